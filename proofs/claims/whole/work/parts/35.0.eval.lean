/-! WHAT A THING COMES TO: percent of a day, words, rules -/
abbrev nN (x : Int32) : Nat := x.toNatClampNeg
/-- percent of a day among the first k sales -/
def pcL (w : Nat → Int32) (d : Int32) : Nat → Int32
  | 0 => 0
  | k + 1 => if w (108 + 3 * k) ≤ d ∧ d ≤ w (109 + 3 * k) then w (110 + 3 * k) else pcL w d k
def cdf (sg : Nat → Int32) (r : Nat) : Nat → Nat := fun j => nN (sg (400 * r + j))
def wdF (w : Nat → Int32) (pc : Int32) (t d l : Nat) : Nat → Int64 := fun j => match j with
  | 0 => (nI t).toInt64
  | 1 => (w (80 + 2 * t)).toInt64
  | 2 => pc.toInt64
  | 3 => (nI d).toInt64
  | 4 => (nI l).toInt64
  | 5 => (w (16 + 5 * t)).toInt64
  | 6 => (w (18 + 5 * t)).toInt64
  | _ => (w (81 + 2 * t)).toInt64
def evN (sg : Nat → Int32) (r : Nat) (wd : Nat → Int64) (a b : Int32) : Int64 := (ru_s (cdf sg r) wd (nN b - nN a) (nN a) []).headD 0
def su (sg cl : Nat → Int32) (r : Nat) (wd : Nat → Int64) : Nat → Nat → Int64
  | 0, _ => 0
  | n + 1, k => if cl (48 * r + 4 * k + 2) < 0 ∨ evN sg r wd (cl (48 * r + 4 * k + 1)) (cl (48 * r + 4 * k + 3)) = 1 then evN sg r wd (cl (48 * r + 4 * k)) (cl (48 * r + 4 * k + 1)) else su sg cl r wd n (k + 1)
def cl9 (v : Int64) : Nat := if v < 1 then 1 else if 9999 < v then 9999 else v.toNatClampNeg
/-- the rules' rows: signs, clauses, how many -/
abbrev rB : Type := (Nat → Int32) × (Nat → Int32) × (Nat → Int32)
/-- how dear: rule (0: none), thing, day, looks -/
def dn (B : rB) (w : Nat → Int32) (q t d l : Nat) : Nat := match q with
  | 0 => nN (w (80 + 2 * t)) - nN (w (80 + 2 * t)) * nN (pcL w (nI d) (nN (w 10))) / 100
  | r + 1 => cl9 (su B.1 B.2.1 r (wdF w (pcL w (nI d) (nN (w 10))) t d l) (nN (B.2.2 r)) 0)
theorem ru_s_congr {c : Nat → Nat} {wd wd' : Nat → Int64} (hw : ∀ j, j < 8 → wd j = wd' j) : ∀ (k i : Nat) (st : List Int64) (ts ts' : List Bool), ru_c c k i ts = some ts' → ru_s c wd k i st = ru_s c wd' k i st := by
  intro k
  induction k with
  | zero => intro i st ts ts' _; rfl
  | succ k ih =>
    intro i st ts ts' h
    unfold ru_c at h
    split at h
    case isFalse => cases h
    cases ht : ru_t (c i) ts with
    | none => rw [ht] at h; cases h
    | some ts1 =>
      rw [ht] at h
      have h : ru_c c k (i + 1) ts1 = some ts' := h
      have e : ru_v (c i) wd st = ru_v (c i) wd' st := by
        unfold ru_v
        split
        · rfl
        · rename_i h0
          split
          · rename_i h1
            unfold ru_t at ht
            rw [if_neg h0, if_pos h1] at ht
            split at ht
            · rename_i h8
              rw [hw _ h8]
            · cases ht
          · rfl
      show ru_s c wd k (i + 1) (ru_v (c i) wd st) = ru_s c wd' k (i + 1) (ru_v (c i) wd' st)
      rw [e]
      exact ih _ _ _ _ h
theorem i64_T (v : Int64) (h : ¬ v < 0) : v.toInt32 = nI v.toNatClampNeg := by
  show v.toInt32 = Int32.ofNat v.toInt.toNat
  have h0 : 0 ≤ v.toInt := by
    rw [Int64.lt_iff_toInt_lt] at h
    have e : (0 : Int64).toInt = 0 := by decide
    omega
  apply Int32.toInt_inj.mp
  rw [Int64.toInt_toInt32, Int32.toInt_ofNat', Int.toNat_of_nonneg h0]
theorem i64_nlt {x y : Int64} : ¬ x < y ↔ y ≤ x := by
  rw [Int64.lt_iff_toInt_lt, Int64.le_iff_toInt_le]
  omega
theorem cl9_b (v : Int64) : 1 ≤ cl9 v ∧ cl9 v ≤ 9999 := by
  unfold cl9
  split
  · decide
  · rename_i h
    split
    · decide
    · rename_i h9
      have h1 := Int64.le_iff_toInt_le.mp (i64_nlt.mp h)
      have h2 := Int64.le_iff_toInt_le.mp (i64_nlt.mp h9)
      have e1 : (1 : Int64).toInt = 1 := by decide
      have e9 : (9999 : Int64).toInt = 9999 := by decide
      show 1 ≤ v.toInt.toNat ∧ v.toInt.toNat ≤ 9999
      omega
theorem cl9_C (v : Int64) : (if (if v < (9999 : Int64) then v else (9999 : Int64)) < (1 : Int64) then (1 : Int64) else (if v < (9999 : Int64) then v else (9999 : Int64))).toInt32 = nI (cl9 v) := by
  have e1 : (1 : Int64).toInt = 1 := by decide
  have e0 : (0 : Int64).toInt = 0 := by decide
  have e9 : (9999 : Int64).toInt = 9999 := by decide
  unfold cl9
  by_cases h : v < 1
  · have h9 : v < 9999 := by rw [Int64.lt_iff_toInt_lt] at h ⊢; omega
    rw [if_pos h9, if_pos h, if_pos h]
    decide
  · rw [if_neg h]
    by_cases h9 : v < 9999
    · rw [if_pos h9, if_neg h, if_neg (by rw [Int64.lt_iff_toInt_lt] at h9 ⊢; omega)]
      exact i64_T v (by rw [Int64.lt_iff_toInt_lt] at h ⊢; omega)
    · rw [if_neg h9, if_neg (by decide)]
      by_cases h8 : (9999 : Int64) < v
      · rw [if_pos h8]; decide
      · rw [if_neg h8]
        have e : v = 9999 := by apply Int64.toInt_inj.mp; rw [Int64.lt_iff_toInt_lt] at h9 h8; omega
        rw [e]; decide
theorem cl9_R (v : Int64) {S : rS} : (if 0 ≤ (lg_cmp v (1 : Int64)) then (if (lg_cmp v (9999 : Int64)) ≤ 0 then some ((v.toInt32), S) else some ((9999 : Int32), S)) else some ((1 : Int32), S)) = some (nI (cl9 v), S) := by
  have e1 : (1 : Int64).toInt = 1 := by decide
  have e0 : (0 : Int64).toInt = 0 := by decide
  simp only [lg_cmp_ge, lg_cmp_le]
  unfold cl9
  by_cases h : v < 1
  · rw [if_neg (fun q => i64_nlt.mpr q h), if_pos h]; rfl
  · rw [if_pos (i64_nlt.mp h), if_neg h]
    by_cases h9 : 9999 < v
    · rw [if_neg (fun q => i64_nlt.mpr q h9), if_pos h9]; rfl
    · rw [if_pos (i64_nlt.mp h9), if_neg h9, i64_T v (by rw [Int64.lt_iff_toInt_lt] at h ⊢; omega)]
/-- rule r as the reference has it: K clauses, len signs -/
def rgR (B : rB) (r K len : Nat) : Prop := K ≤ 12 ∧ len ≤ 400 ∧ B.2.2 r = nI K ∧ (∀ j, j < len → B.1 (400 * r + j) = nI (cdf B.1 r j) ∧ cdf B.1 r j < 2147483648) ∧ ∀ k, k < K → ∃ s0 s1 t1 : Nat, B.2.1 (48 * r + 4 * k) = nI s0 ∧ B.2.1 (48 * r + 4 * k + 1) = nI s1 ∧ B.2.1 (48 * r + 4 * k + 3) = nI t1 ∧ s0 ≤ s1 ∧ s1 ≤ t1 ∧ t1 ≤ len ∧ ru_c (cdf B.1 r) (s1 - s0) s0 [] = some [false] ∧ ((B.2.1 (48 * r + 4 * k + 2) = -nI 1 ∧ t1 = s1) ∨ (B.2.1 (48 * r + 4 * k + 2) = nI s1 ∧ s1 < t1 ∧ ru_c (cdf B.1 r) (t1 - s1) s1 [] = some [true]))
/-- rule r as the class has it -/
def rgC (M : Nat → Nat → Int32) (B : rB) (r K len : Nat) : Prop := M (35 + 6 * r) 6 = nI K ∧ (∀ j, j < len → M (35 + 6 * r + 1) j = tr (cdf B.1 r j)) ∧ ∀ k, k < K → M (35 + 6 * r + 2) k = B.2.1 (48 * r + 4 * k) ∧ M (35 + 6 * r + 3) k = B.2.1 (48 * r + 4 * k + 1) ∧ M (35 + 6 * r + 4) k = B.2.1 (48 * r + 4 * k + 3)
theorem neg1_lt : (-nI 1 : Int32) < nI 0 := by decide
section EV
variable {g : Nat}
theorem q_l195 {w : Nat → Int32} {S : rS} {d x4 : Int32} {Sa : Nat} (hS : S.2.1 20 = w) (h10 : w 10 = nI Sa) (hSa : Sa ≤ 4) : ∀ (j k n : Nat), k + j = Sa → 2 * j + 1 ≤ n → l_195 g n 0 d (pcL w d k) (nI k) 0 S = some (pcL w d Sa, S) := by
  intro j
  induction j with
  | zero =>
    intro k n hk hn
    obtain ⟨n, rfl⟩ : ∃ n', n = n' + 1 := ⟨n - 1, by omega⟩
    have e : k = Sa := by omega
    subst e
    simp (disch := omega) only [l_195, if_true, hS, lit_nI, k_in, k_cl, h10, Int32.le_refl]
  | succ j ih =>
    intro k n hk hn
    obtain ⟨n, rfl⟩ : ∃ n', n = n' + 2 := ⟨n - 2, by omega⟩
    have e := ih (k + 1) n (by omega) (by omega)
    have st : ∀ x, pcL w d (k + 1) = x → ∀ y, l_195 g (n + 1) 1 d x (nI k) y S = some (pcL w d Sa, S) := by
      intro x hx y
      subst hx
      simp only [l_195, if_true, Nat.one_ne_zero, if_false]
      rw [nI_1]
      exact e
    rw [l_195]
    simp (disch := omega) only [if_true, hS, lit_nI, k_in, k_cl, h10, k_leF, if_false, nI_add, pk_mul]
    rw [show 108 + 3 * k + 1 = 109 + 3 * k by omega, show 108 + 3 * k + 2 = 110 + 3 * k by omega]
    split
    · rename_i h
      apply st
      show (if _ then _ else _) = _
      rw [if_neg (fun q => absurd h (Int32.not_lt.mpr q.1))]
    · rename_i h
      split
      · rename_i h2
        apply st
        show (if _ then _ else _) = _
        rw [if_neg (fun q => absurd h2 (Int32.not_lt.mpr q.2))]
      · rename_i h2
        apply st
        show (if _ then _ else _) = _
        rw [if_pos ⟨Int32.not_lt.mp h, Int32.not_lt.mp h2⟩]
theorem q_195 {S : rS} {d : Int32} {Sa : Nat} (hg : 100 ≤ g) (h10 : S.2.1 20 10 = nI Sa) (hSa : Sa ≤ 4) : d_195 g d S = some (pcL (S.2.1 20) d Sa, S) := by
  unfold d_195
  exact q_l195 (x4 := 0) rfl h10 hSa Sa 0 g (by omega) (by omega)
theorem cO_of {m m' : cM} {p c : Nat} (h : m'.2.2 = m.2.2) : cO m' p c = cO m p c := by
  unfold cO
  rw [h]
theorem p_138 {x a b : Int32} {m : cM} : d_138 g x a b m = some (if a ≤ x ∧ x ≤ b then 1 else 0) := by
  unfold d_138
  by_cases h1 : x < a
  · rw [if_pos h1, if_neg (fun q => absurd h1 (Int32.not_lt.mpr q.1))]
  · rw [if_neg h1]
    by_cases h2 : b < x
    · rw [if_pos h2, if_neg (fun q => absurd h2 (Int32.not_lt.mpr q.2))]
    · rw [if_neg h2, if_pos ⟨Int32.not_lt.mp h1, Int32.not_lt.mp h2⟩]
theorem p_l57 {w : Nat → Int32} {m : cM} {p : Nat} {d : Int32} {Sa : Nat} (hO : cO m p 5 = true) (h11 : m.1 p 11 = nI Sa) (hSa : Sa ≤ 4) (hsl : ∀ s, s < Sa → m.1 (p + 6) s = w (108 + 3 * s) ∧ m.1 (p + 7) s = w (109 + 3 * s) ∧ m.1 (p + 8) s = w (110 + 3 * s)) : ∀ (j k n : Nat), k + j = Sa → 2 * j + 1 ≤ n → l_57 g n 0 p d (pcL w d k) (nI k) m = some (pcL w d Sa) := by
  intro j
  induction j with
  | zero =>
    intro k n hk hn
    obtain ⟨n, rfl⟩ : ∃ n', n = n' + 1 := ⟨n - 1, by omega⟩
    have e : k = Sa := by omega
    subst e
    simp only [l_57, if_true, hO, h11, Int32.le_refl]
  | succ j ih =>
    intro k n hk hn
    obtain ⟨n, rfl⟩ : ∃ n', n = n' + 2 := ⟨n - 2, by omega⟩
    have e := ih (k + 1) n (by omega) (by omega)
    obtain ⟨s1, s2, s3⟩ := hsl k (by omega)
    have st : ∀ x, pcL w d (k + 1) = x → l_57 g (n + 1) 1 p d x (nI k) m = some (pcL w d Sa) := by
      intro x hx
      subst hx
      simp only [l_57, if_true, Nat.one_ne_zero, if_false]
      rw [nI_1]
      exact e
    rw [l_57]
    simp (disch := omega) only [if_true, hO, h11, k_in, k_cl, k_leF, if_false, s1, s2, s3, p_138, Option.bind_some]
    by_cases h : w (108 + 3 * k) ≤ d ∧ d ≤ w (109 + 3 * k)
    · rw [if_pos h, if_neg (by decide)]
      apply st
      show (if _ then _ else _) = _
      rw [if_pos h]
    · rw [if_neg h, if_pos rfl]
      apply st
      show (if _ then _ else _) = _
      rw [if_neg h]
theorem p_57 {w : Nat → Int32} {m : cM} {p : Nat} {d : Int32} {Sa : Nat} (hg : 100 ≤ g) (hO : cO m p 5 = true) (h11 : m.1 p 11 = nI Sa) (hSa : Sa ≤ 4) (hsl : ∀ s, s < Sa → m.1 (p + 6) s = w (108 + 3 * s) ∧ m.1 (p + 7) s = w (109 + 3 * s) ∧ m.1 (p + 8) s = w (110 + 3 * s)) : d_57 g p d m = some (pcL w d Sa) := by
  unfold d_57
  exact p_l57 hO h11 hSa hsl Sa 0 g (by omega) (by omega)
end EV
