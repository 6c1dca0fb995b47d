/-! READERS: the tape and its tokens -/
def scn (P : Nat → Bool) : Nat → Nat → Nat
  | 0, p => p
  | k + 1, p => if P p = true then scn P k (p + 1) else p
/-- the first place from p on that P leaves, or n -/
def sc (P : Nat → Bool) (n p : Nat) : Nat := scn P (n - p) p
section SCN
variable {P : Nat → Bool} {n p i : Nat}
theorem sc_stop (h : n ≤ p ∨ P p = false) : sc P n p = p := by
  unfold sc
  rcases h with h | h
  · rw [show n - p = 0 by omega]; rfl
  · cases n - p with
    | zero => rfl
    | succ k =>
      show (if P p = true then scn P k (p + 1) else p) = p
      rw [if_neg (by rw [h]; decide)]
theorem sc_step (h : p < n) (hp : P p = true) : sc P n p = sc P n (p + 1) := by
  unfold sc
  rw [show n - p = n - (p + 1) + 1 by omega]
  show (if P p = true then scn P (n - (p + 1)) (p + 1) else p) = _
  rw [if_pos hp]
theorem scn_b : ∀ (k p : Nat), p ≤ scn P k p ∧ scn P k p ≤ p + k ∧ (scn P k p < p + k → P (scn P k p) = false) ∧ (∀ i, p ≤ i → i < scn P k p → P i = true)
  | 0, p => ⟨Nat.le_refl _, Nat.le_refl _, fun h => absurd h (Nat.lt_irrefl _), fun i h1 h2 => absurd h2 (Nat.not_lt.mpr h1)⟩
  | k + 1, p => by
    have ih := scn_b k (p + 1)
    show p ≤ (if P p = true then scn P k (p + 1) else p) ∧ (if P p = true then scn P k (p + 1) else p) ≤ p + (k + 1) ∧ ((if P p = true then scn P k (p + 1) else p) < p + (k + 1) → P (if P p = true then scn P k (p + 1) else p) = false) ∧ (∀ i, p ≤ i → i < (if P p = true then scn P k (p + 1) else p) → P i = true)
    by_cases h : P p = true
    · rw [if_pos h]
      refine ⟨by omega, by omega, fun q => ih.2.2.1 (by omega), fun i h1 h2 => ?_⟩
      by_cases e : i = p
      · rw [e]; exact h
      · exact ih.2.2.2 i (by omega) h2
    · rw [if_neg h]
      refine ⟨Nat.le_refl _, by omega, fun _ => by simpa using h, fun i h1 h2 => absurd h2 (Nat.not_lt.mpr h1)⟩
theorem sc_ge : p ≤ sc P n p := (scn_b _ _).1
theorem sc_le (h : p ≤ n) : sc P n p ≤ n := by
  have := (scn_b (P := P) (n - p) p).2.1
  unfold sc
  omega
theorem sc_end (h : p ≤ n) (hl : sc P n p < n) : P (sc P n p) = false := (scn_b (P := P) (n - p) p).2.2.1 (by unfold sc at hl; omega)
theorem sc_in (h1 : p ≤ i) (h2 : i < sc P n p) : P i = true := (scn_b (P := P) (n - p) p).2.2.2 i h1 h2
theorem sc_id (h : p ≤ n) : sc P n (sc P n p) = sc P n p := by
  have := sc_le (P := P) h
  by_cases e : sc P n p < n
  · exact sc_stop (Or.inr (sc_end h e))
  · exact sc_stop (Or.inl (by omega))
theorem sc_lt (h : p < n) (hp : P p = true) : p < sc P n p := by
  rw [sc_step h hp]
  have := sc_ge (P := P) (n := n) (p := p + 1)
  omega
end SCN
def isB (f : Nat → Int32) (i : Nat) : Bool := decide (f i = 32)
def isDg (f : Nat → Int32) (i : Nat) : Bool := decide (48 ≤ f i) && decide (f i ≤ 57)
def isLt (f : Nat → Int32) (i : Nat) : Bool := decide (97 ≤ f i) && decide (f i ≤ 122)
def bl (f : Nat → Int32) (n p : Nat) : Nat := sc (isB f) n p
theorem isDg_of {f : Nat → Int32} {i : Nat} (h : isDg f i = true) : ∃ d, d ≤ 9 ∧ f i = nI (48 + d) := by
  unfold isDg at h
  rw [Bool.and_eq_true] at h
  obtain ⟨j, h1, h2, h3⟩ := rng (x := f i) (a := 48) (b := 57) (by omega) (by omega) ⟨of_decide_eq_true h.1, of_decide_eq_true h.2⟩
  exact ⟨j - 48, by omega, by rw [h3]; congr 1; omega⟩
theorem isLt_of {f : Nat → Int32} {i : Nat} (h : isLt f i = true) : ∃ d, 97 ≤ d ∧ d ≤ 122 ∧ f i = nI d := by
  unfold isLt at h
  rw [Bool.and_eq_true] at h
  exact rng (x := f i) (a := 97) (b := 122) (by omega) (by omega) ⟨of_decide_eq_true h.1, of_decide_eq_true h.2⟩
theorem isDg_F {f : Nat → Int32} {i : Nat} (h : isDg f i = false) : f i < 48 ∨ 57 < f i := by
  unfold isDg at h
  rcases Bool.and_eq_false_iff.mp h with h | h
  · exact Or.inl (Int32.not_le.mp (of_decide_eq_false h))
  · exact Or.inr (Int32.not_le.mp (of_decide_eq_false h))
theorem isLt_F {f : Nat → Int32} {i : Nat} (h : isLt f i = false) : f i < 97 ∨ 122 < f i := by
  unfold isLt at h
  rcases Bool.and_eq_false_iff.mp h with h | h
  · exact Or.inl (Int32.not_le.mp (of_decide_eq_false h))
  · exact Or.inr (Int32.not_le.mp (of_decide_eq_false h))
theorem isDg_nL {f : Nat → Int32} {i : Nat} (h : isDg f i = true) : isLt f i = false := by
  obtain ⟨d, h1, h2⟩ := isDg_of h
  unfold isLt
  rw [h2, decide_eq_false (show ¬ (97 : Int32) ≤ nI (48 + d) from nI_ge (b := 97) (by omega) (by omega))]
  rfl
/-- numbers -/
def dv (f : Nat → Int32) (a : Nat) : Nat → Nat
  | 0 => 0
  | k + 1 => 10 * dv f a k + (nN (f (a + k)) - 48)
def num (f : Nat → Int32) (n a : Nat) : Nat := if sc (isDg f) n a - a ≤ 5 then dv f a (sc (isDg f) n a - a) else 100000
theorem dv_b {f : Nat → Int32} {a : Nat} : ∀ {k : Nat}, (∀ i, i < k → isDg f (a + i) = true) → dv f a k < 10 ^ k
  | 0, _ => Nat.zero_lt_one
  | k + 1, h => by
    have ih := dv_b (f := f) (a := a) (k := k) (fun i hi => h i (by omega))
    obtain ⟨d, h1, h2⟩ := isDg_of (h k (by omega))
    show 10 * dv f a k + (nN (f (a + k)) - 48) < 10 ^ (k + 1)
    rw [h2, n_cl (by omega), Nat.pow_succ]
    omega
theorem dv_5 {f : Nat → Int32} {a k : Nat} (hk : k ≤ 5) (h : ∀ i, i < k → isDg f (a + i) = true) : dv f a k < 100000 := by
  have h1 := dv_b h
  have h2 : 10 ^ k ≤ 10 ^ 5 := Nat.pow_le_pow_right (by decide) hk
  omega
/-- words -/
def vN (x : Nat → Nat) : Nat → Nat
  | 0 => 0
  | k + 1 => 256 * vN x k + x k
def wv (f : Nat → Int32) (a k : Nat) : Nat := vN (fun i => nN (f (a + i))) k
theorem vN_u {x y : Nat → Nat} : ∀ {k l : Nat}, (∀ i, i < k → 1 ≤ x i ∧ x i ≤ 255) → (∀ i, i < l → 1 ≤ y i ∧ y i ≤ 255) → vN x k = vN y l → k = l ∧ ∀ i, i < k → x i = y i
  | 0, 0, _, _, _ => ⟨rfl, fun i hi => absurd hi (by omega)⟩
  | 0, l + 1, _, hy, h => by
    have h : 0 = 256 * vN y l + y l := h
    have := hy l (by omega)
    omega
  | k + 1, 0, hx, _, h => by
    have h : 256 * vN x k + x k = 0 := h
    have := hx k (by omega)
    omega
  | k + 1, l + 1, hx, hy, h => by
    have h : 256 * vN x k + x k = 256 * vN y l + y l := h
    have h1 := hx k (by omega)
    have h2 := hy l (by omega)
    have e1 : x k = y l := by omega
    have e2 : vN x k = vN y l := by omega
    obtain ⟨e3, e4⟩ := vN_u (k := k) (l := l) (fun i hi => hx i (by omega)) (fun i hi => hy i (by omega)) e2
    subst e3
    refine ⟨rfl, fun i hi => ?_⟩
    by_cases e : i = k
    · rw [e]; exact e1
    · exact e4 i (by omega)
theorem vN_c {x y : Nat → Nat} : ∀ {k : Nat}, (∀ i, i < k → x i = y i) → vN x k = vN y k
  | 0, _ => rfl
  | k + 1, h => by
    show 256 * vN x k + x k = 256 * vN y k + y k
    rw [vN_c (fun i hi => h i (by omega)), h k (by omega)]
theorem vN_b {x : Nat → Nat} : ∀ {k : Nat}, (∀ i, i < k → x i ≤ 255) → vN x k < 256 ^ k
  | 0, _ => Nat.zero_lt_one
  | k + 1, h => by
    have h1 := vN_b (x := x) (k := k) (fun i hi => h i (by omega))
    have h2 := h k (by omega)
    show 256 * vN x k + x k < 256 ^ (k + 1)
    rw [Nat.pow_succ]
    omega
def wdC : List Nat := [499967946343, 1953459300, 1935764581, 6578553, 465726040947, 495874696043, 108230850603124, 512970880104, 1936224112, 2002873972, 31636739359862388, 7300710, 1886352244, 418431069797, 418346264942, 482955846501, 26982, 28530, 6385252, 7237492]
def wdL : List Nat := [5, 4, 4, 3, 5, 5, 6, 5, 4, 4, 7, 3, 4, 5, 5, 5, 2, 2, 3, 3]
def wtk (v : Nat) : Nat → Nat
  | 0 => 22
  | j + 1 => if v = wdC.getD j 0 then j else wtk v j
theorem wtk_n {v : Nat} : ∀ {k j : Nat}, wtk v k = j → j < 20 → j < k ∧ v = wdC.getD j 0
  | 0, j, h, hj => by
    have h : 22 = j := h
    omega
  | k + 1, j, h, hj => by
    have h : (if v = wdC.getD k 0 then k else wtk v k) = j := h
    by_cases e : v = wdC.getD k 0
    · rw [if_pos e] at h
      subst h
      exact ⟨by omega, e⟩
    · rw [if_neg e] at h
      have := wtk_n h hj
      exact ⟨by omega, this.2⟩
theorem wdC_i : ∀ i, i < 20 → ∀ j, j < 20 → wdC.getD i 0 = wdC.getD j 0 → i = j := by decide
theorem wtk_y {v j : Nat} (hv : v = wdC.getD j 0) (hj : j < 20) : ∀ {k : Nat}, j < k → k ≤ 20 → wtk v k = j
  | 0, h, _ => absurd h (by omega)
  | k + 1, h, hk => by
    show (if v = wdC.getD k 0 then k else wtk v k) = j
    by_cases e : v = wdC.getD k 0
    · rw [if_pos e]
      exact wdC_i k (by omega) j hj (e.symm.trans hv)
    · rw [if_neg e]
      have : j ≠ k := fun z => e (by rw [← z]; exact hv)
      exact wtk_y hv hj (by omega) (by omega)
theorem wtk_b {v : Nat} : ∀ {k : Nat}, wtk v k < k ∨ wtk v k = 22
  | 0 => Or.inr rfl
  | k + 1 => by
    show (if v = wdC.getD k 0 then k else wtk v k) < k + 1 ∨ (if v = wdC.getD k 0 then k else wtk v k) = 22
    split
    · exact Or.inl (by omega)
    · rcases wtk_b (v := v) (k := k) with h | h
      · exact Or.inl (by omega)
      · exact Or.inr h
/-- signs -/
def sgT (c : Int32) (eq : Bool) : Nat :=
  if c = 37 then 30 else if c = 42 then 28 else if c = 43 then 26 else if c = 45 then 27 else if c = 47 then 29
  else if c = 59 then 23 else if c = 60 then (if eq = true then 32 else 31) else if c = 61 then 33
  else if c = 62 then (if eq = true then 34 else 35) else if c = 91 then 24 else if c = 93 then 25 else 22
theorem sgT_b {c : Int32} {eq : Bool} : 22 ≤ sgT c eq ∧ sgT c eq ≤ 35 := by
  unfold sgT
  repeat' split
  all_goals omega
theorem sgT_eq {c : Int32} {eq : Bool} (h : sgT c eq = 32 ∨ sgT c eq = 34) : eq = true := by
  unfold sgT at h
  repeat' split at h
  all_goals first | assumption | omega
def eqA (f : Nat → Int32) (n a : Nat) : Bool := decide (a + 1 < n) && decide (f (a + 1) = 61)
/-- the token at a, its end -/
def tkn (f : Nat → Int32) (n a : Nat) : Nat := if n ≤ a then 21 else if isDg f a = true then 20 else if isLt f a = true then (if 8 ≤ sc (isLt f) n a - a then 22 else wtk (wv f a (sc (isLt f) n a - a)) 20) else sgT (f a) (eqA f n a)
def tke (f : Nat → Int32) (n a : Nat) : Nat := if n ≤ a then a else if isDg f a = true then sc (isDg f) n a else if isLt f a = true then sc (isLt f) n a else a + (if sgT (f a) (eqA f n a) = 32 ∨ sgT (f a) (eqA f n a) = 34 then 2 else 1)
section TK
variable {f : Nat → Int32} {n a : Nat}
theorem tke_lt (h : a < n) : a < tke f n a := by
  unfold tke
  rw [if_neg (by omega)]
  by_cases h1 : isDg f a = true
  · rw [if_pos h1]; exact sc_lt h h1
  · rw [if_neg h1]
    by_cases h2 : isLt f a = true
    · rw [if_pos h2]; exact sc_lt h h2
    · rw [if_neg h2]; split <;> omega
theorem tke_le (h : a ≤ n) : tke f n a ≤ n := by
  unfold tke
  by_cases h0 : n ≤ a
  · rw [if_pos h0]; exact h
  · rw [if_neg h0]
    by_cases h1 : isDg f a = true
    · rw [if_pos h1]; exact sc_le h
    · rw [if_neg h1]
      by_cases h2 : isLt f a = true
      · rw [if_pos h2]; exact sc_le h
      · rw [if_neg h2]
        by_cases h3 : sgT (f a) (eqA f n a) = 32 ∨ sgT (f a) (eqA f n a) = 34
        · rw [if_pos h3]
          have := sgT_eq h3
          unfold eqA at this
          rw [Bool.and_eq_true] at this
          have := of_decide_eq_true this.1
          omega
        · rw [if_neg h3]; omega
theorem tke_ge : a ≤ tke f n a := by
  by_cases h : a < n
  · exact Nat.le_of_lt (tke_lt h)
  · unfold tke
    rw [if_pos (by omega)]
    exact Nat.le_refl _
theorem tkn_b : tkn f n a ≤ 35 := by
  unfold tkn
  by_cases h0 : n ≤ a
  · rw [if_pos h0]; omega
  · rw [if_neg h0]
    by_cases h1 : isDg f a = true
    · rw [if_pos h1]; omega
    · rw [if_neg h1]
      by_cases h2 : isLt f a = true
      · rw [if_pos h2]
        split
        · omega
        · rcases wtk_b (v := wv f a (sc (isLt f) n a - a)) (k := 20) with h | h <;> omega
      · rw [if_neg h2]; exact sgT_b.2
/-- a word -/
theorem tkn_w {j : Nat} (hj : j < 20) : tkn f n a = j ↔ (a < n ∧ isLt f a = true ∧ sc (isLt f) n a - a < 8 ∧ wv f a (sc (isLt f) n a - a) = wdC.getD j 0) := by
  unfold tkn
  by_cases h0 : n ≤ a
  · rw [if_pos h0]
    exact ⟨fun z => by omega, fun z => by omega⟩
  · rw [if_neg h0]
    by_cases h1 : isDg f a = true
    · rw [if_pos h1]
      exact ⟨fun z => by omega, fun z => by have := isDg_nL h1; rw [z.2.1] at this; cases this⟩
    · rw [if_neg h1]
      by_cases h2 : isLt f a = true
      · rw [if_pos h2]
        by_cases h3 : 8 ≤ sc (isLt f) n a - a
        · rw [if_pos h3]
          exact ⟨fun z => by omega, fun z => by omega⟩
        · rw [if_neg h3]
          refine ⟨fun z => ⟨by omega, h2, by omega, (wtk_n z hj).2⟩, fun z => wtk_y z.2.2.2 hj hj (Nat.le_refl _)⟩
      · rw [if_neg h2]
        have := sgT_b (c := f a) (eq := eqA f n a)
        exact ⟨fun z => by omega, fun z => absurd z.2.1 h2⟩
theorem tkn_20 : tkn f n a = 20 ↔ (a < n ∧ isDg f a = true) := by
  unfold tkn
  by_cases h0 : n ≤ a
  · rw [if_pos h0]
    exact ⟨fun z => by omega, fun z => by omega⟩
  · rw [if_neg h0]
    by_cases h1 : isDg f a = true
    · rw [if_pos h1]
      exact ⟨fun _ => ⟨by omega, h1⟩, fun _ => rfl⟩
    · rw [if_neg h1]
      refine ⟨fun z => ?_, fun z => absurd z.2 h1⟩
      exfalso
      by_cases h2 : isLt f a = true
      · rw [if_pos h2] at z
        split at z
        · omega
        · rcases wtk_b (v := wv f a (sc (isLt f) n a - a)) (k := 20) with h | h <;> omega
      · rw [if_neg h2] at z
        have := sgT_b (c := f a) (eq := eqA f n a)
        omega
theorem tkn_21 : tkn f n a = 21 ↔ n ≤ a := by
  unfold tkn
  by_cases h0 : n ≤ a
  · rw [if_pos h0]
    exact ⟨fun _ => h0, fun _ => rfl⟩
  · rw [if_neg h0]
    refine ⟨fun z => ?_, fun z => absurd z h0⟩
    exfalso
    by_cases h1 : isDg f a = true
    · rw [if_pos h1] at z; omega
    · rw [if_neg h1] at z
      by_cases h2 : isLt f a = true
      · rw [if_pos h2] at z
        split at z
        · omega
        · rcases wtk_b (v := wv f a (sc (isLt f) n a - a)) (k := 20) with h | h <;> omega
      · rw [if_neg h2] at z
        have := sgT_b (c := f a) (eq := eqA f n a)
        omega
/-- a sign -/
theorem tkn_s (h : 22 < tkn f n a) : a < n ∧ isDg f a = false ∧ isLt f a = false ∧ tkn f n a = sgT (f a) (eqA f n a) ∧ tke f n a = a + (if sgT (f a) (eqA f n a) = 32 ∨ sgT (f a) (eqA f n a) = 34 then 2 else 1) := by
  by_cases h0 : n ≤ a
  · rw [tkn_21.mpr h0] at h; omega
  · by_cases h1 : isDg f a = true
    · rw [tkn_20.mpr ⟨by omega, h1⟩] at h; omega
    · by_cases h2 : isLt f a = true
      · unfold tkn at h
        rw [if_neg h0, if_neg h1, if_pos h2] at h
        split at h
        · omega
        · rcases wtk_b (v := wv f a (sc (isLt f) n a - a)) (k := 20) with h3 | h3 <;> omega
      · refine ⟨by omega, by simpa using h1, by simpa using h2, ?_, ?_⟩
        · unfold tkn
          rw [if_neg h0, if_neg h1, if_neg h2]
        · unfold tke
          rw [if_neg h0, if_neg h1, if_neg h2]
theorem tke_w {j : Nat} (hj : j < 20) (h : tkn f n a = j) : tke f n a = sc (isLt f) n a := by
  obtain ⟨h1, h2, -, -⟩ := (tkn_w hj).mp h
  unfold tke
  rw [if_neg (by omega), if_neg (fun z => by have := isDg_nL z; rw [h2] at this; cases this), if_pos h2]
theorem tke_20 (h : tkn f n a = 20) : tke f n a = sc (isDg f) n a := by
  obtain ⟨h1, h2⟩ := tkn_20.mp h
  unfold tke
  rw [if_neg (by omega), if_pos h2]
end TK
/-- the words of the class's text -/
theorem tx_w : ∀ j, j < 20 → wdL.getD j 0 ≤ 7 ∧ vN (fun i => nN (aTxt (8 * j + i))) (wdL.getD j 0) = wdC.getD j 0 ∧ (∀ i, i < wdL.getD j 0 → 97 ≤ nN (aTxt (8 * j + i)) ∧ nN (aTxt (8 * j + i)) ≤ 122) ∧ (∀ i, i < 8 → wdL.getD j 0 ≤ i → aTxt (8 * j + i) = 32) := by decide +kernel
theorem tx_n : ∀ k, k < 160 → aTxt k = nI (nN (aTxt k)) := by decide +kernel
theorem wm_iff {f : Nat → Int32} {a L j : Nat} (hj : j < 20) (hL : L ≤ 7) (hl : ∀ i, i < L → isLt f (a + i) = true) : ((∀ i, i < L → aTxt (8 * j + i) = f (a + i)) ∧ aTxt (8 * j + L) = 32) ↔ wv f a L = wdC.getD j 0 := by
  obtain ⟨t1, t2, t3, t4⟩ := tx_w j hj
  constructor
  · intro h
    have e : L = wdL.getD j 0 := by
      by_cases h1 : L < wdL.getD j 0
      · have := t3 L h1
        rw [h.2] at this
        have e32 : nN 32 = 32 := rfl
        omega
      · by_cases h2 : wdL.getD j 0 < L
        · have h3 := t4 (wdL.getD j 0) (by omega) (Nat.le_refl _)
          rw [h.1 _ h2] at h3
          obtain ⟨d, d1, d2, d3⟩ := isLt_of (hl _ h2)
          rw [h3] at d3
          have := congrArg nN d3
          rw [n_cl (by omega)] at this
          have e32 : nN 32 = 32 := rfl
          omega
        · omega
    rw [← t2, ← e]
    exact vN_c (fun i hi => by rw [h.1 i hi])
  · intro h
    rw [← t2] at h
    obtain ⟨e1, e2⟩ := vN_u (x := fun i => nN (f (a + i))) (y := fun i => nN (aTxt (8 * j + i))) (fun i hi => by
      obtain ⟨d, d1, d2, d3⟩ := isLt_of (hl i hi)
      show 1 ≤ nN (f (a + i)) ∧ nN (f (a + i)) ≤ 255
      rw [d3, n_cl (by omega)]
      omega) (fun i hi => by
      have := t3 i hi
      show 1 ≤ nN (aTxt (8 * j + i)) ∧ nN (aTxt (8 * j + i)) ≤ 255
      omega) h
    refine ⟨fun i hi => ?_, t4 L (by omega) (by omega)⟩
    obtain ⟨d, d1, d2, d3⟩ := isLt_of (hl i hi)
    have h5 : nN (f (a + i)) = nN (aTxt (8 * j + i)) := e2 i hi
    rw [tx_n _ (by omega), ← h5, d3, n_cl (by omega)]
