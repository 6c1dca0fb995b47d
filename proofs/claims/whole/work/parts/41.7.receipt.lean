/-! receipt -/
abbrev rcT : Type := Nat × Option (Int32 × Nat × (Nat → Nat))
def rcm (r : Nat → Nat) : Nat → Int32
  | 0 => 0
  | i + 1 => rcm r i ||| (1 <<< (nI (r i) &&& 31))
theorem i_dor (c a b : Int32) : c &&& (a ||| b) = (c &&& a) ||| (c &&& b) := by
  apply Int32.toBitVec_inj.mp
  simp only [Int32.toBitVec_and, Int32.toBitVec_or]
  exact BitVec.and_or_distrib_left
theorem rcm_k {c : Int32} {r : Nat → Nat} {T : Nat} (hc : ∀ t, t < T → c &&& ((1 : Int32) <<< (nI t &&& 31)) = (1 : Int32) <<< (nI t &&& 31)) : ∀ {L : Nat}, (∀ i, i < L → r i < T) → c &&& rcm r L = rcm r L
  | 0, _ => by
    show c &&& 0 = 0
    exact Int32.and_zero
  | L + 1, h => by
    show c &&& (rcm r L ||| (1 <<< (nI (r L) &&& 31))) = _
    rw [i_dor, rcm_k hc (fun i hi => h i (by omega)), hc _ (h L (by omega))]
    rfl
theorem c_255 {T : Nat} (hT : T ≤ 8) : ∀ t, t < T → (255 : Int32) &&& ((1 : Int32) <<< (nI t &&& 31)) = (1 : Int32) <<< (nI t &&& 31) := by
  intro t ht
  have : t = 0 ∨ t = 1 ∨ t = 2 ∨ t = 3 ∨ t = 4 ∨ t = 5 ∨ t = 6 ∨ t = 7 := by omega
  rcases this with e | e | e | e | e | e | e | e <;> subst e <;> decide
theorem c_T {T : Nat} (hT : T ≤ 8) : ∀ t, t < T → ((1 : Int32) <<< (nI T &&& 31) - 1) &&& ((1 : Int32) <<< (nI t &&& 31)) = (1 : Int32) <<< (nI t &&& 31) := by
  intro t ht
  have hT' : T = 0 ∨ T = 1 ∨ T = 2 ∨ T = 3 ∨ T = 4 ∨ T = 5 ∨ T = 6 ∨ T = 7 ∨ T = 8 := by omega
  have : t = 0 ∨ t = 1 ∨ t = 2 ∨ t = 3 ∨ t = 4 ∨ t = 5 ∨ t = 6 ∨ t = 7 := by omega
  rcases hT' with e | e | e | e | e | e | e | e | e <;> subst e <;> rcases this with e | e | e | e | e | e | e | e <;> subst e <;> first | decide | omega
def rcF (hit : Nat → (Nat → Nat) → Bool) (L : Nat) (r : Nat → Nat) (s : rcT) : rcT := if hit L r = true then (s.1 + 1, match s.2 with
  | none => some (rcm r L, L, r)
  | some p => some (p.1 &&& rcm r L, p.2.1, p.2.2)) else s
def ritR (T L : Nat) (f : (Nat → Nat) → rcT → rcT) : Nat → (Nat → Nat) → rcT → rcT
  | 0, _, b => b
  | K + 1, r, b => match nxp r T L with
    | none => f r b
    | some p => ritR T L f K (nxr r p) (f r b)
def floR (T : Nat) (f : Nat → (Nat → Nat) → rcT → rcT) : Nat → Nat → rcT → rcT
  | 0, _, b => b
  | j + 1, L, b => floR T f j (L + 1) (if 0 < T then ritR T L (f L) (9 ^ L) (fun _ => 0) b else b)
theorem p94 {L : Nat} (h : L ≤ 4) : 9 ^ L ≤ 6561 := by
  have : L = 0 ∨ L = 1 ∨ L = 2 ∨ L = 3 ∨ L = 4 := by omega
  rcases this with e | e | e | e | e <;> subst e <;> decide
theorem rcF_1 {hit : Nat → (Nat → Nat) → Bool} {L : Nat} {r : Nat → Nat} {s : rcT} : (rcF hit L r s).1 ≤ s.1 + 1 := by
  unfold rcF
  split
  · exact Nat.le_refl _
  · omega
theorem ritR_1 {hit : Nat → (Nat → Nat) → Bool} {T L : Nat} : ∀ {K : Nat} {r : Nat → Nat} {s : rcT}, (ritR T L (rcF hit L) K r s).1 ≤ s.1 + K
  | 0, _, _ => Nat.le_refl _
  | K + 1, r, s => by
    have h1 := rcF_1 (hit := hit) (L := L) (r := r) (s := s)
    show (match nxp r T L with
      | none => rcF hit L r s
      | some p => ritR T L (rcF hit L) K (nxr r p) (rcF hit L r s)).1 ≤ s.1 + (K + 1)
    cases nxp r T L with
    | none =>
      show (rcF hit L r s).1 ≤ _
      omega
    | some p =>
      have h2 := ritR_1 (hit := hit) (T := T) (L := L) (K := K) (r := nxr r p) (s := rcF hit L r s)
      show (ritR T L (rcF hit L) K (nxr r p) (rcF hit L r s)).1 ≤ _
      omega
/-- the class has it so -/
def cRc (m : cM) (P : Int32) (s : rcT) : Prop := m.1 71 15 = nI s.1 ∧ match s.2 with
  | none => s.1 = 0 ∧ bst m none ∧ m.1 72 2 = 0 ∧ m.1 71 16 = 255
  | some p => 1 ≤ s.1 ∧ m.1 71 16 = p.1 ∧ bst m (some (P, p.2.1, fun i => nI (p.2.2 i)))
theorem cRc.co {m m' : cM} {P : Int32} {s : rcT} (h : cRc m P s) (e1 : m'.1 71 = m.1 71) (e2 : m'.1 72 = m.1 72) (e3 : m'.1 73 = m.1 73) : cRc m' P s := by
  obtain ⟨c, o⟩ := s
  refine ⟨by rw [e1]; exact h.1, ?_⟩
  match o, h with
  | none, h => exact ⟨h.2.1, h.2.2.1.co e2 e3, by rw [e2]; exact h.2.2.2.1, by rw [e1]; exact h.2.2.2.2⟩
  | some p, h => exact ⟨h.2.1, by rw [e1]; exact h.2.2.1, h.2.2.2.co e2 e3⟩
section RC
variable {g k : Nat} {m : cM} {S : rS} {B : rB} {w : Nat → Int32} {q T W C Sa R : Nat} {x : Int32}
theorem p_l31 {r : Nat → Nat} {L : Nat} (hL : L ≤ 8) (hr : ∀ i, i < L → m.1 74 i = nI (r i)) : ∀ (j i n : Nat), i + j = L → j + 1 ≤ n → l_31 g n 0 (nI L) (rcm r i) (nI i) m = some (rcm r L) := by
  intro j
  induction j with
  | zero =>
    intro i n hi hn
    obtain ⟨n, rfl⟩ : ∃ n', n = n' + 1 := ⟨n - 1, by omega⟩
    have e : i = L := by omega
    subst e
    rw [l_31, if_pos rfl, if_pos (Int32.le_refl _)]
  | succ j ih =>
    intro i n hi hn
    obtain ⟨n, rfl⟩ : ∃ n', n = n' + 1 := ⟨n - 1, by omega⟩
    have r1 := hr i (by omega)
    rw [l_31, if_pos rfl, if_neg (nI_ge (by omega) (by omega)), if_pos (k_in (by omega) (by omega)), k_cl (by omega), r1, show nI i + 1 = nI (i + 1) from nI_1 i]
    exact ih (i + 1) n (by omega) (by omega)
theorem l30_3 {n : Nat} {a b x2 x3 x4 : Int32} : l_30 g (n + 1) 3 a b x2 x3 x4 m = l_30 g n 0 a b (x2 + 1) 0 0 m := by
  rw [l_30, if_neg (by decide), if_neg (by decide), if_neg (by decide), if_pos rfl]
theorem l30_z {n : Nat} {a b x2 x4 : Int32} : l_30 g (n + 2) 1 a b x2 0 x4 m = l_30 g n 0 a b (x2 + 1) 0 0 m := by
  rw [l_30, if_neg (by decide), if_pos rfl, if_pos rfl, l30_3]
theorem p_l30b {L D fr : Nat} {P x2 : Int32} {hit : Nat → (Nat → Nat) → Bool} (hg : 2000 ≤ g) (hL1 : 1 ≤ L) (hL : L ≤ 4) (h5 : w 5 = nI fr) (hfr : fr ≤ 9999) (hhit : ∀ L r, hit L r = decide (nI (coN w (fun _ => 0) 0 (sN (fun i => dO B w q (r i) D) L) fr) = P)) : ∀ (K n : Nat) (m : cM) (r : Nat → Nat) (s : rcT) (c : Nat), 9 ^ L ≤ K + vl r L → 2 * K + 3 ≤ n → c ≤ vl r L → cx m B w q x T W C Sa R k → (∀ t, t < T → m.1 75 t = nI (dO B w q t D)) → srt r T L → (∀ i, i < L → m.1 74 i = nI (r i)) → cRc m P s → ∃ n' m', n ≤ n' + (2 * K + 2) ∧ l_30 g n 1 P x2 (nI L) 1 (nI c) m = l_30 g n' 0 P x2 (nI (L + 1)) 0 0 m' ∧ ms m m' ∧ (∀ a, a ≠ 71 → a ≠ 72 → a ≠ 73 → a ≠ 74 → m'.1 a = m.1 a) ∧ cRc m' P (ritR T L (rcF hit L) K r s) := by
  have h9 := p94 hL
  intro K
  induction K with
  | zero =>
    intro n m r b c hK hn hc h h75 hs h74 hb
    have hT8 := h.2.1.1.2
    have := vl_b (r := r) (n := L) (fun j hj => by have := hs.1 j hj; omega)
    omega
  | succ K ih =>
    intro n m r s c hK hn hc h h75 hs h74 hb
    obtain ⟨n, rfl⟩ : ∃ n', n = n' + 2 := ⟨n - 2, by omega⟩
    have hV := h.2.1
    have hT8 := hV.1.2
    have hvb := vl_b (r := r) (n := L) (fun j hj => by have := hs.1 j hj; omega)
    have hsb := sN_b (f := fun i => dO B w q (r i) D) (c := 9999) (n := L) (fun j hj => (dO_b hV (hs.1 j hj)).2)
    have hsb2 : L * 9999 ≤ 4 * 9999 := Nat.mul_le_mul_right _ hL
    have hs1 : sN (fun i => dO B w q (r i) D) L ≠ 0 := by
      have h1 := sN_le (f := fun i => dO B w q (r i) D) (n := L) (j := 0) (by omega)
      have h2 := (dO_b (B := B) (q := q) (d := D) hV (hs.1 0 (by omega))).1
      omega
    have p20 := p_l20 (g := g) (m := m) (B := B) (w := w) (q := q) (T := T) (r := r) (L := L) (D := D) (by omega) hT8 (fun i hi => ⟨h74 i hi, hs.1 i hi⟩) h75 L 0 g (by omega) (by omega)
    have p20 : d_20 g (nI L) m = some (nI (sN (fun i => dO B w q (r i) D) L)) := p20
    have p95 := p_95 (g := g) (m := m) (w := w) (s := sN (fun i => dO B w q (r i) D) L) (fr := fr) hV h.cy.1 h.cy.2.2.1 h5 hfr (by omega)
    rw [if_neg hs1] at p95
    -- one row
    have one : ∃ m1, l_30 g (n + 2) 1 P x2 (nI L) 1 (nI c) m = l_30 g (n + 1) 2 P x2 (nI L) 1 (nI c) m1 ∧ ms m m1 ∧ (∀ a, a ≠ 71 → a ≠ 72 → a ≠ 73 → m1.1 a = m.1 a) ∧ cRc m1 P (rcF hit L r s) := by
      rw [l_30, if_neg (by decide), if_pos rfl, if_neg (show ¬ (1 : Int32) = 0 by decide), if_neg (show ¬ (1000000 : Int32) ≤ nI c from nI_ge (b := 1000000) (by omega) (by omega)), p20, Option.bind_some, p95, Option.bind_some]
      unfold rcF
      rw [hhit]
      by_cases hk : nI (coN w (fun _ => 0) 0 (sN (fun i => dO B w q (r i) D) L) fr) = P
      · rw [if_neg (fun z => z hk), if_pos (decide_eq_true hk)]
        obtain ⟨cc, o⟩ := s
        have hb15 : m.1 71 15 = nI cc := hb.1
        have fin : ∀ (b : bO) (b' : Int32 × Nat × (Nat → Int32)) (v16 v16' : Int32) (o' : Option (Int32 × Nat × (Nat → Nat))), bst m b → off b P L (fun i => nI (r i)) = some b' → m.1 71 16 = v16 → v16 &&& rcm r L = v16' → (∃ p, o' = some p ∧ p.1 = v16' ∧ b' = (P, p.2.1, fun i => nI (p.2.2 i))) → ∃ m1, ((d_2 g P (nI L) m).bind (fun z_20 => (some (cW z_20 71 15 ((z_20.1 71 15) + 1))).bind (fun mm_24 => (d_31 g (nI L) mm_24).bind (fun z_26 => (some (cW mm_24 71 16 ((mm_24.1 71 16) &&& z_26))).bind (fun mm_30 => l_30 g (n + 1) 2 P x2 (nI L) 1 (nI c) mm_30))))) = l_30 g (n + 1) 2 P x2 (nI L) 1 (nI c) m1 ∧ ms m m1 ∧ (∀ a, a ≠ 71 → a ≠ 72 → a ≠ 73 → m1.1 a = m.1 a) ∧ cRc m1 P (cc + 1, o') := by
          intro b b' v16 v16' o' hbb hoff h16 hand ho'
          obtain ⟨p, rfl, hp1, hp2⟩ := ho'
          obtain ⟨m2, z1, z2, z3, z4⟩ := p_2 (g := g) (m := m) (v := P) (L := L) (b := b) (by omega) hbb
          have z2 := z2.oc (r' := fun i => nI (r i)) (fun i hi => h74 i hi)
          rw [hoff] at z2
          have f71 : m2.1 71 = m.1 71 := z4 71 (by decide) (by decide)
          have f74 : m2.1 74 = m.1 74 := z4 74 (by decide) (by decide)
          have p31 := p_l31 (g := g) (m := cW m2 71 15 (nI (cc + 1))) (r := r) (L := L) (by omega) (fun i hi => by rw [cW_b (by decide), f74]; exact h74 i hi) L 0 g (by omega) (by omega)
          have p31 : d_31 g (nI L) (cW m2 71 15 (nI (cc + 1))) = some (rcm r L) := p31
          refine ⟨cW (cW m2 71 15 (nI (cc + 1))) 71 16 v16', ?_, (z3.tr (ms.W (by omega))).tr (ms.W (by omega)), fun a a1 a2 a3 => by rw [cW_b a1, cW_b a1]; exact z4 a a2 a3, ⟨by rw [cW_k (by decide), cW_s], by omega, ?_, ?_⟩⟩
          · rw [z1, Option.bind_some, Option.bind_some, f71, hb15, show nI cc + 1 = nI (cc + 1) from nI_1 cc, p31, Option.bind_some, Option.bind_some, cW_k (by decide), f71, h16, hand]
          · rw [cW_s, hp1]
          · rw [hp2] at z2
            exact z2.co (by rw [cW_b (by decide), cW_b (by decide)]) (by rw [cW_b (by decide), cW_b (by decide)])
        match o, hb with
        | none, hb => exact fin none _ 255 (rcm r L) _ hb.2.2.1 rfl hb.2.2.2.2 (rcm_k (c_255 hT8) hs.1) ⟨_, rfl, rfl, rfl⟩
        | some p, hb => exact fin _ _ p.1 _ _ hb.2.2.2 (if_neg (show ¬ P < P from Int32.lt_irrefl)) hb.2.2.1 rfl ⟨_, rfl, rfl, rfl⟩
      · rw [if_pos hk, if_neg (fun z => hk (of_decide_eq_true z))]
        exact ⟨m, rfl, ms.rf _, fun _ _ _ _ => rfl, hb⟩
    obtain ⟨m1, o1, o2, o3, o5⟩ := one
    have h1 := h.ms o2
    have o4 : m1.1 74 = m.1 74 := o3 74 (by decide) (by decide) (by decide)
    obtain ⟨m2, u1, u2, u3, u4⟩ := p_17 (g := g) (m := m1) (T := T) (r := r) (L := L) (by omega) (by omega) h1.cy.1 h1.t hT8 (fun d hd => ⟨by rw [o4]; exact h74 d hd, hs.1 d hd⟩)
    have e2 : l_30 g (n + 1) 2 P x2 (nI L) 1 (nI c) m1 = l_30 g n 1 P x2 (nI L) (match nxp r T L with
        | none => 0
        | some _ => 1) (nI (c + 1)) m2 := by
      rw [l_30, if_neg (by decide), if_neg (by decide), if_pos rfl, u1, Option.bind_some, show nI c + 1 = nI (c + 1) from nI_1 c]
      cases nxp r T L <;> rfl
    have fr2 : ∀ a, a ≠ 71 → a ≠ 72 → a ≠ 73 → a ≠ 74 → m2.1 a = m.1 a := fun a a1 a2 a3 a4 => (u3 a a4).trans (o3 a a1 a2 a3)
    have b2 : cRc m2 P (rcF hit L r s) := o5.co (u3 71 (by decide)) (u3 72 (by decide)) (u3 73 (by decide))
    have er : ritR T L (rcF hit L) (K + 1) r s = match nxp r T L with
      | none => rcF hit L r s
      | some p => ritR T L (rcF hit L) K (nxr r p) (rcF hit L r s) := rfl
    rw [o1, e2, er]
    cases hp : nxp r T L with
    | none =>
      obtain ⟨n, rfl⟩ : ∃ n', n = n' + 2 := ⟨n - 2, by omega⟩
      refine ⟨n, m2, by omega, ?_, o2.tr u2, fr2, b2⟩
      show l_30 g (n + 2) 1 P x2 (nI L) 0 (nI (c + 1)) m2 = _
      rw [l30_z, show nI L + 1 = nI (L + 1) from nI_1 L]
    | some p =>
      rw [hp] at u4
      obtain ⟨p1, p2⟩ := nxp_lt hp
      have hv := vl_n (r := r) (p := p) (n := L) p1 (fun j hj => by have := hs.1 j hj; omega)
      have f75 := fr2 75 (by decide) (by decide) (by decide) (by decide)
      obtain ⟨n', m', z1, z2, z3, z4, z5⟩ := ih n m2 (nxr r p) (rcF hit L r s) (c + 1) (by omega) (by omega) (by omega) (h1.ms u2) (fun t ht => by rw [f75]; exact h75 t ht) (hs.n hp) u4 b2
      exact ⟨n', m', by omega, z2, (o2.tr u2).tr z3, fun a a1 a2 a3 a4 => (z4 a a1 a2 a3 a4).trans (fr2 a a1 a2 a3 a4), z5⟩
end RC
