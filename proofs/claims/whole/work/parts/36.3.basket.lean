/-! the basket: how many, what they come to, what it costs -/
theorem sN_b {f : Nat → Nat} {c : Nat} : ∀ {n : Nat}, (∀ j, j < n → f j ≤ c) → sN f n ≤ n * c
  | 0, _ => Nat.zero_le _
  | n + 1, h => by
    have h1 := sN_b (n := n) (fun j hj => h j (by omega))
    have h2 := h n (by omega)
    show sN f n + f n ≤ (n + 1) * c
    rw [Nat.succ_mul]
    omega
theorem cA_of {m : cM} {a n i : Nat} (ha : a < 406) (hk : kd a = (0, n)) (hi : i < n) (hn : n < 2147483648) : cA m a (nI i) = true := by
  unfold cA
  rw [hk, k_in hi hn, decide_eq_true (show a < 406 + 13 * m.2.2.2 by omega)]
  rfl
def bk (w : Nat → Int32) (t : Nat) : Nat := nN (w (17 + 5 * t))
def bM (w : Nat → Int32) (T : Nat) : Nat := sN (bk w) T
def bS (B : rB) (w : Nat → Int32) (q T D : Nat) : Nat := sN (fun t => bk w t * dO B w q t D) T
def lr (w : Nat → Int32) (i : Nat) : Nat := nN (w (64 + i))
def cN (B : rB) (w : Nat → Int32) (q T D L free : Nat) : Nat := if bM w T = 0 then 0 else coN w (lr w) L (bS B w q T D) free
section BA
variable {g : Nat} {m : cM} {S : rS} {B : rB} {w : Nat → Int32} {q T W C Sa R k a1 : Nat} {x : Int32}
theorem bk_of (h : stV w T C k) {t : Nat} (ht : t < T) : w (17 + 5 * t) = nI (bk w t) ∧ bk w t ≤ 9 := by
  obtain ⟨s, b, h1, h2, h3, h4⟩ := h.2.2.2.1 t ht
  unfold bk nN
  rw [h4, k_cl (by omega)]
  exact ⟨rfl, by omega⟩
theorem bM_b (h : stV w T C k) (hT : T ≤ 8) : bM w T ≤ 72 := by
  have h1 := sN_b (f := bk w) (c := 9) (n := T) (fun j hj => (bk_of h hj).2)
  show sN (bk w) T ≤ 72
  omega
theorem bS_b (hV : shV w T W C Sa) (h : stV w T C k) {D : Nat} : bS B w q T D ≤ 719928 := by
  have hT := hV.1.2
  have h1 := sN_b (f := fun t => bk w t * dO B w q t D) (c := 9 * 9999) (n := T) (fun j hj => Nat.mul_le_mul (bk_of h hj).2 (dO_b hV hj).2)
  show sN _ T ≤ 719928
  omega
theorem q_l209 (hS : S.2.1 20 = w) (hT : w 1 = nI T) (hT8 : T ≤ 8) (hb : ∀ t, t < T → w (17 + 5 * t) = nI (bk w t)) : ∀ (j i n : Nat), i + j = T → j + 1 ≤ n → l_209 g n 0 (nI (sN (bk w) i)) (nI i) S = some (nI (bM w T), S) := by
  intro j
  induction j with
  | zero =>
    intro i n hi hn
    obtain ⟨n, rfl⟩ : ∃ n', n = n' + 1 := ⟨n - 1, by omega⟩
    have e : i = T := by omega
    subst e
    simp (disch := omega) only [l_209, if_true, lit_nI, k_in, k_cl, hS, hT, Int32.le_refl]
    rfl
  | succ j ih =>
    intro i n hi hn
    obtain ⟨n, rfl⟩ : ∃ n', n = n' + 1 := ⟨n - 1, by omega⟩
    have k1 : d_191 g (nI i) (nI 1) S = some (nI (bk w i), S) := by rw [q_191 (by omega) (by omega), hS, show 16 + 5 * i + 1 = 17 + 5 * i by omega, hb i (by omega)]
    rw [l_209]
    simp (disch := omega) only [if_true, lit_nI, k_in, k_cl, hS, hT, k_leF, if_false, k1, Option.bind_some, nI_add]
    exact ih (i + 1) n (by omega) (by omega)
theorem q_209 (hg : 100 ≤ g) (hS : S.2.1 20 = w) (hT : w 1 = nI T) (hT8 : T ≤ 8) (hb : ∀ t, t < T → w (17 + 5 * t) = nI (bk w t)) : d_209 g S = some (nI (bM w T), S) := by
  unfold d_209
  exact q_l209 hS hT hT8 hb T 0 g (by omega) (by omega)
theorem p_l73 {f : Nat → Int32} (hU : cU a1 7 = true) (hf : m.1 (a1 + 1) = f) : ∀ (j i n : Nat), i + j = 8 → j + 1 ≤ n → l_73 g n 0 a1 (sm f i) (nI i) m = some (sm f 8) := by
  intro j
  induction j with
  | zero =>
    intro i n hi hn
    obtain ⟨n, rfl⟩ : ∃ n', n = n' + 1 := ⟨n - 1, by omega⟩
    have e : i = 8 := by omega
    subst e
    simp (disch := omega) only [l_73, if_true, lit_nI, Int32.le_refl]
  | succ j ih =>
    intro i n hi hn
    obtain ⟨n, rfl⟩ : ∃ n', n = n' + 1 := ⟨n - 1, by omega⟩
    rw [l_73]
    simp (disch := omega) only [if_true, lit_nI, k_in, k_cl, hU, hf, k_leF, if_false, nI_add]
    exact ih (i + 1) n (by omega) (by omega)
theorem p_73 (hg : 100 ≤ g) (hU : cU a1 7 = true) (hT8 : T ≤ 8) (hR : stR m.1 a1 w T) (hb : ∀ t, t < T → w (17 + 5 * t) = nI (bk w t)) : d_73 g a1 m = some (nI (bM w T)) := by
  unfold d_73
  have e := p_l73 (g := g) (m := m) (f := m.1 (a1 + 1)) hU rfl 8 0 g (by omega) (by omega)
  have e2 : sm (m.1 (a1 + 1)) 8 = nI (bM w T) := by
    rw [sm_0 (n := T) hT8 (fun j h1 h2 => (hR.2.2.2.1 j h1 h2).1)]
    exact sm_N (fun j hj => by
      rw [← hb j hj]
      exact hR.ba hj)
  rw [← e2]
  exact e
theorem q_l210 (hg : 2000 ≤ g) (hV : shV w T W C Sa) (hR : rbR m.1 B R) (hq : q ≤ R) (hL : ∀ t, t < T → bd (w (19 + 5 * t)) 99) {D : Nat} (hD : w 7 = nI D) (hb : ∀ t, t < T → w (17 + 5 * t) = nI (bk w t)) : ∀ (j i n : Nat) (S : rS), i + j = T → j + 1 ≤ n → rx S B w q x R → ∃ S', l_210 g n 0 (nI (sN (fun t => bk w t * dO B w q t D) i)) (nI i) S = some (nI (bS B w q T D), S') ∧ rc [18] [] S S' ∧ S'.2.2.2.2 = S.2.2.2.2 := by
  intro j
  have hT8 := hV.1.2
  have hT := hV.1.1
  induction j with
  | zero =>
    intro i n S hi hn hx
    obtain ⟨n, rfl⟩ : ∃ n', n = n' + 1 := ⟨n - 1, by omega⟩
    have e : i = T := by omega
    subst e
    refine ⟨S, ?_, rc.rf _, rfl⟩
    simp (disch := omega) only [l_210, if_true, lit_nI, k_in, k_cl, hx.1, hT, Int32.le_refl]
    rfl
  | succ j ih =>
    intro i n S hi hn hx
    obtain ⟨n, rfl⟩ : ∃ n', n = n' + 1 := ⟨n - 1, by omega⟩
    have k1 : d_191 g (nI i) (nI 1) S = some (nI (bk w i), S) := by rw [q_191 (by omega) (by omega), hx.1, show 16 + 5 * i + 1 = 17 + 5 * i by omega, hb i (by omega)]
    obtain ⟨S1, z1, z2, z3⟩ := q_200 (g := g) (m := m) hg hx hV hR hq (hL i (by omega)) (by omega) hD
    obtain ⟨S', y1, y2, y3⟩ := ih (i + 1) n S1 (by omega) (by omega) (hx.rs (rs.of18 z2))
    refine ⟨S', ?_, z2.tr y2, y3.trans z3⟩
    rw [l_210]
    simp (disch := omega) only [if_true, lit_nI, k_in, k_cl, hx.1, hT, k_leF, if_false, k1, Option.bind_some, z1, nI_add, pk_mul]
    exact y1
theorem q_210 (hg : 2000 ≤ g) (hV : shV w T W C Sa) (hR : rbR m.1 B R) (hq : q ≤ R) (hL : ∀ t, t < T → bd (w (19 + 5 * t)) 99) {D : Nat} (hD : w 7 = nI D) (hb : ∀ t, t < T → w (17 + 5 * t) = nI (bk w t)) (hx : rx S B w q x R) : ∃ S', d_210 g S = some (nI (bS B w q T D), S') ∧ rc [18] [] S S' ∧ S'.2.2.2.2 = S.2.2.2.2 := by
  have hT8 := hV.1.2
  unfold d_210
  exact q_l210 hg hV hR hq hL hD hb T 0 g S (by omega) (by omega) hx
theorem p_l92 (hg : 2000 ≤ g) {D : Nat} (hD : w 7 = nI D) : ∀ (j i n : Nat) (m : cM), i + j = T → 2 * j + 1 ≤ n → cx m B w q x T W C Sa R k → ∃ m', l_92 g n 0 (nI (sN (fun t => bk w t * dO B w q t D) i)) (nI i) m = some (nI (bS B w q T D), m') ∧ m'.1 = m.1 ∧ m'.2.2 = m.2.2 := by
  intro j
  induction j with
  | zero =>
    intro i n m hi hn h
    obtain ⟨n, rfl⟩ : ∃ n', n = n' + 1 := ⟨n - 1, by omega⟩
    have hc := h.cy
    have e : i = T := by omega
    subst e
    refine ⟨m, ?_, rfl, rfl⟩
    have hT : m.1 (m.2.2.1 5) 4 = nI i := hc.2.2.1.1.2.2.2.2.1.trans h.2.1.1.1
    simp only [l_92, if_true, hc.1, hT, Int32.le_refl]
    rfl
  | succ j ih =>
    intro i n m hi hn h
    obtain ⟨n, rfl⟩ : ∃ n', n = n' + 2 := ⟨n - 2, by omega⟩
    have hc := h.cy
    have hT8 := h.2.1.1.2
    have hT : m.1 (m.2.2.1 5) 4 = nI T := hc.2.2.1.1.2.2.2.2.1.trans h.2.1.1.1
    have hb := bk_of h.2.2.1 (t := i) (by omega)
    have e20 : m.1 20 i = nI (bk w i) := by
      rw [← hb.1]
      exact h.1.2.1.ba (by omega)
    have e13 : m.1 19 13 = nI D := h.1.2.1.1.2.2.2.2.trans hD
    have l1 : ∀ (y : Int32) (m1 : cM), l_92 g (n + 1) 1 y (nI i) m1 = l_92 g n 0 y (nI i + 1) m1 := fun _ _ => rfl
    rw [l_92]
    by_cases h0 : bk w i = 0
    · obtain ⟨m', y1, y2, y3⟩ := ih (i + 1) n m (by omega) (by omega) h
      refine ⟨m', ?_, y2, y3⟩
      simp (disch := omega) only [if_true, hc.1, hT, k_leF, k_leT, if_false, k_in, k_cl, e20, h0, lit_nI, l1, nI_add]
      have e5 : sN (fun t => bk w t * dO B w q t D) (i + 1) = sN (fun t => bk w t * dO B w q t D) i := by
        show sN (fun t => bk w t * dO B w q t D) i + bk w i * dO B w q i D = _
        rw [h0, Nat.zero_mul, Nat.add_zero]
      rw [e5] at y1
      exact y1
    · obtain ⟨m1, z1, z2, z3⟩ := p_90 (g := g) hg h (t := i) (d := D) (by omega)
      obtain ⟨m', y1, y2, y3⟩ := ih (i + 1) n m1 (by omega) (by omega) (h.ms (ms.of z2 z3))
      refine ⟨m', ?_, y2.trans z2, y3.trans z3⟩
      simp (disch := omega) only [if_true, hc.1, hT, k_leF, if_false, k_in, k_cl, e20, e13, z1, Option.bind_some, lit_nI, l1, nI_add, pk_mul]
      exact y1
theorem p_92 (hg : 2000 ≤ g) {D : Nat} (hD : w 7 = nI D) (h : cx m B w q x T W C Sa R k) : ∃ m', d_92 g m = some (nI (bS B w q T D), m') ∧ m'.1 = m.1 ∧ m'.2.2 = m.2.2 := by
  have hT8 := h.2.1.1.2
  unfold d_92
  exact p_l92 hg hD T 0 g m (by omega) (by omega) h
theorem q_l206 {fr L : Nat} (hL : L ≤ 5) (hfr : fr + L ≤ 181) {x1 : Int32} : ∀ (j i n : Nat) (S : rS), i + j = L → j + 1 ≤ n → S.2.1 20 = w → (∀ i', i' < i → S.2.1 23 i' = w (fr + i')) → ∃ S', l_206 g n 0 (nI fr) (nI L) (nI i) S = some S' ∧ (∀ i', i' < L → S'.2.1 23 i' = w (fr + i')) ∧ rc [] [23] S S' ∧ S'.2.2 = S.2.2 := by
  intro j
  induction j with
  | zero =>
    intro i n S hi hn hw hr
    obtain ⟨n, rfl⟩ : ∃ n', n = n' + 1 := ⟨n - 1, by omega⟩
    have e : i = L := by omega
    subst e
    refine ⟨S, ?_, hr, rc.rf _, rfl⟩
    simp only [l_206, if_true, Int32.le_refl]
  | succ j ih =>
    intro i n S hi hn hw hr
    obtain ⟨n, rfl⟩ : ∃ n', n = n' + 1 := ⟨n - 1, by omega⟩
    obtain ⟨S', y1, y2, y3, y4⟩ := ih (i + 1) n (rA S 23 (upd (S.2.1 23) i (w (fr + i)))) (by omega) (by omega) (by rw [rA_n (by decide)]; exact hw) (by
      intro i' hi'
      rw [rA_s]
      by_cases e : i' = i
      · subst e; exact upd_s
      · rw [upd_n e]; exact hr i' (by omega))
    refine ⟨S', ?_, y2, (rc.A (by decide)).tr y3, y4⟩
    rw [l_206]
    simp (disch := omega) only [if_true, k_leF, if_false, nI_add, k_in, k_cl, lit_nI, hw]
    exact y1
theorem q_206 {fr L : Nat} (hg : 100 ≤ g) (hL : L ≤ 5) (hfr : fr + L ≤ 181) (hw : S.2.1 20 = w) : ∃ S', d_206 g (nI fr) (nI L) S = some S' ∧ S'.1 24 = nI L ∧ (∀ i', i' < L → S'.2.1 23 i' = w (fr + i')) ∧ rc [24] [23] S S' ∧ S'.2.2 = S.2.2 := by
  obtain ⟨S', y1, y2, y3, y4⟩ := q_l206 (g := g) (w := w) hL hfr (x1 := 0) L 0 g (rF S 24 (nI L)) (by omega) (by omega) hw (fun i hi => absurd hi (by omega))
  refine ⟨S', y1, ?_, y2, (rc.F (by decide)).tr (y3.mo (by decide) (by decide)), y4⟩
  rw [y3.1 24 (by decide)]
  exact rF_s
/-- costTaken: the codes that stand in codeRow -/
theorem q_211 {row : Nat → Nat} {L D free : Nat} (hg : 2000 ≤ g) (hx : rx S B w q x R) (hV : shV w T W C Sa) (hst : stV w T C k) (hR : rbR m.1 B R) (hq : q ≤ R) (hD : w 7 = nI D) (hL : L ≤ 5) (h24 : S.1 24 = nI L) (hrow : ∀ i, i < L → S.2.1 23 i = nI (row i) ∧ row i < C) (hf : free ≤ 20000) : ∃ S', d_211 g (nI free) S = some (nI (if bM w T = 0 then 0 else coN w row L (bS B w q T D) free), S') ∧ S'.1 25 = nI (if bM w T = 0 then 0 else caN w free (ctN w row L 0 (bS B w q T D) false)) ∧ rc [18, 25] [] S S' ∧ S'.2.2.2.2 = S.2.2.2.2 := by
  have hb : ∀ t, t < T → w (17 + 5 * t) = nI (bk w t) := fun t ht => (bk_of hst ht).1
  have hM := bM_b hst hV.1.2
  have hx0 : rx (rF S 25 0) B w q x R := hx.rs (rc.F (by decide))
  unfold d_211
  rw [q_209 (g := g) (S := rF S 25 0) (w := w) (T := T) (by omega) hx0.1 hV.1.1 hV.1.2 hb, Option.bind_some]
  by_cases h0 : bM w T = 0
  · rw [if_pos h0, if_pos h0, h0]
    refine ⟨_, rfl, rF_s, rc.F (by decide), rfl⟩
  · obtain ⟨S1, z1, z2, z3⟩ := q_210 (g := g) (m := m) (D := D) hg hV hR hq (fun t ht => (hst.2.2.2.2.1 t ht).1) hD hb hx0
    rw [if_neg h0, if_neg h0]
    have e24 : S1.1 24 = nI L := by rw [z2.1 24 (by decide), rF_n (by decide)]; exact h24
    have e23 : S1.2.1 23 = S.2.1 23 := z2.2 23 (by decide)
    have e := q_207 (g := g) (S := S1) (w := w) (row := row) (L := L) (free := free) (s := bS B w q T D) (by omega) hV (by rw [z2.2 20 (by decide)]; exact hx.1) e24 hL (by rw [e23]; exact hrow) hf (by have := bS_b (B := B) (q := q) (D := D) hV hst; omega)
    refine ⟨_, ?_, rF_s, ((rc.F (by decide)).tr (z2.mo (by decide) (by decide))).tr (rc.F (by decide)), z3⟩
    simp (disch := omega) only [lit_nI, k_eqF, not_false_eq_true, if_true, Option.bind_some]
    rw [show rF S 25 (nI 0) = rF S 25 0 from rfl, z1, Option.bind_some, e]
    rfl
theorem lr_of (hst : stV w T C k) (hC : C ≤ 5) : ∃ L, L ≤ C ∧ w 9 = nI L ∧ nN (w 9) = L ∧ ∀ i, i < L → w (64 + i) = nI (lr w i) ∧ lr w i < C := by
  obtain ⟨L, h1, h2, h3, -⟩ := hst.2.1
  refine ⟨L, h1, h2, by rw [h2]; exact n_cl (by omega), fun i hi => ?_⟩
  obtain ⟨c, c1, c2⟩ := h3 i hi
  unfold lr
  rw [c2, n_cl (by omega)]
  exact ⟨rfl, c1⟩
/-- costNow -/
theorem q_212 {L D free : Nat} (hg : 2000 ≤ g) (hx : rx S B w q x R) (hV : shV w T W C Sa) (hst : stV w T C k) (hR : rbR m.1 B R) (hq : q ≤ R) (hD : w 7 = nI D) (hL : w 9 = nI L) (hL5 : L ≤ 5) (hrow : ∀ i, i < L → w (64 + i) = nI (lr w i) ∧ lr w i < C) (hf : free ≤ 20000) : ∃ S', d_212 g (nI free) S = some (nI (cN B w q T D L free), S') ∧ S'.1 25 = nI (if bM w T = 0 then 0 else caN w free (ctN w (lr w) L 0 (bS B w q T D) false)) ∧ rc [18, 24, 25] [23] S S' ∧ S'.2.2.2.2 = S.2.2.2.2 := by
  have e9 : S.2.1 20 9 = nI L := by rw [hx.1]; exact hL
  obtain ⟨S1, y1, y2, y3, y4, y5⟩ := q_206 (g := g) (S := S) (w := w) (fr := 64) (L := L) (by omega) hL5 (by omega) hx.1
  have hx1 : rx S1 B w q x R := hx.rs (y4.mo (by decide) (by decide))
  obtain ⟨S2, z1, z2, z3, z4⟩ := q_211 (g := g) (m := m) (row := lr w) (L := L) (D := D) (free := free) hg hx1 hV hst hR hq hD hL5 y2 (fun i hi => by rw [y3 i hi]; exact hrow i hi) hf
  refine ⟨S2, ?_, z2, (y4.mo (by decide) (by decide)).tr (z3.mo (by decide) (by decide)), z4.trans (by rw [y5])⟩
  unfold d_212
  simp (disch := omega) only [lit_nI, k_in, k_cl, if_true, e9, y1, Option.bind_some, z1]
  rfl
/-- basketCost -/
theorem p_93 {L D free : Nat} (hg : 2000 ≤ g) (h : cx m B w q x T W C Sa R k) (hD : w 7 = nI D) (hL : w 9 = nI L) (hL5 : L ≤ 5) (hrow : ∀ i, i < L → w (64 + i) = nI (lr w i) ∧ lr w i < C) (hf : w 5 = nI free) (hf2 : free ≤ 9999) : ∃ m', d_93 g m = some (nI (cN B w q T D L free), m') ∧ ms m m' ∧ (∀ b, b ≠ 32 → m'.1 b = m.1 b) ∧ m'.1 32 4 = nI (if bM w T = 0 then 0 else caN w free (ctN w (lr w) L 0 (bS B w q T D) false)) := by
  have hV := h.2.1
  have hb : ∀ t, t < T → w (17 + 5 * t) = nI (bk w t) := fun t ht => (bk_of h.2.2.1 ht).1
  have hM := bM_b h.2.2.1 hV.1.2
  have hSb := bS_b (B := B) (q := q) (D := D) hV h.2.2.1
  obtain ⟨m1, z1, z2, z3⟩ := p_92 (g := g) hg hD h
  have h1 := h.ms (ms.of z2 z3)
  have hc := h1.cy
  have e8 : m1.1 19 8 = nI L := h1.1.2.1.1.1.trans hL
  have e2 : m1.1 (m1.2.2.1 5) 2 = nI free := hc.2.2.1.1.2.2.1.trans hf
  have e26 : ∀ i, i < L → m1.1 26 i = nI (lr w i) ∧ lr w i < C := fun i hi => by
    have := h1.1.2.1.2.2.2.2.1 i (by rw [hL, n_cl (by omega)]; exact hi)
    exact ⟨this.trans (hrow i hi).1, (hrow i hi).2⟩
  obtain ⟨m2, y1, y2, y3, y4⟩ := p_94 (g := g) (m := m1) (w := w) (row := lr w) (L := L) (free := free) (s := bS B w q T D) (z := bM w T) (a3 := 26) (by omega) hV hc.1 hc.2.1 hc.2.2.1 hL5 (by decide) (fun i hi => cA_of (by omega) kk_26 (by omega) (by omega)) e26 (by omega) (by omega) (by omega)
  refine ⟨m2, ?_, (ms.of z2 z3).tr y2, fun b hb => (y3 b hb).trans (by rw [z2]), y4⟩
  unfold d_93
  rw [p_73 (g := g) (by omega) (by decide) hV.1.2 h.1.2.1 hb, Option.bind_some, z1, Option.bind_some]
  simp only [hc.1, if_true, e8, e2, y1, Option.bind_some]
  rfl
end BA
