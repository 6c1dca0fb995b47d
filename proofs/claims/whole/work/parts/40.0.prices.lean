/-! prices of all things at once; the reference's best -/
section PA
variable {g k : Nat} {m : cM} {S : rS} {B : rB} {w : Nat → Int32} {q T W C Sa R : Nat} {x : Int32}
theorem p_l12 {d : Nat} (hg : 2000 ≤ g) : ∀ (j i n : Nat) (m : cM), i + j = T → j + 1 ≤ n → cx m B w q x T W C Sa R k → m.1 71 11 = nI (sN (fun t => bk w t * dO B w q t d) i) → (∀ t, t < i → m.1 75 t = nI (dO B w q t d)) → ∃ m', l_12 g n 0 (nI d) (nI i) m = some m' ∧ ms m m' ∧ m'.1 71 11 = nI (bS B w q T d) ∧ m'.1 71 12 = nI (bM w T) ∧ (∀ t, t < T → m'.1 75 t = nI (dO B w q t d)) ∧ (∀ b, b ≠ 71 → b ≠ 75 → m'.1 b = m.1 b) := by
  intro j
  induction j with
  | zero =>
    intro i n m hi hn h h11 h75
    obtain ⟨n, rfl⟩ : ∃ n', n = n' + 1 := ⟨n - 1, by omega⟩
    have e : i = T := by omega
    subst e
    have hV := h.2.1
    have hb : ∀ t, t < i → w (17 + 5 * t) = nI (bk w t) := fun t ht => (bk_of h.2.2.1 ht).1
    have p73 := p_73 (g := g) (m := m) (a1 := 19) (by omega) (by decide) hV.1.2 h.1.2.1 hb
    refine ⟨cW m 71 12 (nI (bM w i)), ?_, ms.W (by omega), by rw [cW_k (by decide)]; exact h11, cW_s, fun t ht => by rw [cW_b (by decide)]; exact h75 t ht, fun b h1 _ => cW_b h1⟩
    rw [l_12]
    simp only [if_true, h.cy.1, h.t, Int32.le_refl, p73, Option.bind_some]
  | succ j ih =>
    intro i n m hi hn h h11 h75
    obtain ⟨n, rfl⟩ : ∃ n', n = n' + 1 := ⟨n - 1, by omega⟩
    have hV := h.2.1
    have hT8 := hV.1.2
    have hbi := bk_of h.2.2.1 (t := i) (by omega)
    obtain ⟨m1, y1, y2, y3⟩ := p_90 (g := g) hg h (t := i) (d := d) (by omega)
    have e20 : m.1 20 i = nI (bk w i) := (h.1.2.1.ba (by omega)).trans hbi.1
    obtain ⟨m2, hm2⟩ : ∃ m2, m2 = cW (cW m1 75 i (nI (dO B w q i d))) 71 11 (nI (sN (fun t => bk w t * dO B w q t d) i + bk w i * dO B w q i d)) := ⟨_, rfl⟩
    have hms2 : ms m m2 := by rw [hm2]; exact ((ms.of y2 y3).tr (ms.W (by omega))).tr (ms.W (by omega))
    obtain ⟨m', z1, z2, z3, z4, z5, z6⟩ := ih (i + 1) n m2 (by omega) (by omega) (h.ms hms2) (by rw [hm2, cW_s]; rfl) (by
      intro t ht
      rw [hm2, cW_b (by decide)]
      by_cases e : t = i
      · subst e; rw [cW_s]
      · rw [cW_k e, y2]; exact h75 t (by omega))
    refine ⟨m', ?_, hms2.tr z2, z3, z4, z5, fun b h1 h2 => (z6 b h1 h2).trans (by rw [hm2, cW_b h1, cW_b h2, y2])⟩
    have f11 : ∀ v, (cW m1 75 i v).1 71 11 = nI (sN (fun t => bk w t * dO B w q t d) i) := fun v => by rw [cW_b (by decide), y2]; exact h11
    have f20 : ∀ v, (cW m1 75 i v).1 20 i = nI (bk w i) := fun v => by rw [cW_b (by decide), y2]; exact e20
    rw [l_12]
    simp (disch := omega) only [if_true, h.cy.1, h.t, k_leF, if_false, y1, Option.bind_some, k_in, k_cl, f11, f20, cW_s, pk_mul, nI_add, lit_nI]
    rw [← hm2]
    exact z1
/-- priceAll -/
theorem p_12 {d : Nat} (hg : 2000 ≤ g) (h : cx m B w q x T W C Sa R k) : ∃ m', d_12 g (nI d) m = some m' ∧ ms m m' ∧ m'.1 71 11 = nI (bS B w q T d) ∧ m'.1 71 12 = nI (bM w T) ∧ (∀ t, t < T → m'.1 75 t = nI (dO B w q t d)) ∧ (∀ b, b ≠ 71 → b ≠ 75 → m'.1 b = m.1 b) := by
  have hT8 := h.2.1.1.2
  have h1 : ms m (cW m 71 11 0) := ms.W (by omega)
  obtain ⟨m', z1, z2, z3, z4, z5, z6⟩ := p_l12 (g := g) (d := d) hg T 0 g (cW m 71 11 0) (by omega) (by omega) (h.ms h1) cW_s (fun t ht => absurd ht (by omega))
  exact ⟨m', z1, h1.tr z2, z3, z4, z5, fun b h2 h3 => (z6 b h2 h3).trans (cW_b h2)⟩
/-- the reference's best -/
def rst (S : rS) : bO → Prop
  | none => S.1 29 = -1
  | some q => S.1 29 = nI q.2.1 ∧ S.1 30 = q.1 ∧ q.2.1 ≤ 8 ∧ ∀ i, i < q.2.1 → S.2.1 28 i = q.2.2 i
theorem rst.co {S S' : rS} {b : bO} (h : rst S b) (e1 : S'.1 29 = S.1 29) (e2 : S'.1 30 = S.1 30) (e3 : S'.2.1 28 = S.2.1 28) : rst S' b := by
  match b, h with
  | none, h => exact e1.trans h
  | some q, h => exact ⟨e1.trans h.1, e2.trans h.2.1, h.2.2.1, by rw [e3]; exact h.2.2.2⟩
theorem bst.oc {b : bO} {v : Int32} {L : Nat} {r r' : Nat → Int32} (h : bst m (off b v L r)) (e : ∀ i, i < L → r i = r' i) : bst m (off b v L r') := by
  match b, h with
  | none, h => exact ⟨h.1, h.2.1, h.2.2.1, h.2.2.2.1, fun i hi => (h.2.2.2.2 i hi).trans (e i hi)⟩
  | some q, h =>
    by_cases hv : v < q.1
    · rw [show off (some q) v L r = some (v, L, r) from if_pos hv] at h
      rw [show off (some q) v L r' = some (v, L, r') from if_pos hv]
      exact ⟨h.1, h.2.1, h.2.2.1, h.2.2.2.1, fun i hi => (h.2.2.2.2 i hi).trans (e i hi)⟩
    · rw [show off (some q) v L r = some q from if_neg hv] at h
      rw [show off (some q) v L r' = some q from if_neg hv]
      exact h
/-- the row of codes is kept -/
theorem q_l232 {L : Nat} {v : Int32} {r : Nat → Int32} (hL : L ≤ 5) : ∀ (j i n : Nat) (S : rS), i + j = L → j + 1 ≤ n → (∀ d, d < L → S.2.1 23 d = r d) → (∀ d, d < i → S.2.1 28 d = r d) → ∃ S', l_232 g n 1 (nI L) v (nI i) S = some S' ∧ rc [] [28] S S' ∧ (∀ d, d < L → S'.2.1 28 d = r d) ∧ S'.2.2 = S.2.2 := by
  intro j
  induction j with
  | zero =>
    intro i n S hi hn h1 h2
    obtain ⟨n, rfl⟩ : ∃ n', n = n' + 1 := ⟨n - 1, by omega⟩
    have e : i = L := by omega
    subst e
    refine ⟨S, ?_, rc.rf _, h2, rfl⟩
    rw [l_232, if_neg (by decide), if_pos rfl, if_pos (Int32.le_refl _)]
  | succ j ih =>
    intro i n S hi hn h1 h2
    obtain ⟨n, rfl⟩ : ∃ n', n = n' + 1 := ⟨n - 1, by omega⟩
    obtain ⟨S', y1, y2, y3, y4⟩ := ih (i + 1) n (rA S 28 (upd (S.2.1 28) i (S.2.1 23 i))) (by omega) (by omega) (fun d hd => by rw [rA_n (by decide)]; exact h1 d hd) (by
      intro d hd
      rw [rA_s]
      by_cases e : d = i
      · subst e; rw [upd_s]; exact h1 d (by omega)
      · rw [upd_n e]; exact h2 d (by omega))
    refine ⟨S', ?_, (rc.A (by decide)).tr y2, y3, y4⟩
    rw [l_232]
    simp (disch := omega) only [Nat.one_ne_zero, if_true, if_false, k_leF, k_in, k_cl, lit_nI, nI_add]
    exact y1
/-- keepsOrder -/
theorem q_232 {row : Nat → Nat} {L D fr : Nat} {b : bO} (hg : 2000 ≤ g) (hx : rx S B w q x R) (hV : shV w T W C Sa) (hst : stV w T C k) (hR : rbR m.1 B R) (hq : q ≤ R) (hD : w 7 = nI D) (h5 : w 5 = nI fr) (hfr : fr ≤ 9999) (hL : L ≤ 5) (hrow : ∀ i, i < L → S.2.1 23 i = nI (row i) ∧ row i < C) (hb : rst S b) : ∃ S', d_232 g (nI L) S = some S' ∧ rst S' (off b (nI (if bM w T = 0 then 0 else coN w row L (bS B w q T D) fr)) L (fun i => nI (row i))) ∧ rc [18, 24, 25, 29, 30] [28] S S' := by
  have e5 : S.2.1 20 5 = nI fr := by rw [hx.1]; exact h5
  have hx1 : rx (rF S 24 (nI L)) B w q x R := hx.rs (rc.F (by decide))
  obtain ⟨S1, y1, y2, y3, y4⟩ := q_211 (g := g) (S := rF S 24 (nI L)) (m := m) (row := row) (L := L) (D := D) (free := fr) hg hx1 hV hst hR hq hD hL rF_s hrow (by omega)
  obtain ⟨v, hv⟩ : ∃ v, v = nI (if bM w T = 0 then 0 else coN w row L (bS B w q T D) fr) := ⟨_, rfl⟩
  rw [← hv] at y1 ⊢
  have hb1 : rst S1 b := hb.co ((y3.1 29 (by decide)).trans (rF_n (by decide))) ((y3.1 30 (by decide)).trans (rF_n (by decide))) (y3.2 28 (by decide))
  have hrc1 : rc [18, 24, 25, 29, 30] [28] S S1 := (rc.F (by decide)).tr (y3.mo (by decide) (by decide))
  have take : ∃ S', l_232 g g 0 (nI L) v 0 S1 = some S' ∧ rst S' (some (v, L, fun i => nI (row i))) ∧ rc [18, 24, 25, 29, 30] [28] S S' := by
    obtain ⟨g', hg'⟩ : ∃ q, g = q + 1 := ⟨g - 1, by omega⟩
    obtain ⟨S2, z1, z2, z3, z4⟩ := q_l232 (g := g) (L := L) (v := v) (r := fun i => nI (row i)) hL L 0 g' (rF (rF S1 30 v) 29 (nI L)) (by omega) (by omega) (fun d hd => by
      show S1.2.1 23 d = _
      rw [y3.2 23 (by decide)]
      exact (hrow d hd).1) (fun d hd => absurd hd (by omega))
    refine ⟨S2, ?_, ⟨by rw [z2.1 29 (by simp), rF_s], by rw [z2.1 30 (by simp), rF_n (by decide), rF_s], by show L ≤ 8; omega, z3⟩, ((hrc1.tr (rc.F (by decide))).tr (rc.F (by decide))).tr (z2.mo (by decide) (by decide))⟩
    have : l_232 g (g' + 1) 0 (nI L) v 0 S1 = l_232 g g' 1 (nI L) v 0 (rF (rF S1 30 v) 29 (nI L)) := by rw [l_232, if_pos rfl]
    rw [← hg'] at this
    rw [this]
    exact z1
  unfold d_232
  rw [if_pos (show aIn (5 : Int32) 181 = true by decide), show (5 : Int32).toNatClampNeg = 5 from rfl, e5, y1, Option.bind_some]
  match b, hb1 with
  | none, hb1 =>
    have e29 : S1.1 29 = -1 := hb1
    rw [e29, if_pos (show (-1 : Int32) < 0 by decide)]
    exact take
  | some p, hb1 =>
    obtain ⟨b1, b2, b3, b4⟩ := hb1
    rw [b1, if_neg (nI_pos (by omega)), b2]
    by_cases hlt : v < p.1
    · rw [if_pos hlt, show off (some p) v L (fun i => nI (row i)) = some (v, L, fun i => nI (row i)) from if_pos hlt]
      exact take
    · rw [if_neg hlt, show off (some p) v L (fun i => nI (row i)) = some p from if_neg hlt]
      exact ⟨S1, rfl, ⟨b1, b2, b3, b4⟩, hrc1⟩
end PA
