/-! baskets, of the class: all -/
section BD
variable {g k : Nat} {m : cM} {S : rS} {B : rB} {w : Nat → Int32} {q T W C Sa R : Nat} {x : Int32}
theorem cbN_u {fr : Nat} {pr r : Nat → Nat} (hr : ∀ j, j < W → r j ≤ j) : sN (fun c => pcN w fr (sbk pr r c W)) (uz r W) = cbN w fr pr W r := by
  have hU := uz_b hr
  unfold cbN
  have := sN_z (f := fun c => pcN w fr (sbk pr r c W)) (a := uz r W) (d := W - uz r W) (fun c hc => by
    show pcN w fr (sbk pr r c W) = 0
    rw [sbk_0 (fun j hj e => by have := uz_lt (r := r) hj; omega)]
    rfl)
  rw [show uz r W + (W - uz r W) = W by omega] at this
  exact this.symm
theorem p_R24 {fr : Nat} {pr : Nat → Nat} (hg : 2000 ≤ g) (h5 : w 5 = nI fr) (hfr : fr ≤ 9999) (hpr : ∀ i, i < W → pr i ≤ 9999) : ∀ (d L n : Nat) (m : cM) (r : Nat → Nat) (b : bO), L + d = W → d + 1 ≤ n → (∀ j, j < L → r j ≤ j) → cx m B w q x T W C Sa R k → (∀ i, i < L → m.1 74 i = nI (r i)) → (∀ c', c' < 6 → m.1 76 c' = nI (sbk pr r c' L)) → (∀ i, i < W → m.1 75 (wtN w i) = nI (pr i)) → bst m b → ∃ m', R_24 g n 0 (nI L) (nI (uz r L)) m = some m' ∧ ms m m' ∧ (∀ a, a ≠ 72 → a ≠ 73 → a ≠ 74 → a ≠ 76 → m'.1 a = m.1 a) ∧ (∀ i, i < L → m'.1 74 i = nI (r i)) ∧ (∀ c', c' < 6 → m'.1 76 c' = m.1 76 c') ∧ bst m' (odV (bkF w fr pr W) uzl d L r b) := by
  intro d
  induction d with
  | zero =>
    intro L n m r b hL hn hr h h74 h76 h75 hb
    obtain ⟨n, rfl⟩ : ∃ n', n = n' + 1 := ⟨n - 1, by omega⟩
    have hW6 := h.2.1.2.1.2
    have e : L = W := by omega
    subst e
    have hU := uz_b hr
    have p25 := p_l25 (g := g) (m := m) (s := fun c => sbk pr r c L) (fr := fr) (U := uz r L) h h5 hfr (by omega) (fun c hc => ⟨h76 c (by omega), by
      have := sbk_b (pr := pr) (r := r) (c := c) (K := 9999) (n := L) hpr
      have h2 : L * 9999 ≤ 6 * 9999 := Nat.mul_le_mul_right _ hW6
      omega⟩) (uz r L) 0 g (by omega) (by omega)
    have p25 : d_25 g (nI (uz r L)) m = some (nI (cbN w fr pr L r)) := by
      rw [← cbN_u hr]
      exact p25
    obtain ⟨m2, z1, z2, z3, z4⟩ := p_2 (g := g) (m := m) (v := nI (cbN w fr pr L r)) (L := L) (b := b) (by omega) hb
    have z2 := z2.oc (r' := fun i => nI (r i)) (fun i hi => h74 i hi)
    refine ⟨m2, ?_, z3, fun a a1 a2 _ _ => z4 a a1 a2, fun i hi => by rw [z4 74 (by decide) (by decide)]; exact h74 i hi, fun c' _ => by rw [z4 76 (by decide) (by decide)], z2⟩
    show t_24 (fun x1 x2 m => R_24 g n 0 x1 x2 m) g (nI L) (nI (uz r L)) m = some m2
    unfold t_24
    rw [if_pos h.cy.1, h.wn, if_neg (show ¬ nI L < nI L from nI_nlt (Nat.le_refl _) (by omega)), p25, Option.bind_some, z1]
    rfl
  | succ d ih =>
    intro L n m r b hL hn hr h h74 h76 h75 hb
    obtain ⟨n, rfl⟩ : ∃ n', n = n' + 1 := ⟨n - 1, by omega⟩
    have hW6 := h.2.1.2.1.2
    have hT8 := h.2.1.1.2
    have hwt := wt_of h.2.1 (i := L) (by omega)
    have e4 : m.1 (m.2.2.1 5 + 4) L = nI (wtN w L) := (h.1.1.2.2.1 L (by omega)).1.trans hwt.1
    have e75 := h75 L (by omega)
    have hU := uz_b hr
    obtain ⟨m', y1, y2, y3, y4, y5, y6⟩ := p_l24 (g := g) (B := B) (w := w) (q := q) (x := x) (T := T) (W := W) (k := k) (sf := fun x1 x2 m => R_24 g n 0 x1 x2 m) (F := fun c b => odV (bkF w fr pr W) uzl d (L + 1) (fun j => if j = L then c else r j) b) (pr := pr) (r := r) (L := L) (by omega) hr (fun c m b hc hcx h74 h74L h76 h75 hb => by
      obtain ⟨m', z1, z2, z3, z4, z5, z6⟩ := ih (L + 1) n m (fun j => if j = L then c else r j) b (by omega) (by omega) (fun j hj => by
        show (if j = L then c else r j) ≤ j
        by_cases e : j = L
        · rw [if_pos e]; omega
        · rw [if_neg e]; exact hr j (by omega)) hcx (fun i hi => by
        show _ = nI (if i = L then c else r i)
        by_cases e : i = L
        · rw [if_pos e, e]; exact h74L
        · rw [if_neg e]; exact h74 i (by omega)) h76 h75 hb
      refine ⟨m', z1, z2, z3, fun i hi => ?_, z5, z6⟩
      have := z4 i (by omega)
      rw [if_neg (by omega)] at this
      exact this) (uz r L) 0 g m b (by omega) (by omega) h h74 h76 h75 hb
    refine ⟨m', ?_, y2, y3, y4, fun c' hc' => by rw [y5 c' hc', h76 c' hc'], ?_⟩
    · show t_24 (fun x1 x2 m => R_24 g n 0 x1 x2 m) g (nI L) (nI (uz r L)) m = some m'
      unfold t_24
      rw [if_pos h.cy.1, h.wn, if_pos (nI_lt (by omega) (by omega)), if_pos (k_in (by omega) (by omega)), k_cl (by omega), e4, if_pos (k_in (by omega) (by omega)), k_cl (by omega), e75]
      exact y1
    · show bst m' (odF (fun c b => odV (bkF w fr pr W) uzl d (L + 1) (fun j => if j = L then c else r j) b) (uzl r L) 0 b)
      rw [uzl_e hr]
      exact y6
/-- bestBaskets -/
theorem p_23 {D fr : Nat} (hg : 2000 ≤ g) (h : cx m B w q x T W C Sa R k) (hD : w 7 = nI D) (h5 : w 5 = nI fr) (hfr : fr ≤ 9999) : ∃ m', d_23 g m = some m' ∧ ms m m' ∧ bst m' (odV (bkF w fr (fun i => dO B w q (wtN w i) D) W) uzl W 0 (fun _ => 0) none) := by
  have hV := h.2.1
  have hW6 := hV.2.1.2
  obtain ⟨m0, y1, y2, y3, y4, y5⟩ := p_1 (g := g) (m := m)
  have h0 := h.ms y3
  obtain ⟨m1, z1, z2, z3, z4, z5, z6⟩ := p_12 (g := g) (d := D) hg h0
  have h1 := h0.ms z2
  obtain ⟨m2, u1, u2, u3, u4⟩ := p_273 (g := g) (m := m1) (a := 76) (N := 6) (by omega) (by omega) kk_76 (by omega)
  have e13 : m0.1 19 13 = nI D := h0.1.2.1.1.2.2.2.2.trans hD
  obtain ⟨m3, v1, v2, v3, v4, v5, v6⟩ := p_R24 (g := g) (B := B) (q := q) (x := x) (k := k) (fr := fr) (pr := fun i => dO B w q (wtN w i) D) hg h5 hfr (fun i hi => (dO_b hV (wt_of hV hi).2).2) W 0 9 m2 (fun _ => 0) none (by omega) (by omega) (fun j hj => absurd hj (by omega)) (h1.ms u2) (fun i hi => absurd hi (by omega)) (fun c' hc' => u4 c' hc') (fun i hi => by rw [u3 75 (by decide)]; exact z5 _ (wt_of hV hi).2) (y2.co (by rw [u3 72 (by decide), z6 72 (by decide) (by decide)]) (by rw [u3 73 (by decide), z6 73 (by decide) (by decide)]))
  refine ⟨m3, ?_, ((y3.tr z2).tr u2).tr v2, v6⟩
  unfold d_23 d_24
  rw [y1, Option.bind_some, e13, z1, Option.bind_some, u1, Option.bind_some, show R_24 g 9 0 0 0 m2 = some m3 from v1]
  rfl
end BD
