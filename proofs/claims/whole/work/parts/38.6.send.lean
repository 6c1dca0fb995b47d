/-! sendBack -/
def ld (w : Nat → Int32) (t : Nat) : Nat := nN (w (56 + t))
def la (w : Nat → Int32) (t : Nat) : Nat := nN (w (20 + 5 * t))
def lr2 (w : Nat → Int32) (i : Nat) : Nat := nN (w (74 + i))
/-- COST of what is left of the last one -/
def clF (w : Nat → Int32) (T L2 fr : Nat) (lf : Nat → Nat) : Nat := if sN lf T = 0 then 0 else coN w (lr2 w) L2 (sN (fun t => lf t * ld w t) T) fr
/-- what comes back -/
def sbN (w : Nat → Int32) (T L2 fr : Nat) (lf : Nat → Nat) (P t : Nat) : Nat := if w 6 = nI 1 then P - clF w T L2 fr lf else ld w t
def se3 (w : Nat → Int32) (t : Nat) : Nat → Int32 := upd (upd (upd w (20 + 5 * t) (nI (la w t - 1))) (18 + 5 * t) (w (18 + 5 * t) + -nI 1)) (16 + 5 * t) (nI (if nN (w (16 + 5 * t)) < 9 then nN (w (16 + 5 * t)) + 1 else 9))
def seN (w : Nat → Int32) (T L2 fr t : Nat) : Nat := sbN (se3 w t) T L2 fr (la (se3 w t)) (nN (w 11)) t
def se5 (w : Nat → Int32) (T L2 fr t : Nat) : Nat → Int32 := upd (upd (se3 w t) 11 (w 11 - nI (seN w T L2 fr t))) 8 (w 8 - nI (seN w T L2 fr t))
section SN
variable {g k : Nat} {m : cM} {S : rS} {w : Nat → Int32} {T W C Sa L2 fr : Nat}
theorem la_of (h : stV w T C k) {t : Nat} (ht : t < T) : w (20 + 5 * t) = nI (la w t) ∧ la w t ≤ 9 := by
  have := nI_nN (h.2.2.2.2.1 t ht).2.1 (by omega)
  exact ⟨this.1.symm, this.2⟩
theorem ld_of (h : stV w T C k) {t : Nat} (ht : t < T) : w (56 + t) = nI (ld w t) ∧ ld w t ≤ 9999 := by
  have := nI_nN (h.2.2.2.2.1 t ht).2.2 (by omega)
  exact ⟨this.1.symm, this.2⟩
theorem lr2_of (hst : stV w T C k) (hC : C ≤ 5) : ∃ L, L ≤ C ∧ w 79 = nI L ∧ nN (w 79) = L ∧ ∀ i, i < L → w (74 + i) = nI (lr2 w i) ∧ lr2 w i < C := by
  obtain ⟨L, h1, h2, h3⟩ := hst.2.2.1
  refine ⟨L, h1, h2, by rw [h2]; exact n_cl (by omega), fun i hi => ?_⟩
  obtain ⟨c, c1, c2⟩ := h3 i hi
  unfold lr2
  rw [c2, n_cl (by omega)]
  exact ⟨rfl, c1⟩
theorem lS_b {lf : Nat → Nat} (hT : T ≤ 8) (h1 : ∀ t, t < T → lf t ≤ 9) (h2 : ∀ t, t < T → ld w t ≤ 9999) : sN (fun t => lf t * ld w t) T ≤ 719928 := by
  have h := sN_b (f := fun t => lf t * ld w t) (c := 9 * 9999) (n := T) (fun j hj => Nat.mul_le_mul (h1 j hj) (h2 j hj))
  omega
theorem q_l227 (hg : 2000 ≤ g) (h20 : S.2.1 20 = w) (hV : shV w T W C Sa) (hla : ∀ t, t < T → w (20 + 5 * t) = nI (la w t) ∧ la w t ≤ 9) (hld : ∀ t, t < T → w (56 + t) = nI (ld w t) ∧ ld w t ≤ 9999) (h79 : w 79 = nI L2) (hL2 : L2 ≤ 5) (hr2 : ∀ i, i < L2 → w (74 + i) = nI (lr2 w i) ∧ lr2 w i < C) (h5 : w 5 = nI fr) (hfr : fr ≤ 9999) : ∀ (j i n : Nat), i + j = T → j + 1 ≤ n → ∃ S', l_227 g n 0 (nI (sN (la w) i)) (nI (sN (fun t => la w t * ld w t) i)) (nI i) S = some (nI (clF w T L2 fr (la w)), S') ∧ rc [24, 25] [23] S S' := by
  intro j
  have hT8 := hV.1.2
  have hb := sN_b (f := la w) (c := 9) (n := T) (fun t ht => (hla t ht).2)
  have hb2 := lS_b (w := w) hT8 (fun t ht => (hla t ht).2) (fun t ht => (hld t ht).2)
  induction j with
  | zero =>
    intro i n hi hn
    obtain ⟨n, rfl⟩ : ∃ n', n = n' + 1 := ⟨n - 1, by omega⟩
    have e : i = T := by omega
    subst e
    rw [l_227]
    by_cases h0 : sN (la w) i = 0
    · refine ⟨S, ?_, rc.rf _⟩
      simp (disch := omega) only [if_true, lit_nI, k_in, k_cl, h20, hV.1.1, Int32.le_refl, h0, not_true, if_false, clF]
    · obtain ⟨S1, y1, y2, y3, y4, y5⟩ := q_206 (g := g) (S := S) (w := w) (fr := 74) (L := L2) (by omega) hL2 (by omega) h20
      have f20 : S1.2.1 20 = w := (y4.2 20 (by decide)).trans h20
      have e207 := q_207 (g := g) (S := S1) (w := w) (row := lr2 w) (L := L2) (free := fr) (s := sN (fun t => la w t * ld w t) i) (by omega) hV f20 y2 hL2 (fun i hi => by rw [y3 i hi]; exact hr2 i hi) (by omega) (by omega)
      refine ⟨rF S1 25 (nI (caN w fr (ctN w (lr2 w) L2 0 (sN (fun t => la w t * ld w t) i) false))), ?_, (y4.mo (by decide) (by decide)).tr (rc.F (by decide))⟩
      simp (disch := omega) only [if_true, lit_nI, k_in, k_cl, h20, hV.1.1, Int32.le_refl, k_eqF, not_false_eq_true, h79, y1, Option.bind_some, f20, h5, e207, clF, h0, if_false]
  | succ j ih =>
    intro i n hi hn
    obtain ⟨n, rfl⟩ : ∃ n', n = n' + 1 := ⟨n - 1, by omega⟩
    obtain ⟨S', y1, y2⟩ := ih (i + 1) n (by omega) (by omega)
    have k4 : d_191 g (nI i) (nI 4) S = some (nI (la w i), S) := by rw [q_191 (by omega) (by omega), h20, show 16 + 5 * i + 4 = 20 + 5 * i by omega, (hla i (by omega)).1]
    refine ⟨S', ?_, y2⟩
    rw [l_227]
    simp (disch := omega) only [if_true, lit_nI, k_in, k_cl, h20, hV.1.1, k_leF, if_false, k4, Option.bind_some, nI_add, (hld i (by omega)).1, pk_mul]
    exact y1
theorem q_227 (hg : 2000 ≤ g) (h20 : S.2.1 20 = w) (hV : shV w T W C Sa) (hla : ∀ t, t < T → w (20 + 5 * t) = nI (la w t) ∧ la w t ≤ 9) (hld : ∀ t, t < T → w (56 + t) = nI (ld w t) ∧ ld w t ≤ 9999) (h79 : w 79 = nI L2) (hL2 : L2 ≤ 5) (hr2 : ∀ i, i < L2 → w (74 + i) = nI (lr2 w i) ∧ lr2 w i < C) (h5 : w 5 = nI fr) (hfr : fr ≤ 9999) : ∃ S', d_227 g S = some (nI (clF w T L2 fr (la w)), S') ∧ rc [24, 25] [23] S S' := by
  have hT8 := hV.1.2
  unfold d_227
  exact q_l227 hg h20 hV hla hld h79 hL2 hr2 h5 hfr T 0 g (by omega) (by omega)
theorem clF_b (hV : shV w T W C Sa) {lf : Nat → Nat} (h1 : ∀ t, t < T → lf t ≤ 9) (h2 : ∀ t, t < T → ld w t ≤ 9999) : clF w T L2 fr lf ≤ 800000 := by
  have hT8 := hV.1.2
  unfold clF
  split
  · omega
  · have hb2 := lS_b (w := w) hT8 h1 h2
    have h3 := ctN_le w (lr2 w) L2 0 (sN (fun t => lf t * ld w t) T) false
    have h4 := caN_b (free := fr) (p := ctN w (lr2 w) L2 0 (sN (fun t => lf t * ld w t) T) false) hV
    unfold coN
    omega
theorem se3_e {t : Nat} {j : Nat} (h : j ≠ 20 + 5 * t) (h2 : j ≠ 18 + 5 * t) (h3 : j ≠ 16 + 5 * t) : se3 w t j = w j := by
  unfold se3
  rw [upd_n h3, upd_n h2, upd_n h]
theorem se3_20 {t : Nat} : se3 w t (20 + 5 * t) = nI (la w t - 1) := by
  unfold se3
  rw [upd_n (by omega), upd_n (by omega), upd_s]
theorem se3_16 {t : Nat} : se3 w t (16 + 5 * t) = nI (if nN (w (16 + 5 * t)) < 9 then nN (w (16 + 5 * t)) + 1 else 9) := by
  unfold se3
  rw [upd_s]
theorem se3_V {t : Nat} (h : stV w T C k) (hT : T ≤ 8) (hC : C ≤ 5) (ht : t < T) : stV (se3 w t) T C k := by
  obtain ⟨h1, ⟨L, a1, a2, a3, a4⟩, ⟨L2, b1, b2, b3⟩, h4, h5, h6⟩ := id h
  have e : ∀ j, j ≠ 20 + 5 * t → j ≠ 18 + 5 * t → j ≠ 16 + 5 * t → se3 w t j = w j := fun j q1 q2 q3 => se3_e q1 q2 q3
  refine ⟨by rw [e 7 (by omega) (by omega) (by omega)]; exact h1, ⟨L, a1, by rw [e 9 (by omega) (by omega) (by omega)]; exact a2, fun i hi => ?_, fun i j hi hj => ?_⟩, ⟨L2, b1, by rw [e 79 (by omega) (by omega) (by omega)]; exact b2, fun i hi => ?_⟩, fun t' ht' => ?_, fun t' ht' => ?_, ⟨by rw [e 6 (by omega) (by omega) (by omega), e 11 (by omega) (by omega) (by omega)]; exact h6.1, by rw [bs17_c (fun t' ht' => e _ (by omega) (by omega) (by omega))]; exact h6.2⟩⟩
  · rw [e _ (by omega) (by omega) (by omega)]; exact a3 i hi
  · rw [e _ (by omega) (by omega) (by omega), e _ (by omega) (by omega) (by omega)]; exact a4 i j hi hj
  · rw [e _ (by omega) (by omega) (by omega)]; exact b3 i hi
  · obtain ⟨s, b0, y1, y2, y3, y4⟩ := h4 t' ht'
    by_cases et : t' = t
    · subst et
      refine ⟨if s < 9 then s + 1 else 9, b0, by split <;> omega, by split <;> omega, ?_, by rw [e _ (by omega) (by omega) (by omega)]; exact y4⟩
      rw [se3_16, y3, n_cl (by omega)]
    · exact ⟨s, b0, y1, y2, by rw [e _ (by omega) (by omega) (by omega)]; exact y3, by rw [e _ (by omega) (by omega) (by omega)]; exact y4⟩
  · obtain ⟨y1, y2, y3⟩ := h5 t' ht'
    by_cases et : t' = t
    · subst et
      refine ⟨by rw [e _ (by omega) (by omega) (by omega)]; exact y1, ⟨la w t' - 1, by have := (la_of h ht').2; omega, se3_20⟩, by rw [e _ (by omega) (by omega) (by omega)]; exact y3⟩
    · exact ⟨by rw [e _ (by omega) (by omega) (by omega)]; exact y1, by rw [e _ (by omega) (by omega) (by omega)]; exact y2, by rw [e _ (by omega) (by omega) (by omega)]; exact y3⟩
theorem ag01 (hV : shV w T W C Sa) : w 6 = nI 1 ∨ (w 6 = nI 0 ∧ w 6 ≠ nI 1) := by
  rcases hV.2.2.2.2.2.2.2.1 with h | h
  · exact Or.inr ⟨h, by rw [h]; decide⟩
  · exact Or.inl h
set_option maxHeartbeats 1000000 in
/-- sends -/
theorem q_228 {t : Nat} (hg : 2000 ≤ g) (h20 : S.2.1 20 = w) (hV : shV w T W C Sa) (hst : stV w T C k) (ht : t < T) (hl : 1 ≤ la w t) (h79 : w 79 = nI L2) (hL2 : L2 ≤ 5) (hr2 : ∀ i, i < L2 → w (74 + i) = nI (lr2 w i) ∧ lr2 w i < C) (h5 : w 5 = nI fr) (hfr : fr ≤ 9999) : ∃ S', d_228 g (nI t) S = some (nI (seN w T L2 fr t), S') ∧ S'.2.1 20 = se5 w T L2 fr t ∧ rc [24, 25] [20, 23] S S' := by
  have hT8 := hV.1.2
  have hC5 := hV.2.2.1.2
  obtain ⟨s, b, s1, s2, s3, s4⟩ := hst.2.2.2.1 t ht
  have ns : nN (w (16 + 5 * t)) = s := by rw [s3]; exact n_cl (by omega)
  have hlt := la_of hst ht
  -- the row behind the three numbers
  obtain ⟨S1, y1, y2, y3⟩ : ∃ S1, (∀ z, (d_228 g (nI t) S = z ↔ j_228_32 g (nI t) S1 = z)) ∧ S1.2.1 20 = se3 w t ∧ rc [] [20] S S1 := by
    have k1 : ∀ S0 : rS, d_217 g (nI t) (nI 4) (-nI 1) S0 = some (rA S0 20 (upd (S0.2.1 20) (16 + 5 * t + 4) (S0.2.1 20 (16 + 5 * t + 4) + -nI 1))) := fun S0 => q_217 (by omega) (by omega)
    have k2 : ∀ S0 : rS, d_217 g (nI t) (nI 2) (-nI 1) S0 = some (rA S0 20 (upd (S0.2.1 20) (16 + 5 * t + 2) (S0.2.1 20 (16 + 5 * t + 2) + -nI 1))) := fun S0 => q_217 (by omega) (by omega)
    have k3 : ∀ S0 : rS, d_217 g (nI t) (nI 0) (nI 1) S0 = some (rA S0 20 (upd (S0.2.1 20) (16 + 5 * t + 0) (S0.2.1 20 (16 + 5 * t + 0) + nI 1))) := fun S0 => q_217 (by omega) (by omega)
    have k4 : ∀ S0 : rS, d_191 g (nI t) (nI 0) S0 = some (S0.2.1 20 (16 + 5 * t + 0), S0) := fun S0 => q_191 (by omega) (by omega)
    have em : nI (la w t) + -nI 1 = nI (la w t - 1) := k_m1n (by omega)
    have e4 : w (16 + 5 * t + 4) + -nI 1 = nI (la w t - 1) := by rw [show 16 + 5 * t + 4 = 20 + 5 * t by omega, hlt.1, em]
    have hd : ∀ z, d_228 g (nI t) S = z ↔ (if nI 9 ≤ nI s then j_228_32 g (nI t) (rA (rA S 20 (upd w (16 + 5 * t + 4) (nI (la w t - 1)))) 20 (upd (upd w (16 + 5 * t + 4) (nI (la w t - 1))) (16 + 5 * t + 2) (w (16 + 5 * t + 2) + -nI 1))) else j_228_32 g (nI t) (rA (rA (rA S 20 (upd w (16 + 5 * t + 4) (nI (la w t - 1)))) 20 (upd (upd w (16 + 5 * t + 4) (nI (la w t - 1))) (16 + 5 * t + 2) (w (16 + 5 * t + 2) + -nI 1))) 20 (upd (upd (upd w (16 + 5 * t + 4) (nI (la w t - 1))) (16 + 5 * t + 2) (w (16 + 5 * t + 2) + -nI 1)) (16 + 5 * t) (nI s + nI 1)))) = z := by
      intro z
      unfold d_228
      have u2 : upd w (16 + 5 * t + 4) (nI (la w t - 1)) (16 + 5 * t + 2) = w (16 + 5 * t + 2) := upd_n (by omega)
      have u0 : upd (upd w (16 + 5 * t + 4) (nI (la w t - 1))) (16 + 5 * t + 2) (w (16 + 5 * t + 2) + -nI 1) (16 + 5 * t) = nI s := by rw [upd_n (by omega), upd_n (by omega)]; exact s3
      simp only [lit_nI, k1, k2, k3, k4, Option.bind_some, up_s, h20, e4, u2, Nat.add_zero, u0]
    by_cases h9 : s < 9
    · refine ⟨_, fun z => (hd z).trans (by rw [if_neg (nI_ge h9 (by omega))]), ?_, ((rc.A (by decide)).tr (rc.A (by decide))).tr (rc.A (by decide))⟩
      rw [rA_s]
      unfold se3
      rw [ns, if_pos h9, nI_add, show 16 + 5 * t + 4 = 20 + 5 * t by omega, show 16 + 5 * t + 2 = 18 + 5 * t by omega]
    · refine ⟨_, fun z => (hd z).trans (by rw [if_pos (nI_le (by omega) (by omega))]), ?_, (rc.A (by decide)).tr (rc.A (by decide))⟩
      rw [rA_s]
      unfold se3
      rw [ns, if_neg h9, show 16 + 5 * t + 4 = 20 + 5 * t by omega, show 16 + 5 * t + 2 = 18 + 5 * t by omega]
      funext j
      by_cases ej : j = 16 + 5 * t
      · subst ej
        rw [upd_s, upd_n (by omega), upd_n (by omega), s3, show s = 9 by omega]
      · rw [upd_n ej (k := 16 + 5 * t)]
  have hV3 : shV (se3 w t) T W C Sa := hV.cw (fun j hj => se3_e (by omega) (by omega) (by omega))
  have hst3 := se3_V hst hT8 hC5 ht
  have e6 : se3 w t 6 = w 6 := se3_e (by omega) (by omega) (by omega)
  have e11 : se3 w t 11 = w 11 := se3_e (by omega) (by omega) (by omega)
  have e8 : se3 w t 8 = w 8 := se3_e (by omega) (by omega) (by omega)
  have e56 : se3 w t (56 + t) = w (56 + t) := se3_e (by omega) (by omega) (by omega)
  have fin : ∀ (S2 : rS) (v : Nat), S2.2.1 20 = se3 w t → rc [24, 25] [20, 23] S S2 → seN w T L2 fr t = v → ∃ S', j_228_76 g (nI t) (nI v) S2 = some (nI (seN w T L2 fr t), S') ∧ S'.2.1 20 = se5 w T L2 fr t ∧ rc [24, 25] [20, 23] S S' := by
    intro S2 v f1 f2 f3
    subst f3
    unfold j_228_76
    have u8 : ∀ z : Int32, upd (se3 w t) 11 z 8 = w 8 := fun z => (upd_n (by omega)).trans e8
    simp (disch := omega) only [lit_nI, k_in, k_cl, if_true, f1, e11, u8]
    exact ⟨_, rfl, rA_s, f2.tr ((rc.A (by decide)).tr (rc.A (by decide)))⟩
  have hrc1 : rc [24, 25] [20, 23] S S1 := y3.mo (by decide) (by decide)
  obtain ⟨S', hS'⟩ : ∃ S', j_228_32 g (nI t) S1 = some (nI (seN w T L2 fr t), S') ∧ S'.2.1 20 = se5 w T L2 fr t ∧ rc [24, 25] [20, 23] S S' := by
    unfold j_228_32
    rcases ag01 hV with ha | ⟨ha, ha2⟩
    · obtain ⟨P, hP1, hP2⟩ := hst.2.2.2.2.2.1 ha
      obtain ⟨S2, z1, z2⟩ := q_227 (g := g) (S := S1) (w := se3 w t) (T := T) (L2 := L2) (fr := fr) hg y2 hV3 (fun t' ht' => la_of hst3 ht') (fun t' ht' => ld_of hst3 ht') ((se3_e (by omega) (by omega) (by omega)).trans h79) hL2 (fun i hi => by
        have e74 : se3 w t (74 + i) = w (74 + i) := se3_e (by omega) (by omega) (by omega)
        unfold lr2
        rw [e74]
        exact hr2 i hi) ((se3_e (by omega) (by omega) (by omega)).trans h5) hfr
      have hcb := clF_b (L2 := L2) (fr := fr) hV3 (lf := la (se3 w t)) (fun t' ht' => (la_of hst3 ht').2) (fun t' ht' => (ld_of hst3 ht').2)
      have f2 : S2.2.1 20 = se3 w t := (z2.2 20 (by decide)).trans y2
      have hrc2 : rc [24, 25] [20, 23] S S2 := hrc1.tr (z2.mo (by decide) (by decide))
      have hsv : seN w T L2 fr t = P - clF (se3 w t) T L2 fr (la (se3 w t)) := by
        unfold seN sbN
        rw [e6, if_pos ha, hP2, n_cl (by omega)]
      simp (disch := omega) only [lit_nI, nI_add, k_in, k_cl, if_true, y2, e6, ha, not_true, if_false, e11, hP2, z1, Option.bind_some]
      by_cases hle : clF (se3 w t) T L2 fr (la (se3 w t)) ≤ P
      · simp (disch := omega) only [k_sub, k_leT, if_true]
        exact fin S2 _ f2 hrc2 hsv
      · rw [if_neg (show ¬ nI 0 ≤ nI P - nI (clF (se3 w t) T L2 fr (la (se3 w t))) from fun z => absurd (pk_sneg (a := P) (b := clF (se3 w t) T L2 fr (la (se3 w t))) (by omega) (by omega)) (Int32.not_lt.mpr z))]
        exact fin S2 0 f2 hrc2 (by rw [hsv]; omega)
    · have hsv : seN w T L2 fr t = ld w t := by
        unfold seN sbN
        rw [e6, if_neg ha2]
        unfold ld
        rw [e56]
      simp (disch := omega) only [lit_nI, nI_add, k_in, k_cl, if_true, y2, e6, ha, k_eqF, not_false_eq_true, e56, (ld_of hst ht).1]
      exact fin S1 _ y2 hrc1 hsv
  exact ⟨S', (y1 _).mpr hS'.1, hS'.2⟩
end SN
