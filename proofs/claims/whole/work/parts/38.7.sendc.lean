section SC
variable {g k : Nat} {m : cM} {S : rS} {w : Nat → Int32} {T W C Sa L2 fr : Nat}
theorem p_l96 {a2 p : Nat} {x1 x3 : Int32} (hp : m.2.2.1 5 = p) (hA : ∀ i, i < 8 → cA m a2 (nI i) = true) : ∀ (j i n : Nat), i + j = 8 → j + 1 ≤ n → l_96 g n 0 a2 x1 x3 (sm (m.1 a2) i) (sm (fun t => m.1 a2 t * m.1 25 t) i) (nI i) m = l_96 g (n - j) 0 a2 x1 x3 (sm (m.1 a2) 8) (sm (fun t => m.1 a2 t * m.1 25 t) 8) (nI 8) m := by
  intro j
  induction j with
  | zero =>
    intro i n hi hn
    have e : i = 8 := by omega
    subst e
    rfl
  | succ j ih =>
    intro i n hi hn
    obtain ⟨n, rfl⟩ : ∃ n', n = n' + 1 := ⟨n - 1, by omega⟩
    have hAi := hA i (by omega)
    rw [l_96]
    simp (disch := omega) only [if_true, lit_nI, k_leF, if_false, hAi, k_in, k_cl, nI_add]
    have := ih (i + 1) n (by omega) (by omega)
    rw [show n + 1 - (j + 1) = n - j by omega, ← this]
    rfl
set_option maxHeartbeats 1000000 in
/-- comesBack -/
theorem p_96 {lf : Nat → Nat} {P t a2 : Nat} {x3 : Int32} (hg : 2000 ≤ g) (hV : shV w T W C Sa) (hO : cO m (m.2.2.1 5) 5 = true) (hsp : spO (m.2.2.1 5)) (hS : shR m.1 (m.2.2.1 5) w T W C Sa) (hld : ∀ t, t < T → m.1 25 t = nI (ld w t) ∧ ld w t ≤ 9999) (h9 : m.1 19 9 = nI L2) (hL2 : L2 ≤ 5) (hr2 : ∀ i, i < L2 → m.1 27 i = nI (lr2 w i) ∧ lr2 w i < C) (ha2 : a2 < 406) (hk2 : kd a2 = (0, 8)) (hlf : ∀ t, t < T → m.1 a2 t = nI (lf t) ∧ lf t ≤ 9) (hlz : ∀ t, T ≤ t → t < 8 → m.1 a2 t = 0) (h5 : w 5 = nI fr) (hfr : fr ≤ 9999) (hP : w 6 = nI 1 → x3 = nI P ∧ P ≤ 1000000) (ht : t < T) : ∃ m', d_96 g (nI t) a2 x3 m = some (nI (sbN w T L2 fr lf P t), m') ∧ ms m m' ∧ (∀ b, b ≠ 32 → m'.1 b = m.1 b) := by
  have hT8 := hV.1.2
  have hA : ∀ i, i < 8 → cA m a2 (nI i) = true := fun i hi => cA_of ha2 hk2 hi (by omega)
  have e3 : m.1 (m.2.2.1 5) 3 = w 6 := hS.1.2.2.2.1
  have e2 : m.1 (m.2.2.1 5) 2 = nI fr := hS.1.2.2.1.trans h5
  unfold d_96
  rw [if_pos hO, e3]
  rcases ag01 hV with hag | ⟨hag, hag2⟩
  · rw [hag, if_pos (by decide)]
    obtain ⟨hP1, hP2⟩ := hP hag
    have eS : sm (m.1 a2) 8 = nI (sN lf T) := by
      rw [sm_0 (n := T) hT8 (fun j h1 h2 => hlz j h1 h2)]
      exact sm_N (fun j hj => (hlf j hj).1)
    have eQ : sm (fun t => m.1 a2 t * m.1 25 t) 8 = nI (sN (fun t => lf t * ld w t) T) := by
      rw [sm_0 (n := T) hT8 (fun j h1 h2 => by show m.1 a2 j * m.1 25 j = 0; rw [hlz j h1 h2, Int32.zero_mul])]
      exact sm_N (fun j hj => by show m.1 a2 j * m.1 25 j = _; rw [(hlf j hj).1, (hld j hj).1, pk_mul])
    have hb := sN_b (f := lf) (c := 9) (n := T) (fun t ht => (hlf t ht).2)
    have hb2 := lS_b (w := w) hT8 (fun t ht => (hlf t ht).2) (fun t ht => (hld t ht).2)
    have hcb := clF_b (L2 := L2) (fr := fr) hV (lf := lf) (fun t ht => (hlf t ht).2) (fun t ht => (hld t ht).2)
    have hl := p_l96 (g := g) (m := m) (a2 := a2) (x1 := nI t) (x3 := x3) rfl hA 8 0 g (by omega) (by omega)
    obtain ⟨m1, y1, y2, y3, y4⟩ := p_94 (g := g) (m := m) (w := w) (row := lr2 w) (L := L2) (free := fr) (s := sN (fun t => lf t * ld w t) T) (z := sN lf T) (a3 := 27) (by omega) hV hO hsp hS hL2 (by decide) (fun i hi => cA_of (by omega) kk_27 (by omega) (by omega)) hr2 (by omega) (by omega) (by omega)
    have hcl : (if sN lf T = 0 then 0 else coN w (lr2 w) L2 (sN (fun t => lf t * ld w t) T) fr) = clF w T L2 fr lf := rfl
    rw [hcl] at y1
    obtain ⟨g', hg'⟩ : ∃ q, g - 8 = q + 1 := ⟨g - 9, by omega⟩
    have esb : sbN w T L2 fr lf P t = P - clF w T L2 fr lf := by
      unfold sbN
      rw [if_pos hag]
    refine ⟨m1, ?_, y2, y3⟩
    show l_96 g g 0 a2 (nI t) x3 (sm (m.1 a2) 0) (sm (fun t => m.1 a2 t * m.1 25 t) 0) (nI 0) m = _
    rw [hl, hg', l_96, eS, eQ, hP1, esb]
    simp (disch := omega) only [if_true, lit_nI, Int32.le_refl, hO, h9, e2, y1, Option.bind_some]
    by_cases hle : clF w T L2 fr lf < P
    · simp (disch := omega) only [k_sub, k_ltT, if_true]
    · by_cases heq : clF w T L2 fr lf = P
      · rw [heq]
        simp (disch := omega) only [k_sub, Nat.sub_self, ite_self]
      · have hneg : (nI 0 < nI P - nI (clF w T L2 fr lf)) = False := eq_false (fun z => absurd (pk_sneg (a := P) (b := clF w T L2 fr lf) (by omega) (by omega)) (Int32.not_lt.mpr (Int32.le_of_lt z)))
        simp only [hneg, if_false]
        rw [show P - clF w T L2 fr lf = 0 by omega]
  · rw [hag, if_neg (by decide)]
    have esb : sbN w T L2 fr lf P t = ld w t := by
      unfold sbN
      rw [if_neg hag2]
    refine ⟨m, ?_, ms.rf _, fun _ _ => rfl⟩
    rw [esb]
    simp (disch := omega) only [k_in, if_true, k_cl, (hld t ht).1]
/-- paid -/
theorem stR.pd {a : Nat} {u v : Int32} (h : stR m.1 a w T) (hT : T ≤ 8) : stR (cW (cW m a 12 u) a 11 v).1 a (upd (upd w 11 u) 8 v) T := by
  obtain ⟨h1, h2, h3, h4, h5, h6, ⟨U, u1, u2, u3⟩⟩ := h
  have e0 : ∀ b, b ≠ a → (cW (cW m a 12 u) a 11 v).1 b = m.1 b := fun b hb => by rw [cW_b hb, cW_b hb]
  have e7 : ∀ j, j ≠ 11 → j ≠ 8 → upd (upd w 11 u) 8 v j = w j := fun j h1 h2 => by rw [upd_n h2, upd_n h1]
  refine ⟨⟨?_, ?_, ?_, ?_, ?_⟩, fun t' ht' f' hf' => ?_, fun t' ht' => ?_, fun t' ht' ht2 => ?_, fun i hi => ?_, fun i hi => ?_, ⟨U, u1, ?_, fun c hc => ?_⟩⟩
  · rw [cW_k (by decide), cW_k (by decide), e7 9 (by omega) (by omega)]; exact h1.1
  · rw [cW_k (by decide), cW_k (by decide), e7 79 (by omega) (by omega)]; exact h1.2.1
  · rw [cW_s, upd_s]
  · rw [cW_k (by decide), cW_s, upd_n (by omega), upd_s]
  · rw [cW_k (by decide), cW_k (by decide), e7 7 (by omega) (by omega)]; exact h1.2.2.2.2
  · have := fo5_b hf'
    rw [e0 _ (by omega), e7 _ (by omega) (by omega)]; exact h2 t' ht' f' hf'
  · rw [e0 _ (by omega), e7 _ (by omega) (by omega)]; exact h3 t' ht'
  · rw [e0 _ (by omega), e0 _ (by omega)]; exact h4 t' ht' ht2
  · rw [e7 9 (by omega) (by omega)] at hi
    rw [e0 _ (by omega), e7 _ (by omega) (by omega)]; exact h5 i hi
  · rw [e7 79 (by omega) (by omega)] at hi
    rw [e0 _ (by omega), e7 _ (by omega) (by omega)]; exact h6 i hi
  · rw [cW_k (by decide), cW_k (by decide)]; exact u2
  · rw [e7 _ (by omega) (by omega)]; exact u3 c hc
theorem stV.pd {u v : Int32} (h : stV w T C k) (hT : T ≤ 8) (hC : C ≤ 5) (hu : w 6 = nI 1 → bd u 1000000) : stV (upd (upd w 11 u) 8 v) T C k := by
  obtain ⟨h1, ⟨L, a1, a2, a3, a4⟩, ⟨L2, b1, b2, b3⟩, h4, h5, h6⟩ := h
  have e : ∀ j, j ≠ 11 → j ≠ 8 → upd (upd w 11 u) 8 v j = w j := fun j h1 h2 => by rw [upd_n h2, upd_n h1]
  refine ⟨by rw [e 7 (by omega) (by omega)]; exact h1, ⟨L, a1, by rw [e 9 (by omega) (by omega)]; exact a2, fun i hi => ?_, fun i j hi hj => ?_⟩, ⟨L2, b1, by rw [e 79 (by omega) (by omega)]; exact b2, fun i hi => ?_⟩, fun t' ht' => ?_, fun t' ht' => ?_, ?_⟩
  · rw [e _ (by omega) (by omega)]; exact a3 i hi
  · rw [e _ (by omega) (by omega), e _ (by omega) (by omega)]; exact a4 i j hi hj
  · rw [e _ (by omega) (by omega)]; exact b3 i hi
  · rw [e _ (by omega) (by omega), e _ (by omega) (by omega)]; exact h4 t' ht'
  · rw [e _ (by omega) (by omega), e _ (by omega) (by omega), e _ (by omega) (by omega)]; exact h5 t' ht'
  · exact ⟨by rw [e 6 (by omega) (by omega), upd_n (by omega), upd_s]; exact hu, by rw [bs17_c (fun t ht => e _ (by omega) (by omega))]; exact h6.2⟩
theorem se5_V {t : Nat} (hV : shV w T W C Sa) (h : stV w T C k) (ht : t < T) (hl : 1 ≤ la w t) : stV (se5 w T L2 fr t) T C k := by
  have hT := hV.1.2
  have hC := hV.2.2.1.2
  have e6 : se3 w t 6 = w 6 := se3_e (by omega) (by omega) (by omega)
  have h3 := se3_V h hT hC ht
  have e11 : se3 w t 11 = w 11 := se3_e (by omega) (by omega) (by omega)
  refine h3.pd hT hC (fun ha => ?_)
  obtain ⟨P, hP1, hP2⟩ := h.2.2.2.2.2.1 (e6 ▸ ha)
  have hsv : seN w T L2 fr t = P - clF (se3 w t) T L2 fr (la (se3 w t)) := by
    unfold seN sbN
    rw [if_pos ha, hP2, n_cl (by omega)]
  refine ⟨P - seN w T L2 fr t, by omega, ?_⟩
  rw [hP2, k_sub (by omega)]
set_option maxHeartbeats 2000000 in
theorem sp_sendBack (hg : 2000 ≤ g) (h : Inv k m S) (a : Int32) : St k (d_118 g a m) (d_229 g a S) := by
  obtain ⟨-, -, w, q, x, T, W, C, Sa, R, hc, hr, hpa, him⟩ := id h
  have hV := hc.2.1
  have hst := hc.2.2.1
  have hT8 := hV.1.2
  have hC5 := hV.2.2.1.2
  obtain ⟨L2, l1, l2, l3, l4⟩ := lr2_of hst hC5
  obtain ⟨fr, hf1, hf2⟩ := hV.2.2.2.2.2.2.1
  unfold d_118 d_229
  rw [if_pos hc.cy.1]
  rcases has_th (g := g) (S := S) hc.cy.1 hc.t (by rw [hr.1]; exact hV.1.1) hT8 a with ⟨e1, e2⟩ | ⟨t, ht, rfl, e1, e2⟩
  · rw [e1, e2]
    exact St.no h rfl rfl
  · rw [e1, e2]
    have hla := la_of hst ht
    obtain ⟨s, b, s1, s2, s3, s4⟩ := hst.2.2.2.1 t ht
    have ns : nN (w (16 + 5 * t)) = s := by rw [s3]; exact n_cl (by omega)
    have k0 : d_191 g (nI t) (nI 4) S = some (nI (la w t), S) := by rw [q_191 (by omega) (by omega), hr.1, show 16 + 5 * t + 4 = 20 + 5 * t by omega, hla.1]
    have e24 : m.1 24 t = nI (la w t) := (hc.1.2.1.la ht).trans hla.1
    by_cases h0 : la w t = 0
    · simp (disch := omega) only [Option.bind_some, lit_nI, k_eqF, k_eqT, if_false, if_true, k_in, k_cl, e24, k_leF, k0, not_true, h0]
      exact St.no h rfl rfl
    · obtain ⟨m1, S1, y1, y2, y3, y4, y5, y6⟩ := keep (g := g) (a1 := 0) hg hc.1.2.1 hst hT8 hC5 hr.1 hpa
      have f20 : S1.2.1 20 = w := (y5.2 20 (by decide)).trans hr.1
      obtain ⟨S2, z1, z2, z3⟩ := q_228 (g := g) (S := S1) (t := t) hg f20 hV hst ht (by omega) l2 (by omega) l4 hf2 hf1
      have hs1 : stR m1.1 19 w T := hc.1.2.1.congr (fun i hi => y3 _ (by omega))
      -- the class's state behind the three numbers
      have em : nI (la w t) - nI 1 = nI (la w t - 1) := k_sub (by omega)
      have c1 := hs1.cell (v := nI (la w t - 1)) hT8 ht (f := 4) (by omega)
      have c2 := c1.cell (v := w (18 + 5 * t) + -nI 1) hT8 ht (f := 2) (by omega)
      have c3 := c2.cell (v := nI (if s < 9 then s + 1 else 9)) hT8 ht (f := 0) (by omega)
      rw [show 16 + 5 * t + 4 = 20 + 5 * t by omega, show 16 + 5 * t + 2 = 18 + 5 * t by omega] at c3
      obtain ⟨m2, hm2⟩ : ∃ m2, m2 = cW (cW (cW m1 24 t (nI (la w t - 1))) 22 t (w (18 + 5 * t) + -nI 1)) 21 t (nI (if s < 9 then s + 1 else 9)) := ⟨_, rfl⟩
      have hs3 : stR m2.1 19 (se3 w t) T := by
        rw [hm2]
        unfold se3
        rw [ns]
        exact c3
      have hak2 : ak m m2 := by
        rw [hm2]
        exact (((ak.kp y3 y4).tr (ak.wr (by omega))).tr (ak.wr (by omega))).tr (ak.wr (by omega))
      have ew3 : ∀ j, j ≤ 6 ∨ j = 10 ∨ 80 ≤ j → se3 w t j = w j := fun j hj => se3_e (by omega) (by omega) (by omega)
      have hst3 := se3_V hst hT8 hC5 ht
      have hc3 := hc.act hak2 hs3 (hst3.mo (by omega)) ew3
      have e11 : se3 w t 11 = w 11 := se3_e (by omega) (by omega) (by omega)
      have e8 : se3 w t 8 = w 8 := se3_e (by omega) (by omega) (by omega)
      have e12 : m2.1 19 12 = w 11 := hs3.1.2.2.2.1.trans e11
      have e1911 : m2.1 19 11 = w 8 := hs3.1.2.2.1.trans e8
      have e79 : se3 w t 79 = nI L2 := (se3_e (by omega) (by omega) (by omega)).trans l2
      obtain ⟨m3, u1, u2, u3⟩ := p_96 (g := g) (m := m2) (w := se3 w t) (lf := la (se3 w t)) (P := nN (w 11)) (t := t) (a2 := 24) (x3 := w 11) (L2 := L2) (fr := fr) hg hc3.2.1 hc3.cy.1 hc3.cy.2.1 hc3.cy.2.2.1 (fun t' ht' => ⟨(hs3.2.2.1 t' ht').trans (ld_of hst3 ht').1, (ld_of hst3 ht').2⟩) (hs3.1.2.1.trans e79) (by omega) (fun i hi => by
        have := hs3.2.2.2.2.2.1 i (by rw [e79, n_cl (by omega)]; exact hi)
        have e74 : se3 w t (74 + i) = w (74 + i) := se3_e (by omega) (by omega) (by omega)
        unfold lr2
        rw [e74] at this ⊢
        exact ⟨this.trans (l4 i hi).1, (l4 i hi).2⟩) (by omega) kk_24 (fun t' ht' => ⟨(hs3.la ht').trans (la_of hst3 ht').1, (la_of hst3 ht').2⟩) (fun t' h1 h2 => (hs3.2.2.2.1 t' h1 h2).2) ((se3_e (by omega) (by omega) (by omega)).trans hf2) hf1 (fun ha => by
        have e6 : se3 w t 6 = w 6 := se3_e (by omega) (by omega) (by omega)
        have := nI_nN (hst.2.2.2.2.2.1 (e6 ▸ ha)) (by omega)
        exact ⟨this.1.symm, this.2⟩) ht
      have e22 : ∀ v, (cW m1 24 t v).1 22 t = w (18 + 5 * t) := fun v => by rw [cW_b (by decide)]; exact hs1.ha ht
      have e21 : ∀ u v, (cW (cW m1 24 t v) 22 t u).1 21 t = nI s := fun u v => by rw [cW_b (by decide), cW_b (by decide)]; exact (hs1.st ht).trans s3
      have e24' : m1.1 24 t = nI (la w t) := by rw [y3 24 (by omega)]; exact e24
      have esub : w (18 + 5 * t) - nI 1 = w (18 + 5 * t) + -nI 1 := Int32.sub_eq_add_neg _ _
      have el : (if nI (s + 1) < nI 9 then nI (s + 1) else nI 9) = nI (if s < 9 then s + 1 else 9) := by
        by_cases h1 : s + 1 < 9
        · rw [if_pos (nI_lt h1 (by omega)), if_pos (by omega)]
        · rw [if_neg (nI_nlt (by omega) (by omega))]
          by_cases h2 : s < 9
          · rw [if_pos h2, show s + 1 = 9 by omega]
          · rw [if_neg h2]
      have e12' : m3.1 19 12 = w 11 := by rw [u3 19 (by decide)]; exact e12
      have e11' : ∀ v, (cW m3 19 12 v).1 19 11 = w 8 := fun v => by rw [cW_k (by decide), u3 19 (by decide)]; exact e1911
      simp (disch := omega) only [Option.bind_some, lit_nI, k_eqF, not_false_eq_true, if_true, if_false, k_in, k_cl, e24, k_leT, k0, y1, y2, e24', em, e22, esub, e21, nI_add, el]
      rw [← hm2, e12, u1, Option.bind_some, z1]
      simp only [e12', e11', Option.bind_some]
      refine ⟨_, _, _, rfl, rfl, ?_⟩
      have hs4 : stR (cW (cW m3 19 12 (w 11 - nI (seN w T L2 fr t))) 19 11 (w 8 - nI (seN w T L2 fr t))).1 19 (se5 w T L2 fr t) T := by
        have : stR m3.1 19 (se3 w t) T := hs3.congr (fun i hi => u3 _ (by omega))
        exact this.pd hT8
      have ew5 : ∀ j, j ≤ 6 ∨ j = 10 ∨ 80 ≤ j → se5 w T L2 fr t j = w j := fun j hj => by
        unfold se5
        rw [upd_n (by omega), upd_n (by omega)]
        exact ew3 j hj
      refine h.act hc hr him (((hak2.tr (ak.ms u2)).tr (ak.wr (by omega))).tr (ak.wr (by omega))) ((y5.mo (by decide) (by decide)).tr (z3.mo (by decide) (by decide))) z2 hs4 ((se5_V hV hst ht (by omega)).mo (by omega)) ew5 (y6.congr (by omega) (fun b h1 h2 => ?_) (z3.1 27 (by decide)) (z3.2 26 (by decide)) (fun j hj => ew5 j (by omega)))
      rw [cW_b (by omega), cW_b (by omega), u3 b (by omega), hm2, cW_b (by omega), cW_b (by omega), cW_b (by omega)]
end SC
