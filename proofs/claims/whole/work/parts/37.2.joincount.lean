/-! join, count; feed, end, force, seed, told -/
section JC
variable {g k : Nat} {m : cM} {S : rS} {B : rB} {w : Nat → Int32} {q T W C Sa R : Nat} {x : Int32}
set_option maxHeartbeats 1000000 in
theorem s_join (hg : 2000 ≤ g) (h : Inv k m S) (a : Int32) : St k (d_126 g a m) (d_256 g a S) := by
  obtain ⟨-, -, w, q, x, T, W, C, Sa, R, hc, hr, -, -⟩ := id h
  have hV := hc.2.1
  have hst := hc.2.2.1
  have hC5 := hV.2.2.1.2
  obtain ⟨L, hL1, hL2, -, hL4⟩ := lr_of hst hC5
  obtain ⟨D, -, hD⟩ := hst.1
  obtain ⟨fr, hf1, hf2⟩ := hV.2.2.2.2.2.2.1
  obtain ⟨ca, hca1, hca2⟩ := hV.2.2.2.2.2.1
  have hb : ∀ t, t < T → w (17 + 5 * t) = nI (bk w t) := fun t ht => (bk_of hst ht).1
  have hM := bM_b hst hV.1.2
  have hSb := bS_b (B := bS3 S) (q := q) (D := D) hV hst
  unfold d_126 d_256
  rw [if_pos hc.cy.1]
  rcases is_op (g := g) hc hr with ⟨e1, e2, -⟩ | ⟨e1, e2⟩
  · rw [if_pos e1, e2]
    exact St.no h rfl rfl
  · rw [if_neg e1, e2]
    simp only [Option.bind_some, z10, if_false]
    rw [q_140 (a := 1) (b := 9999) (a' := 1) (b' := 9999) (by decide) (by decide), Option.bind_some, p_138, Option.bind_some]
    by_cases hb2 : (1 : Int32) ≤ a ∧ a ≤ 9999
    · obtain ⟨s, hs1, hs2, rfl⟩ := rng (a := 1) (b := 9999) (by omega) (by omega) hb2
      rw [if_pos hb2]
      obtain ⟨m1, y1, y2, y3, y4⟩ := p_93 (g := g) hg hc hD hL2 (by omega) hL4 hf2 hf1
      obtain ⟨S1, z1, z2, z3, z4⟩ := q_212 (g := g) (m := m) (free := fr) hg hr hV hst hc.2.2.2.2.2.2 hc.2.2.2.2.1 hD hL2 (by omega) hL4 (by omega)
      have hc1 := hc.ms y2
      have hr1 : rx S1 (bS3 S) w q x R := hr.rs (z3.mo (by decide) (by decide))
      obtain ⟨m2, u1, u2, u3⟩ := p_92 (g := g) hg hD hc1
      have hc2 := hc1.ms (ms.of u2 u3)
      obtain ⟨S2, v1, v2, v3, v4, v5⟩ := q_206 (g := g) (S := S1) (w := w) (fr := 64) (L := L) (by omega) (by omega) (by omega) hr1.1
      have hr2 : rx S2 (bS3 S) w q x R := hr1.rs (v4.mo (by decide) (by decide))
      obtain ⟨S3, t1, t2, t3⟩ := q_210 (g := g) (m := m) (D := D) hg hV hc.2.2.2.2.2.2 hc.2.2.2.2.1 (fun t ht => (hst.2.2.2.2.1 t ht).1) hD hb hr2
      have hr3 : rx S3 (bS3 S) w q x R := hr2.rs (rs.of18 t2)
      have e8 : m2.1 19 8 = nI L := hc2.1.2.1.1.1.trans hL2
      have e26 : ∀ i, i < L → m2.1 26 i = nI (lr w i) ∧ lr w i < C := fun i hi => by
        have := hc2.1.2.1.2.2.2.2.1 i (by rw [hL2, n_cl (by omega)]; exact hi)
        exact ⟨this.trans (hL4 i hi).1, (hL4 i hi).2⟩
      obtain ⟨m3, r1, r2, r3, r4⟩ := p_94 (g := g) (m := m2) (w := w) (row := lr w) (L := L) (free := fr) (s := bS (bS3 S) w q T D + s) (z := bM w T + 1) (a3 := 26) (by omega) hV hc2.cy.1 hc2.cy.2.1 hc2.cy.2.2.1 (by omega) (by decide) (fun i hi => cA_of (by omega) kk_26 (by omega) (by omega)) e26 (by omega) (by omega) (by omega)
      have e24 : S3.1 24 = nI L := (t2.1 24 (by decide)).trans v2
      have e23 : ∀ i, i < L → S3.2.1 23 i = nI (lr w i) ∧ lr w i < C := fun i hi => by
        rw [t2.2 23 (by decide), v3 i hi]
        exact hL4 i hi
      have w1 := q_207 (g := g) (S := S3) (w := w) (row := lr w) (L := L) (free := fr) (s := bS (bS3 S) w q T D + s) (by omega) hV hr3.1 e24 (by omega) e23 (by omega) (by omega)
      have f5 : ∀ S' : rS, S'.2.1 20 = w → S'.2.1 20 5 = nI fr := fun S' e => by rw [e]; exact hf2
      have f9 : S1.2.1 20 9 = nI L := by rw [hr1.1]; exact hL2
      have f4 : S1.2.1 20 4 = nI ca := by rw [hr1.1]; exact hca2
      have g2 : m1.1 (m1.2.2.1 5) 2 = nI fr := hc1.cy.2.2.1.1.2.2.1.trans hf2
      have g1 : m1.1 (m1.2.2.1 5) 1 = nI ca := hc1.cy.2.2.1.1.2.1.trans hca2
      have g22 : m2.1 (m2.2.2.1 5) 2 = nI fr := hc2.cy.2.2.1.1.2.2.1.trans hf2
      have hj : ∀ s0 s1 : Int32, j_256_55 g (nI s) s0 s1 S1 = some (s1 + s0 - nI (coN w (lr w) L (bS (bS3 S) w q T D + s) fr), rF S3 25 (nI (caN w fr (ctN w (lr w) L 0 (bS (bS3 S) w q T D + s) false)))) := by
        intro s0 s1
        unfold j_256_55
        simp (disch := omega) only [lit_nI, k_in, k_cl, if_true, f9, v1, Option.bind_some, t1, nI_add, f5 S3 hr3.1, w1]
      have hrs : rs S (rF S3 25 (nI (caN w fr (ctN w (lr w) L 0 (bS (bS3 S) w q T D + s) false)))) := (((z3.mo (by decide) (by decide)).tr (v4.mo (by decide) (by decide))).tr (rs.of18 t2)).tr (rc.F (by decide))
      have hms : ms m m3 := (y2.tr (ms.of u2 u3)).tr r2
      simp only [z10, not_false_eq_true, if_true, Option.bind_some]
      rw [y1]
      simp only [Option.bind_some]
      rw [p_73 (g := g) (m := m1) (by omega) (by decide) hV.1.2 hc1.1.2.1 hb]
      unfold d_95
      simp (disch := omega) only [lit_nI, k_leF, if_false, hc1.cy.1, if_true, g1, g2, Option.bind_some, u1, hc2.cy.1, g22, e8, nI_add, r1, k_in, k_cl, f5 S hr.1, z1, f5 S1 hr1.1, f4, hj]
      by_cases hf : fr ≤ s
      · simp (disch := omega) only [k_leT, if_true, Option.bind_some, nI_add, Nat.add_zero]
        refine St.scr h ?_ rfl hms hrs
        rw [if_neg (by omega)]
      · simp (disch := omega) only [k_leF, if_false, Option.bind_some, nI_add]
        refine St.scr h ?_ rfl hms hrs
        rw [if_neg (by omega), Nat.add_assoc]
    · rw [if_neg hb2]
      exact St.no h rfl rfl
set_option maxHeartbeats 1000000 in
theorem s_count (hg : 2000 ≤ g) (h : Inv k m S) (a : Int32) : St k ((d_135 g a m).map (fun v => (v, m))) (d_270 g a S) := by
  obtain ⟨-, ⟨n, -, tn1, tn2, -⟩, w, q, x, T, W, C, Sa, R, hc, hr, ⟨nx, kp, -, -, -, pa1, pa2, -⟩, -⟩ := id h
  have hV := hc.2.1
  have hst := hc.2.2.1
  have hb : ∀ t, t < T → w (17 + 5 * t) = nI (bk w t) := fun t ht => (bk_of hst ht).1
  have hO := hc.cy.1
  have hsh := hc.1.1.1
  have hs := hc.1.2.1.1
  have ht := hc.1.2.2.1
  unfold d_135 d_270
  have no : (∀ j : Nat, j < 15 → ¬ a = nI j) → St k ((d_135 g a m).map (fun v => (v, m))) (d_270 g a S) := by
    intro hn
    unfold d_135 d_270
    simp only [lit_nI, hn 0 (by omega), hn 1 (by omega), hn 2 (by omega), hn 3 (by omega), hn 4 (by omega), hn 5 (by omega), hn 6 (by omega), hn 7 (by omega), hn 8 (by omega), hn 9 (by omega), hn 10 (by omega), hn 11 (by omega), hn 12 (by omega), hn 13 (by omega), hn 14 (by omega), if_false]
    exact St.no h rfl rfl
  rcases k_ix a 15 (by omega) with h1 | ⟨h1, h0⟩ | ⟨j, hj, rfl⟩
  · exact no (fun j hj e => nI_pos (by omega) (e ▸ h1))
  · exact no (fun j hj e => nI_ge hj (by omega) (e ▸ h1))
  · have q5 : m.1 5 2 = rI q := ht.1
    have q6 : m.1 5 3 = x := ht.2.1
    have q7 : m.1 5 8 = w 180 := ht.2.2
    have q8 : m.1 19 13 = w 7 := hs.2.2.2.2
    have q9 : m.1 19 11 = w 8 := hs.2.2.1
    have q10 : m.1 19 8 = w 9 := hs.1
    have q11 : m.1 32 2 = nI R := hc.2.2.2.2.2.2.2.1
    have p73 := p_73 (g := g) (m := m) (a1 := 19) (by omega) (by decide) hV.1.2 hc.1.2.1 hb
    have q209 := q_209 (g := g) (S := S) (w := w) (T := T) (by omega) hr.1 hV.1.1 hV.1.2 hb
    match j, hj with
    | 0, _ =>
      simp (disch := omega) only [lit_nI, k_eqT, k_eqF, if_true, if_false, hO, hsh.1, hsh.2.1, hsh.2.2.1, hsh.2.2.2.2.1, hsh.2.2.2.2.2.1, hsh.2.2.2.2.2.2.2, k_in, k_cl, hr.1, hr.2.1, hr.2.2.1, hr.2.2.2.2.2.2, q5, q6, q7, q8, q9, q10, q11, p73, q209, Option.bind_some, pa1, pa2, tn1, tn2]
      exact St.no h rfl rfl
    | 1, _ =>
      simp (disch := omega) only [lit_nI, k_eqT, k_eqF, if_true, if_false, hO, hsh.1, hsh.2.1, hsh.2.2.1, hsh.2.2.2.2.1, hsh.2.2.2.2.2.1, hsh.2.2.2.2.2.2.2, k_in, k_cl, hr.1, hr.2.1, hr.2.2.1, hr.2.2.2.2.2.2, q5, q6, q7, q8, q9, q10, q11, p73, q209, Option.bind_some, pa1, pa2, tn1, tn2]
      exact St.no h rfl rfl
    | 2, _ =>
      simp (disch := omega) only [lit_nI, k_eqT, k_eqF, if_true, if_false, hO, hsh.1, hsh.2.1, hsh.2.2.1, hsh.2.2.2.2.1, hsh.2.2.2.2.2.1, hsh.2.2.2.2.2.2.2, k_in, k_cl, hr.1, hr.2.1, hr.2.2.1, hr.2.2.2.2.2.2, q5, q6, q7, q8, q9, q10, q11, p73, q209, Option.bind_some, pa1, pa2, tn1, tn2]
      exact St.no h rfl rfl
    | 3, _ =>
      simp (disch := omega) only [lit_nI, k_eqT, k_eqF, if_true, if_false, hO, hsh.1, hsh.2.1, hsh.2.2.1, hsh.2.2.2.2.1, hsh.2.2.2.2.2.1, hsh.2.2.2.2.2.2.2, k_in, k_cl, hr.1, hr.2.1, hr.2.2.1, hr.2.2.2.2.2.2, q5, q6, q7, q8, q9, q10, q11, p73, q209, Option.bind_some, pa1, pa2, tn1, tn2]
      exact St.no h rfl rfl
    | 4, _ =>
      simp (disch := omega) only [lit_nI, k_eqT, k_eqF, if_true, if_false, hO, hsh.1, hsh.2.1, hsh.2.2.1, hsh.2.2.2.2.1, hsh.2.2.2.2.2.1, hsh.2.2.2.2.2.2.2, k_in, k_cl, hr.1, hr.2.1, hr.2.2.1, hr.2.2.2.2.2.2, q5, q6, q7, q8, q9, q10, q11, p73, q209, Option.bind_some, pa1, pa2, tn1, tn2]
      exact St.no h rfl rfl
    | 5, _ =>
      simp (disch := omega) only [lit_nI, k_eqT, k_eqF, if_true, if_false, hO, hsh.1, hsh.2.1, hsh.2.2.1, hsh.2.2.2.2.1, hsh.2.2.2.2.2.1, hsh.2.2.2.2.2.2.2, k_in, k_cl, hr.1, hr.2.1, hr.2.2.1, hr.2.2.2.2.2.2, q5, q6, q7, q8, q9, q10, q11, p73, q209, Option.bind_some, pa1, pa2, tn1, tn2]
      exact St.no h rfl rfl
    | 6, _ =>
      simp (disch := omega) only [lit_nI, k_eqT, k_eqF, if_true, if_false, hO, hsh.1, hsh.2.1, hsh.2.2.1, hsh.2.2.2.2.1, hsh.2.2.2.2.2.1, hsh.2.2.2.2.2.2.2, k_in, k_cl, hr.1, hr.2.1, hr.2.2.1, hr.2.2.2.2.2.2, q5, q6, q7, q8, q9, q10, q11, p73, q209, Option.bind_some, pa1, pa2, tn1, tn2]
      exact St.no h rfl rfl
    | 7, _ =>
      simp (disch := omega) only [lit_nI, k_eqT, k_eqF, if_true, if_false, hO, hsh.1, hsh.2.1, hsh.2.2.1, hsh.2.2.2.2.1, hsh.2.2.2.2.2.1, hsh.2.2.2.2.2.2.2, k_in, k_cl, hr.1, hr.2.1, hr.2.2.1, hr.2.2.2.2.2.2, q5, q6, q7, q8, q9, q10, q11, p73, q209, Option.bind_some, pa1, pa2, tn1, tn2]
      exact St.no h rfl rfl
    | 8, _ =>
      simp (disch := omega) only [lit_nI, k_eqT, k_eqF, if_true, if_false, hO, hsh.1, hsh.2.1, hsh.2.2.1, hsh.2.2.2.2.1, hsh.2.2.2.2.2.1, hsh.2.2.2.2.2.2.2, k_in, k_cl, hr.1, hr.2.1, hr.2.2.1, hr.2.2.2.2.2.2, q5, q6, q7, q8, q9, q10, q11, p73, q209, Option.bind_some, pa1, pa2, tn1, tn2]
      exact St.no h rfl rfl
    | 9, _ =>
      simp (disch := omega) only [lit_nI, k_eqT, k_eqF, if_true, if_false, hO, hsh.1, hsh.2.1, hsh.2.2.1, hsh.2.2.2.2.1, hsh.2.2.2.2.2.1, hsh.2.2.2.2.2.2.2, k_in, k_cl, hr.1, hr.2.1, hr.2.2.1, hr.2.2.2.2.2.2, q5, q6, q7, q8, q9, q10, q11, p73, q209, Option.bind_some, pa1, pa2, tn1, tn2]
      exact St.no h rfl rfl
    | 10, _ =>
      simp (disch := omega) only [lit_nI, k_eqT, k_eqF, if_true, if_false, hO, hsh.1, hsh.2.1, hsh.2.2.1, hsh.2.2.2.2.1, hsh.2.2.2.2.2.1, hsh.2.2.2.2.2.2.2, k_in, k_cl, hr.1, hr.2.1, hr.2.2.1, hr.2.2.2.2.2.2, q5, q6, q7, q8, q9, q10, q11, p73, q209, Option.bind_some, pa1, pa2, tn1, tn2]
      exact St.no h rfl rfl
    | 11, _ =>
      simp (disch := omega) only [lit_nI, k_eqT, k_eqF, if_true, if_false, hO, hsh.1, hsh.2.1, hsh.2.2.1, hsh.2.2.2.2.1, hsh.2.2.2.2.2.1, hsh.2.2.2.2.2.2.2, k_in, k_cl, hr.1, hr.2.1, hr.2.2.1, hr.2.2.2.2.2.2, q5, q6, q7, q8, q9, q10, q11, p73, q209, Option.bind_some, pa1, pa2, tn1, tn2]
      exact St.no h rfl rfl
    | 12, _ =>
      simp (disch := omega) only [lit_nI, k_eqT, k_eqF, if_true, if_false, hO, hsh.1, hsh.2.1, hsh.2.2.1, hsh.2.2.2.2.1, hsh.2.2.2.2.2.1, hsh.2.2.2.2.2.2.2, k_in, k_cl, hr.1, hr.2.1, hr.2.2.1, hr.2.2.2.2.2.2, q5, q6, q7, q8, q9, q10, q11, p73, q209, Option.bind_some, pa1, pa2, tn1, tn2]
      exact St.no h rfl rfl
    | 13, _ =>
      simp (disch := omega) only [lit_nI, k_eqT, k_eqF, if_true, if_false, hO, hsh.1, hsh.2.1, hsh.2.2.1, hsh.2.2.2.2.1, hsh.2.2.2.2.2.1, hsh.2.2.2.2.2.2.2, k_in, k_cl, hr.1, hr.2.1, hr.2.2.1, hr.2.2.2.2.2.2, q5, q6, q7, q8, q9, q10, q11, p73, q209, Option.bind_some, pa1, pa2, tn1, tn2]
      exact St.no h rfl rfl
    | 14, _ =>
      simp (disch := omega) only [lit_nI, k_eqT, k_eqF, if_true, if_false, hO, hsh.1, hsh.2.1, hsh.2.2.1, hsh.2.2.2.2.1, hsh.2.2.2.2.2.1, hsh.2.2.2.2.2.2.2, k_in, k_cl, hr.1, hr.2.1, hr.2.2.1, hr.2.2.2.2.2.2, q5, q6, q7, q8, q9, q10, q11, p73, q209, Option.bind_some, pa1, pa2, tn1, tn2]
      exact St.no h rfl rfl
end JC
