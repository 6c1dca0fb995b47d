/-! look, day -/
section LD
variable {g k : Nat} {m : cM} {S : rS}
set_option maxHeartbeats 1000000 in
theorem sp_look (hg : 2000 ≤ g) (h : Inv k m S) (a : Int32) : St k (d_116 g a m) (d_224 g a S) := by
  obtain ⟨-, -, w, q, x, T, W, C, Sa, R, hc, hr, hpa, him⟩ := id h
  have hV := hc.2.1
  have hst := hc.2.2.1
  have hT8 := hV.1.2
  have hC5 := hV.2.2.1.2
  unfold d_116 d_224
  rw [if_pos hc.cy.1]
  rcases has_th (g := g) (S := S) hc.cy.1 hc.t (by rw [hr.1]; exact hV.1.1) hT8 a with ⟨e1, e2⟩ | ⟨t, ht, rfl, e1, e2⟩
  · rw [e1, e2]
    exact St.no h rfl rfl
  · rw [e1, e2]
    obtain ⟨m1, S1, y1, y2, y3, y4, y5, y6⟩ := keep (g := g) (a1 := 0) hg hc.1.2.1 hst hT8 hC5 hr.1 hpa
    obtain ⟨l, hl1, hl2⟩ := (hst.2.2.2.2.1 t ht).1
    have f20 : S1.2.1 20 = w := (y5.2 20 (by decide)).trans hr.1
    have hs1 : stR m1.1 19 w T := hc.1.2.1.congr (fun i hi => y3 _ (by omega))
    have e23 : m1.1 (19 + 4) t = nI l := (hs1.lo ht).trans hl2
    have eU : cU 19 7 = true := by decide
    obtain ⟨S2, z1, z2, z3, z4⟩ : ∃ S2, d_223 g (nI t) S1 = some S2 ∧ S2.2.1 20 = upd w (19 + 5 * t) (nI (if l < 99 then l + 1 else 99)) ∧ rc [] [20] S1 S2 ∧ S2.2.1 26 = S1.2.1 26 := by
      have k3 : d_191 g (nI t) (nI 3) S1 = some (nI l, S1) := by rw [q_191 (by omega) (by omega), f20, show 16 + 5 * t + 3 = 19 + 5 * t by omega, hl2]
      unfold d_223
      by_cases h99 : l < 99
      · refine ⟨rA S1 20 (upd w (19 + 5 * t) (nI (l + 1))), ?_, ?_, rc.A (by decide), rA_n (by decide)⟩
        · simp (disch := omega) only [lit_nI, k3, Option.bind_some, k_leF, if_false, q_217, f20]
          rw [show 16 + 5 * t + 3 = 19 + 5 * t by omega, hl2, nI_add]
        · rw [rA_s, if_pos h99]
      · refine ⟨S1, ?_, ?_, rc.rf _, rfl⟩
        · simp (disch := omega) only [lit_nI, k3, Option.bind_some, k_leT, if_true]
        · rw [f20, if_neg h99]
          have e : l = 99 := by omega
          subst e
          rw [← hl2]
          funext j
          by_cases ej : j = 19 + 5 * t
          · subst ej; exact upd_s.symm
          · exact (upd_n ej).symm
    have el : (if nI (l + 1) < nI 99 then nI (l + 1) else nI 99) = nI (if l < 99 then l + 1 else 99) := by
      by_cases h1 : l + 1 < 99
      · rw [if_pos (nI_lt h1 (by omega)), if_pos (by omega)]
      · rw [if_neg (nI_nlt (by omega) (by omega))]
        by_cases h2 : l < 99
        · rw [if_pos h2, show l + 1 = 99 by omega]
        · rw [if_neg h2]
    have hs2 : stR (cW m1 23 t (nI (if l < 99 then l + 1 else 99))).1 19 (upd w (19 + 5 * t) (nI (if l < 99 then l + 1 else 99))) T := by
      have := hs1.cell (v := nI (if l < 99 then l + 1 else 99)) hT8 ht (f := 3) (by omega)
      rw [show 16 + 5 * t + 3 = 19 + 5 * t by omega] at this
      exact this
    have hl3 : (if l < 99 then l + 1 else 99) ≤ 99 := by split <;> omega
    have hV2 : stV (upd w (19 + 5 * t) (nI (if l < 99 then l + 1 else 99))) T C (k + 1) := (hst.mo (by omega)).lo hT8 ht hl3
    have ew : ∀ j, j ≤ 6 ∨ j = 10 ∨ 80 ≤ j → upd w (19 + 5 * t) (nI (if l < 99 then l + 1 else 99)) j = w j := fun j hj => upd_n (by omega)
    have hak : ak m (cW m1 23 t (nI (if l < 99 then l + 1 else 99))) := (ak.kp y3 y4).tr (ak.wr (by omega))
    have hrc : rc aI1 aA1 S S2 := (y5.mo (by decide) (by decide)).tr (z3.mo (by decide) (by decide))
    have hc2 := hc.act hak hs2 hV2 ew
    have hr2 : rx S2 (bS3 S) (upd w (19 + 5 * t) (nI (if l < 99 then l + 1 else 99))) q x R := hr.act hrc z2
    have hpa2 : paI (cW m1 23 t (nI (if l < 99 then l + 1 else 99))) S2 (upd w (19 + 5 * t) (nI (if l < 99 then l + 1 else 99))) T C (k + 1) := y6.congr (by omega) (fun b h1 h2 => cW_b (by omega)) (z3.1 27 (by decide)) z4 (fun j hj => ew j (by omega))
    have hI := h.act hc hr him hak hrc z2 hs2 hV2 ew hpa2
    obtain ⟨D, -, hD⟩ := hV2.1
    obtain ⟨m3, p1, p2, p3⟩ := p_91 (g := g) hg hc2 ht hD
    obtain ⟨S3, q1, q2, q3⟩ := q_200 (g := g) hg hr2 hc2.2.1 hc2.2.2.2.2.2.2 hc2.2.2.2.2.1 (hV2.2.2.2.2.1 t ht).1 ht hD
    have e75 : d_75 g 19 (nI t) m1 = some (cW m1 23 t (nI (if l < 99 then l + 1 else 99))) := by
      unfold d_75
      simp (disch := omega) only [eU, if_true, k_in, k_cl, e23, lit_nI, nI_add, Option.bind_some, el]
    simp only [Option.bind_some, z10, not_false_eq_true, if_true, y1, y2, e75, z1, p1, q1]
    refine ⟨_, _, _, rfl, rfl, ?_⟩
    obtain ⟨j1, j2, w', q', x', T', W', C', Sa', R', j3, j4, j5, j6⟩ := hI
    have hm3 := ms.of p2 p3
    have hs3 := rs.of18 q2
    have eB : bS3 S3 = bS3 S2 := by
      unfold bS3
      rw [hs3.2 3 (by decide), hs3.2 5 (by decide), hs3.2 6 (by decide)]
    obtain ⟨n, t1, t2, t3, t4⟩ := j2
    refine ⟨by rw [p3]; exact j1, ⟨n, t1, (hs3.1 1 (by decide)).trans t2, by rw [p2]; exact t3, by rw [p2, hs3.2 0 (by decide)]; exact t4⟩, w', q', x', T', W', C', Sa', R', by rw [eB]; exact j3.ms hm3, by rw [eB]; exact j4.rs hs3, ?_, ?_⟩
    · exact j5.congr (Nat.le_refl _) (fun b _ _ => by rw [p2]) (hs3.1 27 (by decide)) (hs3.2 26 (by decide)) (fun _ _ => rfl)
    · exact j6.congr (Nat.le_refl _) (Nat.le_refl _) (fun b _ _ => by rw [p2]) (fun b _ => by rw [p3]) (by rw [p3]; exact Nat.le_refl _) (hs3.2 43 (by decide)) (hs3.2 44 (by decide)) (hs3.2 45 (by decide)) (hs3.2 46 (by decide))
set_option maxHeartbeats 1000000 in
theorem sp_day (hg : 2000 ≤ g) (hk : k ≤ 600) (h : Inv k m S) : St k (d_119 g m) (d_230 g S) := by
  obtain ⟨-, -, w, q, x, T, W, C, Sa, R, hc, hr, hpa, him⟩ := id h
  have hV := hc.2.1
  have hst := hc.2.2.1
  have hT8 := hV.1.2
  have hC5 := hV.2.2.1.2
  unfold d_119 d_230
  rw [if_pos hc.cy.1]
  rcases is_op (g := g) hc hr with ⟨e1, e2, -⟩ | ⟨e1, e2⟩
  · rw [if_pos e1, e2]
    exact St.no h rfl rfl
  · rw [if_neg e1, e2]
    obtain ⟨D, hD1, hD⟩ := hst.1
    obtain ⟨m1, S1, y1, y2, y3, y4, y5, y6⟩ := keep (g := g) (a1 := 0) hg hc.1.2.1 hst hT8 hC5 hr.1 hpa
    have f20 : S1.2.1 20 = w := (y5.2 20 (by decide)).trans hr.1
    have e7 : S.2.1 20 7 = nI D := by rw [hr.1]; exact hD
    have e13 : m.1 19 13 = nI D := hc.1.2.1.1.2.2.2.2.trans hD
    have e13' : m1.1 19 13 = nI D := by rw [y3 19 (by omega)]; exact e13
    have hs1 : stR m1.1 19 w T := hc.1.2.1.congr (fun i hi => y3 _ (by omega))
    have hs2 : stR (cW m1 19 13 (nI (D + 1))).1 19 (upd w 7 (nI (D + 1))) T := hs1.day hT8
    have hV2 : stV (upd w 7 (nI (D + 1))) T C (k + 1) := (hst.mo (by omega)).dy hT8 hC5 (by omega)
    have ew : ∀ j, j ≤ 6 ∨ j = 10 ∨ 80 ≤ j → upd w 7 (nI (D + 1)) j = w j := fun j hj => upd_n (by omega)
    have hak : ak m (cW m1 19 13 (nI (D + 1))) := (ak.kp y3 y4).tr (ak.wr (by omega))
    have hrc : rc aI1 aA1 S (rA S1 20 (upd w 7 (nI (D + 1)))) := (y5.mo (by decide) (by decide)).tr (rc.A (by decide))
    have hc2 := hc.act hak hs2 hV2 ew
    have p57 := p_57 (g := g) (w := upd w 7 (nI (D + 1))) (m := cW m1 19 13 (nI (D + 1))) (p := (cW m1 19 13 (nI (D + 1))).2.2.1 5) (d := nI (D + 1)) (Sa := Sa) (by omega) hc2.cy.1 (hc2.1.1.1.2.2.2.2.2.2.1.trans hc2.2.1.2.2.2.1.1) hV.2.2.2.1.2 hc2.1.1.2.2.2.1
    have q195 := q_195 (g := g) (S := rA S1 20 (upd w 7 (nI (D + 1)))) (d := nI (D + 1)) (Sa := Sa) (by omega) (by rw [rA_s]; exact hc2.2.1.2.2.2.1.1) hV.2.2.2.1.2
    rw [rA_s] at q195
    have hO2 := hc2.cy.1
    simp (disch := omega) only [Option.bind_some, lit_nI, k_eqF, if_false, k_in, k_cl, if_true, e7, e13, k_ltT, not_false_eq_true, y1, y2, e13', f20, hD, nI_add, upd_s, q195, hO2, cW_s, p57]
    refine ⟨_, _, _, rfl, rfl, ?_⟩
    exact h.act hc hr him hak hrc rA_s hs2 hV2 ew (y6.congr (by omega) (fun b h1 h2 => cW_b (by omega)) rfl (rA_n (by decide)) (fun j hj => ew j (by omega)))
end LD
