/-! image, back -/
section IM
variable {g k : Nat} {m : cM} {S : rS} {w : Nat → Int32} {T W C Sa : Nat}
theorem cP_s {a v : Nat} : (cP m a v).2.2.1 a = v := up_s (f := m.2.2.1)
theorem cP_n {a v b : Nat} (h : b ≠ a) : (cP m a v).2.2.1 b = m.2.2.1 b := up_n (f := m.2.2.1) h
set_option maxHeartbeats 2000000 in
/-- World.become -/
theorem p_99 {a0 a1 : Nat} {fo x : Int32} (h0 : cU a0 10 = true) (h1 : cU a1 10 = true) (h0' : cU (a0 + 14) 7 = true) (h1' : cU (a1 + 14) 7 = true) (ha : a0 + 27 ≤ a1 ∨ a1 + 27 ≤ a0) (hp : ∀ i, i ≤ 12 → m.2.2.1 a1 + i ≠ a0 ∧ (m.2.2.1 a1 + i < a0 + 14 ∨ a0 + 26 < m.2.2.1 a1 + i)) (hT : T ≤ 8) (hC : C ≤ 5) (hw : wR m a1 w fo x T W C Sa) (hst : stV w T C k) (htd : tdV w T) : ∃ m', d_99 g a0 a1 m = some m' ∧ m'.2.2.2 = m.2.2.2 ∧ (∀ b, b ≠ a0 → m'.2.2.1 b = m.2.2.1 b) ∧ (∀ b, b ≠ a0 → (b < a0 + 14 ∨ a0 + 26 < b) → m'.1 b = m.1 b) ∧ wR m' a0 w fo x T W C Sa := by
  obtain ⟨c1, c2, ⟨c3, c4, c5⟩, c6, c7, c8⟩ := hw
  obtain ⟨m1, y1, y2, y3, y4, y5, y6⟩ := p_72 (g := g) (m := cP m a0 (m.2.2.1 a1)) (a0 := a0 + 14) (a1 := a1 + 14) h0' h1' (by omega)
  unfold d_99
  simp only [h1, c7, h0, h0', if_true, Option.bind_some, y1, show (0 : Int32).toNatClampNeg = 0 from rfl, show (10 : Int32).toNatClampNeg = 10 from rfl]
  have hP : (cP m a0 (m.2.2.1 a1)).2.2.1 a0 = m.2.2.1 a1 := cP_s
  have e1 : ∀ b, b < a0 + 14 ∨ a0 + 22 < b → m1.1 b = m.1 b := fun b hb => y3 b (by omega)
  have ep : m1.2.2.1 a0 = m.2.2.1 a1 := by rw [y2]; exact hP
  refine ⟨_, rfl, ?_, fun b hb => ?_, fun b hb hb2 => ?_, ?_⟩
  · show m1.2.2.2 = _
    rw [y2]; rfl
  · show m1.2.2.1 b = _
    rw [y2]; exact cP_n hb
  · simp (disch := omega) only [cW_b, cY_b]
    exact e1 b (by omega)
  · have hsp : ∀ i, i ≤ 12 → m1.1 (m.2.2.1 a1 + i) = m.1 (m.2.2.1 a1 + i) := fun i hi => e1 _ (by have := hp i hi; omega)
    refine ⟨?_, ?_, ⟨?_, ?_, ?_⟩, fun i hi => ?_, ?_, ?_⟩
    · show shR _ (m1.2.2.1 a0) w T W C Sa
      rw [ep]
      refine c1.congr (fun i hi => ?_)
      have hpi := hp i hi
      simp (disch := omega) only [cW_b, cY_b]
      exact hsp i hi
    · have z : stR m1.1 (a0 + 14) w T := c2.to hst hT hC y4 y5 y6
      refine z.congr (fun i hi => ?_)
      simp (disch := omega) only [cW_b, cY_b]
    · simp (disch := omega) only [cW_b, cY_b, cW_k, cW_s]
      rw [e1 a1 (by omega)]; exact c3
    · simp (disch := omega) only [cW_b, cY_b, cW_k, cW_s]
      rw [e1 a1 (by omega)]; exact c4
    · simp (disch := omega) only [cW_b, cY_b, cW_k, cW_s]
      rw [e1 a1 (by omega)]; exact c5
    · obtain ⟨N, n1, n2, -⟩ := htd
      have hi10 : i < 10 := by rw [n2, n_cl (by omega)] at hi; omega
      have z := c6 i hi
      simp (disch := omega) only [cW_b, cY_b, cY_in]
      rw [e1 (a1 + 23) (by omega), e1 (a1 + 24) (by omega), e1 (a1 + 25) (by omega), e1 (a1 + 26) (by omega)]
      exact z
    · show cO _ (m1.2.2.1 a0) 5 = true
      rw [ep]
      have : m1.2.2.2 = m.2.2.2 := by rw [y2]; rfl
      unfold cO at c7 ⊢
      show (decide (m.2.2.1 a1 < 406 + 13 * m1.2.2.2) && _) = true
      rw [this]
      exact c7
    · show spO (m1.2.2.1 a0)
      rw [ep]; exact c8
theorem q_l271 {k1 : Nat} (hk : k1 < 4) : ∀ (j i n : Nat) (S : rS), i + j = 181 → j + 1 ≤ n → S.2.1 20 = w → (∀ d, d < i → S.2.1 43 (181 * k1 + d) = w d) → ∃ S', l_271 g n 0 (nI k1) (nI i) S = some (w 7, S') ∧ rc [] [43] S S' ∧ (∀ d, d < 181 → S'.2.1 43 (181 * k1 + d) = w d) ∧ (∀ d, d < 181 * k1 ∨ 181 * k1 + 181 ≤ d → S'.2.1 43 d = S.2.1 43 d) := by
  intro j
  induction j with
  | zero =>
    intro i n S hi hn h20 h1
    obtain ⟨n, rfl⟩ : ∃ n', n = n' + 1 := ⟨n - 1, by omega⟩
    have e : i = 181 := by omega
    subst e
    refine ⟨S, ?_, rc.rf _, h1, fun _ _ => rfl⟩
    simp (disch := omega) only [l_271, if_true, lit_nI, Int32.le_refl, k_in, k_cl, h20]
  | succ j ih =>
    intro i n S hi hn h20 h1
    obtain ⟨n, rfl⟩ : ∃ n', n = n' + 1 := ⟨n - 1, by omega⟩
    obtain ⟨S', y1, y2, y3, y4⟩ := ih (i + 1) n (rA S 43 (upd (S.2.1 43) (181 * k1 + i) (w i))) (by omega) (by omega) ((rA_n (by decide)).trans h20) (by
      intro d hd
      rw [rA_s]
      by_cases e : d = i
      · subst e; exact upd_s
      · rw [upd_n (by omega)]; exact h1 d (by omega))
    refine ⟨S', ?_, (rc.A (by decide)).tr y2, y3, fun d hd => (y4 d hd).trans (by rw [rA_s, upd_n (by omega)])⟩
    rw [l_271]
    simp (disch := omega) only [if_true, lit_nI, k_leF, if_false, pk_mul, nI_add, k_in, k_cl, h20]
    exact y1
theorem q_l272 {k1 : Nat} (hk : k1 < 4) : ∀ (j i n : Nat) (S : rS), i + j = 181 → j + 1 ≤ n → S.2.1 43 = w → (∀ d, d < i → S.2.1 20 d = w (181 * k1 + d)) → ∃ S', l_272 g n 0 (nI k1) (nI i) S = some (w (181 * k1 + 7), S') ∧ rc [] [20] S S' ∧ (∀ d, d < 181 → S'.2.1 20 d = w (181 * k1 + d)) := by
  intro j
  induction j with
  | zero =>
    intro i n S hi hn h20 h1
    obtain ⟨n, rfl⟩ : ∃ n', n = n' + 1 := ⟨n - 1, by omega⟩
    have e : i = 181 := by omega
    subst e
    refine ⟨S, ?_, rc.rf _, h1⟩
    simp (disch := omega) only [l_272, if_true, lit_nI, Int32.le_refl, k_in, k_cl, h1 7]
  | succ j ih =>
    intro i n S hi hn h20 h1
    obtain ⟨n, rfl⟩ : ∃ n', n = n' + 1 := ⟨n - 1, by omega⟩
    obtain ⟨S', y1, y2, y3⟩ := ih (i + 1) n (rA S 20 (upd (S.2.1 20) i (w (181 * k1 + i)))) (by omega) (by omega) ((rA_n (by decide)).trans h20) (by
      intro d hd
      rw [rA_s]
      by_cases e : d = i
      · subst e; exact upd_s
      · rw [upd_n e]; exact h1 d (by omega))
    refine ⟨S', ?_, (rc.A (by decide)).tr y2, y3⟩
    rw [l_272]
    simp (disch := omega) only [if_true, lit_nI, k_leF, if_false, pk_mul, nI_add, k_in, k_cl, h20]
    exact y1
theorem cU_im {i : Nat} (h : i < 4) : cU (274 + 27 * i) 10 = true ∧ cU (274 + 27 * i + 14) 7 = true := by
  match i, h with
  | 0, _ => decide
  | 1, _ => decide
  | 2, _ => decide
  | 3, _ => decide
/-- all predicates of a row, from a row that agrees below 181 -/
theorem wR.cw {a : Nat} {fo x : Int32} {w' : Nat → Int32} (h : wR m a w fo x T W C Sa) (hV : shV w T W C Sa) (hst : stV w T C k) (htd : tdV w T) (e : ∀ j, j < 181 → w' j = w j) : wR m a w' fo x T W C Sa := by
  have hT := hV.1.2
  have hC := hV.2.2.1.2
  obtain ⟨c1, c2, c3, c4, c5, c6⟩ := h
  obtain ⟨N, n1, n2, -⟩ := htd
  refine ⟨c1.cw hV (fun j hj => e j (by omega)), c2.cw hst hT hC (fun j hj => e j (by omega)), by rw [e 180 (by omega)]; exact c3, fun i hi => ?_, c5, c6⟩
  rw [e 180 (by omega)] at hi
  have hi2 : i < N := by rw [n2, n_cl (by omega)] at hi; exact hi
  rw [e (140 + 4 * i) (by omega), e (141 + 4 * i) (by omega), e (142 + 4 * i) (by omega), e (143 + 4 * i) (by omega)]
  exact c4 i hi
theorem nar1 : vp_nar .boolean (1 : Int32) = 1 := by decide
set_option maxHeartbeats 2000000 in
theorem sp_image (hg : 2000 ≤ g) (h : Inv k m S) (a : Int32) : St k (d_136 g a m) (d_271 g a S) := by
  obtain ⟨b1, b2, w, q, x, T, W, C, Sa, R, hc, hr, hpa, him⟩ := id h
  have hV := hc.2.1
  have hst := hc.2.2.1
  have htd := hc.2.2.2.1
  have hT8 := hV.1.2
  have hC5 := hV.2.2.1.2
  unfold d_136 d_271
  rw [q_140 (a := 0) (b := 3) (a' := 0) (b' := 3) (by decide) (by decide), Option.bind_some]
  rcases k_ix a 4 (by omega) with h1 | ⟨h1, h0⟩ | ⟨j, hj, rfl⟩
  · rw [if_pos h1, if_neg (show ¬ ((0 : Int32) ≤ a ∧ a ≤ 3) from fun z => absurd h1 (Int32.not_lt.mpr z.1))]
    exact St.no h rfl rfl
  · rw [if_neg h0, if_neg (show ¬ a < 4 from Int32.not_lt.mpr h1), if_neg (show ¬ ((0 : Int32) ≤ a ∧ a ≤ 3) from fun z => absurd (Int32.le_trans h1 z.2) (by decide))]
    exact St.no h rfl rfl
  · rw [if_neg (nI_pos (by omega)), if_pos (show nI j < 4 from nI_lt (b := 4) hj (by omega)), if_pos (show (0 : Int32) ≤ nI j ∧ nI j ≤ 3 from ⟨nI_pos' (by omega), nI_le (b := 3) (by omega) (by omega)⟩)]
    have hp := hc.1.2.2.2.2.2
    unfold spO at hp
    have hU := cU_im hj
    obtain ⟨m1, y1, y2, y3, y4, y5⟩ := p_99 (g := g) (m := m) (a0 := 274 + 27 * j) (a1 := 5) hU.1 (by decide) hU.2 (by decide) (by omega) (fun i hi => by omega) hT8 hC5 hc.1 hst htd
    obtain ⟨S0, hS0⟩ : ∃ S0, S0 = rA (rA (rA S 46 (upd (S.2.1 46) j 1)) 44 (upd (S.2.1 44) j (S.1 21))) 45 (upd (S.2.1 45) j (S.1 22)) := ⟨_, rfl⟩
    have s20 : S0.2.1 20 = w := by rw [hS0, rA_n (by decide), rA_n (by decide), rA_n (by decide)]; exact hr.1
    obtain ⟨S1, z1, z2, z3, z4⟩ := q_l271 (g := g) (w := w) hj 181 0 g S0 (by omega) (by omega) s20 (fun d hd => absurd hd (by omega))
    have e46 : S1.2.1 46 = upd (S.2.1 46) j 1 := by rw [z2.2 46 (by decide), hS0, rA_n (by decide), rA_n (by decide), rA_s]
    have e44 : S1.2.1 44 = upd (S.2.1 44) j (S.1 21) := by rw [z2.2 44 (by decide), hS0, rA_n (by decide), rA_s]
    have e45 : S1.2.1 45 = upd (S.2.1 45) j (S.1 22) := by rw [z2.2 45 (by decide), hS0, rA_s]
    have eo : ∀ i, i ≠ 43 → i ≠ 44 → i ≠ 45 → i ≠ 46 → S1.2.1 i = S.2.1 i := fun i h1 h2 h3 h4 => by
      rw [z2.2 i (by simpa using h1), hS0, rA_n h3, rA_n h2, rA_n h4]
    have ef : S1.1 = S.1 := by
      funext i
      rw [z2.1 i (by simp), hS0]
    have e43 : S0.2.1 43 = S.2.1 43 := by rw [hS0, rA_n (by decide), rA_n (by decide), rA_n (by decide)]
    simp (disch := omega) only [z10, not_false_eq_true, if_true, k_in, k_cl, y1, Option.bind_some, nar1]
    rw [← hS0, show (0 : Int32) = nI 0 from rfl, z1]
    have e19 : (cW m1 273 j 1).1 19 13 = w 7 := by
      rw [cW_b (by decide), y4 19 (by omega) (by omega)]
      exact hc.1.2.1.1.2.2.2.2
    rw [e19]
    refine ⟨_, _, _, rfl, rfl, by show m1.2.2.2 ≤ k + 1; omega, ?_, w, q, x, T, W, C, Sa, R, ?_, ?_, ?_, ?_⟩
    · obtain ⟨n, t1, t2, t3, t4⟩ := b2
      exact ⟨n, t1, by rw [ef]; exact t2, by rw [cW_b (by decide), y4 1 (by omega) (by omega)]; exact t3, by rw [cW_b (by decide), y4 2 (by omega) (by omega), eo 0 (by decide) (by decide) (by decide) (by decide)]; exact t4⟩
    · have eB : bS3 S1 = bS3 S := by
        unfold bS3
        rw [eo 3 (by decide) (by decide) (by decide) (by decide), eo 5 (by decide) (by decide) (by decide) (by decide), eo 6 (by decide) (by decide) (by decide) (by decide)]
      rw [eB]
      obtain ⟨d1, d2, d3, d4, d5, d6, d7⟩ := id hc
      refine ⟨d1.congr (fun i hi => ?_) ?_ (fun i h1 h2 => ?_) (y3 5 (by omega)) (by show m.2.2.2 ≤ m1.2.2.2; omega), d2, d3.mo (by omega), d4, d5, d6, d7.congr ?_ (fun b h1 h2 => ?_)⟩
      · rw [cW_b (by omega), y4 _ (by omega) (by omega)]
      · rw [cW_b (by omega), y4 _ (by omega) (by omega)]
      · rw [cW_b (by omega), y4 _ (by omega) (by omega)]
      · rw [cW_b (by omega), y4 _ (by omega) (by omega)]
      · rw [cW_b (by omega), y4 _ (by omega) (by omega)]
    · obtain ⟨r1, r2, r3, r4, r5, r6, r7⟩ := hr
      exact ⟨(eo 20 (by decide) (by decide) (by decide) (by decide)).trans r1, by rw [ef]; exact r2, by rw [ef]; exact r3, rfl, rfl, rfl, by rw [ef]; exact r7⟩
    · exact hpa.congr (by omega) (fun b h1 h2 => by rw [cW_b (by omega), y4 _ (by omega) (by omega)]) (by rw [ef]) (eo 26 (by decide) (by decide) (by decide) (by decide)) (fun _ _ => rfl)
    · intro i hi
      by_cases eij : i = j
      · subst eij
        rw [e46, e44, e45, upd_s, upd_s, upd_s]
        refine ⟨cW_s, Or.inr ⟨rfl, q, T, W, C, Sa, ?_, hr.2.1, ?_, ?_, ?_, hc.2.2.2.2.1, ?_⟩⟩
        · have ew : ∀ d, d < 181 → ig S1 i d = w d := fun d hd => z3 d hd
          have := y5.cw hV hst htd ew
          rw [hr.2.2.1]
          refine this.congr (fun d hd => cW_b ?_) (cW_b (by omega)) (fun d h1 h2 => cW_b (by omega)) rfl (Nat.le_refl _)
          have := y5.2.2.2.2.2
          unfold spO at this
          omega
        · exact hV.cw (fun d hd => z3 d (by omega))
        · exact (hst.mo (by omega)).cw hT8 hC5 (fun d hd => z3 d (by omega))
        · exact htd.cw (fun d h1 h2 => z3 d (by omega))
        · rw [hr.2.2.1]; exact hc.2.2.2.2.2.1
      · obtain ⟨v1, v2⟩ := him i hi
        rw [e46, e44, e45, upd_n eij, upd_n eij, upd_n eij]
        have eig : ∀ d, d < 181 → ig S1 i d = ig S i d := fun d hd => by
          show S1.2.1 43 _ = S.2.1 43 _
          rw [z4 _ (by omega), e43]
        refine ⟨by rw [cW_k eij, y4 _ (by omega) (by omega)]; exact v1, ?_⟩
        rcases v2 with v2 | ⟨v2, q', T', W', C', Sa', u1, u2, u3, u4, u5, u6, u7⟩
        · exact Or.inl v2
        · refine Or.inr ⟨v2, q', T', W', C', Sa', ?_, u2, u3.cw (fun d hd => eig d (by omega)), (u4.mo (by omega)).cw u3.1.2 u3.2.2.1.2 (fun d hd => eig d (by omega)), u5.cw (fun d h1 h2 => eig d (by omega)), u6, u7⟩
          have hp' := u1.2.2.2.2.2
          unfold spO at hp'
          refine (u1.cw u3 u4 u5 eig).congr (fun d hd => ?_) ?_ (fun d h1 h2 => ?_) (y3 _ (by omega)) (by show m.2.2.2 ≤ m1.2.2.2; omega)
          · rw [cW_b (by omega), y4 _ (by omega) (by omega)]
          · rw [cW_b (by omega), y4 _ (by omega) (by omega)]
          · rw [cW_b (by omega), y4 _ (by omega) (by omega)]
set_option maxHeartbeats 2000000 in
theorem sp_back (hg : 2000 ≤ g) (h : Inv k m S) (a : Int32) : St k (d_137 g a m) (d_272 g a S) := by
  obtain ⟨b1, b2, w, q, x, T, W, C, Sa, R, hc, hr, hpa, him⟩ := id h
  unfold d_137 d_272
  rw [q_140 (a := 0) (b := 3) (a' := 0) (b' := 3) (by decide) (by decide), Option.bind_some]
  rcases k_ix a 4 (by omega) with h1 | ⟨h1, h0⟩ | ⟨j, hj, rfl⟩
  · rw [if_pos h1, if_neg (show ¬ ((0 : Int32) ≤ a ∧ a ≤ 3) from fun z => absurd h1 (Int32.not_lt.mpr z.1))]
    exact St.no h rfl rfl
  · rw [if_neg h0, if_pos (show (4 : Int32) ≤ a from h1), if_neg (show ¬ ((0 : Int32) ≤ a ∧ a ≤ 3) from fun z => absurd (Int32.le_trans h1 z.2) (by decide))]
    exact St.no h rfl rfl
  · rw [if_neg (nI_pos (by omega)), if_neg (show ¬ (4 : Int32) ≤ nI j from nI_ge (b := 4) hj (by omega)), if_pos (show (0 : Int32) ≤ nI j ∧ nI j ≤ 3 from ⟨nI_pos' (by omega), nI_le (b := 3) (by omega) (by omega)⟩)]
    obtain ⟨v1, v2⟩ := him j hj
    simp (disch := omega) only [z10, if_false, k_in, k_cl, if_true, v1]
    rcases v2 with v2 | ⟨v2, q', T', W', C', Sa', u1, u2, u3, u4, u5, u6, u7⟩
    · rw [v2]
      rw [if_neg (by decide), if_neg (by decide)]
      exact St.no h rfl rfl
    · rw [v2, if_pos (by decide), if_pos (by decide)]
      have hT8 := u3.1.2
      have hC5 := u3.2.2.1.2
      have hp := u1.2.2.2.2.2
      unfold spO at hp
      have hU := cU_im hj
      obtain ⟨m1, y1, y2, y3, y4, y5⟩ := p_99 (g := g) (m := m) (a0 := 5) (a1 := 274 + 27 * j) (by decide) hU.1 (by decide) hU.2 (by omega) (fun i hi => by omega) hT8 hC5 u1 u4 u5
      obtain ⟨S0, hS0⟩ : ∃ S0, S0 = rF (rF (rF S 21 (S.2.1 44 j)) 22 (S.2.1 45 j)) 27 0 := ⟨_, rfl⟩
      have s43 : S0.2.1 = S.2.1 := by rw [hS0]
      obtain ⟨S1, z1, z2, z3⟩ := q_l272 (g := g) (w := S.2.1 43) hj 181 0 g S0 (by omega) (by omega) (by rw [s43]) (fun d hd => absurd hd (by omega))
      have eo : ∀ i, i ≠ 20 → S1.2.1 i = S.2.1 i := fun i h1 => by rw [z2.2 i (by simpa using h1), s43]
      have ef : S1.1 = S0.1 := by funext i; rw [z2.1 i (by simp)]
      rw [y1, Option.bind_some, ← hS0, show (0 : Int32) = nI 0 from rfl, z1]
      unfold d_10
      simp only [Option.bind_some]
      have e19 : (cW m1 90 2 0).1 19 13 = S.2.1 43 (181 * j + 7) := by
        rw [cW_b (by decide)]
        exact y5.2.1.1.2.2.2.2
      rw [e19]
      have eB : bS3 S1 = bS3 S := by
        unfold bS3
        rw [eo 3 (by decide), eo 5 (by decide), eo 6 (by decide)]
      have eig : ∀ d, d < 181 → S1.2.1 20 d = ig S j d := fun d hd => z3 d hd
      refine ⟨_, _, _, rfl, rfl, by show m1.2.2.2 ≤ k + 1; omega, ?_, S1.2.1 20, q', S.2.1 45 j, T', W', C', Sa', R, ?_, ?_, ?_, ?_⟩
      · obtain ⟨n, t1, t2, t3, t4⟩ := b2
        exact ⟨n, t1, by rw [ef, hS0, rF_n (by decide), rF_n (by decide), rF_n (by decide)]; exact t2, by rw [cW_b (by decide), y4 1 (by omega) (by omega)]; exact t3, by rw [cW_b (by decide), y4 2 (by omega) (by omega), eo 0 (by decide)]; exact t4⟩
      · rw [eB]
        have hp1 := y5.2.2.2.2.2
        unfold spO at hp1
        refine ⟨(y5.cw u3 u4 u5 eig).congr (fun i hi => cW_b (by omega)) (cW_b (by omega)) (fun i h1 h2 => cW_b (by omega)) rfl (Nat.le_refl _), u3.cw (fun d hd => eig d (by omega)), (u4.mo (by omega)).cw hT8 hC5 (fun d hd => eig d (by omega)), u5.cw (fun d h1 h2 => eig d (by omega)), u6, u7, hc.2.2.2.2.2.2.congr ?_ (fun b h1 h2 => ?_)⟩
        · rw [cW_b (by omega), y4 _ (by omega) (by omega)]
        · rw [cW_b (by omega), y4 _ (by omega) (by omega)]
      · obtain ⟨r1, r2, r3, r4, r5, r6, r7⟩ := hr
        exact ⟨rfl, by rw [ef, hS0, rF_n (by decide), rF_n (by decide), rF_s]; exact u2, by rw [ef, hS0, rF_n (by decide), rF_s], rfl, rfl, rfl, by rw [ef, hS0, rF_n (by decide), rF_n (by decide), rF_n (by decide)]; exact r7⟩
      · obtain ⟨nx, kp, p1, p2, p3, p4, p5, p6⟩ := hpa
        refine ⟨nx, 0, p1, by omega, ?_, cW_s, by rw [ef, hS0, rF_s]; rfl, fun i hi => absurd hi (by omega)⟩
        rw [cW_k (by decide), y4 90 (by omega) (by omega)]; exact p3
      · exact him.congr (Nat.le_refl _) (by omega) (fun b h1 _ => by rw [cW_b (by omega), y4 _ (by omega) (by omega)]) (fun b hb => y3 b (by omega)) (by show m.2.2.2 ≤ m1.2.2.2; omega) (eo 43 (by decide)) (eo 44 (by decide)) (eo 45 (by decide)) (eo 46 (by decide))
end IM
