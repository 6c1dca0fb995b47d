/-! lift, undo, image, back -/
section LB
variable {g k : Nat} {m : cM} {S : rS} {w : Nat → Int32} {T W C Sa : Nat}
theorem p_l115 {L p : Nat} {x1 x3 : Int32} {f : Nat → Int32} (hL : L ≤ 5) : ∀ (j i n : Nat) (m : cM), i + 1 + j = L → j + 1 ≤ n → m.1 19 8 = nI L → p ≤ i → (∀ d, p ≤ d → d < i → m.1 26 d = f (d + 1)) → (∀ d, i ≤ d ∨ d < p → m.1 26 d = f d) → ∃ m', l_115 g n 0 x1 x3 (nI i) m = some (nI (L - 1), m') ∧ (∀ b, b ≠ 19 → b ≠ 26 → m'.1 b = m.1 b) ∧ m'.2 = m.2 ∧ (∀ e, e ≠ 8 → m'.1 19 e = m.1 19 e) ∧ m'.1 19 8 = nI (L - 1) ∧ (∀ d, d + 1 < L → m'.1 26 d = if d < p then f d else f (d + 1)) := by
  intro j
  induction j with
  | zero =>
    intro i n m hi hn h8 hp h1 h2
    obtain ⟨n, rfl⟩ : ∃ n', n = n' + 1 := ⟨n - 1, by omega⟩
    have e : i + 1 = L := by omega
    refine ⟨cW m 19 8 (nI (L - 1)), ?_, fun b hb _ => cW_b hb, rfl, fun e he => cW_k he, cW_s, fun d hd => ?_⟩
    · simp (disch := omega) only [l_115, if_true, h8, lit_nI, nI_add, k_leT, k_sub, Option.bind_some, cW_s]
    · rw [cW_b (by decide)]
      by_cases hdp : d < p
      · rw [if_pos hdp]; exact h2 d (Or.inr hdp)
      · rw [if_neg hdp]; exact h1 d (by omega) (by omega)
  | succ j ih =>
    intro i n m hi hn h8 hp h1 h2
    obtain ⟨n, rfl⟩ : ∃ n', n = n' + 1 := ⟨n - 1, by omega⟩
    obtain ⟨m', y1, y2, y3, y4, y5, y6⟩ := ih (i + 1) n (cW m 26 i (m.1 26 (i + 1))) (by omega) (by omega) (by rw [cW_b (by decide)]; exact h8) (by omega) (by
      intro d hd1 hd2
      by_cases e : d = i
      · subst e; rw [cW_s]; exact h2 (d + 1) (by omega)
      · rw [cW_k e]; exact h1 d hd1 (by omega)) (by
      intro d hd
      rw [cW_k (by omega)]
      exact h2 d (by omega))
    refine ⟨m', ?_, fun b h1 h2 => (y2 b h1 h2).trans (cW_b h2), y3, fun e he => (y4 e he).trans (by rw [cW_b (by decide)]), y5, y6⟩
    rw [l_115]
    simp (disch := omega) only [if_true, h8, lit_nI, nI_add, k_leF, if_false, k_in, k_cl, Option.bind_some]
    exact y1
theorem q_l222 {L p : Nat} {x1 : Int32} {f : Nat → Int32} (hL : L ≤ 5) (hL0 : 0 < L) : ∀ (j i n : Nat) (S : rS), i + j = L → j + 1 ≤ n → S.2.1 20 9 = nI L → p + 1 ≤ i → (∀ d, p ≤ d → d + 1 < i → S.2.1 20 (64 + d) = f (64 + d + 1)) → (∀ d, (i ≤ d + 1 ∨ d < p) → S.2.1 20 (64 + d) = f (64 + d)) → (∀ d, d < 64 ∨ 69 ≤ d → S.2.1 20 d = f d) → ∃ S', l_222 g n 0 x1 (nI i) S = some (nI (L - 1), S') ∧ rc [] [20] S S' ∧ S'.2.1 20 9 = nI (L - 1) ∧ (∀ d, d + 1 < L → S'.2.1 20 (64 + d) = if d < p then f (64 + d) else f (64 + d + 1)) ∧ (∀ d, d ≠ 9 → d < 64 ∨ 69 ≤ d → S'.2.1 20 d = f d) := by
  intro j
  induction j with
  | zero =>
    intro i n S hi hn h9 hp h1 h2 h3
    obtain ⟨n, rfl⟩ : ∃ n', n = n' + 1 := ⟨n - 1, by omega⟩
    have e : i = L := by omega
    subst e
    refine ⟨rA S 20 (upd (S.2.1 20) 9 (nI (i - 1))), ?_, rc.A (by decide), by rw [rA_s, upd_s], fun d hd => ?_, fun d hd hd2 => ?_⟩
    · simp (disch := omega) only [l_222, if_true, lit_nI, k_in, k_cl, h9, Int32.le_refl, k_sub, upd_s]
    · rw [rA_s, upd_n (by omega)]
      by_cases hdp : d < p
      · rw [if_pos hdp]; exact h2 d (Or.inr hdp)
      · rw [if_neg hdp]; exact h1 d (by omega) (by omega)
    · rw [rA_s, upd_n hd]; exact h3 d hd2
  | succ j ih =>
    intro i n S hi hn h9 hp h1 h2 h3
    obtain ⟨n, rfl⟩ : ∃ n', n = n' + 1 := ⟨n - 1, by omega⟩
    obtain ⟨S', y1, y2, y3, y4, y5⟩ := ih (i + 1) n (rA S 20 (upd (S.2.1 20) (64 + i - 1) (S.2.1 20 (64 + i)))) (by omega) (by omega) (by rw [rA_s, upd_n (by omega)]; exact h9) (by omega) (by
      intro d hd1 hd2
      rw [rA_s]
      by_cases e : d + 1 = i
      · rw [show 64 + d = 64 + i - 1 by omega, upd_s, show 64 + i - 1 + 1 = 64 + i by omega]
        exact h2 i (by omega)
      · rw [upd_n (by omega)]; exact h1 d hd1 (by omega)) (by
      intro d hd
      rw [rA_s, upd_n (by omega)]
      exact h2 d (by omega)) (by
      intro d hd
      rw [rA_s, upd_n (by omega)]
      exact h3 d hd)
    refine ⟨S', ?_, (rc.A (by decide)).tr y2, y3, y4, y5⟩
    rw [l_222]
    simp (disch := omega) only [if_true, lit_nI, k_in, k_cl, h9, k_leF, if_false, nI_add, k_sub]
    exact y1
set_option maxHeartbeats 2000000 in
theorem sp_lift (hg : 2000 ≤ g) (h : Inv k m S) (a : Int32) : St k (d_115 g a m) (d_222 g a S) := by
  obtain ⟨-, -, w, q, x, T, W, C, Sa, R, hc, hr, hpa, him⟩ := id h
  have hV := hc.2.1
  have hst := hc.2.2.1
  have hT8 := hV.1.2
  have hC5 := hV.2.2.1.2
  obtain ⟨L, hL1, hL2, hL3, hL4⟩ := lr_of hst hC5
  have hm1 : ¬ (0 : Int32) ≤ -1 := by decide
  unfold d_115 d_222
  rw [p_76 (by omega) hc hL2 (by omega), Option.bind_some]
  rcases has_co (g := g) (S := S) hc.cy.1 hc.cn (by rw [hr.1]; exact hV.2.2.1.1) hC5 a with ⟨e1, e2, e3⟩ | ⟨c, hcC, rfl, e1, e2⟩
  · have hn : ∀ j, 0 ≤ j → j < 0 + L → w (64 + j) ≠ a := by
      intro j h1 h2 e
      have h4 := hL4 j (by omega)
      rw [h4.1] at e
      rcases e3 with e3 | e3
      · exact nI_pos (by have := h4.2; omega) (e ▸ e3)
      · exact nI_ge h4.2 (by omega) (e ▸ e3)
    rw [pl_no L 0 hn, e2, if_neg hm1]
    exact St.no h rfl rfl
  · rw [e2]
    simp only [Option.bind_some, z10, if_false]
    rw [q_202 (by omega) hr.1 hL2 (by omega), Option.bind_some]
    by_cases hpl : ∃ j, 0 ≤ j ∧ j < 0 + L ∧ w (64 + j) = nI c
    case neg =>
      rw [pl_no L 0 (fun j h1 h2 e => hpl ⟨j, h1, h2, e⟩), if_neg hm1]
      simp only [hm1, if_false]
      exact St.no h rfl rfl
    case pos =>
      obtain ⟨p, j1, j2, j3, j4⟩ := pl_yes L 0 hpl
      rw [j4]
      have hp0 : (0 : Int32) ≤ nI p := nI_pos' (by omega)
      obtain ⟨m1, S1, y1, y2, y3, y4, y5, y6⟩ := keep (g := g) (a1 := 0) hg hc.1.2.1 hst hT8 hC5 hr.1 hpa
      have f20 : S1.2.1 20 = w := (y5.2 20 (by decide)).trans hr.1
      have e8' : m1.1 19 8 = nI L := by rw [y3 19 (by omega)]; exact hc.1.2.1.1.1.trans hL2
      have hs1 : stR m1.1 19 w T := hc.1.2.1.congr (fun i hi => y3 _ (by omega))
      obtain ⟨m2, u1, u2, u3, u4, u5, u6⟩ := p_l115 (g := g) (x1 := nI c) (x3 := nI p) (f := m1.1 26) (p := p) (L := L) (by omega) (L - 1 - p) p g m1 (by omega) (by omega) e8' (Nat.le_refl _) (fun d h1 h2 => by omega) (fun d _ => rfl)
      obtain ⟨S2, v1, v2, v3, v4, v5⟩ := q_l222 (g := g) (x1 := nI c) (f := w) (p := p) (L := L) (by omega) (by omega) (L - (p + 1)) (p + 1) g S1 (by omega) (by omega) (by rw [f20]; exact hL2) (Nat.le_refl _) (fun d h1 h2 => by omega) (fun d _ => by rw [f20]) (fun d _ => by rw [f20])
      have q202' := q_202 (g := g) (S := S1) (c := nI c) (by omega) f20 hL2 (show L ≤ 5 by omega)
      rw [j4] at q202'
      rw [if_pos hp0]
      simp only [hp0, if_true, y1, y2, Option.bind_some, q202', u1]
      rw [show nI p + 1 = nI (p + 1) from nI_1 p, v1]
      refine ⟨_, _, _, rfl, rfl, ?_⟩
      have ew : ∀ j, j ≠ 9 → ¬ (64 ≤ j ∧ j < 69) → S2.2.1 20 j = w j := fun j h1 h2 => v5 j h1 (by omega)
      have er : ∀ i, i < L - 1 → S2.2.1 20 (64 + i) = w (64 + (if i < p then i else i + 1)) := fun i hi => by
        rw [v4 i (by omega)]
        by_cases e : i < p
        · rw [if_pos e, if_pos e]
        · rw [if_neg e, if_neg e]; rfl
      obtain ⟨L0, l1, l2, -, l4⟩ := hst.2.1
      have eL : L0 = L := (nI_eq (by omega) (by omega)).mp (l2.symm.trans hL2)
      subst eL
      refine h.act (w' := S2.2.1 20) hc hr him ((ak.kp y3 y4).tr ⟨fun b h1 h2 h3 => u2 b (by omega) (by omega), fun j _ => by rw [u2 32 (by omega) (by omega)], by rw [u3]⟩) ((y5.mo (by decide) (by decide)).tr (v2.mo (by decide) (by decide))) rfl (hs1.lay (L := 0) hT8 _ (L0 - 1) (by omega) v3 ew (fun b h1 h2 => u2 b h1 h2) (fun f hf => u4 f hf) u5 (fun i hi => ?_)) ((hst.mo (by omega)).lay hT8 hC5 _ (L0 - 1) (by omega) v3 ew (fun i hi => ?_) (fun i j hij hj => ?_)) (fun j hj => ew j (by omega) (by omega)) (y6.congr (by omega) (fun b h1 h2 => u2 b (by omega) (by omega)) (v2.1 27 (by decide)) (v2.2 26 (by decide)) (fun j hj => ew j (by omega) (by omega)))
      · rw [er i hi]
        have z := u6 i (by omega)
        show m2.1 26 i = _
        rw [z]
        by_cases e : i < p
        · rw [if_pos e, if_pos e]; exact hs1.2.2.2.2.1 i (by rw [hL3]; omega)
        · rw [if_neg e, if_neg e]; exact hs1.2.2.2.2.1 (i + 1) (by rw [hL3]; omega)
      · rw [er i hi]
        have hi2 : (if i < p then i else i + 1) < L0 := by split <;> omega
        exact ⟨_, (hL4 _ hi2).2, (hL4 _ hi2).1⟩
      · rw [er i (by omega), er j hj]
        have h1 : (if i < p then i else i + 1) < (if j < p then j else j + 1) := by split <;> split <;> omega
        exact l4 _ _ h1 (by split <;> omega)
theorem q_l215 {u : Nat} {f : Nat → Int32} (hu : u < 20) : ∀ (j i n : Nat) (S : rS), i + j = 80 → j + 1 ≤ n → S.1 27 = nI u → (∀ d, d < i → S.2.1 20 d = S.2.1 26 (80 * u + d)) → (∀ d, 80 ≤ d → S.2.1 20 d = f d) → ∃ S', l_215 g n 0 (nI i) S = some (nI u, S') ∧ rc [] [20] S S' ∧ (∀ d, d < 80 → S'.2.1 20 d = S.2.1 26 (80 * u + d)) ∧ (∀ d, 80 ≤ d → S'.2.1 20 d = f d) := by
  intro j
  induction j with
  | zero =>
    intro i n S hi hn h27 h1 h2
    obtain ⟨n, rfl⟩ : ∃ n', n = n' + 1 := ⟨n - 1, by omega⟩
    have e : i = 80 := by omega
    subst e
    refine ⟨S, ?_, rc.rf _, h1, h2⟩
    simp (disch := omega) only [l_215, if_true, lit_nI, Int32.le_refl, h27]
  | succ j ih =>
    intro i n S hi hn h27 h1 h2
    obtain ⟨n, rfl⟩ : ∃ n', n = n' + 1 := ⟨n - 1, by omega⟩
    obtain ⟨S', y1, y2, y3, y4⟩ := ih (i + 1) n (rA S 20 (upd (S.2.1 20) i (S.2.1 26 (80 * u + i)))) (by omega) (by omega) h27 (by
      intro d hd
      rw [rA_s, rA_n (by decide)]
      by_cases e : d = i
      · subst e; exact upd_s
      · rw [upd_n e]; exact h1 d (by omega)) (by
      intro d hd
      rw [rA_s, upd_n (by omega)]; exact h2 d hd)
    refine ⟨S', ?_, (rc.A (by decide)).tr y2, fun d hd => (y3 d hd).trans (by rw [rA_n (by decide)]), y4⟩
    rw [l_215]
    simp (disch := omega) only [if_true, lit_nI, k_leF, if_false, h27, pk_mul, nI_add, k_in, k_cl]
    exact y1
set_option maxHeartbeats 2000000 in
theorem sp_undo (hg : 2000 ≤ g) (h : Inv k m S) : St k (d_120 g m) (d_215 g S) := by
  obtain ⟨-, -, w, q, x, T, W, C, Sa, R, hc, hr, hpa, him⟩ := id h
  have hV := hc.2.1
  have hst := hc.2.2.1
  have hT8 := hV.1.2
  have hC5 := hV.2.2.1.2
  obtain ⟨nx, kp, h1, h2, h3, h4, h5, h6⟩ := hpa
  unfold d_120 d_215
  rw [h4, h5]
  by_cases h0 : kp = 0
  · subst h0
    rw [if_neg (by decide), if_neg (by decide)]
    exact St.no h rfl rfl
  · rw [if_pos (show (1 : Int32) ≤ nI kp from nI_le (a := 1) (by omega) (by omega)), if_pos (show ¬ nI kp = 0 from nI_ne0 (by omega) (by omega))]
    have ek : nI kp - 1 = nI (kp - 1) := by
      rw [show (1 : Int32) = nI 1 from rfl, k_sub (by omega)]
    rw [ek]
    obtain ⟨S1, y1, y2, y3, y4⟩ := q_l215 (g := g) (f := w) (u := kp - 1) (by omega) 80 0 g (rF S 27 (nI (kp - 1))) (by omega) (by omega) rF_s (fun d hd => absurd hd (by omega)) (fun d _ => by rw [show (rF S 27 (nI (kp - 1))).2.1 20 = S.2.1 20 from rfl, hr.1])
    obtain ⟨z1, z2, z3⟩ := h6 (kp - 1) (by omega)
    have hix : (nx + 20 - kp + (kp - 1)) % 20 = (nx + 19) % 20 := by omega
    have hlt : (nx + 19) % 20 < 20 := Nat.mod_lt _ (by decide)
    rw [hix] at z1
    have er : (nI (nx + 20) - nI 1) - (nI (nx + 20) - nI 1) / nI 20 * nI 20 = nI ((nx + 19) % 20) := by
      rw [k_sub (by omega), show nx + 20 - 1 = nx + 19 by omega]
      exact pk_rem (by omega) (by omega) (by omega)
    obtain ⟨m1, hm1⟩ : ∃ m1, m1 = cW (cW m 90 1 (nI ((nx + 19) % 20))) 90 2 (nI (kp - 1)) := ⟨_, rfl⟩
    have e0 : ∀ b, b ≠ 90 → m1.1 b = m.1 b := fun b hb => by rw [hm1, cW_b hb, cW_b hb]
    have e1 : m1.1 90 1 = nI ((nx + 19) % 20) := by rw [hm1, cW_k (by decide), cW_s]
    have e2 : m1.1 90 2 = nI (kp - 1) := by rw [hm1, cW_s]
    obtain ⟨m2, u1, u2, u3, u4, u5, u6⟩ := p_72 (g := g) (m := m1) (a0 := 19) (a1 := 92 + 9 * ((nx + 19) % 20)) (by decide) (cU_92 hlt) (by omega)
    have e19 : cU 19 7 = true := by decide
    have hd9 : d_9 g 19 m = some m2 := by
      unfold d_9
      simp (disch := omega) only [h3, lit_nI, nI_add, er, Option.bind_some]
      rw [cW_k (show 2 ≠ 1 by decide), h4, k_sub (by omega), ← hm1]
      simp (disch := omega) only [e1, k_in, if_true, k_cl, e19, u1, Option.bind_some]
    rw [hd9, Option.bind_some]
    rw [show (0 : Int32) = nI 0 from rfl, y1]
    have e290 : m2.1 90 = m1.1 90 := u3 90 (by omega)
    rw [e290, e2]
    refine ⟨_, _, _, rfl, rfl, ?_⟩
    have ew : ∀ j, j < 80 → S1.2.1 20 j = pg S (kp - 1) j := fun j hj => y3 j hj
    have z1' : stR m1.1 (92 + 9 * ((nx + 19) % 20)) (pg S (kp - 1)) T := z1.congr (fun i hi => e0 _ (by omega))
    refine h.act (w' := S1.2.1 20) hc hr him ⟨fun b h1 h2 h3 => (u3 b (by omega)).trans (e0 b (by omega)), fun j _ => by rw [u3 32 (by omega), e0 32 (by omega)], by rw [u2, hm1]; rfl⟩ ((rc.F (by decide)).tr (y2.mo (by decide) (by decide))) rfl ?_ ?_ (fun j hj => ?_) ?_
    · exact (z1'.to z2 hT8 hC5 u4 u5 u6).cw z2 hT8 hC5 ew
    · exact (z2.mo (by omega)).cw hT8 hC5 ew
    · by_cases hj2 : j < 80
      · rw [ew j hj2]; exact z3 j (by omega)
      · exact y4 j (by omega)
    · refine ⟨(nx + 19) % 20, kp - 1, hlt, by omega, by rw [e290]; exact e1, by rw [e290]; exact e2, (y2.1 27 (by decide)).trans rF_s, fun i hi => ?_⟩
      obtain ⟨v1, v2, v3⟩ := h6 i (by omega)
      have epg : pg S1 i = pg S i := by
        unfold pg
        rw [y2.2 26 (by decide)]
      have hi2 : ((nx + 19) % 20 + 20 - (kp - 1) + i) % 20 = (nx + 20 - kp + i) % 20 := by omega
      rw [epg, hi2]
      have hl2 : (nx + 20 - kp + i) % 20 < 20 := Nat.mod_lt _ (by decide)
      refine ⟨v1.congr (fun j hj => (u3 _ (by omega)).trans (e0 _ (by omega))), v2.mo (by omega), fun j hj => (v3 j hj).trans ?_⟩
      rw [ew j (by omega), z3 j hj]
end LB
