/-! rule: the step, II -/
section IRU
variable {g k : Nat} {m : cM} {S : rS}
set_option maxHeartbeats 2000000 in
theorem sp_rule (hg : 5000 ≤ g) (h : Inv k m S) : St k (d_105 g m) (d_180 g S) := by
  obtain ⟨hk, ⟨n, n1, n2, n3, n4⟩, w, q, x, T, W, C, Sa, R, hc, hr, hpa, him⟩ := id h
  have hR := hc.2.2.2.2.2.2
  have hR6 := hR.1
  have h32 : m.1 32 2 = nI R := hR.2.1
  have hS2 : S.1 2 = nI R := hr.2.2.2.2.2.2
  unfold d_105 d_180
  rw [h32, hS2]
  by_cases h6 : R = 6
  · rw [h6, if_neg (show ¬ nI 6 < 6 by decide), if_neg (show ¬ ¬ nI 6 = 6 from fun z => z rfl)]
    exact St.no h rfl rfl
  have hRl : R < 6 := by omega
  have kR : (nI R).toNatClampNeg = R := k_cl (by omega)
  rw [if_pos (show nI R < 6 from nI_lt (b := 6) hRl (by omega)), if_pos (show ¬ nI R = 6 from fun z => h6 ((nI_eq (b := 6) (by omega) (by omega)).mp z)), if_pos (k_in (show R < 6 by omega) (by omega)), if_pos (k_in (show R < 6 by omega) (by omega)), kR]
  have hU := cU_r hRl
  -- the class begins
  obtain ⟨m1, hm1⟩ : ∃ m1, m1 = cW (cW (cW (cW (cW (cP m 4 (35 + 6 * R)) (35 + 6 * R) 5 0) (35 + 6 * R) 6 0) 4 2 0) 1 2 0) 1 6 0 := ⟨_, rfl⟩
  have hm12 : m1.2 = (cP m 4 (35 + 6 * R)).2 := by rw [hm1]; rfl
  have f1 : ∀ b, b ≠ 1 → b ≠ 4 → b ≠ 35 + 6 * R → m1.1 b = m.1 b := fun b q1 q2 q3 => by rw [hm1, cW_b q1, cW_b q1, cW_b q2, cW_b q3, cW_b q3, cP_1]
  have ht1 : tp m1 (S.2.1 0) n := ⟨by rw [hm1, cW_k (by decide), cW_k (by decide), cW_b (by omega), cW_b (by omega), cW_b (by omega), cP_1]; exact n3, n1, fun i hi => by rw [f1 2 (by omega) (by omega) (by omega)]; exact (n4 i hi).1⟩
  obtain ⟨m2, y1, y2, y3, y4⟩ := p_84 (g := g) (m := m1) (p := 0) (by omega) ht1 (Nat.zero_le _) (by rw [hm1, cW_k (by decide), cW_s]; rfl)
  obtain ⟨f, hf⟩ : ∃ f, f = S.2.1 0 := ⟨_, rfl⟩
  rw [← hf] at y3 ht1
  obtain ⟨a0, ha0⟩ : ∃ a0, a0 = bl f n 0 := ⟨_, rfl⟩
  rw [← ha0] at y3
  have hcs2 : cs m2 f n (.inl a0) := ⟨ht1.co y2 (y4 1 (Or.inl rfl)), by rw [ha0]; exact sc_le (Nat.zero_le _), by rw [ha0]; exact sc_id (Nat.zero_le _), y3, by rw [y4 6 (Or.inr rfl), hm1, cW_s]⟩
  have hcc2 : ccd m2 R [] := by
    refine ⟨by rw [y2.2, hm12]; show va_up m.2.2.1 4 (35 + 6 * R) 4 = _; exact up_s, ?_, fun j hj => absurd hj (Nat.not_lt_zero _)⟩
    rw [y2.1 _ (by omega), hm1, cW_b (by omega), cW_b (by omega), cW_b (by omega), cW_k (by decide), cW_s]; rfl
  -- the reference begins
  obtain ⟨S1, hS1⟩ : ∃ S1, S1 = rA (rF S 11 (nI R)) 6 (upd (S.2.1 6) R 0) := ⟨_, rfl⟩
  obtain ⟨S2, hS2'⟩ : ∃ S2, S2 = rF (rF (rF (rF (rA S1 4 (upd (S1.2.1 4) R 0)) 14 0) 8 0) 9 0) 12 0 := ⟨_, rfl⟩
  have s11 : S1.1 11 = nI R := by rw [hS1]; show (rF S 11 (nI R)).1 11 = nI R; exact rF_s
  have hrs2 : rc [8, 9, 11, 12, 14] [4, 6] S S2 := by
    rw [hS2', hS1]
    exact ((((((rc.F (by decide)).tr (rc.A (by decide))).tr (rc.A (by decide))).tr (rc.F (by decide))).tr (rc.F (by decide))).tr (rc.F (by decide))).tr (rc.F (by decide))
  have t6 : S2.2.1 6 = upd (S.2.1 6) R 0 := by rw [hS2', hS1]; show (rA _ 4 _).2.1 6 = _; rw [rA_n (by decide), rA_s]
  have hrg : rg S2 f n a0 := by
    refine ⟨⟨(hrs2.1 1 (by decide)).trans n2, n1, (hrs2.2 0 (by decide)).trans hf.symm⟩, by rw [hS2', rF_n (by decide), rF_s], 0, Nat.zero_le _, by rw [hS2', rF_n (by decide), rF_n (by decide), rF_s]; rfl, ha0.symm⟩
  have hrc2 : rcd S2 R [] := by
    refine ⟨by rw [hS2', rF_n (by decide), rF_n (by decide), rF_n (by decide), rF_n (by decide)]; exact s11, ?_, fun j hj => absurd hj (Nat.not_lt_zero _)⟩
    rw [hS2']
    show (rA S1 4 (upd (S1.2.1 4) R 0)).2.1 4 R = _
    rw [rA_s, upd_s]; rfl
  have hru : ruS m2 S2 f n a0 R [] 0 0 := by
    refine ⟨⟨hcs2, hrg, hcc2, hrc2, by rw [y2.1 4 (by decide), hm1, cW_b (by decide), cW_b (by decide), cW_s]; rfl, by rw [hS2', rF_s]; rfl, by omega, Nat.zero_le _, Nat.zero_le _⟩, ?_, by rw [t6, upd_s]; rfl, by rw [hS2', rF_n (by decide), rF_n (by decide), rF_n (by decide), rF_s]; rfl, by omega, fun k hk => absurd hk (by omega)⟩
    rw [y2.1 _ (by omega), hm1, cW_b (by omega), cW_b (by omega), cW_b (by omega), cW_s]; rfl
  have hby : byR f n := fun i hi => by rw [hf]; exact (n4 i hi).2
  have e45 : d_45 g (35 + 6 * R) m = (d_46 g m2).bind (fun z => l_45 g g 0 (35 + 6 * R) 0 z) := by
    have e4 : ∀ mm : cM, mm.2.2.1 = (cP m 4 (35 + 6 * R)).2.2.1 → mm.2.2.1 4 = 35 + 6 * R := fun mm hmm => by rw [hmm]; show va_up m.2.2.1 4 (35 + 6 * R) 4 = _; exact up_s
    unfold d_45 d_82
    rw [if_pos hU, Option.bind_some, e4 (cP m 4 (35 + 6 * R)) rfl, if_pos hU, Option.bind_some, e4 (cW (cP m 4 (35 + 6 * R)) (35 + 6 * R) 5 0) rfl, if_pos hU, Option.bind_some, Option.bind_some, Option.bind_some, Option.bind_some, ← hm1, y1, Option.bind_some, Option.bind_some]
  have e179 : d_179 g S1 = (d_178 g S2).bind (fun z => l_179 g g 0 z.1 z.2) := by
    unfold d_179
    rw [s11, if_pos (k_in (show R < 7 by omega) (by omega)), kR, hS2']
  -- both read
  obtain ⟨v, m', S', z1, z2, z3⟩ : ∃ v m' S', d_45 g (35 + 6 * R) m = some (nI v, m') ∧ d_179 g S1 = some (if v = 0 then 1 else 0, S') ∧ ruE m2 m' S2 S' v R := by
    rw [e45, e179]
    obtain ⟨m3, v', S3, x1, x2, x3, x4, x5⟩ := cl_rule (g := g) hg hRl hby hru
    rw [x1, Option.bind_some, x2, Option.bind_some]
    rcases x5 with ⟨rfl, a', L', V', w1, w2⟩ | ⟨rfl, v, w1, w2⟩
    · have hle := w2.1.2.1.le
      obtain ⟨v, m', S', t1, t2, t3⟩ := lp_rule (g := g) hg hRl hby (n - a') a' 1 0 g g m3 S3 L' V' (by omega) (by omega) (by omega) (by omega) w2
      exact ⟨v, m', S', t1, t2, t3.tr x3 x4⟩
    · obtain ⟨g', hg'⟩ : ∃ g', g = g' + 3 := ⟨g - 3, by omega⟩
      obtain ⟨m', S', t1, t2, t3⟩ := lr_f (g := g) (N := g') (N' := g') (i := 0) w1 w2 (by omega)
      rw [← hg'] at t1 t2
      exact ⟨v, m', S', t1, t2, t3.tr x3 x4⟩
  obtain ⟨r1, ⟨S3, r2, r3⟩, r4, r5, r6⟩ := z3
  rw [z1, Option.bind_some, Option.bind_some, ← hS1, z2, Option.bind_some]
  -- frames
  have fm : ∀ b, b ≠ 1 → b ≠ 4 → ¬ (35 + 6 * R ≤ b ∧ b ≤ 35 + 6 * R + 4) → m'.1 b = m.1 b := fun b q1 q2 q3 => by rw [r1.1 b q1 q2 q3, y2.1 b q1, f1 b q1 q2 (by omega)]
  have f2 : m'.2 = (cP m 4 (35 + 6 * R)).2 := by rw [r1.2, y2.2, hm12]
  have f222 : m'.2.2.2 = m.2.2.2 := by rw [f2]; rfl
  have f221 : ∀ b, b ≠ 4 → m'.2.2.1 b = m.2.2.1 b := fun b hb => by rw [f2]; exact up_n hb
  have fS : rc [1, 8, 9, 10, 11, 12, 13, 14, 16] [3, 4, 5, 6, 15] S S' := by
    rw [r3]
    exact ((hrs2.mo (by decide) (by decide)).tr (r2.1.mo (by decide) (by decide))).tr (rc.F (by decide))
  have b3 : ∀ j, j < 400 * R → S'.2.1 3 j = S.2.1 3 j := fun j hj => by rw [r3]; show S3.2.1 3 j = _; rw [r2.2.1 j hj, hrs2.2 3 (by decide)]
  have b5 : ∀ j, j < 48 * R → S'.2.1 5 j = S.2.1 5 j := fun j hj => by rw [r3]; show S3.2.1 5 j = _; rw [r2.2.2.1 j hj, hrs2.2 5 (by decide)]
  have b6 : ∀ j, j < R → S'.2.1 6 j = S.2.1 6 j := fun j hj => by rw [r3]; show S3.2.1 6 j = _; rw [r2.2.2.2 j hj, t6, upd_n (by omega)]
  have hold : ∀ m4 : cM, (∀ b, 35 ≤ b → b < 35 + 6 * R → m4.1 b = m'.1 b) → ∀ r', r' < R → ∃ K len, rgR (bS3 S') r' K len ∧ rgC m4.1 (bS3 S') r' K len := fun m4 hm4 r' hr' => by
    obtain ⟨K, len, p1, p2⟩ := hR.2.2 r' hr'
    have e1 : ∀ j, j < 400 → (bS3 S').1 (400 * r' + j) = (bS3 S).1 (400 * r' + j) := fun j hj => b3 _ (by omega)
    have e2 : ∀ j, j < 48 → (bS3 S').2.1 (48 * r' + j) = (bS3 S).2.1 (48 * r' + j) := fun j hj => b5 _ (by omega)
    exact ⟨K, len, p1.mo e1 e2 (b6 r' hr'), p2.mo p1.1 p1.2.1 (fun i hi => by rw [hm4 _ (by omega) (by omega)]; exact fm _ (by omega) (by omega) (by omega)) e1 e2⟩
  -- the new invariant
  have inv : ∀ (m4 : cM) (S4 : rS) (R' : Nat), (∀ b, b ≠ 1 → b ≠ 32 → m4.1 b = m'.1 b) → (∀ j, j ≠ 2 → m4.1 32 j = m'.1 32 j) → m4.2 = m'.2 → m4.1 1 1 = 0 → S4.1 1 = 0 → (∀ j, j ≠ 2 → S4.1 j = S'.1 j) → S4.2 = S'.2 → S4.1 2 = nI R' → R ≤ R' → rbR m4.1 (bS3 S') R' → Inv (k + 1) m4 S4 := by
    intro m4 S4 R' p1 p2 p3 p4 p5 p6 p7 p8 p9 p10
    have eB : bS3 S4 = bS3 S' := by unfold bS3; rw [p7]
    have gm : ∀ b, b ≠ 1 → b ≠ 4 → b ≠ 32 → ¬ (35 + 6 * R ≤ b ∧ b ≤ 35 + 6 * R + 4) → m4.1 b = m.1 b := fun b q1 q2 q3 q4 => by rw [p1 b q1 q3, fm b q1 q2 q4]
    have g221 : ∀ b, b ≠ 4 → m4.2.2.1 b = m.2.2.1 b := fun b hb => by rw [p3]; exact f221 b hb
    have g222 : m4.2.2.2 = m.2.2.2 := by rw [p3]; exact f222
    have gS : ∀ j, j ∉ [1, 2, 8, 9, 10, 11, 12, 13, 14, 16] → S4.1 j = S.1 j := fun j hj => by
      rw [p6 j (fun e => hj (by rw [e]; decide))]
      exact fS.1 j (fun z => hj (by
        simp only [List.mem_cons, List.not_mem_nil, or_false] at z ⊢
        omega))
    have gR2 : ∀ j, j ∉ [3, 4, 5, 6, 15] → S4.2.1 j = S.2.1 j := fun j hj => by rw [p7]; exact fS.2 j hj
    have hsp := hc.cy.2.1
    unfold spO at hsp
    have hw5 : wR m4 5 w (rI q) x T W C Sa := hc.1.congr (fun i hi => gm _ (by omega) (by omega) (by omega) (by omega)) (gm 5 (by omega) (by omega) (by omega) (by omega)) (fun i i1 i2 => gm _ (by omega) (by omega) (by omega) (by omega)) (g221 5 (by omega)) (by rw [g222]; exact Nat.le_refl _)
    refine ⟨by rw [g222]; omega, ⟨0, by omega, p5, p4, fun i hi => absurd hi (by omega)⟩, w, q, x, T, W, C, Sa, R', ?_, ?_, ?_, ?_⟩
    · rw [eB]
      exact ⟨hw5, hc.2.1, hc.2.2.1.mo (by omega), hc.2.2.2.1, Nat.le_trans hc.2.2.2.2.1 p9, hc.2.2.2.2.2.1, p10⟩
    · unfold rx
      refine ⟨by rw [gR2 20 (by decide)]; exact hr.1, by rw [gS 21 (by decide)]; exact hr.2.1, by rw [gS 22 (by decide)]; exact hr.2.2.1, rfl, rfl, rfl, p8⟩
    · exact hpa.congr (by omega) (fun b q1 q2 => gm b (by omega) (by omega) (by omega) (by omega)) (gS 27 (by decide)) (gR2 26 (by decide)) (fun _ _ => rfl)
    · exact him.congr p9 (by omega) (fun b q1 q2 => gm b (by omega) (by omega) (by omega) (by omega)) (fun b hb => g221 b (by omega)) (by rw [g222]; exact Nat.le_refl _) (gR2 43 (by decide)) (gR2 44 (by decide)) (gR2 45 (by decide)) (gR2 46 (by decide))
  have s1' : S'.1 1 = 0 := by rw [r3, rF_s]
  have s2' : S'.1 2 = nI R := (fS.1 2 (by decide)).trans hS2
  have m32 : m'.1 32 2 = nI R := by rw [fm 32 (by omega) (by omega) (by omega)]; exact h32
  by_cases hv : v = 0
  case neg =>
    rw [if_neg (nI_ne0 (by omega) (by omega)), if_neg hv, Option.bind_some, if_neg n_0]
    show St k (some (-2 - nI v, cW m' 1 1 0)) (some (-2 - S'.1 9, S'))
    rw [r5 hv]
    refine ⟨_, _, _, rfl, rfl, inv (cW m' 1 1 0) S' R (fun b q1 _ => cW_b q1) (fun j _ => by rw [cW_b (by decide)]) rfl cW_s s1' (fun _ _ => rfl) rfl s2' (Nat.le_refl _) ⟨hR6, by rw [cW_b (by decide)]; exact m32, hold _ (fun b q1 q2 => cW_b (by omega))⟩⟩
  case pos =>
    rw [if_pos (show nI v = 0 by rw [hv]; rfl), if_pos hv, Option.bind_some, if_pos n_1]
    have e1 : (cW m' 1 1 0).1 32 2 = nI R := by rw [cW_b (by decide)]; exact m32
    show St k (some ((cW (cW m' 1 1 0) 32 2 ((cW m' 1 1 0).1 32 2 + 1)).1 32 2 - 1, cW (cW m' 1 1 0) 32 2 ((cW m' 1 1 0).1 32 2 + 1))) (some (S'.1 2 + 1 - 1, rF S' 2 (S'.1 2 + 1)))
    rw [cW_s, e1, s2', show nI R + 1 = nI (R + 1) from nI_1 R]
    refine ⟨_, _, _, rfl, rfl, inv _ _ (R + 1) (fun b q1 q2 => by rw [cW_b q2, cW_b q1]) (fun j hj => by rw [cW_k hj, cW_b (by decide)]) rfl (by rw [cW_b (by decide), cW_s]) (by rw [rF_n (by decide)]; exact s1') (fun j hj => rF_n hj) rfl rF_s (by omega) ⟨by omega, cW_s, fun r' hr' => ?_⟩⟩
    by_cases e : r' = R
    · rw [e]
      obtain ⟨K, len, p1, p2⟩ := (r6 hv).R
      exact ⟨K, len, p1, p2.congr (fun i hi => by rw [cW_b (by omega), cW_b (by omega)])⟩
    · exact hold _ (fun b q1 q2 => by rw [cW_b (by omega), cW_b (by omega)]) r' (by omega)
end IRU
