/-! shop: the step, II -/
section ISI
variable {g k : Nat} {m : cM} {S : rS}
/-- a shop is read, on both sides -/
theorem rd_shop {f : Nat → Int32} {n p : Nat} {mA : cM} {S1 : rS} (hg : 5000 ≤ g) (hp : 406 ≤ p) (hb : byR f n) (hO : cO mA p 5 = true) (ht : tp mA f n) (hz : ∀ b, p ≤ b → b ≤ p + 12 → ∀ j, mA.1 b j = 0) (hr : rt S1 f n) (h11 : S1.1 11 = 6) (h7 : ∀ d, d < 80 → S1.2.1 7 d = 0) : ∃ v m' S', d_60 g p mA = some (nI v, m') ∧ d_179 g S1 = some (if v = 0 then 1 else 0, S') ∧ (∀ b, b ≠ 1 → b ≠ 3 → b < p → m'.1 b = mA.1 b) ∧ m'.2 = (cP mA 3 p).2 ∧ rc [1, 8, 9, 10, 12, 14] [4, 7] S1 S' ∧ S'.1 1 = 0 ∧ v < 4000 ∧ (v ≠ 0 → S'.1 9 = nI v) ∧ (v = 0 → ∃ T W C Sa, vX m'.1 p (S'.2.1 7) T W C Sa ∧ m'.1 p 0 = 1 ∧ S'.2.1 7 0 = nI 1) := by
  have hn := ht.2.1
  obtain ⟨m1, hm1⟩ : ∃ m1, m1 = cW (cW (cW (cP mA 3 p) 3 2 0) 1 2 0) 1 6 0 := ⟨_, rfl⟩
  have f1 : ∀ b, b ≠ 1 → b ≠ 3 → m1.1 b = mA.1 b := fun b q1 q2 => by rw [hm1, cW_b q1, cW_b q1, cW_b q2, cP_1]
  have f2 : m1.2 = (cP mA 3 p).2 := by rw [hm1]; rfl
  have ht1 : tp m1 f n := ⟨by rw [hm1, cW_k (by decide), cW_k (by decide), cW_b (by decide)]; exact ht.1, hn, by rw [f1 2 (by decide) (by decide)]; exact ht.2.2⟩
  obtain ⟨m2, y1, y2, y3, y4⟩ := p_84 (g := g) (m := m1) (p := 0) (by omega) ht1 (Nat.zero_le _) (by rw [hm1, cW_k (by decide), cW_s]; rfl)
  obtain ⟨a0, ha0⟩ : ∃ a0, a0 = bl f n 0 := ⟨_, rfl⟩
  rw [← ha0] at y3
  have hR2 : sR m2 p := by
    refine ⟨by rw [y2.2, f2]; show va_up mA.2.2.1 3 p 3 = p; exact up_s, ?_⟩
    rw [cO_2 (y2.2.trans f2)]
    exact hO
  have hcs2 : cs m2 f n (.inl a0) := ⟨ht1.co y2 (y4 1 (Or.inl rfl)), by rw [ha0]; exact sc_le (Nat.zero_le _), by rw [ha0]; exact sc_id (Nat.zero_le _), y3, by rw [y4 6 (Or.inr rfl), hm1, cW_s]⟩
  have f3 : ∀ b, b ≠ 1 → b ≠ 3 → m2.1 b = mA.1 b := fun b q1 q2 => (y2.1 b q1).trans (f1 b q1 q2)
  have z2 : ∀ i, i ≤ 12 → ∀ j, m2.1 (p + i) j = 0 := fun i hi j => by rw [f3 _ (by omega) (by omega)]; exact hz _ (by omega) (by omega) j
  have z20 : ∀ j, m2.1 p j = 0 := z2 0 (by omega)
  obtain ⟨S2, hS2⟩ : ∃ S2, S2 = rF (rF (rF (rF (rA S1 4 (upd (S1.2.1 4) 6 0)) 14 0) 8 0) 9 0) 12 0 := ⟨_, rfl⟩
  have hrc2 : rc [1, 8, 9, 10, 12, 14] [4, 7] S1 S2 := by
    rw [hS2]
    exact ((((rc.A (by decide)).tr (rc.F (by decide))).tr (rc.F (by decide))).tr (rc.F (by decide))).tr (rc.F (by decide))
  have g7 : S2.2.1 7 = S1.2.1 7 := by rw [hS2]; exact rA_n (by decide)
  have hu0 : ∀ j, j < 80 → S1.2.1 7 j = nI 0 := fun j hj => h7 j hj
  have hrg : rg S2 f n a0 := by
    rw [hS2]
    refine ⟨⟨by rw [rF_n (by decide), rF_n (by decide), rF_n (by decide), rF_n (by decide)]; exact hr.1, hn, by rw [← hr.2.2]; exact rA_n (by decide)⟩, by rw [rF_n (by decide), rF_s], 0, Nat.zero_le _, by rw [rF_n (by decide), rF_n (by decide), rF_s]; rfl, ha0.symm⟩
  have hs : shS m2 S2 f n a0 p (S1.2.1 7) 0 0 0 0 0 := by
    refine ⟨hcs2, hR2, ⟨⟨by rw [z20, hu0 4 (by omega)]; rfl, by rw [z20, hu0 5 (by omega)]; rfl, by rw [z20, hu0 6 (by omega)]; rfl, z20 4, z20 8, z20 11, z20 15⟩, fun t ht => absurd ht (by omega), fun t ht => absurd ht (by omega), fun t ht => absurd ht (by omega), fun t ht => absurd ht (by omega), fun c h1 h2 => ⟨z2 10 (by omega) c, z2 12 (by omega) c⟩⟩, ?_, hrg, g7, ⟨⟨⟨hu0 1 (by omega), by omega⟩, ⟨hu0 2 (by omega), by omega⟩, ⟨hu0 3 (by omega), by omega⟩, ⟨hu0 10 (by omega), by omega⟩, Or.inr ⟨hu0 0 (by omega), rfl⟩, ⟨0, by omega, hu0 4 (by omega)⟩, ⟨0, by omega, hu0 5 (by omega)⟩, Or.inl (hu0 6 (by omega)), fun t ht => absurd ht (by omega), fun t ht => absurd ht (by omega), fun t ht => absurd ht (by omega), fun t ht => absurd ht (by omega)⟩, fun j _ j2 _ _ => hu0 j j2, fun t ht => absurd ht (by omega)⟩, ?_, by omega, fun _ => hu0 0 (by omega), fun z => absurd z (by omega), ?_⟩
    · rw [y2.1 3 (by decide), hm1, cW_b (by decide), cW_b (by decide), cW_s]; rfl
    · rw [hS2, rF_n (by decide), rF_n (by decide), rF_n (by decide), rF_s]; rfl
    · rw [hrc2.1 11 (by decide)]; exact h11
  have e60 : d_60 g p mA = (d_61 g m2).bind (fun z => l_60 g g 0 p 0 z) := by
    unfold d_60 d_82
    rw [if_pos hO, Option.bind_some, Option.bind_some, Option.bind_some, Option.bind_some, ← hm1, y1, Option.bind_some, Option.bind_some]
  have e179 : d_179 g S1 = (d_178 g S2).bind (fun z => l_179 g g 0 z.1 z.2) := by
    unfold d_179
    rw [h11, if_pos (show aIn (6 : Int32) 7 = true by decide), hS2]
    rfl
  obtain ⟨m3, v', S3, z1, z3, z4, z5, z6, z7⟩ := cl_shop (g := g) (by omega) hp hs
  have hrc3 : rc [1, 8, 9, 10, 12, 14] [4, 7] S1 S3 := hrc2.tr (z5.mo (by decide) (by decide))
  have hmc : (cP mA 3 p).1 = mA.1 := rfl
  rw [e60, e179, z1, Option.bind_some, z3, Option.bind_some]
  rcases z7 with ⟨rfl, a', u', T', W', C', Sa', w1, w2⟩ | ⟨rfl, v, w1, w2⟩
  · have hle := w2.1.2.1
    obtain ⟨v, m', S', t1, t2, t3, -, t4, t5, t6, t7, t8⟩ := lp_shop (g := g) (by omega) hp hb (n - a') a' 1 0 g g m3 S3 u' T' W' C' Sa' (by omega) (by omega) (by omega) (by omega) (by omega) w2
    exact ⟨v, m', S', t1, t2, fun b q1 q2 q3 => by rw [t3.1 b q1 q2 q3, z4.1 b q1 q2 q3, f3 b q1 q2], by rw [t3.2, z4.2, y2.2, f2], hrc3.tr (t4.mo (by decide) (by decide)), t5, t6, t7, t8⟩
  · obtain ⟨g', hg'⟩ : ∃ g', g = g' + 3 := ⟨g - 3, by omega⟩
    obtain ⟨m', S', t1, t2, t3, -, t4, t5, t6, t7, t8⟩ := lp_f (g := g) (N := g') (N' := g') (i := 0) hp z6 w1 w2 (by omega)
    rw [← hg'] at t1 t2
    exact ⟨v, m', S', t1, t2, fun b q1 q2 q3 => by rw [t3.1 b q1 q2 q3, z4.1 b q1 q2 q3, f3 b q1 q2], by rw [t3.2, z4.2, y2.2, f2], hrc3.tr (t4.mo (by decide) (by decide)), t5, t6, t7, t8⟩
theorem kd_nw {N : Nat} : kd (406 + 13 * N) = (100 + 5, 0) := by
  rw [kd_lo (by omega), show (406 + 13 * N - 406) % 13 = 0 by omega]
  rfl
set_option maxHeartbeats 2000000 in
theorem sp_shop (hg : 5000 ≤ g) (h : Inv k m S) : St k (d_104 g m) (d_181 g S) := by
  obtain ⟨hk, ⟨n, n1, n2, n3, n4⟩, w, q, x, T, W, C, Sa, R, hc, hr, hpa, him⟩ := id h
  obtain ⟨N, hN⟩ : ∃ N, N = m.2.2.2 := ⟨_, rfl⟩
  obtain ⟨p, hp⟩ : ∃ p, p = 406 + 13 * N := ⟨_, rfl⟩
  have hp4 : 406 ≤ p := by omega
  have n10 : ∀ b, b < p → (nS m).1 b = m.1 b := fun b hb => if_neg (by rw [← hN]; omega)
  have n11 : ∀ b, p ≤ b → ∀ j, (nS m).1 b j = 0 := fun b hb j => by
    show (if 406 + 13 * m.2.2.2 ≤ b then (fun _ => (0 : Int32)) else m.1 b) j = 0
    rw [if_pos (by rw [← hN]; omega)]
  have hO : cO (nS m) p 5 = true := by
    unfold cO
    rw [Bool.and_eq_true]
    refine ⟨decide_eq_true ?_, decide_eq_true (by rw [hp]; exact kd_nw)⟩
    show p < 406 + 13 * (m.2.2.2 + 1)
    omega
  have ht : tp (nS m) (S.2.1 0) n := ⟨by rw [n10 1 (by omega)]; exact n3, n1, fun i hi => by rw [n10 2 (by omega)]; exact (n4 i hi).1⟩
  obtain ⟨S1, y1, y2, y3⟩ := q_l181a (g := g) 80 0 g (rF S 11 6) (by omega) (by omega) (fun d hd => absurd hd (by omega))
  have hrt : rt S1 (S.2.1 0) n := ⟨by rw [y2.1 1 (by simp), rF_n (by decide)]; exact n2, n1, y2.2 0 (by decide)⟩
  obtain ⟨v, m', S', z1, z2, z3, z4, z5, z6, z7, z8, z9⟩ := rd_shop (g := g) (mA := nS m) (S1 := S1) hg hp4 (fun i hi => (n4 i hi).2) hO ht (fun b b1 _ j => n11 b b1 j) hrt (by rw [y2.1 11 (by simp), rF_s]) y3
  have e104 : d_104 g m = (if nI v = 0 then (d_98 g p (cW m' 1 1 0)).bind (fun z_10 => (d_10 g z_10).bind (fun z_14 => if cO z_14 p 5 = true then some (z_14.1 p 4, z_14) else none)) else some (-2 - nI v, cW m' 1 1 0)) := by
    unfold d_104
    rw [Option.bind_some, ← hN, ← hp, z1, Option.bind_some, Option.bind_some]
  have e181 : d_181 g S = (if ¬ (if v = 0 then (1 : Int32) else 0) = 0 then l_181 g (g - 81) 1 0 0 0 S' else some (-2 - S'.1 9, S')) := by
    show l_181 g g 0 (nI 0) 0 0 (rF S 11 6) = _
    rw [y1, z2, Option.bind_some]
  have hrc : rc [1, 8, 9, 10, 11, 12, 14] [4, 7] S S' := ((rc.F (by decide)).tr (y2.mo (by decide) (by decide))).tr (z5.mo (by decide) (by decide))
  have fm : ∀ b, b ≠ 1 → b ≠ 3 → b < p → m'.1 b = m.1 b := fun b q1 q2 q3 => by rw [z3 b q1 q2 q3, n10 b q3]
  have f222 : m'.2.2.2 = N + 1 := by rw [z4, hN]; rfl
  have f221 : ∀ b, b ≠ 3 → m'.2.2.1 b = m.2.2.1 b := fun b hb => by rw [z4]; exact up_n hb
  have eB : bS3 S' = bS3 S := by
    unfold bS3
    rw [hrc.2 3 (by decide), hrc.2 5 (by decide), hrc.2 6 (by decide)]
  -- what images need
  have im : ∀ (m2 : cM) (S2 : rS), (∀ b, (273 ≤ b ∧ b ≤ 381) ∨ (6 ≤ b ∧ b ≤ 18) ∨ 406 ≤ b → b < p → m2.1 b = m'.1 b) → (∀ b, 274 ≤ b → m2.2.2.1 b = m'.2.2.1 b) → m2.2.2.2 = N + 1 → S2.2.1 43 = S.2.1 43 → S2.2.1 44 = S.2.1 44 → S2.2.1 45 = S.2.1 45 → S2.2.1 46 = S.2.1 46 → imI m2 S2 R (k + 1) := fun m2 S2 q1 q2 q3 q4 q5 q6 q7 => him.congr (Nat.le_refl _) (by omega) (fun b b1 b2 => by rw [q1 b b1 (by omega)]; exact fm b (by omega) (by omega) (by omega)) (fun b hb => by rw [q2 b hb]; exact f221 b (by omega)) (by omega) q4 q5 q6 q7
  have rb : ∀ m2 : cM, m2.1 32 = m'.1 32 → (∀ b, 35 ≤ b → b ≤ 70 → m2.1 b = m'.1 b) → rbR m2.1 (bS3 S) R := fun m2 q1 q2 => hc.2.2.2.2.2.2.congr (by rw [q1, fm 32 (by omega) (by omega) (by omega)]) (fun b b1 b2 => by rw [q2 b b1 b2]; exact fm b (by omega) (by omega) (by omega))
  rw [e104, e181]
  by_cases hv : v = 0
  case neg =>
    rw [if_neg (nI_ne0 (by omega) (by omega)), if_neg hv, if_neg n_0, z8 hv]
    refine ⟨_, _, _, rfl, rfl, ?_⟩
    have g1 : ∀ b, b ≠ 1 → b ≠ 3 → b < p → (cW m' 1 1 0).1 b = m.1 b := fun b q1 q2 q3 => by rw [cW_b q1]; exact fm b q1 q2 q3
    have hO5 := cO_iff hc.cy.1
    have hw5 : wR (cW m' 1 1 0) 5 w (rI q) x T W C Sa := by
      have hsp := hc.cy.2.1
      unfold spO at hsp
      have := kb_13 (k := 12) hO5.1 hO5.2 (by omega)
      exact hc.1.congr (fun i hi => g1 _ (by omega) (by omega) (by omega)) (g1 5 (by omega) (by omega) (by omega)) (fun i i1 i2 => g1 _ (by omega) (by omega) (by omega)) (f221 5 (by omega)) (by show m.2.2.2 ≤ m'.2.2.2; omega)
    refine ⟨by show m'.2.2.2 ≤ k + 1; omega, ⟨0, by omega, z6, cW_s, fun i hi => absurd hi (by omega)⟩, w, q, x, T, W, C, Sa, R, ?_, ?_, ?_, ?_⟩
    · rw [eB]
      exact ⟨hw5, hc.2.1, hc.2.2.1.mo (by omega), hc.2.2.2.1, hc.2.2.2.2.1, hc.2.2.2.2.2.1, rb _ (cW_b (by decide)) (fun b b1 b2 => cW_b (by omega))⟩
    · rw [eB]
      unfold rx
      rw [hrc.2 20 (by decide), hrc.1 21 (by decide), hrc.1 22 (by decide), hrc.2 3 (by decide), hrc.2 5 (by decide), hrc.2 6 (by decide), hrc.1 2 (by decide)]
      exact hr
    · exact hpa.congr (by omega) (fun b b1 b2 => g1 b (by omega) (by omega) (by omega)) (hrc.1 27 (by decide)) (hrc.2 26 (by decide)) (fun _ _ => rfl)
    · exact im _ _ (fun b b1 b2 => cW_b (by omega)) (fun b _ => rfl) f222 (hrc.2 43 (by decide)) (hrc.2 44 (by decide)) (hrc.2 45 (by decide)) (hrc.2 46 (by decide))
  case pos =>
    obtain ⟨T', W', C', Sa', hX, hp0, hu0⟩ := z9 hv
    obtain ⟨⟨⟨a1, a2, a3, a4, a5, a6, a7⟩, hdT, hdW, hdS, hdC⟩, hV', hZ1, hZ2⟩ := hX
    have hT8 := hV'.1.2
    have hC5 := hV'.2.2.1.2
    rw [if_pos (show nI v = 0 by rw [hv]; rfl), if_pos hv, if_pos n_1]
    obtain ⟨S2, b1, b2, b3, b4⟩ := q_l181b (g := g) (u := S'.2.1 7) 181 0 (g - 81) S' (by omega) (by omega) rfl (fun d hd => absurd hd (by omega))
    have b1 : l_181 g (g - 81) 1 0 0 0 S' = some (S2.2.1 20 1, S2) := b1
    obtain ⟨u, hu⟩ : ∃ u, u = S'.2.1 7 := ⟨_, rfl⟩
    rw [← hu] at hdT hdW hdS hdC hV' hZ1 hZ2 hu0 a1 a2 a3 b4
    obtain ⟨m1, hm1⟩ : ∃ m1, m1 = cP (cW m' 1 1 0) 5 p := ⟨_, rfl⟩
    have hO1 : ∀ m2 : cM, m2.2.2.2 = N + 1 → cO m2 p 5 = true := fun m2 q => by
      unfold cO
      rw [Bool.and_eq_true]
      exact ⟨decide_eq_true (by rw [q]; omega), decide_eq_true (by rw [hp]; exact kd_nw)⟩
    have m12 : m1.2.2.2 = N + 1 := by rw [hm1]; exact f222
    obtain ⟨m2, c1, c2, c3, c4, c5⟩ := p_71 (g := g) (m := m1) (p := p) (by omega) hp4 (hO1 m1 m12)
    obtain ⟨m3, hm3⟩ : ∃ m3, m3 = cW (cW m2 5 8 0) 90 2 0 := ⟨_, rfl⟩
    have e1 : ∀ b, b ≠ 1 → m1.1 b = m'.1 b := fun b q1 => by rw [hm1]; exact cW_b q1
    have e3 : ∀ b, b ≠ 5 → b ≠ 90 → m3.1 b = m2.1 b := fun b q1 q2 => by rw [hm3, cW_b q2, cW_b q1]
    have ea : ∀ b, b ≠ 1 → b ≠ 5 → b ≠ 90 → ¬ (19 ≤ b ∧ b ≤ 25) → m3.1 b = m'.1 b := fun b q1 q2 q3 q4 => by rw [e3 b q2 q3, c3 b q4, e1 b q1]
    have e2 : m3.2 = m1.2 := by rw [hm3]; exact c2
    have hm32 : m3.2.2.2 = N + 1 := by rw [e2]; exact m12
    have h15 : m1.2.2.1 5 = p := by rw [hm1]; show va_up m'.2.2.1 5 p 5 = p; exact up_s
    have h1o : ∀ b, b ≠ 5 → m1.2.2.1 b = m'.2.2.1 b := fun b hb => by rw [hm1]; exact up_n hb
    rw [b1]
    have e98 : (d_98 g p (cW m' 1 1 0)).bind (fun z_10 => (d_10 g z_10).bind (fun z_14 => if cO z_14 p 5 = true then some (z_14.1 p 4, z_14) else none)) = some (S2.2.1 20 1, m3) := by
      unfold d_98 d_10
      rw [if_pos (hO1 (cW m' 1 1 0) f222), Option.bind_some, ← hm1, c1, Option.bind_some, Option.bind_some, Option.bind_some, Option.bind_some, Option.bind_some, ← hm3, if_pos (hO1 m3 hm32), ea p (by omega) (by omega) (by omega) (by omega), a4, b4 1 (by omega), if_pos (by omega), hV'.1.1]
    rw [e98]
    refine ⟨_, m3, S2, rfl, rfl, ?_⟩
    obtain ⟨ws, hws⟩ : ∃ ws, ws = S2.2.1 20 := ⟨_, rfl⟩
    rw [← hws] at b4
    have w1 : ∀ j, j < 140 → ws j = u j := fun j hj => by rw [b4 j (by omega), if_pos hj]
    have w0 : ∀ j, 140 ≤ j → j < 181 → ws j = nI 0 := fun j h1 h2 => by rw [b4 j h2, if_neg (by omega)]; rfl
    have wz : ∀ j, 7 ≤ j → j < 80 → j ≠ 10 → (∀ t, t < 8 → j ≠ 16 + 5 * t) → ws j = nI 0 := fun j q1 q2 q3 q4 => by rw [w1 j (by omega)]; exact hZ1 j q1 q2 q3 q4
    have hrcb : rc [1, 8, 9, 10, 11, 12, 14, 27] [4, 7, 20] S S2 := (hrc.mo (by decide) (by decide)).tr (b2.mo (by decide) (by decide))
    have eB2 : bS3 S2 = bS3 S := by
      unfold bS3
      rw [hrcb.2 3 (by decide), hrcb.2 5 (by decide), hrcb.2 6 (by decide)]
    have hpm : ∀ i, i ≤ 12 → m3.1 (p + i) = m'.1 (p + i) := fun i hi => ea _ (by omega) (by omega) (by omega) (by omega)
    have hpm0 : m3.1 p = m'.1 p := hpm 0 (by omega)
    have hVw : shV ws T' W' C' Sa' := hV'.cw (fun j hj => w1 j (by omega))
    have h19 : m3.1 19 = m2.1 19 := e3 19 (by decide) (by decide)
    have hSR : shR m3.1 p ws T' W' C' Sa' := by
      have hW6 := hV'.2.1.2
      have hS4 := hV'.2.2.2.1.2
      refine ⟨?_, fun t ht => ?_, fun t ht => ?_, fun t ht => ?_, fun t ht => ?_⟩
      · rw [hpm0, w1 0 (by omega), w1 4 (by omega), w1 5 (by omega), w1 6 (by omega), w1 1 (by omega), w1 2 (by omega), w1 10 (by omega), w1 3 (by omega)]
        exact ⟨hp0.trans hu0.symm, a1, a2, a3, a4.trans hV'.1.1.symm, a5.trans hV'.2.1.1.symm, a6.trans hV'.2.2.2.1.1.symm, a7.trans hV'.2.2.1.1.symm⟩
      · rw [hpm 1 (by omega), hpm 2 (by omega), w1 _ (by omega), w1 _ (by omega)]; exact ⟨(hdT t ht).1, (hdT t ht).2.1⟩
      · rw [hpm 4 (by omega), hpm 5 (by omega), w1 _ (by omega), w1 _ (by omega)]; exact hdW t ht
      · rw [hpm 6 (by omega), hpm 7 (by omega), hpm 8 (by omega), w1 _ (by omega), w1 _ (by omega), w1 _ (by omega)]; exact hdS t ht
      · rw [hpm 9 (by omega), hpm 10 (by omega), hpm 11 (by omega), hpm 12 (by omega), w1 _ (by omega), w1 _ (by omega), w1 _ (by omega), w1 _ (by omega)]; exact hdC.1 t ht
    have hST : stR m3.1 19 ws T' := by
      refine ⟨⟨?_, ?_, ?_, ?_, ?_⟩, fun t ht f hf => ?_, fun t ht => ?_, fun t t1 t2 => ?_, fun i hi => ?_, fun i hi => ?_, ⟨0, by omega, ?_, fun c hc => ?_⟩⟩
      · rw [h19, c5 8 (by omega) (by omega), wz 9 (by omega) (by omega) (by omega) (by omega)]; rfl
      · rw [h19, c5 9 (by omega) (by omega), wz 79 (by omega) (by omega) (by omega) (by omega)]; rfl
      · rw [h19, c5 11 (by omega) (by omega), wz 8 (by omega) (by omega) (by omega) (by omega)]; rfl
      · rw [h19, c5 12 (by omega) (by omega), wz 11 (by omega) (by omega) (by omega) (by omega)]; rfl
      · rw [h19, c5 13 (by omega) (by omega), wz 7 (by omega) (by omega) (by omega) (by omega)]; rfl
      · obtain ⟨q20, q21, q22, q23, q24, q25⟩ := c4 t (by omega)
        have hf5 : f = 0 ∨ f = 1 ∨ f = 2 ∨ f = 3 ∨ f = 4 := by omega
        rcases hf5 with e | e | e | e | e
        · subst e
          show m3.1 21 t = ws (16 + 5 * t)
          rw [e3 21 (by decide) (by decide), q21, e1 _ (by omega), w1 _ (by omega)]
          exact (hdT t ht).2.2
        · subst e
          show m3.1 20 t = ws (16 + 5 * t + 1)
          rw [e3 20 (by decide) (by decide), q20, wz _ (by omega) (by omega) (by omega) (by omega)]; rfl
        · subst e
          show m3.1 22 t = ws (16 + 5 * t + 2)
          rw [e3 22 (by decide) (by decide), q22, wz _ (by omega) (by omega) (by omega) (by omega)]; rfl
        · subst e
          show m3.1 23 t = ws (16 + 5 * t + 3)
          rw [e3 23 (by decide) (by decide), q23, wz _ (by omega) (by omega) (by omega) (by omega)]; rfl
        · subst e
          show m3.1 24 t = ws (16 + 5 * t + 4)
          rw [e3 24 (by decide) (by decide), q24, wz _ (by omega) (by omega) (by omega) (by omega)]; rfl
      · show m3.1 25 t = ws (56 + t)
        rw [e3 25 (by decide) (by decide), (c4 t (by omega)).2.2.2.2.2, wz _ (by omega) (by omega) (by omega) (by omega)]; rfl
      · show m3.1 20 t = 0 ∧ m3.1 24 t = 0
        rw [e3 20 (by decide) (by decide), e3 24 (by decide) (by decide)]
        exact ⟨(c4 t t2).1, (c4 t t2).2.2.2.2.1⟩
      · rw [wz 9 (by omega) (by omega) (by omega) (by omega), n_cl (by omega)] at hi; omega
      · rw [wz 79 (by omega) (by omega) (by omega) (by omega), n_cl (by omega)] at hi; omega
      · rw [h19, c5 10 (by omega) (by omega)]; rfl
      · rw [wz _ (by omega) (by omega) (by omega) (by omega), Nat.zero_div, Nat.zero_mod]
    have hSV : stV ws T' C' (k + 1) := by
      refine ⟨⟨0, by omega, wz 7 (by omega) (by omega) (by omega) (by omega)⟩, ⟨0, by omega, wz 9 (by omega) (by omega) (by omega) (by omega), fun i hi => absurd hi (by omega), fun i j _ hj => absurd hj (by omega)⟩, ⟨0, by omega, wz 79 (by omega) (by omega) (by omega) (by omega), fun i hi => absurd hi (by omega)⟩, fun t ht => ?_, fun t ht => ⟨⟨0, by omega, wz _ (by omega) (by omega) (by omega) (by omega)⟩, ⟨0, by omega, wz _ (by omega) (by omega) (by omega) (by omega)⟩, ⟨0, by omega, wz _ (by omega) (by omega) (by omega) (by omega)⟩⟩, fun _ => ⟨0, by omega, wz 11 (by omega) (by omega) (by omega) (by omega)⟩, ?_⟩
      · obtain ⟨s, s1, s2⟩ := hZ2 t ht
        exact ⟨s, 0, s1, by omega, by rw [w1 _ (by omega)]; exact s2, wz _ (by omega) (by omega) (by omega) (by omega)⟩
      · have : bs17 ws T' = sN (fun _ => 0) T' := sN_c (fun t ht => by
          show nN (ws (17 + 5 * t)) = 0
          rw [wz _ (by omega) (by omega) (by omega) (by omega), n_cl (by omega)])
        rw [this]
        have hz : ∀ j, sN (fun _ => 0) j = 0 := fun j => by
          induction j with
          | zero => rfl
          | succ j ih => show sN (fun _ => 0) j + 0 = 0; rw [ih]
        rw [hz]
        omega
    refine ⟨by omega, ⟨0, by omega, ?_, ?_, fun i hi => absurd hi (by omega)⟩, ws, q, x, T', W', C', Sa', R, ?_, ?_, ?_, ?_⟩
    · rw [b2.1 1 (by decide)]; exact z6
    · rw [e3 1 (by decide) (by decide), c3 1 (by omega), hm1, cP_1, cW_s]; rfl
    · rw [eB2]
      have h5 : m3.1 5 = upd (m'.1 5) 8 0 := by
        rw [hm3, cW_b (by decide), cW_u, c3 5 (by omega), e1 5 (by decide)]
      have hm5 := hc.1.2.2.1
      refine ⟨⟨?_, hST, ⟨?_, ?_, ?_⟩, fun i hi => ?_, ?_, ?_⟩, hVw, hSV, ⟨0, by omega, w0 180 (by omega) (by omega), fun i hi => absurd hi (by omega)⟩, hc.2.2.2.2.1, hc.2.2.2.2.2.1, rb _ (ea 32 (by omega) (by omega) (by omega) (by omega)) (fun b b1 b2 => ea b (by omega) (by omega) (by omega) (by omega))⟩
      · rw [e2, h15]; exact hSR
      · rw [h5, upd_n (by omega), fm 5 (by omega) (by omega) (by omega)]; exact hm5.1
      · rw [h5, upd_n (by omega), fm 5 (by omega) (by omega) (by omega)]; exact hm5.2.1
      · rw [h5, upd_s, w0 180 (by omega) (by omega)]; rfl
      · rw [w0 180 (by omega) (by omega), n_cl (by omega)] at hi; omega
      · rw [e2, h15]; exact hO1 m3 hm32
      · rw [e2, h15]
        unfold spO
        omega
    · rw [eB2]
      unfold rx
      rw [hrcb.1 21 (by decide), hrcb.1 22 (by decide), hrcb.2 3 (by decide), hrcb.2 5 (by decide), hrcb.2 6 (by decide), hrcb.1 2 (by decide)]
      exact ⟨hws.symm, hr.2⟩
    · obtain ⟨nx, kp, p1, p2, p3, p4, p5, p6⟩ := hpa
      refine ⟨nx, 0, p1, by omega, ?_, ?_, b3, fun i hi => absurd hi (by omega)⟩
      · rw [hm3, cW_k (by decide), cW_b (by decide), c3 90 (by omega), e1 90 (by decide), fm 90 (by omega) (by omega) (by omega)]; exact p3
      · rw [hm3, cW_s]; rfl
    · exact im _ _ (fun b b1 b2 => ea b (by omega) (by omega) (by omega) (by omega)) (fun b hb => by rw [e2]; exact h1o b (by omega)) hm32 (hrcb.2 43 (by decide)) (hrcb.2 44 (by decide)) (hrcb.2 45 (by decide)) (hrcb.2 46 (by decide))
end ISI
