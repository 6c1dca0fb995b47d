/-! rows w that agree where it matters -/
section CW
variable {w w' : Nat → Int32} {T W C Sa k a p : Nat} {M : Nat → Nat → Int32}
theorem shV.cw (h : shV w T W C Sa) (e : ∀ j, j ≤ 6 ∨ j = 10 ∨ (80 ≤ j ∧ j < 140) → w' j = w j) : shV w' T W C Sa := by
  obtain ⟨h1, h2, h3, h4, h5, h6, h7, h8, h9, h10, h11, h12⟩ := h
  have := h1.2; have := h2.2; have := h3.2; have := h4.2
  refine ⟨by rw [e 1 (by omega)]; exact h1, by rw [e 2 (by omega)]; exact h2, by rw [e 3 (by omega)]; exact h3, by rw [e 10 (by omega)]; exact h4, by rw [e 0 (by omega)]; exact h5, by rw [e 4 (by omega)]; exact h6, by rw [e 5 (by omega)]; exact h7, by rw [e 6 (by omega)]; exact h8, fun t ht => ?_, fun i hi => ?_, fun s hs => ?_, fun c hc => ?_⟩
  · rw [e (80 + 2 * t) (by omega), e (81 + 2 * t) (by omega)]; exact h9 t ht
  · rw [e (96 + 2 * i) (by omega), e (97 + 2 * i) (by omega)]; exact h10 i hi
  · rw [e (110 + 3 * s) (by omega)]; exact h11 s hs
  · rw [e (120 + 4 * c) (by omega), e (121 + 4 * c) (by omega), e (122 + 4 * c) (by omega), e (123 + 4 * c) (by omega)]; exact h12 c hc
theorem shR.cw (h : shR M p w T W C Sa) (hV : shV w T W C Sa) (e : ∀ j, j ≤ 6 ∨ j = 10 ∨ (80 ≤ j ∧ j < 140) → w' j = w j) : shR M p w' T W C Sa := by
  obtain ⟨h1, h2, h3, h4, h5⟩ := h
  have := hV.1.2; have := hV.2.1.2; have := hV.2.2.1.2; have := hV.2.2.2.1.2
  refine ⟨?_, fun t ht => ?_, fun i hi => ?_, fun s hs => ?_, fun c hc => ?_⟩
  · rw [e 0 (by omega), e 1 (by omega), e 2 (by omega), e 3 (by omega), e 4 (by omega), e 5 (by omega), e 6 (by omega), e 10 (by omega)]; exact h1
  · rw [e (80 + 2 * t) (by omega), e (81 + 2 * t) (by omega)]; exact h2 t ht
  · rw [e (96 + 2 * i) (by omega), e (97 + 2 * i) (by omega)]; exact h3 i hi
  · rw [e (108 + 3 * s) (by omega), e (109 + 3 * s) (by omega), e (110 + 3 * s) (by omega)]; exact h4 s hs
  · rw [e (120 + 4 * c) (by omega), e (121 + 4 * c) (by omega), e (122 + 4 * c) (by omega), e (123 + 4 * c) (by omega)]; exact h5 c hc
theorem bs17_c (e : ∀ t, t < T → w' (17 + 5 * t) = w (17 + 5 * t)) : bs17 w' T = bs17 w T := sN_c (fun t ht => by show nN _ = nN _; rw [e t ht])
theorem stV.cw (h : stV w T C k) (hT : T ≤ 8) (hC : C ≤ 5) (e : ∀ j, j < 80 → w' j = w j) : stV w' T C k := by
  obtain ⟨h1, ⟨L, a1, a2, a3, a4⟩, ⟨L2, b1, b2, b3⟩, h4, h5, h6⟩ := h
  refine ⟨by rw [e 7 (by omega)]; exact h1, ⟨L, a1, by rw [e 9 (by omega)]; exact a2, fun i hi => ?_, fun i j hi hj => ?_⟩, ⟨L2, b1, by rw [e 79 (by omega)]; exact b2, fun i hi => ?_⟩, fun t ht => ?_, fun t ht => ?_, ⟨by rw [e 6 (by omega), e 11 (by omega)]; exact h6.1, by rw [bs17_c (fun t ht => e _ (by omega))]; exact h6.2⟩⟩
  · rw [e (64 + i) (by omega)]; exact a3 i hi
  · rw [e (64 + i) (by omega), e (64 + j) (by omega)]; exact a4 i j hi hj
  · rw [e (74 + i) (by omega)]; exact b3 i hi
  · rw [e (16 + 5 * t) (by omega), e (17 + 5 * t) (by omega)]; exact h4 t ht
  · rw [e (19 + 5 * t) (by omega), e (20 + 5 * t) (by omega), e (56 + t) (by omega)]; exact h5 t ht
theorem stR.cw (h : stR M a w T) (hV : stV w T C k) (hT : T ≤ 8) (hC : C ≤ 5) (e : ∀ j, j < 80 → w' j = w j) : stR M a w' T := by
  obtain ⟨h1, h2, h3, h4, h5, h6, ⟨U, u1, u2, u3⟩⟩ := h
  obtain ⟨-, ⟨L, a1, a2, a3, a4⟩, ⟨L2, b1, b2, b3⟩, -⟩ := hV
  have n9 : nN (w 9) = L := by rw [a2]; exact n_cl (by omega)
  have n79 : nN (w 79) = L2 := by rw [b2]; exact n_cl (by omega)
  refine ⟨?_, fun t ht f hf => ?_, fun t ht => ?_, h4, fun i hi => ?_, fun i hi => ?_, ⟨U, u1, u2, fun c hc => ?_⟩⟩
  · rw [e 9 (by omega), e 79 (by omega), e 8 (by omega), e 11 (by omega), e 7 (by omega)]; exact h1
  · rw [e (16 + 5 * t + f) (by omega)]; exact h2 t ht f hf
  · rw [e (56 + t) (by omega)]; exact h3 t ht
  · rw [e 9 (by omega), n9] at hi
    rw [e (64 + i) (by omega)]; exact h5 i (by omega)
  · rw [e 79 (by omega), n79] at hi
    rw [e (74 + i) (by omega)]; exact h6 i (by omega)
  · rw [e (69 + c) (by omega)]; exact u3 c hc
theorem tdV.cw (h : tdV w T) (e : ∀ j, 140 ≤ j → j ≤ 180 → w' j = w j) : tdV w' T := by
  obtain ⟨N, h1, h2, h3⟩ := h
  refine ⟨N, h1, by rw [e 180 (by omega) (by omega)]; exact h2, fun i hi => ?_⟩
  rw [e (140 + 4 * i) (by omega) (by omega), e (141 + 4 * i) (by omega) (by omega), e (142 + 4 * i) (by omega) (by omega)]
  exact h3 i hi
end CW
section SE
variable {g k : Nat} {m m' : cM} {S S' : rS}
/-- all but the tape as it was -/
theorem Inv.tp (h : Inv k m S) (e1 : ∀ b, 5 ≤ b → b ≠ 32 → ¬ (71 ≤ b ∧ b ≤ 89) → m'.1 b = m.1 b) (e2 : ∀ j, j ≠ 4 → m'.1 32 j = m.1 32 j) (e3 : ∀ b, 5 ≤ b → m'.2.2.1 b = m.2.2.1 b) (e4 : m'.2.2.2 = m.2.2.2) (f1 : ∀ j, j = 2 ∨ j = 21 ∨ j = 22 ∨ j = 27 → S'.1 j = S.1 j) (f2 : ∀ j, j = 3 ∨ j = 5 ∨ j = 6 ∨ j = 20 ∨ j = 26 ∨ (43 ≤ j ∧ j ≤ 46) → S'.2.1 j = S.2.1 j) (ht : tpI m' S') : Inv (k + 1) m' S' := by
  obtain ⟨a1, -, w, q, x, T, W, C, Sa, R, c1, c2, c3, c4⟩ := h
  have eB : bS3 S' = bS3 S := by
    unfold bS3
    rw [f2 3 (by omega), f2 5 (by omega), f2 6 (by omega)]
  have hp := c1.1.2.2.2.2.2
  unfold spO at hp
  refine ⟨by rw [e4]; omega, ht, w, q, x, T, W, C, Sa, R, ?_, ?_, ?_, ?_⟩
  · rw [eB]
    obtain ⟨d1, d2, d3, d4, d5, d6, d7⟩ := c1
    exact ⟨d1.congr (fun i hi => e1 _ (by omega) (by omega) (by omega)) (e1 _ (by omega) (by omega) (by omega)) (fun i h1 h2 => e1 _ (by omega) (by omega) (by omega)) (e3 _ (by omega)) (by rw [e4]; exact Nat.le_refl _), d2, d3.mo (by omega), d4, d5, d6, d7.congr (e2 2 (by omega)) (fun b h1 h2 => e1 b (by omega) (by omega) (by omega))⟩
  · rw [eB]
    unfold rx
    rw [f2 20 (by omega), f1 21 (by omega), f1 22 (by omega), f2 3 (by omega), f2 5 (by omega), f2 6 (by omega), f1 2 (by omega)]
    exact c2
  · exact c3.congr (by omega) (fun b h3 h4 => e1 b (by omega) (by omega) (by omega)) (f1 27 (by omega)) (f2 26 (by omega)) (fun _ _ => rfl)
  · exact c4.congr (Nat.le_refl _) (by omega) (fun b h3 _ => e1 b (by omega) (by omega) (by omega)) (fun b h3 => e3 b (by omega)) (by rw [e4]; exact Nat.le_refl _) (f2 43 (by omega)) (f2 44 (by omega)) (f2 45 (by omega)) (f2 46 (by omega))
theorem s_end (h : Inv k m S) (a : Int32) : St k (d_103 g a m) (d_144 g a S) := by
  obtain ⟨n, t1, t2, t3, t4⟩ := h.2.1
  unfold d_103 d_144
  rw [t2, t3]
  by_cases h0 : a < 0
  · rw [if_pos h0, if_pos h0]
    exact St.no h rfl rfl
  · rw [if_neg h0, if_neg h0]
    by_cases h1 : a ≤ nI n
    · rw [if_pos h1, if_pos h1]
      obtain ⟨j, j1, j2, rfl⟩ := rng (a := 0) (b := n) (by omega) (by omega) ⟨Int32.not_lt.mp h0, h1⟩
      refine ⟨_, _, _, rfl, rfl, h.tp (fun b h1 _ _ => cW_b (by omega)) (fun j _ => by rw [cW_b (by omega)]) (fun _ _ => rfl) rfl (fun j hj => rF_n (by omega)) (fun _ _ => rfl) ⟨j, by omega, rF_s, cW_s, fun i hi => ?_⟩⟩
      rw [cW_b (by omega)]
      exact t4 i (by omega)
    · rw [if_neg h1, if_neg h1]
      exact St.no h rfl rfl
def tpQ (m0 m : cM) (S0 S : rS) (n : Nat) : Prop := S.1 1 = nI n ∧ m.1 1 1 = nI n ∧ (∀ i, i < n → m.1 2 i = S.2.1 0 i ∧ -128 ≤ (S.2.1 0 i).toInt ∧ (S.2.1 0 i).toInt ≤ 127) ∧ (∀ b, b ≠ 1 → b ≠ 2 → m.1 b = m0.1 b) ∧ m.2 = m0.2 ∧ rc [1] [0] S0 S
theorem byt_b (z : Int32) : -128 ≤ (vp_nar .byte z.toInt8.toInt32).toInt ∧ (vp_nar .byte z.toInt8.toInt32).toInt ≤ 127 := by
  rw [pk_vb, Int8.toInt_toInt32]
  have h1 := Int8.le_toInt z.toInt8
  have h2 := Int8.toInt_lt z.toInt8
  omega
theorem tp_step {m0 : cM} {S0 : rS} {n : Nat} {b : Int32} (hn : n < 400) (hb : -128 ≤ b.toInt ∧ b.toInt ≤ 127) (h : tpQ m0 m S0 S n) : tpQ m0 (cW (cW m 2 n b) 1 1 (nI (n + 1))) S0 (rF (rA S 0 (upd (S.2.1 0) n b)) 1 (nI (n + 1))) (n + 1) := by
  obtain ⟨h1, h2, h3, h4, h5, h6⟩ := h
  refine ⟨rF_s, cW_s, fun i hi => ?_, fun c c1 c2 => ?_, h5, (h6.tr (rc.A (by decide))).tr (rc.F (by decide))⟩
  · rw [cW_b (by decide)]
    show (cW m 2 n b).1 2 i = (rA S 0 (upd (S.2.1 0) n b)).2.1 0 i ∧ _ ≤ ((rA S 0 (upd (S.2.1 0) n b)).2.1 0 i).toInt ∧ ((rA S 0 (upd (S.2.1 0) n b)).2.1 0 i).toInt ≤ _
    rw [rA_s]
    by_cases e : i = n
    · subst e
      rw [cW_s, upd_s]
      exact ⟨rfl, hb⟩
    · rw [cW_k e, upd_n e]
      exact h3 i (by omega)
  · rw [cW_b c1, cW_b c2]
    exact h4 c c1 c2
theorem l81_0 {n : Nat} {v x2 : Int32} (h0 : ¬ x2 < 0) {j : Nat} (h1 : m.1 1 1 = nI j) (hj : j < 400) : l_81 g (n + 1) 0 v x2 m = l_81 g n 0 v (x2 + -8) (cW (cW m 2 j (vp_nar .byte ((v >>> (x2 &&& 31)).toInt8.toInt32))) 1 1 (nI (j + 1))) := by
  rw [l_81]
  have e : ∀ b, (cW m 2 j b).1 1 1 = nI j := fun b => by rw [cW_b (by decide)]; exact h1
  have h0 : ¬ x2 < nI 0 := h0
  simp (disch := omega) only [if_true, h0, if_false, h1, lit_nI, k_leF, k_in, k_cl, Option.bind_some, e, nI_add]
theorem l142_0 {n : Nat} {v x2 : Int32} (h0 : ¬ x2 < 0) {j : Nat} (h1 : S.1 1 = nI j) (hj : j < 400) : l_142 g (n + 1) 0 v x2 S = l_142 g n 0 v (x2 + -8) (rF (rA S 0 (upd (S.2.1 0) j (vp_nar .byte ((v >>> (x2 &&& 31)).toInt8.toInt32)))) 1 (nI (j + 1))) := by
  rw [l_142]
  have h0 : ¬ x2 < nI 0 := h0
  simp (disch := omega) only [if_true, h0, if_false, h1, k_in, k_cl, lit_nI, nI_add]
theorem tp_4 {m0 : cM} {S0 : rS} {n : Nat} {v : Int32} (hg : 100 ≤ g) (hn : n + 4 ≤ 400) (h : tpQ m0 m S0 S n) : ∃ m' S', d_81 g v m = some m' ∧ d_142 g v S = some S' ∧ tpQ m0 m' S0 S' (n + 4) := by
  obtain ⟨g', rfl⟩ : ∃ q, g = q + 5 := ⟨g - 5, by omega⟩
  have h1 := tp_step (n := n) (b := vp_nar .byte ((v >>> ((24 : Int32) &&& 31)).toInt8.toInt32)) (by omega) (byt_b _) h
  have h2 := tp_step (n := n + 1) (b := vp_nar .byte ((v >>> (((24 : Int32) + -8) &&& 31)).toInt8.toInt32)) (by omega) (byt_b _) h1
  have h3 := tp_step (n := n + 2) (b := vp_nar .byte ((v >>> (((24 : Int32) + -8 + -8) &&& 31)).toInt8.toInt32)) (by omega) (byt_b _) h2
  have h4 := tp_step (n := n + 3) (b := vp_nar .byte ((v >>> (((24 : Int32) + -8 + -8 + -8) &&& 31)).toInt8.toInt32)) (by omega) (byt_b _) h3
  refine ⟨_, _, ?_, ?_, h4⟩
  · unfold d_81
    rw [l81_0 (by decide) h.2.1 (by omega), l81_0 (by decide) h1.2.1 (by omega), l81_0 (by decide) h2.2.1 (by omega), l81_0 (by decide) h3.2.1 (by omega), l_81, if_pos rfl, if_pos (by decide)]
  · unfold d_142
    rw [l142_0 (by decide) h.1 (by omega), l142_0 (by decide) h1.1 (by omega), l142_0 (by decide) h2.1 (by omega), l142_0 (by decide) h3.1 (by omega), l_142, if_pos rfl, if_pos (by decide)]
theorem s_feed (hg : 100 ≤ g) (h : Inv k m S) (a b c d e : Int32) : St k (d_102 g a b c d e m) (d_143 g a b c d e S) := by
  obtain ⟨n, t1, t2, t3, t4⟩ := h.2.1
  unfold d_102 d_143
  rw [t2, t3, show (20 : Int32) = nI 20 from rfl, nI_add]
  by_cases h0 : n + 20 ≤ 400
  · have q0 : tpQ m m S S n := ⟨t2, t3, t4, fun _ _ _ => rfl, rfl, rc.rf _⟩
    obtain ⟨m1, S1, a1, b1, q1⟩ := tp_4 (g := g) (v := a) hg (by omega) q0
    obtain ⟨m2, S2, a2, b2, q2⟩ := tp_4 (g := g) (v := b) hg (by omega) q1
    obtain ⟨m3, S3, a3, b3, q3⟩ := tp_4 (g := g) (v := c) hg (by omega) q2
    obtain ⟨m4, S4, a4, b4, q4⟩ := tp_4 (g := g) (v := d) hg (by omega) q3
    obtain ⟨m5, S5, a5, b5, q5⟩ := tp_4 (g := g) (v := e) hg (by omega) q4
    rw [if_pos (show nI (n + 20) ≤ 400 from nI_le (b := 400) h0 (by omega)), if_pos (show nI (n + 20) ≤ 400 from nI_le (b := 400) h0 (by omega))]
    simp only [a1, a2, a3, a4, a5, b1, b2, b3, b4, b5, Option.bind_some]
    obtain ⟨y1, y2, y3, y4, y5, y6⟩ := q5
    rw [y1, y2]
    refine ⟨_, m5, S5, rfl, rfl, h.tp (fun b h1 _ _ => y4 b (by omega) (by omega)) (fun j _ => by rw [y4 32 (by omega) (by omega)]) (fun _ _ => by rw [y5]) (by rw [y5]) (fun j hj => y6.1 j (by simp; omega)) (fun j hj => y6.2 j (by simp; omega)) ⟨_, by omega, y1, y2, y3⟩⟩
  · rw [if_neg (show ¬ nI (n + 20) ≤ 400 from nI_ge (a := 400) (by omega) (by omega)), if_neg (show ¬ nI (n + 20) ≤ 400 from nI_ge (a := 400) (by omega) (by omega))]
    exact St.no h rfl rfl
theorem wR.fo {w : Nat → Int32} {fo v x : Int32} {T W C Sa a : Nat} (h : wR m a w fo x T W C Sa) (hp : ∀ i, i ≤ 12 → m.2.2.1 a + i ≠ a) : wR (cW m a 2 v) a w v x T W C Sa := by
  obtain ⟨h1, h2, h3, h4, h5, h6⟩ := h
  refine ⟨h1.congr (fun i hi => cW_b (hp i hi)), h2.congr (fun i hi => cW_b (by omega)), ⟨cW_s, (cW_k (by decide)).trans h3.2.1, (cW_k (by decide)).trans h3.2.2⟩, fun i hi => ?_, h5, h6⟩
  rw [cW_b (by omega), cW_b (by omega), cW_b (by omega), cW_b (by omega)]
  exact h4 i hi
theorem wR.xx {w : Nat → Int32} {fo v x : Int32} {T W C Sa a : Nat} (h : wR m a w fo x T W C Sa) (hp : ∀ i, i ≤ 12 → m.2.2.1 a + i ≠ a) : wR (cW m a 3 v) a w fo v T W C Sa := by
  obtain ⟨h1, h2, h3, h4, h5, h6⟩ := h
  refine ⟨h1.congr (fun i hi => cW_b (hp i hi)), h2.congr (fun i hi => cW_b (by omega)), ⟨(cW_k (by decide)).trans h3.1, cW_s, (cW_k (by decide)).trans h3.2.2⟩, fun i hi => ?_, h5, h6⟩
  rw [cW_b (by omega), cW_b (by omega), cW_b (by omega), cW_b (by omega)]
  exact h4 i hi
theorem cx.rc5 {B : rB} {w : Nat → Int32} {q T W C Sa R : Nat} {x : Int32} (h : cx m B w q x T W C Sa R k) : ∀ i, i ≤ 12 → m.2.2.1 5 + i ≠ 5 := fun i hi => h.1.2.2.2.2.2.ne hi (by omega)
theorem s_force (h : Inv k m S) (a : Int32) : St k (d_106 g a m) (d_196 g a S) := by
  obtain ⟨a1, a2, w, q, x, T, W, C, Sa, R, hc, hr, hpa, him⟩ := id h
  have hR6 := hc.2.2.2.2.2.2.1
  have e32 : m.1 32 2 = nI R := hc.2.2.2.2.2.2.2.1
  have e5 : m.1 5 2 = rI q := hc.1.2.2.1.1
  unfold d_106 d_196
  rw [e32, e5]
  have fin : ∀ q', q' ≤ R → a = rI q' → St k (some (rI q, cW m 5 2 a)) (j_196_16 g a S) := by
    intro q' hq' ha
    unfold j_196_16
    rw [hr.2.1]
    refine ⟨_, _, _, rfl, rfl, by show m.2.2.2 ≤ k + 1; omega, ?_, w, q', x, T, W, C, Sa, R, ?_, ?_, ?_, ?_⟩
    · obtain ⟨n, t1, t2, t3, t4⟩ := a2
      exact ⟨n, t1, by rw [rF_n (by decide)]; exact t2, by rw [cW_b (by decide)]; exact t3, by rw [cW_b (by decide)]; exact t4⟩
    · obtain ⟨d1, d2, d3, d4, d5, d6, d7⟩ := id hc
      refine ⟨?_, d2, d3.mo (by omega), d4, hq', d6, d7.congr (by rw [cW_b (by decide)]) (fun b h1 h2 => cW_b (by omega))⟩
      rw [← ha]
      exact d1.fo hc.rc5
    · obtain ⟨r1, r2, r3, r4⟩ := hr
      exact ⟨r1, by rw [rF_s]; exact ha, by rw [rF_n (by decide)]; exact r3, r4.1, r4.2.1, r4.2.2.1, by rw [rF_n (by decide)]; exact r4.2.2.2⟩
    · exact hpa.congr (by omega) (fun b h1 h2 => cW_b (by omega)) (rF_n (by decide)) rfl (fun _ _ => rfl)
    · exact him.congr (Nat.le_refl _) (by omega) (fun b h1 _ => cW_b (by omega)) (fun _ _ => rfl) (Nat.le_refl _) rfl rfl rfl rfl
  by_cases h1 : a = -1
  · rw [if_pos h1, h1, if_neg (by decide), if_pos (show (-1 : Int32) < nI R from Int32.lt_of_lt_of_le (show (-1 : Int32) < 0 by decide) (nI_pos' (by omega)))]
    have := fin 0 (by omega) (by rw [h1]; exact rI_0.symm)
    rw [h1] at this
    exact this
  · rw [if_neg h1]
    unfold d_182
    rw [hr.2.2.2.2.2.2]
    rcases k_ix a R (by omega) with h2 | ⟨h2, h0⟩ | ⟨t, ht, rfl⟩
    · rw [if_pos h2]
      have h3 : a < -1 := by
        have e1 : a.toInt ≠ (-1 : Int32).toInt := fun e => h1 (Int32.toInt_inj.mp e)
        rw [Int32.lt_iff_toInt_lt] at h2 ⊢
        have e2 : (-1 : Int32).toInt = -1 := by decide
        have e3 : (0 : Int32).toInt = 0 := by decide
        omega
      rw [if_pos h3]
      exact St.no h rfl rfl
    · rw [if_neg h0, if_pos h2, if_neg (Int32.not_lt.mpr h2)]
      have h3 : ¬ a < -1 := fun z => h0 (Int32.lt_trans z (by decide))
      rw [if_neg h3]
      exact St.no h rfl rfl
    · rw [if_neg (nI_pos (by omega)), if_neg (nI_ge ht (by omega)), if_neg (k_lt1 (by omega)), if_pos (nI_lt ht (by omega))]
      simp only [Option.bind_some, z10, not_false_eq_true, if_true]
      exact fin (t + 1) (by omega) (rI_s t).symm
theorem s_seed (h : Inv k m S) (a : Int32) : St k (d_133 g a m) (d_266 g a S) := by
  obtain ⟨a1, a2, w, q, x, T, W, C, Sa, R, hc, hr, hpa, him⟩ := id h
  have e5 : m.1 5 3 = x := hc.1.2.2.1.2.1
  unfold d_133 d_266
  rw [e5]
  by_cases h0 : 0 ≤ a
  · rw [if_pos h0]
    have hn : ¬ a < 0 := Int32.not_lt.mpr h0
    have e22 := hr.2.2.1
    first | rw [if_neg hn] | rw [if_pos h0]
    rw [e22]
    refine ⟨_, _, _, rfl, rfl, by show m.2.2.2 ≤ k + 1; omega, ?_, w, q, a, T, W, C, Sa, R, ?_, ?_, ?_, ?_⟩
    · obtain ⟨n, t1, t2, t3, t4⟩ := a2
      exact ⟨n, t1, by rw [rF_n (by decide)]; exact t2, by rw [cW_b (by decide)]; exact t3, by rw [cW_b (by decide)]; exact t4⟩
    · obtain ⟨d1, d2, d3, d4, d5, d6, d7⟩ := id hc
      exact ⟨d1.xx hc.rc5, d2, d3.mo (by omega), d4, d5, hn, d7.congr (by rw [cW_b (by decide)]) (fun b h1 h2 => cW_b (by omega))⟩
    · obtain ⟨r1, r2, r3, r4⟩ := hr
      exact ⟨r1, by rw [rF_n (by decide)]; exact r2, rF_s, r4.1, r4.2.1, r4.2.2.1, by rw [rF_n (by decide)]; exact r4.2.2.2⟩
    · exact hpa.congr (by omega) (fun b h1 h2 => cW_b (by omega)) (rF_n (by decide)) rfl (fun _ _ => rfl)
    · exact him.congr (Nat.le_refl _) (by omega) (fun b h1 _ => cW_b (by omega)) (fun _ _ => rfl) (Nat.le_refl _) rfl rfl rfl rfl
  · rw [if_neg h0]
    have hn : a < 0 := by rw [Int32.not_le] at h0; exact h0
    first | rw [if_pos hn] | rw [if_neg h0]
    exact St.no h rfl rfl
end SE
