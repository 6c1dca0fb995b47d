section BC
variable {g k : Nat} {m : cM} {S : rS} {B : rB} {w : Nat → Int32} {q T W C Sa R L : Nat} {x : Int32}
/-- lastDear -/
theorem p_l117 {D : Nat} {x2 : Int32} (hg : 2000 ≤ g) (hV : shV w T W C Sa) (hst : stV w T C k) (hD : w 7 = nI D) : ∀ (j i n : Nat) (m : cM), i + j = T → j + 1 ≤ n → cO m (m.2.2.1 5) 5 = true → spO (m.2.2.1 5) → shR m.1 (m.2.2.1 5) w T W C Sa → rbR m.1 B R → q ≤ R → m.1 5 2 = rI q → m.1 19 13 = nI D → (∀ t, t < T → m.1 21 t = w (16 + 5 * t) ∧ m.1 22 t = w (18 + 5 * t) ∧ m.1 23 t = w (19 + 5 * t)) → (∀ t, t < i → m.1 25 t = nI (dO B w q t D)) → ∃ m', l_117 g n 0 x2 (nI i) m = (d_78 g x2 m').bind (fun z_3 => (d_79 g 19 z_3).bind (fun z_7 => some (x2, z_7))) ∧ (∀ b, b ≠ 25 → m'.1 b = m.1 b) ∧ m'.2.2 = m.2.2 ∧ (∀ t, t < T → m'.1 25 t = nI (dO B w q t D)) := by
  intro j
  have hT8 := hV.1.2
  induction j with
  | zero =>
    intro i n m hi hn hO hsp hS hR hq h52 h13 h3 h1
    obtain ⟨n, rfl⟩ : ∃ n', n = n' + 1 := ⟨n - 1, by omega⟩
    have e : i = T := by omega
    subst e
    refine ⟨m, ?_, fun _ _ => rfl, rfl, h1⟩
    have e4 : m.1 (m.2.2.1 5) 4 = nI i := hS.1.2.2.2.2.1.trans hV.1.1
    rw [l_117]
    simp only [if_true, hO, e4, Int32.le_refl]
  | succ j ih =>
    intro i n m hi hn hO hsp hS hR hq h52 h13 h3 h1
    obtain ⟨n, rfl⟩ : ∃ n', n = n' + 1 := ⟨n - 1, by omega⟩
    have e4 : m.1 (m.2.2.1 5) 4 = nI T := hS.1.2.2.2.2.1.trans hV.1.1
    obtain ⟨p, hp1, hp2, hpp⟩ := (hV.2.2.2.2.2.2.2.2.1 i (by omega)).1
    obtain ⟨s21, s22, s23⟩ := h3 i (by omega)
    have hl := nI_nN (hst.2.2.2.2.1 i (by omega)).1 (by omega)
    obtain ⟨m1, y1, y2, y3⟩ := p_89 (g := g) (B := B) (w := w) (m := m) (R := R) (Sa := Sa) (q := q) (t := i) (d := D) (l := nN (w (19 + 5 * i))) (p := p) (a1 := 19) hg hq hR.1 hR.2.2 hR.2.1 hO (by rw [hS.1.2.2.2.2.2.2.1]; exact hV.2.2.2.1.1) hV.2.2.2.1.1 hV.2.2.2.1.2 hS.2.2.2.1 (by omega) hpp hp1 hp2 (hS.2.1 i (by omega)).1 (hS.2.1 i (by omega)).2 hV.2.2.2.2.2.2.2.2.2.2.1 (by decide) s21 s22
    rw [hl.1] at y1
    have e91 : d_91 g (nI i) m = some (nI (dO B w q i D), m1) := by
      unfold d_91 d_90
      simp (disch := omega) only [k_in, if_true, k_cl, h52, h13, s23, y1, Option.bind_some]
      rfl
    obtain ⟨m', z1, z2, z3, z4⟩ := ih (i + 1) n (cW m1 25 i (nI (dO B w q i D))) (by omega) (by omega) (by show cO m1 (m1.2.2.1 5) 5 = true; rw [y3, cO_of y3]; exact hO) (by show spO (m1.2.2.1 5); rw [y3]; exact hsp) (by
        show shR _ (m1.2.2.1 5) w T W C Sa
        rw [y3]
        exact hS.congr (fun d hd => by rw [cW_b (hsp.ne hd (by omega)), y2])) (hR.congr (by rw [cW_b (by decide), y2]) (fun b h1 h2 => by rw [cW_b (by omega), y2])) hq (by rw [cW_b (by decide), y2]; exact h52) (by rw [cW_b (by decide), y2]; exact h13) (fun t ht => by
        rw [cW_b (by decide), cW_b (by decide), cW_b (by decide), y2]
        exact h3 t ht) (by
        intro t ht
        by_cases e : t = i
        · subst e; rw [cW_s]
        · rw [cW_k e, y2]; exact h1 t (by omega))
    refine ⟨m', ?_, fun b hb => (z2 b hb).trans (by rw [cW_b hb, y2]), z3.trans y3, z4⟩
    rw [l_117]
    simp (disch := omega) only [if_true, hO, e4, k_leF, if_false, e91, Option.bind_some, k_in, k_cl, lit_nI, nI_add]
    exact z1
theorem p_l78 {row : Nat → Nat} {U : Nat} {x1 : Int32} (hU : U < 32) (hL : L ≤ 5) (hrow : ∀ i, i < L → row i < 5) : ∀ (j i n : Nat) (m : cM), i + j = L → j + 1 ≤ n → m.1 19 8 = nI L → m.1 19 10 = nI (uS U row i) → (∀ d, d < L → m.1 26 d = nI (row d)) → ∃ m', l_78 g n 0 x1 (nI i) m = some m' ∧ m'.2 = m.2 ∧ (∀ b, b ≠ 19 → m'.1 b = m.1 b) ∧ m'.1 19 8 = 0 ∧ m'.1 19 10 = nI (uS U row L) ∧ (∀ f, f ≠ 8 → f ≠ 10 → m'.1 19 f = m.1 19 f) := by
  intro j
  induction j with
  | zero =>
    intro i n m hi hn h8 h10 h26
    obtain ⟨n, rfl⟩ : ∃ n', n = n' + 1 := ⟨n - 1, by omega⟩
    have e : i = L := by omega
    subst e
    refine ⟨cW m 19 8 0, ?_, rfl, fun b hb => cW_b hb, cW_s, (cW_k (by decide)).trans h10, fun f h1 h2 => cW_k h1⟩
    simp only [l_78, if_true, h8, Int32.le_refl, Option.bind_some]
  | succ j ih =>
    intro i n m hi hn h8 h10 h26
    obtain ⟨n, rfl⟩ : ∃ n', n = n' + 1 := ⟨n - 1, by omega⟩
    have e := orI (uS U row i) (uS_b hU (fun d hd => hrow d (by omega))) (row i) (hrow i (by omega))
    obtain ⟨m', y1, y2, y3, y4, y5, y6⟩ := ih (i + 1) n (cW m 19 10 (nI (uS U row i ||| 2 ^ row i))) (by omega) (by omega) ((cW_k (by decide)).trans h8) cW_s (fun d hd => by rw [cW_b (by decide)]; exact h26 d hd)
    refine ⟨m', ?_, y2, fun b hb => (y3 b hb).trans (cW_b hb), y4, y5, fun f h1 h2 => (y6 f h1 h2).trans (cW_k h2)⟩
    rw [l_78]
    simp (disch := omega) only [if_true, h8, k_leF, if_false, k_in, k_cl, h26 i (by omega), lit_nI, h10, e, Option.bind_some, nI_add]
    exact y1
/-- takeBasket -/
theorem p_l79 {a : Nat} (hU : cU a 7 = true) {M : Nat → Nat → Int32} : ∀ (j i n : Nat) (m : cM), i + j = 8 → j + 1 ≤ n → (∀ t, i ≤ t → m.1 (a + 1) t = M (a + 1) t ∧ m.1 (a + 2) t = M (a + 2) t ∧ m.1 (a + 3) t = M (a + 3) t) → (∀ t, t < i → m.1 (a + 1) t = 0 ∧ m.1 (a + 2) t = M (a + 2) t - M (a + 1) t ∧ m.1 (a + 3) t = M (a + 3) t + M (a + 1) t) → ∃ m', l_79 g n 0 a (nI i) m = some m' ∧ m'.2 = m.2 ∧ (∀ b, b < a + 1 ∨ a + 3 < b → m'.1 b = m.1 b) ∧ (∀ t, t < 8 → m'.1 (a + 1) t = 0 ∧ m'.1 (a + 2) t = M (a + 2) t - M (a + 1) t ∧ m'.1 (a + 3) t = M (a + 3) t + M (a + 1) t) := by
  intro j
  induction j with
  | zero =>
    intro i n m hi hn h1 h2
    obtain ⟨n, rfl⟩ : ∃ n', n = n' + 1 := ⟨n - 1, by omega⟩
    have e : i = 8 := by omega
    subst e
    refine ⟨m, ?_, rfl, fun _ _ => rfl, h2⟩
    rw [l_79, if_pos rfl, if_pos (show (8 : Int32) ≤ nI 8 by decide)]
  | succ j ih =>
    intro i n m hi hn h1 h2
    obtain ⟨n, rfl⟩ : ∃ n', n = n' + 1 := ⟨n - 1, by omega⟩
    obtain ⟨a1, a2, a3⟩ := h1 i (by omega)
    obtain ⟨m', y1, y2, y3, y4⟩ := ih (i + 1) n (cW (cW (cW m (a + 2) i (M (a + 2) i - M (a + 1) i)) (a + 3) i (M (a + 3) i + M (a + 1) i)) (a + 1) i 0) (by omega) (by omega) (by
      intro t ht
      rw [cW_k (by omega), cW_b (show a + 2 ≠ a + 1 by omega), cW_b (show a + 3 ≠ a + 1 by omega), cW_b (show a + 1 ≠ a + 3 by omega), cW_b (show a + 1 ≠ a + 2 by omega), cW_b (show a + 2 ≠ a + 3 by omega), cW_k (show t ≠ i by omega), cW_k (show t ≠ i by omega), cW_b (show a + 3 ≠ a + 2 by omega)]
      exact h1 t (by omega)) (by
      intro t ht
      by_cases e : t = i
      · subst e
        refine ⟨cW_s, ?_, ?_⟩
        · rw [cW_b (by omega), cW_b (by omega), cW_s]
        · rw [cW_b (by omega), cW_s]
      · rw [cW_k e, cW_b (show a + 2 ≠ a + 1 by omega), cW_b (show a + 3 ≠ a + 1 by omega), cW_b (show a + 1 ≠ a + 3 by omega), cW_b (show a + 1 ≠ a + 2 by omega), cW_b (show a + 2 ≠ a + 3 by omega), cW_k e, cW_k e, cW_b (show a + 3 ≠ a + 2 by omega)]
        exact h2 t (by omega))
    refine ⟨m', ?_, y2, fun b hb => (y3 b hb).trans (by rw [cW_b (by omega), cW_b (by omega), cW_b (by omega)]), y4⟩
    have g1 : ∀ v, (cW m (a + 2) i v).1 (a + 3) i = M (a + 3) i := fun v => by rw [cW_b (by omega)]; exact a3
    have g2 : ∀ v, (cW m (a + 2) i v).1 (a + 1) i = M (a + 1) i := fun v => by rw [cW_b (by omega)]; exact a1
    rw [l_79]
    simp (disch := omega) only [if_true, lit_nI, k_leF, if_false, hU, k_in, k_cl, a1, a2, Option.bind_some, g1, g2, nI_add]
    exact y1
theorem coN_b (hV : shV w T W C Sa) {row : Nat → Nat} {L s fr : Nat} : coN w row L s fr ≤ s + 999 := by
  have h1 := ctN_le w row L 0 s false
  have h2 := caN_b (free := fr) (p := ctN w row L 0 s false) hV
  unfold coN
  omega
set_option maxHeartbeats 4000000 in
theorem sp_buy (hg : 2000 ≤ g) (h : Inv k m S) : St k (d_117 g m) (d_225 g S) := by
  obtain ⟨-, -, w, q, x, T, W, C, Sa, R, hc, hr, hpa, him⟩ := id h
  have hV := hc.2.1
  have hst := hc.2.2.1
  have hT8 := hV.1.2
  have hC5 := hV.2.2.1.2
  obtain ⟨L, hL1, hL2, hL3, hL4⟩ := lr_of hst hC5
  obtain ⟨D, hDk, hD⟩ := hst.1
  obtain ⟨fr, hf1, hf2⟩ := hV.2.2.2.2.2.2.1
  have hb : ∀ t, t < T → w (17 + 5 * t) = nI (bk w t) := fun t ht => (bk_of hst ht).1
  have hM := bM_b hst hT8
  have p73 := p_73 (g := g) (m := m) (a1 := 19) (by omega) (by decide) hT8 hc.1.2.1 hb
  have q209 := q_209 (g := g) (S := S) (w := w) (T := T) (by omega) hr.1 hV.1.1 hT8 hb
  unfold d_117 d_225
  rw [p73, Option.bind_some]
  by_cases h0 : bM w T = 0
  · rw [h0, if_neg (by decide)]
    refine St.no h rfl ?_
    rcases is_op (g := g) hc hr with ⟨e1, e2, -⟩ | ⟨e1, e2⟩
    · rw [e2]; rfl
    · rw [e2, Option.bind_some]
      simp only [z10, if_false]
      rw [q209, h0]; rfl
  · have hop : d_187 g S = some (1, S) := by
      rcases is_op (g := g) hc hr with ⟨e1, e2, e3⟩ | ⟨e1, e2⟩
      · exfalso
        apply h0
        rw [e3]; rfl
      · exact e2
    rw [if_pos (show (1 : Int32) ≤ nI (bM w T) from nI_le (a := 1) (by omega) (by omega)), hop]
    simp only [Option.bind_some, z10, if_false, q209]
    rw [if_pos (show ¬ nI (bM w T) = 0 from nI_ne0 (by omega) (by omega))]
    obtain ⟨m1, S1, y1, y2, y3, y4, y5, y6⟩ := keep (g := g) (a1 := 0) hg hc.1.2.1 hst hT8 hC5 hr.1 hpa
    have f20 : S1.2.1 20 = w := (y5.2 20 (by decide)).trans hr.1
    have hs1 : stR m1.1 19 w T := hc.1.2.1.congr (fun i hi => y3 _ (by omega))
    have hc1 : cx m1 (bS3 S) w q x T W C Sa R (k + 1) := hc.act (ak.kp y3 y4) hs1 (hst.mo (by omega)) (fun _ _ => rfl)
    have hr1 : rx S1 (bS3 S) w q x R := hr.act (y5.mo (by decide) (by decide)) f20
    obtain ⟨m2, u1, u2, u3, u4⟩ := p_93 (g := g) hg hc1 hD hL2 (by omega) hL4 hf2 hf1
    obtain ⟨S2, v1, v2, v3, v4⟩ := q_212 (g := g) (m := m) (free := fr) hg hr1 hV hst hc.2.2.2.2.2.2 hc.2.2.2.2.1 hD hL2 (by omega) hL4 (by omega)
    have hc2 := hc1.ms u2
    have hr2 : rx S2 (bS3 S) w q x R := hr1.rs (v3.mo (by decide) (by decide))
    have hs2 := hc2.1.2.1
    -- the class
    obtain ⟨m3, a1, a2, a3, a4⟩ := p_l117 (g := g) (B := bS3 S) (q := q) (R := R) (D := D) (x2 := nI (cN (bS3 S) w q T D L fr)) hg hV hst hD T 0 g m2 (by omega) (by omega) hc2.cy.1 hc2.cy.2.1 hc2.cy.2.2.1 hc2.2.2.2.2.2.2 hc2.2.2.2.2.1 hc2.1.2.2.1.1 (hs2.1.2.2.2.2.trans hD) (fun t ht => ⟨hs2.st ht, hs2.ha ht, hs2.lo ht⟩) (fun t ht => absurd ht (by omega))
    obtain ⟨m4, hm4⟩ : ∃ m4, m4 = cW (cW (cW (cY (cY m3 20 0 24 0 8) 26 0 27 0 5) 19 9 (nI L)) 19 12 (nI (cN (bS3 S) w q T D L fr))) 19 11 (w 8 + nI (cN (bS3 S) w q T D L fr)) := ⟨_, rfl⟩
    obtain ⟨U, hU1, hU2, hU3⟩ := hs2.2.2.2.2.2.2
    have e319 : m3.1 19 = m2.1 19 := a2 19 (by decide)
    have m4_19 : ∀ f, f ≠ 9 → f ≠ 12 → f ≠ 11 → m4.1 19 f = m2.1 19 f := fun f h1 h2 h3 => by
      rw [hm4, cW_k h3, cW_k h2, cW_k h1, cY_b (by decide), cY_b (by decide), e319]
    have m4_b : ∀ b, b ≠ 19 → b ≠ 24 → b ≠ 27 → m4.1 b = m3.1 b := fun b h1 h2 h3 => by
      rw [hm4, cW_b h1, cW_b h1, cW_b h1, cY_b h3, cY_b h2]
    have m4_24 : ∀ t, t < 8 → m4.1 24 t = m3.1 20 t := fun t ht => by
      rw [hm4, cW_b (by decide), cW_b (by decide), cW_b (by decide), cY_b (by decide), cY_in ht]
    have m4_27 : ∀ t, t < 5 → m4.1 27 t = m3.1 26 t := fun t ht => by
      rw [hm4, cW_b (by decide), cW_b (by decide), cW_b (by decide), cY_in ht, cY_b (by decide)]
    have m4_2 : m4.2 = m3.2 := by rw [hm4]; rfl
    have e26 : ∀ d, d < L → m2.1 26 d = nI (lr w d) := fun d hd => (hs2.2.2.2.2.1 d (by rw [hL3]; exact hd)).trans (hL4 d hd).1
    obtain ⟨m5, b1, b2, b3, b4, b5, b6⟩ := p_l78 (g := g) (row := lr w) (U := U) (L := L) (x1 := nI (cN (bS3 S) w q T D L fr)) hU1 (by omega) (fun i hi => by have := (hL4 i hi).2; omega) L 0 g m4 (by omega) (by omega) ((m4_19 8 (by decide) (by decide) (by decide)).trans (hs2.1.1.trans hL2)) ((m4_19 10 (by decide) (by decide) (by decide)).trans hU2) (fun d hd => by rw [m4_b 26 (by decide) (by decide) (by decide), a2 26 (by decide)]; exact e26 d hd)
    obtain ⟨m6, c1, c2, c3, c4⟩ := p_l79 (g := g) (a := 19) (by decide) (M := m5.1) 8 0 g m5 (by omega) (by omega) (fun t _ => ⟨rfl, rfl, rfl⟩) (fun t ht => absurd ht (by omega))
    have e78 : d_78 g (nI (cN (bS3 S) w q T D L fr)) m3 = some m5 := by
      unfold d_78
      simp only [Option.bind_some, show (0 : Int32).toNatClampNeg = 0 from rfl, show (8 : Int32).toNatClampNeg = 8 from rfl, show (5 : Int32).toNatClampNeg = 5 from rfl]
      have g8 : (cY (cY m3 20 0 24 0 8) 26 0 27 0 5).1 19 8 = nI L := by rw [cY_b (by decide), cY_b (by decide), e319]; exact hs2.1.1.trans hL2
      have g11 : (cW (cW (cY (cY m3 20 0 24 0 8) 26 0 27 0 5) 19 9 (nI L)) 19 12 (nI (cN (bS3 S) w q T D L fr))).1 19 11 = w 8 := by rw [cW_k (by decide), cW_k (by decide), cY_b (by decide), cY_b (by decide), e319]; exact hs2.1.2.2.1
      rw [g8, g11, ← hm4]
      exact b1
    have e79 : d_79 g 19 m5 = some m6 := c1
    -- the reference
    obtain ⟨S3, r1, r2, r3, r4⟩ := q_l225a (g := g) (m := m) (B := bS3 S) (q := q) (R := R) (x := x) (D := D) (x1 := nI (cN (bS3 S) w q T D L fr)) hg hV hst hc.2.2.2.2.2.2 hc.2.2.2.2.1 hD T 0 g S2 (by omega) (by omega) (by rw [hr2.1]; exact hr2) (fun t ht => absurd ht (by omega)) (fun d _ => by rw [hr2.1])
    obtain ⟨S4, s1, s2, s3⟩ := q_l225b (g := g) (f := S3.2.1 20) (T := T) (x1 := nI (cN (bS3 S) w q T D L fr)) ((r4 1 (by omega)).trans hV.1.1) hT8 T 0 (g - (T + 1)) S3 (by omega) (by omega) rfl
    have t9 : ∀ d, d < 16 ∨ 56 + T ≤ d → S4.2.1 20 d = w d := fun d hd => by
      rw [s3, toB_out (by omega)]; exact r4 d (by omega)
    obtain ⟨S5, t1, t2, t3, t4, t5, t6, t7, t8, t10⟩ := q_l225c (g := g) (f := S4.2.1 20) (row := lr w) (U := U) (L := L) (x1 := nI (cN (bS3 S) w q T D L fr)) hU1 (by omega) ((t9 9 (by omega)).trans hL2) (fun i hi => ⟨(t9 _ (by omega)).trans (hL4 i hi).1, by have := (hL4 i hi).2; omega⟩) L 0 (g - (T + 1) - (T + 1)) S4 (by omega) (by omega) (fun c hc => by rw [t9 _ (by omega)]; exact hU3 c hc) (fun d hd => absurd hd (by omega)) (fun d _ => rfl)
    have e5 : S1.2.1 20 5 = nI fr := by rw [f20]; exact hf2
    rw [y1, y2]
    simp (disch := omega) only [Option.bind_some, u1, lit_nI, k_in, k_cl, if_true, e5, v1]
    rw [a1, e78, Option.bind_some, e79, r1, show (0 : Int32) = nI 0 from rfl, s1, show (0 : Int32) = nI 0 from rfl, t1]
    refine ⟨_, _, _, rfl, rfl, ?_⟩
    -- the new row
    have n16 : ∀ t, t < T → S5.2.1 20 (16 + 5 * t) = w (16 + 5 * t) + -w (17 + 5 * t) ∧ S5.2.1 20 (17 + 5 * t) = 0 ∧ S5.2.1 20 (18 + 5 * t) = w (18 + 5 * t) + w (17 + 5 * t) ∧ S5.2.1 20 (19 + 5 * t) = w (19 + 5 * t) ∧ S5.2.1 20 (20 + 5 * t) = w (17 + 5 * t) := fun t ht => by
      obtain ⟨z1, z2, z3, z4, z5⟩ := toB_in (f := S3.2.1 20) (i := T) ht
      rw [t10 _ (by omega) (by omega) (by omega) (by omega), t10 _ (by omega) (by omega) (by omega) (by omega), t10 _ (by omega) (by omega) (by omega) (by omega), t10 _ (by omega) (by omega) (by omega) (by omega), t10 _ (by omega) (by omega) (by omega) (by omega), s3, z1, z2, z3, z4, z5, r4 (16 + 5 * t) (by omega), r4 (17 + 5 * t) (by omega), r4 (18 + 5 * t) (by omega), r4 (19 + 5 * t) (by omega)]
      exact ⟨rfl, rfl, rfl, rfl, rfl⟩
    have n56 : ∀ t, t < T → S5.2.1 20 (56 + t) = nI (dO (bS3 S) w q t D) := fun t ht => by
      rw [t10 _ (by omega) (by omega) (by omega) (by omega), s3, toB_out (by omega)]; exact r3 t ht
    have nlo : ∀ j, j < 16 → j ≠ 9 → j ≠ 8 → j ≠ 11 → S5.2.1 20 j = w j := fun j h1 h2 h3 h4 => by
      rw [t10 j h2 h3 h4 (by omega)]; exact t9 j (by omega)
    have nhi : ∀ j, 80 ≤ j → S5.2.1 20 j = w j := fun j h1 => by
      rw [t10 j (by omega) (by omega) (by omega) (by omega)]; exact t9 j (by omega)
    have nlaid : ∀ i, i < L → S5.2.1 20 (74 + i) = nI (lr w i) := fun i hi => by
      rw [t4 i hi, t9 _ (by omega)]; exact (hL4 i hi).1
    have n8 : S5.2.1 20 8 = w 8 + nI (cN (bS3 S) w q T D L fr) := by rw [t7, t9 8 (by omega)]
    -- the class's cells
    have k20 : ∀ t, t < T → m5.1 20 t = w (17 + 5 * t) ∧ m5.1 21 t = w (16 + 5 * t) ∧ m5.1 22 t = w (18 + 5 * t) ∧ m5.1 23 t = w (19 + 5 * t) ∧ m5.1 24 t = w (17 + 5 * t) ∧ m5.1 25 t = nI (dO (bS3 S) w q t D) := fun t ht => by
      rw [b3 20 (by decide), b3 21 (by decide), b3 22 (by decide), b3 23 (by decide), b3 24 (by decide), b3 25 (by decide), m4_b 20 (by decide) (by decide) (by decide), m4_b 21 (by decide) (by decide) (by decide), m4_b 22 (by decide) (by decide) (by decide), m4_b 23 (by decide) (by decide) (by decide), m4_b 25 (by decide) (by decide) (by decide), m4_24 t (by omega), a2 20 (by decide), a2 21 (by decide), a2 22 (by decide), a2 23 (by decide)]
      exact ⟨hs2.ba ht, hs2.st ht, hs2.ha ht, hs2.lo ht, hs2.ba ht, a4 t ht⟩
    have kz : ∀ t, T ≤ t → t < 8 → m5.1 20 t = 0 ∧ m5.1 24 t = 0 := fun t h1 h2 => by
      rw [b3 20 (by decide), b3 24 (by decide), m4_b 20 (by decide) (by decide) (by decide), m4_24 t h2, a2 20 (by decide)]
      exact ⟨(hs2.2.2.2.1 t h1 h2).1, (hs2.2.2.2.1 t h1 h2).1⟩
    have k19 : ∀ f, f ≠ 8 → f ≠ 10 → m6.1 19 f = m4.1 19 f := fun f h1 h2 => by rw [c3 19 (by omega)]; exact b6 f h1 h2
    have hSb := bS_b (B := bS3 S) (q := q) (D := D) hV hst
    have hcb : cN (bS3 S) w q T D L fr ≤ 1000000 := by
      unfold cN
      rw [if_neg h0]
      have := coN_b (row := lr w) (L := L) (s := bS (bS3 S) w q T D) (fr := fr) hV
      omega
    have hub := uS_b (U := U) (row := lr w) (n := L) hU1 (fun i hi => by have := (hL4 i hi).2; omega)
    refine h.act (w' := S5.2.1 20) hc hr him (m2 := m6) ⟨fun b h1 h2 h3 => ?_, fun j hj => ?_, ?_⟩ ?_ rfl ?_ ?_ (fun j hj => ?_) ?_
    · rw [c3 b (by omega), b3 b (by omega), m4_b b (by omega) (by omega) (by omega), a2 b (by omega), u3 b h1, y3 b (by omega)]
    · rw [c3 32 (by omega), b3 32 (by omega), m4_b 32 (by omega) (by omega) (by omega), a2 32 (by omega), u2.2.1 j hj, y3 32 (by omega)]
    · rw [c2, b2, m4_2, a3, u2.2.2, y4]
    · exact (((((y5.mo (by decide) (by decide)).tr (v3.mo (by decide) (by decide))).tr (r2.mo (by decide) (by decide))).tr (s2.mo (by decide) (by decide))).tr (t2.mo (by decide) (by decide)))
    · refine ⟨⟨?_, ?_, ?_, ?_, ?_⟩, fun t ht f hf => ?_, fun t ht => ?_, fun t h1 h2 => ?_, fun i hi => ?_, fun i hi => ?_, ⟨uS U (lr w) L, hub, ?_, t3⟩⟩
      · rw [c3 19 (by omega), b4, t6]
      · rw [k19 9 (by decide) (by decide), hm4, cW_k (by decide), cW_k (by decide), cW_s, t5]
      · rw [k19 11 (by decide) (by decide), hm4, cW_s, n8]
      · rw [k19 12 (by decide) (by decide), hm4, cW_k (by decide), cW_s, t8]
      · rw [k19 13 (by decide) (by decide), m4_19 13 (by decide) (by decide) (by decide), nlo 7 (by omega) (by omega) (by omega) (by omega)]; exact hs2.1.2.2.2.2
      · obtain ⟨z1, z2, z3, z4, z5⟩ := n16 t ht
        obtain ⟨x1, x2, x3, x4, x5, x6⟩ := k20 t ht
        obtain ⟨w1, w2, w3⟩ := c4 t (by omega)
        have hf' : f = 0 ∨ f = 1 ∨ f = 2 ∨ f = 3 ∨ f = 4 := by omega
        rcases hf' with e | e | e | e | e <;> subst e
        · show m6.1 (19 + 2) t = S5.2.1 20 (16 + 5 * t)
          rw [w2, z1]
          show m5.1 21 t - m5.1 20 t = _
          rw [x2, x1, Int32.sub_eq_add_neg]
        · show m6.1 (19 + 1) t = S5.2.1 20 (16 + 5 * t + 1)
          rw [w1, show 16 + 5 * t + 1 = 17 + 5 * t by omega, z2]
        · show m6.1 (19 + 3) t = S5.2.1 20 (16 + 5 * t + 2)
          rw [w3, show 16 + 5 * t + 2 = 18 + 5 * t by omega, z3]
          show m5.1 22 t + m5.1 20 t = _
          rw [x3, x1]
        · show m6.1 23 t = S5.2.1 20 (16 + 5 * t + 3)
          rw [c3 23 (by omega), show 16 + 5 * t + 3 = 19 + 5 * t by omega, z4, x4]
        · show m6.1 24 t = S5.2.1 20 (16 + 5 * t + 4)
          rw [c3 24 (by omega), show 16 + 5 * t + 4 = 20 + 5 * t by omega, z5, x5]
      · show m6.1 25 t = _
        rw [c3 25 (by omega), (k20 t ht).2.2.2.2.2, n56 t ht]
      · refine ⟨(c4 t h2).1, ?_⟩
        show m6.1 24 t = 0
        rw [c3 24 (by omega)]; exact (kz t h1 h2).2
      · rw [t6] at hi
        have : nN (0 : Int32) = 0 := by decide
        omega
      · rw [t5, n_cl (by omega)] at hi
        show m6.1 27 i = _
        rw [c3 27 (by omega), b3 27 (by decide), m4_27 i (by omega), a2 26 (by decide), e26 i hi, nlaid i hi]
      · rw [c3 19 (by omega)]; exact b5
    · refine ⟨⟨D, by omega, ?_⟩, ⟨0, by omega, t6, fun i hi => absurd hi (by omega), fun i j _ hj => absurd hj (by omega)⟩, ⟨L, hL1, t5, fun i hi => ⟨lr w i, (hL4 i hi).2, nlaid i hi⟩⟩, fun t ht => ?_, fun t ht => ?_, ⟨fun _ => ⟨_, hcb, t8⟩, ?_⟩⟩
      · rw [nlo 7 (by omega) (by omega) (by omega) (by omega)]; exact hD
      · obtain ⟨z1, z2, z3, z4, z5⟩ := n16 t ht
        obtain ⟨s, b, h1, h2, h3, h4⟩ := hst.2.2.2.1 t ht
        refine ⟨s - b, 0, by omega, by omega, ?_, z2⟩
        rw [z1, h3, h4, ← Int32.sub_eq_add_neg, k_sub h2]
      · obtain ⟨z1, z2, z3, z4, z5⟩ := n16 t ht
        obtain ⟨s, b, h1, h2, h3, h4⟩ := hst.2.2.2.1 t ht
        refine ⟨by rw [z4]; exact (hst.2.2.2.2.1 t ht).1, ⟨b, by omega, by rw [z5]; exact h4⟩, ⟨_, (dO_b hV ht).2, n56 t ht⟩⟩
      · have hz := sN_b (f := fun t => nN (S5.2.1 20 (17 + 5 * t))) (c := 0) (n := T) (fun t ht => by show nN _ ≤ 0; rw [(n16 t ht).2.1]; decide)
        exact Nat.le_trans hz (by omega)
    · by_cases hj2 : 80 ≤ j
      · exact nhi j hj2
      · exact nlo j (by omega) (by omega) (by omega) (by omega)
    · refine y6.congr (by omega) (fun b h1 h2 => ?_) ?_ ?_ (fun j hj => nlo j (by omega) (by omega) (by omega) (by omega))
      · rw [c3 b (by omega), b3 b (by omega), m4_b b (by omega) (by omega) (by omega), a2 b (by omega), u3 b (by omega)]
      · rw [t2.1 27 (by decide), s2.1 27 (by decide), r2.1 27 (by decide), v3.1 27 (by decide)]
      · rw [t2.2 26 (by decide), s2.2 26 (by decide), r2.2 26 (by decide), v3.2 26 (by decide)]
end BC
