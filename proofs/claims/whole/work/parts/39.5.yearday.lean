section YD
variable {g k : Nat} {m0 m : cM} {S0 S : rS} {B : rB} {w w' : Nat → Int32} {q T W C Sa R K : Nat} {x : Int32}
theorem q_267 {n : Nat} (h9 : S.2.2.2.2 = lN n) (h10 : n < 2147483648) (hT8 : T ≤ 8) : d_267 g (nI (T + 1)) S = some (nI (drT n T), rX S (lN (drM n))) := by
  unfold d_267
  rw [h9]
  have d1 := dr_I (n := n) (T := T) h10 hT8
  have d2 := drX_N h10
  unfold drX at d1 d2
  have c3 : ¬ (nI (T + 1)).toInt64 = 0 := by
    rw [nI_l (by omega)]
    intro z
    have := (pk_lEQ (a := T + 1) (b := 0) (by omega) (by omega)).mp z
    omega
  have c1 : ¬ (2147483648 : Int64) = 0 := by decide
  have c2 : ¬ (65536 : Int64) = 0 := by decide
  rw [if_pos c1, if_pos c2, if_pos c3, d1, d2]
theorem j38 {D : Nat} {x1 : Int32} (h : m.1 81 13 = nI D) (hD : D < 900) : j_38_53 g x1 m = some (cW m 81 13 (nI (D + 1))) := by
  unfold j_38_53
  simp (disch := omega) only [h, lit_nI, nI_add, k_ltT, if_true, Option.bind_some]
theorem lvR.dy {D : Nat} (h : lvR m.1 81 w' T) (hT : T ≤ 8) : lvR (cW m 81 13 (nI D)).1 81 (upd w' 7 (nI D)) T := by
  obtain ⟨h1, h2, h3⟩ := h
  refine ⟨by rw [cW_s, upd_s], fun t ht f hf => ?_, fun t h4 h5 => by rw [cW_b (by omega)]; exact h3 t h4 h5⟩
  have hb := fo5_b (f := f) (by omega)
  rw [cW_b (by omega), upd_n (by omega)]; exact h2 t ht f hf
theorem l268_ok {f : Nat → Int32} {x1 x2 : Int32} (hT : f 1 = nI T) (hT8 : T ≤ 8) : ∀ (j i n : Nat) (S : rS), i + j = T → j + 1 ≤ n → S.2.1 20 = toB f i → ∃ S1, l_268 g n 0 x1 x2 (nI i) S = some S1 ∧ rc [] [20] S S1 ∧ S1.2.1 20 = toB f T ∧ S1.2.2 = S.2.2 := by
  intro j
  induction j with
  | zero =>
    intro i n S hi hn h1
    obtain ⟨n, rfl⟩ : ∃ n', n = n' + 1 := ⟨n - 1, by omega⟩
    have e : i = T := by omega
    subst e
    refine ⟨S, ?_, rc.rf _, h1, rfl⟩
    have e1 : S.2.1 20 1 = nI i := by rw [h1, toB_out (by omega)]; exact hT
    rw [l_268]
    simp (disch := omega) only [if_true, lit_nI, k_in, k_cl, e1, Int32.le_refl]
  | succ j ih =>
    intro i n S hi hn h1
    obtain ⟨n, rfl⟩ : ∃ n', n = n' + 1 := ⟨n - 1, by omega⟩
    have e1 : S.2.1 20 1 = nI T := by rw [h1, toB_out (by omega)]; exact hT
    obtain ⟨S1, z1, z2, z3, z4⟩ := q_226 (g := g) (S := S) (t := i) (by omega)
    obtain ⟨S2, y1, y2, y3, y4⟩ := ih (i + 1) n S1 (by omega) (by omega) (by rw [z3, h1]; rfl)
    refine ⟨S2, ?_, z2.tr y2, y3, y4.trans z4⟩
    rw [l_268]
    simp (disch := omega) only [if_true, lit_nI, k_in, k_cl, e1, k_leF, if_false, z1, Option.bind_some, nI_add]
    exact y1
set_option maxHeartbeats 4000000 in
/-- one day of YEARS -/
theorem yday {n t M : Nat} (htT : t ≤ T) (hmb : M < 2147483648) (e267 : d_267 g (nI (T + 1)) S = some (nI t, rX S (lN M))) (hg : 2000 ≤ g) (hc : cx m0 B w q x T W C Sa R k) (hx : rx S0 B w q x R) (hT1 : 1 ≤ T) (hK : K ≤ 800) (h : YR m0 S0 w T K m S w' n) : ∃ m1 S1 w1, d_38 g (nI t) m = some m1 ∧ d_268 g S = some S1 ∧ YR m0 S0 w T (K + 1) m1 (rA S1 20 (upd (S1.2.1 20) 7 (S1.2.1 20 7 + nI 1))) w1 (M) := by
  obtain ⟨h1, h2, h3, h4, h5, h6, h7, h8, h9, h10, h11⟩ := h
  have hV0 := hc.2.1
  have hT8 := hV0.1.2
  have hc1 := hc.ms h1
  have hV : shV w' T W C Sa := hV0.cw (fun j hj => h4 j (by omega))
  have hS : shR m.1 (m.2.2.1 5) w' T W C Sa := hc1.1.1.cw hV0 (fun j hj => h4 j (by omega))
  have hO := hc1.cy.1
  have hsp := hc1.cy.2.1
  have hR := hc1.2.2.2.2.2.2
  have hq := hc1.2.2.2.2.1
  have e52 : m.1 5 2 = rI q := hc1.1.2.2.1.1
  have e4 : m.1 (m.2.2.1 5) 4 = nI T := hc1.t
  obtain ⟨⟨D, hD1, hD⟩, h6b, h6c⟩ := id h6
  have hx1 : rx S B w' q x R := by
    obtain ⟨r1, r2, r3, r4, r5, r6, r7⟩ := hx
    exact ⟨h3, (h2.1 21 (by decide)).trans r2, (h2.1 22 (by decide)).trans r3, (h2.2 3 (by decide)).trans r4, (h2.2 5 (by decide)).trans r5, (h2.2 6 (by decide)).trans r6, (h2.1 2 (by decide)).trans r7⟩
  have hb : ∀ t, t < T → w' (17 + 5 * t) = nI (bk w' t) := fun t ht => (bk_lv h6 ht).1
  have hM := bM_v h6 hT8
  have e13 : m.1 81 13 = nI D := h5.1.trans hD
  have e1 : S.2.1 20 1 = nI T := by rw [h3]; exact hV.1.1
  -- the draw
  obtain ⟨S1, hS1⟩ : ∃ S1, S1 = rX S (lN (M)) := ⟨_, rfl⟩
  rw [← hS1] at e267
  have s1a : S1.1 = S.1 := by rw [hS1]
  have s1b : S1.2.1 = S.2.1 := by rw [hS1]
  have s1c : S1.2.2.2.2 = lN (M) := by rw [hS1]
  have hx2 : rx S1 B w' q x R := by
    obtain ⟨r1, r2, r3, r4, r5, r6, r7⟩ := hx1
    exact ⟨by rw [s1b]; exact r1, by rw [s1a]; exact r2, by rw [s1a]; exact r3, by rw [s1b]; exact r4, by rw [s1b]; exact r5, by rw [s1b]; exact r6, by rw [s1a]; exact r7⟩
  have h20 := hx2.1
  have e1' : S1.2.1 20 1 = nI T := by rw [h20]; exact hV.1.1
  have hrc1 : rc scI (20 :: scA) S0 S1 := ⟨fun j hj => by rw [s1a]; exact h2.1 j hj, fun j hj => by rw [s1b]; exact h2.2 j hj⟩
  have hk1 : ∀ j, j < 80 → S1.2.1 34 j = w j := fun j hj => by rw [s1b]; exact h11 j hj
  -- how a day ends
  have fin : ∀ (m2 : cM) (S2 : rS) (w2 : Nat → Int32), ms m0 m2 → rc scI (20 :: scA) S0 S2 → S2.2.1 20 = w2 → (∀ j, j ≤ 6 ∨ j = 10 ∨ 80 ≤ j → w2 j = w j) → lvR m2.1 81 w2 T → (∀ t, t < T → ∃ s b, s ≤ 9 ∧ b ≤ s ∧ w2 (16 + 5 * t) = nI s ∧ w2 (17 + 5 * t) = nI b) → (∀ t, t < T → bd (w2 (19 + 5 * t)) 99) → w2 7 = nI D → m2.1 71 18 = S2.1 41 → m2.1 71 19 = S2.1 42 → S2.2.2.2.2 = lN (M) → (∀ j, j < 80 → S2.2.1 34 j = w j) → ∃ m1 w1, j_38_53 g (nI t) m2 = some m1 ∧ YR m0 S0 w T (K + 1) m1 (rA S2 20 (upd (S2.2.1 20) 7 (S2.2.1 20 7 + nI 1))) w1 (M) := by
    intro m2 S2 w2 f1 f2 f3 f4 f5 f6 f7 f8 f9 f10 f11 f12
    refine ⟨_, upd w2 7 (nI (D + 1)), j38 (f5.1.trans f8) (by omega), f1.tr (ms.W (by omega)), f2.tr (rc.A (by decide)), by rw [rA_s, f3, f8, nI_add], fun j hj => (upd_n (by omega)).trans (f4 j hj), f5.dy hT8, ⟨⟨D + 1, by omega, upd_s⟩, fun t ht => ?_, fun t ht => ?_⟩, by rw [cW_b (by decide)]; exact f9, by rw [cW_b (by decide)]; exact f10, f11, hmb, fun j hj => by rw [rA_n (by decide)]; exact f12 j hj⟩
    · obtain ⟨s, b, g1, g2, g3, g4⟩ := f6 t ht
      exact ⟨s, b, g1, g2, by rw [upd_n (by omega)]; exact g3, by rw [upd_n (by omega)]; exact g4⟩
    · rw [upd_n (by omega)]; exact f7 t ht
  unfold d_38 d_268
  rw [if_pos hO, e4]
  simp (disch := omega) only [lit_nI, k_in, k_cl, if_true, e1, nI_add, e267, Option.bind_some, e1']
  by_cases hlt : t < T
  · -- a thing is looked at, and put
    obtain ⟨l, hl1, hl2⟩ := h6c t hlt
    have e85 : m.1 (81 + 4) t = nI l := (h5.lo hlt).trans hl2
    have el : (if nI (l + 1) < nI 99 then nI (l + 1) else nI 99) = nI (if l < 99 then l + 1 else 99) := by
      by_cases h1 : l + 1 < 99
      · rw [if_pos (nI_lt h1 (by omega)), if_pos (by omega)]
      · rw [if_neg (nI_nlt (by omega) (by omega))]
        by_cases h2 : l < 99
        · rw [if_pos h2, show l + 1 = 99 by omega]
        · rw [if_neg h2]
    have eU : cU 81 7 = true := by decide
    obtain ⟨m2, hm2⟩ : ∃ m2, m2 = cW m 85 t (nI (if l < 99 then l + 1 else 99)) := ⟨_, rfl⟩
    have e75 : d_75 g 81 (nI t) m = some m2 := by
      unfold d_75
      simp (disch := omega) only [eU, if_true, k_in, k_cl, e85, lit_nI, nI_add, Option.bind_some, el]
      rw [hm2]
    obtain ⟨w2, hw2⟩ : ∃ w2, w2 = upd w' (19 + 5 * t) (nI (if l < 99 then l + 1 else 99)) := ⟨_, rfl⟩
    obtain ⟨S2, z1, z2, z3, z4⟩ : ∃ S2, d_223 g (nI t) S1 = some S2 ∧ S2.2.1 20 = w2 ∧ rc [] [20] S1 S2 ∧ S2.2.2 = S1.2.2 := by
      have k3 : d_191 g (nI t) (nI 3) S1 = some (nI l, S1) := by rw [q_191 (by omega) (by omega), h20, show 16 + 5 * t + 3 = 19 + 5 * t by omega, hl2]
      unfold d_223
      by_cases h99 : l < 99
      · refine ⟨rA S1 20 (upd w' (19 + 5 * t) (nI (l + 1))), ?_, ?_, rc.A (by decide), rfl⟩
        · simp (disch := omega) only [lit_nI, k3, Option.bind_some, k_leF, if_false, q_217, h20]
          rw [show 16 + 5 * t + 3 = 19 + 5 * t by omega, hl2, nI_add]
        · rw [rA_s, hw2, if_pos h99]
      · refine ⟨S1, ?_, ?_, rc.rf _, rfl⟩
        · simp (disch := omega) only [lit_nI, k3, Option.bind_some, k_leT, if_true]
        · rw [h20, hw2, if_neg h99]
          have e : l = 99 := by omega
          subst e
          rw [← hl2]
          funext j
          by_cases ej : j = 19 + 5 * t
          · subst ej; exact upd_s.symm
          · exact (upd_n ej).symm
    have hl3 : (if l < 99 then l + 1 else 99) ≤ 99 := by split <;> omega
    have hlv2 : lvR m2.1 81 w2 T := by
      have := h5.cell (v := nI (if l < 99 then l + 1 else 99)) hT8 hlt (f := 3) (by omega)
      rw [show 16 + 5 * t + 3 = 19 + 5 * t by omega] at this
      rw [hm2, hw2]
      exact this
    have ew2 : ∀ j, j ≤ 6 ∨ j = 10 ∨ 80 ≤ j → w2 j = w j := fun j hj => by rw [hw2, upd_n (by omega)]; exact h4 j hj
    have hV2 : shV w2 T W C Sa := hV0.cw (fun j hj => ew2 j (by omega))
    have b2 : ∀ t', t' < T → ∃ s b, s ≤ 9 ∧ b ≤ s ∧ w2 (16 + 5 * t') = nI s ∧ w2 (17 + 5 * t') = nI b := fun t' ht' => by
      obtain ⟨s, b, g1, g2, g3, g4⟩ := h6b t' ht'
      exact ⟨s, b, g1, g2, by rw [hw2, upd_n (by omega)]; exact g3, by rw [hw2, upd_n (by omega)]; exact g4⟩
    have c2 : ∀ t', t' < T → bd (w2 (19 + 5 * t')) 99 := fun t' ht' => by
      by_cases e : t' = t
      · rw [e, hw2, upd_s]; exact ⟨_, hl3, rfl⟩
      · rw [hw2, upd_n (by omega)]; exact h6c t' ht'
    have d27 : w2 7 = nI D := by rw [hw2, upd_n (by omega)]; exact hD
    have hv2 : lvV w2 T K := ⟨⟨D, hD1, d27⟩, b2, c2⟩
    have hb2 : ∀ t, t < T → w2 (17 + 5 * t) = nI (bk w2 t) := fun t ht => (bk_lv hv2 ht).1
    have hM2 := bM_v hv2 hT8
    have hms2 : ms m0 m2 := h1.tr (by rw [hm2]; exact ms.W (by omega))
    have hrc2 : rc scI (20 :: scA) S0 S2 := hrc1.tr (z3.mo (by decide) (by decide))
    have m18 : m2.1 71 18 = S2.1 41 := by rw [hm2, cW_b (by decide), z3.1 41 (by decide), s1a]; exact h7
    have m19 : m2.1 71 19 = S2.1 42 := by rw [hm2, cW_b (by decide), z3.1 42 (by decide), s1a]; exact h8
    have sx2 : S2.2.2.2.2 = lN (M) := by rw [z4]; exact s1c
    have k2 : ∀ j, j < 80 → S2.2.1 34 j = w j := fun j hj => by rw [z3.2 34 (by decide)]; exact hk1 j hj
    -- canPut
    obtain ⟨s, b, g1, g2, g3, g4⟩ := b2 t hlt
    have q1 : d_191 g (nI t) (nI 1) S2 = some (nI b, S2) := by rw [q_191 (by omega) (by omega), z2, show 16 + 5 * t + 1 = 17 + 5 * t by omega, g4]
    have q0 : d_191 g (nI t) (nI 0) S2 = some (nI s, S2) := by rw [q_191 (by omega) (by omega), z2, Nat.add_zero, g3]
    have e83 : m2.1 (81 + 2) t = nI s := (hlv2.st hlt).trans g3
    have e82 : m2.1 (81 + 1) t = nI b := (hlv2.ba hlt).trans g4
    have p73 := p_73v (g := g) (m := m2) (a1 := 81) (by omega) (by decide) hT8 hlv2 hb2
    have q209 := q_209 (g := g) (S := S2) (w := w2) (T := T) (by omega) z2 hV2.1.1 hT8 hb2
    have hcp : (d_74 g 81 (nI t) m2 = some 0 ∧ d_216 g (nI t) S2 = some (0, S2)) ∨ (d_74 g 81 (nI t) m2 = some 1 ∧ d_216 g (nI t) S2 = some (1, S2) ∧ b < s) := by
      unfold d_74 d_216
      by_cases h5 : b = s
      · left
        simp (disch := omega) only [eU, if_true, k_in, k_cl, e83, e82, k_leT, lit_nI, q0, q1, Option.bind_some]
        exact ⟨trivial, trivial⟩
      · by_cases h6 : 12 ≤ bM w2 T
        · left
          simp (disch := omega) only [eU, if_true, k_in, k_cl, e83, e82, k_leF, k_leT, if_false, lit_nI, q0, q1, Option.bind_some, p73, q209]
          exact ⟨trivial, trivial⟩
        · right
          simp (disch := omega) only [eU, if_true, k_in, k_cl, e83, e82, k_leF, if_false, lit_nI, q0, q1, Option.bind_some, p73, q209]
          exact ⟨trivial, trivial, by omega⟩
    simp (disch := omega) only [k_ltT, k_leF, if_true, if_false, e75, z1, Option.bind_some]
    rcases hcp with ⟨c1, c3⟩ | ⟨c1, c3, hbs⟩
    · rw [c1, c3]
      simp only [Option.bind_some, show ((0 : Int32) = nI 0) = True from eq_true rfl, if_true]
      obtain ⟨m1, w1, r1, r2⟩ := fin m2 S2 w2 hms2 hrc2 z2 ew2 hlv2 b2 c2 d27 m18 m19 sx2 k2
      exact ⟨m1, S2, w1, r1, rfl, r2⟩
    · rw [c1, c3]
      simp only [Option.bind_some, show ((1 : Int32) = nI 0) = False from eq_false (by decide), if_false]
      obtain ⟨w3, hw3⟩ : ∃ w3, w3 = upd w2 (17 + 5 * t) (nI (b + 1)) := ⟨_, rfl⟩
      have hlv3 : lvR (cW m2 82 t (nI (b + 1))).1 81 w3 T := by
        have := hlv2.cell (v := nI (b + 1)) hT8 hlt (f := 1) (by omega)
        rw [show 16 + 5 * t + 1 = 17 + 5 * t by omega] at this
        rw [hw3]
        exact this
      have e82' : m2.1 82 t = nI b := e82
      have q217 : d_217 g (nI t) (nI 1) (nI 1) S2 = some (rA S2 20 w3) := by
        rw [q_217 (by omega) (by omega), z2, show 16 + 5 * t + 1 = 17 + 5 * t by omega, g4, nI_add, hw3]
      obtain ⟨m1, w1, r1, r2⟩ := fin (cW m2 82 t (nI (b + 1))) (rA S2 20 w3) w3 (hms2.tr (ms.W (by omega))) (hrc2.tr (rc.A (by decide))) rA_s (fun j hj => by rw [hw3, upd_n (by omega)]; exact ew2 j hj) hlv3 (fun t' ht' => by
        by_cases e : t' = t
        · subst e
          exact ⟨s, b + 1, g1, by omega, by rw [hw3, upd_n (by omega)]; exact g3, by rw [hw3, upd_s]⟩
        · obtain ⟨s', b', g1', g2', g3', g4'⟩ := b2 t' ht'
          exact ⟨s', b', g1', g2', by rw [hw3, upd_n (by omega)]; exact g3', by rw [hw3, upd_n (by omega)]; exact g4'⟩) (fun t' ht' => by rw [hw3, upd_n (by omega)]; exact c2 t' ht') (by rw [hw3, upd_n (by omega)]; exact d27) (by rw [cW_b (by decide)]; exact m18) (by rw [cW_b (by decide)]; exact m19) sx2 (fun j hj => by rw [rA_n (by decide)]; exact k2 j hj)
      refine ⟨m1, _, w1, ?_, ?_, r2⟩
      · simp (disch := omega) only [k_in, k_cl, if_true, e82', nI_add, Option.bind_some]
        exact r1
      · rw [q217]; rfl
  · -- the basket is bought
    have et : t = T := by omega
    subst et
    obtain ⟨m2, y1, y2, y3⟩ := p_l39 (g := g) (B := B) (q := q) (R := R) (D := D) hg hV h6c (fun t' ht' => bk_lv h6 ht') hD t 0 g m (by omega) (by omega) hO hsp hS hR hq e52 h5
    obtain ⟨fr, hf1, hf2⟩ := hV.2.2.2.2.2.2.1
    have hSb := bS_v (B := B) (q := q) (D := D) hV h6
    have p95 := p_95 (g := g) (m := m2) (s := bS B w' q t D) (fr := fr) hV (by rw [y3, cO_of y3]; exact hO) (by rw [y3, y2]; exact hS) hf2 hf1 (by omega)
    obtain ⟨cst, hcst⟩ : ∃ cst, cst = (if bS B w' q t D = 0 then 0 else coN w' (fun _ => 0) 0 (bS B w' q t D) fr) := ⟨_, rfl⟩
    rw [← hcst] at p95
    have hlv2 : lvR (cW m2 71 18 (m.1 71 18 + nI cst)).1 81 w' t := h5.congr (fun i hi => by rw [cW_b (by omega), y2])
    have p73 := p_73v (g := g) (m := cW m2 71 18 (m.1 71 18 + nI cst)) (a1 := 81) (by omega) (by decide) hT8 hlv2 hb
    obtain ⟨m4, hm4⟩ : ∃ m4, m4 = cW (cW m2 71 18 (m.1 71 18 + nI cst)) 71 19 (m.1 71 19 + nI (bM w' t)) := ⟨_, rfl⟩
    have hlv4 : lvR m4.1 81 w' t := by rw [hm4]; exact hlv2.congr (fun i hi => cW_b (by omega))
    obtain ⟨m5, u1, u2, u3, u4⟩ := p_l79 (g := g) (a := 81) (by decide) (M := m4.1) 8 0 g m4 (by omega) (by omega) (fun t _ => ⟨rfl, rfl, rfl⟩) (fun t ht => absurd ht (by omega))
    have e39 : d_39 g m = some m5 := by
      have y1' : d_39 g m = yT g (nI (bS B w' q t D)) m2 := y1
      rw [y1']
      unfold yT
      have e18 : m2.1 71 18 = m.1 71 18 := by rw [y2]
      have e19 : (cW m2 71 18 (m.1 71 18 + nI cst)).1 71 19 = m.1 71 19 := by rw [cW_k (by decide), y2]
      rw [p95, Option.bind_some, e18, Option.bind_some, p73, Option.bind_some, e19, Option.bind_some, ← hm4]
      have u1' : d_79 g 81 m4 = some m5 := u1
      rw [u1']
      rfl
    have hms5 : ms m0 m5 := by
      refine h1.tr ((((ms.of y2 y3).tr (ms.W (m := m2) (a := 71) (k := 18) (v := m.1 71 18 + nI cst) (by omega))).tr (ms.W (a := 71) (k := 19) (v := m.1 71 19 + nI (bM w' t)) (by omega))).tr ?_)
      rw [← hm4]
      exact ⟨fun b _ hb2 => u3 b (by omega), fun j _ => by rw [u3 32 (by omega)], by rw [u2]⟩
    have m18 : m5.1 71 18 = m.1 71 18 + nI cst := by rw [u3 71 (by omega), hm4, cW_k (by decide), cW_s]
    have m19 : m5.1 71 19 = m.1 71 19 + nI (bM w' t) := by rw [u3 71 (by omega), hm4, cW_s]
    have k82 : ∀ t', t' < t → m5.1 82 t' = 0 ∧ m5.1 83 t' = w' (16 + 5 * t') + -w' (17 + 5 * t') ∧ m5.1 84 t' = w' (18 + 5 * t') + w' (17 + 5 * t') ∧ m5.1 85 t' = w' (19 + 5 * t') := fun t' ht' => by
      obtain ⟨v1, v2, v3⟩ := u4 t' (by omega)
      refine ⟨v1, ?_, ?_, ?_⟩
      · show m5.1 (81 + 2) t' = _
        rw [v2, hlv4.st ht', hlv4.ba ht', Int32.sub_eq_add_neg]
      · show m5.1 (81 + 3) t' = _
        rw [v3, hlv4.ha ht', hlv4.ba ht']
      · rw [u3 85 (by omega)]; exact hlv4.lo ht'
    have k13 : m5.1 81 13 = nI D := by rw [u3 81 (by omega)]; exact hlv4.1.trans hD
    have q209 := q_209 (g := g) (S := S1) (w := w') (T := t) (by omega) h20 hV.1.1 hT8 hb
    simp (disch := omega) only [k_ltF, k_leT, if_true, if_false, e39, q209, Option.bind_some]
    by_cases h0 : bM w' t = 0
    · have hz : ∀ t', t' < t → bk w' t' = 0 := fun t' ht' => by
        have := sN_le (f := bk w') ht'
        have e : sN (bk w') t = 0 := h0
        omega
      have hS0 : bS B w' q t D = 0 := by
        have : sN (fun t => bk w' t * dO B w' q t D) t = sN (fun _ => 0) t := sN_c (fun j hj => by show bk w' j * _ = 0; rw [hz j hj, Nat.zero_mul])
        show sN (fun t => bk w' t * dO B w' q t D) t = 0
        rw [this]
        have z0 : ∀ n, sN (fun _ => 0) n = 0 := fun n => by
          induction n with
          | zero => rfl
          | succ n ih => show sN (fun _ => 0) n + 0 = 0; rw [ih]
        exact z0 t
      have hc0 : cst = 0 := by rw [hcst, if_pos hS0]
      have hw17 : ∀ t', t' < t → w' (17 + 5 * t') = nI 0 := fun t' ht' => by rw [hb t' ht', hz t' ht']
      simp (disch := omega) only [h0, k_eqT, not_true, if_false]
      obtain ⟨m1, w1, r1, r2⟩ := fin m5 S1 w' hms5 hrc1 h20 h4 ⟨k13.trans hD.symm, fun t' ht' f hf => by
        obtain ⟨v1, v2, v3, v4⟩ := k82 t' ht'
        rw [hw17 t' ht'] at v2 v3
        have hf' : f = 0 ∨ f = 1 ∨ f = 2 ∨ f = 3 := by omega
        rcases hf' with e | e | e | e <;> subst e
        · show m5.1 83 t' = w' (16 + 5 * t')
          rw [v2, show (-nI 0 : Int32) = 0 from rfl, Int32.add_zero]
        · show m5.1 82 t' = w' (16 + 5 * t' + 1)
          rw [v1, show 16 + 5 * t' + 1 = 17 + 5 * t' by omega, hw17 t' ht']; rfl
        · show m5.1 84 t' = w' (16 + 5 * t' + 2)
          rw [v3, show 16 + 5 * t' + 2 = 18 + 5 * t' by omega, nI_0, Int32.add_zero]
        · show m5.1 85 t' = w' (16 + 5 * t' + 3)
          rw [v4, show 16 + 5 * t' + 3 = 19 + 5 * t' by omega], fun t' h1 h2 => (u4 t' h2).1⟩ h6b h6c hD (by rw [m18, hc0, nI_0, Int32.add_zero, s1a]; exact h7) (by rw [m19, h0, nI_0, Int32.add_zero, s1a]; exact h8) s1c hk1
      exact ⟨m1, S1, w1, r1, rfl, r2⟩
    · have hge := bS_ge (B := B) (q := q) (D := D) (T := t) hV
      have hc1' : cst = coN w' (fun _ => 0) 0 (bS B w' q t D) fr := by rw [hcst, if_neg (by omega)]
      obtain ⟨S2, hS2⟩ : ∃ S2, S2 = rF S1 42 (S1.1 42 + nI (bM w' t)) := ⟨_, rfl⟩
      have hx3 : rx S2 B w' q x R := by rw [hS2]; exact hx2.rs (rc.F (by decide))
      obtain ⟨S3, z1, z2, z3⟩ := q_210 (g := g) (m := m) (D := D) hg hV hR hq h6c hD hb hx3
      have f3 : S3.2.1 20 = w' := (z2.2 20 (by decide)).trans hx3.1
      obtain ⟨S4, v1, v2, v3⟩ := q_208 (g := g) (S := S3) (s := bS B w' q t D) (fr := fr) (by omega) hV f3 hf2 hf1 (by omega)
      obtain ⟨S5, hS5⟩ : ∃ S5, S5 = rF S4 41 (S1.1 41 + nI (coN w' (fun _ => 0) 0 (bS B w' q t D) fr)) := ⟨_, rfl⟩
      have f5 : S5.2.1 20 = w' := by rw [hS5]; exact (v2.2 20 (by decide)).trans f3
      obtain ⟨S6, s1, s2, s3, s4⟩ := l268_ok (g := g) (f := w') (T := t) (x1 := nI t) (x2 := nI (bM w' t)) hV.1.1 hT8 t 0 g S5 (by omega) (by omega) f5
      have e41 : S6.1 41 = S1.1 41 + nI cst := by rw [s2.1 41 (by decide), hS5, rF_s, hc1']
      have e42 : S6.1 42 = S1.1 42 + nI (bM w' t) := by rw [s2.1 42 (by decide), hS5, rF_n (by decide), v2.1 42 (by decide), z2.1 42 (by decide), hS2, rF_s]
      have hrc6 : rc scI (20 :: scA) S0 S6 := by
        have a1 : rc scI (20 :: scA) S1 S2 := by rw [hS2]; exact rc.F (by decide)
        have a2 : rc scI (20 :: scA) S4 S5 := by rw [hS5]; exact rc.F (by decide)
        exact ((((hrc1.tr a1).tr (z2.mo (by decide) (by decide))).tr (v2.mo (by decide) (by decide))).tr a2).tr (s2.mo (by decide) (by decide))
      have e34 : S6.2.1 34 = S1.2.1 34 := by rw [s2.2 34 (by decide), hS5]; exact ((v2.2 34 (by decide)).trans (z2.2 34 (by decide))).trans (by rw [hS2])
      have sx6 : S6.2.2.2.2 = lN M := by
        rw [s4, hS5]
        show S4.2.2.2.2 = _
        rw [v3, z3, hS2]
        exact s1c
      have tw : ∀ j, j ≤ 6 ∨ j = 10 ∨ 80 ≤ j → toB w' t j = w j := fun j hj => by rw [toB_out (by omega)]; exact h4 j hj
      obtain ⟨m1, w1, r1, r2⟩ := fin m5 S6 (toB w' t) hms5 hrc6 s3 tw ⟨k13.trans (by rw [toB_out (by omega)]; exact hD.symm), fun t' ht' f hf => by
        obtain ⟨v1, v2, v3, v4⟩ := k82 t' ht'
        obtain ⟨g1, g2, g3, g4, g5⟩ := toB_in (f := w') ht'
        have hf' : f = 0 ∨ f = 1 ∨ f = 2 ∨ f = 3 := by omega
        rcases hf' with e | e | e | e <;> subst e
        · show m5.1 83 t' = toB w' t (16 + 5 * t')
          rw [v2, g1]
        · show m5.1 82 t' = toB w' t (16 + 5 * t' + 1)
          rw [v1, show 16 + 5 * t' + 1 = 17 + 5 * t' by omega, g2]
        · show m5.1 84 t' = toB w' t (16 + 5 * t' + 2)
          rw [v3, show 16 + 5 * t' + 2 = 18 + 5 * t' by omega, g3]
        · show m5.1 85 t' = toB w' t (16 + 5 * t' + 3)
          rw [v4, show 16 + 5 * t' + 3 = 19 + 5 * t' by omega, g4], fun t' h1 h2 => (u4 t' h2).1⟩ (fun t' ht' => by
        obtain ⟨s, b, g1, g2, g3, g4⟩ := h6b t' ht'
        obtain ⟨q1, q2, q3, q4, q5⟩ := toB_in (f := w') ht'
        exact ⟨s - b, 0, by omega, by omega, by rw [q1, g3, g4, ← Int32.sub_eq_add_neg, k_sub g2], q2⟩) (fun t' ht' => by
        rw [(toB_in (f := w') ht').2.2.2.1]; exact h6c t' ht') (by rw [toB_out (by omega)]; exact hD) (by rw [m18, e41, s1a, h7]) (by rw [m19, e42, s1a, h8]) sx6 (fun j hj => by rw [e34]; exact hk1 j hj)
      refine ⟨m1, S6, w1, r1, ?_, r2⟩
      simp (disch := omega) only [k_eqF, not_false_eq_true, if_true]
      rw [← hS2, z1, Option.bind_some, v1, Option.bind_some, ← hS5]
      exact s1
end YD
