/-! shop: what a clause adds -/
def rdX (M : Nat → Nat → Int32) (p : Nat) (u : Nat → Int32) (T W C Sa : Nat) : Prop := rdA M p u T W C Sa ∧ rdT M p u T ∧ rdW M p u W ∧ rdS M p u Sa ∧ rdC M p u C
def vX (M : Nat → Nat → Int32) (p : Nat) (u : Nat → Int32) (T W C Sa : Nat) : Prop := rdX M p u T W C Sa ∧ shV u T W C Sa ∧ zU u T
section VX
variable {M M' : Nat → Nat → Int32} {p : Nat} {u : Nat → Int32} {T W C Sa : Nat}
theorem vX.shop {x1 x2 : Nat} (h : vX M p u T W C Sa) (h1 : x1 ≤ 999) (h2 : x2 ≤ 9999) (e0 : M' p = upd (upd (M p) 1 (nI x1)) 2 (nI x2)) (er : ∀ i, 1 ≤ i → i ≤ 12 → M' (p + i) = M (p + i)) : vX M' p (upd (upd (upd u 4 (nI x1)) 5 (nI x2)) 0 1) T W C Sa := by
  obtain ⟨⟨⟨a1, a2, a3, a4, a5, a6, a7⟩, hT, hW, hS, hC⟩, ⟨v1, v2, v3, v10, v0, v4, v5, v6, vt, vw, vs, vc⟩, z1, z2⟩ := h
  have hT8 := v1.2
  have hu : ∀ j, j ≠ 4 → j ≠ 5 → j ≠ 0 → upd (upd (upd u 4 (nI x1)) 5 (nI x2)) 0 1 j = u j := fun j q1 q2 q3 => by rw [upd_n q3, upd_n q2, upd_n q1]
  have g4 : upd (upd (upd u 4 (nI x1)) 5 (nI x2)) 0 1 4 = nI x1 := by rw [upd_n (by omega), upd_n (by omega), upd_s]
  have g5 : upd (upd (upd u 4 (nI x1)) 5 (nI x2)) 0 1 5 = nI x2 := by rw [upd_n (by omega), upd_s]
  have g0 : upd (upd (upd u 4 (nI x1)) 5 (nI x2)) 0 1 0 = nI 1 := by rw [upd_s]; rfl
  refine ⟨⟨⟨?_, ?_, ?_, ?_, ?_, ?_, ?_⟩, hT.co hT8 (fun i i1 i2 => er i (by omega) (by omega)) (fun t ht => ⟨hu _ (by omega) (by omega) (by omega), hu _ (by omega) (by omega) (by omega), hu _ (by omega) (by omega) (by omega)⟩), hW.co (fun i i1 i2 => er i (by omega) (by omega)) (fun t ht => ⟨hu _ (by omega) (by omega) (by omega), hu _ (by omega) (by omega) (by omega)⟩), hS.co (fun i i1 i2 => er i (by omega) (by omega)) (fun t ht => ⟨hu _ (by omega) (by omega) (by omega), hu _ (by omega) (by omega) (by omega), hu _ (by omega) (by omega) (by omega)⟩), hC.co (fun i i1 i2 => er i (by omega) (by omega)) (fun t ht => ⟨hu _ (by omega) (by omega) (by omega), hu _ (by omega) (by omega) (by omega), hu _ (by omega) (by omega) (by omega), hu _ (by omega) (by omega) (by omega)⟩)⟩, ⟨?_, ?_, ?_, ?_, ?_, ?_, ?_, ?_, fun t ht => ?_, fun t ht => ?_, fun t ht => ?_, fun t ht => ?_⟩, fun j j1 j2 j3 j4 => ?_, fun t ht => ?_⟩
  · rw [e0, g4, upd_n (by omega), upd_s]
  · rw [e0, g5, upd_s]
  · rw [e0, hu 6 (by omega) (by omega) (by omega), upd_n (by omega), upd_n (by omega)]; exact a3
  · rw [e0, upd_n (by omega), upd_n (by omega)]; exact a4
  · rw [e0, upd_n (by omega), upd_n (by omega)]; exact a5
  · rw [e0, upd_n (by omega), upd_n (by omega)]; exact a6
  · rw [e0, upd_n (by omega), upd_n (by omega)]; exact a7
  · rw [hu 1 (by omega) (by omega) (by omega)]; exact v1
  · rw [hu 2 (by omega) (by omega) (by omega)]; exact v2
  · rw [hu 3 (by omega) (by omega) (by omega)]; exact v3
  · rw [hu 10 (by omega) (by omega) (by omega)]; exact v10
  · exact Or.inl g0
  · exact ⟨x1, h1, g4⟩
  · exact ⟨x2, h2, g5⟩
  · rw [hu 6 (by omega) (by omega) (by omega)]; exact v6
  · rw [hu _ (by omega) (by omega) (by omega), hu _ (by omega) (by omega) (by omega)]; exact vt t ht
  · rw [hu _ (by omega) (by omega) (by omega), hu _ (by omega) (by omega) (by omega)]; exact vw t ht
  · rw [hu _ (by omega) (by omega) (by omega)]; exact vs t ht
  · rw [hu _ (by omega) (by omega) (by omega), hu _ (by omega) (by omega) (by omega), hu _ (by omega) (by omega) (by omega), hu _ (by omega) (by omega) (by omega)]; exact vc t ht
  · rw [hu _ (by omega) (by omega) (by omega)]; exact z1 j j1 j2 j3 j4
  · rw [hu _ (by omega) (by omega) (by omega)]; exact z2 t ht
theorem vX.thing {x1 x2 x3 : Nat} (h : vX M p u T W C Sa) (hT8 : T < 8) (h0 : u 0 = nI 1) (b1 : 1 ≤ x1) (b2 : x1 ≤ 5000) (b3 : x2 ≤ 5000) (b4 : x3 ≤ 9) (e0 : M' p = upd (M p) 4 (nI (T + 1))) (e1 : M' (p + 1) = upd (M (p + 1)) T (nI x1)) (e2 : M' (p + 2) = upd (M (p + 2)) T (nI x2)) (e3 : M' (p + 3) = upd (M (p + 3)) T (nI x3)) (er : ∀ i, 4 ≤ i → i ≤ 12 → M' (p + i) = M (p + i)) : vX M' p (upd (upd (upd (upd u (80 + 2 * T) (nI x1)) (81 + 2 * T) (nI x2)) (16 + 5 * T) (nI x3)) 1 (nI (T + 1))) (T + 1) W C Sa := by
  obtain ⟨⟨⟨a1, a2, a3, a4, a5, a6, a7⟩, hT, hW, hS, hC⟩, ⟨v1, v2, v3, v10, v0, v4, v5, v6, vt, vw, vs, vc⟩, z1, z2⟩ := h
  obtain ⟨w, hw⟩ : ∃ w, w = upd (upd (upd (upd u (80 + 2 * T) (nI x1)) (81 + 2 * T) (nI x2)) (16 + 5 * T) (nI x3)) 1 (nI (T + 1)) := ⟨_, rfl⟩
  have hu : ∀ j, j ≠ 80 + 2 * T → j ≠ 81 + 2 * T → j ≠ 16 + 5 * T → j ≠ 1 → w j = u j := fun j q1 q2 q3 q4 => by rw [hw, upd_n q4, upd_n q3, upd_n q2, upd_n q1]
  have g1 : w 1 = nI (T + 1) := by rw [hw, upd_s]
  have gA : w (80 + 2 * T) = nI x1 := by rw [hw, upd_n (by omega), upd_n (by omega), upd_n (by omega), upd_s]
  have gB : w (81 + 2 * T) = nI x2 := by rw [hw, upd_n (by omega), upd_n (by omega), upd_s]
  have gC : w (16 + 5 * T) = nI x3 := by rw [hw, upd_n (by omega), upd_s]
  rw [← hw]
  refine ⟨⟨⟨?_, ?_, ?_, ?_, ?_, ?_, ?_⟩, fun t ht => ?_, hW.co (fun i i1 i2 => er i (by omega) (by omega)) (fun t ht => ⟨hu _ (by omega) (by omega) (by omega) (by omega), hu _ (by omega) (by omega) (by omega) (by omega)⟩), hS.co (fun i i1 i2 => er i (by omega) (by omega)) (fun t ht => ⟨hu _ (by omega) (by omega) (by omega) (by omega), hu _ (by omega) (by omega) (by omega) (by omega), hu _ (by omega) (by omega) (by omega) (by omega)⟩), hC.co (fun i i1 i2 => er i (by omega) (by omega)) (fun t ht => ⟨hu _ (by omega) (by omega) (by omega) (by omega), hu _ (by omega) (by omega) (by omega) (by omega), hu _ (by omega) (by omega) (by omega) (by omega), hu _ (by omega) (by omega) (by omega) (by omega)⟩)⟩, ⟨?_, ?_, ?_, ?_, ?_, ?_, ?_, ?_, fun t ht => ?_, fun t ht => ?_, fun t ht => ?_, fun t ht => ?_⟩, fun j j1 j2 j3 j4 => ?_, fun t ht => ?_⟩
  · rw [e0, hu 4 (by omega) (by omega) (by omega) (by omega), upd_n (by omega)]; exact a1
  · rw [e0, hu 5 (by omega) (by omega) (by omega) (by omega), upd_n (by omega)]; exact a2
  · rw [e0, hu 6 (by omega) (by omega) (by omega) (by omega), upd_n (by omega)]; exact a3
  · rw [e0, upd_s]
  · rw [e0, upd_n (by omega)]; exact a5
  · rw [e0, upd_n (by omega)]; exact a6
  · rw [e0, upd_n (by omega)]; exact a7
  · by_cases e : t = T
    · subst e
      rw [e1, e2, e3, upd_s, upd_s, upd_s, gA, gB, gC]
      exact ⟨rfl, rfl, rfl⟩
    · rw [e1, e2, e3, upd_n e, upd_n e, upd_n e, hu _ (by omega) (by omega) (by omega) (by omega), hu _ (by omega) (by omega) (by omega) (by omega), hu _ (by omega) (by omega) (by omega) (by omega)]
      exact hT t (by omega)
  · exact ⟨g1, by omega⟩
  · rw [hu 2 (by omega) (by omega) (by omega) (by omega)]; exact v2
  · rw [hu 3 (by omega) (by omega) (by omega) (by omega)]; exact v3
  · rw [hu 10 (by omega) (by omega) (by omega) (by omega)]; exact v10
  · rw [hu 0 (by omega) (by omega) (by omega) (by omega)]; exact Or.inl h0
  · rw [hu 4 (by omega) (by omega) (by omega) (by omega)]; exact v4
  · rw [hu 5 (by omega) (by omega) (by omega) (by omega)]; exact v5
  · rw [hu 6 (by omega) (by omega) (by omega) (by omega)]; exact v6
  · by_cases e : t = T
    · subst e
      rw [gA, gB]
      exact ⟨⟨x1, b1, b2, rfl⟩, x2, b3, rfl⟩
    · rw [hu _ (by omega) (by omega) (by omega) (by omega), hu _ (by omega) (by omega) (by omega) (by omega)]; exact vt t (by omega)
  · have hW6 := v2.2
    rw [hu _ (by omega) (by omega) (by omega) (by omega), hu _ (by omega) (by omega) (by omega) (by omega)]
    obtain ⟨⟨t', q1, q2⟩, q3⟩ := vw t ht
    exact ⟨⟨t', by omega, q2⟩, q3⟩
  · rw [hu _ (by omega) (by omega) (by omega) (by omega)]; exact vs t ht
  · rw [hu _ (by omega) (by omega) (by omega) (by omega), hu _ (by omega) (by omega) (by omega) (by omega), hu _ (by omega) (by omega) (by omega) (by omega), hu _ (by omega) (by omega) (by omega) (by omega)]; exact vc t ht
  · rw [hu _ (by omega) (by omega) (j4 T (by omega)) (by omega)]; exact z1 j j1 j2 j3 j4
  · by_cases e : t = T
    · subst e; rw [gC]; exact ⟨x3, b4, rfl⟩
    · rw [hu _ (by omega) (by omega) (by omega) (by omega)]; exact z2 t (by omega)
theorem vX.want {x1 x2 : Nat} (h : vX M p u T W C Sa) (hW6 : W < 6) (b1 : x1 < T) (b2 : x2 ≤ 30) (e0 : M' p = upd (M p) 8 (nI (W + 1))) (e1 : M' (p + 4) = upd (M (p + 4)) W (nI x1)) (e2 : M' (p + 5) = upd (M (p + 5)) W (nI x2)) (er : ∀ i, 1 ≤ i → i ≤ 12 → i ≠ 4 → i ≠ 5 → M' (p + i) = M (p + i)) : vX M' p (upd (upd (upd u (96 + 2 * W) (nI x1)) (97 + 2 * W) (nI x2)) 2 (nI (W + 1))) T (W + 1) C Sa := by
  obtain ⟨⟨⟨a1, a2, a3, a4, a5, a6, a7⟩, hT, hW, hS, hC⟩, ⟨v1, v2, v3, v10, v0, v4, v5, v6, vt, vw, vs, vc⟩, z1, z2⟩ := h
  have hT8 := v1.2
  obtain ⟨w, hw⟩ : ∃ w, w = upd (upd (upd u (96 + 2 * W) (nI x1)) (97 + 2 * W) (nI x2)) 2 (nI (W + 1)) := ⟨_, rfl⟩
  have hu : ∀ j, j ≠ 96 + 2 * W → j ≠ 97 + 2 * W → j ≠ 2 → w j = u j := fun j q1 q2 q3 => by rw [hw, upd_n q3, upd_n q2, upd_n q1]
  have g2 : w 2 = nI (W + 1) := by rw [hw, upd_s]
  have gA : w (96 + 2 * W) = nI x1 := by rw [hw, upd_n (by omega), upd_n (by omega), upd_s]
  have gB : w (97 + 2 * W) = nI x2 := by rw [hw, upd_n (by omega), upd_s]
  rw [← hw]
  refine ⟨⟨⟨?_, ?_, ?_, ?_, ?_, ?_, ?_⟩, hT.co hT8 (fun i i1 i2 => er i (by omega) (by omega) (by omega) (by omega)) (fun t ht => ⟨hu _ (by omega) (by omega) (by omega), hu _ (by omega) (by omega) (by omega), hu _ (by omega) (by omega) (by omega)⟩), fun t ht => ?_, hS.co (fun i i1 i2 => er i (by omega) (by omega) (by omega) (by omega)) (fun t ht => ⟨hu _ (by omega) (by omega) (by omega), hu _ (by omega) (by omega) (by omega), hu _ (by omega) (by omega) (by omega)⟩), hC.co (fun i i1 i2 => er i (by omega) (by omega) (by omega) (by omega)) (fun t ht => ⟨hu _ (by omega) (by omega) (by omega), hu _ (by omega) (by omega) (by omega), hu _ (by omega) (by omega) (by omega), hu _ (by omega) (by omega) (by omega)⟩)⟩, ⟨?_, ?_, ?_, ?_, ?_, ?_, ?_, ?_, fun t ht => ?_, fun t ht => ?_, fun t ht => ?_, fun t ht => ?_⟩, fun j j1 j2 j3 j4 => ?_, fun t ht => ?_⟩
  · rw [e0, hu 4 (by omega) (by omega) (by omega), upd_n (by omega)]; exact a1
  · rw [e0, hu 5 (by omega) (by omega) (by omega), upd_n (by omega)]; exact a2
  · rw [e0, hu 6 (by omega) (by omega) (by omega), upd_n (by omega)]; exact a3
  · rw [e0, upd_n (by omega)]; exact a4
  · rw [e0, upd_s]
  · rw [e0, upd_n (by omega)]; exact a6
  · rw [e0, upd_n (by omega)]; exact a7
  · by_cases e : t = W
    · subst e
      rw [e1, e2, upd_s, upd_s, gA, gB]
      exact ⟨rfl, rfl⟩
    · rw [e1, e2, upd_n e, upd_n e, hu _ (by omega) (by omega) (by omega), hu _ (by omega) (by omega) (by omega)]
      exact hW t (by omega)
  · rw [hu 1 (by omega) (by omega) (by omega)]; exact v1
  · exact ⟨g2, by omega⟩
  · rw [hu 3 (by omega) (by omega) (by omega)]; exact v3
  · rw [hu 10 (by omega) (by omega) (by omega)]; exact v10
  · rw [hu 0 (by omega) (by omega) (by omega)]; exact v0
  · rw [hu 4 (by omega) (by omega) (by omega)]; exact v4
  · rw [hu 5 (by omega) (by omega) (by omega)]; exact v5
  · rw [hu 6 (by omega) (by omega) (by omega)]; exact v6
  · rw [hu _ (by omega) (by omega) (by omega), hu _ (by omega) (by omega) (by omega)]; exact vt t ht
  · by_cases e : t = W
    · subst e
      rw [gA, gB]
      exact ⟨⟨x1, b1, rfl⟩, x2, b2, rfl⟩
    · rw [hu _ (by omega) (by omega) (by omega), hu _ (by omega) (by omega) (by omega)]; exact vw t (by omega)
  · rw [hu _ (by omega) (by omega) (by omega)]; exact vs t ht
  · rw [hu _ (by omega) (by omega) (by omega), hu _ (by omega) (by omega) (by omega), hu _ (by omega) (by omega) (by omega), hu _ (by omega) (by omega) (by omega)]; exact vc t ht
  · rw [hu _ (by omega) (by omega) (by omega)]; exact z1 j j1 j2 j3 j4
  · rw [hu _ (by omega) (by omega) (by omega)]; exact z2 t ht
theorem vX.sale {x1 x2 x3 : Nat} (h : vX M p u T W C Sa) (hS4 : Sa < 4) (b3 : x3 ≤ 90) (e0 : M' p = upd (M p) 11 (nI (Sa + 1))) (e1 : M' (p + 6) = upd (M (p + 6)) Sa (nI x1)) (e2 : M' (p + 7) = upd (M (p + 7)) Sa (nI x2)) (e3 : M' (p + 8) = upd (M (p + 8)) Sa (nI x3)) (er : ∀ i, 1 ≤ i → i ≤ 12 → i ≠ 6 → i ≠ 7 → i ≠ 8 → M' (p + i) = M (p + i)) : vX M' p (upd (upd (upd (upd u (108 + 3 * Sa) (nI x1)) (109 + 3 * Sa) (nI x2)) (110 + 3 * Sa) (nI x3)) 10 (nI (Sa + 1))) T W C (Sa + 1) := by
  obtain ⟨⟨⟨a1, a2, a3, a4, a5, a6, a7⟩, hT, hW, hS, hC⟩, ⟨v1, v2, v3, v10, v0, v4, v5, v6, vt, vw, vs, vc⟩, z1, z2⟩ := h
  have hT8 := v1.2
  have hW6 := v2.2
  obtain ⟨w, hw⟩ : ∃ w, w = upd (upd (upd (upd u (108 + 3 * Sa) (nI x1)) (109 + 3 * Sa) (nI x2)) (110 + 3 * Sa) (nI x3)) 10 (nI (Sa + 1)) := ⟨_, rfl⟩
  have hu : ∀ j, j ≠ 108 + 3 * Sa → j ≠ 109 + 3 * Sa → j ≠ 110 + 3 * Sa → j ≠ 10 → w j = u j := fun j q1 q2 q3 q4 => by rw [hw, upd_n q4, upd_n q3, upd_n q2, upd_n q1]
  have g10 : w 10 = nI (Sa + 1) := by rw [hw, upd_s]
  have gA : w (108 + 3 * Sa) = nI x1 := by rw [hw, upd_n (by omega), upd_n (by omega), upd_n (by omega), upd_s]
  have gB : w (109 + 3 * Sa) = nI x2 := by rw [hw, upd_n (by omega), upd_n (by omega), upd_s]
  have gC : w (110 + 3 * Sa) = nI x3 := by rw [hw, upd_n (by omega), upd_s]
  rw [← hw]
  refine ⟨⟨⟨?_, ?_, ?_, ?_, ?_, ?_, ?_⟩, hT.co hT8 (fun i i1 i2 => er i (by omega) (by omega) (by omega) (by omega) (by omega)) (fun t ht => ⟨hu _ (by omega) (by omega) (by omega) (by omega), hu _ (by omega) (by omega) (by omega) (by omega), hu _ (by omega) (by omega) (by omega) (by omega)⟩), hW.co (fun i i1 i2 => er i (by omega) (by omega) (by omega) (by omega) (by omega)) (fun t ht => ⟨hu _ (by omega) (by omega) (by omega) (by omega), hu _ (by omega) (by omega) (by omega) (by omega)⟩), fun t ht => ?_, hC.co (fun i i1 i2 => er i (by omega) (by omega) (by omega) (by omega) (by omega)) (fun t ht => ⟨hu _ (by omega) (by omega) (by omega) (by omega), hu _ (by omega) (by omega) (by omega) (by omega), hu _ (by omega) (by omega) (by omega) (by omega), hu _ (by omega) (by omega) (by omega) (by omega)⟩)⟩, ⟨?_, ?_, ?_, ?_, ?_, ?_, ?_, ?_, fun t ht => ?_, fun t ht => ?_, fun t ht => ?_, fun t ht => ?_⟩, fun j j1 j2 j3 j4 => ?_, fun t ht => ?_⟩
  · rw [e0, hu 4 (by omega) (by omega) (by omega) (by omega), upd_n (by omega)]; exact a1
  · rw [e0, hu 5 (by omega) (by omega) (by omega) (by omega), upd_n (by omega)]; exact a2
  · rw [e0, hu 6 (by omega) (by omega) (by omega) (by omega), upd_n (by omega)]; exact a3
  · rw [e0, upd_n (by omega)]; exact a4
  · rw [e0, upd_n (by omega)]; exact a5
  · rw [e0, upd_s]
  · rw [e0, upd_n (by omega)]; exact a7
  · by_cases e : t = Sa
    · subst e
      rw [e1, e2, e3, upd_s, upd_s, upd_s, gA, gB, gC]
      exact ⟨rfl, rfl, rfl⟩
    · rw [e1, e2, e3, upd_n e, upd_n e, upd_n e, hu _ (by omega) (by omega) (by omega) (by omega), hu _ (by omega) (by omega) (by omega) (by omega), hu _ (by omega) (by omega) (by omega) (by omega)]
      exact hS t (by omega)
  · rw [hu 1 (by omega) (by omega) (by omega) (by omega)]; exact v1
  · rw [hu 2 (by omega) (by omega) (by omega) (by omega)]; exact v2
  · rw [hu 3 (by omega) (by omega) (by omega) (by omega)]; exact v3
  · exact ⟨g10, by omega⟩
  · rw [hu 0 (by omega) (by omega) (by omega) (by omega)]; exact v0
  · rw [hu 4 (by omega) (by omega) (by omega) (by omega)]; exact v4
  · rw [hu 5 (by omega) (by omega) (by omega) (by omega)]; exact v5
  · rw [hu 6 (by omega) (by omega) (by omega) (by omega)]; exact v6
  · rw [hu _ (by omega) (by omega) (by omega) (by omega), hu _ (by omega) (by omega) (by omega) (by omega)]; exact vt t ht
  · rw [hu _ (by omega) (by omega) (by omega) (by omega), hu _ (by omega) (by omega) (by omega) (by omega)]; exact vw t ht
  · by_cases e : t = Sa
    · subst e; rw [gC]; exact ⟨x3, b3, rfl⟩
    · rw [hu _ (by omega) (by omega) (by omega) (by omega)]; exact vs t (by omega)
  · rw [hu _ (by omega) (by omega) (by omega) (by omega), hu _ (by omega) (by omega) (by omega) (by omega), hu _ (by omega) (by omega) (by omega) (by omega), hu _ (by omega) (by omega) (by omega) (by omega)]; exact vc t ht
  · rw [hu _ (by omega) (by omega) (by omega) (by omega)]; exact z1 j j1 j2 j3 j4
  · rw [hu _ (by omega) (by omega) (by omega) (by omega)]; exact z2 t ht
theorem vX.code {kd x1 x2 : Nat} (h : vX M p u T W C Sa) (hC5 : C < 5) (hk : kd ≤ 2) (b1 : x1 ≤ 2000) (b2 : kd = 0 → x1 ≤ 90) (b3 : x2 ≤ 9999) (e0 : M' p = upd (M p) 15 (nI (C + 1))) (e1 : M' (p + 9) = upd (M (p + 9)) C (nI (10 + kd))) (e2 : M' (p + 10) = upd (M (p + 10)) C (nI x1)) (e3 : M' (p + 11) = upd (M (p + 11)) C (nI x2)) (er : ∀ i, 1 ≤ i → i ≤ 12 → i ≠ 9 → i ≠ 10 → i ≠ 11 → M' (p + i) = M (p + i)) : vX M' p (upd (upd (upd (upd (upd (upd u (120 + 4 * C) (nI kd)) (121 + 4 * C) 0) (123 + 4 * C) 0) (121 + 4 * C) (nI x1)) (122 + 4 * C) (nI x2)) 3 (nI (C + 1))) T W (C + 1) Sa := by
  obtain ⟨⟨⟨a1, a2, a3, a4, a5, a6, a7⟩, hT, hW, hS, hC⟩, ⟨v1, v2, v3, v10, v0, v4, v5, v6, vt, vw, vs, vc⟩, z1, z2⟩ := h
  have hT8 := v1.2
  have hW6 := v2.2
  have hS4 := v10.2
  obtain ⟨w, hw⟩ : ∃ w, w = upd (upd (upd (upd (upd (upd u (120 + 4 * C) (nI kd)) (121 + 4 * C) 0) (123 + 4 * C) 0) (121 + 4 * C) (nI x1)) (122 + 4 * C) (nI x2)) 3 (nI (C + 1)) := ⟨_, rfl⟩
  have hu : ∀ j, (j < 120 + 4 * C ∨ 123 + 4 * C < j) → j ≠ 3 → w j = u j := fun j q1 q2 => by rw [hw, upd_n q2, upd_n (by omega), upd_n (by omega), upd_n (by omega), upd_n (by omega), upd_n (by omega)]
  have g3 : w 3 = nI (C + 1) := by rw [hw, upd_s]
  have gA : w (120 + 4 * C) = nI kd := by rw [hw, upd_n (by omega), upd_n (by omega), upd_n (by omega), upd_n (by omega), upd_n (by omega), upd_s]
  have gB : w (121 + 4 * C) = nI x1 := by rw [hw, upd_n (by omega), upd_n (by omega), upd_s]
  have gC : w (122 + 4 * C) = nI x2 := by rw [hw, upd_n (by omega), upd_s]
  have gD : w (123 + 4 * C) = nI 0 := by rw [hw, upd_n (by omega), upd_n (by omega), upd_n (by omega), upd_s]; rfl
  have eD := (hC.2 C (Nat.le_refl _) hC5).2
  rw [← hw]
  refine ⟨⟨⟨?_, ?_, ?_, ?_, ?_, ?_, ?_⟩, hT.co hT8 (fun i i1 i2 => er i (by omega) (by omega) (by omega) (by omega) (by omega)) (fun t ht => ⟨hu _ (by omega) (by omega), hu _ (by omega) (by omega), hu _ (by omega) (by omega)⟩), hW.co (fun i i1 i2 => er i (by omega) (by omega) (by omega) (by omega) (by omega)) (fun t ht => ⟨hu _ (by omega) (by omega), hu _ (by omega) (by omega)⟩), hS.co (fun i i1 i2 => er i (by omega) (by omega) (by omega) (by omega) (by omega)) (fun t ht => ⟨hu _ (by omega) (by omega), hu _ (by omega) (by omega), hu _ (by omega) (by omega)⟩), fun t ht => ?_, fun t t1 t2 => ?_⟩, ⟨?_, ?_, ?_, ?_, ?_, ?_, ?_, ?_, fun t ht => ?_, fun t ht => ?_, fun t ht => ?_, fun t ht => ?_⟩, fun j j1 j2 j3 j4 => ?_, fun t ht => ?_⟩
  · rw [e0, hu 4 (by omega) (by omega), upd_n (by omega)]; exact a1
  · rw [e0, hu 5 (by omega) (by omega), upd_n (by omega)]; exact a2
  · rw [e0, hu 6 (by omega) (by omega), upd_n (by omega)]; exact a3
  · rw [e0, upd_n (by omega)]; exact a4
  · rw [e0, upd_n (by omega)]; exact a5
  · rw [e0, upd_n (by omega)]; exact a6
  · rw [e0, upd_s]
  · by_cases e : t = C
    · subst e
      rw [e1, e2, e3, er 12 (by omega) (by omega) (by omega) (by omega) (by omega), upd_s, upd_s, upd_s, gA, gB, gC, gD, eD]
      refine ⟨?_, rfl, rfl, rfl⟩
      rw [nI_add, Nat.add_comm]
    · rw [e1, e2, e3, er 12 (by omega) (by omega) (by omega) (by omega) (by omega), upd_n e, upd_n e, upd_n e, hu _ (by omega) (by omega), hu _ (by omega) (by omega), hu _ (by omega) (by omega), hu _ (by omega) (by omega)]
      exact hC.1 t (by omega)
  · rw [e2, er 12 (by omega) (by omega) (by omega) (by omega) (by omega), upd_n (by omega)]
    exact hC.2 t (by omega) t2
  · rw [hu 1 (by omega) (by omega)]; exact v1
  · rw [hu 2 (by omega) (by omega)]; exact v2
  · exact ⟨g3, by omega⟩
  · rw [hu 10 (by omega) (by omega)]; exact v10
  · rw [hu 0 (by omega) (by omega)]; exact v0
  · rw [hu 4 (by omega) (by omega)]; exact v4
  · rw [hu 5 (by omega) (by omega)]; exact v5
  · rw [hu 6 (by omega) (by omega)]; exact v6
  · rw [hu _ (by omega) (by omega), hu _ (by omega) (by omega)]; exact vt t ht
  · rw [hu _ (by omega) (by omega), hu _ (by omega) (by omega)]; exact vw t ht
  · rw [hu _ (by omega) (by omega)]; exact vs t ht
  · by_cases e : t = C
    · subst e
      rw [gA, gB, gC, gD]
      exact ⟨⟨kd, x1, hk, rfl, rfl, b1, b2⟩, ⟨x2, b3, rfl⟩, 0, by omega, rfl⟩
    · rw [hu _ (by omega) (by omega), hu _ (by omega) (by omega), hu _ (by omega) (by omega), hu _ (by omega) (by omega)]; exact vc t (by omega)
  · rw [hu _ (by omega) (by omega)]; exact z1 j j1 j2 j3 j4
  · rw [hu _ (by omega) (by omega)]; exact z2 t ht
theorem vX.again (h : vX M p u T W C Sa) (e0 : M' p = upd (M p) 3 1) (er : ∀ i, 1 ≤ i → i ≤ 12 → M' (p + i) = M (p + i)) : vX M' p (upd u 6 1) T W C Sa := by
  obtain ⟨⟨⟨a1, a2, a3, a4, a5, a6, a7⟩, hT, hW, hS, hC⟩, ⟨v1, v2, v3, v10, v0, v4, v5, v6, vt, vw, vs, vc⟩, z1, z2⟩ := h
  have hT8 := v1.2
  have hu : ∀ j, j ≠ 6 → upd u 6 1 j = u j := fun j q1 => upd_n q1
  have g6 : upd u 6 1 6 = nI 1 := by rw [upd_s]; rfl
  refine ⟨⟨⟨?_, ?_, ?_, ?_, ?_, ?_, ?_⟩, hT.co hT8 (fun i i1 i2 => er i (by omega) (by omega)) (fun t ht => ⟨hu _ (by omega), hu _ (by omega), hu _ (by omega)⟩), hW.co (fun i i1 i2 => er i (by omega) (by omega)) (fun t ht => ⟨hu _ (by omega), hu _ (by omega)⟩), hS.co (fun i i1 i2 => er i (by omega) (by omega)) (fun t ht => ⟨hu _ (by omega), hu _ (by omega), hu _ (by omega)⟩), hC.co (fun i i1 i2 => er i (by omega) (by omega)) (fun t ht => ⟨hu _ (by omega), hu _ (by omega), hu _ (by omega), hu _ (by omega)⟩)⟩, ⟨?_, ?_, ?_, ?_, ?_, ?_, ?_, ?_, fun t ht => ?_, fun t ht => ?_, fun t ht => ?_, fun t ht => ?_⟩, fun j j1 j2 j3 j4 => ?_, fun t ht => ?_⟩
  · rw [e0, hu 4 (by omega), upd_n (by omega)]; exact a1
  · rw [e0, hu 5 (by omega), upd_n (by omega)]; exact a2
  · rw [e0, g6, upd_s]; rfl
  · rw [e0, upd_n (by omega)]; exact a4
  · rw [e0, upd_n (by omega)]; exact a5
  · rw [e0, upd_n (by omega)]; exact a6
  · rw [e0, upd_n (by omega)]; exact a7
  · rw [hu 1 (by omega)]; exact v1
  · rw [hu 2 (by omega)]; exact v2
  · rw [hu 3 (by omega)]; exact v3
  · rw [hu 10 (by omega)]; exact v10
  · rw [hu 0 (by omega)]; exact v0
  · rw [hu 4 (by omega)]; exact v4
  · rw [hu 5 (by omega)]; exact v5
  · exact Or.inr g6
  · rw [hu _ (by omega), hu _ (by omega)]; exact vt t ht
  · rw [hu _ (by omega), hu _ (by omega)]; exact vw t ht
  · rw [hu _ (by omega)]; exact vs t ht
  · rw [hu _ (by omega), hu _ (by omega), hu _ (by omega), hu _ (by omega)]; exact vc t ht
  · rw [hu _ (by omega)]; exact z1 j j1 j2 j3 j4
  · rw [hu _ (by omega)]; exact z2 t ht
/-- a bit more among five -/
theorem or5b {x : Int32} {k : Nat} (h : bd x 31) (hk : k < 5) : bd (x ||| (1 <<< (nI k &&& 31))) 31 := by
  obtain ⟨a, ha, rfl⟩ := h
  have : ∀ a, a < 32 → ∀ k, k < 5 → nI a ||| (1 <<< (nI k &&& 31)) = nI (nN (nI a ||| (1 <<< (nI k &&& 31)))) ∧ nN (nI a ||| (1 <<< (nI k &&& 31))) ≤ 31 := by decide +kernel
  exact ⟨_, (this a (by omega) k hk).2, (this a (by omega) k hk).1⟩
theorem vX.alone {x1 x2 : Nat} (h : vX M p u T W C Sa) (h1 : x1 < C) (h2 : x2 < C) (e1 : M' (p + 12) = upd (upd (M (p + 12)) x1 (M (p + 12) x1 ||| (1 <<< (nI x2 &&& 31)))) x2 (upd (M (p + 12)) x1 (M (p + 12) x1 ||| (1 <<< (nI x2 &&& 31))) x2 ||| (1 <<< (nI x1 &&& 31)))) (er : ∀ i, i ≤ 11 → M' (p + i) = M (p + i)) : vX M' p (upd (upd u (123 + 4 * x1) (u (123 + 4 * x1) ||| (1 <<< (nI x2 &&& 31)))) (123 + 4 * x2) (upd u (123 + 4 * x1) (u (123 + 4 * x1) ||| (1 <<< (nI x2 &&& 31))) (123 + 4 * x2) ||| (1 <<< (nI x1 &&& 31)))) T W C Sa := by
  obtain ⟨⟨⟨a1, a2, a3, a4, a5, a6, a7⟩, hT, hW, hS, hC⟩, ⟨v1, v2, v3, v10, v0, v4, v5, v6, vt, vw, vs, vc⟩, z1, z2⟩ := h
  have hT8 := v1.2
  have hW6 := v2.2
  have hS4 := v10.2
  have hC5 := v3.2
  have e0 : M' p = M p := er 0 (by omega)
  obtain ⟨w1, hw1⟩ : ∃ w1, w1 = upd u (123 + 4 * x1) (u (123 + 4 * x1) ||| (1 <<< (nI x2 &&& 31))) := ⟨_, rfl⟩
  obtain ⟨w, hw⟩ : ∃ w, w = upd w1 (123 + 4 * x2) (w1 (123 + 4 * x2) ||| (1 <<< (nI x1 &&& 31))) := ⟨_, rfl⟩
  obtain ⟨r1, hr1⟩ : ∃ r1, r1 = upd (M (p + 12)) x1 (M (p + 12) x1 ||| (1 <<< (nI x2 &&& 31))) := ⟨_, rfl⟩
  rw [← hr1] at e1
  rw [← hw1, ← hw]
  have hu : ∀ j, j ≠ 123 + 4 * x1 → j ≠ 123 + 4 * x2 → w j = u j := fun j q1 q2 => by rw [hw, upd_n q2, hw1, upd_n q1]
  have r1w : ∀ c, c < C → r1 c = w1 (123 + 4 * c) := fun c hc => by
    rw [hr1, hw1]
    by_cases e : c = x1
    · subst e; rw [upd_s, upd_s, (hC.1 c hc).2.2.2]
    · rw [upd_n e, upd_n (by omega)]; exact (hC.1 c hc).2.2.2
  have rw2 : ∀ c, c < C → M' (p + 12) c = w (123 + 4 * c) := fun c hc => by
    rw [e1, hw]
    by_cases e : c = x2
    · subst e; rw [upd_s, upd_s, r1w c hc]
    · rw [upd_n e, upd_n (by omega)]; exact r1w c hc
  have b1 : ∀ c, c < C → bd (w1 (123 + 4 * c)) 31 := fun c hc => by
    rw [hw1]
    by_cases e : c = x1
    · subst e; rw [upd_s]; exact or5b (vc c hc).2.2 (by omega)
    · rw [upd_n (by omega)]; exact (vc c hc).2.2
  have b2 : ∀ c, c < C → bd (w (123 + 4 * c)) 31 := fun c hc => by
    rw [hw]
    by_cases e : c = x2
    · subst e; rw [upd_s]; exact or5b (b1 c hc) (by omega)
    · rw [upd_n (by omega)]; exact b1 c hc
  refine ⟨⟨⟨?_, ?_, ?_, ?_, ?_, ?_, ?_⟩, hT.co hT8 (fun i i1 i2 => er i (by omega)) (fun t ht => ⟨hu _ (by omega) (by omega), hu _ (by omega) (by omega), hu _ (by omega) (by omega)⟩), hW.co (fun i i1 i2 => er i (by omega)) (fun t ht => ⟨hu _ (by omega) (by omega), hu _ (by omega) (by omega)⟩), hS.co (fun i i1 i2 => er i (by omega)) (fun t ht => ⟨hu _ (by omega) (by omega), hu _ (by omega) (by omega), hu _ (by omega) (by omega)⟩), fun t ht => ?_, fun t t1 t2 => ?_⟩, ⟨?_, ?_, ?_, ?_, ?_, ?_, ?_, ?_, fun t ht => ?_, fun t ht => ?_, fun t ht => ?_, fun t ht => ?_⟩, fun j j1 j2 j3 j4 => ?_, fun t ht => ?_⟩
  · rw [e0, hu 4 (by omega) (by omega)]; exact a1
  · rw [e0, hu 5 (by omega) (by omega)]; exact a2
  · rw [e0, hu 6 (by omega) (by omega)]; exact a3
  · rw [e0]; exact a4
  · rw [e0]; exact a5
  · rw [e0]; exact a6
  · rw [e0]; exact a7
  · rw [er 9 (by omega), er 10 (by omega), er 11 (by omega), hu _ (by omega) (by omega), hu (121 + 4 * t) (by omega) (by omega), hu (122 + 4 * t) (by omega) (by omega), rw2 t ht]
    have := hC.1 t ht
    exact ⟨this.1, this.2.1, this.2.2.1, rfl⟩
  · rw [er 10 (by omega), e1, upd_n (by omega), hr1, upd_n (by omega)]
    exact hC.2 t t1 t2
  · rw [hu 1 (by omega) (by omega)]; exact v1
  · rw [hu 2 (by omega) (by omega)]; exact v2
  · rw [hu 3 (by omega) (by omega)]; exact v3
  · rw [hu 10 (by omega) (by omega)]; exact v10
  · rw [hu 0 (by omega) (by omega)]; exact v0
  · rw [hu 4 (by omega) (by omega)]; exact v4
  · rw [hu 5 (by omega) (by omega)]; exact v5
  · rw [hu 6 (by omega) (by omega)]; exact v6
  · rw [hu _ (by omega) (by omega), hu _ (by omega) (by omega)]; exact vt t ht
  · rw [hu _ (by omega) (by omega), hu _ (by omega) (by omega)]; exact vw t ht
  · rw [hu _ (by omega) (by omega)]; exact vs t ht
  · rw [hu (120 + 4 * t) (by omega) (by omega), hu (121 + 4 * t) (by omega) (by omega), hu (122 + 4 * t) (by omega) (by omega)]
    exact ⟨(vc t ht).1, (vc t ht).2.1, b2 t ht⟩
  · rw [hu _ (by omega) (by omega)]; exact z1 j j1 j2 j3 j4
  · rw [hu _ (by omega) (by omega)]; exact z2 t ht
end VX
