section DC
variable {g : Nat}
set_option maxHeartbeats 2000000 in
/-- dearness -/
theorem p_89 {B : rB} {w : Nat → Int32} {m : cM} {R Sa q t d l p a1 : Nat} (hg : 2000 ≤ g) (hq : q ≤ R) (hR : R ≤ 6) (hG : ∀ r, r < R → ∃ K len, rgR B r K len ∧ rgC m.1 B r K len) (hrc : m.1 32 2 = nI R) (hO : cO m (m.2.2.1 5) 5 = true) (h11 : m.1 (m.2.2.1 5) 11 = nI Sa) (h10 : w 10 = nI Sa) (hSa : Sa ≤ 4) (hsl : ∀ s, s < Sa → m.1 (m.2.2.1 5 + 6) s = w (108 + 3 * s) ∧ m.1 (m.2.2.1 5 + 7) s = w (109 + 3 * s) ∧ m.1 (m.2.2.1 5 + 8) s = w (110 + 3 * s)) (ht : t < 8) (hp : w (80 + 2 * t) = nI p) (hp1 : 1 ≤ p) (hp2 : p ≤ 5000) (hpr : m.1 (m.2.2.1 5 + 1) t = w (80 + 2 * t)) (hwo : m.1 (m.2.2.1 5 + 2) t = w (81 + 2 * t)) (hpc : ∀ s, s < Sa → ∃ a, a ≤ 90 ∧ w (110 + 3 * s) = nI a) (hU : cU a1 7 = true) (hst : m.1 (a1 + 2) t = w (16 + 5 * t)) (hha : m.1 (a1 + 3) t = w (18 + 5 * t)) : ∃ m', d_89 g a1 (rI q) (nI t) (nI d) (nI l) m = some (nI (dn B w q t d l), m') ∧ m'.1 = m.1 ∧ m'.2.2 = m.2.2 := by
  obtain ⟨a, ha, hpa⟩ := pc_b (d := nI d) hpc
  have hN : nN (w 10) = Sa := by rw [h10]; exact k_cl (by omega)
  unfold d_89
  rw [p_57 (w := w) (by omega) hO h11 hSa hsl, Option.bind_some, if_pos hO]
  match q, hq with
  | 0, hq =>
    have hlt := dn0 hp1 ha
    have hmul : p * a ≤ 5000 * 90 := Nat.mul_le_mul hp2 ha
    have e : dn B w 0 t d l = p - p * a / 100 := by
      show nN (w (80 + 2 * t)) - nN (w (80 + 2 * t)) * nN (pcL w (nI d) (nN (w 10))) / 100 = _
      rw [hN, hpa, hp, n_cl (by omega), n_cl (by omega)]
    rw [e]
    refine ⟨m, ?_, rfl, rfl⟩
    rw [rI_0, if_pos (show (-nI 1 : Int32) < 0 from neg1_lt)]
    unfold j_89_30
    by_cases h1 : p - p * a / 100 = 1
    · simp (disch := omega) only [hO, if_true, k_in, k_cl, hpr, hp, hpa, lit_nI, pk_mul, pk_div, k_sub, k_ltF, if_false, h1]
    · simp (disch := omega) only [hO, if_true, k_in, k_cl, hpr, hp, hpa, lit_nI, pk_mul, pk_div, k_sub, k_ltT]
  | r + 1, hq =>
    obtain ⟨K, len, hGr, hCr⟩ := hG r (by omega)
    rw [rI_s, if_neg (nI_pos (by omega)), hrc]
    have e : dn B w (r + 1) t d l = cl9 (su B.1 B.2.1 r (wdF w (pcL w (nI d) Sa) t d l) (nN (B.2.2 r)) 0) := by
      unfold dn
      rw [hN]
    rw [e]
    have fin : ∀ m1 : cM, m1.1 = m.1 → m1.2.2 = m.2.2 → (∀ j, j < 8 → m1.2.1 34 j = wdF w (pcL w (nI d) Sa) t d l j) → ∃ m', ((d_41 g (35 + 6 * r) m1).bind (fun z_40 => some (z_40.1, z_40.2))) = some (nI (cl9 (su B.1 B.2.1 r (wdF w (pcL w (nI d) Sa) t d l) (nN (B.2.2 r)) 0)), m') ∧ m'.1 = m.1 ∧ m'.2.2 = m.2.2 := by
      intro m1 f1 f2 f4
      obtain ⟨m', z1, z2, z3⟩ := p_41 (g := g) (show r < 6 by omega) hg hGr m1 (by rw [f1]; exact hCr) f4
      rw [z1, Option.bind_some]
      exact ⟨m', rfl, z2.trans f1, z3.trans f2⟩
    have hOL : ∀ (m1 : cM) (a k : Nat) (v : Int64) (p c : Nat), cO (cL m1 a k v) p c = cO m1 p c := fun _ _ _ _ _ _ => rfl
    have hLu : ∀ (m1 : cM) (k : Nat) (v : Int64), (cL m1 34 k v).2.1 34 = vp_updL (m1.2.1 34) k v := fun m1 k v => up_s (f := m1.2.1) (k := 34) (v := vp_updL (m1.2.1 34) k v)
    simp (disch := omega) only [k_ltT, if_true, lit_nI, k_in, k_cl, Option.bind_some, hOL, hO, hU, cL_1, hpr, hwo, hst, hha]
    exact fin _ rfl rfl (by
      intro j hj
      simp only [hLu]
      match j, hj with
      | 0, _ => rfl
      | 1, _ => rfl
      | 2, _ => rfl
      | 3, _ => rfl
      | 4, _ => rfl
      | 5, _ => rfl
      | 6, _ => rfl
      | 7, _ => rfl)
end DC
