/-! how dear, on both sides -/
theorem lgc_ne {v a : Int64} : (¬ lg_cmp v a = nI 0) = (v ≠ a) := by
  rw [show nI 0 = 0 from rfl, lg_cmp_eq]
theorem n_cl {a : Nat} (h : a < 2147483648) : nN (nI a) = a := k_cl h
section DE
variable {g : Nat}
/-- the reference's evaluation of one row of signs -/
theorem q_ev {B : rB} {r K len : Nat} (hr : r < 6) (hg : 1000 ≤ g) (hG : rgR B r K len) {i e : Nat} {S : rS} {wd : Nat → Int64} {b : Bool} (h3 : S.2.1 3 = B.1) (hw : ∀ j, j < 8 → S.2.2.2.1 j = wd j) (hie : i ≤ e) (he : e ≤ len) (hok : ru_c (cdf B.1 r) (e - i) i [] = some [b]) : ∃ S', d_186 g (nI r) (nI i) (nI e) S = some (evN B.1 r wd (nI i) (nI e), S') ∧ (b = true → evN B.1 r wd (nI i) (nI e) = 0 ∨ evN B.1 r wd (nI i) (nI e) = 1) ∧ rc [18] [] S S' ∧ S'.2.2.2 = S.2.2.2 := by
  obtain ⟨hK, hl, hcs, hsg, -⟩ := hG
  obtain ⟨v, S', h1, h2, h4, h5, h6⟩ := q_186 (g := g) hr (c := cdf B.1 r) (b := b) (i := i) (e := e) S hg hie (by omega) (by rw [h3]; exact fun j hj => hsg j (by omega)) hok
  have e1 : evN B.1 r wd (nI i) (nI e) = v := by
    unfold evN nN
    rw [k_cl (by omega), k_cl (by omega), ← ru_s_congr hw _ _ _ _ _ hok, h2]
    rfl
  rw [e1]
  exact ⟨S', h1, h4, h5, h6⟩
theorem p_ev {B : rB} {r K len : Nat} (hr : r < 6) (hg : 2000 ≤ g) (hG : rgR B r K len) {i e : Nat} {m : cM} (hC : rgC m.1 B r K len) {wd : Nat → Int64} {b : Bool} (hw : ∀ j, j < 8 → m.2.1 34 j = wd j) (hie : i ≤ e) (he : e ≤ len) (hok : ru_c (cdf B.1 r) (e - i) i [] = some [b]) : ∃ m', d_42 g (35 + 6 * r) (nI i) (nI e) m = some (evN B.1 r wd (nI i) (nI e), m') ∧ (b = true → evN B.1 r wd (nI i) (nI e) = 0 ∨ evN B.1 r wd (nI i) (nI e) = 1) ∧ m'.1 = m.1 ∧ m'.2.2 = m.2.2 ∧ m'.2.1 34 = m.2.1 34 := by
  obtain ⟨hK, hl, hcs, hsg, -⟩ := hG
  obtain ⟨hc1, hc2, -⟩ := hC
  obtain ⟨v, m', h1, h2, h4, h5, h6, h7⟩ := p_42 (g := g) hr (c := cdf B.1 r) (b := b) (i := i) (e := e) m hg hie (by omega) (fun j hj => ⟨hc2 j (by omega), (hsg j (by omega)).2⟩) hok
  have e1 : evN B.1 r wd (nI i) (nI e) = v := by
    unfold evN nN
    rw [k_cl (by omega), k_cl (by omega), ← ru_s_congr hw _ _ _ _ _ hok, h2]
    rfl
  rw [e1]
  exact ⟨m', h1, h4, h5, h6, h7⟩
set_option maxHeartbeats 1000000 in
theorem q_l197 {B : rB} {r K len : Nat} (hr : r < 6) (hg : 1000 ≤ g) (hG : rgR B r K len) {wd : Nat → Int64} : ∀ (j k n : Nat) (S : rS), k + j = K → 2 * j + 1 ≤ n → S.2.1 3 = B.1 → S.2.1 5 = B.2.1 → S.2.1 6 = B.2.2 → (∀ j, j < 8 → S.2.2.2.1 j = wd j) → ∃ S', l_197 g n 0 (nI r) (nI k) 0 S = some (su B.1 B.2.1 r wd j k, S') ∧ rc [18] [] S S' ∧ S'.2.2.2 = S.2.2.2 := by
  intro j
  obtain ⟨hK, hl, hcs, hsg, hcl⟩ := id hG
  induction j with
  | zero =>
    intro k n S hk hn h3 h5 h6 hw
    obtain ⟨n, rfl⟩ : ∃ n', n = n' + 1 := ⟨n - 1, by omega⟩
    refine ⟨S, ?_, rc.rf _, rfl⟩
    have e : k = K := by omega
    subst e
    simp (disch := omega) only [l_197, if_true, k_in, k_cl, h6, hcs, Int32.le_refl, su]
  | succ j ih =>
    intro k n S hk hn h3 h5 h6 hw
    obtain ⟨n, rfl⟩ : ∃ n', n = n' + 2 := ⟨n - 2, by omega⟩
    obtain ⟨s0, s1, t1, e0, e1, e3, h01, h1t, htl, hk0, hk1⟩ := hcl k (by omega)
    have hval : ∀ S1, rc [18] [] S S1 → S1.2.2.2 = S.2.2.2 → ∃ S', l_197 g (n + 1) 1 (nI r) (nI k) (nI (48 * r + 4 * k)) S1 = some (evN B.1 r wd (nI s0) (nI s1), S') ∧ rc [18] [] S S' ∧ S'.2.2.2 = S.2.2.2 := by
      intro S1 hc1 hc2
      obtain ⟨S', q1, -, q3, q4⟩ := q_ev (g := g) hr hg hG (i := s0) (e := s1) (S := S1) (wd := wd) (by rw [hc1.2 3 (by decide)]; exact h3) (by rw [hc2]; exact hw) h01 (by omega) hk0
      refine ⟨S', ?_, hc1.tr q3, q4.trans hc2⟩
      have e5 : S1.2.1 5 = B.2.1 := (hc1.2 5 (by decide)).trans h5
      simp (disch := omega) only [l_197, if_true, Nat.one_ne_zero, if_false, lit_nI, nI_add, k_in, k_cl, e5, e0, e1, q1, Option.bind_some]
    rw [l_197]
    simp (disch := omega) only [if_true, k_in, k_cl, h6, hcs, k_leF, if_false, lit_nI, nI_add, pk_mul, h5]
    unfold su
    rw [e0, e1, e3]
    rcases hk1 with ⟨e2, -⟩ | ⟨e2, hst, hk1⟩
    · rw [e2]
      have hn1 : (-nI 1 : Int32) < 0 := neg1_lt
      rw [if_pos (show (-nI 1 : Int32) < nI 0 from neg1_lt), if_pos (Or.inl hn1)]
      exact hval S (rc.rf _) rfl
    · rw [e2]
      simp (disch := omega) only [k_ltF, if_false, e3]
      obtain ⟨S1, q1, q2, q3, q4⟩ := q_ev (g := g) hr hg hG (i := s1) (e := t1) (S := S) (wd := wd) h3 hw (by omega) (by omega) hk1
      rw [q1]
      simp only [Option.bind_some, lgc_ne]
      have hn1 : ¬ nI s1 < 0 := nI_pos (by omega)
      by_cases hv : evN B.1 r wd (nI s1) (nI t1) = 1
      · rw [if_neg (fun q => q hv), if_pos (Or.inr hv)]
        exact hval S1 q3 q4
      · rw [if_pos hv, if_neg (fun q => q.elim (fun z => hn1 z) hv)]
        obtain ⟨S', z1, z2, z3⟩ := ih (k + 1) (n + 1) S1 (by omega) (by omega) (by rw [q3.2 3 (by decide)]; exact h3) (by rw [q3.2 5 (by decide)]; exact h5) (by rw [q3.2 6 (by decide)]; exact h6) (by rw [q4]; exact hw)
        exact ⟨S', z1, q3.tr z2, z3.trans q4⟩
theorem q_197 {B : rB} {r K len : Nat} (hr : r < 6) (hg : 1000 ≤ g) (hG : rgR B r K len) {wd : Nat → Int64} (S : rS) (h3 : S.2.1 3 = B.1) (h5 : S.2.1 5 = B.2.1) (h6 : S.2.1 6 = B.2.2) (hw : ∀ j, j < 8 → S.2.2.2.1 j = wd j) : ∃ S', d_197 g (nI r) S = some (su B.1 B.2.1 r wd (nN (B.2.2 r)) 0, S') ∧ rc [18] [] S S' ∧ S'.2.2.2 = S.2.2.2 := by
  have e : nN (B.2.2 r) = K := by rw [hG.2.2.1]; exact k_cl (by have := hG.1; omega)
  rw [e]
  exact q_l197 hr hg hG K 0 g S (by omega) (by have := hG.1; omega) h3 h5 h6 hw
set_option maxHeartbeats 1000000 in
theorem p_l41 {B : rB} {r K len : Nat} (hr : r < 6) (hg : 2000 ≤ g) (hG : rgR B r K len) {wd : Nat → Int64} : ∀ (j k n : Nat) (m : cM), k + j = K → 2 * j + 1 ≤ n → rgC m.1 B r K len → (∀ j, j < 8 → m.2.1 34 j = wd j) → ∃ m', l_41 g n 0 (35 + 6 * r) (nI k) m = some (nI (cl9 (su B.1 B.2.1 r wd j k)), m') ∧ m'.1 = m.1 ∧ m'.2.2 = m.2.2 := by
  intro j
  obtain ⟨hK, hl, hcs, hsg, hcl⟩ := id hG
  have hcU := cU_3 hr
  induction j with
  | zero =>
    intro k n m hk hn hC hw
    obtain ⟨n, rfl⟩ : ∃ n', n = n' + 1 := ⟨n - 1, by omega⟩
    refine ⟨m, ?_, rfl, rfl⟩
    have e : k = K := by omega
    subst e
    simp (disch := omega) only [l_41, if_true, hcU, hC.1, Int32.le_refl, su]
    rfl
  | succ j ih =>
    intro k n m hk hn hC hw
    obtain ⟨n, rfl⟩ : ∃ n', n = n' + 2 := ⟨n - 2, by omega⟩
    obtain ⟨s0, s1, t1, e0, e1, e3, h01, h1t, htl, hk0, hk1⟩ := hcl k (by omega)
    obtain ⟨c0, c1, c3⟩ := hC.2.2 k (by omega)
    rw [e0] at c0
    rw [e1] at c1
    rw [e3] at c3
    have hval : ∀ m1 : cM, m1.1 = m.1 → m1.2.2 = m.2.2 → m1.2.1 34 = m.2.1 34 → ∃ m', l_41 g (n + 1) 1 (35 + 6 * r) (nI k) m1 = some (nI (cl9 (evN B.1 r wd (nI s0) (nI s1))), m') ∧ m'.1 = m.1 ∧ m'.2.2 = m.2.2 := by
      intro m1 hc1 hc2 hc3
      obtain ⟨m', q1, -, q3, q4, q5⟩ := p_ev (g := g) hr hg hG (i := s0) (e := s1) (m := m1) (by rw [hc1]; exact hC) (wd := wd) (by rw [hc3]; exact hw) h01 (by omega) hk0
      refine ⟨m', ?_, q3.trans hc1, q4.trans hc2⟩
      simp (disch := omega) only [l_41, if_true, Nat.one_ne_zero, if_false, hcU, k_in, k_cl, hc1, c0, c1, q1, Option.bind_some, cl9_C]
    rw [l_41]
    simp (disch := omega) only [if_true, hcU, hC.1, k_leF, if_false, k_in, k_cl, c1, c3]
    unfold su
    rw [e0, e1, e3]
    rcases hk1 with ⟨e2, hst⟩ | ⟨e2, hst, hk1⟩
    · rw [e2]
      have hn1 : (-nI 1 : Int32) < 0 := neg1_lt
      simp (disch := omega) only [k_eqT, if_true]
      rw [if_pos (Or.inl hn1)]
      exact hval m rfl rfl rfl
    · rw [e2]
      simp (disch := omega) only [k_eqF, if_false]
      obtain ⟨m1, q1, q2, q3, q4, q5⟩ := p_ev (g := g) hr hg hG (i := s1) (e := t1) (m := m) hC (wd := wd) hw (by omega) (by omega) hk1
      rw [q1]
      simp only [Option.bind_some, lg_cmp_eq]
      have hn1 : ¬ nI s1 < 0 := nI_pos (by omega)
      rcases q2 rfl with hv | hv
      · rw [if_pos hv, if_neg (fun q => q.elim (fun z => hn1 z) (fun z => absurd (hv.symm.trans z) (by decide)))]
        obtain ⟨m', z1, z2, z3⟩ := ih (k + 1) (n + 1) m1 (by omega) (by omega) (by rw [q3]; exact hC) (by rw [q5]; exact hw)
        rw [← nI_1 k] at z1
        exact ⟨m', z1, z2.trans q3, z3.trans q4⟩
      · rw [if_neg (fun q => absurd (hv.symm.trans q) (by decide)), if_pos (Or.inr hv)]
        exact hval m1 q3 q4 q5
theorem p_41 {B : rB} {r K len : Nat} (hr : r < 6) (hg : 2000 ≤ g) (hG : rgR B r K len) {wd : Nat → Int64} (m : cM) (hC : rgC m.1 B r K len) (hw : ∀ j, j < 8 → m.2.1 34 j = wd j) : ∃ m', d_41 g (35 + 6 * r) m = some (nI (cl9 (su B.1 B.2.1 r wd (nN (B.2.2 r)) 0)), m') ∧ m'.1 = m.1 ∧ m'.2.2 = m.2.2 := by
  have e : nN (B.2.2 r) = K := by rw [hG.2.2.1]; exact k_cl (by have := hG.1; omega)
  rw [e]
  exact p_l41 hr hg hG K 0 g m (by omega) (by have := hG.1; omega) hC hw
/-- the number of a rule, 0 for none -/
def rI (q : Nat) : Int32 := nI q - nI 1
theorem rI_0 : rI 0 = -nI 1 := by decide
theorem rI_s (r : Nat) : rI (r + 1) = nI r := pk_sub (show 1 ≤ r + 1 by omega)
theorem pc_b {w : Nat → Int32} {d : Int32} : ∀ {k : Nat}, (∀ s, s < k → ∃ a, a ≤ 90 ∧ w (110 + 3 * s) = nI a) → ∃ a, a ≤ 90 ∧ pcL w d k = nI a
  | 0, _ => ⟨0, by omega, rfl⟩
  | k + 1, h => by
    unfold pcL
    split
    · exact h k (by omega)
    · exact pc_b (fun s hs => h s (by omega))
theorem dn0 {p a : Nat} (hp : 1 ≤ p) (ha : a ≤ 90) : p * a / 100 < p := by
  have h1 : p * a ≤ p * 90 := Nat.mul_le_mul_left _ ha
  omega
set_option maxHeartbeats 1000000 in
/-- dearBy -/
theorem q_198 {B : rB} {S : rS} {R Sa q t d l p : Nat} (hg : 1000 ≤ g) (hq : q ≤ R) (hR : R ≤ 6) (hG : ∀ r, r < R → ∃ K len, rgR B r K len) (h3 : S.2.1 3 = B.1) (h5 : S.2.1 5 = B.2.1) (h6 : S.2.1 6 = B.2.2) (h10 : S.2.1 20 10 = nI Sa) (hSa : Sa ≤ 4) (ht : t < 8) (hp : S.2.1 20 (80 + 2 * t) = nI p) (hp1 : 1 ≤ p) (hp2 : p ≤ 5000) (hpc : ∀ s, s < Sa → ∃ a, a ≤ 90 ∧ S.2.1 20 (110 + 3 * s) = nI a) : ∃ S', d_198 g (rI q) (nI t) (nI d) (nI l) S = some (nI (dn B (S.2.1 20) q t d l), S') ∧ rc [18] [] S S' ∧ 1 ≤ dn B (S.2.1 20) q t d l ∧ dn B (S.2.1 20) q t d l ≤ 9999 ∧ S'.2.2.2.2 = S.2.2.2.2 := by
  obtain ⟨a, ha, hpa⟩ := pc_b (d := nI d) hpc
  have hN : nN (S.2.1 20 10) = Sa := by rw [h10]; exact k_cl (by omega)
  unfold d_198
  rw [q_195 (by omega) h10 hSa, Option.bind_some]
  match q, hq with
  | 0, hq =>
    have hlt := dn0 hp1 ha
    have hmul : p * a ≤ 5000 * 90 := Nat.mul_le_mul hp2 ha
    have e : dn B (S.2.1 20) 0 t d l = p - p * a / 100 := by
      show nN (S.2.1 20 (80 + 2 * t)) - nN (S.2.1 20 (80 + 2 * t)) * nN (pcL (S.2.1 20) (nI d) (nN (S.2.1 20 10))) / 100 = _
      rw [hN, hpa, hp, n_cl (by omega), n_cl (by omega)]
    rw [e]
    refine ⟨S, ?_, rc.rf _, by omega, by omega, rfl⟩
    rw [rI_0, if_neg (by decide)]
    simp (disch := omega) only [q_192 ht, Option.bind_some, hp, hpa, lit_nI, pk_mul, pk_div, k_sub, k_eqF, not_false_eq_true, if_true, k_leT]
  | r + 1, hq =>
    obtain ⟨K, len, hGr⟩ := hG r (by omega)
    rw [rI_s, if_pos (nI_pos' (by omega))]
    have e : dn B (S.2.1 20) (r + 1) t d l = cl9 (su B.1 B.2.1 r (wdF (S.2.1 20) (pcL (S.2.1 20) (nI d) Sa) t d l) (nN (B.2.2 r)) 0) := by
      unfold dn
      rw [hN]
    rw [e]
    have k1 : ∀ S1 : rS, d_192 g (nI t) S1 = some (S1.2.1 20 (80 + 2 * t), S1) := fun S1 => q_192 ht
    have k2 : ∀ S1 : rS, d_193 g (nI t) S1 = some (S1.2.1 20 (81 + 2 * t), S1) := fun S1 => q_193 ht
    have k3 : ∀ S1 : rS, d_191 g (nI t) (nI 0) S1 = some (S1.2.1 20 (16 + 5 * t + 0), S1) := fun S1 => q_191 ht (by omega)
    have k4 : ∀ S1 : rS, d_191 g (nI t) (nI 2) S1 = some (S1.2.1 20 (18 + 5 * t), S1) := fun S1 => by rw [q_191 ht (by omega), show 16 + 5 * t + 2 = 18 + 5 * t by omega]
    have fin : ∀ S1 : rS, S1.1 = S.1 → S1.2.1 = S.2.1 → S1.2.2.2.2 = S.2.2.2.2 → (∀ j, j < 8 → S1.2.2.2.1 j = wdF (S.2.1 20) (pcL (S.2.1 20) (nI d) Sa) t d l j) → ∃ S', ((d_197 g (nI r) S1).bind (fun z => (if 0 ≤ (lg_cmp z.1 (1 : Int64)) then (if (lg_cmp z.1 (9999 : Int64)) ≤ 0 then some ((z.1.toInt32), z.2) else some ((9999 : Int32), z.2)) else some ((1 : Int32), z.2)))) = some (nI (cl9 (su B.1 B.2.1 r (wdF (S.2.1 20) (pcL (S.2.1 20) (nI d) Sa) t d l) (nN (B.2.2 r)) 0)), S') ∧ rc [18] [] S S' ∧ 1 ≤ cl9 (su B.1 B.2.1 r (wdF (S.2.1 20) (pcL (S.2.1 20) (nI d) Sa) t d l) (nN (B.2.2 r)) 0) ∧ cl9 (su B.1 B.2.1 r (wdF (S.2.1 20) (pcL (S.2.1 20) (nI d) Sa) t d l) (nN (B.2.2 r)) 0) ≤ 9999 ∧ S'.2.2.2.2 = S.2.2.2.2 := by
      intro S1 f1 f2 f3 f4
      obtain ⟨S', z1, z2, z3⟩ := q_197 (g := g) (show r < 6 by omega) hg hGr S1 (by rw [f2]; exact h3) (by rw [f2]; exact h5) (by rw [f2]; exact h6) f4
      rw [z1, Option.bind_some, cl9_R]
      refine ⟨S', rfl, ⟨fun j hj => (z2.1 j hj).trans (by rw [f1]), fun j hj => (z2.2 j hj).trans (by rw [f2])⟩, (cl9_b _).1, (cl9_b _).2, ?_⟩
      rw [← f3]
      exact congrArg Prod.snd z3
    simp (disch := omega) only [k1, k2, k3, k4, Option.bind_some, lit_nI, k_in, k_cl, if_true]
    exact fin _ rfl rfl rfl (by
      intro j hj
      match j, hj with
      | 0, _ => rfl
      | 1, _ => rfl
      | 2, _ => rfl
      | 3, _ => rfl
      | 4, _ => rfl
      | 5, _ => rfl
      | 6, _ => rfl
      | 7, _ => rfl)
end DE
