section YL
variable {g k : Nat} {m0 m : cM} {S0 S : rS} {B : rB} {w w' : Nat → Int32} {q T W C Sa R K : Nat} {x : Int32}
theorem q_l250 {f : Nat → Int32} : ∀ (j i n : Nat) (S : rS), i + j = 80 → j + 1 ≤ n → S.2.1 20 = f → (∀ d, d < i → S.2.1 34 d = f d) → ∃ S', l_250 g n 0 (nI i) S = some S' ∧ rc [] [34] S S' ∧ (∀ d, d < 80 → S'.2.1 34 d = f d) ∧ S'.2.2 = S.2.2 := by
  intro j
  induction j with
  | zero =>
    intro i n S hi hn h20 h1
    obtain ⟨n, rfl⟩ : ∃ n', n = n' + 1 := ⟨n - 1, by omega⟩
    have e : i = 80 := by omega
    subst e
    refine ⟨S, ?_, rc.rf _, h1, rfl⟩
    rw [l_250, if_pos rfl, if_pos (by decide)]
  | succ j ih =>
    intro i n S hi hn h20 h1
    obtain ⟨n, rfl⟩ : ∃ n', n = n' + 1 := ⟨n - 1, by omega⟩
    obtain ⟨S', y1, y2, y3, y4⟩ := ih (i + 1) n (rA S 34 (upd (S.2.1 34) i (f i))) (by omega) (by omega) ((rA_n (by decide)).trans h20) (by
      intro d hd
      rw [rA_s]
      by_cases e : d = i
      · subst e; exact upd_s
      · rw [upd_n e]; exact h1 d (by omega))
    refine ⟨S', ?_, (rc.A (by decide)).tr y2, y3, y4⟩
    rw [l_250]
    simp (disch := omega) only [if_true, lit_nI, k_leF, if_false, k_in, k_cl, h20, nI_add]
    exact y1
theorem q_250 (hg : 2000 ≤ g) : ∃ S', d_250 g S = some S' ∧ rc [] [34] S S' ∧ (∀ d, d < 80 → S'.2.1 34 d = S.2.1 20 d) ∧ S'.2.2 = S.2.2 := by
  unfold d_250
  exact q_l250 80 0 g S (by omega) (by omega) rfl (fun d hd => absurd hd (by omega))
theorem q_l251 {f h : Nat → Int32} : ∀ (j i n : Nat) (S : rS), i + j = 80 → j + 1 ≤ n → S.2.1 34 = f → (∀ d, d < i → S.2.1 20 d = f d) → (∀ d, 80 ≤ d → S.2.1 20 d = h d) → ∃ S', l_251 g n 0 (nI i) S = some S' ∧ rc [] [20] S S' ∧ (∀ d, d < 80 → S'.2.1 20 d = f d) ∧ (∀ d, 80 ≤ d → S'.2.1 20 d = h d) ∧ S'.2.2 = S.2.2 := by
  intro j
  induction j with
  | zero =>
    intro i n S hi hn h34 h1 h2
    obtain ⟨n, rfl⟩ : ∃ n', n = n' + 1 := ⟨n - 1, by omega⟩
    have e : i = 80 := by omega
    subst e
    refine ⟨S, ?_, rc.rf _, h1, h2, rfl⟩
    rw [l_251, if_pos rfl, if_pos (by decide)]
  | succ j ih =>
    intro i n S hi hn h34 h1 h2
    obtain ⟨n, rfl⟩ : ∃ n', n = n' + 1 := ⟨n - 1, by omega⟩
    obtain ⟨S', y1, y2, y3, y4, y5⟩ := ih (i + 1) n (rA S 20 (upd (S.2.1 20) i (f i))) (by omega) (by omega) ((rA_n (by decide)).trans h34) (by
      intro d hd
      rw [rA_s]
      by_cases e : d = i
      · subst e; exact upd_s
      · rw [upd_n e]; exact h1 d (by omega)) (by
      intro d hd
      rw [rA_s, upd_n (by omega)]; exact h2 d hd)
    refine ⟨S', ?_, (rc.A (by decide)).tr y2, y3, y4, y5⟩
    rw [l_251]
    simp (disch := omega) only [if_true, lit_nI, k_leF, if_false, k_in, k_cl, h34, nI_add]
    exact y1
theorem q_251 (hg : 2000 ≤ g) : ∃ S', d_251 g S = some S' ∧ rc [] [20] S S' ∧ (∀ d, d < 80 → S'.2.1 20 d = S.2.1 34 d) ∧ (∀ d, 80 ≤ d → S'.2.1 20 d = S.2.1 20 d) ∧ S'.2.2 = S.2.2 := by
  unfold d_251
  exact q_l251 80 0 g S (by omega) (by omega) rfl (fun d hd => absurd hd (by omega)) (fun _ _ => rfl)
theorem yin {N : Nat} {x1 x1' x3' x6 x4' : Int32} (hg : 2000 ≤ g) (hN : N ≤ 60) (hc : cx m0 B w q x T W C Sa R k) (hx : rx S0 B w q x R) (hT1 : 1 ≤ T) (hk : k ≤ 600) : ∀ (j i n n' : Nat) (m : cM) (S : rS) (w' : Nat → Int32) (ξ : Nat), i + j = N → j ≤ n → j ≤ n' → YR m0 S0 w T (k + i) m S w' ξ → ∃ m1 S1 w1 ξ1, l_37 g n 1 x1 (nI N) (nI T) (lN ξ) x6 (nI i) m = l_37 g (n - j) 1 x1 (nI N) (nI T) (lN ξ1) x6 (nI N) m1 ∧ l_269 g n' 1 x1' (nI N) x3' x4' (nI i) S = l_269 g (n' - j) 1 x1' (nI N) x3' x4' (nI N) S1 ∧ YR m0 S0 w T (k + N) m1 S1 w1 ξ1 := by
  have hT8 := hc.2.1.1.2
  intro j
  induction j with
  | zero =>
    intro i n n' m S w' ξ hi hn hn' h
    have e : i = N := by omega
    subst e
    exact ⟨m, S, w', ξ, rfl, rfl, h⟩
  | succ j ih =>
    intro i n n' m S w' ξ hi hn hn' h
    obtain ⟨n, rfl⟩ : ∃ q, n = q + 1 := ⟨n - 1, by omega⟩
    obtain ⟨n', rfl⟩ : ∃ q, n' = q + 1 := ⟨n' - 1, by omega⟩
    have h9 := h.2.2.2.2.2.2.2.2.1
    have h10 := h.2.2.2.2.2.2.2.2.2.1
    obtain ⟨m1, S1, w1, y1, y2, y3⟩ := yday (g := g) (t := drT ξ T) (M := drM ξ) drT_b (drM_b ξ) (q_267 h9 h10 hT8) hg hc hx hT1 (by omega) h
    obtain ⟨m2, S2, w2, ξ2, z1, z2, z3⟩ := ih (i + 1) n n' m1 (rA S1 20 (upd (S1.2.1 20) 7 (S1.2.1 20 7 + nI 1))) w1 (drM ξ) (by omega) (by omega) (by omega) y3
    refine ⟨m2, S2, w2, ξ2, ?_, ?_, z3⟩
    · have d1 := dr_I (n := ξ) (T := T) h10 hT8
      have d2 := drX_N h10
      unfold drX at d1 d2
      have c3 : ¬ (nI (T + 1)).toInt64 = 0 := by
        rw [nI_l (by omega)]
        intro z
        have := (pk_lEQ (a := T + 1) (b := 0) (by omega) (by omega)).mp z
        omega
      rw [l_37, if_neg (by decide), if_pos rfl, if_neg (nI_ge (by omega) (by omega)), show nI T + 1 = nI (T + 1) from nI_1 T, if_pos c3, d1, y1, Option.bind_some, d2, show nI i + 1 = nI (i + 1) from nI_1 i, z1, show n + 1 - (j + 1) = n - j by omega]
    · have e7 : aIn (7 : Int32) 181 = true := by decide
      rw [l_269, if_neg (by decide), if_pos rfl, if_neg (nI_ge (by omega) (by omega)), y2, Option.bind_some, if_pos e7, if_pos e7, show (7 : Int32).toNatClampNeg = 7 from rfl, show nI i + 1 = nI (i + 1) from nI_1 i]
      rw [show n' + 1 - (j + 1) = n' - j by omega, ← z2]
      rfl
set_option maxHeartbeats 1000000 in
theorem yout {N Mm : Nat} {x3' : Int32} (hg : 2000 ≤ g) (hN : N ≤ 60) (hM : Mm ≤ 10) (hc : cx m0 B w q x T W C Sa R k) (hx : rx S0 B w q x R) (hT1 : 1 ≤ T) (hk : k ≤ 600) : ∀ (j i n n' : Nat) (m : cM) (S : rS) (ξ : Nat), i + j = Mm → 62 * j + 1 ≤ n → 62 * j + 2 ≤ n' → ms m0 m → rs S0 S → m.1 71 18 = S.1 41 → m.1 71 19 = S.1 42 → S.2.2.2.2 = lN ξ → ξ < 2147483648 → (∀ d, d < 80 → S.2.1 34 d = w d) → ∃ m1 S1, l_37 g n 0 (nI Mm) (nI N) (nI T) (lN ξ) (nI i) 0 m = some m1 ∧ l_269 g n' 0 (nI Mm) (nI N) x3' (nI i) 0 S = some ((if ¬ x3' = 0 then m1.1 71 19 else m1.1 71 18), S1) ∧ ms m0 m1 ∧ rs S0 S1 := by
  have hV := hc.2.1
  have hT8 := hV.1.2
  have hC5 := hV.2.2.1.2
  intro j
  induction j with
  | zero =>
    intro i n n' m S ξ hi hn hn' h1 h2 h3 h4 h5 h6 h7
    obtain ⟨n, rfl⟩ : ∃ q, n = q + 1 := ⟨n - 1, by omega⟩
    obtain ⟨n', rfl⟩ : ∃ q, n' = q + 2 := ⟨n' - 2, by omega⟩
    have e : i = Mm := by omega
    subst e
    refine ⟨m, S, ?_, ?_, h1, h2⟩
    · rw [l_37, if_pos rfl, if_pos (Int32.le_refl _)]
    · rw [l_269, if_pos rfl, if_pos (Int32.le_refl _), l_269, if_neg (by decide), if_neg (by decide), if_pos rfl, h3, h4]
      by_cases h0 : x3' = 0
      · rw [if_neg (fun z => z h0), if_neg (fun z => z h0)]
      · rw [if_pos h0, if_pos h0]
  | succ j ih =>
    intro i n n' m S ξ hi hn hn' h1 h2 h3 h4 h5 h6 h7
    obtain ⟨n, rfl⟩ : ∃ q, n = q + 1 := ⟨n - 1, by omega⟩
    obtain ⟨n', rfl⟩ : ∃ q, n' = q + 1 := ⟨n' - 1, by omega⟩
    have hc1 := hc.ms h1
    obtain ⟨m1, y1, y2, y3, y4, y5, y6⟩ := p_72 (g := g) (m := m) (a0 := 81) (a1 := 19) (by decide) (by decide) (by omega)
    have hs1 : stR m1.1 81 w T := hc1.1.2.1.to hc.2.2.1 hT8 hC5 y4 y5 y6
    have hms1 : ms m0 m1 := h1.tr ⟨fun b _ hb => y3 b (by omega), fun j _ => by rw [y3 32 (by omega)], by rw [y2]⟩
    have h20 : S.2.1 20 = w := (h2.2 20 (by decide)).trans hx.1
    have hYR : YR m0 S0 w T (k + 0) m1 S w ξ := by
      obtain ⟨v1, v2, v3, v4, v5, v6⟩ := hc.2.2.1
      refine ⟨hms1, h2.mo (by decide) (by decide), h20, fun _ _ => rfl, ⟨hs1.1.2.2.2.2, fun t ht f hf => hs1.2.1 t ht f (by omega), fun t h8 h9 => (hs1.2.2.2.1 t h8 h9).1⟩, ⟨v1, v4, fun t ht => (v5 t ht).1⟩, by rw [y3 71 (by omega)]; exact h3, by rw [y3 71 (by omega)]; exact h4, h5, h6, h7⟩
    obtain ⟨m2, S2, w2, ξ2, z1, z2, z3⟩ := yin (g := g) (N := N) (x1 := nI Mm) (x1' := nI Mm) (x3' := x3') (x6 := nI i) (x4' := nI i) hg hN hc hx hT1 hk N 0 n n' m1 S w ξ (by omega) (by omega) (by omega) hYR
    obtain ⟨a1, a2, a3, a4, a5, a6, a7, a8, a9, a10, a11⟩ := z3
    obtain ⟨S3, u1, u2, u3, u4, u5⟩ := q_251 (g := g) (S := S2) hg
    have e20 : S3.2.1 20 = w := by
      funext d
      by_cases hd : d < 80
      · rw [u3 d hd]; exact a11 d hd
      · rw [u4 d (by omega), a3]; exact a4 d (by omega)
    have hrs3 : rs S0 S3 := by
      refine ⟨fun d hd => (u2.1 d (by simp)).trans (a2.1 d hd), fun d hd => ?_⟩
      by_cases e : d = 20
      · subst e; rw [e20, hx.1]
      · rw [u2.2 d (by simpa using e)]
        exact a2.2 d (by simp only [List.mem_cons]; intro z; rcases z with z | z; exact e z; exact hd (by simpa using z))
    obtain ⟨n2, hn2⟩ : ∃ q, n - N = q + 1 := ⟨n - N - 1, by omega⟩
    obtain ⟨n2', hn2'⟩ : ∃ q, n' - N = q + 1 := ⟨n' - N - 1, by omega⟩
    obtain ⟨m4, S4, v1, v2, v3, v4⟩ := ih (i + 1) n2 n2' m2 S3 ξ2 (by omega) (by omega) (by omega) a1 hrs3 (by rw [u2.1 41 (by simp)]; exact a7) (by rw [u2.1 42 (by simp)]; exact a8) (by rw [u5]; exact a9) a10 (fun d hd => by rw [u2.2 34 (by decide)]; exact a11 d hd)
    refine ⟨m4, S4, ?_, ?_, v3, v4⟩
    · rw [l_37, if_pos rfl, if_neg (nI_ge (by omega) (by omega)), y1, Option.bind_some]
      have z1' : l_37 g n 1 (nI Mm) (nI N) (nI T) (lN ξ) (nI i) 0 m1 = _ := z1
      rw [z1', hn2, l_37, if_neg (by decide), if_pos rfl, if_pos (Int32.le_refl _), show nI i + 1 = nI (i + 1) from nI_1 i]
      exact v1
    · have e1 : S.2.1 20 (1 : Int32).toNatClampNeg = nI T := by rw [h20]; exact hV.1.1
      rw [l_269, if_pos rfl, if_neg (nI_ge (by omega) (by omega)), if_pos (show aIn (1 : Int32) 181 = true by decide), e1, if_neg (nI_nle (by omega) (by omega))]
      have z2' : l_269 g n' 1 (nI Mm) (nI N) x3' (nI i) 0 S = _ := z2
      rw [z2', hn2', l_269, if_neg (by decide), if_pos rfl, if_pos (Int32.le_refl _), u1, Option.bind_some, show nI i + 1 = nI (i + 1) from nI_1 i]
      exact v2
set_option maxHeartbeats 1000000 in
theorem sp_years (hg : 2000 ≤ g) (hk : k ≤ 600) (h : Inv k m S) (a b c : Int32) : St k (d_134 g a b c m) (d_269 g a b c S) := by
  obtain ⟨-, -, w, q, x, T, W, C, Sa, R, hc, hr, hpa, him⟩ := id h
  have hV := hc.2.1
  have hT8 := hV.1.2
  unfold d_134 d_269
  rw [if_pos hc.cy.1]
  rcases is_op (g := g) hc hr with ⟨e1, e2, -⟩ | ⟨e1, e2⟩
  · rw [if_pos e1, e2]
    exact St.no h rfl rfl
  rw [if_neg e1, e2]
  simp only [Option.bind_some, z10, if_false]
  rw [q_140 (a := 1) (b := 10) (a' := 1) (b' := 10) (by decide) (by decide), Option.bind_some, p_138, Option.bind_some]
  by_cases ha : (1 : Int32) ≤ a ∧ a ≤ 10
  case neg => rw [if_neg ha]; exact St.no h rfl rfl
  obtain ⟨M, hM1, hM2, rfl⟩ := rng (a := 1) (b := 10) (by omega) (by omega) ha
  rw [if_pos ha]
  simp only [z10, if_false]
  rw [q_140 (a := 1) (b := 60) (a' := 1) (b' := 60) (by decide) (by decide), Option.bind_some, p_138, Option.bind_some]
  by_cases hb : (1 : Int32) ≤ b ∧ b ≤ 60
  case neg => rw [if_neg hb]; exact St.no h rfl rfl
  obtain ⟨N, hN1, hN2, rfl⟩ := rng (a := 1) (b := 60) (by omega) (by omega) hb
  rw [if_pos hb]
  simp only [z10, if_false]
  rw [q_140 (a := 0) (b := 1) (a' := 0) (b' := 1) (by decide) (by decide), Option.bind_some]
  by_cases hc2 : (0 : Int32) ≤ c ∧ c ≤ 1
  case neg =>
    rw [if_neg hc2]
    simp only [z00, not_true, if_false]
    refine St.no h (v := -1) ?_ rfl
    by_cases h3 : c < 0
    · rw [if_pos h3]
    · rw [if_neg h3, if_neg (fun q => hc2 ⟨Int32.not_lt.mp h3, q⟩)]
  case pos =>
    obtain ⟨j, -, hj, rfl⟩ := rng (a := 0) (b := 1) (by omega) (by omega) hc2
    have hx0 := hc.2.2.2.2.2.1
    obtain ⟨ξ, hξ1, hξ2⟩ := k_of hx0
    obtain ⟨m1, hm1⟩ : ∃ m1, m1 = cW (cW m 71 18 0) 71 19 0 := ⟨_, rfl⟩
    have hms1 : ms m m1 := by rw [hm1]; exact (ms.W (by omega)).tr (ms.W (by omega))
    have hc1 := hc.ms hms1
    obtain ⟨S1, hS1⟩ : ∃ S1, S1 = rF (rF (rX S ((S.1 22).toInt64)) 41 0) 42 0 := ⟨_, rfl⟩
    have hrs1 : rs S S1 := by
      rw [hS1]
      exact ⟨fun d hd => by
        rw [rF_n (fun e => hd (by rw [e]; decide)), rF_n (fun e => hd (by rw [e]; decide))], fun d hd => rfl⟩
    have hr1 := hr.rs hrs1
    obtain ⟨S2, y1, y2, y3, y4⟩ := q_250 (g := g) (S := S1) hg
    have hrs2 : rs S S2 := hrs1.tr (y2.mo (by decide) (by decide))
    have e41 : S2.1 41 = 0 := by rw [y2.1 41 (by simp), hS1, rF_n (by decide), rF_s]
    have e42 : S2.1 42 = 0 := by rw [y2.1 42 (by simp), hS1, rF_s]
    have ex : S2.2.2.2.2 = lN ξ := by
      rw [y4, hS1]
      show (S.1 22).toInt64 = _
      rw [hr.2.2.1, hξ2, nI_l hξ1]
    have f18 : m1.1 71 18 = 0 := by rw [hm1, cW_k (by decide), cW_s]
    have f19 : m1.1 71 19 = 0 := by rw [hm1, cW_s]
    have e4 := hc1.t
    have e53 : (m1.1 5 3).toInt64 = lN ξ := by
      have : m1.1 5 3 = x := hc1.1.2.2.1.2.1
      rw [this, hξ2, nI_l hξ1]
    rw [if_pos hc2, if_neg (show ¬ nI j < 0 from nI_pos (by omega)), if_pos (show nI j ≤ 1 from nI_le (b := 1) hj (by omega)), if_pos (show ¬ (1 : Int32) = 0 by decide), ← hS1, y1, Option.bind_some]
    unfold d_37
    rw [Option.bind_some, Option.bind_some, ← hm1, if_pos hc1.cy.1, e4]
    by_cases hT0 : T = 0
    · subst hT0
      rw [if_neg (by decide), Option.bind_some, f18, f19]
      obtain ⟨g', hg'⟩ : ∃ q, g = q + 2 := ⟨g - 2, by omega⟩
      have e1 : S2.2.1 20 (1 : Int32).toNatClampNeg = nI 0 := by rw [y2.2 20 (by decide), hr1.1]; exact hV.1.1
      refine St.scr h (v := 0) (m' := m1) (S' := S2) ?_ ?_ hms1 hrs2
      · split <;> rfl
      · rw [hg', l_269, if_pos rfl]
        rw [if_neg (show ¬ nI M ≤ 0 from nI_nle (by omega) (by omega)), if_pos (show aIn (1 : Int32) 181 = true by decide), e1, if_pos (by decide), l_269, if_neg (by decide), if_neg (by decide), if_pos rfl, e41, e42]
        split <;> rfl
    · rw [if_pos (show (1 : Int32) ≤ nI T from nI_le (a := 1) (by omega) (by omega)), e53]
      obtain ⟨m3, S3, z1, z2, z3, z4⟩ := yout (g := g) (N := N) (Mm := M) (x3' := nI j) hg hN2 hM2 hc hr (by omega) hk M 0 g g m1 S2 ξ (by omega) (by omega) (by omega) hms1 hrs2 (by rw [f18, e41]) (by rw [f19, e42]) ex hξ1 (fun d hd => by rw [y3 d hd, hr1.1])
      have z1' : l_37 g g 0 (nI M) (nI N) (nI T) (lN ξ) 0 0 m1 = some m3 := z1
      have z2' : l_269 g g 0 (nI M) (nI N) (nI j) 0 0 S2 = _ := z2
      rw [z1', Option.bind_some, z2']
      refine St.scr h (m' := m3) (S' := S3) (v := if ¬ nI j = 0 then m3.1 71 19 else m3.1 71 18) ?_ rfl z3 z4
      split <;> rfl
end YL
