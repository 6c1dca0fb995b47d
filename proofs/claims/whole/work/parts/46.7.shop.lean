/-! shop: the step -/
section ISH
variable {g k : Nat} {m : cM} {S : rS}
theorem p_l273g {a N : Nat} (ha : a < 406) (hk : kd a = (0, N)) (hN : N ≤ 8) : ∀ (j i n : Nat) (m : cM), i + j = N → j + 1 ≤ n → (∀ d, d < i → m.1 a d = 0) → ∃ m', l_273 g n 0 a 0 (nI i) (nI N) m = some m' ∧ (∀ b, b ≠ a → m'.1 b = m.1 b) ∧ m'.2 = m.2 ∧ (∀ d, d < N → m'.1 a d = 0) := by
  intro j
  induction j with
  | zero =>
    intro i n m hi hn h
    obtain ⟨n, rfl⟩ : ∃ n', n = n' + 1 := ⟨n - 1, by omega⟩
    have e : i = N := by omega
    subst e
    refine ⟨m, ?_, fun _ _ => rfl, rfl, h⟩
    rw [l_273, if_pos rfl, if_pos (Int32.le_refl _)]
  | succ j ih =>
    intro i n m hi hn h
    obtain ⟨n, rfl⟩ : ∃ n', n = n' + 1 := ⟨n - 1, by omega⟩
    obtain ⟨m', y1, y2, y3, y4⟩ := ih (i + 1) n (cW m a i 0) (by omega) (by omega) (by
      intro d hd
      by_cases e : d = i
      · subst e; exact cW_s
      · rw [cW_k e]; exact h d (by omega))
    refine ⟨m', ?_, fun b hb => (y2 b hb).trans (cW_b hb), y3, y4⟩
    rw [l_273, if_pos rfl, if_neg (nI_ge (by omega) (by omega)), if_pos (cA_of (by omega) hk (by omega) (by omega)), Option.bind_some, k_cl (by omega), show nI i + 1 = nI (i + 1) from nI_1 i]
    exact y1
theorem p_273g {a N : Nat} (hg : 100 ≤ g) (ha : a < 406) (hk : kd a = (0, N)) (hN : N ≤ 8) : ∃ m', d_273 g a 0 m = some m' ∧ (∀ b, b ≠ a → m'.1 b = m.1 b) ∧ m'.2 = m.2 ∧ (∀ d, d < N → m'.1 a d = 0) := by
  unfold d_273
  have hE : cE m a = true := by
    unfold cE
    rw [hk]
    simp
    omega
  rw [if_pos hE, hk]
  exact p_l273g ha hk hN N 0 g m (by omega) (by omega) (fun d hd => absurd hd (by omega))
/-- State.begin -/
theorem p_71 {p : Nat} (hg : 100 ≤ g) (hp : 406 ≤ p) (hO : cO m p 5 = true) : ∃ m', d_71 g p m = some m' ∧ m'.2 = m.2 ∧ (∀ b, ¬ (19 ≤ b ∧ b ≤ 25) → m'.1 b = m.1 b) ∧ (∀ t, t < 8 → m'.1 20 t = 0 ∧ m'.1 21 t = m.1 (p + 3) t ∧ m'.1 22 t = 0 ∧ m'.1 23 t = 0 ∧ m'.1 24 t = 0 ∧ m'.1 25 t = 0) ∧ (∀ j, 8 ≤ j → j ≤ 13 → m'.1 19 j = 0) := by
  obtain ⟨m1, a1, a2, a3, a4⟩ := p_273g (g := g) (m := m) (a := 20) (N := 8) hg (by omega) kk_20 (by omega)
  obtain ⟨m2, hm2⟩ : ∃ m2, m2 = cY m1 (p + 3) 0 21 0 8 := ⟨_, rfl⟩
  obtain ⟨m3, b1, b2, b3, b4⟩ := p_273g (g := g) (m := m2) (a := 22) (N := 8) hg (by omega) kk_22 (by omega)
  obtain ⟨m4, c1, c2, c3, c4⟩ := p_273g (g := g) (m := m3) (a := 23) (N := 8) hg (by omega) kk_23 (by omega)
  obtain ⟨m5, d1, d2, d3, d4⟩ := p_273g (g := g) (m := m4) (a := 24) (N := 8) hg (by omega) kk_24 (by omega)
  obtain ⟨m6, e1, e2, e3, e4⟩ := p_273g (g := g) (m := m5) (a := 25) (N := 8) hg (by omega) kk_25 (by omega)
  have hO1 : cO m1 p 5 = true := (cO_2 a3).trans hO
  have f2 : m2.2 = m1.2 := by rw [hm2]; rfl
  obtain ⟨m7, hm7⟩ : ∃ m7, m7 = cW (cW (cW (cW (cW (cW m6 19 8 0) 19 9 0) 19 10 0) 19 11 0) 19 12 0) 19 13 0 := ⟨_, rfl⟩
  have f7 : ∀ b, b ≠ 19 → m7.1 b = m6.1 b := fun b hb => by rw [hm7, cW_b hb, cW_b hb, cW_b hb, cW_b hb, cW_b hb, cW_b hb]
  refine ⟨m7, ?_, ?_, fun b hb => ?_, fun t ht => ⟨?_, ?_, ?_, ?_, ?_, ?_⟩, fun j j1 j2 => ?_⟩
  · unfold d_71
    rw [a1, Option.bind_some, if_pos hO1, Option.bind_some, show cY m1 (p + 3) (0 : Int32).toNatClampNeg 21 (0 : Int32).toNatClampNeg (8 : Int32).toNatClampNeg = m2 from hm2.symm, b1, Option.bind_some, c1, Option.bind_some, d1, Option.bind_some, e1, Option.bind_some, hm7]
    rfl
  · rw [hm7]
    exact e3.trans (d3.trans (c3.trans (b3.trans (f2.trans a3))))
  · rw [f7 b (by omega), e2 b (by omega), d2 b (by omega), c2 b (by omega), b2 b (by omega), hm2, cY_b (by omega), a2 b (by omega)]
  · rw [f7 20 (by decide), e2 20 (by decide), d2 20 (by decide), c2 20 (by decide), b2 20 (by decide), hm2, cY_b (by decide)]; exact a4 t ht
  · rw [f7 21 (by decide), e2 21 (by decide), d2 21 (by decide), c2 21 (by decide), b2 21 (by decide), hm2, cY_in ht, a2 _ (by omega)]
  · rw [f7 22 (by decide), e2 22 (by decide), d2 22 (by decide), c2 22 (by decide)]; exact b4 t ht
  · rw [f7 23 (by decide), e2 23 (by decide), d2 23 (by decide)]; exact c4 t ht
  · rw [f7 24 (by decide), e2 24 (by decide)]; exact d4 t ht
  · rw [f7 25 (by decide)]; exact e4 t ht
  · rw [hm7]
    have hj : j = 8 ∨ j = 9 ∨ j = 10 ∨ j = 11 ∨ j = 12 ∨ j = 13 := by omega
    rcases hj with e | e | e | e | e | e
    · subst e; rw [cW_k (by decide), cW_k (by decide), cW_k (by decide), cW_k (by decide), cW_k (by decide), cW_s]
    · subst e; rw [cW_k (by decide), cW_k (by decide), cW_k (by decide), cW_k (by decide), cW_s]
    · subst e; rw [cW_k (by decide), cW_k (by decide), cW_k (by decide), cW_s]
    · subst e; rw [cW_k (by decide), cW_k (by decide), cW_s]
    · subst e; rw [cW_k (by decide), cW_s]
    · subst e; rw [cW_s]
/-- the reference clears its row -/
theorem q_l181a : ∀ (j i N : Nat) (S : rS), i + j = 80 → j + 1 ≤ N → (∀ d, d < i → S.2.1 7 d = 0) → ∃ S', l_181 g N 0 (nI i) 0 0 S = (d_179 g S').bind (fun z_2 => if ¬ z_2.1 = 0 then l_181 g (N - (j + 1)) 1 0 0 0 z_2.2 else some (-2 - z_2.2.1 9, z_2.2)) ∧ rc [] [7] S S' ∧ (∀ d, d < 80 → S'.2.1 7 d = 0) := by
  intro j
  induction j with
  | zero =>
    intro i N S hi hN h
    obtain ⟨N, rfl⟩ : ∃ q, N = q + 1 := ⟨N - 1, by omega⟩
    have e : i = 80 := by omega
    subst e
    refine ⟨S, ?_, rc.rf _, h⟩
    rw [l_181, if_pos rfl, if_pos (show (80 : Int32) ≤ nI 80 from Int32.le_refl _)]
    rfl
  | succ j ih =>
    intro i N S hi hN h
    obtain ⟨N, rfl⟩ : ∃ q, N = q + 1 := ⟨N - 1, by omega⟩
    obtain ⟨S', y1, y2, y3⟩ := ih (i + 1) N (rA S 7 (upd (S.2.1 7) i 0)) (by omega) (by omega) (by
      intro d hd
      rw [rA_s]
      by_cases e : d = i
      · subst e; exact upd_s
      · rw [upd_n e]; exact h d (by omega))
    refine ⟨S', ?_, (rc.A (by decide)).tr y2, y3⟩
    rw [show N + 1 - (j + 1 + 1) = N - (j + 1) by omega, ← y1, l_181, if_pos rfl, if_neg (show ¬ (80 : Int32) ≤ nI i from nI_ge (b := 80) (by omega) (by omega)), if_pos (k_in (show i < 140 by omega) (by omega)), k_cl (show i < 2147483648 by omega), show nI i + 1 = nI (i + 1) from nI_1 i]
/-- the reference takes the row over -/
theorem q_l181b {u : Nat → Int32} : ∀ (j i N : Nat) (S : rS), i + j = 181 → 2 * j + 1 ≤ N → S.2.1 7 = u → (∀ d, d < i → S.2.1 20 d = if d < 140 then u d else 0) → ∃ S', l_181 g N 1 (nI i) 0 0 S = some (S'.2.1 20 1, S') ∧ rc [27] [20] S S' ∧ S'.1 27 = 0 ∧ (∀ d, d < 181 → S'.2.1 20 d = if d < 140 then u d else 0) := by
  intro j
  induction j with
  | zero =>
    intro i N S hi hN hu h
    obtain ⟨N, rfl⟩ : ∃ q, N = q + 1 := ⟨N - 1, by omega⟩
    have e : i = 181 := by omega
    subst e
    refine ⟨rF S 27 0, ?_, rc.F (by decide), rF_s, h⟩
    rw [l_181, if_neg (by decide), if_pos rfl, if_pos (show (181 : Int32) ≤ nI 181 from Int32.le_refl _), if_pos (show aIn (1 : Int32) 181 = true by decide)]
    rfl
  | succ j ih =>
    intro i N S hi hN hu h
    obtain ⟨N, rfl⟩ : ∃ q, N = q + 2 := ⟨N - 2, by omega⟩
    have t2 : ∀ s0 : Int32, l_181 g (N + 1) 2 (nI i) s0 (nI i) S = l_181 g N 1 (nI (i + 1)) 0 0 (rA S 20 (upd (S.2.1 20) i s0)) := fun s0 => by
      rw [l_181, if_neg (by decide), if_neg (by decide), if_pos rfl, if_pos (k_in (show i < 181 by omega) (by omega)), k_cl (show i < 2147483648 by omega), show nI i + 1 = nI (i + 1) from nI_1 i]
    have fin : ∀ s0 : Int32, s0 = (if i < 140 then u i else 0) → ∃ S', l_181 g (N + 1) 2 (nI i) s0 (nI i) S = some (S'.2.1 20 1, S') ∧ rc [27] [20] S S' ∧ S'.1 27 = 0 ∧ (∀ d, d < 181 → S'.2.1 20 d = if d < 140 then u d else 0) := fun s0 hs0 => by
      obtain ⟨S', y1, y2, y3, y4⟩ := ih (i + 1) N (rA S 20 (upd (S.2.1 20) i s0)) (by omega) (by omega) (by rw [rA_n (by decide)]; exact hu) (by
        intro d hd
        rw [rA_s]
        by_cases e : d = i
        · subst e; rw [upd_s]; exact hs0
        · rw [upd_n e]; exact h d (by omega))
      exact ⟨S', by rw [t2]; exact y1, (rc.A (by decide)).tr y2, y3, y4⟩
    rw [l_181, if_neg (by decide), if_pos rfl, if_neg (show ¬ (181 : Int32) ≤ nI i from nI_ge (b := 181) (by omega) (by omega))]
    by_cases h14 : i < 140
    · rw [if_neg (show ¬ (140 : Int32) ≤ nI i from nI_ge (b := 140) h14 (by omega)), if_pos (k_in (show i < 140 by omega) (by omega)), k_cl (show i < 2147483648 by omega), hu]
      exact fin _ (by rw [if_pos h14])
    · rw [if_pos (show (140 : Int32) ≤ nI i from nI_le (a := 140) (by omega) (by omega))]
      exact fin _ (by rw [if_neg h14])
end ISH
