/-! READERS: the class's next token -/
def c1 (m m' : cM) : Prop := (∀ b, b ≠ 1 → m'.1 b = m.1 b) ∧ m'.2 = m.2
theorem c1.rf (m : cM) : c1 m m := ⟨fun _ _ => rfl, rfl⟩
theorem c1.tr {m m1 m2 : cM} (h : c1 m m1) (k : c1 m1 m2) : c1 m m2 := ⟨fun b hb => (k.1 b hb).trans (h.1 b hb), k.2.trans h.2⟩
theorem c1.W {m : cM} {k : Nat} {v : Int32} : c1 m (cW m 1 k v) := ⟨fun _ hb => cW_b hb, rfl⟩
def tp (m : cM) (f : Nat → Int32) (n : Nat) : Prop := m.1 1 1 = nI n ∧ n ≤ 400 ∧ ∀ i, i < n → m.1 2 i = f i
section NC
variable {g : Nat} {f : Nat → Int32} {n : Nat}
theorem tp.co {m m' : cM} (h : tp m f n) (k : c1 m m') (e : m'.1 1 1 = m.1 1 1) : tp m' f n := ⟨e.trans h.1, h.2.1, by rw [k.1 2 (by decide)]; exact h.2.2⟩
theorem p_l84a : ∀ (d p N : Nat) (m : cM), p + d = n → d + 1 ≤ N → tp m f n → m.1 1 2 = nI p → ∃ m' N', l_84 g N 0 m = l_84 g N' 1 m' ∧ N ≤ N' + d + 1 ∧ c1 m m' ∧ m'.1 1 2 = nI (bl f n p) ∧ (∀ k, k ≠ 2 → m'.1 1 k = m.1 1 k) := by
  intro d
  induction d with
  | zero =>
    intro p N m hp hN ht h2
    obtain ⟨N, rfl⟩ : ∃ q, N = q + 1 := ⟨N - 1, by omega⟩
    have hn := ht.2.1
    refine ⟨m, N, ?_, by omega, c1.rf _, ?_, fun _ _ => rfl⟩
    · rw [l_84, if_pos rfl, ht.1, h2, if_pos (nI_le (by omega) (by omega))]
    · rw [h2]; unfold bl; rw [sc_stop (Or.inl (by omega))]
  | succ d ih =>
    intro p N m hp hN ht h2
    obtain ⟨N, rfl⟩ : ∃ q, N = q + 1 := ⟨N - 1, by omega⟩
    have hn := ht.2.1
    have e := ht.2.2 p (by omega)
    rw [l_84, if_pos rfl, ht.1, h2, if_neg (nI_ge (by omega) (by omega)), if_pos (k_in (show p < 400 by omega) (by omega)), k_cl (show p < 2147483648 by omega), e]
    by_cases hb : f p = 32
    · rw [if_neg (fun z => z hb), Option.bind_some, show nI p + 1 = nI (p + 1) from nI_1 p]
      obtain ⟨m', N', y1, y2, y3, y4, y5⟩ := ih (p + 1) N (cW m 1 2 (nI (p + 1))) (by omega) (by omega) (ht.co c1.W (cW_k (by decide))) cW_s
      refine ⟨m', N', y1, by omega, c1.W.tr y3, ?_, fun k hk => (y5 k hk).trans (cW_k hk)⟩
      rw [y4]; unfold bl
      rw [← sc_step (show p < n by omega) (show isB f p = true from decide_eq_true hb)]
    · rw [if_pos hb]
      refine ⟨m, N, rfl, by omega, c1.rf _, ?_, fun _ _ => rfl⟩
      rw [h2]; unfold bl; rw [sc_stop (Or.inr (decide_eq_false hb))]
theorem p_l85 {a : Nat} : ∀ (d i N : Nat) (m : cM), a + i + d = n → 2 * d + 1 ≤ N → tp m f n → m.1 1 2 = nI (a + i) → m.1 1 4 = nI a → a + i ≤ sc (isDg f) n a → m.1 1 5 = nI (if i ≤ 5 then dv f a i else 100000) → ∃ m', l_85 g N 0 0 m = some m' ∧ c1 m m' ∧ m'.1 1 2 = nI (sc (isDg f) n a) ∧ m'.1 1 5 = nI (num f n a) ∧ (∀ k, k ≠ 2 → k ≠ 5 → m'.1 1 k = m.1 1 k) := by
  intro d
  induction d with
  | zero =>
    intro i N m hp hN ht h2 h4 hs h5
    obtain ⟨N, rfl⟩ : ∃ q, N = q + 1 := ⟨N - 1, by omega⟩
    have hn := ht.2.1
    have hle : sc (isDg f) n a ≤ n := sc_le (by omega)
    have e : sc (isDg f) n a = a + i := by omega
    refine ⟨m, ?_, c1.rf _, by rw [h2, e], ?_, fun _ _ _ => rfl⟩
    · rw [l_85, if_pos rfl, ht.1, h2, if_pos (nI_le (by omega) (by omega))]
    · rw [h5]; unfold num; rw [e, Nat.add_sub_cancel_left]
  | succ d ih =>
    intro i N m hp hN ht h2 h4 hs h5
    obtain ⟨N, rfl⟩ : ∃ q, N = q + 2 := ⟨N - 2, by omega⟩
    have hn := ht.2.1
    have e := ht.2.2 (a + i) (by omega)
    by_cases hd : isDg f (a + i) = true
    · obtain ⟨c, c1', c2'⟩ := isDg_of hd
      have hlt : a + i < sc (isDg f) n a := by
        by_cases z : a + i = sc (isDg f) n a
        · have := sc_end (P := isDg f) (n := n) (p := a) (by omega) (by omega)
          rw [← z, hd] at this
          cases this
        · omega
      have step : ∀ s0 : Int32, l_85 g (N + 1) 1 s0 m = l_85 g N 0 0 (cW (cW m 1 5 s0) 1 2 (nI (a + (i + 1)))) := fun s0 => by
        rw [l_85, if_neg (by decide), if_pos rfl, Option.bind_some, cW_k (by decide), h2, show nI (a + i) + 1 = nI (a + (i + 1)) from nI_1 (a + i), Option.bind_some]
      have fin : ∀ s0 : Int32, s0 = nI (if i + 1 ≤ 5 then dv f a (i + 1) else 100000) → ∃ m', l_85 g (N + 1) 1 s0 m = some m' ∧ c1 m m' ∧ m'.1 1 2 = nI (sc (isDg f) n a) ∧ m'.1 1 5 = nI (num f n a) ∧ (∀ k, k ≠ 2 → k ≠ 5 → m'.1 1 k = m.1 1 k) := fun s0 hs0 => by
        obtain ⟨m', y1, y2, y3, y4, y5⟩ := ih (i + 1) N (cW (cW m 1 5 s0) 1 2 (nI (a + (i + 1)))) (by omega) (by omega) (ht.co (c1.W.tr c1.W) (by rw [cW_k (by decide), cW_k (by decide)])) cW_s (by rw [cW_k (by decide), cW_k (by decide)]; exact h4) (by omega) (by rw [cW_k (by decide), cW_s]; exact hs0)
        exact ⟨m', by rw [step]; exact y1, (c1.W.tr c1.W).tr y2, y3, y4, fun k k1 k2 => by rw [y5 k k1 k2, cW_k k1, cW_k k2]⟩
      have hb : isDg f (a + i) = true := hd
      unfold isDg at hb
      rw [Bool.and_eq_true] at hb
      rw [l_85, if_pos rfl, ht.1, h2, if_neg (nI_ge (by omega) (by omega)), if_pos (k_in (show a + i < 400 by omega) (by omega)), k_cl (show a + i < 2147483648 by omega), e, if_neg (Int32.not_lt.mpr (of_decide_eq_true hb.1)), if_pos (k_in (show a + i < 400 by omega) (by omega)), if_neg (Int32.not_lt.mpr (of_decide_eq_true hb.2)), h4, k_sub (show a ≤ a + i by omega), Nat.add_sub_cancel_left]
      by_cases h6 : 5 ≤ i
      · rw [if_pos (show (5 : Int32) ≤ nI i from nI_le (a := 5) h6 (by omega))]
        exact fin _ (by rw [if_neg (by omega)]; rfl)
      · rw [if_neg (show ¬ (5 : Int32) ≤ nI i from nI_ge (b := 5) (by omega) (by omega)), if_pos (k_in (show a + i < 400 by omega) (by omega)), h5, if_pos (show i ≤ 5 by omega)]
        refine fin _ ?_
        rw [if_pos (show i + 1 ≤ 5 by omega), c2']
        show nI (dv f a i) * nI 10 + nI (48 + c) - nI 48 = nI (10 * dv f a i + (nN (f (a + i)) - 48))
        rw [pk_mul, nI_add, k_sub (by omega), c2', n_cl (by omega)]
        congr 1
        omega
    · have hF : isDg f (a + i) = false := by simpa using hd
      have e1 : sc (isDg f) n a = a + i := by
        by_cases z : a + i < sc (isDg f) n a
        · have := sc_in (P := isDg f) (n := n) (p := a) (i := a + i) (by omega) z
          rw [hF] at this; cases this
        · omega
      refine ⟨m, ?_, c1.rf _, by rw [h2, e1], ?_, fun _ _ _ => rfl⟩
      · rw [l_85, if_pos rfl, ht.1, h2, if_neg (nI_ge (by omega) (by omega)), if_pos (k_in (show a + i < 400 by omega) (by omega)), k_cl (show a + i < 2147483648 by omega), e]
        rcases isDg_F hF with h | h
        · rw [if_pos h]
        · by_cases h3 : f (a + i) < 48
          · rw [if_pos h3]
          · rw [if_neg h3, if_pos (k_in (show a + i < 400 by omega) (by omega)), if_pos h]
      · rw [h5]; unfold num; rw [e1, Nat.add_sub_cancel_left]
theorem p_l86a {a : Nat} : ∀ (d p N : Nat) (m : cM), p + d = n → d + 1 ≤ N → tp m f n → m.1 1 2 = nI p → ∃ m' N', l_86 g N 0 0 0 0 0 m = l_86 g N' 1 0 0 0 0 m' ∧ N ≤ N' + d + 1 ∧ c1 m m' ∧ m'.1 1 2 = nI (sc (isLt f) n p) ∧ (∀ k, k ≠ 2 → m'.1 1 k = m.1 1 k) := by
  intro d
  induction d with
  | zero =>
    intro p N m hp hN ht h2
    obtain ⟨N, rfl⟩ : ∃ q, N = q + 1 := ⟨N - 1, by omega⟩
    have hn := ht.2.1
    refine ⟨m, N, ?_, by omega, c1.rf _, ?_, fun _ _ => rfl⟩
    · rw [l_86, if_pos rfl, ht.1, h2, if_pos (nI_le (by omega) (by omega))]
    · rw [h2, sc_stop (Or.inl (by omega))]
  | succ d ih =>
    intro p N m hp hN ht h2
    obtain ⟨N, rfl⟩ : ∃ q, N = q + 1 := ⟨N - 1, by omega⟩
    have hn := ht.2.1
    have e := ht.2.2 p (by omega)
    rw [l_86, if_pos rfl, ht.1, h2, if_neg (nI_ge (by omega) (by omega)), if_pos (k_in (show p < 400 by omega) (by omega)), k_cl (show p < 2147483648 by omega), e]
    by_cases hb : isLt f p = true
    · have hb' := hb
      unfold isLt at hb
      rw [Bool.and_eq_true] at hb
      rw [if_neg (Int32.not_lt.mpr (of_decide_eq_true hb.1)), if_pos (k_in (show p < 400 by omega) (by omega)), if_neg (Int32.not_lt.mpr (of_decide_eq_true hb.2)), Option.bind_some, show nI p + 1 = nI (p + 1) from nI_1 p]
      obtain ⟨m', N', y1, y2, y3, y4, y5⟩ := ih (p + 1) N (cW m 1 2 (nI (p + 1))) (by omega) (by omega) (ht.co c1.W (cW_k (by decide))) cW_s
      refine ⟨m', N', y1, by omega, c1.W.tr y3, ?_, fun k hk => (y5 k hk).trans (cW_k hk)⟩
      rw [y4, ← sc_step (show p < n by omega) hb']
    · have hF : isLt f p = false := by simpa using hb
      refine ⟨m, N, ?_, by omega, c1.rf _, by rw [h2, sc_stop (Or.inr hF)], fun _ _ => rfl⟩
      rcases isLt_F hF with h | h
      · rw [if_pos h]
      · by_cases h3 : f p < 97
        · rw [if_pos h3]
        · rw [if_neg h3, if_pos (k_in (show p < 400 by omega) (by omega)), if_pos h]
theorem p_l86c {m : cM} {a L j : Nat} (ht : tp m f n) (h4 : m.1 1 4 = nI a) (hj : j < 20) (hL : L ≤ 7) (haL : a + L ≤ n) : ∀ (d i N : Nat), i + d = L → d + 1 ≤ N → (∀ i', i' < i → aTxt (8 * j + i') = f (a + i')) → ∃ s N', l_86 g N 3 (nI L) (nI j) (nI (8 * j)) (nI i) m = l_86 g N' 4 (nI L) (nI j) (nI (8 * j)) (nI s) m ∧ N ≤ N' + d + 1 ∧ s ≤ L ∧ (∀ i', i' < s → aTxt (8 * j + i') = f (a + i')) ∧ (s < L → aTxt (8 * j + s) ≠ f (a + s)) := by
  have hn := ht.2.1
  intro d
  induction d with
  | zero =>
    intro i N hi hN h
    obtain ⟨N, rfl⟩ : ∃ q, N = q + 1 := ⟨N - 1, by omega⟩
    refine ⟨i, N, ?_, by omega, by omega, h, fun z => absurd z (by omega)⟩
    rw [l_86, if_neg (by decide), if_neg (by decide), if_neg (by decide), if_pos rfl, if_pos (nI_le (by omega) (by omega))]
  | succ d ih =>
    intro i N hi hN h
    obtain ⟨N, rfl⟩ : ∃ q, N = q + 1 := ⟨N - 1, by omega⟩
    have e := ht.2.2 (a + i) (by omega)
    rw [l_86, if_neg (by decide), if_neg (by decide), if_neg (by decide), if_pos rfl, if_neg (nI_ge (by omega) (by omega)), show nI (8 * j) + nI i = nI (8 * j + i) from nI_add _ _, if_pos (k_in (show 8 * j + i < 160 by omega) (by omega)), h4, show nI a + nI i = nI (a + i) from nI_add _ _, if_pos (k_in (show a + i < 400 by omega) (by omega)), k_cl (show 8 * j + i < 2147483648 by omega), k_cl (show a + i < 2147483648 by omega), e]
    by_cases hc : aTxt (8 * j + i) = f (a + i)
    · rw [if_neg (fun z => z hc), show nI i + 1 = nI (i + 1) from nI_1 i]
      obtain ⟨s, N', y1, y2, y3, y4, y5⟩ := ih (i + 1) N (by omega) (by omega) (fun i' hi' => by
        by_cases z : i' = i
        · rw [z]; exact hc
        · exact h i' (by omega))
      exact ⟨s, N', y1, by omega, y3, y4, y5⟩
    · rw [if_pos hc]
      exact ⟨i, N, rfl, by omega, by omega, h, fun _ => hc⟩
theorem p_l86b {a L : Nat} (hL : L ≤ 7) (haL : a + L ≤ n) (hl : ∀ i, i < L → isLt f (a + i) = true) : ∀ (d j N : Nat) (m : cM), j + d = 20 → d * 11 + 1 ≤ N → tp m f n → m.1 1 4 = nI a → m.1 1 3 = nI (wtk (wv f a L) j) → ∃ m', l_86 g N 2 (nI L) (nI j) 0 0 m = some m' ∧ c1 m m' ∧ m'.1 1 3 = nI (wtk (wv f a L) 20) ∧ (∀ k, k ≠ 3 → m'.1 1 k = m.1 1 k) := by
  intro d
  induction d with
  | zero =>
    intro j N m hj hN ht h4 h3
    obtain ⟨N, rfl⟩ : ∃ q, N = q + 1 := ⟨N - 1, by omega⟩
    have e : j = 20 := by omega
    subst e
    refine ⟨m, ?_, c1.rf _, h3, fun _ _ => rfl⟩
    rw [l_86, if_neg (by decide), if_neg (by decide), if_pos rfl, if_pos (show (20 : Int32) ≤ nI 20 from Int32.le_refl _)]
  | succ d ih =>
    intro j N m hj hN ht h4 h3
    obtain ⟨N, rfl⟩ : ∃ q, N = q + 1 := ⟨N - 1, by omega⟩
    obtain ⟨s, N1, y1, y2, y3, y4, y5⟩ := p_l86c (g := g) (m := m) (L := L) (j := j) ht h4 (by omega) hL haL L 0 N (by omega) (by omega) (fun i' hi' => absurd hi' (by omega))
    obtain ⟨N2, rfl⟩ : ∃ q, N1 = q + 2 := ⟨N1 - 2, by omega⟩
    have e0 : l_86 g (N + 1) 2 (nI L) (nI j) 0 0 m = l_86 g (N2 + 2) 4 (nI L) (nI j) (nI (8 * j)) (nI s) m := by
      rw [← y1, l_86, if_neg (by decide), if_neg (by decide), if_pos rfl, if_neg (show ¬ (20 : Int32) ≤ nI j from nI_ge (b := 20) (by omega) (by omega)), if_neg (show ¬ (8 : Int32) ≤ nI L from nI_ge (b := 8) (by omega) (by omega)), show nI j * 8 = nI (8 * j) from by rw [show (8 : Int32) = nI 8 from rfl, pk_mul, Nat.mul_comm]]
      rfl
    have t5 : ∀ m1 : cM, l_86 g (N2 + 1) 5 (nI L) (nI j) (nI (8 * j)) (nI s) m1 = l_86 g N2 2 (nI L) (nI (j + 1)) 0 0 m1 := fun m1 => by
      rw [l_86, if_neg (by decide), if_neg (by decide), if_neg (by decide), if_neg (by decide), if_neg (by decide), if_pos rfl, show nI j + 1 = nI (j + 1) from nI_1 j]
    have ew : wtk (wv f a L) (j + 1) = if wv f a L = wdC.getD j 0 then j else wtk (wv f a L) j := rfl
    have hw := wm_iff (f := f) (a := a) (L := L) (j := j) (by omega) hL hl
    rw [e0, l_86, if_neg (by decide), if_neg (by decide), if_neg (by decide), if_neg (by decide), if_pos rfl]
    have no : ¬ (wv f a L = wdC.getD j 0) → ∃ m', l_86 g (N2 + 1) 5 (nI L) (nI j) (nI (8 * j)) (nI s) m = some m' ∧ c1 m m' ∧ m'.1 1 3 = nI (wtk (wv f a L) 20) ∧ (∀ k, k ≠ 3 → m'.1 1 k = m.1 1 k) := fun hno => by
      rw [t5]
      exact ih (j + 1) N2 m (by omega) (by omega) ht h4 (by rw [ew, if_neg hno]; exact h3)
    by_cases hs : s = L
    · subst hs
      rw [if_neg (fun z => z rfl), show nI (8 * j) + nI s = nI (8 * j + s) from nI_add _ _, if_pos (k_in (show 8 * j + s < 160 by omega) (by omega)), k_cl (show 8 * j + s < 2147483648 by omega)]
      by_cases h32 : aTxt (8 * j + s) = 32
      · rw [if_neg (fun z => z h32), Option.bind_some, t5]
        obtain ⟨m', z1, z2, z3, z4⟩ := ih (j + 1) N2 (cW m 1 3 (nI j)) (by omega) (by omega) (ht.co c1.W (cW_k (by decide))) (by rw [cW_k (by decide)]; exact h4) (by rw [cW_s, ew, if_pos (hw.mp ⟨y4, h32⟩)])
        exact ⟨m', z1, c1.W.tr z2, z3, fun k hk => (z4 k hk).trans (cW_k hk)⟩
      · rw [if_pos h32]
        exact no (fun z => h32 (hw.mpr z).2)
    · rw [if_pos (show ¬ nI s = nI L from fun z => hs ((nI_eq (by omega) (by omega)).mp z))]
      exact no (fun z => y5 (by omega) ((hw.mpr z).1 s (by omega)))
/-- nextWord -/
theorem p_86 {m : cM} {a : Nat} (hg : 1000 ≤ g) (ht : tp m f n) (ha : a < n) (hl : isLt f a = true) (h2 : m.1 1 2 = nI a) (h4 : m.1 1 4 = nI a) : ∃ m', d_86 g m = some m' ∧ c1 m m' ∧ m'.1 1 2 = nI (sc (isLt f) n a) ∧ m'.1 1 3 = nI (if 8 ≤ sc (isLt f) n a - a then 22 else wtk (wv f a (sc (isLt f) n a - a)) 20) ∧ (∀ k, k ≠ 2 → k ≠ 3 → m'.1 1 k = m.1 1 k) := by
  have hn := ht.2.1
  have hge := sc_ge (P := isLt f) (n := n) (p := a)
  have hle := sc_le (P := isLt f) (n := n) (p := a) (by omega)
  obtain ⟨m1, N1, y1, y2, y3, y4, y5⟩ := p_l86a (g := g) (a := a) (n - a) a g m (by omega) (by omega) ht h2
  obtain ⟨N2, rfl⟩ : ∃ q, N1 = q + 1 := ⟨N1 - 1, by omega⟩
  have h4' : m1.1 1 4 = nI a := (y5 4 (by decide)).trans h4
  have e1 : l_86 g (N2 + 1) 1 0 0 0 0 m1 = l_86 g N2 2 (nI (sc (isLt f) n a - a)) (nI 0) 0 0 (cW m1 1 3 22) := by
    rw [l_86, if_neg (by decide), if_pos rfl, Option.bind_some, cW_k (by decide), cW_k (by decide), y4, h4', k_sub hge]
    rfl
  have ht1 : tp (cW m1 1 3 22) f n := (ht.co y3 (y5 1 (by decide))).co c1.W (cW_k (by decide))
  unfold d_86
  rw [y1, e1]
  by_cases h8 : 8 ≤ sc (isLt f) n a - a
  · refine ⟨cW m1 1 3 22, ?_, y3.tr c1.W, by rw [cW_k (by decide)]; exact y4, by rw [cW_s, if_pos h8]; rfl, fun k k1 k2 => (cW_k k2).trans (y5 k k1)⟩
    obtain ⟨N3, rfl⟩ : ∃ q, N2 = q + 1 := ⟨N2 - 1, by omega⟩
    rw [l_86, if_neg (by decide), if_neg (by decide), if_pos rfl, if_neg (show ¬ (20 : Int32) ≤ nI 0 by decide), if_pos (show (8 : Int32) ≤ nI (sc (isLt f) n a - a) from nI_le (a := 8) h8 (by omega))]
  · obtain ⟨m', z1, z2, z3, z4⟩ := p_l86b (g := g) (f := f) (n := n) (a := a) (L := sc (isLt f) n a - a) (by omega) (by omega) (fun i hi => sc_in (n := n) (p := a) (by omega) (by omega)) 20 0 N2 (cW m1 1 3 22) (by omega) (by omega) ht1 (by rw [cW_k (by decide)]; exact h4') (by rw [cW_s]; rfl)
    refine ⟨m', z1, (y3.tr c1.W).tr z2, ?_, by rw [z3, if_neg h8], fun k k1 k2 => (z4 k k2).trans ((cW_k k2).trans (y5 k k1))⟩
    rw [z4 2 (by decide), cW_k (by decide)]
    exact y4
/-- nextSign -/
theorem p_87 {m : cM} {a : Nat} (ht : tp m f n) (ha : a < n) (h2 : m.1 1 2 = nI a) : ∃ m', d_87 g m = some m' ∧ c1 m m' ∧ m'.1 1 2 = nI (a + (if sgT (f a) (eqA f n a) = 32 ∨ sgT (f a) (eqA f n a) = 34 then 2 else 1)) ∧ m'.1 1 3 = nI (sgT (f a) (eqA f n a)) ∧ (∀ k, k ≠ 2 → k ≠ 3 → m'.1 1 k = m.1 1 k) := by
  have hn := ht.2.1
  have ea := ht.2.2 a ha
  obtain ⟨q, hq⟩ : ∃ q, q = eqA f n a := ⟨_, rfl⟩
  rw [← hq]
  have key : ∀ (s0 : Int32) (t : Nat), t ≤ 35 → ∃ m', j_87_267 g s0 (cW m 1 3 (nI t)) = some m' ∧ c1 m m' ∧ m'.1 1 2 = nI (a + (if t = 32 ∨ t = 34 then 2 else 1)) ∧ m'.1 1 3 = nI t ∧ (∀ k, k ≠ 2 → k ≠ 3 → m'.1 1 k = m.1 1 k) := by
    intro s0 t ht35
    have e2 : (cW m 1 3 (nI t)).1 1 2 = nI a := by rw [cW_k (by decide)]; exact h2
    have e3 : (cW m 1 3 (nI t)).1 1 3 = nI t := cW_s
    refine ⟨cW (cW m 1 3 (nI t)) 1 2 (nI (a + (if t = 32 ∨ t = 34 then 2 else 1))), ?_, c1.W.tr c1.W, cW_s, by rw [cW_k (by decide)]; exact e3, fun k k1 k2 => by rw [cW_k k1, cW_k k2]⟩
    unfold j_87_267 j_87_290 j_87_295
    rw [e2, e3]
    by_cases h32 : t = 32
    · rw [if_pos (show nI t = 32 by rw [h32]; rfl), if_pos (Or.inl h32), show nI a + 2 = nI (a + 2) from nI_add a 2]
      rfl
    · rw [if_neg (show ¬ nI t = 32 from fun z => h32 ((nI_eq (b := 32) (by omega) (by omega)).mp z))]
      by_cases h34 : t = 34
      · rw [if_neg (show ¬ ¬ nI t = 34 from fun z => z (by rw [h34]; rfl)), if_pos (Or.inr h34), show nI a + 2 = nI (a + 2) from nI_add a 2]
        rfl
      · rw [if_pos (show ¬ nI t = 34 from fun z => h34 ((nI_eq (b := 34) (by omega) (by omega)).mp z)), if_neg (by omega), show nI a + 1 = nI (a + 1) from nI_1 a]
        rfl
  have e0 : d_87 g m = j_87_34 g (if q = true then 1 else 0) m := by
    unfold d_87 j_87_33
    rw [ht.1, h2, show nI a + 1 = nI (a + 1) from nI_1 a]
    by_cases h1 : a + 1 < n
    · rw [if_neg (nI_ge h1 (by omega)), if_pos (k_in (show a + 1 < 400 by omega) (by omega)), k_cl (show a + 1 < 2147483648 by omega), ht.2.2 (a + 1) h1]
      by_cases h61 : f (a + 1) = 61
      · rw [if_neg (fun z => z h61), if_pos (by rw [hq]; unfold eqA; rw [decide_eq_true h1, decide_eq_true h61]; rfl)]
      · rw [if_pos h61, if_neg (by rw [hq]; unfold eqA; rw [decide_eq_false h61, Bool.and_false]; decide)]
    · rw [if_pos (nI_le (by omega) (by omega)), if_neg (by rw [hq]; unfold eqA; rw [decide_eq_false h1, Bool.false_and]; decide)]
  rw [e0]
  unfold j_87_34 j_87_228 j_87_255
  rw [h2, if_pos (k_in (show a < 400 by omega) (by omega)), k_cl (show a < 2147483648 by omega), ea]
  unfold sgT
  by_cases x1 : f a = 37
  · simp only [if_pos x1, Option.bind_some]; exact key _ 30 (by omega)
  by_cases x2 : f a = 42
  · simp only [if_neg x1, if_pos x2, Option.bind_some]; exact key _ 28 (by omega)
  by_cases x3 : f a = 43
  · simp only [if_neg x1, if_neg x2, if_pos x3, Option.bind_some]; exact key _ 26 (by omega)
  by_cases x4 : f a = 45
  · simp only [if_neg x1, if_neg x2, if_neg x3, if_pos x4, Option.bind_some]; exact key _ 27 (by omega)
  by_cases x5 : f a = 47
  · simp only [if_neg x1, if_neg x2, if_neg x3, if_neg x4, if_pos x5, Option.bind_some]; exact key _ 29 (by omega)
  by_cases x6 : f a = 59
  · simp only [if_neg x1, if_neg x2, if_neg x3, if_neg x4, if_neg x5, if_pos x6, Option.bind_some]; exact key _ 23 (by omega)
  by_cases x7 : f a = 60
  · simp only [if_neg x1, if_neg x2, if_neg x3, if_neg x4, if_neg x5, if_neg x6, if_pos x7]
    cases q with
    | true => simp only [if_true, show ¬ (1 : Int32) = 0 by decide, if_false, Option.bind_some]; exact key _ 32 (by omega)
    | false => simp only [show ¬ (false = true) by decide, if_false, if_true, Option.bind_some]; exact key 0 31 (by omega)
  by_cases x8 : f a = 61
  · simp only [if_neg x1, if_neg x2, if_neg x3, if_neg x4, if_neg x5, if_neg x6, if_neg x7, if_pos x8, Option.bind_some]; exact key _ 33 (by omega)
  by_cases x9 : f a = 62
  · simp only [if_neg x1, if_neg x2, if_neg x3, if_neg x4, if_neg x5, if_neg x6, if_neg x7, if_neg x8, if_pos x9]
    cases q with
    | true => simp only [if_true, show ¬ (1 : Int32) = 0 by decide, if_false, Option.bind_some]; exact key _ 34 (by omega)
    | false => simp only [show ¬ (false = true) by decide, if_false, if_true, Option.bind_some]; exact key 0 35 (by omega)
  by_cases x10 : f a = 91
  · simp only [if_neg x1, if_neg x2, if_neg x3, if_neg x4, if_neg x5, if_neg x6, if_neg x7, if_neg x8, if_neg x9, if_pos x10, Option.bind_some]; exact key _ 24 (by omega)
  by_cases x11 : f a = 93
  · simp only [if_neg x1, if_neg x2, if_neg x3, if_neg x4, if_neg x5, if_neg x6, if_neg x7, if_neg x8, if_neg x9, if_neg x10, if_pos x11, Option.bind_some]; exact key _ 25 (by omega)
  · simp only [if_neg x1, if_neg x2, if_neg x3, if_neg x4, if_neg x5, if_neg x6, if_neg x7, if_neg x8, if_neg x9, if_neg x10, if_neg x11, Option.bind_some]; exact key _ 22 (by omega)
/-- the class stands at a token -/
def cT (m : cM) (f : Nat → Int32) (n a : Nat) : Prop := m.1 1 2 = nI (tke f n a) ∧ m.1 1 3 = nI (tkn f n a) ∧ m.1 1 4 = nI a ∧ (tkn f n a = 20 → m.1 1 5 = nI (num f n a))
/-- next -/
theorem p_84 {m : cM} {p : Nat} (hg : 1000 ≤ g) (ht : tp m f n) (hp : p ≤ n) (h2 : m.1 1 2 = nI p) : ∃ m', d_84 g m = some m' ∧ c1 m m' ∧ cT m' f n (bl f n p) ∧ (∀ k, k = 1 ∨ k = 6 → m'.1 1 k = m.1 1 k) := by
  have hn := ht.2.1
  have hle : bl f n p ≤ n := sc_le hp
  obtain ⟨m1, N1, y1, y2, y3, y4, y5⟩ := p_l84a (g := g) (n - p) p g m (by omega) (by omega) ht h2
  obtain ⟨N2, rfl⟩ : ∃ q, N1 = q + 3 := ⟨N1 - 3, by omega⟩
  obtain ⟨a, ha⟩ : ∃ a, a = bl f n p := ⟨_, rfl⟩
  rw [← ha] at y4 hle ⊢
  have ht1 := ht.co y3 (y5 1 (by decide))
  have e2 : (cW m1 1 4 (nI a)).1 1 2 = nI a := by rw [cW_k (by decide)]; exact y4
  have e1 : (cW m1 1 4 (nI a)).1 1 1 = nI n := by rw [cW_k (by decide)]; exact ht1.1
  have ht2 : tp (cW m1 1 4 (nI a)) f n := ht1.co c1.W (cW_k (by decide))
  have hc : c1 m (cW m1 1 4 (nI a)) := y3.tr c1.W
  have h16 : ∀ k, k = 1 ∨ k = 6 → (cW m1 1 4 (nI a)).1 1 k = m.1 1 k := fun k hk => by rw [cW_k (by omega), y5 k (by omega)]
  unfold d_84
  rw [y1, l_84, if_neg (by decide), if_pos rfl, y4, Option.bind_some, e2, e1]
  by_cases h0 : a < n
  · have ea := ht2.2.2 a h0
    rw [if_pos (nI_lt h0 (by omega)), if_pos (k_in (show a < 400 by omega) (by omega)), k_cl (show a < 2147483648 by omega), ea, if_pos (k_in (show a < 400 by omega) (by omega))]
    by_cases hd : isDg f a = true
    · have hd' := hd
      unfold isDg at hd
      rw [Bool.and_eq_true] at hd
      have hsc : a ≤ sc (isDg f) n a := sc_ge
      obtain ⟨m', z1, z2, z3, z4, z5⟩ := p_l85 (g := g) (f := f) (n := n) (a := a) (n - a) 0 g (cW (cW (cW m1 1 4 (nI a)) 1 3 20) 1 5 0) (by omega) (by omega) (ht2.co (c1.W.tr c1.W) (by rw [cW_k (by decide), cW_k (by decide)])) (by rw [cW_k (by decide), cW_k (by decide)]; exact e2) (by rw [cW_k (by decide), cW_k (by decide), cW_s]) hsc (by rw [cW_s]; rfl)
      have z1 : d_85 g (cW m1 1 4 (nI a)) = some m' := z1
      rw [if_neg (Int32.not_lt.mpr (of_decide_eq_true hd.1)), if_neg (Int32.not_lt.mpr (of_decide_eq_true hd.2)), z1, Option.bind_some]
      have t20 := (tkn_20 (f := f) (n := n) (a := a)).mpr ⟨h0, hd'⟩
      refine ⟨m', rfl, (hc.tr (c1.W.tr c1.W)).tr z2, ⟨by rw [tke_20 t20]; exact z3, ?_, ?_, fun _ => z4⟩, fun k hk => by rw [z5 k (by omega) (by omega), cW_k (by omega), cW_k (by omega)]; exact h16 k hk⟩
      · rw [z5 3 (by decide) (by decide), cW_k (by decide), cW_s, t20]; rfl
      · rw [z5 4 (by decide) (by decide), cW_k (by decide), cW_k (by decide), cW_s]
    · have hF : isDg f a = false := by simpa using hd
      have e3 : (if f a < 48 then l_84 g (N2 + 2) 2 (cW m1 1 4 (nI a)) else if 57 < f a then l_84 g (N2 + 2) 2 (cW m1 1 4 (nI a)) else (d_85 g (cW m1 1 4 (nI a))).bind (fun z_13 => some z_13)) = l_84 g (N2 + 2) 2 (cW m1 1 4 (nI a)) := by
        rcases isDg_F hF with h | h
        · rw [if_pos h]
        · by_cases h3 : f a < 48
          · rw [if_pos h3]
          · rw [if_neg h3, if_pos h]
      rw [e3, l_84, if_neg (by decide), if_neg (by decide), if_pos rfl, e2, if_pos (k_in (show a < 400 by omega) (by omega)), k_cl (show a < 2147483648 by omega), ea, if_pos (k_in (show a < 400 by omega) (by omega))]
      by_cases hl : isLt f a = true
      · have hl' := hl
        unfold isLt at hl
        rw [Bool.and_eq_true] at hl
        obtain ⟨m', z1, z2, z3, z4, z5⟩ := p_86 (g := g) (m := cW m1 1 4 (nI a)) hg ht2 h0 hl' e2 cW_s
        rw [if_neg (Int32.not_lt.mpr (of_decide_eq_true hl.1)), if_neg (Int32.not_lt.mpr (of_decide_eq_true hl.2)), z1, Option.bind_some]
        refine ⟨m', rfl, hc.tr z2, ⟨?_, ?_, ?_, fun z => ?_⟩, fun k hk => by rw [z5 k (by omega) (by omega)]; exact h16 k hk⟩
        · unfold tke; rw [if_neg (by omega), if_neg hd, if_pos hl']; exact z3
        · unfold tkn; rw [if_neg (by omega), if_neg hd, if_pos hl']; exact z4
        · rw [z5 4 (by decide) (by decide), cW_s]
        · exact absurd (tkn_20.mp z).2 hd
      · have hLF : isLt f a = false := by simpa using hl
        have e4 : (if f a < 97 then l_84 g (N2 + 1) 3 (cW m1 1 4 (nI a)) else if 122 < f a then l_84 g (N2 + 1) 3 (cW m1 1 4 (nI a)) else (d_86 g (cW m1 1 4 (nI a))).bind (fun z_23 => some z_23)) = l_84 g (N2 + 1) 3 (cW m1 1 4 (nI a)) := by
          rcases isLt_F hLF with h | h
          · rw [if_pos h]
          · by_cases h3 : f a < 97
            · rw [if_pos h3]
            · rw [if_neg h3, if_pos h]
        obtain ⟨m', z1, z2, z3, z4, z5⟩ := p_87 (g := g) (m := cW m1 1 4 (nI a)) ht2 h0 e2
        rw [e4, l_84, if_neg (by decide), if_neg (by decide), if_neg (by decide), if_pos rfl, z1, Option.bind_some]
        refine ⟨m', rfl, hc.tr z2, ⟨?_, ?_, ?_, fun z => absurd (tkn_20.mp z).2 hd⟩, fun k hk => by rw [z5 k (by omega) (by omega)]; exact h16 k hk⟩
        · unfold tke; rw [if_neg (by omega), if_neg hd, if_neg hl]; exact z3
        · unfold tkn; rw [if_neg (by omega), if_neg hd, if_neg hl]; exact z4
        · rw [z5 4 (by decide) (by decide), cW_s]
  · have e21 := (tkn_21 (f := f) (n := n) (a := a)).mpr (by omega)
    rw [if_neg (nI_nlt (by omega) (by omega)), Option.bind_some]
    refine ⟨_, rfl, hc.tr c1.W, ⟨?_, ?_, ?_, fun z => by omega⟩, fun k hk => by rw [cW_k (by omega)]; exact h16 k hk⟩
    · unfold tke; rw [if_pos (by omega), cW_k (by decide)]; exact e2
    · rw [cW_s, e21]; rfl
    · rw [cW_k (by decide), cW_s]
end NC
