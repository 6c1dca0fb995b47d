/-! rule: all clauses, the step -/
section RLP
variable {g r : Nat} {f : Nat → Int32} {n : Nat}
def ruC (m : cM) (S : rS) (r : Nat) : Prop := ∃ L c, ccd m r L ∧ rcd S r L ∧ L.length ≤ 400 ∧ m.1 (35 + 6 * r) 6 = nI c ∧ S.2.1 6 r = nI c ∧ c ≤ 12 ∧ (∀ k, k < c → clD L r (S.2.1 5) m.1 k)
def ruE (m m' : cM) (S S' : rS) (v r : Nat) : Prop := rgm r m m' ∧ (∃ S2, rgs r S S2 ∧ S' = rF S2 1 0) ∧ v < 4000 ∧ (v ≠ 0 → S'.1 9 = nI v) ∧ (v = 0 → ruC m' S' r)
theorem ruE.tr {m m1 m' : cM} {S S1 S' : rS} {v r : Nat} (h1 : rgm r m m1) (h2 : rgs r S S1) (h : ruE m1 m' S1 S' v r) : ruE m m' S S' v r := by
  obtain ⟨a1, ⟨S2, a2, a3⟩, a4⟩ := h
  exact ⟨h1.tr a1, ⟨S2, h2.tr a2, a3⟩, a4⟩
theorem l45_1 {N a1 : Nat} {x2 : Int32} {m : cM} : l_45 g (N + 1) 1 a1 x2 m = if m.1 1 3 = 21 then some (m.1 1 6, m) else (d_83 g 0 m).bind (fun z => some (z.1 1 6, z)) := by
  rw [l_45, if_neg (show ¬ 1 = 0 by decide), if_pos (show 1 = 1 from rfl)]
theorem lr_f {N N' i v : Nat} {m : cM} {S : rS} (h : fR m f n r v) (h9 : S.1 9 = nI v) (hi : i ≤ 400) : ∃ m' S', l_45 g (N + 3) 0 (35 + 6 * r) (nI i) m = some (nI v, m') ∧ l_179 g (N' + 3) 0 0 S = some (if v = 0 then 1 else 0, S') ∧ ruE m m' S S' v r := by
  obtain ⟨h1, h2, h3, h4, h5, h6, h7⟩ := id h.1
  have e0 : l_45 g (N + 3) 0 (35 + 6 * r) (nI i) m = l_45 g (N + 2) 1 (35 + 6 * r) (nI i) m := by
    rw [l_45, if_pos rfl]
    by_cases h40 : i = 400
    · rw [if_pos (show (400 : Int32) ≤ nI i from nI_le (a := 400) (by omega) (by omega))]
    · rw [if_neg (show ¬ (400 : Int32) ≤ nI i from nI_ge (b := 400) (by omega) (by omega)), h4, if_pos (show ¬ (21 : Int32) = 23 by decide)]
  refine ⟨m, rF S 1 0, by rw [e0, l45_1, h4, if_pos rfl, h5], ?_, rgm.rf _ _, ⟨S, rgs.rf _ _, rfl⟩, h7, fun _ => by rw [rF_n (by decide)]; exact h9, fun z => by omega⟩
  rw [l_179, if_pos rfl, if_pos rfl, l_179, if_neg (by decide), if_pos rfl, if_pos rfl, l179_2, h9, if_neg (nI_ne0 h6 (by omega)), if_neg (by omega)]
theorem lp_rule (hg : 5000 ≤ g) (hr : r < 6) (hb : byR f n) : ∀ (d a c i N N' : Nat) (m : cM) (S : rS) (L : List Nat) (V : Nat), a + d = n → i ≤ a → d + 4 ≤ N → d + 4 ≤ N' → ruS m S f n a r L V c → ∃ v m' S', l_45 g N 0 (35 + 6 * r) (nI i) m = some (nI v, m') ∧ l_179 g N' 0 1 S = some (if v = 0 then 1 else 0, S') ∧ ruE m m' S S' v r := by
  intro d
  induction d using Nat.strongRecOn with
  | _ d ih =>
    intro a c i N N' m S L V had hia hN hN' h
    obtain ⟨h0, hc6, hs6, h14, hc, hD⟩ := id h
    obtain ⟨h1, h2, h3, h4, h5, h6, h7, h8, h9⟩ := id h0
    have hn := h1.1.2.1
    have htk : m.1 1 3 = nI (tkn f n a) := h1.tk
    have htb := tkn_b (f := f) (n := n) (a := a)
    obtain ⟨N, rfl⟩ : ∃ q, N = q + 4 := ⟨N - 4, by omega⟩
    obtain ⟨N', rfl⟩ : ∃ q, N' = q + 4 := ⟨N' - 4, by omega⟩
    have hse := see_iff (f := f) (n := n) (a := a) hb (ch := 59) (by omega)
    have hs0 := h2.see
    by_cases h23 : tkn f n a = 23
    · have hch := tk_23.mp h23
      have hi4 : i < 400 := by omega
      obtain ⟨m1, y1, y2, y3⟩ := p_84s (g := g) (by omega) h1
      have e1 : l_45 g (N + 4) 0 (35 + 6 * r) (nI i) m = (d_46 g m1).bind (fun z_7 => l_45 g (N + 3) 0 (35 + 6 * r) (nI i + 1) z_7) := by
        rw [l_45, if_pos rfl, if_neg (show ¬ (400 : Int32) ≤ nI i from nI_ge (b := 400) hi4 (by omega)), htk, h23, if_neg (show ¬ ¬ nI 23 = 23 from fun z => z rfl), y1, Option.bind_some]
      have e2 : l_179 g (N' + 4) 0 1 S = (d_178 g (rF S 8 (nI (a + 1)))).bind (fun z_10 => l_179 g (N' + 3) 0 z_10.1 z_10.2) := by
        rw [l_179, if_pos rfl, if_neg n_1, q_146s (by omega) h2, Option.bind_some, if_neg (show ¬ ¬ (if a < n then f a &&& 255 else -1) = 59 from fun z => z (hse.mpr hch))]
        show (d_178 g (rF (rF S 8 (nI a)) 8 ((rF S 8 (nI a)).1 8 + 1))).bind _ = _
        rw [rF_s, rF_rF, show nI a + 1 = nI (a + 1) from nI_1 a]
      obtain ⟨a1, ha1⟩ : ∃ a1, a1 = bl f n (a + 1) := ⟨_, rfl⟩
      have hge : a + 1 ≤ a1 := by rw [ha1]; exact sc_ge
      have ete := te_23 h23
      rw [show nx f n (.inl a) = .inl a1 by rw [ha1, ← ete]; rfl] at y3
      have hs1 : ruS m1 (rF S 8 (nI (a + 1))) f n a1 r L V c := by
        refine ⟨⟨y3, by rw [ha1]; exact h2.at (by omega), h3.c1 y2, h4.F (by decide), by rw [y2.1 4 (by decide)]; exact h5, by rw [rF_n (by decide)]; exact h6, h7, by omega, by omega⟩, by rw [y2.1 _ (by omega)]; exact hc6, hs6, by rw [rF_n (by decide)]; exact h14, hc, fun k hk => ?_⟩
        have := (hD k hk).mo (Z := []) (w' := S.2.1 5) (M' := m1.1) (fun _ _ => rfl) (fun b hb => by rw [y2.1 _ (by omega)])
        rw [List.append_nil] at this
        exact this
      obtain ⟨m2, v', S2, z1, z2, z3, z4, z5⟩ := cl_rule (g := g) hg hr hb hs1
      rw [e1, e2, z1, Option.bind_some, z2, Option.bind_some, show nI i + 1 = nI (i + 1) from nI_1 i]
      have q1 : rgm r m m2 := (rfm.of y2).g.tr z3
      have q2 : rgs r S S2 := (rgs.F (by decide)).tr z4
      rcases z5 with ⟨rfl, a', L', V', g1, g2⟩ | ⟨rfl, v, g1, g2⟩
      · have hle := g2.1.2.1.le
        obtain ⟨v, m', S', t1, t2, t3⟩ := ih (n - a') (by omega) a' (c + 1) (i + 1) (N + 3) (N' + 3) m2 S2 L' V' (by omega) (by omega) (by omega) (by omega) g2
        exact ⟨v, m', S', t1, t2, t3.tr q1 q2⟩
      · obtain ⟨m', S', t1, t2, t3⟩ := lr_f (g := g) (N := N) (N' := N') (i := i + 1) g1 g2 (by omega)
        exact ⟨v, m', S', t1, t2, t3.tr q1 q2⟩
    · have e0 : l_45 g (N + 4) 0 (35 + 6 * r) (nI i) m = l_45 g (N + 3) 1 (35 + 6 * r) (nI i) m := by
        rw [l_45, if_pos rfl]
        by_cases h40 : i = 400
        · rw [if_pos (show (400 : Int32) ≤ nI i from nI_le (a := 400) (by omega) (by omega))]
        · rw [if_neg (show ¬ (400 : Int32) ≤ nI i from nI_ge (b := 400) (by omega) (by omega)), htk, if_pos (show ¬ nI (tkn f n a) = 23 from fun z => h23 ((nI_eq (b := 23) (by omega) (by omega)).mp z))]
      have f0 : l_179 g (N' + 4) 0 1 S = l_179 g (N' + 3) 1 1 (rF S 8 (nI a)) := by
        rw [l_179, if_pos rfl, if_neg n_1, q_146s (by omega) h2, Option.bind_some, if_pos (show ¬ (if a < n then f a &&& 255 else -1) = 59 from fun z => h23 (tk_23.mpr (hse.mp z)))]
      rw [e0, f0, l45_1, l179_1, q146e (by omega) h2, Option.bind_some]
      by_cases h21 : tkn f n a = 21
      · have hna := tkn_21.mp h21
        refine ⟨0, m, rF (rF S 8 (nI a)) 1 0, ?_, ?_, rgm.rf _ _, ⟨rF S 8 (nI a), rgs.F (by decide), rfl⟩, by omega, fun z => absurd rfl z, fun _ => ⟨L, c, h3, (h4.F (k := 8) (v := nI a) (by decide)).F (by decide), by omega, hc6, hs6, hc, hD⟩⟩
        · rw [htk, h21, if_pos (show nI 21 = 21 from rfl), h1.2.2.2.2]; rfl
        · rw [if_pos ((see_n1 hb).mpr hna)]
          show l_179 g (N' + 1 + 1) 2 1 (rF S 8 (nI a)) = _
          rw [l179_2, if_pos (show (rF S 8 (nI a)).1 9 = 0 from hs0.2.1), if_pos rfl]
      · obtain ⟨m1, y1, y2, y3⟩ := p_83s (g := g) (k := 0) (by omega) h1
        obtain ⟨x1, x2, x3, x4, x5, x6, x7⟩ := id y3
        refine ⟨1 + 8 * a + 0, m1, rF (rF (rF S 8 (nI a)) 9 (nI (1 + 8 * a + 0))) 1 0, ?_, ?_, (rfm.of y2).g, ⟨_, (rgs.F (by decide)).tr (rgs.F (by decide)), rfl⟩, x7, fun _ => by rw [rF_n (by decide), rF_s], fun z => by omega⟩
        · rw [htk, if_neg (show ¬ nI (tkn f n a) = 21 from fun z => h21 ((nI_eq (b := 21) (by omega) (by omega)).mp z)), show d_83 g 0 m = _ from y1, Option.bind_some, x5]
        · rw [if_neg (fun z => h21 (tkn_21.mpr ((see_n1 hb).mp z)))]
          show (d_145 g 0 ((rF S 8 (nI a)).1 8) (rF S 8 (nI a))).bind _ = _
          rw [rF_s, show d_145 g 0 (nI a) (rF S 8 (nI a)) = _ from q_145s (k := 0) hs0, Option.bind_some]
          show l_179 g (N' + 1 + 1) 2 1 (rF (rF S 8 (nI a)) 9 (nI (1 + 8 * a + 0))) = _
          rw [l179_2, rF_s, if_neg (nI_ne0 (by omega) (by omega)), if_neg (by omega)]
end RLP
/-! rules that are not touched -/
theorem ru_c_co {c c' : Nat → Nat} : ∀ (n i : Nat) (ts : List Bool), (∀ j, i ≤ j → j < i + n → c j = c' j) → ru_c c n i ts = ru_c c' n i ts
  | 0, _, _, _ => rfl
  | n + 1, i, ts, h => by
    show (if ts.length ≤ 60 then (ru_t (c i) ts).bind (ru_c c n (i + 1)) else none) = (if ts.length ≤ 60 then (ru_t (c' i) ts).bind (ru_c c' n (i + 1)) else none)
    rw [h i (Nat.le_refl _) (by omega)]
    have e : ru_c c n (i + 1) = ru_c c' n (i + 1) := by
      funext ts1
      exact ru_c_co n (i + 1) ts1 (fun j h1 h2 => h j (by omega) (by omega))
    rw [e]
theorem rgR.mo {B B' : rB} {r K len : Nat} (h : rgR B r K len) (e1 : ∀ j, j < 400 → B'.1 (400 * r + j) = B.1 (400 * r + j)) (e2 : ∀ j, j < 48 → B'.2.1 (48 * r + j) = B.2.1 (48 * r + j)) (e3 : B'.2.2 r = B.2.2 r) : rgR B' r K len := by
  obtain ⟨h1, h2, h3, h4, h5⟩ := h
  have ec : ∀ j, j < 400 → cdf B'.1 r j = cdf B.1 r j := fun j hj => by
    show nN (B'.1 (400 * r + j)) = nN (B.1 (400 * r + j))
    rw [e1 j hj]
  refine ⟨h1, h2, e3.trans h3, fun j hj => by rw [e1 j (by omega), ec j (by omega)]; exact h4 j hj, fun k hk => ?_⟩
  obtain ⟨s0, s1, t1, q1, q2, q3, q4, q5, q6, q7, q8⟩ := h5 k hk
  have f : ∀ i, i < 4 → B'.2.1 (48 * r + 4 * k + i) = B.2.1 (48 * r + 4 * k + i) := fun i hi => by
    rw [Nat.add_assoc]
    exact e2 _ (by omega)
  have f0 := f 0 (by omega)
  rw [Nat.add_zero] at f0
  refine ⟨s0, s1, t1, f0.trans q1, (f 1 (by omega)).trans q2, (f 3 (by omega)).trans q3, q4, q5, q6, by rw [ru_c_co (c' := cdf B.1 r) _ _ _ (fun j j1 j2 => ec j (by omega))]; exact q7, ?_⟩
  rw [f 2 (by omega)]
  rcases q8 with q8 | ⟨q8, q9, q10⟩
  · exact Or.inl q8
  · exact Or.inr ⟨q8, q9, by rw [ru_c_co (c' := cdf B.1 r) _ _ _ (fun j j1 j2 => ec j (by omega))]; exact q10⟩
theorem rgC.mo {M M' : Nat → Nat → Int32} {B B' : rB} {r K len : Nat} (h : rgC M B r K len) (hK : K ≤ 12) (hl : len ≤ 400) (e : ∀ i, i ≤ 4 → M' (35 + 6 * r + i) = M (35 + 6 * r + i)) (e1 : ∀ j, j < 400 → B'.1 (400 * r + j) = B.1 (400 * r + j)) (e2 : ∀ j, j < 48 → B'.2.1 (48 * r + j) = B.2.1 (48 * r + j)) : rgC M' B' r K len := by
  obtain ⟨h1, h2, h3⟩ := h
  have e0 : M' (35 + 6 * r) = M (35 + 6 * r) := e 0 (by omega)
  refine ⟨by rw [e0]; exact h1, fun j hj => ?_, fun k hk => ?_⟩
  · rw [e 1 (by omega), h2 j hj]
    show tr (nN (B.1 (400 * r + j))) = tr (nN (B'.1 (400 * r + j)))
    rw [e1 j (by omega)]
  · have f0 := e2 (4 * k) (by omega)
    have f1 := e2 (4 * k + 1) (by omega)
    have f3 := e2 (4 * k + 3) (by omega)
    rw [← Nat.add_assoc] at f1 f3
    rw [e 2 (by omega), e 3 (by omega), e 4 (by omega), f0, f1, f3]
    exact h3 k hk
/-- the rule that was read -/
theorem ruC.R {m : cM} {S : rS} {r : Nat} (h : ruC m S r) : ∃ K len, rgR (bS3 S) r K len ∧ rgC m.1 (bS3 S) r K len := by
  obtain ⟨L, c, h1, h2, h3, h4, h5, h6, h7⟩ := h
  have ec : ∀ j, j < L.length → cdf (S.2.1 3) r j = L.getD j 0 := fun j hj => by
    show nN (S.2.1 3 (400 * r + j)) = _
    rw [(h2.2.2 j hj).1, n_cl (h2.2.2 j hj).2]
  refine ⟨c, L.length, ⟨h6, h3, h5, fun j hj => ?_, fun k hk => ?_⟩, h4, fun j hj => ?_, fun k hk => ?_⟩
  · show S.2.1 3 (400 * r + j) = nI (cdf (S.2.1 3) r j) ∧ cdf (S.2.1 3) r j < 2147483648
    rw [ec j hj]; exact h2.2.2 j hj
  · obtain ⟨A, g1, g2, Z, q1, q2, q3, q4, q5, q6, -, -, -⟩ := h7 k hk
    have hl : L.length = A.length + g1.length + g2.length + Z.length := by rw [q1]; simp only [List.length_append]
    have c1 : ∀ j, j < g1.length → cdf (S.2.1 3) r (A.length + j) = g1.getD j 0 := fun j hj => by
      rw [ec _ (by omega), q1, gd_l (by simp only [List.length_append]; omega), gd_l (by simp only [List.length_append]; omega), gd_r]
    have c2 : ∀ j, j < g2.length → cdf (S.2.1 3) r (A.length + g1.length + j) = g2.getD j 0 := fun j hj => by
      rw [ec _ (by omega), q1, gd_l (by simp only [List.length_append]; omega)]
      have := gd_r (l := A ++ g1) (l2 := g2) (j := j)
      rw [List.length_append] at this
      exact this
    refine ⟨A.length, A.length + g1.length, A.length + g1.length + g2.length, q2, q3, q4, by omega, by omega, by omega, ?_, ?_⟩
    · rw [show A.length + g1.length - A.length = g1.length by omega]
      exact (tyl_c g1 A.length [] c1).trans q5
    · rcases q6 with ⟨q6, q7⟩ | ⟨q6, q7⟩
      · exact Or.inl ⟨q6, by rw [q7]; rfl⟩
      · refine Or.inr ⟨q6, ?_, ?_⟩
        · cases g2 with
          | nil => cases q7
          | cons x l => show _ < A.length + g1.length + (l.length + 1); omega
        · rw [show A.length + g1.length + g2.length - (A.length + g1.length) = g2.length by omega]
          exact (tyl_c g2 (A.length + g1.length) [] c2).trans q7
  · show m.1 (35 + 6 * r + 1) j = tr (cdf (S.2.1 3) r j)
    rw [ec j hj]; exact h1.2.2 j hj
  · obtain ⟨A, g1, g2, Z, -, -, -, -, -, -, q7, q8, q9⟩ := h7 k hk
    exact ⟨q7, q8, q9⟩
