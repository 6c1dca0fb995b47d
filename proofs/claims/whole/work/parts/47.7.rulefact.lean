/-! rule: facts -/
section TST3
variable {g r : Nat} {f : Nat → Int32} {n a : Nat} {m : cM} {S : rS} {L Lc σ : List Nat} {V : Nat}
/-- the reference's fact: not, [, or neither -/
theorem K0_not {N M : Nat} (hg : 1000 ≤ g) (h : rg S f n a) (ht : tkn f n a = 19) (hs : stk S σ) (hl : σ.length < 400) : (dpt σ < 10 → ∃ S', K0 g N (M + 2) S = K0 g N M S' ∧ rg S' f n (bl f n (tke f n a)) ∧ stk S' (σ ++ [11]) ∧ rc [8, 13, 16] [15] S S') ∧ (dpt σ = 10 → K0 g N (M + 2) S = some (0, rF (rF S 8 (nI a)) 9 (nI (1 + 8 * a + 2)))) := by
  have ha := h.a
  have hle := h.le
  have w := q_149e (g := g) (j := 19) (W := 7237492) hg (by decide) (by decide) ha
  rw [if_pos ht] at w
  have hs0 : stk (rF S 8 (nI a)) σ := hs.co (rF_n (by decide)) (rF_n (by decide)) rfl
  obtain ⟨q1, q2⟩ := q_156 (g := g) (x := 11) (Or.inl rfl) hs0 hl ha.1.2.1 ha.2
  have e0 : l_163 g (M + 2) 0 1 0 S = (d_156 g (nI 11) (rF S 8 (nI a))).bind (fun z_28 => if ¬ z_28.1 = 0 then (d_150 g z_28.2).bind (fun z_34 => l_163 g (M + 1) 1 1 (if a < n then f a &&& 255 else -1) z_34) else some (0, z_28.2)) := by
    rw [l_163, if_pos (show 0 = 0 from rfl), if_neg n_1, q_146s hg h, Option.bind_some]
    show (d_149 g 7237492 (rF S 8 (nI a))).bind _ = _
    rw [w, Option.bind_some, if_neg n_1]
    rfl
  constructor
  · intro hd
    obtain ⟨S1, y1, y2, y3⟩ := q1 hd
    have hg1 : rg S1 f n a := by
      obtain ⟨q, w1, w2, w3⟩ := ha.1.2.2
      exact ⟨⟨(y3.1 1 (by decide)).trans ha.1.1.1, ha.1.1.2.1, (y3.2 0 (by decide)).trans ha.1.1.2.2⟩, (y3.1 9 (by decide)).trans ha.1.2.1, q, w1, (y3.1 8 (by decide)).trans w2, w3⟩
    have h8 : S1.1 8 = nI a := (y3.1 8 (by decide)).trans ha.2
    have q150 := q_150s (g := g) (j := 19) hg (by omega) hg1 h8 ht
    refine ⟨rF S1 8 (nI (tke f n a)), ?_, hg1.at (tke_le hle), y2.co (rF_n (by decide)) (rF_n (by decide)) rfl, ((rc.F (by decide)).tr (y3.mo (by decide) (by decide))).tr (rc.F (by decide))⟩
    unfold K0
    rw [e0, y1, Option.bind_some, if_pos n_1]
    show ((d_150 g S1).bind _).bind _ = _
    rw [q150, Option.bind_some, l_163, if_neg (show ¬ 1 = 0 by decide), if_pos (show 1 = 1 from rfl)]
  · intro hd
    unfold K0
    rw [e0, q2 hd, Option.bind_some, if_neg n_0, Option.bind_some, KA_0]
theorem K0_open {N M : Nat} (hg : 1000 ≤ g) (hb : byR f n) (h : rg S f n a) (ht : tkn f n a = 24) (hs : stk S σ) (hl : σ.length < 400) : (dpt σ < 10 → ∃ S', K0 g N (M + 2) S = K0 g N M S' ∧ rg S' f n (bl f n (tke f n a)) ∧ stk S' (σ ++ [91]) ∧ rc [8, 13, 16] [15] S S') ∧ (dpt σ = 10 → K0 g N (M + 2) S = some (0, rF (rF S 8 (nI a)) 9 (nI (1 + 8 * a + 2)))) := by
  have ha := h.a
  have hle := h.le
  have w := q_149e (g := g) (j := 19) (W := 7237492) hg (by decide) (by decide) ha
  rw [if_neg (by omega)] at w
  have hch := tk_24.mp ht
  have hsee : (if a < n then f a &&& 255 else -1) = nI 91 := (see_iff hb (by omega)).mpr hch
  have hs0 : stk (rF S 8 (nI a)) σ := hs.co (rF_n (by decide)) (rF_n (by decide)) rfl
  obtain ⟨q1, q2⟩ := q_156 (g := g) (x := 91) (Or.inr rfl) hs0 hl ha.1.2.1 ha.2
  have ete := te_24 ht
  have e0 : l_163 g (M + 2) 0 1 0 S = (d_156 g (nI 91) (rF S 8 (nI a))).bind (fun z_20 => if ¬ z_20.1 = 0 then l_163 g (M + 1) 1 1 (nI 91) (rF z_20.2 8 (z_20.2.1 8 + 1)) else some (0, z_20.2)) := by
    rw [l_163, if_pos (show 0 = 0 from rfl), if_neg n_1, q_146s hg h, Option.bind_some, hsee]
    show (d_149 g 7237492 (rF S 8 (nI a))).bind _ = _
    rw [w, Option.bind_some, if_pos rfl, if_neg (show ¬ ¬ nI 91 = 91 from fun z => z rfl)]
    rfl
  constructor
  · intro hd
    obtain ⟨S1, y1, y2, y3⟩ := q1 hd
    have hg1 : rg S1 f n a := by
      obtain ⟨q, w1, w2, w3⟩ := ha.1.2.2
      exact ⟨⟨(y3.1 1 (by decide)).trans ha.1.1.1, ha.1.1.2.1, (y3.2 0 (by decide)).trans ha.1.1.2.2⟩, (y3.1 9 (by decide)).trans ha.1.2.1, q, w1, (y3.1 8 (by decide)).trans w2, w3⟩
    have h8 : S1.1 8 = nI a := (y3.1 8 (by decide)).trans ha.2
    refine ⟨rF S1 8 (nI (tke f n a)), ?_, hg1.at (tke_le hle), y2.co (rF_n (by decide)) (rF_n (by decide)) rfl, ((rc.F (by decide)).tr (y3.mo (by decide) (by decide))).tr (rc.F (by decide))⟩
    unfold K0
    rw [e0, y1, Option.bind_some, if_pos n_1]
    show (l_163 g (M + 1) 1 1 (nI 91) (rF S1 8 (S1.1 8 + 1))).bind _ = _
    rw [nx8 h8, ← ete, l_163, if_neg (show ¬ 1 = 0 by decide), if_pos (show 1 = 1 from rfl)]
  · intro hd
    unfold K0
    rw [e0, q2 hd, Option.bind_some, if_neg n_0, Option.bind_some, KA_0]
theorem K0_cmp {N M : Nat} (hg : 1000 ≤ g) (hb : byR f n) (h : rg S f n a) (h1 : tkn f n a ≠ 19) (h2 : tkn f n a ≠ 24) : K0 g N (M + 3) S = (d_162 g (rF S 8 (nI a))).bind (fun z => if z.1 = 0 ∨ z.1 = 1 then KA g N (z.1, z.2) else none) := by
  have ha := h.a
  have w := q_149e (g := g) (j := 19) (W := 7237492) hg (by decide) (by decide) ha
  rw [if_neg h1] at w
  unfold K0
  rw [l_163, if_pos (show 0 = 0 from rfl), if_neg n_1, q_146s hg h, Option.bind_some]
  show ((d_149 g 7237492 (rF S 8 (nI a))).bind _).bind _ = _
  rw [w, Option.bind_some, if_pos rfl, if_pos (show ¬ (if a < n then f a &&& 255 else -1) = 91 from fun z => h2 (tk_24.mpr ((see_iff hb (ch := 91) (by omega)).mp z)))]
  show (l_163 g (M + 2) 1 0 _ (rF S 8 (nI a))).bind _ = _
  rw [l_163, if_neg (show ¬ 1 = 0 by decide), if_pos (show 1 = 1 from rfl), l_163, if_pos (show 0 = 0 from rfl), if_pos (show (0 : Int32) = 0 from rfl)]
  cases d_162 g (rF S 8 (nI a)) with
  | none => rfl
  | some z =>
    show (if z.1 = 0 ∨ z.1 = 1 then some (z.1, z.2) else none).bind (KA g N) = (if z.1 = 0 ∨ z.1 = 1 then KA g N (z.1, z.2) else none)
    split <;> rfl
theorem R47 {nc : Nat} {x y : Int32} : R_47 g (nc + 1) 0 x y m = t_47 (fun x1 x2 m => R_47 g nc 0 x1 x2 m) (fun x1 x2 m => R_47 g nc 1 x1 x2 m) (fun x1 m => R_47 g nc 2 x1 0 m) g x y m := rfl
theorem R49 {nc : Nat} {x : Int32} : R_47 g (nc + 1) 2 x 0 m = t_49 (fun x1 x2 m => R_47 g nc 0 x1 x2 m) (fun x1 x2 m => R_47 g nc 1 x1 x2 m) (fun x1 m => R_47 g nc 2 x1 0 m) g x m := rfl
theorem rfs.o {S' : rS} (h : rc [8, 13, 16] [15] S S') : rfs r S S' := ⟨h.mo (by decide) (by decide), fun j _ => by rw [h.2 3 (by decide)]⟩
set_option maxHeartbeats 2000000 in
/-- a fact at depth d -/
theorem t_fact {d nc : Nat} (hg : 5000 ≤ g) (hr : r < 6) (hb : byR f n) (hd10 : d ≤ 10) (hin : d < 10 → TST g f n r (d + 1) 3 (fun m => R_47 g nc 0 (nI 2) (nI (d + 1)) m) ∧ TST g f n r (d + 1) 1 (fun m => R_47 g nc 0 (nI 0) (nI (d + 1)) m)) : TST g f n r d 3 (fun m => R_47 g (nc + 2) 0 (nI 2) (nI d) m) := by
  refine ⟨fun m S a L Lc V σ N M h hs hd hsl hLL hlt hM hN => ?_, fun m v h => ?_⟩
  · obtain ⟨h1, h2, h3, h4, h5, h6, h7, h8, h9⟩ := id h
    have hn := h1.1.2.1
    have hle := h2.le
    have htk : m.1 1 3 = nI (tkn f n a) := h1.tk
    have htb := tkn_b (f := f) (n := n) (a := a)
    show tGood (R_47 g (nc + 2) 0 (nI 2) (nI d) m) _ m S g f n a r 3 L Lc V σ ∨ tBad (R_47 g (nc + 2) 0 (nI 2) (nI d) m) _ m S f n r
    -- too deep
    have deep : ∀ (S1 : rS), d = 10 → R_47 g (nc + 2) 0 (nI 2) (nI d) m = (R_47 g (nc + 1) 2 (nI d) 0 m).bind (fun z => some z) → K0 g N M S = some (0, rF (rF S 8 (nI a)) 9 (nI (1 + 8 * a + 2))) → tBad (R_47 g (nc + 2) 0 (nI 2) (nI d) m) (K0 g N M S) m S f n r := fun S1 e10 e1 e2 => by
      obtain ⟨m', y1, y2, y3⟩ := p_83s (g := g) (k := 2) (by omega) h1
      refine ⟨m', _, 1 + 8 * a + 2, ?_, e2, fR.of y3 (h3.c1 y2) (by omega), rF_s, rfm.of y2, (rfs.F (by decide)).tr (rfs.F (by decide))⟩
      rw [e1, R49, e10]
      unfold t_49
      rw [if_neg (show ¬ nI 10 < 10 by decide), show d_83 g 2 m = _ from y1]
      rfl
    by_cases t19 : tkn f n a = 19
    · have hlt2 := ((tkn_w (f := f) (n := n) (a := a) (j := 19) (by omega)).mp t19).1
      obtain ⟨M, rfl⟩ : ∃ q, M = q + 2 := ⟨M - 2, by omega⟩
      have e1 : R_47 g (nc + 2) 0 (nI 2) (nI d) m = (R_47 g (nc + 1) 2 (nI d) 0 m).bind (fun z => some z) := by
        rw [R47]
        unfold t_47 j_47_36
        rw [if_pos (show (2 : Int32) ≤ nI 2 by decide), htk, t19, if_pos (show nI 19 = 19 from rfl)]
      obtain ⟨q1, q2⟩ := K0_not (g := g) (N := N) (M := M) (by omega) h2 t19 hs (by omega)
      by_cases hd1 : d = 10
      · exact Or.inr (deep S hd1 e1 (q2 (by omega)))
      · obtain ⟨S1, y1, y2, y3, y4⟩ := q1 (by omega)
        have hF := (hin (by omega)).1
        obtain ⟨m1, z1, z2, z3⟩ := p_84s (g := g) (by omega) h1
        obtain ⟨a1, ha1⟩ : ∃ a1, a1 = bl f n (tke f n a) := ⟨_, rfl⟩
        have hb1 := bl_lt (f := f) hlt2
        rw [show nx f n (.inl a) = .inl a1 by rw [ha1]; rfl] at z3
        rw [← ha1] at y2 hb1
        have hgr : gRu m1 S1 f n a1 r L Lc V := ⟨z3, y2, h3.c1 z2, h4.co (y4.1 11 (by decide)) (y4.2 4 (by decide)) (y4.2 3 (by decide)), by rw [z2.1 4 (by decide)]; exact h5, (y4.1 12 (by decide)).trans h6, h7, by omega, by omega⟩
        have e2 : R_47 g (nc + 1) 2 (nI d) 0 m = (R_47 g nc 0 (nI 2) (nI (d + 1)) m1).bind (fun z_20 => (d_53 g (-20) z_20).bind (fun z_24 => some z_24)) := by
          rw [R49]
          unfold t_49
          rw [if_pos (show nI d < 10 from nI_lt (b := 10) (by omega) (by omega)), htk, t19, if_neg (show ¬ ¬ nI 19 = 19 from fun z => z rfl), z1, Option.bind_some, show nI d + 1 = nI (d + 1) from nI_1 d]
          rfl
        rw [e1, e2, y1]
        have hdp : dpt (σ ++ [11]) = d + 1 := by
          rw [dpt_a]
          show dpt σ + 1 = d + 1
          rw [hd]
        rcases hF.1 m1 S1 a1 L Lc V (σ ++ [11]) N M hgr y3 hdp (by rw [List.length_append]; show σ.length + 1 ≤ a1; omega) hLL (Or.inl rfl) (by omega) (by omega) with ⟨m2, S2, a2, seg2, π2, V2, N2, M2, P2, u1, u2, u3, u4, u5, u6, u7, u8, u9, u10, u11, u12, u13, u14, u15⟩ | ⟨m2, S2, v, u1, u2, u3, u4, u5, u6⟩
        · have hπ : π2 = [] := by
            cases π2 with
            | nil => rfl
            | cons x l =>
              obtain ⟨w1, w2⟩ := u5 x (List.mem_cons_self ..)
              rcases w1 with e | e <;> subst e <;> exact absurd w2 (by decide)
          subst hπ
          rw [List.append_nil] at u4
          rw [List.reverse_nil, List.append_nil] at u3 u9
          obtain ⟨k1, k2, k3, k4, k5, k6, k7, k8, k9⟩ := u3
          have hle2 := k2.le
          rw [List.length_append] at k8 k9
          rw [List.length_append] at u13
          have u13 : σ.length + 1 + 0 + 3 ≤ P2 := u13
          have u6 : a1 + (seg2.length + 0) ≤ a2 := u6
          obtain ⟨P2, rfl⟩ : ∃ q, P2 = q + 1 := ⟨P2 - 1, by omega⟩
          obtain ⟨m3, w1, w2, w3, w4, w5, w6⟩ := p_53 (g := g) (c := 11) (x := -20) hr k3 (by rw [List.length_append]; omega) (by decide)
          obtain ⟨S3, x1, x2, x3, x4, x5, x6⟩ := set_pop (g := g) (N := P2) (k := 3) hr u4 (by omega) (Or.inl rfl) (by decide) k4 (by rw [List.length_append]; omega)
          rw [show R_47 g nc 0 (nI 2) (nI (d + 1)) m1 = some m2 from u1, Option.bind_some, w1, Option.bind_some, Option.bind_some, u2]
          refine Or.inl ⟨m3, S3, a2, seg2 ++ [11], [], V2, N2, M2, P2, rfl, ?_, ⟨k1.co1 w4 w5, ?_, ?_, ?_, by rw [w6]; exact k5, (x5 12 (by decide) (by decide)).trans k6, k7, ?_, ?_⟩, by rw [List.append_nil]; exact x2, fun x hx => (by cases hx), ?_, by omega, fun j j1 j2 => by omega, fun ts hts => ?_, by omega, u11, u12, by show σ.length + 0 + 3 ≤ P2; omega, (((rfm.of z2).tr u14).tr w3), ((rfs.o y4).tr u15).tr x4⟩
          · unfold KQ
            rw [x1]
          · obtain ⟨q, b1, b2, b3⟩ := k2.2.2
            exact ⟨⟨(x5 1 (by decide) (by decide)).trans k2.1.1, k2.1.2.1, x6.trans k2.1.2.2⟩, (x5 9 (by decide) (by decide)).trans k2.2.1, q, b1, (x5 8 (by decide) (by decide)).trans b2, b3⟩
          · rw [List.reverse_nil, List.append_nil, ← List.append_assoc]; exact w2
          · rw [← List.append_assoc]; exact x3
          · simp only [List.length_append, List.length_cons, List.length_nil]; omega
          · simp only [List.length_append, List.length_cons, List.length_nil, List.length_reverse]; omega
          · simp only [List.length_append, List.length_cons, List.length_nil]; omega
          · rw [List.reverse_nil, List.append_nil, tyl_a, u9 ts hts, Option.bind_some]
            exact tyl_1 (by show ts.length + 1 ≤ 60; omega) rfl
        · obtain ⟨m3, w1, w2, w3⟩ := f_53 (g := g) (x := -20) hr u3
          rw [show R_47 g nc 0 (nI 2) (nI (d + 1)) m1 = some m2 from u1, Option.bind_some, w1, Option.bind_some, Option.bind_some, u2]
          exact Or.inr ⟨m3, S2, v, rfl, rfl, w2, u4, ((rfm.of z2).tr u5).tr w3, (rfs.o y4).tr u6⟩
    · by_cases t24 : tkn f n a = 24
      · have hlt2 := (tk_24.mp t24).1
        obtain ⟨M, rfl⟩ : ∃ q, M = q + 2 := ⟨M - 2, by omega⟩
        have e1 : R_47 g (nc + 2) 0 (nI 2) (nI d) m = (R_47 g (nc + 1) 2 (nI d) 0 m).bind (fun z => some z) := by
          rw [R47]
          unfold t_47 j_47_36
          rw [if_pos (show (2 : Int32) ≤ nI 2 by decide), htk, t24, if_neg (show ¬ nI 24 = 19 by decide), if_neg (show ¬ ¬ nI 24 = 24 from fun z => z rfl)]
        obtain ⟨q1, q2⟩ := K0_open (g := g) (N := N) (M := M) (by omega) hb h2 t24 hs (by omega)
        by_cases hd1 : d = 10
        · exact Or.inr (deep S hd1 e1 (q2 (by omega)))
        · obtain ⟨S1, y1, y2, y3, y4⟩ := q1 (by omega)
          have hF := (hin (by omega)).2
          obtain ⟨m1, z1, z2, z3⟩ := p_84s (g := g) (by omega) h1
          obtain ⟨a1, ha1⟩ : ∃ a1, a1 = bl f n (tke f n a) := ⟨_, rfl⟩
          have hb1 := bl_lt (f := f) hlt2
          rw [show nx f n (.inl a) = .inl a1 by rw [ha1]; rfl] at z3
          rw [← ha1] at y2 hb1
          have hgr : gRu m1 S1 f n a1 r L Lc V := ⟨z3, y2, h3.c1 z2, h4.co (y4.1 11 (by decide)) (y4.2 4 (by decide)) (y4.2 3 (by decide)), by rw [z2.1 4 (by decide)]; exact h5, (y4.1 12 (by decide)).trans h6, h7, by omega, by omega⟩
          have e2 : R_47 g (nc + 1) 2 (nI d) 0 m = (R_47 g nc 0 (nI 0) (nI (d + 1)) m1).bind (fun z_7 => if z_7.1 1 3 = 25 then (d_84 g z_7).bind (fun z => some z) else (d_83 g 0 z_7).bind (fun z_12 => (d_84 g z_12).bind (fun z => some z))) := by
            rw [R49]
            unfold t_49 j_49_88
            rw [if_pos (show nI d < 10 from nI_lt (b := 10) (by omega) (by omega)), htk, t24, if_pos (show ¬ nI 24 = 19 by decide), z1, Option.bind_some, show nI d + 1 = nI (d + 1) from nI_1 d]
            rfl
          rw [e1, e2, y1]
          have hdp : dpt (σ ++ [91]) = d + 1 := by
            rw [dpt_a]
            show dpt σ + 1 = d + 1
            rw [hd]
          rcases hF.1 m1 S1 a1 L Lc V (σ ++ [91]) N M hgr y3 hdp (by rw [List.length_append]; show σ.length + 1 ≤ a1; omega) hLL (Or.inr (by rw [lst_a]; decide)) (by omega) (by omega) with ⟨m2, S2, a2, seg2, π2, V2, N2, M2, P2, u1, u2, u3, u4, u5, u6, u7, u8, u9, u10, u11, u12, u13, u14, u15⟩ | ⟨m2, S2, v, u1, u2, u3, u4, u5, u6⟩
          · obtain ⟨k1, k2, k3, k4, k5, k6, k7, k8, k9⟩ := u3
            have hle2 := k2.le
            have htk2 : m2.1 1 3 = nI (tkn f n a2) := k1.tk
            have htb2 := tkn_b (f := f) (n := n) (a := a2)
            have hlen : (σ ++ [91] ++ π2).length ≤ 400 := by
              simp only [List.length_append, List.length_cons, List.length_nil]
              omega
            have hlst : lst (σ ++ [91] ++ π2) < 3 := pend_lt (Or.inl rfl) u5 (by rw [lst_a]; decide)
            have hins : ∃ j, j < (σ ++ [91] ++ π2).length ∧ (σ ++ [91] ++ π2).getD j 0 = 91 := ⟨σ.length, by simp only [List.length_append, List.length_cons, List.length_nil]; omega, by rw [gd_l (by rw [List.length_append]; show σ.length < σ.length + 1; omega), gd_a]⟩
            obtain ⟨M2, rfl⟩ : ∃ q, M2 = q + 1 := ⟨M2 - 1, by omega⟩
            obtain ⟨P2, rfl⟩ : ∃ q, P2 = q + 1 := ⟨P2 - 1, by omega⟩
            rw [show R_47 g nc 0 (nI 0) (nI (d + 1)) m1 = some m2 from u1, Option.bind_some, u2]
            by_cases t25 : tkn f n a2 = 25
            · -- ]
              have hch := tk_25.mp t25
              have ete := te_25 t25
              obtain ⟨m3, w1, w2, w3⟩ := p_84s (g := g) (by omega) k1
              obtain ⟨a3, ha3⟩ : ∃ a3, a3 = bl f n (a2 + 1) := ⟨_, rfl⟩
              have hge : a2 + 1 ≤ a3 := by rw [ha3]; exact sc_ge
              rw [show nx f n (.inl a2) = .inl a3 by rw [ha3, ← ete]; rfl] at w3
              rw [htk2, t25, if_pos (show nI 25 = 25 from rfl), w1, Option.bind_some, Option.bind_some]
              have hs8 : stk (rF S2 8 (nI a2)) (σ ++ [91] ++ π2) := u4.co (rF_n (by decide)) (rF_n (by decide)) rfl
              have q164 := (q_164 (g := g) (by omega) hs8 hlen).1 hins
              have hk8 : (L ++ seg2).length + π2.length ≤ 400 := by
                simp only [List.length_append, List.length_reverse] at k9
                rw [List.length_append]
                omega
              obtain ⟨S3, x1, x2, x3, x4, x5, x6⟩ := set_all (g := g) (σ := σ ++ [91]) (k := 1) hr (by omega) (by rw [lst_a]; decide) π2.length π2 (rF S2 8 (nI a2)) (L ++ seg2) g rfl hs8 u5 (by rw [List.length_append]; show σ.length + 1 + π2.length ≤ 400; omega) (k4.F (by decide)) hk8 (by omega)
              obtain ⟨S4, hS4⟩ : ∃ S4, S4 = rF (rF (rF S3 16 (nI σ.length)) 13 (nI (dpt σ))) 8 (nI (a2 + 1)) := ⟨_, rfl⟩
              have f16 : S3.1 16 - 1 = nI σ.length := by
                rw [x2.1, List.length_append]
                exact k_sub (a := σ.length + 1) (b := 1) (by omega)
              have f13 : S3.1 13 - 1 = nI (dpt σ) := by
                rw [x2.2.2.1, hdp, ← hd]
                exact k_sub (a := dpt σ + 1) (b := 1) (by omega)
              have f8 : S3.1 8 + 1 = nI (a2 + 1) := by
                rw [x5 8 (by decide) (by decide), rF_s]
                exact nI_1 a2
              have hs4 : stk S4 σ := by
                rw [hS4]
                refine ⟨by rw [rF_n (by decide), rF_n (by decide), rF_s], fun j hj => ?_, by rw [rF_n (by decide), rF_s], by omega⟩
                have := x2.2.1 j (by rw [List.length_append]; show j < σ.length + 1; omega)
                rw [gd_l hj] at this
                exact this
              have hq : KQ g N2 (M2 + 1) (P2 + 1) S2 = KQ g N2 M2 g S4 := by
                unfold KQ
                rw [set_stop u4 hlen (by omega) hlst, Option.bind_some, l_165, if_pos (show 0 = 0 from rfl), q_146s (by omega) k2, Option.bind_some, if_neg (show ¬ ¬ (if a2 < n then f a2 &&& 255 else -1) = 93 from fun z => z ((see_iff hb (ch := 93) (by omega)).mpr hch))]
                show ((d_164 g (rF S2 8 (nI a2))).bind _).bind _ = _
                rw [q164, Option.bind_some, if_neg n_1]
                show (((l_158 g g 0 (nI 1) (rF S2 8 (nI a2)))).bind _).bind _ = _
                rw [x1, Option.bind_some]
                show (((l_158 g g 0 (nI 3) (rF (rF (rF S3 16 (S3.1 16 - 1)) 13 (S3.1 13 - 1)) 8 (S3.1 8 + 1)))).bind _).bind _ = _
                rw [f16, f13, f8, ← hS4]
                cases l_158 g g 0 (nI 3) S4 <;> rfl
              rw [hq]
              have hrg3 : rg S3 f n a2 := by
                have hh := k2.see
                obtain ⟨q, b1, b2, b3⟩ := hh.2.2
                exact ⟨⟨(x5 1 (by decide) (by decide)).trans hh.1.1, hh.1.2.1, x6.trans hh.1.2.2⟩, (x5 9 (by decide) (by decide)).trans hh.2.1, q, b1, (x5 8 (by decide) (by decide)).trans b2, b3⟩
              have hrg4 : rg S4 f n a3 := by
                rw [hS4, ha3]
                exact ((hrg3.F (k := 16) (v := nI σ.length) (by decide) (by decide) (by decide)).F (k := 13) (v := nI (dpt σ)) (by decide) (by decide) (by decide)).at (by omega)
              have hc4 : rcd S4 r (L ++ seg2 ++ π2.reverse) := by
                rw [hS4]
                exact ((x3.F (k := 16) (v := nI σ.length) (by decide)).F (k := 13) (v := nI (dpt σ)) (by decide)).F (by decide)
              have hr4 : rfs r S2 S4 := by
                rw [hS4]
                exact ((((rfs.F (by decide)).tr x4).tr (rfs.F (by decide))).tr (rfs.F (by decide))).tr (rfs.F (by decide))
              simp only [List.length_append, List.length_reverse] at k8 k9
              refine Or.inl ⟨m3, S4, a3, seg2 ++ π2.reverse, [], V2, N2, M2, g, rfl, rfl, ⟨w3, hrg4, ?_, ?_, by rw [w2.1 4 (by decide)]; exact k5, ?_, k7, ?_, ?_⟩, by rw [List.append_nil]; exact hs4, fun x hx => (by cases hx), ?_, by omega, fun j j1 j2 => by omega, fun ts hts => ?_, by omega, by omega, by omega, by show σ.length + 0 + 3 ≤ g; omega, ((rfm.of z2).tr u14).tr (rfm.of w2), ((rfs.o y4).tr u15).tr hr4⟩
              · rw [List.reverse_nil, List.append_nil, ← List.append_assoc]; exact k3.c1 w2
              · rw [← List.append_assoc]; exact hc4
              · rw [hS4, rF_n (by decide), rF_n (by decide), rF_n (by decide), x5 12 (by decide) (by decide), rF_n (by decide)]; exact k6
              · simp only [List.length_append, List.length_reverse]; omega
              · simp only [List.length_append, List.length_reverse, List.length_nil]; omega
              · simp only [List.length_append, List.length_reverse, List.length_nil]; omega
              · rw [List.reverse_nil, List.append_nil]; exact u9 ts hts
            · -- no ]
              obtain ⟨m3, w1, w2, w3⟩ := p_83s (g := g) (k := 0) (by omega) k1
              have hf3 : fR m3 f n r (1 + 8 * a2 + 0) := fR.of w3 (k3.c1 w2) (by omega)
              obtain ⟨m4, x1, x2, x3⟩ := f_84 (g := g) (by omega) hf3
              rw [htk2, if_neg (show ¬ nI (tkn f n a2) = 25 from fun z => t25 ((nI_eq (b := 25) (by omega) (by omega)).mp z)), show d_83 g 0 m2 = _ from w1, Option.bind_some, x1, Option.bind_some, Option.bind_some]
              obtain ⟨N2, rfl⟩ : ∃ q, N2 = q + 2 := ⟨N2 - 2, by omega⟩
              have ha2 := k2.a
              have hs8 : stk (rF S2 8 (nI a2)) (σ ++ [91] ++ π2) := u4.co (rF_n (by decide)) (rF_n (by decide)) rfl
              have q164 := (q_164 (g := g) (by omega) hs8 hlen).1 hins
              have e3 : l_166 g (N2 + 1) 0 0 0 (rF S2 8 (nI a2)) = some (0, rF (rF S2 8 (nI a2)) 9 (nI (1 + 8 * a2 + 0))) := by
                rw [l_166, if_pos (show 0 = 0 from rfl), if_pos (show (0 : Int32) = 0 from rfl), q164, Option.bind_some, if_neg n_1]
                show (d_146 g (rF S2 8 (nI a2))).bind _ = _
                rw [q146e (by omega) k2, Option.bind_some]
                show (d_145 g 0 ((rF S2 8 (nI a2)).1 8) (rF S2 8 (nI a2))).bind _ = _
                rw [rF_s, show d_145 g 0 (nI a2) (rF S2 8 (nI a2)) = _ from q_145s (k := 0) ha2.1, Option.bind_some, if_pos (Or.inl rfl)]
              rw [KQ_no (by omega) hb k2 u4 hlen hlst t25, KB_no (by omega) ha2 (u8 1 (by omega) (by omega)) (u8 2 (by omega) (by omega)), e3]
              exact Or.inr ⟨m4, _, _, rfl, rfl, x2, rF_s, (((rfm.of z2).tr u14).tr (rfm.of w2)).tr (rfm.of x3), ((rfs.o y4).tr u15).tr ((rfs.F (by decide)).tr (rfs.F (by decide)))⟩
          · obtain ⟨m3, w1, w2, w3⟩ := f_83 (g := g) (k := 0) (by omega) u3
            obtain ⟨m4, x1, x2, x3⟩ := f_84 (g := g) (by omega) w2
            have h21 : m2.1 1 3 = 21 := u3.1.2.2.2.1
            rw [show R_47 g nc 0 (nI 0) (nI (d + 1)) m1 = some m2 from u1, Option.bind_some, h21, if_neg (show ¬ (21 : Int32) = 25 by decide), show d_83 g 0 m2 = _ from w1, Option.bind_some, x1, Option.bind_some, Option.bind_some, u2]
            exact Or.inr ⟨m4, S2, v, rfl, rfl, x2, u4, (((rfm.of z2).tr u5).tr (rfm.of w3)).tr (rfm.of x3), (rfs.o y4).tr u6⟩
      · -- a comparison
        obtain ⟨M, rfl⟩ : ∃ q, M = q + 3 := ⟨M - 3, by omega⟩
        have e1 : R_47 g (nc + 2) 0 (nI 2) (nI d) m = cmpC g m := by
          rw [R47]
          unfold t_47 cmpC
          rw [if_pos (show (2 : Int32) ≤ nI 2 by decide), htk, if_neg (show ¬ nI (tkn f n a) = 19 from fun z => t19 ((nI_eq (b := 19) (by omega) (by omega)).mp z)), if_pos (show ¬ nI (tkn f n a) = 24 from fun z => t24 ((nI_eq (b := 24) (by omega) (by omega)).mp z))]
        rw [e1, K0_cmp (by omega) hb h2 t19 t24]
        have hgr : gRu m (rF S 8 (nI a)) f n a r L Lc V := ⟨h1, h2.see, h3, h4.F (by decide), h5, by rw [rF_n (by decide)]; exact h6, h7, h8, h9⟩
        rcases e_cmp (g := g) hg hr hb hgr with ⟨m2, S2, a2, seg, V2, u1, u2, u3, u4, u5, u6, u7, u8, u9, u10, u11, u12⟩ | ⟨m2, S2, v, u1, u2, u3, u4, u5, u6⟩
        · have hle2 := u3.2.1.le
          rw [u1, u2, Option.bind_some, if_pos (Or.inr rfl)]
          refine Or.inl ⟨m2, S2, a2, seg, [], V2, N, g, g, rfl, KA_1, by rw [List.reverse_nil, List.append_nil]; exact u3, ?_, fun x hx => (by cases hx), by show a + (seg.length + 0) ≤ a2; omega, u5, fun j j1 j2 => by omega, fun ts hts => by rw [List.reverse_nil, List.append_nil]; exact u6 ts hts, u7, by omega, by omega, by show σ.length + 0 + 3 ≤ g; omega, u8, (rfs.F (by decide)).tr u9⟩
          rw [List.append_nil]
          exact hs.co (u11.trans (rF_n (by decide))) (u10.trans (rF_n (by decide))) u12
        · rw [u1, u2, Option.bind_some, if_pos (Or.inl rfl)]
          exact Or.inr ⟨m2, S2, v, rfl, KA_0, u3, u4, u5, (rfs.F (by decide)).tr u6⟩
  · obtain ⟨m', y1, y2, y3⟩ := f_cmp (g := g) (by omega) hr h
    have h21 : m.1 1 3 = 21 := h.1.2.2.2.1
    refine ⟨m', ?_, y2, y3⟩
    show R_47 g (nc + 2) 0 (nI 2) (nI d) m = some m'
    rw [R47]
    unfold t_47
    rw [if_pos (show (2 : Int32) ≤ nI 2 by decide), h21, if_neg (show ¬ (21 : Int32) = 19 by decide), if_pos (show ¬ (21 : Int32) = 24 by decide), ← y1]
    rfl
end TST3
