/-! rule: rows of facts with and, of those with or -/
section TST2
variable {g r : Nat} {f : Nat → Int32} {n a : Nat} {m : cM} {S : rS} {L Lc σ : List Nat} {V : Nat}
theorem l48_1 {s7 s8 : Int32 → Int32 → cM → Option cM} {s9 : Int32 → cM → Option cM} {N : Nat} {x1 x2 x3 x4 : Int32} {m : cM} : l_48 s7 s8 s9 g (N + 1) 1 x1 x2 0 x3 x4 m = (if (400 : Int32) ≤ x4 then some m else if ¬ m.1 1 3 = x3 then some m else (d_84 g m).bind (fun z_7 => (s7 (x1 + 1) x2 z_7).bind (fun z_11 => (d_53 g (-1 - x3) z_11).bind (fun z_15 => l_48 s7 s8 s9 g N 1 x1 x2 0 x3 (x4 + 1) z_15)))) := by
  rw [l_48, if_neg (show ¬ 1 = 0 by decide), if_pos (show 1 = 1 from rfl)]
theorem f_l48 {s7 s8 : Int32 → Int32 → cM → Option cM} {s9 : Int32 → cM → Option cM} {N v t : Nat} {x1 x2 x4 : Int32} (ht : t ≤ 20) (h : fR m f n r v) : l_48 s7 s8 s9 g (N + 1) 1 x1 x2 0 (nI t) x4 m = some m := by
  have h21 : m.1 1 3 = nI 21 := h.1.2.2.2.1
  rw [l48_1]
  by_cases h4 : (400 : Int32) ≤ x4
  · rw [if_pos h4]
  · rw [if_neg h4, h21, if_pos (show ¬ nI 21 = nI t from fun z => by have := (nI_eq (by omega) (by omega)).mp z; omega)]
theorem tr_o {k : Nat} (hk : k = 1 ∨ k = 2) : tr (14 - k) = -1 - nI (16 + k) ∧ (∀ ts : List Bool, ru_t (14 - k) (true :: true :: ts) = some (true :: ts)) := by
  rcases hk with e | e <;> subst e <;> exact ⟨by decide, fun ts => rfl⟩
theorem pend_lt {k : Nat} {π : List Nat} (hk : k = 1 ∨ k = 2) (hπ : pend k π) (hlt : lst σ < k) : lst (σ ++ π) < 3 := by
  rcases List.eq_nil_or_concat π with e | ⟨τ, x, e⟩
  · rw [e, List.append_nil]; omega
  · rw [List.concat_eq_append] at e
    subst e
    rw [← List.append_assoc, lst_a]
    rcases (hπ x (List.mem_append_right _ (List.mem_singleton.mpr rfl))).1 with e | e <;> subst e <;> decide
set_option maxHeartbeats 2000000 in
/-- the loop of a row -/
theorem t_loop {d k : Nat} {s7 s8 : Int32 → Int32 → cM → Option cM} {s9 : Int32 → cM → Option cM} (hg : 5000 ≤ g) (hr : r < 6) (hb : byR f n) (hk : k = 1 ∨ k = 2) (hsub : TST g f n r d (k + 1) (fun m => s7 (nI k) (nI d) m)) (hσd : dpt σ = d) (hlt : lst σ < k) (hLL : L.length ≤ Lc.length) : ∀ (e a i N M P Nc : Nat) (m : cM) (S : rS) (seg π : List Nat) (V' : Nat), a + e = n → i ≤ a → e + 2 ≤ Nc → gRu m S f n a r (L ++ seg) (Lc ++ seg ++ π.reverse) V' → stk S (σ ++ π) → pend k π → σ.length + π.length ≤ a → (∀ j, k < j → j ≤ 2 → tkn f n a ≠ 16 + j) → (∀ ts, ts.length ≤ V → tyl (seg ++ π.reverse) ts = some (true :: ts)) → V + 1 ≤ V' → n + 5 ≤ M + a → 4 * n + 20 ≤ N + 4 * a → σ.length + π.length + 3 ≤ P → (∃ m' S' a' seg' π' V'' N' M' P', l_48 s7 s8 s9 g Nc 1 (nI (k - 1)) (nI d) 0 (nI (16 + k)) (nI i) m = some m' ∧ KQ g N M P S = KQ g N' M' P' S' ∧ gRu m' S' f n a' r (L ++ seg') (Lc ++ seg' ++ π'.reverse) V'' ∧ stk S' (σ ++ π') ∧ pend k π' ∧ a + (seg'.length + π'.length) ≤ a' + (seg.length + π.length) ∧ a ≤ a' ∧ (∀ j, k ≤ j → j ≤ 2 → tkn f n a' ≠ 16 + j) ∧ (∀ ts, ts.length ≤ V → tyl (seg' ++ π'.reverse) ts = some (true :: ts)) ∧ V + 1 ≤ V'' ∧ n + 5 ≤ M' + a' ∧ 4 * n + 20 ≤ N' + 4 * a' ∧ σ.length + π'.length + 3 ≤ P' ∧ rfm r m m' ∧ rfs r S S') ∨ (∃ m' S' v, l_48 s7 s8 s9 g Nc 1 (nI (k - 1)) (nI d) 0 (nI (16 + k)) (nI i) m = some m' ∧ KQ g N M P S = some (0, S') ∧ fR m' f n r v ∧ S'.1 9 = nI v ∧ rfm r m m' ∧ rfs r S S') := by
  intro e
  induction e using Nat.strongRecOn with
  | _ e ih =>
    intro a i N M P Nc m S seg π V' had hia hNc h hs hπ hsl htok hty hV hM hN hP
    obtain ⟨h1, h2, h3, h4, h5, h6, h7, h8, h9⟩ := id h
    have hn := h1.1.2.1
    have htk : m.1 1 3 = nI (tkn f n a) := h1.tk
    have htb := tkn_b (f := f) (n := n) (a := a)
    obtain ⟨Nc, rfl⟩ : ∃ q, Nc = q + 2 := ⟨Nc - 2, by omega⟩
    by_cases ht : tkn f n a = 16 + k
    · have hlt2 := ((tkn_w (f := f) (n := n) (a := a) (j := 16 + k) (by omega)).mp ht).1
      have hi4 : i < 400 := by omega
      obtain ⟨a1, ha1⟩ : ∃ a1, a1 = bl f n (tke f n a) := ⟨_, rfl⟩
      have hb1 := bl_lt (f := f) hlt2
      rw [← ha1] at hb1
      obtain ⟨m1, y1, y2, y3⟩ := p_84s (g := g) (by omega) h1
      rw [show nx f n (.inl a) = .inl a1 by rw [ha1]; rfl] at y3
      have e1 : l_48 s7 s8 s9 g (Nc + 2) 1 (nI (k - 1)) (nI d) 0 (nI (16 + k)) (nI i) m = (s7 (nI k) (nI d) m1).bind (fun z_11 => (d_53 g (-1 - nI (16 + k)) z_11).bind (fun z_15 => l_48 s7 s8 s9 g (Nc + 1) 1 (nI (k - 1)) (nI d) 0 (nI (16 + k)) (nI (i + 1)) z_15)) := by
        rw [l48_1, if_neg (show ¬ (400 : Int32) ≤ nI i from nI_ge (b := 400) hi4 (by omega)), htk, ht, if_neg (show ¬ ¬ nI (16 + k) = nI (16 + k) from fun z => z rfl), y1, Option.bind_some, show nI (k - 1) + 1 = nI k from by rw [nI_1]; congr 1; omega, show nI i + 1 = nI (i + 1) from nI_1 i]
      -- the reference
      obtain ⟨M, rfl⟩ : ∃ q, M = q + 1 := ⟨M - 1, by omega⟩
      obtain ⟨P, rfl⟩ : ∃ q, P = q + 1 := ⟨P - 1, by omega⟩
      obtain ⟨N, rfl⟩ : ∃ q, N = q + 4 := ⟨N - 4, by omega⟩
      have hlen : (σ ++ π).length ≤ 400 := by rw [List.length_append]; omega
      have hq : KQ g (N + 4) (M + 1) (P + 1) S = KB g (N + 1 + 3) (rF S 8 (nI a)) := KQ_no (by omega) hb h2 hs hlen (pend_lt hk hπ hlt) (by omega)
      have ha := h2.a
      have hkb : KB g (N + 1 + 3) (rF S 8 (nI a)) = l_166 g (N + 2) 3 1 (nI (14 - k)) (rF S 8 (nI a)) := by
        rcases hk with ek | ek
        · subst ek; exact KB_or (by omega) ha ht
        · subst ek; exact KB_and (by omega) ha ht
      have hs8 : stk (rF S 8 (nI a)) (σ ++ π) := hs.co (rF_n (by decide)) (rF_n (by decide)) rfl
      have h9' : Lc.length + seg.length + π.length ≤ a := by
        rw [List.length_append, List.length_append, List.length_reverse] at h9
        exact h9
      have hlR : (L ++ seg).length + π.length ≤ a := by
        rw [List.length_append]
        omega
      obtain ⟨S1, z1, z2, z3, z4, z5, z6⟩ := l166_3 (g := g) (N := N) (L := L ++ seg) (σ := σ) (π := π) (by omega) hr hk ha ht hs8 hπ hlt (h4.F (by decide)) hsl hlR
      rw [← ha1] at z2
      have hgr : gRu m1 S1 f n a1 r (L ++ seg ++ π.reverse) (Lc ++ seg ++ π.reverse) V' := by
        refine ⟨y3, z2, h3.c1 y2, z4, by rw [y2.1 4 (by decide)]; exact h5, by rw [z5, rF_n (by decide)]; exact h6, h7, ?_, ?_⟩
        · simp only [List.length_append, List.length_reverse]; omega
        · simp only [List.length_append, List.length_reverse]; omega
      have hrs1 : rfs r S S1 := (rfs.F (by decide)).tr z6
      have hdp : dpt (σ ++ [14 - k]) = d := by
        rw [dpt_a]
        show dpt σ + ((if 14 - k = 11 ∨ 14 - k = 91 then 1 else 0) + 0) = d
        rw [if_neg (by omega), hσd]
        rfl
      have hstr : str (14 - k) = k := by rcases hk with e | e <;> subst e <;> rfl
      obtain ⟨o1, o2⟩ := tr_o hk
      rw [e1, hq, hkb, z1]
      rcases hsub.1 m1 S1 a1 _ _ V' (σ ++ [14 - k]) N g hgr z3 hdp (by rw [List.length_append]; show σ.length + 1 ≤ a1; omega) (by simp only [List.length_append, List.length_reverse]; omega) (Or.inr (by rw [lst_a, hstr]; omega)) (by omega) (by omega) with ⟨m2, S2, a2, seg2, π2, V2, N2, M2, P2, u1, u2, u3, u4, u5, u6, u7, u8, u9, u10, u11, u12, u13, u14, u15⟩ | ⟨m2, S2, v, u1, u2, u3, u4, u5, u6⟩
      · obtain ⟨k1, k2, k3, k4, k5, k6, k7, k8, k9⟩ := u3
        have hle2 := k2.le
        have hlc : (Lc ++ seg ++ π.reverse ++ seg2 ++ π2.reverse).length < 400 := by
          simp only [List.length_append, List.length_reverse]; omega
        obtain ⟨m3, w1, w2, w3, w4, w5, w6⟩ := p_53 (g := g) (c := 14 - k) (x := -1 - nI (16 + k)) hr k3 hlc o1.symm
        rw [show s7 (nI k) (nI d) m1 = some m2 from u1, Option.bind_some, w1, Option.bind_some, u2]
        have hseg : seg ++ π.reverse ++ seg2 ++ ([14 - k] ++ π2).reverse = (seg ++ π.reverse) ++ (seg2 ++ π2.reverse) ++ [14 - k] := by
          simp only [List.reverse_append, List.reverse_cons, List.reverse_nil, List.nil_append, List.append_assoc]
        have hg3 : gRu m3 S2 f n a2 r (L ++ (seg ++ π.reverse ++ seg2)) (Lc ++ (seg ++ π.reverse ++ seg2) ++ ([14 - k] ++ π2).reverse) V2 := by
          refine ⟨k1.co1 w4 w5, k2, ?_, ?_, by rw [w6]; exact k5, k6, k7, ?_, ?_⟩
          · have : Lc ++ (seg ++ π.reverse ++ seg2) ++ ([14 - k] ++ π2).reverse = Lc ++ seg ++ π.reverse ++ seg2 ++ π2.reverse ++ [14 - k] := by
              simp only [List.reverse_append, List.reverse_cons, List.reverse_nil, List.nil_append, List.append_assoc]
            rw [this]; exact w2
          · have : L ++ (seg ++ π.reverse ++ seg2) = L ++ seg ++ π.reverse ++ seg2 := by simp only [List.append_assoc]
            rw [this]; exact k4
          · simp only [List.length_append, List.length_reverse]; omega
          · simp only [List.length_append, List.length_reverse, List.length_cons, List.length_nil]; omega
        have hst3 : stk S2 (σ ++ ([14 - k] ++ π2)) := by rw [← List.append_assoc]; exact u4
        have hpe3 : pend k ([14 - k] ++ π2) := fun x hx => by
          rcases List.mem_append.mp hx with q | q
          · rw [List.mem_singleton.mp q, hstr]
            exact ⟨by omega, Nat.le_refl _⟩
          · exact ⟨(u5 x q).1, by have := (u5 x q).2; omega⟩
        have hty3 : ∀ ts : List Bool, ts.length ≤ V → tyl (seg ++ π.reverse ++ seg2 ++ ([14 - k] ++ π2).reverse) ts = some (true :: ts) := fun ts hts => by
          rw [hseg, tyl_a, tyl_a, hty ts hts, Option.bind_some, u9 (true :: ts) (by show ts.length + 1 ≤ V'; omega), Option.bind_some]
          exact tyl_1 (by show ts.length + 1 + 1 ≤ 60; omega) (o2 ts)
        have hl3 : ([14 - k] ++ π2).length = π2.length + 1 := by simp only [List.length_append, List.length_cons, List.length_nil]; omega
        rw [List.length_append] at u13
        have u13 : σ.length + 1 + π2.length + 3 ≤ P2 := u13
        rcases ih (n - a2) (by omega) a2 (i + 1) N2 M2 P2 (Nc + 1) m3 S2 (seg ++ π.reverse ++ seg2) ([14 - k] ++ π2) V2 (by omega) (by omega) (by omega) hg3 hst3 hpe3 (by rw [hl3]; omega) (fun j j1 j2 => u8 j (by omega) j2) hty3 (by omega) u11 u12 (by rw [hl3]; omega) with ⟨m', S', a', seg', π', V'', N', M', P', t1, t2, t3, t4, t5, t6, t7, t8, t9, t10, t11, t12, t13, t14, t15⟩ | ⟨m', S', v, t1, t2, t3, t4, t5, t6⟩
        · refine Or.inl ⟨m', S', a', seg', π', V'', N', M', P', t1, t2, t3, t4, t5, ?_, by omega, t8, t9, t10, t11, t12, t13, (((rfm.of y2).tr u14).tr w3).tr t14, (hrs1.tr u15).tr t15⟩
          simp only [List.length_append, List.length_reverse, List.length_cons, List.length_nil] at t6
          omega
        · exact Or.inr ⟨m', S', v, t1, t2, t3, t4, (((rfm.of y2).tr u14).tr w3).tr t5, (hrs1.tr u15).tr t6⟩
      · obtain ⟨m3, w1, w2, w3⟩ := f_53 (g := g) (x := -1 - nI (16 + k)) hr u3
        rw [show s7 (nI k) (nI d) m1 = some m2 from u1, Option.bind_some, w1, Option.bind_some, f_l48 (by omega) w2, u2]
        exact Or.inr ⟨m3, S2, v, rfl, rfl, w2, u4, ((rfm.of y2).tr u5).tr w3, hrs1.tr u6⟩
    · have e1 : l_48 s7 s8 s9 g (Nc + 2) 1 (nI (k - 1)) (nI d) 0 (nI (16 + k)) (nI i) m = some m := by
        rw [l48_1]
        by_cases h4 : (400 : Int32) ≤ nI i
        · rw [if_pos h4]
        · rw [if_neg h4, htk, if_pos (show ¬ nI (tkn f n a) = nI (16 + k) from fun z => ht ((nI_eq (by omega) (by omega)).mp z))]
      refine Or.inl ⟨m, S, a, seg, π, V', N, M, P, e1, rfl, h, hs, hπ, Nat.le_refl _, Nat.le_refl _, fun j j1 j2 => ?_, hty, hV, hM, hN, hP, rfm.rf _ _, rfs.rf _ _⟩
      by_cases ej : j = k
      · rw [ej]; exact ht
      · exact htok j (by omega) j2
/-- from facts to rows of them, from these to rows of those -/
theorem t_row {d k nc : Nat} (hg : 5000 ≤ g) (hr : r < 6) (hb : byR f n) (hk : k = 1 ∨ k = 2) (hsub : TST g f n r d (k + 1) (fun m => R_47 g nc 0 (nI k) (nI d) m)) : TST g f n r d k (fun m => R_47 g (nc + 2) 0 (nI (k - 1)) (nI d) m) := by
  have e1 : ∀ m : cM, R_47 g (nc + 2) 0 (nI (k - 1)) (nI d) m = (R_47 g nc 0 (nI k) (nI d) m).bind (fun z => l_48 (fun x1 x2 m => R_47 g nc 0 x1 x2 m) (fun x1 x2 m => R_47 g nc 1 x1 x2 m) (fun x1 m => R_47 g nc 2 x1 0 m) g (g - 1) 1 (nI (k - 1)) (nI d) 0 (nI (16 + k)) (nI 0) z) := fun m => by
    have e0 : ∀ s0 : Int32, l_48 (fun x1 x2 m => R_47 g nc 0 x1 x2 m) (fun x1 x2 m => R_47 g nc 1 x1 x2 m) (fun x1 m => R_47 g nc 2 x1 0 m) g g 0 (nI (k - 1)) (nI d) s0 0 0 m = (R_47 g nc 0 (nI (k - 1) + 1) (nI d) m).bind (fun z => l_48 (fun x1 x2 m => R_47 g nc 0 x1 x2 m) (fun x1 x2 m => R_47 g nc 1 x1 x2 m) (fun x1 m => R_47 g nc 2 x1 0 m) g (g - 1) 1 (nI (k - 1)) (nI d) 0 s0 0 z) := fun s0 => by
      have : ∀ N, l_48 (fun x1 x2 m => R_47 g nc 0 x1 x2 m) (fun x1 x2 m => R_47 g nc 1 x1 x2 m) (fun x1 m => R_47 g nc 2 x1 0 m) g (N + 1) 0 (nI (k - 1)) (nI d) s0 0 0 m = (R_47 g nc 0 (nI (k - 1) + 1) (nI d) m).bind (fun z => l_48 (fun x1 x2 m => R_47 g nc 0 x1 x2 m) (fun x1 x2 m => R_47 g nc 1 x1 x2 m) (fun x1 m => R_47 g nc 2 x1 0 m) g N 1 (nI (k - 1)) (nI d) 0 s0 0 z) := fun N => by
        rw [l_48, if_pos (show 0 = 0 from rfl)]
      have := this (g - 1)
      rw [show g - 1 + 1 = g by omega] at this
      exact this
    have e2 : R_47 g (nc + 2) 0 (nI (k - 1)) (nI d) m = R_47 g (nc + 1) 1 (nI (k - 1)) (nI d) m := by
      show t_47 (fun x1 x2 m => R_47 g (nc + 1) 0 x1 x2 m) (fun x1 x2 m => R_47 g (nc + 1) 1 x1 x2 m) (fun x1 m => R_47 g (nc + 1) 2 x1 0 m) g (nI (k - 1)) (nI d) m = _
      unfold t_47
      rw [if_neg (show ¬ (2 : Int32) ≤ nI (k - 1) by rcases hk with ek | ek <;> subst ek <;> decide)]
      show (R_47 g (nc + 1) 1 (nI (k - 1)) (nI d) m).bind (fun z => some z) = R_47 g (nc + 1) 1 (nI (k - 1)) (nI d) m
      cases R_47 g (nc + 1) 1 (nI (k - 1)) (nI d) m <;> rfl
    rw [e2]
    show t_48 (fun x1 x2 m => R_47 g nc 0 x1 x2 m) (fun x1 x2 m => R_47 g nc 1 x1 x2 m) (fun x1 m => R_47 g nc 2 x1 0 m) g (nI (k - 1)) (nI d) m = _
    unfold t_48
    rw [show nI k = nI (k - 1) + 1 from by rw [nI_1]; congr 1; omega]
    rcases hk with ek | ek
    · subst ek
      rw [if_neg (show ¬ ¬ nI (1 - 1) = 0 from fun z => z rfl), e0]
      rfl
    · subst ek
      rw [if_pos (show ¬ nI (2 - 1) = 0 by decide), e0]
      rfl
  refine ⟨fun m S a L Lc V σ N M h hs hd hsl hLL hlt hM hN => ?_, fun m v h => ?_⟩
  · have hn := h.1.1.2.1
    have hlt : lst σ < k := by
      rcases hlt with q | q
      · omega
      · exact q
    show tGood (R_47 g (nc + 2) 0 (nI (k - 1)) (nI d) m) _ m S g f n a r k L Lc V σ ∨ tBad (R_47 g (nc + 2) 0 (nI (k - 1)) (nI d) m) _ m S f n r
    rw [e1]
    rcases hsub.1 m S a L Lc V σ N M h hs hd hsl hLL (Or.inr (by omega)) hM hN with ⟨m2, S2, a2, seg2, π2, V2, N2, M2, P2, u1, u2, u3, u4, u5, u6, u7, u8, u9, u10, u11, u12, u13, u14, u15⟩ | ⟨m2, S2, v, u1, u2, u3, u4, u5, u6⟩
    · have hle := u3.2.1.le
      rw [show R_47 g nc 0 (nI k) (nI d) m = some m2 from u1, Option.bind_some, u2]
      rcases t_loop (g := g) (r := r) (f := f) (n := n) (L := L) (Lc := Lc) (σ := σ) (V := V) (d := d) (k := k) (s7 := fun x1 x2 m => R_47 g nc 0 x1 x2 m) (s8 := fun x1 x2 m => R_47 g nc 1 x1 x2 m) (s9 := fun x1 m => R_47 g nc 2 x1 0 m) hg hr hb hk hsub hd hlt hLL (n - a2) a2 0 N2 M2 P2 (g - 1) m2 S2 seg2 π2 V2 (by omega) (by omega) (by omega) u3 u4 (fun x hx => ⟨(u5 x hx).1, by have := (u5 x hx).2; omega⟩) (by omega) (fun j j1 j2 => u8 j (by omega) j2) u9 u10 u11 u12 u13 with ⟨m', S', a', seg', π', V'', N', M', P', t1, t2, t3, t4, t5, t6, t7, t8, t9, t10, t11, t12, t13, t14, t15⟩ | ⟨m', S', v, t1, t2, t3, t4, t5, t6⟩
      · exact Or.inl ⟨m', S', a', seg', π', V'', N', M', P', t1, t2, t3, t4, t5, by omega, by omega, t8, t9, t10, t11, t12, t13, u14.tr t14, u15.tr t15⟩
      · exact Or.inr ⟨m', S', v, t1, t2, t3, t4, u14.tr t5, u15.tr t6⟩
    · obtain ⟨g', hg'⟩ : ∃ g', g - 1 = g' + 1 := ⟨g - 2, by omega⟩
      rw [show R_47 g nc 0 (nI k) (nI d) m = some m2 from u1, Option.bind_some, hg', f_l48 (by omega) u3, u2]
      exact Or.inr ⟨m2, S2, v, rfl, rfl, u3, u4, u5, u6⟩
  · obtain ⟨m2, u1, u2, u3⟩ := hsub.2 m v h
    obtain ⟨g', hg'⟩ : ∃ g', g - 1 = g' + 1 := ⟨g - 2, by omega⟩
    refine ⟨m2, ?_, u2, u3⟩
    show R_47 g (nc + 2) 0 (nI (k - 1)) (nI d) m = some m2
    rw [e1, show R_47 g nc 0 (nI k) (nI d) m = some m2 from u1, Option.bind_some, hg', f_l48 (by omega) u2]
end TST2
