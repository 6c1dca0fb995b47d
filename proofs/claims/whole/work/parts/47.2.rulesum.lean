/-! rule: terms, sums -/
section RUS
variable {g r : Nat} {f : Nat → Int32} {n a : Nat} {m : cM} {S : rS} {L Lc : List Nat} {V : Nat}
theorem f_51 {v : Nat} (h : fR m f n r v) : ∃ m', d_51 g m = some m' ∧ fR m' f n r v ∧ rfm r m m' := by
  obtain ⟨m', y1, y2, y3⟩ := f_83 (g := g) (k := 0) (by omega) h
  refine ⟨m', ?_, y2, rfm.of y3⟩
  have h21 : m.1 1 3 = 21 := h.1.2.2.2.1
  unfold d_51
  rw [h21, if_neg (show ¬ (21 : Int32) = 20 by decide), if_neg (show ¬ (21 : Int32) < 8 by decide), show d_83 g 0 m = _ from y1]
  rfl
theorem l50_0 {sf : Int32 → cM → Option cM} {N : Nat} {s0 : Int32} {m : cM} : l_50 sf g (N + 2) 0 (nI 0) s0 0 0 0 m = (sf (nI 1) m).bind (fun z => l_50 sf g N 2 (nI 0) 0 s0 27 0 z) := by
  rw [l_50, if_pos rfl, if_neg (show ¬ ¬ nI 0 = 0 from fun z => z rfl), l_50, if_neg (by decide), if_pos rfl]
  rfl
theorem l50_1 {sf : Int32 → cM → Option cM} {N : Nat} {s0 : Int32} {m : cM} : l_50 sf g (N + 2) 0 (nI 1) s0 0 0 0 m = (sf (nI 2) m).bind (fun z => l_50 sf g N 2 (nI 1) 0 s0 30 0 z) := by
  rw [l_50, if_pos rfl, if_pos (show ¬ nI 1 = 0 by decide), l_50, if_neg (by decide), if_pos rfl]
  rfl
theorem l50_2 {sf : Int32 → cM → Option cM} {N : Nat} {x1 x2 x3 x4 : Int32} {m : cM} : l_50 sf g (N + 1) 2 x1 0 x2 x3 x4 m = (if (400 : Int32) ≤ x4 then some m else (d_138 g (m.1 1 3) x2 x3 m).bind (fun z_7 => if z_7 = 0 then some m else (d_84 g m).bind (fun z_12 => (sf (x1 + 1) z_12).bind (fun z_16 => (d_53 g (-1 - (m.1 1 3)) z_16).bind (fun z_20 => l_50 sf g N 2 x1 0 x2 x3 (x4 + 1) z_20))))) := by
  rw [l_50, if_neg (by decide), if_neg (by decide), if_pos rfl]
/-- the loop of a failed one ends at once -/
theorem f_l50 {sf : Int32 → cM → Option cM} {N v : Nat} {x1 x4 : Int32} {lo hi : Nat} (hlo : 21 < lo) (hlo2 : lo < 100) (h : fR m f n r v) : l_50 sf g (N + 1) 2 x1 0 (nI lo) (nI hi) x4 m = some m := by
  have h21 : m.1 1 3 = nI 21 := h.1.2.2.2.1
  rw [l50_2]
  by_cases h4 : (400 : Int32) ≤ x4
  · rw [if_pos h4]
  · rw [if_neg h4, h21, p_138, Option.bind_some, if_neg (show ¬ (nI lo ≤ nI 21 ∧ nI 21 ≤ nI hi) from fun z => by have := (nI_leI (by omega) (by omega)).mp z.1; omega), if_pos rfl]
theorem f_R50 {v : Nat} (hg : 1000 ≤ g) (h : fR m f n r v) : (∀ N, ∃ m', R_50 g (N + 1) 0 (nI 2) m = some m' ∧ fR m' f n r v ∧ rfm r m m') ∧ (∀ N, ∃ m', R_50 g (N + 2) 0 (nI 1) m = some m' ∧ fR m' f n r v ∧ rfm r m m') ∧ (∀ N, ∃ m', R_50 g (N + 3) 0 (nI 0) m = some m' ∧ fR m' f n r v ∧ rfm r m m') := by
  have h2 : ∀ N, ∃ m', R_50 g (N + 1) 0 (nI 2) m = some m' ∧ fR m' f n r v ∧ rfm r m m' := fun N => by
    obtain ⟨m', y1, y2, y3⟩ := f_51 (g := g) h
    refine ⟨m', ?_, y2, y3⟩
    show t_50 (fun x1 m => R_50 g N 0 x1 m) g (nI 2) m = some m'
    unfold t_50
    rw [if_neg (show ¬ nI 2 ≤ 1 by decide), y1]
    rfl
  obtain ⟨g', hg'⟩ : ∃ g', g = g' + 1 + 2 := ⟨g - 3, by omega⟩
  have h1 : ∀ N, ∃ m', R_50 g (N + 2) 0 (nI 1) m = some m' ∧ fR m' f n r v ∧ rfm r m m' := fun N => by
    obtain ⟨m', y1, y2, y3⟩ := h2 N
    refine ⟨m', ?_, y2, y3⟩
    show t_50 (fun x1 m => R_50 g (N + 1) 0 x1 m) g (nI 1) m = some m'
    unfold t_50
    have e := l50_1 (g := g) (sf := fun x1 m => R_50 g (N + 1) 0 x1 m) (N := g' + 1) (s0 := 28) (m := m)
    rw [← hg'] at e
    rw [if_pos (show nI 1 ≤ 1 by decide), if_pos (show ¬ nI 1 = 0 by decide), e, y1, Option.bind_some]
    exact f_l50 (lo := 28) (hi := 30) (by omega) (by omega) y2
  refine ⟨h2, h1, fun N => ?_⟩
  obtain ⟨m', y1, y2, y3⟩ := h1 N
  refine ⟨m', ?_, y2, y3⟩
  show t_50 (fun x1 m => R_50 g (N + 2) 0 x1 m) g (nI 0) m = some m'
  unfold t_50
  have e := l50_0 (g := g) (sf := fun x1 m => R_50 g (N + 2) 0 x1 m) (N := g' + 1) (s0 := 26) (m := m)
  rw [← hg'] at e
  rw [if_pos (show nI 0 ≤ 1 by decide), if_neg (show ¬ ¬ nI 0 = 0 from fun z => z rfl), e, y1, Option.bind_some]
  exact f_l50 (lo := 26) (hi := 27) (by omega) (by omega) y2
/-- the code of a sign between values -/
def opS (t : Nat) : Nat := if t = 26 then 2 else if t = 27 then 3 else if t = 28 then 4 else if t = 29 then 5 else 14
theorem opS_t {t : Nat} (h1 : 26 ≤ t) (h2 : t ≤ 30) : opS t < 16 ∧ tr (opS t) = -nI 1 - nI t ∧ (∀ ts : List Bool, ru_t (opS t) (false :: false :: ts) = some (false :: ts)) := by
  have h : t = 26 ∨ t = 27 ∨ t = 28 ∨ t = 29 ∨ t = 30 := by omega
  rcases h with e | e | e | e | e <;> subst e <;> exact ⟨by decide, by decide, fun ts => rfl⟩
theorem te_op (h1 : 26 ≤ tkn f n a) (h2 : tkn f n a ≤ 30) : a < n ∧ tke f n a = a + 1 := by
  obtain ⟨q1, q2, q3, q4, q5⟩ := tkn_s (f := f) (n := n) (a := a) (by omega)
  refine ⟨q1, ?_⟩
  rw [q5, ← q4, if_neg (by omega)]
set_option maxHeartbeats 1000000 in
/-- values with signs between them -/
theorem e_loop {x1 lo hi : Nat} {sf : Int32 → cM → Option cM} {RL : Nat → rS → Option (Int32 × rS)} {ds : rS → Option (Int32 × rS)} (hg : 1000 ≤ g) (hr : r < 6) (hlo : 26 ≤ lo) (hlo2 : lo ≤ 30) (hhi : hi ≤ 30) (hsub : ∀ (m : cM) (S : rS) (a : Nat) (L Lc : List Nat) (V : Nat), gRu m S f n a r L Lc V → eR false (sf (nI (x1 + 1)) m) (ds S) m S f n a r L Lc V) (H1 : ∀ (N : Nat) (S : rS) (a : Nat), rg S f n a → ¬ (lo ≤ tkn f n a ∧ tkn f n a ≤ hi) → RL (N + 1) S = some (1, rF S 8 (nI a))) (H2 : ∀ (N : Nat) (S : rS) (a : Nat), rg S f n a → lo ≤ tkn f n a → tkn f n a ≤ hi → RL (N + 3) S = (ds (rF S 8 (nI (a + 1)))).bind (fun z => if ¬ z.1 = 0 then (d_154 g (nI (opS (tkn f n a))) (nI 0) z.2).bind (fun y => RL N y) else some (0, z.2))) : ∀ (d a i N N' : Nat) (m : cM) (S : rS) (seg : List Nat) (V' : Nat), a + d = n → i ≤ a → d + 2 ≤ N → 3 * d + 3 ≤ N' → gRu m S f n a r (L ++ seg) (Lc ++ seg) V' → V + 1 ≤ V' → (∀ ts, ts.length ≤ V → tyl seg ts = some (false :: ts)) → (∃ m' S' a' seg' V'', l_50 sf g N 2 (nI x1) 0 (nI lo) (nI hi) (nI i) m = some m' ∧ RL N' S = some (1, S') ∧ gRu m' S' f n a' r (L ++ seg') (Lc ++ seg') V'' ∧ a + seg'.length ≤ a' + seg.length ∧ a ≤ a' ∧ (∀ ts, ts.length ≤ V → tyl seg' ts = some (false :: ts)) ∧ V + 1 ≤ V'' ∧ rfm r m m' ∧ rfs r S S' ∧ S'.1 13 = S.1 13 ∧ S'.1 16 = S.1 16 ∧ S'.2.1 15 = S.2.1 15) ∨ (∃ m' S' v, l_50 sf g N 2 (nI x1) 0 (nI lo) (nI hi) (nI i) m = some m' ∧ RL N' S = some (0, S') ∧ fR m' f n r v ∧ S'.1 9 = nI v ∧ rfm r m m' ∧ rfs r S S') := by
  intro d
  induction d using Nat.strongRecOn with
  | _ d ih =>
    intro a i N N' m S seg V' had hia hN hN' h hV hty
    obtain ⟨h1, h2, h3, h4, h5, h6, h7, h8, h9⟩ := id h
    have hn := h1.1.2.1
    have htk : m.1 1 3 = nI (tkn f n a) := h1.tk
    have htb := tkn_b (f := f) (n := n) (a := a)
    obtain ⟨N, rfl⟩ : ∃ q, N = q + 2 := ⟨N - 2, by omega⟩
    obtain ⟨N', rfl⟩ : ∃ q, N' = q + 3 := ⟨N' - 3, by omega⟩
    by_cases hin : lo ≤ tkn f n a ∧ tkn f n a ≤ hi
    · obtain ⟨t, hT⟩ : ∃ t, t = tkn f n a := ⟨_, rfl⟩
      obtain ⟨hlt, hte⟩ := te_op (f := f) (n := n) (a := a) (by omega) (by omega)
      obtain ⟨o1, o2, o3⟩ := opS_t (t := t) (by omega) (by omega)
      have hi4 : i < 400 := by omega
      obtain ⟨m1, y1, y2, y3⟩ := p_84s (g := g) hg h1
      obtain ⟨a1, ha1⟩ : ∃ a1, a1 = bl f n (a + 1) := ⟨_, rfl⟩
      have hge : a + 1 ≤ a1 := by rw [ha1]; exact sc_ge
      have hnx : nx f n (.inl a) = .inl a1 := by rw [ha1, ← hte]; rfl
      rw [hnx] at y3
      have hg1 : gRu m1 (rF S 8 (nI (a + 1))) f n a1 r (L ++ seg) (Lc ++ seg) V' := ⟨y3, by rw [ha1]; exact h2.at (by omega), h3.c1 y2, h4.F (by decide), by rw [y2.1 4 (by decide)]; exact h5, by rw [rF_n (by decide)]; exact h6, h7, by omega, by omega⟩
      have e1 : l_50 sf g (N + 2) 2 (nI x1) 0 (nI lo) (nI hi) (nI i) m = (sf (nI (x1 + 1)) m1).bind (fun z_16 => (d_53 g (-nI 1 - nI t) z_16).bind (fun z_20 => l_50 sf g (N + 1) 2 (nI x1) 0 (nI lo) (nI hi) (nI (i + 1)) z_20)) := by
        rw [l50_2, if_neg (show ¬ (400 : Int32) ≤ nI i from nI_ge (b := 400) hi4 (by omega)), htk, p_138, Option.bind_some, if_pos (show nI lo ≤ nI (tkn f n a) ∧ nI (tkn f n a) ≤ nI hi from ⟨nI_le hin.1 (by omega), nI_le hin.2 (by omega)⟩), if_neg n_1, y1, Option.bind_some, show nI x1 + 1 = nI (x1 + 1) from nI_1 x1, show nI i + 1 = nI (i + 1) from nI_1 i, ← hT]
        rfl
      rw [e1, H2 N' S a h2 hin.1 hin.2, ← hT]
      have hf8 : rfs r S (rF S 8 (nI (a + 1))) := rfs.F (by decide)
      rcases hsub m1 _ a1 _ _ V' hg1 with ⟨m2, S2, a2, seg1, V2, z1, z2, z3, z4, z5, z6, z7, z8, z9, z10, z11, z12⟩ | ⟨m2, S2, v, z1, z2, z3, z4, z5, z6⟩
      · obtain ⟨k1, k2, k3, k4, k5, k6, k7, k8, k9⟩ := z3
        have hle2 := k2.le
        rw [List.length_append, List.length_append] at k8 k9
        rw [List.length_append] at h8 h9
        obtain ⟨m3, u1, u2, u3, u4, u5, u6⟩ := p_53 (g := g) (c := opS t) (x := -nI 1 - nI t) hr k3 (by rw [List.length_append, List.length_append]; omega) o2.symm
        obtain ⟨S3, w1, w2, w3, w4, w5⟩ := q_154 (g := g) (s := opS t) (v := 0) hr k4 (by rw [List.length_append, List.length_append]; omega) o1 (by omega)
        rw [z1, Option.bind_some, u1, Option.bind_some, z2, Option.bind_some, if_pos n_1, show d_154 g (nI (opS t)) (nI 0) ((1 : Int32), S2).2 = _ from w1, Option.bind_some]
        have hl1 : seg1.length + a1 ≤ a2 := by omega
        have hg3 : gRu m3 S3 f n a2 r (L ++ (seg ++ seg1 ++ [opS t])) (Lc ++ (seg ++ seg1 ++ [opS t])) V2 := by
          refine ⟨k1.co1 u4 u5, k2.co w4 (w5 0 (by decide) (by decide)), ?_, ?_, by rw [u6]; exact k5, by rw [w4]; exact k6, k7, ?_, ?_⟩
          · rw [← List.append_assoc, ← List.append_assoc]; exact u2
          · rw [← List.append_assoc, ← List.append_assoc]
            rw [show opS t + 16 * 0 = opS t from rfl] at w2
            exact w2
          · simp only [List.length_append, List.length_cons, List.length_nil]; omega
          · simp only [List.length_append, List.length_cons, List.length_nil]; omega
        have hty3 : ∀ ts : List Bool, ts.length ≤ V → tyl (seg ++ seg1 ++ [opS t]) ts = some (false :: ts) := fun ts hts => by
          rw [tyl_a, tyl_a, hty ts hts, Option.bind_some, z6 (false :: ts) (by show ts.length + 1 ≤ V'; omega), Option.bind_some]
          exact tyl_1 (by show ts.length + 1 + 1 ≤ 60; omega) (o3 ts)
        have hlen : (seg ++ seg1 ++ [opS t]).length = seg.length + seg1.length + 1 := by simp only [List.length_append, List.length_cons, List.length_nil]
        rcases ih (n - a2) (by omega) a2 (i + 1) (N + 1) N' m3 S3 (seg ++ seg1 ++ [opS t]) V2 (by omega) (by omega) (by omega) (by omega) hg3 (by omega) hty3 with ⟨m', S', a', seg', V'', t1, t2, t3, t4, t5, t6, t7, t8, t9, t10, t11, t12⟩ | ⟨m', S', v, t1, t2, t3, t4, t5, t6⟩
        · refine Or.inl ⟨m', S', a', seg', V'', t1, t2, t3, ?_, by omega, t6, t7, (((rfm.of y2).tr z8).tr u3).tr t8, ((hf8.tr z9).tr w3).tr t9, ?_, ?_, ?_⟩
          · rw [hlen] at t4; omega
          · rw [t10, w4, z10, rF_n (by decide)]
          · rw [t11, w4, z11, rF_n (by decide)]
          · rw [t12, w5 15 (by decide) (by decide), z12]
        · exact Or.inr ⟨m', S', v, t1, t2, t3, t4, (((rfm.of y2).tr z8).tr u3).tr t5, ((hf8.tr z9).tr w3).tr t6⟩
      · obtain ⟨m3, u1, u2, u3⟩ := f_53 (g := g) (x := -nI 1 - nI t) hr z3
        rw [z1, Option.bind_some, u1, Option.bind_some, f_l50 (by omega) (by omega) u2, z2, Option.bind_some, if_neg n_0]
        exact Or.inr ⟨m3, S2, v, rfl, rfl, u2, z4, ((rfm.of y2).tr z5).tr u3, hf8.tr z6⟩
    · have e1 : l_50 sf g (N + 2) 2 (nI x1) 0 (nI lo) (nI hi) (nI i) m = some m := by
        rw [l50_2]
        by_cases h4 : (400 : Int32) ≤ nI i
        · rw [if_pos h4]
        · rw [if_neg h4, htk, p_138, Option.bind_some, if_neg (show ¬ (nI lo ≤ nI (tkn f n a) ∧ nI (tkn f n a) ≤ nI hi) from fun z => hin ⟨(nI_leI (by omega) (by omega)).mp z.1, (nI_leI (by omega) (by omega)).mp z.2⟩), if_pos rfl]
      rw [e1, H1 (N' + 2) S a h2 hin]
      exact Or.inl ⟨m, rF S 8 (nI a), a, seg, V', rfl, rfl, ⟨h1, h2.see, h3, h4.F (by decide), h5, by rw [rF_n (by decide)]; exact h6, h7, h8, h9⟩, by omega, by omega, hty, hV, rfm.rf _ _, rfs.F (by decide), rF_n (by decide), rF_n (by decide), rfl⟩
/-- from one to a row of them -/
theorem e_row {x1 lo hi : Nat} {sf : Int32 → cM → Option cM} {RL : Nat → rS → Option (Int32 × rS)} {ds : rS → Option (Int32 × rS)} (hg : 5000 ≤ g) (hr : r < 6) (hlo : 26 ≤ lo) (hlo2 : lo ≤ 30) (hhi : hi ≤ 30) (hsub : ∀ (m : cM) (S : rS) (a : Nat) (L Lc : List Nat) (V : Nat), gRu m S f n a r L Lc V → eR false (sf (nI (x1 + 1)) m) (ds S) m S f n a r L Lc V) (H1 : ∀ (N : Nat) (S : rS) (a : Nat), rg S f n a → ¬ (lo ≤ tkn f n a ∧ tkn f n a ≤ hi) → RL (N + 1) S = some (1, rF S 8 (nI a))) (H2 : ∀ (N : Nat) (S : rS) (a : Nat), rg S f n a → lo ≤ tkn f n a → tkn f n a ≤ hi → RL (N + 3) S = (ds (rF S 8 (nI (a + 1)))).bind (fun z => if ¬ z.1 = 0 then (d_154 g (nI (opS (tkn f n a))) (nI 0) z.2).bind (fun y => RL N y) else some (0, z.2))) (h : gRu m S f n a r L Lc V) : eR false ((sf (nI (x1 + 1)) m).bind (fun z => l_50 sf g (g - 2) 2 (nI x1) 0 (nI lo) (nI hi) 0 z)) ((ds S).bind (fun z => if ¬ z.1 = 0 then RL g z.2 else some (0, z.2))) m S f n a r L Lc V := by
  have hn := h.1.1.2.1
  rcases hsub m S a L Lc V h with ⟨m2, S2, a2, seg1, V2, z1, z2, z3, z4, z5, z6, z7, z8, z9, z10, z11, z12⟩ | ⟨m2, S2, v, z1, z2, z3, z4, z5, z6⟩
  · have hle := z3.2.1.le
    rw [z1, Option.bind_some, z2, Option.bind_some, if_pos n_1]
    rcases e_loop (g := g) (r := r) (f := f) (n := n) (L := L) (Lc := Lc) (V := V) (x1 := x1) (lo := lo) (hi := hi) (sf := sf) (RL := RL) (ds := ds) (by omega) hr hlo hlo2 hhi hsub H1 H2 (n - a2) a2 0 (g - 2) g m2 S2 seg1 V2 (by omega) (by omega) (by omega) (by omega) z3 z7 z6 with ⟨m', S', a', seg', V'', t1, t2, t3, t4, t5, t6, t7, t8, t9, t10, t11, t12⟩ | ⟨m', S', v, t1, t2, t3, t4, t5, t6⟩
    · exact Or.inl ⟨m', S', a', seg', V'', t1, t2, t3, by omega, by omega, t6, t7, z8.tr t8, z9.tr t9, t10.trans z10, t11.trans z11, t12.trans z12⟩
    · exact Or.inr ⟨m', S', v, t1, t2, t3, t4, z8.tr t5, z9.tr t6⟩
  · obtain ⟨g', hg'⟩ : ∃ g', g - 2 = g' + 1 := ⟨g - 3, by omega⟩
    rw [z1, Option.bind_some, hg', f_l50 (by omega) (by omega) z3, z2, Option.bind_some, if_neg n_0]
    exact Or.inr ⟨m2, S2, v, rfl, rfl, z3, z4, z5, z6⟩
theorem q146e (hg : 1000 ≤ g) (h : rg S f n a) : d_146 g (rF S 8 (nI a)) = some (if a < n then f a &&& 255 else -1, rF S 8 (nI a)) := by
  rw [q_146s hg h.see, rF_rF]
theorem nx8 (h8 : S.1 8 = nI a) : rF S 8 (S.1 8 + 1) = rF S 8 (nI (a + 1)) := by rw [h8, show nI a + 1 = nI (a + 1) from nI_1 a]
theorem l160_1 {N : Nat} (h8 : S.1 8 = nI a) (h0 : S.2.1 0 = f) (ha : a < 400) : l_160 g (N + 1) 1 0 S = l_160 g N 2 (if f a = 42 then 4 else if f a = 47 then 5 else 14) S := by
  rw [l_160, if_neg (show ¬ 1 = 0 by decide), if_pos (show 1 = 1 from rfl), h8, if_pos (k_in ha (by omega)), k_cl (show a < 2147483648 by omega), h0, if_pos (k_in ha (by omega))]
  by_cases e1 : f a = 42
  · rw [if_neg (fun z => z e1), if_pos e1]
  · rw [if_pos e1, if_neg e1]
    by_cases e2 : f a = 47
    · rw [if_neg (fun z => z e2), if_pos e2]
    · rw [if_pos e2, if_neg e2]
theorem l161_1 {N : Nat} (h8 : S.1 8 = nI a) (h0 : S.2.1 0 = f) (ha : a < 400) : l_161 g (N + 1) 1 0 S = l_161 g N 2 (if f a = 43 then 2 else 3) S := by
  rw [l_161, if_neg (show ¬ 1 = 0 by decide), if_pos (show 1 = 1 from rfl), h8, if_pos (k_in ha (by omega)), k_cl (show a < 2147483648 by omega), h0]
  by_cases e1 : f a = 43
  · rw [if_neg (fun z => z e1), if_pos e1]
  · rw [if_pos e1, if_neg e1]
/-- term -/
theorem e_term {N : Nat} (hg : 5000 ≤ g) (hr : r < 6) (hb : byR f n) (h : gRu m S f n a r L Lc V) : eR false (R_50 g (N + 2) 0 (nI 1) m) (d_160 g S) m S f n a r L Lc V := by
  have e1 : R_50 g (N + 2) 0 (nI 1) m = (R_50 g (N + 1) 0 (nI (1 + 1)) m).bind (fun z => l_50 (fun x1 m => R_50 g (N + 1) 0 x1 m) g (g - 2) 2 (nI 1) 0 (nI 28) (nI 30) 0 z) := by
    show t_50 (fun x1 m => R_50 g (N + 1) 0 x1 m) g (nI 1) m = _
    unfold t_50
    have e := l50_1 (g := g) (sf := fun x1 m => R_50 g (N + 1) 0 x1 m) (N := g - 2) (s0 := 28) (m := m)
    rw [show g - 2 + 2 = g by omega] at e
    rw [if_pos (show nI 1 ≤ 1 by decide), if_pos (show ¬ nI 1 = 0 by decide), e]
    rfl
  have e2 : d_160 g S = (d_159 g S).bind (fun z => if ¬ z.1 = 0 then l_160 g g 0 0 z.2 else some (0, z.2)) := rfl
  rw [e1, e2]
  refine e_row (x1 := 1) (lo := 28) (hi := 30) (sf := fun x1 m => R_50 g (N + 1) 0 x1 m) (RL := fun N S => l_160 g N 0 0 S) (ds := fun S => d_159 g S) hg hr (by omega) (by omega) (by omega) (fun m S a L Lc V h => ?_) (fun N S a h hin => ?_) (fun N S a h h1 h2 => ?_) h
  · have : R_50 g (N + 1) 0 (nI (1 + 1)) m = d_51 g m := by
      show t_50 (fun x1 m => R_50 g N 0 x1 m) g (nI 2) m = d_51 g m
      unfold t_50
      rw [if_neg (show ¬ nI 2 ≤ 1 by decide)]
      cases d_51 g m <;> rfl
    show eR false (R_50 g (N + 1) 0 (nI (1 + 1)) m) (d_159 g S) m S f n a r L Lc V
    rw [this]
    exact e_val (by omega) hr h
  · show l_160 g (N + 1) 0 0 S = _
    have q := q146e (g := g) (by omega) h
    rw [l_160, if_pos rfl, q_146s (by omega) h, Option.bind_some, if_neg (fun z => by have := tk_28.mpr ((see_iff hb (ch := 42) (by omega)).mp z); omega), q, Option.bind_some, if_neg (fun z => by have := tk_29.mpr ((see_iff hb (ch := 47) (by omega)).mp z); omega), q, Option.bind_some, if_pos (fun z => by have := tk_30.mpr ((see_iff hb (ch := 37) (by omega)).mp z); omega)]
  · show l_160 g (N + 3) 0 0 S = _
    have q := q146e (g := g) (by omega) h
    have hn := h.1.2.1
    have h8 : (rF S 8 (nI a)).1 8 = nI a := rF_s
    have h0 : (rF S 8 (nI a)).2.1 0 = f := h.1.2.2
    obtain ⟨hlt, -⟩ := te_op (f := f) (n := n) (a := a) (by omega) (by omega)
    have t1 : ∀ s0 : Int32, l_160 g (N + 1) 2 s0 (rF S 8 (nI a)) = (d_159 g (rF S 8 (nI (a + 1)))).bind (fun z => if ¬ z.1 = 0 then (d_154 g s0 0 z.2).bind (fun y => l_160 g N 0 0 y) else some (0, z.2)) := fun s0 => by
      rw [l_160, if_neg (by decide), if_neg (by decide), if_pos rfl, nx8 h8, rF_rF]
    have hc : tkn f n a = 28 ∨ tkn f n a = 29 ∨ tkn f n a = 30 := by omega
    rcases hc with e | e | e
    · have hf := tk_28.mp e
      rw [l_160, if_pos rfl, q_146s (by omega) h, Option.bind_some, if_pos (show (if a < n then f a &&& 255 else -1) = (42 : Int32) from (see_iff hb (ch := 42) (by omega)).mpr hf)]
      show l_160 g (N + 1 + 1) 1 0 (rF S 8 (nI a)) = _
      rw [l160_1 h8 h0 (by omega), hf.2, t1, e]
      rfl
    · have hf := tk_29.mp e
      rw [l_160, if_pos rfl, q_146s (by omega) h, Option.bind_some, if_neg (fun z => by have := tk_28.mpr ((see_iff hb (ch := 42) (by omega)).mp z); omega), q, Option.bind_some, if_pos (show (if a < n then f a &&& 255 else -1) = (47 : Int32) from (see_iff hb (ch := 47) (by omega)).mpr hf)]
      show l_160 g (N + 1 + 1) 1 0 (rF S 8 (nI a)) = _
      rw [l160_1 h8 h0 (by omega), hf.2, t1, e]
      rfl
    · have hf := tk_30.mp e
      rw [l_160, if_pos rfl, q_146s (by omega) h, Option.bind_some, if_neg (fun z => by have := tk_28.mpr ((see_iff hb (ch := 42) (by omega)).mp z); omega), q, Option.bind_some, if_neg (fun z => by have := tk_29.mpr ((see_iff hb (ch := 47) (by omega)).mp z); omega), q, Option.bind_some, if_neg (fun z => z ((see_iff hb (ch := 37) (by omega)).mpr hf))]
      show l_160 g (N + 1 + 1) 1 0 (rF S 8 (nI a)) = _
      rw [l160_1 h8 h0 (by omega), hf.2, t1, e]
      rfl
/-- sum -/
theorem e_sum {N : Nat} (hg : 5000 ≤ g) (hr : r < 6) (hb : byR f n) (h : gRu m S f n a r L Lc V) : eR false (R_50 g (N + 3) 0 (nI 0) m) (d_161 g S) m S f n a r L Lc V := by
  have e1 : R_50 g (N + 3) 0 (nI 0) m = (R_50 g (N + 2) 0 (nI (0 + 1)) m).bind (fun z => l_50 (fun x1 m => R_50 g (N + 2) 0 x1 m) g (g - 2) 2 (nI 0) 0 (nI 26) (nI 27) 0 z) := by
    show t_50 (fun x1 m => R_50 g (N + 2) 0 x1 m) g (nI 0) m = _
    unfold t_50
    have e := l50_0 (g := g) (sf := fun x1 m => R_50 g (N + 2) 0 x1 m) (N := g - 2) (s0 := 26) (m := m)
    rw [show g - 2 + 2 = g by omega] at e
    rw [if_pos (show nI 0 ≤ 1 by decide), if_neg (show ¬ ¬ nI 0 = 0 from fun z => z rfl), e]
    rfl
  have e2 : d_161 g S = (d_160 g S).bind (fun z => if ¬ z.1 = 0 then l_161 g g 0 0 z.2 else some (0, z.2)) := rfl
  rw [e1, e2]
  refine e_row (x1 := 0) (lo := 26) (hi := 27) (sf := fun x1 m => R_50 g (N + 2) 0 x1 m) (RL := fun N S => l_161 g N 0 0 S) (ds := fun S => d_160 g S) hg hr (by omega) (by omega) (by omega) (fun m S a L Lc V h => e_term hg hr hb h) (fun N S a h hin => ?_) (fun N S a h h1 h2 => ?_) h
  · show l_161 g (N + 1) 0 0 S = _
    have q := q146e (g := g) (by omega) h
    rw [l_161, if_pos rfl, q_146s (by omega) h, Option.bind_some, if_neg (fun z => by have := tk_26.mpr ((see_iff hb (ch := 43) (by omega)).mp z); omega), q, Option.bind_some, if_pos (fun z => by have := tk_27.mpr ((see_iff hb (ch := 45) (by omega)).mp z); omega)]
  · show l_161 g (N + 3) 0 0 S = _
    have q := q146e (g := g) (by omega) h
    have hn := h.1.2.1
    have h8 : (rF S 8 (nI a)).1 8 = nI a := rF_s
    have h0 : (rF S 8 (nI a)).2.1 0 = f := h.1.2.2
    obtain ⟨hlt, -⟩ := te_op (f := f) (n := n) (a := a) (by omega) (by omega)
    have t1 : ∀ s0 : Int32, l_161 g (N + 1) 2 s0 (rF S 8 (nI a)) = (d_160 g (rF S 8 (nI (a + 1)))).bind (fun z => if ¬ z.1 = 0 then (d_154 g s0 0 z.2).bind (fun y => l_161 g N 0 0 y) else some (0, z.2)) := fun s0 => by
      rw [l_161, if_neg (by decide), if_neg (by decide), if_pos rfl, nx8 h8, rF_rF]
    have hc : tkn f n a = 26 ∨ tkn f n a = 27 := by omega
    rcases hc with e | e
    · have hf := tk_26.mp e
      rw [l_161, if_pos rfl, q_146s (by omega) h, Option.bind_some, if_pos (show (if a < n then f a &&& 255 else -1) = (43 : Int32) from (see_iff hb (ch := 43) (by omega)).mpr hf)]
      show l_161 g (N + 1 + 1) 1 0 (rF S 8 (nI a)) = _
      rw [l161_1 h8 h0 (by omega), hf.2, t1, e]
      rfl
    · have hf := tk_27.mp e
      rw [l_161, if_pos rfl, q_146s (by omega) h, Option.bind_some, if_neg (fun z => by have := tk_26.mpr ((see_iff hb (ch := 43) (by omega)).mp z); omega), q, Option.bind_some, if_neg (fun z => z ((see_iff hb (ch := 45) (by omega)).mpr hf))]
      show l_161 g (N + 1 + 1) 1 0 (rF S 8 (nI a)) = _
      rw [l161_1 h8 h0 (by omega), hf.2, t1, e]
      rfl
end RUS
