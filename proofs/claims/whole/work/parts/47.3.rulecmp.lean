/-! rule: a sum against a sum -/
def cmpC (g : Nat) (m : cM) : Option cM := (d_50 g 0 m).bind (fun z_3 => (d_138 g (z_3.1 1 3) 31 35 z_3).bind (fun z_7 => if ¬ z_7 = 0 then (d_52 g z_3).bind (fun z_12 => (d_84 g z_12).bind (fun z_16 => (d_50 g 0 z_16).bind (fun z_20 => (d_53 g (-1 - (z_3.1 1 3)) z_20).bind (fun z_24 => some z_24)))) else (d_83 g 0 z_3).bind (fun z_28 => some z_28)))
section RUP
variable {g r : Nat} {f : Nat → Int32} {n a : Nat} {m : cM} {S : rS} {L Lc : List Nat} {V : Nat}
theorem sg_in {c : Int32} {q : Bool} (h : c = 60 ∨ c = 61 ∨ c = 62) : sgT c q = if c = 60 then (if q = true then 32 else 31) else if c = 61 then 33 else (if q = true then 34 else 35) := by
  rcases h with e | e | e <;> subst e <;> cases q <;> decide
theorem sg_out {c : Int32} {q : Bool} (h : 31 ≤ sgT c q) : c = 60 ∨ c = 61 ∨ c = 62 := by
  unfold sgT at h
  repeat' split at h
  all_goals first | (exact Or.inl (by assumption)) | (exact Or.inr (Or.inl (by assumption))) | (exact Or.inr (Or.inr (by assumption))) | omega
theorem cmp_in : 31 ≤ tkn f n a ↔ (a < n ∧ (f a = 60 ∨ f a = 61 ∨ f a = 62)) := by
  constructor
  · intro h
    obtain ⟨h1, h2, h3, h4, h5⟩ := tkn_s (f := f) (n := n) (a := a) (by omega)
    exact ⟨h1, sg_out (q := eqA f n a) (by omega)⟩
  · intro h
    have key : ∀ ch : Nat, f a = nI ch → ch = 60 ∨ ch = 61 ∨ ch = 62 → 31 ≤ tkn f n a := fun ch hf hc => by
      rw [(tkn_c h.1 hf (by omega) (by omega) (by omega)).1, sg_in h.2]
      repeat' split
      all_goals omega
    rcases h.2 with e | e | e
    · exact key 60 e (Or.inl rfl)
    · exact key 61 e (Or.inr (Or.inl rfl))
    · exact key 62 e (Or.inr (Or.inr rfl))
/-- the tail of compare: the second sum -/
def cmpT (g t : Nat) (S : rS) : Option (Int32 × rS) := (d_161 g S).bind (fun y => if ¬ y.1 = 0 then (d_154 g (nI (t - 25)) (nI 0) y.2).bind (fun w => some (1, w)) else some (0, y.2))
theorem q_162t {ch : Nat} (h : rga S f n a) (hin : 31 ≤ tkn f n a) (hf : f a = nI ch) (hch : ch < 128) : j_162_44 g (nI ch) (nI a) S = (d_155 g (nI a) (rF S 8 (nI (tke f n a)))).bind (fun z => if ¬ z.1 = 0 then cmpT g (tkn f n a) z.2 else some (0, z.2)) := by
  obtain ⟨h1, h2⟩ := cmp_in.mp hin
  have hn := h.1.1.2.1
  obtain ⟨s1, s2, s3, s4, s5⟩ := tkn_s (f := f) (n := n) (a := a) (by omega)
  have hsg := sg_in (q := eqA f n a) h2
  have h8 := h.2
  have h0 : S.2.1 0 = f := h.1.1.2.2
  unfold j_162_44 j_162_89 j_162_90 j_162_105 j_162_152
  rw [h8, show nI a + 1 = nI (a + 1) from nI_1 a]
  rcases h2 with e | e | e
  · have ec : ch = 60 := (nI_eq (b := 60) (by omega) (by omega)).mp (hf.symm.trans e)
    subst ec
    rw [e, if_pos rfl] at hsg
    rw [if_neg (show ¬ nI 60 = 61 by decide), h.1.1.1]
    by_cases q1 : a + 1 < n
    · rw [if_neg (nI_ge q1 (by omega)), if_pos (k_in (show a + 1 < 400 by omega) (by omega)), k_cl (show a + 1 < 2147483648 by omega), h0]
      by_cases q2 : f (a + 1) = 61
      · have eq : eqA f n a = true := by unfold eqA; rw [decide_eq_true q1, decide_eq_true q2]; rfl
        rw [eq, if_pos rfl] at hsg
        rw [eq, e] at s4 s5
        rw [hsg] at s4 s5
        rw [if_neg (fun z => z q2), if_neg n_1, rF_s, rF_rF, show nI (a + 1) + 1 = nI (a + 2) from nI_1 (a + 1), s5, if_pos (Or.inl rfl), s4]
        unfold cmpT
        simp only [show ¬ ¬ nI 60 = 60 from fun z => z rfl, if_false, n_1]
        rfl
      · have eq : eqA f n a = false := by unfold eqA; rw [decide_eq_false q2, Bool.and_false]
        rw [eq, if_neg (by decide)] at hsg
        rw [eq, e] at s4 s5
        rw [hsg] at s4 s5
        rw [if_pos q2, if_pos rfl, s5, if_neg (by omega), s4]
        unfold cmpT
        simp only [show ¬ ¬ nI 60 = 60 from fun z => z rfl, if_false, if_true]
        rfl
    · have eq : eqA f n a = false := by unfold eqA; rw [decide_eq_false q1, Bool.false_and]
      rw [eq, if_neg (by decide)] at hsg
      rw [eq, e] at s4 s5
      rw [hsg] at s4 s5
      rw [if_pos (nI_le (by omega) (by omega)), if_pos rfl, s5, if_neg (by omega), s4]
      unfold cmpT
      simp only [show ¬ ¬ nI 60 = 60 from fun z => z rfl, if_false, if_true]
      rfl
  · have ec : ch = 61 := (nI_eq (b := 61) (by omega) (by omega)).mp (hf.symm.trans e)
    subst ec
    rw [e, if_neg (by decide), if_pos rfl] at hsg
    rw [e] at s4 s5
    rw [hsg] at s4 s5
    rw [if_pos (show nI 61 = 61 from rfl), if_pos rfl, s5, if_neg (by omega), s4]
    unfold cmpT
    simp only [show ¬ nI 61 = 60 by decide, show ¬ ¬ nI 61 = 61 from fun z => z rfl, if_false, if_true, not_false_eq_true]
    rfl
  · have ec : ch = 62 := (nI_eq (b := 62) (by omega) (by omega)).mp (hf.symm.trans e)
    subst ec
    rw [e, if_neg (by decide), if_neg (by decide)] at hsg
    rw [if_neg (show ¬ nI 62 = 61 by decide), h.1.1.1]
    by_cases q1 : a + 1 < n
    · rw [if_neg (nI_ge q1 (by omega)), if_pos (k_in (show a + 1 < 400 by omega) (by omega)), k_cl (show a + 1 < 2147483648 by omega), h0]
      by_cases q2 : f (a + 1) = 61
      · have eq : eqA f n a = true := by unfold eqA; rw [decide_eq_true q1, decide_eq_true q2]; rfl
        rw [eq, if_pos rfl] at hsg
        rw [eq, e] at s4 s5
        rw [hsg] at s4 s5
        rw [if_neg (fun z => z q2), if_neg n_1, rF_s, rF_rF, show nI (a + 1) + 1 = nI (a + 2) from nI_1 (a + 1), s5, if_pos (Or.inr rfl), s4]
        unfold cmpT
        simp only [show ¬ nI 62 = 60 by decide, show ¬ nI 62 = 61 by decide, if_false, if_true, not_false_eq_true, n_1]
        rfl
      · have eq : eqA f n a = false := by unfold eqA; rw [decide_eq_false q2, Bool.and_false]
        rw [eq, if_neg (by decide)] at hsg
        rw [eq, e] at s4 s5
        rw [hsg] at s4 s5
        rw [if_pos q2, if_pos rfl, s5, if_neg (by omega), s4]
        unfold cmpT
        simp only [show ¬ nI 62 = 60 by decide, show ¬ nI 62 = 61 by decide, if_false, if_true, not_false_eq_true]
        rfl
    · have eq : eqA f n a = false := by unfold eqA; rw [decide_eq_false q1, Bool.false_and]
      rw [eq, if_neg (by decide)] at hsg
      rw [eq, e] at s4 s5
      rw [hsg] at s4 s5
      rw [if_pos (nI_le (by omega) (by omega)), if_pos rfl, s5, if_neg (by omega), s4]
      unfold cmpT
      simp only [show ¬ nI 62 = 60 by decide, show ¬ nI 62 = 61 by decide, if_false, if_true, not_false_eq_true]
      rfl
theorem op_c {t : Nat} (h1 : 31 ≤ t) (h2 : t ≤ 35) : t - 25 < 16 ∧ tr (t - 25) = -nI 1 - nI t ∧ (∀ ts : List Bool, ru_t (t - 25) (false :: false :: ts) = some (true :: ts)) := by
  have h : t = 31 ∨ t = 32 ∨ t = 33 ∨ t = 34 ∨ t = 35 := by omega
  rcases h with e | e | e | e | e <;> subst e <;> exact ⟨by decide, by decide, fun ts => rfl⟩
theorem f_cmp {v : Nat} (hg : 1000 ≤ g) (hr : r < 6) (h : fR m f n r v) : ∃ m', cmpC g m = some m' ∧ fR m' f n r v ∧ rfm r m m' := by
  obtain ⟨m1, y1, y2, y3⟩ := (f_R50 (g := g) hg h).2.2 2
  obtain ⟨m2, z1, z2, z3⟩ := f_83 (g := g) (k := 0) (by omega) y2
  have h21 : m1.1 1 3 = 21 := y2.1.2.2.2.1
  refine ⟨m2, ?_, z2, y3.tr (rfm.of z3)⟩
  unfold cmpC d_50
  rw [show R_50 g 5 0 0 m = some m1 from y1, Option.bind_some, h21, p_138, Option.bind_some, if_neg (show ¬ ((31 : Int32) ≤ 21 ∧ (21 : Int32) ≤ 35) by decide), if_neg n_0, show d_83 g 0 m1 = _ from z1]
  rfl
set_option maxHeartbeats 1000000 in
theorem e_cmp (hg : 5000 ≤ g) (hr : r < 6) (hb : byR f n) (h : gRu m S f n a r L Lc V) : eR true (cmpC g m) (d_162 g S) m S f n a r L Lc V := by
  unfold cmpC d_162 d_50
  rcases e_sum (g := g) (N := 2) hg hr hb h with ⟨m1, S1, a1, seg1, V1, y1, y2, y3, y4, y5, y6, y7, y8, y9, y10, y11, y12⟩ | ⟨m1, S1, v, y1, y2, y3, y4, y5, y6⟩
  · rw [show R_50 g 5 0 0 m = some m1 from y1, Option.bind_some, y2, Option.bind_some, if_pos n_1]
    obtain ⟨h1, h2, h3, h4, h5, h6, h7, h8, h9⟩ := y3
    have hn := h1.1.2.1
    have htk : m1.1 1 3 = nI (tkn f n a1) := h1.tk
    have htb := tkn_b (f := f) (n := n) (a := a1)
    have ha := h2.a
    have hle := h2.le
    have hrfs8 : rfs r S1 (rF S1 8 (nI a1)) := rfs.F (by decide)
    show eR true _ ((d_146 g S1).bind _) m S f n a r L Lc V
    rw [q_146s (by omega) h2, Option.bind_some, htk, p_138, Option.bind_some]
    by_cases hin : 31 ≤ tkn f n a1
    · obtain ⟨hlt, hch⟩ := cmp_in.mp hin
      obtain ⟨t, hT⟩ : ∃ t, t = tkn f n a1 := ⟨_, rfl⟩
      obtain ⟨ch, hf, hch2, hch3⟩ : ∃ ch, f a1 = nI ch ∧ ch < 128 ∧ (ch = 60 ∨ ch = 61 ∨ ch = 62) := by
        rcases hch with e | e | e
        · exact ⟨60, e, by omega, Or.inl rfl⟩
        · exact ⟨61, e, by omega, Or.inr (Or.inl rfl)⟩
        · exact ⟨62, e, by omega, Or.inr (Or.inr rfl)⟩
      have hsee : (if a1 < n then f a1 &&& 255 else -1) = nI ch := (see_iff hb hch2).mpr ⟨hlt, hf⟩
      have e162 : (if (if a1 < n then f a1 &&& 255 else -1) = (60 : Int32) then j_162_44 g (if a1 < n then f a1 &&& 255 else -1) (nI a1) (rF S1 8 (nI a1)) else if (if a1 < n then f a1 &&& 255 else -1) = (61 : Int32) then j_162_44 g (if a1 < n then f a1 &&& 255 else -1) (nI a1) (rF S1 8 (nI a1)) else if (if a1 < n then f a1 &&& 255 else -1) = (62 : Int32) then j_162_44 g (if a1 < n then f a1 &&& 255 else -1) (nI a1) (rF S1 8 (nI a1)) else (d_145 g 0 (nI a1) (rF S1 8 (nI a1))).bind (fun z_15 => if z_15.1 = 0 ∨ z_15.1 = 1 then some (z_15.1, z_15.2) else none)) = j_162_44 g (nI ch) (nI a1) (rF S1 8 (nI a1)) := by
        rw [hsee]
        rcases hch3 with e | e | e
        · subst e; rw [if_pos (show nI 60 = 60 from rfl)]
        · subst e; rw [if_neg (by decide), if_pos (show nI 61 = 61 from rfl)]
        · subst e; rw [if_neg (by decide), if_neg (by decide), if_pos (show nI 62 = 62 from rfl)]
      show eR true _ (if (if a1 < n then f a1 &&& 255 else -1) = (60 : Int32) then j_162_44 g (if a1 < n then f a1 &&& 255 else -1) ((rF S1 8 (nI a1)).1 8) (rF S1 8 (nI a1)) else if (if a1 < n then f a1 &&& 255 else -1) = (61 : Int32) then j_162_44 g (if a1 < n then f a1 &&& 255 else -1) ((rF S1 8 (nI a1)).1 8) (rF S1 8 (nI a1)) else if (if a1 < n then f a1 &&& 255 else -1) = (62 : Int32) then j_162_44 g (if a1 < n then f a1 &&& 255 else -1) ((rF S1 8 (nI a1)).1 8) (rF S1 8 (nI a1)) else (d_145 g 0 ((rF S1 8 (nI a1)).1 8) (rF S1 8 (nI a1))).bind (fun z_15 => if z_15.1 = 0 ∨ z_15.1 = 1 then some (z_15.1, z_15.2) else none)) m S f n a r L Lc V
      rw [show (rF S1 8 (nI a1)).1 8 = nI a1 from rF_s, e162, q_162t ha hin hf hch2, rF_rF, if_pos (show (31 : Int32) ≤ nI (tkn f n a1) ∧ nI (tkn f n a1) ≤ 35 from ⟨nI_le (a := 31) hin (by omega), nI_le (b := 35) htb (by omega)⟩), if_pos n_1]
      obtain ⟨a2, ha2⟩ : ∃ a2, a2 = bl f n (tke f n a1) := ⟨_, rfl⟩
      have hlt2 := bl_lt (f := f) hlt
      have hg2 := h2.at (p := tke f n a1) (tke_le hle)
      rw [← ha2] at hg2 hlt2
      have hrfst : rfs r S1 (rF S1 8 (nI (tke f n a1))) := rfs.F (by decide)
      rcases e_one (g := g) (m := m1) (S := rF S1 8 (nI (tke f n a1))) (b := 0) h7 h5 (by rw [rF_n (by decide)]; exact h6) hg2.2.1 h1 with ⟨hV, t1, t2⟩ | ⟨m', t1, t2, t3, t4⟩
      · have hc2 : cs (cW m1 4 2 (nI (V1 + 1))) f n (.inl a1) := h1.W (by omega) (by omega)
        obtain ⟨m2, u1, u2, u3⟩ := p_84s (g := g) (by omega) hc2
        rw [show nx f n (.inl a1) = .inl a2 by rw [ha2]; rfl] at u3
        have hg3 : gRu m2 (rF (rF S1 8 (nI (tke f n a1))) 12 (nI (V1 + 1))) f n a2 r (L ++ seg1) (Lc ++ seg1) (V1 + 1) := ⟨u3, hg2.F (by decide) (by decide) (by decide), (h3.W4 (k := 2) (v := nI (V1 + 1))).c1 u2, (h4.F (k := 8) (v := nI (tke f n a1)) (by decide)).F (by decide), by rw [u2.1 4 (by decide), cW_s], rF_s, by omega, by omega, by omega⟩
        rw [t1, Option.bind_some, u1, Option.bind_some, t2, Option.bind_some, if_pos n_1]
        show eR true _ (cmpT g (tkn f n a1) (rF (rF S1 8 (nI (tke f n a1))) 12 (nI (V1 + 1)))) m S f n a r L Lc V
        unfold cmpT
        obtain ⟨o1, o2, o3⟩ := op_c (t := t) (by omega) (by omega)
        rw [← hT]
        have hrm2 : rfm r m m2 := (y8.tr rfm.W4).tr (rfm.of u2)
        have hrs2 : rfs r S (rF (rF S1 8 (nI (tke f n a1))) 12 (nI (V1 + 1))) := (y9.tr hrfst).tr (rfs.F (by decide))
        rcases e_sum (g := g) (N := 2) hg hr hb hg3 with ⟨m3, S3, a3, seg2, V3, z1, z2, z3, z4, z5, z6, z7, z8, z9, z10, z11, z12⟩ | ⟨m3, S3, v, z1, z2, z3, z4, z5, z6⟩
        · obtain ⟨k1, k2, k3, k4, k5, k6, k7, k8, k9⟩ := z3
          have hle3 := k2.le
          rw [List.length_append, List.length_append] at k8 k9
          rw [List.length_append] at h8 h9
          obtain ⟨m4, w1, w2, w3, w4, w5, w6⟩ := p_53 (g := g) (c := t - 25) (x := -nI 1 - nI t) hr k3 (by rw [List.length_append, List.length_append]; omega) o2.symm
          obtain ⟨S4, x1, x2, x3, x4, x5⟩ := q_154 (g := g) (s := t - 25) (v := 0) hr k4 (by rw [List.length_append, List.length_append]; omega) o1 (by omega)
          rw [show R_50 g 5 0 0 m2 = some m3 from z1, Option.bind_some, show d_53 g (-1 - nI t) m3 = some m4 from w1, Option.bind_some, z2, Option.bind_some, if_pos n_1, show d_154 g (nI (t - 25)) (nI 0) ((1 : Int32), S3).2 = _ from x1, Option.bind_some]
          refine Or.inl ⟨m4, S4, a3, seg1 ++ seg2 ++ [t - 25], V3, rfl, rfl, ⟨k1.co1 w4 w5, k2.co x4 (x5 0 (by decide) (by decide)), ?_, ?_, by rw [w6]; exact k5, by rw [x4]; exact k6, k7, ?_, ?_⟩, ?_, by omega, fun ts hts => ?_, by omega, (hrm2.tr z8).tr w3, (hrs2.tr z9).tr x3, ?_, ?_, ?_⟩
          · rw [← List.append_assoc, ← List.append_assoc]; exact w2
          · rw [← List.append_assoc, ← List.append_assoc]; exact x2
          · simp only [List.length_append, List.length_cons, List.length_nil]; omega
          · simp only [List.length_append, List.length_cons, List.length_nil]; omega
          · simp only [List.length_append, List.length_cons, List.length_nil]; omega
          · rw [tyl_a, tyl_a, y6 ts hts, Option.bind_some, z6 (false :: ts) (by show ts.length + 1 ≤ V1 + 1; omega), Option.bind_some]
            exact tyl_1 (by show ts.length + 1 + 1 ≤ 60; omega) (o3 ts)
          · rw [x4, z10, rF_n (by decide), rF_n (by decide), y10]
          · rw [x4, z11, rF_n (by decide), rF_n (by decide), y11]
          · rw [x5 15 (by decide) (by decide), z12]; exact y12
        · obtain ⟨m4, w1, w2, w3⟩ := f_53 (g := g) (x := -1 - nI t) hr z3
          rw [show R_50 g 5 0 0 m2 = some m3 from z1, Option.bind_some, w1, Option.bind_some, z2, Option.bind_some, if_neg n_0]
          exact Or.inr ⟨m4, S3, v, rfl, rfl, w2, z4, (hrm2.tr z5).tr w3, hrs2.tr z6⟩
      · have hlc : (Lc ++ seg1).length ≤ 400 := by omega
        have hf : fR m' f n r (1 + 8 * a1 + 3) := fR.of t2 ((h3.W4 (k := 2) (v := nI 61)).c1 t3) hlc
        obtain ⟨m2, u1, u2, u3⟩ := f_84 (g := g) (by omega) hf
        obtain ⟨m3, w1, w2, w3⟩ := (f_R50 (g := g) (by omega) u2).2.2 2
        obtain ⟨m4, x1, x2, x3⟩ := f_53 (g := g) (x := -1 - nI (tkn f n a1)) hr w2
        rw [t1, Option.bind_some, u1, Option.bind_some, show R_50 g 5 0 0 m2 = some m3 from w1, Option.bind_some, x1, Option.bind_some, t4, Option.bind_some, if_neg n_0]
        exact Or.inr ⟨m4, _, _, rfl, rfl, x2, rF_s, ((((y8.tr rfm.W4).tr (rfm.of t3)).tr (rfm.of u3)).tr w3).tr x3, (y9.tr hrfst).tr (rfs.F (by decide))⟩
    · obtain ⟨m2, u1, u2, u3⟩ := p_83s (g := g) (k := 0) (by omega) h1
      have hno : ∀ ch : Nat, ch = 60 ∨ ch = 61 ∨ ch = 62 → ¬ (if a1 < n then f a1 &&& 255 else -1) = nI ch := fun ch hc z => by
        have := (see_iff hb (by omega)).mp z
        refine hin (cmp_in.mpr ⟨this.1, ?_⟩)
        rcases hc with e | e | e
        · subst e; exact Or.inl this.2
        · subst e; exact Or.inr (Or.inl this.2)
        · subst e; exact Or.inr (Or.inr this.2)
      rw [if_neg (show ¬ ((31 : Int32) ≤ nI (tkn f n a1) ∧ nI (tkn f n a1) ≤ 35) from fun z => hin ((nI_leI (a := 31) (by omega) (by omega)).mp z.1)), if_neg n_0, show d_83 g 0 m1 = _ from u1, Option.bind_some, if_neg (show ¬ (if a1 < n then f a1 &&& 255 else -1) = (60 : Int32) from hno 60 (Or.inl rfl)), if_neg (show ¬ (if a1 < n then f a1 &&& 255 else -1) = (61 : Int32) from hno 61 (Or.inr (Or.inl rfl))), if_neg (show ¬ (if a1 < n then f a1 &&& 255 else -1) = (62 : Int32) from hno 62 (Or.inr (Or.inr rfl)))]
      show eR true _ ((d_145 g 0 ((rF S1 8 (nI a1)).1 8) (rF S1 8 (nI a1))).bind _) m S f n a r L Lc V
      rw [rF_s, show d_145 g 0 (nI a1) (rF S1 8 (nI a1)) = _ from q_145s (k := 0) ha.1, Option.bind_some, if_pos (Or.inl rfl)]
      exact Or.inr ⟨m2, _, _, rfl, rfl, fR.of u3 (h3.c1 u2) (by omega), rF_s, y8.tr (rfm.of u2), (y9.tr hrfs8).tr (rfs.F (by decide))⟩
  · obtain ⟨m2, z1, z2, z3⟩ := f_83 (g := g) (k := 0) (by omega) y3
    have h21 : m1.1 1 3 = 21 := y3.1.2.2.2.1
    rw [show R_50 g 5 0 0 m = some m1 from y1, Option.bind_some, h21, p_138, Option.bind_some, if_neg (show ¬ ((31 : Int32) ≤ 21 ∧ (21 : Int32) ≤ 35) by decide), if_neg n_0, show d_83 g 0 m1 = _ from z1, Option.bind_some, y2, Option.bind_some, if_neg n_0]
    exact Or.inr ⟨m2, S1, v, rfl, rfl, z2, y4, y5.tr (rfm.of z3), y6⟩
end RUP
