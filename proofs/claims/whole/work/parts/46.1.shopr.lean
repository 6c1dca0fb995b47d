/-! shop, of the reference: the clauses -/
section SHR
variable {g : Nat} {f : Nat → Int32} {n : Nat} {S : rS}
def rga (S : rS) (f : Nat → Int32) (n a : Nat) : Prop := rg S f n a ∧ S.1 8 = nI a
theorem rg.a {a : Nat} (h : rg S f n a) : rga (rF S 8 (nI a)) f n a := ⟨h.see, rF_s⟩
theorem q_149e {a j : Nat} {W : Int64} (hg : 1000 ≤ g) (hj : j < 20) (hW : W = Int64.ofNat (wdC.getD j 0)) (h : rga S f n a) : d_149 g W S = some (if tkn f n a = j then 1 else 0, S) := by
  rw [q_149s hg hj hW h.1, rF_id h.2]
theorem q_150e {a j : Nat} (hg : 1000 ≤ g) (hj : j < 20) (h : rga S f n a) (ht : tkn f n a = j) : ∃ S', d_150 g S = some S' ∧ rg S' f n (bl f n (tke f n a)) ∧ r8 S S' := ⟨_, q_150s hg hj h.1 h.2 ht, h.1.at (tke_le h.1.le), rc.F (by decide)⟩
/-- how a clause ends -/
def cR (f : Nat → Int32) (n : Nat) (s : sP) (r : Option (Int32 × rS)) (S : rS) (u : Nat → Int32) : Prop := (∃ a' S', s = .inl a' ∧ r = some (1, S') ∧ rg S' f n a' ∧ S'.2.1 7 = u ∧ rc [8, 9, 10] [7] S S') ∨ (∃ v S', s = .inr v ∧ r = some (0, S') ∧ S'.1 9 = nI v ∧ rc [8, 9, 10] [7] S S')
theorem ns_r {xl xh : Int32} {v : Nat} : ns f n xl xh (.inr v) = .inr v := rfl
theorem rg.u {a c : Nat} {x : Nat → Int32} (h : rg S f n a) : rg (rA S 7 x) f n a := ⟨⟨h.1.1, h.1.2.1, by rw [rA_n (by decide)]; exact h.1.2.2⟩, h.2⟩
theorem r8.m {S S' : rS} (h : r8 S S') : rc [8, 9, 10] [7] S S' := h.mo (by decide) (by decide)
theorem i_0 : aIn (0 : Int32) 140 = true := by decide
theorem i_1 : aIn (1 : Int32) 140 = true := by decide
theorem i_2 : aIn (2 : Int32) 140 = true := by decide
theorem i_3 : aIn (3 : Int32) 140 = true := by decide
theorem i_6 : aIn (6 : Int32) 140 = true := by decide
theorem i_10 : aIn (10 : Int32) 140 = true := by decide
theorem c_0 : (0 : Int32).toNatClampNeg = 0 := rfl
theorem c_1 : (1 : Int32).toNatClampNeg = 1 := rfl
theorem c_2 : (2 : Int32).toNatClampNeg = 2 := rfl
theorem c_3 : (3 : Int32).toNatClampNeg = 3 := rfl
theorem c_6 : (6 : Int32).toNatClampNeg = 6 := rfl
theorem c_10 : (10 : Int32).toNatClampNeg = 10 := rfl
theorem n_1 : ¬ ((1 : Int32) = 0) := by decide
theorem n_0 : ¬ ¬ ((0 : Int32) = 0) := fun z => z rfl
theorem q_169 {a : Nat} {x1 : Int32} {u : Nat → Int32} (hg : 1000 ≤ g) (h : rga S f n a) (hu : S.2.1 7 = u) (ht : tkn f n a = 8) (h0 : u 0 = nI 0) : cR f n (ns f n 0 9999 (ns f n 0 999 (.inl (bl f n (tke f n a))))) (d_169 g x1 S) S (upd (upd (upd u 4 (nI (nv f n 0 999 (.inl (bl f n (tke f n a)))))) 5 (nI (nv f n 0 9999 (ns f n 0 999 (.inl (bl f n (tke f n a))))))) 0 1) := by
  obtain ⟨S1, y1, y2, y3⟩ := q_150e (g := g) hg (by omega) h ht
  obtain ⟨b, hb⟩ : ∃ b, b = bl f n (tke f n a) := ⟨_, rfl⟩
  rw [← hb] at y2 ⊢
  have e0 : S.2.1 7 0 = 0 := by rw [hu]; exact h0
  have e7 : S1.2.1 7 = u := (y3.2 7 (by simp)).trans hu
  unfold d_169
  rw [if_pos i_0, c_0, e0, if_pos (Int32.le_refl _), y1, Option.bind_some]
  rcases q_168s (g := g) (c := 4) (xl := 0) (xh := 999) hg y2 (by decide) (by omega) with ⟨a2, S2, z1, z2, z3, z4, z5, -, -, -, z9⟩ | ⟨v, S2, z1, z2, z3, z4⟩
  · rw [show d_168 g 4 0 999 S1 = _ from z3, Option.bind_some, if_neg n_1, z1]
    rcases q_168s (g := g) (c := 5) (xl := 0) (xh := 9999) hg z4 (by decide) (by omega) with ⟨a3, S3, u1, u2, u3, u4, u5, -, -, -, u9⟩ | ⟨v, S3, u1, u2, u3, u4⟩
    · rw [show d_168 g 5 0 9999 S2 = _ from u3, Option.bind_some, if_pos n_1, if_pos i_0, u1]
      refine Or.inl ⟨a3, _, rfl, rfl, rg.u (c := 0) u4, ?_, ((y3.m.tr z9).tr u9).tr (rc.A (by decide))⟩
      rw [rA_s]
      show upd (S3.2.1 7) 0 1 = _
      rw [u5, z5, e7]
    · rw [show d_168 g 5 0 9999 S2 = _ from u2, Option.bind_some, if_neg n_0, u1]
      exact Or.inr ⟨v, S3, rfl, rfl, u3, (y3.m.tr z9).tr u4⟩
  · rw [show d_168 g 4 0 999 S1 = _ from z2, Option.bind_some, if_pos rfl, z1, ns_r]
    exact Or.inr ⟨v, S2, rfl, rfl, z3, y3.m.tr z4⟩
theorem q_170 {a T : Nat} {x1 : Int32} {u : Nat → Int32} (hg : 1000 ≤ g) (h : rga S f n a) (hu : S.2.1 7 = u) (ht : tkn f n a = 0) (h1 : u 1 = nI T) (hT : T < 8) : cR f n (ns f n 0 9 (ns f n 0 5000 (ns f n 1 5000 (.inl (bl f n (tke f n a)))))) (d_170 g x1 S) S (upd (upd (upd (upd u (80 + 2 * T) (nI (nv f n 1 5000 (.inl (bl f n (tke f n a)))))) (81 + 2 * T) (nI (nv f n 0 5000 (ns f n 1 5000 (.inl (bl f n (tke f n a))))))) (16 + 5 * T) (nI (nv f n 0 9 (ns f n 0 5000 (ns f n 1 5000 (.inl (bl f n (tke f n a)))))))) 1 (nI (T + 1))) := by
  obtain ⟨S1, y1, y2, y3⟩ := q_150e (g := g) hg (by omega) h ht
  obtain ⟨b, hb⟩ : ∃ b, b = bl f n (tke f n a) := ⟨_, rfl⟩
  rw [← hb] at y2 ⊢
  have e7 : S1.2.1 7 = u := (y3.2 7 (by simp)).trans hu
  unfold d_170
  rw [if_pos i_1, c_1, hu, h1, if_pos (show ¬ nI T = 8 from fun z => by have := (nI_eq (b := 8) (by omega) (by omega)).mp z; omega), y1, Option.bind_some, if_pos i_1, e7, h1, show (80 : Int32) + 2 * nI T = nI (80 + 2 * T) from by rw [show (80 : Int32) = nI 80 from rfl, show (2 : Int32) = nI 2 from rfl, pk_mul, nI_add]]
  rcases q_168s (g := g) (c := 80 + 2 * T) (xl := 1) (xh := 5000) hg y2 (by decide) (by omega) with ⟨a2, S2, z1, z2, z3, z4, z5, -, -, -, z9⟩ | ⟨v, S2, z1, z2, z3, z4⟩
  · rw [z3, Option.bind_some, if_neg n_1, z1, show nI (80 + 2 * T) + 1 = nI (81 + 2 * T) from by rw [nI_1]; congr 1; omega]
    rcases q_168s (g := g) (c := 81 + 2 * T) (xl := 0) (xh := 5000) hg z4 (by decide) (by omega) with ⟨a3, S3, u1, u2, u3, u4, u5, -, -, -, u9⟩ | ⟨v, S3, u1, u2, u3, u4⟩
    · have e3 : S3.2.1 7 1 = nI T := by rw [u5, z5, e7, upd_n (by omega), upd_n (by omega)]; exact h1
      rw [show d_168 g (nI (81 + 2 * T)) 0 5000 S2 = _ from u3, Option.bind_some, if_neg n_1, if_pos i_1, u1]
      show cR f n _ ((d_168 g (16 + 5 * S3.2.1 7 1) 0 9 S3).bind _) S _
      rw [e3, show (16 : Int32) + 5 * nI T = nI (16 + 5 * T) from by rw [show (16 : Int32) = nI 16 from rfl, show (5 : Int32) = nI 5 from rfl, pk_mul, nI_add]]
      rcases q_168s (g := g) (c := 16 + 5 * T) (xl := 0) (xh := 9) hg u4 (by decide) (by omega) with ⟨a4, S4, t1, t2, t3, t4, t5, -, -, -, t9⟩ | ⟨v, S4, t1, t2, t3, t4⟩
      · have e4 : S4.2.1 7 1 = nI T := by rw [t5, upd_n (by omega)]; exact e3
        rw [t3, Option.bind_some, if_pos n_1, if_pos i_1, if_pos i_1, t1]
        refine Or.inl ⟨a4, _, rfl, rfl, rg.u (c := 0) t4, ?_, (((y3.m.tr z9).tr u9).tr t9).tr (rc.A (by decide))⟩
        rw [rA_s]
        show upd (S4.2.1 7) 1 (S4.2.1 7 1 + 1) = _
        rw [e4, t5, u5, z5, e7, show nI T + 1 = nI (T + 1) from nI_1 T]
      · rw [t2, Option.bind_some, if_neg n_0, t1]
        exact Or.inr ⟨v, S4, rfl, rfl, t3, ((y3.m.tr z9).tr u9).tr t4⟩
    · rw [show d_168 g (nI (81 + 2 * T)) 0 5000 S2 = _ from u2, Option.bind_some, if_pos rfl, u1, ns_r]
      exact Or.inr ⟨v, S3, rfl, rfl, u3, (y3.m.tr z9).tr u4⟩
  · rw [z2, Option.bind_some, if_pos rfl, z1, ns_r, ns_r]
    exact Or.inr ⟨v, S2, rfl, rfl, z3, y3.m.tr z4⟩
theorem le9 {T : Nat} (hT : T ≤ 8) : nI T - 1 ≤ (99999 : Int32) := by
  have : ∀ T, T < 9 → nI T - 1 ≤ (99999 : Int32) := by decide
  exact this T (by omega)
theorem q_171 {a T W : Nat} {x1 : Int32} {u : Nat → Int32} (hg : 1000 ≤ g) (h : rga S f n a) (hu : S.2.1 7 = u) (ht : tkn f n a = 9) (h1 : u 1 = nI T) (hT : T ≤ 8) (h2 : u 2 = nI W) (hW : W < 6) : cR f n (ns f n 0 30 (ns f n 0 (nI T - 1) (.inl (bl f n (tke f n a))))) (d_171 g x1 S) S (upd (upd (upd u (96 + 2 * W) (nI (nv f n 0 (nI T - 1) (.inl (bl f n (tke f n a)))))) (97 + 2 * W) (nI (nv f n 0 30 (ns f n 0 (nI T - 1) (.inl (bl f n (tke f n a))))))) 2 (nI (W + 1))) := by
  obtain ⟨S1, y1, y2, y3⟩ := q_150e (g := g) hg (by omega) h ht
  obtain ⟨b, hb⟩ : ∃ b, b = bl f n (tke f n a) := ⟨_, rfl⟩
  rw [← hb] at y2 ⊢
  have e7 : S1.2.1 7 = u := (y3.2 7 (by simp)).trans hu
  unfold d_171
  rw [if_pos i_2, c_2, hu, h2, if_pos (show ¬ nI W = 6 from fun z => by have := (nI_eq (b := 6) (by omega) (by omega)).mp z; omega), y1, Option.bind_some, if_pos i_2, if_pos i_1, c_1, e7, h1, h2, show (96 : Int32) + 2 * nI W = nI (96 + 2 * W) from by rw [show (96 : Int32) = nI 96 from rfl, show (2 : Int32) = nI 2 from rfl, pk_mul, nI_add]]
  rcases q_168s (g := g) (c := 96 + 2 * W) (xl := 0) (xh := nI T - 1) hg y2 (le9 hT) (by omega) with ⟨a2, S2, z1, z2, z3, z4, z5, -, -, -, z9⟩ | ⟨v, S2, z1, z2, z3, z4⟩
  · rw [z3, Option.bind_some, if_neg n_1, z1, show nI (96 + 2 * W) + 1 = nI (97 + 2 * W) from by rw [nI_1]; congr 1; omega]
    rcases q_168s (g := g) (c := 97 + 2 * W) (xl := 0) (xh := 30) hg z4 (by decide) (by omega) with ⟨a3, S3, u1, u2, u3, u4, u5, -, -, -, u9⟩ | ⟨v, S3, u1, u2, u3, u4⟩
    · have e3 : S3.2.1 7 2 = nI W := by rw [u5, z5, e7, upd_n (by omega), upd_n (by omega)]; exact h2
      rw [show d_168 g (nI (97 + 2 * W)) 0 30 S2 = _ from u3, Option.bind_some, if_pos n_1, if_pos i_2, if_pos i_2, u1]
      refine Or.inl ⟨a3, _, rfl, rfl, rg.u (c := 0) u4, ?_, ((y3.m.tr z9).tr u9).tr (rc.A (by decide))⟩
      rw [rA_s]
      show upd (S3.2.1 7) 2 (S3.2.1 7 2 + 1) = _
      rw [e3, u5, z5, e7, show nI W + 1 = nI (W + 1) from nI_1 W]
    · rw [show d_168 g (nI (97 + 2 * W)) 0 30 S2 = _ from u2, Option.bind_some, if_neg n_0, u1]
      exact Or.inr ⟨v, S3, rfl, rfl, u3, (y3.m.tr z9).tr u4⟩
  · rw [z2, Option.bind_some, if_pos rfl, z1, ns_r]
    exact Or.inr ⟨v, S2, rfl, rfl, z3, y3.m.tr z4⟩
theorem q_172 {a T : Nat} {x1 : Int32} {u : Nat → Int32} (hg : 1000 ≤ g) (h : rga S f n a) (hu : S.2.1 7 = u) (ht : tkn f n a = 2) (h1 : u 10 = nI T) (hT : T < 4) : cR f n (ns f n 1 90 (ns f n (nI (nv f n 0 99 (.inl (bl f n (tke f n a))))) 99 (ns f n 0 99 (.inl (bl f n (tke f n a)))))) (d_172 g x1 S) S (upd (upd (upd (upd u (108 + 3 * T) (nI (nv f n 0 99 (.inl (bl f n (tke f n a)))))) (109 + 3 * T) (nI (nv f n (nI (nv f n 0 99 (.inl (bl f n (tke f n a))))) 99 (ns f n 0 99 (.inl (bl f n (tke f n a))))))) (110 + 3 * T) (nI (nv f n 1 90 (ns f n (nI (nv f n 0 99 (.inl (bl f n (tke f n a))))) 99 (ns f n 0 99 (.inl (bl f n (tke f n a)))))))) 10 (nI (T + 1))) := by
  obtain ⟨S1, y1, y2, y3⟩ := q_150e (g := g) hg (by omega) h ht
  obtain ⟨b, hb⟩ : ∃ b, b = bl f n (tke f n a) := ⟨_, rfl⟩
  rw [← hb] at y2 ⊢
  have e7 : S1.2.1 7 = u := (y3.2 7 (by simp)).trans hu
  unfold d_172
  rw [if_pos i_10, c_10, hu, h1, if_pos (show ¬ nI T = 4 from fun z => by have := (nI_eq (b := 4) (by omega) (by omega)).mp z; omega), y1, Option.bind_some, if_pos i_10, e7, h1, show (108 : Int32) + 3 * nI T = nI (108 + 3 * T) from by rw [show (108 : Int32) = nI 108 from rfl, show (3 : Int32) = nI 3 from rfl, pk_mul, nI_add]]
  rcases q_168s (g := g) (c := 108 + 3 * T) (xl := 0) (xh := 99) hg y2 (by decide) (by omega) with ⟨a2, S2, z1, z2, z3, z4, z5, -, -, -, z9⟩ | ⟨v, S2, z1, z2, z3, z4⟩
  · obtain ⟨x, hx⟩ : ∃ x, x = nv f n 0 99 (.inl b) := ⟨_, rfl⟩
    rw [← hx] at z5
    rw [show d_168 g (nI (108 + 3 * T)) 0 99 S1 = _ from z3, Option.bind_some, if_neg n_1, if_pos (k_in (show 108 + 3 * T < 140 by omega) (by omega)), z1, ← hx]
    show cR f n _ ((d_168 g (nI (108 + 3 * T) + 1) (S2.2.1 7 (nI (108 + 3 * T)).toNatClampNeg) 99 S2).bind _) S _
    rw [k_cl (show 108 + 3 * T < 2147483648 by omega), z5, e7, upd_s, show nI (108 + 3 * T) + 1 = nI (109 + 3 * T) from by rw [nI_1]; congr 1; omega]
    rcases q_168s (g := g) (c := 109 + 3 * T) (xl := nI x) (xh := 99) hg z4 (by decide) (by omega) with ⟨a3, S3, u1, u2, u3, u4, u5, -, -, -, u9⟩ | ⟨v, S3, u1, u2, u3, u4⟩
    · rw [u3, Option.bind_some, if_neg n_1, u1, show nI (108 + 3 * T) + 2 = nI (110 + 3 * T) from by rw [show (2 : Int32) = nI 2 from rfl, nI_add]; congr 1; omega]
      rcases q_168s (g := g) (c := 110 + 3 * T) (xl := 1) (xh := 90) hg u4 (by decide) (by omega) with ⟨a4, S4, t1, t2, t3, t4, t5, -, -, -, t9⟩ | ⟨v, S4, t1, t2, t3, t4⟩
      · have e4 : S4.2.1 7 10 = nI T := by rw [t5, upd_n (by omega), u5, upd_n (by omega), z5, upd_n (by omega), e7]; exact h1
        rw [show d_168 g (nI (110 + 3 * T)) 1 90 S3 = _ from t3, Option.bind_some, if_pos n_1, if_pos i_10, if_pos i_10, t1]
        refine Or.inl ⟨a4, _, rfl, rfl, rg.u (c := 0) t4, ?_, (((y3.m.tr z9).tr u9).tr t9).tr (rc.A (by decide))⟩
        rw [rA_s]
        show upd (S4.2.1 7) 10 (S4.2.1 7 10 + 1) = _
        rw [e4, t5, u5, z5, e7, show nI T + 1 = nI (T + 1) from nI_1 T]
      · rw [show d_168 g (nI (110 + 3 * T)) 1 90 S3 = _ from t2, Option.bind_some, if_neg n_0, t1]
        exact Or.inr ⟨v, S4, rfl, rfl, t3, ((y3.m.tr z9).tr u9).tr t4⟩
    · rw [u2, Option.bind_some, if_pos rfl, u1, ns_r]
      exact Or.inr ⟨v, S3, rfl, rfl, u3, (y3.m.tr z9).tr u4⟩
  · rw [show d_168 g (nI (108 + 3 * T)) 0 99 S1 = _ from z2, Option.bind_some, if_pos rfl, z1, ns_r, ns_r]
    exact Or.inr ⟨v, S2, rfl, rfl, z3, y3.m.tr z4⟩
/-- a code's last number -/
theorem jq_173 {b C : Nat} {x1 x2 : Int32} {u : Nat → Int32} (hg : 1000 ≤ g) (h : rg S f n b) (hu : S.2.1 7 = u) (h3 : u 3 = nI C) (hC : C < 5) : cR f n (ns f n 0 9999 (.inl b)) (j_173_88 g x1 x2 (nI (120 + 4 * C)) S) S (upd (upd u (122 + 4 * C) (nI (nv f n 0 9999 (.inl b)))) 3 (nI (C + 1))) := by
  unfold j_173_88
  rw [show nI (120 + 4 * C) + 2 = nI (122 + 4 * C) from by rw [show (2 : Int32) = nI 2 from rfl, nI_add]; congr 1; omega]
  rcases q_168s (g := g) (c := 122 + 4 * C) (xl := 0) (xh := 9999) hg h (by decide) (by omega) with ⟨a2, S2, z1, z2, z3, z4, z5, -, -, -, z9⟩ | ⟨v, S2, z1, z2, z3, z4⟩
  · have e4 : S2.2.1 7 3 = nI C := by rw [z5, upd_n (by omega), hu]; exact h3
    rw [z3, Option.bind_some, if_pos n_1, if_pos i_3, if_pos i_3, c_3, z1]
    refine Or.inl ⟨a2, _, rfl, rfl, rg.u (c := 0) z4, ?_, z9.tr (rc.A (by decide))⟩
    rw [rA_s]
    show upd (S2.2.1 7) 3 (S2.2.1 7 3 + 1) = _
    rw [e4, z5, hu, show nI C + 1 = nI (C + 1) from nI_1 C]
  · rw [z2, Option.bind_some, if_neg n_0, z1]
    exact Or.inr ⟨v, S2, rfl, rfl, z3, z4⟩
theorem q_173 {a C kd : Nat} {x2 : Int32} {u : Nat → Int32} (hg : 1000 ≤ g) (h : rga S f n a) (hu : S.2.1 7 = u) (hk : kd ≤ 2) (ht : tkn f n a = 10 + kd) (h3 : u 3 = nI C) (hC : C < 5) : cR f n (ns f n 0 9999 (cdS f n kd (.inl (bl f n (tke f n a))))) (d_173 g (nI kd) x2 S) S (upd (upd (upd (upd (upd (upd u (120 + 4 * C) (nI kd)) (121 + 4 * C) 0) (123 + 4 * C) 0) (121 + 4 * C) (nI (cdV f n kd (.inl (bl f n (tke f n a)))))) (122 + 4 * C) (nI (nv f n 0 9999 (cdS f n kd (.inl (bl f n (tke f n a))))))) 3 (nI (C + 1))) := by
  obtain ⟨S1, y1, y2, y3⟩ := q_150e (g := g) hg (by omega) h ht
  obtain ⟨b, hb⟩ : ∃ b, b = bl f n (tke f n a) := ⟨_, rfl⟩
  rw [← hb] at y2 ⊢
  have e7 : S1.2.1 7 = u := (y3.2 7 (by simp)).trans hu
  unfold d_173
  rw [if_pos i_3, c_3, hu, h3, if_pos (show ¬ nI C = 5 from fun z => by have := (nI_eq (b := 5) (by omega) (by omega)).mp z; omega), y1, Option.bind_some, if_pos i_3, e7, h3, show (120 : Int32) + 4 * nI C = nI (120 + 4 * C) from by rw [show (120 : Int32) = nI 120 from rfl, show (4 : Int32) = nI 4 from rfl, pk_mul, nI_add], show nI (120 + 4 * C) + 1 = nI (121 + 4 * C) from by rw [nI_1]; congr 1; omega, show nI (120 + 4 * C) + 3 = nI (123 + 4 * C) from by rw [show (3 : Int32) = nI 3 from rfl, nI_add]; congr 1; omega, if_pos (k_in (show 120 + 4 * C < 140 by omega) (by omega)), if_pos (k_in (show 121 + 4 * C < 140 by omega) (by omega)), if_pos (k_in (show 123 + 4 * C < 140 by omega) (by omega)), k_cl (show 120 + 4 * C < 2147483648 by omega), k_cl (show 121 + 4 * C < 2147483648 by omega), k_cl (show 123 + 4 * C < 2147483648 by omega)]
  obtain ⟨S2, hS2⟩ : ∃ S2, S2 = rA (rA (rA S1 7 (upd u (120 + 4 * C) (nI kd))) 7 (upd (upd u (120 + 4 * C) (nI kd)) (121 + 4 * C) 0)) 7 (upd (upd (upd u (120 + 4 * C) (nI kd)) (121 + 4 * C) 0) (123 + 4 * C) 0) := ⟨_, rfl⟩
  rw [← hS2]
  have g2 : rg S2 f n b := by rw [hS2]; exact rg.u (c := 0) (rg.u (c := 0) (rg.u (c := 0) y2))
  have f2 : S2.2.1 7 = upd (upd (upd u (120 + 4 * C) (nI kd)) (121 + 4 * C) 0) (123 + 4 * C) 0 := by rw [hS2, rA_s]
  have hrc : rc [8, 9, 10] [7] S S2 := by rw [hS2]; exact ((y3.m.tr (rc.A (by decide))).tr (rc.A (by decide))).tr (rc.A (by decide))
  have f3 : (upd (upd (upd u (120 + 4 * C) (nI kd)) (121 + 4 * C) 0) (123 + 4 * C) 0) 3 = nI C := by rw [upd_n (by omega), upd_n (by omega), upd_n (by omega)]; exact h3
  have fin : ∀ {s : sP} {r : Option (Int32 × rS)} {S' : rS} {w : Nat → Int32}, cR f n s r S' w → rc [8, 9, 10] [7] S S' → cR f n s r S w := by
    intro s r S' w hc hr
    rcases hc with ⟨a', S'', x1, x2, x3, x4, x5⟩ | ⟨v, S'', x1, x2, x3, x4⟩
    · exact Or.inl ⟨a', S'', x1, x2, x3, x4, hr.tr x5⟩
    · exact Or.inr ⟨v, S'', x1, x2, x3, hr.tr x4⟩
  by_cases hk2 : kd = 2
  · subst hk2
    rw [if_pos (show nI 2 = 2 from rfl)]
    have := jq_173 (g := g) (x1 := nI 2) (x2 := x2) hg g2 f2 f3 hC
    have eu : upd (upd (upd (upd u (120 + 4 * C) (nI 2)) (121 + 4 * C) 0) (123 + 4 * C) 0) (121 + 4 * C) (nI (cdV f n 2 (.inl b))) = upd (upd (upd u (120 + 4 * C) (nI 2)) (121 + 4 * C) 0) (123 + 4 * C) 0 := by
      funext j
      by_cases e : j = 121 + 4 * C
      · subst e; rw [upd_s, upd_n (by omega), upd_s]; rfl
      · rw [upd_n e]
    rw [eu]
    exact fin this hrc
  · rw [if_neg (show ¬ nI kd = 2 from fun z => hk2 ((nI_eq (b := 2) (by omega) (by omega)).mp z))]
    unfold j_173_80
    have hk1 : kd = 0 ∨ kd = 1 := by omega
    rcases hk1 with e | e
    · subst e
      rw [if_neg (show ¬ ¬ nI 0 = 0 from fun z => z rfl)]
      show cR f n (ns f n 0 9999 (ns f n 1 90 (.inl b))) _ S (upd (upd (upd _ _ (nI (nv f n 1 90 (.inl b)))) _ (nI (nv f n 0 9999 (ns f n 1 90 (.inl b))))) _ _)
      rcases q_168s (g := g) (c := 121 + 4 * C) (xl := 1) (xh := 90) hg g2 (by decide) (by omega) with ⟨a2, S3, z1, z2, z3, z4, z5, -, -, -, z9⟩ | ⟨v, S3, z1, z2, z3, z4⟩
      · rw [show d_168 g (nI (121 + 4 * C)) 1 90 S2 = _ from z3, Option.bind_some, if_pos n_1, z1]
        rw [f2] at z5
        exact fin (jq_173 (g := g) (x1 := nI 0) (x2 := x2) hg z4 z5 (by rw [upd_n (by omega)]; exact f3) hC) (hrc.tr z9)
      · rw [show d_168 g (nI (121 + 4 * C)) 1 90 S2 = _ from z2, Option.bind_some, if_neg n_0, z1, ns_r]
        exact Or.inr ⟨v, S3, rfl, rfl, z3, hrc.tr z4⟩
    · subst e
      rw [if_pos (show ¬ nI 1 = 0 by decide)]
      show cR f n (ns f n 0 9999 (ns f n 1 2000 (.inl b))) _ S (upd (upd (upd _ _ (nI (nv f n 1 2000 (.inl b)))) _ (nI (nv f n 0 9999 (ns f n 1 2000 (.inl b))))) _ _)
      rcases q_168s (g := g) (c := 121 + 4 * C) (xl := 1) (xh := 2000) hg g2 (by decide) (by omega) with ⟨a2, S3, z1, z2, z3, z4, z5, -, -, -, z9⟩ | ⟨v, S3, z1, z2, z3, z4⟩
      · rw [show d_168 g (nI (121 + 4 * C)) 1 2000 S2 = _ from z3, Option.bind_some, if_pos n_1, z1]
        rw [f2] at z5
        exact fin (jq_173 (g := g) (x1 := nI 1) (x2 := x2) hg z4 z5 (by rw [upd_n (by omega)]; exact f3) hC) (hrc.tr z9)
      · rw [show d_168 g (nI (121 + 4 * C)) 1 2000 S2 = _ from z2, Option.bind_some, if_neg n_0, z1, ns_r]
        exact Or.inr ⟨v, S3, rfl, rfl, z3, hrc.tr z4⟩
end SHR
