/-! shop, of the reference: alone, again, a line -/
section SHL
variable {g : Nat} {f : Nat → Int32} {n : Nat} {S : rS}
theorem i_12 {x : Nat} (h : x < 5) : (120 : Int32) + 4 * nI x + 3 = nI (123 + 4 * x) := by
  rw [show (120 : Int32) = nI 120 from rfl, show (4 : Int32) = nI 4 from rfl, show (3 : Int32) = nI 3 from rfl, pk_mul, nI_add, nI_add]
  congr 1
  omega
theorem q_174 {a C : Nat} {u : Nat → Int32} (hg : 1000 ≤ g) (h : rga S f n a) (hu : S.2.1 7 = u) (ht : tkn f n a = 13) (h3 : u 3 = nI C) (hC : C ≤ 5) : cR f n (ns f n 0 (nI C - 1) (alS f n (nI C - 1) (.inl (bl f n (tke f n a))))) (d_174 g S) S (upd (upd u (123 + 4 * nv f n 0 (nI C - 1) (.inl (bl f n (tke f n a)))) (u (123 + 4 * nv f n 0 (nI C - 1) (.inl (bl f n (tke f n a)))) ||| (1 <<< (nI (nv f n 0 (nI C - 1) (alS f n (nI C - 1) (.inl (bl f n (tke f n a))))) &&& 31)))) (123 + 4 * nv f n 0 (nI C - 1) (alS f n (nI C - 1) (.inl (bl f n (tke f n a))))) ((upd u (123 + 4 * nv f n 0 (nI C - 1) (.inl (bl f n (tke f n a)))) (u (123 + 4 * nv f n 0 (nI C - 1) (.inl (bl f n (tke f n a)))) ||| (1 <<< (nI (nv f n 0 (nI C - 1) (alS f n (nI C - 1) (.inl (bl f n (tke f n a))))) &&& 31)))) (123 + 4 * nv f n 0 (nI C - 1) (alS f n (nI C - 1) (.inl (bl f n (tke f n a))))) ||| (1 <<< (nI (nv f n 0 (nI C - 1) (.inl (bl f n (tke f n a)))) &&& 31)))) := by
  obtain ⟨S1, y1, y2, y3⟩ := q_150e (g := g) hg (by omega) h ht
  obtain ⟨b, hb⟩ : ∃ b, b = bl f n (tke f n a) := ⟨_, rfl⟩
  rw [← hb] at y2 ⊢
  have e7 : S1.2.1 7 = u := (y3.2 7 (by simp)).trans hu
  have hh : nI C - 1 ≤ (99999 : Int32) := le9 (by omega)
  unfold d_174
  rw [y1, Option.bind_some, if_pos i_3, c_3, e7, h3]
  rcases q_152s (g := g) (xl := 0) (xh := nI C - 1) hg y2 hh with ⟨a2, S2, z1, z2, z3, z4, z5, z6, z7, z8, z9⟩ | ⟨v, S2, z1, z2, z3, z4⟩
  · obtain ⟨one, hone⟩ : ∃ one, one = nv f n 0 (nI C - 1) (.inl b) := ⟨_, rfl⟩
    rw [← hone] at z5 z6 z7 z8 ⊢
    have hC1 : one < C := lt5 (by omega) hC z7
    have f7 : S2.2.1 7 = u := (z9.2 7 (by simp)).trans e7
    have z4s := z4.a
    rw [z3, Option.bind_some, if_pos n_1]
    show cR f n _ ((d_146 g S2).bind _) S _
    rw [q_146s hg z4, Option.bind_some, if_pos i_3]
    show cR f n _ ((d_152 g 0 (S2.2.1 7 3 - 1) (rF S2 8 (nI a2))).bind _) S _
    rw [f7, h3]
    have hal : alS f n (nI C - 1) (.inl b) = if tkn f n a2 = 20 ∧ num f n a2 = one then .inr (1 + 8 * a2 + 1) else .inl a2 := by
      unfold alS
      rw [z1, hone]
      rfl
    have hr2 : rc [8, 9, 10] [7] S (rF S2 8 (nI a2)) := (y3.m.tr z9.m).tr (rc.F (by decide))
    rcases q_152s (g := g) (xl := 0) (xh := nI C - 1) hg z4s.1 hh with ⟨a3, S3, u1, u2, u3, u4, u5, u6, u7, u8, u9⟩ | ⟨v, S3, u1, u2, u3, u4⟩
    · obtain ⟨two, htwo⟩ : ∃ two, two = nv f n 0 (nI C - 1) (.inl a2) := ⟨_, rfl⟩
      rw [← htwo] at u5 u7 u8
      have hC2 : two < C := lt5 (by omega) hC u7
      -- the number itself
      have h20 : tkn f n a2 = 20 ∧ two = num f n a2 := by
        have h : (if tkn f n a2 = 20 then (if (0 : Int32) ≤ nI (num f n a2) ∧ nI (num f n a2) ≤ nI C - 1 then Sum.inl (bl f n (tke f n a2)) else Sum.inr (1 + 8 * a2 + 1)) else Sum.inr (1 + 8 * a2 + 0)) = (Sum.inl a3 : sP) := u1
        by_cases q1 : tkn f n a2 = 20
        · rw [if_pos q1] at h
          by_cases q2 : (0 : Int32) ≤ nI (num f n a2) ∧ nI (num f n a2) ≤ nI C - 1
          · exact ⟨q1, by rw [htwo]; exact if_pos ⟨q1, q2⟩⟩
          · rw [if_neg q2] at h; cases h
        · rw [if_neg q1] at h; cases h
      have e10 : S2.1 10 = nI one := z5
      have g7 : S3.2.1 7 = u := (u9.2 7 (by simp)).trans f7
      rw [u3, Option.bind_some, if_pos n_1]
      show cR f n _ (if ¬ S3.1 10 = S2.1 10 then _ else _) S _
      rw [u5, e10]
      by_cases he : two = one
      · rw [if_neg (show ¬ ¬ nI two = nI one from fun z => z (by rw [he])), hal, if_pos ⟨h20.1, by rw [← h20.2]; exact he⟩, ns_r]
        refine Or.inr ⟨_, rF S3 9 (nI (1 + 8 * a2 + 1)), rfl, ?_, rF_s, (hr2.tr u9.m).tr (rc.F (by decide))⟩
        show (d_145 g 1 ((rF S2 8 (nI a2)).1 8) S3).bind _ = _
        rw [rF_s]
        have e : (1 + 8 * nI a2 + 1 : Int32) = nI (1 + 8 * a2 + 1) := by
          rw [show (8 : Int32) = nI 8 from rfl, show (1 : Int32) = nI 1 from rfl, pk_mul, nI_add, nI_add]
        rw [q_145 u4.2.1, e, Option.bind_some, if_pos (Or.inl rfl)]
      · have hal2 : alS f n (nI C - 1) (.inl b) = .inl a2 := by rw [hal, if_neg (fun z => he (h20.2.trans z.2))]
        rw [if_pos (show ¬ nI two = nI one from fun z => he ((nI_eq (by omega) (by omega)).mp z)), hal2, ← htwo, i_12 (show one < 5 by omega), i_12 (show two < 5 by omega), if_pos (k_in (show 123 + 4 * one < 140 by omega) (by omega)), if_pos (k_in (show 123 + 4 * one < 140 by omega) (by omega)), if_pos (k_in (show 123 + 4 * two < 140 by omega) (by omega)), if_pos (k_in (show 123 + 4 * two < 140 by omega) (by omega)), k_cl (show 123 + 4 * one < 2147483648 by omega), k_cl (show 123 + 4 * two < 2147483648 by omega), u1]
        refine Or.inl ⟨a3, _, rfl, rfl, rg.u (c := 0) (rg.u (c := 0) u4), ?_, ((hr2.tr u9.m).tr (rc.A (by decide))).tr (rc.A (by decide))⟩
        rw [rA_s]
        show upd (upd (S3.2.1 7) _ (S3.2.1 7 _ ||| _)) _ _ = _
        rw [g7]
    · rw [u2, Option.bind_some, if_neg n_0]
      have : ns f n 0 (nI C - 1) (alS f n (nI C - 1) (.inl b)) = .inr v := by
        rw [hal]
        by_cases q : tkn f n a2 = 20 ∧ num f n a2 = one
        · rw [if_pos q, ns_r]
          exfalso
          have h : (if tkn f n a2 = 20 then (if (0 : Int32) ≤ nI (num f n a2) ∧ nI (num f n a2) ≤ nI C - 1 then Sum.inl (bl f n (tke f n a2)) else Sum.inr (1 + 8 * a2 + 1)) else Sum.inr (1 + 8 * a2 + 0)) = (Sum.inr v : sP) := u1
          rw [if_pos q.1, q.2, if_pos ⟨z6, z7⟩] at h
          cases h
        · rw [if_neg q]; exact u1
      exact Or.inr ⟨v, S3, this, rfl, u3, hr2.tr u4.m⟩
  · rw [z2, Option.bind_some, if_neg n_0]
    have : ns f n 0 (nI C - 1) (alS f n (nI C - 1) (.inl b)) = .inr v := by
      unfold alS
      rw [z1, if_neg (show ¬ (tkS f n (.inr v) = 20 ∧ _) from fun z => absurd z.1 (by show ¬ 21 = 20; decide)), ns_r]
    exact Or.inr ⟨v, S2, this, rfl, z3, y3.m.tr z4.m⟩
theorem q_175 {a : Nat} {x1 : Int32} {u : Nat → Int32} (hg : 1000 ≤ g) (h : rga S f n a) (hu : S.2.1 7 = u) (ht : tkn f n a = 14) (h6 : u 6 = nI 0) : cR f n (.inl (bl f n (tke f n a))) (d_175 g x1 S) S (upd u 6 1) := by
  obtain ⟨S1, y1, y2, y3⟩ := q_150e (g := g) hg (by omega) h ht
  have e7 : S1.2.1 7 = u := (y3.2 7 (by simp)).trans hu
  unfold d_175
  rw [if_pos i_6, c_6, hu, h6, if_pos (show nI 0 ≤ 0 from Int32.le_refl _), y1, Option.bind_some, if_pos i_6, e7]
  exact Or.inl ⟨_, _, rfl, rfl, rg.u (c := 0) y2, rA_s, y3.m.tr (rc.A (by decide))⟩
/-- a word of a shop -/
def isSh (t : Nat) : Prop := t = 0 ∨ t = 2 ∨ t = 8 ∨ t = 9 ∨ t = 10 ∨ t = 11 ∨ t = 12 ∨ t = 13 ∨ t = 14
theorem q_177 {a : Nat} (hg : 1000 ≤ g) (h : rga S f n a) : (isSh (tkn f n a) → d_177 g S = some (1, S)) ∧ (¬ isSh (tkn f n a) → d_177 g S = some (0, S)) := by
  have w8 := q_149e (g := g) (j := 8) (W := 1936224112) hg (by decide) (by decide) h
  have w0 := q_149e (g := g) (j := 0) (W := 499967946343) hg (by decide) (by decide) h
  have w9 := q_149e (g := g) (j := 9) (W := 2002873972) hg (by decide) (by decide) h
  have w2 := q_149e (g := g) (j := 2) (W := 1935764581) hg (by decide) (by decide) h
  have w10 := q_149e (g := g) (j := 10) (W := 31636739359862388) hg (by decide) (by decide) h
  have w11 := q_149e (g := g) (j := 11) (W := 7300710) hg (by decide) (by decide) h
  have w12 := q_149e (g := g) (j := 12) (W := 1886352244) hg (by decide) (by decide) h
  have w13 := q_149e (g := g) (j := 13) (W := 418431069797) hg (by decide) (by decide) h
  have w14 := q_149e (g := g) (j := 14) (W := 418346264942) hg (by decide) (by decide) h
  unfold d_177 j_177_50 j_177_55 j_177_100
  constructor
  · intro hs
    rcases hs with e | e | e | e | e | e | e | e | e <;> rw [e] at w8 w0 w9 w2 w10 w11 w12 w13 w14 <;> simp only [w8, w0, w9, w2, w10, w11, w12, w13, w14, Option.bind_some, if_true, if_false, Nat.reduceEqDiff, n_1, n_0, not_true, not_false_eq_true, z00]
  · intro hs
    have e0 : ¬ tkn f n a = 0 := fun z => hs (Or.inl z)
    have e2 : ¬ tkn f n a = 2 := fun z => hs (Or.inr (Or.inl z))
    have e8 : ¬ tkn f n a = 8 := fun z => hs (Or.inr (Or.inr (Or.inl z)))
    have e9 : ¬ tkn f n a = 9 := fun z => hs (Or.inr (Or.inr (Or.inr (Or.inl z))))
    have e10 : ¬ tkn f n a = 10 := fun z => hs (Or.inr (Or.inr (Or.inr (Or.inr (Or.inl z)))))
    have e11 : ¬ tkn f n a = 11 := fun z => hs (Or.inr (Or.inr (Or.inr (Or.inr (Or.inr (Or.inl z))))))
    have e12 : ¬ tkn f n a = 12 := fun z => hs (Or.inr (Or.inr (Or.inr (Or.inr (Or.inr (Or.inr (Or.inl z)))))))
    have e13 : ¬ tkn f n a = 13 := fun z => hs (Or.inr (Or.inr (Or.inr (Or.inr (Or.inr (Or.inr (Or.inr (Or.inl z))))))))
    have e14 : ¬ tkn f n a = 14 := fun z => hs (Or.inr (Or.inr (Or.inr (Or.inr (Or.inr (Or.inr (Or.inr (Or.inr z))))))))
    rw [if_neg e0] at w0
    rw [if_neg e2] at w2
    rw [if_neg e8] at w8
    rw [if_neg e9] at w9
    rw [if_neg e10] at w10
    rw [if_neg e11] at w11
    rw [if_neg e12] at w12
    rw [if_neg e13] at w13
    rw [if_neg e14] at w14
    simp only [w8, w0, w9, w2, w10, w11, w12, w13, w14, Option.bind_some, if_true, if_false, n_1, n_0, not_true, not_false_eq_true, z00]
/-- which clause -/
def yn (r : Option (Int32 × rS)) : Option (Int32 × rS) := r.bind (fun z => if z.1 = 0 ∨ z.1 = 1 then some (z.1, z.2) else none)
theorem q_176_8 {a : Nat} {x1 : Int32} (hg : 1000 ≤ g) (h : rga S f n a) (e : tkn f n a = 8) : d_176 g x1 S = yn (d_169 g x1 S) := by
  have w8 : d_149 g 1936224112 S = some (1, S) := by
    rw [q_149e (g := g) (j := 8) hg (by decide) (by decide) h, if_pos e]
  unfold d_176
  rw [w8, Option.bind_some, if_neg n_1]
  rfl
theorem q_176_0 {a : Nat} {x1 : Int32} (hg : 1000 ≤ g) (h : rga S f n a) (e : tkn f n a = 0) (h0 : ¬ S.2.1 7 0 = 0) : d_176 g x1 S = yn (d_170 g x1 S) := by
  have w8 : d_149 g 1936224112 S = some (0, S) := by
    rw [q_149e (g := g) (j := 8) hg (by decide) (by decide) h, if_neg (by omega)]
  have w0 : d_149 g 499967946343 S = some (1, S) := by
    rw [q_149e (g := g) (j := 0) hg (by decide) (by decide) h, if_pos e]
  unfold d_176
  rw [w8, Option.bind_some, if_pos rfl, if_pos i_0, c_0, if_pos h0, w0, Option.bind_some, if_neg n_1]
  rfl
theorem q_176_9 {a : Nat} {x1 : Int32} (hg : 1000 ≤ g) (h : rga S f n a) (e : tkn f n a = 9) (h0 : ¬ S.2.1 7 0 = 0) : d_176 g x1 S = yn (d_171 g x1 S) := by
  have w8 : d_149 g 1936224112 S = some (0, S) := by
    rw [q_149e (g := g) (j := 8) hg (by decide) (by decide) h, if_neg (by omega)]
  have w0 : d_149 g 499967946343 S = some (0, S) := by
    rw [q_149e (g := g) (j := 0) hg (by decide) (by decide) h, if_neg (by omega)]
  have w9 : d_149 g 2002873972 S = some (1, S) := by
    rw [q_149e (g := g) (j := 9) hg (by decide) (by decide) h, if_pos e]
  unfold d_176
  rw [w8, Option.bind_some, if_pos rfl, if_pos i_0, c_0, if_pos h0, w0, Option.bind_some, if_pos rfl, w9, Option.bind_some, if_neg n_1]
  rfl
theorem q_176_2 {a : Nat} {x1 : Int32} (hg : 1000 ≤ g) (h : rga S f n a) (e : tkn f n a = 2) (h0 : ¬ S.2.1 7 0 = 0) : d_176 g x1 S = yn (d_172 g x1 S) := by
  have w8 : d_149 g 1936224112 S = some (0, S) := by
    rw [q_149e (g := g) (j := 8) hg (by decide) (by decide) h, if_neg (by omega)]
  have w0 : d_149 g 499967946343 S = some (0, S) := by
    rw [q_149e (g := g) (j := 0) hg (by decide) (by decide) h, if_neg (by omega)]
  have w9 : d_149 g 2002873972 S = some (0, S) := by
    rw [q_149e (g := g) (j := 9) hg (by decide) (by decide) h, if_neg (by omega)]
  have w2 : d_149 g 1935764581 S = some (1, S) := by
    rw [q_149e (g := g) (j := 2) hg (by decide) (by decide) h, if_pos e]
  unfold d_176
  rw [w8, Option.bind_some, if_pos rfl, if_pos i_0, c_0, if_pos h0, w0, Option.bind_some, if_pos rfl, w9, Option.bind_some, if_pos rfl, w2, Option.bind_some, if_neg n_1]
  rfl
theorem q_176_10 {a : Nat} {x1 : Int32} (hg : 1000 ≤ g) (h : rga S f n a) (e : tkn f n a = 10) (h0 : ¬ S.2.1 7 0 = 0) : d_176 g x1 S = yn (d_173 g 0 x1 S) := by
  have w8 : d_149 g 1936224112 S = some (0, S) := by
    rw [q_149e (g := g) (j := 8) hg (by decide) (by decide) h, if_neg (by omega)]
  have w0 : d_149 g 499967946343 S = some (0, S) := by
    rw [q_149e (g := g) (j := 0) hg (by decide) (by decide) h, if_neg (by omega)]
  have w9 : d_149 g 2002873972 S = some (0, S) := by
    rw [q_149e (g := g) (j := 9) hg (by decide) (by decide) h, if_neg (by omega)]
  have w2 : d_149 g 1935764581 S = some (0, S) := by
    rw [q_149e (g := g) (j := 2) hg (by decide) (by decide) h, if_neg (by omega)]
  have w10 : d_149 g 31636739359862388 S = some (1, S) := by
    rw [q_149e (g := g) (j := 10) hg (by decide) (by decide) h, if_pos e]
  unfold d_176
  rw [w8, Option.bind_some, if_pos rfl, if_pos i_0, c_0, if_pos h0, w0, Option.bind_some, if_pos rfl, w9, Option.bind_some, if_pos rfl, w2, Option.bind_some, if_pos rfl, w10, Option.bind_some, if_neg n_1]
  rfl
theorem q_176_11 {a : Nat} {x1 : Int32} (hg : 1000 ≤ g) (h : rga S f n a) (e : tkn f n a = 11) (h0 : ¬ S.2.1 7 0 = 0) : d_176 g x1 S = yn (d_173 g 1 x1 S) := by
  have w8 : d_149 g 1936224112 S = some (0, S) := by
    rw [q_149e (g := g) (j := 8) hg (by decide) (by decide) h, if_neg (by omega)]
  have w0 : d_149 g 499967946343 S = some (0, S) := by
    rw [q_149e (g := g) (j := 0) hg (by decide) (by decide) h, if_neg (by omega)]
  have w9 : d_149 g 2002873972 S = some (0, S) := by
    rw [q_149e (g := g) (j := 9) hg (by decide) (by decide) h, if_neg (by omega)]
  have w2 : d_149 g 1935764581 S = some (0, S) := by
    rw [q_149e (g := g) (j := 2) hg (by decide) (by decide) h, if_neg (by omega)]
  have w10 : d_149 g 31636739359862388 S = some (0, S) := by
    rw [q_149e (g := g) (j := 10) hg (by decide) (by decide) h, if_neg (by omega)]
  have w11 : d_149 g 7300710 S = some (1, S) := by
    rw [q_149e (g := g) (j := 11) hg (by decide) (by decide) h, if_pos e]
  unfold d_176
  rw [w8, Option.bind_some, if_pos rfl, if_pos i_0, c_0, if_pos h0, w0, Option.bind_some, if_pos rfl, w9, Option.bind_some, if_pos rfl, w2, Option.bind_some, if_pos rfl, w10, Option.bind_some, if_pos rfl, w11, Option.bind_some, if_neg n_1]
  rfl
theorem q_176_12 {a : Nat} {x1 : Int32} (hg : 1000 ≤ g) (h : rga S f n a) (e : tkn f n a = 12) (h0 : ¬ S.2.1 7 0 = 0) : d_176 g x1 S = yn (d_173 g 2 x1 S) := by
  have w8 : d_149 g 1936224112 S = some (0, S) := by
    rw [q_149e (g := g) (j := 8) hg (by decide) (by decide) h, if_neg (by omega)]
  have w0 : d_149 g 499967946343 S = some (0, S) := by
    rw [q_149e (g := g) (j := 0) hg (by decide) (by decide) h, if_neg (by omega)]
  have w9 : d_149 g 2002873972 S = some (0, S) := by
    rw [q_149e (g := g) (j := 9) hg (by decide) (by decide) h, if_neg (by omega)]
  have w2 : d_149 g 1935764581 S = some (0, S) := by
    rw [q_149e (g := g) (j := 2) hg (by decide) (by decide) h, if_neg (by omega)]
  have w10 : d_149 g 31636739359862388 S = some (0, S) := by
    rw [q_149e (g := g) (j := 10) hg (by decide) (by decide) h, if_neg (by omega)]
  have w11 : d_149 g 7300710 S = some (0, S) := by
    rw [q_149e (g := g) (j := 11) hg (by decide) (by decide) h, if_neg (by omega)]
  have w12 : d_149 g 1886352244 S = some (1, S) := by
    rw [q_149e (g := g) (j := 12) hg (by decide) (by decide) h, if_pos e]
  unfold d_176
  rw [w8, Option.bind_some, if_pos rfl, if_pos i_0, c_0, if_pos h0, w0, Option.bind_some, if_pos rfl, w9, Option.bind_some, if_pos rfl, w2, Option.bind_some, if_pos rfl, w10, Option.bind_some, if_pos rfl, w11, Option.bind_some, if_pos rfl, w12, Option.bind_some, if_neg n_1]
  rfl
theorem q_176_13 {a : Nat} {x1 : Int32} (hg : 1000 ≤ g) (h : rga S f n a) (e : tkn f n a = 13) (h0 : ¬ S.2.1 7 0 = 0) : d_176 g x1 S = yn (d_174 g S) := by
  have w8 : d_149 g 1936224112 S = some (0, S) := by
    rw [q_149e (g := g) (j := 8) hg (by decide) (by decide) h, if_neg (by omega)]
  have w0 : d_149 g 499967946343 S = some (0, S) := by
    rw [q_149e (g := g) (j := 0) hg (by decide) (by decide) h, if_neg (by omega)]
  have w9 : d_149 g 2002873972 S = some (0, S) := by
    rw [q_149e (g := g) (j := 9) hg (by decide) (by decide) h, if_neg (by omega)]
  have w2 : d_149 g 1935764581 S = some (0, S) := by
    rw [q_149e (g := g) (j := 2) hg (by decide) (by decide) h, if_neg (by omega)]
  have w10 : d_149 g 31636739359862388 S = some (0, S) := by
    rw [q_149e (g := g) (j := 10) hg (by decide) (by decide) h, if_neg (by omega)]
  have w11 : d_149 g 7300710 S = some (0, S) := by
    rw [q_149e (g := g) (j := 11) hg (by decide) (by decide) h, if_neg (by omega)]
  have w12 : d_149 g 1886352244 S = some (0, S) := by
    rw [q_149e (g := g) (j := 12) hg (by decide) (by decide) h, if_neg (by omega)]
  have w13 : d_149 g 418431069797 S = some (1, S) := by
    rw [q_149e (g := g) (j := 13) hg (by decide) (by decide) h, if_pos e]
  unfold d_176
  rw [w8, Option.bind_some, if_pos rfl, if_pos i_0, c_0, if_pos h0, w0, Option.bind_some, if_pos rfl, w9, Option.bind_some, if_pos rfl, w2, Option.bind_some, if_pos rfl, w10, Option.bind_some, if_pos rfl, w11, Option.bind_some, if_pos rfl, w12, Option.bind_some, if_pos rfl, w13, Option.bind_some, if_neg n_1]
  rfl
theorem q_176_14 {a : Nat} {x1 : Int32} (hg : 1000 ≤ g) (h : rga S f n a) (e : tkn f n a = 14) (h0 : ¬ S.2.1 7 0 = 0) : d_176 g x1 S = yn (d_175 g x1 S) := by
  have w8 : d_149 g 1936224112 S = some (0, S) := by
    rw [q_149e (g := g) (j := 8) hg (by decide) (by decide) h, if_neg (by omega)]
  have w0 : d_149 g 499967946343 S = some (0, S) := by
    rw [q_149e (g := g) (j := 0) hg (by decide) (by decide) h, if_neg (by omega)]
  have w9 : d_149 g 2002873972 S = some (0, S) := by
    rw [q_149e (g := g) (j := 9) hg (by decide) (by decide) h, if_neg (by omega)]
  have w2 : d_149 g 1935764581 S = some (0, S) := by
    rw [q_149e (g := g) (j := 2) hg (by decide) (by decide) h, if_neg (by omega)]
  have w10 : d_149 g 31636739359862388 S = some (0, S) := by
    rw [q_149e (g := g) (j := 10) hg (by decide) (by decide) h, if_neg (by omega)]
  have w11 : d_149 g 7300710 S = some (0, S) := by
    rw [q_149e (g := g) (j := 11) hg (by decide) (by decide) h, if_neg (by omega)]
  have w12 : d_149 g 1886352244 S = some (0, S) := by
    rw [q_149e (g := g) (j := 12) hg (by decide) (by decide) h, if_neg (by omega)]
  have w13 : d_149 g 418431069797 S = some (0, S) := by
    rw [q_149e (g := g) (j := 13) hg (by decide) (by decide) h, if_neg (by omega)]
  unfold d_176
  rw [w8, Option.bind_some, if_pos rfl, if_pos i_0, c_0, if_pos h0, w0, Option.bind_some, if_pos rfl, w9, Option.bind_some, if_pos rfl, w2, Option.bind_some, if_pos rfl, w10, Option.bind_some, if_pos rfl, w11, Option.bind_some, if_pos rfl, w12, Option.bind_some, if_pos rfl, w13, Option.bind_some, if_pos rfl]
  rfl
theorem q_176_n {a : Nat} {x1 : Int32} (hg : 1000 ≤ g) (h : rga S f n a) (e : ¬ tkn f n a = 8) (h0 : S.2.1 7 0 = 0) : d_176 g x1 S = yn (d_145 g 4 x1 S) := by
  have w8 : d_149 g 1936224112 S = some (0, S) := by
    rw [q_149e (g := g) (j := 8) hg (by decide) (by decide) h, if_neg e]
  unfold d_176
  rw [w8, Option.bind_some, if_pos rfl, if_pos i_0, c_0, if_neg (fun z => z h0)]
  rfl
end SHL
