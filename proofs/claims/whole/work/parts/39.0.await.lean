/-! WHAT IS ASKED, III: the best of what is offered; await -/
abbrev bO : Type := Option (Int32 × Nat × (Nat → Int32))
def off (b : bO) (v : Int32) (L : Nat) (r : Nat → Int32) : bO := match b with
  | none => some (v, L, r)
  | some q => if v < q.1 then some (v, L, r) else some q
/-- the class's best -/
def bst (m : cM) : bO → Prop
  | none => m.1 72 0 = 0
  | some q => m.1 72 0 = 1 ∧ m.1 72 1 = q.1 ∧ m.1 72 2 = nI q.2.1 ∧ q.2.1 ≤ 8 ∧ ∀ i, i < q.2.1 → m.1 73 i = q.2.2 i
section AW
variable {g k : Nat} {m : cM} {S : rS} {B : rB} {w : Nat → Int32} {q T W C Sa R : Nat} {x : Int32}
theorem bst.co {m m' : cM} {b : bO} (h : bst m b) (e1 : m'.1 72 = m.1 72) (e2 : m'.1 73 = m.1 73) : bst m' b := by
  match b, h with
  | none, h =>
    show m'.1 72 0 = 0
    rw [e1]; exact h
  | some q, h =>
    show m'.1 72 0 = 1 ∧ m'.1 72 1 = q.1 ∧ m'.1 72 2 = nI q.2.1 ∧ q.2.1 ≤ 8 ∧ ∀ i, i < q.2.1 → m'.1 73 i = q.2.2 i
    rw [e1, e2]; exact h
theorem p_1 : ∃ m', d_1 g m = some m' ∧ bst m' none ∧ ms m m' ∧ (∀ b, b ≠ 72 → m'.1 b = m.1 b) ∧ m'.1 72 2 = 0 := by
  refine ⟨_, rfl, ?_, ((ms.W (by omega)).tr (ms.W (by omega))).tr (ms.W (by omega)), fun b hb => by rw [cW_b hb, cW_b hb, cW_b hb], cW_s⟩
  show (cW (cW (cW m 72 0 0) 72 1 0) 72 2 0).1 72 0 = 0
  rw [cW_k (by decide), cW_k (by decide), cW_s]
theorem p_3 {v : Int32} {L : Nat} (hL : L ≤ 8) : ∃ m', d_3 g v (nI L) m = some m' ∧ bst m' (some (v, L, m.1 74)) ∧ ms m m' ∧ (∀ b, b ≠ 72 → b ≠ 73 → m'.1 b = m.1 b) := by
  have hx : ∀ (m0 : cM) (a : Nat), (a = 73 ∨ a = 74) → cX m0 a 0 (nI L) = true := by
    intro m0 a ha
    have hk : kd a = (0, 8) := by rcases ha with e | e <;> subst e <;> decide
    unfold cX
    rw [hk, decide_eq_true (show a < 406 + 13 * m0.2.2.2 by omega), k_cl (by omega)]
    simp only [show ¬ (0 : Int32) < 0 by decide, show ¬ nI L < 0 from nI_pos (by omega), not_false_eq_true, decide_true, Bool.and_true, Bool.true_and]
    exact decide_eq_true (by show (0 : Int32).toNatClampNeg + L ≤ 8; simpa using hL)
  refine ⟨cY (cW (cW (cW m 72 0 1) 72 1 v) 72 2 (nI L)) 74 0 73 0 L, ?_, ⟨?_, ?_, ?_, hL, fun i hi => ?_⟩, (((ms.W (by omega)).tr (ms.W (by omega))).tr (ms.W (by omega))).tr (ms.Y (by omega)), fun b h1 h2 => by rw [cY_b h2, cW_b h1, cW_b h1, cW_b h1]⟩
  · unfold d_3
    simp only [Option.bind_some, hx _ 74 (Or.inr rfl), hx _ 73 (Or.inl rfl), if_true]
    rw [k_cl (by omega)]; rfl
  · rw [cY_b (by decide), cW_k (by decide), cW_k (by decide), cW_s]
  · rw [cY_b (by decide), cW_k (by decide), cW_s]
  · rw [cY_b (by decide), cW_s]
  · show _ = m.1 74 i
    rw [cY_in hi, cW_b (by decide), cW_b (by decide), cW_b (by decide)]
/-- offer -/
theorem p_2 {v : Int32} {L : Nat} {b : bO} (hL : L ≤ 8) (hb : bst m b) : ∃ m', d_2 g v (nI L) m = some m' ∧ bst m' (off b v L (m.1 74)) ∧ ms m m' ∧ (∀ b, b ≠ 72 → b ≠ 73 → m'.1 b = m.1 b) := by
  obtain ⟨m1, y1, y2, y3, y4⟩ := p_3 (g := g) (m := m) (v := v) hL
  unfold d_2 j_2_15
  match b, hb with
  | none, hb =>
    have hb : m.1 72 0 = 0 := hb
    rw [if_pos hb, y1]
    exact ⟨m1, rfl, y2, y3, y4⟩
  | some q, hb =>
    have h0 : ¬ m.1 72 0 = 0 := by rw [hb.1]; decide
    rw [if_neg h0, hb.2.1]
    by_cases h : v < q.1
    · rw [if_neg (Int32.not_le.mpr h), y1]
      refine ⟨m1, rfl, ?_, y3, y4⟩
      rw [show off (some q) v L (m.1 74) = some (v, L, m.1 74) from if_pos h]
      exact y2
    · rw [if_pos (Int32.not_lt.mp h)]
      refine ⟨m, rfl, ?_, ms.rf _, fun _ _ _ => rfl⟩
      rw [show off (some q) v L (m.1 74) = some q from if_neg h]
      exact hb
/-- answer -/
theorem p_4 {v : Int32} {L j : Nat} {r : Nat → Int32} (hb : bst m (some (v, L, r))) (hj : j ≤ 8) : d_4 g (nI j) m = some (if j = 0 then v else if L < j then -2 else r (j - 1)) := by
  obtain ⟨b1, b2, b3, b4, b5⟩ := hb
  have b4 : L ≤ 8 := b4
  have b3 : m.1 72 2 = nI L := b3
  unfold d_4
  by_cases h0 : j = 0
  · rw [if_pos h0, h0, if_neg (show ¬ ¬ nI 0 = 0 from fun z => z rfl), b2]
  · rw [if_neg h0, if_pos (show ¬ nI j = 0 from nI_ne0 (by omega) (by omega)), b3]
    by_cases h1 : L < j
    · rw [if_pos h1, if_pos (nI_lt h1 (by omega))]
    · rw [if_neg h1, if_neg (nI_nlt (by omega) (by omega))]
      have e : m.1 73 (j - 1) = r (j - 1) := b5 (j - 1) (show j - 1 < L by omega)
      simp (disch := omega) only [lit_nI, k_sub, k_in, k_cl, if_true, e]
/-- the day on which it is least dear, of the first j + 1 -/
def awD (f : Nat → Nat) (D : Nat) : Nat → Nat
  | 0 => D
  | j + 1 => if f (D + j + 1) < f (awD f D j) then D + j + 1 else awD f D j
theorem awD_b {f : Nat → Nat} {D : Nat} : ∀ {j : Nat}, D ≤ awD f D j ∧ awD f D j ≤ D + j
  | 0 => ⟨Nat.le_refl _, Nat.le_refl _⟩
  | j + 1 => by
    have := awD_b (f := f) (D := D) (j := j)
    unfold awD
    split <;> omega
theorem p_l36 {t D : Nat} (hg : 2000 ≤ g) (ht : t < T) (hD : w 7 = nI D) (hD2 : D ≤ 1000) : ∀ (j i n : Nat) (m : cM), i + j = 31 → j + 1 ≤ n → cx m B w q x T W C Sa R k → (if i = 0 then bst m none else ∃ r, bst m (some (nI (dO B w q t (awD (dO B w q t) D (i - 1))), 1, r)) ∧ r 0 = nI (awD (dO B w q t) D (i - 1))) → ∃ m' r, l_36 g n 0 (nI t) (nI i) m = some m' ∧ ms m m' ∧ bst m' (some (nI (dO B w q t (awD (dO B w q t) D 30)), 1, r)) ∧ r 0 = nI (awD (dO B w q t) D 30) := by
  intro j
  induction j with
  | zero =>
    intro i n m hi hn h hb
    obtain ⟨n, rfl⟩ : ∃ n', n = n' + 1 := ⟨n - 1, by omega⟩
    have e : i = 31 := by omega
    subst e
    obtain ⟨r, r1, r2⟩ := hb
    refine ⟨m, r, ?_, ms.rf _, r1, r2⟩
    simp (disch := omega) only [l_36, if_true, lit_nI, k_ltT]
  | succ j ih =>
    intro i n m hi hn h hb
    obtain ⟨n, rfl⟩ : ∃ n', n = n' + 1 := ⟨n - 1, by omega⟩
    have e13 : m.1 19 13 = nI D := h.1.2.1.1.2.2.2.2.trans hD
    have h1 := h.ms (ms.W (m := m) (a := 74) (k := 0) (v := nI (D + i)) (by omega))
    obtain ⟨m1, y1, y2, y3⟩ := p_90 (g := g) hg h1 (t := t) (d := D + i) ht
    have hb1 : ∀ b : bO, bst m b → bst m1 b := fun b hb => hb.co (by rw [y2, cW_b (by decide)]) (by rw [y2, cW_b (by decide)])
    have e74 : m1.1 74 0 = nI (D + i) := by rw [y2, cW_s]
    have hm1 : ms m m1 := (ms.W (m := m) (a := 74) (k := 0) (v := nI (D + i)) (by omega)).tr (ms.of y2 y3)
    obtain ⟨b0, hb0, hb0'⟩ : ∃ b0, bst m1 b0 ∧ ∃ r, off b0 (nI (dO B w q t (D + i))) 1 (m1.1 74) = some (nI (dO B w q t (awD (dO B w q t) D i)), 1, r) ∧ r 0 = nI (awD (dO B w q t) D i) := by
      by_cases h0 : i = 0
      · subst h0
        rw [if_pos rfl] at hb
        exact ⟨none, hb1 _ hb, m1.1 74, rfl, e74⟩
      · rw [if_neg h0] at hb
        obtain ⟨r, r1, r2⟩ := hb
        refine ⟨_, hb1 _ r1, ?_⟩
        obtain ⟨i', rfl⟩ : ∃ q, i = q + 1 := ⟨i - 1, by omega⟩
        rw [Nat.add_sub_cancel] at r2
        simp only [off, Nat.add_sub_cancel]
        have hl1 := (dO_b (B := B) (q := q) (d := D + (i' + 1)) h.2.1 ht).2
        have hl2 := (dO_b (B := B) (q := q) (d := awD (dO B w q t) D i') h.2.1 ht).2
        have er : awD (dO B w q t) D (i' + 1) = if dO B w q t (D + i' + 1) < dO B w q t (awD (dO B w q t) D i') then D + i' + 1 else awD (dO B w q t) D i' := rfl
        rw [er]
        by_cases hlt : dO B w q t (D + i' + 1) < dO B w q t (awD (dO B w q t) D i')
        · rw [if_pos hlt, if_pos (by rw [show D + (i' + 1) = D + i' + 1 by omega]; exact nI_lt hlt (by omega))]
          exact ⟨m1.1 74, by rw [show D + (i' + 1) = D + i' + 1 by omega], e74⟩
        · rw [if_neg hlt, if_neg (by rw [show D + (i' + 1) = D + i' + 1 by omega]; exact nI_nlt (by omega) (by rw [show D + i' + 1 = D + (i' + 1) by omega]; omega))]
          exact ⟨r, rfl, r2⟩
    obtain ⟨m2, z1, z2, z3, z4⟩ := p_2 (g := g) (m := m1) (v := nI (dO B w q t (D + i))) (L := 1) (b := b0) (by omega) hb0
    obtain ⟨r, r1, r2⟩ := hb0'
    rw [r1] at z2
    obtain ⟨m', r', u1, u2, u3, u4⟩ := ih (i + 1) n m2 (by omega) (by omega) (h.ms (hm1.tr z3)) (by rw [if_neg (by omega), Nat.add_sub_cancel]; exact ⟨r, z2, r2⟩)
    refine ⟨m', r', ?_, (hm1.tr z3).tr u2, u3, u4⟩
    rw [l_36]
    simp (disch := omega) only [if_true, lit_nI, k_ltF, if_false, k_in, k_cl, e13, nI_add, Option.bind_some, cW_s, y1, z1]
    exact u1
theorem q_l265 {t D : Nat} {x2 : Int32} (hg : 2000 ≤ g) (hV : shV w T W C Sa) (hst : stV w T C k) (hR : rbR m.1 B R) (hq : q ≤ R) (ht : t < T) (hD : w 7 = nI D) (hD2 : D ≤ 1000) : ∀ (j i n : Nat) (S : rS), i + j = 31 → 1 ≤ i → 2 * j + 1 ≤ n → rx S B w q x R → ∃ S', l_265 g n 0 (nI t) x2 (nI (awD (dO B w q t) D (i - 1))) (nI (D + i)) S = some ((if ¬ x2 = 0 then nI (dO B w q t (awD (dO B w q t) D 30)) else nI (awD (dO B w q t) D 30)), S') ∧ rc [18] [] S S' := by
  intro j
  have hl := (hst.2.2.2.2.1 t ht).1
  induction j with
  | zero =>
    intro i n S hi h1 hn hx
    obtain ⟨n, rfl⟩ : ∃ n', n = n' + 1 := ⟨n - 1, by omega⟩
    have e : i = 31 := by omega
    subst e
    have e7 : S.2.1 20 7 = nI D := by rw [hx.1]; exact hD
    obtain ⟨S1, z1, z2, z3⟩ := q_199 (g := g) (m := m) hg hx hV hR hq (t := t) (d := awD (dO B w q t) D 30) hl ht
    rw [l_265]
    by_cases h0 : x2 = 0
    · refine ⟨S, ?_, rc.rf _⟩
      simp (disch := omega) only [if_true, lit_nI, k_in, k_cl, e7, nI_add, k_ltT]
      rw [h0]; rfl
    · refine ⟨S1, ?_, z2⟩
      have h0' : ¬ x2 = nI 0 := h0
      simp (disch := omega) only [if_true, lit_nI, k_in, k_cl, e7, nI_add, k_ltT, h0', not_false_eq_true]
      rw [show 31 - 1 = 30 from rfl, z1]; rfl
  | succ j ih =>
    intro i n S hi h1 hn hx
    obtain ⟨n, rfl⟩ : ∃ n', n = n' + 2 := ⟨n - 2, by omega⟩
    have e7 : S.2.1 20 7 = nI D := by rw [hx.1]; exact hD
    obtain ⟨S1, z1, z2, z3⟩ := q_199 (g := g) (m := m) hg hx hV hR hq (t := t) (d := D + i) hl ht
    have hx1 := hx.rs (rs.of18 z2)
    obtain ⟨S2, y1, y2, y3⟩ := q_199 (g := g) (m := m) hg hx1 hV hR hq (t := t) (d := awD (dO B w q t) D (i - 1)) hl ht
    have hx2 := hx1.rs (rs.of18 y2)
    obtain ⟨S', u1, u2⟩ := ih (i + 1) n S2 (by omega) (by omega) (by omega) hx2
    refine ⟨S', ?_, (z2.tr y2).tr u2⟩
    have hl1 := (dO_b (B := B) (q := q) (d := D + i) hV ht).2
    have hl2 := (dO_b (B := B) (q := q) (d := awD (dO B w q t) D (i - 1)) hV ht).2
    have hb1 : ∀ (y : Int32) (y4 : Int32), l_265 g (n + 1) 1 (nI t) x2 y y4 S2 = l_265 g n 0 (nI t) x2 y (y4 + 1) S2 := fun _ _ => rfl
    obtain ⟨i', rfl⟩ : ∃ q, i = q + 1 := ⟨i - 1, by omega⟩
    simp only [Nat.add_sub_cancel] at u1 y1 hl2 ⊢
    rw [l_265]
    simp (disch := omega) only [if_true, lit_nI, k_in, k_cl, e7, nI_add, k_ltF, if_false, z1, y1, Option.bind_some, hb1, k_le]
    have er : awD (dO B w q t) D (i' + 1) = if dO B w q t (D + i' + 1) < dO B w q t (awD (dO B w q t) D i') then D + i' + 1 else awD (dO B w q t) D i' := rfl
    rw [er] at u1
    by_cases hlt : dO B w q t (D + (i' + 1)) < dO B w q t (awD (dO B w q t) D i')
    · rw [if_neg (by omega)]
      rw [if_pos (show dO B w q t (D + i' + 1) < dO B w q t (awD (dO B w q t) D i') from hlt)] at u1
      exact u1
    · rw [if_pos (by omega)]
      rw [if_neg (show ¬ dO B w q t (D + i' + 1) < dO B w q t (awD (dO B w q t) D i') from hlt)] at u1
      exact u1
set_option maxHeartbeats 1000000 in
theorem sp_await (hg : 2000 ≤ g) (hk : k ≤ 600) (h : Inv k m S) (a b : Int32) : St k (d_132 g a b m) (d_265 g a b S) := by
  obtain ⟨-, -, w, q, x, T, W, C, Sa, R, hc, hr, hpa, him⟩ := id h
  have hV := hc.2.1
  have hst := hc.2.2.1
  have hT8 := hV.1.2
  obtain ⟨D, hDk, hD⟩ := hst.1
  unfold d_132 d_265
  rw [if_pos hc.cy.1]
  rcases has_th (g := g) (S := S) hc.cy.1 hc.t (by rw [hr.1]; exact hV.1.1) hT8 a with ⟨e1, e2⟩ | ⟨t, ht, rfl, e1, e2⟩
  · rw [e1, e2]
    exact St.no h rfl rfl
  · rw [e1, e2]
    simp only [Option.bind_some, z10, if_false]
    rw [q_140 (a := 0) (b := 1) (a' := 0) (b' := 1) (by decide) (by decide), Option.bind_some]
    by_cases hb : (0 : Int32) ≤ b ∧ b ≤ 1
    · obtain ⟨j, -, hj, rfl⟩ := rng (a := 0) (b := 1) (by omega) (by omega) hb
      obtain ⟨m1, y1, y2, y3, y4, y5⟩ := p_1 (g := g) (m := m)
      obtain ⟨m2, r, z1, z2, z3, z4⟩ := p_l36 (g := g) (B := bS3 S) (q := q) (x := x) (t := t) hg ht hD (by omega) 31 0 g m1 (by omega) (by omega) (hc.ms y3) y2
      obtain ⟨S1, u1, u2⟩ := q_l265 (g := g) (m := m) (B := bS3 S) (q := q) (x := x) (t := t) (x2 := nI j) hg hV hst hc.2.2.2.2.2.2 hc.2.2.2.2.1 ht hD (by omega) 30 1 g S (by omega) (by omega) (by omega) hr
      have e36 : d_36 g (nI t) m = some m2 := by
        unfold d_36
        rw [y1, Option.bind_some]
        exact z1
      have p4 := p_4 (g := g) (j := 1 - j) z3 (by omega)
      have e7 : S.2.1 20 7 = nI D := by rw [hr.1]; exact hD
      rw [if_pos hb]
      have u1' : l_265 g g 0 (nI t) (nI j) (nI D) (nI (D + 1)) S = some ((if ¬ nI j = 0 then nI (dO (bS3 S) w q t (awD (dO (bS3 S) w q t) D 30)) else nI (awD (dO (bS3 S) w q t) D 30)), S1) := u1
      have hj1 : (1 : Int32) - nI j = nI (1 - j) := k_sub (a := 1) hj
      rw [if_neg (show ¬ nI j < 0 from nI_pos (by omega)), if_pos (show nI j ≤ 1 from nI_le (b := 1) hj (by omega)), e36, Option.bind_some, hj1, p4]
      match j, hj with
      | 0, _ =>
        refine St.scr h (v := nI (awD (dO (bS3 S) w q t) D 30)) (m' := m2) (S' := S1) ?_ ?_ (y3.tr z2) (rs.of18 u2)
        · show some (r 0, m2) = _
          rw [z4]
        · simp (disch := omega) only [Option.bind_some, lit_nI, k_eqF, k_eqT, not_true, not_false_eq_true, if_true, if_false, k_in, k_cl, e7, nI_add, u1']
      | 1, _ =>
        refine St.scr h (v := nI (dO (bS3 S) w q t (awD (dO (bS3 S) w q t) D 30))) (m' := m2) (S' := S1) rfl ?_ (y3.tr z2) (rs.of18 u2)
        simp (disch := omega) only [Option.bind_some, lit_nI, k_eqF, k_eqT, not_true, not_false_eq_true, if_true, if_false, k_in, k_cl, e7, nI_add, u1']
    · rw [if_neg hb]
      simp only [z00, not_true, if_false]
      refine St.no h (v := -1) ?_ rfl
      by_cases h3 : b < 0
      · rw [if_pos h3]
      · rw [if_neg h3, if_neg (fun q => hb ⟨Int32.not_lt.mp h3, q⟩)]
end AW
