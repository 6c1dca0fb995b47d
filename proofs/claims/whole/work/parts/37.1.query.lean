/-! WHAT IS ASKED, I: thing, code, want, dear, cost, count -/
def St (k : Nat) (c : Option (Int32 × cM)) (r : Option (Int32 × rS)) : Prop := ∃ v m' S', c = some (v, m') ∧ r = some (v, S') ∧ Inv (k + 1) m' S'
theorem z10 : ((1 : Int32) = 0) = False := eq_false (by decide)
theorem z00 : ((0 : Int32) = 0) = True := eq_true rfl
section QU
variable {g k : Nat} {m : cM} {S : rS} {B : rB} {w : Nat → Int32} {q T W C Sa R : Nat} {x : Int32}
theorem cx.t (h : cx m B w q x T W C Sa R k) : m.1 (m.2.2.1 5) 4 = nI T := h.1.1.1.2.2.2.2.1.trans h.2.1.1.1
theorem cx.wn (h : cx m B w q x T W C Sa R k) : m.1 (m.2.2.1 5) 8 = nI W := h.1.1.1.2.2.2.2.2.1.trans h.2.1.2.1.1
theorem cx.cn (h : cx m B w q x T W C Sa R k) : m.1 (m.2.2.1 5) 15 = nI C := h.1.1.1.2.2.2.2.2.2.2.trans h.2.1.2.2.1.1
theorem is_op (hc : cx m B w q x T W C Sa R k) (hr : rx S B w q x R) : (m.1 (m.2.2.1 5) 0 = 0 ∧ d_187 g S = some (0, S) ∧ T = 0) ∨ (¬ m.1 (m.2.2.1 5) 0 = 0 ∧ d_187 g S = some (1, S)) := by
  have e : m.1 (m.2.2.1 5) 0 = w 0 := hc.1.1.1.1
  rw [e, q_187, hr.1]
  rcases hc.2.1.2.2.2.2.1 with h | ⟨h, h2⟩
  · rw [h]
    exact Or.inr ⟨by decide, by rw [if_pos (show nI 1 = 1 from rfl)]⟩
  · rw [h]
    exact Or.inl ⟨rfl, by rw [if_neg (by decide)], h2⟩
theorem St.scr {c : Option (Int32 × cM)} {r : Option (Int32 × rS)} {v : Int32} {m' : cM} {S' : rS} (h : Inv k m S) (h1 : c = some (v, m')) (h2 : r = some (v, S')) (h3 : ms m m') (h4 : rs S S') : St k c r := ⟨v, m', S', h1, h2, h.scr h3 h4⟩
theorem St.no {c : Option (Int32 × cM)} {r : Option (Int32 × rS)} {v : Int32} (h : Inv k m S) (h1 : c = some (v, m)) (h2 : r = some (v, S)) : St k c r := St.scr h h1 h2 (ms.rf _) (rc.rf _)
set_option maxHeartbeats 1000000 in
theorem s_thing (hg : 2000 ≤ g) (h : Inv k m S) (a b : Int32) : St k (d_107 g a b m) (d_201 g a b S) := by
  obtain ⟨-, -, w, q, x, T, W, C, Sa, R, hc, hr, -, -⟩ := id h
  have hT8 := hc.2.1.1.2
  unfold d_107 d_201
  rw [if_pos hc.cy.1]
  rcases has_th (g := g) (S := S) hc.cy.1 hc.t (by rw [hr.1]; exact hc.2.1.1.1) hT8 a with ⟨e1, e2⟩ | ⟨t, ht, rfl, e1, e2⟩
  · rw [e1, e2]
    exact St.no h rfl rfl
  · rw [e1, e2]
    simp only [Option.bind_some, z10, not_false_eq_true, if_true]
    have hs := hc.1.2.1
    have eN : ∀ (j : Nat) (y : Int32), j < 5 → y = w (16 + 5 * t + j) → some (y, m) = some (w (16 + 5 * t + j), m) ∧ j_201_62 g (nI t) (nI (j + 1)) S = some (w (16 + 5 * t + j), S) := by
      intro j y hj hy
      refine ⟨by rw [hy], ?_⟩
      unfold j_201_62
      rw [show (1 : Int32) = nI 1 from rfl, k_sub (by omega), Nat.add_sub_cancel, q_191 (by omega) hj, hr.1]
      rfl
    have eI : aIn (nI t) 8 = true := k_in (by omega) (by omega)
    have eC : (nI t).toNatClampNeg = t := k_cl (by omega)
    by_cases h0 : b = 0
    · rw [if_pos h0, if_pos h0]
      obtain ⟨D, -, hD⟩ := hc.2.2.1.1
      obtain ⟨m1, y1, y2, y3⟩ := p_91 (g := g) hg hc ht hD
      obtain ⟨S1, z1, z2, z3⟩ := q_200 (g := g) (m := m) hg hr hc.2.1 hc.2.2.2.2.2.2 hc.2.2.2.2.1 (hc.2.2.1.2.2.2.2.1 t ht).1 ht hD
      rw [y1, z1]
      exact St.scr h rfl rfl (ms.of y2 y3) (rs.of18 z2)
    · rw [if_neg h0, if_neg h0]
      by_cases h1 : b = 1
      · subst h1
        have e := eN 0 (m.1 21 t) (by omega) (hs.st ht)
        rw [if_pos rfl, if_pos rfl, if_pos eI, eC]
        exact St.no h e.1 e.2
      · rw [if_neg h1, if_neg h1]
        by_cases h2 : b = 2
        · subst h2
          have e := eN 1 (m.1 20 t) (by omega) (by rw [show 16 + 5 * t + 1 = 17 + 5 * t by omega]; exact hs.ba ht)
          rw [if_pos rfl, if_pos rfl, if_pos eI, eC]
          exact St.no h e.1 e.2
        · rw [if_neg h2, if_neg h2]
          by_cases h3 : b = 3
          · subst h3
            have e := eN 2 (m.1 22 t) (by omega) (by rw [show 16 + 5 * t + 2 = 18 + 5 * t by omega]; exact hs.ha ht)
            rw [if_pos rfl, if_pos rfl, if_pos eI, eC]
            exact St.no h e.1 e.2
          · rw [if_neg h3, if_neg h3]
            by_cases h4 : b = 4
            · subst h4
              have e := eN 3 (m.1 23 t) (by omega) (by rw [show 16 + 5 * t + 3 = 19 + 5 * t by omega]; exact hs.lo ht)
              rw [if_pos rfl, if_pos rfl, if_pos eI, eC]
              exact St.no h e.1 e.2
            · rw [if_neg h4, if_neg h4]
              by_cases h5 : b = 5
              · subst h5
                have e := eN 4 (m.1 24 t) (by omega) (by rw [show 16 + 5 * t + 4 = 20 + 5 * t by omega]; exact hs.la ht)
                rw [if_pos rfl, if_pos rfl, if_pos eI, eC]
                exact St.no h e.1 e.2
              · rw [if_neg h5, if_neg h5]
                by_cases h6 : b = 6
                · rw [if_pos h6, if_pos h6, if_pos eI, eC, (hc.1.1.2.1 t ht).1, q_192 (by omega), hr.1]
                  exact St.no h rfl rfl
                · rw [if_neg h6, if_neg h6]
                  by_cases h7 : b = 7
                  · rw [if_pos h7, if_pos h7, if_pos eI, eC, (hc.1.1.2.1 t ht).2, q_193 (by omega), hr.1]
                    exact St.no h rfl rfl
                  · rw [if_neg h7, if_neg h7]
                    exact St.no h rfl rfl
/-- the place of a code among those laid -/
def pl (w : Nat → Int32) (c : Int32) : Nat → Nat → Int32
  | 0, _ => -1
  | n + 1, i => if w (64 + i) = c then nI i else pl w c n (i + 1)
theorem q_l202 {L : Nat} {c : Int32} (hS : S.2.1 20 = w) (h9 : w 9 = nI L) (hL : L ≤ 5) : ∀ (j i n : Nat), i + j = L → j + 1 ≤ n → l_202 g n 0 c (nI i) S = some (pl w c j i, S) := by
  intro j
  induction j with
  | zero =>
    intro i n hi hn
    obtain ⟨n, rfl⟩ : ∃ n', n = n' + 1 := ⟨n - 1, by omega⟩
    have e : i = L := by omega
    subst e
    simp (disch := omega) only [l_202, if_true, lit_nI, k_in, k_cl, hS, h9, Int32.le_refl, pl]
  | succ j ih =>
    intro i n hi hn
    obtain ⟨n, rfl⟩ : ∃ n', n = n' + 1 := ⟨n - 1, by omega⟩
    rw [l_202]
    simp (disch := omega) only [if_true, lit_nI, k_in, k_cl, hS, h9, k_leF, if_false, nI_add]
    rw [ih (i + 1) n (by omega) (by omega)]
    show _ = some ((if w (64 + i) = c then nI i else pl w c j (i + 1)), S)
    by_cases e : w (64 + i) = c
    · rw [if_neg (fun q => q e), if_pos e]
    · rw [if_pos e, if_neg e]
theorem q_202 {L : Nat} {c : Int32} (hg : 100 ≤ g) (hS : S.2.1 20 = w) (h9 : w 9 = nI L) (hL : L ≤ 5) : d_202 g c S = some (pl w c L 0, S) := by
  unfold d_202
  exact q_l202 hS h9 hL L 0 g (by omega) (by omega)
theorem p_l76 {L : Nat} {c : Int32} (h9 : m.1 19 8 = nI L) (hL : L ≤ 5) (hr : ∀ i, i < L → m.1 26 i = w (64 + i)) : ∀ (j i n : Nat), i + j = L → j + 1 ≤ n → l_76 g n 0 c (nI i) m = some (pl w c j i) := by
  intro j
  induction j with
  | zero =>
    intro i n hi hn
    obtain ⟨n, rfl⟩ : ∃ n', n = n' + 1 := ⟨n - 1, by omega⟩
    have e : i = L := by omega
    subst e
    simp (disch := omega) only [l_76, if_true, h9, Int32.le_refl, pl]
  | succ j ih =>
    intro i n hi hn
    obtain ⟨n, rfl⟩ : ∃ n', n = n' + 1 := ⟨n - 1, by omega⟩
    rw [l_76]
    simp (disch := omega) only [if_true, h9, k_leF, if_false, k_in, k_cl, hr i (by omega), lit_nI, nI_add]
    rw [ih (i + 1) n (by omega) (by omega)]
    show _ = some (if w (64 + i) = c then nI i else pl w c j (i + 1))
    by_cases e : w (64 + i) = c
    · rw [if_neg (fun q => q e), if_pos e]
    · rw [if_pos e, if_neg e]
theorem p_76 {c : Int32} (hg : 100 ≤ g) (hc : cx m B w q x T W C Sa R k) {L : Nat} (h9 : w 9 = nI L) (hL : L ≤ 5) : d_76 g c m = some (pl w c L 0) := by
  unfold d_76
  exact p_l76 (hc.1.2.1.1.1.trans h9) hL (fun i hi => hc.1.2.1.2.2.2.2.1 i (by rw [h9, n_cl (by omega)]; exact hi)) L 0 g (by omega) (by omega)
theorem bit_of {U c : Nat} (hU : U < 32) (hc : c < 5) : (nI U >>> (nI c &&& 31)) &&& nI 1 = nI (U / 2 ^ c % 2) := by
  have e : nI U >>> (nI c &&& 31) = nI (U / 2 ^ c) := by
    match c, hc with
    | 0, _ => exact pk_shrN (by omega) _ 0 (by decide)
    | 1, _ => exact pk_shrN (by omega) _ 1 (by decide)
    | 2, _ => exact pk_shrN (by omega) _ 2 (by decide)
    | 3, _ => exact pk_shrN (by omega) _ 3 (by decide)
    | 4, _ => exact pk_shrN (by omega) _ 4 (by decide)
  rw [e]
  have h2 : U / 2 ^ c ≤ U := Nat.div_le_self _ _
  exact pk_andN (by omega) 1 (by decide)
/-- isUsed -/
theorem p_77 (hc : cx m B w q x T W C Sa R k) {c : Nat} (h : c < 5) : d_77 g (nI c) m = some (w (69 + c)) ∧ (w (69 + c) = nI 0 ∨ w (69 + c) = nI 1) := by
  obtain ⟨U, hU, e, hb⟩ := hc.1.2.1.2.2.2.2.2.2
  unfold d_77
  have e10 : m.1 19 10 = nI U := e
  rw [e10, show (1 : Int32) = nI 1 from rfl, bit_of hU h, hb c h]
  have hm : U / 2 ^ c % 2 = 0 ∨ U / 2 ^ c % 2 = 1 := by omega
  rcases hm with hm | hm <;> rw [hm]
  · exact ⟨by rw [if_pos (by decide)]; rfl, Or.inl rfl⟩
  · exact ⟨by rw [if_neg (by decide)], Or.inr rfl⟩
set_option maxHeartbeats 1000000 in
theorem s_code (hg : 2000 ≤ g) (h : Inv k m S) (a b : Int32) : St k ((d_108 g a b m).map (fun v => (v, m))) (d_203 g a b S) := by
  obtain ⟨-, -, w, q, x, T, W, C, Sa, R, hc, hr, -, -⟩ := id h
  have hC5 := hc.2.1.2.2.1.2
  obtain ⟨L, hL1, hL2, -, -⟩ := lr_of hc.2.2.1 hC5
  unfold d_108 d_203
  rw [if_pos hc.cy.1]
  rcases has_co (g := g) (S := S) hc.cy.1 hc.cn (by rw [hr.1]; exact hc.2.1.2.2.1.1) hC5 a with ⟨e1, e2, -⟩ | ⟨t, ht, rfl, e1, e2⟩
  · rw [e1, e2]
    exact St.no h rfl rfl
  · rw [e1, e2]
    obtain ⟨k9, k10, k11, k12⟩ := hc.1.1.2.2.2.2 t ht
    have eI : aIn (nI t) 5 = true := k_in (by omega) (by omega)
    have eC : (nI t).toNatClampNeg = t := k_cl (by omega)
    simp only [Option.bind_some, z10, not_false_eq_true, if_true, if_false]
    rw [q_140 (a := 0) (b := 5) (a' := 0) (b' := 5) (by decide) (by decide), Option.bind_some]
    have e194 : ∀ j, j < 4 → d_194 g (nI t) (nI j) S = some (w (120 + 4 * t + j), S) := fun j hj => by rw [q_194 (by omega) hj, hr.1]
    have f1 := e194 1 (by omega)
    have f2 := e194 2 (by omega)
    have f3 := e194 3 (by omega)
    rw [show 120 + 4 * t + 1 = 121 + 4 * t by omega] at f1
    rw [show 120 + 4 * t + 2 = 122 + 4 * t by omega] at f2
    rw [show 120 + 4 * t + 3 = 123 + 4 * t by omega] at f3
    by_cases hb : (0 : Int32) ≤ b ∧ b ≤ 5
    · obtain ⟨j, -, hj, rfl⟩ := rng (a := 0) (b := 5) (by omega) (by omega) hb
      rw [if_pos hb]
      match j, hj with
      | 0, _ =>
        simp (disch := omega) only [lit_nI, k_eqT, k_eqF, k_leT, k_leF, not_true, not_false_eq_true, if_true, if_false, Option.bind_some, k_in, k_cl, k9, e194 0 (by omega), Int32.add_sub_cancel]
        exact St.no h rfl rfl
      | 1, _ =>
        simp (disch := omega) only [lit_nI, k_eqT, k_eqF, k_leT, k_leF, not_true, not_false_eq_true, if_true, if_false, Option.bind_some, k_in, k_cl, k10, f1]
        exact St.no h rfl rfl
      | 2, _ =>
        simp (disch := omega) only [lit_nI, k_eqT, k_eqF, k_leT, k_leF, not_true, not_false_eq_true, if_true, if_false, Option.bind_some, k_in, k_cl, k11, f2]
        exact St.no h rfl rfl
      | 3, _ =>
        simp (disch := omega) only [lit_nI, k_eqT, k_eqF, k_leT, k_leF, not_true, not_false_eq_true, if_true, if_false, Option.bind_some, p_76 (show 100 ≤ g by omega) hc hL2 (show L ≤ 5 by omega), q_202 (show 100 ≤ g by omega) hr.1 hL2 (show L ≤ 5 by omega)]
        exact St.no h rfl rfl
      | 4, _ =>
        obtain ⟨p1, p2⟩ := p_77 (g := g) hc (show t < 5 by omega)
        simp (disch := omega) only [lit_nI, k_eqT, k_eqF, k_leT, k_leF, not_true, not_false_eq_true, if_true, if_false, Option.bind_some, p1, nI_add, k_in, k_cl, hr.1]
        refine St.no h (v := w (69 + t)) ?_ rfl
        rcases p2 with p2 | p2 <;> rw [p2] <;> rfl
      | 5, _ =>
        simp (disch := omega) only [lit_nI, k_eqT, k_eqF, k_leT, k_leF, not_true, not_false_eq_true, if_true, if_false, Option.bind_some, k_in, k_cl, k12, f3]
        exact St.no h rfl rfl
    · rw [if_neg hb]
      have hn : ∀ j : Nat, j ≤ 5 → ¬ b = nI j := by
        intro j hj e
        apply hb
        rw [e]
        exact ⟨nI_pos' (by omega), nI_le (b := 5) hj (by omega)⟩
      simp only [lit_nI, hn 0 (by omega), hn 1 (by omega), hn 2 (by omega), hn 3 (by omega), hn 4 (by omega), hn 5 (by omega), if_false, eq_self, not_true]
      exact St.no h rfl rfl
theorem s_want (hg : 2000 ≤ g) (h : Inv k m S) (a b : Int32) : St k ((d_109 g a b m).map (fun v => (v, m))) (d_204 g a b S) := by
  obtain ⟨-, -, w, q, x, T, W, C, Sa, R, hc, hr, -, -⟩ := id h
  obtain ⟨hW, hW6⟩ := hc.2.1.2.1
  have e2 : S.2.1 20 2 = nI W := by rw [hr.1]; exact hW
  have hO := hc.cy.1
  have hw := hc.wn
  unfold d_109 d_204 d_189
  rcases k_ix a W (by omega) with h1 | ⟨h1, h0⟩ | ⟨t, ht, rfl⟩
  · rw [if_pos h1, if_pos h1]
    exact St.no h rfl rfl
  · rw [if_neg h0, if_neg h0, hw, if_pos h1]
    simp (disch := omega) only [hO, if_true, lit_nI, k_in, k_cl, e2, h1, Option.bind_some, k_eqT]
    exact St.no h rfl rfl
  · obtain ⟨k4, k5⟩ := hc.1.1.2.2.1 t ht
    rw [if_neg (nI_pos (by omega)), if_neg (nI_pos (by omega)), hw]
    have e3 : S.2.1 20 (2 : Int32).toNatClampNeg = nI W := e2
    rw [e3]
    simp (disch := omega) only [hO, if_true, k_leF, if_false, k_in, Option.bind_some, z10]
    rw [if_pos (show aIn (2 : Int32) 181 = true by decide), Option.bind_some]
    simp only [z10, if_false]
    rw [q_140 (a := 0) (b := 1) (a' := 0) (b' := 1) (by decide) (by decide), Option.bind_some]
    by_cases hb : (0 : Int32) ≤ b ∧ b ≤ 1
    · obtain ⟨j, -, hj, rfl⟩ := rng (a := 0) (b := 1) (by omega) (by omega) hb
      rw [if_pos hb]
      match j, hj with
      | 0, _ =>
        simp (disch := omega) only [lit_nI, k_ltF, k_leT, k_eqT, k_eqF, not_true, if_true, if_false, k_cl, k4, nI_add, pk_mul, k_in, hr.1]
        exact St.no h rfl rfl
      | 1, _ =>
        simp (disch := omega) only [lit_nI, k_ltF, k_leT, k_eqT, k_eqF, not_false_eq_true, if_true, if_false, k_cl, k5, nI_add, pk_mul, k_in, hr.1]
        refine St.no h rfl ?_
        rw [show 96 + 2 * t + 1 = 97 + 2 * t by omega]
    · rw [if_neg hb]
      simp only [if_true]
      refine St.no h (v := -1) ?_ rfl
      by_cases h3 : b < 0
      · rw [if_pos h3]; rfl
      · rw [if_neg h3, if_neg (fun q => hb ⟨Int32.not_lt.mp h3, q⟩)]; rfl
theorem s_dear (hg : 2000 ≤ g) (h : Inv k m S) (a b c : Int32) : St k (d_110 g a b c m) (d_205 g a b c S) := by
  obtain ⟨-, -, w, q, x, T, W, C, Sa, R, hc, hr, -, -⟩ := id h
  have hT8 := hc.2.1.1.2
  unfold d_110 d_205
  rw [if_pos hc.cy.1]
  rcases has_th (g := g) (S := S) hc.cy.1 hc.t (by rw [hr.1]; exact hc.2.1.1.1) hT8 a with ⟨e1, e2⟩ | ⟨t, ht, rfl, e1, e2⟩
  · rw [e1, e2]
    exact St.no h rfl rfl
  · rw [e1, e2]
    simp only [Option.bind_some, z10, if_false]
    rw [q_140 (a := 0) (b := 999) (a' := 0) (b' := 999) (by decide) (by decide), Option.bind_some, p_138, Option.bind_some]
    by_cases hb : (0 : Int32) ≤ b ∧ b ≤ 999
    · obtain ⟨d, -, hd, rfl⟩ := rng (a := 0) (b := 999) (by omega) (by omega) hb
      rw [if_pos hb]
      simp only [z10, if_false]
      rw [q_140 (a := 0) (b := 99) (a' := 0) (b' := 99) (by decide) (by decide), Option.bind_some, p_138, Option.bind_some]
      by_cases hl : (0 : Int32) ≤ c ∧ c ≤ 99
      · obtain ⟨l, -, hl2, rfl⟩ := rng (a := 0) (b := 99) (by omega) (by omega) hl
        rw [if_pos hl]
        obtain ⟨m1, y1, y2, y3⟩ := p_dn (g := g) hg hc.cy (q := q) (t := t) (d := d) (l := l) hc.2.2.2.2.1 ht
        obtain ⟨S1, z1, z2, z3⟩ := q_dn (g := g) (m := m) hg hr hc.2.1 hc.2.2.2.2.2.2 (q' := q) (t := t) (d := d) (l := l) hc.2.2.2.2.1 ht
        have e5 : m.1 5 2 = rI q := hc.1.2.2.1.1
        simp only [z10, not_false_eq_true, if_true, if_false, e5, hr.2.1, y1, z1, Option.bind_some]
        exact St.scr h rfl rfl (ms.of y2 y3) (rs.of18 z2)
      · rw [if_neg hl]
        exact St.no h rfl rfl
    · rw [if_neg hb]
      exact St.no h rfl rfl
theorem s_cost (hg : 2000 ≤ g) (h : Inv k m S) (a : Int32) : St k (d_111 g a m) (d_213 g a S) := by
  obtain ⟨-, -, w, q, x, T, W, C, Sa, R, hc, hr, -, -⟩ := id h
  have hC5 := hc.2.1.2.2.1.2
  obtain ⟨L, hL1, hL2, -, hL4⟩ := lr_of hc.2.2.1 hC5
  obtain ⟨D, -, hD⟩ := hc.2.2.1.1
  obtain ⟨fr, hf1, hf2⟩ := hc.2.1.2.2.2.2.2.2.1
  unfold d_111 d_213
  rw [if_pos hc.cy.1]
  rcases is_op (g := g) hc hr with ⟨e1, e2, -⟩ | ⟨e1, e2⟩
  · rw [if_pos e1, e2]
    exact St.no h rfl rfl
  · rw [if_neg e1, e2]
    simp only [Option.bind_some, z10, if_false]
    rw [q_140 (a := 0) (b := 1) (a' := 0) (b' := 1) (by decide) (by decide), Option.bind_some]
    by_cases hb : (0 : Int32) ≤ a ∧ a ≤ 1
    · obtain ⟨j, -, hj, rfl⟩ := rng (a := 0) (b := 1) (by omega) (by omega) hb
      obtain ⟨m1, y1, y2, y3, y4⟩ := p_93 (g := g) hg hc hD hL2 (by omega) hL4 hf2 hf1
      obtain ⟨S1, z1, z2, z3, z4⟩ := q_212 (g := g) (m := m) (free := fr) hg hr hc.2.1 hc.2.2.1 hc.2.2.2.2.2.2 hc.2.2.2.2.1 hD hL2 (by omega) hL4 (by omega)
      have e5 : S.2.1 20 5 = nI fr := by rw [hr.1]; exact hf2
      rw [if_pos hb]
      simp (disch := omega) only [z10, not_false_eq_true, if_true, lit_nI, k_in, k_cl, k_ltF, k_leT, if_false, e5, y1, z1, Option.bind_some]
      by_cases h0 : j = 0
      · simp (disch := omega) only [k_eqT, not_true, if_false]
        exact St.scr h rfl rfl y2 (z3.mo (by decide) (by decide))
      · simp (disch := omega) only [k_eqF, not_false_eq_true, if_true]
        rw [y4, z2]
        exact St.scr h rfl rfl y2 (z3.mo (by decide) (by decide))
    · rw [if_neg hb]
      simp only [z00, not_true, if_false]
      refine St.no h (v := -1) ?_ rfl
      by_cases h3 : a < 0
      · rw [if_pos h3]
      · rw [if_neg h3, if_neg (fun q => hb ⟨Int32.not_lt.mp h3, q⟩)]
end QU
