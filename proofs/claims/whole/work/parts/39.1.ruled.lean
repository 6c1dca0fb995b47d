/-! ruled, probe -/
/-- whether a rule makes all prices told so -/
def fiN (B : rB) (w : Nat → Int32) (q : Nat) : Nat → Nat → Bool
  | 0, _ => true
  | n + 1, i => if nI (dn B w q (nN (w (140 + 4 * i))) (nN (w (141 + 4 * i))) (nN (w (142 + 4 * i)))) = w (143 + 4 * i) then fiN B w q n (i + 1) else false
abbrev fit (B : rB) (w : Nat → Int32) (q : Nat) : Bool := fiN B w q (nN (w 180)) 0
theorem rI_1 (q : Nat) : rI q + nI 1 = rI (q + 1) := by
  rw [rI_s]
  unfold rI
  rw [Int32.sub_add_cancel]
def FL (p : Nat → Bool) (n : Nat) : List Nat := (List.range n).filter p
theorem FL_s {p : Nat → Bool} {n : Nat} : FL p (n + 1) = if p n = true then FL p n ++ [n] else FL p n := by
  unfold FL
  rw [List.range_succ, List.filter_append]
  by_cases h : p n = true
  · rw [if_pos h, List.filter_cons_of_pos h]; rfl
  · rw [if_neg h, List.filter_cons_of_neg h]; simp
theorem FL_len {p : Nat → Bool} : ∀ {n : Nat}, (FL p n).length ≤ n
  | 0 => Nat.le_refl _
  | n + 1 => by
    have := FL_len (p := p) (n := n)
    rw [FL_s]
    split
    · rw [List.length_append]; simp; exact this
    · omega
theorem FL_lt {p : Nat → Bool} {n j : Nat} (h : j < (FL p n).length) : (FL p n).getD j 0 < n ∧ p ((FL p n).getD j 0) = true := by
  rw [List.getD_eq_getElem?_getD, List.getElem?_eq_getElem h, Option.getD_some]
  have hm : (FL p n)[j] ∈ FL p n := List.getElem_mem h
  unfold FL at hm ⊢
  rw [List.mem_filter, List.mem_range] at hm
  exact hm
def GL (p : Nat → Bool) (R i : Nat) : List Nat := (List.range' i (R + 1 - i)).filter p
theorem GL_s {p : Nat → Bool} {R i : Nat} (h : i ≤ R) : GL p R i = if p i = true then i :: GL p R (i + 1) else GL p R (i + 1) := by
  unfold GL
  rw [show R + 1 - i = (R + 1 - (i + 1)) + 1 by omega, List.range'_succ]
  by_cases hp : p i = true
  · rw [if_pos hp, List.filter_cons_of_pos hp]
  · rw [if_neg hp, List.filter_cons_of_neg hp]
theorem GL_0 {p : Nat → Bool} {R : Nat} : GL p R 0 = FL p (R + 1) := by
  unfold GL FL
  rw [List.range_eq_range']
  rfl
def hdI (l : List Nat) : Int32 := match l with
  | [] => -2
  | a :: _ => rI a
def xI (i : Nat) : Int32 := nI i - nI 2
theorem xI_s (i : Nat) : xI (i + 1) = rI i := by
  unfold xI rI
  rw [show (2 : Nat) = 1 + 1 from rfl, ← nI_add i 1, ← nI_add 1 1, Int32.sub_eq_add_neg (nI i + nI 1), Int32.neg_add, Int32.sub_eq_add_neg (-nI 1), ← Int32.add_assoc, Int32.add_assoc (nI i), Int32.add_right_neg, Int32.add_zero, Int32.sub_eq_add_neg (nI i)]
theorem xI_m (i : Nat) : rI i + -nI 1 = xI i := by
  unfold xI rI
  rw [show (2 : Nat) = 1 + 1 from rfl, ← nI_add 1 1, Int32.sub_eq_add_neg, Int32.sub_eq_add_neg, Int32.neg_add, Int32.add_assoc, Int32.sub_eq_add_neg (-nI 1)]
theorem rI_ge (q : Nat) (hq : q ≤ 1000) : ¬ rI q < -nI 1 := by
  match q with
  | 0 => decide
  | r + 1 => rw [rI_s]; exact k_lt1 (by omega)
section RL
variable {g k : Nat} {m : cM} {S : rS} {B : rB} {w : Nat → Int32} {q T W C Sa R : Nat} {x : Int32}
theorem p_l33 {q' N : Nat} (hg : 2000 ≤ g) (hq' : q' ≤ R) (hN : w 180 = nI N) (hN10 : N ≤ 10) (htd : ∀ i, i < N → (∃ t, t < T ∧ w (140 + 4 * i) = nI t) ∧ bd (w (141 + 4 * i)) 99 ∧ bd (w (142 + 4 * i)) 99) : ∀ (j i n : Nat) (m : cM), i + j = N → j + 1 ≤ n → cx m B w q x T W C Sa R k → ∃ m', l_33 g n 0 (rI q') (nI i) m = some (if fiN B w q' j i = true then 1 else 0, m') ∧ m'.1 = m.1 ∧ m'.2.2 = m.2.2 := by
  intro j
  induction j with
  | zero =>
    intro i n m hi hn h
    obtain ⟨n, rfl⟩ : ∃ n', n = n' + 1 := ⟨n - 1, by omega⟩
    have e : i = N := by omega
    subst e
    have e58 : m.1 5 8 = nI i := h.1.2.2.1.2.2.trans hN
    refine ⟨m, ?_, rfl, rfl⟩
    rw [show (if fiN B w q' 0 i = true then (1 : Int32) else 0) = 1 from if_pos rfl]
    simp only [l_33, if_true, e58, Int32.le_refl]
  | succ j ih =>
    intro i n m hi hn h
    obtain ⟨n, rfl⟩ : ∃ n', n = n' + 1 := ⟨n - 1, by omega⟩
    have e58 : m.1 5 8 = nI N := h.1.2.2.1.2.2.trans hN
    obtain ⟨⟨t, ht, t1⟩, hd, hl⟩ := htd i (by omega)
    have nd := nI_nN hd (by omega)
    have nl := nI_nN hl (by omega)
    have nt : nN (w (140 + 4 * i)) = t := by rw [t1]; exact n_cl (by have := h.2.1.1.2; omega)
    obtain ⟨o1, o2, o3, o4⟩ := h.1.2.2.2.1 i (by rw [hN, n_cl (by omega)]; omega)
    have o1 : m.1 28 i = w (140 + 4 * i) := o1
    have o2 : m.1 29 i = w (141 + 4 * i) := o2
    have o3 : m.1 30 i = w (142 + 4 * i) := o3
    have o4 : m.1 31 i = w (143 + 4 * i) := o4
    obtain ⟨m1, y1, y2, y3⟩ := p_dn (g := g) hg h.cy (q := q') (t := t) (d := nN (w (141 + 4 * i))) (l := nN (w (142 + 4 * i))) hq' ht
    rw [nd.1, nl.1] at y1
    have o4' : m1.1 31 i = w (143 + 4 * i) := by rw [y2]; exact o4
    rw [l_33]
    simp (disch := omega) only [if_true, e58, k_leF, if_false, k_in, k_cl, o1, o2, o3, t1, y1, Option.bind_some, o4', lit_nI, nI_add]
    rw [show fiN B w q' (j + 1) i = if nI (dn B w q' (nN (w (140 + 4 * i))) (nN (w (141 + 4 * i))) (nN (w (142 + 4 * i)))) = w (143 + 4 * i) then fiN B w q' j (i + 1) else false from rfl, nt]
    by_cases e : nI (dn B w q' t (nN (w (141 + 4 * i))) (nN (w (142 + 4 * i)))) = w (143 + 4 * i)
    · rw [if_pos e, if_pos e]
      obtain ⟨m', z1, z2, z3⟩ := ih (i + 1) n m1 (by omega) (by omega) (h.ms (ms.of y2 y3))
      exact ⟨m', z1, z2.trans y2, z3.trans y3⟩
    · rw [if_neg e, if_neg e]
      exact ⟨m1, rfl, y2, y3⟩
theorem p_33 {q' : Nat} (hg : 2000 ≤ g) (hq' : q' ≤ R) (h : cx m B w q x T W C Sa R k) : ∃ m', d_33 g (rI q') m = some (if fit B w q' = true then 1 else 0, m') ∧ m'.1 = m.1 ∧ m'.2.2 = m.2.2 := by
  obtain ⟨N, n1, n2, n3⟩ := h.2.2.2.1
  unfold d_33
  have := p_l33 (g := g) hg hq' n2 n1 n3 N 0 g m (by omega) (by omega) h
  rw [show fit B w q' = fiN B w q' N 0 by unfold fit; rw [n2, n_cl (by omega)]]
  exact this
theorem q_l261 {q' N : Nat} (hg : 2000 ≤ g) (hq' : q' ≤ R) (hV : shV w T W C Sa) (hR : rbR m.1 B R) (hN : w 180 = nI N) (hN10 : N ≤ 10) (htd : ∀ i, i < N → (∃ t, t < T ∧ w (140 + 4 * i) = nI t) ∧ bd (w (141 + 4 * i)) 99 ∧ bd (w (142 + 4 * i)) 99) : ∀ (j i n : Nat) (S : rS), i + j = N → j + 1 ≤ n → rx S B w q x R → ∃ S', l_261 g n 0 (rI q') (nI i) S = some (if fiN B w q' j i = true then 1 else 0, S') ∧ rc [18] [] S S' := by
  intro j
  induction j with
  | zero =>
    intro i n S hi hn h
    obtain ⟨n, rfl⟩ : ∃ n', n = n' + 1 := ⟨n - 1, by omega⟩
    have e : i = N := by omega
    subst e
    refine ⟨S, ?_, rc.rf _⟩
    rw [show (if fiN B w q' 0 i = true then (1 : Int32) else 0) = 1 from if_pos rfl]
    simp (disch := omega) only [l_261, if_true, lit_nI, k_in, k_cl, h.1, hN, Int32.le_refl]
  | succ j ih =>
    intro i n S hi hn h
    obtain ⟨n, rfl⟩ : ∃ n', n = n' + 1 := ⟨n - 1, by omega⟩
    obtain ⟨⟨t, ht, t1⟩, hd, hl⟩ := htd i (by omega)
    have nd := nI_nN hd (by omega)
    have nl := nI_nN hl (by omega)
    have nt : nN (w (140 + 4 * i)) = t := by rw [t1]; exact n_cl (by have := hV.1.2; omega)
    obtain ⟨S1, y1, y2, y3⟩ := q_dn (g := g) (m := m) hg h hV hR (q' := q') (t := t) (d := nN (w (141 + 4 * i))) (l := nN (w (142 + 4 * i))) hq' ht
    rw [nd.1, nl.1] at y1
    have e20 : S1.2.1 20 = w := (y2.2 20 (by decide)).trans h.1
    have i1 : 140 + 4 * i + 1 = 141 + 4 * i := by omega
    have i2 : 140 + 4 * i + 2 = 142 + 4 * i := by omega
    have i3 : 140 + 4 * i + 3 = 143 + 4 * i := by omega
    rw [l_261]
    simp (disch := omega) only [if_true, lit_nI, k_in, k_cl, h.1, hN, k_leF, if_false, nI_add, pk_mul, i1, i2, i3, t1, y1, Option.bind_some, e20]
    rw [show fiN B w q' (j + 1) i = if nI (dn B w q' (nN (w (140 + 4 * i))) (nN (w (141 + 4 * i))) (nN (w (142 + 4 * i)))) = w (143 + 4 * i) then fiN B w q' j (i + 1) else false from rfl, nt]
    by_cases e : nI (dn B w q' t (nN (w (141 + 4 * i))) (nN (w (142 + 4 * i)))) = w (143 + 4 * i)
    · rw [if_pos e, if_pos e]
      obtain ⟨S', z1, z2⟩ := ih (i + 1) n S1 (by omega) (by omega) (h.rs (rs.of18 y2))
      exact ⟨S', z1, y2.tr z2⟩
    · rw [if_neg e, if_neg e]
      exact ⟨S1, rfl, y2⟩
theorem q_261 {q' : Nat} (hg : 2000 ≤ g) (hq' : q' ≤ R) (hV : shV w T W C Sa) (htd : tdV w T) (hR : rbR m.1 B R) (h : rx S B w q x R) : ∃ S', d_261 g (rI q') S = some (if fit B w q' = true then 1 else 0, S') ∧ rc [18] [] S S' := by
  obtain ⟨N, n1, n2, n3⟩ := htd
  unfold d_261
  have := q_l261 (g := g) (m := m) (q := q) (x := x) hg hq' hV hR n2 n1 n3 N 0 g S (by omega) (by omega) h
  rw [show fit B w q' = fiN B w q' N 0 by unfold fit; rw [n2, n_cl (by omega)]]
  exact this
/-- the rules found so far, in the class -/
def rul (m : cM) (l : List Nat) : Prop := m.1 71 17 = nI l.length ∧ ∀ j, j < l.length → m.1 79 j = rI (l.getD j 0)
theorem p_l32 (hg : 2000 ≤ g) : ∀ (j i n : Nat) (m : cM), i + j = R + 1 → 2 * j + 1 ≤ n → cx m B w q x T W C Sa R k → rul m (FL (fit B w) i) → ∃ m', l_32 g n 0 (rI i) m = some m' ∧ ms m m' ∧ rul m' (FL (fit B w) (R + 1)) := by
  intro j
  induction j with
  | zero =>
    intro i n m hi hn h hr
    obtain ⟨n, rfl⟩ : ∃ n', n = n' + 1 := ⟨n - 1, by omega⟩
    have e : i = R + 1 := by omega
    subst e
    refine ⟨m, ?_, ms.rf _, hr⟩
    have e32 : m.1 32 2 = nI R := h.2.2.2.2.2.2.2.1
    simp only [l_32, if_true, e32, rI_s, Int32.le_refl]
  | succ j ih =>
    intro i n m hi hn h hr
    obtain ⟨n, rfl⟩ : ∃ n', n = n' + 2 := ⟨n - 2, by omega⟩
    have e32 : m.1 32 2 = nI R := h.2.2.2.2.2.2.2.1
    have hR6 := h.2.2.2.2.2.2.1
    have hcn : ¬ nI R ≤ rI i := by
      match i, hi with
      | 0, _ => exact fun z => absurd (Int32.le_trans (nI_pos' (n := R) (by omega)) z) (by decide)
      | r + 1, hi => rw [rI_s]; exact nI_ge (by omega) (by omega)
    obtain ⟨m1, y1, y2, y3⟩ := p_33 (g := g) (q' := i) hg (by omega) h
    have hlen := FL_len (p := fit B w) (n := i)
    have l1 : ∀ m0 : cM, l_32 g (n + 1) 1 (rI i) m0 = l_32 g n 0 (rI (i + 1)) m0 := fun m0 => by
      show l_32 g n 0 (rI i + 1) m0 = _
      rw [show (1 : Int32) = nI 1 from rfl, rI_1]
    rw [l_32]
    simp only [if_true, e32, hcn, if_false, y1, Option.bind_some]
    by_cases hf : fit B w i = true
    · obtain ⟨m', z1, z2, z3⟩ := ih (i + 1) n (cW (cW m1 79 (FL (fit B w) i).length (rI i)) 71 17 (nI ((FL (fit B w) i).length + 1))) (by omega) (by omega) (h.ms (((ms.of y2 y3).tr (ms.W (by omega))).tr (ms.W (by omega)))) (by
        rw [FL_s, if_pos hf]
        refine ⟨by rw [cW_s]; simp, fun j hj => ?_⟩
        rw [List.length_append] at hj
        have hj : j < (FL (fit B w) i).length + 1 := hj
        rw [cW_b (by decide)]
        by_cases e : j = (FL (fit B w) i).length
        · rw [e, cW_s, List.getD_eq_getElem?_getD, List.getElem?_append_right (Nat.le_refl _)]
          simp
        · rw [cW_k e, y2, hr.2 j (by omega), List.getD_eq_getElem?_getD, List.getD_eq_getElem?_getD, List.getElem?_append_left (by omega)])
      refine ⟨m', ?_, (((ms.of y2 y3).tr (ms.W (by omega))).tr (ms.W (by omega))).tr z2, z3⟩
      have e71 : m1.1 71 17 = nI (FL (fit B w) i).length := by rw [y2]; exact hr.1
      have e71' : ∀ v, (cW m1 79 (FL (fit B w) i).length v).1 71 17 = nI (FL (fit B w) i).length := fun v => by rw [cW_b (by decide)]; exact e71
      rw [if_pos hf]
      simp (disch := omega) only [z10, if_false, e71, k_in, if_true, k_cl, Option.bind_some, e71', lit_nI, nI_add, l1]
      exact z1
    · obtain ⟨m', z1, z2, z3⟩ := ih (i + 1) n m1 (by omega) (by omega) (h.ms (ms.of y2 y3)) (by
        rw [FL_s, if_neg hf]
        refine ⟨by rw [y2]; exact hr.1, by rw [y2]; exact hr.2⟩)
      refine ⟨m', ?_, (ms.of y2 y3).tr z2, z3⟩
      rw [if_neg hf, if_pos rfl, l1]
      exact z1
/-- seekRuled -/
theorem p_32 (hg : 2000 ≤ g) (h : cx m B w q x T W C Sa R k) : ∃ m', d_32 g m = some m' ∧ ms m m' ∧ rul m' (FL (fit B w) (R + 1)) := by
  have hR6 := h.2.2.2.2.2.2.1
  unfold d_32
  rw [Option.bind_some]
  have h1 : ms m (cW m 71 17 0) := ms.W (by omega)
  obtain ⟨m', z1, z2, z3⟩ := p_l32 (g := g) hg (R + 1) 0 g (cW m 71 17 0) (by omega) (by omega) (h.ms h1) ⟨cW_s, fun j hj => absurd hj (by simp [FL])⟩
  refine ⟨m', ?_, h1.tr z2, z3⟩
  rw [show (-1 : Int32) = rI 0 from rI_0.symm]
  exact z1
theorem l262_1 {n : Nat} {x1 x2 x3 x4 : Int32} : l_262 g (n + 1) 1 x1 x2 x3 x4 S = l_262 g n 0 x1 x2 x3 (x4 + -1) S := by
  rw [l_262, if_neg (by decide), if_pos rfl]
theorem l262_e {n : Nat} {x1 x2 x3 x4 : Int32} (h : x4 < -1) : l_262 g (n + 1) 0 x1 x2 x3 x4 S = some (if ¬ x1 = 0 then x3 else x2, S) := by
  rw [l_262, if_pos rfl, if_pos h]
  by_cases h0 : x1 = 0
  · rw [if_neg (fun z => z h0), if_neg (fun z => z h0)]
  · rw [if_pos h0, if_pos h0]
theorem hdI_c {a : Nat} {l : List Nat} : hdI (a :: l) = rI a := rfl
theorem q_l262 {x1 : Int32} (hg : 2000 ≤ g) (hV : shV w T W C Sa) (htd : tdV w T) (hR : rbR m.1 B R) : ∀ (i n : Nat) (S : rS), i ≤ R + 1 → 2 * i + 1 ≤ n → rx S B w q x R → ∃ S', l_262 g n 0 x1 (nI (GL (fit B w) R i).length) (hdI (GL (fit B w) R i)) (xI (i)) S = some ((if ¬ x1 = 0 then hdI (FL (fit B w) (R + 1)) else nI (FL (fit B w) (R + 1)).length), S') ∧ rc [18] [] S S' := by
  have hR6 := hR.1
  intro i
  induction i with
  | zero =>
    intro n S hi hn h
    obtain ⟨n, rfl⟩ : ∃ n', n = n' + 1 := ⟨n - 1, by omega⟩
    refine ⟨S, ?_, rc.rf _⟩
    rw [GL_0]
    have h2 : xI 0 < -1 := by decide
    rw [l262_e h2]
  | succ i ih =>
    intro n S hi hn h
    obtain ⟨n, rfl⟩ : ∃ n', n = n' + 2 := ⟨n - 2, by omega⟩
    obtain ⟨S1, y1, y2⟩ := q_261 (g := g) (m := m) (q' := i) hg (by omega) hV htd hR h
    obtain ⟨S', z1, z2⟩ := ih n S1 (by omega) (by omega) (h.rs (rs.of18 y2))
    refine ⟨S', ?_, y2.tr z2⟩
    have hlen : (GL (fit B w) R (i + 1)).length ≤ 100 := by
      unfold GL
      have := List.length_filter_le (fit B w) (List.range' (i + 1) (R + 1 - (i + 1)))
      rw [List.length_range'] at this
      omega
    have l1 : ∀ y2 y3 : Int32, l_262 g (n + 1) 1 x1 y2 y3 (rI i) S1 = l_262 g n 0 x1 y2 y3 (xI i) S1 := fun a b => by
      rw [l262_1, show (-1 : Int32) = -nI 1 from rfl, xI_m]
    rw [l_262, xI_s]
    rw [if_pos rfl, if_neg (show ¬ rI i < -1 from rI_ge i (by omega)), y1, Option.bind_some]
    rw [GL_s (show i ≤ R by omega)] at z1
    by_cases hf : fit B w i = true
    · rw [if_pos hf] at z1 ⊢
      rw [if_pos (show ¬ (1 : Int32) = 0 by decide), l1]
      have : nI (GL (fit B w) R (i + 1)).length + 1 = nI (i :: GL (fit B w) R (i + 1)).length := nI_1 _
      rw [this]
      rw [hdI_c] at z1
      exact z1
    · rw [if_neg hf] at z1 ⊢
      rw [if_neg (show ¬ ¬ (0 : Int32) = 0 by decide), l1]
      exact z1
set_option maxHeartbeats 1000000 in
theorem sp_ruled (hg : 2000 ≤ g) (h : Inv k m S) (a : Int32) : St k (d_130 g a m) (d_262 g a S) := by
  obtain ⟨-, -, w, q, x, T, W, C, Sa, R, hc, hr, hpa, him⟩ := id h
  have hV := hc.2.1
  have hR6 := hc.2.2.2.2.2.2.1
  unfold d_130 d_262
  rw [if_pos hc.cy.1]
  rcases is_op (g := g) hc hr with ⟨e1, e2, -⟩ | ⟨e1, e2⟩
  · rw [if_pos e1, e2]
    exact St.no h rfl rfl
  · rw [if_neg e1, e2]
    simp only [Option.bind_some, z10, if_false]
    rw [q_140 (a := 0) (b := 1) (a' := 0) (b' := 1) (by decide) (by decide), Option.bind_some]
    by_cases hb : (0 : Int32) ≤ a ∧ a ≤ 1
    · obtain ⟨j, -, hj, rfl⟩ := rng (a := 0) (b := 1) (by omega) (by omega) hb
      obtain ⟨m1, y1, y2, y3⟩ := p_32 (g := g) hg hc
      obtain ⟨S1, z1, z2⟩ := q_l262 (g := g) (m := m) (x1 := nI j) hg hV hc.2.2.2.1 hc.2.2.2.2.2.2 (R + 1) g S (Nat.le_refl _) (by omega) hr
      have eG : GL (fit (bS3 S) w) R (R + 1) = [] := by
        unfold GL
        rw [Nat.sub_self]; rfl
      rw [eG, xI_s] at z1
      have z1' : l_262 g g 0 (nI j) 0 (-2) (nI R - 1) S = some ((if ¬ nI j = 0 then hdI (FL (fit (bS3 S) w) (R + 1)) else nI (FL (fit (bS3 S) w) (R + 1)).length), S1) := z1
      have hlen := FL_len (p := fit (bS3 S) w) (n := R + 1)
      have e17 := y3.1
      rw [if_pos hb, if_neg (show ¬ nI j < 0 from nI_pos (by omega)), if_pos (show nI j ≤ 1 from nI_le (b := 1) hj (by omega)), y1, Option.bind_some, if_pos (show ¬ (1 : Int32) = 0 by decide), hr.2.2.2.2.2.2, z1', e17]
      match j, hj with
      | 0, _ =>
        rw [if_neg (show ¬ ¬ nI 0 = 0 from fun z => z rfl), if_neg (show ¬ ¬ nI 0 = 0 from fun z => z rfl)]
        exact St.scr h rfl rfl y2 (rs.of18 z2)
      | 1, _ =>
        rw [if_pos (show ¬ nI 1 = 0 by decide), if_pos (show ¬ nI 1 = 0 by decide)]
        cases hF : FL (fit (bS3 S) w) (R + 1) with
        | nil =>
          rw [if_pos (by decide)]
          exact St.scr h rfl rfl y2 (rs.of18 z2)
        | cons b t =>
          have e79 := y3.2 0 (by rw [hF]; simp)
          rw [hF] at e79
          rw [hF] at hlen
          have hl2 : (b :: t).length = t.length + 1 := rfl
          rw [if_neg (show ¬ nI (b :: t).length ≤ 0 from nI_nle (by omega) (by omega)), if_pos (by decide)]
          refine St.scr h (v := rI b) ?_ rfl y2 (rs.of18 z2)
          rw [show (0 : Int32).toNatClampNeg = 0 from rfl, e79]
          rfl
    · rw [if_neg hb]
      simp only [z00, not_true, if_false]
      refine St.no h (v := -3) ?_ rfl
      by_cases h3 : a < 0
      · rw [if_pos h3]
      · rw [if_neg h3, if_neg (fun q => hb ⟨Int32.not_lt.mp h3, q⟩)]
end RL
