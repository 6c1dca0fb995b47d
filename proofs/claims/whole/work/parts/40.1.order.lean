/-! order -/
def up1 (row : Nat → Nat) (L c : Nat) : Nat → Nat := fun i => if i = L then c else row i
def och (F : Nat → bO → bO) (ok : Nat → Bool) : Nat → Nat → bO → bO
  | 0, _, b => b
  | n + 1, i, b => och F ok n (i + 1) (if ok i = true then F i b else b)
/-- the rows from one on, in the order in which they are tried -/
def vis (C : Nat) (ok : (Nat → Nat) → Nat → Nat → Bool) (cst : (Nat → Nat) → Nat → Int32) : Nat → Nat → (Nat → Nat) → bO → bO
  | 0, _, _, b => b
  | d + 1, L, row, b => och (fun c b => vis C ok cst d (L + 1) (up1 row L c) (off b (cst (up1 row L c) (L + 1)) (L + 1) (fun i => nI (up1 row L c i)))) (ok row L) C 0 b
theorem och_no {F : Nat → bO → bO} {ok : Nat → Bool} : ∀ {n i : Nat} {b : bO}, (∀ j, i ≤ j → j < i + n → ok j = false) → och F ok n i b = b
  | 0, _, _, _ => rfl
  | n + 1, i, b, h => by
    show och F ok n (i + 1) (if ok i = true then F i b else b) = b
    rw [h i (by omega) (by omega), if_neg (by decide)]
    exact och_no (fun j h1 h2 => h j (by omega) (by omega))
/-- a code may come behind a row -/
def okc (w : Nat → Int32) (row : Nat → Nat) (L c : Nat) : Bool := decide (w (69 + c) = nI 0) && gw row c (nN (w (123 + 4 * c))) L 0
section OR
variable {g k : Nat} {m : cM} {S : rS} {B : rB} {w : Nat → Int32} {q T W C Sa R : Nat} {x : Int32}
def oX (m : cM) (s z : Nat) : Prop := m.1 71 11 = nI s ∧ m.1 71 12 = nI z
theorem p_l14 {sf : Int32 → cM → Option cM} {F : Nat → bO → bO} {row : Nat → Nat} {L s z : Nat} (hg : 2000 ≤ g) (hL : L ≤ 5) (hrow : ∀ i, i < L → row i < C) (hF : ∀ c m b, c < C → okc w row L c = true → cx m B w q x T W C Sa R k → oX m s z → (∀ i, i < L → m.1 74 i = nI (row i)) → bst m b → ∃ m', sf (nI (L + 1)) (cW m 74 L (nI c)) = some m' ∧ ms m m' ∧ (∀ a, a ≠ 32 → a ≠ 72 → a ≠ 73 → a ≠ 74 → m'.1 a = m.1 a) ∧ (∀ i, i < L → m'.1 74 i = nI (row i)) ∧ bst m' (F c b)) : ∀ (j c n : Nat) (m : cM) (b : bO), c + j = C → 2 * j + 1 ≤ n → cx m B w q x T W C Sa R k → oX m s z → (∀ i, i < L → m.1 74 i = nI (row i)) → bst m b → ∃ m', l_14 sf g n 0 (nI L) (nI c) m = some m' ∧ ms m m' ∧ (∀ a, a ≠ 32 → a ≠ 72 → a ≠ 73 → a ≠ 74 → m'.1 a = m.1 a) ∧ (∀ i, i < L → m'.1 74 i = nI (row i)) ∧ bst m' (och F (okc w row L) j c b) := by
  intro j
  induction j with
  | zero =>
    intro c n m b hc hn h ho hr hb
    obtain ⟨n, rfl⟩ : ∃ n', n = n' + 1 := ⟨n - 1, by omega⟩
    have e : c = C := by omega
    subst e
    refine ⟨m, ?_, ms.rf _, fun _ _ _ _ _ => rfl, hr, hb⟩
    rw [l_14, if_pos rfl, if_pos h.cy.1, h.cn, if_pos (Int32.le_refl _)]
  | succ j ih =>
    intro c n m b hc hn h ho hr hb
    obtain ⟨n, rfl⟩ : ∃ n', n = n' + 2 := ⟨n - 2, by omega⟩
    have hV := h.2.1
    have hC5 := hV.2.2.1.2
    obtain ⟨p1, p2⟩ := p_77 (g := g) h (show c < 5 by omega)
    obtain ⟨A, hA1, hA2⟩ := (hV.2.2.2.2.2.2.2.2.2.2.2 c (by omega)).2.2
    have nA : nN (w (123 + 4 * c)) = A := by rw [hA2]; exact n_cl (by omega)
    have p58 := p_58 (g := g) (m := m) (row := row) (p := m.2.2.1 5) (a2 := 74) (L := L) (c := c) (A := A) (by omega) h.cy.1 (by omega) ((h.1.1.2.2.2.2 c (by omega)).2.2.2.trans hA2) (by omega) hL (fun i hi => cA_of (by omega) kk_74 (by omega) (by omega)) (fun i hi => ⟨hr i hi, by have := hrow i hi; omega⟩)
    have l1 : ∀ m1 : cM, l_14 sf g (n + 1) 1 (nI L) (nI c) m1 = l_14 sf g n 0 (nI L) (nI (c + 1)) m1 := fun m1 => by
      rw [l_14, if_neg (by decide), if_pos rfl, show nI c + 1 = nI (c + 1) from nI_1 c]
    have skip : okc w row L c = false → ∃ m', l_14 sf g (n + 1) 1 (nI L) (nI c) m = some m' ∧ ms m m' ∧ (∀ a, a ≠ 32 → a ≠ 72 → a ≠ 73 → a ≠ 74 → m'.1 a = m.1 a) ∧ (∀ i, i < L → m'.1 74 i = nI (row i)) ∧ bst m' (och F (okc w row L) (j + 1) c b) := by
      intro hk
      obtain ⟨m', y1, y2, y3, y4, y5⟩ := ih (c + 1) n m b (by omega) (by omega) h ho hr hb
      refine ⟨m', by rw [l1]; exact y1, y2, y3, y4, ?_⟩
      show bst m' (och F (okc w row L) j (c + 1) (if okc w row L c = true then F c b else b))
      rw [hk, if_neg (by decide)]
      exact y5
    rw [l_14, if_pos rfl, if_pos h.cy.1, h.cn, if_neg (nI_ge (by omega) (by omega)), p1, Option.bind_some]
    rcases p2 with p2 | p2
    · rw [p2, if_neg (fun z => z rfl), p58, Option.bind_some]
      by_cases hgw : gw row c A L 0 = true
      · have hk : okc w row L c = true := by
          unfold okc
          rw [p2, nA, hgw, decide_eq_true rfl]; rfl
        obtain ⟨m1, u1, u2, u3, u4, u5⟩ := hF c m b (by omega) hk h ho hr hb
        obtain ⟨m', y1, y2, y3, y4, y5⟩ := ih (c + 1) n m1 (F c b) (by omega) (by omega) (h.ms u2) ⟨by rw [u3 71 (by decide) (by decide) (by decide) (by decide)]; exact ho.1, by rw [u3 71 (by decide) (by decide) (by decide) (by decide)]; exact ho.2⟩ u4 u5
        refine ⟨m', ?_, u2.tr y2, fun a a1 a2 a3 a4 => (y3 a a1 a2 a3 a4).trans (u3 a a1 a2 a3 a4), y4, ?_⟩
        · rw [if_pos hgw, if_neg (show ¬ (1 : Int32) = 0 by decide), if_pos (k_in (by omega) (by omega)), Option.bind_some, k_cl (by omega), show nI L + 1 = nI (L + 1) from nI_1 L, u1, Option.bind_some, l1]
          exact y1
        · show bst m' (och F (okc w row L) j (c + 1) (if okc w row L c = true then F c b else b))
          rw [if_pos hk]
          exact y5
      · rw [if_neg hgw, if_pos rfl]
        apply skip
        unfold okc
        rw [nA]
        simp only [Bool.not_eq_true] at hgw
        rw [hgw, Bool.and_false]
    · rw [p2, if_pos (show ¬ nI 1 = 0 by decide)]
      apply skip
      unfold okc
      rw [p2, decide_eq_false (by decide), Bool.false_and]
/-- orderBehind -/
theorem p_R14 {s z fr : Nat} (hg : 2000 ≤ g) (hs : s ≤ 800000) (hz : z ≤ 72) (h5 : w 5 = nI fr) (hfr : fr ≤ 9999) : ∀ (d L n : Nat) (m : cM) (row : Nat → Nat) (b : bO), L + d = C → d + 1 ≤ n → cx m B w q x T W C Sa R k → oX m s z → (∀ i, i < L → m.1 74 i = nI (row i) ∧ row i < C) → (∀ i j, i < j → j < L → row i ≠ row j) → bst m b → ∃ m', R_14 g n 0 (nI L) m = some m' ∧ ms m m' ∧ (∀ a, a ≠ 32 → a ≠ 72 → a ≠ 73 → a ≠ 74 → m'.1 a = m.1 a) ∧ (∀ i, i < L → m'.1 74 i = nI (row i)) ∧ bst m' (vis C (okc w) (fun row L => nI (if z = 0 then 0 else coN w row L s fr)) d L row (off b (nI (if z = 0 then 0 else coN w row L s fr)) L (fun i => nI (row i)))) := by
  intro d
  induction d with
  | zero =>
    intro L n m row b hL hn h ho hr hd hb
    obtain ⟨n, rfl⟩ : ∃ n', n = n' + 1 := ⟨n - 1, by omega⟩
    have hC5 := h.2.1.2.2.1.2
    have e : L = C := by omega
    subst e
    obtain ⟨m1, y1, y2, y3, y4⟩ := p_94 (g := g) (m := m) (w := w) (row := row) (L := L) (free := fr) (s := s) (z := z) (a3 := 74) (by omega) h.2.1 h.cy.1 h.cy.2.1 h.cy.2.2.1 (by omega) (by decide) (fun i hi => cA_of (by omega) kk_74 (by omega) (by omega)) hr (by omega) (by omega) (by omega)
    have hb1 : bst m1 b := hb.co (y3 72 (by decide)) (y3 73 (by decide))
    obtain ⟨m2, z1, z2, z3, z4⟩ := p_2 (g := g) (m := m1) (v := nI (if z = 0 then 0 else coN w row L s fr)) (L := L) (b := b) (by omega) hb1
    have z2 := z2.oc (r' := fun i => nI (row i)) (fun i hi => by rw [y3 74 (by decide)]; exact (hr i hi).1)
    have hms2 := y2.tr z3
    have fr2 : ∀ a, a ≠ 32 → a ≠ 72 → a ≠ 73 → a ≠ 74 → m2.1 a = m.1 a := fun a a1 a2 a3 a4 => (z4 a a2 a3).trans (y3 a a1)
    have e74 : ∀ i, i < L → m2.1 74 i = nI (row i) := fun i hi => by rw [z4 74 (by decide) (by decide), y3 74 (by decide)]; exact (hr i hi).1
    have e2 : m.1 (m.2.2.1 5) 2 = nI fr := h.cy.2.2.1.1.2.2.1.trans h5
    show ∃ m', t_14 (fun x1 m => R_14 g n 0 x1 m) g (nI L) m = some m' ∧ _
    unfold t_14
    rw [if_pos h.cy.1, ho.1, ho.2, e2, y1, Option.bind_some, z1, Option.bind_some]
    by_cases hL5 : L < 5
    · rw [if_pos (show nI L < 5 from nI_lt (b := 5) hL5 (by omega))]
      obtain ⟨m', u1, u2, u3, u4, u5⟩ := p_l14 (g := g) (B := B) (q := q) (x := x) (k := k) (T := T) (W := W) (Sa := Sa) (R := R) (sf := fun x1 m => R_14 g n 0 x1 m) (F := fun _ b => b) (row := row) (L := L) (C := L) (s := s) (z := z) hg (by omega) (fun i hi => (hr i hi).2) (fun c m b hc hk _ _ _ _ => by
        exfalso
        unfold okc at hk
        rw [Bool.and_eq_true] at hk
        have hgw := gw_iff.mp hk.2
        have := pige L (L + 1) (fun i => if i < L then row i else c) (by
          intro i hi
          show (if i < L then row i else c) < L
          by_cases hiL : i < L
          · rw [if_pos hiL]; exact (hr i hiL).2
          · rw [if_neg hiL]; exact hc) (by
          intro i j hij hj
          show (if i < L then row i else c) ≠ (if j < L then row j else c)
          rw [if_pos (by omega)]
          by_cases hjL : j < L
          · rw [if_pos hjL]; exact hd i j hij hjL
          · rw [if_neg hjL]; exact (hgw i (by omega) (by omega)).1)
        omega) L 0 g m2 _ (by omega) (by omega) (h.ms hms2) ⟨by rw [fr2 71 (by decide) (by decide) (by decide) (by decide)]; exact ho.1, by rw [fr2 71 (by decide) (by decide) (by decide) (by decide)]; exact ho.2⟩ e74 z2
      refine ⟨m', u1, hms2.tr u2, fun a a1 a2 a3 a4 => (u3 a a1 a2 a3 a4).trans (fr2 a a1 a2 a3 a4), u4, ?_⟩
      have oc : ∀ (n i : Nat) (b : bO), och (fun _ b => b) (okc w row L) n i b = b := by
        intro n
        induction n with
        | zero => intro i b; rfl
        | succ n ih =>
          intro i b
          show och (fun _ b => b) (okc w row L) n (i + 1) (if okc w row L i = true then b else b) = b
          rw [ite_self]
          exact ih (i + 1) b
      rw [oc] at u5
      exact u5
    · rw [if_neg (show ¬ nI L < 5 from nI_nlt (b := 5) (by omega) (by omega))]
      exact ⟨m2, rfl, hms2, fr2, e74, z2⟩
  | succ d ih =>
    intro L n m row b hL hn h ho hr hd hb
    obtain ⟨n, rfl⟩ : ∃ n', n = n' + 1 := ⟨n - 1, by omega⟩
    have hC5 := h.2.1.2.2.1.2
    obtain ⟨m1, y1, y2, y3, y4⟩ := p_94 (g := g) (m := m) (w := w) (row := row) (L := L) (free := fr) (s := s) (z := z) (a3 := 74) (by omega) h.2.1 h.cy.1 h.cy.2.1 h.cy.2.2.1 (by omega) (by decide) (fun i hi => cA_of (by omega) kk_74 (by omega) (by omega)) hr (by omega) (by omega) (by omega)
    have hb1 : bst m1 b := hb.co (y3 72 (by decide)) (y3 73 (by decide))
    obtain ⟨m2, z1, z2, z3, z4⟩ := p_2 (g := g) (m := m1) (v := nI (if z = 0 then 0 else coN w row L s fr)) (L := L) (b := b) (by omega) hb1
    have z2 := z2.oc (r' := fun i => nI (row i)) (fun i hi => by rw [y3 74 (by decide)]; exact (hr i hi).1)
    have hms2 := y2.tr z3
    have fr2 : ∀ a, a ≠ 32 → a ≠ 72 → a ≠ 73 → a ≠ 74 → m2.1 a = m.1 a := fun a a1 a2 a3 a4 => (z4 a a2 a3).trans (y3 a a1)
    have e74 : ∀ i, i < L → m2.1 74 i = nI (row i) := fun i hi => by rw [z4 74 (by decide) (by decide), y3 74 (by decide)]; exact (hr i hi).1
    have e2 : m.1 (m.2.2.1 5) 2 = nI fr := h.cy.2.2.1.1.2.2.1.trans h5
    show ∃ m', t_14 (fun x1 m => R_14 g n 0 x1 m) g (nI L) m = some m' ∧ _
    unfold t_14
    rw [if_pos h.cy.1, ho.1, ho.2, e2, y1, Option.bind_some, z1, Option.bind_some, if_pos (show nI L < 5 from nI_lt (b := 5) (by omega) (by omega))]
    obtain ⟨m', u1, u2, u3, u4, u5⟩ := p_l14 (g := g) (B := B) (q := q) (x := x) (k := k) (T := T) (W := W) (Sa := Sa) (R := R) (sf := fun x1 m => R_14 g n 0 x1 m) (F := fun c b => vis C (okc w) (fun row L => nI (if z = 0 then 0 else coN w row L s fr)) d (L + 1) (up1 row L c) (off b (nI (if z = 0 then 0 else coN w (up1 row L c) (L + 1) s fr)) (L + 1) (fun i => nI (up1 row L c i)))) (row := row) (L := L) (C := C) (s := s) (z := z) hg (by omega) (fun i hi => (hr i hi).2) (fun c m b hc hk hcx hox hrx hbx => by
      unfold okc at hk
      rw [Bool.and_eq_true] at hk
      have hgw := gw_iff.mp hk.2
      have hms : ms m (cW m 74 L (nI c)) := ms.W (by omega)
      obtain ⟨m', v1, v2, v3, v4, v5⟩ := ih (L + 1) n (cW m 74 L (nI c)) (up1 row L c) b (by omega) (by omega) (hcx.ms hms) ⟨by rw [cW_b (by decide)]; exact hox.1, by rw [cW_b (by decide)]; exact hox.2⟩ (fun i hi => by
        unfold up1
        by_cases e : i = L
        · rw [if_pos e, e, cW_s]; exact ⟨rfl, hc⟩
        · rw [if_neg e, cW_k e]; exact ⟨hrx i (by omega), (hr i (by omega)).2⟩) (fun i j hij hj => by
        unfold up1
        rw [if_neg (by omega)]
        by_cases e : j = L
        · rw [if_pos e]; exact (hgw i (by omega) (by omega)).1
        · rw [if_neg e]; exact hd i j hij (by omega)) (hbx.co (cW_b (by decide)) (cW_b (by decide)))
      refine ⟨m', v1, hms.tr v2, fun a a1 a2 a3 a4 => (v3 a a1 a2 a3 a4).trans (cW_b a4), fun i hi => ?_, v5⟩
      have := v4 i (by omega)
      unfold up1 at this
      rw [if_neg (by omega)] at this
      exact this) C 0 g m2 _ (by omega) (by omega) (h.ms hms2) ⟨by rw [fr2 71 (by decide) (by decide) (by decide) (by decide)]; exact ho.1, by rw [fr2 71 (by decide) (by decide) (by decide) (by decide)]; exact ho.2⟩ e74 z2
    exact ⟨m', u1, hms2.tr u2, fun a a1 a2 a3 a4 => (u3 a a1 a2 a3 a4).trans (fr2 a a1 a2 a3 a4), u4, u5⟩
end OR
