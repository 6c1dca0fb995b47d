/-! CONTEXTS: rules and world on both sides -/
theorem stR.ba {M : Nat → Nat → Int32} {a T t : Nat} {w : Nat → Int32} (h : stR M a w T) (ht : t < T) : M (a + 1) t = w (17 + 5 * t) := by
  rw [show 17 + 5 * t = 16 + 5 * t + 1 by omega]
  exact h.2.1 t ht 1 (by omega)
theorem stR.st {M : Nat → Nat → Int32} {a T t : Nat} {w : Nat → Int32} (h : stR M a w T) (ht : t < T) : M (a + 2) t = w (16 + 5 * t) := h.2.1 t ht 0 (by omega)
theorem stR.ha {M : Nat → Nat → Int32} {a T t : Nat} {w : Nat → Int32} (h : stR M a w T) (ht : t < T) : M (a + 3) t = w (18 + 5 * t) := by
  rw [show 18 + 5 * t = 16 + 5 * t + 2 by omega]
  exact h.2.1 t ht 2 (by omega)
theorem stR.lo {M : Nat → Nat → Int32} {a T t : Nat} {w : Nat → Int32} (h : stR M a w T) (ht : t < T) : M (a + 4) t = w (19 + 5 * t) := by
  rw [show 19 + 5 * t = 16 + 5 * t + 3 by omega]
  exact h.2.1 t ht 3 (by omega)
theorem stR.la {M : Nat → Nat → Int32} {a T t : Nat} {w : Nat → Int32} (h : stR M a w T) (ht : t < T) : M (a + 5) t = w (20 + 5 * t) := by
  rw [show 20 + 5 * t = 16 + 5 * t + 4 by omega]
  exact h.2.1 t ht 4 (by omega)
def rbR (M : Nat → Nat → Int32) (B : rB) (R : Nat) : Prop := R ≤ 6 ∧ M 32 2 = nI R ∧ ∀ r, r < R → ∃ K len, rgR B r K len ∧ rgC M B r K len
theorem rgC.congr {M M' : Nat → Nat → Int32} {B : rB} {r K len : Nat} (h : rgC M B r K len) (e : ∀ i, i ≤ 4 → M' (35 + 6 * r + i) = M (35 + 6 * r + i)) : rgC M' B r K len := by
  have e0 : M' (35 + 6 * r) = M (35 + 6 * r) := e 0 (by omega)
  unfold rgC at h ⊢
  rw [e0, e 1 (by omega), e 2 (by omega), e 3 (by omega), e 4 (by omega)]
  exact h
theorem rbR.congr {M M' : Nat → Nat → Int32} {B : rB} {R : Nat} (h : rbR M B R) (e2 : M' 32 2 = M 32 2) (e : ∀ b, 35 ≤ b → b ≤ 70 → M' b = M b) : rbR M' B R := by
  obtain ⟨h1, h2, h3⟩ := h
  refine ⟨h1, e2.trans h2, fun r hr => ?_⟩
  obtain ⟨K, len, h4, h5⟩ := h3 r hr
  exact ⟨K, len, h4, h5.congr (fun i hi => e _ (by omega) (by omega))⟩
theorem rbR.ms {m m' : cM} {B : rB} {R : Nat} (h : rbR m.1 B R) (k : ms m m') : rbR m'.1 B R := h.congr (k.2.1 2 (by decide)) (fun b h1 h2 => k.1 b (by omega) (by omega))
/-- prices: the shop of now, a state at a1 -/
def cy (m : cM) (a1 : Nat) (B : rB) (w : Nat → Int32) (T W C Sa R : Nat) : Prop := cO m (m.2.2.1 5) 5 = true ∧ spO (m.2.2.1 5) ∧ shR m.1 (m.2.2.1 5) w T W C Sa ∧ shV w T W C Sa ∧ rbR m.1 B R ∧ stR m.1 a1 w T ∧ cU a1 7 = true
def cx (m : cM) (B : rB) (w : Nat → Int32) (q : Nat) (x : Int32) (T W C Sa R k : Nat) : Prop := wR m 5 w (rI q) x T W C Sa ∧ shV w T W C Sa ∧ stV w T C k ∧ tdV w T ∧ q ≤ R ∧ ¬ x < 0 ∧ rbR m.1 B R
def rx (S : rS) (B : rB) (w : Nat → Int32) (q : Nat) (x : Int32) (R : Nat) : Prop := S.2.1 20 = w ∧ S.1 21 = rI q ∧ S.1 22 = x ∧ S.2.1 3 = B.1 ∧ S.2.1 5 = B.2.1 ∧ S.2.1 6 = B.2.2 ∧ S.1 2 = nI R
abbrev scI : List Nat := [18, 24, 25, 29, 30, 36, 37, 38, 41, 42]
abbrev scA : List Nat := [23, 28, 31, 32, 33, 34, 35, 39]
/-- only what is asked of part III has been written -/
abbrev rs (S S' : rS) : Prop := rc scI scA S S'
theorem rx.rs {S S' : rS} {B : rB} {w : Nat → Int32} {q : Nat} {x : Int32} {R : Nat} (h : rx S B w q x R) (k : rs S S') : rx S' B w q x R := by
  unfold rx
  rw [k.2 20 (by decide), k.1 21 (by decide), k.1 22 (by decide), k.2 3 (by decide), k.2 5 (by decide), k.2 6 (by decide), k.1 2 (by decide)]
  exact h
theorem cx.ms {m m' : cM} {B : rB} {w : Nat → Int32} {q T W C Sa R k : Nat} {x : Int32} (h : cx m B w q x T W C Sa R k) (j : ms m m') : cx m' B w q x T W C Sa R k := by
  obtain ⟨h1, h2, h3, h4, h5, h6, h7⟩ := h
  exact ⟨h1.ms j (Or.inl rfl), h2, h3, h4, h5, h6, h7.ms j⟩
theorem cx.cy {m : cM} {B : rB} {w : Nat → Int32} {q T W C Sa R k : Nat} {x : Int32} (h : cx m B w q x T W C Sa R k) : cy m 19 B w T W C Sa R := by
  obtain ⟨h1, h2, h3, h4, h5, h6, h7⟩ := h
  exact ⟨h1.2.2.2.2.1, h1.2.2.2.2.2, h1.1, h2, h7, h1.2.1, by decide⟩
section CX
variable {g : Nat} {m : cM} {S : rS} {B : rB} {w : Nat → Int32} {q T W C Sa R k a1 : Nat} {x : Int32}
theorem dn_b (hV : shV w T W C Sa) {q t d l : Nat} (ht : t < T) : 1 ≤ dn B w q t d l ∧ dn B w q t d l ≤ 9999 := by
  match q with
  | r + 1 => exact cl9_b _
  | 0 =>
    obtain ⟨p, hp1, hp2, hp⟩ := (hV.2.2.2.2.2.2.2.2.1 t ht).1
    have hSa := hV.2.2.2.1
    obtain ⟨a, ha, hpa⟩ := pc_b (w := w) (d := nI d) hV.2.2.2.2.2.2.2.2.2.2.1
    have hlt := dn0 hp1 ha
    have e : dn B w 0 t d l = p - p * a / 100 := by
      show nN (w (80 + 2 * t)) - nN (w (80 + 2 * t)) * nN (pcL w (nI d) (nN (w 10))) / 100 = _
      rw [hp, hSa.1, n_cl (by omega), n_cl (by omega), hpa, n_cl (by omega)]
    rw [e]
    omega
theorem p_dn (hg : 2000 ≤ g) (h : cy m a1 B w T W C Sa R) {q t d l : Nat} (hq : q ≤ R) (ht : t < T) : ∃ m', d_89 g a1 (rI q) (nI t) (nI d) (nI l) m = some (nI (dn B w q t d l), m') ∧ m'.1 = m.1 ∧ m'.2.2 = m.2.2 := by
  obtain ⟨hO, hp, hS, hV, hR, hT, hU⟩ := h
  obtain ⟨p, hp1, hp2, hpp⟩ := (hV.2.2.2.2.2.2.2.2.1 t ht).1
  have hT8 := hV.1.2
  exact p_89 hg hq hR.1 hR.2.2 hR.2.1 hO (by rw [hS.1.2.2.2.2.2.2.1]; exact hV.2.2.2.1.1) hV.2.2.2.1.1 hV.2.2.2.1.2 hS.2.2.2.1 (by omega) hpp hp1 hp2 (hS.2.1 t ht).1 (hS.2.1 t ht).2 hV.2.2.2.2.2.2.2.2.2.2.1 hU (hT.st ht) (hT.ha ht)
theorem q_dn (hg : 2000 ≤ g) (h : rx S B w q x R) (hV : shV w T W C Sa) (hR : rbR m.1 B R) {q' t d l : Nat} (hq : q' ≤ R) (ht : t < T) : ∃ S', d_198 g (rI q') (nI t) (nI d) (nI l) S = some (nI (dn B w q' t d l), S') ∧ rc [18] [] S S' ∧ S'.2.2.2.2 = S.2.2.2.2 := by
  obtain ⟨hw, h21, h22, h3, h5, h6, h2⟩ := h
  subst hw
  obtain ⟨p, hp1, hp2, hpp⟩ := (hV.2.2.2.2.2.2.2.2.1 t ht).1
  have hT8 := hV.1.2
  obtain ⟨S', z1, z2, z3, z4, z5⟩ := q_198 (g := g) (B := B) (S := S) (R := R) (Sa := Sa) (q := q') (t := t) (d := d) (l := l) (p := p) (by omega) hq hR.1 (fun r hr => by obtain ⟨K, len, y1, y2⟩ := hR.2.2 r hr; exact ⟨K, len, y1⟩) h3 h5 h6 hV.2.2.2.1.1 hV.2.2.2.1.2 (by omega) hpp hp1 hp2 hV.2.2.2.2.2.2.2.2.2.2.1
  exact ⟨S', z1, z2, z5⟩
/-- how dear a thing is on a day, of its looks -/
def dO (B : rB) (w : Nat → Int32) (q t d : Nat) : Nat := dn B w q t d (nN (w (19 + 5 * t)))
theorem dO_b (hV : shV w T W C Sa) {q t d : Nat} (ht : t < T) : 1 ≤ dO B w q t d ∧ dO B w q t d ≤ 9999 := dn_b hV ht
theorem rs.of18 {S S' : rS} (h : rc [18] [] S S') : rs S S' := h.mo (by decide) (by decide)
theorem nI_nN {x : Int32} {n : Nat} (h : bd x n) (hn : n < 2147483648) : nI (nN x) = x ∧ nN x ≤ n := by
  obtain ⟨a, h1, rfl⟩ := h
  unfold nN
  rw [k_cl (by omega)]
  exact ⟨rfl, h1⟩
theorem p_90 (hg : 2000 ≤ g) (h : cx m B w q x T W C Sa R k) {t d : Nat} (ht : t < T) : ∃ m', d_90 g (nI t) (nI d) m = some (nI (dO B w q t d), m') ∧ m'.1 = m.1 ∧ m'.2.2 = m.2.2 := by
  have hT8 := h.2.1.1.2
  have h5 := h.1.2.2.1.1
  have e23 : m.1 23 t = w (19 + 5 * t) := h.1.2.1.lo ht
  have hl := nI_nN (h.2.2.1.2.2.2.2.1 t ht).1 (by omega)
  obtain ⟨m', z1, z2, z3⟩ := p_dn (g := g) hg h.cy (q := q) (t := t) (d := d) (l := nN (w (19 + 5 * t))) h.2.2.2.2.1 ht
  rw [hl.1] at z1
  refine ⟨m', ?_, z2, z3⟩
  unfold d_90
  simp (disch := omega) only [k_in, if_true, k_cl, e23, h5, z1, Option.bind_some]
  rfl
theorem p_91 (hg : 2000 ≤ g) (h : cx m B w q x T W C Sa R k) {t D : Nat} (ht : t < T) (hD : w 7 = nI D) : ∃ m', d_91 g (nI t) m = some (nI (dO B w q t D), m') ∧ m'.1 = m.1 ∧ m'.2.2 = m.2.2 := by
  have e7 : m.1 19 13 = nI D := h.1.2.1.1.2.2.2.2.trans hD
  obtain ⟨m', z1, z2, z3⟩ := p_90 (g := g) hg h (t := t) (d := D) ht
  refine ⟨m', ?_, z2, z3⟩
  unfold d_91
  rw [e7, z1]
  rfl
theorem q_199 (hg : 2000 ≤ g) (h : rx S B w q x R) (hV : shV w T W C Sa) (hR : rbR m.1 B R) (hq : q ≤ R) {t d : Nat} (hl : bd (w (19 + 5 * t)) 99) (ht : t < T) : ∃ S', d_199 g (nI t) (nI d) S = some (nI (dO B w q t d), S') ∧ rc [18] [] S S' ∧ S'.2.2.2.2 = S.2.2.2.2 := by
  have hT8 := hV.1.2
  have hl := nI_nN hl (by omega)
  obtain ⟨S', z1, z2, z3⟩ := q_dn (g := g) (m := m) hg h hV hR (q' := q) (t := t) (d := d) (l := nN (w (19 + 5 * t))) hq ht
  rw [hl.1] at z1
  refine ⟨S', ?_, z2, z3⟩
  unfold d_199
  have e : d_191 g (nI t) 3 S = some (w (19 + 5 * t), S) := by
    have := q_191 (g := g) (t := t) (j := 3) (S := S) (by omega) (by omega)
    rw [show 16 + 5 * t + 3 = 19 + 5 * t by omega, h.1] at this
    exact this
  rw [e, Option.bind_some, h.2.1, z1]
  rfl
theorem q_200 (hg : 2000 ≤ g) (h : rx S B w q x R) (hV : shV w T W C Sa) (hR : rbR m.1 B R) (hq : q ≤ R) {t D : Nat} (hl : bd (w (19 + 5 * t)) 99) (ht : t < T) (hD : w 7 = nI D) : ∃ S', d_200 g (nI t) S = some (nI (dO B w q t D), S') ∧ rc [18] [] S S' ∧ S'.2.2.2.2 = S.2.2.2.2 := by
  obtain ⟨S', z1, z2, z3⟩ := q_199 (g := g) (m := m) hg h hV hR hq (t := t) (d := D) hl ht
  refine ⟨S', ?_, z2, z3⟩
  unfold d_200
  have e7 : S.2.1 20 7 = nI D := by rw [h.1]; exact hD
  simp (disch := omega) only [lit_nI, k_in, k_cl, if_true, e7, z1, Option.bind_some]
end CX
