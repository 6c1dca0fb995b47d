/-! fill: all rows, of the class -/
def fF (B : rB) (w : Nat → Int32) (q T D Lc free L : Nat) (r : Nat → Nat) (b : bO) : bO := if cfB w r T L = true then off b (nI (cfC B w q T D Lc free r L) - nI (sN (fun i => woN w (r i)) L)) L (fun i => nI (r i)) else b
/-- all rows of one length -/
def fin1 (T : Nat) (f : Nat → (Nat → Nat) → bO → bO) (L : Nat) (b : bO) : bO := if L = 0 ∨ 0 < T then rit T L (f L) (9 ^ L) (fun _ => 0) b else b
def flo (T : Nat) (f : Nat → (Nat → Nat) → bO → bO) : Nat → Nat → bO → bO
  | 0, _, b => b
  | j + 1, L, b => flo T f j (L + 1) (fin1 T f L b)
theorem p9 {L : Nat} (h : L ≤ 3) : 9 ^ L ≤ 729 := by
  have : L = 0 ∨ L = 1 ∨ L = 2 ∨ L = 3 := by omega
  rcases this with e | e | e | e <;> subst e <;> decide
section FL2
variable {g k : Nat} {m : cM} {S : rS} {B : rB} {w : Nat → Int32} {q T W C Sa R : Nat} {x : Int32}
theorem l15_3 {n : Nat} {f x2 x3 x4 : Int32} : l_15 g (n + 1) 3 f x2 x3 x4 m = l_15 g n 0 f (x2 + 1) 0 0 m := by
  rw [l_15, if_neg (by decide), if_neg (by decide), if_neg (by decide), if_pos rfl]
theorem l15_z {n : Nat} {f x2 x4 : Int32} : l_15 g (n + 2) 1 f x2 0 x4 m = l_15 g n 0 f (x2 + 1) 0 0 m := by
  rw [l_15, if_neg (by decide), if_pos rfl, if_pos rfl, l15_3]
theorem p_l15b {L D free : Nat} (hg : 2000 ≤ g) (hL : L ≤ 3) (hf : free ≤ 20000) : ∀ (K n : Nat) (m : cM) (r : Nat → Nat) (b : bO) (c : Nat), 9 ^ L ≤ K + vl r L → 2 * K + 3 ≤ n → c ≤ vl r L → cx m B w q x T W C Sa R k → m.1 71 11 = nI (bS B w q T D) → m.1 71 12 = nI (bM w T) → (∀ t, t < T → m.1 75 t = nI (dO B w q t D)) → srt r T L → (∀ i, i < L → m.1 74 i = nI (r i)) → bst m b → ∃ n' m', n ≤ n' + (2 * K + 2) ∧ l_15 g n 1 (nI free) (nI L) 1 (nI c) m = l_15 g n' 0 (nI free) (nI (L + 1)) 0 0 m' ∧ ms m m' ∧ (∀ a, a ≠ 32 → a ≠ 72 → a ≠ 73 → a ≠ 74 → m'.1 a = m.1 a) ∧ bst m' (rit T L (fF B w q T D (nN (w 9)) free L) K r b) := by
  have h9 := p9 hL
  intro K
  induction K with
  | zero =>
    intro n m r b c hK hn hc h h11 h12 h75 hs h74 hb
    have hT8 := h.2.1.1.2
    have := vl_b (r := r) (n := L) (fun j hj => by have := hs.1 j hj; omega)
    omega
  | succ K ih =>
    intro n m r b c hK hn hc h h11 h12 h75 hs h74 hb
    obtain ⟨n, rfl⟩ : ∃ n', n = n' + 2 := ⟨n - 2, by omega⟩
    have hT8 := h.2.1.1.2
    have hvb := vl_b (r := r) (n := L) (fun j hj => by have := hs.1 j hj; omega)
    have p18 := p_18 (g := g) (by omega) h hL hs h12 h74
    -- one row
    have one : ∃ m1, l_15 g (n + 2) 1 (nI free) (nI L) 1 (nI c) m = l_15 g (n + 1) 2 (nI free) (nI L) 1 (nI c) m1 ∧ ms m m1 ∧ (∀ a, a ≠ 32 → a ≠ 72 → a ≠ 73 → a ≠ 74 → m1.1 a = m.1 a) ∧ m1.1 74 = m.1 74 ∧ bst m1 (fF B w q T D (nN (w 9)) free L r b) := by
      rw [l_15, if_neg (by decide), if_pos rfl, if_neg (show ¬ (1 : Int32) = 0 by decide), if_neg (show ¬ (1000000 : Int32) ≤ nI c from nI_ge (b := 1000000) (by omega) (by omega)), p18, Option.bind_some]
      unfold fF
      by_cases hk : cfB w r T L = true
      · rw [if_pos hk, if_pos hk, if_neg (show ¬ (1 : Int32) = 0 by decide)]
        obtain ⟨m1, y1, y2, y3⟩ := p_19 (g := g) (r := r) (L := L) (D := D) (free := free) hg h (by omega) (fun i hi => ⟨h74 i hi, hs.1 i hi⟩) h75 h11 h12 hf
        have e74 : m1.1 74 = m.1 74 := y3 74 (by decide)
        have p21 := p_l21 (g := g) (r := r) (L := L) (a1 := 74) (h.ms y2) (by omega) (fun i hi => cA_of (by omega) kk_74 (by omega) (by omega)) (fun i hi => ⟨by rw [e74]; exact h74 i hi, hs.1 i hi⟩) L 0 g (by omega) (by omega)
        have p21 : d_21 g 74 (nI L) m1 = some (nI (sN (fun i => woN w (r i)) L)) := p21
        obtain ⟨m2, z1, z2, z3, z4⟩ := p_2 (g := g) (m := m1) (v := nI (cfC B w q T D (nN (w 9)) free r L) - nI (sN (fun i => woN w (r i)) L)) (L := L) (b := b) (by omega) (hb.co (y3 72 (by decide)) (y3 73 (by decide)))
        refine ⟨m2, ?_, y2.tr z3, fun a a1 a2 a3 a4 => (z4 a a2 a3).trans (y3 a a1), (z4 74 (by decide) (by decide)).trans e74, z2.oc (fun i hi => by rw [e74]; exact h74 i hi)⟩
        rw [y1, Option.bind_some, p21, Option.bind_some, z1, Option.bind_some]
      · rw [if_neg hk, if_neg hk, if_pos rfl]
        exact ⟨m, rfl, ms.rf _, fun _ _ _ _ _ => rfl, rfl, hb⟩
    obtain ⟨m1, o1, o2, o3, o4, o5⟩ := one
    have h1 := h.ms o2
    obtain ⟨m2, u1, u2, u3, u4⟩ := p_17 (g := g) (m := m1) (T := T) (r := r) (L := L) (by omega) (by omega) h1.cy.1 h1.t hT8 (fun d hd => ⟨by rw [o4]; exact h74 d hd, hs.1 d hd⟩)
    have e2 : l_15 g (n + 1) 2 (nI free) (nI L) 1 (nI c) m1 = l_15 g n 1 (nI free) (nI L) (match nxp r T L with
        | none => 0
        | some _ => 1) (nI (c + 1)) m2 := by
      rw [l_15, if_neg (by decide), if_neg (by decide), if_pos rfl, u1, Option.bind_some, show nI c + 1 = nI (c + 1) from nI_1 c]
      cases nxp r T L <;> rfl
    have fr2 : ∀ a, a ≠ 32 → a ≠ 72 → a ≠ 73 → a ≠ 74 → m2.1 a = m.1 a := fun a a1 a2 a3 a4 => (u3 a a4).trans (o3 a a1 a2 a3 a4)
    have b2 : bst m2 (fF B w q T D (nN (w 9)) free L r b) := o5.co (u3 72 (by decide)) (u3 73 (by decide))
    have er : rit T L (fF B w q T D (nN (w 9)) free L) (K + 1) r b = match nxp r T L with
      | none => fF B w q T D (nN (w 9)) free L r b
      | some p => rit T L (fF B w q T D (nN (w 9)) free L) K (nxr r p) (fF B w q T D (nN (w 9)) free L r b) := rfl
    rw [o1, e2, er]
    cases hp : nxp r T L with
    | none =>
      obtain ⟨n, rfl⟩ : ∃ n', n = n' + 2 := ⟨n - 2, by omega⟩
      refine ⟨n, m2, by omega, ?_, o2.tr u2, fr2, b2⟩
      show l_15 g (n + 2) 1 (nI free) (nI L) 0 (nI (c + 1)) m2 = _
      rw [l15_z, show nI L + 1 = nI (L + 1) from nI_1 L]
    | some p =>
      rw [hp] at u4
      obtain ⟨p1, p2⟩ := nxp_lt hp
      have hv := vl_n (r := r) (p := p) (n := L) p1 (fun j hj => by have := hs.1 j hj; omega)
      have f71 := fr2 71 (by decide) (by decide) (by decide) (by decide)
      have f75 := fr2 75 (by decide) (by decide) (by decide) (by decide)
      obtain ⟨n', m', z1, z2, z3, z4, z5⟩ := ih n m2 (nxr r p) (fF B w q T D (nN (w 9)) free L r b) (c + 1) (by omega) (by omega) (by omega) (h1.ms u2) (by rw [f71]; exact h11) (by rw [f71]; exact h12) (fun t ht => by rw [f75]; exact h75 t ht) (hs.n hp) u4 b2
      exact ⟨n', m', by omega, z2, (o2.tr u2).tr z3, fun a a1 a2 a3 a4 => (z4 a a1 a2 a3 a4).trans (fr2 a a1 a2 a3 a4), z5⟩
theorem p_16 {L : Nat} (hg : 100 ≤ g) (hL : L ≤ 8) (h : cx m B w q x T W C Sa R k) : ∃ m', d_16 g (nI L) m = some (if L = 0 ∨ 0 < T then 1 else 0, m') ∧ ms m m' ∧ (∀ b, b ≠ 74 → m'.1 b = m.1 b) ∧ (∀ d, d < 8 → m'.1 74 d = 0) := by
  have hT8 := h.2.1.1.2
  obtain ⟨m1, y1, y2, y3, y4⟩ := p_273 (g := g) (m := m) (a := 74) (N := 8) hg (by omega) kk_74 (by omega)
  have h1 := h.ms y2
  refine ⟨m1, ?_, y2, y3, y4⟩
  unfold d_16
  rw [y1, Option.bind_some]
  by_cases h0 : L = 0
  · subst h0
    rw [if_pos (show nI 0 = 0 from rfl), if_pos (Or.inl rfl)]
    rfl
  · rw [if_neg (show ¬ nI L = 0 from nI_ne0 (by omega) (by omega)), if_pos h1.cy.1, h1.t]
    by_cases hT : 0 < T
    · rw [if_neg (show ¬ nI T ≤ (0 : Int32) from nI_ge (a := 0) hT (by omega)), if_pos (Or.inr hT)]
      rfl
    · have e : T = 0 := by omega
      subst e
      rw [if_pos (show nI 0 ≤ (0 : Int32) from Int32.le_refl _), if_neg (fun z => z.elim h0 hT)]
theorem p_l15 {D free : Nat} (hg : 2000 ≤ g) (hf : free ≤ 20000) : ∀ (j L n : Nat) (m : cM) (b : bO), L + j = 4 → j * 1470 + 1 ≤ n → cx m B w q x T W C Sa R k → m.1 71 11 = nI (bS B w q T D) → m.1 71 12 = nI (bM w T) → (∀ t, t < T → m.1 75 t = nI (dO B w q t D)) → bst m b → ∃ m', l_15 g n 0 (nI free) (nI L) 0 0 m = some m' ∧ ms m m' ∧ (∀ a, a ≠ 32 → a ≠ 72 → a ≠ 73 → a ≠ 74 → m'.1 a = m.1 a) ∧ bst m' (flo T (fF B w q T D (nN (w 9)) free) j L b) := by
  intro j
  induction j with
  | zero =>
    intro L n m b hj hn h h11 h12 h75 hb
    obtain ⟨n, rfl⟩ : ∃ n', n = n' + 1 := ⟨n - 1, by omega⟩
    refine ⟨m, ?_, ms.rf _, fun _ _ _ _ _ => rfl, hb⟩
    rw [l_15, if_pos rfl, if_pos (show (3 : Int32) < nI L from nI_lt (a := 3) (by omega) (by omega))]
  | succ j ih =>
    intro L n m b hj hn h h11 h12 h75 hb
    obtain ⟨n, rfl⟩ : ∃ n', n = n' + 1 := ⟨n - 1, by omega⟩
    rw [show (j + 1) * 1470 = j * 1470 + 1470 from Nat.succ_mul _ _] at hn
    obtain ⟨J, hJ⟩ : ∃ J, J = j * 1470 := ⟨_, rfl⟩
    rw [← hJ] at hn
    have h9 := p9 (L := L) (by omega)
    obtain ⟨m1, y1, y2, y3, y4⟩ := p_16 (g := g) (L := L) (by omega) (by omega) h
    have h1 := h.ms y2
    have f71 := y3 71 (by decide)
    have f75 := y3 75 (by decide)
    have b1 : bst m1 b := hb.co (y3 72 (by decide)) (y3 73 (by decide))
    have e1 : l_15 g (n + 1) 0 (nI free) (nI L) 0 0 m = l_15 g n 1 (nI free) (nI L) (if L = 0 ∨ 0 < T then 1 else 0) 0 m1 := by
      rw [l_15, if_pos rfl, if_neg (show ¬ (3 : Int32) < nI L from nI_nlt (a := 3) (by omega) (by omega)), y1, Option.bind_some]
    have go : ∃ n' m2, J + 1 ≤ n' ∧ l_15 g n 1 (nI free) (nI L) (if L = 0 ∨ 0 < T then 1 else 0) 0 m1 = l_15 g n' 0 (nI free) (nI (L + 1)) 0 0 m2 ∧ ms m1 m2 ∧ (∀ a, a ≠ 32 → a ≠ 72 → a ≠ 73 → a ≠ 74 → m2.1 a = m1.1 a) ∧ bst m2 (fin1 T (fF B w q T D (nN (w 9)) free) L b) := by
      unfold fin1
      by_cases hc : L = 0 ∨ 0 < T
      · rw [if_pos hc, if_pos hc]
        obtain ⟨n', m2, z1, z2, z3, z4, z5⟩ := p_l15b (g := g) (B := B) (w := w) (q := q) (x := x) (T := T) (k := k) (L := L) (D := D) (free := free) hg (by omega) hf (9 ^ L) n m1 (fun _ => 0) b 0 (by omega) (by omega) (by omega) h1 (by rw [f71]; exact h11) (by rw [f71]; exact h12) (fun t ht => by rw [f75]; exact h75 t ht) ⟨fun i hi => by
          show 0 < T
          rcases hc with hc | hc <;> omega, fun i hi => Nat.le_refl _⟩ (fun i hi => y4 i (by omega)) b1
        have q1 : J + 1 ≤ n' := by omega
        exact ⟨n', m2, q1, z2, z3, z4, z5⟩
      · rw [if_neg hc, if_neg hc]
        obtain ⟨n, rfl⟩ : ∃ n', n = n' + 2 := ⟨n - 2, by omega⟩
        have q1 : J + 1 ≤ n := by omega
        exact ⟨n, m1, q1, by rw [l15_z, show nI L + 1 = nI (L + 1) from nI_1 L], ms.rf _, fun _ _ _ _ _ => rfl, b1⟩
    obtain ⟨n', m2, z1, z2, z3, z4, z5⟩ := go
    have fr2 : ∀ a, a ≠ 32 → a ≠ 72 → a ≠ 73 → a ≠ 74 → m2.1 a = m.1 a := fun a a1 a2 a3 a4 => (z4 a a1 a2 a3 a4).trans (y3 a a4)
    have g71 := fr2 71 (by decide) (by decide) (by decide) (by decide)
    have g75 := fr2 75 (by decide) (by decide) (by decide) (by decide)
    obtain ⟨m', v1, v2, v3, v4⟩ := ih (L + 1) n' m2 (fin1 T (fF B w q T D (nN (w 9)) free) L b) (by omega) (by rw [← hJ]; exact z1) (h1.ms z3) (by rw [g71]; exact h11) (by rw [g71]; exact h12) (fun t ht => by rw [g75]; exact h75 t ht) z5
    refine ⟨m', ?_, (y2.tr z3).tr v2, fun a a1 a2 a3 a4 => (v3 a a1 a2 a3 a4).trans (fr2 a a1 a2 a3 a4), v4⟩
    rw [e1, z2]
    exact v1
/-- bestFill -/
theorem p_15 {D free : Nat} (hg : 10000 ≤ g) (hf : free ≤ 20000) (h : cx m B w q x T W C Sa R k) (h11 : m.1 71 11 = nI (bS B w q T D)) (h12 : m.1 71 12 = nI (bM w T)) (h75 : ∀ t, t < T → m.1 75 t = nI (dO B w q t D)) : ∃ m', d_15 g (nI free) m = some m' ∧ ms m m' ∧ (∀ a, a ≠ 32 → a ≠ 72 → a ≠ 73 → a ≠ 74 → m'.1 a = m.1 a) ∧ bst m' (flo T (fF B w q T D (nN (w 9)) free) 4 0 none) := by
  obtain ⟨m1, y1, y2, y3, y4, y5⟩ := p_1 (g := g) (m := m)
  obtain ⟨m', z1, z2, z3, z4⟩ := p_l15 (g := g) (D := D) (free := free) (by omega) hf 4 0 g m1 none (by omega) (by omega) (h.ms y3) (by rw [y4 71 (by decide)]; exact h11) (by rw [y4 71 (by decide)]; exact h12) (fun t ht => by rw [y4 75 (by decide)]; exact h75 t ht) y2
  refine ⟨m', ?_, y3.tr z2, fun a a1 a2 a3 a4 => (z3 a a1 a2 a3 a4).trans (y4 a a2), z4⟩
  unfold d_15
  rw [y1, Option.bind_some]
  exact z1
end FL2
