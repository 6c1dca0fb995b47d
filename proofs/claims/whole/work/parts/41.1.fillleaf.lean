/-! fill: one row, of the class -/
def skN (w : Nat → Int32) (t : Nat) : Nat := nN (w (16 + 5 * t))
def woN (w : Nat → Int32) (t : Nat) : Nat := nN (w (81 + 2 * t))
/-- place i of the row can be put when those before it were -/
def cfi (w : Nat → Int32) (r : Nat → Nat) (i : Nat) : Bool := decide (bk w (r i) + (cnE r (r i) i + 1) ≤ skN w (r i))
def cfA (w : Nat → Int32) (r : Nat → Nat) : Nat → Nat → Bool
  | 0, _ => true
  | j + 1, i => cfi w r i && cfA w r j (i + 1)
def cfB (w : Nat → Int32) (r : Nat → Nat) (T L : Nat) : Bool := cfA w r L 0 && decide (bM w T + L ≤ 12)
/-- what it costs with the row -/
def cfC (B : rB) (w : Nat → Int32) (q T D Lc free : Nat) (r : Nat → Nat) (L : Nat) : Nat := if bM w T + L = 0 then 0 else coN w (lr w) Lc (bS B w q T D + sN (fun i => dO B w q (r i) D) L) free
theorem cnE_0 {r : Nat → Nat} {v : Nat} : ∀ {n : Nat}, (∀ j, j < n → r j ≠ v) → cnE r v n = 0
  | 0, _ => rfl
  | n + 1, h => by
    show cnE r v n + (if r n = v then 1 else 0) = 0
    rw [cnE_0 (n := n) (fun j hj => h j (by omega)), if_neg (h n (by omega))]
theorem srt.le {r : Nat → Nat} {T L : Nat} (h : srt r T L) {i : Nat} : ∀ {d : Nat}, i + d < L → r i ≤ r (i + d)
  | 0, _ => Nat.le_refl _
  | d + 1, hd => Nat.le_trans (h.le (d := d) (by omega)) (h.2 (i + d) (by omega))
section FL1
variable {g k : Nat} {m : cM} {S : rS} {B : rB} {w : Nat → Int32} {q T W C Sa R : Nat} {x : Int32}
theorem p_l18 {r : Nat → Nat} {L z : Nat} (hL : L ≤ 3) (hT8 : T ≤ 8) (hs : srt r T L) (hz : m.1 71 12 = nI z) (hzb : z ≤ 100) (h74 : ∀ i, i < L → m.1 74 i = nI (r i)) (h20 : ∀ t, t < T → m.1 20 t = nI (bk w t) ∧ bk w t ≤ 9) (h21 : ∀ t, t < T → m.1 21 t = nI (skN w t) ∧ skN w t ≤ 9) : ∀ (j i n run : Nat), i + j = L → 3 * j + 1 ≤ n → (i = 0 ∨ run = cnE r (r (i - 1)) i) → run ≤ 8 → l_18 g n 0 (nI L) (nI run) (nI i) 0 0 m = some (if (cfA w r j i && decide (z + L ≤ 12)) = true then 1 else 0) := by
  intro j
  induction j with
  | zero =>
    intro i n run hi hn hr hr8
    obtain ⟨n, rfl⟩ : ∃ n', n = n' + 1 := ⟨n - 1, by omega⟩
    have e : i = L := by omega
    subst e
    rw [l_18, if_pos rfl, if_pos (Int32.le_refl _), hz, nI_add]
    show _ = some (if (true && decide (z + i ≤ 12)) = true then 1 else 0)
    rw [Bool.true_and]
    by_cases h : z + i ≤ 12
    · rw [if_neg (show ¬ (12 : Int32) < nI (z + i) from nI_nlt (a := 12) h (by omega)), if_pos (decide_eq_true h)]
    · rw [if_pos (show (12 : Int32) < nI (z + i) from nI_lt (a := 12) (by omega) (by omega)), if_neg (fun e => h (of_decide_eq_true e))]
  | succ j ih =>
    intro i n run hi hn hr hr8
    obtain ⟨n, rfl⟩ : ∃ n', n = n' + 3 := ⟨n - 3, by omega⟩
    have hrT := hs.1 i (by omega)
    have e74 := h74 i (by omega)
    obtain ⟨e20, b20⟩ := h20 (r i) hrT
    obtain ⟨e21, b21⟩ := h21 (r i) hrT
    have cb := cnE_b (f := r) (v := r i) (n := i)
    have hc1 : cnE r (r i) (i + 1) = cnE r (r i) i + 1 := by
      show cnE r (r i) i + (if r i = r i then 1 else 0) = _
      rw [if_pos rfl]
    -- from tag 2 on
    have t2 : ∀ n, 3 * j + 1 ≤ n → l_18 g (n + 1) 2 (nI L) (nI run) (nI i) (nI (r i)) (nI (cnE r (r i) i + 1)) m = some (if (cfA w r (j + 1) i && decide (z + L ≤ 12)) = true then 1 else 0) := by
      intro n hn
      rw [l_18]
      simp (disch := omega) only [Nat.reduceEqDiff, if_true, if_false, k_in, k_cl, e20, e21, nI_add, lit_nI]
      show _ = some (if ((cfi w r i && cfA w r j (i + 1)) && decide (z + L ≤ 12)) = true then 1 else 0)
      by_cases h : bk w (r i) + (cnE r (r i) i + 1) ≤ skN w (r i)
      · rw [if_pos (nI_le h (by omega)), show cfi w r i = true from decide_eq_true h, Bool.true_and]
        exact ih (i + 1) n (cnE r (r i) i + 1) (by omega) hn (Or.inr (by rw [Nat.add_sub_cancel, hc1])) (by omega)
      · rw [if_neg (nI_ge (by omega) (by omega)), show cfi w r i = false from decide_eq_false h, Bool.false_and, Bool.false_and, if_neg (by decide)]
        rfl
    have t1 : ∀ s0, l_18 g (n + 2) 1 (nI L) (nI run) (nI i) (nI (r i)) s0 m = l_18 g (n + 1) 2 (nI L) (nI run) (nI i) (nI (r i)) (nI 1) m := fun s0 => by
      rw [l_18, if_neg (by decide), if_pos rfl]
      rfl
    rw [l_18]
    simp (disch := omega) only [if_true, k_leF, if_false, k_in, k_cl, e74]
    by_cases h0 : i = 0
    · subst h0
      rw [if_pos (show nI 0 ≤ (0 : Int32) from Int32.le_refl _), t1]
      exact t2 n (by omega)
    · have hp := h74 (i - 1) (by omega)
      have hpT := hs.1 (i - 1) (by omega)
      have hrun : run = cnE r (r (i - 1)) i := hr.resolve_left h0
      rw [if_neg (show ¬ nI i ≤ (0 : Int32) from nI_ge (a := 0) (by omega) (by omega))]
      simp (disch := omega) only [lit_nI, k_sub, k_in, if_true, k_cl, hp, k_eq, nI_add]
      by_cases hne : r (i - 1) = r i
      · rw [if_neg (fun z => z hne), hrun, hne]
        have := t2 (n + 1) (by omega)
        rw [hrun, hne] at this
        exact this
      · rw [if_pos hne]
        have h00 : cnE r (r i) i = 0 := cnE_0 (fun d hd e => by
          have h1 := hs.le (i := d) (d := i - 1 - d) (by omega)
          rw [show d + (i - 1 - d) = i - 1 by omega] at h1
          have h2 := hs.2 (i - 1) (by omega)
          rw [show i - 1 + 1 = i by omega] at h2
          omega)
        have := t2 n (by omega)
        rw [h00] at this
        have t1 := t1 (nI 0)
        rw [t1]
        rw [h00] at *
        exact this
/-- canFill -/
theorem p_18 {r : Nat → Nat} {L : Nat} (hg : 100 ≤ g) (h : cx m B w q x T W C Sa R k) (hL : L ≤ 3) (hs : srt r T L) (hz : m.1 71 12 = nI (bM w T)) (h74 : ∀ i, i < L → m.1 74 i = nI (r i)) : d_18 g (nI L) m = some (if cfB w r T L = true then 1 else 0) := by
  have hst := h.2.2.1
  have hT8 := h.2.1.1.2
  have hM := bM_b hst hT8
  unfold d_18
  exact p_l18 (g := g) (m := m) (w := w) (T := T) (r := r) (L := L) (z := bM w T) hL hT8 hs hz (by omega) h74 (fun t ht => by
    have hb := bk_of hst ht
    exact ⟨(h.1.2.1.ba ht).trans hb.1, hb.2⟩) (fun t ht => by
    obtain ⟨s, b, s1, s2, s3, s4⟩ := hst.2.2.2.1 t ht
    have e : skN w t = s := by
      show nN (w (16 + 5 * t)) = s
      rw [s3]; exact n_cl (by omega)
    rw [e]
    exact ⟨(h.1.2.1.st ht).trans s3, s1⟩) L 0 g 0 (by omega) (by omega) (Or.inl rfl) (by omega)
theorem p_l20 {r : Nat → Nat} {L D : Nat} (hL : L ≤ 8) (hT8 : T ≤ 8) (hr : ∀ i, i < L → m.1 74 i = nI (r i) ∧ r i < T) (h75 : ∀ t, t < T → m.1 75 t = nI (dO B w q t D)) : ∀ (j i n : Nat), i + j = L → j + 1 ≤ n → l_20 g n 0 (nI L) (nI (sN (fun i => dO B w q (r i) D) i)) (nI i) m = some (nI (sN (fun i => dO B w q (r i) D) L)) := by
  intro j
  induction j with
  | zero =>
    intro i n hi hn
    obtain ⟨n, rfl⟩ : ∃ n', n = n' + 1 := ⟨n - 1, by omega⟩
    have e : i = L := by omega
    subst e
    rw [l_20, if_pos rfl, if_pos (Int32.le_refl _)]
  | succ j ih =>
    intro i n hi hn
    obtain ⟨n, rfl⟩ : ∃ n', n = n' + 1 := ⟨n - 1, by omega⟩
    obtain ⟨r1, r2⟩ := hr i (by omega)
    have e75 := h75 (r i) r2
    rw [l_20]
    simp (disch := omega) only [if_true, k_leF, if_false, k_in, k_cl, r1, e75, nI_add, lit_nI]
    exact ih (i + 1) n (by omega) (by omega)
theorem p_l21 {r : Nat → Nat} {L a1 : Nat} (h : cx m B w q x T W C Sa R k) (hL : L ≤ 100) (hA : ∀ i, i < L → cA m a1 (nI i) = true) (hr : ∀ i, i < L → m.1 a1 i = nI (r i) ∧ r i < T) : ∀ (j i n : Nat), i + j = L → j + 1 ≤ n → l_21 g n 0 a1 (nI L) (nI (sN (fun i => woN w (r i)) i)) (nI i) m = some (nI (sN (fun i => woN w (r i)) L)) := by
  have hT8 := h.2.1.1.2
  intro j
  induction j with
  | zero =>
    intro i n hi hn
    obtain ⟨n, rfl⟩ : ∃ n', n = n' + 1 := ⟨n - 1, by omega⟩
    have e : i = L := by omega
    subst e
    rw [l_21, if_pos rfl, if_pos (Int32.le_refl _)]
  | succ j ih =>
    intro i n hi hn
    obtain ⟨n, rfl⟩ : ∃ n', n = n' + 1 := ⟨n - 1, by omega⟩
    obtain ⟨r1, r2⟩ := hr i (by omega)
    have ew : m.1 (m.2.2.1 5 + 2) (r i) = nI (woN w (r i)) := by
      rw [(h.1.1.2.1 (r i) r2).2]
      exact (nI_nN (h.2.1.2.2.2.2.2.2.2.2.1 (r i) r2).2 (by omega)).1.symm
    have hAi := hA i (by omega)
    rw [l_21]
    simp (disch := omega) only [if_true, k_leF, if_false, h.cy.1, hAi, k_in, k_cl, r1, ew, nI_add, lit_nI]
    exact ih (i + 1) n (by omega) (by omega)
theorem woN_b (hV : shV w T W C Sa) {t : Nat} (ht : t < T) : woN w t ≤ 5000 := (nI_nN (hV.2.2.2.2.2.2.2.2.1 t ht).2 (by omega)).2
/-- the cost with the row -/
theorem p_19 {r : Nat → Nat} {L D free : Nat} (hg : 2000 ≤ g) (h : cx m B w q x T W C Sa R k) (hL : L ≤ 8) (hr : ∀ i, i < L → m.1 74 i = nI (r i) ∧ r i < T) (h75 : ∀ t, t < T → m.1 75 t = nI (dO B w q t D)) (h11 : m.1 71 11 = nI (bS B w q T D)) (h12 : m.1 71 12 = nI (bM w T)) (hf : free ≤ 20000) : ∃ m', d_19 g (nI free) (nI L) m = some (nI (cfC B w q T D (nN (w 9)) free r L), m') ∧ ms m m' ∧ (∀ b, b ≠ 32 → m'.1 b = m.1 b) := by
  have hV := h.2.1
  have hst := h.2.2.1
  have hT8 := hV.1.2
  have hC5 := hV.2.2.1.2
  have hM := bM_b hst hT8
  have hSb := bS_b (B := B) (q := q) (D := D) hV hst
  have hsum := sN_b (f := fun i => dO B w q (r i) D) (c := 9999) (n := L) (fun j hj => (dO_b hV (hr j hj).2).2)
  have hsum2 : L * 9999 ≤ 8 * 9999 := Nat.mul_le_mul_right _ hL
  obtain ⟨Lc, l1, l2, l3, l4⟩ := lr_of hst hC5
  have h26 := h.1.2.1.2.2.2.2.1
  have e8 : m.1 19 8 = nI Lc := h.1.2.1.1.1.trans l2
  have e26 : ∀ i, i < Lc → m.1 26 i = nI (lr w i) ∧ lr w i < C := fun i hi => by
    have := h26 i (by rw [l3]; exact hi)
    exact ⟨this.trans (l4 i hi).1, (l4 i hi).2⟩
  have p20 := p_l20 (g := g) (m := m) (B := B) (w := w) (q := q) (T := T) (r := r) (L := L) (D := D) hL hT8 hr h75 L 0 g (by omega) (by omega)
  have p20 : d_20 g (nI L) m = some (nI (sN (fun i => dO B w q (r i) D) L)) := p20
  obtain ⟨m2, y1, y2, y3, y4⟩ := p_94 (g := g) (m := m) (w := w) (row := lr w) (L := Lc) (free := free) (s := bS B w q T D + sN (fun i => dO B w q (r i) D) L) (z := bM w T + L) (a3 := 26) (by omega) hV h.cy.1 h.cy.2.1 h.cy.2.2.1 (by omega) (by decide) (fun i hi => cA_of (by omega) kk_26 (by omega) (by omega)) e26 (by omega) (by omega) (by omega)
  refine ⟨m2, ?_, y2, y3⟩
  unfold d_19
  rw [p20, Option.bind_some, h11, h12, e8, nI_add, nI_add, y1]
  unfold cfC
  rw [l3]
  rfl
end FL1
