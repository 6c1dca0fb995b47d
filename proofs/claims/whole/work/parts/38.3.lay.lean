/-! lay, lift -/
theorem pige : ∀ (C n : Nat) (f : Nat → Nat), (∀ i, i < n → f i < C) → (∀ i j, i < j → j < n → f i ≠ f j) → n ≤ C := by
  intro C
  induction C with
  | zero =>
    intro n f h1 _
    cases n with
    | zero => exact Nat.le_refl _
    | succ n => exact absurd (h1 0 (by omega)) (by omega)
  | succ C ih =>
    intro n f h1 h2
    by_cases h : ∃ i, i < n ∧ f i = C
    · obtain ⟨i, hi, e⟩ := h
      have := ih (n - 1) (fun j => if j < i then f j else f (j + 1)) (by
        intro j hj
        show (if j < i then f j else f (j + 1)) < C
        by_cases hji : j < i
        · rw [if_pos hji]
          have a1 := h1 j (by omega)
          have a2 := h2 j i hji hi
          omega
        · rw [if_neg hji]
          have a1 := h1 (j + 1) (by omega)
          have a2 := h2 i (j + 1) (by omega) (by omega)
          omega) (by
        intro a b hab hb
        show (if a < i then f a else f (a + 1)) ≠ (if b < i then f b else f (b + 1))
        by_cases ha : a < i
        · rw [if_pos ha]
          by_cases hbi : b < i
          · rw [if_pos hbi]; exact h2 a b hab (by omega)
          · rw [if_neg hbi]; exact h2 a (b + 1) (by omega) (by omega)
        · rw [if_neg ha, if_neg (by omega)]
          exact h2 (a + 1) (b + 1) (by omega) (by omega))
      omega
    · have := ih n f (fun i hi => by
        have a1 := h1 i hi
        have a2 : f i ≠ C := fun e => h ⟨i, hi, e⟩
        omega) h2
      omega
/-- a code c (alone with the bits A) goes with a row -/
def gw (row : Nat → Nat) (c A : Nat) : Nat → Nat → Bool
  | 0, _ => true
  | n + 1, i => if row i = c ∨ A / 2 ^ row i % 2 = 1 then false else gw row c A n (i + 1)
theorem gw_iff {row : Nat → Nat} {c A : Nat} : ∀ {n i : Nat}, gw row c A n i = true ↔ ∀ j, i ≤ j → j < i + n → row j ≠ c ∧ A / 2 ^ row j % 2 ≠ 1 := by
  intro n
  induction n with
  | zero => intro i; exact ⟨fun _ j h1 h2 => by omega, fun _ => rfl⟩
  | succ n ih =>
    intro i
    unfold gw
    by_cases h : row i = c ∨ A / 2 ^ row i % 2 = 1
    · rw [if_pos h]
      refine ⟨fun z => (by cases z), fun z => ?_⟩
      obtain ⟨z1, z2⟩ := z i (by omega) (by omega)
      exact absurd h (by rintro (h | h); exact z1 h; exact z2 h)
    · rw [if_neg h, ih]
      refine ⟨fun z j h1 h2 => ?_, fun z j h1 h2 => z j (by omega) (by omega)⟩
      by_cases e : j = i
      · subst e
        exact ⟨fun q => h (Or.inl q), fun q => h (Or.inr q)⟩
      · exact z j (by omega) (by omega)
section LA
variable {g k : Nat} {m : cM} {S : rS} {w : Nat → Int32} {T W C Sa : Nat}
/-- goesWith -/
theorem p_l58 {row : Nat → Nat} {p a2 L c A : Nat} (hO : cO m p 5 = true) (hc : c < 5) (hA : m.1 (p + 12) c = nI A) (hA2 : A < 32) (hL : L ≤ 5) (hcA : ∀ i, i < L → cA m a2 (nI i) = true) (hr : ∀ i, i < L → m.1 a2 i = nI (row i) ∧ row i < 5) : ∀ (j i n : Nat), i + j = L → j + 1 ≤ n → l_58 g n 0 p a2 (nI c) (nI L) (nI i) m = some (if gw row c A j i = true then 1 else 0) := by
  intro j
  induction j with
  | zero =>
    intro i n hi hn
    obtain ⟨n, rfl⟩ : ∃ n', n = n' + 1 := ⟨n - 1, by omega⟩
    have e : i = L := by omega
    subst e
    rw [show (if gw row c A 0 i = true then (1 : Int32) else 0) = 1 from if_pos rfl]
    simp only [l_58, if_true, Int32.le_refl]
  | succ j ih =>
    intro i n hi hn
    obtain ⟨n, rfl⟩ : ∃ n', n = n' + 1 := ⟨n - 1, by omega⟩
    obtain ⟨r1, r2⟩ := hr i (by omega)
    have hci := hcA i (by omega)
    have hb := bit_of hA2 r2
    have e31 : nI (row i) &&& nI 31 = nI (row i) &&& 31 := rfl
    have hm : A / 2 ^ row i % 2 = 0 ∨ A / 2 ^ row i % 2 = 1 := by omega
    rw [l_58]
    simp (disch := omega) only [if_true, k_leF, if_false, hci, k_cl, r1, hO, k_in, hA, lit_nI, nI_add]
    rw [e31, hb, show gw row c A (j + 1) i = if row i = c ∨ A / 2 ^ row i % 2 = 1 then false else gw row c A j (i + 1) from rfl]
    by_cases h1 : row i = c
    · rw [if_pos (by rw [h1]), if_pos (Or.inl h1)]; rfl
    · rw [if_neg (fun e => h1 ((nI_eq (by omega) (by omega)).mp e))]
      rcases hm with h2 | h2
      · rw [h2, if_pos (by decide), if_neg (show ¬ (row i = c ∨ 0 = 1) from fun q => q.elim h1 (by decide))]
        exact ih (i + 1) n (by omega) (by omega)
      · rw [h2, if_neg (by decide), if_pos (Or.inr rfl)]; rfl
theorem p_58 {row : Nat → Nat} {p a2 L c A : Nat} (hg : 100 ≤ g) (hO : cO m p 5 = true) (hc : c < 5) (hA : m.1 (p + 12) c = nI A) (hA2 : A < 32) (hL : L ≤ 5) (hcA : ∀ i, i < L → cA m a2 (nI i) = true) (hr : ∀ i, i < L → m.1 a2 i = nI (row i) ∧ row i < 5) : d_58 g p (nI c) a2 (nI L) m = some (if gw row c A L 0 = true then 1 else 0) := by
  unfold d_58
  exact p_l58 hO hc hA hA2 hL hcA hr L 0 g (by omega) (by omega)
def stS (w : Nat → Int32) : Nat → Nat
  | 0 => 0
  | n + 1 => stS w n ||| 2 ^ lr w n
theorem or5 : ∀ s, s < 32 → ∀ l, l < 5 → (s ||| 2 ^ l) < 32 := by decide +kernel
theorem orI : ∀ s, s < 32 → ∀ l, l < 5 → nI s ||| (nI 1 <<< (nI l &&& nI 31)) = nI (s ||| 2 ^ l) := by decide +kernel
theorem anI : ∀ a, a < 32 → ∀ s, s < 32 → nI a &&& nI s = nI (a &&& s) := by decide +kernel
theorem an0 : ∀ a, a < 32 → ∀ s, s < 32 → ∀ l, l < 5 → ((a &&& (s ||| 2 ^ l)) = 0 ↔ (a &&& s) = 0 ∧ a / 2 ^ l % 2 = 0) := by decide +kernel
theorem anb : ∀ a, a < 32 → ∀ s, s < 32 → (a &&& s) < 32 := by decide +kernel
theorem stS_b {n : Nat} (h : ∀ i, i < n → lr w i < 5) : stS w n < 32 := by
  induction n with
  | zero => show 0 < 32; omega
  | succ n ih => exact or5 _ (ih (fun i hi => h i (by omega))) _ (h n (by omega))
theorem stS_0 {n A : Nat} (hA : A < 32) (h : ∀ i, i < n → lr w i < 5) : (A &&& stS w n) = 0 ↔ ∀ i, i < n → A / 2 ^ lr w i % 2 = 0 := by
  induction n with
  | zero => exact ⟨fun _ i hi => by omega, fun _ => Nat.and_zero A⟩
  | succ n ih =>
    have ih := ih (fun i hi => h i (by omega))
    have e := an0 A hA (stS w n) (stS_b (fun i hi => h i (by omega))) (lr w n) (h n (by omega))
    show (A &&& (stS w n ||| 2 ^ lr w n)) = 0 ↔ _
    rw [e, ih]
    refine ⟨fun z i hi => ?_, fun z => ⟨fun i hi => z i (by omega), z n (by omega)⟩⟩
    by_cases ei : i = n
    · subst ei; exact z.2
    · exact z.1 i (by omega)
theorem q_l220 {L : Nat} (h20 : S.2.1 20 = w) (h9 : w 9 = nI L) (hL : L ≤ 5) (hr : ∀ i, i < L → w (64 + i) = nI (lr w i) ∧ lr w i < 5) : ∀ (j i n : Nat), i + j = L → j + 1 ≤ n → l_220 g n 0 (nI (stS w i)) (nI i) S = some (nI (stS w L), S) := by
  intro j
  induction j with
  | zero =>
    intro i n hi hn
    obtain ⟨n, rfl⟩ : ∃ n', n = n' + 1 := ⟨n - 1, by omega⟩
    have e : i = L := by omega
    subst e
    simp (disch := omega) only [l_220, if_true, lit_nI, k_in, k_cl, h20, h9, Int32.le_refl]
  | succ j ih =>
    intro i n hi hn
    obtain ⟨n, rfl⟩ : ∃ n', n = n' + 1 := ⟨n - 1, by omega⟩
    obtain ⟨r1, r2⟩ := hr i (by omega)
    have e := orI (stS w i) (stS_b (fun i' hi' => (hr i' (by omega)).2)) (lr w i) r2
    rw [l_220]
    simp (disch := omega) only [if_true, lit_nI, k_in, k_cl, h20, h9, k_leF, if_false, nI_add, r1, e]
    exact ih (i + 1) n (by omega) (by omega)
theorem q_220 {L : Nat} (hg : 100 ≤ g) (h20 : S.2.1 20 = w) (h9 : w 9 = nI L) (hL : L ≤ 5) (hr : ∀ i, i < L → w (64 + i) = nI (lr w i) ∧ lr w i < 5) : d_220 g S = some (nI (stS w L), S) := by
  unfold d_220
  exact q_l220 h20 h9 hL hr L 0 g (by omega) (by omega)
theorem pl_no {c : Int32} : ∀ (n i : Nat), (∀ j, i ≤ j → j < i + n → w (64 + j) ≠ c) → pl w c n i = -1
  | 0, _, _ => rfl
  | n + 1, i, h => by
    unfold pl
    rw [if_neg (h i (by omega) (by omega))]
    exact pl_no n (i + 1) (fun j h1 h2 => h j (by omega) (by omega))
theorem pl_yes {c : Int32} : ∀ (n i : Nat), (∃ j, i ≤ j ∧ j < i + n ∧ w (64 + j) = c) → ∃ j, i ≤ j ∧ j < i + n ∧ w (64 + j) = c ∧ pl w c n i = nI j
  | 0, _, h => by obtain ⟨j, h1, h2, -⟩ := h; omega
  | n + 1, i, h => by
    unfold pl
    by_cases e : w (64 + i) = c
    · rw [if_pos e]
      exact ⟨i, by omega, by omega, e, rfl⟩
    · rw [if_neg e]
      obtain ⟨j, h1, h2, h3⟩ := h
      have hj : j ≠ i := fun z => e (z ▸ h3)
      obtain ⟨j', y1, y2, y3, y4⟩ := pl_yes n (i + 1) ⟨j, by omega, by omega, h3⟩
      exact ⟨j', by omega, by omega, y3, y4⟩
theorem stR.lay {a L : Nat} {m1 : cM} (h : stR m.1 a w T) (hT : T ≤ 8) (w' : Nat → Int32) (L' : Nat) (hL' : L' ≤ 5) (h9 : w' 9 = nI L') (ew : ∀ j, j ≠ 9 → ¬ (64 ≤ j ∧ j < 69) → w' j = w j) (e0 : ∀ b, b ≠ a → b ≠ a + 7 → m1.1 b = m.1 b) (e1 : ∀ f, f ≠ 8 → m1.1 a f = m.1 a f) (e8 : m1.1 a 8 = nI L') (e7 : ∀ i, i < L' → m1.1 (a + 7) i = w' (64 + i)) : stR m1.1 a w' T := by
  obtain ⟨h1, h2, h3, h4, h5, h6, ⟨U, u1, u2, u3⟩⟩ := h
  refine ⟨⟨by rw [e8, h9], ?_, ?_, ?_, ?_⟩, fun t' ht' f' hf' => ?_, fun t' ht' => ?_, fun t' ht' ht2 => ?_, fun i hi => ?_, fun i hi => ?_, ⟨U, u1, ?_, fun c hc => ?_⟩⟩
  · rw [e1 9 (by omega), ew 79 (by omega) (by omega)]; exact h1.2.1
  · rw [e1 11 (by omega), ew 8 (by omega) (by omega)]; exact h1.2.2.1
  · rw [e1 12 (by omega), ew 11 (by omega) (by omega)]; exact h1.2.2.2.1
  · rw [e1 13 (by omega), ew 7 (by omega) (by omega)]; exact h1.2.2.2.2
  · have := fo5_b hf'
    rw [e0 _ (by omega) (by omega), ew _ (by omega) (by omega)]; exact h2 t' ht' f' hf'
  · rw [e0 _ (by omega) (by omega), ew _ (by omega) (by omega)]; exact h3 t' ht'
  · rw [e0 _ (by omega) (by omega), e0 _ (by omega) (by omega)]; exact h4 t' ht' ht2
  · rw [h9, n_cl (by omega)] at hi
    exact e7 i hi
  · rw [ew 79 (by omega) (by omega)] at hi
    rw [e0 _ (by omega) (by omega), ew _ (by omega) (by omega)]; exact h6 i hi
  · rw [e1 10 (by omega)]; exact u2
  · rw [ew _ (by omega) (by omega)]; exact u3 c hc
theorem stV.lay (h : stV w T C k) (hT : T ≤ 8) (hC : C ≤ 5) (w' : Nat → Int32) (L' : Nat) (hL' : L' ≤ C) (h9 : w' 9 = nI L') (ew : ∀ j, j ≠ 9 → ¬ (64 ≤ j ∧ j < 69) → w' j = w j) (hr : ∀ i, i < L' → ∃ c, c < C ∧ w' (64 + i) = nI c) (hd : ∀ i j, i < j → j < L' → w' (64 + i) ≠ w' (64 + j)) : stV w' T C k := by
  obtain ⟨h1, -, ⟨L2, b1, b2, b3⟩, h4, h5, h6⟩ := h
  refine ⟨by rw [ew 7 (by omega) (by omega)]; exact h1, ⟨L', hL', h9, hr, hd⟩, ⟨L2, b1, by rw [ew 79 (by omega) (by omega)]; exact b2, fun i hi => ?_⟩, fun t' ht' => ?_, fun t' ht' => ?_, ⟨by rw [ew 6 (by omega) (by omega), ew 11 (by omega) (by omega)]; exact h6.1, by rw [bs17_c (fun t ht => ew _ (by omega) (by omega))]; exact h6.2⟩⟩
  · rw [ew _ (by omega) (by omega)]; exact b3 i hi
  · rw [ew _ (by omega) (by omega), ew _ (by omega) (by omega)]; exact h4 t' ht'
  · rw [ew _ (by omega) (by omega), ew _ (by omega) (by omega), ew _ (by omega) (by omega)]; exact h5 t' ht'
set_option maxHeartbeats 2000000 in
theorem sp_lay (hg : 2000 ≤ g) (h : Inv k m S) (a : Int32) : St k (d_114 g a m) (d_221 g a S) := by
  obtain ⟨-, -, w, q, x, T, W, C, Sa, R, hc, hr, hpa, him⟩ := id h
  have hV := hc.2.1
  have hst := hc.2.2.1
  have hT8 := hV.1.2
  have hC5 := hV.2.2.1.2
  obtain ⟨L, hL1, hL2, hL3, hL4⟩ := lr_of hst hC5
  have hL5 : ∀ i, i < L → w (64 + i) = nI (lr w i) ∧ lr w i < 5 := fun i hi => ⟨(hL4 i hi).1, by have := (hL4 i hi).2; omega⟩
  unfold d_114 d_221
  rw [if_pos hc.cy.1]
  rcases has_co (g := g) (S := S) hc.cy.1 hc.cn (by rw [hr.1]; exact hV.2.2.1.1) hC5 a with ⟨e1, e2, -⟩ | ⟨c, hcC, rfl, e1, e2⟩
  · rw [e1, e2]
    exact St.no h rfl rfl
  · rw [e1, e2]
    obtain ⟨p1, p2⟩ := p_77 (g := g) hc (show c < 5 by omega)
    simp only [Option.bind_some, z10, if_false, p1]
    have e69 : S.2.1 20 (69 + c) = w (69 + c) := by rw [hr.1]
    rcases p2 with p2 | p2
    case inr =>
      simp (disch := omega) only [lit_nI, nI_add, k_in, k_cl, if_true, e69, p2, k_eqF, not_false_eq_true]
      exact St.no h rfl rfl
    case inl =>
      obtain ⟨A, hA1, hA2⟩ := (hV.2.2.2.2.2.2.2.2.2.2.2 c hcC).2.2
      have e8 : m.1 19 8 = nI L := hc.1.2.1.1.1.trans hL2
      have e26 : ∀ i, i < L → m.1 26 i = nI (lr w i) ∧ lr w i < 5 := fun i hi => by
        have := hc.1.2.1.2.2.2.2.1 i (by rw [hL3]; exact hi)
        exact ⟨this.trans (hL5 i hi).1, (hL5 i hi).2⟩
      have p58 := p_58 (g := g) (m := m) (row := lr w) (p := m.2.2.1 5) (a2 := 26) (L := L) (c := c) (A := A) (by omega) hc.cy.1 (by omega) ((hc.1.1.2.2.2.2 c hcC).2.2.2.trans hA2) (by omega) (by omega) (fun i hi => cA_of (by omega) kk_26 (by omega) (by omega)) e26
      have q202 := q_202 (g := g) (S := S) (c := nI c) (by omega) hr.1 hL2 (show L ≤ 5 by omega)
      have q220 := q_220 (g := g) (S := S) (by omega) hr.1 hL2 (by omega) hL5
      have k3 : d_194 g (nI c) (nI 3) S = some (nI A, S) := by rw [q_194 (by omega) (by omega), hr.1, show 120 + 4 * c + 3 = 123 + 4 * c by omega, hA2]
      have hsb := stS_b (w := w) (n := L) (fun i hi => (hL5 i hi).2)
      have ean := anI A (by omega) (stS w L) hsb
      have hab := anb A (by omega) (stS w L) hsb
      simp (disch := omega) only [lit_nI, nI_add, k_in, k_cl, if_true, e69, p2, k_eqT, k_eqF, not_true, if_false, e8, p58, q202, Option.bind_some]
      by_cases hpl : ∃ j, 0 ≤ j ∧ j < 0 + L ∧ w (64 + j) = nI c
      · obtain ⟨j, j1, j2, j3, j4⟩ := pl_yes L 0 hpl
        rw [j4]
        have hgw : ¬ gw (lr w) c A L 0 = true := fun z => by
          obtain ⟨z1, -⟩ := gw_iff.mp z j (by omega) (by omega)
          have := (hL5 j (by omega)).1.symm.trans j3
          exact z1 ((nI_eq (by have := (hL5 j (by omega)).2; omega) (by omega)).mp this)
        simp (disch := omega) only [k_leT, if_true, hgw, if_false, k_eqT, not_true]
        exact St.no h rfl rfl
      · have hnp : ∀ j, 0 ≤ j → j < 0 + L → w (64 + j) ≠ nI c := fun j h1 h2 e => hpl ⟨j, h1, h2, e⟩
        rw [pl_no L 0 hnp]
        have hm1 : (nI 0 ≤ (-1 : Int32)) = False := eq_false (by decide)
        have hm1' : (nI 0 ≤ -nI 1) = False := eq_false (by decide)
        simp (disch := omega) only [hm1, hm1', lit_nI, if_false, k3, q220, Option.bind_some, ean]
        by_cases hz : (A &&& stS w L) = 0
        · have hgw : gw (lr w) c A L 0 = true := gw_iff.mpr (fun j h1 h2 => by
            have z := (stS_0 (w := w) (A := A) (by omega) (fun i hi => (hL5 i hi).2)).mp hz j (by omega)
            refine ⟨fun e => hnp j h1 h2 ?_, by omega⟩
            rw [(hL5 j (by omega)).1, e])
          rw [hz]
          obtain ⟨m1, S1, y1, y2, y3, y4, y5, y6⟩ := keep (g := g) (a1 := 0) hg hc.1.2.1 hst hT8 hC5 hr.1 hpa
          have f20 : S1.2.1 20 = w := (y5.2 20 (by decide)).trans hr.1
          have e8' : m1.1 19 8 = nI L := by rw [y3 19 (by omega)]; exact e8
          have hLC : L + 1 ≤ C := pige C (L + 1) (fun i => if i < L then lr w i else c) (by
            intro i hi
            show (if i < L then lr w i else c) < C
            by_cases hiL : i < L
            · rw [if_pos hiL]; exact (hL4 i hiL).2
            · rw [if_neg hiL]; exact hcC) (by
            intro i j hij hj
            show (if i < L then lr w i else c) ≠ (if j < L then lr w j else c)
            rw [if_pos (by omega)]
            obtain ⟨L0, l1, l2, -, l4⟩ := hst.2.1
            have eL : L0 = L := (nI_eq (by omega) (by omega)).mp (l2.symm.trans hL2)
            subst eL
            by_cases hjL : j < L0
            · rw [if_pos hjL]
              intro e
              exact l4 i j hij hjL (by rw [(hL4 i (by omega)).1, (hL4 j hjL).1, e])
            · rw [if_neg hjL]
              intro e
              exact hnp i (by omega) (by omega) (by rw [(hL4 i (by omega)).1, e]))
          have hs1 : stR m1.1 19 w T := hc.1.2.1.congr (fun i hi => y3 _ (by omega))
          have u9 : ∀ v : Int32, upd w (64 + L) v 9 = w 9 := fun v => upd_n (by omega)
          have g8 : ∀ v : Int32, (cW m1 26 L v).1 19 8 = nI L := fun v => by rw [cW_b (by decide)]; exact e8'
          simp (disch := omega) only [k_eqT, k_eqF, if_true, hgw, not_false_eq_true, y1, y2, Option.bind_some, e8', k_in, k_cl, f20, hL2, nI_add, u9, upd_s, g8, cW_s]
          refine ⟨_, _, _, rfl, rfl, ?_⟩
          have ew : ∀ j, j ≠ 9 → ¬ (64 ≤ j ∧ j < 69) → upd (upd w (64 + L) (nI c)) 9 (nI (L + 1)) j = w j := fun j h1 h2 => by rw [upd_n h1, upd_n (by omega)]
          have er : ∀ i, i < L + 1 → upd (upd w (64 + L) (nI c)) 9 (nI (L + 1)) (64 + i) = if i = L then nI c else w (64 + i) := fun i hi => by
            rw [upd_n (by omega)]
            by_cases e : i = L
            · rw [if_pos e, e, upd_s]
            · rw [if_neg e, upd_n (by omega)]
          refine h.act hc hr him (((ak.kp y3 y4).tr (ak.wr (by omega))).tr (ak.wr (by omega))) (((y5.mo (by decide) (by decide)).tr (rc.A (by decide))).tr (rc.A (by decide))) rA_s (hs1.lay (L := 0) hT8 _ (L + 1) (by omega) upd_s ew (fun b h1 h2 => by rw [cW_b h1, cW_b h2]) (fun f hf => by rw [cW_k hf, cW_b (by decide)]) cW_s (fun i hi => ?_)) ((hst.mo (by omega)).lay hT8 hC5 _ (L + 1) hLC upd_s ew (fun i hi => ?_) (fun i j hij hj => ?_)) (fun j hj => ew j (by omega) (by omega)) (y6.congr (by omega) (fun b h1 h2 => by rw [cW_b (by omega), cW_b (by omega)]) rfl ?_ (fun j hj => ew j (by omega) (by omega)))
          · rw [er i hi, cW_b (by decide)]
            show (cW m1 26 L (nI c)).1 26 i = _
            by_cases e : i = L
            · rw [if_pos e, e, cW_s]
            · rw [if_neg e, cW_k e]
              exact hs1.2.2.2.2.1 i (by rw [hL3]; omega)
          · rw [er i hi]
            by_cases e : i = L
            · rw [if_pos e]; exact ⟨c, hcC, rfl⟩
            · rw [if_neg e]; exact ⟨lr w i, (hL4 i (by omega)).2, (hL4 i (by omega)).1⟩
          · rw [er i (by omega), er j hj, if_neg (by omega)]
            by_cases e : j = L
            · rw [if_pos e]; exact hnp i (by omega) (by omega)
            · rw [if_neg e]
              obtain ⟨L0, l1, l2, -, l4⟩ := hst.2.1
              have eL : L0 = L := (nI_eq (by omega) (by omega)).mp (l2.symm.trans hL2)
              subst eL
              exact l4 i j hij (by omega)
          · show (rA (rA S1 20 _) 20 _).2.1 26 = _
            rw [rA_n (by decide), rA_n (by decide)]
        · have hgw : ¬ gw (lr w) c A L 0 = true := fun z => hz ((stS_0 (w := w) (A := A) (by omega) (fun i hi => (hL5 i hi).2)).mpr (fun i hi => by
            have := (gw_iff.mp z i (by omega) (by omega)).2
            omega))
          simp (disch := omega) only [k_eqF, k_eqT, if_false, hgw, not_true]
          exact St.no h rfl rfl
end LA
