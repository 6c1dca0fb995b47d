/-! fill: the reference puts the row into what was said, and takes it out -/
theorem ctN_w {w w' : Nat → Int32} {row : Nat → Nat} (e : ∀ j, 80 ≤ j → w' j = w j) : ∀ (n k s : Nat) (b : Bool), ctN w' row n k s b = ctN w row n k s b
  | 0, _, _, _ => rfl
  | n + 1, k, s, b => by
    show ctN w' row n (k + 1) (ctS w' (row k) s b).1 (ctS w' (row k) s b).2 = ctN w row n (k + 1) (ctS w (row k) s b).1 (ctS w (row k) s b).2
    have : ctS w' (row k) s b = ctS w (row k) s b := by
      unfold ctS
      rw [e _ (by omega), e _ (by omega), e _ (by omega)]
    rw [this]
    exact ctN_w e n (k + 1) _ _
theorem coN_w {w w' : Nat → Int32} {row : Nat → Nat} {L s free : Nat} (e4 : w' 4 = w 4) (e : ∀ j, 80 ≤ j → w' j = w j) : coN w' row L s free = coN w row L s free := by
  unfold coN
  rw [ctN_w e]
  unfold caN
  rw [e4]
def wad (w : Nat → Int32) (r : Nat → Nat) : Nat → Nat → Int32
  | 0 => w
  | i + 1 => upd (wad w r i) (17 + 5 * r i) (nI (bk w (r i) + (cnE r (r i) i + 1)))
theorem wad_o {w : Nat → Int32} {r : Nat → Nat} {T c : Nat} (hc : ∀ t, t < T → c ≠ 17 + 5 * t) : ∀ {i : Nat}, (∀ j, j < i → r j < T) → wad w r i c = w c
  | 0, _ => rfl
  | i + 1, h => by
    show upd (wad w r i) (17 + 5 * r i) _ c = w c
    rw [upd_n (hc _ (h i (by omega)))]
    exact wad_o hc (fun j hj => h j (by omega))
theorem wad_k {w : Nat → Int32} {r : Nat → Nat} {t : Nat} (hw : w (17 + 5 * t) = nI (bk w t)) : ∀ {i : Nat}, wad w r i (17 + 5 * t) = nI (bk w t + cnE r t i)
  | 0 => hw
  | i + 1 => by
    show upd (wad w r i) (17 + 5 * r i) _ (17 + 5 * t) = nI (bk w t + (cnE r t i + if r i = t then 1 else 0))
    by_cases e : r i = t
    · subst e
      rw [upd_s, if_pos rfl]
    · rw [upd_n (by omega), if_neg e, Nat.add_zero]
      exact wad_k hw
theorem wad_bk {w : Nat → Int32} {r : Nat → Nat} {t i : Nat} (hw : w (17 + 5 * t) = nI (bk w t)) (hb : bk w t ≤ 9) (hi : i ≤ 100) : bk (wad w r i) t = bk w t + cnE r t i := by
  show nN (wad w r i (17 + 5 * t)) = _
  have := cnE_b (f := r) (v := t) (n := i)
  rw [wad_k hw, n_cl (by omega)]
theorem sN_add {f h : Nat → Nat} : ∀ {n : Nat}, sN (fun t => f t + h t) n = sN f n + sN h n
  | 0 => rfl
  | n + 1 => by
    show sN (fun t => f t + h t) n + (f n + h n) = sN f n + f n + (sN h n + h n)
    rw [sN_add (n := n)]
    omega
theorem sN_at {d : Nat → Nat} {v : Nat} : ∀ {n : Nat}, sN (fun t => (if v = t then 1 else 0) * d t) n = if v < n then d v else 0
  | 0 => by rw [if_neg (by omega)]; rfl
  | n + 1 => by
    show sN (fun t => (if v = t then 1 else 0) * d t) n + (if v = n then 1 else 0) * d n = _
    rw [sN_at (n := n)]
    by_cases e : v = n
    · subst e
      rw [if_neg (by omega), if_pos rfl, if_pos (by omega), Nat.one_mul, Nat.zero_add]
    · rw [if_neg e, Nat.zero_mul, Nat.add_zero]
      by_cases h : v < n
      · rw [if_pos h, if_pos (by omega)]
      · rw [if_neg h, if_neg (by omega)]
theorem sN_cn {d : Nat → Nat} {r : Nat → Nat} {T : Nat} : ∀ {i : Nat}, (∀ j, j < i → r j < T) → sN (fun t => cnE r t i * d t) T = sN (fun j => d (r j)) i
  | 0, _ => by
    show sN (fun t => 0 * d t) T = 0
    have : ∀ n, sN (fun t => 0 * d t) n = 0 := by
      intro n
      induction n with
      | zero => rfl
      | succ n ih =>
        show sN (fun t => 0 * d t) n + 0 * d n = 0
        rw [ih, Nat.zero_mul]
    exact this T
  | i + 1, h => by
    show _ = sN (fun j => d (r j)) i + d (r i)
    rw [← sN_cn (i := i) (fun j hj => h j (by omega))]
    have e1 : sN (fun t => cnE r t (i + 1) * d t) T = sN (fun t => cnE r t i * d t + (if r i = t then 1 else 0) * d t) T := sN_c (fun t _ => by
      show (cnE r t i + if r i = t then 1 else 0) * d t = _
      rw [Nat.add_mul])
    rw [e1, sN_add, sN_at, if_pos (h i (by omega))]
theorem sN_1 : ∀ {n : Nat}, sN (fun _ => 1) n = n
  | 0 => rfl
  | n + 1 => by
    show sN (fun _ => 1) n + 1 = n + 1
    rw [sN_1]
section FW
variable {g k : Nat} {m : cM} {S : rS} {B : rB} {w : Nat → Int32} {q T W C Sa R : Nat} {x : Int32}
theorem wad_M {r : Nat → Nat} {i : Nat} (hst : stV w T C k) (hi : i ≤ 100) (hr : ∀ j, j < i → r j < T) : bM (wad w r i) T = bM w T + i := by
  have e : sN (bk (wad w r i)) T = sN (fun t => bk w t + cnE r t i * 1) T := sN_c (fun t ht => by
    have hb := bk_of hst ht
    rw [wad_bk hb.1 hb.2 hi, Nat.mul_one])
  show sN (bk (wad w r i)) T = _
  rw [e, sN_add, sN_cn (d := fun _ => 1) hr, sN_1]
  rfl
theorem wad_dO {r : Nat → Nat} {i t D : Nat} (hV : shV w T W C Sa) (ht : t < T) (hr : ∀ j, j < i → r j < T) : dO B (wad w r i) q t D = dO B w q t D := by
  have hT8 := hV.1.2
  have o : ∀ c, (∀ t, t < T → c ≠ 17 + 5 * t) → wad w r i c = w c := fun c hc => wad_o hc hr
  unfold dO
  rw [o (19 + 5 * t) (fun t' ht' => by omega)]
  refine dn_cw (by omega) ?_ (o 10 (fun t' ht' => by omega)) (fun j h1 h2 => o j (fun t' ht' => by omega)) (o _ (fun t' ht' => by omega)) (o _ (fun t' ht' => by omega))
  rw [hV.2.2.2.1.1, n_cl (by have := hV.2.2.2.1.2; omega)]
  exact hV.2.2.2.1.2
theorem wad_S {r : Nat → Nat} {i D : Nat} (hV : shV w T W C Sa) (hst : stV w T C k) (hi : i ≤ 100) (hr : ∀ j, j < i → r j < T) : bS B (wad w r i) q T D = bS B w q T D + sN (fun j => dO B w q (r j) D) i := by
  have e : sN (fun t => bk (wad w r i) t * dO B (wad w r i) q t D) T = sN (fun t => bk w t * dO B w q t D + cnE r t i * dO B w q t D) T := sN_c (fun t ht => by
    have hb := bk_of hst ht
    show bk (wad w r i) t * dO B (wad w r i) q t D = _
    rw [wad_bk hb.1 hb.2 hi, wad_dO hV ht hr, Nat.add_mul])
  show sN (fun t => bk (wad w r i) t * dO B (wad w r i) q t D) T = _
  rw [e, sN_add, sN_cn (d := fun t => dO B w q t D) hr]
  rfl
theorem wad_V {r : Nat → Nat} {i : Nat} (hV : shV w T W C Sa) (hr : ∀ j, j < i → r j < T) : shV (wad w r i) T W C Sa := by
  have hT8 := hV.1.2
  exact hV.cw (fun j hj => wad_o (T := T) (fun t ht => by omega) hr)
theorem wad_st {r : Nat → Nat} {i : Nat} (hT8 : T ≤ 8) (hst : stV w T C k) (hw : stV (wad w r i) T C k) (hi : i ≤ 50) (hr : ∀ j, j < i + 1 → r j < T) (hc : cfi w r i = true) (hM : bM w T + i < 12) : stV (wad w r (i + 1)) T C k := by
  have hri := hr i (by omega)
  refine hw.ba hT8 hri (fun s h1 h2 => ?_) ?_
  · rw [wad_o (T := T) (fun t ht => by omega) (fun j hj => hr j (by omega))] at h1
    have hc : bk w (r i) + (cnE r (r i) i + 1) ≤ skN w (r i) := of_decide_eq_true hc
    have e : skN w (r i) = s := by
      show nN (w (16 + 5 * r i)) = s
      rw [h1]; exact n_cl (by omega)
    omega
  · have := wad_M (r := r) (i := i + 1) hst (by omega) hr
    have e : bs17 (wad w r (i + 1)) T = bM (wad w r (i + 1)) T := rfl
    show bs17 (wad w r (i + 1)) T ≤ 12
    rw [e, this]
    omega
theorem q_216 {t s b : Nat} (hg : 100 ≤ g) (hV : shV w T W C Sa) (hst : stV w T C k) (h20 : S.2.1 20 = w) (ht : t < T) (h3 : w (16 + 5 * t) = nI s) (h4 : w (17 + 5 * t) = nI b) (hs : s ≤ 9) (hb9 : b ≤ 9) : d_216 g (nI t) S = some (if b < s ∧ bM w T < 12 then 1 else 0, S) := by
  have hT8 := hV.1.2
  have hb : ∀ t, t < T → w (17 + 5 * t) = nI (bk w t) := fun t ht => (bk_of hst ht).1
  have hM := bM_b hst hT8
  have k1 : d_191 g (nI t) (nI 1) S = some (nI b, S) := by rw [q_191 (by omega) (by omega), h20, show 16 + 5 * t + 1 = 17 + 5 * t by omega, h4]
  have k0 : d_191 g (nI t) (nI 0) S = some (nI s, S) := by rw [q_191 (by omega) (by omega), h20, Nat.add_zero, h3]
  have q209 := q_209 (g := g) (S := S) (w := w) (T := T) hg h20 hV.1.1 hT8 hb
  unfold d_216
  by_cases h5 : b < s
  · by_cases h6 : bM w T < 12
    · rw [if_pos ⟨h5, h6⟩]
      simp (disch := omega) only [k_leF, if_false, lit_nI, k0, k1, Option.bind_some, q209]
    · rw [if_neg (fun z => h6 z.2)]
      simp (disch := omega) only [k_leF, k_leT, if_false, if_true, lit_nI, k0, k1, Option.bind_some, q209]
  · rw [if_neg (fun z => h5 z.1)]
    simp (disch := omega) only [k_leT, if_true, lit_nI, k0, k1, Option.bind_some]
/-- putting in -/
theorem q_l236a {r : Nat → Nat} {L : Nat} {x2 : Int32} (hg : 2000 ≤ g) (hL : L ≤ 3) (hV : shV w T W C Sa) (hst : stV w T C k) (hr : ∀ i, i < L → r i < T) : ∀ (j i n : Nat) (S : rS), i + j = L → j + 2 ≤ n → S.2.1 20 = wad w r i → stV (wad w r i) T C k → (∀ d, d < L → S.2.1 31 d = nI (r d)) → ∃ n' p S', l_236 g n 0 (nI L) x2 (nI i) 0 0 0 S = l_236 g n' 1 (nI L) x2 (nI p) 0 0 0 S' ∧ n ≤ n' + (j + 1) ∧ p ≤ L ∧ S'.2.1 20 = wad w r p ∧ stV (wad w r p) T C k ∧ rc [] [20] S S' ∧ ((p = L ∧ (cfA w r j i && decide (bM w T + L ≤ 12)) = true) ∨ (p < L ∧ (cfA w r j i && decide (bM w T + L ≤ 12)) = false)) := by
  have hT8 := hV.1.2
  intro j
  induction j with
  | zero =>
    intro i n S hi hn h20 hs h31
    obtain ⟨n, rfl⟩ : ∃ n', n = n' + 1 := ⟨n - 1, by omega⟩
    have e : i = L := by omega
    subst e
    refine ⟨n, i, S, ?_, by omega, Nat.le_refl _, h20, hs, rc.rf _, Or.inl ⟨rfl, ?_⟩⟩
    · rw [l_236, if_pos rfl, if_pos (Int32.le_refl _)]
    · show (true && decide (bM w T + i ≤ 12)) = true
      have h12 : bs17 (wad w r i) T ≤ 12 := hs.2.2.2.2.2.2
      have e : bs17 (wad w r i) T = bM (wad w r i) T := rfl
      rw [e, wad_M hst (by omega) hr] at h12
      rw [Bool.true_and, decide_eq_true h12]
  | succ j ih =>
    intro i n S hi hn h20 hs h31
    obtain ⟨n, rfl⟩ : ∃ n', n = n' + 1 := ⟨n - 1, by omega⟩
    have hri := hr i (by omega)
    have e31 := h31 i (by omega)
    obtain ⟨s, b, s1, s2, s3, s4⟩ := hst.2.2.2.1 (r i) hri
    have hbk := bk_of hst hri
    have cb := cnE_b (f := r) (v := r i) (n := i)
    have esk : skN w (r i) = s := by
      show nN (w (16 + 5 * r i)) = s
      rw [s3]; exact n_cl (by omega)
    have e3 : wad w r i (16 + 5 * r i) = nI s := (wad_o (T := T) (fun t ht => by omega) (fun j hj => hr j (by omega))).trans s3
    have e4 : wad w r i (17 + 5 * r i) = nI (bk w (r i) + cnE r (r i) i) := wad_k hbk.1
    have b9 : bk w (r i) + cnE r (r i) i ≤ 9 := by
      have := (bk_of hs hri).2
      rw [wad_bk hbk.1 hbk.2 (by omega)] at this
      exact this
    have hMi := wad_M (r := r) (i := i) hst (by omega) (fun j hj => hr j (by omega))
    have q216 := q_216 (g := g) (S := S) (w := wad w r i) (T := T) (by omega) (wad_V hV (fun j hj => hr j (by omega))) hs h20 hri e3 e4 s1 b9
    rw [hMi] at q216
    have ec : cfA w r (j + 1) i = (cfi w r i && cfA w r j (i + 1)) := rfl
    by_cases hc : bk w (r i) + cnE r (r i) i < s ∧ bM w T + i < 12
    · have hci : cfi w r i = true := decide_eq_true (by omega)
      rw [if_pos hc] at q216
      have q217 := q_217 (g := g) (S := S) (t := r i) (f := 1) (v := nI 1) (by omega) (by omega)
      obtain ⟨S1, hS1⟩ : ∃ S1, S1 = rA S 20 (upd (S.2.1 20) (16 + 5 * r i + 1) (S.2.1 20 (16 + 5 * r i + 1) + nI 1)) := ⟨_, rfl⟩
      rw [← hS1] at q217
      have f20 : S1.2.1 20 = wad w r (i + 1) := by
        rw [hS1, rA_s, h20, show 16 + 5 * r i + 1 = 17 + 5 * r i by omega, e4, nI_add]
        rfl
      obtain ⟨n', p, S', y1, y2, y3, y4, y5, y6, y7⟩ := ih (i + 1) n S1 (by omega) (by omega) f20 (wad_st hT8 hst hs (by omega) (fun j hj => hr j (by omega)) hci hc.2) (fun d hd => by rw [hS1, rA_n (by decide)]; exact h31 d hd)
      refine ⟨n', p, S', ?_, by omega, y3, y4, y5, ?_, ?_⟩
      · rw [← y1, l_236]
        simp (disch := omega) only [if_true, k_leF, if_false, k_in, k_cl, e31, q216, Option.bind_some, lit_nI, k_eqF, q217, nI_add]
      · have : rc [] [20] S S1 := by rw [hS1]; exact rc.A (by decide)
        exact this.tr y6
      · rw [ec, hci, Bool.true_and]
        exact y7
    · rw [if_neg hc] at q216
      refine ⟨n, i, S, ?_, by omega, by omega, h20, hs, rc.rf _, Or.inr ⟨by omega, ?_⟩⟩
      · rw [l_236]
        simp (disch := omega) only [if_true, k_leF, if_false, k_in, k_cl, e31, q216, Option.bind_some]
      · rw [ec]
        by_cases h1 : bk w (r i) + cnE r (r i) i < s
        · rw [decide_eq_false (show ¬ bM w T + L ≤ 12 by
            have : ¬ bM w T + i < 12 := fun z => hc ⟨h1, z⟩
            omega), Bool.and_false]
        · rw [show cfi w r i = false from decide_eq_false (by omega), Bool.false_and, Bool.false_and]
end FW
