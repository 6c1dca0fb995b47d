/-! days, of the reference: the next row -/
section DM
variable {g k : Nat} {m : cM} {S : rS} {B : rB} {w : Nat → Int32} {q T W C Sa R : Nat} {x : Int32}
theorem q_l248c {r : Nat → Nat} {p : Nat} (hW : S.2.1 20 2 = nI W) (hW6 : W ≤ 6) (hp : p < W) : ∀ (j i n : Nat) (S : rS), S.2.1 20 2 = nI W → i + j = W → p + 1 ≤ i → j + 1 ≤ n → (∀ d, d < i → S.2.1 32 d = nI (odN r p d)) → ∃ S', l_248 g n 2 (nI p) (nI i) S = some (1, S') ∧ rc [] [32] S S' ∧ (∀ d, d < W → S'.2.1 32 d = nI (odN r p d)) := by
  intro j
  induction j with
  | zero =>
    intro i n S h2 hi hpi hn h
    obtain ⟨n, rfl⟩ : ∃ n', n = n' + 1 := ⟨n - 1, by omega⟩
    have e : i = W := by omega
    subst e
    refine ⟨S, ?_, rc.rf _, h⟩
    rw [l_248, if_neg (by decide), if_neg (by decide), if_pos rfl, if_pos (show aIn (2 : Int32) 181 = true by decide), show (2 : Int32).toNatClampNeg = 2 from rfl, h2, if_pos (Int32.le_refl _)]
  | succ j ih =>
    intro i n S h2 hi hpi hn h
    obtain ⟨n, rfl⟩ : ∃ n', n = n' + 1 := ⟨n - 1, by omega⟩
    obtain ⟨S', y1, y2, y3⟩ := ih (i + 1) n (rA S 32 (upd (S.2.1 32) i 0)) (by rw [rA_n (by decide)]; exact h2) (by omega) (by omega) (by omega) (by
      intro d hd
      rw [rA_s]
      by_cases e : d = i
      · subst e
        rw [upd_s]
        show 0 = nI (if d < p then r d else if d = p then r p + 1 else 0)
        rw [if_neg (by omega), if_neg (by omega)]
        rfl
      · rw [upd_n e]; exact h d (by omega))
    refine ⟨S', ?_, (rc.A (by decide)).tr y2, y3⟩
    rw [l_248, if_neg (by decide), if_neg (by decide), if_pos rfl, if_pos (show aIn (2 : Int32) 181 = true by decide), show (2 : Int32).toNatClampNeg = 2 from rfl, h2, if_neg (nI_ge (by omega) (by omega)), if_pos (k_in (by omega) (by omega)), k_cl (by omega), show nI i + 1 = nI (i + 1) from nI_1 i]
    exact y1
theorem q_l248 {r : Nat → Nat} {D : Nat} (hg : 100 ≤ g) (hV : shV w T W C Sa) (h20 : S.2.1 20 = w) (hD : w 7 = nI D) (hDb : D ≤ 10000) (hr : ∀ j, j < W → S.2.1 32 j = nI (r j) ∧ r j ≤ dyW w D j) : ∀ (i n : Nat), i ≤ W → i + W + 4 ≤ n → ∃ S', l_248 g n 0 (nI i - nI 1) 0 S = some ((match odP (fun _ p => dyW w D p) r i with
    | none => 0
    | some _ => 1), S') ∧ rc [] [32] S S' ∧ (match odP (fun _ p => dyW w D p) r i with
    | none => True
    | some p => ∀ d, d < W → S'.2.1 32 d = nI (odN r p d)) := by
  have hW6 := hV.2.1.2
  have hW : S.2.1 20 2 = nI W := by rw [h20]; exact hV.2.1.1
  intro i
  induction i with
  | zero =>
    intro n hi hn
    obtain ⟨n, rfl⟩ : ∃ n', n = n' + 2 := ⟨n - 2, by omega⟩
    refine ⟨S, ?_, rc.rf _, trivial⟩
    rw [l_248, if_pos rfl, if_pos (by decide), l_248, if_neg (by decide), if_pos rfl, if_neg (by decide)]
    rfl
  | succ i ih =>
    intro n hi hn
    obtain ⟨n, rfl⟩ : ∃ n', n = n' + 2 := ⟨n - 2, by omega⟩
    obtain ⟨r1, r2⟩ := hr i (by omega)
    have hb := dyW_b (w := w) (D := D) (i := i)
    have e1 : nI (i + 1) - nI 1 = nI i := k_sub (by omega)
    have e2 : odP (fun _ p => dyW w D p) r (i + 1) = if r i < dyW w D i then some i else odP (fun _ p => dyW w D p) r i := rfl
    have q246 := q_246 (g := g) (S := S) (i := i) hV h20 (by omega) hD hDb
    rw [e1, e2, l_248, if_pos rfl, if_neg (nI_pos (by omega)), if_pos (k_in (by omega) (by omega)), q246, Option.bind_some, k_cl (by omega), r1]
    rw [show (nI (dyW w D i), S).1 = nI (dyW w D i) from rfl]
    by_cases h : r i < dyW w D i
    · obtain ⟨S', y1, y2, y3⟩ := q_l248c (g := g) (S := S) (r := r) (p := i) hW hW6 (by omega) (W - (i + 1)) (i + 1) n (rA S 32 (upd (S.2.1 32) i (nI (r i + 1)))) (by rw [rA_n (by decide)]; exact hW) (by omega) (by omega) (by omega) (fun d hd => by
        rw [rA_s]
        show _ = nI (if d < i then r d else if d = i then r i + 1 else 0)
        by_cases e : d = i
        · subst e; rw [upd_s, if_neg (by omega), if_pos rfl]
        · rw [upd_n e, if_pos (by omega)]; exact (hr d (by omega)).1)
      rw [if_pos (show ¬ nI (r i) = nI (dyW w D i) from fun z => by have := (nI_eq (by omega) (by omega)).mp z; omega), if_pos h]
      refine ⟨S', ?_, (rc.A (by decide)).tr y2, y3⟩
      show l_248 g (n + 1) 1 (nI i) 0 S = _
      rw [l_248, if_neg (by decide), if_pos rfl, if_pos (nI_pos' (by omega)), if_pos (k_in (by omega) (by omega)), if_pos (k_in (by omega) (by omega)), k_cl (by omega), r1, show nI (r i) + 1 = nI (r i + 1) from nI_1 _, show nI i + 1 = nI (i + 1) from nI_1 i]
      exact y1
    · obtain ⟨S', y1, y2, y3⟩ := ih (n + 1) (by omega) (by omega)
      have e : r i = dyW w D i := by omega
      rw [if_neg (show ¬ ¬ nI (r i) = nI (dyW w D i) from fun z => z (by rw [e])), if_neg h]
      refine ⟨S', ?_, y2, y3⟩
      rw [← y1, Int32.sub_eq_add_neg]
      rfl
/-- hasNextDays -/
theorem q_248 {r : Nat → Nat} {D : Nat} (hg : 100 ≤ g) (hV : shV w T W C Sa) (h20 : S.2.1 20 = w) (hD : w 7 = nI D) (hDb : D ≤ 10000) (hr : ∀ j, j < W → S.2.1 32 j = nI (r j) ∧ r j ≤ dyW w D j) : ∃ S', d_248 g S = some ((match odP (fun _ p => dyW w D p) r W with
    | none => 0
    | some _ => 1), S') ∧ rc [] [32] S S' ∧ (match odP (fun _ p => dyW w D p) r W with
    | none => True
    | some p => ∀ d, d < W → S'.2.1 32 d = nI (odN r p d)) := by
  have hW : S.2.1 20 2 = nI W := by rw [h20]; exact hV.2.1.1
  have hW6 := hV.2.1.2
  unfold d_248
  rw [if_pos (show aIn (2 : Int32) 181 = true by decide), show (2 : Int32).toNatClampNeg = 2 from rfl, hW]
  exact q_l248 hg hV h20 hD hDb hr W g (Nat.le_refl _) (by omega)
end DM
