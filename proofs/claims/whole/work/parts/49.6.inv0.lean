/-! THE INVARIANT AT THE START -/
theorem no_lt {i n : Nat} {p : Prop} (hn : n = 0) (h : i < n) : p := by
  subst hn
  exact absurd h (Nat.not_lt_zero i)
theorem nN_z : (0 : Int32).toNatClampNeg = 0 := by decide
theorem bd_z (n : Nat) : bd 0 n := ⟨0, Nat.zero_le _, rfl⟩
set_option maxRecDepth 100000 in
theorem inv_00 : Inv 0 m00 S00 := by
  refine ⟨Nat.le_refl _, ⟨0, by decide, rfl, rfl, fun i h => no_lt rfl h⟩, fun _ => 0, 0, 0, 0, 0, 0, 0, 0, ?_, ?_, ?_, ?_⟩
  · refine ⟨?_, ?_, ?_, ?_, Nat.le_refl _, by decide, by decide, rfl, fun r h => no_lt rfl h⟩
    · refine ⟨?_, ?_, ⟨by decide, rfl, rfl⟩, fun i h => no_lt nN_z h, by decide, Or.inl rfl⟩
      · exact ⟨⟨rfl, rfl, rfl, rfl, rfl, rfl, rfl, rfl⟩, fun i h => no_lt rfl h, fun i h => no_lt rfl h, fun i h => no_lt rfl h, fun i h => no_lt rfl h⟩
      · exact ⟨⟨rfl, rfl, rfl, rfl, rfl⟩, fun i h => no_lt rfl h, fun i h => no_lt rfl h, fun t _ _ => ⟨rfl, rfl⟩, fun i h => no_lt nN_z h, fun i h => no_lt nN_z h, 0, by decide, rfl, fun c _ => by rw [Nat.zero_div]; rfl⟩
    · exact ⟨⟨rfl, by decide⟩, ⟨rfl, by decide⟩, ⟨rfl, by decide⟩, ⟨rfl, by decide⟩, Or.inr ⟨rfl, rfl⟩, bd_z _, bd_z _, Or.inl rfl, fun i h => no_lt rfl h, fun i h => no_lt rfl h, fun i h => no_lt rfl h, fun i h => no_lt rfl h⟩
    · exact ⟨⟨0, Nat.le_refl _, rfl⟩, ⟨0, Nat.le_refl _, rfl, fun i h => no_lt rfl h, fun i j _ h => no_lt rfl h⟩, ⟨0, Nat.le_refl _, rfl, fun i h => no_lt rfl h⟩, fun i h => no_lt rfl h, fun i h => no_lt rfl h, fun _ => bd_z _, Nat.zero_le _⟩
    · exact ⟨0, by decide, rfl, fun i h => no_lt rfl h⟩
  · exact ⟨rfl, by decide, rfl, rfl, rfl, rfl, rfl⟩
  · exact ⟨0, 0, by decide, by decide, rfl, rfl, rfl, fun i h => no_lt rfl h⟩
  · exact fun i _ => ⟨rfl, Or.inl rfl⟩
/-! THE ROOM -/
def zq (q : Nat × Nat) : Nat := if 100 ≤ q.1 then clsN (q.1 - 100) else q.2
theorem aSl1_K (m : cM) (a : Nat) (q : Nat × Nat) : aSl1 (cK m a q) = zq q := by
  unfold cK zq
  by_cases h : 100 ≤ q.1
  · rw [if_pos h, if_pos h]
    rfl
  · rw [if_neg h, if_neg h]
    by_cases h2 : q.1 ≤ 2
    · rw [if_pos h2]
      rfl
    · rw [if_neg h2]
      by_cases h3 : q.1 = 3
      · rw [if_pos h3]
        rfl
      · rw [if_neg h3]
        rfl
theorem aSl1_C (m m' : cM) (S S' : rS) (a : Nat) : aSl1 (cC m S a) = aSl1 (cC m' S' a) := by
  unfold cC
  by_cases h : 382 ≤ a ∧ a < 406
  · rw [if_pos h, if_pos h]
    obtain ⟨j, hj, e⟩ : ∃ j, j < 24 ∧ a - 382 = j := ⟨a - 382, by omega, rfl⟩
    rw [e]
    match j, hj with
    | 0, _ => rfl
    | 1, _ => rfl
    | 2, _ => rfl
    | 3, _ => rfl
    | 4, _ => rfl
    | 5, _ => rfl
    | 6, _ => rfl
    | 7, _ => rfl
    | 8, _ => rfl
    | 9, _ => rfl
    | 10, _ => rfl
    | 11, _ => rfl
    | 12, _ => rfl
    | 13, _ => rfl
    | 14, _ => rfl
    | 15, _ => rfl
    | 16, _ => rfl
    | 17, _ => rfl
    | 18, _ => rfl
    | 19, _ => rfl
    | 20, _ => rfl
    | 21, _ => rfl
    | 22, _ => rfl
    | 23, _ => rfl
    | n + 24, hj => exact absurd hj (by omega)
  · rw [if_neg h, if_neg h, aSl1_K, aSl1_K]
theorem sum_le (f : Nat → Nat) (c : Nat) (h : ∀ a, f a ≤ c) : ∀ n, ((List.range n).map f).sum ≤ c * n := by
  intro n
  induction n with
  | zero => exact Nat.le_refl _
  | succ n ih =>
    rw [List.range_succ, List.map_append, List.sum_append, Nat.mul_succ]
    exact Nat.add_le_add ih (by simp; exact h n)
