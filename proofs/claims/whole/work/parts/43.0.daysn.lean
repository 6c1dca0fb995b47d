/-! days, of the reference: the next row -/
/-- how many days a want can wait, 4 at most -/
def dyW (w : Nat → Int32) (D i : Nat) : Nat := if nN (w (97 + 2 * i)) - D ≤ 4 then nN (w (97 + 2 * i)) - D else 4
theorem dyW_b {w : Nat → Int32} {D i : Nat} : dyW w D i ≤ 4 := by
  unfold dyW
  split <;> omega
theorem k_neN {a b : Nat} (h : a < b) (hb : b < 100000) : ¬ (0 : Int32) ≤ nI a - nI b := by
  obtain ⟨d, rfl⟩ : ∃ d, b = a + (d + 1) := ⟨b - a - 1, by omega⟩
  have e : nI a - nI (a + (d + 1)) = (-nI 1 : Int32) - nI d := by
    rw [← nI_add, ← nI_add]
    show nI a - (nI a + (nI d + nI 1)) = -nI 1 - nI d
    have : ∀ x y z : Int32, x - (x + (y + z)) = -z - y := by
      intro x y z
      apply Int32.toBitVec_inj.mp
      simp only [Int32.toBitVec_sub, Int32.toBitVec_add, Int32.toBitVec_neg]
      rw [← BitVec.sub_sub, BitVec.sub_self, BitVec.add_comm, ← BitVec.sub_sub, BitVec.zero_sub]
    exact this _ _ _
  rw [e]
  exact Int32.not_le.mpr (k_mN (by omega))
section DN
variable {g : Nat} {S : rS} {w : Nat → Int32} {T W C Sa : Nat}
theorem q_246 {i D : Nat} (hV : shV w T W C Sa) (h20 : S.2.1 20 = w) (hi : i < W) (hD : w 7 = nI D) (hDb : D ≤ 10000) : d_246 g (nI i) S = some (nI (dyW w D i), S) := by
  have hW6 := hV.2.1.2
  obtain ⟨e1, e2⟩ := nI_nN (hV.2.2.2.2.2.2.2.2.2.1 i hi).2 (by omega)
  have f7 : S.2.1 20 7 = nI D := by rw [h20]; exact hD
  have f97 : S.2.1 20 (96 + 2 * i + 1) = nI (nN (w (97 + 2 * i))) := by rw [h20, e1, show 96 + 2 * i + 1 = 97 + 2 * i by omega]
  unfold d_246 dyW
  simp (disch := omega) only [lit_nI, pk_mul, nI_add, k_in, k_cl, if_true, f7, f97]
  by_cases h : nN (w (97 + 2 * i)) < D
  · rw [if_neg (show ¬ nI 0 ≤ nI (nN (w (97 + 2 * i))) - nI D from k_neN h (by omega)), show nN (w (97 + 2 * i)) - D = 0 by omega, if_pos (by omega)]
  · rw [k_sub (by omega), if_pos (nI_le (by omega) (by omega))]
    by_cases h4 : nN (w (97 + 2 * i)) - D ≤ 4
    · rw [if_pos h4, if_pos (nI_le h4 (by omega))]
    · rw [if_neg h4, if_neg (nI_ge (by omega) (by omega))]
end DN
