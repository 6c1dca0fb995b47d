/-! leaves of the reference, as equations -/
section L33
variable {g t j c : Nat} {S : rS} {x : Int32}
theorem q_187 : d_187 g S = some (if S.2.1 20 0 = 1 then 1 else 0, S) := by
  simp (disch := omega) only [d_187, lit_nI, k_in, k_cl, if_true]
  split <;> simp_all
theorem q_191 (ht : t < 8) (hj : j < 5) : d_191 g (nI t) (nI j) S = some (S.2.1 20 (16 + 5 * t + j), S) := by
  simp (disch := omega) only [d_191, lit_nI, nI_add, pk_mul, k_in, k_cl, if_true]
theorem q_192 (ht : t < 8) : d_192 g (nI t) S = some (S.2.1 20 (80 + 2 * t), S) := by
  simp (disch := omega) only [d_192, lit_nI, nI_add, pk_mul, k_in, k_cl, if_true]
theorem q_193 (ht : t < 8) : d_193 g (nI t) S = some (S.2.1 20 (81 + 2 * t), S) := by
  simp (disch := omega) only [d_193, lit_nI, nI_add, pk_mul, k_in, k_cl, if_true]
  rw [show 80 + 2 * t + 1 = 81 + 2 * t by omega]
theorem q_194 (hc : c < 5) (hj : j < 4) : d_194 g (nI c) (nI j) S = some (S.2.1 20 (120 + 4 * c + j), S) := by
  simp (disch := omega) only [d_194, lit_nI, nI_add, pk_mul, k_in, k_cl, if_true]
end L33
