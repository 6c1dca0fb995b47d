/-! days, of the class: the prices ahead -/
def ahD (m : cM) (B : rB) (w : Nat → Int32) (q D N : Nat) : Prop := ∀ i c, c < 5 → 5 * i + c < N → m.1 77 (5 * i + c) = nI (prD B w q D c i)
section DC
variable {g k : Nat} {m : cM} {S : rS} {B : rB} {w : Nat → Int32} {q T W C Sa R : Nat} {x : Int32}
theorem p_l26b {i D : Nat} (hg : 2000 ≤ g) (hD : w 7 = nI D) (hi : i < W) : ∀ (j c n : Nat) (m : cM), c + j = 5 → j + 1 ≤ n → cx m B w q x T W C Sa R k → ahD m B w q D (5 * i + c) → ∃ m', l_26 g n 1 (nI i) (nI c) m = l_26 g (n - (j + 1)) 0 (nI (i + 1)) 0 m' ∧ ms m m' ∧ (∀ a, a ≠ 77 → m'.1 a = m.1 a) ∧ ahD m' B w q D (5 * (i + 1)) := by
  intro j
  induction j with
  | zero =>
    intro c n m hc hn h ha
    obtain ⟨n, rfl⟩ : ∃ n', n = n' + 1 := ⟨n - 1, by omega⟩
    have e : c = 5 := by omega
    subst e
    refine ⟨m, ?_, ms.rf _, fun _ _ => rfl, ha⟩
    rw [l_26, if_neg (by decide), if_pos rfl, if_pos (show (4 : Int32) < nI 5 by decide), show nI i + 1 = nI (i + 1) from nI_1 i]
    rfl
  | succ j ih =>
    intro c n m hc hn h ha
    obtain ⟨n, rfl⟩ : ∃ n', n = n' + 1 := ⟨n - 1, by omega⟩
    have hV := h.2.1
    have hW6 := hV.2.1.2
    have hwt := wt_of hV hi
    have e4 : m.1 (m.2.2.1 5 + 4) i = nI (wtN w i) := (h.1.1.2.2.1 i hi).1.trans hwt.1
    have e13 : m.1 19 13 = nI D := h.1.2.1.1.2.2.2.2.trans hD
    obtain ⟨m1, y1, y2, y3⟩ := p_90 (g := g) hg h (t := wtN w i) (d := D + c) hwt.2
    have hms : ms m (cW m1 77 (5 * i + c) (nI (prD B w q D c i))) := (ms.of y2 y3).tr (ms.W (by omega))
    obtain ⟨m', z1, z2, z3, z4⟩ := ih (c + 1) n (cW m1 77 (5 * i + c) (nI (prD B w q D c i))) (by omega) (by omega) (h.ms hms) (fun i' c' h1 h2 => by
      by_cases e : 5 * i' + c' = 5 * i + c
      · have e1 : i' = i := by omega
        have e2 : c' = c := by omega
        rw [e1, e2, cW_s]
      · rw [cW_k e, y2]; exact ha i' c' h1 (by omega))
    refine ⟨m', ?_, hms.tr z2, fun a a1 => (z3 a a1).trans (by rw [cW_b a1, y2]), z4⟩
    have ex : nI i * 5 + nI c = nI (5 * i + c) := by
      rw [show (5 : Int32) = nI 5 from rfl, pk_mul, nI_add, Nat.mul_comm]
    rw [show n + 1 - (j + 1 + 1) = n - (j + 1) by omega, ← z1, l_26, if_neg (by decide), if_pos rfl, if_neg (show ¬ (4 : Int32) < nI c from nI_nlt (a := 4) (by omega) (by omega)), if_pos h.cy.1, if_pos (k_in (by omega) (by omega)), k_cl (by omega), e4, e13, nI_add, y1, Option.bind_some, ex, if_pos (k_in (by omega) (by omega)), k_cl (by omega), Option.bind_some, show nI c + 1 = nI (c + 1) from nI_1 c]
    rfl
end DC
