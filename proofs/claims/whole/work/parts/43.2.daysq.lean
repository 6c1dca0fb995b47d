/-! days, of the reference: what a row costs -/
def prD (B : rB) (w : Nat → Int32) (q D c i : Nat) : Nat := dO B w q (wtN w i) (D + c)
def cdN (B : rB) (w : Nat → Int32) (q D fr W : Nat) (r : Nat → Nat) : Nat := sN (fun c => pcN w fr (sbk (prD B w q D c) r c W)) 5
section DQ
variable {g k : Nat} {m : cM} {S : rS} {B : rB} {w : Nat → Int32} {q T W C Sa R : Nat} {x : Int32}
theorem q_l247b {r : Nat → Nat} {c D : Nat} {x1 : Int32} (hg : 2000 ≤ g) (hV : shV w T W C Sa) (hst : stV w T C k) (hR : rbR m.1 B R) (hq : q ≤ R) (hD : w 7 = nI D) (hc : c < 5) : ∀ (j i n : Nat) (S : rS), i + j = W → 2 * j ≤ n → rx S B w q x R → (∀ d, d < W → S.2.1 32 d = nI (r d) ∧ r d ≤ 4) → ∃ S', l_247 g n 1 x1 (nI c) (nI (sbk (prD B w q D c) r c i)) (nI i) 0 0 S = l_247 g (n - 2 * j) 1 x1 (nI c) (nI (sbk (prD B w q D c) r c W)) (nI W) 0 0 S' ∧ rc [18] [] S S' := by
  have hW6 := hV.2.1.2
  have hT8 := hV.1.2
  intro j
  induction j with
  | zero =>
    intro i n S hi hn hx h32
    have e : i = W := by omega
    subst e
    exact ⟨S, rfl, rc.rf _⟩
  | succ j ih =>
    intro i n S hi hn hx h32
    obtain ⟨n, rfl⟩ : ∃ n', n = n' + 2 := ⟨n - 2, by omega⟩
    obtain ⟨r1, r2⟩ := h32 i (by omega)
    have h2 : S.2.1 20 2 = nI W := by rw [hx.1]; exact hV.2.1.1
    have h7 : S.2.1 20 7 = nI D := by rw [hx.1]; exact hD
    have es : sbk (prD B w q D c) r c (i + 1) = sbk (prD B w q D c) r c i + if r i = c then prD B w q D c i else 0 := rfl
    have t2 : ∀ (s0 s1 : Int32) (S' : rS), l_247 g (n + 1) 2 x1 (nI c) (nI (sbk (prD B w q D c) r c i)) (nI i) s0 s1 S' = l_247 g n 1 x1 (nI c) (s1 + s0) (nI (i + 1)) 0 0 S' := fun s0 s1 S' => by
      rw [l_247, if_neg (by decide), if_neg (by decide), if_pos rfl, show nI i + 1 = nI (i + 1) from nI_1 i]
    rw [show n + 2 - 2 * (j + 1) = n - 2 * j by omega, l_247, if_neg (by decide), if_pos rfl, if_pos (show aIn (2 : Int32) 181 = true by decide), show (2 : Int32).toNatClampNeg = 2 from rfl, h2, if_neg (nI_ge (by omega) (by omega)), if_pos (k_in (by omega) (by omega)), k_cl (by omega), r1]
    by_cases e : r i = c
    · rw [if_neg (show ¬ ¬ nI (r i) = nI c from fun z => z (by rw [e])), q_240 (by omega) hx.1, Option.bind_some]
      have hwt := wt_of hV (i := i) (by omega)
      obtain ⟨S1, y1, y2, -⟩ := q_199 (g := g) (S := S) (m := m) (t := wtN w i) (d := D + c) hg hx hV hR hq (hst.2.2.2.2.1 _ hwt.2).1 hwt.2
      rw [if_pos (show aIn (7 : Int32) 181 = true by decide), show (7 : Int32).toNatClampNeg = 7 from rfl, show (w (96 + 2 * i), S).1 = w (96 + 2 * i) from rfl, hwt.1, show (nI (wtN w i), S).2 = S from rfl, h7, nI_add, y1, Option.bind_some, t2]
      obtain ⟨S', z1, z2⟩ := ih (i + 1) n S1 (by omega) (by omega) (hx.rs (rs.of18 y2)) (fun d hd => by rw [y2.2 32 (by simp)]; exact h32 d hd)
      rw [es, if_pos e] at z1
      refine ⟨S', ?_, y2.tr z2⟩
      rw [nI_add]
      exact z1
    · rw [if_pos (show ¬ nI (r i) = nI c from fun z => e ((nI_eq (by omega) (by omega)).mp z)), t2]
      obtain ⟨S', z1, z2⟩ := ih (i + 1) n S (by omega) (by omega) hx h32
      rw [es, if_neg e] at z1
      refine ⟨S', ?_, z2⟩
      rw [show (0 : Int32) = nI 0 from rfl, nI_add]
      exact z1
end DQ
