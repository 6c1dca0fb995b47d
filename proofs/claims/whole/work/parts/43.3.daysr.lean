/-! days, of the reference: what a row costs, II -/
section DR
variable {g k : Nat} {m : cM} {S : rS} {B : rB} {w : Nat → Int32} {q T W C Sa R : Nat} {x : Int32}
theorem q_l247 {r : Nat → Nat} {D fr : Nat} (hg : 2000 ≤ g) (hV : shV w T W C Sa) (hst : stV w T C k) (hR : rbR m.1 B R) (hq : q ≤ R) (hD : w 7 = nI D) (h5 : w 5 = nI fr) (hfr : fr ≤ 9999) : ∀ (j c n : Nat) (S : rS), c + j = 5 → j * 16 + 1 ≤ n → rx S B w q x R → (∀ d, d < W → S.2.1 32 d = nI (r d) ∧ r d ≤ 4) → ∃ S', l_247 g n 0 (nI (sN (fun c => pcN w fr (sbk (prD B w q D c) r c W)) c)) (nI c) 0 0 0 0 S = some (nI (cdN B w q D fr W r), S') ∧ rc [18, 24, 25] [] S S' := by
  have hW6 := hV.2.1.2
  intro j
  induction j with
  | zero =>
    intro c n S hc hn hx h32
    obtain ⟨n, rfl⟩ : ∃ n', n = n' + 1 := ⟨n - 1, by omega⟩
    have e : c = 5 := by omega
    subst e
    refine ⟨S, ?_, rc.rf _⟩
    rw [l_247, if_pos rfl, if_pos (show (5 : Int32) ≤ nI 5 from Int32.le_refl _)]
    rfl
  | succ j ih =>
    intro c n S hc hn hx h32
    obtain ⟨n, rfl⟩ : ∃ n', n = n' + 1 := ⟨n - 1, by omega⟩
    obtain ⟨X, hX⟩ : ∃ X, X = nI (sN (fun c => pcN w fr (sbk (prD B w q D c) r c W)) c) := ⟨_, rfl⟩
    have eX : nI (sN (fun c => pcN w fr (sbk (prD B w q D c) r c W)) (c + 1)) = X + nI (pcN w fr (sbk (prD B w q D c) r c W)) := by rw [hX, nI_add]; rfl
    obtain ⟨S1, y1, y2⟩ := q_l247b (g := g) (m := m) (B := B) (q := q) (x := x) (r := r) (c := c) (D := D) (x1 := X) hg hV hst hR hq hD (by omega) W 0 n S (by omega) (by omega) hx h32
    have hx2 : rx S1 B w q x R := hx.rs (rs.of18 y2)
    have g2 : S1.2.1 20 2 = nI W := by rw [hx2.1]; exact hV.2.1.1
    have hrc1 : rc [18, 24, 25] [] S S1 := y2.mo (by decide) (by decide)
    have g32 : ∀ d, d < W → S1.2.1 32 d = nI (r d) ∧ r d ≤ 4 := fun d hd => by rw [hrc1.2 32 (by simp)]; exact h32 d hd
    obtain ⟨n1, hn1⟩ : ∃ q, n - 2 * W = q + 2 := ⟨n - 2 * W - 2, by omega⟩
    rw [hn1] at y1
    have e1 : l_247 g (n + 1) 0 X (nI c) 0 0 0 0 S = l_247 g (n1 + 2) 1 X (nI c) (nI (sbk (prD B w q D c) r c W)) (nI W) 0 0 S1 := by
      rw [← y1, l_247, if_pos rfl, if_neg (show ¬ (5 : Int32) ≤ nI c from nI_ge (b := 5) (by omega) (by omega))]
      rfl
    have t3 : ∀ (s0 s1 y : Int32) (S' : rS), l_247 g (n1 + 1) 3 X (nI c) y (nI W) s0 s1 S' = l_247 g n1 0 (s1 + s0) (nI (c + 1)) 0 0 0 0 S' := fun s0 s1 y S' => by
      rw [l_247, if_neg (by decide), if_neg (by decide), if_neg (by decide), if_pos rfl, show nI c + 1 = nI (c + 1) from nI_1 c]
    have hsb := sbk_b (pr := prD B w q D c) (r := r) (c := c) (K := 9999) (n := W) (fun i hi => (dO_b hV (wt_of hV hi).2).2)
    have hsb2 : W * 9999 ≤ 6 * 9999 := Nat.mul_le_mul_right _ hW6
    rw [← hX, e1, l_247, if_neg (by decide), if_pos rfl, if_pos (show aIn (2 : Int32) 181 = true by decide), show (2 : Int32).toNatClampNeg = 2 from rfl, g2, if_pos (Int32.le_refl _)]
    by_cases h0 : sbk (prD B w q D c) r c W = 0
    · rw [h0, if_neg (fun z => z rfl), t3]
      obtain ⟨S', z1, z2⟩ := ih (c + 1) n1 S1 (by omega) (by omega) hx2 g32
      rw [eX, h0] at z1
      exact ⟨S', z1, hrc1.tr z2⟩
    · rw [if_pos (nI_ne0 (by omega) (by omega))]
      obtain ⟨S2, u1, u2, -⟩ := q_208 (g := g) (S := S1) (w := w) (s := sbk (prD B w q D c) r c W) (fr := fr) (by omega) hV hx2.1 h5 hfr (by omega)
      obtain ⟨S', z1, z2⟩ := ih (c + 1) n1 S2 (by omega) (by omega) (hx2.rs (u2.mo (by decide) (by decide))) (fun d hd => by rw [u2.2 32 (by simp)]; exact g32 d hd)
      rw [eX, show pcN w fr (sbk (prD B w q D c) r c W) = coN w (fun _ => 0) 0 (sbk (prD B w q D c) r c W) fr from if_neg h0] at z1
      refine ⟨S', ?_, (hrc1.tr (u2.mo (by decide) (by decide))).tr z2⟩
      rw [u1, Option.bind_some, t3]
      exact z1
end DR
