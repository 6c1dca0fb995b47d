/-! baskets, of the reference: what a row costs -/
section BQ
variable {g k : Nat} {m : cM} {S : rS} {B : rB} {w : Nat → Int32} {q T W C Sa R : Nat} {x : Int32}
theorem q_240 {i : Nat} (hi : i < 6) (h20 : S.2.1 20 = w) : d_240 g (nI i) S = some (w (96 + 2 * i), S) := by
  unfold d_240
  simp (disch := omega) only [lit_nI, pk_mul, nI_add, k_in, k_cl, if_true, h20]
theorem q_l241b {r : Nat → Nat} {c D : Nat} {x1 : Int32} (hg : 2000 ≤ g) (hV : shV w T W C Sa) (hst : stV w T C k) (hR : rbR m.1 B R) (hq : q ≤ R) (hD : w 7 = nI D) (hc : c < W) : ∀ (j i n : Nat) (S : rS), i + j = W → 2 * j ≤ n → rx S B w q x R → (∀ d, d < W → S.2.1 32 d = nI (r d) ∧ r d ≤ d) → S.2.1 33 c = nI (sbk (fun i => dO B w q (wtN w i) D) r c i) → ∃ S', l_241 g n 1 x1 (nI c) (nI i) 0 0 0 S = l_241 g (n - 2 * j) 1 x1 (nI c) (nI W) 0 0 0 S' ∧ rc [18] [33] S S' ∧ S'.2.1 33 c = nI (sbk (fun i => dO B w q (wtN w i) D) r c W) := by
  have hW6 := hV.2.1.2
  have hT8 := hV.1.2
  intro j
  induction j with
  | zero =>
    intro i n S hi hn hx h32 h33
    have e : i = W := by omega
    subst e
    exact ⟨S, rfl, rc.rf _, h33⟩
  | succ j ih =>
    intro i n S hi hn hx h32 h33
    obtain ⟨n, rfl⟩ : ∃ n', n = n' + 2 := ⟨n - 2, by omega⟩
    obtain ⟨r1, r2⟩ := h32 i (by omega)
    have h2 : S.2.1 20 2 = nI W := by rw [hx.1]; exact hV.2.1.1
    have es : sbk (fun i => dO B w q (wtN w i) D) r c (i + 1) = sbk (fun i => dO B w q (wtN w i) D) r c i + if r i = c then dO B w q (wtN w i) D else 0 := rfl
    have t2 : ∀ (s0 s1 : Int32) (S' : rS), l_241 g (n + 1) 2 x1 (nI c) (nI i) s0 s1 (nI c) S' = l_241 g n 1 x1 (nI c) (nI (i + 1)) 0 0 0 (rA S' 33 (upd (S'.2.1 33) c (s1 + s0))) := fun s0 s1 S' => by
      rw [l_241, if_neg (by decide), if_neg (by decide), if_pos rfl, if_pos (k_in (by omega) (by omega)), k_cl (by omega), show nI i + 1 = nI (i + 1) from nI_1 i]
    rw [show n + 2 - 2 * (j + 1) = n - 2 * j by omega, l_241, if_neg (by decide), if_pos rfl, if_pos (show aIn (2 : Int32) 181 = true by decide), show (2 : Int32).toNatClampNeg = 2 from rfl, h2, if_neg (nI_ge (by omega) (by omega)), if_pos (k_in (by omega) (by omega)), if_pos (k_in (by omega) (by omega)), k_cl (by omega), k_cl (by omega), r1, h33]
    by_cases e : r i = c
    · rw [if_neg (show ¬ ¬ nI (r i) = nI c from fun z => z (by rw [e])), q_240 (by omega) hx.1, Option.bind_some]
      have hwt := wt_of hV (i := i) (by omega)
      obtain ⟨S1, y1, y2, -⟩ := q_200 (g := g) (S := S) (m := m) (t := wtN w i) (D := D) hg hx hV hR hq (hst.2.2.2.2.1 _ hwt.2).1 hwt.2 hD
      rw [show (w (96 + 2 * i), S).1 = w (96 + 2 * i) from rfl, hwt.1, y1, Option.bind_some, t2]
      have hx1 : rx (rA S1 33 (upd (S1.2.1 33) c (nI (sbk (fun i => dO B w q (wtN w i) D) r c i) + nI (dO B w q (wtN w i) D)))) B w q x R := (hx.rs (rs.of18 y2)).rs (rc.A (by decide))
      obtain ⟨S', z1, z2, z3⟩ := ih (i + 1) n _ (by omega) (by omega) hx1 (fun d hd => by rw [rA_n (by decide), y2.2 32 (by simp)]; exact h32 d hd) (by rw [rA_s, upd_s, nI_add, es, if_pos e])
      exact ⟨S', z1, ((y2.mo (by decide) (by decide)).tr (rc.A (by decide))).tr z2, z3⟩
    · rw [if_pos (show ¬ nI (r i) = nI c from fun z => e ((nI_eq (by omega) (by omega)).mp z)), t2]
      have hx1 : rx (rA S 33 (upd (S.2.1 33) c (nI (sbk (fun i => dO B w q (wtN w i) D) r c i) + 0))) B w q x R := hx.rs (rc.A (by decide))
      obtain ⟨S', z1, z2, z3⟩ := ih (i + 1) n _ (by omega) (by omega) hx1 (fun d hd => by rw [rA_n (by decide)]; exact h32 d hd) (by rw [rA_s, upd_s, es, if_neg e, show (0 : Int32) = nI 0 from rfl, nI_add])
      exact ⟨S', z1, (rc.A (by decide)).tr z2, z3⟩
theorem q_l241 {r : Nat → Nat} {D fr : Nat} (hg : 2000 ≤ g) (hV : shV w T W C Sa) (hst : stV w T C k) (hR : rbR m.1 B R) (hq : q ≤ R) (hD : w 7 = nI D) (h5 : w 5 = nI fr) (hfr : fr ≤ 9999) : ∀ (j c n : Nat) (S : rS), c + j = W → j * 16 + 1 ≤ n → rx S B w q x R → (∀ d, d < W → S.2.1 32 d = nI (r d) ∧ r d ≤ d) → ∃ S', l_241 g n 0 (nI (sN (fun c => pcN w fr (sbk (fun i => dO B w q (wtN w i) D) r c W)) c)) (nI c) 0 0 0 0 S = some (nI (cbN w fr (fun i => dO B w q (wtN w i) D) W r), S') ∧ rc [18, 24, 25] [33] S S' := by
  have hW6 := hV.2.1.2
  intro j
  induction j with
  | zero =>
    intro c n S hc hn hx h32
    obtain ⟨n, rfl⟩ : ∃ n', n = n' + 1 := ⟨n - 1, by omega⟩
    have e : c = W := by omega
    subst e
    have h2 : S.2.1 20 2 = nI c := by rw [hx.1]; exact hV.2.1.1
    refine ⟨S, ?_, rc.rf _⟩
    rw [l_241, if_pos rfl, if_pos (show aIn (2 : Int32) 181 = true by decide), show (2 : Int32).toNatClampNeg = 2 from rfl, h2, if_pos (Int32.le_refl _)]
    rfl
  | succ j ih =>
    intro c n S hc hn hx h32
    obtain ⟨n, rfl⟩ : ∃ n', n = n' + 1 := ⟨n - 1, by omega⟩
    have h2 : S.2.1 20 2 = nI W := by rw [hx.1]; exact hV.2.1.1
    obtain ⟨X, hX⟩ : ∃ X, X = nI (sN (fun c => pcN w fr (sbk (fun i => dO B w q (wtN w i) D) r c W)) c) := ⟨_, rfl⟩
    have eX : nI (sN (fun c => pcN w fr (sbk (fun i => dO B w q (wtN w i) D) r c W)) (c + 1)) = X + nI (pcN w fr (sbk (fun i => dO B w q (wtN w i) D) r c W)) := by rw [hX, nI_add]; rfl
    have hx1 : rx (rA S 33 (upd (S.2.1 33) c 0)) B w q x R := hx.rs (rc.A (by decide))
    obtain ⟨S1, y1, y2, y3⟩ := q_l241b (g := g) (m := m) (B := B) (q := q) (x := x) (r := r) (c := c) (D := D) (x1 := X) hg hV hst hR hq hD (by omega) W 0 n (rA S 33 (upd (S.2.1 33) c 0)) (by omega) (by omega) hx1 (fun d hd => by rw [rA_n (by decide)]; exact h32 d hd) (by rw [rA_s, upd_s]; rfl)
    have hx2 : rx S1 B w q x R := hx1.rs (y2.mo (by decide) (by decide))
    have g2 : S1.2.1 20 2 = nI W := by rw [hx2.1]; exact hV.2.1.1
    have hrc1 : rc [18, 24, 25] [33] S S1 := (rc.A (by decide)).tr (y2.mo (by decide) (by decide))
    have g32 : ∀ d, d < W → S1.2.1 32 d = nI (r d) ∧ r d ≤ d := fun d hd => by rw [hrc1.2 32 (by decide)]; exact h32 d hd
    obtain ⟨n1, hn1⟩ : ∃ q, n - 2 * W = q + 2 := ⟨n - 2 * W - 2, by omega⟩
    rw [hn1] at y1
    have e1 : l_241 g (n + 1) 0 X (nI c) 0 0 0 0 S = l_241 g (n1 + 2) 1 X (nI c) (nI W) 0 0 0 S1 := by
      rw [← y1, l_241, if_pos rfl, if_pos (show aIn (2 : Int32) 181 = true by decide), show (2 : Int32).toNatClampNeg = 2 from rfl, h2, if_neg (nI_ge (by omega) (by omega)), if_pos (k_in (by omega) (by omega)), k_cl (by omega)]
      rfl
    have t3 : ∀ (s0 s1 : Int32) (S' : rS), l_241 g (n1 + 1) 3 X (nI c) (nI W) s0 s1 0 S' = l_241 g n1 0 (s1 + s0) (nI (c + 1)) 0 0 0 0 S' := fun s0 s1 S' => by
      rw [l_241, if_neg (by decide), if_neg (by decide), if_neg (by decide), if_pos rfl, show nI c + 1 = nI (c + 1) from nI_1 c]
    have hsb := sbk_b (pr := fun i => dO B w q (wtN w i) D) (r := r) (c := c) (K := 9999) (n := W) (fun i hi => (dO_b hV (wt_of hV hi).2).2)
    have hsb2 : W * 9999 ≤ 6 * 9999 := Nat.mul_le_mul_right _ hW6
    rw [← hX, e1, l_241, if_neg (by decide), if_pos rfl, if_pos (show aIn (2 : Int32) 181 = true by decide), show (2 : Int32).toNatClampNeg = 2 from rfl, g2, if_pos (Int32.le_refl _), if_pos (k_in (by omega) (by omega)), k_cl (by omega), y3]
    by_cases h0 : sbk (fun i => dO B w q (wtN w i) D) r c W = 0
    · rw [h0, if_neg (fun z => z rfl), t3]
      obtain ⟨S', z1, z2⟩ := ih (c + 1) n1 S1 (by omega) (by omega) hx2 g32
      rw [eX, h0] at z1
      exact ⟨S', z1, hrc1.tr z2⟩
    · rw [if_pos (nI_ne0 (by omega) (by omega)), if_pos (k_in (by omega) (by omega))]
      obtain ⟨S2, u1, u2, -⟩ := q_208 (g := g) (S := S1) (w := w) (s := sbk (fun i => dO B w q (wtN w i) D) r c W) (fr := fr) (by omega) hV hx2.1 h5 hfr (by omega)
      have hx3 : rx S2 B w q x R := hx2.rs (u2.mo (by decide) (by decide))
      obtain ⟨S', z1, z2⟩ := ih (c + 1) n1 S2 (by omega) (by omega) hx3 (fun d hd => by rw [u2.2 32 (by simp)]; exact g32 d hd)
      rw [eX, show pcN w fr (sbk (fun i => dO B w q (wtN w i) D) r c W) = coN w (fun _ => 0) 0 (sbk (fun i => dO B w q (wtN w i) D) r c W) fr from if_neg h0] at z1
      refine ⟨S', ?_, (hrc1.tr (u2.mo (by decide) (by decide))).tr z2⟩
      rw [u1, Option.bind_some, t3]
      exact z1
end BQ
