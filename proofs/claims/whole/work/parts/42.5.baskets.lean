/-! baskets -/
def mxI (ρ : Nat → Int32) : Nat → Int32
  | 0 => -1
  | n + 1 => if mxI ρ n < ρ n then ρ n else mxI ρ n
theorem odI_w {w : Nat → Int32} {fr W : Nat} {pr : Nat → Nat} {lim : (Nat → Nat) → Nat → Nat} : ∀ {N : Nat} {r : Nat → Nat} {b b' : bO}, odI (bkF w fr pr W) lim W N r b b' → (∀ v L ρ, b = some (v, L, ρ) → L = W) → ∃ v ρ, b' = some (v, W, ρ)
  | 0, _, _, _, h, _ => h.elim
  | N + 1, r, b, b', h, hb => by
    have hf : ∃ v ρ, bkF w fr pr W r b = some (v, W, ρ) := by
      unfold bkF
      match b, hb with
      | none, _ => exact ⟨_, _, rfl⟩
      | some p, hb =>
        have := hb p.1 p.2.1 p.2.2 rfl
        by_cases hv : nI (cbN w fr pr W r) < p.1
        · exact ⟨_, _, if_pos hv⟩
        · refine ⟨p.1, p.2.2, ?_⟩
          show (if nI (cbN w fr pr W r) < p.1 then _ else some p) = _
          rw [if_neg hv, ← this]
    unfold odI at h
    cases hp : odP lim r W with
    | none =>
      rw [hp] at h
      rw [h.2]
      exact hf
    | some p =>
      rw [hp] at h
      obtain ⟨v, ρ, e⟩ := hf
      exact odI_w h (fun v' L' ρ' e' => by
        rw [e] at e'
        cases e'
        rfl)
section BS
variable {g k : Nat} {m : cM} {S : rS} {B : rB} {w : Nat → Int32} {q T W C Sa R : Nat} {x : Int32}
theorem q_l245z {x1 : Int32} (hW6 : W ≤ 6) : ∀ (j i n : Nat) (S : rS), S.2.1 20 2 = nI W → i + j = W → j + 1 ≤ n → (∀ d, d < i → S.2.1 32 d = 0) → ∃ S', l_245 g n 0 x1 (nI i) 0 0 0 S = l_245 g (n - (j + 1)) 1 x1 1 0 0 0 S' ∧ (∀ d, d < W → S'.2.1 32 d = 0) ∧ rc [] [32] S S' := by
  intro j
  induction j with
  | zero =>
    intro i n S h2 hi hn h
    obtain ⟨n, rfl⟩ : ∃ n', n = n' + 1 := ⟨n - 1, by omega⟩
    have e : i = W := by omega
    subst e
    refine ⟨S, ?_, h, rc.rf _⟩
    rw [l_245, if_pos rfl, if_pos (show aIn (2 : Int32) 181 = true by decide), show (2 : Int32).toNatClampNeg = 2 from rfl, h2, if_pos (Int32.le_refl _)]
    rfl
  | succ j ih =>
    intro i n S h2 hi hn h
    obtain ⟨n, rfl⟩ : ∃ n', n = n' + 1 := ⟨n - 1, by omega⟩
    obtain ⟨S', y1, y2, y3⟩ := ih (i + 1) n (rA S 32 (upd (S.2.1 32) i 0)) (by rw [rA_n (by decide)]; exact h2) (by omega) (by omega) (by
      intro d hd
      rw [rA_s]
      by_cases e : d = i
      · subst e; exact upd_s
      · rw [upd_n e]; exact h d (by omega))
    refine ⟨S', ?_, y2, (rc.A (by decide)).tr y3⟩
    rw [show n + 1 - (j + 1 + 1) = n - (j + 1) by omega, ← y1, l_245, if_pos rfl, if_pos (show aIn (2 : Int32) 181 = true by decide), show (2 : Int32).toNatClampNeg = 2 from rfl, h2, if_neg (nI_ge (by omega) (by omega)), if_pos (k_in (by omega) (by omega)), k_cl (by omega), show nI i + 1 = nI (i + 1) from nI_1 i]
theorem q_l245b {D fr : Nat} {x1 : Int32} (hg : 2000 ≤ g) (hV : shV w T W C Sa) (hst : stV w T C k) (hR : rbR m.1 B R) (hq : q ≤ R) (hD : w 7 = nI D) (h5 : w 5 = nI fr) (hfr : fr ≤ 9999) : ∀ (N n : Nat) (S : rS) (r : Nat → Nat) (b b' : bO), odI (bkF w fr (fun i => dO B w q (wtN w i) D) W) uzl W N r b b' → N ≤ n → rx S B w q x R → (∀ d, d < W → S.2.1 32 d = nI (r d) ∧ r d ≤ d) → rst S b → ∃ n' S', n ≤ n' + N ∧ l_245 g n 1 x1 1 0 0 0 S = l_245 g n' 1 x1 0 0 0 0 S' ∧ rc [18, 24, 25, 29, 30] [28, 32, 33] S S' ∧ rst S' b' := by
  have hW6 := hV.2.1.2
  intro N
  induction N with
  | zero => intro n S r b b' h; exact h.elim
  | succ N ih =>
    intro n S r b b' h hn hx h32 hb
    obtain ⟨n, rfl⟩ : ∃ n', n = n' + 1 := ⟨n - 1, by omega⟩
    obtain ⟨S1, y1, y2⟩ := q_l241 (g := g) (m := m) (B := B) (q := q) (x := x) (r := r) (D := D) (fr := fr) hg hV hst hR hq hD h5 hfr W 0 g S (by omega) (by omega) hx h32
    have y1 : d_241 g S = some (nI (cbN w fr (fun i => dO B w q (wtN w i) D) W r), S1) := y1
    have hx1 : rx S1 B w q x R := hx.rs (y2.mo (by decide) (by decide))
    have a32 : ∀ d, d < W → S1.2.1 32 d = nI (r d) ∧ r d ≤ d := fun d hd => by rw [y2.2 32 (by decide)]; exact h32 d hd
    obtain ⟨S2, z1, z2, z3⟩ := q_242 (g := g) (S := S1) (W := W) (r := r) (v := nI (cbN w fr (fun i => dO B w q (wtN w i) D) W r)) (b := b) (by omega) (by rw [hx1.1]; exact hV.2.1.1) hW6 (fun d hd => (a32 d hd).1) (hb.co (y2.1 29 (by decide)) (y2.1 30 (by decide)) (y2.2 28 (by decide)))
    have hx2 : rx S2 B w q x R := hx1.rs (z3.mo (by decide) (by decide))
    have b32 : ∀ d, d < W → S2.2.1 32 d = nI (r d) ∧ r d ≤ d := fun d hd => by rw [z3.2 32 (by decide)]; exact a32 d hd
    obtain ⟨S3, u1, u2, u3⟩ := q_244 (g := g) (S := S2) (W := W) (r := r) (by omega) (by rw [hx2.1]; exact hV.2.1.1) hW6 b32
    have hx3 : rx S3 B w q x R := hx2.rs (u2.mo (by decide) (by decide))
    have hrc3 : rc [18, 24, 25, 29, 30] [28, 32, 33] S S3 := ((y2.mo (by decide) (by decide)).tr (z3.mo (by decide) (by decide))).tr (u2.mo (by decide) (by decide))
    have b3 : rst S3 (bkF w fr (fun i => dO B w q (wtN w i) D) W r b) := z2.co (u2.1 29 (by simp)) (u2.1 30 (by simp)) (u2.2 28 (by decide))
    have e1 : l_245 g (n + 1) 1 x1 1 0 0 0 S = l_245 g n 1 x1 (match odP uzl r W with
        | none => 0
        | some _ => 1) 0 0 0 S3 := by
      rw [l_245, if_neg (by decide), if_pos rfl, if_neg (show ¬ (1 : Int32) = 0 by decide), y1, Option.bind_some, z1, Option.bind_some, u1, Option.bind_some]
      cases odP uzl r W <;> rfl
    rw [e1]
    unfold odI at h
    cases hp : odP uzl r W with
    | none =>
      rw [hp] at h
      refine ⟨n, S3, by omega, rfl, hrc3, ?_⟩
      rw [h.2]
      exact b3
    | some p =>
      rw [hp] at h u3
      obtain ⟨p1, p2⟩ := odP_lt hp
      have p3 := uzl_b r p
      obtain ⟨n', S', v1, v2, v3, v4⟩ := ih n S3 (odN r p) _ b' h (by omega) hx3 (fun d hd => ⟨u3 d hd, by
        show (if d < p then r d else if d = p then r p + 1 else 0) ≤ d
        by_cases e1 : d < p
        · rw [if_pos e1]; exact (h32 d hd).2
        · rw [if_neg e1]
          by_cases e2 : d = p
          · rw [if_pos e2]; omega
          · rw [if_neg e2]; omega⟩) b3
      exact ⟨n', S', by omega, v2, hrc3.tr v3, v4⟩
theorem q_l245m {ρ : Nat → Int32} {x1 x2 : Int32} (h2 : S.2.1 20 2 = nI W) (hW6 : W ≤ 6) (hr : ∀ d, d < W → S.2.1 28 d = ρ d) : ∀ (j i n : Nat), i + j = W → 2 * j + 1 ≤ n → l_245 g n 2 x1 x2 (mxI ρ i) (nI i) 0 S = some (mxI ρ W + 1, S) := by
  intro j
  induction j with
  | zero =>
    intro i n hi hn
    obtain ⟨n, rfl⟩ : ∃ n', n = n' + 1 := ⟨n - 1, by omega⟩
    have e : i = W := by omega
    subst e
    rw [l_245, if_neg (by decide), if_neg (by decide), if_pos rfl, if_pos (show aIn (2 : Int32) 181 = true by decide), show (2 : Int32).toNatClampNeg = 2 from rfl, h2, if_pos (Int32.le_refl _)]
  | succ j ih =>
    intro i n hi hn
    obtain ⟨n, rfl⟩ : ∃ n', n = n' + 2 := ⟨n - 2, by omega⟩
    have r1 := hr i (by omega)
    have t3 : ∀ s0 : Int32, l_245 g (n + 1) 3 x1 x2 (mxI ρ i) (nI i) s0 S = l_245 g n 2 x1 x2 s0 (nI (i + 1)) 0 S := fun s0 => by
      rw [l_245, if_neg (by decide), if_neg (by decide), if_neg (by decide), if_pos rfl, show nI i + 1 = nI (i + 1) from nI_1 i]
    have step := ih (i + 1) n (by omega) (by omega)
    have em : mxI ρ (i + 1) = if mxI ρ i < ρ i then ρ i else mxI ρ i := rfl
    rw [l_245, if_neg (by decide), if_neg (by decide), if_pos rfl, if_pos (show aIn (2 : Int32) 181 = true by decide), show (2 : Int32).toNatClampNeg = 2 from rfl, h2, if_neg (nI_ge (by omega) (by omega)), if_pos (k_in (by omega) (by omega)), k_cl (by omega), r1]
    by_cases h : ρ i ≤ mxI ρ i
    · rw [if_pos h, t3]
      rw [em, if_neg (Int32.not_lt.mpr h)] at step
      exact step
    · rw [if_neg h, if_pos (k_in (by omega) (by omega)), t3]
      rw [em, if_pos (Int32.not_le.mp h)] at step
      exact step
theorem p_l6 {ρ : Nat → Int32} {L : Nat} (h2 : m.1 72 2 = nI L) (hL : L ≤ 8) (hr : ∀ d, d < L → m.1 73 d = ρ d) : ∀ (j i n : Nat), i + j = L → j + 1 ≤ n → l_6 g n 0 (mxI ρ i) (nI i) m = some (mxI ρ L) := by
  intro j
  induction j with
  | zero =>
    intro i n hi hn
    obtain ⟨n, rfl⟩ : ∃ n', n = n' + 1 := ⟨n - 1, by omega⟩
    have e : i = L := by omega
    subst e
    rw [l_6, if_pos rfl, h2, if_pos (Int32.le_refl _)]
  | succ j ih =>
    intro i n hi hn
    obtain ⟨n, rfl⟩ : ∃ n', n = n' + 1 := ⟨n - 1, by omega⟩
    rw [l_6, if_pos rfl, h2, if_neg (nI_ge (by omega) (by omega)), if_pos (k_in (by omega) (by omega)), k_cl (by omega), hr i (by omega), show nI i + 1 = nI (i + 1) from nI_1 i]
    exact ih (i + 1) n (by omega) (by omega)
end BS
