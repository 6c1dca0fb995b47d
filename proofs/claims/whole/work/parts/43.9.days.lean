/-! days: the step -/
theorem odI_wd {B : rB} {w : Nat → Int32} {q D fr W : Nat} {lim : (Nat → Nat) → Nat → Nat} : ∀ {N : Nat} {r : Nat → Nat} {b b' : bO}, odI (bdF B w q D fr W) lim W N r b b' → (∀ v L ρ, b = some (v, L, ρ) → L = W) → ∃ v ρ, b' = some (v, W, ρ)
  | 0, _, _, _, h, _ => h.elim
  | N + 1, r, b, b', h, hb => by
    have hf : ∃ v ρ, bdF B w q D fr W r b = some (v, W, ρ) := by
      unfold bdF
      match b, hb with
      | none, _ => exact ⟨_, _, rfl⟩
      | some p, hb =>
        have := hb p.1 p.2.1 p.2.2 rfl
        by_cases hv : nI (cdN B w q D fr W r) < p.1
        · exact ⟨_, _, if_pos hv⟩
        · refine ⟨p.1, p.2.2, ?_⟩
          show (if nI (cdN B w q D fr W r) < p.1 then _ else some p) = _
          rw [if_neg hv, ← this]
    unfold odI at h
    cases hp : odP lim r W with
    | none =>
      rw [hp] at h
      rw [h.2]
      exact hf
    | some p =>
      rw [hp] at h
      obtain ⟨v, ρ, e⟩ := hf
      exact odI_wd h (fun v' L' ρ' e' => by
        rw [e] at e'
        cases e'
        rfl)
section DP
variable {g k : Nat} {m : cM} {S : rS}
theorem l249_e {n : Nat} {x1 : Int32} : l_249 g (n + 1) 1 x1 0 S = (if ¬ x1 = 0 then (if aIn (2 : Int32) 181 = true then (if S.2.1 20 (2 : Int32).toNatClampNeg < x1 then some (-2, S) else if aIn (x1 - 1) 8 = true then some (S.2.1 28 (x1 - 1).toNatClampNeg, S) else none) else none) else some (S.1 30, S)) := by
  rw [l_249, if_neg (show ¬ 1 = 0 by decide), if_pos (show 1 = 1 from rfl), if_pos (show (0 : Int32) = 0 from rfl)]
theorem sp_days (hg : 100000 ≤ g) (hk : k ≤ 10000) (h : Inv k m S) (a : Int32) : St k (d_124 g a m) (d_249 g a S) := by
  obtain ⟨-, -, w, q, x, T, W, C, Sa, R, hc, hr, hpa, him⟩ := id h
  have hV := hc.2.1
  have hst := hc.2.2.1
  have hW6 := hV.2.1.2
  obtain ⟨D, hDk, hD⟩ := hst.1
  obtain ⟨fr, hf1, hf2⟩ := hV.2.2.2.2.2.2.1
  unfold d_124 d_249
  rw [if_pos hc.cy.1]
  rcases is_op (g := g) hc hr with ⟨e1, e2, -⟩ | ⟨e1, e2⟩
  · rw [if_pos e1, e2]
    exact St.no h rfl rfl
  rw [if_neg e1, e2]
  simp only [Option.bind_some, z10, if_false]
  rw [q_140 (a := 0) (b := 6) (a' := 0) (b' := 6) (by decide) (by decide), Option.bind_some]
  by_cases ha : (0 : Int32) ≤ a ∧ a ≤ 6
  case neg =>
    rw [if_neg ha]
    simp only [z00, not_true, if_false]
    refine St.no h (v := -3) ?_ rfl
    by_cases h3 : a < 0
    · rw [if_pos h3]
    · rw [if_neg h3, if_neg (fun q => ha ⟨Int32.not_lt.mp h3, q⟩)]
  case pos =>
    obtain ⟨j, -, hj, rfl⟩ := rng (a := 0) (b := 6) (by omega) (by omega) ha
    obtain ⟨m1, y1, y2, y3⟩ := p_26 (g := g) (D := D) (fr := fr) (by omega) hc hD (by omega) hf2 hf1
    obtain ⟨N, n1, n2⟩ := od_from (f := bdF (bS3 S) w q D fr W) (lim := fun _ p => dyW w D p) (W := W) (M := 4) (fun _ _ _ _ => rfl) (fun r p hp => dyW_b) (none : bO)
    have h6 : (4 + 1) ^ W ≤ 46656 := by
      have : W = 0 ∨ W = 1 ∨ W = 2 ∨ W = 3 ∨ W = 4 ∨ W = 5 ∨ W = 6 := by omega
      rcases this with e | e | e | e | e | e | e <;> rw [e] <;> decide
    obtain ⟨vv, rr, hp⟩ := odI_wd n2 (fun v L ρ e => by cases e)
    rw [hp] at y3
    have hx0 : rx (rF S 29 (-1)) (bS3 S) w q x R := hr.rs (rc.F (by decide))
    have g2 : (rF S 29 (-1)).2.1 20 2 = nI W := by rw [hx0.1]; exact hV.2.1.1
    obtain ⟨S1, z1, z2, z3⟩ := q_l249z (g := g) (W := W) (x1 := nI j) hW6 W 0 g (rF S 29 (-1)) g2 (by omega) (by omega) (fun d hd => absurd hd (by omega))
    have hx1 : rx S1 (bS3 S) w q x R := hx0.rs (z3.mo (by decide) (by decide))
    obtain ⟨n', S2, v1, v2, v3, v4⟩ := q_l249b (g := g) (m := m) (B := bS3 S) (q := q) (x := x) (D := D) (fr := fr) (x1 := nI j) (by omega) hV hst hc.2.2.2.2.2.2 hc.2.2.2.2.1 hD (by omega) hf2 hf1 N (g - (W + 1)) S1 (fun _ => 0) none _ n2 (by omega) hx1 (fun d hd => ⟨z2 d hd, Nat.zero_le _⟩) (by
      show S1.1 29 = -1
      rw [z3.1 29 (by simp), rF_s])
    rw [hp] at v4
    have hx2 : rx S2 (bS3 S) w q x R := hx1.rs (v3.mo (by decide) (by decide))
    have hrs : rs S S2 := ((rc.F (by decide)).tr (z3.mo (by decide) (by decide))).tr (v3.mo (by decide) (by decide))
    have f2 : S2.2.1 20 2 = nI W := by rw [hx2.1]; exact hV.2.1.1
    obtain ⟨n3, rfl⟩ : ∃ q, n' = q + 100 := ⟨n' - 100, by omega⟩
    have p4 := p_4 (g := g) (j := j) y3 (by omega)
    obtain ⟨w1, w2, w3, w4⟩ := v4
    have w4 : ∀ i, i < W → S2.2.1 28 i = rr i := w4
    have e0 : l_249 g g 0 (nI j) 0 (rF S 29 (-1)) = l_249 g (n3 + 99 + 1) 1 (nI j) 0 S2 := z1.trans v2
    rw [if_pos ha, if_neg (show ¬ nI j < 0 from nI_pos (by omega)), if_pos (show nI j ≤ 6 from nI_le (b := 6) hj (by omega)), y1, Option.bind_some, p4, Option.bind_some, if_pos (show ¬ (1 : Int32) = 0 by decide), e0, l249_e]
    refine St.scr h (v := if j = 0 then vv else if W < j then -2 else rr (j - 1)) (m' := m1) (S' := S2) rfl ?_ y2 hrs
    by_cases h0 : j = 0
    · subst h0
      rw [if_neg (fun z => z rfl), if_pos rfl, w2]
    · rw [if_neg h0, if_pos (show ¬ nI j = 0 from nI_ne0 (by omega) (by omega)), if_pos (show aIn (2 : Int32) 181 = true by decide), show (2 : Int32).toNatClampNeg = 2 from rfl, f2]
      by_cases h1 : W < j
      · rw [if_pos h1, if_pos (nI_lt h1 (by omega))]
      · rw [if_neg h1, if_neg (nI_nlt (by omega) (by omega))]
        have e := w4 (j - 1) (by omega)
        simp (disch := omega) only [lit_nI, k_sub, k_in, k_cl, if_true, e]
end DP
