/-! COST, on both sides -/
/-- one code on a sum -/
def ctS (w : Nat → Int32) (c s : Nat) (b : Bool) : Nat × Bool :=
  if s < nN (w (122 + 4 * c)) then (s, b)
  else if nN (w (120 + 4 * c)) = 0 then (s - s * nN (w (121 + 4 * c)) / 100, b)
  else if nN (w (120 + 4 * c)) = 1 then (s - nN (w (121 + 4 * c)), b)
  else (s, true)
def ctN (w : Nat → Int32) (row : Nat → Nat) : Nat → Nat → Nat → Bool → Nat × Bool
  | 0, _, s, b => (s, b)
  | n + 1, k, s, b => ctN w row n (k + 1) (ctS w (row k) s b).1 (ctS w (row k) s b).2
/-- carriage of a sum behind the codes -/
def caN (w : Nat → Int32) (free : Nat) (p : Nat × Bool) : Nat := if p.1 < free ∧ p.2 = false then nN (w 4) else 0
/-- the whole of it -/
def coN (w : Nat → Int32) (row : Nat → Nat) (L s free : Nat) : Nat := (ctN w row L 0 s false).1 + caN w free (ctN w row L 0 s false)
def bI (b : Bool) : Int32 := if b = true then nI 1 else nI 0
theorem ctS_le (w : Nat → Int32) (c s : Nat) (b : Bool) : (ctS w c s b).1 ≤ s := by
  unfold ctS
  split
  · exact Nat.le_refl _
  · split
    · exact Nat.sub_le _ _
    · split
      · exact Nat.sub_le _ _
      · exact Nat.le_refl _
theorem ctN_le (w : Nat → Int32) (row : Nat → Nat) : ∀ (n k s : Nat) (b : Bool), (ctN w row n k s b).1 ≤ s
  | 0, _, _, _ => Nat.le_refl _
  | n + 1, k, s, b => Nat.le_trans (ctN_le w row n (k + 1) _ _) (ctS_le w (row k) s b)
theorem ctN_c (w : Nat → Int32) {row row' : Nat → Nat} : ∀ (n k s : Nat) (b : Bool), (∀ i, k ≤ i → i < k + n → row i = row' i) → ctN w row n k s b = ctN w row' n k s b
  | 0, _, _, _, _ => rfl
  | n + 1, k, s, b, h => by
    show ctN w row n (k + 1) _ _ = ctN w row' n (k + 1) _ _
    rw [h k (by omega) (by omega)]
    exact ctN_c w n (k + 1) _ _ (fun i h1 h2 => h i (by omega) (by omega))
theorem coN_c (w : Nat → Int32) {row row' : Nat → Nat} {L s free : Nat} (h : ∀ i, i < L → row i = row' i) : coN w row L s free = coN w row' L s free := by
  unfold coN
  rw [ctN_c w L 0 s false (fun i _ h2 => h i (by omega))]
theorem caN_b {w : Nat → Int32} {T W C Sa free : Nat} {p : Nat × Bool} (hV : shV w T W C Sa) : caN w free p ≤ 999 := by
  unfold caN
  have h4 := nI_nN hV.2.2.2.2.2.1 (by omega)
  split
  · omega
  · omega
section CO
variable {g : Nat} {m : cM} {S : rS} {B : rB} {w : Nat → Int32} {q T W C Sa R k a1 : Nat} {x : Int32}
/-- a code's numbers -/
theorem cd_of (hV : shV w T W C Sa) {c : Nat} (hc : c < C) : ∃ kd u f, kd ≤ 2 ∧ u ≤ 2000 ∧ (kd = 0 → u ≤ 90) ∧ f ≤ 9999 ∧ w (120 + 4 * c) = nI kd ∧ w (121 + 4 * c) = nI u ∧ w (122 + 4 * c) = nI f ∧ nN (w (120 + 4 * c)) = kd ∧ nN (w (121 + 4 * c)) = u ∧ nN (w (122 + 4 * c)) = f := by
  obtain ⟨⟨kd, u, h1, h2, h3, h4, h5⟩, ⟨f, h6, h7⟩, -⟩ := hV.2.2.2.2.2.2.2.2.2.2.2 c hc
  refine ⟨kd, u, f, h1, h4, h5, h6, h2, h3, h7, ?_, ?_, ?_⟩
  · rw [h2]; exact k_cl (by omega)
  · rw [h3]; exact k_cl (by omega)
  · rw [h7]; exact k_cl (by omega)
theorem l207_4 {n : Nat} {x1 x2 x3 x4 x5 x6 x7 s0 : Int32} : l_207 g (n + 1) 4 x1 x2 x3 x4 x5 x6 x7 s0 S = some (x3 + s0, rF S 25 s0) := rfl
theorem l207_3 {n : Nat} {x1 x2 x3 x4 x5 x6 x7 s0 : Int32} : l_207 g (n + 1) 3 x1 x2 x3 x4 x5 x6 x7 s0 S = l_207 g n 4 x1 x2 x3 x4 x5 0 0 0 S := rfl
theorem l207_2 {n : Nat} {x1 x2 x3 x4 x5 x6 x7 s0 : Int32} : l_207 g (n + 1) 2 x1 x2 x3 x4 x5 x6 x7 s0 S = l_207 g n 0 x1 x2 x3 x4 (x5 + 1) 0 0 0 S := rfl
theorem l207_1 {n : Nat} {x1 x2 x3 x4 x5 x6 x7 s0 : Int32} : l_207 g (n + 1) 1 x1 x2 x3 x4 x5 x6 x7 s0 S = l_207 g n 2 x1 x2 s0 x4 x5 x6 0 0 S := rfl
theorem bI_0 {b : Bool} : (bI b = nI 0) = (b = false) := by
  cases b
  · exact eq_true rfl |>.trans (eq_true rfl).symm
  · exact (eq_false (by decide)).trans (eq_false (by decide)).symm
set_option maxHeartbeats 2000000 in
theorem q_l207 {row : Nat → Nat} {L free : Nat} {x1 : Int32} (hV : shV w T W C Sa) (hS : S.2.1 20 = w) (h24 : S.1 24 = nI L) (hL : L ≤ 5) (hrow : ∀ i, i < L → S.2.1 23 i = nI (row i) ∧ row i < C) (hf : free ≤ 20000) : ∀ (j i n s : Nat) (b : Bool), i + j = L → 3 * j + 3 ≤ n → s ≤ 2000000 → l_207 g n 0 x1 (nI free) (nI s) (bI b) (nI i) 0 0 0 S = some (nI ((ctN w row j i s b).1 + caN w free (ctN w row j i s b)), rF S 25 (nI (caN w free (ctN w row j i s b)))) := by
  intro j
  have hC5 := hV.2.2.1.2
  have h4 := nI_nN hV.2.2.2.2.2.1 (by omega)
  induction j with
  | zero =>
    intro i n s b hi hn hs
    obtain ⟨n, rfl⟩ : ∃ n', n = n' + 3 := ⟨n - 3, by omega⟩
    have e : i = L := by omega
    subst e
    show _ = some (nI (s + caN w free (s, b)), rF S 25 (nI (caN w free (s, b))))
    rw [l_207]
    unfold caN
    simp (disch := omega) only [if_true, h24, Int32.le_refl, lit_nI, k_le, bI_0, k_in, k_cl, hS]
    by_cases h1 : free ≤ s
    · rw [if_pos h1, if_neg (fun q => absurd q.1 (by omega)), l207_3, l207_4, lit_nI, nI_add]
    · rw [if_neg h1]
      by_cases h2 : b = false
      · rw [if_neg (fun q => q h2), if_pos ⟨by omega, h2⟩, l207_4, ← nI_add, h4.1]
      · rw [if_pos h2, if_neg (fun q => h2 q.2), l207_3, l207_4, lit_nI, nI_add]
  | succ j ih =>
    intro i n s b hi hn hs
    obtain ⟨n, rfl⟩ : ∃ n', n = n' + 3 := ⟨n - 3, by omega⟩
    obtain ⟨hr1, hr2⟩ := hrow i (by omega)
    obtain ⟨kd, u, f, c1, c2, c3, c4, c5, c6, c7, c8, c9, c10⟩ := cd_of hV hr2
    have k0 : d_194 g (nI (row i)) (nI 0) S = some (nI kd, S) := by rw [q_194 (by omega) (by omega), hS, Nat.add_zero, c5]
    have k1 : d_194 g (nI (row i)) (nI 1) S = some (nI u, S) := by rw [q_194 (by omega) (by omega), hS, show 120 + 4 * row i + 1 = 121 + 4 * row i by omega, c6]
    have k2 : d_194 g (nI (row i)) (nI 2) S = some (nI f, S) := by rw [q_194 (by omega) (by omega), hS, show 120 + 4 * row i + 2 = 122 + 4 * row i by omega, c7]
    have st : ∀ (n' s' : Nat) (b' : Bool) (y6 y7 z : Int32), 3 * j + 4 ≤ n' → ctS w (row i) s b = (s', b') → l_207 g n' 2 x1 (nI free) (nI s') (bI b') (nI i) y6 y7 z S = some (nI ((ctN w row (j + 1) i s b).1 + caN w free (ctN w row (j + 1) i s b)), rF S 25 (nI (caN w free (ctN w row (j + 1) i s b)))) := by
      intro n' s' b' y6 y7 z hn' hc
      obtain ⟨n', rfl⟩ : ∃ q, n' = q + 1 := ⟨n' - 1, by omega⟩
      have hle := ctS_le w (row i) s b
      rw [hc] at hle
      rw [l207_2, nI_1, ih (i + 1) n' s' b' (by omega) (by omega) (by have : s' ≤ s := hle; omega)]
      have hrec : ctN w row (j + 1) i s b = ctN w row j (i + 1) s' b' := by
        show ctN w row j (i + 1) (ctS w (row i) s b).1 (ctS w (row i) s b).2 = _
        rw [hc]
      rw [hrec]
    have hct : ctS w (row i) s b = if s < f then (s, b) else if kd = 0 then (s - s * u / 100, b) else if kd = 1 then (s - u, b) else (s, true) := by
      unfold ctS
      rw [c8, c9, c10]
    rw [l_207]
    simp (disch := omega) only [if_true, h24, k_leF, if_false, k_in, k_cl, hr1, lit_nI, k0, k1, k2, Option.bind_some, k_le, k_eq]
    by_cases h1 : s < f
    · rw [if_pos h1] at hct
      rw [if_neg (by omega)]
      exact st _ _ _ _ _ _ (by omega) hct
    · rw [if_neg h1] at hct
      rw [if_pos (by omega)]
      by_cases h2 : kd = 0
      · rw [if_pos h2] at hct
        have hu := c3 h2
        have hm : s * u ≤ 2000000 * 90 := Nat.mul_le_mul hs hu
        have hd : s * u / 100 ≤ s := by
          have : s * u ≤ s * 100 := Nat.mul_le_mul_left _ (by omega)
          omega
        rw [if_neg (fun q => q h2)]
        simp (disch := omega) only [not_false_eq_true, if_true, pk_mul, pk_div, k_sub]
        exact st _ _ _ _ _ _ (by omega) hct
      · rw [if_neg h2] at hct
        rw [if_pos h2]
        by_cases h3 : kd = 1
        · rw [if_pos h3] at hct
          rw [if_neg (fun q => q h3)]
          by_cases h5 : u ≤ s
          · simp (disch := omega) only [h5, if_true, k_sub]
            rw [l207_1]
            exact st _ _ _ _ _ _ (by omega) hct
          · rw [if_neg h5, l207_1]
            rw [show s - u = 0 by omega] at hct
            exact st _ _ _ _ _ _ (by omega) hct
        · rw [if_neg h3] at hct
          rw [if_pos h3]
          exact st _ _ true _ _ _ (by omega) hct
theorem q_207 {row : Nat → Nat} {L free s : Nat} (hg : 100 ≤ g) (hV : shV w T W C Sa) (hS : S.2.1 20 = w) (h24 : S.1 24 = nI L) (hL : L ≤ 5) (hrow : ∀ i, i < L → S.2.1 23 i = nI (row i) ∧ row i < C) (hf : free ≤ 20000) (hs : s ≤ 2000000) : d_207 g (nI s) (nI free) S = some (nI (coN w row L s free), rF S 25 (nI (caN w free (ctN w row L 0 s false)))) := by
  unfold d_207
  exact q_l207 hV hS h24 hL hrow hf L 0 g s false (by omega) (by omega) hs
theorem l94_1 {n a3 a6 : Nat} {x1 x2 x4 x5 x7 x8 x9 x10 s0 : Int32} : l_94 g (n + 1) 1 a3 x1 x2 x4 x5 a6 x7 x8 x9 x10 s0 m = l_94 g n 0 a3 x1 x2 x4 x5 a6 x7 x8 (x9 + 1) 0 0 m := rfl
theorem l94_2 {n a3 a6 : Nat} {x1 x2 x4 x5 x7 x8 x9 x10 s0 : Int32} : l_94 g (n + 1) 2 a3 x1 x2 x4 x5 a6 x7 x8 x9 x10 s0 m = l_94 g n 3 a3 x1 x2 x4 x5 a6 x7 x8 x9 0 0 m := rfl
theorem l94_3 {n a3 a6 : Nat} {x1 x2 x4 x5 x7 x8 x9 x10 s0 : Int32} : l_94 g (n + 1) 3 a3 x1 x2 x4 x5 a6 x7 x8 x9 x10 s0 m = some (x7 + (cW m 32 4 s0).1 32 4, cW m 32 4 s0) := rfl
set_option maxHeartbeats 2000000 in
theorem p_l94 {row : Nat → Nat} {L free a3 a6 : Nat} {x1 x2 : Int32} (hV : shV w T W C Sa) (hO : cO m a6 5 = true) (hS : shR m.1 a6 w T W C Sa) (hL : L ≤ 5) (hA : ∀ i, i < L → cA m a3 (nI i) = true) (hrow : ∀ i, i < L → m.1 a3 i = nI (row i) ∧ row i < C) (hf : free ≤ 20000) : ∀ (j i n s : Nat) (b : Bool), i + j = L → 2 * j + 3 ≤ n → s ≤ 2000000 → l_94 g n 0 a3 x1 x2 (nI L) (nI free) a6 (nI s) (bI b) (nI i) 0 0 m = some (nI ((ctN w row j i s b).1 + caN w free (ctN w row j i s b)), cW m 32 4 (nI (caN w free (ctN w row j i s b)))) := by
  intro j
  have hC5 := hV.2.2.1.2
  have h4 := nI_nN hV.2.2.2.2.2.1 (by omega)
  induction j with
  | zero =>
    intro i n s b hi hn hs
    obtain ⟨n, rfl⟩ : ∃ n', n = n' + 3 := ⟨n - 3, by omega⟩
    have e : i = L := by omega
    subst e
    show _ = some (nI (s + caN w free (s, b)), cW m 32 4 (nI (caN w free (s, b))))
    rw [l_94]
    unfold caN
    simp (disch := omega) only [if_true, Int32.le_refl, lit_nI, k_le, bI_0, hO, hS.1.2.1]
    by_cases h1 : free ≤ s
    · rw [if_pos h1, if_neg (fun q => absurd q.1 (by omega)), l94_2, l94_3, cW_s, lit_nI, nI_add]
    · rw [if_neg h1]
      by_cases h2 : b = false
      · rw [if_neg (fun q => q h2), if_pos ⟨by omega, h2⟩, l94_3, cW_s, ← nI_add, h4.1]
      · rw [if_pos h2, if_neg (fun q => h2 q.2), l94_2, l94_3, cW_s, lit_nI, nI_add]
  | succ j ih =>
    intro i n s b hi hn hs
    obtain ⟨n, rfl⟩ : ∃ n', n = n' + 3 := ⟨n - 3, by omega⟩
    obtain ⟨hr1, hr2⟩ := hrow i (by omega)
    obtain ⟨kd, u, f, c1, c2, c3, c4, c5, c6, c7, c8, c9, c10⟩ := cd_of hV hr2
    obtain ⟨y9, y10, y11, -⟩ := hS.2.2.2.2 (row i) hr2
    rw [c5, nI_add] at y9
    rw [c6] at y10
    rw [c7] at y11
    have st : ∀ (n' s' : Nat) (b' : Bool) (y6 z : Int32), 2 * j + 4 ≤ n' → ctS w (row i) s b = (s', b') → l_94 g n' 1 a3 x1 x2 (nI L) (nI free) a6 (nI s') (bI b') (nI i) y6 z m = some (nI ((ctN w row (j + 1) i s b).1 + caN w free (ctN w row (j + 1) i s b)), cW m 32 4 (nI (caN w free (ctN w row (j + 1) i s b)))) := by
      intro n' s' b' y6 z hn' hc
      obtain ⟨n', rfl⟩ : ∃ q, n' = q + 1 := ⟨n' - 1, by omega⟩
      have hle := ctS_le w (row i) s b
      rw [hc] at hle
      rw [l94_1, nI_1, ih (i + 1) n' s' b' (by omega) (by omega) (by have : s' ≤ s := hle; omega)]
      have hrec : ctN w row (j + 1) i s b = ctN w row j (i + 1) s' b' := by
        show ctN w row j (i + 1) (ctS w (row i) s b).1 (ctS w (row i) s b).2 = _
        rw [hc]
      rw [hrec]
    have hct : ctS w (row i) s b = if s < f then (s, b) else if kd = 0 then (s - s * u / 100, b) else if kd = 1 then (s - u, b) else (s, true) := by
      unfold ctS
      rw [c8, c9, c10]
    have hAi := hA i (by omega)
    rw [l_94]
    simp (disch := omega) only [if_true, k_leF, if_false, hAi, hO, k_in, k_cl, hr1, y9, y10, y11, lit_nI, k_lt, k_eq]
    by_cases h1 : s < f
    · rw [if_pos h1] at hct
      rw [if_pos h1]
      exact st _ _ _ _ _ (by omega) hct
    · rw [if_neg h1] at hct
      rw [if_neg h1]
      by_cases h2 : kd = 0
      · rw [if_pos h2] at hct
        have hu := c3 h2
        have hm : s * u ≤ 2000000 * 90 := Nat.mul_le_mul hs hu
        have hd : s * u / 100 ≤ s := by
          have : s * u ≤ s * 100 := Nat.mul_le_mul_left _ (by omega)
          omega
        rw [if_pos (by omega)]
        simp (disch := omega) only [pk_mul, pk_div, k_sub]
        exact st _ _ _ _ _ (by omega) hct
      · rw [if_neg h2] at hct
        rw [if_neg (by omega)]
        by_cases h3 : kd = 1
        · rw [if_pos h3] at hct
          rw [if_pos (by omega)]
          by_cases h5 : u < s
          · simp (disch := omega) only [k_sub, k_ltT, if_true]
            exact st _ _ _ _ _ (by omega) hct
          · have e0 : (if nI 0 < nI s - nI u then nI s - nI u else nI 0) = nI (s - u) := by
              by_cases h6 : s = u
              · subst h6
                rw [k_sub (Nat.le_refl _), Nat.sub_self, ite_self]
              · rw [if_neg, show s - u = 0 by omega]
                intro q
                have := pk_sneg (a := s) (b := u) (by omega) (by omega)
                exact absurd this (Int32.not_lt.mpr (Int32.le_of_lt q))
            rw [e0]
            exact st _ _ _ _ _ (by omega) hct
        · rw [if_neg h3] at hct
          rw [if_neg (by omega)]
          exact st _ _ true _ _ (by omega) hct
/-- reckon -/
theorem p_94 {row : Nat → Nat} {L free s z a3 : Nat} (hg : 100 ≤ g) (hV : shV w T W C Sa) (hO : cO m (m.2.2.1 5) 5 = true) (hp : spO (m.2.2.1 5)) (hS : shR m.1 (m.2.2.1 5) w T W C Sa) (hL : L ≤ 5) (h32 : a3 ≠ 32) (hA : ∀ i, i < L → cA m a3 (nI i) = true) (hrow : ∀ i, i < L → m.1 a3 i = nI (row i) ∧ row i < C) (hf : free ≤ 20000) (hs : s ≤ 2000000) (hz : z < 2147483648) : ∃ m', d_94 g (nI z) (nI s) a3 (nI L) (nI free) m = some (nI (if z = 0 then 0 else coN w row L s free), m') ∧ ms m m' ∧ (∀ b, b ≠ 32 → m'.1 b = m.1 b) ∧ m'.1 32 4 = nI (if z = 0 then 0 else caN w free (ctN w row L 0 s false)) := by
  unfold d_94
  rw [Option.bind_some]
  by_cases h0 : z = 0
  · subst h0
    rw [if_neg (show ¬ (1 : Int32) ≤ nI 0 by decide), if_pos rfl, if_pos rfl]
    exact ⟨_, rfl, ms.C, fun b hb => cW_b hb, cW_s⟩
  · have hO' : cO (cW m 32 4 0) ((cW m 32 4 0).2.2.1 5) 5 = true := hO
    rw [if_neg h0, if_neg h0, if_pos (show (1 : Int32) ≤ nI z from nI_le (a := 1) (by omega) hz), if_pos hO']
    have hp' := hp
    unfold spO at hp'
    have e := p_l94 (g := g) (m := cW m 32 4 0) (x1 := nI z) (x2 := nI s) (row := row) (a3 := a3) (a6 := (cW m 32 4 0).2.2.1 5) (L := L) (free := free) hV hO' (hS.congr (fun i hi => cW_b (show m.2.2.1 5 + i ≠ 32 by omega))) hL hA (fun i hi => by rw [cW_b h32]; exact hrow i hi) hf L 0 g s false (by omega) (by omega) hs
    refine ⟨_, e, ms.C.tr ms.C, fun b hb => (cW_b hb).trans (cW_b hb), cW_s⟩
end CO
