/-! fill -/
theorem flo_0 {f : Nat → (Nat → Nat) → bO → bO} : ∀ {j L : Nat} {b : bO}, 1 ≤ L → flo 0 f j L b = b
  | 0, _, _, _ => rfl
  | j + 1, L, b, h => by
    show flo 0 f j (L + 1) (fin1 0 f L b) = b
    unfold fin1
    rw [if_neg (by omega)]
    exact flo_0 (by omega)
theorem rit_s {T L : Nat} {f : (Nat → Nat) → bO → bO} (hf : ∀ r p, ∃ p', f r (some p) = some p') : ∀ {K : Nat} {r : Nat → Nat} {p : Int32 × Nat × (Nat → Int32)}, ∃ p', rit T L f K r (some p) = some p'
  | 0, _, p => ⟨p, rfl⟩
  | K + 1, r, p => by
    obtain ⟨p1, h1⟩ := hf r p
    show ∃ p', (match nxp r T L with
      | none => f r (some p)
      | some i => rit T L f K (nxr r i) (f r (some p))) = some p'
    rw [h1]
    cases nxp r T L with
    | none => exact ⟨p1, rfl⟩
    | some i => exact rit_s hf
theorem flo_s {T : Nat} {f : Nat → (Nat → Nat) → bO → bO} (hf : ∀ L r p, ∃ p', f L r (some p) = some p') : ∀ {j L : Nat} {p : Int32 × Nat × (Nat → Int32)}, ∃ p', flo T f j L (some p) = some p'
  | 0, _, p => ⟨p, rfl⟩
  | j + 1, L, p => by
    show ∃ p', flo T f j (L + 1) (fin1 T f L (some p)) = some p'
    obtain ⟨p1, h1⟩ : ∃ p', fin1 T f L (some p) = some p' := by
      unfold fin1
      by_cases h : L = 0 ∨ 0 < T
      · rw [if_pos h]; exact rit_s (hf L)
      · rw [if_neg h]; exact ⟨p, rfl⟩
    rw [h1]
    exact flo_s hf
theorem fF_s {B : rB} {w : Nat → Int32} {q T D Lc free L : Nat} {r : Nat → Nat} {p : Int32 × Nat × (Nat → Int32)} : ∃ p', fF B w q T D Lc free L r (some p) = some p' := by
  unfold fF
  by_cases h : cfB w r T L = true
  · rw [if_pos h]; exact off_some _ _ _ _
  · rw [if_neg h]; exact ⟨p, rfl⟩
/-- something can always be offered -/
theorem fF_n {B : rB} {w : Nat → Int32} {q T C k D Lc free : Nat} (hst : stV w T C k) : ∃ p, flo T (fF B w q T D Lc free) 4 0 none = some p := by
  have h12 : bM w T ≤ 12 := hst.2.2.2.2.2.2
  have h0 : cfB w (fun _ => 0) T 0 = true := by
    show (true && decide (bM w T + 0 ≤ 12)) = true
    rw [Bool.true_and, decide_eq_true (show bM w T + 0 ≤ 12 by omega)]
  have h1 : ∃ p, fin1 T (fF B w q T D Lc free) 0 none = some p := by
    unfold fin1
    rw [if_pos (Or.inl rfl)]
    show ∃ p, fF B w q T D Lc free 0 (fun _ => 0) none = some p
    unfold fF
    rw [if_pos h0]
    exact off_some _ _ _ _
  obtain ⟨p, hp⟩ := h1
  show ∃ p, flo T (fF B w q T D Lc free) 3 1 (fin1 T (fF B w q T D Lc free) 0 none) = some p
  rw [hp]
  exact flo_s (fun L r p => fF_s)
section FS
variable {g k : Nat} {m : cM} {S : rS} {B : rB} {w : Nat → Int32} {q T W C Sa R : Nat} {x : Int32}
theorem q_l238z {L : Nat} {x1 : Int32} (hL : L ≤ 4) : ∀ (j i n : Nat) (S : rS), i + j = L → j + 1 ≤ n → (∀ d, d < i → S.2.1 31 d = 0) → ∃ S', l_238 g n 1 x1 (nI L) (nI i) S = l_238 g (n - (j + 1)) 2 x1 (nI L) 1 S' ∧ (∀ d, d < L → S'.2.1 31 d = 0) ∧ rc [] [31] S S' := by
  intro j
  induction j with
  | zero =>
    intro i n S hi hn h
    obtain ⟨n, rfl⟩ : ∃ n', n = n' + 1 := ⟨n - 1, by omega⟩
    have e : i = L := by omega
    subst e
    refine ⟨S, ?_, h, rc.rf _⟩
    rw [l_238, if_neg (by decide), if_pos rfl, if_pos (Int32.le_refl _)]
    rfl
  | succ j ih =>
    intro i n S hi hn h
    obtain ⟨n, rfl⟩ : ∃ n', n = n' + 1 := ⟨n - 1, by omega⟩
    obtain ⟨S', y1, y2, y3⟩ := ih (i + 1) n (rA S 31 (upd (S.2.1 31) i 0)) (by omega) (by omega) (by
      intro d hd
      rw [rA_s]
      by_cases e : d = i
      · subst e; exact upd_s
      · rw [upd_n e]; exact h d (by omega))
    refine ⟨S', ?_, y2, (rc.A (by decide)).tr y3⟩
    rw [show n + 1 - (j + 1 + 1) = n - (j + 1) by omega, ← y1, l_238, if_neg (by decide), if_pos rfl, if_neg (nI_ge (by omega) (by omega)), if_pos (k_in (by omega) (by omega)), k_cl (by omega), show nI i + 1 = nI (i + 1) from nI_1 i]
theorem l238_z {n : Nat} {f x2 : Int32} : l_238 g (n + 1) 2 f x2 0 S = l_238 g n 0 f (x2 + 1) 0 S := by
  rw [l_238, if_neg (by decide), if_neg (by decide), if_pos rfl, if_pos rfl]
theorem q_l238b {L D free : Nat} (hg : 2000 ≤ g) (hV : shV w T W C Sa) (hst : stV w T C k) (hR : rbR m.1 B R) (hq : q ≤ R) (hD : w 7 = nI D) (hL : L ≤ 3) (hT : 1 ≤ T) (hf : free ≤ 20000) : ∀ (K n : Nat) (S : rS) (r : Nat → Nat) (b : bO), 9 ^ L ≤ K + vl r L → K + 2 ≤ n → rx S B w q x R → srt r T L → (∀ i, i < L → S.2.1 31 i = nI (r i)) → rst S b → ∃ n' S', n ≤ n' + (K + 1) ∧ l_238 g n 2 (nI free) (nI L) 1 S = l_238 g n' 0 (nI free) (nI (L + 1)) 0 S' ∧ rc [18, 24, 25, 29, 30] [23, 28, 31] S S' ∧ rst S' (rit T L (fF B w q T D (nN (w 9)) free L) K r b) := by
  have h9 := p9 hL
  have hT8 := hV.1.2
  intro K
  induction K with
  | zero =>
    intro n S r b hK hn hx hs h31 hb
    have := vl_b (r := r) (n := L) (fun j hj => by have := hs.1 j hj; omega)
    omega
  | succ K ih =>
    intro n S r b hK hn hx hs h31 hb
    obtain ⟨n, rfl⟩ : ∃ n', n = n' + 1 := ⟨n - 1, by omega⟩
    obtain ⟨S1, y1, y2, y3⟩ := q_236 (g := g) (S := S) (m := m) (r := r) (L := L) (D := D) (free := free) hg hx hV hst hR hq hD hL hf (fun d hd => ⟨h31 d hd, hs.1 d hd⟩) hb
    have hx1 : rx S1 B w q x R := hx.rs (y3.mo (by decide) (by decide))
    have e31 : S1.2.1 31 = S.2.1 31 := y3.2 31 (by decide)
    obtain ⟨S2, u1, u2, u3, u4⟩ := q_237 (g := g) (S := S1) (T := T) (r := r) (L := L) (by omega) (by omega) (by rw [hx1.1]; exact hV.1.1) hT hT8 (fun d hd => ⟨by rw [e31]; exact h31 d hd, hs.1 d hd⟩)
    have hx2 : rx S2 B w q x R := hx1.rs (u2.mo (by decide) (by decide))
    have hrc2 : rc [18, 24, 25, 29, 30] [23, 28, 31] S S2 := (y3.mo (by decide) (by decide)).tr (u2.mo (by decide) (by decide))
    have b2 : rst S2 (fF B w q T D (nN (w 9)) free L r b) := y2.co (u2.1 29 (by simp)) (u2.1 30 (by simp)) (u2.2 28 (by decide))
    have e2 : l_238 g (n + 1) 2 (nI free) (nI L) 1 S = l_238 g n 2 (nI free) (nI L) (match nxp r T L with
        | none => 0
        | some _ => 1) S2 := by
      rw [l_238, if_neg (by decide), if_neg (by decide), if_pos rfl, if_neg (show ¬ (1 : Int32) = 0 by decide), y1, Option.bind_some, u1, Option.bind_some]
      cases nxp r T L <;> rfl
    have er : rit T L (fF B w q T D (nN (w 9)) free L) (K + 1) r b = match nxp r T L with
      | none => fF B w q T D (nN (w 9)) free L r b
      | some p => rit T L (fF B w q T D (nN (w 9)) free L) K (nxr r p) (fF B w q T D (nN (w 9)) free L r b) := rfl
    rw [e2, er]
    cases hp : nxp r T L with
    | none =>
      obtain ⟨n, rfl⟩ : ∃ n', n = n' + 1 := ⟨n - 1, by omega⟩
      refine ⟨n, S2, by omega, ?_, hrc2, b2⟩
      show l_238 g (n + 1) 2 (nI free) (nI L) 0 S2 = _
      rw [l238_z, show nI L + 1 = nI (L + 1) from nI_1 L]
    | some p =>
      rw [hp] at u3
      obtain ⟨p1, p2⟩ := nxp_lt hp
      have hv := vl_n (r := r) (p := p) (n := L) p1 (fun j hj => by have := hs.1 j hj; omega)
      obtain ⟨n', S', z1, z2, z3, z4⟩ := ih n S2 (nxr r p) (fF B w q T D (nN (w 9)) free L r b) (by omega) (by omega) hx2 (hs.n hp) u3 b2
      exact ⟨n', S', by omega, z2, hrc2.tr z3, z4⟩
theorem q_l238 {D free : Nat} (hg : 2000 ≤ g) (hV : shV w T W C Sa) (hst : stV w T C k) (hR : rbR m.1 B R) (hq : q ≤ R) (hD : w 7 = nI D) (hf : free ≤ 20000) : ∀ (j L n : Nat) (S : rS) (b : bO), L + j = 4 → 1 ≤ L → j * 740 + 1 ≤ n → rx S B w q x R → rst S b → ∃ S', l_238 g n 0 (nI free) (nI L) 0 S = some S' ∧ rc [18, 24, 25, 29, 30] [23, 28, 31] S S' ∧ rst S' (flo T (fF B w q T D (nN (w 9)) free) j L b) := by
  have hT8 := hV.1.2
  intro j
  induction j with
  | zero =>
    intro L n S b hj hL hn hx hb
    obtain ⟨n, rfl⟩ : ∃ n', n = n' + 1 := ⟨n - 1, by omega⟩
    refine ⟨S, ?_, rc.rf _, hb⟩
    rw [l_238, if_pos rfl, if_pos (show (3 : Int32) < nI L from nI_lt (a := 3) (by omega) (by omega))]
  | succ j ih =>
    intro L n S b hj hL hn hx hb
    obtain ⟨n, rfl⟩ : ∃ n', n = n' + 1 := ⟨n - 1, by omega⟩
    rw [show (j + 1) * 740 = j * 740 + 740 from Nat.succ_mul _ _] at hn
    obtain ⟨J, hJ⟩ : ∃ J, J = j * 740 := ⟨_, rfl⟩
    rw [← hJ] at hn
    have h9 := p9 (L := L) (by omega)
    have e1 : S.2.1 20 1 = nI T := by rw [hx.1]; exact hV.1.1
    by_cases hT : 1 ≤ T
    · obtain ⟨S1, y1, y2, y3⟩ := q_l238z (g := g) (L := L) (x1 := nI free) (by omega) L 0 n S (by omega) (by omega) (fun d hd => absurd hd (by omega))
      have hx1 : rx S1 B w q x R := hx.rs (y3.mo (by decide) (by decide))
      obtain ⟨n', S2, z1, z2, z3, z4⟩ := q_l238b (g := g) (m := m) (B := B) (q := q) (x := x) (R := R) (L := L) (D := D) (free := free) hg hV hst hR hq hD (by omega) hT hf (9 ^ L) (n - (L + 1)) S1 (fun _ => 0) b (by omega) (by omega) hx1 ⟨fun i _ => hT, fun i _ => Nat.le_refl _⟩ y2 (hb.co (y3.1 29 (by simp)) (y3.1 30 (by simp)) (y3.2 28 (by decide)))
      have hx2 : rx S2 B w q x R := hx1.rs (z3.mo (by decide) (by decide))
      have q1 : J + 1 ≤ n' := by omega
      obtain ⟨S', u1, u2, u3⟩ := ih (L + 1) n' S2 (rit T L (fF B w q T D (nN (w 9)) free L) (9 ^ L) (fun _ => 0) b) (by omega) (by omega) (by rw [← hJ]; exact q1) hx2 z4
      refine ⟨S', ?_, ((y3.mo (by decide) (by decide)).tr z3).tr u2, ?_⟩
      · rw [← u1, ← z2, ← y1, l_238, if_pos rfl, if_neg (show ¬ (3 : Int32) < nI L from nI_nlt (a := 3) (by omega) (by omega)), if_pos (show aIn (1 : Int32) 181 = true by decide), show (1 : Int32).toNatClampNeg = 1 from rfl, e1, if_neg (show ¬ nI T ≤ (0 : Int32) from nI_ge (a := 0) (by omega) (by omega))]
        rfl
      · show rst S' (flo T _ j (L + 1) (fin1 T _ L b))
        unfold fin1
        rw [if_pos (Or.inr (by omega))]
        exact u3
    · have e : T = 0 := by omega
      subst e
      refine ⟨S, ?_, rc.rf _, by rw [flo_0 hL]; exact hb⟩
      rw [l_238, if_pos rfl, if_neg (show ¬ (3 : Int32) < nI L from nI_nlt (a := 3) (by omega) (by omega)), if_pos (show aIn (1 : Int32) 181 = true by decide), show (1 : Int32).toNatClampNeg = 1 from rfl, e1, if_pos (show nI 0 ≤ (0 : Int32) from Int32.le_refl _)]
/-- seeksFill -/
theorem q_238 {D free : Nat} (hg : 10000 ≤ g) (hx : rx S B w q x R) (hV : shV w T W C Sa) (hst : stV w T C k) (hR : rbR m.1 B R) (hq : q ≤ R) (hD : w 7 = nI D) (hf : free ≤ 20000) : ∃ S', d_238 g (nI free) S = some S' ∧ rc [18, 24, 25, 29, 30] [23, 28, 31] S S' ∧ rst S' (flo T (fF B w q T D (nN (w 9)) free) 4 0 none) := by
  have hx0 : rx (rF S 29 (-1)) B w q x R := hx.rs (rc.F (by decide))
  obtain ⟨S1, y1, y2, y3⟩ := q_236 (g := g) (S := rF S 29 (-1)) (m := m) (r := fun _ => 0) (L := 0) (D := D) (free := free) (b := none) (by omega) hx0 hV hst hR hq hD (by omega) hf (fun d hd => absurd hd (by omega)) rF_s
  have hx1 : rx S1 B w q x R := hx0.rs (y3.mo (by decide) (by decide))
  obtain ⟨S', z1, z2, z3⟩ := q_l238 (g := g) (m := m) (B := B) (q := q) (x := x) (R := R) (D := D) (free := free) (by omega) hV hst hR hq hD hf 3 1 g S1 _ (by omega) (by omega) (by omega) hx1 y2
  refine ⟨S', ?_, ((rc.F (by decide)).tr (y3.mo (by decide) (by decide))).tr z2, z3⟩
  unfold d_238
  rw [show d_236 g 0 (nI free) (rF S 29 (-1)) = some S1 from y1, Option.bind_some]
  exact z1
theorem sp_fill (hg : 10000 ≤ g) (h : Inv k m S) (a : Int32) : St k (d_122 g a m) (d_239 g a S) := by
  obtain ⟨-, -, w, q, x, T, W, C, Sa, R, hc, hr, hpa, him⟩ := id h
  have hV := hc.2.1
  have hst := hc.2.2.1
  have hC5 := hV.2.2.1.2
  obtain ⟨D, hDk, hD⟩ := hst.1
  obtain ⟨fr, hf1, hf2⟩ := hV.2.2.2.2.2.2.1
  unfold d_122 d_239
  rw [if_pos hc.cy.1]
  rcases is_op (g := g) hc hr with ⟨e1, e2, -⟩ | ⟨e1, e2⟩
  · rw [if_pos e1, e2]
    exact St.no h rfl rfl
  rw [if_neg e1, e2]
  simp only [Option.bind_some, z10, if_false]
  rw [q_140 (a := 0) (b := 3) (a' := 0) (b' := 3) (by decide) (by decide), Option.bind_some]
  by_cases ha : (0 : Int32) ≤ a ∧ a ≤ 3
  case neg =>
    rw [if_neg ha]
    simp only [z00, not_true, if_false]
    refine St.no h (v := -1000000) ?_ rfl
    by_cases h3 : a < 0
    · rw [if_pos h3]
    · rw [if_neg h3, if_neg (fun q => ha ⟨Int32.not_lt.mp h3, q⟩)]
  case pos =>
    obtain ⟨j, -, hj, rfl⟩ := rng (a := 0) (b := 3) (by omega) (by omega) ha
    -- the class
    obtain ⟨m1, z1, z2, z3, z4, z5, z6⟩ := p_12 (g := g) (d := D) (by omega) hc
    have hc1 := hc.ms z2
    obtain ⟨m2, u1, u2, u3, u4⟩ := p_15 (g := g) (D := D) (free := fr) hg (by omega) hc1 z3 z4 z5
    have e13 : m.1 19 13 = nI D := hc.1.2.1.1.2.2.2.2.trans hD
    have e5 : m1.1 (m1.2.2.1 5) 2 = nI fr := hc1.cy.2.2.1.1.2.2.1.trans hf2
    -- the reference
    obtain ⟨S2, v1, v2, v3⟩ := q_238 (g := g) (m := m) (D := D) (free := fr) hg hr hV hst hc.2.2.2.2.2.2 hc.2.2.2.2.1 hD (by omega)
    have f5 : S.2.1 20 5 = nI fr := by rw [hr.1]; exact hf2
    obtain ⟨p, hp⟩ := fF_n (B := bS3 S) (q := q) (D := D) (Lc := nN (w 9)) (free := fr) hst
    rw [hp] at u4 v3
    obtain ⟨vv, LL, rr⟩ := p
    have p4 := p_4 (g := g) (j := j) u4 (by omega)
    obtain ⟨w1, w2, w3, w4⟩ := v3
    have w1 : S2.1 29 = nI LL := w1
    have w3 : LL ≤ 8 := w3
    rw [if_pos ha, if_neg (show ¬ nI j < 0 from nI_pos (by omega)), if_pos (show nI j ≤ 3 from nI_le (b := 3) hj (by omega)), e13, z1, Option.bind_some, if_pos hc1.cy.1, e5, u1, Option.bind_some, p4, Option.bind_some, if_pos (show ¬ (1 : Int32) = 0 by decide), if_pos (show aIn (5 : Int32) 181 = true by decide), show (5 : Int32).toNatClampNeg = 5 from rfl]
    dsimp only
    rw [f5, v1, Option.bind_some]
    refine St.scr h (v := if j = 0 then vv else if LL < j then -2 else rr (j - 1)) (m' := m2) (S' := S2) rfl ?_ (z2.tr u2) (v2.mo (by decide) (by decide))
    by_cases h0 : j = 0
    · subst h0
      rw [if_neg (fun z => z rfl), if_pos rfl, w2]
    · rw [if_neg h0, if_pos (show ¬ nI j = 0 from nI_ne0 (by omega) (by omega)), w1]
      by_cases h1 : LL < j
      · rw [if_pos h1, if_pos (nI_lt h1 (by omega))]
      · rw [if_neg h1, if_neg (nI_nlt (by omega) (by omega))]
        have e : S2.2.1 28 (j - 1) = rr (j - 1) := w4 (j - 1) (show j - 1 < LL by omega)
        simp (disch := omega) only [lit_nI, k_sub, k_in, k_cl, if_true, e]
end FS
