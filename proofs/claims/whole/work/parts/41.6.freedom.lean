/-! freedom -/
def gbO (T : Nat) (b : bO) : Prop := ∀ v L ρ, b = some (v, L, ρ) → L ≤ 3 ∧ ∃ r : Nat → Nat, ρ = (fun i => nI (r i)) ∧ ∀ i, i < L → r i < T
theorem gbO.off {T L : Nat} {b : bO} {v : Int32} {r : Nat → Nat} (h : gbO T b) (hL : L ≤ 3) (hr : ∀ i, i < L → r i < T) : gbO T (off b v L (fun i => nI (r i))) := by
  intro v' L' ρ' e
  match b, h with
  | none, h =>
    have e : some (v, L, fun i => nI (r i)) = some (v', L', ρ') := e
    cases e
    exact ⟨hL, r, rfl, hr⟩
  | some p, h =>
    have e : (if v < p.1 then some (v, L, fun i => nI (r i)) else some p) = some (v', L', ρ') := e
    by_cases hv : v < p.1
    · rw [if_pos hv] at e
      cases e
      exact ⟨hL, r, rfl, hr⟩
    · rw [if_neg hv] at e
      exact h _ _ _ e
theorem rit_g {T L : Nat} {f : (Nat → Nat) → bO → bO} (hf : ∀ r b, srt r T L → gbO T b → gbO T (f r b)) : ∀ {K : Nat} {r : Nat → Nat} {b : bO}, srt r T L → gbO T b → gbO T (rit T L f K r b)
  | 0, _, _, _, h => h
  | K + 1, r, b, hs, h => by
    show gbO T (match nxp r T L with
      | none => f r b
      | some p => rit T L f K (nxr r p) (f r b))
    cases hp : nxp r T L with
    | none => exact hf r b hs h
    | some p => exact rit_g hf (hs.n hp) (hf r b hs h)
theorem flo_g {T : Nat} {f : Nat → (Nat → Nat) → bO → bO} (hf : ∀ L r b, L ≤ 3 → srt r T L → gbO T b → gbO T (f L r b)) : ∀ {j L : Nat} {b : bO}, L + j ≤ 4 → gbO T b → gbO T (flo T f j L b)
  | 0, _, _, _, h => h
  | j + 1, L, b, hL, h => by
    show gbO T (flo T f j (L + 1) (fin1 T f L b))
    refine flo_g hf (by omega) ?_
    unfold fin1
    by_cases hc : L = 0 ∨ 0 < T
    · rw [if_pos hc]
      refine rit_g (fun r b hs hb => hf L r b (by omega) hs hb) ⟨fun i hi => ?_, fun i _ => Nat.le_refl _⟩ h
      show 0 < T
      rcases hc with hc | hc <;> omega
    · rw [if_neg hc]; exact h
/-- the best fill has a row of things -/
theorem fF_g {B : rB} {w : Nat → Int32} {q T C k D Lc free : Nat} (hst : stV w T C k) : ∃ v L, ∃ r : Nat → Nat, flo T (fF B w q T D Lc free) 4 0 none = some (v, L, fun i => nI (r i)) ∧ L ≤ 3 ∧ ∀ i, i < L → r i < T := by
  obtain ⟨⟨v, L, ρ⟩, hp⟩ := fF_n (B := B) (q := q) (D := D) (Lc := Lc) (free := free) hst
  have hg : gbO T (flo T (fF B w q T D Lc free) 4 0 none) := flo_g (fun L r b hL hs hb => by
    unfold fF
    by_cases hc : cfB w r T L = true
    · rw [if_pos hc]; exact hb.off hL hs.1
    · rw [if_neg hc]; exact hb) (by omega) (fun v L ρ e => by cases e)
  obtain ⟨h1, r, h2, h3⟩ := hg v L ρ hp
  exact ⟨v, L, r, by rw [hp, h2], h1, h3⟩
/-- the freedom that is best so far, and what it gains -/
def frS (G : Nat → Int32) : Nat → Int32 × Int32
  | 0 => (-1, 0)
  | i + 1 => if (frS G i).1 < 0 then (nI (500 * i), G i) else if (frS G i).2 < G i then (nI (500 * i), G i) else frS G i
def frG (B : rB) (w : Nat → Int32) (q T D : Nat) (G : Nat → Int32) : Prop := ∀ i, i < 20 → ∃ v L, ∃ r : Nat → Nat, flo T (fF B w q T D (nN (w 9)) (500 * i)) 4 0 none = some (v, L, fun d => nI (r d)) ∧ L ≤ 3 ∧ (∀ d, d < L → r d < T) ∧ G i = v + nI (sN (fun d => woN w (r d)) L) - nI (sN (fun d => woN w (r d)) L) / 2
section FD
variable {g k : Nat} {m : cM} {S : rS} {B : rB} {w : Nat → Int32} {q T W C Sa R : Nat} {x : Int32}
theorem p_l22 {D : Nat} {G : Nat → Int32} (hg : 10000 ≤ g) (hG : frG B w q T D G) : ∀ (j i n : Nat) (m : cM), i + j = 20 → 3 * j + 1 ≤ n → cx m B w q x T W C Sa R k → m.1 71 11 = nI (bS B w q T D) → m.1 71 12 = nI (bM w T) → (∀ t, t < T → m.1 75 t = nI (dO B w q t D)) → m.1 71 13 = (frS G i).1 → (i = 0 ∨ m.1 71 14 = (frS G i).2) → ∃ m', l_22 g n 0 (nI (500 * i)) 0 0 m = some m' ∧ ms m m' ∧ m'.1 71 13 = (frS G 20).1 ∧ m'.1 71 14 = (frS G 20).2 := by
  intro j
  induction j with
  | zero =>
    intro i n m hj hn h h11 h12 h75 h13 h14
    obtain ⟨n, rfl⟩ : ∃ n', n = n' + 1 := ⟨n - 1, by omega⟩
    have e : i = 20 := by omega
    subst e
    refine ⟨m, ?_, ms.rf _, h13, h14.resolve_left (by decide)⟩
    rw [l_22, if_pos rfl, if_pos (show (9500 : Int32) < nI (500 * 20) by decide)]
  | succ j ih =>
    intro i n m hj hn h h11 h12 h75 h13 h14
    obtain ⟨n, rfl⟩ : ∃ n', n = n' + 3 := ⟨n - 3, by omega⟩
    obtain ⟨v, L, r, g1, g2, g3, g4⟩ := hG i (by omega)
    obtain ⟨m1, y1, y2, y3, y4⟩ := p_15 (g := g) (D := D) (free := 500 * i) hg (by omega) h h11 h12 h75
    rw [g1] at y4
    obtain ⟨b0, b1, b2, b3, b4⟩ := y4
    have b1 : m1.1 72 1 = v := b1
    have b2 : m1.1 72 2 = nI L := b2
    have b4 : ∀ i, i < L → m1.1 73 i = nI (r i) := b4
    have h1 := h.ms y2
    have p21 := p_l21 (g := g) (r := r) (L := L) (a1 := 73) h1 (by omega) (fun i hi => cA_of (by omega) kk_73 (by omega) (by omega)) (fun i hi => ⟨b4 i hi, g3 i hi⟩) L 0 g (by omega) (by omega)
    have p21 : d_21 g 73 (nI L) m1 = some (nI (sN (fun i => woN w (r i)) L)) := p21
    obtain ⟨Z, hZ⟩ : ∃ Z, Z = nI (sN (fun i => woN w (r i)) L) := ⟨_, rfl⟩
    rw [← hZ] at p21 g4
    have f71 := y3 71 (by decide) (by decide) (by decide) (by decide)
    have f75 := y3 75 (by decide) (by decide) (by decide) (by decide)
    have k11 : m1.1 71 11 = nI (bS B w q T D) := by rw [f71]; exact h11
    have k12 : m1.1 71 12 = nI (bM w T) := by rw [f71]; exact h12
    have k75 : ∀ t, t < T → m1.1 75 t = nI (dO B w q t D) := fun t ht => by rw [f75]; exact h75 t ht
    have k13 : m1.1 71 13 = (frS G i).1 := by rw [f71]; exact h13
    have k14 : i = 0 ∨ m1.1 71 14 = (frS G i).2 := by rw [f71]; exact h14
    have t2 : ∀ (n : Nat) (a b : Int32) (m' : cM), l_22 g (n + 1) 2 (nI (500 * i)) a b m' = l_22 g n 0 (nI (500 * (i + 1))) 0 0 m' := fun n a b m' => by
      rw [l_22, if_neg (by decide), if_neg (by decide), if_pos rfl, show nI (500 * i) + 500 = nI (500 * i + 500) from nI_add _ 500, show 500 * (i + 1) = 500 * i + 500 by omega]
    have es : frS G (i + 1) = if (frS G i).1 < 0 then (nI (500 * i), G i) else if (frS G i).2 < G i then (nI (500 * i), G i) else frS G i := rfl
    have take : frS G (i + 1) = (nI (500 * i), G i) → ∃ m', l_22 g (n + 2) 1 (nI (500 * i)) Z (G i) m1 = some m' ∧ ms m m' ∧ m'.1 71 13 = (frS G 20).1 ∧ m'.1 71 14 = (frS G 20).2 := by
      intro e
      obtain ⟨m2, hm2⟩ : ∃ m2, m2 = cW (cW m1 71 13 (nI (500 * i))) 71 14 (G i) := ⟨_, rfl⟩
      have hms2 : ms m1 m2 := by rw [hm2]; exact (ms.W (by omega)).tr (ms.W (by omega))
      obtain ⟨m', z1, z2, z3, z4⟩ := ih (i + 1) n m2 (by omega) (by omega) (h1.ms hms2) (by rw [hm2, cW_k (by decide), cW_k (by decide)]; exact k11) (by rw [hm2, cW_k (by decide), cW_k (by decide)]; exact k12) (fun t ht => by rw [hm2, cW_b (by decide), cW_b (by decide)]; exact k75 t ht) (by rw [hm2, cW_k (by decide), cW_s, e]) (Or.inr (by rw [hm2, cW_s, e]))
      refine ⟨m', ?_, (y2.tr hms2).tr z2, z3, z4⟩
      rw [l_22, if_neg (by decide), if_pos rfl, Option.bind_some, Option.bind_some, ← hm2, t2]
      exact z1
    have skip : frS G (i + 1) = frS G i → i ≠ 0 → ∃ m', l_22 g (n + 2) 2 (nI (500 * i)) Z (G i) m1 = some m' ∧ ms m m' ∧ m'.1 71 13 = (frS G 20).1 ∧ m'.1 71 14 = (frS G 20).2 := by
      intro e h0
      obtain ⟨m', z1, z2, z3, z4⟩ := ih (i + 1) (n + 1) m1 (by omega) (by omega) h1 k11 k12 k75 (by rw [e]; exact k13) (Or.inr (by rw [e]; exact k14.resolve_left h0))
      refine ⟨m', ?_, y2.tr z2, z3, z4⟩
      rw [t2]
      exact z1
    rw [l_22, if_pos rfl, if_neg (show ¬ (9500 : Int32) < nI (500 * i) from nI_nlt (a := 9500) (by omega) (by omega)), y1, Option.bind_some, b2, p21, Option.bind_some, b1, k13, ← g4]
    by_cases hlt : (frS G i).1 < 0
    · rw [if_pos hlt]
      exact take (by rw [es, if_pos hlt])
    · rw [if_neg hlt]
      have h0 : i ≠ 0 := fun e => hlt (by rw [e]; show (-1 : Int32) < 0; decide)
      rw [k14.resolve_left h0]
      by_cases hle : G i ≤ (frS G i).2
      · rw [if_pos hle]
        exact skip (by rw [es, if_neg hlt, if_neg (Int32.not_lt.mpr hle)]) h0
      · rw [if_neg hle]
        exact take (by rw [es, if_neg hlt, if_pos (Int32.not_le.mp hle)])
theorem q_l257b {r : Nat → Nat} {L : Nat} {x1 x2 x3 x4 : Int32} (hL : L ≤ 3) (h29 : S.1 29 = nI L) (hr : ∀ i, i < L → S.2.1 28 i = nI (r i) ∧ r i < 8 ∧ S.2.1 20 (81 + 2 * r i) = nI (woN w (r i))) : ∀ (j i n : Nat), i + j = L → j ≤ n → l_257 g n 1 x1 x2 x3 x4 (nI (sN (fun i => woN w (r i)) i)) (nI i) S = l_257 g (n - j) 1 x1 x2 x3 x4 (nI (sN (fun i => woN w (r i)) L)) (nI L) S := by
  intro j
  induction j with
  | zero =>
    intro i n hi hn
    have e : i = L := by omega
    subst e
    rfl
  | succ j ih =>
    intro i n hi hn
    obtain ⟨n, rfl⟩ : ∃ n', n = n' + 1 := ⟨n - 1, by omega⟩
    obtain ⟨r1, r2, r3⟩ := hr i (by omega)
    have q193 := q_193 (g := g) (S := S) (t := r i) r2
    rw [r3] at q193
    rw [show n + 1 - (j + 1) = n - j by omega, ← ih (i + 1) n (by omega) (by omega), l_257]
    simp (disch := omega) only [Nat.one_ne_zero, if_true, h29, k_leF, if_false, k_in, k_cl, r1, q193, Option.bind_some, nI_add, lit_nI]
    rfl
theorem q_l257 {D : Nat} {G : Nat → Int32} {x1 : Int32} (hg : 10000 ≤ g) (hV : shV w T W C Sa) (hst : stV w T C k) (hR : rbR m.1 B R) (hq : q ≤ R) (hD : w 7 = nI D) (hG : frG B w q T D G) : ∀ (j i n : Nat) (S : rS), i + j = 20 → 10 * j + 1 ≤ n → rx S B w q x R → ∃ S', l_257 g n 0 x1 (frS G i).1 (frS G i).2 (nI (500 * i)) 0 0 S = some (if ¬ x1 = 0 then (frS G 20).2 else (frS G 20).1, S') ∧ rs S S' := by
  have hT8 := hV.1.2
  intro j
  induction j with
  | zero =>
    intro i n S hj hn hx
    obtain ⟨n, rfl⟩ : ∃ n', n = n' + 1 := ⟨n - 1, by omega⟩
    have e : i = 20 := by omega
    subst e
    refine ⟨S, ?_, rc.rf _⟩
    rw [l_257, if_pos rfl, if_pos (show (9500 : Int32) < nI (500 * 20) by decide)]
    by_cases h1 : x1 = 0
    · rw [if_neg (fun z => z h1), if_neg (fun z => z h1)]
    · rw [if_pos h1, if_pos h1]
  | succ j ih =>
    intro i n S hj hn hx
    obtain ⟨n, rfl⟩ : ∃ n', n = n' + 10 := ⟨n - 10, by omega⟩
    obtain ⟨v, L, r, g1, g2, g3, g4⟩ := hG i (by omega)
    obtain ⟨S1, y1, y2, y3⟩ := q_238 (g := g) (S := S) (m := m) (D := D) (free := 500 * i) hg hx hV hst hR hq hD (by omega)
    rw [g1] at y3
    obtain ⟨w1, w2, w3, w4⟩ := y3
    have w1 : S1.1 29 = nI L := w1
    have w2 : S1.1 30 = v := w2
    have w4 : ∀ i, i < L → S1.2.1 28 i = nI (r i) := w4
    have hrs : rs S S1 := y2.mo (by decide) (by decide)
    have hx1 := hx.rs hrs
    have b := q_l257b (g := g) (S := S1) (w := w) (r := r) (L := L) (x1 := x1) (x2 := (frS G i).1) (x3 := (frS G i).2) (x4 := nI (500 * i)) g2 w1 (fun i hi => ⟨w4 i hi, by have := g3 i hi; omega, by
      rw [hx1.1]
      exact (nI_nN (hV.2.2.2.2.2.2.2.2.1 (r i) (g3 i hi)).2 (by omega)).1.symm⟩) L 0 (n + 9) (by omega) (by omega)
    obtain ⟨Z, hZ⟩ : ∃ Z, Z = nI (sN (fun i => woN w (r i)) L) := ⟨_, rfl⟩
    rw [← hZ] at b g4
    obtain ⟨n1, hn1⟩ : ∃ q, n + 9 - L = q + 3 := ⟨n + 6 - L, by omega⟩
    rw [hn1] at b
    have b : l_257 g (n + 9) 1 x1 (frS G i).1 (frS G i).2 (nI (500 * i)) 0 0 S1 = l_257 g (n1 + 3) 1 x1 (frS G i).1 (frS G i).2 (nI (500 * i)) Z (nI L) S1 := b
    have t3 : ∀ (n : Nat) (a b c d : Int32), l_257 g (n + 1) 3 x1 a b (nI (500 * i)) c d S1 = l_257 g n 0 x1 a b (nI (500 * (i + 1))) 0 0 S1 := fun n a b c d => by
      rw [l_257, if_neg (by decide), if_neg (by decide), if_neg (by decide), if_pos rfl, show nI (500 * i) + 500 = nI (500 * i + 500) from nI_add _ 500, show 500 * (i + 1) = 500 * i + 500 by omega]
    have es : frS G (i + 1) = if (frS G i).1 < 0 then (nI (500 * i), G i) else if (frS G i).2 < G i then (nI (500 * i), G i) else frS G i := rfl
    have take : frS G (i + 1) = (nI (500 * i), G i) → ∃ S', l_257 g (n1 + 2) 2 x1 (frS G i).1 (frS G i).2 (nI (500 * i)) Z (G i) S1 = some (if ¬ x1 = 0 then (frS G 20).2 else (frS G 20).1, S') ∧ rs S S' := by
      intro e
      obtain ⟨S', z1, z2⟩ := ih (i + 1) n1 S1 (by omega) (by omega) hx1
      refine ⟨S', ?_, hrs.tr z2⟩
      rw [e] at z1
      rw [l_257, if_neg (by decide), if_neg (by decide), if_pos rfl, t3]
      exact z1
    have skip : frS G (i + 1) = frS G i → ∃ S', l_257 g (n1 + 2) 3 x1 (frS G i).1 (frS G i).2 (nI (500 * i)) Z (G i) S1 = some (if ¬ x1 = 0 then (frS G 20).2 else (frS G 20).1, S') ∧ rs S S' := by
      intro e
      obtain ⟨S', z1, z2⟩ := ih (i + 1) (n1 + 1) S1 (by omega) (by omega) hx1
      refine ⟨S', ?_, hrs.tr z2⟩
      rw [e] at z1
      rw [t3]
      exact z1
    rw [l_257, if_pos rfl, if_neg (show ¬ (9500 : Int32) < nI (500 * i) from nI_nlt (a := 9500) (by omega) (by omega)), y1, Option.bind_some, b, l_257, if_neg (by decide), if_pos rfl, w1, if_pos (Int32.le_refl _), if_pos (show ¬ (2 : Int32) = 0 by decide), w2, ← g4]
    by_cases hlt : (frS G i).1 < 0
    · rw [if_pos hlt]
      exact take (by rw [es, if_pos hlt])
    · rw [if_neg hlt]
      by_cases hl2 : (frS G i).2 < G i
      · rw [if_pos hl2]
        exact take (by rw [es, if_neg hlt, if_pos hl2])
      · rw [if_neg hl2]
        exact skip (by rw [es, if_neg hlt, if_neg hl2])
theorem sp_freedom (hg : 10000 ≤ g) (h : Inv k m S) (a : Int32) : St k (d_127 g a m) (d_257 g a S) := by
  obtain ⟨-, -, w, q, x, T, W, C, Sa, R, hc, hr, hpa, him⟩ := id h
  have hV := hc.2.1
  have hst := hc.2.2.1
  obtain ⟨D, hDk, hD⟩ := hst.1
  unfold d_127 d_257
  rw [if_pos hc.cy.1]
  rcases is_op (g := g) hc hr with ⟨e1, e2, -⟩ | ⟨e1, e2⟩
  · rw [if_pos e1, e2]
    exact St.no h rfl rfl
  rw [if_neg e1, e2]
  simp only [Option.bind_some, z10, if_false]
  rw [q_140 (a := 0) (b := 1) (a' := 0) (b' := 1) (by decide) (by decide), Option.bind_some]
  by_cases ha : (0 : Int32) ≤ a ∧ a ≤ 1
  case neg =>
    rw [if_neg ha]
    simp only [z00, not_true, if_false]
    refine St.no h (v := -1000000) ?_ rfl
    by_cases h3 : a < 0
    · rw [if_pos h3]
    · rw [if_neg h3, if_neg (fun q => ha ⟨Int32.not_lt.mp h3, q⟩)]
  case pos =>
    have hG : ∃ G, frG (bS3 S) w q T D G := by
      refine ⟨fun i => match flo T (fF (bS3 S) w q T D (nN (w 9)) (500 * i)) 4 0 none with
        | none => 0
        | some p => p.1 + nI (sN (fun d => woN w (nN (p.2.2 d))) p.2.1) - nI (sN (fun d => woN w (nN (p.2.2 d))) p.2.1) / 2, fun i hi => ?_⟩
      obtain ⟨v, L, r, h1, h2, h3⟩ := fF_g (B := bS3 S) (q := q) (D := D) (Lc := nN (w 9)) (free := 500 * i) hst
      refine ⟨v, L, r, h1, h2, h3, ?_⟩
      have es : sN (fun d => woN w (nN (nI (r d)))) L = sN (fun d => woN w (r d)) L := sN_c (fun d hd => by
        have := h3 d hd
        have := hV.1.2
        rw [n_cl (by omega)])
      simp only [h1]
      rw [es]
    obtain ⟨G, hG⟩ := hG
    obtain ⟨m1, z1, z2, z3, z4, z5, z6⟩ := p_12 (g := g) (d := D) (by omega) hc
    have hc1 := hc.ms z2
    have e13 : m.1 19 13 = nI D := hc.1.2.1.1.2.2.2.2.trans hD
    have hms2 : ms m1 (cW m1 71 13 (-1)) := ms.W (by omega)
    obtain ⟨m2, u1, u2, u3, u4⟩ := p_l22 (g := g) (x := x) (k := k) (D := D) (G := G) hg hG 20 0 g (cW m1 71 13 (-1)) (by omega) (by omega) (hc1.ms hms2) (by rw [cW_k (by decide)]; exact z3) (by rw [cW_k (by decide)]; exact z4) (fun t ht => by rw [cW_b (by decide)]; exact z5 t ht) cW_s (Or.inl rfl)
    have ed : d_22 g m = some m2 := by
      unfold d_22
      rw [e13, z1, Option.bind_some, Option.bind_some]
      exact u1
    obtain ⟨S2, v1, v2⟩ := q_l257 (g := g) (m := m) (B := bS3 S) (q := q) (x := x) (R := R) (D := D) (G := G) (x1 := a) hg hV hst hc.2.2.2.2.2.2 hc.2.2.2.2.1 hD hG 20 0 g S (by omega) (by omega) hr
    rw [if_pos ha, if_neg (show ¬ a < 0 from Int32.not_lt.mpr ha.1), if_pos ha.2, ed, Option.bind_some, if_pos (show ¬ (1 : Int32) = 0 by decide), u3, u4]
    refine St.scr h (v := if ¬ a = 0 then (frS G 20).2 else (frS G 20).1) (m' := m2) (S' := S2) ?_ v1 ((z2.tr hms2).tr u2) v2
    by_cases h0 : a = 0
    · rw [if_neg (fun z => z h0), if_neg (fun z => z h0)]
    · rw [if_pos h0, if_pos h0]
end FD
