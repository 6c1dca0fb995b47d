/-! fill: one row, of the reference -/
theorem cnE_m {r : Nat → Nat} {i : Nat} : ∀ {p : Nat}, i < p → cnE r (r i) i + 1 ≤ cnE r (r i) p
  | 0, h => absurd h (by omega)
  | p + 1, h => by
    show _ ≤ cnE r (r i) p + (if r p = r i then 1 else 0)
    by_cases e : i = p
    · subst e
      rw [if_pos rfl]
      exact Nat.le_refl _
    · have := cnE_m (r := r) (i := i) (p := p) (by omega)
      omega
section FR
variable {g k : Nat} {m : cM} {S : rS} {B : rB} {w : Nat → Int32} {q T W C Sa R : Nat} {x : Int32}
/-- taking out -/
theorem q_l236c {r : Nat → Nat} {L p : Nat} {x2 x4 : Int32} (hp : p ≤ 3) (hT8 : T ≤ 8) (hr : ∀ i, i < p → r i < T) (hbk : ∀ t, t < T → w (17 + 5 * t) = nI (bk w t)) : ∀ (j i n : Nat) (S : rS), i + j = p → j ≤ n → (∀ t, t < T → S.2.1 20 (17 + 5 * t) = nI (bk w t + cnE r t p - cnE r t i)) → (∀ c, (∀ t, t < T → c ≠ 17 + 5 * t) → S.2.1 20 c = w c) → (∀ d, d < p → S.2.1 31 d = nI (r d)) → ∃ S', l_236 g n 3 (nI L) x2 (nI p) 0 x4 (nI i) S = l_236 g (n - j) 3 (nI L) x2 (nI p) 0 x4 (nI p) S' ∧ S'.2.1 20 = w ∧ rc [] [20] S S' := by
  intro j
  induction j with
  | zero =>
    intro i n S hi hn h1 h2 h31
    have e : i = p := by omega
    subst e
    refine ⟨S, rfl, ?_, rc.rf _⟩
    funext c
    by_cases hc : ∃ t, t < T ∧ c = 17 + 5 * t
    · obtain ⟨t, t1, t2⟩ := hc
      rw [t2, h1 t t1, Nat.add_sub_cancel, hbk t t1]
    · exact h2 c (fun t ht e => hc ⟨t, ht, e⟩)
  | succ j ih =>
    intro i n S hi hn h1 h2 h31
    obtain ⟨n, rfl⟩ : ∃ n', n = n' + 1 := ⟨n - 1, by omega⟩
    have hri := hr i (by omega)
    have e31 := h31 i (by omega)
    have hm := cnE_m (r := r) (i := i) (p := p) (by omega)
    have q217 := q_217 (g := g) (S := S) (t := r i) (f := 1) (v := -nI 1) (by omega) (by omega)
    obtain ⟨S1, hS1⟩ : ∃ S1, S1 = rA S 20 (upd (S.2.1 20) (16 + 5 * r i + 1) (S.2.1 20 (16 + 5 * r i + 1) + -nI 1)) := ⟨_, rfl⟩
    rw [← hS1] at q217
    have f20 : S1.2.1 20 = upd (S.2.1 20) (17 + 5 * r i) (nI (bk w (r i) + cnE r (r i) p - cnE r (r i) i - 1)) := by
      rw [hS1, rA_s, show 16 + 5 * r i + 1 = 17 + 5 * r i by omega, h1 (r i) hri, k_m1n (by omega)]
    obtain ⟨S', y1, y2, y3⟩ := ih (i + 1) n S1 (by omega) (by omega) (by
      intro t ht
      have ec : cnE r t (i + 1) = cnE r t i + if r i = t then 1 else 0 := rfl
      rw [f20, ec]
      by_cases e : t = r i
      · subst e
        rw [upd_s, if_pos rfl, Nat.sub_sub]
      · rw [upd_n (by omega), if_neg (fun z => e z.symm), Nat.add_zero]
        exact h1 t ht) (by
      intro c hc
      rw [f20, upd_n (hc _ hri)]
      exact h2 c hc) (fun d hd => by rw [hS1, rA_n (by decide)]; exact h31 d hd)
    have hrc : rc [] [20] S S1 := by rw [hS1]; exact rc.A (by decide)
    refine ⟨S', ?_, y2, hrc.tr y3⟩
    rw [show n + 1 - (j + 1) = n - j by omega, ← y1, l_236]
    simp (disch := omega) only [Nat.reduceEqDiff, if_true, if_false, k_leF, k_in, k_cl, e31, lit_nI, q217, Option.bind_some, nI_add]
/-- keeping -/
theorem q_l236e {ρ : Nat → Int32} {L : Nat} {x2 x3 x4 : Int32} (hL : L ≤ 4) : ∀ (j i n : Nat) (S : rS), i + j = L → j + 1 ≤ n → (∀ d, d < L → S.2.1 31 d = ρ d) → (∀ d, d < i → S.2.1 28 d = ρ d) → ∃ S', l_236 g n 5 (nI L) x2 x3 0 x4 (nI i) S = some S' ∧ rc [] [28] S S' ∧ (∀ d, d < L → S'.2.1 28 d = ρ d) := by
  intro j
  induction j with
  | zero =>
    intro i n S hi hn h1 h2
    obtain ⟨n, rfl⟩ : ∃ n', n = n' + 1 := ⟨n - 1, by omega⟩
    have e : i = L := by omega
    subst e
    refine ⟨S, ?_, rc.rf _, h2⟩
    rw [l_236, if_neg (by decide), if_neg (by decide), if_neg (by decide), if_neg (by decide), if_neg (by decide), if_pos rfl, if_pos (Int32.le_refl _)]
  | succ j ih =>
    intro i n S hi hn h1 h2
    obtain ⟨n, rfl⟩ : ∃ n', n = n' + 1 := ⟨n - 1, by omega⟩
    obtain ⟨S', y1, y2, y3⟩ := ih (i + 1) n (rA S 28 (upd (S.2.1 28) i (S.2.1 31 i))) (by omega) (by omega) (fun d hd => by rw [rA_n (by decide)]; exact h1 d hd) (by
      intro d hd
      rw [rA_s]
      by_cases e : d = i
      · subst e; rw [upd_s]; exact h1 d (by omega)
      · rw [upd_n e]; exact h2 d (by omega))
    refine ⟨S', ?_, (rc.A (by decide)).tr y2, y3⟩
    rw [l_236]
    simp (disch := omega) only [Nat.reduceEqDiff, if_true, if_false, k_leF, k_in, k_cl, lit_nI, nI_add]
    exact y1
theorem q_l235 {r : Nat → Nat} {L : Nat} (hL : L ≤ 4) (hr : ∀ i, i < L → S.2.1 31 i = nI (r i) ∧ r i < 8 ∧ S.2.1 20 (81 + 2 * r i) = nI (woN w (r i))) : ∀ (j i n : Nat), i + j = L → j + 1 ≤ n → l_235 g n 0 (nI L) (nI (sN (fun i => woN w (r i)) i)) (nI i) S = some (nI (sN (fun i => woN w (r i)) L), S) := by
  intro j
  induction j with
  | zero =>
    intro i n hi hn
    obtain ⟨n, rfl⟩ : ∃ n', n = n' + 1 := ⟨n - 1, by omega⟩
    have e : i = L := by omega
    subst e
    rw [l_235, if_pos rfl, if_pos (Int32.le_refl _)]
  | succ j ih =>
    intro i n hi hn
    obtain ⟨n, rfl⟩ : ∃ n', n = n' + 1 := ⟨n - 1, by omega⟩
    obtain ⟨r1, r2, r3⟩ := hr i (by omega)
    have q193 := q_193 (g := g) (S := S) (t := r i) r2
    rw [r3] at q193
    rw [l_235]
    simp (disch := omega) only [if_true, k_leF, if_false, k_in, k_cl, r1, q193, Option.bind_some, nI_add, lit_nI]
    exact ih (i + 1) n (by omega) (by omega)
/-- triesFill -/
theorem q_236 {r : Nat → Nat} {L D free : Nat} {b : bO} (hg : 2000 ≤ g) (hx : rx S B w q x R) (hV : shV w T W C Sa) (hst : stV w T C k) (hR : rbR m.1 B R) (hq : q ≤ R) (hD : w 7 = nI D) (hL : L ≤ 3) (hf : free ≤ 20000) (hr : ∀ d, d < L → S.2.1 31 d = nI (r d) ∧ r d < T) (hb : rst S b) : ∃ S', d_236 g (nI L) (nI free) S = some S' ∧ rst S' (fF B w q T D (nN (w 9)) free L r b) ∧ rc [18, 24, 25, 29, 30] [23, 28] S S' := by
  have hT8 := hV.1.2
  have hC5 := hV.2.2.1.2
  have hrT : ∀ d, d < L → r d < T := fun d hd => (hr d hd).2
  have hbk : ∀ t, t < T → w (17 + 5 * t) = nI (bk w t) := fun t ht => (bk_of hst ht).1
  obtain ⟨n1, p, S1, y1, y2, y3, y4, y5, y6, y7⟩ := q_l236a (g := g) (w := w) (T := T) (k := k) (r := r) (L := L) (x2 := nI free) hg hL hV hst hrT L 0 g S (by omega) (by omega) hx.1 hst (fun d hd => (hr d hd).1)
  have hrp : ∀ d, d < p → r d < T := fun d hd => hrT d (by omega)
  have wo : ∀ c, (∀ t, t < T → c ≠ 17 + 5 * t) → wad w r p c = w c := fun c hc => wad_o hc hrp
  have e31 : S1.2.1 31 = S.2.1 31 := y6.2 31 (by decide)
  -- taken out of a state that has the row in it
  have out : ∀ (S2 : rS) (x4 : Int32) (n : Nat), S2.2.1 20 = wad w r p → S2.2.1 31 = S.2.1 31 → p ≤ n → ∃ S3, l_236 g n 3 (nI L) (nI free) (nI p) 0 x4 0 S2 = l_236 g (n - p) 3 (nI L) (nI free) (nI p) 0 x4 (nI p) S3 ∧ S3.2.1 20 = w ∧ rc [] [20] S2 S3 := by
    intro S2 x4 n h20 h31 hn
    exact q_l236c (g := g) (w := w) (T := T) (r := r) (L := L) (p := p) (x2 := nI free) (x4 := x4) (by omega) hT8 hrp hbk p 0 n S2 (by omega) hn (fun t ht => by rw [h20, wad_k (hbk t ht)]; rfl) (fun c hc => by rw [h20]; exact wo c hc) (fun d hd => by rw [h31]; exact (hr d (by omega)).1)
  have hd : d_236 g (nI L) (nI free) S = l_236 g n1 1 (nI L) (nI free) (nI p) 0 0 0 S1 := by
    unfold d_236
    exact y1
  rw [hd]
  obtain ⟨n2, rfl⟩ : ∃ q, n1 = q + 20 := ⟨n1 - 20, by omega⟩
  have t2 : ∀ (n : Nat) (s0 : Int32) (S' : rS), l_236 g (n + 1) 2 (nI L) (nI free) (nI p) s0 0 0 S' = l_236 g n 3 (nI L) (nI free) (nI p) 0 s0 0 S' := fun n s0 S' => by
    rw [l_236, if_neg (by decide), if_neg (by decide), if_pos rfl]
  unfold fF
  rcases y7 with ⟨hp, hc⟩ | ⟨hp, hc⟩
  · rw [if_pos (show cfB w r T L = true from hc)]
    subst hp
    obtain ⟨Lc, l1, l2, l3, l4⟩ := lr_of hst hC5
    have hx1 : rx S1 B (wad w r p) q x R := hx.act (y6.mo (by decide) (by decide)) y4
    have elr : ∀ i, i < Lc → lr (wad w r p) i = lr w i := fun i hi => by
      show nN _ = nN _
      rw [wo (64 + i) (fun t ht => by omega)]
    obtain ⟨S2, z1, z2, z3, z4⟩ := q_212 (g := g) (S := S1) (m := m) (w := wad w r p) (L := Lc) (D := D) (free := free) hg hx1 (wad_V hV hrp) y5 hR hq (by rw [wo 7 (fun t ht => by omega)]; exact hD) (by rw [wo 9 (fun t ht => by omega)]; exact l2) (by omega) (fun i hi => by rw [elr i hi, wo (64 + i) (fun t ht => by omega)]; exact l4 i hi) hf
    have ecN : cN B (wad w r p) q T D Lc free = cfC B w q T D (nN (w 9)) free r p := by
      unfold cN cfC
      rw [wad_M hst (by omega) hrp, wad_S hV hst (by omega) hrp, l3, coN_c (wad w r p) (row' := lr w) elr, coN_w (wo 4 (fun t ht => by omega)) (fun j hj => wo j (fun t ht => by omega))]
    rw [ecN] at z1
    have f20 : S2.2.1 20 = wad w r p := (z3.2 20 (by decide)).trans y4
    have f31 : S2.2.1 31 = S.2.1 31 := (z3.2 31 (by decide)).trans e31
    have q235 := q_l235 (g := g) (S := S2) (w := w) (r := r) (L := p) (by omega) (fun i hi => ⟨by rw [f31]; exact (hr i hi).1, by have := hrT i hi; omega, by
      rw [f20, wo _ (fun t ht => by omega)]
      exact (nI_nN (hV.2.2.2.2.2.2.2.2.1 (r i) (hrT i hi)).2 (by omega)).1.symm⟩) p 0 g (by omega) (by omega)
    have q235 : d_235 g (nI p) S2 = some (nI (sN (fun i => woN w (r i)) p), S2) := q235
    obtain ⟨v, hv⟩ : ∃ v, v = nI (cfC B w q T D (nN (w 9)) free r p) - nI (sN (fun i => woN w (r i)) p) := ⟨_, rfl⟩
    rw [← hv]
    obtain ⟨S3, u1, u2, u3⟩ := out S2 v (n2 + 18) f20 f31 (by omega)
    have e1 : l_236 g (n2 + 20) 1 (nI p) (nI free) (nI p) 0 0 0 S1 = l_236 g (n2 + 18 - p) 3 (nI p) (nI free) (nI p) 0 v (nI p) S3 := by
      rw [l_236, if_neg (by decide), if_pos rfl, if_pos (Int32.le_refl _), z1, Option.bind_some, q235, Option.bind_some]
      show l_236 g (n2 + 19) 2 (nI p) (nI free) (nI p) (nI (cfC B w q T D (nN (w 9)) free r p) - nI (sN (fun i => woN w (r i)) p)) 0 0 S2 = _
      rw [← hv, t2, u1]
    rw [e1]
    have hrc3 : rc [18, 24, 25, 29, 30] [23, 28] S S3 := by
      have a1 : rc [18, 24, 25, 29, 30] [20, 23, 28] S S3 := ((y6.mo (by decide) (by decide)).tr (z3.mo (by decide) (by decide))).tr (u3.mo (by decide) (by decide))
      refine ⟨a1.1, fun j hj => ?_⟩
      by_cases e : j = 20
      · rw [e, u2, hx.1]
      · exact a1.2 j (by
          simp only [List.mem_cons, List.not_mem_nil, or_false] at hj ⊢
          omega)
    have hb3 : rst S3 b := by
      have a1 : rc [18, 24, 25] [20, 23] S S3 := ((y6.mo (by decide) (by decide)).tr (z3.mo (by decide) (by decide))).tr (u3.mo (by decide) (by decide))
      exact hb.co (a1.1 29 (by decide)) (a1.1 30 (by decide)) (a1.2 28 (by decide))
    have f31' : S3.2.1 31 = S.2.1 31 := (u3.2 31 (by decide)).trans f31
    obtain ⟨n3, hn3⟩ : ∃ q, n2 + 18 - p = q + 8 := ⟨n2 + 10 - p, by omega⟩
    rw [hn3]
    have take : ∃ S', l_236 g (n3 + 7) 4 (nI p) (nI free) (nI p) 0 v (nI p) S3 = some S' ∧ rst S' (some (v, p, fun i => nI (r i))) ∧ rc [18, 24, 25, 29, 30] [23, 28] S S' := by
      obtain ⟨S4, v1, v2, v3⟩ := q_l236e (g := g) (ρ := fun i => nI (r i)) (L := p) (x2 := nI free) (x3 := nI p) (x4 := v) (by omega) p 0 (n3 + 6) (rF (rF S3 30 v) 29 (nI p)) (by omega) (by omega) (fun d hd => by
        show S3.2.1 31 d = _
        rw [f31']
        exact (hr d hd).1) (fun d hd => absurd hd (by omega))
      refine ⟨S4, ?_, ⟨by rw [v2.1 29 (by simp), rF_s], by rw [v2.1 30 (by simp), rF_n (by decide), rF_s], by show p ≤ 8; omega, v3⟩, ((hrc3.tr (rc.F (by decide))).tr (rc.F (by decide))).tr (v2.mo (by decide) (by decide))⟩
      rw [l_236, if_neg (by decide), if_neg (by decide), if_neg (by decide), if_neg (by decide), if_pos rfl]
      exact v1
    rw [l_236, if_neg (by decide), if_neg (by decide), if_neg (by decide), if_pos rfl, if_pos (Int32.le_refl _), if_neg (show ¬ nI p < nI p from nI_nlt (Nat.le_refl _) (by omega))]
    match b, hb3 with
    | none, hb3 =>
      have e29 : S3.1 29 = -1 := hb3
      rw [e29, if_pos (show (-1 : Int32) < 0 by decide)]
      exact take
    | some pp, hb3 =>
      obtain ⟨b1, b2, b3, b4⟩ := hb3
      rw [b1, if_neg (nI_pos (by omega)), b2]
      by_cases hlt : v < pp.1
      · rw [if_pos hlt, show off (some pp) v p (fun i => nI (r i)) = some (v, p, fun i => nI (r i)) from if_pos hlt]
        exact take
      · rw [if_neg hlt, show off (some pp) v p (fun i => nI (r i)) = some pp from if_neg hlt]
        exact ⟨S3, rfl, ⟨b1, b2, b3, b4⟩, hrc3⟩
  · rw [if_neg (show ¬ cfB w r T L = true from fun z => by
      have z : (cfA w r L 0 && decide (bM w T + L ≤ 12)) = true := z
      rw [hc] at z
      cases z)]
    obtain ⟨S3, u1, u2, u3⟩ := out S1 0 (n2 + 18) y4 e31 (by omega)
    have hrc3 : rc [18, 24, 25, 29, 30] [23, 28] S S3 := by
      have a1 : rc [] [20] S S3 := y6.tr u3
      refine ⟨fun j _ => a1.1 j (by simp), fun j hj => ?_⟩
      by_cases e : j = 20
      · rw [e, u2, hx.1]
      · exact a1.2 j (by
          simp only [List.mem_cons, List.not_mem_nil, or_false]
          exact e)
    have a1 : rc [] [20] S S3 := y6.tr u3
    refine ⟨S3, ?_, hb.co (a1.1 29 (by simp)) (a1.1 30 (by simp)) (a1.2 28 (by decide)), hrc3⟩
    rw [l_236, if_neg (by decide), if_pos rfl, if_neg (nI_ge hp (by omega)), t2, u1]
    obtain ⟨n3, hn3⟩ : ∃ q, n2 + 18 - p = q + 8 := ⟨n2 + 10 - p, by omega⟩
    rw [hn3, l_236, if_neg (by decide), if_neg (by decide), if_neg (by decide), if_pos rfl, if_pos (Int32.le_refl _), if_pos (nI_lt hp (by omega))]
end FR
