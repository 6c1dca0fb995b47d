/-! sent: the step -/
theorem odI_ws {w : Nat → Int32} {T L2 fr : Nat} {lim : (Nat → Nat) → Nat → Nat} : ∀ {N : Nat} {r : Nat → Nat} {b b' : sO}, odI (snF w T L2 fr) lim T N r b b' → ∃ p, b' = some p
  | 0, _, _, _, h => h.elim
  | N + 1, r, b, b', h => by
    have hf : ∃ p, snF w T L2 fr r b = some p := by
      match b with
      | none => exact ⟨_, rfl⟩
      | some p =>
        by_cases hv : p.1 < (snA w T L2 fr r T).2 ∨ ((snA w T L2 fr r T).2 = p.1 ∧ sN r T < sN p.2 T)
        · exact ⟨_, if_pos hv⟩
        · exact ⟨_, if_neg hv⟩
    unfold odI at h
    cases hp : odP lim r T with
    | none =>
      rw [hp] at h
      rw [h.2]
      exact hf
    | some p =>
      rw [hp] at h
      exact odI_ws h
section SST
variable {g k : Nat} {m : cM} {S : rS} {B : rB} {w : Nat → Int32} {q T W C Sa R L2 fr : Nat} {x : Int32}
theorem q_l255z {x1 : Int32} (hT8 : T ≤ 8) : ∀ (j i n : Nat) (S : rS), S.2.1 20 1 = nI T → i + j = T → j + 1 ≤ n → (∀ d, d < i → S.2.1 35 d = 0) → ∃ S', l_255 g n 0 x1 (nI i) 0 0 0 S = l_255 g (n - (j + 1)) 1 x1 1 0 0 0 S' ∧ (∀ d, d < T → S'.2.1 35 d = 0) ∧ rc [] [35] S S' := by
  intro j
  induction j with
  | zero =>
    intro i n S h2 hi hn h
    obtain ⟨n, rfl⟩ : ∃ n', n = n' + 1 := ⟨n - 1, by omega⟩
    have e : i = T := by omega
    subst e
    refine ⟨S, ?_, h, rc.rf _⟩
    rw [l_255, if_pos rfl, if_pos (show aIn (1 : Int32) 181 = true by decide), show (1 : Int32).toNatClampNeg = 1 from rfl, h2, if_pos (Int32.le_refl _)]
    rfl
  | succ j ih =>
    intro i n S h2 hi hn h
    obtain ⟨n, rfl⟩ : ∃ n', n = n' + 1 := ⟨n - 1, by omega⟩
    obtain ⟨S', y1, y2, y3⟩ := ih (i + 1) n (rA S 35 (upd (S.2.1 35) i 0)) (by rw [rA_n (by decide)]; exact h2) (by omega) (by omega) (by
      intro d hd
      rw [rA_s]
      by_cases e : d = i
      · subst e; exact upd_s
      · rw [upd_n e]; exact h d (by omega))
    refine ⟨S', ?_, y2, (rc.A (by decide)).tr y3⟩
    rw [show n + 1 - (j + 1 + 1) = n - (j + 1) by omega, ← y1, l_255, if_pos rfl, if_pos (show aIn (1 : Int32) 181 = true by decide), show (1 : Int32).toNatClampNeg = 1 from rfl, h2, if_neg (nI_ge (by omega) (by omega)), if_pos (k_in (show i < 8 by omega) (by omega)), k_cl (show i < 2147483648 by omega), show nI i + 1 = nI (i + 1) from nI_1 i]
theorem q_l255k {r : Nat → Nat} {x1 x2 G c : Int32} (hT8 : T ≤ 8) : ∀ (j i n : Nat) (S : rS), S.2.1 20 1 = nI T → i + j = T → j + 1 ≤ n → (∀ d, d < T → S.2.1 35 d = nI (r d)) → (∀ d, d < i → S.2.1 28 d = nI (r d)) → ∃ S', l_255 g n 3 x1 x2 G c (nI i) S = l_255 g (n - (j + 1)) 4 x1 x2 G c 0 S' ∧ (∀ d, d < T → S'.2.1 28 d = nI (r d)) ∧ rc [] [28] S S' := by
  intro j
  induction j with
  | zero =>
    intro i n S h2 hi hn h35 h
    obtain ⟨n, rfl⟩ : ∃ n', n = n' + 1 := ⟨n - 1, by omega⟩
    have e : i = T := by omega
    subst e
    refine ⟨S, ?_, h, rc.rf _⟩
    rw [l_255, if_neg (by decide), if_neg (by decide), if_neg (by decide), if_pos rfl, if_pos (show aIn (1 : Int32) 181 = true by decide), show (1 : Int32).toNatClampNeg = 1 from rfl, h2, if_pos (Int32.le_refl _)]
    rfl
  | succ j ih =>
    intro i n S h2 hi hn h35 h
    obtain ⟨n, rfl⟩ : ∃ n', n = n' + 1 := ⟨n - 1, by omega⟩
    obtain ⟨S', y1, y2, y3⟩ := ih (i + 1) n (rA S 28 (upd (S.2.1 28) i (nI (r i)))) (by rw [rA_n (by decide)]; exact h2) (by omega) (by omega) (fun d hd => by rw [rA_n (by decide)]; exact h35 d hd) (by
      intro d hd
      rw [rA_s]
      by_cases e : d = i
      · subst e; exact upd_s
      · rw [upd_n e]; exact h d (by omega))
    refine ⟨S', ?_, y2, (rc.A (by decide)).tr y3⟩
    rw [show n + 1 - (j + 1 + 1) = n - (j + 1) by omega, ← y1, l_255, if_neg (by decide), if_neg (by decide), if_neg (by decide), if_pos rfl, if_pos (show aIn (1 : Int32) 181 = true by decide), show (1 : Int32).toNatClampNeg = 1 from rfl, h2, if_neg (nI_ge (by omega) (by omega)), if_pos (k_in (show i < 8 by omega) (by omega)), if_pos (k_in (show i < 8 by omega) (by omega)), k_cl (show i < 2147483648 by omega), h35 i (by omega), show nI i + 1 = nI (i + 1) from nI_1 i]
/-- one row is weighed -/
theorem q_l255a {r : Nat → Nat} {n : Nat} {x1 : Int32} {b : sO} (hg : 2000 ≤ g) (hV : shV w T W C Sa) (hst : stV w T C k) (l1 : L2 ≤ 5) (l2 : w 79 = nI L2) (l4 : ∀ i, i < L2 → w (74 + i) = nI (lr2 w i) ∧ lr2 w i < C) (h5 : w 5 = nI fr) (hfr : fr ≤ 9999) (h20 : S.2.1 20 = w) (h35 : ∀ d, d < T → S.2.1 35 d = nI (r d) ∧ r d ≤ la w d) (h34 : ∀ d, d < 80 → S.2.1 34 d = w d) (hb : srst S T b) (hn : 12 ≤ n) : ∃ n' S' G c, n ≤ n' + 10 ∧ l_255 g (n + 1) 1 x1 1 0 0 0 S = l_255 g n' 4 x1 1 G c 0 S' ∧ srst S' T (snF w T L2 fr r b) ∧ rc [24, 25, 29, 30] [23, 28] S S' := by
  have hT8 := hV.1.2
  have hr9 : ∀ t, t < T → r t ≤ 9 := fun t ht => Nat.le_trans (h35 t ht).2 (la_of hst ht).2
  obtain ⟨S1, y1, y2⟩ := q_252 (g := g) (S := S) (r := r) hg hV hst l1 l2 l4 h5 hfr (fun t ht => ⟨(h35 t ht).2, hr9 t ht⟩) h20 (fun d hd => (h35 d hd).1) h34
  have f20 : S1.2.1 20 = w := (y2.2 20 (by decide)).trans h20
  have f1 : S1.2.1 20 1 = nI T := by rw [f20]; exact hV.1.1
  have f35 : ∀ d, d < T → S1.2.1 35 d = nI (r d) := fun d hd => by rw [y2.2 35 (by decide)]; exact (h35 d hd).1
  have q253 : d_253 g S1 = some (nI (sN r T), S1) := q_l253 (g := g) f1 hT8 f35 T 0 g (by omega) (by omega)
  obtain ⟨-, g1, g2⟩ := snA_b (L2 := L2) (fr := fr) (r := r) hV hst T (Nat.le_refl _) hr9
  obtain ⟨G, hG⟩ : ∃ G, G = (snA w T L2 fr r T).2 := ⟨_, rfl⟩
  rw [← hG] at g1 g2 y1
  have g1 : -100000000 ≤ G := by omega
  have g2 : G ≤ 100000000 := by omega
  have hs2 := sN_9 hr9 hT8
  have hb1 : srst S1 T b := hb.co (y2.1 29 (by decide)) (y2.1 30 (by decide)) (y2.2 28 (by decide))
  have hrc1 : rc [24, 25, 29, 30] [23, 28] S S1 := y2.mo (by decide) (by decide)
  -- taking it
  obtain ⟨n2, rfl⟩ : ∃ n2, n = n2 + 1 := ⟨n - 1, by omega⟩
  obtain ⟨S2, z1, z2, z3⟩ := q_l255k (g := g) (r := r) (x1 := x1) (x2 := 1) (G := Int32.ofInt G) (c := nI (sN r T)) hT8 T 0 n2 (rF (rF S1 30 (Int32.ofInt G)) 29 (nI (sN r T))) f1 (by omega) (by omega) f35 (fun d hd => absurd hd (by omega))
  have take : ∃ n' S' G' c, n2 + 1 ≤ n' + 10 ∧ l_255 g (n2 + 1) 2 x1 1 (Int32.ofInt G) (nI (sN r T)) 0 S1 = l_255 g n' 4 x1 1 G' c 0 S' ∧ srst S' T (some (G, r)) ∧ rc [24, 25, 29, 30] [23, 28] S S' := by
    refine ⟨n2 - (T + 1), S2, Int32.ofInt G, nI (sN r T), by omega, ?_, ⟨by rw [z3.1 29 (by simp), rF_s], by rw [z3.1 30 (by simp), rF_n (by decide), rF_s], fun i hi => ⟨z2 i hi, hr9 i hi⟩, g1, g2⟩, (hrc1.tr ((rc.F (by decide)).tr (rc.F (by decide)))).tr (z3.mo (by decide) (by decide))⟩
    rw [← z1, l_255, if_neg (by decide), if_neg (by decide), if_pos rfl]
    rfl
  have keep : ∀ p, b = some p → ∃ n' S' G' c, n2 + 1 ≤ n' + 10 ∧ l_255 g (n2 + 1) 4 x1 1 (Int32.ofInt G) (nI (sN r T)) 0 S1 = l_255 g n' 4 x1 1 G' c 0 S' ∧ srst S' T (some p) ∧ rc [24, 25, 29, 30] [23, 28] S S' := fun p hp => ⟨n2 + 1, S1, _, _, by omega, rfl, hp ▸ hb1, hrc1⟩
  have eF0 : snF w T L2 fr r none = some (G, r) := by rw [hG]; rfl
  have eF : ∀ p, snF w T L2 fr r (some p) = if p.1 < G ∨ (G = p.1 ∧ sN r T < sN p.2 T) then some (G, r) else some p := fun p => by rw [hG]; rfl
  rw [l_255, if_neg (by decide), if_pos rfl, if_neg (show ¬ (1 : Int32) = 0 by decide), y1, Option.bind_some, q253, Option.bind_some]
  match b, hb1, keep with
  | none, hb1, keep =>
    have e29 : S1.1 29 = -1 := hb1
    rw [eF0]
    show ∃ n' S' G' c, n2 + 1 ≤ n' + 10 ∧ (if S1.1 29 < 0 then l_255 g (n2 + 1) 2 x1 1 (Int32.ofInt G) (nI (sN r T)) 0 S1 else _) = l_255 g n' 4 x1 1 G' c 0 S' ∧ _
    rw [e29, if_pos (show (-1 : Int32) < 0 by decide)]
    exact take
  | some p, hb1, keep =>
    obtain ⟨b1, b2, b3, b4, b5⟩ := hb1
    have hs := sN_9 (fun i hi => (b3 i hi).2) hT8
    have hlt := iI_lt (a := p.1) (b := G) (by omega) (by omega) (by omega) (by omega)
    have heq := iI_eq (a := G) (b := p.1) (by omega) (by omega) (by omega) (by omega)
    rw [eF]
    show ∃ n' S' G' c, n2 + 1 ≤ n' + 10 ∧ (if S1.1 29 < 0 then l_255 g (n2 + 1) 2 x1 1 (Int32.ofInt G) (nI (sN r T)) 0 S1 else if S1.1 30 < Int32.ofInt G then l_255 g (n2 + 1) 2 x1 1 (Int32.ofInt G) (nI (sN r T)) 0 S1 else if ¬ Int32.ofInt G = S1.1 30 then l_255 g (n2 + 1) 4 x1 1 (Int32.ofInt G) (nI (sN r T)) 0 S1 else if S1.1 29 ≤ nI (sN r T) then l_255 g (n2 + 1) 4 x1 1 (Int32.ofInt G) (nI (sN r T)) 0 S1 else l_255 g (n2 + 1) 2 x1 1 (Int32.ofInt G) (nI (sN r T)) 0 S1) = l_255 g n' 4 x1 1 G' c 0 S' ∧ _
    rw [b1, b2, if_neg (nI_pos (by omega))]
    by_cases c1 : p.1 < G
    · rw [if_pos (hlt.mpr c1), if_pos (Or.inl c1)]
      exact take
    · rw [if_neg (fun z => c1 (hlt.mp z))]
      by_cases c2 : G = p.1
      · rw [if_neg (show ¬ ¬ Int32.ofInt G = Int32.ofInt p.1 from fun z => z (by rw [c2]))]
        by_cases c3 : sN r T < sN p.2 T
        · rw [if_neg (nI_ge c3 (by omega)), if_pos (Or.inr ⟨c2, c3⟩)]
          exact take
        · rw [if_pos (nI_le (by omega) (by omega)), if_neg (by omega)]
          exact keep p rfl
      · rw [if_pos (fun z => c2 (heq.mp z)), if_neg (by omega)]
        exact keep p rfl
theorem q_l255b {x1 : Int32} (hg : 2000 ≤ g) (hV : shV w T W C Sa) (hst : stV w T C k) (l1 : L2 ≤ 5) (l2 : w 79 = nI L2) (l4 : ∀ i, i < L2 → w (74 + i) = nI (lr2 w i) ∧ lr2 w i < C) (h5 : w 5 = nI fr) (hfr : fr ≤ 9999) : ∀ (N n : Nat) (S : rS) (r : Nat → Nat) (b b' : sO), odI (snF w T L2 fr) (fun _ p => la w p) T N r b b' → 13 * N ≤ n → S.2.1 20 = w → (∀ d, d < T → S.2.1 35 d = nI (r d) ∧ r d ≤ la w d) → (∀ d, d < 80 → S.2.1 34 d = w d) → srst S T b → ∃ n' S', n ≤ n' + 13 * N ∧ l_255 g n 1 x1 1 0 0 0 S = l_255 g n' 1 x1 0 0 0 0 S' ∧ rc [24, 25, 29, 30] [23, 28, 35] S S' ∧ srst S' T b' := by
  have hT8 := hV.1.2
  intro N
  induction N with
  | zero => intro n S r b b' h; exact h.elim
  | succ N ih =>
    intro n S r b b' h hn h20 h35 h34 hb
    obtain ⟨n, rfl⟩ : ∃ n', n = n' + 1 := ⟨n - 1, by omega⟩
    obtain ⟨n1, S1, G, c, y1, y2, y3, y4⟩ := q_l255a (g := g) (S := S) (r := r) (n := n) (x1 := x1) (b := b) hg hV hst l1 l2 l4 h5 hfr h20 h35 h34 hb (by omega)
    obtain ⟨n2, rfl⟩ : ∃ n', n1 = n' + 1 := ⟨n1 - 1, by omega⟩
    have f20 : S1.2.1 20 = w := (y4.2 20 (by decide)).trans h20
    obtain ⟨S3, u1, u2, u3⟩ := q_254 (g := g) (S := S1) (r := r) (by omega) hV hst f20 (fun d hd => by rw [y4.2 35 (by decide)]; exact h35 d hd)
    have f34 : ∀ d, d < 80 → S3.2.1 34 d = w d := fun d hd => by rw [u2.2 34 (by decide), y4.2 34 (by decide)]; exact h34 d hd
    have hrc3 : rc [24, 25, 29, 30] [23, 28, 35] S S3 := (y4.mo (by decide) (by decide)).tr (u2.mo (by decide) (by decide))
    have b3 : srst S3 T (snF w T L2 fr r b) := y3.co (u2.1 29 (by simp)) (u2.1 30 (by simp)) (u2.2 28 (by decide))
    have e1 : l_255 g (n + 1) 1 x1 1 0 0 0 S = l_255 g n2 1 x1 (match odP (fun _ p => la w p) r T with
        | none => 0
        | some _ => 1) 0 0 0 S3 := by
      rw [y2, l_255, if_neg (by decide), if_neg (by decide), if_neg (by decide), if_neg (by decide), if_pos rfl, u1, Option.bind_some]
      cases odP (fun _ p => la w p) r T <;> rfl
    rw [e1]
    unfold odI at h
    cases hp : odP (fun _ p => la w p) r T with
    | none =>
      rw [hp] at h
      refine ⟨n2, S3, by omega, rfl, hrc3, ?_⟩
      rw [h.2]
      exact b3
    | some p =>
      rw [hp] at h u3
      obtain ⟨p1, p2⟩ := odP_lt hp
      have p2 : r p < la w p := p2
      obtain ⟨n', S', v1, v2, v3, v4⟩ := ih n2 S3 (odN r p) _ b' h (by omega) ((u2.2 20 (by decide)).trans f20) (fun d hd => ⟨u3 d hd, by
        show (if d < p then r d else if d = p then r p + 1 else 0) ≤ la w d
        by_cases e1 : d < p
        · rw [if_pos e1]; exact (h35 d hd).2
        · rw [if_neg e1]
          by_cases e2 : d = p
          · rw [if_pos e2, e2]; omega
          · rw [if_neg e2]; omega⟩) f34 b3
      exact ⟨n', S', by omega, v2, hrc3.tr v3, v4⟩
theorem l255_e {n : Nat} {x1 : Int32} : l_255 g (n + 1) 1 x1 0 0 0 0 S = (if ¬ x1 = 0 then (if aIn (1 : Int32) 181 = true then (if S.2.1 20 (1 : Int32).toNatClampNeg < x1 then some (-2, S) else if aIn (x1 - 1) 8 = true then some (S.2.1 28 (x1 - 1).toNatClampNeg, S) else none) else none) else some (S.1 30, S)) := by
  rw [l_255, if_neg (show ¬ 1 = 0 by decide), if_pos (show 1 = 1 from rfl), if_pos (show (0 : Int32) = 0 from rfl)]
theorem sp_sent (hg : 1400000000 ≤ g) (h : Inv k m S) (a : Int32) : St k (d_125 g a m) (d_255 g a S) := by
  obtain ⟨-, -, w, q, x, T, W, C, Sa, R, hc, hr, hpa, him⟩ := id h
  have hV := hc.2.1
  have hst := hc.2.2.1
  have hT8 := hV.1.2
  have hC5 := hV.2.2.1.2
  obtain ⟨L2, l1, l2, l3, l4⟩ := lr2_of hst hC5
  obtain ⟨fr, hf1, hf2⟩ := hV.2.2.2.2.2.2.1
  unfold d_125 d_255
  rw [if_pos hc.cy.1]
  rcases is_op (g := g) hc hr with ⟨e1, e2, -⟩ | ⟨e1, e2⟩
  · rw [if_pos e1, e2]
    exact St.no h rfl rfl
  rw [if_neg e1, e2]
  simp only [Option.bind_some, z10, if_false]
  rw [q_140 (a := 0) (b := 8) (a' := 0) (b' := 8) (by decide) (by decide), Option.bind_some]
  by_cases ha : (0 : Int32) ≤ a ∧ a ≤ 8
  case neg =>
    rw [if_neg ha]
    simp only [z00, not_true, if_false]
    refine St.no h (v := -1000000) ?_ rfl
    by_cases h3 : a < 0
    · rw [if_pos h3]
    · rw [if_neg h3, if_neg (fun q => ha ⟨Int32.not_lt.mp h3, q⟩)]
  case pos =>
    obtain ⟨j, -, hj, rfl⟩ := rng (a := 0) (b := 8) (by omega) (by omega) ha
    obtain ⟨m1, y1, y2, y3⟩ := p_28 (g := g) (L2 := L2) (fr := fr) (by omega) hc (by omega) l2 l4 hf2 hf1
    obtain ⟨N, n1, n2⟩ := od_from (f := snF w T L2 fr) (lim := fun _ p => la w p) (W := T) (M := 9) (fun _ _ _ _ => rfl) (fun r p hp => (la_of hst hp).2) (none : sO)
    have h6 : (9 + 1) ^ T ≤ 100000000 := by
      have : T = 0 ∨ T = 1 ∨ T = 2 ∨ T = 3 ∨ T = 4 ∨ T = 5 ∨ T = 6 ∨ T = 7 ∨ T = 8 := by omega
      rcases this with e | e | e | e | e | e | e | e | e <;> rw [e] <;> decide
    obtain ⟨p, hp⟩ := odI_ws n2
    rw [hp] at y3
    have hx0 : rx (rF S 29 (-1)) (bS3 S) w q x R := hr.rs (rc.F (by decide))
    obtain ⟨S0, t1, t2, t3, -⟩ := q_250 (g := g) (S := rF S 29 (-1)) (by omega)
    have hx1 : rx S0 (bS3 S) w q x R := hx0.rs (t2.mo (by decide) (by decide))
    have g1 : S0.2.1 20 1 = nI T := by rw [hx1.1]; exact hV.1.1
    obtain ⟨S1, z1, z2, z3⟩ := q_l255z (g := g) (T := T) (x1 := nI j) hT8 T 0 g S0 g1 (by omega) (by omega) (fun d hd => absurd hd (by omega))
    have hx2 : rx S1 (bS3 S) w q x R := hx1.rs (z3.mo (by decide) (by decide))
    obtain ⟨n', S2, v1, v2, v3, v4⟩ := q_l255b (g := g) (x1 := nI j) (by omega) hV hst (by omega) l2 l4 hf2 hf1 N (g - (T + 1)) S1 (fun _ => 0) none _ n2 (by omega) hx2.1 (fun d hd => ⟨z2 d hd, Nat.zero_le _⟩) (fun d hd => by rw [z3.2 34 (by decide), t3 d hd, hx0.1]) (by
      show S1.1 29 = -1
      rw [z3.1 29 (by simp), t2.1 29 (by simp), rF_s])
    rw [hp] at v4
    have hx3 : rx S2 (bS3 S) w q x R := hx2.rs (v3.mo (by decide) (by decide))
    have hrs : rs S S2 := (((rc.F (by decide)).tr (t2.mo (by decide) (by decide))).tr (z3.mo (by decide) (by decide))).tr (v3.mo (by decide) (by decide))
    have f1 : S2.2.1 20 1 = nI T := by rw [hx3.1]; exact hV.1.1
    obtain ⟨n3, rfl⟩ : ∃ q, n' = q + 1 := ⟨n' - 1, by omega⟩
    obtain ⟨w1, w2, w3, w4, w5⟩ := v4
    obtain ⟨b0, b1, b2, b3, b4, b5⟩ := y3
    have e0 : l_255 g g 0 (nI j) 0 0 0 0 S0 = l_255 g (n3 + 1) 1 (nI j) 0 0 0 0 S2 := z1.trans v2
    rw [if_pos ha, if_neg (show ¬ nI j < 0 from nI_pos (by omega)), if_pos (show nI j ≤ 8 from nI_le (b := 8) hj (by omega)), y1, Option.bind_some, if_pos (show ¬ (1 : Int32) = 0 by decide), t1, Option.bind_some, e0, l255_e]
    by_cases h0 : j = 0
    · subst h0
      rw [if_neg (show ¬ ¬ nI 0 = 0 from fun z => z rfl), if_neg (show ¬ ¬ nI 0 = 0 from fun z => z rfl)]
      refine St.scr h (v := Int32.ofInt p.1) (m' := m1) (S' := S2) ?_ (by rw [w2]) y2 hrs
      rw [b1, Int32.ofInt_neg, Int32.neg_neg]
    · have p4 := p_4 (g := g) (m := m1) (v := Int32.ofInt (-p.1)) (L := T) (j := j) (r := fun i => nI (p.2 i)) ⟨b0, b1, b2, hT8, fun i hi => (b3 i hi).1⟩ hj
      rw [if_pos (show ¬ nI j = 0 from nI_ne0 (by omega) (by omega)), if_pos (show ¬ nI j = 0 from nI_ne0 (by omega) (by omega)), p4, Option.bind_some]
      refine St.scr h (v := if j = 0 then Int32.ofInt (-p.1) else if T < j then -2 else nI (p.2 (j - 1))) (m' := m1) (S' := S2) rfl ?_ y2 hrs
      rw [if_neg h0, if_pos (show aIn (1 : Int32) 181 = true by decide), show (1 : Int32).toNatClampNeg = 1 from rfl, f1]
      by_cases h1 : T < j
      · rw [if_pos h1, if_pos (nI_lt h1 (by omega))]
      · rw [if_neg h1, if_neg (nI_nlt (by omega) (by omega))]
        have e := (w3 (j - 1) (by omega)).1
        simp (disch := omega) only [lit_nI, k_sub, k_in, k_cl, if_true, e]
end SST
