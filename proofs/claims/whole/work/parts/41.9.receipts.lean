/-! receipt: all rows of the reference; the step -/
theorem floR_0 {f : Nat → (Nat → Nat) → rcT → rcT} : ∀ {j L : Nat} {b : rcT}, floR 0 f j L b = b
  | 0, _, _ => rfl
  | j + 1, L, b => by
    show floR 0 f j (L + 1) (if 0 < 0 then ritR 0 L (f L) (9 ^ L) (fun _ => 0) b else b) = b
    rw [if_neg (by omega)]
    exact floR_0
section RT
variable {g k : Nat} {m : cM} {S : rS} {B : rB} {w : Nat → Int32} {q T W C Sa R : Nat} {x : Int32}
theorem q_l259z {L : Nat} {x1 x2 x3 : Int32} (hL : L ≤ 4) : ∀ (j i n : Nat) (S : rS), i + j = L → j + 1 ≤ n → (∀ d, d < i → S.2.1 31 d = 0) → ∃ S', l_259 g n 1 x1 x2 x3 (nI L) (nI i) S = l_259 g (n - (j + 1)) 2 x1 x2 x3 (nI L) 1 S' ∧ (∀ d, d < L → S'.2.1 31 d = 0) ∧ rc [] [31] S S' := by
  intro j
  induction j with
  | zero =>
    intro i n S hi hn h
    obtain ⟨n, rfl⟩ : ∃ n', n = n' + 1 := ⟨n - 1, by omega⟩
    have e : i = L := by omega
    subst e
    refine ⟨S, ?_, h, rc.rf _⟩
    rw [l_259, if_neg (by decide), if_pos rfl, if_pos (Int32.le_refl _)]
    rfl
  | succ j ih =>
    intro i n S hi hn h
    obtain ⟨n, rfl⟩ : ∃ n', n = n' + 1 := ⟨n - 1, by omega⟩
    obtain ⟨S', y1, y2, y3⟩ := ih (i + 1) n (rA S 31 (upd (S.2.1 31) i 0)) (by omega) (by omega) (by
      intro d hd
      rw [rA_s]
      by_cases e : d = i
      · subst e; exact upd_s
      · rw [upd_n e]; exact h d (by omega))
    refine ⟨S', ?_, y2, (rc.A (by decide)).tr y3⟩
    rw [show n + 1 - (j + 1 + 1) = n - (j + 1) by omega, ← y1, l_259, if_neg (by decide), if_pos rfl, if_neg (nI_ge (by omega) (by omega)), if_pos (k_in (by omega) (by omega)), k_cl (by omega), show nI i + 1 = nI (i + 1) from nI_1 i]
theorem l259_z {n : Nat} {a b c x2 : Int32} : l_259 g (n + 1) 2 a b c x2 0 S = l_259 g n 0 a b c (x2 + 1) 0 S := by
  rw [l_259, if_neg (by decide), if_neg (by decide), if_pos rfl, if_pos rfl]
theorem q_l259b {L D fr : Nat} {P x3 : Int32} {hit : Nat → (Nat → Nat) → Bool} (hg : 2000 ≤ g) (hV : shV w T W C Sa) (hst : stV w T C k) (hR : rbR m.1 B R) (hq : q ≤ R) (hL : L ≤ 4) (hT : 1 ≤ T) (h5 : w 5 = nI fr) (hfr : fr ≤ 9999) (hhit : ∀ L r, hit L r = decide (nI (coN w (fun _ => 0) 0 (sN (fun i => dO B w q (r i) D) L) fr) = P)) : ∀ (K n : Nat) (S : rS) (r : Nat → Nat) (s : rcT), 9 ^ L ≤ K + vl r L → K + 2 ≤ n → rx S B w q x R → srt r T L → (∀ i, i < L → S.2.1 31 i = nI (r i)) → rRc S T s → s.1 + K ≤ 200000 → ∃ n' S', n ≤ n' + (K + 1) ∧ l_259 g n 2 P (nI D) x3 (nI L) 1 S = l_259 g n' 0 P (nI D) x3 (nI (L + 1)) 0 S' ∧ rc [18, 24, 25, 36, 37, 38] [28, 31] S S' ∧ rRc S' T (ritR T L (rcF hit L) K r s) := by
  have h9 := p94 hL
  have hT8 := hV.1.2
  intro K
  induction K with
  | zero =>
    intro n S r b hK hn hx hs h31 hb hcb
    have := vl_b (r := r) (n := L) (fun j hj => by have := hs.1 j hj; omega)
    omega
  | succ K ih =>
    intro n S r s hK hn hx hs h31 hb hcb
    obtain ⟨n, rfl⟩ : ∃ n', n = n' + 1 := ⟨n - 1, by omega⟩
    obtain ⟨S1, y1, y2, y3⟩ := q_258 (g := g) (S := S) (m := m) (r := r) (L := L) (D := D) (fr := fr) (P := P) (hit := hit) hg hL hx hV hst hR hq h5 hfr hhit hs.1 h31 hb (by omega)
    have hx1 : rx S1 B w q x R := hx.rs (y3.mo (by decide) (by decide))
    have e31 : S1.2.1 31 = S.2.1 31 := y3.2 31 (by decide)
    obtain ⟨S2, u1, u2, u3, u4⟩ := q_237 (g := g) (S := S1) (T := T) (r := r) (L := L) (by omega) (by omega) (by rw [hx1.1]; exact hV.1.1) hT hT8 (fun d hd => ⟨by rw [e31]; exact h31 d hd, hs.1 d hd⟩)
    have hx2 : rx S2 B w q x R := hx1.rs (u2.mo (by decide) (by decide))
    have hrc2 : rc [18, 24, 25, 36, 37, 38] [28, 31] S S2 := (y3.mo (by decide) (by decide)).tr (u2.mo (by decide) (by decide))
    have b2 : rRc S2 T (rcF hit L r s) := y2.co (u2.1 36 (by simp)) (u2.1 37 (by simp)) (u2.1 38 (by simp)) (u2.2 28 (by decide))
    have c2 := rcF_1 (hit := hit) (L := L) (r := r) (s := s)
    have e2 : l_259 g (n + 1) 2 P (nI D) x3 (nI L) 1 S = l_259 g n 2 P (nI D) x3 (nI L) (match nxp r T L with
        | none => 0
        | some _ => 1) S2 := by
      rw [l_259, if_neg (by decide), if_neg (by decide), if_pos rfl, if_neg (show ¬ (1 : Int32) = 0 by decide), y1, Option.bind_some, u1, Option.bind_some]
      cases nxp r T L <;> rfl
    have er : ritR T L (rcF hit L) (K + 1) r s = match nxp r T L with
      | none => rcF hit L r s
      | some p => ritR T L (rcF hit L) K (nxr r p) (rcF hit L r s) := rfl
    rw [e2, er]
    cases hp : nxp r T L with
    | none =>
      obtain ⟨n, rfl⟩ : ∃ n', n = n' + 1 := ⟨n - 1, by omega⟩
      refine ⟨n, S2, by omega, ?_, hrc2, b2⟩
      show l_259 g (n + 1) 2 P (nI D) x3 (nI L) 0 S2 = _
      rw [l259_z, show nI L + 1 = nI (L + 1) from nI_1 L]
    | some p =>
      rw [hp] at u3
      obtain ⟨p1, p2⟩ := nxp_lt hp
      have hv := vl_n (r := r) (p := p) (n := L) p1 (fun j hj => by have := hs.1 j hj; omega)
      obtain ⟨n', S', z1, z2, z3, z4⟩ := ih n S2 (nxr r p) (rcF hit L r s) (by omega) (by omega) hx2 (hs.n hp) u3 b2 (by omega)
      exact ⟨n', S', by omega, z2, hrc2.tr z3, z4⟩
theorem q_l259 {D fr : Nat} {P x3 : Int32} {hit : Nat → (Nat → Nat) → Bool} (hg : 2000 ≤ g) (hV : shV w T W C Sa) (hst : stV w T C k) (hR : rbR m.1 B R) (hq : q ≤ R) (h5 : w 5 = nI fr) (hfr : fr ≤ 9999) (hhit : ∀ L r, hit L r = decide (nI (coN w (fun _ => 0) 0 (sN (fun i => dO B w q (r i) D) L) fr) = P)) : ∀ (j L n : Nat) (S : rS) (s : rcT), L + j = 5 → 1 ≤ L → j * 7000 + 2 ≤ n → rx S B w q x R → rRc S T s → s.1 + j * 7000 ≤ 100000 → ∃ n' y S', l_259 g n 0 P (nI D) x3 (nI L) 0 S = l_259 g (n' + 1) 3 P (nI D) x3 y 0 S' ∧ rc [18, 24, 25, 36, 37, 38] [28, 31] S S' ∧ rRc S' T (floR T (rcF hit) j L s) := by
  have hT8 := hV.1.2
  intro j
  induction j with
  | zero =>
    intro L n S s hj hL hn hx hb hcb
    obtain ⟨n, rfl⟩ : ∃ n', n = n' + 2 := ⟨n - 2, by omega⟩
    refine ⟨n, nI L, S, ?_, rc.rf _, hb⟩
    rw [l_259, if_pos rfl, if_pos (show (4 : Int32) < nI L from nI_lt (a := 4) (by omega) (by omega))]
  | succ j ih =>
    intro L n S s hj hL hn hx hb hcb
    obtain ⟨n, rfl⟩ : ∃ n', n = n' + 1 := ⟨n - 1, by omega⟩
    rw [show (j + 1) * 7000 = j * 7000 + 7000 from Nat.succ_mul _ _] at hn hcb
    obtain ⟨J, hJ⟩ : ∃ J, J = j * 7000 := ⟨_, rfl⟩
    rw [← hJ] at hn hcb
    have h9 := p94 (L := L) (by omega)
    have e1 : S.2.1 20 1 = nI T := by rw [hx.1]; exact hV.1.1
    by_cases hT : 1 ≤ T
    · obtain ⟨S1, y1, y2, y3⟩ := q_l259z (g := g) (L := L) (x1 := P) (x2 := nI D) (x3 := x3) (by omega) L 0 n S (by omega) (by omega) (fun d hd => absurd hd (by omega))
      have hx1 : rx S1 B w q x R := hx.rs (y3.mo (by decide) (by decide))
      have hb1 := ritR_1 (hit := hit) (T := T) (L := L) (K := 9 ^ L) (r := fun _ => 0) (s := s)
      obtain ⟨n', S2, z1, z2, z3, z4⟩ := q_l259b (g := g) (m := m) (B := B) (q := q) (x := x) (R := R) (L := L) (D := D) (fr := fr) (P := P) (x3 := x3) (hit := hit) hg hV hst hR hq (by omega) hT h5 hfr hhit (9 ^ L) (n - (L + 1)) S1 (fun _ => 0) s (by omega) (by omega) hx1 ⟨fun i _ => hT, fun i _ => Nat.le_refl _⟩ y2 (hb.co (y3.1 36 (by simp)) (y3.1 37 (by simp)) (y3.1 38 (by simp)) (y3.2 28 (by decide))) (by omega)
      have hx2 : rx S2 B w q x R := hx1.rs (z3.mo (by decide) (by decide))
      obtain ⟨s1, hs1⟩ : ∃ s1, s1 = ritR T L (rcF hit L) (9 ^ L) (fun _ => 0) s := ⟨_, rfl⟩
      rw [← hs1] at z4 hb1
      have q1 : J + 2 ≤ n' := by omega
      have q2 : s1.1 + J ≤ 100000 := by omega
      obtain ⟨n2, y, S', u1, u2, u3⟩ := ih (L + 1) n' S2 s1 (by omega) (by omega) (by rw [← hJ]; exact q1) hx2 z4 (by rw [← hJ]; exact q2)
      refine ⟨n2, y, S', ?_, ((y3.mo (by decide) (by decide)).tr z3).tr u2, ?_⟩
      · rw [← u1, ← z2, ← y1, l_259, if_pos rfl, if_neg (show ¬ (4 : Int32) < nI L from nI_nlt (a := 4) (by omega) (by omega)), if_pos (show aIn (1 : Int32) 181 = true by decide), show (1 : Int32).toNatClampNeg = 1 from rfl, e1, if_neg (show ¬ nI T ≤ (0 : Int32) from nI_ge (a := 0) (by omega) (by omega))]
        rfl
      · show rRc S' T (floR T _ j (L + 1) (if 0 < T then _ else s))
        rw [if_pos (show 0 < T by omega), ← hs1]
        exact u3
    · have e : T = 0 := by omega
      subst e
      obtain ⟨n, rfl⟩ : ∃ n', n = n' + 1 := ⟨n - 1, by omega⟩
      refine ⟨n, nI L, S, ?_, rc.rf _, by rw [floR_0]; exact hb⟩
      rw [l_259, if_pos rfl, if_neg (show ¬ (4 : Int32) < nI L from nI_nlt (a := 4) (by omega) (by omega)), if_pos (show aIn (1 : Int32) 181 = true by decide), show (1 : Int32).toNatClampNeg = 1 from rfl, e1, if_pos (show nI 0 ≤ (0 : Int32) from Int32.le_refl _)]
theorem l259_3 {n : Nat} {a b c y : Int32} : l_259 g (n + 1) 3 a b c y 0 S = (if ¬ c = 0 then (if ¬ c = 5 then (if S.1 38 < c then some (-2, S) else if aIn (c - 1) 8 = true then some (S.2.1 28 (c - 1).toNatClampNeg, S) else none) else if ¬ S.1 36 = 0 then some (S.1 37, S) else some (0, S)) else some (S.1 36, S)) := by
  rw [l_259, if_neg (show ¬ 3 = 0 by decide), if_neg (show ¬ 3 = 1 by decide), if_neg (show ¬ 3 = 2 by decide), if_pos (show 3 = 3 from rfl)]
theorem sp_receipt (hg : 100000 ≤ g) (h : Inv k m S) (a b c : Int32) : St k (d_128 g a b c m) (d_259 g a b c S) := by
  obtain ⟨-, -, w, q, x, T, W, C, Sa, R, hc, hr, hpa, him⟩ := id h
  have hV := hc.2.1
  have hst := hc.2.2.1
  have hT8 := hV.1.2
  obtain ⟨fr, hf1, hf2⟩ := hV.2.2.2.2.2.2.1
  unfold d_128 d_259
  rw [if_pos hc.cy.1]
  rcases is_op (g := g) hc hr with ⟨e1, e2, -⟩ | ⟨e1, e2⟩
  · rw [if_pos e1, e2]
    exact St.no h rfl rfl
  rw [if_neg e1, e2, p_138]
  simp only [Option.bind_some, z10, if_false]
  rw [q_140 (a := 0) (b := 30000) (a' := 0) (b' := 30000) (by decide) (by decide), Option.bind_some]
  by_cases ha : (0 : Int32) ≤ a ∧ a ≤ 30000
  case neg =>
    rw [if_neg ha]
    exact St.no h rfl rfl
  rw [if_pos ha, p_138]
  simp only [Option.bind_some, z10, if_false]
  rw [q_140 (a := 0) (b := 99) (a' := 0) (b' := 99) (by decide) (by decide), Option.bind_some]
  by_cases hb : (0 : Int32) ≤ b ∧ b ≤ 99
  case neg =>
    rw [if_neg hb]
    exact St.no h rfl rfl
  rw [if_pos hb, p_138]
  simp only [Option.bind_some, z10, if_false]
  rw [q_140 (a := 0) (b := 5) (a' := 0) (b' := 5) (by decide) (by decide), Option.bind_some]
  by_cases hcc : (0 : Int32) ≤ c ∧ c ≤ 5
  case neg =>
    rw [if_neg hcc]
    exact St.no h rfl rfl
  rw [if_pos hcc]
  simp only [z10, not_false_eq_true, if_true]
  obtain ⟨D, -, hD99, rfl⟩ := rng (a := 0) (b := 99) (by omega) (by omega) hb
  obtain ⟨j, -, hj, rfl⟩ := rng (a := 0) (b := 5) (by omega) (by omega) hcc
  obtain ⟨hit, hhit⟩ : ∃ hit : Nat → (Nat → Nat) → Bool, ∀ L r, hit L r = decide (nI (coN w (fun _ => 0) 0 (sN (fun i => dO (bS3 S) w q (r i) D) L) fr) = a) := ⟨fun L r => decide (nI (coN w (fun _ => 0) 0 (sN (fun i => dO (bS3 S) w q (r i) D) L) fr) = a), fun _ _ => rfl⟩
  -- the class
  obtain ⟨m0, y1, y2, y3, y4, y5⟩ := p_1 (g := g) (m := m)
  have hc0 := hc.ms y3
  obtain ⟨m1, z1, z2, z3, z4, z5, z6⟩ := p_12 (g := g) (d := D) (by omega) hc0
  have hc1 := hc0.ms z2
  obtain ⟨m2, hm2⟩ : ∃ m2, m2 = cW (cW m1 71 15 0) 71 16 255 := ⟨_, rfl⟩
  have hms2 : ms m1 m2 := by rw [hm2]; exact (ms.W (by omega)).tr (ms.W (by omega))
  have r2 : cRc m2 a (0, none) := by
    refine ⟨by rw [hm2, cW_k (by decide), cW_s]; rfl, rfl, ?_, ?_, by rw [hm2, cW_s]⟩
    · exact y2.co (by rw [hm2, cW_b (by decide), cW_b (by decide), z6 72 (by decide) (by decide)]) (by rw [hm2, cW_b (by decide), cW_b (by decide), z6 73 (by decide) (by decide)])
    · rw [hm2, cW_b (by decide), cW_b (by decide), z6 72 (by decide) (by decide)]; exact y5
  obtain ⟨m3, u1, u2, u3, u4, u5⟩ := p_l30 (g := g) (x := x) (k := k) (D := D) (fr := fr) (P := a) (x2 := nI D) (hit := hit) (by omega) hf2 hf1 hhit 4 1 g m2 (0, none) (by omega) (by omega) (by omega) (hc1.ms hms2) (fun t ht => by rw [hm2, cW_b (by decide), cW_b (by decide)]; exact z5 t ht) r2 (by decide)
  have ed : d_30 g a (nI D) m = some m3 := by
    unfold d_30
    rw [y1, Option.bind_some, z1, Option.bind_some, Option.bind_some, Option.bind_some, ← hm2]
    exact u1
  -- the reference
  have f1 : S.2.1 20 1 = nI T := by rw [hr.1]; exact hV.1.1
  obtain ⟨S1, hS1⟩ : ∃ S1, S1 = rF (rF (rF S 36 0) 37 ((1 : Int32) <<< (nI T &&& 31) - 1)) 38 0 := ⟨_, rfl⟩
  have hrs1 : rs S S1 := by rw [hS1]; exact ((rc.F (by decide)).tr (rc.F (by decide))).tr (rc.F (by decide))
  have q1 : rRc S1 T (0, none) := by
    refine ⟨by rw [hS1, rF_n (by decide), rF_n (by decide), rF_s]; rfl, rfl, by rw [hS1, rF_n (by decide), rF_s], by rw [hS1, rF_s]⟩
  obtain ⟨n', y, S2, v1, v2, v3⟩ := q_l259 (g := g) (m := m) (B := bS3 S) (q := q) (x := x) (R := R) (D := D) (fr := fr) (P := a) (x3 := nI j) (hit := hit) (by omega) hV hst hc.2.2.2.2.2.2 hc.2.2.2.2.1 hf2 hf1 hhit 4 1 g S1 (0, none) (by omega) (by omega) (by omega) (hr.rs hrs1) q1 (by decide)
  have hrs2 : rs S S2 := hrs1.tr (v2.mo (by decide) (by decide))
  have hms3 : ms m m3 := ((y3.tr z2).tr hms2).tr u2
  rw [ed, Option.bind_some, if_pos (show aIn (1 : Int32) 181 = true by decide), show (1 : Int32).toNatClampNeg = 1 from rfl, f1, ← hS1, show l_259 g g 0 a (nI D) (nI j) 1 0 S1 = _ from v1, l259_3, u3, v3.1]
  obtain ⟨ss, hss⟩ : ∃ ss, ss = floR T (rcF hit) 4 1 (0, none) := ⟨_, rfl⟩
  rw [← hss] at u3 u4 u5 v3 ⊢
  by_cases h0 : j = 0
  · subst h0
    rw [if_neg (fun z => z rfl), if_neg (fun z => z rfl)]
    exact St.scr h rfl rfl hms3 hrs2
  rw [if_pos (show ¬ nI j = 0 from nI_ne0 (by omega) (by omega)), if_pos (show ¬ nI j = 0 from nI_ne0 (by omega) (by omega))]
  obtain ⟨cc, o⟩ := ss
  have u4 : cc ≤ 100000 := u4
  by_cases h5 : j = 5
  · subst h5
    rw [if_neg (show ¬ nI 5 ≤ 4 by decide), if_neg (show ¬ ¬ nI 5 = 5 from fun z => z rfl)]
    match o, u5, v3 with
    | none, u5, v3 =>
      have hc0 : cc = 0 := u5.1
      subst hc0
      rw [if_neg (show ¬ ¬ nI 0 = 0 from fun z => z rfl), u5.2.2]
      exact St.scr h rfl rfl hms3 hrs2
    | some p, u5, v3 =>
      have h1 : 1 ≤ cc := u5.1
      rw [if_pos (show ¬ nI cc = 0 from nI_ne0 (by omega) (by omega)), u5.2.1, v3.2.2.2.1]
      exact St.scr h rfl rfl hms3 hrs2
  · rw [if_pos (show nI j ≤ 4 from nI_le (b := 4) (by omega) (by omega)), if_pos (show ¬ nI j = 5 from fun e => h5 ((nI_eq (b := 5) (by omega) (by omega)).mp e))]
    match o, u5, v3 with
    | none, u5, v3 =>
      have p4 : d_4 g (nI j) m3 = some (-2) := by
        unfold d_4
        rw [if_pos (show ¬ nI j = 0 from nI_ne0 (by omega) (by omega)), u5.2.1, if_pos (show (0 : Int32) < nI j from nI_lt (a := 0) (by omega) (by omega))]
      rw [p4, Option.bind_some, v3.2.2.2, if_pos (show (0 : Int32) < nI j from nI_lt (a := 0) (by omega) (by omega))]
      exact St.scr h rfl rfl hms3 hrs2
    | some p, u5, v3 =>
      obtain ⟨M, LL, rr⟩ := p
      have p4 := p_4 (g := g) (j := j) u5.2.2 (by omega)
      have w38 : S2.1 38 = nI LL := v3.2.2.2.2.1
      have wL : LL ≤ 4 := v3.2.2.1
      have w28 : ∀ i, i < LL → S2.2.1 28 i = nI (rr i) := v3.2.2.2.2.2
      rw [p4, Option.bind_some, w38, if_neg h0]
      by_cases h1 : LL < j
      · rw [if_pos h1, if_pos (nI_lt h1 (by omega))]
        exact St.scr h rfl rfl hms3 hrs2
      · rw [if_neg h1, if_neg (nI_nlt (by omega) (by omega))]
        have e := w28 (j - 1) (by omega)
        refine St.scr h (v := nI (rr (j - 1))) rfl ?_ hms3 hrs2
        simp (disch := omega) only [lit_nI, k_sub, k_in, k_cl, if_true, e]
end RT
