/-! receipt: the reference, and the two together -/
/-- the reference has it so -/
def rRc (S : rS) (T : Nat) (s : rcT) : Prop := S.1 36 = nI s.1 ∧ match s.2 with
  | none => s.1 = 0 ∧ S.1 37 = (1 : Int32) <<< (nI T &&& 31) - 1 ∧ S.1 38 = 0
  | some p => 1 ≤ s.1 ∧ p.2.1 ≤ 4 ∧ S.1 37 = p.1 ∧ S.1 38 = nI p.2.1 ∧ ∀ i, i < p.2.1 → S.2.1 28 i = nI (p.2.2 i)
theorem rRc.co {S S' : rS} {T : Nat} {s : rcT} (h : rRc S T s) (e1 : S'.1 36 = S.1 36) (e2 : S'.1 37 = S.1 37) (e3 : S'.1 38 = S.1 38) (e4 : S'.2.1 28 = S.2.1 28) : rRc S' T s := by
  obtain ⟨c, o⟩ := s
  refine ⟨by rw [e1]; exact h.1, ?_⟩
  match o, h with
  | none, h => exact ⟨h.2.1, by rw [e2]; exact h.2.2.1, by rw [e3]; exact h.2.2.2⟩
  | some p, h => exact ⟨h.2.1, h.2.2.1, by rw [e2]; exact h.2.2.2.1, by rw [e3]; exact h.2.2.2.2.1, fun i hi => by rw [e4]; exact h.2.2.2.2.2 i hi⟩
section RR
variable {g k : Nat} {m : cM} {S : rS} {B : rB} {w : Nat → Int32} {q T W C Sa R : Nat} {x : Int32}
theorem p_l30 {D fr : Nat} {P x2 : Int32} {hit : Nat → (Nat → Nat) → Bool} (hg : 2000 ≤ g) (h5 : w 5 = nI fr) (hfr : fr ≤ 9999) (hhit : ∀ L r, hit L r = decide (nI (coN w (fun _ => 0) 0 (sN (fun i => dO B w q (r i) D) L) fr) = P)) : ∀ (j L n : Nat) (m : cM) (s : rcT), L + j = 5 → 1 ≤ L → j * 14000 + 1 ≤ n → cx m B w q x T W C Sa R k → (∀ t, t < T → m.1 75 t = nI (dO B w q t D)) → cRc m P s → s.1 + j * 7000 ≤ 100000 → ∃ m', l_30 g n 0 P x2 (nI L) 0 0 m = some m' ∧ ms m m' ∧ m'.1 71 15 = nI (floR T (rcF hit) j L s).1 ∧ (floR T (rcF hit) j L s).1 ≤ 100000 ∧ (match (floR T (rcF hit) j L s).2 with
    | none => (floR T (rcF hit) j L s).1 = 0 ∧ m'.1 72 2 = 0 ∧ m'.1 71 16 = 0
    | some p => 1 ≤ (floR T (rcF hit) j L s).1 ∧ m'.1 71 16 = p.1 ∧ bst m' (some (P, p.2.1, fun i => nI (p.2.2 i)))) := by
  intro j
  induction j with
  | zero =>
    intro L n m s hj hL hn h h75 hb hcb
    obtain ⟨n, rfl⟩ : ∃ n', n = n' + 1 := ⟨n - 1, by omega⟩
    show ∃ m', l_30 g (n + 1) 0 P x2 (nI L) 0 0 m = some m' ∧ ms m m' ∧ m'.1 71 15 = nI s.1 ∧ s.1 ≤ 100000 ∧ (match s.2 with
    | none => s.1 = 0 ∧ m'.1 72 2 = 0 ∧ m'.1 71 16 = 0
    | some p => 1 ≤ s.1 ∧ m'.1 71 16 = p.1 ∧ bst m' (some (P, p.2.1, fun i => nI (p.2.2 i))))
    rw [l_30, if_pos rfl, if_pos (show (4 : Int32) < nI L from nI_lt (a := 4) (by omega) (by omega)), hb.1]
    obtain ⟨c, o⟩ := s
    have hcb : c + 0 * 7000 ≤ 100000 := hcb
    match o, hb with
    | none, hb =>
      have hc0 : c = 0 := hb.2.1
      subst hc0
      rw [if_neg (show ¬ ¬ nI 0 = 0 from fun z => z rfl)]
      exact ⟨cW m 71 16 0, rfl, ms.W (by omega), by rw [cW_k (by decide)]; exact hb.1, by omega, rfl, by rw [cW_b (by decide)]; exact hb.2.2.2.1, cW_s⟩
    | some p, hb =>
      have hc1 : 1 ≤ c := hb.2.1
      rw [if_pos (show ¬ nI c = 0 from nI_ne0 (by omega) (by omega))]
      exact ⟨m, rfl, ms.rf _, hb.1, by omega, hc1, hb.2.2.1, hb.2.2.2⟩
  | succ j ih =>
    intro L n m s hj hL hn h h75 hb hcb
    obtain ⟨n, rfl⟩ : ∃ n', n = n' + 1 := ⟨n - 1, by omega⟩
    rw [show (j + 1) * 14000 = j * 14000 + 14000 from Nat.succ_mul _ _] at hn
    rw [show (j + 1) * 7000 = j * 7000 + 7000 from Nat.succ_mul _ _] at hcb
    obtain ⟨J, hJ⟩ : ∃ J, J = j * 14000 := ⟨_, rfl⟩
    obtain ⟨J2, hJ2⟩ : ∃ J, J = j * 7000 := ⟨_, rfl⟩
    rw [← hJ] at hn
    rw [← hJ2] at hcb
    have h9 := p94 (L := L) (by omega)
    obtain ⟨m1, y1, y2, y3, y4⟩ := p_16 (g := g) (L := L) (by omega) (by omega) h
    have h1 := h.ms y2
    have f75 := y3 75 (by decide)
    have b1 : cRc m1 P s := hb.co (y3 71 (by decide)) (y3 72 (by decide)) (y3 73 (by decide))
    have e1 : l_30 g (n + 1) 0 P x2 (nI L) 0 0 m = l_30 g n 1 P x2 (nI L) (if L = 0 ∨ 0 < T then 1 else 0) 0 m1 := by
      rw [l_30, if_pos rfl, if_neg (show ¬ (4 : Int32) < nI L from nI_nlt (a := 4) (by omega) (by omega)), y1, Option.bind_some]
    obtain ⟨s1, hs1⟩ : ∃ s1, s1 = if 0 < T then ritR T L (rcF hit L) (9 ^ L) (fun _ => 0) s else s := ⟨_, rfl⟩
    have go : ∃ n' m2, J + 1 ≤ n' ∧ l_30 g n 1 P x2 (nI L) (if L = 0 ∨ 0 < T then 1 else 0) 0 m1 = l_30 g n' 0 P x2 (nI (L + 1)) 0 0 m2 ∧ ms m1 m2 ∧ (∀ a, a ≠ 71 → a ≠ 72 → a ≠ 73 → a ≠ 74 → m2.1 a = m1.1 a) ∧ cRc m2 P s1 ∧ s1.1 ≤ s.1 + 6561 := by
      rw [hs1]
      by_cases hc : 0 < T
      · rw [if_pos (Or.inr hc), if_pos hc]
        have hb1 := ritR_1 (hit := hit) (T := T) (L := L) (K := 9 ^ L) (r := fun _ => 0) (s := s)
        obtain ⟨n', m2, z1, z2, z3, z4, z5⟩ := p_l30b (g := g) (B := B) (w := w) (q := q) (x := x) (T := T) (k := k) (L := L) (D := D) (fr := fr) (P := P) (x2 := x2) (hit := hit) hg hL (by omega) h5 hfr hhit (9 ^ L) n m1 (fun _ => 0) s 0 (by omega) (by omega) (by omega) h1 (fun t ht => by rw [f75]; exact h75 t ht) ⟨fun i hi => hc, fun i hi => Nat.le_refl _⟩ (fun i hi => y4 i (by omega)) b1
        have q1 : J + 1 ≤ n' := by omega
        exact ⟨n', m2, q1, z2, z3, z4, z5, by omega⟩
      · rw [if_neg (show ¬ (L = 0 ∨ 0 < T) by omega), if_neg hc]
        obtain ⟨n, rfl⟩ : ∃ n', n = n' + 2 := ⟨n - 2, by omega⟩
        have q1 : J + 1 ≤ n := by omega
        exact ⟨n, m1, q1, by rw [l30_z, show nI L + 1 = nI (L + 1) from nI_1 L], ms.rf _, fun _ _ _ _ _ => rfl, b1, by omega⟩
    obtain ⟨n', m2, z1, z2, z3, z4, z5, z6⟩ := go
    have g75 : m2.1 75 = m.1 75 := (z4 75 (by decide) (by decide) (by decide) (by decide)).trans f75
    have q2 : s1.1 + J2 ≤ 100000 := by omega
    obtain ⟨m', v1, v2, v3⟩ := ih (L + 1) n' m2 s1 (by omega) (by omega) (by rw [← hJ]; exact z1) (h1.ms z3) (fun t ht => by rw [g75]; exact h75 t ht) z5 (by rw [← hJ2]; exact q2)
    have ef : floR T (rcF hit) (j + 1) L s = floR T (rcF hit) j (L + 1) s1 := by rw [hs1]; rfl
    rw [ef]
    refine ⟨m', ?_, (y2.tr z3).tr v2, v3⟩
    rw [e1, z2]
    exact v1
/-- the row is kept -/
theorem q_l258e {r : Nat → Nat} {L : Nat} {x2 x3 x4 x5 : Int32} (hL : L ≤ 4) : ∀ (j i n : Nat) (S : rS), i + j = L → j + 2 ≤ n → (∀ d, d < L → S.2.1 31 d = nI (r d)) → (∀ d, d < i → S.2.1 28 d = nI (r d)) → ∃ S', l_258 g n 1 (nI L) x2 x3 x4 x5 (nI i) S = some (rF S' 36 (S'.1 36 + 1)) ∧ rc [] [28] S S' ∧ (∀ d, d < L → S'.2.1 28 d = nI (r d)) := by
  intro j
  induction j with
  | zero =>
    intro i n S hi hn h1 h2
    obtain ⟨n, rfl⟩ : ∃ n', n = n' + 2 := ⟨n - 2, by omega⟩
    have e : i = L := by omega
    subst e
    refine ⟨S, ?_, rc.rf _, h2⟩
    rw [l_258, if_neg (by decide), if_pos rfl, if_pos (Int32.le_refl _), l_258, if_neg (by decide), if_neg (by decide), if_pos rfl]
  | succ j ih =>
    intro i n S hi hn h1 h2
    obtain ⟨n, rfl⟩ : ∃ n', n = n' + 1 := ⟨n - 1, by omega⟩
    have r1 := h1 i (by omega)
    obtain ⟨S', y1, y2, y3⟩ := ih (i + 1) n (rA S 28 (upd (S.2.1 28) i (nI (r i)))) (by omega) (by omega) (fun d hd => by rw [rA_n (by decide)]; exact h1 d hd) (by
      intro d hd
      rw [rA_s]
      by_cases e : d = i
      · subst e; rw [upd_s]
      · rw [upd_n e]; exact h2 d (by omega))
    refine ⟨S', ?_, (rc.A (by decide)).tr y2, y3⟩
    rw [l_258]
    simp (disch := omega) only [Nat.one_ne_zero, if_true, if_false, k_leF, k_in, k_cl, r1, lit_nI, nI_add]
    exact y1
theorem q_l258a {r : Nat → Nat} {L D : Nat} {x2 : Int32} (hg : 2000 ≤ g) (hL : L ≤ 4) (hV : shV w T W C Sa) (hst : stV w T C k) (hR : rbR m.1 B R) (hq : q ≤ R) (hrT : ∀ i, i < L → r i < T) : ∀ (j i n : Nat) (S : rS), i + j = L → j ≤ n → rx S B w q x R → (∀ d, d < L → S.2.1 31 d = nI (r d)) → ∃ S', l_258 g n 0 (nI L) x2 (nI D) (nI (sN (fun i => dO B w q (r i) D) i)) (rcm r i) (nI i) S = l_258 g (n - j) 0 (nI L) x2 (nI D) (nI (sN (fun i => dO B w q (r i) D) L)) (rcm r L) (nI L) S' ∧ rc [18] [] S S' := by
  have hT8 := hV.1.2
  intro j
  induction j with
  | zero =>
    intro i n S hi hn hx h31
    have e : i = L := by omega
    subst e
    exact ⟨S, rfl, rc.rf _⟩
  | succ j ih =>
    intro i n S hi hn hx h31
    obtain ⟨n, rfl⟩ : ∃ n', n = n' + 1 := ⟨n - 1, by omega⟩
    have hri := hrT i (by omega)
    have r1 := h31 i (by omega)
    obtain ⟨S1, y1, y2, -⟩ := q_199 (g := g) (S := S) (m := m) (t := r i) (d := D) hg hx hV hR hq (hst.2.2.2.2.1 (r i) hri).1 hri
    have hx1 : rx S1 B w q x R := hx.rs (rs.of18 y2)
    have e31 : S1.2.1 31 = S.2.1 31 := y2.2 31 (by simp)
    have r1' : S1.2.1 31 i = nI (r i) := by rw [e31]; exact r1
    obtain ⟨S', z1, z2⟩ := ih (i + 1) n S1 (by omega) (by omega) hx1 (fun d hd => by rw [e31]; exact h31 d hd)
    refine ⟨S', ?_, y2.tr z2⟩
    rw [show n + 1 - (j + 1) = n - j by omega, ← z1, l_258, if_pos rfl, if_neg (nI_ge (by omega) (by omega)), if_pos (k_in (by omega) (by omega)), k_cl (by omega), r1, y1, Option.bind_some, if_pos (k_in (by omega) (by omega)), r1', nI_add, show nI i + 1 = nI (i + 1) from nI_1 i]
    rfl
/-- one row of the reference -/
theorem q_258 {r : Nat → Nat} {L D fr : Nat} {P : Int32} {s : rcT} {hit : Nat → (Nat → Nat) → Bool} (hg : 2000 ≤ g) (hL : L ≤ 4) (hx : rx S B w q x R) (hV : shV w T W C Sa) (hst : stV w T C k) (hR : rbR m.1 B R) (hq : q ≤ R) (h5 : w 5 = nI fr) (hfr : fr ≤ 9999) (hhit : ∀ L r, hit L r = decide (nI (coN w (fun _ => 0) 0 (sN (fun i => dO B w q (r i) D) L) fr) = P)) (hrT : ∀ i, i < L → r i < T) (h31 : ∀ d, d < L → S.2.1 31 d = nI (r d)) (hb : rRc S T s) (hcb : s.1 ≤ 200000) : ∃ S', d_258 g (nI L) P (nI D) S = some S' ∧ rRc S' T (rcF hit L r s) ∧ rc [18, 24, 25, 36, 37, 38] [28] S S' := by
  have hT8 := hV.1.2
  have hsb := sN_b (f := fun i => dO B w q (r i) D) (c := 9999) (n := L) (fun j hj => (dO_b hV (hrT j hj)).2)
  have hsb2 : L * 9999 ≤ 4 * 9999 := Nat.mul_le_mul_right _ hL
  obtain ⟨S1, y1, y2⟩ := q_l258a (g := g) (m := m) (x2 := P) (D := D) hg hL hV hst hR hq hrT L 0 g S (by omega) (by omega) hx h31
  have hx1 : rx S1 B w q x R := hx.rs (rs.of18 y2)
  obtain ⟨S2, z1, z2, -⟩ := q_208 (g := g) (S := S1) (w := w) (s := sN (fun i => dO B w q (r i) D) L) (fr := fr) (by omega) hV hx1.1 h5 hfr (by omega)
  obtain ⟨n1, hn1⟩ : ∃ q, g - L = q + 10 := ⟨g - L - 10, by omega⟩
  rw [hn1] at y1
  have hrc2 : rc [18, 24, 25, 36, 37, 38] [28] S S2 := (y2.mo (by decide) (by decide)).tr (z2.mo (by decide) (by decide))
  have a2 : rc [18, 24, 25] [] S S2 := (y2.mo (by decide) (by decide)).tr (z2.mo (by decide) (by decide))
  have b2 : rRc S2 T s := hb.co (a2.1 36 (by decide)) (a2.1 37 (by decide)) (a2.1 38 (by decide)) (a2.2 28 (by simp))
  have f31 : ∀ d, d < L → S2.2.1 31 d = nI (r d) := fun d hd => by rw [a2.2 31 (by simp)]; exact h31 d hd
  have hd : d_258 g (nI L) P (nI D) S = l_258 g (n1 + 10) 0 (nI L) P (nI D) (nI (sN (fun i => dO B w q (r i) D) L)) (rcm r L) (nI L) S1 := by
    unfold d_258
    exact y1
  rw [hd, l_258, if_pos rfl, if_pos (Int32.le_refl _), z1, Option.bind_some]
  unfold rcF
  rw [hhit]
  by_cases hk : nI (coN w (fun _ => 0) 0 (sN (fun i => dO B w q (r i) D) L) fr) = P
  · rw [if_pos hk, if_pos (decide_eq_true hk)]
    obtain ⟨c, o⟩ := s
    have hcb : c ≤ 200000 := hcb
    have e36 : S2.1 36 = nI c := b2.1
    rw [show (nI (coN w (fun _ => 0) 0 (sN (fun i => dO B w q (r i) D) L) fr), S2).2 = S2 from rfl, e36]
    match o, b2 with
    | none, b2 =>
      have hc0 : c = 0 := b2.2.1
      subst hc0
      rw [if_neg (show ¬ ¬ nI 0 = 0 from fun z => z rfl)]
      have e37 : S2.1 37 &&& rcm r L = rcm r L := by
        rw [b2.2.2.1]
        exact rcm_k (c_T hT8) hrT
      rw [e37]
      obtain ⟨S3, u1, u2, u3⟩ := q_l258e (g := g) (r := r) (L := L) (x2 := P) (x3 := nI D) (x4 := nI (sN (fun i => dO B w q (r i) D) L)) (x5 := rcm r L) hL L 0 (n1 + 9) (rF (rF S2 37 (rcm r L)) 38 (nI L)) (by omega) (by omega) f31 (fun d hd => absurd hd (by omega))
      have g36 : S3.1 36 = nI 0 := by rw [u2.1 36 (by simp), rF_n (by decide), rF_n (by decide)]; exact e36
      refine ⟨_, u1, ⟨by rw [rF_s, g36]; rfl, by omega, hL, ?_, ?_, u3⟩, ?_⟩
      · rw [rF_n (by decide), u2.1 37 (by simp), rF_n (by decide), rF_s]
      · rw [rF_n (by decide), u2.1 38 (by simp), rF_s]
      · exact (((hrc2.tr (rc.F (by decide))).tr (rc.F (by decide))).tr (u2.mo (by decide) (by decide))).tr (rc.F (by decide))
    | some p, b2 =>
      obtain ⟨c1, c2, c3, c4, c5⟩ := b2.2
      have c1 : 1 ≤ c := c1
      rw [if_pos (show ¬ nI c = 0 from nI_ne0 (by omega) (by omega)), c3, l_258, if_neg (by decide), if_neg (by decide), if_pos rfl]
      refine ⟨_, rfl, ⟨?_, by show 1 ≤ c + 1; omega, c2, ?_, ?_, c5⟩, (hrc2.tr (rc.F (by decide))).tr (rc.F (by decide))⟩
      · rw [rF_s, rF_n (by decide), e36]
        exact nI_1 c
      · rw [rF_n (by decide), rF_s]
      · rw [rF_n (by decide), rF_n (by decide)]; exact c4
  · rw [if_neg hk, if_neg (fun z => hk (of_decide_eq_true z))]
    exact ⟨S2, rfl, b2, hrc2⟩
end RR
