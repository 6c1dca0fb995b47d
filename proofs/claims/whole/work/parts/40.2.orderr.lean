theorem off_some (b : bO) (v : Int32) (L : Nat) (r : Nat → Int32) : ∃ p, off b v L r = some p := by
  match b with
  | none => exact ⟨_, rfl⟩
  | some q =>
    by_cases h : v < q.1
    · exact ⟨_, if_pos h⟩
    · exact ⟨_, if_neg h⟩
section OQ
variable {g k : Nat} {m : cM} {S : rS} {B : rB} {w : Nat → Int32} {q T W C Sa R : Nat} {x : Int32}
theorem q_l231 {row : Nat → Nat} {L c A : Nat} (hL : L ≤ 5) (hc : c < 5) (hA : w (123 + 4 * c) = nI A) (hA2 : A < 32) (h20 : S.2.1 20 = w) (hr : ∀ i, i < L → S.2.1 23 i = nI (row i) ∧ row i < 5) : ∀ (j i n : Nat), i + j = L → j + 1 ≤ n → l_231 g n 0 (nI c) (nI L) (nI i) S = some (if gw row c A j i = true then 1 else 0, S) := by
  intro j
  induction j with
  | zero =>
    intro i n hi hn
    obtain ⟨n, rfl⟩ : ∃ n', n = n' + 1 := ⟨n - 1, by omega⟩
    have e : i = L := by omega
    subst e
    rw [show (if gw row c A 0 i = true then (1 : Int32) else 0) = 1 from if_pos rfl]
    rw [l_231, if_pos rfl, if_pos (Int32.le_refl _)]
  | succ j ih =>
    intro i n hi hn
    obtain ⟨n, rfl⟩ : ∃ n', n = n' + 1 := ⟨n - 1, by omega⟩
    obtain ⟨r1, r2⟩ := hr i (by omega)
    have k3 : d_194 g (nI c) (nI 3) S = some (nI A, S) := by rw [q_194 (by omega) (by omega), h20, show 120 + 4 * c + 3 = 123 + 4 * c by omega, hA]
    have hb := bit_of hA2 r2
    have e141 : d_141 g (nI A) (nI (row i)) S = some (nI (A / 2 ^ row i % 2), S) := by
      unfold d_141
      rw [show (1 : Int32) = nI 1 from rfl, hb]
      have hm : A / 2 ^ row i % 2 = 0 ∨ A / 2 ^ row i % 2 = 1 := by omega
      rcases hm with hm | hm <;> rw [hm]
      · rw [if_pos (by decide)]; rfl
      · rw [if_neg (by decide)]
    rw [l_231]
    simp (disch := omega) only [if_true, k_leF, if_false, k_in, k_cl, r1, lit_nI, k3, Option.bind_some, e141, nI_add]
    rw [show gw row c A (j + 1) i = if row i = c ∨ A / 2 ^ row i % 2 = 1 then false else gw row c A j (i + 1) from rfl]
    have hm : A / 2 ^ row i % 2 = 0 ∨ A / 2 ^ row i % 2 = 1 := by omega
    by_cases h1 : row i = c
    · rw [if_pos (by rw [h1]), if_pos (Or.inl h1)]; rfl
    · rw [if_neg (fun e => h1 ((nI_eq (by omega) (by omega)).mp e))]
      rcases hm with h2 | h2
      · rw [h2, if_pos rfl, if_neg (show ¬ (row i = c ∨ 0 = 1) from fun q => q.elim h1 (by decide))]
        exact ih (i + 1) n (by omega) (by omega)
      · rw [h2, if_neg (by decide), if_pos (Or.inr rfl)]; rfl
/-- canLayNext -/
theorem q_231 {row : Nat → Nat} {L c : Nat} (hg : 100 ≤ g) (hV : shV w T W C Sa) (hu : w (69 + c) = nI 0 ∨ w (69 + c) = nI 1) (hL : L ≤ 5) (hc : c < C) (h20 : S.2.1 20 = w) (hr : ∀ i, i < L → S.2.1 23 i = nI (row i) ∧ row i < C) : d_231 g (nI c) (nI L) S = some (if okc w row L c = true then 1 else 0, S) := by
  have hC5 := hV.2.2.1.2
  obtain ⟨A, hA1, hA2⟩ := (hV.2.2.2.2.2.2.2.2.2.2.2 c hc).2.2
  have nA : nN (w (123 + 4 * c)) = A := by rw [hA2]; exact n_cl (by omega)
  have e69 : S.2.1 20 (69 + c) = w (69 + c) := by rw [h20]
  unfold d_231
  simp (disch := omega) only [lit_nI, nI_add, k_in, k_cl, if_true, e69]
  rcases hu with hu | hu
  · rw [hu, if_pos (by decide)]
    have := q_l231 (g := g) (S := S) (row := row) (L := L) (c := c) (A := A) hL (by omega) hA2 (by omega) h20 (fun i hi => ⟨(hr i hi).1, by have := (hr i hi).2; omega⟩) L 0 g (by omega) (by omega)
    rw [this]
    unfold okc
    rw [hu, nA, decide_eq_true rfl, Bool.true_and]
    rfl
  · rw [hu, if_neg (by decide)]
    unfold okc
    rw [hu, decide_eq_false (by decide), Bool.false_and]
    rfl
def fbN : Nat → Nat
  | 0 => 0
  | d + 1 => 5 * (fbN d + 3) + 3
theorem l233_0 {n L : Nat} {v : Int32} (hL : L < 5) (h : S.2.1 23 L = v) : l_233 g (n + 1) 0 (nI L) S = l_233 g n 1 (nI L) (rA S 23 (upd (S.2.1 23) L (v + nI 1))) := by
  rw [l_233]
  simp (disch := omega) only [if_true, lit_nI, k_ltF, if_false, k_in, k_cl, h]
theorem l233_e {n : Nat} {y : Int32} (h : y < 0) : l_233 g (n + 1) 0 y S = some S := by
  rw [l_233, if_pos rfl, if_pos h]
/-- the walk over the rows from one on -/
theorem q_l233 {D fr : Nat} {cst : (Nat → Nat) → Nat → Int32} (hg : 2000 ≤ g) (hV : shV w T W C Sa) (hst : stV w T C k) (hR : rbR m.1 B R) (hq : q ≤ R) (hD : w 7 = nI D) (h5 : w 5 = nI fr) (hfr : fr ≤ 9999) (hu : ∀ c, c < 5 → w (69 + c) = nI 0 ∨ w (69 + c) = nI 1) (hcst : ∀ row L, cst row L = nI (if bM w T = 0 then 0 else coN w row L (bS B w q T D) fr)) : ∀ (d L : Nat) (row : Nat → Nat), L + d + 1 = C → (∀ i, i < L → row i < C) → ∀ (j c n : Nat) (S : rS) (b : bO), c + j = C → j * (fbN d + 3) + 3 ≤ n → rx S B w q x R → (∀ i, i < L → S.2.1 23 i = nI (row i)) → S.2.1 23 L = nI c → rst S b → ∃ n' S', n ≤ n' + (j * (fbN d + 3) + 2) ∧ l_233 g n 1 (nI L) S = l_233 g n' 0 (nI L + -nI 1) S' ∧ rx S' B w q x R ∧ (∀ i, i < L → S'.2.1 23 i = nI (row i)) ∧ rst S' (och (fun c b => vis C (okc w) cst d (L + 1) (up1 row L c) (off b (cst (up1 row L c) (L + 1)) (L + 1) (fun i => nI (up1 row L c i)))) (okc w row L) j c b) ∧ rc [18, 24, 25, 29, 30] [23, 28] S S' := by
  have hC5 := hV.2.2.1.2
  intro d
  induction d with
  | zero =>
    intro L row hLC hrow j
    induction j with
    | zero =>
      intro c n S b hc hn hx hr hcl hb
      obtain ⟨n, rfl⟩ : ∃ n', n = n' + 2 := ⟨n - 2, by omega⟩
      have e : c = C := by omega
      subst e
      have e3 : S.2.1 20 3 = nI c := by rw [hx.1]; exact hV.2.2.1.1
      refine ⟨n, S, by omega, ?_, hx, hr, hb, rc.rf _⟩
      rw [l_233]
      simp (disch := omega) only [Nat.one_ne_zero, if_true, if_false, k_in, k_cl, lit_nI, e3, hcl, Int32.le_refl]
      rw [l_233]
      simp (disch := omega) only [Nat.reduceEqDiff, if_true, if_false, k_in, k_cl, lit_nI, e3, hcl, k_ltF]
    | succ j ihj =>
      intro c n S b hc hn hx hr hcl hb
      have e3 : ∀ S' : rS, rx S' B w q x R → S'.2.1 20 3 = nI C := fun S' hx' => by rw [hx'.1]; exact hV.2.2.1.1
      have e3S := e3 S hx
      have q231 := q_231 (g := g) (S := S) (row := row) (L := L) (c := c) (by omega) hV (hu c (by omega)) (by omega) (by omega) hx.1 (fun i hi => ⟨hr i hi, hrow i hi⟩)
      have hmul : (j + 1) * (fbN 0 + 3) = j * (fbN 0 + 3) + 3 := by rw [Nat.succ_mul]; rfl
      by_cases hk : okc w row L c = true
      · obtain ⟨n, rfl⟩ : ∃ n', n = n' + 3 := ⟨n - 3, by omega⟩
        have hrow1 : ∀ i, i < L + 1 → S.2.1 23 i = nI (up1 row L c i) ∧ up1 row L c i < C := fun i hi => by
          unfold up1
          by_cases e : i = L
          · rw [if_pos e, e]; exact ⟨hcl, by omega⟩
          · rw [if_neg e]; exact ⟨hr i (by omega), hrow i (by omega)⟩
        obtain ⟨S1, y1, y2, y3⟩ := q_232 (g := g) (m := m) (S := S) (row := up1 row L c) (L := L + 1) hg hx hV hst hR hq hD h5 hfr (by omega) hrow1 hb
        have hx1 : rx S1 B w q x R := hx.rs (y3.mo (by decide) (by decide))
        have e23 : S1.2.1 23 = S.2.1 23 := y3.2 23 (by decide)
        have hx2 : rx (rA S1 23 (upd (S1.2.1 23) L (nI (c + 1)))) B w q x R := hx1.rs (rc.A (by decide))
        obtain ⟨n', S', z1, z2, z3, z4, z5, z6⟩ := ihj (c + 1) n (rA S1 23 (upd (S1.2.1 23) L (nI (c + 1)))) (off b (cst (up1 row L c) (L + 1)) (L + 1) (fun i => nI (up1 row L c i))) (by omega) (by omega) hx2 (fun i hi => by rw [rA_s, upd_n (by omega), e23]; exact hr i hi) (by rw [rA_s, upd_s]) (by rw [hcst]; exact y2.co rfl rfl (rA_n (by decide)))
        refine ⟨n', S', by omega, ?_, z3, z4, ?_, ((y3.mo (by decide) (by decide)).tr (rc.A (by decide))).tr z6⟩
        · rw [l_233]
          simp (disch := omega) only [Nat.one_ne_zero, if_true, if_false, k_in, k_cl, lit_nI, e3S, hcl, k_leF, q231, Option.bind_some, hk, k_eqF, not_false_eq_true]
          rw [l_233]
          simp (disch := omega) only [Nat.reduceEqDiff, if_true, if_false, k_in, k_cl, lit_nI, e3S, hcl, k_ltT, nI_add, y1, Option.bind_some, e3 S1 hx1, k_leT]
          rw [l233_0 (v := nI c) (by omega) (by rw [e23]; exact hcl), nI_add]
          exact z2
        · show rst S' (och _ _ j (c + 1) (if okc w row L c = true then _ else b))
          rw [if_pos hk]
          exact z5
      · obtain ⟨n, rfl⟩ : ∃ n', n = n' + 1 := ⟨n - 1, by omega⟩
        have hx2 : rx (rA S 23 (upd (S.2.1 23) L (nI (c + 1)))) B w q x R := hx.rs (rc.A (by decide))
        obtain ⟨n', S', z1, z2, z3, z4, z5, z6⟩ := ihj (c + 1) n (rA S 23 (upd (S.2.1 23) L (nI (c + 1)))) b (by omega) (by omega) hx2 (fun i hi => by rw [rA_s, upd_n (by omega)]; exact hr i hi) (by rw [rA_s, upd_s]) (hb.co rfl rfl (rA_n (by decide)))
        refine ⟨n', S', by omega, ?_, z3, z4, ?_, (rc.A (by decide)).tr z6⟩
        · rw [l_233]
          simp (disch := omega) only [Nat.one_ne_zero, if_true, if_false, k_in, k_cl, lit_nI, e3S, hcl, k_leF, q231, Option.bind_some, hk, k_eqT, not_true, nI_add]
          exact z2
        · show rst S' (och _ _ j (c + 1) (if okc w row L c = true then _ else b))
          rw [if_neg hk]
          exact z5
  | succ d ihd =>
    intro L row hLC hrow j
    induction j with
    | zero =>
      intro c n S b hc hn hx hr hcl hb
      obtain ⟨n, rfl⟩ : ∃ n', n = n' + 2 := ⟨n - 2, by omega⟩
      have e : c = C := by omega
      subst e
      have e3 : S.2.1 20 3 = nI c := by rw [hx.1]; exact hV.2.2.1.1
      refine ⟨n, S, by omega, ?_, hx, hr, hb, rc.rf _⟩
      rw [l_233]
      simp (disch := omega) only [Nat.one_ne_zero, if_true, if_false, k_in, k_cl, lit_nI, e3, hcl, Int32.le_refl]
      rw [l_233]
      simp (disch := omega) only [Nat.reduceEqDiff, if_true, if_false, k_in, k_cl, lit_nI, e3, hcl, k_ltF]
    | succ j ihj =>
      intro c n S b hc hn hx hr hcl hb
      have e3 : ∀ S' : rS, rx S' B w q x R → S'.2.1 20 3 = nI C := fun S' hx' => by rw [hx'.1]; exact hV.2.2.1.1
      have e3S := e3 S hx
      have q231 := q_231 (g := g) (S := S) (row := row) (L := L) (c := c) (by omega) hV (hu c (by omega)) (by omega) (by omega) hx.1 (fun i hi => ⟨hr i hi, hrow i hi⟩)
      have hmul : (j + 1) * (fbN (d + 1) + 3) = j * (fbN (d + 1) + 3) + (fbN (d + 1) + 3) := by rw [Nat.succ_mul]
      have hfb : fbN (d + 1) = 5 * (fbN d + 3) + 3 := rfl
      have hCm : C * (fbN d + 3) ≤ 5 * (fbN d + 3) := Nat.mul_le_mul_right _ hC5
      by_cases hk : okc w row L c = true
      · obtain ⟨n, rfl⟩ : ∃ n', n = n' + 3 := ⟨n - 3, by omega⟩
        have hrow1 : ∀ i, i < L + 1 → S.2.1 23 i = nI (up1 row L c i) ∧ up1 row L c i < C := fun i hi => by
          unfold up1
          by_cases e : i = L
          · rw [if_pos e, e]; exact ⟨hcl, by omega⟩
          · rw [if_neg e]; exact ⟨hr i (by omega), hrow i (by omega)⟩
        obtain ⟨S1, y1, y2, y3⟩ := q_232 (g := g) (m := m) (S := S) (row := up1 row L c) (L := L + 1) hg hx hV hst hR hq hD h5 hfr (by omega) hrow1 hb
        have hx1 : rx S1 B w q x R := hx.rs (y3.mo (by decide) (by decide))
        have e23 : S1.2.1 23 = S.2.1 23 := y3.2 23 (by decide)
        obtain ⟨S2, hS2⟩ : ∃ S2, S2 = rA S1 23 (upd (S1.2.1 23) (L + 1) (-nI 1)) := ⟨_, rfl⟩
        have hx2 : rx S2 B w q x R := by rw [hS2]; exact hx1.rs (rc.A (by decide))
        have g23 : S2.2.1 23 (L + 1) = -nI 1 := by rw [hS2, rA_s, upd_s]
        have e0 : (-nI 1 : Int32) + nI 1 = nI 0 := by decide
        obtain ⟨S3, hS3⟩ : ∃ S3, S3 = rA S2 23 (upd (S2.2.1 23) (L + 1) (nI 0)) := ⟨_, rfl⟩
        have hx3 : rx S3 B w q x R := by rw [hS3]; exact hx2.rs (rc.A (by decide))
        have r3 : ∀ i, i < L + 1 → S3.2.1 23 i = nI (up1 row L c i) := fun i hi => by
          rw [hS3, rA_s, upd_n (by omega), hS2, rA_s, upd_n (by omega), e23]; exact (hrow1 i hi).1
        have b3 : rst S3 (off b (cst (up1 row L c) (L + 1)) (L + 1) (fun i => nI (up1 row L c i))) := by
          rw [hcst]
          exact y2.co (by rw [hS3, hS2]) (by rw [hS3, hS2]) (by rw [hS3, rA_n (by decide), hS2, rA_n (by decide)])
        obtain ⟨n1, S4, v1, v2, v3, v4, v5, v6⟩ := ihd (L + 1) (up1 row L c) (by omega) (fun i hi => (hrow1 i hi).2) C 0 n S3 _ (by omega) (by omega) hx3 r3 (by rw [hS3, rA_s, upd_s]) b3
        have hL1 : nI (L + 1) + -nI 1 = nI L := k_m1n (by omega)
        rw [hL1] at v2
        have g4 : S4.2.1 23 L = nI c := by
          have := v4 L (by omega)
          unfold up1 at this
          rw [if_pos rfl] at this
          exact this
        obtain ⟨n2, rfl⟩ : ∃ q, n1 = q + 1 := ⟨n1 - 1, by omega⟩
        have hx5 : rx (rA S4 23 (upd (S4.2.1 23) L (nI (c + 1)))) B w q x R := v3.rs (rc.A (by decide))
        obtain ⟨n', S', z1, z2, z3, z4, z5, z6⟩ := ihj (c + 1) n2 (rA S4 23 (upd (S4.2.1 23) L (nI (c + 1)))) _ (by omega) (by omega) hx5 (fun i hi => by
          rw [rA_s, upd_n (by omega)]
          have := v4 i (by omega)
          unfold up1 at this
          rw [if_neg (by omega)] at this
          exact this) (by rw [rA_s, upd_s]) (v5.co rfl rfl (rA_n (by decide)))
        refine ⟨n', S', by omega, ?_, z3, z4, ?_, ?_⟩
        · rw [l_233]
          simp (disch := omega) only [Nat.one_ne_zero, if_true, if_false, k_in, k_cl, lit_nI, e3S, hcl, k_leF, q231, Option.bind_some, hk, k_eqF, not_false_eq_true]
          rw [l_233]
          simp (disch := omega) only [Nat.reduceEqDiff, if_true, if_false, k_in, k_cl, lit_nI, e3S, hcl, k_ltT, nI_add, y1, Option.bind_some, e3 S1 hx1, k_leF]
          rw [← hS2, l233_0 (by omega) g23, e0, ← hS3, v2, l233_0 (by omega) g4, nI_add]
          exact z2
        · show rst S' (och _ _ j (c + 1) (if okc w row L c = true then _ else b))
          rw [if_pos hk]
          exact z5
        · have a2 : rc [18, 24, 25, 29, 30] [23, 28] S1 S2 := by rw [hS2]; exact rc.A (by decide)
          have a3 : rc [18, 24, 25, 29, 30] [23, 28] S2 S3 := by rw [hS3]; exact rc.A (by decide)
          exact (((((y3.mo (by decide) (by decide)).tr a2).tr a3).tr v6).tr (rc.A (by decide))).tr z6
      · obtain ⟨n, rfl⟩ : ∃ n', n = n' + 1 := ⟨n - 1, by omega⟩
        have hx2 : rx (rA S 23 (upd (S.2.1 23) L (nI (c + 1)))) B w q x R := hx.rs (rc.A (by decide))
        obtain ⟨n', S', z1, z2, z3, z4, z5, z6⟩ := ihj (c + 1) n (rA S 23 (upd (S.2.1 23) L (nI (c + 1)))) b (by omega) (by omega) hx2 (fun i hi => by rw [rA_s, upd_n (by omega)]; exact hr i hi) (by rw [rA_s, upd_s]) (hb.co rfl rfl (rA_n (by decide)))
        refine ⟨n', S', by omega, ?_, z3, z4, ?_, (rc.A (by decide)).tr z6⟩
        · rw [l_233]
          simp (disch := omega) only [Nat.one_ne_zero, if_true, if_false, k_in, k_cl, lit_nI, e3S, hcl, k_leF, q231, Option.bind_some, hk, k_eqT, not_true, nI_add]
          exact z2
        · show rst S' (och _ _ j (c + 1) (if okc w row L c = true then _ else b))
          rw [if_neg hk]
          exact z5
set_option maxHeartbeats 1000000 in
theorem sp_order (hg : 100000 ≤ g) (h : Inv k m S) (a : Int32) : St k (d_121 g a m) (d_234 g a S) := by
  obtain ⟨-, -, w, q, x, T, W, C, Sa, R, hc, hr, hpa, him⟩ := id h
  have hV := hc.2.1
  have hst := hc.2.2.1
  have hC5 := hV.2.2.1.2
  obtain ⟨D, hDk, hD⟩ := hst.1
  obtain ⟨fr, hf1, hf2⟩ := hV.2.2.2.2.2.2.1
  unfold d_121 d_234
  rw [if_pos hc.cy.1]
  rcases is_op (g := g) hc hr with ⟨e1, e2, -⟩ | ⟨e1, e2⟩
  · rw [if_pos e1, e2]
    exact St.no h rfl rfl
  rw [if_neg e1, e2]
  simp only [Option.bind_some, z10, if_false]
  rw [q_140 (a := 0) (b := 5) (a' := 0) (b' := 5) (by decide) (by decide), Option.bind_some]
  by_cases ha : (0 : Int32) ≤ a ∧ a ≤ 5
  case neg =>
    rw [if_neg ha]
    simp only [z00, not_true, if_false]
    refine St.no h (v := -3) ?_ rfl
    by_cases h3 : a < 0
    · rw [if_pos h3]
    · rw [if_neg h3, if_neg (fun q => ha ⟨Int32.not_lt.mp h3, q⟩)]
  case pos =>
    obtain ⟨j, -, hj, rfl⟩ := rng (a := 0) (b := 5) (by omega) (by omega) ha
    have hSb := bS_b (B := bS3 S) (q := q) (D := D) hV hst
    have hM := bM_b hst hV.1.2
    -- the class
    obtain ⟨m1, y1, y2, y3, y4, y5⟩ := p_1 (g := g) (m := m)
    have hc1 := hc.ms y3
    obtain ⟨m2, z1, z2, z3, z4, z5, z6⟩ := p_12 (g := g) (d := D) (by omega) hc1
    have hc2 := hc1.ms z2
    obtain ⟨m3, u1, u2, u3, u4, u5⟩ := p_R14 (g := g) (B := bS3 S) (q := q) (x := x) (k := k) (s := bS (bS3 S) w q T D) (z := bM w T) (fr := fr) (by omega) (by omega) hM hf2 hf1 C 0 8 m2 (fun _ => 0) none (by omega) (by omega) hc2 ⟨z3, z4⟩ (fun i hi => absurd hi (by omega)) (fun i j _ hj => absurd hj (by omega)) (y2.co (z6 72 (by decide) (by decide)) (z6 73 (by decide) (by decide)))
    have e13 : m1.1 19 13 = nI D := hc1.1.2.1.1.2.2.2.2.trans hD
    have ed13 : d_13 g m = some m3 := by
      unfold d_13 d_14
      rw [y1, Option.bind_some, e13, z1, Option.bind_some, show (0 : Int32) = nI 0 from rfl, u1]
      rfl
    -- the reference
    obtain ⟨U, hU1, -, hU3⟩ := hc.1.2.1.2.2.2.2.2.2
    have hu : ∀ c, c < 5 → w (69 + c) = nI 0 ∨ w (69 + c) = nI 1 := fun c hc => (p_77 (g := g) (by assumption) hc).2
    have hx0 : rx (rF S 29 (-1)) (bS3 S) w q x R := hr.rs (rc.F (by decide))
    obtain ⟨S1, s1, s2, s3⟩ := q_232 (g := g) (m := m) (S := rF S 29 (-1)) (row := fun _ => 0) (L := 0) (b := none) (by omega) hx0 hV hst hc.2.2.2.2.2.2 hc.2.2.2.2.1 hD hf2 hf1 (by omega) (fun i hi => absurd hi (by omega)) rF_s
    have hx1 : rx S1 (bS3 S) w q x R := hx0.rs (s3.mo (by decide) (by decide))
    obtain ⟨S2, hS2⟩ : ∃ S2, S2 = rA S1 23 (upd (S1.2.1 23) 0 (-1)) := ⟨_, rfl⟩
    have hx2 : rx S2 (bS3 S) w q x R := by rw [hS2]; exact hx1.rs (rc.A (by decide))
    have g23 : S2.2.1 23 0 = -nI 1 := by rw [hS2, rA_s, upd_s]; rfl
    obtain ⟨S3, hS3⟩ : ∃ S3, S3 = rA S2 23 (upd (S2.2.1 23) 0 (nI 0)) := ⟨_, rfl⟩
    have hx3 : rx S3 (bS3 S) w q x R := by rw [hS3]; exact hx2.rs (rc.A (by decide))
    have hrs3 : rs S S3 := by
      have a2 : rs S1 S2 := by rw [hS2]; exact rc.A (by decide)
      have a3 : rs S2 S3 := by rw [hS3]; exact rc.A (by decide)
      exact (((rc.F (by decide)).tr (s3.mo (by decide) (by decide))).tr a2).tr a3
    have b3 : rst S3 (off none (nI (if bM w T = 0 then 0 else coN w (fun _ => 0) 0 (bS (bS3 S) w q T D) fr)) 0 (fun i => nI 0)) := s2.co (by rw [hS3, hS2]) (by rw [hS3, hS2]) (by rw [hS3, rA_n (by decide), hS2, rA_n (by decide)])
    obtain ⟨g1, hg1⟩ : ∃ q, g = q + 1 := ⟨g - 1, by omega⟩
    have e0 : (-nI 1 : Int32) + nI 1 = nI 0 := by decide
    obtain ⟨S4, v1, v2, v3⟩ : ∃ S4, d_233 g S = some S4 ∧ rs S S4 ∧ rst S4 (vis C (okc w) (fun row L => nI (if bM w T = 0 then 0 else coN w row L (bS (bS3 S) w q T D) fr)) C 0 (fun _ => 0) (off none (nI (if bM w T = 0 then 0 else coN w (fun _ => 0) 0 (bS (bS3 S) w q T D) fr)) 0 (fun i => nI 0))) := by
      have hd : d_233 g S = l_233 g g1 1 (nI 0) S3 := by
        unfold d_233
        rw [show (0 : Int32) = nI 0 from rfl, s1, Option.bind_some, if_pos (by decide), show (nI 0).toNatClampNeg = 0 from rfl, ← hS2]
        have := l233_0 (g := g) (S := S2) (n := g1) (L := 0) (by omega) g23
        rw [← hg1, e0, ← hS3] at this
        exact this
      rw [hd]
      by_cases hC0 : C = 0
      · subst hC0
        obtain ⟨g2, hg2⟩ : ∃ q, g1 = q + 3 := ⟨g1 - 3, by omega⟩
        have e3 : S3.2.1 20 3 = nI 0 := by rw [hx3.1]; exact hV.2.2.1.1
        have g3 : S3.2.1 23 0 = nI 0 := by rw [hS3, rA_s, upd_s]
        refine ⟨S3, ?_, hrs3, b3⟩
        rw [hg2, l_233]
        simp (disch := omega) only [Nat.one_ne_zero, if_true, if_false, k_in, k_cl, lit_nI, e3, g3, Int32.le_refl]
        rw [l_233]
        simp (disch := omega) only [Nat.reduceEqDiff, if_true, if_false, k_in, k_cl, lit_nI, e3, g3, k_ltF]
        exact l233_e (by decide)
      · obtain ⟨d, hd1⟩ : ∃ q, C = q + 1 := ⟨C - 1, by omega⟩
        have hfb : fbN d ≤ 4000 := by
          have : d = 0 ∨ d = 1 ∨ d = 2 ∨ d = 3 ∨ d = 4 := by omega
          rcases this with e | e | e | e | e <;> subst e <;> decide
        have hCm : C * (fbN d + 3) ≤ 5 * (fbN d + 3) := Nat.mul_le_mul_right _ hC5
        obtain ⟨n', S4, t1, t2, t3, t4, t5, t6⟩ := q_l233 (g := g) (m := m) (B := bS3 S) (q := q) (x := x) (D := D) (fr := fr) (cst := fun row L => nI (if bM w T = 0 then 0 else coN w row L (bS (bS3 S) w q T D) fr)) (by omega) hV hst hc.2.2.2.2.2.2 hc.2.2.2.2.1 hD hf2 hf1 hu (fun _ _ => rfl) d 0 (fun _ => 0) (by omega) (fun i hi => absurd hi (by omega)) C 0 g1 S3 _ (by omega) (by omega) hx3 (fun i hi => absurd hi (by omega)) (by rw [hS3, rA_s, upd_s]) b3
        obtain ⟨n2, rfl⟩ : ∃ q, n' = q + 1 := ⟨n' - 1, by omega⟩
        refine ⟨S4, ?_, hrs3.tr (t6.mo (by decide) (by decide)), ?_⟩
        · rw [t2]
          exact l233_e (by decide)
        · have ev : ∀ b, vis C (okc w) (fun row L => nI (if bM w T = 0 then 0 else coN w row L (bS (bS3 S) w q T D) fr)) C 0 (fun _ => 0) b = och (fun c b => vis C (okc w) (fun row L => nI (if bM w T = 0 then 0 else coN w row L (bS (bS3 S) w q T D) fr)) d (0 + 1) (up1 (fun _ => 0) 0 c) (off b (nI (if bM w T = 0 then 0 else coN w (up1 (fun _ => 0) 0 c) (0 + 1) (bS (bS3 S) w q T D) fr)) (0 + 1) (fun i => nI (up1 (fun _ => 0) 0 c i)))) (okc w (fun _ => 0) 0) C 0 b := by
            intro b
            conv => lhs; arg 4; rw [hd1]
            rfl
          rw [ev]
          exact t5
    rw [if_pos ha, if_neg (show ¬ nI j < 0 from nI_pos (by omega)), if_pos (show nI j ≤ 5 from nI_le (b := 5) hj (by omega)), ed13, Option.bind_some, if_pos (show ¬ (1 : Int32) = 0 by decide), v1, Option.bind_some]
    -- what is best
    have hne : ∀ (d L : Nat) (row : Nat → Nat) (p : Int32 × Nat × (Nat → Int32)) (cst : (Nat → Nat) → Nat → Int32), ∃ p', vis C (okc w) cst d L row (some p) = some p' := by
      intro d
      induction d with
      | zero => intro L row p cst; exact ⟨p, rfl⟩
      | succ d ih =>
        intro L row p cst
        have : ∀ (n i : Nat) (p : Int32 × Nat × (Nat → Int32)), ∃ p', och (fun c b => vis C (okc w) cst d (L + 1) (up1 row L c) (off b (cst (up1 row L c) (L + 1)) (L + 1) (fun i => nI (up1 row L c i)))) (okc w row L) n i (some p) = some p' := by
          intro n
          induction n with
          | zero => intro i p; exact ⟨p, rfl⟩
          | succ n ihn =>
            intro i p
            show ∃ p', och _ _ n (i + 1) (if okc w row L i = true then vis C (okc w) cst d (L + 1) (up1 row L i) (off (some p) (cst (up1 row L i) (L + 1)) (L + 1) (fun j => nI (up1 row L i j))) else some p) = some p'
            by_cases hk : okc w row L i = true
            · rw [if_pos hk]
              have ho := off_some (some p) (cst (up1 row L i) (L + 1)) (L + 1) (fun j => nI (up1 row L i j))
              obtain ⟨p1, hp1⟩ := ho
              rw [hp1]
              obtain ⟨p2, hp2⟩ := ih (L + 1) (up1 row L i) p1 cst
              rw [hp2]
              exact ihn (i + 1) p2
            · rw [if_neg hk]
              exact ihn (i + 1) p
        exact this C 0 p
    obtain ⟨p, hp⟩ := hne C 0 (fun _ => 0) (nI (if bM w T = 0 then 0 else coN w (fun _ => 0) 0 (bS (bS3 S) w q T D) fr), 0, fun i => nI 0) (fun row L => nI (if bM w T = 0 then 0 else coN w row L (bS (bS3 S) w q T D) fr))
    have u5' : bst m3 (some p) := by rw [← hp]; exact u5
    have v3' : rst S4 (some p) := by rw [← hp]; exact v3
    obtain ⟨vv, LL, rr⟩ := p
    have p4 := p_4 (g := g) (j := j) u5' (by omega)
    obtain ⟨w1, w2, w3, w4⟩ := v3'
    have w1 : S4.1 29 = nI LL := w1
    have w3 : LL ≤ 8 := w3
    rw [p4, Option.bind_some]
    refine St.scr h (v := if j = 0 then vv else if LL < j then -2 else rr (j - 1)) (m' := m3) (S' := S4) rfl ?_ ((y3.tr z2).tr u2) v2
    by_cases h0 : j = 0
    · subst h0
      rw [if_neg (fun z => z rfl), if_pos rfl, w2]
    · rw [if_neg h0, if_pos (show ¬ nI j = 0 from nI_ne0 (by omega) (by omega)), w1]
      by_cases h1 : LL < j
      · rw [if_pos h1, if_pos (nI_lt h1 (by omega))]
      · rw [if_neg h1, if_neg (nI_nlt (by omega) (by omega))]
        have e : S4.2.1 28 (j - 1) = rr (j - 1) := w4 (j - 1) (show j - 1 < LL by omega)
        simp (disch := omega) only [lit_nI, k_sub, k_in, k_cl, if_true, e]
end OQ
