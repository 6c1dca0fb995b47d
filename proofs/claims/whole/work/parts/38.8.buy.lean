/-! buy -/
section PW
variable {w w' : Nat → Int32} {B : rB}
theorem pcL_cw {d : Int32} : ∀ {k : Nat}, k ≤ 4 → (∀ j, 80 ≤ j → j < 140 → w' j = w j) → pcL w' d k = pcL w d k
  | 0, _, _ => rfl
  | k + 1, hk, e => by
    show (if w' (108 + 3 * k) ≤ d ∧ d ≤ w' (109 + 3 * k) then w' (110 + 3 * k) else pcL w' d k) = (if w (108 + 3 * k) ≤ d ∧ d ≤ w (109 + 3 * k) then w (110 + 3 * k) else pcL w d k)
    rw [e _ (by omega) (by omega), e _ (by omega) (by omega), e _ (by omega) (by omega), pcL_cw (k := k) (by omega) e]
theorem dn_cw {q t d l : Nat} (ht : t < 8) (h10 : nN (w 10) ≤ 4) (e10 : w' 10 = w 10) (e : ∀ j, 80 ≤ j → j < 140 → w' j = w j) (e16 : w' (16 + 5 * t) = w (16 + 5 * t)) (e18 : w' (18 + 5 * t) = w (18 + 5 * t)) : dn B w' q t d l = dn B w q t d l := by
  have ep : pcL w' (nI d) (nN (w' 10)) = pcL w (nI d) (nN (w 10)) := by rw [e10]; exact pcL_cw h10 e
  match q with
  | 0 =>
    show nN (w' (80 + 2 * t)) - nN (w' (80 + 2 * t)) * nN (pcL w' (nI d) (nN (w' 10))) / 100 = nN (w (80 + 2 * t)) - nN (w (80 + 2 * t)) * nN (pcL w (nI d) (nN (w 10))) / 100
    rw [ep, e _ (by omega) (by omega)]
  | r + 1 =>
    have ewd : wdF w' (pcL w' (nI d) (nN (w' 10))) t d l = wdF w (pcL w (nI d) (nN (w 10))) t d l := by
      rw [ep]
      unfold wdF
      rw [e16, e18, e (80 + 2 * t) (by omega) (by omega), e (81 + 2 * t) (by omega) (by omega)]
    show cl9 (su B.1 B.2.1 r (wdF w' (pcL w' (nI d) (nN (w' 10))) t d l) (nN (B.2.2 r)) 0) = cl9 (su B.1 B.2.1 r (wdF w (pcL w (nI d) (nN (w 10))) t d l) (nN (B.2.2 r)) 0)
    rw [ewd]
end PW
/-- takesOut -/
def to1 (f : Nat → Int32) (t : Nat) : Nat → Int32 := upd (upd (upd (upd f (16 + 5 * t) (f (16 + 5 * t) + -f (17 + 5 * t))) (18 + 5 * t) (f (18 + 5 * t) + f (17 + 5 * t))) (20 + 5 * t) (f (17 + 5 * t))) (17 + 5 * t) 0
def toB (f : Nat → Int32) : Nat → Nat → Int32
  | 0 => f
  | i + 1 => to1 (toB f i) i
theorem toB_out {f : Nat → Int32} : ∀ {i j : Nat}, j < 16 ∨ 16 + 5 * i ≤ j → toB f i j = f j
  | 0, _, _ => rfl
  | i + 1, j, h => by
    show to1 (toB f i) i j = f j
    unfold to1
    rw [upd_n (by omega), upd_n (by omega), upd_n (by omega), upd_n (by omega)]
    exact toB_out (by omega)
theorem toB_in {f : Nat → Int32} : ∀ {i t : Nat}, t < i → toB f i (16 + 5 * t) = f (16 + 5 * t) + -f (17 + 5 * t) ∧ toB f i (17 + 5 * t) = 0 ∧ toB f i (18 + 5 * t) = f (18 + 5 * t) + f (17 + 5 * t) ∧ toB f i (19 + 5 * t) = f (19 + 5 * t) ∧ toB f i (20 + 5 * t) = f (17 + 5 * t)
  | 0, _, h => absurd h (by omega)
  | i + 1, t, h => by
    show to1 (toB f i) i (16 + 5 * t) = _ ∧ to1 (toB f i) i (17 + 5 * t) = _ ∧ to1 (toB f i) i (18 + 5 * t) = _ ∧ to1 (toB f i) i (19 + 5 * t) = _ ∧ to1 (toB f i) i (20 + 5 * t) = _
    unfold to1
    by_cases e : t = i
    · subst e
      refine ⟨?_, ?_, ?_, ?_, ?_⟩
      · rw [upd_n (by omega), upd_n (by omega), upd_n (by omega), upd_s, toB_out (by omega), toB_out (by omega)]
      · rw [upd_s]
      · rw [upd_n (by omega), upd_n (by omega), upd_s, toB_out (by omega), toB_out (by omega)]
      · rw [upd_n (by omega), upd_n (by omega), upd_n (by omega), upd_n (by omega), toB_out (by omega)]
      · rw [upd_n (by omega), upd_s, toB_out (by omega)]
    · obtain ⟨h1, h2, h3, h4, h5⟩ := toB_in (f := f) (i := i) (t := t) (by omega)
      refine ⟨?_, ?_, ?_, ?_, ?_⟩
      · rw [upd_n (by omega), upd_n (by omega), upd_n (by omega), upd_n (by omega)]; exact h1
      · rw [upd_n (by omega), upd_n (by omega), upd_n (by omega), upd_n (by omega)]; exact h2
      · rw [upd_n (by omega), upd_n (by omega), upd_n (by omega), upd_n (by omega)]; exact h3
      · rw [upd_n (by omega), upd_n (by omega), upd_n (by omega), upd_n (by omega)]; exact h4
      · rw [upd_n (by omega), upd_n (by omega), upd_n (by omega), upd_n (by omega)]; exact h5
def uS (U : Nat) (row : Nat → Nat) : Nat → Nat
  | 0 => U
  | i + 1 => uS U row i ||| 2 ^ row i
theorem uS_b {U : Nat} {row : Nat → Nat} {n : Nat} (hU : U < 32) (h : ∀ i, i < n → row i < 5) : uS U row n < 32 := by
  induction n with
  | zero => exact hU
  | succ n ih => exact or5 _ (ih (fun i hi => h i (by omega))) _ (h n (by omega))
theorem orb : ∀ u, u < 32 → ∀ l, l < 5 → ∀ c, c < 5 → (u ||| 2 ^ l) / 2 ^ c % 2 = if c = l then 1 else u / 2 ^ c % 2 := by decide +kernel
section BU
variable {g k : Nat} {m : cM} {S : rS} {B : rB} {w : Nat → Int32} {q T W C Sa R L : Nat} {x : Int32}
theorem q_226 {t : Nat} (ht : t < 8) : ∃ S', d_226 g (nI t) S = some S' ∧ rc [] [20] S S' ∧ S'.2.1 20 = to1 (S.2.1 20) t ∧ S'.2.2 = S.2.2 := by
  have k1 : ∀ S0 : rS, d_191 g (nI t) (nI 1) S0 = some (S0.2.1 20 (17 + 5 * t), S0) := fun S0 => by rw [q_191 ht (by omega), show 16 + 5 * t + 1 = 17 + 5 * t by omega]
  have k2 : ∀ (S0 : rS) (v : Int32), d_217 g (nI t) (nI 0) v S0 = some (rA S0 20 (upd (S0.2.1 20) (16 + 5 * t) (S0.2.1 20 (16 + 5 * t) + v))) := fun S0 v => q_217 ht (by omega)
  have k3 : ∀ (S0 : rS) (v : Int32), d_217 g (nI t) (nI 2) v S0 = some (rA S0 20 (upd (S0.2.1 20) (18 + 5 * t) (S0.2.1 20 (18 + 5 * t) + v))) := fun S0 v => by rw [q_217 ht (by omega), show 16 + 5 * t + 2 = 18 + 5 * t by omega]
  unfold d_226
  simp (disch := omega) only [lit_nI, k1, k2, k3, Option.bind_some, nI_add, pk_mul, k_in, k_cl, if_true]
  refine ⟨_, rfl, ((rc.A (by decide)).tr (rc.A (by decide))).tr ((rc.A (by decide)).tr (rc.A (by decide))), ?_, rfl⟩
  rw [rA_s]
  unfold to1
  simp only [up_s]
  rw [show 16 + 5 * t + 4 = 20 + 5 * t by omega, show 16 + 5 * t + 1 = 17 + 5 * t by omega, upd_n (show 18 + 5 * t ≠ 16 + 5 * t by omega)]
  rfl
theorem q_l225a {D : Nat} {x1 : Int32} (hg : 2000 ≤ g) (hV : shV w T W C Sa) (hst : stV w T C k) (hR : rbR m.1 B R) (hq : q ≤ R) (hD : w 7 = nI D) : ∀ (j i n : Nat) (S : rS), i + j = T → j + 1 ≤ n → rx S B (S.2.1 20) q x R → (∀ t, t < i → S.2.1 20 (56 + t) = nI (dO B w q t D)) → (∀ d, d < 56 ∨ 56 + i ≤ d → S.2.1 20 d = w d) → ∃ S1, l_225 g n 0 x1 (nI i) S = l_225 g (n - (j + 1)) 1 x1 0 S1 ∧ rc [18] [20] S S1 ∧ (∀ t, t < T → S1.2.1 20 (56 + t) = nI (dO B w q t D)) ∧ (∀ d, d < 56 ∨ 56 + T ≤ d → S1.2.1 20 d = w d) := by
  intro j
  have hT8 := hV.1.2
  have h10 : nN (w 10) ≤ 4 := by rw [hV.2.2.2.1.1, n_cl (by have := hV.2.2.2.1.2; omega)]; exact hV.2.2.2.1.2
  induction j with
  | zero =>
    intro i n S hi hn hx h1 h2
    obtain ⟨n, rfl⟩ : ∃ n', n = n' + 1 := ⟨n - 1, by omega⟩
    have e : i = T := by omega
    subst e
    refine ⟨S, ?_, rc.rf _, h1, h2⟩
    have e1 : S.2.1 20 1 = nI i := (h2 1 (by omega)).trans hV.1.1
    rw [l_225]
    simp (disch := omega) only [if_true, lit_nI, k_in, k_cl, e1, Int32.le_refl]
    rfl
  | succ j ih =>
    intro i n S hi hn hx h1 h2
    obtain ⟨n, rfl⟩ : ∃ n', n = n' + 1 := ⟨n - 1, by omega⟩
    have e1 : S.2.1 20 1 = nI T := (h2 1 (by omega)).trans hV.1.1
    have hVS : shV (S.2.1 20) T W C Sa := hV.cw (fun d hd => h2 d (by omega))
    obtain ⟨S1, z1, z2, z3⟩ := q_200 (g := g) (m := m) (t := i) hg hx hVS hR hq (by rw [h2 _ (by omega)]; exact (hst.2.2.2.2.1 i (by omega)).1) (by omega) ((h2 7 (by omega)).trans hD)
    have ed : dO B (S.2.1 20) q i D = dO B w q i D := by
      unfold dO
      rw [h2 (19 + 5 * i) (by omega)]
      exact dn_cw (by omega) h10 (h2 10 (by omega)) (fun d h3 h4 => h2 d (by omega)) (h2 _ (by omega)) (h2 _ (by omega))
    rw [ed] at z1
    have e20 : S1.2.1 20 = S.2.1 20 := z2.2 20 (by decide)
    obtain ⟨S2, y1, y2, y3, y4⟩ := ih (i + 1) n (rA S1 20 (upd (S1.2.1 20) (56 + i) (nI (dO B w q i D)))) (by omega) (by omega) (by
      obtain ⟨r1, r2, r3, r4, r5, r6, r7⟩ := hx
      exact ⟨rfl, (z2.1 21 (by decide)).trans r2, (z2.1 22 (by decide)).trans r3, (z2.2 3 (by decide)).trans r4, (z2.2 5 (by decide)).trans r5, (z2.2 6 (by decide)).trans r6, (z2.1 2 (by decide)).trans r7⟩) (by
      intro t ht
      rw [rA_s, e20]
      by_cases e : t = i
      · subst e; exact upd_s
      · rw [upd_n (by omega)]; exact h1 t (by omega)) (by
      intro d hd
      rw [rA_s, e20, upd_n (by omega)]
      exact h2 d (by omega))
    refine ⟨S2, ?_, ((z2.mo (by decide) (by decide)).tr (rc.A (by decide))).tr y2, y3, y4⟩
    rw [l_225]
    simp (disch := omega) only [if_true, lit_nI, k_in, k_cl, e1, k_leF, if_false, z1, Option.bind_some, nI_add]
    rw [y1, show n + 1 - (j + 1 + 1) = n - (j + 1) by omega]
    rfl
theorem q_l225b {f : Nat → Int32} {x1 : Int32} (hT : f 1 = nI T) (hT8 : T ≤ 8) : ∀ (j i n : Nat) (S : rS), i + j = T → j + 1 ≤ n → S.2.1 20 = toB f i → ∃ S1, l_225 g n 1 x1 (nI i) S = l_225 g (n - (j + 1)) 2 x1 0 S1 ∧ rc [] [20] S S1 ∧ S1.2.1 20 = toB f T := by
  intro j
  induction j with
  | zero =>
    intro i n S hi hn h1
    obtain ⟨n, rfl⟩ : ∃ n', n = n' + 1 := ⟨n - 1, by omega⟩
    have e : i = T := by omega
    subst e
    refine ⟨S, ?_, rc.rf _, h1⟩
    have e1 : S.2.1 20 1 = nI i := by rw [h1, toB_out (by omega)]; exact hT
    rw [l_225]
    simp (disch := omega) only [if_true, Nat.one_ne_zero, if_false, lit_nI, k_in, k_cl, e1, Int32.le_refl]
    rfl
  | succ j ih =>
    intro i n S hi hn h1
    obtain ⟨n, rfl⟩ : ∃ n', n = n' + 1 := ⟨n - 1, by omega⟩
    have e1 : S.2.1 20 1 = nI T := by rw [h1, toB_out (by omega)]; exact hT
    obtain ⟨S1, z1, z2, z3, z4⟩ := q_226 (g := g) (S := S) (t := i) (by omega)
    obtain ⟨S2, y1, y2, y3⟩ := ih (i + 1) n S1 (by omega) (by omega) (by rw [z3, h1]; rfl)
    refine ⟨S2, ?_, z2.tr y2, y3⟩
    rw [l_225]
    simp (disch := omega) only [if_true, Nat.one_ne_zero, if_false, lit_nI, k_in, k_cl, e1, k_leF, z1, Option.bind_some, nI_add]
    rw [y1, show n + 1 - (j + 1 + 1) = n - (j + 1) by omega]
    rfl
theorem q_l225c {f : Nat → Int32} {x1 : Int32} {row : Nat → Nat} {U : Nat} (hU : U < 32) (hL : L ≤ 5) (h9 : f 9 = nI L) (hrow : ∀ i, i < L → f (64 + i) = nI (row i) ∧ row i < 5) : ∀ (j i n : Nat) (S : rS), i + j = L → j + 1 ≤ n → (∀ c, c < 5 → S.2.1 20 (69 + c) = nI (uS U row i / 2 ^ c % 2)) → (∀ d, d < i → S.2.1 20 (74 + d) = f (64 + d)) → (∀ d, d < 69 ∨ 74 + i ≤ d → S.2.1 20 d = f d) → ∃ S1, l_225 g n 2 x1 (nI i) S = some (x1, S1) ∧ rc [] [20] S S1 ∧ (∀ c, c < 5 → S1.2.1 20 (69 + c) = nI (uS U row L / 2 ^ c % 2)) ∧ (∀ d, d < L → S1.2.1 20 (74 + d) = f (64 + d)) ∧ S1.2.1 20 79 = nI L ∧ S1.2.1 20 9 = 0 ∧ S1.2.1 20 8 = f 8 + x1 ∧ S1.2.1 20 11 = x1 ∧ (∀ d, d ≠ 9 → d ≠ 8 → d ≠ 11 → d < 69 ∨ 80 ≤ d → S1.2.1 20 d = f d) := by
  intro j
  induction j with
  | zero =>
    intro i n S hi hn h1 h2 h3
    obtain ⟨n, rfl⟩ : ∃ n', n = n' + 1 := ⟨n - 1, by omega⟩
    have e : i = L := by omega
    subst e
    have e9 : S.2.1 20 9 = nI i := (h3 9 (by omega)).trans h9
    have u8 : ∀ (a b : Int32), upd (upd (S.2.1 20) 79 a) 9 b 8 = f 8 := fun a b => by rw [upd_n (by omega), upd_n (by omega)]; exact h3 8 (by omega)
    rw [l_225]
    simp (disch := omega) only [if_true, Nat.reduceEqDiff, if_false, lit_nI, k_in, k_cl, e9, Int32.le_refl, u8]
    refine ⟨_, rfl, ((rc.A (by decide)).tr (rc.A (by decide))).tr ((rc.A (by decide)).tr (rc.A (by decide))), ?_⟩
    rw [rA_s]
    refine ⟨fun c hc => ?_, fun d hd => ?_, ?_, ?_, ?_, ?_, fun d d1 d2 d3 d4 => ?_⟩
    · rw [upd_n (by omega), upd_n (by omega), upd_n (by omega), upd_n (by omega)]; exact h1 c hc
    · rw [upd_n (by omega), upd_n (by omega), upd_n (by omega), upd_n (by omega)]; exact h2 d hd
    · rw [upd_n (by omega), upd_n (by omega), upd_n (by omega), upd_s]
    · rw [upd_n (by omega), upd_n (by omega), upd_s]
    · rw [upd_n (by omega), upd_s]
    · rw [upd_s]
    · rw [upd_n (by omega), upd_n (by omega), upd_n (by omega), upd_n (by omega)]; exact h3 d (by omega)
  | succ j ih =>
    intro i n S hi hn h1 h2 h3
    obtain ⟨n, rfl⟩ : ∃ n', n = n' + 1 := ⟨n - 1, by omega⟩
    obtain ⟨r1, r2⟩ := hrow i (by omega)
    have e9 : S.2.1 20 9 = nI L := (h3 9 (by omega)).trans h9
    have e64 : S.2.1 20 (64 + i) = nI (row i) := (h3 _ (by omega)).trans r1
    have u64 : upd (S.2.1 20) (74 + i) (nI (row i)) (64 + i) = nI (row i) := by rw [upd_n (by omega)]; exact e64
    obtain ⟨S2, y1, y2, y3⟩ := ih (i + 1) n (rA (rA S 20 (upd (S.2.1 20) (74 + i) (nI (row i)))) 20 (upd (upd (S.2.1 20) (74 + i) (nI (row i))) (69 + row i) (nI 1))) (by omega) (by omega) (by
      intro c hc
      rw [rA_s]
      have hb := orb (uS U row i) (uS_b hU (fun d hd => (hrow d (by omega)).2)) (row i) r2 c hc
      show _ = nI ((uS U row i ||| 2 ^ row i) / 2 ^ c % 2)
      rw [hb]
      by_cases e : c = row i
      · rw [if_pos e, e, upd_s]
      · rw [if_neg e, upd_n (by omega), upd_n (by omega)]; exact h1 c hc) (by
      intro d hd
      rw [rA_s, upd_n (by omega)]
      by_cases e : d = i
      · subst e; rw [upd_s]; exact r1.symm
      · rw [upd_n (by omega)]; exact h2 d (by omega)) (by
      intro d hd
      rw [rA_s, upd_n (by omega), upd_n (by omega)]
      exact h3 d (by omega))
    refine ⟨S2, ?_, ((rc.A (by decide)).tr (rc.A (by decide))).tr y2, y3⟩
    rw [l_225]
    simp (disch := omega) only [if_true, Nat.reduceEqDiff, if_false, lit_nI, k_in, k_cl, e9, k_leF, nI_add, e64, u64]
    exact y1
end BU
