/-! ACTS: how all was ahead of one is kept -/
section KE
variable {g k : Nat} {m : cM} {S : rS} {w : Nat → Int32} {T W C Sa : Nat}
theorem cY_b {s sp d dp n b : Nat} (h : b ≠ d) : (cY m s sp d dp n).1 b = m.1 b := va_else _ _ h
theorem cY_in {s d n t : Nat} (h : t < n) : (cY m s 0 d 0 n).1 d t = m.1 s t := by
  show va_up m.1 d (va_cpy (m.1 s) (m.1 d) 0 0 n) d t = _
  rw [up_s, pk_cpy_in (by omega) (by omega)]
  simp
theorem cY_2 {s sp d dp n : Nat} : (cY m s sp d dp n).2 = m.2 := rfl
set_option maxHeartbeats 2000000 in
/-- State.become -/
theorem p_72 {a0 a1 : Nat} (h0 : cU a0 7 = true) (h1 : cU a1 7 = true) (ha : a0 + 9 ≤ a1 ∨ a1 + 9 ≤ a0) : ∃ m', d_72 g a0 a1 m = some m' ∧ m'.2 = m.2 ∧ (∀ b, b < a0 ∨ a0 + 8 < b → m'.1 b = m.1 b) ∧ (∀ i t, 1 ≤ i → i ≤ 6 → t < 8 → m'.1 (a0 + i) t = m.1 (a1 + i) t) ∧ (∀ i t, 7 ≤ i → i ≤ 8 → t < 5 → m'.1 (a0 + i) t = m.1 (a1 + i) t) ∧ (∀ f, 8 ≤ f → f ≤ 13 → m'.1 a0 f = m.1 a1 f) := by
  unfold d_72
  rw [if_pos h1, if_pos h0]
  simp only [Option.bind_some, show (0 : Int32).toNatClampNeg = 0 from rfl, show (8 : Int32).toNatClampNeg = 8 from rfl, show (5 : Int32).toNatClampNeg = 5 from rfl]
  refine ⟨_, rfl, rfl, fun b hb => ?_, fun i t h2 h3 h4 => ?_, fun i t h2 h3 h4 => ?_, fun f h2 h3 => ?_⟩
  · simp (disch := omega) only [cW_b, cY_b]
  · have hi : i = 1 ∨ i = 2 ∨ i = 3 ∨ i = 4 ∨ i = 5 ∨ i = 6 := by omega
    rcases hi with e | e | e | e | e | e <;> subst e <;> simp (disch := omega) only [cW_b, cY_b, cY_in]
  · have hi : i = 7 ∨ i = 8 := by omega
    rcases hi with e | e <;> subst e <;> simp (disch := omega) only [cW_b, cY_b, cY_in]
  · have hf : f = 8 ∨ f = 9 ∨ f = 10 ∨ f = 11 ∨ f = 12 ∨ f = 13 := by omega
    rcases hf with e | e | e | e | e | e <;> subst e <;> simp (disch := omega) only [cW_s, cW_k, cW_b, cY_b]
theorem stR.to {M M' : Nat → Nat → Int32} {a0 a1 : Nat} (h : stR M a1 w T) (hV : stV w T C k) (hT : T ≤ 8) (hC : C ≤ 5) (e1 : ∀ i t, 1 ≤ i → i ≤ 6 → t < 8 → M' (a0 + i) t = M (a1 + i) t) (e2 : ∀ i t, 7 ≤ i → i ≤ 8 → t < 5 → M' (a0 + i) t = M (a1 + i) t) (e3 : ∀ f, 8 ≤ f → f ≤ 13 → M' a0 f = M a1 f) : stR M' a0 w T := by
  obtain ⟨h1, h2, h3, h4, h5, h6, ⟨U, u1, u2, u3⟩⟩ := h
  obtain ⟨-, ⟨L, a1, a2, a3, a4⟩, ⟨L2, b1, b2, b3⟩, -⟩ := hV
  have n9 : nN (w 9) = L := by rw [a2]; exact n_cl (by omega)
  have n79 : nN (w 79) = L2 := by rw [b2]; exact n_cl (by omega)
  refine ⟨?_, fun t ht f hf => ?_, fun t ht => ?_, fun t ht ht2 => ?_, fun i hi => ?_, fun i hi => ?_, ⟨U, u1, ?_, u3⟩⟩
  · rw [e3 8 (by omega) (by omega), e3 9 (by omega) (by omega), e3 11 (by omega) (by omega), e3 12 (by omega) (by omega), e3 13 (by omega) (by omega)]; exact h1
  · have := fo5_b hf
    rw [e1 _ _ (by omega) (by omega) (by omega)]; exact h2 t ht f hf
  · rw [e1 6 _ (by omega) (by omega) (by omega)]; exact h3 t ht
  · rw [e1 1 _ (by omega) (by omega) (by omega), e1 5 _ (by omega) (by omega) (by omega)]; exact h4 t ht ht2
  · rw [e2 7 _ (by omega) (by omega) (by omega)]; exact h5 i hi
  · rw [e2 8 _ (by omega) (by omega) (by omega)]; exact h6 i hi
  · rw [e3 10 (by omega) (by omega)]; exact u2
theorem l214_1 {n : Nat} {x1 : Int32} : l_214 g (n + 1) 1 x1 S = l_214 g n 2 0 S := rfl
theorem q_l214s {f : Nat → Int32} : ∀ (j i n : Nat) (S : rS), i + j = 1600 → 80 ≤ i → j + 1 ≤ n → (∀ d, d + 80 < i → S.2.1 26 d = f (d + 80)) → (∀ d, i ≤ d + 80 → S.2.1 26 d = f d) → ∃ S1, l_214 g n 0 (nI i) S = l_214 g (n - (j + 1)) 1 0 (rF S1 27 (S1.1 27 - 1)) ∧ (∀ d, d < 1520 → S1.2.1 26 d = f (d + 80)) ∧ rc [] [26] S S1 := by
  intro j
  induction j with
  | zero =>
    intro i n S hi h80 hn h1 h2
    obtain ⟨n, rfl⟩ : ∃ n', n = n' + 1 := ⟨n - 1, by omega⟩
    have e : i = 1600 := by omega
    subst e
    refine ⟨S, ?_, fun d hd => h1 d (by omega), rc.rf _⟩
    rw [l_214]
    simp (disch := omega) only [if_true, lit_nI, Int32.le_refl]
    rfl
  | succ j ih =>
    intro i n S hi h80 hn h1 h2
    obtain ⟨n, rfl⟩ : ∃ n', n = n' + 1 := ⟨n - 1, by omega⟩
    obtain ⟨S1, y1, y2, y3⟩ := ih (i + 1) n (rA S 26 (upd (S.2.1 26) (i - 80) (S.2.1 26 i))) (by omega) (by omega) (by omega) (by
      intro d hd
      rw [rA_s]
      by_cases e : d = i - 80
      · subst e
        rw [upd_s, h2 i (by omega), show i - 80 + 80 = i by omega]
      · rw [upd_n e]; exact h1 d (by omega)) (by
      intro d hd
      rw [rA_s, upd_n (by omega)]
      exact h2 d (by omega))
    refine ⟨S1, ?_, y2, (rc.A (by decide)).tr y3⟩
    rw [l_214]
    simp (disch := omega) only [if_true, lit_nI, k_leF, if_false, k_in, k_sub, k_cl, nI_add]
    rw [y1, show n + 1 - (j + 1 + 1) = n - (j + 1) by omega]
    rfl
theorem q_l214c {u : Nat} (hu : u < 20) : ∀ (j i n : Nat) (S : rS), i + j = 80 → j + 1 ≤ n → S.1 27 = nI u → S.2.1 20 = w → (∀ d, d < i → S.2.1 26 (80 * u + d) = w d) → ∃ S1, l_214 g n 2 (nI i) S = some (rF S1 27 (nI (u + 1))) ∧ (∀ d, d < 80 → S1.2.1 26 (80 * u + d) = w d) ∧ (∀ d, d < 80 * u → S1.2.1 26 d = S.2.1 26 d) ∧ rc [] [26] S S1 := by
  intro j
  induction j with
  | zero =>
    intro i n S hi hn h27 h20 h1
    obtain ⟨n, rfl⟩ : ∃ n', n = n' + 1 := ⟨n - 1, by omega⟩
    have e : i = 80 := by omega
    subst e
    refine ⟨S, ?_, h1, fun _ _ => rfl, rc.rf _⟩
    simp (disch := omega) only [l_214, Nat.reduceEqDiff, if_true, if_false, lit_nI, Int32.le_refl, h27, nI_add]
  | succ j ih =>
    intro i n S hi hn h27 h20 h1
    obtain ⟨n, rfl⟩ : ∃ n', n = n' + 1 := ⟨n - 1, by omega⟩
    obtain ⟨S1, y1, y2, y3, y4⟩ := ih (i + 1) n (rA S 26 (upd (S.2.1 26) (80 * u + i) (w i))) (by omega) (by omega) h27 ((rA_n (by decide)).trans h20) (by
      intro d hd
      rw [rA_s]
      by_cases e : d = i
      · subst e; exact upd_s
      · rw [upd_n (by omega)]; exact h1 d (by omega))
    refine ⟨S1, ?_, y2, fun d hd => ?_, (rc.A (by decide)).tr y4⟩
    · rw [l_214]
      simp (disch := omega) only [Nat.reduceEqDiff, if_true, if_false, lit_nI, k_leF, k_in, h27, pk_mul, nI_add, k_cl, h20]
      exact y1
    · rw [y3 d hd, rA_s, upd_n (by omega)]
/-- keepsAct -/
theorem q_214 {u : Nat} (hg : 2000 ≤ g) (hu : u ≤ 20) (h27 : S.1 27 = nI u) (h20 : S.2.1 20 = w) : ∃ S1, d_214 g S = some S1 ∧ rc [27] [26] S S1 ∧ S1.1 27 = nI (if u < 20 then u + 1 else 20) ∧ (∀ d, d < 80 → S1.2.1 26 (80 * (if u < 20 then u else 19) + d) = w d) ∧ (∀ i d, i < (if u < 20 then u else 19) → d < 80 → S1.2.1 26 (80 * i + d) = S.2.1 26 (80 * (if u < 20 then i else i + 1) + d)) := by
  unfold d_214
  rw [h27]
  by_cases hu2 : u < 20
  · rw [if_pos (show ¬ nI u = 20 from fun e => by have := (nI_eq (a := u) (b := 20) (by omega) (by omega)).mp e; omega), if_pos hu2, if_pos hu2]
    obtain ⟨g', rfl⟩ : ∃ q, g = q + 1 := ⟨g - 1, by omega⟩
    obtain ⟨S1, y1, y2, y3, y4⟩ := q_l214c (g := g' + 1) (w := w) hu2 80 0 g' S (by omega) (by omega) h27 h20 (fun d hd => absurd hd (by omega))
    refine ⟨_, by rw [l214_1]; exact y1, (y4.mo (by decide) (by decide)).tr (rc.F (by decide)), rF_s, y2, fun i d hi hd => ?_⟩
    rw [if_pos hu2]
    show S1.2.1 26 _ = _
    exact y3 _ (by omega)
  · have e : u = 20 := by omega
    subst e
    rw [if_neg (show ¬ ¬ nI 20 = 20 from fun z => z rfl), if_neg (by omega), if_neg (by omega)]
    obtain ⟨S1, y1, y2, y3⟩ := q_l214s (g := g) (f := S.2.1 26) 1520 80 g S (by omega) (by omega) (by omega) (fun d hd => absurd hd (by omega)) (fun d _ => rfl)
    have e27 : S1.1 27 = nI 20 := (y3.1 27 (by decide)).trans h27
    have hs : (rF S1 27 (S1.1 27 - 1)).1 27 = nI 19 := by rw [rF_s, e27]; rfl
    obtain ⟨n', hn'⟩ : ∃ q, g - (1520 + 1) = q + 1 := ⟨g - 1522, by omega⟩
    obtain ⟨S2, z1, z2, z3, z4⟩ := q_l214c (g := g) (w := w) (u := 19) (by omega) 80 0 n' (rF S1 27 (S1.1 27 - 1)) (by omega) (by omega) hs ((y3.2 20 (by decide)).trans h20) (fun d hd => absurd hd (by omega))
    refine ⟨rF S2 27 (nI 20), ?_, (((y3.mo (by decide) (by decide)).tr (rc.F (by decide))).tr (z4.mo (by decide) (by decide))).tr (rc.F (by decide)), rF_s, z2, fun i d hi hd => ?_⟩
    · rw [show (80 : Int32) = nI 80 from rfl, y1, hn', l214_1]
      exact z1
    · rw [if_neg (by omega)]
      show S2.2.1 26 _ = _
      rw [z3 _ (by omega)]
      show S1.2.1 26 _ = _
      rw [y2 _ (by omega), show 80 * i + d + 80 = 80 * (i + 1) + d by omega]
theorem cU_92 {i : Nat} (h : i < 20) : cU (92 + 9 * i) 7 = true := by
  match i, h with
  | 0, _ => decide
  | 1, _ => decide
  | 2, _ => decide
  | 3, _ => decide
  | 4, _ => decide
  | 5, _ => decide
  | 6, _ => decide
  | 7, _ => decide
  | 8, _ => decide
  | 9, _ => decide
  | 10, _ => decide
  | 11, _ => decide
  | 12, _ => decide
  | 13, _ => decide
  | 14, _ => decide
  | 15, _ => decide
  | 16, _ => decide
  | 17, _ => decide
  | 18, _ => decide
  | 19, _ => decide
  | n + 20, h => exact absurd h (by omega)
set_option maxHeartbeats 2000000 in
/-- what is kept, on both sides -/
theorem keep {a1 : Nat} (hg : 2000 ≤ g) (hst : stR m.1 19 w T) (hV : stV w T C k) (hT : T ≤ 8) (hC : C ≤ 5) (h20 : S.2.1 20 = w) (hpa : paI m S w T C k) : ∃ m1 S1, d_8 g 19 m = some m1 ∧ d_214 g S = some S1 ∧ (∀ b, b < 90 ∨ 271 < b → m1.1 b = m.1 b) ∧ m1.2 = m.2 ∧ rc [27] [26] S S1 ∧ paI m1 S1 w T C k := by
  obtain ⟨nx, kp, h1, h2, h3, h4, h5, h6⟩ := hpa
  obtain ⟨S1, q1, q2, q3, q4, q5⟩ := q_214 (g := g) (S := S) (w := w) hg h2 h5 h20
  obtain ⟨m1, p1, p2, p3, p4, p5, p6⟩ := p_72 (g := g) (m := m) (a0 := 92 + 9 * nx) (a1 := 19) (cU_92 h1) (by decide) (by omega)
  have e1 : m1.1 90 1 = nI nx := by rw [p3 90 (by omega)]; exact h3
  have e2 : m1.1 90 2 = nI kp := by rw [p3 90 (by omega)]; exact h4
  have er : nI (nx + 1) - nI (nx + 1) / nI 20 * nI 20 = nI ((nx + 1) % 20) := pk_rem (by omega) (by omega) (by omega)
  have em : (if nI (kp + 1) < nI 20 then nI (kp + 1) else nI 20) = nI (if kp < 20 then kp + 1 else 20) := by
    by_cases hk : kp + 1 < 20
    · rw [if_pos (nI_lt hk (by omega)), if_pos (by omega)]
    · rw [if_neg (nI_nlt (by omega) (by omega))]
      by_cases hk2 : kp < 20
      · rw [if_pos hk2, show kp + 1 = 20 by omega]
      · rw [if_neg hk2]
  refine ⟨cW (cW m1 90 1 (nI ((nx + 1) % 20))) 90 2 (nI (if kp < 20 then kp + 1 else 20)), S1, ?_, q1, fun b hb => ?_, p2, q2, ?_⟩
  · unfold d_8
    simp (disch := omega) only [h3, k_in, k_cl, if_true, p1, Option.bind_some, e1, lit_nI, nI_add, er]
    rw [cW_k (by decide), e2, nI_add, em]
  · rw [cW_b (by omega), cW_b (by omega), p3 b (by omega)]
  · have hms : ∀ b, b ≠ 90 → (cW (cW m1 90 1 (nI ((nx + 1) % 20))) 90 2 (nI (if kp < 20 then kp + 1 else 20))).1 b = m1.1 b := fun b hb => by rw [cW_b hb, cW_b hb]
    have hm20 : (nx + 1) % 20 < 20 := Nat.mod_lt _ (by decide)
    by_cases hk : kp < 20
    · simp only [if_pos hk] at q3 q4 q5 hms ⊢
      refine ⟨(nx + 1) % 20, kp + 1, hm20, by omega, by rw [cW_k (by decide), cW_s], cW_s, q3, fun i hi => ?_⟩
      by_cases hik : i = kp
      · subst hik
        have hix : ((nx + 1) % 20 + 20 - (i + 1) + i) % 20 = nx := by omega
        rw [hix]
        have epg : ∀ j, j < 80 → pg S1 i j = w j := fun j hj => q4 j hj
        refine ⟨?_, hV.cw hT hC epg, fun j hj => epg j (by omega)⟩
        have z : stR m1.1 (92 + 9 * nx) w T := hst.to hV hT hC p4 p5 p6
        exact (z.congr (fun j hj => hms _ (by omega))).cw hV hT hC epg
      · obtain ⟨y1, y2, y3⟩ := h6 i (by omega)
        have hix : ((nx + 1) % 20 + 20 - (kp + 1) + i) % 20 = (nx + 20 - kp + i) % 20 := by omega
        have hne : (nx + 20 - kp + i) % 20 ≠ nx := by omega
        have hlt : (nx + 20 - kp + i) % 20 < 20 := Nat.mod_lt _ (by decide)
        rw [hix]
        have epg : ∀ j, j < 80 → pg S1 i j = pg S i j := fun j hj => q5 i j (by omega) hj
        refine ⟨?_, y2.cw hT hC epg, fun j hj => (epg j (by omega)).trans (y3 j hj)⟩
        exact (y1.congr (fun j hj => (hms _ (by omega)).trans (p3 _ (by omega)))).cw y2 hT hC epg
    · have e20 : kp = 20 := by omega
      subst e20
      simp only [if_neg (show ¬ (20 < 20) by omega)] at q3 q4 q5 hms ⊢
      refine ⟨(nx + 1) % 20, 20, hm20, by omega, by rw [cW_k (by decide), cW_s], cW_s, q3, fun i hi => ?_⟩
      by_cases hik : i = 19
      · subst hik
        have hix : ((nx + 1) % 20 + 20 - 20 + 19) % 20 = nx := by omega
        rw [hix]
        have epg : ∀ j, j < 80 → pg S1 19 j = w j := fun j hj => q4 j hj
        refine ⟨?_, hV.cw hT hC epg, fun j hj => epg j (by omega)⟩
        have z : stR m1.1 (92 + 9 * nx) w T := hst.to hV hT hC p4 p5 p6
        exact (z.congr (fun j hj => hms _ (by omega))).cw hV hT hC epg
      · obtain ⟨y1, y2, y3⟩ := h6 (i + 1) (by omega)
        have hix : ((nx + 1) % 20 + 20 - 20 + i) % 20 = (nx + 20 - 20 + (i + 1)) % 20 := by omega
        have hne : (nx + 20 - 20 + (i + 1)) % 20 ≠ nx := by omega
        have hlt : (nx + 20 - 20 + (i + 1)) % 20 < 20 := Nat.mod_lt _ (by decide)
        rw [hix]
        have epg : ∀ j, j < 80 → pg S1 i j = pg S (i + 1) j := fun j hj => q5 i j (by omega) hj
        refine ⟨?_, y2.cw hT hC epg, fun j hj => (epg j (by omega)).trans (y3 j hj)⟩
        exact (y1.congr (fun j hj => (hms _ (by omega)).trans (p3 _ (by omega)))).cw y2 hT hC epg
end KE
