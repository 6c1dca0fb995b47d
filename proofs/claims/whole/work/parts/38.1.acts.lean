/-! put, drop, look, day -/
section AC
variable {g k : Nat} {m m2 : cM} {S S2 : rS} {B : rB} {w w' : Nat → Int32} {q T W C Sa R : Nat} {x : Int32}
/-- what an act leaves as it was, of the class -/
def ak (m m2 : cM) : Prop := (∀ b, b ≠ 32 → ¬ (19 ≤ b ∧ b ≤ 27) → ¬ (71 ≤ b ∧ b ≤ 271) → m2.1 b = m.1 b) ∧ (∀ j, j ≠ 4 → m2.1 32 j = m.1 32 j) ∧ m2.2.2 = m.2.2
theorem ak.rf (m : cM) : ak m m := ⟨fun _ _ _ _ => rfl, fun _ _ => rfl, rfl⟩
theorem ak.tr {m m1 m2 : cM} (h : ak m m1) (j : ak m1 m2) : ak m m2 := ⟨fun b h1 h2 h3 => (j.1 b h1 h2 h3).trans (h.1 b h1 h2 h3), fun i hi => (j.2.1 i hi).trans (h.2.1 i hi), j.2.2.trans h.2.2⟩
theorem ak.wr {a i : Nat} {v : Int32} (h : (19 ≤ a ∧ a ≤ 27) ∨ (71 ≤ a ∧ a ≤ 271)) : ak m (cW m a i v) := ⟨fun b _ h2 h3 => cW_b (by omega), fun j _ => by rw [cW_b (by omega)], rfl⟩
theorem ak.Y {s sp d dp n : Nat} (h : (19 ≤ d ∧ d ≤ 27) ∨ (71 ≤ d ∧ d ≤ 271)) : ak m (cY m s sp d dp n) := ⟨fun b _ h2 h3 => cY_b (by omega), fun j _ => by rw [cY_b (by omega)], rfl⟩
theorem ak.ms (h : ms m m2) : ak m m2 := ⟨fun b h1 h2 h3 => h.1 b h1 (by omega), h.2.1, h.2.2⟩
theorem ak.kp (h1 : ∀ b, b < 90 ∨ 271 < b → m2.1 b = m.1 b) (h2 : m2.2 = m.2) : ak m m2 := ⟨fun b _ _ h3 => h1 b (by omega), fun j _ => by rw [h1 32 (by omega)], by rw [h2]⟩
theorem cx.act (h : cx m B w q x T W C Sa R k) (e : ak m m2) (hs : stR m2.1 19 w' T) (hV : stV w' T C (k + 1)) (ew : ∀ j, j ≤ 6 ∨ j = 10 ∨ 80 ≤ j → w' j = w j) : cx m2 B w' q x T W C Sa R (k + 1) := by
  obtain ⟨⟨d1, d2, d3, d4, d5, d6⟩, v1, v2, v3, v4, v5, v6⟩ := h
  have hp := d6
  unfold spO at hp
  refine ⟨⟨?_, hs, ?_, fun i hi => ?_, ?_, ?_⟩, v1.cw (fun j hj => ew j (by omega)), hV, v3.cw (fun j h1 _ => ew j (by omega)), v4, v5, v6.congr (e.2.1 2 (by decide)) (fun b h1 h2 => e.1 b (by omega) (by omega) (by omega))⟩
  · rw [e.2.2]
    exact (d1.congr (fun i hi => e.1 _ (by omega) (by omega) (by omega))).cw v1 (fun j hj => ew j (by omega))
  · rw [e.1 5 (by omega) (by omega) (by omega), ew 180 (by omega)]; exact d3
  · rw [ew 180 (by omega)] at hi
    rw [e.1 (5 + 23) (by omega) (by omega) (by omega), e.1 (5 + 24) (by omega) (by omega) (by omega), e.1 (5 + 25) (by omega) (by omega) (by omega), e.1 (5 + 26) (by omega) (by omega) (by omega), ew (140 + 4 * i) (by omega), ew (141 + 4 * i) (by omega), ew (142 + 4 * i) (by omega), ew (143 + 4 * i) (by omega)]
    exact d4 i hi
  · rw [e.2.2, cO_of e.2.2]; exact d5
  · rw [e.2.2]; exact d6
abbrev aI1 : List Nat := [18, 24, 25, 27, 29, 30, 36, 37, 38, 41, 42]
abbrev aA1 : List Nat := [20, 23, 26, 28, 31, 32, 33, 34, 35, 39]
theorem rx.act (h : rx S B w q x R) (e : rc aI1 aA1 S S2) (hw : S2.2.1 20 = w') : rx S2 B w' q x R := by
  obtain ⟨r1, r2, r3, r4, r5, r6, r7⟩ := h
  exact ⟨hw, (e.1 21 (by decide)).trans r2, (e.1 22 (by decide)).trans r3, (e.2 3 (by decide)).trans r4, (e.2 5 (by decide)).trans r5, (e.2 6 (by decide)).trans r6, (e.1 2 (by decide)).trans r7⟩
theorem Inv.act (h : Inv k m S) (hc : cx m (bS3 S) w q x T W C Sa R k) (hr : rx S (bS3 S) w q x R) (him : imI m S R k) (e : ak m m2) (e2 : rc aI1 aA1 S S2) (hw : S2.2.1 20 = w') (hs : stR m2.1 19 w' T) (hV : stV w' T C (k + 1)) (ew : ∀ j, j ≤ 6 ∨ j = 10 ∨ 80 ≤ j → w' j = w j) (hpa : paI m2 S2 w' T C (k + 1)) : Inv (k + 1) m2 S2 := by
  obtain ⟨a1, ⟨n, t1, t2, t3, t4⟩, -⟩ := h
  have eB : bS3 S2 = bS3 S := by
    unfold bS3
    rw [e2.2 3 (by decide), e2.2 5 (by decide), e2.2 6 (by decide)]
  refine ⟨by rw [e.2.2]; omega, ⟨n, t1, (e2.1 1 (by decide)).trans t2, by rw [e.1 1 (by omega) (by omega) (by omega)]; exact t3, by rw [e.1 2 (by omega) (by omega) (by omega), e2.2 0 (by decide)]; exact t4⟩, w', q, x, T, W, C, Sa, R, ?_, ?_, hpa, ?_⟩
  · rw [eB]; exact hc.act e hs hV ew
  · rw [eB]; exact hr.act e2 hw
  · exact him.congr (Nat.le_refl _) (by omega) (fun b h3 _ => e.1 b (by omega) (by omega) (by omega)) (fun b _ => by rw [e.2.2]) (by rw [e.2.2]; exact Nat.le_refl _) (e2.2 43 (by decide)) (e2.2 44 (by decide)) (e2.2 45 (by decide)) (e2.2 46 (by decide))
/-- one number of one thing -/
theorem stR.cell {a t f : Nat} {v : Int32} (h : stR m.1 a w T) (hT : T ≤ 8) (ht : t < T) (hf : f < 5) : stR (cW m (a + fo5 f) t v).1 a (upd w (16 + 5 * t + f) v) T := by
  have hb := fo5_b hf
  obtain ⟨h1, h2, h3, h4, h5, h6, ⟨U, u1, u2, u3⟩⟩ := h
  have e0 : ∀ b, b ≠ a + fo5 f → (cW m (a + fo5 f) t v).1 b = m.1 b := fun b hb => cW_b hb
  have n9 : upd w (16 + 5 * t + f) v 9 = w 9 := upd_n (by omega)
  have n79 : upd w (16 + 5 * t + f) v 79 = w 79 := upd_n (by omega)
  refine ⟨?_, fun t' ht' f' hf' => ?_, fun t' ht' => ?_, fun t' ht' ht2 => ?_, fun i hi => ?_, fun i hi => ?_, ⟨U, u1, ?_, fun c hc => ?_⟩⟩
  · rw [e0 a (by omega), n9, n79, upd_n (by omega), upd_n (by omega), upd_n (by omega)]; exact h1
  · by_cases e : t' = t ∧ f' = f
    · obtain ⟨rfl, rfl⟩ := e
      rw [cW_s, upd_s]
    · rw [upd_n (by omega), ← h2 t' ht' f' hf']
      by_cases ef : f' = f
      · subst ef
        exact cW_k (fun z => e ⟨z, rfl⟩)
      · rw [e0 _ (fun z => ef (fo5_i hf' hf (by omega)))]
  · rw [e0 _ (by omega), upd_n (by omega)]; exact h3 t' ht'
  · obtain ⟨z1, z2⟩ := h4 t' ht' ht2
    refine ⟨?_, ?_⟩
    · by_cases e : fo5 f = 1
      · rw [e, cW_k (by omega)]; exact z1
      · rw [e0 _ (by omega)]; exact z1
    · by_cases e : fo5 f = 5
      · rw [e, cW_k (by omega)]; exact z2
      · rw [e0 _ (by omega)]; exact z2
  · rw [n9] at hi
    have : i < 5 ∨ 5 ≤ i := by omega
    rw [e0 _ (by omega), upd_n (by omega)]; exact h5 i hi
  · rw [n79] at hi
    rw [e0 _ (by omega), upd_n (by omega)]; exact h6 i hi
  · rw [e0 a (by omega)]; exact u2
  · rw [upd_n (by omega)]; exact u3 c hc
/-- the day -/
theorem stR.day {a : Nat} {v : Int32} (h : stR m.1 a w T) (hT : T ≤ 8) : stR (cW m a 13 v).1 a (upd w 7 v) T := by
  obtain ⟨h1, h2, h3, h4, h5, h6, ⟨U, u1, u2, u3⟩⟩ := h
  have e0 : ∀ b, b ≠ a → (cW m a 13 v).1 b = m.1 b := fun b hb => cW_b hb
  have e7 : ∀ j, j ≠ 7 → upd w 7 v j = w j := fun j hj => upd_n hj
  refine ⟨?_, fun t' ht' f' hf' => ?_, fun t' ht' => ?_, fun t' ht' ht2 => ?_, fun i hi => ?_, fun i hi => ?_, ⟨U, u1, ?_, fun c hc => ?_⟩⟩
  · rw [cW_k (by decide), cW_k (by decide), cW_k (by decide), cW_k (by decide), cW_s, upd_s, e7 9 (by omega), e7 79 (by omega), e7 8 (by omega), e7 11 (by omega)]
    exact ⟨h1.1, h1.2.1, h1.2.2.1, h1.2.2.2.1, rfl⟩
  · have := fo5_b hf'
    rw [e0 _ (by omega), e7 _ (by omega)]; exact h2 t' ht' f' hf'
  · rw [e0 _ (by omega), e7 _ (by omega)]; exact h3 t' ht'
  · rw [e0 _ (by omega), e0 _ (by omega)]; exact h4 t' ht' ht2
  · rw [e7 9 (by omega)] at hi
    rw [e0 _ (by omega), e7 _ (by omega)]; exact h5 i hi
  · rw [e7 79 (by omega)] at hi
    rw [e0 _ (by omega), e7 _ (by omega)]; exact h6 i hi
  · rw [cW_k (by decide)]; exact u2
  · rw [e7 _ (by omega)]; exact u3 c hc
theorem sN_u {f f' : Nat → Nat} {t : Nat} (e : ∀ j, j ≠ t → f' j = f j) : ∀ {n : Nat}, t < n → sN f' n + f t = sN f n + f' t
  | 0, h => absurd h (by omega)
  | n + 1, h => by
    show sN f' n + f' n + f t = sN f n + f n + f' t
    by_cases en : n = t
    · subst en
      rw [sN_c (f := f') (h := f) (fun j hj => e j (by omega))]
      omega
    · have := sN_u e (n := n) (by omega)
      rw [e n en]
      omega
theorem bs17_u {t b : Nat} (hT : T ≤ 8) (ht : t < T) (hb : b < 2147483648) (h : bs17 w T + b ≤ 12 + nN (w (17 + 5 * t))) : bs17 (upd w (17 + 5 * t) (nI b)) T ≤ 12 := by
  have e1 : bs17 (upd w (17 + 5 * t) (nI b)) T + nN (w (17 + 5 * t)) = bs17 w T + nN (upd w (17 + 5 * t) (nI b) (17 + 5 * t)) := sN_u (f := fun t => nN (w (17 + 5 * t))) (f' := fun t' => nN (upd w (17 + 5 * t) (nI b) (17 + 5 * t'))) (fun j hj => by show nN _ = nN _; rw [upd_n (by omega)]) ht
  rw [upd_s, n_cl hb] at e1
  omega
theorem stV.ba {t b : Nat} (h : stV w T C k) (hT : T ≤ 8) (ht : t < T) (hb : ∀ s, w (16 + 5 * t) = nI s → s ≤ 9 → b ≤ s) (hs : bs17 (upd w (17 + 5 * t) (nI b)) T ≤ 12) : stV (upd w (17 + 5 * t) (nI b)) T C k := by
  obtain ⟨h1, ⟨L, a1, a2, a3, a4⟩, ⟨L2, b1, b2, b3⟩, h4, h5, h6⟩ := h
  have e : ∀ j, j ≠ 17 + 5 * t → upd w (17 + 5 * t) (nI b) j = w j := fun j hj => upd_n hj
  refine ⟨by rw [e 7 (by omega)]; exact h1, ⟨L, a1, by rw [e 9 (by omega)]; exact a2, fun i hi => ?_, fun i j hi hj => ?_⟩, ⟨L2, b1, by rw [e 79 (by omega)]; exact b2, fun i hi => ?_⟩, fun t' ht' => ?_, fun t' ht' => ?_, ⟨by rw [e 6 (by omega), e 11 (by omega)]; exact h6.1, hs⟩⟩
  · rw [e _ (by omega)]; exact a3 i hi
  · rw [e _ (by omega), e _ (by omega)]; exact a4 i j hi hj
  · rw [e _ (by omega)]; exact b3 i hi
  · obtain ⟨s, b0, y1, y2, y3, y4⟩ := h4 t' ht'
    by_cases et : t' = t
    · subst et
      refine ⟨s, b, y1, hb s y3 y1, by rw [e _ (by omega)]; exact y3, upd_s⟩
    · exact ⟨s, b0, y1, y2, by rw [e _ (by omega)]; exact y3, by rw [e _ (by omega)]; exact y4⟩
  · rw [e _ (by omega), e _ (by omega), e _ (by omega)]; exact h5 t' ht'
theorem stV.lo {t l : Nat} (h : stV w T C k) (hT : T ≤ 8) (ht : t < T) (hl : l ≤ 99) : stV (upd w (19 + 5 * t) (nI l)) T C k := by
  obtain ⟨h1, ⟨L, a1, a2, a3, a4⟩, ⟨L2, b1, b2, b3⟩, h4, h5, h6⟩ := h
  have e : ∀ j, j ≠ 19 + 5 * t → upd w (19 + 5 * t) (nI l) j = w j := fun j hj => upd_n hj
  refine ⟨by rw [e 7 (by omega)]; exact h1, ⟨L, a1, by rw [e 9 (by omega)]; exact a2, fun i hi => ?_, fun i j hi hj => ?_⟩, ⟨L2, b1, by rw [e 79 (by omega)]; exact b2, fun i hi => ?_⟩, fun t' ht' => ?_, fun t' ht' => ?_, ⟨by rw [e 6 (by omega), e 11 (by omega)]; exact h6.1, by rw [bs17_c (fun t ht => e _ (by omega))]; exact h6.2⟩⟩
  · rw [e _ (by omega)]; exact a3 i hi
  · rw [e _ (by omega), e _ (by omega)]; exact a4 i j hi hj
  · rw [e _ (by omega)]; exact b3 i hi
  · rw [e _ (by omega), e _ (by omega)]; exact h4 t' ht'
  · obtain ⟨y1, y2, y3⟩ := h5 t' ht'
    by_cases et : t' = t
    · subst et
      refine ⟨⟨l, hl, upd_s⟩, by rw [e _ (by omega)]; exact y2, by rw [e _ (by omega)]; exact y3⟩
    · exact ⟨by rw [e _ (by omega)]; exact y1, by rw [e _ (by omega)]; exact y2, by rw [e _ (by omega)]; exact y3⟩
theorem stV.dy {D : Nat} (h : stV w T C k) (hT : T ≤ 8) (hC : C ≤ 5) (hD : D ≤ k) : stV (upd w 7 (nI D)) T C k := by
  obtain ⟨h1, ⟨L, a1, a2, a3, a4⟩, ⟨L2, b1, b2, b3⟩, h4, h5, h6⟩ := h
  have e : ∀ j, j ≠ 7 → upd w 7 (nI D) j = w j := fun j hj => upd_n hj
  refine ⟨⟨D, hD, upd_s⟩, ⟨L, a1, by rw [e 9 (by omega)]; exact a2, fun i hi => ?_, fun i j hi hj => ?_⟩, ⟨L2, b1, by rw [e 79 (by omega)]; exact b2, fun i hi => ?_⟩, fun t' ht' => ?_, fun t' ht' => ?_, ⟨by rw [e 6 (by omega), e 11 (by omega)]; exact h6.1, by rw [bs17_c (fun t ht => e _ (by omega))]; exact h6.2⟩⟩
  · rw [e _ (by omega)]; exact a3 i hi
  · rw [e _ (by omega), e _ (by omega)]; exact a4 i j hi hj
  · rw [e _ (by omega)]; exact b3 i hi
  · rw [e _ (by omega), e _ (by omega)]; exact h4 t' ht'
  · rw [e _ (by omega), e _ (by omega), e _ (by omega)]; exact h5 t' ht'
theorem q_217 {t f : Nat} {v : Int32} (ht : t < 8) (hf : f < 5) : d_217 g (nI t) (nI f) v S = some (rA S 20 (upd (S.2.1 20) (16 + 5 * t + f) (S.2.1 20 (16 + 5 * t + f) + v))) := by
  unfold d_217
  simp (disch := omega) only [lit_nI, nI_add, pk_mul, k_in, k_cl, if_true]
/-- canPut -/
theorem can_put {t : Nat} (hg : 100 ≤ g) (hV : shV w T W C Sa) (hst : stV w T C k) (h20 : S.2.1 20 = w) (hs : stR m.1 19 w T) (ht : t < T) : (d_74 g 19 (nI t) m = some 0 ∧ d_216 g (nI t) S = some (0, S)) ∨ (d_74 g 19 (nI t) m = some 1 ∧ d_216 g (nI t) S = some (1, S) ∧ ∃ s b, w (16 + 5 * t) = nI s ∧ w (17 + 5 * t) = nI b ∧ b < s ∧ s ≤ 9 ∧ bM w T < 12) := by
  have hT8 := hV.1.2
  obtain ⟨s, b, h1, h2, h3, h4⟩ := hst.2.2.2.1 t ht
  have hb : ∀ t, t < T → w (17 + 5 * t) = nI (bk w t) := fun t ht => (bk_of hst ht).1
  have hM := bM_b hst hT8
  have k1 : d_191 g (nI t) (nI 1) S = some (nI b, S) := by rw [q_191 (by omega) (by omega), h20, show 16 + 5 * t + 1 = 17 + 5 * t by omega, h4]
  have k0 : d_191 g (nI t) (nI 0) S = some (nI s, S) := by rw [q_191 (by omega) (by omega), h20, Nat.add_zero, h3]
  have e21 : m.1 (19 + 2) t = nI s := (hs.st ht).trans h3
  have e20 : m.1 (19 + 1) t = nI b := (hs.ba ht).trans h4
  have p73 := p_73 (g := g) (m := m) (a1 := 19) hg (by decide) hT8 hs hb
  have q209 := q_209 (g := g) (S := S) (w := w) (T := T) hg h20 hV.1.1 hT8 hb
  have eU : cU 19 7 = true := by decide
  unfold d_74 d_216
  by_cases h5 : b = s
  · left
    simp (disch := omega) only [eU, if_true, k_in, k_cl, e21, e20, k_leT, lit_nI, k0, k1, Option.bind_some]
    exact ⟨trivial, trivial⟩
  · by_cases h6 : 12 ≤ bM w T
    · left
      simp (disch := omega) only [eU, if_true, k_in, k_cl, e21, e20, k_leF, k_leT, if_false, lit_nI, k0, k1, Option.bind_some, p73, q209]
      exact ⟨trivial, trivial⟩
    · right
      simp (disch := omega) only [eU, if_true, k_in, k_cl, e21, e20, k_leF, if_false, lit_nI, k0, k1, Option.bind_some, p73, q209]
      exact ⟨trivial, trivial, s, b, h3, h4, by omega, h1, by omega⟩
set_option maxHeartbeats 1000000 in
theorem sp_put (hg : 2000 ≤ g) (h : Inv k m S) (a : Int32) : St k (d_112 g a m) (d_218 g a S) := by
  obtain ⟨-, -, w, q, x, T, W, C, Sa, R, hc, hr, hpa, him⟩ := id h
  have hV := hc.2.1
  have hst := hc.2.2.1
  have hT8 := hV.1.2
  have hC5 := hV.2.2.1.2
  unfold d_112 d_218
  rw [if_pos hc.cy.1]
  rcases has_th (g := g) (S := S) hc.cy.1 hc.t (by rw [hr.1]; exact hV.1.1) hT8 a with ⟨e1, e2⟩ | ⟨t, ht, rfl, e1, e2⟩
  · rw [e1, e2]
    exact St.no h rfl rfl
  · rw [e1, e2]
    simp only [Option.bind_some, z10, if_false]
    rcases can_put (g := g) (by omega) hV hst hr.1 hc.1.2.1 ht with ⟨c1, c2⟩ | ⟨c1, c2, s, b, b1, b2, b3, b4, b5⟩
    · rw [c1, c2]
      exact St.no h rfl rfl
    · rw [c1, c2]
      obtain ⟨m1, S1, y1, y2, y3, y4, y5, y6⟩ := keep (g := g) (a1 := 0) hg hc.1.2.1 hst hT8 hC5 hr.1 hpa
      have e20 : m1.1 20 t = nI b := by rw [y3 20 (by omega)]; exact (hc.1.2.1.ba ht).trans b2
      have f20 : S1.2.1 20 = w := (y5.2 20 (by decide)).trans hr.1
      have hs1 : stR m1.1 19 w T := hc.1.2.1.congr (fun i hi => y3 _ (by omega))
      have k1 : d_191 g (nI t) (nI 1) (rA S1 20 (upd (S1.2.1 20) (16 + 5 * t + 1) (S1.2.1 20 (16 + 5 * t + 1) + nI 1))) = some (nI (b + 1), rA S1 20 (upd w (17 + 5 * t) (nI (b + 1)))) := by
        rw [q_191 (by omega) (by omega), rA_s, upd_s, f20, show 16 + 5 * t + 1 = 17 + 5 * t by omega, b2, nI_add]
      simp (disch := omega) only [Option.bind_some, z10, not_false_eq_true, if_true, y1, y2, k_in, k_cl, e20, lit_nI, nI_add, cW_s, q_217, k1]
      refine ⟨_, _, _, rfl, rfl, ?_⟩
      have hs2 : stR (cW m1 20 t (nI (b + 1))).1 19 (upd w (17 + 5 * t) (nI (b + 1))) T := by
        have := hs1.cell (v := nI (b + 1)) hT8 ht (f := 1) (by omega)
        rw [show 16 + 5 * t + 1 = 17 + 5 * t by omega] at this
        exact this
      refine h.act hc hr him ((ak.kp y3 y4).tr (ak.wr (by omega))) ((y5.mo (by decide) (by decide)).tr (rc.A (by decide))) rA_s hs2 ((hst.mo (by omega)).ba hT8 ht ?_ (bs17_u hT8 ht (by omega) ?_)) (fun j hj => upd_n (by omega)) (y6.congr (by omega) (fun b h1 h2 => cW_b (by omega)) rfl (rA_n (by decide)) (fun j hj => upd_n (by omega)))
      · intro s' z1 z2
        have := (nI_eq (a := s') (b := s) (by omega) (by omega)).mp (z1.symm.trans b1)
        omega
      · have e5 : bs17 w T = bM w T := rfl
        have e6 : nN (w (17 + 5 * t)) = b := by rw [b2]; exact n_cl (by omega)
        omega
set_option maxHeartbeats 1000000 in
theorem sp_drop (hg : 2000 ≤ g) (h : Inv k m S) (a : Int32) : St k (d_113 g a m) (d_219 g a S) := by
  obtain ⟨-, -, w, q, x, T, W, C, Sa, R, hc, hr, hpa, him⟩ := id h
  have hV := hc.2.1
  have hst := hc.2.2.1
  have hT8 := hV.1.2
  have hC5 := hV.2.2.1.2
  unfold d_113 d_219
  rw [if_pos hc.cy.1]
  rcases has_th (g := g) (S := S) hc.cy.1 hc.t (by rw [hr.1]; exact hV.1.1) hT8 a with ⟨e1, e2⟩ | ⟨t, ht, rfl, e1, e2⟩
  · rw [e1, e2]
    exact St.no h rfl rfl
  · rw [e1, e2]
    obtain ⟨s, b, h1, h2, h3, h4⟩ := hst.2.2.2.1 t ht
    have k0 : d_191 g (nI t) (nI 1) S = some (nI b, S) := by rw [q_191 (by omega) (by omega), hr.1, show 16 + 5 * t + 1 = 17 + 5 * t by omega, h4]
    have e20 : m.1 20 t = nI b := (hc.1.2.1.ba ht).trans h4
    by_cases h0 : b = 0
    · simp (disch := omega) only [Option.bind_some, lit_nI, k_eqF, k_eqT, if_false, if_true, k_in, k_cl, e20, k_leF, k0, not_true]
      exact St.no h rfl rfl
    · obtain ⟨m1, S1, y1, y2, y3, y4, y5, y6⟩ := keep (g := g) (a1 := 0) hg hc.1.2.1 hst hT8 hC5 hr.1 hpa
      have e20' : m1.1 20 t = nI b := by rw [y3 20 (by omega)]; exact e20
      have f20 : S1.2.1 20 = w := (y5.2 20 (by decide)).trans hr.1
      have hs1 : stR m1.1 19 w T := hc.1.2.1.congr (fun i hi => y3 _ (by omega))
      have em : nI b + -nI 1 = nI (b - 1) := k_m1n (by omega)
      have k1 : d_191 g (nI t) (nI 1) (rA S1 20 (upd (S1.2.1 20) (16 + 5 * t + 1) (S1.2.1 20 (16 + 5 * t + 1) + -nI 1))) = some (nI (b - 1), rA S1 20 (upd w (17 + 5 * t) (nI (b - 1)))) := by
        rw [q_191 (by omega) (by omega), rA_s, upd_s, f20, show 16 + 5 * t + 1 = 17 + 5 * t by omega, h4, em]
      simp (disch := omega) only [Option.bind_some, lit_nI, k_eqF, not_false_eq_true, if_true, if_false, k_in, k_cl, e20, k_leT, k0, y1, y2, e20', k_sub, cW_s, q_217, k1]
      refine ⟨_, _, _, rfl, rfl, ?_⟩
      have hs2 : stR (cW m1 20 t (nI (b - 1))).1 19 (upd w (17 + 5 * t) (nI (b - 1))) T := by
        have := hs1.cell (v := nI (b - 1)) hT8 ht (f := 1) (by omega)
        rw [show 16 + 5 * t + 1 = 17 + 5 * t by omega] at this
        exact this
      refine h.act hc hr him ((ak.kp y3 y4).tr (ak.wr (by omega))) ((y5.mo (by decide) (by decide)).tr (rc.A (by decide))) rA_s hs2 ((hst.mo (by omega)).ba hT8 ht ?_ (bs17_u hT8 ht (by omega) ?_)) (fun j hj => upd_n (by omega)) (y6.congr (by omega) (fun b h1 h2 => cW_b (by omega)) rfl (rA_n (by decide)) (fun j hj => upd_n (by omega)))
      · intro s' z1 z2
        have := (nI_eq (a := s') (b := s) (by omega) (by omega)).mp (z1.symm.trans h3)
        omega
      · have e5 := hst.2.2.2.2.2.2
        have e6 : nN (w (17 + 5 * t)) = b := by rw [h4]; exact n_cl (by omega)
        omega
end AC
