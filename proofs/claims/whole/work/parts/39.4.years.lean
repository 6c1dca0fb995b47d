/-! years -/
def drX (x : Int64) : Int64 := ((x * 1103515245) + 12345) - ((x * 1103515245) + 12345) / 2147483648 * 2147483648
def drM (n : Nat) : Nat := (n * 1103515245 + 12345) % 2147483648
theorem drM_b (n : Nat) : drM n < 2147483648 := Nat.mod_lt _ (by decide)
theorem drX_N {n : Nat} (h : n < 2147483648) : drX (lN n) = lN (drM n) := by
  unfold drX
  rw [show (1103515245 : Int64) = lN 1103515245 from rfl, show (12345 : Int64) = lN 12345 from rfl, show (2147483648 : Int64) = lN 2147483648 from rfl, lN_mul, lN_add]
  have hb : n * 1103515245 ≤ 2147483647 * 1103515245 := Nat.mul_le_mul_right _ (by omega)
  exact pk_lRem (by omega) (by omega) (by omega)
/-- what is drawn -/
def drT (n T : Nat) : Nat := drM n / 65536 % (T + 1)
theorem drT_b {n T : Nat} : drT n T ≤ T := by
  have := Nat.mod_lt (drM n / 65536) (show 0 < T + 1 by omega)
  unfold drT
  omega
theorem dr_I {n T : Nat} (h : n < 2147483648) (hT : T ≤ 8) : ((drX (lN n) / 65536) - (drX (lN n) / 65536) / (nI (T + 1)).toInt64 * (nI (T + 1)).toInt64).toInt32 = nI (drT n T) := by
  rw [drX_N h, nI_l (by omega), show (65536 : Int64) = lN 65536 from rfl]
  have hb := drM_b n
  rw [pk_lDiv (by omega) (by omega) (by omega), pk_lRem (by omega) (by omega) (by omega), lN_i]
  rfl
def lvR (M : Nat → Nat → Int32) (a : Nat) (w : Nat → Int32) (T : Nat) : Prop := M a 13 = w 7 ∧ (∀ t, t < T → ∀ f, f < 4 → M (a + fo5 f) t = w (16 + 5 * t + f)) ∧ (∀ t, T ≤ t → t < 8 → M (a + 1) t = 0)
def lvV (w : Nat → Int32) (T K : Nat) : Prop := (∃ D, D ≤ K ∧ w 7 = nI D) ∧ (∀ t, t < T → ∃ s b, s ≤ 9 ∧ b ≤ s ∧ w (16 + 5 * t) = nI s ∧ w (17 + 5 * t) = nI b) ∧ (∀ t, t < T → bd (w (19 + 5 * t)) 99)
theorem lvR.congr {M M' : Nat → Nat → Int32} {a T : Nat} {w : Nat → Int32} (h : lvR M a w T) (e : ∀ i, i ≤ 4 → M' (a + i) = M (a + i)) : lvR M' a w T := by
  obtain ⟨h1, h2, h3⟩ := h
  have e0 : M' a = M a := e 0 (by omega)
  refine ⟨by rw [e0]; exact h1, fun t ht f hf => ?_, fun t h4 h5 => by rw [e 1 (by omega)]; exact h3 t h4 h5⟩
  have hb := fo5_b (f := f) (by omega)
  have hb4 : fo5 f ≤ 4 := by unfold fo5; split <;> (try split) <;> omega
  rw [e _ hb4]; exact h2 t ht f hf
theorem lvR.cell {m : cM} {a t f T : Nat} {w : Nat → Int32} {v : Int32} (h : lvR m.1 a w T) (hT : T ≤ 8) (ht : t < T) (hf : f < 4) : lvR (cW m (a + fo5 f) t v).1 a (upd w (16 + 5 * t + f) v) T := by
  have hb := fo5_b (f := f) (by omega)
  obtain ⟨h1, h2, h3⟩ := h
  refine ⟨by rw [cW_b (by omega), upd_n (by omega)]; exact h1, fun t' ht' f' hf' => ?_, fun t' h4 h5 => ?_⟩
  · by_cases e : t' = t ∧ f' = f
    · obtain ⟨rfl, rfl⟩ := e
      rw [cW_s, upd_s]
    · rw [upd_n (by omega), ← h2 t' ht' f' hf']
      by_cases ef : f' = f
      · subst ef
        exact cW_k (fun z => e ⟨z, rfl⟩)
      · rw [cW_b (fun z => ef (fo5_i (by omega) (by omega) (by omega)))]
  · by_cases e : fo5 f = 1
    · rw [e, cW_k (by omega)]; exact h3 t' h4 h5
    · rw [cW_b (by omega)]; exact h3 t' h4 h5
section YE
variable {g k : Nat} {m : cM} {S : rS} {B : rB} {w : Nat → Int32} {q T W C Sa R L : Nat} {x : Int32}
theorem lvR.ba {M : Nat → Nat → Int32} {a t : Nat} (h : lvR M a w T) (ht : t < T) : M (a + 1) t = w (17 + 5 * t) := by
  rw [show 17 + 5 * t = 16 + 5 * t + 1 by omega]
  exact h.2.1 t ht 1 (by omega)
theorem lvR.st {M : Nat → Nat → Int32} {a t : Nat} (h : lvR M a w T) (ht : t < T) : M (a + 2) t = w (16 + 5 * t) := h.2.1 t ht 0 (by omega)
theorem lvR.ha {M : Nat → Nat → Int32} {a t : Nat} (h : lvR M a w T) (ht : t < T) : M (a + 3) t = w (18 + 5 * t) := by
  rw [show 18 + 5 * t = 16 + 5 * t + 2 by omega]
  exact h.2.1 t ht 2 (by omega)
theorem lvR.lo {M : Nat → Nat → Int32} {a t : Nat} (h : lvR M a w T) (ht : t < T) : M (a + 4) t = w (19 + 5 * t) := by
  rw [show 19 + 5 * t = 16 + 5 * t + 3 by omega]
  exact h.2.1 t ht 3 (by omega)
theorem bk_lv {K : Nat} (h : lvV w T K) {t : Nat} (ht : t < T) : w (17 + 5 * t) = nI (bk w t) ∧ bk w t ≤ 9 := by
  obtain ⟨s, b, h1, h2, h3, h4⟩ := h.2.1 t ht
  unfold bk nN
  rw [h4, k_cl (by omega)]
  exact ⟨rfl, by omega⟩
theorem p_73v {a1 : Nat} (hg : 100 ≤ g) (hU : cU a1 7 = true) (hT8 : T ≤ 8) (hR : lvR m.1 a1 w T) (hb : ∀ t, t < T → w (17 + 5 * t) = nI (bk w t)) : d_73 g a1 m = some (nI (bM w T)) := by
  unfold d_73
  have e := p_l73 (g := g) (m := m) (f := m.1 (a1 + 1)) hU rfl 8 0 g (by omega) (by omega)
  have e2 : sm (m.1 (a1 + 1)) 8 = nI (bM w T) := by
    rw [sm_0 (n := T) hT8 (fun j h1 h2 => hR.2.2 j h1 h2)]
    exact sm_N (fun j hj => by
      rw [← hb j hj]
      exact hR.ba hj)
  rw [← e2]
  exact e
theorem bM_v {K : Nat} (h : lvV w T K) (hT : T ≤ 8) : bM w T ≤ 72 := by
  have h1 := sN_b (f := bk w) (c := 9) (n := T) (fun j hj => (bk_lv h hj).2)
  show sN (bk w) T ≤ 72
  omega
theorem bS_v {K D : Nat} (hV : shV w T W C Sa) (h : lvV w T K) : bS B w q T D ≤ 719928 := by
  have hT := hV.1.2
  have h1 := sN_b (f := fun t => bk w t * dO B w q t D) (c := 9 * 9999) (n := T) (fun j hj => Nat.mul_le_mul (bk_lv h hj).2 (dO_b hV hj).2)
  show sN _ T ≤ 719928
  omega
theorem sN_mono {f h : Nat → Nat} : ∀ {n : Nat}, (∀ j, j < n → f j ≤ h j) → sN f n ≤ sN h n
  | 0, _ => Nat.le_refl _
  | n + 1, e => by
    have h1 := sN_mono (f := f) (h := h) (n := n) (fun j hj => e j (by omega))
    have h2 := e n (by omega)
    show sN f n + f n ≤ sN h n + h n
    omega
theorem bS_ge {D : Nat} (hV : shV w T W C Sa) : bM w T ≤ bS B w q T D := sN_mono (fun j hj => by
  have := (dO_b (B := B) (q := q) (d := D) hV hj).1
  show bk w j ≤ bk w j * dO B w q j D
  exact Nat.le_mul_of_pos_right _ (by omega))
def yT (g : Nat) (s : Int32) (m' : cM) : Option cM := ((d_95 g s m').bind (fun z_3 => ((some (cW m' 71 18 ((m'.1 71 18) + z_3))).bind (fun mm_7 => ((d_73 g 81 mm_7).bind (fun z_9 => ((some (cW mm_7 71 19 ((mm_7.1 71 19) + z_9))).bind (fun mm_13 => ((d_79 g 81 mm_13).bind (fun z_15 => some z_15))))))))))
/-- the sum of the lived basket -/
theorem p_l39 {D : Nat} (hg : 2000 ≤ g) (hV : shV w T W C Sa) (hlv : ∀ t, t < T → bd (w (19 + 5 * t)) 99) (hb : ∀ t, t < T → w (17 + 5 * t) = nI (bk w t) ∧ bk w t ≤ 9) (hD : w 7 = nI D) : ∀ (j i n : Nat) (m : cM), i + j = T → 2 * j + 1 ≤ n → cO m (m.2.2.1 5) 5 = true → spO (m.2.2.1 5) → shR m.1 (m.2.2.1 5) w T W C Sa → rbR m.1 B R → q ≤ R → m.1 5 2 = rI q → lvR m.1 81 w T → ∃ m', l_39 g n 0 (nI (sN (fun t => bk w t * dO B w q t D) i)) (nI i) m = yT g (nI (bS B w q T D)) m' ∧ m'.1 = m.1 ∧ m'.2.2 = m.2.2 := by
  intro j
  have hT8 := hV.1.2
  induction j with
  | zero =>
    intro i n m hi hn hO hsp hS hR hq h52 hlr
    obtain ⟨n, rfl⟩ : ∃ n', n = n' + 1 := ⟨n - 1, by omega⟩
    have e : i = T := by omega
    subst e
    have e4 : m.1 (m.2.2.1 5) 4 = nI i := hS.1.2.2.2.2.1.trans hV.1.1
    refine ⟨m, ?_, rfl, rfl⟩
    rw [l_39]
    simp only [if_true, hO, e4, Int32.le_refl]
    rfl
  | succ j ih =>
    intro i n m hi hn hO hsp hS hR hq h52 hlr
    obtain ⟨n, rfl⟩ : ∃ n', n = n' + 2 := ⟨n - 2, by omega⟩
    have e4 : m.1 (m.2.2.1 5) 4 = nI T := hS.1.2.2.2.2.1.trans hV.1.1
    have hbi := hb i (by omega)
    have e82 : m.1 82 i = nI (bk w i) := (hlr.ba (by omega)).trans hbi.1
    have l1 : ∀ (y : Int32) (m1 : cM), l_39 g (n + 1) 1 y (nI i) m1 = l_39 g n 0 y (nI (i + 1)) m1 := fun y m1 => by
      rw [l_39, if_neg (by decide), if_pos rfl, show (1 : Int32) = nI 1 from rfl, nI_add]
    rw [l_39]
    by_cases h0 : bk w i = 0
    · obtain ⟨m', y1, y2, y3⟩ := ih (i + 1) n m (by omega) (by omega) hO hsp hS hR hq h52 hlr
      refine ⟨m', ?_, y2, y3⟩
      simp (disch := omega) only [if_true, hO, e4, k_leF, k_leT, if_false, k_in, k_cl, e82, h0, lit_nI, l1]
      have e5 : sN (fun t => bk w t * dO B w q t D) (i + 1) = sN (fun t => bk w t * dO B w q t D) i := by
        show sN (fun t => bk w t * dO B w q t D) i + bk w i * dO B w q i D = _
        rw [h0, Nat.zero_mul, Nat.add_zero]
      rw [e5] at y1
      exact y1
    · obtain ⟨p, hp1, hp2, hpp⟩ := (hV.2.2.2.2.2.2.2.2.1 i (by omega)).1
      have hl := nI_nN (hlv i (by omega)) (by omega)
      obtain ⟨m1, y1, y2, y3⟩ := p_89 (g := g) (B := B) (w := w) (m := m) (R := R) (Sa := Sa) (q := q) (t := i) (d := D) (l := nN (w (19 + 5 * i))) (p := p) (a1 := 81) hg hq hR.1 hR.2.2 hR.2.1 hO (by rw [hS.1.2.2.2.2.2.2.1]; exact hV.2.2.2.1.1) hV.2.2.2.1.1 hV.2.2.2.1.2 hS.2.2.2.1 (by omega) hpp hp1 hp2 (hS.2.1 i (by omega)).1 (hS.2.1 i (by omega)).2 hV.2.2.2.2.2.2.2.2.2.2.1 (by decide) (hlr.st (by omega)) (hlr.ha (by omega))
      rw [hl.1] at y1
      have e13 : m.1 81 13 = nI D := hlr.1.trans hD
      have e85 : m.1 85 i = w (19 + 5 * i) := hlr.lo (by omega)
      obtain ⟨m', z1, z2, z3⟩ := ih (i + 1) n m1 (by omega) (by omega) (by rw [y3, cO_of y3]; exact hO) (by rw [y3]; exact hsp) (by rw [y3, y2]; exact hS) (by rw [y2]; exact hR) hq (by rw [y2]; exact h52) (by rw [y2]; exact hlr)
      refine ⟨m', ?_, z2.trans y2, z3.trans y3⟩
      simp (disch := omega) only [if_true, hO, e4, k_leF, if_false, k_in, k_cl, e82, h52, e13, e85, y1, Option.bind_some, lit_nI, nI_add, pk_mul, l1]
      exact z1
/-- all that is so between the days of YEARS; m0, S0: as it was at first -/
def YR (m0 : cM) (S0 : rS) (w : Nat → Int32) (T K : Nat) (m : cM) (S : rS) (w' : Nat → Int32) (n : Nat) : Prop := ms m0 m ∧ rc scI (20 :: scA) S0 S ∧ S.2.1 20 = w' ∧ (∀ j, j ≤ 6 ∨ j = 10 ∨ 80 ≤ j → w' j = w j) ∧ lvR m.1 81 w' T ∧ lvV w' T K ∧ m.1 71 18 = S.1 41 ∧ m.1 71 19 = S.1 42 ∧ S.2.2.2.2 = lN n ∧ n < 2147483648 ∧ (∀ j, j < 80 → S.2.1 34 j = w j)
theorem q_208 {s fr : Nat} (hg : 100 ≤ g) (hV : shV w T W C Sa) (h20 : S.2.1 20 = w) (h5 : w 5 = nI fr) (hfr : fr ≤ 9999) (hs : s ≤ 2000000) : ∃ S', d_208 g (nI s) S = some (nI (coN w (fun _ => 0) 0 s fr), S') ∧ rc [24, 25] [] S S' ∧ S'.2.2 = S.2.2 := by
  unfold d_208
  have e5 : S.2.1 20 5 = nI fr := by rw [h20]; exact h5
  have e207 := q_207 (g := g) (S := rF S 24 0) (w := w) (row := fun _ => 0) (L := 0) (free := fr) (s := s) hg hV h20 rF_s (by omega) (fun i hi => absurd hi (by omega)) (by omega) hs
  refine ⟨rF (rF S 24 0) 25 (nI (caN w fr (ctN w (fun _ => 0) 0 0 s false))), ?_, (rc.F (by decide)).tr (rc.F (by decide)), rfl⟩
  simp (disch := omega) only [lit_nI, k_in, k_cl, if_true, e5]
  rw [show rF S 24 (nI 0) = rF S 24 0 from rfl, e207]
  rfl
theorem p_95 {s fr : Nat} (hV : shV w T W C Sa) (hO : cO m (m.2.2.1 5) 5 = true) (hS : shR m.1 (m.2.2.1 5) w T W C Sa) (h5 : w 5 = nI fr) (hfr : fr ≤ 9999) (hs : s ≤ 2000000) : d_95 g (nI s) m = some (nI (if s = 0 then 0 else coN w (fun _ => 0) 0 s fr)) := by
  obtain ⟨ca, hca1, hca2⟩ := hV.2.2.2.2.2.1
  have g2 : m.1 (m.2.2.1 5) 2 = nI fr := hS.1.2.2.1.trans h5
  have g1 : m.1 (m.2.2.1 5) 1 = nI ca := hS.1.2.1.trans hca2
  have nca : nN (w 4) = ca := by rw [hca2]; exact n_cl (by omega)
  unfold d_95
  by_cases h0 : s = 0
  · rw [if_pos h0, h0, if_pos (by decide)]
  · rw [if_neg h0]
    have ec : coN w (fun _ => 0) 0 s fr = s + (if s < fr then ca else 0) := by
      show s + (if s < fr ∧ false = false then nN (w 4) else 0) = _
      rw [nca]
      by_cases hf : s < fr
      · rw [if_pos ⟨hf, rfl⟩, if_pos hf]
      · rw [if_neg (fun z => hf z.1), if_neg hf]
    rw [ec]
    by_cases hf : s < fr
    · rw [if_pos hf]
      simp (disch := omega) only [lit_nI, k_leF, if_false, hO, if_true, g2, g1, nI_add]
    · rw [if_neg hf]
      simp (disch := omega) only [lit_nI, k_leF, k_leT, if_false, hO, if_true, g2, Nat.add_zero]
end YE
