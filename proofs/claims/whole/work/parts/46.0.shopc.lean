/-! shop, of the class: the clauses -/
section SHC
variable {g : Nat} {f : Nat → Int32} {n p : Nat} {m : cM} {s : sP}
theorem cO_2 {m m' : cM} {a ci : Nat} (h : m'.2 = m.2) : cO m' a ci = cO m a ci := by
  unfold cO
  rw [h]
/-- the reader's shop at p -/
def sR (m : cM) (p : Nat) : Prop := m.2.2.1 3 = p ∧ cO m p 5 = true
theorem sR.c1 {m' : cM} (h : sR m p) (k : c1 m m') : sR m' p := ⟨by rw [k.2]; exact h.1, (cO_2 k.2).trans h.2⟩
theorem sR.W {b k : Nat} {v : Int32} (h : sR m p) : sR (cW m b k v) p := ⟨h.1, (cO_2 (m := m) (m' := cW m b k v) rfl).trans h.2⟩
/-- one number that is written -/
theorem p_69w {xl xh : Int32} (b k : Nat) (hg : 1000 ≤ g) (h : cs m f n s) (hR : sR m p) (hb : b ≠ 1) (hb2 : b ≠ 2) : ∃ m', d_69 g xl xh m = some (nI (nv f n xl xh s), m') ∧ cO m' p 5 = true ∧ sR (cW m' b k (nI (nv f n xl xh s))) p ∧ cs (cW m' b k (nI (nv f n xl xh s))) f n (ns f n xl xh s) ∧ c1 (cW m b k (nI (nv f n xl xh s))) (cW m' b k (nI (nv f n xl xh s))) := by
  obtain ⟨m1, y1, y2, y3⟩ := p_69 (g := g) (xl := xl) (xh := xh) hg h
  exact ⟨m1, y1, (hR.c1 y2).2, (hR.c1 y2).W, y3.W hb hb2, y2.up hb⟩
theorem p_63 (hg : 1000 ≤ g) (h : cs m f n s) (hR : sR m p) (hp : 406 ≤ p) : ∃ m', d_63 g m = some m' ∧ sR m' p ∧ cs m' f n (ns f n 0 9999 (ns f n 0 999 s)) ∧ c1 (cW (cW m p 1 (nI (nv f n 0 999 s))) p 2 (nI (nv f n 0 9999 (ns f n 0 999 s)))) m' := by
  obtain ⟨m1, y1, y2, y3, y4, y5⟩ := p_69w (g := g) (xl := 0) (xh := 999) p 1 hg h hR (by omega) (by omega)
  obtain ⟨m2, z1, z2, z3, z4, z5⟩ := p_69w (g := g) (xl := 0) (xh := 9999) p 2 hg y4 y3 (by omega) (by omega)
  refine ⟨_, ?_, z3, z4, (y5.up (by omega)).tr z5⟩
  unfold d_63
  simp only [hR.1, hR.2, y1, y2, y3.1, y3.2, z1, z2, Option.bind_some, if_true]
theorem p_64 {T : Nat} (hg : 1000 ≤ g) (h : cs m f n s) (hR : sR m p) (hp : 406 ≤ p) (hT : m.1 p 4 = nI T) (hT8 : T < 8) : ∃ m', d_64 g m = some m' ∧ sR m' p ∧ cs m' f n (ns f n 0 9 (ns f n 0 5000 (ns f n 1 5000 s))) ∧ c1 (cW (cW (cW (cW m (p + 1) T (nI (nv f n 1 5000 s))) (p + 2) T (nI (nv f n 0 5000 (ns f n 1 5000 s)))) (p + 3) T (nI (nv f n 0 9 (ns f n 0 5000 (ns f n 1 5000 s))))) p 4 (nI (T + 1))) m' := by
  obtain ⟨m1, y1, y2, y3, y4, y5⟩ := p_69w (g := g) (xl := 1) (xh := 5000) (p + 1) T hg h hR (by omega) (by omega)
  obtain ⟨m2, z1, z2, z3, z4, z5⟩ := p_69w (g := g) (xl := 0) (xh := 5000) (p + 2) T hg y4 y3 (by omega) (by omega)
  obtain ⟨m3, u1, u2, u3, u4, u5⟩ := p_69w (g := g) (xl := 0) (xh := 9) (p + 3) T hg z4 z3 (by omega) (by omega)
  have hc := ((y5.up (b := p + 2) (k := T) (v := nI (nv f n 0 5000 (ns f n 1 5000 s))) (by omega)).tr z5).up (b := p + 3) (k := T) (v := nI (nv f n 0 9 (ns f n 0 5000 (ns f n 1 5000 s)))) (by omega)
  have hc2 := hc.tr u5
  have e4 : (cW m3 (p + 3) T (nI (nv f n 0 9 (ns f n 0 5000 (ns f n 1 5000 s))))).1 p 4 = nI T := by
    rw [hc2.1 p (by omega), cW_b (by omega), cW_b (by omega), cW_b (by omega)]; exact hT
  have kT : aIn (nI T) 8 = true := k_in (by omega) (by omega)
  have kc : (nI T).toNatClampNeg = T := k_cl (by omega)
  refine ⟨_, ?_, u3.W, u4.W (by omega) (by omega), hc2.up (by omega)⟩
  unfold d_64
  simp only [hR.1, hR.2, hT, kT, kc, y1, y2, y3.1, y3.2, z1, z2, z3.1, z3.2, u1, u2, u3.1, u3.2, Option.bind_some, if_true, e4, show nI T + 1 = nI (T + 1) from nI_1 T]
theorem p_65 {T W : Nat} (hg : 1000 ≤ g) (h : cs m f n s) (hR : sR m p) (hp : 406 ≤ p) (hT : m.1 p 4 = nI T) (hW : m.1 p 8 = nI W) (hW6 : W < 6) : ∃ m', d_65 g m = some m' ∧ sR m' p ∧ cs m' f n (ns f n 0 30 (ns f n 0 (nI T - 1) s)) ∧ c1 (cW (cW (cW m (p + 4) W (nI (nv f n 0 (nI T - 1) s))) (p + 5) W (nI (nv f n 0 30 (ns f n 0 (nI T - 1) s)))) p 8 (nI (W + 1))) m' := by
  obtain ⟨m1, y1, y2, y3, y4, y5⟩ := p_69w (g := g) (xl := 0) (xh := nI T - 1) (p + 4) W hg h hR (by omega) (by omega)
  obtain ⟨m2, z1, z2, z3, z4, z5⟩ := p_69w (g := g) (xl := 0) (xh := 30) (p + 5) W hg y4 y3 (by omega) (by omega)
  have hc2 := (y5.up (b := p + 5) (k := W) (v := nI (nv f n 0 30 (ns f n 0 (nI T - 1) s))) (by omega)).tr z5
  have e4 : (cW m2 (p + 5) W (nI (nv f n 0 30 (ns f n 0 (nI T - 1) s)))).1 p 8 = nI W := by
    rw [hc2.1 p (by omega), cW_b (by omega), cW_b (by omega)]; exact hW
  have kT : aIn (nI W) 6 = true := k_in (by omega) (by omega)
  have kc : (nI W).toNatClampNeg = W := k_cl (by omega)
  refine ⟨_, ?_, z3.W, z4.W (by omega) (by omega), hc2.up (by omega)⟩
  unfold d_65
  simp only [hR.1, hR.2, hT, hW, kT, kc, y1, y2, y3.1, y3.2, z1, z2, z3.1, z3.2, Option.bind_some, if_true, e4, show nI W + 1 = nI (W + 1) from nI_1 W]
theorem p_66 {T : Nat} (hg : 1000 ≤ g) (h : cs m f n s) (hR : sR m p) (hp : 406 ≤ p) (hT : m.1 p 11 = nI T) (hT8 : T < 4) : ∃ m', d_66 g m = some m' ∧ sR m' p ∧ cs m' f n (ns f n 1 90 (ns f n (nI (nv f n 0 99 s)) 99 (ns f n 0 99 s))) ∧ c1 (cW (cW (cW (cW m (p + 6) T (nI (nv f n 0 99 s))) (p + 7) T (nI (nv f n (nI (nv f n 0 99 s)) 99 (ns f n 0 99 s)))) (p + 8) T (nI (nv f n 1 90 (ns f n (nI (nv f n 0 99 s)) 99 (ns f n 0 99 s))))) p 11 (nI (T + 1))) m' := by
  obtain ⟨m1, y1, y2, y3, y4, y5⟩ := p_69w (g := g) (xl := 0) (xh := 99) (p + 6) T hg h hR (by omega) (by omega)
  obtain ⟨m2, z1, z2, z3, z4, z5⟩ := p_69w (g := g) (xl := nI (nv f n 0 99 s)) (xh := 99) (p + 7) T hg y4 y3 (by omega) (by omega)
  obtain ⟨m3, u1, u2, u3, u4, u5⟩ := p_69w (g := g) (xl := 1) (xh := 90) (p + 8) T hg z4 z3 (by omega) (by omega)
  have hc := ((y5.up (b := p + 7) (k := T) (v := nI (nv f n (nI (nv f n 0 99 s)) 99 (ns f n 0 99 s))) (by omega)).tr z5).up (b := p + 8) (k := T) (v := nI (nv f n 1 90 (ns f n (nI (nv f n 0 99 s)) 99 (ns f n 0 99 s)))) (by omega)
  have hc2 := hc.tr u5
  have e4 : (cW m3 (p + 8) T (nI (nv f n 1 90 (ns f n (nI (nv f n 0 99 s)) 99 (ns f n 0 99 s))))).1 p 11 = nI T := by
    rw [hc2.1 p (by omega), cW_b (by omega), cW_b (by omega), cW_b (by omega)]; exact hT
  have e6 : (cW m1 (p + 6) T (nI (nv f n 0 99 s))).1 (p + 6) T = nI (nv f n 0 99 s) := cW_s
  have kT : aIn (nI T) 4 = true := k_in (by omega) (by omega)
  have kc : (nI T).toNatClampNeg = T := k_cl (by omega)
  refine ⟨_, ?_, u3.W, u4.W (by omega) (by omega), hc2.up (by omega)⟩
  unfold d_66
  simp only [hR.1, hR.2, hT, kT, kc, y1, y2, y3.1, y3.2, e6, z1, z2, z3.1, z3.2, u1, u2, u3.1, u3.2, Option.bind_some, if_true, e4, show nI T + 1 = nI (T + 1) from nI_1 T]
/-- a code's last number -/
theorem j_67 {C : Nat} {x1 : Int32} (hg : 1000 ≤ g) (h : cs m f n s) (hR : sR m p) (hp : 406 ≤ p) (hC : m.1 p 15 = nI C) (hC5 : C < 5) : ∃ m', j_67_66 g x1 (nI C) m = some m' ∧ sR m' p ∧ cs m' f n (ns f n 0 9999 s) ∧ c1 (cW (cW m (p + 11) C (nI (nv f n 0 9999 s))) p 15 (nI (C + 1))) m' := by
  obtain ⟨m1, y1, y2, y3, y4, y5⟩ := p_69w (g := g) (xl := 0) (xh := 9999) (p + 11) C hg h hR (by omega) (by omega)
  have e4 : (cW m1 (p + 11) C (nI (nv f n 0 9999 s))).1 p 15 = nI C := by
    rw [y5.1 p (by omega), cW_b (by omega)]; exact hC
  have kT : aIn (nI C) 5 = true := k_in (by omega) (by omega)
  have kc : (nI C).toNatClampNeg = C := k_cl (by omega)
  refine ⟨_, ?_, y3.W, y4.W (by omega) (by omega), y5.up (by omega)⟩
  unfold j_67_66
  simp only [hR.1, hR.2, kT, kc, y1, y2, y3.1, y3.2, Option.bind_some, if_true, e4, show nI C + 1 = nI (C + 1) from nI_1 C]
/-- percent, off: with a number more; post -/
def cdS (f : Nat → Int32) (n kd : Nat) (s : sP) : sP := if kd = 2 then s else if kd = 0 then ns f n 1 90 s else ns f n 1 2000 s
def cdV (f : Nat → Int32) (n kd : Nat) (s : sP) : Nat := if kd = 2 then 0 else if kd = 0 then nv f n 1 90 s else nv f n 1 2000 s
theorem p_67 {C kd : Nat} (hg : 1000 ≤ g) (h : cs m f n s) (hR : sR m p) (hp : 406 ≤ p) (hC : m.1 p 15 = nI C) (hC5 : C < 5) (hk : kd ≤ 2) (h0 : m.1 (p + 10) C = 0) : ∃ m', d_67 g (nI (10 + kd)) m = some m' ∧ sR m' p ∧ cs m' f n (ns f n 0 9999 (cdS f n kd s)) ∧ c1 (cW (cW (cW (cW m (p + 9) C (nI (10 + kd))) (p + 10) C (nI (cdV f n kd s))) (p + 11) C (nI (nv f n 0 9999 (cdS f n kd s)))) p 15 (nI (C + 1))) m' := by
  have kT : aIn (nI C) 5 = true := k_in (by omega) (by omega)
  have kc : (nI C).toNatClampNeg = C := k_cl (by omega)
  have hR1 : sR (cW m (p + 9) C (nI (10 + kd))) p := hR.W
  have h1 : cs (cW m (p + 9) C (nI (10 + kd))) f n s := h.W (by omega) (by omega)
  have e15 : (cW m (p + 9) C (nI (10 + kd))).1 p 15 = nI C := by rw [cW_b (by omega)]; exact hC
  unfold d_67
  simp only [hR.1, hR.2, hC, kT, kc, Option.bind_some, if_true]
  have hk3 : kd = 0 ∨ kd = 1 ∨ kd = 2 := by omega
  rcases hk3 with e | e | e
  · subst e
    obtain ⟨m1, y1, y2, y3, y4, y5⟩ := p_69w (g := g) (xl := 1) (xh := 90) (p + 10) C hg h1 hR1 (by omega) (by omega)
    have e4 : (cW m1 (p + 10) C (nI (nv f n 1 90 s))).1 p 15 = nI C := by
      rw [y5.1 p (by omega), cW_b (by omega)]; exact e15
    obtain ⟨m', z1, z2, z3, z4⟩ := j_67 (g := g) (x1 := nI (10 + 0)) hg y4 y3 hp e4 hC5
    refine ⟨m', ?_, z2, z3, ((y5.up (by omega)).up (by omega)).tr z4⟩
    rw [if_neg (show ¬ ¬ nI (10 + 0) = 10 from fun z => z rfl)]
    simp only [hR1.1, hR1.2, y1, y2, kT, kc, Option.bind_some, if_true]
    exact z1
  · subst e
    obtain ⟨m1, y1, y2, y3, y4, y5⟩ := p_69w (g := g) (xl := 1) (xh := 2000) (p + 10) C hg h1 hR1 (by omega) (by omega)
    have e4 : (cW m1 (p + 10) C (nI (nv f n 1 2000 s))).1 p 15 = nI C := by
      rw [y5.1 p (by omega), cW_b (by omega)]; exact e15
    obtain ⟨m', z1, z2, z3, z4⟩ := j_67 (g := g) (x1 := nI (10 + 1)) hg y4 y3 hp e4 hC5
    refine ⟨m', ?_, z2, z3, ((y5.up (by omega)).up (by omega)).tr z4⟩
    rw [if_pos (show ¬ nI (10 + 1) = 10 by decide), if_neg (show ¬ ¬ nI (10 + 1) = 11 from fun z => z rfl)]
    simp only [hR1.1, hR1.2, y1, y2, kT, kc, Option.bind_some, if_true]
    exact z1
  · subst e
    obtain ⟨m', z1, z2, z3, z4⟩ := j_67 (g := g) (x1 := nI (10 + 2)) hg h1 hR1 hp e15 hC5
    refine ⟨m', ?_, z2, z3, ?_⟩
    · rw [if_pos (show ¬ nI (10 + 2) = 10 by decide), if_pos (show ¬ nI (10 + 2) = 11 by decide)]
      exact z1
    · have ew : cW (cW m (p + 9) C (nI (10 + 2))) (p + 10) C (nI 0) = cW m (p + 9) C (nI (10 + 2)) := by
        have : (cW m (p + 9) C (nI (10 + 2))).1 (p + 10) C = nI 0 := by rw [cW_b (by omega)]; exact h0
        refine Prod.ext ?_ rfl
        funext b
        by_cases e : b = p + 10
        · subst e
          funext j
          by_cases ej : j = C
          · subst ej; rw [cW_s]; exact this.symm
          · rw [cW_k ej]
        · rw [cW_b e]
      rw [show cdV f n 2 s = 0 from rfl, ew]
      exact z4
/-- two codes that are alone -/
def nmS (f : Nat → Int32) (n : Nat) : sP → Nat
  | .inl a => num f n a
  | .inr _ => 0
def alS (f : Nat → Int32) (n : Nat) (xh : Int32) (s : sP) : sP := if tkS f n (ns f n 0 xh s) = 20 ∧ nmS f n (ns f n 0 xh s) = nv f n 0 xh s then fl 1 (ns f n 0 xh s) else ns f n 0 xh s
theorem num_b {a : Nat} : num f n a ≤ 100000 := by
  unfold num
  by_cases h : sc (isDg f) n a - a ≤ 5
  · rw [if_pos h]
    exact Nat.le_of_lt (dv_5 h (fun i hi => sc_in (P := isDg f) (n := n) (p := a) (by omega) (by omega)))
  · rw [if_neg h]; exact Nat.le_refl _
theorem nv_b {xl xh : Int32} : nv f n xl xh s ≤ 100000 := by
  match s with
  | .inl a =>
    show (if _ then num f n a else 0) ≤ _
    split
    · exact num_b
    · omega
  | .inr v => exact Nat.zero_le _
theorem ns_in {xl xh : Int32} {a' : Nat} (h : ns f n xl xh s = .inl a') : xl ≤ nI (nv f n xl xh s) ∧ nI (nv f n xl xh s) ≤ xh := by
  match s, h with
  | .inl a, h =>
    have h : (if tkn f n a = 20 then (if xl ≤ nI (num f n a) ∧ nI (num f n a) ≤ xh then Sum.inl (bl f n (tke f n a)) else Sum.inr (1 + 8 * a + 1)) else Sum.inr (1 + 8 * a + 0)) = (Sum.inl a' : sP) := h
    show xl ≤ nI (if tkn f n a = 20 ∧ xl ≤ nI (num f n a) ∧ nI (num f n a) ≤ xh then num f n a else 0) ∧ nI (if tkn f n a = 20 ∧ xl ≤ nI (num f n a) ∧ nI (num f n a) ≤ xh then num f n a else 0) ≤ xh
    by_cases h1 : tkn f n a = 20
    · rw [if_pos h1] at h
      by_cases h2 : xl ≤ nI (num f n a) ∧ nI (num f n a) ≤ xh
      · rw [if_pos (show tkn f n a = 20 ∧ xl ≤ nI (num f n a) ∧ nI (num f n a) ≤ xh from ⟨h1, h2⟩)]
        exact h2
      · rw [if_neg h2] at h; cases h
    · rw [if_neg h1] at h; cases h
  | .inr v, h => cases h
theorem lt5 {x C : Nat} (hx : x ≤ 100000) (hC : C ≤ 5) (h : nI x ≤ nI C - 1) : x < C := by
  by_cases h0 : C = 0
  · subst h0
    exact absurd (Int32.le_trans (nI_pos' (n := x) (by omega)) h) (by decide)
  · rw [show (1 : Int32) = nI 1 from rfl, k_sub (by omega)] at h
    have := (nI_leI (by omega) (by omega)).mp h
    omega
theorem p_68 {C : Nat} (hg : 1000 ≤ g) (h : cs m f n s) (hR : sR m p) (hp : 406 ≤ p) (hC : m.1 p 15 = nI C) (hC5 : C ≤ 5) : ∃ m', d_68 g m = some m' ∧ sR m' p ∧ cs m' f n (ns f n 0 (nI C - 1) (alS f n (nI C - 1) s)) ∧ (∀ a', ns f n 0 (nI C - 1) (alS f n (nI C - 1) s) = .inl a' → nv f n 0 (nI C - 1) s < C ∧ nv f n 0 (nI C - 1) (alS f n (nI C - 1) s) < C ∧ c1 (cW (cW m (p + 12) (nv f n 0 (nI C - 1) s) (m.1 (p + 12) (nv f n 0 (nI C - 1) s) ||| (1 <<< (nI (nv f n 0 (nI C - 1) (alS f n (nI C - 1) s)) &&& 31)))) (p + 12) (nv f n 0 (nI C - 1) (alS f n (nI C - 1) s)) ((cW m (p + 12) (nv f n 0 (nI C - 1) s) (m.1 (p + 12) (nv f n 0 (nI C - 1) s) ||| (1 <<< (nI (nv f n 0 (nI C - 1) (alS f n (nI C - 1) s)) &&& 31)))).1 (p + 12) (nv f n 0 (nI C - 1) (alS f n (nI C - 1) s)) ||| (1 <<< (nI (nv f n 0 (nI C - 1) s) &&& 31)))) m') ∧ (∀ v, ns f n 0 (nI C - 1) (alS f n (nI C - 1) s) = .inr v → c1 m m') := by
  obtain ⟨m1, y1, y2, y3⟩ := p_69 (g := g) (xl := 0) (xh := nI C - 1) hg h
  have hR1 := hR.c1 y2
  have ht := y3.tk
  have hb := tkS_b (f := f) (n := n) (s := ns f n 0 (nI C - 1) s)
  obtain ⟨one, hone⟩ : ∃ one, one = nv f n 0 (nI C - 1) s := ⟨_, rfl⟩
  have hone5 : one ≤ 100000 := by rw [hone]; exact nv_b
  -- the test ahead of the second
  obtain ⟨m2, z1, z2, z3⟩ : ∃ m2, d_68 g m = j_68_46 g (nI one) m2 ∧ c1 m m2 ∧ cs m2 f n (alS f n (nI C - 1) s) := by
    unfold d_68
    simp only [hR.1, hR.2, hC, y1, Option.bind_some, if_true]
    rw [ht]
    by_cases h20 : tkS f n (ns f n 0 (nI C - 1) s) = 20
    · rw [if_neg (show ¬ ¬ nI (tkS f n (ns f n 0 (nI C - 1) s)) = 20 from fun z => z (by rw [h20]; rfl))]
      have e5 : m1.1 1 5 = nI (nmS f n (ns f n 0 (nI C - 1) s)) := by
        revert y3 h20
        cases ns f n 0 (nI C - 1) s with
        | inl b => exact fun y3 h20 => y3.2.2.2.1.2.2.2 h20
        | inr v => exact fun _ h20 => absurd h20 (by show ¬ 21 = 20; decide)
      have hnm : nmS f n (ns f n 0 (nI C - 1) s) ≤ 100000 := by
        cases ns f n 0 (nI C - 1) s with
        | inl b => exact num_b
        | inr v => exact Nat.zero_le _
      rw [e5, ← hone]
      by_cases he : nmS f n (ns f n 0 (nI C - 1) s) = one
      · rw [if_neg (fun z => z (by rw [he]))]
        obtain ⟨m2, u1, u2, u3⟩ := p_83s (g := g) (k := 1) (by omega) y3
        rw [show d_83 g 1 m1 = some m2 from u1, Option.bind_some]
        refine ⟨m2, rfl, y2.tr u2, ?_⟩
        unfold alS
        rw [if_pos ⟨h20, he.trans hone⟩]
        exact u3
      · rw [if_pos (fun z => he ((nI_eq (by omega) (by omega)).mp z))]
        refine ⟨m1, rfl, y2, ?_⟩
        unfold alS
        rw [if_neg (fun z => he (z.2.trans hone.symm))]
        exact y3
    · rw [if_pos (show ¬ nI (tkS f n (ns f n 0 (nI C - 1) s)) = 20 from fun z => h20 ((nI_eq (b := 20) (by omega) (by omega)).mp z)), ← hone]
      refine ⟨m1, rfl, y2, ?_⟩
      unfold alS
      rw [if_neg (fun z => h20 z.1)]
      exact y3
  rw [z1, ← hone]
  have hR2 := hR.c1 z2
  have e15 : m2.1 p 15 = nI C := by rw [z2.1 p (by omega)]; exact hC
  obtain ⟨m3, u1, u2, u3⟩ := p_69 (g := g) (xl := 0) (xh := nI C - 1) hg z3
  have hR3 := hR2.c1 u2
  have hal : ∀ a', ns f n 0 (nI C - 1) (alS f n (nI C - 1) s) = .inl a' → ∃ b, ns f n 0 (nI C - 1) s = .inl b := by
    intro a' ha'
    cases e : ns f n 0 (nI C - 1) s with
    | inl b => exact ⟨b, rfl⟩
    | inr v =>
      exfalso
      unfold alS at ha'
      rw [e] at ha'
      rw [if_neg (show ¬ (tkS f n (.inr v) = 20 ∧ _) from fun z => absurd z.1 (by show ¬ 21 = 20; decide))] at ha'
      cases ha'
  unfold j_68_46
  simp only [hR2.1, hR2.2, e15, u1, Option.bind_some, if_true]
  cases e3 : ns f n 0 (nI C - 1) (alS f n (nI C - 1) s) with
  | inr v =>
    rw [e3] at u3
    have e6 : ¬ m3.1 1 6 = 0 := by rw [u3.2.2.2.2.1]; exact nI_ne0 u3.2.2.2.2.2.1 (by have := u3.2.2.2.2.2.2; omega)
    rw [if_pos e6]
    exact ⟨m3, rfl, hR3, u3, fun a' ha' => (by cases ha'), fun v' _ => z2.tr u2⟩
  | inl a' =>
    have hin := ns_in e3
    obtain ⟨b, hb2⟩ := hal a' e3
    have hin1 := ns_in hb2
    rw [← hone] at hin1
    obtain ⟨two, htwo⟩ : ∃ two, two = nv f n 0 (nI C - 1) (alS f n (nI C - 1) s) := ⟨_, rfl⟩
    rw [← htwo] at hin ⊢
    have h1 : one < C := lt5 hone5 hC5 hin1.2
    have h2 : two < C := lt5 (by rw [htwo]; exact nv_b) hC5 hin.2
    rw [e3] at u3
    have e6 : m3.1 1 6 = 0 := u3.2.2.2.2
    have kA : aIn (nI one) 5 = true := k_in (by omega) (by omega)
    have kB : aIn (nI two) 5 = true := k_in (by omega) (by omega)
    have cA : (nI one).toNatClampNeg = one := k_cl (by omega)
    have cB : (nI two).toNatClampNeg = two := k_cl (by omega)
    have hc := z2.tr u2
    rw [if_neg (fun z => z e6)]
    have hRW : sR (cW m3 (p + 12) one (m3.1 (p + 12) one ||| (1 <<< (nI two &&& 31)))) p := hR3.W
    simp only [hR3.1, hR3.2, kA, kB, cA, cB, Option.bind_some, if_true, hRW.1, hRW.2]
    refine ⟨_, rfl, hRW.W, (u3.W (by omega) (by omega)).W (by omega) (by omega), fun a'' _ => ⟨h1, h2, ?_⟩, fun v hv => by cases hv⟩
    have hcc : c1 (cW m (p + 12) one (m.1 (p + 12) one ||| (1 <<< (nI two &&& 31)))) (cW m3 (p + 12) one (m3.1 (p + 12) one ||| (1 <<< (nI two &&& 31)))) := by
      rw [hc.1 (p + 12) (by omega)]
      exact hc.up (by omega)
    have := hcc.up (b := p + 12) (k := two) (v := (cW m (p + 12) one (m.1 (p + 12) one ||| (1 <<< (nI two &&& 31)))).1 (p + 12) two ||| (1 <<< (nI one &&& 31))) (by omega)
    rw [show (cW m3 (p + 12) one (m3.1 (p + 12) one ||| (1 <<< (nI two &&& 31)))).1 (p + 12) two = (cW m (p + 12) one (m.1 (p + 12) one ||| (1 <<< (nI two &&& 31)))).1 (p + 12) two by rw [hcc.1 (p + 12) (by omega)]]
    exact this
end SHC
