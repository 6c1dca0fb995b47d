/-! probe -/
/-- how many of the first n are v -/
def cnE (f : Nat → Nat) (v : Nat) : Nat → Nat
  | 0 => 0
  | n + 1 => cnE f v n + if f n = v then 1 else 0
def mxU (f : Nat → Nat) : Nat → Nat
  | 0 => 0
  | n + 1 => if mxU f n < f n then f n else mxU f n
def cnF (p : Nat → Bool) (h : Nat → Nat) (v : Nat) : Nat → Nat
  | 0 => 0
  | n + 1 => cnF p h v n + if p n = true ∧ h n = v then 1 else 0
theorem cnE_c {f f' : Nat → Nat} {v : Nat} : ∀ {n : Nat}, (∀ j, j < n → f j = f' j) → cnE f v n = cnE f' v n
  | 0, _ => rfl
  | n + 1, h => by
    show cnE f v n + _ = cnE f' v n + _
    rw [cnE_c (n := n) (fun j hj => h j (by omega)), h n (by omega)]
theorem mxU_c {f f' : Nat → Nat} : ∀ {n : Nat}, (∀ j, j < n → f j = f' j) → mxU f n = mxU f' n
  | 0, _ => rfl
  | n + 1, h => by
    show (if mxU f n < f n then f n else mxU f n) = (if mxU f' n < f' n then f' n else mxU f' n)
    rw [mxU_c (n := n) (fun j hj => h j (by omega)), h n (by omega)]
theorem FL_get {p : Nat → Bool} {n j : Nat} (hj : j < (FL p n).length) : (FL p n ++ [n]).getD j 0 = (FL p n).getD j 0 := by
  rw [List.getD_eq_getElem?_getD, List.getD_eq_getElem?_getD, List.getElem?_append_left hj]
theorem FL_last {p : Nat → Bool} {n : Nat} : (FL p n ++ [n]).getD (FL p n).length 0 = n := by
  rw [List.getD_eq_getElem?_getD, List.getElem?_append_right (Nat.le_refl _)]
  simp
theorem cnE_F {p : Nat → Bool} {h : Nat → Nat} {v : Nat} : ∀ {n : Nat}, cnE (fun j => h ((FL p n).getD j 0)) v (FL p n).length = cnF p h v n
  | 0 => rfl
  | n + 1 => by
    have ih := cnE_F (p := p) (h := h) (v := v) (n := n)
    show _ = cnF p h v n + if p n = true ∧ h n = v then 1 else 0
    rw [FL_s, ← ih]
    by_cases hp : p n = true
    · rw [if_pos hp, List.length_append]
      show cnE _ v ((FL p n).length + 1) = _
      show cnE _ v (FL p n).length + (if h ((FL p n ++ [n]).getD (FL p n).length 0) = v then 1 else 0) = _
      rw [FL_last, cnE_c (f' := fun j => h ((FL p n).getD j 0)) (fun j hj => by show h _ = h _; rw [FL_get hj])]
      by_cases hv : h n = v
      · rw [if_pos hv, if_pos ⟨hp, hv⟩]
      · rw [if_neg hv, if_neg (fun z => hv z.2)]
    · rw [if_neg hp, if_neg (fun z => hp z.1), Nat.add_zero]
theorem mxU_F {p : Nat → Bool} {G : Nat → Nat} : ∀ {n : Nat}, mxU (fun i => G ((FL p n).getD i 0)) (FL p n).length = mxU (fun a => if p a = true then G a else 0) n
  | 0 => rfl
  | n + 1 => by
    have ih := mxU_F (p := p) (G := G) (n := n)
    show _ = (if mxU (fun a => if p a = true then G a else 0) n < (if p n = true then G n else 0) then (if p n = true then G n else 0) else mxU (fun a => if p a = true then G a else 0) n)
    rw [FL_s, ← ih]
    by_cases hp : p n = true
    · rw [if_pos hp, if_pos hp, List.length_append]
      show mxU _ ((FL p n).length + 1) = _
      show (if mxU _ (FL p n).length < G ((FL p n ++ [n]).getD (FL p n).length 0) then G ((FL p n ++ [n]).getD (FL p n).length 0) else mxU _ (FL p n).length) = _
      rw [FL_last, mxU_c (f' := fun i => G ((FL p n).getD i 0)) (fun j hj => by show G _ = G _; rw [FL_get hj])]
    · rw [if_neg hp, if_neg hp, if_neg (by omega)]
theorem cnE_b {f : Nat → Nat} {v : Nat} : ∀ {n : Nat}, cnE f v n ≤ n
  | 0 => Nat.le_refl _
  | n + 1 => by
    have := cnE_b (f := f) (v := v) (n := n)
    show cnE f v n + (if f n = v then 1 else 0) ≤ n + 1
    split <;> omega
theorem mxU_b {f : Nat → Nat} {c : Nat} : ∀ {n : Nat}, (∀ j, j < n → f j ≤ c) → mxU f n ≤ c
  | 0, _ => Nat.zero_le _
  | n + 1, h => by
    have := mxU_b (f := f) (n := n) (fun j hj => h j (by omega))
    have := h n (by omega)
    show (if mxU f n < f n then f n else mxU f n) ≤ c
    split <;> omega
theorem mxU_ge {f : Nat → Nat} : ∀ {n j : Nat}, j < n → f j ≤ mxU f n
  | 0, _, h => absurd h (by omega)
  | n + 1, j, h => by
    show f j ≤ (if mxU f n < f n then f n else mxU f n)
    by_cases e : j = n
    · subst e
      split <;> omega
    · have := mxU_ge (f := f) (n := n) (j := j) (by omega)
      split <;> omega
theorem cnE_pos {f : Nat → Nat} {v : Nat} : ∀ {n j : Nat}, j < n → f j = v → 1 ≤ cnE f v n
  | 0, _, h, _ => absurd h (by omega)
  | n + 1, j, h, e => by
    show 1 ≤ cnE f v n + (if f n = v then 1 else 0)
    by_cases ej : j = n
    · subst ej; rw [if_pos e]; omega
    · have := cnE_pos (f := f) (v := v) (n := n) (j := j) (by omega) e
      omega
/-- the most alike, for prices h of the rules that fit -/
def mA (p : Nat → Bool) (h : Nat → Nat) (R : Nat) : Nat := mxU (fun a => if p a = true then cnF p h (h a) (R + 1) else 0) (R + 1)
section PB
variable {g k : Nat} {m : cM} {S : rS} {B : rB} {w : Nat → Int32} {q T W C Sa R : Nat} {x : Int32}
theorem p_l35b {f : Nat → Nat} {c i : Nat} {x1 : Int32} (hc : m.1 71 17 = nI c) (hc7 : c ≤ 7) (hi : i < c) (hf : ∀ j, j < c → m.1 80 j = nI (f j) ∧ f j < 2147483648) : ∀ (e j n : Nat), j + e = c → 2 * e + 1 ≤ n → l_35 g n 1 x1 (nI i) (nI (cnE f (f i) j)) (nI j) m = l_35 g (n - (2 * e + 1)) 0 (if x1 < nI (cnE f (f i) c) then nI (cnE f (f i) c) else x1) (nI (i + 1)) 0 0 m := by
  intro e
  induction e with
  | zero =>
    intro j n hj hn
    obtain ⟨n, rfl⟩ : ∃ n', n = n' + 1 := ⟨n - 1, by omega⟩
    have ej : j = c := by omega
    subst ej
    rw [l_35]
    simp (disch := omega) only [Nat.one_ne_zero, if_true, if_false, hc, Int32.le_refl, lit_nI, nI_add]
    rfl
  | succ e ih =>
    intro j n hj hn
    obtain ⟨n, rfl⟩ : ∃ n', n = n' + 2 := ⟨n - 2, by omega⟩
    have l2 : ∀ y x4 : Int32, l_35 g (n + 1) 2 x1 (nI i) y x4 m = l_35 g n 1 x1 (nI i) y (x4 + 1) m := fun y x4 => by
      rw [l_35, if_neg (by decide), if_neg (by decide), if_pos rfl]
    have step := ih (j + 1) n (by omega) (by omega)
    have eb := cnE_b (f := f) (v := f i) (n := j)
    rw [show n + 2 - (2 * (e + 1) + 1) = n - (2 * e + 1) by omega, ← step]
    rw [l_35]
    simp (disch := omega) only [Nat.one_ne_zero, if_true, if_false, hc, k_leF, k_in, k_cl, (hf j (by omega)).1, (hf i hi).1, l2, lit_nI, nI_add]
    have h1 := (hf j (by omega)).2
    have h2 := (hf i hi).2
    show _ = l_35 g n 1 x1 (nI i) (nI (cnE f (f i) j + if f j = f i then 1 else 0)) (nI (j + 1)) m
    by_cases he : f j = f i
    · rw [if_neg (fun z => z (by rw [he])), if_pos he]
    · rw [if_pos (fun z => he ((nI_eq h1 h2).mp z)), if_neg he]
      rfl
theorem p_l35 {f : Nat → Nat} {c : Nat} (hc : m.1 71 17 = nI c) (hc7 : c ≤ 7) (hf : ∀ j, j < c → m.1 80 j = nI (f j) ∧ f j < 2147483648) : ∀ (e i n : Nat), i + e = c → 17 * e + 1 ≤ n → l_35 g n 0 (nI (mxU (fun i => cnE f (f i) c) i)) (nI i) 0 0 m = some (nI (mxU (fun i => cnE f (f i) c) c)) := by
  intro e
  induction e with
  | zero =>
    intro i n hi hn
    obtain ⟨n, rfl⟩ : ∃ n', n = n' + 1 := ⟨n - 1, by omega⟩
    have ei : i = c := by omega
    subst ei
    rw [l_35]
    simp (disch := omega) only [if_true, hc, Int32.le_refl]
  | succ e ih =>
    intro i n hi hn
    obtain ⟨n, rfl⟩ : ∃ n', n = n' + 1 := ⟨n - 1, by omega⟩
    have hb := p_l35b (g := g) (m := m) (f := f) (c := c) (i := i) (x1 := nI (mxU (fun i => cnE f (f i) c) i)) hc hc7 (by omega) hf c 0 n (by omega) (by omega)
    have b1 := cnE_b (f := f) (v := f i) (n := c)
    have b2 := mxU_b (f := fun i => cnE f (f i) c) (c := c) (n := i) (fun j _ => cnE_b)
    rw [l_35]
    simp (disch := omega) only [if_true, hc, k_leF, if_false]
    rw [show (0 : Int32) = nI 0 from rfl]
    have hb : l_35 g n 1 (nI (mxU (fun i => cnE f (f i) c) i)) (nI i) (nI 0) (nI 0) m = _ := hb
    rw [hb]
    have er : (if nI (mxU (fun i => cnE f (f i) c) i) < nI (cnE f (f i) c) then nI (cnE f (f i) c) else nI (mxU (fun i => cnE f (f i) c) i)) = nI (mxU (fun i => cnE f (f i) c) (i + 1)) := by
      show _ = nI (if mxU (fun i => cnE f (f i) c) i < cnE f (f i) c then cnE f (f i) c else mxU (fun i => cnE f (f i) c) i)
      by_cases hl : mxU (fun i => cnE f (f i) c) i < cnE f (f i) c
      · rw [if_pos (nI_lt hl (by omega)), if_pos hl]
      · rw [if_neg (nI_nlt (by omega) (by omega)), if_neg hl]
    rw [er]
    exact ih (i + 1) _ (by omega) (by omega)
theorem p_35 {f : Nat → Nat} {c : Nat} (hg : 2000 ≤ g) (hc : m.1 71 17 = nI c) (hc7 : c ≤ 7) (hf : ∀ j, j < c → m.1 80 j = nI (f j) ∧ f j < 2147483648) : d_35 g m = some (nI (mxU (fun i => cnE f (f i) c) c)) := by
  unfold d_35
  exact p_l35 hc hc7 hf c 0 g (by omega) (by omega)
theorem p_l34b {t d l c : Nat} {F : List Nat} (hg : 2000 ≤ g) (ht : t < T) (hF : F.length = c) (hc7 : c ≤ 7) (hFR : ∀ j, j < c → F.getD j 0 ≤ R) : ∀ (e i n : Nat) (m : cM), i + e = c → e + 1 ≤ n → cx m B w q x T W C Sa R k → rul m F → (∀ j, j < i → m.1 80 j = nI (dn B w (F.getD j 0) t d l)) → ∃ m', l_34 g n 1 (nI t) (nI d) (nI l) (nI i) m = l_34 g (n - e) 1 (nI t) (nI d) (nI l) (nI c) m' ∧ ms m m' ∧ rul m' F ∧ (∀ b, b ≠ 80 → m'.1 b = m.1 b) ∧ (∀ j, j < c → m'.1 80 j = nI (dn B w (F.getD j 0) t d l)) := by
  intro e
  induction e with
  | zero =>
    intro i n m hi hn h hr hf
    have ei : i = c := by omega
    subst ei
    exact ⟨m, rfl, ms.rf _, hr, fun _ _ => rfl, hf⟩
  | succ e ih =>
    intro i n m hi hn h hr hf
    obtain ⟨n, rfl⟩ : ∃ n', n = n' + 1 := ⟨n - 1, by omega⟩
    obtain ⟨m1, y1, y2, y3⟩ := p_dn (g := g) hg h.cy (q := F.getD i 0) (t := t) (d := d) (l := l) (hFR i (by omega)) ht
    have hms : ms m (cW m1 80 i (nI (dn B w (F.getD i 0) t d l))) := (ms.of y2 y3).tr (ms.W (by omega))
    obtain ⟨m', z1, z2, z3, z4, z5⟩ := ih (i + 1) n (cW m1 80 i (nI (dn B w (F.getD i 0) t d l))) (by omega) (by omega) (h.ms hms) (by
      refine ⟨by rw [cW_b (by decide), y2]; exact hr.1, fun j hj => by rw [cW_b (by decide), y2]; exact hr.2 j hj⟩) (by
      intro j hj
      by_cases ej : j = i
      · rw [ej, cW_s]
      · rw [cW_k ej, y2]; exact hf j (by omega))
    refine ⟨m', ?_, hms.tr z2, z3, fun b hb => (z4 b hb).trans (by rw [cW_b hb, y2]), z5⟩
    have e17 : m.1 71 17 = nI c := by rw [hr.1, hF]
    have e79 := hr.2 i (by omega)
    rw [show n + 1 - (e + 1) = n - e by omega, ← z1]
    rw [l_34]
    simp (disch := omega) only [Nat.one_ne_zero, if_true, if_false, e17, k_leF, k_in, k_cl, e79, y1, Option.bind_some, lit_nI, nI_add]
theorem p_l34 {t d c : Nat} {F : List Nat} (hg : 2000 ≤ g) (ht : t < T) (hF : F.length = c) (hc7 : c ≤ 7) (hFR : ∀ j, j < c → F.getD j 0 ≤ R) (M : Nat → Nat) (hM : ∀ l, M l = mxU (fun i => cnE (fun j => dn B w (F.getD j 0) t d l) (dn B w (F.getD i 0) t d l) c) c) (hMb : ∀ l, M l ≤ 100) : ∀ (e l n : Nat) (m : cM), l + e = 10 → 10 * e + 1 ≤ n → cx m B w q x T W C Sa R k → rul m F → (if l = 0 then bst m none else ∃ r, bst m (some (nI (M (awD M 0 (l - 1))), 1, r)) ∧ r 0 = nI (awD M 0 (l - 1))) → ∃ m' r, l_34 g n 0 (nI t) (nI d) (nI l) 0 m = some m' ∧ ms m m' ∧ bst m' (some (nI (M (awD M 0 9)), 1, r)) ∧ r 0 = nI (awD M 0 9) := by
  intro e
  induction e with
  | zero =>
    intro l n m hl hn h hr hb
    obtain ⟨n, rfl⟩ : ∃ n', n = n' + 1 := ⟨n - 1, by omega⟩
    have el : l = 10 := by omega
    subst el
    obtain ⟨r, r1, r2⟩ := hb
    refine ⟨m, r, ?_, ms.rf _, r1, r2⟩
    rw [l_34]
    simp (disch := omega) only [if_true, lit_nI, k_ltT]
  | succ e ih =>
    intro l n m hl hn h hr hb
    obtain ⟨n, rfl⟩ : ∃ n', n = n' + 1 := ⟨n - 1, by omega⟩
    obtain ⟨m1, y1, y2, y3, y4, y5⟩ := p_l34b (g := g) (B := B) (q := q) (x := x) (d := d) (l := l) hg ht hF hc7 hFR c 0 n m (by omega) (by omega) h hr (fun j hj => absurd hj (by omega))
    obtain ⟨n2, hn2⟩ : ∃ q, n - c = q + 1 := ⟨n - c - 1, by omega⟩
    have e17 : m1.1 71 17 = nI c := by rw [y3.1, hF]
    have hms2 : ms m (cW m1 74 0 (nI l)) := y2.tr (ms.W (by omega))
    have p35 := p_35 (g := g) (m := cW m1 74 0 (nI l)) (f := fun j => dn B w (F.getD j 0) t d l) (c := c) hg (by rw [cW_b (by decide)]; exact e17) hc7 (fun j hj => by
      rw [cW_b (by decide)]
      exact ⟨y5 j hj, by have := (dn_b (B := B) (q := F.getD j 0) (d := d) (l := l) h.2.1 ht).2; omega⟩)
    rw [← hM l] at p35
    have hb1 : ∀ b : bO, bst m b → bst (cW m1 74 0 (nI l)) b := fun b hb => hb.co (by rw [cW_b (by decide), y4 72 (by decide)]) (by rw [cW_b (by decide), y4 73 (by decide)])
    have e74 : (cW m1 74 0 (nI l)).1 74 0 = nI l := cW_s
    obtain ⟨b0, hb0, hb0'⟩ : ∃ b0, bst (cW m1 74 0 (nI l)) b0 ∧ ∃ r, off b0 (nI (M l)) 1 ((cW m1 74 0 (nI l)).1 74) = some (nI (M (awD M 0 l)), 1, r) ∧ r 0 = nI (awD M 0 l) := by
      by_cases h0 : l = 0
      · subst h0
        rw [if_pos rfl] at hb
        exact ⟨none, hb1 _ hb, _, rfl, e74⟩
      · rw [if_neg h0] at hb
        obtain ⟨r, r1, r2⟩ := hb
        refine ⟨_, hb1 _ r1, ?_⟩
        obtain ⟨i', rfl⟩ : ∃ q, l = q + 1 := ⟨l - 1, by omega⟩
        rw [Nat.add_sub_cancel] at r2
        simp only [off, Nat.add_sub_cancel]
        have hl1 := hMb (i' + 1)
        have hl2 := hMb (awD M 0 i')
        have er : awD M 0 (i' + 1) = if M (0 + i' + 1) < M (awD M 0 i') then 0 + i' + 1 else awD M 0 i' := rfl
        rw [Nat.zero_add] at er
        rw [er]
        by_cases hlt : M (i' + 1) < M (awD M 0 i')
        · rw [if_pos hlt, if_pos (nI_lt hlt (by omega))]
          exact ⟨_, rfl, e74⟩
        · rw [if_neg hlt, if_neg (nI_nlt (by omega) (by omega))]
          exact ⟨r, rfl, r2⟩
    obtain ⟨m2, z1, z2, z3, z4⟩ := p_2 (g := g) (m := cW m1 74 0 (nI l)) (v := nI (M l)) (L := 1) (b := b0) (by omega) hb0
    obtain ⟨r, r1, r2⟩ := hb0'
    rw [r1] at z2
    obtain ⟨m', r', u1, u2, u3, u4⟩ := ih (l + 1) n2 m2 (by omega) (by omega) (h.ms (hms2.tr z3)) (by
      refine ⟨by rw [z4 71 (by decide) (by decide), cW_b (by decide)]; exact y3.1, fun j hj => by rw [z4 79 (by decide) (by decide), cW_b (by decide)]; exact y3.2 j hj⟩) (by rw [if_neg (by omega), Nat.add_sub_cancel]; exact ⟨r, z2, r2⟩)
    refine ⟨m', r', ?_, (hms2.tr z3).tr u2, u3, u4⟩
    rw [l_34]
    simp (disch := omega) only [if_true, lit_nI, k_ltF, if_false]
    rw [y1, hn2, l_34]
    simp (disch := omega) only [Nat.one_ne_zero, if_true, if_false, e17, Int32.le_refl, lit_nI, k_in, k_cl, Option.bind_some, p35]
    rw [z1, Option.bind_some, nI_add]
    exact u1
end PB
