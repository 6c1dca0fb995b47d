/-! baskets, of the class -/
/-- how many baskets the first n wants lie in -/
def uz (r : Nat → Nat) : Nat → Nat
  | 0 => 0
  | n + 1 => if uz r n < r n + 1 then r n + 1 else uz r n
def uzl (r : Nat → Nat) (p : Nat) : Nat := if uz r p ≤ p then uz r p else p
theorem uz_c {r r' : Nat → Nat} : ∀ {n : Nat}, (∀ j, j < n → r j = r' j) → uz r n = uz r' n
  | 0, _ => rfl
  | n + 1, h => by
    show (if uz r n < r n + 1 then r n + 1 else uz r n) = (if uz r' n < r' n + 1 then r' n + 1 else uz r' n)
    rw [uz_c (fun j hj => h j (by omega)), h n (by omega)]
theorem uz_b {r : Nat → Nat} : ∀ {n : Nat}, (∀ j, j < n → r j ≤ j) → uz r n ≤ n
  | 0, _ => Nat.le_refl _
  | n + 1, h => by
    have h1 := uz_b (r := r) (n := n) (fun j hj => h j (by omega))
    have h2 := h n (by omega)
    show (if uz r n < r n + 1 then r n + 1 else uz r n) ≤ n + 1
    split <;> omega
theorem uz_lt {r : Nat → Nat} : ∀ {n j : Nat}, j < n → r j < uz r n
  | 0, _, h => absurd h (by omega)
  | n + 1, j, h => by
    show r j < (if uz r n < r n + 1 then r n + 1 else uz r n)
    by_cases e : j = n
    · subst e
      split <;> omega
    · have := uz_lt (r := r) (n := n) (j := j) (by omega)
      split <;> omega
theorem uzl_e {r : Nat → Nat} {n : Nat} (h : ∀ j, j < n → r j ≤ j) : uzl r n = uz r n := if_pos (uz_b h)
theorem uzl_c (r r' : Nat → Nat) (p : Nat) (h : ∀ j, j < p → r j = r' j) : uzl r p = uzl r' p := by
  unfold uzl
  rw [uz_c h]
theorem uzl_b (r : Nat → Nat) (p : Nat) : uzl r p ≤ p := by
  unfold uzl
  split <;> omega
/-- the sum of basket c -/
def sbk (pr : Nat → Nat) (r : Nat → Nat) (c : Nat) : Nat → Nat
  | 0 => 0
  | n + 1 => sbk pr r c n + if r n = c then pr n else 0
theorem sbk_c {pr r r' : Nat → Nat} {c : Nat} : ∀ {n : Nat}, (∀ j, j < n → r j = r' j) → sbk pr r c n = sbk pr r' c n
  | 0, _ => rfl
  | n + 1, h => by
    show sbk pr r c n + (if r n = c then pr n else 0) = sbk pr r' c n + (if r' n = c then pr n else 0)
    rw [sbk_c (fun j hj => h j (by omega)), h n (by omega)]
theorem sbk_b {pr r : Nat → Nat} {c K : Nat} : ∀ {n : Nat}, (∀ j, j < n → pr j ≤ K) → sbk pr r c n ≤ n * K
  | 0, _ => Nat.zero_le _
  | n + 1, h => by
    have h1 := sbk_b (pr := pr) (r := r) (c := c) (K := K) (n := n) (fun j hj => h j (by omega))
    have h2 := h n (by omega)
    show sbk pr r c n + (if r n = c then pr n else 0) ≤ _
    rw [Nat.succ_mul]
    split <;> omega
theorem sbk_0 {pr r : Nat → Nat} {c : Nat} : ∀ {n : Nat}, (∀ j, j < n → r j ≠ c) → sbk pr r c n = 0
  | 0, _ => rfl
  | n + 1, h => by
    show sbk pr r c n + (if r n = c then pr n else 0) = 0
    rw [sbk_0 (fun j hj => h j (by omega)), if_neg (h n (by omega))]
def pcN (w : Nat → Int32) (fr s : Nat) : Nat := if s = 0 then 0 else coN w (fun _ => 0) 0 s fr
/-- what all baskets cost -/
def cbN (w : Nat → Int32) (fr : Nat) (pr : Nat → Nat) (W : Nat) (r : Nat → Nat) : Nat := sN (fun c => pcN w fr (sbk pr r c W)) W
theorem sN_z {f : Nat → Nat} {a : Nat} : ∀ {d : Nat}, (∀ c, a ≤ c → f c = 0) → sN f (a + d) = sN f a
  | 0, _ => rfl
  | d + 1, h => by
    show sN f (a + d) + f (a + d) = sN f a
    rw [sN_z h, h _ (by omega), Nat.add_zero]
def wtN (w : Nat → Int32) (i : Nat) : Nat := nN (w (96 + 2 * i))
def bkF (w : Nat → Int32) (fr : Nat) (pr : Nat → Nat) (W : Nat) (r : Nat → Nat) (b : bO) : bO := off b (nI (cbN w fr pr W r)) W (fun i => nI (r i))
section BK
variable {g k : Nat} {m : cM} {S : rS} {B : rB} {w : Nat → Int32} {q T W C Sa R : Nat} {x : Int32}
theorem wt_of (hV : shV w T W C Sa) {i : Nat} (hi : i < W) : w (96 + 2 * i) = nI (wtN w i) ∧ wtN w i < T := by
  obtain ⟨t, t1, t2⟩ := (hV.2.2.2.2.2.2.2.2.2.1 i hi).1
  have hT8 := hV.1.2
  have e : wtN w i = t := by
    show nN (w (96 + 2 * i)) = t
    rw [t2]; exact n_cl (by omega)
  rw [e]
  exact ⟨t2, t1⟩
theorem p_l25 {s : Nat → Nat} {fr U : Nat} (h : cx m B w q x T W C Sa R k) (h5 : w 5 = nI fr) (hfr : fr ≤ 9999) (hU : U ≤ 6) (hs : ∀ c, c < U → m.1 76 c = nI (s c) ∧ s c ≤ 2000000) : ∀ (j i n : Nat), i + j = U → j + 1 ≤ n → l_25 g n 0 (nI U) (nI (sN (fun c => pcN w fr (s c)) i)) (nI i) m = some (nI (sN (fun c => pcN w fr (s c)) U)) := by
  intro j
  induction j with
  | zero =>
    intro i n hi hn
    obtain ⟨n, rfl⟩ : ∃ n', n = n' + 1 := ⟨n - 1, by omega⟩
    have e : i = U := by omega
    subst e
    rw [l_25, if_pos rfl, if_pos (Int32.le_refl _)]
  | succ j ih =>
    intro i n hi hn
    obtain ⟨n, rfl⟩ : ∃ n', n = n' + 1 := ⟨n - 1, by omega⟩
    obtain ⟨s1, s2⟩ := hs i (by omega)
    have p95 := p_95 (g := g) (m := m) (w := w) (s := s i) (fr := fr) h.2.1 h.cy.1 h.cy.2.2.1 h5 hfr s2
    rw [l_25, if_pos rfl, if_neg (nI_ge (by omega) (by omega)), if_pos (k_in (by omega) (by omega)), k_cl (by omega), s1, p95, Option.bind_some, nI_add, show nI i + 1 = nI (i + 1) from nI_1 i]
    exact ih (i + 1) n (by omega) (by omega)
theorem p_l24 {sf : Int32 → Int32 → cM → Option cM} {F : Nat → bO → bO} {pr r : Nat → Nat} {L : Nat} (hL : L < 6) (hr : ∀ j, j < L → r j ≤ j) (hF : ∀ c m b, c ≤ uz r L → cx m B w q x T W C Sa R k → (∀ i, i < L → m.1 74 i = nI (r i)) → m.1 74 L = nI c → (∀ c', c' < 6 → m.1 76 c' = nI (sbk pr (fun j => if j = L then c else r j) c' (L + 1))) → (∀ i, i < W → m.1 75 (wtN w i) = nI (pr i)) → bst m b → ∃ m', sf (nI (L + 1)) (nI (uz (fun j => if j = L then c else r j) (L + 1))) m = some m' ∧ ms m m' ∧ (∀ a, a ≠ 72 → a ≠ 73 → a ≠ 74 → a ≠ 76 → m'.1 a = m.1 a) ∧ (∀ i, i < L → m'.1 74 i = nI (r i)) ∧ (∀ c', c' < 6 → m'.1 76 c' = m.1 76 c') ∧ bst m' (F c b)) : ∀ (j c n : Nat) (m : cM) (b : bO), c + j = uz r L → j + 2 ≤ n → cx m B w q x T W C Sa R k → (∀ i, i < L → m.1 74 i = nI (r i)) → (∀ c', c' < 6 → m.1 76 c' = nI (sbk pr r c' L)) → (∀ i, i < W → m.1 75 (wtN w i) = nI (pr i)) → bst m b → ∃ m', l_24 sf g n 0 (nI L) (nI (uz r L)) (nI (pr L)) (nI c) m = some m' ∧ ms m m' ∧ (∀ a, a ≠ 72 → a ≠ 73 → a ≠ 74 → a ≠ 76 → m'.1 a = m.1 a) ∧ (∀ i, i < L → m'.1 74 i = nI (r i)) ∧ (∀ c', c' < 6 → m'.1 76 c' = nI (sbk pr r c' L)) ∧ bst m' (odF F j c b) := by
  have hU := uz_b hr
  -- one value
  have one : ∀ (c n : Nat) (m : cM) (b : bO), c ≤ uz r L → cx m B w q x T W C Sa R k → (∀ i, i < L → m.1 74 i = nI (r i)) → (∀ c', c' < 6 → m.1 76 c' = nI (sbk pr r c' L)) → (∀ i, i < W → m.1 75 (wtN w i) = nI (pr i)) → bst m b → ∃ m1, l_24 sf g (n + 1) 0 (nI L) (nI (uz r L)) (nI (pr L)) (nI c) m = l_24 sf g n 0 (nI L) (nI (uz r L)) (nI (pr L)) (nI (c + 1)) m1 ∧ ms m m1 ∧ (∀ a, a ≠ 72 → a ≠ 73 → a ≠ 74 → a ≠ 76 → m1.1 a = m.1 a) ∧ (∀ i, i < L → m1.1 74 i = nI (r i)) ∧ (∀ c', c' < 6 → m1.1 76 c' = nI (sbk pr r c' L)) ∧ bst m1 (F c b) := by
    intro c n m b hc h h74 h76 h75 hb
    obtain ⟨ma, hma⟩ : ∃ ma, ma = cW (cW m 74 L (nI c)) 76 c (nI (sbk pr r c L + pr L)) := ⟨_, rfl⟩
    have hmsa : ms m ma := by rw [hma]; exact (ms.W (by omega)).tr (ms.W (by omega))
    have e76 : ∀ c', c' < 6 → ma.1 76 c' = nI (sbk pr (fun j => if j = L then c else r j) c' (L + 1)) := by
      intro c' hc'
      have es : sbk pr (fun j => if j = L then c else r j) c' (L + 1) = sbk pr r c' L + if c = c' then pr L else 0 := by
        show sbk pr (fun j => if j = L then c else r j) c' L + (if (if L = L then c else r L) = c' then pr L else 0) = _
        rw [if_pos rfl, sbk_c (r' := r) (fun j hj => if_neg (by omega))]
      rw [es, hma]
      by_cases e : c' = c
      · subst e; rw [cW_s, if_pos rfl]
      · rw [cW_k e, cW_b (by decide), if_neg (fun z => e z.symm), Nat.add_zero]; exact h76 c' hc'
    obtain ⟨mb, y1, y2, y3, y4, y5, y6⟩ := hF c ma b hc (h.ms hmsa) (fun i hi => by rw [hma, cW_b (by decide), cW_k (by omega)]; exact h74 i hi) (by rw [hma, cW_b (by decide), cW_s]) e76 (fun i hi => by rw [hma, cW_b (by decide), cW_b (by decide)]; exact h75 i hi) (hb.co (by rw [hma, cW_b (by decide), cW_b (by decide)]) (by rw [hma, cW_b (by decide), cW_b (by decide)]))
    have eb : mb.1 76 c = nI (sbk pr r c L + pr L) := by rw [y5 c (by omega), hma, cW_s]
    have hmsb : ms mb (cW mb 76 c (nI (sbk pr r c L))) := ms.W (by omega)
    refine ⟨cW mb 76 c (nI (sbk pr r c L)), ?_, (hmsa.tr y2).tr hmsb, fun a a1 a2 a3 a4 => by rw [cW_b a4, y3 a a1 a2 a3 a4, hma, cW_b a4, cW_b a3], fun i hi => by rw [cW_b (by decide)]; exact y4 i hi, fun c' hc' => ?_, y6.co (cW_b (by decide)) (cW_b (by decide))⟩
    · have eu : (if nI (uz r L) < nI c + 1 then nI c + 1 else nI (uz r L)) = nI (uz (fun j => if j = L then c else r j) (L + 1)) := by
        have e : uz (fun j => if j = L then c else r j) (L + 1) = if uz r L < c + 1 then c + 1 else uz r L := by
          show (if uz (fun j => if j = L then c else r j) L < (if L = L then c else r L) + 1 then (if L = L then c else r L) + 1 else uz (fun j => if j = L then c else r j) L) = _
          rw [if_pos rfl, uz_c (r' := r) (fun j hj => if_neg (by omega))]
        rw [e, show nI c + 1 = nI (c + 1) from nI_1 c]
        by_cases hl : uz r L < c + 1
        · rw [if_pos hl, if_pos (nI_lt hl (by omega))]
        · rw [if_neg hl, if_neg (nI_nlt (by omega) (by omega))]
      have e7 : (cW m 74 L (nI c)).1 76 c = nI (sbk pr r c L) := by rw [cW_b (by decide)]; exact h76 c (by omega)
      rw [l_24, if_pos rfl, if_neg (nI_nlt (by omega) (by omega)), if_neg (show ¬ (6 : Int32) ≤ nI c from nI_ge (b := 6) (by omega) (by omega)), if_pos (k_in (by omega) (by omega)), k_cl (by omega), Option.bind_some, if_pos (k_in (by omega) (by omega)), if_pos (k_in (by omega) (by omega)), k_cl (by omega), e7, nI_add, Option.bind_some, ← hma, eu, show nI L + 1 = nI (L + 1) from nI_1 L, y1, Option.bind_some, if_pos (k_in (by omega) (by omega)), if_pos (k_in (by omega) (by omega)), eb, k_sub (by omega), Nat.add_sub_cancel, Option.bind_some, show nI c + 1 = nI (c + 1) from nI_1 c]
    · by_cases e : c' = c
      · subst e; exact cW_s
      · rw [cW_k e, y5 c' hc', e76 c' hc']
        show nI (sbk pr (fun j => if j = L then c else r j) c' L + (if (if L = L then c else r L) = c' then pr L else 0)) = _
        rw [if_pos rfl, if_neg (fun z => e z.symm), Nat.add_zero, sbk_c (r' := r) (fun j hj => if_neg (by omega))]
  intro j
  induction j with
  | zero =>
    intro c n m b hc hn h h74 h76 h75 hb
    obtain ⟨n, rfl⟩ : ∃ n', n = n' + 2 := ⟨n - 2, by omega⟩
    obtain ⟨m1, y1, y2, y3, y4, y5, y6⟩ := one c (n + 1) m b (by omega) h h74 h76 h75 hb
    refine ⟨m1, ?_, y2, y3, y4, y5, y6⟩
    rw [y1, l_24, if_pos rfl, if_pos (nI_lt (by omega) (by omega))]
  | succ j ih =>
    intro c n m b hc hn h h74 h76 h75 hb
    obtain ⟨n, rfl⟩ : ∃ n', n = n' + 1 := ⟨n - 1, by omega⟩
    obtain ⟨m1, y1, y2, y3, y4, y5, y6⟩ := one c n m b (by omega) h h74 h76 h75 hb
    obtain ⟨m', z1, z2, z3, z4, z5, z6⟩ := ih (c + 1) n m1 (F c b) (by omega) (by omega) (h.ms y2) y4 y5 (fun i hi => by rw [y3 75 (by decide) (by decide) (by decide) (by decide)]; exact h75 i hi) y6
    refine ⟨m', ?_, y2.tr z2, fun a a1 a2 a3 a4 => (z3 a a1 a2 a3 a4).trans (y3 a a1 a2 a3 a4), z4, z5, z6⟩
    rw [y1]
    exact z1
end BK
