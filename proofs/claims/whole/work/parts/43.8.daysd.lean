/-! days, of the class: all rows -/
def gdB (b : bO) : Prop := ∀ p, b = some p → ∃ v, p.1 = nI v ∧ v ≤ 305000
theorem odF_pr {α : Type} {P : α → Prop} {F : Nat → α → α} : ∀ {j c : Nat} {b : α}, (∀ i b, P b → P (F i b)) → P b → P (odF F j c b)
  | 0, c, b, h, hb => h c b hb
  | j + 1, c, b, h, hb => odF_pr (j := j) (c := c + 1) h (h c b hb)
theorem odV_pr {α : Type} {P : α → Prop} {f : (Nat → Nat) → α → α} {lim : (Nat → Nat) → Nat → Nat} (hf : ∀ r b, P b → P (f r b)) : ∀ {d L : Nat} {r : Nat → Nat} {b : α}, P b → P (odV f lim d L r b)
  | 0, _, r, b, hb => hf r b hb
  | d + 1, L, r, b, hb => by
    show P (odF _ (lim r L) 0 b)
    exact odF_pr (fun i b hb => odV_pr hf (d := d) hb) hb
theorem sN_upd {f h : Nat → Nat} {c : Nat} : ∀ {n : Nat}, (∀ j, j ≠ c → f j = h j) → c < n → sN f n + h c = sN h n + f c
  | 0, _, hc => absurd hc (by omega)
  | n + 1, e, hc => by
    show sN f n + f n + h c = sN h n + h n + f c
    by_cases hn : n = c
    · subst hn
      have : sN f n = sN h n := sN_c (fun j hj => e j (by omega))
      omega
    · have := sN_upd (f := f) (h := h) (c := c) (n := n) e (by omega)
      have := e n hn
      omega
theorem dy_c {a D : Nat} (ha : a ≤ 30) (hD : D ≤ 10000) : (if (0 : Int32) < (if nI a - nI D < 4 then nI a - nI D else 4) then (if nI a - nI D < 4 then nI a - nI D else 4) else 0) = nI (if a - D ≤ 4 then a - D else 4) := by
  by_cases h : a < D
  · have h1 := k_neN (a := a) (b := D) h (by omega)
    have h2 : nI a - nI D < 4 := Int32.lt_trans (Int32.not_le.mp h1) (by decide)
    rw [if_pos h2, if_neg (fun z => h1 (Int32.le_of_lt z)), show a - D = 0 by omega]
    rfl
  · rw [k_sub (by omega)]
    by_cases h4 : a - D < 4
    · rw [if_pos (show nI (a - D) < 4 from nI_lt (b := 4) h4 (by omega)), if_pos (show a - D ≤ 4 by omega)]
      by_cases h0 : a - D = 0
      · rw [h0]; rfl
      · rw [if_pos (show (0 : Int32) < nI (a - D) from nI_lt (a := 0) (by omega) (by omega))]
    · rw [if_neg (show ¬ nI (a - D) < 4 from nI_nlt (b := 4) (by omega) (by omega)), if_pos (by decide)]
      by_cases h5 : a - D ≤ 4
      · rw [if_pos h5, show a - D = 4 by omega]; rfl
      · rw [if_neg h5]; rfl
section DD
variable {g k : Nat} {m : cM} {S : rS} {B : rB} {w : Nat → Int32} {q T W C Sa R D fr : Nat} {x : Int32}
theorem bdF_gd (hV : shV w T W C Sa) {r : Nat → Nat} {b : bO} (h : gdB b) : gdB (bdF B w q D fr W r b) := by
  have hb := px_b (B := B) (q := q) (D := D) (fr := fr) hV (r := r) (Nat.le_refl W)
  have hb : cdN B w q D fr W r ≤ 305000 := hb
  intro p hp
  match b, h with
  | none, h =>
    have e : p = (nI (cdN B w q D fr W r), W, fun i => nI (r i)) := (Option.some.inj hp).symm
    exact ⟨_, by rw [e], hb⟩
  | some p0, h =>
    have hp : (if nI (cdN B w q D fr W r) < p0.1 then some (nI (cdN B w q D fr W r), W, fun i => nI (r i)) else some p0) = some p := hp
    by_cases e : nI (cdN B w q D fr W r) < p0.1
    · rw [if_pos e] at hp
      have e : p = (nI (cdN B w q D fr W r), W, fun i => nI (r i)) := (Option.some.inj hp).symm
      exact ⟨_, by rw [e], hb⟩
    · rw [if_neg e] at hp
      exact h p hp
theorem psD_s {r : Nat → Nat} {L c : Nat} : psD B w q D (fun j => if j = L then c else r j) (L + 1) = psD B w q D r L + prD B w q D c L := by
  show sN _ L + prD B w q D (if L = L then c else r L) L = _
  rw [if_pos rfl]
  have : sN (fun i => prD B w q D ((fun j => if j = L then c else r j) i) i) L = psD B w q D r L := sN_c (fun i hi => by
    show prD B w q D (if i = L then c else r i) i = _
    rw [if_neg (by omega)])
  rw [this]
theorem sbk_s {pr r : Nat → Nat} {L c c' : Nat} : sbk pr (fun j => if j = L then c else r j) c' (L + 1) = sbk pr r c' L + if c = c' then pr L else 0 := by
  show sbk pr (fun j => if j = L then c else r j) c' L + (if (if L = L then c else r L) = c' then pr L else 0) = _
  rw [if_pos rfl, sbk_c (r' := r) (fun j hj => if_neg (by omega))]
theorem pxD_s {r : Nat → Nat} {L c : Nat} (hc : c < 5) : pxD B w q D fr (fun j => if j = L then c else r j) (L + 1) + pcN w fr (sbk (prD B w q D c) r c L) = pxD B w q D fr r L + pcN w fr (sbk (prD B w q D c) r c L + prD B w q D c L) := by
  have h := sN_upd (f := fun c' => pcN w fr (sbk (prD B w q D c') (fun j => if j = L then c else r j) c' (L + 1))) (h := fun c' => pcN w fr (sbk (prD B w q D c') r c' L)) (c := c) (n := 5) (fun j hj => by
    show pcN w fr (sbk (prD B w q D j) (fun i => if i = L then c else r i) j (L + 1)) = pcN w fr (sbk (prD B w q D j) r j L)
    rw [sbk_s, if_neg (fun z => hj z.symm), Nat.add_zero]) hc
  have e : sbk (prD B w q D c) (fun j => if j = L then c else r j) c (L + 1) = sbk (prD B w q D c) r c L + prD B w q D c L := by rw [sbk_s, if_pos rfl]
  simp only [e] at h
  exact h
theorem p_l26 (hg : 2000 ≤ g) (hD : w 7 = nI D) : ∀ (j i n : Nat) (m : cM), i + j = W → 7 * j + 1 ≤ n → cx m B w q x T W C Sa R k → ahD m B w q D (5 * i) → ∃ m', l_26 g n 0 (nI i) 0 m = (d_27 g 0 0 0 m').bind (fun z => some z) ∧ ms m m' ∧ (∀ a, a ≠ 77 → m'.1 a = m.1 a) ∧ ahD m' B w q D (5 * W) := by
  intro j
  induction j with
  | zero =>
    intro i n m hi hn h ha
    obtain ⟨n, rfl⟩ : ∃ n', n = n' + 1 := ⟨n - 1, by omega⟩
    have e : i = W := by omega
    subst e
    refine ⟨m, ?_, ms.rf _, fun _ _ => rfl, ha⟩
    rw [l_26, if_pos rfl, if_pos h.cy.1, h.wn, if_pos (Int32.le_refl _)]
  | succ j ih =>
    intro i n m hi hn h ha
    obtain ⟨n, rfl⟩ : ∃ n', n = n' + 1 := ⟨n - 1, by omega⟩
    have hW6 := h.2.1.2.1.2
    obtain ⟨m1, y1, y2, y3, y4⟩ := p_l26b (g := g) (B := B) (q := q) (x := x) (i := i) (D := D) hg hD (by omega) 5 0 n m (by omega) (by omega) h ha
    obtain ⟨m', z1, z2, z3, z4⟩ := ih (i + 1) (n - 6) m1 (by omega) (by omega) (h.ms y2) y4
    refine ⟨m', ?_, y2.tr z2, fun a ha => (z3 a ha).trans (y3 a ha), z4⟩
    rw [l_26, if_pos rfl, if_pos h.cy.1, h.wn, if_neg (nI_ge (by omega) (by omega)), ← z1]
    exact y1
theorem p_l27 {sf : Int32 → Int32 → Int32 → cM → Option cM} {F : Nat → bO → bO} {r : Nat → Nat} {L : Nat} (h5 : w 5 = nI fr) (hfr : fr ≤ 9999) (hL : L < W) (hr : ∀ j, j < L → r j ≤ 4) (hFg : ∀ c b, gdB b → gdB (F c b)) (hF : ∀ c m b, c ≤ 4 → cx m B w q x T W C Sa R k → (∀ i, i < L → m.1 74 i = nI (r i)) → m.1 74 L = nI c → (∀ c', c' < 6 → m.1 76 c' = nI (sbk (prD B w q D c') (fun j => if j = L then c else r j) c' (L + 1))) → ahD m B w q D (5 * W) → bst m b → gdB b → ∃ m', sf (nI (L + 1)) (nI (psD B w q D (fun j => if j = L then c else r j) (L + 1))) (nI (pxD B w q D fr (fun j => if j = L then c else r j) (L + 1))) m = some m' ∧ ms m m' ∧ (∀ a, a ≠ 72 → a ≠ 73 → a ≠ 74 → a ≠ 76 → m'.1 a = m.1 a) ∧ (∀ i, i < L → m'.1 74 i = nI (r i)) ∧ (∀ c', c' < 6 → m'.1 76 c' = m.1 76 c') ∧ bst m' (F c b)) : ∀ (j c n : Nat) (m : cM) (b : bO), c + j = dyW w D L → j + 2 ≤ n → cx m B w q x T W C Sa R k → (∀ i, i < L → m.1 74 i = nI (r i)) → (∀ c', c' < 6 → m.1 76 c' = nI (sbk (prD B w q D c') r c' L)) → ahD m B w q D (5 * W) → bst m b → gdB b → ∃ m', l_27 sf g n 1 (nI L) (nI (psD B w q D r L)) (nI (pxD B w q D fr r L)) (nI (dyW w D L)) (nI c) m = some m' ∧ ms m m' ∧ (∀ a, a ≠ 72 → a ≠ 73 → a ≠ 74 → a ≠ 76 → m'.1 a = m.1 a) ∧ (∀ i, i < L → m'.1 74 i = nI (r i)) ∧ (∀ c', c' < 6 → m'.1 76 c' = nI (sbk (prD B w q D c') r c' L)) ∧ bst m' (odF F j c b) := by
  have hdy := dyW_b (w := w) (D := D) (i := L)
  have one : ∀ (c n : Nat) (m : cM) (b : bO), c ≤ dyW w D L → cx m B w q x T W C Sa R k → (∀ i, i < L → m.1 74 i = nI (r i)) → (∀ c', c' < 6 → m.1 76 c' = nI (sbk (prD B w q D c') r c' L)) → ahD m B w q D (5 * W) → bst m b → gdB b → ∃ m1, l_27 sf g (n + 1) 1 (nI L) (nI (psD B w q D r L)) (nI (pxD B w q D fr r L)) (nI (dyW w D L)) (nI c) m = l_27 sf g n 1 (nI L) (nI (psD B w q D r L)) (nI (pxD B w q D fr r L)) (nI (dyW w D L)) (nI (c + 1)) m1 ∧ ms m m1 ∧ (∀ a, a ≠ 72 → a ≠ 73 → a ≠ 74 → a ≠ 76 → m1.1 a = m.1 a) ∧ (∀ i, i < L → m1.1 74 i = nI (r i)) ∧ (∀ c', c' < 6 → m1.1 76 c' = nI (sbk (prD B w q D c') r c' L)) ∧ bst m1 (F c b) := by
    intro c n m b hc h h74 h76 h77 hb hgd
    have hV := h.2.1
    have hW6 := hV.2.1.2
    have hsb := sbk_b (pr := prD B w q D c) (r := r) (c := c) (K := 9999) (n := L) (fun i hi => (dO_b hV (wt_of hV (by omega)).2).2)
    have hsb2 : L * 9999 ≤ 6 * 9999 := Nat.mul_le_mul_right _ (by omega)
    have hpr : prD B w q D c L ≤ 9999 := (dO_b hV (wt_of hV hL).2).2
    obtain ⟨s, hs⟩ : ∃ s, s = sbk (prD B w q D c) r c L := ⟨_, rfl⟩
    obtain ⟨p, hp⟩ : ∃ p, p = prD B w q D c L := ⟨_, rfl⟩
    obtain ⟨ma, hma⟩ : ∃ ma, ma = cW (cW m 74 L (nI c)) 76 c (nI (s + p)) := ⟨_, rfl⟩
    have hmsa : ms m ma := by rw [hma]; exact (ms.W (by omega)).tr (ms.W (by omega))
    have e76 : ∀ c', c' < 6 → ma.1 76 c' = nI (sbk (prD B w q D c') (fun j => if j = L then c else r j) c' (L + 1)) := by
      intro c' hc'
      rw [sbk_s, hma]
      by_cases e : c' = c
      · subst e; rw [cW_s, if_pos rfl, hs, hp]
      · rw [cW_k e, cW_b (by decide), if_neg (fun z => e z.symm), Nat.add_zero]; exact h76 c' hc'
    have h7 : ahD ma B w q D (5 * W) := fun i c' h1 h2 => by rw [hma, cW_b (by decide), cW_b (by decide)]; exact h77 i c' h1 h2
    obtain ⟨mb, y1, y2, y3, y4, y5, y6⟩ := hF c ma b (by omega) (h.ms hmsa) (fun i hi => by rw [hma, cW_b (by decide), cW_k (by omega)]; exact h74 i hi) (by rw [hma, cW_b (by decide), cW_s]) e76 h7 (hb.co (by rw [hma, cW_b (by decide), cW_b (by decide)]) (by rw [hma, cW_b (by decide), cW_b (by decide)])) hgd
    have ea : ma.1 76 c = nI (s + p) := by rw [hma, cW_s]
    have eb : mb.1 76 c = nI (s + p) := by rw [y5 c (by omega)]; exact ea
    have hmsb : ms mb (cW mb 76 c (nI s)) := ms.W (by omega)
    refine ⟨cW mb 76 c (nI s), ?_, (hmsa.tr y2).tr hmsb, fun a a1 a2 a3 a4 => by rw [cW_b a4, y3 a a1 a2 a3 a4, hma, cW_b a4, cW_b a3], fun i hi => by rw [cW_b (by decide)]; exact y4 i hi, fun c' hc' => ?_, y6.co (cW_b (by decide)) (cW_b (by decide))⟩
    · have ex : nI L * 5 + nI c = nI (5 * L + c) := by
        rw [show (5 : Int32) = nI 5 from rfl, pk_mul, nI_add, Nat.mul_comm]
      have e77 : m.1 77 (5 * L + c) = nI p := by rw [hp]; exact h77 L c (by omega) (by omega)
      have e6 : m.1 76 c = nI s := by rw [hs]; exact h76 c (by omega)
      have e7 : (cW m 74 L (nI c)).1 76 c = nI s := by rw [cW_b (by decide)]; exact e6
      have hcxa := h.ms hmsa
      have p95 : d_95 g (nI s) m = some (nI (pcN w fr s)) := p_95 (g := g) (m := m) (w := w) (s := s) (fr := fr) h.2.1 h.cy.1 h.cy.2.2.1 h5 hfr (by omega)
      have p95a : d_95 g (nI (s + p)) ma = some (nI (pcN w fr (s + p))) := p_95 (g := g) (m := ma) (w := w) (s := s + p) (fr := fr) hcxa.2.1 hcxa.cy.1 hcxa.cy.2.2.1 h5 hfr (by omega)
      have hle : pcN w fr s ≤ pxD B w q D fr r L := by
        rw [hs]
        exact sN_le (f := fun c => pcN w fr (sbk (prD B w q D c) r c L)) (n := 5) (j := c) (by omega)
      have epx : nI (pxD B w q D fr r L) - nI (pcN w fr s) + nI (pcN w fr (s + p)) = nI (pxD B w q D fr (fun j => if j = L then c else r j) (L + 1)) := by
        have := pxD_s (B := B) (w := w) (q := q) (D := D) (fr := fr) (r := r) (L := L) (c := c) (by omega)
        rw [← hs, ← hp] at this
        rw [k_sub hle, nI_add]
        congr 1
        omega
      have eps : nI (psD B w q D r L) + nI p = nI (psD B w q D (fun j => if j = L then c else r j) (L + 1)) := by rw [psD_s, nI_add, hp]
      rw [l_27, if_neg (by decide), if_pos rfl, if_neg (nI_nlt (by omega) (by omega)), ex, if_pos (k_in (show 5 * L + c < 30 by omega) (by omega)), if_pos (k_in (show c < 6 by omega) (by omega)), k_cl (show c < 2147483648 by omega), k_cl (show 5 * L + c < 2147483648 by omega), k_cl (show L < 2147483648 by omega), e77, e6, p95, Option.bind_some, if_pos (k_in (show L < 8 by omega) (by omega)), Option.bind_some, if_pos (k_in (show c < 6 by omega) (by omega)), if_pos (k_in (show c < 6 by omega) (by omega)), e7, show nI s + nI p = nI (s + p) from nI_add _ _, Option.bind_some, ← hma, if_pos (k_in (show c < 6 by omega) (by omega)), ea, p95a, Option.bind_some, show nI L + 1 = nI (L + 1) from nI_1 L, eps, epx, y1, Option.bind_some, if_pos (k_in (show c < 6 by omega) (by omega)), if_pos (k_in (show c < 6 by omega) (by omega)), eb, k_sub (show p ≤ s + p by omega), Nat.add_sub_cancel, Option.bind_some, show nI c + 1 = nI (c + 1) from nI_1 c]
    · by_cases e : c' = c
      · subst e; rw [cW_s, hs]
      · rw [cW_k e, y5 c' hc', e76 c' hc', sbk_s, if_neg (fun z => e z.symm), Nat.add_zero]
  intro j
  induction j with
  | zero =>
    intro c n m b hc hn h h74 h76 h77 hb hgd
    obtain ⟨n, rfl⟩ : ∃ n', n = n' + 2 := ⟨n - 2, by omega⟩
    obtain ⟨m1, y1, y2, y3, y4, y5, y6⟩ := one c (n + 1) m b (by omega) h h74 h76 h77 hb hgd
    refine ⟨m1, ?_, y2, y3, y4, y5, y6⟩
    rw [y1, l_27, if_neg (by decide), if_pos rfl, if_pos (nI_lt (by omega) (by omega))]
  | succ j ih =>
    intro c n m b hc hn h h74 h76 h77 hb hgd
    obtain ⟨n, rfl⟩ : ∃ n', n = n' + 1 := ⟨n - 1, by omega⟩
    obtain ⟨m1, y1, y2, y3, y4, y5, y6⟩ := one c n m b (by omega) h h74 h76 h77 hb hgd
    obtain ⟨m', z1, z2, z3, z4, z5, z6⟩ := ih (c + 1) n m1 (F c b) (by omega) (by omega) (h.ms y2) y4 y5 (fun i c' h1 h2 => by rw [y3 77 (by decide) (by decide) (by decide) (by decide)]; exact h77 i c' h1 h2) y6 (hFg c b hgd)
    refine ⟨m', ?_, y2.tr z2, fun a a1 a2 a3 a4 => (z3 a a1 a2 a3 a4).trans (y3 a a1 a2 a3 a4), z4, z5, z6⟩
    rw [y1]
    exact z1
theorem p_R27 (hg : 2000 ≤ g) (hD : w 7 = nI D) (hDb : D ≤ 10000) (h5 : w 5 = nI fr) (hfr : fr ≤ 9999) : ∀ (d L n : Nat) (m : cM) (r : Nat → Nat) (b : bO), L + d = W → d + 1 ≤ n → (∀ j, j < L → r j ≤ 4) → cx m B w q x T W C Sa R k → (∀ i, i < L → m.1 74 i = nI (r i)) → (∀ c', c' < 6 → m.1 76 c' = nI (sbk (prD B w q D c') r c' L)) → ahD m B w q D (5 * W) → bst m b → gdB b → ∃ m', R_27 g n 0 (nI L) (nI (psD B w q D r L)) (nI (pxD B w q D fr r L)) m = some m' ∧ ms m m' ∧ (∀ a, a ≠ 72 → a ≠ 73 → a ≠ 74 → a ≠ 76 → m'.1 a = m.1 a) ∧ (∀ i, i < L → m'.1 74 i = nI (r i)) ∧ (∀ c', c' < 6 → m'.1 76 c' = m.1 76 c') ∧ bst m' (odV (bdF B w q D fr W) (fun _ p => dyW w D p) d L r b) := by
  intro d
  induction d with
  | zero =>
    intro L n m r b hL hn hr h h74 h76 h77 hb hgd
    obtain ⟨n, rfl⟩ : ∃ n', n = n' + 1 := ⟨n - 1, by omega⟩
    have hV := h.2.1
    have hW6 := hV.2.1.2
    have e : L = W := by omega
    subst e
    have hpx := px_b (B := B) (q := q) (D := D) (fr := fr) hV (r := r) (Nat.le_refl L)
    have hps := ps_le (B := B) (w := w) (q := q) (D := D) (fr := fr) hr
    obtain ⟨m2, z1, z2, z3, z4⟩ := p_2 (g := g) (m := m) (v := nI (pxD B w q D fr r L)) (L := L) (b := b) (by omega) hb
    have z2 := z2.oc (r' := fun i => nI (r i)) (fun i hi => h74 i hi)
    have main : ∀ (sf : Int32 → Int32 → Int32 → cM → Option cM) (y : Int32), l_27 sf g g 0 (nI L) y (nI (pxD B w q D fr r L)) 0 0 m = some m2 := fun sf y => by
      obtain ⟨g', hg'⟩ : ∃ g', g = g' + 1 := ⟨g - 1, by omega⟩
      have : ∀ n', l_27 sf g (n' + 1) 0 (nI L) y (nI (pxD B w q D fr r L)) 0 0 m = some m2 := fun n' => by
        rw [l_27, if_pos rfl, if_pos h.cy.1, h.wn, if_neg (show ¬ nI L < nI L from nI_nlt (Nat.le_refl _) (by omega)), z1]
        rfl
      have := this g'
      rw [← hg'] at this
      exact this
    show ∃ m', t_27 (fun x1 x2 x3 m => R_27 g n 0 x1 x2 x3 m) g (nI L) (nI (psD B w q D r L)) (nI (pxD B w q D fr r L)) m = some m' ∧ _
    unfold t_27
    have fin : ∃ m', some m2 = some m' ∧ ms m m' ∧ (∀ a, a ≠ 72 → a ≠ 73 → a ≠ 74 → a ≠ 76 → m'.1 a = m.1 a) ∧ (∀ i, i < L → m'.1 74 i = nI (r i)) ∧ (∀ c', c' < 6 → m'.1 76 c' = m.1 76 c') ∧ bst m' (odV (bdF B w q D fr L) (fun _ p => dyW w D p) 0 L r b) := ⟨m2, rfl, z3, fun a a1 a2 _ _ => z4 a a1 a2, fun i hi => by rw [z4 74 (by decide) (by decide)]; exact h74 i hi, fun c' _ => by rw [z4 76 (by decide) (by decide)], z2⟩
    match b, hb, hgd, fin with
    | none, hb, _, fin =>
      have hb : m.1 72 0 = 0 := hb
      rw [if_pos hb, main]
      exact fin
    | some p, hb, hgd, fin =>
      obtain ⟨v0, hv1, hv2⟩ := hgd p rfl
      have h0 : ¬ m.1 72 0 = 0 := by rw [hb.1]; decide
      rw [if_neg h0, hb.2.1, hv1]
      by_cases hlt : psD B w q D r L < v0
      · rw [if_pos (nI_lt hlt (by omega)), main]
        exact fin
      · rw [if_neg (nI_nlt (by omega) (by omega))]
        refine ⟨m, rfl, ms.rf _, fun _ _ _ _ _ => rfl, h74, fun _ _ => rfl, ?_⟩
        rw [od_skip hV hv1 (by omega) 0 L r (by omega) hr (by omega)]
        exact hb
  | succ d ih =>
    intro L n m r b hL hn hr h h74 h76 h77 hb hgd
    obtain ⟨n, rfl⟩ : ∃ n', n = n' + 1 := ⟨n - 1, by omega⟩
    have hV := h.2.1
    have hW6 := hV.2.1.2
    have hpx := px_b (B := B) (q := q) (D := D) (fr := fr) hV (r := r) (n := L) (by omega)
    have hps := ps_le (B := B) (w := w) (q := q) (D := D) (fr := fr) hr
    have hdy := dyW_b (w := w) (D := D) (i := L)
    obtain ⟨w1, w2⟩ := nI_nN (hV.2.2.2.2.2.2.2.2.2.1 L (by omega)).2 (by omega)
    have e5 : m.1 (m.2.2.1 5 + 5) L = nI (nN (w (97 + 2 * L))) := by rw [w1]; exact (h.1.1.2.2.1 L (by omega)).2
    have e13 : m.1 19 13 = nI D := h.1.2.1.1.2.2.2.2.trans hD
    have hdc := dy_c (a := nN (w (97 + 2 * L))) (D := D) w2 hDb
    have hdc : _ = nI (dyW w D L) := hdc
    obtain ⟨m', y1, y2, y3, y4, y5, y6⟩ := p_l27 (g := g) (B := B) (w := w) (q := q) (x := x) (T := T) (W := W) (k := k) (D := D) (fr := fr) (sf := fun x1 x2 x3 m => R_27 g n 0 x1 x2 x3 m) (F := fun c b => odV (bdF B w q D fr W) (fun _ p => dyW w D p) d (L + 1) (fun j => if j = L then c else r j) b) (r := r) (L := L) h5 hfr (by omega) hr (fun c b hb => odV_pr (fun r b hb => bdF_gd hV hb) hb) (fun c m b hc hcx h74 h74L h76 h77 hb hgd => by
      obtain ⟨m', z1, z2, z3, z4, z5, z6⟩ := ih (L + 1) n m (fun j => if j = L then c else r j) b (by omega) (by omega) (fun j hj => by
        show (if j = L then c else r j) ≤ 4
        by_cases e : j = L
        · rw [if_pos e]; omega
        · rw [if_neg e]; exact hr j (by omega)) hcx (fun i hi => by
        show _ = nI (if i = L then c else r i)
        by_cases e : i = L
        · rw [if_pos e, e]; exact h74L
        · rw [if_neg e]; exact h74 i (by omega)) h76 h77 hb hgd
      refine ⟨m', z1, z2, z3, fun i hi => ?_, z5, z6⟩
      have := z4 i (by omega)
      rw [if_neg (by omega)] at this
      exact this) (dyW w D L) 0 (g - 1) m b (by omega) (by omega) h h74 h76 h77 hb hgd
    have main : l_27 (fun x1 x2 x3 m => R_27 g n 0 x1 x2 x3 m) g g 0 (nI L) (nI (psD B w q D r L)) (nI (pxD B w q D fr r L)) 0 0 m = some m' := by
      have : ∀ n', l_27 (fun x1 x2 x3 m => R_27 g n 0 x1 x2 x3 m) g (n' + 1) 0 (nI L) (nI (psD B w q D r L)) (nI (pxD B w q D fr r L)) 0 0 m = l_27 (fun x1 x2 x3 m => R_27 g n 0 x1 x2 x3 m) g n' 1 (nI L) (nI (psD B w q D r L)) (nI (pxD B w q D fr r L)) (nI (dyW w D L)) (nI 0) m := fun n' => by
        rw [l_27, if_pos rfl, if_pos h.cy.1, h.wn, if_pos (nI_lt (by omega) (by omega)), if_pos (k_in (show L < 6 by omega) (by omega)), k_cl (show L < 2147483648 by omega), e5, e13, hdc]
        rfl
      have := this (g - 1)
      rw [show g - 1 + 1 = g by omega] at this
      rw [this]
      exact y1
    have fin : ∃ m'', some m' = some m'' ∧ ms m m'' ∧ (∀ a, a ≠ 72 → a ≠ 73 → a ≠ 74 → a ≠ 76 → m''.1 a = m.1 a) ∧ (∀ i, i < L → m''.1 74 i = nI (r i)) ∧ (∀ c', c' < 6 → m''.1 76 c' = m.1 76 c') ∧ bst m'' (odV (bdF B w q D fr W) (fun _ p => dyW w D p) (d + 1) L r b) := ⟨m', rfl, y2, y3, y4, fun c' hc' => by rw [y5 c' hc', h76 c' hc'], y6⟩
    show ∃ m', t_27 (fun x1 x2 x3 m => R_27 g n 0 x1 x2 x3 m) g (nI L) (nI (psD B w q D r L)) (nI (pxD B w q D fr r L)) m = some m' ∧ _
    unfold t_27
    rw [main]
    match b, hb, hgd, fin with
    | none, hb, _, fin =>
      have hb : m.1 72 0 = 0 := hb
      rw [if_pos hb]
      exact fin
    | some p, hb, hgd, fin =>
      obtain ⟨v0, hv1, hv2⟩ := hgd p rfl
      have h0 : ¬ m.1 72 0 = 0 := by rw [hb.1]; decide
      rw [if_neg h0, hb.2.1, hv1]
      by_cases hlt : psD B w q D r L < v0
      · rw [if_pos (nI_lt hlt (by omega))]
        exact fin
      · rw [if_neg (nI_nlt (by omega) (by omega))]
        refine ⟨m, rfl, ms.rf _, fun _ _ _ _ _ => rfl, h74, fun _ _ => rfl, ?_⟩
        rw [od_skip hV hv1 (by omega) (d + 1) L r (by omega) hr (by omega)]
        exact hb
/-- seekDays -/
theorem p_26 (hg : 2000 ≤ g) (h : cx m B w q x T W C Sa R k) (hD : w 7 = nI D) (hDb : D ≤ 10000) (h5 : w 5 = nI fr) (hfr : fr ≤ 9999) : ∃ m', d_26 g m = some m' ∧ ms m m' ∧ bst m' (odV (bdF B w q D fr W) (fun _ p => dyW w D p) W 0 (fun _ => 0) none) := by
  have hV := h.2.1
  have hW6 := hV.2.1.2
  obtain ⟨m0, y1, y2, y3, y4, y5⟩ := p_1 (g := g) (m := m)
  have h0 := h.ms y3
  obtain ⟨m2, u1, u2, u3, u4⟩ := p_273 (g := g) (m := m0) (a := 76) (N := 6) (by omega) (by omega) kk_76 (by omega)
  have h2 := h0.ms u2
  obtain ⟨m3, t1, t2, t3, t4⟩ := p_l26 (g := g) (B := B) (q := q) (x := x) (k := k) (D := D) hg hD W 0 g m2 (by omega) (by omega) h2 (fun i c _ hc => absurd hc (by omega))
  obtain ⟨m4, v1, v2, v3, v4, v5, v6⟩ := p_R27 (g := g) (B := B) (q := q) (x := x) (k := k) (D := D) (fr := fr) hg hD hDb h5 hfr W 0 9 m3 (fun _ => 0) none (by omega) (by omega) (fun j hj => absurd hj (by omega)) (h2.ms t2) (fun i hi => absurd hi (by omega)) (fun c' hc' => by rw [t3 76 (by decide)]; exact u4 c' hc') t4 (y2.co (by rw [t3 72 (by decide), u3 72 (by decide)]) (by rw [t3 73 (by decide), u3 73 (by decide)])) (fun p hp => by cases hp)
  refine ⟨m4, ?_, ((y3.tr u2).tr t2).tr v2, v6⟩
  have v1 : d_27 g 0 0 0 m3 = some m4 := v1
  unfold d_26
  rw [y1, Option.bind_some, u1, Option.bind_some, show l_26 g g 0 0 0 m2 = _ from t1, v1]
  rfl
end DD
