/-! sent, of the class -/
def sbst (m : cM) (T : Nat) : sO → Prop
  | none => m.1 72 0 = 0
  | some p => m.1 72 0 = 1 ∧ m.1 72 1 = Int32.ofInt (-p.1) ∧ m.1 72 2 = nI T ∧ (∀ i, i < T → m.1 73 i = nI (p.2 i) ∧ p.2 i ≤ 9) ∧ -100000000 ≤ p.1 ∧ p.1 ≤ 100000000
theorem sbst.co {m m' : cM} {T : Nat} {b : sO} (h : sbst m T b) (e1 : m'.1 72 = m.1 72) (e2 : m'.1 73 = m.1 73) : sbst m' T b := by
  match b, h with
  | none, h =>
    show m'.1 72 0 = 0
    rw [e1]; exact h
  | some p, h =>
    show m'.1 72 0 = 1 ∧ m'.1 72 1 = Int32.ofInt (-p.1) ∧ m'.1 72 2 = nI T ∧ (∀ i, i < T → m'.1 73 i = nI (p.2 i) ∧ p.2 i ≤ 9) ∧ -100000000 ≤ p.1 ∧ p.1 ≤ 100000000
    rw [e1, e2]; exact h
theorem lfA_s {w : Nat → Int32} {r : Nat → Nat} {L c : Nat} : lfA w (fun j => if j = L then c else r j) (L + 1) 0 = lfA w r L c := by
  funext t
  unfold lfA
  by_cases h : t < L
  · rw [if_pos (show t < L + 1 by omega), if_pos h]
    show la w t - (if t = L then c else r t) = _
    rw [if_neg (show ¬ t = L by omega)]
  · rw [if_neg h]
    by_cases h2 : t = L
    · rw [if_pos (show t < L + 1 by omega), if_pos h2]
      show la w t - (if t = L then c else r t) = _
      rw [if_pos h2]
    · rw [if_neg (by omega), if_neg h2]
      split <;> rfl
theorem sN_s {r : Nat → Nat} {L c : Nat} : sN (fun j => if j = L then c else r j) (L + 1) = sN r L + c := by
  show sN (fun j => if j = L then c else r j) L + (if L = L then c else r L) = _
  rw [if_pos rfl, sN_c (h := r) (fun j hj => if_neg (by omega))]
theorem snA_s {w : Nat → Int32} {T L2 fr : Nat} {r : Nat → Nat} {L c : Nat} : snA w T L2 fr (fun j => if j = L then c else r j) (L + 1) = snI w T L2 fr r L c (snA w T L2 fr r L) := by
  show snI w T L2 fr (fun j => if j = L then c else r j) L (if L = L then c else r L) (snA w T L2 fr (fun j => if j = L then c else r j) L) = _
  rw [if_pos rfl, snA_c (r' := r) (fun j hj => if_neg (by omega)), snI_c (r' := r) (fun j hj => if_neg (by omega))]
section SCL
variable {g k : Nat} {m : cM} {B : rB} {w : Nat → Int32} {q T W C Sa R L2 fr : Nat} {x : Int32}
theorem p_l5 {r : Nat → Nat} {L : Nat} (h2 : m.1 72 2 = nI L) (hL : L ≤ 8) (hr : ∀ d, d < L → m.1 73 d = nI (r d)) : ∀ (j i n : Nat), i + j = L → j + 1 ≤ n → l_5 g n 0 (nI (sN r i)) (nI i) m = some (nI (sN r L)) := by
  intro j
  induction j with
  | zero =>
    intro i n hi hn
    obtain ⟨n, rfl⟩ : ∃ n', n = n' + 1 := ⟨n - 1, by omega⟩
    have e : i = L := by omega
    subst e
    rw [l_5, if_pos rfl, h2, if_pos (Int32.le_refl _)]
  | succ j ih =>
    intro i n hi hn
    obtain ⟨n, rfl⟩ : ∃ n', n = n' + 1 := ⟨n - 1, by omega⟩
    rw [l_5, if_pos rfl, h2, if_neg (nI_ge (by omega) (by omega)), if_pos (k_in (by omega) (by omega)), k_cl (by omega), hr i (by omega), show nI i + 1 = nI (i + 1) from nI_1 i, nI_add]
    exact ih (i + 1) n (by omega) (by omega)
theorem sN_9 {r : Nat → Nat} (h : ∀ i, i < T → r i ≤ 9) (hT : T ≤ 8) : sN r T ≤ 72 := by
  have := sN_b (f := r) (c := 9) (n := T) h
  omega
/-- one whole row -/
theorem p_29z {sf : Int32 → Int32 → Int32 → Int32 → cM → Option cM} {r : Nat → Nat} {b : sO} (hg : 2000 ≤ g) (h : cx m B w q x T W C Sa R k) (h74 : ∀ i, i < T → m.1 74 i = nI (r i)) (hr : ∀ i, i < T → r i ≤ 9) (hb : sbst m T b) (y : Int32) : ∃ m', t_29 sf g (nI T) y (Int32.ofInt (snA w T L2 fr r T).2) (nI (sN r T)) m = some m' ∧ sbst m' T (snF w T L2 fr r b) ∧ ms m m' ∧ (∀ a, a ≠ 72 → a ≠ 73 → m'.1 a = m.1 a) := by
  have hV := h.2.1
  have hT8 := hV.1.2
  obtain ⟨-, g1, g2⟩ := snA_b (L2 := L2) (fr := fr) (r := r) hV h.2.2.1 T (Nat.le_refl _) hr
  obtain ⟨G, hG⟩ : ∃ G, G = (snA w T L2 fr r T).2 := ⟨_, rfl⟩
  rw [← hG] at g1 g2
  have g1 : -100000000 ≤ G := by omega
  have g2 : G ≤ 100000000 := by omega
  obtain ⟨m1, y1, y2, y3, y4⟩ := p_3 (g := g) (m := m) (v := -Int32.ofInt G) (L := T) hT8
  have take : l_29 sf g g 0 (nI T) y (Int32.ofInt G) (nI (sN r T)) 0 0 0 m = some m1 := by
    have : ∀ n', l_29 sf g (n' + 1) 0 (nI T) y (Int32.ofInt G) (nI (sN r T)) 0 0 0 m = some m1 := fun n' => by
      rw [l_29, if_pos rfl, y1, Option.bind_some]
    have := this (g - 1)
    rw [show g - 1 + 1 = g by omega] at this
    exact this
  have hs1 : sbst m1 T (some (G, r)) := ⟨y2.1, by rw [Int32.ofInt_neg]; exact y2.2.1, y2.2.2.1, fun i hi => ⟨(y2.2.2.2.2 i hi).trans (h74 i hi), hr i hi⟩, g1, g2⟩
  unfold t_29
  rw [← hG, if_pos h.cy.1, h.t, if_neg (show ¬ nI T < nI T from nI_nlt (Nat.le_refl _) (by omega)), take]
  match b, hb with
  | none, hb =>
    have hb : m.1 72 0 = 0 := hb
    rw [if_pos hb]
    refine ⟨m1, rfl, ?_, y3, y4⟩
    show sbst m1 T (some ((snA w T L2 fr r T).2, r))
    rw [← hG]
    exact hs1
  | some p, hb =>
    obtain ⟨b0, b1, b2, b3, b4, b5⟩ := id hb
    have h0 : ¬ m.1 72 0 = 0 := by rw [b0]; decide
    have p5 : d_5 g m = some (nI (sN p.2 T)) := p_l5 (g := g) b2 hT8 (fun d hd => (b3 d hd).1) T 0 g (by omega) (by omega)
    have hs := sN_9 (fun i hi => (b3 i hi).2) hT8
    have hs2 := sN_9 hr hT8
    have eF : snF w T L2 fr r (some p) = if p.1 < G ∨ (G = p.1 ∧ sN r T < sN p.2 T) then some (G, r) else some p := by rw [hG]; rfl
    have hlt := iI_lt (a := -G) (b := -p.1) (by omega) (by omega) (by omega) (by omega)
    have heq := iI_eq (a := -G) (b := -p.1) (by omega) (by omega) (by omega) (by omega)
    rw [if_neg h0, b1, ← Int32.ofInt_neg, eF]
    by_cases c1 : p.1 < G
    · rw [if_pos (hlt.mpr (by omega)), if_pos (Or.inl c1)]
      exact ⟨m1, rfl, hs1, y3, y4⟩
    · rw [if_neg (fun z => by have := hlt.mp z; omega)]
      by_cases c2 : G = p.1
      · rw [if_neg (show ¬ ¬ Int32.ofInt (-G) = Int32.ofInt (-p.1) from fun z => z (by rw [c2])), p5, Option.bind_some]
        by_cases c3 : sN r T < sN p.2 T
        · rw [if_neg (nI_ge c3 (by omega)), if_pos (Or.inr ⟨c2, c3⟩)]
          exact ⟨m1, rfl, hs1, y3, y4⟩
        · rw [if_pos (nI_le (by omega) (by omega)), if_neg (by omega)]
          exact ⟨m, rfl, hb, ms.rf _, fun _ _ _ => rfl⟩
      · rw [if_pos (show ¬ Int32.ofInt (-G) = Int32.ofInt (-p.1) from fun z => by have := heq.mp z; omega), if_neg (by omega)]
        exact ⟨m, rfl, hb, ms.rf _, fun _ _ _ => rfl⟩
/-- one thing of a row: one more sent back -/
theorem p_l29a {sf : Int32 → Int32 → Int32 → Int32 → cM → Option cM} {r : Nat → Nat} {L c n : Nat} {x2 x3 x4 : Int32} (hg : 2000 ≤ g) (hL : L < T) (hr : ∀ j, j < L → r j ≤ la w j) (l1 : L2 ≤ 5) (l2 : w 79 = nI L2) (l4 : ∀ i, i < L2 → w (74 + i) = nI (lr2 w i) ∧ lr2 w i < C) (h5 : w 5 = nI fr) (hfr : fr ≤ 9999) (hc : c ≤ la w L) (h : cx m B w q x T W C Sa R k) (h78 : ∀ t, t < T → m.1 78 t = nI (lfA w r L (c - 1) t)) (hz : ∀ t, T ≤ t → t < 8 → m.1 78 t = 0) : ∃ m', l_29 sf g (n + 1) 1 (nI L) x2 x3 x4 (snI w T L2 fr r L (c - 1) (snA w T L2 fr r L)).1 (Int32.ofInt (snI w T L2 fr r L (c - 1) (snA w T L2 fr r L)).2) (nI c) m = l_29 sf g n 2 (nI L) x2 x3 x4 (snI w T L2 fr r L c (snA w T L2 fr r L)).1 (Int32.ofInt (snI w T L2 fr r L c (snA w T L2 fr r L)).2) (nI c) m' ∧ ms m m' ∧ (∀ a, a ≠ 32 → a ≠ 78 → m'.1 a = m.1 a) ∧ (∀ t, t < T → m'.1 78 t = nI (lfA w r L c t)) ∧ (∀ t, T ≤ t → t < 8 → m'.1 78 t = 0) := by
  have hV := h.2.1
  have hst := h.2.2.1
  have hT8 := hV.1.2
  have hla := la_of hst hL
  have e24 : m.1 24 L = nI (la w L) := (h.1.2.1.la hL).trans hla.1
  match c, hc, h78 with
  | 0, hc, h78 =>
    refine ⟨m, ?_, ms.rf _, fun _ _ _ => rfl, h78, hz⟩
    rw [l_29, if_neg (by decide), if_pos rfl, if_pos (k_in (show L < 8 by omega) (by omega)), k_cl (show L < 2147483648 by omega), e24, if_neg (nI_nlt (by omega) (by omega)), if_pos (show nI 0 ≤ 0 from Int32.le_refl _)]
  | c + 1, hc, h78 =>
    rw [show c + 1 - 1 = c from rfl] at h78 ⊢
    obtain ⟨p, hp⟩ : ∃ p, p = snI w T L2 fr r L c (snA w T L2 fr r L) := ⟨_, rfl⟩
    have hgs := snI_b (L2 := L2) (fr := fr) (r := r) hV hst hL (snA_b (L2 := L2) (fr := fr) (r := r) hV hst L (by omega) (fun j hj => Nat.le_trans (hr j hj) (la_of hst (by omega)).2)) c
    rw [← hp] at hgs
    have e78 : m.1 78 L = nI (la w L - c) := by
      rw [h78 L hL]
      unfold lfA
      rw [if_neg (by omega), if_pos rfl]
    have em : nI (la w L - c) - 1 = nI (la w L - (c + 1)) := by
      rw [show (1 : Int32) = nI 1 from rfl, k_sub (by omega)]
      congr 1
    obtain ⟨ma, hma⟩ : ∃ ma, ma = cW m 78 L (nI (la w L - (c + 1))) := ⟨_, rfl⟩
    have hmsa : ms m ma := by rw [hma]; exact ms.W (by omega)
    have ha := h.ms hmsa
    have hb : ∀ a, a ≠ 78 → ma.1 a = m.1 a := fun a h1 => by rw [hma, cW_b h1]
    have a78 : ∀ t, t < T → ma.1 78 t = nI (lfA w r L (c + 1) t) := fun t ht => by
      rw [hma]
      by_cases e : t = L
      · subst e
        rw [cW_s]
        unfold lfA
        rw [if_neg (by omega), if_pos rfl]
      · rw [cW_k e, h78 t ht]
        unfold lfA
        rw [if_neg e, if_neg e]
    have az : ∀ t, T ≤ t → t < 8 → ma.1 78 t = 0 := fun t h1 h2 => by rw [hma, cW_k (by omega)]; exact hz t h1 h2
    obtain ⟨m2, y1, y2, y3⟩ := p_96 (g := g) (m := ma) (w := w) (lf := lfA w r L (c + 1)) (P := nN p.1) (t := L) (a2 := 78) (x3 := p.1) (L2 := L2) (fr := fr) hg hV ha.cy.1 ha.cy.2.1 ha.cy.2.2.1 (fun t ht => ⟨(ha.1.2.1.2.2.1 t ht).trans (ld_of hst ht).1, (ld_of hst ht).2⟩) (ha.1.2.1.1.2.1.trans l2) l1 (fun i hi => ⟨(ha.1.2.1.2.2.2.2.2.1 i (by rw [l2, n_cl (by omega)]; exact hi)).trans (l4 i hi).1, (l4 i hi).2⟩) (by omega) kk_78 (fun t ht => ⟨a78 t ht, by have := (la_of hst ht).2; unfold lfA; omega⟩) az h5 hfr (fun hz => by
      have := nI_nN (hgs.1 hz) (by omega)
      exact ⟨this.1.symm, this.2⟩) hL
    have h2 := ha.ms y2
    have ew : m2.1 (m2.2.2.1 5 + 2) L = nI (nN (w (81 + 2 * L))) := by
      rw [(nI_nN (hV.2.2.2.2.2.2.2.2.1 L hL).2 (by omega)).1]
      exact (h2.1.1.2.1 L hL).2
    have es : snI w T L2 fr r L (c + 1) (snA w T L2 fr r L) = snS w T L2 fr r L (c + 1) p := by rw [hp]; rfl
    have y1 : d_96 g (nI L) 78 p.1 ma = some (nI (snB w T L2 fr r L (c + 1) p.1), m2) := y1
    have eg : Int32.ofInt p.2 + (nI (snB w T L2 fr r L (c + 1) p.1) - nI (nN (w (81 + 2 * L)))) = Int32.ofInt (snS w T L2 fr r L (c + 1) p).2 := by
      rw [iI_n, iI_n, ← Int32.ofInt_sub, ← Int32.ofInt_add]
      rfl
    refine ⟨m2, ?_, hmsa.tr y2, fun a a1 a2 => (y3 a a1).trans (hb a a2), fun t ht => by rw [y3 78 (by decide)]; exact a78 t ht, fun t h1 h2 => by rw [y3 78 (by decide)]; exact az t h1 h2⟩
    rw [es, ← hp, ← eg, l_29, if_neg (by decide), if_pos rfl, if_pos (k_in (show L < 8 by omega) (by omega)), k_cl (show L < 2147483648 by omega), e24, if_neg (nI_nlt (by omega) (by omega)), if_neg (show ¬ nI (c + 1) ≤ 0 from nI_ge (a := 0) (by omega) (by omega)), if_pos (k_in (show L < 8 by omega) (by omega)), if_pos (k_in (show L < 8 by omega) (by omega)), e78, em, Option.bind_some, ← hma, y1, Option.bind_some, if_pos h2.cy.1, if_pos (k_in (show L < 8 by omega) (by omega)), ew]
    rfl
theorem p_l29 {sf : Int32 → Int32 → Int32 → Int32 → cM → Option cM} {F : Nat → sO → sO} {r : Nat → Nat} {L : Nat} {x2 x3 : Int32} (hg : 2000 ≤ g) (hL : L < T) (hr : ∀ j, j < L → r j ≤ la w j) (l1 : L2 ≤ 5) (l2 : w 79 = nI L2) (l4 : ∀ i, i < L2 → w (74 + i) = nI (lr2 w i) ∧ lr2 w i < C) (h5 : w 5 = nI fr) (hfr : fr ≤ 9999) (hF : ∀ c m b, c ≤ la w L → cx m B w q x T W C Sa R k → (∀ i, i < L → m.1 74 i = nI (r i)) → m.1 74 L = nI c → (∀ t, t < T → m.1 78 t = nI (lfA w r L c t)) → (∀ t, T ≤ t → t < 8 → m.1 78 t = 0) → sbst m T b → ∃ m', sf (nI (L + 1)) (snI w T L2 fr r L c (snA w T L2 fr r L)).1 (Int32.ofInt (snI w T L2 fr r L c (snA w T L2 fr r L)).2) (nI (sN r L + c)) m = some m' ∧ ms m m' ∧ (∀ i, i < L → m'.1 74 i = nI (r i)) ∧ (∀ t, t < 8 → m'.1 78 t = m.1 78 t) ∧ sbst m' T (F c b)) : ∀ (j c n : Nat) (m : cM) (b : sO), c + j = la w L → 2 * j + 3 ≤ n → cx m B w q x T W C Sa R k → (∀ i, i < L → m.1 74 i = nI (r i)) → (∀ t, t < T → m.1 78 t = nI (lfA w r L (c - 1) t)) → (∀ t, T ≤ t → t < 8 → m.1 78 t = 0) → sbst m T b → ∃ m', l_29 sf g n 1 (nI L) x2 x3 (nI (sN r L)) (snI w T L2 fr r L (c - 1) (snA w T L2 fr r L)).1 (Int32.ofInt (snI w T L2 fr r L (c - 1) (snA w T L2 fr r L)).2) (nI c) m = some m' ∧ ms m m' ∧ (∀ i, i < L → m'.1 74 i = nI (r i)) ∧ (∀ t, t < T → m'.1 78 t = nI (lfA w r L 0 t)) ∧ (∀ t, T ≤ t → t < 8 → m'.1 78 t = 0) ∧ sbst m' T (odF F j c b) := by
  have one : ∀ (c n : Nat) (m : cM) (b : sO), c ≤ la w L → cx m B w q x T W C Sa R k → (∀ i, i < L → m.1 74 i = nI (r i)) → (∀ t, t < T → m.1 78 t = nI (lfA w r L (c - 1) t)) → (∀ t, T ≤ t → t < 8 → m.1 78 t = 0) → sbst m T b → ∃ m1, l_29 sf g (n + 2) 1 (nI L) x2 x3 (nI (sN r L)) (snI w T L2 fr r L (c - 1) (snA w T L2 fr r L)).1 (Int32.ofInt (snI w T L2 fr r L (c - 1) (snA w T L2 fr r L)).2) (nI c) m = l_29 sf g n 1 (nI L) x2 x3 (nI (sN r L)) (snI w T L2 fr r L c (snA w T L2 fr r L)).1 (Int32.ofInt (snI w T L2 fr r L c (snA w T L2 fr r L)).2) (nI (c + 1)) m1 ∧ ms m m1 ∧ (∀ i, i < L → m1.1 74 i = nI (r i)) ∧ (∀ t, t < T → m1.1 78 t = nI (lfA w r L c t)) ∧ (∀ t, T ≤ t → t < 8 → m1.1 78 t = 0) ∧ sbst m1 T (F c b) := by
    intro c n m b hc h h74 h78 hz hb
    have hT8 := h.2.1.1.2
    obtain ⟨m1, y1, y2, y3, y4, y5⟩ := p_l29a (g := g) (sf := sf) (n := n + 1) (x2 := x2) (x3 := x3) (x4 := nI (sN r L)) hg hL hr l1 l2 l4 h5 hfr hc h h78 hz
    have hms2 : ms m1 (cW m1 74 L (nI c)) := ms.W (by omega)
    obtain ⟨m2, z1, z2, z3, z4, z5⟩ := hF c (cW m1 74 L (nI c)) b hc ((h.ms y2).ms hms2) (fun i hi => by rw [cW_k (by omega), y3 74 (by decide) (by decide)]; exact h74 i hi) cW_s (fun t ht => by rw [cW_b (by decide)]; exact y4 t ht) (fun t h1 h2 => by rw [cW_b (by decide)]; exact y5 t h1 h2) (hb.co (by rw [cW_b (by decide), y3 72 (by decide) (by decide)]) (by rw [cW_b (by decide), y3 73 (by decide) (by decide)]))
    refine ⟨m2, ?_, (y2.tr hms2).tr z2, z3, fun t ht => by rw [z4 t (by omega), cW_b (by decide)]; exact y4 t ht, fun t h1 h2 => by rw [z4 t h2, cW_b (by decide)]; exact y5 t h1 h2, z5⟩
    rw [y1, l_29, if_neg (by decide), if_neg (by decide), if_pos rfl, if_pos (k_in (show L < 8 by omega) (by omega)), k_cl (show L < 2147483648 by omega), Option.bind_some, show nI L + 1 = nI (L + 1) from nI_1 L, nI_add, z1, Option.bind_some, show nI c + 1 = nI (c + 1) from nI_1 c]
  intro j
  induction j with
  | zero =>
    intro c n m b hc hn h h74 h78 hz hb
    have hT8 := h.2.1.1.2
    obtain ⟨n, rfl⟩ : ∃ n', n = n' + 3 := ⟨n - 3, by omega⟩
    obtain ⟨m1, y1, y2, y3, y4, y5, y6⟩ := one c (n + 1) m b (by omega) h h74 h78 hz hb
    have h1 := h.ms y2
    have hla := la_of h1.2.2.1 hL
    have e24 : m1.1 24 L = nI (la w L) := (h1.1.2.1.la hL).trans hla.1
    have hms2 : ms m1 (cW m1 78 L (nI (la w L))) := ms.W (by omega)
    refine ⟨cW m1 78 L (nI (la w L)), ?_, y2.tr hms2, fun i hi => by rw [cW_b (by decide)]; exact y3 i hi, fun t ht => ?_, fun t q1 q2 => by rw [cW_k (by omega)]; exact y5 t q1 q2, y6.co (cW_b (by decide)) (cW_b (by decide))⟩
    · rw [y1, l_29, if_neg (by decide), if_pos rfl, if_pos (k_in (show L < 8 by omega) (by omega)), k_cl (show L < 2147483648 by omega), e24, if_pos (nI_lt (by omega) (by omega)), if_pos (k_in (show L < 8 by omega) (by omega)), if_pos (k_in (show L < 8 by omega) (by omega)), Option.bind_some]
    · by_cases e : t = L
      · subst e
        rw [cW_s]
        unfold lfA
        rw [if_neg (by omega), if_pos rfl, Nat.sub_zero]
      · rw [cW_k e, y4 t ht]
        unfold lfA
        rw [if_neg e, if_neg e]
  | succ j ih =>
    intro c n m b hc hn h h74 h78 hz hb
    obtain ⟨n, rfl⟩ : ∃ n', n = n' + 2 := ⟨n - 2, by omega⟩
    obtain ⟨m1, y1, y2, y3, y4, y5, y6⟩ := one c n m b (by omega) h h74 h78 hz hb
    obtain ⟨m', z1, z2, z3, z4, z5, z6⟩ := ih (c + 1) n m1 (F c b) (by omega) (by omega) (h.ms y2) y3 y4 y5 y6
    refine ⟨m', ?_, y2.tr z2, z3, z4, z5, z6⟩
    rw [y1]
    exact z1
theorem p_R29 (hg : 2000 ≤ g) (l1 : L2 ≤ 5) (l2 : w 79 = nI L2) (l4 : ∀ i, i < L2 → w (74 + i) = nI (lr2 w i) ∧ lr2 w i < C) (h5 : w 5 = nI fr) (hfr : fr ≤ 9999) : ∀ (d L n : Nat) (m : cM) (r : Nat → Nat) (b : sO), L + d = T → d + 1 ≤ n → (∀ j, j < L → r j ≤ la w j) → cx m B w q x T W C Sa R k → (∀ i, i < L → m.1 74 i = nI (r i)) → (∀ t, t < T → m.1 78 t = nI (lfA w r L 0 t)) → (∀ t, T ≤ t → t < 8 → m.1 78 t = 0) → sbst m T b → ∃ m', R_29 g n 0 (nI L) (snA w T L2 fr r L).1 (Int32.ofInt (snA w T L2 fr r L).2) (nI (sN r L)) m = some m' ∧ ms m m' ∧ (∀ i, i < L → m'.1 74 i = nI (r i)) ∧ (∀ t, t < 8 → m'.1 78 t = m.1 78 t) ∧ sbst m' T (odV (snF w T L2 fr) (fun _ p => la w p) d L r b) := by
  intro d
  induction d with
  | zero =>
    intro L n m r b hL hn hr h h74 h78 hz hb
    obtain ⟨n, rfl⟩ : ∃ n', n = n' + 1 := ⟨n - 1, by omega⟩
    have e : L = T := by omega
    subst e
    obtain ⟨m', y1, y2, y3, y4⟩ := p_29z (g := g) (sf := fun x1 x2 x3 x4 m => R_29 g n 0 x1 x2 x3 x4 m) (L2 := L2) (fr := fr) hg h h74 (fun i hi => Nat.le_trans (hr i hi) (la_of h.2.2.1 hi).2) hb (snA w L L2 fr r L).1
    exact ⟨m', y1, y3, fun i hi => by rw [y4 74 (by decide) (by decide)]; exact h74 i hi, fun t _ => by rw [y4 78 (by decide) (by decide)], y2⟩
  | succ d ih =>
    intro L n m r b hL hn hr h h74 h78 hz hb
    obtain ⟨n, rfl⟩ : ∃ n', n = n' + 1 := ⟨n - 1, by omega⟩
    have hV := h.2.1
    have hT8 := hV.1.2
    have hla := la_of h.2.2.1 (t := L) (by omega)
    obtain ⟨m', y1, y2, y3, y4, y5, y6⟩ := p_l29 (g := g) (B := B) (w := w) (q := q) (x := x) (T := T) (W := W) (k := k) (sf := fun x1 x2 x3 x4 m => R_29 g n 0 x1 x2 x3 x4 m) (F := fun c b => odV (snF w T L2 fr) (fun _ p => la w p) d (L + 1) (fun j => if j = L then c else r j) b) (r := r) (L := L) (x2 := (snA w T L2 fr r L).1) (x3 := Int32.ofInt (snA w T L2 fr r L).2) hg (by omega) hr l1 l2 l4 h5 hfr (fun c m b hc hcx h74 h74L h78 hz hb => by
      obtain ⟨m', z1, z2, z3, z4, z5⟩ := ih (L + 1) n m (fun j => if j = L then c else r j) b (by omega) (by omega) (fun j hj => by
        show (if j = L then c else r j) ≤ la w j
        by_cases e : j = L
        · rw [if_pos e, e]; exact hc
        · rw [if_neg e]; exact hr j (by omega)) hcx (fun i hi => by
        show _ = nI (if i = L then c else r i)
        by_cases e : i = L
        · rw [if_pos e, e]; exact h74L
        · rw [if_neg e]; exact h74 i (by omega)) (fun t ht => by rw [lfA_s]; exact h78 t ht) hz hb
      rw [snA_s, sN_s] at z1
      refine ⟨m', z1, z2, fun i hi => ?_, z4, z5⟩
      have := z3 i (by omega)
      rw [if_neg (by omega)] at this
      exact this) (la w L) 0 g m b (by omega) (by omega) h h74 h78 hz hb
    refine ⟨m', ?_, y2, y3, fun t ht => ?_, y6⟩
    · show t_29 (fun x1 x2 x3 x4 m => R_29 g n 0 x1 x2 x3 x4 m) g (nI L) (snA w T L2 fr r L).1 (Int32.ofInt (snA w T L2 fr r L).2) (nI (sN r L)) m = some m'
      unfold t_29
      rw [if_pos h.cy.1, h.t, if_pos (nI_lt (by omega) (by omega))]
      exact y1
    · by_cases e : t < T
      · rw [y4 t e, h78 t e]
      · rw [y5 t (by omega) ht, hz t (by omega) ht]
/-- seekReturn -/
theorem p_28 (hg : 2000 ≤ g) (h : cx m B w q x T W C Sa R k) (l1 : L2 ≤ 5) (l2 : w 79 = nI L2) (l4 : ∀ i, i < L2 → w (74 + i) = nI (lr2 w i) ∧ lr2 w i < C) (h5 : w 5 = nI fr) (hfr : fr ≤ 9999) : ∃ m', d_28 g m = some m' ∧ ms m m' ∧ sbst m' T (odV (snF w T L2 fr) (fun _ p => la w p) T 0 (fun _ => 0) none) := by
  have hV := h.2.1
  have hst := h.2.2.1
  have hT8 := hV.1.2
  obtain ⟨m0, y1, y2, y3, y4, y5⟩ := p_1 (g := g) (m := m)
  have h0 := h.ms y3
  have hms : ms m0 (cY m0 24 0 78 0 8) := ms.Y (by omega)
  have h1 := h0.ms hms
  have e12 : (cY m0 24 0 78 0 8).1 19 12 = w 11 := h1.1.2.1.1.2.2.2.1
  obtain ⟨m4, v1, v2, v3, v4, v5⟩ := p_R29 (g := g) (B := B) (q := q) (x := x) (k := k) (L2 := L2) (fr := fr) hg l1 l2 l4 h5 hfr T 0 10 (cY m0 24 0 78 0 8) (fun _ => 0) none (by omega) (by omega) (fun j hj => absurd hj (by omega)) h1 (fun i hi => absurd hi (by omega)) (fun t ht => by
    rw [cY_in (by omega), show m0.1 24 t = nI (la w t) from (h0.1.2.1.la ht).trans (la_of hst ht).1]
    unfold lfA
    rw [if_neg (by omega)]
    split <;> rfl) (fun t q1 q2 => by
    rw [cY_in q2]
    exact (h0.1.2.1.2.2.2.1 t q1 q2).2) (by
    show (cY m0 24 0 78 0 8).1 72 0 = 0
    rw [cY_b (by decide)]
    exact y2)
  refine ⟨m4, ?_, (y3.tr hms).tr v2, v5⟩
  have v1 : d_29 g 0 (w 11) 0 0 (cY m0 24 0 78 0 8) = some m4 := v1
  unfold d_28
  rw [y1, Option.bind_some]
  show (d_29 g 0 ((cY m0 24 0 78 0 8).1 19 12) 0 0 (cY m0 24 0 78 0 8)).bind (fun z => some z) = some m4
  rw [e12, v1]
  rfl
end SCL
