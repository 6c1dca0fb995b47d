/-! sent: what a row of things sent back gives -/
def lfA (w : Nat → Int32) (r : Nat → Nat) (t n : Nat) : Nat → Nat := fun t' => la w t' - (if t' < t then r t' else if t' = t then n else 0)
def snB (w : Nat → Int32) (T L2 fr : Nat) (r : Nat → Nat) (t n : Nat) (px : Int32) : Nat := sbN w T L2 fr (lfA w r t n) (nN px) t
def snS (w : Nat → Int32) (T L2 fr : Nat) (r : Nat → Nat) (t n : Nat) (p : Int32 × Int) : Int32 × Int := (p.1 - nI (snB w T L2 fr r t n p.1), p.2 + ((snB w T L2 fr r t n p.1 : Int) - (nN (w (81 + 2 * t)) : Int)))
def snI (w : Nat → Int32) (T L2 fr : Nat) (r : Nat → Nat) (t : Nat) : Nat → Int32 × Int → Int32 × Int
  | 0, p => p
  | n + 1, p => snS w T L2 fr r t (n + 1) (snI w T L2 fr r t n p)
def snA (w : Nat → Int32) (T L2 fr : Nat) (r : Nat → Nat) : Nat → Int32 × Int
  | 0 => (w 11, 0)
  | t + 1 => snI w T L2 fr r t (r t) (snA w T L2 fr r t)
abbrev sO : Type := Option (Int × (Nat → Nat))
def snF (w : Nat → Int32) (T L2 fr : Nat) (r : Nat → Nat) (b : sO) : sO := match b with
  | none => some ((snA w T L2 fr r T).2, r)
  | some p => if p.1 < (snA w T L2 fr r T).2 ∨ ((snA w T L2 fr r T).2 = p.1 ∧ sN r T < sN p.2 T) then some ((snA w T L2 fr r T).2, r) else some p
theorem ctS_sw {w w' : Nat → Int32} (h : ∀ j, j ≤ 6 ∨ 56 ≤ j → w' j = w j) (c s : Nat) (b : Bool) : ctS w' c s b = ctS w c s b := by
  unfold ctS
  rw [h (122 + 4 * c) (by omega), h (120 + 4 * c) (by omega), h (121 + 4 * c) (by omega)]
theorem ctN_sw {w w' : Nat → Int32} {row : Nat → Nat} (h : ∀ j, j ≤ 6 ∨ 56 ≤ j → w' j = w j) : ∀ (n k s : Nat) (b : Bool), ctN w' row n k s b = ctN w row n k s b
  | 0, _, _, _ => rfl
  | n + 1, k, s, b => by
    show ctN w' row n (k + 1) (ctS w' (row k) s b).1 (ctS w' (row k) s b).2 = ctN w row n (k + 1) (ctS w (row k) s b).1 (ctS w (row k) s b).2
    rw [ctS_sw h, ctN_sw h]
theorem sbN_w {w w' : Nat → Int32} {T L2 fr P t : Nat} {lf lf' : Nat → Nat} (h : ∀ j, j ≤ 6 ∨ 56 ≤ j → w' j = w j) (hl : ∀ t, t < T → lf' t = lf t) : sbN w' T L2 fr lf' P t = sbN w T L2 fr lf P t := by
  have e1 : lr2 w' = lr2 w := by
    funext i
    unfold lr2
    rw [h (74 + i) (by omega)]
  have e2 : ∀ t, ld w' t = ld w t := fun t => by
    unfold ld
    rw [h (56 + t) (by omega)]
  have e3 : sN lf' T = sN lf T := sN_c hl
  have e4 : sN (fun t => lf' t * ld w' t) T = sN (fun t => lf t * ld w t) T := sN_c (fun t ht => by
    show lf' t * ld w' t = lf t * ld w t
    rw [hl t ht, e2])
  unfold sbN clF coN caN
  rw [h 6 (by omega), h 4 (by omega), e1, e2, e3, e4, ctN_sw h]
theorem lfA_c {w : Nat → Int32} {r r' : Nat → Nat} {t n : Nat} (h : ∀ j, j < t → r j = r' j) : lfA w r t n = lfA w r' t n := by
  funext t'
  unfold lfA
  by_cases e : t' < t
  · rw [if_pos e, if_pos e, h t' e]
  · rw [if_neg e, if_neg e]
theorem snI_c {w : Nat → Int32} {T L2 fr t : Nat} {r r' : Nat → Nat} (h : ∀ j, j < t → r j = r' j) : ∀ (n : Nat) (p : Int32 × Int), snI w T L2 fr r t n p = snI w T L2 fr r' t n p
  | 0, _ => rfl
  | n + 1, p => by
    show snS w T L2 fr r t (n + 1) (snI w T L2 fr r t n p) = snS w T L2 fr r' t (n + 1) (snI w T L2 fr r' t n p)
    rw [snI_c h n p]
    unfold snS snB
    rw [lfA_c h]
theorem snA_c {w : Nat → Int32} {T L2 fr : Nat} {r r' : Nat → Nat} : ∀ {t : Nat}, (∀ j, j < t → r j = r' j) → snA w T L2 fr r t = snA w T L2 fr r' t
  | 0, _ => rfl
  | t + 1, h => by
    show snI w T L2 fr r t (r t) (snA w T L2 fr r t) = snI w T L2 fr r' t (r' t) (snA w T L2 fr r' t)
    rw [snA_c (t := t) (fun j hj => h j (by omega)), h t (by omega), snI_c (fun j hj => h j (by omega))]
/-- what is sure of what was paid and of the gain -/
def gSn (w : Nat → Int32) (K : Nat) (p : Int32 × Int) : Prop := (w 6 = nI 1 → bd p.1 1000000) ∧ -((K : Int) * 1010000) ≤ p.2 ∧ p.2 ≤ (K : Int) * 1010000
theorem gSn.mo {w : Nat → Int32} {K K' : Nat} {p : Int32 × Int} (h : gSn w K p) (hk : K ≤ K') : gSn w K' p := by
  obtain ⟨h1, h2, h3⟩ := h
  exact ⟨h1, by omega, by omega⟩
section SQ
variable {w : Nat → Int32} {T W C Sa L2 fr k : Nat} {r : Nat → Nat}
theorem snB_b (hV : shV w T W C Sa) (hst : stV w T C k) {t n : Nat} {px : Int32} (ht : t < T) (hp : w 6 = nI 1 → bd px 1000000) : snB w T L2 fr r t n px ≤ 1000000 ∧ (w 6 = nI 1 → bd (px - nI (snB w T L2 fr r t n px)) 1000000) := by
  unfold snB sbN
  by_cases h : w 6 = nI 1
  · obtain ⟨a, ha, rfl⟩ := hp h
    rw [if_pos h, n_cl (by omega)]
    refine ⟨by omega, fun _ => ⟨a - (a - clF w T L2 fr (lfA w r t n)), by omega, ?_⟩⟩
    rw [k_sub (by omega)]
  · rw [if_neg h]
    have := (ld_of hst ht).2
    exact ⟨by omega, fun z => absurd z h⟩
theorem snS_b (hV : shV w T W C Sa) (hst : stV w T C k) {t n K : Nat} {p : Int32 × Int} (ht : t < T) (hp : gSn w K p) : gSn w (K + 1) (snS w T L2 fr r t n p) := by
  obtain ⟨h1, h2, h3⟩ := hp
  obtain ⟨b1, b2⟩ := snB_b (L2 := L2) (fr := fr) (r := r) (n := n) hV hst ht h1
  obtain ⟨c1, c2⟩ := nI_nN (hV.2.2.2.2.2.2.2.2.1 t ht).2 (by omega)
  refine ⟨b2, ?_, ?_⟩
  · show _ ≤ p.2 + ((snB w T L2 fr r t n p.1 : Int) - (nN (w (81 + 2 * t)) : Int))
    omega
  · show p.2 + ((snB w T L2 fr r t n p.1 : Int) - (nN (w (81 + 2 * t)) : Int)) ≤ _
    omega
theorem snI_b (hV : shV w T W C Sa) (hst : stV w T C k) {t K : Nat} {p : Int32 × Int} (ht : t < T) (hp : gSn w K p) : ∀ n, gSn w (K + n) (snI w T L2 fr r t n p)
  | 0 => hp
  | n + 1 => snS_b hV hst ht (snI_b hV hst ht hp n)
theorem snA_b (hV : shV w T W C Sa) (hst : stV w T C k) : ∀ t, t ≤ T → (∀ j, j < t → r j ≤ 9) → gSn w (9 * t) (snA w T L2 fr r t)
  | 0, _, _ => ⟨hst.2.2.2.2.2.1, by show _ ≤ (0 : Int); omega, by show (0 : Int) ≤ _; omega⟩
  | t + 1, ht, h => by
    have h1 := snI_b (L2 := L2) (fr := fr) (r := r) hV hst (t := t) (by omega) (snA_b hV hst t (by omega) (fun j hj => h j (by omega))) (r t)
    have h2 := h t (by omega)
    exact h1.mo (by omega)
end SQ
theorem iI_lt {a b : Int} (a1 : -1000000000 ≤ a) (a2 : a ≤ 1000000000) (b1 : -1000000000 ≤ b) (b2 : b ≤ 1000000000) : Int32.ofInt a < Int32.ofInt b ↔ a < b := by
  rw [Int32.lt_iff_toInt_lt, Int32.toInt_ofInt_of_le (by omega) (by omega), Int32.toInt_ofInt_of_le (by omega) (by omega)]
theorem iI_eq {a b : Int} (a1 : -1000000000 ≤ a) (a2 : a ≤ 1000000000) (b1 : -1000000000 ≤ b) (b2 : b ≤ 1000000000) : Int32.ofInt a = Int32.ofInt b ↔ a = b := by
  rw [← Int32.toInt_inj, Int32.toInt_ofInt_of_le (by omega) (by omega), Int32.toInt_ofInt_of_le (by omega) (by omega)]
theorem iI_n {a : Nat} : nI a = Int32.ofInt (a : Int) := Int32.ofInt_eq_ofNat.symm
