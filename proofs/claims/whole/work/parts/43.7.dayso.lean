/-! days: a branch that is left out changes nothing -/
section DO1
variable {B : rB} {w : Nat → Int32} {q T W C Sa D fr : Nat}
theorem pcN_b (hV : shV w T W C Sa) {s : Nat} : pcN w fr s ≤ s + 999 := by
  unfold pcN
  split
  · omega
  · exact coN_b hV
theorem px_b (hV : shV w T W C Sa) {r : Nat → Nat} {n : Nat} (hn : n ≤ W) : pxD B w q D fr r n ≤ 305000 := by
  have hW6 := hV.2.1.2
  have h1 := sN_b (f := fun c => pcN w fr (sbk (prD B w q D c) r c n)) (c := 61000) (n := 5) (fun c hc => by
    have a := pcN_b (fr := fr) hV (s := sbk (prD B w q D c) r c n)
    have b := sbk_b (pr := prD B w q D c) (r := r) (c := c) (K := 9999) (n := n) (fun i hi => (dO_b hV (wt_of hV (by omega)).2).2)
    have c' : n * 9999 ≤ 6 * 9999 := Nat.mul_le_mul_right _ (by omega)
    show pcN w fr (sbk (prD B w q D c) r c n) ≤ 61000
    omega)
  unfold pxD
  omega
theorem odF_id {α : Type} {F : Nat → α → α} {b : α} : ∀ {j c : Nat}, (∀ i, c ≤ i → i ≤ c + j → F i b = b) → odF F j c b = b
  | 0, c, h => h c (Nat.le_refl _) (by omega)
  | j + 1, c, h => by
    show odF F j (c + 1) (F c b) = b
    rw [h c (Nat.le_refl _) (by omega)]
    exact odF_id (fun i h1 h2 => h i (by omega) (by omega))
theorem od_skip (hV : shV w T W C Sa) {p : Int32 × Nat × (Nat → Int32)} {v0 : Nat} (hp : p.1 = nI v0) (hv : v0 < 2147483648) : ∀ (d L : Nat) (r : Nat → Nat), L + d = W → (∀ j, j < L → r j ≤ 4) → v0 ≤ psD B w q D r L → odV (bdF B w q D fr W) (fun _ p => dyW w D p) d L r (some p) = some p := by
  intro d
  induction d with
  | zero =>
    intro L r hL hr hs
    have e : L = W := by omega
    subst e
    have h1 := ps_le (B := B) (w := w) (q := q) (D := D) (fr := fr) hr
    have h2 := px_b (B := B) (q := q) (D := D) (fr := fr) hV (r := r) (Nat.le_refl L)
    show off (some p) (nI (cdN B w q D fr L r)) L (fun i => nI (r i)) = some p
    have h3 : cdN B w q D fr L r = pxD B w q D fr r L := rfl
    refine if_neg ?_
    rw [hp, h3]
    exact nI_nlt (by omega) (by omega)
  | succ d ih =>
    intro L r hL hr hs
    show odF (fun c b => odV (bdF B w q D fr W) (fun _ p => dyW w D p) d (L + 1) (fun j => if j = L then c else r j) b) (dyW w D L) 0 (some p) = some p
    have hb := dyW_b (w := w) (D := D) (i := L)
    refine odF_id (fun c _ h2 => ih (L + 1) _ (by omega) (fun j hj => ?_) ?_)
    · show (if j = L then c else r j) ≤ 4
      by_cases e : j = L
      · rw [if_pos e]; omega
      · rw [if_neg e]; exact hr j (by omega)
    · have e : psD B w q D (fun j => if j = L then c else r j) (L + 1) = psD B w q D r L + prD B w q D c L := by
        show sN _ L + prD B w q D (if L = L then c else r L) L = _
        rw [if_pos rfl]
        have : sN (fun i => prD B w q D ((fun j => if j = L then c else r j) i) i) L = psD B w q D r L := sN_c (fun i hi => by
          show prD B w q D (if i = L then c else r i) i = _
          rw [if_neg (by omega)])
        rw [this]
      rw [e]
      omega
end DO1
