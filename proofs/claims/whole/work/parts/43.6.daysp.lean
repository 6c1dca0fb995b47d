/-! days: rows that are left out are never better -/
/-- all that the first n wants cost, each on its day -/
def psD (B : rB) (w : Nat → Int32) (q D : Nat) (r : Nat → Nat) (n : Nat) : Nat := sN (fun i => prD B w q D (r i) i) n
def pxD (B : rB) (w : Nat → Int32) (q D fr : Nat) (r : Nat → Nat) (n : Nat) : Nat := sN (fun c => pcN w fr (sbk (prD B w q D c) r c n)) 5
theorem pcN_ge {w : Nat → Int32} {fr s : Nat} : s ≤ pcN w fr s := by
  unfold pcN
  by_cases h : s = 0
  · rw [if_pos h]; omega
  · rw [if_neg h]
    show s ≤ s + _
    omega
theorem sbk_ps {B : rB} {w : Nat → Int32} {q D : Nat} {r : Nat → Nat} : ∀ {n : Nat}, (∀ j, j < n → r j ≤ 4) → sN (fun c => sbk (prD B w q D c) r c n) 5 = psD B w q D r n
  | 0, _ => rfl
  | n + 1, h => by
    have ih := sbk_ps (B := B) (w := w) (q := q) (D := D) (r := r) (n := n) (fun j hj => h j (by omega))
    show _ = psD B w q D r n + prD B w q D (r n) n
    rw [← ih]
    have e : sN (fun c => sbk (prD B w q D c) r c (n + 1)) 5 = sN (fun c => sbk (prD B w q D c) r c n + (if r n = c then 1 else 0) * prD B w q D c n) 5 := sN_c (fun c _ => by
      show sbk (prD B w q D c) r c n + (if r n = c then prD B w q D c n else 0) = _
      by_cases e : r n = c
      · rw [if_pos e, if_pos e, Nat.one_mul]
      · rw [if_neg e, if_neg e, Nat.zero_mul])
    rw [e, sN_add, sN_at (d := fun c => prD B w q D c n), if_pos (by have := h n (by omega); omega)]
theorem ps_le {B : rB} {w : Nat → Int32} {q D fr : Nat} {r : Nat → Nat} {n : Nat} (h : ∀ j, j < n → r j ≤ 4) : psD B w q D r n ≤ pxD B w q D fr r n := by
  rw [← sbk_ps h]
  exact sN_mono (fun c _ => pcN_ge)
