/-! baskets, of the reference: the next row -/
def moI (U : Nat) : Int32 := if U = 0 then -1 else nI (U - 1)
theorem moI_le {a U : Nat} (ha : a < 1000) (hU : U < 1000) : nI a ≤ moI U ↔ a < U := by
  unfold moI
  by_cases h : U = 0
  · rw [if_pos h]
    refine ⟨fun z => ?_, fun z => by omega⟩
    exact absurd (Int32.le_trans (nI_pos' (n := a) (by omega)) z) (by decide)
  · rw [if_neg h, k_le (by omega) (by omega)]
    exact ⟨fun z => by omega, fun z => by omega⟩
section BR
variable {g k : Nat} {m : cM} {S : rS} {B : rB} {w : Nat → Int32} {q T W C Sa R : Nat} {x : Int32}
theorem q_l243 {r : Nat → Nat} {p : Nat} (hp : p ≤ 6) (hr : ∀ j, j < p → S.2.1 32 j = nI (r j) ∧ r j ≤ j) : ∀ (j i n : Nat), i + j = p → 2 * j + 1 ≤ n → l_243 g n 0 (nI p) (moI (uz r i)) (nI i) 0 S = some (moI (uz r p), S) := by
  intro j
  induction j with
  | zero =>
    intro i n hi hn
    obtain ⟨n, rfl⟩ : ∃ n', n = n' + 1 := ⟨n - 1, by omega⟩
    have e : i = p := by omega
    subst e
    rw [l_243, if_pos rfl, if_pos (Int32.le_refl _)]
  | succ j ih =>
    intro i n hi hn
    obtain ⟨n, rfl⟩ : ∃ n', n = n' + 2 := ⟨n - 2, by omega⟩
    obtain ⟨r1, r2⟩ := hr i (by omega)
    have hU := uz_b (r := r) (n := i) (fun j hj => (hr j (by omega)).2)
    have t1 : ∀ s0 : Int32, l_243 g (n + 1) 1 (nI p) (moI (uz r i)) (nI i) s0 S = l_243 g n 0 (nI p) s0 (nI (i + 1)) 0 S := fun s0 => by
      rw [l_243, if_neg (by decide), if_pos rfl, show nI i + 1 = nI (i + 1) from nI_1 i]
    have eu : uz r (i + 1) = if uz r i < r i + 1 then r i + 1 else uz r i := rfl
    have step := ih (i + 1) n (by omega) (by omega)
    rw [l_243, if_pos rfl, if_neg (nI_ge (by omega) (by omega)), if_pos (k_in (by omega) (by omega)), k_cl (by omega), r1]
    by_cases h : r i < uz r i
    · rw [if_pos ((moI_le (by omega) (by omega)).mpr h), t1]
      rw [eu, if_neg (by omega)] at step
      exact step
    · rw [if_neg (fun z => h ((moI_le (by omega) (by omega)).mp z)), if_pos (k_in (by omega) (by omega)), t1]
      rw [eu, if_pos (by omega)] at step
      exact step
theorem q_243 {r : Nat → Nat} {p : Nat} (hg : 100 ≤ g) (hp : p ≤ 6) (hr : ∀ j, j < p → S.2.1 32 j = nI (r j) ∧ r j ≤ j) : d_243 g (nI p) S = some (moI (uz r p), S) := by
  unfold d_243
  exact q_l243 hp hr p 0 g (by omega) (by omega)
theorem q_l244c {r : Nat → Nat} {p : Nat} (hW : S.2.1 20 2 = nI W) (hW6 : W ≤ 6) (hp : p < W) : ∀ (j i n : Nat) (S : rS), S.2.1 20 2 = nI W → i + j = W → p + 1 ≤ i → j + 1 ≤ n → (∀ d, d < i → S.2.1 32 d = nI (odN r p d)) → ∃ S', l_244 g n 2 (nI p) (nI i) S = some (1, S') ∧ rc [] [32] S S' ∧ (∀ d, d < W → S'.2.1 32 d = nI (odN r p d)) := by
  intro j
  induction j with
  | zero =>
    intro i n S h2 hi hpi hn h
    obtain ⟨n, rfl⟩ : ∃ n', n = n' + 1 := ⟨n - 1, by omega⟩
    have e : i = W := by omega
    subst e
    refine ⟨S, ?_, rc.rf _, h⟩
    rw [l_244, if_neg (by decide), if_neg (by decide), if_pos rfl, if_pos (show aIn (2 : Int32) 181 = true by decide), show (2 : Int32).toNatClampNeg = 2 from rfl, h2, if_pos (Int32.le_refl _)]
  | succ j ih =>
    intro i n S h2 hi hpi hn h
    obtain ⟨n, rfl⟩ : ∃ n', n = n' + 1 := ⟨n - 1, by omega⟩
    obtain ⟨S', y1, y2, y3⟩ := ih (i + 1) n (rA S 32 (upd (S.2.1 32) i 0)) (by rw [rA_n (by decide)]; exact h2) (by omega) (by omega) (by omega) (by
      intro d hd
      rw [rA_s]
      by_cases e : d = i
      · subst e
        rw [upd_s]
        show 0 = nI (if d < p then r d else if d = p then r p + 1 else 0)
        rw [if_neg (by omega), if_neg (by omega)]
        rfl
      · rw [upd_n e]; exact h d (by omega))
    refine ⟨S', ?_, (rc.A (by decide)).tr y2, y3⟩
    rw [l_244, if_neg (by decide), if_neg (by decide), if_pos rfl, if_pos (show aIn (2 : Int32) 181 = true by decide), show (2 : Int32).toNatClampNeg = 2 from rfl, h2, if_neg (nI_ge (by omega) (by omega)), if_pos (k_in (by omega) (by omega)), k_cl (by omega), show nI i + 1 = nI (i + 1) from nI_1 i]
    exact y1
theorem q_l244 {r : Nat → Nat} (hg : 100 ≤ g) (hW : S.2.1 20 2 = nI W) (hW6 : W ≤ 6) (hr : ∀ j, j < W → S.2.1 32 j = nI (r j) ∧ r j ≤ j) : ∀ (i n : Nat), i ≤ W → i + W + 4 ≤ n → ∃ S', l_244 g n 0 (nI i - nI 1) 0 S = some ((match odP uzl r i with
    | none => 0
    | some _ => 1), S') ∧ rc [] [32] S S' ∧ (match odP uzl r i with
    | none => True
    | some p => ∀ d, d < W → S'.2.1 32 d = nI (odN r p d)) := by
  intro i
  induction i with
  | zero =>
    intro n hi hn
    obtain ⟨n, rfl⟩ : ∃ n', n = n' + 2 := ⟨n - 2, by omega⟩
    refine ⟨S, ?_, rc.rf _, trivial⟩
    rw [l_244, if_pos rfl, if_pos (by decide), l_244, if_neg (by decide), if_pos rfl, if_neg (by decide)]
    rfl
  | succ i ih =>
    intro n hi hn
    obtain ⟨n, rfl⟩ : ∃ n', n = n' + 2 := ⟨n - 2, by omega⟩
    obtain ⟨r1, r2⟩ := hr i (by omega)
    have e1 : nI (i + 1) - nI 1 = nI i := k_sub (by omega)
    have e2 : odP uzl r (i + 1) = if r i < uzl r i then some i else odP uzl r i := rfl
    have hv : ∀ j, j < i → r j ≤ j := fun j hj => (hr j (by omega)).2
    have hU := uz_b hv
    have q243 := q_243 (g := g) (S := S) (r := r) (p := i) hg (by omega) (fun j hj => hr j (by omega))
    rw [e1, e2, uzl_e hv, l_244, if_pos rfl, if_neg (nI_pos (by omega)), if_pos (k_in (by omega) (by omega)), q243, Option.bind_some, k_cl (by omega), r1]
    rw [show (moI (uz r i), S).1 = moI (uz r i) from rfl]
    by_cases h : r i < uz r i
    · obtain ⟨S', y1, y2, y3⟩ := q_l244c (g := g) (S := S) (r := r) (p := i) hW hW6 (by omega) (W - (i + 1)) (i + 1) n (rA S 32 (upd (S.2.1 32) i (nI (r i + 1)))) (by rw [rA_n (by decide)]; exact hW) (by omega) (by omega) (by omega) (fun d hd => by
        rw [rA_s]
        show _ = nI (if d < i then r d else if d = i then r i + 1 else 0)
        by_cases e : d = i
        · subst e; rw [upd_s, if_neg (by omega), if_pos rfl]
        · rw [upd_n e, if_pos (by omega)]; exact (hr d (by omega)).1)
      rw [if_pos ((moI_le (by omega) (by omega)).mpr h), if_pos h]
      refine ⟨S', ?_, (rc.A (by decide)).tr y2, y3⟩
      show l_244 g (n + 1) 1 (nI i) 0 S = _
      rw [l_244, if_neg (by decide), if_pos rfl, if_pos (nI_pos' (by omega)), if_pos (k_in (by omega) (by omega)), if_pos (k_in (by omega) (by omega)), k_cl (by omega), r1, show nI (r i) + 1 = nI (r i + 1) from nI_1 _, show nI i + 1 = nI (i + 1) from nI_1 i]
      exact y1
    · obtain ⟨S', y1, y2, y3⟩ := ih (n + 1) (by omega) (by omega)
      rw [if_neg (fun z => h ((moI_le (by omega) (by omega)).mp z)), if_neg h]
      refine ⟨S', ?_, y2, y3⟩
      rw [← y1, Int32.sub_eq_add_neg]
      rfl
/-- hasNextBaskets -/
theorem q_244 {r : Nat → Nat} (hg : 100 ≤ g) (hW : S.2.1 20 2 = nI W) (hW6 : W ≤ 6) (hr : ∀ j, j < W → S.2.1 32 j = nI (r j) ∧ r j ≤ j) : ∃ S', d_244 g S = some ((match odP uzl r W with
    | none => 0
    | some _ => 1), S') ∧ rc [] [32] S S' ∧ (match odP uzl r W with
    | none => True
    | some p => ∀ d, d < W → S'.2.1 32 d = nI (odN r p d)) := by
  unfold d_244
  rw [if_pos (show aIn (2 : Int32) 181 = true by decide), show (2 : Int32).toNatClampNeg = 2 from rfl, hW]
  exact q_l244 hg hW hW6 hr W g (Nat.le_refl _) (by omega)
theorem q_l242 {r : Nat → Nat} {v : Int32} (hW6 : W ≤ 6) : ∀ (j i n : Nat) (S : rS), S.2.1 20 2 = nI W → i + j = W → j + 1 ≤ n → (∀ d, d < W → S.2.1 32 d = nI (r d)) → (∀ d, d < i → S.2.1 28 d = nI (r d)) → ∃ S', l_242 g n 1 v (nI i) S = some S' ∧ rc [] [28] S S' ∧ (∀ d, d < W → S'.2.1 28 d = nI (r d)) := by
  intro j
  induction j with
  | zero =>
    intro i n S h2 hi hn h1 h
    obtain ⟨n, rfl⟩ : ∃ n', n = n' + 1 := ⟨n - 1, by omega⟩
    have e : i = W := by omega
    subst e
    refine ⟨S, ?_, rc.rf _, h⟩
    rw [l_242, if_neg (by decide), if_pos rfl, if_pos (show aIn (2 : Int32) 181 = true by decide), show (2 : Int32).toNatClampNeg = 2 from rfl, h2, if_pos (Int32.le_refl _)]
  | succ j ih =>
    intro i n S h2 hi hn h1 h
    obtain ⟨n, rfl⟩ : ∃ n', n = n' + 1 := ⟨n - 1, by omega⟩
    have r1 := h1 i (by omega)
    obtain ⟨S', y1, y2, y3⟩ := ih (i + 1) n (rA S 28 (upd (S.2.1 28) i (nI (r i)))) (by rw [rA_n (by decide)]; exact h2) (by omega) (by omega) (fun d hd => by rw [rA_n (by decide)]; exact h1 d hd) (by
      intro d hd
      rw [rA_s]
      by_cases e : d = i
      · subst e; rw [upd_s]
      · rw [upd_n e]; exact h d (by omega))
    refine ⟨S', ?_, (rc.A (by decide)).tr y2, y3⟩
    rw [l_242, if_neg (by decide), if_pos rfl, if_pos (show aIn (2 : Int32) 181 = true by decide), show (2 : Int32).toNatClampNeg = 2 from rfl, h2, if_neg (nI_ge (by omega) (by omega)), if_pos (k_in (by omega) (by omega)), if_pos (k_in (by omega) (by omega)), k_cl (by omega), r1, show nI i + 1 = nI (i + 1) from nI_1 i]
    exact y1
/-- keepsBaskets -/
theorem q_242 {r : Nat → Nat} {v : Int32} {b : bO} (hg : 100 ≤ g) (h2 : S.2.1 20 2 = nI W) (hW6 : W ≤ 6) (h1 : ∀ d, d < W → S.2.1 32 d = nI (r d)) (hb : rst S b) : ∃ S', d_242 g v S = some S' ∧ rst S' (off b v W (fun i => nI (r i))) ∧ rc [29, 30] [28] S S' := by
  have take : ∃ S', l_242 g g 0 v 0 S = some S' ∧ rst S' (some (v, W, fun i => nI (r i))) ∧ rc [29, 30] [28] S S' := by
    obtain ⟨g', hg'⟩ : ∃ q, g = q + 1 := ⟨g - 1, by omega⟩
    obtain ⟨S2, z1, z2, z3⟩ := q_l242 (g := g) (r := r) (v := v) hW6 W 0 g' (rF (rF S 29 (nI W)) 30 v) h2 (by omega) (by omega) h1 (fun d hd => absurd hd (by omega))
    refine ⟨S2, ?_, ⟨by rw [z2.1 29 (by simp), rF_n (by decide), rF_s], by rw [z2.1 30 (by simp), rF_s], by show W ≤ 8; omega, z3⟩, ((rc.F (by decide)).tr (rc.F (by decide))).tr (z2.mo (by decide) (by decide))⟩
    have : l_242 g (g' + 1) 0 v 0 S = l_242 g g' 1 v 0 (rF (rF S 29 (nI W)) 30 v) := by rw [l_242, if_pos rfl, if_pos (show aIn (2 : Int32) 181 = true by decide), show (2 : Int32).toNatClampNeg = 2 from rfl, h2]
    rw [← hg'] at this
    rw [this]
    exact z1
  unfold d_242
  match b, hb with
  | none, hb =>
    have e29 : S.1 29 = -1 := hb
    rw [e29, if_pos (show (-1 : Int32) < 0 by decide)]
    exact take
  | some p, hb =>
    obtain ⟨b1, b2, b3, b4⟩ := hb
    rw [b1, if_neg (nI_pos (by omega)), b2]
    by_cases hlt : v < p.1
    · rw [if_pos hlt, show off (some p) v W (fun i => nI (r i)) = some (v, W, fun i => nI (r i)) from if_pos hlt]
      exact take
    · rw [if_neg hlt, show off (some p) v W (fun i => nI (r i)) = some p from if_neg hlt]
      exact ⟨S, rfl, ⟨b1, b2, b3, b4⟩, rc.rf _⟩
end BR
