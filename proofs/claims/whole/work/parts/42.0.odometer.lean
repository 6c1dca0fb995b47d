/-! rows whose places go from 0 to a limit that the places before them set: next after next is the same as place by place -/
section OD
variable {α : Type} {f : (Nat → Nat) → α → α} {lim : (Nat → Nat) → Nat → Nat} {W M : Nat}
/-- the last place below n that can go on -/
def odP (lim : (Nat → Nat) → Nat → Nat) (r : Nat → Nat) : Nat → Option Nat
  | 0 => none
  | i + 1 => if r i < lim r i then some i else odP lim r i
def odN (r : Nat → Nat) (p : Nat) : Nat → Nat := fun j => if j < p then r j else if j = p then r p + 1 else 0
/-- n rows from r on, until none is next -/
def odI (f : (Nat → Nat) → α → α) (lim : (Nat → Nat) → Nat → Nat) (W : Nat) : Nat → (Nat → Nat) → α → α → Prop
  | 0, _, _, _ => False
  | n + 1, r, b, b' => match odP lim r W with
    | none => n = 0 ∧ b' = f r b
    | some p => odI f lim W n (odN r p) (f r b) b'
theorem odI_stop {r : Nat → Nat} {b : α} (h : odP lim r W = none) : odI f lim W 1 r b (f r b) := by
  unfold odI
  rw [h]
  exact ⟨rfl, rfl⟩
theorem odI_step {n p : Nat} {r : Nat → Nat} {b b' : α} (h : odP lim r W = some p) (h2 : odI f lim W n (odN r p) (f r b) b') : odI f lim W (n + 1) r b b' := by
  unfold odI
  rw [h]
  exact h2
/-- place by place: c is the value at L, j more are to come -/
def odF (F : Nat → α → α) : Nat → Nat → α → α
  | 0, c, b => F c b
  | j + 1, c, b => odF F j (c + 1) (F c b)
def odV (f : (Nat → Nat) → α → α) (lim : (Nat → Nat) → Nat → Nat) : Nat → Nat → (Nat → Nat) → α → α
  | 0, _, r, b => f r b
  | d + 1, L, r, b => odF (fun c b => odV f lim d (L + 1) (fun j => if j = L then c else r j) b) (lim r L) 0 b
theorem odP_c (hl : ∀ r r' p, (∀ j, j < p → r j = r' j) → lim r p = lim r' p) {r r' : Nat → Nat} : ∀ {n : Nat}, (∀ j, j < n → r j = r' j) → odP lim r n = odP lim r' n
  | 0, _ => rfl
  | n + 1, h => by
    show (if r n < lim r n then some n else odP lim r n) = (if r' n < lim r' n then some n else odP lim r' n)
    rw [h n (by omega), hl r r' n (fun j hj => h j (by omega)), odP_c hl (fun j hj => h j (by omega))]
theorem odP_lt {r : Nat → Nat} : ∀ {n p : Nat}, odP lim r n = some p → p < n ∧ r p < lim r p
  | 0, _, h => by cases h
  | i + 1, p, h => by
    unfold odP at h
    by_cases e : r i < lim r i
    · rw [if_pos e] at h
      cases h
      exact ⟨by omega, e⟩
    · rw [if_neg e] at h
      have := odP_lt h
      exact ⟨by omega, this.2⟩
theorem odN_c {r r' : Nat → Nat} {p : Nat} (h : ∀ j, j ≤ p → r j = r' j) : odN r p = odN r' p := by
  funext j
  unfold odN
  by_cases e : j < p
  · rw [if_pos e, if_pos e]; exact h j (by omega)
  · rw [if_neg e, if_neg e, h p (Nat.le_refl _)]
/-- what is to come when the places from L on are through -/
def odC (f : (Nat → Nat) → α → α) (lim : (Nat → Nat) → Nat → Nat) (W L : Nat) (r : Nat → Nat) (n : Nat) (b b' : α) : Prop := match odP lim r L with
  | none => n = 0 ∧ b' = b
  | some p => odI f lim W n (odN r p) b b'
/-- next after next from a row that is at its start from L on = place by place, then what is to come -/
theorem od_all (hl : ∀ r r' p, (∀ j, j < p → r j = r' j) → lim r p = lim r' p) (hM : ∀ r p, p < W → lim r p ≤ M) : ∀ (d L : Nat) (r : Nat → Nat) (b : α), L + d = W → (∀ j, L ≤ j → r j = 0) → ∃ N, N ≤ (M + 1) ^ d ∧ ∀ n b', odC f lim W L r n (odV f lim d L r b) b' → odI f lim W (n + N) r b b' := by
  intro d
  induction d with
  | zero =>
    intro L r b hL h0
    have e : L = W := by omega
    subst e
    refine ⟨1, Nat.le_refl _, fun n b' h => ?_⟩
    unfold odC at h
    cases hp : odP lim r L with
    | none =>
      rw [hp] at h
      obtain ⟨h1, h2⟩ := h
      rw [h1, h2]
      exact odI_stop hp
    | some p =>
      rw [hp] at h
      exact odI_step hp h
  | succ d ih =>
    intro L r b hL h0
    have hlM := hM r L (by omega)
    -- the values from c on at L
    have inner : ∀ (j c : Nat) (r1 : Nat → Nat) (b : α), c + j = lim r L → r1 = (fun i => if i = L then c else r i) → ∃ N, N ≤ (j + 1) * (M + 1) ^ d ∧ ∀ n b', odC f lim W L r n (odF (fun c b => odV f lim d (L + 1) (fun j => if j = L then c else r j) b) j c b) b' → odI f lim W (n + N) r1 b b' := by
      intro j
      induction j with
      | zero =>
        intro c r1 b hc hr1
        have e0 : ∀ i, i < L → r1 i = r i := fun i hi => by rw [hr1]; exact if_neg (by omega)
        have eL : r1 L = c := by rw [hr1]; exact if_pos rfl
        obtain ⟨N, n1, n2⟩ := ih (L + 1) r1 b (by omega) (fun i hi => by rw [hr1]; show (if i = L then c else r i) = 0; rw [if_neg (by omega)]; exact h0 i (by omega))
        refine ⟨N, by rw [Nat.zero_add, Nat.one_mul]; exact n1, fun n b' h => n2 n b' ?_⟩
        have ep : odP lim r1 (L + 1) = odP lim r L := by
          show (if r1 L < lim r1 L then some L else odP lim r1 L) = _
          rw [eL, hl r1 r L e0, if_neg (by omega), odP_c hl e0]
        unfold odC at h ⊢
        rw [ep]
        have ev : odF (fun c b => odV f lim d (L + 1) (fun j => if j = L then c else r j) b) 0 c b = odV f lim d (L + 1) r1 b := by rw [hr1]; rfl
        rw [ev] at h
        cases hp : odP lim r L with
        | none =>
          rw [hp] at h
          exact h
        | some p =>
          rw [hp] at h
          have := (odP_lt hp).1
          show odI f lim W n (odN r1 p) _ b'
          rw [odN_c (r := r1) (r' := r) (fun i hi => e0 i (by omega))]
          exact h
      | succ j ihj =>
        intro c r1 b hc hr1
        have e0 : ∀ i, i < L → r1 i = r i := fun i hi => by rw [hr1]; exact if_neg (by omega)
        have eL : r1 L = c := by rw [hr1]; exact if_pos rfl
        obtain ⟨N, n1, n2⟩ := ih (L + 1) r1 b (by omega) (fun i hi => by rw [hr1]; show (if i = L then c else r i) = 0; rw [if_neg (by omega)]; exact h0 i (by omega))
        have en : odN r1 L = (fun i => if i = L then c + 1 else r i) := by
          funext i
          unfold odN
          by_cases e1 : i < L
          · rw [if_pos e1, if_neg (by omega)]; exact e0 i e1
          · rw [if_neg e1]
            by_cases e2 : i = L
            · rw [if_pos e2, if_pos e2, eL]
            · rw [if_neg e2, if_neg e2]; exact (h0 i (by omega)).symm
        obtain ⟨N2, m1, m2⟩ := ihj (c + 1) (odN r1 L) (odV f lim d (L + 1) r1 b) (by omega) en
        refine ⟨N2 + N, ?_, fun n b' h => ?_⟩
        · rw [Nat.succ_mul]
          omega
        · have ep : odP lim r1 (L + 1) = some L := by
            show (if r1 L < lim r1 L then some L else odP lim r1 L) = _
            rw [eL, hl r1 r L e0, if_pos (by omega)]
          rw [← Nat.add_assoc]
          refine n2 (n + N2) b' ?_
          unfold odC
          rw [ep]
          refine m2 n b' ?_
          have ev : odV f lim d (L + 1) r1 b = odV f lim d (L + 1) (fun j => if j = L then c else r j) b := by rw [hr1]
          rw [ev]
          exact h
    obtain ⟨N, n1, n2⟩ := inner (lim r L) 0 r b (by omega) (by
      funext i
      by_cases e : i = L
      · rw [if_pos e, e]; exact h0 L (Nat.le_refl _)
      · rw [if_neg e])
    refine ⟨N, ?_, n2⟩
    have : (lim r L + 1) * (M + 1) ^ d ≤ (M + 1) * (M + 1) ^ d := Nat.mul_le_mul_right _ (by omega)
    rw [Nat.pow_succ, Nat.mul_comm ((M + 1) ^ d)]
    omega
/-- from the first row on -/
theorem od_from (hl : ∀ r r' p, (∀ j, j < p → r j = r' j) → lim r p = lim r' p) (hM : ∀ r p, p < W → lim r p ≤ M) (b : α) : ∃ N, N ≤ (M + 1) ^ W ∧ odI f lim W N (fun _ => 0) b (odV f lim W 0 (fun _ => 0) b) := by
  obtain ⟨N, h1, h2⟩ := od_all (f := f) hl hM W 0 (fun _ => 0) b (by omega) (fun _ _ => rfl)
  refine ⟨N, h1, ?_⟩
  have := h2 0 (odV f lim W 0 (fun _ => 0) b) ⟨rfl, rfl⟩
  rw [Nat.zero_add] at this
  exact this
end OD
