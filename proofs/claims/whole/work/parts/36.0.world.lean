/-! THE WORLD: the reference's row w of 181 numbers; what is sure of it, and how the class has it -/
def bd (x : Int32) (n : Nat) : Prop := ∃ a, a ≤ n ∧ x = nI a
theorem bd.mo {x : Int32} {n k : Nat} (h : bd x n) (hk : n ≤ k) : bd x k := by
  obtain ⟨a, h1, h2⟩ := h
  exact ⟨a, by omega, h2⟩
/-- the shop's part: things, wants, codes, sales -/
def shV (w : Nat → Int32) (T W C Sa : Nat) : Prop :=
  (w 1 = nI T ∧ T ≤ 8) ∧ (w 2 = nI W ∧ W ≤ 6) ∧ (w 3 = nI C ∧ C ≤ 5) ∧ (w 10 = nI Sa ∧ Sa ≤ 4)
  ∧ (w 0 = nI 1 ∨ (w 0 = nI 0 ∧ T = 0)) ∧ bd (w 4) 999 ∧ bd (w 5) 9999 ∧ (w 6 = nI 0 ∨ w 6 = nI 1)
  ∧ (∀ t, t < T → (∃ p, 1 ≤ p ∧ p ≤ 5000 ∧ w (80 + 2 * t) = nI p) ∧ bd (w (81 + 2 * t)) 5000)
  ∧ (∀ i, i < W → (∃ t, t < T ∧ w (96 + 2 * i) = nI t) ∧ bd (w (97 + 2 * i)) 30)
  ∧ (∀ s, s < Sa → bd (w (110 + 3 * s)) 90)
  ∧ (∀ c, c < C → (∃ kd u, kd ≤ 2 ∧ w (120 + 4 * c) = nI kd ∧ w (121 + 4 * c) = nI u ∧ u ≤ 2000 ∧ (kd = 0 → u ≤ 90)) ∧ bd (w (122 + 4 * c)) 9999 ∧ bd (w (123 + 4 * c)) 31)
/-- how many are in the basket -/
def bs17 (w : Nat → Int32) (T : Nat) : Nat := sN (fun t => (w (17 + 5 * t)).toNatClampNeg) T
/-- the part that acts change -/
def stV (w : Nat → Int32) (T C k : Nat) : Prop :=
  (∃ D, D ≤ k ∧ w 7 = nI D)
  ∧ (∃ L, L ≤ C ∧ w 9 = nI L ∧ (∀ i, i < L → ∃ c, c < C ∧ w (64 + i) = nI c) ∧ (∀ i j, i < j → j < L → w (64 + i) ≠ w (64 + j)))
  ∧ (∃ L, L ≤ C ∧ w 79 = nI L ∧ ∀ i, i < L → ∃ c, c < C ∧ w (74 + i) = nI c)
  ∧ (∀ t, t < T → ∃ s b, s ≤ 9 ∧ b ≤ s ∧ w (16 + 5 * t) = nI s ∧ w (17 + 5 * t) = nI b)
  ∧ (∀ t, t < T → bd (w (19 + 5 * t)) 99 ∧ bd (w (20 + 5 * t)) 9 ∧ bd (w (56 + t)) 9999)
  ∧ ((w 6 = nI 1 → bd (w 11) 1000000) ∧ bs17 w T ≤ 12)
def tdV (w : Nat → Int32) (T : Nat) : Prop := ∃ N, N ≤ 10 ∧ w 180 = nI N ∧ ∀ i, i < N → (∃ t, t < T ∧ w (140 + 4 * i) = nI t) ∧ bd (w (141 + 4 * i)) 99 ∧ bd (w (142 + 4 * i)) 99
/-- a shop of the class at p -/
def shR (M : Nat → Nat → Int32) (p : Nat) (w : Nat → Int32) (T W C Sa : Nat) : Prop :=
  (M p 0 = w 0 ∧ M p 1 = w 4 ∧ M p 2 = w 5 ∧ M p 3 = w 6 ∧ M p 4 = w 1 ∧ M p 8 = w 2 ∧ M p 11 = w 10 ∧ M p 15 = w 3)
  ∧ (∀ t, t < T → M (p + 1) t = w (80 + 2 * t) ∧ M (p + 2) t = w (81 + 2 * t))
  ∧ (∀ i, i < W → M (p + 4) i = w (96 + 2 * i) ∧ M (p + 5) i = w (97 + 2 * i))
  ∧ (∀ s, s < Sa → M (p + 6) s = w (108 + 3 * s) ∧ M (p + 7) s = w (109 + 3 * s) ∧ M (p + 8) s = w (110 + 3 * s))
  ∧ (∀ c, c < C → M (p + 9) c = w (120 + 4 * c) + nI 10 ∧ M (p + 10) c = w (121 + 4 * c) ∧ M (p + 11) c = w (122 + 4 * c) ∧ M (p + 12) c = w (123 + 4 * c))
def fo5 (f : Nat) : Nat := if f = 0 then 2 else if f = 1 then 1 else f + 1
/-- a state of the class at a -/
def stR (M : Nat → Nat → Int32) (a : Nat) (w : Nat → Int32) (T : Nat) : Prop :=
  (M a 8 = w 9 ∧ M a 9 = w 79 ∧ M a 11 = w 8 ∧ M a 12 = w 11 ∧ M a 13 = w 7)
  ∧ (∀ t, t < T → ∀ f, f < 5 → M (a + fo5 f) t = w (16 + 5 * t + f))
  ∧ (∀ t, t < T → M (a + 6) t = w (56 + t))
  ∧ (∀ t, T ≤ t → t < 8 → M (a + 1) t = 0 ∧ M (a + 5) t = 0)
  ∧ (∀ i, i < nN (w 9) → M (a + 7) i = w (64 + i))
  ∧ (∀ i, i < nN (w 79) → M (a + 8) i = w (74 + i))
  ∧ (∃ U, U < 32 ∧ M a 10 = nI U ∧ ∀ c, c < 5 → w (69 + c) = nI (U / 2 ^ c % 2))
def spO (p : Nat) : Prop := p = 6 ∨ p = 275 ∨ p = 302 ∨ p = 329 ∨ p = 356 ∨ (406 ≤ p ∧ (p - 406) % 13 = 0)
/-- a world of the class at a -/
def wR (m : cM) (a : Nat) (w : Nat → Int32) (fo x : Int32) (T W C Sa : Nat) : Prop :=
  shR m.1 (m.2.2.1 a) w T W C Sa ∧ stR m.1 (a + 14) w T ∧ (m.1 a 2 = fo ∧ m.1 a 3 = x ∧ m.1 a 8 = w 180)
  ∧ (∀ i, i < nN (w 180) → m.1 (a + 23) i = w (140 + 4 * i) ∧ m.1 (a + 24) i = w (141 + 4 * i) ∧ m.1 (a + 25) i = w (142 + 4 * i) ∧ m.1 (a + 26) i = w (143 + 4 * i))
  ∧ cO m (m.2.2.1 a) 5 = true ∧ spO (m.2.2.1 a)
/-- what is sure of a world -/
def wV (w : Nat → Int32) (fo x : Int32) (T W C Sa R k : Nat) : Prop := shV w T W C Sa ∧ stV w T C k ∧ tdV w T ∧ (∃ q, q ≤ R ∧ fo = rI q) ∧ ¬ x < 0
theorem shR.congr {M M' : Nat → Nat → Int32} {p : Nat} {w : Nat → Int32} {T W C Sa : Nat} (h : shR M p w T W C Sa) (e : ∀ i, i ≤ 12 → M' (p + i) = M (p + i)) : shR M' p w T W C Sa := by
  have e0 : M' p = M p := e 0 (by omega)
  unfold shR at h ⊢
  rw [e0, e 1 (by omega), e 2 (by omega), e 4 (by omega), e 5 (by omega), e 6 (by omega), e 7 (by omega), e 8 (by omega), e 9 (by omega), e 10 (by omega), e 11 (by omega), e 12 (by omega)]
  exact h
theorem fo5_b {f : Nat} (h : f < 5) : 1 ≤ fo5 f ∧ fo5 f ≤ 5 := by
  unfold fo5
  split
  · omega
  · split
    · omega
    · omega
theorem fo5_i {f f' : Nat} (h : f < 5) (h' : f' < 5) (e : fo5 f = fo5 f') : f = f' := by
  unfold fo5 at e
  repeat' split at e
  all_goals omega
theorem stR.congr {M M' : Nat → Nat → Int32} {a : Nat} {w : Nat → Int32} {T : Nat} (h : stR M a w T) (e : ∀ i, i ≤ 8 → M' (a + i) = M (a + i)) : stR M' a w T := by
  have e0 : M' a = M a := e 0 (by omega)
  unfold stR at h ⊢
  rw [e0, e 6 (by omega), e 1 (by omega), e 5 (by omega), e 7 (by omega), e 8 (by omega)]
  refine ⟨h.1, fun t ht f hf => ?_, h.2.2⟩
  have := fo5_b hf
  rw [e _ (by omega)]
  exact h.2.1 t ht f hf
/-- only what is asked of part III has been written -/
def ms (m m' : cM) : Prop := (∀ b, b ≠ 32 → ¬ (71 ≤ b ∧ b ≤ 89) → m'.1 b = m.1 b) ∧ (∀ k, k ≠ 4 → m'.1 32 k = m.1 32 k) ∧ m'.2.2 = m.2.2
theorem ms.rf (m : cM) : ms m m := ⟨fun _ _ _ => rfl, fun _ _ => rfl, rfl⟩
theorem ms.tr {m m1 m2 : cM} (h : ms m m1) (k : ms m1 m2) : ms m m2 := ⟨fun b h1 h2 => (k.1 b h1 h2).trans (h.1 b h1 h2), fun j hj => (k.2.1 j hj).trans (h.2.1 j hj), k.2.2.trans h.2.2⟩
theorem ms.of {m m' : cM} (h1 : m'.1 = m.1) (h2 : m'.2.2 = m.2.2) : ms m m' := ⟨fun b _ _ => by rw [h1], fun k _ => by rw [h1], h2⟩
theorem ms.W {m : cM} {a k : Nat} {v : Int32} (h : 71 ≤ a ∧ a ≤ 89) : ms m (cW m a k v) := ⟨fun b _ h2 => cW_b (fun e => h2 (e ▸ h)), fun j _ => by rw [cW_b (show 32 ≠ a by omega)], rfl⟩
theorem ms.C {m : cM} {v : Int32} : ms m (cW m 32 4 v) := ⟨fun b h1 _ => cW_b h1, fun j hj => cW_k hj, rfl⟩
theorem ms.Y {m : cM} {s sp d dp n : Nat} (h : 71 ≤ d ∧ d ≤ 89) : ms m (cY m s sp d dp n) := ⟨fun b _ h2 => va_else _ _ (fun e => h2 (e ▸ h)), fun j _ => by rw [show (cY m s sp d dp n).1 32 = m.1 32 from va_else _ _ (show 32 ≠ d by omega)], rfl⟩
theorem spO.ne {p i b : Nat} (h : spO p) (hi : i ≤ 12) (hb : (19 ≤ b ∧ b ≤ 274) ∨ b ≤ 5) : p + i ≠ b := by
  unfold spO at h
  omega
theorem wR.congr {m m' : cM} {a : Nat} {w : Nat → Int32} {fo x : Int32} {T W C Sa : Nat} (h : wR m a w fo x T W C Sa) (e1 : ∀ i, i ≤ 12 → m'.1 (m.2.2.1 a + i) = m.1 (m.2.2.1 a + i)) (e2 : m'.1 a = m.1 a) (e3 : ∀ i, 14 ≤ i → i ≤ 26 → m'.1 (a + i) = m.1 (a + i)) (e4 : m'.2.2.1 a = m.2.2.1 a) (e5 : m.2.2.2 ≤ m'.2.2.2) : wR m' a w fo x T W C Sa := by
  obtain ⟨h1, h2, h3, h4, h5, h6⟩ := h
  unfold wR
  rw [e4, e2]
  refine ⟨h1.congr e1, h2.congr (fun i hi => ?_), h3, fun i hi => ?_, ?_, h6⟩
  · rw [Nat.add_assoc]
    exact e3 _ (by omega) (by omega)
  · rw [e3 23 (by omega) (by omega), e3 24 (by omega) (by omega), e3 25 (by omega) (by omega), e3 26 (by omega) (by omega)]
    exact h4 i hi
  · unfold cO at h5 ⊢
    rw [Bool.and_eq_true] at h5 ⊢
    exact ⟨decide_eq_true (by have := of_decide_eq_true h5.1; omega), h5.2⟩
theorem wR.ms {m m' : cM} {a : Nat} {w : Nat → Int32} {fo x : Int32} {T W C Sa : Nat} (h : wR m a w fo x T W C Sa) (k : ms m m') (ha : a = 5 ∨ 274 ≤ a) : wR m' a w fo x T W C Sa := by
  have hp := h.2.2.2.2.2
  unfold spO at hp
  exact h.congr (fun i hi => k.1 _ (by omega) (by omega)) (k.1 _ (by omega) (by omega)) (fun i h1 h2 => k.1 _ (by omega) (by omega)) (by rw [k.2.2]) (by rw [k.2.2]; exact Nat.le_refl _)
