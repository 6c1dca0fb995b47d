/-! THE INVARIANT -/
def tpI (m : cM) (S : rS) : Prop := ∃ n, n ≤ 400 ∧ S.1 1 = nI n ∧ m.1 1 1 = nI n ∧ ∀ i, i < n → m.1 2 i = S.2.1 0 i ∧ -128 ≤ (S.2.1 0 i).toInt ∧ (S.2.1 0 i).toInt ≤ 127
/-- the row of 80 numbers ahead of the i-th act -/
def pg (S : rS) (i : Nat) : Nat → Int32 := fun j => S.2.1 26 (80 * i + j)
def paI (m : cM) (S : rS) (w : Nat → Int32) (T C k : Nat) : Prop := ∃ nx kp, nx < 20 ∧ kp ≤ 20 ∧ m.1 90 1 = nI nx ∧ m.1 90 2 = nI kp ∧ S.1 27 = nI kp ∧ ∀ i, i < kp → stR m.1 (92 + 9 * ((nx + 20 - kp + i) % 20)) (pg S i) T ∧ stV (pg S i) T C k ∧ (∀ j, j ≤ 6 ∨ j = 10 → pg S i j = w j)
def ig (S : rS) (i : Nat) : Nat → Int32 := fun j => S.2.1 43 (181 * i + j)
def imI (m : cM) (S : rS) (R k : Nat) : Prop := ∀ i, i < 4 → m.1 273 i = S.2.1 46 i ∧ (S.2.1 46 i = nI 0 ∨ (S.2.1 46 i = nI 1 ∧ ∃ q T W C Sa, wR m (274 + 27 * i) (ig S i) (rI q) (S.2.1 45 i) T W C Sa ∧ S.2.1 44 i = rI q ∧ shV (ig S i) T W C Sa ∧ stV (ig S i) T C k ∧ tdV (ig S i) T ∧ q ≤ R ∧ ¬ S.2.1 45 i < 0))
abbrev bS3 (S : rS) : rB := (S.2.1 3, S.2.1 5, S.2.1 6)
def Inv (k : Nat) (m : cM) (S : rS) : Prop := m.2.2.2 ≤ k ∧ tpI m S ∧ ∃ w q x T W C Sa R, cx m (bS3 S) w q x T W C Sa R k ∧ rx S (bS3 S) w q x R ∧ paI m S w T C k ∧ imI m S R k
theorem stV.mo {w : Nat → Int32} {T C k k' : Nat} (h : stV w T C k) (hk : k ≤ k') : stV w T C k' := by
  obtain ⟨⟨D, h1, h2⟩, h3⟩ := h
  exact ⟨⟨D, by omega, h2⟩, h3⟩
theorem cx.mo {m : cM} {B : rB} {w : Nat → Int32} {q T W C Sa R k k' : Nat} {x : Int32} (h : cx m B w q x T W C Sa R k) (hk : k ≤ k') : cx m B w q x T W C Sa R k' := by
  obtain ⟨h1, h2, h3, h4⟩ := h
  exact ⟨h1, h2, h3.mo hk, h4⟩
theorem paI.congr {m m' : cM} {S S' : rS} {w w' : Nat → Int32} {T C k k' : Nat} (h : paI m S w T C k) (hk : k ≤ k') (e : ∀ b, 90 ≤ b → b ≤ 271 → m'.1 b = m.1 b) (e1 : S'.1 27 = S.1 27) (e2 : S'.2.1 26 = S.2.1 26) (e3 : ∀ j, j ≤ 6 ∨ j = 10 → w' j = w j) : paI m' S' w' T C k' := by
  obtain ⟨nx, kp, h1, h2, h3, h4, h5, h6⟩ := h
  have epg : ∀ i, pg S' i = pg S i := fun i => by unfold pg; rw [e2]
  refine ⟨nx, kp, h1, h2, by rw [e 90 (by omega) (by omega)]; exact h3, by rw [e 90 (by omega) (by omega)]; exact h4, e1.trans h5, fun i hi => ?_⟩
  obtain ⟨y1, y2, y3⟩ := h6 i hi
  rw [epg]
  have hm : (nx + 20 - kp + i) % 20 < 20 := Nat.mod_lt _ (by decide)
  exact ⟨y1.congr (fun j hj => e _ (by omega) (by omega)), y2.mo hk, fun j hj => (y3 j hj).trans (e3 j hj).symm⟩
theorem imI.congr {m m' : cM} {S S' : rS} {R R' k k' : Nat} (h : imI m S R k) (hR : R ≤ R') (hk : k ≤ k') (e : ∀ b, (273 ≤ b ∧ b ≤ 381) ∨ (6 ≤ b ∧ b ≤ 18) ∨ 406 ≤ b → (b < 406 + 13 * m.2.2.2) → m'.1 b = m.1 b) (e0 : ∀ b, 274 ≤ b → m'.2.2.1 b = m.2.2.1 b) (e3 : m.2.2.2 ≤ m'.2.2.2) (e1 : S'.2.1 43 = S.2.1 43) (e4 : S'.2.1 44 = S.2.1 44) (e5 : S'.2.1 45 = S.2.1 45) (e6 : S'.2.1 46 = S.2.1 46) : imI m' S' R' k' := by
  intro i hi
  obtain ⟨h1, h2⟩ := h i hi
  have eig : ig S' i = ig S i := by unfold ig; rw [e1]
  rw [e6, e5, e4, eig]
  refine ⟨by rw [e 273 (by omega) (by omega)]; exact h1, ?_⟩
  rcases h2 with h2 | ⟨h2, q, T, W, C, Sa, y1, y2, y3, y4, y5, y6, y7⟩
  · exact Or.inl h2
  · refine Or.inr ⟨h2, q, T, W, C, Sa, ?_, y2, y3, y4.mo hk, y5, by omega, y7⟩
    have hp := y1.2.2.2.2.2
    have hl := (cO_iff y1.2.2.2.2.1)
    unfold spO at hp
    refine y1.congr (fun j hj => ?_) (e _ (by omega) (by omega)) (fun j h1 h2 => e _ (by omega) (by omega)) (e0 _ (by omega)) e3
    exact e _ (by omega) (by omega)
theorem Inv.scr {k : Nat} {m m' : cM} {S S' : rS} (h : Inv k m S) (h1 : ms m m') (h2 : rs S S') : Inv (k + 1) m' S' := by
  obtain ⟨a1, ⟨n, t1, t2, t3, t4⟩, w, q, x, T, W, C, Sa, R, c1, c2, c3, c4⟩ := h
  have eB : bS3 S' = bS3 S := by
    unfold bS3
    rw [h2.2 3 (by decide), h2.2 5 (by decide), h2.2 6 (by decide)]
  refine ⟨by rw [h1.2.2]; omega, ⟨n, t1, by rw [h2.1 1 (by decide)]; exact t2, by rw [h1.1 1 (by omega) (by omega)]; exact t3, by rw [h1.1 2 (by omega) (by omega), h2.2 0 (by decide)]; exact t4⟩, w, q, x, T, W, C, Sa, R, ?_, ?_, ?_, ?_⟩
  · rw [eB]; exact (c1.ms h1).mo (by omega)
  · rw [eB]; exact c2.rs h2
  · exact c3.congr (by omega) (fun b h3 h4 => h1.1 b (by omega) (by omega)) (h2.1 27 (by decide)) (h2.2 26 (by decide)) (fun _ _ => rfl)
  · exact c4.congr (Nat.le_refl _) (by omega) (fun b h3 _ => h1.1 b (by omega) (by omega)) (fun b _ => by rw [h1.2.2]) (by rw [h1.2.2]; exact Nat.le_refl _) (h2.2 43 (by decide)) (h2.2 44 (by decide)) (h2.2 45 (by decide)) (h2.2 46 (by decide))
theorem q_140 {g : Nat} {S : rS} {x a b : Int32} {a' b' : Int64} (ha : a' = a.toInt64) (hb : b' = b.toInt64) : d_140 g x.toInt64 a' b' S = some (if a ≤ x ∧ x ≤ b then 1 else 0, S) := by
  subst ha; subst hb
  unfold d_140
  simp only [lg_cmp_lt, lg_cmp_gt]
  have e1 : x.toInt64 < a.toInt64 ↔ x < a := by rw [Int64.lt_iff_toInt_lt, Int32.lt_iff_toInt_lt, Int32.toInt_toInt64, Int32.toInt_toInt64]
  have e2 : b.toInt64 < x.toInt64 ↔ b < x := by rw [Int64.lt_iff_toInt_lt, Int32.lt_iff_toInt_lt, Int32.toInt_toInt64, Int32.toInt_toInt64]
  by_cases h1 : x < a
  · rw [if_pos (e1.mpr h1), if_neg (fun q => absurd h1 (Int32.not_lt.mpr q.1))]
  · rw [if_neg (fun q => h1 (e1.mp q))]
    by_cases h2 : b < x
    · rw [if_pos (e2.mpr h2), if_neg (fun q => absurd h2 (Int32.not_lt.mpr q.2))]
    · rw [if_neg (fun q => h2 (e2.mp q)), if_pos ⟨Int32.not_lt.mp h1, Int32.not_lt.mp h2⟩]
theorem rng {x : Int32} {a b : Nat} (ha : a < 2147483648) (hb : b < 2147483648) (h : nI a ≤ x ∧ x ≤ nI b) : ∃ j, a ≤ j ∧ j ≤ b ∧ x = nI j := by
  have h0 : ¬ x < 0 := Int32.not_lt.mpr (Int32.le_trans (nI_pos' ha) h.1)
  obtain ⟨j, h1, rfl⟩ := nI_of h0
  exact ⟨j, (nI_leI ha h1).mp h.1, (nI_leI h1 hb).mp h.2, rfl⟩
section HT
variable {g : Nat} {m : cM} {S : rS}
theorem has_th {p T : Nat} (hO : cO m p 5 = true) (h4 : m.1 p 4 = nI T) (hS : S.2.1 20 1 = nI T) (hT : T ≤ 8) (x : Int32) : (d_55 g p x m = some 0 ∧ d_188 g x S = some (0, S)) ∨ ∃ t, t < T ∧ x = nI t ∧ d_55 g p x m = some 1 ∧ d_188 g x S = some (1, S) := by
  unfold d_55 d_188
  have e : S.2.1 20 (1 : Int32).toNatClampNeg = nI T := hS
  have e1 : aIn (1 : Int32) 181 = true := by decide
  rcases k_ix x T (by omega) with h | ⟨h, h0⟩ | ⟨t, h, rfl⟩
  · rw [if_pos h, if_pos h]
    exact Or.inl ⟨rfl, rfl⟩
  · rw [if_neg h0, if_neg h0, if_pos hO, h4, if_pos h, if_pos e1, e, if_pos h]
    exact Or.inl ⟨rfl, rfl⟩
  · refine Or.inr ⟨t, h, rfl, ?_, ?_⟩
    · rw [if_neg (nI_pos (by omega)), if_pos hO, h4, if_neg (nI_ge h (by omega))]
    · rw [if_neg (nI_pos (by omega)), if_pos e1, e, if_neg (nI_ge h (by omega))]
theorem has_co {p C : Nat} (hO : cO m p 5 = true) (h4 : m.1 p 15 = nI C) (hS : S.2.1 20 3 = nI C) (hC : C ≤ 5) (x : Int32) : (d_56 g p x m = some 0 ∧ d_190 g x S = some (0, S) ∧ (x < 0 ∨ nI C ≤ x)) ∨ ∃ t, t < C ∧ x = nI t ∧ d_56 g p x m = some 1 ∧ d_190 g x S = some (1, S) := by
  unfold d_56 d_190
  have e : S.2.1 20 (3 : Int32).toNatClampNeg = nI C := hS
  have e1 : aIn (3 : Int32) 181 = true := by decide
  rcases k_ix x C (by omega) with h | ⟨h, h0⟩ | ⟨t, h, rfl⟩
  · rw [if_pos h, if_pos h]
    exact Or.inl ⟨rfl, rfl, Or.inl h⟩
  · rw [if_neg h0, if_neg h0, if_pos hO, h4, if_pos h, if_pos e1, e, if_pos h]
    exact Or.inl ⟨rfl, rfl, Or.inr h⟩
  · refine Or.inr ⟨t, h, rfl, ?_, ?_⟩
    · rw [if_neg (nI_pos (by omega)), if_pos hO, h4, if_neg (nI_ge h (by omega))]
    · rw [if_neg (nI_pos (by omega)), if_pos e1, e, if_neg (nI_ge h (by omega))]
end HT
