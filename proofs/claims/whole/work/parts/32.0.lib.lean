/-! ints as natural numbers, for simp (disch := omega) -/
theorem lit_nI (n : Nat) : (OfNat.ofNat n : Int32) = nI (OfNat.ofNat n) := rfl
theorem k_in {a n : Nat} (h : a < n) (hn : n < 2147483648) : aIn (nI a) n = true := by
  unfold aIn
  rw [nI_clamp (by omega)]
  simp only [decide_eq_true (nI_pos (show a < 2 ^ 31 by omega)), decide_eq_true h, Bool.and_self]
theorem k_cl {a : Nat} (h : a < 2147483648) : (nI a).toNatClampNeg = a := nI_clamp h
theorem k_le {a b : Nat} (ha : a < 2147483648) (hb : b < 2147483648) : (nI a ≤ nI b) = (a ≤ b) := propext (nI_leI ha hb)
theorem k_lt {a b : Nat} (ha : a < 2147483648) (hb : b < 2147483648) : (nI a < nI b) = (a < b) := propext (nI_ltI ha hb)
theorem k_eq {a b : Nat} (ha : a < 2147483648) (hb : b < 2147483648) : (nI a = nI b) = (a = b) := propext (nI_eq ha hb)
theorem k_sub {a b : Nat} (h : b ≤ a) : nI a - nI b = nI (a - b) := pk_sub h
theorem k_m1 {a : Nat} (h : 0 < a) : nI a + (-1 : Int32) = nI (a - 1) := by
  obtain ⟨b, rfl⟩ : ∃ b, a = b + 1 := ⟨a - 1, by omega⟩
  exact pk_m1 b
theorem k_ne1 {a : Nat} (h : a < 2147483648) : ¬ nI a = (-1 : Int32) := by
  intro hc
  have h1 := congrArg Int32.toInt hc
  rw [nI_toInt h] at h1
  have h2 : (-1 : Int32).toInt = -1 := by decide
  omega
theorem k_lt1 {a : Nat} (h : a < 2147483648) : ¬ nI a < (-1 : Int32) := by
  intro hc
  have h1 := Int32.lt_iff_toInt_lt.mp hc
  rw [nI_toInt h] at h1
  have h2 : (-1 : Int32).toInt = -1 := by decide
  omega
theorem k_neg {a : Nat} (h : a < 2147483648) : (nI a < 0) = False := eq_false (nI_pos h)
theorem k_nn {a : Nat} (h : a < 2147483648) : (0 ≤ nI a) = True := eq_true (nI_pos' h)
/-- what is asked of a number of the outside -/
theorem k_ix (x : Int32) (n : Nat) (hn : n < 2147483648) : x < 0 ∨ (nI n ≤ x ∧ ¬ x < 0) ∨ ∃ j : Nat, j < n ∧ x = nI j := by
  by_cases h0 : x < 0
  · exact Or.inl h0
  · rcases pk_ix x hn with h | h | h
    · exact absurd h h0
    · exact Or.inr (Or.inl ⟨h, h0⟩)
    · exact Or.inr (Or.inr h)
theorem k_of {x : Int32} (h : ¬ x < 0) : ∃ j : Nat, j < 2147483648 ∧ x = nI j := nI_of h
theorem upd_s {f : Nat → Int32} {k : Nat} {x : Int32} : upd f k x k = x := if_pos rfl
theorem upd_n {f : Nat → Int32} {k j : Nat} {x : Int32} (h : j ≠ k) : upd f k x j = f j := if_neg h
theorem updL_s {f : Nat → Int64} {k : Nat} {x : Int64} : vp_updL f k x k = x := if_pos rfl
theorem updL_n {f : Nat → Int64} {k j : Nat} {x : Int64} (h : j ≠ k) : vp_updL f k x j = f j := if_neg h
theorem up_s {α : Type} {f : Nat → α} {k : Nat} {v : α} : va_up f k v k = v := if_pos rfl
theorem up_n {α : Type} {f : Nat → α} {k j : Nat} {v : α} (h : j ≠ k) : va_up f k v j = f j := if_neg h
/-- what a call changes of the reference: fields, rows -/
def rc (is as : List Nat) (S S' : rS) : Prop := (∀ k, k ∉ is → S'.1 k = S.1 k) ∧ (∀ k, k ∉ as → S'.2.1 k = S.2.1 k)
theorem rc.rf {is as : List Nat} (S : rS) : rc is as S S := ⟨fun _ _ => rfl, fun _ _ => rfl⟩
theorem rc.tr {is as : List Nat} {S S1 S2 : rS} (h : rc is as S S1) (k : rc is as S1 S2) : rc is as S S2 := ⟨fun j hj => (k.1 j hj).trans (h.1 j hj), fun j hj => (k.2 j hj).trans (h.2 j hj)⟩
theorem rc.mo {is as is' as' : List Nat} {S S1 : rS} (h : rc is as S S1) (h1 : is ⊆ is') (h2 : as ⊆ as') : rc is' as' S S1 := ⟨fun j hj => h.1 j (fun q => hj (h1 q)), fun j hj => h.2 j (fun q => hj (h2 q))⟩
theorem rc.F {is as : List Nat} {S : rS} {k : Nat} {v : Int32} (hk : k ∈ is) : rc is as S (rF S k v) := ⟨fun j hj => upd_n (fun e => hj (e ▸ hk)), fun _ _ => rfl⟩
theorem rc.A {is as : List Nat} {S : rS} {k : Nat} {f : Nat → Int32} (hk : k ∈ as) : rc is as S (rA S k f) := ⟨fun _ _ => rfl, fun j hj => up_n (fun e => hj (e ▸ hk))⟩
/-- what a call changes of the class -/
def mc (as : List Nat) (m m' : cM) : Prop := (∀ b, b ∉ as → m'.1 b = m.1 b) ∧ m'.2.2 = m.2.2
theorem mc.rf {as : List Nat} (m : cM) : mc as m m := ⟨fun _ _ => rfl, rfl⟩
theorem mc.tr {as : List Nat} {m m1 m2 : cM} (h : mc as m m1) (k : mc as m1 m2) : mc as m m2 := ⟨fun b hb => (k.1 b hb).trans (h.1 b hb), k.2.trans h.2⟩
theorem mc.mo {as as' : List Nat} {m m1 : cM} (h : mc as m m1) (h1 : as ⊆ as') : mc as' m m1 := ⟨fun b hb => h.1 b (fun q => hb (h1 q)), h.2⟩
theorem mc.W {as : List Nat} {m : cM} {a k : Nat} {v : Int32} (hk : a ∈ as) : mc as m (cW m a k v) := ⟨fun b hb => va_else _ _ (fun e => hb (e ▸ hk)), rfl⟩
theorem mc.Y {as : List Nat} {m : cM} {s sp d dp n : Nat} (hk : d ∈ as) : mc as m (cY m s sp d dp n) := ⟨fun b hb => va_else _ _ (fun e => hb (e ▸ hk)), rfl⟩
theorem mc.L {as : List Nat} {m : cM} {a k : Nat} {v : Int64} : mc as m (cL m a k v) := ⟨fun _ _ => rfl, rfl⟩
theorem cW_s {m : cM} {a k : Nat} {v : Int32} : (cW m a k v).1 a k = v := by
  show va_up m.1 a (upd (m.1 a) k v) a k = v
  rw [up_s, upd_s]
theorem cW_k {m : cM} {a k j : Nat} {v : Int32} (h : j ≠ k) : (cW m a k v).1 a j = m.1 a j := by
  show va_up m.1 a (upd (m.1 a) k v) a j = _
  rw [up_s, upd_n h]
theorem cW_b {m : cM} {a k b : Nat} {v : Int32} (h : b ≠ a) : (cW m a k v).1 b = m.1 b := va_else _ _ h
theorem cW_2 {m : cM} {a k : Nat} {v : Int32} : (cW m a k v).2 = m.2 := rfl
theorem cL_1 {m : cM} {a k : Nat} {v : Int64} : (cL m a k v).1 = m.1 := rfl
theorem cL_2 {m : cM} {a k : Nat} {v : Int64} : (cL m a k v).2.2 = m.2.2 := rfl
theorem cL_s {m : cM} {a k : Nat} {v : Int64} : (cL m a k v).2.1 a k = v := by
  show va_up m.2.1 a (vp_updL (m.2.1 a) k v) a k = v
  rw [up_s, updL_s]
theorem cL_k {m : cM} {a k j : Nat} {v : Int64} (h : j ≠ k) : (cL m a k v).2.1 a j = m.2.1 a j := by
  show va_up m.2.1 a (vp_updL (m.2.1 a) k v) a j = _
  rw [up_s, updL_n h]
theorem cL_b {m : cM} {a k b : Nat} {v : Int64} (h : b ≠ a) : (cL m a k v).2.1 b = m.2.1 b := va_else _ _ h
theorem cP_1 {m : cM} {a v : Nat} : (cP m a v).1 = m.1 := rfl
/-- a row that is summed -/
def sm (f : Nat → Int32) : Nat → Int32
  | 0 => 0
  | n + 1 => sm f n + f n
/-- the same of natural numbers -/
def sN (f : Nat → Nat) : Nat → Nat
  | 0 => 0
  | n + 1 => sN f n + f n
theorem sm_N {f : Nat → Int32} {h : Nat → Nat} {n : Nat} (e : ∀ j, j < n → f j = nI (h j)) : sm f n = nI (sN h n) := by
  induction n with
  | zero => rfl
  | succ n ih =>
    show sm f n + f n = nI (sN h n + h n)
    rw [ih (fun j hj => e j (by omega)), e n (by omega), nI_add]
theorem sm_c {f h : Nat → Int32} {n : Nat} (e : ∀ j, j < n → f j = h j) : sm f n = sm h n := by
  induction n with
  | zero => rfl
  | succ n ih =>
    show sm f n + f n = sm h n + h n
    rw [ih (fun j hj => e j (by omega)), e n (by omega)]
theorem sN_c {f h : Nat → Nat} {n : Nat} (e : ∀ j, j < n → f j = h j) : sN f n = sN h n := by
  induction n with
  | zero => rfl
  | succ n ih =>
    show sN f n + f n = sN h n + h n
    rw [ih (fun j hj => e j (by omega)), e n (by omega)]
theorem sN_le {f : Nat → Nat} {n j : Nat} (h : j < n) : f j ≤ sN f n := by
  induction n with
  | zero => omega
  | succ n ih =>
    show f j ≤ sN f n + f n
    by_cases e : j = n
    · subst e; omega
    · have := ih (by omega); omega
theorem sm_0 {f : Nat → Int32} {n k : Nat} (hk : n ≤ k) (e : ∀ j, n ≤ j → j < k → f j = 0) : sm f k = sm f n := by
  induction k with
  | zero => rw [show n = 0 by omega]
  | succ k ih =>
    by_cases hn : n = k + 1
    · rw [hn]
    · show sm f k + f k = sm f n
      rw [ih (by omega) (fun j h1 h2 => e j h1 (by omega)), e k (by omega) (by omega)]
      simp
