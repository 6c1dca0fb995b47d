/-! THE CLASS AS A PICTURE: ints by address and place, longs by address and place, the three kinds of refs that change, how many shops were told -/
abbrev cM : Type := (Nat → Nat → Int32) × (Nat → Nat → Int64) × (Nat → Nat) × Nat
def kdT : List (Nat × Nat) := [(111, 0), (108, 0), (1, 400), (106, 0), (104, 0), (110, 0), (105, 0), (0, 8), (0, 8), (0, 8), (0, 6), (0, 6), (0, 4), (0, 4), (0, 4), (0, 5), (0, 5), (0, 5), (0, 5), (107, 0), (0, 8), (0, 8), (0, 8), (0, 8), (0, 8), (0, 8), (0, 5), (0, 5), (0, 10), (0, 10), (0, 10), (0, 10), (109, 0), (6, 6), (3, 8), (103, 0), (0, 400), (0, 12), (0, 12), (0, 12), (3, 62), (103, 0), (0, 400), (0, 12), (0, 12), (0, 12), (3, 62), (103, 0), (0, 400), (0, 12), (0, 12), (0, 12), (3, 62), (103, 0), (0, 400), (0, 12), (0, 12), (0, 12), (3, 62), (103, 0), (0, 400), (0, 12), (0, 12), (0, 12), (3, 62), (103, 0), (0, 400), (0, 12), (0, 12), (0, 12), (3, 62), (102, 0), (100, 0), (0, 8), (0, 8), (0, 8), (0, 6), (0, 30), (0, 8), (0, 7), (0, 7), (107, 0), (0, 8), (0, 8), (0, 8), (0, 8), (0, 8), (0, 8), (0, 5), (0, 5), (101, 0), (4, 20), (107, 0), (0, 8), (0, 8), (0, 8), (0, 8), (0, 8), (0, 8), (0, 5), (0, 5), (107, 0), (0, 8), (0, 8), (0, 8), (0, 8), (0, 8), (0, 8), (0, 5), (0, 5), (107, 0), (0, 8), (0, 8), (0, 8), (0, 8), (0, 8), (0, 8), (0, 5), (0, 5), (107, 0), (0, 8), (0, 8), (0, 8), (0, 8), (0, 8), (0, 8), (0, 5), (0, 5), (107, 0), (0, 8), (0, 8), (0, 8), (0, 8), (0, 8), (0, 8), (0, 5), (0, 5), (107, 0), (0, 8), (0, 8), (0, 8), (0, 8), (0, 8), (0, 8), (0, 5), (0, 5), (107, 0), (0, 8), (0, 8), (0, 8), (0, 8), (0, 8), (0, 8), (0, 5), (0, 5), (107, 0), (0, 8), (0, 8), (0, 8), (0, 8), (0, 8), (0, 8), (0, 5), (0, 5), (107, 0), (0, 8), (0, 8), (0, 8), (0, 8), (0, 8), (0, 8), (0, 5), (0, 5), (107, 0), (0, 8), (0, 8), (0, 8), (0, 8), (0, 8), (0, 8), (0, 5), (0, 5), (107, 0), (0, 8), (0, 8), (0, 8), (0, 8), (0, 8), (0, 8), (0, 5), (0, 5), (107, 0), (0, 8), (0, 8), (0, 8), (0, 8), (0, 8), (0, 8), (0, 5), (0, 5), (107, 0), (0, 8), (0, 8), (0, 8), (0, 8), (0, 8), (0, 8), (0, 5), (0, 5), (107, 0), (0, 8), (0, 8), (0, 8), (0, 8), (0, 8), (0, 8), (0, 5), (0, 5), (107, 0), (0, 8), (0, 8), (0, 8), (0, 8), (0, 8), (0, 8), (0, 5), (0, 5), (107, 0), (0, 8), (0, 8), (0, 8), (0, 8), (0, 8), (0, 8), (0, 5), (0, 5), (107, 0), (0, 8), (0, 8), (0, 8), (0, 8), (0, 8), (0, 8), (0, 5), (0, 5), (107, 0), (0, 8), (0, 8), (0, 8), (0, 8), (0, 8), (0, 8), (0, 5), (0, 5), (107, 0), (0, 8), (0, 8), (0, 8), (0, 8), (0, 8), (0, 8), (0, 5), (0, 5), (107, 0), (0, 8), (0, 8), (0, 8), (0, 8), (0, 8), (0, 8), (0, 5), (0, 5), (5, 4), (2, 4), (110, 0), (105, 0), (0, 8), (0, 8), (0, 8), (0, 6), (0, 6), (0, 4), (0, 4), (0, 4), (0, 5), (0, 5), (0, 5), (0, 5), (107, 0), (0, 8), (0, 8), (0, 8), (0, 8), (0, 8), (0, 8), (0, 5), (0, 5), (0, 10), (0, 10), (0, 10), (0, 10), (110, 0), (105, 0), (0, 8), (0, 8), (0, 8), (0, 6), (0, 6), (0, 4), (0, 4), (0, 4), (0, 5), (0, 5), (0, 5), (0, 5), (107, 0), (0, 8), (0, 8), (0, 8), (0, 8), (0, 8), (0, 8), (0, 5), (0, 5), (0, 10), (0, 10), (0, 10), (0, 10), (110, 0), (105, 0), (0, 8), (0, 8), (0, 8), (0, 6), (0, 6), (0, 4), (0, 4), (0, 4), (0, 5), (0, 5), (0, 5), (0, 5), (107, 0), (0, 8), (0, 8), (0, 8), (0, 8), (0, 8), (0, 8), (0, 5), (0, 5), (0, 10), (0, 10), (0, 10), (0, 10), (110, 0), (105, 0), (0, 8), (0, 8), (0, 8), (0, 6), (0, 6), (0, 4), (0, 4), (0, 4), (0, 5), (0, 5), (0, 5), (0, 5), (107, 0), (0, 8), (0, 8), (0, 8), (0, 8), (0, 8), (0, 8), (0, 5), (0, 5), (0, 10), (0, 10), (0, 10), (0, 10)]
def kdS : List (Nat × Nat) := [(105, 0), (0, 8), (0, 8), (0, 8), (0, 6), (0, 6), (0, 4), (0, 4), (0, 4), (0, 5), (0, 5), (0, 5), (0, 5)]
def kd (a : Nat) : Nat × Nat := if a < 382 then kdT.getD a (99, 0) else if a < 406 then (99, 0) else kdS.getD ((a - 406) % 13) (99, 0)
def cRf (n : Nat) : Value := if n = 0 then .null else .ref n
def cFl (f : Nat → Int32) (r a : Nat) : Nat → List Value := fun ci => match ci with
  | 0 => [.int (f 0), .int (f 1), .int (f 2), .ref 73]
  | 1 => [.ref 91, .int (f 1), .int (f 2)]
  | 2 => [.ref 5, .ref 32, .ref 72, .ref 74, .ref 75, .ref 76, .ref 77, .ref 78, .ref 79, .ref 80, .ref 81, .int (f 11), .int (f 12), .int (f 13), .int (f 14), .int (f 15), .int (f 16), .int (f 17), .int (f 18), .int (f 19)]
  | 3 => [.ref (a + 1), .ref (a + 2), .ref (a + 3), .ref (a + 4), .ref (a + 5), .int (f 5), .int (f 6)]
  | 4 => [.ref 1, cRf r, .int (f 2)]
  | 5 => [.int (f 0), .int (f 1), .int (f 2), .int (f 3), .int (f 4), .ref (a + 1), .ref (a + 2), .ref (a + 3), .int (f 8), .ref (a + 4), .ref (a + 5), .int (f 11), .ref (a + 6), .ref (a + 7), .ref (a + 8), .int (f 15), .ref (a + 9), .ref (a + 10), .ref (a + 11), .ref (a + 12)]
  | 6 => [.ref 1, cRf r, .int (f 2)]
  | 7 => [.ref (a + 1), .ref (a + 2), .ref (a + 3), .ref (a + 4), .ref (a + 5), .ref (a + 6), .ref (a + 7), .ref (a + 8), .int (f 8), .int (f 9), .int (f 10), .int (f 11), .int (f 12), .int (f 13)]
  | 8 => [.ref 2, .int (f 1), .int (f 2), .int (f 3), .int (f 4), .int (f 5), .int (f 6)]
  | 9 => [.ref 5, .ref 33, .int (f 2), .ref 34, .int (f 4)]
  | 10 => [cRf r, .ref (a + 14), .int (f 2), .int (f 3), .ref (a + 23), .ref (a + 24), .ref (a + 25), .ref (a + 26), .int (f 8)]
  | 11 => [.ref 1, .ref 3, .ref 4, .ref 5, .ref 32, .ref 71, .ref 90, .ref 272, .ref 273]
  | _ => []
def cQ (a : Nat) : Nat → Option Nat := fun i => if a = 33 then (if i < 6 then some (35 + 6 * i) else none) else if a = 91 then (if i < 20 then some (92 + 9 * i) else none) else (if i < 4 then some (274 + 27 * i) else none)
def cK (m : cM) (a : Nat) (q : Nat × Nat) : aC := if 100 ≤ q.1 then .inr (q.1 - 100, cFl (m.1 a) (m.2.2.1 a) a (q.1 - 100)) else if q.1 ≤ 2 then .inl (q.1, q.2, .inl (m.1 a)) else if q.1 = 3 then .inl (3, q.2, .inr (.inl (m.2.1 a))) else .inl (q.1, q.2, .inr (.inr (.inr (.inr (cQ a)))))
def cC (m : cM) (S : rS) (a : Nat) : aC := if 382 ≤ a ∧ a < 406 then rCe S (a - 382) else cK m a (kd a)
def hr (m : cM) (S : rS) : aH := (List.range (406 + 13 * m.2.2.2)).map (cC m S)
theorem hr_len (m : cM) (S : rS) : (hr m S).length = 406 + 13 * m.2.2.2 := by
  unfold hr
  rw [List.length_map, List.length_range]
theorem hr_at {m : cM} {S : rS} {a : Nat} (ha : a < 406 + 13 * m.2.2.2) : (hr m S)[a]? = some (cC m S a) := by
  unfold hr
  rw [List.getElem?_map, List.getElem?_range ha]
  rfl
theorem hr_set {m m' : cM} {S : rS} {a : Nat} {c : aC} (hj : m'.2.2.2 = m.2.2.2) (hb : ∀ b, b ≠ a → cC m' S b = cC m S b) (hc : cC m' S a = c) : (hr m S).set a c = hr m' S := by
  apply List.ext_getElem?
  intro i
  rw [List.getElem?_set]
  unfold hr
  rw [hj, List.length_map, List.length_range]
  by_cases hi : a = i
  · subst hi
    rw [if_pos rfl]
    by_cases hl : a < 406 + 13 * m.2.2.2
    · rw [if_pos hl, List.getElem?_map, List.getElem?_range hl, ← hc]
      rfl
    · rw [if_neg hl, List.getElem?_map, List.getElem?_eq_none (by rw [List.length_range]; omega)]
      rfl
  · rw [if_neg hi, List.getElem?_map, List.getElem?_map]
    by_cases hl : i < 406 + 13 * m.2.2.2
    · rw [List.getElem?_range hl]
      simp only [Option.map_some]
      rw [hb i (fun z => hi z.symm)]
    · rw [List.getElem?_eq_none (by rw [List.length_range]; omega)]
      rfl
theorem cC_congr {m m' : cM} {S : rS} {b : Nat} (h1 : m'.1 b = m.1 b) (h2 : m'.2.1 b = m.2.1 b) (h3 : m'.2.2.1 b = m.2.2.1 b) : cC m' S b = cC m S b := by
  unfold cC cK
  rw [h1, h2, h3]
def cW (m : cM) (a k : Nat) (v : Int32) : cM := (va_up m.1 a (upd (m.1 a) k v), m.2)
def cL (m : cM) (a k : Nat) (v : Int64) : cM := (m.1, va_up m.2.1 a (vp_updL (m.2.1 a) k v), m.2.2)
def cP (m : cM) (a v : Nat) : cM := (m.1, m.2.1, va_up m.2.2.1 a v, m.2.2.2)
def cY (m : cM) (s : Nat) (sp : Nat) (d : Nat) (dp n : Nat) : cM := (va_up m.1 d (va_cpy (m.1 s) (m.1 d) sp dp n), m.2)
def cO (m : cM) (a ci : Nat) : Bool := decide (a < 406 + 13 * m.2.2.2) && decide (kd a = (100 + ci, 0))
def cA (m : cM) (a : Nat) (i : Int32) : Bool := decide (a < 406 + 13 * m.2.2.2) && decide ((kd a).1 = 0) && aIn i (kd a).2
def cX (m : cM) (a : Nat) (p n : Int32) : Bool := decide (a < 406 + 13 * m.2.2.2) && decide ((kd a).1 = 0) && decide (¬ p < 0) && decide (¬ n < 0) && decide (p.toNatClampNeg + n.toNatClampNeg ≤ (kd a).2)
theorem cO_iff {m : cM} {a ci : Nat} (h : cO m a ci = true) : a < 406 + 13 * m.2.2.2 ∧ kd a = (100 + ci, 0) := by
  unfold cO at h
  rw [Bool.and_eq_true] at h
  exact ⟨of_decide_eq_true h.1, of_decide_eq_true h.2⟩
theorem kd_ref {a : Nat} (h : (kd a).1 ≠ 99) : ¬ (382 ≤ a ∧ a < 406) := by
  intro z
  apply h
  unfold kd
  rw [if_neg (by omega), if_pos z.2]
theorem cC_obj {m : cM} {S : rS} {a ci : Nat} (hk : kd a = (100 + ci, 0)) : cC m S a = .inr (ci, cFl (m.1 a) (m.2.2.1 a) a ci) := by
  unfold cC cK
  rw [if_neg (kd_ref (by rw [hk]; show 100 + ci ≠ 99; omega)), hk]
  simp only [Nat.le_add_right, if_true, Nat.add_sub_cancel_left]
theorem cC_ints {m : cM} {S : rS} {a tag n : Nat} (ht : tag ≤ 2) (hk : kd a = (tag, n)) : cC m S a = .inl (tag, n, .inl (m.1 a)) := by
  unfold cC cK
  rw [if_neg (kd_ref (by rw [hk]; show tag ≠ 99; omega)), hk]
  rw [if_neg (show ¬ 100 ≤ tag by omega), if_pos ht]
theorem cC_longs {m : cM} {S : rS} {a n : Nat} (hk : kd a = (3, n)) : cC m S a = .inl (3, n, .inr (.inl (m.2.1 a))) := by
  unfold cC cK
  rw [if_neg (kd_ref (by rw [hk]; show 3 ≠ 99; decide)), hk]
  rfl
theorem cC_refs {m : cM} {S : rS} {a tag n : Nat} (ht : 4 ≤ tag ∧ tag ≤ 6) (hk : kd a = (tag, n)) : cC m S a = .inl (tag, n, .inr (.inr (.inr (.inr (cQ a))))) := by
  unfold cC cK
  rw [if_neg (kd_ref (by rw [hk]; show tag ≠ 99; omega)), hk]
  rw [if_neg (show ¬ 100 ≤ tag by omega), if_neg (show ¬ tag ≤ 2 by omega), if_neg (show ¬ tag = 3 by omega)]
theorem va_same {α : Type} (f : Nat → α) (k : Nat) (v : α) : va_up f k v k = v := by unfold va_up; rw [if_pos rfl]
theorem va_else {α : Type} (f : Nat → α) {k j : Nat} (v : α) (h : j ≠ k) : va_up f k v j = f j := by unfold va_up; rw [if_neg h]
theorem cW_ne {m : cM} {S : rS} {a k : Nat} {v : Int32} : ∀ b, b ≠ a → cC (cW m a k v) S b = cC m S b := fun b hb => cC_congr (va_else _ _ hb) rfl rfl
section M29
variable {X : aX} {d M pc : Nat} {lv : aL} {t : List Value} {m : cM} {S : rS} {Q : Option Value → aH → Prop} {len a1 b1 i0 : Nat} {v1 : Value}
theorem hm_get {a ci k : Nat} {w : Value} (p' : Nat) (hp : pc + 3 = p') (hi : aIns M pc = some (.getfield i0, len, ci, k, v1)) (ha : a < 406 + 13 * m.2.2.2) (hk : kd a = (100 + ci, 0)) (hw : (cFl (m.1 a) (m.2.2.1 a) a ci)[k]? = some w) (kk : aWp X d M p' lv (w :: t) (hr m S) Q) : aWp X d M pc lv (.ref a :: t) (hr m S) Q :=
  wp_get p' hp hi (by rw [hr_at ha, cC_obj hk]) hw kk
theorem hm_dyn {a ci k : Nat} (p' : Nat) (hp : pc + 3 = p') (hi : aIns M pc = some (.getfield i0, len, ci, k, v1)) (ha : a < 406 + 13 * m.2.2.2) (hk : kd a = (100 + ci, 0)) (hf : ∀ f r, (cFl f r a ci)[k]? = some (cRf r)) (hn : ¬ m.2.2.1 a = 0) (kk : aWp X d M p' lv (.ref (m.2.2.1 a) :: t) (hr m S) Q) : aWp X d M pc lv (.ref a :: t) (hr m S) Q :=
  wp_get p' hp hi (by rw [hr_at ha, cC_obj hk]) (by rw [hf]; unfold cRf; rw [if_neg hn]) kk
theorem hm_put {a ci k : Nat} {v : Int32} (p' : Nat) (hp : pc + 3 = p') (hi : aIns M pc = some (.putfield i0, len, ci, k, v1)) (ha : a < 406 + 13 * m.2.2.2) (hk : kd a = (100 + ci, 0)) (hfl : ∀ f r, cFl (upd f k v) r a ci = (cFl f r a ci).set k (.int v)) (hlen : ∀ f r, k < (cFl f r a ci).length) (hok : okV (clsTy ci k) (.int v) = true) (kk : aWp X d M p' lv t (hr (cW m a k v) S) Q) : aWp X d M pc lv (.int v :: .ref a :: t) (hr m S) Q := by
  refine wp_put p' hp hi (by rw [hr_at ha, cC_obj hk]) (hlen _ _) hok ?_
  rw [hr_set (m := m) (S := S) (m' := cW m a k v) rfl cW_ne]
  · exact kk
  · rw [cC_obj hk, ← hfl]
    show (.inr (ci, cFl (va_up m.1 a (upd (m.1 a) k v) a) (m.2.2.1 a) a ci) : aC) = _
    rw [va_same]
theorem hm_putR {a ci k v : Nat} (p' : Nat) (hp : pc + 3 = p') (hi : aIns M pc = some (.putfield i0, len, ci, k, v1)) (ha : a < 406 + 13 * m.2.2.2) (hk : kd a = (100 + ci, 0)) (hfl : ∀ f r, cFl f v a ci = (cFl f r a ci).set k (cRf v)) (hlen : ∀ f r, k < (cFl f r a ci).length) (hok : okV (clsTy ci k) (.ref v) = true) (hn : ¬ v = 0) (kk : aWp X d M p' lv t (hr (cP m a v) S) Q) : aWp X d M pc lv (.ref v :: .ref a :: t) (hr m S) Q := by
  refine wp_put p' hp hi (by rw [hr_at ha, cC_obj hk]) (hlen _ _) hok ?_
  rw [hr_set (m := m) (S := S) (m' := cP m a v) rfl (fun b hb => cC_congr rfl rfl (va_else _ _ hb))]
  · exact kk
  · rw [cC_obj hk]
    have e : (Value.ref v) = cRf v := by unfold cRf; rw [if_neg hn]
    rw [e, ← hfl]
    show (.inr (ci, cFl (m.1 a) (va_up m.2.2.1 a v a) a ci) : aC) = _
    rw [va_same]
theorem hm_iald {a n : Nat} {i : Int32} (p' : Nat) (hp : pc + 1 = p') (hi : aIns M pc = some (.iaload, len, a1, b1, v1)) (ha : a < 406 + 13 * m.2.2.2) (hk : kd a = (0, n)) (hin : aIn i n = true) (kk : aWp X d M p' lv (.int (m.1 a i.toNatClampNeg) :: t) (hr m S) Q) : aWp X d M pc lv (.int i :: .ref a :: t) (hr m S) Q :=
  wp_iald p' hp hi (by rw [hr_at ha, cC_ints (by decide) hk]) hin kk
theorem hm_bald {a n tag : Nat} {i : Int32} (p' : Nat) (hp : pc + 1 = p') (hi : aIns M pc = some (.baload, len, a1, b1, v1)) (ht : tag = 1 ∨ tag = 2) (ha : a < 406 + 13 * m.2.2.2) (hk : kd a = (tag, n)) (hin : aIn i n = true) (kk : aWp X d M p' lv (.int (m.1 a i.toNatClampNeg) :: t) (hr m S) Q) : aWp X d M pc lv (.int i :: .ref a :: t) (hr m S) Q :=
  wp_bald p' hp hi ht (by rw [hr_at ha, cC_ints (by omega) hk]) hin kk
theorem hm_lald {a n : Nat} {i : Int32} (p' : Nat) (hp : pc + 1 = p') (hi : aIns M pc = some (.laload, len, a1, b1, v1)) (ha : a < 406 + 13 * m.2.2.2) (hk : kd a = (3, n)) (hin : aIn i n = true) (kk : aWp X d M p' lv (.long (m.2.1 a i.toNatClampNeg) :: t) (hr m S) Q) : aWp X d M pc lv (.int i :: .ref a :: t) (hr m S) Q :=
  wp_lald p' hp hi (by rw [hr_at ha, cC_longs hk]) hin kk
theorem hm_aald {a n tag q : Nat} {i : Int32} (p' : Nat) (hp : pc + 1 = p') (hi : aIns M pc = some (.aaload, len, a1, b1, v1)) (ht : 4 ≤ tag ∧ tag ≤ 6) (ha : a < 406 + 13 * m.2.2.2) (hk : kd a = (tag, n)) (hin : aIn i n = true) (hf : cQ a i.toNatClampNeg = some q) (kk : aWp X d M p' lv (.ref q :: t) (hr m S) Q) : aWp X d M pc lv (.int i :: .ref a :: t) (hr m S) Q :=
  wp_aald p' hp hi (by rw [hr_at ha, cC_refs ht hk]) ht hin hf kk
theorem hm_alen {a n tag : Nat} (p' : Nat) (hp : pc + 1 = p') (hi : aIns M pc = some (.arraylength, len, a1, b1, v1)) (ha : a < 406 + 13 * m.2.2.2) (hk : kd a = (tag, n)) (ht : tag = 3) (kk : aWp X d M p' lv (.int (Int32.ofNat n) :: t) (hr m S) Q) : aWp X d M pc lv (.ref a :: t) (hr m S) Q := by
  subst ht
  exact wp_alen p' hp hi (by rw [hr_at ha, cC_longs hk]) (by decide) kk
theorem hm_iast {a n : Nat} {i x : Int32} (p' : Nat) (hp : pc + 1 = p') (hi : aIns M pc = some (.iastore, len, a1, b1, v1)) (ha : a < 406 + 13 * m.2.2.2) (hk : kd a = (0, n)) (hin : aIn i n = true) (kk : aWp X d M p' lv t (hr (cW m a i.toNatClampNeg x) S) Q) : aWp X d M pc lv (.int x :: .int i :: .ref a :: t) (hr m S) Q := by
  refine wp_iast p' hp hi (by rw [hr_at ha, cC_ints (by decide) hk]) hin ?_
  rw [hr_set (m := m) (S := S) (m' := cW m a i.toNatClampNeg x) rfl cW_ne]
  · exact kk
  · rw [cC_ints (by decide) hk]
    show (.inl (0, n, .inl (va_up m.1 a (upd (m.1 a) i.toNatClampNeg x) a)) : aC) = _
    rw [va_same]
theorem hm_bast {a n : Nat} {i x : Int32} (p' : Nat) (hp : pc + 1 = p') (hi : aIns M pc = some (.bastore, len, a1, b1, v1)) (ha : a < 406 + 13 * m.2.2.2) (hk : kd a = (1, n)) (hin : aIn i n = true) (kk : aWp X d M p' lv t (hr (cW m a i.toNatClampNeg (vp_nar .byte x)) S) Q) : aWp X d M pc lv (.int x :: .int i :: .ref a :: t) (hr m S) Q := by
  refine wp_bast p' hp hi (by rw [hr_at ha, cC_ints (by decide) hk]) hin ?_
  rw [hr_set (m := m) (S := S) (m' := cW m a i.toNatClampNeg (vp_nar .byte x)) rfl cW_ne]
  · exact kk
  · rw [cC_ints (by decide) hk]
    show (.inl (1, n, .inl (va_up m.1 a (upd (m.1 a) i.toNatClampNeg (vp_nar .byte x)) a)) : aC) = _
    rw [va_same]
theorem hm_zast {a n : Nat} {i x : Int32} (p' : Nat) (hp : pc + 1 = p') (hi : aIns M pc = some (.bastore, len, a1, b1, v1)) (ha : a < 406 + 13 * m.2.2.2) (hk : kd a = (2, n)) (hin : aIn i n = true) (kk : aWp X d M p' lv t (hr (cW m a i.toNatClampNeg (vp_nar .boolean x)) S) Q) : aWp X d M pc lv (.int x :: .int i :: .ref a :: t) (hr m S) Q := by
  refine wp_zast p' hp hi (by rw [hr_at ha, cC_ints (by decide) hk]) hin ?_
  rw [hr_set (m := m) (S := S) (m' := cW m a i.toNatClampNeg (vp_nar .boolean x)) rfl cW_ne]
  · exact kk
  · rw [cC_ints (by decide) hk]
    show (.inl (2, n, .inl (va_up m.1 a (upd (m.1 a) i.toNatClampNeg (vp_nar .boolean x)) a)) : aC) = _
    rw [va_same]
theorem hm_last {a n : Nat} {i : Int32} {x : Int64} (p' : Nat) (hp : pc + 1 = p') (hi : aIns M pc = some (.lastore, len, a1, b1, v1)) (ha : a < 406 + 13 * m.2.2.2) (hk : kd a = (3, n)) (hin : aIn i n = true) (kk : aWp X d M p' lv t (hr (cL m a i.toNatClampNeg x) S) Q) : aWp X d M pc lv (.long x :: .int i :: .ref a :: t) (hr m S) Q := by
  refine wp_last p' hp hi (by rw [hr_at ha, cC_longs hk]) hin ?_
  rw [hr_set (m := m) (S := S) (m' := cL m a i.toNatClampNeg x) rfl (fun b hb => cC_congr rfl (va_else _ _ hb) rfl)]
  · exact kk
  · rw [cC_longs hk]
    show (.inl (3, n, .inr (.inl (va_up m.2.1 a (vp_updL (m.2.1 a) i.toNatClampNeg x) a))) : aC) = _
    rw [va_same]
theorem hm_copy {s dd n0 n1 : Nat} {sp dp n : Int32} (p' : Nat) (hp : pc + 3 = p') (hi : aIns M pc = some (.invokestatic i0, len, 1000, b1, v1)) (hstk : aStk t = true) (hs : s < 406 + 13 * m.2.2.2) (hks : kd s = (0, n0)) (hd : dd < 406 + 13 * m.2.2.2) (hkd : kd dd = (0, n1)) (h1 : ¬ sp < 0) (h2 : ¬ dp < 0) (h3 : ¬ n < 0) (h4 : sp.toNatClampNeg + n.toNatClampNeg ≤ n0) (h5 : dp.toNatClampNeg + n.toNatClampNeg ≤ n1) (kk : aWp X d M p' lv t (hr (cY m s sp.toNatClampNeg dd dp.toNatClampNeg n.toNatClampNeg) S) Q) : aWp X d M pc lv (.int n :: .int dp :: .ref dd :: .int sp :: .ref s :: t) (hr m S) Q := by
  have e : (hr m S).set dd (.inl (0, n1, .inl (va_cpy (m.1 s) (m.1 dd) sp.toNatClampNeg dp.toNatClampNeg n.toNatClampNeg))) = hr (cY m s sp.toNatClampNeg dd dp.toNatClampNeg n.toNatClampNeg) S := by
    refine hr_set (m := m) (S := S) rfl (fun b hb => cC_congr (va_else _ _ hb) rfl rfl) ?_
    rw [cC_ints (by decide) hkd]
    show (.inl (0, n1, .inl (va_up m.1 dd _ dd)) : aC) = _
    rw [va_same]
  refine hp_sC p' hp hi hstk ?_ kk
  have e0 : aStk [] = true := rfl
  unfold sC
  simp only [a_copy, hr_at hs, hr_at hd, cC_ints (by decide : 0 ≤ 2) hks, cC_ints (by decide : 0 ≤ 2) hkd, e0]
  rw [if_neg, e]
  · rfl
  · intro z
    rcases z with z | z | z | z | z | z
    · cases z
    · exact h3 z
    · exact h2 z
    · exact h1 z
    · omega
    · omega
theorem hm_isO {a ci : Nat} (ha : a < 406 + 13 * m.2.2.2) (hk : kd a = (100 + ci, 0)) : (hr m S)[a]? = some (.inr (ci, cFl (m.1 a) (m.2.2.1 a) a ci)) := by rw [hr_at ha, cC_obj hk]
end M29
theorem cA_iff {m : cM} {a : Nat} {i : Int32} (h : cA m a i = true) : a < 406 + 13 * m.2.2.2 ∧ kd a = (0, (kd a).2) ∧ aIn i (kd a).2 = true := by
  unfold cA at h
  rw [Bool.and_eq_true, Bool.and_eq_true] at h
  exact ⟨of_decide_eq_true h.1.1, Prod.ext (of_decide_eq_true h.1.2) rfl, h.2⟩
theorem cX_iff {m : cM} {a : Nat} {p n : Int32} (h : cX m a p n = true) : a < 406 + 13 * m.2.2.2 ∧ kd a = (0, (kd a).2) ∧ (¬ p < 0) ∧ (¬ n < 0) ∧ p.toNatClampNeg + n.toNatClampNeg ≤ (kd a).2 := by
  unfold cX at h
  rw [Bool.and_eq_true, Bool.and_eq_true, Bool.and_eq_true, Bool.and_eq_true] at h
  exact ⟨of_decide_eq_true h.1.1.1.1, Prod.ext (of_decide_eq_true h.1.1.1.2) rfl, of_decide_eq_true h.1.1.2, of_decide_eq_true h.1.2, of_decide_eq_true h.2⟩
theorem cb {j a : Nat} (h : Nat.blt a 406 = true) : a < 406 + 13 * j := by
  have := Nat.le_of_ble_eq_true h
  omega
theorem kd_ne0 {a ci : Nat} (h : kd a = (100 + ci, 0)) (hc : ci ≠ 11) : ¬ a = 0 := by
  intro z
  subst z
  have e : kd 0 = (111, 0) := by decide
  rw [e] at h
  have := congrArg Prod.fst h
  simp only at this
  omega
def cU (a ci : Nat) : Bool := decide (a < 382) && decide (kd a = (100 + ci, 0))
theorem cU_lt {a ci j : Nat} (h : cU a ci = true) : a < 406 + 13 * j := by
  unfold cU at h
  rw [Bool.and_eq_true] at h
  have := of_decide_eq_true h.1
  omega
theorem cU_kd {a ci : Nat} (h : cU a ci = true) : kd a = (100 + ci, 0) := by
  unfold cU at h
  rw [Bool.and_eq_true] at h
  exact of_decide_eq_true h.2
def cE (m : cM) (a : Nat) : Bool := decide (a < 406 + 13 * m.2.2.2) && decide ((kd a).1 = 0)
theorem cE_iff {m : cM} {a : Nat} (h : cE m a = true) : a < 406 + 13 * m.2.2.2 ∧ kd a = (0, (kd a).2) := by
  unfold cE at h
  rw [Bool.and_eq_true] at h
  exact ⟨of_decide_eq_true h.1, Prod.ext (of_decide_eq_true h.2) rfl⟩
theorem hm_alenI {X : aX} {d M pc : Nat} {lv : aL} {t : List Value} {m : cM} {S : rS} {Q : Option Value → aH → Prop} {len a1 b1 : Nat} {v1 : Value} {a n : Nat} (p' : Nat) (hp : pc + 1 = p') (hi : aIns M pc = some (.arraylength, len, a1, b1, v1)) (ha : a < 406 + 13 * m.2.2.2) (hk : kd a = (0, n)) (kk : aWp X d M p' lv (.int (Int32.ofNat n) :: t) (hr m S) Q) : aWp X d M pc lv (.ref a :: t) (hr m S) Q :=
  wp_alen p' hp hi (by rw [hr_at ha, cC_ints (by decide) hk]) (by decide) kk
theorem kd_lo {a : Nat} (h : 406 ≤ a) : kd a = kdS.getD ((a - 406) % 13) (99, 0) := by
  unfold kd
  rw [if_neg (by omega), if_neg (by omega)]
theorem kd_scan {ci : Nat} (P : Nat → Prop) [DecidablePred P] (h1 : ∀ a, a < 406 → kd a = (100 + ci, 0) → P a) (h2 : ∀ a, 406 ≤ a → kd a = (100 + ci, 0) → P a) {a : Nat} (h : kd a = (100 + ci, 0)) : P a := by
  by_cases z : a < 406
  · exact h1 a z h
  · exact h2 a (by omega) h
theorem kdS_ob : ∀ r, r < 13 → ∀ ci, ci < 12 → kdS.getD r (99, 0) = (100 + ci, 0) → r = 0 ∧ ci = 5 := by decide
theorem kd_hi {a ci : Nat} (hc : ci < 12) (ha : 406 ≤ a) (h : kd a = (100 + ci, 0)) : (a - 406) % 13 = 0 ∧ ci = 5 := by
  rw [kd_lo ha] at h
  exact kdS_ob _ (Nat.mod_lt _ (by decide)) ci hc h

theorem kt_5 : ∀ a, a < 406 → kd a = (100 + 5, 0) → a + 12 < 406 ∧ ∀ q ∈ [(1, (0, 8)), (2, (0, 8)), (3, (0, 8)), (4, (0, 6)), (5, (0, 6)), (6, (0, 4)), (7, (0, 4)), (8, (0, 4)), (9, (0, 5)), (10, (0, 5)), (11, (0, 5)), (12, (0, 5))], kd (a + q.1) = q.2 := by decide +kernel
theorem kS_13 {a k : Nat} (ha : 406 ≤ a) (he : (a - 406) % 13 = 0) (hk : k < 13) : (a + k - 406) % 13 = k := by
  have e : a + k - 406 = (a - 406) + k := by omega
  rw [e, Nat.add_mod, he, Nat.zero_add, Nat.mod_mod, Nat.mod_eq_of_lt hk]
theorem kb_13 {a j k : Nat} (hb : a < 406 + 13 * j) (h : kd a = (100 + 5, 0)) (hk : k ≤ 12) : a + k < 406 + 13 * j := by
  by_cases z : a < 406
  · have := (kt_5 a z h).1
    omega
  · have e := (kd_hi (by decide) (by omega) h).1
    have e2 := Nat.div_add_mod (a - 406) 13
    rw [e] at e2
    have : (a - 406) / 13 < j := by
      apply Nat.lt_of_mul_lt_mul_left (a := 13)
      omega
    omega
theorem kr_5_1 {a : Nat} (h : kd a = (100 + 5, 0)) : kd (a + 1) = (0, 8) := by
  by_cases z : a < 406
  · exact (kt_5 a z h).2 (1, (0, 8)) (by decide)
  · rw [kd_lo (by omega), kS_13 (by omega) (kd_hi (by decide) (by omega) h).1 (by decide)]
    rfl
theorem kb_5_1 {a j : Nat} (hb : a < 406 + 13 * j) (h : kd a = (100 + 5, 0)) : a + 1 < 406 + 13 * j := kb_13 hb h (by decide)
theorem kr_5_2 {a : Nat} (h : kd a = (100 + 5, 0)) : kd (a + 2) = (0, 8) := by
  by_cases z : a < 406
  · exact (kt_5 a z h).2 (2, (0, 8)) (by decide)
  · rw [kd_lo (by omega), kS_13 (by omega) (kd_hi (by decide) (by omega) h).1 (by decide)]
    rfl
theorem kb_5_2 {a j : Nat} (hb : a < 406 + 13 * j) (h : kd a = (100 + 5, 0)) : a + 2 < 406 + 13 * j := kb_13 hb h (by decide)
theorem kr_5_3 {a : Nat} (h : kd a = (100 + 5, 0)) : kd (a + 3) = (0, 8) := by
  by_cases z : a < 406
  · exact (kt_5 a z h).2 (3, (0, 8)) (by decide)
  · rw [kd_lo (by omega), kS_13 (by omega) (kd_hi (by decide) (by omega) h).1 (by decide)]
    rfl
theorem kb_5_3 {a j : Nat} (hb : a < 406 + 13 * j) (h : kd a = (100 + 5, 0)) : a + 3 < 406 + 13 * j := kb_13 hb h (by decide)
theorem kr_5_4 {a : Nat} (h : kd a = (100 + 5, 0)) : kd (a + 4) = (0, 6) := by
  by_cases z : a < 406
  · exact (kt_5 a z h).2 (4, (0, 6)) (by decide)
  · rw [kd_lo (by omega), kS_13 (by omega) (kd_hi (by decide) (by omega) h).1 (by decide)]
    rfl
theorem kb_5_4 {a j : Nat} (hb : a < 406 + 13 * j) (h : kd a = (100 + 5, 0)) : a + 4 < 406 + 13 * j := kb_13 hb h (by decide)
theorem kr_5_5 {a : Nat} (h : kd a = (100 + 5, 0)) : kd (a + 5) = (0, 6) := by
  by_cases z : a < 406
  · exact (kt_5 a z h).2 (5, (0, 6)) (by decide)
  · rw [kd_lo (by omega), kS_13 (by omega) (kd_hi (by decide) (by omega) h).1 (by decide)]
    rfl
theorem kb_5_5 {a j : Nat} (hb : a < 406 + 13 * j) (h : kd a = (100 + 5, 0)) : a + 5 < 406 + 13 * j := kb_13 hb h (by decide)
theorem kr_5_6 {a : Nat} (h : kd a = (100 + 5, 0)) : kd (a + 6) = (0, 4) := by
  by_cases z : a < 406
  · exact (kt_5 a z h).2 (6, (0, 4)) (by decide)
  · rw [kd_lo (by omega), kS_13 (by omega) (kd_hi (by decide) (by omega) h).1 (by decide)]
    rfl
theorem kb_5_6 {a j : Nat} (hb : a < 406 + 13 * j) (h : kd a = (100 + 5, 0)) : a + 6 < 406 + 13 * j := kb_13 hb h (by decide)
theorem kr_5_7 {a : Nat} (h : kd a = (100 + 5, 0)) : kd (a + 7) = (0, 4) := by
  by_cases z : a < 406
  · exact (kt_5 a z h).2 (7, (0, 4)) (by decide)
  · rw [kd_lo (by omega), kS_13 (by omega) (kd_hi (by decide) (by omega) h).1 (by decide)]
    rfl
theorem kb_5_7 {a j : Nat} (hb : a < 406 + 13 * j) (h : kd a = (100 + 5, 0)) : a + 7 < 406 + 13 * j := kb_13 hb h (by decide)
theorem kr_5_8 {a : Nat} (h : kd a = (100 + 5, 0)) : kd (a + 8) = (0, 4) := by
  by_cases z : a < 406
  · exact (kt_5 a z h).2 (8, (0, 4)) (by decide)
  · rw [kd_lo (by omega), kS_13 (by omega) (kd_hi (by decide) (by omega) h).1 (by decide)]
    rfl
theorem kb_5_8 {a j : Nat} (hb : a < 406 + 13 * j) (h : kd a = (100 + 5, 0)) : a + 8 < 406 + 13 * j := kb_13 hb h (by decide)
theorem kr_5_9 {a : Nat} (h : kd a = (100 + 5, 0)) : kd (a + 9) = (0, 5) := by
  by_cases z : a < 406
  · exact (kt_5 a z h).2 (9, (0, 5)) (by decide)
  · rw [kd_lo (by omega), kS_13 (by omega) (kd_hi (by decide) (by omega) h).1 (by decide)]
    rfl
theorem kb_5_9 {a j : Nat} (hb : a < 406 + 13 * j) (h : kd a = (100 + 5, 0)) : a + 9 < 406 + 13 * j := kb_13 hb h (by decide)
theorem kr_5_10 {a : Nat} (h : kd a = (100 + 5, 0)) : kd (a + 10) = (0, 5) := by
  by_cases z : a < 406
  · exact (kt_5 a z h).2 (10, (0, 5)) (by decide)
  · rw [kd_lo (by omega), kS_13 (by omega) (kd_hi (by decide) (by omega) h).1 (by decide)]
    rfl
theorem kb_5_10 {a j : Nat} (hb : a < 406 + 13 * j) (h : kd a = (100 + 5, 0)) : a + 10 < 406 + 13 * j := kb_13 hb h (by decide)
theorem kr_5_11 {a : Nat} (h : kd a = (100 + 5, 0)) : kd (a + 11) = (0, 5) := by
  by_cases z : a < 406
  · exact (kt_5 a z h).2 (11, (0, 5)) (by decide)
  · rw [kd_lo (by omega), kS_13 (by omega) (kd_hi (by decide) (by omega) h).1 (by decide)]
    rfl
theorem kb_5_11 {a j : Nat} (hb : a < 406 + 13 * j) (h : kd a = (100 + 5, 0)) : a + 11 < 406 + 13 * j := kb_13 hb h (by decide)
theorem kr_5_12 {a : Nat} (h : kd a = (100 + 5, 0)) : kd (a + 12) = (0, 5) := by
  by_cases z : a < 406
  · exact (kt_5 a z h).2 (12, (0, 5)) (by decide)
  · rw [kd_lo (by omega), kS_13 (by omega) (kd_hi (by decide) (by omega) h).1 (by decide)]
    rfl
theorem kb_5_12 {a j : Nat} (hb : a < 406 + 13 * j) (h : kd a = (100 + 5, 0)) : a + 12 < 406 + 13 * j := kb_13 hb h (by decide)
theorem kt_7 : ∀ a, a < 406 → kd a = (100 + 7, 0) → a + 8 < 406 ∧ ∀ q ∈ [(1, (0, 8)), (2, (0, 8)), (3, (0, 8)), (4, (0, 8)), (5, (0, 8)), (6, (0, 8)), (7, (0, 5)), (8, (0, 5))], kd (a + q.1) = q.2 := by decide +kernel
theorem kr_7_1 {a : Nat} (h : kd a = (100 + 7, 0)) : kd (a + 1) = (0, 8) := by
  by_cases z : a < 406
  · exact (kt_7 a z h).2 (1, (0, 8)) (by decide)
  · exact absurd (kd_hi (by decide) (by omega) h).2 (by decide)
theorem kb_7_1 {a j : Nat} (hb : a < 406 + 13 * j) (h : kd a = (100 + 7, 0)) : a + 1 < 406 + 13 * j := by
  by_cases z : a < 406
  · have := (kt_7 a z h).1
    omega
  · exact absurd (kd_hi (by decide) (by omega) h).2 (by decide)
theorem kr_7_2 {a : Nat} (h : kd a = (100 + 7, 0)) : kd (a + 2) = (0, 8) := by
  by_cases z : a < 406
  · exact (kt_7 a z h).2 (2, (0, 8)) (by decide)
  · exact absurd (kd_hi (by decide) (by omega) h).2 (by decide)
theorem kb_7_2 {a j : Nat} (hb : a < 406 + 13 * j) (h : kd a = (100 + 7, 0)) : a + 2 < 406 + 13 * j := by
  by_cases z : a < 406
  · have := (kt_7 a z h).1
    omega
  · exact absurd (kd_hi (by decide) (by omega) h).2 (by decide)
theorem kr_7_3 {a : Nat} (h : kd a = (100 + 7, 0)) : kd (a + 3) = (0, 8) := by
  by_cases z : a < 406
  · exact (kt_7 a z h).2 (3, (0, 8)) (by decide)
  · exact absurd (kd_hi (by decide) (by omega) h).2 (by decide)
theorem kb_7_3 {a j : Nat} (hb : a < 406 + 13 * j) (h : kd a = (100 + 7, 0)) : a + 3 < 406 + 13 * j := by
  by_cases z : a < 406
  · have := (kt_7 a z h).1
    omega
  · exact absurd (kd_hi (by decide) (by omega) h).2 (by decide)
theorem kr_7_4 {a : Nat} (h : kd a = (100 + 7, 0)) : kd (a + 4) = (0, 8) := by
  by_cases z : a < 406
  · exact (kt_7 a z h).2 (4, (0, 8)) (by decide)
  · exact absurd (kd_hi (by decide) (by omega) h).2 (by decide)
theorem kb_7_4 {a j : Nat} (hb : a < 406 + 13 * j) (h : kd a = (100 + 7, 0)) : a + 4 < 406 + 13 * j := by
  by_cases z : a < 406
  · have := (kt_7 a z h).1
    omega
  · exact absurd (kd_hi (by decide) (by omega) h).2 (by decide)
theorem kr_7_5 {a : Nat} (h : kd a = (100 + 7, 0)) : kd (a + 5) = (0, 8) := by
  by_cases z : a < 406
  · exact (kt_7 a z h).2 (5, (0, 8)) (by decide)
  · exact absurd (kd_hi (by decide) (by omega) h).2 (by decide)
theorem kb_7_5 {a j : Nat} (hb : a < 406 + 13 * j) (h : kd a = (100 + 7, 0)) : a + 5 < 406 + 13 * j := by
  by_cases z : a < 406
  · have := (kt_7 a z h).1
    omega
  · exact absurd (kd_hi (by decide) (by omega) h).2 (by decide)
theorem kr_7_6 {a : Nat} (h : kd a = (100 + 7, 0)) : kd (a + 6) = (0, 8) := by
  by_cases z : a < 406
  · exact (kt_7 a z h).2 (6, (0, 8)) (by decide)
  · exact absurd (kd_hi (by decide) (by omega) h).2 (by decide)
theorem kb_7_6 {a j : Nat} (hb : a < 406 + 13 * j) (h : kd a = (100 + 7, 0)) : a + 6 < 406 + 13 * j := by
  by_cases z : a < 406
  · have := (kt_7 a z h).1
    omega
  · exact absurd (kd_hi (by decide) (by omega) h).2 (by decide)
theorem kr_7_7 {a : Nat} (h : kd a = (100 + 7, 0)) : kd (a + 7) = (0, 5) := by
  by_cases z : a < 406
  · exact (kt_7 a z h).2 (7, (0, 5)) (by decide)
  · exact absurd (kd_hi (by decide) (by omega) h).2 (by decide)
theorem kb_7_7 {a j : Nat} (hb : a < 406 + 13 * j) (h : kd a = (100 + 7, 0)) : a + 7 < 406 + 13 * j := by
  by_cases z : a < 406
  · have := (kt_7 a z h).1
    omega
  · exact absurd (kd_hi (by decide) (by omega) h).2 (by decide)
theorem kr_7_8 {a : Nat} (h : kd a = (100 + 7, 0)) : kd (a + 8) = (0, 5) := by
  by_cases z : a < 406
  · exact (kt_7 a z h).2 (8, (0, 5)) (by decide)
  · exact absurd (kd_hi (by decide) (by omega) h).2 (by decide)
theorem kb_7_8 {a j : Nat} (hb : a < 406 + 13 * j) (h : kd a = (100 + 7, 0)) : a + 8 < 406 + 13 * j := by
  by_cases z : a < 406
  · have := (kt_7 a z h).1
    omega
  · exact absurd (kd_hi (by decide) (by omega) h).2 (by decide)
theorem kt_3 : ∀ a, a < 406 → kd a = (100 + 3, 0) → a + 5 < 406 ∧ ∀ q ∈ [(1, (0, 400)), (2, (0, 12)), (3, (0, 12)), (4, (0, 12)), (5, (3, 62))], kd (a + q.1) = q.2 := by decide +kernel
theorem kr_3_1 {a : Nat} (h : kd a = (100 + 3, 0)) : kd (a + 1) = (0, 400) := by
  by_cases z : a < 406
  · exact (kt_3 a z h).2 (1, (0, 400)) (by decide)
  · exact absurd (kd_hi (by decide) (by omega) h).2 (by decide)
theorem kb_3_1 {a j : Nat} (hb : a < 406 + 13 * j) (h : kd a = (100 + 3, 0)) : a + 1 < 406 + 13 * j := by
  by_cases z : a < 406
  · have := (kt_3 a z h).1
    omega
  · exact absurd (kd_hi (by decide) (by omega) h).2 (by decide)
theorem kr_3_2 {a : Nat} (h : kd a = (100 + 3, 0)) : kd (a + 2) = (0, 12) := by
  by_cases z : a < 406
  · exact (kt_3 a z h).2 (2, (0, 12)) (by decide)
  · exact absurd (kd_hi (by decide) (by omega) h).2 (by decide)
theorem kb_3_2 {a j : Nat} (hb : a < 406 + 13 * j) (h : kd a = (100 + 3, 0)) : a + 2 < 406 + 13 * j := by
  by_cases z : a < 406
  · have := (kt_3 a z h).1
    omega
  · exact absurd (kd_hi (by decide) (by omega) h).2 (by decide)
theorem kr_3_3 {a : Nat} (h : kd a = (100 + 3, 0)) : kd (a + 3) = (0, 12) := by
  by_cases z : a < 406
  · exact (kt_3 a z h).2 (3, (0, 12)) (by decide)
  · exact absurd (kd_hi (by decide) (by omega) h).2 (by decide)
theorem kb_3_3 {a j : Nat} (hb : a < 406 + 13 * j) (h : kd a = (100 + 3, 0)) : a + 3 < 406 + 13 * j := by
  by_cases z : a < 406
  · have := (kt_3 a z h).1
    omega
  · exact absurd (kd_hi (by decide) (by omega) h).2 (by decide)
theorem kr_3_4 {a : Nat} (h : kd a = (100 + 3, 0)) : kd (a + 4) = (0, 12) := by
  by_cases z : a < 406
  · exact (kt_3 a z h).2 (4, (0, 12)) (by decide)
  · exact absurd (kd_hi (by decide) (by omega) h).2 (by decide)
theorem kb_3_4 {a j : Nat} (hb : a < 406 + 13 * j) (h : kd a = (100 + 3, 0)) : a + 4 < 406 + 13 * j := by
  by_cases z : a < 406
  · have := (kt_3 a z h).1
    omega
  · exact absurd (kd_hi (by decide) (by omega) h).2 (by decide)
theorem kr_3_5 {a : Nat} (h : kd a = (100 + 3, 0)) : kd (a + 5) = (3, 62) := by
  by_cases z : a < 406
  · exact (kt_3 a z h).2 (5, (3, 62)) (by decide)
  · exact absurd (kd_hi (by decide) (by omega) h).2 (by decide)
theorem kb_3_5 {a j : Nat} (hb : a < 406 + 13 * j) (h : kd a = (100 + 3, 0)) : a + 5 < 406 + 13 * j := by
  by_cases z : a < 406
  · have := (kt_3 a z h).1
    omega
  · exact absurd (kd_hi (by decide) (by omega) h).2 (by decide)
theorem kt_10 : ∀ a, a < 406 → kd a = (100 + 10, 0) → a + 26 < 406 ∧ ∀ q ∈ [(14, (100 + 7, 0)), (23, (0, 10)), (24, (0, 10)), (25, (0, 10)), (26, (0, 10))], kd (a + q.1) = q.2 := by decide +kernel
theorem kr_10_14 {a : Nat} (h : kd a = (100 + 10, 0)) : kd (a + 14) = (100 + 7, 0) := by
  by_cases z : a < 406
  · exact (kt_10 a z h).2 (14, (100 + 7, 0)) (by decide)
  · exact absurd (kd_hi (by decide) (by omega) h).2 (by decide)
theorem kb_10_14 {a j : Nat} (hb : a < 406 + 13 * j) (h : kd a = (100 + 10, 0)) : a + 14 < 406 + 13 * j := by
  by_cases z : a < 406
  · have := (kt_10 a z h).1
    omega
  · exact absurd (kd_hi (by decide) (by omega) h).2 (by decide)
theorem kr_10_23 {a : Nat} (h : kd a = (100 + 10, 0)) : kd (a + 23) = (0, 10) := by
  by_cases z : a < 406
  · exact (kt_10 a z h).2 (23, (0, 10)) (by decide)
  · exact absurd (kd_hi (by decide) (by omega) h).2 (by decide)
theorem kb_10_23 {a j : Nat} (hb : a < 406 + 13 * j) (h : kd a = (100 + 10, 0)) : a + 23 < 406 + 13 * j := by
  by_cases z : a < 406
  · have := (kt_10 a z h).1
    omega
  · exact absurd (kd_hi (by decide) (by omega) h).2 (by decide)
theorem kr_10_24 {a : Nat} (h : kd a = (100 + 10, 0)) : kd (a + 24) = (0, 10) := by
  by_cases z : a < 406
  · exact (kt_10 a z h).2 (24, (0, 10)) (by decide)
  · exact absurd (kd_hi (by decide) (by omega) h).2 (by decide)
theorem kb_10_24 {a j : Nat} (hb : a < 406 + 13 * j) (h : kd a = (100 + 10, 0)) : a + 24 < 406 + 13 * j := by
  by_cases z : a < 406
  · have := (kt_10 a z h).1
    omega
  · exact absurd (kd_hi (by decide) (by omega) h).2 (by decide)
theorem kr_10_25 {a : Nat} (h : kd a = (100 + 10, 0)) : kd (a + 25) = (0, 10) := by
  by_cases z : a < 406
  · exact (kt_10 a z h).2 (25, (0, 10)) (by decide)
  · exact absurd (kd_hi (by decide) (by omega) h).2 (by decide)
theorem kb_10_25 {a j : Nat} (hb : a < 406 + 13 * j) (h : kd a = (100 + 10, 0)) : a + 25 < 406 + 13 * j := by
  by_cases z : a < 406
  · have := (kt_10 a z h).1
    omega
  · exact absurd (kd_hi (by decide) (by omega) h).2 (by decide)
theorem kr_10_26 {a : Nat} (h : kd a = (100 + 10, 0)) : kd (a + 26) = (0, 10) := by
  by_cases z : a < 406
  · exact (kt_10 a z h).2 (26, (0, 10)) (by decide)
  · exact absurd (kd_hi (by decide) (by omega) h).2 (by decide)
theorem kb_10_26 {a j : Nat} (hb : a < 406 + 13 * j) (h : kd a = (100 + 10, 0)) : a + 26 < 406 + 13 * j := by
  by_cases z : a < 406
  · have := (kt_10 a z h).1
    omega
  · exact absurd (kd_hi (by decide) (by omega) h).2 (by decide)
theorem qs_33 : ∀ i, i < 6 → 35 + 6 * i < 406 ∧ kd (35 + 6 * i) = (100 + 3, 0) := by decide +kernel
theorem qn_33 {i : Int32} (h : aIn i 6 = true) : i.toNatClampNeg < 6 := by
  unfold aIn at h
  rw [Bool.and_eq_true] at h
  exact of_decide_eq_true h.2
theorem cQ_33 {i : Int32} (h : aIn i 6 = true) : cQ 33 i.toNatClampNeg = some (35 + 6 * i.toNatClampNeg) := by
  have := qn_33 h
  unfold cQ
  simp only [Nat.reduceEqDiff, if_false, if_true, if_pos this]
theorem qk_33 {i : Int32} (h : aIn i 6 = true) : kd (35 + 6 * i.toNatClampNeg) = (100 + 3, 0) := (qs_33 _ (qn_33 h)).2
theorem qb_33 {i : Int32} {j : Nat} (h : aIn i 6 = true) : 35 + 6 * i.toNatClampNeg < 406 + 13 * j := by
  have := (qs_33 _ (qn_33 h)).1
  omega
theorem qs_91 : ∀ i, i < 20 → 92 + 9 * i < 406 ∧ kd (92 + 9 * i) = (100 + 7, 0) := by decide +kernel
theorem qn_91 {i : Int32} (h : aIn i 20 = true) : i.toNatClampNeg < 20 := by
  unfold aIn at h
  rw [Bool.and_eq_true] at h
  exact of_decide_eq_true h.2
theorem cQ_91 {i : Int32} (h : aIn i 20 = true) : cQ 91 i.toNatClampNeg = some (92 + 9 * i.toNatClampNeg) := by
  have := qn_91 h
  unfold cQ
  simp only [Nat.reduceEqDiff, if_false, if_true, if_pos this]
theorem qk_91 {i : Int32} (h : aIn i 20 = true) : kd (92 + 9 * i.toNatClampNeg) = (100 + 7, 0) := (qs_91 _ (qn_91 h)).2
theorem qb_91 {i : Int32} {j : Nat} (h : aIn i 20 = true) : 92 + 9 * i.toNatClampNeg < 406 + 13 * j := by
  have := (qs_91 _ (qn_91 h)).1
  omega
theorem qs_272 : ∀ i, i < 4 → 274 + 27 * i < 406 ∧ kd (274 + 27 * i) = (100 + 10, 0) := by decide +kernel
theorem qn_272 {i : Int32} (h : aIn i 4 = true) : i.toNatClampNeg < 4 := by
  unfold aIn at h
  rw [Bool.and_eq_true] at h
  exact of_decide_eq_true h.2
theorem cQ_272 {i : Int32} (h : aIn i 4 = true) : cQ 272 i.toNatClampNeg = some (274 + 27 * i.toNatClampNeg) := by
  have := qn_272 h
  unfold cQ
  simp only [Nat.reduceEqDiff, if_false, if_true, if_pos this]
theorem qk_272 {i : Int32} (h : aIn i 4 = true) : kd (274 + 27 * i.toNatClampNeg) = (100 + 10, 0) := (qs_272 _ (qn_272 h)).2
theorem qb_272 {i : Int32} {j : Nat} (h : aIn i 4 = true) : 274 + 27 * i.toNatClampNeg < 406 + 13 * j := by
  have := (qs_272 _ (qn_272 h)).1
  omega
