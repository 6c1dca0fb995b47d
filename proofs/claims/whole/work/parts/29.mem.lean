/-! THE CLASS AS A PICTURE: ints by address and place, longs by address and place, the three kinds of refs that change, how many shops were told -/
abbrev cM : Type := (Nat → Nat → Int32) × (Nat → Nat → Int64) × (Nat → Nat) × Nat
def kdT : List (Nat × Nat) := [(111, 0), (108, 0), (1, 400), (106, 0), (104, 0), (110, 0), (105, 0), (0, 8), (0, 8), (0, 8), (0, 6), (0, 6), (0, 4), (0, 4), (0, 4), (0, 5), (0, 5), (0, 5), (0, 5), (107, 0), (0, 8), (0, 8), (0, 8), (0, 8), (0, 8), (0, 8), (0, 5), (0, 5), (0, 10), (0, 10), (0, 10), (0, 10), (109, 0), (6, 6), (3, 8), (103, 0), (0, 400), (0, 12), (0, 12), (0, 12), (3, 62), (103, 0), (0, 400), (0, 12), (0, 12), (0, 12), (3, 62), (103, 0), (0, 400), (0, 12), (0, 12), (0, 12), (3, 62), (103, 0), (0, 400), (0, 12), (0, 12), (0, 12), (3, 62), (103, 0), (0, 400), (0, 12), (0, 12), (0, 12), (3, 62), (103, 0), (0, 400), (0, 12), (0, 12), (0, 12), (3, 62), (102, 0), (100, 0), (0, 8), (0, 8), (0, 8), (0, 6), (0, 30), (0, 8), (0, 7), (0, 7), (107, 0), (0, 8), (0, 8), (0, 8), (0, 8), (0, 8), (0, 8), (0, 5), (0, 5), (101, 0), (4, 20), (107, 0), (0, 8), (0, 8), (0, 8), (0, 8), (0, 8), (0, 8), (0, 5), (0, 5), (107, 0), (0, 8), (0, 8), (0, 8), (0, 8), (0, 8), (0, 8), (0, 5), (0, 5), (107, 0), (0, 8), (0, 8), (0, 8), (0, 8), (0, 8), (0, 8), (0, 5), (0, 5), (107, 0), (0, 8), (0, 8), (0, 8), (0, 8), (0, 8), (0, 8), (0, 5), (0, 5), (107, 0), (0, 8), (0, 8), (0, 8), (0, 8), (0, 8), (0, 8), (0, 5), (0, 5), (107, 0), (0, 8), (0, 8), (0, 8), (0, 8), (0, 8), (0, 8), (0, 5), (0, 5), (107, 0), (0, 8), (0, 8), (0, 8), (0, 8), (0, 8), (0, 8), (0, 5), (0, 5), (107, 0), (0, 8), (0, 8), (0, 8), (0, 8), (0, 8), (0, 8), (0, 5), (0, 5), (107, 0), (0, 8), (0, 8), (0, 8), (0, 8), (0, 8), (0, 8), (0, 5), (0, 5), (107, 0), (0, 8), (0, 8), (0, 8), (0, 8), (0, 8), (0, 8), (0, 5), (0, 5), (107, 0), (0, 8), (0, 8), (0, 8), (0, 8), (0, 8), (0, 8), (0, 5), (0, 5), (107, 0), (0, 8), (0, 8), (0, 8), (0, 8), (0, 8), (0, 8), (0, 5), (0, 5), (107, 0), (0, 8), (0, 8), (0, 8), (0, 8), (0, 8), (0, 8), (0, 5), (0, 5), (107, 0), (0, 8), (0, 8), (0, 8), (0, 8), (0, 8), (0, 8), (0, 5), (0, 5), (107, 0), (0, 8), (0, 8), (0, 8), (0, 8), (0, 8), (0, 8), (0, 5), (0, 5), (107, 0), (0, 8), (0, 8), (0, 8), (0, 8), (0, 8), (0, 8), (0, 5), (0, 5), (107, 0), (0, 8), (0, 8), (0, 8), (0, 8), (0, 8), (0, 8), (0, 5), (0, 5), (107, 0), (0, 8), (0, 8), (0, 8), (0, 8), (0, 8), (0, 8), (0, 5), (0, 5), (107, 0), (0, 8), (0, 8), (0, 8), (0, 8), (0, 8), (0, 8), (0, 5), (0, 5), (107, 0), (0, 8), (0, 8), (0, 8), (0, 8), (0, 8), (0, 8), (0, 5), (0, 5), (5, 4), (2, 4), (110, 0), (105, 0), (0, 8), (0, 8), (0, 8), (0, 6), (0, 6), (0, 4), (0, 4), (0, 4), (0, 5), (0, 5), (0, 5), (0, 5), (107, 0), (0, 8), (0, 8), (0, 8), (0, 8), (0, 8), (0, 8), (0, 5), (0, 5), (0, 10), (0, 10), (0, 10), (0, 10), (110, 0), (105, 0), (0, 8), (0, 8), (0, 8), (0, 6), (0, 6), (0, 4), (0, 4), (0, 4), (0, 5), (0, 5), (0, 5), (0, 5), (107, 0), (0, 8), (0, 8), (0, 8), (0, 8), (0, 8), (0, 8), (0, 5), (0, 5), (0, 10), (0, 10), (0, 10), (0, 10), (110, 0), (105, 0), (0, 8), (0, 8), (0, 8), (0, 6), (0, 6), (0, 4), (0, 4), (0, 4), (0, 5), (0, 5), (0, 5), (0, 5), (107, 0), (0, 8), (0, 8), (0, 8), (0, 8), (0, 8), (0, 8), (0, 5), (0, 5), (0, 10), (0, 10), (0, 10), (0, 10), (110, 0), (105, 0), (0, 8), (0, 8), (0, 8), (0, 6), (0, 6), (0, 4), (0, 4), (0, 4), (0, 5), (0, 5), (0, 5), (0, 5), (107, 0), (0, 8), (0, 8), (0, 8), (0, 8), (0, 8), (0, 8), (0, 5), (0, 5), (0, 10), (0, 10), (0, 10), (0, 10)]
def kdS : List (Nat × Nat) := [(105, 0), (0, 8), (0, 8), (0, 8), (0, 6), (0, 6), (0, 4), (0, 4), (0, 4), (0, 5), (0, 5), (0, 5), (0, 5)]
def kd (a : Nat) : Nat × Nat := if a < 382 then kdT.getD a (99, 0) else if a < 406 then (99, 0) else kdS.getD ((a - 406) % 13) (99, 0)
def cRf (n : Nat) : Value := if n = 0 then .null else .ref n
def cFl (f : Nat → Int32) (r a : Nat) : Nat → List Value := fun ci => match ci with
  | 0 => [.int (f 0), .int (f 1), .int (f 2), .ref 73]
  | 1 => [.ref 91, .int (f 1), .int (f 2)]
  | 2 => [.ref 5, .ref 32, .ref 72, .ref 74, .ref 75, .ref 76, .ref 77, .ref 78, .ref 79, .ref 80, .ref 81, .int (f 11), .int (f 12), .int (f 13), .int (f 14), .int (f 15), .int (f 16), .int (f 17), .int (f 18), .int (f 19)]
  | 3 => [.ref (a + 1), .ref (a + 2), .ref (a + 3), .ref (a + 4), .ref (a + 5), .int (f 5), .int (f 6)]
  | 4 => [.ref 1, cRf r, .int (f 2)]
  | 5 => [.int (f 0), .int (f 1), .int (f 2), .int (f 3), .int (f 4), .ref (a + 1), .ref (a + 2), .ref (a + 3), .int (f 8), .ref (a + 4), .ref (a + 5), .int (f 11), .ref (a + 6), .ref (a + 7), .ref (a + 8), .int (f 15), .ref (a + 9), .ref (a + 10), .ref (a + 11), .ref (a + 12)]
  | 6 => [.ref 1, cRf r, .int (f 2)]
  | 7 => [.ref (a + 1), .ref (a + 2), .ref (a + 3), .ref (a + 4), .ref (a + 5), .ref (a + 6), .ref (a + 7), .ref (a + 8), .int (f 8), .int (f 9), .int (f 10), .int (f 11), .int (f 12), .int (f 13)]
  | 8 => [.ref 2, .int (f 1), .int (f 2), .int (f 3), .int (f 4), .int (f 5), .int (f 6)]
  | 9 => [.ref 5, .ref 33, .int (f 2), .ref 34, .int (f 4)]
  | 10 => [cRf r, .ref (a + 14), .int (f 2), .int (f 3), .ref (a + 23), .ref (a + 24), .ref (a + 25), .ref (a + 26), .int (f 8)]
  | 11 => [.ref 1, .ref 3, .ref 4, .ref 5, .ref 32, .ref 71, .ref 90, .ref 272, .ref 273]
  | _ => []
def cQ (a : Nat) : Nat → Option Nat := fun i => if a = 33 then (if i < 6 then some (35 + 6 * i) else none) else if a = 91 then (if i < 20 then some (92 + 9 * i) else none) else (if i < 4 then some (274 + 27 * i) else none)
def cK (m : cM) (a : Nat) (q : Nat × Nat) : aC := if 100 ≤ q.1 then .inr (q.1 - 100, cFl (m.1 a) (m.2.2.1 a) a (q.1 - 100)) else if q.1 ≤ 2 then .inl (q.1, q.2, .inl (m.1 a)) else if q.1 = 3 then .inl (3, q.2, .inr (.inl (m.2.1 a))) else .inl (q.1, q.2, .inr (.inr (.inr (.inr (cQ a)))))
def cC (m : cM) (S : rS) (a : Nat) : aC := if 382 ≤ a ∧ a < 406 then rCe S (a - 382) else cK m a (kd a)
def hr (m : cM) (S : rS) : aH := (List.range (406 + 13 * m.2.2.2)).map (cC m S)
theorem hr_len (m : cM) (S : rS) : (hr m S).length = 406 + 13 * m.2.2.2 := by
  unfold hr
  rw [List.length_map, List.length_range]
theorem hr_at {m : cM} {S : rS} {a : Nat} (ha : a < 406 + 13 * m.2.2.2) : (hr m S)[a]? = some (cC m S a) := by
  unfold hr
  rw [List.getElem?_map, List.getElem?_range ha]
  rfl
theorem hr_set {m m' : cM} {S : rS} {a : Nat} {c : aC} (hj : m'.2.2.2 = m.2.2.2) (hb : ∀ b, b ≠ a → cC m' S b = cC m S b) (hc : cC m' S a = c) : (hr m S).set a c = hr m' S := by
  apply List.ext_getElem?
  intro i
  rw [List.getElem?_set]
  unfold hr
  rw [hj, List.length_map, List.length_range]
  by_cases hi : a = i
  · subst hi
    rw [if_pos rfl]
    by_cases hl : a < 406 + 13 * m.2.2.2
    · rw [if_pos hl, List.getElem?_map, List.getElem?_range hl, ← hc]
      rfl
    · rw [if_neg hl, List.getElem?_map, List.getElem?_eq_none (by rw [List.length_range]; omega)]
      rfl
  · rw [if_neg hi, List.getElem?_map, List.getElem?_map]
    by_cases hl : i < 406 + 13 * m.2.2.2
    · rw [List.getElem?_range hl]
      simp only [Option.map_some]
      rw [hb i (fun z => hi z.symm)]
    · rw [List.getElem?_eq_none (by rw [List.length_range]; omega)]
      rfl
theorem cC_congr {m m' : cM} {S : rS} {b : Nat} (h1 : m'.1 b = m.1 b) (h2 : m'.2.1 b = m.2.1 b) (h3 : m'.2.2.1 b = m.2.2.1 b) : cC m' S b = cC m S b := by
  unfold cC cK
  rw [h1, h2, h3]
def cW (m : cM) (a k : Nat) (v : Int32) : cM := (va_up m.1 a (upd (m.1 a) k v), m.2)
def cL (m : cM) (a k : Nat) (v : Int64) : cM := (m.1, va_up m.2.1 a (vp_updL (m.2.1 a) k v), m.2.2)
def cP (m : cM) (a v : Nat) : cM := (m.1, m.2.1, va_up m.2.2.1 a v, m.2.2.2)
def cY (m : cM) (s : Nat) (sp : Nat) (d : Nat) (dp n : Nat) : cM := (va_up m.1 d (va_cpy (m.1 s) (m.1 d) sp dp n), m.2)
def cO (m : cM) (a ci : Nat) : Bool := decide (a < 406 + 13 * m.2.2.2) && decide (kd a = (100 + ci, 0))
def cA (m : cM) (a : Nat) (i : Int32) : Bool := decide (a < 406 + 13 * m.2.2.2) && decide ((kd a).1 = 0) && aIn i (kd a).2
def cX (m : cM) (a : Nat) (p n : Int32) : Bool := decide (a < 406 + 13 * m.2.2.2) && decide ((kd a).1 = 0) && decide (¬ p < 0) && decide (¬ n < 0) && decide (p.toNatClampNeg + n.toNatClampNeg ≤ (kd a).2)
theorem cO_iff {m : cM} {a ci : Nat} (h : cO m a ci = true) : a < 406 + 13 * m.2.2.2 ∧ kd a = (100 + ci, 0) := by
  unfold cO at h
  rw [Bool.and_eq_true] at h
  exact ⟨of_decide_eq_true h.1, of_decide_eq_true h.2⟩
theorem kd_ref {a : Nat} (h : (kd a).1 ≠ 99) : ¬ (382 ≤ a ∧ a < 406) := by
  intro z
  apply h
  unfold kd
  rw [if_neg (by omega), if_pos z.2]
theorem cC_obj {m : cM} {S : rS} {a ci : Nat} (hk : kd a = (100 + ci, 0)) : cC m S a = .inr (ci, cFl (m.1 a) (m.2.2.1 a) a ci) := by
  unfold cC cK
  rw [if_neg (kd_ref (by rw [hk]; show 100 + ci ≠ 99; omega)), hk]
  simp only [Nat.le_add_right, if_true, Nat.add_sub_cancel_left]
theorem cC_ints {m : cM} {S : rS} {a tag n : Nat} (ht : tag ≤ 2) (hk : kd a = (tag, n)) : cC m S a = .inl (tag, n, .inl (m.1 a)) := by
  unfold cC cK
  rw [if_neg (kd_ref (by rw [hk]; show tag ≠ 99; omega)), hk]
  rw [if_neg (show ¬ 100 ≤ tag by omega), if_pos ht]
theorem cC_longs {m : cM} {S : rS} {a n : Nat} (hk : kd a = (3, n)) : cC m S a = .inl (3, n, .inr (.inl (m.2.1 a))) := by
  unfold cC cK
  rw [if_neg (kd_ref (by rw [hk]; show 3 ≠ 99; decide)), hk]
  rfl
theorem cC_refs {m : cM} {S : rS} {a tag n : Nat} (ht : 4 ≤ tag ∧ tag ≤ 6) (hk : kd a = (tag, n)) : cC m S a = .inl (tag, n, .inr (.inr (.inr (.inr (cQ a))))) := by
  unfold cC cK
  rw [if_neg (kd_ref (by rw [hk]; show tag ≠ 99; omega)), hk]
  rw [if_neg (show ¬ 100 ≤ tag by omega), if_neg (show ¬ tag ≤ 2 by omega), if_neg (show ¬ tag = 3 by omega)]
theorem va_same {α : Type} (f : Nat → α) (k : Nat) (v : α) : va_up f k v k = v := by unfold va_up; rw [if_pos rfl]
theorem va_else {α : Type} (f : Nat → α) {k j : Nat} (v : α) (h : j ≠ k) : va_up f k v j = f j := by unfold va_up; rw [if_neg h]
theorem cW_ne {m : cM} {S : rS} {a k : Nat} {v : Int32} : ∀ b, b ≠ a → cC (cW m a k v) S b = cC m S b := fun b hb => cC_congr (va_else _ _ hb) rfl rfl
section M29
variable {X : aX} {d M pc : Nat} {lv : aL} {t : List Value} {m : cM} {S : rS} {Q : Option Value → aH → Prop} {len a1 b1 i0 : Nat} {v1 : Value}
theorem hm_get {a ci k : Nat} {w : Value} (p' : Nat) (hp : pc + 3 = p') (hi : aIns M pc = some (.getfield i0, len, ci, k, v1)) (ha : a < 406 + 13 * m.2.2.2) (hk : kd a = (100 + ci, 0)) (hw : (cFl (m.1 a) (m.2.2.1 a) a ci)[k]? = some w) (kk : aWp X d M p' lv (w :: t) (hr m S) Q) : aWp X d M pc lv (.ref a :: t) (hr m S) Q :=
  wp_get p' hp hi (by rw [hr_at ha, cC_obj hk]) hw kk
theorem hm_dyn {a ci k : Nat} (p' : Nat) (hp : pc + 3 = p') (hi : aIns M pc = some (.getfield i0, len, ci, k, v1)) (ha : a < 406 + 13 * m.2.2.2) (hk : kd a = (100 + ci, 0)) (hf : ∀ f r, (cFl f r a ci)[k]? = some (cRf r)) (hn : ¬ m.2.2.1 a = 0) (kk : aWp X d M p' lv (.ref (m.2.2.1 a) :: t) (hr m S) Q) : aWp X d M pc lv (.ref a :: t) (hr m S) Q :=
  wp_get p' hp hi (by rw [hr_at ha, cC_obj hk]) (by rw [hf]; unfold cRf; rw [if_neg hn]) kk
theorem hm_put {a ci k : Nat} {v : Int32} (p' : Nat) (hp : pc + 3 = p') (hi : aIns M pc = some (.putfield i0, len, ci, k, v1)) (ha : a < 406 + 13 * m.2.2.2) (hk : kd a = (100 + ci, 0)) (hfl : ∀ f r, cFl (upd f k v) r a ci = (cFl f r a ci).set k (.int v)) (hlen : ∀ f r, k < (cFl f r a ci).length) (hok : okV (clsTy ci k) (.int v) = true) (kk : aWp X d M p' lv t (hr (cW m a k v) S) Q) : aWp X d M pc lv (.int v :: .ref a :: t) (hr m S) Q := by
  refine wp_put p' hp hi (by rw [hr_at ha, cC_obj hk]) (hlen _ _) hok ?_
  rw [hr_set (m := m) (S := S) (m' := cW m a k v) rfl cW_ne]
  · exact kk
  · rw [cC_obj hk, ← hfl]
    show (.inr (ci, cFl (va_up m.1 a (upd (m.1 a) k v) a) (m.2.2.1 a) a ci) : aC) = _
    rw [va_same]
theorem hm_putR {a ci k v : Nat} (p' : Nat) (hp : pc + 3 = p') (hi : aIns M pc = some (.putfield i0, len, ci, k, v1)) (ha : a < 406 + 13 * m.2.2.2) (hk : kd a = (100 + ci, 0)) (hfl : ∀ f r, cFl f v a ci = (cFl f r a ci).set k (cRf v)) (hlen : ∀ f r, k < (cFl f r a ci).length) (hok : okV (clsTy ci k) (.ref v) = true) (hn : ¬ v = 0) (kk : aWp X d M p' lv t (hr (cP m a v) S) Q) : aWp X d M pc lv (.ref v :: .ref a :: t) (hr m S) Q := by
  refine wp_put p' hp hi (by rw [hr_at ha, cC_obj hk]) (hlen _ _) hok ?_
  rw [hr_set (m := m) (S := S) (m' := cP m a v) rfl (fun b hb => cC_congr rfl rfl (va_else _ _ hb))]
  · exact kk
  · rw [cC_obj hk]
    have e : (Value.ref v) = cRf v := by unfold cRf; rw [if_neg hn]
    rw [e, ← hfl]
    show (.inr (ci, cFl (m.1 a) (va_up m.2.2.1 a v a) a ci) : aC) = _
    rw [va_same]
theorem hm_iald {a n : Nat} {i : Int32} (p' : Nat) (hp : pc + 1 = p') (hi : aIns M pc = some (.iaload, len, a1, b1, v1)) (ha : a < 406 + 13 * m.2.2.2) (hk : kd a = (0, n)) (hin : aIn i n = true) (kk : aWp X d M p' lv (.int (m.1 a i.toNatClampNeg) :: t) (hr m S) Q) : aWp X d M pc lv (.int i :: .ref a :: t) (hr m S) Q :=
  wp_iald p' hp hi (by rw [hr_at ha, cC_ints (by decide) hk]) hin kk
theorem hm_bald {a n tag : Nat} {i : Int32} (p' : Nat) (hp : pc + 1 = p') (hi : aIns M pc = some (.baload, len, a1, b1, v1)) (ht : tag = 1 ∨ tag = 2) (ha : a < 406 + 13 * m.2.2.2) (hk : kd a = (tag, n)) (hin : aIn i n = true) (kk : aWp X d M p' lv (.int (m.1 a i.toNatClampNeg) :: t) (hr m S) Q) : aWp X d M pc lv (.int i :: .ref a :: t) (hr m S) Q :=
  wp_bald p' hp hi ht (by rw [hr_at ha, cC_ints (by omega) hk]) hin kk
theorem hm_lald {a n : Nat} {i : Int32} (p' : Nat) (hp : pc + 1 = p') (hi : aIns M pc = some (.laload, len, a1, b1, v1)) (ha : a < 406 + 13 * m.2.2.2) (hk : kd a = (3, n)) (hin : aIn i n = true) (kk : aWp X d M p' lv (.long (m.2.1 a i.toNatClampNeg) :: t) (hr m S) Q) : aWp X d M pc lv (.int i :: .ref a :: t) (hr m S) Q :=
  wp_lald p' hp hi (by rw [hr_at ha, cC_longs hk]) hin kk
theorem hm_aald {a n tag q : Nat} {i : Int32} (p' : Nat) (hp : pc + 1 = p') (hi : aIns M pc = some (.aaload, len, a1, b1, v1)) (ht : 4 ≤ tag ∧ tag ≤ 6) (ha : a < 406 + 13 * m.2.2.2) (hk : kd a = (tag, n)) (hin : aIn i n = true) (hf : cQ a i.toNatClampNeg = some q) (kk : aWp X d M p' lv (.ref q :: t) (hr m S) Q) : aWp X d M pc lv (.int i :: .ref a :: t) (hr m S) Q :=
  wp_aald p' hp hi (by rw [hr_at ha, cC_refs ht hk]) ht hin hf kk
theorem hm_alen {a n tag : Nat} (p' : Nat) (hp : pc + 1 = p') (hi : aIns M pc = some (.arraylength, len, a1, b1, v1)) (ha : a < 406 + 13 * m.2.2.2) (hk : kd a = (tag, n)) (ht : tag = 3) (kk : aWp X d M p' lv (.int (Int32.ofNat n) :: t) (hr m S) Q) : aWp X d M pc lv (.ref a :: t) (hr m S) Q := by
  subst ht
  exact wp_alen p' hp hi (by rw [hr_at ha, cC_longs hk]) (by decide) kk
theorem hm_iast {a n : Nat} {i x : Int32} (p' : Nat) (hp : pc + 1 = p') (hi : aIns M pc = some (.iastore, len, a1, b1, v1)) (ha : a < 406 + 13 * m.2.2.2) (hk : kd a = (0, n)) (hin : aIn i n = true) (kk : aWp X d M p' lv t (hr (cW m a i.toNatClampNeg x) S) Q) : aWp X d M pc lv (.int x :: .int i :: .ref a :: t) (hr m S) Q := by
  refine wp_iast p' hp hi (by rw [hr_at ha, cC_ints (by decide) hk]) hin ?_
  rw [hr_set (m := m) (S := S) (m' := cW m a i.toNatClampNeg x) rfl cW_ne]
  · exact kk
  · rw [cC_ints (by decide) hk]
    show (.inl (0, n, .inl (va_up m.1 a (upd (m.1 a) i.toNatClampNeg x) a)) : aC) = _
    rw [va_same]
theorem hm_bast {a n : Nat} {i x : Int32} (p' : Nat) (hp : pc + 1 = p') (hi : aIns M pc = some (.bastore, len, a1, b1, v1)) (ha : a < 406 + 13 * m.2.2.2) (hk : kd a = (1, n)) (hin : aIn i n = true) (kk : aWp X d M p' lv t (hr (cW m a i.toNatClampNeg (vp_nar .byte x)) S) Q) : aWp X d M pc lv (.int x :: .int i :: .ref a :: t) (hr m S) Q := by
  refine wp_bast p' hp hi (by rw [hr_at ha, cC_ints (by decide) hk]) hin ?_
  rw [hr_set (m := m) (S := S) (m' := cW m a i.toNatClampNeg (vp_nar .byte x)) rfl cW_ne]
  · exact kk
  · rw [cC_ints (by decide) hk]
    show (.inl (1, n, .inl (va_up m.1 a (upd (m.1 a) i.toNatClampNeg (vp_nar .byte x)) a)) : aC) = _
    rw [va_same]
theorem hm_zast {a n : Nat} {i x : Int32} (p' : Nat) (hp : pc + 1 = p') (hi : aIns M pc = some (.bastore, len, a1, b1, v1)) (ha : a < 406 + 13 * m.2.2.2) (hk : kd a = (2, n)) (hin : aIn i n = true) (kk : aWp X d M p' lv t (hr (cW m a i.toNatClampNeg (vp_nar .boolean x)) S) Q) : aWp X d M pc lv (.int x :: .int i :: .ref a :: t) (hr m S) Q := by
  refine wp_zast p' hp hi (by rw [hr_at ha, cC_ints (by decide) hk]) hin ?_
  rw [hr_set (m := m) (S := S) (m' := cW m a i.toNatClampNeg (vp_nar .boolean x)) rfl cW_ne]
  · exact kk
  · rw [cC_ints (by decide) hk]
    show (.inl (2, n, .inl (va_up m.1 a (upd (m.1 a) i.toNatClampNeg (vp_nar .boolean x)) a)) : aC) = _
    rw [va_same]
theorem hm_last {a n : Nat} {i : Int32} {x : Int64} (p' : Nat) (hp : pc + 1 = p') (hi : aIns M pc = some (.lastore, len, a1, b1, v1)) (ha : a < 406 + 13 * m.2.2.2) (hk : kd a = (3, n)) (hin : aIn i n = true) (kk : aWp X d M p' lv t (hr (cL m a i.toNatClampNeg x) S) Q) : aWp X d M pc lv (.long x :: .int i :: .ref a :: t) (hr m S) Q := by
  refine wp_last p' hp hi (by rw [hr_at ha, cC_longs hk]) hin ?_
  rw [hr_set (m := m) (S := S) (m' := cL m a i.toNatClampNeg x) rfl (fun b hb => cC_congr rfl (va_else _ _ hb) rfl)]
  · exact kk
  · rw [cC_longs hk]
    show (.inl (3, n, .inr (.inl (va_up m.2.1 a (vp_updL (m.2.1 a) i.toNatClampNeg x) a))) : aC) = _
    rw [va_same]
theorem hm_copy {s dd n0 n1 : Nat} {sp dp n : Int32} (p' : Nat) (hp : pc + 3 = p') (hi : aIns M pc = some (.invokestatic i0, len, 1000, b1, v1)) (hstk : aStk t = true) (hs : s < 406 + 13 * m.2.2.2) (hks : kd s = (0, n0)) (hd : dd < 406 + 13 * m.2.2.2) (hkd : kd dd = (0, n1)) (h1 : ¬ sp < 0) (h2 : ¬ dp < 0) (h3 : ¬ n < 0) (h4 : sp.toNatClampNeg + n.toNatClampNeg ≤ n0) (h5 : dp.toNatClampNeg + n.toNatClampNeg ≤ n1) (kk : aWp X d M p' lv t (hr (cY m s sp.toNatClampNeg dd dp.toNatClampNeg n.toNatClampNeg) S) Q) : aWp X d M pc lv (.int n :: .int dp :: .ref dd :: .int sp :: .ref s :: t) (hr m S) Q := by
  have e : (hr m S).set dd (.inl (0, n1, .inl (va_cpy (m.1 s) (m.1 dd) sp.toNatClampNeg dp.toNatClampNeg n.toNatClampNeg))) = hr (cY m s sp.toNatClampNeg dd dp.toNatClampNeg n.toNatClampNeg) S := by
    refine hr_set (m := m) (S := S) rfl (fun b hb => cC_congr (va_else _ _ hb) rfl rfl) ?_
    rw [cC_ints (by decide) hkd]
    show (.inl (0, n1, .inl (va_up m.1 dd _ dd)) : aC) = _
    rw [va_same]
  refine hp_sC p' hp hi hstk ?_ kk
  have e0 : aStk [] = true := rfl
  unfold sC
  simp only [a_copy, hr_at hs, hr_at hd, cC_ints (by decide : 0 ≤ 2) hks, cC_ints (by decide : 0 ≤ 2) hkd, e0]
  rw [if_neg, e]
  · rfl
  · intro z
    rcases z with z | z | z | z | z | z
    · cases z
    · exact h3 z
    · exact h2 z
    · exact h1 z
    · omega
    · omega
theorem hm_isO {a ci : Nat} (ha : a < 406 + 13 * m.2.2.2) (hk : kd a = (100 + ci, 0)) : (hr m S)[a]? = some (.inr (ci, cFl (m.1 a) (m.2.2.1 a) a ci)) := by rw [hr_at ha, cC_obj hk]
end M29
theorem cA_iff {m : cM} {a : Nat} {i : Int32} (h : cA m a i = true) : a < 406 + 13 * m.2.2.2 ∧ kd a = (0, (kd a).2) ∧ aIn i (kd a).2 = true := by
  unfold cA at h
  rw [Bool.and_eq_true, Bool.and_eq_true] at h
  exact ⟨of_decide_eq_true h.1.1, Prod.ext (of_decide_eq_true h.1.2) rfl, h.2⟩
theorem cX_iff {m : cM} {a : Nat} {p n : Int32} (h : cX m a p n = true) : a < 406 + 13 * m.2.2.2 ∧ kd a = (0, (kd a).2) ∧ (¬ p < 0) ∧ (¬ n < 0) ∧ p.toNatClampNeg + n.toNatClampNeg ≤ (kd a).2 := by
  unfold cX at h
  rw [Bool.and_eq_true, Bool.and_eq_true, Bool.and_eq_true, Bool.and_eq_true] at h
  exact ⟨of_decide_eq_true h.1.1.1.1, Prod.ext (of_decide_eq_true h.1.1.1.2) rfl, of_decide_eq_true h.1.1.2, of_decide_eq_true h.1.2, of_decide_eq_true h.2⟩

