/-! THE REFERENCE AS A PICTURE: S.1 its ints by the fields' numbers, S.2.1 its rows of ints by the fields' numbers, then its two rows of longs and the one long -/
abbrev rS : Type := (Nat → Int32) × (Nat → Nat → Int32) × (Nat → Int64) × (Nat → Int64) × Int64
def rFl (S : rS) : List Value := [.ref 383, .int (S.1 1), .int (S.1 2), .ref 384, .ref 385, .ref 386, .ref 387, .ref 388, .int (S.1 8), .int (S.1 9), .int (S.1 10), .int (S.1 11), .int (S.1 12), .int (S.1 13), .int (S.1 14), .ref 389, .int (S.1 16), .ref 390, .int (S.1 18), .ref 391, .ref 392, .int (S.1 21), .int (S.1 22), .ref 393, .int (S.1 24), .int (S.1 25), .ref 394, .int (S.1 27), .ref 395, .int (S.1 29), .int (S.1 30), .ref 396, .ref 397, .ref 398, .ref 399, .ref 400, .int (S.1 36), .int (S.1 37), .int (S.1 38), .ref 401, .long S.2.2.2.2, .int (S.1 41), .int (S.1 42), .ref 402, .ref 403, .ref 404, .ref 405]
def rCa (S : rS) : Nat → aC := fun j => match j with
  | 1 => .inl (1, 400, .inl (S.2.1 0))
  | 2 => .inl (0, 2400, .inl (S.2.1 3))
  | 3 => .inl (0, 7, .inl (S.2.1 4))
  | 4 => .inl (0, 288, .inl (S.2.1 5))
  | 5 => .inl (0, 6, .inl (S.2.1 6))
  | 6 => .inl (0, 140, .inl (S.2.1 7))
  | 7 => .inl (0, 400, .inl (S.2.1 15))
  | 8 => .inl (3, 64, .inr (.inl S.2.2.1))
  | 9 => .inl (3, 8, .inr (.inl S.2.2.2.1))
  | 10 => .inl (0, 181, .inl (S.2.1 20))
  | 11 => .inl (0, 5, .inl (S.2.1 23))
  | 12 => .inl (0, 1600, .inl (S.2.1 26))
  | 13 => .inl (0, 8, .inl (S.2.1 28))
  | 14 => .inl (0, 4, .inl (S.2.1 31))
  | 15 => .inl (0, 6, .inl (S.2.1 32))
  | 16 => .inl (0, 6, .inl (S.2.1 33))
  | 17 => .inl (0, 80, .inl (S.2.1 34))
  | 18 => .inl (0, 8, .inl (S.2.1 35))
  | 19 => .inl (0, 7, .inl (S.2.1 39))
  | 20 => .inl (0, 724, .inl (S.2.1 43))
  | 21 => .inl (0, 4, .inl (S.2.1 44))
  | 22 => .inl (0, 4, .inl (S.2.1 45))
  | 23 => .inl (2, 4, .inl (S.2.1 46))
  | _ => .inr (0, [])
def rCe (S : rS) (j : Nat) : aC := if j = 0 then .inr (12, rFl S) else rCa S j
def rm (h : aH) (S : rS) : Prop := ∀ j, j < 24 → h[382 + j]? = some (rCe S j)
def rTo (h0 : aH) (S : rS) (h : aH) : Prop := rm h S ∧ h.length = h0.length ∧ aSl h = aSl h0 ∧ ∀ a, (a < 382 ∨ 406 ≤ a) → h[a]? = h0[a]?
theorem rTo.rf {h : aH} {S : rS} (H : rm h S) : rTo h S h := ⟨H, rfl, rfl, fun _ _ => rfl⟩
theorem rTo.tr {h0 h1 h2 : aH} {S S' : rS} (H : rTo h0 S h1) (H2 : rTo h1 S' h2) : rTo h0 S' h2 := ⟨H2.1, H2.2.1.trans H.2.1, H2.2.2.1.trans H.2.2.1, fun a ha => (H2.2.2.2 a ha).trans (H.2.2.2 a ha)⟩
abbrev rF (S : rS) (k : Nat) (v : Int32) : rS := (upd S.1 k v, S.2)
abbrev rA (S : rS) (k : Nat) (f : Nat → Int32) : rS := (S.1, va_up S.2.1 k f, S.2.2)
abbrev rK (S : rS) (f : Nat → Int64) : rS := (S.1, S.2.1, f, S.2.2.2)
abbrev rW (S : rS) (f : Nat → Int64) : rS := (S.1, S.2.1, S.2.2.1, f, S.2.2.2.2)
abbrev rX (S : rS) (x : Int64) : rS := (S.1, S.2.1, S.2.2.1, S.2.2.2.1, x)
theorem rTo.set0 {h0 h : aH} {S S' : rS} {fs : List Value} (H : rTo h0 S h) (h1 : rFl S' = fs) (h2 : ∀ j, rCa S' j = rCa S j) : rTo h0 S' (h.set 382 (.inr (12, fs))) := by
  have hc : h[382]? = some (.inr (12, rFl S)) := H.1 0 (by decide)
  refine ⟨fun j hj => ?_, by rw [List.length_set]; exact H.2.1, by rw [aSl_setO hc]; exact H.2.2.1, fun a ha => ?_⟩
  · rw [List.getElem?_set]
    by_cases hj0 : j = 0
    · subst hj0
      have hl := (List.getElem?_eq_some_iff.mp hc).1
      simp only [Nat.add_zero, if_true, hl]
      rw [← h1]
      rfl
    · rw [if_neg (by omega), H.1 j hj]
      unfold rCe
      rw [if_neg hj0, if_neg hj0, h2 j]
  · rw [List.getElem?_set_ne (by omega)]
    exact H.2.2.2 a ha
theorem rTo.setJ {h0 h : aH} {S S' : rS} {j0 tag n : Nat} {f g : (Nat → Int32) ⊕ (Nat → Int64) ⊕ (Nat → UInt32) ⊕ (Nat → UInt64) ⊕ (Nat → Option Nat)} (H : rTo h0 S h) (hj0 : j0 < 24) (hz : j0 ≠ 0) (hc : rCa S j0 = .inl (tag, n, f)) (h1 : rCa S' j0 = .inl (tag, n, g)) (h2 : ∀ j, j < 24 → j ≠ j0 → rCa S' j = rCa S j) (h3 : rFl S' = rFl S) : rTo h0 S' (h.set (382 + j0) (.inl (tag, n, g))) := by
  have hc : h[382 + j0]? = some (.inl (tag, n, f)) := by rw [H.1 j0 hj0]; unfold rCe; rw [if_neg hz, hc]
  refine ⟨fun j hj => ?_, by rw [List.length_set]; exact H.2.1, by rw [aSl_setA hc]; exact H.2.2.1, fun a ha => ?_⟩
  · rw [List.getElem?_set]
    by_cases hjj : j = j0
    · subst hjj
      have hl := (List.getElem?_eq_some_iff.mp hc).1
      simp only [if_true, hl]
      unfold rCe
      rw [if_neg hz, h1]
    · rw [if_neg (by omega), H.1 j hj]
      unfold rCe
      by_cases hj1 : j = 0
      · rw [if_pos hj1, if_pos hj1, h3]
      · rw [if_neg hj1, if_neg hj1, h2 j hj hjj]
  · rw [List.getElem?_set_ne (by omega)]
    exact H.2.2.2 a ha
theorem rCa_all {S S' : rS} {P : Nat → Prop} (h : ∀ j, j < 24 → P j → rCa S' j = rCa S j) : ∀ j, j < 24 → P j → rCa S' j = rCa S j := h
section RQ
variable {X : aX} {d M pc : Nat} {lv : aL} {t : List Value} {h0 h : aH} {S : rS} {Q : Option Value → aH → Prop} {len a1 b1 i0 : Nat} {v1 : Value}
/-- taped := -/
theorem rq_F1 {v : Int32} (p' : Nat) (hp : pc + 3 = p') (hi : aIns M pc = some (.putfield i0, len, 12, 1, v1)) (H : rTo h0 S h) (kk : ∀ h1, rTo h0 (rF S 1 v) h1 → aWp X d M p' lv t h1 Q) : aWp X d M pc lv (.int v :: .ref 382 :: t) h Q :=
  wp_put p' hp hi (H.1 0 (by decide)) (Nat.le_of_ble_eq_true rfl) rfl (kk _ (H.set0 (S' := rF S 1 v) rfl (fun _ => rfl)))
/-- rules := -/
theorem rq_F2 {v : Int32} (p' : Nat) (hp : pc + 3 = p') (hi : aIns M pc = some (.putfield i0, len, 12, 2, v1)) (H : rTo h0 S h) (kk : ∀ h1, rTo h0 (rF S 2 v) h1 → aWp X d M p' lv t h1 Q) : aWp X d M pc lv (.int v :: .ref 382 :: t) h Q :=
  wp_put p' hp hi (H.1 0 (by decide)) (Nat.le_of_ble_eq_true rfl) rfl (kk _ (H.set0 (S' := rF S 2 v) rfl (fun _ => rfl)))
/-- next := -/
theorem rq_F8 {v : Int32} (p' : Nat) (hp : pc + 3 = p') (hi : aIns M pc = some (.putfield i0, len, 12, 8, v1)) (H : rTo h0 S h) (kk : ∀ h1, rTo h0 (rF S 8 v) h1 → aWp X d M p' lv t h1 Q) : aWp X d M pc lv (.int v :: .ref 382 :: t) h Q :=
  wp_put p' hp hi (H.1 0 (by decide)) (Nat.le_of_ble_eq_true rfl) rfl (kk _ (H.set0 (S' := rF S 8 v) rfl (fun _ => rfl)))
/-- wrong := -/
theorem rq_F9 {v : Int32} (p' : Nat) (hp : pc + 3 = p') (hi : aIns M pc = some (.putfield i0, len, 12, 9, v1)) (H : rTo h0 S h) (kk : ∀ h1, rTo h0 (rF S 9 v) h1 → aWp X d M p' lv t h1 Q) : aWp X d M pc lv (.int v :: .ref 382 :: t) h Q :=
  wp_put p' hp hi (H.1 0 (by decide)) (Nat.le_of_ble_eq_true rfl) rfl (kk _ (H.set0 (S' := rF S 9 v) rfl (fun _ => rfl)))
/-- number := -/
theorem rq_F10 {v : Int32} (p' : Nat) (hp : pc + 3 = p') (hi : aIns M pc = some (.putfield i0, len, 12, 10, v1)) (H : rTo h0 S h) (kk : ∀ h1, rTo h0 (rF S 10 v) h1 → aWp X d M p' lv t h1 Q) : aWp X d M pc lv (.int v :: .ref 382 :: t) h Q :=
  wp_put p' hp hi (H.1 0 (by decide)) (Nat.le_of_ble_eq_true rfl) rfl (kk _ (H.set0 (S' := rF S 10 v) rfl (fun _ => rfl)))
/-- text := -/
theorem rq_F11 {v : Int32} (p' : Nat) (hp : pc + 3 = p') (hi : aIns M pc = some (.putfield i0, len, 12, 11, v1)) (H : rTo h0 S h) (kk : ∀ h1, rTo h0 (rF S 11 v) h1 → aWp X d M p' lv t h1 Q) : aWp X d M pc lv (.int v :: .ref 382 :: t) h Q :=
  wp_put p' hp hi (H.1 0 (by decide)) (Nat.le_of_ble_eq_true rfl) rfl (kk _ (H.set0 (S' := rF S 11 v) rfl (fun _ => rfl)))
/-- made := -/
theorem rq_F12 {v : Int32} (p' : Nat) (hp : pc + 3 = p') (hi : aIns M pc = some (.putfield i0, len, 12, 12, v1)) (H : rTo h0 S h) (kk : ∀ h1, rTo h0 (rF S 12 v) h1 → aWp X d M p' lv t h1 Q) : aWp X d M pc lv (.int v :: .ref 382 :: t) h Q :=
  wp_put p' hp hi (H.1 0 (by decide)) (Nat.le_of_ble_eq_true rfl) rfl (kk _ (H.set0 (S' := rF S 12 v) rfl (fun _ => rfl)))
/-- deep := -/
theorem rq_F13 {v : Int32} (p' : Nat) (hp : pc + 3 = p') (hi : aIns M pc = some (.putfield i0, len, 12, 13, v1)) (H : rTo h0 S h) (kk : ∀ h1, rTo h0 (rF S 13 v) h1 → aWp X d M p' lv t h1 Q) : aWp X d M pc lv (.int v :: .ref 382 :: t) h Q :=
  wp_put p' hp hi (H.1 0 (by decide)) (Nat.le_of_ble_eq_true rfl) rfl (kk _ (H.set0 (S' := rF S 13 v) rfl (fun _ => rfl)))
/-- lines := -/
theorem rq_F14 {v : Int32} (p' : Nat) (hp : pc + 3 = p') (hi : aIns M pc = some (.putfield i0, len, 12, 14, v1)) (H : rTo h0 S h) (kk : ∀ h1, rTo h0 (rF S 14 v) h1 → aWp X d M p' lv t h1 Q) : aWp X d M pc lv (.int v :: .ref 382 :: t) h Q :=
  wp_put p' hp hi (H.1 0 (by decide)) (Nat.le_of_ble_eq_true rfl) rfl (kk _ (H.set0 (S' := rF S 14 v) rfl (fun _ => rfl)))
/-- opened := -/
theorem rq_F16 {v : Int32} (p' : Nat) (hp : pc + 3 = p') (hi : aIns M pc = some (.putfield i0, len, 12, 16, v1)) (H : rTo h0 S h) (kk : ∀ h1, rTo h0 (rF S 16 v) h1 → aWp X d M p' lv t h1 Q) : aWp X d M pc lv (.int v :: .ref 382 :: t) h Q :=
  wp_put p' hp hi (H.1 0 (by decide)) (Nat.le_of_ble_eq_true rfl) rfl (kk _ (H.set0 (S' := rF S 16 v) rfl (fun _ => rfl)))
/-- top := -/
theorem rq_F18 {v : Int32} (p' : Nat) (hp : pc + 3 = p') (hi : aIns M pc = some (.putfield i0, len, 12, 18, v1)) (H : rTo h0 S h) (kk : ∀ h1, rTo h0 (rF S 18 v) h1 → aWp X d M p' lv t h1 Q) : aWp X d M pc lv (.int v :: .ref 382 :: t) h Q :=
  wp_put p' hp hi (H.1 0 (by decide)) (Nat.le_of_ble_eq_true rfl) rfl (kk _ (H.set0 (S' := rF S 18 v) rfl (fun _ => rfl)))
/-- force := -/
theorem rq_F21 {v : Int32} (p' : Nat) (hp : pc + 3 = p') (hi : aIns M pc = some (.putfield i0, len, 12, 21, v1)) (H : rTo h0 S h) (kk : ∀ h1, rTo h0 (rF S 21 v) h1 → aWp X d M p' lv t h1 Q) : aWp X d M pc lv (.int v :: .ref 382 :: t) h Q :=
  wp_put p' hp hi (H.1 0 (by decide)) (Nat.le_of_ble_eq_true rfl) rfl (kk _ (H.set0 (S' := rF S 21 v) rfl (fun _ => rfl)))
/-- x := -/
theorem rq_F22 {v : Int32} (p' : Nat) (hp : pc + 3 = p') (hi : aIns M pc = some (.putfield i0, len, 12, 22, v1)) (H : rTo h0 S h) (kk : ∀ h1, rTo h0 (rF S 22 v) h1 → aWp X d M p' lv t h1 Q) : aWp X d M pc lv (.int v :: .ref 382 :: t) h Q :=
  wp_put p' hp hi (H.1 0 (by decide)) (Nat.le_of_ble_eq_true rfl) rfl (kk _ (H.set0 (S' := rF S 22 v) rfl (fun _ => rfl)))
/-- codeMany := -/
theorem rq_F24 {v : Int32} (p' : Nat) (hp : pc + 3 = p') (hi : aIns M pc = some (.putfield i0, len, 12, 24, v1)) (H : rTo h0 S h) (kk : ∀ h1, rTo h0 (rF S 24 v) h1 → aWp X d M p' lv t h1 Q) : aWp X d M pc lv (.int v :: .ref 382 :: t) h Q :=
  wp_put p' hp hi (H.1 0 (by decide)) (Nat.le_of_ble_eq_true rfl) rfl (kk _ (H.set0 (S' := rF S 24 v) rfl (fun _ => rfl)))
/-- carried := -/
theorem rq_F25 {v : Int32} (p' : Nat) (hp : pc + 3 = p') (hi : aIns M pc = some (.putfield i0, len, 12, 25, v1)) (H : rTo h0 S h) (kk : ∀ h1, rTo h0 (rF S 25 v) h1 → aWp X d M p' lv t h1 Q) : aWp X d M pc lv (.int v :: .ref 382 :: t) h Q :=
  wp_put p' hp hi (H.1 0 (by decide)) (Nat.le_of_ble_eq_true rfl) rfl (kk _ (H.set0 (S' := rF S 25 v) rfl (fun _ => rfl)))
/-- undone := -/
theorem rq_F27 {v : Int32} (p' : Nat) (hp : pc + 3 = p') (hi : aIns M pc = some (.putfield i0, len, 12, 27, v1)) (H : rTo h0 S h) (kk : ∀ h1, rTo h0 (rF S 27 v) h1 → aWp X d M p' lv t h1 Q) : aWp X d M pc lv (.int v :: .ref 382 :: t) h Q :=
  wp_put p' hp hi (H.1 0 (by decide)) (Nat.le_of_ble_eq_true rfl) rfl (kk _ (H.set0 (S' := rF S 27 v) rfl (fun _ => rfl)))
/-- bestMany := -/
theorem rq_F29 {v : Int32} (p' : Nat) (hp : pc + 3 = p') (hi : aIns M pc = some (.putfield i0, len, 12, 29, v1)) (H : rTo h0 S h) (kk : ∀ h1, rTo h0 (rF S 29 v) h1 → aWp X d M p' lv t h1 Q) : aWp X d M pc lv (.int v :: .ref 382 :: t) h Q :=
  wp_put p' hp hi (H.1 0 (by decide)) (Nat.le_of_ble_eq_true rfl) rfl (kk _ (H.set0 (S' := rF S 29 v) rfl (fun _ => rfl)))
/-- bestMuch := -/
theorem rq_F30 {v : Int32} (p' : Nat) (hp : pc + 3 = p') (hi : aIns M pc = some (.putfield i0, len, 12, 30, v1)) (H : rTo h0 S h) (kk : ∀ h1, rTo h0 (rF S 30 v) h1 → aWp X d M p' lv t h1 Q) : aWp X d M pc lv (.int v :: .ref 382 :: t) h Q :=
  wp_put p' hp hi (H.1 0 (by decide)) (Nat.le_of_ble_eq_true rfl) rfl (kk _ (H.set0 (S' := rF S 30 v) rfl (fun _ => rfl)))
/-- receiptMany := -/
theorem rq_F36 {v : Int32} (p' : Nat) (hp : pc + 3 = p') (hi : aIns M pc = some (.putfield i0, len, 12, 36, v1)) (H : rTo h0 S h) (kk : ∀ h1, rTo h0 (rF S 36 v) h1 → aWp X d M p' lv t h1 Q) : aWp X d M pc lv (.int v :: .ref 382 :: t) h Q :=
  wp_put p' hp hi (H.1 0 (by decide)) (Nat.le_of_ble_eq_true rfl) rfl (kk _ (H.set0 (S' := rF S 36 v) rfl (fun _ => rfl)))
/-- receiptBits := -/
theorem rq_F37 {v : Int32} (p' : Nat) (hp : pc + 3 = p') (hi : aIns M pc = some (.putfield i0, len, 12, 37, v1)) (H : rTo h0 S h) (kk : ∀ h1, rTo h0 (rF S 37 v) h1 → aWp X d M p' lv t h1 Q) : aWp X d M pc lv (.int v :: .ref 382 :: t) h Q :=
  wp_put p' hp hi (H.1 0 (by decide)) (Nat.le_of_ble_eq_true rfl) rfl (kk _ (H.set0 (S' := rF S 37 v) rfl (fun _ => rfl)))
/-- receiptLong := -/
theorem rq_F38 {v : Int32} (p' : Nat) (hp : pc + 3 = p') (hi : aIns M pc = some (.putfield i0, len, 12, 38, v1)) (H : rTo h0 S h) (kk : ∀ h1, rTo h0 (rF S 38 v) h1 → aWp X d M p' lv t h1 Q) : aWp X d M pc lv (.int v :: .ref 382 :: t) h Q :=
  wp_put p' hp hi (H.1 0 (by decide)) (Nat.le_of_ble_eq_true rfl) rfl (kk _ (H.set0 (S' := rF S 38 v) rfl (fun _ => rfl)))
/-- drawnPaid := -/
theorem rq_F41 {v : Int32} (p' : Nat) (hp : pc + 3 = p') (hi : aIns M pc = some (.putfield i0, len, 12, 41, v1)) (H : rTo h0 S h) (kk : ∀ h1, rTo h0 (rF S 41 v) h1 → aWp X d M p' lv t h1 Q) : aWp X d M pc lv (.int v :: .ref 382 :: t) h Q :=
  wp_put p' hp hi (H.1 0 (by decide)) (Nat.le_of_ble_eq_true rfl) rfl (kk _ (H.set0 (S' := rF S 41 v) rfl (fun _ => rfl)))
/-- drawnMany := -/
theorem rq_F42 {v : Int32} (p' : Nat) (hp : pc + 3 = p') (hi : aIns M pc = some (.putfield i0, len, 12, 42, v1)) (H : rTo h0 S h) (kk : ∀ h1, rTo h0 (rF S 42 v) h1 → aWp X d M p' lv t h1 Q) : aWp X d M pc lv (.int v :: .ref 382 :: t) h Q :=
  wp_put p' hp hi (H.1 0 (by decide)) (Nat.le_of_ble_eq_true rfl) rfl (kk _ (H.set0 (S' := rF S 42 v) rfl (fun _ => rfl)))
theorem rq_F40 {v : Int64} (p' : Nat) (hp : pc + 3 = p') (hi : aIns M pc = some (.putfield i0, len, 12, 40, v1)) (H : rTo h0 S h) (kk : ∀ h1, rTo h0 (rX S v) h1 → aWp X d M p' lv t h1 Q) : aWp X d M pc lv (.long v :: .ref 382 :: t) h Q :=
  wp_put p' hp hi (H.1 0 (by decide)) (Nat.le_of_ble_eq_true rfl) rfl (kk _ (H.set0 (S' := rX S v) rfl (fun _ => rfl)))
theorem rn_0 (f : Nat → Int32) : ∀ j, j < 24 → j ≠ 1 → rCa (rA S 0 f) j = rCa S j := by
  intro j hj hne
  match j, hj, hne with
    | 0, _, hne => first | rfl | exact absurd rfl hne
    | 1, _, hne => first | rfl | exact absurd rfl hne
    | 2, _, hne => first | rfl | exact absurd rfl hne
    | 3, _, hne => first | rfl | exact absurd rfl hne
    | 4, _, hne => first | rfl | exact absurd rfl hne
    | 5, _, hne => first | rfl | exact absurd rfl hne
    | 6, _, hne => first | rfl | exact absurd rfl hne
    | 7, _, hne => first | rfl | exact absurd rfl hne
    | 8, _, hne => first | rfl | exact absurd rfl hne
    | 9, _, hne => first | rfl | exact absurd rfl hne
    | 10, _, hne => first | rfl | exact absurd rfl hne
    | 11, _, hne => first | rfl | exact absurd rfl hne
    | 12, _, hne => first | rfl | exact absurd rfl hne
    | 13, _, hne => first | rfl | exact absurd rfl hne
    | 14, _, hne => first | rfl | exact absurd rfl hne
    | 15, _, hne => first | rfl | exact absurd rfl hne
    | 16, _, hne => first | rfl | exact absurd rfl hne
    | 17, _, hne => first | rfl | exact absurd rfl hne
    | 18, _, hne => first | rfl | exact absurd rfl hne
    | 19, _, hne => first | rfl | exact absurd rfl hne
    | 20, _, hne => first | rfl | exact absurd rfl hne
    | 21, _, hne => first | rfl | exact absurd rfl hne
    | 22, _, hne => first | rfl | exact absurd rfl hne
    | 23, _, hne => first | rfl | exact absurd rfl hne
    | n + 24, hj, _ => exact absurd hj (by omega)
/-- tape[i] := -/
theorem rq_A0 {i x : Int32} (p' : Nat) (hp : pc + 1 = p') (hi : aIns M pc = some (.bastore, len, a1, b1, v1)) (H : rTo h0 S h) (hin : aIn i 400 = true) (kk : ∀ h1, rTo h0 (rA S 0 (upd (S.2.1 0) i.toNatClampNeg (vp_nar .byte x))) h1 → aWp X d M p' lv t h1 Q) : aWp X d M pc lv (.int x :: .int i :: .ref 383 :: t) h Q :=
  wp_bast p' hp hi (H.1 1 (by decide)) hin (kk _ (H.setJ (S' := rA S 0 (upd (S.2.1 0) i.toNatClampNeg (vp_nar .byte x))) (j0 := 1) (by decide) (by decide) rfl rfl (rn_0 _) rfl))
theorem rn_3 (f : Nat → Int32) : ∀ j, j < 24 → j ≠ 2 → rCa (rA S 3 f) j = rCa S j := by
  intro j hj hne
  match j, hj, hne with
    | 0, _, hne => first | rfl | exact absurd rfl hne
    | 1, _, hne => first | rfl | exact absurd rfl hne
    | 2, _, hne => first | rfl | exact absurd rfl hne
    | 3, _, hne => first | rfl | exact absurd rfl hne
    | 4, _, hne => first | rfl | exact absurd rfl hne
    | 5, _, hne => first | rfl | exact absurd rfl hne
    | 6, _, hne => first | rfl | exact absurd rfl hne
    | 7, _, hne => first | rfl | exact absurd rfl hne
    | 8, _, hne => first | rfl | exact absurd rfl hne
    | 9, _, hne => first | rfl | exact absurd rfl hne
    | 10, _, hne => first | rfl | exact absurd rfl hne
    | 11, _, hne => first | rfl | exact absurd rfl hne
    | 12, _, hne => first | rfl | exact absurd rfl hne
    | 13, _, hne => first | rfl | exact absurd rfl hne
    | 14, _, hne => first | rfl | exact absurd rfl hne
    | 15, _, hne => first | rfl | exact absurd rfl hne
    | 16, _, hne => first | rfl | exact absurd rfl hne
    | 17, _, hne => first | rfl | exact absurd rfl hne
    | 18, _, hne => first | rfl | exact absurd rfl hne
    | 19, _, hne => first | rfl | exact absurd rfl hne
    | 20, _, hne => first | rfl | exact absurd rfl hne
    | 21, _, hne => first | rfl | exact absurd rfl hne
    | 22, _, hne => first | rfl | exact absurd rfl hne
    | 23, _, hne => first | rfl | exact absurd rfl hne
    | n + 24, hj, _ => exact absurd hj (by omega)
/-- sign[i] := -/
theorem rq_A3 {i x : Int32} (p' : Nat) (hp : pc + 1 = p') (hi : aIns M pc = some (.iastore, len, a1, b1, v1)) (H : rTo h0 S h) (hin : aIn i 2400 = true) (kk : ∀ h1, rTo h0 (rA S 3 (upd (S.2.1 3) i.toNatClampNeg x)) h1 → aWp X d M p' lv t h1 Q) : aWp X d M pc lv (.int x :: .int i :: .ref 384 :: t) h Q :=
  wp_iast p' hp hi (H.1 2 (by decide)) hin (kk _ (H.setJ (S' := rA S 3 (upd (S.2.1 3) i.toNatClampNeg x)) (j0 := 2) (by decide) (by decide) rfl rfl (rn_3 _) rfl))
theorem rn_4 (f : Nat → Int32) : ∀ j, j < 24 → j ≠ 3 → rCa (rA S 4 f) j = rCa S j := by
  intro j hj hne
  match j, hj, hne with
    | 0, _, hne => first | rfl | exact absurd rfl hne
    | 1, _, hne => first | rfl | exact absurd rfl hne
    | 2, _, hne => first | rfl | exact absurd rfl hne
    | 3, _, hne => first | rfl | exact absurd rfl hne
    | 4, _, hne => first | rfl | exact absurd rfl hne
    | 5, _, hne => first | rfl | exact absurd rfl hne
    | 6, _, hne => first | rfl | exact absurd rfl hne
    | 7, _, hne => first | rfl | exact absurd rfl hne
    | 8, _, hne => first | rfl | exact absurd rfl hne
    | 9, _, hne => first | rfl | exact absurd rfl hne
    | 10, _, hne => first | rfl | exact absurd rfl hne
    | 11, _, hne => first | rfl | exact absurd rfl hne
    | 12, _, hne => first | rfl | exact absurd rfl hne
    | 13, _, hne => first | rfl | exact absurd rfl hne
    | 14, _, hne => first | rfl | exact absurd rfl hne
    | 15, _, hne => first | rfl | exact absurd rfl hne
    | 16, _, hne => first | rfl | exact absurd rfl hne
    | 17, _, hne => first | rfl | exact absurd rfl hne
    | 18, _, hne => first | rfl | exact absurd rfl hne
    | 19, _, hne => first | rfl | exact absurd rfl hne
    | 20, _, hne => first | rfl | exact absurd rfl hne
    | 21, _, hne => first | rfl | exact absurd rfl hne
    | 22, _, hne => first | rfl | exact absurd rfl hne
    | 23, _, hne => first | rfl | exact absurd rfl hne
    | n + 24, hj, _ => exact absurd hj (by omega)
/-- length[i] := -/
theorem rq_A4 {i x : Int32} (p' : Nat) (hp : pc + 1 = p') (hi : aIns M pc = some (.iastore, len, a1, b1, v1)) (H : rTo h0 S h) (hin : aIn i 7 = true) (kk : ∀ h1, rTo h0 (rA S 4 (upd (S.2.1 4) i.toNatClampNeg x)) h1 → aWp X d M p' lv t h1 Q) : aWp X d M pc lv (.int x :: .int i :: .ref 385 :: t) h Q :=
  wp_iast p' hp hi (H.1 3 (by decide)) hin (kk _ (H.setJ (S' := rA S 4 (upd (S.2.1 4) i.toNatClampNeg x)) (j0 := 3) (by decide) (by decide) rfl rfl (rn_4 _) rfl))
theorem rn_5 (f : Nat → Int32) : ∀ j, j < 24 → j ≠ 4 → rCa (rA S 5 f) j = rCa S j := by
  intro j hj hne
  match j, hj, hne with
    | 0, _, hne => first | rfl | exact absurd rfl hne
    | 1, _, hne => first | rfl | exact absurd rfl hne
    | 2, _, hne => first | rfl | exact absurd rfl hne
    | 3, _, hne => first | rfl | exact absurd rfl hne
    | 4, _, hne => first | rfl | exact absurd rfl hne
    | 5, _, hne => first | rfl | exact absurd rfl hne
    | 6, _, hne => first | rfl | exact absurd rfl hne
    | 7, _, hne => first | rfl | exact absurd rfl hne
    | 8, _, hne => first | rfl | exact absurd rfl hne
    | 9, _, hne => first | rfl | exact absurd rfl hne
    | 10, _, hne => first | rfl | exact absurd rfl hne
    | 11, _, hne => first | rfl | exact absurd rfl hne
    | 12, _, hne => first | rfl | exact absurd rfl hne
    | 13, _, hne => first | rfl | exact absurd rfl hne
    | 14, _, hne => first | rfl | exact absurd rfl hne
    | 15, _, hne => first | rfl | exact absurd rfl hne
    | 16, _, hne => first | rfl | exact absurd rfl hne
    | 17, _, hne => first | rfl | exact absurd rfl hne
    | 18, _, hne => first | rfl | exact absurd rfl hne
    | 19, _, hne => first | rfl | exact absurd rfl hne
    | 20, _, hne => first | rfl | exact absurd rfl hne
    | 21, _, hne => first | rfl | exact absurd rfl hne
    | 22, _, hne => first | rfl | exact absurd rfl hne
    | 23, _, hne => first | rfl | exact absurd rfl hne
    | n + 24, hj, _ => exact absurd hj (by omega)
/-- clause[i] := -/
theorem rq_A5 {i x : Int32} (p' : Nat) (hp : pc + 1 = p') (hi : aIns M pc = some (.iastore, len, a1, b1, v1)) (H : rTo h0 S h) (hin : aIn i 288 = true) (kk : ∀ h1, rTo h0 (rA S 5 (upd (S.2.1 5) i.toNatClampNeg x)) h1 → aWp X d M p' lv t h1 Q) : aWp X d M pc lv (.int x :: .int i :: .ref 386 :: t) h Q :=
  wp_iast p' hp hi (H.1 4 (by decide)) hin (kk _ (H.setJ (S' := rA S 5 (upd (S.2.1 5) i.toNatClampNeg x)) (j0 := 4) (by decide) (by decide) rfl rfl (rn_5 _) rfl))
theorem rn_6 (f : Nat → Int32) : ∀ j, j < 24 → j ≠ 5 → rCa (rA S 6 f) j = rCa S j := by
  intro j hj hne
  match j, hj, hne with
    | 0, _, hne => first | rfl | exact absurd rfl hne
    | 1, _, hne => first | rfl | exact absurd rfl hne
    | 2, _, hne => first | rfl | exact absurd rfl hne
    | 3, _, hne => first | rfl | exact absurd rfl hne
    | 4, _, hne => first | rfl | exact absurd rfl hne
    | 5, _, hne => first | rfl | exact absurd rfl hne
    | 6, _, hne => first | rfl | exact absurd rfl hne
    | 7, _, hne => first | rfl | exact absurd rfl hne
    | 8, _, hne => first | rfl | exact absurd rfl hne
    | 9, _, hne => first | rfl | exact absurd rfl hne
    | 10, _, hne => first | rfl | exact absurd rfl hne
    | 11, _, hne => first | rfl | exact absurd rfl hne
    | 12, _, hne => first | rfl | exact absurd rfl hne
    | 13, _, hne => first | rfl | exact absurd rfl hne
    | 14, _, hne => first | rfl | exact absurd rfl hne
    | 15, _, hne => first | rfl | exact absurd rfl hne
    | 16, _, hne => first | rfl | exact absurd rfl hne
    | 17, _, hne => first | rfl | exact absurd rfl hne
    | 18, _, hne => first | rfl | exact absurd rfl hne
    | 19, _, hne => first | rfl | exact absurd rfl hne
    | 20, _, hne => first | rfl | exact absurd rfl hne
    | 21, _, hne => first | rfl | exact absurd rfl hne
    | 22, _, hne => first | rfl | exact absurd rfl hne
    | 23, _, hne => first | rfl | exact absurd rfl hne
    | n + 24, hj, _ => exact absurd hj (by omega)
/-- clauses[i] := -/
theorem rq_A6 {i x : Int32} (p' : Nat) (hp : pc + 1 = p') (hi : aIns M pc = some (.iastore, len, a1, b1, v1)) (H : rTo h0 S h) (hin : aIn i 6 = true) (kk : ∀ h1, rTo h0 (rA S 6 (upd (S.2.1 6) i.toNatClampNeg x)) h1 → aWp X d M p' lv t h1 Q) : aWp X d M pc lv (.int x :: .int i :: .ref 387 :: t) h Q :=
  wp_iast p' hp hi (H.1 5 (by decide)) hin (kk _ (H.setJ (S' := rA S 6 (upd (S.2.1 6) i.toNatClampNeg x)) (j0 := 5) (by decide) (by decide) rfl rfl (rn_6 _) rfl))
theorem rn_7 (f : Nat → Int32) : ∀ j, j < 24 → j ≠ 6 → rCa (rA S 7 f) j = rCa S j := by
  intro j hj hne
  match j, hj, hne with
    | 0, _, hne => first | rfl | exact absurd rfl hne
    | 1, _, hne => first | rfl | exact absurd rfl hne
    | 2, _, hne => first | rfl | exact absurd rfl hne
    | 3, _, hne => first | rfl | exact absurd rfl hne
    | 4, _, hne => first | rfl | exact absurd rfl hne
    | 5, _, hne => first | rfl | exact absurd rfl hne
    | 6, _, hne => first | rfl | exact absurd rfl hne
    | 7, _, hne => first | rfl | exact absurd rfl hne
    | 8, _, hne => first | rfl | exact absurd rfl hne
    | 9, _, hne => first | rfl | exact absurd rfl hne
    | 10, _, hne => first | rfl | exact absurd rfl hne
    | 11, _, hne => first | rfl | exact absurd rfl hne
    | 12, _, hne => first | rfl | exact absurd rfl hne
    | 13, _, hne => first | rfl | exact absurd rfl hne
    | 14, _, hne => first | rfl | exact absurd rfl hne
    | 15, _, hne => first | rfl | exact absurd rfl hne
    | 16, _, hne => first | rfl | exact absurd rfl hne
    | 17, _, hne => first | rfl | exact absurd rfl hne
    | 18, _, hne => first | rfl | exact absurd rfl hne
    | 19, _, hne => first | rfl | exact absurd rfl hne
    | 20, _, hne => first | rfl | exact absurd rfl hne
    | 21, _, hne => first | rfl | exact absurd rfl hne
    | 22, _, hne => first | rfl | exact absurd rfl hne
    | 23, _, hne => first | rfl | exact absurd rfl hne
    | n + 24, hj, _ => exact absurd hj (by omega)
/-- read[i] := -/
theorem rq_A7 {i x : Int32} (p' : Nat) (hp : pc + 1 = p') (hi : aIns M pc = some (.iastore, len, a1, b1, v1)) (H : rTo h0 S h) (hin : aIn i 140 = true) (kk : ∀ h1, rTo h0 (rA S 7 (upd (S.2.1 7) i.toNatClampNeg x)) h1 → aWp X d M p' lv t h1 Q) : aWp X d M pc lv (.int x :: .int i :: .ref 388 :: t) h Q :=
  wp_iast p' hp hi (H.1 6 (by decide)) hin (kk _ (H.setJ (S' := rA S 7 (upd (S.2.1 7) i.toNatClampNeg x)) (j0 := 6) (by decide) (by decide) rfl rfl (rn_7 _) rfl))
theorem rn_15 (f : Nat → Int32) : ∀ j, j < 24 → j ≠ 7 → rCa (rA S 15 f) j = rCa S j := by
  intro j hj hne
  match j, hj, hne with
    | 0, _, hne => first | rfl | exact absurd rfl hne
    | 1, _, hne => first | rfl | exact absurd rfl hne
    | 2, _, hne => first | rfl | exact absurd rfl hne
    | 3, _, hne => first | rfl | exact absurd rfl hne
    | 4, _, hne => first | rfl | exact absurd rfl hne
    | 5, _, hne => first | rfl | exact absurd rfl hne
    | 6, _, hne => first | rfl | exact absurd rfl hne
    | 7, _, hne => first | rfl | exact absurd rfl hne
    | 8, _, hne => first | rfl | exact absurd rfl hne
    | 9, _, hne => first | rfl | exact absurd rfl hne
    | 10, _, hne => first | rfl | exact absurd rfl hne
    | 11, _, hne => first | rfl | exact absurd rfl hne
    | 12, _, hne => first | rfl | exact absurd rfl hne
    | 13, _, hne => first | rfl | exact absurd rfl hne
    | 14, _, hne => first | rfl | exact absurd rfl hne
    | 15, _, hne => first | rfl | exact absurd rfl hne
    | 16, _, hne => first | rfl | exact absurd rfl hne
    | 17, _, hne => first | rfl | exact absurd rfl hne
    | 18, _, hne => first | rfl | exact absurd rfl hne
    | 19, _, hne => first | rfl | exact absurd rfl hne
    | 20, _, hne => first | rfl | exact absurd rfl hne
    | 21, _, hne => first | rfl | exact absurd rfl hne
    | 22, _, hne => first | rfl | exact absurd rfl hne
    | 23, _, hne => first | rfl | exact absurd rfl hne
    | n + 24, hj, _ => exact absurd hj (by omega)
/-- open[i] := -/
theorem rq_A15 {i x : Int32} (p' : Nat) (hp : pc + 1 = p') (hi : aIns M pc = some (.iastore, len, a1, b1, v1)) (H : rTo h0 S h) (hin : aIn i 400 = true) (kk : ∀ h1, rTo h0 (rA S 15 (upd (S.2.1 15) i.toNatClampNeg x)) h1 → aWp X d M p' lv t h1 Q) : aWp X d M pc lv (.int x :: .int i :: .ref 389 :: t) h Q :=
  wp_iast p' hp hi (H.1 7 (by decide)) hin (kk _ (H.setJ (S' := rA S 15 (upd (S.2.1 15) i.toNatClampNeg x)) (j0 := 7) (by decide) (by decide) rfl rfl (rn_15 _) rfl))
theorem rn_17 (f : Nat → Int64) : ∀ j, j < 24 → j ≠ 8 → rCa (rK S f) j = rCa S j := by
  intro j hj hne
  match j, hj, hne with
    | 0, _, hne => first | rfl | exact absurd rfl hne
    | 1, _, hne => first | rfl | exact absurd rfl hne
    | 2, _, hne => first | rfl | exact absurd rfl hne
    | 3, _, hne => first | rfl | exact absurd rfl hne
    | 4, _, hne => first | rfl | exact absurd rfl hne
    | 5, _, hne => first | rfl | exact absurd rfl hne
    | 6, _, hne => first | rfl | exact absurd rfl hne
    | 7, _, hne => first | rfl | exact absurd rfl hne
    | 8, _, hne => first | rfl | exact absurd rfl hne
    | 9, _, hne => first | rfl | exact absurd rfl hne
    | 10, _, hne => first | rfl | exact absurd rfl hne
    | 11, _, hne => first | rfl | exact absurd rfl hne
    | 12, _, hne => first | rfl | exact absurd rfl hne
    | 13, _, hne => first | rfl | exact absurd rfl hne
    | 14, _, hne => first | rfl | exact absurd rfl hne
    | 15, _, hne => first | rfl | exact absurd rfl hne
    | 16, _, hne => first | rfl | exact absurd rfl hne
    | 17, _, hne => first | rfl | exact absurd rfl hne
    | 18, _, hne => first | rfl | exact absurd rfl hne
    | 19, _, hne => first | rfl | exact absurd rfl hne
    | 20, _, hne => first | rfl | exact absurd rfl hne
    | 21, _, hne => first | rfl | exact absurd rfl hne
    | 22, _, hne => first | rfl | exact absurd rfl hne
    | 23, _, hne => first | rfl | exact absurd rfl hne
    | n + 24, hj, _ => exact absurd hj (by omega)
/-- stack[i] := -/
theorem rq_A17 {i : Int32} {x : Int64} (p' : Nat) (hp : pc + 1 = p') (hi : aIns M pc = some (.lastore, len, a1, b1, v1)) (H : rTo h0 S h) (hin : aIn i 64 = true) (kk : ∀ h1, rTo h0 (rK S (vp_updL S.2.2.1 i.toNatClampNeg x)) h1 → aWp X d M p' lv t h1 Q) : aWp X d M pc lv (.long x :: .int i :: .ref 390 :: t) h Q :=
  wp_last p' hp hi (H.1 8 (by decide)) hin (kk _ (H.setJ (S' := rK S (vp_updL S.2.2.1 i.toNatClampNeg x)) (j0 := 8) (by decide) (by decide) rfl rfl (rn_17 _) rfl))
theorem rn_19 (f : Nat → Int64) : ∀ j, j < 24 → j ≠ 9 → rCa (rW S f) j = rCa S j := by
  intro j hj hne
  match j, hj, hne with
    | 0, _, hne => first | rfl | exact absurd rfl hne
    | 1, _, hne => first | rfl | exact absurd rfl hne
    | 2, _, hne => first | rfl | exact absurd rfl hne
    | 3, _, hne => first | rfl | exact absurd rfl hne
    | 4, _, hne => first | rfl | exact absurd rfl hne
    | 5, _, hne => first | rfl | exact absurd rfl hne
    | 6, _, hne => first | rfl | exact absurd rfl hne
    | 7, _, hne => first | rfl | exact absurd rfl hne
    | 8, _, hne => first | rfl | exact absurd rfl hne
    | 9, _, hne => first | rfl | exact absurd rfl hne
    | 10, _, hne => first | rfl | exact absurd rfl hne
    | 11, _, hne => first | rfl | exact absurd rfl hne
    | 12, _, hne => first | rfl | exact absurd rfl hne
    | 13, _, hne => first | rfl | exact absurd rfl hne
    | 14, _, hne => first | rfl | exact absurd rfl hne
    | 15, _, hne => first | rfl | exact absurd rfl hne
    | 16, _, hne => first | rfl | exact absurd rfl hne
    | 17, _, hne => first | rfl | exact absurd rfl hne
    | 18, _, hne => first | rfl | exact absurd rfl hne
    | 19, _, hne => first | rfl | exact absurd rfl hne
    | 20, _, hne => first | rfl | exact absurd rfl hne
    | 21, _, hne => first | rfl | exact absurd rfl hne
    | 22, _, hne => first | rfl | exact absurd rfl hne
    | 23, _, hne => first | rfl | exact absurd rfl hne
    | n + 24, hj, _ => exact absurd hj (by omega)
/-- word[i] := -/
theorem rq_A19 {i : Int32} {x : Int64} (p' : Nat) (hp : pc + 1 = p') (hi : aIns M pc = some (.lastore, len, a1, b1, v1)) (H : rTo h0 S h) (hin : aIn i 8 = true) (kk : ∀ h1, rTo h0 (rW S (vp_updL S.2.2.2.1 i.toNatClampNeg x)) h1 → aWp X d M p' lv t h1 Q) : aWp X d M pc lv (.long x :: .int i :: .ref 391 :: t) h Q :=
  wp_last p' hp hi (H.1 9 (by decide)) hin (kk _ (H.setJ (S' := rW S (vp_updL S.2.2.2.1 i.toNatClampNeg x)) (j0 := 9) (by decide) (by decide) rfl rfl (rn_19 _) rfl))
theorem rn_20 (f : Nat → Int32) : ∀ j, j < 24 → j ≠ 10 → rCa (rA S 20 f) j = rCa S j := by
  intro j hj hne
  match j, hj, hne with
    | 0, _, hne => first | rfl | exact absurd rfl hne
    | 1, _, hne => first | rfl | exact absurd rfl hne
    | 2, _, hne => first | rfl | exact absurd rfl hne
    | 3, _, hne => first | rfl | exact absurd rfl hne
    | 4, _, hne => first | rfl | exact absurd rfl hne
    | 5, _, hne => first | rfl | exact absurd rfl hne
    | 6, _, hne => first | rfl | exact absurd rfl hne
    | 7, _, hne => first | rfl | exact absurd rfl hne
    | 8, _, hne => first | rfl | exact absurd rfl hne
    | 9, _, hne => first | rfl | exact absurd rfl hne
    | 10, _, hne => first | rfl | exact absurd rfl hne
    | 11, _, hne => first | rfl | exact absurd rfl hne
    | 12, _, hne => first | rfl | exact absurd rfl hne
    | 13, _, hne => first | rfl | exact absurd rfl hne
    | 14, _, hne => first | rfl | exact absurd rfl hne
    | 15, _, hne => first | rfl | exact absurd rfl hne
    | 16, _, hne => first | rfl | exact absurd rfl hne
    | 17, _, hne => first | rfl | exact absurd rfl hne
    | 18, _, hne => first | rfl | exact absurd rfl hne
    | 19, _, hne => first | rfl | exact absurd rfl hne
    | 20, _, hne => first | rfl | exact absurd rfl hne
    | 21, _, hne => first | rfl | exact absurd rfl hne
    | 22, _, hne => first | rfl | exact absurd rfl hne
    | 23, _, hne => first | rfl | exact absurd rfl hne
    | n + 24, hj, _ => exact absurd hj (by omega)
/-- said[i] := -/
theorem rq_A20 {i x : Int32} (p' : Nat) (hp : pc + 1 = p') (hi : aIns M pc = some (.iastore, len, a1, b1, v1)) (H : rTo h0 S h) (hin : aIn i 181 = true) (kk : ∀ h1, rTo h0 (rA S 20 (upd (S.2.1 20) i.toNatClampNeg x)) h1 → aWp X d M p' lv t h1 Q) : aWp X d M pc lv (.int x :: .int i :: .ref 392 :: t) h Q :=
  wp_iast p' hp hi (H.1 10 (by decide)) hin (kk _ (H.setJ (S' := rA S 20 (upd (S.2.1 20) i.toNatClampNeg x)) (j0 := 10) (by decide) (by decide) rfl rfl (rn_20 _) rfl))
theorem rn_23 (f : Nat → Int32) : ∀ j, j < 24 → j ≠ 11 → rCa (rA S 23 f) j = rCa S j := by
  intro j hj hne
  match j, hj, hne with
    | 0, _, hne => first | rfl | exact absurd rfl hne
    | 1, _, hne => first | rfl | exact absurd rfl hne
    | 2, _, hne => first | rfl | exact absurd rfl hne
    | 3, _, hne => first | rfl | exact absurd rfl hne
    | 4, _, hne => first | rfl | exact absurd rfl hne
    | 5, _, hne => first | rfl | exact absurd rfl hne
    | 6, _, hne => first | rfl | exact absurd rfl hne
    | 7, _, hne => first | rfl | exact absurd rfl hne
    | 8, _, hne => first | rfl | exact absurd rfl hne
    | 9, _, hne => first | rfl | exact absurd rfl hne
    | 10, _, hne => first | rfl | exact absurd rfl hne
    | 11, _, hne => first | rfl | exact absurd rfl hne
    | 12, _, hne => first | rfl | exact absurd rfl hne
    | 13, _, hne => first | rfl | exact absurd rfl hne
    | 14, _, hne => first | rfl | exact absurd rfl hne
    | 15, _, hne => first | rfl | exact absurd rfl hne
    | 16, _, hne => first | rfl | exact absurd rfl hne
    | 17, _, hne => first | rfl | exact absurd rfl hne
    | 18, _, hne => first | rfl | exact absurd rfl hne
    | 19, _, hne => first | rfl | exact absurd rfl hne
    | 20, _, hne => first | rfl | exact absurd rfl hne
    | 21, _, hne => first | rfl | exact absurd rfl hne
    | 22, _, hne => first | rfl | exact absurd rfl hne
    | 23, _, hne => first | rfl | exact absurd rfl hne
    | n + 24, hj, _ => exact absurd hj (by omega)
/-- codeRow[i] := -/
theorem rq_A23 {i x : Int32} (p' : Nat) (hp : pc + 1 = p') (hi : aIns M pc = some (.iastore, len, a1, b1, v1)) (H : rTo h0 S h) (hin : aIn i 5 = true) (kk : ∀ h1, rTo h0 (rA S 23 (upd (S.2.1 23) i.toNatClampNeg x)) h1 → aWp X d M p' lv t h1 Q) : aWp X d M pc lv (.int x :: .int i :: .ref 393 :: t) h Q :=
  wp_iast p' hp hi (H.1 11 (by decide)) hin (kk _ (H.setJ (S' := rA S 23 (upd (S.2.1 23) i.toNatClampNeg x)) (j0 := 11) (by decide) (by decide) rfl rfl (rn_23 _) rfl))
theorem rn_26 (f : Nat → Int32) : ∀ j, j < 24 → j ≠ 12 → rCa (rA S 26 f) j = rCa S j := by
  intro j hj hne
  match j, hj, hne with
    | 0, _, hne => first | rfl | exact absurd rfl hne
    | 1, _, hne => first | rfl | exact absurd rfl hne
    | 2, _, hne => first | rfl | exact absurd rfl hne
    | 3, _, hne => first | rfl | exact absurd rfl hne
    | 4, _, hne => first | rfl | exact absurd rfl hne
    | 5, _, hne => first | rfl | exact absurd rfl hne
    | 6, _, hne => first | rfl | exact absurd rfl hne
    | 7, _, hne => first | rfl | exact absurd rfl hne
    | 8, _, hne => first | rfl | exact absurd rfl hne
    | 9, _, hne => first | rfl | exact absurd rfl hne
    | 10, _, hne => first | rfl | exact absurd rfl hne
    | 11, _, hne => first | rfl | exact absurd rfl hne
    | 12, _, hne => first | rfl | exact absurd rfl hne
    | 13, _, hne => first | rfl | exact absurd rfl hne
    | 14, _, hne => first | rfl | exact absurd rfl hne
    | 15, _, hne => first | rfl | exact absurd rfl hne
    | 16, _, hne => first | rfl | exact absurd rfl hne
    | 17, _, hne => first | rfl | exact absurd rfl hne
    | 18, _, hne => first | rfl | exact absurd rfl hne
    | 19, _, hne => first | rfl | exact absurd rfl hne
    | 20, _, hne => first | rfl | exact absurd rfl hne
    | 21, _, hne => first | rfl | exact absurd rfl hne
    | 22, _, hne => first | rfl | exact absurd rfl hne
    | 23, _, hne => first | rfl | exact absurd rfl hne
    | n + 24, hj, _ => exact absurd hj (by omega)
/-- wasSaid[i] := -/
theorem rq_A26 {i x : Int32} (p' : Nat) (hp : pc + 1 = p') (hi : aIns M pc = some (.iastore, len, a1, b1, v1)) (H : rTo h0 S h) (hin : aIn i 1600 = true) (kk : ∀ h1, rTo h0 (rA S 26 (upd (S.2.1 26) i.toNatClampNeg x)) h1 → aWp X d M p' lv t h1 Q) : aWp X d M pc lv (.int x :: .int i :: .ref 394 :: t) h Q :=
  wp_iast p' hp hi (H.1 12 (by decide)) hin (kk _ (H.setJ (S' := rA S 26 (upd (S.2.1 26) i.toNatClampNeg x)) (j0 := 12) (by decide) (by decide) rfl rfl (rn_26 _) rfl))
theorem rn_28 (f : Nat → Int32) : ∀ j, j < 24 → j ≠ 13 → rCa (rA S 28 f) j = rCa S j := by
  intro j hj hne
  match j, hj, hne with
    | 0, _, hne => first | rfl | exact absurd rfl hne
    | 1, _, hne => first | rfl | exact absurd rfl hne
    | 2, _, hne => first | rfl | exact absurd rfl hne
    | 3, _, hne => first | rfl | exact absurd rfl hne
    | 4, _, hne => first | rfl | exact absurd rfl hne
    | 5, _, hne => first | rfl | exact absurd rfl hne
    | 6, _, hne => first | rfl | exact absurd rfl hne
    | 7, _, hne => first | rfl | exact absurd rfl hne
    | 8, _, hne => first | rfl | exact absurd rfl hne
    | 9, _, hne => first | rfl | exact absurd rfl hne
    | 10, _, hne => first | rfl | exact absurd rfl hne
    | 11, _, hne => first | rfl | exact absurd rfl hne
    | 12, _, hne => first | rfl | exact absurd rfl hne
    | 13, _, hne => first | rfl | exact absurd rfl hne
    | 14, _, hne => first | rfl | exact absurd rfl hne
    | 15, _, hne => first | rfl | exact absurd rfl hne
    | 16, _, hne => first | rfl | exact absurd rfl hne
    | 17, _, hne => first | rfl | exact absurd rfl hne
    | 18, _, hne => first | rfl | exact absurd rfl hne
    | 19, _, hne => first | rfl | exact absurd rfl hne
    | 20, _, hne => first | rfl | exact absurd rfl hne
    | 21, _, hne => first | rfl | exact absurd rfl hne
    | 22, _, hne => first | rfl | exact absurd rfl hne
    | 23, _, hne => first | rfl | exact absurd rfl hne
    | n + 24, hj, _ => exact absurd hj (by omega)
/-- bestRow[i] := -/
theorem rq_A28 {i x : Int32} (p' : Nat) (hp : pc + 1 = p') (hi : aIns M pc = some (.iastore, len, a1, b1, v1)) (H : rTo h0 S h) (hin : aIn i 8 = true) (kk : ∀ h1, rTo h0 (rA S 28 (upd (S.2.1 28) i.toNatClampNeg x)) h1 → aWp X d M p' lv t h1 Q) : aWp X d M pc lv (.int x :: .int i :: .ref 395 :: t) h Q :=
  wp_iast p' hp hi (H.1 13 (by decide)) hin (kk _ (H.setJ (S' := rA S 28 (upd (S.2.1 28) i.toNatClampNeg x)) (j0 := 13) (by decide) (by decide) rfl rfl (rn_28 _) rfl))
theorem rn_31 (f : Nat → Int32) : ∀ j, j < 24 → j ≠ 14 → rCa (rA S 31 f) j = rCa S j := by
  intro j hj hne
  match j, hj, hne with
    | 0, _, hne => first | rfl | exact absurd rfl hne
    | 1, _, hne => first | rfl | exact absurd rfl hne
    | 2, _, hne => first | rfl | exact absurd rfl hne
    | 3, _, hne => first | rfl | exact absurd rfl hne
    | 4, _, hne => first | rfl | exact absurd rfl hne
    | 5, _, hne => first | rfl | exact absurd rfl hne
    | 6, _, hne => first | rfl | exact absurd rfl hne
    | 7, _, hne => first | rfl | exact absurd rfl hne
    | 8, _, hne => first | rfl | exact absurd rfl hne
    | 9, _, hne => first | rfl | exact absurd rfl hne
    | 10, _, hne => first | rfl | exact absurd rfl hne
    | 11, _, hne => first | rfl | exact absurd rfl hne
    | 12, _, hne => first | rfl | exact absurd rfl hne
    | 13, _, hne => first | rfl | exact absurd rfl hne
    | 14, _, hne => first | rfl | exact absurd rfl hne
    | 15, _, hne => first | rfl | exact absurd rfl hne
    | 16, _, hne => first | rfl | exact absurd rfl hne
    | 17, _, hne => first | rfl | exact absurd rfl hne
    | 18, _, hne => first | rfl | exact absurd rfl hne
    | 19, _, hne => first | rfl | exact absurd rfl hne
    | 20, _, hne => first | rfl | exact absurd rfl hne
    | 21, _, hne => first | rfl | exact absurd rfl hne
    | 22, _, hne => first | rfl | exact absurd rfl hne
    | 23, _, hne => first | rfl | exact absurd rfl hne
    | n + 24, hj, _ => exact absurd hj (by omega)
/-- thingRow[i] := -/
theorem rq_A31 {i x : Int32} (p' : Nat) (hp : pc + 1 = p') (hi : aIns M pc = some (.iastore, len, a1, b1, v1)) (H : rTo h0 S h) (hin : aIn i 4 = true) (kk : ∀ h1, rTo h0 (rA S 31 (upd (S.2.1 31) i.toNatClampNeg x)) h1 → aWp X d M p' lv t h1 Q) : aWp X d M pc lv (.int x :: .int i :: .ref 396 :: t) h Q :=
  wp_iast p' hp hi (H.1 14 (by decide)) hin (kk _ (H.setJ (S' := rA S 31 (upd (S.2.1 31) i.toNatClampNeg x)) (j0 := 14) (by decide) (by decide) rfl rfl (rn_31 _) rfl))
theorem rn_32 (f : Nat → Int32) : ∀ j, j < 24 → j ≠ 15 → rCa (rA S 32 f) j = rCa S j := by
  intro j hj hne
  match j, hj, hne with
    | 0, _, hne => first | rfl | exact absurd rfl hne
    | 1, _, hne => first | rfl | exact absurd rfl hne
    | 2, _, hne => first | rfl | exact absurd rfl hne
    | 3, _, hne => first | rfl | exact absurd rfl hne
    | 4, _, hne => first | rfl | exact absurd rfl hne
    | 5, _, hne => first | rfl | exact absurd rfl hne
    | 6, _, hne => first | rfl | exact absurd rfl hne
    | 7, _, hne => first | rfl | exact absurd rfl hne
    | 8, _, hne => first | rfl | exact absurd rfl hne
    | 9, _, hne => first | rfl | exact absurd rfl hne
    | 10, _, hne => first | rfl | exact absurd rfl hne
    | 11, _, hne => first | rfl | exact absurd rfl hne
    | 12, _, hne => first | rfl | exact absurd rfl hne
    | 13, _, hne => first | rfl | exact absurd rfl hne
    | 14, _, hne => first | rfl | exact absurd rfl hne
    | 15, _, hne => first | rfl | exact absurd rfl hne
    | 16, _, hne => first | rfl | exact absurd rfl hne
    | 17, _, hne => first | rfl | exact absurd rfl hne
    | 18, _, hne => first | rfl | exact absurd rfl hne
    | 19, _, hne => first | rfl | exact absurd rfl hne
    | 20, _, hne => first | rfl | exact absurd rfl hne
    | 21, _, hne => first | rfl | exact absurd rfl hne
    | 22, _, hne => first | rfl | exact absurd rfl hne
    | 23, _, hne => first | rfl | exact absurd rfl hne
    | n + 24, hj, _ => exact absurd hj (by omega)
/-- wantRow[i] := -/
theorem rq_A32 {i x : Int32} (p' : Nat) (hp : pc + 1 = p') (hi : aIns M pc = some (.iastore, len, a1, b1, v1)) (H : rTo h0 S h) (hin : aIn i 6 = true) (kk : ∀ h1, rTo h0 (rA S 32 (upd (S.2.1 32) i.toNatClampNeg x)) h1 → aWp X d M p' lv t h1 Q) : aWp X d M pc lv (.int x :: .int i :: .ref 397 :: t) h Q :=
  wp_iast p' hp hi (H.1 15 (by decide)) hin (kk _ (H.setJ (S' := rA S 32 (upd (S.2.1 32) i.toNatClampNeg x)) (j0 := 15) (by decide) (by decide) rfl rfl (rn_32 _) rfl))
theorem rn_33 (f : Nat → Int32) : ∀ j, j < 24 → j ≠ 16 → rCa (rA S 33 f) j = rCa S j := by
  intro j hj hne
  match j, hj, hne with
    | 0, _, hne => first | rfl | exact absurd rfl hne
    | 1, _, hne => first | rfl | exact absurd rfl hne
    | 2, _, hne => first | rfl | exact absurd rfl hne
    | 3, _, hne => first | rfl | exact absurd rfl hne
    | 4, _, hne => first | rfl | exact absurd rfl hne
    | 5, _, hne => first | rfl | exact absurd rfl hne
    | 6, _, hne => first | rfl | exact absurd rfl hne
    | 7, _, hne => first | rfl | exact absurd rfl hne
    | 8, _, hne => first | rfl | exact absurd rfl hne
    | 9, _, hne => first | rfl | exact absurd rfl hne
    | 10, _, hne => first | rfl | exact absurd rfl hne
    | 11, _, hne => first | rfl | exact absurd rfl hne
    | 12, _, hne => first | rfl | exact absurd rfl hne
    | 13, _, hne => first | rfl | exact absurd rfl hne
    | 14, _, hne => first | rfl | exact absurd rfl hne
    | 15, _, hne => first | rfl | exact absurd rfl hne
    | 16, _, hne => first | rfl | exact absurd rfl hne
    | 17, _, hne => first | rfl | exact absurd rfl hne
    | 18, _, hne => first | rfl | exact absurd rfl hne
    | 19, _, hne => first | rfl | exact absurd rfl hne
    | 20, _, hne => first | rfl | exact absurd rfl hne
    | 21, _, hne => first | rfl | exact absurd rfl hne
    | 22, _, hne => first | rfl | exact absurd rfl hne
    | 23, _, hne => first | rfl | exact absurd rfl hne
    | n + 24, hj, _ => exact absurd hj (by omega)
/-- sums[i] := -/
theorem rq_A33 {i x : Int32} (p' : Nat) (hp : pc + 1 = p') (hi : aIns M pc = some (.iastore, len, a1, b1, v1)) (H : rTo h0 S h) (hin : aIn i 6 = true) (kk : ∀ h1, rTo h0 (rA S 33 (upd (S.2.1 33) i.toNatClampNeg x)) h1 → aWp X d M p' lv t h1 Q) : aWp X d M pc lv (.int x :: .int i :: .ref 398 :: t) h Q :=
  wp_iast p' hp hi (H.1 16 (by decide)) hin (kk _ (H.setJ (S' := rA S 33 (upd (S.2.1 33) i.toNatClampNeg x)) (j0 := 16) (by decide) (by decide) rfl rfl (rn_33 _) rfl))
theorem rn_34 (f : Nat → Int32) : ∀ j, j < 24 → j ≠ 17 → rCa (rA S 34 f) j = rCa S j := by
  intro j hj hne
  match j, hj, hne with
    | 0, _, hne => first | rfl | exact absurd rfl hne
    | 1, _, hne => first | rfl | exact absurd rfl hne
    | 2, _, hne => first | rfl | exact absurd rfl hne
    | 3, _, hne => first | rfl | exact absurd rfl hne
    | 4, _, hne => first | rfl | exact absurd rfl hne
    | 5, _, hne => first | rfl | exact absurd rfl hne
    | 6, _, hne => first | rfl | exact absurd rfl hne
    | 7, _, hne => first | rfl | exact absurd rfl hne
    | 8, _, hne => first | rfl | exact absurd rfl hne
    | 9, _, hne => first | rfl | exact absurd rfl hne
    | 10, _, hne => first | rfl | exact absurd rfl hne
    | 11, _, hne => first | rfl | exact absurd rfl hne
    | 12, _, hne => first | rfl | exact absurd rfl hne
    | 13, _, hne => first | rfl | exact absurd rfl hne
    | 14, _, hne => first | rfl | exact absurd rfl hne
    | 15, _, hne => first | rfl | exact absurd rfl hne
    | 16, _, hne => first | rfl | exact absurd rfl hne
    | 17, _, hne => first | rfl | exact absurd rfl hne
    | 18, _, hne => first | rfl | exact absurd rfl hne
    | 19, _, hne => first | rfl | exact absurd rfl hne
    | 20, _, hne => first | rfl | exact absurd rfl hne
    | 21, _, hne => first | rfl | exact absurd rfl hne
    | 22, _, hne => first | rfl | exact absurd rfl hne
    | 23, _, hne => first | rfl | exact absurd rfl hne
    | n + 24, hj, _ => exact absurd hj (by omega)
/-- kept[i] := -/
theorem rq_A34 {i x : Int32} (p' : Nat) (hp : pc + 1 = p') (hi : aIns M pc = some (.iastore, len, a1, b1, v1)) (H : rTo h0 S h) (hin : aIn i 80 = true) (kk : ∀ h1, rTo h0 (rA S 34 (upd (S.2.1 34) i.toNatClampNeg x)) h1 → aWp X d M p' lv t h1 Q) : aWp X d M pc lv (.int x :: .int i :: .ref 399 :: t) h Q :=
  wp_iast p' hp hi (H.1 17 (by decide)) hin (kk _ (H.setJ (S' := rA S 34 (upd (S.2.1 34) i.toNatClampNeg x)) (j0 := 17) (by decide) (by decide) rfl rfl (rn_34 _) rfl))
theorem rn_35 (f : Nat → Int32) : ∀ j, j < 24 → j ≠ 18 → rCa (rA S 35 f) j = rCa S j := by
  intro j hj hne
  match j, hj, hne with
    | 0, _, hne => first | rfl | exact absurd rfl hne
    | 1, _, hne => first | rfl | exact absurd rfl hne
    | 2, _, hne => first | rfl | exact absurd rfl hne
    | 3, _, hne => first | rfl | exact absurd rfl hne
    | 4, _, hne => first | rfl | exact absurd rfl hne
    | 5, _, hne => first | rfl | exact absurd rfl hne
    | 6, _, hne => first | rfl | exact absurd rfl hne
    | 7, _, hne => first | rfl | exact absurd rfl hne
    | 8, _, hne => first | rfl | exact absurd rfl hne
    | 9, _, hne => first | rfl | exact absurd rfl hne
    | 10, _, hne => first | rfl | exact absurd rfl hne
    | 11, _, hne => first | rfl | exact absurd rfl hne
    | 12, _, hne => first | rfl | exact absurd rfl hne
    | 13, _, hne => first | rfl | exact absurd rfl hne
    | 14, _, hne => first | rfl | exact absurd rfl hne
    | 15, _, hne => first | rfl | exact absurd rfl hne
    | 16, _, hne => first | rfl | exact absurd rfl hne
    | 17, _, hne => first | rfl | exact absurd rfl hne
    | 18, _, hne => first | rfl | exact absurd rfl hne
    | 19, _, hne => first | rfl | exact absurd rfl hne
    | 20, _, hne => first | rfl | exact absurd rfl hne
    | 21, _, hne => first | rfl | exact absurd rfl hne
    | 22, _, hne => first | rfl | exact absurd rfl hne
    | 23, _, hne => first | rfl | exact absurd rfl hne
    | n + 24, hj, _ => exact absurd hj (by omega)
/-- sentRow[i] := -/
theorem rq_A35 {i x : Int32} (p' : Nat) (hp : pc + 1 = p') (hi : aIns M pc = some (.iastore, len, a1, b1, v1)) (H : rTo h0 S h) (hin : aIn i 8 = true) (kk : ∀ h1, rTo h0 (rA S 35 (upd (S.2.1 35) i.toNatClampNeg x)) h1 → aWp X d M p' lv t h1 Q) : aWp X d M pc lv (.int x :: .int i :: .ref 400 :: t) h Q :=
  wp_iast p' hp hi (H.1 18 (by decide)) hin (kk _ (H.setJ (S' := rA S 35 (upd (S.2.1 35) i.toNatClampNeg x)) (j0 := 18) (by decide) (by decide) rfl rfl (rn_35 _) rfl))
theorem rn_39 (f : Nat → Int32) : ∀ j, j < 24 → j ≠ 19 → rCa (rA S 39 f) j = rCa S j := by
  intro j hj hne
  match j, hj, hne with
    | 0, _, hne => first | rfl | exact absurd rfl hne
    | 1, _, hne => first | rfl | exact absurd rfl hne
    | 2, _, hne => first | rfl | exact absurd rfl hne
    | 3, _, hne => first | rfl | exact absurd rfl hne
    | 4, _, hne => first | rfl | exact absurd rfl hne
    | 5, _, hne => first | rfl | exact absurd rfl hne
    | 6, _, hne => first | rfl | exact absurd rfl hne
    | 7, _, hne => first | rfl | exact absurd rfl hne
    | 8, _, hne => first | rfl | exact absurd rfl hne
    | 9, _, hne => first | rfl | exact absurd rfl hne
    | 10, _, hne => first | rfl | exact absurd rfl hne
    | 11, _, hne => first | rfl | exact absurd rfl hne
    | 12, _, hne => first | rfl | exact absurd rfl hne
    | 13, _, hne => first | rfl | exact absurd rfl hne
    | 14, _, hne => first | rfl | exact absurd rfl hne
    | 15, _, hne => first | rfl | exact absurd rfl hne
    | 16, _, hne => first | rfl | exact absurd rfl hne
    | 17, _, hne => first | rfl | exact absurd rfl hne
    | 18, _, hne => first | rfl | exact absurd rfl hne
    | 19, _, hne => first | rfl | exact absurd rfl hne
    | 20, _, hne => first | rfl | exact absurd rfl hne
    | 21, _, hne => first | rfl | exact absurd rfl hne
    | 22, _, hne => first | rfl | exact absurd rfl hne
    | 23, _, hne => first | rfl | exact absurd rfl hne
    | n + 24, hj, _ => exact absurd hj (by omega)
/-- dears[i] := -/
theorem rq_A39 {i x : Int32} (p' : Nat) (hp : pc + 1 = p') (hi : aIns M pc = some (.iastore, len, a1, b1, v1)) (H : rTo h0 S h) (hin : aIn i 7 = true) (kk : ∀ h1, rTo h0 (rA S 39 (upd (S.2.1 39) i.toNatClampNeg x)) h1 → aWp X d M p' lv t h1 Q) : aWp X d M pc lv (.int x :: .int i :: .ref 401 :: t) h Q :=
  wp_iast p' hp hi (H.1 19 (by decide)) hin (kk _ (H.setJ (S' := rA S 39 (upd (S.2.1 39) i.toNatClampNeg x)) (j0 := 19) (by decide) (by decide) rfl rfl (rn_39 _) rfl))
theorem rn_43 (f : Nat → Int32) : ∀ j, j < 24 → j ≠ 20 → rCa (rA S 43 f) j = rCa S j := by
  intro j hj hne
  match j, hj, hne with
    | 0, _, hne => first | rfl | exact absurd rfl hne
    | 1, _, hne => first | rfl | exact absurd rfl hne
    | 2, _, hne => first | rfl | exact absurd rfl hne
    | 3, _, hne => first | rfl | exact absurd rfl hne
    | 4, _, hne => first | rfl | exact absurd rfl hne
    | 5, _, hne => first | rfl | exact absurd rfl hne
    | 6, _, hne => first | rfl | exact absurd rfl hne
    | 7, _, hne => first | rfl | exact absurd rfl hne
    | 8, _, hne => first | rfl | exact absurd rfl hne
    | 9, _, hne => first | rfl | exact absurd rfl hne
    | 10, _, hne => first | rfl | exact absurd rfl hne
    | 11, _, hne => first | rfl | exact absurd rfl hne
    | 12, _, hne => first | rfl | exact absurd rfl hne
    | 13, _, hne => first | rfl | exact absurd rfl hne
    | 14, _, hne => first | rfl | exact absurd rfl hne
    | 15, _, hne => first | rfl | exact absurd rfl hne
    | 16, _, hne => first | rfl | exact absurd rfl hne
    | 17, _, hne => first | rfl | exact absurd rfl hne
    | 18, _, hne => first | rfl | exact absurd rfl hne
    | 19, _, hne => first | rfl | exact absurd rfl hne
    | 20, _, hne => first | rfl | exact absurd rfl hne
    | 21, _, hne => first | rfl | exact absurd rfl hne
    | 22, _, hne => first | rfl | exact absurd rfl hne
    | 23, _, hne => first | rfl | exact absurd rfl hne
    | n + 24, hj, _ => exact absurd hj (by omega)
/-- images[i] := -/
theorem rq_A43 {i x : Int32} (p' : Nat) (hp : pc + 1 = p') (hi : aIns M pc = some (.iastore, len, a1, b1, v1)) (H : rTo h0 S h) (hin : aIn i 724 = true) (kk : ∀ h1, rTo h0 (rA S 43 (upd (S.2.1 43) i.toNatClampNeg x)) h1 → aWp X d M p' lv t h1 Q) : aWp X d M pc lv (.int x :: .int i :: .ref 402 :: t) h Q :=
  wp_iast p' hp hi (H.1 20 (by decide)) hin (kk _ (H.setJ (S' := rA S 43 (upd (S.2.1 43) i.toNatClampNeg x)) (j0 := 20) (by decide) (by decide) rfl rfl (rn_43 _) rfl))
theorem rn_44 (f : Nat → Int32) : ∀ j, j < 24 → j ≠ 21 → rCa (rA S 44 f) j = rCa S j := by
  intro j hj hne
  match j, hj, hne with
    | 0, _, hne => first | rfl | exact absurd rfl hne
    | 1, _, hne => first | rfl | exact absurd rfl hne
    | 2, _, hne => first | rfl | exact absurd rfl hne
    | 3, _, hne => first | rfl | exact absurd rfl hne
    | 4, _, hne => first | rfl | exact absurd rfl hne
    | 5, _, hne => first | rfl | exact absurd rfl hne
    | 6, _, hne => first | rfl | exact absurd rfl hne
    | 7, _, hne => first | rfl | exact absurd rfl hne
    | 8, _, hne => first | rfl | exact absurd rfl hne
    | 9, _, hne => first | rfl | exact absurd rfl hne
    | 10, _, hne => first | rfl | exact absurd rfl hne
    | 11, _, hne => first | rfl | exact absurd rfl hne
    | 12, _, hne => first | rfl | exact absurd rfl hne
    | 13, _, hne => first | rfl | exact absurd rfl hne
    | 14, _, hne => first | rfl | exact absurd rfl hne
    | 15, _, hne => first | rfl | exact absurd rfl hne
    | 16, _, hne => first | rfl | exact absurd rfl hne
    | 17, _, hne => first | rfl | exact absurd rfl hne
    | 18, _, hne => first | rfl | exact absurd rfl hne
    | 19, _, hne => first | rfl | exact absurd rfl hne
    | 20, _, hne => first | rfl | exact absurd rfl hne
    | 21, _, hne => first | rfl | exact absurd rfl hne
    | 22, _, hne => first | rfl | exact absurd rfl hne
    | 23, _, hne => first | rfl | exact absurd rfl hne
    | n + 24, hj, _ => exact absurd hj (by omega)
/-- imageForce[i] := -/
theorem rq_A44 {i x : Int32} (p' : Nat) (hp : pc + 1 = p') (hi : aIns M pc = some (.iastore, len, a1, b1, v1)) (H : rTo h0 S h) (hin : aIn i 4 = true) (kk : ∀ h1, rTo h0 (rA S 44 (upd (S.2.1 44) i.toNatClampNeg x)) h1 → aWp X d M p' lv t h1 Q) : aWp X d M pc lv (.int x :: .int i :: .ref 403 :: t) h Q :=
  wp_iast p' hp hi (H.1 21 (by decide)) hin (kk _ (H.setJ (S' := rA S 44 (upd (S.2.1 44) i.toNatClampNeg x)) (j0 := 21) (by decide) (by decide) rfl rfl (rn_44 _) rfl))
theorem rn_45 (f : Nat → Int32) : ∀ j, j < 24 → j ≠ 22 → rCa (rA S 45 f) j = rCa S j := by
  intro j hj hne
  match j, hj, hne with
    | 0, _, hne => first | rfl | exact absurd rfl hne
    | 1, _, hne => first | rfl | exact absurd rfl hne
    | 2, _, hne => first | rfl | exact absurd rfl hne
    | 3, _, hne => first | rfl | exact absurd rfl hne
    | 4, _, hne => first | rfl | exact absurd rfl hne
    | 5, _, hne => first | rfl | exact absurd rfl hne
    | 6, _, hne => first | rfl | exact absurd rfl hne
    | 7, _, hne => first | rfl | exact absurd rfl hne
    | 8, _, hne => first | rfl | exact absurd rfl hne
    | 9, _, hne => first | rfl | exact absurd rfl hne
    | 10, _, hne => first | rfl | exact absurd rfl hne
    | 11, _, hne => first | rfl | exact absurd rfl hne
    | 12, _, hne => first | rfl | exact absurd rfl hne
    | 13, _, hne => first | rfl | exact absurd rfl hne
    | 14, _, hne => first | rfl | exact absurd rfl hne
    | 15, _, hne => first | rfl | exact absurd rfl hne
    | 16, _, hne => first | rfl | exact absurd rfl hne
    | 17, _, hne => first | rfl | exact absurd rfl hne
    | 18, _, hne => first | rfl | exact absurd rfl hne
    | 19, _, hne => first | rfl | exact absurd rfl hne
    | 20, _, hne => first | rfl | exact absurd rfl hne
    | 21, _, hne => first | rfl | exact absurd rfl hne
    | 22, _, hne => first | rfl | exact absurd rfl hne
    | 23, _, hne => first | rfl | exact absurd rfl hne
    | n + 24, hj, _ => exact absurd hj (by omega)
/-- imageX[i] := -/
theorem rq_A45 {i x : Int32} (p' : Nat) (hp : pc + 1 = p') (hi : aIns M pc = some (.iastore, len, a1, b1, v1)) (H : rTo h0 S h) (hin : aIn i 4 = true) (kk : ∀ h1, rTo h0 (rA S 45 (upd (S.2.1 45) i.toNatClampNeg x)) h1 → aWp X d M p' lv t h1 Q) : aWp X d M pc lv (.int x :: .int i :: .ref 404 :: t) h Q :=
  wp_iast p' hp hi (H.1 22 (by decide)) hin (kk _ (H.setJ (S' := rA S 45 (upd (S.2.1 45) i.toNatClampNeg x)) (j0 := 22) (by decide) (by decide) rfl rfl (rn_45 _) rfl))
theorem rn_46 (f : Nat → Int32) : ∀ j, j < 24 → j ≠ 23 → rCa (rA S 46 f) j = rCa S j := by
  intro j hj hne
  match j, hj, hne with
    | 0, _, hne => first | rfl | exact absurd rfl hne
    | 1, _, hne => first | rfl | exact absurd rfl hne
    | 2, _, hne => first | rfl | exact absurd rfl hne
    | 3, _, hne => first | rfl | exact absurd rfl hne
    | 4, _, hne => first | rfl | exact absurd rfl hne
    | 5, _, hne => first | rfl | exact absurd rfl hne
    | 6, _, hne => first | rfl | exact absurd rfl hne
    | 7, _, hne => first | rfl | exact absurd rfl hne
    | 8, _, hne => first | rfl | exact absurd rfl hne
    | 9, _, hne => first | rfl | exact absurd rfl hne
    | 10, _, hne => first | rfl | exact absurd rfl hne
    | 11, _, hne => first | rfl | exact absurd rfl hne
    | 12, _, hne => first | rfl | exact absurd rfl hne
    | 13, _, hne => first | rfl | exact absurd rfl hne
    | 14, _, hne => first | rfl | exact absurd rfl hne
    | 15, _, hne => first | rfl | exact absurd rfl hne
    | 16, _, hne => first | rfl | exact absurd rfl hne
    | 17, _, hne => first | rfl | exact absurd rfl hne
    | 18, _, hne => first | rfl | exact absurd rfl hne
    | 19, _, hne => first | rfl | exact absurd rfl hne
    | 20, _, hne => first | rfl | exact absurd rfl hne
    | 21, _, hne => first | rfl | exact absurd rfl hne
    | 22, _, hne => first | rfl | exact absurd rfl hne
    | 23, _, hne => first | rfl | exact absurd rfl hne
    | n + 24, hj, _ => exact absurd hj (by omega)
/-- isMade[i] := -/
theorem rq_A46 {i x : Int32} (p' : Nat) (hp : pc + 1 = p') (hi : aIns M pc = some (.bastore, len, a1, b1, v1)) (H : rTo h0 S h) (hin : aIn i 4 = true) (kk : ∀ h1, rTo h0 (rA S 46 (upd (S.2.1 46) i.toNatClampNeg (vp_nar .boolean x))) h1 → aWp X d M p' lv t h1 Q) : aWp X d M pc lv (.int x :: .int i :: .ref 405 :: t) h Q :=
  wp_zast p' hp hi (H.1 23 (by decide)) hin (kk _ (H.setJ (S' := rA S 46 (upd (S.2.1 46) i.toNatClampNeg (vp_nar .boolean x))) (j0 := 23) (by decide) (by decide) rfl rfl (rn_46 _) rfl))
end RQ
