/-! rules where ints are natural numbers (nI) -/
theorem aIn_nI {a n : Nat} (h : a < n) (hn : n ≤ 4096) : aIn (nI a) n = true := by
  unfold aIn
  rw [nI_clamp (by omega)]
  simp only [decide_eq_true (nI_pos (show a < 2 ^ 31 by omega)), decide_eq_true h, Bool.and_self]
section R22
variable {X : aX} {d M pc : Nat} {lv : aL} {t : List Value} {h : aH} {Q : Option Value → aH → Prop} {len a1 b1 : Nat} {v1 : Value}
theorem wp_top {x y : Int32} (e : x = y) (k : aWp X d M pc lv (.int y :: t) h Q) : aWp X d M pc lv (.int x :: t) h Q := by rw [e]; exact k
theorem wp_topl {x y : Int64} (e : x = y) (k : aWp X d M pc lv (.long y :: t) h Q) : aWp X d M pc lv (.long x :: t) h Q := by rw [e]; exact k
theorem wp_stk {s1 s2 : List Value} (e : s1 = s2) (k : aWp X d M pc lv s2 h Q) : aWp X d M pc lv s1 h Q := by rw [e]; exact k
theorem wp_lv {l1 l2 : aL} (e : l1 = l2) (k : aWp X d M pc l2 t h Q) : aWp X d M pc l1 t h Q := by rw [e]; exact k
theorem wp_ialdN {a n i : Nat} {f : Nat → Int32} (p' : Nat) (hp : pc + 1 = p') (hi : aIns M pc = some (.iaload, len, a1, b1, v1)) (hc : h[a]? = some (.inl (0, n, .inl f))) (hn : n ≤ 4096) (hin : i < n) (kk : aWp X d M p' lv (.int (f i) :: t) h Q) : aWp X d M pc lv (.int (nI i) :: .ref a :: t) h Q := by
  refine wp_iald p' hp hi hc (aIn_nI hin hn) ?_
  rw [nI_clamp (by omega)]
  exact kk
theorem wp_baldN {a n i : Nat} {f : Nat → Int32} (p' : Nat) (hp : pc + 1 = p') (hi : aIns M pc = some (.baload, len, a1, b1, v1)) {tag : Nat} (ht : tag = 1 ∨ tag = 2) (hc : h[a]? = some (.inl (tag, n, .inl f))) (hn : n ≤ 4096) (hin : i < n) (kk : aWp X d M p' lv (.int (f i) :: t) h Q) : aWp X d M pc lv (.int (nI i) :: .ref a :: t) h Q := by
  refine wp_bald p' hp hi ht hc (aIn_nI hin hn) ?_
  rw [nI_clamp (by omega)]
  exact kk
theorem wp_laldN {a n i : Nat} {f : Nat → Int64} (p' : Nat) (hp : pc + 1 = p') (hi : aIns M pc = some (.laload, len, a1, b1, v1)) (hc : h[a]? = some (.inl (3, n, .inr (.inl f)))) (hn : n ≤ 4096) (hin : i < n) (kk : aWp X d M p' lv (.long (f i) :: t) h Q) : aWp X d M pc lv (.int (nI i) :: .ref a :: t) h Q := by
  refine wp_lald p' hp hi hc (aIn_nI hin hn) ?_
  rw [nI_clamp (by omega)]
  exact kk
theorem wp_if_of {f : Int32 → Bool} {c : Int32 → Prop} {r : aI} {x : Int32} {p1 p2 : Nat} (hf : ∀ z, f z = true ↔ c z) (hi : aIns M pc = some r) (hs : aStep X r pc lv (.int x :: t) h = some (.inl (if f x = true then p1 else p2, lv, t, h))) (k1 : c x → aWp X d M p1 lv t h Q) (k2 : ¬ c x → aWp X d M p2 lv t h Q) : aWp X d M pc lv (.int x :: t) h Q :=
  wp_br p1 p2 lv t h hi hs (fun z => k1 ((hf x).mp z)) (fun z => k2 (fun q => by rw [(hf x).mpr q] at z; cases z))
theorem wp_cmp_of {f : Int32 → Int32 → Bool} {c : Int32 → Int32 → Prop} {r : aI} {x y : Int32} {p1 p2 : Nat} (hf : ∀ z w, f z w = true ↔ c z w) (hi : aIns M pc = some r) (hs : aStep X r pc lv (.int y :: .int x :: t) h = some (.inl (if f x y = true then p1 else p2, lv, t, h))) (k1 : c x y → aWp X d M p1 lv t h Q) (k2 : ¬ c x y → aWp X d M p2 lv t h Q) : aWp X d M pc lv (.int y :: .int x :: t) h Q :=
  wp_br p1 p2 lv t h hi hs (fun z => k1 ((hf x y).mp z)) (fun z => k2 (fun q => by rw [(hf x y).mpr q] at z; cases z))
theorem wp_if_eq {off : Int} {x : Int32} (p1 p2 : Nat) (hp1 : ((pc : Int) + off).toNat = p1) (hp2 : pc + 3 = p2) (hi : aIns M pc = some (.ifCond .eq off, len, a1, b1, v1)) (k1 : x = 0 → aWp X d M p1 lv t h Q) (k2 : ¬ (x = 0) → aWp X d M p2 lv t h Q) : aWp X d M pc lv (.int x :: t) h Q := by
  subst hp1; subst hp2
  exact wp_if_of (f := fun x => decide (x = 0)) (c := fun x => x = 0) (fun z => decide_eq_true_iff) hi rfl k1 k2
theorem wp_cmp_eq {off : Int} {x y : Int32} (p1 p2 : Nat) (hp1 : ((pc : Int) + off).toNat = p1) (hp2 : pc + 3 = p2) (hi : aIns M pc = some (.if_icmp .eq off, len, a1, b1, v1)) (k1 : x = y → aWp X d M p1 lv t h Q) (k2 : ¬ (x = y) → aWp X d M p2 lv t h Q) : aWp X d M pc lv (.int y :: .int x :: t) h Q := by
  subst hp1; subst hp2
  exact wp_cmp_of (f := fun x y => decide (x = y)) (c := fun x y => x = y) (fun z w => decide_eq_true_iff) hi rfl k1 k2
theorem wp_cmpN_eq {off : Int} {a b : Nat} (p1 p2 : Nat) (hp1 : ((pc : Int) + off).toNat = p1) (hp2 : pc + 3 = p2) (hi : aIns M pc = some (.if_icmp .eq off, len, a1, b1, v1)) (ha : a < 2 ^ 31) (hb : b < 2 ^ 31) (k1 : a = b → aWp X d M p1 lv t h Q) (k2 : ¬ (a = b) → aWp X d M p2 lv t h Q) : aWp X d M pc lv (.int (nI b) :: .int (nI a) :: t) h Q :=
  wp_cmp_eq p1 p2 hp1 hp2 hi (fun z => k1 ((nI_eq ha hb).mp z)) (fun z => k2 (fun q => z ((nI_eq ha hb).mpr q)))
theorem wp_if_ne {off : Int} {x : Int32} (p1 p2 : Nat) (hp1 : ((pc : Int) + off).toNat = p1) (hp2 : pc + 3 = p2) (hi : aIns M pc = some (.ifCond .ne off, len, a1, b1, v1)) (k1 : ¬ x = 0 → aWp X d M p1 lv t h Q) (k2 : ¬ (¬ x = 0) → aWp X d M p2 lv t h Q) : aWp X d M pc lv (.int x :: t) h Q := by
  subst hp1; subst hp2
  exact wp_if_of (f := fun x => decide (¬ x = 0)) (c := fun x => ¬ x = 0) (fun z => decide_eq_true_iff) hi rfl k1 k2
theorem wp_cmp_ne {off : Int} {x y : Int32} (p1 p2 : Nat) (hp1 : ((pc : Int) + off).toNat = p1) (hp2 : pc + 3 = p2) (hi : aIns M pc = some (.if_icmp .ne off, len, a1, b1, v1)) (k1 : ¬ x = y → aWp X d M p1 lv t h Q) (k2 : ¬ (¬ x = y) → aWp X d M p2 lv t h Q) : aWp X d M pc lv (.int y :: .int x :: t) h Q := by
  subst hp1; subst hp2
  exact wp_cmp_of (f := fun x y => decide (¬ x = y)) (c := fun x y => ¬ x = y) (fun z w => decide_eq_true_iff) hi rfl k1 k2
theorem wp_cmpN_ne {off : Int} {a b : Nat} (p1 p2 : Nat) (hp1 : ((pc : Int) + off).toNat = p1) (hp2 : pc + 3 = p2) (hi : aIns M pc = some (.if_icmp .ne off, len, a1, b1, v1)) (ha : a < 2 ^ 31) (hb : b < 2 ^ 31) (k1 : ¬ a = b → aWp X d M p1 lv t h Q) (k2 : ¬ (¬ a = b) → aWp X d M p2 lv t h Q) : aWp X d M pc lv (.int (nI b) :: .int (nI a) :: t) h Q :=
  wp_cmp_ne p1 p2 hp1 hp2 hi (fun z => k1 ((not_congr (nI_eq ha hb)).mp z)) (fun z => k2 (fun q => z ((not_congr (nI_eq ha hb)).mpr q)))
theorem wp_if_lt {off : Int} {x : Int32} (p1 p2 : Nat) (hp1 : ((pc : Int) + off).toNat = p1) (hp2 : pc + 3 = p2) (hi : aIns M pc = some (.ifCond .lt off, len, a1, b1, v1)) (k1 : x < 0 → aWp X d M p1 lv t h Q) (k2 : ¬ (x < 0) → aWp X d M p2 lv t h Q) : aWp X d M pc lv (.int x :: t) h Q := by
  subst hp1; subst hp2
  exact wp_if_of (f := fun x => decide (x < 0)) (c := fun x => x < 0) (fun z => decide_eq_true_iff) hi rfl k1 k2
theorem wp_cmp_lt {off : Int} {x y : Int32} (p1 p2 : Nat) (hp1 : ((pc : Int) + off).toNat = p1) (hp2 : pc + 3 = p2) (hi : aIns M pc = some (.if_icmp .lt off, len, a1, b1, v1)) (k1 : x < y → aWp X d M p1 lv t h Q) (k2 : ¬ (x < y) → aWp X d M p2 lv t h Q) : aWp X d M pc lv (.int y :: .int x :: t) h Q := by
  subst hp1; subst hp2
  exact wp_cmp_of (f := fun x y => decide (x < y)) (c := fun x y => x < y) (fun z w => decide_eq_true_iff) hi rfl k1 k2
theorem wp_cmpN_lt {off : Int} {a b : Nat} (p1 p2 : Nat) (hp1 : ((pc : Int) + off).toNat = p1) (hp2 : pc + 3 = p2) (hi : aIns M pc = some (.if_icmp .lt off, len, a1, b1, v1)) (ha : a < 2 ^ 31) (hb : b < 2 ^ 31) (k1 : a < b → aWp X d M p1 lv t h Q) (k2 : ¬ (a < b) → aWp X d M p2 lv t h Q) : aWp X d M pc lv (.int (nI b) :: .int (nI a) :: t) h Q :=
  wp_cmp_lt p1 p2 hp1 hp2 hi (fun z => k1 ((nI_ltI ha hb).mp z)) (fun z => k2 (fun q => z ((nI_ltI ha hb).mpr q)))
theorem wp_if_ge {off : Int} {x : Int32} (p1 p2 : Nat) (hp1 : ((pc : Int) + off).toNat = p1) (hp2 : pc + 3 = p2) (hi : aIns M pc = some (.ifCond .ge off, len, a1, b1, v1)) (k1 : 0 ≤ x → aWp X d M p1 lv t h Q) (k2 : ¬ (0 ≤ x) → aWp X d M p2 lv t h Q) : aWp X d M pc lv (.int x :: t) h Q := by
  subst hp1; subst hp2
  exact wp_if_of (f := fun x => decide (0 ≤ x)) (c := fun x => 0 ≤ x) (fun z => decide_eq_true_iff) hi rfl k1 k2
theorem wp_cmp_ge {off : Int} {x y : Int32} (p1 p2 : Nat) (hp1 : ((pc : Int) + off).toNat = p1) (hp2 : pc + 3 = p2) (hi : aIns M pc = some (.if_icmp .ge off, len, a1, b1, v1)) (k1 : y ≤ x → aWp X d M p1 lv t h Q) (k2 : ¬ (y ≤ x) → aWp X d M p2 lv t h Q) : aWp X d M pc lv (.int y :: .int x :: t) h Q := by
  subst hp1; subst hp2
  exact wp_cmp_of (f := fun x y => decide (y ≤ x)) (c := fun x y => y ≤ x) (fun z w => decide_eq_true_iff) hi rfl k1 k2
theorem wp_cmpN_ge {off : Int} {a b : Nat} (p1 p2 : Nat) (hp1 : ((pc : Int) + off).toNat = p1) (hp2 : pc + 3 = p2) (hi : aIns M pc = some (.if_icmp .ge off, len, a1, b1, v1)) (ha : a < 2 ^ 31) (hb : b < 2 ^ 31) (k1 : b ≤ a → aWp X d M p1 lv t h Q) (k2 : ¬ (b ≤ a) → aWp X d M p2 lv t h Q) : aWp X d M pc lv (.int (nI b) :: .int (nI a) :: t) h Q :=
  wp_cmp_ge p1 p2 hp1 hp2 hi (fun z => k1 ((nI_leI hb ha).mp z)) (fun z => k2 (fun q => z ((nI_leI hb ha).mpr q)))
theorem wp_if_gt {off : Int} {x : Int32} (p1 p2 : Nat) (hp1 : ((pc : Int) + off).toNat = p1) (hp2 : pc + 3 = p2) (hi : aIns M pc = some (.ifCond .gt off, len, a1, b1, v1)) (k1 : 0 < x → aWp X d M p1 lv t h Q) (k2 : ¬ (0 < x) → aWp X d M p2 lv t h Q) : aWp X d M pc lv (.int x :: t) h Q := by
  subst hp1; subst hp2
  exact wp_if_of (f := fun x => decide (0 < x)) (c := fun x => 0 < x) (fun z => decide_eq_true_iff) hi rfl k1 k2
theorem wp_cmp_gt {off : Int} {x y : Int32} (p1 p2 : Nat) (hp1 : ((pc : Int) + off).toNat = p1) (hp2 : pc + 3 = p2) (hi : aIns M pc = some (.if_icmp .gt off, len, a1, b1, v1)) (k1 : y < x → aWp X d M p1 lv t h Q) (k2 : ¬ (y < x) → aWp X d M p2 lv t h Q) : aWp X d M pc lv (.int y :: .int x :: t) h Q := by
  subst hp1; subst hp2
  exact wp_cmp_of (f := fun x y => decide (y < x)) (c := fun x y => y < x) (fun z w => decide_eq_true_iff) hi rfl k1 k2
theorem wp_cmpN_gt {off : Int} {a b : Nat} (p1 p2 : Nat) (hp1 : ((pc : Int) + off).toNat = p1) (hp2 : pc + 3 = p2) (hi : aIns M pc = some (.if_icmp .gt off, len, a1, b1, v1)) (ha : a < 2 ^ 31) (hb : b < 2 ^ 31) (k1 : b < a → aWp X d M p1 lv t h Q) (k2 : ¬ (b < a) → aWp X d M p2 lv t h Q) : aWp X d M pc lv (.int (nI b) :: .int (nI a) :: t) h Q :=
  wp_cmp_gt p1 p2 hp1 hp2 hi (fun z => k1 ((nI_ltI hb ha).mp z)) (fun z => k2 (fun q => z ((nI_ltI hb ha).mpr q)))
theorem wp_if_le {off : Int} {x : Int32} (p1 p2 : Nat) (hp1 : ((pc : Int) + off).toNat = p1) (hp2 : pc + 3 = p2) (hi : aIns M pc = some (.ifCond .le off, len, a1, b1, v1)) (k1 : x ≤ 0 → aWp X d M p1 lv t h Q) (k2 : ¬ (x ≤ 0) → aWp X d M p2 lv t h Q) : aWp X d M pc lv (.int x :: t) h Q := by
  subst hp1; subst hp2
  exact wp_if_of (f := fun x => decide (x ≤ 0)) (c := fun x => x ≤ 0) (fun z => decide_eq_true_iff) hi rfl k1 k2
theorem wp_cmp_le {off : Int} {x y : Int32} (p1 p2 : Nat) (hp1 : ((pc : Int) + off).toNat = p1) (hp2 : pc + 3 = p2) (hi : aIns M pc = some (.if_icmp .le off, len, a1, b1, v1)) (k1 : x ≤ y → aWp X d M p1 lv t h Q) (k2 : ¬ (x ≤ y) → aWp X d M p2 lv t h Q) : aWp X d M pc lv (.int y :: .int x :: t) h Q := by
  subst hp1; subst hp2
  exact wp_cmp_of (f := fun x y => decide (x ≤ y)) (c := fun x y => x ≤ y) (fun z w => decide_eq_true_iff) hi rfl k1 k2
theorem wp_cmpN_le {off : Int} {a b : Nat} (p1 p2 : Nat) (hp1 : ((pc : Int) + off).toNat = p1) (hp2 : pc + 3 = p2) (hi : aIns M pc = some (.if_icmp .le off, len, a1, b1, v1)) (ha : a < 2 ^ 31) (hb : b < 2 ^ 31) (k1 : a ≤ b → aWp X d M p1 lv t h Q) (k2 : ¬ (a ≤ b) → aWp X d M p2 lv t h Q) : aWp X d M pc lv (.int (nI b) :: .int (nI a) :: t) h Q :=
  wp_cmp_le p1 p2 hp1 hp2 hi (fun z => k1 ((nI_leI ha hb).mp z)) (fun z => k2 (fun q => z ((nI_leI ha hb).mpr q)))
theorem wp_ifN_eq {off : Int} {a : Nat} (p1 p2 : Nat) (hp1 : ((pc : Int) + off).toNat = p1) (hp2 : pc + 3 = p2) (hi : aIns M pc = some (.ifCond .eq off, len, a1, b1, v1)) (ha : a < 2 ^ 31) (k1 : a = 0 → aWp X d M p1 lv t h Q) (k2 : ¬ (a = 0) → aWp X d M p2 lv t h Q) : aWp X d M pc lv (.int (nI a) :: t) h Q :=
  wp_if_eq p1 p2 hp1 hp2 hi (fun z => k1 ((nI_eq ha (show (0:Nat) < 2 ^ 31 by decide)).mp z)) (fun z => k2 (fun q => z ((nI_eq ha (show (0:Nat) < 2 ^ 31 by decide)).mpr q)))
theorem wp_ifN_ne {off : Int} {a : Nat} (p1 p2 : Nat) (hp1 : ((pc : Int) + off).toNat = p1) (hp2 : pc + 3 = p2) (hi : aIns M pc = some (.ifCond .ne off, len, a1, b1, v1)) (ha : a < 2 ^ 31) (k1 : ¬ a = 0 → aWp X d M p1 lv t h Q) (k2 : ¬ (¬ a = 0) → aWp X d M p2 lv t h Q) : aWp X d M pc lv (.int (nI a) :: t) h Q :=
  wp_if_ne p1 p2 hp1 hp2 hi (fun z => k1 ((not_congr (nI_eq ha (show (0:Nat) < 2 ^ 31 by decide))).mp z)) (fun z => k2 (fun q => z ((not_congr (nI_eq ha (show (0:Nat) < 2 ^ 31 by decide))).mpr q)))
theorem wp_ifN_gt {off : Int} {a : Nat} (p1 p2 : Nat) (hp1 : ((pc : Int) + off).toNat = p1) (hp2 : pc + 3 = p2) (hi : aIns M pc = some (.ifCond .gt off, len, a1, b1, v1)) (ha : a < 2 ^ 31) (k1 : 0 < a → aWp X d M p1 lv t h Q) (k2 : ¬ (0 < a) → aWp X d M p2 lv t h Q) : aWp X d M pc lv (.int (nI a) :: t) h Q :=
  wp_if_gt p1 p2 hp1 hp2 hi (fun z => k1 ((nI_ltI (show (0:Nat) < 2 ^ 31 by decide) ha).mp z)) (fun z => k2 (fun q => z ((nI_ltI (show (0:Nat) < 2 ^ 31 by decide) ha).mpr q)))
theorem wp_ifN_le {off : Int} {a : Nat} (p1 p2 : Nat) (hp1 : ((pc : Int) + off).toNat = p1) (hp2 : pc + 3 = p2) (hi : aIns M pc = some (.ifCond .le off, len, a1, b1, v1)) (ha : a < 2 ^ 31) (k1 : a = 0 → aWp X d M p1 lv t h Q) (k2 : ¬ (a = 0) → aWp X d M p2 lv t h Q) : aWp X d M pc lv (.int (nI a) :: t) h Q :=
  wp_if_le p1 p2 hp1 hp2 hi (fun z => k1 (((nI_leI ha (show (0:Nat) < 2 ^ 31 by decide)).trans Nat.le_zero).mp z)) (fun z => k2 (fun q => z (((nI_leI ha (show (0:Nat) < 2 ^ 31 by decide)).trans Nat.le_zero).mpr q)))
theorem wp_ifN_lt {off : Int} {a : Nat} (p2 : Nat) (hp2 : pc + 3 = p2) (hi : aIns M pc = some (.ifCond .lt off, len, a1, b1, v1)) (ha : a < 2 ^ 31) (k2 : aWp X d M p2 lv t h Q) : aWp X d M pc lv (.int (nI a) :: t) h Q :=
  wp_if_lt _ p2 rfl hp2 hi (fun z => absurd z (nI_pos ha)) (fun _ => k2)
theorem wp_ifN_ge {off : Int} {a : Nat} (p1 : Nat) (hp1 : ((pc : Int) + off).toNat = p1) (hi : aIns M pc = some (.ifCond .ge off, len, a1, b1, v1)) (ha : a < 2 ^ 31) (k1 : aWp X d M p1 lv t h Q) : aWp X d M pc lv (.int (nI a) :: t) h Q :=
  wp_if_ge p1 _ hp1 rfl hi (fun _ => k1) (fun z => absurd (nI_pos' ha) z)
end R22
section R22b
variable {X : aX} {d M pc : Nat} {lv : aL} {t : List Value} {h : aH} {Q : Option Value → aH → Prop} {len a1 b1 : Nat} {v1 : Value}
theorem wp_addN {a b : Nat} (p' : Nat) (hp : pc + 1 = p') (hi : aIns M pc = some (.iadd, len, a1, b1, v1)) (k : aWp X d M p' lv (.int (nI (a + b)) :: t) h Q) : aWp X d M pc lv (.int (nI b) :: .int (nI a) :: t) h Q := by
  subst hp
  rw [← nI_add] at k
  exact wp_step _ hi rfl k
theorem wp_mulN {a b : Nat} (p' : Nat) (hp : pc + 1 = p') (hi : aIns M pc = some (.imul, len, a1, b1, v1)) (k : aWp X d M p' lv (.int (nI (a * b)) :: t) h Q) : aWp X d M pc lv (.int (nI b) :: .int (nI a) :: t) h Q := by
  subst hp
  rw [← pk_mul] at k
  exact wp_step _ hi rfl k
theorem wp_subN {a b : Nat} (p' : Nat) (hp : pc + 1 = p') (hi : aIns M pc = some (.isub, len, a1, b1, v1)) (hab : b ≤ a) (k : aWp X d M p' lv (.int (nI (a - b)) :: t) h Q) : aWp X d M pc lv (.int (nI b) :: .int (nI a) :: t) h Q := by
  subst hp
  rw [← pk_sub hab] at k
  exact wp_step _ hi rfl k
theorem nI_inc (a c : Nat) : nI a + Int32.ofInt (c : Int) = nI (a + c) := by
  rw [← nI_add]
  congr 1
theorem wp_iincN {i a : Nat} {c : Nat} (p' : Nat) (lv' : aL) (hp : pc + 3 = p') (hi : aIns M pc = some (.iinc i (c : Int), 3, a1, b1, v1)) (hl : lv[i]? = some (some (.int (nI a)))) (hl' : aSet lv i (some (.int (nI (a + c)))) = lv') (k : aWp X d M p' lv' t h Q) : aWp X d M pc lv t h Q := by
  subst hp; subst hl'
  refine wp_step (pc + 3, aSet lv i (some (.int (nI (a + c)))), t, h) hi ?_ k
  simp only [aStep, a_iinc, hl, nI_inc]
theorem wp_iretZ {x : Int32} {z : Nat} (hi : aIns M pc = some (.ireturn, len, 1, b1, v1)) (hx : x = 0 ∨ x = 1) (hq : Q (some (.int x)) h) : aWp X d M pc lv [.int x] h Q := by
  refine wp_ret hi ?_ hq
  simp only [aStep, a_iret]
  rw [if_pos (Or.inr hx)]
theorem wp_iret {x : Int32} (hi : aIns M pc = some (.ireturn, len, 0, b1, v1)) (hq : Q (some (.int x)) h) : aWp X d M pc lv [.int x] h Q := by
  refine wp_ret hi ?_ hq
  simp only [aStep, a_iret]
  rw [if_pos (Or.inl trivial)]
end R22b
