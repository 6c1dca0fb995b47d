theorem lvE : lvle [] [] := trivial
theorem lvS {v : Value} {a b : aL} (h : lvle a b) : lvle (some v :: a) (some v :: b) := ⟨rfl, h⟩
theorem lvN {v : Option Value} {a b : aL} (h : lvle a b) : lvle (none :: a) (v :: b) := h
section R25
variable {X : aX} {d M pc : Nat} {lv : aL} {t : List Value} {h : aH} {Q : Option Value → aH → Prop} {len a1 b1 : Nat} {v1 : Value}
theorem wp_idiv {x y : Int32} (p' : Nat) (hp : pc + 1 = p') (hi : aIns M pc = some (.idiv, len, a1, b1, v1)) (h0 : ¬ y = 0) (k : aWp X d M p' lv (.int (x / y) :: t) h Q) : aWp X d M pc lv (.int y :: .int x :: t) h Q := by
  subst hp
  refine wp_step (pc + 1, lv, .int (x / y) :: t, h) hi ?_ k
  simp only [aStep, a_ii0, if_neg h0]
theorem wp_irem {x y : Int32} (p' : Nat) (hp : pc + 1 = p') (hi : aIns M pc = some (.irem, len, a1, b1, v1)) (h0 : ¬ y = 0) (k : aWp X d M p' lv (.int (x - x / y * y) :: t) h Q) : aWp X d M pc lv (.int y :: .int x :: t) h Q := by
  subst hp
  refine wp_step (pc + 1, lv, .int (x - x / y * y) :: t, h) hi ?_ k
  simp only [aStep, a_ii0, if_neg h0]
theorem wp_ldiv {x y : Int64} (p' : Nat) (hp : pc + 1 = p') (hi : aIns M pc = some (.ldiv, len, a1, b1, v1)) (h0 : ¬ y = 0) (k : aWp X d M p' lv (.long (x / y) :: t) h Q) : aWp X d M pc lv (.long y :: .long x :: t) h Q := by
  subst hp
  refine wp_step (pc + 1, lv, .long (x / y) :: t, h) hi ?_ k
  simp only [aStep, a_ll0, if_neg h0]
theorem wp_lrem {x y : Int64} (p' : Nat) (hp : pc + 1 = p') (hi : aIns M pc = some (.lrem, len, a1, b1, v1)) (h0 : ¬ y = 0) (k : aWp X d M p' lv (.long (x - x / y * y) :: t) h Q) : aWp X d M pc lv (.long y :: .long x :: t) h Q := by
  subst hp
  refine wp_step (pc + 1, lv, .long (x - x / y * y) :: t, h) hi ?_ k
  simp only [aStep, a_ll0, if_neg h0]
theorem wp_tswC {dflt lo hi' off : Int} {offs : Array Int} {x : Int32} {j : Nat} (tgt : Nat) (hi : aIns M pc = some (.tableswitch dflt lo hi' offs, len, a1, b1, v1)) (hx : x.toInt = lo + (j : Int)) (hj : lo + (j : Int) ≤ hi') (ho : offs[j]? = some off) (ht : ((pc : Int) + off).toNat = tgt) (kk : aWp X d M tgt lv t h Q) : aWp X d M pc lv (.int x :: t) h Q := by
  subst ht
  refine wp_step (((pc : Int) + off).toNat, lv, t, h) hi ?_ kk
  simp only [aStep, a_tsw, hx]
  rw [if_neg (by omega), show lo + (j : Int) - lo = (j : Int) by omega]
  simp only [Int.toNat_natCast, ho]
end R25
