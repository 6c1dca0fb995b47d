/-! reading and writing the pure heap, as functions; the rules by them -/
def gI (h : aH) (a ci k : Nat) : Option Int32 := match h[a]? with
  | some (.inr (cj, fs)) => if cj = ci then match fs[k]? with
    | some (.int v) => some v
    | _ => none
    else none
  | _ => none
def gL (h : aH) (a ci k : Nat) : Option Int64 := match h[a]? with
  | some (.inr (cj, fs)) => if cj = ci then match fs[k]? with
    | some (.long v) => some v
    | _ => none
    else none
  | _ => none
def gR (h : aH) (a ci k : Nat) : Option Nat := match h[a]? with
  | some (.inr (cj, fs)) => if cj = ci then match fs[k]? with
    | some (.ref v) => some v
    | _ => none
    else none
  | _ => none
def sF (h : aH) (a ci k : Nat) (v : Value) : Option aH := match h[a]? with
  | some (.inr (cj, fs)) => if cj = ci ∧ k < fs.length ∧ okV (clsTy ci k) v = true then some (h.set a (.inr (ci, fs.set k v))) else none
  | _ => none
def gA (h : aH) (a : Nat) (i : Int32) : Option Int32 := match h[a]? with
  | some (.inl (tag, n, .inl f)) => if tag = 0 ∧ aIn i n = true then some (f i.toNatClampNeg) else none
  | _ => none
def gB (h : aH) (a : Nat) (i : Int32) : Option Int32 := match h[a]? with
  | some (.inl (tag, n, .inl f)) => if (tag = 1 ∨ tag = 2) ∧ aIn i n = true then some (f i.toNatClampNeg) else none
  | _ => none
def gJ (h : aH) (a : Nat) (i : Int32) : Option Int64 := match h[a]? with
  | some (.inl (tag, n, .inr (.inl f))) => if tag = 3 ∧ aIn i n = true then some (f i.toNatClampNeg) else none
  | _ => none
def gQ (h : aH) (a : Nat) (i : Int32) : Option Nat := match h[a]? with
  | some (.inl (tag, n, .inr (.inr (.inr (.inr f))))) => if 4 ≤ tag ∧ tag ≤ 6 ∧ aIn i n = true then f i.toNatClampNeg else none
  | _ => none
def gN (h : aH) (a : Nat) : Option Int32 := match h[a]? with
  | some (.inl (tag, x)) => if tag ≤ 6 then some (Int32.ofNat x.1) else none
  | _ => none
def oH : Option aR → Option aH
  | some (.inl q) => some q.2.2.2
  | _ => none
def sA (h : aH) (a : Nat) (i x : Int32) : Option aH := oH (a_iast 0 [] [.int x, .int i, .ref a] h)
def sB (h : aH) (a : Nat) (i x : Int32) : Option aH := oH (a_bast 0 [] [.int x, .int i, .ref a] h)
def sJ (h : aH) (a : Nat) (i : Int32) (x : Int64) : Option aH := oH (a_last 0 [] [.long x, .int i, .ref a] h)
def sQ (h : aH) (a : Nat) (i : Int32) (v : Nat) : Option aH := oH (a_aast 0 [] [.ref v, .int i, .ref a] h)
def sC (h : aH) (s : Nat) (sp : Int32) (d : Nat) (dp n : Int32) : Option aH := oH (a_copy 0 [] [.int n, .int dp, .ref d, .int sp, .ref s] h)
def isO (h : aH) (a ci : Nat) : Bool := match h[a]? with
  | some (.inr (cj, _)) => cj == ci
  | _ => false
abbrev nO (h : aH) (ci : Nat) : aH := h ++ [.inr (ci, (List.range (clsN ci)).map (fun k => a_dv (clsTy ci k)))]
abbrev nA (h : aH) (tag n : Nat) : aH := h ++ [.inl (tag, n, if tag = 3 then .inr (.inl (fun _ => 0)) else .inl (fun _ => 0))]
abbrev nQ (h : aH) (tag n : Nat) : aH := h ++ [.inl (tag, n, .inr (.inr (.inr (.inr (fun _ => none)))))]
section R27
variable {X : aX} {d M pc : Nat} {lv : aL} {t : List Value} {h h1 : aH} {Q : Option Value → aH → Prop} {len a1 b1 i0 : Nat} {v1 : Value}
theorem hp_gI {a ci k : Nat} {v : Int32} (p' : Nat) (hp : pc + 3 = p') (hi : aIns M pc = some (.getfield i0, len, ci, k, v1)) (hq : gI h a ci k = some v) (kk : aWp X d M p' lv (.int v :: t) h Q) : aWp X d M pc lv (.ref a :: t) h Q := by
  unfold gI at hq
  split at hq
  · rename_i cj fs hc
    split at hq
    · rename_i hj
      subst hj
      split at hq
      · rename_i w hw
        cases hq
        exact wp_get p' hp hi hc hw kk
      · cases hq
    · cases hq
  · cases hq
theorem hp_gL {a ci k : Nat} {v : Int64} (p' : Nat) (hp : pc + 3 = p') (hi : aIns M pc = some (.getfield i0, len, ci, k, v1)) (hq : gL h a ci k = some v) (kk : aWp X d M p' lv (.long v :: t) h Q) : aWp X d M pc lv (.ref a :: t) h Q := by
  unfold gL at hq
  split at hq
  · rename_i cj fs hc
    split at hq
    · rename_i hj
      subst hj
      split at hq
      · rename_i w hw
        cases hq
        exact wp_get p' hp hi hc hw kk
      · cases hq
    · cases hq
  · cases hq
theorem hp_gR {a ci k : Nat} {v : Nat} (p' : Nat) (hp : pc + 3 = p') (hi : aIns M pc = some (.getfield i0, len, ci, k, v1)) (hq : gR h a ci k = some v) (kk : aWp X d M p' lv (.ref v :: t) h Q) : aWp X d M pc lv (.ref a :: t) h Q := by
  unfold gR at hq
  split at hq
  · rename_i cj fs hc
    split at hq
    · rename_i hj
      subst hj
      split at hq
      · rename_i w hw
        cases hq
        exact wp_get p' hp hi hc hw kk
      · cases hq
    · cases hq
  · cases hq
theorem hp_sF {a ci k : Nat} {v : Value} (p' : Nat) (hp : pc + 3 = p') (hi : aIns M pc = some (.putfield i0, len, ci, k, v1)) (hq : sF h a ci k v = some h1) (kk : aWp X d M p' lv t h1 Q) : aWp X d M pc lv (v :: .ref a :: t) h Q := by
  unfold sF at hq
  split at hq
  · rename_i cj fs hc
    split at hq
    · rename_i hj
      obtain ⟨rfl, hk, hok⟩ := hj
      cases hq
      exact wp_put p' hp hi hc hk hok kk
    · cases hq
  · cases hq
theorem hp_gA {a : Nat} {i v : Int32} (p' : Nat) (hp : pc + 1 = p') (hi : aIns M pc = some (.iaload, len, a1, b1, v1)) (hq : gA h a i = some v) (kk : aWp X d M p' lv (.int v :: t) h Q) : aWp X d M pc lv (.int i :: .ref a :: t) h Q := by
  unfold gA at hq
  split at hq
  · rename_i tag n f hc
    split at hq
    · rename_i hj
      obtain ⟨rfl, hin⟩ := hj
      cases hq
      exact wp_iald p' hp hi hc hin kk
    · cases hq
  · cases hq
theorem hp_gB {a : Nat} {i v : Int32} (p' : Nat) (hp : pc + 1 = p') (hi : aIns M pc = some (.baload, len, a1, b1, v1)) (hq : gB h a i = some v) (kk : aWp X d M p' lv (.int v :: t) h Q) : aWp X d M pc lv (.int i :: .ref a :: t) h Q := by
  unfold gB at hq
  split at hq
  · rename_i tag n f hc
    split at hq
    · rename_i hj
      cases hq
      exact wp_bald p' hp hi hj.1 hc hj.2 kk
    · cases hq
  · cases hq
theorem hp_gJ {a : Nat} {i : Int32} {v : Int64} (p' : Nat) (hp : pc + 1 = p') (hi : aIns M pc = some (.laload, len, a1, b1, v1)) (hq : gJ h a i = some v) (kk : aWp X d M p' lv (.long v :: t) h Q) : aWp X d M pc lv (.int i :: .ref a :: t) h Q := by
  unfold gJ at hq
  split at hq
  · rename_i tag n f hc
    split at hq
    · rename_i hj
      obtain ⟨rfl, hin⟩ := hj
      cases hq
      exact wp_lald p' hp hi hc hin kk
    · cases hq
  · cases hq
theorem hp_gQ {a v : Nat} {i : Int32} (p' : Nat) (hp : pc + 1 = p') (hi : aIns M pc = some (.aaload, len, a1, b1, v1)) (hq : gQ h a i = some v) (kk : aWp X d M p' lv (.ref v :: t) h Q) : aWp X d M pc lv (.int i :: .ref a :: t) h Q := by
  unfold gQ at hq
  split at hq
  · rename_i tag n f hc
    split at hq
    · rename_i hj
      exact wp_aald p' hp hi hc ⟨hj.1, hj.2.1⟩ hj.2.2 hq kk
    · cases hq
  · cases hq
theorem hp_gN {a : Nat} {v : Int32} (p' : Nat) (hp : pc + 1 = p') (hi : aIns M pc = some (.arraylength, len, a1, b1, v1)) (hq : gN h a = some v) (kk : aWp X d M p' lv (.int v :: t) h Q) : aWp X d M pc lv (.ref a :: t) h Q := by
  unfold gN at hq
  split at hq
  · rename_i tag x hc
    split at hq
    · rename_i hj
      cases hq
      obtain ⟨n, x⟩ := x
      exact wp_alen p' hp hi hc hj kk
    · cases hq
  · cases hq
theorem hp_sA {a : Nat} {i x : Int32} (p' : Nat) (hp : pc + 1 = p') (hi : aIns M pc = some (.iastore, len, a1, b1, v1)) (hq : sA h a i x = some h1) (kk : aWp X d M p' lv t h1 Q) : aWp X d M pc lv (.int x :: .int i :: .ref a :: t) h Q := by
  unfold sA a_iast at hq
  simp only at hq
  split at hq
  · rename_i tag n f hc
    split at hq
    · rename_i hj
      obtain ⟨rfl, hin⟩ := hj
      cases hq
      exact wp_iast p' hp hi hc hin kk
    · cases hq
  · cases hq
theorem hp_sB {a : Nat} {i x : Int32} (p' : Nat) (hp : pc + 1 = p') (hi : aIns M pc = some (.bastore, len, a1, b1, v1)) (hq : sB h a i x = some h1) (kk : aWp X d M p' lv t h1 Q) : aWp X d M pc lv (.int x :: .int i :: .ref a :: t) h Q := by
  unfold sB a_bast at hq
  simp only at hq
  split at hq
  · rename_i tag n f hc
    split at hq
    · rename_i hj
      obtain ⟨rfl, hin⟩ := hj
      cases hq
      exact wp_bast p' hp hi hc hin kk
    · split at hq
      · rename_i hj
        obtain ⟨rfl, hin⟩ := hj
        cases hq
        exact wp_zast p' hp hi hc hin kk
      · cases hq
  · cases hq
theorem hp_sJ {a : Nat} {i : Int32} {x : Int64} (p' : Nat) (hp : pc + 1 = p') (hi : aIns M pc = some (.lastore, len, a1, b1, v1)) (hq : sJ h a i x = some h1) (kk : aWp X d M p' lv t h1 Q) : aWp X d M pc lv (.long x :: .int i :: .ref a :: t) h Q := by
  unfold sJ a_last at hq
  simp only at hq
  split at hq
  · rename_i tag n f hc
    split at hq
    · rename_i hj
      obtain ⟨rfl, hin⟩ := hj
      cases hq
      exact wp_last p' hp hi hc hin kk
    · cases hq
  · cases hq
theorem hp_sQ {a v : Nat} {i : Int32} (p' : Nat) (hp : pc + 1 = p') (hi : aIns M pc = some (.aastore, len, a1, b1, v1)) (hq : sQ h a i v = some h1) (kk : aWp X d M p' lv t h1 Q) : aWp X d M pc lv (.ref v :: .int i :: .ref a :: t) h Q := by
  subst hp
  refine wp_step (pc + 1, lv, t, h1) hi ?_ kk
  unfold sQ at hq
  simp only [aStep, a_aast] at hq ⊢
  (repeat' split at hq) <;> first | (cases hq; done) | (cases hq; simp_all)
theorem hp_sC {s dd : Nat} {sp dp n : Int32} (p' : Nat) (hp : pc + 3 = p') (hi : aIns M pc = some (.invokestatic i0, len, 1000, b1, v1)) (hstk : aStk t = true) (hq : sC h s sp dd dp n = some h1) (kk : aWp X d M p' lv t h1 Q) : aWp X d M pc lv (.int n :: .int dp :: .ref dd :: .int sp :: .ref s :: t) h Q := by
  subst hp
  refine wp_step (pc + 3, lv, t, h1) hi ?_ kk
  have e0 : aStk [] = true := rfl
  unfold sC at hq
  simp only [aStep, a_prim, a_copy, hstk, e0] at hq ⊢
  (repeat' split at hq) <;> first | (cases hq; done) | (cases hq; simp_all)
theorem hp_max {x y : Int32} (p' : Nat) (hp : pc + 3 = p') (hi : aIns M pc = some (.invokestatic i0, len, 1001, b1, v1)) (hstk : aStk t = true) (kk : aWp X d M p' lv (.int (if x < y then y else x) :: t) h Q) : aWp X d M pc lv (.int y :: .int x :: t) h Q := by
  subst hp
  refine wp_step (pc + 3, lv, .int (if x < y then y else x) :: t, h) hi ?_ kk
  simp only [aStep, a_prim, a_imax, hstk, if_true, Nat.le_add_right, Nat.reduceLeDiff, Nat.reduceSub]
theorem hp_min {x y : Int32} (p' : Nat) (hp : pc + 3 = p') (hi : aIns M pc = some (.invokestatic i0, len, 1002, b1, v1)) (hstk : aStk t = true) (kk : aWp X d M p' lv (.int (if y < x then y else x) :: t) h Q) : aWp X d M pc lv (.int y :: .int x :: t) h Q := by
  subst hp
  refine wp_step (pc + 3, lv, .int (if y < x then y else x) :: t, h) hi ?_ kk
  simp only [aStep, a_prim, a_imin, hstk, if_true, Nat.le_add_right, Nat.reduceLeDiff, Nat.reduceSub]
theorem hp_lmax {x y : Int64} (p' : Nat) (hp : pc + 3 = p') (hi : aIns M pc = some (.invokestatic i0, len, 1003, b1, v1)) (hstk : aStk t = true) (kk : aWp X d M p' lv (.long (if y < x then x else y) :: t) h Q) : aWp X d M pc lv (.long y :: .long x :: t) h Q := by
  subst hp
  refine wp_step (pc + 3, lv, .long (if y < x then x else y) :: t, h) hi ?_ kk
  simp only [aStep, a_prim, a_lmax, hstk, if_true, Nat.le_add_right, Nat.reduceLeDiff, Nat.reduceSub]
theorem hp_lmin {x y : Int64} (p' : Nat) (hp : pc + 3 = p') (hi : aIns M pc = some (.invokestatic i0, len, 1004, b1, v1)) (hstk : aStk t = true) (kk : aWp X d M p' lv (.long (if y < x then y else x) :: t) h Q) : aWp X d M pc lv (.long y :: .long x :: t) h Q := by
  subst hp
  refine wp_step (pc + 3, lv, .long (if y < x then y else x) :: t, h) hi ?_ kk
  simp only [aStep, a_prim, a_lmin, hstk, if_true, Nat.le_add_right, Nat.reduceLeDiff, Nat.reduceSub]
theorem hp_obj {a : Nat} (p' : Nat) (hp : pc + 3 = p') (hi : aIns M pc = some (.invokespecial i0, len, 1000, b1, v1)) (hstk : aStk t = true) (kk : aWp X d M p' lv t h Q) : aWp X d M pc lv (.ref a :: t) h Q := by
  subst hp
  refine wp_step (pc + 3, lv, t, h) hi ?_ kk
  simp only [aStep, a_obj, hstk, if_true]
theorem hp_chr {i : Int32} (p' : Nat) (hp : pc + 3 = p') (hi : aIns M pc = some (.invokevirtual i0, len, 1000, b1, v1)) (hstk : aStk t = true) (hin : aIn i 160 = true) (kk : aWp X d M p' lv (.int (aTxt i.toNatClampNeg) :: t) h Q) : aWp X d M pc lv (.int i :: .float 0 :: t) h Q := by
  subst hp
  refine wp_step (pc + 3, lv, .int (aTxt i.toNatClampNeg) :: t, h) hi ?_ kk
  simp only [aStep, a_chr, hstk, hin, and_self, if_true]
theorem hp_newa {n : Int32} {tag N : Nat} {ty : ArrayType} (p' : Nat) (hp : pc + 2 = p') (hi : aIns M pc = some (.newarray ty, len, tag, b1, v1)) (hn : n.toNatClampNeg = N) (hn0 : ¬ n < 0) (hN : N ≤ 4096) (kk : aWp X d M p' lv (.ref h.length :: t) (nA h tag N) Q) : aWp X d M pc lv (.int n :: t) h Q := by
  subst hp; subst hn
  refine wp_step (pc + 2, lv, .ref h.length :: t, nA h tag n.toNatClampNeg) hi ?_ kk
  simp only [aStep, a_newa]
  rw [if_neg (fun z => z.elim hn0 (fun z => by omega))]
theorem hp_anew {n : Int32} {tag N : Nat} (p' : Nat) (hp : pc + 3 = p') (hi : aIns M pc = some (.anewarray i0, len, tag, b1, v1)) (hn : n.toNatClampNeg = N) (hn0 : ¬ n < 0) (hN : N ≤ 4096) (kk : aWp X d M p' lv (.ref h.length :: t) (nQ h tag N) Q) : aWp X d M pc lv (.int n :: t) h Q := by
  subst hp; subst hn
  refine wp_step (pc + 3, lv, .ref h.length :: t, nQ h tag n.toNatClampNeg) hi ?_ kk
  simp only [aStep, a_anew]
  rw [if_neg (fun z => z.elim hn0 (fun z => by omega))]
theorem isO_of {a ci : Nat} (hq : isO h a ci = true) : ∃ fs, h[a]? = some (.inr (ci, fs)) := by
  unfold isO at hq
  split at hq
  · rename_i cj fs hc
    rw [eq_of_beq hq] at hc
    exact ⟨fs, hc⟩
  · cases hq
end R27
theorem hp_lsw {X : aX} {d M pc : Nat} {lv : aL} {t : List Value} {h : aH} {Q : Option Value → aH → Prop} {len a1 b1 : Nat} {v1 : Value} {dflt : Int} {ps : Array (Int × Int)} {x : Int32} (tgt : Nat) (hi : aIns M pc = some (.lookupswitch dflt ps, len, a1, b1, v1)) (ht : ((pc : Int) + Op.lookupswitch.offset ps.toList dflt x.toInt).toNat = tgt) (kk : aWp X d M tgt lv t h Q) : aWp X d M pc lv (.int x :: t) h Q := by
  subst ht
  exact wp_step _ hi rfl kk
