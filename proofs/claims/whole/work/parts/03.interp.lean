/-! THE PURE MACHINE: a frame is a place, a row of variables, a stack; the heap is a row of cells, a reference is a place in that row. -/
abbrev aC : Type := (Nat × vp_A) ⊕ (Nat × List Value)
abbrev aH : Type := List aC
abbrev aL : Type := List (Option Value)
abbrev aF : Type := Nat × aL × List Value × aH
abbrev aR : Type := aF ⊕ ((Option Value × aH) ⊕ (Nat × List Value × aF))
/-- an instruction, its length, two numbers and a value that its pool entry stands for -/
abbrev aI : Type := Instr × Nat × Nat × Nat × Value
/-- the script: its length, its numbers -/
abbrev aX : Type := Nat × (Nat → Int32)
abbrev cls : List vw_C := [(RX0, TX0, 4), (RX1, TX1, 3), (RX2, TX2, 20), (RX3, TX3, 7), (RX4, TX4, 3), (RX5, TX5, 20), (RX6, TX6, 3), (RX7, TX7, 14), (RX8, TX8, 7), (RX9, TX9, 5), (RX10, TX10, 9), (RX11, TX11, 9), (RX12, TX12, 47)]
/-- the types of the fields of each of cls -/
def clsTy : Nat → Nat → FieldType := fun n => match n with
  | 0 => tyX0
  | 1 => tyX1
  | 2 => tyX2
  | 3 => tyX3
  | 4 => tyX4
  | 5 => tyX5
  | 6 => tyX6
  | 7 => tyX7
  | 8 => tyX8
  | 9 => tyX9
  | 10 => tyX10
  | 11 => tyX11
  | _ => tyX12
def clsN : Nat → Nat := fun n => match n with
  | 0 => 4
  | 1 => 3
  | 2 => 20
  | 3 => 7
  | 4 => 3
  | 5 => 20
  | 6 => 3
  | 7 => 14
  | 8 => 7
  | 9 => 5
  | 10 => 9
  | 11 => 9
  | 12 => 47
  | _ => 0
def okV : FieldType → Value → Bool
  | .int, .int _ => true
  | .boolean, .int v => v == 0 || v == 1
  | .long, .long _ => true
  | .object _, .ref _ => true
  | .array _, .ref _ => true
  | _, _ => false
/-- the text of the one String constant -/
def aText : String := "thing   told    sale    day     looks   stock   bought  worth   shop    want    percent off     post    alone   again   price   if      or      and     not     "
def aTxt (k : Nat) : Int32 := Int32.ofNat ((aText.toList.getD k ' ').toNat)
def aSet (lv : aL) (i : Nat) (v : Option Value) : aL := match i with
  | 0 => lv.set 0 v
  | j + 1 => match lv[j]? with
    | some (some w) => if w.category = 2 then (lv.set j none).set (j + 1) v else lv.set (j + 1) v
    | _ => lv.set (j + 1) v
def aSet2 (lv : aL) (i : Nat) (v : Option Value) : aL := aSet (lv.set (i + 1) none) i v
def aEntry : List Value → aL
  | [] => []
  | .long x :: t => some (.long x) :: none :: aEntry t
  | .double x :: t => some (.double x) :: none :: aEntry t
  | v :: t => some v :: aEntry t
def aStk (t : List Value) : Bool := decide ((t.map Value.category).sum ≤ 8)
def aIn (i : Int32) (n : Nat) : Bool := decide (¬ i < 0) && decide (i.toNatClampNeg < n)
section AOps
variable (pc : Nat) (lv : aL) (st : List Value) (h : aH)
def a_push (len : Nat) (v : Value) : Option aR := some (.inl (pc + len, lv, v :: st, h))
def a_ild (len i : Nat) : Option aR := match lv[i]? with
  | some (some (.int x)) => some (.inl (pc + len, lv, .int x :: st, h))
  | _ => none
def a_lld (len i : Nat) : Option aR := match lv[i]? with
  | some (some (.long x)) => some (.inl (pc + len, lv, .long x :: st, h))
  | _ => none
def a_ald (len i : Nat) : Option aR := match lv[i]? with
  | some (some (.ref x)) => some (.inl (pc + len, lv, .ref x :: st, h))
  | some (some (.float x)) => some (.inl (pc + len, lv, .float x :: st, h))
  | _ => none
def a_ist (len i : Nat) : Option aR := match st with
  | .int x :: t => if i < lv.length then some (.inl (pc + len, aSet lv i (some (.int x)), t, h)) else none
  | _ => none
def a_lst (len i : Nat) : Option aR := match st with
  | .long x :: t => if i + 1 < lv.length then some (.inl (pc + len, aSet2 lv i (some (.long x)), t, h)) else none
  | _ => none
def a_ast (len i : Nat) : Option aR := match st with
  | .ref x :: t => if i < lv.length then some (.inl (pc + len, aSet lv i (some (.ref x)), t, h)) else none
  | _ => none
def a_iinc (len i : Nat) (n : Int) : Option aR := match lv[i]? with
  | some (some (.int x)) => some (.inl (pc + len, aSet lv i (some (.int (x + Int32.ofInt n))), st, h))
  | _ => none
def a_ii (f : Int32 → Int32 → Int32) : Option aR := match st with
  | .int y :: .int x :: t => some (.inl (pc + 1, lv, .int (f x y) :: t, h))
  | _ => none
def a_ii0 (f : Int32 → Int32 → Int32) : Option aR := match st with
  | .int y :: .int x :: t => if y = 0 then none else some (.inl (pc + 1, lv, .int (f x y) :: t, h))
  | _ => none
def a_i (f : Int32 → Int32) : Option aR := match st with
  | .int x :: t => some (.inl (pc + 1, lv, .int (f x) :: t, h))
  | _ => none
def a_ll (f : Int64 → Int64 → Int64) : Option aR := match st with
  | .long y :: .long x :: t => some (.inl (pc + 1, lv, .long (f x y) :: t, h))
  | _ => none
def a_ll0 (f : Int64 → Int64 → Int64) : Option aR := match st with
  | .long y :: .long x :: t => if y = 0 then none else some (.inl (pc + 1, lv, .long (f x y) :: t, h))
  | _ => none
def a_lshl : Option aR := match st with
  | .int y :: .long x :: t => some (.inl (pc + 1, lv, .long (x <<< (y.toInt64 &&& 63)) :: t, h))
  | _ => none
def a_lcmp : Option aR := match st with
  | .long y :: .long x :: t => some (.inl (pc + 1, lv, .int (lg_cmp x y) :: t, h))
  | _ => none
def a_i2l : Option aR := match st with
  | .int x :: t => some (.inl (pc + 1, lv, .long x.toInt64 :: t, h))
  | _ => none
def a_l2i : Option aR := match st with
  | .long x :: t => some (.inl (pc + 1, lv, .int x.toInt32 :: t, h))
  | _ => none
def a_dup : Option aR := match st with
  | .int x :: t => some (.inl (pc + 1, lv, .int x :: .int x :: t, h))
  | .ref x :: t => some (.inl (pc + 1, lv, .ref x :: .ref x :: t, h))
  | _ => none
def a_dup2 : Option aR := match st with
  | .int y :: .ref x :: t => some (.inl (pc + 1, lv, .int y :: .ref x :: .int y :: .ref x :: t, h))
  | _ => none
def a_pop : Option aR := match st with
  | .int _ :: t => some (.inl (pc + 1, lv, t, h))
  | _ => none
def a_if (off : Int) (f : Int32 → Bool) : Option aR := match st with
  | .int x :: t => some (.inl (if f x = true then ((pc : Int) + off).toNat else pc + 3, lv, t, h))
  | _ => none
def a_cmp (off : Int) (f : Int32 → Int32 → Bool) : Option aR := match st with
  | .int y :: .int x :: t => some (.inl (if f x y = true then ((pc : Int) + off).toNat else pc + 3, lv, t, h))
  | _ => none
def a_goto (off : Int) : Option aR := some (.inl (((pc : Int) + off).toNat, lv, st, h))
def a_tsw (dflt lo hi : Int) (offs : Array Int) : Option aR := match st with
  | .int x :: t => if x.toInt < lo ∨ hi < x.toInt then some (.inl (((pc : Int) + dflt).toNat, lv, t, h)) else match offs[(x.toInt - lo).toNat]? with
    | some off => some (.inl (((pc : Int) + off).toNat, lv, t, h))
    | none => none
  | _ => none
def a_lsw (dflt : Int) (ps : Array (Int × Int)) : Option aR := match st with
  | .int x :: t => some (.inl (((pc : Int) + Op.lookupswitch.offset ps.toList dflt x.toInt).toNat, lv, t, h))
  | _ => none
def a_get (ci k : Nat) : Option aR := match st with
  | .ref a :: t => match h[a]? with
    | some (.inr (cj, fs)) => if cj = ci then match fs[k]? with
      | some v => some (.inl (pc + 3, lv, v :: t, h))
      | none => none
      else none
    | _ => none
  | _ => none
def a_put (ci k : Nat) : Option aR := match st with
  | v :: .ref a :: t => match h[a]? with
    | some (.inr (cj, fs)) => if cj = ci ∧ k < fs.length ∧ okV (clsTy ci k) v = true then some (.inl (pc + 3, lv, t, h.set a (.inr (ci, fs.set k v)))) else none
    | _ => none
  | _ => none
/-- the value that a field of a type has at first -/
def a_dv : FieldType → Value
  | .int => .int 0
  | .boolean => .int 0
  | .long => .long 0
  | _ => .null
def a_new (ci : Nat) : Option aR := some (.inl (pc + 3, lv, .ref h.length :: st, h ++ [.inr (ci, (List.range (clsN ci)).map (fun k => a_dv (clsTy ci k)))]))
def a_newa (tag : Nat) : Option aR := match st with
  | .int n :: t => if n < 0 ∨ 4096 < n.toNatClampNeg then none else some (.inl (pc + 2, lv, .ref h.length :: t, h ++ [.inl (tag, n.toNatClampNeg, if tag = 3 then .inr (.inl (fun _ => 0)) else .inl (fun _ => 0))]))
  | _ => none
def a_anew (tag : Nat) : Option aR := match st with
  | .int n :: t => if n < 0 ∨ 4096 < n.toNatClampNeg then none else some (.inl (pc + 3, lv, .ref h.length :: t, h ++ [.inl (tag, n.toNatClampNeg, .inr (.inr (.inr (.inr (fun _ => none)))))]))
  | _ => none
def a_iald (X : aX) : Option aR := match st with
  | .int i :: .ref a :: t => match h[a]? with
    | some (.inl (tag, n, .inl f)) => if tag = 0 ∧ aIn i n = true then some (.inl (pc + 1, lv, .int (f i.toNatClampNeg) :: t, h)) else none
    | _ => none
  | .int i :: .float u :: t => if u = 1 ∧ aIn i X.1 = true then some (.inl (pc + 1, lv, .int (X.2 i.toNatClampNeg) :: t, h)) else none
  | _ => none
def a_bald : Option aR := match st with
  | .int i :: .ref a :: t => match h[a]? with
    | some (.inl (tag, n, .inl f)) => if (tag = 1 ∨ tag = 2) ∧ aIn i n = true then some (.inl (pc + 1, lv, .int (f i.toNatClampNeg) :: t, h)) else none
    | _ => none
  | _ => none
def a_lald : Option aR := match st with
  | .int i :: .ref a :: t => match h[a]? with
    | some (.inl (tag, n, .inr (.inl f))) => if tag = 3 ∧ aIn i n = true then some (.inl (pc + 1, lv, .long (f i.toNatClampNeg) :: t, h)) else none
    | _ => none
  | _ => none
def a_aald : Option aR := match st with
  | .int i :: .ref a :: t => match h[a]? with
    | some (.inl (tag, n, .inr (.inr (.inr (.inr f))))) => if 4 ≤ tag ∧ tag ≤ 6 ∧ aIn i n = true then match f i.toNatClampNeg with
      | some q => some (.inl (pc + 1, lv, .ref q :: t, h))
      | none => none
      else none
    | _ => none
  | _ => none
def a_iast : Option aR := match st with
  | .int x :: .int i :: .ref a :: t => match h[a]? with
    | some (.inl (tag, n, .inl f)) => if tag = 0 ∧ aIn i n = true then some (.inl (pc + 1, lv, t, h.set a (.inl (tag, n, .inl (upd f i.toNatClampNeg x))))) else none
    | _ => none
  | _ => none
def a_bast : Option aR := match st with
  | .int x :: .int i :: .ref a :: t => match h[a]? with
    | some (.inl (tag, n, .inl f)) => if tag = 1 ∧ aIn i n = true then some (.inl (pc + 1, lv, t, h.set a (.inl (tag, n, .inl (upd f i.toNatClampNeg (vp_nar .byte x))))))
      else if tag = 2 ∧ aIn i n = true then some (.inl (pc + 1, lv, t, h.set a (.inl (tag, n, .inl (upd f i.toNatClampNeg (vp_nar .boolean x)))))) else none
    | _ => none
  | _ => none
def a_last : Option aR := match st with
  | .long x :: .int i :: .ref a :: t => match h[a]? with
    | some (.inl (tag, n, .inr (.inl f))) => if tag = 3 ∧ aIn i n = true then some (.inl (pc + 1, lv, t, h.set a (.inl (tag, n, .inr (.inl (vp_updL f i.toNatClampNeg x)))))) else none
    | _ => none
  | _ => none
/-- the number of the objects' kind that an array of references of a tag holds -/
def a_tagC : Nat → Nat := fun tag => match tag with
  | 4 => 7
  | 5 => 10
  | _ => 3
def a_aast : Option aR := match st with
  | .ref v :: .int i :: .ref a :: t => match h[a]? with
    | some (.inl (tag, n, .inr (.inr (.inr (.inr f))))) => match h[v]? with
      | some (.inr (cj, _)) => if 4 ≤ tag ∧ tag ≤ 6 ∧ cj = a_tagC tag ∧ aIn i n = true then some (.inl (pc + 1, lv, t, h.set a (.inl (tag, n, .inr (.inr (.inr (.inr (va_up f i.toNatClampNeg (some v)))))))))
        else none
      | _ => none
    | _ => none
  | _ => none
def a_alen (X : aX) : Option aR := match st with
  | .ref a :: t => match h[a]? with
    | some (.inl (tag, x)) => if tag ≤ 6 then some (.inl (pc + 1, lv, .int (Int32.ofNat x.1) :: t, h)) else none
    | _ => none
  | .float u :: t => if u = 1 then some (.inl (pc + 1, lv, .int (Int32.ofNat X.1) :: t, h)) else none
  | _ => none
def a_iret (z : Nat) : Option aR := match st with
  | [.int x] => if z = 0 ∨ x = 0 ∨ x = 1 then some (.inr (.inl (some (.int x), h))) else none
  | _ => none
def a_lret : Option aR := match st with
  | [.long x] => some (.inr (.inl (some (.long x), h)))
  | _ => none
def a_vret : Option aR := match st with
  | [] => some (.inr (.inl (none, h)))
  | _ => none
def a_copy : Option aR := match st with
  | .int n :: .int dp :: .ref d :: .int sp :: .ref s :: t => match h[s]?, h[d]? with
    | some (.inl (0, n0, .inl f)), some (.inl (0, n1, .inl g)) => if aStk t = false ∨ n < 0 ∨ dp < 0 ∨ sp < 0 ∨ n0 < sp.toNatClampNeg + n.toNatClampNeg ∨ n1 < dp.toNatClampNeg + n.toNatClampNeg then none
      else some (.inl (pc + 3, lv, t, h.set d (.inl (0, n1, .inl (va_cpy f g sp.toNatClampNeg dp.toNatClampNeg n.toNatClampNeg)))))
    | _, _ => none
  | _ => none
def a_imax : Option aR := match st with
  | .int y :: .int x :: t => if aStk t = true then some (.inl (pc + 3, lv, .int (if x < y then y else x) :: t, h)) else none
  | _ => none
def a_imin : Option aR := match st with
  | .int y :: .int x :: t => if aStk t = true then some (.inl (pc + 3, lv, .int (if y < x then y else x) :: t, h)) else none
  | _ => none
def a_lmax : Option aR := match st with
  | .long y :: .long x :: t => if aStk t = true then some (.inl (pc + 3, lv, .long (if y < x then x else y) :: t, h)) else none
  | _ => none
def a_lmin : Option aR := match st with
  | .long y :: .long x :: t => if aStk t = true then some (.inl (pc + 3, lv, .long (if y < x then y else x) :: t, h)) else none
  | _ => none
def a_obj : Option aR := match st with
  | .ref _ :: t => if aStk t = true then some (.inl (pc + 3, lv, t, h)) else none
  | _ => none
def a_chr : Option aR := match st with
  | .int i :: .float u :: t => if u = 0 ∧ aIn i 160 = true ∧ aStk t = true then some (.inl (pc + 3, lv, .int (aTxt i.toNatClampNeg) :: t, h)) else none
  | _ => none
/-- a call of method M: n values ahead of which a receiver of kind ci stands (invokevirtual, invokespecial), or none (invokestatic) -/
def a_callV (ci M n : Nat) : Option aR := match st.drop n with
  | .ref a :: t => match h[a]? with
    | some (.inr (cj, _)) => if cj = ci ∧ n ≤ st.length ∧ aStk t = true then some (.inr (.inr (M, .ref a :: (st.take n).reverse, pc + 3, lv, t, h))) else none
    | _ => none
  | _ => none
def a_callS (M n : Nat) : Option aR := if n ≤ st.length ∧ aStk (st.drop n) = true then some (.inr (.inr (M, (st.take n).reverse, pc + 3, lv, st.drop n, h))) else none
end AOps
/-- numbers of the methods from 1000 on are the JDK's that the machine does at once -/
def a_prim (k : Nat) (pc : Nat) (lv : aL) (st : List Value) (h : aH) : Option aR := match k with
  | 0 => a_copy pc lv st h
  | 1 => a_imax pc lv st h
  | 2 => a_imin pc lv st h
  | 3 => a_lmax pc lv st h
  | 4 => a_lmin pc lv st h
  | _ => none
def aStep (X : aX) (r : aI) (pc : Nat) (lv : aL) (st : List Value) (h : aH) : Option aR := match r.1 with
  | .aload i => a_ald pc lv st h r.2.1 i
  | .aload_n i => a_ald pc lv st h r.2.1 i
  | .iload i => a_ild pc lv st h r.2.1 i
  | .iload_n i => a_ild pc lv st h r.2.1 i
  | .lload i => a_lld pc lv st h r.2.1 i
  | .lload_n i => a_lld pc lv st h r.2.1 i
  | .istore i => a_ist pc lv st h r.2.1 i
  | .istore_n i => a_ist pc lv st h r.2.1 i
  | .lstore i => a_lst pc lv st h r.2.1 i
  | .lstore_n i => a_lst pc lv st h r.2.1 i
  | .astore i => a_ast pc lv st h r.2.1 i
  | .astore_n i => a_ast pc lv st h r.2.1 i
  | .iconst _ => a_push pc lv st h r.2.1 r.2.2.2.2
  | .bipush _ => a_push pc lv st h r.2.1 r.2.2.2.2
  | .sipush _ => a_push pc lv st h r.2.1 r.2.2.2.2
  | .lconst _ => a_push pc lv st h r.2.1 r.2.2.2.2
  | .ldc _ => a_push pc lv st h r.2.1 r.2.2.2.2
  | .ldc_w _ => a_push pc lv st h r.2.1 r.2.2.2.2
  | .ldc2_w _ => a_push pc lv st h r.2.1 r.2.2.2.2
  | .iinc i n => a_iinc pc lv st h r.2.1 i n
  | .iadd => a_ii pc lv st h (fun x y => x + y)
  | .isub => a_ii pc lv st h (fun x y => x - y)
  | .imul => a_ii pc lv st h (fun x y => x * y)
  | .iand => a_ii pc lv st h (fun x y => x &&& y)
  | .ior => a_ii pc lv st h (fun x y => x ||| y)
  | .ishl => a_ii pc lv st h (fun x y => x <<< (y &&& 31))
  | .ishr => a_ii pc lv st h (fun x y => x >>> (y &&& 31))
  | .idiv => a_ii0 pc lv st h (fun x y => x / y)
  | .irem => a_ii0 pc lv st h (fun x y => x - x / y * y)
  | .ineg => a_i pc lv st h (fun x => -x)
  | .i2b => a_i pc lv st h (fun x => x.toInt8.toInt32)
  | .ladd => a_ll pc lv st h (fun x y => x + y)
  | .lsub => a_ll pc lv st h (fun x y => x - y)
  | .lmul => a_ll pc lv st h (fun x y => x * y)
  | .land => a_ll pc lv st h (fun x y => x &&& y)
  | .lor => a_ll pc lv st h (fun x y => x ||| y)
  | .ldiv => a_ll0 pc lv st h (fun x y => x / y)
  | .lrem => a_ll0 pc lv st h (fun x y => x - x / y * y)
  | .lshl => a_lshl pc lv st h
  | .lcmp => a_lcmp pc lv st h
  | .i2l => a_i2l pc lv st h
  | .l2i => a_l2i pc lv st h
  | .dup => a_dup pc lv st h
  | .dup2 => a_dup2 pc lv st h
  | .pop => a_pop pc lv st h
  | .ifCond .eq off => a_if pc lv st h off (fun x => decide (x = 0))
  | .ifCond .ne off => a_if pc lv st h off (fun x => decide (¬ x = 0))
  | .ifCond .lt off => a_if pc lv st h off (fun x => decide (x < 0))
  | .ifCond .ge off => a_if pc lv st h off (fun x => decide (0 ≤ x))
  | .ifCond .gt off => a_if pc lv st h off (fun x => decide (0 < x))
  | .ifCond .le off => a_if pc lv st h off (fun x => decide (x ≤ 0))
  | .if_icmp .eq off => a_cmp pc lv st h off (fun x y => decide (x = y))
  | .if_icmp .ne off => a_cmp pc lv st h off (fun x y => decide (¬ x = y))
  | .if_icmp .lt off => a_cmp pc lv st h off (fun x y => decide (x < y))
  | .if_icmp .ge off => a_cmp pc lv st h off (fun x y => decide (y ≤ x))
  | .if_icmp .gt off => a_cmp pc lv st h off (fun x y => decide (y < x))
  | .if_icmp .le off => a_cmp pc lv st h off (fun x y => decide (x ≤ y))
  | .goto off => a_goto pc lv st h off
  | .tableswitch dflt lo hi offs => a_tsw pc lv st h dflt lo hi offs
  | .lookupswitch dflt ps => a_lsw pc lv st h dflt ps
  | .getfield _ => a_get pc lv st h r.2.2.1 r.2.2.2.1
  | .putfield _ => a_put pc lv st h r.2.2.1 r.2.2.2.1
  | .new _ => a_new pc lv st h r.2.2.1
  | .newarray _ => a_newa pc lv st h r.2.2.1
  | .anewarray _ => a_anew pc lv st h r.2.2.1
  | .iaload => a_iald pc lv st h X
  | .baload => a_bald pc lv st h
  | .laload => a_lald pc lv st h
  | .aaload => a_aald pc lv st h
  | .iastore => a_iast pc lv st h
  | .bastore => a_bast pc lv st h
  | .lastore => a_last pc lv st h
  | .aastore => a_aast pc lv st h
  | .arraylength => a_alen pc lv st h X
  | .ireturn => a_iret st h r.2.2.1
  | .lreturn => a_lret st h
  | .return_ => a_vret st h
  | .invokespecial _ => if r.2.2.1 = 1000 then a_obj pc lv st h else match r.2.2.2.2 with
    | .int k => a_callV pc lv st h k.toNatClampNeg r.2.2.1 r.2.2.2.1
    | _ => none
  | .invokevirtual _ => if r.2.2.1 = 1000 then a_chr pc lv st h else match r.2.2.2.2 with
    | .int k => a_callV pc lv st h k.toNatClampNeg r.2.2.1 r.2.2.2.1
    | _ => none
  | .invokestatic _ => if 1000 ≤ r.2.2.1 then a_prim (r.2.2.1 - 1000) pc lv st h else a_callS pc lv st h r.2.2.1 r.2.2.2.1
  | _ => none
/-- a method: its name, bytes, number of variables, type of its answer, rows -/
abbrev aMt : Type := MethodName × ByteArray × Nat × Option FieldType × List (Nat × aI) × (Nat × Nat × Nat × Nat × Nat)
