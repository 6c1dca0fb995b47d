/-! the JDK's own that are done at once -/
section S8
variable {p : Program} {l : Launch} {e : Env} {R : Room} {s : State} {m : MethodId} {args : Array Value} {below : List Frame} {meth : Method} {c : Code} {Q : State → Prop} {K : aK} {D : va_G} {ty : Nat → ClassId} {X : aX} {nL n0 s0 : Nat} {cc : ByteArray} {pc : Nat} {lv : aL} {st : List Value} {h : aH} {q : aF} {own C : String} {i : Nat}
theorem aW_copy {H : Heap} {locs : List Loc} {cells slots : Nat} {ls : Array Slot} {rest : List Value} {A : Nat → Prop} {H0 : Heap} (hexec : p.tables.exec = Jvm.exec) (hb : c.code = cc) (hml : c.maxLocals = ls.size) {own : String} {index : Nat} (hown : s.vm.findClass own = some m.cls) (hlink : (Cond.methodLink own index arraycopyName).before args s = true) (hnat : (Cond.native arraycopyName).before args s = true) (hstat : (Cond.static arraycopyName).before args s = true) (hini : (Cond.initialized "java/lang/System").before args s = true)
    {a0 a : Nat} {c0 : ClassId} {n0 n1 : Nat} {f g : Nat → Int32} (hc0 : H[a0]? = some (vp_cell c0 (n0, .inl f))) (hc1 : H[a]? = some (vp_cell c0 (n1, .inl g))) (hAr : ArrOfT s c0 .int) (hS : va_S A H0 H locs) (hAa : A a)
    {sp dp n : Int32} (h1 : ¬ sp < 0) (h2 : ¬ dp < 0) (h3 : ¬ n < 0) (h4 : sp.toNatClampNeg + n.toNatClampNeg ≤ n0) (h5 : dp.toNatClampNeg + n.toNatClampNeg ≤ n1)
    (hframes : 1 ≤ R.frames) (hlocals : (rest.map fun v => v.category).sum + (nativeFrameWords "java/lang/System" "arraycopy" 5 + 11) ≤ R.locals) (hdg : decode cc pc = .ok (.invokestatic index, 3))
    (kk : ∀ (H1 : Heap) (locs1 : List Loc), H1[a]? = some (vp_cell c0 (n1, .inl (va_cpy f g sp.toNatClampNeg dp.toNatClampNeg n.toNatClampNeg))) → H1.size = H.size → (∀ q : Nat, q ≠ a → H1[q]? = H[q]?) → va_S A H0 H1 locs1 → W p l e R s m args below meth c H1 locs1 cells slots Q (F0 m (pc + 3) ls rest)) : W p l e R s m args below meth c H locs cells slots Q (F0 m pc ls (.int n :: .int dp :: .ref a :: .int sp :: .ref a0 :: rest)) := by
  have nn : ∀ z : Int32, ¬ z < 0 → z.toInt = (z.toNatClampNeg : Int) := by
    intro z hz
    have hz0 : (0 : Int) ≤ z.toInt := by
      have := Int32.not_lt.mp hz
      simpa using Int32.le_iff_toInt_le.mp this
    show z.toInt = ((z.toInt.toNat : Nat) : Int)
    omega
  intro T hT X
  obtain ⟨-, k0, hk0, cm0, hkk0⟩ := hAr n0 (fun j => .int (f j))
  obtain ⟨-, k1, hk1, cm1, hkk1⟩ := hAr n1 (fun j => .int (g j))
  obtain ⟨vm', X', step⟩ := X.arraycopy hexec hown hlink hnat hstat hini (src := a0) (dst := a) (cs := vp_cell c0 (n0, .inl f)) (cd := vp_cell c0 (n1, .inl g)) (srcPos := sp) (destPos := dp) (n := n) (by rw [hT]; exact hc0) (by rw [hT]; exact hc1)
    (fun _ h => by cases h) (fun _ h => by cases h) (fun h => by cases h) (fun h => by cases h) hk0 hk1 hkk0 hkk1 (by simp [refKind]) h1 h2 h3
    (by rw [nn sp h1, nn n h3]; show ¬ _ > ((arrV c0 n0 (fun j => .int (f j))).slots.size : Int); rw [arrV_size]; omega)
    (by rw [nn dp h2, nn n h3]; show ¬ _ > ((arrV c0 n1 (fun j => .int (g j))).slots.size : Int); rw [arrV_size]; omega)
    (fun vm₁ _ i hi => by
      have e : (vp_cell c0 (n0, .inl f)).slots.getD (sp.toNatClampNeg + i) .null = .int (f (sp.toNatClampNeg + i)) := by
        show (arrV c0 n0 (fun j => .int (f j))).slots.getD _ _ = _
        rw [Array.getD_eq_getD_getElem?, arrV_read _ _ (by omega)]
        rfl
      refine ⟨?_, ?_⟩
      · rw [e]
        rfl
      · rw [e]
        exact trivial)
    (g := F0 m pc ls (.int n :: .int dp :: .ref a :: .int sp :: .ref a0 :: rest)) rfl (by rw [hml]) (rest := rest) rfl (by rw [hb]; exact hdg) hframes (by show 2 * 0 + _ + _ ≤ _; omega)
  have e1 : copied (vp_cell c0 (n0, .inl f)) (vp_cell c0 (n1, .inl g)) sp dp n = vp_cell c0 (n1, .inl (va_cpy f g sp.toNatClampNeg dp.toNatClampNeg n.toNatClampNeg)) := va_copied (fun z => .int z) c0 c0 f g h4
  rw [e1] at X' step
  have hl : a < H.size := (Array.getElem?_eq_some_iff.mp hc1).1
  have hheap : ((T.setVm vm').setCell a (vp_cell c0 (n1, .inl (va_cpy f g sp.toNatClampNeg dp.toNatClampNeg n.toNatClampNeg)))).heap = H.setIfInBounds a (vp_cell c0 (n1, .inl (va_cpy f g sp.toNatClampNeg dp.toNatClampNeg n.toNatClampNeg))) := by rw [← hT]; rfl
  have oq : ∀ q : Nat, q ≠ a → (H.setIfInBounds a (vp_cell c0 (n1, .inl (va_cpy f g sp.toNatClampNeg dp.toNatClampNeg n.toNatClampNeg))))[q]? = H[q]? := fun q hq => by simp [Array.getElem?_setIfInBounds, Ne.symm hq]
  obtain ⟨t, a1, b1⟩ := kk _ _ (show (H.setIfInBounds a _)[a]? = some _ by simp [Array.getElem?_setIfInBounds, hl]) (by simp) oq ⟨by simp; exact hS.1, fun q g1 g2 => by
      rw [oq q (fun e => g2 (by rw [e]; exact hAa))]
      exact hS.2.1 q g1 g2, fun q hq => by
      rcases List.mem_append.mp hq with h | h
      · exact hS.2.2 q h
      · obtain ⟨z, -, hz⟩ := List.mem_map.mp h
        rw [← hz]
        exact hAa⟩ _ hheap X'
  exact ⟨t, step t a1, b1⟩
theorem s_copy (hx : p.tables.exec = Jvm.exec) (hb : c.code = cc) (hml : c.maxLocals = nL) (hts : ∀ w ∈ aG, w.before args s = true) (hown : s.vm.findClass own = some m.cls) (hcx : aCx K D ty X s s.heap) (hlink : Cond.methodLink own i arraycopyName ∈ aG) (hnat : Cond.native arraycopyName ∈ aG) (hstat : Cond.static arraycopyName ∈ aG) (hini : Cond.initialized "java/lang/System" ∈ aG)
    (hfr : 1 ≤ R.frames) (hlo : 64 ≤ R.locals) (hd : decode cc pc = .ok (.invokestatic i, 3)) (hs : a_copy pc lv st h = some (.inl q)) (kk : aCo p l e R s m args below meth c Q K D ty nL n0 s0 q) : aCo p l e R s m args below meth c Q K D ty nL n0 s0 (pc, lv, st, h) := by
  intro ls H locs hl hr hS
  unfold a_copy at hs
  split at hs
  · rename_i n dp d sp s' t
    split at hs
    · rename_i m0 f m1 g hc0 hc1
      split at hs
      · cases hs
      · rename_i hn
        have g0 : aStk t = true := by
          cases hq : aStk t with
          | true => rfl
          | false => exact absurd (Or.inl hq) hn
        have g1 : ¬ n < 0 := fun z => hn (Or.inr (Or.inl z))
        have g2 : ¬ dp < 0 := fun z => hn (Or.inr (Or.inr (Or.inl z)))
        have g3 : ¬ sp < 0 := fun z => hn (Or.inr (Or.inr (Or.inr (Or.inl z))))
        have g4 : sp.toNatClampNeg + n.toNatClampNeg ≤ m0 := Nat.not_lt.mp fun z => hn (Or.inr (Or.inr (Or.inr (Or.inr (Or.inl z)))))
        have g5 : dp.toNatClampNeg + n.toNatClampNeg ≤ m1 := Nat.not_lt.mp fun z => hn (Or.inr (Or.inr (Or.inr (Or.inr (Or.inr z)))))
        cases hs
        have hstk := aStk_map (K := K) g0
        have hw : nativeFrameWords "java/lang/System" "arraycopy" 5 + 11 ≤ 40 := by decide +kernel
        refine aW_copy (A := aBe K) (H0 := s.heap) hx hb (by rw [hml, hl.2.1]) hown (hts _ hlink) (hts _ hnat) (hts _ hstat) (hts _ hini) (hr.at hc0) (hr.at hc1) (hcx.2.1.2 0 _ rfl).1 hS (Nat.le_add_right _ _) g3 g2 g1 g4 g5 hfr (by omega) hd fun H1 locs1 b1 z1 o1 hS1 => ?_
        have hrel : aRel K D ty (h.set d (.inl (0, m1, .inl (va_cpy f g sp.toNatClampNeg dp.toNatClampNeg n.toNatClampNeg)))) H1 := hr.set hc1 b1 z1 o1
        have k1 := kk ls H1 locs1 hl hrel hS1
        simp only [List.length_set] at k1
        rw [aSl_setA hc1] at k1
        exact k1
    · cases hs
  · cases hs
theorem s_imax (hx : p.tables.exec = Jvm.exec) (hb : c.code = cc) (hml : c.maxLocals = nL) (hts : ∀ w ∈ aG, w.before args s = true) (hown : s.vm.findClass own = some m.cls) (hlink : Cond.methodLink own i Lib.Math.max.name ∈ aG) (hstat : Cond.static Lib.Math.max.name ∈ aG) (hini : Cond.initialized "java/lang/Math" ∈ aG) (hcode : Cond.code Lib.Math.max.name Lib.Math.max.code 2 (some .int) ∈ aG)
    (hfr : 1 ≤ R.frames) (hlo : 64 ≤ R.locals) (hd : decode cc pc = .ok (.invokestatic i, 3)) (hs : a_imax pc lv st h = some (.inl q)) (hrm : q.2.2.2.length - n0 ≤ R.cells ∧ aSl q.2.2.2 - s0 ≤ R.slots) (kk : aCo p l e R s m args below meth c Q K D ty nL n0 s0 q) : aCo p l e R s m args below meth c Q K D ty nL n0 s0 (pc, lv, st, h) := by
  intro ls H locs hl hr hS
  unfold a_imax at hs
  split at hs
  · split at hs
    · rename_i g0
      cases hs
      have hstk := aStk_map (K := K) g0
      exact va_mmax hx hb (by rw [hml, hl.2.1]) hown (hts _ hlink) (hts _ hstat) (hts _ hini) (hts _ hcode) hfr (by omega) hrm.1 hrm.2 hd (kk ls H locs hl hr hS)
    · cases hs
  · cases hs
theorem s_imin (hx : p.tables.exec = Jvm.exec) (hb : c.code = cc) (hml : c.maxLocals = nL) (hts : ∀ w ∈ aG, w.before args s = true) (hown : s.vm.findClass own = some m.cls) (hlink : Cond.methodLink own i Lib.Math.min.name ∈ aG) (hstat : Cond.static Lib.Math.min.name ∈ aG) (hini : Cond.initialized "java/lang/Math" ∈ aG) (hcode : Cond.code Lib.Math.min.name Lib.Math.min.code 2 (some .int) ∈ aG)
    (hfr : 1 ≤ R.frames) (hlo : 64 ≤ R.locals) (hd : decode cc pc = .ok (.invokestatic i, 3)) (hs : a_imin pc lv st h = some (.inl q)) (hrm : q.2.2.2.length - n0 ≤ R.cells ∧ aSl q.2.2.2 - s0 ≤ R.slots) (kk : aCo p l e R s m args below meth c Q K D ty nL n0 s0 q) : aCo p l e R s m args below meth c Q K D ty nL n0 s0 (pc, lv, st, h) := by
  intro ls H locs hl hr hS
  unfold a_imin at hs
  split at hs
  · split at hs
    · rename_i g0
      cases hs
      have hstk := aStk_map (K := K) g0
      exact va_mmin hx hb (by rw [hml, hl.2.1]) hown (hts _ hlink) (hts _ hstat) (hts _ hini) (hts _ hcode) hfr (by omega) hrm.1 hrm.2 hd (kk ls H locs hl hr hS)
    · cases hs
  · cases hs
theorem s_lmax (hx : p.tables.exec = Jvm.exec) (hb : c.code = cc) (hml : c.maxLocals = nL) (hts : ∀ w ∈ aG, w.before args s = true) (hown : s.vm.findClass own = some m.cls) (hlink : Cond.methodLink own i Lib.MathLoose.max_long.x ∈ aG) (hstat : Cond.static Lib.MathLoose.max_long.x ∈ aG) (hini : Cond.initialized "java/lang/Math" ∈ aG) (hcode : Cond.code Lib.MathLoose.max_long.x Lib.MathLoose.max_long.code 4 (some .long) ∈ aG)
    (hfr : 1 ≤ R.frames) (hlo : 64 ≤ R.locals) (hd : decode cc pc = .ok (.invokestatic i, 3)) (hs : a_lmax pc lv st h = some (.inl q)) (hrm : q.2.2.2.length - n0 ≤ R.cells ∧ aSl q.2.2.2 - s0 ≤ R.slots) (kk : aCo p l e R s m args below meth c Q K D ty nL n0 s0 q) : aCo p l e R s m args below meth c Q K D ty nL n0 s0 (pc, lv, st, h) := by
  intro ls H locs hl hr hS
  unfold a_lmax at hs
  split at hs
  · split at hs
    · rename_i g0
      cases hs
      have hstk := aStk_map (K := K) g0
      exact va_mmax_long hx hb (by rw [hml, hl.2.1]) hown (hts _ hlink) (hts _ hstat) (hts _ hini) (hts _ hcode) hfr (by omega) hrm.1 hrm.2 hd (kk ls H locs hl hr hS)
    · cases hs
  · cases hs
theorem s_lmin (hx : p.tables.exec = Jvm.exec) (hb : c.code = cc) (hml : c.maxLocals = nL) (hts : ∀ w ∈ aG, w.before args s = true) (hown : s.vm.findClass own = some m.cls) (hlink : Cond.methodLink own i Lib.MathLoose.min_long.x ∈ aG) (hstat : Cond.static Lib.MathLoose.min_long.x ∈ aG) (hini : Cond.initialized "java/lang/Math" ∈ aG) (hcode : Cond.code Lib.MathLoose.min_long.x Lib.MathLoose.min_long.code 4 (some .long) ∈ aG)
    (hfr : 1 ≤ R.frames) (hlo : 64 ≤ R.locals) (hd : decode cc pc = .ok (.invokestatic i, 3)) (hs : a_lmin pc lv st h = some (.inl q)) (hrm : q.2.2.2.length - n0 ≤ R.cells ∧ aSl q.2.2.2 - s0 ≤ R.slots) (kk : aCo p l e R s m args below meth c Q K D ty nL n0 s0 q) : aCo p l e R s m args below meth c Q K D ty nL n0 s0 (pc, lv, st, h) := by
  intro ls H locs hl hr hS
  unfold a_lmin at hs
  split at hs
  · split at hs
    · rename_i g0
      cases hs
      have hstk := aStk_map (K := K) g0
      exact va_mmin_long hx hb (by rw [hml, hl.2.1]) hown (hts _ hlink) (hts _ hstat) (hts _ hini) (hts _ hcode) hfr (by omega) hrm.1 hrm.2 hd (kk ls H locs hl hr hS)
    · cases hs
  · cases hs
theorem s_obj (hx : p.tables.exec = Jvm.exec) (hb : c.code = cc) (hml : c.maxLocals = nL) (hts : ∀ w ∈ aG, w.before args s = true) (hown : s.vm.findClass own = some m.cls) (hlink : Cond.methodLink own i Lib.objectInit ∈ aG) (hin : Cond.instanceMethod Lib.objectInit ∈ aG) (hcode : Cond.code Lib.objectInit ⟨#[0xb1]⟩ 1 none ∈ aG)
    (hfr : 1 ≤ R.frames) (hlo : 64 ≤ R.locals) (hd : decode cc pc = .ok (.invokespecial i, 3)) (hs : a_obj pc lv st h = some (.inl q)) (kk : aCo p l e R s m args below meth c Q K D ty nL n0 s0 q) : aCo p l e R s m args below meth c Q K D ty nL n0 s0 (pc, lv, st, h) := by
  intro ls H locs hl hr hS
  unfold a_obj at hs
  split at hs
  · split at hs
    · rename_i a t g0
      cases hs
      have hstk := aStk_map (K := K) g0
      exact W.objInit (g := F0 m pc ls (.ref (K.1 + a) :: t.map (aSh K))) hx hb hown (hts _ hlink) (hts _ hin) (hts _ hcode) rfl (by show ls.size = _; rw [hml, hl.2.1]) rfl hd hfr (by show 2 * 0 + _ + 12 ≤ _; omega) (kk ls H locs hl hr hS)
    · cases hs
  · cases hs
end S8
