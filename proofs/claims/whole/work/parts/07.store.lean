/-! the steps that write arrays, make arrays; the JDK's own that are done at once -/
section S7
variable {p : Program} {l : Launch} {e : Env} {R : Room} {s : State} {m : MethodId} {args : Array Value} {below : List Frame} {meth : Method} {c : Code} {Q : State → Prop} {K : aK} {D : va_G} {ty : Nat → ClassId} {X : aX} {nL n0 s0 : Nat} {cc : ByteArray} {pc : Nat} {lv : aL} {st : List Value} {h : aH} {q : aF} {own C : String} {i : Nat}
theorem s_iast (hx : p.tables.exec = Jvm.exec) (hb : c.code = cc) (hcx : aCx K D ty X s s.heap) (hd : decode cc pc = .ok (.iastore, 1)) (hs : a_iast pc lv st h = some (.inl q)) (kk : aCo p l e R s m args below meth c Q K D ty nL n0 s0 q) : aCo p l e R s m args below meth c Q K D ty nL n0 s0 (pc, lv, st, h) := by
  intro ls H locs hl hr hS
  unfold a_iast at hs
  split at hs
  · rename_i x i a t
    split at hs
    · rename_i tag n f hcell
      split at hs
      · rename_i hc
        obtain ⟨rfl, hin0⟩ := hc
        have hin := aIn_of hin0
        cases hs
        refine W.iast hx hb (hr.at hcell) ((hcx.2.1.2 0 _ rfl).1 n (fun j => .int (f j))) (fun q => by cases q) (by show ¬ (i < 0 ∨ (arrV _ _ _).slots.size ≤ _); rw [arrV_size]; exact hin) rfl rfl hd fun H1 e z oq => ?_
        have hrel : aRel K D ty (h.set a (.inl (0, n, .inl (upd f i.toNatClampNeg x)))) H1 := by
          refine hr.set hcell ?_ z oq
          show H1[K.1 + a]? = some (vp_cell _ _)
          rw [e]
          show some ((vp_cell (ty 0) (n, .inl f)).setSlot _ _) = some (vp_cell (ty 0) (n, .inl _))
          rw [vp_cell_i, vp_cell_i, arrV_store]
          congr 2
          funext y
          by_cases hq : y = i.toNatClampNeg
          · subst hq
            simp [updV, upd]
          · simp [updV, upd, hq]
        have k1 := kk ls H1 _ hl hrel (hS.put (k := i.toNatClampNeg) z oq (Nat.le_add_right _ _))
        simp only [List.length_set] at k1
        rw [aSl_setA hcell] at k1
        exact k1
      · cases hs
    · cases hs
  · cases hs
theorem s_bast (hx : p.tables.exec = Jvm.exec) (hb : c.code = cc) (hcx : aCx K D ty X s s.heap) (hd : decode cc pc = .ok (.bastore, 1)) (hs : a_bast pc lv st h = some (.inl q)) (kk : aCo p l e R s m args below meth c Q K D ty nL n0 s0 q) : aCo p l e R s m args below meth c Q K D ty nL n0 s0 (pc, lv, st, h) := by
  intro ls H locs hl hr hS
  unfold a_bast at hs
  split at hs
  · rename_i x i a t
    split at hs
    · rename_i tag n f hcell
      split at hs
      · rename_i hc
        obtain ⟨rfl, hin0⟩ := hc
        have hin := aIn_of hin0
        cases hs
        refine W.bast hx hb (hr.at hcell) ((hcx.2.1.2 1 _ rfl).1 n (fun j => .int (f j))) (fun q => by cases q) (by show ¬ (i < 0 ∨ (arrV _ _ _).slots.size ≤ _); rw [arrV_size]; exact hin) rfl rfl hd fun H1 e z oq => ?_
        have hrel : aRel K D ty (h.set a (.inl (1, n, .inl (upd f i.toNatClampNeg (vp_nar .byte x))))) H1 := by
          refine hr.set hcell ?_ z oq
          show H1[K.1 + a]? = some (vp_cell _ _)
          rw [e]
          show some ((vp_cell (ty 1) (n, .inl f)).setSlot _ _) = some (vp_cell (ty 1) (n, .inl _))
          rw [vp_cell_i, vp_cell_i, arrV_store]
          congr 2
          funext y
          by_cases hq : y = i.toNatClampNeg
          · subst hq
            simp [updV, upd, vp_nar]
            try rfl
          · simp [updV, upd, hq]
        have k1 := kk ls H1 _ hl hrel (hS.put (k := i.toNatClampNeg) z oq (Nat.le_add_right _ _))
        simp only [List.length_set] at k1
        rw [aSl_setA hcell] at k1
        exact k1
      · split at hs
        · rename_i hc
          obtain ⟨rfl, hin0⟩ := hc
          have hin := aIn_of hin0
          cases hs
          refine W.zast hx hb (hr.at hcell) ((hcx.2.1.2 2 _ rfl).1 n (fun j => .int (f j))) (fun q => by cases q) (by show ¬ (i < 0 ∨ (arrV _ _ _).slots.size ≤ _); rw [arrV_size]; exact hin) rfl rfl hd fun H1 e z oq => ?_
          have hrel : aRel K D ty (h.set a (.inl (2, n, .inl (upd f i.toNatClampNeg (vp_nar .boolean x))))) H1 := by
            refine hr.set hcell ?_ z oq
            show H1[K.1 + a]? = some (vp_cell _ _)
            rw [e]
            show some ((vp_cell (ty 2) (n, .inl f)).setSlot _ _) = some (vp_cell (ty 2) (n, .inl _))
            rw [vp_cell_i, vp_cell_i, arrV_store]
            congr 2
            funext y
            by_cases hq : y = i.toNatClampNeg
            · subst hq
              simp [updV, upd, vp_nar]
              try rfl
            · simp [updV, upd, hq]
          have k1 := kk ls H1 _ hl hrel (hS.put (k := i.toNatClampNeg) z oq (Nat.le_add_right _ _))
          simp only [List.length_set] at k1
          rw [aSl_setA hcell] at k1
          exact k1
        · cases hs
    · cases hs
  · cases hs
theorem s_last (hx : p.tables.exec = Jvm.exec) (hb : c.code = cc) (hcx : aCx K D ty X s s.heap) (hd : decode cc pc = .ok (.lastore, 1)) (hs : a_last pc lv st h = some (.inl q)) (kk : aCo p l e R s m args below meth c Q K D ty nL n0 s0 q) : aCo p l e R s m args below meth c Q K D ty nL n0 s0 (pc, lv, st, h) := by
  intro ls H locs hl hr hS
  unfold a_last at hs
  split at hs
  · rename_i x i a t
    split at hs
    · rename_i tag n f hcell
      split at hs
      · rename_i hc
        obtain ⟨rfl, hin0⟩ := hc
        have hin := aIn_of hin0
        cases hs
        refine W.last hx hb (hr.at hcell) ((hcx.2.1.2 3 _ rfl).1 n (fun j => .long (f j))) (fun q => by cases q) (by show ¬ (i < 0 ∨ (arrV _ _ _).slots.size ≤ _); rw [arrV_size]; exact hin) rfl rfl hd fun H1 e z oq => ?_
        have hrel : aRel K D ty (h.set a (.inl (3, n, .inr (.inl (vp_updL f i.toNatClampNeg x))))) H1 := by
          refine hr.set hcell ?_ z oq
          show H1[K.1 + a]? = some (vp_cell _ _)
          rw [e]
          show some ((vp_cell (ty 3) (n, .inr (.inl f))).setSlot _ _) = some (vp_cell (ty 3) (n, .inr (.inl _)))
          rw [vp_cell_l, vp_cell_l, arrV_store]
          congr 2
          funext y
          by_cases hq : y = i.toNatClampNeg
          · subst hq
            simp [updV, vp_updL]
          · simp [updV, vp_updL, hq]
        have k1 := kk ls H1 _ hl hrel (hS.put (k := i.toNatClampNeg) z oq (Nat.le_add_right _ _))
        simp only [List.length_set] at k1
        rw [aSl_setA hcell] at k1
        exact k1
      · cases hs
    · cases hs
  · cases hs
theorem s_aast (hx : p.tables.exec = Jvm.exec) (hb : c.code = cc) (hcx : aCx K D ty X s s.heap) (hd : decode cc pc = .ok (.aastore, 1)) (hs : a_aast pc lv st h = some (.inl q)) (kk : aCo p l e R s m args below meth c Q K D ty nL n0 s0 q) : aCo p l e R s m args below meth c Q K D ty nL n0 s0 (pc, lv, st, h) := by
  intro ls H locs hl hr hS
  unfold a_aast at hs
  split at hs
  · rename_i v i a t
    split at hs
    · rename_i tag n f hcell
      split at hs
      · rename_i cj vs hv
        split at hs
        · rename_i hc
          obtain ⟨h4, h6, rfl, hin0⟩ := hc
          have hin := aIn_of hin0
          cases hs
          obtain ⟨r, hcr, ht⟩ := aTag (ty := ty) h4 h6
          have hlt : i.toNatClampNeg < n := Nat.not_le.mp fun q => hin (Or.inr q)
          have hi0 : ¬ i < 0 := fun q => hin (Or.inl q)
          obtain ⟨r', hr', cellV, g1, g2, g3, -⟩ := hr.at hv
          have hcls := (hcx.2.1.1 (a_tagC tag) r hcr).2
          obtain ⟨kA, comp, k1, k2, k3, -⟩ := (hcx.2.1.2 tag _ ht).2
          have hcomp : comp = D.1 (a_tagC tag) := Option.some.inj (k3.symm.trans hcls.1)
          subst hcomp
          obtain ⟨kC, hkC, -⟩ := hcls.2
          refine W.aast hx hb (hr.at hcell) (fun q h => by cases h) (fun h => by cases h) k1 k2 rfl hkC ⟨hi0, by show _ < (arrV _ _ _).slots.size; rw [arrV_size]; exact hlt⟩ g1 (fun q h => by rw [g3] at h; cases h) (by rw [g2]; exact hkC) (by rw [g2]; exact va_assign hcls) rfl rfl hd fun H1 e z oq => ?_
          have hrel : aRel K D ty (h.set a (.inl (tag, n, .inr (.inr (.inr (.inr (va_up f i.toNatClampNeg (some v)))))))) H1 := by
            refine hr.set hcell ?_ z oq
            show H1[K.1 + a]? = some (vp_cell _ _)
            rw [e]
            show some ((vp_cell (ty tag) (n, .inr (.inr (.inr (.inr (fun j => (f j).map (fun q => K.1 + q))))))).setSlot _ _) = some (vp_cell (ty tag) (n, .inr (.inr (.inr (.inr (fun j => (va_up f i.toNatClampNeg (some v) j).map (fun q => K.1 + q)))))))
            rw [vp_cell_q, vp_cell_q, arrV_store]
            congr 2
            funext y
            by_cases hq : y = i.toNatClampNeg
            · subst hq
              simp [updV, va_up, va_rf]
            · simp [updV, va_up, hq]
          have k1 := kk ls H1 _ hl hrel (hS.put (k := i.toNatClampNeg) z oq (Nat.le_add_right _ _))
          simp only [List.length_set] at k1
          rw [aSl_setA hcell] at k1
          exact k1
        · cases hs
      · cases hs
    · cases hs
  · cases hs
/-- what kind of array a tag is for -/
def aTagT : ArrayType → Nat → Bool
  | .int, 0 => true
  | .byte, 1 => true
  | .boolean, 2 => true
  | .long, 3 => true
  | _, _ => false
theorem s_newa {t0 : ArrayType} {tag : Nat} (hx : p.tables.exec = Jvm.exec) (hb : c.code = cc) (hts : ∀ w ∈ aG, w.before args s = true) (hcx : aCx K D ty X s s.heap) (htag : aTagT t0 tag = true) (harr : Cond.arrayClass (newarray.typeOf t0) ∈ aG)
    (hd : decode cc pc = .ok (.newarray t0, 2)) (hn0 : n0 ≤ h.length) (hs0 : s0 ≤ aSl h) (hs : a_newa pc lv st h tag = some (.inl q)) (hrm : q.2.2.2.length - n0 ≤ R.cells ∧ aSl q.2.2.2 - s0 ≤ R.slots) (kk : aCo p l e R s m args below meth c Q K D ty nL n0 s0 q) : aCo p l e R s m args below meth c Q K D ty nL n0 s0 (pc, lv, st, h) := by
  intro ls H locs hl hr hS
  unfold a_newa at hs
  split at hs
  · rename_i n t
    split at hs
    · cases hs
    · rename_i hn
      have hna : ¬ n < 0 := fun z => hn (Or.inl z)
      have hnb : n.toNatClampNeg ≤ 4096 := Nat.not_lt.mp fun z => hn (Or.inr z)
      cases hs
      generalize hce : ((.inl (tag, n.toNatClampNeg, if tag = 3 then .inr (.inl (fun _ => 0)) else .inl (fun _ => 0)) : aC)) = ce at hrm kk
      have hsl : aSl1 ce = n.toNatClampNeg := by rw [← hce]; rfl
      have e1 : (h ++ [ce]).length - n0 = h.length - n0 + 1 := by
        rw [List.length_append]; simp only [List.length_cons, List.length_nil]; omega
      have e2 : aSl (h ++ [ce]) - s0 = aSl h - s0 + n.toNatClampNeg := by
        rw [aSl_app, hsl]; omega
      simp only [e1, e2] at hrm
      have hbytes : n.toNatClampNeg * componentBytes (newarray.typeOf t0) ≤ 536870912 := by
        have : componentBytes (newarray.typeOf t0) ≤ 8 := by cases t0 <;> decide
        calc n.toNatClampNeg * componentBytes (newarray.typeOf t0) ≤ 4096 * 8 := Nat.mul_le_mul hnb this
          _ ≤ 536870912 := by decide
      refine va_newaK (g := F0 m pc ls (.int n :: t.map (aSh K))) hx hb (hts _ harr) rfl hd rfl hna rfl hbytes hrm.1 hrm.2 rfl fun H1 cA b1 z1 o1 hAr hNm => ?_
      have hrel : aRel K D ty (h ++ [ce]) H1 := by
        refine hr.push ?_ z1 o1
        rw [← hce]
        unfold aTagT at htag
        split at htag
        · have hc : cA = ty 0 := Option.some.inj (hNm.symm.trans (hcx.2.1.2 0 _ rfl).2)
          subst hc
          exact b1
        · have hc : cA = ty 1 := Option.some.inj (hNm.symm.trans (hcx.2.1.2 1 _ rfl).2)
          subst hc
          exact b1
        · have hc : cA = ty 2 := Option.some.inj (hNm.symm.trans (hcx.2.1.2 2 _ rfl).2)
          subst hc
          exact b1
        · have hc : cA = ty 3 := Option.some.inj (hNm.symm.trans (hcx.2.1.2 3 _ rfl).2)
          subst hc
          exact b1
        · cases htag
      have k1 := kk ls H1 locs hl hrel ⟨Nat.le_trans hS.1 (by omega), fun x h1 h2 => (o1 x (Nat.lt_of_lt_of_le h1 hS.1)).trans (hS.2.1 x h1 h2), hS.2.2⟩
      simp only [e1, e2] at k1
      have k2 : W p l e R s m args below meth c H1 locs (h.length - n0 + 1) (aSl h - s0 + n.toNatClampNeg) Q (F0 m (pc + 2) ls (.ref (K.1 + h.length) :: t.map (aSh K))) := k1
      rw [← hr.2] at k2
      exact k2
  · cases hs
theorem s_anew {tag : Nat} (hx : p.tables.exec = Jvm.exec) (hb : c.code = cc) (hts : ∀ w ∈ aG, w.before args s = true) (hown : s.vm.findClass own = some m.cls) (hcx : aCx K D ty X s s.heap) (h4 : 4 ≤ tag) (h6 : tag ≤ 6) (hT : (aTys ty)[tag]? = some (ty tag, .object C)) (hlink : Cond.classLink own i C ∈ aG) (hover : Cond.arrayOver (.object C) ∈ aNest)
    (hd : decode cc pc = .ok (.anewarray i, 3)) (hn0 : n0 ≤ h.length) (hs0 : s0 ≤ aSl h) (hs : a_anew pc lv st h tag = some (.inl q)) (hrm : q.2.2.2.length - n0 ≤ R.cells ∧ aSl q.2.2.2 - s0 ≤ R.slots) (kk : aCo p l e R s m args below meth c Q K D ty nL n0 s0 q) : aCo p l e R s m args below meth c Q K D ty nL n0 s0 (pc, lv, st, h) := by
  intro ls H locs hl hr hS
  unfold a_anew at hs
  split at hs
  · rename_i n t
    split at hs
    · cases hs
    · rename_i hn
      have hna : ¬ n < 0 := fun z => hn (Or.inl z)
      have hnb : n.toNatClampNeg ≤ 4096 := Nat.not_lt.mp fun z => hn (Or.inr z)
      cases hs
      have e1 : (h ++ [(.inl (tag, n.toNatClampNeg, .inr (.inr (.inr (.inr (fun _ => none))))) : aC)]).length - n0 = h.length - n0 + 1 := by
        rw [List.length_append]; simp only [List.length_cons, List.length_nil]; omega
      have e2 : aSl (h ++ [(.inl (tag, n.toNatClampNeg, .inr (.inr (.inr (.inr (fun _ => none))))) : aC)]) - s0 = aSl h - s0 + n.toNatClampNeg := by
        rw [aSl_app]
        show aSl h + n.toNatClampNeg - s0 = _
        omega
      simp only [e1, e2] at hrm
      refine W.anew (g := F0 m pc ls (.int n :: t.map (aSh K))) hx hb hown (hts _ hlink) (va_AO.use (hcx.1 _ hover)) rfl hd rfl hna (by omega) hrm.1 hrm.2 fun cA kA comp f1 f2 f3 f4 => ?_
      generalize hH1 : H.push ({ cls := cA, slots := Array.replicate n.toNatClampNeg .null, vm := .none } : Cell) = H1
      have z1 : H1.size = H.size + 1 := by rw [← hH1, Array.size_push]
      have b1 : H1[H.size]? = some (arrV cA n.toNatClampNeg (fun _ => .null)) := by rw [← hH1, Array.getElem?_push_size, ← arrV_new]
      have o1 : ∀ q : Nat, q < H.size → H1[q]? = H[q]? := fun q hq => by rw [← hH1, Array.getElem?_push, if_neg (Nat.ne_of_lt hq)]
      have hc : cA = ty tag := by
        obtain ⟨kA', comp', -, -, -, g4⟩ := (hcx.2.1.2 tag _ hT).2
        exact Option.some.inj (f1.symm.trans g4)
      subst hc
      have hrel : aRel K D ty (h ++ [.inl (tag, n.toNatClampNeg, .inr (.inr (.inr (.inr (fun _ => none)))))]) H1 := by
        refine hr.push ?_ z1 o1
        show H1[H.size]? = some (vp_cell _ _)
        rw [b1]
        rfl
      have k1 := kk ls H1 locs hl hrel ⟨Nat.le_trans hS.1 (by omega), fun x h1 h2 => (o1 x (Nat.lt_of_lt_of_le h1 hS.1)).trans (hS.2.1 x h1 h2), hS.2.2⟩
      simp only [e1, e2] at k1
      have k2 : W p l e R s m args below meth c H1 locs (h.length - n0 + 1) (aSl h - s0 + n.toNatClampNeg) Q (F0 m (pc + 3) ls (.ref (K.1 + h.length) :: t.map (aSh K))) := k1
      rw [← hr.2] at k2
      exact k2
  · cases hs
end S7
