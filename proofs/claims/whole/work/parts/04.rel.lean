/-! HOW THE PURE MACHINE STANDS TO THE MACHINE: cell k of the row is the cell at K.1 + k; .float 0 is the String constant at K.2.1, .float 1 the script at K.2.2. -/
abbrev aK : Type := Nat × Nat × Nat
def aSh (K : aK) : Value → Value
  | .ref k => .ref (K.1 + k)
  | .float u => if u = 0 then .ref K.2.1 else .ref K.2.2
  | v => v
def aShA (K : aK) : vp_A → vp_A
  | (n, .inr (.inr (.inr (.inr f)))) => (n, .inr (.inr (.inr (.inr (fun i => (f i).map (fun q => K.1 + q))))))
  | (n, x) => (n, x)
def aConc (K : aK) (ty : Nat → ClassId) : aC → va_E
  | .inl (t, x) => .inl (ty t, aShA K x)
  | .inr (ci, fs) => .inr (ci, fs.map (aSh K))
def aWs (K : aK) (ty : Nat → ClassId) (h : aH) : va_W := h.mapIdx (fun k c => (K.1 + k, aConc K ty c))
abbrev aBe (K : aK) : Nat → Prop := fun q => K.1 ≤ q
def aRel (K : aK) (D : va_G) (ty : Nat → ClassId) (h : aH) (H : Heap) : Prop := va_P D cls (aWs K ty h) H ∧ H.size = K.1 + h.length
abbrev aTys (ty : Nat → ClassId) : List (ClassId × FieldType) := [(ty 0, .int), (ty 1, .byte), (ty 2, .boolean), (ty 3, .long), (ty 4, .object RX7), (ty 5, .object RX10), (ty 6, .object RX3)]
theorem aSh_cat (K : aK) (v : Value) : (aSh K v).category = v.category := by
  cases v with
  | float u =>
    show (if u = 0 then Value.ref K.2.1 else Value.ref K.2.2).category = 1
    by_cases hu : u = 0
    · rw [if_pos hu]; rfl
    · rw [if_neg hu]; rfl
  | _ => rfl
theorem aStk_map {K : aK} {t : List Value} (h : aStk t = true) : ((t.map (aSh K)).map fun v => v.category).sum ≤ 8 := by
  have h1 : ((t.map (aSh K)).map fun v => v.category) = t.map Value.category := by
    rw [List.map_map]
    exact List.map_congr_left (fun v _ => aSh_cat K v)
  rw [h1]
  exact of_decide_eq_true h
theorem aWs_get {K : aK} {ty : Nat → ClassId} {h : aH} {k : Nat} {c : aC} (hk : h[k]? = some c) : (aWs K ty h)[k]? = some (K.1 + k, aConc K ty c) := by
  simp [aWs, List.getElem?_mapIdx, hk]
theorem aWs_of {K : aK} {ty : Nat → ClassId} {h : aH} {k : Nat} {q : Nat × va_E} (hq : (aWs K ty h)[k]? = some q) : ∃ c, h[k]? = some c ∧ q = (K.1 + k, aConc K ty c) := by
  simp only [aWs, List.getElem?_mapIdx, Option.map_eq_some_iff] at hq
  obtain ⟨c, h1, h2⟩ := hq
  exact ⟨c, h1, h2.symm⟩
theorem aWs_D (K : aK) (ty : Nat → ClassId) (h : aH) : va_D (aBe K) (aWs K ty h) := by
  refine ⟨fun i j x y hx hy hxy => ?_, fun k q hq => ?_⟩
  · obtain ⟨a, -, rfl⟩ := aWs_of hx
    obtain ⟨b, -, rfl⟩ := aWs_of hy
    simp only at hxy
    omega
  · obtain ⟨a, -, rfl⟩ := aWs_of hq
    exact Nat.le_add_right _ _
theorem aWs_set {K : aK} {ty : Nat → ClassId} {h : aH} (k : Nat) (c : aC) : (aWs K ty h).set k (K.1 + k, aConc K ty c) = aWs K ty (h.set k c) := by
  apply List.ext_getElem?
  intro j
  simp only [aWs, List.getElem?_mapIdx, List.getElem?_set, List.length_mapIdx]
  by_cases hj : k = j
  · subst hj
    simp only [if_true]
    by_cases hl : k < h.length
    · simp [hl]
    · simp [hl]
  · simp [hj]
theorem aWs_push {K : aK} {ty : Nat → ClassId} {h : aH} (c : aC) : aWs K ty h ++ [(K.1 + h.length, aConc K ty c)] = aWs K ty (h ++ [c]) := by
  simp [aWs, List.mapIdx_append]
theorem aRel.at {K : aK} {D : va_G} {ty : Nat → ClassId} {h : aH} {H : Heap} (r : aRel K D ty h H) {k : Nat} {c : aC} (hk : h[k]? = some c) : va_at D cls (K.1 + k, aConc K ty c) H := r.1 k _ (aWs_get hk)
theorem aRel.set {K : aK} {D : va_G} {ty : Nat → ClassId} {h : aH} {H H1 : Heap} (r : aRel K D ty h H) {k : Nat} {c0 c : aC} (hk : h[k]? = some c0) (he : va_at D cls (K.1 + k, aConc K ty c) H1) (z : H1.size = H.size) (oq : ∀ q : Nat, q ≠ K.1 + k → H1[q]? = H[q]?) : aRel K D ty (h.set k c) H1 := by
  refine ⟨?_, by rw [z, r.2, List.length_set]⟩
  rw [← aWs_set]
  exact r.1.set (aWs_D K ty h) (aWs_get hk) he oq
theorem aRel.push {K : aK} {D : va_G} {ty : Nat → ClassId} {h : aH} {H H1 : Heap} (r : aRel K D ty h H) {c : aC} (he : va_at D cls (H.size, aConc K ty c) H1) (z : H1.size = H.size + 1) (oq : ∀ q : Nat, q < H.size → H1[q]? = H[q]?) : aRel K D ty (h ++ [c]) H1 := by
  refine ⟨?_, by rw [z, r.2, List.length_append]; rfl⟩
  rw [← aWs_push]
  refine (r.1.kept (fun k x hx => oq x.1 ((r.1 k x hx).lt))).app ?_
  intro k x hx
  have hz : k < 1 := (List.getElem?_eq_some_iff.mp hx).1
  rw [show k = 0 by omega] at hx
  cases hx
  rw [← r.2]
  exact he
/-! the variables -/
def aAs (K : aK) (lv : aL) : List (Nat × Value) := (List.range lv.length).filterMap (fun i => match lv[i]? with
  | some (some v) => some (i, aSh K v)
  | _ => none)
def aLR (K : aK) (nL : Nat) (ls : Array Slot) (lv : aL) : Prop := lv.length = nL ∧ ls.size = nL ∧ lv_wf ls ∧ ∀ (i : Nat) (v : Value), lv[i]? = some (some v) → ls[i]? = some (.val (aSh K v))
theorem aAs_in {K : aK} {lv : aL} {i : Nat} {v : Value} (h : lv[i]? = some (some v)) : (i, aSh K v) ∈ aAs K lv := by
  refine List.mem_filterMap.mpr ⟨i, List.mem_range.mpr (List.getElem?_eq_some_iff.mp h).1, ?_⟩
  simp [h]
theorem aAs_of {K : aK} {lv : aL} {q : Nat × Value} (h : q ∈ aAs K lv) : ∃ v, lv[q.1]? = some (some v) ∧ q.2 = aSh K v := by
  obtain ⟨i, -, h2⟩ := List.mem_filterMap.mp h
  split at h2
  · rename_i v hv
    cases h2
    exact ⟨v, hv, rfl⟩
  · cases h2
theorem aLR.has {K : aK} {nL : Nat} {ls : Array Slot} {lv : aL} (h : aLR K nL ls lv) : lv_has ls nL (aAs K lv) := by
  refine ⟨h.2.1, h.2.2.1, fun q hq => ?_⟩
  obtain ⟨v, h1, h2⟩ := aAs_of hq
  rw [h2]
  exact h.2.2.2 q.1 v h1
theorem aLR.at {K : aK} {nL : Nat} {ls : Array Slot} {lv : aL} (h : aLR K nL ls lv) {i : Nat} {v : Value} (hv : lv[i]? = some (some v)) : ls[i]? = some (.val (aSh K v)) := h.2.2.2 i v hv
theorem aSet_len (lv : aL) (i : Nat) (v : Option Value) : (aSet lv i v).length = lv.length := by
  unfold aSet
  split
  · simp
  · split
    · split <;> simp
    · simp
theorem aSet_of {lv : aL} {i j : Nat} {v : Option Value} {w : Value} (h : (aSet lv i v)[j]? = some (some w)) : (j = i ∧ v = some w) ∨ (j ≠ i ∧ lv[j]? = some (some w) ∧ ¬ (j + 1 = i ∧ w.category = 2)) := by
  unfold aSet at h
  split at h
  · rw [List.getElem?_set] at h
    split at h
    · rename_i h0
      subst h0
      split at h
      · exact Or.inl ⟨rfl, Option.some.inj h⟩
      · cases h
    · rename_i h0
      exact Or.inr ⟨fun e => h0 e.symm, h, fun e => by omega⟩
  · rename_i i' k
    have plain : ∀ k : Nat, (lv.set (k + 1) v)[j]? = some (some w) → (∀ u, lv[k]? = some (some u) → ¬ u.category = 2) → (j = k + 1 ∧ v = some w) ∨ (j ≠ k + 1 ∧ lv[j]? = some (some w) ∧ ¬ (j + 1 = k + 1 ∧ w.category = 2)) := by
      clear h
      intro k h hu
      rw [List.getElem?_set] at h
      split at h
      · rename_i h0
        split at h
        · exact Or.inl ⟨h0.symm, Option.some.inj h⟩
        · cases h
      · rename_i h0
        refine Or.inr ⟨fun e => h0 e.symm, h, fun e => ?_⟩
        have : j = k := by omega
        subst this
        exact hu w h e.2
    split at h
    · rename_i u hu
      split at h
      · rw [List.getElem?_set] at h
        split at h
        · rename_i h0
          split at h
          · exact Or.inl ⟨h0.symm, Option.some.inj h⟩
          · cases h
        · rename_i h0
          rw [List.getElem?_set] at h
          split at h
          · split at h <;> cases h
          · rename_i h1
            exact Or.inr ⟨fun e => h0 e.symm, h, fun e => h1 (by omega)⟩
      · rename_i h2
        exact plain _ h (fun u' hu' => by rw [hu] at hu'; cases hu'; exact h2)
    · rename_i h2
      exact plain _ h (fun u' hu' => absurd hu' (h2 u'))
theorem aLR.set1 {K : aK} {nL : Nat} {ls ls' : Array Slot} {lv : aL} {i : Nat} {v : Value} (h : aLR K nL ls lv) (h' : lv_has ls' nL ((i, aSh K v) :: (aAs K lv).filter (fun q => !(q.1 == i) && !(q.1 + 1 == i && q.2.category == 2)))) : aLR K nL ls' (aSet lv i (some v)) := by
  refine ⟨by rw [aSet_len]; exact h.1, h'.1, h'.2.1, fun j w hj => ?_⟩
  rcases aSet_of hj with ⟨h1, h2⟩ | ⟨h1, h2, h3⟩
  · subst h1
    cases h2
    exact h'.2.2 (j, aSh K v) List.mem_cons_self
  · refine h'.2.2 (j, aSh K w) (List.mem_cons_of_mem _ (List.mem_filter.mpr ⟨aAs_in h2, ?_⟩))
    simp only [Bool.and_eq_true, Bool.not_eq_true', beq_eq_false_iff_ne, Bool.and_eq_false_iff]
    refine ⟨h1, ?_⟩
    by_cases e : j + 1 = i
    · right
      rw [aSh_cat]
      exact fun z => h3 ⟨e, z⟩
    · left
      exact e
theorem aLR.set2 {K : aK} {nL : Nat} {ls ls' : Array Slot} {lv : aL} {i : Nat} {v : Value} (h : aLR K nL ls lv) (h' : lv_has ls' nL ((i, aSh K v) :: (aAs K lv).filter (fun q => !(q.1 == i) && (!(q.1 == i + 1) && !(q.1 + 1 == i && q.2.category == 2))))) : aLR K nL ls' (aSet2 lv i (some v)) := by
  refine ⟨by unfold aSet2; rw [aSet_len, List.length_set]; exact h.1, h'.1, h'.2.1, fun j w hj => ?_⟩
  unfold aSet2 at hj
  rcases aSet_of hj with ⟨h1, h2⟩ | ⟨h1, h2, h3⟩
  · subst h1
    cases h2
    exact h'.2.2 (j, aSh K v) List.mem_cons_self
  · rw [List.getElem?_set] at h2
    split at h2
    · split at h2 <;> cases h2
    · rename_i h4
      refine h'.2.2 (j, aSh K w) (List.mem_cons_of_mem _ (List.mem_filter.mpr ⟨aAs_in h2, ?_⟩))
      simp only [Bool.and_eq_true, Bool.not_eq_true', beq_eq_false_iff_ne, Bool.and_eq_false_iff]
      refine ⟨h1, fun e => h4 e.symm, ?_⟩
      by_cases e : j + 1 = i
      · right
        rw [aSh_cat]
        exact fun z => h3 ⟨e, z⟩
      · left
        exact e
theorem aEntry_args (K : aK) : ∀ (vs : List Value) (i : Nat) (pre : aL), pre.length = i → ∀ (j : Nat) (w : Value), (pre ++ aEntry vs)[j]? = some (some w) → i ≤ j → (j, aSh K w) ∈ lv_args i (vs.map (aSh K)) := by
  intro vs
  induction vs with
  | nil =>
    intro i pre hp j w hj hij
    simp only [aEntry, List.append_nil] at hj
    have := (List.getElem?_eq_some_iff.mp hj).1
    omega
  | cons v t ih =>
    intro i pre hp j w hj hij
    have step1 : ∀ (x : Value), aEntry (v :: t) = some x :: aEntry t → x = v → v.category = 1 → (j, aSh K w) ∈ lv_args i ((v :: t).map (aSh K)) := by
      intro x hx he hc
      rw [hx] at hj
      rw [List.map_cons, lv_args, aSh_cat, if_neg (by omega)]
      by_cases hji : j = i
      · subst hji
        rw [List.getElem?_append_right (by omega), ← hp, Nat.sub_self] at hj
        simp only [List.getElem?_cons_zero, Option.some.injEq] at hj
        rw [← hj, he]
        exact List.mem_cons_self
      · refine List.mem_cons_of_mem _ (ih (i + 1) (pre ++ [some x]) (by simp [hp]) j w ?_ (by omega))
        rw [List.append_assoc]
        exact hj
    have step2 : aEntry (v :: t) = some v :: none :: aEntry t → v.category = 2 → (j, aSh K w) ∈ lv_args i ((v :: t).map (aSh K)) := by
      intro hx hc
      rw [hx] at hj
      rw [List.map_cons, lv_args, aSh_cat, if_pos hc]
      by_cases hji : j = i
      · subst hji
        rw [List.getElem?_append_right (by omega), ← hp, Nat.sub_self] at hj
        simp only [List.getElem?_cons_zero, Option.some.injEq] at hj
        rw [← hj]
        exact List.mem_cons_self
      · by_cases hji1 : j = i + 1
        · subst hji1
          rw [List.getElem?_append_right (by omega), ← hp, show pre.length + 1 - pre.length = 1 by omega] at hj
          simp at hj
        · refine List.mem_cons_of_mem _ (ih (i + 2) (pre ++ [some v, none]) (by simp [hp]) j w ?_ (by omega))
          rw [List.append_assoc]
          exact hj
    cases v with
    | long x => exact step2 rfl rfl
    | double x => exact step2 rfl rfl
    | _ => exact step1 _ rfl rfl rfl
/-! what holds of the tables all the way -/
def aIsN : Cond → Bool
  | .fieldLinkNest .. => true
  | .methodLinkNest .. => true
  | .arrayOver (.object _) => true
  | _ => false
def aNest : List Cond := tables_1.filter aIsN
def aG : List Cond := lw_tbl.filter goodWord
def aBytes : List Int32 := aText.toList.map (fun x => Int32.ofNat x.toNat)
def aStr (K : aK) (U : State) (H : Heap) : Prop := vk_R RX8 47 aText K.2.1 U ∧ (∃ adV : Nat → Nat, vk_S 1 [160] [aBytes] (fun _ => K.2.1) adV (aBe K) U H) ∧ va_Z "java/lang/String" "COMPACT_STRINGS" "Z" (.int 1) (aBe K) U H ∧ va_Zq "jdk/internal/util/Preconditions" "SIOOBE_FORMATTER" "Ljava/util/function/BiFunction;" (aBe K) U H
def aCx (K : aK) (D : va_G) (ty : Nat → ClassId) (X : aX) (U : State) (H : Heap) : Prop := (∀ w ∈ aNest, va_Nw w U) ∧ va_K D cls (aTys ty) U ∧ va_X K.2.2 X.1 X.2 U H ∧ K.2.2 < K.1 ∧ K.1 ≤ H.size ∧ aStr K U H
theorem aNest_warm {s U : State} (hW : s.WarmedH U.vm) (h : ∀ w ∈ aNest, va_Nw w s) : ∀ w ∈ aNest, va_Nw w U := by
  intro w hw
  have h1 := h w hw
  have h2 := (List.mem_filter.mp hw).2
  unfold aIsN at h2
  split at h2
  · exact va_Nw.warmF hW h1
  · exact va_Nw.warmM hW h1
  · exact va_AO.moved hW.alike h1
  · cases h2
theorem aNest_same {u U : State} (hv : u.vm = U.vm) (h : ∀ w ∈ aNest, va_Nw w u) : ∀ w ∈ aNest, va_Nw w U := by
  intro w hw
  have h1 := h w hw
  have h2 := (List.mem_filter.mp hw).2
  unfold aIsN at h2
  split at h2
  · exact va_Nw.same rfl hv h1
  · exact va_Nw.same rfl hv h1
  · exact va_AO.moved (hv ▸ Vm.Alike.refl _) h1
  · cases h2
theorem aCx.moved {K : aK} {D : va_G} {ty : Nat → ClassId} {X : aX} {s U : State} {H0 H : Heap} (h : aCx K D ty X s H0) (hW : s.WarmedH U.vm) (hz : H0.size ≤ H.size) (hq : ∀ q : Nat, q < H0.size → ¬ aBe K q → H[q]? = H0[q]?) : aCx K D ty X U H := by
  obtain ⟨h1, h2, h3, h4, h5, ⟨h6, ⟨adV, h7⟩, h8, h9⟩⟩ := h
  have hx : H[K.2.2]? = H0[K.2.2]? := hq _ (by omega) (by unfold aBe; omega)
  exact ⟨aNest_warm hW h1, va_K.moved hW.alike h2, (h3.kept hx).moved hW.alike, h4, by omega, h6.warm hW, ⟨adV, (h7.kept hq).moved hW.alike⟩, (h8.kept hq).moved hW.alike, (h9.kept hq).moved hW.alike⟩
