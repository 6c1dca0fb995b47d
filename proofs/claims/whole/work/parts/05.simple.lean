/-! STEP BY STEP: each step of the pure machine is a step of the machine (those that leave the heap as it is) -/
def aSl1 : aC → Nat
  | .inl (_, x) => x.1
  | .inr (ci, _) => clsN ci
def aSl (h : aH) : Nat := (h.map aSl1).sum
def aCo (p : Program) (l : Launch) (e : Env) (R : Room) (s : State) (m : MethodId) (args : Array Value) (below : List Frame) (meth : Method) (c : Code) (Q : State → Prop) (K : aK) (D : va_G) (ty : Nat → ClassId) (nL n0 s0 : Nat) (q : aF) : Prop :=
  ∀ (ls : Array Slot) (H : Heap) (locs : List Loc), aLR K nL ls q.2.1 → aRel K D ty q.2.2.2 H → va_S (aBe K) s.heap H locs → W p l e R s m args below meth c H locs (q.2.2.2.length - n0) (aSl q.2.2.2 - s0) Q (F0 m q.1 ls (q.2.2.1.map (aSh K)))
section S5
variable {p : Program} {l : Launch} {e : Env} {R : Room} {s : State} {m : MethodId} {args : Array Value} {below : List Frame} {meth : Method} {c : Code} {Q : State → Prop} {K : aK} {D : va_G} {ty : Nat → ClassId} {nL n0 s0 : Nat} {cc : ByteArray} {pc : Nat} {lv : aL} {st : List Value} {h : aH} {q : aF}
theorem s_push {len : Nat} {v : Value} (row : ∀ (ls : Array Slot) (H : Heap) (locs : List Loc) (a b : Nat) (rest : List Value), W p l e R s m args below meth c H locs a b Q (F0 m (pc + len) ls (aSh K v :: rest)) → W p l e R s m args below meth c H locs a b Q (F0 m pc ls rest))
    (hs : a_push pc lv st h len v = some (.inl q)) (k : aCo p l e R s m args below meth c Q K D ty nL n0 s0 q) : aCo p l e R s m args below meth c Q K D ty nL n0 s0 (pc, lv, st, h) := by
  intro ls H locs hl hr hS
  cases hs
  exact row ls H locs _ _ _ (k ls H locs hl hr hS)
theorem s_ild {len i : Nat} (row : ∀ (ls : Array Slot) (H : Heap) (locs : List Loc) (a b : Nat) (x : Int32) (rest : List Value), ls[i]? = some (.val (.int x)) → W p l e R s m args below meth c H locs a b Q (F0 m (pc + len) ls (.int x :: rest)) → W p l e R s m args below meth c H locs a b Q (F0 m pc ls rest))
    (hs : a_ild pc lv st h len i = some (.inl q)) (k : aCo p l e R s m args below meth c Q K D ty nL n0 s0 q) : aCo p l e R s m args below meth c Q K D ty nL n0 s0 (pc, lv, st, h) := by
  intro ls H locs hl hr hS
  unfold a_ild at hs
  split at hs
  · rename_i x hx
    cases hs
    exact row ls H locs _ _ x _ (hl.at hx) (k ls H locs hl hr hS)
  · cases hs
theorem s_lld {len i : Nat} (row : ∀ (ls : Array Slot) (H : Heap) (locs : List Loc) (a b : Nat) (x : Int64) (rest : List Value), ls[i]? = some (.val (.long x)) → W p l e R s m args below meth c H locs a b Q (F0 m (pc + len) ls (.long x :: rest)) → W p l e R s m args below meth c H locs a b Q (F0 m pc ls rest))
    (hs : a_lld pc lv st h len i = some (.inl q)) (k : aCo p l e R s m args below meth c Q K D ty nL n0 s0 q) : aCo p l e R s m args below meth c Q K D ty nL n0 s0 (pc, lv, st, h) := by
  intro ls H locs hl hr hS
  unfold a_lld at hs
  split at hs
  · rename_i x hx
    cases hs
    exact row ls H locs _ _ x _ (hl.at hx) (k ls H locs hl hr hS)
  · cases hs
theorem aSh_f (K : aK) (u : UInt32) : ∃ y : Nat, aSh K (.float u) = .ref y := by
  show ∃ y : Nat, (if u = 0 then Value.ref K.2.1 else Value.ref K.2.2) = .ref y
  by_cases hu : u = 0
  · exact ⟨_, if_pos hu⟩
  · exact ⟨_, if_neg hu⟩
theorem s_ald {len i : Nat} (row : ∀ (ls : Array Slot) (H : Heap) (locs : List Loc) (a b : Nat) (x : Nat) (rest : List Value), ls[i]? = some (.val (.ref x)) → W p l e R s m args below meth c H locs a b Q (F0 m (pc + len) ls (.ref x :: rest)) → W p l e R s m args below meth c H locs a b Q (F0 m pc ls rest))
    (hs : a_ald pc lv st h len i = some (.inl q)) (k : aCo p l e R s m args below meth c Q K D ty nL n0 s0 q) : aCo p l e R s m args below meth c Q K D ty nL n0 s0 (pc, lv, st, h) := by
  intro ls H locs hl hr hS
  unfold a_ald at hs
  split at hs
  · rename_i x hx
    cases hs
    exact row ls H locs _ _ (K.1 + x) _ (hl.at hx) (k ls H locs hl hr hS)
  · rename_i u hx
    cases hs
    obtain ⟨y, hy⟩ := aSh_f K u
    have h1 := hl.at hx
    have k1 := k ls H locs hl hr hS
    simp only [List.map_cons] at k1
    rw [hy] at h1 k1
    exact row ls H locs _ _ y _ h1 k1
  · cases hs
theorem s_ist {len i : Nat} (row : ∀ (ls : Array Slot) (H : Heap) (locs : List Loc) (a b : Nat) (x : Int32) (rest : List Value) (lvA : List (Nat × Value)), lv_has ls nL lvA → i < nL → (∀ ls' : Array Slot, lv_has ls' nL ((i, Value.int x) :: lvA.filter (fun q => !(q.1 == i) && !(q.1 + 1 == i && q.2.category == 2))) → W p l e R s m args below meth c H locs a b Q (F0 m (pc + len) ls' rest)) → W p l e R s m args below meth c H locs a b Q (F0 m pc ls (.int x :: rest)))
    (hs : a_ist pc lv st h len i = some (.inl q)) (k : aCo p l e R s m args below meth c Q K D ty nL n0 s0 q) : aCo p l e R s m args below meth c Q K D ty nL n0 s0 (pc, lv, st, h) := by
  intro ls H locs hl hr hS
  unfold a_ist at hs
  split at hs
  · rename_i x t
    split at hs
    · rename_i hi
      cases hs
      exact row ls H locs _ _ x _ (aAs K lv) hl.has (by rw [← hl.1]; exact hi) (fun ls' h' => k ls' H locs (hl.set1 (v := .int x) h') hr hS)
    · cases hs
  · cases hs
theorem s_ast {len i : Nat} (row : ∀ (ls : Array Slot) (H : Heap) (locs : List Loc) (a b : Nat) (x : Nat) (rest : List Value) (lvA : List (Nat × Value)), lv_has ls nL lvA → i < nL → (∀ ls' : Array Slot, lv_has ls' nL ((i, Value.ref x) :: lvA.filter (fun q => !(q.1 == i) && !(q.1 + 1 == i && q.2.category == 2))) → W p l e R s m args below meth c H locs a b Q (F0 m (pc + len) ls' rest)) → W p l e R s m args below meth c H locs a b Q (F0 m pc ls (.ref x :: rest)))
    (hs : a_ast pc lv st h len i = some (.inl q)) (k : aCo p l e R s m args below meth c Q K D ty nL n0 s0 q) : aCo p l e R s m args below meth c Q K D ty nL n0 s0 (pc, lv, st, h) := by
  intro ls H locs hl hr hS
  unfold a_ast at hs
  split at hs
  · rename_i x t
    split at hs
    · rename_i hi
      cases hs
      exact row ls H locs _ _ (K.1 + x) _ (aAs K lv) hl.has (by rw [← hl.1]; exact hi) (fun ls' h' => k ls' H locs (hl.set1 (v := .ref x) h') hr hS)
    · cases hs
  · cases hs
theorem s_lst {len i : Nat} (row : ∀ (ls : Array Slot) (H : Heap) (locs : List Loc) (a b : Nat) (x : Int64) (rest : List Value) (lvA : List (Nat × Value)), lv_has ls nL lvA → i + 1 < nL → (∀ ls' : Array Slot, lv_has ls' nL ((i, Value.long x) :: lvA.filter (fun q => !(q.1 == i) && (!(q.1 == i + 1) && !(q.1 + 1 == i && q.2.category == 2)))) → W p l e R s m args below meth c H locs a b Q (F0 m (pc + len) ls' rest)) → W p l e R s m args below meth c H locs a b Q (F0 m pc ls (.long x :: rest)))
    (hs : a_lst pc lv st h len i = some (.inl q)) (k : aCo p l e R s m args below meth c Q K D ty nL n0 s0 q) : aCo p l e R s m args below meth c Q K D ty nL n0 s0 (pc, lv, st, h) := by
  intro ls H locs hl hr hS
  unfold a_lst at hs
  split at hs
  · rename_i x t
    split at hs
    · rename_i hi
      cases hs
      exact row ls H locs _ _ x _ (aAs K lv) hl.has (by rw [← hl.1]; exact hi) (fun ls' h' => k ls' H locs (hl.set2 (v := .long x) h') hr hS)
    · cases hs
  · cases hs
theorem s_iinc {len i : Nat} {n : Int} (row : ∀ (ls : Array Slot) (H : Heap) (locs : List Loc) (a b : Nat) (x : Int32) (rest : List Value) (lvA : List (Nat × Value)) (kk : Nat), lv_has ls nL lvA → lvA[kk]? = some (i, .int x) → i < nL → (∀ ls' : Array Slot, lv_has ls' nL ((i, Value.int (x + Int32.ofInt n)) :: lvA.filter (fun q => !(q.1 == i) && !(q.1 + 1 == i && q.2.category == 2))) → W p l e R s m args below meth c H locs a b Q (F0 m (pc + len) ls' rest)) → W p l e R s m args below meth c H locs a b Q (F0 m pc ls rest))
    (hs : a_iinc pc lv st h len i n = some (.inl q)) (k : aCo p l e R s m args below meth c Q K D ty nL n0 s0 q) : aCo p l e R s m args below meth c Q K D ty nL n0 s0 (pc, lv, st, h) := by
  intro ls H locs hl hr hS
  unfold a_iinc at hs
  split at hs
  · rename_i x hx
    cases hs
    obtain ⟨kk, hkk⟩ := List.getElem?_of_mem (aAs_in (K := K) hx)
    exact row ls H locs _ _ x _ (aAs K lv) kk hl.has hkk (by rw [← hl.1]; exact (List.getElem?_eq_some_iff.mp hx).1) (fun ls' h' => k ls' H locs (hl.set1 (v := .int (x + Int32.ofInt n)) h') hr hS)
  · cases hs
theorem s_ii {f : Int32 → Int32 → Int32} (row : ∀ (ls : Array Slot) (H : Heap) (locs : List Loc) (a b : Nat) (x y : Int32) (rest : List Value), W p l e R s m args below meth c H locs a b Q (F0 m (pc + 1) ls (.int (f x y) :: rest)) → W p l e R s m args below meth c H locs a b Q (F0 m pc ls (.int y :: .int x :: rest)))
    (hs : a_ii pc lv st h f = some (.inl q)) (k : aCo p l e R s m args below meth c Q K D ty nL n0 s0 q) : aCo p l e R s m args below meth c Q K D ty nL n0 s0 (pc, lv, st, h) := by
  intro ls H locs hl hr hS
  unfold a_ii at hs
  split at hs
  · cases hs
    exact row ls H locs _ _ _ _ _ (k ls H locs hl hr hS)
  · cases hs
theorem s_ii0 {f : Int32 → Int32 → Int32} (row : ∀ (ls : Array Slot) (H : Heap) (locs : List Loc) (a b : Nat) (x y : Int32) (rest : List Value), ¬ y = 0 → W p l e R s m args below meth c H locs a b Q (F0 m (pc + 1) ls (.int (f x y) :: rest)) → W p l e R s m args below meth c H locs a b Q (F0 m pc ls (.int y :: .int x :: rest)))
    (hs : a_ii0 pc lv st h f = some (.inl q)) (k : aCo p l e R s m args below meth c Q K D ty nL n0 s0 q) : aCo p l e R s m args below meth c Q K D ty nL n0 s0 (pc, lv, st, h) := by
  intro ls H locs hl hr hS
  unfold a_ii0 at hs
  split at hs
  · split at hs
    · cases hs
    · rename_i h0
      cases hs
      exact row ls H locs _ _ _ _ _ h0 (k ls H locs hl hr hS)
  · cases hs
theorem s_i {f : Int32 → Int32} (row : ∀ (ls : Array Slot) (H : Heap) (locs : List Loc) (a b : Nat) (x : Int32) (rest : List Value), W p l e R s m args below meth c H locs a b Q (F0 m (pc + 1) ls (.int (f x) :: rest)) → W p l e R s m args below meth c H locs a b Q (F0 m pc ls (.int x :: rest)))
    (hs : a_i pc lv st h f = some (.inl q)) (k : aCo p l e R s m args below meth c Q K D ty nL n0 s0 q) : aCo p l e R s m args below meth c Q K D ty nL n0 s0 (pc, lv, st, h) := by
  intro ls H locs hl hr hS
  unfold a_i at hs
  split at hs
  · cases hs
    exact row ls H locs _ _ _ _ (k ls H locs hl hr hS)
  · cases hs
theorem s_ll {f : Int64 → Int64 → Int64} (row : ∀ (ls : Array Slot) (H : Heap) (locs : List Loc) (a b : Nat) (x y : Int64) (rest : List Value), W p l e R s m args below meth c H locs a b Q (F0 m (pc + 1) ls (.long (f x y) :: rest)) → W p l e R s m args below meth c H locs a b Q (F0 m pc ls (.long y :: .long x :: rest)))
    (hs : a_ll pc lv st h f = some (.inl q)) (k : aCo p l e R s m args below meth c Q K D ty nL n0 s0 q) : aCo p l e R s m args below meth c Q K D ty nL n0 s0 (pc, lv, st, h) := by
  intro ls H locs hl hr hS
  unfold a_ll at hs
  split at hs
  · cases hs
    exact row ls H locs _ _ _ _ _ (k ls H locs hl hr hS)
  · cases hs
theorem s_ll0 {f : Int64 → Int64 → Int64} (row : ∀ (ls : Array Slot) (H : Heap) (locs : List Loc) (a b : Nat) (x y : Int64) (rest : List Value), ¬ y = 0 → W p l e R s m args below meth c H locs a b Q (F0 m (pc + 1) ls (.long (f x y) :: rest)) → W p l e R s m args below meth c H locs a b Q (F0 m pc ls (.long y :: .long x :: rest)))
    (hs : a_ll0 pc lv st h f = some (.inl q)) (k : aCo p l e R s m args below meth c Q K D ty nL n0 s0 q) : aCo p l e R s m args below meth c Q K D ty nL n0 s0 (pc, lv, st, h) := by
  intro ls H locs hl hr hS
  unfold a_ll0 at hs
  split at hs
  · split at hs
    · cases hs
    · rename_i h0
      cases hs
      exact row ls H locs _ _ _ _ _ h0 (k ls H locs hl hr hS)
  · cases hs
theorem s_lshl (hx : p.tables.exec = Jvm.exec) (hb : c.code = cc) (hd : decode cc pc = .ok (.lshl, 1)) (hs : a_lshl pc lv st h = some (.inl q)) (k : aCo p l e R s m args below meth c Q K D ty nL n0 s0 q) : aCo p l e R s m args below meth c Q K D ty nL n0 s0 (pc, lv, st, h) := by
  intro ls H locs hl hr hS
  unfold a_lshl at hs
  split at hs
  · cases hs
    exact lv_lshl hx hb hd rfl (k ls H locs hl hr hS)
  · cases hs
theorem s_lcmp (hx : p.tables.exec = Jvm.exec) (hb : c.code = cc) (hd : decode cc pc = .ok (.lcmp, 1)) (hs : a_lcmp pc lv st h = some (.inl q)) (k : aCo p l e R s m args below meth c Q K D ty nL n0 s0 q) : aCo p l e R s m args below meth c Q K D ty nL n0 s0 (pc, lv, st, h) := by
  intro ls H locs hl hr hS
  unfold a_lcmp at hs
  split at hs
  · cases hs
    exact W.lcmp hx hb hd (k ls H locs hl hr hS)
  · cases hs
theorem s_i2l (hx : p.tables.exec = Jvm.exec) (hb : c.code = cc) (hd : decode cc pc = .ok (.i2l, 1)) (hs : a_i2l pc lv st h = some (.inl q)) (k : aCo p l e R s m args below meth c Q K D ty nL n0 s0 q) : aCo p l e R s m args below meth c Q K D ty nL n0 s0 (pc, lv, st, h) := by
  intro ls H locs hl hr hS
  unfold a_i2l at hs
  split at hs
  · cases hs
    exact lv_i2l hx hb hd rfl (k ls H locs hl hr hS)
  · cases hs
theorem s_l2i (hx : p.tables.exec = Jvm.exec) (hb : c.code = cc) (hd : decode cc pc = .ok (.l2i, 1)) (hs : a_l2i pc lv st h = some (.inl q)) (k : aCo p l e R s m args below meth c Q K D ty nL n0 s0 q) : aCo p l e R s m args below meth c Q K D ty nL n0 s0 (pc, lv, st, h) := by
  intro ls H locs hl hr hS
  unfold a_l2i at hs
  split at hs
  · cases hs
    exact lv_l2i hx hb hd rfl (k ls H locs hl hr hS)
  · cases hs
theorem s_dup (hx : p.tables.exec = Jvm.exec) (hb : c.code = cc) (hd : decode cc pc = .ok (.dup, 1)) (hs : a_dup pc lv st h = some (.inl q)) (k : aCo p l e R s m args below meth c Q K D ty nL n0 s0 q) : aCo p l e R s m args below meth c Q K D ty nL n0 s0 (pc, lv, st, h) := by
  intro ls H locs hl hr hS
  unfold a_dup at hs
  split at hs
  · cases hs
    exact lv_dup hx hb hd rfl (k ls H locs hl hr hS)
  · cases hs
    exact lv_dup hx hb hd rfl (k ls H locs hl hr hS)
  · cases hs
theorem s_dup2 (hx : p.tables.exec = Jvm.exec) (hb : c.code = cc) (hd : decode cc pc = .ok (.dup2, 1)) (hs : a_dup2 pc lv st h = some (.inl q)) (k : aCo p l e R s m args below meth c Q K D ty nL n0 s0 q) : aCo p l e R s m args below meth c Q K D ty nL n0 s0 (pc, lv, st, h) := by
  intro ls H locs hl hr hS
  unfold a_dup2 at hs
  split at hs
  · cases hs
    exact lv_dup2_11 hx hb hd rfl rfl (k ls H locs hl hr hS)
  · cases hs
theorem s_pop (hx : p.tables.exec = Jvm.exec) (hb : c.code = cc) (hd : decode cc pc = .ok (.pop, 1)) (hs : a_pop pc lv st h = some (.inl q)) (k : aCo p l e R s m args below meth c Q K D ty nL n0 s0 q) : aCo p l e R s m args below meth c Q K D ty nL n0 s0 (pc, lv, st, h) := by
  intro ls H locs hl hr hS
  unfold a_pop at hs
  split at hs
  · cases hs
    exact lv_pop hx hb hd rfl (k ls H locs hl hr hS)
  · cases hs
theorem s_if {off : Int} {f : Int32 → Bool} (row : ∀ (ls : Array Slot) (H : Heap) (locs : List Loc) (a b : Nat) (x : Int32) (rest : List Value), (f x = true → W p l e R s m args below meth c H locs a b Q (F0 m ((pc : Int) + off).toNat ls rest)) → (¬ f x = true → W p l e R s m args below meth c H locs a b Q (F0 m (pc + 3) ls rest)) → W p l e R s m args below meth c H locs a b Q (F0 m pc ls (.int x :: rest)))
    (hs : a_if pc lv st h off f = some (.inl q)) (k : aCo p l e R s m args below meth c Q K D ty nL n0 s0 q) : aCo p l e R s m args below meth c Q K D ty nL n0 s0 (pc, lv, st, h) := by
  intro ls H locs hl hr hS
  unfold a_if at hs
  split at hs
  · cases hs
    have k1 := k ls H locs hl hr hS
    refine row ls H locs _ _ _ _ (fun hf => ?_) (fun hf => ?_)
    · rw [if_pos hf] at k1
      exact k1
    · rw [if_neg hf] at k1
      exact k1
  · cases hs
theorem s_cmp {off : Int} {f : Int32 → Int32 → Bool} (row : ∀ (ls : Array Slot) (H : Heap) (locs : List Loc) (a b : Nat) (x y : Int32) (rest : List Value), (f x y = true → W p l e R s m args below meth c H locs a b Q (F0 m ((pc : Int) + off).toNat ls rest)) → (¬ f x y = true → W p l e R s m args below meth c H locs a b Q (F0 m (pc + 3) ls rest)) → W p l e R s m args below meth c H locs a b Q (F0 m pc ls (.int y :: .int x :: rest)))
    (hs : a_cmp pc lv st h off f = some (.inl q)) (k : aCo p l e R s m args below meth c Q K D ty nL n0 s0 q) : aCo p l e R s m args below meth c Q K D ty nL n0 s0 (pc, lv, st, h) := by
  intro ls H locs hl hr hS
  unfold a_cmp at hs
  split at hs
  · cases hs
    have k1 := k ls H locs hl hr hS
    refine row ls H locs _ _ _ _ _ (fun hf => ?_) (fun hf => ?_)
    · rw [if_pos hf] at k1
      exact k1
    · rw [if_neg hf] at k1
      exact k1
  · cases hs
theorem s_goto {off : Int} (hx : p.tables.exec = Jvm.exec) (hb : c.code = cc) (hd : decode cc pc = .ok (.goto off, 3)) (h0 : 0 ≤ (pc : Int) + off) (hs : a_goto pc lv st h off = some (.inl q)) (k : aCo p l e R s m args below meth c Q K D ty nL n0 s0 q) : aCo p l e R s m args below meth c Q K D ty nL n0 s0 (pc, lv, st, h) := by
  intro ls H locs hl hr hS
  cases hs
  exact lv_goto hx hb hd (by omega) (k ls H locs hl hr hS)
theorem s_tsw {dflt lo hi : Int} {offs : Array Int} {len : Nat} (hx : p.tables.exec = Jvm.exec) (hb : c.code = cc) (hd : decode cc pc = .ok (.tableswitch dflt lo hi offs, len)) (h0 : 0 ≤ (pc : Int) + dflt) (h1 : ∀ (j : Nat) (off : Int), offs[j]? = some off → 0 ≤ (pc : Int) + off) (hs : a_tsw pc lv st h dflt lo hi offs = some (.inl q)) (k : aCo p l e R s m args below meth c Q K D ty nL n0 s0 q) : aCo p l e R s m args below meth c Q K D ty nL n0 s0 (pc, lv, st, h) := by
  intro ls H locs hl hr hS
  unfold a_tsw at hs
  split at hs
  · split at hs
    · rename_i hc
      cases hs
      exact lv_tableOut hx hb hd hc (by omega) (k ls H locs hl hr hS)
    · rename_i hc
      split at hs
      · rename_i off ho
        cases hs
        have h2 := h1 _ _ ho
        exact lv_tableIn hx hb hd (fun z => hc (Or.inl z)) (fun z => hc (Or.inr z)) ho (by omega) (k ls H locs hl hr hS)
      · cases hs
  · cases hs
theorem s_lsw {dflt : Int} {ps : Array (Int × Int)} {len : Nat} (hx : p.tables.exec = Jvm.exec) (hb : c.code = cc) (hd : decode cc pc = .ok (.lookupswitch dflt ps, len)) (hp : (ps.toList.zip (ps.toList.drop 1)).all (fun (a, next) => a.1 < next.1) = true) (h1 : ∀ x : Int, 0 ≤ (pc : Int) + Op.lookupswitch.offset ps.toList dflt x) (hs : a_lsw pc lv st h dflt ps = some (.inl q)) (k : aCo p l e R s m args below meth c Q K D ty nL n0 s0 q) : aCo p l e R s m args below meth c Q K D ty nL n0 s0 (pc, lv, st, h) := by
  intro ls H locs hl hr hS
  unfold a_lsw at hs
  split at hs
  · rename_i x t
    cases hs
    have h2 := h1 x.toInt
    exact lv_lookup hx hb hd hp rfl (by omega) (k ls H locs hl hr hS)
  · cases hs
end S5
