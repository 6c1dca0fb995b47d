/-! A RUN OF THE PURE MACHINE IS A RUN OF THE MACHINE -/
theorem aRun_mo {X : aX} : ∀ (n d M pc : Nat) (lv : aL) (st : List Value) (h : aH) (v : Option Value) (hf : aH), aRun X n d M pc lv st h = some (v, hf) → aMo h hf := by
  intro n
  induction n with
  | zero => intro d M pc lv st h v hf hr; cases hr
  | succ n ih =>
    intro d M pc lv st h v hf hr
    unfold aRun at hr
    split at hr
    · cases hr
    · rename_i r hi
      split at hr
      · cases hr
      · rename_i q hs
        exact (aStep_mo hs).tr (ih _ _ _ _ _ _ _ _ hr)
      · rename_i q hs
        cases hr
        have e0 := (aStep_rm hs).1
        simp only at e0
        rw [e0]
        exact aMo.rf _
      · rename_i M' vs q hs
        split at hr
        · cases hr
        · split at hr
          · cases hr
          · split at hr
            · split at hr
              · cases hr
              · rename_i v1 h1 hr1
                have e1 := (aStep_cm hs).1
                have e2 := ih _ _ _ _ _ _ _ _ hr1
                have e3 := ih _ _ _ _ _ _ _ _ hr
                rw [e1] at e2
                exact e2.tr e3
            · cases hr
def aPc (K : aK) (D : va_G) (ty : Nat → ClassId) (X : aX) (vs : List Value) (h : aH) : Array Value → State → Prop := fun a U => a = (vs.map (aSh K)).toArray ∧ aRel K D ty h U.heap ∧ aCx K D ty X U U.heap
def aQc (K : aK) (D : va_G) (ty : Nat → ClassId) (v : Option Value) (hf : aH) : Array Value → State → Outcome → State → Prop := fun _ u oc t => oc = .returned (v.map (aSh K)) ∧ aRel K D ty hf t.heap ∧ va_F (aBe K) u t
theorem aPc_blind (K : aK) (D : va_G) (ty : Nat → ClassId) (X : aX) (vs : List Value) (h : aH) : FrameBlind (aPc K D ty X vs h) := by
  intro a U g mk hq
  obtain ⟨h1, h2, h3, h4, h5, h6, h7, ⟨h8, ⟨adV, h9⟩, h10, h11⟩⟩ := hq
  have hv : U.vm = (U.calling g mk a).vm := rfl
  exact ⟨h1, h2, aNest_same hv h3, va_K.moved (u := U) (U := U.calling g mk a) (Vm.Alike.refl U.vm) h4, va_X.moved (u := U) (U := U.calling g mk a) (Vm.Alike.refl U.vm) h5, h6, h7, vk_R.same hv.symm h8, ⟨adV, vk_S.moved (u := U) (U := U.calling g mk a) (Vm.Alike.refl U.vm) h9⟩, va_Z.moved (u := U) (U := U.calling g mk a) (Vm.Alike.refl U.vm) h10, va_Zq.moved (u := U) (U := U.calling g mk a) (Vm.Alike.refl U.vm) h11⟩
/-- how a frame ends: the answer v on the stack at a return -/
def aRt (y : aMt) (pc : Nat) (v : Option Value) : Prop := (v = none ∧ decode y.2.1 pc = .ok (.return_, 1) ∧ y.2.2.2.1 = none) ∨ (∃ x : Int32, v = some (.int x) ∧ decode y.2.1 pc = .ok (.ireturn, 1) ∧ ∃ t, y.2.2.2.1 = some t ∧ narrow t (.int x) = .int x) ∨ (∃ x : Int64, v = some (.long x) ∧ decode y.2.1 pc = .ok (.lreturn, 1) ∧ y.2.2.2.1 = some .long)
section S14
variable {p : Program} {l : Launch} {e : Env} {R : Room} {s : State} {m : MethodId} {args : Array Value} {below : List Frame} {meth : Method} {c : Code} {Q : State → Prop} {K : aK} {D : va_G} {ty : Nat → ClassId} {X : aX} {n0 s0 : Nat} {y : aMt} {pc : Nat} {lv : aL} {st : List Value} {h : aH}
theorem a_ret {i : Instr} {len a b : Nat} {v0 : Value} {v : Option Value} {hf : aH} (hd : decode y.2.1 pc = .ok (i, len)) (hok : aOKi y.2.2.2.2.2.1 (decide (y.1.name = "<init>")) y.2.2.2.1 pc (i, len, a, b, v0) = true) (hs : aStep X (i, len, a, b, v0) pc lv st h = some (.inr (.inl (v, hf)))) : st = v.toList ∧ hf = h ∧ aRt y pc v := by
  have hk := (aStep_rm hs).2
  unfold aOKi at hok
  unfold aStep at hs
  simp only at hk
  rcases hk with rfl | rfl | rfl
  · simp only [a_iret] at hs
    rw [Bool.and_eq_true] at hok
    obtain rfl : len = 1 := eq_of_beq hok.1
    split at hs
    · rename_i x
      split at hs
      · rename_i hz
        cases hs
        refine ⟨rfl, rfl, Or.inr (Or.inl ⟨x, rfl, hd, ?_⟩)⟩
        rcases (Bool.or_eq_true _ _).mp hok.2 with h1 | h1
        · rw [Bool.and_eq_true] at h1
          exact ⟨.int, of_decide_eq_true h1.2, rfl⟩
        · rw [Bool.and_eq_true] at h1
          refine ⟨.boolean, of_decide_eq_true h1.2, ?_⟩
          have ha : a = 1 := eq_of_beq h1.1
          rcases hz with hz | hz | hz
          · omega
          · subst hz; rfl
          · subst hz; rfl
      · cases hs
    · cases hs
  · simp only [a_lret] at hs
    rw [Bool.and_eq_true] at hok
    obtain rfl : len = 1 := eq_of_beq hok.1
    split at hs
    · rename_i x
      cases hs
      exact ⟨rfl, rfl, Or.inr (Or.inr ⟨x, rfl, hd, of_decide_eq_true hok.2⟩)⟩
    · cases hs
  · simp only [a_vret] at hs
    rw [Bool.and_eq_true] at hok
    obtain rfl : len = 1 := eq_of_beq hok.1
    split at hs
    · cases hs
      exact ⟨rfl, rfl, Or.inl ⟨rfl, hd, of_decide_eq_true hok.2⟩⟩
    · cases hs
end S14
def aSnd (X : aX) (n : Nat) : Prop := ∀ (d M pc : Nat) (lv : aL) (st : List Value) (h : aH) (v : Option Value) (hf : aH) (y : aMt), aMs[M]? = some y → aRun X n d M pc lv st h = some (v, hf) → ∀ (p : Program) (l : Launch) (e : Env) (R : Room) (s : State) (m : MethodId) (args : Array Value) (below : List Frame) (meth : Method) (c : Code) (Q : State → Prop) (K : aK) (D : va_G) (ty : Nat → ClassId) (n0 s0 : Nat), aFx p s m args meth c K D ty X y → n0 ≤ h.length → s0 ≤ aSl h → (hf.length - n0 ≤ R.cells ∧ aSl hf - s0 ≤ R.slots) → d + 4 ≤ R.frames → 64 * (d + 4) ≤ R.locals →
  (∀ (pc' : Nat) (ls : Array Slot) (H : Heap) (locs : List Loc), aRt y pc' v → aRel K D ty hf H → va_S (aBe K) s.heap H locs → W p l e R s m args below meth c H locs (hf.length - n0) (aSl hf - s0) Q (F0 m pc' ls (v.toList.map (aSh K)))) → aCo p l e R s m args below meth c Q K D ty y.2.2.1 n0 s0 (pc, lv, st, h)
def aRm (d : Nat) (h hf : aH) : Room := { frames := d + 4, cells := hf.length - h.length, slots := aSl hf - aSl h, locals := 64 * (d + 4) }
theorem aEntry_len (K : aK) : ∀ vs : List Value, (aEntry vs).length = (lg_sl (vs.map (aSh K))).length := by
  intro vs
  induction vs with
  | nil => rfl
  | cons v t ih =>
    cases v with
    | long x => simp only [aEntry, List.length_cons, List.map_cons, ih]; simp [aSh, lg_sl, Value.category]
    | double x => simp only [aEntry, List.length_cons, List.map_cons, ih]; simp [aSh, lg_sl, Value.category]
    | float u =>
      obtain ⟨z, hz⟩ := aSh_f K u
      simp only [aEntry, List.length_cons, List.map_cons, ih, hz]; simp [lg_sl, Value.category]
    | _ => simp only [aEntry, List.length_cons, List.map_cons, ih]; simp [aSh, lg_sl, Value.category]
theorem aEnt_LR {K : aK} {vs : List Value} {nL : Nat} {ls : Array Slot} (hn : (aEntry vs).length ≤ nL) (h : lv_has ls nL (lv_args 0 (vs.map (aSh K)))) : aLR K nL ls (aEntL vs nL) := by
  refine ⟨?_, h.1, h.2.1, fun i v hv => ?_⟩
  · unfold aEntL
    rw [List.length_append, List.length_replicate]
    omega
  · unfold aEntL at hv
    by_cases hi : i < (aEntry vs).length
    · rw [List.getElem?_append_left hi] at hv
      exact h.2.2 (i, aSh K v) (aEntry_args K vs 0 [] rfl i v (by rw [List.nil_append]; exact hv) (Nat.zero_le i))
    · rw [List.getElem?_append_right (by omega), List.getElem?_replicate] at hv
      split at hv <;> cases hv
theorem aMs_of {M : Nat} {y : aMt} (h : aMs[M]? = some y) : y ∈ aMs := List.mem_of_getElem? h
set_option maxHeartbeats 4000000 in
theorem a_met {X : aX} {n d M : Nat} {vs : List Value} {h hf : aH} {v : Option Value} {y : aMt} (ih : aSnd X n) (hM : aMs[M]? = some y) (hpl : plainName y.1.cls = true) (hen : (aEntry vs).length ≤ y.2.2.1) (hrun : aRun X n d M 0 (aEntL vs y.2.2.1) [] h = some (v, hf)) (l : Launch) (K : aK) (D : va_G) (ty : Nat → ClassId) :
    Met l y.1 (Cond.code y.1 y.2.1 y.2.2.1 y.2.2.2.1 :: aG) (aRm d h hf) (aPc K D ty X vs h) (aQc K D ty v hf) (hf.length - h.length) (aSl hf - aSl h) (aBe K) := by
  refine Met.ofW (cc := y.2.1) (maxL := y.2.2.1) (ret := y.2.2.2.1) hpl rfl ?_
  intro p e s m args below meth c s₁ B hml hv
  obtain ⟨rfl, hrel, hcx⟩ := hv
  have hts := atoms_spec (ws := Cond.code y.1 y.2.1 y.2.2.1 y.2.2.2.1 :: aG) B.pre
  have F : aFx p s m (vs.map (aSh K)).toArray meth c K D ty X y := ⟨B.exec, B.bytes, hml, findClass_of_methodNamed B.named, fun w hw => hts w (List.mem_cons_of_mem _ hw), B.returns, B.notSynchronized, fun hn => by rw [(name_of_methodNamed B.named B.method).1]; exact hn, hcx⟩
  have hl := lv_entry (vs.map (aSh K)) (n := y.2.2.1) (by rw [← aEntry_len]; exact hen)
  rw [lg_entry_eq]
  generalize (lg_sl (vs.map (aSh K)) ++ List.replicate (y.2.2.1 - (lg_sl (vs.map (aSh K))).length) Slot.unset).toArray = ls at hl ⊢
  have k1 := ih d M 0 (aEntL vs y.2.2.1) [] h v hf y hM hrun p l e (aRm d h hf) s m (vs.map (aSh K)).toArray below meth c (MQ below (aQc K D ty v hf) (vs.map (aSh K)).toArray s (hf.length - h.length) (aSl hf - aSl h) (aBe K)) K D ty h.length (aSl h) F (Nat.le_refl _) (Nat.le_refl _) ⟨Nat.le_refl _, Nat.le_refl _⟩ (Nat.le_refl _) (Nat.le_refl _) (fun pc' ls' H locs hrt hr2 hS => by
    obtain ⟨hx, hb, -, -, -, hr, hlocks, -⟩ := id F
    rcases hrt with ⟨rfl, hd, ht⟩ | ⟨x, rfl, hd, t, ht, hnr⟩ | ⟨x, rfl, hd, ht⟩
    · exact W.vret hx hb (by rw [hr, ht]) (fun t ht hW => ⟨rfl, by rw [ht]; exact hr2, hS.F ht⟩) (fun q hq => hS.2.2 q hq) hd hlocks
    · exact W.zret hx hb (by rw [hr, ht]) hnr (fun t ht hW => ⟨rfl, by rw [ht]; exact hr2, hS.F ht⟩) (fun q hq => hS.2.2 q hq) hd hlocks
    · exact W.lret hx hb (by rw [hr, ht]) (fun t ht hW => ⟨rfl, by rw [ht]; exact hr2, hS.F ht⟩) (fun q hq => hS.2.2 q hq) hd hlocks) ls s.heap [] (aEnt_LR hen hl) hrel va_S.rf
  simp only [Nat.sub_self] at k1
  exact k1
section S14b
variable {p : Program} {l : Launch} {e : Env} {R : Room} {s : State} {m : MethodId} {args : Array Value} {below : List Frame} {meth : Method} {c : Code} {Q : State → Prop} {K : aK} {D : va_G} {ty : Nat → ClassId} {X : aX} {n0 s0 : Nat} {y : aMt} {pc : Nat} {lv : aL} {st : List Value} {h : aH}
theorem a_goon {H : Heap} {locs : List Loc} {cells slots mc ms : Nat} {ls : Array Slot} {st0 rest : List Value} {a : Array Value} {v : Option Value} {hf : aH} (hr : va_Run p l e R s m args below meth c H locs cells slots mc ms (F0 m pc ls st0) rest (aQc K D ty v hf a) (aBe K)) (hS : va_S (aBe K) s.heap H locs)
    (kk : ∀ (H1 : Heap) (locs1 : List Loc), aRel K D ty hf H1 → va_S (aBe K) s.heap H1 locs1 → W p l e R s m args below meth c H1 locs1 (cells + mc) (slots + ms) Q (F0 m (pc + 3) ls ((v.map (aSh K)).toList ++ rest))) : W p l e R s m args below meth c H locs cells slots Q (F0 m pc ls st0) := by
  intro T hT X
  obtain ⟨v', st₀, t, T', L, h0, X', hL, e1, e2, ⟨hv, hb, hz, hk⟩, st⟩ := hr T hT X
  cases hv
  rw [h0] at hz hk
  obtain ⟨t2, a1, b1⟩ := kk T'.heap (locs ++ L) (by rw [e1]; exact hb)
    ⟨Nat.le_trans hS.1 (by rw [e1]; exact hz), fun q h1 h2 => by rw [e1, hk q (Nat.lt_of_lt_of_le h1 hS.1) h2]; exact hS.2.1 q h1 h2, fun q hq => by
      rcases List.mem_append.mp hq with h | h
      · exact hS.2.2 q h
      · exact hL q h⟩ T' rfl X'
  exact ⟨t2, st t2 a1, b1⟩
theorem aG_in {ws : List Cond} (h : ∀ w ∈ ws, w ∈ aG) : GoodIn aG ws := fun w hw => ⟨h w hw, good_of_word (List.mem_filter.mp (h w hw)).2⟩
theorem aMchk_of {y : aMt} (h : aMchk y = true) : plainName y.1.cls = true ∧ y.1.cls ≠ "java/lang/invoke/MethodHandle" ∧ y.1.cls ≠ "java/lang/invoke/VarHandle" ∧ y.2.2.1 ≤ 40 ∧ Cond.code y.1 y.2.1 y.2.2.1 y.2.2.2.1 ∈ aG ∧ Cond.initialized y.1.cls ∈ aG ∧ (lw_tbl[y.2.2.2.2.2.2.2.1]? = some (.static y.1) ∨ Cond.instanceMethod y.1 ∈ aG) := by
  unfold aMchk at h
  simp only [Bool.and_eq_true] at h
  obtain ⟨⟨⟨⟨⟨⟨h1, h2⟩, h3⟩, h4⟩, h5⟩, h6⟩, h7⟩ := h
  refine ⟨h1, of_decide_eq_true h2, of_decide_eq_true h3, of_decide_eq_true h4, aG_of (List.mem_of_getElem? (of_decide_eq_true h5)) rfl, aG_of (List.mem_of_getElem? (of_decide_eq_true h6)) rfl, ?_⟩
  rcases (Bool.or_eq_true _ _).mp h7 with h8 | h8
  · exact Or.inl (of_decide_eq_true h8)
  · exact Or.inr (aG_of (List.mem_of_getElem? (of_decide_eq_true h8)) rfl)
end S14b
