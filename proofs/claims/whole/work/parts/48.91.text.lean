/-! String.charAt of the one constant -/
def jQ (v : Option Value) : Array Value → State → Outcome → State → Prop := fun _ u o t => o = .returned v ∧ t.heap = u.heap
abbrev jF : Addr → Prop := fun _ => False
def yJp : MethodName := ⟨"jdk/internal/util/Preconditions", "checkIndex", "(IILjava/util/function/BiFunction;)I"⟩
def yJc : MethodName := ⟨"java/lang/String", "checkIndex", "(II)V"⟩
def yJl : MethodName := ⟨"java/lang/StringLatin1", "charAt", "([BI)C"⟩
def yJi : MethodName := ⟨"java/lang/String", "isLatin1", "()Z"⟩
abbrev jp : ByteArray := prog_21_method_11_code
abbrev jc : ByteArray := prog_16_method_155_code
abbrev jl : ByteArray := prog_17_method_2_code
abbrev ji : ByteArray := prog_16_method_154_code
abbrev jk : ByteArray := prog_16_method_56_code
theorem jp0 : decode jp 0 = .ok (.iload_n 0, 1) := by decide +kernel
theorem jp1 : decode jp 1 = .ok (.ifCond .lt 8, 3) := by decide +kernel
theorem jp4 : decode jp 4 = .ok (.iload_n 0, 1) := by decide +kernel
theorem jp5 : decode jp 5 = .ok (.iload_n 1, 1) := by decide +kernel
theorem jp6 : decode jp 6 = .ok (.if_icmp .lt 10, 3) := by decide +kernel
theorem jp16 : decode jp 16 = .ok (.iload_n 0, 1) := by decide +kernel
theorem jp17 : decode jp 17 = .ok (.ireturn, 1) := by decide +kernel
theorem jc0 : decode jc 0 = .ok (.iload_n 0, 1) := by decide +kernel
theorem jc1 : decode jc 1 = .ok (.iload_n 1, 1) := by decide +kernel
theorem jc2 : decode jc 2 = .ok (.getstatic 1053, 3) := by decide +kernel
theorem jc5 : decode jc 5 = .ok (.invokestatic 1059, 3) := by decide +kernel
theorem jc8 : decode jc 8 = .ok (.pop, 1) := by decide +kernel
theorem jc9 : decode jc 9 = .ok (.return_, 1) := by decide +kernel
theorem jl0 : decode jl 0 = .ok (.iload_n 1, 1) := by decide +kernel
theorem jl1 : decode jl 1 = .ok (.aload_n 0, 1) := by decide +kernel
theorem jl2 : decode jl 2 = .ok (.arraylength, 1) := by decide +kernel
theorem jl3 : decode jl 3 = .ok (.invokestatic 9, 3) := by decide +kernel
theorem jl6 : decode jl 6 = .ok (.aload_n 0, 1) := by decide +kernel
theorem jl7 : decode jl 7 = .ok (.iload_n 1, 1) := by decide +kernel
theorem jl8 : decode jl 8 = .ok (.baload, 1) := by decide +kernel
theorem jl9 : decode jl 9 = .ok (.sipush 255, 3) := by decide +kernel
theorem jl12 : decode jl 12 = .ok (.iand, 1) := by decide +kernel
theorem jl13 : decode jl 13 = .ok (.i2c, 1) := by decide +kernel
theorem jl14 : decode jl 14 = .ok (.ireturn, 1) := by decide +kernel
theorem ji0 : decode ji 0 = .ok (.getstatic 38, 3) := by decide +kernel
theorem ji3 : decode ji 3 = .ok (.ifCond .eq 14, 3) := by decide +kernel
theorem ji6 : decode ji 6 = .ok (.aload_n 0, 1) := by decide +kernel
theorem ji7 : decode ji 7 = .ok (.getfield 15, 3) := by decide +kernel
theorem ji10 : decode ji 10 = .ok (.ifCond .ne 7, 3) := by decide +kernel
theorem ji13 : decode ji 13 = .ok (.iconst 1, 1) := by decide +kernel
theorem ji14 : decode ji 14 = .ok (.goto 4, 3) := by decide +kernel
theorem ji18 : decode ji 18 = .ok (.ireturn, 1) := by decide +kernel
theorem jk0 : decode jk 0 = .ok (.aload_n 0, 1) := by decide +kernel
theorem jk1 : decode jk 1 = .ok (.invokevirtual 492, 3) := by decide +kernel
theorem jk4 : decode jk 4 = .ok (.ifCond .eq 12, 3) := by decide +kernel
theorem jk7 : decode jk 7 = .ok (.aload_n 0, 1) := by decide +kernel
theorem jk8 : decode jk 8 = .ok (.getfield 9, 3) := by decide +kernel
theorem jk11 : decode jk 11 = .ok (.iload_n 1, 1) := by decide +kernel
theorem jk12 : decode jk 12 = .ok (.invokestatic 495, 3) := by decide +kernel
theorem jk15 : decode jk 15 = .ok (.ireturn, 1) := by decide +kernel
section J16
variable {p : Program} {l : Launch} {e : Env} {R : Room} {s : State} {m : MethodId} {args : Array Value} {below : List Frame} {meth : Method} {c : Code} {Q : State → Prop} {K : aK}
theorem j_goon {H : Heap} {locs : List Loc} {cells slots pc : Nat} {ls : Array Slot} {st0 rest : List Value} {a : Array Value} {v : Option Value} (hr : va_Run p l e R s m args below meth c H locs cells slots 0 0 (F0 m pc ls st0) rest (jQ v a) jF)
    (kk : W p l e R s m args below meth c H locs cells slots Q (F0 m (pc + 3) ls (v.toList ++ rest))) : W p l e R s m args below meth c H locs cells slots Q (F0 m pc ls st0) := by
  intro T hT X
  obtain ⟨v', st₀, t, T', L, h0, X', hL, e1, e2, ⟨hv, hh⟩, st⟩ := hr T hT X
  cases hv
  obtain ⟨t2, a1, b1⟩ := kk T' (by rw [e1, hh, h0]) (Stand.forget X' (fun q h => (hL q h).elim))
  exact ⟨t2, st t2 a1, b1⟩
theorem j_in {y : MethodName} {cc : ByteArray} {n : Nat} {ret : Option FieldType} (h : Cond.code y cc n ret ∈ aG) : GoodIn aG (Cond.code y cc n ret :: aG) := aG_in (fun w hw => (List.mem_cons.mp hw).elim (fun e => by rw [e]; exact h) id)
theorem jw_p : Cond.code yJp jp 3 (some .int) ∈ aG := aG_of (by decide +kernel) (by decide +kernel)
theorem jw_c : Cond.code yJc jc 2 none ∈ aG := aG_of (by decide +kernel) (by decide +kernel)
theorem jw_l : Cond.code yJl jl 2 (some .char) ∈ aG := aG_of (by decide +kernel) (by decide +kernel)
theorem jw_i : Cond.code yJi ji 1 (some .boolean) ∈ aG := aG_of (by decide +kernel) (by decide +kernel)
theorem jw_k : Cond.code yChr jk 2 (some .char) ∈ aG := aG_of (by decide +kernel) (by decide +kernel)
theorem jw_1 : Cond.initialized "jdk/internal/util/Preconditions" ∈ aG := aG_of (by decide +kernel) (by decide +kernel)
theorem jw_2 : Cond.initialized "java/lang/String" ∈ aG := aG_of (by decide +kernel) (by decide +kernel)
theorem jw_3 : Cond.initialized "java/lang/StringLatin1" ∈ aG := aG_of (by decide +kernel) (by decide +kernel)
theorem jw_4 : Cond.methodLink "java/lang/String" 1059 yJp ∈ aG := aG_of (by decide +kernel) (by decide +kernel)
theorem jw_5 : Cond.static yJp ∈ aG := aG_of (by decide +kernel) (by decide +kernel)
theorem jw_6 : Cond.methodLink "java/lang/StringLatin1" 9 yJc ∈ aG := aG_of (by decide +kernel) (by decide +kernel)
theorem jw_7 : Cond.static yJc ∈ aG := aG_of (by decide +kernel) (by decide +kernel)
theorem jw_8 : Cond.methodLink "java/lang/String" 495 yJl ∈ aG := aG_of (by decide +kernel) (by decide +kernel)
theorem jw_9 : Cond.static yJl ∈ aG := aG_of (by decide +kernel) (by decide +kernel)
theorem jw_a : Cond.methodLink "java/lang/String" 492 yJi ∈ aG := aG_of (by decide +kernel) (by decide +kernel)
theorem jw_b : Cond.instanceMethod yJi ∈ aG := aG_of (by decide +kernel) (by decide +kernel)
theorem jw_d : Cond.selects "java/lang/String" yJi yJi ∈ aG := aG_of (by decide +kernel) (by decide +kernel)
theorem jw_e : Cond.fieldLink "java/lang/String" 38 "java/lang/String" "COMPACT_STRINGS" "Z" ∈ aG := aG_of (by decide +kernel) (by decide +kernel)
theorem jw_f : Cond.fieldLink "java/lang/String" 15 "java/lang/String" "coder" "B" ∈ aG := aG_of (by decide +kernel) (by decide +kernel)
theorem jw_g : Cond.fieldLink "java/lang/String" 9 "java/lang/String" "value" "[B" ∈ aG := aG_of (by decide +kernel) (by decide +kernel)
theorem jw_h : Cond.fieldLink "java/lang/String" 1053 "jdk/internal/util/Preconditions" "SIOOBE_FORMATTER" "Ljava/util/function/BiFunction;" ∈ aG := aG_of (by decide +kernel) (by decide +kernel)
theorem jw_j : Cond.instanceMethod yChr ∈ aG := aG_of (by decide +kernel) (by decide +kernel)
theorem jw_m : Cond.selects "java/lang/String" yChr yChr ∈ aG := aG_of (by decide +kernel) (by decide +kernel)
theorem j_pre (l : Launch) (i n : Int32) (w : Value) (hw : w.category = 1) (h0 : ¬ i < 0) (h1 : i < n) : Met l yJp (Cond.code yJp jp 3 (some .int) :: aG) { frames := 0, cells := 0, slots := 0, locals := 0 } (fun a _ => a = ([.int i, .int n, w] : List Value).toArray) (jQ (some (.int i))) 0 0 jF := by
  refine Met.ofW (cc := jp) (maxL := 3) (ret := some .int) (by decide) rfl ?_
  intro p e s m args below meth c s₁ B hml hv
  subst hv
  have hx := B.exec
  have hb := B.bytes
  have hr := B.returns
  have hlocks := B.notSynchronized
  have hl := lv_entry ([.int i, .int n, w]) (n := 3) (by cases w <;> first | exact Nat.le_of_ble_eq_true rfl | (simp [Value.category] at hw; done))
  rw [lg_entry_eq]
  generalize (lg_sl ([.int i, .int n, w]) ++ List.replicate (3 - (lg_sl ([.int i, .int n, w])).length) Slot.unset).toArray = ls at hl ⊢
  have hl : lv_has ls 3 [(0, .int i), (1, .int n), (2, w)] := hl
  refine lv_iload_n hx hb jp0 rfl (lv_at hl 0 rfl) ?_
  refine lv_if_lt (tgt := 9) hx hb jp1 (by decide) (fun q => absurd q h0) (fun _ => ?_)
  refine lv_iload_n hx hb jp4 rfl (lv_at hl 0 rfl) ?_
  refine lv_iload_n hx hb jp5 rfl (lv_at hl 1 rfl) ?_
  refine lv_icmp_lt (tgt := 16) hx hb jp6 (by decide) (fun _ => ?_) (fun q => absurd h1 q)
  refine lv_iload_n hx hb jp16 rfl (lv_at hl 0 rfl) ?_
  exact W.iret hx hb hr (fun t ht hW => ⟨rfl, ht⟩) (fun q hq => by cases hq) jp17 hlocks
def jP (K : aK) (vs : List Value) (B : State → Prop) : Array Value → State → Prop := fun a U => a = vs.toArray ∧ B U
abbrev jZ (K : aK) (U : State) : Prop := va_Zq "jdk/internal/util/Preconditions" "SIOOBE_FORMATTER" "Ljava/util/function/BiFunction;" (aBe K) U U.heap
theorem j_chk (l : Launch) (K : aK) (i n : Int32) (h0 : ¬ i < 0) (h1 : i < n) : Met l yJc (Cond.code yJc jc 2 none :: aG) { frames := 1, cells := 0, slots := 0, locals := 22 } (jP K [.int i, .int n] (jZ K)) (jQ none) 0 0 jF := by
  refine Met.ofW (cc := jc) (maxL := 2) (ret := none) (by decide) rfl ?_
  intro p e s m args below meth c s₁ B hml hv
  obtain ⟨rfl, hZ⟩ := hv
  have hx := B.exec
  have hb := B.bytes
  have hr := B.returns
  have hlocks := B.notSynchronized
  have hts0 := atoms_spec (ws := Cond.code yJc jc 2 none :: aG) B.pre
  have hts : ∀ w ∈ aG, w.before ([.int i, .int n] : List Value).toArray s = true := fun w hw => hts0 w (List.mem_cons_of_mem _ hw)
  have hown : s.vm.findClass "java/lang/String" = some m.cls := findClass_of_methodNamed B.named
  have hl := lv_entry ([.int i, .int n]) (n := 2) (Nat.le_of_ble_eq_true rfl)
  rw [lg_entry_eq]
  generalize (lg_sl ([.int i, .int n]) ++ List.replicate (2 - (lg_sl ([.int i, .int n])).length) Slot.unset).toArray = ls at hl ⊢
  have hl : lv_has ls 2 [(0, .int i), (1, .int n)] := hl
  have hS : va_S (aBe K) s.heap s.heap [] := va_S.rf
  refine lv_iload_n hx hb jc0 rfl (lv_at hl 0 rfl) ?_
  refine lv_iload_n hx hb jc1 rfl (lv_at hl 1 rfl) ?_
  have go : ∀ w : Value, w.category = 1 → W p l e { frames := 1, cells := 0, slots := 0, locals := 22 } s m ([.int i, .int n] : List Value).toArray below meth c s.heap [] 0 0 (MQ below (jQ none) ([.int i, .int n] : List Value).toArray s 0 0 jF) (F0 m 5 ls [w, .int n, .int i]) := by
    intro w hw
    refine j_goon (va_runS (As := [.int i, .int n, w]) (rest := []) ⟨hx, hb, hml, hown, hts⟩ (j_pre l i n w hw h0 h1) ⟨callB_of 3 hts (j_in jw_p) rfl rfl rfl (hts _ jw_1) (hts _ jw_4) (by decide +kernel) ⟨Nat.le_of_ble_eq_true rfl, Nat.le_of_ble_eq_true rfl⟩, hts _ jw_5⟩ ⟨fun _ _ _ _ q => q, fun _ _ _ => rfl⟩ rfl rfl hl.1 rfl (lv_room (Nat.le_of_ble_eq_true rfl)) jc5 ⟨Nat.le_of_ble_eq_true rfl, Nat.le_of_ble_eq_true rfl⟩) ?_
    refine lv_pop hx hb jc8 rfl ?_
    exact W.vret hx hb hr (fun t ht hW => ⟨rfl, ht⟩) (fun q hq => by cases hq) jc9 hlocks
  rcases hZ with hZ | ⟨t, hZ⟩
  · exact va_gets hx hb hZ hS hown (hts _ jw_h) (fun x hx => hx) jc2 (go .null rfl)
  · exact va_gets hx hb hZ hS hown (hts _ jw_h) (fun x hx => hx) jc2 (go (.ref t) rfl)
theorem j_txt : ∀ k, k < 160 → ((aBytes.getD k 0 &&& (Int16.ofInt 255).toInt32).toUInt32 % 65536).toInt32 = aTxt k ∧ narrow .char (.int (aTxt k)) = .int (aTxt k) := by decide +kernel
theorem j_nI {i : Int32} (h : vp_in i 160) : ¬ i < 0 ∧ i < Int32.ofNat 160 := by
  obtain ⟨j, hj, rfl⟩ := vp_in_of h (by decide)
  exact ⟨nI_pos (by omega), nI_lt hj (by decide)⟩
abbrev jB (K : aK) (t : Nat) (U : State) : Prop := va_T .byte t 160 (fun j => .int (aBytes.getD j 0)) (aBe K) U U.heap ∧ jZ K U
theorem j_lat (l : Launch) (K : aK) (t : Nat) (i : Int32) (hin : vp_in i 160) : Met l yJl (Cond.code yJl jl 2 (some .char) :: aG) { frames := 2, cells := 0, slots := 0, locals := 43 } (jP K [.ref t, .int i] (jB K t)) (jQ (some (.int (aTxt i.toNatClampNeg)))) 0 0 jF := by
  refine Met.ofW (cc := jl) (maxL := 2) (ret := some .char) (by decide) rfl ?_
  intro p e s m args below meth c s₁ B hml hv
  obtain ⟨rfl, hT, hZ⟩ := hv
  have hx := B.exec
  have hb := B.bytes
  have hr := B.returns
  have hlocks := B.notSynchronized
  have hts0 := atoms_spec (ws := Cond.code yJl jl 2 (some .char) :: aG) B.pre
  have hts : ∀ w ∈ aG, w.before ([.ref t, .int i] : List Value).toArray s = true := fun w hw => hts0 w (List.mem_cons_of_mem _ hw)
  have hown : s.vm.findClass "java/lang/StringLatin1" = some m.cls := findClass_of_methodNamed B.named
  have hl := lv_entry ([.ref t, .int i]) (n := 2) (Nat.le_of_ble_eq_true rfl)
  rw [lg_entry_eq]
  generalize (lg_sl ([.ref t, .int i]) ++ List.replicate (2 - (lg_sl ([.ref t, .int i])).length) Slot.unset).toArray = ls at hl ⊢
  have hl : lv_has ls 2 [(0, .ref t), (1, .int i)] := hl
  obtain ⟨cell, c1, c2, c3, c4, c5, c6, c7⟩ := hT
  obtain ⟨i0, i1⟩ := j_nI hin
  have hlt : i.toNatClampNeg < 160 := Nat.not_le.mp fun q => hin (Or.inr q)
  have hS : va_S (aBe K) s.heap s.heap [] := va_S.rf
  refine lv_iload_n hx hb jl0 rfl (lv_at hl 1 rfl) ?_
  refine lv_aload_n hx hb jl1 rfl (lv_at hl 0 rfl) ?_
  refine W.alen (n := Int32.ofNat 160) hx hb c1 c2 c5 rfl rfl jl2 ?_
  refine j_goon (va_runS (As := [.int i, .int (Int32.ofNat 160)]) (rest := []) ⟨hx, hb, hml, hown, hts⟩ (j_chk l K i (Int32.ofNat 160) i0 i1) ⟨callB_of 2 hts (j_in jw_c) rfl rfl rfl (hts _ jw_2) (hts _ jw_6) (by decide +kernel) ⟨Nat.le_of_ble_eq_true rfl, Nat.le_of_ble_eq_true rfl⟩, hts _ jw_7⟩ ⟨fun a U g mk q => ⟨q.1, va_Zq.moved (u := U) (U := U.calling g mk a) (Vm.Alike.refl U.vm) q.2⟩, fun U hU hW => ⟨rfl, by unfold jZ; rw [hU]; exact va_Zq.moved hW.alike hZ⟩⟩ rfl rfl hl.1 rfl (lv_room (Nat.le_of_ble_eq_true rfl)) jl3 ⟨Nat.le_of_ble_eq_true rfl, Nat.le_of_ble_eq_true rfl⟩) ?_
  refine lv_aload_n hx hb jl6 rfl (lv_at hl 0 rfl) ?_
  refine lv_iload_n hx hb jl7 rfl (lv_at hl 1 rfl) ?_
  refine W.bald (v := .int (aBytes.getD i.toNatClampNeg 0)) hx hb c1 c2 c3 (fun q => q.elim i0 (fun z => by omega)) (c6 _ hlt) rfl rfl jl8 ?_
  refine lv_sipush hx hb jl9 rfl ?_
  refine lv_iand hx hb jl12 ?_
  refine lv_i2c hx hb jl13 (j_txt _ hlt).1 ?_
  exact W.zret hx hb hr (j_txt _ hlt).2 (fun t ht hW => ⟨rfl, ht⟩) (fun q hq => by cases hq) jl14 hlocks
abbrev jI (K : aK) (U : State) : Prop := va_Z "java/lang/String" "COMPACT_STRINGS" "Z" (.int 1) (aBe K) U U.heap ∧ va_OF "java/lang/String" "coder" "B" (.int 0) K.2.1 (aBe K) U U.heap
theorem j_isl (l : Launch) (K : aK) : Met l yJi (Cond.code yJi ji 1 (some .boolean) :: aG) { frames := 0, cells := 0, slots := 0, locals := 0 } (jP K [.ref K.2.1] (jI K)) (jQ (some (.int 1))) 0 0 jF := by
  refine Met.ofW (cc := ji) (maxL := 1) (ret := some .boolean) (by decide) rfl ?_
  intro p e s m args below meth c s₁ B hml hv
  obtain ⟨rfl, hZ, hO⟩ := hv
  have hx := B.exec
  have hb := B.bytes
  have hr := B.returns
  have hlocks := B.notSynchronized
  have hts0 := atoms_spec (ws := Cond.code yJi ji 1 (some .boolean) :: aG) B.pre
  have hts : ∀ w ∈ aG, w.before ([.ref K.2.1] : List Value).toArray s = true := fun w hw => hts0 w (List.mem_cons_of_mem _ hw)
  have hown : s.vm.findClass "java/lang/String" = some m.cls := findClass_of_methodNamed B.named
  have hl := lv_entry ([.ref K.2.1]) (n := 1) (Nat.le_of_ble_eq_true rfl)
  rw [lg_entry_eq]
  generalize (lg_sl ([.ref K.2.1]) ++ List.replicate (1 - (lg_sl ([.ref K.2.1])).length) Slot.unset).toArray = ls at hl ⊢
  have hl : lv_has ls 1 [(0, .ref K.2.1)] := hl
  have hS : va_S (aBe K) s.heap s.heap [] := va_S.rf
  refine va_gets hx hb hZ hS hown (hts _ jw_e) (fun x hx => hx) ji0 ?_
  refine lv_if_eq (tgt := 17) hx hb ji3 (by decide) (fun q => absurd q (by decide)) (fun _ => ?_)
  refine lv_aload_n hx hb ji6 rfl (lv_at hl 0 rfl) ?_
  refine vk_getf hx hb hO hS hown (hts _ jw_f) (fun x hx => hx) ji7 ?_
  refine lv_if_ne (tgt := 17) hx hb ji10 (by decide) (fun q => absurd rfl q) (fun _ => ?_)
  refine lv_iconst (v := 1) hx hb ji13 (by decide) ?_
  refine lv_goto (tgt := 18) hx hb ji14 (by decide) ?_
  exact W.zret hx hb hr rfl (fun t ht hW => ⟨rfl, ht⟩) (fun q hq => by cases hq) ji18 hlocks
abbrev jC (K : aK) (t : Nat) (U : State) : Prop := jI K U ∧ va_O "java/lang/String" K.2.1 (aBe K) U U.heap ∧ va_OF "java/lang/String" "value" "[B" (.ref t) K.2.1 (aBe K) U U.heap ∧ jB K t U
theorem jC_blind (K : aK) (t : Nat) (vs : List Value) : FrameBlind (jP K vs (jC K t)) := by
  intro a U g mk q
  obtain ⟨q1, ⟨q2, q3⟩, q4, q5, q6, q7⟩ := q
  have al : U.vm.Alike (U.calling g mk a).vm := Vm.Alike.refl U.vm
  exact ⟨q1, ⟨va_Z.moved al q2, va_OF.moved al q3⟩, va_O.moved al q4, va_OF.moved al q5, va_T.moved al q6, va_Zq.moved al q7⟩
theorem j_chr (l : Launch) (K : aK) (t : Nat) (i : Int32) (hin : vp_in i 160) : Met l yChr (Cond.code yChr jk 2 (some .char) :: aG) { frames := 3, cells := 0, slots := 0, locals := 64 } (jP K [.ref K.2.1, .int i] (jC K t)) (jQ (some (.int (aTxt i.toNatClampNeg)))) 0 0 jF := by
  refine Met.ofW (cc := jk) (maxL := 2) (ret := some .char) (by decide) rfl ?_
  intro p e s m args below meth c s₁ B hml hv
  obtain ⟨rfl, hI, hO, hV, hB⟩ := hv
  have hx := B.exec
  have hb := B.bytes
  have hr := B.returns
  have hlocks := B.notSynchronized
  have hts0 := atoms_spec (ws := Cond.code yChr jk 2 (some .char) :: aG) B.pre
  have hts : ∀ w ∈ aG, w.before ([.ref K.2.1, .int i] : List Value).toArray s = true := fun w hw => hts0 w (List.mem_cons_of_mem _ hw)
  have hown : s.vm.findClass "java/lang/String" = some m.cls := findClass_of_methodNamed B.named
  have hl := lv_entry ([.ref K.2.1, .int i]) (n := 2) (Nat.le_of_ble_eq_true rfl)
  rw [lg_entry_eq]
  generalize (lg_sl ([.ref K.2.1, .int i]) ++ List.replicate (2 - (lg_sl ([.ref K.2.1, .int i])).length) Slot.unset).toArray = ls at hl ⊢
  have hl : lv_has ls 2 [(0, .ref K.2.1), (1, .int i)] := hl
  have hS : va_S (aBe K) s.heap s.heap [] := va_S.rf
  have hlt : i.toNatClampNeg < 160 := Nat.not_le.mp fun q => hin (Or.inr q)
  refine lv_aload_n hx hb jk0 rfl (lv_at hl 0 rfl) ?_
  have hwv : GoodIn aG (wsV "java/lang/String" 492 "java/lang/String" yJi (Cond.code yJi ji 1 (some .boolean) :: aG)) := aG_in (fun w hw => by
    unfold wsV at hw
    rcases List.mem_append.mp hw with hw | hw
    · simp only [List.mem_cons, List.not_mem_nil, or_false] at hw
      rcases hw with rfl | rfl | rfl | rfl
      · exact jw_a
      · exact jw_b
      · exact jw_d
      · exact jw_2
    · exact ((j_in jw_i) w hw).1)
  have hrecv : ∃ cellB : Cell, s.heap[K.2.1]? = some cellB ∧ cellB.vm.isStatics = false ∧ s.vm.findClass "java/lang/String" = some cellB.cls := by
    obtain ⟨cell, o1, o2, o3, -⟩ := hO
    exact ⟨cell, o1, o2, o3⟩
  refine j_goon (va_runV (C := "java/lang/String") (As := []) (rest := []) ⟨hx, hb, hml, hown, hts⟩ (j_isl l K) (cwV 0 hts hwv rfl rfl rfl (by decide +kernel) ⟨Nat.le_of_ble_eq_true rfl, Nat.le_of_ble_eq_true rfl⟩) ⟨fun a U g mk q => ⟨q.1, va_Z.moved (u := U) (U := U.calling g mk a) (Vm.Alike.refl U.vm) q.2.1, va_OF.moved (u := U) (U := U.calling g mk a) (Vm.Alike.refl U.vm) q.2.2⟩, hrecv, fun U hU hW => ⟨rfl, by rw [hU]; exact va_Z.moved hW.alike hI.1, by rw [hU]; exact va_OF.moved hW.alike hI.2⟩⟩ rfl rfl hl.1 rfl (lv_room (Nat.le_of_ble_eq_true rfl)) jk1 ⟨Nat.le_of_ble_eq_true rfl, Nat.le_of_ble_eq_true rfl⟩) ?_
  refine lv_if_eq (tgt := 16) hx hb jk4 (by decide) (fun q => absurd q (by decide)) (fun _ => ?_)
  refine lv_aload_n hx hb jk7 rfl (lv_at hl 0 rfl) ?_
  refine vk_getf hx hb hV hS hown (hts _ jw_g) (fun x hx => hx) jk8 ?_
  refine lv_iload_n hx hb jk11 rfl (lv_at hl 1 rfl) ?_
  refine j_goon (va_runS (As := [.ref t, .int i]) (rest := []) ⟨hx, hb, hml, hown, hts⟩ (j_lat l K t i hin) ⟨callB_of 2 hts (j_in jw_l) rfl rfl rfl (hts _ jw_3) (hts _ jw_8) (by decide +kernel) ⟨Nat.le_of_ble_eq_true rfl, Nat.le_of_ble_eq_true rfl⟩, hts _ jw_9⟩ ⟨fun a U g mk q => ⟨q.1, va_T.moved (u := U) (U := U.calling g mk a) (Vm.Alike.refl U.vm) q.2.1, va_Zq.moved (u := U) (U := U.calling g mk a) (Vm.Alike.refl U.vm) q.2.2⟩, fun U hU hW => ⟨rfl, by rw [hU]; exact va_T.moved hW.alike hB.1, by unfold jZ; rw [hU]; exact va_Zq.moved hW.alike hB.2⟩⟩ rfl rfl hl.1 rfl (lv_room (Nat.le_of_ble_eq_true rfl)) jk12 ⟨Nat.le_of_ble_eq_true rfl, Nat.le_of_ble_eq_true rfl⟩) ?_
  exact W.zret hx hb hr (j_txt _ hlt).2 (fun t ht hW => ⟨rfl, ht⟩) (fun q hq => by cases hq) jk15 hlocks
end J16
section S16
variable {p : Program} {l : Launch} {e : Env} {R : Room} {s : State} {m : MethodId} {args : Array Value} {below : List Frame} {meth : Method} {c : Code} {Q : State → Prop} {K : aK} {D : va_G} {ty : Nat → ClassId} {X : aX} {n0 s0 : Nat} {y : aMt}
set_option maxRecDepth 100000 in
set_option maxHeartbeats 4000000 in
theorem s_chr (F : aFx p s m args meth c K D ty X y) (hfr : 4 ≤ R.frames) (hlo : 128 ≤ R.locals) : aChr p l e R s m args below meth c Q K D ty y n0 s0 := by
  intro pc i lv st h q hd hlink hs hrm kk ls H locs hl hr hS
  obtain ⟨hx, hb, hml, hown, hts, hr0, hlocks, hname, hcx⟩ := id F
  unfold a_chr at hs
  split at hs
  · rename_i z u t
    split at hs
    · rename_i hc
      obtain ⟨rfl, hin0, hstk⟩ := hc
      cases hs
      have hin := aIn_of hin0
      obtain ⟨-, -, -, -, -, -, ⟨adV, hV, -⟩, hZ, hZq⟩ := hcx
      obtain ⟨v1, v2, v3, v4⟩ := hV 0 (by decide)
      have hwv : GoodIn aG (wsV y.1.cls i "java/lang/String" yChr (Cond.code yChr jk 2 (some .char) :: aG)) := aG_in (fun w hw => by
        unfold wsV at hw
        rcases List.mem_append.mp hw with hw | hw
        · simp only [List.mem_cons, List.not_mem_nil, or_false] at hw
          rcases hw with rfl | rfl | rfl | rfl
          · exact hlink
          · exact jw_j
          · exact jw_m
          · exact jw_2
        · exact ((j_in jw_k) w hw).1)
      have hrecv : ∃ cellB : Cell, H[K.2.1]? = some cellB ∧ cellB.vm.isStatics = false ∧ s.vm.findClass "java/lang/String" = some cellB.cls := by
        obtain ⟨cell, o1, o2, o3, -⟩ := v1.kept hS.2.1
        exact ⟨cell, o1, o2, o3⟩
      exact j_goon (va_runV (C := "java/lang/String") (As := [.int z]) (rest := t.map (aSh K)) ⟨hx, hb, hml, hown, hts⟩ (j_chr l K (adV 0) z hin) (cwV 1 hts hwv rfl rfl rfl (by decide +kernel) ⟨hfr, Nat.le_trans (show 8 + (2 + 11) + 64 ≤ 128 from Nat.le_of_ble_eq_true rfl) hlo⟩) ⟨jC_blind K (adV 0) _, hrecv, fun U hU hW => ⟨rfl, ⟨by rw [hU]; exact va_Z.moved hW.alike (hZ.kept hS.2.1), by rw [hU]; exact va_OF.moved hW.alike (v2.kept hS.2.1)⟩, by rw [hU]; exact va_O.moved hW.alike (v1.kept hS.2.1), by rw [hU]; exact va_OF.moved hW.alike (v3.kept hS.2.1), by rw [hU]; exact va_T.moved hW.alike (v4.kept hS.2.1), by unfold jZ; rw [hU]; exact va_Zq.moved hW.alike (hZq.kept hS.2.1)⟩⟩ rfl rfl hl.2.1 rfl (lv_room (aStk_map hstk)) hd hrm) (kk ls H locs hl hr hS)
    · cases hs
  · cases hs
end S16
