/-! THE CLAIM OUT OF ONE WALK OF THE LAW'S BODY. Your part is whole_start (and what it stands on); all else here is the same for every law, but numbers. -/
def R_law : String := "FortyBasketLaw"
def lw_P (b : Addr) (xs : List Int32) (args : Array Value) (s : State) : Prop := args = #[.ref b] ∧ s.IntsAt b xs ∧ xs.length ≤ 3072 ∧ (Jvm.Cond.and given_1 narrow_1).before args s = true
def lw_Q (_ : Array Value) (s : State) (o : Outcome) (t : State) : Prop := o = .returned (some (.int 1)) ∧ Framed s o t [] 600000 7302250
def lw_Z (below : List Frame) (a : Array Value) (s : State) : State → Prop := fun t => ∃ o, t.status = .running ∧ Ended t below o ∧ lw_Q a s o t
/-- the law's own end, with 1 on the stack, nothing written that was there before, its room as the claim has it -/
theorem lw_ret {p : Program} {l : Launch} {e : Env} {s : State} {m : MethodId} {below : List Frame} {meth : Method} {c : Code} {b : Nat} (hx : p.tables.exec = Jvm.exec) (hb : c.code = code) (hr : meth.sig.returnType = ret) (hlocks : meth.locks = false) {pc : Nat} {H : Heap} {ls : Array Slot} (hdg : decode code pc = .ok (.ireturn, 1)) : W p l e room_1 s m #[Value.ref b] below meth c H [] 600000 7302250 (lw_Z below #[Value.ref b] s) (F0 m pc ls [.int 1]) := by
  intro T hT X
  obtain ⟨fs, hret, hrun, hended, hW, hframe⟩ := X.leave (v := some (.int 1)) (hlocks := hlocks) (fun h => by rw [hr] at h; cases h)
  have hmeth' : T.vm.method? m = some meth := X.method'
  refine ⟨T.setFrames fs, ?_, .returned (some (.int 1)), hrun, hended, rfl, ⟨_, rfl⟩, hW, hframe⟩
  jvm_step X.here [X.here.top, hx, hb, hdg, hmeth', hr, ret, narrow_b1]
  (try refine ⟨rfl, ?_⟩); (try refine ⟨rfl, ?_⟩)
  first | (intro acts; rw [hret _ acts rfl rfl rfl]) | rw [hret _ _ rfl rfl rfl]
  exact Steps.refl _
/-- what holds at the law's entry: the machine, the code, the tables' words (any of lw_tbl by 'hts w (by decide +kernel)'), the script of L ints xs at the cell b, what the Statement gives of the start (any of its parts by flat_of_before) -/
def lw_At (p : Program) (s : State) (m : MethodId) (meth : Method) (c : Code) (b L : Nat) (xs : Nat → Int32) : Prop :=
  p.tables.exec = Jvm.exec ∧ c.code = code ∧ meth.sig.returnType = ret ∧ c.maxLocals = 4 ∧ s.vm.findClass R_law = some m.cls ∧ (∀ w ∈ lw_tbl, w.before #[Value.ref b] s = true) ∧ va_X b L xs s s.heap ∧ b < s.heap.size ∧ meth.locks = false ∧ (Jvm.Cond.and given_1 narrow_1).before #[Value.ref b] s = true
/-- what is left: for every script the pure machine runs the law to its end, with 1, in the room -/
def aWins (L : Nat) (xs : Nat → Int32) : Prop := ∃ (n d : Nat) (h : aH), aRun (L, xs) n d 274 0 (aEntL [.float 1] 4) [] [] = some (some (.int 1), h) ∧ h.length ≤ 600000 ∧ aSl h ≤ 7302250 ∧ d ≤ 1000
def flE (j : Nat) : Cond := Cond.eq (.elem (.field (.string "FortyBasket$Text" 47) "java/lang/String" "value" "[B") (.int (Int32.ofNat j))) (.int (aBytes.getD j 0))
set_option maxRecDepth 100000 in
theorem fl_0 : ((flatC (Jvm.Cond.and given_1 narrow_1)).drop 52).take 160 = (List.range 160).map flE := by decide +kernel
theorem fl_1 (j : Nat) (hj : j < 160) : flE j ∈ flatC (Jvm.Cond.and given_1 narrow_1) := by
  have h : flE j ∈ (List.range 160).map flE := List.mem_map.mpr ⟨j, List.mem_range.mpr hj, rfl⟩
  rw [← fl_0] at h
  exact List.mem_of_mem_drop (List.mem_of_mem_take h)
set_option maxHeartbeats 4000000 in
set_option maxRecDepth 100000 in
theorem a_str {s : State} {b : Nat} (hts : ∀ w ∈ lw_tbl, w.before #[Value.ref b] s = true) (hgv : (Jvm.Cond.and given_1 narrow_1).before #[Value.ref b] s = true) : ∃ sA : Nat, aStr (s.heap.size, sA, b) s s.heap := by
  have hs := flat_of_before _ hgv
  have hA : ∀ a : Nat, a < s.heap.size → ¬ aBe (s.heap.size, 0, b) a := fun a ha hq => Nat.lt_irrefl _ (Nat.lt_of_lt_of_le ha hq)
  obtain ⟨adK, adV, h1, h2⟩ := vk_Sof (args := #[Value.ref b]) (s := s) (N := 1) (tm := fun _ => .string "FortyBasket$Text" 47) (len := [160]) (byt := [aBytes]) (A := aBe (s.heap.size, 0, b))
    (fun i hi => by rw [show i = 0 by omega]; decide) (fun i hi => hs _ (by decide +kernel)) (fun i hi => hs _ (by decide +kernel)) (fun i hi => hs _ (by decide +kernel))
    (fun i hi => by rw [show i = 0 by omega]; exact hs _ (by decide +kernel)) (fun i hi j hj => by
      have hi0 : i = 0 := by omega
      subst hi0
      exact hs _ (fl_1 j hj)) (fun i j hi hj hne => absurd (show i = j by omega) hne) hA
  refine ⟨adK 0, ?_, ⟨adV, ⟨fun i hi => ?_, fun i j hi hj _ => by omega⟩⟩, ?_, ?_⟩
  · exact vk_R.of (hts _ (by decide +kernel)) (h2 0 (by decide))
  · have hi0 : i = 0 := by omega
    subst hi0
    exact h1.1 0 hi
  · exact va_Zof (hts _ (by decide +kernel)) (hts _ (by decide +kernel)) (va_eqt (hs (Cond.eq (.static "java/lang/String" "COMPACT_STRINGS" "Z") (.int 1)) (by decide +kernel))) hA
  · exact va_Zqof (hts _ (by decide +kernel)) (hts _ (by decide +kernel)) (hs _ (by decide +kernel)) hA
set_option maxHeartbeats 4000000 in
set_option maxRecDepth 100000 in
theorem a_tab {s : State} {b : Nat} (hts : ∀ w ∈ lw_tbl, w.before #[Value.ref b] s = true) : ∃ (D : va_G) (ty : Nat → ClassId), va_K D cls (aTys ty) s := by
  obtain ⟨k0, i0, n0⟩ := u_known (C := RX0) (T := TX0) (N := 4) (n := 4) hts (fun w hw => (List.mem_filter.mp (c_ok0.1 w hw)).1) (hts _ (List.mem_filter.mp c_ok0.2.2.2.2.2.1).1)
  obtain ⟨k1, i1, n1⟩ := u_known (C := RX1) (T := TX1) (N := 3) (n := 3) hts (fun w hw => (List.mem_filter.mp (c_ok1.1 w hw)).1) (hts _ (List.mem_filter.mp c_ok1.2.2.2.2.2.1).1)
  obtain ⟨k2, i2, n2⟩ := u_known (C := RX2) (T := TX2) (N := 20) (n := 20) hts (fun w hw => (List.mem_filter.mp (c_ok2.1 w hw)).1) (hts _ (List.mem_filter.mp c_ok2.2.2.2.2.2.1).1)
  obtain ⟨k3, i3, n3⟩ := u_known (C := RX3) (T := TX3) (N := 7) (n := 7) hts (fun w hw => (List.mem_filter.mp (c_ok3.1 w hw)).1) (hts _ (List.mem_filter.mp c_ok3.2.2.2.2.2.1).1)
  obtain ⟨k4, i4, n4⟩ := u_known (C := RX4) (T := TX4) (N := 3) (n := 3) hts (fun w hw => (List.mem_filter.mp (c_ok4.1 w hw)).1) (hts _ (List.mem_filter.mp c_ok4.2.2.2.2.2.1).1)
  obtain ⟨k5, i5, n5⟩ := u_known (C := RX5) (T := TX5) (N := 20) (n := 20) hts (fun w hw => (List.mem_filter.mp (c_ok5.1 w hw)).1) (hts _ (List.mem_filter.mp c_ok5.2.2.2.2.2.1).1)
  obtain ⟨k6, i6, n6⟩ := u_known (C := RX6) (T := TX6) (N := 3) (n := 3) hts (fun w hw => (List.mem_filter.mp (c_ok6.1 w hw)).1) (hts _ (List.mem_filter.mp c_ok6.2.2.2.2.2.1).1)
  obtain ⟨k7, i7, n7⟩ := u_known (C := RX7) (T := TX7) (N := 14) (n := 14) hts (fun w hw => (List.mem_filter.mp (c_ok7.1 w hw)).1) (hts _ (List.mem_filter.mp c_ok7.2.2.2.2.2.1).1)
  obtain ⟨k8, i8, n8⟩ := u_known (C := RX8) (T := TX8) (N := 7) (n := 7) hts (fun w hw => (List.mem_filter.mp (c_ok8.1 w hw)).1) (hts _ (List.mem_filter.mp c_ok8.2.2.2.2.2.1).1)
  obtain ⟨k9, i9, n9⟩ := u_known (C := RX9) (T := TX9) (N := 5) (n := 5) hts (fun w hw => (List.mem_filter.mp (c_ok9.1 w hw)).1) (hts _ (List.mem_filter.mp c_ok9.2.2.2.2.2.1).1)
  obtain ⟨k10, i10, n10⟩ := u_known (C := RX10) (T := TX10) (N := 9) (n := 9) hts (fun w hw => (List.mem_filter.mp (c_ok10.1 w hw)).1) (hts _ (List.mem_filter.mp c_ok10.2.2.2.2.2.1).1)
  obtain ⟨k11, i11, n11⟩ := u_known (C := RX11) (T := TX11) (N := 9) (n := 9) hts (fun w hw => (List.mem_filter.mp (c_ok11.1 w hw)).1) (hts _ (List.mem_filter.mp c_ok11.2.2.2.2.2.1).1)
  obtain ⟨k12, i12, n12⟩ := u_known (C := RX12) (T := TX12) (N := 47) (n := 47) hts (fun w hw => (List.mem_filter.mp (c_ok12.1 w hw)).1) (hts _ (List.mem_filter.mp c_ok12.2.2.2.2.2.1).1)
  obtain ⟨a0, x0, y0, f0, g0, z0⟩ := Cond.arrayClass_spec (hts (.arrayClass .int) (by decide +kernel))
  obtain ⟨a1, x1, y1, f1, g1, z1⟩ := Cond.arrayClass_spec (hts (.arrayClass .byte) (by decide +kernel))
  obtain ⟨a2, x2, y2, f2, g2, z2⟩ := Cond.arrayClass_spec (hts (.arrayClass .boolean) (by decide +kernel))
  obtain ⟨a3, x3, y3, f3, g3, z3⟩ := Cond.arrayClass_spec (hts (.arrayClass .long) (by decide +kernel))
  obtain ⟨p4, a4, x4, e4, -, g4, z4, f4⟩ := Cond.arrayOver_spec (hts (.arrayOver (.object RX7)) (by decide +kernel))
  obtain ⟨p5, a5, x5, e5, -, g5, z5, f5⟩ := Cond.arrayOver_spec (hts (.arrayOver (.object RX10)) (by decide +kernel))
  obtain ⟨p6, a6, x6, e6, -, g6, z6, f6⟩ := Cond.arrayOver_spec (hts (.arrayOver (.object RX3)) (by decide +kernel))
  refine ⟨(fun k => match k with
    | 0 => k0
    | 1 => k1
    | 2 => k2
    | 3 => k3
    | 4 => k4
    | 5 => k5
    | 6 => k6
    | 7 => k7
    | 8 => k8
    | 9 => k9
    | 10 => k10
    | 11 => k11
    | _ => k12, fun k => match k with
    | 0 => i0
    | 1 => i1
    | 2 => i2
    | 3 => i3
    | 4 => i4
    | 5 => i5
    | 6 => i6
    | 7 => i7
    | 8 => i8
    | 9 => i9
    | 10 => i10
    | 11 => i11
    | _ => i12), fun k => match k with
    | 0 => a0
    | 1 => a1
    | 2 => a2
    | 3 => a3
    | 4 => a4
    | 5 => a5
    | _ => a6, ?_, ?_⟩
  · intro k q hq
    match k, hq with
    | 0, hq => cases hq; exact n0
    | 1, hq => cases hq; exact n1
    | 2, hq => cases hq; exact n2
    | 3, hq => cases hq; exact n3
    | 4, hq => cases hq; exact n4
    | 5, hq => cases hq; exact n5
    | 6, hq => cases hq; exact n6
    | 7, hq => cases hq; exact n7
    | 8, hq => cases hq; exact n8
    | 9, hq => cases hq; exact n9
    | 10, hq => cases hq; exact n10
    | 11, hq => cases hq; exact n11
    | 12, hq => cases hq; exact n12
    | n + 13, hq => simp [cls] at hq
  · intro k q hq
    match k, hq with
    | 0, hq => cases hq; exact ⟨fun n z => ⟨fun k h => (by cases h), x0, g0, y0, z0⟩, f0⟩
    | 1, hq => cases hq; exact ⟨fun n z => ⟨fun k h => (by cases h), x1, g1, y1, z1⟩, f1⟩
    | 2, hq => cases hq; exact ⟨fun n z => ⟨fun k h => (by cases h), x2, g2, y2, z2⟩, f2⟩
    | 3, hq => cases hq; exact ⟨fun n z => ⟨fun k h => (by cases h), x3, g3, y3, z3⟩, f3⟩
    | 4, hq => cases hq; exact ⟨fun n z => ⟨fun k h => (by cases h), x4, g4, p4, z4⟩, x4, p4, g4, z4, e4, f4⟩
    | 5, hq => cases hq; exact ⟨fun n z => ⟨fun k h => (by cases h), x5, g5, p5, z5⟩, x5, p5, g5, z5, e5, f5⟩
    | 6, hq => cases hq; exact ⟨fun n z => ⟨fun k h => (by cases h), x6, g6, p6, z6⟩, x6, p6, g6, z6, e6, f6⟩
    | n + 7, hq => simp [aTys] at hq
theorem aNest_of {s : State} {A : Array Value} (h : ∀ w ∈ lw_tbl, w.before A s = true) : ∀ w ∈ aNest, va_Nw w s := by
  intro w hw
  have h1 := h w (List.mem_append_right _ (List.mem_filter.mp hw).1)
  have h2 := (List.mem_filter.mp hw).2
  unfold aIsN at h2
  split at h2
  · exact va_Nw.of rfl h1
  · exact va_Nw.of rfl h1
  · exact va_AO.of h1
  · cases h2
set_option maxRecDepth 100000 in
theorem a_5 {d : Nat} (h : d ≤ 1000) : 64 * (d + 4) ≤ room_1.locals := by
  show 64 * (d + 4) ≤ 84000
  omega
set_option maxHeartbeats 4000000 in
set_option maxRecDepth 100000 in
theorem whole_of {p : Program} {e : Env} {s : State} {m : MethodId} {below : List Frame} {meth : Method} {c : Code} (l : Launch) {b L : Nat} {xs : Nat → Int32} (hW : aWins L xs) (C0 : lw_At p s m meth c b L xs) : W p l e room_1 s m #[Value.ref b] below meth c s.heap [] 0 0 (lw_Z below #[Value.ref b] s) (entryFrame m ([Value.ref b] : List Value).toArray 4) := by
  obtain ⟨hx, hb, hr, hml, hown, hts, hX, hbl, hlocks, hgv⟩ := id C0
  obtain ⟨n, d, h, hrun, hc, hsl, hd⟩ := hW
  obtain ⟨sA, hstr⟩ := a_str hts hgv
  obtain ⟨D, ty, hK⟩ := a_tab hts
  have hcx : aCx (s.heap.size, sA, b) D ty (L, xs) s s.heap := ⟨aNest_of hts, hK, hX, hbl, Nat.le_refl _, hstr⟩
  have F : aFx p s m #[Value.ref b] meth c (s.heap.size, sA, b) D ty (L, xs) m_274 := ⟨hx, hb, hml, hown, fun w hw => hts w (List.mem_filter.mp hw).1, hr, hlocks, fun hn => absurd hn (by decide), hcx⟩
  have hl := lv_entry ([.ref b]) (n := 4) (Nat.le_of_ble_eq_true rfl)
  rw [lg_entry_eq]
  generalize (lg_sl ([.ref b]) ++ List.replicate (4 - (lg_sl ([.ref b])).length) Slot.unset).toArray = ls at hl ⊢
  have hl : lv_has ls 4 (lv_args 0 (([.float 1] : List Value).map (aSh (s.heap.size, sA, b)))) := hl
  have hrel : aRel (s.heap.size, sA, b) D ty [] s.heap := ⟨fun k q hq => by simp [aWs] at hq, rfl⟩
  have hfr : d + 4 ≤ room_1.frames := by show d + 4 ≤ 2048; omega
  have hlo : 64 * (d + 4) ≤ room_1.locals := a_5 hd
  have k1 := a_main (L, xs) n d 274 0 (aEntL [.float 1] 4) [] [] (some (.int 1)) h m_274 rfl hrun p l e room_1 s m #[Value.ref b] below meth c (lw_Z below #[Value.ref b] s) (s.heap.size, sA, b) D ty 0 0 F (Nat.zero_le _) (Nat.zero_le _) ⟨hc, hsl⟩ hfr hlo (fun pc' ls' H locs hrt hr2 hS => by
    have hdg : decode code pc' = .ok (.ireturn, 1) := by
      rcases hrt with ⟨h0, -⟩ | ⟨x, -, hd, -⟩ | ⟨x, h0, -⟩
      · cases h0
      · exact hd
      · cases h0
    refine va_forget (fun q hq => hS.2.2 q hq) ?_
    refine W.widen hc hsl ?_
    exact lw_ret hx hb hr hlocks hdg) ls s.heap [] (aEnt_LR (by decide) hl) hrel va_S.rf
  exact k1
