section S13
variable {p : Program} {l : Launch} {e : Env} {R : Room} {s : State} {m : MethodId} {args : Array Value} {below : List Frame} {meth : Method} {c : Code} {Q : State → Prop} {K : aK} {D : va_G} {ty : Nat → ClassId} {X : aX} {n0 s0 : Nat} {y : aMt} {pc : Nat} {lv : aL} {st : List Value} {h : aH} {q : aF}
/-- what String.charAt does of the one constant (proved further on) -/
def aChr (p : Program) (l : Launch) (e : Env) (R : Room) (s : State) (m : MethodId) (args : Array Value) (below : List Frame) (meth : Method) (c : Code) (Q : State → Prop) (K : aK) (D : va_G) (ty : Nat → ClassId) (y : aMt) (n0 s0 : Nat) : Prop := ∀ (pc i : Nat) (lv : aL) (st : List Value) (h : aH) (q : aF), decode y.2.1 pc = .ok (.invokevirtual i, 3) → Cond.methodLink y.1.cls i yChr ∈ aG → a_chr pc lv st h = some (.inl q) → (q.2.2.2.length - n0 ≤ R.cells ∧ aSl q.2.2.2 - s0 ≤ R.slots) → aCo p l e R s m args below meth c Q K D ty y.2.2.1 n0 s0 q → aCo p l e R s m args below meth c Q K D ty y.2.2.1 n0 s0 (pc, lv, st, h)
theorem aLso {ps : List (Int × Int)} {dflt pc : Int} (h0 : 0 ≤ pc + dflt) (h1 : ps.all (fun z => decide (0 ≤ pc + z.2)) = true) (x : Int) : 0 ≤ pc + Op.lookupswitch.offset ps dflt x := by
  induction ps with
  | nil => exact h0
  | cons a t ih =>
    obtain ⟨a1, a2⟩ := a
    rw [List.all_cons, Bool.and_eq_true] at h1
    rw [Op.lookupswitch.offset_cons]
    split
    · exact of_decide_eq_true h1.1
    · exact ih h1.2
set_option maxHeartbeats 8000000 in
theorem a_stp {i : Instr} {len a b : Nat} {v : Value} (F : aFx p s m args meth c K D ty X y) (hown : aOwn y.2.2.2.2.2.1 = y.1.cls) (hd : decode y.2.1 pc = .ok (i, len)) (hok : aOKi y.2.2.2.2.2.1 (decide (y.1.name = "<init>")) y.2.2.2.1 pc (i, len, a, b, v) = true) (hn0 : n0 ≤ h.length) (hs0 : s0 ≤ aSl h) (hfr : 1 ≤ R.frames) (hlo : 64 ≤ R.locals)
    (hchr : aChr p l e R s m args below meth c Q K D ty y n0 s0) (hs : aStep X (i, len, a, b, v) pc lv st h = some (.inl q)) (hrm : q.2.2.2.length - n0 ≤ R.cells ∧ aSl q.2.2.2 - s0 ≤ R.slots) (kk : aCo p l e R s m args below meth c Q K D ty y.2.2.1 n0 s0 q) : aCo p l e R s m args below meth c Q K D ty y.2.2.1 n0 s0 (pc, lv, st, h) := by
  obtain ⟨hx, hb, hml, hownc, hts, hr, hlocks, hname, hcx⟩ := F
  generalize ho : y.2.2.2.2.2.1 = o at hok hown
  rw [← hown] at hownc
  unfold aOKi at hok
  unfold aStep at hs
  cases i with
  | iload k =>
    obtain rfl : len = 2 := eq_of_beq hok
    exact s_ild (fun ls H locs a1 b1 x rest hl k1 => lv_iload hx hb hd hl k1) hs kk
  | iload_n k =>
    obtain rfl : len = 1 := eq_of_beq hok
    exact s_ild (fun ls H locs a1 b1 x rest hl k1 => lv_iload_n hx hb hd rfl hl k1) hs kk
  | lload k =>
    obtain rfl : len = 2 := eq_of_beq hok
    exact s_lld (fun ls H locs a1 b1 x rest hl k1 => lv_lload hx hb hd hl k1) hs kk
  | lload_n k =>
    obtain rfl : len = 1 := eq_of_beq hok
    exact s_lld (fun ls H locs a1 b1 x rest hl k1 => lv_lload_n hx hb hd rfl hl k1) hs kk
  | aload k =>
    obtain rfl : len = 2 := eq_of_beq hok
    exact s_ald (fun ls H locs a1 b1 x rest hl k1 => lv_aload hx hb hd hl k1) hs kk
  | aload_n k =>
    obtain rfl : len = 1 := eq_of_beq hok
    exact s_ald (fun ls H locs a1 b1 x rest hl k1 => lv_aload_n hx hb hd rfl hl k1) hs kk
  | istore k =>
    obtain rfl : len = 2 := eq_of_beq hok
    exact s_ist (fun ls H locs a1 b1 x rest lvA hh hi k1 => lv_istore hx hb hd hh hi rfl k1) hs kk
  | istore_n k =>
    obtain rfl : len = 1 := eq_of_beq hok
    exact s_ist (fun ls H locs a1 b1 x rest lvA hh hi k1 => lv_istore_n hx hb hd rfl hh hi rfl k1) hs kk
  | lstore k =>
    obtain rfl : len = 2 := eq_of_beq hok
    exact s_lst (fun ls H locs a1 b1 x rest lvA hh hi k1 => lv_lstore hx hb hd hh hi rfl k1) hs kk
  | lstore_n k =>
    obtain rfl : len = 1 := eq_of_beq hok
    exact s_lst (fun ls H locs a1 b1 x rest lvA hh hi k1 => lv_lstore_n hx hb hd rfl hh hi rfl k1) hs kk
  | astore k =>
    obtain rfl : len = 2 := eq_of_beq hok
    exact s_ast (fun ls H locs a1 b1 x rest lvA hh hi k1 => lv_astore hx hb hd hh hi rfl k1) hs kk
  | astore_n k =>
    obtain rfl : len = 1 := eq_of_beq hok
    exact s_ast (fun ls H locs a1 b1 x rest lvA hh hi k1 => lv_astore_n hx hb hd rfl hh hi rfl k1) hs kk
  | iconst z =>
    rw [Bool.and_eq_true] at hok
    obtain rfl : len = 1 := eq_of_beq hok.1
    have hv := of_decide_eq_true hok.2
    simp only at hv
    subst hv
    exact s_push (fun ls H locs a1 b1 rest k1 => lv_iconst hx hb hd rfl k1) hs kk
  | bipush z =>
    rw [Bool.and_eq_true] at hok
    obtain rfl : len = 2 := eq_of_beq hok.1
    have hv := of_decide_eq_true hok.2
    simp only at hv
    subst hv
    exact s_push (fun ls H locs a1 b1 rest k1 => lv_bipush hx hb hd rfl k1) hs kk
  | sipush z =>
    rw [Bool.and_eq_true] at hok
    obtain rfl : len = 3 := eq_of_beq hok.1
    have hv := of_decide_eq_true hok.2
    simp only at hv
    subst hv
    exact s_push (fun ls H locs a1 b1 rest k1 => lv_sipush hx hb hd rfl k1) hs kk
  | lconst z =>
    rw [Bool.and_eq_true] at hok
    obtain rfl : len = 1 := eq_of_beq hok.1
    have hv := of_decide_eq_true hok.2
    simp only at hv
    subst hv
    exact s_push (fun ls H locs a1 b1 rest k1 => lv_lconst hx hb hd rfl k1) hs kk
  | ldc z =>
    rw [Bool.and_eq_true] at hok
    obtain rfl : len = 2 := eq_of_beq hok.1
    have h2 := hok.2
    simp only at h2
    split at h2
    · have hv := of_decide_eq_true h2
      exact s_push (fun ls H locs a1 b1 rest k1 => lv_ldc hx hb hownc (hts _ (aWd_G hv rfl)) hd k1) hs kk
    · rw [Bool.and_eq_true, Bool.and_eq_true] at h2
      obtain ⟨⟨h3, h4⟩, h5⟩ := h2
      have h3 := of_decide_eq_true h3
      have h4 := eq_of_beq h4
      have h5 := eq_of_beq h5
      subst h3; subst h4; subst h5
      exact s_push (fun ls H locs a1 b1 rest k1 => va_ldcS hx hb (own := RX8) hownc hcx.2.2.2.2.2.1 hd k1) hs kk
    · cases h2
  | ldc_w z =>
    rw [Bool.and_eq_true] at hok
    obtain rfl : len = 3 := eq_of_beq hok.1
    have h2 := hok.2
    simp only at h2
    split at h2
    · have hv := of_decide_eq_true h2
      exact s_push (fun ls H locs a1 b1 rest k1 => lv_ldcw hx hb hownc (hts _ (aWd_G hv rfl)) hd k1) hs kk
    · cases h2
  | ldc2_w z =>
    rw [Bool.and_eq_true] at hok
    obtain rfl : len = 3 := eq_of_beq hok.1
    have h2 := hok.2
    simp only at h2
    split at h2
    · have hv := of_decide_eq_true h2
      exact s_push (fun ls H locs a1 b1 rest k1 => lv_ldc2 hx hb hownc (hts _ (aWd_G hv rfl)) hd k1) hs kk
    · cases h2
  | iinc k n =>
    rcases (Bool.or_eq_true _ _).mp hok with hq | hq
    · obtain rfl : len = 3 := eq_of_beq hq
      exact s_iinc (fun ls H locs a1 b1 x rest lvA kx hh hk hi k1 => lv_iinc hx hb hd hh hk rfl hi rfl k1) hs kk
    · obtain rfl : len = 6 := eq_of_beq hq
      exact s_iinc (fun ls H locs a1 b1 x rest lvA kx hh hk hi k1 => lv_iincW hx hb hd hh hk rfl hi rfl k1) hs kk
  | iadd =>
    obtain rfl : len = 1 := eq_of_beq hok
    exact s_ii (fun ls H locs a1 b1 x y rest k1 => lv_iadd hx hb hd k1) hs kk
  | isub =>
    obtain rfl : len = 1 := eq_of_beq hok
    exact s_ii (fun ls H locs a1 b1 x y rest k1 => lv_isub hx hb hd k1) hs kk
  | imul =>
    obtain rfl : len = 1 := eq_of_beq hok
    exact s_ii (fun ls H locs a1 b1 x y rest k1 => lv_imul hx hb hd k1) hs kk
  | iand =>
    obtain rfl : len = 1 := eq_of_beq hok
    exact s_ii (fun ls H locs a1 b1 x y rest k1 => lv_iand hx hb hd k1) hs kk
  | ior =>
    obtain rfl : len = 1 := eq_of_beq hok
    exact s_ii (fun ls H locs a1 b1 x y rest k1 => lv_ior hx hb hd k1) hs kk
  | ishl =>
    obtain rfl : len = 1 := eq_of_beq hok
    exact s_ii (fun ls H locs a1 b1 x y rest k1 => lv_ishl hx hb hd k1) hs kk
  | ishr =>
    obtain rfl : len = 1 := eq_of_beq hok
    exact s_ii (fun ls H locs a1 b1 x y rest k1 => lv_ishr hx hb hd k1) hs kk
  | idiv =>
    obtain rfl : len = 1 := eq_of_beq hok
    exact s_ii0 (fun ls H locs a1 b1 x y rest h0 k1 => lv_idiv hx hb hd h0 k1) hs kk
  | irem =>
    obtain rfl : len = 1 := eq_of_beq hok
    exact s_ii0 (fun ls H locs a1 b1 x y rest h0 k1 => lv_irem hx hb hd h0 k1) hs kk
  | ineg =>
    obtain rfl : len = 1 := eq_of_beq hok
    exact s_i (fun ls H locs a1 b1 x rest k1 => lv_ineg hx hb hd k1) hs kk
  | i2b =>
    obtain rfl : len = 1 := eq_of_beq hok
    exact s_i (fun ls H locs a1 b1 x rest k1 => lv_i2b hx hb hd rfl k1) hs kk
  | ladd =>
    obtain rfl : len = 1 := eq_of_beq hok
    exact s_ll (fun ls H locs a1 b1 x y rest k1 => lv_ladd hx hb hd k1) hs kk
  | lsub =>
    obtain rfl : len = 1 := eq_of_beq hok
    exact s_ll (fun ls H locs a1 b1 x y rest k1 => lv_lsub hx hb hd k1) hs kk
  | lmul =>
    obtain rfl : len = 1 := eq_of_beq hok
    exact s_ll (fun ls H locs a1 b1 x y rest k1 => lv_lmul hx hb hd k1) hs kk
  | land =>
    obtain rfl : len = 1 := eq_of_beq hok
    exact s_ll (fun ls H locs a1 b1 x y rest k1 => lv_land hx hb hd k1) hs kk
  | lor =>
    obtain rfl : len = 1 := eq_of_beq hok
    exact s_ll (fun ls H locs a1 b1 x y rest k1 => lv_lor hx hb hd k1) hs kk
  | ldiv =>
    obtain rfl : len = 1 := eq_of_beq hok
    exact s_ll0 (fun ls H locs a1 b1 x y rest h0 k1 => lv_ldiv hx hb hd h0 k1) hs kk
  | lrem =>
    obtain rfl : len = 1 := eq_of_beq hok
    exact s_ll0 (fun ls H locs a1 b1 x y rest h0 k1 => lv_lrem hx hb hd h0 k1) hs kk
  | lshl =>
    obtain rfl : len = 1 := eq_of_beq hok
    exact s_lshl hx hb hd hs kk
  | lcmp =>
    obtain rfl : len = 1 := eq_of_beq hok
    exact s_lcmp hx hb hd hs kk
  | i2l =>
    obtain rfl : len = 1 := eq_of_beq hok
    exact s_i2l hx hb hd hs kk
  | l2i =>
    obtain rfl : len = 1 := eq_of_beq hok
    exact s_l2i hx hb hd hs kk
  | dup =>
    obtain rfl : len = 1 := eq_of_beq hok
    exact s_dup hx hb hd hs kk
  | dup2 =>
    obtain rfl : len = 1 := eq_of_beq hok
    exact s_dup2 hx hb hd hs kk
  | pop =>
    obtain rfl : len = 1 := eq_of_beq hok
    exact s_pop hx hb hd hs kk
  | ifCond cd off =>
    rw [Bool.and_eq_true] at hok
    obtain rfl : len = 3 := eq_of_beq hok.1
    have h0 := of_decide_eq_true hok.2
    cases cd with
    | eq => exact s_if (fun ls H locs a1 b1 x rest kt kf => lv_if_eq hx hb hd (by omega) (fun hc => kt (decide_eq_true hc)) (fun hc => kf (fun z => hc (of_decide_eq_true z)))) hs kk
    | ne => exact s_if (fun ls H locs a1 b1 x rest kt kf => lv_if_ne hx hb hd (by omega) (fun hc => kt (decide_eq_true hc)) (fun hc => kf (fun z => absurd hc (of_decide_eq_true z)))) hs kk
    | lt => exact s_if (fun ls H locs a1 b1 x rest kt kf => lv_if_lt hx hb hd (by omega) (fun hc => kt (decide_eq_true hc)) (fun hc => kf (fun z => hc (of_decide_eq_true z)))) hs kk
    | ge => exact s_if (fun ls H locs a1 b1 x rest kt kf => lv_if_ge hx hb hd (by omega) (fun hc => kt (decide_eq_true hc)) (fun hc => kf (fun z => hc (of_decide_eq_true z)))) hs kk
    | gt => exact s_if (fun ls H locs a1 b1 x rest kt kf => lv_if_gt hx hb hd (by omega) (fun hc => kt (decide_eq_true hc)) (fun hc => kf (fun z => hc (of_decide_eq_true z)))) hs kk
    | le => exact s_if (fun ls H locs a1 b1 x rest kt kf => lv_if_le hx hb hd (by omega) (fun hc => kt (decide_eq_true hc)) (fun hc => kf (fun z => hc (of_decide_eq_true z)))) hs kk
  | if_icmp cd off =>
    rw [Bool.and_eq_true] at hok
    obtain rfl : len = 3 := eq_of_beq hok.1
    have h0 := of_decide_eq_true hok.2
    cases cd with
    | eq => exact s_cmp (fun ls H locs a1 b1 x y rest kt kf => lv_icmp_eq hx hb hd (by omega) (fun hc => kt (decide_eq_true hc)) (fun hc => kf (fun z => hc (of_decide_eq_true z)))) hs kk
    | ne => exact s_cmp (fun ls H locs a1 b1 x y rest kt kf => lv_icmp_ne hx hb hd (by omega) (fun hc => kt (decide_eq_true hc)) (fun hc => kf (fun z => absurd hc (of_decide_eq_true z)))) hs kk
    | lt => exact s_cmp (fun ls H locs a1 b1 x y rest kt kf => lv_icmp_lt hx hb hd (by omega) (fun hc => kt (decide_eq_true hc)) (fun hc => kf (fun z => hc (of_decide_eq_true z)))) hs kk
    | ge => exact s_cmp (fun ls H locs a1 b1 x y rest kt kf => lv_icmp_ge hx hb hd (by omega) (fun hc => kt (decide_eq_true hc)) (fun hc => kf (fun z => hc (of_decide_eq_true z)))) hs kk
    | gt => exact s_cmp (fun ls H locs a1 b1 x y rest kt kf => lv_icmp_gt hx hb hd (by omega) (fun hc => kt (decide_eq_true hc)) (fun hc => kf (fun z => hc (of_decide_eq_true z)))) hs kk
    | le => exact s_cmp (fun ls H locs a1 b1 x y rest kt kf => lv_icmp_le hx hb hd (by omega) (fun hc => kt (decide_eq_true hc)) (fun hc => kf (fun z => hc (of_decide_eq_true z)))) hs kk
  | goto off =>
    rw [Bool.and_eq_true] at hok
    obtain rfl : len = 3 := eq_of_beq hok.1
    exact s_goto hx hb hd (of_decide_eq_true hok.2) hs kk
  | tableswitch dflt lo hi offs =>
    rw [Bool.and_eq_true] at hok
    refine s_tsw hx hb hd (of_decide_eq_true hok.1) (fun j off hj => ?_) hs kk
    have hm : off ∈ offs.toList := by rw [← Array.getElem?_toList] at hj; exact List.mem_of_getElem? hj
    exact of_decide_eq_true (List.all_eq_true.mp hok.2 off hm)
  | lookupswitch dflt ps =>
    rw [Bool.and_eq_true] at hok
    rw [Bool.and_eq_true] at hok
    exact s_lsw hx hb hd hok.2 (fun x => aLso (of_decide_eq_true hok.1.1) hok.1.2 x) hs kk
  | getfield z =>
    rw [Bool.and_eq_true] at hok
    obtain rfl : len = 3 := eq_of_beq hok.1
    have h2 := hok.2
    simp only at h2
    split at h2
    · rename_i C T N hc
      rw [Bool.and_eq_true] at h2
      have hk := of_decide_eq_true h2.1
      refine s_get hx hb hts hownc hcx hc (c_ok hc) hk ?_ hd hs kk
      rcases (Bool.or_eq_true _ _).mp h2.2 with h3 | h3
      · exact Or.inl (aWd_G (of_decide_eq_true h3) rfl)
      · exact Or.inr ⟨_, aWd_N (of_decide_eq_true h3) rfl⟩
    · cases h2
  | putfield z =>
    rw [Bool.and_eq_true] at hok
    obtain rfl : len = 3 := eq_of_beq hok.1
    have h2 := hok.2
    simp only at h2
    split at h2
    · rename_i C T N hc
      rw [Bool.and_eq_true] at h2
      have hk := of_decide_eq_true h2.1
      refine s_put hx hb hts hownc hcx hc (c_ok hc) hk ?_ hd hs kk
      rcases (Bool.or_eq_true _ _).mp h2.2 with h3 | h3
      · rw [Bool.and_eq_true] at h3
        rcases (Bool.or_eq_true _ _).mp h3.2 with h4 | h4
        · exact Or.inl ⟨eq_of_beq h3.1, aWd_G (of_decide_eq_true h4) rfl⟩
        · exact Or.inr (Or.inl ⟨eq_of_beq h3.1, _, aWd_N (of_decide_eq_true h4) rfl⟩)
      · rw [Bool.and_eq_true, Bool.and_eq_true, Bool.and_eq_true] at h3
        obtain ⟨⟨⟨h4, h5⟩, h6⟩, h7⟩ := h3
        exact Or.inr (Or.inr ⟨eq_of_beq h4, hname (of_decide_eq_true h5), of_decide_eq_true h6, aWd_G (of_decide_eq_true h7) rfl⟩)
    · cases h2
  | new z =>
    rw [Bool.and_eq_true] at hok
    obtain rfl : len = 3 := eq_of_beq hok.1
    have h2 := hok.2
    simp only at h2
    split at h2
    · rename_i C T N hc
      exact s_new hx hb hts hownc hcx hc (c_ok hc) (aWd_G (of_decide_eq_true h2) rfl) hd hn0 hs0 hs hrm kk
    · cases h2
  | newarray t =>
    rw [Bool.and_eq_true] at hok
    obtain rfl : len = 2 := eq_of_beq hok.1
    exact s_newa hx hb hts hcx hok.2 (w_arr hok.2) hd hn0 hs0 hs hrm kk
  | anewarray z =>
    rw [Bool.and_eq_true] at hok
    rw [Bool.and_eq_true, Bool.and_eq_true] at hok
    obtain ⟨⟨⟨h1, h4⟩, h6⟩, h2⟩ := hok
    obtain rfl : len = 3 := eq_of_beq h1
    have h4 := of_decide_eq_true h4
    have h6 := of_decide_eq_true h6
    simp only at h2 h4 h6
    split at h2
    · rename_i C T N hc
      have hT : (aTys ty)[a]? = some (ty a, .object C) := by
        obtain ⟨r, e1, e2⟩ := aTag (ty := ty) h4 h6
        rw [hc] at e1
        cases e1
        exact e2
      exact s_anew hx hb hts hownc hcx h4 h6 hT (aWd_G (of_decide_eq_true h2) rfl) (w_ovr h4 h6 hc) hd hn0 hs0 hs hrm kk
    · cases h2
  | iaload =>
    obtain rfl : len = 1 := eq_of_beq hok
    exact s_iald hx hb hcx hd hs kk
  | baload =>
    obtain rfl : len = 1 := eq_of_beq hok
    exact s_bald hx hb hcx hd hs kk
  | laload =>
    obtain rfl : len = 1 := eq_of_beq hok
    exact s_lald hx hb hcx hd hs kk
  | aaload =>
    obtain rfl : len = 1 := eq_of_beq hok
    exact s_aald hx hb hcx hd hs kk
  | iastore =>
    obtain rfl : len = 1 := eq_of_beq hok
    exact s_iast hx hb hcx hd hs kk
  | bastore =>
    obtain rfl : len = 1 := eq_of_beq hok
    exact s_bast hx hb hcx hd hs kk
  | lastore =>
    obtain rfl : len = 1 := eq_of_beq hok
    exact s_last hx hb hcx hd hs kk
  | aastore =>
    obtain rfl : len = 1 := eq_of_beq hok
    exact s_aast hx hb hcx hd hs kk
  | arraylength =>
    obtain rfl : len = 1 := eq_of_beq hok
    exact s_alen hx hb hcx hd hs kk
  | ireturn =>
    exfalso
    simp only [a_iret] at hs
    (repeat' split at hs) <;> cases hs
  | lreturn =>
    exfalso
    simp only [a_lret] at hs
    (repeat' split at hs) <;> cases hs
  | return_ =>
    exfalso
    simp only [a_vret] at hs
    (repeat' split at hs) <;> cases hs
  | invokespecial z =>
    rw [Bool.and_eq_true] at hok
    obtain rfl : len = 3 := eq_of_beq hok.1
    have h2 := hok.2
    simp only at h2 hs
    by_cases h9 : a = 1000
    · rw [if_pos h9] at h2 hs
      exact s_obj hx hb hml hts hownc (aWd_G (of_decide_eq_true h2) rfl) w_ob w_oc hfr hlo hd hs kk
    · exfalso
      rw [if_neg h9] at hs
      split at hs
      · unfold a_callV at hs
        (repeat' split at hs) <;> cases hs
      · cases hs
  | invokevirtual z =>
    rw [Bool.and_eq_true] at hok
    obtain rfl : len = 3 := eq_of_beq hok.1
    have h2 := hok.2
    simp only at h2 hs
    by_cases h9 : a = 1000
    · rw [if_pos h9] at h2 hs
      exact hchr pc z lv st h q hd (by rw [← hown]; exact aWd_G (of_decide_eq_true h2) rfl) hs hrm kk
    · exfalso
      rw [if_neg h9] at hs
      split at hs
      · unfold a_callV at hs
        (repeat' split at hs) <;> cases hs
      · cases hs
  | invokestatic z =>
    rw [Bool.and_eq_true] at hok
    obtain rfl : len = 3 := eq_of_beq hok.1
    have h2 := hok.2
    simp only at h2 hs
    by_cases h9 : 1000 ≤ a
    · rw [if_pos h9] at h2 hs
      rw [Bool.and_eq_true] at h2
      have h8 := of_decide_eq_true h2.1
      have h7 := aWd_G (of_decide_eq_true h2.2) rfl
      rcases (show a = 1000 ∨ a = 1001 ∨ a = 1002 ∨ a = 1003 ∨ a = 1004 by omega) with rfl | rfl | rfl | rfl | rfl
      · exact s_copy hx hb hml hts hownc hcx h7 w_nat w_cst w_sys hfr hlo hd hs kk
      · exact s_imax hx hb hml hts hownc h7 w_m1 w_mth w_n1 hfr hlo hd hs hrm kk
      · exact s_imin hx hb hml hts hownc h7 w_m2 w_mth w_n2 hfr hlo hd hs hrm kk
      · exact s_lmax hx hb hml hts hownc h7 w_m3 w_mth w_n3 hfr hlo hd hs hrm kk
      · exact s_lmin hx hb hml hts hownc h7 w_m4 w_mth w_n4 hfr hlo hd hs hrm kk
    · exfalso
      rw [if_neg h9] at hs
      unfold a_callS at hs
      split at hs <;> cases hs
  | _ => cases hs
end S13
