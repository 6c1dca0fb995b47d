set_option maxRecDepth 100000 in
theorem aLo {a d L : Nat} (h : a ≤ 40) (hl : 64 * (d + 5) ≤ L) : 8 + (a + 11) + 64 * (d + 4) ≤ L := by omega
theorem aRm_lo (d : Nat) (h hf : aH) : (aRm d h hf).locals = 64 * (d + 4) := rfl
section S15
variable {p : Program} {l : Launch} {e : Env} {R : Room} {s : State} {m : MethodId} {args : Array Value} {below : List Frame} {meth : Method} {c : Code} {Q : State → Prop} {K : aK} {D : va_G} {ty : Nat → ClassId} {X : aX} {n0 s0 : Nat} {y : aMt} {pc : Nat} {lv : aL} {st : List Value} {h : aH}
theorem aCx_at (F : aFx p s m args meth c K D ty X y) {H : Heap} {locs : List Loc} (hr : aRel K D ty h H) (hS : va_S (aBe K) s.heap H locs) (vs : List Value) : ∀ U : State, U.heap = H → s.WarmedH U.vm → aPc K D ty X vs h (vs.map (aSh K)).toArray U := by
  intro U hU hW
  refine ⟨rfl, by rw [hU]; exact hr, ?_⟩
  rw [hU]
  exact F.2.2.2.2.2.2.2.2.moved hW hS.1 hS.2.1
theorem aLkM_of {o i : Nat} {x : MethodName} (h : aLkM o i x = true) : Cond.methodLink (aOwn o) i x ∈ aG ∨ Cond.methodLinkNest (aOwn o) i x "FortyBasket" ∈ aNest := by
  unfold aLkM at h
  rcases (Bool.or_eq_true _ _).mp h with h1 | h1
  · exact Or.inl (aWd_G (of_decide_eq_true h1) rfl)
  · exact Or.inr (aWd_N (of_decide_eq_true h1) rfl)
theorem aStk_split {b r : Nat} {t : List Value} (hd : st.drop b = .ref r :: t) : st.map (aSh K) = ((st.take b).reverse.map (aSh K)).reverse ++ .ref (K.1 + r) :: t.map (aSh K) := by
  have h1 : st = st.take b ++ st.drop b := (List.take_append_drop b st).symm
  rw [hd] at h1
  conv => lhs; rw [h1]
  rw [List.map_append, List.map_reverse, List.reverse_reverse]
  rfl
theorem aStk_splitS (b : Nat) : st.map (aSh K) = ((st.take b).reverse.map (aSh K)).reverse ++ (st.drop b).map (aSh K) := by
  have h1 : st = st.take b ++ st.drop b := (List.take_append_drop b st).symm
  conv => lhs; rw [h1]
  rw [List.map_append, List.map_reverse, List.reverse_reverse]
theorem aV_list (v : Option Value) (t : List Value) : (v.map (aSh K)).toList ++ t.map (aSh K) = (v.toList ++ t).map (aSh K) := by
  cases v <;> simp
set_option maxHeartbeats 8000000 in
theorem s_call {i : Instr} {len a b M' d' : Nat} {v0 : Value} {vs : List Value} {q : aF} {y' : aMt} {v : Option Value} {hf : aH} (F : aFx p s m args meth c K D ty X y) (hown : aOwn y.2.2.2.2.2.1 = y.1.cls) (hd : decode y.2.1 pc = .ok (i, len)) (hok : aOKi y.2.2.2.2.2.1 (decide (y.1.name = "<init>")) y.2.2.2.1 pc (i, len, a, b, v0) = true)
    (hs : aStep X (i, len, a, b, v0) pc lv st h = some (.inr (.inr (M', vs, q)))) (hM' : aMs[M']? = some y') (hn0 : n0 ≤ h.length) (hs0 : s0 ≤ aSl h) (hmo : aMo h hf) (hrm : hf.length - n0 ≤ R.cells ∧ aSl hf - s0 ≤ R.slots) (hfr : d' + 5 ≤ R.frames) (hlo : 64 * (d' + 5) ≤ R.locals)
    (hmet : plainName y'.1.cls = true → Met l y'.1 (Cond.code y'.1 y'.2.1 y'.2.2.1 y'.2.2.2.1 :: aG) (aRm d' h hf) (aPc K D ty X vs h) (aQc K D ty v hf) (hf.length - h.length) (aSl hf - aSl h) (aBe K))
    (kk : aCo p l e R s m args below meth c Q K D ty y.2.2.1 n0 s0 (q.1, q.2.1, v.toList ++ q.2.2.1, hf)) : aCo p l e R s m args below meth c Q K D ty y.2.2.1 n0 s0 (pc, lv, st, h) := by
  obtain ⟨hx, hb, hml, hownc, hts, hr0, hlocks, hname, hcx⟩ := id F
  generalize ho : y.2.2.2.2.2.1 = o at hok hown
  rw [← hown] at hownc
  have hk := (aStep_cm hs).2
  simp only at hk
  have hroom : (aRm d' h hf).frames + 1 ≤ R.frames := hfr
  have hcell : h.length - n0 + (hf.length - h.length) = hf.length - n0 := by have := hmo.1; omega
  have hslot : aSl h - s0 + (aSl hf - aSl h) = aSl hf - s0 := by have := hmo.2; omega
  have hfit : h.length - n0 + (hf.length - h.length) ≤ R.cells ∧ aSl h - s0 + (aSl hf - aSl h) ≤ R.slots := by rw [hcell, hslot]; exact hrm
  unfold aOKi at hok
  unfold aStep at hs
  rcases hk with ⟨z, rfl⟩ | ⟨z, rfl⟩ | ⟨z, rfl⟩
  · rw [Bool.and_eq_true] at hok
    obtain rfl : len = 3 := eq_of_beq hok.1
    have h2 := hok.2
    simp only at h2 hs
    by_cases h9 : a = 1000
    · exfalso
      rw [if_pos h9] at hs
      unfold a_obj at hs
      (repeat' split at hs) <;> cases hs
    · rw [if_neg h9] at h2 hs
      split at hs
      · rename_i k
        unfold a_callV at hs
        split at hs
        · rename_i r t hdrop
          split at hs
          · rename_i cj fs hcl
            split at hs
            · rename_i hc
              obtain ⟨rfl, hbl, hstk⟩ := hc
              cases hs
              rw [hM'] at h2
              simp only [Bool.and_eq_true] at h2
              obtain ⟨⟨⟨⟨⟨⟨g1, g2⟩, g3⟩, g4⟩, g5⟩, g6⟩, g7⟩ := h2
              have hret := of_decide_eq_true g3
              obtain ⟨hpl, e1, e2, e3, hcode, hini, -⟩ := aMchk_of (aMK_all y' (aMs_of hM') (of_decide_eq_true g1))
              have hM := hmet hpl
              have hin : Cond.instanceMethod y'.1 ∈ aG := by
                split at g7
                · rename_i w hw
                  have := of_decide_eq_true g7
                  subst this
                  exact aG_of (List.mem_of_getElem? hw) rfl
                · cases g7
              have hlocals : 8 + (y'.2.2.1 + 11) + (aRm d' h hf).locals ≤ R.locals := by rw [aRm_lo]; exact aLo e3 hlo
              intro ls H locs hl hr hS
              show W p l e R s m args below meth c H locs (h.length - n0) (aSl h - s0) Q (F0 m pc ls (st.map (aSh K)))
              rw [aStk_split hdrop]
              have fin : ∀ (H1 : Heap) (locs1 : List Loc), aRel K D ty hf H1 → va_S (aBe K) s.heap H1 locs1 → W p l e R s m args below meth c H1 locs1 (h.length - n0 + (hf.length - h.length)) (aSl h - s0 + (aSl hf - aSl h)) Q (F0 m (pc + 3) ls ((v.map (aSh K)).toList ++ t.map (aSh K))) := by
                intro H1 locs1 hr1 hS1
                rw [aV_list, hcell, hslot]
                exact kk ls H1 locs1 hl hr1 hS1
              rw [hret] at hM hcode
              have hwg : GoodIn aG (Cond.code y'.1 y'.2.1 y'.2.2.1 none :: aG) := aG_in (fun w hw => (List.mem_cons.mp hw).elim (fun e => by rw [e]; exact hcode) id)
              rcases aLkM_of g4 with hl1 | hl1
              · exact a_goon (va_runI (As := (st.take b).reverse.map (aSh K)) (rest := t.map (aSh K)) ⟨hx, hb, hml, hownc, hts⟩ hM (cwI b hts hwg rfl rfl rfl (hts _ hini) (hts _ hl1) (hts _ hin) (of_decide_eq_true g2) ⟨e1, e2, of_decide_eq_true g5⟩ ⟨hroom, hlocals⟩) ⟨aPc_blind K D ty X _ h, aCx_at F hr hS _⟩ rfl (by simp; omega) hl.2.1 rfl (lv_room (aStk_map hstk)) hd hfit) hS fin
              · exact a_goon (va_runIN (As := (st.take b).reverse.map (aSh K)) (rest := t.map (aSh K)) ⟨hx, hb, hml, hownc, hts⟩ hM ⟨va_cnB b hts hwg rfl rfl rfl (hcx.1 _ hl1) (hts _ hini) ⟨e1, e2, of_decide_eq_true g5⟩ ⟨hroom, hlocals⟩, of_decide_eq_true g2, hts _ hin⟩ ⟨aPc_blind K D ty X _ h, aCx_at F hr hS _⟩ rfl (by simp; omega) hl.2.1 rfl (lv_room (aStk_map hstk)) hd hfit) hS fin
            · cases hs
          · cases hs
        · cases hs
      · cases hs
  · rw [Bool.and_eq_true] at hok
    obtain rfl : len = 3 := eq_of_beq hok.1
    have h2 := hok.2
    simp only at h2 hs
    by_cases h9 : a = 1000
    · exfalso
      rw [if_pos h9] at hs
      unfold a_chr at hs
      (repeat' split at hs) <;> cases hs
    · rw [if_neg h9] at h2 hs
      split at hs
      · rename_i k
        unfold a_callV at hs
        split at hs
        · rename_i r t hdrop
          split at hs
          · rename_i cj fs hcl
            split at hs
            · rename_i hc
              obtain ⟨rfl, hbl, hstk⟩ := hc
              cases hs
              rw [hM'] at h2
              simp only [Bool.and_eq_true] at h2
              obtain ⟨⟨⟨⟨⟨⟨g1, g2⟩, g4⟩, g5⟩, g6⟩, g8⟩, g7⟩ := h2
              obtain ⟨hpl, e1, e2, e3, hcode, hini, -⟩ := aMchk_of (aMK_all y' (aMs_of hM') (of_decide_eq_true g1))
              have hM := hmet hpl
              have hin : Cond.instanceMethod y'.1 ∈ aG := by
                split at g7
                · rename_i w hw
                  have := of_decide_eq_true g7
                  subst this
                  exact aG_of (List.mem_of_getElem? hw) rfl
                · cases g7
              have hsel : Cond.selects y'.1.cls y'.1 y'.1 ∈ aG := by
                split at g8
                · rename_i w hw
                  have := of_decide_eq_true g8
                  subst this
                  exact aG_of (List.mem_of_getElem? hw) rfl
                · cases g8
              have hlocals : 8 + (y'.2.2.1 + 11) + (aRm d' h hf).locals ≤ R.locals := by rw [aRm_lo]; exact aLo e3 hlo
              intro ls H locs hl hr hS
              show W p l e R s m args below meth c H locs (h.length - n0) (aSl h - s0) Q (F0 m pc ls (st.map (aSh K)))
              rw [aStk_split hdrop]
              have fin : ∀ (H1 : Heap) (locs1 : List Loc), aRel K D ty hf H1 → va_S (aBe K) s.heap H1 locs1 → W p l e R s m args below meth c H1 locs1 (h.length - n0 + (hf.length - h.length)) (aSl h - s0 + (aSl hf - aSl h)) Q (F0 m (pc + 3) ls ((v.map (aSh K)).toList ++ t.map (aSh K))) := by
                intro H1 locs1 hr1 hS1
                rw [aV_list, hcell, hslot]
                exact kk ls H1 locs1 hl hr1 hS1
              have hwg : GoodIn aG (Cond.code y'.1 y'.2.1 y'.2.2.1 y'.2.2.2.1 :: aG) := aG_in (fun w hw => (List.mem_cons.mp hw).elim (fun e => by rw [e]; exact hcode) id)
              have hrecv : ∃ cellB : Cell, H[K.1 + r]? = some cellB ∧ cellB.vm.isStatics = false ∧ s.vm.findClass y'.1.cls = some cellB.cls := by
                split at g6
                · rename_i C T N hcc
                  have hC := of_decide_eq_true g6
                  rw [← hC]
                  exact va_recv hcx.2.1 hr.1 hcc (aWs_get hcl)
                · cases g6
              rcases aLkM_of g4 with hl1 | hl1
              · have hwv : GoodIn aG (wsV (aOwn o) z y'.1.cls y'.1 (Cond.code y'.1 y'.2.1 y'.2.2.1 y'.2.2.2.1 :: aG)) := aG_in (fun w hw => by
                  unfold wsV at hw
                  rcases List.mem_append.mp hw with hw | hw
                  · simp only [List.mem_cons, List.not_mem_nil, or_false] at hw
                    rcases hw with rfl | rfl | rfl | rfl
                    · exact hl1
                    · exact hin
                    · exact hsel
                    · exact hini
                  · exact (hwg w hw).1)
                exact a_goon (va_runV (As := (st.take b).reverse.map (aSh K)) (rest := t.map (aSh K)) ⟨hx, hb, hml, hownc, hts⟩ hM (cwV b hts hwv rfl rfl rfl ⟨rfl, e1, e2, of_decide_eq_true g5⟩ ⟨hroom, hlocals⟩) ⟨aPc_blind K D ty X _ h, hrecv, aCx_at F hr hS _⟩ rfl (by simp; omega) hl.2.1 rfl (lv_room (aStk_map hstk)) hd hfit) hS fin
              · exact a_goon (va_runVN (C := y'.1.cls) (As := (st.take b).reverse.map (aSh K)) (rest := t.map (aSh K)) ⟨hx, hb, hml, hownc, hts⟩ hM ⟨va_cnB b hts hwg rfl rfl rfl (hcx.1 _ hl1) (hts _ hini) ⟨e1, e2, of_decide_eq_true g5⟩ ⟨hroom, hlocals⟩, hts _ hin, hts _ hsel⟩ ⟨aPc_blind K D ty X _ h, hrecv, aCx_at F hr hS _⟩ rfl (by simp; omega) hl.2.1 rfl (lv_room (aStk_map hstk)) hd hfit) hS fin
            · cases hs
          · cases hs
        · cases hs
      · cases hs
  · rw [Bool.and_eq_true] at hok
    obtain rfl : len = 3 := eq_of_beq hok.1
    have h2 := hok.2
    simp only at h2 hs
    by_cases h9 : 1000 ≤ a
    · exfalso
      rw [if_pos h9] at hs
      unfold a_prim at hs
      split at hs
      · unfold a_copy at hs
        (repeat' split at hs) <;> cases hs
      · unfold a_imax at hs
        (repeat' split at hs) <;> cases hs
      · unfold a_imin at hs
        (repeat' split at hs) <;> cases hs
      · unfold a_lmax at hs
        (repeat' split at hs) <;> cases hs
      · unfold a_lmin at hs
        (repeat' split at hs) <;> cases hs
      · cases hs
    · rw [if_neg h9] at h2 hs
      unfold a_callS at hs
      split at hs
      · rename_i hc
        obtain ⟨hbl, hstk⟩ := hc
        cases hs
        rw [hM'] at h2
        simp only [Bool.and_eq_true] at h2
        obtain ⟨⟨⟨g1, g4⟩, g5⟩, g7⟩ := h2
        obtain ⟨hpl, e1, e2, e3, hcode, hini, -⟩ := aMchk_of (aMK_all y' (aMs_of hM') (of_decide_eq_true g1))
        have hM := hmet hpl
        have hstt : Cond.static y'.1 ∈ aG := by
          split at g7
          · rename_i w hw
            have := of_decide_eq_true g7
            subst this
            exact aG_of (List.mem_of_getElem? hw) rfl
          · cases g7
        have hlocals : 8 + (y'.2.2.1 + 11) + (aRm d' h hf).locals ≤ R.locals := by rw [aRm_lo]; exact aLo e3 hlo
        intro ls H locs hl hr hS
        show W p l e R s m args below meth c H locs (h.length - n0) (aSl h - s0) Q (F0 m pc ls (st.map (aSh K)))
        rw [aStk_splitS b]
        have fin : ∀ (H1 : Heap) (locs1 : List Loc), aRel K D ty hf H1 → va_S (aBe K) s.heap H1 locs1 → W p l e R s m args below meth c H1 locs1 (h.length - n0 + (hf.length - h.length)) (aSl h - s0 + (aSl hf - aSl h)) Q (F0 m (pc + 3) ls ((v.map (aSh K)).toList ++ (st.drop b).map (aSh K))) := by
          intro H1 locs1 hr1 hS1
          rw [aV_list, hcell, hslot]
          exact kk ls H1 locs1 hl hr1 hS1
        have hwg : GoodIn aG (Cond.code y'.1 y'.2.1 y'.2.2.1 y'.2.2.2.1 :: aG) := aG_in (fun w hw => (List.mem_cons.mp hw).elim (fun e => by rw [e]; exact hcode) id)
        rcases aLkM_of g4 with hl1 | hl1
        · exact a_goon (va_runS (As := (st.take b).reverse.map (aSh K)) (rest := (st.drop b).map (aSh K)) ⟨hx, hb, hml, hownc, hts⟩ hM ⟨callB_of b hts hwg rfl rfl rfl (hts _ hini) (hts _ hl1) ⟨e1, e2, of_decide_eq_true g5⟩ ⟨hroom, hlocals⟩, hts _ hstt⟩ ⟨aPc_blind K D ty X _ h, aCx_at F hr hS _⟩ rfl (by simp; omega) hl.2.1 rfl (lv_room (aStk_map hstk)) hd hfit) hS fin
        · exact a_goon (va_runSN (As := (st.take b).reverse.map (aSh K)) (rest := (st.drop b).map (aSh K)) ⟨hx, hb, hml, hownc, hts⟩ hM ⟨va_cnB b hts hwg rfl rfl rfl (hcx.1 _ hl1) (hts _ hini) ⟨e1, e2, of_decide_eq_true g5⟩ ⟨hroom, hlocals⟩, hts _ hstt, trivial⟩ ⟨aPc_blind K D ty X _ h, aCx_at F hr hS _⟩ rfl (by simp; omega) hl.2.1 rfl (lv_room (aStk_map hstk)) hd hfit) hS fin
      · cases hs
end S15
