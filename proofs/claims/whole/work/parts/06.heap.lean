/-! the steps that read and write the heap -/
def aClsOK (ci : Nat) (C : String) (T : u_T) (N : Nat) : Prop := (∀ w ∈ u_ws C T N, w ∈ aG) ∧ N = clsN ci ∧ (∀ k, k < N → parseFieldDescriptor (T k).2.2.1 = some (clsTy ci k)) ∧ (∀ a, a < N → ∀ b, b < N → a ≠ b → (T a).2.1 ≠ (T b).2.1) ∧ (∀ k, k < N → (T k).1 = C) ∧ Cond.instantiable C N ∈ aG ∧ Cond.initialized C ∈ aG ∧ ∀ k, k < N → a_dv (clsTy ci k) = defaultValue (clsTy ci k)
theorem aG_of {w : Cond} (h : w ∈ lw_tbl) (hg : goodWord w = true) : w ∈ aG := List.mem_filter.mpr ⟨h, hg⟩
theorem aG_all {ws : List Cond} (h : ∀ w ∈ ws, w ∈ lw_tbl) (hg : ws.all goodWord = true) : ∀ w ∈ ws, w ∈ aG := fun w hw => aG_of (h w hw) (List.all_eq_true.mp hg w hw)
theorem aSl_app (h : aH) (x : aC) : aSl (h ++ [x]) = aSl h + aSl1 x := by
  simp [aSl, List.map_append, List.sum_append]
theorem aSl_set {h : aH} {k : Nat} {x y : aC} (hk : h[k]? = some x) (hxy : aSl1 y = aSl1 x) : aSl (h.set k y) = aSl h := by
  unfold aSl
  rw [List.map_set, hxy]
  congr 1
  apply List.ext_getElem?
  intro j
  rw [List.getElem?_set]
  by_cases hj : k = j
  · subst hj
    obtain ⟨hl, hg⟩ := List.getElem?_eq_some_iff.mp hk
    simp [hl, hg]
  · simp [hj]
theorem aSl_setA {h : aH} {k tag n : Nat} {f g : (Nat → Int32) ⊕ (Nat → Int64) ⊕ (Nat → UInt32) ⊕ (Nat → UInt64) ⊕ (Nat → Option Nat)} (hk : h[k]? = some (.inl (tag, n, f))) : aSl (h.set k (.inl (tag, n, g))) = aSl h := aSl_set (y := .inl (tag, n, g)) hk rfl
theorem aSl_setO {h : aH} {k ci : Nat} {fs gs : List Value} (hk : h[k]? = some (.inr (ci, fs))) : aSl (h.set k (.inr (ci, gs))) = aSl h := aSl_set (y := .inr (ci, gs)) hk rfl
theorem okV_ok (K : aK) {t : FieldType} {v : Value} (h : okV t v = true) : narrow t (aSh K v) = aSh K v ∧ fits t (aSh K v) = true := by
  unfold okV at h
  split at h
  · exact ⟨rfl, rfl⟩
  · rename_i x
    rcases (Bool.or_eq_true _ _).mp h with h1 | h1
    · rw [show x = 0 from eq_of_beq h1]
      exact ⟨rfl, rfl⟩
    · rw [show x = 1 from eq_of_beq h1]
      exact ⟨rfl, rfl⟩
  · exact ⟨rfl, rfl⟩
  · exact ⟨rfl, rfl⟩
  · exact ⟨rfl, rfl⟩
  · cases h
theorem aIn_of {i : Int32} {n : Nat} (h : aIn i n = true) : vp_in i n := by
  unfold aIn at h
  rw [Bool.and_eq_true] at h
  have h1 := of_decide_eq_true h.1
  have h2 := of_decide_eq_true h.2
  intro z
  rcases z with z | z
  · exact h1 z
  · omega
section S6
variable {p : Program} {l : Launch} {e : Env} {R : Room} {s : State} {m : MethodId} {args : Array Value} {below : List Frame} {meth : Method} {c : Code} {Q : State → Prop} {K : aK} {D : va_G} {ty : Nat → ClassId} {X : aX} {nL n0 s0 : Nat} {cc : ByteArray} {pc : Nat} {lv : aL} {st : List Value} {h : aH} {q : aF} {own C : String} {T : u_T} {N ci k i : Nat}
theorem s_get (hx : p.tables.exec = Jvm.exec) (hb : c.code = cc) (hts : ∀ w ∈ aG, w.before args s = true) (hown : s.vm.findClass own = some m.cls) (hcx : aCx K D ty X s s.heap) (hc : cls[ci]? = some (C, T, N)) (ok : aClsOK ci C T N) (hk : k < N)
    (hlink : Cond.fieldLink own i C (T k).2.1 (T k).2.2.1 ∈ aG ∨ ∃ host, Cond.fieldLinkNest own i C (T k).2.1 (T k).2.2.1 host ∈ aNest) (hd : decode cc pc = .ok (.getfield i, 3)) (hs : a_get pc lv st h ci k = some (.inl q)) (kk : aCo p l e R s m args below meth c Q K D ty nL n0 s0 q) : aCo p l e R s m args below meth c Q K D ty nL n0 s0 (pc, lv, st, h) := by
  intro ls H locs hl hr hS
  unfold a_get at hs
  split at hs
  · rename_i a t
    split at hs
    · rename_i cj fs hcell
      split at hs
      · rename_i hci
        subst hci
        split at hs
        · rename_i v hv
          cases hs
          have hv2 : (fs.map (aSh K))[k]? = some (aSh K v) := by simp [hv]
          have hsame : ∀ x, s.fieldFound? (T k).1 (T k).2.1 (T k).2.2.1 = some x → s.fieldFound? C (T k).2.1 (T k).2.2.1 = some x := fun x hx => by rw [← ok.2.2.2.2.1 k hk]; exact hx
          rcases hlink with hl1 | ⟨host, hl1⟩
          · exact va_get (a := K.1 + a) (ws := aWs K ty h) hx hb hts ok.1 hown hcx.2.1 hr.1 a (aWs_get hcell) hc k hk (hts _ hl1) hsame hv2 hd (kk ls H locs hl hr hS)
          · exact va_getN (a := K.1 + a) (ws := aWs K ty h) (host := host) hx hb hts ok.1 hown hcx.2.1 hr.1 a (aWs_get hcell) hc k hk (va_Nw.use rfl (hcx.1 _ hl1)) hsame hv2 hd (kk ls H locs hl hr hS)
        · cases hs
      · cases hs
    · cases hs
  · cases hs
theorem s_put (hx : p.tables.exec = Jvm.exec) (hb : c.code = cc) (hts : ∀ w ∈ aG, w.before args s = true) (hown : s.vm.findClass own = some m.cls) (hcx : aCx K D ty X s s.heap) (hc : cls[ci]? = some (C, T, N)) (ok : aClsOK ci C T N) (hk : k < N)
    (hlink : ((T k).2.2.2 = false ∧ Cond.fieldLink own i C (T k).2.1 (T k).2.2.1 ∈ aG) ∨ ((T k).2.2.2 = false ∧ ∃ host, Cond.fieldLinkNest own i C (T k).2.1 (T k).2.2.1 host ∈ aNest) ∨ ((T k).2.2.2 = true ∧ meth.name = "<init>" ∧ C = own ∧ Cond.fieldLink own i C (T k).2.1 (T k).2.2.1 ∈ aG))
    (hd : decode cc pc = .ok (.putfield i, 3)) (hs : a_put pc lv st h ci k = some (.inl q)) (kk : aCo p l e R s m args below meth c Q K D ty nL n0 s0 q) : aCo p l e R s m args below meth c Q K D ty nL n0 s0 (pc, lv, st, h) := by
  intro ls H locs hl hr hS
  unfold a_put at hs
  split at hs
  · rename_i v a t
    split at hs
    · rename_i cj fs hcell
      split at hs
      · rename_i hci
        obtain ⟨rfl, hkl, hok⟩ := hci
        cases hs
        obtain ⟨hn, hfit⟩ := okV_ok K hok
        obtain ⟨r, h1, cell, q1, q2, q3, q4⟩ := hr.at hcell
        have hre : r = (C, T, N) := Option.some.inj (h1.symm.trans hc)
        subst hre
        have hap := va_apart (own := own) hts ok.1 (clsTy cj) ok.2.2.1 ok.2.2.2.1 hcx.2.1 hc
        obtain ⟨hSl, hfc, kC, hkC, hkind⟩ := hcx.2.1.1 cj _ hc
        obtain ⟨cf, kf, fi, f, hi, hsl⟩ := hSl k hk
        have hlay := hts _ (ok.1 _ (u_in_lay hk))
        have hst := (u_facts hfc hkC (u_lays hts ok.1 hk) hi).1
        have hsame : ∀ x, s.fieldFound? (T k).1 (T k).2.1 (T k).2.2.1 = some x → s.fieldFound? C (T k).2.1 (T k).2.2.1 = some x := fun x hx => by rw [← ok.2.2.2.2.1 k hk]; exact hx
        have fin : ∀ H' : Heap, H'[K.1 + a]? = some (cell.setSlot f.slot (aSh K v)) → H'.size = H.size → (∀ q, q ≠ K.1 + a → H'[q]? = H[q]?) → W p l e R s m args below meth c H' (locs ++ [⟨K.1 + a, f.slot⟩]) (h.length - n0) (aSl h - s0) Q (F0 m (pc + 3) ls (t.map (aSh K))) := by
          intro H' e1 e2 e3
          rw [hsl] at e1 ⊢
          have hrel : aRel K D ty (h.set a (.inr (cj, fs.set k v))) H' := by
            refine hr.set hcell ⟨_, hc, ?_⟩ e2 e3
            refine t_OB.to (V := updV (vp_V (fs.map (aSh K))) k (aSh K v)) ⟨_, e1, q2, q3, t_set q4 hap hk _⟩ (fun j _ => ?_)
            rw [List.map_set]
            exact vp_updV_set (by rw [List.length_map]; exact hkl) _ j
          have k1 := kk ls H' (locs ++ [⟨K.1 + a, D.2 cj k⟩]) hl hrel (hS.put e2 e3 (Nat.le_add_right _ _))
          simp only [List.length_set] at k1
          rw [aSl_setO hcell] at k1
          exact k1
        rcases hlink with ⟨hfin, hl1⟩ | ⟨hfin, host, hl1⟩ | ⟨hfin, hin2, hdecl, hl1⟩
        · unfold u_lay at hlay
          rw [if_neg (by rw [hfin]; decide)] at hlay
          have h6 := u_store hfc hkC hkind hlay hi (ok.2.2.1 k hk) hn hfit
          exact W.putK hx hb (f := f) ⟨hown, hts _ hl1, ⟨_, _, _, hsame _ hi⟩, hst⟩ (by rw [q2]; exact h6) q1 q3 (by rw [hsl]; exact k2_hasslot (q4 k hk)) rfl rfl hd fin
        · unfold u_lay at hlay
          rw [if_neg (by rw [hfin]; decide)] at hlay
          have h6 := u_store hfc hkC hkind hlay hi (ok.2.2.1 k hk) hn hfit
          exact va_WputK hx hb (f := f) hown (va_Nw.use rfl (hcx.1 _ hl1)) (hsame _ hi) hst (by rw [q2]; exact h6) q1 q3 (by rw [hsl]; exact k2_hasslot (q4 k hk)) rfl rfl hd fin
        · unfold u_lay at hlay
          rw [if_pos hfin] at hlay
          have hcf : m.cls = cf := by
            obtain ⟨_, _, c', _, _, _, -, -, hf', -, -, -, hown2, -⟩ := Cond.laysFinal_spec hlay
            have e1 : c' = cf := by have := hi.symm.trans hf'; simp at this; exact this.1.symm
            rw [ok.2.2.2.2.1 k hk, hdecl] at hown2
            rw [← e1]; exact Option.some.inj (hown.symm.trans hown2)
          have h6 := u_fits hfc hkC hkind (Or.inr hlay) hi (ok.2.2.1 k hk) hn hfit
          exact W.putFinK hx hb hown (hts _ hl1) (hsame _ hi) hst hcf hin2 (by rw [q2]; exact h6) q1 q3 (by rw [hsl]; exact k2_hasslot (q4 k hk)) rfl rfl hd fin
      · cases hs
    · cases hs
  · cases hs
theorem aSh_dv (K : aK) {t : FieldType} (ht : a_dv t = defaultValue t) : aSh K (a_dv t) = defaultValue t := by
  rw [← ht]
  unfold a_dv
  split <;> rfl
theorem s_new (hx : p.tables.exec = Jvm.exec) (hb : c.code = cc) (hts : ∀ w ∈ aG, w.before args s = true) (hown : s.vm.findClass own = some m.cls) (hcx : aCx K D ty X s s.heap) (hc : cls[ci]? = some (C, T, N)) (ok : aClsOK ci C T N) (hlink : Cond.classLink own i C ∈ aG)
    (hd : decode cc pc = .ok (.new i, 3)) (hn0 : n0 ≤ h.length) (hs0 : s0 ≤ aSl h) (hs : a_new pc lv st h ci = some (.inl q)) (hrm : q.2.2.2.length - n0 ≤ R.cells ∧ aSl q.2.2.2 - s0 ≤ R.slots) (kk : aCo p l e R s m args below meth c Q K D ty nL n0 s0 q) : aCo p l e R s m args below meth c Q K D ty nL n0 s0 (pc, lv, st, h) := by
  intro ls H locs hl hr hS
  cases hs
  have e1 : (h ++ [(.inr (ci, (List.range (clsN ci)).map (fun k => a_dv (clsTy ci k))) : aC)]).length - n0 = h.length - n0 + 1 := by
    rw [List.length_append]; simp only [List.length_cons, List.length_nil]; omega
  have e2 : aSl (h ++ [(.inr (ci, (List.range (clsN ci)).map (fun k => a_dv (clsTy ci k))) : aC)]) - s0 = aSl h - s0 + N := by
    rw [aSl_app]
    show aSl h + clsN ci - s0 = _
    rw [← ok.2.1]; omega
  simp only [e1, e2] at hrm
  have hKn := hcx.2.1.1 ci _ hc
  refine W.newcK (g := F0 m pc ls (st.map (aSh K))) hx hb hown (hts _ hlink) (hts _ ok.2.2.2.2.2.1) (hts _ ok.2.2.2.2.2.2.1) rfl hd hrm.1 hrm.2 hKn.2.1 rfl fun H1 kC hkC b1 z1 o1 => ?_
  have hrel : aRel K D ty (h ++ [.inr (ci, (List.range (clsN ci)).map (fun k => a_dv (clsTy ci k)))]) H1 := by
    refine hr.push ⟨_, hc, (u_born (clsTy ci) hts ok.1 hKn hkC b1 ok.2.2.1).to (fun j hj => ?_)⟩ z1 o1
    have hj2 : j < N := hj
    rw [ok.2.1] at hj2
    simp only [vp_V, List.getD_eq_getElem?_getD, List.getElem?_map, List.getElem?_range hj2, Option.map_some, Option.getD_some]
    exact (aSh_dv K (ok.2.2.2.2.2.2.2 j hj)).symm
  have k1 := kk ls H1 locs hl hrel ⟨Nat.le_trans hS.1 (by omega), fun x h1 h2 => (o1 x (Nat.lt_of_lt_of_le h1 hS.1)).trans (hS.2.1 x h1 h2), hS.2.2⟩
  simp only [e1, e2] at k1
  have k2 : W p l e R s m args below meth c H1 locs (h.length - n0 + 1) (aSl h - s0 + N) Q (F0 m (pc + 3) ls (.ref (K.1 + h.length) :: st.map (aSh K))) := k1
  rw [← hr.2] at k2
  exact k2
theorem s_iald (hx : p.tables.exec = Jvm.exec) (hb : c.code = cc) (hcx : aCx K D ty X s s.heap) (hd : decode cc pc = .ok (.iaload, 1)) (hs : a_iald pc lv st h X = some (.inl q)) (kk : aCo p l e R s m args below meth c Q K D ty nL n0 s0 q) : aCo p l e R s m args below meth c Q K D ty nL n0 s0 (pc, lv, st, h) := by
  intro ls H locs hl hr hS
  unfold a_iald at hs
  split at hs
  · rename_i i a t
    split at hs
    · rename_i tag n f hcell
      split at hs
      · rename_i hc
        obtain ⟨rfl, hin⟩ := hc
        cases hs
        exact va_iald (a := K.1 + a) (ws := aWs K ty h) hx hb hcx.2.1 hr.1 a 0 (aWs_get hcell) rfl (aIn_of hin) hd (kk ls H locs hl hr hS)
      · cases hs
    · cases hs
  · rename_i i u t
    split at hs
    · rename_i hc
      obtain ⟨rfl, hin⟩ := hc
      cases hs
      have hbA : ¬ aBe K K.2.2 := by have := hcx.2.2.2.1; unfold aBe; omega
      exact va_sld (b := K.2.2) (L := X.1) (xs := X.2) hx hb hcx.2.2.1 (Nat.lt_of_lt_of_le hcx.2.2.2.1 hcx.2.2.2.2.1) hbA hS (aIn_of hin) hd (kk ls H locs hl hr hS)
    · cases hs
  · cases hs
theorem s_bald (hx : p.tables.exec = Jvm.exec) (hb : c.code = cc) (hcx : aCx K D ty X s s.heap) (hd : decode cc pc = .ok (.baload, 1)) (hs : a_bald pc lv st h = some (.inl q)) (kk : aCo p l e R s m args below meth c Q K D ty nL n0 s0 q) : aCo p l e R s m args below meth c Q K D ty nL n0 s0 (pc, lv, st, h) := by
  intro ls H locs hl hr hS
  unfold a_bald at hs
  split at hs
  · rename_i i a t
    split at hs
    · rename_i tag n f hcell
      split at hs
      · rename_i hc
        obtain ⟨ht, hin⟩ := hc
        cases hs
        rcases ht with rfl | rfl
        · exact va_bald (a := K.1 + a) (ws := aWs K ty h) hx hb hcx.2.1 hr.1 a 1 (aWs_get hcell) rfl (aIn_of hin) hd (kk ls H locs hl hr hS)
        · exact va_zald (a := K.1 + a) (ws := aWs K ty h) hx hb hcx.2.1 hr.1 a 2 (aWs_get hcell) rfl (aIn_of hin) hd (kk ls H locs hl hr hS)
      · cases hs
    · cases hs
  · cases hs
theorem s_lald (hx : p.tables.exec = Jvm.exec) (hb : c.code = cc) (hcx : aCx K D ty X s s.heap) (hd : decode cc pc = .ok (.laload, 1)) (hs : a_lald pc lv st h = some (.inl q)) (kk : aCo p l e R s m args below meth c Q K D ty nL n0 s0 q) : aCo p l e R s m args below meth c Q K D ty nL n0 s0 (pc, lv, st, h) := by
  intro ls H locs hl hr hS
  unfold a_lald at hs
  split at hs
  · rename_i i a t
    split at hs
    · rename_i tag n f hcell
      split at hs
      · rename_i hc
        obtain ⟨rfl, hin⟩ := hc
        cases hs
        exact va_lald (a := K.1 + a) (ws := aWs K ty h) hx hb hcx.2.1 hr.1 a 3 (aWs_get hcell) rfl (aIn_of hin) hd (kk ls H locs hl hr hS)
      · cases hs
    · cases hs
  · cases hs
theorem aTag {tag : Nat} (h4 : 4 ≤ tag) (h6 : tag ≤ 6) : ∃ (r : vw_C), cls[a_tagC tag]? = some r ∧ (aTys ty)[tag]? = some (ty tag, .object r.1) := by
  rcases (show tag = 4 ∨ tag = 5 ∨ tag = 6 by omega) with rfl | rfl | rfl
  · exact ⟨_, rfl, rfl⟩
  · exact ⟨_, rfl, rfl⟩
  · exact ⟨_, rfl, rfl⟩
theorem s_aald (hx : p.tables.exec = Jvm.exec) (hb : c.code = cc) (hcx : aCx K D ty X s s.heap) (hd : decode cc pc = .ok (.aaload, 1)) (hs : a_aald pc lv st h = some (.inl q)) (kk : aCo p l e R s m args below meth c Q K D ty nL n0 s0 q) : aCo p l e R s m args below meth c Q K D ty nL n0 s0 (pc, lv, st, h) := by
  intro ls H locs hl hr hS
  unfold a_aald at hs
  split at hs
  · rename_i i a t
    split at hs
    · rename_i tag n f hcell
      split at hs
      · rename_i hc
        obtain ⟨h4, h6, hin⟩ := hc
        split at hs
        · rename_i y hy
          cases hs
          obtain ⟨r, -, ht⟩ := aTag (ty := ty) h4 h6
          have k1 := kk ls H locs hl hr hS
          refine va_aldq (a := K.1 + a) (ws := aWs K ty h) (C := r.1) (f := fun j => (f j).map (fun q => K.1 + q)) hx hb hcx.2.1 hr.1 a tag (aWs_get hcell) ht (aIn_of hin) hd ?_
          simp only [hy, Option.map_some]
          exact k1
        · cases hs
      · cases hs
    · cases hs
  · cases hs
theorem s_alen (hx : p.tables.exec = Jvm.exec) (hb : c.code = cc) (hcx : aCx K D ty X s s.heap) (hd : decode cc pc = .ok (.arraylength, 1)) (hs : a_alen pc lv st h X = some (.inl q)) (kk : aCo p l e R s m args below meth c Q K D ty nL n0 s0 q) : aCo p l e R s m args below meth c Q K D ty nL n0 s0 (pc, lv, st, h) := by
  intro ls H locs hl hr hS
  unfold a_alen at hs
  split at hs
  · rename_i a t
    split at hs
    · rename_i tag x hcell
      split at hs
      · rename_i ht
        cases hs
        have hty : ∃ ft, (aTys ty)[tag]? = some (ty tag, ft) := by
          rcases (show tag = 0 ∨ tag = 1 ∨ tag = 2 ∨ tag = 3 ∨ tag = 4 ∨ tag = 5 ∨ tag = 6 by omega) with rfl | rfl | rfl | rfl | rfl | rfl | rfl <;> exact ⟨_, rfl⟩
        obtain ⟨ft, hft⟩ := hty
        have hlen : (aShA K x).1 = x.1 := by
          obtain ⟨n, f | f | f | f | f⟩ := x <;> rfl
        exact va_alen (a := K.1 + a) (ws := aWs K ty h) hx hb hcx.2.1 hr.1 a tag (aWs_get hcell) hft (by rw [hlen]) hd (kk ls H locs hl hr hS)
      · cases hs
    · cases hs
  · rename_i u t
    split at hs
    · rename_i hu
      subst hu
      cases hs
      have hbA : ¬ aBe K K.2.2 := by have := hcx.2.2.2.1; unfold aBe; omega
      exact va_slen (b := K.2.2) (L := X.1) (xs := X.2) hx hb hcx.2.2.1 (Nat.lt_of_lt_of_le hcx.2.2.2.1 hcx.2.2.2.2.1) hbA hS hd (kk ls H locs hl hr hS)
    · cases hs
  · cases hs
end S6
