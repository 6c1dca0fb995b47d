/-! THE TWO OBJECTS AT THE START: what their constructors leave on the heap -/
theorem isO_nO (h : aH) (c : Nat) : isO (nO h c) h.length c = true := by
  unfold isO
  rw [show (nO h c)[h.length]? = some (.inr (c, (List.range (clsN c)).map (fun k => a_dv (clsTy c k)))) from by simp]
  exact beq_self_eq_true c
theorem nA_apt {h tl : aH} {o : aC} {t n : Nat} : nA (h ++ o :: tl) t n = h ++ o :: (tl ++ [.inl (t, n, if t = 3 then .inr (.inl (fun _ => 0)) else .inl (fun _ => 0))]) := by
  show (h ++ o :: tl) ++ [_] = _
  rw [List.append_assoc]
  rfl
theorem nQ_apt {h tl : aH} {o : aC} {t n : Nat} : nQ (h ++ o :: tl) t n = h ++ o :: (tl ++ [.inl (t, n, .inr (.inr (.inr (.inr (fun _ => none)))))]) := by
  show (h ++ o :: tl) ++ [_] = _
  rw [List.append_assoc]
  rfl
abbrev z_lon (n : Nat) : aC := .inl (3, n, .inr (.inl (fun _ => 0)))
abbrev z_byt (n : Nat) : aC := .inl (1, n, .inl (fun _ => 0))
abbrev z_boo (n : Nat) : aC := .inl (2, n, .inl (fun _ => 0))
/-- the cells of a state, of a shop, of a rule, of a world, at a -/
def stC (a : Nat) : aH := [.inr (7, cFl (fun _ => 0) 0 a 7), z_arr 8, z_arr 8, z_arr 8, z_arr 8, z_arr 8, z_arr 8, z_arr 5, z_arr 5]
def shC (a : Nat) : aH := (.inr (5, cFl (fun _ => 0) 0 a 5)) :: [z_arr 8, z_arr 8, z_arr 8, z_arr 6, z_arr 6, z_arr 4, z_arr 4, z_arr 4, z_arr 5, z_arr 5, z_arr 5, z_arr 5]
def rlC (a : Nat) : aH := [.inr (3, cFl (fun _ => 0) 0 a 3), z_arr 400, z_arr 12, z_arr 12, z_arr 12, z_lon 62]
def woC (a : Nat) : aH := (.inr (10, [.ref (a + 1), .ref (a + 14), .int (-1), .int 0, .ref (a + 23), .ref (a + 24), .ref (a + 25), .ref (a + 26), .int 0])) :: (shC (a + 1) ++ (stC (a + 14) ++ [z_arr 10, z_arr 10, z_arr 10, z_arr 10]))
theorem d_54_nw {g : Nat} (h : aH) : d_54 g h.length (nO h 5) = some (h ++ shC h.length) := d_54_new h
set_option maxHeartbeats 1000000 in
theorem d_70_nw {g : Nat} (h : aH) : d_70 g h.length (nO h 7) = some (h ++ stC h.length) := by
  unfold d_70
  have e0 : nO h 7 = h ++ (.inr (7, (List.range (clsN 7)).map (fun k => a_dv (clsTy 7 k)))) :: [] := rfl
  rw [e0]
  iterate 8 rw [nA_app, sF_app (Nat.le_of_ble_eq_true rfl) rfl, Option.bind_some]
  simp only [List.length_append, List.length_cons, List.length_nil, Nat.zero_add, Nat.add_zero, Nat.reduceAdd, List.cons_append, List.nil_append]
  rfl
set_option maxHeartbeats 1000000 in
theorem d_40_nw {g : Nat} (h : aH) : d_40 g h.length (nO h 3) = some (h ++ rlC h.length) := by
  unfold d_40
  have e0 : nO h 3 = h ++ (.inr (3, (List.range (clsN 3)).map (fun k => a_dv (clsTy 3 k)))) :: [] := rfl
  rw [e0]
  iterate 5 rw [nA_apt, sF_app (Nat.le_of_ble_eq_true rfl) rfl, Option.bind_some]
  simp only [List.length_append, List.length_cons, List.length_nil, Nat.zero_add, Nat.add_zero, Nat.reduceAdd, List.cons_append, List.nil_append]
  rfl
theorem d_0_nw {g : Nat} (h : aH) : d_0 g h.length (nO h 0) = some (h ++ [.inr (0, [.int 0, .int 0, .int 0, .ref (h.length + 1)]), z_arr 8]) := by
  unfold d_0
  have e0 : nO h 0 = h ++ (.inr (0, (List.range (clsN 0)).map (fun k => a_dv (clsTy 0 k)))) :: [] := rfl
  rw [e0, nA_apt, sF_app (Nat.le_of_ble_eq_true rfl) rfl, Option.bind_some]
  simp only [List.length_append, List.length_cons, List.length_nil, Nat.zero_add, Nat.add_zero, Nat.reduceAdd, List.cons_append, List.nil_append]
  rfl
theorem d_80_nw {g : Nat} (h : aH) : d_80 g h.length (nO h 8) = some (h ++ [.inr (8, [.ref (h.length + 1), .int 0, .int 0, .int 0, .int 0, .int 0, .int 0]), z_byt 400]) := by
  unfold d_80
  have e0 : nO h 8 = h ++ (.inr (8, (List.range (clsN 8)).map (fun k => a_dv (clsTy 8 k)))) :: [] := rfl
  rw [e0, nA_apt, sF_app (Nat.le_of_ble_eq_true rfl) rfl, Option.bind_some]
  simp only [List.length_append, List.length_cons, List.length_nil, Nat.zero_add, Nat.add_zero, Nat.reduceAdd, List.cons_append, List.nil_append]
  rfl
theorem d_59_nw {g a : Nat} (h : aH) : d_59 g h.length a (nO h 6) = some (h ++ [.inr (6, [.ref a, .null, .int 0])]) := by
  unfold d_59
  have e0 : nO h 6 = h ++ (.inr (6, (List.range (clsN 6)).map (fun k => a_dv (clsTy 6 k)))) :: [] := rfl
  rw [e0, sF_app (Nat.le_of_ble_eq_true rfl) rfl, Option.bind_some]
  rfl
theorem d_44_nw {g a : Nat} (h : aH) : d_44 g h.length a (nO h 4) = some (h ++ [.inr (4, [.ref a, .null, .int 0])]) := by
  unfold d_44
  have e0 : nO h 4 = h ++ (.inr (4, (List.range (clsN 4)).map (fun k => a_dv (clsTy 4 k)))) :: [] := rfl
  rw [e0, sF_app (Nat.le_of_ble_eq_true rfl) rfl, Option.bind_some]
  rfl
theorem ap_ap {h tl T : aH} {o : aC} : (h ++ o :: tl) ++ T = h ++ o :: (tl ++ T) := by rw [List.append_assoc]; rfl
set_option maxHeartbeats 1000000 in
theorem d_97_nw {g : Nat} (h : aH) : d_97 g h.length (nO h 10) = some (h ++ woC h.length) := by
  unfold d_97
  have e0 : nO h 10 = h ++ (.inr (10, (List.range (clsN 10)).map (fun k => a_dv (clsTy 10 k)))) :: [] := rfl
  rw [e0, if_pos (isO_nO _ _), d_54_nw, Option.bind_some, ap_ap, sF_app (Nat.le_of_ble_eq_true rfl) rfl, Option.bind_some, if_pos (isO_nO _ _), d_70_nw, Option.bind_some, ap_ap, sF_app (Nat.le_of_ble_eq_true rfl) rfl, Option.bind_some, sF_app (Nat.le_of_ble_eq_true rfl) rfl, Option.bind_some]
  iterate 4 rw [nA_apt, sF_app (Nat.le_of_ble_eq_true rfl) rfl, Option.bind_some]
  simp only [shC, stC, List.length_append, List.length_cons, List.length_nil, Nat.zero_add, Nat.add_zero, Nat.reduceAdd, List.cons_append, List.nil_append]
  rfl
set_option maxHeartbeats 1000000 in
theorem d_11_nw {g a b : Nat} (h : aH) : d_11 g h.length a b (nO h 2) = some (h ++ (.inr (2, [.ref a, .ref b, .ref (h.length + 1), .ref (h.length + 3), .ref (h.length + 4), .ref (h.length + 5), .ref (h.length + 6), .ref (h.length + 7), .ref (h.length + 8), .ref (h.length + 9), .ref (h.length + 10), .int 0, .int 0, .int 0, .int 0, .int 0, .int 0, .int 0, .int 0, .int 0])) :: [.inr (0, [.int 0, .int 0, .int 0, .ref (h.length + 2)]), z_arr 8, z_arr 8, z_arr 8, z_arr 6, z_arr 30, z_arr 8, z_arr 7, z_arr 7] ++ stC (h.length + 10)) := by
  unfold d_11
  have e0 : nO h 2 = h ++ (.inr (2, (List.range (clsN 2)).map (fun k => a_dv (clsTy 2 k)))) :: [] := rfl
  rw [e0, if_pos (isO_nO _ _), d_0_nw, Option.bind_some, ap_ap, sF_app (Nat.le_of_ble_eq_true rfl) rfl, Option.bind_some]
  iterate 7 rw [nA_apt, sF_app (Nat.le_of_ble_eq_true rfl) rfl, Option.bind_some]
  rw [if_pos (isO_nO _ _), d_70_nw, Option.bind_some, ap_ap, sF_app (Nat.le_of_ble_eq_true rfl) rfl, Option.bind_some, sF_app (Nat.le_of_ble_eq_true rfl) rfl, Option.bind_some, sF_app (Nat.le_of_ble_eq_true rfl) rfl, Option.bind_some]
  simp only [stC, List.length_append, List.length_cons, List.length_nil, Nat.zero_add, Nat.add_zero, Nat.reduceAdd, List.cons_append, List.nil_append, List.append_assoc]
  rfl
