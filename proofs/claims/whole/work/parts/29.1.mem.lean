def nS (m : cM) : cM := (fun a => if 406 + 13 * m.2.2.2 ≤ a then (fun _ => 0) else m.1 a, m.2.1, m.2.2.1, m.2.2.2 + 1)
theorem sF_app {h tl : aH} {ci k : Nat} {fs : List Value} {v : Value} (hk : k < fs.length) (hok : okV (clsTy ci k) v = true) : sF (h ++ (.inr (ci, fs)) :: tl) h.length ci k v = some (h ++ (.inr (ci, fs.set k v)) :: tl) := by
  unfold sF
  have e : (h ++ (Sum.inr (ci, fs) : aC) :: tl)[h.length]? = some (.inr (ci, fs)) := by simp
  rw [e]
  simp only [hk, hok, true_and, and_self, if_true]
  congr 1
  simp
theorem sF_app' {h tl : aH} {ci k n : Nat} {fs : List Value} {v : Value} (hn : n = h.length) (hk : k < fs.length) (hok : okV (clsTy ci k) v = true) : sF (h ++ (.inr (ci, fs)) :: tl) n ci k v = some (h ++ (.inr (ci, fs.set k v)) :: tl) := by
  subst hn
  exact sF_app hk hok
theorem nA_app {h tl : aH} {o : aC} {n : Nat} : nA (h ++ o :: tl) 0 n = h ++ o :: (tl ++ [.inl (0, n, .inl (fun _ => 0))]) := by
  show (h ++ o :: tl) ++ [_] = _
  rw [List.append_assoc]
  rfl
abbrev z_arr (n : Nat) : aC := .inl (0, n, .inl (fun _ => 0))
set_option maxHeartbeats 1000000 in
theorem d_54_new {g : Nat} (h : aH) : d_54 g h.length (nO h 5) = some (h ++ (.inr (5, cFl (fun _ => 0) 0 h.length 5)) :: [z_arr 8, z_arr 8, z_arr 8, z_arr 6, z_arr 6, z_arr 4, z_arr 4, z_arr 4, z_arr 5, z_arr 5, z_arr 5, z_arr 5]) := by
  unfold d_54
  have e0 : nO h 5 = h ++ (.inr (5, (List.range (clsN 5)).map (fun k => a_dv (clsTy 5 k)))) :: [] := rfl
  rw [e0, nA_app, sF_app (Nat.le_of_ble_eq_true rfl) rfl, Option.bind_some, nA_app, sF_app (Nat.le_of_ble_eq_true rfl) rfl, Option.bind_some, nA_app, sF_app (Nat.le_of_ble_eq_true rfl) rfl, Option.bind_some, nA_app, sF_app (Nat.le_of_ble_eq_true rfl) rfl, Option.bind_some, nA_app, sF_app (Nat.le_of_ble_eq_true rfl) rfl, Option.bind_some, nA_app, sF_app (Nat.le_of_ble_eq_true rfl) rfl, Option.bind_some, nA_app, sF_app (Nat.le_of_ble_eq_true rfl) rfl, Option.bind_some, nA_app, sF_app (Nat.le_of_ble_eq_true rfl) rfl, Option.bind_some, nA_app, sF_app (Nat.le_of_ble_eq_true rfl) rfl, Option.bind_some, nA_app, sF_app (Nat.le_of_ble_eq_true rfl) rfl, Option.bind_some, nA_app, sF_app (Nat.le_of_ble_eq_true rfl) rfl, Option.bind_some, nA_app, sF_app (Nat.le_of_ble_eq_true rfl) rfl, Option.bind_some]
  simp only [List.length_append, List.length_cons, List.length_nil, Nat.zero_add, Nat.add_zero, Nat.reduceAdd, List.cons_append, List.nil_append]
  rfl
theorem kd_new {j i : Nat} (hi : i < 13) : kd (406 + 13 * j + i) = kdS.getD i (99, 0) := by
  rw [kd_lo (by omega), show (406 + 13 * j + i - 406) = i + 13 * j by omega, Nat.add_mul_mod_self_left, Nat.mod_eq_of_lt hi]
theorem nS_at {m : cM} {a : Nat} (h : 406 + 13 * m.2.2.2 ≤ a) : (nS m).1 a = fun _ => 0 := by
  show (if _ then _ else _) = _
  rw [if_pos h]
theorem nS_lo {m : cM} {a : Nat} (h : a < 406 + 13 * m.2.2.2) : (nS m).1 a = m.1 a := by
  show (if _ then _ else _) = _
  rw [if_neg (by omega)]
theorem hr_new {m : cM} {S : rS} : hr (nS m) S = hr m S ++ (.inr (5, cFl (fun _ => 0) 0 (406 + 13 * m.2.2.2) 5)) :: [z_arr 8, z_arr 8, z_arr 8, z_arr 6, z_arr 6, z_arr 4, z_arr 4, z_arr 4, z_arr 5, z_arr 5, z_arr 5, z_arr 5] := by
  unfold hr
  show (List.range (406 + 13 * (m.2.2.2 + 1))).map _ = _
  rw [Nat.mul_add, ← Nat.add_assoc, List.range_add, List.map_append]
  congr 1
  · apply List.map_congr_left
    intro a ha
    rw [List.mem_range] at ha
    exact cC_congr (nS_lo ha) rfl rfl
  · rw [List.map_map]
    have k : ∀ i, i < 13 → (cC (nS m) S ∘ fun x => 406 + 13 * m.2.2.2 + x) i = cK (fun _ _ => 0, m.2) (406 + 13 * m.2.2.2 + i) (kdS.getD i (99, 0)) := by
      intro i hi
      show cC (nS m) S (406 + 13 * m.2.2.2 + i) = _
      unfold cC
      rw [if_neg (by omega), kd_new hi]
      unfold cK
      rw [nS_at (by omega)]
      rfl
    have r : List.range 13 = [0, 1, 2, 3, 4, 5, 6, 7, 8, 9, 10, 11, 12] := by decide
    rw [show 13 * 1 = 13 from rfl, r]
    simp only [List.map_cons, List.map_nil]
    rw [k 0 (by decide), k 1 (by decide), k 2 (by decide), k 3 (by decide), k 4 (by decide), k 5 (by decide), k 6 (by decide), k 7 (by decide), k 8 (by decide), k 9 (by decide), k 10 (by decide), k 11 (by decide), k 12 (by decide)]
    rfl
theorem n_104_0 : aIns 104 0 = some (.new 80, 3, 5, 0, .null) := by decide +kernel
theorem n_104_3 : aIns 104 3 = some (.dup, 1, 0, 0, .null) := by decide +kernel
theorem n_104_4 : aIns 104 4 = some (.invokespecial 82, 3, 54, 0, .int 5) := by decide +kernel
theorem hm_shop {X : aX} {e g : Nat} {lv : aL} {m : cM} {S : rS} {Q : Option Value → aH → Prop} (he : 0 ≤ e) (kk : aWp X (e + 1) 104 7 lv [.ref (406 + 13 * m.2.2.2)] (hr (nS m) S) Q) : aWp X (e + 1) 104 0 lv [] (hr m S) Q := by
  refine wp_s 3 lv [.ref (hr m S).length] (nO (hr m S) 5) n_104_0 rfl ?_
  refine wp_s 4 lv [.ref (hr m S).length, .ref (hr m S).length] (nO (hr m S) 5) n_104_3 rfl ?_
  have ho : (nO (hr m S) 5)[(hr m S).length]? = some (.inr (5, (List.range (clsN 5)).map (fun k => a_dv (clsTy 5 k)))) := by
    show (hr m S ++ [_])[(hr m S).length]? = _
    simp
  refine wp_callI 7 rfl n_104_4 (by decide) rfl (vs := []) (rest := [.ref (hr m S).length]) rfl rfl rfl ho (y := m_54) rfl (Nat.le_of_ble_eq_true rfl) (d_54_ok (g := g) (d := e) (by omega) (d_54_new (hr m S))) ?_
  rintro v h' ⟨rfl, rfl⟩
  rw [hr_len, ← hr_new]
  exact kk
