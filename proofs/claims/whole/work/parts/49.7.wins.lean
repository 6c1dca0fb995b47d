theorem zq_T : ∀ q ∈ kdT, zq q ≤ 2400 := by decide +kernel
theorem zq_S : ∀ q ∈ kdS, zq q ≤ 20 := by decide +kernel
theorem getD_P {l : List (Nat × Nat)} {n : Nat} (h : ∀ q ∈ l, zq q ≤ n) (a : Nat) : zq (l.getD a (99, 0)) ≤ n := by
  rw [List.getD_eq_getElem?_getD]
  cases e : l[a]? with
  | none => exact Nat.zero_le _
  | some q => exact h q (List.mem_of_getElem? e)
theorem rCe_le (S : rS) : ∀ j, j < 24 → aSl1 (rCe S j) ≤ 2400 := by
  intro j hj
  match j, hj with
  | 0, _ => exact Nat.le_of_ble_eq_true rfl
  | 1, _ => exact Nat.le_of_ble_eq_true rfl
  | 2, _ => exact Nat.le_of_ble_eq_true rfl
  | 3, _ => exact Nat.le_of_ble_eq_true rfl
  | 4, _ => exact Nat.le_of_ble_eq_true rfl
  | 5, _ => exact Nat.le_of_ble_eq_true rfl
  | 6, _ => exact Nat.le_of_ble_eq_true rfl
  | 7, _ => exact Nat.le_of_ble_eq_true rfl
  | 8, _ => exact Nat.le_of_ble_eq_true rfl
  | 9, _ => exact Nat.le_of_ble_eq_true rfl
  | 10, _ => exact Nat.le_of_ble_eq_true rfl
  | 11, _ => exact Nat.le_of_ble_eq_true rfl
  | 12, _ => exact Nat.le_of_ble_eq_true rfl
  | 13, _ => exact Nat.le_of_ble_eq_true rfl
  | 14, _ => exact Nat.le_of_ble_eq_true rfl
  | 15, _ => exact Nat.le_of_ble_eq_true rfl
  | 16, _ => exact Nat.le_of_ble_eq_true rfl
  | 17, _ => exact Nat.le_of_ble_eq_true rfl
  | 18, _ => exact Nat.le_of_ble_eq_true rfl
  | 19, _ => exact Nat.le_of_ble_eq_true rfl
  | 20, _ => exact Nat.le_of_ble_eq_true rfl
  | 21, _ => exact Nat.le_of_ble_eq_true rfl
  | 22, _ => exact Nat.le_of_ble_eq_true rfl
  | 23, _ => exact Nat.le_of_ble_eq_true rfl
  | n + 24, hj => exact absurd hj (by omega)
theorem cC_lo (m : cM) (S : rS) (a : Nat) : aSl1 (cC m S a) ≤ 2400 := by
  unfold cC
  by_cases h : 382 ≤ a ∧ a < 406
  · rw [if_pos h]
    exact rCe_le S _ (by omega)
  · rw [if_neg h, aSl1_K]
    unfold kd
    by_cases h1 : a < 382
    · rw [if_pos h1]
      exact getD_P zq_T a
    · rw [if_neg h1, if_neg (by omega)]
      exact Nat.le_trans (getD_P zq_S _) (by decide)
theorem cC_hi (m : cM) (S : rS) (a : Nat) (ha : 406 ≤ a) : aSl1 (cC m S a) ≤ 20 := by
  unfold cC
  rw [if_neg (by omega), aSl1_K]
  unfold kd
  rw [if_neg (by omega), if_neg (by omega)]
  exact getD_P zq_S _
theorem hr_aSl (m : cM) (S : rS) : aSl (hr m S) ≤ 2400 * 406 + 20 * (13 * m.2.2.2) := by
  unfold aSl hr
  rw [List.range_add, List.map_append, List.map_append, List.sum_append, List.map_map, List.map_map, List.map_map]
  refine Nat.add_le_add (sum_le _ _ (fun a => cC_lo m S a) _) ?_
  exact sum_le _ _ (fun a => cC_hi m S (406 + a) (by omega)) _
theorem n_274_0 : aIns 274 0 = some (.new 7, 3, 11, 0, .null) := by decide +kernel
theorem n_274_3 : aIns 274 3 = some (.dup, 1, 0, 0, .null) := by decide +kernel
theorem n_274_4 : aIns 274 4 = some (.invokespecial 9, 3, 101, 0, .int 11) := by decide +kernel
theorem n_274_7 : aIns 274 7 = some (.astore_n 1, 1, 0, 0, .null) := by decide +kernel
theorem n_274_8 : aIns 274 8 = some (.new 10, 3, 12, 0, .null) := by decide +kernel
theorem n_274_11 : aIns 274 11 = some (.dup, 1, 0, 0, .null) := by decide +kernel
theorem n_274_12 : aIns 274 12 = some (.invokespecial 12, 3, 139, 0, .int 12) := by decide +kernel
theorem n_274_15 : aIns 274 15 = some (.astore_n 2, 1, 0, 0, .null) := by decide +kernel
theorem n_274_16 : aIns 274 16 = some (.iconst 0, 1, 0, 0, .int (0)) := by decide +kernel
theorem n_274_17 : aIns 274 17 = some (.istore_n 3, 1, 0, 0, .null) := by decide +kernel
set_option maxHeartbeats 4000000 in
theorem law_run {X : aX} (hX : X.1 ≤ 3072) : aWp X 100 274 0 (aEntL [.float 1] 4) [] [] (fun v h' => v = some (.int 1) ∧ ∃ k', 6 * k' ≤ X.1 + 5 ∧ Ih k' h') := by
  show aWp X 100 274 0 [some (.float 1), none, none, none] [] [] _
  refine wp_s 3 [some (.float 1), none, none, none] [.ref 0] (nO [] 11) n_274_0 rfl ?_
  refine wp_s 4 [some (.float 1), none, none, none] [.ref 0, .ref 0] (nO [] 11) n_274_3 rfl ?_
  refine wp_callI (d := 99) 7 rfl n_274_4 (by decide) rfl (vs := []) (rest := [.ref 0]) rfl rfl rfl (fs := (List.range (clsN 11)).map (fun k => a_dv (clsTy 11 k))) rfl (y := m_101) rfl (Nat.le_of_ble_eq_true rfl) (d_101_ok (g := 21) (d := 99) (by decide) (d_101_nw (by decide))) ?_
  rintro v h' ⟨rfl, rfl⟩
  refine wp_s 8 [some (.float 1), some (.ref 0), none, none] [] lnA n_274_7 rfl ?_
  refine wp_s 11 [some (.float 1), some (.ref 0), none, none] [.ref lnA.length] (nO lnA 12) n_274_8 rfl ?_
  refine wp_s 12 [some (.float 1), some (.ref 0), none, none] [.ref lnA.length, .ref lnA.length] (nO lnA 12) n_274_11 rfl ?_
  have ho : (nO lnA 12)[lnA.length]? = some (.inr (12, (List.range (clsN 12)).map (fun k => a_dv (clsTy 12 k)))) := by
    show (lnA ++ [_])[lnA.length]? = _
    simp
  refine wp_callI (d := 99) 15 rfl n_274_12 (by decide) rfl (vs := []) (rest := [.ref lnA.length]) rfl rfl rfl ho (y := m_139) rfl (Nat.le_of_ble_eq_true rfl) (d_139_ok (g := 0) (d := 99) (by decide) (d_139_nw lnA)) ?_
  rintro v h' ⟨rfl, rfl⟩
  rw [lnA_len, ← hr_00]
  refine wp_s 16 [some (.float 1), some (.ref 0), some (.ref 382), none] [] (hr m00 S00) n_274_15 rfl ?_
  refine wp_s 17 [some (.float 1), some (.ref 0), some (.ref 382), none] [.int 0] (hr m00 S00) n_274_16 rfl ?_
  refine wp_s 18 [some (.float 1), some (.ref 0), some (.ref 382), some (.int 0)] [] (hr m00 S00) n_274_17 rfl ?_
  exact law_all hX ⟨m00, S00, rfl, inv_00⟩
theorem law_wins {L : Nat} {xs : Nat → Int32} (hL : L ≤ 3072) : aWins L xs := by
  obtain ⟨n, v, h', e, hv, k, hk, m, S, eh, hi⟩ := law_run (X := (L, xs)) hL
  have hj : m.2.2.2 ≤ k := hi.1
  have hk' : 6 * k ≤ L + 5 := hk
  have hs := hr_aSl m S
  subst hv
  subst eh
  refine ⟨n, 100, hr m S, e, ?_, ?_, by decide⟩
  · rw [hr_len]
    omega
  · omega
theorem whole_start {p : Program} {e : Env} {s : State} {m : MethodId} {below : List Frame} {meth : Method} {c : Code} (l : Launch) {b L : Nat} {xs : Nat → Int32} (hL : L ≤ 3072) (C0 : lw_At p s m meth c b L xs) : W p l e room_1 s m #[Value.ref b] below meth c s.heap [] 0 0 (lw_Z below #[Value.ref b] s) (entryFrame m ([Value.ref b] : List Value).toArray 4) := whole_of l (law_wins hL) C0
