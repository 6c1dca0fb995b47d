/-! the whole of the class's constructor, from the empty heap; then the reference's -/
theorem ob_bd {α β : Type} {x : Option α} {y : α} {f : α → Option β} {r : Option β} (h1 : x = some y) (h2 : f y = r) : x.bind f = r := by
  rw [h1, Option.bind_some]
  exact h2
theorem ob_if {β : Type} {b : Bool} {x r : Option β} (h : b = true) (k : x = r) : (if b = true then x else none) = r := by
  rw [if_pos h]
  exact k
theorem sF_0 {tl : aH} {ci k : Nat} {fs : List Value} {v : Value} (hk : k < fs.length) (hok : okV (clsTy ci k) v = true) : sF ((.inr (ci, fs)) :: tl) 0 ci k v = some ((.inr (ci, fs.set k v)) :: tl) := sF_app (h := []) hk hok
theorem gR_0 {tl : aH} {ci k v : Nat} {fs : List Value} (hk : fs[k]? = some (.ref v)) : gR ((.inr (ci, fs)) :: tl) 0 ci k = some v := gR_app (h := []) rfl hk
theorem lpP_eq {o : aC} {T : aH} {a : Nat} (hl : (o :: T).length = a) : lpP (o :: T) 20 = o :: (T ++ (lo1 a :: q_cel 4 20 (qf (a + 2) 9 20) :: bkS stC (a + 2) 9 20)) := by
  subst hl
  unfold lpP lpH
  simp only [List.append_assoc, List.cons_append, List.nil_append]
theorem lpT_eq {o : aC} {T : aH} {a a1 : Nat} (hl : (o :: T).length = a) : lpT (o :: T) a1 6 = o :: (T ++ (lo9 a a1 :: q_cel 6 6 (qf (a + 3) 6 6) :: z_lon 8 :: bkS rlC (a + 3) 6 6)) := by
  subst hl
  unfold lpT lpH
  simp only [List.append_assoc, List.cons_append, List.nil_append]
abbrev ln101 (fs : List Value) (T : aH) (b k : Nat) : aH := lpH ((.inr (11, fs)) :: T) [z_boo 4] 5 4 woC b 27 k
theorem l_101_nw {g b : Nat} {fs : List Value} {T : aH} (hf : fs[7]? = some (.ref ((Sum.inr (11, fs) : aC) :: T).length)) (hb : b = ((Sum.inr (11, fs) : aC) :: T).length + 1 + ([z_boo 4] : aH).length) : ∀ j k n, j + k = 4 → j < n → l_101 g n 0 0 (nI k) (ln101 fs T b k) = some (ln101 fs T b 4) := by
  intro j
  induction j with
  | zero =>
    intro k n hk hn
    obtain ⟨n, rfl⟩ : ∃ q, n = q + 1 := ⟨n - 1, by omega⟩
    have : k = 4 := by omega
    subst this
    rw [l_101, if_pos rfl, if_pos (by decide)]
  | succ j ih =>
    intro k n hk hn
    obtain ⟨n, rfl⟩ : ∃ q, n = q + 1 := ⟨n - 1, by omega⟩
    have e1 : gR (ln101 fs T b k) 0 11 7 = some ((Sum.inr (11, fs) : aC) :: T).length := by
      unfold ln101 lpH
      rw [List.cons_append]
      exact gR_0 hf
    rw [l_101, if_pos rfl, if_neg (n4_no k (by omega)), e1, Option.bind_some, if_pos (isO_nO _ _), d_97_nw, Option.bind_some, lpH_len woC_len hb, lp_step woC_len hb woC_hd (by decide) (by omega) (by decide), Option.bind_some, show nI k + 1 = nI (k + 1) from nI_add k 1]
    exact ih (k + 1) n (by omega) (by omega)
def fb0 (a b c d e f h i j : Value) : List Value := [a, b, c, d, e, f, h, i, j]
def T1 : aH := [.inr (8, [.ref 2, .int 0, .int 0, .int 0, .int 0, .int 0, .int 0]), z_byt 400]
def T3 : aH := T1 ++ [.inr (6, [.ref 1, .null, .int 0])]
def T4 : aH := T3 ++ [.inr (4, [.ref 1, .null, .int 0])]
def T5 : aH := T4 ++ woC 5
def T32 : aH := T5 ++ (lo9 32 5 :: q_cel 6 6 (qf 35 6 6) :: z_lon 8 :: bkS rlC 35 6 6)
def T71 : aH := T32 ++ ((.inr (2, [.ref 5, .ref 32, .ref 72, .ref 74, .ref 75, .ref 76, .ref 77, .ref 78, .ref 79, .ref 80, .ref 81, .int 0, .int 0, .int 0, .int 0, .int 0, .int 0, .int 0, .int 0, .int 0])) :: [.inr (0, [.int 0, .int 0, .int 0, .ref 73]), z_arr 8, z_arr 8, z_arr 8, z_arr 6, z_arr 30, z_arr 8, z_arr 7, z_arr 7] ++ stC 81)
def T90 : aH := T71 ++ (lo1 90 :: q_cel 4 20 (qf 92 9 20) :: bkS stC 92 9 20)
theorem T4_len : T4.length = 4 := rfl
theorem T5_len : T5.length = 31 := rfl
theorem T32_len : T32.length = 70 := by
  unfold T32
  rw [List.length_append, List.length_cons, List.length_cons, List.length_cons, bkS_len rlC_len, T5_len]
theorem T71_len : T71.length = 89 := by
  unfold T71
  rw [List.length_append, T32_len]
  rfl
theorem T90_len : T90.length = 271 := by
  unfold T90
  rw [List.length_append, List.length_cons, List.length_cons, bkS_len stC_len, T71_len]
abbrev o_1 : aC := .inr (11, fb0 .null .null .null .null .null .null .null .null .null)
abbrev o_2 : aC := .inr (11, fb0 (.ref 1) .null .null .null .null .null .null .null .null)
abbrev o_3 : aC := .inr (11, fb0 (.ref 1) (.ref 3) .null .null .null .null .null .null .null)
abbrev o_4 : aC := .inr (11, fb0 (.ref 1) (.ref 3) (.ref 4) .null .null .null .null .null .null)
abbrev o_5 : aC := .inr (11, fb0 (.ref 1) (.ref 3) (.ref 4) (.ref 5) .null .null .null .null .null)
abbrev o_6 : aC := .inr (11, fb0 (.ref 1) (.ref 3) (.ref 4) (.ref 5) (.ref 32) .null .null .null .null)
abbrev o_7 : aC := .inr (11, fb0 (.ref 1) (.ref 3) (.ref 4) (.ref 5) (.ref 32) (.ref 71) .null .null .null)
abbrev o_8 : aC := .inr (11, fb0 (.ref 1) (.ref 3) (.ref 4) (.ref 5) (.ref 32) (.ref 71) (.ref 90) .null .null)
abbrev f_9 : List Value := fb0 (.ref 1) (.ref 3) (.ref 4) (.ref 5) (.ref 32) (.ref 71) (.ref 90) (.ref 272) .null
abbrev f_10 : List Value := fb0 (.ref 1) (.ref 3) (.ref 4) (.ref 5) (.ref 32) (.ref 71) (.ref 90) (.ref 272) (.ref 273)
theorem nw_1 {g : Nat} : d_80 g [o_1].length (nO [o_1] 8) = some (o_1 :: T1) := d_80_nw [o_1]
theorem nw_2 {g : Nat} : d_59 g (o_2 :: T1).length 1 (nO (o_2 :: T1) 6) = some (o_2 :: T3) := d_59_nw _
theorem nw_3 {g : Nat} : d_44 g (o_3 :: T3).length 1 (nO (o_3 :: T3) 4) = some (o_3 :: T4) := d_44_nw _
theorem nw_4 {g : Nat} : d_97 g (o_4 :: T4).length (nO (o_4 :: T4) 10) = some (o_4 :: T5) := d_97_nw _
theorem nw_5 {g : Nat} (hg : 6 < g) : d_88 g (o_5 :: T5).length 5 (nO (o_5 :: T5) 9) = some (o_5 :: T32) := by
  rw [d_88_nw hg, lpT_eq (a := 32) (by rw [List.length_cons, T5_len])]
  rfl
theorem nw_6 {g : Nat} : d_11 g (o_6 :: T32).length 5 32 (nO (o_6 :: T32) 2) = some (o_6 :: T71) := by
  rw [d_11_nw, List.length_cons, T32_len, List.append_assoc]
  rfl
theorem nw_7 {g : Nat} (hg : 20 < g) : d_7 g (o_7 :: T71).length (nO (o_7 :: T71) 1) = some (o_7 :: T90) := by
  rw [d_7_nw hg, lpP_eq (a := 90) (by rw [List.length_cons, T71_len])]
  rfl
set_option maxHeartbeats 1000000 in
theorem d_101_nw {g : Nat} (hg : 20 < g) : d_101 g 0 (nO [] 11) = some (ln101 f_10 T90 274 4) := by
  unfold d_101
  have e0 : nO [] 11 = [o_1] := rfl
  rw [e0]
  refine ob_if (isO_nO [o_1] 8) (ob_bd nw_1 ?_)
  refine ob_bd (y := o_2 :: T1) (sF_0 (Nat.le_of_ble_eq_true rfl) rfl) ?_
  refine ob_bd (y := 1) (gR_0 rfl) ?_
  refine ob_if (isO_nO (o_2 :: T1) 6) (ob_bd nw_2 ?_)
  refine ob_bd (y := o_3 :: T3) (sF_0 (Nat.le_of_ble_eq_true rfl) rfl) ?_
  refine ob_bd (y := 1) (gR_0 rfl) ?_
  refine ob_if (isO_nO (o_3 :: T3) 4) (ob_bd nw_3 ?_)
  refine ob_bd (y := o_4 :: T4) (sF_0 (Nat.le_of_ble_eq_true rfl) rfl) ?_
  refine ob_if (isO_nO (o_4 :: T4) 10) (ob_bd nw_4 ?_)
  refine ob_bd (y := o_5 :: T5) (sF_0 (Nat.le_of_ble_eq_true rfl) rfl) ?_
  refine ob_bd (y := 5) (gR_0 rfl) ?_
  refine ob_if (isO_nO (o_5 :: T5) 9) (ob_bd (nw_5 (by omega)) ?_)
  have l5 : (o_5 :: T5).length = 32 := by rw [List.length_cons, T5_len]
  rw [l5]
  refine ob_bd (y := o_6 :: T32) (sF_0 (Nat.le_of_ble_eq_true rfl) rfl) ?_
  refine ob_bd (y := 5) (gR_0 rfl) ?_
  refine ob_bd (y := 32) (gR_0 rfl) ?_
  refine ob_if (isO_nO (o_6 :: T32) 2) (ob_bd nw_6 ?_)
  have l6 : (o_6 :: T32).length = 71 := by rw [List.length_cons, T32_len]
  rw [l6]
  refine ob_bd (y := o_7 :: T71) (sF_0 (Nat.le_of_ble_eq_true rfl) rfl) ?_
  refine ob_if (isO_nO (o_7 :: T71) 1) (ob_bd (nw_7 hg) ?_)
  have l7 : (o_7 :: T71).length = 90 := by rw [List.length_cons, T71_len]
  rw [l7]
  refine ob_bd (y := o_8 :: T90) (sF_0 (Nat.le_of_ble_eq_true rfl) rfl) ?_
  have l8 : (o_8 :: T90).length = 272 := by rw [List.length_cons, T90_len]
  rw [l8]
  refine ob_bd (y := (.inr (11, f_9)) :: (T90 ++ [q_cel 5 4 (fun _ => none)])) (sF_0 (tl := T90 ++ [q_cel 5 4 (fun _ => none)]) (ci := 11) (k := 7) (fs := fb0 (.ref 1) (.ref 3) (.ref 4) (.ref 5) (.ref 32) (.ref 71) (.ref 90) .null .null) (v := .ref 272) (Nat.le_of_ble_eq_true rfl) rfl) ?_
  have l9 : ((Sum.inr (11, f_9) : aC) :: (T90 ++ [q_cel 5 4 (fun _ => none)])).length = 273 := by rw [List.length_cons, List.length_append, T90_len]; rfl
  rw [l9]
  refine ob_bd (y := (.inr (11, f_10)) :: ((T90 ++ [q_cel 5 4 (fun _ => none)]) ++ [z_boo 4])) (sF_0 (tl := (T90 ++ [q_cel 5 4 (fun _ => none)]) ++ [z_boo 4]) (ci := 11) (k := 8) (fs := f_9) (v := .ref 273) (Nat.le_of_ble_eq_true rfl) rfl) ?_
  have l10 : ((Sum.inr (11, f_10) : aC) :: T90).length = 272 := by rw [List.length_cons, T90_len]
  have e := l_101_nw (g := g) (b := 274) (fs := f_10) (T := T90) (by rw [l10]; rfl) (by rw [l10]; rfl) 4 0 g rfl (by omega)
  have e2 : ln101 f_10 T90 274 0 = (.inr (11, f_10)) :: ((T90 ++ [q_cel 5 4 (fun _ => none)]) ++ [z_boo 4]) := by
    unfold ln101 lpH
    rw [qf_0, List.append_assoc]
    rfl
  rw [e2] at e
  exact e
