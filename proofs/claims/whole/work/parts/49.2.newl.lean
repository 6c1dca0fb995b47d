/-! the three loops of the constructors -/
def qf (b s k : Nat) : Nat → Option Nat := fun i => if i < k then some (b + s * i) else none
abbrev q_cel (tag n : Nat) (f : Nat → Option Nat) : aC := .inl (tag, n, .inr (.inr (.inr (.inr f))))
theorem qf_s (b s k : Nat) : va_up (qf b s k) k (some (b + s * k)) = qf b s (k + 1) := by
  funext i
  unfold qf va_up
  by_cases h : i = k
  · subst h
    rw [if_pos rfl, if_pos (by omega)]
  · rw [if_neg h]
    show (if i < k then some (b + s * i) else none) = _
    by_cases h2 : i < k
    · rw [if_pos h2, if_pos (by omega)]
    · rw [if_neg h2, if_neg (by omega)]
theorem qf_0 (b s : Nat) : qf b s 0 = fun _ => none := by
  funext i
  exact if_neg (Nat.not_lt_zero i)
theorem sQ_at {A tl : aH} {tag n i v cj : Nat} {f : Nat → Option Nat} {fs : List Value} (hv : (A ++ q_cel tag n f :: tl)[v]? = some (.inr (cj, fs))) (h1 : 4 ≤ tag ∧ tag ≤ 6 ∧ cj = a_tagC tag) (hi : i < n) (hn : n ≤ 4096) : sQ (A ++ q_cel tag n f :: tl) A.length (nI i) v = some (A ++ q_cel tag n (va_up f i (some v)) :: tl) := by
  have e : (A ++ q_cel tag n f :: tl)[A.length]? = some (q_cel tag n f) := by simp
  unfold sQ a_aast
  simp only [e, hv]
  rw [if_pos ⟨h1.1, h1.2.1, h1.2.2, aIn_nI hi hn⟩]
  show some _ = _
  rw [nI_clamp (by omega)]
  congr 1
  simp
def bkS (blk : Nat → aH) (b s k : Nat) : aH := (List.range k).flatMap (fun i => blk (b + s * i))
theorem bkS_s (blk : Nat → aH) (b s k : Nat) : bkS blk b s (k + 1) = bkS blk b s k ++ blk (b + s * k) := by
  unfold bkS
  rw [List.range_succ, List.flatMap_append]
  simp
theorem bkS_len {blk : Nat → aH} {b s : Nat} (hl : ∀ a, (blk a).length = s) : ∀ k, (bkS blk b s k).length = s * k := by
  intro k
  induction k with
  | zero => rfl
  | succ k ih => rw [bkS_s, List.length_append, ih, hl, Nat.mul_succ]
def lpH (A W : aH) (tag n : Nat) (blk : Nat → aH) (b s k : Nat) : aH := A ++ q_cel tag n (qf b s k) :: (W ++ bkS blk b s k)
theorem lpH_len {A W : aH} {tag n : Nat} {blk : Nat → aH} {b s k : Nat} (hl : ∀ a, (blk a).length = s) (hb : b = A.length + 1 + W.length) : (lpH A W tag n blk b s k).length = b + s * k := by
  unfold lpH
  rw [List.length_append, List.length_cons, List.length_append, bkS_len hl]
  omega
theorem lp_step {A W : aH} {tag n : Nat} {blk : Nat → aH} {b s k cj : Nat} {fs : Nat → List Value} (hl : ∀ a, (blk a).length = s) (hb : b = A.length + 1 + W.length) (hh : ∀ a, (blk a)[0]? = some (.inr (cj, fs a))) (h1 : 4 ≤ tag ∧ tag ≤ 6 ∧ cj = a_tagC tag) (hk : k < n) (hn : n ≤ 4096) :
    sQ (lpH A W tag n blk b s k ++ blk (b + s * k)) A.length (nI k) (b + s * k) = some (lpH A W tag n blk b s (k + 1)) := by
  have e : lpH A W tag n blk b s k ++ blk (b + s * k) = A ++ q_cel tag n (qf b s k) :: (W ++ bkS blk b s (k + 1)) := by
    rw [bkS_s]
    unfold lpH
    rw [ap_ap, List.append_assoc]
  have hv : (A ++ q_cel tag n (qf b s k) :: (W ++ bkS blk b s (k + 1)))[b + s * k]? = some (.inr (cj, fs (b + s * k))) := by
    rw [← e, List.getElem?_append_right (by rw [lpH_len hl hb]; exact Nat.le_refl _), lpH_len hl hb, Nat.sub_self]
    exact hh _
  rw [e, sQ_at hv h1 hk hn, qf_s]
  rfl
theorem gR_app {h tl : aH} {ci k v n : Nat} {fs : List Value} (hn : n = h.length) (hk : fs[k]? = some (.ref v)) : gR (h ++ (.inr (ci, fs)) :: tl) n ci k = some v := by
  subst hn
  unfold gR
  have e : (h ++ (Sum.inr (ci, fs) : aC) :: tl)[h.length]? = some (.inr (ci, fs)) := by simp
  rw [e]
  simp only [hk, if_true]
theorem stC_len (a : Nat) : (stC a).length = 9 := rfl
theorem rlC_len (a : Nat) : (rlC a).length = 6 := rfl
theorem woC_len (a : Nat) : (woC a).length = 27 := rfl
theorem stC_hd (a : Nat) : (stC a)[0]? = some (.inr (7, cFl (fun _ => 0) 0 a 7)) := rfl
theorem rlC_hd (a : Nat) : (rlC a)[0]? = some (.inr (3, cFl (fun _ => 0) 0 a 3)) := rfl
theorem woC_hd (a : Nat) : (woC a)[0]? = some (.inr (10, [.ref (a + 1), .ref (a + 14), .int (-1), .int 0, .ref (a + 23), .ref (a + 24), .ref (a + 25), .ref (a + 26), .int 0])) := rfl
theorem n20_no : ∀ k, k < 20 → ¬ (20 : Int32) ≤ nI k := by decide
theorem n6_no : ∀ k, k < 6 → ¬ (6 : Int32) ≤ nI k := by decide
theorem n4_no : ∀ k, k < 4 → ¬ (4 : Int32) ≤ nI k := by decide
abbrev lo1 (a : Nat) : aC := .inr (1, [.ref (a + 1), .int 0, .int 0])
abbrev lo9 (a : Nat) (a1 : Nat) : aC := .inr (9, [.ref a1, .ref (a + 1), .int 0, .ref (a + 2), .int 0])
abbrev lpP (h : aH) (k : Nat) : aH := lpH (h ++ [lo1 h.length]) [] 4 20 stC (h.length + 2) 9 k
abbrev lpT (h : aH) (a1 k : Nat) : aH := lpH (h ++ [lo9 h.length a1]) [z_lon 8] 6 6 rlC (h.length + 3) 6 k
theorem l_7_nw {g : Nat} (h : aH) : ∀ j k n, j + k = 20 → j < n → l_7 g n 0 h.length (nI k) (lpP h k) = some (lpP h 20) := by
  intro j
  induction j with
  | zero =>
    intro k n hk hn
    obtain ⟨n, rfl⟩ : ∃ q, n = q + 1 := ⟨n - 1, by omega⟩
    have : k = 20 := by omega
    subst this
    rw [l_7, if_pos rfl, if_pos (by decide)]
  | succ j ih =>
    intro k n hk hn
    obtain ⟨n, rfl⟩ : ∃ q, n = q + 1 := ⟨n - 1, by omega⟩
    have hb : h.length + 2 = (h ++ [lo1 h.length]).length + 1 + ([] : aH).length := by simp
    have e1 : gR (lpP h k) h.length 1 0 = some (h ++ [lo1 h.length]).length := by
      unfold lpP lpH
      rw [List.append_assoc, List.singleton_append, gR_app rfl rfl]
      simp
    rw [l_7, if_pos rfl, if_neg (n20_no k (by omega)), e1, Option.bind_some, if_pos (isO_nO _ _), d_70_nw, Option.bind_some, lpH_len stC_len hb, lp_step stC_len hb stC_hd (by decide) (by omega) (by decide), Option.bind_some, show nI k + 1 = nI (k + 1) from nI_add k 1]
    exact ih (k + 1) n (by omega) (by omega)
theorem l_88_nw {g a1 : Nat} (h : aH) : ∀ j k n, j + k = 6 → j < n → l_88 g n 0 h.length a1 (nI k) (lpT h a1 k) = some (lpT h a1 6) := by
  intro j
  induction j with
  | zero =>
    intro k n hk hn
    obtain ⟨n, rfl⟩ : ∃ q, n = q + 1 := ⟨n - 1, by omega⟩
    have : k = 6 := by omega
    subst this
    rw [l_88, if_pos rfl, if_pos (by decide)]
  | succ j ih =>
    intro k n hk hn
    obtain ⟨n, rfl⟩ : ∃ q, n = q + 1 := ⟨n - 1, by omega⟩
    have hb : h.length + 3 = (h ++ [lo9 h.length a1]).length + 1 + ([z_lon 8] : aH).length := by simp
    have e1 : gR (lpT h a1 k) h.length 9 1 = some (h ++ [lo9 h.length a1]).length := by
      unfold lpT lpH
      rw [List.append_assoc, List.singleton_append, gR_app rfl rfl]
      simp
    rw [l_88, if_pos rfl, if_neg (n6_no k (by omega)), e1, Option.bind_some, if_pos (isO_nO _ _), d_40_nw, Option.bind_some, lpH_len rlC_len hb, lp_step rlC_len hb rlC_hd (by decide) (by omega) (by decide), Option.bind_some, show nI k + 1 = nI (k + 1) from nI_add k 1]
    exact ih (k + 1) n (by omega) (by omega)
theorem d_7_nw {g : Nat} (hg : 20 < g) (h : aH) : d_7 g h.length (nO h 1) = some (lpP h 20) := by
  unfold d_7
  have e0 : nO h 1 = h ++ (.inr (1, (List.range (clsN 1)).map (fun k => a_dv (clsTy 1 k)))) :: [] := rfl
  rw [e0, nQ_apt, sF_app (Nat.le_of_ble_eq_true rfl) rfl, Option.bind_some]
  have e : h ++ (Sum.inr (1, (List.map (fun k => a_dv (clsTy 1 k)) (List.range (clsN 1))).set 0 (Value.ref (h ++ [Sum.inr (1, List.map (fun k => a_dv (clsTy 1 k)) (List.range (clsN 1)))]).length)) : aC) :: ([] ++ [q_cel 4 20 fun _ => none]) = lpP h 0 := by
    unfold lpP lpH
    rw [qf_0, List.append_assoc, List.length_append]
    rfl
  rw [e]
  exact l_7_nw h 20 0 g rfl hg
theorem d_88_nw {g a1 : Nat} (hg : 6 < g) (h : aH) : d_88 g h.length a1 (nO h 9) = some (lpT h a1 6) := by
  unfold d_88
  have e0 : nO h 9 = h ++ (.inr (9, (List.range (clsN 9)).map (fun k => a_dv (clsTy 9 k)))) :: [] := rfl
  rw [e0, nQ_apt, sF_app (Nat.le_of_ble_eq_true rfl) rfl, Option.bind_some, nA_apt, sF_app (Nat.le_of_ble_eq_true rfl) rfl, Option.bind_some, sF_app (Nat.le_of_ble_eq_true rfl) rfl, Option.bind_some]
  have e : lpT h a1 0 = h ++ lo9 h.length a1 :: ([] ++ [q_cel 6 6 fun _ => none] ++ [z_lon 8]) := by
    unfold lpT lpH
    rw [qf_0, List.append_assoc]
    rfl
  have e2 := l_88_nw (g := g) (a1 := a1) h 6 0 g rfl hg
  rw [e] at e2
  rw [← e2]
  simp only [List.length_append, List.length_cons, List.length_nil, Nat.zero_add, Nat.add_zero, Nat.reduceAdd, List.cons_append, List.nil_append]
  rfl
