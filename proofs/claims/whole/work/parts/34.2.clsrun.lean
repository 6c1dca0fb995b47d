/-! the class's stack machine -/
theorem k_leT {a b : Nat} (h : a ≤ b) (hb : b < 2147483648) : (nI a ≤ nI b) = True := eq_true (nI_le h hb)
theorem k_leF {a b : Nat} (h : b < a) (hb : a < 2147483648) : (nI a ≤ nI b) = False := eq_false (nI_ge h hb)
theorem k_ltT {a b : Nat} (h : a < b) (hb : b < 2147483648) : (nI a < nI b) = True := eq_true (nI_lt h hb)
theorem k_ltF {a b : Nat} (h : b ≤ a) (hb : a < 2147483648) : (nI a < nI b) = False := eq_false (nI_nlt h hb)
theorem k_eqT {a b : Nat} (h : a = b) : (nI a = nI b) = True := eq_true (by rw [h])
theorem k_eqF {a b : Nat} (h : a ≠ b) (ha : a < 2147483648) (hb : b < 2147483648) : (nI a = nI b) = False := eq_false (fun e => h ((nI_eq ha hb).mp e))
theorem k_m1n {a : Nat} (h : 0 < a) : nI a + -nI 1 = nI (a - 1) := k_m1 h
theorem k_mm (x : Int32) : (-nI 1 : Int32) - (-nI 1 - x) = x := by
  rw [Int32.sub_eq_add_neg (-nI 1) (-nI 1 - x), Int32.neg_sub, Int32.sub_eq_add_neg x, Int32.neg_neg, Int32.add_comm, Int32.add_assoc, Int32.add_right_neg, Int32.add_zero]
theorem k_mN {v : Nat} (h : v < 1073741823) : (-nI 1 : Int32) - nI v < nI 0 := by
  have e : (-nI 1 : Int32) - nI v = nI 0 - nI (v + 1) := by
    rw [← nI_add, nI_0, Int32.sub_eq_add_neg, Int32.sub_eq_add_neg, Int32.neg_add, Int32.zero_add, Int32.add_comm, Int32.sub_eq_add_neg]
  rw [e]
  exact pk_sneg (by omega) (by omega)
theorem k_mNle {v n : Nat} (h : v < 1073741823) (hn : n < 2147483648) : (nI n ≤ (-nI 1 : Int32) - nI v) = False := by
  apply eq_false
  intro hc
  have h1 := k_mN h
  have h2 : nI 0 ≤ nI n := nI_pos' hn
  exact absurd h1 (Int32.not_lt.mpr (Int32.le_trans h2 hc))
/-- a sign's token in the class -/
def tk (s : Nat) : Nat := if s = 2 then 26 else if s = 3 then 27 else if s = 4 then 28 else if s = 5 then 29 else if s = 6 then 31 else if s = 7 then 32 else if s = 8 then 33 else if s = 9 then 34 else if s = 10 then 35 else if s = 11 then 19 else if s = 12 then 18 else if s = 13 then 17 else 30
def tr (c : Nat) : Int32 := if c % 16 = 0 then nI (c / 16) else if c % 16 = 1 then -nI 1 - nI (c / 16) else -nI 1 - nI (tk (c % 16))
theorem tk_b {s : Nat} (hs : s < 16) (h15 : s ≠ 15) (h0 : s ≠ 0) (h1 : s ≠ 1) (h11 : s ≠ 11) : 8 ≤ tk s ∧ tk s < 36 ∧ tk s ≠ 19 := by
  have h : s = 2 ∨ s = 3 ∨ s = 4 ∨ s = 5 ∨ s = 6 ∨ s = 7 ∨ s = 8 ∨ s = 9 ∨ s = 10 ∨ s = 12 ∨ s = 13 ∨ s = 14 := by omega
  rcases h with e | e | e | e | e | e | e | e | e | e | e | e <;> subst e <;> decide
section CR
variable {g : Nat}
theorem cU_3 {r : Nat} (h : r < 6) : cU (35 + 6 * r) 3 = true := by
  match r, h with
  | 0, _ => decide
  | 1, _ => decide
  | 2, _ => decide
  | 3, _ => decide
  | 4, _ => decide
  | 5, _ => decide
theorem p_43 {s : Nat} {x y : Int64} {m : cM} (hs : s < 16) (h15 : s ≠ 15) (h0 : s ≠ 0) (h1 : s ≠ 1) (h11 : s ≠ 11) : d_43 g (nI (tk s)) x y m = some (ru_1 s x y) := by
  have h : s = 2 ∨ s = 3 ∨ s = 4 ∨ s = 5 ∨ s = 6 ∨ s = 7 ∨ s = 8 ∨ s = 9 ∨ s = 10 ∨ s = 12 ∨ s = 13 ∨ s = 14 := by omega
  unfold d_43
  simp only [lg_cmp_ge, lg_cmp_gt, lg_cmp_lt, lg_cmp_le, lg_cmp_eq]
  rcases h with e | e | e | e | e | e | e | e | e | e | e | e <;> subst e <;> simp (disch := omega) only [lit_nI, k_eqT, k_eqF, ru_1, tk, Nat.reduceEqDiff, if_true, if_false] <;> (repeat' split) <;> first | (simp_all; done) | (exfalso; rename_i ha hb; exact i64_ll ha hb) | (exfalso; rename_i ha hb; exact i64_ll hb ha)
theorem l42_2 {n a0 : Nat} {x1 x2 x4 x5 x6 x7 s1 : Int32} {u0 : Int64} {m : cM} : l_42 g (n + 1) 2 a0 x1 x2 x4 x5 x6 x7 u0 s1 m = l_42 g n 0 a0 x1 x2 x4 (x5 + 1) 0 0 0 0 m := rfl
set_option maxHeartbeats 4000000 in
theorem p_l42 {r : Nat} (hr : r < 6) {c : Nat → Nat} {b : Bool} {x1 : Int32} : ∀ (k i n : Nat) (m : cM) (st : List Int64) (ts : List Bool), 3 * k + 1 ≤ n → i + k ≤ 400 → (∀ j, j < i + k → m.1 (35 + 6 * r + 1) j = tr (c j) ∧ c j < 2147483648) → ru_k (m.2.1 (35 + 6 * r + 5)) st → ru_y ts st → ru_c c k i ts = some [b] → ∃ (v : Int64) (m' : cM), l_42 g n 0 (35 + 6 * r) x1 (nI (i + k)) (nI st.length) (nI i) 0 0 0 0 m = some (v, m') ∧ ru_s c (m.2.1 34) k i st = [v] ∧ (b = true → v = 0 ∨ v = 1) ∧ m'.1 = m.1 ∧ m'.2.2 = m.2.2 ∧ m'.2.1 34 = m.2.1 34 := by
  intro k
  have h34 : 34 ≠ 35 + 6 * r + 5 := by omega
  have hcU := cU_3 hr
  induction k with
  | zero =>
    intro i n m st ts hn hi hc hk hy hok
    obtain ⟨n, rfl⟩ : ∃ n', n = n' + 1 := ⟨n - 1, by omega⟩
    have e1 : ts = [b] := Option.some.inj hok
    subst e1
    match st, hy with
    | [v], hy =>
      refine ⟨v, m, ?_, rfl, hy.1, rfl, rfl, rfl⟩
      have e2 : m.2.1 (35 + 6 * r + 5) 0 = v := hk.1
      simp (disch := omega) only [l_42, if_true, Nat.add_zero, Int32.le_refl, hcU, lit_nI, k_in, k_cl, e2]
  | succ k ih =>
    intro i n m st ts hn hi hc hk hy hok
    obtain ⟨n, rfl⟩ : ∃ n', n = n' + 3 := ⟨n - 3, by omega⟩
    unfold ru_c at hok
    split at hok
    case isFalse => cases hok
    rename_i h60
    cases ht1 : ru_t (c i) ts with
    | none => rw [ht1] at hok; cases hok
    | some ts1 =>
    rw [ht1] at hok
    have hok : ru_c c k (i + 1) ts1 = some [b] := hok
    have hlen := ru_y_len hy
    obtain ⟨hci, hcb⟩ := hc i (by omega)
    have hy1 := ru_y_v (wd := m.2.1 34) hy ht1
    have key : ∀ (n' : Nat) (m1 : cM) (x6 x7 : Int32), 3 * k + 2 ≤ n' → m1.1 = m.1 → m1.2.2 = m.2.2 → m1.2.1 34 = m.2.1 34 → ru_k (m1.2.1 (35 + 6 * r + 5)) (ru_v (c i) (m.2.1 34) st) → ∃ (v : Int64) (m' : cM), l_42 g n' 2 (35 + 6 * r) x1 (nI (i + (k + 1))) (nI (ru_v (c i) (m.2.1 34) st).length) (nI i) x6 x7 0 0 m1 = some (v, m') ∧ ru_s c (m.2.1 34) (k + 1) i st = [v] ∧ (b = true → v = 0 ∨ v = 1) ∧ m'.1 = m.1 ∧ m'.2.2 = m.2.2 ∧ m'.2.1 34 = m.2.1 34 := by
      intro n' m1 x6 x7 hn' e1 e2 e3 e4
      obtain ⟨n', rfl⟩ : ∃ q, n' = q + 1 := ⟨n' - 1, by omega⟩
      obtain ⟨v, m', h1, h2, h3, h4, h5, h6⟩ := ih (i + 1) n' m1 (ru_v (c i) (m.2.1 34) st) ts1 (by omega) (by omega) (by
        intro j hj
        rw [e1]
        exact hc j (by omega)) e4 hy1 hok
      refine ⟨v, m', ?_, ?_, h3, h4.trans e1, h5.trans e2, h6.trans e3⟩
      · rw [show i + 1 + k = i + (k + 1) by omega] at h1
        rw [l42_2, nI_1]
        exact h1
      · rw [e3] at h2
        exact h2
    have hm : c i % 16 < 16 := Nat.mod_lt _ (by decide)
    rw [l_42]
    unfold ru_t at ht1
    split at ht1
    · rename_i h0
      cases ht1
      have hv : ru_v (c i) (m.2.1 34) st = (nI (c i / 16)).toInt64 :: st := by unfold ru_v; rw [if_pos h0]
      have htr : tr (c i) = nI (c i / 16) := by unfold tr; rw [if_pos h0]
      rw [hv] at key
      simp (disch := omega) only [if_true, hcU, k_leF, if_false, k_in, k_cl, hci, htr, lit_nI, k_mNle, show Int32.ofNat 62 = nI 62 from rfl]
      rw [l_42]
      simp (disch := omega) only [if_true, Nat.one_ne_zero, if_false, hcU, k_in, k_cl, Option.bind_some, lit_nI, nI_add]
      refine key _ _ _ _ (by omega) rfl rfl (cL_b h34) ?_
      show ru_k ((cL m (35 + 6 * r + 5) st.length _).2.1 (35 + 6 * r + 5)) _
      rw [show (cL m (35 + 6 * r + 5) st.length (nI (c i / 16)).toInt64).2.1 (35 + 6 * r + 5) = vp_updL (m.2.1 (35 + 6 * r + 5)) st.length (nI (c i / 16)).toInt64 from up_s]
      exact ru_k_push hk
    · rename_i h0
      split at ht1
      · rename_i h1
        split at ht1
        case isFalse => cases ht1
        rename_i h8
        cases ht1
        have hv : ru_v (c i) (m.2.1 34) st = m.2.1 34 (c i / 16) :: st := by unfold ru_v; rw [if_neg h0, if_pos h1]
        have htr : tr (c i) = -nI 1 - nI (c i / 16) := by unfold tr; rw [if_neg h0, if_pos h1]
        rw [hv] at key
        simp (disch := omega) only [if_true, hcU, k_leF, k_leT, if_false, k_in, k_cl, hci, htr, lit_nI, k_mm, show Int32.ofNat 62 = nI 62 from rfl]
        rw [l_42]
        simp (disch := omega) only [if_true, Nat.one_ne_zero, if_false, hcU, k_in, k_cl, Option.bind_some, lit_nI, nI_add]
        refine key _ _ _ _ (by omega) rfl rfl (cL_b h34) ?_
        rw [show (cL m (35 + 6 * r + 5) st.length (m.2.1 34 (c i / 16))).2.1 (35 + 6 * r + 5) = vp_updL (m.2.1 (35 + 6 * r + 5)) st.length (m.2.1 34 (c i / 16)) from up_s]
        exact ru_k_push hk
      · rename_i h1
        have htr : tr (c i) = -nI 1 - nI (tk (c i % 16)) := by unfold tr; rw [if_neg h0, if_neg h1]
        split at ht1
        · rename_i h11
          split at ht1
          case h_2 => cases ht1
          rename_i t
          cases ht1
          match st, hy, hk, hlen with
          | x :: xs, hy, hk, hlen =>
            have hl2 : xs.length + 1 = t.length + 1 := hlen
            have h60' : t.length + 1 ≤ 60 := h60
            have hv : ru_v (c i) (m.2.1 34) (x :: xs) = (1 - x) :: xs := by unfold ru_v; rw [if_neg h0, if_neg h1, if_pos h11]
            rw [hv] at key
            have htk : tk (c i % 16) = 19 := by rw [h11]; rfl
            have ex : m.2.1 (35 + 6 * r + 5) xs.length = x := hk.1
            simp (disch := omega) only [if_true, hcU, k_leF, k_leT, if_false, k_in, k_cl, hci, htr, lit_nI, k_mm, htk, k_eqT, not_true, List.length_cons, k_sub, Nat.add_sub_cancel, Option.bind_some, ex]
            refine key _ _ _ _ (by omega) rfl rfl (cL_b h34) ?_
            have e7 : ∀ z, (cL m (35 + 6 * r + 5) xs.length z).2.1 (35 + 6 * r + 5) = vp_updL (m.2.1 (35 + 6 * r + 5)) xs.length z := fun z => up_s
            rw [e7]
            exact ru_k_push hk.2
        · rename_i h11
          have hst : c i % 16 ≠ 15 ∧ ∃ y x xs, st = y :: x :: xs := by
            split at ht1
            · rename_i h12
              split at ht1
              case h_2 => cases ht1
              match st, hy with
              | y :: x :: xs, _ => exact ⟨by omega, y, x, xs, rfl⟩
            · split at ht1
              · cases ht1
              · rename_i h15
                split at ht1
                case h_2 => cases ht1
                match st, hy with
                | y :: x :: xs, _ => exact ⟨h15, y, x, xs, rfl⟩
          obtain ⟨h15, y, x, xs, rfl⟩ := hst
          have h60' : xs.length + 1 + 1 ≤ 60 := by have := hlen; simp only [List.length_cons] at this; omega
          have hv : ru_v (c i) (m.2.1 34) (y :: x :: xs) = ru_1 (c i % 16) x y :: xs := by unfold ru_v; rw [if_neg h0, if_neg h1, if_neg h11]
          rw [hv] at key
          obtain ⟨ht8, ht36, ht19⟩ := tk_b hm h15 h0 h1 h11
          have ey : m.2.1 (35 + 6 * r + 5) (xs.length + 1) = y := hk.1
          have ex : m.2.1 (35 + 6 * r + 5) xs.length = x := hk.2.1
          have e1 : nI (xs.length + 1 + 1) + -nI 1 = nI (xs.length + 1) := k_m1n (by omega)
          simp (disch := omega) only [if_true, hcU, k_leF, k_leT, if_false, k_in, k_cl, hci, htr, lit_nI, k_mm, k_eqF, not_false_eq_true, List.length_cons, e1, k_sub, Nat.add_sub_cancel, Option.bind_some, ex, ey, p_43 hm h15 h0 h1 h11]
          refine key _ _ _ _ (by omega) rfl rfl (cL_b h34) ?_
          have e7 : ∀ z, (cL m (35 + 6 * r + 5) xs.length z).2.1 (35 + 6 * r + 5) = vp_updL (m.2.1 (35 + 6 * r + 5)) xs.length z := fun z => up_s
          rw [e7]
          exact ru_k_push hk.2.2
theorem p_42 {r : Nat} (hr : r < 6) {c : Nat → Nat} {b : Bool} {i e : Nat} (m : cM) (hg : 2000 ≤ g) (hie : i ≤ e) (he : e ≤ 400) (hc : ∀ j, j < e → m.1 (35 + 6 * r + 1) j = tr (c j) ∧ c j < 2147483648) (hok : ru_c c (e - i) i [] = some [b]) : ∃ (v : Int64) (m' : cM), d_42 g (35 + 6 * r) (nI i) (nI e) m = some (v, m') ∧ ru_s c (m.2.1 34) (e - i) i [] = [v] ∧ (b = true → v = 0 ∨ v = 1) ∧ m'.1 = m.1 ∧ m'.2.2 = m.2.2 ∧ m'.2.1 34 = m.2.1 34 := by
  obtain ⟨v, m', h1, h2, h3, h4, h5, h6⟩ := p_l42 (g := g) hr (x1 := nI i) (e - i) i g m [] [] (by omega) (by omega) (fun j hj => hc j (by omega)) trivial trivial hok
  rw [show i + (e - i) = e by omega] at h1
  exact ⟨v, m', h1, h2, h3, h4, h5, h6⟩
end CR
