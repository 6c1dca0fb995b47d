/-! the reference's stack machine -/
theorem rF_s {S : rS} {k : Nat} {v : Int32} : (rF S k v).1 k = v := if_pos rfl
theorem rF_n {S : rS} {k j : Nat} {v : Int32} (h : j ≠ k) : (rF S k v).1 j = S.1 j := if_neg h
theorem rA_s {S : rS} {k : Nat} {f : Nat → Int32} : (rA S k f).2.1 k = f := if_pos rfl
theorem rA_n {S : rS} {k j : Nat} {f : Nat → Int32} (h : j ≠ k) : (rA S k f).2.1 j = S.2.1 j := if_neg h
section RV
variable {g : Nat}
set_option maxHeartbeats 4000000 in
theorem q_l186 {r : Nat} (hr : r < 6) {c : Nat → Nat} {b : Bool} {x2 : Int32} : ∀ (k i n : Nat) (S : rS) (st : List Int64) (ts : List Bool) (x5 x6 : Int32), 2 * k + 1 ≤ n → i + k ≤ 400 → (∀ j, j < i + k → S.2.1 3 (400 * r + j) = nI (c j) ∧ c j < 2147483648) → S.1 18 = nI st.length → ru_k S.2.2.1 st → ru_y ts st → ru_c c k i ts = some [b] → ∃ (v : Int64) (S' : rS), l_186 g n 0 (nI r) x2 (nI (i + k)) (nI i) x5 x6 S = some (v, S') ∧ ru_s c S.2.2.2.1 k i st = [v] ∧ (b = true → v = 0 ∨ v = 1) ∧ rc [18] [] S S' ∧ S'.2.2.2 = S.2.2.2 := by
  intro k
  induction k with
  | zero =>
    intro i n S st ts x5 x6 hn hi hc ht hk hy hok
    obtain ⟨n, rfl⟩ : ∃ n', n = n' + 1 := ⟨n - 1, by omega⟩
    have e1 : ts = [b] := Option.some.inj hok
    subst e1
    match st, hy with
    | [v], hy =>
      have ht1 : S.1 18 = nI (0 + 1) := ht
      refine ⟨v, rF S 18 (nI 0), ?_, rfl, hy.1, rc.F (by decide), rfl⟩
      simp (disch := omega) only [l_186, if_true, Nat.add_zero, Int32.le_refl, q_184 (show 0 < 64 by decide) ht1, Option.bind_some, hk.1]
      rw [show S.2.2.1 0 = v from hk.1]
  | succ k ih =>
    intro i n S st ts x5 x6 hn hi hc ht hk hy hok
    obtain ⟨n, rfl⟩ : ∃ n', n = n' + 2 := ⟨n - 2, by omega⟩
    unfold ru_c at hok
    split at hok
    case isFalse => cases hok
    rename_i h60
    cases ht1 : ru_t (c i) ts with
    | none => rw [ht1] at hok; cases hok
    | some ts1 =>
    rw [ht1] at hok
    have hok : ru_c c k (i + 1) ts1 = some [b] := hok
    have hlen := ru_y_len hy
    obtain ⟨hci, hcb⟩ := hc i (by omega)
    have hy1 := ru_y_v (wd := S.2.2.2.1) hy ht1
    have key : ∀ (S1 : rS) (x5 x6 : Int32), S1.2.1 = S.2.1 → S1.2.2.2 = S.2.2.2 → rc [18] [] S S1 → S1.1 18 = nI (ru_v (c i) S.2.2.2.1 st).length → ru_k S1.2.2.1 (ru_v (c i) S.2.2.2.1 st) → ∃ (v : Int64) (S' : rS), l_186 g (n + 1) 1 (nI r) x2 (nI (i + (k + 1))) (nI i) x5 x6 S1 = some (v, S') ∧ ru_s c S.2.2.2.1 (k + 1) i st = [v] ∧ (b = true → v = 0 ∨ v = 1) ∧ rc [18] [] S S' ∧ S'.2.2.2 = S.2.2.2 := by
      intro S1 x5 x6 e1 e2 e3 e4 e5
      obtain ⟨v, S', h1, h2, h3, h4, h5⟩ := ih (i + 1) n S1 (ru_v (c i) S.2.2.2.1 st) ts1 0 0 (by omega) (by omega) (by
        intro j hj
        rw [e1]
        exact hc j (by omega)) e4 e5 hy1 hok
      refine ⟨v, S', ?_, ?_, h3, e3.tr h4, h5.trans e2⟩
      · rw [show i + 1 + k = i + (k + 1) by omega] at h1
        simp only [l_186, if_true, Nat.one_ne_zero, if_false]
        rw [nI_1]
        exact h1
      · rw [e2] at h2
        exact h2
    have hx4 : nI 400 * nI r + nI i = nI (400 * r + i) := by rw [pk_mul, nI_add]
    have hcond : (nI (i + (k + 1)) ≤ nI i) = False := by rw [k_le (by omega) (by omega)]; exact eq_false (by omega)
    rw [l_186]
    simp (disch := omega) only [if_true, hcond, if_false, lit_nI, hx4, k_in, k_cl, hci, k_and15, k_shr4, k_eq]
    unfold ru_t at ht1
    split at ht1
    · rename_i h0
      cases ht1
      simp only [h0, not_true, if_false, q_183 (show st.length < 64 by omega) ht, Option.bind_some]
      refine key _ _ _ rfl rfl (rc.F (S := rK S _) (by decide)) ?_ ?_
      · unfold ru_v; rw [if_pos h0]; exact rF_s
      · unfold ru_v; rw [if_pos h0]; exact ru_k_push hk
    · rename_i h0
      split at ht1
      · rename_i h1
        split at ht1
        case isFalse => cases ht1
        rename_i h8
        cases ht1
        simp (disch := omega) only [h1, Nat.one_ne_zero, not_false_eq_true, not_true, if_true, if_false, k_in, k_cl, q_183 (show st.length < 64 by omega) ht, Option.bind_some]
        refine key _ _ _ rfl rfl (rc.F (S := rK S _) (by decide)) ?_ ?_
        · unfold ru_v; rw [if_neg h0, if_pos h1]; exact rF_s
        · unfold ru_v; rw [if_neg h0, if_pos h1]; exact ru_k_push hk
      · rename_i h1
        split at ht1
        · rename_i h11
          split at ht1
          case h_2 => cases ht1
          rename_i t
          cases ht1
          match st, hy, hk, ht, hlen with
          | x :: xs, hy, hk, ht, hlen =>
            have hl2 : xs.length + 1 = t.length + 1 := hlen
            have h60' : t.length + 1 ≤ 60 := h60
            have ht' : S.1 18 = nI (xs.length + 1) := ht
            simp only [h11, Nat.reduceEqDiff, not_false_eq_true, not_true, if_true, if_false, q_184 (show xs.length < 64 by omega) ht', Option.bind_some]
            rw [q_183 (p := xs.length) (by omega) rF_s]
            simp only [Option.bind_some]
            refine key _ _ _ rfl rfl (rc.tr (rc.F (k := 18) (v := nI xs.length) (by decide)) (rc.F (S := rK (rF S 18 (nI xs.length)) _) (by decide))) ?_ ?_
            · unfold ru_v; rw [if_neg h0, if_neg h1, if_pos h11]; exact rF_s
            · unfold ru_v; rw [if_neg h0, if_neg h1, if_pos h11]
              rw [show S.2.2.1 xs.length = x from hk.1]
              exact ru_k_push hk.2
        · rename_i h11
          have two : ∀ (y x : Int64) (xs : List Int64), st = y :: x :: xs → c i % 16 ≠ 15 → ru_v (c i) S.2.2.2.1 st = ru_1 (c i % 16) x y :: xs := by
            intro y x xs e _
            subst e
            unfold ru_v; rw [if_neg h0, if_neg h1, if_neg h11]
          have fin : ∀ (y x : Int64) (xs : List Int64), st = y :: x :: xs → c i % 16 ≠ 15 → ∃ (v : Int64) (S' : rS), ((d_184 g S).bind fun z_12 => (d_184 g z_12.2).bind fun z_17 => (d_185 g (nI (c i % 16)) z_17.1 z_12.1 z_17.2).bind fun z_22 => (d_183 g z_22.1 z_22.2).bind fun z_27 => l_186 g (n + 1) 1 (nI r) x2 (nI (i + (k + 1))) (nI i) (nI (c i % 16)) (nI (c i / 16)) z_27) = some (v, S') ∧ ru_s c S.2.2.2.1 (k + 1) i st = [v] ∧ (b = true → v = 0 ∨ v = 1) ∧ rc [18] [] S S' ∧ S'.2.2.2 = S.2.2.2 := by
            intro y x xs e h15
            have hv := two y x xs e h15
            subst e
            have h60' : xs.length + 1 + 1 ≤ 60 := by have := hlen; simp only [List.length_cons] at this; omega
            have hm : c i % 16 < 16 := Nat.mod_lt _ (by decide)
            rw [q_184 (p := xs.length + 1) (by omega) ht]
            simp only [Option.bind_some]
            rw [q_184 (p := xs.length) (by omega) rF_s]
            simp only [Option.bind_some]
            rw [q_185 hm h15 h0 h1]
            simp only [Option.bind_some]
            rw [q_183 (p := xs.length) (by omega) rF_s]
            simp only [Option.bind_some]
            refine key _ _ _ rfl rfl (rc.tr (rc.F (k := 18) (v := nI (xs.length + 1)) (by decide)) (rc.tr (rc.F (k := 18) (v := nI xs.length) (by decide)) (rc.F (S := rK (rF (rF S 18 (nI (xs.length + 1))) 18 (nI xs.length)) _) (by decide)))) ?_ ?_
            · rw [hv]; exact rF_s
            · rw [hv]
              rw [show S.2.2.1 xs.length = x from hk.2.1, show S.2.2.1 (xs.length + 1) = y from hk.1]
              exact ru_k_push hk.2.2
          have hcs : (¬ c i % 16 = 0) = True := eq_true h0
          have hcs1 : (¬ c i % 16 = 1) = True := eq_true h1
          have hcs2 : (¬ c i % 16 = 11) = True := eq_true h11
          simp only [hcs, hcs1, hcs2, if_true]
          split at ht1
          · rename_i h12
            split at ht1
            case h_2 => cases ht1
            match st, hy with
            | y :: x :: xs, hy => exact fin y x xs rfl (by omega)
          · split at ht1
            · cases ht1
            · rename_i h15
              split at ht1
              case h_2 => cases ht1
              match st, hy with
              | y :: x :: xs, hy => exact fin y x xs rfl h15
theorem q_186 {r : Nat} (hr : r < 6) {c : Nat → Nat} {b : Bool} {i e : Nat} (S : rS) (hg : 1000 ≤ g) (hie : i ≤ e) (he : e ≤ 400) (hc : ∀ j, j < e → S.2.1 3 (400 * r + j) = nI (c j) ∧ c j < 2147483648) (hok : ru_c c (e - i) i [] = some [b]) : ∃ (v : Int64) (S' : rS), d_186 g (nI r) (nI i) (nI e) S = some (v, S') ∧ ru_s c S.2.2.2.1 (e - i) i [] = [v] ∧ (b = true → v = 0 ∨ v = 1) ∧ rc [18] [] S S' ∧ S'.2.2.2 = S.2.2.2 := by
  obtain ⟨v, S', h1, h2, h3, h4, h5⟩ := q_l186 (g := g) hr (x2 := nI i) (e - i) i g (rF S 18 0) [] [] 0 0 (by omega) (by omega) (fun j hj => hc j (by omega)) rF_s trivial trivial hok
  rw [show i + (e - i) = e by omega] at h1
  exact ⟨v, S', h1, h2, h3, rc.tr (rc.F (by decide)) h4, h5⟩
end RV
