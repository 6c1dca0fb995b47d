/-! RULES: their code, the stack, what they come to -/
def ru_1 (s : Nat) (x y : Int64) : Int64 :=
  if s = 2 then x + y else if s = 3 then x - y else if s = 4 then x * y
  else if s = 5 then (if y = 0 then 0 else x / y)
  else if s = 6 then (if x < y then 1 else 0)
  else if s = 7 then (if x ≤ y then 1 else 0)
  else if s = 8 then (if x = y then 1 else 0)
  else if s = 9 then (if y ≤ x then 1 else 0)
  else if s = 10 then (if y < x then 1 else 0)
  else if s = 12 then x &&& y
  else if s = 14 then (if y = 0 then 0 else x - x / y * y)
  else x ||| y
/-- one sign of the code, c = sign + 16 * value -/
def ru_v (c : Nat) (wd : Nat → Int64) (st : List Int64) : List Int64 :=
  if c % 16 = 0 then (nI (c / 16)).toInt64 :: st
  else if c % 16 = 1 then wd (c / 16) :: st
  else if c % 16 = 11 then (match st with
    | x :: t => (1 - x) :: t
    | [] => [])
  else match st with
    | y :: x :: t => ru_1 (c % 16) x y :: t
    | _ => []
def ru_s (c : Nat → Nat) (wd : Nat → Int64) : Nat → Nat → List Int64 → List Int64
  | 0, _, st => st
  | n + 1, i, st => ru_s c wd n (i + 1) (ru_v (c i) wd st)
/-- what stands on the stack: true where it is 0 or 1 -/
def ru_t (c : Nat) (ts : List Bool) : Option (List Bool) :=
  if c % 16 = 0 then some (false :: ts)
  else if c % 16 = 1 then (if c / 16 < 8 then some (false :: ts) else none)
  else if c % 16 = 11 then (match ts with
    | true :: t => some (true :: t)
    | _ => none)
  else if c % 16 = 12 ∨ c % 16 = 13 then (match ts with
    | true :: true :: t => some (true :: t)
    | _ => none)
  else if c % 16 = 15 then none
  else match ts with
    | false :: false :: t => some ((decide (6 ≤ c % 16 ∧ c % 16 ≤ 10)) :: t)
    | _ => none
def ru_c (c : Nat → Nat) : Nat → Nat → List Bool → Option (List Bool)
  | 0, _, ts => some ts
  | n + 1, i, ts => if ts.length ≤ 60 then (ru_t (c i) ts).bind (ru_c c n (i + 1)) else none
def ru_y : List Bool → List Int64 → Prop
  | [], [] => True
  | b :: bs, x :: xs => (b = true → x = 0 ∨ x = 1) ∧ ru_y bs xs
  | _, _ => False
def ru_k (K : Nat → Int64) : List Int64 → Prop
  | [] => True
  | x :: t => K t.length = x ∧ ru_k K t
theorem ru_k_up {K : Nat → Int64} {v : Int64} {n : Nat} : ∀ {st : List Int64}, st.length ≤ n → ru_k K st → ru_k (vp_updL K n v) st
  | [], _, _ => trivial
  | x :: t, h, hk => by
    have h1 : t.length + 1 ≤ n := h
    exact ⟨by rw [updL_n (by omega)]; exact hk.1, ru_k_up (by omega) hk.2⟩
theorem ru_k_push {K : Nat → Int64} {v : Int64} {st : List Int64} (h : ru_k K st) : ru_k (vp_updL K st.length v) (v :: st) := ⟨updL_s, ru_k_up (Nat.le_refl _) h⟩
theorem ru_y_len : ∀ {ts : List Bool} {st : List Int64}, ru_y ts st → st.length = ts.length
  | [], [], _ => rfl
  | _ :: bs, _ :: xs, h => by
    show xs.length + 1 = bs.length + 1
    rw [ru_y_len h.2]
  | [], _ :: _, h => h.elim
  | _ :: _, [], h => h.elim
theorem i64_01 (c : Prop) [Decidable c] : (if c then (1 : Int64) else 0) = 0 ∨ (if c then (1 : Int64) else 0) = 1 := by
  by_cases h : c
  · rw [if_pos h]; exact Or.inr rfl
  · rw [if_neg h]; exact Or.inl rfl
set_option maxHeartbeats 1000000 in
theorem ru_y_v {c : Nat} {wd : Nat → Int64} {ts ts' : List Bool} {st : List Int64} (hy : ru_y ts st) (h : ru_t c ts = some ts') : ru_y ts' (ru_v c wd st) := by
  have hm : c % 16 < 16 := Nat.mod_lt _ (by decide)
  unfold ru_t at h
  unfold ru_v
  split at h
  · rename_i h0
    cases h
    rw [if_pos h0]
    exact ⟨fun e => (by cases e), hy⟩
  · rename_i h0
    rw [if_neg h0]
    split at h
    · rename_i h1
      rw [if_pos h1]
      split at h
      · cases h
        exact ⟨fun e => (by cases e), hy⟩
      · cases h
    · rename_i h1
      rw [if_neg h1]
      split at h
      · rename_i h11
        rw [if_pos h11]
        split at h
        · rename_i t
          cases h
          match st, hy with
          | x :: xs, hy =>
            refine ⟨fun _ => ?_, hy.2⟩
            rcases hy.1 rfl with e | e
            · subst e; exact Or.inr (by decide)
            · subst e; exact Or.inl (by decide)
        · cases h
      · rename_i h11
        rw [if_neg h11]
        split at h
        · rename_i h12
          split at h
          · rename_i t
            cases h
            match st, hy with
            | y :: x :: xs, hy =>
              refine ⟨fun _ => ?_, hy.2.2⟩
              have hx := hy.2.1 rfl
              have hz := hy.1 rfl
              rcases h12 with e | e
              · rw [e]
                rcases hx with e1 | e1 <;> rcases hz with e2 | e2 <;> subst e1 <;> subst e2 <;> decide
              · rw [e]
                rcases hx with e1 | e1 <;> rcases hz with e2 | e2 <;> subst e1 <;> subst e2 <;> decide
          · cases h
        · rename_i h12
          split at h
          · cases h
          · split at h
            · rename_i t
              cases h
              match st, hy with
              | y :: x :: xs, hy =>
                refine ⟨fun hb => ?_, hy.2.2⟩
                have h6 := of_decide_eq_true hb
                show ru_1 (c % 16) x y = 0 ∨ ru_1 (c % 16) x y = 1
                have h5 : c % 16 = 6 ∨ c % 16 = 7 ∨ c % 16 = 8 ∨ c % 16 = 9 ∨ c % 16 = 10 := by omega
                rcases h5 with e | e | e | e | e <;> rw [e] <;> exact i64_01 _
            · cases h
theorem k_and15 {a : Nat} (h : a < 2147483648) : nI a &&& nI 15 = nI (a % 16) := pk_andN (by omega) 4 (by decide)
theorem k_shr4 {a : Nat} (h : a < 2147483648) : nI a >>> (nI 4 &&& nI 31) = nI (a / 16) := pk_shrN (by omega) _ 4 (by decide)
theorem i64_ll {x y : Int64} (h : x ≤ y) (k : y < x) : False := by
  have h1 := Int64.le_iff_toInt_le.mp h
  have h2 := Int64.lt_iff_toInt_lt.mp k
  omega
section RU
variable {g : Nat} {S : rS}
theorem q_183 {v : Int64} {p : Nat} (hp : p < 64) (h : S.1 18 = nI p) : d_183 g v S = some (rF (rK S (vp_updL S.2.2.1 p v)) 18 (nI (p + 1))) := by
  simp (disch := omega) only [d_183, h, lit_nI, nI_add, k_in, k_cl, if_true]
theorem q_184 {p : Nat} (hp : p < 64) (h : S.1 18 = nI (p + 1)) : d_184 g S = some (S.2.2.1 p, rF S 18 (nI p)) := by
  simp (disch := omega) only [d_184, h, lit_nI, k_sub, k_in, k_cl, if_true, Nat.add_sub_cancel]
theorem q_185 {s : Nat} {x y : Int64} (hs : s < 16) (h15 : s ≠ 15) (h0 : s ≠ 0) (h1 : s ≠ 1) : d_185 g (nI s) x y S = some (ru_1 s x y, S) := by
  have h : s = 2 ∨ s = 3 ∨ s = 4 ∨ s = 5 ∨ s = 6 ∨ s = 7 ∨ s = 8 ∨ s = 9 ∨ s = 10 ∨ s = 11 ∨ s = 12 ∨ s = 13 ∨ s = 14 := by omega
  unfold d_185
  simp only [lg_cmp_ge, lg_cmp_gt, lg_cmp_lt, lg_cmp_le, lg_cmp_eq]
  rcases h with e | e | e | e | e | e | e | e | e | e | e | e | e <;> subst e <;> simp (disch := omega) only [lit_nI, k_eq, ru_1, Nat.reduceEqDiff, if_true, if_false] <;> (repeat' split) <;> first | (simp_all; done) | (exfalso; rename_i ha hb; exact i64_ll ha hb) | (exfalso; rename_i ha hb; exact i64_ll hb ha)
end RU
