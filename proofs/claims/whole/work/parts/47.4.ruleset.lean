/-! rule: the reference's open signs -/
def str (x : Nat) : Nat := if x = 13 then 1 else if x = 12 then 2 else if x = 11 then 3 else 0
def lst (σ : List Nat) : Nat := str (σ.getD (σ.length - 1) 0)
def dpt : List Nat → Nat
  | [] => 0
  | x :: l => (if x = 11 ∨ x = 91 then 1 else 0) + dpt l
theorem dpt_a : ∀ (l1 l2 : List Nat), dpt (l1 ++ l2) = dpt l1 + dpt l2
  | [], l2 => by show dpt l2 = 0 + dpt l2; omega
  | x :: l1, l2 => by
    show (if x = 11 ∨ x = 91 then 1 else 0) + dpt (l1 ++ l2) = (if x = 11 ∨ x = 91 then 1 else 0) + dpt l1 + dpt l2
    rw [dpt_a l1 l2]
    omega
theorem lst_a {σ : List Nat} {x : Nat} : lst (σ ++ [x]) = str x := by
  unfold lst
  rw [List.length_append, show σ.length + [x].length - 1 = σ.length from rfl, gd_a]
theorem str_b {x : Nat} : str x ≤ 3 := by
  unfold str
  repeat' split
  all_goals omega
def stk (S : rS) (σ : List Nat) : Prop := S.1 16 = nI σ.length ∧ (∀ j, j < σ.length → S.2.1 15 j = nI (σ.getD j 0) ∧ σ.getD j 0 < 128) ∧ S.1 13 = nI (dpt σ) ∧ dpt σ ≤ 10
section SET
variable {g r : Nat} {f : Nat → Int32} {n a : Nat} {S : rS} {L σ : List Nat}
theorem stk.co {S' : rS} (h : stk S σ) (e1 : S'.1 16 = S.1 16) (e2 : S'.1 13 = S.1 13) (e3 : S'.2.1 15 = S.2.1 15) : stk S' σ := ⟨e1.trans h.1, by rw [e3]; exact h.2.1, e2.trans h.2.2.1, h.2.2.2⟩
theorem q_157 {x : Nat} (hx : x < 128) : d_157 g (nI x) S = some (nI (str x), S) := by
  unfold d_157 str
  by_cases h1 : x = 13
  · rw [if_neg (fun z => z (by rw [h1]; rfl)), if_pos h1]; rfl
  · rw [if_pos (show ¬ nI x = 13 from fun z => h1 ((nI_eq (b := 13) (by omega) (by omega)).mp z)), if_neg h1]
    by_cases h2 : x = 12
    · rw [if_neg (fun z => z (by rw [h2]; rfl)), if_pos h2]; rfl
    · rw [if_pos (show ¬ nI x = 12 from fun z => h2 ((nI_eq (b := 12) (by omega) (by omega)).mp z)), if_neg h2]
      by_cases h3 : x = 11
      · rw [if_neg (fun z => z (by rw [h3]; rfl)), if_pos h3]; rfl
      · rw [if_pos (show ¬ nI x = 11 from fun z => h3 ((nI_eq (b := 11) (by omega) (by omega)).mp z)), if_neg h3]; rfl
theorem set_stop {N k : Nat} (h : stk S σ) (hl : σ.length ≤ 400) (hk : k ≤ 3) (hs : lst σ < k) : l_158 g (N + 1) 0 (nI k) S = some S := by
  obtain ⟨h1, h2, h3, h4⟩ := h
  rw [l_158, if_pos rfl, h1]
  by_cases h0 : σ.length = 0
  · rw [h0, if_pos (show nI 0 ≤ 0 from Int32.le_refl _)]
  · have hj := h2 (σ.length - 1) (by omega)
    rw [if_neg (show ¬ nI σ.length ≤ 0 from nI_ge (a := 0) (by omega) (by omega)), show nI σ.length - 1 = nI (σ.length - 1) from k_sub (b := 1) (by omega), if_pos (k_in (show σ.length - 1 < 400 by omega) (by omega)), k_cl (show σ.length - 1 < 2147483648 by omega), hj.1, q_157 hj.2, Option.bind_some, if_pos (show nI (str (σ.getD (σ.length - 1) 0)) < nI k from nI_lt hs (by omega))]
theorem set_pop {N k x : Nat} (hr : r < 6) (h : stk S (σ ++ [x])) (hl : σ.length < 400) (hx : x = 11 ∨ x = 12 ∨ x = 13) (hk : k ≤ str x) (hc : rcd S r L) (hL : L.length < 400) : ∃ S', l_158 g (N + 1) 0 (nI k) S = l_158 g N 0 (nI k) S' ∧ stk S' σ ∧ rcd S' r (L ++ [x]) ∧ rfs r S S' ∧ (∀ j, j ≠ 13 → j ≠ 16 → S'.1 j = S.1 j) ∧ S'.2.1 0 = S.2.1 0 := by
  obtain ⟨h1, h2, h3, h4⟩ := h
  have e16 : S.1 16 = nI (σ.length + 1) := by rw [h1, List.length_append]; rfl
  have hj := h2 σ.length (by rw [List.length_append]; show σ.length < σ.length + 1; omega)
  rw [gd_a] at hj
  have hsb := str_b (x := x)
  have hd : dpt (σ ++ [x]) = dpt σ + if x = 11 then 1 else 0 := by
    rw [dpt_a]
    show dpt σ + ((if x = 11 ∨ x = 91 then 1 else 0) + 0) = _
    rcases hx with e | e | e <;> subst e <;> rfl
  obtain ⟨S1, y1, y2, y3, y4, y5⟩ := q_154 (g := g) (S := rF S 16 (nI σ.length)) (s := x) (v := 0) hr (hc.F (by decide)) hL (by omega) (by omega)
  have f16 : S1.1 16 = nI σ.length := by rw [y4, rF_s]
  have f15 : S1.2.1 15 = S.2.1 15 := y5 15 (by decide) (by decide)
  have e0 : l_158 g (N + 1) 0 (nI k) S = (if ¬ S1.2.1 15 σ.length = 11 then l_158 g N 0 (nI k) S1 else l_158 g N 0 (nI k) (rF S1 13 (S1.1 13 - 1))) := by
    rw [l_158, if_pos rfl, e16, if_neg (show ¬ nI (σ.length + 1) ≤ 0 from nI_ge (a := 0) (by omega) (by omega)), show nI (σ.length + 1) - 1 = nI σ.length from k_sub (a := σ.length + 1) (b := 1) (by omega), if_pos (k_in (show σ.length < 400 by omega) (by omega)), k_cl (show σ.length < 2147483648 by omega), hj.1, q_157 hj.2, Option.bind_some, if_neg (show ¬ nI (str x) < nI k from nI_nlt hk (by omega))]
    show (if aIn (S.1 16 - 1) 400 = true then (d_154 g ((S.2.1 15) (S.1 16 - 1).toNatClampNeg) 0 (rF S 16 (S.1 16 - 1))).bind _ else _) = _
    rw [e16, show nI (σ.length + 1) - 1 = nI σ.length from k_sub (a := σ.length + 1) (b := 1) (by omega), if_pos (k_in (show σ.length < 400 by omega) (by omega)), k_cl (show σ.length < 2147483648 by omega), hj.1, show d_154 g (nI x) 0 (rF S 16 (nI σ.length)) = some S1 from y1, Option.bind_some, f16, if_pos (k_in (show σ.length < 400 by omega) (by omega)), k_cl (show σ.length < 2147483648 by omega)]
  have hst : ∀ S2 : rS, S2.1 16 = nI σ.length → S2.2.1 15 = S.2.1 15 → S2.1 13 = nI (dpt σ) → stk S2 σ := fun S2 q1 q2 q3 => ⟨q1, fun j hj => by
    rw [q2]
    have := h2 j (by rw [List.length_append]; omega)
    rw [gd_l hj] at this
    exact this, q3, by rw [hd] at h4; omega⟩
  rw [e0, f15, hj.1]
  by_cases h11 : x = 11
  · rw [if_neg (show ¬ ¬ nI x = 11 from fun z => z (by rw [h11]; rfl))]
    refine ⟨_, rfl, hst _ (by rw [rF_n (by decide)]; exact f16) f15 ?_, y2.F (by decide), ((rfs.F (by decide)).tr y3).tr (rfs.F (by decide)), fun j j1 j2 => by rw [rF_n j1, y4, rF_n j2], y5 0 (by decide) (by decide)⟩
    rw [rF_s, y4, rF_n (by decide), h3, hd, if_pos h11]
    exact k_sub (a := dpt σ + 1) (b := 1) (by omega)
  · rw [if_pos (show ¬ nI x = 11 from fun z => h11 ((nI_eq (b := 11) (by omega) (by omega)).mp z))]
    refine ⟨S1, rfl, hst _ f16 f15 ?_, y2, (rfs.F (by decide)).tr y3, fun j j1 j2 => by rw [y4, rF_n j2], y5 0 (by decide) (by decide)⟩
    rw [y4, rF_n (by decide), h3, hd, if_neg h11, Nat.add_zero]
/-- signs that stand open behind σ, to be settled from k on -/
def pend (k : Nat) (π : List Nat) : Prop := ∀ x, x ∈ π → (x = 12 ∨ x = 13) ∧ k ≤ str x
theorem set_all {k : Nat} (hr : r < 6) (hk : k ≤ 3) (hs : lst σ < k) : ∀ (c : Nat) (π : List Nat) (S : rS) (L : List Nat) (N : Nat), π.length = c → stk S (σ ++ π) → pend k π → σ.length + c ≤ 400 → rcd S r L → L.length + c ≤ 400 → c + 1 ≤ N → ∃ S', l_158 g N 0 (nI k) S = some S' ∧ stk S' σ ∧ rcd S' r (L ++ π.reverse) ∧ rfs r S S' ∧ (∀ j, j ≠ 13 → j ≠ 16 → S'.1 j = S.1 j) ∧ S'.2.1 0 = S.2.1 0 := by
  intro c
  induction c with
  | zero =>
    intro π S L N hπ h hp hl hc hL hN
    obtain ⟨N, rfl⟩ : ∃ q, N = q + 1 := ⟨N - 1, by omega⟩
    have e : π = [] := List.eq_nil_of_length_eq_zero hπ
    subst e
    rw [List.append_nil] at h
    exact ⟨S, set_stop h (by omega) hk hs, h, by rw [List.reverse_nil, List.append_nil]; exact hc, rfs.rf _ _, fun _ _ _ => rfl, rfl⟩
  | succ c ih =>
    intro π S L N hπ h hp hl hc hL hN
    obtain ⟨N, rfl⟩ : ∃ q, N = q + 1 := ⟨N - 1, by omega⟩
    obtain ⟨τ, x, rfl⟩ : ∃ τ x, π = τ ++ [x] := by
      rcases List.eq_nil_or_concat π with e | ⟨τ, x, e⟩
      · rw [e] at hπ; cases hπ
      · exact ⟨τ, x, by rw [e, List.concat_eq_append]⟩
    have hτ : τ.length = c := by
      rw [List.length_append] at hπ
      have : τ.length + 1 = c + 1 := hπ
      omega
    have hx := hp x (List.mem_append_right _ (List.mem_singleton.mpr rfl))
    rw [← List.append_assoc] at h
    obtain ⟨S1, y1, y2, y3, y4, y5, y6⟩ := set_pop (g := g) (N := N) (k := k) hr h (by rw [List.length_append]; omega) (by rcases hx.1 with e | e <;> omega) hx.2 hc (by omega)
    obtain ⟨S2, z1, z2, z3, z4, z5, z6⟩ := ih τ S1 (L ++ [x]) N hτ y2 (fun w hw => hp w (List.mem_append_left _ hw)) (by omega) y3 (by rw [List.length_append]; show L.length + 1 + c ≤ 400; omega) (by omega)
    refine ⟨S2, y1.trans z1, z2, ?_, y4.tr z4, fun j j1 j2 => (z5 j j1 j2).trans (y5 j j1 j2), z6.trans y6⟩
    rw [List.reverse_append, ← List.append_assoc]
    exact z3
theorem q_l164 (h : stk S σ) (hl : σ.length ≤ 400) : ∀ (c i N : Nat), i + c = σ.length → c + 1 ≤ N → (∀ j, j < i → σ.getD j 0 ≠ 91) → ((∃ j, j < σ.length ∧ σ.getD j 0 = 91) → l_164 g N 0 (nI i) S = some (1, S)) ∧ ((∀ j, j < σ.length → σ.getD j 0 ≠ 91) → l_164 g N 0 (nI i) S = some (0, S)) := by
  obtain ⟨h1, h2, h3, h4⟩ := h
  intro c
  induction c with
  | zero =>
    intro i N hi hN hno
    obtain ⟨N, rfl⟩ : ∃ q, N = q + 1 := ⟨N - 1, by omega⟩
    have e : i = σ.length := by omega
    refine ⟨fun ⟨j, q1, q2⟩ => absurd q2 (hno j (by omega)), fun _ => ?_⟩
    rw [l_164, if_pos rfl, h1, if_pos (nI_le (by omega) (by omega))]
  | succ c ih =>
    intro i N hi hN hno
    obtain ⟨N, rfl⟩ : ∃ q, N = q + 1 := ⟨N - 1, by omega⟩
    have hj := h2 i (by omega)
    have e0 : l_164 g (N + 1) 0 (nI i) S = (if ¬ nI (σ.getD i 0) = 91 then l_164 g N 0 (nI (i + 1)) S else some (1, S)) := by
      rw [l_164, if_pos rfl, h1, if_neg (nI_ge (by omega) (by omega)), if_pos (k_in (show i < 400 by omega) (by omega)), k_cl (show i < 2147483648 by omega), hj.1, show nI i + 1 = nI (i + 1) from nI_1 i]
    rw [e0]
    by_cases h9 : σ.getD i 0 = 91
    · rw [if_neg (show ¬ ¬ nI (σ.getD i 0) = 91 from fun z => z (by rw [h9]; rfl))]
      exact ⟨fun _ => rfl, fun z => absurd h9 (z i (by omega))⟩
    · rw [if_pos (show ¬ nI (σ.getD i 0) = 91 from fun z => h9 ((nI_eq (b := 91) (by omega) (by omega)).mp z))]
      exact ih (i + 1) N (by omega) (by omega) (fun j hj => by
        by_cases e : j = i
        · rw [e]; exact h9
        · exact hno j (by omega))
theorem q_164 (hg : 1000 ≤ g) (h : stk S σ) (hl : σ.length ≤ 400) : ((∃ j, j < σ.length ∧ σ.getD j 0 = 91) → d_164 g S = some (1, S)) ∧ ((∀ j, j < σ.length → σ.getD j 0 ≠ 91) → d_164 g S = some (0, S)) := by
  unfold d_164
  exact q_l164 h hl σ.length 0 g (by omega) (by omega) (fun j hj => absurd hj (by omega))
/-- opens -/
theorem q_156 {x : Nat} (hx : x = 11 ∨ x = 91) (h : stk S σ) (hl : σ.length < 400) (h9 : S.1 9 = 0) (h8 : S.1 8 = nI a) : (dpt σ < 10 → ∃ S', d_156 g (nI x) S = some (1, S') ∧ stk S' (σ ++ [x]) ∧ rc [13, 16] [15] S S') ∧ (dpt σ = 10 → d_156 g (nI x) S = some (0, rF S 9 (nI (1 + 8 * a + 2)))) := by
  obtain ⟨h1, h2, h3, h4⟩ := h
  unfold d_156
  rw [h3]
  constructor
  · intro hd
    rw [if_pos (show ¬ nI (dpt σ) = 10 from fun z => by have := (nI_eq (b := 10) (by omega) (by omega)).mp z; omega), h1, if_pos (k_in hl (by omega)), k_cl (show σ.length < 2147483648 by omega), show nI σ.length + 1 = nI (σ.length + 1) from nI_1 _, show nI (dpt σ) + 1 = nI (dpt σ + 1) from nI_1 _]
    have hd1 : dpt (σ ++ [x]) = dpt σ + 1 := by
      rw [dpt_a]
      show dpt σ + ((if x = 11 ∨ x = 91 then 1 else 0) + 0) = _
      rw [if_pos hx]
    refine ⟨_, rfl, ⟨by rw [rF_s, List.length_append]; rfl, fun j hj => ?_, ?_, by omega⟩, ((rc.F (by decide)).tr (rc.A (by decide))).tr (rc.F (by decide))⟩
    · rw [List.length_append] at hj
      have hj : j < σ.length + 1 := hj
      show (rA (rF S 13 _) 15 _).2.1 15 j = _ ∧ _
      rw [rA_s]
      by_cases e : j = σ.length
      · subst e; rw [upd_s, gd_a]; exact ⟨rfl, by omega⟩
      · rw [upd_n e, gd_l (by omega)]; exact h2 j (by omega)
    · rw [rF_n (by decide)]
      rw [hd1]
      show (rF S 13 (nI (dpt σ + 1))).1 13 = nI (dpt σ + 1)
      exact rF_s
  · intro hd
    have e : (1 + 8 * nI a + 2 : Int32) = nI (1 + 8 * a + 2) := by
      rw [show (8 : Int32) = nI 8 from rfl, show (1 : Int32) = nI 1 from rfl, show (2 : Int32) = nI 2 from rfl, pk_mul, nI_add, nI_add]
    rw [hd, if_neg (show ¬ ¬ nI 10 = 10 from fun z => z rfl), h8, q_145 h9, e, Option.bind_some, if_pos (Or.inl rfl)]
end SET
