/-! shop: one clause, on both sides -/
def rdT (M : Nat → Nat → Int32) (p : Nat) (u : Nat → Int32) (T : Nat) : Prop := ∀ t, t < T → M (p + 1) t = u (80 + 2 * t) ∧ M (p + 2) t = u (81 + 2 * t) ∧ M (p + 3) t = u (16 + 5 * t)
def rdW (M : Nat → Nat → Int32) (p : Nat) (u : Nat → Int32) (W : Nat) : Prop := ∀ i, i < W → M (p + 4) i = u (96 + 2 * i) ∧ M (p + 5) i = u (97 + 2 * i)
def rdS (M : Nat → Nat → Int32) (p : Nat) (u : Nat → Int32) (Sa : Nat) : Prop := ∀ s, s < Sa → M (p + 6) s = u (108 + 3 * s) ∧ M (p + 7) s = u (109 + 3 * s) ∧ M (p + 8) s = u (110 + 3 * s)
def rdC (M : Nat → Nat → Int32) (p : Nat) (u : Nat → Int32) (C : Nat) : Prop := (∀ c, c < C → M (p + 9) c = u (120 + 4 * c) + nI 10 ∧ M (p + 10) c = u (121 + 4 * c) ∧ M (p + 11) c = u (122 + 4 * c) ∧ M (p + 12) c = u (123 + 4 * c)) ∧ (∀ c, C ≤ c → c < 5 → M (p + 10) c = 0 ∧ M (p + 12) c = 0)
def rdA (M : Nat → Nat → Int32) (p : Nat) (u : Nat → Int32) (T W C Sa : Nat) : Prop := M p 1 = u 4 ∧ M p 2 = u 5 ∧ M p 3 = u 6 ∧ M p 4 = nI T ∧ M p 8 = nI W ∧ M p 11 = nI Sa ∧ M p 15 = nI C
def zU (u : Nat → Int32) (T : Nat) : Prop := (∀ j, 7 ≤ j → j < 80 → j ≠ 10 → (∀ t, t < 8 → j ≠ 16 + 5 * t) → u j = nI 0) ∧ (∀ t, t < T → bd (u (16 + 5 * t)) 9)
/-- both stand at a, with the same shop so far, c clauses read -/
def shS (m : cM) (S : rS) (f : Nat → Int32) (n a p : Nat) (u : Nat → Int32) (T W C Sa c : Nat) : Prop := cs m f n (.inl a) ∧ sR m p ∧ (rdA m.1 p u T W C Sa ∧ rdT m.1 p u T ∧ rdW m.1 p u W ∧ rdS m.1 p u Sa ∧ rdC m.1 p u C) ∧ m.1 3 2 = nI c ∧ rg S f n a ∧ S.2.1 7 = u ∧ (shV u T W C Sa ∧ zU u T) ∧ S.1 14 = nI c ∧ c ≤ 40 ∧ (c = 0 → u 0 = nI 0) ∧ (0 < c → u 0 = nI 1) ∧ S.1 11 = nI 6
def fs (p : Nat) (m m' : cM) : Prop := (∀ b, b ≠ 1 → b ≠ 3 → b < p → m'.1 b = m.1 b) ∧ m'.2 = m.2
theorem fs.rf (p : Nat) (m : cM) : fs p m m := ⟨fun _ _ _ _ => rfl, rfl⟩
theorem fs.tr {p : Nat} {m m1 m2 : cM} (h : fs p m m1) (k : fs p m1 m2) : fs p m m2 := ⟨fun b h1 h2 h3 => (k.1 b h1 h2 h3).trans (h.1 b h1 h2 h3), k.2.trans h.2⟩
theorem fs.of {p : Nat} {m m' : cM} (h : c1 m m') : fs p m m' := ⟨fun b h1 _ _ => h.1 b h1, h.2⟩
theorem fs.W {p : Nat} {m : cM} {b k : Nat} {v : Int32} (h : p ≤ b) : fs p m (cW m b k v) := ⟨fun c _ _ h3 => cW_b (by omega), rfl⟩
theorem fs.W3 {p : Nat} {m : cM} {k : Nat} {v : Int32} : fs p m (cW m 3 k v) := ⟨fun c _ h2 _ => cW_b h2, rfl⟩
section RD
variable {M M' : Nat → Nat → Int32} {p : Nat} {u u' : Nat → Int32} {T W C Sa : Nat}
theorem rdT.co (h : rdT M p u T) (hT : T ≤ 8) (e : ∀ i, 1 ≤ i → i ≤ 3 → M' (p + i) = M (p + i)) (e2 : ∀ t, t < T → u' (80 + 2 * t) = u (80 + 2 * t) ∧ u' (81 + 2 * t) = u (81 + 2 * t) ∧ u' (16 + 5 * t) = u (16 + 5 * t)) : rdT M' p u' T := fun t ht => by
  rw [e 1 (by omega) (by omega), e 2 (by omega) (by omega), e 3 (by omega) (by omega), (e2 t ht).1, (e2 t ht).2.1, (e2 t ht).2.2]
  exact h t ht
theorem rdW.co (h : rdW M p u W) (e : ∀ i, 4 ≤ i → i ≤ 5 → M' (p + i) = M (p + i)) (e2 : ∀ t, t < W → u' (96 + 2 * t) = u (96 + 2 * t) ∧ u' (97 + 2 * t) = u (97 + 2 * t)) : rdW M' p u' W := fun t ht => by
  rw [e 4 (by omega) (by omega), e 5 (by omega) (by omega), (e2 t ht).1, (e2 t ht).2]
  exact h t ht
theorem rdS.co (h : rdS M p u Sa) (e : ∀ i, 6 ≤ i → i ≤ 8 → M' (p + i) = M (p + i)) (e2 : ∀ t, t < Sa → u' (108 + 3 * t) = u (108 + 3 * t) ∧ u' (109 + 3 * t) = u (109 + 3 * t) ∧ u' (110 + 3 * t) = u (110 + 3 * t)) : rdS M' p u' Sa := fun t ht => by
  rw [e 6 (by omega) (by omega), e 7 (by omega) (by omega), e 8 (by omega) (by omega), (e2 t ht).1, (e2 t ht).2.1, (e2 t ht).2.2]
  exact h t ht
theorem rdC.co (h : rdC M p u C) (e : ∀ i, 9 ≤ i → i ≤ 12 → M' (p + i) = M (p + i)) (e2 : ∀ t, t < C → u' (120 + 4 * t) = u (120 + 4 * t) ∧ u' (121 + 4 * t) = u (121 + 4 * t) ∧ u' (122 + 4 * t) = u (122 + 4 * t) ∧ u' (123 + 4 * t) = u (123 + 4 * t)) : rdC M' p u' C := by
  refine ⟨fun t ht => ?_, fun t h1 h2 => ?_⟩
  · rw [e 9 (by omega) (by omega), e 10 (by omega) (by omega), e 11 (by omega) (by omega), e 12 (by omega) (by omega), (e2 t ht).1, (e2 t ht).2.1, (e2 t ht).2.2.1, (e2 t ht).2.2.2]
    exact h.1 t ht
  · rw [e 10 (by omega) (by omega), e 12 (by omega) (by omega)]
    exact h.2 t h1 h2
end RD
theorem yn1 : ∀ (S : rS), yn (some (1, S)) = some (1, S) := fun _ => rfl
theorem yn0 : ∀ (S : rS), yn (some (0, S)) = some (0, S) := fun _ => rfl
section SHK
variable {g : Nat} {f : Nat → Int32} {n a p : Nat} {m : cM} {S : rS} {u : Nat → Int32} {T W C Sa c : Nat}
/-- clauseHere, of a shop -/
theorem q_178 (hg : 1000 ≤ g) (h : rg S f n a) (h11 : S.1 11 = nI 6) (h14 : S.1 14 = nI c) (hc : c ≤ 40) : (¬ isSh (tkn f n a) → d_178 g S = some (0, rF (rF S 8 (nI a)) 9 (nI (1 + 8 * a + 0)))) ∧ (isSh (tkn f n a) → c = 40 → d_178 g S = some (0, rF (rF S 8 (nI a)) 9 (nI (1 + 8 * a + 4)))) ∧ (isSh (tkn f n a) → c < 40 → d_178 g S = yn (d_176 g (nI a) (rF (rF S 8 (nI a)) 14 (nI (c + 1))))) := by
  have ha := h.a
  have e11 : (rF S 8 (nI a)).1 11 = 6 := by rw [rF_n (by decide)]; exact h11
  have e14 : (rF S 8 (nI a)).1 14 = nI c := by rw [rF_n (by decide)]; exact h14
  have q177 := q_177 (g := g) hg ha
  have e0 : d_178 g S = j_178_24 g (nI a) 1 (rF S 8 (nI a)) := by
    unfold d_178
    rw [q_146s hg h, Option.bind_some]
    show (if ¬ (rF S 8 (nI a)).1 11 = 6 then _ else j_178_24 g ((rF S 8 (nI a)).1 8) 1 (rF S 8 (nI a))) = _
    rw [e11, if_neg (fun z => z rfl), rF_s]
  have q145 : ∀ k : Nat, d_145 g (nI k) (nI a) (rF S 8 (nI a)) = some (0, rF (rF S 8 (nI a)) 9 (nI (1 + 8 * a + k))) := fun k => q_145s ha.1
  rw [e0]
  unfold j_178_24
  rw [if_neg n_1]
  refine ⟨fun hs => ?_, fun hs h40 => ?_, fun hs h40 => ?_⟩
  · rw [q177.2 hs, Option.bind_some, if_neg n_0]
    unfold j_178_49
    rw [show d_145 g 0 (nI a) (rF S 8 (nI a)) = _ from q145 0, Option.bind_some, if_pos (Or.inl rfl)]
  · rw [q177.1 hs, Option.bind_some, if_pos n_1]
    unfold j_178_56 j_178_71
    rw [if_neg n_1, e14, h40, if_neg (show ¬ ¬ nI 40 = 40 from fun z => z rfl), show d_145 g 4 (nI a) (rF S 8 (nI a)) = _ from q145 4, Option.bind_some, if_pos (Or.inl rfl)]
  · rw [q177.1 hs, Option.bind_some, if_pos n_1]
    unfold j_178_56 j_178_71
    rw [if_neg n_1, e14, if_pos (show ¬ nI c = 40 from fun z => by have := (nI_eq (b := 40) (by omega) (by omega)).mp z; omega), if_neg n_1, show nI c + 1 = nI (c + 1) from nI_1 c]
    rfl
/-- clause, of the class -/
theorem p_61n (h : cs m f n (.inl a)) (hs : ¬ isSh (tkn f n a)) : ∃ m', d_61 g m = some m' ∧ c1 m m' ∧ cs m' f n (.inr (1 + 8 * a + 0)) := by
  have ht : m.1 1 3 = nI (tkn f n a) := h.tk
  have hb := tkn_b (f := f) (n := n) (a := a)
  obtain ⟨t, hT⟩ : ∃ t, t = tkn f n a := ⟨_, rfl⟩
  rw [← hT] at ht hb hs
  unfold isSh at hs
  obtain ⟨m', y1, y2, y3⟩ := p_83s (g := g) (k := 0) (by omega) h
  refine ⟨m', ?_, y2, y3⟩
  unfold d_61
  rw [ht, if_neg (show ¬ nI t = 0 from fun z => by have := (nI_eq (b := 0) (by omega) (by omega)).mp z; omega), if_neg (show ¬ nI t = 2 from fun z => by have := (nI_eq (b := 2) (by omega) (by omega)).mp z; omega), p_138, Option.bind_some, if_neg (show ¬ ((8 : Int32) ≤ nI t ∧ nI t ≤ 14) from fun z => by
    have h1 := (nI_leI (a := 8) (by omega) (by omega)).mp z.1
    have h2 := (nI_leI (b := 14) (by omega) (by omega)).mp z.2
    omega), if_neg n_0, show d_83 g 0 m = _ from y1]
  rfl
theorem p_61j (h : cs m f n (.inl a)) (hs : isSh (tkn f n a)) : d_61 g m = j_61_37 g (nI (tkn f n a)) m := by
  have ht : m.1 1 3 = nI (tkn f n a) := h.tk
  unfold d_61
  rw [ht]
  rcases hs with e | e | e | e | e | e | e | e | e <;> rw [e]
  · rw [if_pos (show nI 0 = 0 from rfl)]
  · rw [if_neg (show ¬ nI 2 = 0 by decide), if_pos (show nI 2 = 2 from rfl)]
  all_goals
    rw [if_neg (by decide), if_neg (by decide), p_138, Option.bind_some, if_pos (by decide)]
theorem p_61f {t : Nat} (h : cs m f n (.inl a)) (h62 : d_62 g (nI t) m = some 1) : ∃ m', j_61_37 g (nI t) m = some m' ∧ c1 m m' ∧ cs m' f n (.inr (1 + 8 * a + 4)) := by
  obtain ⟨m', y1, y2, y3⟩ := p_83s (g := g) (k := 4) (by omega) h
  refine ⟨m', ?_, y2, y3⟩
  unfold j_61_37
  rw [h62, Option.bind_some, if_neg n_1, show d_83 g 4 m = _ from y1]
  rfl
theorem p_62a {t : Nat} (hc : m.1 3 2 = nI c) (hc4 : c ≤ 40) (h : c = 40 ∨ (t = 8 ∧ 0 < c) ∨ (t ≠ 8 ∧ t ≤ 35 ∧ c = 0)) : d_62 g (nI t) m = some 1 := by
  unfold d_62 j_62_20 j_62_32
  rw [hc]
  rcases h with h | ⟨h1, h2⟩ | ⟨h1, h3, h2⟩
  · rw [if_pos (show (40 : Int32) ≤ nI c from nI_le (a := 40) (by omega) (by omega))]
  · by_cases h40 : c = 40
    · rw [if_pos (show (40 : Int32) ≤ nI c from nI_le (a := 40) (by omega) (by omega))]
    · rw [if_neg (show ¬ (40 : Int32) ≤ nI c from nI_ge (b := 40) (by omega) (by omega)), h1, if_neg (show ¬ ¬ nI 8 = 8 from fun z => z rfl), if_pos (show ¬ nI c = 0 from nI_ne0 (by omega) (by omega)), if_neg n_1]
  · subst h2
    rw [if_neg (show ¬ (40 : Int32) ≤ nI 0 by decide), if_pos (show ¬ nI t = 8 from fun z => h1 ((nI_eq (b := 8) (by omega) (by omega)).mp z)), if_neg (show ¬ ¬ nI 0 = 0 from fun z => z rfl), if_neg (show ¬ (0 : Int32) = 1 by decide)]
theorem p_62b {t : Nat} (hc : m.1 3 2 = nI c) (hc4 : c < 40) (h : (t = 8 ∧ c = 0) ∨ (t ≠ 8 ∧ t ≤ 35 ∧ 0 < c)) : ∃ x, d_62 g (nI t) m = j_62_32 g (nI t) x x m := by
  unfold d_62 j_62_20
  rw [hc, if_neg (show ¬ (40 : Int32) ≤ nI c from nI_ge (b := 40) (by omega) (by omega))]
  rcases h with ⟨h1, h2⟩ | ⟨h1, h3, h2⟩
  · subst h2
    rw [h1, if_neg (show ¬ ¬ nI 8 = 8 from fun z => z rfl), if_neg (show ¬ ¬ nI 0 = 0 from fun z => z rfl)]
    exact ⟨1, rfl⟩
  · rw [if_pos (show ¬ nI t = 8 from fun z => h1 ((nI_eq (b := 8) (by omega) (by omega)).mp z)), if_pos (show ¬ nI c = 0 from nI_ne0 (by omega) (by omega))]
    exact ⟨0, rfl⟩
theorem p_62_0 {x : Int32} {T : Nat} (hR : sR m p) (hT : m.1 p 4 = nI T) (hl : T ≤ 8) : j_62_32 g (nI 0) x x m = some (if T < 8 then 0 else 1) := by
  unfold j_62_32
  rw [if_pos rfl, if_pos (show nI 0 = 0 from rfl), hR.1, if_pos hR.2, hT]
  by_cases e : T < 8
  · rw [if_pos (show nI T < 8 from nI_lt (b := 8) e (by omega)), if_pos e]
  · rw [if_neg (show ¬ nI T < 8 from nI_nlt (b := 8) (by omega) (by omega)), if_neg e]
theorem p_62_2 {x : Int32} {T : Nat} (hR : sR m p) (hT : m.1 p 11 = nI T) (hl : T ≤ 4) : j_62_32 g (nI 2) x x m = some (if T < 4 then 0 else 1) := by
  unfold j_62_32
  rw [if_pos rfl, if_neg (show ¬ nI 2 = 0 by decide), if_neg (show ¬ nI 2 = 1 by decide), if_pos (show nI 2 = 2 from rfl), hR.1, if_pos hR.2, hT]
  by_cases e : T < 4
  · rw [if_pos (show nI T < 4 from nI_lt (b := 4) e (by omega)), if_pos e]
  · rw [if_neg (show ¬ nI T < 4 from nI_nlt (b := 4) (by omega) (by omega)), if_neg e]
theorem p_62_8 {x : Int32} : j_62_32 g (nI 8) x x m = some 0 := by
  unfold j_62_32
  rw [if_pos rfl, if_neg (show ¬ nI 8 = 0 by decide), if_neg (show ¬ nI 8 = 1 by decide), if_neg (show ¬ nI 8 = 2 by decide), if_neg (show ¬ nI 8 = 3 by decide), if_neg (show ¬ nI 8 = 4 by decide), if_neg (show ¬ nI 8 = 5 by decide), if_neg (show ¬ nI 8 = 6 by decide), if_neg (show ¬ nI 8 = 7 by decide), if_pos (show nI 8 = 8 from rfl)]
theorem p_62_9 {x : Int32} {T : Nat} (hR : sR m p) (hT : m.1 p 8 = nI T) (hl : T ≤ 6) : j_62_32 g (nI 9) x x m = some (if T < 6 then 0 else 1) := by
  unfold j_62_32
  rw [if_pos rfl, if_neg (show ¬ nI 9 = 0 by decide), if_neg (show ¬ nI 9 = 1 by decide), if_neg (show ¬ nI 9 = 2 by decide), if_neg (show ¬ nI 9 = 3 by decide), if_neg (show ¬ nI 9 = 4 by decide), if_neg (show ¬ nI 9 = 5 by decide), if_neg (show ¬ nI 9 = 6 by decide), if_neg (show ¬ nI 9 = 7 by decide), if_neg (show ¬ nI 9 = 8 by decide), if_pos (show nI 9 = 9 from rfl), hR.1, if_pos hR.2, hT]
  by_cases e : T < 6
  · rw [if_pos (show nI T < 6 from nI_lt (b := 6) e (by omega)), if_pos e]
  · rw [if_neg (show ¬ nI T < 6 from nI_nlt (b := 6) (by omega) (by omega)), if_neg e]
theorem p_62_10 {x : Int32} {T : Nat} (hR : sR m p) (hT : m.1 p 15 = nI T) (hl : T ≤ 5) : j_62_32 g (nI 10) x x m = some (if T < 5 then 0 else 1) := by
  unfold j_62_32
  rw [if_pos rfl, if_neg (show ¬ nI 10 = 0 by decide), if_neg (show ¬ nI 10 = 1 by decide), if_neg (show ¬ nI 10 = 2 by decide), if_neg (show ¬ nI 10 = 3 by decide), if_neg (show ¬ nI 10 = 4 by decide), if_neg (show ¬ nI 10 = 5 by decide), if_neg (show ¬ nI 10 = 6 by decide), if_neg (show ¬ nI 10 = 7 by decide), if_neg (show ¬ nI 10 = 8 by decide), if_neg (show ¬ nI 10 = 9 by decide), if_pos (show nI 10 = 10 from rfl), hR.1, if_pos hR.2, hT]
  by_cases e : T < 5
  · rw [if_pos (show nI T < 5 from nI_lt (b := 5) e (by omega)), if_pos e]
  · rw [if_neg (show ¬ nI T < 5 from nI_nlt (b := 5) (by omega) (by omega)), if_neg e]
theorem p_62_11 {x : Int32} {T : Nat} (hR : sR m p) (hT : m.1 p 15 = nI T) (hl : T ≤ 5) : j_62_32 g (nI 11) x x m = some (if T < 5 then 0 else 1) := by
  unfold j_62_32
  rw [if_pos rfl, if_neg (show ¬ nI 11 = 0 by decide), if_neg (show ¬ nI 11 = 1 by decide), if_neg (show ¬ nI 11 = 2 by decide), if_neg (show ¬ nI 11 = 3 by decide), if_neg (show ¬ nI 11 = 4 by decide), if_neg (show ¬ nI 11 = 5 by decide), if_neg (show ¬ nI 11 = 6 by decide), if_neg (show ¬ nI 11 = 7 by decide), if_neg (show ¬ nI 11 = 8 by decide), if_neg (show ¬ nI 11 = 9 by decide), if_neg (show ¬ nI 11 = 10 by decide), if_pos (show nI 11 = 11 from rfl), hR.1, if_pos hR.2, hT]
  by_cases e : T < 5
  · rw [if_pos (show nI T < 5 from nI_lt (b := 5) e (by omega)), if_pos e]
  · rw [if_neg (show ¬ nI T < 5 from nI_nlt (b := 5) (by omega) (by omega)), if_neg e]
theorem p_62_12 {x : Int32} {T : Nat} (hR : sR m p) (hT : m.1 p 15 = nI T) (hl : T ≤ 5) : j_62_32 g (nI 12) x x m = some (if T < 5 then 0 else 1) := by
  unfold j_62_32
  rw [if_pos rfl, if_neg (show ¬ nI 12 = 0 by decide), if_neg (show ¬ nI 12 = 1 by decide), if_neg (show ¬ nI 12 = 2 by decide), if_neg (show ¬ nI 12 = 3 by decide), if_neg (show ¬ nI 12 = 4 by decide), if_neg (show ¬ nI 12 = 5 by decide), if_neg (show ¬ nI 12 = 6 by decide), if_neg (show ¬ nI 12 = 7 by decide), if_neg (show ¬ nI 12 = 8 by decide), if_neg (show ¬ nI 12 = 9 by decide), if_neg (show ¬ nI 12 = 10 by decide), if_neg (show ¬ nI 12 = 11 by decide), if_pos (show nI 12 = 12 from rfl), hR.1, if_pos hR.2, hT]
  by_cases e : T < 5
  · rw [if_pos (show nI T < 5 from nI_lt (b := 5) e (by omega)), if_pos e]
  · rw [if_neg (show ¬ nI T < 5 from nI_nlt (b := 5) (by omega) (by omega)), if_neg e]
theorem p_62_13 {x : Int32} : j_62_32 g (nI 13) x x m = some 0 := by
  unfold j_62_32
  rw [if_pos rfl, if_neg (show ¬ nI 13 = 0 by decide), if_neg (show ¬ nI 13 = 1 by decide), if_neg (show ¬ nI 13 = 2 by decide), if_neg (show ¬ nI 13 = 3 by decide), if_neg (show ¬ nI 13 = 4 by decide), if_neg (show ¬ nI 13 = 5 by decide), if_neg (show ¬ nI 13 = 6 by decide), if_neg (show ¬ nI 13 = 7 by decide), if_neg (show ¬ nI 13 = 8 by decide), if_neg (show ¬ nI 13 = 9 by decide), if_neg (show ¬ nI 13 = 10 by decide), if_neg (show ¬ nI 13 = 11 by decide), if_neg (show ¬ nI 13 = 12 by decide), if_pos (show nI 13 = 13 from rfl)]
theorem p_62_14 {x : Int32} (hR : sR m p) (h3 : m.1 p 3 = nI 0 ∨ m.1 p 3 = nI 1) : j_62_32 g (nI 14) x x m = some (m.1 p 3) := by
  unfold j_62_32
  rw [if_pos rfl, if_neg (show ¬ nI 14 = 0 by decide), if_neg (show ¬ nI 14 = 1 by decide), if_neg (show ¬ nI 14 = 2 by decide), if_neg (show ¬ nI 14 = 3 by decide), if_neg (show ¬ nI 14 = 4 by decide), if_neg (show ¬ nI 14 = 5 by decide), if_neg (show ¬ nI 14 = 6 by decide), if_neg (show ¬ nI 14 = 7 by decide), if_neg (show ¬ nI 14 = 8 by decide), if_neg (show ¬ nI 14 = 9 by decide), if_neg (show ¬ nI 14 = 10 by decide), if_neg (show ¬ nI 14 = 11 by decide), if_neg (show ¬ nI 14 = 12 by decide), if_neg (show ¬ nI 14 = 13 by decide), if_pos (show nI 14 = 14 from rfl), hR.1, if_pos hR.2, if_pos (show m.1 p 3 = 0 ∨ m.1 p 3 = 1 from h3)]
theorem p_61_0 (hg : 1000 ≤ g) (h : cs m f n (.inl a)) (hR : sR m p) (hc : m.1 3 2 = nI c) (h62 : d_62 g (nI 0) m = some 0) : ∃ m1, cs m1 f n (.inl (bl f n (tke f n a))) ∧ sR m1 p ∧ c1 (cW m 3 2 (nI (c + 1))) m1 ∧ j_61_37 g (nI 0) m = (d_64 g m1).bind (fun z => some z) := by
  obtain ⟨m1, y1, y2, y3⟩ := p_84s (g := g) hg (h.W (b := 3) (k := 2) (v := nI (c + 1)) (by omega) (by omega))
  refine ⟨m1, y3, hR.W.c1 y2, y2, ?_⟩
  unfold j_61_37 j_61_194
  rw [h62, Option.bind_some, if_pos rfl, hc, show nI c + 1 = nI (c + 1) from nI_1 c, Option.bind_some, y1, Option.bind_some, if_pos (show nI 0 = 0 from rfl)]
theorem p_61_2 (hg : 1000 ≤ g) (h : cs m f n (.inl a)) (hR : sR m p) (hc : m.1 3 2 = nI c) (h62 : d_62 g (nI 2) m = some 0) : ∃ m1, cs m1 f n (.inl (bl f n (tke f n a))) ∧ sR m1 p ∧ c1 (cW m 3 2 (nI (c + 1))) m1 ∧ j_61_37 g (nI 2) m = (d_66 g m1).bind (fun z => some z) := by
  obtain ⟨m1, y1, y2, y3⟩ := p_84s (g := g) hg (h.W (b := 3) (k := 2) (v := nI (c + 1)) (by omega) (by omega))
  refine ⟨m1, y3, hR.W.c1 y2, y2, ?_⟩
  unfold j_61_37 j_61_194
  rw [h62, Option.bind_some, if_pos rfl, hc, show nI c + 1 = nI (c + 1) from nI_1 c, Option.bind_some, y1, Option.bind_some, if_neg (show ¬ nI 2 = 0 by decide), if_neg (show ¬ nI 2 = 1 by decide), if_pos (show nI 2 = 2 from rfl)]
theorem p_61_8 (hg : 1000 ≤ g) (h : cs m f n (.inl a)) (hR : sR m p) (hc : m.1 3 2 = nI c) (h62 : d_62 g (nI 8) m = some 0) : ∃ m1, cs m1 f n (.inl (bl f n (tke f n a))) ∧ sR m1 p ∧ c1 (cW m 3 2 (nI (c + 1))) m1 ∧ j_61_37 g (nI 8) m = (d_63 g m1).bind (fun z => some z) := by
  obtain ⟨m1, y1, y2, y3⟩ := p_84s (g := g) hg (h.W (b := 3) (k := 2) (v := nI (c + 1)) (by omega) (by omega))
  refine ⟨m1, y3, hR.W.c1 y2, y2, ?_⟩
  unfold j_61_37 j_61_194
  rw [h62, Option.bind_some, if_pos rfl, hc, show nI c + 1 = nI (c + 1) from nI_1 c, Option.bind_some, y1, Option.bind_some, if_neg (show ¬ nI 8 = 0 by decide), if_neg (show ¬ nI 8 = 1 by decide), if_neg (show ¬ nI 8 = 2 by decide), if_neg (show ¬ nI 8 = 3 by decide), if_neg (show ¬ nI 8 = 4 by decide), if_neg (show ¬ nI 8 = 5 by decide), if_neg (show ¬ nI 8 = 6 by decide), if_neg (show ¬ nI 8 = 7 by decide), if_pos (show nI 8 = 8 from rfl)]
theorem p_61_9 (hg : 1000 ≤ g) (h : cs m f n (.inl a)) (hR : sR m p) (hc : m.1 3 2 = nI c) (h62 : d_62 g (nI 9) m = some 0) : ∃ m1, cs m1 f n (.inl (bl f n (tke f n a))) ∧ sR m1 p ∧ c1 (cW m 3 2 (nI (c + 1))) m1 ∧ j_61_37 g (nI 9) m = (d_65 g m1).bind (fun z => some z) := by
  obtain ⟨m1, y1, y2, y3⟩ := p_84s (g := g) hg (h.W (b := 3) (k := 2) (v := nI (c + 1)) (by omega) (by omega))
  refine ⟨m1, y3, hR.W.c1 y2, y2, ?_⟩
  unfold j_61_37 j_61_194
  rw [h62, Option.bind_some, if_pos rfl, hc, show nI c + 1 = nI (c + 1) from nI_1 c, Option.bind_some, y1, Option.bind_some, if_neg (show ¬ nI 9 = 0 by decide), if_neg (show ¬ nI 9 = 1 by decide), if_neg (show ¬ nI 9 = 2 by decide), if_neg (show ¬ nI 9 = 3 by decide), if_neg (show ¬ nI 9 = 4 by decide), if_neg (show ¬ nI 9 = 5 by decide), if_neg (show ¬ nI 9 = 6 by decide), if_neg (show ¬ nI 9 = 7 by decide), if_neg (show ¬ nI 9 = 8 by decide), if_pos (show nI 9 = 9 from rfl)]
theorem p_61_10 (hg : 1000 ≤ g) (h : cs m f n (.inl a)) (hR : sR m p) (hc : m.1 3 2 = nI c) (h62 : d_62 g (nI 10) m = some 0) : ∃ m1, cs m1 f n (.inl (bl f n (tke f n a))) ∧ sR m1 p ∧ c1 (cW m 3 2 (nI (c + 1))) m1 ∧ j_61_37 g (nI 10) m = (d_67 g (nI 10) m1).bind (fun z => some z) := by
  obtain ⟨m1, y1, y2, y3⟩ := p_84s (g := g) hg (h.W (b := 3) (k := 2) (v := nI (c + 1)) (by omega) (by omega))
  refine ⟨m1, y3, hR.W.c1 y2, y2, ?_⟩
  unfold j_61_37 j_61_194
  rw [h62, Option.bind_some, if_pos rfl, hc, show nI c + 1 = nI (c + 1) from nI_1 c, Option.bind_some, y1, Option.bind_some, if_neg (show ¬ nI 10 = 0 by decide), if_neg (show ¬ nI 10 = 1 by decide), if_neg (show ¬ nI 10 = 2 by decide), if_neg (show ¬ nI 10 = 3 by decide), if_neg (show ¬ nI 10 = 4 by decide), if_neg (show ¬ nI 10 = 5 by decide), if_neg (show ¬ nI 10 = 6 by decide), if_neg (show ¬ nI 10 = 7 by decide), if_neg (show ¬ nI 10 = 8 by decide), if_neg (show ¬ nI 10 = 9 by decide), if_pos (show nI 10 = 10 from rfl)]
theorem p_61_11 (hg : 1000 ≤ g) (h : cs m f n (.inl a)) (hR : sR m p) (hc : m.1 3 2 = nI c) (h62 : d_62 g (nI 11) m = some 0) : ∃ m1, cs m1 f n (.inl (bl f n (tke f n a))) ∧ sR m1 p ∧ c1 (cW m 3 2 (nI (c + 1))) m1 ∧ j_61_37 g (nI 11) m = (d_67 g (nI 11) m1).bind (fun z => some z) := by
  obtain ⟨m1, y1, y2, y3⟩ := p_84s (g := g) hg (h.W (b := 3) (k := 2) (v := nI (c + 1)) (by omega) (by omega))
  refine ⟨m1, y3, hR.W.c1 y2, y2, ?_⟩
  unfold j_61_37 j_61_194
  rw [h62, Option.bind_some, if_pos rfl, hc, show nI c + 1 = nI (c + 1) from nI_1 c, Option.bind_some, y1, Option.bind_some, if_neg (show ¬ nI 11 = 0 by decide), if_neg (show ¬ nI 11 = 1 by decide), if_neg (show ¬ nI 11 = 2 by decide), if_neg (show ¬ nI 11 = 3 by decide), if_neg (show ¬ nI 11 = 4 by decide), if_neg (show ¬ nI 11 = 5 by decide), if_neg (show ¬ nI 11 = 6 by decide), if_neg (show ¬ nI 11 = 7 by decide), if_neg (show ¬ nI 11 = 8 by decide), if_neg (show ¬ nI 11 = 9 by decide), if_neg (show ¬ nI 11 = 10 by decide), if_pos (show nI 11 = 11 from rfl)]
theorem p_61_12 (hg : 1000 ≤ g) (h : cs m f n (.inl a)) (hR : sR m p) (hc : m.1 3 2 = nI c) (h62 : d_62 g (nI 12) m = some 0) : ∃ m1, cs m1 f n (.inl (bl f n (tke f n a))) ∧ sR m1 p ∧ c1 (cW m 3 2 (nI (c + 1))) m1 ∧ j_61_37 g (nI 12) m = (d_67 g (nI 12) m1).bind (fun z => some z) := by
  obtain ⟨m1, y1, y2, y3⟩ := p_84s (g := g) hg (h.W (b := 3) (k := 2) (v := nI (c + 1)) (by omega) (by omega))
  refine ⟨m1, y3, hR.W.c1 y2, y2, ?_⟩
  unfold j_61_37 j_61_194
  rw [h62, Option.bind_some, if_pos rfl, hc, show nI c + 1 = nI (c + 1) from nI_1 c, Option.bind_some, y1, Option.bind_some, if_neg (show ¬ nI 12 = 0 by decide), if_neg (show ¬ nI 12 = 1 by decide), if_neg (show ¬ nI 12 = 2 by decide), if_neg (show ¬ nI 12 = 3 by decide), if_neg (show ¬ nI 12 = 4 by decide), if_neg (show ¬ nI 12 = 5 by decide), if_neg (show ¬ nI 12 = 6 by decide), if_neg (show ¬ nI 12 = 7 by decide), if_neg (show ¬ nI 12 = 8 by decide), if_neg (show ¬ nI 12 = 9 by decide), if_neg (show ¬ nI 12 = 10 by decide), if_neg (show ¬ nI 12 = 11 by decide), if_pos (show nI 12 = 12 from rfl)]
theorem p_61_13 (hg : 1000 ≤ g) (h : cs m f n (.inl a)) (hR : sR m p) (hc : m.1 3 2 = nI c) (h62 : d_62 g (nI 13) m = some 0) : ∃ m1, cs m1 f n (.inl (bl f n (tke f n a))) ∧ sR m1 p ∧ c1 (cW m 3 2 (nI (c + 1))) m1 ∧ j_61_37 g (nI 13) m = (d_68 g m1).bind (fun z => some z) := by
  obtain ⟨m1, y1, y2, y3⟩ := p_84s (g := g) hg (h.W (b := 3) (k := 2) (v := nI (c + 1)) (by omega) (by omega))
  refine ⟨m1, y3, hR.W.c1 y2, y2, ?_⟩
  unfold j_61_37 j_61_194
  rw [h62, Option.bind_some, if_pos rfl, hc, show nI c + 1 = nI (c + 1) from nI_1 c, Option.bind_some, y1, Option.bind_some, if_neg (show ¬ nI 13 = 0 by decide), if_neg (show ¬ nI 13 = 1 by decide), if_neg (show ¬ nI 13 = 2 by decide), if_neg (show ¬ nI 13 = 3 by decide), if_neg (show ¬ nI 13 = 4 by decide), if_neg (show ¬ nI 13 = 5 by decide), if_neg (show ¬ nI 13 = 6 by decide), if_neg (show ¬ nI 13 = 7 by decide), if_neg (show ¬ nI 13 = 8 by decide), if_neg (show ¬ nI 13 = 9 by decide), if_neg (show ¬ nI 13 = 10 by decide), if_neg (show ¬ nI 13 = 11 by decide), if_neg (show ¬ nI 13 = 12 by decide), if_pos (show nI 13 = 13 from rfl)]
theorem p_61_14 (hg : 1000 ≤ g) (h : cs m f n (.inl a)) (hR : sR m p) (hc : m.1 3 2 = nI c) (h62 : d_62 g (nI 14) m = some 0) : ∃ m1, cs m1 f n (.inl (bl f n (tke f n a))) ∧ sR m1 p ∧ c1 (cW m 3 2 (nI (c + 1))) m1 ∧ j_61_37 g (nI 14) m = some (cW m1 p 3 1) := by
  obtain ⟨m1, y1, y2, y3⟩ := p_84s (g := g) hg (h.W (b := 3) (k := 2) (v := nI (c + 1)) (by omega) (by omega))
  have hR1 := hR.W.c1 y2
  refine ⟨m1, y3, hR1, y2, ?_⟩
  unfold j_61_37
  rw [h62, Option.bind_some, if_pos rfl, hc, show nI c + 1 = nI (c + 1) from nI_1 c, Option.bind_some, y1, Option.bind_some, if_neg (show ¬ nI 14 = 0 by decide), if_neg (show ¬ nI 14 = 1 by decide), if_neg (show ¬ nI 14 = 2 by decide), if_neg (show ¬ nI 14 = 3 by decide), if_neg (show ¬ nI 14 = 4 by decide), if_neg (show ¬ nI 14 = 5 by decide), if_neg (show ¬ nI 14 = 6 by decide), if_neg (show ¬ nI 14 = 7 by decide), if_neg (show ¬ nI 14 = 8 by decide), if_neg (show ¬ nI 14 = 9 by decide), if_neg (show ¬ nI 14 = 10 by decide), if_neg (show ¬ nI 14 = 11 by decide), if_neg (show ¬ nI 14 = 12 by decide), if_neg (show ¬ nI 14 = 13 by decide), if_pos (show nI 14 = 14 from rfl), hR1.1, if_pos hR1.2, Option.bind_some]
end SHK
