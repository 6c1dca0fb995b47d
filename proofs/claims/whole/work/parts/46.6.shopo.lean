/-! READERS: signs on both sides; shop: all clauses -/
def byR (f : Nat → Int32) (n : Nat) : Prop := ∀ i, i < n → -128 ≤ (f i).toInt ∧ (f i).toInt ≤ 127
theorem by_t : ∀ k : Nat, k < 256 → (Int32.ofInt ((k : Int) - 128) &&& 255) = nI (if k < 128 then k + 128 else k - 128) := by decide +kernel
theorem by255 {x : Int32} (h1 : -128 ≤ x.toInt) (h2 : x.toInt ≤ 127) : ∃ k, k < 256 ∧ x &&& 255 = nI k ∧ (∀ c, c < 128 → (x = nI c ↔ k = c)) := by
  obtain ⟨k0, hk⟩ : ∃ k0 : Nat, x.toInt = (k0 : Int) - 128 := ⟨(x.toInt + 128).toNat, by omega⟩
  have hx : x = Int32.ofInt ((k0 : Int) - 128) := by rw [← hk, Int32.ofInt_toInt]
  have ht := by_t k0 (by omega)
  rw [← hx] at ht
  refine ⟨_, ?_, ht, fun c hc => ?_⟩
  · split <;> omega
  · rw [← Int32.toInt_inj, nI_toInt (by omega), hk]
    split <;> omega
section BY
variable {f : Nat → Int32} {n a : Nat}
theorem see_iff (hb : byR f n) {ch : Nat} (hc : ch < 128) : ((if a < n then f a &&& 255 else -1) = nI ch) ↔ (a < n ∧ f a = nI ch) := by
  by_cases h : a < n
  · rw [if_pos h]
    obtain ⟨k, h1, h2, h3⟩ := by255 (hb a h).1 (hb a h).2
    rw [h2, h3 ch hc, nI_eq (by omega) (by omega)]
    exact ⟨fun z => ⟨h, z⟩, fun z => z.2⟩
  · rw [if_neg h]
    exact ⟨fun z => absurd z.symm (k_ne1 (by omega)), fun z => absurd z.1 h⟩
theorem see_n1 (hb : byR f n) : ((if a < n then f a &&& 255 else -1) = (-1 : Int32)) ↔ n ≤ a := by
  by_cases h : a < n
  · rw [if_pos h]
    obtain ⟨k, h1, h2, h3⟩ := by255 (hb a h).1 (hb a h).2
    rw [h2]
    exact ⟨fun z => absurd z (k_ne1 (by omega)), fun z => by omega⟩
  · rw [if_neg h]
    exact ⟨fun _ => by omega, fun _ => rfl⟩
theorem tkn_c {ch : Nat} (h : a < n) (hf : f a = nI ch) (hc : ch < 128) (hd : ch < 48 ∨ 57 < ch) (hl : ch < 97 ∨ 122 < ch) : tkn f n a = sgT (f a) (eqA f n a) ∧ tke f n a = a + (if sgT (f a) (eqA f n a) = 32 ∨ sgT (f a) (eqA f n a) = 34 then 2 else 1) := by
  have h1 : ¬ isDg f a = true := fun z => by
    obtain ⟨d, d1, d2⟩ := isDg_of z
    rw [hf] at d2
    have := (nI_eq (by omega) (by omega)).mp d2
    omega
  have h2 : ¬ isLt f a = true := fun z => by
    obtain ⟨d, d1, d2, d3⟩ := isLt_of z
    rw [hf] at d3
    have := (nI_eq (by omega) (by omega)).mp d3
    omega
  unfold tkn tke
  rw [if_neg (by omega), if_neg h1, if_neg h2, if_neg (by omega), if_neg h1, if_neg h2]
  exact ⟨rfl, rfl⟩
theorem sg_23 {c : Int32} {q : Bool} : sgT c q = 23 ↔ c = 59 := by
  constructor
  · intro h
    unfold sgT at h
    repeat' split at h
    all_goals first | assumption | omega
  · intro h
    subst h
    cases q <;> decide
theorem tk_23 : tkn f n a = 23 ↔ (a < n ∧ f a = nI 59) := by
  constructor
  · intro h
    obtain ⟨h1, h2, h3, h4, h5⟩ := tkn_s (f := f) (n := n) (a := a) (by omega)
    exact ⟨h1, sg_23.mp (h4.symm.trans h)⟩
  · intro h
    rw [(tkn_c h.1 h.2 (by omega) (by omega) (by omega)).1]
    exact sg_23.mpr h.2
theorem te_23 (h : tkn f n a = 23) : tke f n a = a + 1 := by
  obtain ⟨h1, h2, h3, h4, h5⟩ := tkn_s (f := f) (n := n) (a := a) (by omega)
  rw [h5, ← h4, h, if_neg (by omega)]
theorem sg_24 {c : Int32} {q : Bool} : sgT c q = 24 ↔ c = 91 := by
  constructor
  · intro h
    unfold sgT at h
    repeat' split at h
    all_goals first | assumption | omega
  · intro h
    subst h
    cases q <;> decide
theorem tk_24 : tkn f n a = 24 ↔ (a < n ∧ f a = nI 91) := by
  constructor
  · intro h
    obtain ⟨h1, h2, h3, h4, h5⟩ := tkn_s (f := f) (n := n) (a := a) (by omega)
    exact ⟨h1, sg_24.mp (h4.symm.trans h)⟩
  · intro h
    rw [(tkn_c h.1 h.2 (by omega) (by omega) (by omega)).1]
    exact sg_24.mpr h.2
theorem te_24 (h : tkn f n a = 24) : tke f n a = a + 1 := by
  obtain ⟨h1, h2, h3, h4, h5⟩ := tkn_s (f := f) (n := n) (a := a) (by omega)
  rw [h5, ← h4, h, if_neg (by omega)]
theorem sg_25 {c : Int32} {q : Bool} : sgT c q = 25 ↔ c = 93 := by
  constructor
  · intro h
    unfold sgT at h
    repeat' split at h
    all_goals first | assumption | omega
  · intro h
    subst h
    cases q <;> decide
theorem tk_25 : tkn f n a = 25 ↔ (a < n ∧ f a = nI 93) := by
  constructor
  · intro h
    obtain ⟨h1, h2, h3, h4, h5⟩ := tkn_s (f := f) (n := n) (a := a) (by omega)
    exact ⟨h1, sg_25.mp (h4.symm.trans h)⟩
  · intro h
    rw [(tkn_c h.1 h.2 (by omega) (by omega) (by omega)).1]
    exact sg_25.mpr h.2
theorem te_25 (h : tkn f n a = 25) : tke f n a = a + 1 := by
  obtain ⟨h1, h2, h3, h4, h5⟩ := tkn_s (f := f) (n := n) (a := a) (by omega)
  rw [h5, ← h4, h, if_neg (by omega)]
theorem sg_26 {c : Int32} {q : Bool} : sgT c q = 26 ↔ c = 43 := by
  constructor
  · intro h
    unfold sgT at h
    repeat' split at h
    all_goals first | assumption | omega
  · intro h
    subst h
    cases q <;> decide
theorem tk_26 : tkn f n a = 26 ↔ (a < n ∧ f a = nI 43) := by
  constructor
  · intro h
    obtain ⟨h1, h2, h3, h4, h5⟩ := tkn_s (f := f) (n := n) (a := a) (by omega)
    exact ⟨h1, sg_26.mp (h4.symm.trans h)⟩
  · intro h
    rw [(tkn_c h.1 h.2 (by omega) (by omega) (by omega)).1]
    exact sg_26.mpr h.2
theorem te_26 (h : tkn f n a = 26) : tke f n a = a + 1 := by
  obtain ⟨h1, h2, h3, h4, h5⟩ := tkn_s (f := f) (n := n) (a := a) (by omega)
  rw [h5, ← h4, h, if_neg (by omega)]
theorem sg_27 {c : Int32} {q : Bool} : sgT c q = 27 ↔ c = 45 := by
  constructor
  · intro h
    unfold sgT at h
    repeat' split at h
    all_goals first | assumption | omega
  · intro h
    subst h
    cases q <;> decide
theorem tk_27 : tkn f n a = 27 ↔ (a < n ∧ f a = nI 45) := by
  constructor
  · intro h
    obtain ⟨h1, h2, h3, h4, h5⟩ := tkn_s (f := f) (n := n) (a := a) (by omega)
    exact ⟨h1, sg_27.mp (h4.symm.trans h)⟩
  · intro h
    rw [(tkn_c h.1 h.2 (by omega) (by omega) (by omega)).1]
    exact sg_27.mpr h.2
theorem te_27 (h : tkn f n a = 27) : tke f n a = a + 1 := by
  obtain ⟨h1, h2, h3, h4, h5⟩ := tkn_s (f := f) (n := n) (a := a) (by omega)
  rw [h5, ← h4, h, if_neg (by omega)]
theorem sg_28 {c : Int32} {q : Bool} : sgT c q = 28 ↔ c = 42 := by
  constructor
  · intro h
    unfold sgT at h
    repeat' split at h
    all_goals first | assumption | omega
  · intro h
    subst h
    cases q <;> decide
theorem tk_28 : tkn f n a = 28 ↔ (a < n ∧ f a = nI 42) := by
  constructor
  · intro h
    obtain ⟨h1, h2, h3, h4, h5⟩ := tkn_s (f := f) (n := n) (a := a) (by omega)
    exact ⟨h1, sg_28.mp (h4.symm.trans h)⟩
  · intro h
    rw [(tkn_c h.1 h.2 (by omega) (by omega) (by omega)).1]
    exact sg_28.mpr h.2
theorem te_28 (h : tkn f n a = 28) : tke f n a = a + 1 := by
  obtain ⟨h1, h2, h3, h4, h5⟩ := tkn_s (f := f) (n := n) (a := a) (by omega)
  rw [h5, ← h4, h, if_neg (by omega)]
theorem sg_29 {c : Int32} {q : Bool} : sgT c q = 29 ↔ c = 47 := by
  constructor
  · intro h
    unfold sgT at h
    repeat' split at h
    all_goals first | assumption | omega
  · intro h
    subst h
    cases q <;> decide
theorem tk_29 : tkn f n a = 29 ↔ (a < n ∧ f a = nI 47) := by
  constructor
  · intro h
    obtain ⟨h1, h2, h3, h4, h5⟩ := tkn_s (f := f) (n := n) (a := a) (by omega)
    exact ⟨h1, sg_29.mp (h4.symm.trans h)⟩
  · intro h
    rw [(tkn_c h.1 h.2 (by omega) (by omega) (by omega)).1]
    exact sg_29.mpr h.2
theorem te_29 (h : tkn f n a = 29) : tke f n a = a + 1 := by
  obtain ⟨h1, h2, h3, h4, h5⟩ := tkn_s (f := f) (n := n) (a := a) (by omega)
  rw [h5, ← h4, h, if_neg (by omega)]
theorem sg_30 {c : Int32} {q : Bool} : sgT c q = 30 ↔ c = 37 := by
  constructor
  · intro h
    unfold sgT at h
    repeat' split at h
    all_goals first | assumption | omega
  · intro h
    subst h
    cases q <;> decide
theorem tk_30 : tkn f n a = 30 ↔ (a < n ∧ f a = nI 37) := by
  constructor
  · intro h
    obtain ⟨h1, h2, h3, h4, h5⟩ := tkn_s (f := f) (n := n) (a := a) (by omega)
    exact ⟨h1, sg_30.mp (h4.symm.trans h)⟩
  · intro h
    rw [(tkn_c h.1 h.2 (by omega) (by omega) (by omega)).1]
    exact sg_30.mpr h.2
theorem te_30 (h : tkn f n a = 30) : tke f n a = a + 1 := by
  obtain ⟨h1, h2, h3, h4, h5⟩ := tkn_s (f := f) (n := n) (a := a) (by omega)
  rw [h5, ← h4, h, if_neg (by omega)]
theorem sg_33 {c : Int32} {q : Bool} : sgT c q = 33 ↔ c = 61 := by
  constructor
  · intro h
    unfold sgT at h
    repeat' split at h
    all_goals first | assumption | omega
  · intro h
    subst h
    cases q <;> decide
theorem tk_33 : tkn f n a = 33 ↔ (a < n ∧ f a = nI 61) := by
  constructor
  · intro h
    obtain ⟨h1, h2, h3, h4, h5⟩ := tkn_s (f := f) (n := n) (a := a) (by omega)
    exact ⟨h1, sg_33.mp (h4.symm.trans h)⟩
  · intro h
    rw [(tkn_c h.1 h.2 (by omega) (by omega) (by omega)).1]
    exact sg_33.mpr h.2
theorem te_33 (h : tkn f n a = 33) : tke f n a = a + 1 := by
  obtain ⟨h1, h2, h3, h4, h5⟩ := tkn_s (f := f) (n := n) (a := a) (by omega)
  rw [h5, ← h4, h, if_neg (by omega)]
end BY
section SLP
variable {g : Nat} {f : Nat → Int32} {n p : Nat}
/-- how the reading of a shop ends -/
def shE (m m' : cM) (S S' : rS) (v p : Nat) : Prop := fs p m m' ∧ m'.1 1 1 = m.1 1 1 ∧ rc [1, 8, 9, 10, 14] [7] S S' ∧ S'.1 1 = 0 ∧ v < 4000 ∧ (v ≠ 0 → S'.1 9 = nI v) ∧ (v = 0 → ∃ T W C Sa, vX m'.1 p (S'.2.1 7) T W C Sa ∧ m'.1 p 0 = 1 ∧ S'.2.1 7 0 = nI 1)
theorem l60_2 {N : Nat} {x2 : Int32} {m : cM} (hR : sR m p) : l_60 g (N + 1) 2 p x2 m = some (m.1 1 6, cW m p 0 1) ∨ p = 1 := by
  by_cases hp : p = 1
  · exact Or.inr hp
  · refine Or.inl ?_
    rw [l_60, if_neg (by decide), if_neg (by decide), if_pos rfl, hR.1, if_pos hR.2, Option.bind_some, cW_b (fun z => hp z.symm)]
theorem l179_2 {N : Nat} {x1 : Int32} {S : rS} : l_179 g (N + 1) 2 x1 S = some (if S.1 9 = 0 then 1 else 0, rF S 1 0) := by
  rw [l_179, if_neg (by decide), if_neg (by decide), if_pos rfl]
  by_cases h : S.1 9 = 0
  · rw [if_neg (fun z => z h), if_pos h]
  · rw [if_pos h, if_neg h]
theorem vX.W0 {M : Nat → Nat → Int32} {m : cM} {u : Nat → Int32} {T W C Sa : Nat} (h : vX m.1 p u T W C Sa) : vX (cW m p 0 1).1 p u T W C Sa := by
  obtain ⟨⟨⟨a1, a2, a3, a4, a5, a6, a7⟩, hT, hW, hS, hC⟩, hV, hZ⟩ := h
  have e : ∀ k, k ≠ 0 → (cW m p 0 1).1 p k = m.1 p k := fun k hk => cW_k hk
  refine ⟨⟨⟨by rw [e _ (by omega)]; exact a1, by rw [e _ (by omega)]; exact a2, by rw [e _ (by omega)]; exact a3, by rw [e _ (by omega)]; exact a4, by rw [e _ (by omega)]; exact a5, by rw [e _ (by omega)]; exact a6, by rw [e _ (by omega)]; exact a7⟩, hT.co hV.1.2 (fun i i1 i2 => cW_b (by omega)) (fun t ht => ⟨rfl, rfl, rfl⟩), hW.co (fun i i1 i2 => cW_b (by omega)) (fun t ht => ⟨rfl, rfl⟩), hS.co (fun i i1 i2 => cW_b (by omega)) (fun t ht => ⟨rfl, rfl, rfl⟩), hC.co (fun i i1 i2 => cW_b (by omega)) (fun t ht => ⟨rfl, rfl, rfl, rfl⟩)⟩, hV, hZ⟩
/-- both have failed -/
theorem lp_f {N N' i v : Nat} {m : cM} {S : rS} (hp : 406 ≤ p) (hR : sR m p) (h : cs m f n (.inr v)) (h9 : S.1 9 = nI v) (hi : i ≤ 400) : ∃ m' S', l_60 g (N + 3) 0 p (nI i) m = some (nI v, m') ∧ l_179 g (N' + 3) 0 0 S = some (if v = 0 then 1 else 0, S') ∧ shE m m' S S' v p := by
  obtain ⟨h1, h2, h3, h4, h5, h6, h7⟩ := id h
  have e0 : l_60 g (N + 3) 0 p (nI i) m = l_60 g (N + 2) 1 p (nI i) m := by
    rw [l_60, if_pos rfl]
    by_cases h40 : i = 400
    · rw [if_pos (show (400 : Int32) ≤ nI i from nI_le (a := 400) (by omega) (by omega))]
    · rw [if_neg (show ¬ (400 : Int32) ≤ nI i from nI_ge (b := 400) (by omega) (by omega)), h4, if_pos (show ¬ (21 : Int32) = 23 by decide)]
  have e1 : l_60 g (N + 2) 1 p (nI i) m = l_60 g (N + 1) 2 p (nI i) m := by
    rw [l_60, if_neg (by decide), if_pos rfl, h4, if_pos rfl]
  have e2 := (l60_2 (g := g) (N := N) (x2 := nI i) hR).resolve_right (by omega)
  refine ⟨cW m p 0 1, rF S 1 0, by rw [e0, e1, e2, h5], ?_, fs.W (Nat.le_refl _), by rw [cW_b (by omega)], rc.F (by decide), rF_s, h7, fun _ => by rw [rF_n (by decide)]; exact h9, fun z => by omega⟩
  rw [l_179, if_pos rfl, if_pos rfl, l_179, if_neg (by decide), if_pos rfl, if_pos rfl, l179_2, h9, if_neg (nI_ne0 h6 (by omega)), if_neg (by omega)]
theorem l60_1 {N : Nat} {x2 : Int32} {m : cM} : l_60 g (N + 1) 1 p x2 m = if m.1 1 3 = 21 then l_60 g N 2 p x2 m else (d_83 g 0 m).bind (fun z => l_60 g N 2 p x2 z) := by
  rw [l_60, if_neg (show ¬ 1 = 0 by decide), if_pos (show 1 = 1 from rfl)]
theorem l179_1 {N : Nat} {S : rS} : l_179 g (N + 1) 1 1 S = (d_146 g S).bind (fun z => if z.1 = -1 then l_179 g N 2 1 z.2 else (d_145 g 0 (z.2.1 8) z.2).bind (fun y => l_179 g N 2 1 y.2)) := by
  rw [l_179, if_neg (show ¬ 1 = 0 by decide), if_pos (show 1 = 1 from rfl), if_neg n_1]
theorem lp_shop (hg : 1000 ≤ g) (hp : 406 ≤ p) (hb : byR f n) : ∀ (d a c i N N' : Nat) (m : cM) (S : rS) (u : Nat → Int32) (T W C Sa : Nat), a + d = n → i ≤ a → d + 4 ≤ N → d + 4 ≤ N' → 0 < c → shS m S f n a p u T W C Sa c → ∃ v m' S', l_60 g N 0 p (nI i) m = some (nI v, m') ∧ l_179 g N' 0 1 S = some (if v = 0 then 1 else 0, S') ∧ shE m m' S S' v p := by
  intro d
  induction d using Nat.strongRecOn with
  | _ d ih =>
    intro a c i N N' m S u T W C Sa had hia hN hN' hc0 h
    obtain ⟨h1, h2, h3, h4, h5, h6, h7, h8, h9, h10, h11, h12⟩ := id h
    have hn := h1.1.2.1
    have htk := h1.tk
    have htk : m.1 1 3 = nI (tkn f n a) := htk
    have htb := tkn_b (f := f) (n := n) (a := a)
    obtain ⟨N, rfl⟩ : ∃ q, N = q + 4 := ⟨N - 4, by omega⟩
    obtain ⟨N', rfl⟩ : ∃ q, N' = q + 4 := ⟨N' - 4, by omega⟩
    have hse := see_iff (f := f) (n := n) (a := a) hb (ch := 59) (by omega)
    have hs0 := h5.see
    by_cases h23 : tkn f n a = 23
    · have hch := tk_23.mp h23
      have hi4 : i < 400 := by omega
      obtain ⟨m1, y1, y2, y3⟩ := p_84s (g := g) hg h1
      have e1 : l_60 g (N + 4) 0 p (nI i) m = (d_61 g m1).bind (fun z_7 => l_60 g (N + 3) 0 p (nI i + 1) z_7) := by
        rw [l_60, if_pos rfl, if_neg (show ¬ (400 : Int32) ≤ nI i from nI_ge (b := 400) hi4 (by omega)), htk, h23, if_neg (show ¬ ¬ nI 23 = 23 from fun z => z rfl), y1, Option.bind_some]
      have e2 : l_179 g (N' + 4) 0 1 S = (d_178 g (rF S 8 (nI (a + 1)))).bind (fun z_10 => l_179 g (N' + 3) 0 z_10.1 z_10.2) := by
        rw [l_179, if_pos rfl, if_neg n_1, q_146s hg h5, Option.bind_some, if_neg (show ¬ ¬ (if a < n then f a &&& 255 else -1) = 59 from fun z => z (hse.mpr hch))]
        show (d_178 g (rF (rF S 8 (nI a)) 8 ((rF S 8 (nI a)).1 8 + 1))).bind _ = _
        rw [rF_s, rF_rF, show nI a + 1 = nI (a + 1) from nI_1 a]
      obtain ⟨a1, ha1⟩ : ∃ a1, a1 = bl f n (a + 1) := ⟨_, rfl⟩
      have hge : a + 1 ≤ a1 := by rw [ha1]; exact sc_ge
      have ete := te_23 h23
      have hs1 : shS m1 (rF S 8 (nI (a + 1))) f n a1 p u T W C Sa c := by
        refine ⟨?_, h2.c1 y2, ?_, by rw [y2.1 3 (by decide)]; exact h4, ?_, h6, h7, by rw [rF_n (by decide)]; exact h8, h9, h10, h11, by rw [rF_n (by decide)]; exact h12⟩
        · have : nx f n (.inl a) = .inl a1 := by rw [ha1, ← ete]; rfl
          rw [this] at y3
          exact y3
        · obtain ⟨⟨q1, q2, q3, q4, q5, q6, q7⟩, hT, hW, hS, hC⟩ := h3
          have e : ∀ b, 406 ≤ b → m1.1 b = m.1 b := fun b hb => y2.1 b (by omega)
          refine ⟨?_, hT.co h7.1.1.2 (fun j _ _ => e _ (by omega)) (fun _ _ => ⟨rfl, rfl, rfl⟩), hW.co (fun j _ _ => e _ (by omega)) (fun _ _ => ⟨rfl, rfl⟩), hS.co (fun j _ _ => e _ (by omega)) (fun _ _ => ⟨rfl, rfl, rfl⟩), hC.co (fun j _ _ => e _ (by omega)) (fun _ _ => ⟨rfl, rfl, rfl, rfl⟩)⟩
          unfold rdA
          rw [e p hp]
          exact ⟨q1, q2, q3, q4, q5, q6, q7⟩
        · rw [ha1]; exact h5.at (by omega)
      obtain ⟨m2, v', S2, z1, z2, z3, z4, z5, z6⟩ := cl_shop (g := g) hg hp hs1
      rw [e1, e2, z1, Option.bind_some, z2, Option.bind_some, show nI i + 1 = nI (i + 1) from nI_1 i]
      have hrc0 : rc [1, 8, 9, 10, 14] [7] S S2 := (rc.F (by decide)).tr (z4.mo (by decide) (by decide))
      have l11 : ∀ s : sP, cs m2 f n s → m2.1 1 1 = m.1 1 1 := fun s hs => by rw [hs.l1, h1.l1]
      rcases z6 with ⟨rfl, a', u', T', W', C', Sa', g1, g2⟩ | ⟨rfl, v, g1, g2⟩
      · have hle := g2.1.2.1
        obtain ⟨v, m', S', t1, t2, t3, t3b, t4, t5⟩ := ih (n - a') (by omega) a' (c + 1) (i + 1) (N + 3) (N' + 3) m2 S2 u' T' W' C' Sa' (by omega) (by omega) (by omega) (by omega) (by omega) g2
        exact ⟨v, m', S', t1, t2, ((fs.of y2).tr z3).tr t3, t3b.trans (l11 _ g2.1), hrc0.tr t4, t5⟩
      · obtain ⟨m', S', t1, t2, t3, t3b, t4, t5⟩ := lp_f (g := g) (N := N) (N' := N') (i := i + 1) hp z5 g1 g2 (by omega)
        exact ⟨v, m', S', t1, t2, ((fs.of y2).tr z3).tr t3, t3b.trans (l11 _ g1), hrc0.tr t4, t5⟩
    · have e0 : l_60 g (N + 4) 0 p (nI i) m = l_60 g (N + 3) 1 p (nI i) m := by
        rw [l_60, if_pos rfl]
        by_cases h40 : i = 400
        · rw [if_pos (show (400 : Int32) ≤ nI i from nI_le (a := 400) (by omega) (by omega))]
        · rw [if_neg (show ¬ (400 : Int32) ≤ nI i from nI_ge (b := 400) (by omega) (by omega)), htk, if_pos (show ¬ nI (tkn f n a) = 23 from fun z => h23 ((nI_eq (b := 23) (by omega) (by omega)).mp z))]
      have f0 : l_179 g (N' + 4) 0 1 S = l_179 g (N' + 3) 1 1 (rF S 8 (nI a)) := by
        rw [l_179, if_pos rfl, if_neg n_1, q_146s hg h5, Option.bind_some, if_pos (show ¬ (if a < n then f a &&& 255 else -1) = 59 from fun z => h23 (tk_23.mpr (hse.mp z)))]
      have f1 : d_146 g (rF S 8 (nI a)) = some (if a < n then f a &&& 255 else -1, rF S 8 (nI a)) := by rw [q_146s hg hs0, rF_rF]
      rw [e0, f0, l60_1, l179_1, f1, Option.bind_some]
      by_cases h21 : tkn f n a = 21
      · have hna := tkn_21.mp h21
        have e2 := (l60_2 (g := g) (N := N + 1) (x2 := nI i) h2).resolve_right (by omega)
        refine ⟨0, cW m p 0 1, rF (rF S 8 (nI a)) 1 0, ?_, ?_, fs.W (Nat.le_refl _), by rw [cW_b (by omega)], (rc.F (by decide)).tr (rc.F (by decide)), rF_s, by omega, fun z => absurd rfl z, fun _ => ⟨T, W, C, Sa, ?_, cW_s, ?_⟩⟩
        · rw [htk, h21, if_pos (show nI 21 = 21 from rfl), e2, h1.2.2.2.2]; rfl
        · rw [if_pos ((see_n1 hb).mpr hna)]
          show l_179 g (N' + 1 + 1) 2 1 (rF S 8 (nI a)) = _
          rw [l179_2, if_pos (show (rF S 8 (nI a)).1 9 = 0 from hs0.2.1), if_pos rfl]
        · show vX (cW m p 0 1).1 p (S.2.1 7) T W C Sa
          rw [h6]
          exact vX.W0 (M := m.1) ⟨h3, h7⟩
        · show S.2.1 7 0 = nI 1
          rw [h6]; exact h11 hc0
      · obtain ⟨m1, y1, y2, y3⟩ := p_83s (g := g) (k := 0) (by omega) h1
        have hR1 := h2.c1 y2
        have e2 := (l60_2 (g := g) (N := N + 1) (x2 := nI i) hR1).resolve_right (by omega)
        obtain ⟨x1, x2, x3, x4, x5, x6, x7⟩ := id y3
        refine ⟨1 + 8 * a + 0, cW m1 p 0 1, rF (rF (rF S 8 (nI a)) 9 (nI (1 + 8 * a + 0))) 1 0, ?_, ?_, (fs.of y2).tr (fs.W (Nat.le_refl _)), by rw [cW_b (by omega), x1, h1.l1], ((rc.F (by decide)).tr (rc.F (by decide))).tr (rc.F (by decide)), rF_s, x7, fun _ => by rw [rF_n (by decide), rF_s], fun z => by omega⟩
        · rw [htk, if_neg (show ¬ nI (tkn f n a) = 21 from fun z => h21 ((nI_eq (b := 21) (by omega) (by omega)).mp z)), show d_83 g 0 m = _ from y1, Option.bind_some, e2, x5]
        · rw [if_neg (fun z => h21 (tkn_21.mpr ((see_n1 hb).mp z)))]
          show (d_145 g 0 ((rF S 8 (nI a)).1 8) (rF S 8 (nI a))).bind _ = _
          rw [rF_s, show d_145 g 0 (nI a) (rF S 8 (nI a)) = _ from q_145s (k := 0) hs0, Option.bind_some]
          show l_179 g (N' + 1 + 1) 2 1 (rF (rF S 8 (nI a)) 9 (nI (1 + 8 * a + 0))) = _
          rw [l179_2, rF_s, if_neg (nI_ne0 (by omega) (by omega)), if_neg (by omega)]
end SLP
