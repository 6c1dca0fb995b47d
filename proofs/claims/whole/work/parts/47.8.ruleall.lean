/-! rule: a whole test -/
section TST4
variable {g r : Nat} {f : Nat → Int32} {n a : Nat} {m : cM} {S : rS} {L Lc σ : List Nat} {V : Nat}
theorem t_up {d q : Nat} (hg : 5000 ≤ g) (hr : r < 6) (hb : byR f n) (h : TST g f n r d 3 (fun m => R_47 g q 0 (nI 2) (nI d) m)) : TST g f n r d 1 (fun m => R_47 g (q + 4) 0 (nI 0) (nI d) m) :=
  t_row (k := 1) (nc := q + 2) hg hr hb (Or.inl rfl) (t_row (k := 2) (nc := q) hg hr hb (Or.inr rfl) h)
theorem t_all (hg : 5000 ≤ g) (hr : r < 6) (hb : byR f n) : ∀ (e d nc : Nat), d + e = 10 → 6 * e + 2 ≤ nc → TST g f n r d 3 (fun m => R_47 g nc 0 (nI 2) (nI d) m) := by
  intro e
  induction e with
  | zero =>
    intro d nc hd hn
    obtain ⟨nc, rfl⟩ : ∃ q, nc = q + 2 := ⟨nc - 2, by omega⟩
    exact t_fact hg hr hb (by omega) (fun h => absurd h (by omega))
  | succ e ih =>
    intro d nc hd hn
    obtain ⟨nc, rfl⟩ : ∃ q, nc = q + 4 + 2 := ⟨nc - 6, by omega⟩
    exact t_fact hg hr hb (by omega) (fun _ => ⟨ih (d + 1) (nc + 4) (by omega) (by omega), t_up hg hr hb (ih (d + 1) nc (by omega) (by omega))⟩)
theorem pend_n {k : Nat} {π : List Nat} (h : pend k π) : ∀ j, j < π.length → π.getD j 0 ≠ 91 := fun j hj e => by
  have hm : π.getD j 0 ∈ π := by
    rw [List.getD_eq_getElem?_getD, List.getElem?_eq_getElem hj]
    exact List.getElem_mem hj
  rcases (h _ hm).1 with q | q <;> omega
/-- test, tested -/
def eT (cr : Option cM) (rr : Option (Int32 × rS)) (m : cM) (S : rS) (f : Nat → Int32) (n a r : Nat) (L : List Nat) (V : Nat) : Prop :=
  (∃ m' S' a' seg V', cr = some m' ∧ rr = some (1, S') ∧ gRu m' S' f n a' r (L ++ seg) (L ++ seg) V' ∧ a < a' ∧ tyl seg [] = some [true] ∧ V + 1 ≤ V' ∧ rfm r m m' ∧ rfs r S S') ∨ (∃ m' S' v, cr = some m' ∧ rr = some (0, S') ∧ fR m' f n r v ∧ S'.1 9 = nI v ∧ rfm r m m' ∧ rfs r S S')
theorem e_test (hg : 5000 ≤ g) (hr : r < 6) (hb : byR f n) (h : gRu m S f n a r L L V) : eT (d_47 g 0 0 m) (d_166 g S) m S f n a r L V := by
  have hn := h.1.1.2.1
  have hT := t_up (q := 66) hg hr hb (t_all (g := g) (f := f) (n := n) hg hr hb 10 0 66 (by omega) (by omega))
  obtain ⟨h1, h2, h3, h4, h5, h6, h7, h8, h9⟩ := id h
  obtain ⟨S0, hS0⟩ : ∃ S0, S0 = rF (rF S 16 0) 13 0 := ⟨_, rfl⟩
  have hs0 : stk S0 [] := by
    rw [hS0]
    exact ⟨by rw [rF_n (by decide), rF_s]; rfl, fun j hj => absurd hj (Nat.not_lt_zero _), by rw [rF_s]; rfl, Nat.zero_le _⟩
  have hg0 : gRu m S0 f n a r L L V := by
    rw [hS0]
    exact ⟨h1, (h2.F (by decide) (by decide) (by decide)).F (by decide) (by decide) (by decide), h3, (h4.F (k := 16) (v := 0) (by decide)).F (by decide), h5, by rw [rF_n (by decide), rF_n (by decide)]; exact h6, h7, h8, h9⟩
  have hr0 : rfs r S S0 := by rw [hS0]; exact (rfs.F (by decide)).tr (rfs.F (by decide))
  have e1 : d_166 g S = K0 g (g - 1) g S0 := by
    unfold d_166
    rw [← hS0]
    have := K0_166 (g := g) (N := g - 1) (S := S0)
    rw [show g - 1 + 1 = g by omega] at this
    exact this
  have e2 : d_47 g 0 0 m = R_47 g 70 0 (nI 0) (nI 0) m := rfl
  rw [e1, e2]
  rcases hT.1 m S0 a L L V [] (g - 1) g hg0 hs0 rfl (Nat.zero_le _) (Nat.le_refl _) (Or.inr (by decide)) (by omega) (by omega) with ⟨m2, S2, a2, seg, π, V2, N2, M2, P2, u1, u2, u3, u4, u5, u6, u7, u8, u9, u10, u11, u12, u13, u14, u15⟩ | ⟨m2, S2, v, u1, u2, u3, u4, u5, u6⟩
  · obtain ⟨k1, k2, k3, k4, k5, k6, k7, k8, k9⟩ := u3
    have hle2 := k2.le
    rw [List.nil_append] at u4
    simp only [List.length_append, List.length_reverse] at k9
    have hl : π.length ≤ 400 := by omega
    have u13 : 0 + π.length + 3 ≤ P2 := u13
    obtain ⟨M2, rfl⟩ : ∃ q, M2 = q + 1 := ⟨M2 - 1, by omega⟩
    obtain ⟨P2, rfl⟩ : ∃ q, P2 = q + 1 := ⟨P2 - 1, by omega⟩
    obtain ⟨N2, rfl⟩ : ∃ q, N2 = q + 2 := ⟨N2 - 2, by omega⟩
    have ha2 := k2.a
    have hs8 : stk (rF S2 8 (nI a2)) π := u4.co (rF_n (by decide)) (rF_n (by decide)) rfl
    have q164 := (q_164 (g := g) (by omega) hs8 hl).2 (pend_n u5)
    have hlst : lst π < 3 := by
      have := pend_lt (σ := []) (Or.inl rfl) u5 (by decide)
      rw [List.nil_append] at this
      exact this
    have hq : KQ g (N2 + 2) (M2 + 1) (P2 + 1) S2 = KB g (N2 + 2) (rF S2 8 (nI a2)) := by
      by_cases t25 : tkn f n a2 = 25
      · have hch := tk_25.mp t25
        unfold KQ
        rw [set_stop u4 hl (by omega) hlst, Option.bind_some, l_165, if_pos (show 0 = 0 from rfl), q_146s (by omega) k2, Option.bind_some, if_neg (show ¬ ¬ (if a2 < n then f a2 &&& 255 else -1) = 93 from fun z => z ((see_iff hb (ch := 93) (by omega)).mpr hch))]
        show ((d_164 g (rF S2 8 (nI a2))).bind _).bind _ = _
        rw [q164, Option.bind_some, if_pos rfl]
        rfl
      · exact KQ_no (by omega) hb k2 u4 hl hlst t25
    have hk8 : (L ++ seg).length + π.length ≤ 400 := by
      rw [List.length_append]
      omega
    obtain ⟨S3, x1, x2, x3, x4, x5, x6⟩ := set_all (g := g) (σ := []) (k := 1) hr (by omega) (by decide) π.length π (rF S2 8 (nI a2)) (L ++ seg) g rfl (by rw [List.nil_append]; exact hs8) u5 (by show 0 + π.length ≤ 400; omega) (k4.F (by decide)) hk8 (by omega)
    have e3 : l_166 g (N2 + 1) 0 0 0 (rF S2 8 (nI a2)) = some (1, S3) := by
      rw [l_166, if_pos (show 0 = 0 from rfl), if_pos (show (0 : Int32) = 0 from rfl), q164, Option.bind_some, if_pos rfl]
      show (l_158 g g 0 (nI 1) (rF S2 8 (nI a2))).bind _ = _
      rw [x1, Option.bind_some]
    rw [u2, hq, KB_no (by omega) ha2 (u8 1 (by omega) (by omega)) (u8 2 (by omega) (by omega)), e3]
    have hrg3 : rg S3 f n a2 := by
      have hh := k2.see
      obtain ⟨q, b1, b2, b3⟩ := hh.2.2
      exact ⟨⟨(x5 1 (by decide) (by decide)).trans hh.1.1, hh.1.2.1, x6.trans hh.1.2.2⟩, (x5 9 (by decide) (by decide)).trans hh.2.1, q, b1, (x5 8 (by decide) (by decide)).trans b2, b3⟩
    refine Or.inl ⟨m2, S3, a2, seg ++ π.reverse, V2, u1, rfl, ⟨k1, hrg3, by rw [← List.append_assoc]; exact k3, by rw [← List.append_assoc]; exact x3, k5, ?_, k7, ?_, ?_⟩, u7, u9 [] (Nat.zero_le _), u10, u14, (hr0.tr u15).tr ((rfs.F (by decide)).tr x4)⟩
    · rw [x5 12 (by decide) (by decide), rF_n (by decide)]; exact k6
    · simp only [List.length_append, List.length_reverse]; omega
    · simp only [List.length_append, List.length_reverse]; omega
  · rw [show R_47 g 70 0 (nI 0) (nI 0) m = some m2 from u1, u2]
    exact Or.inr ⟨m2, S2, v, rfl, rfl, u3, u4, u5, hr0.tr u6⟩
end TST4
