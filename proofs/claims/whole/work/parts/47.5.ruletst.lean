/-! rule: tests, the reference's way through them -/
def KB (g N : Nat) (z : rS) : Option (Int32 × rS) := (d_149 g 6385252 z).bind (fun z_35 => if ¬ z_35.1 = 0 then l_166 g N 1 1 0 z_35.2 else (d_149 g 28530 z_35.2).bind (fun z_41 => if z_41.1 = 0 then l_166 g N 2 1 0 z_41.2 else l_166 g N 1 1 0 z_41.2))
def KA (g N : Nat) (z : Int32 × rS) : Option (Int32 × rS) := if ¬ z.1 = 0 then (d_165 g z.2).bind (KB g N) else some (0, z.2)
def K0 (g N M : Nat) (S : rS) : Option (Int32 × rS) := (l_163 g M 0 1 0 S).bind (KA g N)
def KQ (g N M P : Nat) (S : rS) : Option (Int32 × rS) := (l_158 g P 0 (nI 3) S).bind (fun z => (l_165 g M 0 z).bind (KB g N))
section TST1
variable {g r : Nat} {f : Nat → Int32} {n a : Nat} {m : cM} {S : rS} {L Lc σ : List Nat} {V : Nat}
theorem K0_166 {N : Nat} : l_166 g (N + 1) 0 1 0 S = K0 g N g S := by
  rw [l_166, if_pos (show 0 = 0 from rfl), if_neg n_1]
  rfl
theorem KA_1 {N : Nat} : KA g N (1, S) = KQ g N g g S := by
  show (if ¬ (1 : Int32) = 0 then (d_165 g S).bind (KB g N) else some (0, S)) = _
  rw [if_pos n_1]
  show ((l_158 g g 0 (nI 3) S).bind (fun z => l_165 g g 0 z)).bind (KB g N) = _
  unfold KQ
  cases l_158 g g 0 (nI 3) S <;> rfl
theorem KA_0 {N : Nat} : KA g N (0, S) = some (0, S) := by
  show (if ¬ (0 : Int32) = 0 then (d_165 g S).bind (KB g N) else some (0, S)) = _
  rw [if_neg n_0]
/-- what a test leaves behind -/
def tGood (cr : Option cM) (rr : Option (Int32 × rS)) (m : cM) (S : rS) (g : Nat) (f : Nat → Int32) (n a r k : Nat) (L Lc : List Nat) (V : Nat) (σ : List Nat) : Prop := ∃ m' S' a' seg π V' N' M' P', cr = some m' ∧ rr = KQ g N' M' P' S' ∧ gRu m' S' f n a' r (L ++ seg) (Lc ++ seg ++ π.reverse) V' ∧ stk S' (σ ++ π) ∧ pend k π ∧ a + (seg.length + π.length) ≤ a' ∧ a < a' ∧ (∀ j, k ≤ j → j ≤ 2 → tkn f n a' ≠ 16 + j) ∧ (∀ ts, ts.length ≤ V → tyl (seg ++ π.reverse) ts = some (true :: ts)) ∧ V + 1 ≤ V' ∧ n + 5 ≤ M' + a' ∧ 4 * n + 20 ≤ N' + 4 * a' ∧ σ.length + π.length + 3 ≤ P' ∧ rfm r m m' ∧ rfs r S S'
def tBad (cr : Option cM) (rr : Option (Int32 × rS)) (m : cM) (S : rS) (f : Nat → Int32) (n r : Nat) : Prop := ∃ m' S' v, cr = some m' ∧ rr = some (0, S') ∧ fR m' f n r v ∧ S'.1 9 = nI v ∧ rfm r m m' ∧ rfs r S S'
def TST (g : Nat) (f : Nat → Int32) (n r d k : Nat) (CF : cM → Option cM) : Prop := (∀ (m : cM) (S : rS) (a : Nat) (L Lc : List Nat) (V : Nat) (σ : List Nat) (N M : Nat), gRu m S f n a r L Lc V → stk S σ → dpt σ = d → σ.length ≤ a → L.length ≤ Lc.length → (k = 3 ∨ lst σ < k) → 2 * n + 5 ≤ M + 2 * a → 4 * n + 20 ≤ N + 4 * a → tGood (CF m) (K0 g N M S) m S g f n a r k L Lc V σ ∨ tBad (CF m) (K0 g N M S) m S f n r) ∧ (∀ (m : cM) (v : Nat), fR m f n r v → ∃ m', CF m = some m' ∧ fR m' f n r v ∧ rfm r m m')
theorem gRu.n4 (h : gRu m S f n a r L Lc V) : n ≤ 400 := h.1.1.2.1
/-- at Q nothing is to be settled, no ] follows -/
theorem KQ_no {N M P : Nat} (hg : 1000 ≤ g) (hb : byR f n) (h : rg S f n a) (hs : stk S σ) (hl : σ.length ≤ 400) (hlt : lst σ < 3) (ht : tkn f n a ≠ 25) : KQ g N (M + 1) (P + 1) S = KB g N (rF S 8 (nI a)) := by
  unfold KQ
  rw [set_stop hs hl (by omega) hlt, Option.bind_some, l_165, if_pos rfl, q_146s hg h, Option.bind_some, if_pos (show ¬ (if a < n then f a &&& 255 else -1) = 93 from fun z => ht (tk_25.mpr ((see_iff hb (ch := 93) (by omega)).mp z)))]
  rfl
theorem KB_and {N : Nat} (hg : 1000 ≤ g) (h : rga S f n a) (ht : tkn f n a = 18) : KB g (N + 3) S = l_166 g (N + 1) 3 1 12 S := by
  have w1 := q_149e (g := g) (j := 18) (W := 6385252) hg (by decide) (by decide) h
  rw [if_pos ht] at w1
  unfold KB
  rw [w1, Option.bind_some, if_pos n_1]
  show l_166 g (N + 3) 1 1 0 S = _
  rw [l_166, if_neg (by decide), if_pos rfl, l_166, if_neg (by decide), if_neg (by decide), if_pos rfl, if_neg n_1, w1, Option.bind_some, if_neg n_1]
theorem KB_or {N : Nat} (hg : 1000 ≤ g) (h : rga S f n a) (ht : tkn f n a = 17) : KB g (N + 3) S = l_166 g (N + 1) 3 1 13 S := by
  have w1 := q_149e (g := g) (j := 18) (W := 6385252) hg (by decide) (by decide) h
  have w2 := q_149e (g := g) (j := 17) (W := 28530) hg (by decide) (by decide) h
  rw [if_neg (by omega)] at w1
  rw [if_pos ht] at w2
  unfold KB
  rw [w1, Option.bind_some, if_neg n_0]
  show (d_149 g 28530 S).bind _ = _
  rw [w2, Option.bind_some, if_neg n_1]
  show l_166 g (N + 3) 1 1 0 S = _
  rw [l_166, if_neg (by decide), if_pos rfl, l_166, if_neg (by decide), if_neg (by decide), if_pos rfl, if_neg n_1, w1, Option.bind_some, if_pos rfl]
theorem KB_no {N : Nat} (hg : 1000 ≤ g) (h : rga S f n a) (h1 : tkn f n a ≠ 17) (h2 : tkn f n a ≠ 18) : KB g (N + 1) S = l_166 g N 0 0 0 S := by
  have w1 := q_149e (g := g) (j := 18) (W := 6385252) hg (by decide) (by decide) h
  have w2 := q_149e (g := g) (j := 17) (W := 28530) hg (by decide) (by decide) h
  rw [if_neg h2] at w1
  rw [if_neg h1] at w2
  unfold KB
  rw [w1, Option.bind_some, if_neg n_0]
  show (d_149 g 28530 S).bind _ = _
  rw [w2, Option.bind_some, if_pos rfl]
  show l_166 g (N + 1) 2 1 0 S = _
  rw [l_166, if_neg (by decide), if_neg (by decide), if_pos rfl, if_pos rfl]
/-- and, or: what stands open is settled, the word is put on -/
theorem l166_3 {N k : Nat} {π : List Nat} (hg : 1000 ≤ g) (hr : r < 6) (hk : k = 1 ∨ k = 2) (h : rga S f n a) (ht : tkn f n a = 16 + k) (hs : stk S (σ ++ π)) (hπ : pend k π) (hlt : lst σ < k) (hc : rcd S r L) (hl : σ.length + π.length ≤ a) (hL : L.length + π.length ≤ a) : ∃ S', l_166 g (N + 2) 3 1 (nI (14 - k)) S = K0 g N g S' ∧ rg S' f n (bl f n (tke f n a)) ∧ stk S' (σ ++ [14 - k]) ∧ rcd S' r (L ++ π.reverse) ∧ S'.1 12 = S.1 12 ∧ rfs r S S' := by
  have hle := h.1.le
  have hn := h.1.1.2.1
  have hlt2 := ((tkn_w (f := f) (n := n) (a := a) (j := 16 + k) (by omega)).mp ht).1
  have q150 := q_150s (g := g) (j := 16 + k) hg (by omega) h.1 h.2 ht
  have hg1 := h.1.at (p := tke f n a) (tke_le hle)
  have hstr : str (14 - k) = k := by rcases hk with e | e <;> subst e <;> rfl
  have hs1 : stk (rF S 8 (nI (tke f n a))) (σ ++ π) := hs.co (rF_n (by decide)) (rF_n (by decide)) rfl
  obtain ⟨S2, y1, y2, y3, y4, y5, y6⟩ := set_all (g := g) (k := k) hr (by omega) hlt π.length π (rF S 8 (nI (tke f n a))) L g rfl hs1 hπ (by omega) (hc.F (by decide)) (by omega) (by omega)
  have f16 : S2.1 16 = nI σ.length := y2.1
  have hc2 : rcd (rA S2 15 (upd (S2.2.1 15) σ.length (nI (14 - k)))) r (L ++ π.reverse) := y3.co rfl (rA_n (by decide)) (rA_n (by decide))
  refine ⟨rF (rA S2 15 (upd (S2.2.1 15) σ.length (nI (14 - k)))) 16 (nI (σ.length + 1)), ?_, ?_, ⟨by rw [rF_s, List.length_append]; rfl, fun j hj => ?_, ?_, ?_⟩, hc2.F (by decide), ?_, ((rfs.F (by decide)).tr y4).tr ⟨(rc.A (by decide)).tr (rc.F (by decide)), fun j hj => by show (rA S2 15 _).2.1 3 j = _; rw [rA_n (by decide)]⟩⟩
  · rw [l_166, if_neg (by decide), if_neg (by decide), if_neg (by decide), if_pos rfl, q150, Option.bind_some, q_157 (by omega), Option.bind_some, hstr]
    show (l_158 g g 0 (nI k) (rF S 8 (nI (tke f n a)))).bind _ = _
    rw [y1, Option.bind_some, f16, if_pos (k_in (show σ.length < 400 by omega) (by omega)), k_cl (show σ.length < 2147483648 by omega), show nI σ.length + 1 = nI (σ.length + 1) from nI_1 _]
    exact K0_166
  · obtain ⟨q, q1, q2, q3⟩ := hg1.2.2
    refine ⟨⟨?_, hn, ?_⟩, ?_, q, q1, ?_, q3⟩
    · rw [rF_n (by decide)]
      exact (y5 1 (by decide) (by decide)).trans hg1.1.1
    · show (rA S2 15 _).2.1 0 = f
      rw [rA_n (by decide), y6]; exact hg1.1.2.2
    · rw [rF_n (by decide)]
      exact (y5 9 (by decide) (by decide)).trans hg1.2.1
    · rw [rF_n (by decide)]
      exact (y5 8 (by decide) (by decide)).trans q2
  · rw [List.length_append] at hj
    have hj : j < σ.length + 1 := hj
    show (rA S2 15 _).2.1 15 j = _ ∧ _
    rw [rA_s]
    by_cases e : j = σ.length
    · subst e; rw [upd_s, gd_a]; exact ⟨rfl, by omega⟩
    · rw [upd_n e, gd_l (by omega)]; exact y2.2.1 j (by omega)
  · rw [rF_n (by decide)]
    show S2.1 13 = _
    rw [y2.2.2.1, dpt_a]
    show _ = nI (dpt σ + ((if 14 - k = 11 ∨ 14 - k = 91 then 1 else 0) + 0))
    rw [if_neg (by omega)]
    rfl
  · rw [dpt_a]
    show dpt σ + ((if 14 - k = 11 ∨ 14 - k = 91 then 1 else 0) + 0) ≤ 10
    rw [if_neg (by omega)]
    exact y2.2.2.2
  · rw [rF_n (by decide)]
    exact (y5 12 (by decide) (by decide)).trans (rF_n (by decide))
end TST1
