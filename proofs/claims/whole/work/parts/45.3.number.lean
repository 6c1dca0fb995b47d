/-! READERS: where one stands (a place, or a fault), faults, numbers -/
abbrev sP : Type := Sum Nat Nat
def cs (m : cM) (f : Nat → Int32) (n : Nat) : sP → Prop
  | .inl a => tp m f n ∧ a ≤ n ∧ bl f n a = a ∧ cT m f n a ∧ m.1 1 6 = 0
  | .inr v => m.1 1 1 = nI n ∧ n ≤ 400 ∧ m.1 1 2 = nI n ∧ m.1 1 3 = 21 ∧ m.1 1 6 = nI v ∧ 1 ≤ v ∧ v < 4000
def nx (f : Nat → Int32) (n : Nat) : sP → sP
  | .inl a => .inl (bl f n (tke f n a))
  | .inr v => .inr v
def fl (k : Nat) : sP → sP
  | .inl a => .inr (1 + 8 * a + k)
  | .inr v => .inr v
def tkS (f : Nat → Int32) (n : Nat) : sP → Nat
  | .inl a => tkn f n a
  | .inr _ => 21
def ns (f : Nat → Int32) (n : Nat) (xl xh : Int32) : sP → sP
  | .inl a => if tkn f n a = 20 then (if xl ≤ nI (num f n a) ∧ nI (num f n a) ≤ xh then .inl (bl f n (tke f n a)) else .inr (1 + 8 * a + 1)) else .inr (1 + 8 * a + 0)
  | .inr v => .inr v
def nv (f : Nat → Int32) (n : Nat) (xl xh : Int32) : sP → Nat
  | .inl a => if tkn f n a = 20 ∧ xl ≤ nI (num f n a) ∧ nI (num f n a) ≤ xh then num f n a else 0
  | .inr _ => 0
theorem c1.sy {m m' : cM} (h : c1 m m') : c1 m' m := ⟨fun b hb => (h.1 b hb).symm, h.2.symm⟩
theorem c1.up {m m' : cM} {b k : Nat} {v : Int32} (h : c1 m m') (hb : b ≠ 1) : c1 (cW m b k v) (cW m' b k v) := by
  refine ⟨fun c hc => ?_, h.2⟩
  by_cases e : c = b
  · subst e
    show va_up m'.1 c (upd (m'.1 c) k v) c = va_up m.1 c (upd (m.1 c) k v) c
    rw [up_s, up_s, h.1 c hc]
  · rw [cW_b e, cW_b e]; exact h.1 c hc
section NU
variable {g : Nat} {f : Nat → Int32} {n : Nat} {m : cM} {S : rS} {s : sP}
theorem cs.W {b k : Nat} {v : Int32} (h : cs m f n s) (hb : b ≠ 1) (hb2 : b ≠ 2) : cs (cW m b k v) f n s := by
  have e : (cW m b k v).1 1 = m.1 1 := cW_b (fun z => hb z.symm)
  match s, h with
  | .inl a, h =>
    obtain ⟨h1, h2, h3, h4, h5⟩ := h
    refine ⟨⟨by rw [e]; exact h1.1, h1.2.1, by rw [cW_b (fun z => hb2 z.symm)]; exact h1.2.2⟩, h2, h3, ?_, by rw [e]; exact h5⟩
    unfold cT
    rw [e]
    exact h4
  | .inr w, h =>
    show (cW m b k v).1 1 1 = nI n ∧ n ≤ 400 ∧ (cW m b k v).1 1 2 = nI n ∧ (cW m b k v).1 1 3 = 21 ∧ (cW m b k v).1 1 6 = nI w ∧ 1 ≤ w ∧ w < 4000
    rw [e]
    exact h
theorem cs.tk (h : cs m f n s) : m.1 1 3 = nI (tkS f n s) := by
  match s, h with
  | .inl a, h => exact h.2.2.2.1.2.1
  | .inr w, h => exact h.2.2.2.1
theorem tkS_b : tkS f n s ≤ 35 := by
  match s with
  | .inl a => exact tkn_b
  | .inr w => show 21 ≤ 35; omega
theorem cs.n4 (h : cs m f n s) : n ≤ 400 := by
  match s, h with
  | .inl a, h => exact h.1.2.1
  | .inr w, h => exact h.2.1
theorem cs.l1 (h : cs m f n s) : m.1 1 1 = nI n := by
  match s, h with
  | .inl a, h => exact h.1.1
  | .inr w, h => exact h.1
theorem p_84s (hg : 1000 ≤ g) (h : cs m f n s) : ∃ m', d_84 g m = some m' ∧ c1 m m' ∧ cs m' f n (nx f n s) := by
  match s, h with
  | .inl a, h =>
    obtain ⟨h1, h2, h3, h4, h5⟩ := h
    have hle := tke_le (f := f) h2
    obtain ⟨m', y1, y2, y3, y4⟩ := p_84 (g := g) hg h1 hle h4.1
    exact ⟨m', y1, y2, h1.co y2 (y4 1 (Or.inl rfl)), sc_le hle, sc_id hle, y3, (y4 6 (Or.inr rfl)).trans h5⟩
  | .inr w, h =>
    obtain ⟨h1, h2, h3, h4, h5, h6⟩ := h
    obtain ⟨m', y1, y2, y3, y4⟩ := p_84 (g := g) (m := m) (f := m.1 2) (n := n) (p := n) hg ⟨h1, h2, fun _ _ => rfl⟩ (Nat.le_refl _) h3
    have e : bl (m.1 2) n n = n := sc_stop (Or.inl (Nat.le_refl _))
    rw [e] at y3
    have t21 := (tkn_21 (f := m.1 2) (n := n) (a := n)).mpr (Nat.le_refl _)
    refine ⟨m', y1, y2, (y4 1 (Or.inl rfl)).trans h1, h2, ?_, ?_, (y4 6 (Or.inr rfl)).trans h5, h6⟩
    · rw [y3.1]
      unfold tke
      rw [if_pos (Nat.le_refl _)]
    · rw [y3.2.1, t21]; rfl
theorem p_83s {k : Nat} (hk : k ≤ 4) (h : cs m f n s) : ∃ m', d_83 g (nI k) m = some m' ∧ c1 m m' ∧ cs m' f n (fl k s) := by
  unfold d_83 j_83_22
  match s, h with
  | .inl a, h =>
    obtain ⟨h1, h2, h3, h4, h5⟩ := h
    have hn := h1.2.1
    have e : (1 + 8 * nI a + nI k : Int32) = nI (1 + 8 * a + k) := by
      rw [show (8 : Int32) = nI 8 from rfl, show (1 : Int32) = nI 1 from rfl, pk_mul, nI_add, nI_add]
    rw [if_neg (fun z => z h5), h4.2.2.1, e, Option.bind_some, Option.bind_some, Option.bind_some]
    refine ⟨_, rfl, (c1.W.tr c1.W).tr c1.W, ?_, hn, ?_, ?_, ?_, by omega, by omega⟩
    · rw [cW_k (by decide), cW_k (by decide), cW_k (by decide)]; exact h1.1
    · rw [cW_s, cW_k (by decide), cW_k (by decide)]; exact h1.1
    · rw [cW_k (by decide), cW_s]
    · rw [cW_k (by decide), cW_k (by decide), cW_s]
  | .inr w, h =>
    obtain ⟨h1, h2, h3, h4, h5, h6, h7⟩ := h
    rw [if_pos (by rw [h5]; exact nI_ne0 (by omega) (by omega)), Option.bind_some, Option.bind_some]
    refine ⟨_, rfl, c1.W.tr c1.W, ?_, h2, ?_, ?_, ?_, h6, h7⟩
    · rw [cW_k (by decide), cW_k (by decide)]; exact h1
    · rw [cW_s, cW_k (by decide)]; exact h1
    · rw [cW_k (by decide), cW_s]
    · rw [cW_k (by decide), cW_k (by decide)]; exact h5
theorem p_69 {xl xh : Int32} (hg : 1000 ≤ g) (h : cs m f n s) : ∃ m', d_69 g xl xh m = some (nI (nv f n xl xh s), m') ∧ c1 m m' ∧ cs m' f n (ns f n xl xh s) := by
  have ht := h.tk
  obtain ⟨m1, y1, y2, y3⟩ := p_84s (g := g) hg h
  obtain ⟨m2, z1, z2, z3⟩ := p_83s (g := g) (k := 1) (by omega) h
  obtain ⟨m3, u1, u2, u3⟩ := p_83s (g := g) (k := 0) (by omega) h
  have z1 : d_83 g 1 m = some m2 := z1
  have u1 : d_83 g 0 m = some m3 := u1
  unfold d_69
  rw [ht]
  match s, h with
  | .inr w, h =>
    rw [if_neg (show ¬ nI (tkS f n (Sum.inr w)) = 20 from by show ¬ nI 21 = 20; decide), u1, Option.bind_some]
    exact ⟨m3, rfl, u2, u3⟩
  | .inl a, h =>
    show ∃ m', (if nI (tkn f n a) = 20 then _ else _) = some (nI (if tkn f n a = 20 ∧ xl ≤ nI (num f n a) ∧ nI (num f n a) ≤ xh then num f n a else 0), m') ∧ c1 m m' ∧ cs m' f n (if tkn f n a = 20 then (if xl ≤ nI (num f n a) ∧ nI (num f n a) ≤ xh then .inl (bl f n (tke f n a)) else .inr (1 + 8 * a + 1)) else .inr (1 + 8 * a + 0))
    by_cases h20 : tkn f n a = 20
    · rw [if_pos (show nI (tkn f n a) = 20 by rw [h20]; rfl), h.2.2.2.1.2.2.2 h20, p_138, Option.bind_some, if_pos h20]
      by_cases hr : xl ≤ nI (num f n a) ∧ nI (num f n a) ≤ xh
      · rw [if_pos hr, if_pos (show ¬ (1 : Int32) = 0 by decide), y1, Option.bind_some, if_pos ⟨h20, hr⟩, if_pos hr]
        exact ⟨m1, rfl, y2, y3⟩
      · rw [if_neg hr, if_neg (show ¬ ¬ (0 : Int32) = 0 from fun z => z rfl), z1, Option.bind_some, if_neg (fun z => hr z.2), if_neg hr]
        exact ⟨m2, rfl, z2, z3⟩
    · rw [if_neg (show ¬ nI (tkn f n a) = 20 from fun z => h20 ((nI_eq (b := 20) (by have := tkn_b (f := f) (n := n) (a := a); omega) (by omega)).mp z)), u1, Option.bind_some, if_neg (fun z => h20 z.1), if_neg h20]
      exact ⟨m3, rfl, u2, u3⟩
/-- the reference stands ahead of a -/
def rg (S : rS) (f : Nat → Int32) (n a : Nat) : Prop := rt S f n ∧ S.1 9 = 0 ∧ ∃ p, p ≤ n ∧ S.1 8 = nI p ∧ bl f n p = a
theorem rg.le {a : Nat} (h : rg S f n a) : a ≤ n := by
  obtain ⟨h1, h2, p, h3, h4, h5⟩ := h
  rw [← h5]; exact sc_le h3
theorem rg.at {a p : Nat} (h : rg S f n a) (hp : p ≤ n) : rg (rF S 8 (nI p)) f n (bl f n p) := ⟨h.1.F (by decide), by rw [rF_n (by decide)]; exact h.2.1, p, hp, rF_s, rfl⟩
theorem rg.see {a : Nat} (h : rg S f n a) : rg (rF S 8 (nI a)) f n a := by
  have := h.at h.le
  obtain ⟨h1, h2, p, h3, h4, h5⟩ := h
  rw [show bl f n a = a by rw [← h5]; exact sc_id h3] at this
  exact this
theorem q_146s {a : Nat} (hg : 1000 ≤ g) (h : rg S f n a) : d_146 g S = some (if a < n then f a &&& 255 else -1, rF S 8 (nI a)) := by
  obtain ⟨h1, h2, p, h3, h4, h5⟩ := h
  rw [q_146 hg h1 h3 h4, h5]
theorem q_149s {a j : Nat} {W : Int64} (hg : 1000 ≤ g) (hj : j < 20) (hW : W = Int64.ofNat (wdC.getD j 0)) (h : rg S f n a) : d_149 g W S = some (if tkn f n a = j then 1 else 0, rF S 8 (nI a)) := by
  obtain ⟨h1, h2, p, h3, h4, h5⟩ := h
  rw [q_149 hg hj hW h1 h3 h4, h5]
/-- passWord, at a word -/
theorem q_150s {a j : Nat} (hg : 1000 ≤ g) (hj : j < 20) (h : rg S f n a) (h8 : S.1 8 = nI a) (ht : tkn f n a = j) : d_150 g S = some (rF S 8 (nI (tke f n a))) := by
  rw [q_150 hg h.1 h.le h8, tke_w hj ht]
theorem q_145s {a k : Nat} (h : rg S f n a) : d_145 g (nI k) (nI a) S = some (0, rF S 9 (nI (1 + 8 * a + k))) := by
  have e : (1 + 8 * nI a + nI k : Int32) = nI (1 + 8 * a + k) := by
    rw [show (8 : Int32) = nI 8 from rfl, show (1 : Int32) = nI 1 from rfl, pk_mul, nI_add, nI_add]
  rw [q_145 h.2.1, e]
abbrev r8 (S S' : rS) : Prop := rc [8, 9, 10] [] S S'
theorem q_152s {a : Nat} {xl xh : Int32} (hg : 1000 ≤ g) (h : rg S f n a) (hh : xh ≤ 99999) : (∃ a' S', ns f n xl xh (.inl a) = .inl a' ∧ a < a' ∧ d_152 g xl xh S = some (1, S') ∧ rg S' f n a' ∧ S'.1 10 = nI (nv f n xl xh (.inl a)) ∧ xl ≤ nI (nv f n xl xh (.inl a)) ∧ nI (nv f n xl xh (.inl a)) ≤ xh ∧ nv f n xl xh (.inl a) < 100000 ∧ r8 S S') ∨ (∃ v S', ns f n xl xh (.inl a) = .inr v ∧ d_152 g xl xh S = some (0, S') ∧ S'.1 9 = nI v ∧ r8 S S') := by
  have hle := h.le
  have hn := h.1.2.1
  have hs := h.see
  have h147 := q_147 (g := g) (S := rF S 8 (nI a)) (p := a) hs.1 hle
  have e8 : (rF S 8 (nI a)).1 8 = nI a := rF_s
  unfold d_152
  rw [q_146s hg h, Option.bind_some]
  show (∃ a' S', _ ∧ _ ∧ (d_147 g ((rF S 8 (nI a)).1 8) (rF S 8 (nI a))).bind _ = _ ∧ _) ∨ (∃ v S', _ ∧ (d_147 g ((rF S 8 (nI a)).1 8) (rF S 8 (nI a))).bind _ = _ ∧ _)
  rw [e8, h147, Option.bind_some]
  have hns : ns f n xl xh (.inl a) = if tkn f n a = 20 then (if xl ≤ nI (num f n a) ∧ nI (num f n a) ≤ xh then .inl (bl f n (tke f n a)) else .inr (1 + 8 * a + 1)) else .inr (1 + 8 * a + 0) := rfl
  have hnv : nv f n xl xh (.inl a) = if tkn f n a = 20 ∧ xl ≤ nI (num f n a) ∧ nI (num f n a) ≤ xh then num f n a else 0 := rfl
  by_cases h20 : tkn f n a = 20
  · have hd := tkn_20.mp h20
    have hge := sc_ge (P := isDg f) (n := n) (p := a)
    have hle2 := sc_le (P := isDg f) (n := n) (p := a) hle
    have hlt := sc_lt hd.1 hd.2
    have h152 := q_l152 (g := g) (f := f) (n := n) (a := a) (xl := xl) (xh := xh) (sc (isDg f) n a - a) 0 g (rF S 8 (nI a)) (by omega) (by omega) hs.1 hle rF_s hs.2.1
    rw [rF_rF] at h152
    rw [if_pos hd, if_pos (show ¬ (1 : Int32) = 0 by decide)]
    show (∃ a' S', _ ∧ _ ∧ l_152 g g 0 xl xh ((rF S 8 (nI a)).1 8) 0 (rF S 8 (nI a)) = _ ∧ _) ∨ (∃ v S', _ ∧ l_152 g g 0 xl xh ((rF S 8 (nI a)).1 8) 0 (rF S 8 (nI a)) = _ ∧ _)
    rw [e8, show l_152 g g 0 xl xh (nI a) 0 (rF S 8 (nI a)) = _ from h152, hns, if_pos h20]
    have frm : ∀ x y : Int32, r8 S (rF (rF S 8 x) 10 y) := fun x y => (rc.F (by decide)).tr (rc.F (by decide))
    by_cases h5 : sc (isDg f) n a - a ≤ 5
    · have enum : num f n a = dv f a (sc (isDg f) n a - a) := if_pos h5
      have hb : num f n a < 100000 := by
        rw [enum]
        exact dv_5 h5 (fun i hi => sc_in (n := n) (p := a) (by omega) (by omega))
      rw [hnv, ← enum]
      by_cases hr : xl ≤ nI (num f n a) ∧ nI (num f n a) ≤ xh
      · rw [if_pos hr, if_pos (show sc (isDg f) n a - a ≤ 5 ∧ xl ≤ nI (num f n a) ∧ nI (num f n a) ≤ xh from ⟨h5, hr⟩), if_pos (show tkn f n a = 20 ∧ xl ≤ nI (num f n a) ∧ nI (num f n a) ≤ xh from ⟨h20, hr⟩)]
        refine Or.inl ⟨_, _, rfl, ?_, rfl, ?_, rF_s, hr.1, hr.2, hb, frm _ _⟩
        · have h1 := tke_lt (f := f) hd.1
          have h2 := sc_ge (P := isB f) (n := n) (p := tke f n a)
          show a < sc (isB f) n (tke f n a)
          omega
        · rw [tke_20 h20]
          have := h.at (p := sc (isDg f) n a) hle2
          exact ⟨this.1.F (by decide), by rw [rF_n (by decide)]; exact this.2.1, sc (isDg f) n a, hle2, by rw [rF_n (by decide), rF_s], rfl⟩
      · rw [if_neg hr, if_neg (show ¬ (sc (isDg f) n a - a ≤ 5 ∧ xl ≤ nI (num f n a) ∧ nI (num f n a) ≤ xh) from fun z => hr z.2)]
        exact Or.inr ⟨_, _, rfl, rfl, rF_s, (frm _ _).tr (rc.F (by decide))⟩
    · have enum : num f n a = 100000 := if_neg h5
      have hr : ¬ (xl ≤ nI (num f n a) ∧ nI (num f n a) ≤ xh) := fun z => by
        rw [enum] at z
        have := Int32.le_trans z.2 hh
        exact absurd this (by decide)
      rw [if_neg hr, if_neg (show ¬ (sc (isDg f) n a - a ≤ 5 ∧ xl ≤ nI (dv f a (sc (isDg f) n a - a)) ∧ nI (dv f a (sc (isDg f) n a - a)) ≤ xh) from fun z => h5 z.1)]
      exact Or.inr ⟨_, _, rfl, rfl, rF_s, (frm _ _).tr (rc.F (by decide))⟩
  · rw [if_neg (fun z => h20 (tkn_20.mpr z)), if_neg (show ¬ ¬ (0 : Int32) = 0 from fun z => z rfl), hns, if_neg h20]
    refine Or.inr ⟨_, rF (rF S 8 (nI a)) 9 (nI (1 + 8 * a + 0)), rfl, ?_, rF_s, (rc.F (by decide)).tr (rc.F (by decide))⟩
    have := q_145s (g := g) (k := 0) hs
    show (d_145 g 0 ((rF S 8 (nI a)).1 8) (rF S 8 (nI a))).bind _ = _
    rw [e8, show d_145 g 0 (nI a) (rF S 8 (nI a)) = _ from this, Option.bind_some, if_pos (Or.inl rfl)]
/-- cellHere -/
theorem q_168s {a c : Nat} {xl xh : Int32} (hg : 1000 ≤ g) (h : rg S f n a) (hh : xh ≤ 99999) (hc : c < 140) : (∃ a' S', ns f n xl xh (.inl a) = .inl a' ∧ a < a' ∧ d_168 g (nI c) xl xh S = some (1, S') ∧ rg S' f n a' ∧ S'.2.1 7 = upd (S.2.1 7) c (nI (nv f n xl xh (.inl a))) ∧ xl ≤ nI (nv f n xl xh (.inl a)) ∧ nI (nv f n xl xh (.inl a)) ≤ xh ∧ nv f n xl xh (.inl a) < 100000 ∧ rc [8, 9, 10] [7] S S') ∨ (∃ v S', ns f n xl xh (.inl a) = .inr v ∧ d_168 g (nI c) xl xh S = some (0, S') ∧ S'.1 9 = nI v ∧ rc [8, 9, 10] [7] S S') := by
  unfold d_168
  rcases q_152s (g := g) (xl := xl) (xh := xh) hg h hh with ⟨a', S', h1, h2, h3, h4, h5, h6, h7, h8, h9⟩ | ⟨v, S', h1, h2, h3, h4⟩
  · rw [h3, Option.bind_some, if_pos (show ¬ (1 : Int32) = 0 by decide), if_pos (k_in hc (by omega)), k_cl (show c < 2147483648 by omega)]
    refine Or.inl ⟨a', rA S' 7 (upd (S'.2.1 7) c (S'.1 10)), h1, h2, rfl, ?_, ?_, h6, h7, h8, (h9.mo (by decide) (by decide)).tr (rc.A (by decide))⟩
    · exact ⟨⟨h4.1.1, h4.1.2.1, by rw [rA_n (by decide)]; exact h4.1.2.2⟩, h4.2⟩
    · rw [rA_s, h5, h9.2 7 (by simp)]
  · rw [h2, Option.bind_some, if_neg (show ¬ ¬ (0 : Int32) = 0 from fun z => z rfl)]
    exact Or.inr ⟨v, S', h1, rfl, h3, h4.mo (by decide) (by decide)⟩
end NU
