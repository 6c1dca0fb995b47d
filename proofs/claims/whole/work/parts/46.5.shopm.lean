/-! shop: one clause, both sides together -/
theorem cW_u {m : cM} {b k : Nat} {v : Int32} : (cW m b k v).1 b = upd (m.1 b) k v := up_s
theorem ns_lt {f : Nat → Int32} {n : Nat} {xl xh : Int32} {s : sP} {a' : Nat} (h : ns f n xl xh s = .inl a') : ∃ b, s = .inl b ∧ b < a' := by
  match s, h with
  | .inl a, h =>
    have h : (if tkn f n a = 20 then (if xl ≤ nI (num f n a) ∧ nI (num f n a) ≤ xh then Sum.inl (bl f n (tke f n a)) else Sum.inr (1 + 8 * a + 1)) else Sum.inr (1 + 8 * a + 0)) = (Sum.inl a' : sP) := h
    by_cases h1 : tkn f n a = 20
    · rw [if_pos h1] at h
      by_cases h2 : xl ≤ nI (num f n a) ∧ nI (num f n a) ≤ xh
      · rw [if_pos h2] at h
        have e := Sum.inl.inj h
        have h3 := tke_lt (f := f) (tkn_20.mp h1).1
        have h4 := sc_ge (P := isB f) (n := n) (p := tke f n a)
        refine ⟨a, rfl, ?_⟩
        rw [← e]
        show a < sc (isB f) n (tke f n a)
        omega
      · rw [if_neg h2] at h; cases h
    · rw [if_neg h1] at h; cases h
  | .inr v, h => cases h
theorem al_l {f : Nat → Int32} {n : Nat} {xh : Int32} {s : sP} {b : Nat} (h : alS f n xh s = .inl b) : ns f n 0 xh s = .inl b := by
  unfold alS at h
  split at h
  · cases e : ns f n 0 xh s with
    | inl x => rw [e] at h; cases h
    | inr v => rw [e] at h; cases h
  · exact h
theorem cd_l {f : Nat → Int32} {n kd : Nat} {s : sP} {b : Nat} (h : cdS f n kd s = .inl b) : ∃ a, s = .inl a ∧ a ≤ b := by
  unfold cdS at h
  split at h
  · exact ⟨b, h, Nat.le_refl _⟩
  · split at h
    · obtain ⟨a, h1, h2⟩ := ns_lt h
      exact ⟨a, h1, by omega⟩
    · obtain ⟨a, h1, h2⟩ := ns_lt h
      exact ⟨a, h1, by omega⟩
theorem lt9 {x C : Nat} (hx : x ≤ 100000) (hC : C ≤ 8) (h : nI x ≤ nI C - 1) : x < C := by
  by_cases h0 : C = 0
  · subst h0
    exact absurd (Int32.le_trans (nI_pos' (n := x) (by omega)) h) (by decide)
  · rw [show (1 : Int32) = nI 1 from rfl, k_sub (by omega)] at h
    have := (nI_leI (by omega) (by omega)).mp h
    omega
section SHM
variable {g : Nat} {f : Nat → Int32} {n a p : Nat} {m : cM} {S : rS} {u : Nat → Int32} {T W C Sa c : Nat}
theorem nv_r {xl xh : Nat} {s : sP} {a' : Nat} (h1 : xl ≤ 100000) (h2 : xh ≤ 100000) (h : ns f n (nI xl) (nI xh) s = .inl a') : xl ≤ nv f n (nI xl) (nI xh) s ∧ nv f n (nI xl) (nI xh) s ≤ xh := by
  have := ns_in h
  have hb := nv_b (f := f) (n := n) (xl := nI xl) (xh := nI xh) (s := s)
  exact ⟨(nI_leI (by omega) (by omega)).mp this.1, (nI_leI (by omega) (by omega)).mp this.2⟩
/-- how a clause leaves both -/
def clE (m m' : cM) (S S' : rS) (v' : Int32) (f : Nat → Int32) (n a p c : Nat) : Prop := fs p m m' ∧ rc [8, 9, 10, 14] [7] S S' ∧ sR m' p ∧ ((v' = 1 ∧ ∃ a' u' T' W' C' Sa', a < a' ∧ shS m' S' f n a' p u' T' W' C' Sa' (c + 1)) ∨ (v' = 0 ∧ ∃ v, cs m' f n (.inr v) ∧ S'.1 9 = nI v))
def cl2 (g : Nat) (m : cM) (S : rS) (f : Nat → Int32) (n a p c : Nat) : Prop := ∃ m' v' S', d_61 g m = some m' ∧ d_178 g S = some (v', S') ∧ clE m m' S S' v' f n a p c
theorem rga.F {v : Int32} (h : rga S f n a) : rga (rF S 14 v) f n a := ⟨⟨h.1.1.F (by decide), by rw [rF_n (by decide)]; exact h.1.2.1, by
  obtain ⟨q, q1, q2, q3⟩ := h.1.2.2
  exact ⟨q, q1, by rw [rF_n (by decide)]; exact q2, q3⟩⟩, by rw [rF_n (by decide)]; exact h.2⟩
/-- both refuse -/
theorem cl_f {k : Nat} {m' : cM} {S1 : rS} (hR : sR m p) (h1 : d_61 g m = some m') (h2 : c1 m m') (h3 : cs m' f n (.inr (1 + 8 * a + k))) (h4 : d_178 g S = some (0, rF S1 9 (nI (1 + 8 * a + k)))) (h5 : rc [8, 9, 10, 14] [7] S S1) : cl2 g m S f n a p c := ⟨m', 0, _, h1, h4, fs.of h2, h5.tr (rc.F (by decide)), hR.c1 h2, Or.inr ⟨rfl, _, h3, rF_s⟩⟩
/-- both have read it, or both refuse in it -/
theorem cl_g {s : sP} {m' : cM} {S1 : rS} {u' : Nat → Int32} {r : Option (Int32 × rS)} {T' W' C' Sa' : Nat} (h14 : S1.1 14 = nI (c + 1)) (h11 : S1.1 11 = nI 6) (hc : c < 40) (hrc1 : rc [8, 9, 10, 14] [7] S S1) (hr : cR f n s r S1 u') (h178 : d_178 g S = yn (yn r)) (h61 : d_61 g m = some m') (hR' : sR m' p) (hs' : cs m' f n s) (hfs : fs p m m') (h32 : m'.1 3 2 = nI (c + 1)) (good : ∀ a', s = .inl a' → a < a' ∧ vX m'.1 p u' T' W' C' Sa' ∧ u' 0 = nI 1) : cl2 g m S f n a p c := by
  rcases hr with ⟨a', S', x1, x2, x3, x4, x5⟩ | ⟨v, S', x1, x2, x3, x4⟩
  · obtain ⟨g1, ⟨g2, g3⟩, g4⟩ := good a' x1
    have hrc : rc [8, 9, 10, 14] [7] S S' := hrc1.tr (x5.mo (by decide) (by decide))
    refine ⟨m', 1, S', h61, by rw [h178, x2, yn1, yn1], hfs, hrc, hR', Or.inl ⟨rfl, a', u', T', W', C', Sa', g1, ?_⟩⟩
    rw [x1] at hs'
    exact ⟨hs', hR', g2, h32, x3, x4, g3, by rw [x5.1 14 (by decide)]; exact h14, by omega, fun z => absurd z (by omega), fun _ => g4, by rw [x5.1 11 (by decide)]; exact h11⟩
  · rw [x1] at hs'
    exact ⟨m', 0, S', h61, by rw [h178, x2, yn0, yn0], hfs, hrc1.tr (x4.mo (by decide) (by decide)), hR', Or.inr ⟨rfl, v, hs', x3⟩⟩
theorem q145t {x : rS} (h : rga x f n a) : d_145 g 4 (nI a) x = some (0, rF x 9 (nI (1 + 8 * a + 4))) := q_145s (k := 4) h.1
theorem yn_b {r : Option (Int32 × rS)} {x : rS} (h : r = some (0, x)) : (r.bind (fun z => if z.1 = 0 ∨ z.1 = 1 then some (z.1, z.2) else none)) = some (0, x) := by
  rw [h]; rfl
set_option maxHeartbeats 4000000 in
theorem cl_shop (hg : 1000 ≤ g) (hp : 406 ≤ p) (h : shS m S f n a p u T W C Sa c) : cl2 g m S f n a p c := by
  obtain ⟨h1, h2, h3, h4, h5, h6, h7, h8, h9, h10, h11, h12⟩ := h
  have hX : vX m.1 p u T W C Sa := ⟨h3, h7⟩
  obtain ⟨⟨⟨a1, a2, a3, a4, a5, a6, a7⟩, hdT, hdW, hdS, hdC⟩, ⟨v1, v2, v3, v10, v0, v4, v5, v6, vt, vw, vs, vc⟩, z1, z2⟩ := id hX
  obtain ⟨n1, n2, n3⟩ := q_178 (g := g) hg h5 h12 h8 h9
  have ha0 := h5.a
  have hrc0 : rc [8, 9, 10, 14] [7] S (rF S 8 (nI a)) := rc.F (by decide)
  by_cases hsh : isSh (tkn f n a)
  case neg =>
    obtain ⟨m', y1, y2, y3⟩ := p_61n (g := g) h1 hsh
    exact cl_f h2 y1 y2 y3 (n1 hsh) hrc0
  case pos =>
    have h61 := p_61j (g := g) h1 hsh
    by_cases h40 : c = 40
    case pos =>
      obtain ⟨m', y1, y2, y3⟩ := p_61f (g := g) (t := tkn f n a) h1 (p_62a h4 h9 (Or.inl h40))
      exact cl_f h2 (h61.trans y1) y2 y3 (n2 hsh h40) hrc0
    case neg =>
      have hc40 : c < 40 := by omega
      have n3 := n3 hsh hc40
      obtain ⟨S1, hS1⟩ : ∃ S1, S1 = rF (rF S 8 (nI a)) 14 (nI (c + 1)) := ⟨_, rfl⟩
      rw [← hS1] at n3
      have ha1 : rga S1 f n a := by rw [hS1]; exact ha0.F
      have hu1 : S1.2.1 7 = u := by rw [hS1]; exact h6
      have hrc1 : rc [8, 9, 10, 14] [7] S S1 := by rw [hS1]; exact hrc0.tr (rc.F (by decide))
      have s14 : S1.1 14 = nI (c + 1) := by rw [hS1, rF_s]
      have s11 : S1.1 11 = nI 6 := by rw [hS1, rF_n (by decide), rF_n (by decide)]; exact h12
      have hab : a < n → a < bl f n (tke f n a) := fun z => by
        have q1 := tke_lt (f := f) z
        have q2 := sc_ge (P := isB f) (n := n) (p := tke f n a)
        show a < sc (isB f) n (tke f n a)
        omega
      have full : ∀ {t : Nat}, tkn f n a = t → d_62 g (nI t) m = some 1 → d_176 g (nI a) S1 = some (0, rF S1 9 (nI (1 + 8 * a + 4))) → cl2 g m S f n a p c := fun {t} ht h62 h176 => by
        obtain ⟨m', y1, y2, y3⟩ := p_61f (g := g) (t := t) h1 h62
        rw [ht] at h61
        exact cl_f h2 (h61.trans y1) y2 y3 (by rw [n3, h176, yn0]) hrc1
      by_cases h80 : tkn f n a = 8
      case pos =>
        by_cases hc0 : c = 0
        case neg =>
          refine full h80 (p_62a h4 h9 (Or.inr (Or.inl ⟨rfl, by omega⟩))) ?_
          have hu0 := h11 (by omega)
          rw [q_176_8 hg ha1 h80]
          refine congrArg yn (?_ : d_169 g (nI a) S1 = some (0, _))
          unfold d_169
          rw [if_pos i_0, c_0, hu1, hu0, if_neg (show ¬ nI 1 ≤ 0 by decide)]
          exact yn_b (q145t ha1)
        case pos =>
          obtain ⟨x, hx⟩ := p_62b (g := g) (t := 8) h4 hc40 (Or.inl ⟨rfl, hc0⟩)
          obtain ⟨m1, y1, y2, y3, y4⟩ := p_61_8 (g := g) hg h1 h2 h4 (hx.trans p_62_8)
          obtain ⟨m', w1, w2, w3, w4⟩ := p_63 (g := g) hg y1 y2 hp
          have hu0 := h10 hc0
          have em : ∀ b, b ≠ 1 → b ≠ 3 → m1.1 b = m.1 b := fun b q1 q2 => by rw [y3.1 b q1, cW_b q2]
          refine cl_g (T' := T) (W' := W) (C' := C) (Sa' := Sa) s14 s11 hc40 hrc1 (q_169 (g := g) (x1 := nI a) hg ha1 hu1 h80 hu0) (by rw [n3, q_176_8 hg ha1 h80]) (by rw [h61, h80, y4, w1]; rfl) w2 w3 (((fs.W3.tr (fs.of y3)).tr ((fs.W (by omega)).tr (fs.W (by omega)))).tr (fs.of w4)) (by rw [w4.1 3 (by decide), cW_b (by omega), cW_b (by omega), y3.1 3 (by decide), cW_s]) (fun a' ha' => ?_)
          obtain ⟨b1, q1, q2⟩ := ns_lt ha'
          obtain ⟨b2, q3, q4⟩ := ns_lt q1
          have e := Sum.inl.inj q3
          have r2 := nv_r (f := f) (n := n) (xl := 0) (xh := 9999) (by omega) (by omega) ha'
          have r1 := nv_r (f := f) (n := n) (xl := 0) (xh := 999) (by omega) (by omega) q1
          have hlt := hab ((tkn_w (by omega)).mp h80).1
          refine ⟨by omega, hX.shop r1.2 r2.2 ?_ (fun i i1 i2 => ?_), by rw [upd_s]; rfl⟩
          · rw [w4.1 p (by omega), cW_u, cW_u, em p (by omega) (by omega)]
          · rw [w4.1 _ (by omega), cW_b (by omega), cW_b (by omega), em _ (by omega) (by omega)]
      case neg =>
      by_cases hc0 : c = 0
      case pos =>
        refine full (t := tkn f n a) rfl (p_62a h4 h9 (Or.inr (Or.inr ⟨h80, tkn_b, hc0⟩))) ?_
        rw [q_176_n hg ha1 h80 (by rw [hu1]; exact h10 hc0), q145t ha1, yn0]
      case neg =>
      have hu0 := h11 (by omega)
      have hu0' : ¬ S1.2.1 7 0 = 0 := by rw [hu1, hu0]; decide
      have h62 : ∀ t, t ≠ 8 → t ≤ 35 → ∃ x, d_62 g (nI t) m = j_62_32 g (nI t) x x m := fun t q1 q2 => p_62b (g := g) (t := t) h4 hc40 (Or.inr ⟨q1, q2, by omega⟩)
      rcases hsh with ht | ht | ht | ht | ht | ht | ht | ht | ht
      case inr.inr.inl => exact absurd ht h80
      -- thing
      case inl =>
        obtain ⟨x, hx⟩ := h62 0 (by decide) (by decide)
        have hx := hx.trans (p_62_0 h2 a4 v1.2)
        by_cases hl : T < 8
        · rw [if_pos hl] at hx
          obtain ⟨m1, y1, y2, y3, y4⟩ := p_61_0 (g := g) hg h1 h2 h4 hx
          have em : ∀ b, b ≠ 1 → b ≠ 3 → m1.1 b = m.1 b := fun b q1 q2 => by rw [y3.1 b q1, cW_b q2]
          obtain ⟨m', w1, w2, w3, w4⟩ := p_64 (g := g) (T := T) hg y1 y2 hp (by rw [em p (by omega) (by omega)]; exact a4) hl
          refine cl_g (T' := T + 1) (W' := W) (C' := C) (Sa' := Sa) s14 s11 hc40 hrc1 (q_170 (g := g) (x1 := nI a) hg ha1 hu1 ht v1.1 hl) (by rw [n3, q_176_0 hg ha1 ht hu0']) (by rw [h61, ht, y4, w1]; rfl) w2 w3 (((fs.W3.tr (fs.of y3)).tr ((((fs.W (by omega)).tr (fs.W (by omega))).tr (fs.W (by omega))).tr (fs.W (by omega)))).tr (fs.of w4)) (by rw [w4.1 3 (by decide), cW_b (by omega), cW_b (by omega), cW_b (by omega), cW_b (by omega), y3.1 3 (by decide), cW_s]) (fun a' ha' => ?_)
          obtain ⟨b1, q1, q2⟩ := ns_lt ha'
          obtain ⟨b2, q3, q4⟩ := ns_lt q1
          obtain ⟨b3, q5, q6⟩ := ns_lt q3
          have e := Sum.inl.inj q5
          have r3 := nv_r (f := f) (n := n) (xl := 0) (xh := 9) (by omega) (by omega) ha'
          have r2 := nv_r (f := f) (n := n) (xl := 0) (xh := 5000) (by omega) (by omega) q1
          have r1 := nv_r (f := f) (n := n) (xl := 1) (xh := 5000) (by omega) (by omega) q3
          have hlt := hab ((tkn_w (by omega)).mp ht).1
          refine ⟨by omega, hX.thing hl hu0 r1.1 r1.2 r2.2 r3.2 ?_ ?_ ?_ ?_ (fun i i1 i2 => ?_), ?_⟩
          · rw [w4.1 p (by omega), cW_u, cW_b (by omega), cW_b (by omega), cW_b (by omega), em p (by omega) (by omega)]
          · rw [w4.1 (p + 1) (by omega), cW_b (by omega), cW_b (by omega), cW_b (by omega), cW_u, em (p + 1) (by omega) (by omega)]
          · rw [w4.1 (p + 2) (by omega), cW_b (by omega), cW_b (by omega), cW_u, cW_b (by omega), em (p + 2) (by omega) (by omega)]
          · rw [w4.1 (p + 3) (by omega), cW_b (by omega), cW_u, cW_b (by omega), cW_b (by omega), em (p + 3) (by omega) (by omega)]
          · rw [w4.1 _ (by omega), cW_b (by omega), cW_b (by omega), cW_b (by omega), cW_b (by omega), em _ (by omega) (by omega)]
          · rw [upd_n (by omega), upd_n (by omega), upd_n (by omega), upd_n (by omega)]; exact hu0
        · rw [if_neg hl] at hx
          refine full ht hx ?_
          rw [q_176_0 hg ha1 ht hu0']
          refine congrArg yn (?_ : d_170 g (nI a) S1 = some (0, _))
          unfold d_170
          rw [if_pos i_1, c_1, hu1, v1.1, show T = 8 by have := v1.2; omega, if_neg (show ¬ ¬ nI 8 = 8 from fun z => z rfl)]
          exact yn_b (q145t ha1)
      -- sale
      case inr.inl =>
        obtain ⟨x, hx⟩ := h62 2 (by decide) (by decide)
        have hx := hx.trans (p_62_2 h2 a6 v10.2)
        by_cases hl : Sa < 4
        · rw [if_pos hl] at hx
          obtain ⟨m1, y1, y2, y3, y4⟩ := p_61_2 (g := g) hg h1 h2 h4 hx
          have em : ∀ b, b ≠ 1 → b ≠ 3 → m1.1 b = m.1 b := fun b q1 q2 => by rw [y3.1 b q1, cW_b q2]
          obtain ⟨m', w1, w2, w3, w4⟩ := p_66 (g := g) (T := Sa) hg y1 y2 hp (by rw [em p (by omega) (by omega)]; exact a6) hl
          refine cl_g (T' := T) (W' := W) (C' := C) (Sa' := Sa + 1) s14 s11 hc40 hrc1 (q_172 (g := g) (x1 := nI a) hg ha1 hu1 ht v10.1 hl) (by rw [n3, q_176_2 hg ha1 ht hu0']) (by rw [h61, ht, y4, w1]; rfl) w2 w3 (((fs.W3.tr (fs.of y3)).tr ((((fs.W (by omega)).tr (fs.W (by omega))).tr (fs.W (by omega))).tr (fs.W (by omega)))).tr (fs.of w4)) (by rw [w4.1 3 (by decide), cW_b (by omega), cW_b (by omega), cW_b (by omega), cW_b (by omega), y3.1 3 (by decide), cW_s]) (fun a' ha' => ?_)
          obtain ⟨b1, q1, q2⟩ := ns_lt ha'
          obtain ⟨b2, q3, q4⟩ := ns_lt q1
          obtain ⟨b3, q5, q6⟩ := ns_lt q3
          have e := Sum.inl.inj q5
          have r3 := nv_r (f := f) (n := n) (xl := 1) (xh := 90) (by omega) (by omega) ha'
          have hlt := hab ((tkn_w (by omega)).mp ht).1
          refine ⟨by omega, hX.sale hl r3.2 ?_ ?_ ?_ ?_ (fun i i1 i2 i3 i4 i5 => ?_), ?_⟩
          · rw [w4.1 p (by omega), cW_u, cW_b (by omega), cW_b (by omega), cW_b (by omega), em p (by omega) (by omega)]
          · rw [w4.1 (p + 6) (by omega), cW_b (by omega), cW_b (by omega), cW_b (by omega), cW_u, em (p + 6) (by omega) (by omega)]
          · rw [w4.1 (p + 7) (by omega), cW_b (by omega), cW_b (by omega), cW_u, cW_b (by omega), em (p + 7) (by omega) (by omega)]
          · rw [w4.1 (p + 8) (by omega), cW_b (by omega), cW_u, cW_b (by omega), cW_b (by omega), em (p + 8) (by omega) (by omega)]
          · rw [w4.1 _ (by omega), cW_b (by omega), cW_b (by omega), cW_b (by omega), cW_b (by omega), em _ (by omega) (by omega)]
          · rw [upd_n (by omega), upd_n (by omega), upd_n (by omega), upd_n (by omega)]; exact hu0
        · rw [if_neg hl] at hx
          refine full ht hx ?_
          rw [q_176_2 hg ha1 ht hu0']
          refine congrArg yn (?_ : d_172 g (nI a) S1 = some (0, _))
          unfold d_172
          rw [if_pos i_10, c_10, hu1, v10.1, show Sa = 4 by have := v10.2; omega, if_neg (show ¬ ¬ nI 4 = 4 from fun z => z rfl)]
          exact yn_b (q145t ha1)
      -- want
      case inr.inr.inr.inl =>
        obtain ⟨x, hx⟩ := h62 9 (by decide) (by decide)
        have hx := hx.trans (p_62_9 h2 a5 v2.2)
        by_cases hl : W < 6
        · rw [if_pos hl] at hx
          obtain ⟨m1, y1, y2, y3, y4⟩ := p_61_9 (g := g) hg h1 h2 h4 hx
          have em : ∀ b, b ≠ 1 → b ≠ 3 → m1.1 b = m.1 b := fun b q1 q2 => by rw [y3.1 b q1, cW_b q2]
          obtain ⟨m', w1, w2, w3, w4⟩ := p_65 (g := g) (T := T) (W := W) hg y1 y2 hp (by rw [em p (by omega) (by omega)]; exact a4) (by rw [em p (by omega) (by omega)]; exact a5) hl
          refine cl_g (T' := T) (W' := W + 1) (C' := C) (Sa' := Sa) s14 s11 hc40 hrc1 (q_171 (g := g) (x1 := nI a) hg ha1 hu1 ht v1.1 v1.2 v2.1 hl) (by rw [n3, q_176_9 hg ha1 ht hu0']) (by rw [h61, ht, y4, w1]; rfl) w2 w3 (((fs.W3.tr (fs.of y3)).tr (((fs.W (by omega)).tr (fs.W (by omega))).tr (fs.W (by omega)))).tr (fs.of w4)) (by rw [w4.1 3 (by decide), cW_b (by omega), cW_b (by omega), cW_b (by omega), y3.1 3 (by decide), cW_s]) (fun a' ha' => ?_)
          obtain ⟨b1, q1, q2⟩ := ns_lt ha'
          obtain ⟨b2, q3, q4⟩ := ns_lt q1
          have e := Sum.inl.inj q3
          have r2 := nv_r (f := f) (n := n) (xl := 0) (xh := 30) (by omega) (by omega) ha'
          have r1 : nv f n 0 (nI T - 1) (.inl (bl f n (tke f n a))) < T := lt9 nv_b v1.2 (ns_in q1).2
          have hlt := hab ((tkn_w (by omega)).mp ht).1
          refine ⟨by omega, hX.want hl r1 r2.2 ?_ ?_ ?_ (fun i i1 i2 i3 i4 => ?_), ?_⟩
          · rw [w4.1 p (by omega), cW_u, cW_b (by omega), cW_b (by omega), em p (by omega) (by omega)]
          · rw [w4.1 (p + 4) (by omega), cW_b (by omega), cW_b (by omega), cW_u, em (p + 4) (by omega) (by omega)]
          · rw [w4.1 (p + 5) (by omega), cW_b (by omega), cW_u, cW_b (by omega), em (p + 5) (by omega) (by omega)]
          · rw [w4.1 _ (by omega), cW_b (by omega), cW_b (by omega), cW_b (by omega), em _ (by omega) (by omega)]
          · rw [upd_n (by omega), upd_n (by omega), upd_n (by omega)]; exact hu0
        · rw [if_neg hl] at hx
          refine full ht hx ?_
          rw [q_176_9 hg ha1 ht hu0']
          refine congrArg yn (?_ : d_171 g (nI a) S1 = some (0, _))
          unfold d_171
          rw [if_pos i_2, c_2, hu1, v2.1, show W = 6 by have := v2.2; omega, if_neg (show ¬ ¬ nI 6 = 6 from fun z => z rfl)]
          exact yn_b (q145t ha1)
      -- code 0
      case inr.inr.inr.inr.inl =>
        obtain ⟨x, hx⟩ := h62 10 (by decide) (by decide)
        have hx := hx.trans (p_62_10 h2 a7 v3.2)
        by_cases hl : C < 5
        · rw [if_pos hl] at hx
          obtain ⟨m1, y1, y2, y3, y4⟩ := p_61_10 (g := g) hg h1 h2 h4 hx
          have em : ∀ b, b ≠ 1 → b ≠ 3 → m1.1 b = m.1 b := fun b q1 q2 => by rw [y3.1 b q1, cW_b q2]
          obtain ⟨m', w1, w2, w3, w4⟩ := p_67 (g := g) (C := C) (kd := 0) hg y1 y2 hp (by rw [em p (by omega) (by omega)]; exact a7) hl (by omega) (by rw [em _ (by omega) (by omega)]; exact (hdC.2 C (Nat.le_refl _) hl).1)
          refine cl_g (T' := T) (W' := W) (C' := C + 1) (Sa' := Sa) s14 s11 hc40 hrc1 (q_173 (g := g) (x2 := nI a) (kd := 0) hg ha1 hu1 (by omega) ht v3.1 hl) (by rw [n3, q_176_10 hg ha1 ht hu0']; rfl) (by rw [h61, ht, y4, w1]; rfl) w2 w3 (((fs.W3.tr (fs.of y3)).tr ((((fs.W (by omega)).tr (fs.W (by omega))).tr (fs.W (by omega))).tr (fs.W (by omega)))).tr (fs.of w4)) (by rw [w4.1 3 (by decide), cW_b (by omega), cW_b (by omega), cW_b (by omega), cW_b (by omega), y3.1 3 (by decide), cW_s]) (fun a' ha' => ?_)
          obtain ⟨b1, q1, q2⟩ := ns_lt ha'
          obtain ⟨b2, q3, q4⟩ := cd_l q1
          have e := Sum.inl.inj q3
          have r2 := nv_r (f := f) (n := n) (xl := 0) (xh := 9999) (by omega) (by omega) ha'
          have r1 : cdV f n 0 (.inl (bl f n (tke f n a))) ≤ 2000 ∧ (0 = 0 → cdV f n 0 (.inl (bl f n (tke f n a))) ≤ 90) := by
            have := (nv_r (f := f) (n := n) (xl := 1) (xh := 90) (by omega) (by omega) (show ns f n (nI 1) (nI 90) (.inl (bl f n (tke f n a))) = .inl b1 from q1)).2
            exact ⟨Nat.le_trans this (by omega), fun _ => this⟩
          have hlt := hab ((tkn_w (by omega)).mp ht).1
          refine ⟨by omega, hX.code hl (by omega) r1.1 r1.2 r2.2 ?_ ?_ ?_ ?_ (fun i i1 i2 i3 i4 i5 => ?_), ?_⟩
          · rw [w4.1 p (by omega), cW_u, cW_b (by omega), cW_b (by omega), cW_b (by omega), em p (by omega) (by omega)]
          · rw [w4.1 (p + 9) (by omega), cW_b (by omega), cW_b (by omega), cW_b (by omega), cW_u, em (p + 9) (by omega) (by omega)]
          · rw [w4.1 (p + 10) (by omega), cW_b (by omega), cW_b (by omega), cW_u, cW_b (by omega), em (p + 10) (by omega) (by omega)]
          · rw [w4.1 (p + 11) (by omega), cW_b (by omega), cW_u, cW_b (by omega), cW_b (by omega), em (p + 11) (by omega) (by omega)]
          · rw [w4.1 _ (by omega), cW_b (by omega), cW_b (by omega), cW_b (by omega), cW_b (by omega), em _ (by omega) (by omega)]
          · rw [upd_n (by omega), upd_n (by omega), upd_n (by omega), upd_n (by omega), upd_n (by omega), upd_n (by omega)]; exact hu0
        · rw [if_neg hl] at hx
          refine full ht hx ?_
          rw [q_176_10 hg ha1 ht hu0']
          refine congrArg yn (?_ : d_173 g 0 (nI a) S1 = some (0, _))
          unfold d_173
          rw [if_pos i_3, c_3, hu1, v3.1, show C = 5 by have := v3.2; omega, if_neg (show ¬ ¬ nI 5 = 5 from fun z => z rfl)]
          exact yn_b (q145t ha1)
      -- code 1
      case inr.inr.inr.inr.inr.inl =>
        obtain ⟨x, hx⟩ := h62 11 (by decide) (by decide)
        have hx := hx.trans (p_62_11 h2 a7 v3.2)
        by_cases hl : C < 5
        · rw [if_pos hl] at hx
          obtain ⟨m1, y1, y2, y3, y4⟩ := p_61_11 (g := g) hg h1 h2 h4 hx
          have em : ∀ b, b ≠ 1 → b ≠ 3 → m1.1 b = m.1 b := fun b q1 q2 => by rw [y3.1 b q1, cW_b q2]
          obtain ⟨m', w1, w2, w3, w4⟩ := p_67 (g := g) (C := C) (kd := 1) hg y1 y2 hp (by rw [em p (by omega) (by omega)]; exact a7) hl (by omega) (by rw [em _ (by omega) (by omega)]; exact (hdC.2 C (Nat.le_refl _) hl).1)
          refine cl_g (T' := T) (W' := W) (C' := C + 1) (Sa' := Sa) s14 s11 hc40 hrc1 (q_173 (g := g) (x2 := nI a) (kd := 1) hg ha1 hu1 (by omega) ht v3.1 hl) (by rw [n3, q_176_11 hg ha1 ht hu0']; rfl) (by rw [h61, ht, y4, w1]; rfl) w2 w3 (((fs.W3.tr (fs.of y3)).tr ((((fs.W (by omega)).tr (fs.W (by omega))).tr (fs.W (by omega))).tr (fs.W (by omega)))).tr (fs.of w4)) (by rw [w4.1 3 (by decide), cW_b (by omega), cW_b (by omega), cW_b (by omega), cW_b (by omega), y3.1 3 (by decide), cW_s]) (fun a' ha' => ?_)
          obtain ⟨b1, q1, q2⟩ := ns_lt ha'
          obtain ⟨b2, q3, q4⟩ := cd_l q1
          have e := Sum.inl.inj q3
          have r2 := nv_r (f := f) (n := n) (xl := 0) (xh := 9999) (by omega) (by omega) ha'
          have r1 : cdV f n 1 (.inl (bl f n (tke f n a))) ≤ 2000 ∧ (1 = 0 → cdV f n 1 (.inl (bl f n (tke f n a))) ≤ 90) := ⟨(nv_r (f := f) (n := n) (xl := 1) (xh := 2000) (by omega) (by omega) (show ns f n (nI 1) (nI 2000) (.inl (bl f n (tke f n a))) = .inl b1 from q1)).2, fun z => absurd z (by omega)⟩
          have hlt := hab ((tkn_w (by omega)).mp ht).1
          refine ⟨by omega, hX.code hl (by omega) r1.1 r1.2 r2.2 ?_ ?_ ?_ ?_ (fun i i1 i2 i3 i4 i5 => ?_), ?_⟩
          · rw [w4.1 p (by omega), cW_u, cW_b (by omega), cW_b (by omega), cW_b (by omega), em p (by omega) (by omega)]
          · rw [w4.1 (p + 9) (by omega), cW_b (by omega), cW_b (by omega), cW_b (by omega), cW_u, em (p + 9) (by omega) (by omega)]
          · rw [w4.1 (p + 10) (by omega), cW_b (by omega), cW_b (by omega), cW_u, cW_b (by omega), em (p + 10) (by omega) (by omega)]
          · rw [w4.1 (p + 11) (by omega), cW_b (by omega), cW_u, cW_b (by omega), cW_b (by omega), em (p + 11) (by omega) (by omega)]
          · rw [w4.1 _ (by omega), cW_b (by omega), cW_b (by omega), cW_b (by omega), cW_b (by omega), em _ (by omega) (by omega)]
          · rw [upd_n (by omega), upd_n (by omega), upd_n (by omega), upd_n (by omega), upd_n (by omega), upd_n (by omega)]; exact hu0
        · rw [if_neg hl] at hx
          refine full ht hx ?_
          rw [q_176_11 hg ha1 ht hu0']
          refine congrArg yn (?_ : d_173 g 1 (nI a) S1 = some (0, _))
          unfold d_173
          rw [if_pos i_3, c_3, hu1, v3.1, show C = 5 by have := v3.2; omega, if_neg (show ¬ ¬ nI 5 = 5 from fun z => z rfl)]
          exact yn_b (q145t ha1)
      -- code 2
      case inr.inr.inr.inr.inr.inr.inl =>
        obtain ⟨x, hx⟩ := h62 12 (by decide) (by decide)
        have hx := hx.trans (p_62_12 h2 a7 v3.2)
        by_cases hl : C < 5
        · rw [if_pos hl] at hx
          obtain ⟨m1, y1, y2, y3, y4⟩ := p_61_12 (g := g) hg h1 h2 h4 hx
          have em : ∀ b, b ≠ 1 → b ≠ 3 → m1.1 b = m.1 b := fun b q1 q2 => by rw [y3.1 b q1, cW_b q2]
          obtain ⟨m', w1, w2, w3, w4⟩ := p_67 (g := g) (C := C) (kd := 2) hg y1 y2 hp (by rw [em p (by omega) (by omega)]; exact a7) hl (by omega) (by rw [em _ (by omega) (by omega)]; exact (hdC.2 C (Nat.le_refl _) hl).1)
          refine cl_g (T' := T) (W' := W) (C' := C + 1) (Sa' := Sa) s14 s11 hc40 hrc1 (q_173 (g := g) (x2 := nI a) (kd := 2) hg ha1 hu1 (by omega) ht v3.1 hl) (by rw [n3, q_176_12 hg ha1 ht hu0']; rfl) (by rw [h61, ht, y4, w1]; rfl) w2 w3 (((fs.W3.tr (fs.of y3)).tr ((((fs.W (by omega)).tr (fs.W (by omega))).tr (fs.W (by omega))).tr (fs.W (by omega)))).tr (fs.of w4)) (by rw [w4.1 3 (by decide), cW_b (by omega), cW_b (by omega), cW_b (by omega), cW_b (by omega), y3.1 3 (by decide), cW_s]) (fun a' ha' => ?_)
          obtain ⟨b1, q1, q2⟩ := ns_lt ha'
          obtain ⟨b2, q3, q4⟩ := cd_l q1
          have e := Sum.inl.inj q3
          have r2 := nv_r (f := f) (n := n) (xl := 0) (xh := 9999) (by omega) (by omega) ha'
          have r1 : cdV f n 2 (.inl (bl f n (tke f n a))) ≤ 2000 ∧ (2 = 0 → cdV f n 2 (.inl (bl f n (tke f n a))) ≤ 90) := ⟨Nat.zero_le _, fun _ => Nat.zero_le _⟩
          have hlt := hab ((tkn_w (by omega)).mp ht).1
          refine ⟨by omega, hX.code hl (by omega) r1.1 r1.2 r2.2 ?_ ?_ ?_ ?_ (fun i i1 i2 i3 i4 i5 => ?_), ?_⟩
          · rw [w4.1 p (by omega), cW_u, cW_b (by omega), cW_b (by omega), cW_b (by omega), em p (by omega) (by omega)]
          · rw [w4.1 (p + 9) (by omega), cW_b (by omega), cW_b (by omega), cW_b (by omega), cW_u, em (p + 9) (by omega) (by omega)]
          · rw [w4.1 (p + 10) (by omega), cW_b (by omega), cW_b (by omega), cW_u, cW_b (by omega), em (p + 10) (by omega) (by omega)]
          · rw [w4.1 (p + 11) (by omega), cW_b (by omega), cW_u, cW_b (by omega), cW_b (by omega), em (p + 11) (by omega) (by omega)]
          · rw [w4.1 _ (by omega), cW_b (by omega), cW_b (by omega), cW_b (by omega), cW_b (by omega), em _ (by omega) (by omega)]
          · rw [upd_n (by omega), upd_n (by omega), upd_n (by omega), upd_n (by omega), upd_n (by omega), upd_n (by omega)]; exact hu0
        · rw [if_neg hl] at hx
          refine full ht hx ?_
          rw [q_176_12 hg ha1 ht hu0']
          refine congrArg yn (?_ : d_173 g 2 (nI a) S1 = some (0, _))
          unfold d_173
          rw [if_pos i_3, c_3, hu1, v3.1, show C = 5 by have := v3.2; omega, if_neg (show ¬ ¬ nI 5 = 5 from fun z => z rfl)]
          exact yn_b (q145t ha1)
      -- alone
      case inr.inr.inr.inr.inr.inr.inr.inl =>
        obtain ⟨x, hx⟩ := h62 13 (by decide) (by decide)
        have hx := hx.trans p_62_13
        obtain ⟨m1, y1, y2, y3, y4⟩ := p_61_13 (g := g) hg h1 h2 h4 hx
        have em : ∀ b, b ≠ 1 → b ≠ 3 → m1.1 b = m.1 b := fun b q1 q2 => by rw [y3.1 b q1, cW_b q2]
        obtain ⟨m', w1, w2, w3, w4, w5⟩ := p_68 (g := g) (C := C) hg y1 y2 hp (by rw [em p (by omega) (by omega)]; exact a7) v3.2
        have hfs : fs p m m' ∧ m'.1 3 2 = nI (c + 1) := by
          cases e : ns f n 0 (nI C - 1) (alS f n (nI C - 1) (.inl (bl f n (tke f n a)))) with
          | inl a' =>
            obtain ⟨-, -, w6⟩ := w4 a' e
            exact ⟨((fs.W3.tr (fs.of y3)).tr ((fs.W (by omega)).tr (fs.W (by omega)))).tr (fs.of w6), by rw [w6.1 3 (by decide), cW_b (by omega), cW_b (by omega), y3.1 3 (by decide), cW_s]⟩
          | inr v => exact ⟨(fs.W3.tr (fs.of y3)).tr (fs.of (w5 v e)), by rw [(w5 v e).1 3 (by decide), y3.1 3 (by decide), cW_s]⟩
        refine cl_g (T' := T) (W' := W) (C' := C) (Sa' := Sa) s14 s11 hc40 hrc1 (q_174 (g := g) hg ha1 hu1 ht v3.1 v3.2) (by rw [n3, q_176_13 hg ha1 ht hu0']) (by rw [h61, ht, y4, w1]; rfl) w2 w3 hfs.1 hfs.2 (fun a' ha' => ?_)
        obtain ⟨q1, q2, w6⟩ := w4 a' ha'
        obtain ⟨b1, q3, q4⟩ := ns_lt ha'
        obtain ⟨b2, q5, q6⟩ := ns_lt (al_l q3)
        have e := Sum.inl.inj q5
        have hlt := hab ((tkn_w (by omega)).mp ht).1
        refine ⟨by omega, hX.alone q1 q2 ?_ (fun i i1 => ?_), ?_⟩
        · rw [w6.1 (p + 12) (by omega), cW_u, cW_u, em (p + 12) (by omega) (by omega)]
        · rw [w6.1 _ (by omega), cW_b (by omega), cW_b (by omega), em _ (by omega) (by omega)]
        · rw [upd_n (by omega), upd_n (by omega)]; exact hu0
      -- again
      case inr.inr.inr.inr.inr.inr.inr.inr =>
        obtain ⟨x, hx⟩ := h62 14 (by decide) (by decide)
        have hx := hx.trans (p_62_14 h2 (by rw [a3]; exact v6))
        rw [a3] at hx
        rcases v6 with e6 | e6
        · rw [e6] at hx
          obtain ⟨m1, y1, y2, y3, y4⟩ := p_61_14 (g := g) hg h1 h2 h4 hx
          have em : ∀ b, b ≠ 1 → b ≠ 3 → m1.1 b = m.1 b := fun b q1 q2 => by rw [y3.1 b q1, cW_b q2]
          refine cl_g (T' := T) (W' := W) (C' := C) (Sa' := Sa) s14 s11 hc40 hrc1 (q_175 (g := g) (x1 := nI a) hg ha1 hu1 ht e6) (by rw [n3, q_176_14 hg ha1 ht hu0']) (by rw [h61, ht, y4]) y2.W (y1.W (by omega) (by omega)) ((fs.W3.tr (fs.of y3)).tr (fs.W (by omega))) (by rw [cW_b (by omega), y3.1 3 (by decide), cW_s]) (fun a' ha' => ?_)
          have e := Sum.inl.inj ha'
          have hlt := hab ((tkn_w (by omega)).mp ht).1
          refine ⟨by omega, hX.again ?_ (fun i i1 i2 => ?_), ?_⟩
          · rw [cW_u, em p (by omega) (by omega)]
          · rw [cW_b (by omega), em _ (by omega) (by omega)]
          · rw [upd_n (by omega)]; exact hu0
        · rw [e6] at hx
          refine full ht hx ?_
          rw [q_176_14 hg ha1 ht hu0']
          refine congrArg yn (?_ : d_175 g (nI a) S1 = some (0, _))
          unfold d_175
          rw [if_pos i_6, c_6, hu1, e6, if_neg (show ¬ nI 1 ≤ 0 by decide)]
          exact yn_b (q145t ha1)
end SHM
