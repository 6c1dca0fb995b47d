/-! rule: one clause -/
/-- a clause that is read -/
def clD (L : List Nat) (r : Nat) (w : Nat → Int32) (M : Nat → Nat → Int32) (k : Nat) : Prop := ∃ A g1 g2 Z, L = A ++ g1 ++ g2 ++ Z ∧ w (48 * r + 4 * k) = nI A.length ∧ w (48 * r + 4 * k + 1) = nI (A.length + g1.length) ∧ w (48 * r + 4 * k + 3) = nI (A.length + g1.length + g2.length) ∧ tyl g1 [] = some [false] ∧ ((w (48 * r + 4 * k + 2) = -nI 1 ∧ g2 = []) ∨ (w (48 * r + 4 * k + 2) = nI (A.length + g1.length) ∧ tyl g2 [] = some [true])) ∧ M (35 + 6 * r + 2) k = w (48 * r + 4 * k) ∧ M (35 + 6 * r + 3) k = w (48 * r + 4 * k + 1) ∧ M (35 + 6 * r + 4) k = w (48 * r + 4 * k + 3)
theorem clD.mo {L Z : List Nat} {r k : Nat} {w w' : Nat → Int32} {M M' : Nat → Nat → Int32} (h : clD L r w M k) (e1 : ∀ j, j < 4 → w' (48 * r + 4 * k + j) = w (48 * r + 4 * k + j)) (e2 : ∀ b, b = 2 ∨ b = 3 ∨ b = 4 → M' (35 + 6 * r + b) k = M (35 + 6 * r + b) k) : clD (L ++ Z) r w' M' k := by
  obtain ⟨A, g1, g2, Z0, h1, h2, h3, h4, h5, h6, h7, h8, h9⟩ := h
  have e0 := e1 0 (by omega)
  rw [Nat.add_zero] at e0
  refine ⟨A, g1, g2, Z0 ++ Z, by rw [h1]; simp only [List.append_assoc], by rw [e0]; exact h2, by rw [e1 1 (by omega)]; exact h3, by rw [e1 3 (by omega)]; exact h4, h5, by rw [e1 2 (by omega)]; exact h6, ?_, ?_, ?_⟩
  · rw [e2 2 (Or.inl rfl), e0]; exact h7
  · rw [e2 3 (Or.inr (Or.inl rfl)), e1 1 (by omega)]; exact h8
  · rw [e2 4 (Or.inr (Or.inr rfl)), e1 3 (by omega)]; exact h9
/-- both stand at a, with the same rule so far -/
def ruS (m : cM) (S : rS) (f : Nat → Int32) (n a r : Nat) (L : List Nat) (V c : Nat) : Prop := gRu m S f n a r L L V ∧ m.1 (35 + 6 * r) 6 = nI c ∧ S.2.1 6 r = nI c ∧ S.1 14 = nI c ∧ c ≤ 12 ∧ (∀ k, k < c → clD L r (S.2.1 5) m.1 k)
def rgm (r : Nat) (m m' : cM) : Prop := (∀ b, b ≠ 1 → b ≠ 4 → ¬ (35 + 6 * r ≤ b ∧ b ≤ 35 + 6 * r + 4) → m'.1 b = m.1 b) ∧ m'.2 = m.2
theorem rgm.rf (r : Nat) (m : cM) : rgm r m m := ⟨fun _ _ _ _ => rfl, rfl⟩
theorem rgm.tr {r : Nat} {m m1 m2 : cM} (h : rgm r m m1) (k : rgm r m1 m2) : rgm r m m2 := ⟨fun b a1 a2 a3 => (k.1 b a1 a2 a3).trans (h.1 b a1 a2 a3), k.2.trans h.2⟩
theorem rfm.g {r : Nat} {m m' : cM} (h : rfm r m m') : rgm r m m' := ⟨fun b a1 a2 a3 => h.1 b a1 a2 (by omega) (by omega), h.2.2⟩
theorem rgm.W {r b k : Nat} {m : cM} {v : Int32} (h : 35 + 6 * r ≤ b ∧ b ≤ 35 + 6 * r + 4) : rgm r m (cW m b k v) := ⟨fun c _ _ a3 => cW_b (fun e => a3 (e ▸ h)), rfl⟩
def rgs (r : Nat) (S S' : rS) : Prop := rc [8, 9, 10, 12, 13, 14, 16] [3, 4, 5, 6, 15] S S' ∧ (∀ j, j < 400 * r → S'.2.1 3 j = S.2.1 3 j) ∧ (∀ j, j < 48 * r → S'.2.1 5 j = S.2.1 5 j) ∧ (∀ j, j < r → S'.2.1 6 j = S.2.1 6 j)
theorem rgs.rf (r : Nat) (S : rS) : rgs r S S := ⟨rc.rf _, fun _ _ => rfl, fun _ _ => rfl, fun _ _ => rfl⟩
theorem rgs.tr {r : Nat} {S S1 S2 : rS} (h : rgs r S S1) (k : rgs r S1 S2) : rgs r S S2 := ⟨h.1.tr k.1, fun j hj => (k.2.1 j hj).trans (h.2.1 j hj), fun j hj => (k.2.2.1 j hj).trans (h.2.2.1 j hj), fun j hj => (k.2.2.2 j hj).trans (h.2.2.2 j hj)⟩
theorem rfs.g {r : Nat} {S S' : rS} (h : rfs r S S') : rgs r S S' := ⟨h.1.mo (by decide) (by decide), h.2, fun j _ => by rw [h.1.2 5 (by decide)], fun j _ => by rw [h.1.2 6 (by decide)]⟩
theorem rgs.F {r k : Nat} {S : rS} {v : Int32} (hk : k ∈ [8, 9, 10, 12, 13, 14, 16]) : rgs r S (rF S k v) := ⟨rc.F hk, fun _ _ => rfl, fun _ _ => rfl, fun _ _ => rfl⟩
theorem rgs.A5 {r i : Nat} {S : rS} {v : Int32} (hi : 48 * r ≤ i) : rgs r S (rA S 5 (upd (S.2.1 5) i v)) := ⟨rc.A (by decide), fun j _ => by rw [rA_n (by decide)], fun j hj => by rw [rA_s, upd_n (by omega)], fun j _ => by rw [rA_n (by decide)]⟩
theorem rgs.A6 {r : Nat} {S : rS} {v : Int32} : rgs r S (rA S 6 (upd (S.2.1 6) r v)) := ⟨rc.A (by decide), fun j _ => by rw [rA_n (by decide)], fun j hj => by rw [rA_n (by decide)], fun j hj => by rw [rA_s, upd_n (by omega)]⟩
section RCL
variable {g r : Nat} {f : Nat → Int32} {n a : Nat} {m : cM} {S : rS} {L : List Nat} {V c : Nat}
theorem gRu.A {k : Nat} {x : Nat → Int32} (h : gRu m S f n a r L L V) (hk : k = 5 ∨ k = 6) : gRu m (rA S k x) f n a r L L V := by
  obtain ⟨h1, h2, h3, h4, h5, h6, h7, h8, h9⟩ := h
  refine ⟨h1, ⟨⟨h2.1.1, h2.1.2.1, by rw [rA_n (by omega)]; exact h2.1.2.2⟩, h2.2⟩, h3, h4.co rfl (rA_n (by omega)) (rA_n (by omega)), h5, h6, h7, h8, h9⟩
theorem gRu.W {b k : Nat} {v : Int32} (h : gRu m S f n a r L L V) (hb : (b = 35 + 6 * r ∧ k ≠ 5) ∨ (35 + 6 * r + 2 ≤ b ∧ b ≤ 35 + 6 * r + 4)) : gRu (cW m b k v) S f n a r L L V := by
  obtain ⟨h1, h2, h3, h4, h5, h6, h7, h8, h9⟩ := h
  refine ⟨h1.W (by omega) (by omega), h2, ?_, h4, by rw [cW_b (by omega)]; exact h5, h6, h7, h8, h9⟩
  refine h3.co ?_ (cW_b (by omega)) rfl
  rcases hb with ⟨e, hk⟩ | hb
  · rw [e, cW_k (fun z => hk z.symm)]
  · rw [cW_b (by omega)]
theorem fR.W {b k v : Nat} {x : Int32} (h : fR m f n r v) (hb : 35 + 6 * r + 2 ≤ b) : fR (cW m b k x) f n r v := ⟨h.1.W (by omega) (by omega), h.2.1, by rw [cW_b (by omega)]; exact h.2.2⟩
/-- how a clause leaves both -/
def crE (g : Nat) (m : cM) (S : rS) (f : Nat → Int32) (n a r c : Nat) : Prop := ∃ m' v' S', d_46 g m = some m' ∧ d_178 g S = some (v', S') ∧ rgm r m m' ∧ rgs r S S' ∧ ((v' = 1 ∧ ∃ a' L' V', a < a' ∧ ruS m' S' f n a' r L' V' (c + 1)) ∨ (v' = 0 ∧ ∃ v, fR m' f n r v ∧ S'.1 9 = nI v))
theorem q_178r (hg : 1000 ≤ g) (hr : r < 6) (h : rg S f n a) (h11 : S.1 11 = nI r) (h14 : S.1 14 = nI c) (hc : c ≤ 12) : (tkn f n a ≠ 15 → d_178 g S = some (0, rF (rF S 8 (nI a)) 9 (nI (1 + 8 * a + 0)))) ∧ (tkn f n a = 15 → c = 12 → d_178 g S = some (0, rF (rF S 8 (nI a)) 9 (nI (1 + 8 * a + 4)))) ∧ (tkn f n a = 15 → c < 12 → d_178 g S = yn (d_167 g (rF (rF S 8 (nI a)) 14 (nI (c + 1))))) := by
  have ha := h.a
  have e11 : (rF S 8 (nI a)).1 11 = nI r := by rw [rF_n (by decide)]; exact h11
  have e14 : (rF S 8 (nI a)).1 14 = nI c := by rw [rF_n (by decide)]; exact h14
  have w := q_149e (g := g) (j := 15) (W := 482955846501) hg (by decide) (by decide) ha
  have e0 : d_178 g S = j_178_24 g (nI a) 0 (rF S 8 (nI a)) := by
    unfold d_178
    rw [q_146s hg h, Option.bind_some]
    show (if ¬ (rF S 8 (nI a)).1 11 = 6 then j_178_24 g ((rF S 8 (nI a)).1 8) 0 (rF S 8 (nI a)) else _) = _
    rw [e11, if_pos (show ¬ nI r = 6 from fun z => by have := (nI_eq (b := 6) (by omega) (by omega)).mp z; omega), rF_s]
  have q145 : ∀ k : Nat, d_145 g (nI k) (nI a) (rF S 8 (nI a)) = some (0, rF (rF S 8 (nI a)) 9 (nI (1 + 8 * a + k))) := fun k => q_145s ha.1
  rw [e0]
  unfold j_178_24
  rw [if_pos rfl]
  refine ⟨fun hs => ?_, fun hs h40 => ?_, fun hs h40 => ?_⟩
  · rw [if_neg hs] at w
    rw [w, Option.bind_some, if_neg n_0]
    unfold j_178_49
    rw [show d_145 g 0 (nI a) (rF S 8 (nI a)) = _ from q145 0, Option.bind_some, if_pos (Or.inl rfl)]
  · rw [if_pos hs] at w
    rw [w, Option.bind_some, if_pos n_1]
    unfold j_178_56 j_178_71
    rw [if_pos rfl, e14, h40, if_neg (show ¬ ¬ nI 12 = 12 from fun z => z rfl), show d_145 g 4 (nI a) (rF S 8 (nI a)) = _ from q145 4, Option.bind_some, if_pos (Or.inl rfl)]
  · rw [if_pos hs] at w
    rw [w, Option.bind_some, if_pos n_1]
    unfold j_178_56 j_178_71
    rw [if_pos rfl, e14, if_pos (show ¬ nI c = 12 from fun z => by have := (nI_eq (b := 12) (by omega) (by omega)).mp z; omega), if_pos rfl, show nI c + 1 = nI (c + 1) from nI_1 c]
    rfl
theorem j46 {x : Int32} (hr : r < 6) (hc : c < 12) (h4 : m.2.2.1 4 = 35 + 6 * r) (h5 : m.1 (35 + 6 * r) 5 = x) : j_46_126 g (nI c) m = some (cW m (35 + 6 * r + 4) c x) := by
  unfold j_46_126
  rw [h4, if_pos (cU_r hr), if_pos (k_in (show c < 12 by omega) (by omega)), k_cl (show c < 2147483648 by omega), h5, Option.bind_some]
theorem q_151 (hg : 1000 ≤ g) (h : rg S f n a) : (tkn f n a ≠ 16 → d_151 g 26982 S = some (0, rF S 8 (nI a))) ∧ (tkn f n a = 16 → d_151 g 26982 S = some (1, rF S 8 (nI (tke f n a)))) := by
  have w := q_149s (g := g) (j := 16) (W := 26982) hg (by decide) (by decide) h
  have ha := h.a
  unfold d_151
  constructor
  · intro ht
    rw [if_neg ht] at w
    rw [w, Option.bind_some, if_neg n_0]
  · intro ht
    rw [if_pos ht] at w
    rw [w, Option.bind_some, if_pos n_1]
    show (d_150 g (rF S 8 (nI a))).bind _ = _
    rw [q_150s hg (by omega) ha.1 ha.2 ht, Option.bind_some, rF_rF]
set_option maxHeartbeats 4000000 in
theorem cl_rule (hg : 5000 ≤ g) (hr : r < 6) (hb : byR f n) (h : ruS m S f n a r L V c) : crE g m S f n a r c := by
  obtain ⟨h0, hc6, hs6, h14, hc, hD⟩ := id h
  obtain ⟨h1, h2, h3, h4, h5, h6, h7, h8, h9⟩ := id h0
  have hn := h1.1.2.1
  have hle := h2.le
  have hU := cU_r hr
  have htk : m.1 1 3 = nI (tkn f n a) := h1.tk
  have htb := tkn_b (f := f) (n := n) (a := a)
  obtain ⟨n1, n2, n3⟩ := q_178r (g := g) (by omega) hr h2 h4.1 h14 hc
  have ha := h2.a
  by_cases h15 : tkn f n a = 15
  case neg =>
    obtain ⟨m', y1, y2, y3⟩ := p_83s (g := g) (k := 0) (by omega) h1
    refine ⟨m', 0, _, ?_, n1 h15, (rfm.of y2).g, (rgs.F (by decide)).tr (rgs.F (by decide)), Or.inr ⟨rfl, _, fR.of y3 (h3.c1 y2) (by omega), rF_s⟩⟩
    unfold d_46
    rw [htk, if_neg (show ¬ nI (tkn f n a) = 15 from fun z => h15 ((nI_eq (b := 15) (by omega) (by omega)).mp z)), show d_83 g 0 m = _ from y1]
    rfl
  case pos =>
  by_cases hc12 : c = 12
  case pos =>
    obtain ⟨m', y1, y2, y3⟩ := p_83s (g := g) (k := 4) (by omega) h1
    refine ⟨m', 0, _, ?_, n2 h15 hc12, (rfm.of y2).g, (rgs.F (by decide)).tr (rgs.F (by decide)), Or.inr ⟨rfl, _, fR.of y3 (h3.c1 y2) (by omega), rF_s⟩⟩
    unfold d_46
    rw [htk, h15, if_pos (show nI 15 = 15 from rfl), h3.1, if_pos hU, hc6, hc12, if_neg (show ¬ nI 12 < 12 by decide), show d_83 g 4 m = _ from y1]
    rfl
  case neg =>
    have hclt : c < 12 := by omega
    have n3 := n3 h15 hclt
    have hlt2 := ((tkn_w (f := f) (n := n) (a := a) (j := 15) (by omega)).mp h15).1
    obtain ⟨a1, ha1⟩ : ∃ a1, a1 = bl f n (tke f n a) := ⟨_, rfl⟩
    have hb1 := bl_lt (f := f) hlt2
    rw [← ha1] at hb1
    -- the class: the count, next, where the sum begins
    obtain ⟨m0, hm0⟩ : ∃ m0, m0 = cW m (35 + 6 * r) 6 (nI (c + 1)) := ⟨_, rfl⟩
    have hg0 : gRu m0 S f n a r L L V := by rw [hm0]; exact h0.W (Or.inl ⟨rfl, by decide⟩)
    obtain ⟨m1, y1, y2, y3⟩ := p_84s (g := g) (by omega) hg0.1
    rw [show nx f n (.inl a) = .inl a1 by rw [ha1]; rfl] at y3
    have hc1 : ccd m1 r L := hg0.2.2.1.c1 y2
    obtain ⟨m2, hm2⟩ : ∃ m2, m2 = cW m1 (35 + 6 * r + 2) c (nI L.length) := ⟨_, rfl⟩
    -- the reference
    obtain ⟨S1, hS1⟩ : ∃ S1, S1 = rF (rF (rF S 8 (nI a)) 14 (nI (c + 1))) 8 (nI (tke f n a)) := ⟨_, rfl⟩
    have hga : rga (rF (rF S 8 (nI a)) 14 (nI (c + 1))) f n a := ha.F
    have q150 := q_150s (g := g) (j := 15) (by omega) (by omega) hga.1 hga.2 h15
    rw [← hS1] at q150
    have hrg1 : rg S1 f n a1 := by rw [hS1, ha1]; exact hga.1.at (tke_le hle)
    have hrc1 : rcd S1 r L := by rw [hS1]; exact ((h4.F (k := 8) (v := nI a) (by decide)).F (k := 14) (v := nI (c + 1)) (by decide)).F (by decide)
    have s112 : S1.1 12 = nI V := by rw [hS1, rF_n (by decide), rF_n (by decide), rF_n (by decide)]; exact h6
    have s16 : S1.2.1 6 = S.2.1 6 := by rw [hS1]
    have s15 : S1.2.1 5 = S.2.1 5 := by rw [hS1]
    have s114 : S1.1 14 = nI (c + 1) := by rw [hS1, rF_n (by decide), rF_s]
    have hrs1 : rgs r S S1 := by rw [hS1]; exact ((rgs.F (by decide)).tr (rgs.F (by decide))).tr (rgs.F (by decide))
    obtain ⟨at0, hat⟩ : ∃ at0, at0 = 48 * r + 4 * c := ⟨_, rfl⟩
    have eat : 48 * nI r + 4 * nI c = nI at0 := by rw [show (48 : Int32) = nI 48 from rfl, show (4 : Int32) = nI 4 from rfl, pk_mul, pk_mul, nI_add, hat]
    obtain ⟨S2, hS2⟩ : ∃ S2, S2 = rA S1 5 (upd (S1.2.1 5) at0 (nI L.length)) := ⟨_, rfl⟩
    have hgr1 : gRu m1 S1 f n a1 r L L V := ⟨y3, hrg1, hc1, hrc1, by rw [y2.1 4 (by decide)]; exact hg0.2.2.2.2.1, s112, h7, by omega, by omega⟩
    have hgr2 : gRu m2 S2 f n a1 r L L V := by rw [hm2, hS2]; exact (hgr1.W (Or.inr ⟨by omega, by omega⟩)).A (Or.inl rfl)
    have hrs2 : rgs r S S2 := by rw [hS2]; exact hrs1.tr (rgs.A5 (by omega))
    have hrm2 : rgm r m m2 := by
      rw [hm2]
      exact ((show rgm r m m0 by rw [hm0]; exact rgm.W (by omega)).tr (rfm.of y2).g).tr (rgm.W (by omega))
    have i12 : aIn (nI c) 12 = true := k_in (by omega) (by omega)
    have kc : (nI c).toNatClampNeg = c := k_cl (by omega)
    -- the class up to the test
    have e46 : d_46 g m = (d_50 g 0 m2).bind (fun z_14 => if cU (z_14.2.2.1 4) 3 = true then (if aIn (nI c) 12 = true then (some (cW z_14 ((z_14.2.2.1 4) + 3) c (z_14.1 (z_14.2.2.1 4) 5))).bind (fun mm_20 => if ¬ mm_20.1 1 3 = 16 then j_46_126 g (nI c) mm_20 else (d_84 g mm_20).bind (fun z_23 => (d_47 g 0 0 z_23).bind (fun z_27 => j_46_126 g (nI c) z_27))) else none) else none) := by
      have e4 : m1.2.2.1 4 = 35 + 6 * r := hc1.1
      have e5 : m1.1 (35 + 6 * r) 5 = nI L.length := hc1.2.1
      unfold d_46
      rw [htk, h15, if_pos (show nI 15 = 15 from rfl), h3.1, if_pos hU, hc6, if_pos (show nI c < 12 from nI_lt (b := 12) hclt (by omega)), show nI c + 1 = nI (c + 1) from nI_1 c, Option.bind_some, ← hm0, y1, Option.bind_some, e4, if_pos hU, if_pos i12, kc, e5, Option.bind_some, ← hm2]
    have i7 : aIn (nI r) 7 = true := k_in (by omega) (by omega)
    have i6 : aIn (nI r) 6 = true := k_in (by omega) (by omega)
    have kr : (nI r).toNatClampNeg = r := k_cl (by omega)
    have e167 : d_167 g (rF (rF S 8 (nI a)) 14 (nI (c + 1))) = (d_161 g S2).bind (fun z_11 => if ¬ z_11.1 = 0 then (if aIn (z_11.2.1 11) 7 = true then (if aIn (nI at0 + 1) 288 = true then (if aIn (nI at0 + 2) 288 = true then (d_151 g 26982 (rA (rA z_11.2 5 (upd (z_11.2.2.1 5) (nI at0 + 1).toNatClampNeg ((z_11.2.2.1 4) (z_11.2.1 11).toNatClampNeg))) 5 (upd (upd (z_11.2.2.1 5) (nI at0 + 1).toNatClampNeg ((z_11.2.2.1 4) (z_11.2.1 11).toNatClampNeg)) (nI at0 + 2).toNatClampNeg (-1)))).bind (fun z_24 => if z_24.1 = 0 then j_167_110 g (nI at0) z_24.2 else (if aIn (z_24.2.1 11) 7 = true then (if aIn (nI at0 + 2) 288 = true then (d_166 g (rA z_24.2 5 (upd (z_24.2.2.1 5) (nI at0 + 2).toNatClampNeg ((z_24.2.2.1 4) (z_24.2.1 11).toNatClampNeg)))).bind (fun z_34 => if ¬ z_34.1 = 0 then j_167_110 g (nI at0) z_34.2 else some (0, z_34.2)) else none) else none)) else none) else none) else none) else some (0, z_11.2)) := by
      unfold d_167
      rw [q150, Option.bind_some, hrc1.1, if_pos i6, if_pos i7, kr, s16, hs6, eat, if_pos (k_in (show at0 < 288 by omega) (by omega)), k_cl (show at0 < 2147483648 by omega), hrc1.2.1, ← hS2]
    -- the end of a clause
    have fin : ∀ (m6 : cM) (S6 : rS) (a6 V6 : Nat) (g1 g2 : List Nat), gRu m6 S6 f n a6 r (L ++ g1 ++ g2) (L ++ g1 ++ g2) V6 → m6.1 (35 + 6 * r) 6 = nI (c + 1) → S6.2.1 6 r = nI c → S6.1 14 = nI (c + 1) → (∀ j, j < at0 → S6.2.1 5 j = S.2.1 5 j) → S6.2.1 5 at0 = nI L.length → S6.2.1 5 (at0 + 1) = nI (L.length + g1.length) → tyl g1 [] = some [false] → ((S6.2.1 5 (at0 + 2) = -nI 1 ∧ g2 = []) ∨ (S6.2.1 5 (at0 + 2) = nI (L.length + g1.length) ∧ tyl g2 [] = some [true])) → (∀ b, b = 2 ∨ b = 3 ∨ b = 4 → ∀ k, k < c → m6.1 (35 + 6 * r + b) k = m.1 (35 + 6 * r + b) k) → m6.1 (35 + 6 * r + 2) c = nI L.length → m6.1 (35 + 6 * r + 3) c = nI (L.length + g1.length) → ∃ S7, j_167_110 g (nI at0) S6 = some (1, S7) ∧ ruS (cW m6 (35 + 6 * r + 4) c (nI (L ++ g1 ++ g2).length)) S7 f n a6 r (L ++ g1 ++ g2) V6 (c + 1) ∧ rgs r S6 S7 := by
      intro m6 S6 a6 V6 g1 g2 hgr w1 w2 w3 w4 w5 w6 w7 w8 w9 w10 w11
      have e3 : nI at0 + 3 = nI (at0 + 3) := nI_add at0 3
      obtain ⟨S7, hS7⟩ : ∃ S7, S7 = rA (rA S6 5 (upd (S6.2.1 5) (at0 + 3) (nI (L ++ g1 ++ g2).length))) 6 (upd (S6.2.1 6) r (nI (c + 1))) := ⟨_, rfl⟩
      have f5 : S7.2.1 5 = upd (S6.2.1 5) (at0 + 3) (nI (L ++ g1 ++ g2).length) := by rw [hS7, rA_n (by decide), rA_s]
      have hlen : (L ++ g1 ++ g2).length = L.length + g1.length + g2.length := by simp only [List.length_append]
      refine ⟨S7, ?_, ⟨?_, by rw [cW_b (by omega)]; exact w1, by rw [hS7, rA_s, upd_s], by rw [hS7]; exact w3, by omega, fun k hk => ?_⟩, ?_⟩
      · unfold j_167_110
        rw [hgr.2.2.2.1.1, if_pos i7, e3, if_pos (k_in (show at0 + 3 < 288 by omega) (by omega)), if_pos i6, if_pos i6, kr, k_cl (show at0 + 3 < 2147483648 by omega), hgr.2.2.2.1.2.1, w2, show nI c + 1 = nI (c + 1) from nI_1 c, hS7]
      · rw [hS7]
        exact ((hgr.W (Or.inr ⟨by omega, by omega⟩)).A (k := 5) (Or.inl rfl)).A (Or.inr rfl)
      · by_cases e : k = c
        · subst e
          refine ⟨L, g1, g2, [], by rw [List.append_nil], ?_, ?_, ?_, w7, ?_, ?_, ?_, ?_⟩
          · rw [f5, ← hat, upd_n (by omega)]; exact w5
          · rw [f5, ← hat, upd_n (by omega)]; exact w6
          · rw [f5, ← hat, upd_s, hlen]
          · rw [f5, ← hat, upd_n (by omega)]; exact w8
          · rw [f5, ← hat, upd_n (by omega), cW_b (by omega), w10, w5]
          · rw [f5, ← hat, upd_n (by omega), cW_b (by omega), w11, w6]
          · rw [f5, ← hat, upd_s, cW_s]
        · have := (hD k (by omega)).mo (Z := g1 ++ g2) (w' := S7.2.1 5) (M' := (cW m6 (35 + 6 * r + 4) c (nI (L ++ g1 ++ g2).length)).1) (fun j hj => by rw [f5, upd_n (by omega)]; exact w4 _ (by omega)) (fun b hb => by
            rw [← w9 b hb k (by omega)]
            by_cases e4 : b = 4
            · subst e4; rw [cW_k e]
            · rw [cW_b (by omega)])
          rw [← List.append_assoc] at this
          exact this
      · rw [hS7]
        have := rgs.A6 (r := r) (S := rA S6 5 (upd (S6.2.1 5) (at0 + 3) (nI (L ++ g1 ++ g2).length))) (v := nI (c + 1))
        rw [rA_n (show 6 ≠ 5 by decide)] at this
        exact (rgs.A5 (by omega)).tr this
    have m26 : m2.1 (35 + 6 * r) 6 = nI (c + 1) := by rw [hm2, cW_b (by omega), y2.1 _ (by omega), hm0, cW_s]
    have m2o : ∀ b, b = 2 ∨ b = 3 ∨ b = 4 → ∀ k, k < c → m2.1 (35 + 6 * r + b) k = m.1 (35 + 6 * r + b) k := fun b hb k hk => by
      rw [hm2]
      by_cases e2 : b = 2
      · subst e2; rw [cW_k (by omega), y2.1 _ (by omega), hm0, cW_b (by omega)]
      · rw [cW_b (by omega), y2.1 _ (by omega), hm0, cW_b (by omega)]
    have m22 : m2.1 (35 + 6 * r + 2) c = nI L.length := by rw [hm2, cW_s]
    have s2o : ∀ j, j < at0 → S2.2.1 5 j = S.2.1 5 j := fun j hj => by rw [hS2, rA_s, upd_n (by omega), s15]
    have s20 : S2.2.1 5 at0 = nI L.length := by rw [hS2, rA_s, upd_s]
    have s26 : S2.2.1 6 r = nI c := by rw [hS2, rA_n (by decide), s16]; exact hs6
    have s214 : S2.1 14 = nI (c + 1) := by rw [hS2]; exact s114
    unfold crE
    rw [n3, e46, e167]
    have e1a : nI at0 + 1 = nI (at0 + 1) := nI_1 at0
    have e2a : nI at0 + 2 = nI (at0 + 2) := nI_add at0 2
    rcases e_sum (g := g) (N := 2) hg hr hb hgr2 with ⟨m3, S3, a3, g1, V3, u1, u2, u3, u4, u5, u6, u7, u8, u9, u10, u11, u12⟩ | ⟨m3, S3, v, u1, u2, u3, u4, u5, u6⟩
    · obtain ⟨k1, k2, k3, k4, k5, k6, k7, k8, k9⟩ := id u3
      have htk3 : m3.1 1 3 = nI (tkn f n a3) := k1.tk
      have htb3 := tkn_b (f := f) (n := n) (a := a3)
      have hle3 := k2.le
      have hl1 : (L ++ g1).length = L.length + g1.length := List.length_append
      have t5 : S3.2.1 5 = S2.2.1 5 := u9.1.2 5 (by decide)
      have t6 : S3.2.1 6 = S2.2.1 6 := u9.1.2 6 (by decide)
      have t14 : S3.1 14 = nI (c + 1) := (u9.1.1 14 (by decide)).trans s214
      obtain ⟨m4, hm4⟩ : ∃ m4, m4 = cW m3 (35 + 6 * r + 3) c (nI (L ++ g1).length) := ⟨_, rfl⟩
      obtain ⟨S4, hS4⟩ : ∃ S4, S4 = rA (rA S3 5 (upd (S3.2.1 5) (at0 + 1) (nI (L ++ g1).length))) 5 (upd (upd (S3.2.1 5) (at0 + 1) (nI (L ++ g1).length)) (at0 + 2) (-1)) := ⟨_, rfl⟩
      have hg4 : gRu m4 S4 f n a3 r (L ++ g1) (L ++ g1) V3 := by
        rw [hm4, hS4]
        exact ((u3.W (Or.inr ⟨by omega, by omega⟩)).A (k := 5) (Or.inl rfl)).A (Or.inl rfl)
      have f4 : S4.2.1 5 = upd (upd (S3.2.1 5) (at0 + 1) (nI (L ++ g1).length)) (at0 + 2) (-1) := by rw [hS4, rA_s]
      have hrs4 : rgs r S3 S4 := by
        rw [hS4]
        refine (rgs.A5 (i := at0 + 1) (v := nI (L ++ g1).length) (by omega)).tr ?_
        have := rgs.A5 (r := r) (S := rA S3 5 (upd (S3.2.1 5) (at0 + 1) (nI (L ++ g1).length))) (i := at0 + 2) (v := -1) (by omega)
        rw [rA_s] at this
        exact this
      have hm4e : ∀ b, b = 2 ∨ b = 3 ∨ b = 4 → ∀ k, k < c → m4.1 (35 + 6 * r + b) k = m.1 (35 + 6 * r + b) k := fun b hb k hk => by
        rw [← m2o b hb k hk, ← u8.1 _ (by omega) (by omega) (by omega) (by omega), hm4]
        by_cases e2 : b = 3
        · subst e2; rw [cW_k (by omega)]
        · rw [cW_b (by omega)]
      have h42 : m4.1 (35 + 6 * r + 2) c = nI L.length := by rw [hm4, cW_b (by omega), u8.1 _ (by omega) (by omega) (by omega) (by omega)]; exact m22
      have h43 : m4.1 (35 + 6 * r + 3) c = nI (L.length + g1.length) := by rw [hm4, cW_s, hl1]
      have h46 : m4.1 (35 + 6 * r) 6 = nI (c + 1) := by rw [hm4, cW_b (by omega), u8.2.1 6 (by decide)]; exact m26
      have hrm4 : rgm r m m4 := by rw [hm4]; exact (hrm2.tr u8.g).tr (rgm.W (by omega))
      have d4 : m4.1 1 3 = nI (tkn f n a3) := by rw [hm4, cW_b (by omega)]; exact htk3
      obtain ⟨q1, q2⟩ := q_151 (g := g) (by omega) hg4.2.1
      have hty1 := u6 [] (Nat.zero_le _)
      have ec : (d_50 g 0 m2).bind (fun z_14 => if cU (z_14.2.2.1 4) 3 = true then (if aIn (nI c) 12 = true then (some (cW z_14 ((z_14.2.2.1 4) + 3) c (z_14.1 (z_14.2.2.1 4) 5))).bind (fun mm_20 => if ¬ mm_20.1 1 3 = 16 then j_46_126 g (nI c) mm_20 else (d_84 g mm_20).bind (fun z_23 => (d_47 g 0 0 z_23).bind (fun z_27 => j_46_126 g (nI c) z_27))) else none) else none) = (if ¬ nI (tkn f n a3) = 16 then j_46_126 g (nI c) m4 else (d_84 g m4).bind (fun z_23 => (d_47 g 0 0 z_23).bind (fun z_27 => j_46_126 g (nI c) z_27))) := by
        rw [show d_50 g 0 m2 = some m3 from u1, Option.bind_some, k3.1, if_pos hU, if_pos i12, k3.2.1, Option.bind_some, ← hm4, d4]
      rw [ec, u2, Option.bind_some, if_pos n_1]
      show ∃ m' v' S', _ ∧ yn (if aIn (S3.1 11) 7 = true then (if aIn (nI at0 + 1) 288 = true then (if aIn (nI at0 + 2) 288 = true then (d_151 g 26982 (rA (rA S3 5 (upd (S3.2.1 5) (nI at0 + 1).toNatClampNeg ((S3.2.1 4) (S3.1 11).toNatClampNeg))) 5 (upd (upd (S3.2.1 5) (nI at0 + 1).toNatClampNeg ((S3.2.1 4) (S3.1 11).toNatClampNeg)) (nI at0 + 2).toNatClampNeg (-1)))).bind _ else none) else none) else none) = _ ∧ _
      rw [k4.1, if_pos i7, e1a, e2a, if_pos (k_in (show at0 + 1 < 288 by omega) (by omega)), if_pos (k_in (show at0 + 2 < 288 by omega) (by omega)), k_cl (show at0 + 1 < 2147483648 by omega), k_cl (show at0 + 2 < 2147483648 by omega), kr, k4.2.1, ← hS4]
      by_cases t16 : tkn f n a3 = 16
      · -- if
        have hlt3 := ((tkn_w (f := f) (n := n) (a := a3) (j := 16) (by omega)).mp t16).1
        obtain ⟨a4, ha4⟩ : ∃ a4, a4 = bl f n (tke f n a3) := ⟨_, rfl⟩
        have hb4 := bl_lt (f := f) hlt3
        rw [← ha4] at hb4
        obtain ⟨m5, z1, z2, z3⟩ := p_84s (g := g) (by omega) hg4.1
        rw [show nx f n (.inl a3) = .inl a4 by rw [ha4]; rfl] at z3
        obtain ⟨S5, hS5⟩ : ∃ S5, S5 = rA (rF S4 8 (nI (tke f n a3))) 5 (upd (S4.2.1 5) (at0 + 2) (nI (L ++ g1).length)) := ⟨_, rfl⟩
        have hg5 : gRu m5 S5 f n a4 r (L ++ g1) (L ++ g1) V3 := by
          rw [hS5]
          refine gRu.A ⟨z3, by rw [ha4]; exact hg4.2.1.at (tke_le hle3), hg4.2.2.1.c1 z2, hg4.2.2.2.1.F (by decide), by rw [z2.1 4 (by decide)]; exact hg4.2.2.2.2.1, by rw [rF_n (by decide)]; exact hg4.2.2.2.2.2.1, k7, by omega, by omega⟩ (Or.inl rfl)
        have f5 : S5.2.1 5 = upd (S4.2.1 5) (at0 + 2) (nI (L ++ g1).length) := by rw [hS5, rA_s]
        have hrs5 : rgs r S4 S5 := by
          rw [hS5]
          exact (rgs.F (k := 8) (v := nI (tke f n a3)) (by decide)).tr (rgs.A5 (by omega))
        rw [t16, if_neg (show ¬ ¬ nI 16 = 16 from fun z => z rfl), z1, Option.bind_some, q2 t16, Option.bind_some, if_neg n_1]
        show ∃ m' v' S', _ ∧ yn (if aIn ((rF S4 8 (nI (tke f n a3))).1 11) 7 = true then (if aIn (nI (at0 + 2)) 288 = true then (d_166 g (rA (rF S4 8 (nI (tke f n a3))) 5 (upd ((rF S4 8 (nI (tke f n a3))).2.1 5) (at0 + 2) (((rF S4 8 (nI (tke f n a3))).2.1 4) ((rF S4 8 (nI (tke f n a3))).1 11).toNatClampNeg)))).bind _ else none) else none) = _ ∧ _
        have g11 : (rF S4 8 (nI (tke f n a3))).1 11 = nI r := by rw [rF_n (by decide)]; exact hg4.2.2.2.1.1
        have g4 : (rF S4 8 (nI (tke f n a3))).2.1 4 r = nI (L ++ g1).length := hg4.2.2.2.1.2.1
        rw [g11, if_pos i7, if_pos (k_in (show at0 + 2 < 288 by omega) (by omega)), kr, g4, show rA (rF S4 8 (nI (tke f n a3))) 5 (upd ((rF S4 8 (nI (tke f n a3))).2.1 5) (at0 + 2) (nI (L ++ g1).length)) = S5 from hS5.symm]
        rcases e_test (g := g) hg hr hb hg5 with ⟨m6, S6, a6, g2, V6, x1, x2, x3, x4, x5, x6, x7, x8⟩ | ⟨m6, S6, v, x1, x2, x3, x4, x5, x6⟩
        · have p5 : S6.2.1 5 = S5.2.1 5 := x8.1.2 5 (by decide)
          have p6 : S6.2.1 6 = S3.2.1 6 := (x8.1.2 6 (by decide)).trans (by rw [hS5, rA_n (by decide)]; show S4.2.1 6 = _; rw [hS4, rA_n (by decide), rA_n (by decide)])
          have p14 : S6.1 14 = nI (c + 1) := (x8.1.1 14 (by decide)).trans (by rw [hS5]; show (rF S4 8 (nI (tke f n a3))).1 14 = _; rw [rF_n (by decide), hS4]; exact t14)
          have x7' : ∀ b, b = 2 ∨ b = 3 ∨ b = 4 → m6.1 (35 + 6 * r + b) = m4.1 (35 + 6 * r + b) := fun b hb => by rw [x7.1 _ (by omega) (by omega) (by omega) (by omega), z2.1 _ (by omega)]
          obtain ⟨S7, w1, w2, w3⟩ := fin m6 S6 a6 V6 g1 g2 x3 (by rw [x7.2.1 6 (by decide), z2.1 _ (by omega)]; exact h46) (by rw [p6, t6]; exact s26) p14 (fun j hj => by rw [p5, f5, upd_n (by omega), f4, upd_n (by omega), upd_n (by omega), t5]; exact s2o j hj) (by rw [p5, f5, upd_n (by omega), f4, upd_n (by omega), upd_n (by omega), t5]; exact s20) (by rw [p5, f5, upd_n (by omega), f4, upd_n (by omega), upd_s, hl1]) hty1 (Or.inr ⟨by rw [p5, f5, upd_s, hl1], x5⟩) (fun b hb k hk => by rw [x7' b hb]; exact hm4e b hb k hk) (by rw [x7' 2 (Or.inl rfl)]; exact h42) (by rw [x7' 3 (Or.inr (Or.inl rfl))]; exact h43)
          have hj := j46 (g := g) (m := m6) (r := r) (c := c) hr hclt x3.2.2.1.1 x3.2.2.1.2.1
          refine ⟨_, 1, S7, by rw [x1, Option.bind_some]; exact hj, ?_, ((hrm4.tr (rfm.of z2).g).tr x7.g).tr (rgm.W (by omega)), ((((hrs2.tr u9.g).tr hrs4).tr hrs5).tr x8.g).tr w3, Or.inl ⟨rfl, a6, _, V6, by omega, w2⟩⟩
          rw [x2, Option.bind_some, if_pos n_1]
          show yn (j_167_110 g (nI at0) S6) = _
          rw [w1, yn1]
        · obtain ⟨l, hl, hl5⟩ := x3.2.2
          have hj := j46 (g := g) (m := m6) (r := r) (c := c) hr hclt x3.2.1 hl5
          refine ⟨_, 0, S6, by rw [x1, Option.bind_some]; exact hj, ?_, ((hrm4.tr (rfm.of z2).g).tr x5.g).tr (rgm.W (by omega)), (((hrs2.tr u9.g).tr hrs4).tr hrs5).tr x6.g, Or.inr ⟨rfl, v, x3.W (by omega), x4⟩⟩
          rw [x2, Option.bind_some, if_neg n_0, yn0]
      · -- no if
        have hj := j46 (g := g) (m := m4) (r := r) (c := c) hr hclt hg4.2.2.1.1 hg4.2.2.1.2.1
        rw [if_pos (show ¬ nI (tkn f n a3) = 16 from fun z => t16 ((nI_eq (b := 16) (by omega) (by omega)).mp z)), q1 t16, Option.bind_some, if_pos rfl]
        show ∃ m' v' S', _ ∧ yn (j_167_110 g (nI at0) (rF S4 8 (nI a3))) = _ ∧ _
        have hg5 : gRu m4 (rF S4 8 (nI a3)) f n a3 r (L ++ g1 ++ []) (L ++ g1 ++ []) V3 := by
          rw [List.append_nil]
          exact ⟨hg4.1, hg4.2.1.see, hg4.2.2.1, hg4.2.2.2.1.F (by decide), hg4.2.2.2.2.1, by rw [rF_n (by decide)]; exact hg4.2.2.2.2.2.1, k7, k8, k9⟩
        have p6 : (rF S4 8 (nI a3)).2.1 6 = S3.2.1 6 := by show S4.2.1 6 = _; rw [hS4, rA_n (by decide), rA_n (by decide)]
        have p14 : (rF S4 8 (nI a3)).1 14 = nI (c + 1) := by rw [rF_n (by decide), hS4]; exact t14
        have p5 : (rF S4 8 (nI a3)).2.1 5 = S4.2.1 5 := rfl
        obtain ⟨S7, w1, w2, w3⟩ := fin m4 (rF S4 8 (nI a3)) a3 V3 g1 [] hg5 h46 (by rw [p6, t6]; exact s26) p14 (fun j hj => by rw [p5, f4, upd_n (by omega), upd_n (by omega), t5]; exact s2o j hj) (by rw [p5, f4, upd_n (by omega), upd_n (by omega), t5]; exact s20) (by rw [p5, f4, upd_n (by omega), upd_s, hl1]) hty1 (Or.inl ⟨by rw [p5, f4, upd_s]; rfl, rfl⟩) hm4e h42 h43
        rw [List.append_nil] at w2
        refine ⟨_, 1, S7, hj, by rw [w1, yn1], hrm4.tr (rgm.W (by omega)), (((hrs2.tr u9.g).tr hrs4).tr (rgs.F (by decide))).tr w3, Or.inl ⟨rfl, a3, _, V3, by omega, w2⟩⟩
    · obtain ⟨l, hl, hl5⟩ := u3.2.2
      have h21 : m3.1 1 3 = 21 := u3.1.2.2.2.1
      have hf4 : fR (cW m3 (35 + 6 * r + 3) c (nI l)) f n r v := u3.W (by omega)
      have hj := j46 (g := g) (m := cW m3 (35 + 6 * r + 3) c (nI l)) (r := r) (c := c) (x := nI l) hr hclt u3.2.1 (by rw [cW_b (by omega)]; exact hl5)
      refine ⟨cW (cW m3 (35 + 6 * r + 3) c (nI l)) (35 + 6 * r + 4) c (nI l), 0, S3, ?_, ?_, ((hrm2.tr u5.g).tr (rgm.W (by omega))).tr (rgm.W (by omega)), hrs2.tr u6.g, Or.inr ⟨rfl, v, hf4.W (by omega), u4⟩⟩
      · rw [show d_50 g 0 m2 = some m3 from u1, Option.bind_some, u3.2.1, if_pos hU, if_pos i12, hl5, Option.bind_some, cW_b (by omega), h21, if_pos (show ¬ (21 : Int32) = 16 by decide)]
        exact hj
      · rw [u2, Option.bind_some, if_neg n_0, yn0]
end RCL
