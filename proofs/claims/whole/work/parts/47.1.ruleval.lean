/-! rule: values -/
section RUV
variable {g r : Nat} {f : Nat → Int32} {n a : Nat} {m : cM} {S : rS} {L Lc : List Nat} {V : Nat}
theorem q_153 (hg : 1000 ≤ g) (h : rga S f n a) : (tkn f n a < 8 → d_153 g S = some (nI (tkn f n a), S)) ∧ (8 ≤ tkn f n a → d_153 g S = some (-1, S)) := by
  have w0 := q_149e (g := g) (j := 0) (W := 499967946343) hg (by decide) (by decide) h
  have w1 := q_149e (g := g) (j := 1) (W := 1953459300) hg (by decide) (by decide) h
  have w2 := q_149e (g := g) (j := 2) (W := 1935764581) hg (by decide) (by decide) h
  have w3 := q_149e (g := g) (j := 3) (W := 6578553) hg (by decide) (by decide) h
  have w4 := q_149e (g := g) (j := 4) (W := 465726040947) hg (by decide) (by decide) h
  have w5 := q_149e (g := g) (j := 5) (W := 495874696043) hg (by decide) (by decide) h
  have w6 := q_149e (g := g) (j := 6) (W := 108230850603124) hg (by decide) (by decide) h
  have w7 := q_149e (g := g) (j := 7) (W := 512970880104) hg (by decide) (by decide) h
  unfold d_153
  constructor
  · intro ht
    have hc : tkn f n a = 0 ∨ tkn f n a = 1 ∨ tkn f n a = 2 ∨ tkn f n a = 3 ∨ tkn f n a = 4 ∨ tkn f n a = 5 ∨ tkn f n a = 6 ∨ tkn f n a = 7 := by omega
    rcases hc with e | e | e | e | e | e | e | e
    · rw [if_pos e] at w0
      rw [w0, Option.bind_some, if_neg n_1, e]; rfl
    · rw [if_neg (by omega)] at w0
      rw [if_pos e] at w1
      rw [w0, Option.bind_some, if_pos rfl, w1, Option.bind_some, if_neg n_1, e]; rfl
    · rw [if_neg (by omega)] at w0 w1
      rw [if_pos e] at w2
      rw [w0, Option.bind_some, if_pos rfl, w1, Option.bind_some, if_pos rfl, w2, Option.bind_some, if_neg n_1, e]; rfl
    · rw [if_neg (by omega)] at w0 w1 w2
      rw [if_pos e] at w3
      rw [w0, Option.bind_some, if_pos rfl, w1, Option.bind_some, if_pos rfl, w2, Option.bind_some, if_pos rfl, w3, Option.bind_some, if_neg n_1, e]; rfl
    · rw [if_neg (by omega)] at w0 w1 w2 w3
      rw [if_pos e] at w4
      rw [w0, Option.bind_some, if_pos rfl, w1, Option.bind_some, if_pos rfl, w2, Option.bind_some, if_pos rfl, w3, Option.bind_some, if_pos rfl, w4, Option.bind_some, if_neg n_1, e]; rfl
    · rw [if_neg (by omega)] at w0 w1 w2 w3 w4
      rw [if_pos e] at w5
      rw [w0, Option.bind_some, if_pos rfl, w1, Option.bind_some, if_pos rfl, w2, Option.bind_some, if_pos rfl, w3, Option.bind_some, if_pos rfl, w4, Option.bind_some, if_pos rfl, w5, Option.bind_some, if_neg n_1, e]; rfl
    · rw [if_neg (by omega)] at w0 w1 w2 w3 w4 w5
      rw [if_pos e] at w6
      rw [w0, Option.bind_some, if_pos rfl, w1, Option.bind_some, if_pos rfl, w2, Option.bind_some, if_pos rfl, w3, Option.bind_some, if_pos rfl, w4, Option.bind_some, if_pos rfl, w5, Option.bind_some, if_pos rfl, w6, Option.bind_some, if_neg n_1, e]; rfl
    · rw [if_neg (by omega)] at w0 w1 w2 w3 w4 w5 w6
      rw [if_pos e] at w7
      rw [w0, Option.bind_some, if_pos rfl, w1, Option.bind_some, if_pos rfl, w2, Option.bind_some, if_pos rfl, w3, Option.bind_some, if_pos rfl, w4, Option.bind_some, if_pos rfl, w5, Option.bind_some, if_pos rfl, w6, Option.bind_some, if_pos rfl, w7, Option.bind_some, if_neg n_1, e]; rfl
  · intro ht
    rw [if_neg (by omega)] at w0 w1 w2 w3 w4 w5 w6 w7
    rw [w0, Option.bind_some, if_pos rfl, w1, Option.bind_some, if_pos rfl, w2, Option.bind_some, if_pos rfl, w3, Option.bind_some, if_pos rfl, w4, Option.bind_some, if_pos rfl, w5, Option.bind_some, if_pos rfl, w6, Option.bind_some, if_pos rfl, w7, Option.bind_some, if_pos rfl]
/-- countOne, makes -/
theorem e_one {b : Nat} (hV : V ≤ 60) (h4 : m.1 4 2 = nI V) (h12 : S.1 12 = nI V) (h9 : S.1 9 = 0) (hcs : cs m f n (.inl a)) : (V < 60 ∧ d_52 g m = some (cW m 4 2 (nI (V + 1))) ∧ d_155 g (nI a) S = some (1, rF S 12 (nI (V + 1)))) ∨ (∃ m', d_52 g m = some m' ∧ cs m' f n (.inr (1 + 8 * a + 3)) ∧ c1 (cW m 4 2 (nI 61)) m' ∧ d_155 g (nI a) S = some (0, rF S 9 (nI (1 + 8 * a + 3)))) := by
  unfold d_52 d_155 j_52_17
  rw [h4, h12]
  by_cases h : V < 60
  · refine Or.inl ⟨h, ?_, ?_⟩
    · rw [if_pos (show nI V < 60 from nI_lt (b := 60) h (by omega)), show nI V + 1 = nI (V + 1) from nI_1 V, Option.bind_some]
    · rw [if_pos (show ¬ nI V = 60 from fun z => by have := (nI_eq (b := 60) (by omega) (by omega)).mp z; omega), show nI V + 1 = nI (V + 1) from nI_1 V]
  · have e : V = 60 := by omega
    subst e
    obtain ⟨m', y1, y2, y3⟩ := p_83s (g := g) (k := 3) (by omega) hcs
    refine Or.inr ⟨cW m' 4 2 (nI 61), ?_, y3.W (by omega) (by omega), y2.up (by omega), ?_⟩
    · rw [if_neg (show ¬ nI 60 < 60 by decide), show d_83 g 3 m = _ from y1, Option.bind_some, y2.1 4 (by decide), h4, Option.bind_some]
      rfl
    · have e : (1 + 8 * nI a + 3 : Int32) = nI (1 + 8 * a + 3) := by
        rw [show (8 : Int32) = nI 8 from rfl, show (1 : Int32) = nI 1 from rfl, show (3 : Int32) = nI 3 from rfl, pk_mul, nI_add, nI_add]
      rw [if_neg (show ¬ ¬ nI 60 = 60 from fun z => z rfl), q_145 h9, e, Option.bind_some, if_pos (Or.inl rfl)]
theorem bl_lt (h : a < n) : a < bl f n (tke f n a) := by
  have q1 := tke_lt (f := f) h
  have q2 := sc_ge (P := isB f) (n := n) (p := tke f n a)
  show a < sc (isB f) n (tke f n a)
  omega
theorem rg.F {k : Nat} {v : Int32} (h : rg S f n a) (h1 : k ≠ 1) (h8 : k ≠ 8) (h9 : k ≠ 9) : rg (rF S k v) f n a := ⟨h.1.F h1, by rw [rF_n (fun z => h9 z.symm)]; exact h.2.1, by
  obtain ⟨q, q1, q2, q3⟩ := h.2.2
  exact ⟨q, q1, by rw [rF_n (fun z => h8 z.symm)]; exact q2, q3⟩⟩
theorem rg.co {S' : rS} (h : rg S f n a) (e1 : S'.1 = S.1) (e2 : S'.2.1 0 = S.2.1 0) : rg S' f n a := by
  unfold rg rt
  rw [e1, e2]
  exact h
theorem tyl_1 {c : Nat} {ts ts' : List Bool} (hl : ts.length ≤ 60) (h : ru_t c ts = some ts') : tyl [c] ts = some ts' := by
  show (if ts.length ≤ 60 then (ru_t c ts).bind (tyl []) else none) = _
  rw [if_pos hl, h]
  rfl
theorem tyl_n {v V : Nat} (hV : V < 60) : ∀ ts : List Bool, ts.length ≤ V → tyl [0 + 16 * v] ts = some (false :: ts) := fun ts h => tyl_1 (by omega) (by
  unfold ru_t
  rw [if_pos (by omega)])
theorem tyl_w {v V : Nat} (hV : V < 60) (hv : v < 8) : ∀ ts : List Bool, ts.length ≤ V → tyl [1 + 16 * v] ts = some (false :: ts) := fun ts h => tyl_1 (by omega) (by
  unfold ru_t
  rw [if_neg (by omega), if_pos (by omega), if_pos (by omega)])
set_option maxHeartbeats 1000000 in
/-- amount, value -/
theorem e_val (hg : 1000 ≤ g) (hr : r < 6) (h : gRu m S f n a r L Lc V) : eR false (d_51 g m) (d_159 g S) m S f n a r L Lc V := by
  obtain ⟨h1, h2, h3, h4, h5, h6, h7, h8, h9⟩ := h
  have hn := h1.1.2.1
  have hle := h2.le
  have htk : m.1 1 3 = nI (tkn f n a) := h1.tk
  have htb := tkn_b (f := f) (n := n) (a := a)
  have ha := h2.a
  have e8 : (rF S 8 (nI a)).1 8 = nI a := rF_s
  have q147 := q_147 (g := g) (S := rF S 8 (nI a)) (p := a) ha.1.1 hle
  have e159 : d_159 g S = (if tkn f n a = 20 then (d_152 g 0 99999 (rF S 8 (nI a))).bind (fun z_40 => if z_40.1 = 0 then some (0, z_40.2) else (d_155 g (nI a) z_40.2).bind (fun z_46 => if ¬ z_46.1 = 0 then (d_154 g 0 (z_46.2.1 10) z_46.2).bind (fun z_52 => some (1, z_52)) else some (0, z_46.2))) else (d_153 g (rF S 8 (nI a))).bind (fun z_12 => if 0 ≤ z_12.1 then (d_155 g (nI a) z_12.2).bind (fun z_18 => if ¬ z_18.1 = 0 then (d_150 g z_18.2).bind (fun z_24 => (d_154 g 1 z_12.1 z_24).bind (fun z_29 => some (1, z_29))) else some (0, z_18.2)) else (d_145 g 0 (nI a) z_12.2).bind (fun z_34 => if z_34.1 = 0 ∨ z_34.1 = 1 then some (z_34.1, z_34.2) else none))) := by
    unfold d_159
    rw [q_146s hg h2, Option.bind_some]
    show (d_147 g ((rF S 8 (nI a)).1 8) (rF S 8 (nI a))).bind _ = _
    rw [e8, q147, Option.bind_some]
    by_cases h20 : tkn f n a = 20
    · rw [if_pos (tkn_20.mp h20), if_neg n_1, if_pos h20]
    · rw [if_neg (fun z => h20 (tkn_20.mpr z)), if_pos rfl, if_neg h20]
  rw [e159]
  have hrfs8 : rfs r S (rF S 8 (nI a)) := rfs.F (by decide)
  have h9a : (rF S 8 (nI a)).1 9 = 0 := ha.1.2.1
  have hcc : ∀ {m' : cM} {v : Nat}, c1 m m' → cs m' f n (.inr v) → fR m' f n r v := fun q1 q2 => fR.of q2 (h3.c1 q1) (by omega)
  -- behind the count: emit and next, failing
  have tailF : ∀ (x1 x : Int32) (m1 : cM) (v : Nat), fR m1 f n r v → ∃ m', j_51_80 g x1 x m1 = some m' ∧ fR m' f n r v ∧ rfm r m1 m' := fun x1 x m1 v hf => by
    obtain ⟨m2, y1, y2, y3⟩ := f_53 (g := g) (x := x) hr hf
    obtain ⟨m3, z1, z2, z3⟩ := f_84 (g := g) hg y2
    refine ⟨m3, ?_, z2, y3.tr (rfm.of z3)⟩
    unfold j_51_80
    rw [y1, Option.bind_some, z1, Option.bind_some]
  -- behind the count: emit and next
  have tailG : ∀ (x1 x : Int32) (c : Nat), a < n → V < 60 → x = tr c → ∃ m', j_51_80 g x1 x (cW m 4 2 (nI (V + 1))) = some m' ∧ cs m' f n (.inl (bl f n (tke f n a))) ∧ ccd m' r (Lc ++ [c]) ∧ m'.1 4 2 = nI (V + 1) ∧ rfm r m m' := fun x1 x c hlt hV hx => by
    obtain ⟨m2, y1, y2, y3, y4, y5, y6⟩ := p_53 (g := g) (c := c) (x := x) hr (h3.W4 (k := 2) (v := nI (V + 1))) (by omega) hx
    have hcs2 : cs m2 f n (.inl a) := (h1.W (b := 4) (k := 2) (v := nI (V + 1)) (by omega) (by omega)).co1 y4 y5
    obtain ⟨m3, z1, z2, z3⟩ := p_84s (g := g) hg hcs2
    refine ⟨m3, ?_, z3, y2.c1 z2, by rw [z2.1 4 (by decide), y6, cW_s], (rfm.W4.tr y3).tr (rfm.of z2)⟩
    unfold j_51_80
    rw [y1, Option.bind_some, z1, Option.bind_some]
  unfold d_51 j_51_29 j_51_56
  by_cases h20 : tkn f n a = 20
  · -- a number
    have hd := tkn_20.mp h20
    have e5 := h1.2.2.2.1.2.2.2 h20
    have hnb := num_b (f := f) (n := n) (a := a)
    have hns : ns f n 0 99999 (.inl a) = if (0 : Int32) ≤ nI (num f n a) ∧ nI (num f n a) ≤ 99999 then .inl (bl f n (tke f n a)) else .inr (1 + 8 * a + 1) := if_pos h20
    rw [htk, h20, if_pos (show nI 20 = 20 from rfl), if_neg (show ¬ ¬ nI 20 = 20 from fun z => z rfl), e5, if_pos rfl]
    rcases q_152s (g := g) (xl := 0) (xh := 99999) hg ha.1 (by decide) with ⟨a2, S2, z1, z2, z3, z4, z5, z6, z7, z8, z9⟩ | ⟨v, S2, z1, z2, z3, z4⟩
    · rw [hns] at z1
      have hle9 : num f n a ≤ 99999 := by
        by_cases q : (0 : Int32) ≤ nI (num f n a) ∧ nI (num f n a) ≤ 99999
        · exact (nI_leI (b := 99999) (by omega) (by omega)).mp q.2
        · rw [if_neg q] at z1; cases z1
      have ea2 : a2 = bl f n (tke f n a) := by
        rw [if_pos ⟨nI_pos' (by omega), nI_le (b := 99999) hle9 (by omega)⟩] at z1
        exact (Sum.inl.inj z1).symm
      have env : nv f n 0 99999 (.inl a) = num f n a := if_pos ⟨h20, nI_pos' (by omega), nI_le (b := 99999) hle9 (by omega)⟩
      rw [env] at z5
      rw [if_pos (show nI (num f n a) ≤ 99999 from nI_le (b := 99999) hle9 (by omega)), z3, Option.bind_some, if_neg n_1]
      show eR false _ ((d_155 g (nI a) S2).bind _) m S f n a r L Lc V
      have h12 : S2.1 12 = nI V := by rw [z9.1 12 (by decide), rF_n (by decide)]; exact h6
      rcases e_one (g := g) (m := m) (S := S2) (b := 0) h7 h5 h12 z4.2.1 h1 with ⟨hV, t1, t2⟩ | ⟨m', t1, t2, t3, t4⟩
      · rw [t1, Option.bind_some, if_neg (show ¬ ¬ nI 20 = 20 from fun z => z rfl), cW_b (by decide), e5, t2, Option.bind_some, if_pos n_1]
        have hrc3 : rcd (rF S2 12 (nI (V + 1))) r L := ((h4.F (k := 8) (v := nI a) (by decide)).co (z9.1 11 (by decide)) (z9.2 4 (by simp)) (z9.2 3 (by simp))).F (by decide)
        obtain ⟨S3, u1, u2, u3, u4, u5⟩ := q_154 (g := g) (s := 0) (v := num f n a) hr hrc3 (by omega) (by omega) hle9
        obtain ⟨m', w1, w2, w3, w4, w5⟩ := tailG (nI 20) (nI (num f n a)) (0 + 16 * num f n a) hd.1 hV (by
          unfold tr
          rw [if_pos (by omega)]
          congr 1
          omega)
        have hlt := bl_lt (f := f) hd.1
        refine Or.inl ⟨m', S3, a2, [0 + 16 * num f n a], V + 1, w1, ?_, ⟨by rw [ea2]; exact w2, (z4.F (by decide) (by decide) (by decide)).co u4 (u5 0 (by decide) (by decide)), w3, u2, w4, by rw [u4, rF_s], by omega, ?_, ?_⟩, by show a + 1 ≤ a2; omega, by omega, tyl_n hV, by omega, w5, (hrfs8.tr (rfs.of z9 (by decide))).tr ((rfs.F (by decide)).tr u3), ?_, ?_, ?_⟩
        · show (d_154 g 0 ((rF S2 12 (nI (V + 1))).1 10) (rF S2 12 (nI (V + 1)))).bind _ = _
          rw [rF_n (by decide), z5, show d_154 g 0 (nI (num f n a)) (rF S2 12 (nI (V + 1))) = some S3 from u1, Option.bind_some]
        · rw [List.length_append]; show L.length + 1 ≤ a2; omega
        · rw [List.length_append]; show Lc.length + 1 ≤ a2; omega
        · rw [u4, rF_n (by decide), z9.1 13 (by decide), rF_n (by decide)]
        · rw [u4, rF_n (by decide), z9.1 16 (by decide), rF_n (by decide)]
        · rw [u5 15 (by decide) (by decide)]
          show S2.2.1 15 = _
          rw [z9.2 15 (by simp)]
      · have hf : fR m' f n r (1 + 8 * a + 3) := fR.of t2 ((h3.W4 (k := 2) (v := nI 61)).c1 t3) (by omega)
        obtain ⟨m2, y1, y2, y3⟩ := tailF (nI 20) (m'.1 1 5) m' _ hf
        rw [t1, Option.bind_some, if_neg (show ¬ ¬ nI 20 = 20 from fun z => z rfl), t4, Option.bind_some, if_neg n_0]
        exact Or.inr ⟨m2, _, _, y1, rfl, y2, rF_s, (rfm.W4.tr (rfm.of t3)).tr y3, (hrfs8.tr (rfs.of z9 (by decide))).tr (rfs.F (by decide))⟩
    · rw [hns] at z1
      have hgt : ¬ nI (num f n a) ≤ 99999 := fun q => by
        rw [if_pos ⟨nI_pos' (by omega), q⟩] at z1
        cases z1
      rw [if_neg (fun z => hgt z.2)] at z1
      have ev := (Sum.inr.inj z1).symm
      obtain ⟨m', y1, y2, y3⟩ := p_83s (g := g) (k := 1) (by omega) h1
      rw [if_neg hgt, show d_83 g 1 m = _ from y1, Option.bind_some, z2, Option.bind_some, if_pos rfl]
      refine Or.inr ⟨m', S2, v, rfl, rfl, ?_, z3, rfm.of y2, hrfs8.tr (rfs.of z4 (by decide))⟩
      rw [ev]
      exact hcc y2 y3
  · rw [htk, if_neg (show ¬ nI (tkn f n a) = 20 from fun z => h20 ((nI_eq (b := 20) (by omega) (by omega)).mp z)), if_neg h20]
    obtain ⟨q1, q2⟩ := q_153 (g := g) hg ha
    by_cases h8t : tkn f n a < 8
    · obtain ⟨t, hT⟩ : ∃ t, t = tkn f n a := ⟨_, rfl⟩
      have hlt := ((tkn_w (f := f) (n := n) (a := a) (j := t) (by omega)).mp hT.symm).1
      rw [if_pos (show nI (tkn f n a) < 8 from nI_lt (b := 8) h8t (by omega)), if_pos (show ¬ nI (tkn f n a) = 20 from fun z => h20 ((nI_eq (b := 20) (by omega) (by omega)).mp z)), q1 h8t, Option.bind_some, if_pos (show (0 : Int32) ≤ nI (tkn f n a) from nI_pos' (by omega)), ← hT]
      have h12 : (rF S 8 (nI a)).1 12 = nI V := by rw [rF_n (by decide)]; exact h6
      rcases e_one (g := g) (m := m) (S := rF S 8 (nI a)) (b := 0) h7 h5 h12 h9a h1 with ⟨hV, t1, t2⟩ | ⟨m', t1, t2, t3, t4⟩
      · rw [t1, Option.bind_some, if_pos (show ¬ nI t = 20 from fun z => by have := (nI_eq (b := 20) (by omega) (by omega)).mp z; omega), show d_155 g (nI a) (nI t, rF S 8 (nI a)).2 = _ from t2, Option.bind_some, if_pos n_1]
        have hg1 : rga (rF (rF S 8 (nI a)) 12 (nI (V + 1))) f n a := ⟨ha.1.F (by decide) (by decide) (by decide), by rw [rF_n (by decide)]; exact rF_s⟩
        have q150 := q_150s (g := g) (j := t) hg (by omega) hg1.1 hg1.2 hT.symm
        have hg2 := hg1.1.at (p := tke f n a) (tke_le hle)
        have hrc3 : rcd (rF (rF (rF S 8 (nI a)) 12 (nI (V + 1))) 8 (nI (tke f n a))) r L := ((h4.F (k := 8) (v := nI a) (by decide)).F (k := 12) (v := nI (V + 1)) (by decide)).F (by decide)
        obtain ⟨S3, u1, u2, u3, u4, u5⟩ := q_154 (g := g) (s := 1) (v := t) hr hrc3 (by omega) (by omega) (by omega)
        obtain ⟨m', w1, w2, w3, w4, w5⟩ := tailG (nI t) (-1 - nI t) (1 + 16 * t) hlt hV (by
          unfold tr
          rw [if_neg (by omega), if_pos (by omega), show (1 + 16 * t) / 16 = t by omega]
          rfl)
        have hlt2 := bl_lt (f := f) hlt
        refine Or.inl ⟨m', S3, bl f n (tke f n a), [1 + 16 * t], V + 1, w1, ?_, ⟨w2, hg2.co u4 (u5 0 (by decide) (by decide)), w3, u2, w4, by rw [u4, rF_n (by decide), rF_s], by omega, ?_, ?_⟩, by show a + 1 ≤ _; omega, by omega, tyl_w hV (by omega), by omega, w5, (hrfs8.tr (rfs.F (by decide))).tr ((rfs.F (by decide)).tr u3), ?_, ?_, ?_⟩
        · show (d_150 g (rF (rF S 8 (nI a)) 12 (nI (V + 1)))).bind _ = _
          rw [q150, Option.bind_some, show d_154 g 1 (nI t) (rF (rF (rF S 8 (nI a)) 12 (nI (V + 1))) 8 (nI (tke f n a))) = some S3 from u1, Option.bind_some]
        · rw [List.length_append]; show L.length + 1 ≤ _; omega
        · rw [List.length_append]; show Lc.length + 1 ≤ _; omega
        · rw [u4, rF_n (by decide), rF_n (by decide), rF_n (by decide)]
        · rw [u4, rF_n (by decide), rF_n (by decide), rF_n (by decide)]
        · rw [u5 15 (by decide) (by decide)]
      · have hf : fR m' f n r (1 + 8 * a + 3) := fR.of t2 ((h3.W4 (k := 2) (v := nI 61)).c1 t3) (by omega)
        obtain ⟨m2, y1, y2, y3⟩ := tailF (nI t) (-1 - nI t) m' _ hf
        rw [t1, Option.bind_some, if_pos (show ¬ nI t = 20 from fun z => by have := (nI_eq (b := 20) (by omega) (by omega)).mp z; omega), show d_155 g (nI a) (nI t, rF S 8 (nI a)).2 = _ from t4, Option.bind_some, if_neg n_0]
        exact Or.inr ⟨m2, _, _, y1, rfl, y2, rF_s, (rfm.W4.tr (rfm.of t3)).tr y3, hrfs8.tr (rfs.F (by decide))⟩
    · obtain ⟨m', y1, y2, y3⟩ := p_83s (g := g) (k := 0) (by omega) h1
      rw [if_neg (show ¬ nI (tkn f n a) < 8 from nI_nlt (b := 8) (by omega) (by omega)), show d_83 g 0 m = _ from y1, Option.bind_some, q2 (by omega), Option.bind_some, if_neg (show ¬ (0 : Int32) ≤ -1 by decide), show d_145 g 0 (nI a) ((-1 : Int32), rF S 8 (nI a)).2 = _ from q_145s (k := 0) ha.1, Option.bind_some, if_pos (Or.inl rfl)]
      exact Or.inr ⟨m', _, _, rfl, rfl, hcc y2 y3, rF_s, rfm.of y2, hrfs8.tr (rfs.F (by decide))⟩
end RUV
