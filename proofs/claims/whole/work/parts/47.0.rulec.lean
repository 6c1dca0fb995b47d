/-! rule: the code as a row of numbers, on both sides -/
def tyl : List Nat → List Bool → Option (List Bool)
  | [], ts => some ts
  | c :: l, ts => if ts.length ≤ 60 then (ru_t c ts).bind (tyl l) else none
theorem tyl_a : ∀ (l1 l2 : List Nat) (ts : List Bool), tyl (l1 ++ l2) ts = (tyl l1 ts).bind (tyl l2)
  | [], l2, ts => rfl
  | c :: l1, l2, ts => by
    show (if ts.length ≤ 60 then (ru_t c ts).bind (tyl (l1 ++ l2)) else none) = (if ts.length ≤ 60 then (ru_t c ts).bind (tyl l1) else none).bind (tyl l2)
    by_cases h : ts.length ≤ 60
    · rw [if_pos h, if_pos h]
      cases ru_t c ts with
      | none => rfl
      | some ts1 => exact tyl_a l1 l2 ts1
    · rw [if_neg h, if_neg h]; rfl
theorem tyl_c {c : Nat → Nat} : ∀ (l : List Nat) (i : Nat) (ts : List Bool), (∀ j, j < l.length → c (i + j) = l.getD j 0) → ru_c c l.length i ts = tyl l ts
  | [], _, _, _ => rfl
  | x :: l, i, ts, h => by
    have h0 : c i = x := h 0 (by show 0 < l.length + 1; omega)
    show (if ts.length ≤ 60 then (ru_t (c i) ts).bind (ru_c c l.length (i + 1)) else none) = (if ts.length ≤ 60 then (ru_t x ts).bind (tyl l) else none)
    rw [h0]
    have e : ru_c c l.length (i + 1) = tyl l := by
      funext ts1
      exact tyl_c l (i + 1) ts1 (fun j hj => by
        have := h (j + 1) (by show j + 1 < l.length + 1; omega)
        rw [show i + 1 + j = i + (j + 1) by omega, this]
        rfl)
    rw [e]
theorem gd_a {l : List Nat} {x : Nat} : (l ++ [x]).getD l.length 0 = x := by
  rw [List.getD_eq_getElem?_getD, List.getElem?_append_right (Nat.le_refl _), Nat.sub_self]
  rfl
theorem gd_l {l l2 : List Nat} {j : Nat} (h : j < l.length) : (l ++ l2).getD j 0 = l.getD j 0 := by
  rw [List.getD_eq_getElem?_getD, List.getD_eq_getElem?_getD, List.getElem?_append_left h]
theorem gd_r {l l2 : List Nat} {j : Nat} : (l ++ l2).getD (l.length + j) 0 = l2.getD j 0 := by
  rw [List.getD_eq_getElem?_getD, List.getD_eq_getElem?_getD, List.getElem?_append_right (by omega), Nat.add_sub_cancel_left]
def rcd (S : rS) (r : Nat) (L : List Nat) : Prop := S.1 11 = nI r ∧ S.2.1 4 r = nI L.length ∧ (∀ j, j < L.length → S.2.1 3 (400 * r + j) = nI (L.getD j 0) ∧ L.getD j 0 < 2147483648)
def ccd (m : cM) (r : Nat) (L : List Nat) : Prop := m.2.2.1 4 = 35 + 6 * r ∧ m.1 (35 + 6 * r) 5 = nI L.length ∧ (∀ j, j < L.length → m.1 (35 + 6 * r + 1) j = tr (L.getD j 0))
/-- what may change of the class while a rule is read -/
def rfm (r : Nat) (m m' : cM) : Prop := (∀ b, b ≠ 1 → b ≠ 4 → b ≠ 35 + 6 * r → b ≠ 35 + 6 * r + 1 → m'.1 b = m.1 b) ∧ (∀ k, k ≠ 5 → m'.1 (35 + 6 * r) k = m.1 (35 + 6 * r) k) ∧ m'.2 = m.2
theorem rfm.rf (r : Nat) (m : cM) : rfm r m m := ⟨fun _ _ _ _ _ => rfl, fun _ _ => rfl, rfl⟩
theorem rfm.tr {r : Nat} {m m1 m2 : cM} (h : rfm r m m1) (k : rfm r m1 m2) : rfm r m m2 := ⟨fun b a1 a2 a3 a4 => (k.1 b a1 a2 a3 a4).trans (h.1 b a1 a2 a3 a4), fun j hj => (k.2.1 j hj).trans (h.2.1 j hj), k.2.2.trans h.2.2⟩
theorem rfm.of {r : Nat} {m m' : cM} (h : c1 m m') : rfm r m m' := ⟨fun b a1 _ _ _ => h.1 b a1, fun j _ => by rw [h.1 _ (by omega)], h.2⟩
theorem rfm.W4 {r k : Nat} {m : cM} {v : Int32} : rfm r m (cW m 4 k v) := ⟨fun b _ a2 _ _ => cW_b a2, fun j _ => by rw [cW_b (by omega)], rfl⟩
/-- what may change of the reference -/
def rfs (r : Nat) (S S' : rS) : Prop := rc [8, 9, 10, 12, 13, 16] [3, 4, 15] S S' ∧ (∀ j, j < 400 * r → S'.2.1 3 j = S.2.1 3 j)
theorem rfs.rf (r : Nat) (S : rS) : rfs r S S := ⟨rc.rf _, fun _ _ => rfl⟩
theorem rfs.tr {r : Nat} {S S1 S2 : rS} (h : rfs r S S1) (k : rfs r S1 S2) : rfs r S S2 := ⟨h.1.tr k.1, fun j hj => (k.2 j hj).trans (h.2 j hj)⟩
theorem rfs.of {r : Nat} {S S' : rS} {is : List Nat} (h : rc is [] S S') (hi : is ⊆ [8, 9, 10, 12, 13, 16]) : rfs r S S' := ⟨h.mo hi (by decide), fun j _ => by rw [h.2 3 (by simp)]⟩
theorem rfs.F {r k : Nat} {S : rS} {v : Int32} (hk : k ∈ [8, 9, 10, 12, 13, 16]) : rfs r S (rF S k v) := ⟨rc.F hk, fun _ _ => rfl⟩
section RUC
variable {g r : Nat} {f : Nat → Int32} {n : Nat} {m : cM} {S : rS} {L : List Nat}
theorem ccd.co {m' : cM} (h : ccd m r L) (e1 : m'.1 (35 + 6 * r) 5 = m.1 (35 + 6 * r) 5) (e2 : m'.1 (35 + 6 * r + 1) = m.1 (35 + 6 * r + 1)) (e3 : m'.2 = m.2) : ccd m' r L := ⟨by rw [e3]; exact h.1, e1.trans h.2.1, by rw [e2]; exact h.2.2⟩
theorem ccd.c1 {m' : cM} (h : ccd m r L) (k : c1 m m') : ccd m' r L := h.co (by rw [k.1 _ (by omega)]) (k.1 _ (by omega)) k.2
theorem ccd.W4 {k : Nat} {v : Int32} (h : ccd m r L) : ccd (cW m 4 k v) r L := h.co (by rw [cW_b (by omega)]) (cW_b (by omega)) rfl
theorem rcd.co {S' : rS} (h : rcd S r L) (e1 : S'.1 11 = S.1 11) (e2 : S'.2.1 4 = S.2.1 4) (e3 : S'.2.1 3 = S.2.1 3) : rcd S' r L := ⟨e1.trans h.1, by rw [e2]; exact h.2.1, by rw [e3]; exact h.2.2⟩
theorem rcd.F {k : Nat} {v : Int32} (h : rcd S r L) (hk : k ≠ 11) : rcd (rF S k v) r L := h.co (rF_n (fun z => hk z.symm)) rfl rfl
theorem cU_r (hr : r < 6) : cU (35 + 6 * r) 3 = true := cU_3 hr
/-- emit -/
theorem p_53 {c : Nat} {x : Int32} (hr : r < 6) (h : ccd m r L) (hl : L.length < 400) (hx : x = tr c) : ∃ m', d_53 g x m = some m' ∧ ccd m' r (L ++ [c]) ∧ rfm r m m' ∧ m'.1 1 = m.1 1 ∧ m'.1 2 = m.1 2 ∧ m'.1 4 = m.1 4 := by
  obtain ⟨h1, h2, h3⟩ := h
  have hU := cU_r hr
  obtain ⟨m1, hm1⟩ : ∃ m1, m1 = cW m (35 + 6 * r + 1) L.length x := ⟨_, rfl⟩
  have e5 : m1.1 (35 + 6 * r) 5 = nI L.length := by rw [hm1, cW_b (by omega)]; exact h2
  have e4 : m1.2.2.1 4 = 35 + 6 * r := by rw [hm1]; exact h1
  refine ⟨cW m1 (35 + 6 * r) 5 (nI (L.length + 1)), ?_, ⟨e4, ?_, fun j hj => ?_⟩, ⟨fun b a1 a2 a3 a4 => ?_, fun k hk => ?_, by rw [hm1]; rfl⟩, ?_, ?_, ?_⟩
  · unfold d_53
    rw [h1, if_pos hU, h2, if_neg (show ¬ (400 : Int32) ≤ nI L.length from nI_ge (b := 400) hl (by omega)), if_pos (k_in hl (by omega)), k_cl (show L.length < 2147483648 by omega), Option.bind_some, ← hm1, e4, if_pos hU, e5, show nI L.length + 1 = nI (L.length + 1) from nI_1 _, Option.bind_some]
  · rw [cW_s, List.length_append]; rfl
  · rw [List.length_append] at hj
    have hj : j < L.length + 1 := hj
    rw [cW_b (by omega), hm1]
    by_cases e : j = L.length
    · subst e; rw [cW_s, gd_a, hx]
    · rw [cW_k e, gd_l (by omega)]; exact h3 j (by omega)
  · rw [cW_b a3, hm1, cW_b a4]
  · rw [cW_k hk, hm1, cW_b (by omega)]
  · rw [cW_b (by omega), hm1, cW_b (by omega)]
  · rw [cW_b (by omega), hm1, cW_b (by omega)]
  · rw [cW_b (by omega), hm1, cW_b (by omega)]
/-- puts -/
theorem q_154 {s v : Nat} (hr : r < 6) (h : rcd S r L) (hl : L.length < 400) (hs : s < 16) (hv : v ≤ 99999) : ∃ S', d_154 g (nI s) (nI v) S = some S' ∧ rcd S' r (L ++ [s + 16 * v]) ∧ rfs r S S' ∧ S'.1 = S.1 ∧ (∀ k, k ≠ 3 → k ≠ 4 → S'.2.1 k = S.2.1 k) := by
  obtain ⟨h1, h2, h3⟩ := h
  have ex : nI s + 16 * nI v = nI (s + 16 * v) := by rw [show (16 : Int32) = nI 16 from rfl, pk_mul, nI_add]
  have ei : 400 * nI r + nI L.length = nI (400 * r + L.length) := by rw [show (400 : Int32) = nI 400 from rfl, pk_mul, nI_add]
  refine ⟨rA (rA S 3 (upd (S.2.1 3) (400 * r + L.length) (nI (s + 16 * v)))) 4 (upd (S.2.1 4) r (nI (L.length + 1))), ?_, ⟨h1, ?_, fun j hj => ?_⟩, ⟨(rc.A (by decide)).tr (rc.A (by decide)), fun j hj => ?_⟩, rfl, ?_⟩
  · unfold d_154
    rw [h1, if_pos (k_in (show r < 7 by omega) (by omega)), k_cl (show r < 2147483648 by omega), h2, ei, if_pos (k_in (show 400 * r + L.length < 2400 by omega) (by omega)), if_pos (k_in (show r < 7 by omega) (by omega)), if_pos (k_in (show r < 7 by omega) (by omega)), k_cl (show 400 * r + L.length < 2147483648 by omega), ex, show nI L.length + 1 = nI (L.length + 1) from nI_1 _]
  · rw [rA_s, upd_s, List.length_append]; rfl
  · rw [List.length_append] at hj
    have hj : j < L.length + 1 := hj
    rw [rA_n (by decide), rA_s]
    by_cases e : j = L.length
    · subst e; rw [upd_s, gd_a]; exact ⟨rfl, by omega⟩
    · rw [upd_n (by omega), gd_l (by omega)]; exact h3 j (by omega)
  · rw [rA_n (by decide), rA_s, upd_n (by omega)]
  · intro k k1 k2
    rw [rA_n k2, rA_n k1]
/-- both stand at a, in good order -/
def gRu (m : cM) (S : rS) (f : Nat → Int32) (n a r : Nat) (L Lc : List Nat) (V : Nat) : Prop := cs m f n (.inl a) ∧ rg S f n a ∧ ccd m r Lc ∧ rcd S r L ∧ m.1 4 2 = nI V ∧ S.1 12 = nI V ∧ V ≤ 60 ∧ L.length ≤ a ∧ Lc.length ≤ a
/-- the class has failed -/
def fR (m : cM) (f : Nat → Int32) (n r v : Nat) : Prop := cs m f n (.inr v) ∧ m.2.2.1 4 = 35 + 6 * r ∧ ∃ l, l ≤ 400 ∧ m.1 (35 + 6 * r) 5 = nI l
theorem fR.of {v : Nat} (h : cs m f n (.inr v)) (k : ccd m r L) (hl : L.length ≤ 400) : fR m f n r v := ⟨h, k.1, _, hl, k.2.1⟩
theorem fR.c1 {m' : cM} {v : Nat} (h : fR m f n r v) (k : c1 m m') (hs : cs m' f n (.inr v)) : fR m' f n r v := ⟨hs, by rw [k.2]; exact h.2.1, by rw [k.1 _ (by omega)]; exact h.2.2⟩
theorem cs.co1 {m' : cM} {s : sP} (h : cs m f n s) (e1 : m'.1 1 = m.1 1) (e2 : m'.1 2 = m.1 2) : cs m' f n s := by
  match s, h with
  | .inl a, h =>
    obtain ⟨h1, h2, h3, h4, h5⟩ := h
    refine ⟨⟨by rw [e1]; exact h1.1, h1.2.1, by rw [e2]; exact h1.2.2⟩, h2, h3, ?_, by rw [e1]; exact h5⟩
    unfold cT
    rw [e1]
    exact h4
  | .inr w, h =>
    show m'.1 1 1 = nI n ∧ n ≤ 400 ∧ m'.1 1 2 = nI n ∧ m'.1 1 3 = 21 ∧ m'.1 1 6 = nI w ∧ 1 ≤ w ∧ w < 4000
    rw [e1]
    exact h
/-- in failing: emit, countOne, next, fail -/
theorem f_53 {v : Nat} {x : Int32} (hr : r < 6) (h : fR m f n r v) : ∃ m', d_53 g x m = some m' ∧ fR m' f n r v ∧ rfm r m m' := by
  obtain ⟨h1, h2, l, h3, h4⟩ := id h
  have hU := cU_r hr
  unfold d_53
  rw [h2, if_pos hU, h4]
  by_cases hl : l = 400
  · rw [if_pos (show (400 : Int32) ≤ nI l from nI_le (a := 400) (by omega) (by omega))]
    exact ⟨m, rfl, h, rfm.rf _ _⟩
  · rw [if_neg (show ¬ (400 : Int32) ≤ nI l from nI_ge (b := 400) (by omega) (by omega)), if_pos (k_in (show l < 400 by omega) (by omega)), k_cl (show l < 2147483648 by omega), Option.bind_some]
    obtain ⟨m1, hm1⟩ : ∃ m1, m1 = cW m (35 + 6 * r + 1) l x := ⟨_, rfl⟩
    have e5 : m1.1 (35 + 6 * r) 5 = nI l := by rw [hm1, cW_b (by omega)]; exact h4
    have e4 : m1.2.2.1 4 = 35 + 6 * r := by rw [hm1]; exact h2
    rw [← hm1, e4, if_pos hU, e5, show nI l + 1 = nI (l + 1) from nI_1 _, Option.bind_some]
    refine ⟨_, rfl, ⟨?_, e4, l + 1, by omega, cW_s⟩, fun b a1 a2 a3 a4 => ?_, fun k hk => ?_, by rw [hm1]; rfl⟩
    · exact h1.co1 (by rw [cW_b (by omega), hm1, cW_b (by omega)]) (by rw [cW_b (by omega), hm1, cW_b (by omega)])
    · rw [cW_b a3, hm1, cW_b a4]
    · rw [cW_k hk, hm1, cW_b (by omega)]
theorem f_83 {v k : Nat} (hk : k ≤ 4) (h : fR m f n r v) : ∃ m', d_83 g (nI k) m = some m' ∧ fR m' f n r v ∧ c1 m m' := by
  obtain ⟨m', y1, y2, y3⟩ := p_83s (g := g) hk h.1
  exact ⟨m', y1, h.c1 y2 y3, y2⟩
theorem f_84 {v : Nat} (hg : 1000 ≤ g) (h : fR m f n r v) : ∃ m', d_84 g m = some m' ∧ fR m' f n r v ∧ c1 m m' := by
  obtain ⟨m', y1, y2, y3⟩ := p_84s (g := g) hg h.1
  exact ⟨m', y1, h.c1 y2 y3, y2⟩
theorem f_52 {v : Nat} (h : fR m f n r v) : ∃ m', d_52 g m = some m' ∧ fR m' f n r v ∧ rfm r m m' := by
  have key : ∀ m : cM, fR m f n r v → ∃ m', j_52_17 g m = some m' ∧ fR m' f n r v ∧ rfm r m m' := fun m h => by
    refine ⟨_, rfl, ⟨h.1.W (by omega) (by omega), h.2.1, ?_⟩, rfm.W4⟩
    rw [cW_b (by omega)]
    exact h.2.2
  unfold d_52
  by_cases e : m.1 4 2 < 60
  · rw [if_pos e]; exact key m h
  · rw [if_neg e]
    obtain ⟨m1, y1, y2, y3⟩ := f_83 (g := g) (k := 3) (by omega) h
    obtain ⟨m2, z1, z2, z3⟩ := key m1 y2
    rw [show d_83 g 3 m = _ from y1, Option.bind_some]
    exact ⟨m2, z1, z2, (rfm.of y3).tr z3⟩
/-- how a piece of a rule is read -/
def eR (b : Bool) (cr : Option cM) (rr : Option (Int32 × rS)) (m : cM) (S : rS) (f : Nat → Int32) (n a r : Nat) (L Lc : List Nat) (V : Nat) : Prop :=
  (∃ m' S' a' seg V', cr = some m' ∧ rr = some (1, S') ∧ gRu m' S' f n a' r (L ++ seg) (Lc ++ seg) V' ∧ a + seg.length ≤ a' ∧ a < a' ∧ (∀ ts, ts.length ≤ V → tyl seg ts = some (b :: ts)) ∧ V + 1 ≤ V' ∧ rfm r m m' ∧ rfs r S S' ∧ S'.1 13 = S.1 13 ∧ S'.1 16 = S.1 16 ∧ S'.2.1 15 = S.2.1 15) ∨
  (∃ m' S' v, cr = some m' ∧ rr = some (0, S') ∧ fR m' f n r v ∧ S'.1 9 = nI v ∧ rfm r m m' ∧ rfs r S S')
end RUC
