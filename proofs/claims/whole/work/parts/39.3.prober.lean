section PR
variable {g k : Nat} {m : cM} {S : rS} {B : rB} {w : Nat → Int32} {q T W C Sa R : Nat} {x : Int32}
/-- the reference's row of prices -/
def dsF (p : Nat → Bool) (h : Nat → Nat) (r : Nat) : Nat := if p r = true then h r else 0
theorem l263_1 {n : Nat} {x1 x2 x3 x4 x5 s0 s1 x6 x7 : Int32} (h : aIn s1 7 = true) : l_263 g (n + 1) 1 x1 x2 x3 x4 x5 s0 s1 x6 x7 S = l_263 g n 0 x1 x2 x3 x4 (x5 + 1) 0 0 0 0 (rA S 39 (upd (S.2.1 39) s1.toNatClampNeg s0)) := by
  rw [l_263, if_neg (by decide), if_pos rfl, if_pos h]
theorem l263_4 {n : Nat} {x1 x2 x3 x4 x5 s0 s1 x6 x7 : Int32} : l_263 g (n + 1) 4 x1 x2 x3 x4 x5 s0 s1 x6 x7 S = l_263 g n 5 x1 x2 x3 x4 x5 0 s0 x6 x7 S := by
  rw [l_263, if_neg (by decide), if_neg (by decide), if_neg (by decide), if_neg (by decide), if_pos rfl]
theorem l263_5 {n : Nat} {x1 x2 x3 x4 x5 s0 s1 x6 x7 : Int32} : l_263 g (n + 1) 5 x1 x2 x3 x4 x5 s0 s1 x6 x7 S = l_263 g n 3 x1 x2 x3 x4 x5 0 0 (s1 + s0) (x7 + 1) S := by
  rw [l_263, if_neg (by decide), if_neg (by decide), if_neg (by decide), if_neg (by decide), if_neg (by decide), if_pos rfl]
theorem l263_6 {n : Nat} {x1 x2 x3 x4 x5 s0 s1 x6 x7 : Int32} : l_263 g (n + 1) 6 x1 x2 x3 x4 x5 s0 s1 x6 x7 S = l_263 g n 2 x1 x2 x3 s0 (x5 + 1) 0 0 0 0 S := by
  rw [l_263, if_neg (by decide), if_neg (by decide), if_neg (by decide), if_neg (by decide), if_neg (by decide), if_neg (by decide), if_pos rfl]
theorem q_l263a {t d l : Nat} (hg : 2000 ≤ g) (hV : shV w T W C Sa) (htd : tdV w T) (hR : rbR m.1 B R) (ht : t < T) : ∀ (e r n : Nat) (S : rS), r + e = R + 1 → 2 * e + 1 ≤ n → rx S B w q x R → (∀ j, j < r → S.2.1 39 j = nI (dsF (fit B w) (fun r => dn B w r t d l) j)) → ∃ S', l_263 g n 0 (nI t) (nI d) (nI l) 0 (nI r) 0 0 0 0 S = l_263 g (n - (2 * e + 1)) 2 (nI t) (nI d) (nI l) 0 (nI 0) 0 0 0 0 S' ∧ rc [18] [39] S S' ∧ (∀ j, j < R + 1 → S'.2.1 39 j = nI (dsF (fit B w) (fun r => dn B w r t d l) j)) := by
  have hR6 := hR.1
  intro e
  induction e with
  | zero =>
    intro r n S hr hn h hf
    obtain ⟨n, rfl⟩ : ∃ n', n = n' + 1 := ⟨n - 1, by omega⟩
    have er : r = R + 1 := by omega
    subst er
    refine ⟨S, ?_, rc.rf _, hf⟩
    rw [l_263, if_pos rfl, h.2.2.2.2.2.2, if_pos (nI_lt (by omega) (by omega))]
    rfl
  | succ e ih =>
    intro r n S hr hn h hf
    obtain ⟨n, rfl⟩ : ∃ n', n = n' + 2 := ⟨n - 2, by omega⟩
    obtain ⟨S1, y1, y2⟩ := q_261 (g := g) (m := m) (q' := r) hg (by omega) hV htd hR h
    have h1 := h.rs (rs.of18 y2)
    have e39 : ∀ S2 : rS, rc [18] [] S S2 → S2.2.1 39 = S.2.1 39 := fun S2 z => z.2 39 (by decide)
    have fin : ∀ S2 : rS, rc [18] [] S S2 → ∃ S', l_263 g (n + 1) 1 (nI t) (nI d) (nI l) 0 (nI r) (nI (dsF (fit B w) (fun r => dn B w r t d l) r)) (nI r) 0 0 S2 = l_263 g (n + 2 - (2 * (e + 1) + 1)) 2 (nI t) (nI d) (nI l) 0 (nI 0) 0 0 0 0 S' ∧ rc [18] [39] S S' ∧ (∀ j, j < R + 1 → S'.2.1 39 j = nI (dsF (fit B w) (fun r => dn B w r t d l) j)) := by
      intro S2 hs2
      obtain ⟨S', z1, z2, z3⟩ := ih (r + 1) n (rA S2 39 (upd (S2.2.1 39) r (nI (dsF (fit B w) (fun r => dn B w r t d l) r)))) (by omega) (by omega) ((h.rs (rs.of18 hs2)).rs (rc.A (by decide))) (by
        intro j hj
        rw [rA_s]
        by_cases ej : j = r
        · rw [ej, upd_s]
        · rw [upd_n ej, e39 S2 hs2]; exact hf j (by omega))
      refine ⟨S', ?_, ((hs2.mo (by decide) (by decide)).tr (rc.A (by decide))).tr z2, z3⟩
      rw [l263_1 (k_in (by omega) (by omega)), k_cl (by omega), show (1 : Int32) = nI 1 from rfl, nI_add, z1, show n + 2 - (2 * (e + 1) + 1) = n - (2 * e + 1) by omega]
    rw [l_263, if_pos rfl, h.2.2.2.2.2.2, if_neg (nI_nlt (by omega) (by omega)), show nI r - 1 = rI r from rfl, y1, Option.bind_some]
    by_cases hp : fit B w r = true
    · obtain ⟨S2, z1, z2, z3⟩ := q_dn (g := g) (m := m) hg h1 hV hR (q' := r) (t := t) (d := d) (l := l) (by omega) ht
      rw [if_pos hp, if_neg (show ¬ (1 : Int32) = 0 by decide), z1, Option.bind_some]
      have := fin S2 (y2.tr z2)
      rw [show dsF (fit B w) (fun r => dn B w r t d l) r = dn B w r t d l from if_pos hp] at this
      exact this
    · rw [if_neg hp, if_pos rfl]
      have := fin S1 y2
      rw [show dsF (fit B w) (fun r => dn B w r t d l) r = 0 from if_neg hp] at this
      exact this
/-- how many of the first n are as a is -/
def cnD (ds : Nat → Nat) (a : Nat) : Nat → Nat
  | 0 => 0
  | n + 1 => cnD ds a n + if 0 < ds a ∧ ds a = ds n then 1 else 0
theorem cnD_b {ds : Nat → Nat} {a : Nat} : ∀ {n : Nat}, cnD ds a n ≤ n
  | 0 => Nat.le_refl _
  | n + 1 => by
    have := cnD_b (ds := ds) (a := a) (n := n)
    show cnD ds a n + (if 0 < ds a ∧ ds a = ds n then 1 else 0) ≤ n + 1
    split <;> omega
theorem cnD_F {p : Nat → Bool} {h : Nat → Nat} (hh : ∀ r, 1 ≤ h r) {a : Nat} : ∀ {n : Nat}, cnD (dsF p h) a n = if p a = true then cnF p h (h a) n else 0
  | 0 => by
    show 0 = _
    split <;> rfl
  | n + 1 => by
    have ih := cnD_F (p := p) (h := h) hh (a := a) (n := n)
    show cnD (dsF p h) a n + (if 0 < dsF p h a ∧ dsF p h a = dsF p h n then 1 else 0) = _
    rw [ih]
    by_cases hp : p a = true
    · have ea : dsF p h a = h a := if_pos hp
      rw [if_pos hp, if_pos hp, ea]
      show _ = cnF p h (h a) n + if p n = true ∧ h n = h a then 1 else 0
      have h1 := hh a
      by_cases hn : p n = true
      · have en : dsF p h n = h n := if_pos hn
        rw [en]
        by_cases he : h a = h n
        · rw [if_pos ⟨by omega, he⟩, if_pos ⟨hn, he.symm⟩]
        · rw [if_neg (fun z => he z.2), if_neg (fun z => he z.2.symm)]
      · have en : dsF p h n = 0 := if_neg hn
        rw [en, if_neg (fun z => by omega), if_neg (fun z => hn z.1)]
    · have ea : dsF p h a = 0 := if_neg hp
      rw [if_neg hp, if_neg hp, ea, if_neg (fun z => by omega)]
theorem q_l263c {ds : Nat → Nat} {a : Nat} {x1 x2 x3 x4 : Int32} (h2 : S.1 2 = nI R) (hR : R ≤ 6) (ha : a ≤ R) (hds : ∀ j, j < R + 1 → S.2.1 39 j = nI (ds j) ∧ ds j < 2147483648) : ∀ (e b n : Nat), b + e = R + 1 → 3 * e + 1 ≤ n → ∃ n', n ≤ n' + (3 * e + 1) ∧ l_263 g n 3 x1 x2 x3 x4 (nI a) 0 0 (nI (cnD ds a b)) (nI b) S = l_263 g n' 6 x1 x2 x3 x4 (nI a) (if nI (cnD ds a (R + 1)) ≤ x4 then x4 else nI (cnD ds a (R + 1))) 0 (nI (cnD ds a (R + 1))) (nI (R + 1)) S := by
  intro e
  induction e with
  | zero =>
    intro b n hb hn
    obtain ⟨n, rfl⟩ : ∃ n', n = n' + 1 := ⟨n - 1, by omega⟩
    have eb : b = R + 1 := by omega
    subst eb
    refine ⟨n, by omega, ?_⟩
    rw [l_263, if_neg (by decide), if_neg (by decide), if_neg (by decide), if_pos rfl, h2, if_pos (nI_lt (by omega) (by omega))]
    by_cases hc : nI (cnD ds a (R + 1)) ≤ x4
    · rw [if_pos hc, if_pos hc]
    · rw [if_neg hc, if_neg hc]
  | succ e ih =>
    intro b n hb hn
    obtain ⟨n, rfl⟩ : ∃ n', n = n' + 3 := ⟨n - 3, by omega⟩
    obtain ⟨d1, d2⟩ := hds a (by omega)
    obtain ⟨d3, d4⟩ := hds b (by omega)
    have hcb := cnD_b (ds := ds) (a := a) (n := b)
    have es : cnD ds a (b + 1) = cnD ds a b + if 0 < ds a ∧ ds a = ds b then 1 else 0 := rfl
    rw [l_263, if_neg (by decide), if_neg (by decide), if_neg (by decide), if_pos rfl, h2, if_neg (nI_nlt (by omega) (by omega)), if_pos (k_in (by omega) (by omega)), k_cl (by omega), d1]
    have no : ¬ (0 < ds a ∧ ds a = ds b) → ∃ n', n + 3 ≤ n' + (3 * (e + 1) + 1) ∧ l_263 g (n + 2) 4 x1 x2 x3 x4 (nI a) (nI (cnD ds a b)) 0 (nI (cnD ds a b)) (nI b) S = l_263 g n' 6 x1 x2 x3 x4 (nI a) (if nI (cnD ds a (R + 1)) ≤ x4 then x4 else nI (cnD ds a (R + 1))) 0 (nI (cnD ds a (R + 1))) (nI (R + 1)) S := by
      intro hno
      obtain ⟨n', z1, z2⟩ := ih (b + 1) n (by omega) (by omega)
      refine ⟨n', by omega, ?_⟩
      rw [l263_4, l263_5, show (0 : Int32) = nI 0 from rfl, nI_add, show (1 : Int32) = nI 1 from rfl, nI_add, Nat.add_zero]
      rw [es, if_neg hno] at z2
      exact z2
    by_cases h0 : ds a = 0
    · rw [h0, if_pos (by decide)]
      rw [h0] at no
      exact no (fun z => by omega)
    · rw [if_neg (nI_nle (by omega) d2), if_pos (k_in (by omega) (by omega)), if_pos (k_in (by omega) (by omega)), k_cl (by omega), d3]
      by_cases he : ds a = ds b
      · rw [if_neg (fun z => z (by rw [he]))]
        obtain ⟨n', z1, z2⟩ := ih (b + 1) (n + 1) (by omega) (by omega)
        refine ⟨n', by omega, ?_⟩
        rw [l263_5, show (1 : Int32) = nI 1 from rfl, nI_add, nI_add]
        rw [es, if_pos ⟨by omega, he⟩] at z2
        exact z2
      · rw [if_pos (fun z => he ((nI_eq d2 d4).mp z))]
        exact no (fun z => he z.2)
theorem q_l263b {ds : Nat → Nat} {x1 x2 x3 : Int32} (h2 : S.1 2 = nI R) (hR : R ≤ 6) (hds : ∀ j, j < R + 1 → S.2.1 39 j = nI (ds j) ∧ ds j < 2147483648) : ∀ (e a n : Nat), a + e = R + 1 → 30 * e + 1 ≤ n → l_263 g n 2 x1 x2 x3 (nI (mxU (fun a => cnD ds a (R + 1)) a)) (nI a) 0 0 0 0 S = some (nI (mxU (fun a => cnD ds a (R + 1)) (R + 1)), S) := by
  intro e
  induction e with
  | zero =>
    intro a n ha hn
    obtain ⟨n, rfl⟩ : ∃ n', n = n' + 1 := ⟨n - 1, by omega⟩
    have ea : a = R + 1 := by omega
    subst ea
    rw [l_263, if_neg (by decide), if_neg (by decide), if_pos rfl, h2, if_pos (nI_lt (by omega) (by omega))]
  | succ e ih =>
    intro a n ha hn
    obtain ⟨n, rfl⟩ : ∃ n', n = n' + 1 := ⟨n - 1, by omega⟩
    obtain ⟨n1, z1, z2⟩ := q_l263c (g := g) (S := S) (ds := ds) (a := a) (x1 := x1) (x2 := x2) (x3 := x3) (x4 := nI (mxU (fun a => cnD ds a (R + 1)) a)) h2 hR (by omega) hds (R + 1) 0 n (by omega) (by omega)
    obtain ⟨n2, rfl⟩ : ∃ q, n1 = q + 1 := ⟨n1 - 1, by omega⟩
    have b1 := cnD_b (ds := ds) (a := a) (n := R + 1)
    have b2 := mxU_b (f := fun a => cnD ds a (R + 1)) (c := R + 1) (n := a) (fun j _ => cnD_b)
    rw [l_263, if_neg (by decide), if_neg (by decide), if_pos rfl, h2, if_neg (nI_nlt (by omega) (by omega))]
    have z2 : l_263 g n 3 x1 x2 x3 (nI (mxU (fun a => cnD ds a (R + 1)) a)) (nI a) 0 0 0 0 S = _ := z2
    rw [z2, l263_6, show (1 : Int32) = nI 1 from rfl, nI_add]
    have er : (if nI (cnD ds a (R + 1)) ≤ nI (mxU (fun a => cnD ds a (R + 1)) a) then nI (mxU (fun a => cnD ds a (R + 1)) a) else nI (cnD ds a (R + 1))) = nI (mxU (fun a => cnD ds a (R + 1)) (a + 1)) := by
      show _ = nI (if mxU (fun a => cnD ds a (R + 1)) a < cnD ds a (R + 1) then cnD ds a (R + 1) else mxU (fun a => cnD ds a (R + 1)) a)
      by_cases hl : mxU (fun a => cnD ds a (R + 1)) a < cnD ds a (R + 1)
      · rw [if_neg (nI_ge hl (by omega)), if_pos hl]
      · rw [if_pos (nI_le (by omega) (by omega)), if_neg hl]
    rw [er]
    exact ih (a + 1) n2 (by omega) (by omega)
/-- alikeBy -/
theorem q_263 {t d l : Nat} (hg : 2000 ≤ g) (hV : shV w T W C Sa) (htd : tdV w T) (hR : rbR m.1 B R) (ht : t < T) (h : rx S B w q x R) : ∃ S', d_263 g (nI t) (nI d) (nI l) S = some (nI (mA (fit B w) (fun r => dn B w r t d l) R), S') ∧ rc [18] [39] S S' := by
  have hR6 := hR.1
  obtain ⟨S1, y1, y2, y3⟩ := q_l263a (g := g) (m := m) (q := q) (x := x) (d := d) (l := l) hg hV htd hR ht (R + 1) 0 g S (by omega) (by omega) h (fun j hj => absurd hj (by omega))
  refine ⟨S1, ?_, y2⟩
  unfold d_263
  have y1 : l_263 g g 0 (nI t) (nI d) (nI l) 0 0 0 0 0 0 S = _ := y1
  rw [y1]
  have hb := q_l263b (g := g) (S := S1) (R := R) (ds := dsF (fit B w) (fun r => dn B w r t d l)) (x1 := nI t) (x2 := nI d) (x3 := nI l) ((y2.1 2 (by decide)).trans h.2.2.2.2.2.2) hR6 (fun j hj => ⟨y3 j hj, by
    have := (dn_b (B := B) (q := j) (d := d) (l := l) hV ht).2
    show (if fit B w j = true then dn B w j t d l else 0) < 2147483648
    split <;> omega⟩) (R + 1) 0 (g - (2 * (R + 1) + 1)) (by omega) (by omega)
  have em : mxU (fun a => cnD (dsF (fit B w) (fun r => dn B w r t d l)) a (R + 1)) (R + 1) = mA (fit B w) (fun r => dn B w r t d l) R := by
    unfold mA
    exact mxU_c (fun j _ => cnD_F (fun r => (dn_b hV ht).1))
  rw [em] at hb
  exact hb
theorem q_l264 {t d : Nat} {x3 : Int32} (M : Nat → Nat) (hM : ∀ l, M l = mA (fit B w) (fun r => dn B w r t d l) R) (hMb : ∀ l, M l ≤ 100) (hg : 2000 ≤ g) (hV : shV w T W C Sa) (htd : tdV w T) (hR : rbR m.1 B R) (ht : t < T) : ∀ (e l n : Nat) (S : rS), l + e = 10 → 1 ≤ l → 2 * e + 1 ≤ n → rx S B w q x R → ∃ S', l_264 g n 0 (nI t) (nI d) x3 (nI (awD M 0 (l - 1))) (nI (M (awD M 0 (l - 1)))) (nI l) 0 S = some ((if ¬ x3 = 0 then nI (M (awD M 0 9)) else nI (awD M 0 9)), S') ∧ rc [18] [39] S S' := by
  intro e
  induction e with
  | zero =>
    intro l n S hl h1 hn h
    obtain ⟨n, rfl⟩ : ∃ n', n = n' + 1 := ⟨n - 1, by omega⟩
    have el : l = 10 := by omega
    subst el
    refine ⟨S, ?_, rc.rf _⟩
    rw [l_264, if_pos rfl, if_pos (show (9 : Int32) < nI 10 by decide)]
    by_cases h0 : x3 = 0
    · rw [if_neg (fun z => z h0), if_neg (fun z => z h0)]
    · rw [if_pos h0, if_pos h0]
  | succ e ih =>
    intro l n S hl h1 hn h
    obtain ⟨n, rfl⟩ : ∃ n', n = n' + 2 := ⟨n - 2, by omega⟩
    obtain ⟨S1, y1, y2⟩ := q_263 (g := g) (m := m) (d := d) (l := l) hg hV htd hR ht h
    rw [← hM l] at y1
    obtain ⟨S', z1, z2⟩ := ih (l + 1) n S1 (by omega) (by omega) (by omega) (h.rs (y2.mo (by decide) (by decide)))
    refine ⟨S', ?_, y2.tr z2⟩
    have l1 : ∀ a b c : Int32, l_264 g (n + 1) 1 (nI t) (nI d) x3 a b (nI l) c S1 = l_264 g n 0 (nI t) (nI d) x3 a b (nI (l + 1)) 0 S1 := fun a b c => by
      rw [l_264, if_neg (by decide), if_pos rfl, show (1 : Int32) = nI 1 from rfl, nI_add]
    obtain ⟨i', rfl⟩ : ∃ q, l = q + 1 := ⟨l - 1, by omega⟩
    have hl1 := hMb (i' + 1)
    have hl2 := hMb (awD M 0 i')
    rw [Nat.add_sub_cancel]
    rw [l_264, if_pos rfl, if_neg (show ¬ (9 : Int32) < nI (i' + 1) from nI_nlt (a := 9) (by omega) (by omega)), y1, Option.bind_some]
    have er : awD M 0 (i' + 1) = if M (0 + i' + 1) < M (awD M 0 i') then 0 + i' + 1 else awD M 0 i' := rfl
    rw [Nat.zero_add] at er
    rw [Nat.add_sub_cancel, er] at z1
    by_cases hlt : M (i' + 1) < M (awD M 0 i')
    · rw [if_pos (nI_lt hlt (by omega)), l1]
      rw [if_pos hlt] at z1
      exact z1
    · rw [if_neg (nI_nlt (by omega) (by omega)), l1]
      rw [if_neg hlt] at z1
      exact z1
set_option maxHeartbeats 1000000 in
theorem sp_probe (hg : 2000 ≤ g) (h : Inv k m S) (a b c : Int32) : St k (d_131 g a b c m) (d_264 g a b c S) := by
  obtain ⟨-, -, w, q, x, T, W, C, Sa, R, hc, hr, hpa, him⟩ := id h
  have hV := hc.2.1
  have htd := hc.2.2.2.1
  have hT8 := hV.1.2
  have hR6 := hc.2.2.2.2.2.2.1
  unfold d_131 d_264
  rw [if_pos hc.cy.1]
  rcases has_th (g := g) (S := S) hc.cy.1 hc.t (by rw [hr.1]; exact hV.1.1) hT8 a with ⟨e1, e2⟩ | ⟨t, ht, rfl, e1, e2⟩
  · rw [e1, e2]
    exact St.no h rfl rfl
  · rw [e1, e2]
    simp only [Option.bind_some, z10, if_false]
    rw [q_140 (a := 0) (b := 99) (a' := 0) (b' := 99) (by decide) (by decide), Option.bind_some, p_138, Option.bind_some]
    by_cases hb : (0 : Int32) ≤ b ∧ b ≤ 99
    case neg => rw [if_neg hb]; exact St.no h rfl rfl
    obtain ⟨d, -, hd, rfl⟩ := rng (a := 0) (b := 99) (by omega) (by omega) hb
    rw [if_pos hb]
    simp only [z10, if_false]
    rw [q_140 (a := 0) (b := 1) (a' := 0) (b' := 1) (by decide) (by decide), Option.bind_some]
    by_cases hc2 : (0 : Int32) ≤ c ∧ c ≤ 1
    case neg =>
      rw [if_neg hc2]
      simp only [z00, not_true, if_false]
      refine St.no h (v := -1) ?_ rfl
      by_cases h3 : c < 0
      · rw [if_pos h3]
      · rw [if_neg h3, if_neg (fun q => hc2 ⟨Int32.not_lt.mp h3, q⟩)]
    case pos =>
      obtain ⟨j, -, hj, rfl⟩ := rng (a := 0) (b := 1) (by omega) (by omega) hc2
      obtain ⟨m1, y1, y2, y3⟩ := p_32 (g := g) hg hc
      obtain ⟨S1, z1, z2⟩ := q_263 (g := g) (m := m) (d := d) (l := 0) hg hV htd hc.2.2.2.2.2.2 ht hr
      have hlen := FL_len (p := fit (bS3 S) w) (n := R + 1)
      have eM : ∀ l, mA (fit (bS3 S) w) (fun r => dn (bS3 S) w r t d l) R = mxU (fun i => cnE (fun j => dn (bS3 S) w ((FL (fit (bS3 S) w) (R + 1)).getD j 0) t d l) (dn (bS3 S) w ((FL (fit (bS3 S) w) (R + 1)).getD i 0) t d l) (FL (fit (bS3 S) w) (R + 1)).length) (FL (fit (bS3 S) w) (R + 1)).length := by
        intro l
        have e1 := mxU_F (p := fit (bS3 S) w) (G := fun a => cnF (fit (bS3 S) w) (fun r => dn (bS3 S) w r t d l) (dn (bS3 S) w a t d l) (R + 1)) (n := R + 1)
        show mxU _ (R + 1) = _
        rw [← e1]
        exact mxU_c (fun i _ => (cnE_F (p := fit (bS3 S) w) (h := fun r => dn (bS3 S) w r t d l) (n := R + 1)).symm)
      have hMb : ∀ l, mA (fit (bS3 S) w) (fun r => dn (bS3 S) w r t d l) R ≤ 100 := by
        intro l
        rw [eM l]
        have := mxU_b (f := fun i => cnE (fun j => dn (bS3 S) w ((FL (fit (bS3 S) w) (R + 1)).getD j 0) t d l) (dn (bS3 S) w ((FL (fit (bS3 S) w) (R + 1)).getD i 0) t d l) (FL (fit (bS3 S) w) (R + 1)).length) (c := (FL (fit (bS3 S) w) (R + 1)).length) (n := (FL (fit (bS3 S) w) (R + 1)).length) (fun i _ => cnE_b)
        omega
      have e17 := y3.1
      rw [if_pos hc2, if_neg (show ¬ nI j < 0 from nI_pos (by omega)), if_pos (show nI j ≤ 1 from nI_le (b := 1) hj (by omega)), y1, Option.bind_some, if_pos (show ¬ (1 : Int32) = 0 by decide), show (0 : Int32) = nI 0 from rfl, z1, Option.bind_some, e17]
      by_cases h0 : (FL (fit (bS3 S) w) (R + 1)).length = 0
      · have hz : mA (fit (bS3 S) w) (fun r => dn (bS3 S) w r t d 0) R = 0 := by
          rw [eM 0, h0]; rfl
        rw [h0, if_neg (by decide), hz]
        refine St.scr h rfl ?_ y2 (z2.mo (by decide) (by decide))
        rfl
      · have hz : 1 ≤ mA (fit (bS3 S) w) (fun r => dn (bS3 S) w r t d 0) R := by
          rw [eM 0]
          exact Nat.le_trans (cnE_pos (j := 0) (by omega) rfl) (mxU_ge (f := fun i => cnE (fun j => dn (bS3 S) w ((FL (fit (bS3 S) w) (R + 1)).getD j 0) t d 0) (dn (bS3 S) w ((FL (fit (bS3 S) w) (R + 1)).getD i 0) t d 0) (FL (fit (bS3 S) w) (R + 1)).length) (j := 0) (by omega))
        have hb0 := hMb 0
        obtain ⟨m2, u1, u2, u3, u4, u5⟩ := p_1 (g := g) (m := m1)
        obtain ⟨m3, r, v1, v2, v3, v4⟩ := p_l34 (g := g) (B := bS3 S) (q := q) (x := x) (t := t) (d := d) (F := FL (fit (bS3 S) w) (R + 1)) (c := (FL (fit (bS3 S) w) (R + 1)).length) hg ht rfl (by omega) (fun j hj => by have := (FL_lt hj).1; omega) (fun l => mA (fit (bS3 S) w) (fun r => dn (bS3 S) w r t d l) R) eM hMb 10 0 g m2 (by omega) (by omega) ((hc.ms y2).ms u3) ⟨by rw [u4 71 (by decide)]; exact e17, fun j hj => by rw [u4 79 (by decide)]; exact y3.2 j hj⟩ u2
        obtain ⟨S2, s1, s2⟩ := q_l264 (g := g) (m := m) (B := bS3 S) (q := q) (x := x) (t := t) (d := d) (x3 := nI j) (fun l => mA (fit (bS3 S) w) (fun r => dn (bS3 S) w r t d l) R) (fun _ => rfl) hMb hg hV htd hc.2.2.2.2.2.2 ht 9 1 g S1 (by omega) (by omega) (by omega) (hr.rs (z2.mo (by decide) (by decide)))
        have e34 : d_34 g (nI t) (nI d) m1 = some m3 := by
          unfold d_34
          rw [u1, Option.bind_some]
          exact v1
        have s1' : l_264 g g 0 (nI t) (nI d) (nI j) (nI 0) (nI (mA (fit (bS3 S) w) (fun r => dn (bS3 S) w r t d 0) R)) 1 (nI 0) S1 = _ := s1
        have p4 := p_4 (g := g) (j := 1 - j) v3 (by omega)
        have hj1 : (1 : Int32) - nI j = nI (1 - j) := k_sub (a := 1) hj
        have hrs : rs S S2 := (z2.mo (by decide) (by decide)).tr (s2.mo (by decide) (by decide))
        have hms : ms m m3 := (y2.tr u3).tr v2
        rw [if_pos (show (1 : Int32) ≤ nI (FL (fit (bS3 S) w) (R + 1)).length from nI_le (a := 1) (by omega) (by omega)), e34, Option.bind_some, hj1, p4, Option.bind_some, if_pos (show ¬ nI (mA (fit (bS3 S) w) (fun r => dn (bS3 S) w r t d 0) R) = nI 0 from nI_ne0 (by omega) (by omega)), s1']
        match j, hj with
        | 0, _ =>
          refine St.scr h (v := nI (awD (fun l => mA (fit (bS3 S) w) (fun r => dn (bS3 S) w r t d l) R) 0 9)) (m' := m3) (S' := S2) ?_ ?_ hms hrs
          · show some (r 0, m3) = _
            rw [v4]
          · rw [if_neg (fun z => z rfl)]
        | 1, _ =>
          refine St.scr h (m' := m3) (S' := S2) rfl ?_ hms hrs
          rw [if_pos (by decide)]
          rfl
end PR
