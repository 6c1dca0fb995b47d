/-! sent, of the reference -/
def srst (S : rS) (T : Nat) : sO → Prop
  | none => S.1 29 = -1
  | some p => S.1 29 = nI (sN p.2 T) ∧ S.1 30 = Int32.ofInt p.1 ∧ (∀ i, i < T → S.2.1 28 i = nI (p.2 i) ∧ p.2 i ≤ 9) ∧ -100000000 ≤ p.1 ∧ p.1 ≤ 100000000
theorem srst.co {S S' : rS} {T : Nat} {b : sO} (h : srst S T b) (e1 : S'.1 29 = S.1 29) (e2 : S'.1 30 = S.1 30) (e3 : S'.2.1 28 = S.2.1 28) : srst S' T b := by
  match b, h with
  | none, h => exact e1.trans h
  | some p, h =>
    show S'.1 29 = nI (sN p.2 T) ∧ S'.1 30 = Int32.ofInt p.1 ∧ (∀ i, i < T → S'.2.1 28 i = nI (p.2 i) ∧ p.2 i ≤ 9) ∧ -100000000 ≤ p.1 ∧ p.1 ≤ 100000000
    rw [e1, e2, e3]; exact h
theorem rc.un {is as : List Nat} {S S' : rS} {k : Nat} (h : rc is (k :: as) S S') (e : S'.2.1 k = S.2.1 k) : rc is as S S' := ⟨h.1, fun j hj => by
  by_cases ej : j = k
  · rw [ej]; exact e
  · exact h.2 j (fun z => by
      rcases List.mem_cons.mp z with z | z
      · exact ej z
      · exact hj z)⟩
theorem lfA_n {w : Nat → Int32} {r : Nat → Nat} {t : Nat} : lfA w r t (r t) = lfA w r (t + 1) 0 := by
  funext t'
  unfold lfA
  by_cases h : t' < t
  · rw [if_pos h, if_pos (by omega)]
  · rw [if_neg h]
    by_cases h2 : t' = t
    · rw [if_pos h2, if_pos (by omega), h2]
    · rw [if_neg h2, if_neg (by omega)]
      split <;> rfl
/-- the reference's row while things are sent back -/
def swp (w w' : Nat → Int32) (T C k : Nat) (lf : Nat → Nat) (px : Int32) : Prop := (∀ j, j ≤ 7 ∨ j = 9 ∨ j = 10 ∨ 56 ≤ j → w' j = w j) ∧ (∀ t, t < T → la w' t = lf t) ∧ w' 11 = px ∧ stV w' T C k
section SRF
variable {g k : Nat} {m : cM} {S : rS} {B : rB} {w : Nat → Int32} {q T W C Sa R L2 fr : Nat} {x : Int32}
set_option maxHeartbeats 1000000 in
/-- one more of a thing is sent back -/
theorem q_send {rr : Nat → Nat} {t n : Nat} {px : Int32} {v : Nat → Int32} (hg : 2000 ≤ g) (hV : shV w T W C Sa) (l1 : L2 ≤ 5) (l2 : w 79 = nI L2) (l4 : ∀ i, i < L2 → w (74 + i) = nI (lr2 w i) ∧ lr2 w i < C) (h5 : w 5 = nI fr) (hfr : fr ≤ 9999) (ht : t < T) (hn : n < la w t) (h20 : S.2.1 20 = v) (hs : swp w v T C k (lfA w rr t n) px) : ∃ S', d_228 g (nI t) S = some (nI (snB w T L2 fr rr t (n + 1) px), S') ∧ rc [24, 25] [20, 23] S S' ∧ swp w (S'.2.1 20) T C k (lfA w rr t (n + 1)) (px - nI (snB w T L2 fr rr t (n + 1) px)) := by
  obtain ⟨s1, s2, s3, s4⟩ := hs
  have hT8 := hV.1.2
  have hV' : shV v T W C Sa := hV.cw (fun j hj => s1 j (by omega))
  have hl : la v t = la w t - n := by
    rw [s2 t ht]
    unfold lfA
    rw [if_neg (by omega), if_pos rfl]
  have elr : ∀ i, lr2 v i = lr2 w i := fun i => by
    unfold lr2
    rw [s1 (74 + i) (by omega)]
  obtain ⟨S', y1, y2, y3⟩ := q_228 (g := g) (S := S) (w := v) (k := k) (t := t) (L2 := L2) (fr := fr) hg h20 hV' s4 ht (by omega) ((s1 79 (by omega)).trans l2) l1 (fun i hi => by rw [elr, s1 (74 + i) (by omega)]; exact l4 i hi) ((s1 5 (by omega)).trans h5) hfr
  have ew : ∀ j, j ≤ 6 ∨ 56 ≤ j → se3 v t j = w j := fun j hj => by
    rw [se3_e (by omega) (by omega) (by omega)]
    exact s1 j (by omega)
  have ela : ∀ t', t' < T → la (se3 v t) t' = lfA w rr t (n + 1) t' := fun t' ht' => by
    by_cases e : t' = t
    · subst e
      have : la (se3 v t') t' = la v t' - 1 := by
        show nN (se3 v t' (20 + 5 * t')) = _
        rw [se3_20, n_cl (by have := (la_of s4 ht').2; omega)]
      rw [this, hl]
      unfold lfA
      rw [if_neg (by omega), if_pos rfl]
      omega
    · have : la (se3 v t) t' = la v t' := by
        show nN (se3 v t (20 + 5 * t')) = _
        rw [se3_e (by omega) (by omega) (by omega)]
        rfl
      rw [this, s2 t' ht']
      unfold lfA
      rw [if_neg e, if_neg e]
  have eB : seN v T L2 fr t = snB w T L2 fr rr t (n + 1) px := by
    unfold seN snB
    rw [s3]
    exact sbN_w ew ela
  rw [eB] at y1
  refine ⟨S', y1, y3, ?_⟩
  rw [y2]
  refine ⟨fun j hj => ?_, fun t' ht' => ?_, ?_, se5_V hV' s4 ht (by omega)⟩
  · unfold se5
    rw [upd_n (by omega), upd_n (by omega), se3_e (by omega) (by omega) (by omega)]
    exact s1 j hj
  · rw [← ela t' ht']
    show nN (se5 v T L2 fr t (20 + 5 * t')) = nN (se3 v t (20 + 5 * t'))
    unfold se5
    rw [upd_n (by omega), upd_n (by omega)]
  · unfold se5
    rw [upd_n (by omega), upd_s, s3, eB]
theorem q_l252a {r : Nat → Nat} {t : Nat} (hg : 2000 ≤ g) (hV : shV w T W C Sa) (l1 : L2 ≤ 5) (l2 : w 79 = nI L2) (l4 : ∀ i, i < L2 → w (74 + i) = nI (lr2 w i) ∧ lr2 w i < C) (h5 : w 5 = nI fr) (hfr : fr ≤ 9999) (ht : t < T) (hr : r t ≤ la w t) (h9 : r t ≤ 9) : ∀ (j n f : Nat) (S : rS), n + j = r t → j + 1 ≤ f → S.2.1 35 t = nI (r t) → swp w (S.2.1 20) T C k (lfA w r t n) (snI w T L2 fr r t n (snA w T L2 fr r t)).1 → ∃ S', l_252 g f 1 (Int32.ofInt (snI w T L2 fr r t n (snA w T L2 fr r t)).2) (nI t) (nI n) S = l_252 g (f - (j + 1)) 0 (Int32.ofInt (snA w T L2 fr r (t + 1)).2) (nI (t + 1)) 0 S' ∧ swp w (S'.2.1 20) T C k (lfA w r (t + 1) 0) (snA w T L2 fr r (t + 1)).1 ∧ rc [24, 25] [20, 23] S S' := by
  have hT8 := hV.1.2
  intro j
  induction j with
  | zero =>
    intro n f S hn hf h35 hs
    obtain ⟨f, rfl⟩ : ∃ f', f = f' + 1 := ⟨f - 1, by omega⟩
    have e : n = r t := by omega
    subst e
    refine ⟨S, ?_, by rw [← lfA_n]; exact hs, rc.rf _⟩
    rw [l_252, if_neg (by decide), if_pos rfl, if_pos (k_in (show t < 8 by omega) (by omega)), k_cl (show t < 2147483648 by omega), h35, if_pos (Int32.le_refl _), show nI t + 1 = nI (t + 1) from nI_1 t]
    rfl
  | succ j ih =>
    intro n f S hn hf h35 hs
    obtain ⟨f, rfl⟩ : ∃ f', f = f' + 1 := ⟨f - 1, by omega⟩
    obtain ⟨p, hp⟩ : ∃ p, p = snI w T L2 fr r t n (snA w T L2 fr r t) := ⟨_, rfl⟩
    have es : snI w T L2 fr r t (n + 1) (snA w T L2 fr r t) = snS w T L2 fr r t (n + 1) p := by rw [hp]; rfl
    rw [← hp] at hs
    obtain ⟨S1, y1, y2, y3⟩ := q_send (g := g) (S := S) (rr := r) (n := n) hg hV l1 l2 l4 h5 hfr ht (by omega) rfl hs
    have e81 : S1.2.1 20 (81 + 2 * t) = nI (nN (w (81 + 2 * t))) := by
      rw [(nI_nN (hV.2.2.2.2.2.2.2.2.1 t ht).2 (by omega)).1]
      exact y3.1 _ (by omega)
    have eg : Int32.ofInt p.2 + (nI (snB w T L2 fr r t (n + 1) p.1) - nI (nN (w (81 + 2 * t)))) = Int32.ofInt (snS w T L2 fr r t (n + 1) p).2 := by
      rw [iI_n, iI_n, ← Int32.ofInt_sub, ← Int32.ofInt_add]
      rfl
    obtain ⟨S', z1, z2, z3⟩ := ih (n + 1) f S1 (by omega) (by omega) (by rw [y2.2 35 (by decide)]; exact h35) (by rw [es]; exact y3)
    refine ⟨S', ?_, z2, y2.tr z3⟩
    rw [es, ← eg] at z1
    rw [← hp, show f + 1 - (j + 1 + 1) = f - (j + 1) by omega, ← z1, l_252, if_neg (by decide), if_pos rfl, if_pos (k_in (show t < 8 by omega) (by omega)), k_cl (show t < 2147483648 by omega), h35, if_neg (nI_ge (by omega) (by omega)), y1, Option.bind_some, q_193 (by omega), Option.bind_some]
    show l_252 g f 1 (Int32.ofInt p.2 + (nI (snB w T L2 fr r t (n + 1) p.1) - S1.2.1 20 (81 + 2 * t))) (nI t) (nI n + 1) S1 = _
    rw [e81, show nI n + 1 = nI (n + 1) from nI_1 n]
theorem q_l252 {r : Nat → Nat} (hg : 2000 ≤ g) (hV : shV w T W C Sa) (l1 : L2 ≤ 5) (l2 : w 79 = nI L2) (l4 : ∀ i, i < L2 → w (74 + i) = nI (lr2 w i) ∧ lr2 w i < C) (h5 : w 5 = nI fr) (hfr : fr ≤ 9999) (hr : ∀ t, t < T → r t ≤ la w t ∧ r t ≤ 9) : ∀ (j t f : Nat) (S : rS), t + j = T → 11 * j + 1 ≤ f → (∀ d, d < T → S.2.1 35 d = nI (r d)) → (∀ d, d < 80 → S.2.1 34 d = w d) → swp w (S.2.1 20) T C k (lfA w r t 0) (snA w T L2 fr r t).1 → ∃ S', l_252 g f 0 (Int32.ofInt (snA w T L2 fr r t).2) (nI t) 0 S = some (Int32.ofInt (snA w T L2 fr r T).2, S') ∧ S'.2.1 20 = w ∧ rc [24, 25] [20, 23] S S' := by
  have hT8 := hV.1.2
  intro j
  induction j with
  | zero =>
    intro t f S ht hf h35 h34 hs
    obtain ⟨f, rfl⟩ : ∃ f', f = f' + 1 := ⟨f - 1, by omega⟩
    have e : t = T := by omega
    subst e
    have h1 : S.2.1 20 1 = nI t := (hs.1 1 (by omega)).trans hV.1.1
    obtain ⟨S', y1, y2, y3, y4, -⟩ := q_251 (g := g) (S := S) hg
    have y3 : S'.2.1 20 = w := by
      funext d
      by_cases e : d < 80
      · rw [y3 d e]; exact h34 d e
      · rw [y4 d (by omega)]; exact hs.1 d (by omega)
    refine ⟨S', ?_, y3, y2.mo (by decide) (by decide)⟩
    rw [l_252, if_pos rfl, if_pos (show aIn (1 : Int32) 181 = true by decide), show (1 : Int32).toNatClampNeg = 1 from rfl, h1, if_pos (Int32.le_refl _), y1, Option.bind_some]
  | succ j ih =>
    intro t f S ht hf h35 h34 hs
    obtain ⟨f, rfl⟩ : ∃ f', f = f' + 1 := ⟨f - 1, by omega⟩
    have h1 : S.2.1 20 1 = nI T := (hs.1 1 (by omega)).trans hV.1.1
    obtain ⟨hr1, hr2⟩ := hr t (by omega)
    obtain ⟨S1, y1, y2, y3⟩ := q_l252a (g := g) (r := r) (t := t) hg hV l1 l2 l4 h5 hfr (by omega) hr1 hr2 (r t) 0 f S (by omega) (by omega) (h35 t (by omega)) hs
    obtain ⟨S', z1, z2, z3⟩ := ih (t + 1) (f - (r t + 1)) S1 (by omega) (by omega) (fun d hd => by rw [y3.2 35 (by decide)]; exact h35 d hd) (fun d hd => by rw [y3.2 34 (by decide)]; exact h34 d hd) y2
    refine ⟨S', ?_, z2, y3.tr z3⟩
    rw [← z1, ← y1, l_252, if_pos rfl, if_pos (show aIn (1 : Int32) 181 = true by decide), show (1 : Int32).toNatClampNeg = 1 from rfl, h1, if_neg (nI_ge (by omega) (by omega))]
    rfl
/-- what a row gives -/
theorem q_252 {r : Nat → Nat} (hg : 2000 ≤ g) (hV : shV w T W C Sa) (hst : stV w T C k) (l1 : L2 ≤ 5) (l2 : w 79 = nI L2) (l4 : ∀ i, i < L2 → w (74 + i) = nI (lr2 w i) ∧ lr2 w i < C) (h5 : w 5 = nI fr) (hfr : fr ≤ 9999) (hr : ∀ t, t < T → r t ≤ la w t ∧ r t ≤ 9) (h20 : S.2.1 20 = w) (h35 : ∀ d, d < T → S.2.1 35 d = nI (r d)) (h34 : ∀ d, d < 80 → S.2.1 34 d = w d) : ∃ S', d_252 g S = some (Int32.ofInt (snA w T L2 fr r T).2, S') ∧ rc [24, 25] [23] S S' := by
  have hT8 := hV.1.2
  obtain ⟨S', y1, y2, y3⟩ := q_l252 (g := g) (k := k) (r := r) hg hV l1 l2 l4 h5 hfr hr T 0 g S (by omega) (by omega) h35 h34 ⟨fun j _ => by rw [h20], fun t ht => by
    rw [h20]
    unfold lfA
    rw [if_neg (by omega)]
    split <;> rfl, by rw [h20]; rfl, by rw [h20]; exact hst⟩
  refine ⟨S', y1, rc.un (k := 20) y3 (by rw [y2, h20])⟩
theorem q_l253 {r : Nat → Nat} (h1 : S.2.1 20 1 = nI T) (hT8 : T ≤ 8) (h35 : ∀ d, d < T → S.2.1 35 d = nI (r d)) : ∀ (j i n : Nat), i + j = T → j + 1 ≤ n → l_253 g n 0 (nI (sN r i)) (nI i) S = some (nI (sN r T), S) := by
  intro j
  induction j with
  | zero =>
    intro i n hi hn
    obtain ⟨n, rfl⟩ : ∃ n', n = n' + 1 := ⟨n - 1, by omega⟩
    have e : i = T := by omega
    subst e
    rw [l_253, if_pos rfl, if_pos (show aIn (1 : Int32) 181 = true by decide), show (1 : Int32).toNatClampNeg = 1 from rfl, h1, if_pos (Int32.le_refl _)]
  | succ j ih =>
    intro i n hi hn
    obtain ⟨n, rfl⟩ : ∃ n', n = n' + 1 := ⟨n - 1, by omega⟩
    rw [l_253, if_pos rfl, if_pos (show aIn (1 : Int32) 181 = true by decide), show (1 : Int32).toNatClampNeg = 1 from rfl, h1, if_neg (nI_ge (by omega) (by omega)), if_pos (k_in (show i < 8 by omega) (by omega)), k_cl (show i < 2147483648 by omega), h35 i (by omega), show nI i + 1 = nI (i + 1) from nI_1 i, nI_add]
    exact ih (i + 1) n (by omega) (by omega)
theorem q_l254c {r : Nat → Nat} {p : Nat} (hT8 : T ≤ 8) (hp : p < T) : ∀ (j i n : Nat) (S : rS), S.2.1 20 1 = nI T → i + j = T → p + 1 ≤ i → j + 1 ≤ n → (∀ d, d < i → S.2.1 35 d = nI (odN r p d)) → ∃ S', l_254 g n 2 (nI p) (nI i) S = some (1, S') ∧ rc [] [35] S S' ∧ (∀ d, d < T → S'.2.1 35 d = nI (odN r p d)) := by
  intro j
  induction j with
  | zero =>
    intro i n S h2 hi hpi hn h
    obtain ⟨n, rfl⟩ : ∃ n', n = n' + 1 := ⟨n - 1, by omega⟩
    have e : i = T := by omega
    subst e
    refine ⟨S, ?_, rc.rf _, h⟩
    rw [l_254, if_neg (by decide), if_neg (by decide), if_pos rfl, if_pos (show aIn (1 : Int32) 181 = true by decide), show (1 : Int32).toNatClampNeg = 1 from rfl, h2, if_pos (Int32.le_refl _)]
  | succ j ih =>
    intro i n S h2 hi hpi hn h
    obtain ⟨n, rfl⟩ : ∃ n', n = n' + 1 := ⟨n - 1, by omega⟩
    obtain ⟨S', y1, y2, y3⟩ := ih (i + 1) n (rA S 35 (upd (S.2.1 35) i 0)) (by rw [rA_n (by decide)]; exact h2) (by omega) (by omega) (by omega) (by
      intro d hd
      rw [rA_s]
      by_cases e : d = i
      · subst e
        rw [upd_s]
        show 0 = nI (if d < p then r d else if d = p then r p + 1 else 0)
        rw [if_neg (by omega), if_neg (by omega)]
        rfl
      · rw [upd_n e]; exact h d (by omega))
    refine ⟨S', ?_, (rc.A (by decide)).tr y2, y3⟩
    rw [l_254, if_neg (by decide), if_neg (by decide), if_pos rfl, if_pos (show aIn (1 : Int32) 181 = true by decide), show (1 : Int32).toNatClampNeg = 1 from rfl, h2, if_neg (nI_ge (by omega) (by omega)), if_pos (k_in (show i < 8 by omega) (by omega)), k_cl (show i < 2147483648 by omega), show nI i + 1 = nI (i + 1) from nI_1 i]
    exact y1
theorem q_l254 {r : Nat → Nat} (hg : 100 ≤ g) (hV : shV w T W C Sa) (hst : stV w T C k) (h20 : S.2.1 20 = w) (hr : ∀ j, j < T → S.2.1 35 j = nI (r j) ∧ r j ≤ la w j) : ∀ (i n : Nat), i ≤ T → i + T + 4 ≤ n → ∃ S', l_254 g n 0 (nI i - nI 1) 0 S = some ((match odP (fun _ p => la w p) r i with
    | none => 0
    | some _ => 1), S') ∧ rc [] [35] S S' ∧ (match odP (fun _ p => la w p) r i with
    | none => True
    | some p => ∀ d, d < T → S'.2.1 35 d = nI (odN r p d)) := by
  have hT8 := hV.1.2
  have h1 : S.2.1 20 1 = nI T := by rw [h20]; exact hV.1.1
  intro i
  induction i with
  | zero =>
    intro n hi hn
    obtain ⟨n, rfl⟩ : ∃ n', n = n' + 2 := ⟨n - 2, by omega⟩
    refine ⟨S, ?_, rc.rf _, trivial⟩
    rw [l_254, if_pos rfl, if_pos (by decide), l_254, if_neg (by decide), if_pos rfl, if_neg (by decide)]
    rfl
  | succ i ih =>
    intro n hi hn
    obtain ⟨n, rfl⟩ : ∃ n', n = n' + 2 := ⟨n - 2, by omega⟩
    obtain ⟨r1, r2⟩ := hr i (by omega)
    obtain ⟨a1, a2⟩ := la_of hst (t := i) (by omega)
    have e1 : nI (i + 1) - nI 1 = nI i := k_sub (by omega)
    have e2 : odP (fun _ p => la w p) r (i + 1) = if r i < la w i then some i else odP (fun _ p => la w p) r i := rfl
    have q191 : d_191 g (nI i) 4 S = some (nI (la w i), S) := by
      have := q_191 (g := g) (t := i) (j := 4) (S := S) (by omega) (by omega)
      rw [show 16 + 5 * i + 4 = 20 + 5 * i by omega, h20, a1] at this
      exact this
    rw [e1, e2, l_254, if_pos rfl, if_neg (nI_pos (by omega)), if_pos (k_in (show i < 8 by omega) (by omega)), q191, Option.bind_some, k_cl (show i < 2147483648 by omega), r1]
    rw [show (nI (la w i), S).1 = nI (la w i) from rfl]
    by_cases h : r i < la w i
    · obtain ⟨S', y1, y2, y3⟩ := q_l254c (g := g) (r := r) (p := i) hT8 (by omega) (T - (i + 1)) (i + 1) n (rA S 35 (upd (S.2.1 35) i (nI (r i + 1)))) (by rw [rA_n (by decide)]; exact h1) (by omega) (by omega) (by omega) (fun d hd => by
        rw [rA_s]
        show _ = nI (if d < i then r d else if d = i then r i + 1 else 0)
        by_cases e : d = i
        · subst e; rw [upd_s, if_neg (by omega), if_pos rfl]
        · rw [upd_n e, if_pos (by omega)]; exact (hr d (by omega)).1)
      rw [if_pos (show ¬ nI (r i) = nI (la w i) from fun z => by have := (nI_eq (by omega) (by omega)).mp z; omega), if_pos h]
      refine ⟨S', ?_, (rc.A (by decide)).tr y2, y3⟩
      show l_254 g (n + 1) 1 (nI i) 0 S = _
      rw [l_254, if_neg (by decide), if_pos rfl, if_pos (nI_pos' (by omega)), if_pos (k_in (show i < 8 by omega) (by omega)), if_pos (k_in (show i < 8 by omega) (by omega)), k_cl (show i < 2147483648 by omega), r1, show nI (r i) + 1 = nI (r i + 1) from nI_1 _, show nI i + 1 = nI (i + 1) from nI_1 i]
      exact y1
    · obtain ⟨S', y1, y2, y3⟩ := ih (n + 1) (by omega) (by omega)
      have e : r i = la w i := by omega
      rw [if_neg (show ¬ ¬ nI (r i) = nI (la w i) from fun z => z (by rw [e])), if_neg h]
      refine ⟨S', ?_, y2, y3⟩
      rw [← y1, Int32.sub_eq_add_neg]
      rfl
/-- hasNextSent -/
theorem q_254 {r : Nat → Nat} (hg : 100 ≤ g) (hV : shV w T W C Sa) (hst : stV w T C k) (h20 : S.2.1 20 = w) (hr : ∀ j, j < T → S.2.1 35 j = nI (r j) ∧ r j ≤ la w j) : ∃ S', d_254 g S = some ((match odP (fun _ p => la w p) r T with
    | none => 0
    | some _ => 1), S') ∧ rc [] [35] S S' ∧ (match odP (fun _ p => la w p) r T with
    | none => True
    | some p => ∀ d, d < T → S'.2.1 35 d = nI (odN r p d)) := by
  have hT8 := hV.1.2
  have h1 : S.2.1 20 1 = nI T := by rw [h20]; exact hV.1.1
  unfold d_254
  rw [if_pos (show aIn (1 : Int32) 181 = true by decide), show (1 : Int32).toNatClampNeg = 1 from rfl, h1]
  exact q_l254 hg hV hst h20 hr T g (Nat.le_refl _) (by omega)
end SRF
