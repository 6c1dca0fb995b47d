/-! rows of things that do not fall -/
/-- the last place (below n) whose thing can go on -/
def nxp (r : Nat → Nat) (T : Nat) : Nat → Option Nat
  | 0 => none
  | i + 1 => if r i + 1 < T then some i else nxp r T i
def nxr (r : Nat → Nat) (p : Nat) : Nat → Nat := fun j => if j < p then r j else r p + 1
theorem nxp_lt {r : Nat → Nat} {T : Nat} : ∀ {n p : Nat}, nxp r T n = some p → p < n ∧ r p + 1 < T
  | 0, _, h => by cases h
  | i + 1, p, h => by
    unfold nxp at h
    by_cases e : r i + 1 < T
    · rw [if_pos e] at h
      cases h
      exact ⟨by omega, e⟩
    · rw [if_neg e] at h
      have := nxp_lt h
      exact ⟨by omega, this.2⟩
/-- a row as a number -/
def vl (r : Nat → Nat) : Nat → Nat
  | 0 => 0
  | n + 1 => vl r n * 9 + r n
theorem vl_c {r r' : Nat → Nat} : ∀ {n : Nat}, (∀ j, j < n → r j = r' j) → vl r n = vl r' n
  | 0, _ => rfl
  | n + 1, h => by
    show vl r n * 9 + r n = vl r' n * 9 + r' n
    rw [vl_c (n := n) (fun j hj => h j (by omega)), h n (by omega)]
theorem vl_b {r : Nat → Nat} : ∀ {n : Nat}, (∀ j, j < n → r j ≤ 8) → vl r n + 1 ≤ 9 ^ n
  | 0, _ => Nat.le_refl _
  | n + 1, h => by
    have h1 := vl_b (r := r) (n := n) (fun j hj => h j (by omega))
    have h2 := h n (by omega)
    show vl r n * 9 + r n + 1 ≤ 9 ^ n * 9
    omega
theorem vl_n {r : Nat → Nat} {p : Nat} : ∀ {n : Nat}, p < n → (∀ j, j < n → r j ≤ 8) → vl r n + 1 ≤ vl (nxr r p) n
  | 0, h, _ => absurd h (by omega)
  | n + 1, h, hb => by
    show vl r n * 9 + r n + 1 ≤ vl (nxr r p) n * 9 + nxr r p n
    by_cases e : n = p
    · subst e
      rw [vl_c (r := nxr r n) (r' := r) (n := n) (fun j hj => if_pos hj)]
      have : nxr r n n = r n + 1 := if_neg (by omega)
      omega
    · have h1 := vl_n (r := r) (p := p) (n := n) (by omega) (fun j hj => hb j (by omega))
      have h2 := hb n (by omega)
      omega
/-- all rows from one on -/
def rit (T L : Nat) (f : (Nat → Nat) → bO → bO) : Nat → (Nat → Nat) → bO → bO
  | 0, _, b => b
  | K + 1, r, b => match nxp r T L with
    | none => f r b
    | some p => rit T L f K (nxr r p) (f r b)
def srt (r : Nat → Nat) (T L : Nat) : Prop := (∀ i, i < L → r i < T) ∧ (∀ i, i + 1 < L → r i ≤ r (i + 1))
theorem srt.n {r : Nat → Nat} {T L p : Nat} (h : srt r T L) (hp : nxp r T L = some p) : srt (nxr r p) T L := by
  obtain ⟨h1, h2⟩ := nxp_lt hp
  refine ⟨fun i hi => ?_, fun i hi => ?_⟩
  · unfold nxr
    split
    · exact h.1 i hi
    · exact h2
  · unfold nxr
    by_cases e1 : i + 1 < p
    · rw [if_pos (by omega), if_pos e1]; exact h.2 i hi
    · rw [if_neg e1]
      by_cases e2 : i < p
      · rw [if_pos e2]
        have e3 : i + 1 = p := by omega
        have := h.2 i hi
        rw [e3] at this
        omega
      · rw [if_neg e2]; exact Nat.le_refl _
section RW
variable {g k : Nat} {m : cM} {S : rS} {B : rB} {w : Nat → Int32} {q T W C Sa R : Nat} {x : Int32}
theorem p_l17b {r : Nat → Nat} {L p : Nat} {x2 v : Int32} (hL : L ≤ 4) (hv : v = nI (r p + 1)) : ∀ (j i n : Nat) (m : cM), i + j = L → p ≤ i → j + 1 ≤ n → (∀ d, d < L → d < i → m.1 74 d = nI (nxr r p d)) → ∃ m', l_17 g n 1 (nI L) x2 v (nI i) m = some (1, m') ∧ ms m m' ∧ (∀ a, a ≠ 74 → m'.1 a = m.1 a) ∧ (∀ d, d < L → m'.1 74 d = nI (nxr r p d)) := by
  intro j
  induction j with
  | zero =>
    intro i n m hi hp hn h
    obtain ⟨n, rfl⟩ : ∃ n', n = n' + 1 := ⟨n - 1, by omega⟩
    have e : i = L := by omega
    subst e
    refine ⟨m, ?_, ms.rf _, fun _ _ => rfl, fun d hd => h d hd hd⟩
    rw [l_17, if_neg (by decide), if_pos rfl, if_pos (Int32.le_refl _)]
  | succ j ih =>
    intro i n m hi hp hn h
    obtain ⟨n, rfl⟩ : ∃ n', n = n' + 1 := ⟨n - 1, by omega⟩
    obtain ⟨m', y1, y2, y3, y4⟩ := ih (i + 1) n (cW m 74 i v) (by omega) (by omega) (by omega) (by
      intro d hd hd2
      by_cases e : d = i
      · subst e
        rw [cW_s, hv]
        show _ = nI (if d < p then r d else r p + 1)
        rw [if_neg (by omega)]
      · rw [cW_k e]; exact h d hd (by omega))
    refine ⟨m', ?_, (ms.W (by omega)).tr y2, fun a ha => (y3 a ha).trans (cW_b ha), y4⟩
    rw [l_17]
    simp (disch := omega) only [Nat.one_ne_zero, if_true, if_false, k_leF, k_in, k_cl, Option.bind_some, lit_nI, nI_add]
    exact y1
/-- nextRow -/
theorem p_l17 {r : Nat → Nat} {L : Nat} (hL : L ≤ 4) (hO : cO m (m.2.2.1 5) 5 = true) (hT : m.1 (m.2.2.1 5) 4 = nI T) (hT8 : T ≤ 8) (hr : ∀ d, d < L → m.1 74 d = nI (r d) ∧ r d < T) : ∀ (i n : Nat), i ≤ L → i + L + 2 ≤ n → ∃ m', l_17 g n 0 (nI L) (nI i - nI 1) 0 0 m = some ((match nxp r T i with
    | none => 0
    | some _ => 1), m') ∧ ms m m' ∧ (∀ a, a ≠ 74 → m'.1 a = m.1 a) ∧ (match nxp r T i with
    | none => True
    | some p => ∀ d, d < L → m'.1 74 d = nI (nxr r p d)) := by
  intro i
  induction i with
  | zero =>
    intro n hi hn
    obtain ⟨n, rfl⟩ : ∃ n', n = n' + 1 := ⟨n - 1, by omega⟩
    refine ⟨m, ?_, ms.rf _, fun _ _ => rfl, trivial⟩
    rw [l_17, if_pos rfl, if_pos (by decide)]
    rfl
  | succ i ih =>
    intro n hi hn
    obtain ⟨n, rfl⟩ : ∃ n', n = n' + 1 := ⟨n - 1, by omega⟩
    obtain ⟨r1, r2⟩ := hr i (by omega)
    have e1 : nI (i + 1) - nI 1 = nI i := k_sub (by omega)
    have e2 : nxp r T (i + 1) = if r i + 1 < T then some i else nxp r T i := rfl
    rw [e1, e2, l_17]
    simp (disch := omega) only [if_true, lit_nI, k_ltF, if_false, k_in, k_cl, hO, hT, r1, nI_add]
    by_cases h : r i + 1 < T
    · obtain ⟨m', y1, y2, y3, y4⟩ := p_l17b (g := g) (r := r) (L := L) (p := i) (x2 := nI i) (v := nI (r i + 1)) hL rfl (L - i) i n m (by omega) (Nat.le_refl _) (by omega) (fun d hd hd2 => by
        show _ = nI (if d < i then r d else r i + 1)
        rw [if_pos hd2]; exact (hr d hd).1)
      rw [if_neg (nI_ge h (by omega)), if_pos h]
      exact ⟨m', y1, y2, y3, y4⟩
    · obtain ⟨m', y1, y2, y3, y4⟩ := ih n (by omega) (by omega)
      rw [if_pos (nI_le (by omega) (by omega)), if_neg h]
      refine ⟨m', ?_, y2, y3, y4⟩
      rw [← Int32.sub_eq_add_neg]
      exact y1
theorem p_17 {r : Nat → Nat} {L : Nat} (hg : 100 ≤ g) (hL : L ≤ 4) (hO : cO m (m.2.2.1 5) 5 = true) (hT : m.1 (m.2.2.1 5) 4 = nI T) (hT8 : T ≤ 8) (hr : ∀ d, d < L → m.1 74 d = nI (r d) ∧ r d < T) : ∃ m', d_17 g (nI L) m = some ((match nxp r T L with
    | none => 0
    | some _ => 1), m') ∧ ms m m' ∧ (∀ a, a ≠ 74 → m'.1 a = m.1 a) ∧ (match nxp r T L with
    | none => True
    | some p => ∀ d, d < L → m'.1 74 d = nI (nxr r p d)) := by
  unfold d_17
  exact p_l17 hL hO hT hT8 hr L g (Nat.le_refl _) (by omega)
/-- hasNextRow -/
theorem q_l237b {r : Nat → Nat} {L p : Nat} (hL : L ≤ 4) (hp : p < L) : ∀ (j i n : Nat) (S : rS), i + j = L → p + 1 ≤ i → j + 1 ≤ n → (∀ d, d < i → S.2.1 31 d = nI (nxr r p d)) → ∃ S', l_237 g n 2 (nI L) (nI p) (nI i) S = some (1, S') ∧ rc [] [31] S S' ∧ (∀ d, d < L → S'.2.1 31 d = nI (nxr r p d)) ∧ S'.2.2 = S.2.2 := by
  intro j
  induction j with
  | zero =>
    intro i n S hi hp2 hn h
    obtain ⟨n, rfl⟩ : ∃ n', n = n' + 1 := ⟨n - 1, by omega⟩
    have e : i = L := by omega
    subst e
    refine ⟨S, ?_, rc.rf _, h, rfl⟩
    rw [l_237, if_neg (by decide), if_neg (by decide), if_pos rfl, if_pos (Int32.le_refl _)]
  | succ j ih =>
    intro i n S hi hp2 hn h
    obtain ⟨n, rfl⟩ : ∃ n', n = n' + 1 := ⟨n - 1, by omega⟩
    have ep : S.2.1 31 p = nI (r p + 1) := by
      rw [h p (by omega)]
      show nI (if p < p then r p else r p + 1) = _
      rw [if_neg (by omega)]
    obtain ⟨S', y1, y2, y3, y4⟩ := ih (i + 1) n (rA S 31 (upd (S.2.1 31) i (nI (r p + 1)))) (by omega) (by omega) (by omega) (by
      intro d hd
      rw [rA_s]
      by_cases e : d = i
      · subst e
        rw [upd_s]
        show _ = nI (if d < p then r d else r p + 1)
        rw [if_neg (by omega)]
      · rw [upd_n e]; exact h d (by omega))
    refine ⟨S', ?_, (rc.A (by decide)).tr y2, y3, y4⟩
    rw [l_237]
    simp (disch := omega) only [Nat.reduceEqDiff, if_true, if_false, k_leF, k_in, k_cl, ep, lit_nI, nI_add]
    exact y1
theorem q_l237 {r : Nat → Nat} {L : Nat} (hL : L ≤ 4) (hT : S.2.1 20 1 = nI T) (hT1 : 1 ≤ T) (hT8 : T ≤ 8) (hr : ∀ d, d < L → S.2.1 31 d = nI (r d) ∧ r d < T) : ∀ (i n : Nat), i ≤ L → i + L + 3 ≤ n → ∃ S', l_237 g n 0 (nI L) (nI i - nI 1) 0 S = some ((match nxp r T i with
    | none => 0
    | some _ => 1), S') ∧ rc [] [31] S S' ∧ (match nxp r T i with
    | none => True
    | some p => ∀ d, d < L → S'.2.1 31 d = nI (nxr r p d)) ∧ S'.2.2 = S.2.2 := by
  intro i
  induction i with
  | zero =>
    intro n hi hn
    obtain ⟨n, rfl⟩ : ∃ n', n = n' + 2 := ⟨n - 2, by omega⟩
    refine ⟨S, ?_, rc.rf _, trivial, rfl⟩
    rw [l_237, if_pos rfl, if_pos (by decide), l_237, if_neg (by decide), if_pos rfl, if_neg (by decide)]
    rfl
  | succ i ih =>
    intro n hi hn
    obtain ⟨n, rfl⟩ : ∃ n', n = n' + 2 := ⟨n - 2, by omega⟩
    obtain ⟨r1, r2⟩ := hr i (by omega)
    have e1 : nI (i + 1) - nI 1 = nI i := k_sub (by omega)
    have e2 : nxp r T (i + 1) = if r i + 1 < T then some i else nxp r T i := rfl
    rw [e1, e2, l_237]
    simp (disch := omega) only [if_true, lit_nI, k_ltF, if_false, k_in, k_cl, hT, r1, k_sub, k_eq]
    by_cases h : r i + 1 < T
    · obtain ⟨S', y1, y2, y3, y4⟩ := q_l237b (g := g) (r := r) (L := L) (p := i) hL (by omega) (L - (i + 1)) (i + 1) n (rA S 31 (upd (S.2.1 31) i (nI (r i + 1)))) (by omega) (by omega) (by omega) (fun d hd => by
        rw [rA_s]
        show _ = nI (if d < i then r d else r i + 1)
        by_cases e : d = i
        · subst e; rw [upd_s, if_neg (by omega)]
        · rw [upd_n e, if_pos (by omega)]; exact (hr d (by omega)).1)
      rw [if_pos (by omega), if_pos h]
      refine ⟨S', ?_, (rc.A (by decide)).tr y2, y3, y4⟩
      rw [l_237]
      simp (disch := omega) only [Nat.one_ne_zero, if_true, if_false, lit_nI, k_leT, k_in, k_cl, r1, nI_add]
      exact y1
    · obtain ⟨S', y1, y2, y3, y4⟩ := ih (n + 1) (by omega) (by omega)
      rw [if_neg (show ¬ ¬ r i = T - 1 from fun z => z (by omega)), if_neg h]
      refine ⟨S', ?_, y2, y3, y4⟩
      rw [← Int32.sub_eq_add_neg]
      exact y1
theorem q_237 {r : Nat → Nat} {L : Nat} (hg : 100 ≤ g) (hL : L ≤ 4) (hT : S.2.1 20 1 = nI T) (hT1 : 1 ≤ T) (hT8 : T ≤ 8) (hr : ∀ d, d < L → S.2.1 31 d = nI (r d) ∧ r d < T) : ∃ S', d_237 g (nI L) S = some ((match nxp r T L with
    | none => 0
    | some _ => 1), S') ∧ rc [] [31] S S' ∧ (match nxp r T L with
    | none => True
    | some p => ∀ d, d < L → S'.2.1 31 d = nI (nxr r p d)) ∧ S'.2.2 = S.2.2 := by
  unfold d_237
  exact q_l237 hL hT hT1 hT8 hr L g (Nat.le_refl _) (by omega)
/-- firstRow -/
theorem p_l273 {a N : Nat} (ha : 71 ≤ a ∧ a ≤ 89) (hk : kd a = (0, N)) (hN : N ≤ 8) : ∀ (j i n : Nat) (m : cM), i + j = N → j + 1 ≤ n → (∀ d, d < i → m.1 a d = 0) → ∃ m', l_273 g n 0 a 0 (nI i) (nI N) m = some m' ∧ ms m m' ∧ (∀ b, b ≠ a → m'.1 b = m.1 b) ∧ (∀ d, d < N → m'.1 a d = 0) := by
  intro j
  induction j with
  | zero =>
    intro i n m hi hn h
    obtain ⟨n, rfl⟩ : ∃ n', n = n' + 1 := ⟨n - 1, by omega⟩
    have e : i = N := by omega
    subst e
    refine ⟨m, ?_, ms.rf _, fun _ _ => rfl, h⟩
    rw [l_273, if_pos rfl, if_pos (Int32.le_refl _)]
  | succ j ih =>
    intro i n m hi hn h
    obtain ⟨n, rfl⟩ : ∃ n', n = n' + 1 := ⟨n - 1, by omega⟩
    obtain ⟨m', y1, y2, y3, y4⟩ := ih (i + 1) n (cW m a i 0) (by omega) (by omega) (by
      intro d hd
      by_cases e : d = i
      · subst e; exact cW_s
      · rw [cW_k e]; exact h d (by omega))
    refine ⟨m', ?_, (ms.W ha).tr y2, fun b hb => (y3 b hb).trans (cW_b hb), y4⟩
    rw [l_273, if_pos rfl, if_neg (nI_ge (by omega) (by omega)), if_pos (cA_of (by omega) hk (by omega) (by omega)), Option.bind_some, k_cl (by omega), show nI i + 1 = nI (i + 1) from nI_1 i]
    exact y1
theorem p_273 {a N : Nat} (hg : 100 ≤ g) (ha : 71 ≤ a ∧ a ≤ 89) (hk : kd a = (0, N)) (hN : N ≤ 8) : ∃ m', d_273 g a 0 m = some m' ∧ ms m m' ∧ (∀ b, b ≠ a → m'.1 b = m.1 b) ∧ (∀ d, d < N → m'.1 a d = 0) := by
  unfold d_273
  have hE : cE m a = true := by
    unfold cE
    rw [hk]
    simp
    omega
  rw [if_pos hE, hk]
  exact p_l273 ha hk hN N 0 g m (by omega) (by omega) (fun d hd => absurd hd (by omega))
end RW
