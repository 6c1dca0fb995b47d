/-! READERS: the reference looks at the tape -/
theorem rF_id {S : rS} {k : Nat} {v : Int32} (h : S.1 k = v) : rF S k v = S := by
  have : upd S.1 k v = S.1 := by
    funext j
    by_cases e : j = k
    · rw [e, upd_s]; exact h.symm
    · exact upd_n e
  show (upd S.1 k v, S.2) = S
  rw [this]
theorem rF_rF {S : rS} {k : Nat} {v v' : Int32} : rF (rF S k v) k v' = rF S k v' := by
  have : upd (upd S.1 k v) k v' = upd S.1 k v' := by
    funext j
    by_cases e : j = k
    · rw [e, upd_s, upd_s]
    · rw [upd_n e, upd_n e, upd_n e]
  show (upd (upd S.1 k v) k v', S.2) = (upd S.1 k v', S.2)
  rw [this]
def rt (S : rS) (f : Nat → Int32) (n : Nat) : Prop := S.1 1 = nI n ∧ n ≤ 400 ∧ S.2.1 0 = f
theorem i64_push {v c : Nat} (hv : v < 281474976710656) (hc : c < 256) : (Int64.ofNat v <<< ((8 : Int32).toInt64 &&& 63)) ||| (nI c).toInt64 = Int64.ofNat (256 * v + c) := by
  have e8 : ((8 : Int32).toInt64 &&& 63) = 8 := by decide
  have ec : (nI c).toInt64 = Int64.ofNat c := by
    apply Int64.toInt_inj.mp
    rw [Int32.toInt_toInt64, nI_toInt (by omega), Int64.toInt_ofNat_of_lt (by omega)]
  rw [e8, ec]
  apply Int64.toBitVec_inj.mp
  rw [Int64.toBitVec_or, Int64.toBitVec_shiftLeft]
  show (BitVec.ofNat 64 v <<< _) ||| BitVec.ofNat 64 c = BitVec.ofNat 64 (256 * v + c)
  apply BitVec.eq_of_toNat_eq
  rw [BitVec.toNat_or]
  have h1 : (BitVec.ofNat 64 v <<< ((8 : Int64).toBitVec.smod 64)).toNat = 256 * v := by
    rw [show ((8 : Int64).toBitVec.smod 64) = 8#64 by decide]
    rw [BitVec.shiftLeft_eq', BitVec.toNat_shiftLeft, BitVec.toNat_ofNat, BitVec.toNat_ofNat, Nat.mod_eq_of_lt (show v < 2 ^ 64 by omega)]
    rw [show (8 : Nat) % 2 ^ 64 = 8 by decide, Nat.shiftLeft_eq, Nat.mod_eq_of_lt (by omega)]
    omega
  rw [h1, BitVec.toNat_ofNat, BitVec.toNat_ofNat, Nat.mod_eq_of_lt (show c < 2 ^ 64 by omega), Nat.mod_eq_of_lt (show 256 * v + c < 2 ^ 64 by omega)]
  have := Nat.shiftLeft_add_eq_or_of_lt (b := c) (i := 8) (by omega) v
  rw [Nat.shiftLeft_eq] at this
  rw [show 256 * v = v * 2 ^ 8 by omega, ← this]
theorem i64_inj {v u : Nat} (hv : v < 9223372036854775808) (hu : u < 9223372036854775808) : Int64.ofNat v = Int64.ofNat u ↔ v = u := by
  rw [← Int64.toInt_inj, Int64.toInt_ofNat_of_lt hv, Int64.toInt_ofNat_of_lt hu]
  omega
theorem wdC_b : ∀ j, j < 20 → wdC.getD j 0 < 9223372036854775808 := by decide
section RS
variable {g : Nat} {f : Nat → Int32} {n : Nat} {S : rS}
theorem rt.F {k : Nat} {v : Int32} (h : rt S f n) (hk : k ≠ 1) : rt (rF S k v) f n := ⟨(rF_n (fun e => hk e.symm)).trans h.1, h.2⟩
theorem q_l146 : ∀ (d p N : Nat) (S : rS), p + d = n → d + 2 ≤ N → rt S f n → S.1 8 = nI p → l_146 g N 0 S = some (if bl f n p < n then f (bl f n p) &&& 255 else -1, rF S 8 (nI (bl f n p))) := by
  have t1 : ∀ (a N : Nat) (S : rS), a ≤ n → rt S f n → S.1 8 = nI a → l_146 g (N + 1) 1 S = some (if a < n then f a &&& 255 else -1, S) := fun a N S ha ht h8 => by
    have hn := ht.2.1
    rw [l_146, if_neg (by decide), if_pos rfl, ht.1, h8]
    by_cases h : a < n
    · rw [if_neg (nI_ge h (by omega)), if_pos (k_in (show a < 400 by omega) (by omega)), k_cl (show a < 2147483648 by omega), ht.2.2, if_pos h]
    · rw [if_pos (nI_le (by omega) (by omega)), if_neg h]
  intro d
  induction d with
  | zero =>
    intro p N S hp hN ht h8
    obtain ⟨N, rfl⟩ : ∃ q, N = q + 2 := ⟨N - 2, by omega⟩
    have hn := ht.2.1
    have e : bl f n p = p := sc_stop (Or.inl (by omega))
    rw [e, rF_id h8, l_146, if_pos rfl, ht.1, h8, if_pos (nI_le (by omega) (by omega)), t1 p N S (by omega) ht h8]
  | succ d ih =>
    intro p N S hp hN ht h8
    obtain ⟨N, rfl⟩ : ∃ q, N = q + 2 := ⟨N - 2, by omega⟩
    have hn := ht.2.1
    rw [l_146, if_pos rfl, ht.1, h8, if_neg (nI_ge (by omega) (by omega)), if_pos (k_in (show p < 400 by omega) (by omega)), k_cl (show p < 2147483648 by omega), ht.2.2]
    by_cases hb : f p = 32
    · have e : bl f n p = bl f n (p + 1) := sc_step (show p < n by omega) (show isB f p = true from decide_eq_true hb)
      rw [if_neg (fun z => z hb), show nI p + 1 = nI (p + 1) from nI_1 p, ih (p + 1) (N + 1) _ (by omega) (by omega) (ht.F (by decide)) rF_s, e, rF_rF]
    · have e : bl f n p = p := sc_stop (Or.inr (decide_eq_false hb))
      rw [if_pos hb, e, rF_id h8, t1 p N S (by omega) ht h8]
/-- see -/
theorem q_146 {p : Nat} (hg : 1000 ≤ g) (ht : rt S f n) (hp : p ≤ n) (h8 : S.1 8 = nI p) : d_146 g S = some (if bl f n p < n then f (bl f n p) &&& 255 else -1, rF S 8 (nI (bl f n p))) := by
  have hn := ht.2.1
  unfold d_146
  exact q_l146 (n - p) p g S (by omega) (by omega) ht h8
theorem q_147 {p : Nat} (ht : rt S f n) (hp : p ≤ n) : d_147 g (nI p) S = some (if p < n ∧ isDg f p = true then 1 else 0, S) := by
  have hn := ht.2.1
  unfold d_147
  rw [ht.1]
  by_cases h : p < n
  · rw [if_neg (nI_ge h (by omega)), if_pos (k_in (show p < 400 by omega) (by omega)), k_cl (show p < 2147483648 by omega), ht.2.2, if_pos (k_in (show p < 400 by omega) (by omega))]
    by_cases hd : isDg f p = true
    · rw [if_pos (show p < n ∧ isDg f p = true from ⟨h, hd⟩)]
      unfold isDg at hd
      rw [Bool.and_eq_true] at hd
      rw [if_neg (Int32.not_lt.mpr (of_decide_eq_true hd.1)), if_neg (Int32.not_lt.mpr (of_decide_eq_true hd.2))]
    · rw [if_neg (show ¬ (p < n ∧ isDg f p = true) from fun z => hd z.2)]
      rcases isDg_F (by simpa using hd) with h1 | h1
      · rw [if_pos h1]
      · by_cases h3 : f p < 48
        · rw [if_pos h3]
        · rw [if_neg h3, if_pos h1]
  · rw [if_pos (nI_le (by omega) (by omega)), if_neg (show ¬ (p < n ∧ isDg f p = true) from fun z => h z.1)]
theorem q_148 {p : Nat} (ht : rt S f n) (hp : p ≤ n) : d_148 g (nI p) S = some (if p < n ∧ isLt f p = true then 1 else 0, S) := by
  have hn := ht.2.1
  unfold d_148
  rw [ht.1]
  by_cases h : p < n
  · rw [if_neg (nI_ge h (by omega)), if_pos (k_in (show p < 400 by omega) (by omega)), k_cl (show p < 2147483648 by omega), ht.2.2, if_pos (k_in (show p < 400 by omega) (by omega))]
    by_cases hd : isLt f p = true
    · rw [if_pos (show p < n ∧ isLt f p = true from ⟨h, hd⟩)]
      unfold isLt at hd
      rw [Bool.and_eq_true] at hd
      rw [if_neg (Int32.not_lt.mpr (of_decide_eq_true hd.1)), if_neg (Int32.not_lt.mpr (of_decide_eq_true hd.2))]
    · rw [if_neg (show ¬ (p < n ∧ isLt f p = true) from fun z => hd z.2)]
      rcases isLt_F (by simpa using hd) with h1 | h1
      · rw [if_pos h1]
      · by_cases h3 : f p < 97
        · rw [if_pos h3]
        · rw [if_neg h3, if_pos h1]
  · rw [if_pos (nI_le (by omega) (by omega)), if_neg (show ¬ (p < n ∧ isLt f p = true) from fun z => h z.1)]
theorem q_l149 {a j : Nat} {W : Int64} (hj : j < 20) (hW : W = Int64.ofNat (wdC.getD j 0)) (ht : rt S f n) (ha : a ≤ n) (h8 : S.1 8 = nI a) : ∀ (d i N : Nat) (w3 : Int64), a + i + d = sc (isLt f) n a → 2 * d + 1 ≤ N → (i < 8 → w3 = Int64.ofNat (wv f a i)) → l_149 g N 0 W w3 (nI i) S = some (if 1 ≤ sc (isLt f) n a - a ∧ sc (isLt f) n a - a < 8 ∧ wv f a (sc (isLt f) n a - a) = wdC.getD j 0 then 1 else 0, S) := by
  have hn := ht.2.1
  have hle := sc_le (P := isLt f) (n := n) (p := a) ha
  intro d
  induction d with
  | zero =>
    intro i N w3 hi hN hw
    obtain ⟨N, rfl⟩ : ∃ q, N = q + 1 := ⟨N - 1, by omega⟩
    have eL : sc (isLt f) n a - a = i := by omega
    have q148 := q_148 (g := g) (S := S) (p := a + i) ht (by omega)
    rw [if_neg (fun z => by
      have := sc_end (P := isLt f) (n := n) (p := a) ha (by omega)
      rw [show sc (isLt f) n a = a + i by omega, z.2] at this
      cases this)] at q148
    rw [eL, l_149, if_pos rfl, h8, show nI a + nI i = nI (a + i) from nI_add _ _, q148, Option.bind_some, if_pos rfl]
    by_cases h0 : i = 0
    · rw [if_pos (show nI i ≤ 0 by rw [h0]; exact Int32.le_refl _), if_neg (by omega)]
    · rw [if_neg (show ¬ nI i ≤ 0 from nI_ge (a := 0) (by omega) (by omega))]
      by_cases h7 : i < 8
      · have hb := vN_b (x := fun k => nN (f (a + k))) (k := i) (fun k hk => by
          obtain ⟨c, c1, c2, c3⟩ := isLt_of (sc_in (P := isLt f) (n := n) (p := a) (i := a + k) (by omega) (by omega))
          show nN (f (a + k)) ≤ 255
          rw [c3, n_cl (by omega)]
          omega)
        have hb2 : 256 ^ i ≤ 256 ^ 7 := Nat.pow_le_pow_right (by decide) (by omega)
        have hb3 : wv f a i < 9223372036854775808 := by
          show vN (fun k => nN (f (a + k))) i < _
          omega
        rw [if_neg (show ¬ (8 : Int32) ≤ nI i from nI_ge (b := 8) h7 (by omega)), hw h7, hW]
        simp only [lg_cmp_eq, i64_inj hb3 (wdC_b j hj)]
        by_cases hv : wv f a i = wdC.getD j 0
        · rw [if_neg (fun z => z hv), if_pos ⟨by omega, h7, hv⟩]
        · rw [if_pos hv, if_neg (fun z => hv z.2.2)]
      · rw [if_pos (show (8 : Int32) ≤ nI i from nI_le (a := 8) (by omega) (by omega)), if_neg (by omega)]
  | succ d ih =>
    intro i N w3 hi hN hw
    obtain ⟨N, rfl⟩ : ∃ q, N = q + 2 := ⟨N - 2, by omega⟩
    have hlt := sc_in (P := isLt f) (n := n) (p := a) (i := a + i) (by omega) (by omega)
    obtain ⟨c, c1, c2, c3⟩ := isLt_of hlt
    have q148 := q_148 (g := g) (S := S) (p := a + i) ht (by omega)
    rw [if_pos ⟨by omega, hlt⟩] at q148
    have t1 : ∀ w4 : Int64, l_149 g (N + 1) 1 W w4 (nI i) S = l_149 g N 0 W w4 (nI (i + 1)) S := fun w4 => by
      rw [l_149, if_neg (by decide), if_pos rfl, show nI i + 1 = nI (i + 1) from nI_1 i]
    rw [l_149, if_pos rfl, h8, show nI a + nI i = nI (a + i) from nI_add _ _, q148, Option.bind_some, if_neg (show ¬ (1 : Int32) = 0 by decide)]
    by_cases h7 : i < 8
    · rw [if_neg (show ¬ (8 : Int32) ≤ nI i from nI_ge (b := 8) h7 (by omega))]
      show (if aIn (S.1 8 + nI i) 400 = true then l_149 g (N + 1) 1 W ((w3 <<< ((8 : Int32).toInt64 &&& 63)) ||| ((S.2.1 0) (S.1 8 + nI i).toNatClampNeg).toInt64) (nI i) S else none) = _
      rw [h8, show nI a + nI i = nI (a + i) from nI_add _ _, if_pos (k_in (show a + i < 400 by omega) (by omega)), k_cl (show a + i < 2147483648 by omega), t1]
      refine ih (i + 1) N _ (by omega) (by omega) (fun h => ?_)
      have hb := vN_b (x := fun k => nN (f (a + k))) (k := i) (fun k hk => by
        obtain ⟨c, c1, c2, c3⟩ := isLt_of (sc_in (P := isLt f) (n := n) (p := a) (i := a + k) (by omega) (by omega))
        show nN (f (a + k)) ≤ 255
        rw [c3, n_cl (by omega)]
        omega)
      have hb2 : 256 ^ i ≤ 256 ^ 6 := Nat.pow_le_pow_right (by decide) (by omega)
      have hb3 : wv f a i < 281474976710656 := by
        show vN (fun k => nN (f (a + k))) i < _
        omega
      rw [hw h7, ht.2.2, c3, i64_push hb3 (by omega)]
      show _ = Int64.ofNat (256 * wv f a i + nN (f (a + i)))
      rw [c3, n_cl (by omega)]
    · rw [if_pos (show (8 : Int32) ≤ nI i from nI_le (a := 8) (by omega) (by omega)), t1]
      exact ih (i + 1) N w3 (by omega) (by omega) (fun h => absurd h (by omega))
/-- isWord -/
theorem q_149 {p j : Nat} {W : Int64} (hg : 1000 ≤ g) (hj : j < 20) (hW : W = Int64.ofNat (wdC.getD j 0)) (ht : rt S f n) (hp : p ≤ n) (h8 : S.1 8 = nI p) : d_149 g W S = some (if tkn f n (bl f n p) = j then 1 else 0, rF S 8 (nI (bl f n p))) := by
  have hn := ht.2.1
  have hle : bl f n p ≤ n := sc_le hp
  obtain ⟨a, ha⟩ : ∃ a, a = bl f n p := ⟨_, rfl⟩
  unfold d_149
  rw [q_146 hg ht hp h8, Option.bind_some]
  rw [← ha] at hle ⊢
  have hge := sc_ge (P := isLt f) (n := n) (p := a)
  have hle2 := sc_le (P := isLt f) (n := n) (p := a) hle
  have h := q_l149 (g := g) (S := rF S 8 (nI a)) (a := a) (j := j) (W := W) hj hW (ht.F (by decide)) hle rF_s (sc (isLt f) n a - a) 0 g 0 (by omega) (by omega) (fun _ => rfl)
  refine Eq.trans h ?_
  have iff : (1 ≤ sc (isLt f) n a - a ∧ sc (isLt f) n a - a < 8 ∧ wv f a (sc (isLt f) n a - a) = wdC.getD j 0) ↔ tkn f n a = j := by
    rw [tkn_w hj]
    refine ⟨fun z => ⟨by omega, sc_in (P := isLt f) (n := n) (p := a) (Nat.le_refl _) (by omega), z.2⟩, fun z => ⟨?_, z.2.2⟩⟩
    have := sc_lt z.1 z.2.1
    omega
  by_cases e : tkn f n a = j
  · rw [if_pos (iff.mpr e), if_pos e]
  · rw [if_neg (fun z => e (iff.mp z)), if_neg e]
theorem q_l150 : ∀ (d p N : Nat) (S : rS), p + d = sc (isLt f) n p → d + 1 ≤ N → rt S f n → p ≤ n → S.1 8 = nI p → l_150 g N 0 S = some (rF S 8 (nI (sc (isLt f) n p))) := by
  intro d
  induction d with
  | zero =>
    intro p N S hp hN ht hpn h8
    obtain ⟨N, rfl⟩ : ∃ q, N = q + 1 := ⟨N - 1, by omega⟩
    have q148 := q_148 (g := g) (S := S) (p := p) ht hpn
    rw [if_neg (fun z => by have := sc_lt z.1 z.2; omega)] at q148
    have e : sc (isLt f) n p = p := by omega
    rw [e, rF_id h8, l_150, if_pos rfl, h8, q148, Option.bind_some, if_pos rfl]
  | succ d ih =>
    intro p N S hp hN ht hpn h8
    obtain ⟨N, rfl⟩ : ∃ q, N = q + 1 := ⟨N - 1, by omega⟩
    have hle := sc_le (P := isLt f) (n := n) (p := p) hpn
    have hl := sc_in (P := isLt f) (n := n) (p := p) (i := p) (Nat.le_refl _) (by omega)
    have q148 := q_148 (g := g) (S := S) (p := p) ht hpn
    rw [if_pos ⟨by omega, hl⟩] at q148
    have e := sc_step (P := isLt f) (n := n) (p := p) (by omega) hl
    rw [l_150, if_pos rfl, h8, q148, Option.bind_some, if_neg (show ¬ (1 : Int32) = 0 by decide)]
    show l_150 g N 0 (rF S 8 (S.1 8 + 1)) = _
    rw [h8, show nI p + 1 = nI (p + 1) from nI_1 p, ih (p + 1) N _ (by omega) (by omega) (ht.F (by decide)) (by omega) rF_s, e, rF_rF]
/-- passWord -/
theorem q_150 {p : Nat} (hg : 1000 ≤ g) (ht : rt S f n) (hp : p ≤ n) (h8 : S.1 8 = nI p) : d_150 g S = some (rF S 8 (nI (sc (isLt f) n p))) := by
  have hn := ht.2.1
  have hge := sc_ge (P := isLt f) (n := n) (p := p)
  have hle := sc_le (P := isLt f) (n := n) (p := p) hp
  unfold d_150
  exact q_l150 (sc (isLt f) n p - p) p g S (by omega) (by omega) ht hp h8
theorem q_145 {x1 x2 : Int32} (h : S.1 9 = 0) : d_145 g x1 x2 S = some (0, rF S 9 ((1 + (8 * x2)) + x1)) := by
  unfold d_145
  rw [if_neg (fun z => z h)]
/-- numberHere, of a number -/
theorem q_l152 {a : Nat} {xl xh : Int32} : ∀ (d i N : Nat) (S : rS), a + i + d = sc (isDg f) n a → 2 * d + 4 ≤ N → rt S f n → a ≤ n → S.1 8 = nI (a + i) → S.1 9 = 0 → l_152 g N 0 xl xh (nI a) (nI (dv f a (if i ≤ 5 then i else 5))) S = (if sc (isDg f) n a - a ≤ 5 ∧ xl ≤ nI (dv f a (sc (isDg f) n a - a)) ∧ nI (dv f a (sc (isDg f) n a - a)) ≤ xh then some (1, rF (rF S 8 (nI (sc (isDg f) n a))) 10 (nI (dv f a (sc (isDg f) n a - a)))) else some (0, rF (rF (rF S 8 (nI (sc (isDg f) n a))) 10 (nI (dv f a (if sc (isDg f) n a - a ≤ 5 then sc (isDg f) n a - a else 5)))) 9 (nI (1 + 8 * a + 1)))) := by
  intro d
  induction d with
  | zero =>
    intro i N S hi hN ht ha h8 h9
    obtain ⟨N, rfl⟩ : ∃ q, N = q + 3 := ⟨N - 3, by omega⟩
    have hn := ht.2.1
    have hle := sc_le (P := isDg f) (n := n) (p := a) ha
    have eL : sc (isDg f) n a - a = i := by omega
    have eS : sc (isDg f) n a = a + i := by omega
    have q147 := q_147 (g := g) (S := S) (p := a + i) ht (by omega)
    rw [if_neg (fun z => by
      have := sc_end (P := isDg f) (n := n) (p := a) ha (by omega)
      rw [eS, z.2] at this
      cases this)] at q147
    have t2 : ∀ S1 : rS, S1.1 9 = 0 → ∀ y : Int32, l_152 g (N + 2) 2 xl xh (nI a) y S1 = some (0, rF S1 9 (nI (1 + 8 * a + 1))) := fun S1 h y => by
      have e : (1 : Int32) + 8 * nI a + 1 = nI (1 + 8 * a + 1) := by
        rw [show (8 : Int32) = nI 8 from rfl, show (1 : Int32) = nI 1 from rfl, pk_mul, nI_add, nI_add]
      rw [l_152, if_neg (by decide), if_neg (by decide), if_pos rfl, q_145 h, Option.bind_some, if_pos rfl, e]
    rw [eL, eS, rF_id h8, l_152, if_pos rfl, h8, q147, Option.bind_some, if_pos rfl]
    show (if 5 < S.1 8 - nI a then l_152 g (N + 2) 2 xl xh (nI a) (nI (dv f a (if i ≤ 5 then i else 5))) (rF S 10 (nI (dv f a (if i ≤ 5 then i else 5)))) else _) = _
    rw [h8, k_sub (show a ≤ a + i by omega), Nat.add_sub_cancel_left]
    by_cases h5 : i ≤ 5
    · rw [if_neg (show ¬ (5 : Int32) < nI i from nI_nlt (a := 5) h5 (by omega)), if_pos h5, q_140 rfl rfl, Option.bind_some]
      by_cases hr : xl ≤ nI (dv f a i) ∧ nI (dv f a i) ≤ xh
      · rw [if_pos hr, if_pos (show ¬ (1 : Int32) = 0 by decide), if_pos ⟨h5, hr⟩, l_152, if_neg (by decide), if_neg (by decide), if_neg (by decide), if_pos rfl]
      · rw [if_neg hr, if_neg (show ¬ ¬ (0 : Int32) = 0 from fun z => z rfl), if_neg (fun z => hr z.2)]
        exact t2 _ (by show (rF S 10 _).1 9 = 0; rw [rF_n (by decide)]; exact h9) _
    · rw [if_pos (show (5 : Int32) < nI i from nI_lt (a := 5) (by omega) (by omega)), if_neg h5, if_neg (fun z => h5 z.1)]
      exact t2 _ (by show (rF S 10 _).1 9 = 0; rw [rF_n (by decide)]; exact h9) _
  | succ d ih =>
    intro i N S hi hN ht ha h8 h9
    obtain ⟨N, rfl⟩ : ∃ q, N = q + 2 := ⟨N - 2, by omega⟩
    have hn := ht.2.1
    have hle := sc_le (P := isDg f) (n := n) (p := a) ha
    have hd := sc_in (P := isDg f) (n := n) (p := a) (i := a + i) (by omega) (by omega)
    obtain ⟨c, c1, c2⟩ := isDg_of hd
    have q147 := q_147 (g := g) (S := S) (p := a + i) ht (by omega)
    rw [if_pos ⟨by omega, hd⟩] at q147
    have t1 : ∀ y : Int32, l_152 g (N + 1) 1 xl xh (nI a) y S = l_152 g N 0 xl xh (nI a) y (rF S 8 (nI (a + (i + 1)))) := fun y => by
      rw [l_152, if_neg (by decide), if_pos rfl, h8, show nI (a + i) + 1 = nI (a + (i + 1)) from nI_1 (a + i)]
    have step := ih (i + 1) N (rF S 8 (nI (a + (i + 1)))) (by omega) (by omega) (ht.F (by decide)) ha rF_s (by rw [rF_n (by decide)]; exact h9)
    rw [rF_rF] at step
    rw [l_152, if_pos rfl, h8, q147, Option.bind_some, if_neg (show ¬ (1 : Int32) = 0 by decide)]
    show (if 5 ≤ S.1 8 - nI a then l_152 g (N + 1) 1 xl xh (nI a) (nI (dv f a (if i ≤ 5 then i else 5))) S else if aIn (S.1 8) 400 = true then l_152 g (N + 1) 1 xl xh (nI a) (10 * nI (dv f a (if i ≤ 5 then i else 5)) + (S.2.1 0) (S.1 8).toNatClampNeg - 48) S else none) = _
    rw [h8, k_sub (show a ≤ a + i by omega), Nat.add_sub_cancel_left]
    by_cases h5 : 5 ≤ i
    · rw [if_pos (show (5 : Int32) ≤ nI i from nI_le (a := 5) h5 (by omega)), t1]
      rw [if_neg (show ¬ i + 1 ≤ 5 by omega)] at step
      have e5 : (if i ≤ 5 then i else 5) = 5 := by split <;> omega
      rw [e5]
      exact step
    · rw [if_neg (show ¬ (5 : Int32) ≤ nI i from nI_ge (b := 5) (by omega) (by omega)), if_pos (k_in (show a + i < 400 by omega) (by omega)), k_cl (show a + i < 2147483648 by omega), t1, if_pos (show i ≤ 5 by omega)]
      rw [if_pos (show i + 1 ≤ 5 by omega)] at step
      have ev : 10 * nI (dv f a i) + (S.2.1 0) (a + i) - 48 = nI (dv f a (i + 1)) := by
        show nI 10 * nI (dv f a i) + (S.2.1 0) (a + i) - nI 48 = nI (10 * dv f a i + (nN (f (a + i)) - 48))
        rw [ht.2.2, c2, pk_mul, nI_add, k_sub (by omega), n_cl (by omega)]
        congr 1
        omega
      rw [ev]
      exact step
end RS
