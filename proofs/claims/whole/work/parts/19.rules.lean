/-! RULES FOR RUNS OF THE PURE MACHINE -/
/-- one step, the rest given -/
def aGo (X : aX) (go : Nat → Nat → Nat → aL → List Value → aH → Option (Option Value × aH)) (d M pc : Nat) (lv : aL) (st : List Value) (h : aH) : Option (Option Value × aH) := match aIns M pc with
  | none => none
  | some r => match aStep X r pc lv st h with
    | none => none
    | some (.inl q) => go d M q.1 q.2.1 q.2.2.1 q.2.2.2
    | some (.inr (.inl q)) => some q
    | some (.inr (.inr (M', vs, q))) => match d with
      | 0 => none
      | d' + 1 => match aMs[M']? with
        | none => none
        | some y => if (aEntry vs).length ≤ y.2.2.1 then match go d' M' 0 (aEntL vs y.2.2.1) [] q.2.2.2 with
          | none => none
          | some (v, h') => go (d' + 1) M q.1 q.2.1 (v.toList ++ q.2.2.1) h'
          else none
theorem aRun_s (X : aX) (n d M pc : Nat) (lv : aL) (st : List Value) (h : aH) : aRun X (n + 1) d M pc lv st h = aGo X (aRun X n) d M pc lv st h := by
  rw [aRun]
  rfl
theorem aRun_le {X : aX} : ∀ (n d M pc : Nat) (lv : aL) (st : List Value) (h : aH) (z : Option Value × aH) (n' d' : Nat), n ≤ n' → d ≤ d' → aRun X n d M pc lv st h = some z → aRun X n' d' M pc lv st h = some z := by
  intro n
  induction n with
  | zero => intro d M pc lv st h z n' d' _ _ hr; cases hr
  | succ n ih =>
    intro d M pc lv st h z n' d' hn hd hr
    obtain ⟨k, rfl⟩ : ∃ k, n' = k + 1 := ⟨n' - 1, by omega⟩
    have hk : n ≤ k := by omega
    rw [aRun_s] at hr ⊢
    unfold aGo at hr ⊢
    cases hi : aIns M pc with
    | none => rw [hi] at hr; cases hr
    | some r =>
      rw [hi] at hr
      simp only at hr ⊢
      cases hs : aStep X r pc lv st h with
      | none => rw [hs] at hr; cases hr
      | some w =>
        rw [hs] at hr
        rcases w with q | q | ⟨M', vs, q⟩
        · exact ih _ _ _ _ _ _ _ _ _ hk hd hr
        · exact hr
        · cases d with
          | zero => cases hr
          | succ e =>
            obtain ⟨e', rfl⟩ : ∃ e', d' = e' + 1 := ⟨d' - 1, by omega⟩
            have he : e ≤ e' := by omega
            simp only at hr ⊢
            cases hM : aMs[M']? with
            | none => rw [hM] at hr; cases hr
            | some y =>
              rw [hM] at hr
              simp only at hr ⊢
              by_cases hen : (aEntry vs).length ≤ y.2.2.1
              · rw [if_pos hen] at hr ⊢
                cases hr1 : aRun X n e M' 0 (aEntL vs y.2.2.1) [] q.2.2.2 with
                | none => rw [hr1] at hr; cases hr
                | some w =>
                  obtain ⟨v1, h1⟩ := w
                  rw [hr1] at hr
                  rw [ih _ _ _ _ _ _ _ _ _ hk he hr1]
                  exact ih _ _ _ _ _ _ _ _ _ hk hd hr
              · rw [if_neg hen] at hr
                cases hr
def aWp (X : aX) (d M pc : Nat) (lv : aL) (st : List Value) (h : aH) (Q : Option Value → aH → Prop) : Prop := ∃ (n : Nat) (v : Option Value) (h' : aH), aRun X n d M pc lv st h = some (v, h') ∧ Q v h'
section R19
variable {X : aX} {d M pc : Nat} {lv : aL} {st : List Value} {h : aH} {Q : Option Value → aH → Prop}
theorem aWp.post {Q' : Option Value → aH → Prop} (k : aWp X d M pc lv st h Q') (hq : ∀ v h', Q' v h' → Q v h') : aWp X d M pc lv st h Q := by
  obtain ⟨n, v, h', h1, h2⟩ := k
  exact ⟨n, v, h', h1, hq v h' h2⟩
theorem aWp.deep {e : Nat} (k : aWp X e M pc lv st h Q) (he : e ≤ d) : aWp X d M pc lv st h Q := by
  obtain ⟨n, v, h', h1, h2⟩ := k
  exact ⟨n, v, h', aRun_le _ _ _ _ _ _ _ _ _ _ (Nat.le_refl _) he h1, h2⟩
theorem wp_step {r : aI} (q : aF) (hi : aIns M pc = some r) (hs : aStep X r pc lv st h = some (.inl q)) (k : aWp X d M q.1 q.2.1 q.2.2.1 q.2.2.2 Q) : aWp X d M pc lv st h Q := by
  obtain ⟨n, v, h', h1, h2⟩ := k
  refine ⟨n + 1, v, h', ?_, h2⟩
  rw [aRun_s]
  simp only [aGo, hi, hs]
  exact h1
theorem wp_ret {r : aI} {v : Option Value} {h' : aH} (hi : aIns M pc = some r) (hs : aStep X r pc lv st h = some (.inr (.inl (v, h')))) (hq : Q v h') : aWp X d M pc lv st h Q := by
  refine ⟨1, v, h', ?_, hq⟩
  rw [aRun_s]
  simp only [aGo, hi, hs]
theorem wp_call {r : aI} {M' : Nat} {vs : List Value} {y : aMt} {Qc : Option Value → aH → Prop} (q : aF) (hi : aIns M pc = some r) (hs : aStep X r pc lv st h = some (.inr (.inr (M', vs, q)))) (hM : aMs[M']? = some y) (hen : (aEntry vs).length ≤ y.2.2.1) (hc : aWp X d M' 0 (aEntL vs y.2.2.1) [] q.2.2.2 Qc) (k : ∀ v h', Qc v h' → aWp X (d + 1) M q.1 q.2.1 (v.toList ++ q.2.2.1) h' Q) : aWp X (d + 1) M pc lv st h Q := by
  obtain ⟨n1, v1, h1, e1, e2⟩ := hc
  obtain ⟨n2, v2, h2, f1, f2⟩ := k v1 h1 e2
  refine ⟨max n1 n2 + 1, v2, h2, ?_, f2⟩
  rw [aRun_s]
  simp only [aGo, hi, hs, hM]
  rw [if_pos hen, aRun_le _ _ _ _ _ _ _ _ _ _ (Nat.le_max_left n1 n2) (Nat.le_refl _) e1]
  exact aRun_le _ _ _ _ _ _ _ _ _ _ (Nat.le_max_right n1 n2) (Nat.le_refl _) f1
theorem wp_br {r : aI} {b : Bool} (p1 p2 : Nat) (lv' : aL) (st' : List Value) (h' : aH) (hi : aIns M pc = some r) (hs : aStep X r pc lv st h = some (.inl (if b = true then p1 else p2, lv', st', h'))) (k1 : b = true → aWp X d M p1 lv' st' h' Q) (k2 : b = false → aWp X d M p2 lv' st' h' Q) : aWp X d M pc lv st h Q := by
  cases b with
  | true => exact wp_step _ hi hs (k1 rfl)
  | false => exact wp_step _ hi hs (k2 rfl)
end R19
section R19b
variable {X : aX} {d M pc : Nat} {lv : aL} {t : List Value} {h : aH} {Q : Option Value → aH → Prop} {len a1 b1 : Nat} {v1 : Value}
theorem wp_get {i a ci k : Nat} {fs : List Value} {v : Value} (p' : Nat) (hp : pc + 3 = p') (hi : aIns M pc = some (.getfield i, len, ci, k, v1)) (hc : h[a]? = some (.inr (ci, fs))) (hv : fs[k]? = some v) (kk : aWp X d M p' lv (v :: t) h Q) : aWp X d M pc lv (.ref a :: t) h Q := by
  subst hp
  refine wp_step (pc + 3, lv, v :: t, h) hi ?_ kk
  simp only [aStep, a_get, hc, hv, if_true]
theorem wp_put {i a ci k : Nat} {fs : List Value} {v : Value} (p' : Nat) (hp : pc + 3 = p') (hi : aIns M pc = some (.putfield i, len, ci, k, v1)) (hc : h[a]? = some (.inr (ci, fs))) (hk : k < fs.length) (hok : okV (clsTy ci k) v = true) (kk : aWp X d M p' lv t (h.set a (.inr (ci, fs.set k v))) Q) : aWp X d M pc lv (v :: .ref a :: t) h Q := by
  subst hp
  refine wp_step (pc + 3, lv, t, h.set a (.inr (ci, fs.set k v))) hi ?_ kk
  simp only [aStep, a_put, hc, hk, hok, and_self, if_true]
theorem wp_iald {a n : Nat} {i : Int32} {f : Nat → Int32} (p' : Nat) (hp : pc + 1 = p') (hi : aIns M pc = some (.iaload, len, a1, b1, v1)) (hc : h[a]? = some (.inl (0, n, .inl f))) (hin : aIn i n = true) (kk : aWp X d M p' lv (.int (f i.toNatClampNeg) :: t) h Q) : aWp X d M pc lv (.int i :: .ref a :: t) h Q := by
  subst hp
  refine wp_step (pc + 1, lv, .int (f i.toNatClampNeg) :: t, h) hi ?_ kk
  simp only [aStep, a_iald, hc, hin, and_self, if_true]
theorem wp_sld {i : Int32} (p' : Nat) (hp : pc + 1 = p') (hi : aIns M pc = some (.iaload, len, a1, b1, v1)) (hin : aIn i X.1 = true) (kk : aWp X d M p' lv (.int (X.2 i.toNatClampNeg) :: t) h Q) : aWp X d M pc lv (.int i :: .float 1 :: t) h Q := by
  subst hp
  refine wp_step (pc + 1, lv, .int (X.2 i.toNatClampNeg) :: t, h) hi ?_ kk
  simp only [aStep, a_iald, hin, and_self, if_true]
theorem wp_bald {a n : Nat} {i : Int32} {f : Nat → Int32} (p' : Nat) (hp : pc + 1 = p') (hi : aIns M pc = some (.baload, len, a1, b1, v1)) {tag : Nat} (ht : tag = 1 ∨ tag = 2) (hc : h[a]? = some (.inl (tag, n, .inl f))) (hin : aIn i n = true) (kk : aWp X d M p' lv (.int (f i.toNatClampNeg) :: t) h Q) : aWp X d M pc lv (.int i :: .ref a :: t) h Q := by
  subst hp
  refine wp_step (pc + 1, lv, .int (f i.toNatClampNeg) :: t, h) hi ?_ kk
  simp only [aStep, a_bald, hc, hin, ht, and_self, if_true]
theorem wp_lald {a n : Nat} {i : Int32} {f : Nat → Int64} (p' : Nat) (hp : pc + 1 = p') (hi : aIns M pc = some (.laload, len, a1, b1, v1)) (hc : h[a]? = some (.inl (3, n, .inr (.inl f)))) (hin : aIn i n = true) (kk : aWp X d M p' lv (.long (f i.toNatClampNeg) :: t) h Q) : aWp X d M pc lv (.int i :: .ref a :: t) h Q := by
  subst hp
  refine wp_step (pc + 1, lv, .long (f i.toNatClampNeg) :: t, h) hi ?_ kk
  simp only [aStep, a_lald, hc, hin, and_self, if_true]
theorem wp_aald {a n tag q : Nat} {i : Int32} {f : Nat → Option Nat} (p' : Nat) (hp : pc + 1 = p') (hi : aIns M pc = some (.aaload, len, a1, b1, v1)) (hc : h[a]? = some (.inl (tag, n, .inr (.inr (.inr (.inr f)))))) (ht : 4 ≤ tag ∧ tag ≤ 6) (hin : aIn i n = true) (hf : f i.toNatClampNeg = some q) (kk : aWp X d M p' lv (.ref q :: t) h Q) : aWp X d M pc lv (.int i :: .ref a :: t) h Q := by
  subst hp
  refine wp_step (pc + 1, lv, .ref q :: t, h) hi ?_ kk
  simp only [aStep, a_aald, hc, hin, ht, hf, and_self, if_true]
theorem wp_iast {a n : Nat} {i x : Int32} {f : Nat → Int32} (p' : Nat) (hp : pc + 1 = p') (hi : aIns M pc = some (.iastore, len, a1, b1, v1)) (hc : h[a]? = some (.inl (0, n, .inl f))) (hin : aIn i n = true) (kk : aWp X d M p' lv t (h.set a (.inl (0, n, .inl (upd f i.toNatClampNeg x)))) Q) : aWp X d M pc lv (.int x :: .int i :: .ref a :: t) h Q := by
  subst hp
  refine wp_step (pc + 1, lv, t, h.set a (.inl (0, n, .inl (upd f i.toNatClampNeg x)))) hi ?_ kk
  simp only [aStep, a_iast, hc, hin, and_self, if_true]
theorem wp_bast {a n : Nat} {i x : Int32} {f : Nat → Int32} (p' : Nat) (hp : pc + 1 = p') (hi : aIns M pc = some (.bastore, len, a1, b1, v1)) (hc : h[a]? = some (.inl (1, n, .inl f))) (hin : aIn i n = true) (kk : aWp X d M p' lv t (h.set a (.inl (1, n, .inl (upd f i.toNatClampNeg (vp_nar .byte x))))) Q) : aWp X d M pc lv (.int x :: .int i :: .ref a :: t) h Q := by
  subst hp
  refine wp_step (pc + 1, lv, t, h.set a (.inl (1, n, .inl (upd f i.toNatClampNeg (vp_nar .byte x))))) hi ?_ kk
  simp only [aStep, a_bast, hc, hin, and_self, if_true]
theorem wp_zast {a n : Nat} {i x : Int32} {f : Nat → Int32} (p' : Nat) (hp : pc + 1 = p') (hi : aIns M pc = some (.bastore, len, a1, b1, v1)) (hc : h[a]? = some (.inl (2, n, .inl f))) (hin : aIn i n = true) (kk : aWp X d M p' lv t (h.set a (.inl (2, n, .inl (upd f i.toNatClampNeg (vp_nar .boolean x))))) Q) : aWp X d M pc lv (.int x :: .int i :: .ref a :: t) h Q := by
  subst hp
  refine wp_step (pc + 1, lv, t, h.set a (.inl (2, n, .inl (upd f i.toNatClampNeg (vp_nar .boolean x))))) hi ?_ kk
  have h12 : ¬ (2 = 1 ∧ True) := fun z => absurd z.1 (by decide)
  simp only [aStep, a_bast, hc, hin]
  rw [if_neg (by simp), if_pos (by simp)]
theorem wp_last {a n : Nat} {i : Int32} {x : Int64} {f : Nat → Int64} (p' : Nat) (hp : pc + 1 = p') (hi : aIns M pc = some (.lastore, len, a1, b1, v1)) (hc : h[a]? = some (.inl (3, n, .inr (.inl f)))) (hin : aIn i n = true) (kk : aWp X d M p' lv t (h.set a (.inl (3, n, .inr (.inl (vp_updL f i.toNatClampNeg x))))) Q) : aWp X d M pc lv (.long x :: .int i :: .ref a :: t) h Q := by
  subst hp
  refine wp_step (pc + 1, lv, t, h.set a (.inl (3, n, .inr (.inl (vp_updL f i.toNatClampNeg x))))) hi ?_ kk
  simp only [aStep, a_last, hc, hin, and_self, if_true]
theorem wp_alen {a n tag : Nat} {x : (Nat → Int32) ⊕ (Nat → Int64) ⊕ (Nat → UInt32) ⊕ (Nat → UInt64) ⊕ (Nat → Option Nat)} (p' : Nat) (hp : pc + 1 = p') (hi : aIns M pc = some (.arraylength, len, a1, b1, v1)) (hc : h[a]? = some (.inl (tag, n, x))) (ht : tag ≤ 6) (kk : aWp X d M p' lv (.int (Int32.ofNat n) :: t) h Q) : aWp X d M pc lv (.ref a :: t) h Q := by
  subst hp
  refine wp_step (pc + 1, lv, .int (Int32.ofNat n) :: t, h) hi ?_ kk
  simp only [aStep, a_alen, hc, ht, if_true]
theorem wp_tsw {dflt hi' off : Int} {offs : Array Int} {x : Int32} {j : Nat} (tgt : Nat) (hi : aIns M pc = some (.tableswitch dflt 0 hi' offs, len, a1, b1, v1)) (hx : x.toInt = (j : Int)) (hj : (j : Int) ≤ hi') (ho : offs[j]? = some off) (ht : ((pc : Int) + off).toNat = tgt) (kk : aWp X d M tgt lv t h Q) : aWp X d M pc lv (.int x :: t) h Q := by
  subst ht
  refine wp_step (((pc : Int) + off).toNat, lv, t, h) hi ?_ kk
  simp only [aStep, a_tsw, hx]
  rw [if_neg (by omega)]
  simp only [Int.sub_zero, Int.toNat_natCast, ho]
theorem wp_tswD {dflt lo hi' : Int} {offs : Array Int} {x : Int32} (tgt : Nat) (hi : aIns M pc = some (.tableswitch dflt lo hi' offs, len, a1, b1, v1)) (hx : x.toInt < lo ∨ hi' < x.toInt) (ht : ((pc : Int) + dflt).toNat = tgt) (kk : aWp X d M tgt lv t h Q) : aWp X d M pc lv (.int x :: t) h Q := by
  subst ht
  refine wp_step (((pc : Int) + dflt).toNat, lv, t, h) hi ?_ kk
  simp only [aStep, a_tsw]
  rw [if_pos hx]
theorem wp_callV {i M' n a : Nat} {k : Int32} {st rest vs : List Value} {ci : Nat} {fs : List Value} {y : aMt} {Qc : Option Value → aH → Prop} (p' : Nat) (hp : pc + 3 = p') (hi : aIns M pc = some (.invokevirtual i, len, M', n, .int k)) (hM1 : M' ≠ 1000) (hci : k.toNatClampNeg = ci) (hst : st = vs.reverse ++ .ref a :: rest) (hn : vs.length = n) (hstk : aStk rest = true) (hc : h[a]? = some (.inr (ci, fs))) (hM : aMs[M']? = some y) (hen : (aEntry (.ref a :: vs)).length ≤ y.2.2.1)
    (hcall : aWp X d M' 0 (aEntL (.ref a :: vs) y.2.2.1) [] h Qc) (kk : ∀ v h', Qc v h' → aWp X (d + 1) M p' lv (v.toList ++ rest) h' Q) : aWp X (d + 1) M pc lv st h Q := by
  subst hp; subst hst; subst hn; subst hci
  refine wp_call (pc + 3, lv, rest, h) hi ?_ hM hen hcall kk
  have e1 : (vs.reverse ++ Value.ref a :: rest).drop vs.length = .ref a :: rest := by rw [← List.length_reverse]; exact List.drop_left
  have e2 : (vs.reverse ++ Value.ref a :: rest).take vs.length = vs.reverse := by rw [← List.length_reverse]; exact List.take_left
  simp only [aStep, if_neg hM1, a_callV, e1, e2, hc, hstk, List.reverse_reverse]
  rw [if_pos ⟨trivial, by simp, trivial⟩]
theorem wp_callI {i M' n a : Nat} {k : Int32} {st rest vs : List Value} {ci : Nat} {fs : List Value} {y : aMt} {Qc : Option Value → aH → Prop} (p' : Nat) (hp : pc + 3 = p') (hi : aIns M pc = some (.invokespecial i, len, M', n, .int k)) (hM1 : M' ≠ 1000) (hci : k.toNatClampNeg = ci) (hst : st = vs.reverse ++ .ref a :: rest) (hn : vs.length = n) (hstk : aStk rest = true) (hc : h[a]? = some (.inr (ci, fs))) (hM : aMs[M']? = some y) (hen : (aEntry (.ref a :: vs)).length ≤ y.2.2.1)
    (hcall : aWp X d M' 0 (aEntL (.ref a :: vs) y.2.2.1) [] h Qc) (kk : ∀ v h', Qc v h' → aWp X (d + 1) M p' lv (v.toList ++ rest) h' Q) : aWp X (d + 1) M pc lv st h Q := by
  subst hp; subst hst; subst hn; subst hci
  refine wp_call (pc + 3, lv, rest, h) hi ?_ hM hen hcall kk
  have e1 : (vs.reverse ++ Value.ref a :: rest).drop vs.length = .ref a :: rest := by rw [← List.length_reverse]; exact List.drop_left
  have e2 : (vs.reverse ++ Value.ref a :: rest).take vs.length = vs.reverse := by rw [← List.length_reverse]; exact List.take_left
  simp only [aStep, if_neg hM1, a_callV, e1, e2, hc, hstk, List.reverse_reverse]
  rw [if_pos ⟨trivial, by simp, trivial⟩]
theorem wp_callS {i M' n : Nat} {st rest vs : List Value} {y : aMt} {Qc : Option Value → aH → Prop} (p' : Nat) (hp : pc + 3 = p') (hi : aIns M pc = some (.invokestatic i, len, M', n, v1)) (hM1 : ¬ 1000 ≤ M') (hst : st = vs.reverse ++ rest) (hn : vs.length = n) (hstk : aStk rest = true) (hM : aMs[M']? = some y) (hen : (aEntry vs).length ≤ y.2.2.1)
    (hcall : aWp X d M' 0 (aEntL vs y.2.2.1) [] h Qc) (kk : ∀ v h', Qc v h' → aWp X (d + 1) M p' lv (v.toList ++ rest) h' Q) : aWp X (d + 1) M pc lv st h Q := by
  subst hp; subst hst; subst hn
  refine wp_call (pc + 3, lv, rest, h) hi ?_ hM hen hcall kk
  have e1 : (vs.reverse ++ rest).drop vs.length = rest := by rw [← List.length_reverse]; exact List.drop_left
  have e2 : (vs.reverse ++ rest).take vs.length = vs.reverse := by rw [← List.length_reverse]; exact List.take_left
  simp only [aStep, if_neg hM1, a_callS, e1, e2, hstk, List.reverse_reverse]
  rw [if_pos ⟨by simp, trivial⟩]
end R19b
