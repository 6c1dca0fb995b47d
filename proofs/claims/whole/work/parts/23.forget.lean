/-! a run that doesn't read a variable goes as well with any value in it -/
def lvle : aL → aL → Prop
  | [], [] => True
  | none :: t, _ :: t' => lvle t t'
  | some v :: t, some v' :: t' => v = v' ∧ lvle t t'
  | _, _ => False
theorem lvle_len : ∀ {a b : aL}, lvle a b → a.length = b.length
  | [], [], _ => rfl
  | none :: t, _ :: t', h => by simp only [List.length_cons]; rw [lvle_len (show lvle t t' from h)]
  | some v :: t, some v' :: t', h => by simp only [List.length_cons]; rw [lvle_len (show lvle t t' from h.2)]
  | [], _ :: _, h => absurd h id
  | none :: _, [], h => absurd h id
  | some _ :: _, [], h => absurd h id
  | some _ :: _, none :: _, h => absurd h id
theorem lvle_get : ∀ {a b : aL}, lvle a b → ∀ (i : Nat) (v : Value), a[i]? = some (some v) → b[i]? = some (some v)
  | [], [], _, i, v, hv => by simp at hv
  | none :: t, _ :: t', h, i, v, hv => by
    cases i with
    | zero => simp at hv
    | succ i =>
      rw [List.getElem?_cons_succ] at hv ⊢
      exact lvle_get (show lvle t t' from h) i v hv
  | some w :: t, some w' :: t', h, i, v, hv => by
    obtain ⟨rfl, h2⟩ := (show w = w' ∧ lvle t t' from h)
    cases i with
    | zero => simpa using hv
    | succ i =>
      rw [List.getElem?_cons_succ] at hv ⊢
      exact lvle_get h2 i v hv
  | [], _ :: _, h, _, _, _ => absurd h id
  | none :: _, [], h, _, _, _ => absurd h id
  | some _ :: _, [], h, _, _, _ => absurd h id
  | some _ :: _, none :: _, h, _, _, _ => absurd h id
theorem lvle_set : ∀ {a b : aL}, lvle a b → ∀ (i : Nat) (v : Option Value), lvle (a.set i v) (b.set i v)
  | [], [], _, _, _ => trivial
  | none :: t, w :: t', h, i, v => by
    cases i with
    | zero =>
      cases v with
      | none => exact h
      | some v => exact ⟨rfl, h⟩
    | succ i => exact lvle_set (show lvle t t' from h) i v
  | some w :: t, some w' :: t', h, i, v => by
    obtain ⟨rfl, h2⟩ := (show w = w' ∧ lvle t t' from h)
    cases i with
    | zero =>
      cases v with
      | none => exact h2
      | some v => exact ⟨rfl, h2⟩
    | succ i => exact ⟨rfl, lvle_set h2 i v⟩
  | [], _ :: _, h, _, _ => absurd h id
  | none :: _, [], h, _, _ => absurd h id
  | some _ :: _, [], h, _, _ => absurd h id
  | some _ :: _, none :: _, h, _, _ => absurd h id
theorem lvle_setL : ∀ {a b : aL}, lvle a b → ∀ (i : Nat), a[i]? = some none → ∀ v, lvle a (b.set i v)
  | [], [], _, i, hi, v => by simp at hi
  | none :: t, w :: t', h, i, hi, v => by
    cases i with
    | zero => exact h
    | succ i =>
      rw [List.getElem?_cons_succ] at hi
      exact lvle_setL (show lvle t t' from h) i hi v
  | some w :: t, some w' :: t', h, i, hi, v => by
    obtain ⟨rfl, h2⟩ := (show w = w' ∧ lvle t t' from h)
    cases i with
    | zero => simp at hi
    | succ i =>
      rw [List.getElem?_cons_succ] at hi
      exact ⟨rfl, lvle_setL h2 i hi v⟩
  | [], _ :: _, h, _, _, _ => absurd h id
  | none :: _, [], h, _, _, _ => absurd h id
  | some _ :: _, [], h, _, _, _ => absurd h id
  | some _ :: _, none :: _, h, _, _, _ => absurd h id
theorem lvle_aSet {a b : aL} (h : lvle a b) (i : Nat) (v : Option Value) : lvle (aSet a i v) (aSet b i v) := by
  unfold aSet
  cases i with
  | zero => exact lvle_set h 0 v
  | succ j =>
    simp only
    have hlen := lvle_len h
    cases ha : a[j]? with
    | none =>
      have hb : b[j]? = none := by
        rw [List.getElem?_eq_none_iff] at ha ⊢
        omega
      rw [hb]
      exact lvle_set h (j + 1) v
    | some x =>
      cases x with
      | some w =>
        rw [lvle_get h j w ha]
        simp only
        split
        · exact lvle_set (lvle_set h j none) (j + 1) v
        · exact lvle_set h (j + 1) v
      | none =>
        simp only
        have g1 : lvle (a.set (j + 1) v) (b.set (j + 1) v) := lvle_set h (j + 1) v
        have g2 : lvle (a.set (j + 1) v) ((b.set j none).set (j + 1) v) := lvle_set (lvle_setL h j ha none) (j + 1) v
        split
        · split
          · exact g2
          · exact g1
        · exact g1
def aPut (lv : aL) : aR → aR
  | .inl q => .inl (q.1, lv, q.2.2)
  | .inr (.inl q) => .inr (.inl q)
  | .inr (.inr (M, vs, q)) => .inr (.inr (M, vs, q.1, lv, q.2.2))
section P23
variable {pc : Nat} {lv lv' : aL} {st : List Value} {h : aH}
theorem p_a_push (len : Nat) (v : Value) : a_push pc lv' st h len v = (a_push pc lv st h len v).map (aPut lv') := by
  unfold a_push
  (repeat' split) <;> first | rfl | (simp_all; done)
theorem p_a_ii (f : Int32 → Int32 → Int32) : a_ii pc lv' st h f = (a_ii pc lv st h f).map (aPut lv') := by
  unfold a_ii
  (repeat' split) <;> first | rfl | (simp_all; done)
theorem p_a_ii0 (f : Int32 → Int32 → Int32) : a_ii0 pc lv' st h f = (a_ii0 pc lv st h f).map (aPut lv') := by
  unfold a_ii0
  (repeat' split) <;> first | rfl | (simp_all; done)
theorem p_a_i (f : Int32 → Int32) : a_i pc lv' st h f = (a_i pc lv st h f).map (aPut lv') := by
  unfold a_i
  (repeat' split) <;> first | rfl | (simp_all; done)
theorem p_a_ll (f : Int64 → Int64 → Int64) : a_ll pc lv' st h f = (a_ll pc lv st h f).map (aPut lv') := by
  unfold a_ll
  (repeat' split) <;> first | rfl | (simp_all; done)
theorem p_a_ll0 (f : Int64 → Int64 → Int64) : a_ll0 pc lv' st h f = (a_ll0 pc lv st h f).map (aPut lv') := by
  unfold a_ll0
  (repeat' split) <;> first | rfl | (simp_all; done)
theorem p_a_lshl  : a_lshl pc lv' st h  = (a_lshl pc lv st h ).map (aPut lv') := by
  unfold a_lshl
  (repeat' split) <;> first | rfl | (simp_all; done)
theorem p_a_lcmp  : a_lcmp pc lv' st h  = (a_lcmp pc lv st h ).map (aPut lv') := by
  unfold a_lcmp
  (repeat' split) <;> first | rfl | (simp_all; done)
theorem p_a_i2l  : a_i2l pc lv' st h  = (a_i2l pc lv st h ).map (aPut lv') := by
  unfold a_i2l
  (repeat' split) <;> first | rfl | (simp_all; done)
theorem p_a_l2i  : a_l2i pc lv' st h  = (a_l2i pc lv st h ).map (aPut lv') := by
  unfold a_l2i
  (repeat' split) <;> first | rfl | (simp_all; done)
theorem p_a_dup  : a_dup pc lv' st h  = (a_dup pc lv st h ).map (aPut lv') := by
  unfold a_dup
  (repeat' split) <;> first | rfl | (simp_all; done)
theorem p_a_dup2  : a_dup2 pc lv' st h  = (a_dup2 pc lv st h ).map (aPut lv') := by
  unfold a_dup2
  (repeat' split) <;> first | rfl | (simp_all; done)
theorem p_a_pop  : a_pop pc lv' st h  = (a_pop pc lv st h ).map (aPut lv') := by
  unfold a_pop
  (repeat' split) <;> first | rfl | (simp_all; done)
theorem p_a_if (off : Int) (f : Int32 → Bool) : a_if pc lv' st h off f = (a_if pc lv st h off f).map (aPut lv') := by
  unfold a_if
  (repeat' split) <;> first | rfl | (simp_all; done)
theorem p_a_cmp (off : Int) (f : Int32 → Int32 → Bool) : a_cmp pc lv' st h off f = (a_cmp pc lv st h off f).map (aPut lv') := by
  unfold a_cmp
  (repeat' split) <;> first | rfl | (simp_all; done)
theorem p_a_goto (off : Int) : a_goto pc lv' st h off = (a_goto pc lv st h off).map (aPut lv') := by
  unfold a_goto
  (repeat' split) <;> first | rfl | (simp_all; done)
theorem p_a_tsw (dflt lo hi : Int) (offs : Array Int) : a_tsw pc lv' st h dflt lo hi offs = (a_tsw pc lv st h dflt lo hi offs).map (aPut lv') := by
  unfold a_tsw
  (repeat' split) <;> first | rfl | (simp_all; done)
theorem p_a_lsw (dflt : Int) (ps : Array (Int × Int)) : a_lsw pc lv' st h dflt ps = (a_lsw pc lv st h dflt ps).map (aPut lv') := by
  unfold a_lsw
  (repeat' split) <;> first | rfl | (simp_all; done)
theorem p_a_get (ci k : Nat) : a_get pc lv' st h ci k = (a_get pc lv st h ci k).map (aPut lv') := by
  unfold a_get
  (repeat' split) <;> first | rfl | (simp_all; done)
theorem p_a_put (ci k : Nat) : a_put pc lv' st h ci k = (a_put pc lv st h ci k).map (aPut lv') := by
  unfold a_put
  (repeat' split) <;> first | rfl | (simp_all; done)
theorem p_a_new (ci : Nat) : a_new pc lv' st h ci = (a_new pc lv st h ci).map (aPut lv') := by
  unfold a_new
  (repeat' split) <;> first | rfl | (simp_all; done)
theorem p_a_newa (tag : Nat) : a_newa pc lv' st h tag = (a_newa pc lv st h tag).map (aPut lv') := by
  unfold a_newa
  (repeat' split) <;> first | rfl | (simp_all; done)
theorem p_a_anew (tag : Nat) : a_anew pc lv' st h tag = (a_anew pc lv st h tag).map (aPut lv') := by
  unfold a_anew
  (repeat' split) <;> first | rfl | (simp_all; done)
theorem p_a_iald (X : aX) : a_iald pc lv' st h X = (a_iald pc lv st h X).map (aPut lv') := by
  unfold a_iald
  (repeat' split) <;> first | rfl | (simp_all; done)
theorem p_a_bald  : a_bald pc lv' st h  = (a_bald pc lv st h ).map (aPut lv') := by
  unfold a_bald
  (repeat' split) <;> first | rfl | (simp_all; done)
theorem p_a_lald  : a_lald pc lv' st h  = (a_lald pc lv st h ).map (aPut lv') := by
  unfold a_lald
  (repeat' split) <;> first | rfl | (simp_all; done)
theorem p_a_aald  : a_aald pc lv' st h  = (a_aald pc lv st h ).map (aPut lv') := by
  unfold a_aald
  (repeat' split) <;> first | rfl | (simp_all; done)
theorem p_a_iast  : a_iast pc lv' st h  = (a_iast pc lv st h ).map (aPut lv') := by
  unfold a_iast
  (repeat' split) <;> first | rfl | (simp_all; done)
theorem p_a_bast  : a_bast pc lv' st h  = (a_bast pc lv st h ).map (aPut lv') := by
  unfold a_bast
  (repeat' split) <;> first | rfl | (simp_all; done)
theorem p_a_last  : a_last pc lv' st h  = (a_last pc lv st h ).map (aPut lv') := by
  unfold a_last
  (repeat' split) <;> first | rfl | (simp_all; done)
theorem p_a_aast  : a_aast pc lv' st h  = (a_aast pc lv st h ).map (aPut lv') := by
  unfold a_aast
  (repeat' split) <;> first | rfl | (simp_all; done)
theorem p_a_alen (X : aX) : a_alen pc lv' st h X = (a_alen pc lv st h X).map (aPut lv') := by
  unfold a_alen
  (repeat' split) <;> first | rfl | (simp_all; done)
theorem p_a_copy  : a_copy pc lv' st h  = (a_copy pc lv st h ).map (aPut lv') := by
  unfold a_copy
  (repeat' split) <;> first | rfl | (simp_all; done)
theorem p_a_imax  : a_imax pc lv' st h  = (a_imax pc lv st h ).map (aPut lv') := by
  unfold a_imax
  (repeat' split) <;> first | rfl | (simp_all; done)
theorem p_a_imin  : a_imin pc lv' st h  = (a_imin pc lv st h ).map (aPut lv') := by
  unfold a_imin
  (repeat' split) <;> first | rfl | (simp_all; done)
theorem p_a_lmax  : a_lmax pc lv' st h  = (a_lmax pc lv st h ).map (aPut lv') := by
  unfold a_lmax
  (repeat' split) <;> first | rfl | (simp_all; done)
theorem p_a_lmin  : a_lmin pc lv' st h  = (a_lmin pc lv st h ).map (aPut lv') := by
  unfold a_lmin
  (repeat' split) <;> first | rfl | (simp_all; done)
theorem p_a_obj  : a_obj pc lv' st h  = (a_obj pc lv st h ).map (aPut lv') := by
  unfold a_obj
  (repeat' split) <;> first | rfl | (simp_all; done)
theorem p_a_chr  : a_chr pc lv' st h  = (a_chr pc lv st h ).map (aPut lv') := by
  unfold a_chr
  (repeat' split) <;> first | rfl | (simp_all; done)
theorem p_a_callV (ci M n : Nat) : a_callV pc lv' st h ci M n = (a_callV pc lv st h ci M n).map (aPut lv') := by
  unfold a_callV
  (repeat' split) <;> first | rfl | (simp_all; done)
theorem p_a_callS (M n : Nat) : a_callS pc lv' st h M n = (a_callS pc lv st h M n).map (aPut lv') := by
  unfold a_callS
  (repeat' split) <;> first | rfl | (simp_all; done)
end P23
def aRle : aR → aR → Prop
  | .inl q, .inl q' => q.1 = q'.1 ∧ lvle q.2.1 q'.2.1 ∧ q.2.2 = q'.2.2
  | .inr (.inl z), .inr (.inl z') => z = z'
  | .inr (.inr (M, vs, q)), .inr (.inr (M', vs', q')) => M = M' ∧ vs = vs' ∧ q.1 = q'.1 ∧ lvle q.2.1 q'.2.1 ∧ q.2.2 = q'.2.2
  | _, _ => False
def aLvOf : aR → aL → Prop
  | .inl q, lv => q.2.1 = lv
  | .inr (.inl _), _ => True
  | .inr (.inr (_, _, q)), lv => q.2.1 = lv
theorem aRle_put {lv lv' : aL} (hle : lvle lv lv') {w : aR} (hw : aLvOf w lv) : aRle w (aPut lv' w) := by
  rcases w with q | q | ⟨M, vs, q⟩
  · have hw : q.2.1 = lv := hw
    exact ⟨rfl, by rw [hw]; exact hle, rfl⟩
  · exact rfl
  · have hw : q.2.1 = lv := hw
    exact ⟨rfl, rfl, rfl, by rw [hw]; exact hle, rfl⟩
