/-! THE RUN OF THE PURE MACHINE -/
def aIns (M pc : Nat) : Option aI := match aMs[M]? with
  | some y => y.2.2.2.2.1.lookup pc
  | none => none
def aEntL (vs : List Value) (nL : Nat) : aL := aEntry vs ++ List.replicate (nL - (aEntry vs).length) none
/-- steps, depth, method, frame: what it answers, the heap behind it -/
def aRun (X : aX) : Nat → Nat → Nat → Nat → aL → List Value → aH → Option (Option Value × aH)
  | 0, _, _, _, _, _, _ => none
  | n + 1, d, M, pc, lv, st, h => match aIns M pc with
    | none => none
    | some r => match aStep X r pc lv st h with
      | none => none
      | some (.inl q) => aRun X n d M q.1 q.2.1 q.2.2.1 q.2.2.2
      | some (.inr (.inl q)) => some q
      | some (.inr (.inr (M', vs, q))) => match d with
        | 0 => none
        | d' + 1 => match aMs[M']? with
          | none => none
          | some y => if (aEntry vs).length ≤ y.2.2.1 then match aRun X n d' M' 0 (aEntL vs y.2.2.1) [] q.2.2.2 with
            | none => none
            | some (v, h') => aRun X n (d' + 1) M q.1 q.2.1 (v.toList ++ q.2.2.1) h'
            else none
def aMo (h h' : aH) : Prop := h.length ≤ h'.length ∧ aSl h ≤ aSl h'
theorem aMo.rf (h : aH) : aMo h h := ⟨Nat.le_refl _, Nat.le_refl _⟩
theorem aMo.tr {h h1 h2 : aH} (a : aMo h h1) (b : aMo h1 h2) : aMo h h2 := ⟨Nat.le_trans a.1 b.1, Nat.le_trans a.2 b.2⟩
theorem aMo.setA {h : aH} {k tag n : Nat} {f g : (Nat → Int32) ⊕ (Nat → Int64) ⊕ (Nat → UInt32) ⊕ (Nat → UInt64) ⊕ (Nat → Option Nat)} (hk : h[k]? = some (.inl (tag, n, f))) : aMo h (h.set k (.inl (tag, n, g))) := ⟨by rw [List.length_set]; exact Nat.le_refl _, by rw [aSl_setA hk]; exact Nat.le_refl _⟩
theorem aMo.setO {h : aH} {k ci : Nat} {fs gs : List Value} (hk : h[k]? = some (.inr (ci, fs))) : aMo h (h.set k (.inr (ci, gs))) := ⟨by rw [List.length_set]; exact Nat.le_refl _, by rw [aSl_setO hk]; exact Nat.le_refl _⟩
theorem aMo.push (h : aH) (x : aC) : aMo h (h ++ [x]) := ⟨by rw [List.length_append]; exact Nat.le_add_right _ _, by rw [aSl_app]; exact Nat.le_add_right _ _⟩
set_option maxHeartbeats 8000000 in
theorem aStep_mo {X : aX} {r : aI} {pc : Nat} {lv : aL} {st : List Value} {h : aH} {q : aF} (hs : aStep X r pc lv st h = some (.inl q)) : aMo h q.2.2.2 := by
  obtain ⟨i, len, a, b, v⟩ := r
  unfold aStep at hs
  simp only at hs ⊢
  split at hs
  all_goals (try (split at hs))
  all_goals (try (split at hs))
  all_goals (try (unfold a_prim at hs; split at hs))
  all_goals first
    | (cases hs; done)
    | (cases hs; exact aMo.rf _)
    | (cases hs; exact aMo.push _ _)
    | (unfold a_ald at hs; (repeat' split at hs) <;> first | (cases hs; done) | (cases hs; exact aMo.rf _) | (cases hs; exact aMo.push _ _))
    | (unfold a_ild at hs; (repeat' split at hs) <;> first | (cases hs; done) | (cases hs; exact aMo.rf _) | (cases hs; exact aMo.push _ _))
    | (unfold a_lld at hs; (repeat' split at hs) <;> first | (cases hs; done) | (cases hs; exact aMo.rf _) | (cases hs; exact aMo.push _ _))
    | (unfold a_ist at hs; (repeat' split at hs) <;> first | (cases hs; done) | (cases hs; exact aMo.rf _) | (cases hs; exact aMo.push _ _))
    | (unfold a_lst at hs; (repeat' split at hs) <;> first | (cases hs; done) | (cases hs; exact aMo.rf _) | (cases hs; exact aMo.push _ _))
    | (unfold a_ast at hs; (repeat' split at hs) <;> first | (cases hs; done) | (cases hs; exact aMo.rf _) | (cases hs; exact aMo.push _ _))
    | (unfold a_iinc at hs; (repeat' split at hs) <;> first | (cases hs; done) | (cases hs; exact aMo.rf _) | (cases hs; exact aMo.push _ _))
    | (unfold a_ii at hs; (repeat' split at hs) <;> first | (cases hs; done) | (cases hs; exact aMo.rf _) | (cases hs; exact aMo.push _ _))
    | (unfold a_ii0 at hs; (repeat' split at hs) <;> first | (cases hs; done) | (cases hs; exact aMo.rf _) | (cases hs; exact aMo.push _ _))
    | (unfold a_i at hs; (repeat' split at hs) <;> first | (cases hs; done) | (cases hs; exact aMo.rf _) | (cases hs; exact aMo.push _ _))
    | (unfold a_ll at hs; (repeat' split at hs) <;> first | (cases hs; done) | (cases hs; exact aMo.rf _) | (cases hs; exact aMo.push _ _))
    | (unfold a_ll0 at hs; (repeat' split at hs) <;> first | (cases hs; done) | (cases hs; exact aMo.rf _) | (cases hs; exact aMo.push _ _))
    | (unfold a_lshl at hs; (repeat' split at hs) <;> first | (cases hs; done) | (cases hs; exact aMo.rf _) | (cases hs; exact aMo.push _ _))
    | (unfold a_lcmp at hs; (repeat' split at hs) <;> first | (cases hs; done) | (cases hs; exact aMo.rf _) | (cases hs; exact aMo.push _ _))
    | (unfold a_i2l at hs; (repeat' split at hs) <;> first | (cases hs; done) | (cases hs; exact aMo.rf _) | (cases hs; exact aMo.push _ _))
    | (unfold a_l2i at hs; (repeat' split at hs) <;> first | (cases hs; done) | (cases hs; exact aMo.rf _) | (cases hs; exact aMo.push _ _))
    | (unfold a_dup at hs; (repeat' split at hs) <;> first | (cases hs; done) | (cases hs; exact aMo.rf _) | (cases hs; exact aMo.push _ _))
    | (unfold a_dup2 at hs; (repeat' split at hs) <;> first | (cases hs; done) | (cases hs; exact aMo.rf _) | (cases hs; exact aMo.push _ _))
    | (unfold a_pop at hs; (repeat' split at hs) <;> first | (cases hs; done) | (cases hs; exact aMo.rf _) | (cases hs; exact aMo.push _ _))
    | (unfold a_tsw at hs; (repeat' split at hs) <;> first | (cases hs; done) | (cases hs; exact aMo.rf _) | (cases hs; exact aMo.push _ _))
    | (unfold a_lsw at hs; (repeat' split at hs) <;> first | (cases hs; done) | (cases hs; exact aMo.rf _) | (cases hs; exact aMo.push _ _))
    | (unfold a_get at hs; (repeat' split at hs) <;> first | (cases hs; done) | (cases hs; exact aMo.rf _) | (cases hs; exact aMo.push _ _))
    | (unfold a_iald at hs; (repeat' split at hs) <;> first | (cases hs; done) | (cases hs; exact aMo.rf _) | (cases hs; exact aMo.push _ _))
    | (unfold a_bald at hs; (repeat' split at hs) <;> first | (cases hs; done) | (cases hs; exact aMo.rf _) | (cases hs; exact aMo.push _ _))
    | (unfold a_lald at hs; (repeat' split at hs) <;> first | (cases hs; done) | (cases hs; exact aMo.rf _) | (cases hs; exact aMo.push _ _))
    | (unfold a_aald at hs; (repeat' split at hs) <;> first | (cases hs; done) | (cases hs; exact aMo.rf _) | (cases hs; exact aMo.push _ _))
    | (unfold a_alen at hs; (repeat' split at hs) <;> first | (cases hs; done) | (cases hs; exact aMo.rf _) | (cases hs; exact aMo.push _ _))
    | (unfold a_obj at hs; (repeat' split at hs) <;> first | (cases hs; done) | (cases hs; exact aMo.rf _) | (cases hs; exact aMo.push _ _))
    | (unfold a_chr at hs; (repeat' split at hs) <;> first | (cases hs; done) | (cases hs; exact aMo.rf _) | (cases hs; exact aMo.push _ _))
    | (unfold a_imax at hs; (repeat' split at hs) <;> first | (cases hs; done) | (cases hs; exact aMo.rf _) | (cases hs; exact aMo.push _ _))
    | (unfold a_imin at hs; (repeat' split at hs) <;> first | (cases hs; done) | (cases hs; exact aMo.rf _) | (cases hs; exact aMo.push _ _))
    | (unfold a_lmax at hs; (repeat' split at hs) <;> first | (cases hs; done) | (cases hs; exact aMo.rf _) | (cases hs; exact aMo.push _ _))
    | (unfold a_lmin at hs; (repeat' split at hs) <;> first | (cases hs; done) | (cases hs; exact aMo.rf _) | (cases hs; exact aMo.push _ _))
    | (unfold a_iret at hs; (repeat' split at hs) <;> first | (cases hs; done) | (cases hs; exact aMo.rf _) | (cases hs; exact aMo.push _ _))
    | (unfold a_lret at hs; (repeat' split at hs) <;> first | (cases hs; done) | (cases hs; exact aMo.rf _) | (cases hs; exact aMo.push _ _))
    | (unfold a_vret at hs; (repeat' split at hs) <;> first | (cases hs; done) | (cases hs; exact aMo.rf _) | (cases hs; exact aMo.push _ _))
    | (unfold a_callV at hs; (repeat' split at hs) <;> first | (cases hs; done) | (cases hs; exact aMo.rf _) | (cases hs; exact aMo.push _ _))
    | (unfold a_callS at hs; (repeat' split at hs) <;> first | (cases hs; done) | (cases hs; exact aMo.rf _) | (cases hs; exact aMo.push _ _))
    | (unfold a_if at hs; split at hs <;> first | (cases hs; done) | (cases hs; exact aMo.rf _) | (cases hs; exact aMo.push _ _))
    | (unfold a_cmp at hs; split at hs <;> first | (cases hs; done) | (cases hs; exact aMo.rf _) | (cases hs; exact aMo.push _ _))
    | (unfold a_put at hs; (repeat' split at hs) <;> first | (cases hs; done) | (rename_i hc hq; obtain ⟨rfl, -, -⟩ := hq; cases hs; exact aMo.setO hc))
    | (unfold a_newa at hs; (repeat' split at hs) <;> first | (cases hs; done) | (cases hs; exact aMo.push _ _))
    | (unfold a_anew at hs; (repeat' split at hs) <;> first | (cases hs; done) | (cases hs; exact aMo.push _ _))
    | (unfold a_iast at hs; (repeat' split at hs) <;> first | (cases hs; done) | (rename_i hc _; cases hs; exact aMo.setA hc))
    | (unfold a_last at hs; (repeat' split at hs) <;> first | (cases hs; done) | (rename_i hc _; cases hs; exact aMo.setA hc))
    | (unfold a_bast at hs; (repeat' split at hs) <;> first | (cases hs; done) | (rename_i hc _; cases hs; exact aMo.setA hc) | (rename_i hc _ _; cases hs; exact aMo.setA hc))
    | (unfold a_aast at hs; (repeat' split at hs) <;> first | (cases hs; done) | (rename_i hc _ _ _ _ _; cases hs; exact aMo.setA hc) | (rename_i hc _ _ _ _; cases hs; exact aMo.setA hc) | (rename_i hc _ _ _; cases hs; exact aMo.setA hc))
    | (unfold a_copy at hs; (repeat' split at hs) <;> first | (cases hs; done) | (rename_i hc _; cases hs; exact aMo.setA hc))
set_option maxHeartbeats 8000000 in
theorem aStep_rm {X : aX} {r : aI} {pc : Nat} {lv : aL} {st : List Value} {h : aH} {q : Option Value × aH} (hs : aStep X r pc lv st h = some (.inr (.inl q))) : q.2 = h ∧ (r.1 = .ireturn ∨ r.1 = .lreturn ∨ r.1 = .return_) := by
  obtain ⟨i, len, a, b, v⟩ := r
  unfold aStep at hs
  simp only at hs ⊢
  split at hs
  all_goals (try (split at hs))
  all_goals (try (split at hs))
  all_goals (try (unfold a_prim at hs; split at hs))
  all_goals first
    | (cases hs; done)
    | (cases hs; exact ⟨rfl, Or.inl rfl⟩)
    | (cases hs; exact ⟨rfl, Or.inr (Or.inl rfl)⟩)
    | (cases hs; exact ⟨rfl, Or.inr (Or.inr rfl)⟩)
    | (unfold a_ald at hs; (repeat' split at hs) <;> first | (cases hs; done) | (cases hs; exact ⟨rfl, Or.inl rfl⟩) | (cases hs; exact ⟨rfl, Or.inr (Or.inl rfl)⟩) | (cases hs; exact ⟨rfl, Or.inr (Or.inr rfl)⟩))
    | (unfold a_ild at hs; (repeat' split at hs) <;> first | (cases hs; done) | (cases hs; exact ⟨rfl, Or.inl rfl⟩) | (cases hs; exact ⟨rfl, Or.inr (Or.inl rfl)⟩) | (cases hs; exact ⟨rfl, Or.inr (Or.inr rfl)⟩))
    | (unfold a_lld at hs; (repeat' split at hs) <;> first | (cases hs; done) | (cases hs; exact ⟨rfl, Or.inl rfl⟩) | (cases hs; exact ⟨rfl, Or.inr (Or.inl rfl)⟩) | (cases hs; exact ⟨rfl, Or.inr (Or.inr rfl)⟩))
    | (unfold a_ist at hs; (repeat' split at hs) <;> first | (cases hs; done) | (cases hs; exact ⟨rfl, Or.inl rfl⟩) | (cases hs; exact ⟨rfl, Or.inr (Or.inl rfl)⟩) | (cases hs; exact ⟨rfl, Or.inr (Or.inr rfl)⟩))
    | (unfold a_lst at hs; (repeat' split at hs) <;> first | (cases hs; done) | (cases hs; exact ⟨rfl, Or.inl rfl⟩) | (cases hs; exact ⟨rfl, Or.inr (Or.inl rfl)⟩) | (cases hs; exact ⟨rfl, Or.inr (Or.inr rfl)⟩))
    | (unfold a_ast at hs; (repeat' split at hs) <;> first | (cases hs; done) | (cases hs; exact ⟨rfl, Or.inl rfl⟩) | (cases hs; exact ⟨rfl, Or.inr (Or.inl rfl)⟩) | (cases hs; exact ⟨rfl, Or.inr (Or.inr rfl)⟩))
    | (unfold a_iinc at hs; (repeat' split at hs) <;> first | (cases hs; done) | (cases hs; exact ⟨rfl, Or.inl rfl⟩) | (cases hs; exact ⟨rfl, Or.inr (Or.inl rfl)⟩) | (cases hs; exact ⟨rfl, Or.inr (Or.inr rfl)⟩))
    | (unfold a_ii at hs; (repeat' split at hs) <;> first | (cases hs; done) | (cases hs; exact ⟨rfl, Or.inl rfl⟩) | (cases hs; exact ⟨rfl, Or.inr (Or.inl rfl)⟩) | (cases hs; exact ⟨rfl, Or.inr (Or.inr rfl)⟩))
    | (unfold a_ii0 at hs; (repeat' split at hs) <;> first | (cases hs; done) | (cases hs; exact ⟨rfl, Or.inl rfl⟩) | (cases hs; exact ⟨rfl, Or.inr (Or.inl rfl)⟩) | (cases hs; exact ⟨rfl, Or.inr (Or.inr rfl)⟩))
    | (unfold a_i at hs; (repeat' split at hs) <;> first | (cases hs; done) | (cases hs; exact ⟨rfl, Or.inl rfl⟩) | (cases hs; exact ⟨rfl, Or.inr (Or.inl rfl)⟩) | (cases hs; exact ⟨rfl, Or.inr (Or.inr rfl)⟩))
    | (unfold a_ll at hs; (repeat' split at hs) <;> first | (cases hs; done) | (cases hs; exact ⟨rfl, Or.inl rfl⟩) | (cases hs; exact ⟨rfl, Or.inr (Or.inl rfl)⟩) | (cases hs; exact ⟨rfl, Or.inr (Or.inr rfl)⟩))
    | (unfold a_ll0 at hs; (repeat' split at hs) <;> first | (cases hs; done) | (cases hs; exact ⟨rfl, Or.inl rfl⟩) | (cases hs; exact ⟨rfl, Or.inr (Or.inl rfl)⟩) | (cases hs; exact ⟨rfl, Or.inr (Or.inr rfl)⟩))
    | (unfold a_lshl at hs; (repeat' split at hs) <;> first | (cases hs; done) | (cases hs; exact ⟨rfl, Or.inl rfl⟩) | (cases hs; exact ⟨rfl, Or.inr (Or.inl rfl)⟩) | (cases hs; exact ⟨rfl, Or.inr (Or.inr rfl)⟩))
    | (unfold a_lcmp at hs; (repeat' split at hs) <;> first | (cases hs; done) | (cases hs; exact ⟨rfl, Or.inl rfl⟩) | (cases hs; exact ⟨rfl, Or.inr (Or.inl rfl)⟩) | (cases hs; exact ⟨rfl, Or.inr (Or.inr rfl)⟩))
    | (unfold a_i2l at hs; (repeat' split at hs) <;> first | (cases hs; done) | (cases hs; exact ⟨rfl, Or.inl rfl⟩) | (cases hs; exact ⟨rfl, Or.inr (Or.inl rfl)⟩) | (cases hs; exact ⟨rfl, Or.inr (Or.inr rfl)⟩))
    | (unfold a_l2i at hs; (repeat' split at hs) <;> first | (cases hs; done) | (cases hs; exact ⟨rfl, Or.inl rfl⟩) | (cases hs; exact ⟨rfl, Or.inr (Or.inl rfl)⟩) | (cases hs; exact ⟨rfl, Or.inr (Or.inr rfl)⟩))
    | (unfold a_dup at hs; (repeat' split at hs) <;> first | (cases hs; done) | (cases hs; exact ⟨rfl, Or.inl rfl⟩) | (cases hs; exact ⟨rfl, Or.inr (Or.inl rfl)⟩) | (cases hs; exact ⟨rfl, Or.inr (Or.inr rfl)⟩))
    | (unfold a_dup2 at hs; (repeat' split at hs) <;> first | (cases hs; done) | (cases hs; exact ⟨rfl, Or.inl rfl⟩) | (cases hs; exact ⟨rfl, Or.inr (Or.inl rfl)⟩) | (cases hs; exact ⟨rfl, Or.inr (Or.inr rfl)⟩))
    | (unfold a_pop at hs; (repeat' split at hs) <;> first | (cases hs; done) | (cases hs; exact ⟨rfl, Or.inl rfl⟩) | (cases hs; exact ⟨rfl, Or.inr (Or.inl rfl)⟩) | (cases hs; exact ⟨rfl, Or.inr (Or.inr rfl)⟩))
    | (unfold a_tsw at hs; (repeat' split at hs) <;> first | (cases hs; done) | (cases hs; exact ⟨rfl, Or.inl rfl⟩) | (cases hs; exact ⟨rfl, Or.inr (Or.inl rfl)⟩) | (cases hs; exact ⟨rfl, Or.inr (Or.inr rfl)⟩))
    | (unfold a_lsw at hs; (repeat' split at hs) <;> first | (cases hs; done) | (cases hs; exact ⟨rfl, Or.inl rfl⟩) | (cases hs; exact ⟨rfl, Or.inr (Or.inl rfl)⟩) | (cases hs; exact ⟨rfl, Or.inr (Or.inr rfl)⟩))
    | (unfold a_get at hs; (repeat' split at hs) <;> first | (cases hs; done) | (cases hs; exact ⟨rfl, Or.inl rfl⟩) | (cases hs; exact ⟨rfl, Or.inr (Or.inl rfl)⟩) | (cases hs; exact ⟨rfl, Or.inr (Or.inr rfl)⟩))
    | (unfold a_iald at hs; (repeat' split at hs) <;> first | (cases hs; done) | (cases hs; exact ⟨rfl, Or.inl rfl⟩) | (cases hs; exact ⟨rfl, Or.inr (Or.inl rfl)⟩) | (cases hs; exact ⟨rfl, Or.inr (Or.inr rfl)⟩))
    | (unfold a_bald at hs; (repeat' split at hs) <;> first | (cases hs; done) | (cases hs; exact ⟨rfl, Or.inl rfl⟩) | (cases hs; exact ⟨rfl, Or.inr (Or.inl rfl)⟩) | (cases hs; exact ⟨rfl, Or.inr (Or.inr rfl)⟩))
    | (unfold a_lald at hs; (repeat' split at hs) <;> first | (cases hs; done) | (cases hs; exact ⟨rfl, Or.inl rfl⟩) | (cases hs; exact ⟨rfl, Or.inr (Or.inl rfl)⟩) | (cases hs; exact ⟨rfl, Or.inr (Or.inr rfl)⟩))
    | (unfold a_aald at hs; (repeat' split at hs) <;> first | (cases hs; done) | (cases hs; exact ⟨rfl, Or.inl rfl⟩) | (cases hs; exact ⟨rfl, Or.inr (Or.inl rfl)⟩) | (cases hs; exact ⟨rfl, Or.inr (Or.inr rfl)⟩))
    | (unfold a_alen at hs; (repeat' split at hs) <;> first | (cases hs; done) | (cases hs; exact ⟨rfl, Or.inl rfl⟩) | (cases hs; exact ⟨rfl, Or.inr (Or.inl rfl)⟩) | (cases hs; exact ⟨rfl, Or.inr (Or.inr rfl)⟩))
    | (unfold a_obj at hs; (repeat' split at hs) <;> first | (cases hs; done) | (cases hs; exact ⟨rfl, Or.inl rfl⟩) | (cases hs; exact ⟨rfl, Or.inr (Or.inl rfl)⟩) | (cases hs; exact ⟨rfl, Or.inr (Or.inr rfl)⟩))
    | (unfold a_chr at hs; (repeat' split at hs) <;> first | (cases hs; done) | (cases hs; exact ⟨rfl, Or.inl rfl⟩) | (cases hs; exact ⟨rfl, Or.inr (Or.inl rfl)⟩) | (cases hs; exact ⟨rfl, Or.inr (Or.inr rfl)⟩))
    | (unfold a_imax at hs; (repeat' split at hs) <;> first | (cases hs; done) | (cases hs; exact ⟨rfl, Or.inl rfl⟩) | (cases hs; exact ⟨rfl, Or.inr (Or.inl rfl)⟩) | (cases hs; exact ⟨rfl, Or.inr (Or.inr rfl)⟩))
    | (unfold a_imin at hs; (repeat' split at hs) <;> first | (cases hs; done) | (cases hs; exact ⟨rfl, Or.inl rfl⟩) | (cases hs; exact ⟨rfl, Or.inr (Or.inl rfl)⟩) | (cases hs; exact ⟨rfl, Or.inr (Or.inr rfl)⟩))
    | (unfold a_lmax at hs; (repeat' split at hs) <;> first | (cases hs; done) | (cases hs; exact ⟨rfl, Or.inl rfl⟩) | (cases hs; exact ⟨rfl, Or.inr (Or.inl rfl)⟩) | (cases hs; exact ⟨rfl, Or.inr (Or.inr rfl)⟩))
    | (unfold a_lmin at hs; (repeat' split at hs) <;> first | (cases hs; done) | (cases hs; exact ⟨rfl, Or.inl rfl⟩) | (cases hs; exact ⟨rfl, Or.inr (Or.inl rfl)⟩) | (cases hs; exact ⟨rfl, Or.inr (Or.inr rfl)⟩))
    | (unfold a_iret at hs; (repeat' split at hs) <;> first | (cases hs; done) | (cases hs; exact ⟨rfl, Or.inl rfl⟩) | (cases hs; exact ⟨rfl, Or.inr (Or.inl rfl)⟩) | (cases hs; exact ⟨rfl, Or.inr (Or.inr rfl)⟩))
    | (unfold a_lret at hs; (repeat' split at hs) <;> first | (cases hs; done) | (cases hs; exact ⟨rfl, Or.inl rfl⟩) | (cases hs; exact ⟨rfl, Or.inr (Or.inl rfl)⟩) | (cases hs; exact ⟨rfl, Or.inr (Or.inr rfl)⟩))
    | (unfold a_vret at hs; (repeat' split at hs) <;> first | (cases hs; done) | (cases hs; exact ⟨rfl, Or.inl rfl⟩) | (cases hs; exact ⟨rfl, Or.inr (Or.inl rfl)⟩) | (cases hs; exact ⟨rfl, Or.inr (Or.inr rfl)⟩))
    | (unfold a_callV at hs; (repeat' split at hs) <;> first | (cases hs; done) | (cases hs; exact ⟨rfl, Or.inl rfl⟩) | (cases hs; exact ⟨rfl, Or.inr (Or.inl rfl)⟩) | (cases hs; exact ⟨rfl, Or.inr (Or.inr rfl)⟩))
    | (unfold a_callS at hs; (repeat' split at hs) <;> first | (cases hs; done) | (cases hs; exact ⟨rfl, Or.inl rfl⟩) | (cases hs; exact ⟨rfl, Or.inr (Or.inl rfl)⟩) | (cases hs; exact ⟨rfl, Or.inr (Or.inr rfl)⟩))
    | (unfold a_if at hs; split at hs <;> first | (cases hs; done) | (cases hs; exact ⟨rfl, Or.inl rfl⟩) | (cases hs; exact ⟨rfl, Or.inr (Or.inl rfl)⟩) | (cases hs; exact ⟨rfl, Or.inr (Or.inr rfl)⟩))
    | (unfold a_cmp at hs; split at hs <;> first | (cases hs; done) | (cases hs; exact ⟨rfl, Or.inl rfl⟩) | (cases hs; exact ⟨rfl, Or.inr (Or.inl rfl)⟩) | (cases hs; exact ⟨rfl, Or.inr (Or.inr rfl)⟩))
    | (unfold a_put at hs; (repeat' split at hs) <;> first | (cases hs; done))
    | (unfold a_newa at hs; (repeat' split at hs) <;> first | (cases hs; done))
    | (unfold a_anew at hs; (repeat' split at hs) <;> first | (cases hs; done))
    | (unfold a_iast at hs; (repeat' split at hs) <;> first | (cases hs; done))
    | (unfold a_last at hs; (repeat' split at hs) <;> first | (cases hs; done))
    | (unfold a_bast at hs; (repeat' split at hs) <;> first | (cases hs; done))
    | (unfold a_aast at hs; (repeat' split at hs) <;> first | (cases hs; done))
    | (unfold a_copy at hs; (repeat' split at hs) <;> first | (cases hs; done))
set_option maxHeartbeats 8000000 in
theorem aStep_cm {X : aX} {r : aI} {pc : Nat} {lv : aL} {st : List Value} {h : aH} {M : Nat} {vs : List Value} {q : aF} (hs : aStep X r pc lv st h = some (.inr (.inr (M, vs, q)))) : q.2.2.2 = h ∧ ((∃ i, r.1 = .invokespecial i) ∨ (∃ i, r.1 = .invokevirtual i) ∨ (∃ i, r.1 = .invokestatic i)) := by
  obtain ⟨i, len, a, b, v⟩ := r
  unfold aStep at hs
  simp only at hs ⊢
  split at hs
  all_goals (try (split at hs))
  all_goals (try (split at hs))
  all_goals (try (unfold a_prim at hs; split at hs))
  all_goals first
    | (cases hs; done)
    | (cases hs; exact ⟨rfl, Or.inl ⟨_, rfl⟩⟩)
    | (cases hs; exact ⟨rfl, Or.inr (Or.inl ⟨_, rfl⟩)⟩)
    | (cases hs; exact ⟨rfl, Or.inr (Or.inr ⟨_, rfl⟩)⟩)
    | (unfold a_ald at hs; (repeat' split at hs) <;> first | (cases hs; done) | (cases hs; exact ⟨rfl, Or.inl ⟨_, rfl⟩⟩) | (cases hs; exact ⟨rfl, Or.inr (Or.inl ⟨_, rfl⟩)⟩) | (cases hs; exact ⟨rfl, Or.inr (Or.inr ⟨_, rfl⟩)⟩))
    | (unfold a_ild at hs; (repeat' split at hs) <;> first | (cases hs; done) | (cases hs; exact ⟨rfl, Or.inl ⟨_, rfl⟩⟩) | (cases hs; exact ⟨rfl, Or.inr (Or.inl ⟨_, rfl⟩)⟩) | (cases hs; exact ⟨rfl, Or.inr (Or.inr ⟨_, rfl⟩)⟩))
    | (unfold a_lld at hs; (repeat' split at hs) <;> first | (cases hs; done) | (cases hs; exact ⟨rfl, Or.inl ⟨_, rfl⟩⟩) | (cases hs; exact ⟨rfl, Or.inr (Or.inl ⟨_, rfl⟩)⟩) | (cases hs; exact ⟨rfl, Or.inr (Or.inr ⟨_, rfl⟩)⟩))
    | (unfold a_ist at hs; (repeat' split at hs) <;> first | (cases hs; done) | (cases hs; exact ⟨rfl, Or.inl ⟨_, rfl⟩⟩) | (cases hs; exact ⟨rfl, Or.inr (Or.inl ⟨_, rfl⟩)⟩) | (cases hs; exact ⟨rfl, Or.inr (Or.inr ⟨_, rfl⟩)⟩))
    | (unfold a_lst at hs; (repeat' split at hs) <;> first | (cases hs; done) | (cases hs; exact ⟨rfl, Or.inl ⟨_, rfl⟩⟩) | (cases hs; exact ⟨rfl, Or.inr (Or.inl ⟨_, rfl⟩)⟩) | (cases hs; exact ⟨rfl, Or.inr (Or.inr ⟨_, rfl⟩)⟩))
    | (unfold a_ast at hs; (repeat' split at hs) <;> first | (cases hs; done) | (cases hs; exact ⟨rfl, Or.inl ⟨_, rfl⟩⟩) | (cases hs; exact ⟨rfl, Or.inr (Or.inl ⟨_, rfl⟩)⟩) | (cases hs; exact ⟨rfl, Or.inr (Or.inr ⟨_, rfl⟩)⟩))
    | (unfold a_iinc at hs; (repeat' split at hs) <;> first | (cases hs; done) | (cases hs; exact ⟨rfl, Or.inl ⟨_, rfl⟩⟩) | (cases hs; exact ⟨rfl, Or.inr (Or.inl ⟨_, rfl⟩)⟩) | (cases hs; exact ⟨rfl, Or.inr (Or.inr ⟨_, rfl⟩)⟩))
    | (unfold a_ii at hs; (repeat' split at hs) <;> first | (cases hs; done) | (cases hs; exact ⟨rfl, Or.inl ⟨_, rfl⟩⟩) | (cases hs; exact ⟨rfl, Or.inr (Or.inl ⟨_, rfl⟩)⟩) | (cases hs; exact ⟨rfl, Or.inr (Or.inr ⟨_, rfl⟩)⟩))
    | (unfold a_ii0 at hs; (repeat' split at hs) <;> first | (cases hs; done) | (cases hs; exact ⟨rfl, Or.inl ⟨_, rfl⟩⟩) | (cases hs; exact ⟨rfl, Or.inr (Or.inl ⟨_, rfl⟩)⟩) | (cases hs; exact ⟨rfl, Or.inr (Or.inr ⟨_, rfl⟩)⟩))
    | (unfold a_i at hs; (repeat' split at hs) <;> first | (cases hs; done) | (cases hs; exact ⟨rfl, Or.inl ⟨_, rfl⟩⟩) | (cases hs; exact ⟨rfl, Or.inr (Or.inl ⟨_, rfl⟩)⟩) | (cases hs; exact ⟨rfl, Or.inr (Or.inr ⟨_, rfl⟩)⟩))
    | (unfold a_ll at hs; (repeat' split at hs) <;> first | (cases hs; done) | (cases hs; exact ⟨rfl, Or.inl ⟨_, rfl⟩⟩) | (cases hs; exact ⟨rfl, Or.inr (Or.inl ⟨_, rfl⟩)⟩) | (cases hs; exact ⟨rfl, Or.inr (Or.inr ⟨_, rfl⟩)⟩))
    | (unfold a_ll0 at hs; (repeat' split at hs) <;> first | (cases hs; done) | (cases hs; exact ⟨rfl, Or.inl ⟨_, rfl⟩⟩) | (cases hs; exact ⟨rfl, Or.inr (Or.inl ⟨_, rfl⟩)⟩) | (cases hs; exact ⟨rfl, Or.inr (Or.inr ⟨_, rfl⟩)⟩))
    | (unfold a_lshl at hs; (repeat' split at hs) <;> first | (cases hs; done) | (cases hs; exact ⟨rfl, Or.inl ⟨_, rfl⟩⟩) | (cases hs; exact ⟨rfl, Or.inr (Or.inl ⟨_, rfl⟩)⟩) | (cases hs; exact ⟨rfl, Or.inr (Or.inr ⟨_, rfl⟩)⟩))
    | (unfold a_lcmp at hs; (repeat' split at hs) <;> first | (cases hs; done) | (cases hs; exact ⟨rfl, Or.inl ⟨_, rfl⟩⟩) | (cases hs; exact ⟨rfl, Or.inr (Or.inl ⟨_, rfl⟩)⟩) | (cases hs; exact ⟨rfl, Or.inr (Or.inr ⟨_, rfl⟩)⟩))
    | (unfold a_i2l at hs; (repeat' split at hs) <;> first | (cases hs; done) | (cases hs; exact ⟨rfl, Or.inl ⟨_, rfl⟩⟩) | (cases hs; exact ⟨rfl, Or.inr (Or.inl ⟨_, rfl⟩)⟩) | (cases hs; exact ⟨rfl, Or.inr (Or.inr ⟨_, rfl⟩)⟩))
    | (unfold a_l2i at hs; (repeat' split at hs) <;> first | (cases hs; done) | (cases hs; exact ⟨rfl, Or.inl ⟨_, rfl⟩⟩) | (cases hs; exact ⟨rfl, Or.inr (Or.inl ⟨_, rfl⟩)⟩) | (cases hs; exact ⟨rfl, Or.inr (Or.inr ⟨_, rfl⟩)⟩))
    | (unfold a_dup at hs; (repeat' split at hs) <;> first | (cases hs; done) | (cases hs; exact ⟨rfl, Or.inl ⟨_, rfl⟩⟩) | (cases hs; exact ⟨rfl, Or.inr (Or.inl ⟨_, rfl⟩)⟩) | (cases hs; exact ⟨rfl, Or.inr (Or.inr ⟨_, rfl⟩)⟩))
    | (unfold a_dup2 at hs; (repeat' split at hs) <;> first | (cases hs; done) | (cases hs; exact ⟨rfl, Or.inl ⟨_, rfl⟩⟩) | (cases hs; exact ⟨rfl, Or.inr (Or.inl ⟨_, rfl⟩)⟩) | (cases hs; exact ⟨rfl, Or.inr (Or.inr ⟨_, rfl⟩)⟩))
    | (unfold a_pop at hs; (repeat' split at hs) <;> first | (cases hs; done) | (cases hs; exact ⟨rfl, Or.inl ⟨_, rfl⟩⟩) | (cases hs; exact ⟨rfl, Or.inr (Or.inl ⟨_, rfl⟩)⟩) | (cases hs; exact ⟨rfl, Or.inr (Or.inr ⟨_, rfl⟩)⟩))
    | (unfold a_tsw at hs; (repeat' split at hs) <;> first | (cases hs; done) | (cases hs; exact ⟨rfl, Or.inl ⟨_, rfl⟩⟩) | (cases hs; exact ⟨rfl, Or.inr (Or.inl ⟨_, rfl⟩)⟩) | (cases hs; exact ⟨rfl, Or.inr (Or.inr ⟨_, rfl⟩)⟩))
    | (unfold a_lsw at hs; (repeat' split at hs) <;> first | (cases hs; done) | (cases hs; exact ⟨rfl, Or.inl ⟨_, rfl⟩⟩) | (cases hs; exact ⟨rfl, Or.inr (Or.inl ⟨_, rfl⟩)⟩) | (cases hs; exact ⟨rfl, Or.inr (Or.inr ⟨_, rfl⟩)⟩))
    | (unfold a_get at hs; (repeat' split at hs) <;> first | (cases hs; done) | (cases hs; exact ⟨rfl, Or.inl ⟨_, rfl⟩⟩) | (cases hs; exact ⟨rfl, Or.inr (Or.inl ⟨_, rfl⟩)⟩) | (cases hs; exact ⟨rfl, Or.inr (Or.inr ⟨_, rfl⟩)⟩))
    | (unfold a_iald at hs; (repeat' split at hs) <;> first | (cases hs; done) | (cases hs; exact ⟨rfl, Or.inl ⟨_, rfl⟩⟩) | (cases hs; exact ⟨rfl, Or.inr (Or.inl ⟨_, rfl⟩)⟩) | (cases hs; exact ⟨rfl, Or.inr (Or.inr ⟨_, rfl⟩)⟩))
    | (unfold a_bald at hs; (repeat' split at hs) <;> first | (cases hs; done) | (cases hs; exact ⟨rfl, Or.inl ⟨_, rfl⟩⟩) | (cases hs; exact ⟨rfl, Or.inr (Or.inl ⟨_, rfl⟩)⟩) | (cases hs; exact ⟨rfl, Or.inr (Or.inr ⟨_, rfl⟩)⟩))
    | (unfold a_lald at hs; (repeat' split at hs) <;> first | (cases hs; done) | (cases hs; exact ⟨rfl, Or.inl ⟨_, rfl⟩⟩) | (cases hs; exact ⟨rfl, Or.inr (Or.inl ⟨_, rfl⟩)⟩) | (cases hs; exact ⟨rfl, Or.inr (Or.inr ⟨_, rfl⟩)⟩))
    | (unfold a_aald at hs; (repeat' split at hs) <;> first | (cases hs; done) | (cases hs; exact ⟨rfl, Or.inl ⟨_, rfl⟩⟩) | (cases hs; exact ⟨rfl, Or.inr (Or.inl ⟨_, rfl⟩)⟩) | (cases hs; exact ⟨rfl, Or.inr (Or.inr ⟨_, rfl⟩)⟩))
    | (unfold a_alen at hs; (repeat' split at hs) <;> first | (cases hs; done) | (cases hs; exact ⟨rfl, Or.inl ⟨_, rfl⟩⟩) | (cases hs; exact ⟨rfl, Or.inr (Or.inl ⟨_, rfl⟩)⟩) | (cases hs; exact ⟨rfl, Or.inr (Or.inr ⟨_, rfl⟩)⟩))
    | (unfold a_obj at hs; (repeat' split at hs) <;> first | (cases hs; done) | (cases hs; exact ⟨rfl, Or.inl ⟨_, rfl⟩⟩) | (cases hs; exact ⟨rfl, Or.inr (Or.inl ⟨_, rfl⟩)⟩) | (cases hs; exact ⟨rfl, Or.inr (Or.inr ⟨_, rfl⟩)⟩))
    | (unfold a_chr at hs; (repeat' split at hs) <;> first | (cases hs; done) | (cases hs; exact ⟨rfl, Or.inl ⟨_, rfl⟩⟩) | (cases hs; exact ⟨rfl, Or.inr (Or.inl ⟨_, rfl⟩)⟩) | (cases hs; exact ⟨rfl, Or.inr (Or.inr ⟨_, rfl⟩)⟩))
    | (unfold a_imax at hs; (repeat' split at hs) <;> first | (cases hs; done) | (cases hs; exact ⟨rfl, Or.inl ⟨_, rfl⟩⟩) | (cases hs; exact ⟨rfl, Or.inr (Or.inl ⟨_, rfl⟩)⟩) | (cases hs; exact ⟨rfl, Or.inr (Or.inr ⟨_, rfl⟩)⟩))
    | (unfold a_imin at hs; (repeat' split at hs) <;> first | (cases hs; done) | (cases hs; exact ⟨rfl, Or.inl ⟨_, rfl⟩⟩) | (cases hs; exact ⟨rfl, Or.inr (Or.inl ⟨_, rfl⟩)⟩) | (cases hs; exact ⟨rfl, Or.inr (Or.inr ⟨_, rfl⟩)⟩))
    | (unfold a_lmax at hs; (repeat' split at hs) <;> first | (cases hs; done) | (cases hs; exact ⟨rfl, Or.inl ⟨_, rfl⟩⟩) | (cases hs; exact ⟨rfl, Or.inr (Or.inl ⟨_, rfl⟩)⟩) | (cases hs; exact ⟨rfl, Or.inr (Or.inr ⟨_, rfl⟩)⟩))
    | (unfold a_lmin at hs; (repeat' split at hs) <;> first | (cases hs; done) | (cases hs; exact ⟨rfl, Or.inl ⟨_, rfl⟩⟩) | (cases hs; exact ⟨rfl, Or.inr (Or.inl ⟨_, rfl⟩)⟩) | (cases hs; exact ⟨rfl, Or.inr (Or.inr ⟨_, rfl⟩)⟩))
    | (unfold a_iret at hs; (repeat' split at hs) <;> first | (cases hs; done) | (cases hs; exact ⟨rfl, Or.inl ⟨_, rfl⟩⟩) | (cases hs; exact ⟨rfl, Or.inr (Or.inl ⟨_, rfl⟩)⟩) | (cases hs; exact ⟨rfl, Or.inr (Or.inr ⟨_, rfl⟩)⟩))
    | (unfold a_lret at hs; (repeat' split at hs) <;> first | (cases hs; done) | (cases hs; exact ⟨rfl, Or.inl ⟨_, rfl⟩⟩) | (cases hs; exact ⟨rfl, Or.inr (Or.inl ⟨_, rfl⟩)⟩) | (cases hs; exact ⟨rfl, Or.inr (Or.inr ⟨_, rfl⟩)⟩))
    | (unfold a_vret at hs; (repeat' split at hs) <;> first | (cases hs; done) | (cases hs; exact ⟨rfl, Or.inl ⟨_, rfl⟩⟩) | (cases hs; exact ⟨rfl, Or.inr (Or.inl ⟨_, rfl⟩)⟩) | (cases hs; exact ⟨rfl, Or.inr (Or.inr ⟨_, rfl⟩)⟩))
    | (unfold a_callV at hs; (repeat' split at hs) <;> first | (cases hs; done) | (cases hs; exact ⟨rfl, Or.inl ⟨_, rfl⟩⟩) | (cases hs; exact ⟨rfl, Or.inr (Or.inl ⟨_, rfl⟩)⟩) | (cases hs; exact ⟨rfl, Or.inr (Or.inr ⟨_, rfl⟩)⟩))
    | (unfold a_callS at hs; (repeat' split at hs) <;> first | (cases hs; done) | (cases hs; exact ⟨rfl, Or.inl ⟨_, rfl⟩⟩) | (cases hs; exact ⟨rfl, Or.inr (Or.inl ⟨_, rfl⟩)⟩) | (cases hs; exact ⟨rfl, Or.inr (Or.inr ⟨_, rfl⟩)⟩))
    | (unfold a_if at hs; split at hs <;> first | (cases hs; done) | (cases hs; exact ⟨rfl, Or.inl ⟨_, rfl⟩⟩) | (cases hs; exact ⟨rfl, Or.inr (Or.inl ⟨_, rfl⟩)⟩) | (cases hs; exact ⟨rfl, Or.inr (Or.inr ⟨_, rfl⟩)⟩))
    | (unfold a_cmp at hs; split at hs <;> first | (cases hs; done) | (cases hs; exact ⟨rfl, Or.inl ⟨_, rfl⟩⟩) | (cases hs; exact ⟨rfl, Or.inr (Or.inl ⟨_, rfl⟩)⟩) | (cases hs; exact ⟨rfl, Or.inr (Or.inr ⟨_, rfl⟩)⟩))
    | (unfold a_put at hs; (repeat' split at hs) <;> first | (cases hs; done))
    | (unfold a_newa at hs; (repeat' split at hs) <;> first | (cases hs; done))
    | (unfold a_anew at hs; (repeat' split at hs) <;> first | (cases hs; done))
    | (unfold a_iast at hs; (repeat' split at hs) <;> first | (cases hs; done))
    | (unfold a_last at hs; (repeat' split at hs) <;> first | (cases hs; done))
    | (unfold a_bast at hs; (repeat' split at hs) <;> first | (cases hs; done))
    | (unfold a_aast at hs; (repeat' split at hs) <;> first | (cases hs; done))
    | (unfold a_copy at hs; (repeat' split at hs) <;> first | (cases hs; done))
