theorem aLvOf_put (lv : aL) (w : aR) : aLvOf (aPut lv w) lv := by
  rcases w with q | q | ⟨M, vs, q⟩
  · exact rfl
  · exact trivial
  · exact rfl
theorem thru {F : aL → Option aR} {lv lv' : aL} {w : aR} (hp : ∀ a b, F b = (F a).map (aPut b)) (hle : lvle lv lv') (hs : F lv = some w) : ∃ w', F lv' = some w' ∧ aRle w w' := by
  have h1 := hp lv lv'
  rw [hs] at h1
  refine ⟨aPut lv' w, h1, aRle_put hle ?_⟩
  have h2 := hp lv lv
  rw [hs] at h2
  have h3 : w = aPut lv w := Option.some.inj h2
  rw [h3]
  exact aLvOf_put lv w
theorem aRle_ret {w : aR} (h : ∃ q, w = .inr (.inl q)) : aRle w w := by
  obtain ⟨q, rfl⟩ := h
  exact rfl
theorem rk_i {st : List Value} {h : aH} {z : Nat} {w : aR} (hs : a_iret st h z = some w) : ∃ q, w = .inr (.inl q) := by
  unfold a_iret at hs
  (repeat' split at hs) <;> first | (cases hs; done) | (cases hs; exact ⟨_, rfl⟩)
theorem rk_l {st : List Value} {h : aH} {w : aR} (hs : a_lret st h = some w) : ∃ q, w = .inr (.inl q) := by
  unfold a_lret at hs
  (repeat' split at hs) <;> first | (cases hs; done) | (cases hs; exact ⟨_, rfl⟩)
theorem rk_v {st : List Value} {h : aH} {w : aR} (hs : a_vret st h = some w) : ∃ q, w = .inr (.inl q) := by
  unfold a_vret at hs
  (repeat' split at hs) <;> first | (cases hs; done) | (cases hs; exact ⟨_, rfl⟩)
section P24
variable {X : aX} {pc : Nat} {lv lv' : aL} {st : List Value} {h : aH} {w : aR}
theorem t_a_ild {len i : Nat} (hle : lvle lv lv') (hs : a_ild pc lv st h len i = some w) : ∃ w', a_ild pc lv' st h len i = some w' ∧ aRle w w' := by
  unfold a_ild at hs ⊢
  split at hs
  · rename_i x hx
    cases hs
    rw [lvle_get hle i _ hx]
    exact ⟨_, rfl, rfl, hle, rfl⟩
  · cases hs
theorem t_a_lld {len i : Nat} (hle : lvle lv lv') (hs : a_lld pc lv st h len i = some w) : ∃ w', a_lld pc lv' st h len i = some w' ∧ aRle w w' := by
  unfold a_lld at hs ⊢
  split at hs
  · rename_i x hx
    cases hs
    rw [lvle_get hle i _ hx]
    exact ⟨_, rfl, rfl, hle, rfl⟩
  · cases hs
theorem t_a_ald {len i : Nat} (hle : lvle lv lv') (hs : a_ald pc lv st h len i = some w) : ∃ w', a_ald pc lv' st h len i = some w' ∧ aRle w w' := by
  unfold a_ald at hs ⊢
  split at hs
  · rename_i x hx
    cases hs
    rw [lvle_get hle i _ hx]
    exact ⟨_, rfl, rfl, hle, rfl⟩
  · rename_i x hx
    cases hs
    rw [lvle_get hle i _ hx]
    exact ⟨_, rfl, rfl, hle, rfl⟩
  · cases hs
theorem t_a_iinc {len i : Nat} {n : Int} (hle : lvle lv lv') (hs : a_iinc pc lv st h len i n = some w) : ∃ w', a_iinc pc lv' st h len i n = some w' ∧ aRle w w' := by
  unfold a_iinc at hs ⊢
  split at hs
  · rename_i x hx
    cases hs
    rw [lvle_get hle i _ hx]
    exact ⟨_, rfl, rfl, lvle_aSet hle i _, rfl⟩
  · cases hs
theorem t_a_ist {len i : Nat} (hle : lvle lv lv') (hs : a_ist pc lv st h len i = some w) : ∃ w', a_ist pc lv' st h len i = some w' ∧ aRle w w' := by
  unfold a_ist at hs ⊢
  split at hs
  · split at hs
    · rename_i hi
      cases hs
      rw [if_pos (by rw [← lvle_len hle]; exact hi)]
      exact ⟨_, rfl, rfl, lvle_aSet hle i _, rfl⟩
    · cases hs
  · cases hs
theorem t_a_ast {len i : Nat} (hle : lvle lv lv') (hs : a_ast pc lv st h len i = some w) : ∃ w', a_ast pc lv' st h len i = some w' ∧ aRle w w' := by
  unfold a_ast at hs ⊢
  split at hs
  · split at hs
    · rename_i hi
      cases hs
      rw [if_pos (by rw [← lvle_len hle]; exact hi)]
      exact ⟨_, rfl, rfl, lvle_aSet hle i _, rfl⟩
    · cases hs
  · cases hs
theorem t_a_lst {len i : Nat} (hle : lvle lv lv') (hs : a_lst pc lv st h len i = some w) : ∃ w', a_lst pc lv' st h len i = some w' ∧ aRle w w' := by
  unfold a_lst at hs ⊢
  split at hs
  · split at hs
    · rename_i hi
      cases hs
      rw [if_pos (by rw [← lvle_len hle]; exact hi)]
      exact ⟨_, rfl, rfl, lvle_aSet (lvle_set hle (i + 1) none) i _, rfl⟩
    · cases hs
  · cases hs
set_option maxHeartbeats 8000000 in
theorem aStep_lv {r : aI} (hle : lvle lv lv') (hs : aStep X r pc lv st h = some w) : ∃ w', aStep X r pc lv' st h = some w' ∧ aRle w w' := by
  obtain ⟨i, len, a, b, v⟩ := r
  unfold aStep at hs ⊢
  cases i with
  | aload k => exact t_a_ald hle hs
  | aload_n k => exact t_a_ald hle hs
  | iload k => exact t_a_ild hle hs
  | iload_n k => exact t_a_ild hle hs
  | lload k => exact t_a_lld hle hs
  | lload_n k => exact t_a_lld hle hs
  | istore k => exact t_a_ist hle hs
  | istore_n k => exact t_a_ist hle hs
  | lstore k => exact t_a_lst hle hs
  | lstore_n k => exact t_a_lst hle hs
  | astore k => exact t_a_ast hle hs
  | astore_n k => exact t_a_ast hle hs
  | iinc k n => exact t_a_iinc hle hs
  | iconst z => exact thru (F := fun l => a_push pc l st h len v) (fun _ _ => p_a_push len v) hle hs
  | bipush z => exact thru (F := fun l => a_push pc l st h len v) (fun _ _ => p_a_push len v) hle hs
  | sipush z => exact thru (F := fun l => a_push pc l st h len v) (fun _ _ => p_a_push len v) hle hs
  | lconst z => exact thru (F := fun l => a_push pc l st h len v) (fun _ _ => p_a_push len v) hle hs
  | ldc z => exact thru (F := fun l => a_push pc l st h len v) (fun _ _ => p_a_push len v) hle hs
  | ldc_w z => exact thru (F := fun l => a_push pc l st h len v) (fun _ _ => p_a_push len v) hle hs
  | ldc2_w z => exact thru (F := fun l => a_push pc l st h len v) (fun _ _ => p_a_push len v) hle hs
  | iadd => exact thru (F := fun l => a_ii pc l st h (fun x y => x + y)) (fun _ _ => p_a_ii (fun x y => x + y)) hle hs
  | isub => exact thru (F := fun l => a_ii pc l st h (fun x y => x - y)) (fun _ _ => p_a_ii (fun x y => x - y)) hle hs
  | imul => exact thru (F := fun l => a_ii pc l st h (fun x y => x * y)) (fun _ _ => p_a_ii (fun x y => x * y)) hle hs
  | iand => exact thru (F := fun l => a_ii pc l st h (fun x y => x &&& y)) (fun _ _ => p_a_ii (fun x y => x &&& y)) hle hs
  | ior => exact thru (F := fun l => a_ii pc l st h (fun x y => x ||| y)) (fun _ _ => p_a_ii (fun x y => x ||| y)) hle hs
  | ishl => exact thru (F := fun l => a_ii pc l st h (fun x y => x <<< (y &&& 31))) (fun _ _ => p_a_ii (fun x y => x <<< (y &&& 31))) hle hs
  | ishr => exact thru (F := fun l => a_ii pc l st h (fun x y => x >>> (y &&& 31))) (fun _ _ => p_a_ii (fun x y => x >>> (y &&& 31))) hle hs
  | idiv => exact thru (F := fun l => a_ii0 pc l st h (fun x y => x / y)) (fun _ _ => p_a_ii0 (fun x y => x / y)) hle hs
  | irem => exact thru (F := fun l => a_ii0 pc l st h (fun x y => x - x / y * y)) (fun _ _ => p_a_ii0 (fun x y => x - x / y * y)) hle hs
  | ineg => exact thru (F := fun l => a_i pc l st h (fun x => -x)) (fun _ _ => p_a_i (fun x => -x)) hle hs
  | i2b => exact thru (F := fun l => a_i pc l st h (fun x => x.toInt8.toInt32)) (fun _ _ => p_a_i (fun x => x.toInt8.toInt32)) hle hs
  | ladd => exact thru (F := fun l => a_ll pc l st h (fun x y => x + y)) (fun _ _ => p_a_ll (fun x y => x + y)) hle hs
  | lsub => exact thru (F := fun l => a_ll pc l st h (fun x y => x - y)) (fun _ _ => p_a_ll (fun x y => x - y)) hle hs
  | lmul => exact thru (F := fun l => a_ll pc l st h (fun x y => x * y)) (fun _ _ => p_a_ll (fun x y => x * y)) hle hs
  | land => exact thru (F := fun l => a_ll pc l st h (fun x y => x &&& y)) (fun _ _ => p_a_ll (fun x y => x &&& y)) hle hs
  | lor => exact thru (F := fun l => a_ll pc l st h (fun x y => x ||| y)) (fun _ _ => p_a_ll (fun x y => x ||| y)) hle hs
  | ldiv => exact thru (F := fun l => a_ll0 pc l st h (fun x y => x / y)) (fun _ _ => p_a_ll0 (fun x y => x / y)) hle hs
  | lrem => exact thru (F := fun l => a_ll0 pc l st h (fun x y => x - x / y * y)) (fun _ _ => p_a_ll0 (fun x y => x - x / y * y)) hle hs
  | lshl => exact thru (F := fun l => a_lshl pc l st h ) (fun _ _ => p_a_lshl ) hle hs
  | lcmp => exact thru (F := fun l => a_lcmp pc l st h ) (fun _ _ => p_a_lcmp ) hle hs
  | i2l => exact thru (F := fun l => a_i2l pc l st h ) (fun _ _ => p_a_i2l ) hle hs
  | l2i => exact thru (F := fun l => a_l2i pc l st h ) (fun _ _ => p_a_l2i ) hle hs
  | dup => exact thru (F := fun l => a_dup pc l st h ) (fun _ _ => p_a_dup ) hle hs
  | dup2 => exact thru (F := fun l => a_dup2 pc l st h ) (fun _ _ => p_a_dup2 ) hle hs
  | pop => exact thru (F := fun l => a_pop pc l st h ) (fun _ _ => p_a_pop ) hle hs
  | ifCond cd off =>
    cases cd with
    | eq => exact thru (F := fun l => a_if pc l st h off (fun x => decide (x = 0))) (fun a b => p_a_if off (fun x => decide (x = 0))) hle hs
    | ne => exact thru (F := fun l => a_if pc l st h off (fun x => decide (¬ x = 0))) (fun a b => p_a_if off (fun x => decide (¬ x = 0))) hle hs
    | lt => exact thru (F := fun l => a_if pc l st h off (fun x => decide (x < 0))) (fun a b => p_a_if off (fun x => decide (x < 0))) hle hs
    | ge => exact thru (F := fun l => a_if pc l st h off (fun x => decide (0 ≤ x))) (fun a b => p_a_if off (fun x => decide (0 ≤ x))) hle hs
    | gt => exact thru (F := fun l => a_if pc l st h off (fun x => decide (0 < x))) (fun a b => p_a_if off (fun x => decide (0 < x))) hle hs
    | le => exact thru (F := fun l => a_if pc l st h off (fun x => decide (x ≤ 0))) (fun a b => p_a_if off (fun x => decide (x ≤ 0))) hle hs
  | if_icmp cd off =>
    cases cd with
    | eq => exact thru (F := fun l => a_cmp pc l st h off (fun x y => decide (x = y))) (fun a b => p_a_cmp off (fun x y => decide (x = y))) hle hs
    | ne => exact thru (F := fun l => a_cmp pc l st h off (fun x y => decide (¬ x = y))) (fun a b => p_a_cmp off (fun x y => decide (¬ x = y))) hle hs
    | lt => exact thru (F := fun l => a_cmp pc l st h off (fun x y => decide (x < y))) (fun a b => p_a_cmp off (fun x y => decide (x < y))) hle hs
    | ge => exact thru (F := fun l => a_cmp pc l st h off (fun x y => decide (y ≤ x))) (fun a b => p_a_cmp off (fun x y => decide (y ≤ x))) hle hs
    | gt => exact thru (F := fun l => a_cmp pc l st h off (fun x y => decide (y < x))) (fun a b => p_a_cmp off (fun x y => decide (y < x))) hle hs
    | le => exact thru (F := fun l => a_cmp pc l st h off (fun x y => decide (x ≤ y))) (fun a b => p_a_cmp off (fun x y => decide (x ≤ y))) hle hs
  | goto off => exact thru (F := fun l => a_goto pc l st h off) (fun _ _ => p_a_goto off) hle hs
  | tableswitch dflt lo hi offs => exact thru (F := fun l => a_tsw pc l st h dflt lo hi offs) (fun _ _ => p_a_tsw dflt lo hi offs) hle hs
  | lookupswitch dflt ps => exact thru (F := fun l => a_lsw pc l st h dflt ps) (fun _ _ => p_a_lsw dflt ps) hle hs
  | getfield z => exact thru (F := fun l => a_get pc l st h a b) (fun _ _ => p_a_get a b) hle hs
  | putfield z => exact thru (F := fun l => a_put pc l st h a b) (fun _ _ => p_a_put a b) hle hs
  | new z => exact thru (F := fun l => a_new pc l st h a) (fun _ _ => p_a_new a) hle hs
  | newarray z => exact thru (F := fun l => a_newa pc l st h a) (fun _ _ => p_a_newa a) hle hs
  | anewarray z => exact thru (F := fun l => a_anew pc l st h a) (fun _ _ => p_a_anew a) hle hs
  | iaload => exact thru (F := fun l => a_iald pc l st h X) (fun _ _ => p_a_iald X) hle hs
  | arraylength => exact thru (F := fun l => a_alen pc l st h X) (fun _ _ => p_a_alen X) hle hs
  | baload => exact thru (F := fun l => a_bald pc l st h ) (fun _ _ => p_a_bald ) hle hs
  | laload => exact thru (F := fun l => a_lald pc l st h ) (fun _ _ => p_a_lald ) hle hs
  | aaload => exact thru (F := fun l => a_aald pc l st h ) (fun _ _ => p_a_aald ) hle hs
  | iastore => exact thru (F := fun l => a_iast pc l st h ) (fun _ _ => p_a_iast ) hle hs
  | bastore => exact thru (F := fun l => a_bast pc l st h ) (fun _ _ => p_a_bast ) hle hs
  | lastore => exact thru (F := fun l => a_last pc l st h ) (fun _ _ => p_a_last ) hle hs
  | aastore => exact thru (F := fun l => a_aast pc l st h ) (fun _ _ => p_a_aast ) hle hs
  | ireturn => exact ⟨w, hs, aRle_ret (rk_i hs)⟩
  | lreturn => exact ⟨w, hs, aRle_ret (rk_l hs)⟩
  | return_ => exact ⟨w, hs, aRle_ret (rk_v hs)⟩
  | invokespecial z =>
    simp only at hs ⊢
    by_cases h9 : a = 1000
    · rw [if_pos h9] at hs ⊢
      exact thru (F := fun l => a_obj pc l st h) (fun a b => p_a_obj) hle hs
    · rw [if_neg h9] at hs ⊢
      split at hs
      · rename_i k
        exact thru (F := fun l => a_callV pc l st h k.toNatClampNeg a b) (fun c d => p_a_callV k.toNatClampNeg a b) hle hs
      · cases hs
  | invokevirtual z =>
    simp only at hs ⊢
    by_cases h9 : a = 1000
    · rw [if_pos h9] at hs ⊢
      exact thru (F := fun l => a_chr pc l st h) (fun a b => p_a_chr) hle hs
    · rw [if_neg h9] at hs ⊢
      split at hs
      · rename_i k
        exact thru (F := fun l => a_callV pc l st h k.toNatClampNeg a b) (fun c d => p_a_callV k.toNatClampNeg a b) hle hs
      · cases hs
  | invokestatic z =>
    simp only at hs ⊢
    by_cases h9 : 1000 ≤ a
    · rw [if_pos h9] at hs ⊢
      exact thru (F := fun l => a_prim (a - 1000) pc l st h) (fun c d => by
        unfold a_prim
        split
        · exact p_a_copy
        · exact p_a_imax
        · exact p_a_imin
        · exact p_a_lmax
        · exact p_a_lmin
        · rfl) hle hs
    · rw [if_neg h9] at hs ⊢
      exact thru (F := fun l => a_callS pc l st h a b) (fun c d => p_a_callS a b) hle hs
  | _ => cases hs
end P24
theorem aRun_lv {X : aX} : ∀ (n d M pc : Nat) (lv lv' : aL) (st : List Value) (h : aH) (z : Option Value × aH), lvle lv lv' → aRun X n d M pc lv st h = some z → aRun X n d M pc lv' st h = some z := by
  intro n
  induction n with
  | zero => intro d M pc lv lv' st h z _ hr; cases hr
  | succ n ih =>
    intro d M pc lv lv' st h z hle hr
    rw [aRun_s] at hr ⊢
    unfold aGo at hr ⊢
    cases hi : aIns M pc with
    | none => rw [hi] at hr; cases hr
    | some r =>
      rw [hi] at hr
      simp only at hr ⊢
      cases hs : aStep X r pc lv st h with
      | none => rw [hs] at hr; cases hr
      | some w =>
        rw [hs] at hr
        obtain ⟨w', hs', hw⟩ := aStep_lv hle hs
        rw [hs']
        rcases w with q | q | ⟨M', vs, q⟩ <;> rcases w' with q' | q' | ⟨M2, vs2, q'⟩
        · obtain ⟨a1, a2, a3, a4⟩ := q
          obtain ⟨b1, b2, b3, b4⟩ := q'
          obtain ⟨e1, e2, e3⟩ := hw
          cases e1; cases e3
          exact ih _ _ _ _ _ _ _ _ e2 hr
        · exact absurd hw id
        · exact absurd hw id
        · exact absurd hw id
        · cases (show q = q' from hw)
          exact hr
        · exact absurd hw id
        · exact absurd hw id
        · exact absurd hw id
        · obtain ⟨a1, a2, a3, a4⟩ := q
          obtain ⟨b1, b2, b3, b4⟩ := q'
          obtain ⟨e0, e0', e1, e2, e3⟩ := hw
          cases e0; cases e0'; cases e1; cases e3
          cases d with
          | zero => cases hr
          | succ e =>
            simp only at hr ⊢
            cases hM : aMs[M']? with
            | none => rw [hM] at hr; cases hr
            | some y =>
              rw [hM] at hr
              simp only at hr ⊢
              by_cases hen : (aEntry vs).length ≤ y.2.2.1
              · rw [if_pos hen] at hr ⊢
                cases hr1 : aRun X n e M' 0 (aEntL vs y.2.2.1) [] a4 with
                | none => rw [hr1] at hr; cases hr
                | some u =>
                  obtain ⟨v1, h1⟩ := u
                  rw [hr1] at hr
                  exact ih _ _ _ _ _ _ _ _ e2 hr
              · rw [if_neg hen] at hr
                cases hr
theorem aWp.forget {X : aX} {d M pc : Nat} {lv lv' : aL} {st : List Value} {h : aH} {Q : Option Value → aH → Prop} (k : aWp X d M pc lv st h Q) (hle : lvle lv lv') : aWp X d M pc lv' st h Q := by
  obtain ⟨n, v, h', h1, h2⟩ := k
  exact ⟨n, v, h', aRun_lv _ _ _ _ _ _ _ _ _ hle h1, h2⟩
theorem dk_if {α : Type} {p : Prop} [Decidable p] {a : Option α} {b : α} (h : (if p then a else none) = some b) : p ∧ a = some b := by
  by_cases hp : p
  · rw [if_pos hp] at h
    exact ⟨hp, h⟩
  · rw [if_neg hp] at h
    cases h
theorem dk_bind {α β : Type} {o : Option α} {f : α → Option β} {b : β} (h : o.bind f = some b) : ∃ z, o = some z ∧ f z = some b := by
  cases o with
  | none => cases h
  | some z => exact ⟨z, rfl, h⟩
