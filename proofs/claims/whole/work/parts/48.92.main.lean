/-! EVERY RUN OF THE PURE MACHINE IS ONE OF THE MACHINE -/
theorem aLook {rs : List (Nat × aI)} {k : Nat} {r : aI} (h : rs.lookup k = some r) : (k, r) ∈ rs := by
  induction rs with
  | nil => cases h
  | cons a t ih =>
    obtain ⟨a1, a2⟩ := a
    rw [List.lookup_cons] at h
    split at h
    · rename_i he
      cases h
      rw [eq_of_beq he]
      exact List.mem_cons_self
    · exact List.mem_cons_of_mem _ (ih h)
theorem aIns_ok {M pc : Nat} {r : aI} {y : aMt} (hM : aMs[M]? = some y) (h : aIns M pc = some r) : aOwn y.2.2.2.2.2.1 = y.1.cls ∧ decode y.2.1 pc = .ok (r.1, r.2.1) ∧ aOKi y.2.2.2.2.2.1 (decide (y.1.name = "<init>")) y.2.2.2.1 pc r = true := by
  unfold aIns at h
  rw [hM] at h
  have h1 := aOK_all y (aMs_of hM)
  unfold aOKm at h1
  rw [Bool.and_eq_true] at h1
  have h2 := List.all_eq_true.mp h1.2 _ (aLook h)
  unfold aRow at h2
  rw [Bool.and_eq_true] at h2
  exact ⟨of_decide_eq_true h1.1, of_decide_eq_true h2.1, h2.2⟩
set_option maxRecDepth 100000 in
theorem a_4 {d F L : Nat} (h : d + 4 ≤ F) (hl : 64 * (d + 4) ≤ L) : 1 ≤ F ∧ 64 ≤ L ∧ 4 ≤ F ∧ 128 ≤ L := by omega
set_option maxHeartbeats 8000000 in
theorem a_main (X : aX) : ∀ n, aSnd X n := by
  intro n
  induction n with
  | zero =>
    intro d M pc lv st h v hf y hM hrun
    cases hrun
  | succ n ih =>
    intro d M pc lv st h v hf y hM hrun p l e R s m args below meth c Q K D ty n0 s0 F hn0 hs0 hrm hfr hlo hret
    have hmo := aRun_mo _ _ _ _ _ _ _ _ _ hrun
    obtain ⟨z1, z2, z3, z4⟩ := a_4 hfr hlo
    unfold aRun at hrun
    split at hrun
    · cases hrun
    · rename_i r hi
      obtain ⟨hown, hd, hok⟩ := aIns_ok hM hi
      obtain ⟨i, len, a, b, v0⟩ := r
      split at hrun
      · cases hrun
      · rename_i q hs
        have m1 := aStep_mo hs
        have m2 := aRun_mo _ _ _ _ _ _ _ _ _ hrun
        refine a_stp F hown hd hok hn0 hs0 z1 z2 (s_chr F z3 z4) hs ⟨?_, ?_⟩ ?_
        · have := m2.1; have := hrm.1; omega
        · have := m2.2; have := hrm.2; omega
        · exact ih d M q.1 q.2.1 q.2.2.1 q.2.2.2 v hf y hM hrun p l e R s m args below meth c Q K D ty n0 s0 F (Nat.le_trans hn0 m1.1) (Nat.le_trans hs0 m1.2) hrm hfr hlo hret
      · rename_i q hs
        cases hrun
        obtain ⟨e1, e2, e3⟩ := a_ret hd hok hs
        subst e1; subst e2
        intro ls H locs hl hr hS
        exact hret pc ls H locs e3 hr hS
      · rename_i M' vs q hs
        split at hrun
        · cases hrun
        · rename_i d'
          split at hrun
          · cases hrun
          · rename_i y' hM'
            split at hrun
            · rename_i hen
              split at hrun
              · cases hrun
              · rename_i v1 h1 hr1
                have c1 := (aStep_cm hs).1
                rw [c1] at hr1
                have m1 := aRun_mo _ _ _ _ _ _ _ _ _ hr1
                have m2 := aRun_mo _ _ _ _ _ _ _ _ _ hrun
                refine s_call F hown hd hok hs hM' hn0 hs0 m1 ⟨?_, ?_⟩ hfr hlo (fun hpl => a_met ih hM' hpl hen hr1 l K D ty) ?_
                · have := m2.1; have := hrm.1; omega
                · have := m2.2; have := hrm.2; omega
                · exact ih (d' + 1) M q.1 q.2.1 (v1.toList ++ q.2.2.1) h1 v hf y hM hrun p l e R s m args below meth c Q K D ty n0 s0 F (Nat.le_trans hn0 m1.1) (Nat.le_trans hs0 m1.2) hrm hfr hlo hret
            · cases hrun
