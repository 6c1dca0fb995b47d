/-! days, of the reference: all rows -/
def bdF (B : rB) (w : Nat → Int32) (q D fr W : Nat) (r : Nat → Nat) (b : bO) : bO := off b (nI (cdN B w q D fr W r)) W (fun i => nI (r i))
section DS
variable {g k : Nat} {m : cM} {S : rS} {B : rB} {w : Nat → Int32} {q T W C Sa R : Nat} {x : Int32}
theorem q_l249z {x1 : Int32} (hW6 : W ≤ 6) : ∀ (j i n : Nat) (S : rS), S.2.1 20 2 = nI W → i + j = W → j + 1 ≤ n → (∀ d, d < i → S.2.1 32 d = 0) → ∃ S', l_249 g n 0 x1 (nI i) S = l_249 g (n - (j + 1)) 1 x1 1 S' ∧ (∀ d, d < W → S'.2.1 32 d = 0) ∧ rc [] [32] S S' := by
  intro j
  induction j with
  | zero =>
    intro i n S h2 hi hn h
    obtain ⟨n, rfl⟩ : ∃ n', n = n' + 1 := ⟨n - 1, by omega⟩
    have e : i = W := by omega
    subst e
    refine ⟨S, ?_, h, rc.rf _⟩
    rw [l_249, if_pos rfl, if_pos (show aIn (2 : Int32) 181 = true by decide), show (2 : Int32).toNatClampNeg = 2 from rfl, h2, if_pos (Int32.le_refl _)]
    rfl
  | succ j ih =>
    intro i n S h2 hi hn h
    obtain ⟨n, rfl⟩ : ∃ n', n = n' + 1 := ⟨n - 1, by omega⟩
    obtain ⟨S', y1, y2, y3⟩ := ih (i + 1) n (rA S 32 (upd (S.2.1 32) i 0)) (by rw [rA_n (by decide)]; exact h2) (by omega) (by omega) (by
      intro d hd
      rw [rA_s]
      by_cases e : d = i
      · subst e; exact upd_s
      · rw [upd_n e]; exact h d (by omega))
    refine ⟨S', ?_, y2, (rc.A (by decide)).tr y3⟩
    rw [show n + 1 - (j + 1 + 1) = n - (j + 1) by omega, ← y1, l_249, if_pos rfl, if_pos (show aIn (2 : Int32) 181 = true by decide), show (2 : Int32).toNatClampNeg = 2 from rfl, h2, if_neg (nI_ge (by omega) (by omega)), if_pos (k_in (by omega) (by omega)), k_cl (by omega), show nI i + 1 = nI (i + 1) from nI_1 i]
theorem q_l249b {D fr : Nat} {x1 : Int32} (hg : 2000 ≤ g) (hV : shV w T W C Sa) (hst : stV w T C k) (hR : rbR m.1 B R) (hq : q ≤ R) (hD : w 7 = nI D) (hDb : D ≤ 10000) (h5 : w 5 = nI fr) (hfr : fr ≤ 9999) : ∀ (N n : Nat) (S : rS) (r : Nat → Nat) (b b' : bO), odI (bdF B w q D fr W) (fun _ p => dyW w D p) W N r b b' → N ≤ n → rx S B w q x R → (∀ d, d < W → S.2.1 32 d = nI (r d) ∧ r d ≤ dyW w D d) → rst S b → ∃ n' S', n ≤ n' + N ∧ l_249 g n 1 x1 1 S = l_249 g n' 1 x1 0 S' ∧ rc [18, 24, 25, 29, 30] [28, 32] S S' ∧ rst S' b' := by
  have hW6 := hV.2.1.2
  intro N
  induction N with
  | zero => intro n S r b b' h; exact h.elim
  | succ N ih =>
    intro n S r b b' h hn hx h32 hb
    obtain ⟨n, rfl⟩ : ∃ n', n = n' + 1 := ⟨n - 1, by omega⟩
    obtain ⟨S1, y1, y2⟩ := q_l247 (g := g) (m := m) (B := B) (q := q) (x := x) (r := r) (D := D) (fr := fr) hg hV hst hR hq hD h5 hfr 5 0 g S (by omega) (by omega) hx (fun d hd => ⟨(h32 d hd).1, Nat.le_trans (h32 d hd).2 dyW_b⟩)
    have y1 : d_247 g S = some (nI (cdN B w q D fr W r), S1) := y1
    have hx1 : rx S1 B w q x R := hx.rs (y2.mo (by decide) (by decide))
    have a32 : ∀ d, d < W → S1.2.1 32 d = nI (r d) ∧ r d ≤ dyW w D d := fun d hd => by rw [y2.2 32 (by simp)]; exact h32 d hd
    obtain ⟨S2, z1, z2, z3⟩ := q_242 (g := g) (S := S1) (W := W) (r := r) (v := nI (cdN B w q D fr W r)) (b := b) (by omega) (by rw [hx1.1]; exact hV.2.1.1) hW6 (fun d hd => (a32 d hd).1) (hb.co (y2.1 29 (by decide)) (y2.1 30 (by decide)) (y2.2 28 (by simp)))
    have hx2 : rx S2 B w q x R := hx1.rs (z3.mo (by decide) (by decide))
    have b32 : ∀ d, d < W → S2.2.1 32 d = nI (r d) ∧ r d ≤ dyW w D d := fun d hd => by rw [z3.2 32 (by decide)]; exact a32 d hd
    obtain ⟨S3, u1, u2, u3⟩ := q_248 (g := g) (S := S2) (r := r) (by omega) hV hx2.1 hD hDb b32
    have hx3 : rx S3 B w q x R := hx2.rs (u2.mo (by decide) (by decide))
    have hrc3 : rc [18, 24, 25, 29, 30] [28, 32] S S3 := ((y2.mo (by decide) (by decide)).tr (z3.mo (by decide) (by decide))).tr (u2.mo (by decide) (by decide))
    have b3 : rst S3 (bdF B w q D fr W r b) := z2.co (u2.1 29 (by simp)) (u2.1 30 (by simp)) (u2.2 28 (by decide))
    have e1 : l_249 g (n + 1) 1 x1 1 S = l_249 g n 1 x1 (match odP (fun _ p => dyW w D p) r W with
        | none => 0
        | some _ => 1) S3 := by
      rw [l_249, if_neg (by decide), if_pos rfl, if_neg (show ¬ (1 : Int32) = 0 by decide), y1, Option.bind_some, z1, Option.bind_some, u1, Option.bind_some]
      cases odP (fun _ p => dyW w D p) r W <;> rfl
    rw [e1]
    unfold odI at h
    cases hp : odP (fun _ p => dyW w D p) r W with
    | none =>
      rw [hp] at h
      refine ⟨n, S3, by omega, rfl, hrc3, ?_⟩
      rw [h.2]
      exact b3
    | some p =>
      rw [hp] at h u3
      obtain ⟨p1, p2⟩ := odP_lt hp
      have p2 : r p < dyW w D p := p2
      obtain ⟨n', S', v1, v2, v3, v4⟩ := ih n S3 (odN r p) _ b' h (by omega) hx3 (fun d hd => ⟨u3 d hd, by
        show (if d < p then r d else if d = p then r p + 1 else 0) ≤ dyW w D d
        by_cases e1 : d < p
        · rw [if_pos e1]; exact (h32 d hd).2
        · rw [if_neg e1]
          by_cases e2 : d = p
          · rw [if_pos e2, e2]; omega
          · rw [if_neg e2]; omega⟩) b3
      exact ⟨n', S', by omega, v2, hrc3.tr v3, v4⟩
end DS
