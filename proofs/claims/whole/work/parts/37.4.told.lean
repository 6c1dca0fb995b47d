section TD
variable {g k : Nat} {m : cM} {S : rS}
/-- said changes, nothing else of the reference -/
theorem Inv.td {w w' : Nat → Int32} {q T W C Sa R : Nat} {x : Int32} {m' : cM} {S' : rS} (h : Inv k m S) (hc : cx m (bS3 S) w q x T W C Sa R k) (hr : rx S (bS3 S) w q x R) (hpa : paI m S w T C k) (him : imI m S R k) (e1 : ∀ b, b ≠ 5 → ¬ (28 ≤ b ∧ b ≤ 31) → m'.1 b = m.1 b) (e2 : m'.2.2 = m.2.2) (e3 : m'.1 5 2 = m.1 5 2 ∧ m'.1 5 3 = m.1 5 3 ∧ m'.1 5 8 = w' 180) (e4 : ∀ i, i < nN (w' 180) → m'.1 28 i = w' (140 + 4 * i) ∧ m'.1 29 i = w' (141 + 4 * i) ∧ m'.1 30 i = w' (142 + 4 * i) ∧ m'.1 31 i = w' (143 + 4 * i)) (e5 : ∀ j, j < 140 → w' j = w j) (e6 : tdV w' T) (f1 : S'.1 = S.1) (f2 : S'.2.1 20 = w') (f3 : ∀ j, j ≠ 20 → S'.2.1 j = S.2.1 j) : Inv (k + 1) m' S' := by
  obtain ⟨a1, ⟨n, t1, t2, t3, t4⟩, -⟩ := h
  have eB : bS3 S' = bS3 S := by
    unfold bS3
    rw [f3 3 (by omega), f3 5 (by omega), f3 6 (by omega)]
  have hp := hc.1.2.2.2.2.2
  have hV := hc.2.1
  have hT := hV.1.2
  have hC := hV.2.2.1.2
  unfold spO at hp
  refine ⟨by rw [e2]; omega, ⟨n, t1, by rw [f1]; exact t2, by rw [e1 1 (by omega) (by omega)]; exact t3, by rw [e1 2 (by omega) (by omega), f3 0 (by omega)]; exact t4⟩, w', q, x, T, W, C, Sa, R, ?_, ?_, ?_, ?_⟩
  · rw [eB]
    obtain ⟨⟨d1, d2, d3, d4, d5, d6⟩, v1, v2, v3, v4, v5, v6⟩ := hc
    refine ⟨⟨?_, ?_, ⟨e3.1.trans d3.1, e3.2.1.trans d3.2.1, e3.2.2⟩, e4, ?_, ?_⟩, hV.cw (fun j hj => e5 j (by omega)), (v2.mo (by omega)).cw hT hC (fun j hj => e5 j (by omega)), e6, v4, v5, v6.congr (by rw [e1 32 (by omega) (by omega)]) (fun b h1 h2 => e1 b (by omega) (by omega))⟩
    · rw [e2]
      exact (d1.congr (fun i hi => e1 _ (by omega) (by omega))).cw hV (fun j hj => e5 j (by omega))
    · exact (d2.congr (fun i hi => e1 _ (by omega) (by omega))).cw v2 hT hC (fun j hj => e5 j (by omega))
    · rw [e2, cO_of e2]; exact d5
    · rw [e2]; exact d6
  · rw [eB]
    obtain ⟨r1, r2, r3, r4, r5, r6, r7⟩ := hr
    exact ⟨f2, by rw [f1]; exact r2, by rw [f1]; exact r3, (f3 3 (by omega)).trans r4, (f3 5 (by omega)).trans r5, (f3 6 (by omega)).trans r6, by rw [f1]; exact r7⟩
  · exact hpa.congr (by omega) (fun b h3 h4 => e1 b (by omega) (by omega)) (by rw [f1]) (f3 26 (by omega)) (fun j hj => e5 j (by omega))
  · exact him.congr (Nat.le_refl _) (by omega) (fun b h3 _ => e1 b (by omega) (by omega)) (fun b _ => by rw [e2]) (by rw [e2]; exact Nat.le_refl _) (f3 43 (by omega)) (f3 44 (by omega)) (f3 45 (by omega)) (f3 46 (by omega))
set_option maxHeartbeats 2000000 in
theorem s_told (hg : 2000 ≤ g) (h : Inv k m S) (a b c d : Int32) : St k (d_129 g a b c d m) (d_260 g a b c d S) := by
  obtain ⟨-, -, w, q, x, T, W, C, Sa, R, hc, hr, hpa, him⟩ := id h
  have hT8 := hc.2.1.1.2
  obtain ⟨N, hN1, hN2, hN3⟩ := hc.2.2.2.1
  have e58 : m.1 5 8 = nI N := hc.1.2.2.1.2.2.trans hN2
  have n180 : nN (w 180) = N := by rw [hN2]; exact n_cl (by omega)
  unfold d_129 d_260
  by_cases h1 : a = -1
  · have hn : ¬ ¬ a = -1 := fun z => z h1
    rw [if_neg hn, if_neg hn]
    refine ⟨0, _, _, rfl, rfl, ?_⟩
    refine h.td (w' := upd w 180 0) hc hr hpa him (fun b h1 h2 => cW_b h1) rfl ⟨cW_k (by decide), cW_k (by decide), by rw [cW_s, upd_s]⟩ (fun i hi => ?_) (fun j hj => upd_n (by omega)) ⟨0, by omega, by rw [upd_s]; rfl, fun i hi => absurd hi (by omega)⟩ rfl ?_ (fun j hj => rA_n hj)
    · rw [upd_s] at hi
      have e : nN (0 : Int32) = 0 := by decide
      rw [e] at hi
      omega
    · rw [rA_s, hr.1]; rfl
  · rw [if_pos h1, if_pos h1, if_pos hc.cy.1]
    rcases has_th (g := g) (S := S) hc.cy.1 hc.t (by rw [hr.1]; exact hc.2.1.1.1) hT8 a with ⟨e1, e2⟩ | ⟨t, ht, rfl, e1, e2⟩
    · rw [e1, e2]
      exact St.no h rfl rfl
    · rw [e1, e2]
      simp only [Option.bind_some, z10, if_false]
      rw [q_140 (a := 0) (b := 99) (a' := 0) (b' := 99) (by decide) (by decide), Option.bind_some, p_138, Option.bind_some]
      by_cases hb : (0 : Int32) ≤ b ∧ b ≤ 99
      case neg => rw [if_neg hb]; exact St.no h rfl rfl
      rw [if_pos hb]
      simp only [z10, if_false]
      rw [q_140 (a := 0) (b := 99) (a' := 0) (b' := 99) (by decide) (by decide), Option.bind_some, p_138, Option.bind_some]
      by_cases hcc : (0 : Int32) ≤ c ∧ c ≤ 99
      case neg => rw [if_neg hcc]; exact St.no h rfl rfl
      rw [if_pos hcc]
      simp only [z10, if_false]
      rw [q_140 (a := 1) (b := 9999) (a' := 1) (b' := 9999) (by decide) (by decide), Option.bind_some, p_138, Option.bind_some]
      by_cases hd : (1 : Int32) ≤ d ∧ d ≤ 9999
      case neg => rw [if_neg hd]; exact St.no h rfl rfl
      rw [if_pos hd]
      simp only [z10, if_false]
      have e180 : S.2.1 20 180 = nI N := by rw [hr.1]; exact hN2
      by_cases h10 : N = 10
      · simp (disch := omega) only [e58, lit_nI, k_ltF, if_false, k_in, k_cl, if_true, e180, k_eqT, not_true]
        exact St.no h rfl rfl
      · obtain ⟨b', -, hb1, rfl⟩ := rng (a := 0) (b := 99) (by omega) (by omega) hb
        obtain ⟨c', -, hc1, rfl⟩ := rng (a := 0) (b := 99) (by omega) (by omega) hcc
        unfold d_100
        have g1 : ∀ (m1 : cM) (i : Nat) (v : Int32), 28 ≤ i → (cW m1 i N v).1 5 8 = m1.1 5 8 := fun m1 i v hi => by rw [cW_b (show 5 ≠ i by omega)]
        have u1 : ∀ (f : Nat → Int32) (v : Int32) (j : Nat), j ≤ 3 → upd f (140 + 4 * N + j) v 180 = f 180 := fun f v j hj => upd_n (by omega)
        have u0 : ∀ (f : Nat → Int32) (v : Int32), upd f (140 + 4 * N) v 180 = f 180 := fun f v => upd_n (by omega)
        simp (disch := omega) only [e58, lit_nI, k_ltT, if_true, k_in, k_cl, Option.bind_some, g1, nI_add, e180, k_eqF, not_false_eq_true, pk_mul, u1, u0, upd_s, cW_s]
        refine ⟨_, _, _, rfl, rfl, ?_⟩
        refine h.td (w' := upd (upd (upd (upd (upd w (140 + 4 * N) (nI t)) (140 + 4 * N + 1) (nI b')) (140 + 4 * N + 2) (nI c')) (140 + 4 * N + 3) d) 180 (nI (N + 1))) hc hr hpa him (fun b h1 h2 => ?_) rfl ⟨?_, ?_, ?_⟩ (fun i hi => ?_) (fun j hj => ?_) ?_ rfl ?_ (fun j hj => ?_)
        · rw [cW_b (by omega), cW_b (by omega), cW_b (by omega), cW_b (by omega), cW_b (by omega)]
        · rw [cW_k (by decide), cW_b (by decide), cW_b (by decide), cW_b (by decide), cW_b (by decide)]
        · rw [cW_k (by decide), cW_b (by decide), cW_b (by decide), cW_b (by decide), cW_b (by decide)]
        · rw [cW_s, upd_s]
        · rw [upd_s, n_cl (by omega)] at hi
          have o := (hc.1.2.2.2.1)
          rw [n180] at o
          rw [cW_b (show 28 ≠ 5 by decide), cW_b (show 29 ≠ 5 by decide), cW_b (show 30 ≠ 5 by decide), cW_b (show 31 ≠ 5 by decide), cW_b (show 28 ≠ 31 by decide), cW_b (show 28 ≠ 30 by decide), cW_b (show 28 ≠ 29 by decide), cW_b (show 29 ≠ 31 by decide), cW_b (show 29 ≠ 30 by decide), cW_b (show 30 ≠ 31 by decide)]
          by_cases hiN : i = N
          · subst hiN
            rw [cW_s, cW_s, cW_s, cW_s]
            refine ⟨?_, ?_, ?_, ?_⟩
            · rw [upd_n (by omega), upd_n (by omega), upd_n (by omega), upd_n (by omega), upd_s]
            · rw [upd_n (by omega), upd_n (by omega), upd_n (by omega), show 141 + 4 * i = 140 + 4 * i + 1 by omega, upd_s]
            · rw [upd_n (by omega), upd_n (by omega), show 142 + 4 * i = 140 + 4 * i + 2 by omega, upd_s]
            · rw [upd_n (by omega), show 143 + 4 * i = 140 + 4 * i + 3 by omega, upd_s]
          · rw [cW_k hiN, cW_k hiN, cW_k hiN, cW_k hiN]
            rw [show (cW (cW (cW m 28 N (nI t)) 29 N (nI b')) 30 N (nI c')).1 31 = m.1 31 by rw [cW_b (by decide), cW_b (by decide), cW_b (by decide)], show (cW (cW m 28 N (nI t)) 29 N (nI b')).1 30 = m.1 30 by rw [cW_b (by decide), cW_b (by decide)], show (cW m 28 N (nI t)).1 29 = m.1 29 by rw [cW_b (by decide)]]
            have oi := o i (by omega)
            refine ⟨?_, ?_, ?_, ?_⟩
            · rw [upd_n (by omega), upd_n (by omega), upd_n (by omega), upd_n (by omega), upd_n (by omega)]; exact oi.1
            · rw [upd_n (by omega), upd_n (by omega), upd_n (by omega), upd_n (by omega), upd_n (by omega)]; exact oi.2.1
            · rw [upd_n (by omega), upd_n (by omega), upd_n (by omega), upd_n (by omega), upd_n (by omega)]; exact oi.2.2.1
            · rw [upd_n (by omega), upd_n (by omega), upd_n (by omega), upd_n (by omega), upd_n (by omega)]; exact oi.2.2.2
        · rw [upd_n (by omega), upd_n (by omega), upd_n (by omega), upd_n (by omega), upd_n (by omega)]
        · refine ⟨N + 1, by omega, upd_s, fun i hi => ?_⟩
          by_cases hiN : i = N
          · subst hiN
            refine ⟨⟨t, ht, ?_⟩, ⟨b', hb1, ?_⟩, ⟨c', hc1, ?_⟩⟩
            · rw [upd_n (by omega), upd_n (by omega), upd_n (by omega), upd_n (by omega), upd_s]
            · rw [upd_n (by omega), upd_n (by omega), upd_n (by omega), show 141 + 4 * i = 140 + 4 * i + 1 by omega, upd_s]
            · rw [upd_n (by omega), upd_n (by omega), show 142 + 4 * i = 140 + 4 * i + 2 by omega, upd_s]
          · obtain ⟨o1, o2, o3⟩ := hN3 i (by omega)
            refine ⟨?_, ?_, ?_⟩
            · rw [upd_n (by omega), upd_n (by omega), upd_n (by omega), upd_n (by omega), upd_n (by omega)]; exact o1
            · rw [upd_n (by omega), upd_n (by omega), upd_n (by omega), upd_n (by omega), upd_n (by omega)]; exact o2
            · rw [upd_n (by omega), upd_n (by omega), upd_n (by omega), upd_n (by omega), upd_n (by omega)]; exact o3
        · rw [rA_s, hr.1]
        · simp only [up_n hj]
end TD
