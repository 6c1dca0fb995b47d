/-! EACH OF THE 36 CALLS KEEPS THE INVARIANT, AND BOTH ANSWER THE SAME -/
def Ih (k : Nat) (h : aH) : Prop := ∃ m S, h = hr m S ∧ Inv k m S
theorem rm_hr (m : cM) (S : rS) : rm (hr m S) S := by
  intro j hj
  rw [hr_at (by omega)]
  unfold cC
  rw [if_pos ⟨by omega, by omega⟩, Nat.add_sub_cancel_left]
theorem rTo_hr {m : cM} {S S' : rS} {h' : aH} (h : rTo (hr m S) S' h') : h' = hr m S' := by
  obtain ⟨h1, h2, _, h4⟩ := h
  apply List.ext_getElem?
  intro i
  rw [hr_len] at h2
  by_cases hi : 382 ≤ i ∧ i < 406
  · have := h1 (i - 382) (by omega)
    rw [show 382 + (i - 382) = i by omega] at this
    have hb := rm_hr m S' (i - 382) (by omega)
    rw [show 382 + (i - 382) = i by omega] at hb
    rw [this, hb]
  · rw [h4 i (by omega)]
    by_cases hl : i < 406 + 13 * m.2.2.2
    · rw [hr_at hl, hr_at hl]
      unfold cC
      rw [if_neg hi, if_neg hi]
    · rw [List.getElem?_eq_none (by rw [hr_len]; omega), List.getElem?_eq_none (by rw [hr_len]; omega)]
theorem hr_382 (m : cM) (S : rS) : (hr m S)[382]? = some (.inr (12, rFl S)) := rm_hr m S 0 (by decide)
theorem same_o {X : aX} {k Mc Mr Lc Lr : Nat} {vs : List Value} {m : cM} {S : rS} {c : Option (Int32 × cM)} {r : Option (Int32 × rS)} (h : St k c r)
    (h1 : ∀ zz, c = some zz → aWp X 90 Mc 0 (aEntL (.ref 0 :: vs) Lc) [] (hr m S) (fun w h' => w = some (.int zz.1) ∧ h' = hr zz.2 S))
    (h2 : ∀ (h0 : aH) zz, r = some zz → rm h0 S → aWp X 90 Mr 0 (aEntL (.ref 382 :: vs) Lr) [] h0 (fun w h' => w = some (.int zz.1) ∧ rTo h0 zz.2 h')) : aSame X (Ih (k + 1)) Mc Mr Lc Lr vs (hr m S) := by
  obtain ⟨v, m', S', e1, e2, e3⟩ := h
  refine (h1 _ e1).post fun w h' hw => ?_
  obtain ⟨w1, w2⟩ := hw
  subst w2
  refine ⟨v, rFl S, w1, hr_382 _ _, (h2 _ _ e2 (rm_hr m' S)).post fun w' h'' hw' => ?_⟩
  exact ⟨hw'.1, m', S', rTo_hr hw'.2, e3⟩
theorem same_p {X : aX} {k Mc Mr Lc Lr : Nat} {vs : List Value} {m : cM} {S : rS} {c : Option Int32} {r : Option (Int32 × rS)} (h : St k (c.map (fun v => (v, m))) r)
    (h1 : ∀ zz, c = some zz → aWp X 90 Mc 0 (aEntL (.ref 0 :: vs) Lc) [] (hr m S) (fun w h' => w = some (.int zz) ∧ h' = hr m S))
    (h2 : ∀ (h0 : aH) zz, r = some zz → rm h0 S → aWp X 90 Mr 0 (aEntL (.ref 382 :: vs) Lr) [] h0 (fun w h' => w = some (.int zz.1) ∧ rTo h0 zz.2 h')) : aSame X (Ih (k + 1)) Mc Mr Lc Lr vs (hr m S) := by
  refine same_o h (fun zz hz => ?_) h2
  cases c with
  | none => cases hz
  | some y =>
    cases hz
    exact h1 y rfl
set_option maxHeartbeats 4000000 in
theorem st_all {X : aX} {k g : Nat} {h : aH} (hg : 1400000000 ≤ g) (hk : k ≤ 600) (H : Ih k h) : aSteps X (Ih (k + 1)) h := by
  obtain ⟨m, S, e, H⟩ := H
  subst e
  unfold aSteps
  exact ⟨fun x1 x2 x3 x4 x5 => same_o (s_feed (g := g) (by omega) H x1 x2 x3 x4 x5) (fun _ hz => d_102_ok (by decide) hz) (fun _ _ hz HS => d_143_ok (by decide) HS hz),
    fun x1 => same_o (s_end (g := g)  H x1) (fun _ hz => d_103_ok (by decide) hz) (fun _ _ hz HS => d_144_ok (by decide) HS hz),
    same_o (sp_shop (g := g) (by omega) H ) (fun _ hz => d_104_ok (by decide) hz) (fun _ _ hz HS => d_181_ok (by decide) HS hz),
    same_o (sp_rule (g := g) (by omega) H ) (fun _ hz => d_105_ok (by decide) hz) (fun _ _ hz HS => d_180_ok (by decide) HS hz),
    fun x1 => same_o (s_force (g := g)  H x1) (fun _ hz => d_106_ok (by decide) hz) (fun _ _ hz HS => d_196_ok (by decide) HS hz),
    fun x1 x2 => same_o (s_thing (g := g) (by omega) H x1 x2) (fun _ hz => d_107_ok (by decide) hz) (fun _ _ hz HS => d_201_ok (by decide) HS hz),
    fun x1 x2 => same_p (s_code (g := g) (by omega) H x1 x2) (fun _ hz => d_108_ok (by decide) hz) (fun _ _ hz HS => d_203_ok (by decide) HS hz),
    fun x1 x2 => same_p (s_want (g := g) (by omega) H x1 x2) (fun _ hz => d_109_ok (by decide) hz) (fun _ _ hz HS => d_204_ok (by decide) HS hz),
    fun x1 x2 x3 => same_o (s_dear (g := g) (by omega) H x1 x2 x3) (fun _ hz => d_110_ok (by decide) hz) (fun _ _ hz HS => d_205_ok (by decide) HS hz),
    fun x1 => same_o (s_cost (g := g) (by omega) H x1) (fun _ hz => d_111_ok (by decide) hz) (fun _ _ hz HS => d_213_ok (by decide) HS hz),
    fun x1 => same_o (sp_put (g := g) (by omega) H x1) (fun _ hz => d_112_ok (by decide) hz) (fun _ _ hz HS => d_218_ok (by decide) HS hz),
    fun x1 => same_o (sp_drop (g := g) (by omega) H x1) (fun _ hz => d_113_ok (by decide) hz) (fun _ _ hz HS => d_219_ok (by decide) HS hz),
    fun x1 => same_o (sp_lay (g := g) (by omega) H x1) (fun _ hz => d_114_ok (by decide) hz) (fun _ _ hz HS => d_221_ok (by decide) HS hz),
    fun x1 => same_o (sp_lift (g := g) (by omega) H x1) (fun _ hz => d_115_ok (by decide) hz) (fun _ _ hz HS => d_222_ok (by decide) HS hz),
    fun x1 => same_o (sp_look (g := g) (by omega) H x1) (fun _ hz => d_116_ok (by decide) hz) (fun _ _ hz HS => d_224_ok (by decide) HS hz),
    same_o (sp_buy (g := g) (by omega) H ) (fun _ hz => d_117_ok (by decide) hz) (fun _ _ hz HS => d_225_ok (by decide) HS hz),
    fun x1 => same_o (sp_sendBack (g := g) (by omega) H x1) (fun _ hz => d_118_ok (by decide) hz) (fun _ _ hz HS => d_229_ok (by decide) HS hz),
    same_o (sp_day (g := g) (by omega) (by omega) H ) (fun _ hz => d_119_ok (by decide) hz) (fun _ _ hz HS => d_230_ok (by decide) HS hz),
    same_o (sp_undo (g := g) (by omega) H ) (fun _ hz => d_120_ok (by decide) hz) (fun _ _ hz HS => d_215_ok (by decide) HS hz),
    fun x1 => same_o (sp_order (g := g) (by omega) H x1) (fun _ hz => d_121_ok (by decide) hz) (fun _ _ hz HS => d_234_ok (by decide) HS hz),
    fun x1 => same_o (sp_fill (g := g) (by omega) H x1) (fun _ hz => d_122_ok (by decide) hz) (fun _ _ hz HS => d_239_ok (by decide) HS hz),
    fun x1 => same_o (sp_baskets (g := g) (by omega) H x1) (fun _ hz => d_123_ok (by decide) hz) (fun _ _ hz HS => d_245_ok (by decide) HS hz),
    fun x1 => same_o (sp_days (g := g) (by omega) (by omega) H x1) (fun _ hz => d_124_ok (by decide) hz) (fun _ _ hz HS => d_249_ok (by decide) HS hz),
    fun x1 => same_o (sp_sent (g := g) (by omega) H x1) (fun _ hz => d_125_ok (by decide) hz) (fun _ _ hz HS => d_255_ok (by decide) HS hz),
    fun x1 => same_o (s_join (g := g) (by omega) H x1) (fun _ hz => d_126_ok (by decide) hz) (fun _ _ hz HS => d_256_ok (by decide) HS hz),
    fun x1 => same_o (sp_freedom (g := g) (by omega) H x1) (fun _ hz => d_127_ok (by decide) hz) (fun _ _ hz HS => d_257_ok (by decide) HS hz),
    fun x1 x2 x3 => same_o (sp_receipt (g := g) (by omega) H x1 x2 x3) (fun _ hz => d_128_ok (by decide) hz) (fun _ _ hz HS => d_259_ok (by decide) HS hz),
    fun x1 x2 x3 x4 => same_o (s_told (g := g) (by omega) H x1 x2 x3 x4) (fun _ hz => d_129_ok (by decide) hz) (fun _ _ hz HS => d_260_ok (by decide) HS hz),
    fun x1 => same_o (sp_ruled (g := g) (by omega) H x1) (fun _ hz => d_130_ok (by decide) hz) (fun _ _ hz HS => d_262_ok (by decide) HS hz),
    fun x1 x2 x3 => same_o (sp_probe (g := g) (by omega) H x1 x2 x3) (fun _ hz => d_131_ok (by decide) hz) (fun _ _ hz HS => d_264_ok (by decide) HS hz),
    fun x1 x2 => same_o (sp_await (g := g) (by omega) (by omega) H x1 x2) (fun _ hz => d_132_ok (by decide) hz) (fun _ _ hz HS => d_265_ok (by decide) HS hz),
    fun x1 => same_o (s_seed (g := g)  H x1) (fun _ hz => d_133_ok (by decide) hz) (fun _ _ hz HS => d_266_ok (by decide) HS hz),
    fun x1 x2 x3 => same_o (sp_years (g := g) (by omega) (by omega) H x1 x2 x3) (fun _ hz => d_134_ok (by decide) hz) (fun _ _ hz HS => d_269_ok (by decide) HS hz),
    fun x1 => same_p (s_count (g := g) (by omega) H x1) (fun _ hz => d_135_ok (by decide) hz) (fun _ _ hz HS => d_270_ok (by decide) HS hz),
    fun x1 => same_o (sp_image (g := g) (by omega) H x1) (fun _ hz => d_136_ok (by decide) hz) (fun _ _ hz HS => d_271_ok (by decide) HS hz),
    fun x1 => same_o (sp_back (g := g) (by omega) H x1) (fun _ hz => d_137_ok (by decide) hz) (fun _ _ hz HS => d_272_ok (by decide) HS hz)⟩
theorem Ih.up {k : Nat} {h : aH} (H : Ih k h) : Ih (k + 1) h := by
  obtain ⟨m, S, e, H⟩ := H
  exact ⟨m, S, e, H.scr (ms.rf m) (rc.rf S)⟩
theorem Ih.z {k : Nat} {h : aH} (H : Ih k h) : ∃ fs, h[0]? = some (.inr (11, fs)) := by
  obtain ⟨m, S, e, _⟩ := H
  subst e
  exact ⟨_, hr_at (by omega)⟩
/-- the loop of the law, from its head -/
theorem law_all {X : aX} (hX : X.1 ≤ 3072) {h : aH} (H : Ih 0 h) : aWp X 100 274 18 [some (.float 1), some (.ref 0), some (.ref 382), some (.int (nI 0))] [] h (fun v h' => v = some (.int 1) ∧ ∃ k', 6 * k' ≤ X.1 + 5 ∧ Ih k' h') :=
  law_loop (N := 3072) (Nat.le_refl _) hX (fun _ _ _ h => h.z) (fun _ _ hk h => st_all (Nat.le_refl _) (by omega) h) (fun _ _ _ h => h.up) X.1 0 h (by omega) (by omega) H
