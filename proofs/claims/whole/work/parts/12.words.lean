/-! EVERY STEP OF THE PURE MACHINE IS A STEP OF THE MACHINE -/
def aFx (p : Program) (s : State) (m : MethodId) (args : Array Value) (meth : Method) (c : Code) (K : aK) (D : va_G) (ty : Nat → ClassId) (X : aX) (y : aMt) : Prop := p.tables.exec = Jvm.exec ∧ c.code = y.2.1 ∧ c.maxLocals = y.2.2.1 ∧ s.vm.findClass y.1.cls = some m.cls ∧ (∀ w ∈ aG, w.before args s = true) ∧ meth.sig.returnType = y.2.2.2.1 ∧ meth.locks = false ∧ (y.1.name = "<init>" → meth.name = "<init>") ∧ aCx K D ty X s s.heap
theorem aWd_mem {o i : Nat} {w : Cond} (h : aWd o i = some w) : w ∈ lw_tbl := by
  unfold aWd at h
  split at h
  · exact List.mem_of_getElem? h
  · cases h
theorem aWd_G {o i : Nat} {w : Cond} (h : aWd o i = some w) (hg : goodWord w = true) : w ∈ aG := aG_of (aWd_mem h) hg
theorem lw_tbl_T {w : Cond} (h : w ∈ lw_tbl) (hn : ∀ a b c, w ≠ .selects a b c) : w ∈ tables_1 := by
  rcases List.mem_append.mp h with h | h
  · obtain ⟨q, -, rfl⟩ := List.mem_map.mp h
    exact absurd rfl (hn _ _ _)
  · exact h
theorem aWd_N {o i : Nat} {w : Cond} (h : aWd o i = some w) (hn : aIsN w = true) : w ∈ aNest := List.mem_filter.mpr ⟨lw_tbl_T (aWd_mem h) (fun a b c e => by rw [e] at hn; cases hn), hn⟩
section Cls
theorem c_ok0 : aClsOK 0 RX0 TX0 4 := ⟨aG_all (by decide +kernel) (by decide +kernel), rfl, tyX0_ok, nmX0, by decide +kernel, aG_of (by decide +kernel) rfl, aG_of (by decide +kernel) rfl, by decide +kernel⟩
theorem c_ok1 : aClsOK 1 RX1 TX1 3 := ⟨aG_all (by decide +kernel) (by decide +kernel), rfl, tyX1_ok, nmX1, by decide +kernel, aG_of (by decide +kernel) rfl, aG_of (by decide +kernel) rfl, by decide +kernel⟩
theorem c_ok2 : aClsOK 2 RX2 TX2 20 := ⟨aG_all (by decide +kernel) (by decide +kernel), rfl, tyX2_ok, nmX2, by decide +kernel, aG_of (by decide +kernel) rfl, aG_of (by decide +kernel) rfl, by decide +kernel⟩
theorem c_ok3 : aClsOK 3 RX3 TX3 7 := ⟨aG_all (by decide +kernel) (by decide +kernel), rfl, tyX3_ok, nmX3, by decide +kernel, aG_of (by decide +kernel) rfl, aG_of (by decide +kernel) rfl, by decide +kernel⟩
theorem c_ok4 : aClsOK 4 RX4 TX4 3 := ⟨aG_all (by decide +kernel) (by decide +kernel), rfl, tyX4_ok, nmX4, by decide +kernel, aG_of (by decide +kernel) rfl, aG_of (by decide +kernel) rfl, by decide +kernel⟩
theorem c_ok5 : aClsOK 5 RX5 TX5 20 := ⟨aG_all (by decide +kernel) (by decide +kernel), rfl, tyX5_ok, nmX5, by decide +kernel, aG_of (by decide +kernel) rfl, aG_of (by decide +kernel) rfl, by decide +kernel⟩
theorem c_ok6 : aClsOK 6 RX6 TX6 3 := ⟨aG_all (by decide +kernel) (by decide +kernel), rfl, tyX6_ok, nmX6, by decide +kernel, aG_of (by decide +kernel) rfl, aG_of (by decide +kernel) rfl, by decide +kernel⟩
theorem c_ok7 : aClsOK 7 RX7 TX7 14 := ⟨aG_all (by decide +kernel) (by decide +kernel), rfl, tyX7_ok, nmX7, by decide +kernel, aG_of (by decide +kernel) rfl, aG_of (by decide +kernel) rfl, by decide +kernel⟩
theorem c_ok8 : aClsOK 8 RX8 TX8 7 := ⟨aG_all (by decide +kernel) (by decide +kernel), rfl, tyX8_ok, nmX8, by decide +kernel, aG_of (by decide +kernel) rfl, aG_of (by decide +kernel) rfl, by decide +kernel⟩
theorem c_ok9 : aClsOK 9 RX9 TX9 5 := ⟨aG_all (by decide +kernel) (by decide +kernel), rfl, tyX9_ok, nmX9, by decide +kernel, aG_of (by decide +kernel) rfl, aG_of (by decide +kernel) rfl, by decide +kernel⟩
theorem c_ok10 : aClsOK 10 RX10 TX10 9 := ⟨aG_all (by decide +kernel) (by decide +kernel), rfl, tyX10_ok, nmX10, by decide +kernel, aG_of (by decide +kernel) rfl, aG_of (by decide +kernel) rfl, by decide +kernel⟩
theorem c_ok11 : aClsOK 11 RX11 TX11 9 := ⟨aG_all (by decide +kernel) (by decide +kernel), rfl, tyX11_ok, nmX11, by decide +kernel, aG_of (by decide +kernel) rfl, aG_of (by decide +kernel) rfl, by decide +kernel⟩
theorem c_ok12 : aClsOK 12 RX12 TX12 47 := ⟨aG_all (by decide +kernel) (by decide +kernel), rfl, tyX12_ok, nmX12, by decide +kernel, aG_of (by decide +kernel) rfl, aG_of (by decide +kernel) rfl, by decide +kernel⟩
theorem c_ok {ci : Nat} {C : String} {T : u_T} {N : Nat} (h : cls[ci]? = some (C, T, N)) : aClsOK ci C T N := by
  match ci, h with
  | 0, h => cases h; exact c_ok0
  | 1, h => cases h; exact c_ok1
  | 2, h => cases h; exact c_ok2
  | 3, h => cases h; exact c_ok3
  | 4, h => cases h; exact c_ok4
  | 5, h => cases h; exact c_ok5
  | 6, h => cases h; exact c_ok6
  | 7, h => cases h; exact c_ok7
  | 8, h => cases h; exact c_ok8
  | 9, h => cases h; exact c_ok9
  | 10, h => cases h; exact c_ok10
  | 11, h => cases h; exact c_ok11
  | 12, h => cases h; exact c_ok12
  | n + 13, h => simp [cls] at h
theorem w_nat : Cond.native arraycopyName ∈ aG := aG_of (by decide +kernel) (by decide +kernel)
theorem w_cst : Cond.static arraycopyName ∈ aG := aG_of (by decide +kernel) (by decide +kernel)
theorem w_sys : Cond.initialized "java/lang/System" ∈ aG := aG_of (by decide +kernel) (by decide +kernel)
theorem w_mth : Cond.initialized "java/lang/Math" ∈ aG := aG_of (by decide +kernel) (by decide +kernel)
theorem w_m1 : Cond.static Lib.Math.max.name ∈ aG := aG_of (by decide +kernel) (by decide +kernel)
theorem w_m2 : Cond.static Lib.Math.min.name ∈ aG := aG_of (by decide +kernel) (by decide +kernel)
theorem w_m3 : Cond.static Lib.MathLoose.max_long.x ∈ aG := aG_of (by decide +kernel) (by decide +kernel)
theorem w_m4 : Cond.static Lib.MathLoose.min_long.x ∈ aG := aG_of (by decide +kernel) (by decide +kernel)
theorem w_n1 : Cond.code Lib.Math.max.name Lib.Math.max.code 2 (some .int) ∈ aG := aG_of (by decide +kernel) (by decide +kernel)
theorem w_n2 : Cond.code Lib.Math.min.name Lib.Math.min.code 2 (some .int) ∈ aG := aG_of (by decide +kernel) (by decide +kernel)
theorem w_n3 : Cond.code Lib.MathLoose.max_long.x Lib.MathLoose.max_long.code 4 (some .long) ∈ aG := aG_of (by decide +kernel) (by decide +kernel)
theorem w_n4 : Cond.code Lib.MathLoose.min_long.x Lib.MathLoose.min_long.code 4 (some .long) ∈ aG := aG_of (by decide +kernel) (by decide +kernel)
theorem w_ob : Cond.instanceMethod Lib.objectInit ∈ aG := aG_of (by decide +kernel) (by decide +kernel)
theorem w_oc : Cond.code Lib.objectInit ⟨#[0xb1]⟩ 1 none ∈ aG := aG_of (by decide +kernel) (by decide +kernel)
theorem w_arr {t : ArrayType} {tag : Nat} (h : aTagT t tag = true) : Cond.arrayClass (newarray.typeOf t) ∈ aG := by
  unfold aTagT at h
  split at h
  · exact aG_of (by decide +kernel) rfl
  · exact aG_of (by decide +kernel) rfl
  · exact aG_of (by decide +kernel) rfl
  · exact aG_of (by decide +kernel) rfl
  · cases h
theorem w_ovr {tag : Nat} {C : String} {T : u_T} {N : Nat} (h4 : 4 ≤ tag) (h6 : tag ≤ 6) (hc : cls[a_tagC tag]? = some (C, T, N)) : Cond.arrayOver (.object C) ∈ aNest := by
  rcases (show tag = 4 ∨ tag = 5 ∨ tag = 6 by omega) with rfl | rfl | rfl
  · cases hc; exact List.mem_filter.mpr ⟨by decide +kernel, rfl⟩
  · cases hc; exact List.mem_filter.mpr ⟨by decide +kernel, rfl⟩
  · cases hc; exact List.mem_filter.mpr ⟨by decide +kernel, rfl⟩
end Cls
