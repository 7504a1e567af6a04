theorem dJ6_bitCount_0f7a4_0 : decode cJ6_bitCount_0f7a4 0 = .ok (.iload_n 0, 1) := by decide +kernel
theorem dJ6_bitCount_0f7a4_1 : decode cJ6_bitCount_0f7a4 1 = .ok (.iload_n 0, 1) := by decide +kernel
theorem dJ6_bitCount_0f7a4_2 : decode cJ6_bitCount_0f7a4 2 = .ok (.iconst 1, 1) := by decide +kernel
theorem dJ6_bitCount_0f7a4_3 : decode cJ6_bitCount_0f7a4 3 = .ok (.iushr, 1) := by decide +kernel
theorem dJ6_bitCount_0f7a4_4 : decode cJ6_bitCount_0f7a4 4 = .ok (.ldc_w 265, 3) := by decide +kernel
theorem dJ6_bitCount_0f7a4_7 : decode cJ6_bitCount_0f7a4 7 = .ok (.iand, 1) := by decide +kernel
theorem dJ6_bitCount_0f7a4_8 : decode cJ6_bitCount_0f7a4 8 = .ok (.isub, 1) := by decide +kernel
theorem dJ6_bitCount_0f7a4_9 : decode cJ6_bitCount_0f7a4 9 = .ok (.istore_n 0, 1) := by decide +kernel
theorem dJ6_bitCount_0f7a4_10 : decode cJ6_bitCount_0f7a4 10 = .ok (.iload_n 0, 1) := by decide +kernel
theorem dJ6_bitCount_0f7a4_11 : decode cJ6_bitCount_0f7a4 11 = .ok (.ldc_w 266, 3) := by decide +kernel
theorem dJ6_bitCount_0f7a4_14 : decode cJ6_bitCount_0f7a4 14 = .ok (.iand, 1) := by decide +kernel
theorem dJ6_bitCount_0f7a4_15 : decode cJ6_bitCount_0f7a4 15 = .ok (.iload_n 0, 1) := by decide +kernel
theorem dJ6_bitCount_0f7a4_16 : decode cJ6_bitCount_0f7a4 16 = .ok (.iconst 2, 1) := by decide +kernel
theorem dJ6_bitCount_0f7a4_17 : decode cJ6_bitCount_0f7a4 17 = .ok (.iushr, 1) := by decide +kernel
theorem dJ6_bitCount_0f7a4_18 : decode cJ6_bitCount_0f7a4 18 = .ok (.ldc_w 266, 3) := by decide +kernel
theorem dJ6_bitCount_0f7a4_21 : decode cJ6_bitCount_0f7a4 21 = .ok (.iand, 1) := by decide +kernel
theorem dJ6_bitCount_0f7a4_22 : decode cJ6_bitCount_0f7a4 22 = .ok (.iadd, 1) := by decide +kernel
theorem dJ6_bitCount_0f7a4_23 : decode cJ6_bitCount_0f7a4 23 = .ok (.istore_n 0, 1) := by decide +kernel
theorem dJ6_bitCount_0f7a4_24 : decode cJ6_bitCount_0f7a4 24 = .ok (.iload_n 0, 1) := by decide +kernel
theorem dJ6_bitCount_0f7a4_25 : decode cJ6_bitCount_0f7a4 25 = .ok (.iload_n 0, 1) := by decide +kernel
theorem dJ6_bitCount_0f7a4_26 : decode cJ6_bitCount_0f7a4 26 = .ok (.iconst 4, 1) := by decide +kernel
theorem dJ6_bitCount_0f7a4_27 : decode cJ6_bitCount_0f7a4 27 = .ok (.iushr, 1) := by decide +kernel
theorem dJ6_bitCount_0f7a4_28 : decode cJ6_bitCount_0f7a4 28 = .ok (.iadd, 1) := by decide +kernel
theorem dJ6_bitCount_0f7a4_29 : decode cJ6_bitCount_0f7a4 29 = .ok (.ldc_w 267, 3) := by decide +kernel
theorem dJ6_bitCount_0f7a4_32 : decode cJ6_bitCount_0f7a4 32 = .ok (.iand, 1) := by decide +kernel
theorem dJ6_bitCount_0f7a4_33 : decode cJ6_bitCount_0f7a4 33 = .ok (.istore_n 0, 1) := by decide +kernel
theorem dJ6_bitCount_0f7a4_34 : decode cJ6_bitCount_0f7a4 34 = .ok (.iload_n 0, 1) := by decide +kernel
theorem dJ6_bitCount_0f7a4_35 : decode cJ6_bitCount_0f7a4 35 = .ok (.iload_n 0, 1) := by decide +kernel
theorem dJ6_bitCount_0f7a4_36 : decode cJ6_bitCount_0f7a4 36 = .ok (.bipush 8, 2) := by decide +kernel
theorem dJ6_bitCount_0f7a4_38 : decode cJ6_bitCount_0f7a4 38 = .ok (.iushr, 1) := by decide +kernel
theorem dJ6_bitCount_0f7a4_39 : decode cJ6_bitCount_0f7a4 39 = .ok (.iadd, 1) := by decide +kernel
theorem dJ6_bitCount_0f7a4_40 : decode cJ6_bitCount_0f7a4 40 = .ok (.istore_n 0, 1) := by decide +kernel
theorem dJ6_bitCount_0f7a4_41 : decode cJ6_bitCount_0f7a4 41 = .ok (.iload_n 0, 1) := by decide +kernel
theorem dJ6_bitCount_0f7a4_42 : decode cJ6_bitCount_0f7a4 42 = .ok (.iload_n 0, 1) := by decide +kernel
theorem dJ6_bitCount_0f7a4_43 : decode cJ6_bitCount_0f7a4 43 = .ok (.bipush 16, 2) := by decide +kernel
theorem dJ6_bitCount_0f7a4_45 : decode cJ6_bitCount_0f7a4 45 = .ok (.iushr, 1) := by decide +kernel
theorem dJ6_bitCount_0f7a4_46 : decode cJ6_bitCount_0f7a4 46 = .ok (.iadd, 1) := by decide +kernel
theorem dJ6_bitCount_0f7a4_47 : decode cJ6_bitCount_0f7a4 47 = .ok (.istore_n 0, 1) := by decide +kernel
theorem dJ6_bitCount_0f7a4_48 : decode cJ6_bitCount_0f7a4 48 = .ok (.iload_n 0, 1) := by decide +kernel
theorem dJ6_bitCount_0f7a4_49 : decode cJ6_bitCount_0f7a4 49 = .ok (.bipush 63, 2) := by decide +kernel
theorem dJ6_bitCount_0f7a4_51 : decode cJ6_bitCount_0f7a4 51 = .ok (.iand, 1) := by decide +kernel
theorem dJ6_bitCount_0f7a4_52 : decode cJ6_bitCount_0f7a4 52 = .ok (.ireturn, 1) := by decide +kernel
theorem w_J6_bitCount_0f7a4_0 {l : Launch} {D : zDD} {b : Nat} {γ : zGm} (p1 : Int32) (σ : zSg) (τ : zLm) {Q : Int32 → zSg → zLm → Prop} (h : ∀ v1 : Int32, v1 = p1 - (((p1.toUInt32 >>> ((1 : Int32).toUInt32 &&& Int32.toUInt32 31)).toInt32) &&& 1431655765) → ∀ v2 : Int32, v2 = (v1 &&& 858993459) + (((v1.toUInt32 >>> ((2 : Int32).toUInt32 &&& Int32.toUInt32 31)).toInt32) &&& 858993459) → ∀ v3 : Int32, v3 = (v2 + ((v2.toUInt32 >>> ((4 : Int32).toUInt32 &&& Int32.toUInt32 31)).toInt32)) &&& 252645135 → ∀ v4 : Int32, v4 = v3 + ((v3.toUInt32 >>> ((8 : Int32).toUInt32 &&& Int32.toUInt32 31)).toInt32) → ∀ v5 : Int32, v5 = v4 + ((v4.toUInt32 >>> ((16 : Int32).toUInt32 &&& Int32.toUInt32 31)).toInt32) → Q (v5 &&& 63) σ τ) : AI l D b M_J6_bitCount_0f7a4 0 γ Q 0 [(0, .int p1)] [] γ σ τ := by
  refine r_iload_n 0 dJ6_bitCount_0f7a4_0 rfl rfl ?_
  refine r_iload_n 0 dJ6_bitCount_0f7a4_1 rfl rfl ?_
  refine r_iconst dJ6_bitCount_0f7a4_2 ci_1 ?_
  refine r_iushr dJ6_bitCount_0f7a4_3 ?_
  refine r_ldcw (v := 1431655765) rfl tw_532 rfl dJ6_bitCount_0f7a4_4 ?_
  refine r_iand dJ6_bitCount_0f7a4_7 ?_
  refine r_isub dJ6_bitCount_0f7a4_8 ?_
  refine r_nmI (fun v1 ev1 => ?_)
  replace h := h v1 ev1
  refine r_istore_n dJ6_bitCount_0f7a4_9 rfl (by decide) rfl ?_
  refine r_iload_n 0 dJ6_bitCount_0f7a4_10 rfl rfl ?_
  refine r_ldcw (v := 858993459) rfl tw_533 rfl dJ6_bitCount_0f7a4_11 ?_
  refine r_iand dJ6_bitCount_0f7a4_14 ?_
  refine r_iload_n 0 dJ6_bitCount_0f7a4_15 rfl rfl ?_
  refine r_iconst dJ6_bitCount_0f7a4_16 ci_2 ?_
  refine r_iushr dJ6_bitCount_0f7a4_17 ?_
  refine r_ldcw (v := 858993459) rfl tw_533 rfl dJ6_bitCount_0f7a4_18 ?_
  refine r_iand dJ6_bitCount_0f7a4_21 ?_
  refine r_iadd dJ6_bitCount_0f7a4_22 ?_
  refine r_nmI (fun v2 ev2 => ?_)
  replace h := h v2 ev2
  refine r_istore_n dJ6_bitCount_0f7a4_23 rfl (by decide) rfl ?_
  refine r_iload_n 0 dJ6_bitCount_0f7a4_24 rfl rfl ?_
  refine r_iload_n 0 dJ6_bitCount_0f7a4_25 rfl rfl ?_
  refine r_iconst dJ6_bitCount_0f7a4_26 ci_4 ?_
  refine r_iushr dJ6_bitCount_0f7a4_27 ?_
  refine r_iadd dJ6_bitCount_0f7a4_28 ?_
  refine r_ldcw (v := 252645135) rfl tw_534 rfl dJ6_bitCount_0f7a4_29 ?_
  refine r_iand dJ6_bitCount_0f7a4_32 ?_
  refine r_nmI (fun v3 ev3 => ?_)
  replace h := h v3 ev3
  refine r_istore_n dJ6_bitCount_0f7a4_33 rfl (by decide) rfl ?_
  refine r_iload_n 0 dJ6_bitCount_0f7a4_34 rfl rfl ?_
  refine r_iload_n 0 dJ6_bitCount_0f7a4_35 rfl rfl ?_
  refine r_bipush dJ6_bitCount_0f7a4_36 cb_8 ?_
  refine r_iushr dJ6_bitCount_0f7a4_38 ?_
  refine r_iadd dJ6_bitCount_0f7a4_39 ?_
  refine r_nmI (fun v4 ev4 => ?_)
  replace h := h v4 ev4
  refine r_istore_n dJ6_bitCount_0f7a4_40 rfl (by decide) rfl ?_
  refine r_iload_n 0 dJ6_bitCount_0f7a4_41 rfl rfl ?_
  refine r_iload_n 0 dJ6_bitCount_0f7a4_42 rfl rfl ?_
  refine r_bipush dJ6_bitCount_0f7a4_43 cb_16 ?_
  refine r_iushr dJ6_bitCount_0f7a4_45 ?_
  refine r_iadd dJ6_bitCount_0f7a4_46 ?_
  refine r_nmI (fun v5 ev5 => ?_)
  replace h := h v5 ev5
  refine r_istore_n dJ6_bitCount_0f7a4_47 rfl (by decide) rfl ?_
  refine r_iload_n 0 dJ6_bitCount_0f7a4_48 rfl rfl ?_
  refine r_bipush dJ6_bitCount_0f7a4_49 cb_63 ?_
  refine r_iand dJ6_bitCount_0f7a4_51 ?_
  exact r_iret rfl (Nat.le_refl _) (Nat.le_refl _) dJ6_bitCount_0f7a4_52 ⟨rfl, rfl, rfl, _, rfl, h⟩
theorem s_J6_bitCount_0f7a4 {l : Launch} {D : zDD} {b : Nat} {γ : zGm} (p1 : Int32) (σ : zSg) (τ : zLm) {Q : Int32 → zSg → zLm → Prop} (h : ∀ v1 : Int32, v1 = p1 - (((p1.toUInt32 >>> ((1 : Int32).toUInt32 &&& Int32.toUInt32 31)).toInt32) &&& 1431655765) → ∀ v2 : Int32, v2 = (v1 &&& 858993459) + (((v1.toUInt32 >>> ((2 : Int32).toUInt32 &&& Int32.toUInt32 31)).toInt32) &&& 858993459) → ∀ v3 : Int32, v3 = (v2 + ((v2.toUInt32 >>> ((4 : Int32).toUInt32 &&& Int32.toUInt32 31)).toInt32)) &&& 252645135 → ∀ v4 : Int32, v4 = v3 + ((v3.toUInt32 >>> ((8 : Int32).toUInt32 &&& Int32.toUInt32 31)).toInt32) → ∀ v5 : Int32, v5 = v4 + ((v4.toUInt32 >>> ((16 : Int32).toUInt32 &&& Int32.toUInt32 31)).toInt32) → Q (v5 &&& 63) σ τ) : SI l D b M_J6_bitCount_0f7a4 0 γ [.int p1] σ τ Q := zS.of (by decide) (Nat.le_of_ble_eq_true rfl) rfl (w_J6_bitCount_0f7a4_0 p1 σ τ h)

