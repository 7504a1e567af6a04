theorem dX8_begin_0 : decode cX8_begin 0 = .ok (.aload_n 0, 1) := by decide +kernel
theorem dX8_begin_1 : decode cX8_begin 1 = .ok (.iconst 0, 1) := by decide +kernel
theorem dX8_begin_2 : decode cX8_begin 2 = .ok (.putfield 24, 3) := by decide +kernel
theorem dX8_begin_5 : decode cX8_begin 5 = .ok (.aload_n 0, 1) := by decide +kernel
theorem dX8_begin_6 : decode cX8_begin 6 = .ok (.iconst 0, 1) := by decide +kernel
theorem dX8_begin_7 : decode cX8_begin 7 = .ok (.putfield 28, 3) := by decide +kernel
theorem dX8_begin_10 : decode cX8_begin 10 = .ok (.aload_n 1, 1) := by decide +kernel
theorem dX8_begin_11 : decode cX8_begin 11 = .ok (.getfield 31, 3) := by decide +kernel
theorem dX8_begin_14 : decode cX8_begin 14 = .ok (.iconst 0, 1) := by decide +kernel
theorem dX8_begin_15 : decode cX8_begin 15 = .ok (.aload_n 0, 1) := by decide +kernel
theorem dX8_begin_16 : decode cX8_begin 16 = .ok (.getfield 15, 3) := by decide +kernel
theorem dX8_begin_19 : decode cX8_begin 19 = .ok (.iconst 0, 1) := by decide +kernel
theorem dX8_begin_20 : decode cX8_begin 20 = .ok (.bipush 6, 2) := by decide +kernel
theorem dX8_begin_22 : decode cX8_begin 22 = .ok (.invokestatic 34, 3) := by decide +kernel
theorem dX8_begin_25 : decode cX8_begin 25 = .ok (.aload_n 1, 1) := by decide +kernel
theorem dX8_begin_26 : decode cX8_begin 26 = .ok (.getfield 40, 3) := by decide +kernel
theorem dX8_begin_29 : decode cX8_begin 29 = .ok (.iconst 0, 1) := by decide +kernel
theorem dX8_begin_30 : decode cX8_begin 30 = .ok (.aload_n 0, 1) := by decide +kernel
theorem dX8_begin_31 : decode cX8_begin 31 = .ok (.getfield 18, 3) := by decide +kernel
theorem dX8_begin_34 : decode cX8_begin 34 = .ok (.iconst 0, 1) := by decide +kernel
theorem dX8_begin_35 : decode cX8_begin 35 = .ok (.bipush 6, 2) := by decide +kernel
theorem dX8_begin_37 : decode cX8_begin 37 = .ok (.invokestatic 34, 3) := by decide +kernel
theorem dX8_begin_40 : decode cX8_begin 40 = .ok (.iconst 0, 1) := by decide +kernel
theorem dX8_begin_41 : decode cX8_begin 41 = .ok (.istore_n 2, 1) := by decide +kernel
theorem dX8_begin_42 : decode cX8_begin 42 = .ok (.iload_n 2, 1) := by decide +kernel
theorem dX8_begin_43 : decode cX8_begin 43 = .ok (.bipush 6, 2) := by decide +kernel
theorem dX8_begin_45 : decode cX8_begin 45 = .ok (.if_icmp .ge 16, 3) := by decide +kernel
theorem dX8_begin_48 : decode cX8_begin 48 = .ok (.aload_n 0, 1) := by decide +kernel
theorem dX8_begin_49 : decode cX8_begin 49 = .ok (.getfield 9, 3) := by decide +kernel
theorem dX8_begin_52 : decode cX8_begin 52 = .ok (.iload_n 2, 1) := by decide +kernel
theorem dX8_begin_53 : decode cX8_begin 53 = .ok (.iconst 0, 1) := by decide +kernel
theorem dX8_begin_54 : decode cX8_begin 54 = .ok (.iastore, 1) := by decide +kernel
theorem dX8_begin_55 : decode cX8_begin 55 = .ok (.iinc 2 1, 3) := by decide +kernel
theorem dX8_begin_58 : decode cX8_begin 58 = .ok (.goto (-16), 3) := by decide +kernel
theorem dX8_begin_61 : decode cX8_begin 61 = .ok (.iconst 0, 1) := by decide +kernel
theorem dX8_begin_62 : decode cX8_begin 62 = .ok (.istore_n 2, 1) := by decide +kernel
theorem dX8_begin_63 : decode cX8_begin 63 = .ok (.iload_n 2, 1) := by decide +kernel
theorem dX8_begin_64 : decode cX8_begin 64 = .ok (.bipush 6, 2) := by decide +kernel
theorem dX8_begin_66 : decode cX8_begin 66 = .ok (.if_icmp .ge 16, 3) := by decide +kernel
theorem dX8_begin_69 : decode cX8_begin 69 = .ok (.aload_n 0, 1) := by decide +kernel
theorem dX8_begin_70 : decode cX8_begin 70 = .ok (.getfield 21, 3) := by decide +kernel
theorem dX8_begin_73 : decode cX8_begin 73 = .ok (.iload_n 2, 1) := by decide +kernel
theorem dX8_begin_74 : decode cX8_begin 74 = .ok (.iconst 0, 1) := by decide +kernel
theorem dX8_begin_75 : decode cX8_begin 75 = .ok (.iastore, 1) := by decide +kernel
theorem dX8_begin_76 : decode cX8_begin 76 = .ok (.iinc 2 1, 3) := by decide +kernel
theorem dX8_begin_79 : decode cX8_begin 79 = .ok (.goto (-16), 3) := by decide +kernel
theorem dX8_begin_82 : decode cX8_begin 82 = .ok (.return_, 1) := by decide +kernel
theorem w_X8_begin_63 {l : Launch} {D : zDD} {b : Nat} (x2 : Int32) (σ : zSg) (τ : zLm) {Q : zSg → zLm → Prop} (h : (6 ≤ x2 → Q σ τ) ∧ (¬ 6 ≤ x2 → (vp_in x2 6 ∧ AV l D b M_X8_begin 1 G0 Q 63 [(0, .ref (b + 14)), (2, .int (x2 + 1))] [] G0 (st2 σ 18 x2.toNatClampNeg 0) τ))) : AV l D b M_X8_begin 1 G0 Q 63 [(0, .ref (b + 14)), (2, .int x2)] [] G0 σ τ := by
  refine r_iload_n 1 dX8_begin_63 rfl rfl ?_
  refine r_bipush dX8_begin_64 cb_6 ?_
  refine r_icmp_ge (tgt := 82) dX8_begin_66 (by decide) (fun c1 => ?_) (fun c1 => ?_)
  · replace h := h.1 c1
    exact r_vret rfl (Nat.le_refl _) (Nat.le_refl _) dX8_begin_82 ⟨rfl, rfl, rfl, rfl, h⟩
  · replace h := h.2 c1
    refine r_aload_n 0 dX8_begin_69 rfl rfl ?_
    refine r_getR (j := 5) (by decide) (congrArg Prod.fst k0_14) c12_8 (by decide) rfl g0_14_5 tw_131 dX8_begin_70 ?_
    refine r_iload_n 1 dX8_begin_73 rfl rfl ?_
    refine r_iconst dX8_begin_74 ci_0 ?_
    refine r_iast (by decide) k0_18 dX8_begin_75 h.1 ?_
    replace h := h.2
    refine r_inc 1 dX8_begin_76 rfl ci_1 (by decide) rfl ?_
    refine r_goto (tgt := 63) dX8_begin_79 (by decide) ?_
    refine r_lv [1, 0] rfl ?_
    exact h

theorem w_X8_begin_42 {l : Launch} {D : zDD} {b : Nat} (x2 : Int32) (σ : zSg) (τ : zLm) {Q : zSg → zLm → Prop} (h : (6 ≤ x2 → AV l D b M_X8_begin 1 G0 Q 63 [(0, .ref (b + 14)), (2, .int 0)] [] G0 σ τ) ∧ (¬ 6 ≤ x2 → (vp_in x2 6 ∧ AV l D b M_X8_begin 1 G0 Q 42 [(0, .ref (b + 14)), (2, .int (x2 + 1))] [] G0 (st2 σ 15 x2.toNatClampNeg 0) τ))) : AV l D b M_X8_begin 1 G0 Q 42 [(0, .ref (b + 14)), (2, .int x2)] [] G0 σ τ := by
  refine r_iload_n 1 dX8_begin_42 rfl rfl ?_
  refine r_bipush dX8_begin_43 cb_6 ?_
  refine r_icmp_ge (tgt := 61) dX8_begin_45 (by decide) (fun c1 => ?_) (fun c1 => ?_)
  · replace h := h.1 c1
    refine r_iconst dX8_begin_61 ci_0 ?_
    refine r_istore_n dX8_begin_62 rfl (by decide) rfl ?_
    refine r_lv [1, 0] rfl ?_
    exact h
  · replace h := h.2 c1
    refine r_aload_n 0 dX8_begin_48 rfl rfl ?_
    refine r_getR (j := 2) (by decide) (congrArg Prod.fst k0_14) c12_8 (by decide) rfl g0_14_2 tw_120 dX8_begin_49 ?_
    refine r_iload_n 1 dX8_begin_52 rfl rfl ?_
    refine r_iconst dX8_begin_53 ci_0 ?_
    refine r_iast (by decide) k0_15 dX8_begin_54 h.1 ?_
    replace h := h.2
    refine r_inc 1 dX8_begin_55 rfl ci_1 (by decide) rfl ?_
    refine r_goto (tgt := 42) dX8_begin_58 (by decide) ?_
    refine r_lv [1, 0] rfl ?_
    exact h

theorem w_X8_begin_0 {l : Launch} {D : zDD} {b : Nat} (σ : zSg) (τ : zLm) {Q : zSg → zLm → Prop} (h : ∀ σ1 : zSg, σ1 = va_up (st2 (st2 σ 14 0 0) 14 1 0) 16 (va_cpy ((st2 (st2 σ 14 0 0) 14 1 0) 11) ((st2 (st2 σ 14 0 0) 14 1 0) 16) 0 0 6) → ∀ σ2 : zSg, σ2 = va_up σ1 17 (va_cpy (σ1 12) (σ1 17) 0 0 6) → AV l D b M_X8_begin 1 G0 Q 42 [(0, .ref (b + 14)), (2, .int 0)] [] G0 σ2 τ) : AV l D b M_X8_begin 1 G0 Q 0 [(0, .ref (b + 14)), (1, .ref (b + 9))] [] G0 σ τ := by
  refine r_aload_n 0 dX8_begin_0 rfl rfl ?_
  refine r_iconst dX8_begin_1 ci_0 ?_
  refine r_putI (j := 0) (by decide) (congrArg Prod.fst k0_14) c12_8 (by decide) rfl (Or.inl rfl) tw_114 dX8_begin_2 ?_
  refine r_aload_n 0 dX8_begin_5 rfl rfl ?_
  refine r_iconst dX8_begin_6 ci_0 ?_
  refine r_putI (j := 1) (by decide) (congrArg Prod.fst k0_14) c12_8 (by decide) rfl (Or.inl rfl) tw_117 dX8_begin_7 ?_
  refine r_aload_n 1 dX8_begin_10 rfl rfl ?_
  refine r_getR (j := 5) (by decide) (congrArg Prod.fst k0_9) c12_6 (by decide) rfl g0_9_5 tw_77 dX8_begin_11 ?_
  refine r_iconst dX8_begin_14 ci_0 ?_
  refine r_aload_n 0 dX8_begin_15 rfl rfl ?_
  refine r_getR (j := 3) (by decide) (congrArg Prod.fst k0_14) c12_8 (by decide) rfl g0_14_3 tw_123 dX8_begin_16 ?_
  refine r_iconst dX8_begin_19 ci_0 ?_
  refine r_bipush dX8_begin_20 cb_6 ?_
  refine r_copy tw_408 tw_nat tw_stat tw_ini (by decide) (by decide) k0_11 k0_16 (by decide) (by decide) (by decide) (by decide) (by decide) (by decide) (Nat.le_of_ble_eq_true rfl) dX8_begin_22 ?_
  refine r_nmS (fun σ1 eσ1 => ?_)
  replace h := h σ1 eσ1
  refine r_aload_n 1 dX8_begin_25 rfl rfl ?_
  refine r_getR (j := 6) (by decide) (congrArg Prod.fst k0_9) c12_6 (by decide) rfl g0_9_6 tw_79 dX8_begin_26 ?_
  refine r_iconst dX8_begin_29 ci_0 ?_
  refine r_aload_n 0 dX8_begin_30 rfl rfl ?_
  refine r_getR (j := 4) (by decide) (congrArg Prod.fst k0_14) c12_8 (by decide) rfl g0_14_4 tw_127 dX8_begin_31 ?_
  refine r_iconst dX8_begin_34 ci_0 ?_
  refine r_bipush dX8_begin_35 cb_6 ?_
  refine r_copy tw_408 tw_nat tw_stat tw_ini (by decide) (by decide) k0_12 k0_17 (by decide) (by decide) (by decide) (by decide) (by decide) (by decide) (Nat.le_of_ble_eq_true rfl) dX8_begin_37 ?_
  refine r_nmS (fun σ2 eσ2 => ?_)
  replace h := h σ2 eσ2
  refine r_iconst dX8_begin_40 ci_0 ?_
  refine r_istore_n dX8_begin_41 rfl (by decide) rfl ?_
  refine r_lv [1, 0] rfl ?_
  exact h
theorem s_X8_begin {l : Launch} {D : zDD} {b : Nat} (σ : zSg) (τ : zLm) {Q : zSg → zLm → Prop} (h : ∀ σ1 : zSg, σ1 = va_up (st2 (st2 σ 14 0 0) 14 1 0) 16 (va_cpy ((st2 (st2 σ 14 0 0) 14 1 0) 11) ((st2 (st2 σ 14 0 0) 14 1 0) 16) 0 0 6) → ∀ σ2 : zSg, σ2 = va_up σ1 17 (va_cpy (σ1 12) (σ1 17) 0 0 6) → AV l D b M_X8_begin 1 G0 Q 42 [(0, .ref (b + 14)), (2, .int 0)] [] G0 σ2 τ) : SV l D b M_X8_begin 1 G0 [.ref (b + 14), .ref (b + 9)] σ τ Q := zS.of (by decide) (Nat.le_of_ble_eq_true rfl) rfl (w_X8_begin_0 σ τ h)

theorem dX8_become_0 : decode cX8_become 0 = .ok (.aload_n 0, 1) := by decide +kernel
theorem dX8_become_1 : decode cX8_become 1 = .ok (.aload_n 1, 1) := by decide +kernel
theorem dX8_become_2 : decode cX8_become 2 = .ok (.getfield 24, 3) := by decide +kernel
theorem dX8_become_5 : decode cX8_become 5 = .ok (.putfield 24, 3) := by decide +kernel
theorem dX8_become_8 : decode cX8_become 8 = .ok (.aload_n 0, 1) := by decide +kernel
theorem dX8_become_9 : decode cX8_become 9 = .ok (.aload_n 1, 1) := by decide +kernel
theorem dX8_become_10 : decode cX8_become 10 = .ok (.getfield 28, 3) := by decide +kernel
theorem dX8_become_13 : decode cX8_become 13 = .ok (.putfield 28, 3) := by decide +kernel
theorem dX8_become_16 : decode cX8_become 16 = .ok (.aload_n 1, 1) := by decide +kernel
theorem dX8_become_17 : decode cX8_become 17 = .ok (.getfield 9, 3) := by decide +kernel
theorem dX8_become_20 : decode cX8_become 20 = .ok (.iconst 0, 1) := by decide +kernel
theorem dX8_become_21 : decode cX8_become 21 = .ok (.aload_n 0, 1) := by decide +kernel
theorem dX8_become_22 : decode cX8_become 22 = .ok (.getfield 9, 3) := by decide +kernel
theorem dX8_become_25 : decode cX8_become 25 = .ok (.iconst 0, 1) := by decide +kernel
theorem dX8_become_26 : decode cX8_become 26 = .ok (.bipush 6, 2) := by decide +kernel
theorem dX8_become_28 : decode cX8_become 28 = .ok (.invokestatic 34, 3) := by decide +kernel
theorem dX8_become_31 : decode cX8_become 31 = .ok (.aload_n 1, 1) := by decide +kernel
theorem dX8_become_32 : decode cX8_become 32 = .ok (.getfield 15, 3) := by decide +kernel
theorem dX8_become_35 : decode cX8_become 35 = .ok (.iconst 0, 1) := by decide +kernel
theorem dX8_become_36 : decode cX8_become 36 = .ok (.aload_n 0, 1) := by decide +kernel
theorem dX8_become_37 : decode cX8_become 37 = .ok (.getfield 15, 3) := by decide +kernel
theorem dX8_become_40 : decode cX8_become 40 = .ok (.iconst 0, 1) := by decide +kernel
theorem dX8_become_41 : decode cX8_become 41 = .ok (.bipush 6, 2) := by decide +kernel
theorem dX8_become_43 : decode cX8_become 43 = .ok (.invokestatic 34, 3) := by decide +kernel
theorem dX8_become_46 : decode cX8_become 46 = .ok (.aload_n 1, 1) := by decide +kernel
theorem dX8_become_47 : decode cX8_become 47 = .ok (.getfield 18, 3) := by decide +kernel
theorem dX8_become_50 : decode cX8_become 50 = .ok (.iconst 0, 1) := by decide +kernel
theorem dX8_become_51 : decode cX8_become 51 = .ok (.aload_n 0, 1) := by decide +kernel
theorem dX8_become_52 : decode cX8_become 52 = .ok (.getfield 18, 3) := by decide +kernel
theorem dX8_become_55 : decode cX8_become 55 = .ok (.iconst 0, 1) := by decide +kernel
theorem dX8_become_56 : decode cX8_become 56 = .ok (.bipush 6, 2) := by decide +kernel
theorem dX8_become_58 : decode cX8_become 58 = .ok (.invokestatic 34, 3) := by decide +kernel
theorem dX8_become_61 : decode cX8_become 61 = .ok (.aload_n 1, 1) := by decide +kernel
theorem dX8_become_62 : decode cX8_become 62 = .ok (.getfield 21, 3) := by decide +kernel
theorem dX8_become_65 : decode cX8_become 65 = .ok (.iconst 0, 1) := by decide +kernel
theorem dX8_become_66 : decode cX8_become 66 = .ok (.aload_n 0, 1) := by decide +kernel
theorem dX8_become_67 : decode cX8_become 67 = .ok (.getfield 21, 3) := by decide +kernel
theorem dX8_become_70 : decode cX8_become 70 = .ok (.iconst 0, 1) := by decide +kernel
theorem dX8_become_71 : decode cX8_become 71 = .ok (.bipush 6, 2) := by decide +kernel
theorem dX8_become_73 : decode cX8_become 73 = .ok (.invokestatic 34, 3) := by decide +kernel
theorem dX8_become_76 : decode cX8_become 76 = .ok (.return_, 1) := by decide +kernel
theorem w_X8_become_0 {l : Launch} {D : zDD} {b : Nat} {c1 c2 : Nat} (q1 : isSc c1) (q2 : isSc c2) (σ : zSg) (τ : zLm) {Q : zSg → zLm → Prop} (h : ∀ σ1 : zSg, σ1 = va_up (st2 (st2 σ c1 0 (σ c2 0)) c1 1 ((st2 σ c1 0 (σ c2 0)) c2 1)) (c1 + 1) (va_cpy ((st2 (st2 σ c1 0 (σ c2 0)) c1 1 ((st2 σ c1 0 (σ c2 0)) c2 1)) (c2 + 1)) ((st2 (st2 σ c1 0 (σ c2 0)) c1 1 ((st2 σ c1 0 (σ c2 0)) c2 1)) (c1 + 1)) 0 0 6) → ∀ σ2 : zSg, σ2 = va_up σ1 (c1 + 2) (va_cpy (σ1 (c2 + 2)) (σ1 (c1 + 2)) 0 0 6) → ∀ σ3 : zSg, σ3 = va_up σ2 (c1 + 3) (va_cpy (σ2 (c2 + 3)) (σ2 (c1 + 3)) 0 0 6) → ∀ σ4 : zSg, σ4 = va_up σ3 (c1 + 4) (va_cpy (σ3 (c2 + 4)) (σ3 (c1 + 4)) 0 0 6) → Q σ4 τ) : AV l D b M_X8_become 1 G0 Q 0 [(0, .ref (b + c1)), (1, .ref (b + c2))] [] G0 σ τ := by
  refine r_aload_n 0 dX8_become_0 rfl rfl ?_
  refine r_aload_n 1 dX8_become_1 rfl rfl ?_
  refine r_getI (j := 0) (Nat.lt_of_le_of_lt (Nat.le_add_right _ _) (isSc_lt q2)) (congrArg Prod.fst (isSc_K q2)) c12_8 (by decide) rfl tw_114 dX8_become_2 ?_
  refine r_putI (j := 0) (Nat.lt_of_le_of_lt (Nat.le_add_right _ _) (isSc_lt q1)) (congrArg Prod.fst (isSc_K q1)) c12_8 (by decide) rfl (Or.inl rfl) tw_114 dX8_become_5 ?_
  refine r_aload_n 0 dX8_become_8 rfl rfl ?_
  refine r_aload_n 1 dX8_become_9 rfl rfl ?_
  refine r_getI (j := 1) (Nat.lt_of_le_of_lt (Nat.le_add_right _ _) (isSc_lt q2)) (congrArg Prod.fst (isSc_K q2)) c12_8 (by decide) rfl tw_117 dX8_become_10 ?_
  refine r_putI (j := 1) (Nat.lt_of_le_of_lt (Nat.le_add_right _ _) (isSc_lt q1)) (congrArg Prod.fst (isSc_K q1)) c12_8 (by decide) rfl (Or.inl rfl) tw_117 dX8_become_13 ?_
  refine r_aload_n 1 dX8_become_16 rfl rfl ?_
  refine r_getR (j := 2) (Nat.lt_of_le_of_lt (Nat.le_add_right _ _) (isSc_lt q2)) (congrArg Prod.fst (isSc_K q2)) c12_8 (by decide) rfl (isSc_G q2 (by decide) (by decide)) tw_120 dX8_become_17 ?_
  refine r_iconst dX8_become_20 ci_0 ?_
  refine r_aload_n 0 dX8_become_21 rfl rfl ?_
  refine r_getR (j := 2) (Nat.lt_of_le_of_lt (Nat.le_add_right _ _) (isSc_lt q1)) (congrArg Prod.fst (isSc_K q1)) c12_8 (by decide) rfl (isSc_G q1 (by decide) (by decide)) tw_120 dX8_become_22 ?_
  refine r_iconst dX8_become_25 ci_0 ?_
  refine r_bipush dX8_become_26 cb_6 ?_
  refine r_copy tw_408 tw_nat tw_stat tw_ini (Nat.lt_of_le_of_lt (Nat.add_le_add_left (show 1 ≤ 4 by decide) _) (isSc_lt q2)) (Nat.lt_of_le_of_lt (Nat.add_le_add_left (show 1 ≤ 4 by decide) _) (isSc_lt q1)) (isSc_A q2 (by decide) (by decide)) (isSc_A q1 (by decide) (by decide)) (by decide) (by decide) (by decide) (by decide) (by decide) (by decide) (Nat.le_of_ble_eq_true rfl) dX8_become_28 ?_
  refine r_nmS (fun σ1 eσ1 => ?_)
  replace h := h σ1 eσ1
  refine r_aload_n 1 dX8_become_31 rfl rfl ?_
  refine r_getR (j := 3) (Nat.lt_of_le_of_lt (Nat.le_add_right _ _) (isSc_lt q2)) (congrArg Prod.fst (isSc_K q2)) c12_8 (by decide) rfl (isSc_G q2 (by decide) (by decide)) tw_123 dX8_become_32 ?_
  refine r_iconst dX8_become_35 ci_0 ?_
  refine r_aload_n 0 dX8_become_36 rfl rfl ?_
  refine r_getR (j := 3) (Nat.lt_of_le_of_lt (Nat.le_add_right _ _) (isSc_lt q1)) (congrArg Prod.fst (isSc_K q1)) c12_8 (by decide) rfl (isSc_G q1 (by decide) (by decide)) tw_123 dX8_become_37 ?_
  refine r_iconst dX8_become_40 ci_0 ?_
  refine r_bipush dX8_become_41 cb_6 ?_
  refine r_copy tw_408 tw_nat tw_stat tw_ini (Nat.lt_of_le_of_lt (Nat.add_le_add_left (show 2 ≤ 4 by decide) _) (isSc_lt q2)) (Nat.lt_of_le_of_lt (Nat.add_le_add_left (show 2 ≤ 4 by decide) _) (isSc_lt q1)) (isSc_A q2 (by decide) (by decide)) (isSc_A q1 (by decide) (by decide)) (by decide) (by decide) (by decide) (by decide) (by decide) (by decide) (Nat.le_of_ble_eq_true rfl) dX8_become_43 ?_
  refine r_nmS (fun σ2 eσ2 => ?_)
  replace h := h σ2 eσ2
  refine r_aload_n 1 dX8_become_46 rfl rfl ?_
  refine r_getR (j := 4) (Nat.lt_of_le_of_lt (Nat.le_add_right _ _) (isSc_lt q2)) (congrArg Prod.fst (isSc_K q2)) c12_8 (by decide) rfl (isSc_G q2 (by decide) (by decide)) tw_127 dX8_become_47 ?_
  refine r_iconst dX8_become_50 ci_0 ?_
  refine r_aload_n 0 dX8_become_51 rfl rfl ?_
  refine r_getR (j := 4) (Nat.lt_of_le_of_lt (Nat.le_add_right _ _) (isSc_lt q1)) (congrArg Prod.fst (isSc_K q1)) c12_8 (by decide) rfl (isSc_G q1 (by decide) (by decide)) tw_127 dX8_become_52 ?_
  refine r_iconst dX8_become_55 ci_0 ?_
  refine r_bipush dX8_become_56 cb_6 ?_
  refine r_copy tw_408 tw_nat tw_stat tw_ini (Nat.lt_of_le_of_lt (Nat.add_le_add_left (show 3 ≤ 4 by decide) _) (isSc_lt q2)) (Nat.lt_of_le_of_lt (Nat.add_le_add_left (show 3 ≤ 4 by decide) _) (isSc_lt q1)) (isSc_A q2 (by decide) (by decide)) (isSc_A q1 (by decide) (by decide)) (by decide) (by decide) (by decide) (by decide) (by decide) (by decide) (Nat.le_of_ble_eq_true rfl) dX8_become_58 ?_
  refine r_nmS (fun σ3 eσ3 => ?_)
  replace h := h σ3 eσ3
  refine r_aload_n 1 dX8_become_61 rfl rfl ?_
  refine r_getR (j := 5) (Nat.lt_of_le_of_lt (Nat.le_add_right _ _) (isSc_lt q2)) (congrArg Prod.fst (isSc_K q2)) c12_8 (by decide) rfl (isSc_G q2 (by decide) (by decide)) tw_131 dX8_become_62 ?_
  refine r_iconst dX8_become_65 ci_0 ?_
  refine r_aload_n 0 dX8_become_66 rfl rfl ?_
  refine r_getR (j := 5) (Nat.lt_of_le_of_lt (Nat.le_add_right _ _) (isSc_lt q1)) (congrArg Prod.fst (isSc_K q1)) c12_8 (by decide) rfl (isSc_G q1 (by decide) (by decide)) tw_131 dX8_become_67 ?_
  refine r_iconst dX8_become_70 ci_0 ?_
  refine r_bipush dX8_become_71 cb_6 ?_
  refine r_copy tw_408 tw_nat tw_stat tw_ini (Nat.lt_of_le_of_lt (Nat.add_le_add_left (show 4 ≤ 4 by decide) _) (isSc_lt q2)) (Nat.lt_of_le_of_lt (Nat.add_le_add_left (show 4 ≤ 4 by decide) _) (isSc_lt q1)) (isSc_A q2 (by decide) (by decide)) (isSc_A q1 (by decide) (by decide)) (by decide) (by decide) (by decide) (by decide) (by decide) (by decide) (Nat.le_of_ble_eq_true rfl) dX8_become_73 ?_
  refine r_nmS (fun σ4 eσ4 => ?_)
  replace h := h σ4 eσ4
  exact r_vret rfl (Nat.le_refl _) (Nat.le_refl _) dX8_become_76 ⟨rfl, rfl, rfl, rfl, h⟩
theorem s_X8_become {l : Launch} {D : zDD} {b : Nat} {c1 c2 : Nat} (q1 : isSc c1) (q2 : isSc c2) (σ : zSg) (τ : zLm) {Q : zSg → zLm → Prop} (h : ∀ σ1 : zSg, σ1 = va_up (st2 (st2 σ c1 0 (σ c2 0)) c1 1 ((st2 σ c1 0 (σ c2 0)) c2 1)) (c1 + 1) (va_cpy ((st2 (st2 σ c1 0 (σ c2 0)) c1 1 ((st2 σ c1 0 (σ c2 0)) c2 1)) (c2 + 1)) ((st2 (st2 σ c1 0 (σ c2 0)) c1 1 ((st2 σ c1 0 (σ c2 0)) c2 1)) (c1 + 1)) 0 0 6) → ∀ σ2 : zSg, σ2 = va_up σ1 (c1 + 2) (va_cpy (σ1 (c2 + 2)) (σ1 (c1 + 2)) 0 0 6) → ∀ σ3 : zSg, σ3 = va_up σ2 (c1 + 3) (va_cpy (σ2 (c2 + 3)) (σ2 (c1 + 3)) 0 0 6) → ∀ σ4 : zSg, σ4 = va_up σ3 (c1 + 4) (va_cpy (σ3 (c2 + 4)) (σ3 (c1 + 4)) 0 0 6) → Q σ4 τ) : SV l D b M_X8_become 1 G0 [.ref (b + c1), .ref (b + c2)] σ τ Q := zS.of (by decide) (Nat.le_of_ble_eq_true rfl) rfl (w_X8_become_0 q1 q2 σ τ h)

