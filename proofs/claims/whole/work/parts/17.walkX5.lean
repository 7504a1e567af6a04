theorem dX5_forgetUndone_0 : decode cX5_forgetUndone 0 = .ok (.aload_n 0, 1) := by decide +kernel
theorem dX5_forgetUndone_1 : decode cX5_forgetUndone 1 = .ok (.iconst 0, 1) := by decide +kernel
theorem dX5_forgetUndone_2 : decode cX5_forgetUndone 2 = .ok (.putfield 29, 3) := by decide +kernel
theorem dX5_forgetUndone_5 : decode cX5_forgetUndone 5 = .ok (.aload_n 0, 1) := by decide +kernel
theorem dX5_forgetUndone_6 : decode cX5_forgetUndone 6 = .ok (.iconst 0, 1) := by decide +kernel
theorem dX5_forgetUndone_7 : decode cX5_forgetUndone 7 = .ok (.putfield 33, 3) := by decide +kernel
theorem dX5_forgetUndone_10 : decode cX5_forgetUndone 10 = .ok (.return_, 1) := by decide +kernel
theorem w_X5_forgetUndone_0 {l : Launch} {D : zDD} {b : Nat} (σ : zSg) (τ : zLm) {Q : zSg → zLm → Prop} (h : Q (st2 (st2 σ 23 4 0) 23 5 0) τ) : AV l D b M_X5_forgetUndone 0 G0 Q 0 [(0, .ref (b + 23))] [] G0 σ τ := by
  refine r_aload_n 0 dX5_forgetUndone_0 rfl rfl ?_
  refine r_iconst dX5_forgetUndone_1 ci_0 ?_
  refine r_putI (j := 4) (by decide) (congrArg Prod.fst k0_23) c12_5 (by decide) rfl (Or.inl rfl) tw_203 dX5_forgetUndone_2 ?_
  refine r_aload_n 0 dX5_forgetUndone_5 rfl rfl ?_
  refine r_iconst dX5_forgetUndone_6 ci_0 ?_
  refine r_putI (j := 5) (by decide) (congrArg Prod.fst k0_23) c12_5 (by decide) rfl (Or.inl rfl) tw_204 dX5_forgetUndone_7 ?_
  exact r_vret rfl (Nat.le_refl _) (Nat.le_refl _) dX5_forgetUndone_10 ⟨rfl, rfl, rfl, rfl, h⟩
theorem s_X5_forgetUndone {l : Launch} {D : zDD} {b : Nat} (σ : zSg) (τ : zLm) {Q : zSg → zLm → Prop} (h : Q (st2 (st2 σ 23 4 0) 23 5 0) τ) : SV l D b M_X5_forgetUndone 0 G0 [.ref (b + 23)] σ τ Q := zS.of (by decide) (Nat.le_of_ble_eq_true rfl) rfl (w_X5_forgetUndone_0 σ τ h)

theorem dX5_forgetAll_0 : decode cX5_forgetAll 0 = .ok (.aload_n 0, 1) := by decide +kernel
theorem dX5_forgetAll_1 : decode cX5_forgetAll 1 = .ok (.invokevirtual 45, 3) := by decide +kernel
theorem dX5_forgetAll_4 : decode cX5_forgetAll 4 = .ok (.iconst 0, 1) := by decide +kernel
theorem dX5_forgetAll_5 : decode cX5_forgetAll 5 = .ok (.istore_n 1, 1) := by decide +kernel
theorem dX5_forgetAll_6 : decode cX5_forgetAll 6 = .ok (.iload_n 1, 1) := by decide +kernel
theorem dX5_forgetAll_7 : decode cX5_forgetAll 7 = .ok (.iconst 2, 1) := by decide +kernel
theorem dX5_forgetAll_8 : decode cX5_forgetAll 8 = .ok (.if_icmp .ge 16, 3) := by decide +kernel
theorem dX5_forgetAll_11 : decode cX5_forgetAll 11 = .ok (.aload_n 0, 1) := by decide +kernel
theorem dX5_forgetAll_12 : decode cX5_forgetAll 12 = .ok (.getfield 24, 3) := by decide +kernel
theorem dX5_forgetAll_15 : decode cX5_forgetAll 15 = .ok (.iload_n 1, 1) := by decide +kernel
theorem dX5_forgetAll_16 : decode cX5_forgetAll 16 = .ok (.iconst 0, 1) := by decide +kernel
theorem dX5_forgetAll_17 : decode cX5_forgetAll 17 = .ok (.bastore, 1) := by decide +kernel
theorem dX5_forgetAll_18 : decode cX5_forgetAll 18 = .ok (.iinc 1 1, 3) := by decide +kernel
theorem dX5_forgetAll_21 : decode cX5_forgetAll 21 = .ok (.goto (-15), 3) := by decide +kernel
theorem dX5_forgetAll_24 : decode cX5_forgetAll 24 = .ok (.return_, 1) := by decide +kernel
theorem w_X5_forgetAll_6 {l : Launch} {D : zDD} {b : Nat} (x1 : Int32) (σ : zSg) (τ : zLm) {Q : zSg → zLm → Prop} (h : (2 ≤ x1 → Q σ τ) ∧ (¬ 2 ≤ x1 → (vp_in x1 2 ∧ AV l D b M_X5_forgetAll 1 G0 Q 6 [(0, .ref (b + 23)), (1, .int (x1 + 1))] [] G0 (st2 σ 27 x1.toNatClampNeg (vp_nar .boolean 0)) τ))) : AV l D b M_X5_forgetAll 1 G0 Q 6 [(0, .ref (b + 23)), (1, .int x1)] [] G0 σ τ := by
  refine r_iload_n 1 dX5_forgetAll_6 rfl rfl ?_
  refine r_iconst dX5_forgetAll_7 ci_2 ?_
  refine r_icmp_ge (tgt := 24) dX5_forgetAll_8 (by decide) (fun c1 => ?_) (fun c1 => ?_)
  · replace h := h.1 c1
    exact r_vret rfl (Nat.le_refl _) (Nat.le_refl _) dX5_forgetAll_24 ⟨rfl, rfl, rfl, rfl, h⟩
  · replace h := h.2 c1
    refine r_aload_n 0 dX5_forgetAll_11 rfl rfl ?_
    refine r_getR (j := 3) (by decide) (congrArg Prod.fst k0_23) c12_5 (by decide) rfl g0_23_3 tw_201 dX5_forgetAll_12 ?_
    refine r_iload_n 1 dX5_forgetAll_15 rfl rfl ?_
    refine r_iconst dX5_forgetAll_16 ci_0 ?_
    refine r_zast (by decide) k0_27 dX5_forgetAll_17 h.1 ?_
    replace h := h.2
    refine r_inc 1 dX5_forgetAll_18 rfl ci_1 (by decide) rfl ?_
    refine r_goto (tgt := 6) dX5_forgetAll_21 (by decide) ?_
    refine r_lv [1, 0] rfl ?_
    exact h

theorem w_X5_forgetAll_0 {l : Launch} {D : zDD} {b : Nat} (σ : zSg) (τ : zLm) {Q : zSg → zLm → Prop} (h : SV l D b M_X5_forgetUndone 0 G0 [.ref (b + 23)] σ τ (fun σ1 τ1 => AV l D b M_X5_forgetAll 1 G0 Q 6 [(0, .ref (b + 23)), (1, .int 0)] [] G0 σ1 τ1)) : AV l D b M_X5_forgetAll 1 G0 Q 0 [(0, .ref (b + 23))] [] G0 σ τ := by
  refine r_aload_n 0 dX5_forgetAll_0 rfl rfl ?_
  refine rc_VV (h' := 0) [] okv_X5_forgetUndone (by decide) (congrArg Prod.fst k0_23) tw_413 rfl rfl (Nat.le_of_ble_eq_true rfl) dX5_forgetAll_1 (by decide) h (fun σ1 τ1 h => ?_)
  refine r_iconst dX5_forgetAll_4 ci_0 ?_
  refine r_istore_n dX5_forgetAll_5 rfl (by decide) rfl ?_
  refine r_lv [1, 0] rfl ?_
  exact h
theorem s_X5_forgetAll {l : Launch} {D : zDD} {b : Nat} (σ : zSg) (τ : zLm) {Q : zSg → zLm → Prop} (h : SV l D b M_X5_forgetUndone 0 G0 [.ref (b + 23)] σ τ (fun σ1 τ1 => AV l D b M_X5_forgetAll 1 G0 Q 6 [(0, .ref (b + 23)), (1, .int 0)] [] G0 σ1 τ1)) : SV l D b M_X5_forgetAll 1 G0 [.ref (b + 23)] σ τ Q := zS.of (by decide) (Nat.le_of_ble_eq_true rfl) rfl (w_X5_forgetAll_0 σ τ h)

theorem dX5_remember_0 : decode cX5_remember 0 = .ok (.aload_n 0, 1) := by decide +kernel
theorem dX5_remember_1 : decode cX5_remember 1 = .ok (.getfield 11, 3) := by decide +kernel
theorem dX5_remember_4 : decode cX5_remember 4 = .ok (.aload_n 0, 1) := by decide +kernel
theorem dX5_remember_5 : decode cX5_remember 5 = .ok (.getfield 29, 3) := by decide +kernel
theorem dX5_remember_8 : decode cX5_remember 8 = .ok (.aload_n 0, 1) := by decide +kernel
theorem dX5_remember_9 : decode cX5_remember 9 = .ok (.getfield 33, 3) := by decide +kernel
theorem dX5_remember_12 : decode cX5_remember 12 = .ok (.iadd, 1) := by decide +kernel
theorem dX5_remember_13 : decode cX5_remember 13 = .ok (.bipush 16, 2) := by decide +kernel
theorem dX5_remember_15 : decode cX5_remember 15 = .ok (.irem, 1) := by decide +kernel
theorem dX5_remember_16 : decode cX5_remember 16 = .ok (.aaload, 1) := by decide +kernel
theorem dX5_remember_17 : decode cX5_remember 17 = .ok (.aload_n 1, 1) := by decide +kernel
theorem dX5_remember_18 : decode cX5_remember 18 = .ok (.invokevirtual 36, 3) := by decide +kernel
theorem dX5_remember_21 : decode cX5_remember 21 = .ok (.aload_n 0, 1) := by decide +kernel
theorem dX5_remember_22 : decode cX5_remember 22 = .ok (.getfield 33, 3) := by decide +kernel
theorem dX5_remember_25 : decode cX5_remember 25 = .ok (.bipush 16, 2) := by decide +kernel
theorem dX5_remember_27 : decode cX5_remember 27 = .ok (.if_icmp .ge 16, 3) := by decide +kernel
theorem dX5_remember_30 : decode cX5_remember 30 = .ok (.aload_n 0, 1) := by decide +kernel
theorem dX5_remember_31 : decode cX5_remember 31 = .ok (.dup, 1) := by decide +kernel
theorem dX5_remember_32 : decode cX5_remember 32 = .ok (.getfield 33, 3) := by decide +kernel
theorem dX5_remember_35 : decode cX5_remember 35 = .ok (.iconst 1, 1) := by decide +kernel
theorem dX5_remember_36 : decode cX5_remember 36 = .ok (.iadd, 1) := by decide +kernel
theorem dX5_remember_37 : decode cX5_remember 37 = .ok (.putfield 33, 3) := by decide +kernel
theorem dX5_remember_40 : decode cX5_remember 40 = .ok (.goto 16, 3) := by decide +kernel
theorem dX5_remember_43 : decode cX5_remember 43 = .ok (.aload_n 0, 1) := by decide +kernel
theorem dX5_remember_44 : decode cX5_remember 44 = .ok (.aload_n 0, 1) := by decide +kernel
theorem dX5_remember_45 : decode cX5_remember 45 = .ok (.getfield 29, 3) := by decide +kernel
theorem dX5_remember_48 : decode cX5_remember 48 = .ok (.iconst 1, 1) := by decide +kernel
theorem dX5_remember_49 : decode cX5_remember 49 = .ok (.iadd, 1) := by decide +kernel
theorem dX5_remember_50 : decode cX5_remember 50 = .ok (.bipush 16, 2) := by decide +kernel
theorem dX5_remember_52 : decode cX5_remember 52 = .ok (.irem, 1) := by decide +kernel
theorem dX5_remember_53 : decode cX5_remember 53 = .ok (.putfield 29, 3) := by decide +kernel
theorem dX5_remember_56 : decode cX5_remember 56 = .ok (.return_, 1) := by decide +kernel
theorem w_X5_remember_0 {l : Launch} {D : zDD} {b : Nat} (σ : zSg) (τ : zLm) {Q : zSg → zLm → Prop} (h : vp_in (((σ 23 4) + (σ 23 5)) - ((σ 23 4) + (σ 23 5)) / 16 * 16) 16 ∧ (SV l D b M_X8_become 1 G0 [.ref (b + (28 + 5 * (((σ 23 4) + (σ 23 5)) - ((σ 23 4) + (σ 23 5)) / 16 * 16).toNatClampNeg)), .ref (b + 14)] σ τ (fun σ2 τ2 => (16 ≤ (σ2 23 5) → Q (st2 σ2 23 4 (((σ2 23 4) + 1) - ((σ2 23 4) + 1) / 16 * 16)) τ2) ∧ (¬ 16 ≤ (σ2 23 5) → Q (st2 σ2 23 5 ((σ2 23 5) + 1)) τ2)))) : AV l D b M_X5_remember 2 G0 Q 0 [(0, .ref (b + 23)), (1, .ref (b + 14))] [] G0 σ τ := by
  refine r_aload_n 0 dX5_remember_0 rfl rfl ?_
  refine r_getR (j := 0) (by decide) (congrArg Prod.fst k0_23) c12_5 (by decide) rfl g0_23_0 tw_198 dX5_remember_1 ?_
  refine r_aload_n 0 dX5_remember_4 rfl rfl ?_
  refine r_getI (j := 4) (by decide) (congrArg Prod.fst k0_23) c12_5 (by decide) rfl tw_203 dX5_remember_5 ?_
  refine r_aload_n 0 dX5_remember_8 rfl rfl ?_
  refine r_getI (j := 5) (by decide) (congrArg Prod.fst k0_23) c12_5 (by decide) rfl tw_204 dX5_remember_9 ?_
  refine r_iadd dX5_remember_12 ?_
  refine r_bipush dX5_remember_13 cb_16 ?_
  refine r_irem dX5_remember_15 (by decide) ?_
  refine r_aald (by decide) k0_24 dX5_remember_16 h.1 (G0_24 (vp_lt h.1)) ?_
  have hi1 := vp_lt h.1
  replace h := h.2
  refine r_aload_n 1 dX5_remember_17 rfl rfl ?_
  refine rc_VV (h' := 1) [.ref (b + 14)] okv_X8_become (Nat.lt_of_le_of_lt (Nat.le_add_right _ _) (isSc_lt (isSc_un hi1))) (congrArg Prod.fst (isSc_K (isSc_un hi1))) tw_577 rfl rfl (Nat.le_of_ble_eq_true rfl) dX5_remember_18 (by decide) h (fun σ2 τ2 h => ?_)
  refine r_aload_n 0 dX5_remember_21 rfl rfl ?_
  refine r_getI (j := 5) (by decide) (congrArg Prod.fst k0_23) c12_5 (by decide) rfl tw_204 dX5_remember_22 ?_
  refine r_bipush dX5_remember_25 cb_16 ?_
  refine r_icmp_ge (tgt := 43) dX5_remember_27 (by decide) (fun c3 => ?_) (fun c3 => ?_)
  · replace h := h.1 c3
    refine r_aload_n 0 dX5_remember_43 rfl rfl ?_
    refine r_aload_n 0 dX5_remember_44 rfl rfl ?_
    refine r_getI (j := 4) (by decide) (congrArg Prod.fst k0_23) c12_5 (by decide) rfl tw_203 dX5_remember_45 ?_
    refine r_iconst dX5_remember_48 ci_1 ?_
    refine r_iadd dX5_remember_49 ?_
    refine r_bipush dX5_remember_50 cb_16 ?_
    refine r_irem dX5_remember_52 (by decide) ?_
    refine r_putI (j := 4) (by decide) (congrArg Prod.fst k0_23) c12_5 (by decide) rfl (Or.inl rfl) tw_203 dX5_remember_53 ?_
    exact r_vret rfl (Nat.le_refl _) (Nat.le_refl _) dX5_remember_56 ⟨rfl, rfl, rfl, rfl, h⟩
  · replace h := h.2 c3
    refine r_aload_n 0 dX5_remember_30 rfl rfl ?_
    refine r_dup dX5_remember_31 rfl ?_
    refine r_getI (j := 5) (by decide) (congrArg Prod.fst k0_23) c12_5 (by decide) rfl tw_204 dX5_remember_32 ?_
    refine r_iconst dX5_remember_35 ci_1 ?_
    refine r_iadd dX5_remember_36 ?_
    refine r_putI (j := 5) (by decide) (congrArg Prod.fst k0_23) c12_5 (by decide) rfl (Or.inl rfl) tw_204 dX5_remember_37 ?_
    refine r_goto (tgt := 56) dX5_remember_40 (by decide) ?_
    exact r_vret rfl (Nat.le_refl _) (Nat.le_refl _) dX5_remember_56 ⟨rfl, rfl, rfl, rfl, h⟩
theorem s_X5_remember {l : Launch} {D : zDD} {b : Nat} (σ : zSg) (τ : zLm) {Q : zSg → zLm → Prop} (h : vp_in (((σ 23 4) + (σ 23 5)) - ((σ 23 4) + (σ 23 5)) / 16 * 16) 16 ∧ (SV l D b M_X8_become 1 G0 [.ref (b + (28 + 5 * (((σ 23 4) + (σ 23 5)) - ((σ 23 4) + (σ 23 5)) / 16 * 16).toNatClampNeg)), .ref (b + 14)] σ τ (fun σ2 τ2 => (16 ≤ (σ2 23 5) → Q (st2 σ2 23 4 (((σ2 23 4) + 1) - ((σ2 23 4) + 1) / 16 * 16)) τ2) ∧ (¬ 16 ≤ (σ2 23 5) → Q (st2 σ2 23 5 ((σ2 23 5) + 1)) τ2)))) : SV l D b M_X5_remember 2 G0 [.ref (b + 23), .ref (b + 14)] σ τ Q := zS.of (by decide) (Nat.le_of_ble_eq_true rfl) rfl (w_X5_remember_0 σ τ h)

theorem dX5_stepBack_0 : decode cX5_stepBack 0 = .ok (.aload_n 0, 1) := by decide +kernel
theorem dX5_stepBack_1 : decode cX5_stepBack 1 = .ok (.getfield 33, 3) := by decide +kernel
theorem dX5_stepBack_4 : decode cX5_stepBack 4 = .ok (.ifCond .le 34, 3) := by decide +kernel
theorem dX5_stepBack_7 : decode cX5_stepBack 7 = .ok (.aload_n 0, 1) := by decide +kernel
theorem dX5_stepBack_8 : decode cX5_stepBack 8 = .ok (.dup, 1) := by decide +kernel
theorem dX5_stepBack_9 : decode cX5_stepBack 9 = .ok (.getfield 33, 3) := by decide +kernel
theorem dX5_stepBack_12 : decode cX5_stepBack 12 = .ok (.iconst 1, 1) := by decide +kernel
theorem dX5_stepBack_13 : decode cX5_stepBack 13 = .ok (.isub, 1) := by decide +kernel
theorem dX5_stepBack_14 : decode cX5_stepBack 14 = .ok (.putfield 33, 3) := by decide +kernel
theorem dX5_stepBack_17 : decode cX5_stepBack 17 = .ok (.aload_n 1, 1) := by decide +kernel
theorem dX5_stepBack_18 : decode cX5_stepBack 18 = .ok (.aload_n 0, 1) := by decide +kernel
theorem dX5_stepBack_19 : decode cX5_stepBack 19 = .ok (.getfield 11, 3) := by decide +kernel
theorem dX5_stepBack_22 : decode cX5_stepBack 22 = .ok (.aload_n 0, 1) := by decide +kernel
theorem dX5_stepBack_23 : decode cX5_stepBack 23 = .ok (.getfield 29, 3) := by decide +kernel
theorem dX5_stepBack_26 : decode cX5_stepBack 26 = .ok (.aload_n 0, 1) := by decide +kernel
theorem dX5_stepBack_27 : decode cX5_stepBack 27 = .ok (.getfield 33, 3) := by decide +kernel
theorem dX5_stepBack_30 : decode cX5_stepBack 30 = .ok (.iadd, 1) := by decide +kernel
theorem dX5_stepBack_31 : decode cX5_stepBack 31 = .ok (.bipush 16, 2) := by decide +kernel
theorem dX5_stepBack_33 : decode cX5_stepBack 33 = .ok (.irem, 1) := by decide +kernel
theorem dX5_stepBack_34 : decode cX5_stepBack 34 = .ok (.aaload, 1) := by decide +kernel
theorem dX5_stepBack_35 : decode cX5_stepBack 35 = .ok (.invokevirtual 36, 3) := by decide +kernel
theorem dX5_stepBack_38 : decode cX5_stepBack 38 = .ok (.return_, 1) := by decide +kernel
theorem w_X5_stepBack_0 {l : Launch} {D : zDD} {b : Nat} (σ : zSg) (τ : zLm) {Q : zSg → zLm → Prop} (h : ((σ 23 5) ≤ 0 → Q σ τ) ∧ (¬ (σ 23 5) ≤ 0 → (vp_in ((((st2 σ 23 5 ((σ 23 5) - 1)) 23 4) + ((st2 σ 23 5 ((σ 23 5) - 1)) 23 5)) - (((st2 σ 23 5 ((σ 23 5) - 1)) 23 4) + ((st2 σ 23 5 ((σ 23 5) - 1)) 23 5)) / 16 * 16) 16 ∧ SV l D b M_X8_become 1 G0 [.ref (b + 14), .ref (b + (28 + 5 * ((((st2 σ 23 5 ((σ 23 5) - 1)) 23 4) + ((st2 σ 23 5 ((σ 23 5) - 1)) 23 5)) - (((st2 σ 23 5 ((σ 23 5) - 1)) 23 4) + ((st2 σ 23 5 ((σ 23 5) - 1)) 23 5)) / 16 * 16).toNatClampNeg))] (st2 σ 23 5 ((σ 23 5) - 1)) τ (fun σ3 τ3 => Q σ3 τ3)))) : AV l D b M_X5_stepBack 2 G0 Q 0 [(0, .ref (b + 23)), (1, .ref (b + 14))] [] G0 σ τ := by
  refine r_aload_n 0 dX5_stepBack_0 rfl rfl ?_
  refine r_getI (j := 5) (by decide) (congrArg Prod.fst k0_23) c12_5 (by decide) rfl tw_204 dX5_stepBack_1 ?_
  refine r_if_le (tgt := 38) dX5_stepBack_4 (by decide) (fun c1 => ?_) (fun c1 => ?_)
  · replace h := h.1 c1
    exact r_vret rfl (Nat.le_refl _) (Nat.le_refl _) dX5_stepBack_38 ⟨rfl, rfl, rfl, rfl, h⟩
  · replace h := h.2 c1
    refine r_aload_n 0 dX5_stepBack_7 rfl rfl ?_
    refine r_dup dX5_stepBack_8 rfl ?_
    refine r_getI (j := 5) (by decide) (congrArg Prod.fst k0_23) c12_5 (by decide) rfl tw_204 dX5_stepBack_9 ?_
    refine r_iconst dX5_stepBack_12 ci_1 ?_
    refine r_isub dX5_stepBack_13 ?_
    refine r_putI (j := 5) (by decide) (congrArg Prod.fst k0_23) c12_5 (by decide) rfl (Or.inl rfl) tw_204 dX5_stepBack_14 ?_
    refine r_aload_n 1 dX5_stepBack_17 rfl rfl ?_
    refine r_aload_n 0 dX5_stepBack_18 rfl rfl ?_
    refine r_getR (j := 0) (by decide) (congrArg Prod.fst k0_23) c12_5 (by decide) rfl g0_23_0 tw_198 dX5_stepBack_19 ?_
    refine r_aload_n 0 dX5_stepBack_22 rfl rfl ?_
    refine r_getI (j := 4) (by decide) (congrArg Prod.fst k0_23) c12_5 (by decide) rfl tw_203 dX5_stepBack_23 ?_
    refine r_aload_n 0 dX5_stepBack_26 rfl rfl ?_
    refine r_getI (j := 5) (by decide) (congrArg Prod.fst k0_23) c12_5 (by decide) rfl tw_204 dX5_stepBack_27 ?_
    refine r_iadd dX5_stepBack_30 ?_
    refine r_bipush dX5_stepBack_31 cb_16 ?_
    refine r_irem dX5_stepBack_33 (by decide) ?_
    refine r_aald (by decide) k0_24 dX5_stepBack_34 h.1 (G0_24 (vp_lt h.1)) ?_
    have hi2 := vp_lt h.1
    replace h := h.2
    refine rc_VV (h' := 1) [.ref (b + (28 + 5 * ((((st2 σ 23 5 ((σ 23 5) - 1)) 23 4) + ((st2 σ 23 5 ((σ 23 5) - 1)) 23 5)) - (((st2 σ 23 5 ((σ 23 5) - 1)) 23 4) + ((st2 σ 23 5 ((σ 23 5) - 1)) 23 5)) / 16 * 16).toNatClampNeg))] okv_X8_become (by decide) (congrArg Prod.fst k0_14) tw_577 rfl rfl (Nat.le_of_ble_eq_true rfl) dX5_stepBack_35 (by decide) h (fun σ3 τ3 h => ?_)
    exact r_vret rfl (Nat.le_refl _) (Nat.le_refl _) dX5_stepBack_38 ⟨rfl, rfl, rfl, rfl, h⟩
theorem s_X5_stepBack {l : Launch} {D : zDD} {b : Nat} (σ : zSg) (τ : zLm) {Q : zSg → zLm → Prop} (h : ((σ 23 5) ≤ 0 → Q σ τ) ∧ (¬ (σ 23 5) ≤ 0 → (vp_in ((((st2 σ 23 5 ((σ 23 5) - 1)) 23 4) + ((st2 σ 23 5 ((σ 23 5) - 1)) 23 5)) - (((st2 σ 23 5 ((σ 23 5) - 1)) 23 4) + ((st2 σ 23 5 ((σ 23 5) - 1)) 23 5)) / 16 * 16) 16 ∧ SV l D b M_X8_become 1 G0 [.ref (b + 14), .ref (b + (28 + 5 * ((((st2 σ 23 5 ((σ 23 5) - 1)) 23 4) + ((st2 σ 23 5 ((σ 23 5) - 1)) 23 5)) - (((st2 σ 23 5 ((σ 23 5) - 1)) 23 4) + ((st2 σ 23 5 ((σ 23 5) - 1)) 23 5)) / 16 * 16).toNatClampNeg))] (st2 σ 23 5 ((σ 23 5) - 1)) τ (fun σ3 τ3 => Q σ3 τ3)))) : SV l D b M_X5_stepBack 2 G0 [.ref (b + 23), .ref (b + 14)] σ τ Q := zS.of (by decide) (Nat.le_of_ble_eq_true rfl) rfl (w_X5_stepBack_0 σ τ h)

theorem dX5_keepImage_0 : decode cX5_keepImage 0 = .ok (.aload_n 0, 1) := by decide +kernel
theorem dX5_keepImage_1 : decode cX5_keepImage 1 = .ok (.getfield 17, 3) := by decide +kernel
theorem dX5_keepImage_4 : decode cX5_keepImage 4 = .ok (.iload_n 1, 1) := by decide +kernel
theorem dX5_keepImage_5 : decode cX5_keepImage 5 = .ok (.aaload, 1) := by decide +kernel
theorem dX5_keepImage_6 : decode cX5_keepImage 6 = .ok (.aload_n 2, 1) := by decide +kernel
theorem dX5_keepImage_7 : decode cX5_keepImage 7 = .ok (.invokevirtual 36, 3) := by decide +kernel
theorem dX5_keepImage_10 : decode cX5_keepImage 10 = .ok (.aload_n 0, 1) := by decide +kernel
theorem dX5_keepImage_11 : decode cX5_keepImage 11 = .ok (.getfield 20, 3) := by decide +kernel
theorem dX5_keepImage_14 : decode cX5_keepImage 14 = .ok (.iload_n 1, 1) := by decide +kernel
theorem dX5_keepImage_15 : decode cX5_keepImage 15 = .ok (.aload_n 3, 1) := by decide +kernel
theorem dX5_keepImage_16 : decode cX5_keepImage 16 = .ok (.getfield 40, 3) := by decide +kernel
theorem dX5_keepImage_19 : decode cX5_keepImage 19 = .ok (.iastore, 1) := by decide +kernel
theorem dX5_keepImage_20 : decode cX5_keepImage 20 = .ok (.aload_n 0, 1) := by decide +kernel
theorem dX5_keepImage_21 : decode cX5_keepImage 21 = .ok (.getfield 24, 3) := by decide +kernel
theorem dX5_keepImage_24 : decode cX5_keepImage 24 = .ok (.iload_n 1, 1) := by decide +kernel
theorem dX5_keepImage_25 : decode cX5_keepImage 25 = .ok (.iconst 1, 1) := by decide +kernel
theorem dX5_keepImage_26 : decode cX5_keepImage 26 = .ok (.bastore, 1) := by decide +kernel
theorem dX5_keepImage_27 : decode cX5_keepImage 27 = .ok (.aload_n 0, 1) := by decide +kernel
theorem dX5_keepImage_28 : decode cX5_keepImage 28 = .ok (.invokevirtual 45, 3) := by decide +kernel
theorem dX5_keepImage_31 : decode cX5_keepImage 31 = .ok (.return_, 1) := by decide +kernel
theorem w_X5_keepImage_0 {l : Launch} {D : zDD} {b : Nat} (p1 : Int32) (σ : zSg) (τ : zLm) {Q : zSg → zLm → Prop} (h : vp_in p1 2 ∧ (SV l D b M_X8_become 1 G0 [.ref (b + (108 + 5 * p1.toNatClampNeg)), .ref (b + 14)] σ τ (fun σ2 τ2 => vp_in p1 2 ∧ (vp_in p1 2 ∧ SV l D b M_X5_forgetUndone 0 G0 [.ref (b + 23)] (st2 (st2 σ2 26 p1.toNatClampNeg (σ2 22 0)) 27 p1.toNatClampNeg (vp_nar .boolean 1)) τ2 (fun σ3 τ3 => Q σ3 τ3))))) : AV l D b M_X5_keepImage 2 G0 Q 0 [(0, .ref (b + 23)), (1, .int p1), (2, .ref (b + 14)), (3, .ref (b + 22))] [] G0 σ τ := by
  refine r_aload_n 0 dX5_keepImage_0 rfl rfl ?_
  refine r_getR (j := 1) (by decide) (congrArg Prod.fst k0_23) c12_5 (by decide) rfl g0_23_1 tw_199 dX5_keepImage_1 ?_
  refine r_iload_n 1 dX5_keepImage_4 rfl rfl ?_
  refine r_aald (by decide) k0_25 dX5_keepImage_5 h.1 (G0_25 (vp_lt h.1)) ?_
  have hi1 := vp_lt h.1
  replace h := h.2
  refine r_aload_n 2 dX5_keepImage_6 rfl rfl ?_
  refine rc_VV (h' := 1) [.ref (b + 14)] okv_X8_become (Nat.lt_of_le_of_lt (Nat.le_add_right _ _) (isSc_lt (isSc_im hi1))) (congrArg Prod.fst (isSc_K (isSc_im hi1))) tw_577 rfl rfl (Nat.le_of_ble_eq_true rfl) dX5_keepImage_7 (by decide) h (fun σ2 τ2 h => ?_)
  refine r_aload_n 0 dX5_keepImage_10 rfl rfl ?_
  refine r_getR (j := 2) (by decide) (congrArg Prod.fst k0_23) c12_5 (by decide) rfl g0_23_2 tw_200 dX5_keepImage_11 ?_
  refine r_iload_n 1 dX5_keepImage_14 rfl rfl ?_
  refine r_aload_n 3 dX5_keepImage_15 rfl rfl ?_
  refine r_getI (j := 0) (by decide) (congrArg Prod.fst k0_22) c12_3 (by decide) rfl tw_167 dX5_keepImage_16 ?_
  refine r_iast (by decide) k0_26 dX5_keepImage_19 h.1 ?_
  replace h := h.2
  refine r_aload_n 0 dX5_keepImage_20 rfl rfl ?_
  refine r_getR (j := 3) (by decide) (congrArg Prod.fst k0_23) c12_5 (by decide) rfl g0_23_3 tw_201 dX5_keepImage_21 ?_
  refine r_iload_n 1 dX5_keepImage_24 rfl rfl ?_
  refine r_iconst dX5_keepImage_25 ci_1 ?_
  refine r_zast (by decide) k0_27 dX5_keepImage_26 h.1 ?_
  replace h := h.2
  refine r_aload_n 0 dX5_keepImage_27 rfl rfl ?_
  refine rc_VV (h' := 0) [] okv_X5_forgetUndone (by decide) (congrArg Prod.fst k0_23) tw_413 rfl rfl (Nat.le_of_ble_eq_true rfl) dX5_keepImage_28 (by decide) h (fun σ3 τ3 h => ?_)
  exact r_vret rfl (Nat.le_refl _) (Nat.le_refl _) dX5_keepImage_31 ⟨rfl, rfl, rfl, rfl, h⟩
theorem s_X5_keepImage {l : Launch} {D : zDD} {b : Nat} (p1 : Int32) (σ : zSg) (τ : zLm) {Q : zSg → zLm → Prop} (h : vp_in p1 2 ∧ (SV l D b M_X8_become 1 G0 [.ref (b + (108 + 5 * p1.toNatClampNeg)), .ref (b + 14)] σ τ (fun σ2 τ2 => vp_in p1 2 ∧ (vp_in p1 2 ∧ SV l D b M_X5_forgetUndone 0 G0 [.ref (b + 23)] (st2 (st2 σ2 26 p1.toNatClampNeg (σ2 22 0)) 27 p1.toNatClampNeg (vp_nar .boolean 1)) τ2 (fun σ3 τ3 => Q σ3 τ3))))) : SV l D b M_X5_keepImage 2 G0 [.ref (b + 23), .int p1, .ref (b + 14), .ref (b + 22)] σ τ Q := zS.of (by decide) (Nat.le_of_ble_eq_true rfl) rfl (w_X5_keepImage_0 p1 σ τ h)

theorem dX5_showImage_0 : decode cX5_showImage 0 = .ok (.aload_n 2, 1) := by decide +kernel
theorem dX5_showImage_1 : decode cX5_showImage 1 = .ok (.aload_n 0, 1) := by decide +kernel
theorem dX5_showImage_2 : decode cX5_showImage 2 = .ok (.getfield 17, 3) := by decide +kernel
theorem dX5_showImage_5 : decode cX5_showImage 5 = .ok (.iload_n 1, 1) := by decide +kernel
theorem dX5_showImage_6 : decode cX5_showImage 6 = .ok (.aaload, 1) := by decide +kernel
theorem dX5_showImage_7 : decode cX5_showImage 7 = .ok (.invokevirtual 36, 3) := by decide +kernel
theorem dX5_showImage_10 : decode cX5_showImage 10 = .ok (.aload_n 3, 1) := by decide +kernel
theorem dX5_showImage_11 : decode cX5_showImage 11 = .ok (.aload_n 0, 1) := by decide +kernel
theorem dX5_showImage_12 : decode cX5_showImage 12 = .ok (.getfield 20, 3) := by decide +kernel
theorem dX5_showImage_15 : decode cX5_showImage 15 = .ok (.iload_n 1, 1) := by decide +kernel
theorem dX5_showImage_16 : decode cX5_showImage 16 = .ok (.iaload, 1) := by decide +kernel
theorem dX5_showImage_17 : decode cX5_showImage 17 = .ok (.putfield 40, 3) := by decide +kernel
theorem dX5_showImage_20 : decode cX5_showImage 20 = .ok (.aload_n 0, 1) := by decide +kernel
theorem dX5_showImage_21 : decode cX5_showImage 21 = .ok (.invokevirtual 45, 3) := by decide +kernel
theorem dX5_showImage_24 : decode cX5_showImage 24 = .ok (.return_, 1) := by decide +kernel
theorem w_X5_showImage_0 {l : Launch} {D : zDD} {b : Nat} (p1 : Int32) (σ : zSg) (τ : zLm) {Q : zSg → zLm → Prop} (h : vp_in p1 2 ∧ (SV l D b M_X8_become 1 G0 [.ref (b + 14), .ref (b + (108 + 5 * p1.toNatClampNeg))] σ τ (fun σ2 τ2 => vp_in p1 2 ∧ SV l D b M_X5_forgetUndone 0 G0 [.ref (b + 23)] (st2 σ2 22 0 (σ2 26 p1.toNatClampNeg)) τ2 (fun σ3 τ3 => Q σ3 τ3)))) : AV l D b M_X5_showImage 2 G0 Q 0 [(0, .ref (b + 23)), (1, .int p1), (2, .ref (b + 14)), (3, .ref (b + 22))] [] G0 σ τ := by
  refine r_aload_n 2 dX5_showImage_0 rfl rfl ?_
  refine r_aload_n 0 dX5_showImage_1 rfl rfl ?_
  refine r_getR (j := 1) (by decide) (congrArg Prod.fst k0_23) c12_5 (by decide) rfl g0_23_1 tw_199 dX5_showImage_2 ?_
  refine r_iload_n 1 dX5_showImage_5 rfl rfl ?_
  refine r_aald (by decide) k0_25 dX5_showImage_6 h.1 (G0_25 (vp_lt h.1)) ?_
  have hi1 := vp_lt h.1
  replace h := h.2
  refine rc_VV (h' := 1) [.ref (b + (108 + 5 * p1.toNatClampNeg))] okv_X8_become (by decide) (congrArg Prod.fst k0_14) tw_577 rfl rfl (Nat.le_of_ble_eq_true rfl) dX5_showImage_7 (by decide) h (fun σ2 τ2 h => ?_)
  refine r_aload_n 3 dX5_showImage_10 rfl rfl ?_
  refine r_aload_n 0 dX5_showImage_11 rfl rfl ?_
  refine r_getR (j := 2) (by decide) (congrArg Prod.fst k0_23) c12_5 (by decide) rfl g0_23_2 tw_200 dX5_showImage_12 ?_
  refine r_iload_n 1 dX5_showImage_15 rfl rfl ?_
  refine r_iald (by decide) k0_26 dX5_showImage_16 h.1 ?_
  replace h := h.2
  refine r_putI (j := 0) (by decide) (congrArg Prod.fst k0_22) c12_3 (by decide) rfl (Or.inl rfl) tw_167 dX5_showImage_17 ?_
  refine r_aload_n 0 dX5_showImage_20 rfl rfl ?_
  refine rc_VV (h' := 0) [] okv_X5_forgetUndone (by decide) (congrArg Prod.fst k0_23) tw_413 rfl rfl (Nat.le_of_ble_eq_true rfl) dX5_showImage_21 (by decide) h (fun σ3 τ3 h => ?_)
  exact r_vret rfl (Nat.le_refl _) (Nat.le_refl _) dX5_showImage_24 ⟨rfl, rfl, rfl, rfl, h⟩
theorem s_X5_showImage {l : Launch} {D : zDD} {b : Nat} (p1 : Int32) (σ : zSg) (τ : zLm) {Q : zSg → zLm → Prop} (h : vp_in p1 2 ∧ (SV l D b M_X8_become 1 G0 [.ref (b + 14), .ref (b + (108 + 5 * p1.toNatClampNeg))] σ τ (fun σ2 τ2 => vp_in p1 2 ∧ SV l D b M_X5_forgetUndone 0 G0 [.ref (b + 23)] (st2 σ2 22 0 (σ2 26 p1.toNatClampNeg)) τ2 (fun σ3 τ3 => Q σ3 τ3)))) : SV l D b M_X5_showImage 2 G0 [.ref (b + 23), .int p1, .ref (b + 14), .ref (b + 22)] σ τ Q := zS.of (by decide) (Nat.le_of_ble_eq_true rfl) rfl (w_X5_showImage_0 p1 σ τ h)

