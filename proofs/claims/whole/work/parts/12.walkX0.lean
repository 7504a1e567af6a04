theorem dX0_add_0 : decode cX0_add 0 = .ok (.aload_n 0, 1) := by decide +kernel
theorem dX0_add_1 : decode cX0_add 1 = .ok (.getfield 18, 3) := by decide +kernel
theorem dX0_add_4 : decode cX0_add 4 = .ok (.bipush 15, 2) := by decide +kernel
theorem dX0_add_6 : decode cX0_add 6 = .ok (.if_icmp .ge 33, 3) := by decide +kernel
theorem dX0_add_9 : decode cX0_add 9 = .ok (.aload_n 0, 1) := by decide +kernel
theorem dX0_add_10 : decode cX0_add 10 = .ok (.getfield 9, 3) := by decide +kernel
theorem dX0_add_13 : decode cX0_add 13 = .ok (.aload_n 0, 1) := by decide +kernel
theorem dX0_add_14 : decode cX0_add 14 = .ok (.getfield 18, 3) := by decide +kernel
theorem dX0_add_17 : decode cX0_add 17 = .ok (.iload_n 1, 1) := by decide +kernel
theorem dX0_add_18 : decode cX0_add 18 = .ok (.iastore, 1) := by decide +kernel
theorem dX0_add_19 : decode cX0_add 19 = .ok (.aload_n 0, 1) := by decide +kernel
theorem dX0_add_20 : decode cX0_add 20 = .ok (.getfield 15, 3) := by decide +kernel
theorem dX0_add_23 : decode cX0_add 23 = .ok (.aload_n 0, 1) := by decide +kernel
theorem dX0_add_24 : decode cX0_add 24 = .ok (.getfield 18, 3) := by decide +kernel
theorem dX0_add_27 : decode cX0_add 27 = .ok (.iload_n 2, 1) := by decide +kernel
theorem dX0_add_28 : decode cX0_add 28 = .ok (.iastore, 1) := by decide +kernel
theorem dX0_add_29 : decode cX0_add 29 = .ok (.aload_n 0, 1) := by decide +kernel
theorem dX0_add_30 : decode cX0_add 30 = .ok (.dup, 1) := by decide +kernel
theorem dX0_add_31 : decode cX0_add 31 = .ok (.getfield 18, 3) := by decide +kernel
theorem dX0_add_34 : decode cX0_add 34 = .ok (.iconst 1, 1) := by decide +kernel
theorem dX0_add_35 : decode cX0_add 35 = .ok (.iadd, 1) := by decide +kernel
theorem dX0_add_36 : decode cX0_add 36 = .ok (.putfield 18, 3) := by decide +kernel
theorem dX0_add_39 : decode cX0_add 39 = .ok (.aload_n 0, 1) := by decide +kernel
theorem dX0_add_40 : decode cX0_add 40 = .ok (.getfield 18, 3) := by decide +kernel
theorem dX0_add_43 : decode cX0_add 43 = .ok (.ireturn, 1) := by decide +kernel
theorem w_X0_add_0 {l : Launch} {D : zDD} {b : Nat} (p1 p2 : Int32) (σ : zSg) (τ : zLm) {Q : Int32 → zSg → zLm → Prop} (h : (15 ≤ (σ 122 0) → Q (σ 122 0) σ τ) ∧ (¬ 15 ≤ (σ 122 0) → (vp_in (σ 122 0) 15 ∧ (vp_in ((st2 σ 123 ((σ 122 0).toNatClampNeg) p1) 122 0) 15 ∧ (∀ σ2 : zSg, σ2 = st2 (st2 σ 123 ((σ 122 0).toNatClampNeg) p1) 124 (((st2 σ 123 ((σ 122 0).toNatClampNeg) p1) 122 0).toNatClampNeg) p2 → Q ((st2 σ2 122 0 ((σ2 122 0) + 1)) 122 0) (st2 σ2 122 0 ((σ2 122 0) + 1)) τ))))) : AI l D b M_X0_add 0 G0 Q 0 [(0, .ref (b + 122)), (1, .int p1), (2, .int p2)] [] G0 σ τ := by
  refine r_aload_n 0 dX0_add_0 rfl rfl ?_
  refine r_getI (j := 0) (by decide) (congrArg Prod.fst k0_122) c12_0 (by decide) rfl tw_273 dX0_add_1 ?_
  refine r_bipush dX0_add_4 cb_15 ?_
  refine r_icmp_ge (tgt := 39) dX0_add_6 (by decide) (fun c1 => ?_) (fun c1 => ?_)
  · replace h := h.1 c1
    refine r_aload_n 0 dX0_add_39 rfl rfl ?_
    refine r_getI (j := 0) (by decide) (congrArg Prod.fst k0_122) c12_0 (by decide) rfl tw_273 dX0_add_40 ?_
    exact r_iret rfl (Nat.le_refl _) (Nat.le_refl _) dX0_add_43 ⟨rfl, rfl, rfl, _, rfl, h⟩
  · replace h := h.2 c1
    refine r_aload_n 0 dX0_add_9 rfl rfl ?_
    refine r_getR (j := 1) (by decide) (congrArg Prod.fst k0_122) c12_0 (by decide) rfl g0_122_1 tw_275 dX0_add_10 ?_
    refine r_aload_n 0 dX0_add_13 rfl rfl ?_
    refine r_getI (j := 0) (by decide) (congrArg Prod.fst k0_122) c12_0 (by decide) rfl tw_273 dX0_add_14 ?_
    refine r_iload_n 1 dX0_add_17 rfl rfl ?_
    refine r_iast (by decide) k0_123 dX0_add_18 h.1 ?_
    replace h := h.2
    refine r_aload_n 0 dX0_add_19 rfl rfl ?_
    refine r_getR (j := 2) (by decide) (congrArg Prod.fst k0_122) c12_0 (by decide) rfl g0_122_2 tw_276 dX0_add_20 ?_
    refine r_aload_n 0 dX0_add_23 rfl rfl ?_
    refine r_getI (j := 0) (by decide) (congrArg Prod.fst k0_122) c12_0 (by decide) rfl tw_273 dX0_add_24 ?_
    refine r_iload_n 2 dX0_add_27 rfl rfl ?_
    refine r_iast (by decide) k0_124 dX0_add_28 h.1 ?_
    replace h := h.2
    refine r_nmS (fun σ2 eσ2 => ?_)
    replace h := h σ2 eσ2
    refine r_aload_n 0 dX0_add_29 rfl rfl ?_
    refine r_dup dX0_add_30 rfl ?_
    refine r_getI (j := 0) (by decide) (congrArg Prod.fst k0_122) c12_0 (by decide) rfl tw_273 dX0_add_31 ?_
    refine r_iconst dX0_add_34 ci_1 ?_
    refine r_iadd dX0_add_35 ?_
    refine r_putI (j := 0) (by decide) (congrArg Prod.fst k0_122) c12_0 (by decide) rfl (Or.inl rfl) tw_273 dX0_add_36 ?_
    refine r_aload_n 0 dX0_add_39 rfl rfl ?_
    refine r_getI (j := 0) (by decide) (congrArg Prod.fst k0_122) c12_0 (by decide) rfl tw_273 dX0_add_40 ?_
    exact r_iret rfl (Nat.le_refl _) (Nat.le_refl _) dX0_add_43 ⟨rfl, rfl, rfl, _, rfl, h⟩
theorem s_X0_add {l : Launch} {D : zDD} {b : Nat} (p1 p2 : Int32) (σ : zSg) (τ : zLm) {Q : Int32 → zSg → zLm → Prop} (h : (15 ≤ (σ 122 0) → Q (σ 122 0) σ τ) ∧ (¬ 15 ≤ (σ 122 0) → (vp_in (σ 122 0) 15 ∧ (vp_in ((st2 σ 123 ((σ 122 0).toNatClampNeg) p1) 122 0) 15 ∧ (∀ σ2 : zSg, σ2 = st2 (st2 σ 123 ((σ 122 0).toNatClampNeg) p1) 124 (((st2 σ 123 ((σ 122 0).toNatClampNeg) p1) 122 0).toNatClampNeg) p2 → Q ((st2 σ2 122 0 ((σ2 122 0) + 1)) 122 0) (st2 σ2 122 0 ((σ2 122 0) + 1)) τ))))) : SI l D b M_X0_add 0 G0 [.ref (b + 122), .int p1, .int p2] σ τ Q := zS.of (by decide) (Nat.le_of_ble_eq_true rfl) rfl (w_X0_add_0 p1 p2 σ τ h)

theorem dX0_clear_0 : decode cX0_clear 0 = .ok (.aload_n 0, 1) := by decide +kernel
theorem dX0_clear_1 : decode cX0_clear 1 = .ok (.iconst 0, 1) := by decide +kernel
theorem dX0_clear_2 : decode cX0_clear 2 = .ok (.putfield 18, 3) := by decide +kernel
theorem dX0_clear_5 : decode cX0_clear 5 = .ok (.return_, 1) := by decide +kernel
theorem w_X0_clear_0 {l : Launch} {D : zDD} {b : Nat} (σ : zSg) (τ : zLm) {Q : zSg → zLm → Prop} (h : Q (st2 σ 122 0 0) τ) : AV l D b M_X0_clear 0 G0 Q 0 [(0, .ref (b + 122))] [] G0 σ τ := by
  refine r_aload_n 0 dX0_clear_0 rfl rfl ?_
  refine r_iconst dX0_clear_1 ci_0 ?_
  refine r_putI (j := 0) (by decide) (congrArg Prod.fst k0_122) c12_0 (by decide) rfl (Or.inl rfl) tw_273 dX0_clear_2 ?_
  exact r_vret rfl (Nat.le_refl _) (Nat.le_refl _) dX0_clear_5 ⟨rfl, rfl, rfl, rfl, h⟩
theorem s_X0_clear {l : Launch} {D : zDD} {b : Nat} (σ : zSg) (τ : zLm) {Q : zSg → zLm → Prop} (h : Q (st2 σ 122 0 0) τ) : SV l D b M_X0_clear 0 G0 [.ref (b + 122)] σ τ Q := zS.of (by decide) (Nat.le_of_ble_eq_true rfl) rfl (w_X0_clear_0 σ τ h)

theorem dX0_firstWrong_0 : decode cX0_firstWrong 0 = .ok (.iconst 0, 1) := by decide +kernel
theorem dX0_firstWrong_1 : decode cX0_firstWrong 1 = .ok (.istore_n 2, 1) := by decide +kernel
theorem dX0_firstWrong_2 : decode cX0_firstWrong 2 = .ok (.iload_n 2, 1) := by decide +kernel
theorem dX0_firstWrong_3 : decode cX0_firstWrong 3 = .ok (.aload_n 0, 1) := by decide +kernel
theorem dX0_firstWrong_4 : decode cX0_firstWrong 4 = .ok (.getfield 18, 3) := by decide +kernel
theorem dX0_firstWrong_7 : decode cX0_firstWrong 7 = .ok (.if_icmp .ge 31, 3) := by decide +kernel
theorem dX0_firstWrong_10 : decode cX0_firstWrong 10 = .ok (.aload_n 1, 1) := by decide +kernel
theorem dX0_firstWrong_11 : decode cX0_firstWrong 11 = .ok (.getfield 22, 3) := by decide +kernel
theorem dX0_firstWrong_14 : decode cX0_firstWrong 14 = .ok (.aload_n 0, 1) := by decide +kernel
theorem dX0_firstWrong_15 : decode cX0_firstWrong 15 = .ok (.getfield 9, 3) := by decide +kernel
theorem dX0_firstWrong_18 : decode cX0_firstWrong 18 = .ok (.iload_n 2, 1) := by decide +kernel
theorem dX0_firstWrong_19 : decode cX0_firstWrong 19 = .ok (.iaload, 1) := by decide +kernel
theorem dX0_firstWrong_20 : decode cX0_firstWrong 20 = .ok (.iaload, 1) := by decide +kernel
theorem dX0_firstWrong_21 : decode cX0_firstWrong 21 = .ok (.aload_n 0, 1) := by decide +kernel
theorem dX0_firstWrong_22 : decode cX0_firstWrong 22 = .ok (.getfield 15, 3) := by decide +kernel
theorem dX0_firstWrong_25 : decode cX0_firstWrong 25 = .ok (.iload_n 2, 1) := by decide +kernel
theorem dX0_firstWrong_26 : decode cX0_firstWrong 26 = .ok (.iaload, 1) := by decide +kernel
theorem dX0_firstWrong_27 : decode cX0_firstWrong 27 = .ok (.if_icmp .eq 5, 3) := by decide +kernel
theorem dX0_firstWrong_30 : decode cX0_firstWrong 30 = .ok (.iload_n 2, 1) := by decide +kernel
theorem dX0_firstWrong_31 : decode cX0_firstWrong 31 = .ok (.ireturn, 1) := by decide +kernel
theorem dX0_firstWrong_32 : decode cX0_firstWrong 32 = .ok (.iinc 2 1, 3) := by decide +kernel
theorem dX0_firstWrong_35 : decode cX0_firstWrong 35 = .ok (.goto (-33), 3) := by decide +kernel
theorem dX0_firstWrong_38 : decode cX0_firstWrong 38 = .ok (.iconst (-1), 1) := by decide +kernel
theorem dX0_firstWrong_39 : decode cX0_firstWrong 39 = .ok (.ireturn, 1) := by decide +kernel
theorem w_X0_firstWrong_2 {l : Launch} {D : zDD} {b : Nat} (x2 : Int32) (σ : zSg) (τ : zLm) {Q : Int32 → zSg → zLm → Prop} (h : ((σ 122 0) ≤ x2 → Q (-1) σ τ) ∧ (¬ (σ 122 0) ≤ x2 → (vp_in x2 15 ∧ (vp_in (σ 123 x2.toNatClampNeg) 6 ∧ (vp_in x2 15 ∧ (((σ 16 ((σ 123 x2.toNatClampNeg).toNatClampNeg)) = (σ 124 x2.toNatClampNeg) → AI l D b M_X0_firstWrong 0 G0 Q 2 [(0, .ref (b + 122)), (1, .ref (b + 14)), (2, .int (x2 + 1))] [] G0 σ τ) ∧ (¬ (σ 16 ((σ 123 x2.toNatClampNeg).toNatClampNeg)) = (σ 124 x2.toNatClampNeg) → Q x2 σ τ))))))) : AI l D b M_X0_firstWrong 0 G0 Q 2 [(0, .ref (b + 122)), (1, .ref (b + 14)), (2, .int x2)] [] G0 σ τ := by
  refine r_iload_n 2 dX0_firstWrong_2 rfl rfl ?_
  refine r_aload_n 0 dX0_firstWrong_3 rfl rfl ?_
  refine r_getI (j := 0) (by decide) (congrArg Prod.fst k0_122) c12_0 (by decide) rfl tw_273 dX0_firstWrong_4 ?_
  refine r_icmp_ge (tgt := 38) dX0_firstWrong_7 (by decide) (fun c1 => ?_) (fun c1 => ?_)
  · replace h := h.1 c1
    refine r_iconst dX0_firstWrong_38 ci_m1 ?_
    exact r_iret rfl (Nat.le_refl _) (Nat.le_refl _) dX0_firstWrong_39 ⟨rfl, rfl, rfl, _, rfl, h⟩
  · replace h := h.2 c1
    refine r_aload_n 1 dX0_firstWrong_10 rfl rfl ?_
    refine r_getR (j := 3) (by decide) (congrArg Prod.fst k0_14) c12_8 (by decide) rfl g0_14_3 tw_125 dX0_firstWrong_11 ?_
    refine r_aload_n 0 dX0_firstWrong_14 rfl rfl ?_
    refine r_getR (j := 1) (by decide) (congrArg Prod.fst k0_122) c12_0 (by decide) rfl g0_122_1 tw_275 dX0_firstWrong_15 ?_
    refine r_iload_n 2 dX0_firstWrong_18 rfl rfl ?_
    refine r_iald (by decide) k0_123 dX0_firstWrong_19 h.1 ?_
    replace h := h.2
    refine r_iald (by decide) k0_16 dX0_firstWrong_20 h.1 ?_
    replace h := h.2
    refine r_aload_n 0 dX0_firstWrong_21 rfl rfl ?_
    refine r_getR (j := 2) (by decide) (congrArg Prod.fst k0_122) c12_0 (by decide) rfl g0_122_2 tw_276 dX0_firstWrong_22 ?_
    refine r_iload_n 2 dX0_firstWrong_25 rfl rfl ?_
    refine r_iald (by decide) k0_124 dX0_firstWrong_26 h.1 ?_
    replace h := h.2
    refine r_icmp_eq (tgt := 32) dX0_firstWrong_27 (by decide) (fun c2 => ?_) (fun c2 => ?_)
    · replace h := h.1 c2
      refine r_inc 2 dX0_firstWrong_32 rfl ci_1 (by decide) rfl ?_
      refine r_goto (tgt := 2) dX0_firstWrong_35 (by decide) ?_
      refine r_lv [1, 2, 0] rfl ?_
      exact h
    · replace h := h.2 c2
      refine r_iload_n 2 dX0_firstWrong_30 rfl rfl ?_
      exact r_iret rfl (Nat.le_refl _) (Nat.le_refl _) dX0_firstWrong_31 ⟨rfl, rfl, rfl, _, rfl, h⟩

theorem w_X0_firstWrong_0 {l : Launch} {D : zDD} {b : Nat} (σ : zSg) (τ : zLm) {Q : Int32 → zSg → zLm → Prop} (h : AI l D b M_X0_firstWrong 0 G0 Q 2 [(0, .ref (b + 122)), (1, .ref (b + 14)), (2, .int 0)] [] G0 σ τ) : AI l D b M_X0_firstWrong 0 G0 Q 0 [(0, .ref (b + 122)), (1, .ref (b + 14))] [] G0 σ τ := by
  refine r_iconst dX0_firstWrong_0 ci_0 ?_
  refine r_istore_n dX0_firstWrong_1 rfl (by decide) rfl ?_
  refine r_lv [1, 2, 0] rfl ?_
  exact h
theorem s_X0_firstWrong {l : Launch} {D : zDD} {b : Nat} (σ : zSg) (τ : zLm) {Q : Int32 → zSg → zLm → Prop} (h : AI l D b M_X0_firstWrong 0 G0 Q 2 [(0, .ref (b + 122)), (1, .ref (b + 14)), (2, .int 0)] [] G0 σ τ) : SI l D b M_X0_firstWrong 0 G0 [.ref (b + 122), .ref (b + 14)] σ τ Q := zS.of (by decide) (Nat.le_of_ble_eq_true rfl) rfl (w_X0_firstWrong_0 σ τ h)

