theorem dX7_add_0 : decode cX7_add 0 = .ok (.aload_n 0, 1) := by decide +kernel
theorem dX7_add_1 : decode cX7_add 1 = .ok (.getfield 15, 3) := by decide +kernel
theorem dX7_add_4 : decode cX7_add 4 = .ok (.sipush 240, 3) := by decide +kernel
theorem dX7_add_7 : decode cX7_add 7 = .ok (.if_icmp .ge 23, 3) := by decide +kernel
theorem dX7_add_10 : decode cX7_add 10 = .ok (.aload_n 0, 1) := by decide +kernel
theorem dX7_add_11 : decode cX7_add 11 = .ok (.getfield 9, 3) := by decide +kernel
theorem dX7_add_14 : decode cX7_add 14 = .ok (.aload_n 0, 1) := by decide +kernel
theorem dX7_add_15 : decode cX7_add 15 = .ok (.getfield 15, 3) := by decide +kernel
theorem dX7_add_18 : decode cX7_add 18 = .ok (.iload_n 1, 1) := by decide +kernel
theorem dX7_add_19 : decode cX7_add 19 = .ok (.iastore, 1) := by decide +kernel
theorem dX7_add_20 : decode cX7_add 20 = .ok (.aload_n 0, 1) := by decide +kernel
theorem dX7_add_21 : decode cX7_add 21 = .ok (.dup, 1) := by decide +kernel
theorem dX7_add_22 : decode cX7_add 22 = .ok (.getfield 15, 3) := by decide +kernel
theorem dX7_add_25 : decode cX7_add 25 = .ok (.iconst 1, 1) := by decide +kernel
theorem dX7_add_26 : decode cX7_add 26 = .ok (.iadd, 1) := by decide +kernel
theorem dX7_add_27 : decode cX7_add 27 = .ok (.putfield 15, 3) := by decide +kernel
theorem dX7_add_30 : decode cX7_add 30 = .ok (.aload_n 0, 1) := by decide +kernel
theorem dX7_add_31 : decode cX7_add 31 = .ok (.getfield 15, 3) := by decide +kernel
theorem dX7_add_34 : decode cX7_add 34 = .ok (.ireturn, 1) := by decide +kernel
theorem w_X7_add_0 {l : Launch} {D : zDD} {b : Nat} (p1 : Int32) (σ : zSg) (τ : zLm) {Q : Int32 → zSg → zLm → Prop} (h : (240 ≤ (σ 1 1) → Q (σ 1 1) σ τ) ∧ (¬ 240 ≤ (σ 1 1) → (vp_in (σ 1 1) 240 ∧ Q ((st2 (st2 σ 2 ((σ 1 1).toNatClampNeg) p1) 1 1 (((st2 σ 2 ((σ 1 1).toNatClampNeg) p1) 1 1) + 1)) 1 1) (st2 (st2 σ 2 ((σ 1 1).toNatClampNeg) p1) 1 1 (((st2 σ 2 ((σ 1 1).toNatClampNeg) p1) 1 1) + 1)) τ))) : AI l D b M_X7_add 0 G0 Q 0 [(0, .ref (b + 1)), (1, .int p1)] [] G0 σ τ := by
  refine r_aload_n 0 dX7_add_0 rfl rfl ?_
  refine r_getI (j := 1) (by decide) (congrArg Prod.fst k0_1) c12_7 (by decide) rfl tw_32 dX7_add_1 ?_
  refine r_sipush dX7_add_4 cs_240 ?_
  refine r_icmp_ge (tgt := 30) dX7_add_7 (by decide) (fun c1 => ?_) (fun c1 => ?_)
  · replace h := h.1 c1
    refine r_aload_n 0 dX7_add_30 rfl rfl ?_
    refine r_getI (j := 1) (by decide) (congrArg Prod.fst k0_1) c12_7 (by decide) rfl tw_32 dX7_add_31 ?_
    exact r_iret rfl (Nat.le_refl _) (Nat.le_refl _) dX7_add_34 ⟨rfl, rfl, rfl, _, rfl, h⟩
  · replace h := h.2 c1
    refine r_aload_n 0 dX7_add_10 rfl rfl ?_
    refine r_getR (j := 0) (by decide) (congrArg Prod.fst k0_1) c12_7 (by decide) rfl g0_1_0 tw_31 dX7_add_11 ?_
    refine r_aload_n 0 dX7_add_14 rfl rfl ?_
    refine r_getI (j := 1) (by decide) (congrArg Prod.fst k0_1) c12_7 (by decide) rfl tw_32 dX7_add_15 ?_
    refine r_iload_n 1 dX7_add_18 rfl rfl ?_
    refine r_iast (by decide) k0_2 dX7_add_19 h.1 ?_
    replace h := h.2
    refine r_aload_n 0 dX7_add_20 rfl rfl ?_
    refine r_dup dX7_add_21 rfl ?_
    refine r_getI (j := 1) (by decide) (congrArg Prod.fst k0_1) c12_7 (by decide) rfl tw_32 dX7_add_22 ?_
    refine r_iconst dX7_add_25 ci_1 ?_
    refine r_iadd dX7_add_26 ?_
    refine r_putI (j := 1) (by decide) (congrArg Prod.fst k0_1) c12_7 (by decide) rfl (Or.inl rfl) tw_32 dX7_add_27 ?_
    refine r_aload_n 0 dX7_add_30 rfl rfl ?_
    refine r_getI (j := 1) (by decide) (congrArg Prod.fst k0_1) c12_7 (by decide) rfl tw_32 dX7_add_31 ?_
    exact r_iret rfl (Nat.le_refl _) (Nat.le_refl _) dX7_add_34 ⟨rfl, rfl, rfl, _, rfl, h⟩
theorem s_X7_add {l : Launch} {D : zDD} {b : Nat} (p1 : Int32) (σ : zSg) (τ : zLm) {Q : Int32 → zSg → zLm → Prop} (h : (240 ≤ (σ 1 1) → Q (σ 1 1) σ τ) ∧ (¬ 240 ≤ (σ 1 1) → (vp_in (σ 1 1) 240 ∧ Q ((st2 (st2 σ 2 ((σ 1 1).toNatClampNeg) p1) 1 1 (((st2 σ 2 ((σ 1 1).toNatClampNeg) p1) 1 1) + 1)) 1 1) (st2 (st2 σ 2 ((σ 1 1).toNatClampNeg) p1) 1 1 (((st2 σ 2 ((σ 1 1).toNatClampNeg) p1) 1 1) + 1)) τ))) : SI l D b M_X7_add 0 G0 [.ref (b + 1), .int p1] σ τ Q := zS.of (by decide) (Nat.le_of_ble_eq_true rfl) rfl (w_X7_add_0 p1 σ τ h)

theorem dX7_here_0 : decode cX7_here 0 = .ok (.aload_n 0, 1) := by decide +kernel
theorem dX7_here_1 : decode cX7_here 1 = .ok (.getfield 19, 3) := by decide +kernel
theorem dX7_here_4 : decode cX7_here 4 = .ok (.ifCond .lt 26, 3) := by decide +kernel
theorem dX7_here_7 : decode cX7_here 7 = .ok (.aload_n 0, 1) := by decide +kernel
theorem dX7_here_8 : decode cX7_here 8 = .ok (.getfield 19, 3) := by decide +kernel
theorem dX7_here_11 : decode cX7_here 11 = .ok (.aload_n 0, 1) := by decide +kernel
theorem dX7_here_12 : decode cX7_here 12 = .ok (.getfield 15, 3) := by decide +kernel
theorem dX7_here_15 : decode cX7_here 15 = .ok (.if_icmp .ge 15, 3) := by decide +kernel
theorem dX7_here_18 : decode cX7_here 18 = .ok (.aload_n 0, 1) := by decide +kernel
theorem dX7_here_19 : decode cX7_here 19 = .ok (.getfield 9, 3) := by decide +kernel
theorem dX7_here_22 : decode cX7_here 22 = .ok (.aload_n 0, 1) := by decide +kernel
theorem dX7_here_23 : decode cX7_here 23 = .ok (.getfield 19, 3) := by decide +kernel
theorem dX7_here_26 : decode cX7_here 26 = .ok (.iaload, 1) := by decide +kernel
theorem dX7_here_27 : decode cX7_here 27 = .ok (.goto 4, 3) := by decide +kernel
theorem dX7_here_30 : decode cX7_here 30 = .ok (.iconst (-1), 1) := by decide +kernel
theorem dX7_here_31 : decode cX7_here 31 = .ok (.ireturn, 1) := by decide +kernel
theorem w_X7_here_0 {l : Launch} {D : zDD} {b : Nat} (σ : zSg) (τ : zLm) {Q : Int32 → zSg → zLm → Prop} (h : ((σ 1 3) < 0 → Q (-1) σ τ) ∧ (¬ (σ 1 3) < 0 → (((σ 1 1) ≤ (σ 1 3) → Q (-1) σ τ) ∧ (¬ (σ 1 1) ≤ (σ 1 3) → (vp_in (σ 1 3) 240 ∧ Q (σ 2 ((σ 1 3).toNatClampNeg)) σ τ))))) : AI l D b M_X7_here 0 G0 Q 0 [(0, .ref (b + 1))] [] G0 σ τ := by
  refine r_aload_n 0 dX7_here_0 rfl rfl ?_
  refine r_getI (j := 3) (by decide) (congrArg Prod.fst k0_1) c12_7 (by decide) rfl tw_36 dX7_here_1 ?_
  refine r_if_lt (tgt := 30) dX7_here_4 (by decide) (fun c1 => ?_) (fun c1 => ?_)
  · replace h := h.1 c1
    refine r_iconst dX7_here_30 ci_m1 ?_
    exact r_iret rfl (Nat.le_refl _) (Nat.le_refl _) dX7_here_31 ⟨rfl, rfl, rfl, _, rfl, h⟩
  · replace h := h.2 c1
    refine r_aload_n 0 dX7_here_7 rfl rfl ?_
    refine r_getI (j := 3) (by decide) (congrArg Prod.fst k0_1) c12_7 (by decide) rfl tw_36 dX7_here_8 ?_
    refine r_aload_n 0 dX7_here_11 rfl rfl ?_
    refine r_getI (j := 1) (by decide) (congrArg Prod.fst k0_1) c12_7 (by decide) rfl tw_32 dX7_here_12 ?_
    refine r_icmp_ge (tgt := 30) dX7_here_15 (by decide) (fun c2 => ?_) (fun c2 => ?_)
    · replace h := h.1 c2
      refine r_iconst dX7_here_30 ci_m1 ?_
      exact r_iret rfl (Nat.le_refl _) (Nat.le_refl _) dX7_here_31 ⟨rfl, rfl, rfl, _, rfl, h⟩
    · replace h := h.2 c2
      refine r_aload_n 0 dX7_here_18 rfl rfl ?_
      refine r_getR (j := 0) (by decide) (congrArg Prod.fst k0_1) c12_7 (by decide) rfl g0_1_0 tw_31 dX7_here_19 ?_
      refine r_aload_n 0 dX7_here_22 rfl rfl ?_
      refine r_getI (j := 3) (by decide) (congrArg Prod.fst k0_1) c12_7 (by decide) rfl tw_36 dX7_here_23 ?_
      refine r_iald (by decide) k0_2 dX7_here_26 h.1 ?_
      replace h := h.2
      refine r_goto (tgt := 31) dX7_here_27 (by decide) ?_
      exact r_iret rfl (Nat.le_refl _) (Nat.le_refl _) dX7_here_31 ⟨rfl, rfl, rfl, _, rfl, h⟩
theorem s_X7_here {l : Launch} {D : zDD} {b : Nat} (σ : zSg) (τ : zLm) {Q : Int32 → zSg → zLm → Prop} (h : ((σ 1 3) < 0 → Q (-1) σ τ) ∧ (¬ (σ 1 3) < 0 → (((σ 1 1) ≤ (σ 1 3) → Q (-1) σ τ) ∧ (¬ (σ 1 1) ≤ (σ 1 3) → (vp_in (σ 1 3) 240 ∧ Q (σ 2 ((σ 1 3).toNatClampNeg)) σ τ))))) : SI l D b M_X7_here 0 G0 [.ref (b + 1)] σ τ Q := zS.of (by decide) (Nat.le_of_ble_eq_true rfl) rfl (w_X7_here_0 σ τ h)

theorem dX7_isFigure_0 : decode cX7_isFigure 0 = .ok (.iload_n 0, 1) := by decide +kernel
theorem dX7_isFigure_1 : decode cX7_isFigure 1 = .ok (.bipush 48, 2) := by decide +kernel
theorem dX7_isFigure_3 : decode cX7_isFigure 3 = .ok (.if_icmp .lt 13, 3) := by decide +kernel
theorem dX7_isFigure_6 : decode cX7_isFigure 6 = .ok (.iload_n 0, 1) := by decide +kernel
theorem dX7_isFigure_7 : decode cX7_isFigure 7 = .ok (.bipush 57, 2) := by decide +kernel
theorem dX7_isFigure_9 : decode cX7_isFigure 9 = .ok (.if_icmp .gt 7, 3) := by decide +kernel
theorem dX7_isFigure_12 : decode cX7_isFigure 12 = .ok (.iconst 1, 1) := by decide +kernel
theorem dX7_isFigure_13 : decode cX7_isFigure 13 = .ok (.goto 4, 3) := by decide +kernel
theorem dX7_isFigure_16 : decode cX7_isFigure 16 = .ok (.iconst 0, 1) := by decide +kernel
theorem dX7_isFigure_17 : decode cX7_isFigure 17 = .ok (.ireturn, 1) := by decide +kernel
theorem w_X7_isFigure_0 {l : Launch} {D : zDD} {b : Nat} {γ : zGm} (p1 : Int32) (σ : zSg) (τ : zLm) {Q : Int32 → zSg → zLm → Prop} (h : (p1 < 48 → Q 0 σ τ) ∧ (¬ p1 < 48 → ((57 < p1 → Q 0 σ τ) ∧ (¬ 57 < p1 → Q 1 σ τ)))) : AI l D b M_X7_isFigure 0 γ Q 0 [(0, .int p1)] [] γ σ τ := by
  refine r_iload_n 0 dX7_isFigure_0 rfl rfl ?_
  refine r_bipush dX7_isFigure_1 cb_48 ?_
  refine r_icmp_lt (tgt := 16) dX7_isFigure_3 (by decide) (fun c1 => ?_) (fun c1 => ?_)
  · replace h := h.1 c1
    refine r_iconst dX7_isFigure_16 ci_0 ?_
    exact r_zret rfl (Nat.le_refl _) (Nat.le_refl _) dX7_isFigure_17 (Or.inl rfl) ⟨rfl, rfl, rfl, _, rfl, h⟩
  · replace h := h.2 c1
    refine r_iload_n 0 dX7_isFigure_6 rfl rfl ?_
    refine r_bipush dX7_isFigure_7 cb_57 ?_
    refine r_icmp_gt (tgt := 16) dX7_isFigure_9 (by decide) (fun c2 => ?_) (fun c2 => ?_)
    · replace h := h.1 c2
      refine r_iconst dX7_isFigure_16 ci_0 ?_
      exact r_zret rfl (Nat.le_refl _) (Nat.le_refl _) dX7_isFigure_17 (Or.inl rfl) ⟨rfl, rfl, rfl, _, rfl, h⟩
    · replace h := h.2 c2
      refine r_iconst dX7_isFigure_12 ci_1 ?_
      refine r_goto (tgt := 17) dX7_isFigure_13 (by decide) ?_
      exact r_zret rfl (Nat.le_refl _) (Nat.le_refl _) dX7_isFigure_17 (Or.inr rfl) ⟨rfl, rfl, rfl, _, rfl, h⟩
theorem s_X7_isFigure {l : Launch} {D : zDD} {b : Nat} {γ : zGm} (p1 : Int32) (σ : zSg) (τ : zLm) {Q : Int32 → zSg → zLm → Prop} (h : (p1 < 48 → Q 0 σ τ) ∧ (¬ p1 < 48 → ((57 < p1 → Q 0 σ τ) ∧ (¬ 57 < p1 → Q 1 σ τ)))) : SI l D b M_X7_isFigure 0 γ [.int p1] σ τ Q := zS.of (by decide) (Nat.le_of_ble_eq_true rfl) rfl (w_X7_isFigure_0 p1 σ τ h)

theorem dX7_blame_0 : decode cX7_blame 0 = .ok (.aload_n 0, 1) := by decide +kernel
theorem dX7_blame_1 : decode cX7_blame 1 = .ok (.getfield 22, 3) := by decide +kernel
theorem dX7_blame_4 : decode cX7_blame 4 = .ok (.ifCond .ne 13, 3) := by decide +kernel
theorem dX7_blame_7 : decode cX7_blame 7 = .ok (.aload_n 0, 1) := by decide +kernel
theorem dX7_blame_8 : decode cX7_blame 8 = .ok (.iload_n 1, 1) := by decide +kernel
theorem dX7_blame_9 : decode cX7_blame 9 = .ok (.putfield 22, 3) := by decide +kernel
theorem dX7_blame_12 : decode cX7_blame 12 = .ok (.aload_n 0, 1) := by decide +kernel
theorem dX7_blame_13 : decode cX7_blame 13 = .ok (.iload_n 2, 1) := by decide +kernel
theorem dX7_blame_14 : decode cX7_blame 14 = .ok (.putfield 25, 3) := by decide +kernel
theorem dX7_blame_17 : decode cX7_blame 17 = .ok (.return_, 1) := by decide +kernel
theorem w_X7_blame_0 {l : Launch} {D : zDD} {b : Nat} (p1 p2 : Int32) (σ : zSg) (τ : zLm) {Q : zSg → zLm → Prop} (h : (¬ (σ 1 4) = 0 → Q σ τ) ∧ ((σ 1 4) = 0 → Q (st2 (st2 σ 1 4 p1) 1 2 p2) τ)) : AV l D b M_X7_blame 0 G0 Q 0 [(0, .ref (b + 1)), (1, .int p1), (2, .int p2)] [] G0 σ τ := by
  refine r_aload_n 0 dX7_blame_0 rfl rfl ?_
  refine r_getI (j := 4) (by decide) (congrArg Prod.fst k0_1) c12_7 (by decide) rfl tw_37 dX7_blame_1 ?_
  refine r_if_ne (tgt := 17) dX7_blame_4 (by decide) (fun c1 => ?_) (fun c1 => ?_)
  · replace h := h.1 c1
    exact r_vret rfl (Nat.le_refl _) (Nat.le_refl _) dX7_blame_17 ⟨rfl, rfl, rfl, rfl, h⟩
  · replace h := h.2 c1
    refine r_aload_n 0 dX7_blame_7 rfl rfl ?_
    refine r_iload_n 1 dX7_blame_8 rfl rfl ?_
    refine r_putI (j := 4) (by decide) (congrArg Prod.fst k0_1) c12_7 (by decide) rfl (Or.inl rfl) tw_37 dX7_blame_9 ?_
    refine r_aload_n 0 dX7_blame_12 rfl rfl ?_
    refine r_iload_n 2 dX7_blame_13 rfl rfl ?_
    refine r_putI (j := 2) (by decide) (congrArg Prod.fst k0_1) c12_7 (by decide) rfl (Or.inl rfl) tw_34 dX7_blame_14 ?_
    exact r_vret rfl (Nat.le_refl _) (Nat.le_refl _) dX7_blame_17 ⟨rfl, rfl, rfl, rfl, h⟩
theorem s_X7_blame {l : Launch} {D : zDD} {b : Nat} (p1 p2 : Int32) (σ : zSg) (τ : zLm) {Q : zSg → zLm → Prop} (h : (¬ (σ 1 4) = 0 → Q σ τ) ∧ ((σ 1 4) = 0 → Q (st2 (st2 σ 1 4 p1) 1 2 p2) τ)) : SV l D b M_X7_blame 0 G0 [.ref (b + 1), .int p1, .int p2] σ τ Q := zS.of (by decide) (Nat.le_of_ble_eq_true rfl) rfl (w_X7_blame_0 p1 p2 σ τ h)

theorem dX7_skipBlanks_0 : decode cX7_skipBlanks 0 = .ok (.aload_n 0, 1) := by decide +kernel
theorem dX7_skipBlanks_1 : decode cX7_skipBlanks 1 = .ok (.getfield 19, 3) := by decide +kernel
theorem dX7_skipBlanks_4 : decode cX7_skipBlanks 4 = .ok (.istore_n 1, 1) := by decide +kernel
theorem dX7_skipBlanks_5 : decode cX7_skipBlanks 5 = .ok (.iload_n 1, 1) := by decide +kernel
theorem dX7_skipBlanks_6 : decode cX7_skipBlanks 6 = .ok (.aload_n 0, 1) := by decide +kernel
theorem dX7_skipBlanks_7 : decode cX7_skipBlanks 7 = .ok (.getfield 15, 3) := by decide +kernel
theorem dX7_skipBlanks_10 : decode cX7_skipBlanks 10 = .ok (.if_icmp .ge 28, 3) := by decide +kernel
theorem dX7_skipBlanks_13 : decode cX7_skipBlanks 13 = .ok (.aload_n 0, 1) := by decide +kernel
theorem dX7_skipBlanks_14 : decode cX7_skipBlanks 14 = .ok (.invokevirtual 40, 3) := by decide +kernel
theorem dX7_skipBlanks_17 : decode cX7_skipBlanks 17 = .ok (.bipush 32, 2) := by decide +kernel
theorem dX7_skipBlanks_19 : decode cX7_skipBlanks 19 = .ok (.if_icmp .ne 19, 3) := by decide +kernel
theorem dX7_skipBlanks_22 : decode cX7_skipBlanks 22 = .ok (.aload_n 0, 1) := by decide +kernel
theorem dX7_skipBlanks_23 : decode cX7_skipBlanks 23 = .ok (.dup, 1) := by decide +kernel
theorem dX7_skipBlanks_24 : decode cX7_skipBlanks 24 = .ok (.getfield 19, 3) := by decide +kernel
theorem dX7_skipBlanks_27 : decode cX7_skipBlanks 27 = .ok (.iconst 1, 1) := by decide +kernel
theorem dX7_skipBlanks_28 : decode cX7_skipBlanks 28 = .ok (.iadd, 1) := by decide +kernel
theorem dX7_skipBlanks_29 : decode cX7_skipBlanks 29 = .ok (.putfield 19, 3) := by decide +kernel
theorem dX7_skipBlanks_32 : decode cX7_skipBlanks 32 = .ok (.iinc 1 1, 3) := by decide +kernel
theorem dX7_skipBlanks_35 : decode cX7_skipBlanks 35 = .ok (.goto (-30), 3) := by decide +kernel
theorem dX7_skipBlanks_38 : decode cX7_skipBlanks 38 = .ok (.return_, 1) := by decide +kernel
theorem w_X7_skipBlanks_5 {l : Launch} {D : zDD} {b : Nat} (x1 : Int32) (σ : zSg) (τ : zLm) {Q : zSg → zLm → Prop} (h : ((σ 1 1) ≤ x1 → Q σ τ) ∧ (¬ (σ 1 1) ≤ x1 → (SI l D b M_X7_here 0 G0 [.ref (b + 1)] σ τ (fun r2 σ2 τ2 => (¬ r2 = 32 → Q σ2 τ2) ∧ (r2 = 32 → AV l D b M_X7_skipBlanks 1 G0 Q 5 [(0, .ref (b + 1)), (1, .int (x1 + 1))] [] G0 (st2 σ2 1 3 ((σ2 1 3) + 1)) τ2))))) : AV l D b M_X7_skipBlanks 1 G0 Q 5 [(0, .ref (b + 1)), (1, .int x1)] [] G0 σ τ := by
  refine r_iload_n 1 dX7_skipBlanks_5 rfl rfl ?_
  refine r_aload_n 0 dX7_skipBlanks_6 rfl rfl ?_
  refine r_getI (j := 1) (by decide) (congrArg Prod.fst k0_1) c12_7 (by decide) rfl tw_32 dX7_skipBlanks_7 ?_
  refine r_icmp_ge (tgt := 38) dX7_skipBlanks_10 (by decide) (fun c1 => ?_) (fun c1 => ?_)
  · replace h := h.1 c1
    exact r_vret rfl (Nat.le_refl _) (Nat.le_refl _) dX7_skipBlanks_38 ⟨rfl, rfl, rfl, rfl, h⟩
  · replace h := h.2 c1
    refine r_aload_n 0 dX7_skipBlanks_13 rfl rfl ?_
    refine rc_VI (h' := 0) [] okv_X7_here (by decide) (congrArg Prod.fst k0_1) tw_347 rfl rfl (Nat.le_of_ble_eq_true rfl) dX7_skipBlanks_14 (by decide) h (fun r2 σ2 τ2 h => ?_)
    refine r_bipush dX7_skipBlanks_17 cb_32 ?_
    refine r_icmp_ne (tgt := 38) dX7_skipBlanks_19 (by decide) (fun c3 => ?_) (fun c3 => ?_)
    · replace h := h.1 c3
      exact r_vret rfl (Nat.le_refl _) (Nat.le_refl _) dX7_skipBlanks_38 ⟨rfl, rfl, rfl, rfl, h⟩
    · replace h := h.2 c3
      refine r_aload_n 0 dX7_skipBlanks_22 rfl rfl ?_
      refine r_dup dX7_skipBlanks_23 rfl ?_
      refine r_getI (j := 3) (by decide) (congrArg Prod.fst k0_1) c12_7 (by decide) rfl tw_36 dX7_skipBlanks_24 ?_
      refine r_iconst dX7_skipBlanks_27 ci_1 ?_
      refine r_iadd dX7_skipBlanks_28 ?_
      refine r_putI (j := 3) (by decide) (congrArg Prod.fst k0_1) c12_7 (by decide) rfl (Or.inl rfl) tw_36 dX7_skipBlanks_29 ?_
      refine r_inc 1 dX7_skipBlanks_32 rfl ci_1 (by decide) rfl ?_
      refine r_goto (tgt := 5) dX7_skipBlanks_35 (by decide) ?_
      refine r_lv [1, 0] rfl ?_
      exact h

theorem w_X7_skipBlanks_0 {l : Launch} {D : zDD} {b : Nat} (σ : zSg) (τ : zLm) {Q : zSg → zLm → Prop} (h : AV l D b M_X7_skipBlanks 1 G0 Q 5 [(0, .ref (b + 1)), (1, .int (σ 1 3))] [] G0 σ τ) : AV l D b M_X7_skipBlanks 1 G0 Q 0 [(0, .ref (b + 1))] [] G0 σ τ := by
  refine r_aload_n 0 dX7_skipBlanks_0 rfl rfl ?_
  refine r_getI (j := 3) (by decide) (congrArg Prod.fst k0_1) c12_7 (by decide) rfl tw_36 dX7_skipBlanks_1 ?_
  refine r_istore_n dX7_skipBlanks_4 rfl (by decide) rfl ?_
  refine r_lv [1, 0] rfl ?_
  exact h
theorem s_X7_skipBlanks {l : Launch} {D : zDD} {b : Nat} (σ : zSg) (τ : zLm) {Q : zSg → zLm → Prop} (h : AV l D b M_X7_skipBlanks 1 G0 Q 5 [(0, .ref (b + 1)), (1, .int (σ 1 3))] [] G0 σ τ) : SV l D b M_X7_skipBlanks 1 G0 [.ref (b + 1)] σ τ Q := zS.of (by decide) (Nat.le_of_ble_eq_true rfl) rfl (w_X7_skipBlanks_0 σ τ h)

theorem dX7_readNumber_0 : decode cX7_readNumber 0 = .ok (.aload_n 0, 1) := by decide +kernel
theorem dX7_readNumber_1 : decode cX7_readNumber 1 = .ok (.invokevirtual 33, 3) := by decide +kernel
theorem dX7_readNumber_4 : decode cX7_readNumber 4 = .ok (.aload_n 0, 1) := by decide +kernel
theorem dX7_readNumber_5 : decode cX7_readNumber 5 = .ok (.invokevirtual 40, 3) := by decide +kernel
theorem dX7_readNumber_8 : decode cX7_readNumber 8 = .ok (.invokestatic 88, 3) := by decide +kernel
theorem dX7_readNumber_11 : decode cX7_readNumber 11 = .ok (.ifCond .ne 14, 3) := by decide +kernel
theorem dX7_readNumber_14 : decode cX7_readNumber 14 = .ok (.aload_n 0, 1) := by decide +kernel
theorem dX7_readNumber_15 : decode cX7_readNumber 15 = .ok (.iconst 1, 1) := by decide +kernel
theorem dX7_readNumber_16 : decode cX7_readNumber 16 = .ok (.aload_n 0, 1) := by decide +kernel
theorem dX7_readNumber_17 : decode cX7_readNumber 17 = .ok (.getfield 19, 3) := by decide +kernel
theorem dX7_readNumber_20 : decode cX7_readNumber 20 = .ok (.invokevirtual 57, 3) := by decide +kernel
theorem dX7_readNumber_23 : decode cX7_readNumber 23 = .ok (.iconst 0, 1) := by decide +kernel
theorem dX7_readNumber_24 : decode cX7_readNumber 24 = .ok (.ireturn, 1) := by decide +kernel
theorem dX7_readNumber_25 : decode cX7_readNumber 25 = .ok (.aload_n 0, 1) := by decide +kernel
theorem dX7_readNumber_26 : decode cX7_readNumber 26 = .ok (.getfield 19, 3) := by decide +kernel
theorem dX7_readNumber_29 : decode cX7_readNumber 29 = .ok (.istore_n 3, 1) := by decide +kernel
theorem dX7_readNumber_30 : decode cX7_readNumber 30 = .ok (.iconst 0, 1) := by decide +kernel
theorem dX7_readNumber_31 : decode cX7_readNumber 31 = .ok (.istore 4, 2) := by decide +kernel
theorem dX7_readNumber_33 : decode cX7_readNumber 33 = .ok (.iload_n 3, 1) := by decide +kernel
theorem dX7_readNumber_34 : decode cX7_readNumber 34 = .ok (.istore 5, 2) := by decide +kernel
theorem dX7_readNumber_36 : decode cX7_readNumber 36 = .ok (.iload 5, 2) := by decide +kernel
theorem dX7_readNumber_38 : decode cX7_readNumber 38 = .ok (.aload_n 0, 1) := by decide +kernel
theorem dX7_readNumber_39 : decode cX7_readNumber 39 = .ok (.getfield 15, 3) := by decide +kernel
theorem dX7_readNumber_42 : decode cX7_readNumber 42 = .ok (.if_icmp .ge 50, 3) := by decide +kernel
theorem dX7_readNumber_45 : decode cX7_readNumber 45 = .ok (.aload_n 0, 1) := by decide +kernel
theorem dX7_readNumber_46 : decode cX7_readNumber 46 = .ok (.invokevirtual 40, 3) := by decide +kernel
theorem dX7_readNumber_49 : decode cX7_readNumber 49 = .ok (.invokestatic 88, 3) := by decide +kernel
theorem dX7_readNumber_52 : decode cX7_readNumber 52 = .ok (.ifCond .eq 40, 3) := by decide +kernel
theorem dX7_readNumber_55 : decode cX7_readNumber 55 = .ok (.iload 4, 2) := by decide +kernel
theorem dX7_readNumber_57 : decode cX7_readNumber 57 = .ok (.bipush 10, 2) := by decide +kernel
theorem dX7_readNumber_59 : decode cX7_readNumber 59 = .ok (.imul, 1) := by decide +kernel
theorem dX7_readNumber_60 : decode cX7_readNumber 60 = .ok (.aload_n 0, 1) := by decide +kernel
theorem dX7_readNumber_61 : decode cX7_readNumber 61 = .ok (.invokevirtual 40, 3) := by decide +kernel
theorem dX7_readNumber_64 : decode cX7_readNumber 64 = .ok (.iadd, 1) := by decide +kernel
theorem dX7_readNumber_65 : decode cX7_readNumber 65 = .ok (.bipush 48, 2) := by decide +kernel
theorem dX7_readNumber_67 : decode cX7_readNumber 67 = .ok (.isub, 1) := by decide +kernel
theorem dX7_readNumber_68 : decode cX7_readNumber 68 = .ok (.sipush 1000, 3) := by decide +kernel
theorem dX7_readNumber_71 : decode cX7_readNumber 71 = .ok (.invokestatic 92, 3) := by decide +kernel
theorem dX7_readNumber_74 : decode cX7_readNumber 74 = .ok (.istore 4, 2) := by decide +kernel
theorem dX7_readNumber_76 : decode cX7_readNumber 76 = .ok (.aload_n 0, 1) := by decide +kernel
theorem dX7_readNumber_77 : decode cX7_readNumber 77 = .ok (.dup, 1) := by decide +kernel
theorem dX7_readNumber_78 : decode cX7_readNumber 78 = .ok (.getfield 19, 3) := by decide +kernel
theorem dX7_readNumber_81 : decode cX7_readNumber 81 = .ok (.iconst 1, 1) := by decide +kernel
theorem dX7_readNumber_82 : decode cX7_readNumber 82 = .ok (.iadd, 1) := by decide +kernel
theorem dX7_readNumber_83 : decode cX7_readNumber 83 = .ok (.putfield 19, 3) := by decide +kernel
theorem dX7_readNumber_86 : decode cX7_readNumber 86 = .ok (.iinc 5 1, 3) := by decide +kernel
theorem dX7_readNumber_89 : decode cX7_readNumber 89 = .ok (.goto (-53), 3) := by decide +kernel
theorem dX7_readNumber_92 : decode cX7_readNumber 92 = .ok (.aload_n 0, 1) := by decide +kernel
theorem dX7_readNumber_93 : decode cX7_readNumber 93 = .ok (.getfield 19, 3) := by decide +kernel
theorem dX7_readNumber_96 : decode cX7_readNumber 96 = .ok (.iload_n 3, 1) := by decide +kernel
theorem dX7_readNumber_97 : decode cX7_readNumber 97 = .ok (.isub, 1) := by decide +kernel
theorem dX7_readNumber_98 : decode cX7_readNumber 98 = .ok (.iconst 3, 1) := by decide +kernel
theorem dX7_readNumber_99 : decode cX7_readNumber 99 = .ok (.if_icmp .gt 15, 3) := by decide +kernel
theorem dX7_readNumber_102 : decode cX7_readNumber 102 = .ok (.iload 4, 2) := by decide +kernel
theorem dX7_readNumber_104 : decode cX7_readNumber 104 = .ok (.iload_n 1, 1) := by decide +kernel
theorem dX7_readNumber_105 : decode cX7_readNumber 105 = .ok (.if_icmp .lt 9, 3) := by decide +kernel
theorem dX7_readNumber_108 : decode cX7_readNumber 108 = .ok (.iload 4, 2) := by decide +kernel
theorem dX7_readNumber_110 : decode cX7_readNumber 110 = .ok (.iload_n 2, 1) := by decide +kernel
theorem dX7_readNumber_111 : decode cX7_readNumber 111 = .ok (.if_icmp .le 11, 3) := by decide +kernel
theorem dX7_readNumber_114 : decode cX7_readNumber 114 = .ok (.aload_n 0, 1) := by decide +kernel
theorem dX7_readNumber_115 : decode cX7_readNumber 115 = .ok (.iconst 2, 1) := by decide +kernel
theorem dX7_readNumber_116 : decode cX7_readNumber 116 = .ok (.iload_n 3, 1) := by decide +kernel
theorem dX7_readNumber_117 : decode cX7_readNumber 117 = .ok (.invokevirtual 57, 3) := by decide +kernel
theorem dX7_readNumber_120 : decode cX7_readNumber 120 = .ok (.iconst 0, 1) := by decide +kernel
theorem dX7_readNumber_121 : decode cX7_readNumber 121 = .ok (.ireturn, 1) := by decide +kernel
theorem dX7_readNumber_122 : decode cX7_readNumber 122 = .ok (.iload 4, 2) := by decide +kernel
theorem dX7_readNumber_124 : decode cX7_readNumber 124 = .ok (.ireturn, 1) := by decide +kernel
theorem w_X7_readNumber_114 {l : Launch} {D : zDD} {b : Nat} (x3 : Int32) (σ : zSg) (τ : zLm) {Q : Int32 → zSg → zLm → Prop} (h : SV l D b M_X7_blame 0 G0 [.ref (b + 1), .int 2, .int x3] σ τ (fun σ1 τ1 => Q 0 σ1 τ1)) : AI l D b M_X7_readNumber 2 G0 Q 114 [(0, .ref (b + 1)), (3, .int x3)] [] G0 σ τ := by
  refine r_aload_n 0 dX7_readNumber_114 rfl rfl ?_
  refine r_iconst dX7_readNumber_115 ci_2 ?_
  refine r_iload_n 1 dX7_readNumber_116 rfl rfl ?_
  refine rc_VV (h' := 0) [.int 2, .int x3] okv_X7_blame (by decide) (congrArg Prod.fst k0_1) tw_363 rfl rfl (Nat.le_of_ble_eq_true rfl) dX7_readNumber_117 (by decide) h (fun σ1 τ1 h => ?_)
  refine r_iconst dX7_readNumber_120 ci_0 ?_
  exact r_iret rfl (Nat.le_refl _) (Nat.le_refl _) dX7_readNumber_121 ⟨rfl, rfl, rfl, _, rfl, h⟩

theorem w_X7_readNumber_92 {l : Launch} {D : zDD} {b : Nat} (x1 x2 x3 x4 : Int32) (σ : zSg) (τ : zLm) {Q : Int32 → zSg → zLm → Prop} (h : (3 < ((σ 1 3) - x3) → AI l D b M_X7_readNumber 2 G0 Q 114 [(0, .ref (b + 1)), (3, .int x3)] [] G0 σ τ) ∧ (¬ 3 < ((σ 1 3) - x3) → ((x4 < x1 → AI l D b M_X7_readNumber 2 G0 Q 114 [(0, .ref (b + 1)), (3, .int x3)] [] G0 σ τ) ∧ (¬ x4 < x1 → ((x4 ≤ x2 → Q x4 σ τ) ∧ (¬ x4 ≤ x2 → AI l D b M_X7_readNumber 2 G0 Q 114 [(0, .ref (b + 1)), (3, .int x3)] [] G0 σ τ)))))) : AI l D b M_X7_readNumber 2 G0 Q 92 [(0, .ref (b + 1)), (1, .int x1), (2, .int x2), (3, .int x3), (4, .int x4)] [] G0 σ τ := by
  refine r_aload_n 0 dX7_readNumber_92 rfl rfl ?_
  refine r_getI (j := 3) (by decide) (congrArg Prod.fst k0_1) c12_7 (by decide) rfl tw_36 dX7_readNumber_93 ?_
  refine r_iload_n 3 dX7_readNumber_96 rfl rfl ?_
  refine r_isub dX7_readNumber_97 ?_
  refine r_iconst dX7_readNumber_98 ci_3 ?_
  refine r_icmp_gt (tgt := 114) dX7_readNumber_99 (by decide) (fun c1 => ?_) (fun c1 => ?_)
  · replace h := h.1 c1
    refine r_lv [0, 3] rfl ?_
    exact h
  · replace h := h.2 c1
    refine r_iload 4 dX7_readNumber_102 rfl ?_
    refine r_iload_n 1 dX7_readNumber_104 rfl rfl ?_
    refine r_icmp_lt (tgt := 114) dX7_readNumber_105 (by decide) (fun c2 => ?_) (fun c2 => ?_)
    · replace h := h.1 c2
      refine r_lv [0, 3] rfl ?_
      exact h
    · replace h := h.2 c2
      refine r_iload 4 dX7_readNumber_108 rfl ?_
      refine r_iload_n 2 dX7_readNumber_110 rfl rfl ?_
      refine r_icmp_le (tgt := 122) dX7_readNumber_111 (by decide) (fun c3 => ?_) (fun c3 => ?_)
      · replace h := h.1 c3
        refine r_iload 4 dX7_readNumber_122 rfl ?_
        exact r_iret rfl (Nat.le_refl _) (Nat.le_refl _) dX7_readNumber_124 ⟨rfl, rfl, rfl, _, rfl, h⟩
      · replace h := h.2 c3
        refine r_lv [0, 3] rfl ?_
        exact h

theorem w_X7_readNumber_36 {l : Launch} {D : zDD} {b : Nat} (x1 x2 x3 x4 x5 : Int32) (σ : zSg) (τ : zLm) {Q : Int32 → zSg → zLm → Prop} (h : ((σ 1 1) ≤ x5 → AI l D b M_X7_readNumber 2 G0 Q 92 [(0, .ref (b + 1)), (1, .int x1), (2, .int x2), (3, .int x3), (4, .int x4)] [] G0 σ τ) ∧ (¬ (σ 1 1) ≤ x5 → (SI l D b M_X7_here 0 G0 [.ref (b + 1)] σ τ (fun r2 σ2 τ2 => SI l D b M_X7_isFigure 0 G0 [.int r2] σ2 τ2 (fun r3 σ3 τ3 => (r3 = 0 → AI l D b M_X7_readNumber 2 G0 Q 92 [(0, .ref (b + 1)), (1, .int x1), (2, .int x2), (3, .int x3), (4, .int x4)] [] G0 σ3 τ3) ∧ (¬ r3 = 0 → (SI l D b M_X7_here 0 G0 [.ref (b + 1)] σ3 τ3 (fun r5 σ5 τ5 => ∀ v6 : Int32, v6 = mn (((x4 * 10) + r5) - 48) 1000 → AI l D b M_X7_readNumber 2 G0 Q 36 [(0, .ref (b + 1)), (1, .int x1), (2, .int x2), (3, .int x3), (4, .int v6), (5, .int (x5 + 1))] [] G0 (st2 σ5 1 3 ((σ5 1 3) + 1)) τ5)))))))) : AI l D b M_X7_readNumber 2 G0 Q 36 [(0, .ref (b + 1)), (1, .int x1), (2, .int x2), (3, .int x3), (4, .int x4), (5, .int x5)] [] G0 σ τ := by
  refine r_iload 5 dX7_readNumber_36 rfl ?_
  refine r_aload_n 0 dX7_readNumber_38 rfl rfl ?_
  refine r_getI (j := 1) (by decide) (congrArg Prod.fst k0_1) c12_7 (by decide) rfl tw_32 dX7_readNumber_39 ?_
  refine r_icmp_ge (tgt := 92) dX7_readNumber_42 (by decide) (fun c1 => ?_) (fun c1 => ?_)
  · replace h := h.1 c1
    refine r_lv [0, 1, 2, 3, 4] rfl ?_
    exact h
  · replace h := h.2 c1
    refine r_aload_n 0 dX7_readNumber_45 rfl rfl ?_
    refine rc_VI (h' := 0) [] okv_X7_here (by decide) (congrArg Prod.fst k0_1) tw_347 rfl rfl (Nat.le_of_ble_eq_true rfl) dX7_readNumber_46 (by decide) h (fun r2 σ2 τ2 h => ?_)
    refine rc_SI (h' := 0) [.int r2] oks_X7_isFigure tw_371 rfl rfl (Nat.le_of_ble_eq_true rfl) dX7_readNumber_49 (by decide) h (fun r3 σ3 τ3 h => ?_)
    refine r_if_eq (tgt := 92) dX7_readNumber_52 (by decide) (fun c4 => ?_) (fun c4 => ?_)
    · replace h := h.1 c4
      refine r_lv [0, 1, 2, 3, 4] rfl ?_
      exact h
    · replace h := h.2 c4
      refine r_iload 4 dX7_readNumber_55 rfl ?_
      refine r_bipush dX7_readNumber_57 cb_10 ?_
      refine r_imul dX7_readNumber_59 ?_
      refine r_aload_n 0 dX7_readNumber_60 rfl rfl ?_
      refine rc_VI (h' := 0) [] okv_X7_here (by decide) (congrArg Prod.fst k0_1) tw_347 rfl rfl (Nat.le_of_ble_eq_true rfl) dX7_readNumber_61 (by decide) h (fun r5 σ5 τ5 h => ?_)
      refine r_iadd dX7_readNumber_64 ?_
      refine r_bipush dX7_readNumber_65 cb_48 ?_
      refine r_isub dX7_readNumber_67 ?_
      refine r_sipush dX7_readNumber_68 cs_1000 ?_
      refine r_min tw_374 dX7_readNumber_71 (by decide) (Nat.le_of_ble_eq_true rfl) (Nat.le_refl _) (Nat.le_refl _) ?_
      refine r_nmI (fun v6 ev6 => ?_)
      replace h := h v6 ev6
      refine r_istore dX7_readNumber_74 (by decide) rfl ?_
      refine r_aload_n 1 dX7_readNumber_76 rfl rfl ?_
      refine r_dup dX7_readNumber_77 rfl ?_
      refine r_getI (j := 3) (by decide) (congrArg Prod.fst k0_1) c12_7 (by decide) rfl tw_36 dX7_readNumber_78 ?_
      refine r_iconst dX7_readNumber_81 ci_1 ?_
      refine r_iadd dX7_readNumber_82 ?_
      refine r_putI (j := 3) (by decide) (congrArg Prod.fst k0_1) c12_7 (by decide) rfl (Or.inl rfl) tw_36 dX7_readNumber_83 ?_
      refine r_inc 5 dX7_readNumber_86 rfl ci_1 (by decide) rfl ?_
      refine r_goto (tgt := 36) dX7_readNumber_89 (by decide) ?_
      refine r_lv [2, 3, 4, 5, 1, 0] rfl ?_
      exact h

theorem w_X7_readNumber_0 {l : Launch} {D : zDD} {b : Nat} (p1 p2 : Int32) (σ : zSg) (τ : zLm) {Q : Int32 → zSg → zLm → Prop} (h : SV l D b M_X7_skipBlanks 1 G0 [.ref (b + 1)] σ τ (fun σ1 τ1 => SI l D b M_X7_here 0 G0 [.ref (b + 1)] σ1 τ1 (fun r2 σ2 τ2 => SI l D b M_X7_isFigure 0 G0 [.int r2] σ2 τ2 (fun r3 σ3 τ3 => (¬ r3 = 0 → AI l D b M_X7_readNumber 2 G0 Q 36 [(0, .ref (b + 1)), (1, .int p1), (2, .int p2), (3, .int (σ3 1 3)), (4, .int 0), (5, .int (σ3 1 3))] [] G0 σ3 τ3) ∧ (r3 = 0 → SV l D b M_X7_blame 0 G0 [.ref (b + 1), .int 1, .int (σ3 1 3)] σ3 τ3 (fun σ5 τ5 => Q 0 σ5 τ5)))))) : AI l D b M_X7_readNumber 2 G0 Q 0 [(0, .ref (b + 1)), (1, .int p1), (2, .int p2)] [] G0 σ τ := by
  refine r_aload_n 0 dX7_readNumber_0 rfl rfl ?_
  refine rc_VV (h' := 1) [] okv_X7_skipBlanks (by decide) (congrArg Prod.fst k0_1) tw_343 rfl rfl (Nat.le_of_ble_eq_true rfl) dX7_readNumber_1 (by decide) h (fun σ1 τ1 h => ?_)
  refine r_aload_n 0 dX7_readNumber_4 rfl rfl ?_
  refine rc_VI (h' := 0) [] okv_X7_here (by decide) (congrArg Prod.fst k0_1) tw_347 rfl rfl (Nat.le_of_ble_eq_true rfl) dX7_readNumber_5 (by decide) h (fun r2 σ2 τ2 h => ?_)
  refine rc_SI (h' := 0) [.int r2] oks_X7_isFigure tw_371 rfl rfl (Nat.le_of_ble_eq_true rfl) dX7_readNumber_8 (by decide) h (fun r3 σ3 τ3 h => ?_)
  refine r_if_ne (tgt := 25) dX7_readNumber_11 (by decide) (fun c4 => ?_) (fun c4 => ?_)
  · replace h := h.1 c4
    refine r_aload_n 0 dX7_readNumber_25 rfl rfl ?_
    refine r_getI (j := 3) (by decide) (congrArg Prod.fst k0_1) c12_7 (by decide) rfl tw_36 dX7_readNumber_26 ?_
    refine r_istore_n dX7_readNumber_29 rfl (by decide) rfl ?_
    refine r_iconst dX7_readNumber_30 ci_0 ?_
    refine r_istore dX7_readNumber_31 (by decide) rfl ?_
    refine r_iload_n 1 dX7_readNumber_33 rfl rfl ?_
    refine r_istore dX7_readNumber_34 (by decide) rfl ?_
    refine r_lv [3, 4, 5, 2, 1, 0] rfl ?_
    exact h
  · replace h := h.2 c4
    refine r_aload_n 0 dX7_readNumber_14 rfl rfl ?_
    refine r_iconst dX7_readNumber_15 ci_1 ?_
    refine r_aload_n 0 dX7_readNumber_16 rfl rfl ?_
    refine r_getI (j := 3) (by decide) (congrArg Prod.fst k0_1) c12_7 (by decide) rfl tw_36 dX7_readNumber_17 ?_
    refine rc_VV (h' := 0) [.int 1, .int (σ3 1 3)] okv_X7_blame (by decide) (congrArg Prod.fst k0_1) tw_363 rfl rfl (Nat.le_of_ble_eq_true rfl) dX7_readNumber_20 (by decide) h (fun σ5 τ5 h => ?_)
    refine r_iconst dX7_readNumber_23 ci_0 ?_
    exact r_iret rfl (Nat.le_refl _) (Nat.le_refl _) dX7_readNumber_24 ⟨rfl, rfl, rfl, _, rfl, h⟩
theorem s_X7_readNumber {l : Launch} {D : zDD} {b : Nat} (p1 p2 : Int32) (σ : zSg) (τ : zLm) {Q : Int32 → zSg → zLm → Prop} (h : SV l D b M_X7_skipBlanks 1 G0 [.ref (b + 1)] σ τ (fun σ1 τ1 => SI l D b M_X7_here 0 G0 [.ref (b + 1)] σ1 τ1 (fun r2 σ2 τ2 => SI l D b M_X7_isFigure 0 G0 [.int r2] σ2 τ2 (fun r3 σ3 τ3 => (¬ r3 = 0 → AI l D b M_X7_readNumber 2 G0 Q 36 [(0, .ref (b + 1)), (1, .int p1), (2, .int p2), (3, .int (σ3 1 3)), (4, .int 0), (5, .int (σ3 1 3))] [] G0 σ3 τ3) ∧ (r3 = 0 → SV l D b M_X7_blame 0 G0 [.ref (b + 1), .int 1, .int (σ3 1 3)] σ3 τ3 (fun σ5 τ5 => Q 0 σ5 τ5)))))) : SI l D b M_X7_readNumber 2 G0 [.ref (b + 1), .int p1, .int p2] σ τ Q := zS.of (by decide) (Nat.le_of_ble_eq_true rfl) rfl (w_X7_readNumber_0 p1 p2 σ τ h)

theorem dX7_readSign_0 : decode cX7_readSign 0 = .ok (.aload_n 0, 1) := by decide +kernel
theorem dX7_readSign_1 : decode cX7_readSign 1 = .ok (.invokevirtual 33, 3) := by decide +kernel
theorem dX7_readSign_4 : decode cX7_readSign 4 = .ok (.aload_n 0, 1) := by decide +kernel
theorem dX7_readSign_5 : decode cX7_readSign 5 = .ok (.invokevirtual 40, 3) := by decide +kernel
theorem dX7_readSign_8 : decode cX7_readSign 8 = .ok (.iload_n 1, 1) := by decide +kernel
theorem dX7_readSign_9 : decode cX7_readSign 9 = .ok (.if_icmp .ne 16, 3) := by decide +kernel
theorem dX7_readSign_12 : decode cX7_readSign 12 = .ok (.aload_n 0, 1) := by decide +kernel
theorem dX7_readSign_13 : decode cX7_readSign 13 = .ok (.dup, 1) := by decide +kernel
theorem dX7_readSign_14 : decode cX7_readSign 14 = .ok (.getfield 19, 3) := by decide +kernel
theorem dX7_readSign_17 : decode cX7_readSign 17 = .ok (.iconst 1, 1) := by decide +kernel
theorem dX7_readSign_18 : decode cX7_readSign 18 = .ok (.iadd, 1) := by decide +kernel
theorem dX7_readSign_19 : decode cX7_readSign 19 = .ok (.putfield 19, 3) := by decide +kernel
theorem dX7_readSign_22 : decode cX7_readSign 22 = .ok (.goto 12, 3) := by decide +kernel
theorem dX7_readSign_25 : decode cX7_readSign 25 = .ok (.aload_n 0, 1) := by decide +kernel
theorem dX7_readSign_26 : decode cX7_readSign 26 = .ok (.iconst 1, 1) := by decide +kernel
theorem dX7_readSign_27 : decode cX7_readSign 27 = .ok (.aload_n 0, 1) := by decide +kernel
theorem dX7_readSign_28 : decode cX7_readSign 28 = .ok (.getfield 19, 3) := by decide +kernel
theorem dX7_readSign_31 : decode cX7_readSign 31 = .ok (.invokevirtual 57, 3) := by decide +kernel
theorem dX7_readSign_34 : decode cX7_readSign 34 = .ok (.return_, 1) := by decide +kernel
theorem w_X7_readSign_0 {l : Launch} {D : zDD} {b : Nat} (p1 : Int32) (σ : zSg) (τ : zLm) {Q : zSg → zLm → Prop} (h : SV l D b M_X7_skipBlanks 1 G0 [.ref (b + 1)] σ τ (fun σ1 τ1 => SI l D b M_X7_here 0 G0 [.ref (b + 1)] σ1 τ1 (fun r2 σ2 τ2 => (¬ r2 = p1 → SV l D b M_X7_blame 0 G0 [.ref (b + 1), .int 1, .int (σ2 1 3)] σ2 τ2 (fun σ4 τ4 => Q σ4 τ4)) ∧ (r2 = p1 → Q (st2 σ2 1 3 ((σ2 1 3) + 1)) τ2)))) : AV l D b M_X7_readSign 2 G0 Q 0 [(0, .ref (b + 1)), (1, .int p1)] [] G0 σ τ := by
  refine r_aload_n 0 dX7_readSign_0 rfl rfl ?_
  refine rc_VV (h' := 1) [] okv_X7_skipBlanks (by decide) (congrArg Prod.fst k0_1) tw_343 rfl rfl (Nat.le_of_ble_eq_true rfl) dX7_readSign_1 (by decide) h (fun σ1 τ1 h => ?_)
  refine r_aload_n 0 dX7_readSign_4 rfl rfl ?_
  refine rc_VI (h' := 0) [] okv_X7_here (by decide) (congrArg Prod.fst k0_1) tw_347 rfl rfl (Nat.le_of_ble_eq_true rfl) dX7_readSign_5 (by decide) h (fun r2 σ2 τ2 h => ?_)
  refine r_iload_n 1 dX7_readSign_8 rfl rfl ?_
  refine r_icmp_ne (tgt := 25) dX7_readSign_9 (by decide) (fun c3 => ?_) (fun c3 => ?_)
  · replace h := h.1 c3
    refine r_aload_n 0 dX7_readSign_25 rfl rfl ?_
    refine r_iconst dX7_readSign_26 ci_1 ?_
    refine r_aload_n 0 dX7_readSign_27 rfl rfl ?_
    refine r_getI (j := 3) (by decide) (congrArg Prod.fst k0_1) c12_7 (by decide) rfl tw_36 dX7_readSign_28 ?_
    refine rc_VV (h' := 0) [.int 1, .int (σ2 1 3)] okv_X7_blame (by decide) (congrArg Prod.fst k0_1) tw_363 rfl rfl (Nat.le_of_ble_eq_true rfl) dX7_readSign_31 (by decide) h (fun σ4 τ4 h => ?_)
    exact r_vret rfl (Nat.le_refl _) (Nat.le_refl _) dX7_readSign_34 ⟨rfl, rfl, rfl, rfl, h⟩
  · replace h := h.2 c3
    refine r_aload_n 0 dX7_readSign_12 rfl rfl ?_
    refine r_dup dX7_readSign_13 rfl ?_
    refine r_getI (j := 3) (by decide) (congrArg Prod.fst k0_1) c12_7 (by decide) rfl tw_36 dX7_readSign_14 ?_
    refine r_iconst dX7_readSign_17 ci_1 ?_
    refine r_iadd dX7_readSign_18 ?_
    refine r_putI (j := 3) (by decide) (congrArg Prod.fst k0_1) c12_7 (by decide) rfl (Or.inl rfl) tw_36 dX7_readSign_19 ?_
    refine r_goto (tgt := 34) dX7_readSign_22 (by decide) ?_
    exact r_vret rfl (Nat.le_refl _) (Nat.le_refl _) dX7_readSign_34 ⟨rfl, rfl, rfl, rfl, h⟩
theorem s_X7_readSign {l : Launch} {D : zDD} {b : Nat} (p1 : Int32) (σ : zSg) (τ : zLm) {Q : zSg → zLm → Prop} (h : SV l D b M_X7_skipBlanks 1 G0 [.ref (b + 1)] σ τ (fun σ1 τ1 => SI l D b M_X7_here 0 G0 [.ref (b + 1)] σ1 τ1 (fun r2 σ2 τ2 => (¬ r2 = p1 → SV l D b M_X7_blame 0 G0 [.ref (b + 1), .int 1, .int (σ2 1 3)] σ2 τ2 (fun σ4 τ4 => Q σ4 τ4)) ∧ (r2 = p1 → Q (st2 σ2 1 3 ((σ2 1 3) + 1)) τ2)))) : SV l D b M_X7_readSign 2 G0 [.ref (b + 1), .int p1] σ τ Q := zS.of (by decide) (Nat.le_of_ble_eq_true rfl) rfl (w_X7_readSign_0 p1 σ τ h)

theorem dX7_readFire_0 : decode cX7_readFire 0 = .ok (.aload_n 1, 1) := by decide +kernel
theorem dX7_readFire_1 : decode cX7_readFire 1 = .ok (.invokevirtual 47, 3) := by decide +kernel
theorem dX7_readFire_4 : decode cX7_readFire 4 = .ok (.ifCond .eq 13, 3) := by decide +kernel
theorem dX7_readFire_7 : decode cX7_readFire 7 = .ok (.aload_n 0, 1) := by decide +kernel
theorem dX7_readFire_8 : decode cX7_readFire 8 = .ok (.iconst 3, 1) := by decide +kernel
theorem dX7_readFire_9 : decode cX7_readFire 9 = .ok (.aload_n 0, 1) := by decide +kernel
theorem dX7_readFire_10 : decode cX7_readFire 10 = .ok (.getfield 19, 3) := by decide +kernel
theorem dX7_readFire_13 : decode cX7_readFire 13 = .ok (.invokevirtual 57, 3) := by decide +kernel
theorem dX7_readFire_16 : decode cX7_readFire 16 = .ok (.return_, 1) := by decide +kernel
theorem dX7_readFire_17 : decode cX7_readFire 17 = .ok (.aload_n 0, 1) := by decide +kernel
theorem dX7_readFire_18 : decode cX7_readFire 18 = .ok (.dup, 1) := by decide +kernel
theorem dX7_readFire_19 : decode cX7_readFire 19 = .ok (.getfield 19, 3) := by decide +kernel
theorem dX7_readFire_22 : decode cX7_readFire 22 = .ok (.iconst 1, 1) := by decide +kernel
theorem dX7_readFire_23 : decode cX7_readFire 23 = .ok (.iadd, 1) := by decide +kernel
theorem dX7_readFire_24 : decode cX7_readFire 24 = .ok (.putfield 19, 3) := by decide +kernel
theorem dX7_readFire_27 : decode cX7_readFire 27 = .ok (.aload_n 0, 1) := by decide +kernel
theorem dX7_readFire_28 : decode cX7_readFire 28 = .ok (.iconst 1, 1) := by decide +kernel
theorem dX7_readFire_29 : decode cX7_readFire 29 = .ok (.bipush 20, 2) := by decide +kernel
theorem dX7_readFire_31 : decode cX7_readFire 31 = .ok (.invokevirtual 61, 3) := by decide +kernel
theorem dX7_readFire_34 : decode cX7_readFire 34 = .ok (.istore_n 2, 1) := by decide +kernel
theorem dX7_readFire_35 : decode cX7_readFire 35 = .ok (.aload_n 0, 1) := by decide +kernel
theorem dX7_readFire_36 : decode cX7_readFire 36 = .ok (.iconst 1, 1) := by decide +kernel
theorem dX7_readFire_37 : decode cX7_readFire 37 = .ok (.iconst 3, 1) := by decide +kernel
theorem dX7_readFire_38 : decode cX7_readFire 38 = .ok (.invokevirtual 61, 3) := by decide +kernel
theorem dX7_readFire_41 : decode cX7_readFire 41 = .ok (.istore_n 3, 1) := by decide +kernel
theorem dX7_readFire_42 : decode cX7_readFire 42 = .ok (.aload_n 0, 1) := by decide +kernel
theorem dX7_readFire_43 : decode cX7_readFire 43 = .ok (.bipush 59, 2) := by decide +kernel
theorem dX7_readFire_45 : decode cX7_readFire 45 = .ok (.invokevirtual 65, 3) := by decide +kernel
theorem dX7_readFire_48 : decode cX7_readFire 48 = .ok (.aload_n 0, 1) := by decide +kernel
theorem dX7_readFire_49 : decode cX7_readFire 49 = .ok (.getfield 22, 3) := by decide +kernel
theorem dX7_readFire_52 : decode cX7_readFire 52 = .ok (.ifCond .ne 13, 3) := by decide +kernel
theorem dX7_readFire_55 : decode cX7_readFire 55 = .ok (.aload_n 1, 1) := by decide +kernel
theorem dX7_readFire_56 : decode cX7_readFire 56 = .ok (.iload_n 2, 1) := by decide +kernel
theorem dX7_readFire_57 : decode cX7_readFire 57 = .ok (.putfield 69, 3) := by decide +kernel
theorem dX7_readFire_60 : decode cX7_readFire 60 = .ok (.aload_n 1, 1) := by decide +kernel
theorem dX7_readFire_61 : decode cX7_readFire 61 = .ok (.iload_n 3, 1) := by decide +kernel
theorem dX7_readFire_62 : decode cX7_readFire 62 = .ok (.putfield 72, 3) := by decide +kernel
theorem dX7_readFire_65 : decode cX7_readFire 65 = .ok (.return_, 1) := by decide +kernel
theorem w_X7_readFire_0 {l : Launch} {D : zDD} {b : Nat} (σ : zSg) (τ : zLm) {Q : zSg → zLm → Prop} (h : SI l D b M_X6_isThere 0 G0 [.ref (b + 3)] σ τ (fun r1 σ1 τ1 => (r1 = 0 → (SI l D b M_X7_readNumber 2 G0 [.ref (b + 1), .int 1, .int 20] (st2 σ1 1 3 ((σ1 1 3) + 1)) τ1 (fun r3 σ3 τ3 => SI l D b M_X7_readNumber 2 G0 [.ref (b + 1), .int 1, .int 3] σ3 τ3 (fun r4 σ4 τ4 => SV l D b M_X7_readSign 2 G0 [.ref (b + 1), .int 59] σ4 τ4 (fun σ5 τ5 => (¬ (σ5 1 4) = 0 → Q σ5 τ5) ∧ ((σ5 1 4) = 0 → Q (st2 (st2 σ5 3 0 r3) 3 1 r4) τ5)))))) ∧ (¬ r1 = 0 → SV l D b M_X7_blame 0 G0 [.ref (b + 1), .int 3, .int (σ1 1 3)] σ1 τ1 (fun σ7 τ7 => Q σ7 τ7)))) : AV l D b M_X7_readFire 3 G0 Q 0 [(0, .ref (b + 1)), (1, .ref (b + 3))] [] G0 σ τ := by
  refine r_aload_n 1 dX7_readFire_0 rfl rfl ?_
  refine rc_VI (h' := 0) [] okv_X6_isThere (by decide) (congrArg Prod.fst k0_3) tw_359 rfl rfl (Nat.le_of_ble_eq_true rfl) dX7_readFire_1 (by decide) h (fun r1 σ1 τ1 h => ?_)
  refine r_if_eq (tgt := 17) dX7_readFire_4 (by decide) (fun c2 => ?_) (fun c2 => ?_)
  · replace h := h.1 c2
    refine r_aload_n 0 dX7_readFire_17 rfl rfl ?_
    refine r_dup dX7_readFire_18 rfl ?_
    refine r_getI (j := 3) (by decide) (congrArg Prod.fst k0_1) c12_7 (by decide) rfl tw_36 dX7_readFire_19 ?_
    refine r_iconst dX7_readFire_22 ci_1 ?_
    refine r_iadd dX7_readFire_23 ?_
    refine r_putI (j := 3) (by decide) (congrArg Prod.fst k0_1) c12_7 (by decide) rfl (Or.inl rfl) tw_36 dX7_readFire_24 ?_
    refine r_aload_n 0 dX7_readFire_27 rfl rfl ?_
    refine r_iconst dX7_readFire_28 ci_1 ?_
    refine r_bipush dX7_readFire_29 cb_20 ?_
    refine rc_VI (h' := 2) [.int 1, .int 20] okv_X7_readNumber (by decide) (congrArg Prod.fst k0_1) tw_367 rfl rfl (Nat.le_of_ble_eq_true rfl) dX7_readFire_31 (by decide) h (fun r3 σ3 τ3 h => ?_)
    refine r_istore_n dX7_readFire_34 rfl (by decide) rfl ?_
    refine r_aload_n 1 dX7_readFire_35 rfl rfl ?_
    refine r_iconst dX7_readFire_36 ci_1 ?_
    refine r_iconst dX7_readFire_37 ci_3 ?_
    refine rc_VI (h' := 2) [.int 1, .int 3] okv_X7_readNumber (by decide) (congrArg Prod.fst k0_1) tw_367 rfl rfl (Nat.le_of_ble_eq_true rfl) dX7_readFire_38 (by decide) h (fun r4 σ4 τ4 h => ?_)
    refine r_istore_n dX7_readFire_41 rfl (by decide) rfl ?_
    refine r_aload_n 2 dX7_readFire_42 rfl rfl ?_
    refine r_bipush dX7_readFire_43 cb_59 ?_
    refine rc_VV (h' := 2) [.int 59] okv_X7_readSign (by decide) (congrArg Prod.fst k0_1) tw_377 rfl rfl (Nat.le_of_ble_eq_true rfl) dX7_readFire_45 (by decide) h (fun σ5 τ5 h => ?_)
    refine r_aload_n 2 dX7_readFire_48 rfl rfl ?_
    refine r_getI (j := 4) (by decide) (congrArg Prod.fst k0_1) c12_7 (by decide) rfl tw_37 dX7_readFire_49 ?_
    refine r_if_ne (tgt := 65) dX7_readFire_52 (by decide) (fun c6 => ?_) (fun c6 => ?_)
    · replace h := h.1 c6
      exact r_vret rfl (Nat.le_refl _) (Nat.le_refl _) dX7_readFire_65 ⟨rfl, rfl, rfl, rfl, h⟩
    · replace h := h.2 c6
      refine r_aload_n 3 dX7_readFire_55 rfl rfl ?_
      refine r_iload_n 1 dX7_readFire_56 rfl rfl ?_
      refine r_putI (j := 0) (by decide) (congrArg Prod.fst k0_3) c12_6 (by decide) rfl (Or.inl rfl) tw_57 dX7_readFire_57 ?_
      refine r_aload_n 3 dX7_readFire_60 rfl rfl ?_
      refine r_iload_n 0 dX7_readFire_61 rfl rfl ?_
      refine r_putI (j := 1) (by decide) (congrArg Prod.fst k0_3) c12_6 (by decide) rfl (Or.inl rfl) tw_60 dX7_readFire_62 ?_
      exact r_vret rfl (Nat.le_refl _) (Nat.le_refl _) dX7_readFire_65 ⟨rfl, rfl, rfl, rfl, h⟩
  · replace h := h.2 c2
    refine r_aload_n 0 dX7_readFire_7 rfl rfl ?_
    refine r_iconst dX7_readFire_8 ci_3 ?_
    refine r_aload_n 0 dX7_readFire_9 rfl rfl ?_
    refine r_getI (j := 3) (by decide) (congrArg Prod.fst k0_1) c12_7 (by decide) rfl tw_36 dX7_readFire_10 ?_
    refine rc_VV (h' := 0) [.int 3, .int (σ1 1 3)] okv_X7_blame (by decide) (congrArg Prod.fst k0_1) tw_363 rfl rfl (Nat.le_of_ble_eq_true rfl) dX7_readFire_13 (by decide) h (fun σ7 τ7 h => ?_)
    exact r_vret rfl (Nat.le_refl _) (Nat.le_refl _) dX7_readFire_16 ⟨rfl, rfl, rfl, rfl, h⟩
theorem s_X7_readFire {l : Launch} {D : zDD} {b : Nat} (σ : zSg) (τ : zLm) {Q : zSg → zLm → Prop} (h : SI l D b M_X6_isThere 0 G0 [.ref (b + 3)] σ τ (fun r1 σ1 τ1 => (r1 = 0 → (SI l D b M_X7_readNumber 2 G0 [.ref (b + 1), .int 1, .int 20] (st2 σ1 1 3 ((σ1 1 3) + 1)) τ1 (fun r3 σ3 τ3 => SI l D b M_X7_readNumber 2 G0 [.ref (b + 1), .int 1, .int 3] σ3 τ3 (fun r4 σ4 τ4 => SV l D b M_X7_readSign 2 G0 [.ref (b + 1), .int 59] σ4 τ4 (fun σ5 τ5 => (¬ (σ5 1 4) = 0 → Q σ5 τ5) ∧ ((σ5 1 4) = 0 → Q (st2 (st2 σ5 3 0 r3) 3 1 r4) τ5)))))) ∧ (¬ r1 = 0 → SV l D b M_X7_blame 0 G0 [.ref (b + 1), .int 3, .int (σ1 1 3)] σ1 τ1 (fun σ7 τ7 => Q σ7 τ7)))) : SV l D b M_X7_readFire 3 G0 [.ref (b + 1), .ref (b + 3)] σ τ Q := zS.of (by decide) (Nat.le_of_ble_eq_true rfl) rfl (w_X7_readFire_0 σ τ h)

theorem dX7_readTrouble_0 : decode cX7_readTrouble 0 = .ok (.aload_n 1, 1) := by decide +kernel
theorem dX7_readTrouble_1 : decode cX7_readTrouble 1 = .ok (.getfield 75, 3) := by decide +kernel
theorem dX7_readTrouble_4 : decode cX7_readTrouble 4 = .ok (.bipush 6, 2) := by decide +kernel
theorem dX7_readTrouble_6 : decode cX7_readTrouble 6 = .ok (.if_icmp .lt 13, 3) := by decide +kernel
theorem dX7_readTrouble_9 : decode cX7_readTrouble 9 = .ok (.aload_n 0, 1) := by decide +kernel
theorem dX7_readTrouble_10 : decode cX7_readTrouble 10 = .ok (.iconst 3, 1) := by decide +kernel
theorem dX7_readTrouble_11 : decode cX7_readTrouble 11 = .ok (.aload_n 0, 1) := by decide +kernel
theorem dX7_readTrouble_12 : decode cX7_readTrouble 12 = .ok (.getfield 19, 3) := by decide +kernel
theorem dX7_readTrouble_15 : decode cX7_readTrouble 15 = .ok (.invokevirtual 57, 3) := by decide +kernel
theorem dX7_readTrouble_18 : decode cX7_readTrouble 18 = .ok (.return_, 1) := by decide +kernel
theorem dX7_readTrouble_19 : decode cX7_readTrouble 19 = .ok (.aload_n 0, 1) := by decide +kernel
theorem dX7_readTrouble_20 : decode cX7_readTrouble 20 = .ok (.dup, 1) := by decide +kernel
theorem dX7_readTrouble_21 : decode cX7_readTrouble 21 = .ok (.getfield 19, 3) := by decide +kernel
theorem dX7_readTrouble_24 : decode cX7_readTrouble 24 = .ok (.iconst 1, 1) := by decide +kernel
theorem dX7_readTrouble_25 : decode cX7_readTrouble 25 = .ok (.iadd, 1) := by decide +kernel
theorem dX7_readTrouble_26 : decode cX7_readTrouble 26 = .ok (.putfield 19, 3) := by decide +kernel
theorem dX7_readTrouble_29 : decode cX7_readTrouble 29 = .ok (.aload_n 0, 1) := by decide +kernel
theorem dX7_readTrouble_30 : decode cX7_readTrouble 30 = .ok (.iconst 0, 1) := by decide +kernel
theorem dX7_readTrouble_31 : decode cX7_readTrouble 31 = .ok (.iconst 3, 1) := by decide +kernel
theorem dX7_readTrouble_32 : decode cX7_readTrouble 32 = .ok (.invokevirtual 61, 3) := by decide +kernel
theorem dX7_readTrouble_35 : decode cX7_readTrouble 35 = .ok (.istore_n 2, 1) := by decide +kernel
theorem dX7_readTrouble_36 : decode cX7_readTrouble 36 = .ok (.aload_n 0, 1) := by decide +kernel
theorem dX7_readTrouble_37 : decode cX7_readTrouble 37 = .ok (.iconst 1, 1) := by decide +kernel
theorem dX7_readTrouble_38 : decode cX7_readTrouble 38 = .ok (.sipush 200, 3) := by decide +kernel
theorem dX7_readTrouble_41 : decode cX7_readTrouble 41 = .ok (.invokevirtual 61, 3) := by decide +kernel
theorem dX7_readTrouble_44 : decode cX7_readTrouble 44 = .ok (.istore_n 3, 1) := by decide +kernel
theorem dX7_readTrouble_45 : decode cX7_readTrouble 45 = .ok (.iconst 0, 1) := by decide +kernel
theorem dX7_readTrouble_46 : decode cX7_readTrouble 46 = .ok (.istore 4, 2) := by decide +kernel
theorem dX7_readTrouble_48 : decode cX7_readTrouble 48 = .ok (.iconst 0, 1) := by decide +kernel
theorem dX7_readTrouble_49 : decode cX7_readTrouble 49 = .ok (.istore 5, 2) := by decide +kernel
theorem dX7_readTrouble_51 : decode cX7_readTrouble 51 = .ok (.iload 5, 2) := by decide +kernel
theorem dX7_readTrouble_53 : decode cX7_readTrouble 53 = .ok (.iconst 5, 1) := by decide +kernel
theorem dX7_readTrouble_54 : decode cX7_readTrouble 54 = .ok (.if_icmp .ge 32, 3) := by decide +kernel
theorem dX7_readTrouble_57 : decode cX7_readTrouble 57 = .ok (.aload_n 0, 1) := by decide +kernel
theorem dX7_readTrouble_58 : decode cX7_readTrouble 58 = .ok (.bipush 44, 2) := by decide +kernel
theorem dX7_readTrouble_60 : decode cX7_readTrouble 60 = .ok (.invokevirtual 65, 3) := by decide +kernel
theorem dX7_readTrouble_63 : decode cX7_readTrouble 63 = .ok (.iload 4, 2) := by decide +kernel
theorem dX7_readTrouble_65 : decode cX7_readTrouble 65 = .ok (.aload_n 0, 1) := by decide +kernel
theorem dX7_readTrouble_66 : decode cX7_readTrouble 66 = .ok (.iconst 0, 1) := by decide +kernel
theorem dX7_readTrouble_67 : decode cX7_readTrouble 67 = .ok (.bipush 31, 2) := by decide +kernel
theorem dX7_readTrouble_69 : decode cX7_readTrouble 69 = .ok (.invokevirtual 61, 3) := by decide +kernel
theorem dX7_readTrouble_72 : decode cX7_readTrouble 72 = .ok (.iconst 5, 1) := by decide +kernel
theorem dX7_readTrouble_73 : decode cX7_readTrouble 73 = .ok (.iload 5, 2) := by decide +kernel
theorem dX7_readTrouble_75 : decode cX7_readTrouble 75 = .ok (.imul, 1) := by decide +kernel
theorem dX7_readTrouble_76 : decode cX7_readTrouble 76 = .ok (.ishl, 1) := by decide +kernel
theorem dX7_readTrouble_77 : decode cX7_readTrouble 77 = .ok (.ior, 1) := by decide +kernel
theorem dX7_readTrouble_78 : decode cX7_readTrouble 78 = .ok (.istore 4, 2) := by decide +kernel
theorem dX7_readTrouble_80 : decode cX7_readTrouble 80 = .ok (.iinc 5 1, 3) := by decide +kernel
theorem dX7_readTrouble_83 : decode cX7_readTrouble 83 = .ok (.goto (-32), 3) := by decide +kernel
theorem dX7_readTrouble_86 : decode cX7_readTrouble 86 = .ok (.aload_n 0, 1) := by decide +kernel
theorem dX7_readTrouble_87 : decode cX7_readTrouble 87 = .ok (.bipush 59, 2) := by decide +kernel
theorem dX7_readTrouble_89 : decode cX7_readTrouble 89 = .ok (.invokevirtual 65, 3) := by decide +kernel
theorem dX7_readTrouble_92 : decode cX7_readTrouble 92 = .ok (.aload_n 0, 1) := by decide +kernel
theorem dX7_readTrouble_93 : decode cX7_readTrouble 93 = .ok (.getfield 22, 3) := by decide +kernel
theorem dX7_readTrouble_96 : decode cX7_readTrouble 96 = .ok (.ifCond .ne 11, 3) := by decide +kernel
theorem dX7_readTrouble_99 : decode cX7_readTrouble 99 = .ok (.aload_n 1, 1) := by decide +kernel
theorem dX7_readTrouble_100 : decode cX7_readTrouble 100 = .ok (.iload_n 2, 1) := by decide +kernel
theorem dX7_readTrouble_101 : decode cX7_readTrouble 101 = .ok (.iload_n 3, 1) := by decide +kernel
theorem dX7_readTrouble_102 : decode cX7_readTrouble 102 = .ok (.iload 4, 2) := by decide +kernel
theorem dX7_readTrouble_104 : decode cX7_readTrouble 104 = .ok (.invokevirtual 78, 3) := by decide +kernel
theorem dX7_readTrouble_107 : decode cX7_readTrouble 107 = .ok (.return_, 1) := by decide +kernel
theorem w_X7_readTrouble_51 {l : Launch} {D : zDD} {b : Nat} (x2 x3 x4 x5 : Int32) (σ : zSg) (τ : zLm) {Q : zSg → zLm → Prop} (h : (5 ≤ x5 → (SV l D b M_X7_readSign 2 G0 [.ref (b + 1), .int 59] σ τ (fun σ2 τ2 => (¬ (σ2 1 4) = 0 → Q σ2 τ2) ∧ ((σ2 1 4) = 0 → SV l D b M_X6_addTrouble 0 G0 [.ref (b + 3), .int x2, .int x3, .int x4] σ2 τ2 (fun σ4 τ4 => Q σ4 τ4))))) ∧ (¬ 5 ≤ x5 → (SV l D b M_X7_readSign 2 G0 [.ref (b + 1), .int 44] σ τ (fun σ5 τ5 => SI l D b M_X7_readNumber 2 G0 [.ref (b + 1), .int 0, .int 31] σ5 τ5 (fun r6 σ6 τ6 => ∀ v7 : Int32, v7 = x4 ||| (r6 <<< ((5 * x5) &&& 31)) → AV l D b M_X7_readTrouble 3 G0 Q 51 [(0, .ref (b + 1)), (1, .ref (b + 3)), (2, .int x2), (3, .int x3), (4, .int v7), (5, .int (x5 + 1))] [] G0 σ6 τ6))))) : AV l D b M_X7_readTrouble 3 G0 Q 51 [(0, .ref (b + 1)), (1, .ref (b + 3)), (2, .int x2), (3, .int x3), (4, .int x4), (5, .int x5)] [] G0 σ τ := by
  refine r_iload 5 dX7_readTrouble_51 rfl ?_
  refine r_iconst dX7_readTrouble_53 ci_5 ?_
  refine r_icmp_ge (tgt := 86) dX7_readTrouble_54 (by decide) (fun c1 => ?_) (fun c1 => ?_)
  · replace h := h.1 c1
    refine r_aload_n 0 dX7_readTrouble_86 rfl rfl ?_
    refine r_bipush dX7_readTrouble_87 cb_59 ?_
    refine rc_VV (h' := 2) [.int 59] okv_X7_readSign (by decide) (congrArg Prod.fst k0_1) tw_377 rfl rfl (Nat.le_of_ble_eq_true rfl) dX7_readTrouble_89 (by decide) h (fun σ2 τ2 h => ?_)
    refine r_aload_n 0 dX7_readTrouble_92 rfl rfl ?_
    refine r_getI (j := 4) (by decide) (congrArg Prod.fst k0_1) c12_7 (by decide) rfl tw_37 dX7_readTrouble_93 ?_
    refine r_if_ne (tgt := 107) dX7_readTrouble_96 (by decide) (fun c3 => ?_) (fun c3 => ?_)
    · replace h := h.1 c3
      exact r_vret rfl (Nat.le_refl _) (Nat.le_refl _) dX7_readTrouble_107 ⟨rfl, rfl, rfl, rfl, h⟩
    · replace h := h.2 c3
      refine r_aload_n 1 dX7_readTrouble_99 rfl rfl ?_
      refine r_iload_n 2 dX7_readTrouble_100 rfl rfl ?_
      refine r_iload_n 3 dX7_readTrouble_101 rfl rfl ?_
      refine r_iload 4 dX7_readTrouble_102 rfl ?_
      refine rc_VV (h' := 0) [.int x2, .int x3, .int x4] okv_X6_addTrouble (by decide) (congrArg Prod.fst k0_3) tw_385 rfl rfl (Nat.le_of_ble_eq_true rfl) dX7_readTrouble_104 (by decide) h (fun σ4 τ4 h => ?_)
      exact r_vret rfl (Nat.le_refl _) (Nat.le_refl _) dX7_readTrouble_107 ⟨rfl, rfl, rfl, rfl, h⟩
  · replace h := h.2 c1
    refine r_aload_n 0 dX7_readTrouble_57 rfl rfl ?_
    refine r_bipush dX7_readTrouble_58 cb_44 ?_
    refine rc_VV (h' := 2) [.int 44] okv_X7_readSign (by decide) (congrArg Prod.fst k0_1) tw_377 rfl rfl (Nat.le_of_ble_eq_true rfl) dX7_readTrouble_60 (by decide) h (fun σ5 τ5 h => ?_)
    refine r_iload 4 dX7_readTrouble_63 rfl ?_
    refine r_aload_n 0 dX7_readTrouble_65 rfl rfl ?_
    refine r_iconst dX7_readTrouble_66 ci_0 ?_
    refine r_bipush dX7_readTrouble_67 cb_31 ?_
    refine rc_VI (h' := 2) [.int 0, .int 31] okv_X7_readNumber (by decide) (congrArg Prod.fst k0_1) tw_367 rfl rfl (Nat.le_of_ble_eq_true rfl) dX7_readTrouble_69 (by decide) h (fun r6 σ6 τ6 h => ?_)
    refine r_iconst dX7_readTrouble_72 ci_5 ?_
    refine r_iload 5 dX7_readTrouble_73 rfl ?_
    refine r_imul dX7_readTrouble_75 ?_
    refine r_ishl dX7_readTrouble_76 ?_
    refine r_ior dX7_readTrouble_77 ?_
    refine r_nmI (fun v7 ev7 => ?_)
    replace h := h v7 ev7
    refine r_istore dX7_readTrouble_78 (by decide) rfl ?_
    refine r_inc 5 dX7_readTrouble_80 rfl ci_1 (by decide) rfl ?_
    refine r_goto (tgt := 51) dX7_readTrouble_83 (by decide) ?_
    refine r_lv [2, 3, 4, 5, 1, 0] rfl ?_
    exact h

theorem w_X7_readTrouble_0 {l : Launch} {D : zDD} {b : Nat} (σ : zSg) (τ : zLm) {Q : zSg → zLm → Prop} (h : ((σ 3 2) < 6 → SI l D b M_X7_readNumber 2 G0 [.ref (b + 1), .int 0, .int 3] (st2 σ 1 3 ((σ 1 3) + 1)) τ (fun r2 σ2 τ2 => SI l D b M_X7_readNumber 2 G0 [.ref (b + 1), .int 1, .int 200] σ2 τ2 (fun r3 σ3 τ3 => AV l D b M_X7_readTrouble 3 G0 Q 51 [(0, .ref (b + 1)), (1, .ref (b + 3)), (2, .int r2), (3, .int r3), (4, .int 0), (5, .int 0)] [] G0 σ3 τ3))) ∧ (¬ (σ 3 2) < 6 → SV l D b M_X7_blame 0 G0 [.ref (b + 1), .int 3, .int (σ 1 3)] σ τ (fun σ4 τ4 => Q σ4 τ4))) : AV l D b M_X7_readTrouble 3 G0 Q 0 [(0, .ref (b + 1)), (1, .ref (b + 3))] [] G0 σ τ := by
  refine r_aload_n 1 dX7_readTrouble_0 rfl rfl ?_
  refine r_getI (j := 2) (by decide) (congrArg Prod.fst k0_3) c12_6 (by decide) rfl tw_67 dX7_readTrouble_1 ?_
  refine r_bipush dX7_readTrouble_4 cb_6 ?_
  refine r_icmp_lt (tgt := 19) dX7_readTrouble_6 (by decide) (fun c1 => ?_) (fun c1 => ?_)
  · replace h := h.1 c1
    refine r_aload_n 0 dX7_readTrouble_19 rfl rfl ?_
    refine r_dup dX7_readTrouble_20 rfl ?_
    refine r_getI (j := 3) (by decide) (congrArg Prod.fst k0_1) c12_7 (by decide) rfl tw_36 dX7_readTrouble_21 ?_
    refine r_iconst dX7_readTrouble_24 ci_1 ?_
    refine r_iadd dX7_readTrouble_25 ?_
    refine r_putI (j := 3) (by decide) (congrArg Prod.fst k0_1) c12_7 (by decide) rfl (Or.inl rfl) tw_36 dX7_readTrouble_26 ?_
    refine r_aload_n 0 dX7_readTrouble_29 rfl rfl ?_
    refine r_iconst dX7_readTrouble_30 ci_0 ?_
    refine r_iconst dX7_readTrouble_31 ci_3 ?_
    refine rc_VI (h' := 2) [.int 0, .int 3] okv_X7_readNumber (by decide) (congrArg Prod.fst k0_1) tw_367 rfl rfl (Nat.le_of_ble_eq_true rfl) dX7_readTrouble_32 (by decide) h (fun r2 σ2 τ2 h => ?_)
    refine r_istore_n dX7_readTrouble_35 rfl (by decide) rfl ?_
    refine r_aload_n 1 dX7_readTrouble_36 rfl rfl ?_
    refine r_iconst dX7_readTrouble_37 ci_1 ?_
    refine r_sipush dX7_readTrouble_38 cs_200 ?_
    refine rc_VI (h' := 2) [.int 1, .int 200] okv_X7_readNumber (by decide) (congrArg Prod.fst k0_1) tw_367 rfl rfl (Nat.le_of_ble_eq_true rfl) dX7_readTrouble_41 (by decide) h (fun r3 σ3 τ3 h => ?_)
    refine r_istore_n dX7_readTrouble_44 rfl (by decide) rfl ?_
    refine r_iconst dX7_readTrouble_45 ci_0 ?_
    refine r_istore dX7_readTrouble_46 (by decide) rfl ?_
    refine r_iconst dX7_readTrouble_48 ci_0 ?_
    refine r_istore dX7_readTrouble_49 (by decide) rfl ?_
    refine r_lv [4, 5, 3, 2, 1, 0] rfl ?_
    exact h
  · replace h := h.2 c1
    refine r_aload_n 0 dX7_readTrouble_9 rfl rfl ?_
    refine r_iconst dX7_readTrouble_10 ci_3 ?_
    refine r_aload_n 0 dX7_readTrouble_11 rfl rfl ?_
    refine r_getI (j := 3) (by decide) (congrArg Prod.fst k0_1) c12_7 (by decide) rfl tw_36 dX7_readTrouble_12 ?_
    refine rc_VV (h' := 0) [.int 3, .int (σ 1 3)] okv_X7_blame (by decide) (congrArg Prod.fst k0_1) tw_363 rfl rfl (Nat.le_of_ble_eq_true rfl) dX7_readTrouble_15 (by decide) h (fun σ4 τ4 h => ?_)
    exact r_vret rfl (Nat.le_refl _) (Nat.le_refl _) dX7_readTrouble_18 ⟨rfl, rfl, rfl, rfl, h⟩
theorem s_X7_readTrouble {l : Launch} {D : zDD} {b : Nat} (σ : zSg) (τ : zLm) {Q : zSg → zLm → Prop} (h : ((σ 3 2) < 6 → SI l D b M_X7_readNumber 2 G0 [.ref (b + 1), .int 0, .int 3] (st2 σ 1 3 ((σ 1 3) + 1)) τ (fun r2 σ2 τ2 => SI l D b M_X7_readNumber 2 G0 [.ref (b + 1), .int 1, .int 200] σ2 τ2 (fun r3 σ3 τ3 => AV l D b M_X7_readTrouble 3 G0 Q 51 [(0, .ref (b + 1)), (1, .ref (b + 3)), (2, .int r2), (3, .int r3), (4, .int 0), (5, .int 0)] [] G0 σ3 τ3))) ∧ (¬ (σ 3 2) < 6 → SV l D b M_X7_blame 0 G0 [.ref (b + 1), .int 3, .int (σ 1 3)] σ τ (fun σ4 τ4 => Q σ4 τ4))) : SV l D b M_X7_readTrouble 3 G0 [.ref (b + 1), .ref (b + 3)] σ τ Q := zS.of (by decide) (Nat.le_of_ble_eq_true rfl) rfl (w_X7_readTrouble_0 σ τ h)

theorem dX7_readEater_0 : decode cX7_readEater 0 = .ok (.aload_n 1, 1) := by decide +kernel
theorem dX7_readEater_1 : decode cX7_readEater 1 = .ok (.getfield 82, 3) := by decide +kernel
theorem dX7_readEater_4 : decode cX7_readEater 4 = .ok (.bipush 6, 2) := by decide +kernel
theorem dX7_readEater_6 : decode cX7_readEater 6 = .ok (.if_icmp .lt 13, 3) := by decide +kernel
theorem dX7_readEater_9 : decode cX7_readEater 9 = .ok (.aload_n 0, 1) := by decide +kernel
theorem dX7_readEater_10 : decode cX7_readEater 10 = .ok (.iconst 3, 1) := by decide +kernel
theorem dX7_readEater_11 : decode cX7_readEater 11 = .ok (.aload_n 0, 1) := by decide +kernel
theorem dX7_readEater_12 : decode cX7_readEater 12 = .ok (.getfield 19, 3) := by decide +kernel
theorem dX7_readEater_15 : decode cX7_readEater 15 = .ok (.invokevirtual 57, 3) := by decide +kernel
theorem dX7_readEater_18 : decode cX7_readEater 18 = .ok (.return_, 1) := by decide +kernel
theorem dX7_readEater_19 : decode cX7_readEater 19 = .ok (.aload_n 0, 1) := by decide +kernel
theorem dX7_readEater_20 : decode cX7_readEater 20 = .ok (.dup, 1) := by decide +kernel
theorem dX7_readEater_21 : decode cX7_readEater 21 = .ok (.getfield 19, 3) := by decide +kernel
theorem dX7_readEater_24 : decode cX7_readEater 24 = .ok (.iconst 1, 1) := by decide +kernel
theorem dX7_readEater_25 : decode cX7_readEater 25 = .ok (.iadd, 1) := by decide +kernel
theorem dX7_readEater_26 : decode cX7_readEater 26 = .ok (.putfield 19, 3) := by decide +kernel
theorem dX7_readEater_29 : decode cX7_readEater 29 = .ok (.aload_n 0, 1) := by decide +kernel
theorem dX7_readEater_30 : decode cX7_readEater 30 = .ok (.iconst 1, 1) := by decide +kernel
theorem dX7_readEater_31 : decode cX7_readEater 31 = .ok (.bipush 30, 2) := by decide +kernel
theorem dX7_readEater_33 : decode cX7_readEater 33 = .ok (.invokevirtual 61, 3) := by decide +kernel
theorem dX7_readEater_36 : decode cX7_readEater 36 = .ok (.istore_n 2, 1) := by decide +kernel
theorem dX7_readEater_37 : decode cX7_readEater 37 = .ok (.aload_n 0, 1) := by decide +kernel
theorem dX7_readEater_38 : decode cX7_readEater 38 = .ok (.bipush 59, 2) := by decide +kernel
theorem dX7_readEater_40 : decode cX7_readEater 40 = .ok (.invokevirtual 65, 3) := by decide +kernel
theorem dX7_readEater_43 : decode cX7_readEater 43 = .ok (.aload_n 0, 1) := by decide +kernel
theorem dX7_readEater_44 : decode cX7_readEater 44 = .ok (.getfield 22, 3) := by decide +kernel
theorem dX7_readEater_47 : decode cX7_readEater 47 = .ok (.ifCond .ne 8, 3) := by decide +kernel
theorem dX7_readEater_50 : decode cX7_readEater 50 = .ok (.aload_n 1, 1) := by decide +kernel
theorem dX7_readEater_51 : decode cX7_readEater 51 = .ok (.iload_n 2, 1) := by decide +kernel
theorem dX7_readEater_52 : decode cX7_readEater 52 = .ok (.invokevirtual 85, 3) := by decide +kernel
theorem dX7_readEater_55 : decode cX7_readEater 55 = .ok (.return_, 1) := by decide +kernel
theorem w_X7_readEater_0 {l : Launch} {D : zDD} {b : Nat} (σ : zSg) (τ : zLm) {Q : zSg → zLm → Prop} (h : ((σ 3 3) < 6 → (SI l D b M_X7_readNumber 2 G0 [.ref (b + 1), .int 1, .int 30] (st2 σ 1 3 ((σ 1 3) + 1)) τ (fun r2 σ2 τ2 => SV l D b M_X7_readSign 2 G0 [.ref (b + 1), .int 59] σ2 τ2 (fun σ3 τ3 => (¬ (σ3 1 4) = 0 → Q σ3 τ3) ∧ ((σ3 1 4) = 0 → SV l D b M_X6_addEater 0 G0 [.ref (b + 3), .int r2] σ3 τ3 (fun σ5 τ5 => Q σ5 τ5)))))) ∧ (¬ (σ 3 3) < 6 → SV l D b M_X7_blame 0 G0 [.ref (b + 1), .int 3, .int (σ 1 3)] σ τ (fun σ6 τ6 => Q σ6 τ6))) : AV l D b M_X7_readEater 3 G0 Q 0 [(0, .ref (b + 1)), (1, .ref (b + 3))] [] G0 σ τ := by
  refine r_aload_n 1 dX7_readEater_0 rfl rfl ?_
  refine r_getI (j := 3) (by decide) (congrArg Prod.fst k0_3) c12_6 (by decide) rfl tw_71 dX7_readEater_1 ?_
  refine r_bipush dX7_readEater_4 cb_6 ?_
  refine r_icmp_lt (tgt := 19) dX7_readEater_6 (by decide) (fun c1 => ?_) (fun c1 => ?_)
  · replace h := h.1 c1
    refine r_aload_n 0 dX7_readEater_19 rfl rfl ?_
    refine r_dup dX7_readEater_20 rfl ?_
    refine r_getI (j := 3) (by decide) (congrArg Prod.fst k0_1) c12_7 (by decide) rfl tw_36 dX7_readEater_21 ?_
    refine r_iconst dX7_readEater_24 ci_1 ?_
    refine r_iadd dX7_readEater_25 ?_
    refine r_putI (j := 3) (by decide) (congrArg Prod.fst k0_1) c12_7 (by decide) rfl (Or.inl rfl) tw_36 dX7_readEater_26 ?_
    refine r_aload_n 0 dX7_readEater_29 rfl rfl ?_
    refine r_iconst dX7_readEater_30 ci_1 ?_
    refine r_bipush dX7_readEater_31 cb_30 ?_
    refine rc_VI (h' := 2) [.int 1, .int 30] okv_X7_readNumber (by decide) (congrArg Prod.fst k0_1) tw_367 rfl rfl (Nat.le_of_ble_eq_true rfl) dX7_readEater_33 (by decide) h (fun r2 σ2 τ2 h => ?_)
    refine r_istore_n dX7_readEater_36 rfl (by decide) rfl ?_
    refine r_aload_n 1 dX7_readEater_37 rfl rfl ?_
    refine r_bipush dX7_readEater_38 cb_59 ?_
    refine rc_VV (h' := 2) [.int 59] okv_X7_readSign (by decide) (congrArg Prod.fst k0_1) tw_377 rfl rfl (Nat.le_of_ble_eq_true rfl) dX7_readEater_40 (by decide) h (fun σ3 τ3 h => ?_)
    refine r_aload_n 1 dX7_readEater_43 rfl rfl ?_
    refine r_getI (j := 4) (by decide) (congrArg Prod.fst k0_1) c12_7 (by decide) rfl tw_37 dX7_readEater_44 ?_
    refine r_if_ne (tgt := 55) dX7_readEater_47 (by decide) (fun c4 => ?_) (fun c4 => ?_)
    · replace h := h.1 c4
      exact r_vret rfl (Nat.le_refl _) (Nat.le_refl _) dX7_readEater_55 ⟨rfl, rfl, rfl, rfl, h⟩
    · replace h := h.2 c4
      refine r_aload_n 2 dX7_readEater_50 rfl rfl ?_
      refine r_iload_n 0 dX7_readEater_51 rfl rfl ?_
      refine rc_VV (h' := 0) [.int r2] okv_X6_addEater (by decide) (congrArg Prod.fst k0_3) tw_393 rfl rfl (Nat.le_of_ble_eq_true rfl) dX7_readEater_52 (by decide) h (fun σ5 τ5 h => ?_)
      exact r_vret rfl (Nat.le_refl _) (Nat.le_refl _) dX7_readEater_55 ⟨rfl, rfl, rfl, rfl, h⟩
  · replace h := h.2 c1
    refine r_aload_n 0 dX7_readEater_9 rfl rfl ?_
    refine r_iconst dX7_readEater_10 ci_3 ?_
    refine r_aload_n 0 dX7_readEater_11 rfl rfl ?_
    refine r_getI (j := 3) (by decide) (congrArg Prod.fst k0_1) c12_7 (by decide) rfl tw_36 dX7_readEater_12 ?_
    refine rc_VV (h' := 0) [.int 3, .int (σ 1 3)] okv_X7_blame (by decide) (congrArg Prod.fst k0_1) tw_363 rfl rfl (Nat.le_of_ble_eq_true rfl) dX7_readEater_15 (by decide) h (fun σ6 τ6 h => ?_)
    exact r_vret rfl (Nat.le_refl _) (Nat.le_refl _) dX7_readEater_18 ⟨rfl, rfl, rfl, rfl, h⟩
theorem s_X7_readEater {l : Launch} {D : zDD} {b : Nat} (σ : zSg) (τ : zLm) {Q : zSg → zLm → Prop} (h : ((σ 3 3) < 6 → (SI l D b M_X7_readNumber 2 G0 [.ref (b + 1), .int 1, .int 30] (st2 σ 1 3 ((σ 1 3) + 1)) τ (fun r2 σ2 τ2 => SV l D b M_X7_readSign 2 G0 [.ref (b + 1), .int 59] σ2 τ2 (fun σ3 τ3 => (¬ (σ3 1 4) = 0 → Q σ3 τ3) ∧ ((σ3 1 4) = 0 → SV l D b M_X6_addEater 0 G0 [.ref (b + 3), .int r2] σ3 τ3 (fun σ5 τ5 => Q σ5 τ5)))))) ∧ (¬ (σ 3 3) < 6 → SV l D b M_X7_blame 0 G0 [.ref (b + 1), .int 3, .int (σ 1 3)] σ τ (fun σ6 τ6 => Q σ6 τ6))) : SV l D b M_X7_readEater 3 G0 [.ref (b + 1), .ref (b + 3)] σ τ Q := zS.of (by decide) (Nat.le_of_ble_eq_true rfl) rfl (w_X7_readEater_0 σ τ h)

theorem dX7_readClause_0 : decode cX7_readClause 0 = .ok (.aload_n 0, 1) := by decide +kernel
theorem dX7_readClause_1 : decode cX7_readClause 1 = .ok (.invokevirtual 40, 3) := by decide +kernel
theorem dX7_readClause_4 : decode cX7_readClause 4 = .ok (.istore_n 2, 1) := by decide +kernel
theorem dX7_readClause_5 : decode cX7_readClause 5 = .ok (.iload_n 2, 1) := by decide +kernel
theorem dX7_readClause_6 : decode cX7_readClause 6 = .ok (.bipush 102, 2) := by decide +kernel
theorem dX7_readClause_8 : decode cX7_readClause 8 = .ok (.if_icmp .ne 11, 3) := by decide +kernel
theorem dX7_readClause_11 : decode cX7_readClause 11 = .ok (.aload_n 0, 1) := by decide +kernel
theorem dX7_readClause_12 : decode cX7_readClause 12 = .ok (.aload_n 1, 1) := by decide +kernel
theorem dX7_readClause_13 : decode cX7_readClause 13 = .ok (.invokevirtual 44, 3) := by decide +kernel
theorem dX7_readClause_16 : decode cX7_readClause 16 = .ok (.goto 54, 3) := by decide +kernel
theorem dX7_readClause_19 : decode cX7_readClause 19 = .ok (.iload_n 2, 1) := by decide +kernel
theorem dX7_readClause_20 : decode cX7_readClause 20 = .ok (.bipush 116, 2) := by decide +kernel
theorem dX7_readClause_22 : decode cX7_readClause 22 = .ok (.if_icmp .ne 18, 3) := by decide +kernel
theorem dX7_readClause_25 : decode cX7_readClause 25 = .ok (.aload_n 1, 1) := by decide +kernel
theorem dX7_readClause_26 : decode cX7_readClause 26 = .ok (.invokevirtual 47, 3) := by decide +kernel
theorem dX7_readClause_29 : decode cX7_readClause 29 = .ok (.ifCond .eq 11, 3) := by decide +kernel
theorem dX7_readClause_32 : decode cX7_readClause 32 = .ok (.aload_n 0, 1) := by decide +kernel
theorem dX7_readClause_33 : decode cX7_readClause 33 = .ok (.aload_n 1, 1) := by decide +kernel
theorem dX7_readClause_34 : decode cX7_readClause 34 = .ok (.invokevirtual 51, 3) := by decide +kernel
theorem dX7_readClause_37 : decode cX7_readClause 37 = .ok (.goto 33, 3) := by decide +kernel
theorem dX7_readClause_40 : decode cX7_readClause 40 = .ok (.iload_n 2, 1) := by decide +kernel
theorem dX7_readClause_41 : decode cX7_readClause 41 = .ok (.bipush 101, 2) := by decide +kernel
theorem dX7_readClause_43 : decode cX7_readClause 43 = .ok (.if_icmp .ne 18, 3) := by decide +kernel
theorem dX7_readClause_46 : decode cX7_readClause 46 = .ok (.aload_n 1, 1) := by decide +kernel
theorem dX7_readClause_47 : decode cX7_readClause 47 = .ok (.invokevirtual 47, 3) := by decide +kernel
theorem dX7_readClause_50 : decode cX7_readClause 50 = .ok (.ifCond .eq 11, 3) := by decide +kernel
theorem dX7_readClause_53 : decode cX7_readClause 53 = .ok (.aload_n 0, 1) := by decide +kernel
theorem dX7_readClause_54 : decode cX7_readClause 54 = .ok (.aload_n 1, 1) := by decide +kernel
theorem dX7_readClause_55 : decode cX7_readClause 55 = .ok (.invokevirtual 54, 3) := by decide +kernel
theorem dX7_readClause_58 : decode cX7_readClause 58 = .ok (.goto 12, 3) := by decide +kernel
theorem dX7_readClause_61 : decode cX7_readClause 61 = .ok (.aload_n 0, 1) := by decide +kernel
theorem dX7_readClause_62 : decode cX7_readClause 62 = .ok (.iconst 1, 1) := by decide +kernel
theorem dX7_readClause_63 : decode cX7_readClause 63 = .ok (.aload_n 0, 1) := by decide +kernel
theorem dX7_readClause_64 : decode cX7_readClause 64 = .ok (.getfield 19, 3) := by decide +kernel
theorem dX7_readClause_67 : decode cX7_readClause 67 = .ok (.invokevirtual 57, 3) := by decide +kernel
theorem dX7_readClause_70 : decode cX7_readClause 70 = .ok (.return_, 1) := by decide +kernel
theorem w_X7_readClause_61 {l : Launch} {D : zDD} {b : Nat} (σ : zSg) (τ : zLm) {Q : zSg → zLm → Prop} (h : SV l D b M_X7_blame 0 G0 [.ref (b + 1), .int 1, .int (σ 1 3)] σ τ (fun σ1 τ1 => Q σ1 τ1)) : AV l D b M_X7_readClause 4 G0 Q 61 [(0, .ref (b + 1))] [] G0 σ τ := by
  refine r_aload_n 0 dX7_readClause_61 rfl rfl ?_
  refine r_iconst dX7_readClause_62 ci_1 ?_
  refine r_aload_n 0 dX7_readClause_63 rfl rfl ?_
  refine r_getI (j := 3) (by decide) (congrArg Prod.fst k0_1) c12_7 (by decide) rfl tw_36 dX7_readClause_64 ?_
  refine rc_VV (h' := 0) [.int 1, .int (σ 1 3)] okv_X7_blame (by decide) (congrArg Prod.fst k0_1) tw_363 rfl rfl (Nat.le_of_ble_eq_true rfl) dX7_readClause_67 (by decide) h (fun σ1 τ1 h => ?_)
  exact r_vret rfl (Nat.le_refl _) (Nat.le_refl _) dX7_readClause_70 ⟨rfl, rfl, rfl, rfl, h⟩

theorem w_X7_readClause_40 {l : Launch} {D : zDD} {b : Nat} (x2 : Int32) (σ : zSg) (τ : zLm) {Q : zSg → zLm → Prop} (h : (¬ x2 = 101 → AV l D b M_X7_readClause 4 G0 Q 61 [(0, .ref (b + 1))] [] G0 σ τ) ∧ (x2 = 101 → (SI l D b M_X6_isThere 0 G0 [.ref (b + 3)] σ τ (fun r2 σ2 τ2 => (r2 = 0 → AV l D b M_X7_readClause 4 G0 Q 61 [(0, .ref (b + 1))] [] G0 σ2 τ2) ∧ (¬ r2 = 0 → SV l D b M_X7_readEater 3 G0 [.ref (b + 1), .ref (b + 3)] σ2 τ2 (fun σ4 τ4 => Q σ4 τ4)))))) : AV l D b M_X7_readClause 4 G0 Q 40 [(0, .ref (b + 1)), (1, .ref (b + 3)), (2, .int x2)] [] G0 σ τ := by
  refine r_iload_n 2 dX7_readClause_40 rfl rfl ?_
  refine r_bipush dX7_readClause_41 cb_101 ?_
  refine r_icmp_ne (tgt := 61) dX7_readClause_43 (by decide) (fun c1 => ?_) (fun c1 => ?_)
  · replace h := h.1 c1
    refine r_lv [0] rfl ?_
    exact h
  · replace h := h.2 c1
    refine r_aload_n 1 dX7_readClause_46 rfl rfl ?_
    refine rc_VI (h' := 0) [] okv_X6_isThere (by decide) (congrArg Prod.fst k0_3) tw_359 rfl rfl (Nat.le_of_ble_eq_true rfl) dX7_readClause_47 (by decide) h (fun r2 σ2 τ2 h => ?_)
    refine r_if_eq (tgt := 61) dX7_readClause_50 (by decide) (fun c3 => ?_) (fun c3 => ?_)
    · replace h := h.1 c3
      refine r_lv [0] rfl ?_
      exact h
    · replace h := h.2 c3
      refine r_aload_n 0 dX7_readClause_53 rfl rfl ?_
      refine r_aload_n 1 dX7_readClause_54 rfl rfl ?_
      refine rc_VV (h' := 3) [.ref (b + 3)] okv_X7_readEater (by decide) (congrArg Prod.fst k0_1) tw_389 rfl rfl (Nat.le_of_ble_eq_true rfl) dX7_readClause_55 (by decide) h (fun σ4 τ4 h => ?_)
      refine r_goto (tgt := 70) dX7_readClause_58 (by decide) ?_
      exact r_vret rfl (Nat.le_refl _) (Nat.le_refl _) dX7_readClause_70 ⟨rfl, rfl, rfl, rfl, h⟩

theorem w_X7_readClause_0 {l : Launch} {D : zDD} {b : Nat} (σ : zSg) (τ : zLm) {Q : zSg → zLm → Prop} (h : SI l D b M_X7_here 0 G0 [.ref (b + 1)] σ τ (fun r1 σ1 τ1 => (¬ r1 = 102 → ((¬ r1 = 116 → AV l D b M_X7_readClause 4 G0 Q 40 [(0, .ref (b + 1)), (1, .ref (b + 3)), (2, .int r1)] [] G0 σ1 τ1) ∧ (r1 = 116 → (SI l D b M_X6_isThere 0 G0 [.ref (b + 3)] σ1 τ1 (fun r4 σ4 τ4 => (r4 = 0 → AV l D b M_X7_readClause 4 G0 Q 40 [(0, .ref (b + 1)), (1, .ref (b + 3)), (2, .int r1)] [] G0 σ4 τ4) ∧ (¬ r4 = 0 → SV l D b M_X7_readTrouble 3 G0 [.ref (b + 1), .ref (b + 3)] σ4 τ4 (fun σ6 τ6 => Q σ6 τ6))))))) ∧ (r1 = 102 → SV l D b M_X7_readFire 3 G0 [.ref (b + 1), .ref (b + 3)] σ1 τ1 (fun σ7 τ7 => Q σ7 τ7)))) : AV l D b M_X7_readClause 4 G0 Q 0 [(0, .ref (b + 1)), (1, .ref (b + 3))] [] G0 σ τ := by
  refine r_aload_n 0 dX7_readClause_0 rfl rfl ?_
  refine rc_VI (h' := 0) [] okv_X7_here (by decide) (congrArg Prod.fst k0_1) tw_347 rfl rfl (Nat.le_of_ble_eq_true rfl) dX7_readClause_1 (by decide) h (fun r1 σ1 τ1 h => ?_)
  refine r_istore_n dX7_readClause_4 rfl (by decide) rfl ?_
  refine r_iload_n 0 dX7_readClause_5 rfl rfl ?_
  refine r_bipush dX7_readClause_6 cb_102 ?_
  refine r_icmp_ne (tgt := 19) dX7_readClause_8 (by decide) (fun c2 => ?_) (fun c2 => ?_)
  · replace h := h.1 c2
    refine r_iload_n 0 dX7_readClause_19 rfl rfl ?_
    refine r_bipush dX7_readClause_20 cb_116 ?_
    refine r_icmp_ne (tgt := 40) dX7_readClause_22 (by decide) (fun c3 => ?_) (fun c3 => ?_)
    · replace h := h.1 c3
      refine r_lv [1, 2, 0] rfl ?_
      exact h
    · replace h := h.2 c3
      refine r_aload_n 2 dX7_readClause_25 rfl rfl ?_
      refine rc_VI (h' := 0) [] okv_X6_isThere (by decide) (congrArg Prod.fst k0_3) tw_359 rfl rfl (Nat.le_of_ble_eq_true rfl) dX7_readClause_26 (by decide) h (fun r4 σ4 τ4 h => ?_)
      refine r_if_eq (tgt := 40) dX7_readClause_29 (by decide) (fun c5 => ?_) (fun c5 => ?_)
      · replace h := h.1 c5
        refine r_lv [1, 2, 0] rfl ?_
        exact h
      · replace h := h.2 c5
        refine r_aload_n 1 dX7_readClause_32 rfl rfl ?_
        refine r_aload_n 2 dX7_readClause_33 rfl rfl ?_
        refine rc_VV (h' := 3) [.ref (b + 3)] okv_X7_readTrouble (by decide) (congrArg Prod.fst k0_1) tw_381 rfl rfl (Nat.le_of_ble_eq_true rfl) dX7_readClause_34 (by decide) h (fun σ6 τ6 h => ?_)
        refine r_goto (tgt := 70) dX7_readClause_37 (by decide) ?_
        exact r_vret rfl (Nat.le_refl _) (Nat.le_refl _) dX7_readClause_70 ⟨rfl, rfl, rfl, rfl, h⟩
  · replace h := h.2 c2
    refine r_aload_n 1 dX7_readClause_11 rfl rfl ?_
    refine r_aload_n 2 dX7_readClause_12 rfl rfl ?_
    refine rc_VV (h' := 3) [.ref (b + 3)] okv_X7_readFire (by decide) (congrArg Prod.fst k0_1) tw_355 rfl rfl (Nat.le_of_ble_eq_true rfl) dX7_readClause_13 (by decide) h (fun σ7 τ7 h => ?_)
    refine r_goto (tgt := 70) dX7_readClause_16 (by decide) ?_
    exact r_vret rfl (Nat.le_refl _) (Nat.le_refl _) dX7_readClause_70 ⟨rfl, rfl, rfl, rfl, h⟩
theorem s_X7_readClause {l : Launch} {D : zDD} {b : Nat} (σ : zSg) (τ : zLm) {Q : zSg → zLm → Prop} (h : SI l D b M_X7_here 0 G0 [.ref (b + 1)] σ τ (fun r1 σ1 τ1 => (¬ r1 = 102 → ((¬ r1 = 116 → AV l D b M_X7_readClause 4 G0 Q 40 [(0, .ref (b + 1)), (1, .ref (b + 3)), (2, .int r1)] [] G0 σ1 τ1) ∧ (r1 = 116 → (SI l D b M_X6_isThere 0 G0 [.ref (b + 3)] σ1 τ1 (fun r4 σ4 τ4 => (r4 = 0 → AV l D b M_X7_readClause 4 G0 Q 40 [(0, .ref (b + 1)), (1, .ref (b + 3)), (2, .int r1)] [] G0 σ4 τ4) ∧ (¬ r4 = 0 → SV l D b M_X7_readTrouble 3 G0 [.ref (b + 1), .ref (b + 3)] σ4 τ4 (fun σ6 τ6 => Q σ6 τ6))))))) ∧ (r1 = 102 → SV l D b M_X7_readFire 3 G0 [.ref (b + 1), .ref (b + 3)] σ1 τ1 (fun σ7 τ7 => Q σ7 τ7)))) : SV l D b M_X7_readClause 4 G0 [.ref (b + 1), .ref (b + 3)] σ τ Q := zS.of (by decide) (Nat.le_of_ble_eq_true rfl) rfl (w_X7_readClause_0 σ τ h)

theorem dX7_read_0 : decode cX7_read 0 = .ok (.aload_n 0, 1) := by decide +kernel
theorem dX7_read_1 : decode cX7_read 1 = .ok (.iconst 0, 1) := by decide +kernel
theorem dX7_read_2 : decode cX7_read 2 = .ok (.putfield 19, 3) := by decide +kernel
theorem dX7_read_5 : decode cX7_read 5 = .ok (.aload_n 0, 1) := by decide +kernel
theorem dX7_read_6 : decode cX7_read 6 = .ok (.iconst 0, 1) := by decide +kernel
theorem dX7_read_7 : decode cX7_read 7 = .ok (.putfield 22, 3) := by decide +kernel
theorem dX7_read_10 : decode cX7_read 10 = .ok (.aload_n 0, 1) := by decide +kernel
theorem dX7_read_11 : decode cX7_read 11 = .ok (.iconst (-1), 1) := by decide +kernel
theorem dX7_read_12 : decode cX7_read 12 = .ok (.putfield 25, 3) := by decide +kernel
theorem dX7_read_15 : decode cX7_read 15 = .ok (.aload_n 1, 1) := by decide +kernel
theorem dX7_read_16 : decode cX7_read 16 = .ok (.invokevirtual 28, 3) := by decide +kernel
theorem dX7_read_19 : decode cX7_read 19 = .ok (.aload_n 0, 1) := by decide +kernel
theorem dX7_read_20 : decode cX7_read 20 = .ok (.invokevirtual 33, 3) := by decide +kernel
theorem dX7_read_23 : decode cX7_read 23 = .ok (.iconst 0, 1) := by decide +kernel
theorem dX7_read_24 : decode cX7_read 24 = .ok (.istore_n 2, 1) := by decide +kernel
theorem dX7_read_25 : decode cX7_read 25 = .ok (.iload_n 2, 1) := by decide +kernel
theorem dX7_read_26 : decode cX7_read 26 = .ok (.sipush 240, 3) := by decide +kernel
theorem dX7_read_29 : decode cX7_read 29 = .ok (.if_icmp .ge 36, 3) := by decide +kernel
theorem dX7_read_32 : decode cX7_read 32 = .ok (.aload_n 0, 1) := by decide +kernel
theorem dX7_read_33 : decode cX7_read 33 = .ok (.getfield 19, 3) := by decide +kernel
theorem dX7_read_36 : decode cX7_read 36 = .ok (.aload_n 0, 1) := by decide +kernel
theorem dX7_read_37 : decode cX7_read 37 = .ok (.getfield 15, 3) := by decide +kernel
theorem dX7_read_40 : decode cX7_read 40 = .ok (.if_icmp .ge 25, 3) := by decide +kernel
theorem dX7_read_43 : decode cX7_read 43 = .ok (.aload_n 0, 1) := by decide +kernel
theorem dX7_read_44 : decode cX7_read 44 = .ok (.getfield 22, 3) := by decide +kernel
theorem dX7_read_47 : decode cX7_read 47 = .ok (.ifCond .ne 18, 3) := by decide +kernel
theorem dX7_read_50 : decode cX7_read 50 = .ok (.aload_n 0, 1) := by decide +kernel
theorem dX7_read_51 : decode cX7_read 51 = .ok (.aload_n 1, 1) := by decide +kernel
theorem dX7_read_52 : decode cX7_read 52 = .ok (.invokevirtual 36, 3) := by decide +kernel
theorem dX7_read_55 : decode cX7_read 55 = .ok (.aload_n 0, 1) := by decide +kernel
theorem dX7_read_56 : decode cX7_read 56 = .ok (.invokevirtual 33, 3) := by decide +kernel
theorem dX7_read_59 : decode cX7_read 59 = .ok (.iinc 2 1, 3) := by decide +kernel
theorem dX7_read_62 : decode cX7_read 62 = .ok (.goto (-37), 3) := by decide +kernel
theorem dX7_read_65 : decode cX7_read 65 = .ok (.aload_n 0, 1) := by decide +kernel
theorem dX7_read_66 : decode cX7_read 66 = .ok (.iconst 0, 1) := by decide +kernel
theorem dX7_read_67 : decode cX7_read 67 = .ok (.putfield 15, 3) := by decide +kernel
theorem dX7_read_70 : decode cX7_read 70 = .ok (.aload_n 0, 1) := by decide +kernel
theorem dX7_read_71 : decode cX7_read 71 = .ok (.getfield 22, 3) := by decide +kernel
theorem dX7_read_74 : decode cX7_read 74 = .ok (.ireturn, 1) := by decide +kernel
theorem w_X7_read_25 {l : Launch} {D : zDD} {b : Nat} (x2 : Int32) (σ : zSg) (τ : zLm) {Q : Int32 → zSg → zLm → Prop} (h : (240 ≤ x2 → Q ((st2 σ 1 1 0) 1 4) (st2 σ 1 1 0) τ) ∧ (¬ 240 ≤ x2 → (((σ 1 1) ≤ (σ 1 3) → Q ((st2 σ 1 1 0) 1 4) (st2 σ 1 1 0) τ) ∧ (¬ (σ 1 1) ≤ (σ 1 3) → ((¬ (σ 1 4) = 0 → Q ((st2 σ 1 1 0) 1 4) (st2 σ 1 1 0) τ) ∧ ((σ 1 4) = 0 → SV l D b M_X7_readClause 4 G0 [.ref (b + 1), .ref (b + 3)] σ τ (fun σ4 τ4 => SV l D b M_X7_skipBlanks 1 G0 [.ref (b + 1)] σ4 τ4 (fun σ5 τ5 => AI l D b M_X7_read 5 G0 Q 25 [(0, .ref (b + 1)), (1, .ref (b + 3)), (2, .int (x2 + 1))] [] G0 σ5 τ5)))))))) : AI l D b M_X7_read 5 G0 Q 25 [(0, .ref (b + 1)), (1, .ref (b + 3)), (2, .int x2)] [] G0 σ τ := by
  refine r_iload_n 2 dX7_read_25 rfl rfl ?_
  refine r_sipush dX7_read_26 cs_240 ?_
  refine r_icmp_ge (tgt := 65) dX7_read_29 (by decide) (fun c1 => ?_) (fun c1 => ?_)
  · replace h := h.1 c1
    refine r_aload_n 0 dX7_read_65 rfl rfl ?_
    refine r_iconst dX7_read_66 ci_0 ?_
    refine r_putI (j := 1) (by decide) (congrArg Prod.fst k0_1) c12_7 (by decide) rfl (Or.inl rfl) tw_32 dX7_read_67 ?_
    refine r_aload_n 0 dX7_read_70 rfl rfl ?_
    refine r_getI (j := 4) (by decide) (congrArg Prod.fst k0_1) c12_7 (by decide) rfl tw_37 dX7_read_71 ?_
    exact r_iret rfl (Nat.le_refl _) (Nat.le_refl _) dX7_read_74 ⟨rfl, rfl, rfl, _, rfl, h⟩
  · replace h := h.2 c1
    refine r_aload_n 0 dX7_read_32 rfl rfl ?_
    refine r_getI (j := 3) (by decide) (congrArg Prod.fst k0_1) c12_7 (by decide) rfl tw_36 dX7_read_33 ?_
    refine r_aload_n 0 dX7_read_36 rfl rfl ?_
    refine r_getI (j := 1) (by decide) (congrArg Prod.fst k0_1) c12_7 (by decide) rfl tw_32 dX7_read_37 ?_
    refine r_icmp_ge (tgt := 65) dX7_read_40 (by decide) (fun c2 => ?_) (fun c2 => ?_)
    · replace h := h.1 c2
      refine r_aload_n 0 dX7_read_65 rfl rfl ?_
      refine r_iconst dX7_read_66 ci_0 ?_
      refine r_putI (j := 1) (by decide) (congrArg Prod.fst k0_1) c12_7 (by decide) rfl (Or.inl rfl) tw_32 dX7_read_67 ?_
      refine r_aload_n 0 dX7_read_70 rfl rfl ?_
      refine r_getI (j := 4) (by decide) (congrArg Prod.fst k0_1) c12_7 (by decide) rfl tw_37 dX7_read_71 ?_
      exact r_iret rfl (Nat.le_refl _) (Nat.le_refl _) dX7_read_74 ⟨rfl, rfl, rfl, _, rfl, h⟩
    · replace h := h.2 c2
      refine r_aload_n 0 dX7_read_43 rfl rfl ?_
      refine r_getI (j := 4) (by decide) (congrArg Prod.fst k0_1) c12_7 (by decide) rfl tw_37 dX7_read_44 ?_
      refine r_if_ne (tgt := 65) dX7_read_47 (by decide) (fun c3 => ?_) (fun c3 => ?_)
      · replace h := h.1 c3
        refine r_aload_n 0 dX7_read_65 rfl rfl ?_
        refine r_iconst dX7_read_66 ci_0 ?_
        refine r_putI (j := 1) (by decide) (congrArg Prod.fst k0_1) c12_7 (by decide) rfl (Or.inl rfl) tw_32 dX7_read_67 ?_
        refine r_aload_n 0 dX7_read_70 rfl rfl ?_
        refine r_getI (j := 4) (by decide) (congrArg Prod.fst k0_1) c12_7 (by decide) rfl tw_37 dX7_read_71 ?_
        exact r_iret rfl (Nat.le_refl _) (Nat.le_refl _) dX7_read_74 ⟨rfl, rfl, rfl, _, rfl, h⟩
      · replace h := h.2 c3
        refine r_aload_n 0 dX7_read_50 rfl rfl ?_
        refine r_aload_n 1 dX7_read_51 rfl rfl ?_
        refine rc_VV (h' := 4) [.ref (b + 3)] okv_X7_readClause (by decide) (congrArg Prod.fst k0_1) tw_351 rfl rfl (Nat.le_of_ble_eq_true rfl) dX7_read_52 (by decide) h (fun σ4 τ4 h => ?_)
        refine r_aload_n 0 dX7_read_55 rfl rfl ?_
        refine rc_VV (h' := 1) [] okv_X7_skipBlanks (by decide) (congrArg Prod.fst k0_1) tw_343 rfl rfl (Nat.le_of_ble_eq_true rfl) dX7_read_56 (by decide) h (fun σ5 τ5 h => ?_)
        refine r_inc 2 dX7_read_59 rfl ci_1 (by decide) rfl ?_
        refine r_goto (tgt := 25) dX7_read_62 (by decide) ?_
        refine r_lv [1, 2, 0] rfl ?_
        exact h

theorem w_X7_read_0 {l : Launch} {D : zDD} {b : Nat} (σ : zSg) (τ : zLm) {Q : Int32 → zSg → zLm → Prop} (h : SV l D b M_X6_clear 0 G0 [.ref (b + 3)] (st2 (st2 (st2 σ 1 3 0) 1 4 0) 1 2 (-1)) τ (fun σ1 τ1 => SV l D b M_X7_skipBlanks 1 G0 [.ref (b + 1)] σ1 τ1 (fun σ2 τ2 => AI l D b M_X7_read 5 G0 Q 25 [(0, .ref (b + 1)), (1, .ref (b + 3)), (2, .int 0)] [] G0 σ2 τ2))) : AI l D b M_X7_read 5 G0 Q 0 [(0, .ref (b + 1)), (1, .ref (b + 3))] [] G0 σ τ := by
  refine r_aload_n 0 dX7_read_0 rfl rfl ?_
  refine r_iconst dX7_read_1 ci_0 ?_
  refine r_putI (j := 3) (by decide) (congrArg Prod.fst k0_1) c12_7 (by decide) rfl (Or.inl rfl) tw_36 dX7_read_2 ?_
  refine r_aload_n 0 dX7_read_5 rfl rfl ?_
  refine r_iconst dX7_read_6 ci_0 ?_
  refine r_putI (j := 4) (by decide) (congrArg Prod.fst k0_1) c12_7 (by decide) rfl (Or.inl rfl) tw_37 dX7_read_7 ?_
  refine r_aload_n 0 dX7_read_10 rfl rfl ?_
  refine r_iconst dX7_read_11 ci_m1 ?_
  refine r_putI (j := 2) (by decide) (congrArg Prod.fst k0_1) c12_7 (by decide) rfl (Or.inl rfl) tw_34 dX7_read_12 ?_
  refine r_aload_n 1 dX7_read_15 rfl rfl ?_
  refine rc_VV (h' := 0) [] okv_X6_clear (by decide) (congrArg Prod.fst k0_3) tw_339 rfl rfl (Nat.le_of_ble_eq_true rfl) dX7_read_16 (by decide) h (fun σ1 τ1 h => ?_)
  refine r_aload_n 0 dX7_read_19 rfl rfl ?_
  refine rc_VV (h' := 1) [] okv_X7_skipBlanks (by decide) (congrArg Prod.fst k0_1) tw_343 rfl rfl (Nat.le_of_ble_eq_true rfl) dX7_read_20 (by decide) h (fun σ2 τ2 h => ?_)
  refine r_iconst dX7_read_23 ci_0 ?_
  refine r_istore_n dX7_read_24 rfl (by decide) rfl ?_
  refine r_lv [1, 2, 0] rfl ?_
  exact h
theorem s_X7_read {l : Launch} {D : zDD} {b : Nat} (σ : zSg) (τ : zLm) {Q : Int32 → zSg → zLm → Prop} (h : SV l D b M_X6_clear 0 G0 [.ref (b + 3)] (st2 (st2 (st2 σ 1 3 0) 1 4 0) 1 2 (-1)) τ (fun σ1 τ1 => SV l D b M_X7_skipBlanks 1 G0 [.ref (b + 1)] σ1 τ1 (fun σ2 τ2 => AI l D b M_X7_read 5 G0 Q 25 [(0, .ref (b + 1)), (1, .ref (b + 3)), (2, .int 0)] [] G0 σ2 τ2))) : SI l D b M_X7_read 5 G0 [.ref (b + 1), .ref (b + 3)] σ τ Q := zS.of (by decide) (Nat.le_of_ble_eq_true rfl) rfl (w_X7_read_0 σ τ h)

