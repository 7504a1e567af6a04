theorem dX2_allThatAre_0 : decode cX2_allThatAre 0 = .ok (.iconst 0, 1) := by decide +kernel
theorem dX2_allThatAre_1 : decode cX2_allThatAre 1 = .ok (.istore_n 2, 1) := by decide +kernel
theorem dX2_allThatAre_2 : decode cX2_allThatAre 2 = .ok (.iconst 0, 1) := by decide +kernel
theorem dX2_allThatAre_3 : decode cX2_allThatAre 3 = .ok (.istore_n 3, 1) := by decide +kernel
theorem dX2_allThatAre_4 : decode cX2_allThatAre 4 = .ok (.iload_n 3, 1) := by decide +kernel
theorem dX2_allThatAre_5 : decode cX2_allThatAre 5 = .ok (.aload_n 0, 1) := by decide +kernel
theorem dX2_allThatAre_6 : decode cX2_allThatAre 6 = .ok (.getfield 12, 3) := by decide +kernel
theorem dX2_allThatAre_9 : decode cX2_allThatAre 9 = .ok (.getfield 39, 3) := by decide +kernel
theorem dX2_allThatAre_12 : decode cX2_allThatAre 12 = .ok (.if_icmp .ge 28, 3) := by decide +kernel
theorem dX2_allThatAre_15 : decode cX2_allThatAre 15 = .ok (.aload_n 0, 1) := by decide +kernel
theorem dX2_allThatAre_16 : decode cX2_allThatAre 16 = .ok (.getfield 21, 3) := by decide +kernel
theorem dX2_allThatAre_19 : decode cX2_allThatAre 19 = .ok (.getfield 43, 3) := by decide +kernel
theorem dX2_allThatAre_22 : decode cX2_allThatAre 22 = .ok (.iload_n 3, 1) := by decide +kernel
theorem dX2_allThatAre_23 : decode cX2_allThatAre 23 = .ok (.iaload, 1) := by decide +kernel
theorem dX2_allThatAre_24 : decode cX2_allThatAre 24 = .ok (.iload_n 1, 1) := by decide +kernel
theorem dX2_allThatAre_25 : decode cX2_allThatAre 25 = .ok (.if_icmp .ne 9, 3) := by decide +kernel
theorem dX2_allThatAre_28 : decode cX2_allThatAre 28 = .ok (.iload_n 2, 1) := by decide +kernel
theorem dX2_allThatAre_29 : decode cX2_allThatAre 29 = .ok (.iconst 1, 1) := by decide +kernel
theorem dX2_allThatAre_30 : decode cX2_allThatAre 30 = .ok (.iload_n 3, 1) := by decide +kernel
theorem dX2_allThatAre_31 : decode cX2_allThatAre 31 = .ok (.ishl, 1) := by decide +kernel
theorem dX2_allThatAre_32 : decode cX2_allThatAre 32 = .ok (.ior, 1) := by decide +kernel
theorem dX2_allThatAre_33 : decode cX2_allThatAre 33 = .ok (.istore_n 2, 1) := by decide +kernel
theorem dX2_allThatAre_34 : decode cX2_allThatAre 34 = .ok (.iinc 3 1, 3) := by decide +kernel
theorem dX2_allThatAre_37 : decode cX2_allThatAre 37 = .ok (.goto (-33), 3) := by decide +kernel
theorem dX2_allThatAre_40 : decode cX2_allThatAre 40 = .ok (.iload_n 2, 1) := by decide +kernel
theorem dX2_allThatAre_41 : decode cX2_allThatAre 41 = .ok (.ireturn, 1) := by decide +kernel
theorem w_X2_allThatAre_4 {l : Launch} {D : zDD} {b : Nat} (x1 x2 x3 : Int32) (σ : zSg) (τ : zLm) {Q : Int32 → zSg → zLm → Prop} (h : ((σ 9 2) ≤ x3 → Q x2 σ τ) ∧ (¬ (σ 9 2) ≤ x3 → (vp_in x3 6 ∧ ((¬ (σ 15 x3.toNatClampNeg) = x1 → AI l D b M_X2_allThatAre 0 G0 Q 4 [(0, .ref (b + 8)), (1, .int x1), (2, .int x2), (3, .int (x3 + 1))] [] G0 σ τ) ∧ ((σ 15 x3.toNatClampNeg) = x1 → (∀ v3 : Int32, v3 = x2 ||| ((1 : Int32) <<< (x3 &&& 31)) → AI l D b M_X2_allThatAre 0 G0 Q 4 [(0, .ref (b + 8)), (1, .int x1), (2, .int v3), (3, .int (x3 + 1))] [] G0 σ τ)))))) : AI l D b M_X2_allThatAre 0 G0 Q 4 [(0, .ref (b + 8)), (1, .int x1), (2, .int x2), (3, .int x3)] [] G0 σ τ := by
  refine r_iload_n 3 dX2_allThatAre_4 rfl rfl ?_
  refine r_aload_n 0 dX2_allThatAre_5 rfl rfl ?_
  refine r_getR (j := 0) (by decide) (congrArg Prod.fst k0_8) c12_2 (by decide) rfl g0_8_0 tw_172 dX2_allThatAre_6 ?_
  refine r_getI (j := 2) (by decide) (congrArg Prod.fst k0_9) c12_6 (by decide) rfl tw_64 dX2_allThatAre_9 ?_
  refine r_icmp_ge (tgt := 40) dX2_allThatAre_12 (by decide) (fun c1 => ?_) (fun c1 => ?_)
  · replace h := h.1 c1
    refine r_iload_n 2 dX2_allThatAre_40 rfl rfl ?_
    exact r_iret rfl (Nat.le_refl _) (Nat.le_refl _) dX2_allThatAre_41 ⟨rfl, rfl, rfl, _, rfl, h⟩
  · replace h := h.2 c1
    refine r_aload_n 0 dX2_allThatAre_15 rfl rfl ?_
    refine r_getR (j := 1) (by decide) (congrArg Prod.fst k0_8) c12_2 (by decide) rfl g0_8_1 tw_174 dX2_allThatAre_16 ?_
    refine r_getR (j := 2) (by decide) (congrArg Prod.fst k0_14) c12_8 (by decide) rfl g0_14_2 tw_121 dX2_allThatAre_19 ?_
    refine r_iload_n 3 dX2_allThatAre_22 rfl rfl ?_
    refine r_iald (by decide) k0_15 dX2_allThatAre_23 h.1 ?_
    replace h := h.2
    refine r_iload_n 1 dX2_allThatAre_24 rfl rfl ?_
    refine r_icmp_ne (tgt := 34) dX2_allThatAre_25 (by decide) (fun c2 => ?_) (fun c2 => ?_)
    · replace h := h.1 c2
      refine r_inc 3 dX2_allThatAre_34 rfl ci_1 (by decide) rfl ?_
      refine r_goto (tgt := 4) dX2_allThatAre_37 (by decide) ?_
      refine r_lv [1, 2, 3, 0] rfl ?_
      exact h
    · replace h := h.2 c2
      refine r_iload_n 2 dX2_allThatAre_28 rfl rfl ?_
      refine r_iconst dX2_allThatAre_29 ci_1 ?_
      refine r_iload_n 3 dX2_allThatAre_30 rfl rfl ?_
      refine r_ishl dX2_allThatAre_31 ?_
      refine r_ior dX2_allThatAre_32 ?_
      refine r_nmI (fun v3 ev3 => ?_)
      replace h := h v3 ev3
      refine r_istore_n dX2_allThatAre_33 rfl (by decide) rfl ?_
      refine r_inc 3 dX2_allThatAre_34 rfl ci_1 (by decide) rfl ?_
      refine r_goto (tgt := 4) dX2_allThatAre_37 (by decide) ?_
      refine r_lv [2, 3, 1, 0] rfl ?_
      exact h

theorem w_X2_allThatAre_0 {l : Launch} {D : zDD} {b : Nat} (p1 : Int32) (σ : zSg) (τ : zLm) {Q : Int32 → zSg → zLm → Prop} (h : AI l D b M_X2_allThatAre 0 G0 Q 4 [(0, .ref (b + 8)), (1, .int p1), (2, .int 0), (3, .int 0)] [] G0 σ τ) : AI l D b M_X2_allThatAre 0 G0 Q 0 [(0, .ref (b + 8)), (1, .int p1)] [] G0 σ τ := by
  refine r_iconst dX2_allThatAre_0 ci_0 ?_
  refine r_istore_n dX2_allThatAre_1 rfl (by decide) rfl ?_
  refine r_iconst dX2_allThatAre_2 ci_0 ?_
  refine r_istore_n dX2_allThatAre_3 rfl (by decide) rfl ?_
  refine r_lv [2, 3, 1, 0] rfl ?_
  exact h
theorem s_X2_allThatAre {l : Launch} {D : zDD} {b : Nat} (p1 : Int32) (σ : zSg) (τ : zLm) {Q : Int32 → zSg → zLm → Prop} (h : AI l D b M_X2_allThatAre 0 G0 Q 4 [(0, .ref (b + 8)), (1, .int p1), (2, .int 0), (3, .int 0)] [] G0 σ τ) : SI l D b M_X2_allThatAre 0 G0 [.ref (b + 8), .int p1] σ τ Q := zS.of (by decide) (Nat.le_of_ble_eq_true rfl) rfl (w_X2_allThatAre_0 p1 σ τ h)

theorem dX2_isGood_0 : decode cX2_isGood 0 = .ok (.aload_n 0, 1) := by decide +kernel
theorem dX2_isGood_1 : decode cX2_isGood 1 = .ok (.getfield 21, 3) := by decide +kernel
theorem dX2_isGood_4 : decode cX2_isGood 4 = .ok (.getfield 47, 3) := by decide +kernel
theorem dX2_isGood_7 : decode cX2_isGood 7 = .ok (.iload_n 1, 1) := by decide +kernel
theorem dX2_isGood_8 : decode cX2_isGood 8 = .ok (.iaload, 1) := by decide +kernel
theorem dX2_isGood_9 : decode cX2_isGood 9 = .ok (.ifCond .ne 33, 3) := by decide +kernel
theorem dX2_isGood_12 : decode cX2_isGood 12 = .ok (.aload_n 0, 1) := by decide +kernel
theorem dX2_isGood_13 : decode cX2_isGood 13 = .ok (.getfield 21, 3) := by decide +kernel
theorem dX2_isGood_16 : decode cX2_isGood 16 = .ok (.getfield 43, 3) := by decide +kernel
theorem dX2_isGood_19 : decode cX2_isGood 19 = .ok (.iload_n 1, 1) := by decide +kernel
theorem dX2_isGood_20 : decode cX2_isGood 20 = .ok (.iaload, 1) := by decide +kernel
theorem dX2_isGood_21 : decode cX2_isGood 21 = .ok (.iconst 1, 1) := by decide +kernel
theorem dX2_isGood_22 : decode cX2_isGood 22 = .ok (.if_icmp .eq 16, 3) := by decide +kernel
theorem dX2_isGood_25 : decode cX2_isGood 25 = .ok (.aload_n 0, 1) := by decide +kernel
theorem dX2_isGood_26 : decode cX2_isGood 26 = .ok (.getfield 21, 3) := by decide +kernel
theorem dX2_isGood_29 : decode cX2_isGood 29 = .ok (.getfield 43, 3) := by decide +kernel
theorem dX2_isGood_32 : decode cX2_isGood 32 = .ok (.iload_n 1, 1) := by decide +kernel
theorem dX2_isGood_33 : decode cX2_isGood 33 = .ok (.iaload, 1) := by decide +kernel
theorem dX2_isGood_34 : decode cX2_isGood 34 = .ok (.iconst 2, 1) := by decide +kernel
theorem dX2_isGood_35 : decode cX2_isGood 35 = .ok (.if_icmp .ne 7, 3) := by decide +kernel
theorem dX2_isGood_38 : decode cX2_isGood 38 = .ok (.iconst 1, 1) := by decide +kernel
theorem dX2_isGood_39 : decode cX2_isGood 39 = .ok (.goto 4, 3) := by decide +kernel
theorem dX2_isGood_42 : decode cX2_isGood 42 = .ok (.iconst 0, 1) := by decide +kernel
theorem dX2_isGood_43 : decode cX2_isGood 43 = .ok (.ireturn, 1) := by decide +kernel
theorem w_X2_isGood_0 {l : Launch} {D : zDD} {b : Nat} (p1 : Int32) (σ : zSg) (τ : zLm) {Q : Int32 → zSg → zLm → Prop} (h : vp_in p1 6 ∧ ((¬ (σ 16 p1.toNatClampNeg) = 0 → Q 0 σ τ) ∧ ((σ 16 p1.toNatClampNeg) = 0 → (vp_in p1 6 ∧ (((σ 15 p1.toNatClampNeg) = 1 → Q 1 σ τ) ∧ (¬ (σ 15 p1.toNatClampNeg) = 1 → (vp_in p1 6 ∧ ((¬ (σ 15 p1.toNatClampNeg) = 2 → Q 0 σ τ) ∧ ((σ 15 p1.toNatClampNeg) = 2 → Q 1 σ τ))))))))) : AI l D b M_X2_isGood 0 G0 Q 0 [(0, .ref (b + 8)), (1, .int p1)] [] G0 σ τ := by
  refine r_aload_n 0 dX2_isGood_0 rfl rfl ?_
  refine r_getR (j := 1) (by decide) (congrArg Prod.fst k0_8) c12_2 (by decide) rfl g0_8_1 tw_174 dX2_isGood_1 ?_
  refine r_getR (j := 3) (by decide) (congrArg Prod.fst k0_14) c12_8 (by decide) rfl g0_14_3 tw_124 dX2_isGood_4 ?_
  refine r_iload_n 1 dX2_isGood_7 rfl rfl ?_
  refine r_iald (by decide) k0_16 dX2_isGood_8 h.1 ?_
  replace h := h.2
  refine r_if_ne (tgt := 42) dX2_isGood_9 (by decide) (fun c1 => ?_) (fun c1 => ?_)
  · replace h := h.1 c1
    refine r_iconst dX2_isGood_42 ci_0 ?_
    exact r_zret rfl (Nat.le_refl _) (Nat.le_refl _) dX2_isGood_43 (Or.inl rfl) ⟨rfl, rfl, rfl, _, rfl, h⟩
  · replace h := h.2 c1
    refine r_aload_n 0 dX2_isGood_12 rfl rfl ?_
    refine r_getR (j := 1) (by decide) (congrArg Prod.fst k0_8) c12_2 (by decide) rfl g0_8_1 tw_174 dX2_isGood_13 ?_
    refine r_getR (j := 2) (by decide) (congrArg Prod.fst k0_14) c12_8 (by decide) rfl g0_14_2 tw_121 dX2_isGood_16 ?_
    refine r_iload_n 1 dX2_isGood_19 rfl rfl ?_
    refine r_iald (by decide) k0_15 dX2_isGood_20 h.1 ?_
    replace h := h.2
    refine r_iconst dX2_isGood_21 ci_1 ?_
    refine r_icmp_eq (tgt := 38) dX2_isGood_22 (by decide) (fun c2 => ?_) (fun c2 => ?_)
    · replace h := h.1 c2
      refine r_iconst dX2_isGood_38 ci_1 ?_
      refine r_goto (tgt := 43) dX2_isGood_39 (by decide) ?_
      exact r_zret rfl (Nat.le_refl _) (Nat.le_refl _) dX2_isGood_43 (Or.inr rfl) ⟨rfl, rfl, rfl, _, rfl, h⟩
    · replace h := h.2 c2
      refine r_aload_n 0 dX2_isGood_25 rfl rfl ?_
      refine r_getR (j := 1) (by decide) (congrArg Prod.fst k0_8) c12_2 (by decide) rfl g0_8_1 tw_174 dX2_isGood_26 ?_
      refine r_getR (j := 2) (by decide) (congrArg Prod.fst k0_14) c12_8 (by decide) rfl g0_14_2 tw_121 dX2_isGood_29 ?_
      refine r_iload_n 1 dX2_isGood_32 rfl rfl ?_
      refine r_iald (by decide) k0_15 dX2_isGood_33 h.1 ?_
      replace h := h.2
      refine r_iconst dX2_isGood_34 ci_2 ?_
      refine r_icmp_ne (tgt := 42) dX2_isGood_35 (by decide) (fun c3 => ?_) (fun c3 => ?_)
      · replace h := h.1 c3
        refine r_iconst dX2_isGood_42 ci_0 ?_
        exact r_zret rfl (Nat.le_refl _) (Nat.le_refl _) dX2_isGood_43 (Or.inl rfl) ⟨rfl, rfl, rfl, _, rfl, h⟩
      · replace h := h.2 c3
        refine r_iconst dX2_isGood_38 ci_1 ?_
        refine r_goto (tgt := 43) dX2_isGood_39 (by decide) ?_
        exact r_zret rfl (Nat.le_refl _) (Nat.le_refl _) dX2_isGood_43 (Or.inr rfl) ⟨rfl, rfl, rfl, _, rfl, h⟩
theorem s_X2_isGood {l : Launch} {D : zDD} {b : Nat} (p1 : Int32) (σ : zSg) (τ : zLm) {Q : Int32 → zSg → zLm → Prop} (h : vp_in p1 6 ∧ ((¬ (σ 16 p1.toNatClampNeg) = 0 → Q 0 σ τ) ∧ ((σ 16 p1.toNatClampNeg) = 0 → (vp_in p1 6 ∧ (((σ 15 p1.toNatClampNeg) = 1 → Q 1 σ τ) ∧ (¬ (σ 15 p1.toNatClampNeg) = 1 → (vp_in p1 6 ∧ ((¬ (σ 15 p1.toNatClampNeg) = 2 → Q 0 σ τ) ∧ ((σ 15 p1.toNatClampNeg) = 2 → Q 1 σ τ))))))))) : SI l D b M_X2_isGood 0 G0 [.ref (b + 8), .int p1] σ τ Q := zS.of (by decide) (Nat.le_of_ble_eq_true rfl) rfl (w_X2_isGood_0 p1 σ τ h)

theorem dX2_canBeWrapped_0 : decode cX2_canBeWrapped 0 = .ok (.aload_n 0, 1) := by decide +kernel
theorem dX2_canBeWrapped_1 : decode cX2_canBeWrapped 1 = .ok (.getfield 21, 3) := by decide +kernel
theorem dX2_canBeWrapped_4 : decode cX2_canBeWrapped 4 = .ok (.getfield 43, 3) := by decide +kernel
theorem dX2_canBeWrapped_7 : decode cX2_canBeWrapped 7 = .ok (.iload_n 1, 1) := by decide +kernel
theorem dX2_canBeWrapped_8 : decode cX2_canBeWrapped 8 = .ok (.iaload, 1) := by decide +kernel
theorem dX2_canBeWrapped_9 : decode cX2_canBeWrapped 9 = .ok (.ifCond .ne 7, 3) := by decide +kernel
theorem dX2_canBeWrapped_12 : decode cX2_canBeWrapped 12 = .ok (.iconst 1, 1) := by decide +kernel
theorem dX2_canBeWrapped_13 : decode cX2_canBeWrapped 13 = .ok (.goto 4, 3) := by decide +kernel
theorem dX2_canBeWrapped_16 : decode cX2_canBeWrapped 16 = .ok (.iconst 0, 1) := by decide +kernel
theorem dX2_canBeWrapped_17 : decode cX2_canBeWrapped 17 = .ok (.ireturn, 1) := by decide +kernel
theorem w_X2_canBeWrapped_0 {l : Launch} {D : zDD} {b : Nat} (p1 : Int32) (σ : zSg) (τ : zLm) {Q : Int32 → zSg → zLm → Prop} (h : vp_in p1 6 ∧ ((¬ (σ 15 p1.toNatClampNeg) = 0 → Q 0 σ τ) ∧ ((σ 15 p1.toNatClampNeg) = 0 → Q 1 σ τ))) : AI l D b M_X2_canBeWrapped 0 G0 Q 0 [(0, .ref (b + 8)), (1, .int p1)] [] G0 σ τ := by
  refine r_aload_n 0 dX2_canBeWrapped_0 rfl rfl ?_
  refine r_getR (j := 1) (by decide) (congrArg Prod.fst k0_8) c12_2 (by decide) rfl g0_8_1 tw_174 dX2_canBeWrapped_1 ?_
  refine r_getR (j := 2) (by decide) (congrArg Prod.fst k0_14) c12_8 (by decide) rfl g0_14_2 tw_121 dX2_canBeWrapped_4 ?_
  refine r_iload_n 1 dX2_canBeWrapped_7 rfl rfl ?_
  refine r_iald (by decide) k0_15 dX2_canBeWrapped_8 h.1 ?_
  replace h := h.2
  refine r_if_ne (tgt := 16) dX2_canBeWrapped_9 (by decide) (fun c1 => ?_) (fun c1 => ?_)
  · replace h := h.1 c1
    refine r_iconst dX2_canBeWrapped_16 ci_0 ?_
    exact r_zret rfl (Nat.le_refl _) (Nat.le_refl _) dX2_canBeWrapped_17 (Or.inl rfl) ⟨rfl, rfl, rfl, _, rfl, h⟩
  · replace h := h.2 c1
    refine r_iconst dX2_canBeWrapped_12 ci_1 ?_
    refine r_goto (tgt := 17) dX2_canBeWrapped_13 (by decide) ?_
    exact r_zret rfl (Nat.le_refl _) (Nat.le_refl _) dX2_canBeWrapped_17 (Or.inr rfl) ⟨rfl, rfl, rfl, _, rfl, h⟩
theorem s_X2_canBeWrapped {l : Launch} {D : zDD} {b : Nat} (p1 : Int32) (σ : zSg) (τ : zLm) {Q : Int32 → zSg → zLm → Prop} (h : vp_in p1 6 ∧ ((¬ (σ 15 p1.toNatClampNeg) = 0 → Q 0 σ τ) ∧ ((σ 15 p1.toNatClampNeg) = 0 → Q 1 σ τ))) : SI l D b M_X2_canBeWrapped 0 G0 [.ref (b + 8), .int p1] σ τ Q := zS.of (by decide) (Nat.le_of_ble_eq_true rfl) rfl (w_X2_canBeWrapped_0 p1 σ τ h)

theorem dX2_leftOf_0 : decode cX2_leftOf 0 = .ok (.aload_n 0, 1) := by decide +kernel
theorem dX2_leftOf_1 : decode cX2_leftOf 1 = .ok (.getfield 12, 3) := by decide +kernel
theorem dX2_leftOf_4 : decode cX2_leftOf 4 = .ok (.getfield 81, 3) := by decide +kernel
theorem dX2_leftOf_7 : decode cX2_leftOf 7 = .ok (.iload_n 1, 1) := by decide +kernel
theorem dX2_leftOf_8 : decode cX2_leftOf 8 = .ok (.iaload, 1) := by decide +kernel
theorem dX2_leftOf_9 : decode cX2_leftOf 9 = .ok (.aload_n 0, 1) := by decide +kernel
theorem dX2_leftOf_10 : decode cX2_leftOf 10 = .ok (.getfield 21, 3) := by decide +kernel
theorem dX2_leftOf_13 : decode cX2_leftOf 13 = .ok (.getfield 84, 3) := by decide +kernel
theorem dX2_leftOf_16 : decode cX2_leftOf 16 = .ok (.iload_n 1, 1) := by decide +kernel
theorem dX2_leftOf_17 : decode cX2_leftOf 17 = .ok (.iaload, 1) := by decide +kernel
theorem dX2_leftOf_18 : decode cX2_leftOf 18 = .ok (.isub, 1) := by decide +kernel
theorem dX2_leftOf_19 : decode cX2_leftOf 19 = .ok (.ireturn, 1) := by decide +kernel
theorem w_X2_leftOf_0 {l : Launch} {D : zDD} {b : Nat} (p1 : Int32) (σ : zSg) (τ : zLm) {Q : Int32 → zSg → zLm → Prop} (h : vp_in p1 6 ∧ (vp_in p1 6 ∧ Q ((σ 13 p1.toNatClampNeg) - (σ 18 p1.toNatClampNeg)) σ τ)) : AI l D b M_X2_leftOf 0 G0 Q 0 [(0, .ref (b + 8)), (1, .int p1)] [] G0 σ τ := by
  refine r_aload_n 0 dX2_leftOf_0 rfl rfl ?_
  refine r_getR (j := 0) (by decide) (congrArg Prod.fst k0_8) c12_2 (by decide) rfl g0_8_0 tw_172 dX2_leftOf_1 ?_
  refine r_getR (j := 7) (by decide) (congrArg Prod.fst k0_9) c12_6 (by decide) rfl g0_9_7 tw_82 dX2_leftOf_4 ?_
  refine r_iload_n 1 dX2_leftOf_7 rfl rfl ?_
  refine r_iald (by decide) k0_13 dX2_leftOf_8 h.1 ?_
  replace h := h.2
  refine r_aload_n 0 dX2_leftOf_9 rfl rfl ?_
  refine r_getR (j := 1) (by decide) (congrArg Prod.fst k0_8) c12_2 (by decide) rfl g0_8_1 tw_174 dX2_leftOf_10 ?_
  refine r_getR (j := 5) (by decide) (congrArg Prod.fst k0_14) c12_8 (by decide) rfl g0_14_5 tw_133 dX2_leftOf_13 ?_
  refine r_iload_n 1 dX2_leftOf_16 rfl rfl ?_
  refine r_iald (by decide) k0_18 dX2_leftOf_17 h.1 ?_
  replace h := h.2
  refine r_isub dX2_leftOf_18 ?_
  exact r_iret rfl (Nat.le_refl _) (Nat.le_refl _) dX2_leftOf_19 ⟨rfl, rfl, rfl, _, rfl, h⟩
theorem s_X2_leftOf {l : Launch} {D : zDD} {b : Nat} (p1 : Int32) (σ : zSg) (τ : zLm) {Q : Int32 → zSg → zLm → Prop} (h : vp_in p1 6 ∧ (vp_in p1 6 ∧ Q ((σ 13 p1.toNatClampNeg) - (σ 18 p1.toNatClampNeg)) σ τ)) : SI l D b M_X2_leftOf 0 G0 [.ref (b + 8), .int p1] σ τ Q := zS.of (by decide) (Nat.le_of_ble_eq_true rfl) rfl (w_X2_leftOf_0 p1 σ τ h)

theorem dX2_unload_0 : decode cX2_unload 0 = .ok (.iconst 0, 1) := by decide +kernel
theorem dX2_unload_1 : decode cX2_unload 1 = .ok (.istore_n 1, 1) := by decide +kernel
theorem dX2_unload_2 : decode cX2_unload 2 = .ok (.iconst 0, 1) := by decide +kernel
theorem dX2_unload_3 : decode cX2_unload 3 = .ok (.istore_n 2, 1) := by decide +kernel
theorem dX2_unload_4 : decode cX2_unload 4 = .ok (.iload_n 2, 1) := by decide +kernel
theorem dX2_unload_5 : decode cX2_unload 5 = .ok (.aload_n 0, 1) := by decide +kernel
theorem dX2_unload_6 : decode cX2_unload 6 = .ok (.getfield 12, 3) := by decide +kernel
theorem dX2_unload_9 : decode cX2_unload 9 = .ok (.getfield 87, 3) := by decide +kernel
theorem dX2_unload_12 : decode cX2_unload 12 = .ok (.if_icmp .ge 31, 3) := by decide +kernel
theorem dX2_unload_15 : decode cX2_unload 15 = .ok (.iload_n 1, 1) := by decide +kernel
theorem dX2_unload_16 : decode cX2_unload 16 = .ok (.aload_n 0, 1) := by decide +kernel
theorem dX2_unload_17 : decode cX2_unload 17 = .ok (.getfield 21, 3) := by decide +kernel
theorem dX2_unload_20 : decode cX2_unload 20 = .ok (.getfield 84, 3) := by decide +kernel
theorem dX2_unload_23 : decode cX2_unload 23 = .ok (.iload_n 2, 1) := by decide +kernel
theorem dX2_unload_24 : decode cX2_unload 24 = .ok (.iaload, 1) := by decide +kernel
theorem dX2_unload_25 : decode cX2_unload 25 = .ok (.iadd, 1) := by decide +kernel
theorem dX2_unload_26 : decode cX2_unload 26 = .ok (.istore_n 1, 1) := by decide +kernel
theorem dX2_unload_27 : decode cX2_unload 27 = .ok (.aload_n 0, 1) := by decide +kernel
theorem dX2_unload_28 : decode cX2_unload 28 = .ok (.getfield 21, 3) := by decide +kernel
theorem dX2_unload_31 : decode cX2_unload 31 = .ok (.getfield 84, 3) := by decide +kernel
theorem dX2_unload_34 : decode cX2_unload 34 = .ok (.iload_n 2, 1) := by decide +kernel
theorem dX2_unload_35 : decode cX2_unload 35 = .ok (.iconst 0, 1) := by decide +kernel
theorem dX2_unload_36 : decode cX2_unload 36 = .ok (.iastore, 1) := by decide +kernel
theorem dX2_unload_37 : decode cX2_unload 37 = .ok (.iinc 2 1, 3) := by decide +kernel
theorem dX2_unload_40 : decode cX2_unload 40 = .ok (.goto (-36), 3) := by decide +kernel
theorem dX2_unload_43 : decode cX2_unload 43 = .ok (.iload_n 1, 1) := by decide +kernel
theorem dX2_unload_44 : decode cX2_unload 44 = .ok (.ireturn, 1) := by decide +kernel
theorem w_X2_unload_4 {l : Launch} {D : zDD} {b : Nat} (x1 x2 : Int32) (σ : zSg) (τ : zLm) {Q : Int32 → zSg → zLm → Prop} (h : ((σ 9 3) ≤ x2 → Q x1 σ τ) ∧ (¬ (σ 9 3) ≤ x2 → (vp_in x2 6 ∧ (∀ v2 : Int32, v2 = x1 + (σ 18 x2.toNatClampNeg) → vp_in x2 6 ∧ AI l D b M_X2_unload 0 G0 Q 4 [(0, .ref (b + 8)), (1, .int v2), (2, .int (x2 + 1))] [] G0 (st2 σ 18 x2.toNatClampNeg 0) τ)))) : AI l D b M_X2_unload 0 G0 Q 4 [(0, .ref (b + 8)), (1, .int x1), (2, .int x2)] [] G0 σ τ := by
  refine r_iload_n 2 dX2_unload_4 rfl rfl ?_
  refine r_aload_n 0 dX2_unload_5 rfl rfl ?_
  refine r_getR (j := 0) (by decide) (congrArg Prod.fst k0_8) c12_2 (by decide) rfl g0_8_0 tw_172 dX2_unload_6 ?_
  refine r_getI (j := 3) (by decide) (congrArg Prod.fst k0_9) c12_6 (by decide) rfl tw_72 dX2_unload_9 ?_
  refine r_icmp_ge (tgt := 43) dX2_unload_12 (by decide) (fun c1 => ?_) (fun c1 => ?_)
  · replace h := h.1 c1
    refine r_iload_n 1 dX2_unload_43 rfl rfl ?_
    exact r_iret rfl (Nat.le_refl _) (Nat.le_refl _) dX2_unload_44 ⟨rfl, rfl, rfl, _, rfl, h⟩
  · replace h := h.2 c1
    refine r_iload_n 1 dX2_unload_15 rfl rfl ?_
    refine r_aload_n 0 dX2_unload_16 rfl rfl ?_
    refine r_getR (j := 1) (by decide) (congrArg Prod.fst k0_8) c12_2 (by decide) rfl g0_8_1 tw_174 dX2_unload_17 ?_
    refine r_getR (j := 5) (by decide) (congrArg Prod.fst k0_14) c12_8 (by decide) rfl g0_14_5 tw_133 dX2_unload_20 ?_
    refine r_iload_n 2 dX2_unload_23 rfl rfl ?_
    refine r_iald (by decide) k0_18 dX2_unload_24 h.1 ?_
    replace h := h.2
    refine r_iadd dX2_unload_25 ?_
    refine r_nmI (fun v2 ev2 => ?_)
    replace h := h v2 ev2
    refine r_istore_n dX2_unload_26 rfl (by decide) rfl ?_
    refine r_aload_n 1 dX2_unload_27 rfl rfl ?_
    refine r_getR (j := 1) (by decide) (congrArg Prod.fst k0_8) c12_2 (by decide) rfl g0_8_1 tw_174 dX2_unload_28 ?_
    refine r_getR (j := 5) (by decide) (congrArg Prod.fst k0_14) c12_8 (by decide) rfl g0_14_5 tw_133 dX2_unload_31 ?_
    refine r_iload_n 2 dX2_unload_34 rfl rfl ?_
    refine r_iconst dX2_unload_35 ci_0 ?_
    refine r_iast (by decide) k0_18 dX2_unload_36 h.1 ?_
    replace h := h.2
    refine r_inc 2 dX2_unload_37 rfl ci_1 (by decide) rfl ?_
    refine r_goto (tgt := 4) dX2_unload_40 (by decide) ?_
    refine r_lv [2, 1, 0] rfl ?_
    exact h

theorem w_X2_unload_0 {l : Launch} {D : zDD} {b : Nat} (σ : zSg) (τ : zLm) {Q : Int32 → zSg → zLm → Prop} (h : AI l D b M_X2_unload 0 G0 Q 4 [(0, .ref (b + 8)), (1, .int 0), (2, .int 0)] [] G0 σ τ) : AI l D b M_X2_unload 0 G0 Q 0 [(0, .ref (b + 8))] [] G0 σ τ := by
  refine r_iconst dX2_unload_0 ci_0 ?_
  refine r_istore_n dX2_unload_1 rfl (by decide) rfl ?_
  refine r_iconst dX2_unload_2 ci_0 ?_
  refine r_istore_n dX2_unload_3 rfl (by decide) rfl ?_
  refine r_lv [2, 1, 0] rfl ?_
  exact h
theorem s_X2_unload {l : Launch} {D : zDD} {b : Nat} (σ : zSg) (τ : zLm) {Q : Int32 → zSg → zLm → Prop} (h : AI l D b M_X2_unload 0 G0 Q 4 [(0, .ref (b + 8)), (1, .int 0), (2, .int 0)] [] G0 σ τ) : SI l D b M_X2_unload 0 G0 [.ref (b + 8)] σ τ Q := zS.of (by decide) (Nat.le_of_ble_eq_true rfl) rfl (w_X2_unload_0 σ τ h)

theorem dX2_allGood_0 : decode cX2_allGood 0 = .ok (.iconst 0, 1) := by decide +kernel
theorem dX2_allGood_1 : decode cX2_allGood 1 = .ok (.istore_n 1, 1) := by decide +kernel
theorem dX2_allGood_2 : decode cX2_allGood 2 = .ok (.iconst 0, 1) := by decide +kernel
theorem dX2_allGood_3 : decode cX2_allGood 3 = .ok (.istore_n 2, 1) := by decide +kernel
theorem dX2_allGood_4 : decode cX2_allGood 4 = .ok (.iload_n 2, 1) := by decide +kernel
theorem dX2_allGood_5 : decode cX2_allGood 5 = .ok (.aload_n 0, 1) := by decide +kernel
theorem dX2_allGood_6 : decode cX2_allGood 6 = .ok (.getfield 12, 3) := by decide +kernel
theorem dX2_allGood_9 : decode cX2_allGood 9 = .ok (.getfield 39, 3) := by decide +kernel
theorem dX2_allGood_12 : decode cX2_allGood 12 = .ok (.if_icmp .ge 23, 3) := by decide +kernel
theorem dX2_allGood_15 : decode cX2_allGood 15 = .ok (.aload_n 0, 1) := by decide +kernel
theorem dX2_allGood_16 : decode cX2_allGood 16 = .ok (.iload_n 2, 1) := by decide +kernel
theorem dX2_allGood_17 : decode cX2_allGood 17 = .ok (.invokevirtual 50, 3) := by decide +kernel
theorem dX2_allGood_20 : decode cX2_allGood 20 = .ok (.ifCond .eq 9, 3) := by decide +kernel
theorem dX2_allGood_23 : decode cX2_allGood 23 = .ok (.iload_n 1, 1) := by decide +kernel
theorem dX2_allGood_24 : decode cX2_allGood 24 = .ok (.iconst 1, 1) := by decide +kernel
theorem dX2_allGood_25 : decode cX2_allGood 25 = .ok (.iload_n 2, 1) := by decide +kernel
theorem dX2_allGood_26 : decode cX2_allGood 26 = .ok (.ishl, 1) := by decide +kernel
theorem dX2_allGood_27 : decode cX2_allGood 27 = .ok (.ior, 1) := by decide +kernel
theorem dX2_allGood_28 : decode cX2_allGood 28 = .ok (.istore_n 1, 1) := by decide +kernel
theorem dX2_allGood_29 : decode cX2_allGood 29 = .ok (.iinc 2 1, 3) := by decide +kernel
theorem dX2_allGood_32 : decode cX2_allGood 32 = .ok (.goto (-28), 3) := by decide +kernel
theorem dX2_allGood_35 : decode cX2_allGood 35 = .ok (.iload_n 1, 1) := by decide +kernel
theorem dX2_allGood_36 : decode cX2_allGood 36 = .ok (.ireturn, 1) := by decide +kernel
theorem w_X2_allGood_4 {l : Launch} {D : zDD} {b : Nat} (x1 x2 : Int32) (σ : zSg) (τ : zLm) {Q : Int32 → zSg → zLm → Prop} (h : ((σ 9 2) ≤ x2 → Q x1 σ τ) ∧ (¬ (σ 9 2) ≤ x2 → (SI l D b M_X2_isGood 0 G0 [.ref (b + 8), .int x2] σ τ (fun r2 σ2 τ2 => (r2 = 0 → AI l D b M_X2_allGood 1 G0 Q 4 [(0, .ref (b + 8)), (1, .int x1), (2, .int (x2 + 1))] [] G0 σ2 τ2) ∧ (¬ r2 = 0 → (∀ v4 : Int32, v4 = x1 ||| ((1 : Int32) <<< (x2 &&& 31)) → AI l D b M_X2_allGood 1 G0 Q 4 [(0, .ref (b + 8)), (1, .int v4), (2, .int (x2 + 1))] [] G0 σ2 τ2)))))) : AI l D b M_X2_allGood 1 G0 Q 4 [(0, .ref (b + 8)), (1, .int x1), (2, .int x2)] [] G0 σ τ := by
  refine r_iload_n 2 dX2_allGood_4 rfl rfl ?_
  refine r_aload_n 0 dX2_allGood_5 rfl rfl ?_
  refine r_getR (j := 0) (by decide) (congrArg Prod.fst k0_8) c12_2 (by decide) rfl g0_8_0 tw_172 dX2_allGood_6 ?_
  refine r_getI (j := 2) (by decide) (congrArg Prod.fst k0_9) c12_6 (by decide) rfl tw_64 dX2_allGood_9 ?_
  refine r_icmp_ge (tgt := 35) dX2_allGood_12 (by decide) (fun c1 => ?_) (fun c1 => ?_)
  · replace h := h.1 c1
    refine r_iload_n 1 dX2_allGood_35 rfl rfl ?_
    exact r_iret rfl (Nat.le_refl _) (Nat.le_refl _) dX2_allGood_36 ⟨rfl, rfl, rfl, _, rfl, h⟩
  · replace h := h.2 c1
    refine r_aload_n 0 dX2_allGood_15 rfl rfl ?_
    refine r_iload_n 2 dX2_allGood_16 rfl rfl ?_
    refine rc_VI (h' := 0) [.int x2] okv_X2_isGood (by decide) (congrArg Prod.fst k0_8) tw_441 rfl rfl (Nat.le_of_ble_eq_true rfl) dX2_allGood_17 (by decide) h (fun r2 σ2 τ2 h => ?_)
    refine r_if_eq (tgt := 29) dX2_allGood_20 (by decide) (fun c3 => ?_) (fun c3 => ?_)
    · replace h := h.1 c3
      refine r_inc 2 dX2_allGood_29 rfl ci_1 (by decide) rfl ?_
      refine r_goto (tgt := 4) dX2_allGood_32 (by decide) ?_
      refine r_lv [1, 2, 0] rfl ?_
      exact h
    · replace h := h.2 c3
      refine r_iload_n 1 dX2_allGood_23 rfl rfl ?_
      refine r_iconst dX2_allGood_24 ci_1 ?_
      refine r_iload_n 2 dX2_allGood_25 rfl rfl ?_
      refine r_ishl dX2_allGood_26 ?_
      refine r_ior dX2_allGood_27 ?_
      refine r_nmI (fun v4 ev4 => ?_)
      replace h := h v4 ev4
      refine r_istore_n dX2_allGood_28 rfl (by decide) rfl ?_
      refine r_inc 2 dX2_allGood_29 rfl ci_1 (by decide) rfl ?_
      refine r_goto (tgt := 4) dX2_allGood_32 (by decide) ?_
      refine r_lv [2, 1, 0] rfl ?_
      exact h

theorem w_X2_allGood_0 {l : Launch} {D : zDD} {b : Nat} (σ : zSg) (τ : zLm) {Q : Int32 → zSg → zLm → Prop} (h : AI l D b M_X2_allGood 1 G0 Q 4 [(0, .ref (b + 8)), (1, .int 0), (2, .int 0)] [] G0 σ τ) : AI l D b M_X2_allGood 1 G0 Q 0 [(0, .ref (b + 8))] [] G0 σ τ := by
  refine r_iconst dX2_allGood_0 ci_0 ?_
  refine r_istore_n dX2_allGood_1 rfl (by decide) rfl ?_
  refine r_iconst dX2_allGood_2 ci_0 ?_
  refine r_istore_n dX2_allGood_3 rfl (by decide) rfl ?_
  refine r_lv [2, 1, 0] rfl ?_
  exact h
theorem s_X2_allGood {l : Launch} {D : zDD} {b : Nat} (σ : zSg) (τ : zLm) {Q : Int32 → zSg → zLm → Prop} (h : AI l D b M_X2_allGood 1 G0 Q 4 [(0, .ref (b + 8)), (1, .int 0), (2, .int 0)] [] G0 σ τ) : SI l D b M_X2_allGood 1 G0 [.ref (b + 8)] σ τ Q := zS.of (by decide) (Nat.le_of_ble_eq_true rfl) rfl (w_X2_allGood_0 σ τ h)

theorem dX2_freePots_0 : decode cX2_freePots 0 = .ok (.aload_n 0, 1) := by decide +kernel
theorem dX2_freePots_1 : decode cX2_freePots 1 = .ok (.getfield 12, 3) := by decide +kernel
theorem dX2_freePots_4 : decode cX2_freePots 4 = .ok (.getfield 70, 3) := by decide +kernel
theorem dX2_freePots_7 : decode cX2_freePots 7 = .ok (.aload_n 0, 1) := by decide +kernel
theorem dX2_freePots_8 : decode cX2_freePots 8 = .ok (.iconst 2, 1) := by decide +kernel
theorem dX2_freePots_9 : decode cX2_freePots 9 = .ok (.invokevirtual 73, 3) := by decide +kernel
theorem dX2_freePots_12 : decode cX2_freePots 12 = .ok (.invokestatic 76, 3) := by decide +kernel
theorem dX2_freePots_15 : decode cX2_freePots 15 = .ok (.isub, 1) := by decide +kernel
theorem dX2_freePots_16 : decode cX2_freePots 16 = .ok (.ireturn, 1) := by decide +kernel
theorem w_X2_freePots_0 {l : Launch} {D : zDD} {b : Nat} (σ : zSg) (τ : zLm) {Q : Int32 → zSg → zLm → Prop} (h : SI l D b M_X2_allThatAre 0 G0 [.ref (b + 8), .int 2] σ τ (fun r1 σ1 τ1 => SI l D b M_J6_bitCount_0f7a4 0 G0 [.int r1] σ1 τ1 (fun r2 σ2 τ2 => Q ((σ 9 1) - r2) σ2 τ2))) : AI l D b M_X2_freePots 1 G0 Q 0 [(0, .ref (b + 8))] [] G0 σ τ := by
  refine r_aload_n 0 dX2_freePots_0 rfl rfl ?_
  refine r_getR (j := 0) (by decide) (congrArg Prod.fst k0_8) c12_2 (by decide) rfl g0_8_0 tw_172 dX2_freePots_1 ?_
  refine r_getI (j := 1) (by decide) (congrArg Prod.fst k0_9) c12_6 (by decide) rfl tw_63 dX2_freePots_4 ?_
  refine r_aload_n 0 dX2_freePots_7 rfl rfl ?_
  refine r_iconst dX2_freePots_8 ci_2 ?_
  refine rc_VI (h' := 0) [.int 2] okv_X2_allThatAre (by decide) (congrArg Prod.fst k0_8) tw_609 rfl rfl (Nat.le_of_ble_eq_true rfl) dX2_freePots_9 (by decide) h (fun r1 σ1 τ1 h => ?_)
  refine rc_SI (h' := 0) [.int r1] oks_J6_bitCount_0f7a4 tw_553 rfl rfl (Nat.le_of_ble_eq_true rfl) dX2_freePots_12 (by decide) h (fun r2 σ2 τ2 h => ?_)
  refine r_isub dX2_freePots_15 ?_
  exact r_iret rfl (Nat.le_refl _) (Nat.le_refl _) dX2_freePots_16 ⟨rfl, rfl, rfl, _, rfl, h⟩
theorem s_X2_freePots {l : Launch} {D : zDD} {b : Nat} (σ : zSg) (τ : zLm) {Q : Int32 → zSg → zLm → Prop} (h : SI l D b M_X2_allThatAre 0 G0 [.ref (b + 8), .int 2] σ τ (fun r1 σ1 τ1 => SI l D b M_J6_bitCount_0f7a4 0 G0 [.int r1] σ1 τ1 (fun r2 σ2 τ2 => Q ((σ 9 1) - r2) σ2 τ2))) : SI l D b M_X2_freePots 1 G0 [.ref (b + 8)] σ τ Q := zS.of (by decide) (Nat.le_of_ble_eq_true rfl) rfl (w_X2_freePots_0 σ τ h)

theorem dX2_leftTogether_0 : decode cX2_leftTogether 0 = .ok (.iconst 0, 1) := by decide +kernel
theorem dX2_leftTogether_1 : decode cX2_leftTogether 1 = .ok (.istore_n 1, 1) := by decide +kernel
theorem dX2_leftTogether_2 : decode cX2_leftTogether 2 = .ok (.iconst 0, 1) := by decide +kernel
theorem dX2_leftTogether_3 : decode cX2_leftTogether 3 = .ok (.istore_n 2, 1) := by decide +kernel
theorem dX2_leftTogether_4 : decode cX2_leftTogether 4 = .ok (.iload_n 2, 1) := by decide +kernel
theorem dX2_leftTogether_5 : decode cX2_leftTogether 5 = .ok (.aload_n 0, 1) := by decide +kernel
theorem dX2_leftTogether_6 : decode cX2_leftTogether 6 = .ok (.getfield 12, 3) := by decide +kernel
theorem dX2_leftTogether_9 : decode cX2_leftTogether 9 = .ok (.getfield 87, 3) := by decide +kernel
theorem dX2_leftTogether_12 : decode cX2_leftTogether 12 = .ok (.if_icmp .ge 17, 3) := by decide +kernel
theorem dX2_leftTogether_15 : decode cX2_leftTogether 15 = .ok (.iload_n 1, 1) := by decide +kernel
theorem dX2_leftTogether_16 : decode cX2_leftTogether 16 = .ok (.aload_n 0, 1) := by decide +kernel
theorem dX2_leftTogether_17 : decode cX2_leftTogether 17 = .ok (.iload_n 2, 1) := by decide +kernel
theorem dX2_leftTogether_18 : decode cX2_leftTogether 18 = .ok (.invokevirtual 90, 3) := by decide +kernel
theorem dX2_leftTogether_21 : decode cX2_leftTogether 21 = .ok (.iadd, 1) := by decide +kernel
theorem dX2_leftTogether_22 : decode cX2_leftTogether 22 = .ok (.istore_n 1, 1) := by decide +kernel
theorem dX2_leftTogether_23 : decode cX2_leftTogether 23 = .ok (.iinc 2 1, 3) := by decide +kernel
theorem dX2_leftTogether_26 : decode cX2_leftTogether 26 = .ok (.goto (-22), 3) := by decide +kernel
theorem dX2_leftTogether_29 : decode cX2_leftTogether 29 = .ok (.iload_n 1, 1) := by decide +kernel
theorem dX2_leftTogether_30 : decode cX2_leftTogether 30 = .ok (.ireturn, 1) := by decide +kernel
theorem w_X2_leftTogether_4 {l : Launch} {D : zDD} {b : Nat} (x1 x2 : Int32) (σ : zSg) (τ : zLm) {Q : Int32 → zSg → zLm → Prop} (h : ((σ 9 3) ≤ x2 → Q x1 σ τ) ∧ (¬ (σ 9 3) ≤ x2 → SI l D b M_X2_leftOf 0 G0 [.ref (b + 8), .int x2] σ τ (fun r2 σ2 τ2 => AI l D b M_X2_leftTogether 1 G0 Q 4 [(0, .ref (b + 8)), (1, .int (x1 + r2)), (2, .int (x2 + 1))] [] G0 σ2 τ2))) : AI l D b M_X2_leftTogether 1 G0 Q 4 [(0, .ref (b + 8)), (1, .int x1), (2, .int x2)] [] G0 σ τ := by
  refine r_iload_n 2 dX2_leftTogether_4 rfl rfl ?_
  refine r_aload_n 0 dX2_leftTogether_5 rfl rfl ?_
  refine r_getR (j := 0) (by decide) (congrArg Prod.fst k0_8) c12_2 (by decide) rfl g0_8_0 tw_172 dX2_leftTogether_6 ?_
  refine r_getI (j := 3) (by decide) (congrArg Prod.fst k0_9) c12_6 (by decide) rfl tw_72 dX2_leftTogether_9 ?_
  refine r_icmp_ge (tgt := 29) dX2_leftTogether_12 (by decide) (fun c1 => ?_) (fun c1 => ?_)
  · replace h := h.1 c1
    refine r_iload_n 1 dX2_leftTogether_29 rfl rfl ?_
    exact r_iret rfl (Nat.le_refl _) (Nat.le_refl _) dX2_leftTogether_30 ⟨rfl, rfl, rfl, _, rfl, h⟩
  · replace h := h.2 c1
    refine r_iload_n 1 dX2_leftTogether_15 rfl rfl ?_
    refine r_aload_n 0 dX2_leftTogether_16 rfl rfl ?_
    refine r_iload_n 2 dX2_leftTogether_17 rfl rfl ?_
    refine rc_VI (h' := 0) [.int x2] okv_X2_leftOf (by decide) (congrArg Prod.fst k0_8) tw_449 rfl rfl (Nat.le_of_ble_eq_true rfl) dX2_leftTogether_18 (by decide) h (fun r2 σ2 τ2 h => ?_)
    refine r_iadd dX2_leftTogether_21 ?_
    refine r_istore_n dX2_leftTogether_22 rfl (by decide) rfl ?_
    refine r_inc 2 dX2_leftTogether_23 rfl ci_1 (by decide) rfl ?_
    refine r_goto (tgt := 4) dX2_leftTogether_26 (by decide) ?_
    refine r_lv [2, 1, 0] rfl ?_
    exact h

theorem w_X2_leftTogether_0 {l : Launch} {D : zDD} {b : Nat} (σ : zSg) (τ : zLm) {Q : Int32 → zSg → zLm → Prop} (h : AI l D b M_X2_leftTogether 1 G0 Q 4 [(0, .ref (b + 8)), (1, .int 0), (2, .int 0)] [] G0 σ τ) : AI l D b M_X2_leftTogether 1 G0 Q 0 [(0, .ref (b + 8))] [] G0 σ τ := by
  refine r_iconst dX2_leftTogether_0 ci_0 ?_
  refine r_istore_n dX2_leftTogether_1 rfl (by decide) rfl ?_
  refine r_iconst dX2_leftTogether_2 ci_0 ?_
  refine r_istore_n dX2_leftTogether_3 rfl (by decide) rfl ?_
  refine r_lv [2, 1, 0] rfl ?_
  exact h
theorem s_X2_leftTogether {l : Launch} {D : zDD} {b : Nat} (σ : zSg) (τ : zLm) {Q : Int32 → zSg → zLm → Prop} (h : AI l D b M_X2_leftTogether 1 G0 Q 4 [(0, .ref (b + 8)), (1, .int 0), (2, .int 0)] [] G0 σ τ) : SI l D b M_X2_leftTogether 1 G0 [.ref (b + 8)] σ τ Q := zS.of (by decide) (Nat.le_of_ble_eq_true rfl) rfl (w_X2_leftTogether_0 σ τ h)

theorem dX2_strongest_0 : decode cX2_strongest 0 = .ok (.iconst (-1), 1) := by decide +kernel
theorem dX2_strongest_1 : decode cX2_strongest 1 = .ok (.istore_n 1, 1) := by decide +kernel
theorem dX2_strongest_2 : decode cX2_strongest 2 = .ok (.iconst 0, 1) := by decide +kernel
theorem dX2_strongest_3 : decode cX2_strongest 3 = .ok (.istore_n 2, 1) := by decide +kernel
theorem dX2_strongest_4 : decode cX2_strongest 4 = .ok (.iload_n 2, 1) := by decide +kernel
theorem dX2_strongest_5 : decode cX2_strongest 5 = .ok (.aload_n 0, 1) := by decide +kernel
theorem dX2_strongest_6 : decode cX2_strongest 6 = .ok (.getfield 12, 3) := by decide +kernel
theorem dX2_strongest_9 : decode cX2_strongest 9 = .ok (.getfield 87, 3) := by decide +kernel
theorem dX2_strongest_12 : decode cX2_strongest 12 = .ok (.if_icmp .ge 29, 3) := by decide +kernel
theorem dX2_strongest_15 : decode cX2_strongest 15 = .ok (.iload_n 1, 1) := by decide +kernel
theorem dX2_strongest_16 : decode cX2_strongest 16 = .ok (.iconst (-1), 1) := by decide +kernel
theorem dX2_strongest_17 : decode cX2_strongest 17 = .ok (.if_icmp .eq 16, 3) := by decide +kernel
theorem dX2_strongest_20 : decode cX2_strongest 20 = .ok (.aload_n 0, 1) := by decide +kernel
theorem dX2_strongest_21 : decode cX2_strongest 21 = .ok (.iload_n 2, 1) := by decide +kernel
theorem dX2_strongest_22 : decode cX2_strongest 22 = .ok (.invokevirtual 90, 3) := by decide +kernel
theorem dX2_strongest_25 : decode cX2_strongest 25 = .ok (.aload_n 0, 1) := by decide +kernel
theorem dX2_strongest_26 : decode cX2_strongest 26 = .ok (.iload_n 1, 1) := by decide +kernel
theorem dX2_strongest_27 : decode cX2_strongest 27 = .ok (.invokevirtual 90, 3) := by decide +kernel
theorem dX2_strongest_30 : decode cX2_strongest 30 = .ok (.if_icmp .le 5, 3) := by decide +kernel
theorem dX2_strongest_33 : decode cX2_strongest 33 = .ok (.iload_n 2, 1) := by decide +kernel
theorem dX2_strongest_34 : decode cX2_strongest 34 = .ok (.istore_n 1, 1) := by decide +kernel
theorem dX2_strongest_35 : decode cX2_strongest 35 = .ok (.iinc 2 1, 3) := by decide +kernel
theorem dX2_strongest_38 : decode cX2_strongest 38 = .ok (.goto (-34), 3) := by decide +kernel
theorem dX2_strongest_41 : decode cX2_strongest 41 = .ok (.iload_n 1, 1) := by decide +kernel
theorem dX2_strongest_42 : decode cX2_strongest 42 = .ok (.ireturn, 1) := by decide +kernel
theorem w_X2_strongest_4 {l : Launch} {D : zDD} {b : Nat} (x1 x2 : Int32) (σ : zSg) (τ : zLm) {Q : Int32 → zSg → zLm → Prop} (h : ((σ 9 3) ≤ x2 → Q x1 σ τ) ∧ (¬ (σ 9 3) ≤ x2 → ((x1 = (-1) → AI l D b M_X2_strongest 1 G0 Q 4 [(0, .ref (b + 8)), (1, .int x2), (2, .int (x2 + 1))] [] G0 σ τ) ∧ (¬ x1 = (-1) → (SI l D b M_X2_leftOf 0 G0 [.ref (b + 8), .int x2] σ τ (fun r3 σ3 τ3 => SI l D b M_X2_leftOf 0 G0 [.ref (b + 8), .int x1] σ3 τ3 (fun r4 σ4 τ4 => (r3 ≤ r4 → AI l D b M_X2_strongest 1 G0 Q 4 [(0, .ref (b + 8)), (1, .int x1), (2, .int (x2 + 1))] [] G0 σ4 τ4) ∧ (¬ r3 ≤ r4 → AI l D b M_X2_strongest 1 G0 Q 4 [(0, .ref (b + 8)), (1, .int x2), (2, .int (x2 + 1))] [] G0 σ4 τ4)))))))) : AI l D b M_X2_strongest 1 G0 Q 4 [(0, .ref (b + 8)), (1, .int x1), (2, .int x2)] [] G0 σ τ := by
  refine r_iload_n 2 dX2_strongest_4 rfl rfl ?_
  refine r_aload_n 0 dX2_strongest_5 rfl rfl ?_
  refine r_getR (j := 0) (by decide) (congrArg Prod.fst k0_8) c12_2 (by decide) rfl g0_8_0 tw_172 dX2_strongest_6 ?_
  refine r_getI (j := 3) (by decide) (congrArg Prod.fst k0_9) c12_6 (by decide) rfl tw_72 dX2_strongest_9 ?_
  refine r_icmp_ge (tgt := 41) dX2_strongest_12 (by decide) (fun c1 => ?_) (fun c1 => ?_)
  · replace h := h.1 c1
    refine r_iload_n 1 dX2_strongest_41 rfl rfl ?_
    exact r_iret rfl (Nat.le_refl _) (Nat.le_refl _) dX2_strongest_42 ⟨rfl, rfl, rfl, _, rfl, h⟩
  · replace h := h.2 c1
    refine r_iload_n 1 dX2_strongest_15 rfl rfl ?_
    refine r_iconst dX2_strongest_16 ci_m1 ?_
    refine r_icmp_eq (tgt := 33) dX2_strongest_17 (by decide) (fun c2 => ?_) (fun c2 => ?_)
    · replace h := h.1 c2
      refine r_iload_n 2 dX2_strongest_33 rfl rfl ?_
      refine r_istore_n dX2_strongest_34 rfl (by decide) rfl ?_
      refine r_inc 2 dX2_strongest_35 rfl ci_1 (by decide) rfl ?_
      refine r_goto (tgt := 4) dX2_strongest_38 (by decide) ?_
      refine r_lv [2, 1, 0] rfl ?_
      exact h
    · replace h := h.2 c2
      refine r_aload_n 0 dX2_strongest_20 rfl rfl ?_
      refine r_iload_n 2 dX2_strongest_21 rfl rfl ?_
      refine rc_VI (h' := 0) [.int x2] okv_X2_leftOf (by decide) (congrArg Prod.fst k0_8) tw_449 rfl rfl (Nat.le_of_ble_eq_true rfl) dX2_strongest_22 (by decide) h (fun r3 σ3 τ3 h => ?_)
      refine r_aload_n 0 dX2_strongest_25 rfl rfl ?_
      refine r_iload_n 1 dX2_strongest_26 rfl rfl ?_
      refine rc_VI (h' := 0) [.int x1] okv_X2_leftOf (by decide) (congrArg Prod.fst k0_8) tw_449 rfl rfl (Nat.le_of_ble_eq_true rfl) dX2_strongest_27 (by decide) h (fun r4 σ4 τ4 h => ?_)
      refine r_icmp_le (tgt := 35) dX2_strongest_30 (by decide) (fun c5 => ?_) (fun c5 => ?_)
      · replace h := h.1 c5
        refine r_inc 2 dX2_strongest_35 rfl ci_1 (by decide) rfl ?_
        refine r_goto (tgt := 4) dX2_strongest_38 (by decide) ?_
        refine r_lv [1, 2, 0] rfl ?_
        exact h
      · replace h := h.2 c5
        refine r_iload_n 2 dX2_strongest_33 rfl rfl ?_
        refine r_istore_n dX2_strongest_34 rfl (by decide) rfl ?_
        refine r_inc 2 dX2_strongest_35 rfl ci_1 (by decide) rfl ?_
        refine r_goto (tgt := 4) dX2_strongest_38 (by decide) ?_
        refine r_lv [2, 1, 0] rfl ?_
        exact h

theorem w_X2_strongest_0 {l : Launch} {D : zDD} {b : Nat} (σ : zSg) (τ : zLm) {Q : Int32 → zSg → zLm → Prop} (h : AI l D b M_X2_strongest 1 G0 Q 4 [(0, .ref (b + 8)), (1, .int (-1)), (2, .int 0)] [] G0 σ τ) : AI l D b M_X2_strongest 1 G0 Q 0 [(0, .ref (b + 8))] [] G0 σ τ := by
  refine r_iconst dX2_strongest_0 ci_m1 ?_
  refine r_istore_n dX2_strongest_1 rfl (by decide) rfl ?_
  refine r_iconst dX2_strongest_2 ci_0 ?_
  refine r_istore_n dX2_strongest_3 rfl (by decide) rfl ?_
  refine r_lv [2, 1, 0] rfl ?_
  exact h
theorem s_X2_strongest {l : Launch} {D : zDD} {b : Nat} (σ : zSg) (τ : zLm) {Q : Int32 → zSg → zLm → Prop} (h : AI l D b M_X2_strongest 1 G0 Q 4 [(0, .ref (b + 8)), (1, .int (-1)), (2, .int 0)] [] G0 σ τ) : SI l D b M_X2_strongest 1 G0 [.ref (b + 8)] σ τ Q := zS.of (by decide) (Nat.le_of_ble_eq_true rfl) rfl (w_X2_strongest_0 σ τ h)

theorem dX2_weight_0 : decode cX2_weight 0 = .ok (.iconst 1, 1) := by decide +kernel
theorem dX2_weight_1 : decode cX2_weight 1 = .ok (.aload_n 0, 1) := by decide +kernel
theorem dX2_weight_2 : decode cX2_weight 2 = .ok (.getfield 21, 3) := by decide +kernel
theorem dX2_weight_5 : decode cX2_weight 5 = .ok (.getfield 54, 3) := by decide +kernel
theorem dX2_weight_8 : decode cX2_weight 8 = .ok (.iload_n 1, 1) := by decide +kernel
theorem dX2_weight_9 : decode cX2_weight 9 = .ok (.iaload, 1) := by decide +kernel
theorem dX2_weight_10 : decode cX2_weight 10 = .ok (.invokestatic 76, 3) := by decide +kernel
theorem dX2_weight_13 : decode cX2_weight 13 = .ok (.invokestatic 93, 3) := by decide +kernel
theorem dX2_weight_16 : decode cX2_weight 16 = .ok (.ireturn, 1) := by decide +kernel
theorem w_X2_weight_0 {l : Launch} {D : zDD} {b : Nat} (p1 : Int32) (σ : zSg) (τ : zLm) {Q : Int32 → zSg → zLm → Prop} (h : vp_in p1 6 ∧ SI l D b M_J6_bitCount_0f7a4 0 G0 [.int (σ 17 p1.toNatClampNeg)] σ τ (fun r1 σ1 τ1 => Q (mx 1 r1) σ1 τ1)) : AI l D b M_X2_weight 1 G0 Q 0 [(0, .ref (b + 8)), (1, .int p1)] [] G0 σ τ := by
  refine r_iconst dX2_weight_0 ci_1 ?_
  refine r_aload_n 0 dX2_weight_1 rfl rfl ?_
  refine r_getR (j := 1) (by decide) (congrArg Prod.fst k0_8) c12_2 (by decide) rfl g0_8_1 tw_174 dX2_weight_2 ?_
  refine r_getR (j := 4) (by decide) (congrArg Prod.fst k0_14) c12_8 (by decide) rfl g0_14_4 tw_128 dX2_weight_5 ?_
  refine r_iload_n 1 dX2_weight_8 rfl rfl ?_
  refine r_iald (by decide) k0_17 dX2_weight_9 h.1 ?_
  replace h := h.2
  refine rc_SI (h' := 0) [.int (σ 17 p1.toNatClampNeg)] oks_J6_bitCount_0f7a4 tw_553 rfl rfl (Nat.le_of_ble_eq_true rfl) dX2_weight_10 (by decide) h (fun r1 σ1 τ1 h => ?_)
  refine r_max tw_554 dX2_weight_13 (by decide) (Nat.le_of_ble_eq_true rfl) (Nat.le_refl _) (Nat.le_refl _) ?_
  exact r_iret rfl (Nat.le_refl _) (Nat.le_refl _) dX2_weight_16 ⟨rfl, rfl, rfl, _, rfl, h⟩
theorem s_X2_weight {l : Launch} {D : zDD} {b : Nat} (p1 : Int32) (σ : zSg) (τ : zLm) {Q : Int32 → zSg → zLm → Prop} (h : vp_in p1 6 ∧ SI l D b M_J6_bitCount_0f7a4 0 G0 [.int (σ 17 p1.toNatClampNeg)] σ τ (fun r1 σ1 τ1 => Q (mx 1 r1) σ1 τ1)) : SI l D b M_X2_weight 1 G0 [.ref (b + 8), .int p1] σ τ Q := zS.of (by decide) (Nat.le_of_ble_eq_true rfl) rfl (w_X2_weight_0 p1 σ τ h)

theorem dX2_softenedBy_0 : decode cX2_softenedBy 0 = .ok (.aload_n 0, 1) := by decide +kernel
theorem dX2_softenedBy_1 : decode cX2_softenedBy 1 = .ok (.getfield 12, 3) := by decide +kernel
theorem dX2_softenedBy_4 : decode cX2_softenedBy 4 = .ok (.getfield 109, 3) := by decide +kernel
theorem dX2_softenedBy_7 : decode cX2_softenedBy 7 = .ok (.iload_n 1, 1) := by decide +kernel
theorem dX2_softenedBy_8 : decode cX2_softenedBy 8 = .ok (.iaload, 1) := by decide +kernel
theorem dX2_softenedBy_9 : decode cX2_softenedBy 9 = .ok (.lookupswitch 64 #[(1, 27), (2, 37)], 27) := by decide +kernel
theorem dX2_softenedBy_36 : decode cX2_softenedBy 36 = .ok (.aload_n 0, 1) := by decide +kernel
theorem dX2_softenedBy_37 : decode cX2_softenedBy 37 = .ok (.getfield 12, 3) := by decide +kernel
theorem dX2_softenedBy_40 : decode cX2_softenedBy 40 = .ok (.getfield 112, 3) := by decide +kernel
theorem dX2_softenedBy_43 : decode cX2_softenedBy 43 = .ok (.iconst 2, 1) := by decide +kernel
theorem dX2_softenedBy_44 : decode cX2_softenedBy 44 = .ok (.idiv, 1) := by decide +kernel
theorem dX2_softenedBy_45 : decode cX2_softenedBy 45 = .ok (.ireturn, 1) := by decide +kernel
theorem dX2_softenedBy_46 : decode cX2_softenedBy 46 = .ok (.iconst 0, 1) := by decide +kernel
theorem dX2_softenedBy_47 : decode cX2_softenedBy 47 = .ok (.aload_n 0, 1) := by decide +kernel
theorem dX2_softenedBy_48 : decode cX2_softenedBy 48 = .ok (.getfield 12, 3) := by decide +kernel
theorem dX2_softenedBy_51 : decode cX2_softenedBy 51 = .ok (.getfield 112, 3) := by decide +kernel
theorem dX2_softenedBy_54 : decode cX2_softenedBy 54 = .ok (.aload_n 0, 1) := by decide +kernel
theorem dX2_softenedBy_55 : decode cX2_softenedBy 55 = .ok (.getfield 21, 3) := by decide +kernel
theorem dX2_softenedBy_58 : decode cX2_softenedBy 58 = .ok (.getfield 54, 3) := by decide +kernel
theorem dX2_softenedBy_61 : decode cX2_softenedBy 61 = .ok (.iload_n 1, 1) := by decide +kernel
theorem dX2_softenedBy_62 : decode cX2_softenedBy 62 = .ok (.iaload, 1) := by decide +kernel
theorem dX2_softenedBy_63 : decode cX2_softenedBy 63 = .ok (.invokestatic 76, 3) := by decide +kernel
theorem dX2_softenedBy_66 : decode cX2_softenedBy 66 = .ok (.iconst 5, 1) := by decide +kernel
theorem dX2_softenedBy_67 : decode cX2_softenedBy 67 = .ok (.idiv, 1) := by decide +kernel
theorem dX2_softenedBy_68 : decode cX2_softenedBy 68 = .ok (.isub, 1) := by decide +kernel
theorem dX2_softenedBy_69 : decode cX2_softenedBy 69 = .ok (.invokestatic 93, 3) := by decide +kernel
theorem dX2_softenedBy_72 : decode cX2_softenedBy 72 = .ok (.ireturn, 1) := by decide +kernel
theorem dX2_softenedBy_73 : decode cX2_softenedBy 73 = .ok (.aload_n 0, 1) := by decide +kernel
theorem dX2_softenedBy_74 : decode cX2_softenedBy 74 = .ok (.getfield 12, 3) := by decide +kernel
theorem dX2_softenedBy_77 : decode cX2_softenedBy 77 = .ok (.getfield 112, 3) := by decide +kernel
theorem dX2_softenedBy_80 : decode cX2_softenedBy 80 = .ok (.ireturn, 1) := by decide +kernel
theorem w_X2_softenedBy_0 {l : Launch} {D : zDD} {b : Nat} (p1 : Int32) (σ : zSg) (τ : zLm) {Q : Int32 → zSg → zLm → Prop} (h : vp_in p1 6 ∧ (((σ 10 p1.toNatClampNeg) = 1 → Q ((σ 9 0) / 2) σ τ) ∧ (¬ (σ 10 p1.toNatClampNeg) = 1 → (((σ 10 p1.toNatClampNeg) = 2 → (vp_in p1 6 ∧ SI l D b M_J6_bitCount_0f7a4 0 G0 [.int (σ 17 p1.toNatClampNeg)] σ τ (fun r3 σ3 τ3 => Q (mx 0 ((σ 9 0) - (r3 / 5))) σ3 τ3))) ∧ (¬ (σ 10 p1.toNatClampNeg) = 2 → Q (σ 9 0) σ τ))))) : AI l D b M_X2_softenedBy 1 G0 Q 0 [(0, .ref (b + 8)), (1, .int p1)] [] G0 σ τ := by
  refine r_aload_n 0 dX2_softenedBy_0 rfl rfl ?_
  refine r_getR (j := 0) (by decide) (congrArg Prod.fst k0_8) c12_2 (by decide) rfl g0_8_0 tw_172 dX2_softenedBy_1 ?_
  refine r_getR (j := 4) (by decide) (congrArg Prod.fst k0_9) c12_6 (by decide) rfl g0_9_4 tw_75 dX2_softenedBy_4 ?_
  refine r_iload_n 1 dX2_softenedBy_7 rfl rfl ?_
  refine r_iald (by decide) k0_10 dX2_softenedBy_8 h.1 ?_
  replace h := h.2
  by_cases c1 : (σ 10 p1.toNatClampNeg) = 1
  · replace h := h.1 c1
    refine r_lookup (tgt := 36) (off := 27) dX2_softenedBy_9 (by decide) (by rw [c1]; decide) (by decide) ?_
    refine r_aload_n 0 dX2_softenedBy_36 rfl rfl ?_
    refine r_getR (j := 0) (by decide) (congrArg Prod.fst k0_8) c12_2 (by decide) rfl g0_8_0 tw_172 dX2_softenedBy_37 ?_
    refine r_getI (j := 0) (by decide) (congrArg Prod.fst k0_9) c12_6 (by decide) rfl tw_59 dX2_softenedBy_40 ?_
    refine r_iconst dX2_softenedBy_43 ci_2 ?_
    refine r_idiv dX2_softenedBy_44 (by decide) ?_
    exact r_iret rfl (Nat.le_refl _) (Nat.le_refl _) dX2_softenedBy_45 ⟨rfl, rfl, rfl, _, rfl, h⟩
  · replace h := h.2 c1
    by_cases c2 : (σ 10 p1.toNatClampNeg) = 2
    · replace h := h.1 c2
      refine r_lookup (tgt := 46) (off := 37) dX2_softenedBy_9 (by decide) (by rw [c2]; decide) (by decide) ?_
      refine r_iconst dX2_softenedBy_46 ci_0 ?_
      refine r_aload_n 0 dX2_softenedBy_47 rfl rfl ?_
      refine r_getR (j := 0) (by decide) (congrArg Prod.fst k0_8) c12_2 (by decide) rfl g0_8_0 tw_172 dX2_softenedBy_48 ?_
      refine r_getI (j := 0) (by decide) (congrArg Prod.fst k0_9) c12_6 (by decide) rfl tw_59 dX2_softenedBy_51 ?_
      refine r_aload_n 0 dX2_softenedBy_54 rfl rfl ?_
      refine r_getR (j := 1) (by decide) (congrArg Prod.fst k0_8) c12_2 (by decide) rfl g0_8_1 tw_174 dX2_softenedBy_55 ?_
      refine r_getR (j := 4) (by decide) (congrArg Prod.fst k0_14) c12_8 (by decide) rfl g0_14_4 tw_128 dX2_softenedBy_58 ?_
      refine r_iload_n 1 dX2_softenedBy_61 rfl rfl ?_
      refine r_iald (by decide) k0_17 dX2_softenedBy_62 h.1 ?_
      replace h := h.2
      refine rc_SI (h' := 0) [.int (σ 17 p1.toNatClampNeg)] oks_J6_bitCount_0f7a4 tw_553 rfl rfl (Nat.le_of_ble_eq_true rfl) dX2_softenedBy_63 (by decide) h (fun r3 σ3 τ3 h => ?_)
      refine r_iconst dX2_softenedBy_66 ci_5 ?_
      refine r_idiv dX2_softenedBy_67 (by decide) ?_
      refine r_isub dX2_softenedBy_68 ?_
      refine r_max tw_554 dX2_softenedBy_69 (by decide) (Nat.le_of_ble_eq_true rfl) (Nat.le_refl _) (Nat.le_refl _) ?_
      exact r_iret rfl (Nat.le_refl _) (Nat.le_refl _) dX2_softenedBy_72 ⟨rfl, rfl, rfl, _, rfl, h⟩
    · replace h := h.2 c2
      refine r_lookup (tgt := 73) (off := 64) dX2_softenedBy_9 (by decide) ((lv_osw c1 rfl).trans ((lv_osw c2 rfl).trans (rfl))) (by decide) ?_
      refine r_aload_n 0 dX2_softenedBy_73 rfl rfl ?_
      refine r_getR (j := 0) (by decide) (congrArg Prod.fst k0_8) c12_2 (by decide) rfl g0_8_0 tw_172 dX2_softenedBy_74 ?_
      refine r_getI (j := 0) (by decide) (congrArg Prod.fst k0_9) c12_6 (by decide) rfl tw_59 dX2_softenedBy_77 ?_
      exact r_iret rfl (Nat.le_refl _) (Nat.le_refl _) dX2_softenedBy_80 ⟨rfl, rfl, rfl, _, rfl, h⟩
theorem s_X2_softenedBy {l : Launch} {D : zDD} {b : Nat} (p1 : Int32) (σ : zSg) (τ : zLm) {Q : Int32 → zSg → zLm → Prop} (h : vp_in p1 6 ∧ (((σ 10 p1.toNatClampNeg) = 1 → Q ((σ 9 0) / 2) σ τ) ∧ (¬ (σ 10 p1.toNatClampNeg) = 1 → (((σ 10 p1.toNatClampNeg) = 2 → (vp_in p1 6 ∧ SI l D b M_J6_bitCount_0f7a4 0 G0 [.int (σ 17 p1.toNatClampNeg)] σ τ (fun r3 σ3 τ3 => Q (mx 0 ((σ 9 0) - (r3 / 5))) σ3 τ3))) ∧ (¬ (σ 10 p1.toNatClampNeg) = 2 → Q (σ 9 0) σ τ))))) : SI l D b M_X2_softenedBy 1 G0 [.ref (b + 8), .int p1] σ τ Q := zS.of (by decide) (Nat.le_of_ble_eq_true rfl) rfl (w_X2_softenedBy_0 p1 σ τ h)

theorem dX2_isBearable_0 : decode cX2_isBearable 0 = .ok (.aload_n 0, 1) := by decide +kernel
theorem dX2_isBearable_1 : decode cX2_isBearable 1 = .ok (.iload_n 1, 1) := by decide +kernel
theorem dX2_isBearable_2 : decode cX2_isBearable 2 = .ok (.invokevirtual 96, 3) := by decide +kernel
theorem dX2_isBearable_5 : decode cX2_isBearable 5 = .ok (.aload_n 0, 1) := by decide +kernel
theorem dX2_isBearable_6 : decode cX2_isBearable 6 = .ok (.invokevirtual 99, 3) := by decide +kernel
theorem dX2_isBearable_9 : decode cX2_isBearable 9 = .ok (.if_icmp .gt 7, 3) := by decide +kernel
theorem dX2_isBearable_12 : decode cX2_isBearable 12 = .ok (.iconst 1, 1) := by decide +kernel
theorem dX2_isBearable_13 : decode cX2_isBearable 13 = .ok (.goto 4, 3) := by decide +kernel
theorem dX2_isBearable_16 : decode cX2_isBearable 16 = .ok (.iconst 0, 1) := by decide +kernel
theorem dX2_isBearable_17 : decode cX2_isBearable 17 = .ok (.ireturn, 1) := by decide +kernel
theorem w_X2_isBearable_0 {l : Launch} {D : zDD} {b : Nat} (p1 : Int32) (σ : zSg) (τ : zLm) {Q : Int32 → zSg → zLm → Prop} (h : SI l D b M_X2_weight 1 G0 [.ref (b + 8), .int p1] σ τ (fun r1 σ1 τ1 => SI l D b M_X2_leftTogether 1 G0 [.ref (b + 8)] σ1 τ1 (fun r2 σ2 τ2 => (r2 < r1 → Q 0 σ2 τ2) ∧ (¬ r2 < r1 → Q 1 σ2 τ2)))) : AI l D b M_X2_isBearable 2 G0 Q 0 [(0, .ref (b + 8)), (1, .int p1)] [] G0 σ τ := by
  refine r_aload_n 0 dX2_isBearable_0 rfl rfl ?_
  refine r_iload_n 1 dX2_isBearable_1 rfl rfl ?_
  refine rc_VI (h' := 1) [.int p1] okv_X2_weight (by decide) (congrArg Prod.fst k0_8) tw_549 rfl rfl (Nat.le_of_ble_eq_true rfl) dX2_isBearable_2 (by decide) h (fun r1 σ1 τ1 h => ?_)
  refine r_aload_n 0 dX2_isBearable_5 rfl rfl ?_
  refine rc_VI (h' := 1) [] okv_X2_leftTogether (by decide) (congrArg Prod.fst k0_8) tw_555 rfl rfl (Nat.le_of_ble_eq_true rfl) dX2_isBearable_6 (by decide) h (fun r2 σ2 τ2 h => ?_)
  refine r_icmp_gt (tgt := 16) dX2_isBearable_9 (by decide) (fun c3 => ?_) (fun c3 => ?_)
  · replace h := h.1 c3
    refine r_iconst dX2_isBearable_16 ci_0 ?_
    exact r_zret rfl (Nat.le_refl _) (Nat.le_refl _) dX2_isBearable_17 (Or.inl rfl) ⟨rfl, rfl, rfl, _, rfl, h⟩
  · replace h := h.2 c3
    refine r_iconst dX2_isBearable_12 ci_1 ?_
    refine r_goto (tgt := 17) dX2_isBearable_13 (by decide) ?_
    exact r_zret rfl (Nat.le_refl _) (Nat.le_refl _) dX2_isBearable_17 (Or.inr rfl) ⟨rfl, rfl, rfl, _, rfl, h⟩
theorem s_X2_isBearable {l : Launch} {D : zDD} {b : Nat} (p1 : Int32) (σ : zSg) (τ : zLm) {Q : Int32 → zSg → zLm → Prop} (h : SI l D b M_X2_weight 1 G0 [.ref (b + 8), .int p1] σ τ (fun r1 σ1 τ1 => SI l D b M_X2_leftTogether 1 G0 [.ref (b + 8)] σ1 τ1 (fun r2 σ2 τ2 => (r2 < r1 → Q 0 σ2 τ2) ∧ (¬ r2 < r1 → Q 1 σ2 τ2)))) : SI l D b M_X2_isBearable 2 G0 [.ref (b + 8), .int p1] σ τ Q := zS.of (by decide) (Nat.le_of_ble_eq_true rfl) rfl (w_X2_isBearable_0 p1 σ τ h)

theorem dX2_shareOut_0 : decode cX2_shareOut 0 = .ok (.aload_n 0, 1) := by decide +kernel
theorem dX2_shareOut_1 : decode cX2_shareOut 1 = .ok (.iload_n 1, 1) := by decide +kernel
theorem dX2_shareOut_2 : decode cX2_shareOut 2 = .ok (.invokevirtual 96, 3) := by decide +kernel
theorem dX2_shareOut_5 : decode cX2_shareOut 5 = .ok (.istore_n 2, 1) := by decide +kernel
theorem dX2_shareOut_6 : decode cX2_shareOut 6 = .ok (.iconst 0, 1) := by decide +kernel
theorem dX2_shareOut_7 : decode cX2_shareOut 7 = .ok (.istore_n 3, 1) := by decide +kernel
theorem dX2_shareOut_8 : decode cX2_shareOut 8 = .ok (.iload_n 3, 1) := by decide +kernel
theorem dX2_shareOut_9 : decode cX2_shareOut 9 = .ok (.iload_n 2, 1) := by decide +kernel
theorem dX2_shareOut_10 : decode cX2_shareOut 10 = .ok (.if_icmp .ge 35, 3) := by decide +kernel
theorem dX2_shareOut_13 : decode cX2_shareOut 13 = .ok (.aload_n 0, 1) := by decide +kernel
theorem dX2_shareOut_14 : decode cX2_shareOut 14 = .ok (.invokevirtual 106, 3) := by decide +kernel
theorem dX2_shareOut_17 : decode cX2_shareOut 17 = .ok (.istore 4, 2) := by decide +kernel
theorem dX2_shareOut_19 : decode cX2_shareOut 19 = .ok (.iload 4, 2) := by decide +kernel
theorem dX2_shareOut_21 : decode cX2_shareOut 21 = .ok (.iconst (-1), 1) := by decide +kernel
theorem dX2_shareOut_22 : decode cX2_shareOut 22 = .ok (.if_icmp .eq 17, 3) := by decide +kernel
theorem dX2_shareOut_25 : decode cX2_shareOut 25 = .ok (.aload_n 0, 1) := by decide +kernel
theorem dX2_shareOut_26 : decode cX2_shareOut 26 = .ok (.getfield 21, 3) := by decide +kernel
theorem dX2_shareOut_29 : decode cX2_shareOut 29 = .ok (.getfield 84, 3) := by decide +kernel
theorem dX2_shareOut_32 : decode cX2_shareOut 32 = .ok (.iload 4, 2) := by decide +kernel
theorem dX2_shareOut_34 : decode cX2_shareOut 34 = .ok (.dup2, 1) := by decide +kernel
theorem dX2_shareOut_35 : decode cX2_shareOut 35 = .ok (.iaload, 1) := by decide +kernel
theorem dX2_shareOut_36 : decode cX2_shareOut 36 = .ok (.iconst 1, 1) := by decide +kernel
theorem dX2_shareOut_37 : decode cX2_shareOut 37 = .ok (.iadd, 1) := by decide +kernel
theorem dX2_shareOut_38 : decode cX2_shareOut 38 = .ok (.iastore, 1) := by decide +kernel
theorem dX2_shareOut_39 : decode cX2_shareOut 39 = .ok (.iinc 3 1, 3) := by decide +kernel
theorem dX2_shareOut_42 : decode cX2_shareOut 42 = .ok (.goto (-34), 3) := by decide +kernel
theorem dX2_shareOut_45 : decode cX2_shareOut 45 = .ok (.aload_n 0, 1) := by decide +kernel
theorem dX2_shareOut_46 : decode cX2_shareOut 46 = .ok (.getfield 21, 3) := by decide +kernel
theorem dX2_shareOut_49 : decode cX2_shareOut 49 = .ok (.getfield 43, 3) := by decide +kernel
theorem dX2_shareOut_52 : decode cX2_shareOut 52 = .ok (.iload_n 1, 1) := by decide +kernel
theorem dX2_shareOut_53 : decode cX2_shareOut 53 = .ok (.iconst 3, 1) := by decide +kernel
theorem dX2_shareOut_54 : decode cX2_shareOut 54 = .ok (.iastore, 1) := by decide +kernel
theorem dX2_shareOut_55 : decode cX2_shareOut 55 = .ok (.return_, 1) := by decide +kernel
theorem w_X2_shareOut_8 {l : Launch} {D : zDD} {b : Nat} (x1 x2 x3 : Int32) (σ : zSg) (τ : zLm) {Q : zSg → zLm → Prop} (h : (x2 ≤ x3 → (vp_in x1 6 ∧ Q (st2 σ 15 x1.toNatClampNeg 3) τ)) ∧ (¬ x2 ≤ x3 → (SI l D b M_X2_strongest 1 G0 [.ref (b + 8)] σ τ (fun r2 σ2 τ2 => (r2 = (-1) → AV l D b M_X2_shareOut 2 G0 Q 8 [(0, .ref (b + 8)), (1, .int x1), (2, .int x2), (3, .int (x3 + 1))] [] G0 σ2 τ2) ∧ (¬ r2 = (-1) → (vp_in r2 6 ∧ (vp_in r2 6 ∧ AV l D b M_X2_shareOut 2 G0 Q 8 [(0, .ref (b + 8)), (1, .int x1), (2, .int x2), (3, .int (x3 + 1))] [] G0 (st2 σ2 18 r2.toNatClampNeg ((σ2 18 r2.toNatClampNeg) + 1)) τ2))))))) : AV l D b M_X2_shareOut 2 G0 Q 8 [(0, .ref (b + 8)), (1, .int x1), (2, .int x2), (3, .int x3)] [] G0 σ τ := by
  refine r_iload_n 3 dX2_shareOut_8 rfl rfl ?_
  refine r_iload_n 2 dX2_shareOut_9 rfl rfl ?_
  refine r_icmp_ge (tgt := 45) dX2_shareOut_10 (by decide) (fun c1 => ?_) (fun c1 => ?_)
  · replace h := h.1 c1
    refine r_aload_n 0 dX2_shareOut_45 rfl rfl ?_
    refine r_getR (j := 1) (by decide) (congrArg Prod.fst k0_8) c12_2 (by decide) rfl g0_8_1 tw_174 dX2_shareOut_46 ?_
    refine r_getR (j := 2) (by decide) (congrArg Prod.fst k0_14) c12_8 (by decide) rfl g0_14_2 tw_121 dX2_shareOut_49 ?_
    refine r_iload_n 1 dX2_shareOut_52 rfl rfl ?_
    refine r_iconst dX2_shareOut_53 ci_3 ?_
    refine r_iast (by decide) k0_15 dX2_shareOut_54 h.1 ?_
    replace h := h.2
    exact r_vret rfl (Nat.le_refl _) (Nat.le_refl _) dX2_shareOut_55 ⟨rfl, rfl, rfl, rfl, h⟩
  · replace h := h.2 c1
    refine r_aload_n 0 dX2_shareOut_13 rfl rfl ?_
    refine rc_VI (h' := 1) [] okv_X2_strongest (by decide) (congrArg Prod.fst k0_8) tw_648 rfl rfl (Nat.le_of_ble_eq_true rfl) dX2_shareOut_14 (by decide) h (fun r2 σ2 τ2 h => ?_)
    refine r_istore dX2_shareOut_17 (by decide) rfl ?_
    refine r_iload 0 dX2_shareOut_19 rfl ?_
    refine r_iconst dX2_shareOut_21 ci_m1 ?_
    refine r_icmp_eq (tgt := 39) dX2_shareOut_22 (by decide) (fun c3 => ?_) (fun c3 => ?_)
    · replace h := h.1 c3
      refine r_inc 4 dX2_shareOut_39 rfl ci_1 (by decide) rfl ?_
      refine r_goto (tgt := 8) dX2_shareOut_42 (by decide) ?_
      refine r_lv [2, 3, 4, 0] rfl ?_
      exact h
    · replace h := h.2 c3
      refine r_aload_n 1 dX2_shareOut_25 rfl rfl ?_
      refine r_getR (j := 1) (by decide) (congrArg Prod.fst k0_8) c12_2 (by decide) rfl g0_8_1 tw_174 dX2_shareOut_26 ?_
      refine r_getR (j := 5) (by decide) (congrArg Prod.fst k0_14) c12_8 (by decide) rfl g0_14_5 tw_133 dX2_shareOut_29 ?_
      refine r_iload 0 dX2_shareOut_32 rfl ?_
      refine r_dup2 dX2_shareOut_34 rfl rfl ?_
      refine r_iald (by decide) k0_18 dX2_shareOut_35 h.1 ?_
      replace h := h.2
      refine r_iconst dX2_shareOut_36 ci_1 ?_
      refine r_iadd dX2_shareOut_37 ?_
      refine r_iast (by decide) k0_18 dX2_shareOut_38 h.1 ?_
      replace h := h.2
      refine r_inc 4 dX2_shareOut_39 rfl ci_1 (by decide) rfl ?_
      refine r_goto (tgt := 8) dX2_shareOut_42 (by decide) ?_
      refine r_lv [2, 3, 4, 0] rfl ?_
      exact h

theorem w_X2_shareOut_0 {l : Launch} {D : zDD} {b : Nat} (p1 : Int32) (σ : zSg) (τ : zLm) {Q : zSg → zLm → Prop} (h : SI l D b M_X2_weight 1 G0 [.ref (b + 8), .int p1] σ τ (fun r1 σ1 τ1 => AV l D b M_X2_shareOut 2 G0 Q 8 [(0, .ref (b + 8)), (1, .int p1), (2, .int r1), (3, .int 0)] [] G0 σ1 τ1)) : AV l D b M_X2_shareOut 2 G0 Q 0 [(0, .ref (b + 8)), (1, .int p1)] [] G0 σ τ := by
  refine r_aload_n 0 dX2_shareOut_0 rfl rfl ?_
  refine r_iload_n 1 dX2_shareOut_1 rfl rfl ?_
  refine rc_VI (h' := 1) [.int p1] okv_X2_weight (by decide) (congrArg Prod.fst k0_8) tw_549 rfl rfl (Nat.le_of_ble_eq_true rfl) dX2_shareOut_2 (by decide) h (fun r1 σ1 τ1 h => ?_)
  refine r_istore_n dX2_shareOut_5 rfl (by decide) rfl ?_
  refine r_iconst dX2_shareOut_6 ci_0 ?_
  refine r_istore_n dX2_shareOut_7 rfl (by decide) rfl ?_
  refine r_lv [2, 3, 1, 0] rfl ?_
  exact h
theorem s_X2_shareOut {l : Launch} {D : zDD} {b : Nat} (p1 : Int32) (σ : zSg) (τ : zLm) {Q : zSg → zLm → Prop} (h : SI l D b M_X2_weight 1 G0 [.ref (b + 8), .int p1] σ τ (fun r1 σ1 τ1 => AV l D b M_X2_shareOut 2 G0 Q 8 [(0, .ref (b + 8)), (1, .int p1), (2, .int r1), (3, .int 0)] [] G0 σ1 τ1)) : SV l D b M_X2_shareOut 2 G0 [.ref (b + 8), .int p1] σ τ Q := zS.of (by decide) (Nat.le_of_ble_eq_true rfl) rfl (w_X2_shareOut_0 p1 σ τ h)

theorem dX2_hardBehind_0 : decode cX2_hardBehind 0 = .ok (.iload_n 2, 1) := by decide +kernel
theorem dX2_hardBehind_1 : decode cX2_hardBehind 1 = .ok (.istore_n 3, 1) := by decide +kernel
theorem dX2_hardBehind_2 : decode cX2_hardBehind 2 = .ok (.aload_n 0, 1) := by decide +kernel
theorem dX2_hardBehind_3 : decode cX2_hardBehind 3 = .ok (.getfield 12, 3) := by decide +kernel
theorem dX2_hardBehind_6 : decode cX2_hardBehind 6 = .ok (.getfield 109, 3) := by decide +kernel
theorem dX2_hardBehind_9 : decode cX2_hardBehind 9 = .ok (.iload_n 1, 1) := by decide +kernel
theorem dX2_hardBehind_10 : decode cX2_hardBehind 10 = .ok (.iaload, 1) := by decide +kernel
theorem dX2_hardBehind_11 : decode cX2_hardBehind 11 = .ok (.iconst 3, 1) := by decide +kernel
theorem dX2_hardBehind_12 : decode cX2_hardBehind 12 = .ok (.if_icmp .ne 17, 3) := by decide +kernel
theorem dX2_hardBehind_15 : decode cX2_hardBehind 15 = .ok (.iload_n 2, 1) := by decide +kernel
theorem dX2_hardBehind_16 : decode cX2_hardBehind 16 = .ok (.aload_n 0, 1) := by decide +kernel
theorem dX2_hardBehind_17 : decode cX2_hardBehind 17 = .ok (.getfield 21, 3) := by decide +kernel
theorem dX2_hardBehind_20 : decode cX2_hardBehind 20 = .ok (.getfield 115, 3) := by decide +kernel
theorem dX2_hardBehind_23 : decode cX2_hardBehind 23 = .ok (.iconst 2, 1) := by decide +kernel
theorem dX2_hardBehind_24 : decode cX2_hardBehind 24 = .ok (.irem, 1) := by decide +kernel
theorem dX2_hardBehind_25 : decode cX2_hardBehind 25 = .ok (.iadd, 1) := by decide +kernel
theorem dX2_hardBehind_26 : decode cX2_hardBehind 26 = .ok (.iconst 2, 1) := by decide +kernel
theorem dX2_hardBehind_27 : decode cX2_hardBehind 27 = .ok (.idiv, 1) := by decide +kernel
theorem dX2_hardBehind_28 : decode cX2_hardBehind 28 = .ok (.istore_n 3, 1) := by decide +kernel
theorem dX2_hardBehind_29 : decode cX2_hardBehind 29 = .ok (.iconst 0, 1) := by decide +kernel
theorem dX2_hardBehind_30 : decode cX2_hardBehind 30 = .ok (.aload_n 0, 1) := by decide +kernel
theorem dX2_hardBehind_31 : decode cX2_hardBehind 31 = .ok (.getfield 21, 3) := by decide +kernel
theorem dX2_hardBehind_34 : decode cX2_hardBehind 34 = .ok (.getfield 47, 3) := by decide +kernel
theorem dX2_hardBehind_37 : decode cX2_hardBehind 37 = .ok (.iload_n 1, 1) := by decide +kernel
theorem dX2_hardBehind_38 : decode cX2_hardBehind 38 = .ok (.iaload, 1) := by decide +kernel
theorem dX2_hardBehind_39 : decode cX2_hardBehind 39 = .ok (.iload_n 3, 1) := by decide +kernel
theorem dX2_hardBehind_40 : decode cX2_hardBehind 40 = .ok (.aload_n 0, 1) := by decide +kernel
theorem dX2_hardBehind_41 : decode cX2_hardBehind 41 = .ok (.iload_n 1, 1) := by decide +kernel
theorem dX2_hardBehind_42 : decode cX2_hardBehind 42 = .ok (.invokevirtual 118, 3) := by decide +kernel
theorem dX2_hardBehind_45 : decode cX2_hardBehind 45 = .ok (.imul, 1) := by decide +kernel
theorem dX2_hardBehind_46 : decode cX2_hardBehind 46 = .ok (.isub, 1) := by decide +kernel
theorem dX2_hardBehind_47 : decode cX2_hardBehind 47 = .ok (.invokestatic 93, 3) := by decide +kernel
theorem dX2_hardBehind_50 : decode cX2_hardBehind 50 = .ok (.ireturn, 1) := by decide +kernel
theorem w_X2_hardBehind_29 {l : Launch} {D : zDD} {b : Nat} (x1 x3 : Int32) (σ : zSg) (τ : zLm) {Q : Int32 → zSg → zLm → Prop} (h : vp_in x1 6 ∧ SI l D b M_X2_softenedBy 1 G0 [.ref (b + 8), .int x1] σ τ (fun r1 σ1 τ1 => Q (mx 0 ((σ 16 x1.toNatClampNeg) - (x3 * r1))) σ1 τ1)) : AI l D b M_X2_hardBehind 2 G0 Q 29 [(0, .ref (b + 8)), (1, .int x1), (3, .int x3)] [] G0 σ τ := by
  refine r_iconst dX2_hardBehind_29 ci_0 ?_
  refine r_aload_n 0 dX2_hardBehind_30 rfl rfl ?_
  refine r_getR (j := 1) (by decide) (congrArg Prod.fst k0_8) c12_2 (by decide) rfl g0_8_1 tw_174 dX2_hardBehind_31 ?_
  refine r_getR (j := 3) (by decide) (congrArg Prod.fst k0_14) c12_8 (by decide) rfl g0_14_3 tw_124 dX2_hardBehind_34 ?_
  refine r_iload_n 1 dX2_hardBehind_37 rfl rfl ?_
  refine r_iald (by decide) k0_16 dX2_hardBehind_38 h.1 ?_
  replace h := h.2
  refine r_iload_n 2 dX2_hardBehind_39 rfl rfl ?_
  refine r_aload_n 0 dX2_hardBehind_40 rfl rfl ?_
  refine r_iload_n 1 dX2_hardBehind_41 rfl rfl ?_
  refine rc_VI (h' := 1) [.int x1] okv_X2_softenedBy (by decide) (congrArg Prod.fst k0_8) tw_631 rfl rfl (Nat.le_of_ble_eq_true rfl) dX2_hardBehind_42 (by decide) h (fun r1 σ1 τ1 h => ?_)
  refine r_imul dX2_hardBehind_45 ?_
  refine r_isub dX2_hardBehind_46 ?_
  refine r_max tw_554 dX2_hardBehind_47 (by decide) (Nat.le_of_ble_eq_true rfl) (Nat.le_refl _) (Nat.le_refl _) ?_
  exact r_iret rfl (Nat.le_refl _) (Nat.le_refl _) dX2_hardBehind_50 ⟨rfl, rfl, rfl, _, rfl, h⟩

theorem w_X2_hardBehind_0 {l : Launch} {D : zDD} {b : Nat} (p1 p2 : Int32) (σ : zSg) (τ : zLm) {Q : Int32 → zSg → zLm → Prop} (h : vp_in p1 6 ∧ ((¬ (σ 10 p1.toNatClampNeg) = 3 → AI l D b M_X2_hardBehind 2 G0 Q 29 [(0, .ref (b + 8)), (1, .int p1), (3, .int p2)] [] G0 σ τ) ∧ ((σ 10 p1.toNatClampNeg) = 3 → (∀ v2 : Int32, v2 = (p2 + ((σ 14 0) - (σ 14 0) / 2 * 2)) / 2 → AI l D b M_X2_hardBehind 2 G0 Q 29 [(0, .ref (b + 8)), (1, .int p1), (3, .int v2)] [] G0 σ τ)))) : AI l D b M_X2_hardBehind 2 G0 Q 0 [(0, .ref (b + 8)), (1, .int p1), (2, .int p2)] [] G0 σ τ := by
  refine r_iload_n 2 dX2_hardBehind_0 rfl rfl ?_
  refine r_istore_n dX2_hardBehind_1 rfl (by decide) rfl ?_
  refine r_aload_n 1 dX2_hardBehind_2 rfl rfl ?_
  refine r_getR (j := 0) (by decide) (congrArg Prod.fst k0_8) c12_2 (by decide) rfl g0_8_0 tw_172 dX2_hardBehind_3 ?_
  refine r_getR (j := 4) (by decide) (congrArg Prod.fst k0_9) c12_6 (by decide) rfl g0_9_4 tw_75 dX2_hardBehind_6 ?_
  refine r_iload_n 2 dX2_hardBehind_9 rfl rfl ?_
  refine r_iald (by decide) k0_10 dX2_hardBehind_10 h.1 ?_
  replace h := h.2
  refine r_iconst dX2_hardBehind_11 ci_3 ?_
  refine r_icmp_ne (tgt := 29) dX2_hardBehind_12 (by decide) (fun c1 => ?_) (fun c1 => ?_)
  · replace h := h.1 c1
    refine r_lv [1, 2, 0] rfl ?_
    exact h
  · replace h := h.2 c1
    refine r_iload_n 3 dX2_hardBehind_15 rfl rfl ?_
    refine r_aload_n 1 dX2_hardBehind_16 rfl rfl ?_
    refine r_getR (j := 1) (by decide) (congrArg Prod.fst k0_8) c12_2 (by decide) rfl g0_8_1 tw_174 dX2_hardBehind_17 ?_
    refine r_getI (j := 0) (by decide) (congrArg Prod.fst k0_14) c12_8 (by decide) rfl tw_116 dX2_hardBehind_20 ?_
    refine r_iconst dX2_hardBehind_23 ci_2 ?_
    refine r_irem dX2_hardBehind_24 (by decide) ?_
    refine r_iadd dX2_hardBehind_25 ?_
    refine r_iconst dX2_hardBehind_26 ci_2 ?_
    refine r_idiv dX2_hardBehind_27 (by decide) ?_
    refine r_nmI (fun v2 ev2 => ?_)
    replace h := h v2 ev2
    refine r_istore_n dX2_hardBehind_28 rfl (by decide) rfl ?_
    refine r_lv [1, 2, 0] rfl ?_
    exact h
theorem s_X2_hardBehind {l : Launch} {D : zDD} {b : Nat} (p1 p2 : Int32) (σ : zSg) (τ : zLm) {Q : Int32 → zSg → zLm → Prop} (h : vp_in p1 6 ∧ ((¬ (σ 10 p1.toNatClampNeg) = 3 → AI l D b M_X2_hardBehind 2 G0 Q 29 [(0, .ref (b + 8)), (1, .int p1), (3, .int p2)] [] G0 σ τ) ∧ ((σ 10 p1.toNatClampNeg) = 3 → (∀ v2 : Int32, v2 = (p2 + ((σ 14 0) - (σ 14 0) / 2 * 2)) / 2 → AI l D b M_X2_hardBehind 2 G0 Q 29 [(0, .ref (b + 8)), (1, .int p1), (3, .int v2)] [] G0 σ τ)))) : SI l D b M_X2_hardBehind 2 G0 [.ref (b + 8), .int p1, .int p2] σ τ Q := zS.of (by decide) (Nat.le_of_ble_eq_true rfl) rfl (w_X2_hardBehind_0 p1 p2 σ τ h)

theorem dX2_hoursTillGood_0 : decode cX2_hoursTillGood 0 = .ok (.aload_n 0, 1) := by decide +kernel
theorem dX2_hoursTillGood_1 : decode cX2_hoursTillGood 1 = .ok (.getfield 21, 3) := by decide +kernel
theorem dX2_hoursTillGood_4 : decode cX2_hoursTillGood 4 = .ok (.getfield 47, 3) := by decide +kernel
theorem dX2_hoursTillGood_7 : decode cX2_hoursTillGood 7 = .ok (.iload_n 1, 1) := by decide +kernel
theorem dX2_hoursTillGood_8 : decode cX2_hoursTillGood 8 = .ok (.iaload, 1) := by decide +kernel
theorem dX2_hoursTillGood_9 : decode cX2_hoursTillGood 9 = .ok (.istore_n 3, 1) := by decide +kernel
theorem dX2_hoursTillGood_10 : decode cX2_hoursTillGood 10 = .ok (.aload_n 0, 1) := by decide +kernel
theorem dX2_hoursTillGood_11 : decode cX2_hoursTillGood 11 = .ok (.iload_n 1, 1) := by decide +kernel
theorem dX2_hoursTillGood_12 : decode cX2_hoursTillGood 12 = .ok (.invokevirtual 118, 3) := by decide +kernel
theorem dX2_hoursTillGood_15 : decode cX2_hoursTillGood 15 = .ok (.istore 4, 2) := by decide +kernel
theorem dX2_hoursTillGood_17 : decode cX2_hoursTillGood 17 = .ok (.iload_n 3, 1) := by decide +kernel
theorem dX2_hoursTillGood_18 : decode cX2_hoursTillGood 18 = .ok (.ifCond .ne 5, 3) := by decide +kernel
theorem dX2_hoursTillGood_21 : decode cX2_hoursTillGood 21 = .ok (.iconst 0, 1) := by decide +kernel
theorem dX2_hoursTillGood_22 : decode cX2_hoursTillGood 22 = .ok (.ireturn, 1) := by decide +kernel
theorem dX2_hoursTillGood_23 : decode cX2_hoursTillGood 23 = .ok (.iload 4, 2) := by decide +kernel
theorem dX2_hoursTillGood_25 : decode cX2_hoursTillGood 25 = .ok (.ifCond .gt 5, 3) := by decide +kernel
theorem dX2_hoursTillGood_28 : decode cX2_hoursTillGood 28 = .ok (.iconst (-1), 1) := by decide +kernel
theorem dX2_hoursTillGood_29 : decode cX2_hoursTillGood 29 = .ok (.ireturn, 1) := by decide +kernel
theorem dX2_hoursTillGood_30 : decode cX2_hoursTillGood 30 = .ok (.iload_n 3, 1) := by decide +kernel
theorem dX2_hoursTillGood_31 : decode cX2_hoursTillGood 31 = .ok (.iload 4, 2) := by decide +kernel
theorem dX2_hoursTillGood_33 : decode cX2_hoursTillGood 33 = .ok (.iadd, 1) := by decide +kernel
theorem dX2_hoursTillGood_34 : decode cX2_hoursTillGood 34 = .ok (.iconst 1, 1) := by decide +kernel
theorem dX2_hoursTillGood_35 : decode cX2_hoursTillGood 35 = .ok (.isub, 1) := by decide +kernel
theorem dX2_hoursTillGood_36 : decode cX2_hoursTillGood 36 = .ok (.iload 4, 2) := by decide +kernel
theorem dX2_hoursTillGood_38 : decode cX2_hoursTillGood 38 = .ok (.idiv, 1) := by decide +kernel
theorem dX2_hoursTillGood_39 : decode cX2_hoursTillGood 39 = .ok (.istore 5, 2) := by decide +kernel
theorem dX2_hoursTillGood_41 : decode cX2_hoursTillGood 41 = .ok (.aload_n 0, 1) := by decide +kernel
theorem dX2_hoursTillGood_42 : decode cX2_hoursTillGood 42 = .ok (.getfield 12, 3) := by decide +kernel
theorem dX2_hoursTillGood_45 : decode cX2_hoursTillGood 45 = .ok (.getfield 109, 3) := by decide +kernel
theorem dX2_hoursTillGood_48 : decode cX2_hoursTillGood 48 = .ok (.iload_n 1, 1) := by decide +kernel
theorem dX2_hoursTillGood_49 : decode cX2_hoursTillGood 49 = .ok (.iaload, 1) := by decide +kernel
theorem dX2_hoursTillGood_50 : decode cX2_hoursTillGood 50 = .ok (.iconst 3, 1) := by decide +kernel
theorem dX2_hoursTillGood_51 : decode cX2_hoursTillGood 51 = .ok (.if_icmp .ne 13, 3) := by decide +kernel
theorem dX2_hoursTillGood_54 : decode cX2_hoursTillGood 54 = .ok (.iconst 2, 1) := by decide +kernel
theorem dX2_hoursTillGood_55 : decode cX2_hoursTillGood 55 = .ok (.iload 5, 2) := by decide +kernel
theorem dX2_hoursTillGood_57 : decode cX2_hoursTillGood 57 = .ok (.imul, 1) := by decide +kernel
theorem dX2_hoursTillGood_58 : decode cX2_hoursTillGood 58 = .ok (.iload_n 2, 1) := by decide +kernel
theorem dX2_hoursTillGood_59 : decode cX2_hoursTillGood 59 = .ok (.iconst 2, 1) := by decide +kernel
theorem dX2_hoursTillGood_60 : decode cX2_hoursTillGood 60 = .ok (.irem, 1) := by decide +kernel
theorem dX2_hoursTillGood_61 : decode cX2_hoursTillGood 61 = .ok (.isub, 1) := by decide +kernel
theorem dX2_hoursTillGood_62 : decode cX2_hoursTillGood 62 = .ok (.istore 5, 2) := by decide +kernel
theorem dX2_hoursTillGood_64 : decode cX2_hoursTillGood 64 = .ok (.iload 5, 2) := by decide +kernel
theorem dX2_hoursTillGood_66 : decode cX2_hoursTillGood 66 = .ok (.sipush 500, 3) := by decide +kernel
theorem dX2_hoursTillGood_69 : decode cX2_hoursTillGood 69 = .ok (.if_icmp .le 7, 3) := by decide +kernel
theorem dX2_hoursTillGood_72 : decode cX2_hoursTillGood 72 = .ok (.iconst (-1), 1) := by decide +kernel
theorem dX2_hoursTillGood_73 : decode cX2_hoursTillGood 73 = .ok (.goto 5, 3) := by decide +kernel
theorem dX2_hoursTillGood_76 : decode cX2_hoursTillGood 76 = .ok (.iload 5, 2) := by decide +kernel
theorem dX2_hoursTillGood_78 : decode cX2_hoursTillGood 78 = .ok (.ireturn, 1) := by decide +kernel
theorem w_X2_hoursTillGood_64 {l : Launch} {D : zDD} {b : Nat} (x5 : Int32) (σ : zSg) (τ : zLm) {Q : Int32 → zSg → zLm → Prop} (h : (x5 ≤ 500 → Q x5 σ τ) ∧ (¬ x5 ≤ 500 → Q (-1) σ τ)) : AI l D b M_X2_hoursTillGood 2 G0 Q 64 [(5, .int x5)] [] G0 σ τ := by
  refine r_iload 0 dX2_hoursTillGood_64 rfl ?_
  refine r_sipush dX2_hoursTillGood_66 cs_500 ?_
  refine r_icmp_le (tgt := 76) dX2_hoursTillGood_69 (by decide) (fun c1 => ?_) (fun c1 => ?_)
  · replace h := h.1 c1
    refine r_iload 0 dX2_hoursTillGood_76 rfl ?_
    exact r_iret rfl (Nat.le_refl _) (Nat.le_refl _) dX2_hoursTillGood_78 ⟨rfl, rfl, rfl, _, rfl, h⟩
  · replace h := h.2 c1
    refine r_iconst dX2_hoursTillGood_72 ci_m1 ?_
    refine r_goto (tgt := 78) dX2_hoursTillGood_73 (by decide) ?_
    exact r_iret rfl (Nat.le_refl _) (Nat.le_refl _) dX2_hoursTillGood_78 ⟨rfl, rfl, rfl, _, rfl, h⟩

theorem w_X2_hoursTillGood_0 {l : Launch} {D : zDD} {b : Nat} (p1 p2 : Int32) (σ : zSg) (τ : zLm) {Q : Int32 → zSg → zLm → Prop} (h : vp_in p1 6 ∧ (SI l D b M_X2_softenedBy 1 G0 [.ref (b + 8), .int p1] σ τ (fun r1 σ1 τ1 => (¬ (σ 16 p1.toNatClampNeg) = 0 → ((0 < r1 → (¬ r1 = 0 ∧ (∀ v4 : Int32, v4 = (((σ 16 p1.toNatClampNeg) + r1) - 1) / r1 → vp_in p1 6 ∧ ((¬ (σ1 10 p1.toNatClampNeg) = 3 → AI l D b M_X2_hoursTillGood 2 G0 Q 64 [(5, .int v4)] [] G0 σ1 τ1) ∧ ((σ1 10 p1.toNatClampNeg) = 3 → (∀ v6 : Int32, v6 = (2 * v4) - (p2 - p2 / 2 * 2) → AI l D b M_X2_hoursTillGood 2 G0 Q 64 [(5, .int v6)] [] G0 σ1 τ1)))))) ∧ (¬ 0 < r1 → Q (-1) σ1 τ1))) ∧ ((σ 16 p1.toNatClampNeg) = 0 → Q 0 σ1 τ1)))) : AI l D b M_X2_hoursTillGood 2 G0 Q 0 [(0, .ref (b + 8)), (1, .int p1), (2, .int p2)] [] G0 σ τ := by
  refine r_aload_n 0 dX2_hoursTillGood_0 rfl rfl ?_
  refine r_getR (j := 1) (by decide) (congrArg Prod.fst k0_8) c12_2 (by decide) rfl g0_8_1 tw_174 dX2_hoursTillGood_1 ?_
  refine r_getR (j := 3) (by decide) (congrArg Prod.fst k0_14) c12_8 (by decide) rfl g0_14_3 tw_124 dX2_hoursTillGood_4 ?_
  refine r_iload_n 1 dX2_hoursTillGood_7 rfl rfl ?_
  refine r_iald (by decide) k0_16 dX2_hoursTillGood_8 h.1 ?_
  replace h := h.2
  refine r_istore_n dX2_hoursTillGood_9 rfl (by decide) rfl ?_
  refine r_aload_n 1 dX2_hoursTillGood_10 rfl rfl ?_
  refine r_iload_n 2 dX2_hoursTillGood_11 rfl rfl ?_
  refine rc_VI (h' := 1) [.int p1] okv_X2_softenedBy (by decide) (congrArg Prod.fst k0_8) tw_631 rfl rfl (Nat.le_of_ble_eq_true rfl) dX2_hoursTillGood_12 (by decide) h (fun r1 σ1 τ1 h => ?_)
  refine r_istore dX2_hoursTillGood_15 (by decide) rfl ?_
  refine r_iload_n 1 dX2_hoursTillGood_17 rfl rfl ?_
  refine r_if_ne (tgt := 23) dX2_hoursTillGood_18 (by decide) (fun c2 => ?_) (fun c2 => ?_)
  · replace h := h.1 c2
    refine r_iload 0 dX2_hoursTillGood_23 rfl ?_
    refine r_if_gt (tgt := 30) dX2_hoursTillGood_25 (by decide) (fun c3 => ?_) (fun c3 => ?_)
    · replace h := h.1 c3
      refine r_iload_n 1 dX2_hoursTillGood_30 rfl rfl ?_
      refine r_iload 0 dX2_hoursTillGood_31 rfl ?_
      refine r_iadd dX2_hoursTillGood_33 ?_
      refine r_iconst dX2_hoursTillGood_34 ci_1 ?_
      refine r_isub dX2_hoursTillGood_35 ?_
      refine r_iload 0 dX2_hoursTillGood_36 rfl ?_
      refine r_idiv dX2_hoursTillGood_38 h.1 ?_
      replace h := h.2
      refine r_nmI (fun v4 ev4 => ?_)
      replace h := h v4 ev4
      refine r_istore dX2_hoursTillGood_39 (by decide) rfl ?_
      refine r_aload_n 3 dX2_hoursTillGood_41 rfl rfl ?_
      refine r_getR (j := 0) (by decide) (congrArg Prod.fst k0_8) c12_2 (by decide) rfl g0_8_0 tw_172 dX2_hoursTillGood_42 ?_
      refine r_getR (j := 4) (by decide) (congrArg Prod.fst k0_9) c12_6 (by decide) rfl g0_9_4 tw_75 dX2_hoursTillGood_45 ?_
      refine r_iload_n 4 dX2_hoursTillGood_48 rfl rfl ?_
      refine r_iald (by decide) k0_10 dX2_hoursTillGood_49 h.1 ?_
      replace h := h.2
      refine r_iconst dX2_hoursTillGood_50 ci_3 ?_
      refine r_icmp_ne (tgt := 64) dX2_hoursTillGood_51 (by decide) (fun c5 => ?_) (fun c5 => ?_)
      · replace h := h.1 c5
        refine r_lv [0] rfl ?_
        exact h
      · replace h := h.2 c5
        refine r_iconst dX2_hoursTillGood_54 ci_2 ?_
        refine r_iload 0 dX2_hoursTillGood_55 rfl ?_
        refine r_imul dX2_hoursTillGood_57 ?_
        refine r_iload_n 5 dX2_hoursTillGood_58 rfl rfl ?_
        refine r_iconst dX2_hoursTillGood_59 ci_2 ?_
        refine r_irem dX2_hoursTillGood_60 (by decide) ?_
        refine r_isub dX2_hoursTillGood_61 ?_
        refine r_nmI (fun v6 ev6 => ?_)
        replace h := h v6 ev6
        refine r_istore dX2_hoursTillGood_62 (by decide) rfl ?_
        refine r_lv [0] rfl ?_
        exact h
    · replace h := h.2 c3
      refine r_iconst dX2_hoursTillGood_28 ci_m1 ?_
      exact r_iret rfl (Nat.le_refl _) (Nat.le_refl _) dX2_hoursTillGood_29 ⟨rfl, rfl, rfl, _, rfl, h⟩
  · replace h := h.2 c2
    refine r_iconst dX2_hoursTillGood_21 ci_0 ?_
    exact r_iret rfl (Nat.le_refl _) (Nat.le_refl _) dX2_hoursTillGood_22 ⟨rfl, rfl, rfl, _, rfl, h⟩
theorem s_X2_hoursTillGood {l : Launch} {D : zDD} {b : Nat} (p1 p2 : Int32) (σ : zSg) (τ : zLm) {Q : Int32 → zSg → zLm → Prop} (h : vp_in p1 6 ∧ (SI l D b M_X2_softenedBy 1 G0 [.ref (b + 8), .int p1] σ τ (fun r1 σ1 τ1 => (¬ (σ 16 p1.toNatClampNeg) = 0 → ((0 < r1 → (¬ r1 = 0 ∧ (∀ v4 : Int32, v4 = (((σ 16 p1.toNatClampNeg) + r1) - 1) / r1 → vp_in p1 6 ∧ ((¬ (σ1 10 p1.toNatClampNeg) = 3 → AI l D b M_X2_hoursTillGood 2 G0 Q 64 [(5, .int v4)] [] G0 σ1 τ1) ∧ ((σ1 10 p1.toNatClampNeg) = 3 → (∀ v6 : Int32, v6 = (2 * v4) - (p2 - p2 / 2 * 2) → AI l D b M_X2_hoursTillGood 2 G0 Q 64 [(5, .int v6)] [] G0 σ1 τ1)))))) ∧ (¬ 0 < r1 → Q (-1) σ1 τ1))) ∧ ((σ 16 p1.toNatClampNeg) = 0 → Q 0 σ1 τ1)))) : SI l D b M_X2_hoursTillGood 2 G0 [.ref (b + 8), .int p1, .int p2] σ τ Q := zS.of (by decide) (Nat.le_of_ble_eq_true rfl) rfl (w_X2_hoursTillGood_0 p1 p2 σ τ h)

theorem dX2_putInSuet_0 : decode cX2_putInSuet 0 = .ok (.aload_n 0, 1) := by decide +kernel
theorem dX2_putInSuet_1 : decode cX2_putInSuet 1 = .ok (.getfield 21, 3) := by decide +kernel
theorem dX2_putInSuet_4 : decode cX2_putInSuet 4 = .ok (.getfield 54, 3) := by decide +kernel
theorem dX2_putInSuet_7 : decode cX2_putInSuet 7 = .ok (.iload_n 1, 1) := by decide +kernel
theorem dX2_putInSuet_8 : decode cX2_putInSuet 8 = .ok (.iaload, 1) := by decide +kernel
theorem dX2_putInSuet_9 : decode cX2_putInSuet 9 = .ok (.ifCond .ne 7, 3) := by decide +kernel
theorem dX2_putInSuet_12 : decode cX2_putInSuet 12 = .ok (.iconst 1, 1) := by decide +kernel
theorem dX2_putInSuet_13 : decode cX2_putInSuet 13 = .ok (.goto 19, 3) := by decide +kernel
theorem dX2_putInSuet_16 : decode cX2_putInSuet 16 = .ok (.aload_n 0, 1) := by decide +kernel
theorem dX2_putInSuet_17 : decode cX2_putInSuet 17 = .ok (.getfield 28, 3) := by decide +kernel
theorem dX2_putInSuet_20 : decode cX2_putInSuet 20 = .ok (.aload_n 0, 1) := by decide +kernel
theorem dX2_putInSuet_21 : decode cX2_putInSuet 21 = .ok (.getfield 21, 3) := by decide +kernel
theorem dX2_putInSuet_24 : decode cX2_putInSuet 24 = .ok (.getfield 54, 3) := by decide +kernel
theorem dX2_putInSuet_27 : decode cX2_putInSuet 27 = .ok (.iload_n 1, 1) := by decide +kernel
theorem dX2_putInSuet_28 : decode cX2_putInSuet 28 = .ok (.iaload, 1) := by decide +kernel
theorem dX2_putInSuet_29 : decode cX2_putInSuet 29 = .ok (.invokevirtual 57, 3) := by decide +kernel
theorem dX2_putInSuet_32 : decode cX2_putInSuet 32 = .ok (.istore_n 2, 1) := by decide +kernel
theorem dX2_putInSuet_33 : decode cX2_putInSuet 33 = .ok (.aload_n 0, 1) := by decide +kernel
theorem dX2_putInSuet_34 : decode cX2_putInSuet 34 = .ok (.getfield 21, 3) := by decide +kernel
theorem dX2_putInSuet_37 : decode cX2_putInSuet 37 = .ok (.getfield 43, 3) := by decide +kernel
theorem dX2_putInSuet_40 : decode cX2_putInSuet 40 = .ok (.iload_n 1, 1) := by decide +kernel
theorem dX2_putInSuet_41 : decode cX2_putInSuet 41 = .ok (.iconst 1, 1) := by decide +kernel
theorem dX2_putInSuet_42 : decode cX2_putInSuet 42 = .ok (.iastore, 1) := by decide +kernel
theorem dX2_putInSuet_43 : decode cX2_putInSuet 43 = .ok (.aload_n 0, 1) := by decide +kernel
theorem dX2_putInSuet_44 : decode cX2_putInSuet 44 = .ok (.getfield 21, 3) := by decide +kernel
theorem dX2_putInSuet_47 : decode cX2_putInSuet 47 = .ok (.aload_n 0, 1) := by decide +kernel
theorem dX2_putInSuet_48 : decode cX2_putInSuet 48 = .ok (.getfield 21, 3) := by decide +kernel
theorem dX2_putInSuet_51 : decode cX2_putInSuet 51 = .ok (.getfield 61, 3) := by decide +kernel
theorem dX2_putInSuet_54 : decode cX2_putInSuet 54 = .ok (.iload_n 2, 1) := by decide +kernel
theorem dX2_putInSuet_55 : decode cX2_putInSuet 55 = .ok (.iadd, 1) := by decide +kernel
theorem dX2_putInSuet_56 : decode cX2_putInSuet 56 = .ok (.ldc 63, 2) := by decide +kernel
theorem dX2_putInSuet_58 : decode cX2_putInSuet 58 = .ok (.invokestatic 64, 3) := by decide +kernel
theorem dX2_putInSuet_61 : decode cX2_putInSuet 61 = .ok (.putfield 61, 3) := by decide +kernel
theorem dX2_putInSuet_64 : decode cX2_putInSuet 64 = .ok (.iload_n 2, 1) := by decide +kernel
theorem dX2_putInSuet_65 : decode cX2_putInSuet 65 = .ok (.ireturn, 1) := by decide +kernel
theorem w_X2_putInSuet_32 {l : Launch} {D : zDD} {b : Nat} (x1 y0 : Int32) (σ : zSg) (τ : zLm) {Q : Int32 → zSg → zLm → Prop} (h : vp_in x1 6 ∧ Q y0 (st2 (st2 σ 15 x1.toNatClampNeg 1) 14 1 (mn (((st2 σ 15 x1.toNatClampNeg 1) 14 1) + y0) 999999)) τ) : AI l D b M_X2_putInSuet 3 G0 Q 32 [(0, .ref (b + 8)), (1, .int x1)] [.int y0] G0 σ τ := by
  refine r_istore_n dX2_putInSuet_32 rfl (by decide) rfl ?_
  refine r_aload_n 1 dX2_putInSuet_33 rfl rfl ?_
  refine r_getR (j := 1) (by decide) (congrArg Prod.fst k0_8) c12_2 (by decide) rfl g0_8_1 tw_174 dX2_putInSuet_34 ?_
  refine r_getR (j := 2) (by decide) (congrArg Prod.fst k0_14) c12_8 (by decide) rfl g0_14_2 tw_121 dX2_putInSuet_37 ?_
  refine r_iload_n 2 dX2_putInSuet_40 rfl rfl ?_
  refine r_iconst dX2_putInSuet_41 ci_1 ?_
  refine r_iast (by decide) k0_15 dX2_putInSuet_42 h.1 ?_
  replace h := h.2
  refine r_aload_n 1 dX2_putInSuet_43 rfl rfl ?_
  refine r_getR (j := 1) (by decide) (congrArg Prod.fst k0_8) c12_2 (by decide) rfl g0_8_1 tw_174 dX2_putInSuet_44 ?_
  refine r_aload_n 1 dX2_putInSuet_47 rfl rfl ?_
  refine r_getR (j := 1) (by decide) (congrArg Prod.fst k0_8) c12_2 (by decide) rfl g0_8_1 tw_174 dX2_putInSuet_48 ?_
  refine r_getI (j := 1) (by decide) (congrArg Prod.fst k0_14) c12_8 (by decide) rfl tw_119 dX2_putInSuet_51 ?_
  refine r_iload_n 0 dX2_putInSuet_54 rfl rfl ?_
  refine r_iadd dX2_putInSuet_55 ?_
  refine r_ldc (v := 999999) rfl tw_599 rfl dX2_putInSuet_56 ?_
  refine r_min tw_600 dX2_putInSuet_58 (by decide) (Nat.le_of_ble_eq_true rfl) (Nat.le_refl _) (Nat.le_refl _) ?_
  refine r_putI (j := 1) (by decide) (congrArg Prod.fst k0_14) c12_8 (by decide) rfl (Or.inl rfl) tw_119 dX2_putInSuet_61 ?_
  refine r_iload_n 0 dX2_putInSuet_64 rfl rfl ?_
  exact r_iret rfl (Nat.le_refl _) (Nat.le_refl _) dX2_putInSuet_65 ⟨rfl, rfl, rfl, _, rfl, h⟩

theorem w_X2_putInSuet_0 {l : Launch} {D : zDD} {b : Nat} (p1 : Int32) (σ : zSg) (τ : zLm) {Q : Int32 → zSg → zLm → Prop} (h : vp_in p1 6 ∧ ((¬ (σ 17 p1.toNatClampNeg) = 0 → (vp_in p1 6 ∧ SI l D b M_X10_fewest 2 G0 [.ref (b + 19), .int (σ 17 p1.toNatClampNeg)] σ τ (fun r2 σ2 τ2 => AI l D b M_X2_putInSuet 3 G0 Q 32 [(0, .ref (b + 8)), (1, .int p1)] [.int r2] G0 σ2 τ2))) ∧ ((σ 17 p1.toNatClampNeg) = 0 → AI l D b M_X2_putInSuet 3 G0 Q 32 [(0, .ref (b + 8)), (1, .int p1)] [.int 1] G0 σ τ))) : AI l D b M_X2_putInSuet 3 G0 Q 0 [(0, .ref (b + 8)), (1, .int p1)] [] G0 σ τ := by
  refine r_aload_n 0 dX2_putInSuet_0 rfl rfl ?_
  refine r_getR (j := 1) (by decide) (congrArg Prod.fst k0_8) c12_2 (by decide) rfl g0_8_1 tw_174 dX2_putInSuet_1 ?_
  refine r_getR (j := 4) (by decide) (congrArg Prod.fst k0_14) c12_8 (by decide) rfl g0_14_4 tw_128 dX2_putInSuet_4 ?_
  refine r_iload_n 1 dX2_putInSuet_7 rfl rfl ?_
  refine r_iald (by decide) k0_17 dX2_putInSuet_8 h.1 ?_
  replace h := h.2
  refine r_if_ne (tgt := 16) dX2_putInSuet_9 (by decide) (fun c1 => ?_) (fun c1 => ?_)
  · replace h := h.1 c1
    refine r_aload_n 0 dX2_putInSuet_16 rfl rfl ?_
    refine r_getR (j := 2) (by decide) (congrArg Prod.fst k0_8) c12_2 (by decide) rfl g0_8_2 tw_176 dX2_putInSuet_17 ?_
    refine r_aload_n 0 dX2_putInSuet_20 rfl rfl ?_
    refine r_getR (j := 1) (by decide) (congrArg Prod.fst k0_8) c12_2 (by decide) rfl g0_8_1 tw_174 dX2_putInSuet_21 ?_
    refine r_getR (j := 4) (by decide) (congrArg Prod.fst k0_14) c12_8 (by decide) rfl g0_14_4 tw_128 dX2_putInSuet_24 ?_
    refine r_iload_n 1 dX2_putInSuet_27 rfl rfl ?_
    refine r_iald (by decide) k0_17 dX2_putInSuet_28 h.1 ?_
    replace h := h.2
    refine rc_VI (h' := 2) [.int (σ 17 p1.toNatClampNeg)] okv_X10_fewest (by decide) (congrArg Prod.fst k0_19) tw_585 rfl rfl (Nat.le_of_ble_eq_true rfl) dX2_putInSuet_29 (by decide) h (fun r2 σ2 τ2 h => ?_)
    exact h
  · replace h := h.2 c1
    refine r_iconst dX2_putInSuet_12 ci_1 ?_
    refine r_goto (tgt := 32) dX2_putInSuet_13 (by decide) ?_
    exact h
theorem s_X2_putInSuet {l : Launch} {D : zDD} {b : Nat} (p1 : Int32) (σ : zSg) (τ : zLm) {Q : Int32 → zSg → zLm → Prop} (h : vp_in p1 6 ∧ ((¬ (σ 17 p1.toNatClampNeg) = 0 → (vp_in p1 6 ∧ SI l D b M_X10_fewest 2 G0 [.ref (b + 19), .int (σ 17 p1.toNatClampNeg)] σ τ (fun r2 σ2 τ2 => AI l D b M_X2_putInSuet 3 G0 Q 32 [(0, .ref (b + 8)), (1, .int p1)] [.int r2] G0 σ2 τ2))) ∧ ((σ 17 p1.toNatClampNeg) = 0 → AI l D b M_X2_putInSuet 3 G0 Q 32 [(0, .ref (b + 8)), (1, .int p1)] [.int 1] G0 σ τ))) : SI l D b M_X2_putInSuet 3 G0 [.ref (b + 8), .int p1] σ τ Q := zS.of (by decide) (Nat.le_of_ble_eq_true rfl) rfl (w_X2_putInSuet_0 p1 σ τ h)

theorem dX2_canBeBorne_0 : decode cX2_canBeBorne 0 = .ok (.aload_n 0, 1) := by decide +kernel
theorem dX2_canBeBorne_1 : decode cX2_canBeBorne 1 = .ok (.iload_n 1, 1) := by decide +kernel
theorem dX2_canBeBorne_2 : decode cX2_canBeBorne 2 = .ok (.invokevirtual 50, 3) := by decide +kernel
theorem dX2_canBeBorne_5 : decode cX2_canBeBorne 5 = .ok (.ifCond .eq 15, 3) := by decide +kernel
theorem dX2_canBeBorne_8 : decode cX2_canBeBorne 8 = .ok (.aload_n 0, 1) := by decide +kernel
theorem dX2_canBeBorne_9 : decode cX2_canBeBorne 9 = .ok (.iload_n 1, 1) := by decide +kernel
theorem dX2_canBeBorne_10 : decode cX2_canBeBorne 10 = .ok (.invokevirtual 103, 3) := by decide +kernel
theorem dX2_canBeBorne_13 : decode cX2_canBeBorne 13 = .ok (.ifCond .eq 7, 3) := by decide +kernel
theorem dX2_canBeBorne_16 : decode cX2_canBeBorne 16 = .ok (.iconst 1, 1) := by decide +kernel
theorem dX2_canBeBorne_17 : decode cX2_canBeBorne 17 = .ok (.goto 4, 3) := by decide +kernel
theorem dX2_canBeBorne_20 : decode cX2_canBeBorne 20 = .ok (.iconst 0, 1) := by decide +kernel
theorem dX2_canBeBorne_21 : decode cX2_canBeBorne 21 = .ok (.ireturn, 1) := by decide +kernel
theorem w_X2_canBeBorne_0 {l : Launch} {D : zDD} {b : Nat} (p1 : Int32) (σ : zSg) (τ : zLm) {Q : Int32 → zSg → zLm → Prop} (h : SI l D b M_X2_isGood 0 G0 [.ref (b + 8), .int p1] σ τ (fun r1 σ1 τ1 => (r1 = 0 → Q 0 σ1 τ1) ∧ (¬ r1 = 0 → (SI l D b M_X2_isBearable 2 G0 [.ref (b + 8), .int p1] σ1 τ1 (fun r3 σ3 τ3 => (r3 = 0 → Q 0 σ3 τ3) ∧ (¬ r3 = 0 → Q 1 σ3 τ3)))))) : AI l D b M_X2_canBeBorne 3 G0 Q 0 [(0, .ref (b + 8)), (1, .int p1)] [] G0 σ τ := by
  refine r_aload_n 0 dX2_canBeBorne_0 rfl rfl ?_
  refine r_iload_n 1 dX2_canBeBorne_1 rfl rfl ?_
  refine rc_VI (h' := 0) [.int p1] okv_X2_isGood (by decide) (congrArg Prod.fst k0_8) tw_441 rfl rfl (Nat.le_of_ble_eq_true rfl) dX2_canBeBorne_2 (by decide) h (fun r1 σ1 τ1 h => ?_)
  refine r_if_eq (tgt := 20) dX2_canBeBorne_5 (by decide) (fun c2 => ?_) (fun c2 => ?_)
  · replace h := h.1 c2
    refine r_iconst dX2_canBeBorne_20 ci_0 ?_
    exact r_zret rfl (Nat.le_refl _) (Nat.le_refl _) dX2_canBeBorne_21 (Or.inl rfl) ⟨rfl, rfl, rfl, _, rfl, h⟩
  · replace h := h.2 c2
    refine r_aload_n 0 dX2_canBeBorne_8 rfl rfl ?_
    refine r_iload_n 1 dX2_canBeBorne_9 rfl rfl ?_
    refine rc_VI (h' := 2) [.int p1] okv_X2_isBearable (by decide) (congrArg Prod.fst k0_8) tw_643 rfl rfl (Nat.le_of_ble_eq_true rfl) dX2_canBeBorne_10 (by decide) h (fun r3 σ3 τ3 h => ?_)
    refine r_if_eq (tgt := 20) dX2_canBeBorne_13 (by decide) (fun c4 => ?_) (fun c4 => ?_)
    · replace h := h.1 c4
      refine r_iconst dX2_canBeBorne_20 ci_0 ?_
      exact r_zret rfl (Nat.le_refl _) (Nat.le_refl _) dX2_canBeBorne_21 (Or.inl rfl) ⟨rfl, rfl, rfl, _, rfl, h⟩
    · replace h := h.2 c4
      refine r_iconst dX2_canBeBorne_16 ci_1 ?_
      refine r_goto (tgt := 21) dX2_canBeBorne_17 (by decide) ?_
      exact r_zret rfl (Nat.le_refl _) (Nat.le_refl _) dX2_canBeBorne_21 (Or.inr rfl) ⟨rfl, rfl, rfl, _, rfl, h⟩
theorem s_X2_canBeBorne {l : Launch} {D : zDD} {b : Nat} (p1 : Int32) (σ : zSg) (τ : zLm) {Q : Int32 → zSg → zLm → Prop} (h : SI l D b M_X2_isGood 0 G0 [.ref (b + 8), .int p1] σ τ (fun r1 σ1 τ1 => (r1 = 0 → Q 0 σ1 τ1) ∧ (¬ r1 = 0 → (SI l D b M_X2_isBearable 2 G0 [.ref (b + 8), .int p1] σ1 τ1 (fun r3 σ3 τ3 => (r3 = 0 → Q 0 σ3 τ3) ∧ (¬ r3 = 0 → Q 1 σ3 τ3)))))) : SI l D b M_X2_canBeBorne 3 G0 [.ref (b + 8), .int p1] σ τ Q := zS.of (by decide) (Nat.le_of_ble_eq_true rfl) rfl (w_X2_canBeBorne_0 p1 σ τ h)

theorem dX2_boil_0 : decode cX2_boil 0 = .ok (.iconst 0, 1) := by decide +kernel
theorem dX2_boil_1 : decode cX2_boil 1 = .ok (.istore_n 1, 1) := by decide +kernel
theorem dX2_boil_2 : decode cX2_boil 2 = .ok (.iload_n 1, 1) := by decide +kernel
theorem dX2_boil_3 : decode cX2_boil 3 = .ok (.aload_n 0, 1) := by decide +kernel
theorem dX2_boil_4 : decode cX2_boil 4 = .ok (.getfield 12, 3) := by decide +kernel
theorem dX2_boil_7 : decode cX2_boil 7 = .ok (.getfield 39, 3) := by decide +kernel
theorem dX2_boil_10 : decode cX2_boil 10 = .ok (.if_icmp .ge 37, 3) := by decide +kernel
theorem dX2_boil_13 : decode cX2_boil 13 = .ok (.aload_n 0, 1) := by decide +kernel
theorem dX2_boil_14 : decode cX2_boil 14 = .ok (.getfield 21, 3) := by decide +kernel
theorem dX2_boil_17 : decode cX2_boil 17 = .ok (.getfield 43, 3) := by decide +kernel
theorem dX2_boil_20 : decode cX2_boil 20 = .ok (.iload_n 1, 1) := by decide +kernel
theorem dX2_boil_21 : decode cX2_boil 21 = .ok (.iaload, 1) := by decide +kernel
theorem dX2_boil_22 : decode cX2_boil 22 = .ok (.iconst 2, 1) := by decide +kernel
theorem dX2_boil_23 : decode cX2_boil 23 = .ok (.if_icmp .ne 18, 3) := by decide +kernel
theorem dX2_boil_26 : decode cX2_boil 26 = .ok (.aload_n 0, 1) := by decide +kernel
theorem dX2_boil_27 : decode cX2_boil 27 = .ok (.getfield 21, 3) := by decide +kernel
theorem dX2_boil_30 : decode cX2_boil 30 = .ok (.getfield 47, 3) := by decide +kernel
theorem dX2_boil_33 : decode cX2_boil 33 = .ok (.iload_n 1, 1) := by decide +kernel
theorem dX2_boil_34 : decode cX2_boil 34 = .ok (.aload_n 0, 1) := by decide +kernel
theorem dX2_boil_35 : decode cX2_boil 35 = .ok (.iload_n 1, 1) := by decide +kernel
theorem dX2_boil_36 : decode cX2_boil 36 = .ok (.iconst 1, 1) := by decide +kernel
theorem dX2_boil_37 : decode cX2_boil 37 = .ok (.invokevirtual 121, 3) := by decide +kernel
theorem dX2_boil_40 : decode cX2_boil 40 = .ok (.iastore, 1) := by decide +kernel
theorem dX2_boil_41 : decode cX2_boil 41 = .ok (.iinc 1 1, 3) := by decide +kernel
theorem dX2_boil_44 : decode cX2_boil 44 = .ok (.goto (-42), 3) := by decide +kernel
theorem dX2_boil_47 : decode cX2_boil 47 = .ok (.aload_n 0, 1) := by decide +kernel
theorem dX2_boil_48 : decode cX2_boil 48 = .ok (.getfield 21, 3) := by decide +kernel
theorem dX2_boil_51 : decode cX2_boil 51 = .ok (.dup, 1) := by decide +kernel
theorem dX2_boil_52 : decode cX2_boil 52 = .ok (.getfield 115, 3) := by decide +kernel
theorem dX2_boil_55 : decode cX2_boil 55 = .ok (.iconst 1, 1) := by decide +kernel
theorem dX2_boil_56 : decode cX2_boil 56 = .ok (.iadd, 1) := by decide +kernel
theorem dX2_boil_57 : decode cX2_boil 57 = .ok (.putfield 115, 3) := by decide +kernel
theorem dX2_boil_60 : decode cX2_boil 60 = .ok (.return_, 1) := by decide +kernel
theorem w_X2_boil_2 {l : Launch} {D : zDD} {b : Nat} (x1 : Int32) (σ : zSg) (τ : zLm) {Q : zSg → zLm → Prop} (h : ((σ 9 2) ≤ x1 → Q (st2 σ 14 0 ((σ 14 0) + 1)) τ) ∧ (¬ (σ 9 2) ≤ x1 → (vp_in x1 6 ∧ ((¬ (σ 15 x1.toNatClampNeg) = 2 → AV l D b M_X2_boil 3 G0 Q 2 [(0, .ref (b + 8)), (1, .int (x1 + 1))] [] G0 σ τ) ∧ ((σ 15 x1.toNatClampNeg) = 2 → (SI l D b M_X2_hardBehind 2 G0 [.ref (b + 8), .int x1, .int 1] σ τ (fun r3 σ3 τ3 => vp_in x1 6 ∧ AV l D b M_X2_boil 3 G0 Q 2 [(0, .ref (b + 8)), (1, .int (x1 + 1))] [] G0 (st2 σ3 16 x1.toNatClampNeg r3) τ3))))))) : AV l D b M_X2_boil 3 G0 Q 2 [(0, .ref (b + 8)), (1, .int x1)] [] G0 σ τ := by
  refine r_iload_n 1 dX2_boil_2 rfl rfl ?_
  refine r_aload_n 0 dX2_boil_3 rfl rfl ?_
  refine r_getR (j := 0) (by decide) (congrArg Prod.fst k0_8) c12_2 (by decide) rfl g0_8_0 tw_172 dX2_boil_4 ?_
  refine r_getI (j := 2) (by decide) (congrArg Prod.fst k0_9) c12_6 (by decide) rfl tw_64 dX2_boil_7 ?_
  refine r_icmp_ge (tgt := 47) dX2_boil_10 (by decide) (fun c1 => ?_) (fun c1 => ?_)
  · replace h := h.1 c1
    refine r_aload_n 0 dX2_boil_47 rfl rfl ?_
    refine r_getR (j := 1) (by decide) (congrArg Prod.fst k0_8) c12_2 (by decide) rfl g0_8_1 tw_174 dX2_boil_48 ?_
    refine r_dup dX2_boil_51 rfl ?_
    refine r_getI (j := 0) (by decide) (congrArg Prod.fst k0_14) c12_8 (by decide) rfl tw_116 dX2_boil_52 ?_
    refine r_iconst dX2_boil_55 ci_1 ?_
    refine r_iadd dX2_boil_56 ?_
    refine r_putI (j := 0) (by decide) (congrArg Prod.fst k0_14) c12_8 (by decide) rfl (Or.inl rfl) tw_116 dX2_boil_57 ?_
    exact r_vret rfl (Nat.le_refl _) (Nat.le_refl _) dX2_boil_60 ⟨rfl, rfl, rfl, rfl, h⟩
  · replace h := h.2 c1
    refine r_aload_n 0 dX2_boil_13 rfl rfl ?_
    refine r_getR (j := 1) (by decide) (congrArg Prod.fst k0_8) c12_2 (by decide) rfl g0_8_1 tw_174 dX2_boil_14 ?_
    refine r_getR (j := 2) (by decide) (congrArg Prod.fst k0_14) c12_8 (by decide) rfl g0_14_2 tw_121 dX2_boil_17 ?_
    refine r_iload_n 1 dX2_boil_20 rfl rfl ?_
    refine r_iald (by decide) k0_15 dX2_boil_21 h.1 ?_
    replace h := h.2
    refine r_iconst dX2_boil_22 ci_2 ?_
    refine r_icmp_ne (tgt := 41) dX2_boil_23 (by decide) (fun c2 => ?_) (fun c2 => ?_)
    · replace h := h.1 c2
      refine r_inc 1 dX2_boil_41 rfl ci_1 (by decide) rfl ?_
      refine r_goto (tgt := 2) dX2_boil_44 (by decide) ?_
      refine r_lv [1, 0] rfl ?_
      exact h
    · replace h := h.2 c2
      refine r_aload_n 0 dX2_boil_26 rfl rfl ?_
      refine r_getR (j := 1) (by decide) (congrArg Prod.fst k0_8) c12_2 (by decide) rfl g0_8_1 tw_174 dX2_boil_27 ?_
      refine r_getR (j := 3) (by decide) (congrArg Prod.fst k0_14) c12_8 (by decide) rfl g0_14_3 tw_124 dX2_boil_30 ?_
      refine r_iload_n 1 dX2_boil_33 rfl rfl ?_
      refine r_aload_n 0 dX2_boil_34 rfl rfl ?_
      refine r_iload_n 1 dX2_boil_35 rfl rfl ?_
      refine r_iconst dX2_boil_36 ci_1 ?_
      refine rc_VI (h' := 2) [.int x1, .int 1] okv_X2_hardBehind (by decide) (congrArg Prod.fst k0_8) tw_627 rfl rfl (Nat.le_of_ble_eq_true rfl) dX2_boil_37 (by decide) h (fun r3 σ3 τ3 h => ?_)
      refine r_iast (by decide) k0_16 dX2_boil_40 h.1 ?_
      replace h := h.2
      refine r_inc 1 dX2_boil_41 rfl ci_1 (by decide) rfl ?_
      refine r_goto (tgt := 2) dX2_boil_44 (by decide) ?_
      refine r_lv [1, 0] rfl ?_
      exact h

theorem w_X2_boil_0 {l : Launch} {D : zDD} {b : Nat} (σ : zSg) (τ : zLm) {Q : zSg → zLm → Prop} (h : AV l D b M_X2_boil 3 G0 Q 2 [(0, .ref (b + 8)), (1, .int 0)] [] G0 σ τ) : AV l D b M_X2_boil 3 G0 Q 0 [(0, .ref (b + 8))] [] G0 σ τ := by
  refine r_iconst dX2_boil_0 ci_0 ?_
  refine r_istore_n dX2_boil_1 rfl (by decide) rfl ?_
  refine r_lv [1, 0] rfl ?_
  exact h
theorem s_X2_boil {l : Launch} {D : zDD} {b : Nat} (σ : zSg) (τ : zLm) {Q : zSg → zLm → Prop} (h : AV l D b M_X2_boil 3 G0 Q 2 [(0, .ref (b + 8)), (1, .int 0)] [] G0 σ τ) : SV l D b M_X2_boil 3 G0 [.ref (b + 8)] σ τ Q := zS.of (by decide) (Nat.le_of_ble_eq_true rfl) rfl (w_X2_boil_0 σ τ h)

theorem dX2_actByDraws_0 : decode cX2_actByDraws 0 = .ok (.aload_n 0, 1) := by decide +kernel
theorem dX2_actByDraws_1 : decode cX2_actByDraws 1 = .ok (.getfield 12, 3) := by decide +kernel
theorem dX2_actByDraws_4 : decode cX2_actByDraws 4 = .ok (.getfield 39, 3) := by decide +kernel
theorem dX2_actByDraws_7 : decode cX2_actByDraws 7 = .ok (.ifCond .gt 4, 3) := by decide +kernel
theorem dX2_actByDraws_10 : decode cX2_actByDraws 10 = .ok (.return_, 1) := by decide +kernel
theorem dX2_actByDraws_11 : decode cX2_actByDraws 11 = .ok (.aload_n 0, 1) := by decide +kernel
theorem dX2_actByDraws_12 : decode cX2_actByDraws 12 = .ok (.getfield 35, 3) := by decide +kernel
theorem dX2_actByDraws_15 : decode cX2_actByDraws 15 = .ok (.iconst 5, 1) := by decide +kernel
theorem dX2_actByDraws_16 : decode cX2_actByDraws 16 = .ok (.invokevirtual 124, 3) := by decide +kernel
theorem dX2_actByDraws_19 : decode cX2_actByDraws 19 = .ok (.istore_n 1, 1) := by decide +kernel
theorem dX2_actByDraws_20 : decode cX2_actByDraws 20 = .ok (.aload_n 0, 1) := by decide +kernel
theorem dX2_actByDraws_21 : decode cX2_actByDraws 21 = .ok (.getfield 35, 3) := by decide +kernel
theorem dX2_actByDraws_24 : decode cX2_actByDraws 24 = .ok (.aload_n 0, 1) := by decide +kernel
theorem dX2_actByDraws_25 : decode cX2_actByDraws 25 = .ok (.getfield 12, 3) := by decide +kernel
theorem dX2_actByDraws_28 : decode cX2_actByDraws 28 = .ok (.getfield 39, 3) := by decide +kernel
theorem dX2_actByDraws_31 : decode cX2_actByDraws 31 = .ok (.invokevirtual 124, 3) := by decide +kernel
theorem dX2_actByDraws_34 : decode cX2_actByDraws 34 = .ok (.istore_n 2, 1) := by decide +kernel
theorem dX2_actByDraws_35 : decode cX2_actByDraws 35 = .ok (.iload_n 1, 1) := by decide +kernel
theorem dX2_actByDraws_36 : decode cX2_actByDraws 36 = .ok (.ifCond .ne 20, 3) := by decide +kernel
theorem dX2_actByDraws_39 : decode cX2_actByDraws 39 = .ok (.aload_n 0, 1) := by decide +kernel
theorem dX2_actByDraws_40 : decode cX2_actByDraws 40 = .ok (.iload_n 2, 1) := by decide +kernel
theorem dX2_actByDraws_41 : decode cX2_actByDraws 41 = .ok (.invokevirtual 127, 3) := by decide +kernel
theorem dX2_actByDraws_44 : decode cX2_actByDraws 44 = .ok (.ifCond .eq 12, 3) := by decide +kernel
theorem dX2_actByDraws_47 : decode cX2_actByDraws 47 = .ok (.aload_n 0, 1) := by decide +kernel
theorem dX2_actByDraws_48 : decode cX2_actByDraws 48 = .ok (.iload_n 2, 1) := by decide +kernel
theorem dX2_actByDraws_49 : decode cX2_actByDraws 49 = .ok (.invokevirtual 130, 3) := by decide +kernel
theorem dX2_actByDraws_52 : decode cX2_actByDraws 52 = .ok (.pop, 1) := by decide +kernel
theorem dX2_actByDraws_53 : decode cX2_actByDraws 53 = .ok (.goto 103, 3) := by decide +kernel
theorem dX2_actByDraws_56 : decode cX2_actByDraws 56 = .ok (.iload_n 1, 1) := by decide +kernel
theorem dX2_actByDraws_57 : decode cX2_actByDraws 57 = .ok (.iconst 1, 1) := by decide +kernel
theorem dX2_actByDraws_58 : decode cX2_actByDraws 58 = .ok (.if_icmp .ne 36, 3) := by decide +kernel
theorem dX2_actByDraws_61 : decode cX2_actByDraws 61 = .ok (.aload_n 0, 1) := by decide +kernel
theorem dX2_actByDraws_62 : decode cX2_actByDraws 62 = .ok (.getfield 21, 3) := by decide +kernel
theorem dX2_actByDraws_65 : decode cX2_actByDraws 65 = .ok (.getfield 43, 3) := by decide +kernel
theorem dX2_actByDraws_68 : decode cX2_actByDraws 68 = .ok (.iload_n 2, 1) := by decide +kernel
theorem dX2_actByDraws_69 : decode cX2_actByDraws 69 = .ok (.iaload, 1) := by decide +kernel
theorem dX2_actByDraws_70 : decode cX2_actByDraws 70 = .ok (.iconst 1, 1) := by decide +kernel
theorem dX2_actByDraws_71 : decode cX2_actByDraws 71 = .ok (.if_icmp .ne 23, 3) := by decide +kernel
theorem dX2_actByDraws_74 : decode cX2_actByDraws 74 = .ok (.aload_n 0, 1) := by decide +kernel
theorem dX2_actByDraws_75 : decode cX2_actByDraws 75 = .ok (.invokevirtual 133, 3) := by decide +kernel
theorem dX2_actByDraws_78 : decode cX2_actByDraws 78 = .ok (.ifCond .le 16, 3) := by decide +kernel
theorem dX2_actByDraws_81 : decode cX2_actByDraws 81 = .ok (.aload_n 0, 1) := by decide +kernel
theorem dX2_actByDraws_82 : decode cX2_actByDraws 82 = .ok (.getfield 21, 3) := by decide +kernel
theorem dX2_actByDraws_85 : decode cX2_actByDraws 85 = .ok (.getfield 43, 3) := by decide +kernel
theorem dX2_actByDraws_88 : decode cX2_actByDraws 88 = .ok (.iload_n 2, 1) := by decide +kernel
theorem dX2_actByDraws_89 : decode cX2_actByDraws 89 = .ok (.iconst 2, 1) := by decide +kernel
theorem dX2_actByDraws_90 : decode cX2_actByDraws 90 = .ok (.iastore, 1) := by decide +kernel
theorem dX2_actByDraws_91 : decode cX2_actByDraws 91 = .ok (.goto 65, 3) := by decide +kernel
theorem dX2_actByDraws_94 : decode cX2_actByDraws 94 = .ok (.iload_n 1, 1) := by decide +kernel
theorem dX2_actByDraws_95 : decode cX2_actByDraws 95 = .ok (.iconst 2, 1) := by decide +kernel
theorem dX2_actByDraws_96 : decode cX2_actByDraws 96 = .ok (.if_icmp .ne 29, 3) := by decide +kernel
theorem dX2_actByDraws_99 : decode cX2_actByDraws 99 = .ok (.aload_n 0, 1) := by decide +kernel
theorem dX2_actByDraws_100 : decode cX2_actByDraws 100 = .ok (.getfield 21, 3) := by decide +kernel
theorem dX2_actByDraws_103 : decode cX2_actByDraws 103 = .ok (.getfield 43, 3) := by decide +kernel
theorem dX2_actByDraws_106 : decode cX2_actByDraws 106 = .ok (.iload_n 2, 1) := by decide +kernel
theorem dX2_actByDraws_107 : decode cX2_actByDraws 107 = .ok (.iaload, 1) := by decide +kernel
theorem dX2_actByDraws_108 : decode cX2_actByDraws 108 = .ok (.iconst 2, 1) := by decide +kernel
theorem dX2_actByDraws_109 : decode cX2_actByDraws 109 = .ok (.if_icmp .ne 16, 3) := by decide +kernel
theorem dX2_actByDraws_112 : decode cX2_actByDraws 112 = .ok (.aload_n 0, 1) := by decide +kernel
theorem dX2_actByDraws_113 : decode cX2_actByDraws 113 = .ok (.getfield 21, 3) := by decide +kernel
theorem dX2_actByDraws_116 : decode cX2_actByDraws 116 = .ok (.getfield 43, 3) := by decide +kernel
theorem dX2_actByDraws_119 : decode cX2_actByDraws 119 = .ok (.iload_n 2, 1) := by decide +kernel
theorem dX2_actByDraws_120 : decode cX2_actByDraws 120 = .ok (.iconst 1, 1) := by decide +kernel
theorem dX2_actByDraws_121 : decode cX2_actByDraws 121 = .ok (.iastore, 1) := by decide +kernel
theorem dX2_actByDraws_122 : decode cX2_actByDraws 122 = .ok (.goto 34, 3) := by decide +kernel
theorem dX2_actByDraws_125 : decode cX2_actByDraws 125 = .ok (.iload_n 1, 1) := by decide +kernel
theorem dX2_actByDraws_126 : decode cX2_actByDraws 126 = .ok (.iconst 3, 1) := by decide +kernel
theorem dX2_actByDraws_127 : decode cX2_actByDraws 127 = .ok (.if_icmp .ne 19, 3) := by decide +kernel
theorem dX2_actByDraws_130 : decode cX2_actByDraws 130 = .ok (.aload_n 0, 1) := by decide +kernel
theorem dX2_actByDraws_131 : decode cX2_actByDraws 131 = .ok (.iload_n 2, 1) := by decide +kernel
theorem dX2_actByDraws_132 : decode cX2_actByDraws 132 = .ok (.invokevirtual 136, 3) := by decide +kernel
theorem dX2_actByDraws_135 : decode cX2_actByDraws 135 = .ok (.ifCond .eq 11, 3) := by decide +kernel
theorem dX2_actByDraws_138 : decode cX2_actByDraws 138 = .ok (.aload_n 0, 1) := by decide +kernel
theorem dX2_actByDraws_139 : decode cX2_actByDraws 139 = .ok (.iload_n 2, 1) := by decide +kernel
theorem dX2_actByDraws_140 : decode cX2_actByDraws 140 = .ok (.invokevirtual 139, 3) := by decide +kernel
theorem dX2_actByDraws_143 : decode cX2_actByDraws 143 = .ok (.goto 13, 3) := by decide +kernel
theorem dX2_actByDraws_146 : decode cX2_actByDraws 146 = .ok (.iload_n 1, 1) := by decide +kernel
theorem dX2_actByDraws_147 : decode cX2_actByDraws 147 = .ok (.iconst 4, 1) := by decide +kernel
theorem dX2_actByDraws_148 : decode cX2_actByDraws 148 = .ok (.if_icmp .ne 8, 3) := by decide +kernel
theorem dX2_actByDraws_151 : decode cX2_actByDraws 151 = .ok (.aload_n 0, 1) := by decide +kernel
theorem dX2_actByDraws_152 : decode cX2_actByDraws 152 = .ok (.invokevirtual 143, 3) := by decide +kernel
theorem dX2_actByDraws_155 : decode cX2_actByDraws 155 = .ok (.pop, 1) := by decide +kernel
theorem dX2_actByDraws_156 : decode cX2_actByDraws 156 = .ok (.return_, 1) := by decide +kernel
theorem w_X2_actByDraws_146 {l : Launch} {D : zDD} {b : Nat} (x1 : Int32) (σ : zSg) (τ : zLm) {Q : zSg → zLm → Prop} (h : (¬ x1 = 4 → Q σ τ) ∧ (x1 = 4 → SI l D b M_X2_unload 0 G0 [.ref (b + 8)] σ τ (fun r2 σ2 τ2 => Q σ2 τ2))) : AV l D b M_X2_actByDraws 4 G0 Q 146 [(0, .ref (b + 8)), (1, .int x1)] [] G0 σ τ := by
  refine r_iload_n 1 dX2_actByDraws_146 rfl rfl ?_
  refine r_iconst dX2_actByDraws_147 ci_4 ?_
  refine r_icmp_ne (tgt := 156) dX2_actByDraws_148 (by decide) (fun c1 => ?_) (fun c1 => ?_)
  · replace h := h.1 c1
    exact r_vret rfl (Nat.le_refl _) (Nat.le_refl _) dX2_actByDraws_156 ⟨rfl, rfl, rfl, rfl, h⟩
  · replace h := h.2 c1
    refine r_aload_n 0 dX2_actByDraws_151 rfl rfl ?_
    refine rc_VI (h' := 0) [] okv_X2_unload (by decide) (congrArg Prod.fst k0_8) tw_683 rfl rfl (Nat.le_of_ble_eq_true rfl) dX2_actByDraws_152 (by decide) h (fun r2 σ2 τ2 h => ?_)
    refine r_pop dX2_actByDraws_155 rfl ?_
    exact r_vret rfl (Nat.le_refl _) (Nat.le_refl _) dX2_actByDraws_156 ⟨rfl, rfl, rfl, rfl, h⟩

theorem w_X2_actByDraws_125 {l : Launch} {D : zDD} {b : Nat} (x1 x2 : Int32) (σ : zSg) (τ : zLm) {Q : zSg → zLm → Prop} (h : (¬ x1 = 3 → AV l D b M_X2_actByDraws 4 G0 Q 146 [(0, .ref (b + 8)), (1, .int x1)] [] G0 σ τ) ∧ (x1 = 3 → (SI l D b M_X2_canBeBorne 3 G0 [.ref (b + 8), .int x2] σ τ (fun r2 σ2 τ2 => (r2 = 0 → AV l D b M_X2_actByDraws 4 G0 Q 146 [(0, .ref (b + 8)), (1, .int x1)] [] G0 σ2 τ2) ∧ (¬ r2 = 0 → SV l D b M_X2_shareOut 2 G0 [.ref (b + 8), .int x2] σ2 τ2 (fun σ4 τ4 => Q σ4 τ4)))))) : AV l D b M_X2_actByDraws 4 G0 Q 125 [(0, .ref (b + 8)), (1, .int x1), (2, .int x2)] [] G0 σ τ := by
  refine r_iload_n 1 dX2_actByDraws_125 rfl rfl ?_
  refine r_iconst dX2_actByDraws_126 ci_3 ?_
  refine r_icmp_ne (tgt := 146) dX2_actByDraws_127 (by decide) (fun c1 => ?_) (fun c1 => ?_)
  · replace h := h.1 c1
    refine r_lv [0, 1] rfl ?_
    exact h
  · replace h := h.2 c1
    refine r_aload_n 0 dX2_actByDraws_130 rfl rfl ?_
    refine r_iload_n 2 dX2_actByDraws_131 rfl rfl ?_
    refine rc_VI (h' := 3) [.int x2] okv_X2_canBeBorne (by decide) (congrArg Prod.fst k0_8) tw_681 rfl rfl (Nat.le_of_ble_eq_true rfl) dX2_actByDraws_132 (by decide) h (fun r2 σ2 τ2 h => ?_)
    refine r_if_eq (tgt := 146) dX2_actByDraws_135 (by decide) (fun c3 => ?_) (fun c3 => ?_)
    · replace h := h.1 c3
      refine r_lv [0, 1] rfl ?_
      exact h
    · replace h := h.2 c3
      refine r_aload_n 0 dX2_actByDraws_138 rfl rfl ?_
      refine r_iload_n 2 dX2_actByDraws_139 rfl rfl ?_
      refine rc_VV (h' := 2) [.int x2] okv_X2_shareOut (by decide) (congrArg Prod.fst k0_8) tw_682 rfl rfl (Nat.le_of_ble_eq_true rfl) dX2_actByDraws_140 (by decide) h (fun σ4 τ4 h => ?_)
      refine r_goto (tgt := 156) dX2_actByDraws_143 (by decide) ?_
      exact r_vret rfl (Nat.le_refl _) (Nat.le_refl _) dX2_actByDraws_156 ⟨rfl, rfl, rfl, rfl, h⟩

theorem w_X2_actByDraws_94 {l : Launch} {D : zDD} {b : Nat} (x1 x2 : Int32) (σ : zSg) (τ : zLm) {Q : zSg → zLm → Prop} (h : (¬ x1 = 2 → AV l D b M_X2_actByDraws 4 G0 Q 125 [(0, .ref (b + 8)), (1, .int x1), (2, .int x2)] [] G0 σ τ) ∧ (x1 = 2 → (vp_in x2 6 ∧ ((¬ (σ 15 x2.toNatClampNeg) = 2 → AV l D b M_X2_actByDraws 4 G0 Q 125 [(0, .ref (b + 8)), (1, .int x1), (2, .int x2)] [] G0 σ τ) ∧ ((σ 15 x2.toNatClampNeg) = 2 → (vp_in x2 6 ∧ Q (st2 σ 15 x2.toNatClampNeg 1) τ)))))) : AV l D b M_X2_actByDraws 4 G0 Q 94 [(0, .ref (b + 8)), (1, .int x1), (2, .int x2)] [] G0 σ τ := by
  refine r_iload_n 1 dX2_actByDraws_94 rfl rfl ?_
  refine r_iconst dX2_actByDraws_95 ci_2 ?_
  refine r_icmp_ne (tgt := 125) dX2_actByDraws_96 (by decide) (fun c1 => ?_) (fun c1 => ?_)
  · replace h := h.1 c1
    exact h
  · replace h := h.2 c1
    refine r_aload_n 0 dX2_actByDraws_99 rfl rfl ?_
    refine r_getR (j := 1) (by decide) (congrArg Prod.fst k0_8) c12_2 (by decide) rfl g0_8_1 tw_174 dX2_actByDraws_100 ?_
    refine r_getR (j := 2) (by decide) (congrArg Prod.fst k0_14) c12_8 (by decide) rfl g0_14_2 tw_121 dX2_actByDraws_103 ?_
    refine r_iload_n 2 dX2_actByDraws_106 rfl rfl ?_
    refine r_iald (by decide) k0_15 dX2_actByDraws_107 h.1 ?_
    replace h := h.2
    refine r_iconst dX2_actByDraws_108 ci_2 ?_
    refine r_icmp_ne (tgt := 125) dX2_actByDraws_109 (by decide) (fun c2 => ?_) (fun c2 => ?_)
    · replace h := h.1 c2
      exact h
    · replace h := h.2 c2
      refine r_aload_n 0 dX2_actByDraws_112 rfl rfl ?_
      refine r_getR (j := 1) (by decide) (congrArg Prod.fst k0_8) c12_2 (by decide) rfl g0_8_1 tw_174 dX2_actByDraws_113 ?_
      refine r_getR (j := 2) (by decide) (congrArg Prod.fst k0_14) c12_8 (by decide) rfl g0_14_2 tw_121 dX2_actByDraws_116 ?_
      refine r_iload_n 2 dX2_actByDraws_119 rfl rfl ?_
      refine r_iconst dX2_actByDraws_120 ci_1 ?_
      refine r_iast (by decide) k0_15 dX2_actByDraws_121 h.1 ?_
      replace h := h.2
      refine r_goto (tgt := 156) dX2_actByDraws_122 (by decide) ?_
      exact r_vret rfl (Nat.le_refl _) (Nat.le_refl _) dX2_actByDraws_156 ⟨rfl, rfl, rfl, rfl, h⟩

theorem w_X2_actByDraws_56 {l : Launch} {D : zDD} {b : Nat} (x1 x2 : Int32) (σ : zSg) (τ : zLm) {Q : zSg → zLm → Prop} (h : (¬ x1 = 1 → AV l D b M_X2_actByDraws 4 G0 Q 94 [(0, .ref (b + 8)), (1, .int x1), (2, .int x2)] [] G0 σ τ) ∧ (x1 = 1 → (vp_in x2 6 ∧ ((¬ (σ 15 x2.toNatClampNeg) = 1 → AV l D b M_X2_actByDraws 4 G0 Q 94 [(0, .ref (b + 8)), (1, .int x1), (2, .int x2)] [] G0 σ τ) ∧ ((σ 15 x2.toNatClampNeg) = 1 → (SI l D b M_X2_freePots 1 G0 [.ref (b + 8)] σ τ (fun r3 σ3 τ3 => (r3 ≤ 0 → AV l D b M_X2_actByDraws 4 G0 Q 94 [(0, .ref (b + 8)), (1, .int x1), (2, .int x2)] [] G0 σ3 τ3) ∧ (¬ r3 ≤ 0 → (vp_in x2 6 ∧ Q (st2 σ3 15 x2.toNatClampNeg 2) τ3))))))))) : AV l D b M_X2_actByDraws 4 G0 Q 56 [(0, .ref (b + 8)), (1, .int x1), (2, .int x2)] [] G0 σ τ := by
  refine r_iload_n 1 dX2_actByDraws_56 rfl rfl ?_
  refine r_iconst dX2_actByDraws_57 ci_1 ?_
  refine r_icmp_ne (tgt := 94) dX2_actByDraws_58 (by decide) (fun c1 => ?_) (fun c1 => ?_)
  · replace h := h.1 c1
    exact h
  · replace h := h.2 c1
    refine r_aload_n 0 dX2_actByDraws_61 rfl rfl ?_
    refine r_getR (j := 1) (by decide) (congrArg Prod.fst k0_8) c12_2 (by decide) rfl g0_8_1 tw_174 dX2_actByDraws_62 ?_
    refine r_getR (j := 2) (by decide) (congrArg Prod.fst k0_14) c12_8 (by decide) rfl g0_14_2 tw_121 dX2_actByDraws_65 ?_
    refine r_iload_n 2 dX2_actByDraws_68 rfl rfl ?_
    refine r_iald (by decide) k0_15 dX2_actByDraws_69 h.1 ?_
    replace h := h.2
    refine r_iconst dX2_actByDraws_70 ci_1 ?_
    refine r_icmp_ne (tgt := 94) dX2_actByDraws_71 (by decide) (fun c2 => ?_) (fun c2 => ?_)
    · replace h := h.1 c2
      exact h
    · replace h := h.2 c2
      refine r_aload_n 0 dX2_actByDraws_74 rfl rfl ?_
      refine rc_VI (h' := 1) [] okv_X2_freePots (by decide) (congrArg Prod.fst k0_8) tw_680 rfl rfl (Nat.le_of_ble_eq_true rfl) dX2_actByDraws_75 (by decide) h (fun r3 σ3 τ3 h => ?_)
      refine r_if_le (tgt := 94) dX2_actByDraws_78 (by decide) (fun c4 => ?_) (fun c4 => ?_)
      · replace h := h.1 c4
        exact h
      · replace h := h.2 c4
        refine r_aload_n 0 dX2_actByDraws_81 rfl rfl ?_
        refine r_getR (j := 1) (by decide) (congrArg Prod.fst k0_8) c12_2 (by decide) rfl g0_8_1 tw_174 dX2_actByDraws_82 ?_
        refine r_getR (j := 2) (by decide) (congrArg Prod.fst k0_14) c12_8 (by decide) rfl g0_14_2 tw_121 dX2_actByDraws_85 ?_
        refine r_iload_n 2 dX2_actByDraws_88 rfl rfl ?_
        refine r_iconst dX2_actByDraws_89 ci_2 ?_
        refine r_iast (by decide) k0_15 dX2_actByDraws_90 h.1 ?_
        replace h := h.2
        refine r_goto (tgt := 156) dX2_actByDraws_91 (by decide) ?_
        exact r_vret rfl (Nat.le_refl _) (Nat.le_refl _) dX2_actByDraws_156 ⟨rfl, rfl, rfl, rfl, h⟩

theorem w_X2_actByDraws_0 {l : Launch} {D : zDD} {b : Nat} (σ : zSg) (τ : zLm) {Q : zSg → zLm → Prop} (h : (0 < (σ 9 2) → (SI l D b M_X3_draw 0 G0 [.ref (b + 22), .int 5] σ τ (fun r2 σ2 τ2 => SI l D b M_X3_draw 0 G0 [.ref (b + 22), .int (σ2 9 2)] σ2 τ2 (fun r3 σ3 τ3 => (¬ r2 = 0 → AV l D b M_X2_actByDraws 4 G0 Q 56 [(0, .ref (b + 8)), (1, .int r2), (2, .int r3)] [] G0 σ3 τ3) ∧ (r2 = 0 → (SI l D b M_X2_canBeWrapped 0 G0 [.ref (b + 8), .int r3] σ3 τ3 (fun r5 σ5 τ5 => (r5 = 0 → AV l D b M_X2_actByDraws 4 G0 Q 56 [(0, .ref (b + 8)), (1, .int r2), (2, .int r3)] [] G0 σ5 τ5) ∧ (¬ r5 = 0 → SI l D b M_X2_putInSuet 3 G0 [.ref (b + 8), .int r3] σ5 τ5 (fun r7 σ7 τ7 => Q σ7 τ7))))))))) ∧ (¬ 0 < (σ 9 2) → Q σ τ)) : AV l D b M_X2_actByDraws 4 G0 Q 0 [(0, .ref (b + 8))] [] G0 σ τ := by
  refine r_aload_n 0 dX2_actByDraws_0 rfl rfl ?_
  refine r_getR (j := 0) (by decide) (congrArg Prod.fst k0_8) c12_2 (by decide) rfl g0_8_0 tw_172 dX2_actByDraws_1 ?_
  refine r_getI (j := 2) (by decide) (congrArg Prod.fst k0_9) c12_6 (by decide) rfl tw_64 dX2_actByDraws_4 ?_
  refine r_if_gt (tgt := 11) dX2_actByDraws_7 (by decide) (fun c1 => ?_) (fun c1 => ?_)
  · replace h := h.1 c1
    refine r_aload_n 0 dX2_actByDraws_11 rfl rfl ?_
    refine r_getR (j := 3) (by decide) (congrArg Prod.fst k0_8) c12_2 (by decide) rfl g0_8_3 tw_178 dX2_actByDraws_12 ?_
    refine r_iconst dX2_actByDraws_15 ci_5 ?_
    refine rc_VI (h' := 0) [.int 5] okv_X3_draw (by decide) (congrArg Prod.fst k0_22) tw_671 rfl rfl (Nat.le_of_ble_eq_true rfl) dX2_actByDraws_16 (by decide) h (fun r2 σ2 τ2 h => ?_)
    refine r_istore_n dX2_actByDraws_19 rfl (by decide) rfl ?_
    refine r_aload_n 1 dX2_actByDraws_20 rfl rfl ?_
    refine r_getR (j := 3) (by decide) (congrArg Prod.fst k0_8) c12_2 (by decide) rfl g0_8_3 tw_178 dX2_actByDraws_21 ?_
    refine r_aload_n 1 dX2_actByDraws_24 rfl rfl ?_
    refine r_getR (j := 0) (by decide) (congrArg Prod.fst k0_8) c12_2 (by decide) rfl g0_8_0 tw_172 dX2_actByDraws_25 ?_
    refine r_getI (j := 2) (by decide) (congrArg Prod.fst k0_9) c12_6 (by decide) rfl tw_64 dX2_actByDraws_28 ?_
    refine rc_VI (h' := 0) [.int (σ2 9 2)] okv_X3_draw (by decide) (congrArg Prod.fst k0_22) tw_671 rfl rfl (Nat.le_of_ble_eq_true rfl) dX2_actByDraws_31 (by decide) h (fun r3 σ3 τ3 h => ?_)
    refine r_istore_n dX2_actByDraws_34 rfl (by decide) rfl ?_
    refine r_iload_n 1 dX2_actByDraws_35 rfl rfl ?_
    refine r_if_ne (tgt := 56) dX2_actByDraws_36 (by decide) (fun c4 => ?_) (fun c4 => ?_)
    · replace h := h.1 c4
      refine r_lv [2, 1, 0] rfl ?_
      exact h
    · replace h := h.2 c4
      refine r_aload_n 2 dX2_actByDraws_39 rfl rfl ?_
      refine r_iload_n 0 dX2_actByDraws_40 rfl rfl ?_
      refine rc_VI (h' := 0) [.int r3] okv_X2_canBeWrapped (by decide) (congrArg Prod.fst k0_8) tw_678 rfl rfl (Nat.le_of_ble_eq_true rfl) dX2_actByDraws_41 (by decide) h (fun r5 σ5 τ5 h => ?_)
      refine r_if_eq (tgt := 56) dX2_actByDraws_44 (by decide) (fun c6 => ?_) (fun c6 => ?_)
      · replace h := h.1 c6
        refine r_lv [2, 1, 0] rfl ?_
        exact h
      · replace h := h.2 c6
        refine r_aload_n 2 dX2_actByDraws_47 rfl rfl ?_
        refine r_iload_n 0 dX2_actByDraws_48 rfl rfl ?_
        refine rc_VI (h' := 3) [.int r3] okv_X2_putInSuet (by decide) (congrArg Prod.fst k0_8) tw_679 rfl rfl (Nat.le_of_ble_eq_true rfl) dX2_actByDraws_49 (by decide) h (fun r7 σ7 τ7 h => ?_)
        refine r_pop dX2_actByDraws_52 rfl ?_
        refine r_goto (tgt := 156) dX2_actByDraws_53 (by decide) ?_
        exact r_vret rfl (Nat.le_refl _) (Nat.le_refl _) dX2_actByDraws_156 ⟨rfl, rfl, rfl, rfl, h⟩
  · replace h := h.2 c1
    exact r_vret rfl (Nat.le_refl _) (Nat.le_refl _) dX2_actByDraws_10 ⟨rfl, rfl, rfl, rfl, h⟩
theorem s_X2_actByDraws {l : Launch} {D : zDD} {b : Nat} (σ : zSg) (τ : zLm) {Q : zSg → zLm → Prop} (h : (0 < (σ 9 2) → (SI l D b M_X3_draw 0 G0 [.ref (b + 22), .int 5] σ τ (fun r2 σ2 τ2 => SI l D b M_X3_draw 0 G0 [.ref (b + 22), .int (σ2 9 2)] σ2 τ2 (fun r3 σ3 τ3 => (¬ r2 = 0 → AV l D b M_X2_actByDraws 4 G0 Q 56 [(0, .ref (b + 8)), (1, .int r2), (2, .int r3)] [] G0 σ3 τ3) ∧ (r2 = 0 → (SI l D b M_X2_canBeWrapped 0 G0 [.ref (b + 8), .int r3] σ3 τ3 (fun r5 σ5 τ5 => (r5 = 0 → AV l D b M_X2_actByDraws 4 G0 Q 56 [(0, .ref (b + 8)), (1, .int r2), (2, .int r3)] [] G0 σ5 τ5) ∧ (¬ r5 = 0 → SI l D b M_X2_putInSuet 3 G0 [.ref (b + 8), .int r3] σ5 τ5 (fun r7 σ7 τ7 => Q σ7 τ7))))))))) ∧ (¬ 0 < (σ 9 2) → Q σ τ)) : SV l D b M_X2_actByDraws 4 G0 [.ref (b + 8)] σ τ Q := zS.of (by decide) (Nat.le_of_ble_eq_true rfl) rfl (w_X2_actByDraws_0 σ τ h)

