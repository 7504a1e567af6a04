theorem dX1_add_0 : decode cX1_add 0 = .ok (.iload_n 2, 1) := by decide +kernel
theorem dX1_add_1 : decode cX1_add 1 = .ok (.ifCond .eq 18, 3) := by decide +kernel
theorem dX1_add_4 : decode cX1_add 4 = .ok (.aload_n 0, 1) := by decide +kernel
theorem dX1_add_5 : decode cX1_add 5 = .ok (.dup, 1) := by decide +kernel
theorem dX1_add_6 : decode cX1_add 6 = .ok (.getfield 15, 3) := by decide +kernel
theorem dX1_add_9 : decode cX1_add 9 = .ok (.iconst 1, 1) := by decide +kernel
theorem dX1_add_10 : decode cX1_add 10 = .ok (.iload_n 1, 1) := by decide +kernel
theorem dX1_add_11 : decode cX1_add 11 = .ok (.ishl, 1) := by decide +kernel
theorem dX1_add_12 : decode cX1_add 12 = .ok (.ior, 1) := by decide +kernel
theorem dX1_add_13 : decode cX1_add 13 = .ok (.putfield 15, 3) := by decide +kernel
theorem dX1_add_16 : decode cX1_add 16 = .ok (.goto 15, 3) := by decide +kernel
theorem dX1_add_19 : decode cX1_add 19 = .ok (.aload_n 0, 1) := by decide +kernel
theorem dX1_add_20 : decode cX1_add 20 = .ok (.dup, 1) := by decide +kernel
theorem dX1_add_21 : decode cX1_add 21 = .ok (.getfield 19, 3) := by decide +kernel
theorem dX1_add_24 : decode cX1_add 24 = .ok (.iconst 1, 1) := by decide +kernel
theorem dX1_add_25 : decode cX1_add 25 = .ok (.iload_n 1, 1) := by decide +kernel
theorem dX1_add_26 : decode cX1_add 26 = .ok (.ishl, 1) := by decide +kernel
theorem dX1_add_27 : decode cX1_add 27 = .ok (.ior, 1) := by decide +kernel
theorem dX1_add_28 : decode cX1_add 28 = .ok (.putfield 19, 3) := by decide +kernel
theorem dX1_add_31 : decode cX1_add 31 = .ok (.aload_n 0, 1) := by decide +kernel
theorem dX1_add_32 : decode cX1_add 32 = .ok (.dup, 1) := by decide +kernel
theorem dX1_add_33 : decode cX1_add 33 = .ok (.getfield 22, 3) := by decide +kernel
theorem dX1_add_36 : decode cX1_add 36 = .ok (.iconst 1, 1) := by decide +kernel
theorem dX1_add_37 : decode cX1_add 37 = .ok (.iadd, 1) := by decide +kernel
theorem dX1_add_38 : decode cX1_add 38 = .ok (.putfield 22, 3) := by decide +kernel
theorem dX1_add_41 : decode cX1_add 41 = .ok (.aload_n 0, 1) := by decide +kernel
theorem dX1_add_42 : decode cX1_add 42 = .ok (.getfield 22, 3) := by decide +kernel
theorem dX1_add_45 : decode cX1_add 45 = .ok (.ireturn, 1) := by decide +kernel
theorem w_X1_add_0 {l : Launch} {D : zDD} {b : Nat} (p1 p2 : Int32) (σ : zSg) (τ : zLm) {Q : Int32 → zSg → zLm → Prop} (h : (p2 = 0 → (∀ σ2 : zSg, σ2 = st2 (st2 σ 120 2 ((σ 120 2) ||| ((1 : Int32) <<< (p1 &&& 31)))) 120 0 (((st2 σ 120 2 ((σ 120 2) ||| ((1 : Int32) <<< (p1 &&& 31)))) 120 0) + 1) → Q (σ2 120 0) σ2 τ)) ∧ (¬ p2 = 0 → (∀ σ3 : zSg, σ3 = st2 (st2 σ 120 1 ((σ 120 1) ||| ((1 : Int32) <<< (p1 &&& 31)))) 120 0 (((st2 σ 120 1 ((σ 120 1) ||| ((1 : Int32) <<< (p1 &&& 31)))) 120 0) + 1) → Q (σ3 120 0) σ3 τ))) : AI l D b M_X1_add 0 G0 Q 0 [(0, .ref (b + 120)), (1, .int p1), (2, .int p2)] [] G0 σ τ := by
  refine r_iload_n 2 dX1_add_0 rfl rfl ?_
  refine r_if_eq (tgt := 19) dX1_add_1 (by decide) (fun c1 => ?_) (fun c1 => ?_)
  · replace h := h.1 c1
    refine r_aload_n 0 dX1_add_19 rfl rfl ?_
    refine r_dup dX1_add_20 rfl ?_
    refine r_getI (j := 2) (by decide) (congrArg Prod.fst k0_120) c12_1 (by decide) rfl tw_250 dX1_add_21 ?_
    refine r_iconst dX1_add_24 ci_1 ?_
    refine r_iload_n 1 dX1_add_25 rfl rfl ?_
    refine r_ishl dX1_add_26 ?_
    refine r_ior dX1_add_27 ?_
    refine r_putI (j := 2) (by decide) (congrArg Prod.fst k0_120) c12_1 (by decide) rfl (Or.inl rfl) tw_250 dX1_add_28 ?_
    refine r_aload_n 0 dX1_add_31 rfl rfl ?_
    refine r_dup dX1_add_32 rfl ?_
    refine r_getI (j := 0) (by decide) (congrArg Prod.fst k0_120) c12_1 (by decide) rfl tw_247 dX1_add_33 ?_
    refine r_iconst dX1_add_36 ci_1 ?_
    refine r_iadd dX1_add_37 ?_
    refine r_putI (j := 0) (by decide) (congrArg Prod.fst k0_120) c12_1 (by decide) rfl (Or.inl rfl) tw_247 dX1_add_38 ?_
    refine r_nmS (fun σ2 eσ2 => ?_)
    replace h := h σ2 eσ2
    refine r_aload_n 0 dX1_add_41 rfl rfl ?_
    refine r_getI (j := 0) (by decide) (congrArg Prod.fst k0_120) c12_1 (by decide) rfl tw_247 dX1_add_42 ?_
    exact r_iret rfl (Nat.le_refl _) (Nat.le_refl _) dX1_add_45 ⟨rfl, rfl, rfl, _, rfl, h⟩
  · replace h := h.2 c1
    refine r_aload_n 0 dX1_add_4 rfl rfl ?_
    refine r_dup dX1_add_5 rfl ?_
    refine r_getI (j := 1) (by decide) (congrArg Prod.fst k0_120) c12_1 (by decide) rfl tw_249 dX1_add_6 ?_
    refine r_iconst dX1_add_9 ci_1 ?_
    refine r_iload_n 1 dX1_add_10 rfl rfl ?_
    refine r_ishl dX1_add_11 ?_
    refine r_ior dX1_add_12 ?_
    refine r_putI (j := 1) (by decide) (congrArg Prod.fst k0_120) c12_1 (by decide) rfl (Or.inl rfl) tw_249 dX1_add_13 ?_
    refine r_goto (tgt := 31) dX1_add_16 (by decide) ?_
    refine r_aload_n 0 dX1_add_31 rfl rfl ?_
    refine r_dup dX1_add_32 rfl ?_
    refine r_getI (j := 0) (by decide) (congrArg Prod.fst k0_120) c12_1 (by decide) rfl tw_247 dX1_add_33 ?_
    refine r_iconst dX1_add_36 ci_1 ?_
    refine r_iadd dX1_add_37 ?_
    refine r_putI (j := 0) (by decide) (congrArg Prod.fst k0_120) c12_1 (by decide) rfl (Or.inl rfl) tw_247 dX1_add_38 ?_
    refine r_nmS (fun σ3 eσ3 => ?_)
    replace h := h σ3 eσ3
    refine r_aload_n 0 dX1_add_41 rfl rfl ?_
    refine r_getI (j := 0) (by decide) (congrArg Prod.fst k0_120) c12_1 (by decide) rfl tw_247 dX1_add_42 ?_
    exact r_iret rfl (Nat.le_refl _) (Nat.le_refl _) dX1_add_45 ⟨rfl, rfl, rfl, _, rfl, h⟩
theorem s_X1_add {l : Launch} {D : zDD} {b : Nat} (p1 p2 : Int32) (σ : zSg) (τ : zLm) {Q : Int32 → zSg → zLm → Prop} (h : (p2 = 0 → (∀ σ2 : zSg, σ2 = st2 (st2 σ 120 2 ((σ 120 2) ||| ((1 : Int32) <<< (p1 &&& 31)))) 120 0 (((st2 σ 120 2 ((σ 120 2) ||| ((1 : Int32) <<< (p1 &&& 31)))) 120 0) + 1) → Q (σ2 120 0) σ2 τ)) ∧ (¬ p2 = 0 → (∀ σ3 : zSg, σ3 = st2 (st2 σ 120 1 ((σ 120 1) ||| ((1 : Int32) <<< (p1 &&& 31)))) 120 0 (((st2 σ 120 1 ((σ 120 1) ||| ((1 : Int32) <<< (p1 &&& 31)))) 120 0) + 1) → Q (σ3 120 0) σ3 τ))) : SI l D b M_X1_add 0 G0 [.ref (b + 120), .int p1, .int p2] σ τ Q := zS.of (by decide) (Nat.le_of_ble_eq_true rfl) rfl (w_X1_add_0 p1 p2 σ τ h)

theorem dX1_clear_0 : decode cX1_clear 0 = .ok (.aload_n 0, 1) := by decide +kernel
theorem dX1_clear_1 : decode cX1_clear 1 = .ok (.iconst 0, 1) := by decide +kernel
theorem dX1_clear_2 : decode cX1_clear 2 = .ok (.putfield 22, 3) := by decide +kernel
theorem dX1_clear_5 : decode cX1_clear 5 = .ok (.aload_n 0, 1) := by decide +kernel
theorem dX1_clear_6 : decode cX1_clear 6 = .ok (.iconst 0, 1) := by decide +kernel
theorem dX1_clear_7 : decode cX1_clear 7 = .ok (.putfield 15, 3) := by decide +kernel
theorem dX1_clear_10 : decode cX1_clear 10 = .ok (.aload_n 0, 1) := by decide +kernel
theorem dX1_clear_11 : decode cX1_clear 11 = .ok (.iconst 0, 1) := by decide +kernel
theorem dX1_clear_12 : decode cX1_clear 12 = .ok (.putfield 19, 3) := by decide +kernel
theorem dX1_clear_15 : decode cX1_clear 15 = .ok (.return_, 1) := by decide +kernel
theorem w_X1_clear_0 {l : Launch} {D : zDD} {b : Nat} (σ : zSg) (τ : zLm) {Q : zSg → zLm → Prop} (h : Q (st2 (st2 (st2 σ 120 0 0) 120 1 0) 120 2 0) τ) : AV l D b M_X1_clear 0 G0 Q 0 [(0, .ref (b + 120))] [] G0 σ τ := by
  refine r_aload_n 0 dX1_clear_0 rfl rfl ?_
  refine r_iconst dX1_clear_1 ci_0 ?_
  refine r_putI (j := 0) (by decide) (congrArg Prod.fst k0_120) c12_1 (by decide) rfl (Or.inl rfl) tw_247 dX1_clear_2 ?_
  refine r_aload_n 0 dX1_clear_5 rfl rfl ?_
  refine r_iconst dX1_clear_6 ci_0 ?_
  refine r_putI (j := 1) (by decide) (congrArg Prod.fst k0_120) c12_1 (by decide) rfl (Or.inl rfl) tw_249 dX1_clear_7 ?_
  refine r_aload_n 0 dX1_clear_10 rfl rfl ?_
  refine r_iconst dX1_clear_11 ci_0 ?_
  refine r_putI (j := 2) (by decide) (congrArg Prod.fst k0_120) c12_1 (by decide) rfl (Or.inl rfl) tw_250 dX1_clear_12 ?_
  exact r_vret rfl (Nat.le_refl _) (Nat.le_refl _) dX1_clear_15 ⟨rfl, rfl, rfl, rfl, h⟩
theorem s_X1_clear {l : Launch} {D : zDD} {b : Nat} (σ : zSg) (τ : zLm) {Q : zSg → zLm → Prop} (h : Q (st2 (st2 (st2 σ 120 0 0) 120 1 0) 120 2 0) τ) : SV l D b M_X1_clear 0 G0 [.ref (b + 120)] σ τ Q := zS.of (by decide) (Nat.le_of_ble_eq_true rfl) rfl (w_X1_clear_0 σ τ h)

theorem dX1_countPair_0 : decode cX1_countPair 0 = .ok (.aload_n 0, 1) := by decide +kernel
theorem dX1_countPair_1 : decode cX1_countPair 1 = .ok (.dup, 1) := by decide +kernel
theorem dX1_countPair_2 : decode cX1_countPair 2 = .ok (.getfield 32, 3) := by decide +kernel
theorem dX1_countPair_5 : decode cX1_countPair 5 = .ok (.iconst 1, 1) := by decide +kernel
theorem dX1_countPair_6 : decode cX1_countPair 6 = .ok (.iadd, 1) := by decide +kernel
theorem dX1_countPair_7 : decode cX1_countPair 7 = .ok (.putfield 32, 3) := by decide +kernel
theorem dX1_countPair_10 : decode cX1_countPair 10 = .ok (.iconst 0, 1) := by decide +kernel
theorem dX1_countPair_11 : decode cX1_countPair 11 = .ok (.istore_n 2, 1) := by decide +kernel
theorem dX1_countPair_12 : decode cX1_countPair 12 = .ok (.iload_n 2, 1) := by decide +kernel
theorem dX1_countPair_13 : decode cX1_countPair 13 = .ok (.bipush 25, 2) := by decide +kernel
theorem dX1_countPair_15 : decode cX1_countPair 15 = .ok (.if_icmp .ge 23, 3) := by decide +kernel
theorem dX1_countPair_18 : decode cX1_countPair 18 = .ok (.aload_n 0, 1) := by decide +kernel
theorem dX1_countPair_19 : decode cX1_countPair 19 = .ok (.getfield 9, 3) := by decide +kernel
theorem dX1_countPair_22 : decode cX1_countPair 22 = .ok (.iload_n 2, 1) := by decide +kernel
theorem dX1_countPair_23 : decode cX1_countPair 23 = .ok (.dup2, 1) := by decide +kernel
theorem dX1_countPair_24 : decode cX1_countPair 24 = .ok (.iaload, 1) := by decide +kernel
theorem dX1_countPair_25 : decode cX1_countPair 25 = .ok (.iload_n 1, 1) := by decide +kernel
theorem dX1_countPair_26 : decode cX1_countPair 26 = .ok (.iload_n 2, 1) := by decide +kernel
theorem dX1_countPair_27 : decode cX1_countPair 27 = .ok (.ishr, 1) := by decide +kernel
theorem dX1_countPair_28 : decode cX1_countPair 28 = .ok (.iconst 1, 1) := by decide +kernel
theorem dX1_countPair_29 : decode cX1_countPair 29 = .ok (.iand, 1) := by decide +kernel
theorem dX1_countPair_30 : decode cX1_countPair 30 = .ok (.iadd, 1) := by decide +kernel
theorem dX1_countPair_31 : decode cX1_countPair 31 = .ok (.iastore, 1) := by decide +kernel
theorem dX1_countPair_32 : decode cX1_countPair 32 = .ok (.iinc 2 1, 3) := by decide +kernel
theorem dX1_countPair_35 : decode cX1_countPair 35 = .ok (.goto (-23), 3) := by decide +kernel
theorem dX1_countPair_38 : decode cX1_countPair 38 = .ok (.return_, 1) := by decide +kernel
theorem w_X1_countPair_12 {l : Launch} {D : zDD} {b : Nat} (x1 x2 : Int32) (σ : zSg) (τ : zLm) {Q : zSg → zLm → Prop} (h : (25 ≤ x2 → Q σ τ) ∧ (¬ 25 ≤ x2 → (vp_in x2 25 ∧ (vp_in x2 25 ∧ AV l D b M_X1_countPair 0 G0 Q 12 [(0, .ref (b + 120)), (1, .int x1), (2, .int (x2 + 1))] [] G0 (st2 σ 121 x2.toNatClampNeg ((σ 121 x2.toNatClampNeg) + ((x1 >>> (x2 &&& 31)) &&& 1))) τ)))) : AV l D b M_X1_countPair 0 G0 Q 12 [(0, .ref (b + 120)), (1, .int x1), (2, .int x2)] [] G0 σ τ := by
  refine r_iload_n 2 dX1_countPair_12 rfl rfl ?_
  refine r_bipush dX1_countPair_13 cb_25 ?_
  refine r_icmp_ge (tgt := 38) dX1_countPair_15 (by decide) (fun c1 => ?_) (fun c1 => ?_)
  · replace h := h.1 c1
    exact r_vret rfl (Nat.le_refl _) (Nat.le_refl _) dX1_countPair_38 ⟨rfl, rfl, rfl, rfl, h⟩
  · replace h := h.2 c1
    refine r_aload_n 0 dX1_countPair_18 rfl rfl ?_
    refine r_getR (j := 5) (by decide) (congrArg Prod.fst k0_120) c12_1 (by decide) rfl g0_120_5 tw_253 dX1_countPair_19 ?_
    refine r_iload_n 2 dX1_countPair_22 rfl rfl ?_
    refine r_dup2 dX1_countPair_23 rfl rfl ?_
    refine r_iald (by decide) k0_121 dX1_countPair_24 h.1 ?_
    replace h := h.2
    refine r_iload_n 1 dX1_countPair_25 rfl rfl ?_
    refine r_iload_n 2 dX1_countPair_26 rfl rfl ?_
    refine r_ishr dX1_countPair_27 ?_
    refine r_iconst dX1_countPair_28 ci_1 ?_
    refine r_iand dX1_countPair_29 ?_
    refine r_iadd dX1_countPair_30 ?_
    refine r_iast (by decide) k0_121 dX1_countPair_31 h.1 ?_
    replace h := h.2
    refine r_inc 2 dX1_countPair_32 rfl ci_1 (by decide) rfl ?_
    refine r_goto (tgt := 12) dX1_countPair_35 (by decide) ?_
    refine r_lv [1, 2, 0] rfl ?_
    exact h

theorem w_X1_countPair_0 {l : Launch} {D : zDD} {b : Nat} (p1 : Int32) (σ : zSg) (τ : zLm) {Q : zSg → zLm → Prop} (h : AV l D b M_X1_countPair 0 G0 Q 12 [(0, .ref (b + 120)), (1, .int p1), (2, .int 0)] [] G0 (st2 σ 120 4 ((σ 120 4) + 1)) τ) : AV l D b M_X1_countPair 0 G0 Q 0 [(0, .ref (b + 120)), (1, .int p1)] [] G0 σ τ := by
  refine r_aload_n 0 dX1_countPair_0 rfl rfl ?_
  refine r_dup dX1_countPair_1 rfl ?_
  refine r_getI (j := 4) (by decide) (congrArg Prod.fst k0_120) c12_1 (by decide) rfl tw_252 dX1_countPair_2 ?_
  refine r_iconst dX1_countPair_5 ci_1 ?_
  refine r_iadd dX1_countPair_6 ?_
  refine r_putI (j := 4) (by decide) (congrArg Prod.fst k0_120) c12_1 (by decide) rfl (Or.inl rfl) tw_252 dX1_countPair_7 ?_
  refine r_iconst dX1_countPair_10 ci_0 ?_
  refine r_istore_n dX1_countPair_11 rfl (by decide) rfl ?_
  refine r_lv [1, 2, 0] rfl ?_
  exact h
theorem s_X1_countPair {l : Launch} {D : zDD} {b : Nat} (p1 : Int32) (σ : zSg) (τ : zLm) {Q : zSg → zLm → Prop} (h : AV l D b M_X1_countPair 0 G0 Q 12 [(0, .ref (b + 120)), (1, .int p1), (2, .int 0)] [] G0 (st2 σ 120 4 ((σ 120 4) + 1)) τ) : SV l D b M_X1_countPair 0 G0 [.ref (b + 120), .int p1] σ τ Q := zS.of (by decide) (Nat.le_of_ble_eq_true rfl) rfl (w_X1_countPair_0 p1 σ τ h)

theorem dX1_feelMoves_0 : decode cX1_feelMoves 0 = .ok (.iload_n 1, 1) := by decide +kernel
theorem dX1_feelMoves_1 : decode cX1_feelMoves 1 = .ok (.invokestatic 55, 3) := by decide +kernel
theorem dX1_feelMoves_4 : decode cX1_feelMoves 4 = .ok (.istore_n 2, 1) := by decide +kernel
theorem dX1_feelMoves_5 : decode cX1_feelMoves 5 = .ok (.iload_n 1, 1) := by decide +kernel
theorem dX1_feelMoves_6 : decode cX1_feelMoves 6 = .ok (.invokestatic 61, 3) := by decide +kernel
theorem dX1_feelMoves_9 : decode cX1_feelMoves 9 = .ok (.istore_n 3, 1) := by decide +kernel
theorem dX1_feelMoves_10 : decode cX1_feelMoves 10 = .ok (.iconst 0, 1) := by decide +kernel
theorem dX1_feelMoves_11 : decode cX1_feelMoves 11 = .ok (.istore 4, 2) := by decide +kernel
theorem dX1_feelMoves_13 : decode cX1_feelMoves 13 = .ok (.iload 4, 2) := by decide +kernel
theorem dX1_feelMoves_15 : decode cX1_feelMoves 15 = .ok (.iload_n 2, 1) := by decide +kernel
theorem dX1_feelMoves_16 : decode cX1_feelMoves 16 = .ok (.if_icmp .ge 63, 3) := by decide +kernel
theorem dX1_feelMoves_19 : decode cX1_feelMoves 19 = .ok (.iconst 0, 1) := by decide +kernel
theorem dX1_feelMoves_20 : decode cX1_feelMoves 20 = .ok (.istore 5, 2) := by decide +kernel
theorem dX1_feelMoves_22 : decode cX1_feelMoves 22 = .ok (.iload 5, 2) := by decide +kernel
theorem dX1_feelMoves_24 : decode cX1_feelMoves 24 = .ok (.iload_n 3, 1) := by decide +kernel
theorem dX1_feelMoves_25 : decode cX1_feelMoves 25 = .ok (.if_icmp .ge 48, 3) := by decide +kernel
theorem dX1_feelMoves_28 : decode cX1_feelMoves 28 = .ok (.iload_n 1, 1) := by decide +kernel
theorem dX1_feelMoves_29 : decode cX1_feelMoves 29 = .ok (.iconst 5, 1) := by decide +kernel
theorem dX1_feelMoves_30 : decode cX1_feelMoves 30 = .ok (.iload 4, 2) := by decide +kernel
theorem dX1_feelMoves_32 : decode cX1_feelMoves 32 = .ok (.imul, 1) := by decide +kernel
theorem dX1_feelMoves_33 : decode cX1_feelMoves 33 = .ok (.iload 5, 2) := by decide +kernel
theorem dX1_feelMoves_35 : decode cX1_feelMoves 35 = .ok (.iadd, 1) := by decide +kernel
theorem dX1_feelMoves_36 : decode cX1_feelMoves 36 = .ok (.ishl, 1) := by decide +kernel
theorem dX1_feelMoves_37 : decode cX1_feelMoves 37 = .ok (.istore 6, 2) := by decide +kernel
theorem dX1_feelMoves_39 : decode cX1_feelMoves 39 = .ok (.aload_n 0, 1) := by decide +kernel
theorem dX1_feelMoves_40 : decode cX1_feelMoves 40 = .ok (.getfield 15, 3) := by decide +kernel
theorem dX1_feelMoves_43 : decode cX1_feelMoves 43 = .ok (.iload 6, 2) := by decide +kernel
theorem dX1_feelMoves_45 : decode cX1_feelMoves 45 = .ok (.iconst (-1), 1) := by decide +kernel
theorem dX1_feelMoves_46 : decode cX1_feelMoves 46 = .ok (.ixor, 1) := by decide +kernel
theorem dX1_feelMoves_47 : decode cX1_feelMoves 47 = .ok (.iand, 1) := by decide +kernel
theorem dX1_feelMoves_48 : decode cX1_feelMoves 48 = .ok (.ifCond .ne 19, 3) := by decide +kernel
theorem dX1_feelMoves_51 : decode cX1_feelMoves 51 = .ok (.aload_n 0, 1) := by decide +kernel
theorem dX1_feelMoves_52 : decode cX1_feelMoves 52 = .ok (.getfield 19, 3) := by decide +kernel
theorem dX1_feelMoves_55 : decode cX1_feelMoves 55 = .ok (.iload 6, 2) := by decide +kernel
theorem dX1_feelMoves_57 : decode cX1_feelMoves 57 = .ok (.iand, 1) := by decide +kernel
theorem dX1_feelMoves_58 : decode cX1_feelMoves 58 = .ok (.ifCond .ne 9, 3) := by decide +kernel
theorem dX1_feelMoves_61 : decode cX1_feelMoves 61 = .ok (.aload_n 0, 1) := by decide +kernel
theorem dX1_feelMoves_62 : decode cX1_feelMoves 62 = .ok (.iload 6, 2) := by decide +kernel
theorem dX1_feelMoves_64 : decode cX1_feelMoves 64 = .ok (.invokevirtual 64, 3) := by decide +kernel
theorem dX1_feelMoves_67 : decode cX1_feelMoves 67 = .ok (.iinc 5 1, 3) := by decide +kernel
theorem dX1_feelMoves_70 : decode cX1_feelMoves 70 = .ok (.goto (-48), 3) := by decide +kernel
theorem dX1_feelMoves_73 : decode cX1_feelMoves 73 = .ok (.iinc 4 1, 3) := by decide +kernel
theorem dX1_feelMoves_76 : decode cX1_feelMoves 76 = .ok (.goto (-63), 3) := by decide +kernel
theorem dX1_feelMoves_79 : decode cX1_feelMoves 79 = .ok (.return_, 1) := by decide +kernel
theorem w_X1_feelMoves_22 {l : Launch} {D : zDD} {b : Nat} (x1 x2 x3 x4 x5 : Int32) (σ : zSg) (τ : zLm) {Q : zSg → zLm → Prop} (h : (x3 ≤ x5 → AV l D b M_X1_feelMoves 3 G0 Q 13 [(0, .ref (b + 120)), (1, .int x1), (2, .int x2), (3, .int x3), (4, .int (x4 + 1))] [] G0 σ τ) ∧ (¬ x3 ≤ x5 → (∀ v2 : Int32, v2 = x1 <<< (((5 * x4) + x5) &&& 31) → (¬ ((σ 120 1) &&& (v2 ^^^ (-1))) = 0 → AV l D b M_X1_feelMoves 3 G0 Q 22 [(0, .ref (b + 120)), (1, .int x1), (2, .int x2), (3, .int x3), (4, .int x4), (5, .int (x5 + 1))] [] G0 σ τ) ∧ (((σ 120 1) &&& (v2 ^^^ (-1))) = 0 → ((¬ ((σ 120 2) &&& v2) = 0 → AV l D b M_X1_feelMoves 3 G0 Q 22 [(0, .ref (b + 120)), (1, .int x1), (2, .int x2), (3, .int x3), (4, .int x4), (5, .int (x5 + 1))] [] G0 σ τ) ∧ (((σ 120 2) &&& v2) = 0 → SV l D b M_X1_countPair 0 G0 [.ref (b + 120), .int v2] σ τ (fun σ5 τ5 => AV l D b M_X1_feelMoves 3 G0 Q 22 [(0, .ref (b + 120)), (1, .int x1), (2, .int x2), (3, .int x3), (4, .int x4), (5, .int (x5 + 1))] [] G0 σ5 τ5))))))) : AV l D b M_X1_feelMoves 3 G0 Q 22 [(0, .ref (b + 120)), (1, .int x1), (2, .int x2), (3, .int x3), (4, .int x4), (5, .int x5)] [] G0 σ τ := by
  refine r_iload 5 dX1_feelMoves_22 rfl ?_
  refine r_iload_n 3 dX1_feelMoves_24 rfl rfl ?_
  refine r_icmp_ge (tgt := 73) dX1_feelMoves_25 (by decide) (fun c1 => ?_) (fun c1 => ?_)
  · replace h := h.1 c1
    refine r_inc 4 dX1_feelMoves_73 rfl ci_1 (by decide) rfl ?_
    refine r_goto (tgt := 13) dX1_feelMoves_76 (by decide) ?_
    refine r_lv [1, 2, 3, 4, 0] rfl ?_
    exact h
  · replace h := h.2 c1
    refine r_iload_n 1 dX1_feelMoves_28 rfl rfl ?_
    refine r_iconst dX1_feelMoves_29 ci_5 ?_
    refine r_iload 4 dX1_feelMoves_30 rfl ?_
    refine r_imul dX1_feelMoves_32 ?_
    refine r_iload 5 dX1_feelMoves_33 rfl ?_
    refine r_iadd dX1_feelMoves_35 ?_
    refine r_ishl dX1_feelMoves_36 ?_
    refine r_nmI (fun v2 ev2 => ?_)
    replace h := h v2 ev2
    refine r_istore dX1_feelMoves_37 (by decide) rfl ?_
    refine r_aload_n 1 dX1_feelMoves_39 rfl rfl ?_
    refine r_getI (j := 1) (by decide) (congrArg Prod.fst k0_120) c12_1 (by decide) rfl tw_249 dX1_feelMoves_40 ?_
    refine r_iload 0 dX1_feelMoves_43 rfl ?_
    refine r_iconst dX1_feelMoves_45 ci_m1 ?_
    refine r_ixor dX1_feelMoves_46 ?_
    refine r_iand dX1_feelMoves_47 ?_
    refine r_if_ne (tgt := 67) dX1_feelMoves_48 (by decide) (fun c3 => ?_) (fun c3 => ?_)
    · replace h := h.1 c3
      refine r_inc 6 dX1_feelMoves_67 rfl ci_1 (by decide) rfl ?_
      refine r_goto (tgt := 22) dX1_feelMoves_70 (by decide) ?_
      refine r_lv [2, 3, 4, 5, 6, 0] rfl ?_
      exact h
    · replace h := h.2 c3
      refine r_aload_n 1 dX1_feelMoves_51 rfl rfl ?_
      refine r_getI (j := 2) (by decide) (congrArg Prod.fst k0_120) c12_1 (by decide) rfl tw_250 dX1_feelMoves_52 ?_
      refine r_iload 0 dX1_feelMoves_55 rfl ?_
      refine r_iand dX1_feelMoves_57 ?_
      refine r_if_ne (tgt := 67) dX1_feelMoves_58 (by decide) (fun c4 => ?_) (fun c4 => ?_)
      · replace h := h.1 c4
        refine r_inc 6 dX1_feelMoves_67 rfl ci_1 (by decide) rfl ?_
        refine r_goto (tgt := 22) dX1_feelMoves_70 (by decide) ?_
        refine r_lv [2, 3, 4, 5, 6, 0] rfl ?_
        exact h
      · replace h := h.2 c4
        refine r_aload_n 1 dX1_feelMoves_61 rfl rfl ?_
        refine r_iload 0 dX1_feelMoves_62 rfl ?_
        refine rc_VV (h' := 0) [.int v2] okv_X1_countPair (by decide) (congrArg Prod.fst k0_120) tw_490 rfl rfl (Nat.le_of_ble_eq_true rfl) dX1_feelMoves_64 (by decide) h (fun σ5 τ5 h => ?_)
        refine r_inc 6 dX1_feelMoves_67 rfl ci_1 (by decide) rfl ?_
        refine r_goto (tgt := 22) dX1_feelMoves_70 (by decide) ?_
        refine r_lv [2, 3, 4, 5, 6, 0] rfl ?_
        exact h

theorem w_X1_feelMoves_13 {l : Launch} {D : zDD} {b : Nat} (x1 x2 x3 x4 : Int32) (σ : zSg) (τ : zLm) {Q : zSg → zLm → Prop} (h : (x2 ≤ x4 → Q σ τ) ∧ (¬ x2 ≤ x4 → AV l D b M_X1_feelMoves 3 G0 Q 22 [(0, .ref (b + 120)), (1, .int x1), (2, .int x2), (3, .int x3), (4, .int x4), (5, .int 0)] [] G0 σ τ)) : AV l D b M_X1_feelMoves 3 G0 Q 13 [(0, .ref (b + 120)), (1, .int x1), (2, .int x2), (3, .int x3), (4, .int x4)] [] G0 σ τ := by
  refine r_iload 4 dX1_feelMoves_13 rfl ?_
  refine r_iload_n 2 dX1_feelMoves_15 rfl rfl ?_
  refine r_icmp_ge (tgt := 79) dX1_feelMoves_16 (by decide) (fun c1 => ?_) (fun c1 => ?_)
  · replace h := h.1 c1
    exact r_vret rfl (Nat.le_refl _) (Nat.le_refl _) dX1_feelMoves_79 ⟨rfl, rfl, rfl, rfl, h⟩
  · replace h := h.2 c1
    refine r_iconst dX1_feelMoves_19 ci_0 ?_
    refine r_istore dX1_feelMoves_20 (by decide) rfl ?_
    refine r_lv [1, 2, 3, 4, 5, 0] rfl ?_
    exact h

theorem w_X1_feelMoves_0 {l : Launch} {D : zDD} {b : Nat} (p1 : Int32) (σ : zSg) (τ : zLm) {Q : zSg → zLm → Prop} (h : SI l D b M_X9_movesDown 2 G0 [.int p1] σ τ (fun r1 σ1 τ1 => SI l D b M_X9_movesRight 2 G0 [.int p1] σ1 τ1 (fun r2 σ2 τ2 => AV l D b M_X1_feelMoves 3 G0 Q 13 [(0, .ref (b + 120)), (1, .int p1), (2, .int r1), (3, .int r2), (4, .int 0)] [] G0 σ2 τ2))) : AV l D b M_X1_feelMoves 3 G0 Q 0 [(0, .ref (b + 120)), (1, .int p1)] [] G0 σ τ := by
  refine r_iload_n 1 dX1_feelMoves_0 rfl rfl ?_
  refine rc_SI (h' := 2) [.int p1] oks_X9_movesDown tw_469 rfl rfl (Nat.le_of_ble_eq_true rfl) dX1_feelMoves_1 (by decide) h (fun r1 σ1 τ1 h => ?_)
  refine r_istore_n dX1_feelMoves_4 rfl (by decide) rfl ?_
  refine r_iload_n 2 dX1_feelMoves_5 rfl rfl ?_
  refine rc_SI (h' := 2) [.int p1] oks_X9_movesRight tw_484 rfl rfl (Nat.le_of_ble_eq_true rfl) dX1_feelMoves_6 (by decide) h (fun r2 σ2 τ2 h => ?_)
  refine r_istore_n dX1_feelMoves_9 rfl (by decide) rfl ?_
  refine r_iconst dX1_feelMoves_10 ci_0 ?_
  refine r_istore dX1_feelMoves_11 (by decide) rfl ?_
  refine r_lv [3, 4, 2, 1, 0] rfl ?_
  exact h
theorem s_X1_feelMoves {l : Launch} {D : zDD} {b : Nat} (p1 : Int32) (σ : zSg) (τ : zLm) {Q : zSg → zLm → Prop} (h : SI l D b M_X9_movesDown 2 G0 [.int p1] σ τ (fun r1 σ1 τ1 => SI l D b M_X9_movesRight 2 G0 [.int p1] σ1 τ1 (fun r2 σ2 τ2 => AV l D b M_X1_feelMoves 3 G0 Q 13 [(0, .ref (b + 120)), (1, .int p1), (2, .int r1), (3, .int r2), (4, .int 0)] [] G0 σ2 τ2))) : SV l D b M_X1_feelMoves 3 G0 [.ref (b + 120), .int p1] σ τ Q := zS.of (by decide) (Nat.le_of_ble_eq_true rfl) rfl (w_X1_feelMoves_0 p1 σ τ h)

theorem dX1_feelAll_0 : decode cX1_feelAll 0 = .ok (.aload_n 0, 1) := by decide +kernel
theorem dX1_feelAll_1 : decode cX1_feelAll 1 = .ok (.iconst 0, 1) := by decide +kernel
theorem dX1_feelAll_2 : decode cX1_feelAll 2 = .ok (.putfield 29, 3) := by decide +kernel
theorem dX1_feelAll_5 : decode cX1_feelAll 5 = .ok (.aload_n 0, 1) := by decide +kernel
theorem dX1_feelAll_6 : decode cX1_feelAll 6 = .ok (.iconst 0, 1) := by decide +kernel
theorem dX1_feelAll_7 : decode cX1_feelAll 7 = .ok (.putfield 32, 3) := by decide +kernel
theorem dX1_feelAll_10 : decode cX1_feelAll 10 = .ok (.iconst 0, 1) := by decide +kernel
theorem dX1_feelAll_11 : decode cX1_feelAll 11 = .ok (.istore_n 3, 1) := by decide +kernel
theorem dX1_feelAll_12 : decode cX1_feelAll 12 = .ok (.iload_n 3, 1) := by decide +kernel
theorem dX1_feelAll_13 : decode cX1_feelAll 13 = .ok (.bipush 25, 2) := by decide +kernel
theorem dX1_feelAll_15 : decode cX1_feelAll 15 = .ok (.if_icmp .ge 16, 3) := by decide +kernel
theorem dX1_feelAll_18 : decode cX1_feelAll 18 = .ok (.aload_n 0, 1) := by decide +kernel
theorem dX1_feelAll_19 : decode cX1_feelAll 19 = .ok (.getfield 9, 3) := by decide +kernel
theorem dX1_feelAll_22 : decode cX1_feelAll 22 = .ok (.iload_n 3, 1) := by decide +kernel
theorem dX1_feelAll_23 : decode cX1_feelAll 23 = .ok (.iconst 0, 1) := by decide +kernel
theorem dX1_feelAll_24 : decode cX1_feelAll 24 = .ok (.iastore, 1) := by decide +kernel
theorem dX1_feelAll_25 : decode cX1_feelAll 25 = .ok (.iinc 3 1, 3) := by decide +kernel
theorem dX1_feelAll_28 : decode cX1_feelAll 28 = .ok (.goto (-16), 3) := by decide +kernel
theorem dX1_feelAll_31 : decode cX1_feelAll 31 = .ok (.iconst 0, 1) := by decide +kernel
theorem dX1_feelAll_32 : decode cX1_feelAll 32 = .ok (.istore_n 3, 1) := by decide +kernel
theorem dX1_feelAll_33 : decode cX1_feelAll 33 = .ok (.iload_n 3, 1) := by decide +kernel
theorem dX1_feelAll_34 : decode cX1_feelAll 34 = .ok (.aload_n 1, 1) := by decide +kernel
theorem dX1_feelAll_35 : decode cX1_feelAll 35 = .ok (.getfield 41, 3) := by decide +kernel
theorem dX1_feelAll_38 : decode cX1_feelAll 38 = .ok (.if_icmp .ge 46, 3) := by decide +kernel
theorem dX1_feelAll_41 : decode cX1_feelAll 41 = .ok (.aload_n 0, 1) := by decide +kernel
theorem dX1_feelAll_42 : decode cX1_feelAll 42 = .ok (.getfield 32, 3) := by decide +kernel
theorem dX1_feelAll_45 : decode cX1_feelAll 45 = .ok (.istore 4, 2) := by decide +kernel
theorem dX1_feelAll_47 : decode cX1_feelAll 47 = .ok (.aload_n 0, 1) := by decide +kernel
theorem dX1_feelAll_48 : decode cX1_feelAll 48 = .ok (.aload_n 2, 1) := by decide +kernel
theorem dX1_feelAll_49 : decode cX1_feelAll 49 = .ok (.getfield 46, 3) := by decide +kernel
theorem dX1_feelAll_52 : decode cX1_feelAll 52 = .ok (.iload_n 3, 1) := by decide +kernel
theorem dX1_feelAll_53 : decode cX1_feelAll 53 = .ok (.iaload, 1) := by decide +kernel
theorem dX1_feelAll_54 : decode cX1_feelAll 54 = .ok (.invokevirtual 51, 3) := by decide +kernel
theorem dX1_feelAll_57 : decode cX1_feelAll 57 = .ok (.aload_n 0, 1) := by decide +kernel
theorem dX1_feelAll_58 : decode cX1_feelAll 58 = .ok (.getfield 32, 3) := by decide +kernel
theorem dX1_feelAll_61 : decode cX1_feelAll 61 = .ok (.iload 4, 2) := by decide +kernel
theorem dX1_feelAll_63 : decode cX1_feelAll 63 = .ok (.if_icmp .le 15, 3) := by decide +kernel
theorem dX1_feelAll_66 : decode cX1_feelAll 66 = .ok (.aload_n 0, 1) := by decide +kernel
theorem dX1_feelAll_67 : decode cX1_feelAll 67 = .ok (.dup, 1) := by decide +kernel
theorem dX1_feelAll_68 : decode cX1_feelAll 68 = .ok (.getfield 29, 3) := by decide +kernel
theorem dX1_feelAll_71 : decode cX1_feelAll 71 = .ok (.iconst 1, 1) := by decide +kernel
theorem dX1_feelAll_72 : decode cX1_feelAll 72 = .ok (.iload_n 3, 1) := by decide +kernel
theorem dX1_feelAll_73 : decode cX1_feelAll 73 = .ok (.ishl, 1) := by decide +kernel
theorem dX1_feelAll_74 : decode cX1_feelAll 74 = .ok (.ior, 1) := by decide +kernel
theorem dX1_feelAll_75 : decode cX1_feelAll 75 = .ok (.putfield 29, 3) := by decide +kernel
theorem dX1_feelAll_78 : decode cX1_feelAll 78 = .ok (.iinc 3 1, 3) := by decide +kernel
theorem dX1_feelAll_81 : decode cX1_feelAll 81 = .ok (.goto (-48), 3) := by decide +kernel
theorem dX1_feelAll_84 : decode cX1_feelAll 84 = .ok (.return_, 1) := by decide +kernel
theorem w_X1_feelAll_33 {l : Launch} {D : zDD} {b : Nat} (x3 : Int32) (σ : zSg) (τ : zLm) {Q : zSg → zLm → Prop} (h : ((σ 9 2) ≤ x3 → Q σ τ) ∧ (¬ (σ 9 2) ≤ x3 → (vp_in x3 6 ∧ (SV l D b M_X1_feelMoves 3 G0 [.ref (b + 120), .int (σ 17 x3.toNatClampNeg)] σ τ (fun σ2 τ2 => ((σ2 120 4) ≤ (σ 120 4) → AV l D b M_X1_feelAll 4 G0 Q 33 [(0, .ref (b + 120)), (1, .ref (b + 9)), (2, .ref (b + 14)), (3, .int (x3 + 1))] [] G0 σ2 τ2) ∧ (¬ (σ2 120 4) ≤ (σ 120 4) → AV l D b M_X1_feelAll 4 G0 Q 33 [(0, .ref (b + 120)), (1, .ref (b + 9)), (2, .ref (b + 14)), (3, .int (x3 + 1))] [] G0 (st2 σ2 120 3 ((σ2 120 3) ||| ((1 : Int32) <<< (x3 &&& 31)))) τ2)))))) : AV l D b M_X1_feelAll 4 G0 Q 33 [(0, .ref (b + 120)), (1, .ref (b + 9)), (2, .ref (b + 14)), (3, .int x3)] [] G0 σ τ := by
  refine r_iload_n 3 dX1_feelAll_33 rfl rfl ?_
  refine r_aload_n 1 dX1_feelAll_34 rfl rfl ?_
  refine r_getI (j := 2) (by decide) (congrArg Prod.fst k0_9) c12_6 (by decide) rfl tw_68 dX1_feelAll_35 ?_
  refine r_icmp_ge (tgt := 84) dX1_feelAll_38 (by decide) (fun c1 => ?_) (fun c1 => ?_)
  · replace h := h.1 c1
    exact r_vret rfl (Nat.le_refl _) (Nat.le_refl _) dX1_feelAll_84 ⟨rfl, rfl, rfl, rfl, h⟩
  · replace h := h.2 c1
    refine r_aload_n 0 dX1_feelAll_41 rfl rfl ?_
    refine r_getI (j := 4) (by decide) (congrArg Prod.fst k0_120) c12_1 (by decide) rfl tw_252 dX1_feelAll_42 ?_
    refine r_istore dX1_feelAll_45 (by decide) rfl ?_
    refine r_aload_n 1 dX1_feelAll_47 rfl rfl ?_
    refine r_aload_n 3 dX1_feelAll_48 rfl rfl ?_
    refine r_getR (j := 4) (by decide) (congrArg Prod.fst k0_14) c12_8 (by decide) rfl g0_14_4 tw_130 dX1_feelAll_49 ?_
    refine r_iload_n 4 dX1_feelAll_52 rfl rfl ?_
    refine r_iald (by decide) k0_17 dX1_feelAll_53 h.1 ?_
    replace h := h.2
    refine rc_VV (h' := 3) [.int (σ 17 x3.toNatClampNeg)] okv_X1_feelMoves (by decide) (congrArg Prod.fst k0_120) tw_465 rfl rfl (Nat.le_of_ble_eq_true rfl) dX1_feelAll_54 (by decide) h (fun σ2 τ2 h => ?_)
    refine r_aload_n 1 dX1_feelAll_57 rfl rfl ?_
    refine r_getI (j := 4) (by decide) (congrArg Prod.fst k0_120) c12_1 (by decide) rfl tw_252 dX1_feelAll_58 ?_
    refine r_iload 0 dX1_feelAll_61 rfl ?_
    refine r_icmp_le (tgt := 78) dX1_feelAll_63 (by decide) (fun c3 => ?_) (fun c3 => ?_)
    · replace h := h.1 c3
      refine r_inc 4 dX1_feelAll_78 rfl ci_1 (by decide) rfl ?_
      refine r_goto (tgt := 33) dX1_feelAll_81 (by decide) ?_
      refine r_lv [2, 3, 4, 0] rfl ?_
      exact h
    · replace h := h.2 c3
      refine r_aload_n 1 dX1_feelAll_66 rfl rfl ?_
      refine r_dup dX1_feelAll_67 rfl ?_
      refine r_getI (j := 3) (by decide) (congrArg Prod.fst k0_120) c12_1 (by decide) rfl tw_251 dX1_feelAll_68 ?_
      refine r_iconst dX1_feelAll_71 ci_1 ?_
      refine r_iload_n 4 dX1_feelAll_72 rfl rfl ?_
      refine r_ishl dX1_feelAll_73 ?_
      refine r_ior dX1_feelAll_74 ?_
      refine r_putI (j := 3) (by decide) (congrArg Prod.fst k0_120) c12_1 (by decide) rfl (Or.inl rfl) tw_251 dX1_feelAll_75 ?_
      refine r_inc 4 dX1_feelAll_78 rfl ci_1 (by decide) rfl ?_
      refine r_goto (tgt := 33) dX1_feelAll_81 (by decide) ?_
      refine r_lv [2, 3, 4, 0] rfl ?_
      exact h

theorem w_X1_feelAll_12 {l : Launch} {D : zDD} {b : Nat} (x3 : Int32) (σ : zSg) (τ : zLm) {Q : zSg → zLm → Prop} (h : (25 ≤ x3 → AV l D b M_X1_feelAll 4 G0 Q 33 [(0, .ref (b + 120)), (1, .ref (b + 9)), (2, .ref (b + 14)), (3, .int 0)] [] G0 σ τ) ∧ (¬ 25 ≤ x3 → (vp_in x3 25 ∧ AV l D b M_X1_feelAll 4 G0 Q 12 [(0, .ref (b + 120)), (1, .ref (b + 9)), (2, .ref (b + 14)), (3, .int (x3 + 1))] [] G0 (st2 σ 121 x3.toNatClampNeg 0) τ))) : AV l D b M_X1_feelAll 4 G0 Q 12 [(0, .ref (b + 120)), (1, .ref (b + 9)), (2, .ref (b + 14)), (3, .int x3)] [] G0 σ τ := by
  refine r_iload_n 3 dX1_feelAll_12 rfl rfl ?_
  refine r_bipush dX1_feelAll_13 cb_25 ?_
  refine r_icmp_ge (tgt := 31) dX1_feelAll_15 (by decide) (fun c1 => ?_) (fun c1 => ?_)
  · replace h := h.1 c1
    refine r_iconst dX1_feelAll_31 ci_0 ?_
    refine r_istore_n dX1_feelAll_32 rfl (by decide) rfl ?_
    refine r_lv [1, 2, 3, 0] rfl ?_
    exact h
  · replace h := h.2 c1
    refine r_aload_n 0 dX1_feelAll_18 rfl rfl ?_
    refine r_getR (j := 5) (by decide) (congrArg Prod.fst k0_120) c12_1 (by decide) rfl g0_120_5 tw_253 dX1_feelAll_19 ?_
    refine r_iload_n 3 dX1_feelAll_22 rfl rfl ?_
    refine r_iconst dX1_feelAll_23 ci_0 ?_
    refine r_iast (by decide) k0_121 dX1_feelAll_24 h.1 ?_
    replace h := h.2
    refine r_inc 3 dX1_feelAll_25 rfl ci_1 (by decide) rfl ?_
    refine r_goto (tgt := 12) dX1_feelAll_28 (by decide) ?_
    refine r_lv [1, 2, 3, 0] rfl ?_
    exact h

theorem w_X1_feelAll_0 {l : Launch} {D : zDD} {b : Nat} (σ : zSg) (τ : zLm) {Q : zSg → zLm → Prop} (h : AV l D b M_X1_feelAll 4 G0 Q 12 [(0, .ref (b + 120)), (1, .ref (b + 9)), (2, .ref (b + 14)), (3, .int 0)] [] G0 (st2 (st2 σ 120 3 0) 120 4 0) τ) : AV l D b M_X1_feelAll 4 G0 Q 0 [(0, .ref (b + 120)), (1, .ref (b + 9)), (2, .ref (b + 14))] [] G0 σ τ := by
  refine r_aload_n 0 dX1_feelAll_0 rfl rfl ?_
  refine r_iconst dX1_feelAll_1 ci_0 ?_
  refine r_putI (j := 3) (by decide) (congrArg Prod.fst k0_120) c12_1 (by decide) rfl (Or.inl rfl) tw_251 dX1_feelAll_2 ?_
  refine r_aload_n 0 dX1_feelAll_5 rfl rfl ?_
  refine r_iconst dX1_feelAll_6 ci_0 ?_
  refine r_putI (j := 4) (by decide) (congrArg Prod.fst k0_120) c12_1 (by decide) rfl (Or.inl rfl) tw_252 dX1_feelAll_7 ?_
  refine r_iconst dX1_feelAll_10 ci_0 ?_
  refine r_istore_n dX1_feelAll_11 rfl (by decide) rfl ?_
  refine r_lv [1, 2, 3, 0] rfl ?_
  exact h
theorem s_X1_feelAll {l : Launch} {D : zDD} {b : Nat} (σ : zSg) (τ : zLm) {Q : zSg → zLm → Prop} (h : AV l D b M_X1_feelAll 4 G0 Q 12 [(0, .ref (b + 120)), (1, .ref (b + 9)), (2, .ref (b + 14)), (3, .int 0)] [] G0 (st2 (st2 σ 120 3 0) 120 4 0) τ) : SV l D b M_X1_feelAll 4 G0 [.ref (b + 120), .ref (b + 9), .ref (b + 14)] σ τ Q := zS.of (by decide) (Nat.le_of_ble_eq_true rfl) rfl (w_X1_feelAll_0 σ τ h)

theorem dX1_within_0 : decode cX1_within 0 = .ok (.aload_n 0, 1) := by decide +kernel
theorem dX1_within_1 : decode cX1_within 1 = .ok (.aload_n 1, 1) := by decide +kernel
theorem dX1_within_2 : decode cX1_within 2 = .ok (.aload_n 2, 1) := by decide +kernel
theorem dX1_within_3 : decode cX1_within 3 = .ok (.invokevirtual 25, 3) := by decide +kernel
theorem dX1_within_6 : decode cX1_within 6 = .ok (.aload_n 0, 1) := by decide +kernel
theorem dX1_within_7 : decode cX1_within 7 = .ok (.getfield 29, 3) := by decide +kernel
theorem dX1_within_10 : decode cX1_within 10 = .ok (.ireturn, 1) := by decide +kernel
theorem w_X1_within_0 {l : Launch} {D : zDD} {b : Nat} (σ : zSg) (τ : zLm) {Q : Int32 → zSg → zLm → Prop} (h : SV l D b M_X1_feelAll 4 G0 [.ref (b + 120), .ref (b + 9), .ref (b + 14)] σ τ (fun σ1 τ1 => Q (σ1 120 3) σ1 τ1)) : AI l D b M_X1_within 5 G0 Q 0 [(0, .ref (b + 120)), (1, .ref (b + 9)), (2, .ref (b + 14))] [] G0 σ τ := by
  refine r_aload_n 0 dX1_within_0 rfl rfl ?_
  refine r_aload_n 1 dX1_within_1 rfl rfl ?_
  refine r_aload_n 2 dX1_within_2 rfl rfl ?_
  refine rc_VV (h' := 4) [.ref (b + 9), .ref (b + 14)] okv_X1_feelAll (by decide) (congrArg Prod.fst k0_120) tw_461 rfl rfl (Nat.le_of_ble_eq_true rfl) dX1_within_3 (by decide) h (fun σ1 τ1 h => ?_)
  refine r_aload_n 0 dX1_within_6 rfl rfl ?_
  refine r_getI (j := 3) (by decide) (congrArg Prod.fst k0_120) c12_1 (by decide) rfl tw_251 dX1_within_7 ?_
  exact r_iret rfl (Nat.le_refl _) (Nat.le_refl _) dX1_within_10 ⟨rfl, rfl, rfl, _, rfl, h⟩
theorem s_X1_within {l : Launch} {D : zDD} {b : Nat} (σ : zSg) (τ : zLm) {Q : Int32 → zSg → zLm → Prop} (h : SV l D b M_X1_feelAll 4 G0 [.ref (b + 120), .ref (b + 9), .ref (b + 14)] σ τ (fun σ1 τ1 => Q (σ1 120 3) σ1 τ1)) : SI l D b M_X1_within 5 G0 [.ref (b + 120), .ref (b + 9), .ref (b + 14)] σ τ Q := zS.of (by decide) (Nat.le_of_ble_eq_true rfl) rfl (w_X1_within_0 σ τ h)

theorem dX1_pairs_0 : decode cX1_pairs 0 = .ok (.aload_n 0, 1) := by decide +kernel
theorem dX1_pairs_1 : decode cX1_pairs 1 = .ok (.aload_n 1, 1) := by decide +kernel
theorem dX1_pairs_2 : decode cX1_pairs 2 = .ok (.aload_n 2, 1) := by decide +kernel
theorem dX1_pairs_3 : decode cX1_pairs 3 = .ok (.invokevirtual 25, 3) := by decide +kernel
theorem dX1_pairs_6 : decode cX1_pairs 6 = .ok (.aload_n 0, 1) := by decide +kernel
theorem dX1_pairs_7 : decode cX1_pairs 7 = .ok (.getfield 32, 3) := by decide +kernel
theorem dX1_pairs_10 : decode cX1_pairs 10 = .ok (.ireturn, 1) := by decide +kernel
theorem w_X1_pairs_0 {l : Launch} {D : zDD} {b : Nat} (σ : zSg) (τ : zLm) {Q : Int32 → zSg → zLm → Prop} (h : SV l D b M_X1_feelAll 4 G0 [.ref (b + 120), .ref (b + 9), .ref (b + 14)] σ τ (fun σ1 τ1 => Q (σ1 120 4) σ1 τ1)) : AI l D b M_X1_pairs 5 G0 Q 0 [(0, .ref (b + 120)), (1, .ref (b + 9)), (2, .ref (b + 14))] [] G0 σ τ := by
  refine r_aload_n 0 dX1_pairs_0 rfl rfl ?_
  refine r_aload_n 1 dX1_pairs_1 rfl rfl ?_
  refine r_aload_n 2 dX1_pairs_2 rfl rfl ?_
  refine rc_VV (h' := 4) [.ref (b + 9), .ref (b + 14)] okv_X1_feelAll (by decide) (congrArg Prod.fst k0_120) tw_461 rfl rfl (Nat.le_of_ble_eq_true rfl) dX1_pairs_3 (by decide) h (fun σ1 τ1 h => ?_)
  refine r_aload_n 0 dX1_pairs_6 rfl rfl ?_
  refine r_getI (j := 4) (by decide) (congrArg Prod.fst k0_120) c12_1 (by decide) rfl tw_252 dX1_pairs_7 ?_
  exact r_iret rfl (Nat.le_refl _) (Nat.le_refl _) dX1_pairs_10 ⟨rfl, rfl, rfl, _, rfl, h⟩
theorem s_X1_pairs {l : Launch} {D : zDD} {b : Nat} (σ : zSg) (τ : zLm) {Q : Int32 → zSg → zLm → Prop} (h : SV l D b M_X1_feelAll 4 G0 [.ref (b + 120), .ref (b + 9), .ref (b + 14)] σ τ (fun σ1 τ1 => Q (σ1 120 4) σ1 τ1)) : SI l D b M_X1_pairs 5 G0 [.ref (b + 120), .ref (b + 9), .ref (b + 14)] σ τ Q := zS.of (by decide) (Nat.le_of_ble_eq_true rfl) rfl (w_X1_pairs_0 σ τ h)

theorem dX1_weave_0 : decode cX1_weave 0 = .ok (.aload_n 0, 1) := by decide +kernel
theorem dX1_weave_1 : decode cX1_weave 1 = .ok (.aload_n 1, 1) := by decide +kernel
theorem dX1_weave_2 : decode cX1_weave 2 = .ok (.aload_n 2, 1) := by decide +kernel
theorem dX1_weave_3 : decode cX1_weave 3 = .ok (.invokevirtual 25, 3) := by decide +kernel
theorem dX1_weave_6 : decode cX1_weave 6 = .ok (.iconst (-1), 1) := by decide +kernel
theorem dX1_weave_7 : decode cX1_weave 7 = .ok (.istore_n 3, 1) := by decide +kernel
theorem dX1_weave_8 : decode cX1_weave 8 = .ok (.aload_n 0, 1) := by decide +kernel
theorem dX1_weave_9 : decode cX1_weave 9 = .ok (.getfield 32, 3) := by decide +kernel
theorem dX1_weave_12 : decode cX1_weave 12 = .ok (.istore 4, 2) := by decide +kernel
theorem dX1_weave_14 : decode cX1_weave 14 = .ok (.iconst 0, 1) := by decide +kernel
theorem dX1_weave_15 : decode cX1_weave 15 = .ok (.istore 5, 2) := by decide +kernel
theorem dX1_weave_17 : decode cX1_weave 17 = .ok (.iload 5, 2) := by decide +kernel
theorem dX1_weave_19 : decode cX1_weave 19 = .ok (.bipush 25, 2) := by decide +kernel
theorem dX1_weave_21 : decode cX1_weave 21 = .ok (.if_icmp .ge 47, 3) := by decide +kernel
theorem dX1_weave_24 : decode cX1_weave 24 = .ok (.aload_n 0, 1) := by decide +kernel
theorem dX1_weave_25 : decode cX1_weave 25 = .ok (.getfield 9, 3) := by decide +kernel
theorem dX1_weave_28 : decode cX1_weave 28 = .ok (.iload 5, 2) := by decide +kernel
theorem dX1_weave_30 : decode cX1_weave 30 = .ok (.iaload, 1) := by decide +kernel
theorem dX1_weave_31 : decode cX1_weave 31 = .ok (.aload_n 0, 1) := by decide +kernel
theorem dX1_weave_32 : decode cX1_weave 32 = .ok (.getfield 32, 3) := by decide +kernel
theorem dX1_weave_35 : decode cX1_weave 35 = .ok (.aload_n 0, 1) := by decide +kernel
theorem dX1_weave_36 : decode cX1_weave 36 = .ok (.getfield 9, 3) := by decide +kernel
theorem dX1_weave_39 : decode cX1_weave 39 = .ok (.iload 5, 2) := by decide +kernel
theorem dX1_weave_41 : decode cX1_weave 41 = .ok (.iaload, 1) := by decide +kernel
theorem dX1_weave_42 : decode cX1_weave 42 = .ok (.isub, 1) := by decide +kernel
theorem dX1_weave_43 : decode cX1_weave 43 = .ok (.invokestatic 35, 3) := by decide +kernel
theorem dX1_weave_46 : decode cX1_weave 46 = .ok (.istore 6, 2) := by decide +kernel
theorem dX1_weave_48 : decode cX1_weave 48 = .ok (.iload 6, 2) := by decide +kernel
theorem dX1_weave_50 : decode cX1_weave 50 = .ok (.iload 4, 2) := by decide +kernel
theorem dX1_weave_52 : decode cX1_weave 52 = .ok (.if_icmp .ge 10, 3) := by decide +kernel
theorem dX1_weave_55 : decode cX1_weave 55 = .ok (.iload 6, 2) := by decide +kernel
theorem dX1_weave_57 : decode cX1_weave 57 = .ok (.istore 4, 2) := by decide +kernel
theorem dX1_weave_59 : decode cX1_weave 59 = .ok (.iload 5, 2) := by decide +kernel
theorem dX1_weave_61 : decode cX1_weave 61 = .ok (.istore_n 3, 1) := by decide +kernel
theorem dX1_weave_62 : decode cX1_weave 62 = .ok (.iinc 5 1, 3) := by decide +kernel
theorem dX1_weave_65 : decode cX1_weave 65 = .ok (.goto (-48), 3) := by decide +kernel
theorem dX1_weave_68 : decode cX1_weave 68 = .ok (.iload_n 3, 1) := by decide +kernel
theorem dX1_weave_69 : decode cX1_weave 69 = .ok (.ireturn, 1) := by decide +kernel
theorem w_X1_weave_17 {l : Launch} {D : zDD} {b : Nat} (x3 x4 x5 : Int32) (σ : zSg) (τ : zLm) {Q : Int32 → zSg → zLm → Prop} (h : (25 ≤ x5 → Q x3 σ τ) ∧ (¬ 25 ≤ x5 → (vp_in x5 25 ∧ (vp_in x5 25 ∧ (∀ v2 : Int32, v2 = mx (σ 121 x5.toNatClampNeg) ((σ 120 4) - (σ 121 x5.toNatClampNeg)) → (x4 ≤ v2 → AI l D b M_X1_weave 5 G0 Q 17 [(0, .ref (b + 120)), (3, .int x3), (4, .int x4), (5, .int (x5 + 1))] [] G0 σ τ) ∧ (¬ x4 ≤ v2 → AI l D b M_X1_weave 5 G0 Q 17 [(0, .ref (b + 120)), (3, .int x5), (4, .int v2), (5, .int (x5 + 1))] [] G0 σ τ)))))) : AI l D b M_X1_weave 5 G0 Q 17 [(0, .ref (b + 120)), (3, .int x3), (4, .int x4), (5, .int x5)] [] G0 σ τ := by
  refine r_iload 3 dX1_weave_17 rfl ?_
  refine r_bipush dX1_weave_19 cb_25 ?_
  refine r_icmp_ge (tgt := 68) dX1_weave_21 (by decide) (fun c1 => ?_) (fun c1 => ?_)
  · replace h := h.1 c1
    refine r_iload_n 1 dX1_weave_68 rfl rfl ?_
    exact r_iret rfl (Nat.le_refl _) (Nat.le_refl _) dX1_weave_69 ⟨rfl, rfl, rfl, _, rfl, h⟩
  · replace h := h.2 c1
    refine r_aload_n 0 dX1_weave_24 rfl rfl ?_
    refine r_getR (j := 5) (by decide) (congrArg Prod.fst k0_120) c12_1 (by decide) rfl g0_120_5 tw_253 dX1_weave_25 ?_
    refine r_iload 3 dX1_weave_28 rfl ?_
    refine r_iald (by decide) k0_121 dX1_weave_30 h.1 ?_
    replace h := h.2
    refine r_aload_n 0 dX1_weave_31 rfl rfl ?_
    refine r_getI (j := 4) (by decide) (congrArg Prod.fst k0_120) c12_1 (by decide) rfl tw_252 dX1_weave_32 ?_
    refine r_aload_n 0 dX1_weave_35 rfl rfl ?_
    refine r_getR (j := 5) (by decide) (congrArg Prod.fst k0_120) c12_1 (by decide) rfl g0_120_5 tw_253 dX1_weave_36 ?_
    refine r_iload 3 dX1_weave_39 rfl ?_
    refine r_iald (by decide) k0_121 dX1_weave_41 h.1 ?_
    replace h := h.2
    refine r_isub dX1_weave_42 ?_
    refine r_max tw_502 dX1_weave_43 (by decide) (Nat.le_of_ble_eq_true rfl) (Nat.le_refl _) (Nat.le_refl _) ?_
    refine r_nmI (fun v2 ev2 => ?_)
    replace h := h v2 ev2
    refine r_istore dX1_weave_46 (by decide) rfl ?_
    refine r_iload 0 dX1_weave_48 rfl ?_
    refine r_iload 3 dX1_weave_50 rfl ?_
    refine r_icmp_ge (tgt := 62) dX1_weave_52 (by decide) (fun c3 => ?_) (fun c3 => ?_)
    · replace h := h.1 c3
      refine r_inc 4 dX1_weave_62 rfl ci_1 (by decide) rfl ?_
      refine r_goto (tgt := 17) dX1_weave_65 (by decide) ?_
      refine r_lv [2, 3, 4, 0] rfl ?_
      exact h
    · replace h := h.2 c3
      refine r_iload 0 dX1_weave_55 rfl ?_
      refine r_istore dX1_weave_57 (by decide) rfl ?_
      refine r_iload 4 dX1_weave_59 rfl ?_
      refine r_istore_n dX1_weave_61 rfl (by decide) rfl ?_
      refine r_inc 4 dX1_weave_62 rfl ci_1 (by decide) rfl ?_
      refine r_goto (tgt := 17) dX1_weave_65 (by decide) ?_
      refine r_lv [4, 1, 2, 0] rfl ?_
      exact h

theorem w_X1_weave_0 {l : Launch} {D : zDD} {b : Nat} (σ : zSg) (τ : zLm) {Q : Int32 → zSg → zLm → Prop} (h : SV l D b M_X1_feelAll 4 G0 [.ref (b + 120), .ref (b + 9), .ref (b + 14)] σ τ (fun σ1 τ1 => AI l D b M_X1_weave 5 G0 Q 17 [(0, .ref (b + 120)), (3, .int (-1)), (4, .int (σ1 120 4)), (5, .int 0)] [] G0 σ1 τ1)) : AI l D b M_X1_weave 5 G0 Q 0 [(0, .ref (b + 120)), (1, .ref (b + 9)), (2, .ref (b + 14))] [] G0 σ τ := by
  refine r_aload_n 0 dX1_weave_0 rfl rfl ?_
  refine r_aload_n 1 dX1_weave_1 rfl rfl ?_
  refine r_aload_n 2 dX1_weave_2 rfl rfl ?_
  refine rc_VV (h' := 4) [.ref (b + 9), .ref (b + 14)] okv_X1_feelAll (by decide) (congrArg Prod.fst k0_120) tw_461 rfl rfl (Nat.le_of_ble_eq_true rfl) dX1_weave_3 (by decide) h (fun σ1 τ1 h => ?_)
  refine r_iconst dX1_weave_6 ci_m1 ?_
  refine r_istore_n dX1_weave_7 rfl (by decide) rfl ?_
  refine r_aload_n 1 dX1_weave_8 rfl rfl ?_
  refine r_getI (j := 4) (by decide) (congrArg Prod.fst k0_120) c12_1 (by decide) rfl tw_252 dX1_weave_9 ?_
  refine r_istore dX1_weave_12 (by decide) rfl ?_
  refine r_iconst dX1_weave_14 ci_0 ?_
  refine r_istore dX1_weave_15 (by decide) rfl ?_
  refine r_lv [3, 2, 1, 0] rfl ?_
  exact h
theorem s_X1_weave {l : Launch} {D : zDD} {b : Nat} (σ : zSg) (τ : zLm) {Q : Int32 → zSg → zLm → Prop} (h : SV l D b M_X1_feelAll 4 G0 [.ref (b + 120), .ref (b + 9), .ref (b + 14)] σ τ (fun σ1 τ1 => AI l D b M_X1_weave 5 G0 Q 17 [(0, .ref (b + 120)), (3, .int (-1)), (4, .int (σ1 120 4)), (5, .int 0)] [] G0 σ1 τ1)) : SI l D b M_X1_weave 5 G0 [.ref (b + 120), .ref (b + 9), .ref (b + 14)] σ τ Q := zS.of (by decide) (Nat.le_of_ble_eq_true rfl) rfl (w_X1_weave_0 σ τ h)

