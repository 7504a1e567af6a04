theorem dX12_in_0 : decode cX12_in 0 = .ok (.iload_n 0, 1) := by decide +kernel
theorem dX12_in_1 : decode cX12_in 1 = .ok (.iload_n 1, 1) := by decide +kernel
theorem dX12_in_2 : decode cX12_in 2 = .ok (.if_icmp .lt 12, 3) := by decide +kernel
theorem dX12_in_5 : decode cX12_in 5 = .ok (.iload_n 0, 1) := by decide +kernel
theorem dX12_in_6 : decode cX12_in 6 = .ok (.iload_n 2, 1) := by decide +kernel
theorem dX12_in_7 : decode cX12_in 7 = .ok (.if_icmp .gt 7, 3) := by decide +kernel
theorem dX12_in_10 : decode cX12_in 10 = .ok (.iconst 1, 1) := by decide +kernel
theorem dX12_in_11 : decode cX12_in 11 = .ok (.goto 4, 3) := by decide +kernel
theorem dX12_in_14 : decode cX12_in 14 = .ok (.iconst 0, 1) := by decide +kernel
theorem dX12_in_15 : decode cX12_in 15 = .ok (.ireturn, 1) := by decide +kernel
theorem w_X12_in_0 {l : Launch} {D : zDD} {b : Nat} {γ : zGm} (p1 p2 p3 : Int32) (σ : zSg) (τ : zLm) {Q : Int32 → zSg → zLm → Prop} (h : (p1 < p2 → Q 0 σ τ) ∧ (¬ p1 < p2 → ((p3 < p1 → Q 0 σ τ) ∧ (¬ p3 < p1 → Q 1 σ τ)))) : AI l D b M_X12_in 0 γ Q 0 [(0, .int p1), (1, .int p2), (2, .int p3)] [] γ σ τ := by
  refine r_iload_n 0 dX12_in_0 rfl rfl ?_
  refine r_iload_n 1 dX12_in_1 rfl rfl ?_
  refine r_icmp_lt (tgt := 14) dX12_in_2 (by decide) (fun c1 => ?_) (fun c1 => ?_)
  · replace h := h.1 c1
    refine r_iconst dX12_in_14 ci_0 ?_
    exact r_zret rfl (Nat.le_refl _) (Nat.le_refl _) dX12_in_15 (Or.inl rfl) ⟨rfl, rfl, rfl, _, rfl, h⟩
  · replace h := h.2 c1
    refine r_iload_n 0 dX12_in_5 rfl rfl ?_
    refine r_iload_n 2 dX12_in_6 rfl rfl ?_
    refine r_icmp_gt (tgt := 14) dX12_in_7 (by decide) (fun c2 => ?_) (fun c2 => ?_)
    · replace h := h.1 c2
      refine r_iconst dX12_in_14 ci_0 ?_
      exact r_zret rfl (Nat.le_refl _) (Nat.le_refl _) dX12_in_15 (Or.inl rfl) ⟨rfl, rfl, rfl, _, rfl, h⟩
    · replace h := h.2 c2
      refine r_iconst dX12_in_10 ci_1 ?_
      refine r_goto (tgt := 15) dX12_in_11 (by decide) ?_
      exact r_zret rfl (Nat.le_refl _) (Nat.le_refl _) dX12_in_15 (Or.inr rfl) ⟨rfl, rfl, rfl, _, rfl, h⟩
theorem s_X12_in {l : Launch} {D : zDD} {b : Nat} {γ : zGm} (p1 p2 p3 : Int32) (σ : zSg) (τ : zLm) {Q : Int32 → zSg → zLm → Prop} (h : (p1 < p2 → Q 0 σ τ) ∧ (¬ p1 < p2 → ((p3 < p1 → Q 0 σ τ) ∧ (¬ p3 < p1 → Q 1 σ τ)))) : SI l D b M_X12_in 0 γ [.int p1, .int p2, .int p3] σ τ Q := zS.of (by decide) (Nat.le_of_ble_eq_true rfl) rfl (w_X12_in_0 p1 p2 p3 σ τ h)

theorem dX12_has_0 : decode cX12_has 0 = .ok (.iload_n 0, 1) := by decide +kernel
theorem dX12_has_1 : decode cX12_has 1 = .ok (.iload_n 1, 1) := by decide +kernel
theorem dX12_has_2 : decode cX12_has 2 = .ok (.ishr, 1) := by decide +kernel
theorem dX12_has_3 : decode cX12_has 3 = .ok (.iconst 1, 1) := by decide +kernel
theorem dX12_has_4 : decode cX12_has 4 = .ok (.iand, 1) := by decide +kernel
theorem dX12_has_5 : decode cX12_has 5 = .ok (.iconst 1, 1) := by decide +kernel
theorem dX12_has_6 : decode cX12_has 6 = .ok (.if_icmp .ne 7, 3) := by decide +kernel
theorem dX12_has_9 : decode cX12_has 9 = .ok (.iconst 1, 1) := by decide +kernel
theorem dX12_has_10 : decode cX12_has 10 = .ok (.goto 4, 3) := by decide +kernel
theorem dX12_has_13 : decode cX12_has 13 = .ok (.iconst 0, 1) := by decide +kernel
theorem dX12_has_14 : decode cX12_has 14 = .ok (.ireturn, 1) := by decide +kernel
theorem w_X12_has_0 {l : Launch} {D : zDD} {b : Nat} {γ : zGm} (p1 p2 : Int32) (σ : zSg) (τ : zLm) {Q : Int32 → zSg → zLm → Prop} (h : (¬ ((p1 >>> (p2 &&& 31)) &&& 1) = 1 → Q 0 σ τ) ∧ (((p1 >>> (p2 &&& 31)) &&& 1) = 1 → Q 1 σ τ)) : AI l D b M_X12_has 0 γ Q 0 [(0, .int p1), (1, .int p2)] [] γ σ τ := by
  refine r_iload_n 0 dX12_has_0 rfl rfl ?_
  refine r_iload_n 1 dX12_has_1 rfl rfl ?_
  refine r_ishr dX12_has_2 ?_
  refine r_iconst dX12_has_3 ci_1 ?_
  refine r_iand dX12_has_4 ?_
  refine r_iconst dX12_has_5 ci_1 ?_
  refine r_icmp_ne (tgt := 13) dX12_has_6 (by decide) (fun c1 => ?_) (fun c1 => ?_)
  · replace h := h.1 c1
    refine r_iconst dX12_has_13 ci_0 ?_
    exact r_zret rfl (Nat.le_refl _) (Nat.le_refl _) dX12_has_14 (Or.inl rfl) ⟨rfl, rfl, rfl, _, rfl, h⟩
  · replace h := h.2 c1
    refine r_iconst dX12_has_9 ci_1 ?_
    refine r_goto (tgt := 14) dX12_has_10 (by decide) ?_
    exact r_zret rfl (Nat.le_refl _) (Nat.le_refl _) dX12_has_14 (Or.inr rfl) ⟨rfl, rfl, rfl, _, rfl, h⟩
theorem s_X12_has {l : Launch} {D : zDD} {b : Nat} {γ : zGm} (p1 p2 : Int32) (σ : zSg) (τ : zLm) {Q : Int32 → zSg → zLm → Prop} (h : (¬ ((p1 >>> (p2 &&& 31)) &&& 1) = 1 → Q 0 σ τ) ∧ (((p1 >>> (p2 &&& 31)) &&& 1) = 1 → Q 1 σ τ)) : SI l D b M_X12_has 0 γ [.int p1, .int p2] σ τ Q := zS.of (by decide) (Nat.le_of_ble_eq_true rfl) rfl (w_X12_has_0 p1 p2 σ τ h)

theorem dX12_bits_0 : decode cX12_bits 0 = .ok (.iconst 0, 1) := by decide +kernel
theorem dX12_bits_1 : decode cX12_bits 1 = .ok (.istore_n 1, 1) := by decide +kernel
theorem dX12_bits_2 : decode cX12_bits 2 = .ok (.iload_n 0, 1) := by decide +kernel
theorem dX12_bits_3 : decode cX12_bits 3 = .ok (.istore_n 2, 1) := by decide +kernel
theorem dX12_bits_4 : decode cX12_bits 4 = .ok (.iload_n 2, 1) := by decide +kernel
theorem dX12_bits_5 : decode cX12_bits 5 = .ok (.ifCond .eq 15, 3) := by decide +kernel
theorem dX12_bits_8 : decode cX12_bits 8 = .ok (.iinc 1 1, 3) := by decide +kernel
theorem dX12_bits_11 : decode cX12_bits 11 = .ok (.iload_n 2, 1) := by decide +kernel
theorem dX12_bits_12 : decode cX12_bits 12 = .ok (.iload_n 2, 1) := by decide +kernel
theorem dX12_bits_13 : decode cX12_bits 13 = .ok (.iconst 1, 1) := by decide +kernel
theorem dX12_bits_14 : decode cX12_bits 14 = .ok (.isub, 1) := by decide +kernel
theorem dX12_bits_15 : decode cX12_bits 15 = .ok (.iand, 1) := by decide +kernel
theorem dX12_bits_16 : decode cX12_bits 16 = .ok (.istore_n 2, 1) := by decide +kernel
theorem dX12_bits_17 : decode cX12_bits 17 = .ok (.goto (-13), 3) := by decide +kernel
theorem dX12_bits_20 : decode cX12_bits 20 = .ok (.iload_n 1, 1) := by decide +kernel
theorem dX12_bits_21 : decode cX12_bits 21 = .ok (.ireturn, 1) := by decide +kernel
theorem w_X12_bits_4 {l : Launch} {D : zDD} {b : Nat} {γ : zGm} (x1 x2 : Int32) (σ : zSg) (τ : zLm) {Q : Int32 → zSg → zLm → Prop} (h : (x2 = 0 → Q x1 σ τ) ∧ (¬ x2 = 0 → AI l D b M_X12_bits 0 γ Q 4 [(1, .int (x1 + 1)), (2, .int (x2 &&& (x2 - 1)))] [] γ σ τ)) : AI l D b M_X12_bits 0 γ Q 4 [(1, .int x1), (2, .int x2)] [] γ σ τ := by
  refine r_iload_n 1 dX12_bits_4 rfl rfl ?_
  refine r_if_eq (tgt := 20) dX12_bits_5 (by decide) (fun c1 => ?_) (fun c1 => ?_)
  · replace h := h.1 c1
    refine r_iload_n 0 dX12_bits_20 rfl rfl ?_
    exact r_iret rfl (Nat.le_refl _) (Nat.le_refl _) dX12_bits_21 ⟨rfl, rfl, rfl, _, rfl, h⟩
  · replace h := h.2 c1
    refine r_inc 0 dX12_bits_8 rfl ci_1 (by decide) rfl ?_
    refine r_iload_n 1 dX12_bits_11 rfl rfl ?_
    refine r_iload_n 1 dX12_bits_12 rfl rfl ?_
    refine r_iconst dX12_bits_13 ci_1 ?_
    refine r_isub dX12_bits_14 ?_
    refine r_iand dX12_bits_15 ?_
    refine r_istore_n dX12_bits_16 rfl (by decide) rfl ?_
    refine r_goto (tgt := 4) dX12_bits_17 (by decide) ?_
    refine r_lv [1, 0] rfl ?_
    exact h

theorem w_X12_bits_0 {l : Launch} {D : zDD} {b : Nat} {γ : zGm} (p1 : Int32) (σ : zSg) (τ : zLm) {Q : Int32 → zSg → zLm → Prop} (h : AI l D b M_X12_bits 0 γ Q 4 [(1, .int 0), (2, .int p1)] [] γ σ τ) : AI l D b M_X12_bits 0 γ Q 0 [(0, .int p1)] [] γ σ τ := by
  refine r_iconst dX12_bits_0 ci_0 ?_
  refine r_istore_n dX12_bits_1 rfl (by decide) rfl ?_
  refine r_iload_n 1 dX12_bits_2 rfl rfl ?_
  refine r_istore_n dX12_bits_3 rfl (by decide) rfl ?_
  refine r_lv [1, 0] rfl ?_
  exact h
theorem s_X12_bits {l : Launch} {D : zDD} {b : Nat} {γ : zGm} (p1 : Int32) (σ : zSg) (τ : zLm) {Q : Int32 → zSg → zLm → Prop} (h : AI l D b M_X12_bits 0 γ Q 4 [(1, .int 0), (2, .int p1)] [] γ σ τ) : SI l D b M_X12_bits 0 γ [.int p1] σ τ Q := zS.of (by decide) (Nat.le_of_ble_eq_true rfl) rfl (w_X12_bits_0 p1 σ τ h)

theorem dX12_letterAt_0 : decode cX12_letterAt 0 = .ok (.iload_n 1, 1) := by decide +kernel
theorem dX12_letterAt_1 : decode cX12_letterAt 1 = .ok (.aload_n 0, 1) := by decide +kernel
theorem dX12_letterAt_2 : decode cX12_letterAt 2 = .ok (.getfield 75, 3) := by decide +kernel
theorem dX12_letterAt_5 : decode cX12_letterAt 5 = .ok (.if_icmp .ge 12, 3) := by decide +kernel
theorem dX12_letterAt_8 : decode cX12_letterAt 8 = .ok (.aload_n 0, 1) := by decide +kernel
theorem dX12_letterAt_9 : decode cX12_letterAt 9 = .ok (.getfield 7, 3) := by decide +kernel
theorem dX12_letterAt_12 : decode cX12_letterAt 12 = .ok (.iload_n 1, 1) := by decide +kernel
theorem dX12_letterAt_13 : decode cX12_letterAt 13 = .ok (.iaload, 1) := by decide +kernel
theorem dX12_letterAt_14 : decode cX12_letterAt 14 = .ok (.goto 4, 3) := by decide +kernel
theorem dX12_letterAt_17 : decode cX12_letterAt 17 = .ok (.iconst (-1), 1) := by decide +kernel
theorem dX12_letterAt_18 : decode cX12_letterAt 18 = .ok (.ireturn, 1) := by decide +kernel
theorem w_X12_letterAt_0 {l : Launch} {D : zDD} {b : Nat} (p1 : Int32) (σ : zSg) (τ : zLm) {Q : Int32 → zSg → zLm → Prop} (h : ((σ 125 0) ≤ p1 → Q (-1) σ τ) ∧ (¬ (σ 125 0) ≤ p1 → (vp_in p1 240 ∧ Q (σ 126 p1.toNatClampNeg) σ τ))) : AI l D b M_X12_letterAt 0 G0 Q 0 [(0, .ref (b + 125)), (1, .int p1)] [] G0 σ τ := by
  refine r_iload_n 1 dX12_letterAt_0 rfl rfl ?_
  refine r_aload_n 0 dX12_letterAt_1 rfl rfl ?_
  refine r_getI (j := 0) (by decide) (congrArg Prod.fst k0_125) c12_11 (by decide) rfl tw_810 dX12_letterAt_2 ?_
  refine r_icmp_ge (tgt := 17) dX12_letterAt_5 (by decide) (fun c1 => ?_) (fun c1 => ?_)
  · replace h := h.1 c1
    refine r_iconst dX12_letterAt_17 ci_m1 ?_
    exact r_iret rfl (Nat.le_refl _) (Nat.le_refl _) dX12_letterAt_18 ⟨rfl, rfl, rfl, _, rfl, h⟩
  · replace h := h.2 c1
    refine r_aload_n 0 dX12_letterAt_8 rfl rfl ?_
    refine r_getR (j := 1) (by decide) (congrArg Prod.fst k0_125) c12_11 (by decide) rfl g0_125_1 tw_811 dX12_letterAt_9 ?_
    refine r_iload_n 1 dX12_letterAt_12 rfl rfl ?_
    refine r_iald (by decide) k0_126 dX12_letterAt_13 h.1 ?_
    replace h := h.2
    refine r_goto (tgt := 18) dX12_letterAt_14 (by decide) ?_
    exact r_iret rfl (Nat.le_refl _) (Nat.le_refl _) dX12_letterAt_18 ⟨rfl, rfl, rfl, _, rfl, h⟩
theorem s_X12_letterAt {l : Launch} {D : zDD} {b : Nat} (p1 : Int32) (σ : zSg) (τ : zLm) {Q : Int32 → zSg → zLm → Prop} (h : ((σ 125 0) ≤ p1 → Q (-1) σ τ) ∧ (¬ (σ 125 0) ≤ p1 → (vp_in p1 240 ∧ Q (σ 126 p1.toNatClampNeg) σ τ))) : SI l D b M_X12_letterAt 0 G0 [.ref (b + 125), .int p1] σ τ Q := zS.of (by decide) (Nat.le_of_ble_eq_true rfl) rfl (w_X12_letterAt_0 p1 σ τ h)

theorem dX12_fails_0 : decode cX12_fails 0 = .ok (.aload_n 0, 1) := by decide +kernel
theorem dX12_fails_1 : decode cX12_fails 1 = .ok (.iload_n 1, 1) := by decide +kernel
theorem dX12_fails_2 : decode cX12_fails 2 = .ok (.putfield 86, 3) := by decide +kernel
theorem dX12_fails_5 : decode cX12_fails 5 = .ok (.aload_n 0, 1) := by decide +kernel
theorem dX12_fails_6 : decode cX12_fails 6 = .ok (.iload_n 2, 1) := by decide +kernel
theorem dX12_fails_7 : decode cX12_fails 7 = .ok (.putfield 79, 3) := by decide +kernel
theorem dX12_fails_10 : decode cX12_fails 10 = .ok (.iconst (-1), 1) := by decide +kernel
theorem dX12_fails_11 : decode cX12_fails 11 = .ok (.ireturn, 1) := by decide +kernel
theorem w_X12_fails_0 {l : Launch} {D : zDD} {b : Nat} (p1 p2 : Int32) (σ : zSg) (τ : zLm) {Q : Int32 → zSg → zLm → Prop} (h : Q (-1) (st2 (st2 σ 125 4 p1) 125 2 p2) τ) : AI l D b M_X12_fails 0 G0 Q 0 [(0, .ref (b + 125)), (1, .int p1), (2, .int p2)] [] G0 σ τ := by
  refine r_aload_n 0 dX12_fails_0 rfl rfl ?_
  refine r_iload_n 1 dX12_fails_1 rfl rfl ?_
  refine r_putI (j := 4) (by decide) (congrArg Prod.fst k0_125) c12_11 (by decide) rfl (Or.inl rfl) tw_814 dX12_fails_2 ?_
  refine r_aload_n 0 dX12_fails_5 rfl rfl ?_
  refine r_iload_n 2 dX12_fails_6 rfl rfl ?_
  refine r_putI (j := 2) (by decide) (congrArg Prod.fst k0_125) c12_11 (by decide) rfl (Or.inl rfl) tw_812 dX12_fails_7 ?_
  refine r_iconst dX12_fails_10 ci_m1 ?_
  exact r_iret rfl (Nat.le_refl _) (Nat.le_refl _) dX12_fails_11 ⟨rfl, rfl, rfl, _, rfl, h⟩
theorem s_X12_fails {l : Launch} {D : zDD} {b : Nat} (p1 p2 : Int32) (σ : zSg) (τ : zLm) {Q : Int32 → zSg → zLm → Prop} (h : Q (-1) (st2 (st2 σ 125 4 p1) 125 2 p2) τ) : SI l D b M_X12_fails 0 G0 [.ref (b + 125), .int p1, .int p2] σ τ Q := zS.of (by decide) (Nat.le_of_ble_eq_true rfl) rfl (w_X12_fails_0 p1 p2 σ τ h)

theorem dX12_fault_0 : decode cX12_fault 0 = .ok (.aload_n 0, 1) := by decide +kernel
theorem dX12_fault_1 : decode cX12_fault 1 = .ok (.getfield 13, 3) := by decide +kernel
theorem dX12_fault_4 : decode cX12_fault 4 = .ok (.ireturn, 1) := by decide +kernel
theorem w_X12_fault_0 {l : Launch} {D : zDD} {b : Nat} (σ : zSg) (τ : zLm) {Q : Int32 → zSg → zLm → Prop} (h : Q (σ 125 5) σ τ) : AI l D b M_X12_fault 0 G0 Q 0 [(0, .ref (b + 125))] [] G0 σ τ := by
  refine r_aload_n 0 dX12_fault_0 rfl rfl ?_
  refine r_getI (j := 5) (by decide) (congrArg Prod.fst k0_125) c12_11 (by decide) rfl tw_815 dX12_fault_1 ?_
  exact r_iret rfl (Nat.le_refl _) (Nat.le_refl _) dX12_fault_4 ⟨rfl, rfl, rfl, _, rfl, h⟩
theorem s_X12_fault {l : Launch} {D : zDD} {b : Nat} (σ : zSg) (τ : zLm) {Q : Int32 → zSg → zLm → Prop} (h : Q (σ 125 5) σ τ) : SI l D b M_X12_fault 0 G0 [.ref (b + 125)] σ τ Q := zS.of (by decide) (Nat.le_of_ble_eq_true rfl) rfl (w_X12_fault_0 σ τ h)

theorem dX12_isKitchen_0 : decode cX12_isKitchen 0 = .ok (.aload_n 0, 1) := by decide +kernel
theorem dX12_isKitchen_1 : decode cX12_isKitchen 1 = .ok (.getfield 138, 3) := by decide +kernel
theorem dX12_isKitchen_4 : decode cX12_isKitchen 4 = .ok (.ifCond .le 7, 3) := by decide +kernel
theorem dX12_isKitchen_7 : decode cX12_isKitchen 7 = .ok (.iconst 1, 1) := by decide +kernel
theorem dX12_isKitchen_8 : decode cX12_isKitchen 8 = .ok (.goto 4, 3) := by decide +kernel
theorem dX12_isKitchen_11 : decode cX12_isKitchen 11 = .ok (.iconst 0, 1) := by decide +kernel
theorem dX12_isKitchen_12 : decode cX12_isKitchen 12 = .ok (.ireturn, 1) := by decide +kernel
theorem w_X12_isKitchen_0 {l : Launch} {D : zDD} {b : Nat} (σ : zSg) (τ : zLm) {Q : Int32 → zSg → zLm → Prop} (h : ((σ 125 15) ≤ 0 → Q 0 σ τ) ∧ (¬ (σ 125 15) ≤ 0 → Q 1 σ τ)) : AI l D b M_X12_isKitchen 0 G0 Q 0 [(0, .ref (b + 125))] [] G0 σ τ := by
  refine r_aload_n 0 dX12_isKitchen_0 rfl rfl ?_
  refine r_getI (j := 15) (by decide) (congrArg Prod.fst k0_125) c12_11 (by decide) rfl tw_825 dX12_isKitchen_1 ?_
  refine r_if_le (tgt := 11) dX12_isKitchen_4 (by decide) (fun c1 => ?_) (fun c1 => ?_)
  · replace h := h.1 c1
    refine r_iconst dX12_isKitchen_11 ci_0 ?_
    exact r_zret rfl (Nat.le_refl _) (Nat.le_refl _) dX12_isKitchen_12 (Or.inl rfl) ⟨rfl, rfl, rfl, _, rfl, h⟩
  · replace h := h.2 c1
    refine r_iconst dX12_isKitchen_7 ci_1 ?_
    refine r_goto (tgt := 12) dX12_isKitchen_8 (by decide) ?_
    exact r_zret rfl (Nat.le_refl _) (Nat.le_refl _) dX12_isKitchen_12 (Or.inr rfl) ⟨rfl, rfl, rfl, _, rfl, h⟩
theorem s_X12_isKitchen {l : Launch} {D : zDD} {b : Nat} (σ : zSg) (τ : zLm) {Q : Int32 → zSg → zLm → Prop} (h : ((σ 125 15) ≤ 0 → Q 0 σ τ) ∧ (¬ (σ 125 15) ≤ 0 → Q 1 σ τ)) : SI l D b M_X12_isKitchen 0 G0 [.ref (b + 125)] σ τ Q := zS.of (by decide) (Nat.le_of_ble_eq_true rfl) rfl (w_X12_isKitchen_0 σ τ h)

theorem dX12_are_0 : decode cX12_are 0 = .ok (.iconst 0, 1) := by decide +kernel
theorem dX12_are_1 : decode cX12_are 1 = .ok (.istore_n 2, 1) := by decide +kernel
theorem dX12_are_2 : decode cX12_are 2 = .ok (.iconst 0, 1) := by decide +kernel
theorem dX12_are_3 : decode cX12_are 3 = .ok (.istore_n 3, 1) := by decide +kernel
theorem dX12_are_4 : decode cX12_are 4 = .ok (.iload_n 3, 1) := by decide +kernel
theorem dX12_are_5 : decode cX12_are 5 = .ok (.aload_n 0, 1) := by decide +kernel
theorem dX12_are_6 : decode cX12_are 6 = .ok (.getfield 141, 3) := by decide +kernel
theorem dX12_are_9 : decode cX12_are 9 = .ok (.if_icmp .ge 32, 3) := by decide +kernel
theorem dX12_are_12 : decode cX12_are 12 = .ok (.iload_n 2, 1) := by decide +kernel
theorem dX12_are_13 : decode cX12_are 13 = .ok (.aload_n 0, 1) := by decide +kernel
theorem dX12_are_14 : decode cX12_are 14 = .ok (.getfield 35, 3) := by decide +kernel
theorem dX12_are_17 : decode cX12_are 17 = .ok (.bipush 14, 2) := by decide +kernel
theorem dX12_are_19 : decode cX12_are 19 = .ok (.iload_n 3, 1) := by decide +kernel
theorem dX12_are_20 : decode cX12_are 20 = .ok (.iadd, 1) := by decide +kernel
theorem dX12_are_21 : decode cX12_are 21 = .ok (.iaload, 1) := by decide +kernel
theorem dX12_are_22 : decode cX12_are 22 = .ok (.iload_n 1, 1) := by decide +kernel
theorem dX12_are_23 : decode cX12_are 23 = .ok (.if_icmp .ne 9, 3) := by decide +kernel
theorem dX12_are_26 : decode cX12_are 26 = .ok (.iconst 1, 1) := by decide +kernel
theorem dX12_are_27 : decode cX12_are 27 = .ok (.iload_n 3, 1) := by decide +kernel
theorem dX12_are_28 : decode cX12_are 28 = .ok (.ishl, 1) := by decide +kernel
theorem dX12_are_29 : decode cX12_are 29 = .ok (.goto 4, 3) := by decide +kernel
theorem dX12_are_32 : decode cX12_are 32 = .ok (.iconst 0, 1) := by decide +kernel
theorem dX12_are_33 : decode cX12_are 33 = .ok (.ior, 1) := by decide +kernel
theorem dX12_are_34 : decode cX12_are 34 = .ok (.istore_n 2, 1) := by decide +kernel
theorem dX12_are_35 : decode cX12_are 35 = .ok (.iinc 3 1, 3) := by decide +kernel
theorem dX12_are_38 : decode cX12_are 38 = .ok (.goto (-34), 3) := by decide +kernel
theorem dX12_are_41 : decode cX12_are 41 = .ok (.iload_n 2, 1) := by decide +kernel
theorem dX12_are_42 : decode cX12_are 42 = .ok (.ireturn, 1) := by decide +kernel
theorem w_X12_are_4 {l : Launch} {D : zDD} {b : Nat} (x1 x2 x3 : Int32) (σ : zSg) (τ : zLm) {Q : Int32 → zSg → zLm → Prop} (h : ((σ 125 16) ≤ x3 → Q x2 σ τ) ∧ (¬ (σ 125 16) ≤ x3 → (vp_in (14 + x3) 26 ∧ ((¬ (σ 133 ((14 + x3).toNatClampNeg)) = x1 → AI l D b M_X12_are 0 G0 Q 4 [(0, .ref (b + 125)), (1, .int x1), (2, .int (x2 ||| 0)), (3, .int (x3 + 1))] [] G0 σ τ) ∧ ((σ 133 ((14 + x3).toNatClampNeg)) = x1 → (∀ v3 : Int32, v3 = x2 ||| ((1 : Int32) <<< (x3 &&& 31)) → AI l D b M_X12_are 0 G0 Q 4 [(0, .ref (b + 125)), (1, .int x1), (2, .int v3), (3, .int (x3 + 1))] [] G0 σ τ)))))) : AI l D b M_X12_are 0 G0 Q 4 [(0, .ref (b + 125)), (1, .int x1), (2, .int x2), (3, .int x3)] [] G0 σ τ := by
  refine r_iload_n 3 dX12_are_4 rfl rfl ?_
  refine r_aload_n 0 dX12_are_5 rfl rfl ?_
  refine r_getI (j := 16) (by decide) (congrArg Prod.fst k0_125) c12_11 (by decide) rfl tw_826 dX12_are_6 ?_
  refine r_icmp_ge (tgt := 41) dX12_are_9 (by decide) (fun c1 => ?_) (fun c1 => ?_)
  · replace h := h.1 c1
    refine r_iload_n 2 dX12_are_41 rfl rfl ?_
    exact r_iret rfl (Nat.le_refl _) (Nat.le_refl _) dX12_are_42 ⟨rfl, rfl, rfl, _, rfl, h⟩
  · replace h := h.2 c1
    refine r_iload_n 2 dX12_are_12 rfl rfl ?_
    refine r_aload_n 0 dX12_are_13 rfl rfl ?_
    refine r_getR (j := 20) (by decide) (congrArg Prod.fst k0_125) c12_11 (by decide) rfl g0_125_20 tw_830 dX12_are_14 ?_
    refine r_bipush dX12_are_17 cb_14 ?_
    refine r_iload_n 3 dX12_are_19 rfl rfl ?_
    refine r_iadd dX12_are_20 ?_
    refine r_iald (by decide) k0_133 dX12_are_21 h.1 ?_
    replace h := h.2
    refine r_iload_n 1 dX12_are_22 rfl rfl ?_
    refine r_icmp_ne (tgt := 32) dX12_are_23 (by decide) (fun c2 => ?_) (fun c2 => ?_)
    · replace h := h.1 c2
      refine r_iconst dX12_are_32 ci_0 ?_
      refine r_ior dX12_are_33 ?_
      refine r_istore_n dX12_are_34 rfl (by decide) rfl ?_
      refine r_inc 3 dX12_are_35 rfl ci_1 (by decide) rfl ?_
      refine r_goto (tgt := 4) dX12_are_38 (by decide) ?_
      refine r_lv [2, 3, 1, 0] rfl ?_
      exact h
    · replace h := h.2 c2
      refine r_iconst dX12_are_26 ci_1 ?_
      refine r_iload_n 3 dX12_are_27 rfl rfl ?_
      refine r_ishl dX12_are_28 ?_
      refine r_goto (tgt := 33) dX12_are_29 (by decide) ?_
      refine r_ior dX12_are_33 ?_
      refine r_nmI (fun v3 ev3 => ?_)
      replace h := h v3 ev3
      refine r_istore_n dX12_are_34 rfl (by decide) rfl ?_
      refine r_inc 3 dX12_are_35 rfl ci_1 (by decide) rfl ?_
      refine r_goto (tgt := 4) dX12_are_38 (by decide) ?_
      refine r_lv [2, 3, 1, 0] rfl ?_
      exact h

theorem w_X12_are_0 {l : Launch} {D : zDD} {b : Nat} (p1 : Int32) (σ : zSg) (τ : zLm) {Q : Int32 → zSg → zLm → Prop} (h : AI l D b M_X12_are 0 G0 Q 4 [(0, .ref (b + 125)), (1, .int p1), (2, .int 0), (3, .int 0)] [] G0 σ τ) : AI l D b M_X12_are 0 G0 Q 0 [(0, .ref (b + 125)), (1, .int p1)] [] G0 σ τ := by
  refine r_iconst dX12_are_0 ci_0 ?_
  refine r_istore_n dX12_are_1 rfl (by decide) rfl ?_
  refine r_iconst dX12_are_2 ci_0 ?_
  refine r_istore_n dX12_are_3 rfl (by decide) rfl ?_
  refine r_lv [2, 3, 1, 0] rfl ?_
  exact h
theorem s_X12_are {l : Launch} {D : zDD} {b : Nat} (p1 : Int32) (σ : zSg) (τ : zLm) {Q : Int32 → zSg → zLm → Prop} (h : AI l D b M_X12_are 0 G0 Q 4 [(0, .ref (b + 125)), (1, .int p1), (2, .int 0), (3, .int 0)] [] G0 σ τ) : SI l D b M_X12_are 0 G0 [.ref (b + 125), .int p1] σ τ Q := zS.of (by decide) (Nat.le_of_ble_eq_true rfl) rfl (w_X12_are_0 p1 σ τ h)

theorem dX12_left_0 : decode cX12_left 0 = .ok (.aload_n 0, 1) := by decide +kernel
theorem dX12_left_1 : decode cX12_left 1 = .ok (.getfield 32, 3) := by decide +kernel
theorem dX12_left_4 : decode cX12_left 4 = .ok (.iload_n 1, 1) := by decide +kernel
theorem dX12_left_5 : decode cX12_left 5 = .ok (.iaload, 1) := by decide +kernel
theorem dX12_left_6 : decode cX12_left 6 = .ok (.aload_n 0, 1) := by decide +kernel
theorem dX12_left_7 : decode cX12_left 7 = .ok (.getfield 35, 3) := by decide +kernel
theorem dX12_left_10 : decode cX12_left 10 = .ok (.bipush 20, 2) := by decide +kernel
theorem dX12_left_12 : decode cX12_left 12 = .ok (.iload_n 1, 1) := by decide +kernel
theorem dX12_left_13 : decode cX12_left 13 = .ok (.iadd, 1) := by decide +kernel
theorem dX12_left_14 : decode cX12_left 14 = .ok (.iaload, 1) := by decide +kernel
theorem dX12_left_15 : decode cX12_left 15 = .ok (.isub, 1) := by decide +kernel
theorem dX12_left_16 : decode cX12_left 16 = .ok (.ireturn, 1) := by decide +kernel
theorem w_X12_left_0 {l : Launch} {D : zDD} {b : Nat} (p1 : Int32) (σ : zSg) (τ : zLm) {Q : Int32 → zSg → zLm → Prop} (h : vp_in p1 6 ∧ (vp_in (20 + p1) 26 ∧ Q ((σ 132 p1.toNatClampNeg) - (σ 133 ((20 + p1).toNatClampNeg))) σ τ)) : AI l D b M_X12_left 0 G0 Q 0 [(0, .ref (b + 125)), (1, .int p1)] [] G0 σ τ := by
  refine r_aload_n 0 dX12_left_0 rfl rfl ?_
  refine r_getR (j := 19) (by decide) (congrArg Prod.fst k0_125) c12_11 (by decide) rfl g0_125_19 tw_829 dX12_left_1 ?_
  refine r_iload_n 1 dX12_left_4 rfl rfl ?_
  refine r_iald (by decide) k0_132 dX12_left_5 h.1 ?_
  replace h := h.2
  refine r_aload_n 0 dX12_left_6 rfl rfl ?_
  refine r_getR (j := 20) (by decide) (congrArg Prod.fst k0_125) c12_11 (by decide) rfl g0_125_20 tw_830 dX12_left_7 ?_
  refine r_bipush dX12_left_10 cb_20 ?_
  refine r_iload_n 1 dX12_left_12 rfl rfl ?_
  refine r_iadd dX12_left_13 ?_
  refine r_iald (by decide) k0_133 dX12_left_14 h.1 ?_
  replace h := h.2
  refine r_isub dX12_left_15 ?_
  exact r_iret rfl (Nat.le_refl _) (Nat.le_refl _) dX12_left_16 ⟨rfl, rfl, rfl, _, rfl, h⟩
theorem s_X12_left {l : Launch} {D : zDD} {b : Nat} (p1 : Int32) (σ : zSg) (τ : zLm) {Q : Int32 → zSg → zLm → Prop} (h : vp_in p1 6 ∧ (vp_in (20 + p1) 26 ∧ Q ((σ 132 p1.toNatClampNeg) - (σ 133 ((20 + p1).toNatClampNeg))) σ τ)) : SI l D b M_X12_left 0 G0 [.ref (b + 125), .int p1] σ τ Q := zS.of (by decide) (Nat.le_of_ble_eq_true rfl) rfl (w_X12_left_0 p1 σ τ h)

theorem dX12_grown_0 : decode cX12_grown 0 = .ok (.iconst 0, 1) := by decide +kernel
theorem dX12_grown_1 : decode cX12_grown 1 = .ok (.istore_n 1, 1) := by decide +kernel
theorem dX12_grown_2 : decode cX12_grown 2 = .ok (.iconst 0, 1) := by decide +kernel
theorem dX12_grown_3 : decode cX12_grown 3 = .ok (.istore_n 2, 1) := by decide +kernel
theorem dX12_grown_4 : decode cX12_grown 4 = .ok (.iload_n 2, 1) := by decide +kernel
theorem dX12_grown_5 : decode cX12_grown 5 = .ok (.iconst 5, 1) := by decide +kernel
theorem dX12_grown_6 : decode cX12_grown 6 = .ok (.if_icmp .ge 18, 3) := by decide +kernel
theorem dX12_grown_9 : decode cX12_grown 9 = .ok (.iload_n 1, 1) := by decide +kernel
theorem dX12_grown_10 : decode cX12_grown 10 = .ok (.bipush 15, 2) := by decide +kernel
theorem dX12_grown_12 : decode cX12_grown 12 = .ok (.iconst 5, 1) := by decide +kernel
theorem dX12_grown_13 : decode cX12_grown 13 = .ok (.iload_n 2, 1) := by decide +kernel
theorem dX12_grown_14 : decode cX12_grown 14 = .ok (.imul, 1) := by decide +kernel
theorem dX12_grown_15 : decode cX12_grown 15 = .ok (.ishl, 1) := by decide +kernel
theorem dX12_grown_16 : decode cX12_grown 16 = .ok (.ior, 1) := by decide +kernel
theorem dX12_grown_17 : decode cX12_grown 17 = .ok (.istore_n 1, 1) := by decide +kernel
theorem dX12_grown_18 : decode cX12_grown 18 = .ok (.iinc 2 1, 3) := by decide +kernel
theorem dX12_grown_21 : decode cX12_grown 21 = .ok (.goto (-17), 3) := by decide +kernel
theorem dX12_grown_24 : decode cX12_grown 24 = .ok (.iload_n 0, 1) := by decide +kernel
theorem dX12_grown_25 : decode cX12_grown 25 = .ok (.iload_n 0, 1) := by decide +kernel
theorem dX12_grown_26 : decode cX12_grown 26 = .ok (.iconst 5, 1) := by decide +kernel
theorem dX12_grown_27 : decode cX12_grown 27 = .ok (.ishl, 1) := by decide +kernel
theorem dX12_grown_28 : decode cX12_grown 28 = .ok (.ldc 189, 2) := by decide +kernel
theorem dX12_grown_30 : decode cX12_grown 30 = .ok (.iand, 1) := by decide +kernel
theorem dX12_grown_31 : decode cX12_grown 31 = .ok (.ior, 1) := by decide +kernel
theorem dX12_grown_32 : decode cX12_grown 32 = .ok (.iload_n 0, 1) := by decide +kernel
theorem dX12_grown_33 : decode cX12_grown 33 = .ok (.iconst 5, 1) := by decide +kernel
theorem dX12_grown_34 : decode cX12_grown 34 = .ok (.ishr, 1) := by decide +kernel
theorem dX12_grown_35 : decode cX12_grown 35 = .ok (.ior, 1) := by decide +kernel
theorem dX12_grown_36 : decode cX12_grown 36 = .ok (.iload_n 0, 1) := by decide +kernel
theorem dX12_grown_37 : decode cX12_grown 37 = .ok (.iload_n 1, 1) := by decide +kernel
theorem dX12_grown_38 : decode cX12_grown 38 = .ok (.iand, 1) := by decide +kernel
theorem dX12_grown_39 : decode cX12_grown 39 = .ok (.iconst 1, 1) := by decide +kernel
theorem dX12_grown_40 : decode cX12_grown 40 = .ok (.ishl, 1) := by decide +kernel
theorem dX12_grown_41 : decode cX12_grown 41 = .ok (.ior, 1) := by decide +kernel
theorem dX12_grown_42 : decode cX12_grown 42 = .ok (.iload_n 0, 1) := by decide +kernel
theorem dX12_grown_43 : decode cX12_grown 43 = .ok (.iload_n 1, 1) := by decide +kernel
theorem dX12_grown_44 : decode cX12_grown 44 = .ok (.iconst 1, 1) := by decide +kernel
theorem dX12_grown_45 : decode cX12_grown 45 = .ok (.ishl, 1) := by decide +kernel
theorem dX12_grown_46 : decode cX12_grown 46 = .ok (.iand, 1) := by decide +kernel
theorem dX12_grown_47 : decode cX12_grown 47 = .ok (.iconst 1, 1) := by decide +kernel
theorem dX12_grown_48 : decode cX12_grown 48 = .ok (.ishr, 1) := by decide +kernel
theorem dX12_grown_49 : decode cX12_grown 49 = .ok (.ior, 1) := by decide +kernel
theorem dX12_grown_50 : decode cX12_grown 50 = .ok (.ireturn, 1) := by decide +kernel
theorem w_X12_grown_4 {l : Launch} {D : zDD} {b : Nat} {γ : zGm} (x0 x1 x2 : Int32) (σ : zSg) (τ : zLm) {Q : Int32 → zSg → zLm → Prop} (h : (5 ≤ x2 → Q ((((x0 ||| ((x0 <<< ((5 : Int32) &&& 31)) &&& 33554431)) ||| (x0 >>> ((5 : Int32) &&& 31))) ||| ((x0 &&& x1) <<< ((1 : Int32) &&& 31))) ||| ((x0 &&& (x1 <<< ((1 : Int32) &&& 31))) >>> ((1 : Int32) &&& 31))) σ τ) ∧ (¬ 5 ≤ x2 → (∀ v2 : Int32, v2 = x1 ||| ((15 : Int32) <<< ((5 * x2) &&& 31)) → AI l D b M_X12_grown 0 γ Q 4 [(0, .int x0), (1, .int v2), (2, .int (x2 + 1))] [] γ σ τ))) : AI l D b M_X12_grown 0 γ Q 4 [(0, .int x0), (1, .int x1), (2, .int x2)] [] γ σ τ := by
  refine r_iload_n 2 dX12_grown_4 rfl rfl ?_
  refine r_iconst dX12_grown_5 ci_5 ?_
  refine r_icmp_ge (tgt := 24) dX12_grown_6 (by decide) (fun c1 => ?_) (fun c1 => ?_)
  · replace h := h.1 c1
    refine r_iload_n 0 dX12_grown_24 rfl rfl ?_
    refine r_iload_n 0 dX12_grown_25 rfl rfl ?_
    refine r_iconst dX12_grown_26 ci_5 ?_
    refine r_ishl dX12_grown_27 ?_
    refine r_ldc (v := 33554431) rfl tw_1045 rfl dX12_grown_28 ?_
    refine r_iand dX12_grown_30 ?_
    refine r_ior dX12_grown_31 ?_
    refine r_iload_n 0 dX12_grown_32 rfl rfl ?_
    refine r_iconst dX12_grown_33 ci_5 ?_
    refine r_ishr dX12_grown_34 ?_
    refine r_ior dX12_grown_35 ?_
    refine r_iload_n 0 dX12_grown_36 rfl rfl ?_
    refine r_iload_n 1 dX12_grown_37 rfl rfl ?_
    refine r_iand dX12_grown_38 ?_
    refine r_iconst dX12_grown_39 ci_1 ?_
    refine r_ishl dX12_grown_40 ?_
    refine r_ior dX12_grown_41 ?_
    refine r_iload_n 0 dX12_grown_42 rfl rfl ?_
    refine r_iload_n 1 dX12_grown_43 rfl rfl ?_
    refine r_iconst dX12_grown_44 ci_1 ?_
    refine r_ishl dX12_grown_45 ?_
    refine r_iand dX12_grown_46 ?_
    refine r_iconst dX12_grown_47 ci_1 ?_
    refine r_ishr dX12_grown_48 ?_
    refine r_ior dX12_grown_49 ?_
    exact r_iret rfl (Nat.le_refl _) (Nat.le_refl _) dX12_grown_50 ⟨rfl, rfl, rfl, _, rfl, h⟩
  · replace h := h.2 c1
    refine r_iload_n 1 dX12_grown_9 rfl rfl ?_
    refine r_bipush dX12_grown_10 cb_15 ?_
    refine r_iconst dX12_grown_12 ci_5 ?_
    refine r_iload_n 2 dX12_grown_13 rfl rfl ?_
    refine r_imul dX12_grown_14 ?_
    refine r_ishl dX12_grown_15 ?_
    refine r_ior dX12_grown_16 ?_
    refine r_nmI (fun v2 ev2 => ?_)
    replace h := h v2 ev2
    refine r_istore_n dX12_grown_17 rfl (by decide) rfl ?_
    refine r_inc 2 dX12_grown_18 rfl ci_1 (by decide) rfl ?_
    refine r_goto (tgt := 4) dX12_grown_21 (by decide) ?_
    refine r_lv [2, 1, 0] rfl ?_
    exact h

theorem w_X12_grown_0 {l : Launch} {D : zDD} {b : Nat} {γ : zGm} (p1 : Int32) (σ : zSg) (τ : zLm) {Q : Int32 → zSg → zLm → Prop} (h : AI l D b M_X12_grown 0 γ Q 4 [(0, .int p1), (1, .int 0), (2, .int 0)] [] γ σ τ) : AI l D b M_X12_grown 0 γ Q 0 [(0, .int p1)] [] γ σ τ := by
  refine r_iconst dX12_grown_0 ci_0 ?_
  refine r_istore_n dX12_grown_1 rfl (by decide) rfl ?_
  refine r_iconst dX12_grown_2 ci_0 ?_
  refine r_istore_n dX12_grown_3 rfl (by decide) rfl ?_
  refine r_lv [2, 1, 0] rfl ?_
  exact h
theorem s_X12_grown {l : Launch} {D : zDD} {b : Nat} {γ : zGm} (p1 : Int32) (σ : zSg) (τ : zLm) {Q : Int32 → zSg → zLm → Prop} (h : AI l D b M_X12_grown 0 γ Q 4 [(0, .int p1), (1, .int 0), (2, .int 0)] [] γ σ τ) : SI l D b M_X12_grown 0 γ [.int p1] σ τ Q := zS.of (by decide) (Nat.le_of_ble_eq_true rfl) rfl (w_X12_grown_0 p1 σ τ h)

theorem dX12_remember_0 : decode cX12_remember 0 = .ok (.iconst 0, 1) := by decide +kernel
theorem dX12_remember_1 : decode cX12_remember 1 = .ok (.istore_n 1, 1) := by decide +kernel
theorem dX12_remember_2 : decode cX12_remember 2 = .ok (.iload_n 1, 1) := by decide +kernel
theorem dX12_remember_3 : decode cX12_remember 3 = .ok (.bipush 26, 2) := by decide +kernel
theorem dX12_remember_5 : decode cX12_remember 5 = .ok (.if_icmp .ge 29, 3) := by decide +kernel
theorem dX12_remember_8 : decode cX12_remember 8 = .ok (.aload_n 0, 1) := by decide +kernel
theorem dX12_remember_9 : decode cX12_remember 9 = .ok (.getfield 38, 3) := by decide +kernel
theorem dX12_remember_12 : decode cX12_remember 12 = .ok (.bipush 26, 2) := by decide +kernel
theorem dX12_remember_14 : decode cX12_remember 14 = .ok (.aload_n 0, 1) := by decide +kernel
theorem dX12_remember_15 : decode cX12_remember 15 = .ok (.getfield 223, 3) := by decide +kernel
theorem dX12_remember_18 : decode cX12_remember 18 = .ok (.imul, 1) := by decide +kernel
theorem dX12_remember_19 : decode cX12_remember 19 = .ok (.iload_n 1, 1) := by decide +kernel
theorem dX12_remember_20 : decode cX12_remember 20 = .ok (.iadd, 1) := by decide +kernel
theorem dX12_remember_21 : decode cX12_remember 21 = .ok (.aload_n 0, 1) := by decide +kernel
theorem dX12_remember_22 : decode cX12_remember 22 = .ok (.getfield 35, 3) := by decide +kernel
theorem dX12_remember_25 : decode cX12_remember 25 = .ok (.iload_n 1, 1) := by decide +kernel
theorem dX12_remember_26 : decode cX12_remember 26 = .ok (.iaload, 1) := by decide +kernel
theorem dX12_remember_27 : decode cX12_remember 27 = .ok (.iastore, 1) := by decide +kernel
theorem dX12_remember_28 : decode cX12_remember 28 = .ok (.iinc 1 1, 3) := by decide +kernel
theorem dX12_remember_31 : decode cX12_remember 31 = .ok (.goto (-29), 3) := by decide +kernel
theorem dX12_remember_34 : decode cX12_remember 34 = .ok (.aload_n 0, 1) := by decide +kernel
theorem dX12_remember_35 : decode cX12_remember 35 = .ok (.aload_n 0, 1) := by decide +kernel
theorem dX12_remember_36 : decode cX12_remember 36 = .ok (.getfield 223, 3) := by decide +kernel
theorem dX12_remember_39 : decode cX12_remember 39 = .ok (.iconst 1, 1) := by decide +kernel
theorem dX12_remember_40 : decode cX12_remember 40 = .ok (.iadd, 1) := by decide +kernel
theorem dX12_remember_41 : decode cX12_remember 41 = .ok (.bipush 16, 2) := by decide +kernel
theorem dX12_remember_43 : decode cX12_remember 43 = .ok (.irem, 1) := by decide +kernel
theorem dX12_remember_44 : decode cX12_remember 44 = .ok (.putfield 223, 3) := by decide +kernel
theorem dX12_remember_47 : decode cX12_remember 47 = .ok (.aload_n 0, 1) := by decide +kernel
theorem dX12_remember_48 : decode cX12_remember 48 = .ok (.dup, 1) := by decide +kernel
theorem dX12_remember_49 : decode cX12_remember 49 = .ok (.getfield 147, 3) := by decide +kernel
theorem dX12_remember_52 : decode cX12_remember 52 = .ok (.aload_n 0, 1) := by decide +kernel
theorem dX12_remember_53 : decode cX12_remember 53 = .ok (.getfield 147, 3) := by decide +kernel
theorem dX12_remember_56 : decode cX12_remember 56 = .ok (.bipush 16, 2) := by decide +kernel
theorem dX12_remember_58 : decode cX12_remember 58 = .ok (.if_icmp .ge 7, 3) := by decide +kernel
theorem dX12_remember_61 : decode cX12_remember 61 = .ok (.iconst 1, 1) := by decide +kernel
theorem dX12_remember_62 : decode cX12_remember 62 = .ok (.goto 4, 3) := by decide +kernel
theorem dX12_remember_65 : decode cX12_remember 65 = .ok (.iconst 0, 1) := by decide +kernel
theorem dX12_remember_66 : decode cX12_remember 66 = .ok (.iadd, 1) := by decide +kernel
theorem dX12_remember_67 : decode cX12_remember 67 = .ok (.putfield 147, 3) := by decide +kernel
theorem dX12_remember_70 : decode cX12_remember 70 = .ok (.return_, 1) := by decide +kernel
theorem w_X12_remember_2 {l : Launch} {D : zDD} {b : Nat} (x1 : Int32) (σ : zSg) (τ : zLm) {Q : zSg → zLm → Prop} (h : (26 ≤ x1 → ((16 ≤ ((st2 σ 125 22 (((σ 125 22) + 1) - ((σ 125 22) + 1) / 16 * 16)) 125 21) → (∀ σ3 : zSg, σ3 = st2 (st2 σ 125 22 (((σ 125 22) + 1) - ((σ 125 22) + 1) / 16 * 16)) 125 21 (((st2 σ 125 22 (((σ 125 22) + 1) - ((σ 125 22) + 1) / 16 * 16)) 125 21) + 0) → Q σ3 τ)) ∧ (¬ 16 ≤ ((st2 σ 125 22 (((σ 125 22) + 1) - ((σ 125 22) + 1) / 16 * 16)) 125 21) → (∀ σ4 : zSg, σ4 = st2 (st2 σ 125 22 (((σ 125 22) + 1) - ((σ 125 22) + 1) / 16 * 16)) 125 21 (((st2 σ 125 22 (((σ 125 22) + 1) - ((σ 125 22) + 1) / 16 * 16)) 125 21) + 1) → Q σ4 τ)))) ∧ (¬ 26 ≤ x1 → (vp_in x1 26 ∧ (vp_in ((26 * (σ 125 22)) + x1) 416 ∧ AV l D b M_X12_remember 0 G0 Q 2 [(0, .ref (b + 125)), (1, .int (x1 + 1))] [] G0 (st2 σ 134 (((26 * (σ 125 22)) + x1).toNatClampNeg) (σ 133 x1.toNatClampNeg)) τ)))) : AV l D b M_X12_remember 0 G0 Q 2 [(0, .ref (b + 125)), (1, .int x1)] [] G0 σ τ := by
  refine r_iload_n 1 dX12_remember_2 rfl rfl ?_
  refine r_bipush dX12_remember_3 cb_26 ?_
  refine r_icmp_ge (tgt := 34) dX12_remember_5 (by decide) (fun c1 => ?_) (fun c1 => ?_)
  · replace h := h.1 c1
    refine r_aload_n 0 dX12_remember_34 rfl rfl ?_
    refine r_aload_n 0 dX12_remember_35 rfl rfl ?_
    refine r_getI (j := 22) (by decide) (congrArg Prod.fst k0_125) c12_11 (by decide) rfl tw_832 dX12_remember_36 ?_
    refine r_iconst dX12_remember_39 ci_1 ?_
    refine r_iadd dX12_remember_40 ?_
    refine r_bipush dX12_remember_41 cb_16 ?_
    refine r_irem dX12_remember_43 (by decide) ?_
    refine r_putI (j := 22) (by decide) (congrArg Prod.fst k0_125) c12_11 (by decide) rfl (Or.inl rfl) tw_832 dX12_remember_44 ?_
    refine r_aload_n 0 dX12_remember_47 rfl rfl ?_
    refine r_dup dX12_remember_48 rfl ?_
    refine r_getI (j := 21) (by decide) (congrArg Prod.fst k0_125) c12_11 (by decide) rfl tw_831 dX12_remember_49 ?_
    refine r_aload_n 0 dX12_remember_52 rfl rfl ?_
    refine r_getI (j := 21) (by decide) (congrArg Prod.fst k0_125) c12_11 (by decide) rfl tw_831 dX12_remember_53 ?_
    refine r_bipush dX12_remember_56 cb_16 ?_
    refine r_icmp_ge (tgt := 65) dX12_remember_58 (by decide) (fun c2 => ?_) (fun c2 => ?_)
    · replace h := h.1 c2
      refine r_iconst dX12_remember_65 ci_0 ?_
      refine r_iadd dX12_remember_66 ?_
      refine r_putI (j := 21) (by decide) (congrArg Prod.fst k0_125) c12_11 (by decide) rfl (Or.inl rfl) tw_831 dX12_remember_67 ?_
      refine r_nmS (fun σ3 eσ3 => ?_)
      replace h := h σ3 eσ3
      exact r_vret rfl (Nat.le_refl _) (Nat.le_refl _) dX12_remember_70 ⟨rfl, rfl, rfl, rfl, h⟩
    · replace h := h.2 c2
      refine r_iconst dX12_remember_61 ci_1 ?_
      refine r_goto (tgt := 66) dX12_remember_62 (by decide) ?_
      refine r_iadd dX12_remember_66 ?_
      refine r_putI (j := 21) (by decide) (congrArg Prod.fst k0_125) c12_11 (by decide) rfl (Or.inl rfl) tw_831 dX12_remember_67 ?_
      refine r_nmS (fun σ4 eσ4 => ?_)
      replace h := h σ4 eσ4
      exact r_vret rfl (Nat.le_refl _) (Nat.le_refl _) dX12_remember_70 ⟨rfl, rfl, rfl, rfl, h⟩
  · replace h := h.2 c1
    refine r_aload_n 0 dX12_remember_8 rfl rfl ?_
    refine r_getR (j := 23) (by decide) (congrArg Prod.fst k0_125) c12_11 (by decide) rfl g0_125_23 tw_833 dX12_remember_9 ?_
    refine r_bipush dX12_remember_12 cb_26 ?_
    refine r_aload_n 0 dX12_remember_14 rfl rfl ?_
    refine r_getI (j := 22) (by decide) (congrArg Prod.fst k0_125) c12_11 (by decide) rfl tw_832 dX12_remember_15 ?_
    refine r_imul dX12_remember_18 ?_
    refine r_iload_n 1 dX12_remember_19 rfl rfl ?_
    refine r_iadd dX12_remember_20 ?_
    refine r_aload_n 0 dX12_remember_21 rfl rfl ?_
    refine r_getR (j := 20) (by decide) (congrArg Prod.fst k0_125) c12_11 (by decide) rfl g0_125_20 tw_830 dX12_remember_22 ?_
    refine r_iload_n 1 dX12_remember_25 rfl rfl ?_
    refine r_iald (by decide) k0_133 dX12_remember_26 h.1 ?_
    replace h := h.2
    refine r_iast (by decide) k0_134 dX12_remember_27 h.1 ?_
    replace h := h.2
    refine r_inc 1 dX12_remember_28 rfl ci_1 (by decide) rfl ?_
    refine r_goto (tgt := 2) dX12_remember_31 (by decide) ?_
    refine r_lv [1, 0] rfl ?_
    exact h

theorem w_X12_remember_0 {l : Launch} {D : zDD} {b : Nat} (σ : zSg) (τ : zLm) {Q : zSg → zLm → Prop} (h : AV l D b M_X12_remember 0 G0 Q 2 [(0, .ref (b + 125)), (1, .int 0)] [] G0 σ τ) : AV l D b M_X12_remember 0 G0 Q 0 [(0, .ref (b + 125))] [] G0 σ τ := by
  refine r_iconst dX12_remember_0 ci_0 ?_
  refine r_istore_n dX12_remember_1 rfl (by decide) rfl ?_
  refine r_lv [1, 0] rfl ?_
  exact h
theorem s_X12_remember {l : Launch} {D : zDD} {b : Nat} (σ : zSg) (τ : zLm) {Q : zSg → zLm → Prop} (h : AV l D b M_X12_remember 0 G0 Q 2 [(0, .ref (b + 125)), (1, .int 0)] [] G0 σ τ) : SV l D b M_X12_remember 0 G0 [.ref (b + 125)] σ τ Q := zS.of (by decide) (Nat.le_of_ble_eq_true rfl) rfl (w_X12_remember_0 σ τ h)

theorem dX12_less_0 : decode cX12_less 0 = .ok (.iload_n 0, 1) := by decide +kernel
theorem dX12_less_1 : decode cX12_less 1 = .ok (.iload_n 1, 1) := by decide +kernel
theorem dX12_less_2 : decode cX12_less 2 = .ok (.if_icmp .le 9, 3) := by decide +kernel
theorem dX12_less_5 : decode cX12_less 5 = .ok (.iload_n 0, 1) := by decide +kernel
theorem dX12_less_6 : decode cX12_less 6 = .ok (.iload_n 1, 1) := by decide +kernel
theorem dX12_less_7 : decode cX12_less 7 = .ok (.isub, 1) := by decide +kernel
theorem dX12_less_8 : decode cX12_less 8 = .ok (.goto 4, 3) := by decide +kernel
theorem dX12_less_11 : decode cX12_less 11 = .ok (.iconst 0, 1) := by decide +kernel
theorem dX12_less_12 : decode cX12_less 12 = .ok (.ireturn, 1) := by decide +kernel
theorem w_X12_less_0 {l : Launch} {D : zDD} {b : Nat} {γ : zGm} (p1 p2 : Int32) (σ : zSg) (τ : zLm) {Q : Int32 → zSg → zLm → Prop} (h : (p1 ≤ p2 → Q 0 σ τ) ∧ (¬ p1 ≤ p2 → Q (p1 - p2) σ τ)) : AI l D b M_X12_less 0 γ Q 0 [(0, .int p1), (1, .int p2)] [] γ σ τ := by
  refine r_iload_n 0 dX12_less_0 rfl rfl ?_
  refine r_iload_n 1 dX12_less_1 rfl rfl ?_
  refine r_icmp_le (tgt := 11) dX12_less_2 (by decide) (fun c1 => ?_) (fun c1 => ?_)
  · replace h := h.1 c1
    refine r_iconst dX12_less_11 ci_0 ?_
    exact r_iret rfl (Nat.le_refl _) (Nat.le_refl _) dX12_less_12 ⟨rfl, rfl, rfl, _, rfl, h⟩
  · replace h := h.2 c1
    refine r_iload_n 0 dX12_less_5 rfl rfl ?_
    refine r_iload_n 1 dX12_less_6 rfl rfl ?_
    refine r_isub dX12_less_7 ?_
    refine r_goto (tgt := 12) dX12_less_8 (by decide) ?_
    exact r_iret rfl (Nat.le_refl _) (Nat.le_refl _) dX12_less_12 ⟨rfl, rfl, rfl, _, rfl, h⟩
theorem s_X12_less {l : Launch} {D : zDD} {b : Nat} {γ : zGm} (p1 p2 : Int32) (σ : zSg) (τ : zLm) {Q : Int32 → zSg → zLm → Prop} (h : (p1 ≤ p2 → Q 0 σ τ) ∧ (¬ p1 ≤ p2 → Q (p1 - p2) σ τ)) : SI l D b M_X12_less 0 γ [.int p1, .int p2] σ τ Q := zS.of (by decide) (Nat.le_of_ble_eq_true rfl) rfl (w_X12_less_0 p1 p2 σ τ h)

theorem dX12_rests_0 : decode cX12_rests 0 = .ok (.iconst 0, 1) := by decide +kernel
theorem dX12_rests_1 : decode cX12_rests 1 = .ok (.istore_n 1, 1) := by decide +kernel
theorem dX12_rests_2 : decode cX12_rests 2 = .ok (.iconst 0, 1) := by decide +kernel
theorem dX12_rests_3 : decode cX12_rests 3 = .ok (.istore_n 2, 1) := by decide +kernel
theorem dX12_rests_4 : decode cX12_rests 4 = .ok (.iload_n 2, 1) := by decide +kernel
theorem dX12_rests_5 : decode cX12_rests 5 = .ok (.bipush 6, 2) := by decide +kernel
theorem dX12_rests_7 : decode cX12_rests 7 = .ok (.if_icmp .ge 31, 3) := by decide +kernel
theorem dX12_rests_10 : decode cX12_rests 10 = .ok (.iload_n 1, 1) := by decide +kernel
theorem dX12_rests_11 : decode cX12_rests 11 = .ok (.aload_n 0, 1) := by decide +kernel
theorem dX12_rests_12 : decode cX12_rests 12 = .ok (.getfield 35, 3) := by decide +kernel
theorem dX12_rests_15 : decode cX12_rests 15 = .ok (.bipush 20, 2) := by decide +kernel
theorem dX12_rests_17 : decode cX12_rests 17 = .ok (.iload_n 2, 1) := by decide +kernel
theorem dX12_rests_18 : decode cX12_rests 18 = .ok (.iadd, 1) := by decide +kernel
theorem dX12_rests_19 : decode cX12_rests 19 = .ok (.iaload, 1) := by decide +kernel
theorem dX12_rests_20 : decode cX12_rests 20 = .ok (.iadd, 1) := by decide +kernel
theorem dX12_rests_21 : decode cX12_rests 21 = .ok (.istore_n 1, 1) := by decide +kernel
theorem dX12_rests_22 : decode cX12_rests 22 = .ok (.aload_n 0, 1) := by decide +kernel
theorem dX12_rests_23 : decode cX12_rests 23 = .ok (.getfield 35, 3) := by decide +kernel
theorem dX12_rests_26 : decode cX12_rests 26 = .ok (.bipush 20, 2) := by decide +kernel
theorem dX12_rests_28 : decode cX12_rests 28 = .ok (.iload_n 2, 1) := by decide +kernel
theorem dX12_rests_29 : decode cX12_rests 29 = .ok (.iadd, 1) := by decide +kernel
theorem dX12_rests_30 : decode cX12_rests 30 = .ok (.iconst 0, 1) := by decide +kernel
theorem dX12_rests_31 : decode cX12_rests 31 = .ok (.iastore, 1) := by decide +kernel
theorem dX12_rests_32 : decode cX12_rests 32 = .ok (.iinc 2 1, 3) := by decide +kernel
theorem dX12_rests_35 : decode cX12_rests 35 = .ok (.goto (-31), 3) := by decide +kernel
theorem dX12_rests_38 : decode cX12_rests 38 = .ok (.iload_n 1, 1) := by decide +kernel
theorem dX12_rests_39 : decode cX12_rests 39 = .ok (.ireturn, 1) := by decide +kernel
theorem w_X12_rests_4 {l : Launch} {D : zDD} {b : Nat} (x1 x2 : Int32) (σ : zSg) (τ : zLm) {Q : Int32 → zSg → zLm → Prop} (h : (6 ≤ x2 → Q x1 σ τ) ∧ (¬ 6 ≤ x2 → (vp_in (20 + x2) 26 ∧ (∀ v2 : Int32, v2 = x1 + (σ 133 ((20 + x2).toNatClampNeg)) → vp_in (20 + x2) 26 ∧ AI l D b M_X12_rests 0 G0 Q 4 [(0, .ref (b + 125)), (1, .int v2), (2, .int (x2 + 1))] [] G0 (st2 σ 133 ((20 + x2).toNatClampNeg) 0) τ)))) : AI l D b M_X12_rests 0 G0 Q 4 [(0, .ref (b + 125)), (1, .int x1), (2, .int x2)] [] G0 σ τ := by
  refine r_iload_n 2 dX12_rests_4 rfl rfl ?_
  refine r_bipush dX12_rests_5 cb_6 ?_
  refine r_icmp_ge (tgt := 38) dX12_rests_7 (by decide) (fun c1 => ?_) (fun c1 => ?_)
  · replace h := h.1 c1
    refine r_iload_n 1 dX12_rests_38 rfl rfl ?_
    exact r_iret rfl (Nat.le_refl _) (Nat.le_refl _) dX12_rests_39 ⟨rfl, rfl, rfl, _, rfl, h⟩
  · replace h := h.2 c1
    refine r_iload_n 1 dX12_rests_10 rfl rfl ?_
    refine r_aload_n 0 dX12_rests_11 rfl rfl ?_
    refine r_getR (j := 20) (by decide) (congrArg Prod.fst k0_125) c12_11 (by decide) rfl g0_125_20 tw_830 dX12_rests_12 ?_
    refine r_bipush dX12_rests_15 cb_20 ?_
    refine r_iload_n 2 dX12_rests_17 rfl rfl ?_
    refine r_iadd dX12_rests_18 ?_
    refine r_iald (by decide) k0_133 dX12_rests_19 h.1 ?_
    replace h := h.2
    refine r_iadd dX12_rests_20 ?_
    refine r_nmI (fun v2 ev2 => ?_)
    replace h := h v2 ev2
    refine r_istore_n dX12_rests_21 rfl (by decide) rfl ?_
    refine r_aload_n 1 dX12_rests_22 rfl rfl ?_
    refine r_getR (j := 20) (by decide) (congrArg Prod.fst k0_125) c12_11 (by decide) rfl g0_125_20 tw_830 dX12_rests_23 ?_
    refine r_bipush dX12_rests_26 cb_20 ?_
    refine r_iload_n 2 dX12_rests_28 rfl rfl ?_
    refine r_iadd dX12_rests_29 ?_
    refine r_iconst dX12_rests_30 ci_0 ?_
    refine r_iast (by decide) k0_133 dX12_rests_31 h.1 ?_
    replace h := h.2
    refine r_inc 2 dX12_rests_32 rfl ci_1 (by decide) rfl ?_
    refine r_goto (tgt := 4) dX12_rests_35 (by decide) ?_
    refine r_lv [2, 1, 0] rfl ?_
    exact h

theorem w_X12_rests_0 {l : Launch} {D : zDD} {b : Nat} (σ : zSg) (τ : zLm) {Q : Int32 → zSg → zLm → Prop} (h : AI l D b M_X12_rests 0 G0 Q 4 [(0, .ref (b + 125)), (1, .int 0), (2, .int 0)] [] G0 σ τ) : AI l D b M_X12_rests 0 G0 Q 0 [(0, .ref (b + 125))] [] G0 σ τ := by
  refine r_iconst dX12_rests_0 ci_0 ?_
  refine r_istore_n dX12_rests_1 rfl (by decide) rfl ?_
  refine r_iconst dX12_rests_2 ci_0 ?_
  refine r_istore_n dX12_rests_3 rfl (by decide) rfl ?_
  refine r_lv [2, 1, 0] rfl ?_
  exact h
theorem s_X12_rests {l : Launch} {D : zDD} {b : Nat} (σ : zSg) (τ : zLm) {Q : Int32 → zSg → zLm → Prop} (h : AI l D b M_X12_rests 0 G0 Q 4 [(0, .ref (b + 125)), (1, .int 0), (2, .int 0)] [] G0 σ τ) : SI l D b M_X12_rests 0 G0 [.ref (b + 125)] σ τ Q := zS.of (by decide) (Nat.le_of_ble_eq_true rfl) rfl (w_X12_rests_0 σ τ h)

theorem dX12_draw_0 : decode cX12_draw 0 = .ok (.aload_n 0, 1) := by decide +kernel
theorem dX12_draw_1 : decode cX12_draw 1 = .ok (.aload_n 0, 1) := by decide +kernel
theorem dX12_draw_2 : decode cX12_draw 2 = .ok (.getfield 268, 3) := by decide +kernel
theorem dX12_draw_5 : decode cX12_draw 5 = .ok (.ldc2_w 272, 3) := by decide +kernel
theorem dX12_draw_8 : decode cX12_draw 8 = .ok (.lmul, 1) := by decide +kernel
theorem dX12_draw_9 : decode cX12_draw 9 = .ok (.ldc2_w 274, 3) := by decide +kernel
theorem dX12_draw_12 : decode cX12_draw 12 = .ok (.ladd, 1) := by decide +kernel
theorem dX12_draw_13 : decode cX12_draw 13 = .ok (.ldc2_w 276, 3) := by decide +kernel
theorem dX12_draw_16 : decode cX12_draw 16 = .ok (.lrem, 1) := by decide +kernel
theorem dX12_draw_17 : decode cX12_draw 17 = .ok (.putfield 268, 3) := by decide +kernel
theorem dX12_draw_20 : decode cX12_draw 20 = .ok (.aload_n 0, 1) := by decide +kernel
theorem dX12_draw_21 : decode cX12_draw 21 = .ok (.getfield 268, 3) := by decide +kernel
theorem dX12_draw_24 : decode cX12_draw 24 = .ok (.ldc2_w 278, 3) := by decide +kernel
theorem dX12_draw_27 : decode cX12_draw 27 = .ok (.ldiv, 1) := by decide +kernel
theorem dX12_draw_28 : decode cX12_draw 28 = .ok (.iload_n 1, 1) := by decide +kernel
theorem dX12_draw_29 : decode cX12_draw 29 = .ok (.i2l, 1) := by decide +kernel
theorem dX12_draw_30 : decode cX12_draw 30 = .ok (.lrem, 1) := by decide +kernel
theorem dX12_draw_31 : decode cX12_draw 31 = .ok (.l2i, 1) := by decide +kernel
theorem dX12_draw_32 : decode cX12_draw 32 = .ok (.ireturn, 1) := by decide +kernel
theorem w_X12_draw_0 {l : Launch} {D : zDD} {b : Nat} (p1 : Int32) (σ : zSg) (τ : zLm) {Q : Int32 → zSg → zLm → Prop} (h : ¬ p1.toInt64 = 0 ∧ Q (((((st2 τ 125 24 ((((τ 125 24) * 1103515245) + 12345) - (((τ 125 24) * 1103515245) + 12345) / 2147483648 * 2147483648)) 125 24) / 65536) - (((st2 τ 125 24 ((((τ 125 24) * 1103515245) + 12345) - (((τ 125 24) * 1103515245) + 12345) / 2147483648 * 2147483648)) 125 24) / 65536) / p1.toInt64 * p1.toInt64).toInt32) σ (st2 τ 125 24 ((((τ 125 24) * 1103515245) + 12345) - (((τ 125 24) * 1103515245) + 12345) / 2147483648 * 2147483648))) : AI l D b M_X12_draw 0 G0 Q 0 [(0, .ref (b + 125)), (1, .int p1)] [] G0 σ τ := by
  refine r_aload_n 0 dX12_draw_0 rfl rfl ?_
  refine r_aload_n 0 dX12_draw_1 rfl rfl ?_
  refine r_getL (j := 24) (by decide) (congrArg Prod.fst k0_125) c12_11 (by decide) rfl tw_834 dX12_draw_2 ?_
  refine r_ldc2 (v := 1103515245) rfl tw_1167 rfl dX12_draw_5 ?_
  refine r_lmul dX12_draw_8 ?_
  refine r_ldc2 (v := 12345) rfl tw_1168 rfl dX12_draw_9 ?_
  refine r_ladd dX12_draw_12 ?_
  refine r_ldc2 (v := 2147483648) rfl tw_1169 rfl dX12_draw_13 ?_
  refine r_lrem dX12_draw_16 (by decide) ?_
  refine r_putL (j := 24) (by decide) (congrArg Prod.fst k0_125) c12_11 (by decide) rfl (Or.inl rfl) tw_834 dX12_draw_17 ?_
  refine r_aload_n 0 dX12_draw_20 rfl rfl ?_
  refine r_getL (j := 24) (by decide) (congrArg Prod.fst k0_125) c12_11 (by decide) rfl tw_834 dX12_draw_21 ?_
  refine r_ldc2 (v := 65536) rfl tw_1170 rfl dX12_draw_24 ?_
  refine r_ldiv dX12_draw_27 (by decide) ?_
  refine r_iload_n 1 dX12_draw_28 rfl rfl ?_
  refine r_i2l dX12_draw_29 ?_
  refine r_lrem dX12_draw_30 h.1 ?_
  replace h := h.2
  refine r_l2i dX12_draw_31 ?_
  exact r_iret rfl (Nat.le_refl _) (Nat.le_refl _) dX12_draw_32 ⟨rfl, rfl, rfl, _, rfl, h⟩
theorem s_X12_draw {l : Launch} {D : zDD} {b : Nat} (p1 : Int32) (σ : zSg) (τ : zLm) {Q : Int32 → zSg → zLm → Prop} (h : ¬ p1.toInt64 = 0 ∧ Q (((((st2 τ 125 24 ((((τ 125 24) * 1103515245) + 12345) - (((τ 125 24) * 1103515245) + 12345) / 2147483648 * 2147483648)) 125 24) / 65536) - (((st2 τ 125 24 ((((τ 125 24) * 1103515245) + 12345) - (((τ 125 24) * 1103515245) + 12345) / 2147483648 * 2147483648)) 125 24) / 65536) / p1.toInt64 * p1.toInt64).toInt32) σ (st2 τ 125 24 ((((τ 125 24) * 1103515245) + 12345) - (((τ 125 24) * 1103515245) + 12345) / 2147483648 * 2147483648))) : SI l D b M_X12_draw 0 G0 [.ref (b + 125), .int p1] σ τ Q := zS.of (by decide) (Nat.le_of_ble_eq_true rfl) rfl (w_X12_draw_0 p1 σ τ h)

theorem dX12_undo_0 : decode cX12_undo 0 = .ok (.aload_n 0, 1) := by decide +kernel
theorem dX12_undo_1 : decode cX12_undo 1 = .ok (.getfield 147, 3) := by decide +kernel
theorem dX12_undo_4 : decode cX12_undo 4 = .ok (.ifCond .ne 6, 3) := by decide +kernel
theorem dX12_undo_7 : decode cX12_undo 7 = .ok (.ldc 233, 2) := by decide +kernel
theorem dX12_undo_9 : decode cX12_undo 9 = .ok (.ireturn, 1) := by decide +kernel
theorem dX12_undo_10 : decode cX12_undo 10 = .ok (.aload_n 0, 1) := by decide +kernel
theorem dX12_undo_11 : decode cX12_undo 11 = .ok (.aload_n 0, 1) := by decide +kernel
theorem dX12_undo_12 : decode cX12_undo 12 = .ok (.getfield 223, 3) := by decide +kernel
theorem dX12_undo_15 : decode cX12_undo 15 = .ok (.bipush 16, 2) := by decide +kernel
theorem dX12_undo_17 : decode cX12_undo 17 = .ok (.iadd, 1) := by decide +kernel
theorem dX12_undo_18 : decode cX12_undo 18 = .ok (.iconst 1, 1) := by decide +kernel
theorem dX12_undo_19 : decode cX12_undo 19 = .ok (.isub, 1) := by decide +kernel
theorem dX12_undo_20 : decode cX12_undo 20 = .ok (.bipush 16, 2) := by decide +kernel
theorem dX12_undo_22 : decode cX12_undo 22 = .ok (.irem, 1) := by decide +kernel
theorem dX12_undo_23 : decode cX12_undo 23 = .ok (.putfield 223, 3) := by decide +kernel
theorem dX12_undo_26 : decode cX12_undo 26 = .ok (.aload_n 0, 1) := by decide +kernel
theorem dX12_undo_27 : decode cX12_undo 27 = .ok (.dup, 1) := by decide +kernel
theorem dX12_undo_28 : decode cX12_undo 28 = .ok (.getfield 147, 3) := by decide +kernel
theorem dX12_undo_31 : decode cX12_undo 31 = .ok (.iconst 1, 1) := by decide +kernel
theorem dX12_undo_32 : decode cX12_undo 32 = .ok (.isub, 1) := by decide +kernel
theorem dX12_undo_33 : decode cX12_undo 33 = .ok (.putfield 147, 3) := by decide +kernel
theorem dX12_undo_36 : decode cX12_undo 36 = .ok (.iconst 0, 1) := by decide +kernel
theorem dX12_undo_37 : decode cX12_undo 37 = .ok (.istore_n 1, 1) := by decide +kernel
theorem dX12_undo_38 : decode cX12_undo 38 = .ok (.iload_n 1, 1) := by decide +kernel
theorem dX12_undo_39 : decode cX12_undo 39 = .ok (.bipush 26, 2) := by decide +kernel
theorem dX12_undo_41 : decode cX12_undo 41 = .ok (.if_icmp .ge 29, 3) := by decide +kernel
theorem dX12_undo_44 : decode cX12_undo 44 = .ok (.aload_n 0, 1) := by decide +kernel
theorem dX12_undo_45 : decode cX12_undo 45 = .ok (.getfield 35, 3) := by decide +kernel
theorem dX12_undo_48 : decode cX12_undo 48 = .ok (.iload_n 1, 1) := by decide +kernel
theorem dX12_undo_49 : decode cX12_undo 49 = .ok (.aload_n 0, 1) := by decide +kernel
theorem dX12_undo_50 : decode cX12_undo 50 = .ok (.getfield 38, 3) := by decide +kernel
theorem dX12_undo_53 : decode cX12_undo 53 = .ok (.bipush 26, 2) := by decide +kernel
theorem dX12_undo_55 : decode cX12_undo 55 = .ok (.aload_n 0, 1) := by decide +kernel
theorem dX12_undo_56 : decode cX12_undo 56 = .ok (.getfield 223, 3) := by decide +kernel
theorem dX12_undo_59 : decode cX12_undo 59 = .ok (.imul, 1) := by decide +kernel
theorem dX12_undo_60 : decode cX12_undo 60 = .ok (.iload_n 1, 1) := by decide +kernel
theorem dX12_undo_61 : decode cX12_undo 61 = .ok (.iadd, 1) := by decide +kernel
theorem dX12_undo_62 : decode cX12_undo 62 = .ok (.iaload, 1) := by decide +kernel
theorem dX12_undo_63 : decode cX12_undo 63 = .ok (.iastore, 1) := by decide +kernel
theorem dX12_undo_64 : decode cX12_undo 64 = .ok (.iinc 1 1, 3) := by decide +kernel
theorem dX12_undo_67 : decode cX12_undo 67 = .ok (.goto (-29), 3) := by decide +kernel
theorem dX12_undo_70 : decode cX12_undo 70 = .ok (.aload_n 0, 1) := by decide +kernel
theorem dX12_undo_71 : decode cX12_undo 71 = .ok (.getfield 147, 3) := by decide +kernel
theorem dX12_undo_74 : decode cX12_undo 74 = .ok (.ireturn, 1) := by decide +kernel
theorem w_X12_undo_38 {l : Launch} {D : zDD} {b : Nat} (x1 : Int32) (σ : zSg) (τ : zLm) {Q : Int32 → zSg → zLm → Prop} (h : (26 ≤ x1 → Q (σ 125 21) σ τ) ∧ (¬ 26 ≤ x1 → (vp_in ((26 * (σ 125 22)) + x1) 416 ∧ (vp_in x1 26 ∧ AI l D b M_X12_undo 0 G0 Q 38 [(0, .ref (b + 125)), (1, .int (x1 + 1))] [] G0 (st2 σ 133 x1.toNatClampNeg (σ 134 (((26 * (σ 125 22)) + x1).toNatClampNeg))) τ)))) : AI l D b M_X12_undo 0 G0 Q 38 [(0, .ref (b + 125)), (1, .int x1)] [] G0 σ τ := by
  refine r_iload_n 1 dX12_undo_38 rfl rfl ?_
  refine r_bipush dX12_undo_39 cb_26 ?_
  refine r_icmp_ge (tgt := 70) dX12_undo_41 (by decide) (fun c1 => ?_) (fun c1 => ?_)
  · replace h := h.1 c1
    refine r_aload_n 0 dX12_undo_70 rfl rfl ?_
    refine r_getI (j := 21) (by decide) (congrArg Prod.fst k0_125) c12_11 (by decide) rfl tw_831 dX12_undo_71 ?_
    exact r_iret rfl (Nat.le_refl _) (Nat.le_refl _) dX12_undo_74 ⟨rfl, rfl, rfl, _, rfl, h⟩
  · replace h := h.2 c1
    refine r_aload_n 0 dX12_undo_44 rfl rfl ?_
    refine r_getR (j := 20) (by decide) (congrArg Prod.fst k0_125) c12_11 (by decide) rfl g0_125_20 tw_830 dX12_undo_45 ?_
    refine r_iload_n 1 dX12_undo_48 rfl rfl ?_
    refine r_aload_n 0 dX12_undo_49 rfl rfl ?_
    refine r_getR (j := 23) (by decide) (congrArg Prod.fst k0_125) c12_11 (by decide) rfl g0_125_23 tw_833 dX12_undo_50 ?_
    refine r_bipush dX12_undo_53 cb_26 ?_
    refine r_aload_n 0 dX12_undo_55 rfl rfl ?_
    refine r_getI (j := 22) (by decide) (congrArg Prod.fst k0_125) c12_11 (by decide) rfl tw_832 dX12_undo_56 ?_
    refine r_imul dX12_undo_59 ?_
    refine r_iload_n 1 dX12_undo_60 rfl rfl ?_
    refine r_iadd dX12_undo_61 ?_
    refine r_iald (by decide) k0_134 dX12_undo_62 h.1 ?_
    replace h := h.2
    refine r_iast (by decide) k0_133 dX12_undo_63 h.1 ?_
    replace h := h.2
    refine r_inc 1 dX12_undo_64 rfl ci_1 (by decide) rfl ?_
    refine r_goto (tgt := 38) dX12_undo_67 (by decide) ?_
    refine r_lv [1, 0] rfl ?_
    exact h

theorem w_X12_undo_0 {l : Launch} {D : zDD} {b : Nat} (σ : zSg) (τ : zLm) {Q : Int32 → zSg → zLm → Prop} (h : (¬ (σ 125 21) = 0 → (∀ σ2 : zSg, σ2 = st2 (st2 σ 125 22 ((((σ 125 22) + 16) - 1) - (((σ 125 22) + 16) - 1) / 16 * 16)) 125 21 (((st2 σ 125 22 ((((σ 125 22) + 16) - 1) - (((σ 125 22) + 16) - 1) / 16 * 16)) 125 21) - 1) → AI l D b M_X12_undo 0 G0 Q 38 [(0, .ref (b + 125)), (1, .int 0)] [] G0 σ2 τ)) ∧ ((σ 125 21) = 0 → Q (-1000000003) σ τ)) : AI l D b M_X12_undo 0 G0 Q 0 [(0, .ref (b + 125))] [] G0 σ τ := by
  refine r_aload_n 0 dX12_undo_0 rfl rfl ?_
  refine r_getI (j := 21) (by decide) (congrArg Prod.fst k0_125) c12_11 (by decide) rfl tw_831 dX12_undo_1 ?_
  refine r_if_ne (tgt := 10) dX12_undo_4 (by decide) (fun c1 => ?_) (fun c1 => ?_)
  · replace h := h.1 c1
    refine r_aload_n 0 dX12_undo_10 rfl rfl ?_
    refine r_aload_n 0 dX12_undo_11 rfl rfl ?_
    refine r_getI (j := 22) (by decide) (congrArg Prod.fst k0_125) c12_11 (by decide) rfl tw_832 dX12_undo_12 ?_
    refine r_bipush dX12_undo_15 cb_16 ?_
    refine r_iadd dX12_undo_17 ?_
    refine r_iconst dX12_undo_18 ci_1 ?_
    refine r_isub dX12_undo_19 ?_
    refine r_bipush dX12_undo_20 cb_16 ?_
    refine r_irem dX12_undo_22 (by decide) ?_
    refine r_putI (j := 22) (by decide) (congrArg Prod.fst k0_125) c12_11 (by decide) rfl (Or.inl rfl) tw_832 dX12_undo_23 ?_
    refine r_aload_n 0 dX12_undo_26 rfl rfl ?_
    refine r_dup dX12_undo_27 rfl ?_
    refine r_getI (j := 21) (by decide) (congrArg Prod.fst k0_125) c12_11 (by decide) rfl tw_831 dX12_undo_28 ?_
    refine r_iconst dX12_undo_31 ci_1 ?_
    refine r_isub dX12_undo_32 ?_
    refine r_putI (j := 21) (by decide) (congrArg Prod.fst k0_125) c12_11 (by decide) rfl (Or.inl rfl) tw_831 dX12_undo_33 ?_
    refine r_nmS (fun σ2 eσ2 => ?_)
    replace h := h σ2 eσ2
    refine r_iconst dX12_undo_36 ci_0 ?_
    refine r_istore_n dX12_undo_37 rfl (by decide) rfl ?_
    refine r_lv [1, 0] rfl ?_
    exact h
  · replace h := h.2 c1
    refine r_ldc (v := (-1000000003)) rfl tw_1078 rfl dX12_undo_7 ?_
    exact r_iret rfl (Nat.le_refl _) (Nat.le_refl _) dX12_undo_9 ⟨rfl, rfl, rfl, _, rfl, h⟩
theorem s_X12_undo {l : Launch} {D : zDD} {b : Nat} (σ : zSg) (τ : zLm) {Q : Int32 → zSg → zLm → Prop} (h : (¬ (σ 125 21) = 0 → (∀ σ2 : zSg, σ2 = st2 (st2 σ 125 22 ((((σ 125 22) + 16) - 1) - (((σ 125 22) + 16) - 1) / 16 * 16)) 125 21 (((st2 σ 125 22 ((((σ 125 22) + 16) - 1) - (((σ 125 22) + 16) - 1) / 16 * 16)) 125 21) - 1) → AI l D b M_X12_undo 0 G0 Q 38 [(0, .ref (b + 125)), (1, .int 0)] [] G0 σ2 τ)) ∧ ((σ 125 21) = 0 → Q (-1000000003) σ τ)) : SI l D b M_X12_undo 0 G0 [.ref (b + 125)] σ τ Q := zS.of (by decide) (Nat.le_of_ble_eq_true rfl) rfl (w_X12_undo_0 σ τ h)

theorem dX12_sheet_0 : decode cX12_sheet 0 = .ok (.iconst 5, 1) := by decide +kernel
theorem dX12_sheet_1 : decode cX12_sheet 1 = .ok (.iload_n 0, 1) := by decide +kernel
theorem dX12_sheet_2 : decode cX12_sheet 2 = .ok (.iconst 4, 1) := by decide +kernel
theorem dX12_sheet_3 : decode cX12_sheet 3 = .ok (.idiv, 1) := by decide +kernel
theorem dX12_sheet_4 : decode cX12_sheet 4 = .ok (.imul, 1) := by decide +kernel
theorem dX12_sheet_5 : decode cX12_sheet 5 = .ok (.iload_n 0, 1) := by decide +kernel
theorem dX12_sheet_6 : decode cX12_sheet 6 = .ok (.iconst 4, 1) := by decide +kernel
theorem dX12_sheet_7 : decode cX12_sheet 7 = .ok (.irem, 1) := by decide +kernel
theorem dX12_sheet_8 : decode cX12_sheet 8 = .ok (.iadd, 1) := by decide +kernel
theorem dX12_sheet_9 : decode cX12_sheet 9 = .ok (.istore_n 1, 1) := by decide +kernel
theorem dX12_sheet_10 : decode cX12_sheet 10 = .ok (.iconst 3, 1) := by decide +kernel
theorem dX12_sheet_11 : decode cX12_sheet 11 = .ok (.iload_n 1, 1) := by decide +kernel
theorem dX12_sheet_12 : decode cX12_sheet 12 = .ok (.ishl, 1) := by decide +kernel
theorem dX12_sheet_13 : decode cX12_sheet 13 = .ok (.iconst 3, 1) := by decide +kernel
theorem dX12_sheet_14 : decode cX12_sheet 14 = .ok (.iload_n 1, 1) := by decide +kernel
theorem dX12_sheet_15 : decode cX12_sheet 15 = .ok (.iconst 5, 1) := by decide +kernel
theorem dX12_sheet_16 : decode cX12_sheet 16 = .ok (.iadd, 1) := by decide +kernel
theorem dX12_sheet_17 : decode cX12_sheet 17 = .ok (.ishl, 1) := by decide +kernel
theorem dX12_sheet_18 : decode cX12_sheet 18 = .ok (.ior, 1) := by decide +kernel
theorem dX12_sheet_19 : decode cX12_sheet 19 = .ok (.ireturn, 1) := by decide +kernel
theorem w_X12_sheet_0 {l : Launch} {D : zDD} {b : Nat} {γ : zGm} (p1 : Int32) (σ : zSg) (τ : zLm) {Q : Int32 → zSg → zLm → Prop} (h : ∀ v1 : Int32, v1 = (5 * (p1 / 4)) + (p1 - p1 / 4 * 4) → Q (((3 : Int32) <<< (v1 &&& 31)) ||| ((3 : Int32) <<< ((v1 + 5) &&& 31))) σ τ) : AI l D b M_X12_sheet 0 γ Q 0 [(0, .int p1)] [] γ σ τ := by
  refine r_iconst dX12_sheet_0 ci_5 ?_
  refine r_iload_n 0 dX12_sheet_1 rfl rfl ?_
  refine r_iconst dX12_sheet_2 ci_4 ?_
  refine r_idiv dX12_sheet_3 (by decide) ?_
  refine r_imul dX12_sheet_4 ?_
  refine r_iload_n 0 dX12_sheet_5 rfl rfl ?_
  refine r_iconst dX12_sheet_6 ci_4 ?_
  refine r_irem dX12_sheet_7 (by decide) ?_
  refine r_iadd dX12_sheet_8 ?_
  refine r_nmI (fun v1 ev1 => ?_)
  replace h := h v1 ev1
  refine r_istore_n dX12_sheet_9 rfl (by decide) rfl ?_
  refine r_iconst dX12_sheet_10 ci_3 ?_
  refine r_iload_n 0 dX12_sheet_11 rfl rfl ?_
  refine r_ishl dX12_sheet_12 ?_
  refine r_iconst dX12_sheet_13 ci_3 ?_
  refine r_iload_n 0 dX12_sheet_14 rfl rfl ?_
  refine r_iconst dX12_sheet_15 ci_5 ?_
  refine r_iadd dX12_sheet_16 ?_
  refine r_ishl dX12_sheet_17 ?_
  refine r_ior dX12_sheet_18 ?_
  exact r_iret rfl (Nat.le_refl _) (Nat.le_refl _) dX12_sheet_19 ⟨rfl, rfl, rfl, _, rfl, h⟩
theorem s_X12_sheet {l : Launch} {D : zDD} {b : Nat} {γ : zGm} (p1 : Int32) (σ : zSg) (τ : zLm) {Q : Int32 → zSg → zLm → Prop} (h : ∀ v1 : Int32, v1 = (5 * (p1 / 4)) + (p1 - p1 / 4 * 4) → Q (((3 : Int32) <<< (v1 &&& 31)) ||| ((3 : Int32) <<< ((v1 + 5) &&& 31))) σ τ) : SI l D b M_X12_sheet 0 γ [.int p1] σ τ Q := zS.of (by decide) (Nat.le_of_ble_eq_true rfl) rfl (w_X12_sheet_0 p1 σ τ h)

theorem dX12_nextFigures_0 : decode cX12_nextFigures 0 = .ok (.iload_n 0, 1) := by decide +kernel
theorem dX12_nextFigures_1 : decode cX12_nextFigures 1 = .ok (.iconst 1, 1) := by decide +kernel
theorem dX12_nextFigures_2 : decode cX12_nextFigures 2 = .ok (.iadd, 1) := by decide +kernel
theorem dX12_nextFigures_3 : decode cX12_nextFigures 3 = .ok (.istore_n 2, 1) := by decide +kernel
theorem dX12_nextFigures_4 : decode cX12_nextFigures 4 = .ok (.iconst 1, 1) := by decide +kernel
theorem dX12_nextFigures_5 : decode cX12_nextFigures 5 = .ok (.istore_n 3, 1) := by decide +kernel
theorem dX12_nextFigures_6 : decode cX12_nextFigures 6 = .ok (.iload_n 2, 1) := by decide +kernel
theorem dX12_nextFigures_7 : decode cX12_nextFigures 7 = .ok (.iload_n 3, 1) := by decide +kernel
theorem dX12_nextFigures_8 : decode cX12_nextFigures 8 = .ok (.idiv, 1) := by decide +kernel
theorem dX12_nextFigures_9 : decode cX12_nextFigures 9 = .ok (.bipush 10, 2) := by decide +kernel
theorem dX12_nextFigures_11 : decode cX12_nextFigures 11 = .ok (.irem, 1) := by decide +kernel
theorem dX12_nextFigures_12 : decode cX12_nextFigures 12 = .ok (.iload_n 1, 1) := by decide +kernel
theorem dX12_nextFigures_13 : decode cX12_nextFigures 13 = .ok (.if_icmp .le 27, 3) := by decide +kernel
theorem dX12_nextFigures_16 : decode cX12_nextFigures 16 = .ok (.iload_n 2, 1) := by decide +kernel
theorem dX12_nextFigures_17 : decode cX12_nextFigures 17 = .ok (.iload_n 3, 1) := by decide +kernel
theorem dX12_nextFigures_18 : decode cX12_nextFigures 18 = .ok (.bipush 10, 2) := by decide +kernel
theorem dX12_nextFigures_20 : decode cX12_nextFigures 20 = .ok (.iload_n 2, 1) := by decide +kernel
theorem dX12_nextFigures_21 : decode cX12_nextFigures 21 = .ok (.iload_n 3, 1) := by decide +kernel
theorem dX12_nextFigures_22 : decode cX12_nextFigures 22 = .ok (.idiv, 1) := by decide +kernel
theorem dX12_nextFigures_23 : decode cX12_nextFigures 23 = .ok (.bipush 10, 2) := by decide +kernel
theorem dX12_nextFigures_25 : decode cX12_nextFigures 25 = .ok (.irem, 1) := by decide +kernel
theorem dX12_nextFigures_26 : decode cX12_nextFigures 26 = .ok (.isub, 1) := by decide +kernel
theorem dX12_nextFigures_27 : decode cX12_nextFigures 27 = .ok (.imul, 1) := by decide +kernel
theorem dX12_nextFigures_28 : decode cX12_nextFigures 28 = .ok (.iload_n 3, 1) := by decide +kernel
theorem dX12_nextFigures_29 : decode cX12_nextFigures 29 = .ok (.iadd, 1) := by decide +kernel
theorem dX12_nextFigures_30 : decode cX12_nextFigures 30 = .ok (.iadd, 1) := by decide +kernel
theorem dX12_nextFigures_31 : decode cX12_nextFigures 31 = .ok (.istore_n 2, 1) := by decide +kernel
theorem dX12_nextFigures_32 : decode cX12_nextFigures 32 = .ok (.iload_n 3, 1) := by decide +kernel
theorem dX12_nextFigures_33 : decode cX12_nextFigures 33 = .ok (.bipush 10, 2) := by decide +kernel
theorem dX12_nextFigures_35 : decode cX12_nextFigures 35 = .ok (.imul, 1) := by decide +kernel
theorem dX12_nextFigures_36 : decode cX12_nextFigures 36 = .ok (.istore_n 3, 1) := by decide +kernel
theorem dX12_nextFigures_37 : decode cX12_nextFigures 37 = .ok (.goto (-31), 3) := by decide +kernel
theorem dX12_nextFigures_40 : decode cX12_nextFigures 40 = .ok (.iload_n 2, 1) := by decide +kernel
theorem dX12_nextFigures_41 : decode cX12_nextFigures 41 = .ok (.ireturn, 1) := by decide +kernel
theorem w_X12_nextFigures_6 {l : Launch} {D : zDD} {b : Nat} {γ : zGm} (x1 x2 x3 : Int32) (σ : zSg) (τ : zLm) {Q : Int32 → zSg → zLm → Prop} (h : ¬ x3 = 0 ∧ ((((x2 / x3) - (x2 / x3) / 10 * 10) ≤ x1 → Q x2 σ τ) ∧ (¬ ((x2 / x3) - (x2 / x3) / 10 * 10) ≤ x1 → (¬ x3 = 0 ∧ (∀ v2 : Int32, v2 = x2 + ((x3 * (10 - ((x2 / x3) - (x2 / x3) / 10 * 10))) + x3) → AI l D b M_X12_nextFigures 0 γ Q 6 [(1, .int x1), (2, .int v2), (3, .int (x3 * 10))] [] γ σ τ))))) : AI l D b M_X12_nextFigures 0 γ Q 6 [(1, .int x1), (2, .int x2), (3, .int x3)] [] γ σ τ := by
  refine r_iload_n 1 dX12_nextFigures_6 rfl rfl ?_
  refine r_iload_n 2 dX12_nextFigures_7 rfl rfl ?_
  refine r_idiv dX12_nextFigures_8 h.1 ?_
  replace h := h.2
  refine r_bipush dX12_nextFigures_9 cb_10 ?_
  refine r_irem dX12_nextFigures_11 (by decide) ?_
  refine r_iload_n 0 dX12_nextFigures_12 rfl rfl ?_
  refine r_icmp_le (tgt := 40) dX12_nextFigures_13 (by decide) (fun c1 => ?_) (fun c1 => ?_)
  · replace h := h.1 c1
    refine r_iload_n 1 dX12_nextFigures_40 rfl rfl ?_
    exact r_iret rfl (Nat.le_refl _) (Nat.le_refl _) dX12_nextFigures_41 ⟨rfl, rfl, rfl, _, rfl, h⟩
  · replace h := h.2 c1
    refine r_iload_n 1 dX12_nextFigures_16 rfl rfl ?_
    refine r_iload_n 2 dX12_nextFigures_17 rfl rfl ?_
    refine r_bipush dX12_nextFigures_18 cb_10 ?_
    refine r_iload_n 1 dX12_nextFigures_20 rfl rfl ?_
    refine r_iload_n 2 dX12_nextFigures_21 rfl rfl ?_
    refine r_idiv dX12_nextFigures_22 h.1 ?_
    replace h := h.2
    refine r_bipush dX12_nextFigures_23 cb_10 ?_
    refine r_irem dX12_nextFigures_25 (by decide) ?_
    refine r_isub dX12_nextFigures_26 ?_
    refine r_imul dX12_nextFigures_27 ?_
    refine r_iload_n 2 dX12_nextFigures_28 rfl rfl ?_
    refine r_iadd dX12_nextFigures_29 ?_
    refine r_iadd dX12_nextFigures_30 ?_
    refine r_nmI (fun v2 ev2 => ?_)
    replace h := h v2 ev2
    refine r_istore_n dX12_nextFigures_31 rfl (by decide) rfl ?_
    refine r_iload_n 2 dX12_nextFigures_32 rfl rfl ?_
    refine r_bipush dX12_nextFigures_33 cb_10 ?_
    refine r_imul dX12_nextFigures_35 ?_
    refine r_istore_n dX12_nextFigures_36 rfl (by decide) rfl ?_
    refine r_goto (tgt := 6) dX12_nextFigures_37 (by decide) ?_
    refine r_lv [2, 1, 0] rfl ?_
    exact h

theorem w_X12_nextFigures_0 {l : Launch} {D : zDD} {b : Nat} {γ : zGm} (p1 p2 : Int32) (σ : zSg) (τ : zLm) {Q : Int32 → zSg → zLm → Prop} (h : AI l D b M_X12_nextFigures 0 γ Q 6 [(1, .int p2), (2, .int (p1 + 1)), (3, .int 1)] [] γ σ τ) : AI l D b M_X12_nextFigures 0 γ Q 0 [(0, .int p1), (1, .int p2)] [] γ σ τ := by
  refine r_iload_n 0 dX12_nextFigures_0 rfl rfl ?_
  refine r_iconst dX12_nextFigures_1 ci_1 ?_
  refine r_iadd dX12_nextFigures_2 ?_
  refine r_istore_n dX12_nextFigures_3 rfl (by decide) rfl ?_
  refine r_iconst dX12_nextFigures_4 ci_1 ?_
  refine r_istore_n dX12_nextFigures_5 rfl (by decide) rfl ?_
  refine r_lv [3, 1, 0] rfl ?_
  exact h
theorem s_X12_nextFigures {l : Launch} {D : zDD} {b : Nat} {γ : zGm} (p1 p2 : Int32) (σ : zSg) (τ : zLm) {Q : Int32 → zSg → zLm → Prop} (h : AI l D b M_X12_nextFigures 0 γ Q 6 [(1, .int p2), (2, .int (p1 + 1)), (3, .int 1)] [] γ σ τ) : SI l D b M_X12_nextFigures 0 γ [.int p1, .int p2] σ τ Q := zS.of (by decide) (Nat.le_of_ble_eq_true rfl) rfl (w_X12_nextFigures_0 p1 p2 σ τ h)

theorem dX12_tear_0 : decode cX12_tear 0 = .ok (.aload_n 0, 1) := by decide +kernel
theorem dX12_tear_1 : decode cX12_tear 1 = .ok (.getfield 150, 3) := by decide +kernel
theorem dX12_tear_4 : decode cX12_tear 4 = .ok (.aload_n 0, 1) := by decide +kernel
theorem dX12_tear_5 : decode cX12_tear 5 = .ok (.getfield 153, 3) := by decide +kernel
theorem dX12_tear_8 : decode cX12_tear 8 = .ok (.iadd, 1) := by decide +kernel
theorem dX12_tear_9 : decode cX12_tear 9 = .ok (.istore_n 1, 1) := by decide +kernel
theorem dX12_tear_10 : decode cX12_tear 10 = .ok (.aload_n 0, 1) := by decide +kernel
theorem dX12_tear_11 : decode cX12_tear 11 = .ok (.iconst 0, 1) := by decide +kernel
theorem dX12_tear_12 : decode cX12_tear 12 = .ok (.putfield 150, 3) := by decide +kernel
theorem dX12_tear_15 : decode cX12_tear 15 = .ok (.aload_n 0, 1) := by decide +kernel
theorem dX12_tear_16 : decode cX12_tear 16 = .ok (.iconst 0, 1) := by decide +kernel
theorem dX12_tear_17 : decode cX12_tear 17 = .ok (.putfield 153, 3) := by decide +kernel
theorem dX12_tear_20 : decode cX12_tear 20 = .ok (.iload_n 1, 1) := by decide +kernel
theorem dX12_tear_21 : decode cX12_tear 21 = .ok (.ireturn, 1) := by decide +kernel
theorem w_X12_tear_0 {l : Launch} {D : zDD} {b : Nat} (σ : zSg) (τ : zLm) {Q : Int32 → zSg → zLm → Prop} (h : Q ((σ 125 26) + (σ 125 30)) (st2 (st2 σ 125 26 0) 125 30 0) τ) : AI l D b M_X12_tear 0 G0 Q 0 [(0, .ref (b + 125))] [] G0 σ τ := by
  refine r_aload_n 0 dX12_tear_0 rfl rfl ?_
  refine r_getI (j := 26) (by decide) (congrArg Prod.fst k0_125) c12_11 (by decide) rfl tw_836 dX12_tear_1 ?_
  refine r_aload_n 0 dX12_tear_4 rfl rfl ?_
  refine r_getI (j := 30) (by decide) (congrArg Prod.fst k0_125) c12_11 (by decide) rfl tw_840 dX12_tear_5 ?_
  refine r_iadd dX12_tear_8 ?_
  refine r_istore_n dX12_tear_9 rfl (by decide) rfl ?_
  refine r_aload_n 1 dX12_tear_10 rfl rfl ?_
  refine r_iconst dX12_tear_11 ci_0 ?_
  refine r_putI (j := 26) (by decide) (congrArg Prod.fst k0_125) c12_11 (by decide) rfl (Or.inl rfl) tw_836 dX12_tear_12 ?_
  refine r_aload_n 1 dX12_tear_15 rfl rfl ?_
  refine r_iconst dX12_tear_16 ci_0 ?_
  refine r_putI (j := 30) (by decide) (congrArg Prod.fst k0_125) c12_11 (by decide) rfl (Or.inl rfl) tw_840 dX12_tear_17 ?_
  refine r_iload_n 0 dX12_tear_20 rfl rfl ?_
  exact r_iret rfl (Nat.le_refl _) (Nat.le_refl _) dX12_tear_21 ⟨rfl, rfl, rfl, _, rfl, h⟩
theorem s_X12_tear {l : Launch} {D : zDD} {b : Nat} (σ : zSg) (τ : zLm) {Q : Int32 → zSg → zLm → Prop} (h : Q ((σ 125 26) + (σ 125 30)) (st2 (st2 σ 125 26 0) 125 30 0) τ) : SI l D b M_X12_tear 0 G0 [.ref (b + 125)] σ τ Q := zS.of (by decide) (Nat.le_of_ble_eq_true rfl) rfl (w_X12_tear_0 σ τ h)

theorem dX12_judge_0 : decode cX12_judge 0 = .ok (.iconst 0, 1) := by decide +kernel
theorem dX12_judge_1 : decode cX12_judge 1 = .ok (.istore_n 1, 1) := by decide +kernel
theorem dX12_judge_2 : decode cX12_judge 2 = .ok (.iload_n 1, 1) := by decide +kernel
theorem dX12_judge_3 : decode cX12_judge 3 = .ok (.aload_n 0, 1) := by decide +kernel
theorem dX12_judge_4 : decode cX12_judge 4 = .ok (.getfield 153, 3) := by decide +kernel
theorem dX12_judge_7 : decode cX12_judge 7 = .ok (.if_icmp .ge 33, 3) := by decide +kernel
theorem dX12_judge_10 : decode cX12_judge 10 = .ok (.aload_n 0, 1) := by decide +kernel
theorem dX12_judge_11 : decode cX12_judge 11 = .ok (.getfield 35, 3) := by decide +kernel
theorem dX12_judge_14 : decode cX12_judge 14 = .ok (.iconst 2, 1) := by decide +kernel
theorem dX12_judge_15 : decode cX12_judge 15 = .ok (.aload_n 0, 1) := by decide +kernel
theorem dX12_judge_16 : decode cX12_judge 16 = .ok (.getfield 54, 3) := by decide +kernel
theorem dX12_judge_19 : decode cX12_judge 19 = .ok (.iload_n 1, 1) := by decide +kernel
theorem dX12_judge_20 : decode cX12_judge 20 = .ok (.iaload, 1) := by decide +kernel
theorem dX12_judge_21 : decode cX12_judge 21 = .ok (.iadd, 1) := by decide +kernel
theorem dX12_judge_22 : decode cX12_judge 22 = .ok (.iaload, 1) := by decide +kernel
theorem dX12_judge_23 : decode cX12_judge 23 = .ok (.aload_n 0, 1) := by decide +kernel
theorem dX12_judge_24 : decode cX12_judge 24 = .ok (.getfield 57, 3) := by decide +kernel
theorem dX12_judge_27 : decode cX12_judge 27 = .ok (.iload_n 1, 1) := by decide +kernel
theorem dX12_judge_28 : decode cX12_judge 28 = .ok (.iaload, 1) := by decide +kernel
theorem dX12_judge_29 : decode cX12_judge 29 = .ok (.if_icmp .eq 5, 3) := by decide +kernel
theorem dX12_judge_32 : decode cX12_judge 32 = .ok (.iload_n 1, 1) := by decide +kernel
theorem dX12_judge_33 : decode cX12_judge 33 = .ok (.ireturn, 1) := by decide +kernel
theorem dX12_judge_34 : decode cX12_judge 34 = .ok (.iinc 1 1, 3) := by decide +kernel
theorem dX12_judge_37 : decode cX12_judge 37 = .ok (.goto (-35), 3) := by decide +kernel
theorem dX12_judge_40 : decode cX12_judge 40 = .ok (.iconst (-1), 1) := by decide +kernel
theorem dX12_judge_41 : decode cX12_judge 41 = .ok (.ireturn, 1) := by decide +kernel
theorem w_X12_judge_2 {l : Launch} {D : zDD} {b : Nat} (x1 : Int32) (σ : zSg) (τ : zLm) {Q : Int32 → zSg → zLm → Prop} (h : ((σ 125 30) ≤ x1 → Q (-1) σ τ) ∧ (¬ (σ 125 30) ≤ x1 → (vp_in x1 15 ∧ (vp_in (2 + (σ 139 x1.toNatClampNeg)) 26 ∧ (vp_in x1 15 ∧ (((σ 133 ((2 + (σ 139 x1.toNatClampNeg)).toNatClampNeg)) = (σ 140 x1.toNatClampNeg) → AI l D b M_X12_judge 0 G0 Q 2 [(0, .ref (b + 125)), (1, .int (x1 + 1))] [] G0 σ τ) ∧ (¬ (σ 133 ((2 + (σ 139 x1.toNatClampNeg)).toNatClampNeg)) = (σ 140 x1.toNatClampNeg) → Q x1 σ τ))))))) : AI l D b M_X12_judge 0 G0 Q 2 [(0, .ref (b + 125)), (1, .int x1)] [] G0 σ τ := by
  refine r_iload_n 1 dX12_judge_2 rfl rfl ?_
  refine r_aload_n 0 dX12_judge_3 rfl rfl ?_
  refine r_getI (j := 30) (by decide) (congrArg Prod.fst k0_125) c12_11 (by decide) rfl tw_840 dX12_judge_4 ?_
  refine r_icmp_ge (tgt := 40) dX12_judge_7 (by decide) (fun c1 => ?_) (fun c1 => ?_)
  · replace h := h.1 c1
    refine r_iconst dX12_judge_40 ci_m1 ?_
    exact r_iret rfl (Nat.le_refl _) (Nat.le_refl _) dX12_judge_41 ⟨rfl, rfl, rfl, _, rfl, h⟩
  · replace h := h.2 c1
    refine r_aload_n 0 dX12_judge_10 rfl rfl ?_
    refine r_getR (j := 20) (by decide) (congrArg Prod.fst k0_125) c12_11 (by decide) rfl g0_125_20 tw_830 dX12_judge_11 ?_
    refine r_iconst dX12_judge_14 ci_2 ?_
    refine r_aload_n 0 dX12_judge_15 rfl rfl ?_
    refine r_getR (j := 31) (by decide) (congrArg Prod.fst k0_125) c12_11 (by decide) rfl g0_125_31 tw_841 dX12_judge_16 ?_
    refine r_iload_n 1 dX12_judge_19 rfl rfl ?_
    refine r_iald (by decide) k0_139 dX12_judge_20 h.1 ?_
    replace h := h.2
    refine r_iadd dX12_judge_21 ?_
    refine r_iald (by decide) k0_133 dX12_judge_22 h.1 ?_
    replace h := h.2
    refine r_aload_n 0 dX12_judge_23 rfl rfl ?_
    refine r_getR (j := 32) (by decide) (congrArg Prod.fst k0_125) c12_11 (by decide) rfl g0_125_32 tw_842 dX12_judge_24 ?_
    refine r_iload_n 1 dX12_judge_27 rfl rfl ?_
    refine r_iald (by decide) k0_140 dX12_judge_28 h.1 ?_
    replace h := h.2
    refine r_icmp_eq (tgt := 34) dX12_judge_29 (by decide) (fun c2 => ?_) (fun c2 => ?_)
    · replace h := h.1 c2
      refine r_inc 1 dX12_judge_34 rfl ci_1 (by decide) rfl ?_
      refine r_goto (tgt := 2) dX12_judge_37 (by decide) ?_
      refine r_lv [1, 0] rfl ?_
      exact h
    · replace h := h.2 c2
      refine r_iload_n 1 dX12_judge_32 rfl rfl ?_
      exact r_iret rfl (Nat.le_refl _) (Nat.le_refl _) dX12_judge_33 ⟨rfl, rfl, rfl, _, rfl, h⟩

theorem w_X12_judge_0 {l : Launch} {D : zDD} {b : Nat} (σ : zSg) (τ : zLm) {Q : Int32 → zSg → zLm → Prop} (h : AI l D b M_X12_judge 0 G0 Q 2 [(0, .ref (b + 125)), (1, .int 0)] [] G0 σ τ) : AI l D b M_X12_judge 0 G0 Q 0 [(0, .ref (b + 125))] [] G0 σ τ := by
  refine r_iconst dX12_judge_0 ci_0 ?_
  refine r_istore_n dX12_judge_1 rfl (by decide) rfl ?_
  refine r_lv [1, 0] rfl ?_
  exact h
theorem s_X12_judge {l : Launch} {D : zDD} {b : Nat} (σ : zSg) (τ : zLm) {Q : Int32 → zSg → zLm → Prop} (h : AI l D b M_X12_judge 0 G0 Q 2 [(0, .ref (b + 125)), (1, .int 0)] [] G0 σ τ) : SI l D b M_X12_judge 0 G0 [.ref (b + 125)] σ τ Q := zS.of (by decide) (Nat.le_of_ble_eq_true rfl) rfl (w_X12_judge_0 σ τ h)

theorem dX12_seed_0 : decode cX12_seed 0 = .ok (.iload_n 1, 1) := by decide +kernel
theorem dX12_seed_1 : decode cX12_seed 1 = .ok (.ifCond .ge 6, 3) := by decide +kernel
theorem dX12_seed_4 : decode cX12_seed 4 = .ok (.ldc 74, 2) := by decide +kernel
theorem dX12_seed_6 : decode cX12_seed 6 = .ok (.ireturn, 1) := by decide +kernel
theorem dX12_seed_7 : decode cX12_seed 7 = .ok (.aload_n 0, 1) := by decide +kernel
theorem dX12_seed_8 : decode cX12_seed 8 = .ok (.getfield 268, 3) := by decide +kernel
theorem dX12_seed_11 : decode cX12_seed 11 = .ok (.l2i, 1) := by decide +kernel
theorem dX12_seed_12 : decode cX12_seed 12 = .ok (.istore_n 2, 1) := by decide +kernel
theorem dX12_seed_13 : decode cX12_seed 13 = .ok (.aload_n 0, 1) := by decide +kernel
theorem dX12_seed_14 : decode cX12_seed 14 = .ok (.iload_n 1, 1) := by decide +kernel
theorem dX12_seed_15 : decode cX12_seed 15 = .ok (.i2l, 1) := by decide +kernel
theorem dX12_seed_16 : decode cX12_seed 16 = .ok (.putfield 268, 3) := by decide +kernel
theorem dX12_seed_19 : decode cX12_seed 19 = .ok (.iload_n 2, 1) := by decide +kernel
theorem dX12_seed_20 : decode cX12_seed 20 = .ok (.ireturn, 1) := by decide +kernel
theorem w_X12_seed_0 {l : Launch} {D : zDD} {b : Nat} (p1 : Int32) (σ : zSg) (τ : zLm) {Q : Int32 → zSg → zLm → Prop} (h : (0 ≤ p1 → Q ((τ 125 24).toInt32) σ (st2 τ 125 24 p1.toInt64)) ∧ (¬ 0 ≤ p1 → Q (-1000000002) σ τ)) : AI l D b M_X12_seed 0 G0 Q 0 [(0, .ref (b + 125)), (1, .int p1)] [] G0 σ τ := by
  refine r_iload_n 1 dX12_seed_0 rfl rfl ?_
  refine r_if_ge (tgt := 7) dX12_seed_1 (by decide) (fun c1 => ?_) (fun c1 => ?_)
  · replace h := h.1 c1
    refine r_aload_n 0 dX12_seed_7 rfl rfl ?_
    refine r_getL (j := 24) (by decide) (congrArg Prod.fst k0_125) c12_11 (by decide) rfl tw_834 dX12_seed_8 ?_
    refine r_l2i dX12_seed_11 ?_
    refine r_istore_n dX12_seed_12 rfl (by decide) rfl ?_
    refine r_aload_n 1 dX12_seed_13 rfl rfl ?_
    refine r_iload_n 2 dX12_seed_14 rfl rfl ?_
    refine r_i2l dX12_seed_15 ?_
    refine r_putL (j := 24) (by decide) (congrArg Prod.fst k0_125) c12_11 (by decide) rfl (Or.inl rfl) tw_834 dX12_seed_16 ?_
    refine r_iload_n 0 dX12_seed_19 rfl rfl ?_
    exact r_iret rfl (Nat.le_refl _) (Nat.le_refl _) dX12_seed_20 ⟨rfl, rfl, rfl, _, rfl, h⟩
  · replace h := h.2 c1
    refine r_ldc (v := (-1000000002)) rfl tw_927 rfl dX12_seed_4 ?_
    exact r_iret rfl (Nat.le_refl _) (Nat.le_refl _) dX12_seed_6 ⟨rfl, rfl, rfl, _, rfl, h⟩
theorem s_X12_seed {l : Launch} {D : zDD} {b : Nat} (p1 : Int32) (σ : zSg) (τ : zLm) {Q : Int32 → zSg → zLm → Prop} (h : (0 ≤ p1 → Q ((τ 125 24).toInt32) σ (st2 τ 125 24 p1.toInt64)) ∧ (¬ 0 ≤ p1 → Q (-1000000002) σ τ)) : SI l D b M_X12_seed 0 G0 [.ref (b + 125), .int p1] σ τ Q := zS.of (by decide) (Nat.le_of_ble_eq_true rfl) rfl (w_X12_seed_0 p1 σ τ h)

theorem dX12_feed_0 : decode cX12_feed 0 = .ok (.iload_n 1, 1) := by decide +kernel
theorem dX12_feed_1 : decode cX12_feed 1 = .ok (.iconst 0, 1) := by decide +kernel
theorem dX12_feed_2 : decode cX12_feed 2 = .ok (.sipush 255, 3) := by decide +kernel
theorem dX12_feed_5 : decode cX12_feed 5 = .ok (.invokestatic 70, 3) := by decide +kernel
theorem dX12_feed_8 : decode cX12_feed 8 = .ok (.ifCond .ne 6, 3) := by decide +kernel
theorem dX12_feed_11 : decode cX12_feed 11 = .ok (.ldc 74, 2) := by decide +kernel
theorem dX12_feed_13 : decode cX12_feed 13 = .ok (.ireturn, 1) := by decide +kernel
theorem dX12_feed_14 : decode cX12_feed 14 = .ok (.aload_n 0, 1) := by decide +kernel
theorem dX12_feed_15 : decode cX12_feed 15 = .ok (.getfield 75, 3) := by decide +kernel
theorem dX12_feed_18 : decode cX12_feed 18 = .ok (.sipush 240, 3) := by decide +kernel
theorem dX12_feed_21 : decode cX12_feed 21 = .ok (.if_icmp .ne 6, 3) := by decide +kernel
theorem dX12_feed_24 : decode cX12_feed 24 = .ok (.ldc 78, 2) := by decide +kernel
theorem dX12_feed_26 : decode cX12_feed 26 = .ok (.ireturn, 1) := by decide +kernel
theorem dX12_feed_27 : decode cX12_feed 27 = .ok (.aload_n 0, 1) := by decide +kernel
theorem dX12_feed_28 : decode cX12_feed 28 = .ok (.getfield 7, 3) := by decide +kernel
theorem dX12_feed_31 : decode cX12_feed 31 = .ok (.aload_n 0, 1) := by decide +kernel
theorem dX12_feed_32 : decode cX12_feed 32 = .ok (.getfield 75, 3) := by decide +kernel
theorem dX12_feed_35 : decode cX12_feed 35 = .ok (.iload_n 1, 1) := by decide +kernel
theorem dX12_feed_36 : decode cX12_feed 36 = .ok (.iastore, 1) := by decide +kernel
theorem dX12_feed_37 : decode cX12_feed 37 = .ok (.aload_n 0, 1) := by decide +kernel
theorem dX12_feed_38 : decode cX12_feed 38 = .ok (.dup, 1) := by decide +kernel
theorem dX12_feed_39 : decode cX12_feed 39 = .ok (.getfield 75, 3) := by decide +kernel
theorem dX12_feed_42 : decode cX12_feed 42 = .ok (.iconst 1, 1) := by decide +kernel
theorem dX12_feed_43 : decode cX12_feed 43 = .ok (.iadd, 1) := by decide +kernel
theorem dX12_feed_44 : decode cX12_feed 44 = .ok (.putfield 75, 3) := by decide +kernel
theorem dX12_feed_47 : decode cX12_feed 47 = .ok (.aload_n 0, 1) := by decide +kernel
theorem dX12_feed_48 : decode cX12_feed 48 = .ok (.getfield 75, 3) := by decide +kernel
theorem dX12_feed_51 : decode cX12_feed 51 = .ok (.ireturn, 1) := by decide +kernel
theorem w_X12_feed_0 {l : Launch} {D : zDD} {b : Nat} (p1 : Int32) (σ : zSg) (τ : zLm) {Q : Int32 → zSg → zLm → Prop} (h : SI l D b M_X12_in 0 G0 [.int p1, .int 0, .int 255] σ τ (fun r1 σ1 τ1 => (¬ r1 = 0 → ((¬ (σ1 125 0) = 240 → (vp_in (σ1 125 0) 240 ∧ Q ((st2 (st2 σ1 126 ((σ1 125 0).toNatClampNeg) p1) 125 0 (((st2 σ1 126 ((σ1 125 0).toNatClampNeg) p1) 125 0) + 1)) 125 0) (st2 (st2 σ1 126 ((σ1 125 0).toNatClampNeg) p1) 125 0 (((st2 σ1 126 ((σ1 125 0).toNatClampNeg) p1) 125 0) + 1)) τ1)) ∧ ((σ1 125 0) = 240 → Q (-1000000004) σ1 τ1))) ∧ (r1 = 0 → Q (-1000000002) σ1 τ1))) : AI l D b M_X12_feed 1 G0 Q 0 [(0, .ref (b + 125)), (1, .int p1)] [] G0 σ τ := by
  refine r_iload_n 1 dX12_feed_0 rfl rfl ?_
  refine r_iconst dX12_feed_1 ci_0 ?_
  refine r_sipush dX12_feed_2 cs_255 ?_
  refine rc_SI (h' := 0) [.int p1, .int 0, .int 255] oks_X12_in tw_924 rfl rfl (Nat.le_of_ble_eq_true rfl) dX12_feed_5 (by decide) h (fun r1 σ1 τ1 h => ?_)
  refine r_if_ne (tgt := 14) dX12_feed_8 (by decide) (fun c2 => ?_) (fun c2 => ?_)
  · replace h := h.1 c2
    refine r_aload_n 0 dX12_feed_14 rfl rfl ?_
    refine r_getI (j := 0) (by decide) (congrArg Prod.fst k0_125) c12_11 (by decide) rfl tw_810 dX12_feed_15 ?_
    refine r_sipush dX12_feed_18 cs_240 ?_
    refine r_icmp_ne (tgt := 27) dX12_feed_21 (by decide) (fun c3 => ?_) (fun c3 => ?_)
    · replace h := h.1 c3
      refine r_aload_n 0 dX12_feed_27 rfl rfl ?_
      refine r_getR (j := 1) (by decide) (congrArg Prod.fst k0_125) c12_11 (by decide) rfl g0_125_1 tw_811 dX12_feed_28 ?_
      refine r_aload_n 0 dX12_feed_31 rfl rfl ?_
      refine r_getI (j := 0) (by decide) (congrArg Prod.fst k0_125) c12_11 (by decide) rfl tw_810 dX12_feed_32 ?_
      refine r_iload_n 1 dX12_feed_35 rfl rfl ?_
      refine r_iast (by decide) k0_126 dX12_feed_36 h.1 ?_
      replace h := h.2
      refine r_aload_n 0 dX12_feed_37 rfl rfl ?_
      refine r_dup dX12_feed_38 rfl ?_
      refine r_getI (j := 0) (by decide) (congrArg Prod.fst k0_125) c12_11 (by decide) rfl tw_810 dX12_feed_39 ?_
      refine r_iconst dX12_feed_42 ci_1 ?_
      refine r_iadd dX12_feed_43 ?_
      refine r_putI (j := 0) (by decide) (congrArg Prod.fst k0_125) c12_11 (by decide) rfl (Or.inl rfl) tw_810 dX12_feed_44 ?_
      refine r_aload_n 0 dX12_feed_47 rfl rfl ?_
      refine r_getI (j := 0) (by decide) (congrArg Prod.fst k0_125) c12_11 (by decide) rfl tw_810 dX12_feed_48 ?_
      exact r_iret rfl (Nat.le_refl _) (Nat.le_refl _) dX12_feed_51 ⟨rfl, rfl, rfl, _, rfl, h⟩
    · replace h := h.2 c3
      refine r_ldc (v := (-1000000004)) rfl tw_928 rfl dX12_feed_24 ?_
      exact r_iret rfl (Nat.le_refl _) (Nat.le_refl _) dX12_feed_26 ⟨rfl, rfl, rfl, _, rfl, h⟩
  · replace h := h.2 c2
    refine r_ldc (v := (-1000000002)) rfl tw_927 rfl dX12_feed_11 ?_
    exact r_iret rfl (Nat.le_refl _) (Nat.le_refl _) dX12_feed_13 ⟨rfl, rfl, rfl, _, rfl, h⟩
theorem s_X12_feed {l : Launch} {D : zDD} {b : Nat} (p1 : Int32) (σ : zSg) (τ : zLm) {Q : Int32 → zSg → zLm → Prop} (h : SI l D b M_X12_in 0 G0 [.int p1, .int 0, .int 255] σ τ (fun r1 σ1 τ1 => (¬ r1 = 0 → ((¬ (σ1 125 0) = 240 → (vp_in (σ1 125 0) 240 ∧ Q ((st2 (st2 σ1 126 ((σ1 125 0).toNatClampNeg) p1) 125 0 (((st2 σ1 126 ((σ1 125 0).toNatClampNeg) p1) 125 0) + 1)) 125 0) (st2 (st2 σ1 126 ((σ1 125 0).toNatClampNeg) p1) 125 0 (((st2 σ1 126 ((σ1 125 0).toNatClampNeg) p1) 125 0) + 1)) τ1)) ∧ ((σ1 125 0) = 240 → Q (-1000000004) σ1 τ1))) ∧ (r1 = 0 → Q (-1000000002) σ1 τ1))) : SI l D b M_X12_feed 1 G0 [.ref (b + 125), .int p1] σ τ Q := zS.of (by decide) (Nat.le_of_ble_eq_true rfl) rfl (w_X12_feed_0 p1 σ τ h)

theorem dX12_nextLetter_0 : decode cX12_nextLetter 0 = .ok (.aload_n 0, 1) := by decide +kernel
theorem dX12_nextLetter_1 : decode cX12_nextLetter 1 = .ok (.aload_n 0, 1) := by decide +kernel
theorem dX12_nextLetter_2 : decode cX12_nextLetter 2 = .ok (.getfield 79, 3) := by decide +kernel
theorem dX12_nextLetter_5 : decode cX12_nextLetter 5 = .ok (.invokevirtual 82, 3) := by decide +kernel
theorem dX12_nextLetter_8 : decode cX12_nextLetter 8 = .ok (.bipush 32, 2) := by decide +kernel
theorem dX12_nextLetter_10 : decode cX12_nextLetter 10 = .ok (.if_icmp .ne 16, 3) := by decide +kernel
theorem dX12_nextLetter_13 : decode cX12_nextLetter 13 = .ok (.aload_n 0, 1) := by decide +kernel
theorem dX12_nextLetter_14 : decode cX12_nextLetter 14 = .ok (.dup, 1) := by decide +kernel
theorem dX12_nextLetter_15 : decode cX12_nextLetter 15 = .ok (.getfield 79, 3) := by decide +kernel
theorem dX12_nextLetter_18 : decode cX12_nextLetter 18 = .ok (.iconst 1, 1) := by decide +kernel
theorem dX12_nextLetter_19 : decode cX12_nextLetter 19 = .ok (.iadd, 1) := by decide +kernel
theorem dX12_nextLetter_20 : decode cX12_nextLetter 20 = .ok (.putfield 79, 3) := by decide +kernel
theorem dX12_nextLetter_23 : decode cX12_nextLetter 23 = .ok (.goto (-23), 3) := by decide +kernel
theorem dX12_nextLetter_26 : decode cX12_nextLetter 26 = .ok (.aload_n 0, 1) := by decide +kernel
theorem dX12_nextLetter_27 : decode cX12_nextLetter 27 = .ok (.aload_n 0, 1) := by decide +kernel
theorem dX12_nextLetter_28 : decode cX12_nextLetter 28 = .ok (.getfield 79, 3) := by decide +kernel
theorem dX12_nextLetter_31 : decode cX12_nextLetter 31 = .ok (.invokevirtual 82, 3) := by decide +kernel
theorem dX12_nextLetter_34 : decode cX12_nextLetter 34 = .ok (.ireturn, 1) := by decide +kernel
theorem w_X12_nextLetter_0 {l : Launch} {D : zDD} {b : Nat} (σ : zSg) (τ : zLm) {Q : Int32 → zSg → zLm → Prop} (h : SI l D b M_X12_letterAt 0 G0 [.ref (b + 125), .int (σ 125 2)] σ τ (fun r1 σ1 τ1 => (¬ r1 = 32 → SI l D b M_X12_letterAt 0 G0 [.ref (b + 125), .int (σ1 125 2)] σ1 τ1 (fun r3 σ3 τ3 => Q r3 σ3 τ3)) ∧ (r1 = 32 → AI l D b M_X12_nextLetter 1 G0 Q 0 [(0, .ref (b + 125))] [] G0 (st2 σ1 125 2 ((σ1 125 2) + 1)) τ1))) : AI l D b M_X12_nextLetter 1 G0 Q 0 [(0, .ref (b + 125))] [] G0 σ τ := by
  refine r_aload_n 0 dX12_nextLetter_0 rfl rfl ?_
  refine r_aload_n 0 dX12_nextLetter_1 rfl rfl ?_
  refine r_getI (j := 2) (by decide) (congrArg Prod.fst k0_125) c12_11 (by decide) rfl tw_812 dX12_nextLetter_2 ?_
  refine rc_VI (h' := 0) [.int (σ 125 2)] okv_X12_letterAt (by decide) (congrArg Prod.fst k0_125) tw_941 rfl rfl (Nat.le_of_ble_eq_true rfl) dX12_nextLetter_5 (by decide) h (fun r1 σ1 τ1 h => ?_)
  refine r_bipush dX12_nextLetter_8 cb_32 ?_
  refine r_icmp_ne (tgt := 26) dX12_nextLetter_10 (by decide) (fun c2 => ?_) (fun c2 => ?_)
  · replace h := h.1 c2
    refine r_aload_n 0 dX12_nextLetter_26 rfl rfl ?_
    refine r_aload_n 0 dX12_nextLetter_27 rfl rfl ?_
    refine r_getI (j := 2) (by decide) (congrArg Prod.fst k0_125) c12_11 (by decide) rfl tw_812 dX12_nextLetter_28 ?_
    refine rc_VI (h' := 0) [.int (σ1 125 2)] okv_X12_letterAt (by decide) (congrArg Prod.fst k0_125) tw_941 rfl rfl (Nat.le_of_ble_eq_true rfl) dX12_nextLetter_31 (by decide) h (fun r3 σ3 τ3 h => ?_)
    exact r_iret rfl (Nat.le_refl _) (Nat.le_refl _) dX12_nextLetter_34 ⟨rfl, rfl, rfl, _, rfl, h⟩
  · replace h := h.2 c2
    refine r_aload_n 0 dX12_nextLetter_13 rfl rfl ?_
    refine r_dup dX12_nextLetter_14 rfl ?_
    refine r_getI (j := 2) (by decide) (congrArg Prod.fst k0_125) c12_11 (by decide) rfl tw_812 dX12_nextLetter_15 ?_
    refine r_iconst dX12_nextLetter_18 ci_1 ?_
    refine r_iadd dX12_nextLetter_19 ?_
    refine r_putI (j := 2) (by decide) (congrArg Prod.fst k0_125) c12_11 (by decide) rfl (Or.inl rfl) tw_812 dX12_nextLetter_20 ?_
    refine r_goto (tgt := 0) dX12_nextLetter_23 (by decide) ?_
    exact h
theorem s_X12_nextLetter {l : Launch} {D : zDD} {b : Nat} (σ : zSg) (τ : zLm) {Q : Int32 → zSg → zLm → Prop} (h : AI l D b M_X12_nextLetter 1 G0 Q 0 [(0, .ref (b + 125))] [] G0 σ τ) : SI l D b M_X12_nextLetter 1 G0 [.ref (b + 125)] σ τ Q := zS.of (by decide) (Nat.le_of_ble_eq_true rfl) rfl (h)

theorem dX12_isTrouble_0 : decode cX12_isTrouble 0 = .ok (.iload_n 1, 1) := by decide +kernel
theorem dX12_isTrouble_1 : decode cX12_isTrouble 1 = .ok (.iconst 0, 1) := by decide +kernel
theorem dX12_isTrouble_2 : decode cX12_isTrouble 2 = .ok (.aload_n 0, 1) := by decide +kernel
theorem dX12_isTrouble_3 : decode cX12_isTrouble 3 = .ok (.getfield 141, 3) := by decide +kernel
theorem dX12_isTrouble_6 : decode cX12_isTrouble 6 = .ok (.iconst 1, 1) := by decide +kernel
theorem dX12_isTrouble_7 : decode cX12_isTrouble 7 = .ok (.isub, 1) := by decide +kernel
theorem dX12_isTrouble_8 : decode cX12_isTrouble 8 = .ok (.invokestatic 70, 3) := by decide +kernel
theorem dX12_isTrouble_11 : decode cX12_isTrouble 11 = .ok (.ireturn, 1) := by decide +kernel
theorem w_X12_isTrouble_0 {l : Launch} {D : zDD} {b : Nat} (p1 : Int32) (σ : zSg) (τ : zLm) {Q : Int32 → zSg → zLm → Prop} (h : SI l D b M_X12_in 0 G0 [.int p1, .int 0, .int ((σ 125 16) - 1)] σ τ (fun r1 σ1 τ1 => (r1 = 0 ∨ r1 = 1) ∧ Q r1 σ1 τ1)) : AI l D b M_X12_isTrouble 1 G0 Q 0 [(0, .ref (b + 125)), (1, .int p1)] [] G0 σ τ := by
  refine r_iload_n 1 dX12_isTrouble_0 rfl rfl ?_
  refine r_iconst dX12_isTrouble_1 ci_0 ?_
  refine r_aload_n 0 dX12_isTrouble_2 rfl rfl ?_
  refine r_getI (j := 16) (by decide) (congrArg Prod.fst k0_125) c12_11 (by decide) rfl tw_826 dX12_isTrouble_3 ?_
  refine r_iconst dX12_isTrouble_6 ci_1 ?_
  refine r_isub dX12_isTrouble_7 ?_
  refine rc_SI (h' := 0) [.int p1, .int 0, .int ((σ 125 16) - 1)] oks_X12_in tw_924 rfl rfl (Nat.le_of_ble_eq_true rfl) dX12_isTrouble_8 (by decide) h (fun r1 σ1 τ1 h => ?_)
  exact r_zret rfl (Nat.le_refl _) (Nat.le_refl _) dX12_isTrouble_11 h.1 ⟨rfl, rfl, rfl, _, rfl, h.2⟩
theorem s_X12_isTrouble {l : Launch} {D : zDD} {b : Nat} (p1 : Int32) (σ : zSg) (τ : zLm) {Q : Int32 → zSg → zLm → Prop} (h : SI l D b M_X12_in 0 G0 [.int p1, .int 0, .int ((σ 125 16) - 1)] σ τ (fun r1 σ1 τ1 => (r1 = 0 ∨ r1 = 1) ∧ Q r1 σ1 τ1)) : SI l D b M_X12_isTrouble 1 G0 [.ref (b + 125), .int p1] σ τ Q := zS.of (by decide) (Nat.le_of_ble_eq_true rfl) rfl (w_X12_isTrouble_0 p1 σ τ h)

theorem dX12_isEater_0 : decode cX12_isEater 0 = .ok (.iload_n 1, 1) := by decide +kernel
theorem dX12_isEater_1 : decode cX12_isEater 1 = .ok (.iconst 0, 1) := by decide +kernel
theorem dX12_isEater_2 : decode cX12_isEater 2 = .ok (.aload_n 0, 1) := by decide +kernel
theorem dX12_isEater_3 : decode cX12_isEater 3 = .ok (.getfield 144, 3) := by decide +kernel
theorem dX12_isEater_6 : decode cX12_isEater 6 = .ok (.iconst 1, 1) := by decide +kernel
theorem dX12_isEater_7 : decode cX12_isEater 7 = .ok (.isub, 1) := by decide +kernel
theorem dX12_isEater_8 : decode cX12_isEater 8 = .ok (.invokestatic 70, 3) := by decide +kernel
theorem dX12_isEater_11 : decode cX12_isEater 11 = .ok (.ireturn, 1) := by decide +kernel
theorem w_X12_isEater_0 {l : Launch} {D : zDD} {b : Nat} (p1 : Int32) (σ : zSg) (τ : zLm) {Q : Int32 → zSg → zLm → Prop} (h : SI l D b M_X12_in 0 G0 [.int p1, .int 0, .int ((σ 125 17) - 1)] σ τ (fun r1 σ1 τ1 => (r1 = 0 ∨ r1 = 1) ∧ Q r1 σ1 τ1)) : AI l D b M_X12_isEater 1 G0 Q 0 [(0, .ref (b + 125)), (1, .int p1)] [] G0 σ τ := by
  refine r_iload_n 1 dX12_isEater_0 rfl rfl ?_
  refine r_iconst dX12_isEater_1 ci_0 ?_
  refine r_aload_n 0 dX12_isEater_2 rfl rfl ?_
  refine r_getI (j := 17) (by decide) (congrArg Prod.fst k0_125) c12_11 (by decide) rfl tw_827 dX12_isEater_3 ?_
  refine r_iconst dX12_isEater_6 ci_1 ?_
  refine r_isub dX12_isEater_7 ?_
  refine rc_SI (h' := 0) [.int p1, .int 0, .int ((σ 125 17) - 1)] oks_X12_in tw_924 rfl rfl (Nat.le_of_ble_eq_true rfl) dX12_isEater_8 (by decide) h (fun r1 σ1 τ1 h => ?_)
  exact r_zret rfl (Nat.le_refl _) (Nat.le_refl _) dX12_isEater_11 h.1 ⟨rfl, rfl, rfl, _, rfl, h.2⟩
theorem s_X12_isEater {l : Launch} {D : zDD} {b : Nat} (p1 : Int32) (σ : zSg) (τ : zLm) {Q : Int32 → zSg → zLm → Prop} (h : SI l D b M_X12_in 0 G0 [.int p1, .int 0, .int ((σ 125 17) - 1)] σ τ (fun r1 σ1 τ1 => (r1 = 0 ∨ r1 = 1) ∧ Q r1 σ1 τ1)) : SI l D b M_X12_isEater 1 G0 [.ref (b + 125), .int p1] σ τ Q := zS.of (by decide) (Nat.le_of_ble_eq_true rfl) rfl (w_X12_isEater_0 p1 σ τ h)

theorem dX12_isGood_0 : decode cX12_isGood 0 = .ok (.aload_n 0, 1) := by decide +kernel
theorem dX12_isGood_1 : decode cX12_isGood 1 = .ok (.getfield 35, 3) := by decide +kernel
theorem dX12_isGood_4 : decode cX12_isGood 4 = .ok (.iconst 2, 1) := by decide +kernel
theorem dX12_isGood_5 : decode cX12_isGood 5 = .ok (.iload_n 1, 1) := by decide +kernel
theorem dX12_isGood_6 : decode cX12_isGood 6 = .ok (.iadd, 1) := by decide +kernel
theorem dX12_isGood_7 : decode cX12_isGood 7 = .ok (.iaload, 1) := by decide +kernel
theorem dX12_isGood_8 : decode cX12_isGood 8 = .ok (.ifCond .ne 24, 3) := by decide +kernel
theorem dX12_isGood_11 : decode cX12_isGood 11 = .ok (.aload_n 0, 1) := by decide +kernel
theorem dX12_isGood_12 : decode cX12_isGood 12 = .ok (.getfield 35, 3) := by decide +kernel
theorem dX12_isGood_15 : decode cX12_isGood 15 = .ok (.bipush 14, 2) := by decide +kernel
theorem dX12_isGood_17 : decode cX12_isGood 17 = .ok (.iload_n 1, 1) := by decide +kernel
theorem dX12_isGood_18 : decode cX12_isGood 18 = .ok (.iadd, 1) := by decide +kernel
theorem dX12_isGood_19 : decode cX12_isGood 19 = .ok (.iaload, 1) := by decide +kernel
theorem dX12_isGood_20 : decode cX12_isGood 20 = .ok (.iconst 1, 1) := by decide +kernel
theorem dX12_isGood_21 : decode cX12_isGood 21 = .ok (.iconst 2, 1) := by decide +kernel
theorem dX12_isGood_22 : decode cX12_isGood 22 = .ok (.invokestatic 70, 3) := by decide +kernel
theorem dX12_isGood_25 : decode cX12_isGood 25 = .ok (.ifCond .eq 7, 3) := by decide +kernel
theorem dX12_isGood_28 : decode cX12_isGood 28 = .ok (.iconst 1, 1) := by decide +kernel
theorem dX12_isGood_29 : decode cX12_isGood 29 = .ok (.goto 4, 3) := by decide +kernel
theorem dX12_isGood_32 : decode cX12_isGood 32 = .ok (.iconst 0, 1) := by decide +kernel
theorem dX12_isGood_33 : decode cX12_isGood 33 = .ok (.ireturn, 1) := by decide +kernel
theorem w_X12_isGood_0 {l : Launch} {D : zDD} {b : Nat} (p1 : Int32) (σ : zSg) (τ : zLm) {Q : Int32 → zSg → zLm → Prop} (h : vp_in (2 + p1) 26 ∧ ((¬ (σ 133 ((2 + p1).toNatClampNeg)) = 0 → Q 0 σ τ) ∧ ((σ 133 ((2 + p1).toNatClampNeg)) = 0 → (vp_in (14 + p1) 26 ∧ (SI l D b M_X12_in 0 G0 [.int (σ 133 ((14 + p1).toNatClampNeg)), .int 1, .int 2] σ τ (fun r2 σ2 τ2 => (r2 = 0 → Q 0 σ2 τ2) ∧ (¬ r2 = 0 → Q 1 σ2 τ2))))))) : AI l D b M_X12_isGood 1 G0 Q 0 [(0, .ref (b + 125)), (1, .int p1)] [] G0 σ τ := by
  refine r_aload_n 0 dX12_isGood_0 rfl rfl ?_
  refine r_getR (j := 20) (by decide) (congrArg Prod.fst k0_125) c12_11 (by decide) rfl g0_125_20 tw_830 dX12_isGood_1 ?_
  refine r_iconst dX12_isGood_4 ci_2 ?_
  refine r_iload_n 1 dX12_isGood_5 rfl rfl ?_
  refine r_iadd dX12_isGood_6 ?_
  refine r_iald (by decide) k0_133 dX12_isGood_7 h.1 ?_
  replace h := h.2
  refine r_if_ne (tgt := 32) dX12_isGood_8 (by decide) (fun c1 => ?_) (fun c1 => ?_)
  · replace h := h.1 c1
    refine r_iconst dX12_isGood_32 ci_0 ?_
    exact r_zret rfl (Nat.le_refl _) (Nat.le_refl _) dX12_isGood_33 (Or.inl rfl) ⟨rfl, rfl, rfl, _, rfl, h⟩
  · replace h := h.2 c1
    refine r_aload_n 0 dX12_isGood_11 rfl rfl ?_
    refine r_getR (j := 20) (by decide) (congrArg Prod.fst k0_125) c12_11 (by decide) rfl g0_125_20 tw_830 dX12_isGood_12 ?_
    refine r_bipush dX12_isGood_15 cb_14 ?_
    refine r_iload_n 1 dX12_isGood_17 rfl rfl ?_
    refine r_iadd dX12_isGood_18 ?_
    refine r_iald (by decide) k0_133 dX12_isGood_19 h.1 ?_
    replace h := h.2
    refine r_iconst dX12_isGood_20 ci_1 ?_
    refine r_iconst dX12_isGood_21 ci_2 ?_
    refine rc_SI (h' := 0) [.int (σ 133 ((14 + p1).toNatClampNeg)), .int 1, .int 2] oks_X12_in tw_924 rfl rfl (Nat.le_of_ble_eq_true rfl) dX12_isGood_22 (by decide) h (fun r2 σ2 τ2 h => ?_)
    refine r_if_eq (tgt := 32) dX12_isGood_25 (by decide) (fun c3 => ?_) (fun c3 => ?_)
    · replace h := h.1 c3
      refine r_iconst dX12_isGood_32 ci_0 ?_
      exact r_zret rfl (Nat.le_refl _) (Nat.le_refl _) dX12_isGood_33 (Or.inl rfl) ⟨rfl, rfl, rfl, _, rfl, h⟩
    · replace h := h.2 c3
      refine r_iconst dX12_isGood_28 ci_1 ?_
      refine r_goto (tgt := 33) dX12_isGood_29 (by decide) ?_
      exact r_zret rfl (Nat.le_refl _) (Nat.le_refl _) dX12_isGood_33 (Or.inr rfl) ⟨rfl, rfl, rfl, _, rfl, h⟩
theorem s_X12_isGood {l : Launch} {D : zDD} {b : Nat} (p1 : Int32) (σ : zSg) (τ : zLm) {Q : Int32 → zSg → zLm → Prop} (h : vp_in (2 + p1) 26 ∧ ((¬ (σ 133 ((2 + p1).toNatClampNeg)) = 0 → Q 0 σ τ) ∧ ((σ 133 ((2 + p1).toNatClampNeg)) = 0 → (vp_in (14 + p1) 26 ∧ (SI l D b M_X12_in 0 G0 [.int (σ 133 ((14 + p1).toNatClampNeg)), .int 1, .int 2] σ τ (fun r2 σ2 τ2 => (r2 = 0 → Q 0 σ2 τ2) ∧ (¬ r2 = 0 → Q 1 σ2 τ2))))))) : SI l D b M_X12_isGood 1 G0 [.ref (b + 125), .int p1] σ τ Q := zS.of (by decide) (Nat.le_of_ble_eq_true rfl) rfl (w_X12_isGood_0 p1 σ τ h)

theorem dX12_leftAll_0 : decode cX12_leftAll 0 = .ok (.iconst 0, 1) := by decide +kernel
theorem dX12_leftAll_1 : decode cX12_leftAll 1 = .ok (.istore_n 1, 1) := by decide +kernel
theorem dX12_leftAll_2 : decode cX12_leftAll 2 = .ok (.iconst 0, 1) := by decide +kernel
theorem dX12_leftAll_3 : decode cX12_leftAll 3 = .ok (.istore_n 2, 1) := by decide +kernel
theorem dX12_leftAll_4 : decode cX12_leftAll 4 = .ok (.iload_n 2, 1) := by decide +kernel
theorem dX12_leftAll_5 : decode cX12_leftAll 5 = .ok (.aload_n 0, 1) := by decide +kernel
theorem dX12_leftAll_6 : decode cX12_leftAll 6 = .ok (.getfield 144, 3) := by decide +kernel
theorem dX12_leftAll_9 : decode cX12_leftAll 9 = .ok (.if_icmp .ge 17, 3) := by decide +kernel
theorem dX12_leftAll_12 : decode cX12_leftAll 12 = .ok (.iload_n 1, 1) := by decide +kernel
theorem dX12_leftAll_13 : decode cX12_leftAll 13 = .ok (.aload_n 0, 1) := by decide +kernel
theorem dX12_leftAll_14 : decode cX12_leftAll 14 = .ok (.iload_n 2, 1) := by decide +kernel
theorem dX12_leftAll_15 : decode cX12_leftAll 15 = .ok (.invokevirtual 159, 3) := by decide +kernel
theorem dX12_leftAll_18 : decode cX12_leftAll 18 = .ok (.iadd, 1) := by decide +kernel
theorem dX12_leftAll_19 : decode cX12_leftAll 19 = .ok (.istore_n 1, 1) := by decide +kernel
theorem dX12_leftAll_20 : decode cX12_leftAll 20 = .ok (.iinc 2 1, 3) := by decide +kernel
theorem dX12_leftAll_23 : decode cX12_leftAll 23 = .ok (.goto (-19), 3) := by decide +kernel
theorem dX12_leftAll_26 : decode cX12_leftAll 26 = .ok (.iload_n 1, 1) := by decide +kernel
theorem dX12_leftAll_27 : decode cX12_leftAll 27 = .ok (.ireturn, 1) := by decide +kernel
theorem w_X12_leftAll_4 {l : Launch} {D : zDD} {b : Nat} (x1 x2 : Int32) (σ : zSg) (τ : zLm) {Q : Int32 → zSg → zLm → Prop} (h : ((σ 125 17) ≤ x2 → Q x1 σ τ) ∧ (¬ (σ 125 17) ≤ x2 → SI l D b M_X12_left 0 G0 [.ref (b + 125), .int x2] σ τ (fun r2 σ2 τ2 => AI l D b M_X12_leftAll 1 G0 Q 4 [(0, .ref (b + 125)), (1, .int (x1 + r2)), (2, .int (x2 + 1))] [] G0 σ2 τ2))) : AI l D b M_X12_leftAll 1 G0 Q 4 [(0, .ref (b + 125)), (1, .int x1), (2, .int x2)] [] G0 σ τ := by
  refine r_iload_n 2 dX12_leftAll_4 rfl rfl ?_
  refine r_aload_n 0 dX12_leftAll_5 rfl rfl ?_
  refine r_getI (j := 17) (by decide) (congrArg Prod.fst k0_125) c12_11 (by decide) rfl tw_827 dX12_leftAll_6 ?_
  refine r_icmp_ge (tgt := 26) dX12_leftAll_9 (by decide) (fun c1 => ?_) (fun c1 => ?_)
  · replace h := h.1 c1
    refine r_iload_n 1 dX12_leftAll_26 rfl rfl ?_
    exact r_iret rfl (Nat.le_refl _) (Nat.le_refl _) dX12_leftAll_27 ⟨rfl, rfl, rfl, _, rfl, h⟩
  · replace h := h.2 c1
    refine r_iload_n 1 dX12_leftAll_12 rfl rfl ?_
    refine r_aload_n 0 dX12_leftAll_13 rfl rfl ?_
    refine r_iload_n 2 dX12_leftAll_14 rfl rfl ?_
    refine rc_VI (h' := 0) [.int x2] okv_X12_left (by decide) (congrArg Prod.fst k0_125) tw_997 rfl rfl (Nat.le_of_ble_eq_true rfl) dX12_leftAll_15 (by decide) h (fun r2 σ2 τ2 h => ?_)
    refine r_iadd dX12_leftAll_18 ?_
    refine r_istore_n dX12_leftAll_19 rfl (by decide) rfl ?_
    refine r_inc 2 dX12_leftAll_20 rfl ci_1 (by decide) rfl ?_
    refine r_goto (tgt := 4) dX12_leftAll_23 (by decide) ?_
    refine r_lv [2, 1, 0] rfl ?_
    exact h

theorem w_X12_leftAll_0 {l : Launch} {D : zDD} {b : Nat} (σ : zSg) (τ : zLm) {Q : Int32 → zSg → zLm → Prop} (h : AI l D b M_X12_leftAll 1 G0 Q 4 [(0, .ref (b + 125)), (1, .int 0), (2, .int 0)] [] G0 σ τ) : AI l D b M_X12_leftAll 1 G0 Q 0 [(0, .ref (b + 125))] [] G0 σ τ := by
  refine r_iconst dX12_leftAll_0 ci_0 ?_
  refine r_istore_n dX12_leftAll_1 rfl (by decide) rfl ?_
  refine r_iconst dX12_leftAll_2 ci_0 ?_
  refine r_istore_n dX12_leftAll_3 rfl (by decide) rfl ?_
  refine r_lv [2, 1, 0] rfl ?_
  exact h
theorem s_X12_leftAll {l : Launch} {D : zDD} {b : Nat} (σ : zSg) (τ : zLm) {Q : Int32 → zSg → zLm → Prop} (h : AI l D b M_X12_leftAll 1 G0 Q 4 [(0, .ref (b + 125)), (1, .int 0), (2, .int 0)] [] G0 σ τ) : SI l D b M_X12_leftAll 1 G0 [.ref (b + 125)] σ τ Q := zS.of (by decide) (Nat.le_of_ble_eq_true rfl) rfl (w_X12_leftAll_0 σ τ h)

theorem dX12_strongest_0 : decode cX12_strongest 0 = .ok (.iconst (-1), 1) := by decide +kernel
theorem dX12_strongest_1 : decode cX12_strongest 1 = .ok (.istore_n 1, 1) := by decide +kernel
theorem dX12_strongest_2 : decode cX12_strongest 2 = .ok (.iconst 0, 1) := by decide +kernel
theorem dX12_strongest_3 : decode cX12_strongest 3 = .ok (.istore_n 2, 1) := by decide +kernel
theorem dX12_strongest_4 : decode cX12_strongest 4 = .ok (.iload_n 2, 1) := by decide +kernel
theorem dX12_strongest_5 : decode cX12_strongest 5 = .ok (.aload_n 0, 1) := by decide +kernel
theorem dX12_strongest_6 : decode cX12_strongest 6 = .ok (.getfield 144, 3) := by decide +kernel
theorem dX12_strongest_9 : decode cX12_strongest 9 = .ok (.if_icmp .ge 33, 3) := by decide +kernel
theorem dX12_strongest_12 : decode cX12_strongest 12 = .ok (.iload_n 1, 1) := by decide +kernel
theorem dX12_strongest_13 : decode cX12_strongest 13 = .ok (.iconst (-1), 1) := by decide +kernel
theorem dX12_strongest_14 : decode cX12_strongest 14 = .ok (.if_icmp .eq 16, 3) := by decide +kernel
theorem dX12_strongest_17 : decode cX12_strongest 17 = .ok (.aload_n 0, 1) := by decide +kernel
theorem dX12_strongest_18 : decode cX12_strongest 18 = .ok (.iload_n 2, 1) := by decide +kernel
theorem dX12_strongest_19 : decode cX12_strongest 19 = .ok (.invokevirtual 159, 3) := by decide +kernel
theorem dX12_strongest_22 : decode cX12_strongest 22 = .ok (.aload_n 0, 1) := by decide +kernel
theorem dX12_strongest_23 : decode cX12_strongest 23 = .ok (.iload_n 1, 1) := by decide +kernel
theorem dX12_strongest_24 : decode cX12_strongest 24 = .ok (.invokevirtual 159, 3) := by decide +kernel
theorem dX12_strongest_27 : decode cX12_strongest 27 = .ok (.if_icmp .le 7, 3) := by decide +kernel
theorem dX12_strongest_30 : decode cX12_strongest 30 = .ok (.iload_n 2, 1) := by decide +kernel
theorem dX12_strongest_31 : decode cX12_strongest 31 = .ok (.goto 4, 3) := by decide +kernel
theorem dX12_strongest_34 : decode cX12_strongest 34 = .ok (.iload_n 1, 1) := by decide +kernel
theorem dX12_strongest_35 : decode cX12_strongest 35 = .ok (.istore_n 1, 1) := by decide +kernel
theorem dX12_strongest_36 : decode cX12_strongest 36 = .ok (.iinc 2 1, 3) := by decide +kernel
theorem dX12_strongest_39 : decode cX12_strongest 39 = .ok (.goto (-35), 3) := by decide +kernel
theorem dX12_strongest_42 : decode cX12_strongest 42 = .ok (.iload_n 1, 1) := by decide +kernel
theorem dX12_strongest_43 : decode cX12_strongest 43 = .ok (.ireturn, 1) := by decide +kernel
theorem w_X12_strongest_4 {l : Launch} {D : zDD} {b : Nat} (x1 x2 : Int32) (σ : zSg) (τ : zLm) {Q : Int32 → zSg → zLm → Prop} (h : ((σ 125 17) ≤ x2 → Q x1 σ τ) ∧ (¬ (σ 125 17) ≤ x2 → ((x1 = (-1) → AI l D b M_X12_strongest 1 G0 Q 4 [(0, .ref (b + 125)), (1, .int x2), (2, .int (x2 + 1))] [] G0 σ τ) ∧ (¬ x1 = (-1) → (SI l D b M_X12_left 0 G0 [.ref (b + 125), .int x2] σ τ (fun r3 σ3 τ3 => SI l D b M_X12_left 0 G0 [.ref (b + 125), .int x1] σ3 τ3 (fun r4 σ4 τ4 => (r3 ≤ r4 → AI l D b M_X12_strongest 1 G0 Q 4 [(0, .ref (b + 125)), (1, .int x1), (2, .int (x2 + 1))] [] G0 σ4 τ4) ∧ (¬ r3 ≤ r4 → AI l D b M_X12_strongest 1 G0 Q 4 [(0, .ref (b + 125)), (1, .int x2), (2, .int (x2 + 1))] [] G0 σ4 τ4)))))))) : AI l D b M_X12_strongest 1 G0 Q 4 [(0, .ref (b + 125)), (1, .int x1), (2, .int x2)] [] G0 σ τ := by
  refine r_iload_n 2 dX12_strongest_4 rfl rfl ?_
  refine r_aload_n 0 dX12_strongest_5 rfl rfl ?_
  refine r_getI (j := 17) (by decide) (congrArg Prod.fst k0_125) c12_11 (by decide) rfl tw_827 dX12_strongest_6 ?_
  refine r_icmp_ge (tgt := 42) dX12_strongest_9 (by decide) (fun c1 => ?_) (fun c1 => ?_)
  · replace h := h.1 c1
    refine r_iload_n 1 dX12_strongest_42 rfl rfl ?_
    exact r_iret rfl (Nat.le_refl _) (Nat.le_refl _) dX12_strongest_43 ⟨rfl, rfl, rfl, _, rfl, h⟩
  · replace h := h.2 c1
    refine r_iload_n 1 dX12_strongest_12 rfl rfl ?_
    refine r_iconst dX12_strongest_13 ci_m1 ?_
    refine r_icmp_eq (tgt := 30) dX12_strongest_14 (by decide) (fun c2 => ?_) (fun c2 => ?_)
    · replace h := h.1 c2
      refine r_iload_n 2 dX12_strongest_30 rfl rfl ?_
      refine r_goto (tgt := 35) dX12_strongest_31 (by decide) ?_
      refine r_istore_n dX12_strongest_35 rfl (by decide) rfl ?_
      refine r_inc 2 dX12_strongest_36 rfl ci_1 (by decide) rfl ?_
      refine r_goto (tgt := 4) dX12_strongest_39 (by decide) ?_
      refine r_lv [2, 1, 0] rfl ?_
      exact h
    · replace h := h.2 c2
      refine r_aload_n 0 dX12_strongest_17 rfl rfl ?_
      refine r_iload_n 2 dX12_strongest_18 rfl rfl ?_
      refine rc_VI (h' := 0) [.int x2] okv_X12_left (by decide) (congrArg Prod.fst k0_125) tw_997 rfl rfl (Nat.le_of_ble_eq_true rfl) dX12_strongest_19 (by decide) h (fun r3 σ3 τ3 h => ?_)
      refine r_aload_n 0 dX12_strongest_22 rfl rfl ?_
      refine r_iload_n 1 dX12_strongest_23 rfl rfl ?_
      refine rc_VI (h' := 0) [.int x1] okv_X12_left (by decide) (congrArg Prod.fst k0_125) tw_997 rfl rfl (Nat.le_of_ble_eq_true rfl) dX12_strongest_24 (by decide) h (fun r4 σ4 τ4 h => ?_)
      refine r_icmp_le (tgt := 34) dX12_strongest_27 (by decide) (fun c5 => ?_) (fun c5 => ?_)
      · replace h := h.1 c5
        refine r_iload_n 1 dX12_strongest_34 rfl rfl ?_
        refine r_istore_n dX12_strongest_35 rfl (by decide) rfl ?_
        refine r_inc 2 dX12_strongest_36 rfl ci_1 (by decide) rfl ?_
        refine r_goto (tgt := 4) dX12_strongest_39 (by decide) ?_
        refine r_lv [2, 1, 0] rfl ?_
        exact h
      · replace h := h.2 c5
        refine r_iload_n 2 dX12_strongest_30 rfl rfl ?_
        refine r_goto (tgt := 35) dX12_strongest_31 (by decide) ?_
        refine r_istore_n dX12_strongest_35 rfl (by decide) rfl ?_
        refine r_inc 2 dX12_strongest_36 rfl ci_1 (by decide) rfl ?_
        refine r_goto (tgt := 4) dX12_strongest_39 (by decide) ?_
        refine r_lv [2, 1, 0] rfl ?_
        exact h

theorem w_X12_strongest_0 {l : Launch} {D : zDD} {b : Nat} (σ : zSg) (τ : zLm) {Q : Int32 → zSg → zLm → Prop} (h : AI l D b M_X12_strongest 1 G0 Q 4 [(0, .ref (b + 125)), (1, .int (-1)), (2, .int 0)] [] G0 σ τ) : AI l D b M_X12_strongest 1 G0 Q 0 [(0, .ref (b + 125))] [] G0 σ τ := by
  refine r_iconst dX12_strongest_0 ci_m1 ?_
  refine r_istore_n dX12_strongest_1 rfl (by decide) rfl ?_
  refine r_iconst dX12_strongest_2 ci_0 ?_
  refine r_istore_n dX12_strongest_3 rfl (by decide) rfl ?_
  refine r_lv [2, 1, 0] rfl ?_
  exact h
theorem s_X12_strongest {l : Launch} {D : zDD} {b : Nat} (σ : zSg) (τ : zLm) {Q : Int32 → zSg → zLm → Prop} (h : AI l D b M_X12_strongest 1 G0 Q 4 [(0, .ref (b + 125)), (1, .int (-1)), (2, .int 0)] [] G0 σ τ) : SI l D b M_X12_strongest 1 G0 [.ref (b + 125)] σ τ Q := zS.of (by decide) (Nat.le_of_ble_eq_true rfl) rfl (w_X12_strongest_0 σ τ h)

theorem dX12_weight_0 : decode cX12_weight 0 = .ok (.aload_n 0, 1) := by decide +kernel
theorem dX12_weight_1 : decode cX12_weight 1 = .ok (.getfield 35, 3) := by decide +kernel
theorem dX12_weight_4 : decode cX12_weight 4 = .ok (.bipush 8, 2) := by decide +kernel
theorem dX12_weight_6 : decode cX12_weight 6 = .ok (.iload_n 1, 1) := by decide +kernel
theorem dX12_weight_7 : decode cX12_weight 7 = .ok (.iadd, 1) := by decide +kernel
theorem dX12_weight_8 : decode cX12_weight 8 = .ok (.iaload, 1) := by decide +kernel
theorem dX12_weight_9 : decode cX12_weight 9 = .ok (.invokestatic 162, 3) := by decide +kernel
theorem dX12_weight_12 : decode cX12_weight 12 = .ok (.istore_n 2, 1) := by decide +kernel
theorem dX12_weight_13 : decode cX12_weight 13 = .ok (.iload_n 2, 1) := by decide +kernel
theorem dX12_weight_14 : decode cX12_weight 14 = .ok (.ifCond .ne 7, 3) := by decide +kernel
theorem dX12_weight_17 : decode cX12_weight 17 = .ok (.iconst 1, 1) := by decide +kernel
theorem dX12_weight_18 : decode cX12_weight 18 = .ok (.goto 4, 3) := by decide +kernel
theorem dX12_weight_21 : decode cX12_weight 21 = .ok (.iload_n 2, 1) := by decide +kernel
theorem dX12_weight_22 : decode cX12_weight 22 = .ok (.ireturn, 1) := by decide +kernel
theorem w_X12_weight_0 {l : Launch} {D : zDD} {b : Nat} (p1 : Int32) (σ : zSg) (τ : zLm) {Q : Int32 → zSg → zLm → Prop} (h : vp_in (8 + p1) 26 ∧ (SI l D b M_X12_bits 0 G0 [.int (σ 133 ((8 + p1).toNatClampNeg))] σ τ (fun r1 σ1 τ1 => (¬ r1 = 0 → Q r1 σ1 τ1) ∧ (r1 = 0 → Q 1 σ1 τ1)))) : AI l D b M_X12_weight 1 G0 Q 0 [(0, .ref (b + 125)), (1, .int p1)] [] G0 σ τ := by
  refine r_aload_n 0 dX12_weight_0 rfl rfl ?_
  refine r_getR (j := 20) (by decide) (congrArg Prod.fst k0_125) c12_11 (by decide) rfl g0_125_20 tw_830 dX12_weight_1 ?_
  refine r_bipush dX12_weight_4 cb_8 ?_
  refine r_iload_n 1 dX12_weight_6 rfl rfl ?_
  refine r_iadd dX12_weight_7 ?_
  refine r_iald (by decide) k0_133 dX12_weight_8 h.1 ?_
  replace h := h.2
  refine rc_SI (h' := 0) [.int (σ 133 ((8 + p1).toNatClampNeg))] oks_X12_bits tw_1046 rfl rfl (Nat.le_of_ble_eq_true rfl) dX12_weight_9 (by decide) h (fun r1 σ1 τ1 h => ?_)
  refine r_istore_n dX12_weight_12 rfl (by decide) rfl ?_
  refine r_iload_n 0 dX12_weight_13 rfl rfl ?_
  refine r_if_ne (tgt := 21) dX12_weight_14 (by decide) (fun c2 => ?_) (fun c2 => ?_)
  · replace h := h.1 c2
    refine r_iload_n 0 dX12_weight_21 rfl rfl ?_
    exact r_iret rfl (Nat.le_refl _) (Nat.le_refl _) dX12_weight_22 ⟨rfl, rfl, rfl, _, rfl, h⟩
  · replace h := h.2 c2
    refine r_iconst dX12_weight_17 ci_1 ?_
    refine r_goto (tgt := 22) dX12_weight_18 (by decide) ?_
    exact r_iret rfl (Nat.le_refl _) (Nat.le_refl _) dX12_weight_22 ⟨rfl, rfl, rfl, _, rfl, h⟩
theorem s_X12_weight {l : Launch} {D : zDD} {b : Nat} (p1 : Int32) (σ : zSg) (τ : zLm) {Q : Int32 → zSg → zLm → Prop} (h : vp_in (8 + p1) 26 ∧ (SI l D b M_X12_bits 0 G0 [.int (σ 133 ((8 + p1).toNatClampNeg))] σ τ (fun r1 σ1 τ1 => (¬ r1 = 0 → Q r1 σ1 τ1) ∧ (r1 = 0 → Q 1 σ1 τ1)))) : SI l D b M_X12_weight 1 G0 [.ref (b + 125), .int p1] σ τ Q := zS.of (by decide) (Nat.le_of_ble_eq_true rfl) rfl (w_X12_weight_0 p1 σ τ h)

theorem dX12_partOf_0 : decode cX12_partOf 0 = .ok (.iconst 1, 1) := by decide +kernel
theorem dX12_partOf_1 : decode cX12_partOf 1 = .ok (.iload_n 1, 1) := by decide +kernel
theorem dX12_partOf_2 : decode cX12_partOf 2 = .ok (.ishl, 1) := by decide +kernel
theorem dX12_partOf_3 : decode cX12_partOf 3 = .ok (.istore_n 2, 1) := by decide +kernel
theorem dX12_partOf_4 : decode cX12_partOf 4 = .ok (.iconst 0, 1) := by decide +kernel
theorem dX12_partOf_5 : decode cX12_partOf 5 = .ok (.istore_n 3, 1) := by decide +kernel
theorem dX12_partOf_6 : decode cX12_partOf 6 = .ok (.iload_n 3, 1) := by decide +kernel
theorem dX12_partOf_7 : decode cX12_partOf 7 = .ok (.bipush 25, 2) := by decide +kernel
theorem dX12_partOf_9 : decode cX12_partOf 9 = .ok (.if_icmp .ge 16, 3) := by decide +kernel
theorem dX12_partOf_12 : decode cX12_partOf 12 = .ok (.iload_n 2, 1) := by decide +kernel
theorem dX12_partOf_13 : decode cX12_partOf 13 = .ok (.invokestatic 190, 3) := by decide +kernel
theorem dX12_partOf_16 : decode cX12_partOf 16 = .ok (.iload_n 0, 1) := by decide +kernel
theorem dX12_partOf_17 : decode cX12_partOf 17 = .ok (.iand, 1) := by decide +kernel
theorem dX12_partOf_18 : decode cX12_partOf 18 = .ok (.istore_n 2, 1) := by decide +kernel
theorem dX12_partOf_19 : decode cX12_partOf 19 = .ok (.iinc 3 1, 3) := by decide +kernel
theorem dX12_partOf_22 : decode cX12_partOf 22 = .ok (.goto (-16), 3) := by decide +kernel
theorem dX12_partOf_25 : decode cX12_partOf 25 = .ok (.iload_n 2, 1) := by decide +kernel
theorem dX12_partOf_26 : decode cX12_partOf 26 = .ok (.ireturn, 1) := by decide +kernel
theorem w_X12_partOf_6 {l : Launch} {D : zDD} {b : Nat} {γ : zGm} (x0 x2 x3 : Int32) (σ : zSg) (τ : zLm) {Q : Int32 → zSg → zLm → Prop} (h : (25 ≤ x3 → Q x2 σ τ) ∧ (¬ 25 ≤ x3 → SI l D b M_X12_grown 0 γ [.int x2] σ τ (fun r2 σ2 τ2 => AI l D b M_X12_partOf 1 γ Q 6 [(0, .int x0), (2, .int (r2 &&& x0)), (3, .int (x3 + 1))] [] γ σ2 τ2))) : AI l D b M_X12_partOf 1 γ Q 6 [(0, .int x0), (2, .int x2), (3, .int x3)] [] γ σ τ := by
  refine r_iload_n 2 dX12_partOf_6 rfl rfl ?_
  refine r_bipush dX12_partOf_7 cb_25 ?_
  refine r_icmp_ge (tgt := 25) dX12_partOf_9 (by decide) (fun c1 => ?_) (fun c1 => ?_)
  · replace h := h.1 c1
    refine r_iload_n 1 dX12_partOf_25 rfl rfl ?_
    exact r_iret rfl (Nat.le_refl _) (Nat.le_refl _) dX12_partOf_26 ⟨rfl, rfl, rfl, _, rfl, h⟩
  · replace h := h.2 c1
    refine r_iload_n 1 dX12_partOf_12 rfl rfl ?_
    refine rc_SI (h' := 0) [.int x2] oks_X12_grown tw_1042 rfl rfl (Nat.le_of_ble_eq_true rfl) dX12_partOf_13 (by decide) h (fun r2 σ2 τ2 h => ?_)
    refine r_iload_n 0 dX12_partOf_16 rfl rfl ?_
    refine r_iand dX12_partOf_17 ?_
    refine r_istore_n dX12_partOf_18 rfl (by decide) rfl ?_
    refine r_inc 2 dX12_partOf_19 rfl ci_1 (by decide) rfl ?_
    refine r_goto (tgt := 6) dX12_partOf_22 (by decide) ?_
    refine r_lv [2, 1, 0] rfl ?_
    exact h

theorem w_X12_partOf_0 {l : Launch} {D : zDD} {b : Nat} {γ : zGm} (p1 p2 : Int32) (σ : zSg) (τ : zLm) {Q : Int32 → zSg → zLm → Prop} (h : ∀ v1 : Int32, v1 = (1 : Int32) <<< (p2 &&& 31) → AI l D b M_X12_partOf 1 γ Q 6 [(0, .int p1), (2, .int v1), (3, .int 0)] [] γ σ τ) : AI l D b M_X12_partOf 1 γ Q 0 [(0, .int p1), (1, .int p2)] [] γ σ τ := by
  refine r_iconst dX12_partOf_0 ci_1 ?_
  refine r_iload_n 1 dX12_partOf_1 rfl rfl ?_
  refine r_ishl dX12_partOf_2 ?_
  refine r_nmI (fun v1 ev1 => ?_)
  replace h := h v1 ev1
  refine r_istore_n dX12_partOf_3 rfl (by decide) rfl ?_
  refine r_iconst dX12_partOf_4 ci_0 ?_
  refine r_istore_n dX12_partOf_5 rfl (by decide) rfl ?_
  refine r_lv [2, 1, 0] rfl ?_
  exact h
theorem s_X12_partOf {l : Launch} {D : zDD} {b : Nat} {γ : zGm} (p1 p2 : Int32) (σ : zSg) (τ : zLm) {Q : Int32 → zSg → zLm → Prop} (h : ∀ v1 : Int32, v1 = (1 : Int32) <<< (p2 &&& 31) → AI l D b M_X12_partOf 1 γ Q 6 [(0, .int p1), (2, .int v1), (3, .int 0)] [] γ σ τ) : SI l D b M_X12_partOf 1 γ [.int p1, .int p2] σ τ Q := zS.of (by decide) (Nat.le_of_ble_eq_true rfl) rfl (w_X12_partOf_0 p1 p2 σ τ h)

theorem dX12_edgeOf_0 : decode cX12_edgeOf 0 = .ok (.iconst 1, 1) := by decide +kernel
theorem dX12_edgeOf_1 : decode cX12_edgeOf 1 = .ok (.iload_n 1, 1) := by decide +kernel
theorem dX12_edgeOf_2 : decode cX12_edgeOf 2 = .ok (.ishl, 1) := by decide +kernel
theorem dX12_edgeOf_3 : decode cX12_edgeOf 3 = .ok (.invokestatic 190, 3) := by decide +kernel
theorem dX12_edgeOf_6 : decode cX12_edgeOf 6 = .ok (.iconst 1, 1) := by decide +kernel
theorem dX12_edgeOf_7 : decode cX12_edgeOf 7 = .ok (.iload_n 1, 1) := by decide +kernel
theorem dX12_edgeOf_8 : decode cX12_edgeOf 8 = .ok (.ishl, 1) := by decide +kernel
theorem dX12_edgeOf_9 : decode cX12_edgeOf 9 = .ok (.iconst (-1), 1) := by decide +kernel
theorem dX12_edgeOf_10 : decode cX12_edgeOf 10 = .ok (.ixor, 1) := by decide +kernel
theorem dX12_edgeOf_11 : decode cX12_edgeOf 11 = .ok (.iand, 1) := by decide +kernel
theorem dX12_edgeOf_12 : decode cX12_edgeOf 12 = .ok (.iload_n 0, 1) := by decide +kernel
theorem dX12_edgeOf_13 : decode cX12_edgeOf 13 = .ok (.iand, 1) := by decide +kernel
theorem dX12_edgeOf_14 : decode cX12_edgeOf 14 = .ok (.istore_n 2, 1) := by decide +kernel
theorem dX12_edgeOf_15 : decode cX12_edgeOf 15 = .ok (.iconst 4, 1) := by decide +kernel
theorem dX12_edgeOf_16 : decode cX12_edgeOf 16 = .ok (.iload_n 2, 1) := by decide +kernel
theorem dX12_edgeOf_17 : decode cX12_edgeOf 17 = .ok (.invokestatic 162, 3) := by decide +kernel
theorem dX12_edgeOf_20 : decode cX12_edgeOf 20 = .ok (.isub, 1) := by decide +kernel
theorem dX12_edgeOf_21 : decode cX12_edgeOf 21 = .ok (.ireturn, 1) := by decide +kernel
theorem w_X12_edgeOf_0 {l : Launch} {D : zDD} {b : Nat} {γ : zGm} (p1 p2 : Int32) (σ : zSg) (τ : zLm) {Q : Int32 → zSg → zLm → Prop} (h : SI l D b M_X12_grown 0 γ [.int ((1 : Int32) <<< (p2 &&& 31))] σ τ (fun r1 σ1 τ1 => ∀ v2 : Int32, v2 = (r1 &&& (((1 : Int32) <<< (p2 &&& 31)) ^^^ (-1))) &&& p1 → SI l D b M_X12_bits 0 γ [.int v2] σ1 τ1 (fun r3 σ3 τ3 => Q (4 - r3) σ3 τ3))) : AI l D b M_X12_edgeOf 1 γ Q 0 [(0, .int p1), (1, .int p2)] [] γ σ τ := by
  refine r_iconst dX12_edgeOf_0 ci_1 ?_
  refine r_iload_n 1 dX12_edgeOf_1 rfl rfl ?_
  refine r_ishl dX12_edgeOf_2 ?_
  refine rc_SI (h' := 0) [.int ((1 : Int32) <<< (p2 &&& 31))] oks_X12_grown tw_1042 rfl rfl (Nat.le_of_ble_eq_true rfl) dX12_edgeOf_3 (by decide) h (fun r1 σ1 τ1 h => ?_)
  refine r_iconst dX12_edgeOf_6 ci_1 ?_
  refine r_iload_n 1 dX12_edgeOf_7 rfl rfl ?_
  refine r_ishl dX12_edgeOf_8 ?_
  refine r_iconst dX12_edgeOf_9 ci_m1 ?_
  refine r_ixor dX12_edgeOf_10 ?_
  refine r_iand dX12_edgeOf_11 ?_
  refine r_iload_n 0 dX12_edgeOf_12 rfl rfl ?_
  refine r_iand dX12_edgeOf_13 ?_
  refine r_nmI (fun v2 ev2 => ?_)
  replace h := h v2 ev2
  refine r_istore_n dX12_edgeOf_14 rfl (by decide) rfl ?_
  refine r_iconst dX12_edgeOf_15 ci_4 ?_
  refine r_iload_n 0 dX12_edgeOf_16 rfl rfl ?_
  refine rc_SI (h' := 0) [.int v2] oks_X12_bits tw_1046 rfl rfl (Nat.le_of_ble_eq_true rfl) dX12_edgeOf_17 (by decide) h (fun r3 σ3 τ3 h => ?_)
  refine r_isub dX12_edgeOf_20 ?_
  exact r_iret rfl (Nat.le_refl _) (Nat.le_refl _) dX12_edgeOf_21 ⟨rfl, rfl, rfl, _, rfl, h⟩
theorem s_X12_edgeOf {l : Launch} {D : zDD} {b : Nat} {γ : zGm} (p1 p2 : Int32) (σ : zSg) (τ : zLm) {Q : Int32 → zSg → zLm → Prop} (h : SI l D b M_X12_grown 0 γ [.int ((1 : Int32) <<< (p2 &&& 31))] σ τ (fun r1 σ1 τ1 => ∀ v2 : Int32, v2 = (r1 &&& (((1 : Int32) <<< (p2 &&& 31)) ^^^ (-1))) &&& p1 → SI l D b M_X12_bits 0 γ [.int v2] σ1 τ1 (fun r3 σ3 τ3 => Q (4 - r3) σ3 τ3))) : SI l D b M_X12_edgeOf 1 γ [.int p1, .int p2] σ τ Q := zS.of (by decide) (Nat.le_of_ble_eq_true rfl) rfl (w_X12_edgeOf_0 p1 p2 σ τ h)

theorem dX12_potsFree_0 : decode cX12_potsFree 0 = .ok (.aload_n 0, 1) := by decide +kernel
theorem dX12_potsFree_1 : decode cX12_potsFree 1 = .ok (.getfield 138, 3) := by decide +kernel
theorem dX12_potsFree_4 : decode cX12_potsFree 4 = .ok (.aload_n 0, 1) := by decide +kernel
theorem dX12_potsFree_5 : decode cX12_potsFree 5 = .ok (.iconst 2, 1) := by decide +kernel
theorem dX12_potsFree_6 : decode cX12_potsFree 6 = .ok (.invokevirtual 171, 3) := by decide +kernel
theorem dX12_potsFree_9 : decode cX12_potsFree 9 = .ok (.invokestatic 162, 3) := by decide +kernel
theorem dX12_potsFree_12 : decode cX12_potsFree 12 = .ok (.isub, 1) := by decide +kernel
theorem dX12_potsFree_13 : decode cX12_potsFree 13 = .ok (.ireturn, 1) := by decide +kernel
theorem w_X12_potsFree_0 {l : Launch} {D : zDD} {b : Nat} (σ : zSg) (τ : zLm) {Q : Int32 → zSg → zLm → Prop} (h : SI l D b M_X12_are 0 G0 [.ref (b + 125), .int 2] σ τ (fun r1 σ1 τ1 => SI l D b M_X12_bits 0 G0 [.int r1] σ1 τ1 (fun r2 σ2 τ2 => Q ((σ 125 15) - r2) σ2 τ2))) : AI l D b M_X12_potsFree 1 G0 Q 0 [(0, .ref (b + 125))] [] G0 σ τ := by
  refine r_aload_n 0 dX12_potsFree_0 rfl rfl ?_
  refine r_getI (j := 15) (by decide) (congrArg Prod.fst k0_125) c12_11 (by decide) rfl tw_825 dX12_potsFree_1 ?_
  refine r_aload_n 0 dX12_potsFree_4 rfl rfl ?_
  refine r_iconst dX12_potsFree_5 ci_2 ?_
  refine rc_VI (h' := 0) [.int 2] okv_X12_are (by decide) (congrArg Prod.fst k0_125) tw_981 rfl rfl (Nat.le_of_ble_eq_true rfl) dX12_potsFree_6 (by decide) h (fun r1 σ1 τ1 h => ?_)
  refine rc_SI (h' := 0) [.int r1] oks_X12_bits tw_1046 rfl rfl (Nat.le_of_ble_eq_true rfl) dX12_potsFree_9 (by decide) h (fun r2 σ2 τ2 h => ?_)
  refine r_isub dX12_potsFree_12 ?_
  exact r_iret rfl (Nat.le_refl _) (Nat.le_refl _) dX12_potsFree_13 ⟨rfl, rfl, rfl, _, rfl, h⟩
theorem s_X12_potsFree {l : Launch} {D : zDD} {b : Nat} (σ : zSg) (τ : zLm) {Q : Int32 → zSg → zLm → Prop} (h : SI l D b M_X12_are 0 G0 [.ref (b + 125), .int 2] σ τ (fun r1 σ1 τ1 => SI l D b M_X12_bits 0 G0 [.int r1] σ1 τ1 (fun r2 σ2 τ2 => Q ((σ 125 15) - r2) σ2 τ2))) : SI l D b M_X12_potsFree 1 G0 [.ref (b + 125)] σ τ Q := zS.of (by decide) (Nat.le_of_ble_eq_true rfl) rfl (w_X12_potsFree_0 σ τ h)

theorem dX12_softens_0 : decode cX12_softens 0 = .ok (.aload_n 0, 1) := by decide +kernel
theorem dX12_softens_1 : decode cX12_softens 1 = .ok (.getfield 135, 3) := by decide +kernel
theorem dX12_softens_4 : decode cX12_softens 4 = .ok (.aload_n 0, 1) := by decide +kernel
theorem dX12_softens_5 : decode cX12_softens 5 = .ok (.getfield 35, 3) := by decide +kernel
theorem dX12_softens_8 : decode cX12_softens 8 = .ok (.bipush 8, 2) := by decide +kernel
theorem dX12_softens_10 : decode cX12_softens 10 = .ok (.iload_n 1, 1) := by decide +kernel
theorem dX12_softens_11 : decode cX12_softens 11 = .ok (.iadd, 1) := by decide +kernel
theorem dX12_softens_12 : decode cX12_softens 12 = .ok (.iaload, 1) := by decide +kernel
theorem dX12_softens_13 : decode cX12_softens 13 = .ok (.invokestatic 162, 3) := by decide +kernel
theorem dX12_softens_16 : decode cX12_softens 16 = .ok (.iconst 5, 1) := by decide +kernel
theorem dX12_softens_17 : decode cX12_softens 17 = .ok (.idiv, 1) := by decide +kernel
theorem dX12_softens_18 : decode cX12_softens 18 = .ok (.isub, 1) := by decide +kernel
theorem dX12_softens_19 : decode cX12_softens 19 = .ok (.istore_n 3, 1) := by decide +kernel
theorem dX12_softens_20 : decode cX12_softens 20 = .ok (.aload_n 0, 1) := by decide +kernel
theorem dX12_softens_21 : decode cX12_softens 21 = .ok (.getfield 29, 3) := by decide +kernel
theorem dX12_softens_24 : decode cX12_softens 24 = .ok (.iload_n 1, 1) := by decide +kernel
theorem dX12_softens_25 : decode cX12_softens 25 = .ok (.iaload, 1) := by decide +kernel
theorem dX12_softens_26 : decode cX12_softens 26 = .ok (.tableswitch 48 0 2 #[26, 31, 38], 26) := by decide +kernel
theorem dX12_softens_52 : decode cX12_softens 52 = .ok (.aload_n 0, 1) := by decide +kernel
theorem dX12_softens_53 : decode cX12_softens 53 = .ok (.getfield 135, 3) := by decide +kernel
theorem dX12_softens_56 : decode cX12_softens 56 = .ok (.ireturn, 1) := by decide +kernel
theorem dX12_softens_57 : decode cX12_softens 57 = .ok (.aload_n 0, 1) := by decide +kernel
theorem dX12_softens_58 : decode cX12_softens 58 = .ok (.getfield 135, 3) := by decide +kernel
theorem dX12_softens_61 : decode cX12_softens 61 = .ok (.iconst 2, 1) := by decide +kernel
theorem dX12_softens_62 : decode cX12_softens 62 = .ok (.idiv, 1) := by decide +kernel
theorem dX12_softens_63 : decode cX12_softens 63 = .ok (.ireturn, 1) := by decide +kernel
theorem dX12_softens_64 : decode cX12_softens 64 = .ok (.iload_n 3, 1) := by decide +kernel
theorem dX12_softens_65 : decode cX12_softens 65 = .ok (.ifCond .le 7, 3) := by decide +kernel
theorem dX12_softens_68 : decode cX12_softens 68 = .ok (.iload_n 3, 1) := by decide +kernel
theorem dX12_softens_69 : decode cX12_softens 69 = .ok (.goto 4, 3) := by decide +kernel
theorem dX12_softens_72 : decode cX12_softens 72 = .ok (.iconst 0, 1) := by decide +kernel
theorem dX12_softens_73 : decode cX12_softens 73 = .ok (.ireturn, 1) := by decide +kernel
theorem dX12_softens_74 : decode cX12_softens 74 = .ok (.iload_n 2, 1) := by decide +kernel
theorem dX12_softens_75 : decode cX12_softens 75 = .ok (.iconst 2, 1) := by decide +kernel
theorem dX12_softens_76 : decode cX12_softens 76 = .ok (.irem, 1) := by decide +kernel
theorem dX12_softens_77 : decode cX12_softens 77 = .ok (.iconst 1, 1) := by decide +kernel
theorem dX12_softens_78 : decode cX12_softens 78 = .ok (.if_icmp .ne 10, 3) := by decide +kernel
theorem dX12_softens_81 : decode cX12_softens 81 = .ok (.aload_n 0, 1) := by decide +kernel
theorem dX12_softens_82 : decode cX12_softens 82 = .ok (.getfield 135, 3) := by decide +kernel
theorem dX12_softens_85 : decode cX12_softens 85 = .ok (.goto 4, 3) := by decide +kernel
theorem dX12_softens_88 : decode cX12_softens 88 = .ok (.iconst 0, 1) := by decide +kernel
theorem dX12_softens_89 : decode cX12_softens 89 = .ok (.ireturn, 1) := by decide +kernel
theorem w_X12_softens_0 {l : Launch} {D : zDD} {b : Nat} (p1 p2 : Int32) (σ : zSg) (τ : zLm) {Q : Int32 → zSg → zLm → Prop} (h : vp_in (8 + p1) 26 ∧ (SI l D b M_X12_bits 0 G0 [.int (σ 133 ((8 + p1).toNatClampNeg))] σ τ (fun r1 σ1 τ1 => vp_in p1 6 ∧ ((((σ1 131 p1.toNatClampNeg).toInt < 0 ∨ (2 : Int) < (σ1 131 p1.toNatClampNeg).toInt) → ((¬ (p2 - p2 / 2 * 2) = 1 → Q 0 σ1 τ1) ∧ ((p2 - p2 / 2 * 2) = 1 → Q (σ1 125 14) σ1 τ1))) ∧ ((σ1 131 p1.toNatClampNeg) = 0 → Q (σ1 125 14) σ1 τ1) ∧ ((σ1 131 p1.toNatClampNeg) = 1 → Q ((σ1 125 14) / 2) σ1 τ1) ∧ ((σ1 131 p1.toNatClampNeg) = 2 → ((((σ 125 14) - (r1 / 5)) ≤ 0 → Q 0 σ1 τ1) ∧ (¬ ((σ 125 14) - (r1 / 5)) ≤ 0 → Q ((σ 125 14) - (r1 / 5)) σ1 τ1))))))) : AI l D b M_X12_softens 1 G0 Q 0 [(0, .ref (b + 125)), (1, .int p1), (2, .int p2)] [] G0 σ τ := by
  refine r_aload_n 0 dX12_softens_0 rfl rfl ?_
  refine r_getI (j := 14) (by decide) (congrArg Prod.fst k0_125) c12_11 (by decide) rfl tw_824 dX12_softens_1 ?_
  refine r_aload_n 0 dX12_softens_4 rfl rfl ?_
  refine r_getR (j := 20) (by decide) (congrArg Prod.fst k0_125) c12_11 (by decide) rfl g0_125_20 tw_830 dX12_softens_5 ?_
  refine r_bipush dX12_softens_8 cb_8 ?_
  refine r_iload_n 1 dX12_softens_10 rfl rfl ?_
  refine r_iadd dX12_softens_11 ?_
  refine r_iald (by decide) k0_133 dX12_softens_12 h.1 ?_
  replace h := h.2
  refine rc_SI (h' := 0) [.int (σ 133 ((8 + p1).toNatClampNeg))] oks_X12_bits tw_1046 rfl rfl (Nat.le_of_ble_eq_true rfl) dX12_softens_13 (by decide) h (fun r1 σ1 τ1 h => ?_)
  refine r_iconst dX12_softens_16 ci_5 ?_
  refine r_idiv dX12_softens_17 (by decide) ?_
  refine r_isub dX12_softens_18 ?_
  refine r_istore_n dX12_softens_19 rfl (by decide) rfl ?_
  refine r_aload_n 1 dX12_softens_20 rfl rfl ?_
  refine r_getR (j := 18) (by decide) (congrArg Prod.fst k0_125) c12_11 (by decide) rfl g0_125_18 tw_828 dX12_softens_21 ?_
  refine r_iload_n 2 dX12_softens_24 rfl rfl ?_
  refine r_iald (by decide) k0_131 dX12_softens_25 h.1 ?_
  replace h := h.2
  by_cases ho : (σ1 131 p1.toNatClampNeg).toInt < 0 ∨ (2 : Int) < (σ1 131 p1.toNatClampNeg).toInt
  · replace h := h.1 ho
    refine r_tableOut (tgt := 74) dX12_softens_26 ho (by decide) ?_
    refine r_iload_n 3 dX12_softens_74 rfl rfl ?_
    refine r_iconst dX12_softens_75 ci_2 ?_
    refine r_irem dX12_softens_76 (by decide) ?_
    refine r_iconst dX12_softens_77 ci_1 ?_
    refine r_icmp_ne (tgt := 88) dX12_softens_78 (by decide) (fun c2 => ?_) (fun c2 => ?_)
    · replace h := h.1 c2
      refine r_iconst dX12_softens_88 ci_0 ?_
      exact r_iret rfl (Nat.le_refl _) (Nat.le_refl _) dX12_softens_89 ⟨rfl, rfl, rfl, _, rfl, h⟩
    · replace h := h.2 c2
      refine r_aload_n 1 dX12_softens_81 rfl rfl ?_
      refine r_getI (j := 14) (by decide) (congrArg Prod.fst k0_125) c12_11 (by decide) rfl tw_824 dX12_softens_82 ?_
      refine r_goto (tgt := 89) dX12_softens_85 (by decide) ?_
      exact r_iret rfl (Nat.le_refl _) (Nat.le_refl _) dX12_softens_89 ⟨rfl, rfl, rfl, _, rfl, h⟩
  · replace h := h.2
    rcases sw_2 ho with e9 | e9 | e9
    · replace h := h.1 e9
      refine r_tableIn (tgt := 52) (off := 26) dX12_softens_26 (by rw [e9]; decide) (by rw [e9]; decide) (by rw [e9]; rfl) (by decide) ?_
      refine r_aload_n 1 dX12_softens_52 rfl rfl ?_
      refine r_getI (j := 14) (by decide) (congrArg Prod.fst k0_125) c12_11 (by decide) rfl tw_824 dX12_softens_53 ?_
      exact r_iret rfl (Nat.le_refl _) (Nat.le_refl _) dX12_softens_56 ⟨rfl, rfl, rfl, _, rfl, h⟩
    · replace h := h.2.1 e9
      refine r_tableIn (tgt := 57) (off := 31) dX12_softens_26 (by rw [e9]; decide) (by rw [e9]; decide) (by rw [e9]; rfl) (by decide) ?_
      refine r_aload_n 1 dX12_softens_57 rfl rfl ?_
      refine r_getI (j := 14) (by decide) (congrArg Prod.fst k0_125) c12_11 (by decide) rfl tw_824 dX12_softens_58 ?_
      refine r_iconst dX12_softens_61 ci_2 ?_
      refine r_idiv dX12_softens_62 (by decide) ?_
      exact r_iret rfl (Nat.le_refl _) (Nat.le_refl _) dX12_softens_63 ⟨rfl, rfl, rfl, _, rfl, h⟩
    · replace h := h.2.2 e9
      refine r_tableIn (tgt := 64) (off := 38) dX12_softens_26 (by rw [e9]; decide) (by rw [e9]; decide) (by rw [e9]; rfl) (by decide) ?_
      refine r_iload_n 0 dX12_softens_64 rfl rfl ?_
      refine r_if_le (tgt := 72) dX12_softens_65 (by decide) (fun c3 => ?_) (fun c3 => ?_)
      · replace h := h.1 c3
        refine r_iconst dX12_softens_72 ci_0 ?_
        exact r_iret rfl (Nat.le_refl _) (Nat.le_refl _) dX12_softens_73 ⟨rfl, rfl, rfl, _, rfl, h⟩
      · replace h := h.2 c3
        refine r_iload_n 0 dX12_softens_68 rfl rfl ?_
        refine r_goto (tgt := 73) dX12_softens_69 (by decide) ?_
        exact r_iret rfl (Nat.le_refl _) (Nat.le_refl _) dX12_softens_73 ⟨rfl, rfl, rfl, _, rfl, h⟩
theorem s_X12_softens {l : Launch} {D : zDD} {b : Nat} (p1 p2 : Int32) (σ : zSg) (τ : zLm) {Q : Int32 → zSg → zLm → Prop} (h : vp_in (8 + p1) 26 ∧ (SI l D b M_X12_bits 0 G0 [.int (σ 133 ((8 + p1).toNatClampNeg))] σ τ (fun r1 σ1 τ1 => vp_in p1 6 ∧ ((((σ1 131 p1.toNatClampNeg).toInt < 0 ∨ (2 : Int) < (σ1 131 p1.toNatClampNeg).toInt) → ((¬ (p2 - p2 / 2 * 2) = 1 → Q 0 σ1 τ1) ∧ ((p2 - p2 / 2 * 2) = 1 → Q (σ1 125 14) σ1 τ1))) ∧ ((σ1 131 p1.toNatClampNeg) = 0 → Q (σ1 125 14) σ1 τ1) ∧ ((σ1 131 p1.toNatClampNeg) = 1 → Q ((σ1 125 14) / 2) σ1 τ1) ∧ ((σ1 131 p1.toNatClampNeg) = 2 → ((((σ 125 14) - (r1 / 5)) ≤ 0 → Q 0 σ1 τ1) ∧ (¬ ((σ 125 14) - (r1 / 5)) ≤ 0 → Q ((σ 125 14) - (r1 / 5)) σ1 τ1))))))) : SI l D b M_X12_softens 1 G0 [.ref (b + 125), .int p1, .int p2] σ τ Q := zS.of (by decide) (Nat.le_of_ble_eq_true rfl) rfl (w_X12_softens_0 p1 p2 σ τ h)

theorem dX12_needHours_0 : decode cX12_needHours 0 = .ok (.iload_n 1, 1) := by decide +kernel
theorem dX12_needHours_1 : decode cX12_needHours 1 = .ok (.iconst 1, 1) := by decide +kernel
theorem dX12_needHours_2 : decode cX12_needHours 2 = .ok (.bipush 60, 2) := by decide +kernel
theorem dX12_needHours_4 : decode cX12_needHours 4 = .ok (.invokestatic 70, 3) := by decide +kernel
theorem dX12_needHours_7 : decode cX12_needHours 7 = .ok (.ifCond .ne 8, 3) := by decide +kernel
theorem dX12_needHours_10 : decode cX12_needHours 10 = .ok (.ldc 74, 2) := by decide +kernel
theorem dX12_needHours_12 : decode cX12_needHours 12 = .ok (.goto 33, 3) := by decide +kernel
theorem dX12_needHours_15 : decode cX12_needHours 15 = .ok (.aload_n 0, 1) := by decide +kernel
theorem dX12_needHours_16 : decode cX12_needHours 16 = .ok (.invokevirtual 249, 3) := by decide +kernel
theorem dX12_needHours_19 : decode cX12_needHours 19 = .ok (.ifCond .ne 8, 3) := by decide +kernel
theorem dX12_needHours_22 : decode cX12_needHours 22 = .ok (.ldc 233, 2) := by decide +kernel
theorem dX12_needHours_24 : decode cX12_needHours 24 = .ok (.goto 21, 3) := by decide +kernel
theorem dX12_needHours_27 : decode cX12_needHours 27 = .ok (.aload_n 0, 1) := by decide +kernel
theorem dX12_needHours_28 : decode cX12_needHours 28 = .ok (.getfield 35, 3) := by decide +kernel
theorem dX12_needHours_31 : decode cX12_needHours 31 = .ok (.iconst 0, 1) := by decide +kernel
theorem dX12_needHours_32 : decode cX12_needHours 32 = .ok (.iaload, 1) := by decide +kernel
theorem dX12_needHours_33 : decode cX12_needHours 33 = .ok (.sipush 9000, 3) := by decide +kernel
theorem dX12_needHours_36 : decode cX12_needHours 36 = .ok (.if_icmp .le 8, 3) := by decide +kernel
theorem dX12_needHours_39 : decode cX12_needHours 39 = .ok (.ldc 78, 2) := by decide +kernel
theorem dX12_needHours_41 : decode cX12_needHours 41 = .ok (.goto 4, 3) := by decide +kernel
theorem dX12_needHours_44 : decode cX12_needHours 44 = .ok (.iconst 0, 1) := by decide +kernel
theorem dX12_needHours_45 : decode cX12_needHours 45 = .ok (.ireturn, 1) := by decide +kernel
theorem w_X12_needHours_0 {l : Launch} {D : zDD} {b : Nat} (p1 : Int32) (σ : zSg) (τ : zLm) {Q : Int32 → zSg → zLm → Prop} (h : SI l D b M_X12_in 0 G0 [.int p1, .int 1, .int 60] σ τ (fun r1 σ1 τ1 => (¬ r1 = 0 → (SI l D b M_X12_isKitchen 0 G0 [.ref (b + 125)] σ1 τ1 (fun r3 σ3 τ3 => (¬ r3 = 0 → (((σ3 133 0) ≤ 9000 → Q 0 σ3 τ3) ∧ (¬ (σ3 133 0) ≤ 9000 → Q (-1000000004) σ3 τ3))) ∧ (r3 = 0 → Q (-1000000003) σ3 τ3)))) ∧ (r1 = 0 → Q (-1000000002) σ1 τ1))) : AI l D b M_X12_needHours 1 G0 Q 0 [(0, .ref (b + 125)), (1, .int p1)] [] G0 σ τ := by
  refine r_iload_n 1 dX12_needHours_0 rfl rfl ?_
  refine r_iconst dX12_needHours_1 ci_1 ?_
  refine r_bipush dX12_needHours_2 cb_60 ?_
  refine rc_SI (h' := 0) [.int p1, .int 1, .int 60] oks_X12_in tw_924 rfl rfl (Nat.le_of_ble_eq_true rfl) dX12_needHours_4 (by decide) h (fun r1 σ1 τ1 h => ?_)
  refine r_if_ne (tgt := 15) dX12_needHours_7 (by decide) (fun c2 => ?_) (fun c2 => ?_)
  · replace h := h.1 c2
    refine r_aload_n 0 dX12_needHours_15 rfl rfl ?_
    refine rc_VI (h' := 0) [] okv_X12_isKitchen (by decide) (congrArg Prod.fst k0_125) tw_1120 rfl rfl (Nat.le_of_ble_eq_true rfl) dX12_needHours_16 (by decide) h (fun r3 σ3 τ3 h => ?_)
    refine r_if_ne (tgt := 27) dX12_needHours_19 (by decide) (fun c4 => ?_) (fun c4 => ?_)
    · replace h := h.1 c4
      refine r_aload_n 0 dX12_needHours_27 rfl rfl ?_
      refine r_getR (j := 20) (by decide) (congrArg Prod.fst k0_125) c12_11 (by decide) rfl g0_125_20 tw_830 dX12_needHours_28 ?_
      refine r_iconst dX12_needHours_31 ci_0 ?_
      refine r_iald (by decide) k0_133 dX12_needHours_32 (show ¬ (_ ∨ _) by decide) ?_
      refine r_sipush dX12_needHours_33 cs_9000 ?_
      refine r_icmp_le (tgt := 44) dX12_needHours_36 (by decide) (fun c5 => ?_) (fun c5 => ?_)
      · replace h := h.1 c5
        refine r_iconst dX12_needHours_44 ci_0 ?_
        exact r_iret rfl (Nat.le_refl _) (Nat.le_refl _) dX12_needHours_45 ⟨rfl, rfl, rfl, _, rfl, h⟩
      · replace h := h.2 c5
        refine r_ldc (v := (-1000000004)) rfl tw_928 rfl dX12_needHours_39 ?_
        refine r_goto (tgt := 45) dX12_needHours_41 (by decide) ?_
        exact r_iret rfl (Nat.le_refl _) (Nat.le_refl _) dX12_needHours_45 ⟨rfl, rfl, rfl, _, rfl, h⟩
    · replace h := h.2 c4
      refine r_ldc (v := (-1000000003)) rfl tw_1078 rfl dX12_needHours_22 ?_
      refine r_goto (tgt := 45) dX12_needHours_24 (by decide) ?_
      exact r_iret rfl (Nat.le_refl _) (Nat.le_refl _) dX12_needHours_45 ⟨rfl, rfl, rfl, _, rfl, h⟩
  · replace h := h.2 c2
    refine r_ldc (v := (-1000000002)) rfl tw_927 rfl dX12_needHours_10 ?_
    refine r_goto (tgt := 45) dX12_needHours_12 (by decide) ?_
    exact r_iret rfl (Nat.le_refl _) (Nat.le_refl _) dX12_needHours_45 ⟨rfl, rfl, rfl, _, rfl, h⟩
theorem s_X12_needHours {l : Launch} {D : zDD} {b : Nat} (p1 : Int32) (σ : zSg) (τ : zLm) {Q : Int32 → zSg → zLm → Prop} (h : SI l D b M_X12_in 0 G0 [.int p1, .int 1, .int 60] σ τ (fun r1 σ1 τ1 => (¬ r1 = 0 → (SI l D b M_X12_isKitchen 0 G0 [.ref (b + 125)] σ1 τ1 (fun r3 σ3 τ3 => (¬ r3 = 0 → (((σ3 133 0) ≤ 9000 → Q 0 σ3 τ3) ∧ (¬ (σ3 133 0) ≤ 9000 → Q (-1000000004) σ3 τ3))) ∧ (r3 = 0 → Q (-1000000003) σ3 τ3)))) ∧ (r1 = 0 → Q (-1000000002) σ1 τ1))) : SI l D b M_X12_needHours 1 G0 [.ref (b + 125), .int p1] σ τ Q := zS.of (by decide) (Nat.le_of_ble_eq_true rfl) rfl (w_X12_needHours_0 p1 σ τ h)

theorem dX12_rest_0 : decode cX12_rest 0 = .ok (.aload_n 0, 1) := by decide +kernel
theorem dX12_rest_1 : decode cX12_rest 1 = .ok (.invokevirtual 249, 3) := by decide +kernel
theorem dX12_rest_4 : decode cX12_rest 4 = .ok (.ifCond .ne 6, 3) := by decide +kernel
theorem dX12_rest_7 : decode cX12_rest 7 = .ok (.ldc 233, 2) := by decide +kernel
theorem dX12_rest_9 : decode cX12_rest 9 = .ok (.ireturn, 1) := by decide +kernel
theorem dX12_rest_10 : decode cX12_rest 10 = .ok (.aload_n 0, 1) := by decide +kernel
theorem dX12_rest_11 : decode cX12_rest 11 = .ok (.invokevirtual 234, 3) := by decide +kernel
theorem dX12_rest_14 : decode cX12_rest 14 = .ok (.aload_n 0, 1) := by decide +kernel
theorem dX12_rest_15 : decode cX12_rest 15 = .ok (.invokevirtual 265, 3) := by decide +kernel
theorem dX12_rest_18 : decode cX12_rest 18 = .ok (.ireturn, 1) := by decide +kernel
theorem w_X12_rest_0 {l : Launch} {D : zDD} {b : Nat} (σ : zSg) (τ : zLm) {Q : Int32 → zSg → zLm → Prop} (h : SI l D b M_X12_isKitchen 0 G0 [.ref (b + 125)] σ τ (fun r1 σ1 τ1 => (¬ r1 = 0 → SV l D b M_X12_remember 0 G0 [.ref (b + 125)] σ1 τ1 (fun σ3 τ3 => SI l D b M_X12_rests 0 G0 [.ref (b + 125)] σ3 τ3 (fun r4 σ4 τ4 => Q r4 σ4 τ4))) ∧ (r1 = 0 → Q (-1000000003) σ1 τ1))) : AI l D b M_X12_rest 1 G0 Q 0 [(0, .ref (b + 125))] [] G0 σ τ := by
  refine r_aload_n 0 dX12_rest_0 rfl rfl ?_
  refine rc_VI (h' := 0) [] okv_X12_isKitchen (by decide) (congrArg Prod.fst k0_125) tw_1120 rfl rfl (Nat.le_of_ble_eq_true rfl) dX12_rest_1 (by decide) h (fun r1 σ1 τ1 h => ?_)
  refine r_if_ne (tgt := 10) dX12_rest_4 (by decide) (fun c2 => ?_) (fun c2 => ?_)
  · replace h := h.1 c2
    refine r_aload_n 0 dX12_rest_10 rfl rfl ?_
    refine rc_VV (h' := 0) [] okv_X12_remember (by decide) (congrArg Prod.fst k0_125) tw_1079 rfl rfl (Nat.le_of_ble_eq_true rfl) dX12_rest_11 (by decide) h (fun σ3 τ3 h => ?_)
    refine r_aload_n 0 dX12_rest_14 rfl rfl ?_
    refine rc_VI (h' := 0) [] okv_X12_rests (by decide) (congrArg Prod.fst k0_125) tw_1151 rfl rfl (Nat.le_of_ble_eq_true rfl) dX12_rest_15 (by decide) h (fun r4 σ4 τ4 h => ?_)
    exact r_iret rfl (Nat.le_refl _) (Nat.le_refl _) dX12_rest_18 ⟨rfl, rfl, rfl, _, rfl, h⟩
  · replace h := h.2 c2
    refine r_ldc (v := (-1000000003)) rfl tw_1078 rfl dX12_rest_7 ?_
    exact r_iret rfl (Nat.le_refl _) (Nat.le_refl _) dX12_rest_9 ⟨rfl, rfl, rfl, _, rfl, h⟩
theorem s_X12_rest {l : Launch} {D : zDD} {b : Nat} (σ : zSg) (τ : zLm) {Q : Int32 → zSg → zLm → Prop} (h : SI l D b M_X12_isKitchen 0 G0 [.ref (b + 125)] σ τ (fun r1 σ1 τ1 => (¬ r1 = 0 → SV l D b M_X12_remember 0 G0 [.ref (b + 125)] σ1 τ1 (fun σ3 τ3 => SI l D b M_X12_rests 0 G0 [.ref (b + 125)] σ3 τ3 (fun r4 σ4 τ4 => Q r4 σ4 τ4))) ∧ (r1 = 0 → Q (-1000000003) σ1 τ1))) : SI l D b M_X12_rest 1 G0 [.ref (b + 125)] σ τ Q := zS.of (by decide) (Nat.le_of_ble_eq_true rfl) rfl (w_X12_rest_0 σ τ h)

theorem dX12_fewestSheets_0 : decode cX12_fewestSheets 0 = .ok (.iconst 0, 1) := by decide +kernel
theorem dX12_fewestSheets_1 : decode cX12_fewestSheets 1 = .ok (.istore_n 3, 1) := by decide +kernel
theorem dX12_fewestSheets_2 : decode cX12_fewestSheets 2 = .ok (.iload_n 3, 1) := by decide +kernel
theorem dX12_fewestSheets_3 : decode cX12_fewestSheets 3 = .ok (.bipush 16, 2) := by decide +kernel
theorem dX12_fewestSheets_5 : decode cX12_fewestSheets 5 = .ok (.if_icmp .ge 19, 3) := by decide +kernel
theorem dX12_fewestSheets_8 : decode cX12_fewestSheets 8 = .ok (.aload_n 0, 1) := by decide +kernel
theorem dX12_fewestSheets_9 : decode cX12_fewestSheets 9 = .ok (.getfield 41, 3) := by decide +kernel
theorem dX12_fewestSheets_12 : decode cX12_fewestSheets 12 = .ok (.iload_n 3, 1) := by decide +kernel
theorem dX12_fewestSheets_13 : decode cX12_fewestSheets 13 = .ok (.iload_n 3, 1) := by decide +kernel
theorem dX12_fewestSheets_14 : decode cX12_fewestSheets 14 = .ok (.invokestatic 287, 3) := by decide +kernel
theorem dX12_fewestSheets_17 : decode cX12_fewestSheets 17 = .ok (.iastore, 1) := by decide +kernel
theorem dX12_fewestSheets_18 : decode cX12_fewestSheets 18 = .ok (.iinc 3 1, 3) := by decide +kernel
theorem dX12_fewestSheets_21 : decode cX12_fewestSheets 21 = .ok (.goto (-19), 3) := by decide +kernel
theorem dX12_fewestSheets_24 : decode cX12_fewestSheets 24 = .ok (.bipush 17, 2) := by decide +kernel
theorem dX12_fewestSheets_26 : decode cX12_fewestSheets 26 = .ok (.istore_n 3, 1) := by decide +kernel
theorem dX12_fewestSheets_27 : decode cX12_fewestSheets 27 = .ok (.bipush 16, 2) := by decide +kernel
theorem dX12_fewestSheets_29 : decode cX12_fewestSheets 29 = .ok (.istore 4, 2) := by decide +kernel
theorem dX12_fewestSheets_31 : decode cX12_fewestSheets 31 = .ok (.iconst 1, 1) := by decide +kernel
theorem dX12_fewestSheets_32 : decode cX12_fewestSheets 32 = .ok (.istore 5, 2) := by decide +kernel
theorem dX12_fewestSheets_34 : decode cX12_fewestSheets 34 = .ok (.iload 5, 2) := by decide +kernel
theorem dX12_fewestSheets_36 : decode cX12_fewestSheets 36 = .ok (.ldc_w 290, 3) := by decide +kernel
theorem dX12_fewestSheets_39 : decode cX12_fewestSheets 39 = .ok (.if_icmp .ge 136, 3) := by decide +kernel
theorem dX12_fewestSheets_42 : decode cX12_fewestSheets 42 = .ok (.iload 5, 2) := by decide +kernel
theorem dX12_fewestSheets_44 : decode cX12_fewestSheets 44 = .ok (.invokestatic 162, 3) := by decide +kernel
theorem dX12_fewestSheets_47 : decode cX12_fewestSheets 47 = .ok (.istore 6, 2) := by decide +kernel
theorem dX12_fewestSheets_49 : decode cX12_fewestSheets 49 = .ok (.iload 5, 2) := by decide +kernel
theorem dX12_fewestSheets_51 : decode cX12_fewestSheets 51 = .ok (.iload 5, 2) := by decide +kernel
theorem dX12_fewestSheets_53 : decode cX12_fewestSheets 53 = .ok (.ineg, 1) := by decide +kernel
theorem dX12_fewestSheets_54 : decode cX12_fewestSheets 54 = .ok (.iand, 1) := by decide +kernel
theorem dX12_fewestSheets_55 : decode cX12_fewestSheets 55 = .ok (.iconst 1, 1) := by decide +kernel
theorem dX12_fewestSheets_56 : decode cX12_fewestSheets 56 = .ok (.isub, 1) := by decide +kernel
theorem dX12_fewestSheets_57 : decode cX12_fewestSheets 57 = .ok (.invokestatic 162, 3) := by decide +kernel
theorem dX12_fewestSheets_60 : decode cX12_fewestSheets 60 = .ok (.istore 7, 2) := by decide +kernel
theorem dX12_fewestSheets_62 : decode cX12_fewestSheets 62 = .ok (.iload 6, 2) := by decide +kernel
theorem dX12_fewestSheets_64 : decode cX12_fewestSheets 64 = .ok (.iload_n 3, 1) := by decide +kernel
theorem dX12_fewestSheets_65 : decode cX12_fewestSheets 65 = .ok (.if_icmp .lt 16, 3) := by decide +kernel
theorem dX12_fewestSheets_68 : decode cX12_fewestSheets 68 = .ok (.iload 6, 2) := by decide +kernel
theorem dX12_fewestSheets_70 : decode cX12_fewestSheets 70 = .ok (.iload_n 3, 1) := by decide +kernel
theorem dX12_fewestSheets_71 : decode cX12_fewestSheets 71 = .ok (.if_icmp .ne 98, 3) := by decide +kernel
theorem dX12_fewestSheets_74 : decode cX12_fewestSheets 74 = .ok (.iload 7, 2) := by decide +kernel
theorem dX12_fewestSheets_76 : decode cX12_fewestSheets 76 = .ok (.iload 4, 2) := by decide +kernel
theorem dX12_fewestSheets_78 : decode cX12_fewestSheets 78 = .ok (.if_icmp .ge 91, 3) := by decide +kernel
theorem dX12_fewestSheets_81 : decode cX12_fewestSheets 81 = .ok (.iconst 0, 1) := by decide +kernel
theorem dX12_fewestSheets_82 : decode cX12_fewestSheets 82 = .ok (.istore 8, 2) := by decide +kernel
theorem dX12_fewestSheets_84 : decode cX12_fewestSheets 84 = .ok (.iload 7, 2) := by decide +kernel
theorem dX12_fewestSheets_86 : decode cX12_fewestSheets 86 = .ok (.istore 9, 2) := by decide +kernel
theorem dX12_fewestSheets_88 : decode cX12_fewestSheets 88 = .ok (.iload 9, 2) := by decide +kernel
theorem dX12_fewestSheets_90 : decode cX12_fewestSheets 90 = .ok (.bipush 16, 2) := by decide +kernel
theorem dX12_fewestSheets_92 : decode cX12_fewestSheets 92 = .ok (.if_icmp .ge 35, 3) := by decide +kernel
theorem dX12_fewestSheets_95 : decode cX12_fewestSheets 95 = .ok (.iload 8, 2) := by decide +kernel
theorem dX12_fewestSheets_97 : decode cX12_fewestSheets 97 = .ok (.iload 5, 2) := by decide +kernel
theorem dX12_fewestSheets_99 : decode cX12_fewestSheets 99 = .ok (.iload 9, 2) := by decide +kernel
theorem dX12_fewestSheets_101 : decode cX12_fewestSheets 101 = .ok (.invokestatic 193, 3) := by decide +kernel
theorem dX12_fewestSheets_104 : decode cX12_fewestSheets 104 = .ok (.ifCond .eq 13, 3) := by decide +kernel
theorem dX12_fewestSheets_107 : decode cX12_fewestSheets 107 = .ok (.aload_n 0, 1) := by decide +kernel
theorem dX12_fewestSheets_108 : decode cX12_fewestSheets 108 = .ok (.getfield 41, 3) := by decide +kernel
theorem dX12_fewestSheets_111 : decode cX12_fewestSheets 111 = .ok (.iload 9, 2) := by decide +kernel
theorem dX12_fewestSheets_113 : decode cX12_fewestSheets 113 = .ok (.iaload, 1) := by decide +kernel
theorem dX12_fewestSheets_114 : decode cX12_fewestSheets 114 = .ok (.goto 4, 3) := by decide +kernel
theorem dX12_fewestSheets_117 : decode cX12_fewestSheets 117 = .ok (.iconst 0, 1) := by decide +kernel
theorem dX12_fewestSheets_118 : decode cX12_fewestSheets 118 = .ok (.ior, 1) := by decide +kernel
theorem dX12_fewestSheets_119 : decode cX12_fewestSheets 119 = .ok (.istore 8, 2) := by decide +kernel
theorem dX12_fewestSheets_121 : decode cX12_fewestSheets 121 = .ok (.iinc 9 1, 3) := by decide +kernel
theorem dX12_fewestSheets_124 : decode cX12_fewestSheets 124 = .ok (.goto (-36), 3) := by decide +kernel
theorem dX12_fewestSheets_127 : decode cX12_fewestSheets 127 = .ok (.iload_n 1, 1) := by decide +kernel
theorem dX12_fewestSheets_128 : decode cX12_fewestSheets 128 = .ok (.iload 8, 2) := by decide +kernel
theorem dX12_fewestSheets_130 : decode cX12_fewestSheets 130 = .ok (.iconst (-1), 1) := by decide +kernel
theorem dX12_fewestSheets_131 : decode cX12_fewestSheets 131 = .ok (.ixor, 1) := by decide +kernel
theorem dX12_fewestSheets_132 : decode cX12_fewestSheets 132 = .ok (.iand, 1) := by decide +kernel
theorem dX12_fewestSheets_133 : decode cX12_fewestSheets 133 = .ok (.ifCond .ne 7, 3) := by decide +kernel
theorem dX12_fewestSheets_136 : decode cX12_fewestSheets 136 = .ok (.iconst 1, 1) := by decide +kernel
theorem dX12_fewestSheets_137 : decode cX12_fewestSheets 137 = .ok (.goto 4, 3) := by decide +kernel
theorem dX12_fewestSheets_140 : decode cX12_fewestSheets 140 = .ok (.iconst 0, 1) := by decide +kernel
theorem dX12_fewestSheets_141 : decode cX12_fewestSheets 141 = .ok (.istore 9, 2) := by decide +kernel
theorem dX12_fewestSheets_143 : decode cX12_fewestSheets 143 = .ok (.iload 9, 2) := by decide +kernel
theorem dX12_fewestSheets_145 : decode cX12_fewestSheets 145 = .ok (.ifCond .eq 8, 3) := by decide +kernel
theorem dX12_fewestSheets_148 : decode cX12_fewestSheets 148 = .ok (.iload 7, 2) := by decide +kernel
theorem dX12_fewestSheets_150 : decode cX12_fewestSheets 150 = .ok (.goto 5, 3) := by decide +kernel
theorem dX12_fewestSheets_153 : decode cX12_fewestSheets 153 = .ok (.iload 4, 2) := by decide +kernel
theorem dX12_fewestSheets_155 : decode cX12_fewestSheets 155 = .ok (.istore 4, 2) := by decide +kernel
theorem dX12_fewestSheets_157 : decode cX12_fewestSheets 157 = .ok (.iload 9, 2) := by decide +kernel
theorem dX12_fewestSheets_159 : decode cX12_fewestSheets 159 = .ok (.ifCond .eq 8, 3) := by decide +kernel
theorem dX12_fewestSheets_162 : decode cX12_fewestSheets 162 = .ok (.iload 6, 2) := by decide +kernel
theorem dX12_fewestSheets_164 : decode cX12_fewestSheets 164 = .ok (.goto 4, 3) := by decide +kernel
theorem dX12_fewestSheets_167 : decode cX12_fewestSheets 167 = .ok (.iload_n 3, 1) := by decide +kernel
theorem dX12_fewestSheets_168 : decode cX12_fewestSheets 168 = .ok (.istore_n 3, 1) := by decide +kernel
theorem dX12_fewestSheets_169 : decode cX12_fewestSheets 169 = .ok (.iinc 5 1, 3) := by decide +kernel
theorem dX12_fewestSheets_172 : decode cX12_fewestSheets 172 = .ok (.goto (-138), 3) := by decide +kernel
theorem dX12_fewestSheets_175 : decode cX12_fewestSheets 175 = .ok (.iload_n 2, 1) := by decide +kernel
theorem dX12_fewestSheets_176 : decode cX12_fewestSheets 176 = .ok (.ifCond .eq 17, 3) := by decide +kernel
theorem dX12_fewestSheets_179 : decode cX12_fewestSheets 179 = .ok (.iconst 5, 1) := by decide +kernel
theorem dX12_fewestSheets_180 : decode cX12_fewestSheets 180 = .ok (.iload 4, 2) := by decide +kernel
theorem dX12_fewestSheets_182 : decode cX12_fewestSheets 182 = .ok (.iconst 4, 1) := by decide +kernel
theorem dX12_fewestSheets_183 : decode cX12_fewestSheets 183 = .ok (.idiv, 1) := by decide +kernel
theorem dX12_fewestSheets_184 : decode cX12_fewestSheets 184 = .ok (.imul, 1) := by decide +kernel
theorem dX12_fewestSheets_185 : decode cX12_fewestSheets 185 = .ok (.iload 4, 2) := by decide +kernel
theorem dX12_fewestSheets_187 : decode cX12_fewestSheets 187 = .ok (.iconst 4, 1) := by decide +kernel
theorem dX12_fewestSheets_188 : decode cX12_fewestSheets 188 = .ok (.irem, 1) := by decide +kernel
theorem dX12_fewestSheets_189 : decode cX12_fewestSheets 189 = .ok (.iadd, 1) := by decide +kernel
theorem dX12_fewestSheets_190 : decode cX12_fewestSheets 190 = .ok (.goto 4, 3) := by decide +kernel
theorem dX12_fewestSheets_193 : decode cX12_fewestSheets 193 = .ok (.iload_n 3, 1) := by decide +kernel
theorem dX12_fewestSheets_194 : decode cX12_fewestSheets 194 = .ok (.ireturn, 1) := by decide +kernel
theorem w_X12_fewestSheets_155 {l : Launch} {D : zDD} {b : Nat} (x1 x2 x3 x5 x6 x9 y0 : Int32) (σ : zSg) (τ : zLm) {Q : Int32 → zSg → zLm → Prop} (h : (x9 = 0 → AI l D b M_X12_fewestSheets 1 G0 Q 34 [(0, .ref (b + 125)), (1, .int x1), (2, .int x2), (3, .int x3), (4, .int y0), (5, .int (x5 + 1))] [] G0 σ τ) ∧ (¬ x9 = 0 → AI l D b M_X12_fewestSheets 1 G0 Q 34 [(0, .ref (b + 125)), (1, .int x1), (2, .int x2), (3, .int x6), (4, .int y0), (5, .int (x5 + 1))] [] G0 σ τ)) : AI l D b M_X12_fewestSheets 1 G0 Q 155 [(0, .ref (b + 125)), (1, .int x1), (2, .int x2), (3, .int x3), (5, .int x5), (6, .int x6), (9, .int x9)] [.int y0] G0 σ τ := by
  refine r_istore dX12_fewestSheets_155 (by decide) rfl ?_
  refine r_iload 7 dX12_fewestSheets_157 rfl ?_
  refine r_if_eq (tgt := 167) dX12_fewestSheets_159 (by decide) (fun c1 => ?_) (fun c1 => ?_)
  · replace h := h.1 c1
    refine r_iload_n 4 dX12_fewestSheets_167 rfl rfl ?_
    refine r_istore_n dX12_fewestSheets_168 rfl (by decide) rfl ?_
    refine r_inc 5 dX12_fewestSheets_169 rfl ci_1 (by decide) rfl ?_
    refine r_goto (tgt := 34) dX12_fewestSheets_172 (by decide) ?_
    refine r_lv [3, 4, 5, 1, 2, 0] rfl ?_
    exact h
  · replace h := h.2 c1
    refine r_iload 6 dX12_fewestSheets_162 rfl ?_
    refine r_goto (tgt := 168) dX12_fewestSheets_164 (by decide) ?_
    refine r_istore_n dX12_fewestSheets_168 rfl (by decide) rfl ?_
    refine r_inc 5 dX12_fewestSheets_169 rfl ci_1 (by decide) rfl ?_
    refine r_goto (tgt := 34) dX12_fewestSheets_172 (by decide) ?_
    refine r_lv [3, 4, 5, 1, 2, 0] rfl ?_
    exact h

theorem w_X12_fewestSheets_141 {l : Launch} {D : zDD} {b : Nat} (x1 x2 x3 x4 x5 x6 x7 y0 : Int32) (σ : zSg) (τ : zLm) {Q : Int32 → zSg → zLm → Prop} (h : (y0 = 0 → AI l D b M_X12_fewestSheets 1 G0 Q 155 [(0, .ref (b + 125)), (1, .int x1), (2, .int x2), (3, .int x3), (5, .int x5), (6, .int x6), (9, .int y0)] [.int x4] G0 σ τ) ∧ (¬ y0 = 0 → AI l D b M_X12_fewestSheets 1 G0 Q 155 [(0, .ref (b + 125)), (1, .int x1), (2, .int x2), (3, .int x3), (5, .int x5), (6, .int x6), (9, .int y0)] [.int x7] G0 σ τ)) : AI l D b M_X12_fewestSheets 1 G0 Q 141 [(0, .ref (b + 125)), (1, .int x1), (2, .int x2), (3, .int x3), (4, .int x4), (5, .int x5), (6, .int x6), (7, .int x7)] [.int y0] G0 σ τ := by
  refine r_istore dX12_fewestSheets_141 (by decide) rfl ?_
  refine r_iload 0 dX12_fewestSheets_143 rfl ?_
  refine r_if_eq (tgt := 153) dX12_fewestSheets_145 (by decide) (fun c1 => ?_) (fun c1 => ?_)
  · replace h := h.1 c1
    refine r_iload 5 dX12_fewestSheets_153 rfl ?_
    refine r_lv [1, 2, 3, 4, 6, 7, 0] rfl ?_
    exact h
  · replace h := h.2 c1
    refine r_iload 8 dX12_fewestSheets_148 rfl ?_
    refine r_goto (tgt := 155) dX12_fewestSheets_150 (by decide) ?_
    refine r_lv [1, 2, 3, 4, 6, 7, 0] rfl ?_
    exact h

theorem w_X12_fewestSheets_88 {l : Launch} {D : zDD} {b : Nat} (x1 x2 x3 x4 x5 x6 x7 x8 x9 : Int32) (σ : zSg) (τ : zLm) {Q : Int32 → zSg → zLm → Prop} (h : (16 ≤ x9 → ((¬ (x1 &&& (x8 ^^^ (-1))) = 0 → AI l D b M_X12_fewestSheets 1 G0 Q 141 [(0, .ref (b + 125)), (1, .int x1), (2, .int x2), (3, .int x3), (4, .int x4), (5, .int x5), (6, .int x6), (7, .int x7)] [.int 0] G0 σ τ) ∧ ((x1 &&& (x8 ^^^ (-1))) = 0 → AI l D b M_X12_fewestSheets 1 G0 Q 141 [(0, .ref (b + 125)), (1, .int x1), (2, .int x2), (3, .int x3), (4, .int x4), (5, .int x5), (6, .int x6), (7, .int x7)] [.int 1] G0 σ τ))) ∧ (¬ 16 ≤ x9 → (SI l D b M_X12_has 0 G0 [.int x5, .int x9] σ τ (fun r3 σ3 τ3 => (r3 = 0 → AI l D b M_X12_fewestSheets 1 G0 Q 88 [(0, .ref (b + 125)), (1, .int x1), (2, .int x2), (3, .int x3), (4, .int x4), (5, .int x5), (6, .int x6), (7, .int x7), (8, .int (x8 ||| 0)), (9, .int (x9 + 1))] [] G0 σ3 τ3) ∧ (¬ r3 = 0 → (vp_in x9 16 ∧ (∀ v5 : Int32, v5 = x8 ||| (σ3 135 x9.toNatClampNeg) → AI l D b M_X12_fewestSheets 1 G0 Q 88 [(0, .ref (b + 125)), (1, .int x1), (2, .int x2), (3, .int x3), (4, .int x4), (5, .int x5), (6, .int x6), (7, .int x7), (8, .int v5), (9, .int (x9 + 1))] [] G0 σ3 τ3))))))) : AI l D b M_X12_fewestSheets 1 G0 Q 88 [(0, .ref (b + 125)), (1, .int x1), (2, .int x2), (3, .int x3), (4, .int x4), (5, .int x5), (6, .int x6), (7, .int x7), (8, .int x8), (9, .int x9)] [] G0 σ τ := by
  refine r_iload 9 dX12_fewestSheets_88 rfl ?_
  refine r_bipush dX12_fewestSheets_90 cb_16 ?_
  refine r_icmp_ge (tgt := 127) dX12_fewestSheets_92 (by decide) (fun c1 => ?_) (fun c1 => ?_)
  · replace h := h.1 c1
    refine r_iload_n 1 dX12_fewestSheets_127 rfl rfl ?_
    refine r_iload 8 dX12_fewestSheets_128 rfl ?_
    refine r_iconst dX12_fewestSheets_130 ci_m1 ?_
    refine r_ixor dX12_fewestSheets_131 ?_
    refine r_iand dX12_fewestSheets_132 ?_
    refine r_if_ne (tgt := 140) dX12_fewestSheets_133 (by decide) (fun c2 => ?_) (fun c2 => ?_)
    · replace h := h.1 c2
      refine r_iconst dX12_fewestSheets_140 ci_0 ?_
      refine r_lv [0, 1, 2, 3, 4, 5, 6, 7] rfl ?_
      exact h
    · replace h := h.2 c2
      refine r_iconst dX12_fewestSheets_136 ci_1 ?_
      refine r_goto (tgt := 141) dX12_fewestSheets_137 (by decide) ?_
      refine r_lv [0, 1, 2, 3, 4, 5, 6, 7] rfl ?_
      exact h
  · replace h := h.2 c1
    refine r_iload 8 dX12_fewestSheets_95 rfl ?_
    refine r_iload 5 dX12_fewestSheets_97 rfl ?_
    refine r_iload 9 dX12_fewestSheets_99 rfl ?_
    refine rc_SI (h' := 0) [.int x5, .int x9] oks_X12_has tw_1016 rfl rfl (Nat.le_of_ble_eq_true rfl) dX12_fewestSheets_101 (by decide) h (fun r3 σ3 τ3 h => ?_)
    refine r_if_eq (tgt := 117) dX12_fewestSheets_104 (by decide) (fun c4 => ?_) (fun c4 => ?_)
    · replace h := h.1 c4
      refine r_iconst dX12_fewestSheets_117 ci_0 ?_
      refine r_ior dX12_fewestSheets_118 ?_
      refine r_istore dX12_fewestSheets_119 (by decide) rfl ?_
      refine r_inc 9 dX12_fewestSheets_121 rfl ci_1 (by decide) rfl ?_
      refine r_goto (tgt := 88) dX12_fewestSheets_124 (by decide) ?_
      refine r_lv [2, 3, 4, 5, 6, 7, 8, 9, 1, 0] rfl ?_
      exact h
    · replace h := h.2 c4
      refine r_aload_n 0 dX12_fewestSheets_107 rfl rfl ?_
      refine r_getR (j := 25) (by decide) (congrArg Prod.fst k0_125) c12_11 (by decide) rfl g0_125_25 tw_835 dX12_fewestSheets_108 ?_
      refine r_iload 9 dX12_fewestSheets_111 rfl ?_
      refine r_iald (by decide) k0_135 dX12_fewestSheets_113 h.1 ?_
      replace h := h.2
      refine r_goto (tgt := 118) dX12_fewestSheets_114 (by decide) ?_
      refine r_ior dX12_fewestSheets_118 ?_
      refine r_nmI (fun v5 ev5 => ?_)
      replace h := h v5 ev5
      refine r_istore dX12_fewestSheets_119 (by decide) rfl ?_
      refine r_inc 9 dX12_fewestSheets_121 rfl ci_1 (by decide) rfl ?_
      refine r_goto (tgt := 88) dX12_fewestSheets_124 (by decide) ?_
      refine r_lv [2, 3, 4, 5, 6, 7, 8, 9, 1, 0] rfl ?_
      exact h

theorem w_X12_fewestSheets_34 {l : Launch} {D : zDD} {b : Nat} (x1 x2 x3 x4 x5 : Int32) (σ : zSg) (τ : zLm) {Q : Int32 → zSg → zLm → Prop} (h : (65536 ≤ x5 → ((x2 = 0 → Q x3 σ τ) ∧ (¬ x2 = 0 → Q ((5 * (x4 / 4)) + (x4 - x4 / 4 * 4)) σ τ))) ∧ (¬ 65536 ≤ x5 → (SI l D b M_X12_bits 0 G0 [.int x5] σ τ (fun r3 σ3 τ3 => SI l D b M_X12_bits 0 G0 [.int ((x5 &&& (-x5)) - 1)] σ3 τ3 (fun r4 σ4 τ4 => (r3 < x3 → AI l D b M_X12_fewestSheets 1 G0 Q 88 [(0, .ref (b + 125)), (1, .int x1), (2, .int x2), (3, .int x3), (4, .int x4), (5, .int x5), (6, .int r3), (7, .int r4), (8, .int 0), (9, .int r4)] [] G0 σ4 τ4) ∧ (¬ r3 < x3 → ((¬ r3 = x3 → AI l D b M_X12_fewestSheets 1 G0 Q 34 [(0, .ref (b + 125)), (1, .int x1), (2, .int x2), (3, .int x3), (4, .int x4), (5, .int (x5 + 1))] [] G0 σ4 τ4) ∧ (r3 = x3 → ((x4 ≤ r4 → AI l D b M_X12_fewestSheets 1 G0 Q 34 [(0, .ref (b + 125)), (1, .int x1), (2, .int x2), (3, .int x3), (4, .int x4), (5, .int (x5 + 1))] [] G0 σ4 τ4) ∧ (¬ x4 ≤ r4 → AI l D b M_X12_fewestSheets 1 G0 Q 88 [(0, .ref (b + 125)), (1, .int x1), (2, .int x2), (3, .int x3), (4, .int x4), (5, .int x5), (6, .int r3), (7, .int r4), (8, .int 0), (9, .int r4)] [] G0 σ4 τ4)))))))))) : AI l D b M_X12_fewestSheets 1 G0 Q 34 [(0, .ref (b + 125)), (1, .int x1), (2, .int x2), (3, .int x3), (4, .int x4), (5, .int x5)] [] G0 σ τ := by
  refine r_iload 5 dX12_fewestSheets_34 rfl ?_
  refine r_ldcw (v := 65536) rfl tw_1098 rfl dX12_fewestSheets_36 ?_
  refine r_icmp_ge (tgt := 175) dX12_fewestSheets_39 (by decide) (fun c1 => ?_) (fun c1 => ?_)
  · replace h := h.1 c1
    refine r_iload_n 2 dX12_fewestSheets_175 rfl rfl ?_
    refine r_if_eq (tgt := 193) dX12_fewestSheets_176 (by decide) (fun c2 => ?_) (fun c2 => ?_)
    · replace h := h.1 c2
      refine r_iload_n 3 dX12_fewestSheets_193 rfl rfl ?_
      exact r_iret rfl (Nat.le_refl _) (Nat.le_refl _) dX12_fewestSheets_194 ⟨rfl, rfl, rfl, _, rfl, h⟩
    · replace h := h.2 c2
      refine r_iconst dX12_fewestSheets_179 ci_5 ?_
      refine r_iload 4 dX12_fewestSheets_180 rfl ?_
      refine r_iconst dX12_fewestSheets_182 ci_4 ?_
      refine r_idiv dX12_fewestSheets_183 (by decide) ?_
      refine r_imul dX12_fewestSheets_184 ?_
      refine r_iload 4 dX12_fewestSheets_185 rfl ?_
      refine r_iconst dX12_fewestSheets_187 ci_4 ?_
      refine r_irem dX12_fewestSheets_188 (by decide) ?_
      refine r_iadd dX12_fewestSheets_189 ?_
      refine r_goto (tgt := 194) dX12_fewestSheets_190 (by decide) ?_
      exact r_iret rfl (Nat.le_refl _) (Nat.le_refl _) dX12_fewestSheets_194 ⟨rfl, rfl, rfl, _, rfl, h⟩
  · replace h := h.2 c1
    refine r_iload 5 dX12_fewestSheets_42 rfl ?_
    refine rc_SI (h' := 0) [.int x5] oks_X12_bits tw_1046 rfl rfl (Nat.le_of_ble_eq_true rfl) dX12_fewestSheets_44 (by decide) h (fun r3 σ3 τ3 h => ?_)
    refine r_istore dX12_fewestSheets_47 (by decide) rfl ?_
    refine r_iload 6 dX12_fewestSheets_49 rfl ?_
    refine r_iload 6 dX12_fewestSheets_51 rfl ?_
    refine r_ineg dX12_fewestSheets_53 ?_
    refine r_iand dX12_fewestSheets_54 ?_
    refine r_iconst dX12_fewestSheets_55 ci_1 ?_
    refine r_isub dX12_fewestSheets_56 ?_
    refine rc_SI (h' := 0) [.int ((x5 &&& (-x5)) - 1)] oks_X12_bits tw_1046 rfl rfl (Nat.le_of_ble_eq_true rfl) dX12_fewestSheets_57 (by decide) h (fun r4 σ4 τ4 h => ?_)
    refine r_istore dX12_fewestSheets_60 (by decide) rfl ?_
    refine r_iload 1 dX12_fewestSheets_62 rfl ?_
    refine r_iload_n 5 dX12_fewestSheets_64 rfl rfl ?_
    refine r_icmp_lt (tgt := 81) dX12_fewestSheets_65 (by decide) (fun c5 => ?_) (fun c5 => ?_)
    · replace h := h.1 c5
      refine r_iconst dX12_fewestSheets_81 ci_0 ?_
      refine r_istore dX12_fewestSheets_82 (by decide) rfl ?_
      refine r_iload 1 dX12_fewestSheets_84 rfl ?_
      refine r_istore dX12_fewestSheets_86 (by decide) rfl ?_
      refine r_lv [4, 5, 6, 7, 8, 9, 3, 2, 1, 0] rfl ?_
      exact h
    · replace h := h.2 c5
      refine r_iload 1 dX12_fewestSheets_68 rfl ?_
      refine r_iload_n 5 dX12_fewestSheets_70 rfl rfl ?_
      refine r_icmp_ne (tgt := 169) dX12_fewestSheets_71 (by decide) (fun c6 => ?_) (fun c6 => ?_)
      · replace h := h.1 c6
        refine r_inc 7 dX12_fewestSheets_169 rfl ci_1 (by decide) rfl ?_
        refine r_goto (tgt := 34) dX12_fewestSheets_172 (by decide) ?_
        refine r_lv [3, 4, 5, 6, 7, 0] rfl ?_
        exact h
      · replace h := h.2 c6
        refine r_iload 0 dX12_fewestSheets_74 rfl ?_
        refine r_iload 6 dX12_fewestSheets_76 rfl ?_
        refine r_icmp_ge (tgt := 169) dX12_fewestSheets_78 (by decide) (fun c7 => ?_) (fun c7 => ?_)
        · replace h := h.1 c7
          refine r_inc 7 dX12_fewestSheets_169 rfl ci_1 (by decide) rfl ?_
          refine r_goto (tgt := 34) dX12_fewestSheets_172 (by decide) ?_
          refine r_lv [3, 4, 5, 6, 7, 0] rfl ?_
          exact h
        · replace h := h.2 c7
          refine r_iconst dX12_fewestSheets_81 ci_0 ?_
          refine r_istore dX12_fewestSheets_82 (by decide) rfl ?_
          refine r_iload 1 dX12_fewestSheets_84 rfl ?_
          refine r_istore dX12_fewestSheets_86 (by decide) rfl ?_
          refine r_lv [4, 5, 6, 7, 8, 9, 3, 2, 1, 0] rfl ?_
          exact h

theorem w_X12_fewestSheets_2 {l : Launch} {D : zDD} {b : Nat} (x1 x2 x3 : Int32) (σ : zSg) (τ : zLm) {Q : Int32 → zSg → zLm → Prop} (h : (16 ≤ x3 → AI l D b M_X12_fewestSheets 1 G0 Q 34 [(0, .ref (b + 125)), (1, .int x1), (2, .int x2), (3, .int 17), (4, .int 16), (5, .int 1)] [] G0 σ τ) ∧ (¬ 16 ≤ x3 → (SI l D b M_X12_sheet 0 G0 [.int x3] σ τ (fun r2 σ2 τ2 => vp_in x3 16 ∧ AI l D b M_X12_fewestSheets 1 G0 Q 2 [(0, .ref (b + 125)), (1, .int x1), (2, .int x2), (3, .int (x3 + 1))] [] G0 (st2 σ2 135 x3.toNatClampNeg r2) τ2)))) : AI l D b M_X12_fewestSheets 1 G0 Q 2 [(0, .ref (b + 125)), (1, .int x1), (2, .int x2), (3, .int x3)] [] G0 σ τ := by
  refine r_iload_n 3 dX12_fewestSheets_2 rfl rfl ?_
  refine r_bipush dX12_fewestSheets_3 cb_16 ?_
  refine r_icmp_ge (tgt := 24) dX12_fewestSheets_5 (by decide) (fun c1 => ?_) (fun c1 => ?_)
  · replace h := h.1 c1
    refine r_bipush dX12_fewestSheets_24 cb_17 ?_
    refine r_istore_n dX12_fewestSheets_26 rfl (by decide) rfl ?_
    refine r_bipush dX12_fewestSheets_27 cb_16 ?_
    refine r_istore dX12_fewestSheets_29 (by decide) rfl ?_
    refine r_iconst dX12_fewestSheets_31 ci_1 ?_
    refine r_istore dX12_fewestSheets_32 (by decide) rfl ?_
    refine r_lv [3, 4, 5, 2, 1, 0] rfl ?_
    exact h
  · replace h := h.2 c1
    refine r_aload_n 0 dX12_fewestSheets_8 rfl rfl ?_
    refine r_getR (j := 25) (by decide) (congrArg Prod.fst k0_125) c12_11 (by decide) rfl g0_125_25 tw_835 dX12_fewestSheets_9 ?_
    refine r_iload_n 3 dX12_fewestSheets_12 rfl rfl ?_
    refine r_iload_n 3 dX12_fewestSheets_13 rfl rfl ?_
    refine rc_SI (h' := 0) [.int x3] oks_X12_sheet tw_1095 rfl rfl (Nat.le_of_ble_eq_true rfl) dX12_fewestSheets_14 (by decide) h (fun r2 σ2 τ2 h => ?_)
    refine r_iast (by decide) k0_135 dX12_fewestSheets_17 h.1 ?_
    replace h := h.2
    refine r_inc 3 dX12_fewestSheets_18 rfl ci_1 (by decide) rfl ?_
    refine r_goto (tgt := 2) dX12_fewestSheets_21 (by decide) ?_
    refine r_lv [1, 2, 3, 0] rfl ?_
    exact h

theorem w_X12_fewestSheets_0 {l : Launch} {D : zDD} {b : Nat} (p1 p2 : Int32) (σ : zSg) (τ : zLm) {Q : Int32 → zSg → zLm → Prop} (h : AI l D b M_X12_fewestSheets 1 G0 Q 2 [(0, .ref (b + 125)), (1, .int p1), (2, .int p2), (3, .int 0)] [] G0 σ τ) : AI l D b M_X12_fewestSheets 1 G0 Q 0 [(0, .ref (b + 125)), (1, .int p1), (2, .int p2)] [] G0 σ τ := by
  refine r_iconst dX12_fewestSheets_0 ci_0 ?_
  refine r_istore_n dX12_fewestSheets_1 rfl (by decide) rfl ?_
  refine r_lv [1, 2, 3, 0] rfl ?_
  exact h
theorem s_X12_fewestSheets {l : Launch} {D : zDD} {b : Nat} (p1 p2 : Int32) (σ : zSg) (τ : zLm) {Q : Int32 → zSg → zLm → Prop} (h : AI l D b M_X12_fewestSheets 1 G0 Q 2 [(0, .ref (b + 125)), (1, .int p1), (2, .int p2), (3, .int 0)] [] G0 σ τ) : SI l D b M_X12_fewestSheets 1 G0 [.ref (b + 125), .int p1, .int p2] σ τ Q := zS.of (by decide) (Nat.le_of_ble_eq_true rfl) rfl (w_X12_fewestSheets_0 p1 p2 σ τ h)

theorem dX12_span_0 : decode cX12_span 0 = .ok (.iconst (-1), 1) := by decide +kernel
theorem dX12_span_1 : decode cX12_span 1 = .ok (.istore_n 1, 1) := by decide +kernel
theorem dX12_span_2 : decode cX12_span 2 = .ok (.iconst (-1), 1) := by decide +kernel
theorem dX12_span_3 : decode cX12_span 3 = .ok (.istore_n 2, 1) := by decide +kernel
theorem dX12_span_4 : decode cX12_span 4 = .ok (.iconst 0, 1) := by decide +kernel
theorem dX12_span_5 : decode cX12_span 5 = .ok (.istore_n 3, 1) := by decide +kernel
theorem dX12_span_6 : decode cX12_span 6 = .ok (.iload_n 3, 1) := by decide +kernel
theorem dX12_span_7 : decode cX12_span 7 = .ok (.iconst 5, 1) := by decide +kernel
theorem dX12_span_8 : decode cX12_span 8 = .ok (.if_icmp .ge 42, 3) := by decide +kernel
theorem dX12_span_11 : decode cX12_span 11 = .ok (.iload_n 1, 1) := by decide +kernel
theorem dX12_span_12 : decode cX12_span 12 = .ok (.iconst (-1), 1) := by decide +kernel
theorem dX12_span_13 : decode cX12_span 13 = .ok (.if_icmp .ne 15, 3) := by decide +kernel
theorem dX12_span_16 : decode cX12_span 16 = .ok (.iload_n 0, 1) := by decide +kernel
theorem dX12_span_17 : decode cX12_span 17 = .ok (.iload_n 3, 1) := by decide +kernel
theorem dX12_span_18 : decode cX12_span 18 = .ok (.invokestatic 193, 3) := by decide +kernel
theorem dX12_span_21 : decode cX12_span 21 = .ok (.ifCond .eq 7, 3) := by decide +kernel
theorem dX12_span_24 : decode cX12_span 24 = .ok (.iload_n 3, 1) := by decide +kernel
theorem dX12_span_25 : decode cX12_span 25 = .ok (.goto 4, 3) := by decide +kernel
theorem dX12_span_28 : decode cX12_span 28 = .ok (.iload_n 1, 1) := by decide +kernel
theorem dX12_span_29 : decode cX12_span 29 = .ok (.istore_n 1, 1) := by decide +kernel
theorem dX12_span_30 : decode cX12_span 30 = .ok (.iload_n 0, 1) := by decide +kernel
theorem dX12_span_31 : decode cX12_span 31 = .ok (.iload_n 3, 1) := by decide +kernel
theorem dX12_span_32 : decode cX12_span 32 = .ok (.invokestatic 193, 3) := by decide +kernel
theorem dX12_span_35 : decode cX12_span 35 = .ok (.ifCond .eq 7, 3) := by decide +kernel
theorem dX12_span_38 : decode cX12_span 38 = .ok (.iload_n 3, 1) := by decide +kernel
theorem dX12_span_39 : decode cX12_span 39 = .ok (.goto 4, 3) := by decide +kernel
theorem dX12_span_42 : decode cX12_span 42 = .ok (.iload_n 2, 1) := by decide +kernel
theorem dX12_span_43 : decode cX12_span 43 = .ok (.istore_n 2, 1) := by decide +kernel
theorem dX12_span_44 : decode cX12_span 44 = .ok (.iinc 3 1, 3) := by decide +kernel
theorem dX12_span_47 : decode cX12_span 47 = .ok (.goto (-41), 3) := by decide +kernel
theorem dX12_span_50 : decode cX12_span 50 = .ok (.iload_n 2, 1) := by decide +kernel
theorem dX12_span_51 : decode cX12_span 51 = .ok (.iload_n 1, 1) := by decide +kernel
theorem dX12_span_52 : decode cX12_span 52 = .ok (.isub, 1) := by decide +kernel
theorem dX12_span_53 : decode cX12_span 53 = .ok (.iconst 1, 1) := by decide +kernel
theorem dX12_span_54 : decode cX12_span 54 = .ok (.iadd, 1) := by decide +kernel
theorem dX12_span_55 : decode cX12_span 55 = .ok (.ireturn, 1) := by decide +kernel
theorem w_X12_span_29 {l : Launch} {D : zDD} {b : Nat} {γ : zGm} (x0 x2 x3 y0 : Int32) (σ : zSg) (τ : zLm) {Q : Int32 → zSg → zLm → Prop} (h : SI l D b M_X12_has 0 γ [.int x0, .int x3] σ τ (fun r1 σ1 τ1 => (r1 = 0 → AI l D b M_X12_span 1 γ Q 6 [(0, .int x0), (1, .int y0), (2, .int x2), (3, .int (x3 + 1))] [] γ σ1 τ1) ∧ (¬ r1 = 0 → AI l D b M_X12_span 1 γ Q 6 [(0, .int x0), (1, .int y0), (2, .int x3), (3, .int (x3 + 1))] [] γ σ1 τ1))) : AI l D b M_X12_span 1 γ Q 29 [(0, .int x0), (2, .int x2), (3, .int x3)] [.int y0] γ σ τ := by
  refine r_istore_n dX12_span_29 rfl (by decide) rfl ?_
  refine r_iload_n 1 dX12_span_30 rfl rfl ?_
  refine r_iload_n 3 dX12_span_31 rfl rfl ?_
  refine rc_SI (h' := 0) [.int x0, .int x3] oks_X12_has tw_1016 rfl rfl (Nat.le_of_ble_eq_true rfl) dX12_span_32 (by decide) h (fun r1 σ1 τ1 h => ?_)
  refine r_if_eq (tgt := 42) dX12_span_35 (by decide) (fun c2 => ?_) (fun c2 => ?_)
  · replace h := h.1 c2
    refine r_iload_n 2 dX12_span_42 rfl rfl ?_
    refine r_istore_n dX12_span_43 rfl (by decide) rfl ?_
    refine r_inc 3 dX12_span_44 rfl ci_1 (by decide) rfl ?_
    refine r_goto (tgt := 6) dX12_span_47 (by decide) ?_
    refine r_lv [3, 2, 1, 0] rfl ?_
    exact h
  · replace h := h.2 c2
    refine r_iload_n 3 dX12_span_38 rfl rfl ?_
    refine r_goto (tgt := 43) dX12_span_39 (by decide) ?_
    refine r_istore_n dX12_span_43 rfl (by decide) rfl ?_
    refine r_inc 3 dX12_span_44 rfl ci_1 (by decide) rfl ?_
    refine r_goto (tgt := 6) dX12_span_47 (by decide) ?_
    refine r_lv [3, 2, 1, 0] rfl ?_
    exact h

theorem w_X12_span_28 {l : Launch} {D : zDD} {b : Nat} {γ : zGm} (x0 x1 x2 x3 : Int32) (σ : zSg) (τ : zLm) {Q : Int32 → zSg → zLm → Prop} (h : AI l D b M_X12_span 1 γ Q 29 [(0, .int x0), (2, .int x2), (3, .int x3)] [.int x1] γ σ τ) : AI l D b M_X12_span 1 γ Q 28 [(0, .int x0), (1, .int x1), (2, .int x2), (3, .int x3)] [] γ σ τ := by
  refine r_iload_n 1 dX12_span_28 rfl rfl ?_
  refine r_lv [0, 2, 3] rfl ?_
  exact h

theorem w_X12_span_6 {l : Launch} {D : zDD} {b : Nat} {γ : zGm} (x0 x1 x2 x3 : Int32) (σ : zSg) (τ : zLm) {Q : Int32 → zSg → zLm → Prop} (h : (5 ≤ x3 → Q ((x2 - x1) + 1) σ τ) ∧ (¬ 5 ≤ x3 → ((¬ x1 = (-1) → AI l D b M_X12_span 1 γ Q 28 [(0, .int x0), (1, .int x1), (2, .int x2), (3, .int x3)] [] γ σ τ) ∧ (x1 = (-1) → (SI l D b M_X12_has 0 γ [.int x0, .int x3] σ τ (fun r3 σ3 τ3 => (r3 = 0 → AI l D b M_X12_span 1 γ Q 28 [(0, .int x0), (1, .int x1), (2, .int x2), (3, .int x3)] [] γ σ3 τ3) ∧ (¬ r3 = 0 → AI l D b M_X12_span 1 γ Q 29 [(0, .int x0), (2, .int x2), (3, .int x3)] [.int x3] γ σ3 τ3))))))) : AI l D b M_X12_span 1 γ Q 6 [(0, .int x0), (1, .int x1), (2, .int x2), (3, .int x3)] [] γ σ τ := by
  refine r_iload_n 3 dX12_span_6 rfl rfl ?_
  refine r_iconst dX12_span_7 ci_5 ?_
  refine r_icmp_ge (tgt := 50) dX12_span_8 (by decide) (fun c1 => ?_) (fun c1 => ?_)
  · replace h := h.1 c1
    refine r_iload_n 2 dX12_span_50 rfl rfl ?_
    refine r_iload_n 1 dX12_span_51 rfl rfl ?_
    refine r_isub dX12_span_52 ?_
    refine r_iconst dX12_span_53 ci_1 ?_
    refine r_iadd dX12_span_54 ?_
    exact r_iret rfl (Nat.le_refl _) (Nat.le_refl _) dX12_span_55 ⟨rfl, rfl, rfl, _, rfl, h⟩
  · replace h := h.2 c1
    refine r_iload_n 1 dX12_span_11 rfl rfl ?_
    refine r_iconst dX12_span_12 ci_m1 ?_
    refine r_icmp_ne (tgt := 28) dX12_span_13 (by decide) (fun c2 => ?_) (fun c2 => ?_)
    · replace h := h.1 c2
      exact h
    · replace h := h.2 c2
      refine r_iload_n 0 dX12_span_16 rfl rfl ?_
      refine r_iload_n 3 dX12_span_17 rfl rfl ?_
      refine rc_SI (h' := 0) [.int x0, .int x3] oks_X12_has tw_1016 rfl rfl (Nat.le_of_ble_eq_true rfl) dX12_span_18 (by decide) h (fun r3 σ3 τ3 h => ?_)
      refine r_if_eq (tgt := 28) dX12_span_21 (by decide) (fun c4 => ?_) (fun c4 => ?_)
      · replace h := h.1 c4
        exact h
      · replace h := h.2 c4
        refine r_iload_n 3 dX12_span_24 rfl rfl ?_
        refine r_goto (tgt := 29) dX12_span_25 (by decide) ?_
        refine r_lv [0, 2, 3] rfl ?_
        exact h

theorem w_X12_span_0 {l : Launch} {D : zDD} {b : Nat} {γ : zGm} (p1 : Int32) (σ : zSg) (τ : zLm) {Q : Int32 → zSg → zLm → Prop} (h : AI l D b M_X12_span 1 γ Q 6 [(0, .int p1), (1, .int (-1)), (2, .int (-1)), (3, .int 0)] [] γ σ τ) : AI l D b M_X12_span 1 γ Q 0 [(0, .int p1)] [] γ σ τ := by
  refine r_iconst dX12_span_0 ci_m1 ?_
  refine r_istore_n dX12_span_1 rfl (by decide) rfl ?_
  refine r_iconst dX12_span_2 ci_m1 ?_
  refine r_istore_n dX12_span_3 rfl (by decide) rfl ?_
  refine r_iconst dX12_span_4 ci_0 ?_
  refine r_istore_n dX12_span_5 rfl (by decide) rfl ?_
  refine r_lv [3, 2, 1, 0] rfl ?_
  exact h
theorem s_X12_span {l : Launch} {D : zDD} {b : Nat} {γ : zGm} (p1 : Int32) (σ : zSg) (τ : zLm) {Q : Int32 → zSg → zLm → Prop} (h : AI l D b M_X12_span 1 γ Q 6 [(0, .int p1), (1, .int (-1)), (2, .int (-1)), (3, .int 0)] [] γ σ τ) : SI l D b M_X12_span 1 γ [.int p1] σ τ Q := zS.of (by decide) (Nat.le_of_ble_eq_true rfl) rfl (w_X12_span_0 p1 σ τ h)

theorem dX12_ahead_0 : decode cX12_ahead 0 = .ok (.iconst 0, 1) := by decide +kernel
theorem dX12_ahead_1 : decode cX12_ahead 1 = .ok (.istore_n 2, 1) := by decide +kernel
theorem dX12_ahead_2 : decode cX12_ahead 2 = .ok (.iconst 0, 1) := by decide +kernel
theorem dX12_ahead_3 : decode cX12_ahead 3 = .ok (.istore_n 3, 1) := by decide +kernel
theorem dX12_ahead_4 : decode cX12_ahead 4 = .ok (.iload_n 3, 1) := by decide +kernel
theorem dX12_ahead_5 : decode cX12_ahead 5 = .ok (.bipush 25, 2) := by decide +kernel
theorem dX12_ahead_7 : decode cX12_ahead 7 = .ok (.if_icmp .ge 68, 3) := by decide +kernel
theorem dX12_ahead_10 : decode cX12_ahead 10 = .ok (.iload_n 1, 1) := by decide +kernel
theorem dX12_ahead_11 : decode cX12_ahead 11 = .ok (.bipush 10, 2) := by decide +kernel
theorem dX12_ahead_13 : decode cX12_ahead 13 = .ok (.if_icmp .ge 18, 3) := by decide +kernel
theorem dX12_ahead_16 : decode cX12_ahead 16 = .ok (.iload_n 3, 1) := by decide +kernel
theorem dX12_ahead_17 : decode cX12_ahead 17 = .ok (.iconst 5, 1) := by decide +kernel
theorem dX12_ahead_18 : decode cX12_ahead 18 = .ok (.idiv, 1) := by decide +kernel
theorem dX12_ahead_19 : decode cX12_ahead 19 = .ok (.iload_n 1, 1) := by decide +kernel
theorem dX12_ahead_20 : decode cX12_ahead 20 = .ok (.if_icmp .ge 7, 3) := by decide +kernel
theorem dX12_ahead_23 : decode cX12_ahead 23 = .ok (.iconst 1, 1) := by decide +kernel
theorem dX12_ahead_24 : decode cX12_ahead 24 = .ok (.goto 22, 3) := by decide +kernel
theorem dX12_ahead_27 : decode cX12_ahead 27 = .ok (.iconst 0, 1) := by decide +kernel
theorem dX12_ahead_28 : decode cX12_ahead 28 = .ok (.goto 18, 3) := by decide +kernel
theorem dX12_ahead_31 : decode cX12_ahead 31 = .ok (.iload_n 3, 1) := by decide +kernel
theorem dX12_ahead_32 : decode cX12_ahead 32 = .ok (.iconst 5, 1) := by decide +kernel
theorem dX12_ahead_33 : decode cX12_ahead 33 = .ok (.irem, 1) := by decide +kernel
theorem dX12_ahead_34 : decode cX12_ahead 34 = .ok (.iload_n 1, 1) := by decide +kernel
theorem dX12_ahead_35 : decode cX12_ahead 35 = .ok (.bipush 10, 2) := by decide +kernel
theorem dX12_ahead_37 : decode cX12_ahead 37 = .ok (.isub, 1) := by decide +kernel
theorem dX12_ahead_38 : decode cX12_ahead 38 = .ok (.if_icmp .ge 7, 3) := by decide +kernel
theorem dX12_ahead_41 : decode cX12_ahead 41 = .ok (.iconst 1, 1) := by decide +kernel
theorem dX12_ahead_42 : decode cX12_ahead 42 = .ok (.goto 4, 3) := by decide +kernel
theorem dX12_ahead_45 : decode cX12_ahead 45 = .ok (.iconst 0, 1) := by decide +kernel
theorem dX12_ahead_46 : decode cX12_ahead 46 = .ok (.istore 4, 2) := by decide +kernel
theorem dX12_ahead_48 : decode cX12_ahead 48 = .ok (.iload_n 2, 1) := by decide +kernel
theorem dX12_ahead_49 : decode cX12_ahead 49 = .ok (.iload_n 0, 1) := by decide +kernel
theorem dX12_ahead_50 : decode cX12_ahead 50 = .ok (.iload_n 3, 1) := by decide +kernel
theorem dX12_ahead_51 : decode cX12_ahead 51 = .ok (.invokestatic 193, 3) := by decide +kernel
theorem dX12_ahead_54 : decode cX12_ahead 54 = .ok (.ifCond .eq 12, 3) := by decide +kernel
theorem dX12_ahead_57 : decode cX12_ahead 57 = .ok (.iload 4, 2) := by decide +kernel
theorem dX12_ahead_59 : decode cX12_ahead 59 = .ok (.ifCond .eq 7, 3) := by decide +kernel
theorem dX12_ahead_62 : decode cX12_ahead 62 = .ok (.iconst 1, 1) := by decide +kernel
theorem dX12_ahead_63 : decode cX12_ahead 63 = .ok (.goto 4, 3) := by decide +kernel
theorem dX12_ahead_66 : decode cX12_ahead 66 = .ok (.iconst 0, 1) := by decide +kernel
theorem dX12_ahead_67 : decode cX12_ahead 67 = .ok (.iadd, 1) := by decide +kernel
theorem dX12_ahead_68 : decode cX12_ahead 68 = .ok (.istore_n 2, 1) := by decide +kernel
theorem dX12_ahead_69 : decode cX12_ahead 69 = .ok (.iinc 3 1, 3) := by decide +kernel
theorem dX12_ahead_72 : decode cX12_ahead 72 = .ok (.goto (-68), 3) := by decide +kernel
theorem dX12_ahead_75 : decode cX12_ahead 75 = .ok (.iload_n 2, 1) := by decide +kernel
theorem dX12_ahead_76 : decode cX12_ahead 76 = .ok (.ireturn, 1) := by decide +kernel
theorem w_X12_ahead_46 {l : Launch} {D : zDD} {b : Nat} {γ : zGm} (x0 x1 x2 x3 y0 : Int32) (σ : zSg) (τ : zLm) {Q : Int32 → zSg → zLm → Prop} (h : SI l D b M_X12_has 0 γ [.int x0, .int x3] σ τ (fun r1 σ1 τ1 => (r1 = 0 → AI l D b M_X12_ahead 1 γ Q 4 [(0, .int x0), (1, .int x1), (2, .int (x2 + 0)), (3, .int (x3 + 1))] [] γ σ1 τ1) ∧ (¬ r1 = 0 → ((y0 = 0 → AI l D b M_X12_ahead 1 γ Q 4 [(0, .int x0), (1, .int x1), (2, .int (x2 + 0)), (3, .int (x3 + 1))] [] γ σ1 τ1) ∧ (¬ y0 = 0 → AI l D b M_X12_ahead 1 γ Q 4 [(0, .int x0), (1, .int x1), (2, .int (x2 + 1)), (3, .int (x3 + 1))] [] γ σ1 τ1))))) : AI l D b M_X12_ahead 1 γ Q 46 [(0, .int x0), (1, .int x1), (2, .int x2), (3, .int x3)] [.int y0] γ σ τ := by
  refine r_istore dX12_ahead_46 (by decide) rfl ?_
  refine r_iload_n 3 dX12_ahead_48 rfl rfl ?_
  refine r_iload_n 1 dX12_ahead_49 rfl rfl ?_
  refine r_iload_n 4 dX12_ahead_50 rfl rfl ?_
  refine rc_SI (h' := 0) [.int x0, .int x3] oks_X12_has tw_1016 rfl rfl (Nat.le_of_ble_eq_true rfl) dX12_ahead_51 (by decide) h (fun r1 σ1 τ1 h => ?_)
  refine r_if_eq (tgt := 66) dX12_ahead_54 (by decide) (fun c2 => ?_) (fun c2 => ?_)
  · replace h := h.1 c2
    refine r_iconst dX12_ahead_66 ci_0 ?_
    refine r_iadd dX12_ahead_67 ?_
    refine r_istore_n dX12_ahead_68 rfl (by decide) rfl ?_
    refine r_inc 4 dX12_ahead_69 rfl ci_1 (by decide) rfl ?_
    refine r_goto (tgt := 4) dX12_ahead_72 (by decide) ?_
    refine r_lv [3, 4, 1, 0] rfl ?_
    exact h
  · replace h := h.2 c2
    refine r_iload 0 dX12_ahead_57 rfl ?_
    refine r_if_eq (tgt := 66) dX12_ahead_59 (by decide) (fun c3 => ?_) (fun c3 => ?_)
    · replace h := h.1 c3
      refine r_iconst dX12_ahead_66 ci_0 ?_
      refine r_iadd dX12_ahead_67 ?_
      refine r_istore_n dX12_ahead_68 rfl (by decide) rfl ?_
      refine r_inc 4 dX12_ahead_69 rfl ci_1 (by decide) rfl ?_
      refine r_goto (tgt := 4) dX12_ahead_72 (by decide) ?_
      refine r_lv [3, 4, 1, 0] rfl ?_
      exact h
    · replace h := h.2 c3
      refine r_iconst dX12_ahead_62 ci_1 ?_
      refine r_goto (tgt := 67) dX12_ahead_63 (by decide) ?_
      refine r_iadd dX12_ahead_67 ?_
      refine r_istore_n dX12_ahead_68 rfl (by decide) rfl ?_
      refine r_inc 4 dX12_ahead_69 rfl ci_1 (by decide) rfl ?_
      refine r_goto (tgt := 4) dX12_ahead_72 (by decide) ?_
      refine r_lv [3, 4, 1, 0] rfl ?_
      exact h

theorem w_X12_ahead_4 {l : Launch} {D : zDD} {b : Nat} {γ : zGm} (x0 x1 x2 x3 : Int32) (σ : zSg) (τ : zLm) {Q : Int32 → zSg → zLm → Prop} (h : (25 ≤ x3 → Q x2 σ τ) ∧ (¬ 25 ≤ x3 → ((10 ≤ x1 → (((x1 - 10) ≤ (x3 - x3 / 5 * 5) → AI l D b M_X12_ahead 1 γ Q 46 [(0, .int x0), (1, .int x1), (2, .int x2), (3, .int x3)] [.int 0] γ σ τ) ∧ (¬ (x1 - 10) ≤ (x3 - x3 / 5 * 5) → AI l D b M_X12_ahead 1 γ Q 46 [(0, .int x0), (1, .int x1), (2, .int x2), (3, .int x3)] [.int 1] γ σ τ))) ∧ (¬ 10 ≤ x1 → ((x1 ≤ (x3 / 5) → AI l D b M_X12_ahead 1 γ Q 46 [(0, .int x0), (1, .int x1), (2, .int x2), (3, .int x3)] [.int 0] γ σ τ) ∧ (¬ x1 ≤ (x3 / 5) → AI l D b M_X12_ahead 1 γ Q 46 [(0, .int x0), (1, .int x1), (2, .int x2), (3, .int x3)] [.int 1] γ σ τ)))))) : AI l D b M_X12_ahead 1 γ Q 4 [(0, .int x0), (1, .int x1), (2, .int x2), (3, .int x3)] [] γ σ τ := by
  refine r_iload_n 3 dX12_ahead_4 rfl rfl ?_
  refine r_bipush dX12_ahead_5 cb_25 ?_
  refine r_icmp_ge (tgt := 75) dX12_ahead_7 (by decide) (fun c1 => ?_) (fun c1 => ?_)
  · replace h := h.1 c1
    refine r_iload_n 2 dX12_ahead_75 rfl rfl ?_
    exact r_iret rfl (Nat.le_refl _) (Nat.le_refl _) dX12_ahead_76 ⟨rfl, rfl, rfl, _, rfl, h⟩
  · replace h := h.2 c1
    refine r_iload_n 1 dX12_ahead_10 rfl rfl ?_
    refine r_bipush dX12_ahead_11 cb_10 ?_
    refine r_icmp_ge (tgt := 31) dX12_ahead_13 (by decide) (fun c2 => ?_) (fun c2 => ?_)
    · replace h := h.1 c2
      refine r_iload_n 3 dX12_ahead_31 rfl rfl ?_
      refine r_iconst dX12_ahead_32 ci_5 ?_
      refine r_irem dX12_ahead_33 (by decide) ?_
      refine r_iload_n 1 dX12_ahead_34 rfl rfl ?_
      refine r_bipush dX12_ahead_35 cb_10 ?_
      refine r_isub dX12_ahead_37 ?_
      refine r_icmp_ge (tgt := 45) dX12_ahead_38 (by decide) (fun c3 => ?_) (fun c3 => ?_)
      · replace h := h.1 c3
        refine r_iconst dX12_ahead_45 ci_0 ?_
        exact h
      · replace h := h.2 c3
        refine r_iconst dX12_ahead_41 ci_1 ?_
        refine r_goto (tgt := 46) dX12_ahead_42 (by decide) ?_
        exact h
    · replace h := h.2 c2
      refine r_iload_n 3 dX12_ahead_16 rfl rfl ?_
      refine r_iconst dX12_ahead_17 ci_5 ?_
      refine r_idiv dX12_ahead_18 (by decide) ?_
      refine r_iload_n 1 dX12_ahead_19 rfl rfl ?_
      refine r_icmp_ge (tgt := 27) dX12_ahead_20 (by decide) (fun c4 => ?_) (fun c4 => ?_)
      · replace h := h.1 c4
        refine r_iconst dX12_ahead_27 ci_0 ?_
        refine r_goto (tgt := 46) dX12_ahead_28 (by decide) ?_
        exact h
      · replace h := h.2 c4
        refine r_iconst dX12_ahead_23 ci_1 ?_
        refine r_goto (tgt := 46) dX12_ahead_24 (by decide) ?_
        exact h

theorem w_X12_ahead_0 {l : Launch} {D : zDD} {b : Nat} {γ : zGm} (p1 p2 : Int32) (σ : zSg) (τ : zLm) {Q : Int32 → zSg → zLm → Prop} (h : AI l D b M_X12_ahead 1 γ Q 4 [(0, .int p1), (1, .int p2), (2, .int 0), (3, .int 0)] [] γ σ τ) : AI l D b M_X12_ahead 1 γ Q 0 [(0, .int p1), (1, .int p2)] [] γ σ τ := by
  refine r_iconst dX12_ahead_0 ci_0 ?_
  refine r_istore_n dX12_ahead_1 rfl (by decide) rfl ?_
  refine r_iconst dX12_ahead_2 ci_0 ?_
  refine r_istore_n dX12_ahead_3 rfl (by decide) rfl ?_
  refine r_lv [2, 3, 1, 0] rfl ?_
  exact h
theorem s_X12_ahead {l : Launch} {D : zDD} {b : Nat} {γ : zGm} (p1 p2 : Int32) (σ : zSg) (τ : zLm) {Q : Int32 → zSg → zLm → Prop} (h : AI l D b M_X12_ahead 1 γ Q 4 [(0, .int p1), (1, .int p2), (2, .int 0), (3, .int 0)] [] γ σ τ) : SI l D b M_X12_ahead 1 γ [.int p1, .int p2] σ τ Q := zS.of (by decide) (Nat.le_of_ble_eq_true rfl) rfl (w_X12_ahead_0 p1 p2 σ τ h)

theorem dX12_mild_0 : decode cX12_mild 0 = .ok (.iload_n 1, 1) := by decide +kernel
theorem dX12_mild_1 : decode cX12_mild 1 = .ok (.iconst 0, 1) := by decide +kernel
theorem dX12_mild_2 : decode cX12_mild 2 = .ok (.bipush 60, 2) := by decide +kernel
theorem dX12_mild_4 : decode cX12_mild 4 = .ok (.invokestatic 70, 3) := by decide +kernel
theorem dX12_mild_7 : decode cX12_mild 7 = .ok (.ifCond .eq 13, 3) := by decide +kernel
theorem dX12_mild_10 : decode cX12_mild 10 = .ok (.iload_n 2, 1) := by decide +kernel
theorem dX12_mild_11 : decode cX12_mild 11 = .ok (.iconst 0, 1) := by decide +kernel
theorem dX12_mild_12 : decode cX12_mild 12 = .ok (.bipush 100, 2) := by decide +kernel
theorem dX12_mild_14 : decode cX12_mild 14 = .ok (.invokestatic 70, 3) := by decide +kernel
theorem dX12_mild_17 : decode cX12_mild 17 = .ok (.ifCond .ne 6, 3) := by decide +kernel
theorem dX12_mild_20 : decode cX12_mild 20 = .ok (.ldc 74, 2) := by decide +kernel
theorem dX12_mild_22 : decode cX12_mild 22 = .ok (.ireturn, 1) := by decide +kernel
theorem dX12_mild_23 : decode cX12_mild 23 = .ok (.ldc2_w 313, 3) := by decide +kernel
theorem dX12_mild_26 : decode cX12_mild 26 = .ok (.lstore_n 3, 1) := by decide +kernel
theorem dX12_mild_27 : decode cX12_mild 27 = .ok (.iconst 0, 1) := by decide +kernel
theorem dX12_mild_28 : decode cX12_mild 28 = .ok (.istore 5, 2) := by decide +kernel
theorem dX12_mild_30 : decode cX12_mild 30 = .ok (.iload 5, 2) := by decide +kernel
theorem dX12_mild_32 : decode cX12_mild 32 = .ok (.iload_n 1, 1) := by decide +kernel
theorem dX12_mild_33 : decode cX12_mild 33 = .ok (.if_icmp .ge 18, 3) := by decide +kernel
theorem dX12_mild_36 : decode cX12_mild 36 = .ok (.lload_n 3, 1) := by decide +kernel
theorem dX12_mild_37 : decode cX12_mild 37 = .ok (.iload_n 2, 1) := by decide +kernel
theorem dX12_mild_38 : decode cX12_mild 38 = .ok (.i2l, 1) := by decide +kernel
theorem dX12_mild_39 : decode cX12_mild 39 = .ok (.lmul, 1) := by decide +kernel
theorem dX12_mild_40 : decode cX12_mild 40 = .ok (.ldc2_w 315, 3) := by decide +kernel
theorem dX12_mild_43 : decode cX12_mild 43 = .ok (.ldiv, 1) := by decide +kernel
theorem dX12_mild_44 : decode cX12_mild 44 = .ok (.lstore_n 3, 1) := by decide +kernel
theorem dX12_mild_45 : decode cX12_mild 45 = .ok (.iinc 5 1, 3) := by decide +kernel
theorem dX12_mild_48 : decode cX12_mild 48 = .ok (.goto (-18), 3) := by decide +kernel
theorem dX12_mild_51 : decode cX12_mild 51 = .ok (.lload_n 3, 1) := by decide +kernel
theorem dX12_mild_52 : decode cX12_mild 52 = .ok (.l2i, 1) := by decide +kernel
theorem dX12_mild_53 : decode cX12_mild 53 = .ok (.ireturn, 1) := by decide +kernel
theorem w_X12_mild_30 {l : Launch} {D : zDD} {b : Nat} (x1 x2 x5 : Int32) (z3 : Int64) (σ : zSg) (τ : zLm) {Q : Int32 → zSg → zLm → Prop} (h : (x1 ≤ x5 → Q z3.toInt32 σ τ) ∧ (¬ x1 ≤ x5 → AI l D b M_X12_mild 1 G0 Q 30 [(1, .int x1), (2, .int x2), (3, .long ((z3 * x2.toInt64) / 100)), (5, .int (x5 + 1))] [] G0 σ τ)) : AI l D b M_X12_mild 1 G0 Q 30 [(1, .int x1), (2, .int x2), (3, .long z3), (5, .int x5)] [] G0 σ τ := by
  refine r_iload 3 dX12_mild_30 rfl ?_
  refine r_iload_n 0 dX12_mild_32 rfl rfl ?_
  refine r_icmp_ge (tgt := 51) dX12_mild_33 (by decide) (fun c1 => ?_) (fun c1 => ?_)
  · replace h := h.1 c1
    refine r_lload_n 2 dX12_mild_51 rfl rfl ?_
    refine r_l2i dX12_mild_52 ?_
    exact r_iret rfl (Nat.le_refl _) (Nat.le_refl _) dX12_mild_53 ⟨rfl, rfl, rfl, _, rfl, h⟩
  · replace h := h.2 c1
    refine r_lload_n 2 dX12_mild_36 rfl rfl ?_
    refine r_iload_n 1 dX12_mild_37 rfl rfl ?_
    refine r_i2l dX12_mild_38 ?_
    refine r_lmul dX12_mild_39 ?_
    refine r_ldc2 (v := 100) rfl tw_1229 rfl dX12_mild_40 ?_
    refine r_ldiv dX12_mild_43 (by decide) ?_
    refine r_lstore_n dX12_mild_44 rfl (by decide) rfl ?_
    refine r_inc 3 dX12_mild_45 rfl ci_1 (by decide) rfl ?_
    refine r_goto (tgt := 30) dX12_mild_48 (by decide) ?_
    refine r_lv [2, 3, 1, 0] rfl ?_
    exact h

theorem w_X12_mild_0 {l : Launch} {D : zDD} {b : Nat} (p1 p2 : Int32) (σ : zSg) (τ : zLm) {Q : Int32 → zSg → zLm → Prop} (h : SI l D b M_X12_in 0 G0 [.int p1, .int 0, .int 60] σ τ (fun r1 σ1 τ1 => (r1 = 0 → Q (-1000000002) σ1 τ1) ∧ (¬ r1 = 0 → (SI l D b M_X12_in 0 G0 [.int p2, .int 0, .int 100] σ1 τ1 (fun r3 σ3 τ3 => (¬ r3 = 0 → AI l D b M_X12_mild 1 G0 Q 30 [(1, .int p1), (2, .int p2), (3, .long 1000000000), (5, .int 0)] [] G0 σ3 τ3) ∧ (r3 = 0 → Q (-1000000002) σ3 τ3)))))) : AI l D b M_X12_mild 1 G0 Q 0 [(0, .ref (b + 125)), (1, .int p1), (2, .int p2)] [] G0 σ τ := by
  refine r_iload_n 1 dX12_mild_0 rfl rfl ?_
  refine r_iconst dX12_mild_1 ci_0 ?_
  refine r_bipush dX12_mild_2 cb_60 ?_
  refine rc_SI (h' := 0) [.int p1, .int 0, .int 60] oks_X12_in tw_924 rfl rfl (Nat.le_of_ble_eq_true rfl) dX12_mild_4 (by decide) h (fun r1 σ1 τ1 h => ?_)
  refine r_if_eq (tgt := 20) dX12_mild_7 (by decide) (fun c2 => ?_) (fun c2 => ?_)
  · replace h := h.1 c2
    refine r_ldc (v := (-1000000002)) rfl tw_927 rfl dX12_mild_20 ?_
    exact r_iret rfl (Nat.le_refl _) (Nat.le_refl _) dX12_mild_22 ⟨rfl, rfl, rfl, _, rfl, h⟩
  · replace h := h.2 c2
    refine r_iload_n 2 dX12_mild_10 rfl rfl ?_
    refine r_iconst dX12_mild_11 ci_0 ?_
    refine r_bipush dX12_mild_12 cb_100 ?_
    refine rc_SI (h' := 0) [.int p2, .int 0, .int 100] oks_X12_in tw_924 rfl rfl (Nat.le_of_ble_eq_true rfl) dX12_mild_14 (by decide) h (fun r3 σ3 τ3 h => ?_)
    refine r_if_ne (tgt := 23) dX12_mild_17 (by decide) (fun c4 => ?_) (fun c4 => ?_)
    · replace h := h.1 c4
      refine r_ldc2 (v := 1000000000) rfl tw_1228 rfl dX12_mild_23 ?_
      refine r_lstore_n dX12_mild_26 rfl (by decide) rfl ?_
      refine r_iconst dX12_mild_27 ci_0 ?_
      refine r_istore dX12_mild_28 (by decide) rfl ?_
      refine r_lv [3, 4, 1, 0] rfl ?_
      exact h
    · replace h := h.2 c4
      refine r_ldc (v := (-1000000002)) rfl tw_927 rfl dX12_mild_20 ?_
      exact r_iret rfl (Nat.le_refl _) (Nat.le_refl _) dX12_mild_22 ⟨rfl, rfl, rfl, _, rfl, h⟩
theorem s_X12_mild {l : Launch} {D : zDD} {b : Nat} (p1 p2 : Int32) (σ : zSg) (τ : zLm) {Q : Int32 → zSg → zLm → Prop} (h : SI l D b M_X12_in 0 G0 [.int p1, .int 0, .int 60] σ τ (fun r1 σ1 τ1 => (r1 = 0 → Q (-1000000002) σ1 τ1) ∧ (¬ r1 = 0 → (SI l D b M_X12_in 0 G0 [.int p2, .int 0, .int 100] σ1 τ1 (fun r3 σ3 τ3 => (¬ r3 = 0 → AI l D b M_X12_mild 1 G0 Q 30 [(1, .int p1), (2, .int p2), (3, .long 1000000000), (5, .int 0)] [] G0 σ3 τ3) ∧ (r3 = 0 → Q (-1000000002) σ3 τ3)))))) : SI l D b M_X12_mild 1 G0 [.ref (b + 125), .int p1, .int p2] σ τ Q := zS.of (by decide) (Nat.le_of_ble_eq_true rfl) rfl (w_X12_mild_0 p1 p2 σ τ h)

theorem dX12_bump_0 : decode cX12_bump 0 = .ok (.iload_n 1, 1) := by decide +kernel
theorem dX12_bump_1 : decode cX12_bump 1 = .ok (.iconst 0, 1) := by decide +kernel
theorem dX12_bump_2 : decode cX12_bump 2 = .ok (.bipush 24, 2) := by decide +kernel
theorem dX12_bump_4 : decode cX12_bump 4 = .ok (.invokestatic 70, 3) := by decide +kernel
theorem dX12_bump_7 : decode cX12_bump 7 = .ok (.ifCond .ne 6, 3) := by decide +kernel
theorem dX12_bump_10 : decode cX12_bump 10 = .ok (.ldc 74, 2) := by decide +kernel
theorem dX12_bump_12 : decode cX12_bump 12 = .ok (.ireturn, 1) := by decide +kernel
theorem dX12_bump_13 : decode cX12_bump 13 = .ok (.aload_n 0, 1) := by decide +kernel
theorem dX12_bump_14 : decode cX12_bump 14 = .ok (.getfield 150, 3) := by decide +kernel
theorem dX12_bump_17 : decode cX12_bump 17 = .ok (.bipush 6, 2) := by decide +kernel
theorem dX12_bump_19 : decode cX12_bump 19 = .ok (.if_icmp .ne 6, 3) := by decide +kernel
theorem dX12_bump_22 : decode cX12_bump 22 = .ok (.ldc 78, 2) := by decide +kernel
theorem dX12_bump_24 : decode cX12_bump 24 = .ok (.ireturn, 1) := by decide +kernel
theorem dX12_bump_25 : decode cX12_bump 25 = .ok (.aload_n 0, 1) := by decide +kernel
theorem dX12_bump_26 : decode cX12_bump 26 = .ok (.getfield 44, 3) := by decide +kernel
theorem dX12_bump_29 : decode cX12_bump 29 = .ok (.aload_n 0, 1) := by decide +kernel
theorem dX12_bump_30 : decode cX12_bump 30 = .ok (.getfield 150, 3) := by decide +kernel
theorem dX12_bump_33 : decode cX12_bump 33 = .ok (.iload_n 1, 1) := by decide +kernel
theorem dX12_bump_34 : decode cX12_bump 34 = .ok (.iastore, 1) := by decide +kernel
theorem dX12_bump_35 : decode cX12_bump 35 = .ok (.aload_n 0, 1) := by decide +kernel
theorem dX12_bump_36 : decode cX12_bump 36 = .ok (.getfield 47, 3) := by decide +kernel
theorem dX12_bump_39 : decode cX12_bump 39 = .ok (.aload_n 0, 1) := by decide +kernel
theorem dX12_bump_40 : decode cX12_bump 40 = .ok (.getfield 150, 3) := by decide +kernel
theorem dX12_bump_43 : decode cX12_bump 43 = .ok (.iload_n 2, 1) := by decide +kernel
theorem dX12_bump_44 : decode cX12_bump 44 = .ok (.bastore, 1) := by decide +kernel
theorem dX12_bump_45 : decode cX12_bump 45 = .ok (.aload_n 0, 1) := by decide +kernel
theorem dX12_bump_46 : decode cX12_bump 46 = .ok (.dup, 1) := by decide +kernel
theorem dX12_bump_47 : decode cX12_bump 47 = .ok (.getfield 150, 3) := by decide +kernel
theorem dX12_bump_50 : decode cX12_bump 50 = .ok (.iconst 1, 1) := by decide +kernel
theorem dX12_bump_51 : decode cX12_bump 51 = .ok (.iadd, 1) := by decide +kernel
theorem dX12_bump_52 : decode cX12_bump 52 = .ok (.putfield 150, 3) := by decide +kernel
theorem dX12_bump_55 : decode cX12_bump 55 = .ok (.aload_n 0, 1) := by decide +kernel
theorem dX12_bump_56 : decode cX12_bump 56 = .ok (.getfield 150, 3) := by decide +kernel
theorem dX12_bump_59 : decode cX12_bump 59 = .ok (.ireturn, 1) := by decide +kernel
theorem w_X12_bump_0 {l : Launch} {D : zDD} {b : Nat} (p1 p2 : Int32) (σ : zSg) (τ : zLm) {Q : Int32 → zSg → zLm → Prop} (h : SI l D b M_X12_in 0 G0 [.int p1, .int 0, .int 24] σ τ (fun r1 σ1 τ1 => (¬ r1 = 0 → ((¬ (σ1 125 26) = 6 → (vp_in (σ1 125 26) 6 ∧ (vp_in ((st2 σ1 136 ((σ1 125 26).toNatClampNeg) p1) 125 26) 6 ∧ (∀ σ4 : zSg, σ4 = st2 (st2 σ1 136 ((σ1 125 26).toNatClampNeg) p1) 137 (((st2 σ1 136 ((σ1 125 26).toNatClampNeg) p1) 125 26).toNatClampNeg) (vp_nar .boolean p2) → Q ((st2 σ4 125 26 ((σ4 125 26) + 1)) 125 26) (st2 σ4 125 26 ((σ4 125 26) + 1)) τ1)))) ∧ ((σ1 125 26) = 6 → Q (-1000000004) σ1 τ1))) ∧ (r1 = 0 → Q (-1000000002) σ1 τ1))) : AI l D b M_X12_bump 1 G0 Q 0 [(0, .ref (b + 125)), (1, .int p1), (2, .int p2)] [] G0 σ τ := by
  refine r_iload_n 1 dX12_bump_0 rfl rfl ?_
  refine r_iconst dX12_bump_1 ci_0 ?_
  refine r_bipush dX12_bump_2 cb_24 ?_
  refine rc_SI (h' := 0) [.int p1, .int 0, .int 24] oks_X12_in tw_924 rfl rfl (Nat.le_of_ble_eq_true rfl) dX12_bump_4 (by decide) h (fun r1 σ1 τ1 h => ?_)
  refine r_if_ne (tgt := 13) dX12_bump_7 (by decide) (fun c2 => ?_) (fun c2 => ?_)
  · replace h := h.1 c2
    refine r_aload_n 0 dX12_bump_13 rfl rfl ?_
    refine r_getI (j := 26) (by decide) (congrArg Prod.fst k0_125) c12_11 (by decide) rfl tw_836 dX12_bump_14 ?_
    refine r_bipush dX12_bump_17 cb_6 ?_
    refine r_icmp_ne (tgt := 25) dX12_bump_19 (by decide) (fun c3 => ?_) (fun c3 => ?_)
    · replace h := h.1 c3
      refine r_aload_n 0 dX12_bump_25 rfl rfl ?_
      refine r_getR (j := 27) (by decide) (congrArg Prod.fst k0_125) c12_11 (by decide) rfl g0_125_27 tw_837 dX12_bump_26 ?_
      refine r_aload_n 0 dX12_bump_29 rfl rfl ?_
      refine r_getI (j := 26) (by decide) (congrArg Prod.fst k0_125) c12_11 (by decide) rfl tw_836 dX12_bump_30 ?_
      refine r_iload_n 1 dX12_bump_33 rfl rfl ?_
      refine r_iast (by decide) k0_136 dX12_bump_34 h.1 ?_
      replace h := h.2
      refine r_aload_n 0 dX12_bump_35 rfl rfl ?_
      refine r_getR (j := 28) (by decide) (congrArg Prod.fst k0_125) c12_11 (by decide) rfl g0_125_28 tw_838 dX12_bump_36 ?_
      refine r_aload_n 0 dX12_bump_39 rfl rfl ?_
      refine r_getI (j := 26) (by decide) (congrArg Prod.fst k0_125) c12_11 (by decide) rfl tw_836 dX12_bump_40 ?_
      refine r_iload_n 2 dX12_bump_43 rfl rfl ?_
      refine r_zast (by decide) k0_137 dX12_bump_44 h.1 ?_
      replace h := h.2
      refine r_nmS (fun σ4 eσ4 => ?_)
      replace h := h σ4 eσ4
      refine r_aload_n 0 dX12_bump_45 rfl rfl ?_
      refine r_dup dX12_bump_46 rfl ?_
      refine r_getI (j := 26) (by decide) (congrArg Prod.fst k0_125) c12_11 (by decide) rfl tw_836 dX12_bump_47 ?_
      refine r_iconst dX12_bump_50 ci_1 ?_
      refine r_iadd dX12_bump_51 ?_
      refine r_putI (j := 26) (by decide) (congrArg Prod.fst k0_125) c12_11 (by decide) rfl (Or.inl rfl) tw_836 dX12_bump_52 ?_
      refine r_aload_n 0 dX12_bump_55 rfl rfl ?_
      refine r_getI (j := 26) (by decide) (congrArg Prod.fst k0_125) c12_11 (by decide) rfl tw_836 dX12_bump_56 ?_
      exact r_iret rfl (Nat.le_refl _) (Nat.le_refl _) dX12_bump_59 ⟨rfl, rfl, rfl, _, rfl, h⟩
    · replace h := h.2 c3
      refine r_ldc (v := (-1000000004)) rfl tw_928 rfl dX12_bump_22 ?_
      exact r_iret rfl (Nat.le_refl _) (Nat.le_refl _) dX12_bump_24 ⟨rfl, rfl, rfl, _, rfl, h⟩
  · replace h := h.2 c2
    refine r_ldc (v := (-1000000002)) rfl tw_927 rfl dX12_bump_10 ?_
    exact r_iret rfl (Nat.le_refl _) (Nat.le_refl _) dX12_bump_12 ⟨rfl, rfl, rfl, _, rfl, h⟩
theorem s_X12_bump {l : Launch} {D : zDD} {b : Nat} (p1 p2 : Int32) (σ : zSg) (τ : zLm) {Q : Int32 → zSg → zLm → Prop} (h : SI l D b M_X12_in 0 G0 [.int p1, .int 0, .int 24] σ τ (fun r1 σ1 τ1 => (¬ r1 = 0 → ((¬ (σ1 125 26) = 6 → (vp_in (σ1 125 26) 6 ∧ (vp_in ((st2 σ1 136 ((σ1 125 26).toNatClampNeg) p1) 125 26) 6 ∧ (∀ σ4 : zSg, σ4 = st2 (st2 σ1 136 ((σ1 125 26).toNatClampNeg) p1) 137 (((st2 σ1 136 ((σ1 125 26).toNatClampNeg) p1) 125 26).toNatClampNeg) (vp_nar .boolean p2) → Q ((st2 σ4 125 26 ((σ4 125 26) + 1)) 125 26) (st2 σ4 125 26 ((σ4 125 26) + 1)) τ1)))) ∧ ((σ1 125 26) = 6 → Q (-1000000004) σ1 τ1))) ∧ (r1 = 0 → Q (-1000000002) σ1 τ1))) : SI l D b M_X12_bump 1 G0 [.ref (b + 125), .int p1, .int p2] σ τ Q := zS.of (by decide) (Nat.le_of_ble_eq_true rfl) rfl (w_X12_bump_0 p1 p2 σ τ h)

theorem dX12_moved_0 : decode cX12_moved 0 = .ok (.iconst 0, 1) := by decide +kernel
theorem dX12_moved_1 : decode cX12_moved 1 = .ok (.istore_n 3, 1) := by decide +kernel
theorem dX12_moved_2 : decode cX12_moved 2 = .ok (.iconst 1, 1) := by decide +kernel
theorem dX12_moved_3 : decode cX12_moved 3 = .ok (.istore 4, 2) := by decide +kernel
theorem dX12_moved_5 : decode cX12_moved 5 = .ok (.iconst 0, 1) := by decide +kernel
theorem dX12_moved_6 : decode cX12_moved 6 = .ok (.istore 5, 2) := by decide +kernel
theorem dX12_moved_8 : decode cX12_moved 8 = .ok (.iload 5, 2) := by decide +kernel
theorem dX12_moved_10 : decode cX12_moved 10 = .ok (.bipush 25, 2) := by decide +kernel
theorem dX12_moved_12 : decode cX12_moved 12 = .ok (.if_icmp .ge 79, 3) := by decide +kernel
theorem dX12_moved_15 : decode cX12_moved 15 = .ok (.iload_n 0, 1) := by decide +kernel
theorem dX12_moved_16 : decode cX12_moved 16 = .ok (.iload 5, 2) := by decide +kernel
theorem dX12_moved_18 : decode cX12_moved 18 = .ok (.invokestatic 193, 3) := by decide +kernel
theorem dX12_moved_21 : decode cX12_moved 21 = .ok (.ifCond .eq 64, 3) := by decide +kernel
theorem dX12_moved_24 : decode cX12_moved 24 = .ok (.iload 5, 2) := by decide +kernel
theorem dX12_moved_26 : decode cX12_moved 26 = .ok (.iconst 5, 1) := by decide +kernel
theorem dX12_moved_27 : decode cX12_moved 27 = .ok (.idiv, 1) := by decide +kernel
theorem dX12_moved_28 : decode cX12_moved 28 = .ok (.iload_n 1, 1) := by decide +kernel
theorem dX12_moved_29 : decode cX12_moved 29 = .ok (.iadd, 1) := by decide +kernel
theorem dX12_moved_30 : decode cX12_moved 30 = .ok (.istore 6, 2) := by decide +kernel
theorem dX12_moved_32 : decode cX12_moved 32 = .ok (.iload 5, 2) := by decide +kernel
theorem dX12_moved_34 : decode cX12_moved 34 = .ok (.iconst 5, 1) := by decide +kernel
theorem dX12_moved_35 : decode cX12_moved 35 = .ok (.irem, 1) := by decide +kernel
theorem dX12_moved_36 : decode cX12_moved 36 = .ok (.iload_n 2, 1) := by decide +kernel
theorem dX12_moved_37 : decode cX12_moved 37 = .ok (.iadd, 1) := by decide +kernel
theorem dX12_moved_38 : decode cX12_moved 38 = .ok (.istore 7, 2) := by decide +kernel
theorem dX12_moved_40 : decode cX12_moved 40 = .ok (.iload 4, 2) := by decide +kernel
theorem dX12_moved_42 : decode cX12_moved 42 = .ok (.ifCond .eq 19, 3) := by decide +kernel
theorem dX12_moved_45 : decode cX12_moved 45 = .ok (.iload 6, 2) := by decide +kernel
theorem dX12_moved_47 : decode cX12_moved 47 = .ok (.iconst 5, 1) := by decide +kernel
theorem dX12_moved_48 : decode cX12_moved 48 = .ok (.if_icmp .ge 13, 3) := by decide +kernel
theorem dX12_moved_51 : decode cX12_moved 51 = .ok (.iload 7, 2) := by decide +kernel
theorem dX12_moved_53 : decode cX12_moved 53 = .ok (.iconst 5, 1) := by decide +kernel
theorem dX12_moved_54 : decode cX12_moved 54 = .ok (.if_icmp .ge 7, 3) := by decide +kernel
theorem dX12_moved_57 : decode cX12_moved 57 = .ok (.iconst 1, 1) := by decide +kernel
theorem dX12_moved_58 : decode cX12_moved 58 = .ok (.goto 4, 3) := by decide +kernel
theorem dX12_moved_61 : decode cX12_moved 61 = .ok (.iconst 0, 1) := by decide +kernel
theorem dX12_moved_62 : decode cX12_moved 62 = .ok (.istore 4, 2) := by decide +kernel
theorem dX12_moved_64 : decode cX12_moved 64 = .ok (.iload_n 3, 1) := by decide +kernel
theorem dX12_moved_65 : decode cX12_moved 65 = .ok (.iload 4, 2) := by decide +kernel
theorem dX12_moved_67 : decode cX12_moved 67 = .ok (.ifCond .eq 15, 3) := by decide +kernel
theorem dX12_moved_70 : decode cX12_moved 70 = .ok (.iconst 1, 1) := by decide +kernel
theorem dX12_moved_71 : decode cX12_moved 71 = .ok (.iconst 5, 1) := by decide +kernel
theorem dX12_moved_72 : decode cX12_moved 72 = .ok (.iload 6, 2) := by decide +kernel
theorem dX12_moved_74 : decode cX12_moved 74 = .ok (.imul, 1) := by decide +kernel
theorem dX12_moved_75 : decode cX12_moved 75 = .ok (.iload 7, 2) := by decide +kernel
theorem dX12_moved_77 : decode cX12_moved 77 = .ok (.iadd, 1) := by decide +kernel
theorem dX12_moved_78 : decode cX12_moved 78 = .ok (.ishl, 1) := by decide +kernel
theorem dX12_moved_79 : decode cX12_moved 79 = .ok (.goto 4, 3) := by decide +kernel
theorem dX12_moved_82 : decode cX12_moved 82 = .ok (.iconst 0, 1) := by decide +kernel
theorem dX12_moved_83 : decode cX12_moved 83 = .ok (.ior, 1) := by decide +kernel
theorem dX12_moved_84 : decode cX12_moved 84 = .ok (.istore_n 3, 1) := by decide +kernel
theorem dX12_moved_85 : decode cX12_moved 85 = .ok (.iinc 5 1, 3) := by decide +kernel
theorem dX12_moved_88 : decode cX12_moved 88 = .ok (.goto (-80), 3) := by decide +kernel
theorem dX12_moved_91 : decode cX12_moved 91 = .ok (.iload 4, 2) := by decide +kernel
theorem dX12_moved_93 : decode cX12_moved 93 = .ok (.ifCond .eq 7, 3) := by decide +kernel
theorem dX12_moved_96 : decode cX12_moved 96 = .ok (.iload_n 3, 1) := by decide +kernel
theorem dX12_moved_97 : decode cX12_moved 97 = .ok (.goto 4, 3) := by decide +kernel
theorem dX12_moved_100 : decode cX12_moved 100 = .ok (.iconst (-1), 1) := by decide +kernel
theorem dX12_moved_101 : decode cX12_moved 101 = .ok (.ireturn, 1) := by decide +kernel
theorem w_X12_moved_62 {l : Launch} {D : zDD} {b : Nat} {γ : zGm} (x0 x1 x2 x3 x5 x6 x7 y0 : Int32) (σ : zSg) (τ : zLm) {Q : Int32 → zSg → zLm → Prop} (h : (y0 = 0 → AI l D b M_X12_moved 1 γ Q 8 [(0, .int x0), (1, .int x1), (2, .int x2), (3, .int (x3 ||| 0)), (4, .int y0), (5, .int (x5 + 1))] [] γ σ τ) ∧ (¬ y0 = 0 → (∀ v2 : Int32, v2 = x3 ||| ((1 : Int32) <<< (((5 * x6) + x7) &&& 31)) → AI l D b M_X12_moved 1 γ Q 8 [(0, .int x0), (1, .int x1), (2, .int x2), (3, .int v2), (4, .int y0), (5, .int (x5 + 1))] [] γ σ τ))) : AI l D b M_X12_moved 1 γ Q 62 [(0, .int x0), (1, .int x1), (2, .int x2), (3, .int x3), (5, .int x5), (6, .int x6), (7, .int x7)] [.int y0] γ σ τ := by
  refine r_istore dX12_moved_62 (by decide) rfl ?_
  refine r_iload_n 4 dX12_moved_64 rfl rfl ?_
  refine r_iload 0 dX12_moved_65 rfl ?_
  refine r_if_eq (tgt := 82) dX12_moved_67 (by decide) (fun c1 => ?_) (fun c1 => ?_)
  · replace h := h.1 c1
    refine r_iconst dX12_moved_82 ci_0 ?_
    refine r_ior dX12_moved_83 ?_
    refine r_istore_n dX12_moved_84 rfl (by decide) rfl ?_
    refine r_inc 5 dX12_moved_85 rfl ci_1 (by decide) rfl ?_
    refine r_goto (tgt := 8) dX12_moved_88 (by decide) ?_
    refine r_lv [3, 4, 5, 1, 2, 0] rfl ?_
    exact h
  · replace h := h.2 c1
    refine r_iconst dX12_moved_70 ci_1 ?_
    refine r_iconst dX12_moved_71 ci_5 ?_
    refine r_iload 6 dX12_moved_72 rfl ?_
    refine r_imul dX12_moved_74 ?_
    refine r_iload 7 dX12_moved_75 rfl ?_
    refine r_iadd dX12_moved_77 ?_
    refine r_ishl dX12_moved_78 ?_
    refine r_goto (tgt := 83) dX12_moved_79 (by decide) ?_
    refine r_ior dX12_moved_83 ?_
    refine r_nmI (fun v2 ev2 => ?_)
    replace h := h v2 ev2
    refine r_istore_n dX12_moved_84 rfl (by decide) rfl ?_
    refine r_inc 5 dX12_moved_85 rfl ci_1 (by decide) rfl ?_
    refine r_goto (tgt := 8) dX12_moved_88 (by decide) ?_
    refine r_lv [3, 4, 5, 1, 2, 0] rfl ?_
    exact h

theorem w_X12_moved_61 {l : Launch} {D : zDD} {b : Nat} {γ : zGm} (x0 x1 x2 x3 x5 x6 x7 : Int32) (σ : zSg) (τ : zLm) {Q : Int32 → zSg → zLm → Prop} (h : AI l D b M_X12_moved 1 γ Q 62 [(0, .int x0), (1, .int x1), (2, .int x2), (3, .int x3), (5, .int x5), (6, .int x6), (7, .int x7)] [.int 0] γ σ τ) : AI l D b M_X12_moved 1 γ Q 61 [(0, .int x0), (1, .int x1), (2, .int x2), (3, .int x3), (5, .int x5), (6, .int x6), (7, .int x7)] [] γ σ τ := by
  refine r_iconst dX12_moved_61 ci_0 ?_
  exact h

theorem w_X12_moved_8 {l : Launch} {D : zDD} {b : Nat} {γ : zGm} (x0 x1 x2 x3 x4 x5 : Int32) (σ : zSg) (τ : zLm) {Q : Int32 → zSg → zLm → Prop} (h : (25 ≤ x5 → ((x4 = 0 → Q (-1) σ τ) ∧ (¬ x4 = 0 → Q x3 σ τ))) ∧ (¬ 25 ≤ x5 → (SI l D b M_X12_has 0 γ [.int x0, .int x5] σ τ (fun r3 σ3 τ3 => (r3 = 0 → AI l D b M_X12_moved 1 γ Q 8 [(0, .int x0), (1, .int x1), (2, .int x2), (3, .int x3), (4, .int x4), (5, .int (x5 + 1))] [] γ σ3 τ3) ∧ (¬ r3 = 0 → ((x4 = 0 → AI l D b M_X12_moved 1 γ Q 61 [(0, .int x0), (1, .int x1), (2, .int x2), (3, .int x3), (5, .int x5), (6, .int ((x5 / 5) + x1)), (7, .int ((x5 - x5 / 5 * 5) + x2))] [] γ σ3 τ3) ∧ (¬ x4 = 0 → ((5 ≤ ((x5 / 5) + x1) → AI l D b M_X12_moved 1 γ Q 61 [(0, .int x0), (1, .int x1), (2, .int x2), (3, .int x3), (5, .int x5), (6, .int ((x5 / 5) + x1)), (7, .int ((x5 - x5 / 5 * 5) + x2))] [] γ σ3 τ3) ∧ (¬ 5 ≤ ((x5 / 5) + x1) → ((5 ≤ ((x5 - x5 / 5 * 5) + x2) → AI l D b M_X12_moved 1 γ Q 61 [(0, .int x0), (1, .int x1), (2, .int x2), (3, .int x3), (5, .int x5), (6, .int ((x5 / 5) + x1)), (7, .int ((x5 - x5 / 5 * 5) + x2))] [] γ σ3 τ3) ∧ (¬ 5 ≤ ((x5 - x5 / 5 * 5) + x2) → AI l D b M_X12_moved 1 γ Q 62 [(0, .int x0), (1, .int x1), (2, .int x2), (3, .int x3), (5, .int x5), (6, .int ((x5 / 5) + x1)), (7, .int ((x5 - x5 / 5 * 5) + x2))] [.int 1] γ σ3 τ3))))))))))) : AI l D b M_X12_moved 1 γ Q 8 [(0, .int x0), (1, .int x1), (2, .int x2), (3, .int x3), (4, .int x4), (5, .int x5)] [] γ σ τ := by
  refine r_iload 5 dX12_moved_8 rfl ?_
  refine r_bipush dX12_moved_10 cb_25 ?_
  refine r_icmp_ge (tgt := 91) dX12_moved_12 (by decide) (fun c1 => ?_) (fun c1 => ?_)
  · replace h := h.1 c1
    refine r_iload 4 dX12_moved_91 rfl ?_
    refine r_if_eq (tgt := 100) dX12_moved_93 (by decide) (fun c2 => ?_) (fun c2 => ?_)
    · replace h := h.1 c2
      refine r_iconst dX12_moved_100 ci_m1 ?_
      exact r_iret rfl (Nat.le_refl _) (Nat.le_refl _) dX12_moved_101 ⟨rfl, rfl, rfl, _, rfl, h⟩
    · replace h := h.2 c2
      refine r_iload_n 3 dX12_moved_96 rfl rfl ?_
      refine r_goto (tgt := 101) dX12_moved_97 (by decide) ?_
      exact r_iret rfl (Nat.le_refl _) (Nat.le_refl _) dX12_moved_101 ⟨rfl, rfl, rfl, _, rfl, h⟩
  · replace h := h.2 c1
    refine r_iload_n 0 dX12_moved_15 rfl rfl ?_
    refine r_iload 5 dX12_moved_16 rfl ?_
    refine rc_SI (h' := 0) [.int x0, .int x5] oks_X12_has tw_1016 rfl rfl (Nat.le_of_ble_eq_true rfl) dX12_moved_18 (by decide) h (fun r3 σ3 τ3 h => ?_)
    refine r_if_eq (tgt := 85) dX12_moved_21 (by decide) (fun c4 => ?_) (fun c4 => ?_)
    · replace h := h.1 c4
      refine r_inc 5 dX12_moved_85 rfl ci_1 (by decide) rfl ?_
      refine r_goto (tgt := 8) dX12_moved_88 (by decide) ?_
      refine r_lv [1, 2, 3, 4, 5, 0] rfl ?_
      exact h
    · replace h := h.2 c4
      refine r_iload 5 dX12_moved_24 rfl ?_
      refine r_iconst dX12_moved_26 ci_5 ?_
      refine r_idiv dX12_moved_27 (by decide) ?_
      refine r_iload_n 1 dX12_moved_28 rfl rfl ?_
      refine r_iadd dX12_moved_29 ?_
      refine r_istore dX12_moved_30 (by decide) rfl ?_
      refine r_iload 6 dX12_moved_32 rfl ?_
      refine r_iconst dX12_moved_34 ci_5 ?_
      refine r_irem dX12_moved_35 (by decide) ?_
      refine r_iload_n 3 dX12_moved_36 rfl rfl ?_
      refine r_iadd dX12_moved_37 ?_
      refine r_istore dX12_moved_38 (by decide) rfl ?_
      refine r_iload 6 dX12_moved_40 rfl ?_
      refine r_if_eq (tgt := 61) dX12_moved_42 (by decide) (fun c5 => ?_) (fun c5 => ?_)
      · replace h := h.1 c5
        refine r_lv [2, 3, 4, 5, 7, 1, 0] rfl ?_
        exact h
      · replace h := h.2 c5
        refine r_iload 1 dX12_moved_45 rfl ?_
        refine r_iconst dX12_moved_47 ci_5 ?_
        refine r_icmp_ge (tgt := 61) dX12_moved_48 (by decide) (fun c6 => ?_) (fun c6 => ?_)
        · replace h := h.1 c6
          refine r_lv [2, 3, 4, 5, 7, 1, 0] rfl ?_
          exact h
        · replace h := h.2 c6
          refine r_iload 0 dX12_moved_51 rfl ?_
          refine r_iconst dX12_moved_53 ci_5 ?_
          refine r_icmp_ge (tgt := 61) dX12_moved_54 (by decide) (fun c7 => ?_) (fun c7 => ?_)
          · replace h := h.1 c7
            refine r_lv [2, 3, 4, 5, 7, 1, 0] rfl ?_
            exact h
          · replace h := h.2 c7
            refine r_iconst dX12_moved_57 ci_1 ?_
            refine r_goto (tgt := 62) dX12_moved_58 (by decide) ?_
            refine r_lv [2, 3, 4, 5, 7, 1, 0] rfl ?_
            exact h

theorem w_X12_moved_0 {l : Launch} {D : zDD} {b : Nat} {γ : zGm} (p1 p2 p3 : Int32) (σ : zSg) (τ : zLm) {Q : Int32 → zSg → zLm → Prop} (h : AI l D b M_X12_moved 1 γ Q 8 [(0, .int p1), (1, .int p2), (2, .int p3), (3, .int 0), (4, .int 1), (5, .int 0)] [] γ σ τ) : AI l D b M_X12_moved 1 γ Q 0 [(0, .int p1), (1, .int p2), (2, .int p3)] [] γ σ τ := by
  refine r_iconst dX12_moved_0 ci_0 ?_
  refine r_istore_n dX12_moved_1 rfl (by decide) rfl ?_
  refine r_iconst dX12_moved_2 ci_1 ?_
  refine r_istore dX12_moved_3 (by decide) rfl ?_
  refine r_iconst dX12_moved_5 ci_0 ?_
  refine r_istore dX12_moved_6 (by decide) rfl ?_
  refine r_lv [3, 4, 5, 2, 1, 0] rfl ?_
  exact h
theorem s_X12_moved {l : Launch} {D : zDD} {b : Nat} {γ : zGm} (p1 p2 p3 : Int32) (σ : zSg) (τ : zLm) {Q : Int32 → zSg → zLm → Prop} (h : AI l D b M_X12_moved 1 γ Q 8 [(0, .int p1), (1, .int p2), (2, .int p3), (3, .int 0), (4, .int 1), (5, .int 0)] [] γ σ τ) : SI l D b M_X12_moved 1 γ [.int p1, .int p2, .int p3] σ τ Q := zS.of (by decide) (Nat.le_of_ble_eq_true rfl) rfl (w_X12_moved_0 p1 p2 p3 σ τ h)

theorem dX12_keep_0 : decode cX12_keep 0 = .ok (.iload_n 1, 1) := by decide +kernel
theorem dX12_keep_1 : decode cX12_keep 1 = .ok (.iconst 0, 1) := by decide +kernel
theorem dX12_keep_2 : decode cX12_keep 2 = .ok (.iconst 1, 1) := by decide +kernel
theorem dX12_keep_3 : decode cX12_keep 3 = .ok (.invokestatic 70, 3) := by decide +kernel
theorem dX12_keep_6 : decode cX12_keep 6 = .ok (.ifCond .ne 6, 3) := by decide +kernel
theorem dX12_keep_9 : decode cX12_keep 9 = .ok (.ldc 206, 2) := by decide +kernel
theorem dX12_keep_11 : decode cX12_keep 11 = .ok (.ireturn, 1) := by decide +kernel
theorem dX12_keep_12 : decode cX12_keep 12 = .ok (.aload_n 0, 1) := by decide +kernel
theorem dX12_keep_13 : decode cX12_keep 13 = .ok (.getfield 60, 3) := by decide +kernel
theorem dX12_keep_16 : decode cX12_keep 16 = .ok (.iload_n 1, 1) := by decide +kernel
theorem dX12_keep_17 : decode cX12_keep 17 = .ok (.iconst 1, 1) := by decide +kernel
theorem dX12_keep_18 : decode cX12_keep 18 = .ok (.bastore, 1) := by decide +kernel
theorem dX12_keep_19 : decode cX12_keep 19 = .ok (.aload_n 0, 1) := by decide +kernel
theorem dX12_keep_20 : decode cX12_keep 20 = .ok (.getfield 66, 3) := by decide +kernel
theorem dX12_keep_23 : decode cX12_keep 23 = .ok (.iload_n 1, 1) := by decide +kernel
theorem dX12_keep_24 : decode cX12_keep 24 = .ok (.aload_n 0, 1) := by decide +kernel
theorem dX12_keep_25 : decode cX12_keep 25 = .ok (.getfield 268, 3) := by decide +kernel
theorem dX12_keep_28 : decode cX12_keep 28 = .ok (.lastore, 1) := by decide +kernel
theorem dX12_keep_29 : decode cX12_keep 29 = .ok (.aload_n 0, 1) := by decide +kernel
theorem dX12_keep_30 : decode cX12_keep 30 = .ok (.iconst 0, 1) := by decide +kernel
theorem dX12_keep_31 : decode cX12_keep 31 = .ok (.putfield 147, 3) := by decide +kernel
theorem dX12_keep_34 : decode cX12_keep 34 = .ok (.iconst 0, 1) := by decide +kernel
theorem dX12_keep_35 : decode cX12_keep 35 = .ok (.istore_n 2, 1) := by decide +kernel
theorem dX12_keep_36 : decode cX12_keep 36 = .ok (.iload_n 2, 1) := by decide +kernel
theorem dX12_keep_37 : decode cX12_keep 37 = .ok (.bipush 26, 2) := by decide +kernel
theorem dX12_keep_39 : decode cX12_keep 39 = .ok (.if_icmp .ge 26, 3) := by decide +kernel
theorem dX12_keep_42 : decode cX12_keep 42 = .ok (.aload_n 0, 1) := by decide +kernel
theorem dX12_keep_43 : decode cX12_keep 43 = .ok (.getfield 63, 3) := by decide +kernel
theorem dX12_keep_46 : decode cX12_keep 46 = .ok (.bipush 26, 2) := by decide +kernel
theorem dX12_keep_48 : decode cX12_keep 48 = .ok (.iload_n 1, 1) := by decide +kernel
theorem dX12_keep_49 : decode cX12_keep 49 = .ok (.imul, 1) := by decide +kernel
theorem dX12_keep_50 : decode cX12_keep 50 = .ok (.iload_n 2, 1) := by decide +kernel
theorem dX12_keep_51 : decode cX12_keep 51 = .ok (.iadd, 1) := by decide +kernel
theorem dX12_keep_52 : decode cX12_keep 52 = .ok (.aload_n 0, 1) := by decide +kernel
theorem dX12_keep_53 : decode cX12_keep 53 = .ok (.getfield 35, 3) := by decide +kernel
theorem dX12_keep_56 : decode cX12_keep 56 = .ok (.iload_n 2, 1) := by decide +kernel
theorem dX12_keep_57 : decode cX12_keep 57 = .ok (.iaload, 1) := by decide +kernel
theorem dX12_keep_58 : decode cX12_keep 58 = .ok (.iastore, 1) := by decide +kernel
theorem dX12_keep_59 : decode cX12_keep 59 = .ok (.iinc 2 1, 3) := by decide +kernel
theorem dX12_keep_62 : decode cX12_keep 62 = .ok (.goto (-26), 3) := by decide +kernel
theorem dX12_keep_65 : decode cX12_keep 65 = .ok (.iconst 1, 1) := by decide +kernel
theorem dX12_keep_66 : decode cX12_keep 66 = .ok (.ireturn, 1) := by decide +kernel
theorem w_X12_keep_36 {l : Launch} {D : zDD} {b : Nat} (x1 x2 : Int32) (σ : zSg) (τ : zLm) {Q : Int32 → zSg → zLm → Prop} (h : (26 ≤ x2 → Q 1 σ τ) ∧ (¬ 26 ≤ x2 → (vp_in x2 26 ∧ (vp_in ((26 * x1) + x2) 52 ∧ AI l D b M_X12_keep 1 G0 Q 36 [(0, .ref (b + 125)), (1, .int x1), (2, .int (x2 + 1))] [] G0 (st2 σ 142 (((26 * x1) + x2).toNatClampNeg) (σ 133 x2.toNatClampNeg)) τ)))) : AI l D b M_X12_keep 1 G0 Q 36 [(0, .ref (b + 125)), (1, .int x1), (2, .int x2)] [] G0 σ τ := by
  refine r_iload_n 2 dX12_keep_36 rfl rfl ?_
  refine r_bipush dX12_keep_37 cb_26 ?_
  refine r_icmp_ge (tgt := 65) dX12_keep_39 (by decide) (fun c1 => ?_) (fun c1 => ?_)
  · replace h := h.1 c1
    refine r_iconst dX12_keep_65 ci_1 ?_
    exact r_iret rfl (Nat.le_refl _) (Nat.le_refl _) dX12_keep_66 ⟨rfl, rfl, rfl, _, rfl, h⟩
  · replace h := h.2 c1
    refine r_aload_n 0 dX12_keep_42 rfl rfl ?_
    refine r_getR (j := 34) (by decide) (congrArg Prod.fst k0_125) c12_11 (by decide) rfl g0_125_34 tw_844 dX12_keep_43 ?_
    refine r_bipush dX12_keep_46 cb_26 ?_
    refine r_iload_n 1 dX12_keep_48 rfl rfl ?_
    refine r_imul dX12_keep_49 ?_
    refine r_iload_n 2 dX12_keep_50 rfl rfl ?_
    refine r_iadd dX12_keep_51 ?_
    refine r_aload_n 0 dX12_keep_52 rfl rfl ?_
    refine r_getR (j := 20) (by decide) (congrArg Prod.fst k0_125) c12_11 (by decide) rfl g0_125_20 tw_830 dX12_keep_53 ?_
    refine r_iload_n 2 dX12_keep_56 rfl rfl ?_
    refine r_iald (by decide) k0_133 dX12_keep_57 h.1 ?_
    replace h := h.2
    refine r_iast (by decide) k0_142 dX12_keep_58 h.1 ?_
    replace h := h.2
    refine r_inc 2 dX12_keep_59 rfl ci_1 (by decide) rfl ?_
    refine r_goto (tgt := 36) dX12_keep_62 (by decide) ?_
    refine r_lv [1, 2, 0] rfl ?_
    exact h

theorem w_X12_keep_0 {l : Launch} {D : zDD} {b : Nat} (p1 : Int32) (σ : zSg) (τ : zLm) {Q : Int32 → zSg → zLm → Prop} (h : SI l D b M_X12_in 0 G0 [.int p1, .int 0, .int 1] σ τ (fun r1 σ1 τ1 => (¬ r1 = 0 → (vp_in p1 2 ∧ (vp_in p1 2 ∧ AI l D b M_X12_keep 1 G0 Q 36 [(0, .ref (b + 125)), (1, .int p1), (2, .int 0)] [] G0 (st2 (st2 σ1 141 p1.toNatClampNeg (vp_nar .boolean 1)) 125 21 0) (st2 τ1 143 p1.toNatClampNeg (τ1 125 24))))) ∧ (r1 = 0 → Q (-1000000001) σ1 τ1))) : AI l D b M_X12_keep 1 G0 Q 0 [(0, .ref (b + 125)), (1, .int p1)] [] G0 σ τ := by
  refine r_iload_n 1 dX12_keep_0 rfl rfl ?_
  refine r_iconst dX12_keep_1 ci_0 ?_
  refine r_iconst dX12_keep_2 ci_1 ?_
  refine rc_SI (h' := 0) [.int p1, .int 0, .int 1] oks_X12_in tw_924 rfl rfl (Nat.le_of_ble_eq_true rfl) dX12_keep_3 (by decide) h (fun r1 σ1 τ1 h => ?_)
  refine r_if_ne (tgt := 12) dX12_keep_6 (by decide) (fun c2 => ?_) (fun c2 => ?_)
  · replace h := h.1 c2
    refine r_aload_n 0 dX12_keep_12 rfl rfl ?_
    refine r_getR (j := 33) (by decide) (congrArg Prod.fst k0_125) c12_11 (by decide) rfl g0_125_33 tw_843 dX12_keep_13 ?_
    refine r_iload_n 1 dX12_keep_16 rfl rfl ?_
    refine r_iconst dX12_keep_17 ci_1 ?_
    refine r_zast (by decide) k0_141 dX12_keep_18 h.1 ?_
    replace h := h.2
    refine r_aload_n 0 dX12_keep_19 rfl rfl ?_
    refine r_getR (j := 35) (by decide) (congrArg Prod.fst k0_125) c12_11 (by decide) rfl g0_125_35 tw_845 dX12_keep_20 ?_
    refine r_iload_n 1 dX12_keep_23 rfl rfl ?_
    refine r_aload_n 0 dX12_keep_24 rfl rfl ?_
    refine r_getL (j := 24) (by decide) (congrArg Prod.fst k0_125) c12_11 (by decide) rfl tw_834 dX12_keep_25 ?_
    refine r_last (by decide) k0_143 dX12_keep_28 h.1 ?_
    replace h := h.2
    refine r_aload_n 0 dX12_keep_29 rfl rfl ?_
    refine r_iconst dX12_keep_30 ci_0 ?_
    refine r_putI (j := 21) (by decide) (congrArg Prod.fst k0_125) c12_11 (by decide) rfl (Or.inl rfl) tw_831 dX12_keep_31 ?_
    refine r_iconst dX12_keep_34 ci_0 ?_
    refine r_istore_n dX12_keep_35 rfl (by decide) rfl ?_
    refine r_lv [1, 2, 0] rfl ?_
    exact h
  · replace h := h.2 c2
    refine r_ldc (v := (-1000000001)) rfl tw_1035 rfl dX12_keep_9 ?_
    exact r_iret rfl (Nat.le_refl _) (Nat.le_refl _) dX12_keep_11 ⟨rfl, rfl, rfl, _, rfl, h⟩
theorem s_X12_keep {l : Launch} {D : zDD} {b : Nat} (p1 : Int32) (σ : zSg) (τ : zLm) {Q : Int32 → zSg → zLm → Prop} (h : SI l D b M_X12_in 0 G0 [.int p1, .int 0, .int 1] σ τ (fun r1 σ1 τ1 => (¬ r1 = 0 → (vp_in p1 2 ∧ (vp_in p1 2 ∧ AI l D b M_X12_keep 1 G0 Q 36 [(0, .ref (b + 125)), (1, .int p1), (2, .int 0)] [] G0 (st2 (st2 σ1 141 p1.toNatClampNeg (vp_nar .boolean 1)) 125 21 0) (st2 τ1 143 p1.toNatClampNeg (τ1 125 24))))) ∧ (r1 = 0 → Q (-1000000001) σ1 τ1))) : SI l D b M_X12_keep 1 G0 [.ref (b + 125), .int p1] σ τ Q := zS.of (by decide) (Nat.le_of_ble_eq_true rfl) rfl (w_X12_keep_0 p1 σ τ h)

theorem dX12_goBack_0 : decode cX12_goBack 0 = .ok (.iload_n 1, 1) := by decide +kernel
theorem dX12_goBack_1 : decode cX12_goBack 1 = .ok (.iconst 0, 1) := by decide +kernel
theorem dX12_goBack_2 : decode cX12_goBack 2 = .ok (.iconst 1, 1) := by decide +kernel
theorem dX12_goBack_3 : decode cX12_goBack 3 = .ok (.invokestatic 70, 3) := by decide +kernel
theorem dX12_goBack_6 : decode cX12_goBack 6 = .ok (.ifCond .ne 6, 3) := by decide +kernel
theorem dX12_goBack_9 : decode cX12_goBack 9 = .ok (.ldc 206, 2) := by decide +kernel
theorem dX12_goBack_11 : decode cX12_goBack 11 = .ok (.ireturn, 1) := by decide +kernel
theorem dX12_goBack_12 : decode cX12_goBack 12 = .ok (.aload_n 0, 1) := by decide +kernel
theorem dX12_goBack_13 : decode cX12_goBack 13 = .ok (.getfield 60, 3) := by decide +kernel
theorem dX12_goBack_16 : decode cX12_goBack 16 = .ok (.iload_n 1, 1) := by decide +kernel
theorem dX12_goBack_17 : decode cX12_goBack 17 = .ok (.baload, 1) := by decide +kernel
theorem dX12_goBack_18 : decode cX12_goBack 18 = .ok (.ifCond .ne 6, 3) := by decide +kernel
theorem dX12_goBack_21 : decode cX12_goBack 21 = .ok (.ldc 233, 2) := by decide +kernel
theorem dX12_goBack_23 : decode cX12_goBack 23 = .ok (.ireturn, 1) := by decide +kernel
theorem dX12_goBack_24 : decode cX12_goBack 24 = .ok (.aload_n 0, 1) := by decide +kernel
theorem dX12_goBack_25 : decode cX12_goBack 25 = .ok (.aload_n 0, 1) := by decide +kernel
theorem dX12_goBack_26 : decode cX12_goBack 26 = .ok (.getfield 66, 3) := by decide +kernel
theorem dX12_goBack_29 : decode cX12_goBack 29 = .ok (.iload_n 1, 1) := by decide +kernel
theorem dX12_goBack_30 : decode cX12_goBack 30 = .ok (.laload, 1) := by decide +kernel
theorem dX12_goBack_31 : decode cX12_goBack 31 = .ok (.putfield 268, 3) := by decide +kernel
theorem dX12_goBack_34 : decode cX12_goBack 34 = .ok (.aload_n 0, 1) := by decide +kernel
theorem dX12_goBack_35 : decode cX12_goBack 35 = .ok (.iconst 0, 1) := by decide +kernel
theorem dX12_goBack_36 : decode cX12_goBack 36 = .ok (.putfield 147, 3) := by decide +kernel
theorem dX12_goBack_39 : decode cX12_goBack 39 = .ok (.iconst 0, 1) := by decide +kernel
theorem dX12_goBack_40 : decode cX12_goBack 40 = .ok (.istore_n 2, 1) := by decide +kernel
theorem dX12_goBack_41 : decode cX12_goBack 41 = .ok (.iload_n 2, 1) := by decide +kernel
theorem dX12_goBack_42 : decode cX12_goBack 42 = .ok (.bipush 26, 2) := by decide +kernel
theorem dX12_goBack_44 : decode cX12_goBack 44 = .ok (.if_icmp .ge 26, 3) := by decide +kernel
theorem dX12_goBack_47 : decode cX12_goBack 47 = .ok (.aload_n 0, 1) := by decide +kernel
theorem dX12_goBack_48 : decode cX12_goBack 48 = .ok (.getfield 35, 3) := by decide +kernel
theorem dX12_goBack_51 : decode cX12_goBack 51 = .ok (.iload_n 2, 1) := by decide +kernel
theorem dX12_goBack_52 : decode cX12_goBack 52 = .ok (.aload_n 0, 1) := by decide +kernel
theorem dX12_goBack_53 : decode cX12_goBack 53 = .ok (.getfield 63, 3) := by decide +kernel
theorem dX12_goBack_56 : decode cX12_goBack 56 = .ok (.bipush 26, 2) := by decide +kernel
theorem dX12_goBack_58 : decode cX12_goBack 58 = .ok (.iload_n 1, 1) := by decide +kernel
theorem dX12_goBack_59 : decode cX12_goBack 59 = .ok (.imul, 1) := by decide +kernel
theorem dX12_goBack_60 : decode cX12_goBack 60 = .ok (.iload_n 2, 1) := by decide +kernel
theorem dX12_goBack_61 : decode cX12_goBack 61 = .ok (.iadd, 1) := by decide +kernel
theorem dX12_goBack_62 : decode cX12_goBack 62 = .ok (.iaload, 1) := by decide +kernel
theorem dX12_goBack_63 : decode cX12_goBack 63 = .ok (.iastore, 1) := by decide +kernel
theorem dX12_goBack_64 : decode cX12_goBack 64 = .ok (.iinc 2 1, 3) := by decide +kernel
theorem dX12_goBack_67 : decode cX12_goBack 67 = .ok (.goto (-26), 3) := by decide +kernel
theorem dX12_goBack_70 : decode cX12_goBack 70 = .ok (.iconst 1, 1) := by decide +kernel
theorem dX12_goBack_71 : decode cX12_goBack 71 = .ok (.ireturn, 1) := by decide +kernel
theorem w_X12_goBack_41 {l : Launch} {D : zDD} {b : Nat} (x1 x2 : Int32) (σ : zSg) (τ : zLm) {Q : Int32 → zSg → zLm → Prop} (h : (26 ≤ x2 → Q 1 σ τ) ∧ (¬ 26 ≤ x2 → (vp_in ((26 * x1) + x2) 52 ∧ (vp_in x2 26 ∧ AI l D b M_X12_goBack 1 G0 Q 41 [(0, .ref (b + 125)), (1, .int x1), (2, .int (x2 + 1))] [] G0 (st2 σ 133 x2.toNatClampNeg (σ 142 (((26 * x1) + x2).toNatClampNeg))) τ)))) : AI l D b M_X12_goBack 1 G0 Q 41 [(0, .ref (b + 125)), (1, .int x1), (2, .int x2)] [] G0 σ τ := by
  refine r_iload_n 2 dX12_goBack_41 rfl rfl ?_
  refine r_bipush dX12_goBack_42 cb_26 ?_
  refine r_icmp_ge (tgt := 70) dX12_goBack_44 (by decide) (fun c1 => ?_) (fun c1 => ?_)
  · replace h := h.1 c1
    refine r_iconst dX12_goBack_70 ci_1 ?_
    exact r_iret rfl (Nat.le_refl _) (Nat.le_refl _) dX12_goBack_71 ⟨rfl, rfl, rfl, _, rfl, h⟩
  · replace h := h.2 c1
    refine r_aload_n 0 dX12_goBack_47 rfl rfl ?_
    refine r_getR (j := 20) (by decide) (congrArg Prod.fst k0_125) c12_11 (by decide) rfl g0_125_20 tw_830 dX12_goBack_48 ?_
    refine r_iload_n 2 dX12_goBack_51 rfl rfl ?_
    refine r_aload_n 0 dX12_goBack_52 rfl rfl ?_
    refine r_getR (j := 34) (by decide) (congrArg Prod.fst k0_125) c12_11 (by decide) rfl g0_125_34 tw_844 dX12_goBack_53 ?_
    refine r_bipush dX12_goBack_56 cb_26 ?_
    refine r_iload_n 1 dX12_goBack_58 rfl rfl ?_
    refine r_imul dX12_goBack_59 ?_
    refine r_iload_n 2 dX12_goBack_60 rfl rfl ?_
    refine r_iadd dX12_goBack_61 ?_
    refine r_iald (by decide) k0_142 dX12_goBack_62 h.1 ?_
    replace h := h.2
    refine r_iast (by decide) k0_133 dX12_goBack_63 h.1 ?_
    replace h := h.2
    refine r_inc 2 dX12_goBack_64 rfl ci_1 (by decide) rfl ?_
    refine r_goto (tgt := 41) dX12_goBack_67 (by decide) ?_
    refine r_lv [1, 2, 0] rfl ?_
    exact h

theorem w_X12_goBack_0 {l : Launch} {D : zDD} {b : Nat} (p1 : Int32) (σ : zSg) (τ : zLm) {Q : Int32 → zSg → zLm → Prop} (h : SI l D b M_X12_in 0 G0 [.int p1, .int 0, .int 1] σ τ (fun r1 σ1 τ1 => (¬ r1 = 0 → (vp_in p1 2 ∧ ((¬ (σ1 141 p1.toNatClampNeg) = 0 → (vp_in p1 2 ∧ AI l D b M_X12_goBack 1 G0 Q 41 [(0, .ref (b + 125)), (1, .int p1), (2, .int 0)] [] G0 (st2 σ1 125 21 0) (st2 τ1 125 24 (τ1 143 p1.toNatClampNeg)))) ∧ ((σ1 141 p1.toNatClampNeg) = 0 → Q (-1000000003) σ1 τ1)))) ∧ (r1 = 0 → Q (-1000000001) σ1 τ1))) : AI l D b M_X12_goBack 1 G0 Q 0 [(0, .ref (b + 125)), (1, .int p1)] [] G0 σ τ := by
  refine r_iload_n 1 dX12_goBack_0 rfl rfl ?_
  refine r_iconst dX12_goBack_1 ci_0 ?_
  refine r_iconst dX12_goBack_2 ci_1 ?_
  refine rc_SI (h' := 0) [.int p1, .int 0, .int 1] oks_X12_in tw_924 rfl rfl (Nat.le_of_ble_eq_true rfl) dX12_goBack_3 (by decide) h (fun r1 σ1 τ1 h => ?_)
  refine r_if_ne (tgt := 12) dX12_goBack_6 (by decide) (fun c2 => ?_) (fun c2 => ?_)
  · replace h := h.1 c2
    refine r_aload_n 0 dX12_goBack_12 rfl rfl ?_
    refine r_getR (j := 33) (by decide) (congrArg Prod.fst k0_125) c12_11 (by decide) rfl g0_125_33 tw_843 dX12_goBack_13 ?_
    refine r_iload_n 1 dX12_goBack_16 rfl rfl ?_
    refine r_zald (by decide) k0_141 dX12_goBack_17 h.1 ?_
    replace h := h.2
    refine r_if_ne (tgt := 24) dX12_goBack_18 (by decide) (fun c3 => ?_) (fun c3 => ?_)
    · replace h := h.1 c3
      refine r_aload_n 0 dX12_goBack_24 rfl rfl ?_
      refine r_aload_n 0 dX12_goBack_25 rfl rfl ?_
      refine r_getR (j := 35) (by decide) (congrArg Prod.fst k0_125) c12_11 (by decide) rfl g0_125_35 tw_845 dX12_goBack_26 ?_
      refine r_iload_n 1 dX12_goBack_29 rfl rfl ?_
      refine r_lald (by decide) k0_143 dX12_goBack_30 h.1 ?_
      replace h := h.2
      refine r_putL (j := 24) (by decide) (congrArg Prod.fst k0_125) c12_11 (by decide) rfl (Or.inl rfl) tw_834 dX12_goBack_31 ?_
      refine r_aload_n 0 dX12_goBack_34 rfl rfl ?_
      refine r_iconst dX12_goBack_35 ci_0 ?_
      refine r_putI (j := 21) (by decide) (congrArg Prod.fst k0_125) c12_11 (by decide) rfl (Or.inl rfl) tw_831 dX12_goBack_36 ?_
      refine r_iconst dX12_goBack_39 ci_0 ?_
      refine r_istore_n dX12_goBack_40 rfl (by decide) rfl ?_
      refine r_lv [1, 2, 0] rfl ?_
      exact h
    · replace h := h.2 c3
      refine r_ldc (v := (-1000000003)) rfl tw_1078 rfl dX12_goBack_21 ?_
      exact r_iret rfl (Nat.le_refl _) (Nat.le_refl _) dX12_goBack_23 ⟨rfl, rfl, rfl, _, rfl, h⟩
  · replace h := h.2 c2
    refine r_ldc (v := (-1000000001)) rfl tw_1035 rfl dX12_goBack_9 ?_
    exact r_iret rfl (Nat.le_refl _) (Nat.le_refl _) dX12_goBack_11 ⟨rfl, rfl, rfl, _, rfl, h⟩
theorem s_X12_goBack {l : Launch} {D : zDD} {b : Nat} (p1 : Int32) (σ : zSg) (τ : zLm) {Q : Int32 → zSg → zLm → Prop} (h : SI l D b M_X12_in 0 G0 [.int p1, .int 0, .int 1] σ τ (fun r1 σ1 τ1 => (¬ r1 = 0 → (vp_in p1 2 ∧ ((¬ (σ1 141 p1.toNatClampNeg) = 0 → (vp_in p1 2 ∧ AI l D b M_X12_goBack 1 G0 Q 41 [(0, .ref (b + 125)), (1, .int p1), (2, .int 0)] [] G0 (st2 σ1 125 21 0) (st2 τ1 125 24 (τ1 143 p1.toNatClampNeg)))) ∧ ((σ1 141 p1.toNatClampNeg) = 0 → Q (-1000000003) σ1 τ1)))) ∧ (r1 = 0 → Q (-1000000001) σ1 τ1))) : SI l D b M_X12_goBack 1 G0 [.ref (b + 125), .int p1] σ τ Q := zS.of (by decide) (Nat.le_of_ble_eq_true rfl) rfl (w_X12_goBack_0 p1 σ τ h)

theorem dX12_readsNumber_0 : decode cX12_readsNumber 0 = .ok (.aload_n 0, 1) := by decide +kernel
theorem dX12_readsNumber_1 : decode cX12_readsNumber 1 = .ok (.invokevirtual 89, 3) := by decide +kernel
theorem dX12_readsNumber_4 : decode cX12_readsNumber 4 = .ok (.bipush 48, 2) := by decide +kernel
theorem dX12_readsNumber_6 : decode cX12_readsNumber 6 = .ok (.bipush 57, 2) := by decide +kernel
theorem dX12_readsNumber_8 : decode cX12_readsNumber 8 = .ok (.invokestatic 70, 3) := by decide +kernel
theorem dX12_readsNumber_11 : decode cX12_readsNumber 11 = .ok (.ifCond .ne 13, 3) := by decide +kernel
theorem dX12_readsNumber_14 : decode cX12_readsNumber 14 = .ok (.aload_n 0, 1) := by decide +kernel
theorem dX12_readsNumber_15 : decode cX12_readsNumber 15 = .ok (.iconst 1, 1) := by decide +kernel
theorem dX12_readsNumber_16 : decode cX12_readsNumber 16 = .ok (.aload_n 0, 1) := by decide +kernel
theorem dX12_readsNumber_17 : decode cX12_readsNumber 17 = .ok (.getfield 79, 3) := by decide +kernel
theorem dX12_readsNumber_20 : decode cX12_readsNumber 20 = .ok (.invokevirtual 93, 3) := by decide +kernel
theorem dX12_readsNumber_23 : decode cX12_readsNumber 23 = .ok (.ireturn, 1) := by decide +kernel
theorem dX12_readsNumber_24 : decode cX12_readsNumber 24 = .ok (.aload_n 0, 1) := by decide +kernel
theorem dX12_readsNumber_25 : decode cX12_readsNumber 25 = .ok (.aload_n 0, 1) := by decide +kernel
theorem dX12_readsNumber_26 : decode cX12_readsNumber 26 = .ok (.getfield 79, 3) := by decide +kernel
theorem dX12_readsNumber_29 : decode cX12_readsNumber 29 = .ok (.putfield 97, 3) := by decide +kernel
theorem dX12_readsNumber_32 : decode cX12_readsNumber 32 = .ok (.iconst 0, 1) := by decide +kernel
theorem dX12_readsNumber_33 : decode cX12_readsNumber 33 = .ok (.istore_n 3, 1) := by decide +kernel
theorem dX12_readsNumber_34 : decode cX12_readsNumber 34 = .ok (.aload_n 0, 1) := by decide +kernel
theorem dX12_readsNumber_35 : decode cX12_readsNumber 35 = .ok (.aload_n 0, 1) := by decide +kernel
theorem dX12_readsNumber_36 : decode cX12_readsNumber 36 = .ok (.getfield 79, 3) := by decide +kernel
theorem dX12_readsNumber_39 : decode cX12_readsNumber 39 = .ok (.invokevirtual 82, 3) := by decide +kernel
theorem dX12_readsNumber_42 : decode cX12_readsNumber 42 = .ok (.bipush 48, 2) := by decide +kernel
theorem dX12_readsNumber_44 : decode cX12_readsNumber 44 = .ok (.bipush 57, 2) := by decide +kernel
theorem dX12_readsNumber_46 : decode cX12_readsNumber 46 = .ok (.invokestatic 70, 3) := by decide +kernel
theorem dX12_readsNumber_49 : decode cX12_readsNumber 49 = .ok (.ifCond .eq 44, 3) := by decide +kernel
theorem dX12_readsNumber_52 : decode cX12_readsNumber 52 = .ok (.iload_n 3, 1) := by decide +kernel
theorem dX12_readsNumber_53 : decode cX12_readsNumber 53 = .ok (.sipush 999, 3) := by decide +kernel
theorem dX12_readsNumber_56 : decode cX12_readsNumber 56 = .ok (.if_icmp .le 7, 3) := by decide +kernel
theorem dX12_readsNumber_59 : decode cX12_readsNumber 59 = .ok (.iload_n 3, 1) := by decide +kernel
theorem dX12_readsNumber_60 : decode cX12_readsNumber 60 = .ok (.goto 19, 3) := by decide +kernel
theorem dX12_readsNumber_63 : decode cX12_readsNumber 63 = .ok (.bipush 10, 2) := by decide +kernel
theorem dX12_readsNumber_65 : decode cX12_readsNumber 65 = .ok (.iload_n 3, 1) := by decide +kernel
theorem dX12_readsNumber_66 : decode cX12_readsNumber 66 = .ok (.imul, 1) := by decide +kernel
theorem dX12_readsNumber_67 : decode cX12_readsNumber 67 = .ok (.aload_n 0, 1) := by decide +kernel
theorem dX12_readsNumber_68 : decode cX12_readsNumber 68 = .ok (.aload_n 0, 1) := by decide +kernel
theorem dX12_readsNumber_69 : decode cX12_readsNumber 69 = .ok (.getfield 79, 3) := by decide +kernel
theorem dX12_readsNumber_72 : decode cX12_readsNumber 72 = .ok (.invokevirtual 82, 3) := by decide +kernel
theorem dX12_readsNumber_75 : decode cX12_readsNumber 75 = .ok (.iadd, 1) := by decide +kernel
theorem dX12_readsNumber_76 : decode cX12_readsNumber 76 = .ok (.bipush 48, 2) := by decide +kernel
theorem dX12_readsNumber_78 : decode cX12_readsNumber 78 = .ok (.isub, 1) := by decide +kernel
theorem dX12_readsNumber_79 : decode cX12_readsNumber 79 = .ok (.istore_n 3, 1) := by decide +kernel
theorem dX12_readsNumber_80 : decode cX12_readsNumber 80 = .ok (.aload_n 0, 1) := by decide +kernel
theorem dX12_readsNumber_81 : decode cX12_readsNumber 81 = .ok (.dup, 1) := by decide +kernel
theorem dX12_readsNumber_82 : decode cX12_readsNumber 82 = .ok (.getfield 79, 3) := by decide +kernel
theorem dX12_readsNumber_85 : decode cX12_readsNumber 85 = .ok (.iconst 1, 1) := by decide +kernel
theorem dX12_readsNumber_86 : decode cX12_readsNumber 86 = .ok (.iadd, 1) := by decide +kernel
theorem dX12_readsNumber_87 : decode cX12_readsNumber 87 = .ok (.putfield 79, 3) := by decide +kernel
theorem dX12_readsNumber_90 : decode cX12_readsNumber 90 = .ok (.goto (-56), 3) := by decide +kernel
theorem dX12_readsNumber_93 : decode cX12_readsNumber 93 = .ok (.aload_n 0, 1) := by decide +kernel
theorem dX12_readsNumber_94 : decode cX12_readsNumber 94 = .ok (.getfield 79, 3) := by decide +kernel
theorem dX12_readsNumber_97 : decode cX12_readsNumber 97 = .ok (.aload_n 0, 1) := by decide +kernel
theorem dX12_readsNumber_98 : decode cX12_readsNumber 98 = .ok (.getfield 97, 3) := by decide +kernel
theorem dX12_readsNumber_101 : decode cX12_readsNumber 101 = .ok (.isub, 1) := by decide +kernel
theorem dX12_readsNumber_102 : decode cX12_readsNumber 102 = .ok (.iconst 3, 1) := by decide +kernel
theorem dX12_readsNumber_103 : decode cX12_readsNumber 103 = .ok (.if_icmp .gt 12, 3) := by decide +kernel
theorem dX12_readsNumber_106 : decode cX12_readsNumber 106 = .ok (.iload_n 3, 1) := by decide +kernel
theorem dX12_readsNumber_107 : decode cX12_readsNumber 107 = .ok (.iload_n 1, 1) := by decide +kernel
theorem dX12_readsNumber_108 : decode cX12_readsNumber 108 = .ok (.iload_n 2, 1) := by decide +kernel
theorem dX12_readsNumber_109 : decode cX12_readsNumber 109 = .ok (.invokestatic 70, 3) := by decide +kernel
theorem dX12_readsNumber_112 : decode cX12_readsNumber 112 = .ok (.ifCond .ne 15, 3) := by decide +kernel
theorem dX12_readsNumber_115 : decode cX12_readsNumber 115 = .ok (.aload_n 0, 1) := by decide +kernel
theorem dX12_readsNumber_116 : decode cX12_readsNumber 116 = .ok (.iconst 2, 1) := by decide +kernel
theorem dX12_readsNumber_117 : decode cX12_readsNumber 117 = .ok (.aload_n 0, 1) := by decide +kernel
theorem dX12_readsNumber_118 : decode cX12_readsNumber 118 = .ok (.getfield 97, 3) := by decide +kernel
theorem dX12_readsNumber_121 : decode cX12_readsNumber 121 = .ok (.invokevirtual 93, 3) := by decide +kernel
theorem dX12_readsNumber_124 : decode cX12_readsNumber 124 = .ok (.goto 4, 3) := by decide +kernel
theorem dX12_readsNumber_127 : decode cX12_readsNumber 127 = .ok (.iload_n 3, 1) := by decide +kernel
theorem dX12_readsNumber_128 : decode cX12_readsNumber 128 = .ok (.ireturn, 1) := by decide +kernel
theorem w_X12_readsNumber_115 {l : Launch} {D : zDD} {b : Nat} (σ : zSg) (τ : zLm) {Q : Int32 → zSg → zLm → Prop} (h : SI l D b M_X12_fails 0 G0 [.ref (b + 125), .int 2, .int (σ 125 3)] σ τ (fun r1 σ1 τ1 => Q r1 σ1 τ1)) : AI l D b M_X12_readsNumber 2 G0 Q 115 [(0, .ref (b + 125))] [] G0 σ τ := by
  refine r_aload_n 0 dX12_readsNumber_115 rfl rfl ?_
  refine r_iconst dX12_readsNumber_116 ci_2 ?_
  refine r_aload_n 0 dX12_readsNumber_117 rfl rfl ?_
  refine r_getI (j := 3) (by decide) (congrArg Prod.fst k0_125) c12_11 (by decide) rfl tw_813 dX12_readsNumber_118 ?_
  refine rc_VI (h' := 0) [.int 2, .int (σ 125 3)] okv_X12_fails (by decide) (congrArg Prod.fst k0_125) tw_957 rfl rfl (Nat.le_of_ble_eq_true rfl) dX12_readsNumber_121 (by decide) h (fun r1 σ1 τ1 h => ?_)
  refine r_goto (tgt := 128) dX12_readsNumber_124 (by decide) ?_
  exact r_iret rfl (Nat.le_refl _) (Nat.le_refl _) dX12_readsNumber_128 ⟨rfl, rfl, rfl, _, rfl, h⟩

theorem w_X12_readsNumber_34 {l : Launch} {D : zDD} {b : Nat} (x1 x2 x3 : Int32) (σ : zSg) (τ : zLm) {Q : Int32 → zSg → zLm → Prop} (h : SI l D b M_X12_letterAt 0 G0 [.ref (b + 125), .int (σ 125 2)] σ τ (fun r1 σ1 τ1 => SI l D b M_X12_in 0 G0 [.int r1, .int 48, .int 57] σ1 τ1 (fun r2 σ2 τ2 => (r2 = 0 → ((3 < ((σ2 125 2) - (σ2 125 3)) → AI l D b M_X12_readsNumber 2 G0 Q 115 [(0, .ref (b + 125))] [] G0 σ2 τ2) ∧ (¬ 3 < ((σ2 125 2) - (σ2 125 3)) → (SI l D b M_X12_in 0 G0 [.int x3, .int x1, .int x2] σ2 τ2 (fun r5 σ5 τ5 => (¬ r5 = 0 → Q x3 σ5 τ5) ∧ (r5 = 0 → AI l D b M_X12_readsNumber 2 G0 Q 115 [(0, .ref (b + 125))] [] G0 σ5 τ5)))))) ∧ (¬ r2 = 0 → ((x3 ≤ 999 → SI l D b M_X12_letterAt 0 G0 [.ref (b + 125), .int (σ2 125 2)] σ2 τ2 (fun r8 σ8 τ8 => AI l D b M_X12_readsNumber 2 G0 Q 34 [(0, .ref (b + 125)), (1, .int x1), (2, .int x2), (3, .int (((10 * x3) + r8) - 48))] [] G0 (st2 σ8 125 2 ((σ8 125 2) + 1)) τ8)) ∧ (¬ x3 ≤ 999 → AI l D b M_X12_readsNumber 2 G0 Q 34 [(0, .ref (b + 125)), (1, .int x1), (2, .int x2), (3, .int x3)] [] G0 (st2 σ2 125 2 ((σ2 125 2) + 1)) τ2)))))) : AI l D b M_X12_readsNumber 2 G0 Q 34 [(0, .ref (b + 125)), (1, .int x1), (2, .int x2), (3, .int x3)] [] G0 σ τ := by
  refine r_aload_n 0 dX12_readsNumber_34 rfl rfl ?_
  refine r_aload_n 0 dX12_readsNumber_35 rfl rfl ?_
  refine r_getI (j := 2) (by decide) (congrArg Prod.fst k0_125) c12_11 (by decide) rfl tw_812 dX12_readsNumber_36 ?_
  refine rc_VI (h' := 0) [.int (σ 125 2)] okv_X12_letterAt (by decide) (congrArg Prod.fst k0_125) tw_941 rfl rfl (Nat.le_of_ble_eq_true rfl) dX12_readsNumber_39 (by decide) h (fun r1 σ1 τ1 h => ?_)
  refine r_bipush dX12_readsNumber_42 cb_48 ?_
  refine r_bipush dX12_readsNumber_44 cb_57 ?_
  refine rc_SI (h' := 0) [.int r1, .int 48, .int 57] oks_X12_in tw_924 rfl rfl (Nat.le_of_ble_eq_true rfl) dX12_readsNumber_46 (by decide) h (fun r2 σ2 τ2 h => ?_)
  refine r_if_eq (tgt := 93) dX12_readsNumber_49 (by decide) (fun c3 => ?_) (fun c3 => ?_)
  · replace h := h.1 c3
    refine r_aload_n 0 dX12_readsNumber_93 rfl rfl ?_
    refine r_getI (j := 2) (by decide) (congrArg Prod.fst k0_125) c12_11 (by decide) rfl tw_812 dX12_readsNumber_94 ?_
    refine r_aload_n 0 dX12_readsNumber_97 rfl rfl ?_
    refine r_getI (j := 3) (by decide) (congrArg Prod.fst k0_125) c12_11 (by decide) rfl tw_813 dX12_readsNumber_98 ?_
    refine r_isub dX12_readsNumber_101 ?_
    refine r_iconst dX12_readsNumber_102 ci_3 ?_
    refine r_icmp_gt (tgt := 115) dX12_readsNumber_103 (by decide) (fun c4 => ?_) (fun c4 => ?_)
    · replace h := h.1 c4
      refine r_lv [0] rfl ?_
      exact h
    · replace h := h.2 c4
      refine r_iload_n 3 dX12_readsNumber_106 rfl rfl ?_
      refine r_iload_n 1 dX12_readsNumber_107 rfl rfl ?_
      refine r_iload_n 2 dX12_readsNumber_108 rfl rfl ?_
      refine rc_SI (h' := 0) [.int x3, .int x1, .int x2] oks_X12_in tw_924 rfl rfl (Nat.le_of_ble_eq_true rfl) dX12_readsNumber_109 (by decide) h (fun r5 σ5 τ5 h => ?_)
      refine r_if_ne (tgt := 127) dX12_readsNumber_112 (by decide) (fun c6 => ?_) (fun c6 => ?_)
      · replace h := h.1 c6
        refine r_iload_n 3 dX12_readsNumber_127 rfl rfl ?_
        exact r_iret rfl (Nat.le_refl _) (Nat.le_refl _) dX12_readsNumber_128 ⟨rfl, rfl, rfl, _, rfl, h⟩
      · replace h := h.2 c6
        refine r_lv [0] rfl ?_
        exact h
  · replace h := h.2 c3
    refine r_iload_n 3 dX12_readsNumber_52 rfl rfl ?_
    refine r_sipush dX12_readsNumber_53 cs_999 ?_
    refine r_icmp_le (tgt := 63) dX12_readsNumber_56 (by decide) (fun c7 => ?_) (fun c7 => ?_)
    · replace h := h.1 c7
      refine r_bipush dX12_readsNumber_63 cb_10 ?_
      refine r_iload_n 3 dX12_readsNumber_65 rfl rfl ?_
      refine r_imul dX12_readsNumber_66 ?_
      refine r_aload_n 0 dX12_readsNumber_67 rfl rfl ?_
      refine r_aload_n 0 dX12_readsNumber_68 rfl rfl ?_
      refine r_getI (j := 2) (by decide) (congrArg Prod.fst k0_125) c12_11 (by decide) rfl tw_812 dX12_readsNumber_69 ?_
      refine rc_VI (h' := 0) [.int (σ2 125 2)] okv_X12_letterAt (by decide) (congrArg Prod.fst k0_125) tw_941 rfl rfl (Nat.le_of_ble_eq_true rfl) dX12_readsNumber_72 (by decide) h (fun r8 σ8 τ8 h => ?_)
      refine r_iadd dX12_readsNumber_75 ?_
      refine r_bipush dX12_readsNumber_76 cb_48 ?_
      refine r_isub dX12_readsNumber_78 ?_
      refine r_istore_n dX12_readsNumber_79 rfl (by decide) rfl ?_
      refine r_aload_n 1 dX12_readsNumber_80 rfl rfl ?_
      refine r_dup dX12_readsNumber_81 rfl ?_
      refine r_getI (j := 2) (by decide) (congrArg Prod.fst k0_125) c12_11 (by decide) rfl tw_812 dX12_readsNumber_82 ?_
      refine r_iconst dX12_readsNumber_85 ci_1 ?_
      refine r_iadd dX12_readsNumber_86 ?_
      refine r_putI (j := 2) (by decide) (congrArg Prod.fst k0_125) c12_11 (by decide) rfl (Or.inl rfl) tw_812 dX12_readsNumber_87 ?_
      refine r_goto (tgt := 34) dX12_readsNumber_90 (by decide) ?_
      refine r_lv [1, 2, 3, 0] rfl ?_
      exact h
    · replace h := h.2 c7
      refine r_iload_n 3 dX12_readsNumber_59 rfl rfl ?_
      refine r_goto (tgt := 79) dX12_readsNumber_60 (by decide) ?_
      refine r_istore_n dX12_readsNumber_79 rfl (by decide) rfl ?_
      refine r_aload_n 1 dX12_readsNumber_80 rfl rfl ?_
      refine r_dup dX12_readsNumber_81 rfl ?_
      refine r_getI (j := 2) (by decide) (congrArg Prod.fst k0_125) c12_11 (by decide) rfl tw_812 dX12_readsNumber_82 ?_
      refine r_iconst dX12_readsNumber_85 ci_1 ?_
      refine r_iadd dX12_readsNumber_86 ?_
      refine r_putI (j := 2) (by decide) (congrArg Prod.fst k0_125) c12_11 (by decide) rfl (Or.inl rfl) tw_812 dX12_readsNumber_87 ?_
      refine r_goto (tgt := 34) dX12_readsNumber_90 (by decide) ?_
      refine r_lv [1, 2, 3, 0] rfl ?_
      exact h

theorem w_X12_readsNumber_0 {l : Launch} {D : zDD} {b : Nat} (p1 p2 : Int32) (σ : zSg) (τ : zLm) {Q : Int32 → zSg → zLm → Prop} (h : SI l D b M_X12_nextLetter 1 G0 [.ref (b + 125)] σ τ (fun r1 σ1 τ1 => SI l D b M_X12_in 0 G0 [.int r1, .int 48, .int 57] σ1 τ1 (fun r2 σ2 τ2 => (¬ r2 = 0 → AI l D b M_X12_readsNumber 2 G0 Q 34 [(0, .ref (b + 125)), (1, .int p1), (2, .int p2), (3, .int 0)] [] G0 (st2 σ2 125 3 (σ2 125 2)) τ2) ∧ (r2 = 0 → SI l D b M_X12_fails 0 G0 [.ref (b + 125), .int 1, .int (σ2 125 2)] σ2 τ2 (fun r4 σ4 τ4 => Q r4 σ4 τ4))))) : AI l D b M_X12_readsNumber 2 G0 Q 0 [(0, .ref (b + 125)), (1, .int p1), (2, .int p2)] [] G0 σ τ := by
  refine r_aload_n 0 dX12_readsNumber_0 rfl rfl ?_
  refine rc_VI (h' := 1) [] okv_X12_nextLetter (by decide) (congrArg Prod.fst k0_125) tw_937 rfl rfl (Nat.le_of_ble_eq_true rfl) dX12_readsNumber_1 (by decide) h (fun r1 σ1 τ1 h => ?_)
  refine r_bipush dX12_readsNumber_4 cb_48 ?_
  refine r_bipush dX12_readsNumber_6 cb_57 ?_
  refine rc_SI (h' := 0) [.int r1, .int 48, .int 57] oks_X12_in tw_924 rfl rfl (Nat.le_of_ble_eq_true rfl) dX12_readsNumber_8 (by decide) h (fun r2 σ2 τ2 h => ?_)
  refine r_if_ne (tgt := 24) dX12_readsNumber_11 (by decide) (fun c3 => ?_) (fun c3 => ?_)
  · replace h := h.1 c3
    refine r_aload_n 0 dX12_readsNumber_24 rfl rfl ?_
    refine r_aload_n 0 dX12_readsNumber_25 rfl rfl ?_
    refine r_getI (j := 2) (by decide) (congrArg Prod.fst k0_125) c12_11 (by decide) rfl tw_812 dX12_readsNumber_26 ?_
    refine r_putI (j := 3) (by decide) (congrArg Prod.fst k0_125) c12_11 (by decide) rfl (Or.inl rfl) tw_813 dX12_readsNumber_29 ?_
    refine r_iconst dX12_readsNumber_32 ci_0 ?_
    refine r_istore_n dX12_readsNumber_33 rfl (by decide) rfl ?_
    refine r_lv [1, 2, 3, 0] rfl ?_
    exact h
  · replace h := h.2 c3
    refine r_aload_n 0 dX12_readsNumber_14 rfl rfl ?_
    refine r_iconst dX12_readsNumber_15 ci_1 ?_
    refine r_aload_n 0 dX12_readsNumber_16 rfl rfl ?_
    refine r_getI (j := 2) (by decide) (congrArg Prod.fst k0_125) c12_11 (by decide) rfl tw_812 dX12_readsNumber_17 ?_
    refine rc_VI (h' := 0) [.int 1, .int (σ2 125 2)] okv_X12_fails (by decide) (congrArg Prod.fst k0_125) tw_957 rfl rfl (Nat.le_of_ble_eq_true rfl) dX12_readsNumber_20 (by decide) h (fun r4 σ4 τ4 h => ?_)
    exact r_iret rfl (Nat.le_refl _) (Nat.le_refl _) dX12_readsNumber_23 ⟨rfl, rfl, rfl, _, rfl, h⟩
theorem s_X12_readsNumber {l : Launch} {D : zDD} {b : Nat} (p1 p2 : Int32) (σ : zSg) (τ : zLm) {Q : Int32 → zSg → zLm → Prop} (h : SI l D b M_X12_nextLetter 1 G0 [.ref (b + 125)] σ τ (fun r1 σ1 τ1 => SI l D b M_X12_in 0 G0 [.int r1, .int 48, .int 57] σ1 τ1 (fun r2 σ2 τ2 => (¬ r2 = 0 → AI l D b M_X12_readsNumber 2 G0 Q 34 [(0, .ref (b + 125)), (1, .int p1), (2, .int p2), (3, .int 0)] [] G0 (st2 σ2 125 3 (σ2 125 2)) τ2) ∧ (r2 = 0 → SI l D b M_X12_fails 0 G0 [.ref (b + 125), .int 1, .int (σ2 125 2)] σ2 τ2 (fun r4 σ4 τ4 => Q r4 σ4 τ4))))) : SI l D b M_X12_readsNumber 2 G0 [.ref (b + 125), .int p1, .int p2] σ τ Q := zS.of (by decide) (Nat.le_of_ble_eq_true rfl) rfl (w_X12_readsNumber_0 p1 p2 σ τ h)

theorem dX12_readsSign_0 : decode cX12_readsSign 0 = .ok (.aload_n 0, 1) := by decide +kernel
theorem dX12_readsSign_1 : decode cX12_readsSign 1 = .ok (.invokevirtual 89, 3) := by decide +kernel
theorem dX12_readsSign_4 : decode cX12_readsSign 4 = .ok (.iload_n 1, 1) := by decide +kernel
theorem dX12_readsSign_5 : decode cX12_readsSign 5 = .ok (.if_icmp .eq 15, 3) := by decide +kernel
theorem dX12_readsSign_8 : decode cX12_readsSign 8 = .ok (.aload_n 0, 1) := by decide +kernel
theorem dX12_readsSign_9 : decode cX12_readsSign 9 = .ok (.iconst 1, 1) := by decide +kernel
theorem dX12_readsSign_10 : decode cX12_readsSign 10 = .ok (.aload_n 0, 1) := by decide +kernel
theorem dX12_readsSign_11 : decode cX12_readsSign 11 = .ok (.getfield 79, 3) := by decide +kernel
theorem dX12_readsSign_14 : decode cX12_readsSign 14 = .ok (.invokevirtual 93, 3) := by decide +kernel
theorem dX12_readsSign_17 : decode cX12_readsSign 17 = .ok (.pop, 1) := by decide +kernel
theorem dX12_readsSign_18 : decode cX12_readsSign 18 = .ok (.iconst 0, 1) := by decide +kernel
theorem dX12_readsSign_19 : decode cX12_readsSign 19 = .ok (.ireturn, 1) := by decide +kernel
theorem dX12_readsSign_20 : decode cX12_readsSign 20 = .ok (.aload_n 0, 1) := by decide +kernel
theorem dX12_readsSign_21 : decode cX12_readsSign 21 = .ok (.dup, 1) := by decide +kernel
theorem dX12_readsSign_22 : decode cX12_readsSign 22 = .ok (.getfield 79, 3) := by decide +kernel
theorem dX12_readsSign_25 : decode cX12_readsSign 25 = .ok (.iconst 1, 1) := by decide +kernel
theorem dX12_readsSign_26 : decode cX12_readsSign 26 = .ok (.iadd, 1) := by decide +kernel
theorem dX12_readsSign_27 : decode cX12_readsSign 27 = .ok (.putfield 79, 3) := by decide +kernel
theorem dX12_readsSign_30 : decode cX12_readsSign 30 = .ok (.iconst 1, 1) := by decide +kernel
theorem dX12_readsSign_31 : decode cX12_readsSign 31 = .ok (.ireturn, 1) := by decide +kernel
theorem w_X12_readsSign_0 {l : Launch} {D : zDD} {b : Nat} (p1 : Int32) (σ : zSg) (τ : zLm) {Q : Int32 → zSg → zLm → Prop} (h : SI l D b M_X12_nextLetter 1 G0 [.ref (b + 125)] σ τ (fun r1 σ1 τ1 => (r1 = p1 → Q 1 (st2 σ1 125 2 ((σ1 125 2) + 1)) τ1) ∧ (¬ r1 = p1 → SI l D b M_X12_fails 0 G0 [.ref (b + 125), .int 1, .int (σ1 125 2)] σ1 τ1 (fun r3 σ3 τ3 => Q 0 σ3 τ3)))) : AI l D b M_X12_readsSign 2 G0 Q 0 [(0, .ref (b + 125)), (1, .int p1)] [] G0 σ τ := by
  refine r_aload_n 0 dX12_readsSign_0 rfl rfl ?_
  refine rc_VI (h' := 1) [] okv_X12_nextLetter (by decide) (congrArg Prod.fst k0_125) tw_937 rfl rfl (Nat.le_of_ble_eq_true rfl) dX12_readsSign_1 (by decide) h (fun r1 σ1 τ1 h => ?_)
  refine r_iload_n 1 dX12_readsSign_4 rfl rfl ?_
  refine r_icmp_eq (tgt := 20) dX12_readsSign_5 (by decide) (fun c2 => ?_) (fun c2 => ?_)
  · replace h := h.1 c2
    refine r_aload_n 0 dX12_readsSign_20 rfl rfl ?_
    refine r_dup dX12_readsSign_21 rfl ?_
    refine r_getI (j := 2) (by decide) (congrArg Prod.fst k0_125) c12_11 (by decide) rfl tw_812 dX12_readsSign_22 ?_
    refine r_iconst dX12_readsSign_25 ci_1 ?_
    refine r_iadd dX12_readsSign_26 ?_
    refine r_putI (j := 2) (by decide) (congrArg Prod.fst k0_125) c12_11 (by decide) rfl (Or.inl rfl) tw_812 dX12_readsSign_27 ?_
    refine r_iconst dX12_readsSign_30 ci_1 ?_
    exact r_zret rfl (Nat.le_refl _) (Nat.le_refl _) dX12_readsSign_31 (Or.inr rfl) ⟨rfl, rfl, rfl, _, rfl, h⟩
  · replace h := h.2 c2
    refine r_aload_n 0 dX12_readsSign_8 rfl rfl ?_
    refine r_iconst dX12_readsSign_9 ci_1 ?_
    refine r_aload_n 0 dX12_readsSign_10 rfl rfl ?_
    refine r_getI (j := 2) (by decide) (congrArg Prod.fst k0_125) c12_11 (by decide) rfl tw_812 dX12_readsSign_11 ?_
    refine rc_VI (h' := 0) [.int 1, .int (σ1 125 2)] okv_X12_fails (by decide) (congrArg Prod.fst k0_125) tw_957 rfl rfl (Nat.le_of_ble_eq_true rfl) dX12_readsSign_14 (by decide) h (fun r3 σ3 τ3 h => ?_)
    refine r_pop dX12_readsSign_17 rfl ?_
    refine r_iconst dX12_readsSign_18 ci_0 ?_
    exact r_zret rfl (Nat.le_refl _) (Nat.le_refl _) dX12_readsSign_19 (Or.inl rfl) ⟨rfl, rfl, rfl, _, rfl, h⟩
theorem s_X12_readsSign {l : Launch} {D : zDD} {b : Nat} (p1 : Int32) (σ : zSg) (τ : zLm) {Q : Int32 → zSg → zLm → Prop} (h : SI l D b M_X12_nextLetter 1 G0 [.ref (b + 125)] σ τ (fun r1 σ1 τ1 => (r1 = p1 → Q 1 (st2 σ1 125 2 ((σ1 125 2) + 1)) τ1) ∧ (¬ r1 = p1 → SI l D b M_X12_fails 0 G0 [.ref (b + 125), .int 1, .int (σ1 125 2)] σ1 τ1 (fun r3 σ3 τ3 => Q 0 σ3 τ3)))) : SI l D b M_X12_readsSign 2 G0 [.ref (b + 125), .int p1] σ τ Q := zS.of (by decide) (Nat.le_of_ble_eq_true rfl) rfl (w_X12_readsSign_0 p1 σ τ h)

theorem dX12_good_0 : decode cX12_good 0 = .ok (.iconst 0, 1) := by decide +kernel
theorem dX12_good_1 : decode cX12_good 1 = .ok (.istore_n 1, 1) := by decide +kernel
theorem dX12_good_2 : decode cX12_good 2 = .ok (.iconst 0, 1) := by decide +kernel
theorem dX12_good_3 : decode cX12_good 3 = .ok (.istore_n 2, 1) := by decide +kernel
theorem dX12_good_4 : decode cX12_good 4 = .ok (.iload_n 2, 1) := by decide +kernel
theorem dX12_good_5 : decode cX12_good 5 = .ok (.aload_n 0, 1) := by decide +kernel
theorem dX12_good_6 : decode cX12_good 6 = .ok (.getfield 141, 3) := by decide +kernel
theorem dX12_good_9 : decode cX12_good 9 = .ok (.if_icmp .ge 27, 3) := by decide +kernel
theorem dX12_good_12 : decode cX12_good 12 = .ok (.iload_n 1, 1) := by decide +kernel
theorem dX12_good_13 : decode cX12_good 13 = .ok (.aload_n 0, 1) := by decide +kernel
theorem dX12_good_14 : decode cX12_good 14 = .ok (.iload_n 2, 1) := by decide +kernel
theorem dX12_good_15 : decode cX12_good 15 = .ok (.invokevirtual 156, 3) := by decide +kernel
theorem dX12_good_18 : decode cX12_good 18 = .ok (.ifCond .eq 9, 3) := by decide +kernel
theorem dX12_good_21 : decode cX12_good 21 = .ok (.iconst 1, 1) := by decide +kernel
theorem dX12_good_22 : decode cX12_good 22 = .ok (.iload_n 2, 1) := by decide +kernel
theorem dX12_good_23 : decode cX12_good 23 = .ok (.ishl, 1) := by decide +kernel
theorem dX12_good_24 : decode cX12_good 24 = .ok (.goto 4, 3) := by decide +kernel
theorem dX12_good_27 : decode cX12_good 27 = .ok (.iconst 0, 1) := by decide +kernel
theorem dX12_good_28 : decode cX12_good 28 = .ok (.ior, 1) := by decide +kernel
theorem dX12_good_29 : decode cX12_good 29 = .ok (.istore_n 1, 1) := by decide +kernel
theorem dX12_good_30 : decode cX12_good 30 = .ok (.iinc 2 1, 3) := by decide +kernel
theorem dX12_good_33 : decode cX12_good 33 = .ok (.goto (-29), 3) := by decide +kernel
theorem dX12_good_36 : decode cX12_good 36 = .ok (.iload_n 1, 1) := by decide +kernel
theorem dX12_good_37 : decode cX12_good 37 = .ok (.ireturn, 1) := by decide +kernel
theorem w_X12_good_4 {l : Launch} {D : zDD} {b : Nat} (x1 x2 : Int32) (σ : zSg) (τ : zLm) {Q : Int32 → zSg → zLm → Prop} (h : ((σ 125 16) ≤ x2 → Q x1 σ τ) ∧ (¬ (σ 125 16) ≤ x2 → (SI l D b M_X12_isGood 1 G0 [.ref (b + 125), .int x2] σ τ (fun r2 σ2 τ2 => (r2 = 0 → AI l D b M_X12_good 2 G0 Q 4 [(0, .ref (b + 125)), (1, .int (x1 ||| 0)), (2, .int (x2 + 1))] [] G0 σ2 τ2) ∧ (¬ r2 = 0 → (∀ v4 : Int32, v4 = x1 ||| ((1 : Int32) <<< (x2 &&& 31)) → AI l D b M_X12_good 2 G0 Q 4 [(0, .ref (b + 125)), (1, .int v4), (2, .int (x2 + 1))] [] G0 σ2 τ2)))))) : AI l D b M_X12_good 2 G0 Q 4 [(0, .ref (b + 125)), (1, .int x1), (2, .int x2)] [] G0 σ τ := by
  refine r_iload_n 2 dX12_good_4 rfl rfl ?_
  refine r_aload_n 0 dX12_good_5 rfl rfl ?_
  refine r_getI (j := 16) (by decide) (congrArg Prod.fst k0_125) c12_11 (by decide) rfl tw_826 dX12_good_6 ?_
  refine r_icmp_ge (tgt := 36) dX12_good_9 (by decide) (fun c1 => ?_) (fun c1 => ?_)
  · replace h := h.1 c1
    refine r_iload_n 1 dX12_good_36 rfl rfl ?_
    exact r_iret rfl (Nat.le_refl _) (Nat.le_refl _) dX12_good_37 ⟨rfl, rfl, rfl, _, rfl, h⟩
  · replace h := h.2 c1
    refine r_iload_n 1 dX12_good_12 rfl rfl ?_
    refine r_aload_n 0 dX12_good_13 rfl rfl ?_
    refine r_iload_n 2 dX12_good_14 rfl rfl ?_
    refine rc_VI (h' := 1) [.int x2] okv_X12_isGood (by decide) (congrArg Prod.fst k0_125) tw_989 rfl rfl (Nat.le_of_ble_eq_true rfl) dX12_good_15 (by decide) h (fun r2 σ2 τ2 h => ?_)
    refine r_if_eq (tgt := 27) dX12_good_18 (by decide) (fun c3 => ?_) (fun c3 => ?_)
    · replace h := h.1 c3
      refine r_iconst dX12_good_27 ci_0 ?_
      refine r_ior dX12_good_28 ?_
      refine r_istore_n dX12_good_29 rfl (by decide) rfl ?_
      refine r_inc 2 dX12_good_30 rfl ci_1 (by decide) rfl ?_
      refine r_goto (tgt := 4) dX12_good_33 (by decide) ?_
      refine r_lv [2, 1, 0] rfl ?_
      exact h
    · replace h := h.2 c3
      refine r_iconst dX12_good_21 ci_1 ?_
      refine r_iload_n 2 dX12_good_22 rfl rfl ?_
      refine r_ishl dX12_good_23 ?_
      refine r_goto (tgt := 28) dX12_good_24 (by decide) ?_
      refine r_ior dX12_good_28 ?_
      refine r_nmI (fun v4 ev4 => ?_)
      replace h := h v4 ev4
      refine r_istore_n dX12_good_29 rfl (by decide) rfl ?_
      refine r_inc 2 dX12_good_30 rfl ci_1 (by decide) rfl ?_
      refine r_goto (tgt := 4) dX12_good_33 (by decide) ?_
      refine r_lv [2, 1, 0] rfl ?_
      exact h

theorem w_X12_good_0 {l : Launch} {D : zDD} {b : Nat} (σ : zSg) (τ : zLm) {Q : Int32 → zSg → zLm → Prop} (h : AI l D b M_X12_good 2 G0 Q 4 [(0, .ref (b + 125)), (1, .int 0), (2, .int 0)] [] G0 σ τ) : AI l D b M_X12_good 2 G0 Q 0 [(0, .ref (b + 125))] [] G0 σ τ := by
  refine r_iconst dX12_good_0 ci_0 ?_
  refine r_istore_n dX12_good_1 rfl (by decide) rfl ?_
  refine r_iconst dX12_good_2 ci_0 ?_
  refine r_istore_n dX12_good_3 rfl (by decide) rfl ?_
  refine r_lv [2, 1, 0] rfl ?_
  exact h
theorem s_X12_good {l : Launch} {D : zDD} {b : Nat} (σ : zSg) (τ : zLm) {Q : Int32 → zSg → zLm → Prop} (h : AI l D b M_X12_good 2 G0 Q 4 [(0, .ref (b + 125)), (1, .int 0), (2, .int 0)] [] G0 σ τ) : SI l D b M_X12_good 2 G0 [.ref (b + 125)] σ τ Q := zS.of (by decide) (Nat.le_of_ble_eq_true rfl) rfl (w_X12_good_0 σ τ h)

theorem dX12_isBearable_0 : decode cX12_isBearable 0 = .ok (.aload_n 0, 1) := by decide +kernel
theorem dX12_isBearable_1 : decode cX12_isBearable 1 = .ok (.iload_n 1, 1) := by decide +kernel
theorem dX12_isBearable_2 : decode cX12_isBearable 2 = .ok (.invokevirtual 165, 3) := by decide +kernel
theorem dX12_isBearable_5 : decode cX12_isBearable 5 = .ok (.aload_n 0, 1) := by decide +kernel
theorem dX12_isBearable_6 : decode cX12_isBearable 6 = .ok (.invokevirtual 168, 3) := by decide +kernel
theorem dX12_isBearable_9 : decode cX12_isBearable 9 = .ok (.if_icmp .gt 7, 3) := by decide +kernel
theorem dX12_isBearable_12 : decode cX12_isBearable 12 = .ok (.iconst 1, 1) := by decide +kernel
theorem dX12_isBearable_13 : decode cX12_isBearable 13 = .ok (.goto 4, 3) := by decide +kernel
theorem dX12_isBearable_16 : decode cX12_isBearable 16 = .ok (.iconst 0, 1) := by decide +kernel
theorem dX12_isBearable_17 : decode cX12_isBearable 17 = .ok (.ireturn, 1) := by decide +kernel
theorem w_X12_isBearable_0 {l : Launch} {D : zDD} {b : Nat} (p1 : Int32) (σ : zSg) (τ : zLm) {Q : Int32 → zSg → zLm → Prop} (h : SI l D b M_X12_weight 1 G0 [.ref (b + 125), .int p1] σ τ (fun r1 σ1 τ1 => SI l D b M_X12_leftAll 1 G0 [.ref (b + 125)] σ1 τ1 (fun r2 σ2 τ2 => (r2 < r1 → Q 0 σ2 τ2) ∧ (¬ r2 < r1 → Q 1 σ2 τ2)))) : AI l D b M_X12_isBearable 2 G0 Q 0 [(0, .ref (b + 125)), (1, .int p1)] [] G0 σ τ := by
  refine r_aload_n 0 dX12_isBearable_0 rfl rfl ?_
  refine r_iload_n 1 dX12_isBearable_1 rfl rfl ?_
  refine rc_VI (h' := 1) [.int p1] okv_X12_weight (by decide) (congrArg Prod.fst k0_125) tw_1062 rfl rfl (Nat.le_of_ble_eq_true rfl) dX12_isBearable_2 (by decide) h (fun r1 σ1 τ1 h => ?_)
  refine r_aload_n 0 dX12_isBearable_5 rfl rfl ?_
  refine rc_VI (h' := 1) [] okv_X12_leftAll (by decide) (congrArg Prod.fst k0_125) tw_993 rfl rfl (Nat.le_of_ble_eq_true rfl) dX12_isBearable_6 (by decide) h (fun r2 σ2 τ2 h => ?_)
  refine r_icmp_gt (tgt := 16) dX12_isBearable_9 (by decide) (fun c3 => ?_) (fun c3 => ?_)
  · replace h := h.1 c3
    refine r_iconst dX12_isBearable_16 ci_0 ?_
    exact r_zret rfl (Nat.le_refl _) (Nat.le_refl _) dX12_isBearable_17 (Or.inl rfl) ⟨rfl, rfl, rfl, _, rfl, h⟩
  · replace h := h.2 c3
    refine r_iconst dX12_isBearable_12 ci_1 ?_
    refine r_goto (tgt := 17) dX12_isBearable_13 (by decide) ?_
    exact r_zret rfl (Nat.le_refl _) (Nat.le_refl _) dX12_isBearable_17 (Or.inr rfl) ⟨rfl, rfl, rfl, _, rfl, h⟩
theorem s_X12_isBearable {l : Launch} {D : zDD} {b : Nat} (p1 : Int32) (σ : zSg) (τ : zLm) {Q : Int32 → zSg → zLm → Prop} (h : SI l D b M_X12_weight 1 G0 [.ref (b + 125), .int p1] σ τ (fun r1 σ1 τ1 => SI l D b M_X12_leftAll 1 G0 [.ref (b + 125)] σ1 τ1 (fun r2 σ2 τ2 => (r2 < r1 → Q 0 σ2 τ2) ∧ (¬ r2 < r1 → Q 1 σ2 τ2)))) : SI l D b M_X12_isBearable 2 G0 [.ref (b + 125), .int p1] σ τ Q := zS.of (by decide) (Nat.le_of_ble_eq_true rfl) rfl (w_X12_isBearable_0 p1 σ τ h)

theorem dX12_parts_0 : decode cX12_parts 0 = .ok (.iconst 0, 1) := by decide +kernel
theorem dX12_parts_1 : decode cX12_parts 1 = .ok (.istore_n 2, 1) := by decide +kernel
theorem dX12_parts_2 : decode cX12_parts 2 = .ok (.iconst 0, 1) := by decide +kernel
theorem dX12_parts_3 : decode cX12_parts 3 = .ok (.istore_n 3, 1) := by decide +kernel
theorem dX12_parts_4 : decode cX12_parts 4 = .ok (.iload_n 0, 1) := by decide +kernel
theorem dX12_parts_5 : decode cX12_parts 5 = .ok (.istore 4, 2) := by decide +kernel
theorem dX12_parts_7 : decode cX12_parts 7 = .ok (.iconst 0, 1) := by decide +kernel
theorem dX12_parts_8 : decode cX12_parts 8 = .ok (.istore 5, 2) := by decide +kernel
theorem dX12_parts_10 : decode cX12_parts 10 = .ok (.iload 5, 2) := by decide +kernel
theorem dX12_parts_12 : decode cX12_parts 12 = .ok (.bipush 25, 2) := by decide +kernel
theorem dX12_parts_14 : decode cX12_parts 14 = .ok (.if_icmp .ge 58, 3) := by decide +kernel
theorem dX12_parts_17 : decode cX12_parts 17 = .ok (.iload 4, 2) := by decide +kernel
theorem dX12_parts_19 : decode cX12_parts 19 = .ok (.iload 5, 2) := by decide +kernel
theorem dX12_parts_21 : decode cX12_parts 21 = .ok (.invokestatic 193, 3) := by decide +kernel
theorem dX12_parts_24 : decode cX12_parts 24 = .ok (.ifCond .eq 42, 3) := by decide +kernel
theorem dX12_parts_27 : decode cX12_parts 27 = .ok (.iload_n 0, 1) := by decide +kernel
theorem dX12_parts_28 : decode cX12_parts 28 = .ok (.iload 5, 2) := by decide +kernel
theorem dX12_parts_30 : decode cX12_parts 30 = .ok (.invokestatic 197, 3) := by decide +kernel
theorem dX12_parts_33 : decode cX12_parts 33 = .ok (.istore 6, 2) := by decide +kernel
theorem dX12_parts_35 : decode cX12_parts 35 = .ok (.iinc 2 1, 3) := by decide +kernel
theorem dX12_parts_38 : decode cX12_parts 38 = .ok (.iload 6, 2) := by decide +kernel
theorem dX12_parts_40 : decode cX12_parts 40 = .ok (.invokestatic 162, 3) := by decide +kernel
theorem dX12_parts_43 : decode cX12_parts 43 = .ok (.iload_n 3, 1) := by decide +kernel
theorem dX12_parts_44 : decode cX12_parts 44 = .ok (.invokestatic 162, 3) := by decide +kernel
theorem dX12_parts_47 : decode cX12_parts 47 = .ok (.if_icmp .le 8, 3) := by decide +kernel
theorem dX12_parts_50 : decode cX12_parts 50 = .ok (.iload 6, 2) := by decide +kernel
theorem dX12_parts_52 : decode cX12_parts 52 = .ok (.goto 4, 3) := by decide +kernel
theorem dX12_parts_55 : decode cX12_parts 55 = .ok (.iload_n 3, 1) := by decide +kernel
theorem dX12_parts_56 : decode cX12_parts 56 = .ok (.istore_n 3, 1) := by decide +kernel
theorem dX12_parts_57 : decode cX12_parts 57 = .ok (.iload 4, 2) := by decide +kernel
theorem dX12_parts_59 : decode cX12_parts 59 = .ok (.iload 6, 2) := by decide +kernel
theorem dX12_parts_61 : decode cX12_parts 61 = .ok (.iconst (-1), 1) := by decide +kernel
theorem dX12_parts_62 : decode cX12_parts 62 = .ok (.ixor, 1) := by decide +kernel
theorem dX12_parts_63 : decode cX12_parts 63 = .ok (.iand, 1) := by decide +kernel
theorem dX12_parts_64 : decode cX12_parts 64 = .ok (.istore 4, 2) := by decide +kernel
theorem dX12_parts_66 : decode cX12_parts 66 = .ok (.iinc 5 1, 3) := by decide +kernel
theorem dX12_parts_69 : decode cX12_parts 69 = .ok (.goto (-59), 3) := by decide +kernel
theorem dX12_parts_72 : decode cX12_parts 72 = .ok (.iload_n 1, 1) := by decide +kernel
theorem dX12_parts_73 : decode cX12_parts 73 = .ok (.ifCond .eq 7, 3) := by decide +kernel
theorem dX12_parts_76 : decode cX12_parts 76 = .ok (.iload_n 3, 1) := by decide +kernel
theorem dX12_parts_77 : decode cX12_parts 77 = .ok (.goto 4, 3) := by decide +kernel
theorem dX12_parts_80 : decode cX12_parts 80 = .ok (.iload_n 2, 1) := by decide +kernel
theorem dX12_parts_81 : decode cX12_parts 81 = .ok (.ireturn, 1) := by decide +kernel
theorem w_X12_parts_10 {l : Launch} {D : zDD} {b : Nat} {γ : zGm} (x0 x1 x2 x3 x4 x5 : Int32) (σ : zSg) (τ : zLm) {Q : Int32 → zSg → zLm → Prop} (h : (25 ≤ x5 → ((x1 = 0 → Q x2 σ τ) ∧ (¬ x1 = 0 → Q x3 σ τ))) ∧ (¬ 25 ≤ x5 → (SI l D b M_X12_has 0 γ [.int x4, .int x5] σ τ (fun r3 σ3 τ3 => (r3 = 0 → AI l D b M_X12_parts 2 γ Q 10 [(0, .int x0), (1, .int x1), (2, .int x2), (3, .int x3), (4, .int x4), (5, .int (x5 + 1))] [] γ σ3 τ3) ∧ (¬ r3 = 0 → (SI l D b M_X12_partOf 1 γ [.int x0, .int x5] σ3 τ3 (fun r5 σ5 τ5 => SI l D b M_X12_bits 0 γ [.int r5] σ5 τ5 (fun r6 σ6 τ6 => SI l D b M_X12_bits 0 γ [.int x3] σ6 τ6 (fun r7 σ7 τ7 => (r6 ≤ r7 → AI l D b M_X12_parts 2 γ Q 10 [(0, .int x0), (1, .int x1), (2, .int (x2 + 1)), (3, .int x3), (4, .int (x4 &&& (r5 ^^^ (-1)))), (5, .int (x5 + 1))] [] γ σ7 τ7) ∧ (¬ r6 ≤ r7 → AI l D b M_X12_parts 2 γ Q 10 [(0, .int x0), (1, .int x1), (2, .int (x2 + 1)), (3, .int r5), (4, .int (x4 &&& (r5 ^^^ (-1)))), (5, .int (x5 + 1))] [] γ σ7 τ7)))))))))) : AI l D b M_X12_parts 2 γ Q 10 [(0, .int x0), (1, .int x1), (2, .int x2), (3, .int x3), (4, .int x4), (5, .int x5)] [] γ σ τ := by
  refine r_iload 5 dX12_parts_10 rfl ?_
  refine r_bipush dX12_parts_12 cb_25 ?_
  refine r_icmp_ge (tgt := 72) dX12_parts_14 (by decide) (fun c1 => ?_) (fun c1 => ?_)
  · replace h := h.1 c1
    refine r_iload_n 1 dX12_parts_72 rfl rfl ?_
    refine r_if_eq (tgt := 80) dX12_parts_73 (by decide) (fun c2 => ?_) (fun c2 => ?_)
    · replace h := h.1 c2
      refine r_iload_n 2 dX12_parts_80 rfl rfl ?_
      exact r_iret rfl (Nat.le_refl _) (Nat.le_refl _) dX12_parts_81 ⟨rfl, rfl, rfl, _, rfl, h⟩
    · replace h := h.2 c2
      refine r_iload_n 3 dX12_parts_76 rfl rfl ?_
      refine r_goto (tgt := 81) dX12_parts_77 (by decide) ?_
      exact r_iret rfl (Nat.le_refl _) (Nat.le_refl _) dX12_parts_81 ⟨rfl, rfl, rfl, _, rfl, h⟩
  · replace h := h.2 c1
    refine r_iload 4 dX12_parts_17 rfl ?_
    refine r_iload 5 dX12_parts_19 rfl ?_
    refine rc_SI (h' := 0) [.int x4, .int x5] oks_X12_has tw_1016 rfl rfl (Nat.le_of_ble_eq_true rfl) dX12_parts_21 (by decide) h (fun r3 σ3 τ3 h => ?_)
    refine r_if_eq (tgt := 66) dX12_parts_24 (by decide) (fun c4 => ?_) (fun c4 => ?_)
    · replace h := h.1 c4
      refine r_inc 5 dX12_parts_66 rfl ci_1 (by decide) rfl ?_
      refine r_goto (tgt := 10) dX12_parts_69 (by decide) ?_
      refine r_lv [1, 2, 3, 4, 5, 0] rfl ?_
      exact h
    · replace h := h.2 c4
      refine r_iload_n 0 dX12_parts_27 rfl rfl ?_
      refine r_iload 5 dX12_parts_28 rfl ?_
      refine rc_SI (h' := 1) [.int x0, .int x5] oks_X12_partOf tw_1039 rfl rfl (Nat.le_of_ble_eq_true rfl) dX12_parts_30 (by decide) h (fun r5 σ5 τ5 h => ?_)
      refine r_istore dX12_parts_33 (by decide) rfl ?_
      refine r_inc 3 dX12_parts_35 rfl ci_1 (by decide) rfl ?_
      refine r_iload 1 dX12_parts_38 rfl ?_
      refine rc_SI (h' := 0) [.int r5] oks_X12_bits tw_1046 rfl rfl (Nat.le_of_ble_eq_true rfl) dX12_parts_40 (by decide) h (fun r6 σ6 τ6 h => ?_)
      refine r_iload_n 4 dX12_parts_43 rfl rfl ?_
      refine rc_SI (h' := 0) [.int x3] oks_X12_bits tw_1046 rfl rfl (Nat.le_of_ble_eq_true rfl) dX12_parts_44 (by decide) h (fun r7 σ7 τ7 h => ?_)
      refine r_icmp_le (tgt := 55) dX12_parts_47 (by decide) (fun c8 => ?_) (fun c8 => ?_)
      · replace h := h.1 c8
        refine r_iload_n 4 dX12_parts_55 rfl rfl ?_
        refine r_istore_n dX12_parts_56 rfl (by decide) rfl ?_
        refine r_iload 5 dX12_parts_57 rfl ?_
        refine r_iload 2 dX12_parts_59 rfl ?_
        refine r_iconst dX12_parts_61 ci_m1 ?_
        refine r_ixor dX12_parts_62 ?_
        refine r_iand dX12_parts_63 ?_
        refine r_istore dX12_parts_64 (by decide) rfl ?_
        refine r_inc 6 dX12_parts_66 rfl ci_1 (by decide) rfl ?_
        refine r_goto (tgt := 10) dX12_parts_69 (by decide) ?_
        refine r_lv [5, 6, 3, 2, 1, 0] rfl ?_
        exact h
      · replace h := h.2 c8
        refine r_iload 1 dX12_parts_50 rfl ?_
        refine r_goto (tgt := 56) dX12_parts_52 (by decide) ?_
        refine r_istore_n dX12_parts_56 rfl (by decide) rfl ?_
        refine r_iload 5 dX12_parts_57 rfl ?_
        refine r_iload 2 dX12_parts_59 rfl ?_
        refine r_iconst dX12_parts_61 ci_m1 ?_
        refine r_ixor dX12_parts_62 ?_
        refine r_iand dX12_parts_63 ?_
        refine r_istore dX12_parts_64 (by decide) rfl ?_
        refine r_inc 6 dX12_parts_66 rfl ci_1 (by decide) rfl ?_
        refine r_goto (tgt := 10) dX12_parts_69 (by decide) ?_
        refine r_lv [5, 6, 3, 2, 1, 0] rfl ?_
        exact h

theorem w_X12_parts_0 {l : Launch} {D : zDD} {b : Nat} {γ : zGm} (p1 p2 : Int32) (σ : zSg) (τ : zLm) {Q : Int32 → zSg → zLm → Prop} (h : AI l D b M_X12_parts 2 γ Q 10 [(0, .int p1), (1, .int p2), (2, .int 0), (3, .int 0), (4, .int p1), (5, .int 0)] [] γ σ τ) : AI l D b M_X12_parts 2 γ Q 0 [(0, .int p1), (1, .int p2)] [] γ σ τ := by
  refine r_iconst dX12_parts_0 ci_0 ?_
  refine r_istore_n dX12_parts_1 rfl (by decide) rfl ?_
  refine r_iconst dX12_parts_2 ci_0 ?_
  refine r_istore_n dX12_parts_3 rfl (by decide) rfl ?_
  refine r_iload_n 2 dX12_parts_4 rfl rfl ?_
  refine r_istore dX12_parts_5 (by decide) rfl ?_
  refine r_iconst dX12_parts_7 ci_0 ?_
  refine r_istore dX12_parts_8 (by decide) rfl ?_
  refine r_lv [4, 5, 3, 2, 1, 0] rfl ?_
  exact h
theorem s_X12_parts {l : Launch} {D : zDD} {b : Nat} {γ : zGm} (p1 p2 : Int32) (σ : zSg) (τ : zLm) {Q : Int32 → zSg → zLm → Prop} (h : AI l D b M_X12_parts 2 γ Q 10 [(0, .int p1), (1, .int p2), (2, .int 0), (3, .int 0), (4, .int p1), (5, .int 0)] [] γ σ τ) : SI l D b M_X12_parts 2 γ [.int p1, .int p2] σ τ Q := zS.of (by decide) (Nat.le_of_ble_eq_true rfl) rfl (w_X12_parts_0 p1 p2 σ τ h)

theorem dX12_edge_0 : decode cX12_edge 0 = .ok (.iconst 0, 1) := by decide +kernel
theorem dX12_edge_1 : decode cX12_edge 1 = .ok (.istore_n 1, 1) := by decide +kernel
theorem dX12_edge_2 : decode cX12_edge 2 = .ok (.iconst 0, 1) := by decide +kernel
theorem dX12_edge_3 : decode cX12_edge 3 = .ok (.istore_n 2, 1) := by decide +kernel
theorem dX12_edge_4 : decode cX12_edge 4 = .ok (.iload_n 2, 1) := by decide +kernel
theorem dX12_edge_5 : decode cX12_edge 5 = .ok (.bipush 25, 2) := by decide +kernel
theorem dX12_edge_7 : decode cX12_edge 7 = .ok (.if_icmp .ge 29, 3) := by decide +kernel
theorem dX12_edge_10 : decode cX12_edge 10 = .ok (.iload_n 1, 1) := by decide +kernel
theorem dX12_edge_11 : decode cX12_edge 11 = .ok (.iload_n 0, 1) := by decide +kernel
theorem dX12_edge_12 : decode cX12_edge 12 = .ok (.iload_n 2, 1) := by decide +kernel
theorem dX12_edge_13 : decode cX12_edge 13 = .ok (.invokestatic 193, 3) := by decide +kernel
theorem dX12_edge_16 : decode cX12_edge 16 = .ok (.ifCond .eq 11, 3) := by decide +kernel
theorem dX12_edge_19 : decode cX12_edge 19 = .ok (.iload_n 0, 1) := by decide +kernel
theorem dX12_edge_20 : decode cX12_edge 20 = .ok (.iload_n 2, 1) := by decide +kernel
theorem dX12_edge_21 : decode cX12_edge 21 = .ok (.invokestatic 200, 3) := by decide +kernel
theorem dX12_edge_24 : decode cX12_edge 24 = .ok (.goto 4, 3) := by decide +kernel
theorem dX12_edge_27 : decode cX12_edge 27 = .ok (.iconst 0, 1) := by decide +kernel
theorem dX12_edge_28 : decode cX12_edge 28 = .ok (.iadd, 1) := by decide +kernel
theorem dX12_edge_29 : decode cX12_edge 29 = .ok (.istore_n 1, 1) := by decide +kernel
theorem dX12_edge_30 : decode cX12_edge 30 = .ok (.iinc 2 1, 3) := by decide +kernel
theorem dX12_edge_33 : decode cX12_edge 33 = .ok (.goto (-29), 3) := by decide +kernel
theorem dX12_edge_36 : decode cX12_edge 36 = .ok (.iload_n 1, 1) := by decide +kernel
theorem dX12_edge_37 : decode cX12_edge 37 = .ok (.ireturn, 1) := by decide +kernel
theorem w_X12_edge_4 {l : Launch} {D : zDD} {b : Nat} {γ : zGm} (x0 x1 x2 : Int32) (σ : zSg) (τ : zLm) {Q : Int32 → zSg → zLm → Prop} (h : (25 ≤ x2 → Q x1 σ τ) ∧ (¬ 25 ≤ x2 → (SI l D b M_X12_has 0 γ [.int x0, .int x2] σ τ (fun r2 σ2 τ2 => (r2 = 0 → AI l D b M_X12_edge 2 γ Q 4 [(0, .int x0), (1, .int (x1 + 0)), (2, .int (x2 + 1))] [] γ σ2 τ2) ∧ (¬ r2 = 0 → SI l D b M_X12_edgeOf 1 γ [.int x0, .int x2] σ2 τ2 (fun r4 σ4 τ4 => AI l D b M_X12_edge 2 γ Q 4 [(0, .int x0), (1, .int (x1 + r4)), (2, .int (x2 + 1))] [] γ σ4 τ4)))))) : AI l D b M_X12_edge 2 γ Q 4 [(0, .int x0), (1, .int x1), (2, .int x2)] [] γ σ τ := by
  refine r_iload_n 2 dX12_edge_4 rfl rfl ?_
  refine r_bipush dX12_edge_5 cb_25 ?_
  refine r_icmp_ge (tgt := 36) dX12_edge_7 (by decide) (fun c1 => ?_) (fun c1 => ?_)
  · replace h := h.1 c1
    refine r_iload_n 1 dX12_edge_36 rfl rfl ?_
    exact r_iret rfl (Nat.le_refl _) (Nat.le_refl _) dX12_edge_37 ⟨rfl, rfl, rfl, _, rfl, h⟩
  · replace h := h.2 c1
    refine r_iload_n 1 dX12_edge_10 rfl rfl ?_
    refine r_iload_n 0 dX12_edge_11 rfl rfl ?_
    refine r_iload_n 2 dX12_edge_12 rfl rfl ?_
    refine rc_SI (h' := 0) [.int x0, .int x2] oks_X12_has tw_1016 rfl rfl (Nat.le_of_ble_eq_true rfl) dX12_edge_13 (by decide) h (fun r2 σ2 τ2 h => ?_)
    refine r_if_eq (tgt := 27) dX12_edge_16 (by decide) (fun c3 => ?_) (fun c3 => ?_)
    · replace h := h.1 c3
      refine r_iconst dX12_edge_27 ci_0 ?_
      refine r_iadd dX12_edge_28 ?_
      refine r_istore_n dX12_edge_29 rfl (by decide) rfl ?_
      refine r_inc 2 dX12_edge_30 rfl ci_1 (by decide) rfl ?_
      refine r_goto (tgt := 4) dX12_edge_33 (by decide) ?_
      refine r_lv [2, 1, 0] rfl ?_
      exact h
    · replace h := h.2 c3
      refine r_iload_n 0 dX12_edge_19 rfl rfl ?_
      refine r_iload_n 2 dX12_edge_20 rfl rfl ?_
      refine rc_SI (h' := 1) [.int x0, .int x2] oks_X12_edgeOf tw_1052 rfl rfl (Nat.le_of_ble_eq_true rfl) dX12_edge_21 (by decide) h (fun r4 σ4 τ4 h => ?_)
      refine r_goto (tgt := 28) dX12_edge_24 (by decide) ?_
      refine r_iadd dX12_edge_28 ?_
      refine r_istore_n dX12_edge_29 rfl (by decide) rfl ?_
      refine r_inc 2 dX12_edge_30 rfl ci_1 (by decide) rfl ?_
      refine r_goto (tgt := 4) dX12_edge_33 (by decide) ?_
      refine r_lv [2, 1, 0] rfl ?_
      exact h

theorem w_X12_edge_0 {l : Launch} {D : zDD} {b : Nat} {γ : zGm} (p1 : Int32) (σ : zSg) (τ : zLm) {Q : Int32 → zSg → zLm → Prop} (h : AI l D b M_X12_edge 2 γ Q 4 [(0, .int p1), (1, .int 0), (2, .int 0)] [] γ σ τ) : AI l D b M_X12_edge 2 γ Q 0 [(0, .int p1)] [] γ σ τ := by
  refine r_iconst dX12_edge_0 ci_0 ?_
  refine r_istore_n dX12_edge_1 rfl (by decide) rfl ?_
  refine r_iconst dX12_edge_2 ci_0 ?_
  refine r_istore_n dX12_edge_3 rfl (by decide) rfl ?_
  refine r_lv [2, 1, 0] rfl ?_
  exact h
theorem s_X12_edge {l : Launch} {D : zDD} {b : Nat} {γ : zGm} (p1 : Int32) (σ : zSg) (τ : zLm) {Q : Int32 → zSg → zLm → Prop} (h : AI l D b M_X12_edge 2 γ Q 4 [(0, .int p1), (1, .int 0), (2, .int 0)] [] γ σ τ) : SI l D b M_X12_edge 2 γ [.int p1] σ τ Q := zS.of (by decide) (Nat.le_of_ble_eq_true rfl) rfl (w_X12_edge_0 p1 σ τ h)

theorem dX12_hold_0 : decode cX12_hold 0 = .ok (.iconst 0, 1) := by decide +kernel
theorem dX12_hold_1 : decode cX12_hold 1 = .ok (.istore_n 1, 1) := by decide +kernel
theorem dX12_hold_2 : decode cX12_hold 2 = .ok (.iconst 0, 1) := by decide +kernel
theorem dX12_hold_3 : decode cX12_hold 3 = .ok (.istore_n 2, 1) := by decide +kernel
theorem dX12_hold_4 : decode cX12_hold 4 = .ok (.iload_n 2, 1) := by decide +kernel
theorem dX12_hold_5 : decode cX12_hold 5 = .ok (.bipush 25, 2) := by decide +kernel
theorem dX12_hold_7 : decode cX12_hold 7 = .ok (.if_icmp .ge 36, 3) := by decide +kernel
theorem dX12_hold_10 : decode cX12_hold 10 = .ok (.iload_n 1, 1) := by decide +kernel
theorem dX12_hold_11 : decode cX12_hold 11 = .ok (.iload_n 0, 1) := by decide +kernel
theorem dX12_hold_12 : decode cX12_hold 12 = .ok (.iload_n 2, 1) := by decide +kernel
theorem dX12_hold_13 : decode cX12_hold 13 = .ok (.invokestatic 193, 3) := by decide +kernel
theorem dX12_hold_16 : decode cX12_hold 16 = .ok (.ifCond .eq 18, 3) := by decide +kernel
theorem dX12_hold_19 : decode cX12_hold 19 = .ok (.iload_n 0, 1) := by decide +kernel
theorem dX12_hold_20 : decode cX12_hold 20 = .ok (.iload_n 2, 1) := by decide +kernel
theorem dX12_hold_21 : decode cX12_hold 21 = .ok (.invokestatic 200, 3) := by decide +kernel
theorem dX12_hold_24 : decode cX12_hold 24 = .ok (.iconst 3, 1) := by decide +kernel
theorem dX12_hold_25 : decode cX12_hold 25 = .ok (.if_icmp .lt 9, 3) := by decide +kernel
theorem dX12_hold_28 : decode cX12_hold 28 = .ok (.iconst 1, 1) := by decide +kernel
theorem dX12_hold_29 : decode cX12_hold 29 = .ok (.iload_n 2, 1) := by decide +kernel
theorem dX12_hold_30 : decode cX12_hold 30 = .ok (.ishl, 1) := by decide +kernel
theorem dX12_hold_31 : decode cX12_hold 31 = .ok (.goto 4, 3) := by decide +kernel
theorem dX12_hold_34 : decode cX12_hold 34 = .ok (.iconst 0, 1) := by decide +kernel
theorem dX12_hold_35 : decode cX12_hold 35 = .ok (.ior, 1) := by decide +kernel
theorem dX12_hold_36 : decode cX12_hold 36 = .ok (.istore_n 1, 1) := by decide +kernel
theorem dX12_hold_37 : decode cX12_hold 37 = .ok (.iinc 2 1, 3) := by decide +kernel
theorem dX12_hold_40 : decode cX12_hold 40 = .ok (.goto (-36), 3) := by decide +kernel
theorem dX12_hold_43 : decode cX12_hold 43 = .ok (.iload_n 1, 1) := by decide +kernel
theorem dX12_hold_44 : decode cX12_hold 44 = .ok (.ireturn, 1) := by decide +kernel
theorem w_X12_hold_4 {l : Launch} {D : zDD} {b : Nat} {γ : zGm} (x0 x1 x2 : Int32) (σ : zSg) (τ : zLm) {Q : Int32 → zSg → zLm → Prop} (h : (25 ≤ x2 → Q x1 σ τ) ∧ (¬ 25 ≤ x2 → (SI l D b M_X12_has 0 γ [.int x0, .int x2] σ τ (fun r2 σ2 τ2 => (r2 = 0 → AI l D b M_X12_hold 2 γ Q 4 [(0, .int x0), (1, .int (x1 ||| 0)), (2, .int (x2 + 1))] [] γ σ2 τ2) ∧ (¬ r2 = 0 → (SI l D b M_X12_edgeOf 1 γ [.int x0, .int x2] σ2 τ2 (fun r4 σ4 τ4 => (r4 < 3 → AI l D b M_X12_hold 2 γ Q 4 [(0, .int x0), (1, .int (x1 ||| 0)), (2, .int (x2 + 1))] [] γ σ4 τ4) ∧ (¬ r4 < 3 → (∀ v6 : Int32, v6 = x1 ||| ((1 : Int32) <<< (x2 &&& 31)) → AI l D b M_X12_hold 2 γ Q 4 [(0, .int x0), (1, .int v6), (2, .int (x2 + 1))] [] γ σ4 τ4))))))))) : AI l D b M_X12_hold 2 γ Q 4 [(0, .int x0), (1, .int x1), (2, .int x2)] [] γ σ τ := by
  refine r_iload_n 2 dX12_hold_4 rfl rfl ?_
  refine r_bipush dX12_hold_5 cb_25 ?_
  refine r_icmp_ge (tgt := 43) dX12_hold_7 (by decide) (fun c1 => ?_) (fun c1 => ?_)
  · replace h := h.1 c1
    refine r_iload_n 1 dX12_hold_43 rfl rfl ?_
    exact r_iret rfl (Nat.le_refl _) (Nat.le_refl _) dX12_hold_44 ⟨rfl, rfl, rfl, _, rfl, h⟩
  · replace h := h.2 c1
    refine r_iload_n 1 dX12_hold_10 rfl rfl ?_
    refine r_iload_n 0 dX12_hold_11 rfl rfl ?_
    refine r_iload_n 2 dX12_hold_12 rfl rfl ?_
    refine rc_SI (h' := 0) [.int x0, .int x2] oks_X12_has tw_1016 rfl rfl (Nat.le_of_ble_eq_true rfl) dX12_hold_13 (by decide) h (fun r2 σ2 τ2 h => ?_)
    refine r_if_eq (tgt := 34) dX12_hold_16 (by decide) (fun c3 => ?_) (fun c3 => ?_)
    · replace h := h.1 c3
      refine r_iconst dX12_hold_34 ci_0 ?_
      refine r_ior dX12_hold_35 ?_
      refine r_istore_n dX12_hold_36 rfl (by decide) rfl ?_
      refine r_inc 2 dX12_hold_37 rfl ci_1 (by decide) rfl ?_
      refine r_goto (tgt := 4) dX12_hold_40 (by decide) ?_
      refine r_lv [2, 1, 0] rfl ?_
      exact h
    · replace h := h.2 c3
      refine r_iload_n 0 dX12_hold_19 rfl rfl ?_
      refine r_iload_n 2 dX12_hold_20 rfl rfl ?_
      refine rc_SI (h' := 1) [.int x0, .int x2] oks_X12_edgeOf tw_1052 rfl rfl (Nat.le_of_ble_eq_true rfl) dX12_hold_21 (by decide) h (fun r4 σ4 τ4 h => ?_)
      refine r_iconst dX12_hold_24 ci_3 ?_
      refine r_icmp_lt (tgt := 34) dX12_hold_25 (by decide) (fun c5 => ?_) (fun c5 => ?_)
      · replace h := h.1 c5
        refine r_iconst dX12_hold_34 ci_0 ?_
        refine r_ior dX12_hold_35 ?_
        refine r_istore_n dX12_hold_36 rfl (by decide) rfl ?_
        refine r_inc 2 dX12_hold_37 rfl ci_1 (by decide) rfl ?_
        refine r_goto (tgt := 4) dX12_hold_40 (by decide) ?_
        refine r_lv [2, 1, 0] rfl ?_
        exact h
      · replace h := h.2 c5
        refine r_iconst dX12_hold_28 ci_1 ?_
        refine r_iload_n 2 dX12_hold_29 rfl rfl ?_
        refine r_ishl dX12_hold_30 ?_
        refine r_goto (tgt := 35) dX12_hold_31 (by decide) ?_
        refine r_ior dX12_hold_35 ?_
        refine r_nmI (fun v6 ev6 => ?_)
        replace h := h v6 ev6
        refine r_istore_n dX12_hold_36 rfl (by decide) rfl ?_
        refine r_inc 2 dX12_hold_37 rfl ci_1 (by decide) rfl ?_
        refine r_goto (tgt := 4) dX12_hold_40 (by decide) ?_
        refine r_lv [2, 1, 0] rfl ?_
        exact h

theorem w_X12_hold_0 {l : Launch} {D : zDD} {b : Nat} {γ : zGm} (p1 : Int32) (σ : zSg) (τ : zLm) {Q : Int32 → zSg → zLm → Prop} (h : AI l D b M_X12_hold 2 γ Q 4 [(0, .int p1), (1, .int 0), (2, .int 0)] [] γ σ τ) : AI l D b M_X12_hold 2 γ Q 0 [(0, .int p1)] [] γ σ τ := by
  refine r_iconst dX12_hold_0 ci_0 ?_
  refine r_istore_n dX12_hold_1 rfl (by decide) rfl ?_
  refine r_iconst dX12_hold_2 ci_0 ?_
  refine r_istore_n dX12_hold_3 rfl (by decide) rfl ?_
  refine r_lv [2, 1, 0] rfl ?_
  exact h
theorem s_X12_hold {l : Launch} {D : zDD} {b : Nat} {γ : zGm} (p1 : Int32) (σ : zSg) (τ : zLm) {Q : Int32 → zSg → zLm → Prop} (h : AI l D b M_X12_hold 2 γ Q 4 [(0, .int p1), (1, .int 0), (2, .int 0)] [] γ σ τ) : SI l D b M_X12_hold 2 γ [.int p1] σ τ Q := zS.of (by decide) (Nat.le_of_ble_eq_true rfl) rfl (w_X12_hold_0 p1 σ τ h)

theorem dX12_eater_0 : decode cX12_eater 0 = .ok (.aload_n 0, 1) := by decide +kernel
theorem dX12_eater_1 : decode cX12_eater 1 = .ok (.iload_n 1, 1) := by decide +kernel
theorem dX12_eater_2 : decode cX12_eater 2 = .ok (.invokevirtual 220, 3) := by decide +kernel
theorem dX12_eater_5 : decode cX12_eater 5 = .ok (.ifCond .ne 8, 3) := by decide +kernel
theorem dX12_eater_8 : decode cX12_eater 8 = .ok (.ldc 206, 2) := by decide +kernel
theorem dX12_eater_10 : decode cX12_eater 10 = .ok (.goto 39, 3) := by decide +kernel
theorem dX12_eater_13 : decode cX12_eater 13 = .ok (.iload_n 2, 1) := by decide +kernel
theorem dX12_eater_14 : decode cX12_eater 14 = .ok (.iconst 0, 1) := by decide +kernel
theorem dX12_eater_15 : decode cX12_eater 15 = .ok (.iconst 1, 1) := by decide +kernel
theorem dX12_eater_16 : decode cX12_eater 16 = .ok (.invokestatic 70, 3) := by decide +kernel
theorem dX12_eater_19 : decode cX12_eater 19 = .ok (.ifCond .ne 8, 3) := by decide +kernel
theorem dX12_eater_22 : decode cX12_eater 22 = .ok (.ldc 74, 2) := by decide +kernel
theorem dX12_eater_24 : decode cX12_eater 24 = .ok (.goto 25, 3) := by decide +kernel
theorem dX12_eater_27 : decode cX12_eater 27 = .ok (.iload_n 2, 1) := by decide +kernel
theorem dX12_eater_28 : decode cX12_eater 28 = .ok (.ifCond .ne 12, 3) := by decide +kernel
theorem dX12_eater_31 : decode cX12_eater 31 = .ok (.aload_n 0, 1) := by decide +kernel
theorem dX12_eater_32 : decode cX12_eater 32 = .ok (.getfield 32, 3) := by decide +kernel
theorem dX12_eater_35 : decode cX12_eater 35 = .ok (.iload_n 1, 1) := by decide +kernel
theorem dX12_eater_36 : decode cX12_eater 36 = .ok (.iaload, 1) := by decide +kernel
theorem dX12_eater_37 : decode cX12_eater 37 = .ok (.goto 12, 3) := by decide +kernel
theorem dX12_eater_40 : decode cX12_eater 40 = .ok (.aload_n 0, 1) := by decide +kernel
theorem dX12_eater_41 : decode cX12_eater 41 = .ok (.getfield 35, 3) := by decide +kernel
theorem dX12_eater_44 : decode cX12_eater 44 = .ok (.bipush 20, 2) := by decide +kernel
theorem dX12_eater_46 : decode cX12_eater 46 = .ok (.iload_n 1, 1) := by decide +kernel
theorem dX12_eater_47 : decode cX12_eater 47 = .ok (.iadd, 1) := by decide +kernel
theorem dX12_eater_48 : decode cX12_eater 48 = .ok (.iaload, 1) := by decide +kernel
theorem dX12_eater_49 : decode cX12_eater 49 = .ok (.ireturn, 1) := by decide +kernel
theorem w_X12_eater_0 {l : Launch} {D : zDD} {b : Nat} (p1 p2 : Int32) (σ : zSg) (τ : zLm) {Q : Int32 → zSg → zLm → Prop} (h : SI l D b M_X12_isEater 1 G0 [.ref (b + 125), .int p1] σ τ (fun r1 σ1 τ1 => (¬ r1 = 0 → (SI l D b M_X12_in 0 G0 [.int p2, .int 0, .int 1] σ1 τ1 (fun r3 σ3 τ3 => (¬ r3 = 0 → ((¬ p2 = 0 → (vp_in (20 + p1) 26 ∧ Q (σ3 133 ((20 + p1).toNatClampNeg)) σ3 τ3)) ∧ (p2 = 0 → (vp_in p1 6 ∧ Q (σ3 132 p1.toNatClampNeg) σ3 τ3)))) ∧ (r3 = 0 → Q (-1000000002) σ3 τ3)))) ∧ (r1 = 0 → Q (-1000000001) σ1 τ1))) : AI l D b M_X12_eater 2 G0 Q 0 [(0, .ref (b + 125)), (1, .int p1), (2, .int p2)] [] G0 σ τ := by
  refine r_aload_n 0 dX12_eater_0 rfl rfl ?_
  refine r_iload_n 1 dX12_eater_1 rfl rfl ?_
  refine rc_VI (h' := 1) [.int p1] okv_X12_isEater (by decide) (congrArg Prod.fst k0_125) tw_1070 rfl rfl (Nat.le_of_ble_eq_true rfl) dX12_eater_2 (by decide) h (fun r1 σ1 τ1 h => ?_)
  refine r_if_ne (tgt := 13) dX12_eater_5 (by decide) (fun c2 => ?_) (fun c2 => ?_)
  · replace h := h.1 c2
    refine r_iload_n 2 dX12_eater_13 rfl rfl ?_
    refine r_iconst dX12_eater_14 ci_0 ?_
    refine r_iconst dX12_eater_15 ci_1 ?_
    refine rc_SI (h' := 0) [.int p2, .int 0, .int 1] oks_X12_in tw_924 rfl rfl (Nat.le_of_ble_eq_true rfl) dX12_eater_16 (by decide) h (fun r3 σ3 τ3 h => ?_)
    refine r_if_ne (tgt := 27) dX12_eater_19 (by decide) (fun c4 => ?_) (fun c4 => ?_)
    · replace h := h.1 c4
      refine r_iload_n 2 dX12_eater_27 rfl rfl ?_
      refine r_if_ne (tgt := 40) dX12_eater_28 (by decide) (fun c5 => ?_) (fun c5 => ?_)
      · replace h := h.1 c5
        refine r_aload_n 0 dX12_eater_40 rfl rfl ?_
        refine r_getR (j := 20) (by decide) (congrArg Prod.fst k0_125) c12_11 (by decide) rfl g0_125_20 tw_830 dX12_eater_41 ?_
        refine r_bipush dX12_eater_44 cb_20 ?_
        refine r_iload_n 1 dX12_eater_46 rfl rfl ?_
        refine r_iadd dX12_eater_47 ?_
        refine r_iald (by decide) k0_133 dX12_eater_48 h.1 ?_
        replace h := h.2
        exact r_iret rfl (Nat.le_refl _) (Nat.le_refl _) dX12_eater_49 ⟨rfl, rfl, rfl, _, rfl, h⟩
      · replace h := h.2 c5
        refine r_aload_n 0 dX12_eater_31 rfl rfl ?_
        refine r_getR (j := 19) (by decide) (congrArg Prod.fst k0_125) c12_11 (by decide) rfl g0_125_19 tw_829 dX12_eater_32 ?_
        refine r_iload_n 1 dX12_eater_35 rfl rfl ?_
        refine r_iald (by decide) k0_132 dX12_eater_36 h.1 ?_
        replace h := h.2
        refine r_goto (tgt := 49) dX12_eater_37 (by decide) ?_
        exact r_iret rfl (Nat.le_refl _) (Nat.le_refl _) dX12_eater_49 ⟨rfl, rfl, rfl, _, rfl, h⟩
    · replace h := h.2 c4
      refine r_ldc (v := (-1000000002)) rfl tw_927 rfl dX12_eater_22 ?_
      refine r_goto (tgt := 49) dX12_eater_24 (by decide) ?_
      exact r_iret rfl (Nat.le_refl _) (Nat.le_refl _) dX12_eater_49 ⟨rfl, rfl, rfl, _, rfl, h⟩
  · replace h := h.2 c2
    refine r_ldc (v := (-1000000001)) rfl tw_1035 rfl dX12_eater_8 ?_
    refine r_goto (tgt := 49) dX12_eater_10 (by decide) ?_
    exact r_iret rfl (Nat.le_refl _) (Nat.le_refl _) dX12_eater_49 ⟨rfl, rfl, rfl, _, rfl, h⟩
theorem s_X12_eater {l : Launch} {D : zDD} {b : Nat} (p1 p2 : Int32) (σ : zSg) (τ : zLm) {Q : Int32 → zSg → zLm → Prop} (h : SI l D b M_X12_isEater 1 G0 [.ref (b + 125), .int p1] σ τ (fun r1 σ1 τ1 => (¬ r1 = 0 → (SI l D b M_X12_in 0 G0 [.int p2, .int 0, .int 1] σ1 τ1 (fun r3 σ3 τ3 => (¬ r3 = 0 → ((¬ p2 = 0 → (vp_in (20 + p1) 26 ∧ Q (σ3 133 ((20 + p1).toNatClampNeg)) σ3 τ3)) ∧ (p2 = 0 → (vp_in p1 6 ∧ Q (σ3 132 p1.toNatClampNeg) σ3 τ3)))) ∧ (r3 = 0 → Q (-1000000002) σ3 τ3)))) ∧ (r1 = 0 → Q (-1000000001) σ1 τ1))) : SI l D b M_X12_eater 2 G0 [.ref (b + 125), .int p1, .int p2] σ τ Q := zS.of (by decide) (Nat.le_of_ble_eq_true rfl) rfl (w_X12_eater_0 p1 p2 σ τ h)

theorem dX12_sheetsFor_0 : decode cX12_sheetsFor 0 = .ok (.aload_n 0, 1) := by decide +kernel
theorem dX12_sheetsFor_1 : decode cX12_sheetsFor 1 = .ok (.getfield 35, 3) := by decide +kernel
theorem dX12_sheetsFor_4 : decode cX12_sheetsFor 4 = .ok (.bipush 8, 2) := by decide +kernel
theorem dX12_sheetsFor_6 : decode cX12_sheetsFor 6 = .ok (.iload_n 1, 1) := by decide +kernel
theorem dX12_sheetsFor_7 : decode cX12_sheetsFor 7 = .ok (.iadd, 1) := by decide +kernel
theorem dX12_sheetsFor_8 : decode cX12_sheetsFor 8 = .ok (.iaload, 1) := by decide +kernel
theorem dX12_sheetsFor_9 : decode cX12_sheetsFor 9 = .ok (.ifCond .ne 7, 3) := by decide +kernel
theorem dX12_sheetsFor_12 : decode cX12_sheetsFor 12 = .ok (.iconst 1, 1) := by decide +kernel
theorem dX12_sheetsFor_13 : decode cX12_sheetsFor 13 = .ok (.goto 17, 3) := by decide +kernel
theorem dX12_sheetsFor_16 : decode cX12_sheetsFor 16 = .ok (.aload_n 0, 1) := by decide +kernel
theorem dX12_sheetsFor_17 : decode cX12_sheetsFor 17 = .ok (.aload_n 0, 1) := by decide +kernel
theorem dX12_sheetsFor_18 : decode cX12_sheetsFor 18 = .ok (.getfield 35, 3) := by decide +kernel
theorem dX12_sheetsFor_21 : decode cX12_sheetsFor 21 = .ok (.bipush 8, 2) := by decide +kernel
theorem dX12_sheetsFor_23 : decode cX12_sheetsFor 23 = .ok (.iload_n 1, 1) := by decide +kernel
theorem dX12_sheetsFor_24 : decode cX12_sheetsFor 24 = .ok (.iadd, 1) := by decide +kernel
theorem dX12_sheetsFor_25 : decode cX12_sheetsFor 25 = .ok (.iaload, 1) := by decide +kernel
theorem dX12_sheetsFor_26 : decode cX12_sheetsFor 26 = .ok (.iconst 0, 1) := by decide +kernel
theorem dX12_sheetsFor_27 : decode cX12_sheetsFor 27 = .ok (.invokevirtual 226, 3) := by decide +kernel
theorem dX12_sheetsFor_30 : decode cX12_sheetsFor 30 = .ok (.ireturn, 1) := by decide +kernel
theorem w_X12_sheetsFor_0 {l : Launch} {D : zDD} {b : Nat} (p1 : Int32) (σ : zSg) (τ : zLm) {Q : Int32 → zSg → zLm → Prop} (h : vp_in (8 + p1) 26 ∧ ((¬ (σ 133 ((8 + p1).toNatClampNeg)) = 0 → (vp_in (8 + p1) 26 ∧ SI l D b M_X12_fewestSheets 1 G0 [.ref (b + 125), .int (σ 133 ((8 + p1).toNatClampNeg)), .int 0] σ τ (fun r2 σ2 τ2 => Q r2 σ2 τ2))) ∧ ((σ 133 ((8 + p1).toNatClampNeg)) = 0 → Q 1 σ τ))) : AI l D b M_X12_sheetsFor 2 G0 Q 0 [(0, .ref (b + 125)), (1, .int p1)] [] G0 σ τ := by
  refine r_aload_n 0 dX12_sheetsFor_0 rfl rfl ?_
  refine r_getR (j := 20) (by decide) (congrArg Prod.fst k0_125) c12_11 (by decide) rfl g0_125_20 tw_830 dX12_sheetsFor_1 ?_
  refine r_bipush dX12_sheetsFor_4 cb_8 ?_
  refine r_iload_n 1 dX12_sheetsFor_6 rfl rfl ?_
  refine r_iadd dX12_sheetsFor_7 ?_
  refine r_iald (by decide) k0_133 dX12_sheetsFor_8 h.1 ?_
  replace h := h.2
  refine r_if_ne (tgt := 16) dX12_sheetsFor_9 (by decide) (fun c1 => ?_) (fun c1 => ?_)
  · replace h := h.1 c1
    refine r_aload_n 0 dX12_sheetsFor_16 rfl rfl ?_
    refine r_aload_n 0 dX12_sheetsFor_17 rfl rfl ?_
    refine r_getR (j := 20) (by decide) (congrArg Prod.fst k0_125) c12_11 (by decide) rfl g0_125_20 tw_830 dX12_sheetsFor_18 ?_
    refine r_bipush dX12_sheetsFor_21 cb_8 ?_
    refine r_iload_n 1 dX12_sheetsFor_23 rfl rfl ?_
    refine r_iadd dX12_sheetsFor_24 ?_
    refine r_iald (by decide) k0_133 dX12_sheetsFor_25 h.1 ?_
    replace h := h.2
    refine r_iconst dX12_sheetsFor_26 ci_0 ?_
    refine rc_VI (h' := 1) [.int (σ 133 ((8 + p1).toNatClampNeg)), .int 0] okv_X12_fewestSheets (by decide) (congrArg Prod.fst k0_125) tw_1091 rfl rfl (Nat.le_of_ble_eq_true rfl) dX12_sheetsFor_27 (by decide) h (fun r2 σ2 τ2 h => ?_)
    exact r_iret rfl (Nat.le_refl _) (Nat.le_refl _) dX12_sheetsFor_30 ⟨rfl, rfl, rfl, _, rfl, h⟩
  · replace h := h.2 c1
    refine r_iconst dX12_sheetsFor_12 ci_1 ?_
    refine r_goto (tgt := 30) dX12_sheetsFor_13 (by decide) ?_
    exact r_iret rfl (Nat.le_refl _) (Nat.le_refl _) dX12_sheetsFor_30 ⟨rfl, rfl, rfl, _, rfl, h⟩
theorem s_X12_sheetsFor {l : Launch} {D : zDD} {b : Nat} (p1 : Int32) (σ : zSg) (τ : zLm) {Q : Int32 → zSg → zLm → Prop} (h : vp_in (8 + p1) 26 ∧ ((¬ (σ 133 ((8 + p1).toNatClampNeg)) = 0 → (vp_in (8 + p1) 26 ∧ SI l D b M_X12_fewestSheets 1 G0 [.ref (b + 125), .int (σ 133 ((8 + p1).toNatClampNeg)), .int 0] σ τ (fun r2 σ2 τ2 => Q r2 σ2 τ2))) ∧ ((σ 133 ((8 + p1).toNatClampNeg)) = 0 → Q 1 σ τ))) : SI l D b M_X12_sheetsFor 2 G0 [.ref (b + 125), .int p1] σ τ Q := zS.of (by decide) (Nat.le_of_ble_eq_true rfl) rfl (w_X12_sheetsFor_0 p1 σ τ h)

theorem dX12_putOn_0 : decode cX12_putOn 0 = .ok (.aload_n 0, 1) := by decide +kernel
theorem dX12_putOn_1 : decode cX12_putOn 1 = .ok (.iload_n 1, 1) := by decide +kernel
theorem dX12_putOn_2 : decode cX12_putOn 2 = .ok (.invokevirtual 203, 3) := by decide +kernel
theorem dX12_putOn_5 : decode cX12_putOn 5 = .ok (.ifCond .ne 6, 3) := by decide +kernel
theorem dX12_putOn_8 : decode cX12_putOn 8 = .ok (.ldc 206, 2) := by decide +kernel
theorem dX12_putOn_10 : decode cX12_putOn 10 = .ok (.ireturn, 1) := by decide +kernel
theorem dX12_putOn_11 : decode cX12_putOn 11 = .ok (.aload_n 0, 1) := by decide +kernel
theorem dX12_putOn_12 : decode cX12_putOn 12 = .ok (.getfield 35, 3) := by decide +kernel
theorem dX12_putOn_15 : decode cX12_putOn 15 = .ok (.bipush 14, 2) := by decide +kernel
theorem dX12_putOn_17 : decode cX12_putOn 17 = .ok (.iload_n 1, 1) := by decide +kernel
theorem dX12_putOn_18 : decode cX12_putOn 18 = .ok (.iadd, 1) := by decide +kernel
theorem dX12_putOn_19 : decode cX12_putOn 19 = .ok (.iaload, 1) := by decide +kernel
theorem dX12_putOn_20 : decode cX12_putOn 20 = .ok (.iconst 1, 1) := by decide +kernel
theorem dX12_putOn_21 : decode cX12_putOn 21 = .ok (.if_icmp .eq 6, 3) := by decide +kernel
theorem dX12_putOn_24 : decode cX12_putOn 24 = .ok (.ldc 233, 2) := by decide +kernel
theorem dX12_putOn_26 : decode cX12_putOn 26 = .ok (.ireturn, 1) := by decide +kernel
theorem dX12_putOn_27 : decode cX12_putOn 27 = .ok (.aload_n 0, 1) := by decide +kernel
theorem dX12_putOn_28 : decode cX12_putOn 28 = .ok (.invokevirtual 240, 3) := by decide +kernel
theorem dX12_putOn_31 : decode cX12_putOn 31 = .ok (.ifCond .ne 6, 3) := by decide +kernel
theorem dX12_putOn_34 : decode cX12_putOn 34 = .ok (.ldc 78, 2) := by decide +kernel
theorem dX12_putOn_36 : decode cX12_putOn 36 = .ok (.ireturn, 1) := by decide +kernel
theorem dX12_putOn_37 : decode cX12_putOn 37 = .ok (.aload_n 0, 1) := by decide +kernel
theorem dX12_putOn_38 : decode cX12_putOn 38 = .ok (.invokevirtual 234, 3) := by decide +kernel
theorem dX12_putOn_41 : decode cX12_putOn 41 = .ok (.aload_n 0, 1) := by decide +kernel
theorem dX12_putOn_42 : decode cX12_putOn 42 = .ok (.getfield 35, 3) := by decide +kernel
theorem dX12_putOn_45 : decode cX12_putOn 45 = .ok (.bipush 14, 2) := by decide +kernel
theorem dX12_putOn_47 : decode cX12_putOn 47 = .ok (.iload_n 1, 1) := by decide +kernel
theorem dX12_putOn_48 : decode cX12_putOn 48 = .ok (.iadd, 1) := by decide +kernel
theorem dX12_putOn_49 : decode cX12_putOn 49 = .ok (.iconst 2, 1) := by decide +kernel
theorem dX12_putOn_50 : decode cX12_putOn 50 = .ok (.iastore, 1) := by decide +kernel
theorem dX12_putOn_51 : decode cX12_putOn 51 = .ok (.aload_n 0, 1) := by decide +kernel
theorem dX12_putOn_52 : decode cX12_putOn 52 = .ok (.invokevirtual 240, 3) := by decide +kernel
theorem dX12_putOn_55 : decode cX12_putOn 55 = .ok (.ireturn, 1) := by decide +kernel
theorem w_X12_putOn_0 {l : Launch} {D : zDD} {b : Nat} (p1 : Int32) (σ : zSg) (τ : zLm) {Q : Int32 → zSg → zLm → Prop} (h : SI l D b M_X12_isTrouble 1 G0 [.ref (b + 125), .int p1] σ τ (fun r1 σ1 τ1 => (¬ r1 = 0 → (vp_in (14 + p1) 26 ∧ (((σ1 133 ((14 + p1).toNatClampNeg)) = 1 → (SI l D b M_X12_potsFree 1 G0 [.ref (b + 125)] σ1 τ1 (fun r4 σ4 τ4 => (¬ r4 = 0 → (SV l D b M_X12_remember 0 G0 [.ref (b + 125)] σ4 τ4 (fun σ6 τ6 => vp_in (14 + p1) 26 ∧ SI l D b M_X12_potsFree 1 G0 [.ref (b + 125)] (st2 σ6 133 ((14 + p1).toNatClampNeg) 2) τ6 (fun r7 σ7 τ7 => Q r7 σ7 τ7)))) ∧ (r4 = 0 → Q (-1000000004) σ4 τ4)))) ∧ (¬ (σ1 133 ((14 + p1).toNatClampNeg)) = 1 → Q (-1000000003) σ1 τ1)))) ∧ (r1 = 0 → Q (-1000000001) σ1 τ1))) : AI l D b M_X12_putOn 2 G0 Q 0 [(0, .ref (b + 125)), (1, .int p1)] [] G0 σ τ := by
  refine r_aload_n 0 dX12_putOn_0 rfl rfl ?_
  refine r_iload_n 1 dX12_putOn_1 rfl rfl ?_
  refine rc_VI (h' := 1) [.int p1] okv_X12_isTrouble (by decide) (congrArg Prod.fst k0_125) tw_1031 rfl rfl (Nat.le_of_ble_eq_true rfl) dX12_putOn_2 (by decide) h (fun r1 σ1 τ1 h => ?_)
  refine r_if_ne (tgt := 11) dX12_putOn_5 (by decide) (fun c2 => ?_) (fun c2 => ?_)
  · replace h := h.1 c2
    refine r_aload_n 0 dX12_putOn_11 rfl rfl ?_
    refine r_getR (j := 20) (by decide) (congrArg Prod.fst k0_125) c12_11 (by decide) rfl g0_125_20 tw_830 dX12_putOn_12 ?_
    refine r_bipush dX12_putOn_15 cb_14 ?_
    refine r_iload_n 1 dX12_putOn_17 rfl rfl ?_
    refine r_iadd dX12_putOn_18 ?_
    refine r_iald (by decide) k0_133 dX12_putOn_19 h.1 ?_
    replace h := h.2
    refine r_iconst dX12_putOn_20 ci_1 ?_
    refine r_icmp_eq (tgt := 27) dX12_putOn_21 (by decide) (fun c3 => ?_) (fun c3 => ?_)
    · replace h := h.1 c3
      refine r_aload_n 0 dX12_putOn_27 rfl rfl ?_
      refine rc_VI (h' := 1) [] okv_X12_potsFree (by decide) (congrArg Prod.fst k0_125) tw_1104 rfl rfl (Nat.le_of_ble_eq_true rfl) dX12_putOn_28 (by decide) h (fun r4 σ4 τ4 h => ?_)
      refine r_if_ne (tgt := 37) dX12_putOn_31 (by decide) (fun c5 => ?_) (fun c5 => ?_)
      · replace h := h.1 c5
        refine r_aload_n 0 dX12_putOn_37 rfl rfl ?_
        refine rc_VV (h' := 0) [] okv_X12_remember (by decide) (congrArg Prod.fst k0_125) tw_1079 rfl rfl (Nat.le_of_ble_eq_true rfl) dX12_putOn_38 (by decide) h (fun σ6 τ6 h => ?_)
        refine r_aload_n 0 dX12_putOn_41 rfl rfl ?_
        refine r_getR (j := 20) (by decide) (congrArg Prod.fst k0_125) c12_11 (by decide) rfl g0_125_20 tw_830 dX12_putOn_42 ?_
        refine r_bipush dX12_putOn_45 cb_14 ?_
        refine r_iload_n 1 dX12_putOn_47 rfl rfl ?_
        refine r_iadd dX12_putOn_48 ?_
        refine r_iconst dX12_putOn_49 ci_2 ?_
        refine r_iast (by decide) k0_133 dX12_putOn_50 h.1 ?_
        replace h := h.2
        refine r_aload_n 0 dX12_putOn_51 rfl rfl ?_
        refine rc_VI (h' := 1) [] okv_X12_potsFree (by decide) (congrArg Prod.fst k0_125) tw_1104 rfl rfl (Nat.le_of_ble_eq_true rfl) dX12_putOn_52 (by decide) h (fun r7 σ7 τ7 h => ?_)
        exact r_iret rfl (Nat.le_refl _) (Nat.le_refl _) dX12_putOn_55 ⟨rfl, rfl, rfl, _, rfl, h⟩
      · replace h := h.2 c5
        refine r_ldc (v := (-1000000004)) rfl tw_928 rfl dX12_putOn_34 ?_
        exact r_iret rfl (Nat.le_refl _) (Nat.le_refl _) dX12_putOn_36 ⟨rfl, rfl, rfl, _, rfl, h⟩
    · replace h := h.2 c3
      refine r_ldc (v := (-1000000003)) rfl tw_1078 rfl dX12_putOn_24 ?_
      exact r_iret rfl (Nat.le_refl _) (Nat.le_refl _) dX12_putOn_26 ⟨rfl, rfl, rfl, _, rfl, h⟩
  · replace h := h.2 c2
    refine r_ldc (v := (-1000000001)) rfl tw_1035 rfl dX12_putOn_8 ?_
    exact r_iret rfl (Nat.le_refl _) (Nat.le_refl _) dX12_putOn_10 ⟨rfl, rfl, rfl, _, rfl, h⟩
theorem s_X12_putOn {l : Launch} {D : zDD} {b : Nat} (p1 : Int32) (σ : zSg) (τ : zLm) {Q : Int32 → zSg → zLm → Prop} (h : SI l D b M_X12_isTrouble 1 G0 [.ref (b + 125), .int p1] σ τ (fun r1 σ1 τ1 => (¬ r1 = 0 → (vp_in (14 + p1) 26 ∧ (((σ1 133 ((14 + p1).toNatClampNeg)) = 1 → (SI l D b M_X12_potsFree 1 G0 [.ref (b + 125)] σ1 τ1 (fun r4 σ4 τ4 => (¬ r4 = 0 → (SV l D b M_X12_remember 0 G0 [.ref (b + 125)] σ4 τ4 (fun σ6 τ6 => vp_in (14 + p1) 26 ∧ SI l D b M_X12_potsFree 1 G0 [.ref (b + 125)] (st2 σ6 133 ((14 + p1).toNatClampNeg) 2) τ6 (fun r7 σ7 τ7 => Q r7 σ7 τ7)))) ∧ (r4 = 0 → Q (-1000000004) σ4 τ4)))) ∧ (¬ (σ1 133 ((14 + p1).toNatClampNeg)) = 1 → Q (-1000000003) σ1 τ1)))) ∧ (r1 = 0 → Q (-1000000001) σ1 τ1))) : SI l D b M_X12_putOn 2 G0 [.ref (b + 125), .int p1] σ τ Q := zS.of (by decide) (Nat.le_of_ble_eq_true rfl) rfl (w_X12_putOn_0 p1 σ τ h)

theorem dX12_takeOff_0 : decode cX12_takeOff 0 = .ok (.aload_n 0, 1) := by decide +kernel
theorem dX12_takeOff_1 : decode cX12_takeOff 1 = .ok (.iload_n 1, 1) := by decide +kernel
theorem dX12_takeOff_2 : decode cX12_takeOff 2 = .ok (.invokevirtual 203, 3) := by decide +kernel
theorem dX12_takeOff_5 : decode cX12_takeOff 5 = .ok (.ifCond .ne 6, 3) := by decide +kernel
theorem dX12_takeOff_8 : decode cX12_takeOff 8 = .ok (.ldc 206, 2) := by decide +kernel
theorem dX12_takeOff_10 : decode cX12_takeOff 10 = .ok (.ireturn, 1) := by decide +kernel
theorem dX12_takeOff_11 : decode cX12_takeOff 11 = .ok (.aload_n 0, 1) := by decide +kernel
theorem dX12_takeOff_12 : decode cX12_takeOff 12 = .ok (.getfield 35, 3) := by decide +kernel
theorem dX12_takeOff_15 : decode cX12_takeOff 15 = .ok (.bipush 14, 2) := by decide +kernel
theorem dX12_takeOff_17 : decode cX12_takeOff 17 = .ok (.iload_n 1, 1) := by decide +kernel
theorem dX12_takeOff_18 : decode cX12_takeOff 18 = .ok (.iadd, 1) := by decide +kernel
theorem dX12_takeOff_19 : decode cX12_takeOff 19 = .ok (.iaload, 1) := by decide +kernel
theorem dX12_takeOff_20 : decode cX12_takeOff 20 = .ok (.iconst 2, 1) := by decide +kernel
theorem dX12_takeOff_21 : decode cX12_takeOff 21 = .ok (.if_icmp .eq 6, 3) := by decide +kernel
theorem dX12_takeOff_24 : decode cX12_takeOff 24 = .ok (.ldc 233, 2) := by decide +kernel
theorem dX12_takeOff_26 : decode cX12_takeOff 26 = .ok (.ireturn, 1) := by decide +kernel
theorem dX12_takeOff_27 : decode cX12_takeOff 27 = .ok (.aload_n 0, 1) := by decide +kernel
theorem dX12_takeOff_28 : decode cX12_takeOff 28 = .ok (.invokevirtual 234, 3) := by decide +kernel
theorem dX12_takeOff_31 : decode cX12_takeOff 31 = .ok (.aload_n 0, 1) := by decide +kernel
theorem dX12_takeOff_32 : decode cX12_takeOff 32 = .ok (.getfield 35, 3) := by decide +kernel
theorem dX12_takeOff_35 : decode cX12_takeOff 35 = .ok (.bipush 14, 2) := by decide +kernel
theorem dX12_takeOff_37 : decode cX12_takeOff 37 = .ok (.iload_n 1, 1) := by decide +kernel
theorem dX12_takeOff_38 : decode cX12_takeOff 38 = .ok (.iadd, 1) := by decide +kernel
theorem dX12_takeOff_39 : decode cX12_takeOff 39 = .ok (.iconst 1, 1) := by decide +kernel
theorem dX12_takeOff_40 : decode cX12_takeOff 40 = .ok (.iastore, 1) := by decide +kernel
theorem dX12_takeOff_41 : decode cX12_takeOff 41 = .ok (.aload_n 0, 1) := by decide +kernel
theorem dX12_takeOff_42 : decode cX12_takeOff 42 = .ok (.getfield 35, 3) := by decide +kernel
theorem dX12_takeOff_45 : decode cX12_takeOff 45 = .ok (.iconst 2, 1) := by decide +kernel
theorem dX12_takeOff_46 : decode cX12_takeOff 46 = .ok (.iload_n 1, 1) := by decide +kernel
theorem dX12_takeOff_47 : decode cX12_takeOff 47 = .ok (.iadd, 1) := by decide +kernel
theorem dX12_takeOff_48 : decode cX12_takeOff 48 = .ok (.iaload, 1) := by decide +kernel
theorem dX12_takeOff_49 : decode cX12_takeOff 49 = .ok (.ireturn, 1) := by decide +kernel
theorem w_X12_takeOff_0 {l : Launch} {D : zDD} {b : Nat} (p1 : Int32) (σ : zSg) (τ : zLm) {Q : Int32 → zSg → zLm → Prop} (h : SI l D b M_X12_isTrouble 1 G0 [.ref (b + 125), .int p1] σ τ (fun r1 σ1 τ1 => (¬ r1 = 0 → (vp_in (14 + p1) 26 ∧ (((σ1 133 ((14 + p1).toNatClampNeg)) = 2 → (SV l D b M_X12_remember 0 G0 [.ref (b + 125)] σ1 τ1 (fun σ4 τ4 => vp_in (14 + p1) 26 ∧ (vp_in (2 + p1) 26 ∧ Q ((st2 σ4 133 ((14 + p1).toNatClampNeg) 1) 133 ((2 + p1).toNatClampNeg)) (st2 σ4 133 ((14 + p1).toNatClampNeg) 1) τ4)))) ∧ (¬ (σ1 133 ((14 + p1).toNatClampNeg)) = 2 → Q (-1000000003) σ1 τ1)))) ∧ (r1 = 0 → Q (-1000000001) σ1 τ1))) : AI l D b M_X12_takeOff 2 G0 Q 0 [(0, .ref (b + 125)), (1, .int p1)] [] G0 σ τ := by
  refine r_aload_n 0 dX12_takeOff_0 rfl rfl ?_
  refine r_iload_n 1 dX12_takeOff_1 rfl rfl ?_
  refine rc_VI (h' := 1) [.int p1] okv_X12_isTrouble (by decide) (congrArg Prod.fst k0_125) tw_1031 rfl rfl (Nat.le_of_ble_eq_true rfl) dX12_takeOff_2 (by decide) h (fun r1 σ1 τ1 h => ?_)
  refine r_if_ne (tgt := 11) dX12_takeOff_5 (by decide) (fun c2 => ?_) (fun c2 => ?_)
  · replace h := h.1 c2
    refine r_aload_n 0 dX12_takeOff_11 rfl rfl ?_
    refine r_getR (j := 20) (by decide) (congrArg Prod.fst k0_125) c12_11 (by decide) rfl g0_125_20 tw_830 dX12_takeOff_12 ?_
    refine r_bipush dX12_takeOff_15 cb_14 ?_
    refine r_iload_n 1 dX12_takeOff_17 rfl rfl ?_
    refine r_iadd dX12_takeOff_18 ?_
    refine r_iald (by decide) k0_133 dX12_takeOff_19 h.1 ?_
    replace h := h.2
    refine r_iconst dX12_takeOff_20 ci_2 ?_
    refine r_icmp_eq (tgt := 27) dX12_takeOff_21 (by decide) (fun c3 => ?_) (fun c3 => ?_)
    · replace h := h.1 c3
      refine r_aload_n 0 dX12_takeOff_27 rfl rfl ?_
      refine rc_VV (h' := 0) [] okv_X12_remember (by decide) (congrArg Prod.fst k0_125) tw_1079 rfl rfl (Nat.le_of_ble_eq_true rfl) dX12_takeOff_28 (by decide) h (fun σ4 τ4 h => ?_)
      refine r_aload_n 0 dX12_takeOff_31 rfl rfl ?_
      refine r_getR (j := 20) (by decide) (congrArg Prod.fst k0_125) c12_11 (by decide) rfl g0_125_20 tw_830 dX12_takeOff_32 ?_
      refine r_bipush dX12_takeOff_35 cb_14 ?_
      refine r_iload_n 1 dX12_takeOff_37 rfl rfl ?_
      refine r_iadd dX12_takeOff_38 ?_
      refine r_iconst dX12_takeOff_39 ci_1 ?_
      refine r_iast (by decide) k0_133 dX12_takeOff_40 h.1 ?_
      replace h := h.2
      refine r_aload_n 0 dX12_takeOff_41 rfl rfl ?_
      refine r_getR (j := 20) (by decide) (congrArg Prod.fst k0_125) c12_11 (by decide) rfl g0_125_20 tw_830 dX12_takeOff_42 ?_
      refine r_iconst dX12_takeOff_45 ci_2 ?_
      refine r_iload_n 1 dX12_takeOff_46 rfl rfl ?_
      refine r_iadd dX12_takeOff_47 ?_
      refine r_iald (by decide) k0_133 dX12_takeOff_48 h.1 ?_
      replace h := h.2
      exact r_iret rfl (Nat.le_refl _) (Nat.le_refl _) dX12_takeOff_49 ⟨rfl, rfl, rfl, _, rfl, h⟩
    · replace h := h.2 c3
      refine r_ldc (v := (-1000000003)) rfl tw_1078 rfl dX12_takeOff_24 ?_
      exact r_iret rfl (Nat.le_refl _) (Nat.le_refl _) dX12_takeOff_26 ⟨rfl, rfl, rfl, _, rfl, h⟩
  · replace h := h.2 c2
    refine r_ldc (v := (-1000000001)) rfl tw_1035 rfl dX12_takeOff_8 ?_
    exact r_iret rfl (Nat.le_refl _) (Nat.le_refl _) dX12_takeOff_10 ⟨rfl, rfl, rfl, _, rfl, h⟩
theorem s_X12_takeOff {l : Launch} {D : zDD} {b : Nat} (p1 : Int32) (σ : zSg) (τ : zLm) {Q : Int32 → zSg → zLm → Prop} (h : SI l D b M_X12_isTrouble 1 G0 [.ref (b + 125), .int p1] σ τ (fun r1 σ1 τ1 => (¬ r1 = 0 → (vp_in (14 + p1) 26 ∧ (((σ1 133 ((14 + p1).toNatClampNeg)) = 2 → (SV l D b M_X12_remember 0 G0 [.ref (b + 125)] σ1 τ1 (fun σ4 τ4 => vp_in (14 + p1) 26 ∧ (vp_in (2 + p1) 26 ∧ Q ((st2 σ4 133 ((14 + p1).toNatClampNeg) 1) 133 ((2 + p1).toNatClampNeg)) (st2 σ4 133 ((14 + p1).toNatClampNeg) 1) τ4)))) ∧ (¬ (σ1 133 ((14 + p1).toNatClampNeg)) = 2 → Q (-1000000003) σ1 τ1)))) ∧ (r1 = 0 → Q (-1000000001) σ1 τ1))) : SI l D b M_X12_takeOff 2 G0 [.ref (b + 125), .int p1] σ τ Q := zS.of (by decide) (Nat.le_of_ble_eq_true rfl) rfl (w_X12_takeOff_0 p1 σ τ h)

theorem dX12_passes_0 : decode cX12_passes 0 = .ok (.iconst 0, 1) := by decide +kernel
theorem dX12_passes_1 : decode cX12_passes 1 = .ok (.istore_n 1, 1) := by decide +kernel
theorem dX12_passes_2 : decode cX12_passes 2 = .ok (.iload_n 1, 1) := by decide +kernel
theorem dX12_passes_3 : decode cX12_passes 3 = .ok (.aload_n 0, 1) := by decide +kernel
theorem dX12_passes_4 : decode cX12_passes 4 = .ok (.getfield 141, 3) := by decide +kernel
theorem dX12_passes_7 : decode cX12_passes 7 = .ok (.if_icmp .ge 63, 3) := by decide +kernel
theorem dX12_passes_10 : decode cX12_passes 10 = .ok (.aload_n 0, 1) := by decide +kernel
theorem dX12_passes_11 : decode cX12_passes 11 = .ok (.getfield 35, 3) := by decide +kernel
theorem dX12_passes_14 : decode cX12_passes 14 = .ok (.iconst 2, 1) := by decide +kernel
theorem dX12_passes_15 : decode cX12_passes 15 = .ok (.iload_n 1, 1) := by decide +kernel
theorem dX12_passes_16 : decode cX12_passes 16 = .ok (.iadd, 1) := by decide +kernel
theorem dX12_passes_17 : decode cX12_passes 17 = .ok (.aload_n 0, 1) := by decide +kernel
theorem dX12_passes_18 : decode cX12_passes 18 = .ok (.getfield 35, 3) := by decide +kernel
theorem dX12_passes_21 : decode cX12_passes 21 = .ok (.bipush 14, 2) := by decide +kernel
theorem dX12_passes_23 : decode cX12_passes 23 = .ok (.iload_n 1, 1) := by decide +kernel
theorem dX12_passes_24 : decode cX12_passes 24 = .ok (.iadd, 1) := by decide +kernel
theorem dX12_passes_25 : decode cX12_passes 25 = .ok (.iaload, 1) := by decide +kernel
theorem dX12_passes_26 : decode cX12_passes 26 = .ok (.iconst 2, 1) := by decide +kernel
theorem dX12_passes_27 : decode cX12_passes 27 = .ok (.if_icmp .ne 28, 3) := by decide +kernel
theorem dX12_passes_30 : decode cX12_passes 30 = .ok (.aload_n 0, 1) := by decide +kernel
theorem dX12_passes_31 : decode cX12_passes 31 = .ok (.getfield 35, 3) := by decide +kernel
theorem dX12_passes_34 : decode cX12_passes 34 = .ok (.iconst 2, 1) := by decide +kernel
theorem dX12_passes_35 : decode cX12_passes 35 = .ok (.iload_n 1, 1) := by decide +kernel
theorem dX12_passes_36 : decode cX12_passes 36 = .ok (.iadd, 1) := by decide +kernel
theorem dX12_passes_37 : decode cX12_passes 37 = .ok (.iaload, 1) := by decide +kernel
theorem dX12_passes_38 : decode cX12_passes 38 = .ok (.aload_n 0, 1) := by decide +kernel
theorem dX12_passes_39 : decode cX12_passes 39 = .ok (.iload_n 1, 1) := by decide +kernel
theorem dX12_passes_40 : decode cX12_passes 40 = .ok (.aload_n 0, 1) := by decide +kernel
theorem dX12_passes_41 : decode cX12_passes 41 = .ok (.getfield 35, 3) := by decide +kernel
theorem dX12_passes_44 : decode cX12_passes 44 = .ok (.iconst 0, 1) := by decide +kernel
theorem dX12_passes_45 : decode cX12_passes 45 = .ok (.iaload, 1) := by decide +kernel
theorem dX12_passes_46 : decode cX12_passes 46 = .ok (.invokevirtual 243, 3) := by decide +kernel
theorem dX12_passes_49 : decode cX12_passes 49 = .ok (.invokestatic 246, 3) := by decide +kernel
theorem dX12_passes_52 : decode cX12_passes 52 = .ok (.goto 11, 3) := by decide +kernel
theorem dX12_passes_55 : decode cX12_passes 55 = .ok (.aload_n 0, 1) := by decide +kernel
theorem dX12_passes_56 : decode cX12_passes 56 = .ok (.getfield 35, 3) := by decide +kernel
theorem dX12_passes_59 : decode cX12_passes 59 = .ok (.iconst 2, 1) := by decide +kernel
theorem dX12_passes_60 : decode cX12_passes 60 = .ok (.iload_n 1, 1) := by decide +kernel
theorem dX12_passes_61 : decode cX12_passes 61 = .ok (.iadd, 1) := by decide +kernel
theorem dX12_passes_62 : decode cX12_passes 62 = .ok (.iaload, 1) := by decide +kernel
theorem dX12_passes_63 : decode cX12_passes 63 = .ok (.iastore, 1) := by decide +kernel
theorem dX12_passes_64 : decode cX12_passes 64 = .ok (.iinc 1 1, 3) := by decide +kernel
theorem dX12_passes_67 : decode cX12_passes 67 = .ok (.goto (-65), 3) := by decide +kernel
theorem dX12_passes_70 : decode cX12_passes 70 = .ok (.aload_n 0, 1) := by decide +kernel
theorem dX12_passes_71 : decode cX12_passes 71 = .ok (.getfield 35, 3) := by decide +kernel
theorem dX12_passes_74 : decode cX12_passes 74 = .ok (.iconst 0, 1) := by decide +kernel
theorem dX12_passes_75 : decode cX12_passes 75 = .ok (.dup2, 1) := by decide +kernel
theorem dX12_passes_76 : decode cX12_passes 76 = .ok (.iaload, 1) := by decide +kernel
theorem dX12_passes_77 : decode cX12_passes 77 = .ok (.iconst 1, 1) := by decide +kernel
theorem dX12_passes_78 : decode cX12_passes 78 = .ok (.iadd, 1) := by decide +kernel
theorem dX12_passes_79 : decode cX12_passes 79 = .ok (.iastore, 1) := by decide +kernel
theorem dX12_passes_80 : decode cX12_passes 80 = .ok (.return_, 1) := by decide +kernel
theorem w_X12_passes_2 {l : Launch} {D : zDD} {b : Nat} (x1 : Int32) (σ : zSg) (τ : zLm) {Q : zSg → zLm → Prop} (h : ((σ 125 16) ≤ x1 → Q (st2 σ 133 0 ((σ 133 0) + 1)) τ) ∧ (¬ (σ 125 16) ≤ x1 → (vp_in (14 + x1) 26 ∧ ((¬ (σ 133 ((14 + x1).toNatClampNeg)) = 2 → (vp_in (2 + x1) 26 ∧ (vp_in (2 + x1) 26 ∧ AV l D b M_X12_passes 2 G0 Q 2 [(0, .ref (b + 125)), (1, .int (x1 + 1))] [] G0 (st2 σ 133 ((2 + x1).toNatClampNeg) (σ 133 ((2 + x1).toNatClampNeg))) τ))) ∧ ((σ 133 ((14 + x1).toNatClampNeg)) = 2 → (vp_in (2 + x1) 26 ∧ (SI l D b M_X12_softens 1 G0 [.ref (b + 125), .int x1, .int (σ 133 0)] σ τ (fun r3 σ3 τ3 => SI l D b M_X12_less 0 G0 [.int (σ 133 ((2 + x1).toNatClampNeg)), .int r3] σ3 τ3 (fun r4 σ4 τ4 => vp_in (2 + x1) 26 ∧ AV l D b M_X12_passes 2 G0 Q 2 [(0, .ref (b + 125)), (1, .int (x1 + 1))] [] G0 (st2 σ4 133 ((2 + x1).toNatClampNeg) r4) τ4))))))))) : AV l D b M_X12_passes 2 G0 Q 2 [(0, .ref (b + 125)), (1, .int x1)] [] G0 σ τ := by
  refine r_iload_n 1 dX12_passes_2 rfl rfl ?_
  refine r_aload_n 0 dX12_passes_3 rfl rfl ?_
  refine r_getI (j := 16) (by decide) (congrArg Prod.fst k0_125) c12_11 (by decide) rfl tw_826 dX12_passes_4 ?_
  refine r_icmp_ge (tgt := 70) dX12_passes_7 (by decide) (fun c1 => ?_) (fun c1 => ?_)
  · replace h := h.1 c1
    refine r_aload_n 0 dX12_passes_70 rfl rfl ?_
    refine r_getR (j := 20) (by decide) (congrArg Prod.fst k0_125) c12_11 (by decide) rfl g0_125_20 tw_830 dX12_passes_71 ?_
    refine r_iconst dX12_passes_74 ci_0 ?_
    refine r_dup2 dX12_passes_75 rfl rfl ?_
    refine r_iald (by decide) k0_133 dX12_passes_76 (show ¬ (_ ∨ _) by decide) ?_
    refine r_iconst dX12_passes_77 ci_1 ?_
    refine r_iadd dX12_passes_78 ?_
    refine r_iast (by decide) k0_133 dX12_passes_79 (show ¬ (_ ∨ _) by decide) ?_
    exact r_vret rfl (Nat.le_refl _) (Nat.le_refl _) dX12_passes_80 ⟨rfl, rfl, rfl, rfl, h⟩
  · replace h := h.2 c1
    refine r_aload_n 0 dX12_passes_10 rfl rfl ?_
    refine r_getR (j := 20) (by decide) (congrArg Prod.fst k0_125) c12_11 (by decide) rfl g0_125_20 tw_830 dX12_passes_11 ?_
    refine r_iconst dX12_passes_14 ci_2 ?_
    refine r_iload_n 1 dX12_passes_15 rfl rfl ?_
    refine r_iadd dX12_passes_16 ?_
    refine r_aload_n 0 dX12_passes_17 rfl rfl ?_
    refine r_getR (j := 20) (by decide) (congrArg Prod.fst k0_125) c12_11 (by decide) rfl g0_125_20 tw_830 dX12_passes_18 ?_
    refine r_bipush dX12_passes_21 cb_14 ?_
    refine r_iload_n 1 dX12_passes_23 rfl rfl ?_
    refine r_iadd dX12_passes_24 ?_
    refine r_iald (by decide) k0_133 dX12_passes_25 h.1 ?_
    replace h := h.2
    refine r_iconst dX12_passes_26 ci_2 ?_
    refine r_icmp_ne (tgt := 55) dX12_passes_27 (by decide) (fun c2 => ?_) (fun c2 => ?_)
    · replace h := h.1 c2
      refine r_aload_n 0 dX12_passes_55 rfl rfl ?_
      refine r_getR (j := 20) (by decide) (congrArg Prod.fst k0_125) c12_11 (by decide) rfl g0_125_20 tw_830 dX12_passes_56 ?_
      refine r_iconst dX12_passes_59 ci_2 ?_
      refine r_iload_n 1 dX12_passes_60 rfl rfl ?_
      refine r_iadd dX12_passes_61 ?_
      refine r_iald (by decide) k0_133 dX12_passes_62 h.1 ?_
      replace h := h.2
      refine r_iast (by decide) k0_133 dX12_passes_63 h.1 ?_
      replace h := h.2
      refine r_inc 1 dX12_passes_64 rfl ci_1 (by decide) rfl ?_
      refine r_goto (tgt := 2) dX12_passes_67 (by decide) ?_
      refine r_lv [1, 0] rfl ?_
      exact h
    · replace h := h.2 c2
      refine r_aload_n 0 dX12_passes_30 rfl rfl ?_
      refine r_getR (j := 20) (by decide) (congrArg Prod.fst k0_125) c12_11 (by decide) rfl g0_125_20 tw_830 dX12_passes_31 ?_
      refine r_iconst dX12_passes_34 ci_2 ?_
      refine r_iload_n 1 dX12_passes_35 rfl rfl ?_
      refine r_iadd dX12_passes_36 ?_
      refine r_iald (by decide) k0_133 dX12_passes_37 h.1 ?_
      replace h := h.2
      refine r_aload_n 0 dX12_passes_38 rfl rfl ?_
      refine r_iload_n 1 dX12_passes_39 rfl rfl ?_
      refine r_aload_n 0 dX12_passes_40 rfl rfl ?_
      refine r_getR (j := 20) (by decide) (congrArg Prod.fst k0_125) c12_11 (by decide) rfl g0_125_20 tw_830 dX12_passes_41 ?_
      refine r_iconst dX12_passes_44 ci_0 ?_
      refine r_iald (by decide) k0_133 dX12_passes_45 (show ¬ (_ ∨ _) by decide) ?_
      refine rc_VI (h' := 1) [.int x1, .int (σ 133 0)] okv_X12_softens (by decide) (congrArg Prod.fst k0_125) tw_1128 rfl rfl (Nat.le_of_ble_eq_true rfl) dX12_passes_46 (by decide) h (fun r3 σ3 τ3 h => ?_)
      refine rc_SI (h' := 0) [.int (σ 133 ((2 + x1).toNatClampNeg)), .int r3] oks_X12_less tw_1132 rfl rfl (Nat.le_of_ble_eq_true rfl) dX12_passes_49 (by decide) h (fun r4 σ4 τ4 h => ?_)
      refine r_goto (tgt := 63) dX12_passes_52 (by decide) ?_
      refine r_iast (by decide) k0_133 dX12_passes_63 h.1 ?_
      replace h := h.2
      refine r_inc 1 dX12_passes_64 rfl ci_1 (by decide) rfl ?_
      refine r_goto (tgt := 2) dX12_passes_67 (by decide) ?_
      refine r_lv [1, 0] rfl ?_
      exact h

theorem w_X12_passes_0 {l : Launch} {D : zDD} {b : Nat} (σ : zSg) (τ : zLm) {Q : zSg → zLm → Prop} (h : AV l D b M_X12_passes 2 G0 Q 2 [(0, .ref (b + 125)), (1, .int 0)] [] G0 σ τ) : AV l D b M_X12_passes 2 G0 Q 0 [(0, .ref (b + 125))] [] G0 σ τ := by
  refine r_iconst dX12_passes_0 ci_0 ?_
  refine r_istore_n dX12_passes_1 rfl (by decide) rfl ?_
  refine r_lv [1, 0] rfl ?_
  exact h
theorem s_X12_passes {l : Launch} {D : zDD} {b : Nat} (σ : zSg) (τ : zLm) {Q : zSg → zLm → Prop} (h : AV l D b M_X12_passes 2 G0 Q 2 [(0, .ref (b + 125)), (1, .int 0)] [] G0 σ τ) : SV l D b M_X12_passes 2 G0 [.ref (b + 125)] σ τ Q := zS.of (by decide) (Nat.le_of_ble_eq_true rfl) rfl (w_X12_passes_0 σ τ h)

theorem dX12_bears_0 : decode cX12_bears 0 = .ok (.aload_n 0, 1) := by decide +kernel
theorem dX12_bears_1 : decode cX12_bears 1 = .ok (.iload_n 1, 1) := by decide +kernel
theorem dX12_bears_2 : decode cX12_bears 2 = .ok (.invokevirtual 165, 3) := by decide +kernel
theorem dX12_bears_5 : decode cX12_bears 5 = .ok (.istore_n 2, 1) := by decide +kernel
theorem dX12_bears_6 : decode cX12_bears 6 = .ok (.iload_n 2, 1) := by decide +kernel
theorem dX12_bears_7 : decode cX12_bears 7 = .ok (.ifCond .le 25, 3) := by decide +kernel
theorem dX12_bears_10 : decode cX12_bears 10 = .ok (.aload_n 0, 1) := by decide +kernel
theorem dX12_bears_11 : decode cX12_bears 11 = .ok (.getfield 35, 3) := by decide +kernel
theorem dX12_bears_14 : decode cX12_bears 14 = .ok (.bipush 20, 2) := by decide +kernel
theorem dX12_bears_16 : decode cX12_bears 16 = .ok (.aload_n 0, 1) := by decide +kernel
theorem dX12_bears_17 : decode cX12_bears 17 = .ok (.invokevirtual 177, 3) := by decide +kernel
theorem dX12_bears_20 : decode cX12_bears 20 = .ok (.iadd, 1) := by decide +kernel
theorem dX12_bears_21 : decode cX12_bears 21 = .ok (.dup2, 1) := by decide +kernel
theorem dX12_bears_22 : decode cX12_bears 22 = .ok (.iaload, 1) := by decide +kernel
theorem dX12_bears_23 : decode cX12_bears 23 = .ok (.iconst 1, 1) := by decide +kernel
theorem dX12_bears_24 : decode cX12_bears 24 = .ok (.iadd, 1) := by decide +kernel
theorem dX12_bears_25 : decode cX12_bears 25 = .ok (.iastore, 1) := by decide +kernel
theorem dX12_bears_26 : decode cX12_bears 26 = .ok (.iinc 2 (-1), 3) := by decide +kernel
theorem dX12_bears_29 : decode cX12_bears 29 = .ok (.goto (-23), 3) := by decide +kernel
theorem dX12_bears_32 : decode cX12_bears 32 = .ok (.aload_n 0, 1) := by decide +kernel
theorem dX12_bears_33 : decode cX12_bears 33 = .ok (.getfield 35, 3) := by decide +kernel
theorem dX12_bears_36 : decode cX12_bears 36 = .ok (.bipush 14, 2) := by decide +kernel
theorem dX12_bears_38 : decode cX12_bears 38 = .ok (.iload_n 1, 1) := by decide +kernel
theorem dX12_bears_39 : decode cX12_bears 39 = .ok (.iadd, 1) := by decide +kernel
theorem dX12_bears_40 : decode cX12_bears 40 = .ok (.iconst 3, 1) := by decide +kernel
theorem dX12_bears_41 : decode cX12_bears 41 = .ok (.iastore, 1) := by decide +kernel
theorem dX12_bears_42 : decode cX12_bears 42 = .ok (.return_, 1) := by decide +kernel
theorem w_X12_bears_6 {l : Launch} {D : zDD} {b : Nat} (x1 x2 : Int32) (σ : zSg) (τ : zLm) {Q : zSg → zLm → Prop} (h : (x2 ≤ 0 → (vp_in (14 + x1) 26 ∧ Q (st2 σ 133 ((14 + x1).toNatClampNeg) 3) τ)) ∧ (¬ x2 ≤ 0 → (SI l D b M_X12_strongest 1 G0 [.ref (b + 125)] σ τ (fun r2 σ2 τ2 => vp_in (20 + r2) 26 ∧ (vp_in (20 + r2) 26 ∧ AV l D b M_X12_bears 2 G0 Q 6 [(0, .ref (b + 125)), (1, .int x1), (2, .int (x2 + (-1)))] [] G0 (st2 σ2 133 ((20 + r2).toNatClampNeg) ((σ2 133 ((20 + r2).toNatClampNeg)) + 1)) τ2))))) : AV l D b M_X12_bears 2 G0 Q 6 [(0, .ref (b + 125)), (1, .int x1), (2, .int x2)] [] G0 σ τ := by
  refine r_iload_n 2 dX12_bears_6 rfl rfl ?_
  refine r_if_le (tgt := 32) dX12_bears_7 (by decide) (fun c1 => ?_) (fun c1 => ?_)
  · replace h := h.1 c1
    refine r_aload_n 0 dX12_bears_32 rfl rfl ?_
    refine r_getR (j := 20) (by decide) (congrArg Prod.fst k0_125) c12_11 (by decide) rfl g0_125_20 tw_830 dX12_bears_33 ?_
    refine r_bipush dX12_bears_36 cb_14 ?_
    refine r_iload_n 1 dX12_bears_38 rfl rfl ?_
    refine r_iadd dX12_bears_39 ?_
    refine r_iconst dX12_bears_40 ci_3 ?_
    refine r_iast (by decide) k0_133 dX12_bears_41 h.1 ?_
    replace h := h.2
    exact r_vret rfl (Nat.le_refl _) (Nat.le_refl _) dX12_bears_42 ⟨rfl, rfl, rfl, rfl, h⟩
  · replace h := h.2 c1
    refine r_aload_n 0 dX12_bears_10 rfl rfl ?_
    refine r_getR (j := 20) (by decide) (congrArg Prod.fst k0_125) c12_11 (by decide) rfl g0_125_20 tw_830 dX12_bears_11 ?_
    refine r_bipush dX12_bears_14 cb_20 ?_
    refine r_aload_n 0 dX12_bears_16 rfl rfl ?_
    refine rc_VI (h' := 1) [] okv_X12_strongest (by decide) (congrArg Prod.fst k0_125) tw_1001 rfl rfl (Nat.le_of_ble_eq_true rfl) dX12_bears_17 (by decide) h (fun r2 σ2 τ2 h => ?_)
    refine r_iadd dX12_bears_20 ?_
    refine r_dup2 dX12_bears_21 rfl rfl ?_
    refine r_iald (by decide) k0_133 dX12_bears_22 h.1 ?_
    replace h := h.2
    refine r_iconst dX12_bears_23 ci_1 ?_
    refine r_iadd dX12_bears_24 ?_
    refine r_iast (by decide) k0_133 dX12_bears_25 h.1 ?_
    replace h := h.2
    refine r_inc 2 dX12_bears_26 rfl ci_m1 (by decide) rfl ?_
    refine r_goto (tgt := 6) dX12_bears_29 (by decide) ?_
    refine r_lv [1, 2, 0] rfl ?_
    exact h

theorem w_X12_bears_0 {l : Launch} {D : zDD} {b : Nat} (p1 : Int32) (σ : zSg) (τ : zLm) {Q : zSg → zLm → Prop} (h : SI l D b M_X12_weight 1 G0 [.ref (b + 125), .int p1] σ τ (fun r1 σ1 τ1 => AV l D b M_X12_bears 2 G0 Q 6 [(0, .ref (b + 125)), (1, .int p1), (2, .int r1)] [] G0 σ1 τ1)) : AV l D b M_X12_bears 2 G0 Q 0 [(0, .ref (b + 125)), (1, .int p1)] [] G0 σ τ := by
  refine r_aload_n 0 dX12_bears_0 rfl rfl ?_
  refine r_iload_n 1 dX12_bears_1 rfl rfl ?_
  refine rc_VI (h' := 1) [.int p1] okv_X12_weight (by decide) (congrArg Prod.fst k0_125) tw_1062 rfl rfl (Nat.le_of_ble_eq_true rfl) dX12_bears_2 (by decide) h (fun r1 σ1 τ1 h => ?_)
  refine r_istore_n dX12_bears_5 rfl (by decide) rfl ?_
  refine r_lv [1, 2, 0] rfl ?_
  exact h
theorem s_X12_bears {l : Launch} {D : zDD} {b : Nat} (p1 : Int32) (σ : zSg) (τ : zLm) {Q : zSg → zLm → Prop} (h : SI l D b M_X12_weight 1 G0 [.ref (b + 125), .int p1] σ τ (fun r1 σ1 τ1 => AV l D b M_X12_bears 2 G0 Q 6 [(0, .ref (b + 125)), (1, .int p1), (2, .int r1)] [] G0 σ1 τ1)) : SV l D b M_X12_bears 2 G0 [.ref (b + 125), .int p1] σ τ Q := zS.of (by decide) (Nat.le_of_ble_eq_true rfl) rfl (w_X12_bears_0 p1 σ τ h)

theorem dX12_cut_0 : decode cX12_cut 0 = .ok (.aload_n 0, 1) := by decide +kernel
theorem dX12_cut_1 : decode cX12_cut 1 = .ok (.iload_n 1, 1) := by decide +kernel
theorem dX12_cut_2 : decode cX12_cut 2 = .ok (.invokevirtual 203, 3) := by decide +kernel
theorem dX12_cut_5 : decode cX12_cut 5 = .ok (.ifCond .ne 6, 3) := by decide +kernel
theorem dX12_cut_8 : decode cX12_cut 8 = .ok (.ldc 206, 2) := by decide +kernel
theorem dX12_cut_10 : decode cX12_cut 10 = .ok (.ireturn, 1) := by decide +kernel
theorem dX12_cut_11 : decode cX12_cut 11 = .ok (.iload_n 2, 1) := by decide +kernel
theorem dX12_cut_12 : decode cX12_cut 12 = .ok (.iconst 0, 1) := by decide +kernel
theorem dX12_cut_13 : decode cX12_cut 13 = .ok (.bipush 24, 2) := by decide +kernel
theorem dX12_cut_15 : decode cX12_cut 15 = .ok (.invokestatic 70, 3) := by decide +kernel
theorem dX12_cut_18 : decode cX12_cut 18 = .ok (.ifCond .ne 6, 3) := by decide +kernel
theorem dX12_cut_21 : decode cX12_cut 21 = .ok (.ldc 74, 2) := by decide +kernel
theorem dX12_cut_23 : decode cX12_cut 23 = .ok (.ireturn, 1) := by decide +kernel
theorem dX12_cut_24 : decode cX12_cut 24 = .ok (.aload_n 0, 1) := by decide +kernel
theorem dX12_cut_25 : decode cX12_cut 25 = .ok (.getfield 35, 3) := by decide +kernel
theorem dX12_cut_28 : decode cX12_cut 28 = .ok (.bipush 8, 2) := by decide +kernel
theorem dX12_cut_30 : decode cX12_cut 30 = .ok (.iload_n 1, 1) := by decide +kernel
theorem dX12_cut_31 : decode cX12_cut 31 = .ok (.iadd, 1) := by decide +kernel
theorem dX12_cut_32 : decode cX12_cut 32 = .ok (.iaload, 1) := by decide +kernel
theorem dX12_cut_33 : decode cX12_cut 33 = .ok (.istore_n 3, 1) := by decide +kernel
theorem dX12_cut_34 : decode cX12_cut 34 = .ok (.aload_n 0, 1) := by decide +kernel
theorem dX12_cut_35 : decode cX12_cut 35 = .ok (.getfield 35, 3) := by decide +kernel
theorem dX12_cut_38 : decode cX12_cut 38 = .ok (.bipush 14, 2) := by decide +kernel
theorem dX12_cut_40 : decode cX12_cut 40 = .ok (.iload_n 1, 1) := by decide +kernel
theorem dX12_cut_41 : decode cX12_cut 41 = .ok (.iadd, 1) := by decide +kernel
theorem dX12_cut_42 : decode cX12_cut 42 = .ok (.iaload, 1) := by decide +kernel
theorem dX12_cut_43 : decode cX12_cut 43 = .ok (.ifCond .ne 18, 3) := by decide +kernel
theorem dX12_cut_46 : decode cX12_cut 46 = .ok (.iload_n 3, 1) := by decide +kernel
theorem dX12_cut_47 : decode cX12_cut 47 = .ok (.iload_n 2, 1) := by decide +kernel
theorem dX12_cut_48 : decode cX12_cut 48 = .ok (.invokestatic 193, 3) := by decide +kernel
theorem dX12_cut_51 : decode cX12_cut 51 = .ok (.ifCond .eq 10, 3) := by decide +kernel
theorem dX12_cut_54 : decode cX12_cut 54 = .ok (.iload_n 3, 1) := by decide +kernel
theorem dX12_cut_55 : decode cX12_cut 55 = .ok (.iconst 1, 1) := by decide +kernel
theorem dX12_cut_56 : decode cX12_cut 56 = .ok (.iload_n 2, 1) := by decide +kernel
theorem dX12_cut_57 : decode cX12_cut 57 = .ok (.ishl, 1) := by decide +kernel
theorem dX12_cut_58 : decode cX12_cut 58 = .ok (.if_icmp .ne 6, 3) := by decide +kernel
theorem dX12_cut_61 : decode cX12_cut 61 = .ok (.ldc 233, 2) := by decide +kernel
theorem dX12_cut_63 : decode cX12_cut 63 = .ok (.ireturn, 1) := by decide +kernel
theorem dX12_cut_64 : decode cX12_cut 64 = .ok (.aload_n 0, 1) := by decide +kernel
theorem dX12_cut_65 : decode cX12_cut 65 = .ok (.invokevirtual 234, 3) := by decide +kernel
theorem dX12_cut_68 : decode cX12_cut 68 = .ok (.aload_n 0, 1) := by decide +kernel
theorem dX12_cut_69 : decode cX12_cut 69 = .ok (.getfield 35, 3) := by decide +kernel
theorem dX12_cut_72 : decode cX12_cut 72 = .ok (.bipush 8, 2) := by decide +kernel
theorem dX12_cut_74 : decode cX12_cut 74 = .ok (.iload_n 1, 1) := by decide +kernel
theorem dX12_cut_75 : decode cX12_cut 75 = .ok (.iadd, 1) := by decide +kernel
theorem dX12_cut_76 : decode cX12_cut 76 = .ok (.iload_n 3, 1) := by decide +kernel
theorem dX12_cut_77 : decode cX12_cut 77 = .ok (.iconst 1, 1) := by decide +kernel
theorem dX12_cut_78 : decode cX12_cut 78 = .ok (.iload_n 2, 1) := by decide +kernel
theorem dX12_cut_79 : decode cX12_cut 79 = .ok (.ishl, 1) := by decide +kernel
theorem dX12_cut_80 : decode cX12_cut 80 = .ok (.iconst (-1), 1) := by decide +kernel
theorem dX12_cut_81 : decode cX12_cut 81 = .ok (.ixor, 1) := by decide +kernel
theorem dX12_cut_82 : decode cX12_cut 82 = .ok (.iand, 1) := by decide +kernel
theorem dX12_cut_83 : decode cX12_cut 83 = .ok (.iastore, 1) := by decide +kernel
theorem dX12_cut_84 : decode cX12_cut 84 = .ok (.aload_n 0, 1) := by decide +kernel
theorem dX12_cut_85 : decode cX12_cut 85 = .ok (.getfield 35, 3) := by decide +kernel
theorem dX12_cut_88 : decode cX12_cut 88 = .ok (.bipush 8, 2) := by decide +kernel
theorem dX12_cut_90 : decode cX12_cut 90 = .ok (.iload_n 1, 1) := by decide +kernel
theorem dX12_cut_91 : decode cX12_cut 91 = .ok (.iadd, 1) := by decide +kernel
theorem dX12_cut_92 : decode cX12_cut 92 = .ok (.iaload, 1) := by decide +kernel
theorem dX12_cut_93 : decode cX12_cut 93 = .ok (.invokestatic 162, 3) := by decide +kernel
theorem dX12_cut_96 : decode cX12_cut 96 = .ok (.ireturn, 1) := by decide +kernel
theorem w_X12_cut_0 {l : Launch} {D : zDD} {b : Nat} (p1 p2 : Int32) (σ : zSg) (τ : zLm) {Q : Int32 → zSg → zLm → Prop} (h : SI l D b M_X12_isTrouble 1 G0 [.ref (b + 125), .int p1] σ τ (fun r1 σ1 τ1 => (¬ r1 = 0 → (SI l D b M_X12_in 0 G0 [.int p2, .int 0, .int 24] σ1 τ1 (fun r3 σ3 τ3 => (¬ r3 = 0 → (vp_in (8 + p1) 26 ∧ (∀ v5 : Int32, v5 = σ3 133 ((8 + p1).toNatClampNeg) → vp_in (14 + p1) 26 ∧ ((¬ (σ3 133 ((14 + p1).toNatClampNeg)) = 0 → Q (-1000000003) σ3 τ3) ∧ ((σ3 133 ((14 + p1).toNatClampNeg)) = 0 → (SI l D b M_X12_has 0 G0 [.int v5, .int p2] σ3 τ3 (fun r7 σ7 τ7 => (r7 = 0 → Q (-1000000003) σ7 τ7) ∧ (¬ r7 = 0 → ((¬ v5 = ((1 : Int32) <<< (p2 &&& 31)) → (SV l D b M_X12_remember 0 G0 [.ref (b + 125)] σ7 τ7 (fun σ10 τ10 => vp_in (8 + p1) 26 ∧ (vp_in (8 + p1) 26 ∧ SI l D b M_X12_bits 0 G0 [.int ((st2 σ10 133 ((8 + p1).toNatClampNeg) (v5 &&& (((1 : Int32) <<< (p2 &&& 31)) ^^^ (-1)))) 133 ((8 + p1).toNatClampNeg))] (st2 σ10 133 ((8 + p1).toNatClampNeg) (v5 &&& (((1 : Int32) <<< (p2 &&& 31)) ^^^ (-1)))) τ10 (fun r11 σ11 τ11 => Q r11 σ11 τ11))))) ∧ (v5 = ((1 : Int32) <<< (p2 &&& 31)) → Q (-1000000003) σ7 τ7)))))))))) ∧ (r3 = 0 → Q (-1000000002) σ3 τ3)))) ∧ (r1 = 0 → Q (-1000000001) σ1 τ1))) : AI l D b M_X12_cut 2 G0 Q 0 [(0, .ref (b + 125)), (1, .int p1), (2, .int p2)] [] G0 σ τ := by
  refine r_aload_n 0 dX12_cut_0 rfl rfl ?_
  refine r_iload_n 1 dX12_cut_1 rfl rfl ?_
  refine rc_VI (h' := 1) [.int p1] okv_X12_isTrouble (by decide) (congrArg Prod.fst k0_125) tw_1031 rfl rfl (Nat.le_of_ble_eq_true rfl) dX12_cut_2 (by decide) h (fun r1 σ1 τ1 h => ?_)
  refine r_if_ne (tgt := 11) dX12_cut_5 (by decide) (fun c2 => ?_) (fun c2 => ?_)
  · replace h := h.1 c2
    refine r_iload_n 2 dX12_cut_11 rfl rfl ?_
    refine r_iconst dX12_cut_12 ci_0 ?_
    refine r_bipush dX12_cut_13 cb_24 ?_
    refine rc_SI (h' := 0) [.int p2, .int 0, .int 24] oks_X12_in tw_924 rfl rfl (Nat.le_of_ble_eq_true rfl) dX12_cut_15 (by decide) h (fun r3 σ3 τ3 h => ?_)
    refine r_if_ne (tgt := 24) dX12_cut_18 (by decide) (fun c4 => ?_) (fun c4 => ?_)
    · replace h := h.1 c4
      refine r_aload_n 0 dX12_cut_24 rfl rfl ?_
      refine r_getR (j := 20) (by decide) (congrArg Prod.fst k0_125) c12_11 (by decide) rfl g0_125_20 tw_830 dX12_cut_25 ?_
      refine r_bipush dX12_cut_28 cb_8 ?_
      refine r_iload_n 1 dX12_cut_30 rfl rfl ?_
      refine r_iadd dX12_cut_31 ?_
      refine r_iald (by decide) k0_133 dX12_cut_32 h.1 ?_
      replace h := h.2
      refine r_nmI (fun v5 ev5 => ?_)
      replace h := h v5 ev5
      refine r_istore_n dX12_cut_33 rfl (by decide) rfl ?_
      refine r_aload_n 1 dX12_cut_34 rfl rfl ?_
      refine r_getR (j := 20) (by decide) (congrArg Prod.fst k0_125) c12_11 (by decide) rfl g0_125_20 tw_830 dX12_cut_35 ?_
      refine r_bipush dX12_cut_38 cb_14 ?_
      refine r_iload_n 2 dX12_cut_40 rfl rfl ?_
      refine r_iadd dX12_cut_41 ?_
      refine r_iald (by decide) k0_133 dX12_cut_42 h.1 ?_
      replace h := h.2
      refine r_if_ne (tgt := 61) dX12_cut_43 (by decide) (fun c6 => ?_) (fun c6 => ?_)
      · replace h := h.1 c6
        refine r_ldc (v := (-1000000003)) rfl tw_1078 rfl dX12_cut_61 ?_
        exact r_iret rfl (Nat.le_refl _) (Nat.le_refl _) dX12_cut_63 ⟨rfl, rfl, rfl, _, rfl, h⟩
      · replace h := h.2 c6
        refine r_iload_n 0 dX12_cut_46 rfl rfl ?_
        refine r_iload_n 3 dX12_cut_47 rfl rfl ?_
        refine rc_SI (h' := 0) [.int v5, .int p2] oks_X12_has tw_1016 rfl rfl (Nat.le_of_ble_eq_true rfl) dX12_cut_48 (by decide) h (fun r7 σ7 τ7 h => ?_)
        refine r_if_eq (tgt := 61) dX12_cut_51 (by decide) (fun c8 => ?_) (fun c8 => ?_)
        · replace h := h.1 c8
          refine r_ldc (v := (-1000000003)) rfl tw_1078 rfl dX12_cut_61 ?_
          exact r_iret rfl (Nat.le_refl _) (Nat.le_refl _) dX12_cut_63 ⟨rfl, rfl, rfl, _, rfl, h⟩
        · replace h := h.2 c8
          refine r_iload_n 0 dX12_cut_54 rfl rfl ?_
          refine r_iconst dX12_cut_55 ci_1 ?_
          refine r_iload_n 3 dX12_cut_56 rfl rfl ?_
          refine r_ishl dX12_cut_57 ?_
          refine r_icmp_ne (tgt := 64) dX12_cut_58 (by decide) (fun c9 => ?_) (fun c9 => ?_)
          · replace h := h.1 c9
            refine r_aload_n 1 dX12_cut_64 rfl rfl ?_
            refine rc_VV (h' := 0) [] okv_X12_remember (by decide) (congrArg Prod.fst k0_125) tw_1079 rfl rfl (Nat.le_of_ble_eq_true rfl) dX12_cut_65 (by decide) h (fun σ10 τ10 h => ?_)
            refine r_aload_n 1 dX12_cut_68 rfl rfl ?_
            refine r_getR (j := 20) (by decide) (congrArg Prod.fst k0_125) c12_11 (by decide) rfl g0_125_20 tw_830 dX12_cut_69 ?_
            refine r_bipush dX12_cut_72 cb_8 ?_
            refine r_iload_n 2 dX12_cut_74 rfl rfl ?_
            refine r_iadd dX12_cut_75 ?_
            refine r_iload_n 0 dX12_cut_76 rfl rfl ?_
            refine r_iconst dX12_cut_77 ci_1 ?_
            refine r_iload_n 3 dX12_cut_78 rfl rfl ?_
            refine r_ishl dX12_cut_79 ?_
            refine r_iconst dX12_cut_80 ci_m1 ?_
            refine r_ixor dX12_cut_81 ?_
            refine r_iand dX12_cut_82 ?_
            refine r_iast (by decide) k0_133 dX12_cut_83 h.1 ?_
            replace h := h.2
            refine r_aload_n 1 dX12_cut_84 rfl rfl ?_
            refine r_getR (j := 20) (by decide) (congrArg Prod.fst k0_125) c12_11 (by decide) rfl g0_125_20 tw_830 dX12_cut_85 ?_
            refine r_bipush dX12_cut_88 cb_8 ?_
            refine r_iload_n 2 dX12_cut_90 rfl rfl ?_
            refine r_iadd dX12_cut_91 ?_
            refine r_iald (by decide) k0_133 dX12_cut_92 h.1 ?_
            replace h := h.2
            refine rc_SI (h' := 0) [.int ((st2 σ10 133 ((8 + p1).toNatClampNeg) (v5 &&& (((1 : Int32) <<< (p2 &&& 31)) ^^^ (-1)))) 133 ((8 + p1).toNatClampNeg))] oks_X12_bits tw_1046 rfl rfl (Nat.le_of_ble_eq_true rfl) dX12_cut_93 (by decide) h (fun r11 σ11 τ11 h => ?_)
            exact r_iret rfl (Nat.le_refl _) (Nat.le_refl _) dX12_cut_96 ⟨rfl, rfl, rfl, _, rfl, h⟩
          · replace h := h.2 c9
            refine r_ldc (v := (-1000000003)) rfl tw_1078 rfl dX12_cut_61 ?_
            exact r_iret rfl (Nat.le_refl _) (Nat.le_refl _) dX12_cut_63 ⟨rfl, rfl, rfl, _, rfl, h⟩
    · replace h := h.2 c4
      refine r_ldc (v := (-1000000002)) rfl tw_927 rfl dX12_cut_21 ?_
      exact r_iret rfl (Nat.le_refl _) (Nat.le_refl _) dX12_cut_23 ⟨rfl, rfl, rfl, _, rfl, h⟩
  · replace h := h.2 c2
    refine r_ldc (v := (-1000000001)) rfl tw_1035 rfl dX12_cut_8 ?_
    exact r_iret rfl (Nat.le_refl _) (Nat.le_refl _) dX12_cut_10 ⟨rfl, rfl, rfl, _, rfl, h⟩
theorem s_X12_cut {l : Launch} {D : zDD} {b : Nat} (p1 p2 : Int32) (σ : zSg) (τ : zLm) {Q : Int32 → zSg → zLm → Prop} (h : SI l D b M_X12_isTrouble 1 G0 [.ref (b + 125), .int p1] σ τ (fun r1 σ1 τ1 => (¬ r1 = 0 → (SI l D b M_X12_in 0 G0 [.int p2, .int 0, .int 24] σ1 τ1 (fun r3 σ3 τ3 => (¬ r3 = 0 → (vp_in (8 + p1) 26 ∧ (∀ v5 : Int32, v5 = σ3 133 ((8 + p1).toNatClampNeg) → vp_in (14 + p1) 26 ∧ ((¬ (σ3 133 ((14 + p1).toNatClampNeg)) = 0 → Q (-1000000003) σ3 τ3) ∧ ((σ3 133 ((14 + p1).toNatClampNeg)) = 0 → (SI l D b M_X12_has 0 G0 [.int v5, .int p2] σ3 τ3 (fun r7 σ7 τ7 => (r7 = 0 → Q (-1000000003) σ7 τ7) ∧ (¬ r7 = 0 → ((¬ v5 = ((1 : Int32) <<< (p2 &&& 31)) → (SV l D b M_X12_remember 0 G0 [.ref (b + 125)] σ7 τ7 (fun σ10 τ10 => vp_in (8 + p1) 26 ∧ (vp_in (8 + p1) 26 ∧ SI l D b M_X12_bits 0 G0 [.int ((st2 σ10 133 ((8 + p1).toNatClampNeg) (v5 &&& (((1 : Int32) <<< (p2 &&& 31)) ^^^ (-1)))) 133 ((8 + p1).toNatClampNeg))] (st2 σ10 133 ((8 + p1).toNatClampNeg) (v5 &&& (((1 : Int32) <<< (p2 &&& 31)) ^^^ (-1)))) τ10 (fun r11 σ11 τ11 => Q r11 σ11 τ11))))) ∧ (v5 = ((1 : Int32) <<< (p2 &&& 31)) → Q (-1000000003) σ7 τ7)))))))))) ∧ (r3 = 0 → Q (-1000000002) σ3 τ3)))) ∧ (r1 = 0 → Q (-1000000001) σ1 τ1))) : SI l D b M_X12_cut 2 G0 [.ref (b + 125), .int p1, .int p2] σ τ Q := zS.of (by decide) (Nat.le_of_ble_eq_true rfl) rfl (w_X12_cut_0 p1 p2 σ τ h)

theorem dX12_sideOf_0 : decode cX12_sideOf 0 = .ok (.iconst 0, 1) := by decide +kernel
theorem dX12_sideOf_1 : decode cX12_sideOf 1 = .ok (.istore_n 1, 1) := by decide +kernel
theorem dX12_sideOf_2 : decode cX12_sideOf 2 = .ok (.iconst 0, 1) := by decide +kernel
theorem dX12_sideOf_3 : decode cX12_sideOf 3 = .ok (.istore_n 2, 1) := by decide +kernel
theorem dX12_sideOf_4 : decode cX12_sideOf 4 = .ok (.iconst 0, 1) := by decide +kernel
theorem dX12_sideOf_5 : decode cX12_sideOf 5 = .ok (.istore_n 3, 1) := by decide +kernel
theorem dX12_sideOf_6 : decode cX12_sideOf 6 = .ok (.iload_n 3, 1) := by decide +kernel
theorem dX12_sideOf_7 : decode cX12_sideOf 7 = .ok (.iconst 5, 1) := by decide +kernel
theorem dX12_sideOf_8 : decode cX12_sideOf 8 = .ok (.if_icmp .ge 39, 3) := by decide +kernel
theorem dX12_sideOf_11 : decode cX12_sideOf 11 = .ok (.iload_n 0, 1) := by decide +kernel
theorem dX12_sideOf_12 : decode cX12_sideOf 12 = .ok (.iconst 5, 1) := by decide +kernel
theorem dX12_sideOf_13 : decode cX12_sideOf 13 = .ok (.iload_n 3, 1) := by decide +kernel
theorem dX12_sideOf_14 : decode cX12_sideOf 14 = .ok (.imul, 1) := by decide +kernel
theorem dX12_sideOf_15 : decode cX12_sideOf 15 = .ok (.ishr, 1) := by decide +kernel
theorem dX12_sideOf_16 : decode cX12_sideOf 16 = .ok (.bipush 31, 2) := by decide +kernel
theorem dX12_sideOf_18 : decode cX12_sideOf 18 = .ok (.iand, 1) := by decide +kernel
theorem dX12_sideOf_19 : decode cX12_sideOf 19 = .ok (.istore 4, 2) := by decide +kernel
theorem dX12_sideOf_21 : decode cX12_sideOf 21 = .ok (.iload_n 1, 1) := by decide +kernel
theorem dX12_sideOf_22 : decode cX12_sideOf 22 = .ok (.iload 4, 2) := by decide +kernel
theorem dX12_sideOf_24 : decode cX12_sideOf 24 = .ok (.ifCond .eq 9, 3) := by decide +kernel
theorem dX12_sideOf_27 : decode cX12_sideOf 27 = .ok (.iconst 1, 1) := by decide +kernel
theorem dX12_sideOf_28 : decode cX12_sideOf 28 = .ok (.iload_n 3, 1) := by decide +kernel
theorem dX12_sideOf_29 : decode cX12_sideOf 29 = .ok (.ishl, 1) := by decide +kernel
theorem dX12_sideOf_30 : decode cX12_sideOf 30 = .ok (.goto 4, 3) := by decide +kernel
theorem dX12_sideOf_33 : decode cX12_sideOf 33 = .ok (.iconst 0, 1) := by decide +kernel
theorem dX12_sideOf_34 : decode cX12_sideOf 34 = .ok (.ior, 1) := by decide +kernel
theorem dX12_sideOf_35 : decode cX12_sideOf 35 = .ok (.istore_n 1, 1) := by decide +kernel
theorem dX12_sideOf_36 : decode cX12_sideOf 36 = .ok (.iload_n 2, 1) := by decide +kernel
theorem dX12_sideOf_37 : decode cX12_sideOf 37 = .ok (.iload 4, 2) := by decide +kernel
theorem dX12_sideOf_39 : decode cX12_sideOf 39 = .ok (.ior, 1) := by decide +kernel
theorem dX12_sideOf_40 : decode cX12_sideOf 40 = .ok (.istore_n 2, 1) := by decide +kernel
theorem dX12_sideOf_41 : decode cX12_sideOf 41 = .ok (.iinc 3 1, 3) := by decide +kernel
theorem dX12_sideOf_44 : decode cX12_sideOf 44 = .ok (.goto (-38), 3) := by decide +kernel
theorem dX12_sideOf_47 : decode cX12_sideOf 47 = .ok (.iload_n 1, 1) := by decide +kernel
theorem dX12_sideOf_48 : decode cX12_sideOf 48 = .ok (.invokestatic 291, 3) := by decide +kernel
theorem dX12_sideOf_51 : decode cX12_sideOf 51 = .ok (.istore_n 3, 1) := by decide +kernel
theorem dX12_sideOf_52 : decode cX12_sideOf 52 = .ok (.iload_n 2, 1) := by decide +kernel
theorem dX12_sideOf_53 : decode cX12_sideOf 53 = .ok (.invokestatic 291, 3) := by decide +kernel
theorem dX12_sideOf_56 : decode cX12_sideOf 56 = .ok (.istore 4, 2) := by decide +kernel
theorem dX12_sideOf_58 : decode cX12_sideOf 58 = .ok (.iload_n 3, 1) := by decide +kernel
theorem dX12_sideOf_59 : decode cX12_sideOf 59 = .ok (.iload 4, 2) := by decide +kernel
theorem dX12_sideOf_61 : decode cX12_sideOf 61 = .ok (.if_icmp .le 7, 3) := by decide +kernel
theorem dX12_sideOf_64 : decode cX12_sideOf 64 = .ok (.iload_n 3, 1) := by decide +kernel
theorem dX12_sideOf_65 : decode cX12_sideOf 65 = .ok (.goto 5, 3) := by decide +kernel
theorem dX12_sideOf_68 : decode cX12_sideOf 68 = .ok (.iload 4, 2) := by decide +kernel
theorem dX12_sideOf_70 : decode cX12_sideOf 70 = .ok (.ireturn, 1) := by decide +kernel
theorem w_X12_sideOf_6 {l : Launch} {D : zDD} {b : Nat} {γ : zGm} (x0 x1 x2 x3 : Int32) (σ : zSg) (τ : zLm) {Q : Int32 → zSg → zLm → Prop} (h : (5 ≤ x3 → (SI l D b M_X12_span 1 γ [.int x1] σ τ (fun r2 σ2 τ2 => SI l D b M_X12_span 1 γ [.int x2] σ2 τ2 (fun r3 σ3 τ3 => (r2 ≤ r3 → Q r3 σ3 τ3) ∧ (¬ r2 ≤ r3 → Q r2 σ3 τ3))))) ∧ (¬ 5 ≤ x3 → (∀ v5 : Int32, v5 = (x0 >>> ((5 * x3) &&& 31)) &&& 31 → (v5 = 0 → AI l D b M_X12_sideOf 2 γ Q 6 [(0, .int x0), (1, .int (x1 ||| 0)), (2, .int (x2 ||| v5)), (3, .int (x3 + 1))] [] γ σ τ) ∧ (¬ v5 = 0 → (∀ v7 : Int32, v7 = x1 ||| ((1 : Int32) <<< (x3 &&& 31)) → AI l D b M_X12_sideOf 2 γ Q 6 [(0, .int x0), (1, .int v7), (2, .int (x2 ||| v5)), (3, .int (x3 + 1))] [] γ σ τ))))) : AI l D b M_X12_sideOf 2 γ Q 6 [(0, .int x0), (1, .int x1), (2, .int x2), (3, .int x3)] [] γ σ τ := by
  refine r_iload_n 3 dX12_sideOf_6 rfl rfl ?_
  refine r_iconst dX12_sideOf_7 ci_5 ?_
  refine r_icmp_ge (tgt := 47) dX12_sideOf_8 (by decide) (fun c1 => ?_) (fun c1 => ?_)
  · replace h := h.1 c1
    refine r_iload_n 1 dX12_sideOf_47 rfl rfl ?_
    refine rc_SI (h' := 1) [.int x1] oks_X12_span tw_1186 rfl rfl (Nat.le_of_ble_eq_true rfl) dX12_sideOf_48 (by decide) h (fun r2 σ2 τ2 h => ?_)
    refine r_istore_n dX12_sideOf_51 rfl (by decide) rfl ?_
    refine r_iload_n 3 dX12_sideOf_52 rfl rfl ?_
    refine rc_SI (h' := 1) [.int x2] oks_X12_span tw_1186 rfl rfl (Nat.le_of_ble_eq_true rfl) dX12_sideOf_53 (by decide) h (fun r3 σ3 τ3 h => ?_)
    refine r_istore dX12_sideOf_56 (by decide) rfl ?_
    refine r_iload_n 1 dX12_sideOf_58 rfl rfl ?_
    refine r_iload 0 dX12_sideOf_59 rfl ?_
    refine r_icmp_le (tgt := 68) dX12_sideOf_61 (by decide) (fun c4 => ?_) (fun c4 => ?_)
    · replace h := h.1 c4
      refine r_iload 0 dX12_sideOf_68 rfl ?_
      exact r_iret rfl (Nat.le_refl _) (Nat.le_refl _) dX12_sideOf_70 ⟨rfl, rfl, rfl, _, rfl, h⟩
    · replace h := h.2 c4
      refine r_iload_n 1 dX12_sideOf_64 rfl rfl ?_
      refine r_goto (tgt := 70) dX12_sideOf_65 (by decide) ?_
      exact r_iret rfl (Nat.le_refl _) (Nat.le_refl _) dX12_sideOf_70 ⟨rfl, rfl, rfl, _, rfl, h⟩
  · replace h := h.2 c1
    refine r_iload_n 0 dX12_sideOf_11 rfl rfl ?_
    refine r_iconst dX12_sideOf_12 ci_5 ?_
    refine r_iload_n 3 dX12_sideOf_13 rfl rfl ?_
    refine r_imul dX12_sideOf_14 ?_
    refine r_ishr dX12_sideOf_15 ?_
    refine r_bipush dX12_sideOf_16 cb_31 ?_
    refine r_iand dX12_sideOf_18 ?_
    refine r_nmI (fun v5 ev5 => ?_)
    replace h := h v5 ev5
    refine r_istore dX12_sideOf_19 (by decide) rfl ?_
    refine r_iload_n 2 dX12_sideOf_21 rfl rfl ?_
    refine r_iload 0 dX12_sideOf_22 rfl ?_
    refine r_if_eq (tgt := 33) dX12_sideOf_24 (by decide) (fun c6 => ?_) (fun c6 => ?_)
    · replace h := h.1 c6
      refine r_iconst dX12_sideOf_33 ci_0 ?_
      refine r_ior dX12_sideOf_34 ?_
      refine r_istore_n dX12_sideOf_35 rfl (by decide) rfl ?_
      refine r_iload_n 3 dX12_sideOf_36 rfl rfl ?_
      refine r_iload 1 dX12_sideOf_37 rfl ?_
      refine r_ior dX12_sideOf_39 ?_
      refine r_istore_n dX12_sideOf_40 rfl (by decide) rfl ?_
      refine r_inc 4 dX12_sideOf_41 rfl ci_1 (by decide) rfl ?_
      refine r_goto (tgt := 6) dX12_sideOf_44 (by decide) ?_
      refine r_lv [4, 2, 1, 0] rfl ?_
      exact h
    · replace h := h.2 c6
      refine r_iconst dX12_sideOf_27 ci_1 ?_
      refine r_iload_n 4 dX12_sideOf_28 rfl rfl ?_
      refine r_ishl dX12_sideOf_29 ?_
      refine r_goto (tgt := 34) dX12_sideOf_30 (by decide) ?_
      refine r_ior dX12_sideOf_34 ?_
      refine r_nmI (fun v7 ev7 => ?_)
      replace h := h v7 ev7
      refine r_istore_n dX12_sideOf_35 rfl (by decide) rfl ?_
      refine r_iload_n 3 dX12_sideOf_36 rfl rfl ?_
      refine r_iload 1 dX12_sideOf_37 rfl ?_
      refine r_ior dX12_sideOf_39 ?_
      refine r_istore_n dX12_sideOf_40 rfl (by decide) rfl ?_
      refine r_inc 4 dX12_sideOf_41 rfl ci_1 (by decide) rfl ?_
      refine r_goto (tgt := 6) dX12_sideOf_44 (by decide) ?_
      refine r_lv [4, 2, 1, 0] rfl ?_
      exact h

theorem w_X12_sideOf_0 {l : Launch} {D : zDD} {b : Nat} {γ : zGm} (p1 : Int32) (σ : zSg) (τ : zLm) {Q : Int32 → zSg → zLm → Prop} (h : AI l D b M_X12_sideOf 2 γ Q 6 [(0, .int p1), (1, .int 0), (2, .int 0), (3, .int 0)] [] γ σ τ) : AI l D b M_X12_sideOf 2 γ Q 0 [(0, .int p1)] [] γ σ τ := by
  refine r_iconst dX12_sideOf_0 ci_0 ?_
  refine r_istore_n dX12_sideOf_1 rfl (by decide) rfl ?_
  refine r_iconst dX12_sideOf_2 ci_0 ?_
  refine r_istore_n dX12_sideOf_3 rfl (by decide) rfl ?_
  refine r_iconst dX12_sideOf_4 ci_0 ?_
  refine r_istore_n dX12_sideOf_5 rfl (by decide) rfl ?_
  refine r_lv [3, 2, 1, 0] rfl ?_
  exact h
theorem s_X12_sideOf {l : Launch} {D : zDD} {b : Nat} {γ : zGm} (p1 : Int32) (σ : zSg) (τ : zLm) {Q : Int32 → zSg → zLm → Prop} (h : AI l D b M_X12_sideOf 2 γ Q 6 [(0, .int p1), (1, .int 0), (2, .int 0), (3, .int 0)] [] γ σ τ) : SI l D b M_X12_sideOf 2 γ [.int p1] σ τ Q := zS.of (by decide) (Nat.le_of_ble_eq_true rfl) rfl (w_X12_sideOf_0 p1 σ τ h)

theorem dX12_softBehind_0 : decode cX12_softBehind 0 = .ok (.aload_n 0, 1) := by decide +kernel
theorem dX12_softBehind_1 : decode cX12_softBehind 1 = .ok (.getfield 35, 3) := by decide +kernel
theorem dX12_softBehind_4 : decode cX12_softBehind 4 = .ok (.iconst 2, 1) := by decide +kernel
theorem dX12_softBehind_5 : decode cX12_softBehind 5 = .ok (.iload_n 1, 1) := by decide +kernel
theorem dX12_softBehind_6 : decode cX12_softBehind 6 = .ok (.iadd, 1) := by decide +kernel
theorem dX12_softBehind_7 : decode cX12_softBehind 7 = .ok (.iaload, 1) := by decide +kernel
theorem dX12_softBehind_8 : decode cX12_softBehind 8 = .ok (.istore_n 3, 1) := by decide +kernel
theorem dX12_softBehind_9 : decode cX12_softBehind 9 = .ok (.iconst 0, 1) := by decide +kernel
theorem dX12_softBehind_10 : decode cX12_softBehind 10 = .ok (.istore 4, 2) := by decide +kernel
theorem dX12_softBehind_12 : decode cX12_softBehind 12 = .ok (.iload 4, 2) := by decide +kernel
theorem dX12_softBehind_14 : decode cX12_softBehind 14 = .ok (.iload_n 2, 1) := by decide +kernel
theorem dX12_softBehind_15 : decode cX12_softBehind 15 = .ok (.if_icmp .ge 28, 3) := by decide +kernel
theorem dX12_softBehind_18 : decode cX12_softBehind 18 = .ok (.iload_n 3, 1) := by decide +kernel
theorem dX12_softBehind_19 : decode cX12_softBehind 19 = .ok (.aload_n 0, 1) := by decide +kernel
theorem dX12_softBehind_20 : decode cX12_softBehind 20 = .ok (.iload_n 1, 1) := by decide +kernel
theorem dX12_softBehind_21 : decode cX12_softBehind 21 = .ok (.aload_n 0, 1) := by decide +kernel
theorem dX12_softBehind_22 : decode cX12_softBehind 22 = .ok (.getfield 35, 3) := by decide +kernel
theorem dX12_softBehind_25 : decode cX12_softBehind 25 = .ok (.iconst 0, 1) := by decide +kernel
theorem dX12_softBehind_26 : decode cX12_softBehind 26 = .ok (.iaload, 1) := by decide +kernel
theorem dX12_softBehind_27 : decode cX12_softBehind 27 = .ok (.iload 4, 2) := by decide +kernel
theorem dX12_softBehind_29 : decode cX12_softBehind 29 = .ok (.iadd, 1) := by decide +kernel
theorem dX12_softBehind_30 : decode cX12_softBehind 30 = .ok (.invokevirtual 243, 3) := by decide +kernel
theorem dX12_softBehind_33 : decode cX12_softBehind 33 = .ok (.invokestatic 246, 3) := by decide +kernel
theorem dX12_softBehind_36 : decode cX12_softBehind 36 = .ok (.istore_n 3, 1) := by decide +kernel
theorem dX12_softBehind_37 : decode cX12_softBehind 37 = .ok (.iinc 4 1, 3) := by decide +kernel
theorem dX12_softBehind_40 : decode cX12_softBehind 40 = .ok (.goto (-28), 3) := by decide +kernel
theorem dX12_softBehind_43 : decode cX12_softBehind 43 = .ok (.iload_n 3, 1) := by decide +kernel
theorem dX12_softBehind_44 : decode cX12_softBehind 44 = .ok (.ireturn, 1) := by decide +kernel
theorem w_X12_softBehind_12 {l : Launch} {D : zDD} {b : Nat} (x1 x2 x3 x4 : Int32) (σ : zSg) (τ : zLm) {Q : Int32 → zSg → zLm → Prop} (h : (x2 ≤ x4 → Q x3 σ τ) ∧ (¬ x2 ≤ x4 → SI l D b M_X12_softens 1 G0 [.ref (b + 125), .int x1, .int ((σ 133 0) + x4)] σ τ (fun r2 σ2 τ2 => SI l D b M_X12_less 0 G0 [.int x3, .int r2] σ2 τ2 (fun r3 σ3 τ3 => AI l D b M_X12_softBehind 2 G0 Q 12 [(0, .ref (b + 125)), (1, .int x1), (2, .int x2), (3, .int r3), (4, .int (x4 + 1))] [] G0 σ3 τ3)))) : AI l D b M_X12_softBehind 2 G0 Q 12 [(0, .ref (b + 125)), (1, .int x1), (2, .int x2), (3, .int x3), (4, .int x4)] [] G0 σ τ := by
  refine r_iload 4 dX12_softBehind_12 rfl ?_
  refine r_iload_n 2 dX12_softBehind_14 rfl rfl ?_
  refine r_icmp_ge (tgt := 43) dX12_softBehind_15 (by decide) (fun c1 => ?_) (fun c1 => ?_)
  · replace h := h.1 c1
    refine r_iload_n 3 dX12_softBehind_43 rfl rfl ?_
    exact r_iret rfl (Nat.le_refl _) (Nat.le_refl _) dX12_softBehind_44 ⟨rfl, rfl, rfl, _, rfl, h⟩
  · replace h := h.2 c1
    refine r_iload_n 3 dX12_softBehind_18 rfl rfl ?_
    refine r_aload_n 0 dX12_softBehind_19 rfl rfl ?_
    refine r_iload_n 1 dX12_softBehind_20 rfl rfl ?_
    refine r_aload_n 0 dX12_softBehind_21 rfl rfl ?_
    refine r_getR (j := 20) (by decide) (congrArg Prod.fst k0_125) c12_11 (by decide) rfl g0_125_20 tw_830 dX12_softBehind_22 ?_
    refine r_iconst dX12_softBehind_25 ci_0 ?_
    refine r_iald (by decide) k0_133 dX12_softBehind_26 (show ¬ (_ ∨ _) by decide) ?_
    refine r_iload 4 dX12_softBehind_27 rfl ?_
    refine r_iadd dX12_softBehind_29 ?_
    refine rc_VI (h' := 1) [.int x1, .int ((σ 133 0) + x4)] okv_X12_softens (by decide) (congrArg Prod.fst k0_125) tw_1128 rfl rfl (Nat.le_of_ble_eq_true rfl) dX12_softBehind_30 (by decide) h (fun r2 σ2 τ2 h => ?_)
    refine rc_SI (h' := 0) [.int x3, .int r2] oks_X12_less tw_1132 rfl rfl (Nat.le_of_ble_eq_true rfl) dX12_softBehind_33 (by decide) h (fun r3 σ3 τ3 h => ?_)
    refine r_istore_n dX12_softBehind_36 rfl (by decide) rfl ?_
    refine r_inc 4 dX12_softBehind_37 rfl ci_1 (by decide) rfl ?_
    refine r_goto (tgt := 12) dX12_softBehind_40 (by decide) ?_
    refine r_lv [2, 3, 4, 1, 0] rfl ?_
    exact h

theorem w_X12_softBehind_0 {l : Launch} {D : zDD} {b : Nat} (p1 p2 : Int32) (σ : zSg) (τ : zLm) {Q : Int32 → zSg → zLm → Prop} (h : vp_in (2 + p1) 26 ∧ (∀ v1 : Int32, v1 = σ 133 ((2 + p1).toNatClampNeg) → AI l D b M_X12_softBehind 2 G0 Q 12 [(0, .ref (b + 125)), (1, .int p1), (2, .int p2), (3, .int v1), (4, .int 0)] [] G0 σ τ)) : AI l D b M_X12_softBehind 2 G0 Q 0 [(0, .ref (b + 125)), (1, .int p1), (2, .int p2)] [] G0 σ τ := by
  refine r_aload_n 0 dX12_softBehind_0 rfl rfl ?_
  refine r_getR (j := 20) (by decide) (congrArg Prod.fst k0_125) c12_11 (by decide) rfl g0_125_20 tw_830 dX12_softBehind_1 ?_
  refine r_iconst dX12_softBehind_4 ci_2 ?_
  refine r_iload_n 1 dX12_softBehind_5 rfl rfl ?_
  refine r_iadd dX12_softBehind_6 ?_
  refine r_iald (by decide) k0_133 dX12_softBehind_7 h.1 ?_
  replace h := h.2
  refine r_nmI (fun v1 ev1 => ?_)
  replace h := h v1 ev1
  refine r_istore_n dX12_softBehind_8 rfl (by decide) rfl ?_
  refine r_iconst dX12_softBehind_9 ci_0 ?_
  refine r_istore dX12_softBehind_10 (by decide) rfl ?_
  refine r_lv [2, 3, 4, 1, 0] rfl ?_
  exact h
theorem s_X12_softBehind {l : Launch} {D : zDD} {b : Nat} (p1 p2 : Int32) (σ : zSg) (τ : zLm) {Q : Int32 → zSg → zLm → Prop} (h : vp_in (2 + p1) 26 ∧ (∀ v1 : Int32, v1 = σ 133 ((2 + p1).toNatClampNeg) → AI l D b M_X12_softBehind 2 G0 Q 12 [(0, .ref (b + 125)), (1, .int p1), (2, .int p2), (3, .int v1), (4, .int 0)] [] G0 σ τ)) : SI l D b M_X12_softBehind 2 G0 [.ref (b + 125), .int p1, .int p2] σ τ Q := zS.of (by decide) (Nat.le_of_ble_eq_true rfl) rfl (w_X12_softBehind_0 p1 p2 σ τ h)

theorem dX12_softIn_0 : decode cX12_softIn 0 = .ok (.aload_n 0, 1) := by decide +kernel
theorem dX12_softIn_1 : decode cX12_softIn 1 = .ok (.getfield 35, 3) := by decide +kernel
theorem dX12_softIn_4 : decode cX12_softIn 4 = .ok (.iconst 2, 1) := by decide +kernel
theorem dX12_softIn_5 : decode cX12_softIn 5 = .ok (.iload_n 1, 1) := by decide +kernel
theorem dX12_softIn_6 : decode cX12_softIn 6 = .ok (.iadd, 1) := by decide +kernel
theorem dX12_softIn_7 : decode cX12_softIn 7 = .ok (.iaload, 1) := by decide +kernel
theorem dX12_softIn_8 : decode cX12_softIn 8 = .ok (.istore_n 3, 1) := by decide +kernel
theorem dX12_softIn_9 : decode cX12_softIn 9 = .ok (.iconst 0, 1) := by decide +kernel
theorem dX12_softIn_10 : decode cX12_softIn 10 = .ok (.istore 4, 2) := by decide +kernel
theorem dX12_softIn_12 : decode cX12_softIn 12 = .ok (.iload 4, 2) := by decide +kernel
theorem dX12_softIn_14 : decode cX12_softIn 14 = .ok (.sipush 500, 3) := by decide +kernel
theorem dX12_softIn_17 : decode cX12_softIn 17 = .ok (.if_icmp .gt 37, 3) := by decide +kernel
theorem dX12_softIn_20 : decode cX12_softIn 20 = .ok (.iload_n 3, 1) := by decide +kernel
theorem dX12_softIn_21 : decode cX12_softIn 21 = .ok (.ifCond .ne 6, 3) := by decide +kernel
theorem dX12_softIn_24 : decode cX12_softIn 24 = .ok (.iload 4, 2) := by decide +kernel
theorem dX12_softIn_26 : decode cX12_softIn 26 = .ok (.ireturn, 1) := by decide +kernel
theorem dX12_softIn_27 : decode cX12_softIn 27 = .ok (.iload_n 3, 1) := by decide +kernel
theorem dX12_softIn_28 : decode cX12_softIn 28 = .ok (.aload_n 0, 1) := by decide +kernel
theorem dX12_softIn_29 : decode cX12_softIn 29 = .ok (.iload_n 1, 1) := by decide +kernel
theorem dX12_softIn_30 : decode cX12_softIn 30 = .ok (.aload_n 0, 1) := by decide +kernel
theorem dX12_softIn_31 : decode cX12_softIn 31 = .ok (.getfield 35, 3) := by decide +kernel
theorem dX12_softIn_34 : decode cX12_softIn 34 = .ok (.iconst 0, 1) := by decide +kernel
theorem dX12_softIn_35 : decode cX12_softIn 35 = .ok (.iaload, 1) := by decide +kernel
theorem dX12_softIn_36 : decode cX12_softIn 36 = .ok (.iload_n 2, 1) := by decide +kernel
theorem dX12_softIn_37 : decode cX12_softIn 37 = .ok (.iadd, 1) := by decide +kernel
theorem dX12_softIn_38 : decode cX12_softIn 38 = .ok (.iload 4, 2) := by decide +kernel
theorem dX12_softIn_40 : decode cX12_softIn 40 = .ok (.iadd, 1) := by decide +kernel
theorem dX12_softIn_41 : decode cX12_softIn 41 = .ok (.invokevirtual 243, 3) := by decide +kernel
theorem dX12_softIn_44 : decode cX12_softIn 44 = .ok (.invokestatic 246, 3) := by decide +kernel
theorem dX12_softIn_47 : decode cX12_softIn 47 = .ok (.istore_n 3, 1) := by decide +kernel
theorem dX12_softIn_48 : decode cX12_softIn 48 = .ok (.iinc 4 1, 3) := by decide +kernel
theorem dX12_softIn_51 : decode cX12_softIn 51 = .ok (.goto (-39), 3) := by decide +kernel
theorem dX12_softIn_54 : decode cX12_softIn 54 = .ok (.iconst (-1), 1) := by decide +kernel
theorem dX12_softIn_55 : decode cX12_softIn 55 = .ok (.ireturn, 1) := by decide +kernel
theorem w_X12_softIn_12 {l : Launch} {D : zDD} {b : Nat} (x1 x2 x3 x4 : Int32) (σ : zSg) (τ : zLm) {Q : Int32 → zSg → zLm → Prop} (h : (500 < x4 → Q (-1) σ τ) ∧ (¬ 500 < x4 → ((¬ x3 = 0 → SI l D b M_X12_softens 1 G0 [.ref (b + 125), .int x1, .int (((σ 133 0) + x2) + x4)] σ τ (fun r3 σ3 τ3 => SI l D b M_X12_less 0 G0 [.int x3, .int r3] σ3 τ3 (fun r4 σ4 τ4 => AI l D b M_X12_softIn 2 G0 Q 12 [(0, .ref (b + 125)), (1, .int x1), (2, .int x2), (3, .int r4), (4, .int (x4 + 1))] [] G0 σ4 τ4))) ∧ (x3 = 0 → Q x4 σ τ)))) : AI l D b M_X12_softIn 2 G0 Q 12 [(0, .ref (b + 125)), (1, .int x1), (2, .int x2), (3, .int x3), (4, .int x4)] [] G0 σ τ := by
  refine r_iload 4 dX12_softIn_12 rfl ?_
  refine r_sipush dX12_softIn_14 cs_500 ?_
  refine r_icmp_gt (tgt := 54) dX12_softIn_17 (by decide) (fun c1 => ?_) (fun c1 => ?_)
  · replace h := h.1 c1
    refine r_iconst dX12_softIn_54 ci_m1 ?_
    exact r_iret rfl (Nat.le_refl _) (Nat.le_refl _) dX12_softIn_55 ⟨rfl, rfl, rfl, _, rfl, h⟩
  · replace h := h.2 c1
    refine r_iload_n 3 dX12_softIn_20 rfl rfl ?_
    refine r_if_ne (tgt := 27) dX12_softIn_21 (by decide) (fun c2 => ?_) (fun c2 => ?_)
    · replace h := h.1 c2
      refine r_iload_n 3 dX12_softIn_27 rfl rfl ?_
      refine r_aload_n 0 dX12_softIn_28 rfl rfl ?_
      refine r_iload_n 1 dX12_softIn_29 rfl rfl ?_
      refine r_aload_n 0 dX12_softIn_30 rfl rfl ?_
      refine r_getR (j := 20) (by decide) (congrArg Prod.fst k0_125) c12_11 (by decide) rfl g0_125_20 tw_830 dX12_softIn_31 ?_
      refine r_iconst dX12_softIn_34 ci_0 ?_
      refine r_iald (by decide) k0_133 dX12_softIn_35 (show ¬ (_ ∨ _) by decide) ?_
      refine r_iload_n 2 dX12_softIn_36 rfl rfl ?_
      refine r_iadd dX12_softIn_37 ?_
      refine r_iload 4 dX12_softIn_38 rfl ?_
      refine r_iadd dX12_softIn_40 ?_
      refine rc_VI (h' := 1) [.int x1, .int (((σ 133 0) + x2) + x4)] okv_X12_softens (by decide) (congrArg Prod.fst k0_125) tw_1128 rfl rfl (Nat.le_of_ble_eq_true rfl) dX12_softIn_41 (by decide) h (fun r3 σ3 τ3 h => ?_)
      refine rc_SI (h' := 0) [.int x3, .int r3] oks_X12_less tw_1132 rfl rfl (Nat.le_of_ble_eq_true rfl) dX12_softIn_44 (by decide) h (fun r4 σ4 τ4 h => ?_)
      refine r_istore_n dX12_softIn_47 rfl (by decide) rfl ?_
      refine r_inc 4 dX12_softIn_48 rfl ci_1 (by decide) rfl ?_
      refine r_goto (tgt := 12) dX12_softIn_51 (by decide) ?_
      refine r_lv [2, 3, 4, 1, 0] rfl ?_
      exact h
    · replace h := h.2 c2
      refine r_iload 4 dX12_softIn_24 rfl ?_
      exact r_iret rfl (Nat.le_refl _) (Nat.le_refl _) dX12_softIn_26 ⟨rfl, rfl, rfl, _, rfl, h⟩

theorem w_X12_softIn_0 {l : Launch} {D : zDD} {b : Nat} (p1 p2 : Int32) (σ : zSg) (τ : zLm) {Q : Int32 → zSg → zLm → Prop} (h : vp_in (2 + p1) 26 ∧ (∀ v1 : Int32, v1 = σ 133 ((2 + p1).toNatClampNeg) → AI l D b M_X12_softIn 2 G0 Q 12 [(0, .ref (b + 125)), (1, .int p1), (2, .int p2), (3, .int v1), (4, .int 0)] [] G0 σ τ)) : AI l D b M_X12_softIn 2 G0 Q 0 [(0, .ref (b + 125)), (1, .int p1), (2, .int p2)] [] G0 σ τ := by
  refine r_aload_n 0 dX12_softIn_0 rfl rfl ?_
  refine r_getR (j := 20) (by decide) (congrArg Prod.fst k0_125) c12_11 (by decide) rfl g0_125_20 tw_830 dX12_softIn_1 ?_
  refine r_iconst dX12_softIn_4 ci_2 ?_
  refine r_iload_n 1 dX12_softIn_5 rfl rfl ?_
  refine r_iadd dX12_softIn_6 ?_
  refine r_iald (by decide) k0_133 dX12_softIn_7 h.1 ?_
  replace h := h.2
  refine r_nmI (fun v1 ev1 => ?_)
  replace h := h v1 ev1
  refine r_istore_n dX12_softIn_8 rfl (by decide) rfl ?_
  refine r_iconst dX12_softIn_9 ci_0 ?_
  refine r_istore dX12_softIn_10 (by decide) rfl ?_
  refine r_lv [2, 3, 4, 1, 0] rfl ?_
  exact h
theorem s_X12_softIn {l : Launch} {D : zDD} {b : Nat} (p1 p2 : Int32) (σ : zSg) (τ : zLm) {Q : Int32 → zSg → zLm → Prop} (h : vp_in (2 + p1) 26 ∧ (∀ v1 : Int32, v1 = σ 133 ((2 + p1).toNatClampNeg) → AI l D b M_X12_softIn 2 G0 Q 12 [(0, .ref (b + 125)), (1, .int p1), (2, .int p2), (3, .int v1), (4, .int 0)] [] G0 σ τ)) : SI l D b M_X12_softIn 2 G0 [.ref (b + 125), .int p1, .int p2] σ τ Q := zS.of (by decide) (Nat.le_of_ble_eq_true rfl) rfl (w_X12_softIn_0 p1 p2 σ τ h)

theorem dX12_halves_0 : decode cX12_halves 0 = .ok (.aload_n 0, 1) := by decide +kernel
theorem dX12_halves_1 : decode cX12_halves 1 = .ok (.iload_n 1, 1) := by decide +kernel
theorem dX12_halves_2 : decode cX12_halves 2 = .ok (.invokevirtual 203, 3) := by decide +kernel
theorem dX12_halves_5 : decode cX12_halves 5 = .ok (.ifCond .ne 6, 3) := by decide +kernel
theorem dX12_halves_8 : decode cX12_halves 8 = .ok (.ldc 206, 2) := by decide +kernel
theorem dX12_halves_10 : decode cX12_halves 10 = .ok (.ireturn, 1) := by decide +kernel
theorem dX12_halves_11 : decode cX12_halves 11 = .ok (.iload_n 2, 1) := by decide +kernel
theorem dX12_halves_12 : decode cX12_halves 12 = .ok (.iconst 0, 1) := by decide +kernel
theorem dX12_halves_13 : decode cX12_halves 13 = .ok (.iconst 1, 1) := by decide +kernel
theorem dX12_halves_14 : decode cX12_halves 14 = .ok (.invokestatic 70, 3) := by decide +kernel
theorem dX12_halves_17 : decode cX12_halves 17 = .ok (.ifCond .ne 6, 3) := by decide +kernel
theorem dX12_halves_20 : decode cX12_halves 20 = .ok (.ldc 74, 2) := by decide +kernel
theorem dX12_halves_22 : decode cX12_halves 22 = .ok (.ireturn, 1) := by decide +kernel
theorem dX12_halves_23 : decode cX12_halves 23 = .ok (.aload_n 0, 1) := by decide +kernel
theorem dX12_halves_24 : decode cX12_halves 24 = .ok (.getfield 35, 3) := by decide +kernel
theorem dX12_halves_27 : decode cX12_halves 27 = .ok (.bipush 8, 2) := by decide +kernel
theorem dX12_halves_29 : decode cX12_halves 29 = .ok (.iload_n 1, 1) := by decide +kernel
theorem dX12_halves_30 : decode cX12_halves 30 = .ok (.iadd, 1) := by decide +kernel
theorem dX12_halves_31 : decode cX12_halves 31 = .ok (.iaload, 1) := by decide +kernel
theorem dX12_halves_32 : decode cX12_halves 32 = .ok (.istore_n 3, 1) := by decide +kernel
theorem dX12_halves_33 : decode cX12_halves 33 = .ok (.iconst (-1), 1) := by decide +kernel
theorem dX12_halves_34 : decode cX12_halves 34 = .ok (.istore 4, 2) := by decide +kernel
theorem dX12_halves_36 : decode cX12_halves 36 = .ok (.bipush 26, 2) := by decide +kernel
theorem dX12_halves_38 : decode cX12_halves 38 = .ok (.istore 5, 2) := by decide +kernel
theorem dX12_halves_40 : decode cX12_halves 40 = .ok (.iconst 1, 1) := by decide +kernel
theorem dX12_halves_41 : decode cX12_halves 41 = .ok (.istore 6, 2) := by decide +kernel
theorem dX12_halves_43 : decode cX12_halves 43 = .ok (.iload 6, 2) := by decide +kernel
theorem dX12_halves_45 : decode cX12_halves 45 = .ok (.bipush 15, 2) := by decide +kernel
theorem dX12_halves_47 : decode cX12_halves 47 = .ok (.if_icmp .ge 87, 3) := by decide +kernel
theorem dX12_halves_50 : decode cX12_halves 50 = .ok (.iload 6, 2) := by decide +kernel
theorem dX12_halves_52 : decode cX12_halves 52 = .ok (.bipush 10, 2) := by decide +kernel
theorem dX12_halves_54 : decode cX12_halves 54 = .ok (.irem, 1) := by decide +kernel
theorem dX12_halves_55 : decode cX12_halves 55 = .ok (.iconst 1, 1) := by decide +kernel
theorem dX12_halves_56 : decode cX12_halves 56 = .ok (.iconst 4, 1) := by decide +kernel
theorem dX12_halves_57 : decode cX12_halves 57 = .ok (.invokestatic 70, 3) := by decide +kernel
theorem dX12_halves_60 : decode cX12_halves 60 = .ok (.ifCond .eq 68, 3) := by decide +kernel
theorem dX12_halves_63 : decode cX12_halves 63 = .ok (.iload_n 3, 1) := by decide +kernel
theorem dX12_halves_64 : decode cX12_halves 64 = .ok (.iload 6, 2) := by decide +kernel
theorem dX12_halves_66 : decode cX12_halves 66 = .ok (.invokestatic 310, 3) := by decide +kernel
theorem dX12_halves_69 : decode cX12_halves 69 = .ok (.istore 7, 2) := by decide +kernel
theorem dX12_halves_71 : decode cX12_halves 71 = .ok (.iload_n 3, 1) := by decide +kernel
theorem dX12_halves_72 : decode cX12_halves 72 = .ok (.invokestatic 162, 3) := by decide +kernel
theorem dX12_halves_75 : decode cX12_halves 75 = .ok (.iload 7, 2) := by decide +kernel
theorem dX12_halves_77 : decode cX12_halves 77 = .ok (.isub, 1) := by decide +kernel
theorem dX12_halves_78 : decode cX12_halves 78 = .ok (.istore 8, 2) := by decide +kernel
theorem dX12_halves_80 : decode cX12_halves 80 = .ok (.iload 7, 2) := by decide +kernel
theorem dX12_halves_82 : decode cX12_halves 82 = .ok (.iload 8, 2) := by decide +kernel
theorem dX12_halves_84 : decode cX12_halves 84 = .ok (.if_icmp .le 8, 3) := by decide +kernel
theorem dX12_halves_87 : decode cX12_halves 87 = .ok (.iload 7, 2) := by decide +kernel
theorem dX12_halves_89 : decode cX12_halves 89 = .ok (.goto 5, 3) := by decide +kernel
theorem dX12_halves_92 : decode cX12_halves 92 = .ok (.iload 8, 2) := by decide +kernel
theorem dX12_halves_94 : decode cX12_halves 94 = .ok (.istore 9, 2) := by decide +kernel
theorem dX12_halves_96 : decode cX12_halves 96 = .ok (.iload 9, 2) := by decide +kernel
theorem dX12_halves_98 : decode cX12_halves 98 = .ok (.iload 5, 2) := by decide +kernel
theorem dX12_halves_100 : decode cX12_halves 100 = .ok (.if_icmp .ge 8, 3) := by decide +kernel
theorem dX12_halves_103 : decode cX12_halves 103 = .ok (.iload 6, 2) := by decide +kernel
theorem dX12_halves_105 : decode cX12_halves 105 = .ok (.goto 5, 3) := by decide +kernel
theorem dX12_halves_108 : decode cX12_halves 108 = .ok (.iload 4, 2) := by decide +kernel
theorem dX12_halves_110 : decode cX12_halves 110 = .ok (.istore 4, 2) := by decide +kernel
theorem dX12_halves_112 : decode cX12_halves 112 = .ok (.iload 9, 2) := by decide +kernel
theorem dX12_halves_114 : decode cX12_halves 114 = .ok (.iload 5, 2) := by decide +kernel
theorem dX12_halves_116 : decode cX12_halves 116 = .ok (.if_icmp .ge 8, 3) := by decide +kernel
theorem dX12_halves_119 : decode cX12_halves 119 = .ok (.iload 9, 2) := by decide +kernel
theorem dX12_halves_121 : decode cX12_halves 121 = .ok (.goto 5, 3) := by decide +kernel
theorem dX12_halves_124 : decode cX12_halves 124 = .ok (.iload 5, 2) := by decide +kernel
theorem dX12_halves_126 : decode cX12_halves 126 = .ok (.istore 5, 2) := by decide +kernel
theorem dX12_halves_128 : decode cX12_halves 128 = .ok (.iinc 6 1, 3) := by decide +kernel
theorem dX12_halves_131 : decode cX12_halves 131 = .ok (.goto (-88), 3) := by decide +kernel
theorem dX12_halves_134 : decode cX12_halves 134 = .ok (.iload_n 3, 1) := by decide +kernel
theorem dX12_halves_135 : decode cX12_halves 135 = .ok (.ifCond .ne 7, 3) := by decide +kernel
theorem dX12_halves_138 : decode cX12_halves 138 = .ok (.iconst (-1), 1) := by decide +kernel
theorem dX12_halves_139 : decode cX12_halves 139 = .ok (.goto 14, 3) := by decide +kernel
theorem dX12_halves_142 : decode cX12_halves 142 = .ok (.iload_n 2, 1) := by decide +kernel
theorem dX12_halves_143 : decode cX12_halves 143 = .ok (.ifCond .ne 8, 3) := by decide +kernel
theorem dX12_halves_146 : decode cX12_halves 146 = .ok (.iload 4, 2) := by decide +kernel
theorem dX12_halves_148 : decode cX12_halves 148 = .ok (.goto 5, 3) := by decide +kernel
theorem dX12_halves_151 : decode cX12_halves 151 = .ok (.iload 5, 2) := by decide +kernel
theorem dX12_halves_153 : decode cX12_halves 153 = .ok (.ireturn, 1) := by decide +kernel
theorem w_X12_halves_110 {l : Launch} {D : zDD} {b : Nat} (x2 x3 x5 x6 x9 y0 : Int32) (σ : zSg) (τ : zLm) {Q : Int32 → zSg → zLm → Prop} (h : (x5 ≤ x9 → AI l D b M_X12_halves 2 G0 Q 43 [(2, .int x2), (3, .int x3), (4, .int y0), (5, .int x5), (6, .int (x6 + 1))] [] G0 σ τ) ∧ (¬ x5 ≤ x9 → AI l D b M_X12_halves 2 G0 Q 43 [(2, .int x2), (3, .int x3), (4, .int y0), (5, .int x9), (6, .int (x6 + 1))] [] G0 σ τ)) : AI l D b M_X12_halves 2 G0 Q 110 [(2, .int x2), (3, .int x3), (5, .int x5), (6, .int x6), (9, .int x9)] [.int y0] G0 σ τ := by
  refine r_istore dX12_halves_110 (by decide) rfl ?_
  refine r_iload 5 dX12_halves_112 rfl ?_
  refine r_iload 3 dX12_halves_114 rfl ?_
  refine r_icmp_ge (tgt := 124) dX12_halves_116 (by decide) (fun c1 => ?_) (fun c1 => ?_)
  · replace h := h.1 c1
    refine r_iload 3 dX12_halves_124 rfl ?_
    refine r_istore dX12_halves_126 (by decide) rfl ?_
    refine r_inc 4 dX12_halves_128 rfl ci_1 (by decide) rfl ?_
    refine r_goto (tgt := 43) dX12_halves_131 (by decide) ?_
    refine r_lv [3, 4, 2, 1, 0] rfl ?_
    exact h
  · replace h := h.2 c1
    refine r_iload 5 dX12_halves_119 rfl ?_
    refine r_goto (tgt := 126) dX12_halves_121 (by decide) ?_
    refine r_istore dX12_halves_126 (by decide) rfl ?_
    refine r_inc 4 dX12_halves_128 rfl ci_1 (by decide) rfl ?_
    refine r_goto (tgt := 43) dX12_halves_131 (by decide) ?_
    refine r_lv [3, 4, 2, 1, 0] rfl ?_
    exact h

theorem w_X12_halves_94 {l : Launch} {D : zDD} {b : Nat} (x2 x3 x4 x5 x6 y0 : Int32) (σ : zSg) (τ : zLm) {Q : Int32 → zSg → zLm → Prop} (h : (x5 ≤ y0 → AI l D b M_X12_halves 2 G0 Q 110 [(2, .int x2), (3, .int x3), (5, .int x5), (6, .int x6), (9, .int y0)] [.int x4] G0 σ τ) ∧ (¬ x5 ≤ y0 → AI l D b M_X12_halves 2 G0 Q 110 [(2, .int x2), (3, .int x3), (5, .int x5), (6, .int x6), (9, .int y0)] [.int x6] G0 σ τ)) : AI l D b M_X12_halves 2 G0 Q 94 [(2, .int x2), (3, .int x3), (4, .int x4), (5, .int x5), (6, .int x6)] [.int y0] G0 σ τ := by
  refine r_istore dX12_halves_94 (by decide) rfl ?_
  refine r_iload 0 dX12_halves_96 rfl ?_
  refine r_iload 4 dX12_halves_98 rfl ?_
  refine r_icmp_ge (tgt := 108) dX12_halves_100 (by decide) (fun c1 => ?_) (fun c1 => ?_)
  · replace h := h.1 c1
    refine r_iload 3 dX12_halves_108 rfl ?_
    refine r_lv [1, 2, 4, 5, 0] rfl ?_
    exact h
  · replace h := h.2 c1
    refine r_iload 5 dX12_halves_103 rfl ?_
    refine r_goto (tgt := 110) dX12_halves_105 (by decide) ?_
    refine r_lv [1, 2, 4, 5, 0] rfl ?_
    exact h

theorem w_X12_halves_43 {l : Launch} {D : zDD} {b : Nat} (x2 x3 x4 x5 x6 : Int32) (σ : zSg) (τ : zLm) {Q : Int32 → zSg → zLm → Prop} (h : (15 ≤ x6 → ((¬ x3 = 0 → ((¬ x2 = 0 → Q x5 σ τ) ∧ (x2 = 0 → Q x4 σ τ))) ∧ (x3 = 0 → Q (-1) σ τ))) ∧ (¬ 15 ≤ x6 → (SI l D b M_X12_in 0 G0 [.int (x6 - x6 / 10 * 10), .int 1, .int 4] σ τ (fun r4 σ4 τ4 => (r4 = 0 → AI l D b M_X12_halves 2 G0 Q 43 [(2, .int x2), (3, .int x3), (4, .int x4), (5, .int x5), (6, .int (x6 + 1))] [] G0 σ4 τ4) ∧ (¬ r4 = 0 → (SI l D b M_X12_ahead 1 G0 [.int x3, .int x6] σ4 τ4 (fun r6 σ6 τ6 => SI l D b M_X12_bits 0 G0 [.int x3] σ6 τ6 (fun r7 σ7 τ7 => (r6 ≤ (r7 - r6) → AI l D b M_X12_halves 2 G0 Q 94 [(2, .int x2), (3, .int x3), (4, .int x4), (5, .int x5), (6, .int x6)] [.int (r7 - r6)] G0 σ7 τ7) ∧ (¬ r6 ≤ (r7 - r6) → AI l D b M_X12_halves 2 G0 Q 94 [(2, .int x2), (3, .int x3), (4, .int x4), (5, .int x5), (6, .int x6)] [.int r6] G0 σ7 τ7))))))))) : AI l D b M_X12_halves 2 G0 Q 43 [(2, .int x2), (3, .int x3), (4, .int x4), (5, .int x5), (6, .int x6)] [] G0 σ τ := by
  refine r_iload 4 dX12_halves_43 rfl ?_
  refine r_bipush dX12_halves_45 cb_15 ?_
  refine r_icmp_ge (tgt := 134) dX12_halves_47 (by decide) (fun c1 => ?_) (fun c1 => ?_)
  · replace h := h.1 c1
    refine r_iload_n 1 dX12_halves_134 rfl rfl ?_
    refine r_if_ne (tgt := 142) dX12_halves_135 (by decide) (fun c2 => ?_) (fun c2 => ?_)
    · replace h := h.1 c2
      refine r_iload_n 0 dX12_halves_142 rfl rfl ?_
      refine r_if_ne (tgt := 151) dX12_halves_143 (by decide) (fun c3 => ?_) (fun c3 => ?_)
      · replace h := h.1 c3
        refine r_iload 3 dX12_halves_151 rfl ?_
        exact r_iret rfl (Nat.le_refl _) (Nat.le_refl _) dX12_halves_153 ⟨rfl, rfl, rfl, _, rfl, h⟩
      · replace h := h.2 c3
        refine r_iload 2 dX12_halves_146 rfl ?_
        refine r_goto (tgt := 153) dX12_halves_148 (by decide) ?_
        exact r_iret rfl (Nat.le_refl _) (Nat.le_refl _) dX12_halves_153 ⟨rfl, rfl, rfl, _, rfl, h⟩
    · replace h := h.2 c2
      refine r_iconst dX12_halves_138 ci_m1 ?_
      refine r_goto (tgt := 153) dX12_halves_139 (by decide) ?_
      exact r_iret rfl (Nat.le_refl _) (Nat.le_refl _) dX12_halves_153 ⟨rfl, rfl, rfl, _, rfl, h⟩
  · replace h := h.2 c1
    refine r_iload 4 dX12_halves_50 rfl ?_
    refine r_bipush dX12_halves_52 cb_10 ?_
    refine r_irem dX12_halves_54 (by decide) ?_
    refine r_iconst dX12_halves_55 ci_1 ?_
    refine r_iconst dX12_halves_56 ci_4 ?_
    refine rc_SI (h' := 0) [.int (x6 - x6 / 10 * 10), .int 1, .int 4] oks_X12_in tw_924 rfl rfl (Nat.le_of_ble_eq_true rfl) dX12_halves_57 (by decide) h (fun r4 σ4 τ4 h => ?_)
    refine r_if_eq (tgt := 128) dX12_halves_60 (by decide) (fun c5 => ?_) (fun c5 => ?_)
    · replace h := h.1 c5
      refine r_inc 4 dX12_halves_128 rfl ci_1 (by decide) rfl ?_
      refine r_goto (tgt := 43) dX12_halves_131 (by decide) ?_
      refine r_lv [1, 2, 3, 4, 0] rfl ?_
      exact h
    · replace h := h.2 c5
      refine r_iload_n 1 dX12_halves_63 rfl rfl ?_
      refine r_iload 4 dX12_halves_64 rfl ?_
      refine rc_SI (h' := 1) [.int x3, .int x6] oks_X12_ahead tw_1221 rfl rfl (Nat.le_of_ble_eq_true rfl) dX12_halves_66 (by decide) h (fun r6 σ6 τ6 h => ?_)
      refine r_istore dX12_halves_69 (by decide) rfl ?_
      refine r_iload_n 2 dX12_halves_71 rfl rfl ?_
      refine rc_SI (h' := 0) [.int x3] oks_X12_bits tw_1046 rfl rfl (Nat.le_of_ble_eq_true rfl) dX12_halves_72 (by decide) h (fun r7 σ7 τ7 h => ?_)
      refine r_iload 0 dX12_halves_75 rfl ?_
      refine r_isub dX12_halves_77 ?_
      refine r_istore dX12_halves_78 (by decide) rfl ?_
      refine r_iload 1 dX12_halves_80 rfl ?_
      refine r_iload 0 dX12_halves_82 rfl ?_
      refine r_icmp_le (tgt := 92) dX12_halves_84 (by decide) (fun c8 => ?_) (fun c8 => ?_)
      · replace h := h.1 c8
        refine r_iload 0 dX12_halves_92 rfl ?_
        refine r_lv [2, 3, 4, 5, 6] rfl ?_
        exact h
      · replace h := h.2 c8
        refine r_iload 1 dX12_halves_87 rfl ?_
        refine r_goto (tgt := 94) dX12_halves_89 (by decide) ?_
        refine r_lv [2, 3, 4, 5, 6] rfl ?_
        exact h

theorem w_X12_halves_0 {l : Launch} {D : zDD} {b : Nat} (p1 p2 : Int32) (σ : zSg) (τ : zLm) {Q : Int32 → zSg → zLm → Prop} (h : SI l D b M_X12_isTrouble 1 G0 [.ref (b + 125), .int p1] σ τ (fun r1 σ1 τ1 => (¬ r1 = 0 → (SI l D b M_X12_in 0 G0 [.int p2, .int 0, .int 1] σ1 τ1 (fun r3 σ3 τ3 => (¬ r3 = 0 → (vp_in (8 + p1) 26 ∧ (∀ v5 : Int32, v5 = σ3 133 ((8 + p1).toNatClampNeg) → AI l D b M_X12_halves 2 G0 Q 43 [(2, .int p2), (3, .int v5), (4, .int (-1)), (5, .int 26), (6, .int 1)] [] G0 σ3 τ3))) ∧ (r3 = 0 → Q (-1000000002) σ3 τ3)))) ∧ (r1 = 0 → Q (-1000000001) σ1 τ1))) : AI l D b M_X12_halves 2 G0 Q 0 [(0, .ref (b + 125)), (1, .int p1), (2, .int p2)] [] G0 σ τ := by
  refine r_aload_n 0 dX12_halves_0 rfl rfl ?_
  refine r_iload_n 1 dX12_halves_1 rfl rfl ?_
  refine rc_VI (h' := 1) [.int p1] okv_X12_isTrouble (by decide) (congrArg Prod.fst k0_125) tw_1031 rfl rfl (Nat.le_of_ble_eq_true rfl) dX12_halves_2 (by decide) h (fun r1 σ1 τ1 h => ?_)
  refine r_if_ne (tgt := 11) dX12_halves_5 (by decide) (fun c2 => ?_) (fun c2 => ?_)
  · replace h := h.1 c2
    refine r_iload_n 2 dX12_halves_11 rfl rfl ?_
    refine r_iconst dX12_halves_12 ci_0 ?_
    refine r_iconst dX12_halves_13 ci_1 ?_
    refine rc_SI (h' := 0) [.int p2, .int 0, .int 1] oks_X12_in tw_924 rfl rfl (Nat.le_of_ble_eq_true rfl) dX12_halves_14 (by decide) h (fun r3 σ3 τ3 h => ?_)
    refine r_if_ne (tgt := 23) dX12_halves_17 (by decide) (fun c4 => ?_) (fun c4 => ?_)
    · replace h := h.1 c4
      refine r_aload_n 0 dX12_halves_23 rfl rfl ?_
      refine r_getR (j := 20) (by decide) (congrArg Prod.fst k0_125) c12_11 (by decide) rfl g0_125_20 tw_830 dX12_halves_24 ?_
      refine r_bipush dX12_halves_27 cb_8 ?_
      refine r_iload_n 1 dX12_halves_29 rfl rfl ?_
      refine r_iadd dX12_halves_30 ?_
      refine r_iald (by decide) k0_133 dX12_halves_31 h.1 ?_
      replace h := h.2
      refine r_nmI (fun v5 ev5 => ?_)
      replace h := h v5 ev5
      refine r_istore_n dX12_halves_32 rfl (by decide) rfl ?_
      refine r_iconst dX12_halves_33 ci_m1 ?_
      refine r_istore dX12_halves_34 (by decide) rfl ?_
      refine r_bipush dX12_halves_36 cb_26 ?_
      refine r_istore dX12_halves_38 (by decide) rfl ?_
      refine r_iconst dX12_halves_40 ci_1 ?_
      refine r_istore dX12_halves_41 (by decide) rfl ?_
      refine r_lv [6, 3, 2, 1, 0] rfl ?_
      exact h
    · replace h := h.2 c4
      refine r_ldc (v := (-1000000002)) rfl tw_927 rfl dX12_halves_20 ?_
      exact r_iret rfl (Nat.le_refl _) (Nat.le_refl _) dX12_halves_22 ⟨rfl, rfl, rfl, _, rfl, h⟩
  · replace h := h.2 c2
    refine r_ldc (v := (-1000000001)) rfl tw_1035 rfl dX12_halves_8 ?_
    exact r_iret rfl (Nat.le_refl _) (Nat.le_refl _) dX12_halves_10 ⟨rfl, rfl, rfl, _, rfl, h⟩
theorem s_X12_halves {l : Launch} {D : zDD} {b : Nat} (p1 p2 : Int32) (σ : zSg) (τ : zLm) {Q : Int32 → zSg → zLm → Prop} (h : SI l D b M_X12_isTrouble 1 G0 [.ref (b + 125), .int p1] σ τ (fun r1 σ1 τ1 => (¬ r1 = 0 → (SI l D b M_X12_in 0 G0 [.int p2, .int 0, .int 1] σ1 τ1 (fun r3 σ3 τ3 => (¬ r3 = 0 → (vp_in (8 + p1) 26 ∧ (∀ v5 : Int32, v5 = σ3 133 ((8 + p1).toNatClampNeg) → AI l D b M_X12_halves 2 G0 Q 43 [(2, .int p2), (3, .int v5), (4, .int (-1)), (5, .int 26), (6, .int 1)] [] G0 σ3 τ3))) ∧ (r3 = 0 → Q (-1000000002) σ3 τ3)))) ∧ (r1 = 0 → Q (-1000000001) σ1 τ1))) : SI l D b M_X12_halves 2 G0 [.ref (b + 125), .int p1, .int p2] σ τ Q := zS.of (by decide) (Nat.le_of_ble_eq_true rfl) rfl (w_X12_halves_0 p1 p2 σ τ h)

theorem dX12_fit_0 : decode cX12_fit 0 = .ok (.iload_n 1, 1) := by decide +kernel
theorem dX12_fit_1 : decode cX12_fit 1 = .ok (.bipush 25, 2) := by decide +kernel
theorem dX12_fit_3 : decode cX12_fit 3 = .ok (.irem, 1) := by decide +kernel
theorem dX12_fit_4 : decode cX12_fit 4 = .ok (.istore_n 2, 1) := by decide +kernel
theorem dX12_fit_5 : decode cX12_fit 5 = .ok (.aload_n 0, 1) := by decide +kernel
theorem dX12_fit_6 : decode cX12_fit 6 = .ok (.getfield 35, 3) := by decide +kernel
theorem dX12_fit_9 : decode cX12_fit 9 = .ok (.bipush 8, 2) := by decide +kernel
theorem dX12_fit_11 : decode cX12_fit 11 = .ok (.iload_n 1, 1) := by decide +kernel
theorem dX12_fit_12 : decode cX12_fit 12 = .ok (.bipush 25, 2) := by decide +kernel
theorem dX12_fit_14 : decode cX12_fit 14 = .ok (.idiv, 1) := by decide +kernel
theorem dX12_fit_15 : decode cX12_fit 15 = .ok (.iadd, 1) := by decide +kernel
theorem dX12_fit_16 : decode cX12_fit 16 = .ok (.iaload, 1) := by decide +kernel
theorem dX12_fit_17 : decode cX12_fit 17 = .ok (.iload_n 2, 1) := by decide +kernel
theorem dX12_fit_18 : decode cX12_fit 18 = .ok (.iconst 5, 1) := by decide +kernel
theorem dX12_fit_19 : decode cX12_fit 19 = .ok (.idiv, 1) := by decide +kernel
theorem dX12_fit_20 : decode cX12_fit 20 = .ok (.iload_n 2, 1) := by decide +kernel
theorem dX12_fit_21 : decode cX12_fit 21 = .ok (.iconst 5, 1) := by decide +kernel
theorem dX12_fit_22 : decode cX12_fit 22 = .ok (.irem, 1) := by decide +kernel
theorem dX12_fit_23 : decode cX12_fit 23 = .ok (.invokestatic 317, 3) := by decide +kernel
theorem dX12_fit_26 : decode cX12_fit 26 = .ok (.istore_n 3, 1) := by decide +kernel
theorem dX12_fit_27 : decode cX12_fit 27 = .ok (.iload_n 3, 1) := by decide +kernel
theorem dX12_fit_28 : decode cX12_fit 28 = .ok (.iconst (-1), 1) := by decide +kernel
theorem dX12_fit_29 : decode cX12_fit 29 = .ok (.if_icmp .eq 7, 3) := by decide +kernel
theorem dX12_fit_32 : decode cX12_fit 32 = .ok (.iconst 1, 1) := by decide +kernel
theorem dX12_fit_33 : decode cX12_fit 33 = .ok (.goto 4, 3) := by decide +kernel
theorem dX12_fit_36 : decode cX12_fit 36 = .ok (.iconst 0, 1) := by decide +kernel
theorem dX12_fit_37 : decode cX12_fit 37 = .ok (.istore 4, 2) := by decide +kernel
theorem dX12_fit_39 : decode cX12_fit 39 = .ok (.iconst 0, 1) := by decide +kernel
theorem dX12_fit_40 : decode cX12_fit 40 = .ok (.istore 5, 2) := by decide +kernel
theorem dX12_fit_42 : decode cX12_fit 42 = .ok (.iload 5, 2) := by decide +kernel
theorem dX12_fit_44 : decode cX12_fit 44 = .ok (.aload_n 0, 1) := by decide +kernel
theorem dX12_fit_45 : decode cX12_fit 45 = .ok (.getfield 150, 3) := by decide +kernel
theorem dX12_fit_48 : decode cX12_fit 48 = .ok (.if_icmp .ge 42, 3) := by decide +kernel
theorem dX12_fit_51 : decode cX12_fit 51 = .ok (.iload 4, 2) := by decide +kernel
theorem dX12_fit_53 : decode cX12_fit 53 = .ok (.ifCond .eq 37, 3) := by decide +kernel
theorem dX12_fit_56 : decode cX12_fit 56 = .ok (.iload_n 3, 1) := by decide +kernel
theorem dX12_fit_57 : decode cX12_fit 57 = .ok (.aload_n 0, 1) := by decide +kernel
theorem dX12_fit_58 : decode cX12_fit 58 = .ok (.getfield 44, 3) := by decide +kernel
theorem dX12_fit_61 : decode cX12_fit 61 = .ok (.iload 5, 2) := by decide +kernel
theorem dX12_fit_63 : decode cX12_fit 63 = .ok (.iaload, 1) := by decide +kernel
theorem dX12_fit_64 : decode cX12_fit 64 = .ok (.invokestatic 193, 3) := by decide +kernel
theorem dX12_fit_67 : decode cX12_fit 67 = .ok (.aload_n 0, 1) := by decide +kernel
theorem dX12_fit_68 : decode cX12_fit 68 = .ok (.getfield 47, 3) := by decide +kernel
theorem dX12_fit_71 : decode cX12_fit 71 = .ok (.iload 5, 2) := by decide +kernel
theorem dX12_fit_73 : decode cX12_fit 73 = .ok (.baload, 1) := by decide +kernel
theorem dX12_fit_74 : decode cX12_fit 74 = .ok (.if_icmp .ne 7, 3) := by decide +kernel
theorem dX12_fit_77 : decode cX12_fit 77 = .ok (.iconst 1, 1) := by decide +kernel
theorem dX12_fit_78 : decode cX12_fit 78 = .ok (.goto 4, 3) := by decide +kernel
theorem dX12_fit_81 : decode cX12_fit 81 = .ok (.iconst 0, 1) := by decide +kernel
theorem dX12_fit_82 : decode cX12_fit 82 = .ok (.istore 4, 2) := by decide +kernel
theorem dX12_fit_84 : decode cX12_fit 84 = .ok (.iinc 5 1, 3) := by decide +kernel
theorem dX12_fit_87 : decode cX12_fit 87 = .ok (.goto (-45), 3) := by decide +kernel
theorem dX12_fit_90 : decode cX12_fit 90 = .ok (.iload 4, 2) := by decide +kernel
theorem dX12_fit_92 : decode cX12_fit 92 = .ok (.ifCond .eq 7, 3) := by decide +kernel
theorem dX12_fit_95 : decode cX12_fit 95 = .ok (.iload_n 3, 1) := by decide +kernel
theorem dX12_fit_96 : decode cX12_fit 96 = .ok (.goto 4, 3) := by decide +kernel
theorem dX12_fit_99 : decode cX12_fit 99 = .ok (.iconst (-1), 1) := by decide +kernel
theorem dX12_fit_100 : decode cX12_fit 100 = .ok (.ireturn, 1) := by decide +kernel
theorem w_X12_fit_90 {l : Launch} {D : zDD} {b : Nat} (x3 x4 : Int32) (σ : zSg) (τ : zLm) {Q : Int32 → zSg → zLm → Prop} (h : (x4 = 0 → Q (-1) σ τ) ∧ (¬ x4 = 0 → Q x3 σ τ)) : AI l D b M_X12_fit 2 G0 Q 90 [(3, .int x3), (4, .int x4)] [] G0 σ τ := by
  refine r_iload 1 dX12_fit_90 rfl ?_
  refine r_if_eq (tgt := 99) dX12_fit_92 (by decide) (fun c1 => ?_) (fun c1 => ?_)
  · replace h := h.1 c1
    refine r_iconst dX12_fit_99 ci_m1 ?_
    exact r_iret rfl (Nat.le_refl _) (Nat.le_refl _) dX12_fit_100 ⟨rfl, rfl, rfl, _, rfl, h⟩
  · replace h := h.2 c1
    refine r_iload_n 0 dX12_fit_95 rfl rfl ?_
    refine r_goto (tgt := 100) dX12_fit_96 (by decide) ?_
    exact r_iret rfl (Nat.le_refl _) (Nat.le_refl _) dX12_fit_100 ⟨rfl, rfl, rfl, _, rfl, h⟩

theorem w_X12_fit_42 {l : Launch} {D : zDD} {b : Nat} (x3 x4 x5 : Int32) (σ : zSg) (τ : zLm) {Q : Int32 → zSg → zLm → Prop} (h : ((σ 125 26) ≤ x5 → AI l D b M_X12_fit 2 G0 Q 90 [(3, .int x3), (4, .int x4)] [] G0 σ τ) ∧ (¬ (σ 125 26) ≤ x5 → ((x4 = 0 → AI l D b M_X12_fit 2 G0 Q 90 [(3, .int x3), (4, .int x4)] [] G0 σ τ) ∧ (¬ x4 = 0 → (vp_in x5 6 ∧ (SI l D b M_X12_has 0 G0 [.int x3, .int (σ 136 x5.toNatClampNeg)] σ τ (fun r3 σ3 τ3 => vp_in x5 6 ∧ ((¬ r3 = (σ3 137 x5.toNatClampNeg) → AI l D b M_X12_fit 2 G0 Q 42 [(0, .ref (b + 125)), (3, .int x3), (4, .int 0), (5, .int (x5 + 1))] [] G0 σ3 τ3) ∧ (r3 = (σ3 137 x5.toNatClampNeg) → AI l D b M_X12_fit 2 G0 Q 42 [(0, .ref (b + 125)), (3, .int x3), (4, .int 1), (5, .int (x5 + 1))] [] G0 σ3 τ3))))))))) : AI l D b M_X12_fit 2 G0 Q 42 [(0, .ref (b + 125)), (3, .int x3), (4, .int x4), (5, .int x5)] [] G0 σ τ := by
  refine r_iload 3 dX12_fit_42 rfl ?_
  refine r_aload_n 0 dX12_fit_44 rfl rfl ?_
  refine r_getI (j := 26) (by decide) (congrArg Prod.fst k0_125) c12_11 (by decide) rfl tw_836 dX12_fit_45 ?_
  refine r_icmp_ge (tgt := 90) dX12_fit_48 (by decide) (fun c1 => ?_) (fun c1 => ?_)
  · replace h := h.1 c1
    refine r_lv [1, 2] rfl ?_
    exact h
  · replace h := h.2 c1
    refine r_iload 2 dX12_fit_51 rfl ?_
    refine r_if_eq (tgt := 90) dX12_fit_53 (by decide) (fun c2 => ?_) (fun c2 => ?_)
    · replace h := h.1 c2
      refine r_lv [1, 2] rfl ?_
      exact h
    · replace h := h.2 c2
      refine r_iload_n 1 dX12_fit_56 rfl rfl ?_
      refine r_aload_n 0 dX12_fit_57 rfl rfl ?_
      refine r_getR (j := 27) (by decide) (congrArg Prod.fst k0_125) c12_11 (by decide) rfl g0_125_27 tw_837 dX12_fit_58 ?_
      refine r_iload 3 dX12_fit_61 rfl ?_
      refine r_iald (by decide) k0_136 dX12_fit_63 h.1 ?_
      replace h := h.2
      refine rc_SI (h' := 0) [.int x3, .int (σ 136 x5.toNatClampNeg)] oks_X12_has tw_1016 rfl rfl (Nat.le_of_ble_eq_true rfl) dX12_fit_64 (by decide) h (fun r3 σ3 τ3 h => ?_)
      refine r_aload_n 0 dX12_fit_67 rfl rfl ?_
      refine r_getR (j := 28) (by decide) (congrArg Prod.fst k0_125) c12_11 (by decide) rfl g0_125_28 tw_838 dX12_fit_68 ?_
      refine r_iload 3 dX12_fit_71 rfl ?_
      refine r_zald (by decide) k0_137 dX12_fit_73 h.1 ?_
      replace h := h.2
      refine r_icmp_ne (tgt := 81) dX12_fit_74 (by decide) (fun c4 => ?_) (fun c4 => ?_)
      · replace h := h.1 c4
        refine r_iconst dX12_fit_81 ci_0 ?_
        refine r_istore dX12_fit_82 (by decide) rfl ?_
        refine r_inc 3 dX12_fit_84 rfl ci_1 (by decide) rfl ?_
        refine r_goto (tgt := 42) dX12_fit_87 (by decide) ?_
        refine r_lv [2, 3, 1, 0] rfl ?_
        exact h
      · replace h := h.2 c4
        refine r_iconst dX12_fit_77 ci_1 ?_
        refine r_goto (tgt := 82) dX12_fit_78 (by decide) ?_
        refine r_istore dX12_fit_82 (by decide) rfl ?_
        refine r_inc 3 dX12_fit_84 rfl ci_1 (by decide) rfl ?_
        refine r_goto (tgt := 42) dX12_fit_87 (by decide) ?_
        refine r_lv [2, 3, 1, 0] rfl ?_
        exact h

theorem w_X12_fit_0 {l : Launch} {D : zDD} {b : Nat} (p1 : Int32) (σ : zSg) (τ : zLm) {Q : Int32 → zSg → zLm → Prop} (h : vp_in (8 + (p1 / 25)) 26 ∧ (SI l D b M_X12_moved 1 G0 [.int (σ 133 ((8 + (p1 / 25)).toNatClampNeg)), .int ((p1 - p1 / 25 * 25) / 5), .int ((p1 - p1 / 25 * 25) - (p1 - p1 / 25 * 25) / 5 * 5)] σ τ (fun r1 σ1 τ1 => (r1 = (-1) → AI l D b M_X12_fit 2 G0 Q 42 [(0, .ref (b + 125)), (3, .int r1), (4, .int 0), (5, .int 0)] [] G0 σ1 τ1) ∧ (¬ r1 = (-1) → AI l D b M_X12_fit 2 G0 Q 42 [(0, .ref (b + 125)), (3, .int r1), (4, .int 1), (5, .int 0)] [] G0 σ1 τ1)))) : AI l D b M_X12_fit 2 G0 Q 0 [(0, .ref (b + 125)), (1, .int p1)] [] G0 σ τ := by
  refine r_iload_n 1 dX12_fit_0 rfl rfl ?_
  refine r_bipush dX12_fit_1 cb_25 ?_
  refine r_irem dX12_fit_3 (by decide) ?_
  refine r_istore_n dX12_fit_4 rfl (by decide) rfl ?_
  refine r_aload_n 1 dX12_fit_5 rfl rfl ?_
  refine r_getR (j := 20) (by decide) (congrArg Prod.fst k0_125) c12_11 (by decide) rfl g0_125_20 tw_830 dX12_fit_6 ?_
  refine r_bipush dX12_fit_9 cb_8 ?_
  refine r_iload_n 2 dX12_fit_11 rfl rfl ?_
  refine r_bipush dX12_fit_12 cb_25 ?_
  refine r_idiv dX12_fit_14 (by decide) ?_
  refine r_iadd dX12_fit_15 ?_
  refine r_iald (by decide) k0_133 dX12_fit_16 h.1 ?_
  replace h := h.2
  refine r_iload_n 0 dX12_fit_17 rfl rfl ?_
  refine r_iconst dX12_fit_18 ci_5 ?_
  refine r_idiv dX12_fit_19 (by decide) ?_
  refine r_iload_n 0 dX12_fit_20 rfl rfl ?_
  refine r_iconst dX12_fit_21 ci_5 ?_
  refine r_irem dX12_fit_22 (by decide) ?_
  refine rc_SI (h' := 1) [.int (σ 133 ((8 + (p1 / 25)).toNatClampNeg)), .int ((p1 - p1 / 25 * 25) / 5), .int ((p1 - p1 / 25 * 25) - (p1 - p1 / 25 * 25) / 5 * 5)] oks_X12_moved tw_1013 rfl rfl (Nat.le_of_ble_eq_true rfl) dX12_fit_23 (by decide) h (fun r1 σ1 τ1 h => ?_)
  refine r_istore_n dX12_fit_26 rfl (by decide) rfl ?_
  refine r_iload_n 0 dX12_fit_27 rfl rfl ?_
  refine r_iconst dX12_fit_28 ci_m1 ?_
  refine r_icmp_eq (tgt := 36) dX12_fit_29 (by decide) (fun c2 => ?_) (fun c2 => ?_)
  · replace h := h.1 c2
    refine r_iconst dX12_fit_36 ci_0 ?_
    refine r_istore dX12_fit_37 (by decide) rfl ?_
    refine r_iconst dX12_fit_39 ci_0 ?_
    refine r_istore dX12_fit_40 (by decide) rfl ?_
    refine r_lv [4, 2, 1, 0] rfl ?_
    exact h
  · replace h := h.2 c2
    refine r_iconst dX12_fit_32 ci_1 ?_
    refine r_goto (tgt := 37) dX12_fit_33 (by decide) ?_
    refine r_istore dX12_fit_37 (by decide) rfl ?_
    refine r_iconst dX12_fit_39 ci_0 ?_
    refine r_istore dX12_fit_40 (by decide) rfl ?_
    refine r_lv [4, 2, 1, 0] rfl ?_
    exact h
theorem s_X12_fit {l : Launch} {D : zDD} {b : Nat} (p1 : Int32) (σ : zSg) (τ : zLm) {Q : Int32 → zSg → zLm → Prop} (h : vp_in (8 + (p1 / 25)) 26 ∧ (SI l D b M_X12_moved 1 G0 [.int (σ 133 ((8 + (p1 / 25)).toNatClampNeg)), .int ((p1 - p1 / 25 * 25) / 5), .int ((p1 - p1 / 25 * 25) - (p1 - p1 / 25 * 25) / 5 * 5)] σ τ (fun r1 σ1 τ1 => (r1 = (-1) → AI l D b M_X12_fit 2 G0 Q 42 [(0, .ref (b + 125)), (3, .int r1), (4, .int 0), (5, .int 0)] [] G0 σ1 τ1) ∧ (¬ r1 = (-1) → AI l D b M_X12_fit 2 G0 Q 42 [(0, .ref (b + 125)), (3, .int r1), (4, .int 1), (5, .int 0)] [] G0 σ1 τ1)))) : SI l D b M_X12_fit 2 G0 [.ref (b + 125), .int p1] σ τ Q := zS.of (by decide) (Nat.le_of_ble_eq_true rfl) rfl (w_X12_fit_0 p1 σ τ h)

theorem dX12_write_0 : decode cX12_write 0 = .ok (.aload_n 0, 1) := by decide +kernel
theorem dX12_write_1 : decode cX12_write 1 = .ok (.iload_n 1, 1) := by decide +kernel
theorem dX12_write_2 : decode cX12_write 2 = .ok (.invokevirtual 203, 3) := by decide +kernel
theorem dX12_write_5 : decode cX12_write 5 = .ok (.ifCond .ne 6, 3) := by decide +kernel
theorem dX12_write_8 : decode cX12_write 8 = .ok (.ldc 206, 2) := by decide +kernel
theorem dX12_write_10 : decode cX12_write 10 = .ok (.ireturn, 1) := by decide +kernel
theorem dX12_write_11 : decode cX12_write 11 = .ok (.iload_n 2, 1) := by decide +kernel
theorem dX12_write_12 : decode cX12_write 12 = .ok (.iconst 0, 1) := by decide +kernel
theorem dX12_write_13 : decode cX12_write 13 = .ok (.sipush 200, 3) := by decide +kernel
theorem dX12_write_16 : decode cX12_write 16 = .ok (.invokestatic 70, 3) := by decide +kernel
theorem dX12_write_19 : decode cX12_write 19 = .ok (.ifCond .ne 6, 3) := by decide +kernel
theorem dX12_write_22 : decode cX12_write 22 = .ok (.ldc 74, 2) := by decide +kernel
theorem dX12_write_24 : decode cX12_write 24 = .ok (.ireturn, 1) := by decide +kernel
theorem dX12_write_25 : decode cX12_write 25 = .ok (.aload_n 0, 1) := by decide +kernel
theorem dX12_write_26 : decode cX12_write 26 = .ok (.getfield 153, 3) := by decide +kernel
theorem dX12_write_29 : decode cX12_write 29 = .ok (.bipush 15, 2) := by decide +kernel
theorem dX12_write_31 : decode cX12_write 31 = .ok (.if_icmp .ne 6, 3) := by decide +kernel
theorem dX12_write_34 : decode cX12_write 34 = .ok (.ldc 78, 2) := by decide +kernel
theorem dX12_write_36 : decode cX12_write 36 = .ok (.ireturn, 1) := by decide +kernel
theorem dX12_write_37 : decode cX12_write 37 = .ok (.aload_n 0, 1) := by decide +kernel
theorem dX12_write_38 : decode cX12_write 38 = .ok (.getfield 54, 3) := by decide +kernel
theorem dX12_write_41 : decode cX12_write 41 = .ok (.aload_n 0, 1) := by decide +kernel
theorem dX12_write_42 : decode cX12_write 42 = .ok (.getfield 153, 3) := by decide +kernel
theorem dX12_write_45 : decode cX12_write 45 = .ok (.iload_n 1, 1) := by decide +kernel
theorem dX12_write_46 : decode cX12_write 46 = .ok (.iastore, 1) := by decide +kernel
theorem dX12_write_47 : decode cX12_write 47 = .ok (.aload_n 0, 1) := by decide +kernel
theorem dX12_write_48 : decode cX12_write 48 = .ok (.getfield 57, 3) := by decide +kernel
theorem dX12_write_51 : decode cX12_write 51 = .ok (.aload_n 0, 1) := by decide +kernel
theorem dX12_write_52 : decode cX12_write 52 = .ok (.getfield 153, 3) := by decide +kernel
theorem dX12_write_55 : decode cX12_write 55 = .ok (.iload_n 2, 1) := by decide +kernel
theorem dX12_write_56 : decode cX12_write 56 = .ok (.iastore, 1) := by decide +kernel
theorem dX12_write_57 : decode cX12_write 57 = .ok (.aload_n 0, 1) := by decide +kernel
theorem dX12_write_58 : decode cX12_write 58 = .ok (.dup, 1) := by decide +kernel
theorem dX12_write_59 : decode cX12_write 59 = .ok (.getfield 153, 3) := by decide +kernel
theorem dX12_write_62 : decode cX12_write 62 = .ok (.iconst 1, 1) := by decide +kernel
theorem dX12_write_63 : decode cX12_write 63 = .ok (.iadd, 1) := by decide +kernel
theorem dX12_write_64 : decode cX12_write 64 = .ok (.putfield 153, 3) := by decide +kernel
theorem dX12_write_67 : decode cX12_write 67 = .ok (.aload_n 0, 1) := by decide +kernel
theorem dX12_write_68 : decode cX12_write 68 = .ok (.getfield 153, 3) := by decide +kernel
theorem dX12_write_71 : decode cX12_write 71 = .ok (.ireturn, 1) := by decide +kernel
theorem w_X12_write_0 {l : Launch} {D : zDD} {b : Nat} (p1 p2 : Int32) (σ : zSg) (τ : zLm) {Q : Int32 → zSg → zLm → Prop} (h : SI l D b M_X12_isTrouble 1 G0 [.ref (b + 125), .int p1] σ τ (fun r1 σ1 τ1 => (¬ r1 = 0 → (SI l D b M_X12_in 0 G0 [.int p2, .int 0, .int 200] σ1 τ1 (fun r3 σ3 τ3 => (¬ r3 = 0 → ((¬ (σ3 125 30) = 15 → (vp_in (σ3 125 30) 15 ∧ (vp_in ((st2 σ3 139 ((σ3 125 30).toNatClampNeg) p1) 125 30) 15 ∧ (∀ σ6 : zSg, σ6 = st2 (st2 σ3 139 ((σ3 125 30).toNatClampNeg) p1) 140 (((st2 σ3 139 ((σ3 125 30).toNatClampNeg) p1) 125 30).toNatClampNeg) p2 → Q ((st2 σ6 125 30 ((σ6 125 30) + 1)) 125 30) (st2 σ6 125 30 ((σ6 125 30) + 1)) τ3)))) ∧ ((σ3 125 30) = 15 → Q (-1000000004) σ3 τ3))) ∧ (r3 = 0 → Q (-1000000002) σ3 τ3)))) ∧ (r1 = 0 → Q (-1000000001) σ1 τ1))) : AI l D b M_X12_write 2 G0 Q 0 [(0, .ref (b + 125)), (1, .int p1), (2, .int p2)] [] G0 σ τ := by
  refine r_aload_n 0 dX12_write_0 rfl rfl ?_
  refine r_iload_n 1 dX12_write_1 rfl rfl ?_
  refine rc_VI (h' := 1) [.int p1] okv_X12_isTrouble (by decide) (congrArg Prod.fst k0_125) tw_1031 rfl rfl (Nat.le_of_ble_eq_true rfl) dX12_write_2 (by decide) h (fun r1 σ1 τ1 h => ?_)
  refine r_if_ne (tgt := 11) dX12_write_5 (by decide) (fun c2 => ?_) (fun c2 => ?_)
  · replace h := h.1 c2
    refine r_iload_n 2 dX12_write_11 rfl rfl ?_
    refine r_iconst dX12_write_12 ci_0 ?_
    refine r_sipush dX12_write_13 cs_200 ?_
    refine rc_SI (h' := 0) [.int p2, .int 0, .int 200] oks_X12_in tw_924 rfl rfl (Nat.le_of_ble_eq_true rfl) dX12_write_16 (by decide) h (fun r3 σ3 τ3 h => ?_)
    refine r_if_ne (tgt := 25) dX12_write_19 (by decide) (fun c4 => ?_) (fun c4 => ?_)
    · replace h := h.1 c4
      refine r_aload_n 0 dX12_write_25 rfl rfl ?_
      refine r_getI (j := 30) (by decide) (congrArg Prod.fst k0_125) c12_11 (by decide) rfl tw_840 dX12_write_26 ?_
      refine r_bipush dX12_write_29 cb_15 ?_
      refine r_icmp_ne (tgt := 37) dX12_write_31 (by decide) (fun c5 => ?_) (fun c5 => ?_)
      · replace h := h.1 c5
        refine r_aload_n 0 dX12_write_37 rfl rfl ?_
        refine r_getR (j := 31) (by decide) (congrArg Prod.fst k0_125) c12_11 (by decide) rfl g0_125_31 tw_841 dX12_write_38 ?_
        refine r_aload_n 0 dX12_write_41 rfl rfl ?_
        refine r_getI (j := 30) (by decide) (congrArg Prod.fst k0_125) c12_11 (by decide) rfl tw_840 dX12_write_42 ?_
        refine r_iload_n 1 dX12_write_45 rfl rfl ?_
        refine r_iast (by decide) k0_139 dX12_write_46 h.1 ?_
        replace h := h.2
        refine r_aload_n 0 dX12_write_47 rfl rfl ?_
        refine r_getR (j := 32) (by decide) (congrArg Prod.fst k0_125) c12_11 (by decide) rfl g0_125_32 tw_842 dX12_write_48 ?_
        refine r_aload_n 0 dX12_write_51 rfl rfl ?_
        refine r_getI (j := 30) (by decide) (congrArg Prod.fst k0_125) c12_11 (by decide) rfl tw_840 dX12_write_52 ?_
        refine r_iload_n 2 dX12_write_55 rfl rfl ?_
        refine r_iast (by decide) k0_140 dX12_write_56 h.1 ?_
        replace h := h.2
        refine r_nmS (fun σ6 eσ6 => ?_)
        replace h := h σ6 eσ6
        refine r_aload_n 0 dX12_write_57 rfl rfl ?_
        refine r_dup dX12_write_58 rfl ?_
        refine r_getI (j := 30) (by decide) (congrArg Prod.fst k0_125) c12_11 (by decide) rfl tw_840 dX12_write_59 ?_
        refine r_iconst dX12_write_62 ci_1 ?_
        refine r_iadd dX12_write_63 ?_
        refine r_putI (j := 30) (by decide) (congrArg Prod.fst k0_125) c12_11 (by decide) rfl (Or.inl rfl) tw_840 dX12_write_64 ?_
        refine r_aload_n 0 dX12_write_67 rfl rfl ?_
        refine r_getI (j := 30) (by decide) (congrArg Prod.fst k0_125) c12_11 (by decide) rfl tw_840 dX12_write_68 ?_
        exact r_iret rfl (Nat.le_refl _) (Nat.le_refl _) dX12_write_71 ⟨rfl, rfl, rfl, _, rfl, h⟩
      · replace h := h.2 c5
        refine r_ldc (v := (-1000000004)) rfl tw_928 rfl dX12_write_34 ?_
        exact r_iret rfl (Nat.le_refl _) (Nat.le_refl _) dX12_write_36 ⟨rfl, rfl, rfl, _, rfl, h⟩
    · replace h := h.2 c4
      refine r_ldc (v := (-1000000002)) rfl tw_927 rfl dX12_write_22 ?_
      exact r_iret rfl (Nat.le_refl _) (Nat.le_refl _) dX12_write_24 ⟨rfl, rfl, rfl, _, rfl, h⟩
  · replace h := h.2 c2
    refine r_ldc (v := (-1000000001)) rfl tw_1035 rfl dX12_write_8 ?_
    exact r_iret rfl (Nat.le_refl _) (Nat.le_refl _) dX12_write_10 ⟨rfl, rfl, rfl, _, rfl, h⟩
theorem s_X12_write {l : Launch} {D : zDD} {b : Nat} (p1 p2 : Int32) (σ : zSg) (τ : zLm) {Q : Int32 → zSg → zLm → Prop} (h : SI l D b M_X12_isTrouble 1 G0 [.ref (b + 125), .int p1] σ τ (fun r1 σ1 τ1 => (¬ r1 = 0 → (SI l D b M_X12_in 0 G0 [.int p2, .int 0, .int 200] σ1 τ1 (fun r3 σ3 τ3 => (¬ r3 = 0 → ((¬ (σ3 125 30) = 15 → (vp_in (σ3 125 30) 15 ∧ (vp_in ((st2 σ3 139 ((σ3 125 30).toNatClampNeg) p1) 125 30) 15 ∧ (∀ σ6 : zSg, σ6 = st2 (st2 σ3 139 ((σ3 125 30).toNatClampNeg) p1) 140 (((st2 σ3 139 ((σ3 125 30).toNatClampNeg) p1) 125 30).toNatClampNeg) p2 → Q ((st2 σ6 125 30 ((σ6 125 30) + 1)) 125 30) (st2 σ6 125 30 ((σ6 125 30) + 1)) τ3)))) ∧ ((σ3 125 30) = 15 → Q (-1000000004) σ3 τ3))) ∧ (r3 = 0 → Q (-1000000002) σ3 τ3)))) ∧ (r1 = 0 → Q (-1000000001) σ1 τ1))) : SI l D b M_X12_write 2 G0 [.ref (b + 125), .int p1, .int p2] σ τ Q := zS.of (by decide) (Nat.le_of_ble_eq_true rfl) rfl (w_X12_write_0 p1 p2 σ τ h)

theorem dX12_readsHead_0 : decode cX12_readsHead 0 = .ok (.aload_n 0, 1) := by decide +kernel
theorem dX12_readsHead_1 : decode cX12_readsHead 1 = .ok (.iconst 1, 1) := by decide +kernel
theorem dX12_readsHead_2 : decode cX12_readsHead 2 = .ok (.bipush 20, 2) := by decide +kernel
theorem dX12_readsHead_4 : decode cX12_readsHead 4 = .ok (.invokevirtual 100, 3) := by decide +kernel
theorem dX12_readsHead_7 : decode cX12_readsHead 7 = .ok (.istore_n 1, 1) := by decide +kernel
theorem dX12_readsHead_8 : decode cX12_readsHead 8 = .ok (.iload_n 1, 1) := by decide +kernel
theorem dX12_readsHead_9 : decode cX12_readsHead 9 = .ok (.iconst (-1), 1) := by decide +kernel
theorem dX12_readsHead_10 : decode cX12_readsHead 10 = .ok (.if_icmp .ne 7, 3) := by decide +kernel
theorem dX12_readsHead_13 : decode cX12_readsHead 13 = .ok (.iconst (-1), 1) := by decide +kernel
theorem dX12_readsHead_14 : decode cX12_readsHead 14 = .ok (.goto 9, 3) := by decide +kernel
theorem dX12_readsHead_17 : decode cX12_readsHead 17 = .ok (.aload_n 0, 1) := by decide +kernel
theorem dX12_readsHead_18 : decode cX12_readsHead 18 = .ok (.iconst 1, 1) := by decide +kernel
theorem dX12_readsHead_19 : decode cX12_readsHead 19 = .ok (.iconst 3, 1) := by decide +kernel
theorem dX12_readsHead_20 : decode cX12_readsHead 20 = .ok (.invokevirtual 100, 3) := by decide +kernel
theorem dX12_readsHead_23 : decode cX12_readsHead 23 = .ok (.istore_n 2, 1) := by decide +kernel
theorem dX12_readsHead_24 : decode cX12_readsHead 24 = .ok (.aload_n 0, 1) := by decide +kernel
theorem dX12_readsHead_25 : decode cX12_readsHead 25 = .ok (.iload_n 1, 1) := by decide +kernel
theorem dX12_readsHead_26 : decode cX12_readsHead 26 = .ok (.putfield 103, 3) := by decide +kernel
theorem dX12_readsHead_29 : decode cX12_readsHead 29 = .ok (.aload_n 0, 1) := by decide +kernel
theorem dX12_readsHead_30 : decode cX12_readsHead 30 = .ok (.iload_n 2, 1) := by decide +kernel
theorem dX12_readsHead_31 : decode cX12_readsHead 31 = .ok (.putfield 106, 3) := by decide +kernel
theorem dX12_readsHead_34 : decode cX12_readsHead 34 = .ok (.iload_n 2, 1) := by decide +kernel
theorem dX12_readsHead_35 : decode cX12_readsHead 35 = .ok (.iconst (-1), 1) := by decide +kernel
theorem dX12_readsHead_36 : decode cX12_readsHead 36 = .ok (.if_icmp .eq 16, 3) := by decide +kernel
theorem dX12_readsHead_39 : decode cX12_readsHead 39 = .ok (.aload_n 0, 1) := by decide +kernel
theorem dX12_readsHead_40 : decode cX12_readsHead 40 = .ok (.bipush 59, 2) := by decide +kernel
theorem dX12_readsHead_42 : decode cX12_readsHead 42 = .ok (.invokevirtual 109, 3) := by decide +kernel
theorem dX12_readsHead_45 : decode cX12_readsHead 45 = .ok (.ifCond .eq 7, 3) := by decide +kernel
theorem dX12_readsHead_48 : decode cX12_readsHead 48 = .ok (.iconst 1, 1) := by decide +kernel
theorem dX12_readsHead_49 : decode cX12_readsHead 49 = .ok (.goto 4, 3) := by decide +kernel
theorem dX12_readsHead_52 : decode cX12_readsHead 52 = .ok (.iconst 0, 1) := by decide +kernel
theorem dX12_readsHead_53 : decode cX12_readsHead 53 = .ok (.ireturn, 1) := by decide +kernel
theorem w_X12_readsHead_23 {l : Launch} {D : zDD} {b : Nat} (x1 y0 : Int32) (σ : zSg) (τ : zLm) {Q : Int32 → zSg → zLm → Prop} (h : (y0 = (-1) → Q 0 (st2 (st2 σ 125 6 x1) 125 7 y0) τ) ∧ (¬ y0 = (-1) → (SI l D b M_X12_readsSign 2 G0 [.ref (b + 125), .int 59] (st2 (st2 σ 125 6 x1) 125 7 y0) τ (fun r2 σ2 τ2 => (r2 = 0 → Q 0 σ2 τ2) ∧ (¬ r2 = 0 → Q 1 σ2 τ2))))) : AI l D b M_X12_readsHead 3 G0 Q 23 [(0, .ref (b + 125)), (1, .int x1)] [.int y0] G0 σ τ := by
  refine r_istore_n dX12_readsHead_23 rfl (by decide) rfl ?_
  refine r_aload_n 1 dX12_readsHead_24 rfl rfl ?_
  refine r_iload_n 2 dX12_readsHead_25 rfl rfl ?_
  refine r_putI (j := 6) (by decide) (congrArg Prod.fst k0_125) c12_11 (by decide) rfl (Or.inl rfl) tw_816 dX12_readsHead_26 ?_
  refine r_aload_n 1 dX12_readsHead_29 rfl rfl ?_
  refine r_iload_n 0 dX12_readsHead_30 rfl rfl ?_
  refine r_putI (j := 7) (by decide) (congrArg Prod.fst k0_125) c12_11 (by decide) rfl (Or.inl rfl) tw_817 dX12_readsHead_31 ?_
  refine r_iload_n 0 dX12_readsHead_34 rfl rfl ?_
  refine r_iconst dX12_readsHead_35 ci_m1 ?_
  refine r_icmp_eq (tgt := 52) dX12_readsHead_36 (by decide) (fun c1 => ?_) (fun c1 => ?_)
  · replace h := h.1 c1
    refine r_iconst dX12_readsHead_52 ci_0 ?_
    exact r_zret rfl (Nat.le_refl _) (Nat.le_refl _) dX12_readsHead_53 (Or.inl rfl) ⟨rfl, rfl, rfl, _, rfl, h⟩
  · replace h := h.2 c1
    refine r_aload_n 1 dX12_readsHead_39 rfl rfl ?_
    refine r_bipush dX12_readsHead_40 cb_59 ?_
    refine rc_VI (h' := 2) [.int 59] okv_X12_readsSign (by decide) (congrArg Prod.fst k0_125) tw_961 rfl rfl (Nat.le_of_ble_eq_true rfl) dX12_readsHead_42 (by decide) h (fun r2 σ2 τ2 h => ?_)
    refine r_if_eq (tgt := 52) dX12_readsHead_45 (by decide) (fun c3 => ?_) (fun c3 => ?_)
    · replace h := h.1 c3
      refine r_iconst dX12_readsHead_52 ci_0 ?_
      exact r_zret rfl (Nat.le_refl _) (Nat.le_refl _) dX12_readsHead_53 (Or.inl rfl) ⟨rfl, rfl, rfl, _, rfl, h⟩
    · replace h := h.2 c3
      refine r_iconst dX12_readsHead_48 ci_1 ?_
      refine r_goto (tgt := 53) dX12_readsHead_49 (by decide) ?_
      exact r_zret rfl (Nat.le_refl _) (Nat.le_refl _) dX12_readsHead_53 (Or.inr rfl) ⟨rfl, rfl, rfl, _, rfl, h⟩

theorem w_X12_readsHead_0 {l : Launch} {D : zDD} {b : Nat} (σ : zSg) (τ : zLm) {Q : Int32 → zSg → zLm → Prop} (h : SI l D b M_X12_readsNumber 2 G0 [.ref (b + 125), .int 1, .int 20] σ τ (fun r1 σ1 τ1 => (¬ r1 = (-1) → SI l D b M_X12_readsNumber 2 G0 [.ref (b + 125), .int 1, .int 3] σ1 τ1 (fun r3 σ3 τ3 => AI l D b M_X12_readsHead 3 G0 Q 23 [(0, .ref (b + 125)), (1, .int r1)] [.int r3] G0 σ3 τ3)) ∧ (r1 = (-1) → AI l D b M_X12_readsHead 3 G0 Q 23 [(0, .ref (b + 125)), (1, .int r1)] [.int (-1)] G0 σ1 τ1))) : AI l D b M_X12_readsHead 3 G0 Q 0 [(0, .ref (b + 125))] [] G0 σ τ := by
  refine r_aload_n 0 dX12_readsHead_0 rfl rfl ?_
  refine r_iconst dX12_readsHead_1 ci_1 ?_
  refine r_bipush dX12_readsHead_2 cb_20 ?_
  refine rc_VI (h' := 2) [.int 1, .int 20] okv_X12_readsNumber (by decide) (congrArg Prod.fst k0_125) tw_953 rfl rfl (Nat.le_of_ble_eq_true rfl) dX12_readsHead_4 (by decide) h (fun r1 σ1 τ1 h => ?_)
  refine r_istore_n dX12_readsHead_7 rfl (by decide) rfl ?_
  refine r_iload_n 0 dX12_readsHead_8 rfl rfl ?_
  refine r_iconst dX12_readsHead_9 ci_m1 ?_
  refine r_icmp_ne (tgt := 17) dX12_readsHead_10 (by decide) (fun c2 => ?_) (fun c2 => ?_)
  · replace h := h.1 c2
    refine r_aload_n 1 dX12_readsHead_17 rfl rfl ?_
    refine r_iconst dX12_readsHead_18 ci_1 ?_
    refine r_iconst dX12_readsHead_19 ci_3 ?_
    refine rc_VI (h' := 2) [.int 1, .int 3] okv_X12_readsNumber (by decide) (congrArg Prod.fst k0_125) tw_953 rfl rfl (Nat.le_of_ble_eq_true rfl) dX12_readsHead_20 (by decide) h (fun r3 σ3 τ3 h => ?_)
    refine r_lv [1, 0] rfl ?_
    exact h
  · replace h := h.2 c2
    refine r_iconst dX12_readsHead_13 ci_m1 ?_
    refine r_goto (tgt := 23) dX12_readsHead_14 (by decide) ?_
    refine r_lv [1, 0] rfl ?_
    exact h
theorem s_X12_readsHead {l : Launch} {D : zDD} {b : Nat} (σ : zSg) (τ : zLm) {Q : Int32 → zSg → zLm → Prop} (h : SI l D b M_X12_readsNumber 2 G0 [.ref (b + 125), .int 1, .int 20] σ τ (fun r1 σ1 τ1 => (¬ r1 = (-1) → SI l D b M_X12_readsNumber 2 G0 [.ref (b + 125), .int 1, .int 3] σ1 τ1 (fun r3 σ3 τ3 => AI l D b M_X12_readsHead 3 G0 Q 23 [(0, .ref (b + 125)), (1, .int r1)] [.int r3] G0 σ3 τ3)) ∧ (r1 = (-1) → AI l D b M_X12_readsHead 3 G0 Q 23 [(0, .ref (b + 125)), (1, .int r1)] [.int (-1)] G0 σ1 τ1))) : SI l D b M_X12_readsHead 3 G0 [.ref (b + 125)] σ τ Q := zS.of (by decide) (Nat.le_of_ble_eq_true rfl) rfl (w_X12_readsHead_0 σ τ h)

theorem dX12_readsTrouble_0 : decode cX12_readsTrouble 0 = .ok (.aload_n 0, 1) := by decide +kernel
theorem dX12_readsTrouble_1 : decode cX12_readsTrouble 1 = .ok (.getfield 113, 3) := by decide +kernel
theorem dX12_readsTrouble_4 : decode cX12_readsTrouble 4 = .ok (.istore_n 1, 1) := by decide +kernel
theorem dX12_readsTrouble_5 : decode cX12_readsTrouble 5 = .ok (.aload_n 0, 1) := by decide +kernel
theorem dX12_readsTrouble_6 : decode cX12_readsTrouble 6 = .ok (.getfield 17, 3) := by decide +kernel
theorem dX12_readsTrouble_9 : decode cX12_readsTrouble 9 = .ok (.iload_n 1, 1) := by decide +kernel
theorem dX12_readsTrouble_10 : decode cX12_readsTrouble 10 = .ok (.aload_n 0, 1) := by decide +kernel
theorem dX12_readsTrouble_11 : decode cX12_readsTrouble 11 = .ok (.iconst 0, 1) := by decide +kernel
theorem dX12_readsTrouble_12 : decode cX12_readsTrouble 12 = .ok (.iconst 3, 1) := by decide +kernel
theorem dX12_readsTrouble_13 : decode cX12_readsTrouble 13 = .ok (.invokevirtual 100, 3) := by decide +kernel
theorem dX12_readsTrouble_16 : decode cX12_readsTrouble 16 = .ok (.iastore, 1) := by decide +kernel
theorem dX12_readsTrouble_17 : decode cX12_readsTrouble 17 = .ok (.aload_n 0, 1) := by decide +kernel
theorem dX12_readsTrouble_18 : decode cX12_readsTrouble 18 = .ok (.getfield 20, 3) := by decide +kernel
theorem dX12_readsTrouble_21 : decode cX12_readsTrouble 21 = .ok (.iload_n 1, 1) := by decide +kernel
theorem dX12_readsTrouble_22 : decode cX12_readsTrouble 22 = .ok (.aload_n 0, 1) := by decide +kernel
theorem dX12_readsTrouble_23 : decode cX12_readsTrouble 23 = .ok (.getfield 17, 3) := by decide +kernel
theorem dX12_readsTrouble_26 : decode cX12_readsTrouble 26 = .ok (.iload_n 1, 1) := by decide +kernel
theorem dX12_readsTrouble_27 : decode cX12_readsTrouble 27 = .ok (.iaload, 1) := by decide +kernel
theorem dX12_readsTrouble_28 : decode cX12_readsTrouble 28 = .ok (.iconst (-1), 1) := by decide +kernel
theorem dX12_readsTrouble_29 : decode cX12_readsTrouble 29 = .ok (.if_icmp .ne 7, 3) := by decide +kernel
theorem dX12_readsTrouble_32 : decode cX12_readsTrouble 32 = .ok (.iconst (-1), 1) := by decide +kernel
theorem dX12_readsTrouble_33 : decode cX12_readsTrouble 33 = .ok (.goto 11, 3) := by decide +kernel
theorem dX12_readsTrouble_36 : decode cX12_readsTrouble 36 = .ok (.aload_n 0, 1) := by decide +kernel
theorem dX12_readsTrouble_37 : decode cX12_readsTrouble 37 = .ok (.iconst 1, 1) := by decide +kernel
theorem dX12_readsTrouble_38 : decode cX12_readsTrouble 38 = .ok (.sipush 200, 3) := by decide +kernel
theorem dX12_readsTrouble_41 : decode cX12_readsTrouble 41 = .ok (.invokevirtual 100, 3) := by decide +kernel
theorem dX12_readsTrouble_44 : decode cX12_readsTrouble 44 = .ok (.iastore, 1) := by decide +kernel
theorem dX12_readsTrouble_45 : decode cX12_readsTrouble 45 = .ok (.aload_n 0, 1) := by decide +kernel
theorem dX12_readsTrouble_46 : decode cX12_readsTrouble 46 = .ok (.getfield 23, 3) := by decide +kernel
theorem dX12_readsTrouble_49 : decode cX12_readsTrouble 49 = .ok (.iload_n 1, 1) := by decide +kernel
theorem dX12_readsTrouble_50 : decode cX12_readsTrouble 50 = .ok (.iconst 0, 1) := by decide +kernel
theorem dX12_readsTrouble_51 : decode cX12_readsTrouble 51 = .ok (.iastore, 1) := by decide +kernel
theorem dX12_readsTrouble_52 : decode cX12_readsTrouble 52 = .ok (.aload_n 0, 1) := by decide +kernel
theorem dX12_readsTrouble_53 : decode cX12_readsTrouble 53 = .ok (.getfield 20, 3) := by decide +kernel
theorem dX12_readsTrouble_56 : decode cX12_readsTrouble 56 = .ok (.iload_n 1, 1) := by decide +kernel
theorem dX12_readsTrouble_57 : decode cX12_readsTrouble 57 = .ok (.iaload, 1) := by decide +kernel
theorem dX12_readsTrouble_58 : decode cX12_readsTrouble 58 = .ok (.iconst (-1), 1) := by decide +kernel
theorem dX12_readsTrouble_59 : decode cX12_readsTrouble 59 = .ok (.if_icmp .eq 7, 3) := by decide +kernel
theorem dX12_readsTrouble_62 : decode cX12_readsTrouble 62 = .ok (.iconst 1, 1) := by decide +kernel
theorem dX12_readsTrouble_63 : decode cX12_readsTrouble 63 = .ok (.goto 4, 3) := by decide +kernel
theorem dX12_readsTrouble_66 : decode cX12_readsTrouble 66 = .ok (.iconst 0, 1) := by decide +kernel
theorem dX12_readsTrouble_67 : decode cX12_readsTrouble 67 = .ok (.istore_n 2, 1) := by decide +kernel
theorem dX12_readsTrouble_68 : decode cX12_readsTrouble 68 = .ok (.iconst 0, 1) := by decide +kernel
theorem dX12_readsTrouble_69 : decode cX12_readsTrouble 69 = .ok (.istore_n 3, 1) := by decide +kernel
theorem dX12_readsTrouble_70 : decode cX12_readsTrouble 70 = .ok (.iload_n 3, 1) := by decide +kernel
theorem dX12_readsTrouble_71 : decode cX12_readsTrouble 71 = .ok (.iconst 5, 1) := by decide +kernel
theorem dX12_readsTrouble_72 : decode cX12_readsTrouble 72 = .ok (.if_icmp .ge 70, 3) := by decide +kernel
theorem dX12_readsTrouble_75 : decode cX12_readsTrouble 75 = .ok (.iload_n 2, 1) := by decide +kernel
theorem dX12_readsTrouble_76 : decode cX12_readsTrouble 76 = .ok (.ifCond .eq 66, 3) := by decide +kernel
theorem dX12_readsTrouble_79 : decode cX12_readsTrouble 79 = .ok (.aload_n 0, 1) := by decide +kernel
theorem dX12_readsTrouble_80 : decode cX12_readsTrouble 80 = .ok (.bipush 44, 2) := by decide +kernel
theorem dX12_readsTrouble_82 : decode cX12_readsTrouble 82 = .ok (.invokevirtual 109, 3) := by decide +kernel
theorem dX12_readsTrouble_85 : decode cX12_readsTrouble 85 = .ok (.ifCond .eq 13, 3) := by decide +kernel
theorem dX12_readsTrouble_88 : decode cX12_readsTrouble 88 = .ok (.aload_n 0, 1) := by decide +kernel
theorem dX12_readsTrouble_89 : decode cX12_readsTrouble 89 = .ok (.iconst 0, 1) := by decide +kernel
theorem dX12_readsTrouble_90 : decode cX12_readsTrouble 90 = .ok (.bipush 31, 2) := by decide +kernel
theorem dX12_readsTrouble_92 : decode cX12_readsTrouble 92 = .ok (.invokevirtual 100, 3) := by decide +kernel
theorem dX12_readsTrouble_95 : decode cX12_readsTrouble 95 = .ok (.goto 4, 3) := by decide +kernel
theorem dX12_readsTrouble_98 : decode cX12_readsTrouble 98 = .ok (.iconst (-1), 1) := by decide +kernel
theorem dX12_readsTrouble_99 : decode cX12_readsTrouble 99 = .ok (.istore 4, 2) := by decide +kernel
theorem dX12_readsTrouble_101 : decode cX12_readsTrouble 101 = .ok (.iload 4, 2) := by decide +kernel
theorem dX12_readsTrouble_103 : decode cX12_readsTrouble 103 = .ok (.iconst (-1), 1) := by decide +kernel
theorem dX12_readsTrouble_104 : decode cX12_readsTrouble 104 = .ok (.if_icmp .eq 7, 3) := by decide +kernel
theorem dX12_readsTrouble_107 : decode cX12_readsTrouble 107 = .ok (.iconst 1, 1) := by decide +kernel
theorem dX12_readsTrouble_108 : decode cX12_readsTrouble 108 = .ok (.goto 4, 3) := by decide +kernel
theorem dX12_readsTrouble_111 : decode cX12_readsTrouble 111 = .ok (.iconst 0, 1) := by decide +kernel
theorem dX12_readsTrouble_112 : decode cX12_readsTrouble 112 = .ok (.istore_n 2, 1) := by decide +kernel
theorem dX12_readsTrouble_113 : decode cX12_readsTrouble 113 = .ok (.aload_n 0, 1) := by decide +kernel
theorem dX12_readsTrouble_114 : decode cX12_readsTrouble 114 = .ok (.getfield 23, 3) := by decide +kernel
theorem dX12_readsTrouble_117 : decode cX12_readsTrouble 117 = .ok (.iload_n 1, 1) := by decide +kernel
theorem dX12_readsTrouble_118 : decode cX12_readsTrouble 118 = .ok (.dup2, 1) := by decide +kernel
theorem dX12_readsTrouble_119 : decode cX12_readsTrouble 119 = .ok (.iaload, 1) := by decide +kernel
theorem dX12_readsTrouble_120 : decode cX12_readsTrouble 120 = .ok (.iload_n 2, 1) := by decide +kernel
theorem dX12_readsTrouble_121 : decode cX12_readsTrouble 121 = .ok (.ifCond .eq 12, 3) := by decide +kernel
theorem dX12_readsTrouble_124 : decode cX12_readsTrouble 124 = .ok (.iload 4, 2) := by decide +kernel
theorem dX12_readsTrouble_126 : decode cX12_readsTrouble 126 = .ok (.iconst 5, 1) := by decide +kernel
theorem dX12_readsTrouble_127 : decode cX12_readsTrouble 127 = .ok (.iload_n 3, 1) := by decide +kernel
theorem dX12_readsTrouble_128 : decode cX12_readsTrouble 128 = .ok (.imul, 1) := by decide +kernel
theorem dX12_readsTrouble_129 : decode cX12_readsTrouble 129 = .ok (.ishl, 1) := by decide +kernel
theorem dX12_readsTrouble_130 : decode cX12_readsTrouble 130 = .ok (.goto 4, 3) := by decide +kernel
theorem dX12_readsTrouble_133 : decode cX12_readsTrouble 133 = .ok (.iconst 0, 1) := by decide +kernel
theorem dX12_readsTrouble_134 : decode cX12_readsTrouble 134 = .ok (.ior, 1) := by decide +kernel
theorem dX12_readsTrouble_135 : decode cX12_readsTrouble 135 = .ok (.iastore, 1) := by decide +kernel
theorem dX12_readsTrouble_136 : decode cX12_readsTrouble 136 = .ok (.iinc 3 1, 3) := by decide +kernel
theorem dX12_readsTrouble_139 : decode cX12_readsTrouble 139 = .ok (.goto (-69), 3) := by decide +kernel
theorem dX12_readsTrouble_142 : decode cX12_readsTrouble 142 = .ok (.aload_n 0, 1) := by decide +kernel
theorem dX12_readsTrouble_143 : decode cX12_readsTrouble 143 = .ok (.dup, 1) := by decide +kernel
theorem dX12_readsTrouble_144 : decode cX12_readsTrouble 144 = .ok (.getfield 113, 3) := by decide +kernel
theorem dX12_readsTrouble_147 : decode cX12_readsTrouble 147 = .ok (.iconst 1, 1) := by decide +kernel
theorem dX12_readsTrouble_148 : decode cX12_readsTrouble 148 = .ok (.iadd, 1) := by decide +kernel
theorem dX12_readsTrouble_149 : decode cX12_readsTrouble 149 = .ok (.putfield 113, 3) := by decide +kernel
theorem dX12_readsTrouble_152 : decode cX12_readsTrouble 152 = .ok (.iload_n 2, 1) := by decide +kernel
theorem dX12_readsTrouble_153 : decode cX12_readsTrouble 153 = .ok (.ifCond .eq 16, 3) := by decide +kernel
theorem dX12_readsTrouble_156 : decode cX12_readsTrouble 156 = .ok (.aload_n 0, 1) := by decide +kernel
theorem dX12_readsTrouble_157 : decode cX12_readsTrouble 157 = .ok (.bipush 59, 2) := by decide +kernel
theorem dX12_readsTrouble_159 : decode cX12_readsTrouble 159 = .ok (.invokevirtual 109, 3) := by decide +kernel
theorem dX12_readsTrouble_162 : decode cX12_readsTrouble 162 = .ok (.ifCond .eq 7, 3) := by decide +kernel
theorem dX12_readsTrouble_165 : decode cX12_readsTrouble 165 = .ok (.iconst 1, 1) := by decide +kernel
theorem dX12_readsTrouble_166 : decode cX12_readsTrouble 166 = .ok (.goto 4, 3) := by decide +kernel
theorem dX12_readsTrouble_169 : decode cX12_readsTrouble 169 = .ok (.iconst 0, 1) := by decide +kernel
theorem dX12_readsTrouble_170 : decode cX12_readsTrouble 170 = .ok (.ireturn, 1) := by decide +kernel
theorem w_X12_readsTrouble_142 {l : Launch} {D : zDD} {b : Nat} (x2 : Int32) (σ : zSg) (τ : zLm) {Q : Int32 → zSg → zLm → Prop} (h : (x2 = 0 → Q 0 (st2 σ 125 8 ((σ 125 8) + 1)) τ) ∧ (¬ x2 = 0 → (SI l D b M_X12_readsSign 2 G0 [.ref (b + 125), .int 59] (st2 σ 125 8 ((σ 125 8) + 1)) τ (fun r2 σ2 τ2 => (r2 = 0 → Q 0 σ2 τ2) ∧ (¬ r2 = 0 → Q 1 σ2 τ2))))) : AI l D b M_X12_readsTrouble 3 G0 Q 142 [(0, .ref (b + 125)), (2, .int x2)] [] G0 σ τ := by
  refine r_aload_n 0 dX12_readsTrouble_142 rfl rfl ?_
  refine r_dup dX12_readsTrouble_143 rfl ?_
  refine r_getI (j := 8) (by decide) (congrArg Prod.fst k0_125) c12_11 (by decide) rfl tw_818 dX12_readsTrouble_144 ?_
  refine r_iconst dX12_readsTrouble_147 ci_1 ?_
  refine r_iadd dX12_readsTrouble_148 ?_
  refine r_putI (j := 8) (by decide) (congrArg Prod.fst k0_125) c12_11 (by decide) rfl (Or.inl rfl) tw_818 dX12_readsTrouble_149 ?_
  refine r_iload_n 1 dX12_readsTrouble_152 rfl rfl ?_
  refine r_if_eq (tgt := 169) dX12_readsTrouble_153 (by decide) (fun c1 => ?_) (fun c1 => ?_)
  · replace h := h.1 c1
    refine r_iconst dX12_readsTrouble_169 ci_0 ?_
    exact r_zret rfl (Nat.le_refl _) (Nat.le_refl _) dX12_readsTrouble_170 (Or.inl rfl) ⟨rfl, rfl, rfl, _, rfl, h⟩
  · replace h := h.2 c1
    refine r_aload_n 0 dX12_readsTrouble_156 rfl rfl ?_
    refine r_bipush dX12_readsTrouble_157 cb_59 ?_
    refine rc_VI (h' := 2) [.int 59] okv_X12_readsSign (by decide) (congrArg Prod.fst k0_125) tw_961 rfl rfl (Nat.le_of_ble_eq_true rfl) dX12_readsTrouble_159 (by decide) h (fun r2 σ2 τ2 h => ?_)
    refine r_if_eq (tgt := 169) dX12_readsTrouble_162 (by decide) (fun c3 => ?_) (fun c3 => ?_)
    · replace h := h.1 c3
      refine r_iconst dX12_readsTrouble_169 ci_0 ?_
      exact r_zret rfl (Nat.le_refl _) (Nat.le_refl _) dX12_readsTrouble_170 (Or.inl rfl) ⟨rfl, rfl, rfl, _, rfl, h⟩
    · replace h := h.2 c3
      refine r_iconst dX12_readsTrouble_165 ci_1 ?_
      refine r_goto (tgt := 170) dX12_readsTrouble_166 (by decide) ?_
      exact r_zret rfl (Nat.le_refl _) (Nat.le_refl _) dX12_readsTrouble_170 (Or.inr rfl) ⟨rfl, rfl, rfl, _, rfl, h⟩

theorem w_X12_readsTrouble_112 {l : Launch} {D : zDD} {b : Nat} (x1 x3 x4 y0 : Int32) (σ : zSg) (τ : zLm) {Q : Int32 → zSg → zLm → Prop} (h : vp_in x1 6 ∧ ((y0 = 0 → (vp_in x1 6 ∧ AI l D b M_X12_readsTrouble 3 G0 Q 70 [(0, .ref (b + 125)), (1, .int x1), (2, .int y0), (3, .int (x3 + 1))] [] G0 (st2 σ 129 x1.toNatClampNeg ((σ 129 x1.toNatClampNeg) ||| 0)) τ)) ∧ (¬ y0 = 0 → (vp_in x1 6 ∧ AI l D b M_X12_readsTrouble 3 G0 Q 70 [(0, .ref (b + 125)), (1, .int x1), (2, .int y0), (3, .int (x3 + 1))] [] G0 (st2 σ 129 x1.toNatClampNeg ((σ 129 x1.toNatClampNeg) ||| (x4 <<< ((5 * x3) &&& 31)))) τ)))) : AI l D b M_X12_readsTrouble 3 G0 Q 112 [(0, .ref (b + 125)), (1, .int x1), (3, .int x3), (4, .int x4)] [.int y0] G0 σ τ := by
  refine r_istore_n dX12_readsTrouble_112 rfl (by decide) rfl ?_
  refine r_aload_n 1 dX12_readsTrouble_113 rfl rfl ?_
  refine r_getR (j := 12) (by decide) (congrArg Prod.fst k0_125) c12_11 (by decide) rfl g0_125_12 tw_822 dX12_readsTrouble_114 ?_
  refine r_iload_n 2 dX12_readsTrouble_117 rfl rfl ?_
  refine r_dup2 dX12_readsTrouble_118 rfl rfl ?_
  refine r_iald (by decide) k0_129 dX12_readsTrouble_119 h.1 ?_
  replace h := h.2
  refine r_iload_n 0 dX12_readsTrouble_120 rfl rfl ?_
  refine r_if_eq (tgt := 133) dX12_readsTrouble_121 (by decide) (fun c1 => ?_) (fun c1 => ?_)
  · replace h := h.1 c1
    refine r_iconst dX12_readsTrouble_133 ci_0 ?_
    refine r_ior dX12_readsTrouble_134 ?_
    refine r_iast (by decide) k0_129 dX12_readsTrouble_135 h.1 ?_
    replace h := h.2
    refine r_inc 3 dX12_readsTrouble_136 rfl ci_1 (by decide) rfl ?_
    refine r_goto (tgt := 70) dX12_readsTrouble_139 (by decide) ?_
    refine r_lv [2, 3, 1, 0] rfl ?_
    exact h
  · replace h := h.2 c1
    refine r_iload 4 dX12_readsTrouble_124 rfl ?_
    refine r_iconst dX12_readsTrouble_126 ci_5 ?_
    refine r_iload_n 3 dX12_readsTrouble_127 rfl rfl ?_
    refine r_imul dX12_readsTrouble_128 ?_
    refine r_ishl dX12_readsTrouble_129 ?_
    refine r_goto (tgt := 134) dX12_readsTrouble_130 (by decide) ?_
    refine r_ior dX12_readsTrouble_134 ?_
    refine r_iast (by decide) k0_129 dX12_readsTrouble_135 h.1 ?_
    replace h := h.2
    refine r_inc 3 dX12_readsTrouble_136 rfl ci_1 (by decide) rfl ?_
    refine r_goto (tgt := 70) dX12_readsTrouble_139 (by decide) ?_
    refine r_lv [2, 3, 1, 0] rfl ?_
    exact h

theorem w_X12_readsTrouble_99 {l : Launch} {D : zDD} {b : Nat} (x1 x3 y0 : Int32) (σ : zSg) (τ : zLm) {Q : Int32 → zSg → zLm → Prop} (h : (y0 = (-1) → AI l D b M_X12_readsTrouble 3 G0 Q 112 [(0, .ref (b + 125)), (1, .int x1), (3, .int x3), (4, .int y0)] [.int 0] G0 σ τ) ∧ (¬ y0 = (-1) → AI l D b M_X12_readsTrouble 3 G0 Q 112 [(0, .ref (b + 125)), (1, .int x1), (3, .int x3), (4, .int y0)] [.int 1] G0 σ τ)) : AI l D b M_X12_readsTrouble 3 G0 Q 99 [(0, .ref (b + 125)), (1, .int x1), (3, .int x3)] [.int y0] G0 σ τ := by
  refine r_istore dX12_readsTrouble_99 (by decide) rfl ?_
  refine r_iload 0 dX12_readsTrouble_101 rfl ?_
  refine r_iconst dX12_readsTrouble_103 ci_m1 ?_
  refine r_icmp_eq (tgt := 111) dX12_readsTrouble_104 (by decide) (fun c1 => ?_) (fun c1 => ?_)
  · replace h := h.1 c1
    refine r_iconst dX12_readsTrouble_111 ci_0 ?_
    refine r_lv [1, 2, 3, 0] rfl ?_
    exact h
  · replace h := h.2 c1
    refine r_iconst dX12_readsTrouble_107 ci_1 ?_
    refine r_goto (tgt := 112) dX12_readsTrouble_108 (by decide) ?_
    refine r_lv [1, 2, 3, 0] rfl ?_
    exact h

theorem w_X12_readsTrouble_70 {l : Launch} {D : zDD} {b : Nat} (x1 x2 x3 : Int32) (σ : zSg) (τ : zLm) {Q : Int32 → zSg → zLm → Prop} (h : (5 ≤ x3 → AI l D b M_X12_readsTrouble 3 G0 Q 142 [(0, .ref (b + 125)), (2, .int x2)] [] G0 σ τ) ∧ (¬ 5 ≤ x3 → ((x2 = 0 → AI l D b M_X12_readsTrouble 3 G0 Q 142 [(0, .ref (b + 125)), (2, .int x2)] [] G0 σ τ) ∧ (¬ x2 = 0 → (SI l D b M_X12_readsSign 2 G0 [.ref (b + 125), .int 44] σ τ (fun r3 σ3 τ3 => (r3 = 0 → AI l D b M_X12_readsTrouble 3 G0 Q 99 [(0, .ref (b + 125)), (1, .int x1), (3, .int x3)] [.int (-1)] G0 σ3 τ3) ∧ (¬ r3 = 0 → SI l D b M_X12_readsNumber 2 G0 [.ref (b + 125), .int 0, .int 31] σ3 τ3 (fun r5 σ5 τ5 => AI l D b M_X12_readsTrouble 3 G0 Q 99 [(0, .ref (b + 125)), (1, .int x1), (3, .int x3)] [.int r5] G0 σ5 τ5)))))))) : AI l D b M_X12_readsTrouble 3 G0 Q 70 [(0, .ref (b + 125)), (1, .int x1), (2, .int x2), (3, .int x3)] [] G0 σ τ := by
  refine r_iload_n 3 dX12_readsTrouble_70 rfl rfl ?_
  refine r_iconst dX12_readsTrouble_71 ci_5 ?_
  refine r_icmp_ge (tgt := 142) dX12_readsTrouble_72 (by decide) (fun c1 => ?_) (fun c1 => ?_)
  · replace h := h.1 c1
    refine r_lv [0, 2] rfl ?_
    exact h
  · replace h := h.2 c1
    refine r_iload_n 2 dX12_readsTrouble_75 rfl rfl ?_
    refine r_if_eq (tgt := 142) dX12_readsTrouble_76 (by decide) (fun c2 => ?_) (fun c2 => ?_)
    · replace h := h.1 c2
      refine r_lv [0, 2] rfl ?_
      exact h
    · replace h := h.2 c2
      refine r_aload_n 0 dX12_readsTrouble_79 rfl rfl ?_
      refine r_bipush dX12_readsTrouble_80 cb_44 ?_
      refine rc_VI (h' := 2) [.int 44] okv_X12_readsSign (by decide) (congrArg Prod.fst k0_125) tw_961 rfl rfl (Nat.le_of_ble_eq_true rfl) dX12_readsTrouble_82 (by decide) h (fun r3 σ3 τ3 h => ?_)
      refine r_if_eq (tgt := 98) dX12_readsTrouble_85 (by decide) (fun c4 => ?_) (fun c4 => ?_)
      · replace h := h.1 c4
        refine r_iconst dX12_readsTrouble_98 ci_m1 ?_
        refine r_lv [0, 1, 3] rfl ?_
        exact h
      · replace h := h.2 c4
        refine r_aload_n 0 dX12_readsTrouble_88 rfl rfl ?_
        refine r_iconst dX12_readsTrouble_89 ci_0 ?_
        refine r_bipush dX12_readsTrouble_90 cb_31 ?_
        refine rc_VI (h' := 2) [.int 0, .int 31] okv_X12_readsNumber (by decide) (congrArg Prod.fst k0_125) tw_953 rfl rfl (Nat.le_of_ble_eq_true rfl) dX12_readsTrouble_92 (by decide) h (fun r5 σ5 τ5 h => ?_)
        refine r_goto (tgt := 99) dX12_readsTrouble_95 (by decide) ?_
        refine r_lv [0, 1, 3] rfl ?_
        exact h

theorem w_X12_readsTrouble_44 {l : Launch} {D : zDD} {b : Nat} (x1 y1 y2 : Int32) (σ : zSg) (τ : zLm) {Q : Int32 → zSg → zLm → Prop} (h : vp_in y1 6 ∧ (vp_in x1 6 ∧ (vp_in x1 6 ∧ ((((st2 (st2 σ 128 y1.toNatClampNeg y2) 129 x1.toNatClampNeg 0) 128 x1.toNatClampNeg) = (-1) → AI l D b M_X12_readsTrouble 3 G0 Q 70 [(0, .ref (b + 125)), (1, .int x1), (2, .int 0), (3, .int 0)] [] G0 (st2 (st2 σ 128 y1.toNatClampNeg y2) 129 x1.toNatClampNeg 0) τ) ∧ (¬ ((st2 (st2 σ 128 y1.toNatClampNeg y2) 129 x1.toNatClampNeg 0) 128 x1.toNatClampNeg) = (-1) → AI l D b M_X12_readsTrouble 3 G0 Q 70 [(0, .ref (b + 125)), (1, .int x1), (2, .int 1), (3, .int 0)] [] G0 (st2 (st2 σ 128 y1.toNatClampNeg y2) 129 x1.toNatClampNeg 0) τ))))) : AI l D b M_X12_readsTrouble 3 G0 Q 44 [(0, .ref (b + 125)), (1, .int x1)] [.int y2, .int y1, .ref (b + 128)] G0 σ τ := by
  refine r_iast (by decide) k0_128 dX12_readsTrouble_44 h.1 ?_
  replace h := h.2
  refine r_aload_n 0 dX12_readsTrouble_45 rfl rfl ?_
  refine r_getR (j := 12) (by decide) (congrArg Prod.fst k0_125) c12_11 (by decide) rfl g0_125_12 tw_822 dX12_readsTrouble_46 ?_
  refine r_iload_n 1 dX12_readsTrouble_49 rfl rfl ?_
  refine r_iconst dX12_readsTrouble_50 ci_0 ?_
  refine r_iast (by decide) k0_129 dX12_readsTrouble_51 h.1 ?_
  replace h := h.2
  refine r_aload_n 0 dX12_readsTrouble_52 rfl rfl ?_
  refine r_getR (j := 11) (by decide) (congrArg Prod.fst k0_125) c12_11 (by decide) rfl g0_125_11 tw_821 dX12_readsTrouble_53 ?_
  refine r_iload_n 1 dX12_readsTrouble_56 rfl rfl ?_
  refine r_iald (by decide) k0_128 dX12_readsTrouble_57 h.1 ?_
  replace h := h.2
  refine r_iconst dX12_readsTrouble_58 ci_m1 ?_
  refine r_icmp_eq (tgt := 66) dX12_readsTrouble_59 (by decide) (fun c1 => ?_) (fun c1 => ?_)
  · replace h := h.1 c1
    refine r_iconst dX12_readsTrouble_66 ci_0 ?_
    refine r_istore_n dX12_readsTrouble_67 rfl (by decide) rfl ?_
    refine r_iconst dX12_readsTrouble_68 ci_0 ?_
    refine r_istore_n dX12_readsTrouble_69 rfl (by decide) rfl ?_
    refine r_lv [2, 3, 1, 0] rfl ?_
    exact h
  · replace h := h.2 c1
    refine r_iconst dX12_readsTrouble_62 ci_1 ?_
    refine r_goto (tgt := 67) dX12_readsTrouble_63 (by decide) ?_
    refine r_istore_n dX12_readsTrouble_67 rfl (by decide) rfl ?_
    refine r_iconst dX12_readsTrouble_68 ci_0 ?_
    refine r_istore_n dX12_readsTrouble_69 rfl (by decide) rfl ?_
    refine r_lv [2, 3, 1, 0] rfl ?_
    exact h

theorem w_X12_readsTrouble_0 {l : Launch} {D : zDD} {b : Nat} (σ : zSg) (τ : zLm) {Q : Int32 → zSg → zLm → Prop} (h : SI l D b M_X12_readsNumber 2 G0 [.ref (b + 125), .int 0, .int 3] σ τ (fun r1 σ1 τ1 => vp_in (σ 125 8) 6 ∧ (vp_in (σ 125 8) 6 ∧ ((¬ ((st2 σ1 127 ((σ 125 8).toNatClampNeg) r1) 127 ((σ 125 8).toNatClampNeg)) = (-1) → SI l D b M_X12_readsNumber 2 G0 [.ref (b + 125), .int 1, .int 200] (st2 σ1 127 ((σ 125 8).toNatClampNeg) r1) τ1 (fun r3 σ3 τ3 => AI l D b M_X12_readsTrouble 3 G0 Q 44 [(0, .ref (b + 125)), (1, .int (σ 125 8))] [.int r3, .int (σ 125 8), .ref (b + 128)] G0 σ3 τ3)) ∧ (((st2 σ1 127 ((σ 125 8).toNatClampNeg) r1) 127 ((σ 125 8).toNatClampNeg)) = (-1) → AI l D b M_X12_readsTrouble 3 G0 Q 44 [(0, .ref (b + 125)), (1, .int (σ 125 8))] [.int (-1), .int (σ 125 8), .ref (b + 128)] G0 (st2 σ1 127 ((σ 125 8).toNatClampNeg) r1) τ1))))) : AI l D b M_X12_readsTrouble 3 G0 Q 0 [(0, .ref (b + 125))] [] G0 σ τ := by
  refine r_aload_n 0 dX12_readsTrouble_0 rfl rfl ?_
  refine r_getI (j := 8) (by decide) (congrArg Prod.fst k0_125) c12_11 (by decide) rfl tw_818 dX12_readsTrouble_1 ?_
  refine r_istore_n dX12_readsTrouble_4 rfl (by decide) rfl ?_
  refine r_aload_n 1 dX12_readsTrouble_5 rfl rfl ?_
  refine r_getR (j := 10) (by decide) (congrArg Prod.fst k0_125) c12_11 (by decide) rfl g0_125_10 tw_820 dX12_readsTrouble_6 ?_
  refine r_iload_n 0 dX12_readsTrouble_9 rfl rfl ?_
  refine r_aload_n 1 dX12_readsTrouble_10 rfl rfl ?_
  refine r_iconst dX12_readsTrouble_11 ci_0 ?_
  refine r_iconst dX12_readsTrouble_12 ci_3 ?_
  refine rc_VI (h' := 2) [.int 0, .int 3] okv_X12_readsNumber (by decide) (congrArg Prod.fst k0_125) tw_953 rfl rfl (Nat.le_of_ble_eq_true rfl) dX12_readsTrouble_13 (by decide) h (fun r1 σ1 τ1 h => ?_)
  refine r_iast (by decide) k0_127 dX12_readsTrouble_16 h.1 ?_
  replace h := h.2
  refine r_aload_n 1 dX12_readsTrouble_17 rfl rfl ?_
  refine r_getR (j := 11) (by decide) (congrArg Prod.fst k0_125) c12_11 (by decide) rfl g0_125_11 tw_821 dX12_readsTrouble_18 ?_
  refine r_iload_n 0 dX12_readsTrouble_21 rfl rfl ?_
  refine r_aload_n 1 dX12_readsTrouble_22 rfl rfl ?_
  refine r_getR (j := 10) (by decide) (congrArg Prod.fst k0_125) c12_11 (by decide) rfl g0_125_10 tw_820 dX12_readsTrouble_23 ?_
  refine r_iload_n 0 dX12_readsTrouble_26 rfl rfl ?_
  refine r_iald (by decide) k0_127 dX12_readsTrouble_27 h.1 ?_
  replace h := h.2
  refine r_iconst dX12_readsTrouble_28 ci_m1 ?_
  refine r_icmp_ne (tgt := 36) dX12_readsTrouble_29 (by decide) (fun c2 => ?_) (fun c2 => ?_)
  · replace h := h.1 c2
    refine r_aload_n 1 dX12_readsTrouble_36 rfl rfl ?_
    refine r_iconst dX12_readsTrouble_37 ci_1 ?_
    refine r_sipush dX12_readsTrouble_38 cs_200 ?_
    refine rc_VI (h' := 2) [.int 1, .int 200] okv_X12_readsNumber (by decide) (congrArg Prod.fst k0_125) tw_953 rfl rfl (Nat.le_of_ble_eq_true rfl) dX12_readsTrouble_41 (by decide) h (fun r3 σ3 τ3 h => ?_)
    refine r_lv [1, 0] rfl ?_
    exact h
  · replace h := h.2 c2
    refine r_iconst dX12_readsTrouble_32 ci_m1 ?_
    refine r_goto (tgt := 44) dX12_readsTrouble_33 (by decide) ?_
    refine r_lv [1, 0] rfl ?_
    exact h
theorem s_X12_readsTrouble {l : Launch} {D : zDD} {b : Nat} (σ : zSg) (τ : zLm) {Q : Int32 → zSg → zLm → Prop} (h : SI l D b M_X12_readsNumber 2 G0 [.ref (b + 125), .int 0, .int 3] σ τ (fun r1 σ1 τ1 => vp_in (σ 125 8) 6 ∧ (vp_in (σ 125 8) 6 ∧ ((¬ ((st2 σ1 127 ((σ 125 8).toNatClampNeg) r1) 127 ((σ 125 8).toNatClampNeg)) = (-1) → SI l D b M_X12_readsNumber 2 G0 [.ref (b + 125), .int 1, .int 200] (st2 σ1 127 ((σ 125 8).toNatClampNeg) r1) τ1 (fun r3 σ3 τ3 => AI l D b M_X12_readsTrouble 3 G0 Q 44 [(0, .ref (b + 125)), (1, .int (σ 125 8))] [.int r3, .int (σ 125 8), .ref (b + 128)] G0 σ3 τ3)) ∧ (((st2 σ1 127 ((σ 125 8).toNatClampNeg) r1) 127 ((σ 125 8).toNatClampNeg)) = (-1) → AI l D b M_X12_readsTrouble 3 G0 Q 44 [(0, .ref (b + 125)), (1, .int (σ 125 8))] [.int (-1), .int (σ 125 8), .ref (b + 128)] G0 (st2 σ1 127 ((σ 125 8).toNatClampNeg) r1) τ1))))) : SI l D b M_X12_readsTrouble 3 G0 [.ref (b + 125)] σ τ Q := zS.of (by decide) (Nat.le_of_ble_eq_true rfl) rfl (w_X12_readsTrouble_0 σ τ h)

theorem dX12_readsEater_0 : decode cX12_readsEater 0 = .ok (.aload_n 0, 1) := by decide +kernel
theorem dX12_readsEater_1 : decode cX12_readsEater 1 = .ok (.iconst 1, 1) := by decide +kernel
theorem dX12_readsEater_2 : decode cX12_readsEater 2 = .ok (.bipush 30, 2) := by decide +kernel
theorem dX12_readsEater_4 : decode cX12_readsEater 4 = .ok (.invokevirtual 100, 3) := by decide +kernel
theorem dX12_readsEater_7 : decode cX12_readsEater 7 = .ok (.istore_n 1, 1) := by decide +kernel
theorem dX12_readsEater_8 : decode cX12_readsEater 8 = .ok (.aload_n 0, 1) := by decide +kernel
theorem dX12_readsEater_9 : decode cX12_readsEater 9 = .ok (.getfield 26, 3) := by decide +kernel
theorem dX12_readsEater_12 : decode cX12_readsEater 12 = .ok (.aload_n 0, 1) := by decide +kernel
theorem dX12_readsEater_13 : decode cX12_readsEater 13 = .ok (.getfield 116, 3) := by decide +kernel
theorem dX12_readsEater_16 : decode cX12_readsEater 16 = .ok (.iload_n 1, 1) := by decide +kernel
theorem dX12_readsEater_17 : decode cX12_readsEater 17 = .ok (.iastore, 1) := by decide +kernel
theorem dX12_readsEater_18 : decode cX12_readsEater 18 = .ok (.aload_n 0, 1) := by decide +kernel
theorem dX12_readsEater_19 : decode cX12_readsEater 19 = .ok (.dup, 1) := by decide +kernel
theorem dX12_readsEater_20 : decode cX12_readsEater 20 = .ok (.getfield 116, 3) := by decide +kernel
theorem dX12_readsEater_23 : decode cX12_readsEater 23 = .ok (.iconst 1, 1) := by decide +kernel
theorem dX12_readsEater_24 : decode cX12_readsEater 24 = .ok (.iadd, 1) := by decide +kernel
theorem dX12_readsEater_25 : decode cX12_readsEater 25 = .ok (.putfield 116, 3) := by decide +kernel
theorem dX12_readsEater_28 : decode cX12_readsEater 28 = .ok (.iload_n 1, 1) := by decide +kernel
theorem dX12_readsEater_29 : decode cX12_readsEater 29 = .ok (.iconst (-1), 1) := by decide +kernel
theorem dX12_readsEater_30 : decode cX12_readsEater 30 = .ok (.if_icmp .eq 16, 3) := by decide +kernel
theorem dX12_readsEater_33 : decode cX12_readsEater 33 = .ok (.aload_n 0, 1) := by decide +kernel
theorem dX12_readsEater_34 : decode cX12_readsEater 34 = .ok (.bipush 59, 2) := by decide +kernel
theorem dX12_readsEater_36 : decode cX12_readsEater 36 = .ok (.invokevirtual 109, 3) := by decide +kernel
theorem dX12_readsEater_39 : decode cX12_readsEater 39 = .ok (.ifCond .eq 7, 3) := by decide +kernel
theorem dX12_readsEater_42 : decode cX12_readsEater 42 = .ok (.iconst 1, 1) := by decide +kernel
theorem dX12_readsEater_43 : decode cX12_readsEater 43 = .ok (.goto 4, 3) := by decide +kernel
theorem dX12_readsEater_46 : decode cX12_readsEater 46 = .ok (.iconst 0, 1) := by decide +kernel
theorem dX12_readsEater_47 : decode cX12_readsEater 47 = .ok (.ireturn, 1) := by decide +kernel
theorem w_X12_readsEater_0 {l : Launch} {D : zDD} {b : Nat} (σ : zSg) (τ : zLm) {Q : Int32 → zSg → zLm → Prop} (h : SI l D b M_X12_readsNumber 2 G0 [.ref (b + 125), .int 1, .int 30] σ τ (fun r1 σ1 τ1 => vp_in (σ1 125 9) 6 ∧ ((r1 = (-1) → Q 0 (st2 (st2 σ1 130 ((σ1 125 9).toNatClampNeg) r1) 125 9 (((st2 σ1 130 ((σ1 125 9).toNatClampNeg) r1) 125 9) + 1)) τ1) ∧ (¬ r1 = (-1) → (SI l D b M_X12_readsSign 2 G0 [.ref (b + 125), .int 59] (st2 (st2 σ1 130 ((σ1 125 9).toNatClampNeg) r1) 125 9 (((st2 σ1 130 ((σ1 125 9).toNatClampNeg) r1) 125 9) + 1)) τ1 (fun r3 σ3 τ3 => (r3 = 0 → Q 0 σ3 τ3) ∧ (¬ r3 = 0 → Q 1 σ3 τ3))))))) : AI l D b M_X12_readsEater 3 G0 Q 0 [(0, .ref (b + 125))] [] G0 σ τ := by
  refine r_aload_n 0 dX12_readsEater_0 rfl rfl ?_
  refine r_iconst dX12_readsEater_1 ci_1 ?_
  refine r_bipush dX12_readsEater_2 cb_30 ?_
  refine rc_VI (h' := 2) [.int 1, .int 30] okv_X12_readsNumber (by decide) (congrArg Prod.fst k0_125) tw_953 rfl rfl (Nat.le_of_ble_eq_true rfl) dX12_readsEater_4 (by decide) h (fun r1 σ1 τ1 h => ?_)
  refine r_istore_n dX12_readsEater_7 rfl (by decide) rfl ?_
  refine r_aload_n 1 dX12_readsEater_8 rfl rfl ?_
  refine r_getR (j := 13) (by decide) (congrArg Prod.fst k0_125) c12_11 (by decide) rfl g0_125_13 tw_823 dX12_readsEater_9 ?_
  refine r_aload_n 1 dX12_readsEater_12 rfl rfl ?_
  refine r_getI (j := 9) (by decide) (congrArg Prod.fst k0_125) c12_11 (by decide) rfl tw_819 dX12_readsEater_13 ?_
  refine r_iload_n 0 dX12_readsEater_16 rfl rfl ?_
  refine r_iast (by decide) k0_130 dX12_readsEater_17 h.1 ?_
  replace h := h.2
  refine r_aload_n 1 dX12_readsEater_18 rfl rfl ?_
  refine r_dup dX12_readsEater_19 rfl ?_
  refine r_getI (j := 9) (by decide) (congrArg Prod.fst k0_125) c12_11 (by decide) rfl tw_819 dX12_readsEater_20 ?_
  refine r_iconst dX12_readsEater_23 ci_1 ?_
  refine r_iadd dX12_readsEater_24 ?_
  refine r_putI (j := 9) (by decide) (congrArg Prod.fst k0_125) c12_11 (by decide) rfl (Or.inl rfl) tw_819 dX12_readsEater_25 ?_
  refine r_iload_n 0 dX12_readsEater_28 rfl rfl ?_
  refine r_iconst dX12_readsEater_29 ci_m1 ?_
  refine r_icmp_eq (tgt := 46) dX12_readsEater_30 (by decide) (fun c2 => ?_) (fun c2 => ?_)
  · replace h := h.1 c2
    refine r_iconst dX12_readsEater_46 ci_0 ?_
    exact r_zret rfl (Nat.le_refl _) (Nat.le_refl _) dX12_readsEater_47 (Or.inl rfl) ⟨rfl, rfl, rfl, _, rfl, h⟩
  · replace h := h.2 c2
    refine r_aload_n 1 dX12_readsEater_33 rfl rfl ?_
    refine r_bipush dX12_readsEater_34 cb_59 ?_
    refine rc_VI (h' := 2) [.int 59] okv_X12_readsSign (by decide) (congrArg Prod.fst k0_125) tw_961 rfl rfl (Nat.le_of_ble_eq_true rfl) dX12_readsEater_36 (by decide) h (fun r3 σ3 τ3 h => ?_)
    refine r_if_eq (tgt := 46) dX12_readsEater_39 (by decide) (fun c4 => ?_) (fun c4 => ?_)
    · replace h := h.1 c4
      refine r_iconst dX12_readsEater_46 ci_0 ?_
      exact r_zret rfl (Nat.le_refl _) (Nat.le_refl _) dX12_readsEater_47 (Or.inl rfl) ⟨rfl, rfl, rfl, _, rfl, h⟩
    · replace h := h.2 c4
      refine r_iconst dX12_readsEater_42 ci_1 ?_
      refine r_goto (tgt := 47) dX12_readsEater_43 (by decide) ?_
      exact r_zret rfl (Nat.le_refl _) (Nat.le_refl _) dX12_readsEater_47 (Or.inr rfl) ⟨rfl, rfl, rfl, _, rfl, h⟩
theorem s_X12_readsEater {l : Launch} {D : zDD} {b : Nat} (σ : zSg) (τ : zLm) {Q : Int32 → zSg → zLm → Prop} (h : SI l D b M_X12_readsNumber 2 G0 [.ref (b + 125), .int 1, .int 30] σ τ (fun r1 σ1 τ1 => vp_in (σ1 125 9) 6 ∧ ((r1 = (-1) → Q 0 (st2 (st2 σ1 130 ((σ1 125 9).toNatClampNeg) r1) 125 9 (((st2 σ1 130 ((σ1 125 9).toNatClampNeg) r1) 125 9) + 1)) τ1) ∧ (¬ r1 = (-1) → (SI l D b M_X12_readsSign 2 G0 [.ref (b + 125), .int 59] (st2 (st2 σ1 130 ((σ1 125 9).toNatClampNeg) r1) 125 9 (((st2 σ1 130 ((σ1 125 9).toNatClampNeg) r1) 125 9) + 1)) τ1 (fun r3 σ3 τ3 => (r3 = 0 → Q 0 σ3 τ3) ∧ (¬ r3 = 0 → Q 1 σ3 τ3))))))) : SI l D b M_X12_readsEater 3 G0 [.ref (b + 125)] σ τ Q := zS.of (by decide) (Nat.le_of_ble_eq_true rfl) rfl (w_X12_readsEater_0 σ τ h)

theorem dX12_trouble_0 : decode cX12_trouble 0 = .ok (.aload_n 0, 1) := by decide +kernel
theorem dX12_trouble_1 : decode cX12_trouble 1 = .ok (.iload_n 1, 1) := by decide +kernel
theorem dX12_trouble_2 : decode cX12_trouble 2 = .ok (.invokevirtual 203, 3) := by decide +kernel
theorem dX12_trouble_5 : decode cX12_trouble 5 = .ok (.ifCond .ne 6, 3) := by decide +kernel
theorem dX12_trouble_8 : decode cX12_trouble 8 = .ok (.ldc 206, 2) := by decide +kernel
theorem dX12_trouble_10 : decode cX12_trouble 10 = .ok (.ireturn, 1) := by decide +kernel
theorem dX12_trouble_11 : decode cX12_trouble 11 = .ok (.aload_n 0, 1) := by decide +kernel
theorem dX12_trouble_12 : decode cX12_trouble 12 = .ok (.getfield 35, 3) := by decide +kernel
theorem dX12_trouble_15 : decode cX12_trouble 15 = .ok (.bipush 8, 2) := by decide +kernel
theorem dX12_trouble_17 : decode cX12_trouble 17 = .ok (.iload_n 1, 1) := by decide +kernel
theorem dX12_trouble_18 : decode cX12_trouble 18 = .ok (.iadd, 1) := by decide +kernel
theorem dX12_trouble_19 : decode cX12_trouble 19 = .ok (.iaload, 1) := by decide +kernel
theorem dX12_trouble_20 : decode cX12_trouble 20 = .ok (.istore_n 3, 1) := by decide +kernel
theorem dX12_trouble_21 : decode cX12_trouble 21 = .ok (.iload_n 2, 1) := by decide +kernel
theorem dX12_trouble_22 : decode cX12_trouble 22 = .ok (.tableswitch 117 0 8 #[50, 57, 66, 68, 78, 84, 93, 98, 103], 50) := by decide +kernel
theorem dX12_trouble_72 : decode cX12_trouble 72 = .ok (.aload_n 0, 1) := by decide +kernel
theorem dX12_trouble_73 : decode cX12_trouble 73 = .ok (.getfield 29, 3) := by decide +kernel
theorem dX12_trouble_76 : decode cX12_trouble 76 = .ok (.iload_n 1, 1) := by decide +kernel
theorem dX12_trouble_77 : decode cX12_trouble 77 = .ok (.iaload, 1) := by decide +kernel
theorem dX12_trouble_78 : decode cX12_trouble 78 = .ok (.ireturn, 1) := by decide +kernel
theorem dX12_trouble_79 : decode cX12_trouble 79 = .ok (.aload_n 0, 1) := by decide +kernel
theorem dX12_trouble_80 : decode cX12_trouble 80 = .ok (.getfield 35, 3) := by decide +kernel
theorem dX12_trouble_83 : decode cX12_trouble 83 = .ok (.iconst 2, 1) := by decide +kernel
theorem dX12_trouble_84 : decode cX12_trouble 84 = .ok (.iload_n 1, 1) := by decide +kernel
theorem dX12_trouble_85 : decode cX12_trouble 85 = .ok (.iadd, 1) := by decide +kernel
theorem dX12_trouble_86 : decode cX12_trouble 86 = .ok (.iaload, 1) := by decide +kernel
theorem dX12_trouble_87 : decode cX12_trouble 87 = .ok (.ireturn, 1) := by decide +kernel
theorem dX12_trouble_88 : decode cX12_trouble 88 = .ok (.iload_n 3, 1) := by decide +kernel
theorem dX12_trouble_89 : decode cX12_trouble 89 = .ok (.ireturn, 1) := by decide +kernel
theorem dX12_trouble_90 : decode cX12_trouble 90 = .ok (.aload_n 0, 1) := by decide +kernel
theorem dX12_trouble_91 : decode cX12_trouble 91 = .ok (.getfield 35, 3) := by decide +kernel
theorem dX12_trouble_94 : decode cX12_trouble 94 = .ok (.bipush 14, 2) := by decide +kernel
theorem dX12_trouble_96 : decode cX12_trouble 96 = .ok (.iload_n 1, 1) := by decide +kernel
theorem dX12_trouble_97 : decode cX12_trouble 97 = .ok (.iadd, 1) := by decide +kernel
theorem dX12_trouble_98 : decode cX12_trouble 98 = .ok (.iaload, 1) := by decide +kernel
theorem dX12_trouble_99 : decode cX12_trouble 99 = .ok (.ireturn, 1) := by decide +kernel
theorem dX12_trouble_100 : decode cX12_trouble 100 = .ok (.iload_n 3, 1) := by decide +kernel
theorem dX12_trouble_101 : decode cX12_trouble 101 = .ok (.iconst 0, 1) := by decide +kernel
theorem dX12_trouble_102 : decode cX12_trouble 102 = .ok (.invokestatic 207, 3) := by decide +kernel
theorem dX12_trouble_105 : decode cX12_trouble 105 = .ok (.ireturn, 1) := by decide +kernel
theorem dX12_trouble_106 : decode cX12_trouble 106 = .ok (.iload_n 3, 1) := by decide +kernel
theorem dX12_trouble_107 : decode cX12_trouble 107 = .ok (.iconst 1, 1) := by decide +kernel
theorem dX12_trouble_108 : decode cX12_trouble 108 = .ok (.invokestatic 207, 3) := by decide +kernel
theorem dX12_trouble_111 : decode cX12_trouble 111 = .ok (.invokestatic 162, 3) := by decide +kernel
theorem dX12_trouble_114 : decode cX12_trouble 114 = .ok (.ireturn, 1) := by decide +kernel
theorem dX12_trouble_115 : decode cX12_trouble 115 = .ok (.iload_n 3, 1) := by decide +kernel
theorem dX12_trouble_116 : decode cX12_trouble 116 = .ok (.invokestatic 211, 3) := by decide +kernel
theorem dX12_trouble_119 : decode cX12_trouble 119 = .ok (.ireturn, 1) := by decide +kernel
theorem dX12_trouble_120 : decode cX12_trouble 120 = .ok (.iload_n 3, 1) := by decide +kernel
theorem dX12_trouble_121 : decode cX12_trouble 121 = .ok (.invokestatic 214, 3) := by decide +kernel
theorem dX12_trouble_124 : decode cX12_trouble 124 = .ok (.ireturn, 1) := by decide +kernel
theorem dX12_trouble_125 : decode cX12_trouble 125 = .ok (.aload_n 0, 1) := by decide +kernel
theorem dX12_trouble_126 : decode cX12_trouble 126 = .ok (.iload_n 1, 1) := by decide +kernel
theorem dX12_trouble_127 : decode cX12_trouble 127 = .ok (.invokevirtual 217, 3) := by decide +kernel
theorem dX12_trouble_130 : decode cX12_trouble 130 = .ok (.ifCond .eq 7, 3) := by decide +kernel
theorem dX12_trouble_133 : decode cX12_trouble 133 = .ok (.iconst 1, 1) := by decide +kernel
theorem dX12_trouble_134 : decode cX12_trouble 134 = .ok (.goto 4, 3) := by decide +kernel
theorem dX12_trouble_137 : decode cX12_trouble 137 = .ok (.iconst 0, 1) := by decide +kernel
theorem dX12_trouble_138 : decode cX12_trouble 138 = .ok (.ireturn, 1) := by decide +kernel
theorem dX12_trouble_139 : decode cX12_trouble 139 = .ok (.ldc 74, 2) := by decide +kernel
theorem dX12_trouble_141 : decode cX12_trouble 141 = .ok (.ireturn, 1) := by decide +kernel
theorem w_X12_trouble_0 {l : Launch} {D : zDD} {b : Nat} (p1 p2 : Int32) (σ : zSg) (τ : zLm) {Q : Int32 → zSg → zLm → Prop} (h : SI l D b M_X12_isTrouble 1 G0 [.ref (b + 125), .int p1] σ τ (fun r1 σ1 τ1 => (¬ r1 = 0 → (vp_in (8 + p1) 26 ∧ (∀ v3 : Int32, v3 = σ1 133 ((8 + p1).toNatClampNeg) → ((p2.toInt < 0 ∨ (8 : Int) < p2.toInt) → Q (-1000000002) σ1 τ1) ∧ (p2 = 0 → (vp_in p1 6 ∧ Q (σ1 131 p1.toNatClampNeg) σ1 τ1)) ∧ (p2 = 1 → (vp_in (2 + p1) 26 ∧ Q (σ1 133 ((2 + p1).toNatClampNeg)) σ1 τ1)) ∧ (p2 = 2 → Q v3 σ1 τ1) ∧ (p2 = 3 → (vp_in (14 + p1) 26 ∧ Q (σ1 133 ((14 + p1).toNatClampNeg)) σ1 τ1)) ∧ (p2 = 4 → SI l D b M_X12_parts 2 G0 [.int v3, .int 0] σ1 τ1 (fun r4 σ4 τ4 => Q r4 σ4 τ4)) ∧ (p2 = 5 → SI l D b M_X12_parts 2 G0 [.int v3, .int 1] σ1 τ1 (fun r5 σ5 τ5 => SI l D b M_X12_bits 0 G0 [.int r5] σ5 τ5 (fun r6 σ6 τ6 => Q r6 σ6 τ6))) ∧ (p2 = 6 → SI l D b M_X12_edge 2 G0 [.int v3] σ1 τ1 (fun r7 σ7 τ7 => Q r7 σ7 τ7)) ∧ (p2 = 7 → SI l D b M_X12_hold 2 G0 [.int v3] σ1 τ1 (fun r8 σ8 τ8 => Q r8 σ8 τ8)) ∧ (p2 = 8 → (SI l D b M_X12_isBearable 2 G0 [.ref (b + 125), .int p1] σ1 τ1 (fun r9 σ9 τ9 => (r9 = 0 → Q 0 σ9 τ9) ∧ (¬ r9 = 0 → Q 1 σ9 τ9))))))) ∧ (r1 = 0 → Q (-1000000001) σ1 τ1))) : AI l D b M_X12_trouble 3 G0 Q 0 [(0, .ref (b + 125)), (1, .int p1), (2, .int p2)] [] G0 σ τ := by
  refine r_aload_n 0 dX12_trouble_0 rfl rfl ?_
  refine r_iload_n 1 dX12_trouble_1 rfl rfl ?_
  refine rc_VI (h' := 1) [.int p1] okv_X12_isTrouble (by decide) (congrArg Prod.fst k0_125) tw_1031 rfl rfl (Nat.le_of_ble_eq_true rfl) dX12_trouble_2 (by decide) h (fun r1 σ1 τ1 h => ?_)
  refine r_if_ne (tgt := 11) dX12_trouble_5 (by decide) (fun c2 => ?_) (fun c2 => ?_)
  · replace h := h.1 c2
    refine r_aload_n 0 dX12_trouble_11 rfl rfl ?_
    refine r_getR (j := 20) (by decide) (congrArg Prod.fst k0_125) c12_11 (by decide) rfl g0_125_20 tw_830 dX12_trouble_12 ?_
    refine r_bipush dX12_trouble_15 cb_8 ?_
    refine r_iload_n 1 dX12_trouble_17 rfl rfl ?_
    refine r_iadd dX12_trouble_18 ?_
    refine r_iald (by decide) k0_133 dX12_trouble_19 h.1 ?_
    replace h := h.2
    refine r_nmI (fun v3 ev3 => ?_)
    replace h := h v3 ev3
    refine r_istore_n dX12_trouble_20 rfl (by decide) rfl ?_
    refine r_iload_n 3 dX12_trouble_21 rfl rfl ?_
    by_cases ho : p2.toInt < 0 ∨ (8 : Int) < p2.toInt
    · replace h := h.1 ho
      refine r_tableOut (tgt := 139) dX12_trouble_22 ho (by decide) ?_
      refine r_ldc (v := (-1000000002)) rfl tw_927 rfl dX12_trouble_139 ?_
      exact r_iret rfl (Nat.le_refl _) (Nat.le_refl _) dX12_trouble_141 ⟨rfl, rfl, rfl, _, rfl, h⟩
    · replace h := h.2
      rcases sw_8 ho with e9 | e9 | e9 | e9 | e9 | e9 | e9 | e9 | e9
      · replace h := h.1 e9
        refine r_tableIn (tgt := 72) (off := 50) dX12_trouble_22 (by rw [e9]; decide) (by rw [e9]; decide) (by rw [e9]; rfl) (by decide) ?_
        refine r_aload_n 1 dX12_trouble_72 rfl rfl ?_
        refine r_getR (j := 18) (by decide) (congrArg Prod.fst k0_125) c12_11 (by decide) rfl g0_125_18 tw_828 dX12_trouble_73 ?_
        refine r_iload_n 2 dX12_trouble_76 rfl rfl ?_
        refine r_iald (by decide) k0_131 dX12_trouble_77 h.1 ?_
        replace h := h.2
        exact r_iret rfl (Nat.le_refl _) (Nat.le_refl _) dX12_trouble_78 ⟨rfl, rfl, rfl, _, rfl, h⟩
      · replace h := h.2.1 e9
        refine r_tableIn (tgt := 79) (off := 57) dX12_trouble_22 (by rw [e9]; decide) (by rw [e9]; decide) (by rw [e9]; rfl) (by decide) ?_
        refine r_aload_n 1 dX12_trouble_79 rfl rfl ?_
        refine r_getR (j := 20) (by decide) (congrArg Prod.fst k0_125) c12_11 (by decide) rfl g0_125_20 tw_830 dX12_trouble_80 ?_
        refine r_iconst dX12_trouble_83 ci_2 ?_
        refine r_iload_n 2 dX12_trouble_84 rfl rfl ?_
        refine r_iadd dX12_trouble_85 ?_
        refine r_iald (by decide) k0_133 dX12_trouble_86 h.1 ?_
        replace h := h.2
        exact r_iret rfl (Nat.le_refl _) (Nat.le_refl _) dX12_trouble_87 ⟨rfl, rfl, rfl, _, rfl, h⟩
      · replace h := h.2.2.1 e9
        refine r_tableIn (tgt := 88) (off := 66) dX12_trouble_22 (by rw [e9]; decide) (by rw [e9]; decide) (by rw [e9]; rfl) (by decide) ?_
        refine r_iload_n 0 dX12_trouble_88 rfl rfl ?_
        exact r_iret rfl (Nat.le_refl _) (Nat.le_refl _) dX12_trouble_89 ⟨rfl, rfl, rfl, _, rfl, h⟩
      · replace h := h.2.2.2.1 e9
        refine r_tableIn (tgt := 90) (off := 68) dX12_trouble_22 (by rw [e9]; decide) (by rw [e9]; decide) (by rw [e9]; rfl) (by decide) ?_
        refine r_aload_n 1 dX12_trouble_90 rfl rfl ?_
        refine r_getR (j := 20) (by decide) (congrArg Prod.fst k0_125) c12_11 (by decide) rfl g0_125_20 tw_830 dX12_trouble_91 ?_
        refine r_bipush dX12_trouble_94 cb_14 ?_
        refine r_iload_n 2 dX12_trouble_96 rfl rfl ?_
        refine r_iadd dX12_trouble_97 ?_
        refine r_iald (by decide) k0_133 dX12_trouble_98 h.1 ?_
        replace h := h.2
        exact r_iret rfl (Nat.le_refl _) (Nat.le_refl _) dX12_trouble_99 ⟨rfl, rfl, rfl, _, rfl, h⟩
      · replace h := h.2.2.2.2.1 e9
        refine r_tableIn (tgt := 100) (off := 78) dX12_trouble_22 (by rw [e9]; decide) (by rw [e9]; decide) (by rw [e9]; rfl) (by decide) ?_
        refine r_iload_n 0 dX12_trouble_100 rfl rfl ?_
        refine r_iconst dX12_trouble_101 ci_0 ?_
        refine rc_SI (h' := 2) [.int v3, .int 0] oks_X12_parts tw_1036 rfl rfl (Nat.le_of_ble_eq_true rfl) dX12_trouble_102 (by decide) h (fun r4 σ4 τ4 h => ?_)
        exact r_iret rfl (Nat.le_refl _) (Nat.le_refl _) dX12_trouble_105 ⟨rfl, rfl, rfl, _, rfl, h⟩
      · replace h := h.2.2.2.2.2.1 e9
        refine r_tableIn (tgt := 106) (off := 84) dX12_trouble_22 (by rw [e9]; decide) (by rw [e9]; decide) (by rw [e9]; rfl) (by decide) ?_
        refine r_iload_n 0 dX12_trouble_106 rfl rfl ?_
        refine r_iconst dX12_trouble_107 ci_1 ?_
        refine rc_SI (h' := 2) [.int v3, .int 1] oks_X12_parts tw_1036 rfl rfl (Nat.le_of_ble_eq_true rfl) dX12_trouble_108 (by decide) h (fun r5 σ5 τ5 h => ?_)
        refine rc_SI (h' := 0) [.int r5] oks_X12_bits tw_1046 rfl rfl (Nat.le_of_ble_eq_true rfl) dX12_trouble_111 (by decide) h (fun r6 σ6 τ6 h => ?_)
        exact r_iret rfl (Nat.le_refl _) (Nat.le_refl _) dX12_trouble_114 ⟨rfl, rfl, rfl, _, rfl, h⟩
      · replace h := h.2.2.2.2.2.2.1 e9
        refine r_tableIn (tgt := 115) (off := 93) dX12_trouble_22 (by rw [e9]; decide) (by rw [e9]; decide) (by rw [e9]; rfl) (by decide) ?_
        refine r_iload_n 0 dX12_trouble_115 rfl rfl ?_
        refine rc_SI (h' := 2) [.int v3] oks_X12_edge tw_1049 rfl rfl (Nat.le_of_ble_eq_true rfl) dX12_trouble_116 (by decide) h (fun r7 σ7 τ7 h => ?_)
        exact r_iret rfl (Nat.le_refl _) (Nat.le_refl _) dX12_trouble_119 ⟨rfl, rfl, rfl, _, rfl, h⟩
      · replace h := h.2.2.2.2.2.2.2.1 e9
        refine r_tableIn (tgt := 120) (off := 98) dX12_trouble_22 (by rw [e9]; decide) (by rw [e9]; decide) (by rw [e9]; rfl) (by decide) ?_
        refine r_iload_n 0 dX12_trouble_120 rfl rfl ?_
        refine rc_SI (h' := 2) [.int v3] oks_X12_hold tw_1055 rfl rfl (Nat.le_of_ble_eq_true rfl) dX12_trouble_121 (by decide) h (fun r8 σ8 τ8 h => ?_)
        exact r_iret rfl (Nat.le_refl _) (Nat.le_refl _) dX12_trouble_124 ⟨rfl, rfl, rfl, _, rfl, h⟩
      · replace h := h.2.2.2.2.2.2.2.2 e9
        refine r_tableIn (tgt := 125) (off := 103) dX12_trouble_22 (by rw [e9]; decide) (by rw [e9]; decide) (by rw [e9]; rfl) (by decide) ?_
        refine r_aload_n 1 dX12_trouble_125 rfl rfl ?_
        refine r_iload_n 2 dX12_trouble_126 rfl rfl ?_
        refine rc_VI (h' := 2) [.int p1] okv_X12_isBearable (by decide) (congrArg Prod.fst k0_125) tw_1058 rfl rfl (Nat.le_of_ble_eq_true rfl) dX12_trouble_127 (by decide) h (fun r9 σ9 τ9 h => ?_)
        refine r_if_eq (tgt := 137) dX12_trouble_130 (by decide) (fun c10 => ?_) (fun c10 => ?_)
        · replace h := h.1 c10
          refine r_iconst dX12_trouble_137 ci_0 ?_
          exact r_iret rfl (Nat.le_refl _) (Nat.le_refl _) dX12_trouble_138 ⟨rfl, rfl, rfl, _, rfl, h⟩
        · replace h := h.2 c10
          refine r_iconst dX12_trouble_133 ci_1 ?_
          refine r_goto (tgt := 138) dX12_trouble_134 (by decide) ?_
          exact r_iret rfl (Nat.le_refl _) (Nat.le_refl _) dX12_trouble_138 ⟨rfl, rfl, rfl, _, rfl, h⟩
  · replace h := h.2 c2
    refine r_ldc (v := (-1000000001)) rfl tw_1035 rfl dX12_trouble_8 ?_
    exact r_iret rfl (Nat.le_refl _) (Nat.le_refl _) dX12_trouble_10 ⟨rfl, rfl, rfl, _, rfl, h⟩
theorem s_X12_trouble {l : Launch} {D : zDD} {b : Nat} (p1 p2 : Int32) (σ : zSg) (τ : zLm) {Q : Int32 → zSg → zLm → Prop} (h : SI l D b M_X12_isTrouble 1 G0 [.ref (b + 125), .int p1] σ τ (fun r1 σ1 τ1 => (¬ r1 = 0 → (vp_in (8 + p1) 26 ∧ (∀ v3 : Int32, v3 = σ1 133 ((8 + p1).toNatClampNeg) → ((p2.toInt < 0 ∨ (8 : Int) < p2.toInt) → Q (-1000000002) σ1 τ1) ∧ (p2 = 0 → (vp_in p1 6 ∧ Q (σ1 131 p1.toNatClampNeg) σ1 τ1)) ∧ (p2 = 1 → (vp_in (2 + p1) 26 ∧ Q (σ1 133 ((2 + p1).toNatClampNeg)) σ1 τ1)) ∧ (p2 = 2 → Q v3 σ1 τ1) ∧ (p2 = 3 → (vp_in (14 + p1) 26 ∧ Q (σ1 133 ((14 + p1).toNatClampNeg)) σ1 τ1)) ∧ (p2 = 4 → SI l D b M_X12_parts 2 G0 [.int v3, .int 0] σ1 τ1 (fun r4 σ4 τ4 => Q r4 σ4 τ4)) ∧ (p2 = 5 → SI l D b M_X12_parts 2 G0 [.int v3, .int 1] σ1 τ1 (fun r5 σ5 τ5 => SI l D b M_X12_bits 0 G0 [.int r5] σ5 τ5 (fun r6 σ6 τ6 => Q r6 σ6 τ6))) ∧ (p2 = 6 → SI l D b M_X12_edge 2 G0 [.int v3] σ1 τ1 (fun r7 σ7 τ7 => Q r7 σ7 τ7)) ∧ (p2 = 7 → SI l D b M_X12_hold 2 G0 [.int v3] σ1 τ1 (fun r8 σ8 τ8 => Q r8 σ8 τ8)) ∧ (p2 = 8 → (SI l D b M_X12_isBearable 2 G0 [.ref (b + 125), .int p1] σ1 τ1 (fun r9 σ9 τ9 => (r9 = 0 → Q 0 σ9 τ9) ∧ (¬ r9 = 0 → Q 1 σ9 τ9))))))) ∧ (r1 = 0 → Q (-1000000001) σ1 τ1))) : SI l D b M_X12_trouble 3 G0 [.ref (b + 125), .int p1, .int p2] σ τ Q := zS.of (by decide) (Nat.le_of_ble_eq_true rfl) rfl (w_X12_trouble_0 p1 p2 σ τ h)

theorem dX12_wraps_0 : decode cX12_wraps 0 = .ok (.aload_n 0, 1) := by decide +kernel
theorem dX12_wraps_1 : decode cX12_wraps 1 = .ok (.iload_n 1, 1) := by decide +kernel
theorem dX12_wraps_2 : decode cX12_wraps 2 = .ok (.invokevirtual 229, 3) := by decide +kernel
theorem dX12_wraps_5 : decode cX12_wraps 5 = .ok (.istore_n 2, 1) := by decide +kernel
theorem dX12_wraps_6 : decode cX12_wraps 6 = .ok (.aload_n 0, 1) := by decide +kernel
theorem dX12_wraps_7 : decode cX12_wraps 7 = .ok (.getfield 35, 3) := by decide +kernel
theorem dX12_wraps_10 : decode cX12_wraps 10 = .ok (.iconst 1, 1) := by decide +kernel
theorem dX12_wraps_11 : decode cX12_wraps 11 = .ok (.iaload, 1) := by decide +kernel
theorem dX12_wraps_12 : decode cX12_wraps 12 = .ok (.iload_n 2, 1) := by decide +kernel
theorem dX12_wraps_13 : decode cX12_wraps 13 = .ok (.iadd, 1) := by decide +kernel
theorem dX12_wraps_14 : decode cX12_wraps 14 = .ok (.istore_n 3, 1) := by decide +kernel
theorem dX12_wraps_15 : decode cX12_wraps 15 = .ok (.aload_n 0, 1) := by decide +kernel
theorem dX12_wraps_16 : decode cX12_wraps 16 = .ok (.getfield 35, 3) := by decide +kernel
theorem dX12_wraps_19 : decode cX12_wraps 19 = .ok (.iconst 1, 1) := by decide +kernel
theorem dX12_wraps_20 : decode cX12_wraps 20 = .ok (.iload_n 3, 1) := by decide +kernel
theorem dX12_wraps_21 : decode cX12_wraps 21 = .ok (.ldc 232, 2) := by decide +kernel
theorem dX12_wraps_23 : decode cX12_wraps 23 = .ok (.if_icmp .le 8, 3) := by decide +kernel
theorem dX12_wraps_26 : decode cX12_wraps 26 = .ok (.ldc 232, 2) := by decide +kernel
theorem dX12_wraps_28 : decode cX12_wraps 28 = .ok (.goto 4, 3) := by decide +kernel
theorem dX12_wraps_31 : decode cX12_wraps 31 = .ok (.iload_n 3, 1) := by decide +kernel
theorem dX12_wraps_32 : decode cX12_wraps 32 = .ok (.iastore, 1) := by decide +kernel
theorem dX12_wraps_33 : decode cX12_wraps 33 = .ok (.aload_n 0, 1) := by decide +kernel
theorem dX12_wraps_34 : decode cX12_wraps 34 = .ok (.getfield 35, 3) := by decide +kernel
theorem dX12_wraps_37 : decode cX12_wraps 37 = .ok (.bipush 14, 2) := by decide +kernel
theorem dX12_wraps_39 : decode cX12_wraps 39 = .ok (.iload_n 1, 1) := by decide +kernel
theorem dX12_wraps_40 : decode cX12_wraps 40 = .ok (.iadd, 1) := by decide +kernel
theorem dX12_wraps_41 : decode cX12_wraps 41 = .ok (.iconst 1, 1) := by decide +kernel
theorem dX12_wraps_42 : decode cX12_wraps 42 = .ok (.iastore, 1) := by decide +kernel
theorem dX12_wraps_43 : decode cX12_wraps 43 = .ok (.iload_n 2, 1) := by decide +kernel
theorem dX12_wraps_44 : decode cX12_wraps 44 = .ok (.ireturn, 1) := by decide +kernel
theorem w_X12_wraps_32 {l : Launch} {D : zDD} {b : Nat} (x1 x2 y1 y2 : Int32) (σ : zSg) (τ : zLm) {Q : Int32 → zSg → zLm → Prop} (h : vp_in y1 26 ∧ (vp_in (14 + x1) 26 ∧ Q x2 (st2 (st2 σ 133 y1.toNatClampNeg y2) 133 ((14 + x1).toNatClampNeg) 1) τ)) : AI l D b M_X12_wraps 3 G0 Q 32 [(0, .ref (b + 125)), (1, .int x1), (2, .int x2)] [.int y2, .int y1, .ref (b + 133)] G0 σ τ := by
  refine r_iast (by decide) k0_133 dX12_wraps_32 h.1 ?_
  replace h := h.2
  refine r_aload_n 0 dX12_wraps_33 rfl rfl ?_
  refine r_getR (j := 20) (by decide) (congrArg Prod.fst k0_125) c12_11 (by decide) rfl g0_125_20 tw_830 dX12_wraps_34 ?_
  refine r_bipush dX12_wraps_37 cb_14 ?_
  refine r_iload_n 1 dX12_wraps_39 rfl rfl ?_
  refine r_iadd dX12_wraps_40 ?_
  refine r_iconst dX12_wraps_41 ci_1 ?_
  refine r_iast (by decide) k0_133 dX12_wraps_42 h.1 ?_
  replace h := h.2
  refine r_iload_n 2 dX12_wraps_43 rfl rfl ?_
  exact r_iret rfl (Nat.le_refl _) (Nat.le_refl _) dX12_wraps_44 ⟨rfl, rfl, rfl, _, rfl, h⟩

theorem w_X12_wraps_0 {l : Launch} {D : zDD} {b : Nat} (p1 : Int32) (σ : zSg) (τ : zLm) {Q : Int32 → zSg → zLm → Prop} (h : SI l D b M_X12_sheetsFor 2 G0 [.ref (b + 125), .int p1] σ τ (fun r1 σ1 τ1 => (((σ1 133 1) + r1) ≤ 999999 → AI l D b M_X12_wraps 3 G0 Q 32 [(0, .ref (b + 125)), (1, .int p1), (2, .int r1)] [.int ((σ1 133 1) + r1), .int 1, .ref (b + 133)] G0 σ1 τ1) ∧ (¬ ((σ1 133 1) + r1) ≤ 999999 → AI l D b M_X12_wraps 3 G0 Q 32 [(0, .ref (b + 125)), (1, .int p1), (2, .int r1)] [.int 999999, .int 1, .ref (b + 133)] G0 σ1 τ1))) : AI l D b M_X12_wraps 3 G0 Q 0 [(0, .ref (b + 125)), (1, .int p1)] [] G0 σ τ := by
  refine r_aload_n 0 dX12_wraps_0 rfl rfl ?_
  refine r_iload_n 1 dX12_wraps_1 rfl rfl ?_
  refine rc_VI (h' := 2) [.int p1] okv_X12_sheetsFor (by decide) (congrArg Prod.fst k0_125) tw_1087 rfl rfl (Nat.le_of_ble_eq_true rfl) dX12_wraps_2 (by decide) h (fun r1 σ1 τ1 h => ?_)
  refine r_istore_n dX12_wraps_5 rfl (by decide) rfl ?_
  refine r_aload_n 1 dX12_wraps_6 rfl rfl ?_
  refine r_getR (j := 20) (by decide) (congrArg Prod.fst k0_125) c12_11 (by decide) rfl g0_125_20 tw_830 dX12_wraps_7 ?_
  refine r_iconst dX12_wraps_10 ci_1 ?_
  refine r_iald (by decide) k0_133 dX12_wraps_11 (show ¬ (_ ∨ _) by decide) ?_
  refine r_iload_n 0 dX12_wraps_12 rfl rfl ?_
  refine r_iadd dX12_wraps_13 ?_
  refine r_istore_n dX12_wraps_14 rfl (by decide) rfl ?_
  refine r_aload_n 2 dX12_wraps_15 rfl rfl ?_
  refine r_getR (j := 20) (by decide) (congrArg Prod.fst k0_125) c12_11 (by decide) rfl g0_125_20 tw_830 dX12_wraps_16 ?_
  refine r_iconst dX12_wraps_19 ci_1 ?_
  refine r_iload_n 0 dX12_wraps_20 rfl rfl ?_
  refine r_ldc (v := 999999) rfl tw_1099 rfl dX12_wraps_21 ?_
  refine r_icmp_le (tgt := 31) dX12_wraps_23 (by decide) (fun c2 => ?_) (fun c2 => ?_)
  · replace h := h.1 c2
    refine r_iload_n 0 dX12_wraps_31 rfl rfl ?_
    refine r_lv [2, 3, 1] rfl ?_
    exact h
  · replace h := h.2 c2
    refine r_ldc (v := 999999) rfl tw_1099 rfl dX12_wraps_26 ?_
    refine r_goto (tgt := 32) dX12_wraps_28 (by decide) ?_
    refine r_lv [2, 3, 1] rfl ?_
    exact h
theorem s_X12_wraps {l : Launch} {D : zDD} {b : Nat} (p1 : Int32) (σ : zSg) (τ : zLm) {Q : Int32 → zSg → zLm → Prop} (h : SI l D b M_X12_sheetsFor 2 G0 [.ref (b + 125), .int p1] σ τ (fun r1 σ1 τ1 => (((σ1 133 1) + r1) ≤ 999999 → AI l D b M_X12_wraps 3 G0 Q 32 [(0, .ref (b + 125)), (1, .int p1), (2, .int r1)] [.int ((σ1 133 1) + r1), .int 1, .ref (b + 133)] G0 σ1 τ1) ∧ (¬ ((σ1 133 1) + r1) ≤ 999999 → AI l D b M_X12_wraps 3 G0 Q 32 [(0, .ref (b + 125)), (1, .int p1), (2, .int r1)] [.int 999999, .int 1, .ref (b + 133)] G0 σ1 τ1))) : SI l D b M_X12_wraps 3 G0 [.ref (b + 125), .int p1] σ τ Q := zS.of (by decide) (Nat.le_of_ble_eq_true rfl) rfl (w_X12_wraps_0 p1 σ τ h)

theorem dX12_hour_0 : decode cX12_hour 0 = .ok (.aload_n 0, 1) := by decide +kernel
theorem dX12_hour_1 : decode cX12_hour 1 = .ok (.iload_n 1, 1) := by decide +kernel
theorem dX12_hour_2 : decode cX12_hour 2 = .ok (.invokevirtual 252, 3) := by decide +kernel
theorem dX12_hour_5 : decode cX12_hour 5 = .ok (.istore_n 2, 1) := by decide +kernel
theorem dX12_hour_6 : decode cX12_hour 6 = .ok (.iload_n 2, 1) := by decide +kernel
theorem dX12_hour_7 : decode cX12_hour 7 = .ok (.ifCond .ge 5, 3) := by decide +kernel
theorem dX12_hour_10 : decode cX12_hour 10 = .ok (.iload_n 2, 1) := by decide +kernel
theorem dX12_hour_11 : decode cX12_hour 11 = .ok (.ireturn, 1) := by decide +kernel
theorem dX12_hour_12 : decode cX12_hour 12 = .ok (.aload_n 0, 1) := by decide +kernel
theorem dX12_hour_13 : decode cX12_hour 13 = .ok (.invokevirtual 234, 3) := by decide +kernel
theorem dX12_hour_16 : decode cX12_hour 16 = .ok (.iconst 0, 1) := by decide +kernel
theorem dX12_hour_17 : decode cX12_hour 17 = .ok (.istore_n 3, 1) := by decide +kernel
theorem dX12_hour_18 : decode cX12_hour 18 = .ok (.iload_n 3, 1) := by decide +kernel
theorem dX12_hour_19 : decode cX12_hour 19 = .ok (.iload_n 1, 1) := by decide +kernel
theorem dX12_hour_20 : decode cX12_hour 20 = .ok (.if_icmp .ge 13, 3) := by decide +kernel
theorem dX12_hour_23 : decode cX12_hour 23 = .ok (.aload_n 0, 1) := by decide +kernel
theorem dX12_hour_24 : decode cX12_hour 24 = .ok (.invokevirtual 255, 3) := by decide +kernel
theorem dX12_hour_27 : decode cX12_hour 27 = .ok (.iinc 3 1, 3) := by decide +kernel
theorem dX12_hour_30 : decode cX12_hour 30 = .ok (.goto (-12), 3) := by decide +kernel
theorem dX12_hour_33 : decode cX12_hour 33 = .ok (.aload_n 0, 1) := by decide +kernel
theorem dX12_hour_34 : decode cX12_hour 34 = .ok (.invokevirtual 174, 3) := by decide +kernel
theorem dX12_hour_37 : decode cX12_hour 37 = .ok (.ireturn, 1) := by decide +kernel
theorem w_X12_hour_18 {l : Launch} {D : zDD} {b : Nat} (x1 x3 : Int32) (σ : zSg) (τ : zLm) {Q : Int32 → zSg → zLm → Prop} (h : (x1 ≤ x3 → SI l D b M_X12_good 2 G0 [.ref (b + 125)] σ τ (fun r2 σ2 τ2 => Q r2 σ2 τ2)) ∧ (¬ x1 ≤ x3 → SV l D b M_X12_passes 2 G0 [.ref (b + 125)] σ τ (fun σ3 τ3 => AI l D b M_X12_hour 3 G0 Q 18 [(0, .ref (b + 125)), (1, .int x1), (3, .int (x3 + 1))] [] G0 σ3 τ3))) : AI l D b M_X12_hour 3 G0 Q 18 [(0, .ref (b + 125)), (1, .int x1), (3, .int x3)] [] G0 σ τ := by
  refine r_iload_n 2 dX12_hour_18 rfl rfl ?_
  refine r_iload_n 1 dX12_hour_19 rfl rfl ?_
  refine r_icmp_ge (tgt := 33) dX12_hour_20 (by decide) (fun c1 => ?_) (fun c1 => ?_)
  · replace h := h.1 c1
    refine r_aload_n 0 dX12_hour_33 rfl rfl ?_
    refine rc_VI (h' := 2) [] okv_X12_good (by decide) (congrArg Prod.fst k0_125) tw_985 rfl rfl (Nat.le_of_ble_eq_true rfl) dX12_hour_34 (by decide) h (fun r2 σ2 τ2 h => ?_)
    exact r_iret rfl (Nat.le_refl _) (Nat.le_refl _) dX12_hour_37 ⟨rfl, rfl, rfl, _, rfl, h⟩
  · replace h := h.2 c1
    refine r_aload_n 0 dX12_hour_23 rfl rfl ?_
    refine rc_VV (h' := 2) [] okv_X12_passes (by decide) (congrArg Prod.fst k0_125) tw_1124 rfl rfl (Nat.le_of_ble_eq_true rfl) dX12_hour_24 (by decide) h (fun σ3 τ3 h => ?_)
    refine r_inc 2 dX12_hour_27 rfl ci_1 (by decide) rfl ?_
    refine r_goto (tgt := 18) dX12_hour_30 (by decide) ?_
    refine r_lv [1, 2, 0] rfl ?_
    exact h

theorem w_X12_hour_0 {l : Launch} {D : zDD} {b : Nat} (p1 : Int32) (σ : zSg) (τ : zLm) {Q : Int32 → zSg → zLm → Prop} (h : SI l D b M_X12_needHours 1 G0 [.ref (b + 125), .int p1] σ τ (fun r1 σ1 τ1 => (0 ≤ r1 → SV l D b M_X12_remember 0 G0 [.ref (b + 125)] σ1 τ1 (fun σ3 τ3 => AI l D b M_X12_hour 3 G0 Q 18 [(0, .ref (b + 125)), (1, .int p1), (3, .int 0)] [] G0 σ3 τ3)) ∧ (¬ 0 ≤ r1 → Q r1 σ1 τ1))) : AI l D b M_X12_hour 3 G0 Q 0 [(0, .ref (b + 125)), (1, .int p1)] [] G0 σ τ := by
  refine r_aload_n 0 dX12_hour_0 rfl rfl ?_
  refine r_iload_n 1 dX12_hour_1 rfl rfl ?_
  refine rc_VI (h' := 1) [.int p1] okv_X12_needHours (by decide) (congrArg Prod.fst k0_125) tw_1116 rfl rfl (Nat.le_of_ble_eq_true rfl) dX12_hour_2 (by decide) h (fun r1 σ1 τ1 h => ?_)
  refine r_istore_n dX12_hour_5 rfl (by decide) rfl ?_
  refine r_iload_n 0 dX12_hour_6 rfl rfl ?_
  refine r_if_ge (tgt := 12) dX12_hour_7 (by decide) (fun c2 => ?_) (fun c2 => ?_)
  · replace h := h.1 c2
    refine r_aload_n 1 dX12_hour_12 rfl rfl ?_
    refine rc_VV (h' := 0) [] okv_X12_remember (by decide) (congrArg Prod.fst k0_125) tw_1079 rfl rfl (Nat.le_of_ble_eq_true rfl) dX12_hour_13 (by decide) h (fun σ3 τ3 h => ?_)
    refine r_iconst dX12_hour_16 ci_0 ?_
    refine r_istore_n dX12_hour_17 rfl (by decide) rfl ?_
    refine r_lv [2, 3, 0] rfl ?_
    exact h
  · replace h := h.2 c2
    refine r_iload_n 0 dX12_hour_10 rfl rfl ?_
    exact r_iret rfl (Nat.le_refl _) (Nat.le_refl _) dX12_hour_11 ⟨rfl, rfl, rfl, _, rfl, h⟩
theorem s_X12_hour {l : Launch} {D : zDD} {b : Nat} (p1 : Int32) (σ : zSg) (τ : zLm) {Q : Int32 → zSg → zLm → Prop} (h : SI l D b M_X12_needHours 1 G0 [.ref (b + 125), .int p1] σ τ (fun r1 σ1 τ1 => (0 ≤ r1 → SV l D b M_X12_remember 0 G0 [.ref (b + 125)] σ1 τ1 (fun σ3 τ3 => AI l D b M_X12_hour 3 G0 Q 18 [(0, .ref (b + 125)), (1, .int p1), (3, .int 0)] [] G0 σ3 τ3)) ∧ (¬ 0 ≤ r1 → Q r1 σ1 τ1))) : SI l D b M_X12_hour 3 G0 [.ref (b + 125), .int p1] σ τ Q := zS.of (by decide) (Nat.le_of_ble_eq_true rfl) rfl (w_X12_hour_0 p1 σ τ h)

theorem dX12_canBeBorne_0 : decode cX12_canBeBorne 0 = .ok (.aload_n 0, 1) := by decide +kernel
theorem dX12_canBeBorne_1 : decode cX12_canBeBorne 1 = .ok (.iload_n 1, 1) := by decide +kernel
theorem dX12_canBeBorne_2 : decode cX12_canBeBorne 2 = .ok (.invokevirtual 156, 3) := by decide +kernel
theorem dX12_canBeBorne_5 : decode cX12_canBeBorne 5 = .ok (.ifCond .eq 15, 3) := by decide +kernel
theorem dX12_canBeBorne_8 : decode cX12_canBeBorne 8 = .ok (.aload_n 0, 1) := by decide +kernel
theorem dX12_canBeBorne_9 : decode cX12_canBeBorne 9 = .ok (.iload_n 1, 1) := by decide +kernel
theorem dX12_canBeBorne_10 : decode cX12_canBeBorne 10 = .ok (.invokevirtual 217, 3) := by decide +kernel
theorem dX12_canBeBorne_13 : decode cX12_canBeBorne 13 = .ok (.ifCond .eq 7, 3) := by decide +kernel
theorem dX12_canBeBorne_16 : decode cX12_canBeBorne 16 = .ok (.iconst 1, 1) := by decide +kernel
theorem dX12_canBeBorne_17 : decode cX12_canBeBorne 17 = .ok (.goto 4, 3) := by decide +kernel
theorem dX12_canBeBorne_20 : decode cX12_canBeBorne 20 = .ok (.iconst 0, 1) := by decide +kernel
theorem dX12_canBeBorne_21 : decode cX12_canBeBorne 21 = .ok (.ireturn, 1) := by decide +kernel
theorem w_X12_canBeBorne_0 {l : Launch} {D : zDD} {b : Nat} (p1 : Int32) (σ : zSg) (τ : zLm) {Q : Int32 → zSg → zLm → Prop} (h : SI l D b M_X12_isGood 1 G0 [.ref (b + 125), .int p1] σ τ (fun r1 σ1 τ1 => (r1 = 0 → Q 0 σ1 τ1) ∧ (¬ r1 = 0 → (SI l D b M_X12_isBearable 2 G0 [.ref (b + 125), .int p1] σ1 τ1 (fun r3 σ3 τ3 => (r3 = 0 → Q 0 σ3 τ3) ∧ (¬ r3 = 0 → Q 1 σ3 τ3)))))) : AI l D b M_X12_canBeBorne 3 G0 Q 0 [(0, .ref (b + 125)), (1, .int p1)] [] G0 σ τ := by
  refine r_aload_n 0 dX12_canBeBorne_0 rfl rfl ?_
  refine r_iload_n 1 dX12_canBeBorne_1 rfl rfl ?_
  refine rc_VI (h' := 1) [.int p1] okv_X12_isGood (by decide) (congrArg Prod.fst k0_125) tw_989 rfl rfl (Nat.le_of_ble_eq_true rfl) dX12_canBeBorne_2 (by decide) h (fun r1 σ1 τ1 h => ?_)
  refine r_if_eq (tgt := 20) dX12_canBeBorne_5 (by decide) (fun c2 => ?_) (fun c2 => ?_)
  · replace h := h.1 c2
    refine r_iconst dX12_canBeBorne_20 ci_0 ?_
    exact r_zret rfl (Nat.le_refl _) (Nat.le_refl _) dX12_canBeBorne_21 (Or.inl rfl) ⟨rfl, rfl, rfl, _, rfl, h⟩
  · replace h := h.2 c2
    refine r_aload_n 0 dX12_canBeBorne_8 rfl rfl ?_
    refine r_iload_n 1 dX12_canBeBorne_9 rfl rfl ?_
    refine rc_VI (h' := 2) [.int p1] okv_X12_isBearable (by decide) (congrArg Prod.fst k0_125) tw_1058 rfl rfl (Nat.le_of_ble_eq_true rfl) dX12_canBeBorne_10 (by decide) h (fun r3 σ3 τ3 h => ?_)
    refine r_if_eq (tgt := 20) dX12_canBeBorne_13 (by decide) (fun c4 => ?_) (fun c4 => ?_)
    · replace h := h.1 c4
      refine r_iconst dX12_canBeBorne_20 ci_0 ?_
      exact r_zret rfl (Nat.le_refl _) (Nat.le_refl _) dX12_canBeBorne_21 (Or.inl rfl) ⟨rfl, rfl, rfl, _, rfl, h⟩
    · replace h := h.2 c4
      refine r_iconst dX12_canBeBorne_16 ci_1 ?_
      refine r_goto (tgt := 21) dX12_canBeBorne_17 (by decide) ?_
      exact r_zret rfl (Nat.le_refl _) (Nat.le_refl _) dX12_canBeBorne_21 (Or.inr rfl) ⟨rfl, rfl, rfl, _, rfl, h⟩
theorem s_X12_canBeBorne {l : Launch} {D : zDD} {b : Nat} (p1 : Int32) (σ : zSg) (τ : zLm) {Q : Int32 → zSg → zLm → Prop} (h : SI l D b M_X12_isGood 1 G0 [.ref (b + 125), .int p1] σ τ (fun r1 σ1 τ1 => (r1 = 0 → Q 0 σ1 τ1) ∧ (¬ r1 = 0 → (SI l D b M_X12_isBearable 2 G0 [.ref (b + 125), .int p1] σ1 τ1 (fun r3 σ3 τ3 => (r3 = 0 → Q 0 σ3 τ3) ∧ (¬ r3 = 0 → Q 1 σ3 τ3)))))) : SI l D b M_X12_canBeBorne 3 G0 [.ref (b + 125), .int p1] σ τ Q := zS.of (by decide) (Nat.le_of_ble_eq_true rfl) rfl (w_X12_canBeBorne_0 p1 σ τ h)

theorem dX12_toWrap_0 : decode cX12_toWrap 0 = .ok (.aload_n 0, 1) := by decide +kernel
theorem dX12_toWrap_1 : decode cX12_toWrap 1 = .ok (.iload_n 1, 1) := by decide +kernel
theorem dX12_toWrap_2 : decode cX12_toWrap 2 = .ok (.invokevirtual 203, 3) := by decide +kernel
theorem dX12_toWrap_5 : decode cX12_toWrap 5 = .ok (.ifCond .ne 6, 3) := by decide +kernel
theorem dX12_toWrap_8 : decode cX12_toWrap 8 = .ok (.ldc 206, 2) := by decide +kernel
theorem dX12_toWrap_10 : decode cX12_toWrap 10 = .ok (.ireturn, 1) := by decide +kernel
theorem dX12_toWrap_11 : decode cX12_toWrap 11 = .ok (.iload_n 2, 1) := by decide +kernel
theorem dX12_toWrap_12 : decode cX12_toWrap 12 = .ok (.iconst 0, 1) := by decide +kernel
theorem dX12_toWrap_13 : decode cX12_toWrap 13 = .ok (.iconst 2, 1) := by decide +kernel
theorem dX12_toWrap_14 : decode cX12_toWrap 14 = .ok (.invokestatic 70, 3) := by decide +kernel
theorem dX12_toWrap_17 : decode cX12_toWrap 17 = .ok (.ifCond .ne 6, 3) := by decide +kernel
theorem dX12_toWrap_20 : decode cX12_toWrap 20 = .ok (.ldc 74, 2) := by decide +kernel
theorem dX12_toWrap_22 : decode cX12_toWrap 22 = .ok (.ireturn, 1) := by decide +kernel
theorem dX12_toWrap_23 : decode cX12_toWrap 23 = .ok (.aload_n 0, 1) := by decide +kernel
theorem dX12_toWrap_24 : decode cX12_toWrap 24 = .ok (.getfield 35, 3) := by decide +kernel
theorem dX12_toWrap_27 : decode cX12_toWrap 27 = .ok (.bipush 8, 2) := by decide +kernel
theorem dX12_toWrap_29 : decode cX12_toWrap 29 = .ok (.iload_n 1, 1) := by decide +kernel
theorem dX12_toWrap_30 : decode cX12_toWrap 30 = .ok (.iadd, 1) := by decide +kernel
theorem dX12_toWrap_31 : decode cX12_toWrap 31 = .ok (.iaload, 1) := by decide +kernel
theorem dX12_toWrap_32 : decode cX12_toWrap 32 = .ok (.istore_n 3, 1) := by decide +kernel
theorem dX12_toWrap_33 : decode cX12_toWrap 33 = .ok (.iload_n 3, 1) := by decide +kernel
theorem dX12_toWrap_34 : decode cX12_toWrap 34 = .ok (.ifCond .ne 7, 3) := by decide +kernel
theorem dX12_toWrap_37 : decode cX12_toWrap 37 = .ok (.iconst (-1), 1) := by decide +kernel
theorem dX12_toWrap_38 : decode cX12_toWrap 38 = .ok (.goto 30, 3) := by decide +kernel
theorem dX12_toWrap_41 : decode cX12_toWrap 41 = .ok (.iload_n 2, 1) := by decide +kernel
theorem dX12_toWrap_42 : decode cX12_toWrap 42 = .ok (.iconst 2, 1) := by decide +kernel
theorem dX12_toWrap_43 : decode cX12_toWrap 43 = .ok (.if_icmp .ne 10, 3) := by decide +kernel
theorem dX12_toWrap_46 : decode cX12_toWrap 46 = .ok (.iload_n 3, 1) := by decide +kernel
theorem dX12_toWrap_47 : decode cX12_toWrap 47 = .ok (.invokestatic 294, 3) := by decide +kernel
theorem dX12_toWrap_50 : decode cX12_toWrap 50 = .ok (.goto 18, 3) := by decide +kernel
theorem dX12_toWrap_53 : decode cX12_toWrap 53 = .ok (.aload_n 0, 1) := by decide +kernel
theorem dX12_toWrap_54 : decode cX12_toWrap 54 = .ok (.iload_n 3, 1) := by decide +kernel
theorem dX12_toWrap_55 : decode cX12_toWrap 55 = .ok (.iload_n 2, 1) := by decide +kernel
theorem dX12_toWrap_56 : decode cX12_toWrap 56 = .ok (.iconst 1, 1) := by decide +kernel
theorem dX12_toWrap_57 : decode cX12_toWrap 57 = .ok (.if_icmp .ne 7, 3) := by decide +kernel
theorem dX12_toWrap_60 : decode cX12_toWrap 60 = .ok (.iconst 1, 1) := by decide +kernel
theorem dX12_toWrap_61 : decode cX12_toWrap 61 = .ok (.goto 4, 3) := by decide +kernel
theorem dX12_toWrap_64 : decode cX12_toWrap 64 = .ok (.iconst 0, 1) := by decide +kernel
theorem dX12_toWrap_65 : decode cX12_toWrap 65 = .ok (.invokevirtual 226, 3) := by decide +kernel
theorem dX12_toWrap_68 : decode cX12_toWrap 68 = .ok (.ireturn, 1) := by decide +kernel
theorem w_X12_toWrap_65 {l : Launch} {D : zDD} {b : Nat} (y1 y2 : Int32) (σ : zSg) (τ : zLm) {Q : Int32 → zSg → zLm → Prop} (h : SI l D b M_X12_fewestSheets 1 G0 [.ref (b + 125), .int y1, .int y2] σ τ (fun r1 σ1 τ1 => Q r1 σ1 τ1)) : AI l D b M_X12_toWrap 3 G0 Q 65 [] [.int y2, .int y1, .ref (b + 125)] G0 σ τ := by
  refine rc_VI (h' := 1) [.int y1, .int y2] okv_X12_fewestSheets (by decide) (congrArg Prod.fst k0_125) tw_1091 rfl rfl (Nat.le_of_ble_eq_true rfl) dX12_toWrap_65 (by decide) h (fun r1 σ1 τ1 h => ?_)
  exact r_iret rfl (Nat.le_refl _) (Nat.le_refl _) dX12_toWrap_68 ⟨rfl, rfl, rfl, _, rfl, h⟩

theorem w_X12_toWrap_0 {l : Launch} {D : zDD} {b : Nat} (p1 p2 : Int32) (σ : zSg) (τ : zLm) {Q : Int32 → zSg → zLm → Prop} (h : SI l D b M_X12_isTrouble 1 G0 [.ref (b + 125), .int p1] σ τ (fun r1 σ1 τ1 => (¬ r1 = 0 → (SI l D b M_X12_in 0 G0 [.int p2, .int 0, .int 2] σ1 τ1 (fun r3 σ3 τ3 => (¬ r3 = 0 → (vp_in (8 + p1) 26 ∧ (∀ v5 : Int32, v5 = σ3 133 ((8 + p1).toNatClampNeg) → (¬ v5 = 0 → ((¬ p2 = 2 → ((¬ p2 = 1 → AI l D b M_X12_toWrap 3 G0 Q 65 [] [.int 0, .int v5, .ref (b + 125)] G0 σ3 τ3) ∧ (p2 = 1 → AI l D b M_X12_toWrap 3 G0 Q 65 [] [.int 1, .int v5, .ref (b + 125)] G0 σ3 τ3))) ∧ (p2 = 2 → SI l D b M_X12_sideOf 2 G0 [.int v5] σ3 τ3 (fun r9 σ9 τ9 => Q r9 σ9 τ9)))) ∧ (v5 = 0 → Q (-1) σ3 τ3)))) ∧ (r3 = 0 → Q (-1000000002) σ3 τ3)))) ∧ (r1 = 0 → Q (-1000000001) σ1 τ1))) : AI l D b M_X12_toWrap 3 G0 Q 0 [(0, .ref (b + 125)), (1, .int p1), (2, .int p2)] [] G0 σ τ := by
  refine r_aload_n 0 dX12_toWrap_0 rfl rfl ?_
  refine r_iload_n 1 dX12_toWrap_1 rfl rfl ?_
  refine rc_VI (h' := 1) [.int p1] okv_X12_isTrouble (by decide) (congrArg Prod.fst k0_125) tw_1031 rfl rfl (Nat.le_of_ble_eq_true rfl) dX12_toWrap_2 (by decide) h (fun r1 σ1 τ1 h => ?_)
  refine r_if_ne (tgt := 11) dX12_toWrap_5 (by decide) (fun c2 => ?_) (fun c2 => ?_)
  · replace h := h.1 c2
    refine r_iload_n 2 dX12_toWrap_11 rfl rfl ?_
    refine r_iconst dX12_toWrap_12 ci_0 ?_
    refine r_iconst dX12_toWrap_13 ci_2 ?_
    refine rc_SI (h' := 0) [.int p2, .int 0, .int 2] oks_X12_in tw_924 rfl rfl (Nat.le_of_ble_eq_true rfl) dX12_toWrap_14 (by decide) h (fun r3 σ3 τ3 h => ?_)
    refine r_if_ne (tgt := 23) dX12_toWrap_17 (by decide) (fun c4 => ?_) (fun c4 => ?_)
    · replace h := h.1 c4
      refine r_aload_n 0 dX12_toWrap_23 rfl rfl ?_
      refine r_getR (j := 20) (by decide) (congrArg Prod.fst k0_125) c12_11 (by decide) rfl g0_125_20 tw_830 dX12_toWrap_24 ?_
      refine r_bipush dX12_toWrap_27 cb_8 ?_
      refine r_iload_n 1 dX12_toWrap_29 rfl rfl ?_
      refine r_iadd dX12_toWrap_30 ?_
      refine r_iald (by decide) k0_133 dX12_toWrap_31 h.1 ?_
      replace h := h.2
      refine r_nmI (fun v5 ev5 => ?_)
      replace h := h v5 ev5
      refine r_istore_n dX12_toWrap_32 rfl (by decide) rfl ?_
      refine r_iload_n 0 dX12_toWrap_33 rfl rfl ?_
      refine r_if_ne (tgt := 41) dX12_toWrap_34 (by decide) (fun c6 => ?_) (fun c6 => ?_)
      · replace h := h.1 c6
        refine r_iload_n 3 dX12_toWrap_41 rfl rfl ?_
        refine r_iconst dX12_toWrap_42 ci_2 ?_
        refine r_icmp_ne (tgt := 53) dX12_toWrap_43 (by decide) (fun c7 => ?_) (fun c7 => ?_)
        · replace h := h.1 c7
          refine r_aload_n 1 dX12_toWrap_53 rfl rfl ?_
          refine r_iload_n 0 dX12_toWrap_54 rfl rfl ?_
          refine r_iload_n 3 dX12_toWrap_55 rfl rfl ?_
          refine r_iconst dX12_toWrap_56 ci_1 ?_
          refine r_icmp_ne (tgt := 64) dX12_toWrap_57 (by decide) (fun c8 => ?_) (fun c8 => ?_)
          · replace h := h.1 c8
            refine r_iconst dX12_toWrap_64 ci_0 ?_
            refine r_lv [] rfl ?_
            exact h
          · replace h := h.2 c8
            refine r_iconst dX12_toWrap_60 ci_1 ?_
            refine r_goto (tgt := 65) dX12_toWrap_61 (by decide) ?_
            refine r_lv [] rfl ?_
            exact h
        · replace h := h.2 c7
          refine r_iload_n 0 dX12_toWrap_46 rfl rfl ?_
          refine rc_SI (h' := 2) [.int v5] oks_X12_sideOf tw_1183 rfl rfl (Nat.le_of_ble_eq_true rfl) dX12_toWrap_47 (by decide) h (fun r9 σ9 τ9 h => ?_)
          refine r_goto (tgt := 68) dX12_toWrap_50 (by decide) ?_
          exact r_iret rfl (Nat.le_refl _) (Nat.le_refl _) dX12_toWrap_68 ⟨rfl, rfl, rfl, _, rfl, h⟩
      · replace h := h.2 c6
        refine r_iconst dX12_toWrap_37 ci_m1 ?_
        refine r_goto (tgt := 68) dX12_toWrap_38 (by decide) ?_
        exact r_iret rfl (Nat.le_refl _) (Nat.le_refl _) dX12_toWrap_68 ⟨rfl, rfl, rfl, _, rfl, h⟩
    · replace h := h.2 c4
      refine r_ldc (v := (-1000000002)) rfl tw_927 rfl dX12_toWrap_20 ?_
      exact r_iret rfl (Nat.le_refl _) (Nat.le_refl _) dX12_toWrap_22 ⟨rfl, rfl, rfl, _, rfl, h⟩
  · replace h := h.2 c2
    refine r_ldc (v := (-1000000001)) rfl tw_1035 rfl dX12_toWrap_8 ?_
    exact r_iret rfl (Nat.le_refl _) (Nat.le_refl _) dX12_toWrap_10 ⟨rfl, rfl, rfl, _, rfl, h⟩
theorem s_X12_toWrap {l : Launch} {D : zDD} {b : Nat} (p1 p2 : Int32) (σ : zSg) (τ : zLm) {Q : Int32 → zSg → zLm → Prop} (h : SI l D b M_X12_isTrouble 1 G0 [.ref (b + 125), .int p1] σ τ (fun r1 σ1 τ1 => (¬ r1 = 0 → (SI l D b M_X12_in 0 G0 [.int p2, .int 0, .int 2] σ1 τ1 (fun r3 σ3 τ3 => (¬ r3 = 0 → (vp_in (8 + p1) 26 ∧ (∀ v5 : Int32, v5 = σ3 133 ((8 + p1).toNatClampNeg) → (¬ v5 = 0 → ((¬ p2 = 2 → ((¬ p2 = 1 → AI l D b M_X12_toWrap 3 G0 Q 65 [] [.int 0, .int v5, .ref (b + 125)] G0 σ3 τ3) ∧ (p2 = 1 → AI l D b M_X12_toWrap 3 G0 Q 65 [] [.int 1, .int v5, .ref (b + 125)] G0 σ3 τ3))) ∧ (p2 = 2 → SI l D b M_X12_sideOf 2 G0 [.int v5] σ3 τ3 (fun r9 σ9 τ9 => Q r9 σ9 τ9)))) ∧ (v5 = 0 → Q (-1) σ3 τ3)))) ∧ (r3 = 0 → Q (-1000000002) σ3 τ3)))) ∧ (r1 = 0 → Q (-1000000001) σ1 τ1))) : SI l D b M_X12_toWrap 3 G0 [.ref (b + 125), .int p1, .int p2] σ τ Q := zS.of (by decide) (Nat.le_of_ble_eq_true rfl) rfl (w_X12_toWrap_0 p1 p2 σ τ h)

theorem dX12_soft_0 : decode cX12_soft 0 = .ok (.aload_n 0, 1) := by decide +kernel
theorem dX12_soft_1 : decode cX12_soft 1 = .ok (.iload_n 1, 1) := by decide +kernel
theorem dX12_soft_2 : decode cX12_soft 2 = .ok (.invokevirtual 203, 3) := by decide +kernel
theorem dX12_soft_5 : decode cX12_soft 5 = .ok (.ifCond .ne 8, 3) := by decide +kernel
theorem dX12_soft_8 : decode cX12_soft 8 = .ok (.ldc 206, 2) := by decide +kernel
theorem dX12_soft_10 : decode cX12_soft 10 = .ok (.goto 25, 3) := by decide +kernel
theorem dX12_soft_13 : decode cX12_soft 13 = .ok (.iload_n 2, 1) := by decide +kernel
theorem dX12_soft_14 : decode cX12_soft 14 = .ok (.iconst 0, 1) := by decide +kernel
theorem dX12_soft_15 : decode cX12_soft 15 = .ok (.sipush 500, 3) := by decide +kernel
theorem dX12_soft_18 : decode cX12_soft 18 = .ok (.invokestatic 70, 3) := by decide +kernel
theorem dX12_soft_21 : decode cX12_soft 21 = .ok (.ifCond .ne 8, 3) := by decide +kernel
theorem dX12_soft_24 : decode cX12_soft 24 = .ok (.ldc 74, 2) := by decide +kernel
theorem dX12_soft_26 : decode cX12_soft 26 = .ok (.goto 9, 3) := by decide +kernel
theorem dX12_soft_29 : decode cX12_soft 29 = .ok (.aload_n 0, 1) := by decide +kernel
theorem dX12_soft_30 : decode cX12_soft 30 = .ok (.iload_n 1, 1) := by decide +kernel
theorem dX12_soft_31 : decode cX12_soft 31 = .ok (.iload_n 2, 1) := by decide +kernel
theorem dX12_soft_32 : decode cX12_soft 32 = .ok (.invokevirtual 297, 3) := by decide +kernel
theorem dX12_soft_35 : decode cX12_soft 35 = .ok (.ireturn, 1) := by decide +kernel
theorem w_X12_soft_0 {l : Launch} {D : zDD} {b : Nat} (p1 p2 : Int32) (σ : zSg) (τ : zLm) {Q : Int32 → zSg → zLm → Prop} (h : SI l D b M_X12_isTrouble 1 G0 [.ref (b + 125), .int p1] σ τ (fun r1 σ1 τ1 => (¬ r1 = 0 → (SI l D b M_X12_in 0 G0 [.int p2, .int 0, .int 500] σ1 τ1 (fun r3 σ3 τ3 => (¬ r3 = 0 → SI l D b M_X12_softBehind 2 G0 [.ref (b + 125), .int p1, .int p2] σ3 τ3 (fun r5 σ5 τ5 => Q r5 σ5 τ5)) ∧ (r3 = 0 → Q (-1000000002) σ3 τ3)))) ∧ (r1 = 0 → Q (-1000000001) σ1 τ1))) : AI l D b M_X12_soft 3 G0 Q 0 [(0, .ref (b + 125)), (1, .int p1), (2, .int p2)] [] G0 σ τ := by
  refine r_aload_n 0 dX12_soft_0 rfl rfl ?_
  refine r_iload_n 1 dX12_soft_1 rfl rfl ?_
  refine rc_VI (h' := 1) [.int p1] okv_X12_isTrouble (by decide) (congrArg Prod.fst k0_125) tw_1031 rfl rfl (Nat.le_of_ble_eq_true rfl) dX12_soft_2 (by decide) h (fun r1 σ1 τ1 h => ?_)
  refine r_if_ne (tgt := 13) dX12_soft_5 (by decide) (fun c2 => ?_) (fun c2 => ?_)
  · replace h := h.1 c2
    refine r_iload_n 2 dX12_soft_13 rfl rfl ?_
    refine r_iconst dX12_soft_14 ci_0 ?_
    refine r_sipush dX12_soft_15 cs_500 ?_
    refine rc_SI (h' := 0) [.int p2, .int 0, .int 500] oks_X12_in tw_924 rfl rfl (Nat.le_of_ble_eq_true rfl) dX12_soft_18 (by decide) h (fun r3 σ3 τ3 h => ?_)
    refine r_if_ne (tgt := 29) dX12_soft_21 (by decide) (fun c4 => ?_) (fun c4 => ?_)
    · replace h := h.1 c4
      refine r_aload_n 0 dX12_soft_29 rfl rfl ?_
      refine r_iload_n 1 dX12_soft_30 rfl rfl ?_
      refine r_iload_n 2 dX12_soft_31 rfl rfl ?_
      refine rc_VI (h' := 2) [.int p1, .int p2] okv_X12_softBehind (by decide) (congrArg Prod.fst k0_125) tw_1193 rfl rfl (Nat.le_of_ble_eq_true rfl) dX12_soft_32 (by decide) h (fun r5 σ5 τ5 h => ?_)
      exact r_iret rfl (Nat.le_refl _) (Nat.le_refl _) dX12_soft_35 ⟨rfl, rfl, rfl, _, rfl, h⟩
    · replace h := h.2 c4
      refine r_ldc (v := (-1000000002)) rfl tw_927 rfl dX12_soft_24 ?_
      refine r_goto (tgt := 35) dX12_soft_26 (by decide) ?_
      exact r_iret rfl (Nat.le_refl _) (Nat.le_refl _) dX12_soft_35 ⟨rfl, rfl, rfl, _, rfl, h⟩
  · replace h := h.2 c2
    refine r_ldc (v := (-1000000001)) rfl tw_1035 rfl dX12_soft_8 ?_
    refine r_goto (tgt := 35) dX12_soft_10 (by decide) ?_
    exact r_iret rfl (Nat.le_refl _) (Nat.le_refl _) dX12_soft_35 ⟨rfl, rfl, rfl, _, rfl, h⟩
theorem s_X12_soft {l : Launch} {D : zDD} {b : Nat} (p1 p2 : Int32) (σ : zSg) (τ : zLm) {Q : Int32 → zSg → zLm → Prop} (h : SI l D b M_X12_isTrouble 1 G0 [.ref (b + 125), .int p1] σ τ (fun r1 σ1 τ1 => (¬ r1 = 0 → (SI l D b M_X12_in 0 G0 [.int p2, .int 0, .int 500] σ1 τ1 (fun r3 σ3 τ3 => (¬ r3 = 0 → SI l D b M_X12_softBehind 2 G0 [.ref (b + 125), .int p1, .int p2] σ3 τ3 (fun r5 σ5 τ5 => Q r5 σ5 τ5)) ∧ (r3 = 0 → Q (-1000000002) σ3 τ3)))) ∧ (r1 = 0 → Q (-1000000001) σ1 τ1))) : SI l D b M_X12_soft 3 G0 [.ref (b + 125), .int p1, .int p2] σ τ Q := zS.of (by decide) (Nat.le_of_ble_eq_true rfl) rfl (w_X12_soft_0 p1 p2 σ τ h)

theorem dX12_when_0 : decode cX12_when 0 = .ok (.aload_n 0, 1) := by decide +kernel
theorem dX12_when_1 : decode cX12_when 1 = .ok (.iload_n 1, 1) := by decide +kernel
theorem dX12_when_2 : decode cX12_when 2 = .ok (.invokevirtual 203, 3) := by decide +kernel
theorem dX12_when_5 : decode cX12_when 5 = .ok (.ifCond .eq 12, 3) := by decide +kernel
theorem dX12_when_8 : decode cX12_when 8 = .ok (.aload_n 0, 1) := by decide +kernel
theorem dX12_when_9 : decode cX12_when 9 = .ok (.iload_n 1, 1) := by decide +kernel
theorem dX12_when_10 : decode cX12_when 10 = .ok (.iconst 0, 1) := by decide +kernel
theorem dX12_when_11 : decode cX12_when 11 = .ok (.invokevirtual 300, 3) := by decide +kernel
theorem dX12_when_14 : decode cX12_when 14 = .ok (.goto 5, 3) := by decide +kernel
theorem dX12_when_17 : decode cX12_when 17 = .ok (.ldc 206, 2) := by decide +kernel
theorem dX12_when_19 : decode cX12_when 19 = .ok (.ireturn, 1) := by decide +kernel
theorem w_X12_when_0 {l : Launch} {D : zDD} {b : Nat} (p1 : Int32) (σ : zSg) (τ : zLm) {Q : Int32 → zSg → zLm → Prop} (h : SI l D b M_X12_isTrouble 1 G0 [.ref (b + 125), .int p1] σ τ (fun r1 σ1 τ1 => (r1 = 0 → Q (-1000000001) σ1 τ1) ∧ (¬ r1 = 0 → SI l D b M_X12_softIn 2 G0 [.ref (b + 125), .int p1, .int 0] σ1 τ1 (fun r3 σ3 τ3 => Q r3 σ3 τ3)))) : AI l D b M_X12_when 3 G0 Q 0 [(0, .ref (b + 125)), (1, .int p1)] [] G0 σ τ := by
  refine r_aload_n 0 dX12_when_0 rfl rfl ?_
  refine r_iload_n 1 dX12_when_1 rfl rfl ?_
  refine rc_VI (h' := 1) [.int p1] okv_X12_isTrouble (by decide) (congrArg Prod.fst k0_125) tw_1031 rfl rfl (Nat.le_of_ble_eq_true rfl) dX12_when_2 (by decide) h (fun r1 σ1 τ1 h => ?_)
  refine r_if_eq (tgt := 17) dX12_when_5 (by decide) (fun c2 => ?_) (fun c2 => ?_)
  · replace h := h.1 c2
    refine r_ldc (v := (-1000000001)) rfl tw_1035 rfl dX12_when_17 ?_
    exact r_iret rfl (Nat.le_refl _) (Nat.le_refl _) dX12_when_19 ⟨rfl, rfl, rfl, _, rfl, h⟩
  · replace h := h.2 c2
    refine r_aload_n 0 dX12_when_8 rfl rfl ?_
    refine r_iload_n 1 dX12_when_9 rfl rfl ?_
    refine r_iconst dX12_when_10 ci_0 ?_
    refine rc_VI (h' := 2) [.int p1, .int 0] okv_X12_softIn (by decide) (congrArg Prod.fst k0_125) tw_1201 rfl rfl (Nat.le_of_ble_eq_true rfl) dX12_when_11 (by decide) h (fun r3 σ3 τ3 h => ?_)
    refine r_goto (tgt := 19) dX12_when_14 (by decide) ?_
    exact r_iret rfl (Nat.le_refl _) (Nat.le_refl _) dX12_when_19 ⟨rfl, rfl, rfl, _, rfl, h⟩
theorem s_X12_when {l : Launch} {D : zDD} {b : Nat} (p1 : Int32) (σ : zSg) (τ : zLm) {Q : Int32 → zSg → zLm → Prop} (h : SI l D b M_X12_isTrouble 1 G0 [.ref (b + 125), .int p1] σ τ (fun r1 σ1 τ1 => (r1 = 0 → Q (-1000000001) σ1 τ1) ∧ (¬ r1 = 0 → SI l D b M_X12_softIn 2 G0 [.ref (b + 125), .int p1, .int 0] σ1 τ1 (fun r3 σ3 τ3 => Q r3 σ3 τ3)))) : SI l D b M_X12_when 3 G0 [.ref (b + 125), .int p1] σ τ Q := zS.of (by decide) (Nat.le_of_ble_eq_true rfl) rfl (w_X12_when_0 p1 σ τ h)

theorem dX12_sumOf_0 : decode cX12_sumOf 0 = .ok (.iload_n 2, 1) := by decide +kernel
theorem dX12_sumOf_1 : decode cX12_sumOf 1 = .ok (.istore_n 3, 1) := by decide +kernel
theorem dX12_sumOf_2 : decode cX12_sumOf 2 = .ok (.iconst 0, 1) := by decide +kernel
theorem dX12_sumOf_3 : decode cX12_sumOf 3 = .ok (.istore 4, 2) := by decide +kernel
theorem dX12_sumOf_5 : decode cX12_sumOf 5 = .ok (.iconst 0, 1) := by decide +kernel
theorem dX12_sumOf_6 : decode cX12_sumOf 6 = .ok (.istore 5, 2) := by decide +kernel
theorem dX12_sumOf_8 : decode cX12_sumOf 8 = .ok (.iconst 1, 1) := by decide +kernel
theorem dX12_sumOf_9 : decode cX12_sumOf 9 = .ok (.istore 6, 2) := by decide +kernel
theorem dX12_sumOf_11 : decode cX12_sumOf 11 = .ok (.iconst 1, 1) := by decide +kernel
theorem dX12_sumOf_12 : decode cX12_sumOf 12 = .ok (.istore 7, 2) := by decide +kernel
theorem dX12_sumOf_14 : decode cX12_sumOf 14 = .ok (.iload 7, 2) := by decide +kernel
theorem dX12_sumOf_16 : decode cX12_sumOf 16 = .ok (.iload_n 2, 1) := by decide +kernel
theorem dX12_sumOf_17 : decode cX12_sumOf 17 = .ok (.invokestatic 162, 3) := by decide +kernel
theorem dX12_sumOf_20 : decode cX12_sumOf 20 = .ok (.if_icmp .ge 16, 3) := by decide +kernel
theorem dX12_sumOf_23 : decode cX12_sumOf 23 = .ok (.iload 6, 2) := by decide +kernel
theorem dX12_sumOf_25 : decode cX12_sumOf 25 = .ok (.bipush 10, 2) := by decide +kernel
theorem dX12_sumOf_27 : decode cX12_sumOf 27 = .ok (.imul, 1) := by decide +kernel
theorem dX12_sumOf_28 : decode cX12_sumOf 28 = .ok (.istore 6, 2) := by decide +kernel
theorem dX12_sumOf_30 : decode cX12_sumOf 30 = .ok (.iinc 7 1, 3) := by decide +kernel
theorem dX12_sumOf_33 : decode cX12_sumOf 33 = .ok (.goto (-19), 3) := by decide +kernel
theorem dX12_sumOf_36 : decode cX12_sumOf 36 = .ok (.iload_n 2, 1) := by decide +kernel
theorem dX12_sumOf_37 : decode cX12_sumOf 37 = .ok (.invokestatic 162, 3) := by decide +kernel
theorem dX12_sumOf_40 : decode cX12_sumOf 40 = .ok (.istore 7, 2) := by decide +kernel
theorem dX12_sumOf_42 : decode cX12_sumOf 42 = .ok (.iload 7, 2) := by decide +kernel
theorem dX12_sumOf_44 : decode cX12_sumOf 44 = .ok (.ifCond .le 84, 3) := by decide +kernel
theorem dX12_sumOf_47 : decode cX12_sumOf 47 = .ok (.iload_n 1, 1) := by decide +kernel
theorem dX12_sumOf_48 : decode cX12_sumOf 48 = .ok (.iload 6, 2) := by decide +kernel
theorem dX12_sumOf_50 : decode cX12_sumOf 50 = .ok (.idiv, 1) := by decide +kernel
theorem dX12_sumOf_51 : decode cX12_sumOf 51 = .ok (.bipush 10, 2) := by decide +kernel
theorem dX12_sumOf_53 : decode cX12_sumOf 53 = .ok (.irem, 1) := by decide +kernel
theorem dX12_sumOf_54 : decode cX12_sumOf 54 = .ok (.iconst 1, 1) := by decide +kernel
theorem dX12_sumOf_55 : decode cX12_sumOf 55 = .ok (.isub, 1) := by decide +kernel
theorem dX12_sumOf_56 : decode cX12_sumOf 56 = .ok (.istore 8, 2) := by decide +kernel
theorem dX12_sumOf_58 : decode cX12_sumOf 58 = .ok (.iload 6, 2) := by decide +kernel
theorem dX12_sumOf_60 : decode cX12_sumOf 60 = .ok (.bipush 10, 2) := by decide +kernel
theorem dX12_sumOf_62 : decode cX12_sumOf 62 = .ok (.idiv, 1) := by decide +kernel
theorem dX12_sumOf_63 : decode cX12_sumOf 63 = .ok (.istore 6, 2) := by decide +kernel
theorem dX12_sumOf_65 : decode cX12_sumOf 65 = .ok (.iload 8, 2) := by decide +kernel
theorem dX12_sumOf_67 : decode cX12_sumOf 67 = .ok (.ifCond .lt 12, 3) := by decide +kernel
theorem dX12_sumOf_70 : decode cX12_sumOf 70 = .ok (.iload_n 3, 1) := by decide +kernel
theorem dX12_sumOf_71 : decode cX12_sumOf 71 = .ok (.iload 8, 2) := by decide +kernel
theorem dX12_sumOf_73 : decode cX12_sumOf 73 = .ok (.invokestatic 193, 3) := by decide +kernel
theorem dX12_sumOf_76 : decode cX12_sumOf 76 = .ok (.ifCond .ne 5, 3) := by decide +kernel
theorem dX12_sumOf_79 : decode cX12_sumOf 79 = .ok (.iconst (-1), 1) := by decide +kernel
theorem dX12_sumOf_80 : decode cX12_sumOf 80 = .ok (.ireturn, 1) := by decide +kernel
theorem dX12_sumOf_81 : decode cX12_sumOf 81 = .ok (.iload_n 3, 1) := by decide +kernel
theorem dX12_sumOf_82 : decode cX12_sumOf 82 = .ok (.iconst 1, 1) := by decide +kernel
theorem dX12_sumOf_83 : decode cX12_sumOf 83 = .ok (.iload 8, 2) := by decide +kernel
theorem dX12_sumOf_85 : decode cX12_sumOf 85 = .ok (.ishl, 1) := by decide +kernel
theorem dX12_sumOf_86 : decode cX12_sumOf 86 = .ok (.iconst (-1), 1) := by decide +kernel
theorem dX12_sumOf_87 : decode cX12_sumOf 87 = .ok (.ixor, 1) := by decide +kernel
theorem dX12_sumOf_88 : decode cX12_sumOf 88 = .ok (.iand, 1) := by decide +kernel
theorem dX12_sumOf_89 : decode cX12_sumOf 89 = .ok (.istore_n 3, 1) := by decide +kernel
theorem dX12_sumOf_90 : decode cX12_sumOf 90 = .ok (.aload_n 0, 1) := by decide +kernel
theorem dX12_sumOf_91 : decode cX12_sumOf 91 = .ok (.iload 8, 2) := by decide +kernel
theorem dX12_sumOf_93 : decode cX12_sumOf 93 = .ok (.iload 4, 2) := by decide +kernel
theorem dX12_sumOf_95 : decode cX12_sumOf 95 = .ok (.invokevirtual 300, 3) := by decide +kernel
theorem dX12_sumOf_98 : decode cX12_sumOf 98 = .ok (.istore 9, 2) := by decide +kernel
theorem dX12_sumOf_100 : decode cX12_sumOf 100 = .ok (.iload 9, 2) := by decide +kernel
theorem dX12_sumOf_102 : decode cX12_sumOf 102 = .ok (.iconst (-1), 1) := by decide +kernel
theorem dX12_sumOf_103 : decode cX12_sumOf 103 = .ok (.if_icmp .ne 5, 3) := by decide +kernel
theorem dX12_sumOf_106 : decode cX12_sumOf 106 = .ok (.iconst (-1), 1) := by decide +kernel
theorem dX12_sumOf_107 : decode cX12_sumOf 107 = .ok (.ireturn, 1) := by decide +kernel
theorem dX12_sumOf_108 : decode cX12_sumOf 108 = .ok (.iload 4, 2) := by decide +kernel
theorem dX12_sumOf_110 : decode cX12_sumOf 110 = .ok (.iload 9, 2) := by decide +kernel
theorem dX12_sumOf_112 : decode cX12_sumOf 112 = .ok (.iadd, 1) := by decide +kernel
theorem dX12_sumOf_113 : decode cX12_sumOf 113 = .ok (.istore 4, 2) := by decide +kernel
theorem dX12_sumOf_115 : decode cX12_sumOf 115 = .ok (.iload 5, 2) := by decide +kernel
theorem dX12_sumOf_117 : decode cX12_sumOf 117 = .ok (.iload 4, 2) := by decide +kernel
theorem dX12_sumOf_119 : decode cX12_sumOf 119 = .ok (.iadd, 1) := by decide +kernel
theorem dX12_sumOf_120 : decode cX12_sumOf 120 = .ok (.istore 5, 2) := by decide +kernel
theorem dX12_sumOf_122 : decode cX12_sumOf 122 = .ok (.iinc 7 (-1), 3) := by decide +kernel
theorem dX12_sumOf_125 : decode cX12_sumOf 125 = .ok (.goto (-83), 3) := by decide +kernel
theorem dX12_sumOf_128 : decode cX12_sumOf 128 = .ok (.iload 5, 2) := by decide +kernel
theorem dX12_sumOf_130 : decode cX12_sumOf 130 = .ok (.ireturn, 1) := by decide +kernel
theorem w_X12_sumOf_42 {l : Launch} {D : zDD} {b : Nat} (x1 x3 x4 x5 x6 x7 : Int32) (σ : zSg) (τ : zLm) {Q : Int32 → zSg → zLm → Prop} (h : (x7 ≤ 0 → Q x5 σ τ) ∧ (¬ x7 ≤ 0 → (¬ x6 = 0 ∧ (∀ v2 : Int32, v2 = ((x1 / x6) - (x1 / x6) / 10 * 10) - 1 → (v2 < 0 → Q (-1) σ τ) ∧ (¬ v2 < 0 → (SI l D b M_X12_has 0 G0 [.int x3, .int v2] σ τ (fun r4 σ4 τ4 => (¬ r4 = 0 → (∀ v6 : Int32, v6 = x3 &&& (((1 : Int32) <<< (v2 &&& 31)) ^^^ (-1)) → SI l D b M_X12_softIn 2 G0 [.ref (b + 125), .int v2, .int x4] σ4 τ4 (fun r7 σ7 τ7 => (¬ r7 = (-1) → AI l D b M_X12_sumOf 3 G0 Q 42 [(0, .ref (b + 125)), (1, .int x1), (3, .int v6), (4, .int (x4 + r7)), (5, .int (x5 + (x4 + r7))), (6, .int (x6 / 10)), (7, .int (x7 + (-1)))] [] G0 σ7 τ7) ∧ (r7 = (-1) → Q (-1) σ7 τ7)))) ∧ (r4 = 0 → Q (-1) σ4 τ4)))))))) : AI l D b M_X12_sumOf 3 G0 Q 42 [(0, .ref (b + 125)), (1, .int x1), (3, .int x3), (4, .int x4), (5, .int x5), (6, .int x6), (7, .int x7)] [] G0 σ τ := by
  refine r_iload 6 dX12_sumOf_42 rfl ?_
  refine r_if_le (tgt := 128) dX12_sumOf_44 (by decide) (fun c1 => ?_) (fun c1 => ?_)
  · replace h := h.1 c1
    refine r_iload 4 dX12_sumOf_128 rfl ?_
    exact r_iret rfl (Nat.le_refl _) (Nat.le_refl _) dX12_sumOf_130 ⟨rfl, rfl, rfl, _, rfl, h⟩
  · replace h := h.2 c1
    refine r_iload_n 1 dX12_sumOf_47 rfl rfl ?_
    refine r_iload 5 dX12_sumOf_48 rfl ?_
    refine r_idiv dX12_sumOf_50 h.1 ?_
    replace h := h.2
    refine r_bipush dX12_sumOf_51 cb_10 ?_
    refine r_irem dX12_sumOf_53 (by decide) ?_
    refine r_iconst dX12_sumOf_54 ci_1 ?_
    refine r_isub dX12_sumOf_55 ?_
    refine r_nmI (fun v2 ev2 => ?_)
    replace h := h v2 ev2
    refine r_istore dX12_sumOf_56 (by decide) rfl ?_
    refine r_iload 6 dX12_sumOf_58 rfl ?_
    refine r_bipush dX12_sumOf_60 cb_10 ?_
    refine r_idiv dX12_sumOf_62 (by decide) ?_
    refine r_istore dX12_sumOf_63 (by decide) rfl ?_
    refine r_iload 1 dX12_sumOf_65 rfl ?_
    refine r_if_lt (tgt := 79) dX12_sumOf_67 (by decide) (fun c3 => ?_) (fun c3 => ?_)
    · replace h := h.1 c3
      refine r_iconst dX12_sumOf_79 ci_m1 ?_
      exact r_iret rfl (Nat.le_refl _) (Nat.le_refl _) dX12_sumOf_80 ⟨rfl, rfl, rfl, _, rfl, h⟩
    · replace h := h.2 c3
      refine r_iload_n 4 dX12_sumOf_70 rfl rfl ?_
      refine r_iload 1 dX12_sumOf_71 rfl ?_
      refine rc_SI (h' := 0) [.int x3, .int v2] oks_X12_has tw_1016 rfl rfl (Nat.le_of_ble_eq_true rfl) dX12_sumOf_73 (by decide) h (fun r4 σ4 τ4 h => ?_)
      refine r_if_ne (tgt := 81) dX12_sumOf_76 (by decide) (fun c5 => ?_) (fun c5 => ?_)
      · replace h := h.1 c5
        refine r_iload_n 4 dX12_sumOf_81 rfl rfl ?_
        refine r_iconst dX12_sumOf_82 ci_1 ?_
        refine r_iload 1 dX12_sumOf_83 rfl ?_
        refine r_ishl dX12_sumOf_85 ?_
        refine r_iconst dX12_sumOf_86 ci_m1 ?_
        refine r_ixor dX12_sumOf_87 ?_
        refine r_iand dX12_sumOf_88 ?_
        refine r_nmI (fun v6 ev6 => ?_)
        replace h := h v6 ev6
        refine r_istore_n dX12_sumOf_89 rfl (by decide) rfl ?_
        refine r_aload_n 3 dX12_sumOf_90 rfl rfl ?_
        refine r_iload 2 dX12_sumOf_91 rfl ?_
        refine r_iload 5 dX12_sumOf_93 rfl ?_
        refine rc_VI (h' := 2) [.int v2, .int x4] okv_X12_softIn (by decide) (congrArg Prod.fst k0_125) tw_1201 rfl rfl (Nat.le_of_ble_eq_true rfl) dX12_sumOf_95 (by decide) h (fun r7 σ7 τ7 h => ?_)
        refine r_istore dX12_sumOf_98 (by decide) rfl ?_
        refine r_iload 0 dX12_sumOf_100 rfl ?_
        refine r_iconst dX12_sumOf_102 ci_m1 ?_
        refine r_icmp_ne (tgt := 108) dX12_sumOf_103 (by decide) (fun c8 => ?_) (fun c8 => ?_)
        · replace h := h.1 c8
          refine r_iload 6 dX12_sumOf_108 rfl ?_
          refine r_iload 0 dX12_sumOf_110 rfl ?_
          refine r_iadd dX12_sumOf_112 ?_
          refine r_istore dX12_sumOf_113 (by decide) rfl ?_
          refine r_iload 7 dX12_sumOf_115 rfl ?_
          refine r_iload 0 dX12_sumOf_117 rfl ?_
          refine r_iadd dX12_sumOf_119 ?_
          refine r_istore dX12_sumOf_120 (by decide) rfl ?_
          refine r_inc 8 dX12_sumOf_122 rfl ci_m1 (by decide) rfl ?_
          refine r_goto (tgt := 42) dX12_sumOf_125 (by decide) ?_
          refine r_lv [7, 8, 4, 2, 1, 5, 0] rfl ?_
          exact h
        · replace h := h.2 c8
          refine r_iconst dX12_sumOf_106 ci_m1 ?_
          exact r_iret rfl (Nat.le_refl _) (Nat.le_refl _) dX12_sumOf_107 ⟨rfl, rfl, rfl, _, rfl, h⟩
      · replace h := h.2 c5
        refine r_iconst dX12_sumOf_79 ci_m1 ?_
        exact r_iret rfl (Nat.le_refl _) (Nat.le_refl _) dX12_sumOf_80 ⟨rfl, rfl, rfl, _, rfl, h⟩

theorem w_X12_sumOf_14 {l : Launch} {D : zDD} {b : Nat} (x1 x2 x3 x4 x5 x6 x7 : Int32) (σ : zSg) (τ : zLm) {Q : Int32 → zSg → zLm → Prop} (h : SI l D b M_X12_bits 0 G0 [.int x2] σ τ (fun r1 σ1 τ1 => (r1 ≤ x7 → SI l D b M_X12_bits 0 G0 [.int x2] σ1 τ1 (fun r3 σ3 τ3 => AI l D b M_X12_sumOf 3 G0 Q 42 [(0, .ref (b + 125)), (1, .int x1), (3, .int x3), (4, .int x4), (5, .int x5), (6, .int x6), (7, .int r3)] [] G0 σ3 τ3)) ∧ (¬ r1 ≤ x7 → AI l D b M_X12_sumOf 3 G0 Q 14 [(0, .ref (b + 125)), (1, .int x1), (2, .int x2), (3, .int x3), (4, .int x4), (5, .int x5), (6, .int (x6 * 10)), (7, .int (x7 + 1))] [] G0 σ1 τ1))) : AI l D b M_X12_sumOf 3 G0 Q 14 [(0, .ref (b + 125)), (1, .int x1), (2, .int x2), (3, .int x3), (4, .int x4), (5, .int x5), (6, .int x6), (7, .int x7)] [] G0 σ τ := by
  refine r_iload 7 dX12_sumOf_14 rfl ?_
  refine r_iload_n 2 dX12_sumOf_16 rfl rfl ?_
  refine rc_SI (h' := 0) [.int x2] oks_X12_bits tw_1046 rfl rfl (Nat.le_of_ble_eq_true rfl) dX12_sumOf_17 (by decide) h (fun r1 σ1 τ1 h => ?_)
  refine r_icmp_ge (tgt := 36) dX12_sumOf_20 (by decide) (fun c2 => ?_) (fun c2 => ?_)
  · replace h := h.1 c2
    refine r_iload_n 2 dX12_sumOf_36 rfl rfl ?_
    refine rc_SI (h' := 0) [.int x2] oks_X12_bits tw_1046 rfl rfl (Nat.le_of_ble_eq_true rfl) dX12_sumOf_37 (by decide) h (fun r3 σ3 τ3 h => ?_)
    refine r_istore dX12_sumOf_40 (by decide) rfl ?_
    refine r_lv [1, 2, 4, 5, 6, 7, 0] rfl ?_
    exact h
  · replace h := h.2 c2
    refine r_iload 6 dX12_sumOf_23 rfl ?_
    refine r_bipush dX12_sumOf_25 cb_10 ?_
    refine r_imul dX12_sumOf_27 ?_
    refine r_istore dX12_sumOf_28 (by decide) rfl ?_
    refine r_inc 7 dX12_sumOf_30 rfl ci_1 (by decide) rfl ?_
    refine r_goto (tgt := 14) dX12_sumOf_33 (by decide) ?_
    refine r_lv [2, 3, 4, 5, 6, 7, 1, 0] rfl ?_
    exact h

theorem w_X12_sumOf_0 {l : Launch} {D : zDD} {b : Nat} (p1 p2 : Int32) (σ : zSg) (τ : zLm) {Q : Int32 → zSg → zLm → Prop} (h : AI l D b M_X12_sumOf 3 G0 Q 14 [(0, .ref (b + 125)), (1, .int p1), (2, .int p2), (3, .int p2), (4, .int 0), (5, .int 0), (6, .int 1), (7, .int 1)] [] G0 σ τ) : AI l D b M_X12_sumOf 3 G0 Q 0 [(0, .ref (b + 125)), (1, .int p1), (2, .int p2)] [] G0 σ τ := by
  refine r_iload_n 2 dX12_sumOf_0 rfl rfl ?_
  refine r_istore_n dX12_sumOf_1 rfl (by decide) rfl ?_
  refine r_iconst dX12_sumOf_2 ci_0 ?_
  refine r_istore dX12_sumOf_3 (by decide) rfl ?_
  refine r_iconst dX12_sumOf_5 ci_0 ?_
  refine r_istore dX12_sumOf_6 (by decide) rfl ?_
  refine r_iconst dX12_sumOf_8 ci_1 ?_
  refine r_istore dX12_sumOf_9 (by decide) rfl ?_
  refine r_iconst dX12_sumOf_11 ci_1 ?_
  refine r_istore dX12_sumOf_12 (by decide) rfl ?_
  refine r_lv [5, 6, 7, 4, 3, 2, 1, 0] rfl ?_
  exact h
theorem s_X12_sumOf {l : Launch} {D : zDD} {b : Nat} (p1 p2 : Int32) (σ : zSg) (τ : zLm) {Q : Int32 → zSg → zLm → Prop} (h : AI l D b M_X12_sumOf 3 G0 Q 14 [(0, .ref (b + 125)), (1, .int p1), (2, .int p2), (3, .int p2), (4, .int 0), (5, .int 0), (6, .int 1), (7, .int 1)] [] G0 σ τ) : SI l D b M_X12_sumOf 3 G0 [.ref (b + 125), .int p1, .int p2] σ τ Q := zS.of (by decide) (Nat.le_of_ble_eq_true rfl) rfl (w_X12_sumOf_0 p1 p2 σ τ h)

theorem dX12_within_0 : decode cX12_within 0 = .ok (.iconst 0, 1) := by decide +kernel
theorem dX12_within_1 : decode cX12_within 1 = .ok (.istore_n 1, 1) := by decide +kernel
theorem dX12_within_2 : decode cX12_within 2 = .ok (.iconst 0, 1) := by decide +kernel
theorem dX12_within_3 : decode cX12_within 3 = .ok (.istore_n 2, 1) := by decide +kernel
theorem dX12_within_4 : decode cX12_within 4 = .ok (.iload_n 2, 1) := by decide +kernel
theorem dX12_within_5 : decode cX12_within 5 = .ok (.bipush 25, 2) := by decide +kernel
theorem dX12_within_7 : decode cX12_within 7 = .ok (.aload_n 0, 1) := by decide +kernel
theorem dX12_within_8 : decode cX12_within 8 = .ok (.getfield 141, 3) := by decide +kernel
theorem dX12_within_11 : decode cX12_within 11 = .ok (.imul, 1) := by decide +kernel
theorem dX12_within_12 : decode cX12_within 12 = .ok (.if_icmp .ge 31, 3) := by decide +kernel
theorem dX12_within_15 : decode cX12_within 15 = .ok (.iload_n 1, 1) := by decide +kernel
theorem dX12_within_16 : decode cX12_within 16 = .ok (.aload_n 0, 1) := by decide +kernel
theorem dX12_within_17 : decode cX12_within 17 = .ok (.iload_n 2, 1) := by decide +kernel
theorem dX12_within_18 : decode cX12_within 18 = .ok (.invokevirtual 321, 3) := by decide +kernel
theorem dX12_within_21 : decode cX12_within 21 = .ok (.iconst (-1), 1) := by decide +kernel
theorem dX12_within_22 : decode cX12_within 22 = .ok (.if_icmp .eq 12, 3) := by decide +kernel
theorem dX12_within_25 : decode cX12_within 25 = .ok (.iconst 1, 1) := by decide +kernel
theorem dX12_within_26 : decode cX12_within 26 = .ok (.iload_n 2, 1) := by decide +kernel
theorem dX12_within_27 : decode cX12_within 27 = .ok (.bipush 25, 2) := by decide +kernel
theorem dX12_within_29 : decode cX12_within 29 = .ok (.idiv, 1) := by decide +kernel
theorem dX12_within_30 : decode cX12_within 30 = .ok (.ishl, 1) := by decide +kernel
theorem dX12_within_31 : decode cX12_within 31 = .ok (.goto 4, 3) := by decide +kernel
theorem dX12_within_34 : decode cX12_within 34 = .ok (.iconst 0, 1) := by decide +kernel
theorem dX12_within_35 : decode cX12_within 35 = .ok (.ior, 1) := by decide +kernel
theorem dX12_within_36 : decode cX12_within 36 = .ok (.istore_n 1, 1) := by decide +kernel
theorem dX12_within_37 : decode cX12_within 37 = .ok (.iinc 2 1, 3) := by decide +kernel
theorem dX12_within_40 : decode cX12_within 40 = .ok (.goto (-36), 3) := by decide +kernel
theorem dX12_within_43 : decode cX12_within 43 = .ok (.iload_n 1, 1) := by decide +kernel
theorem dX12_within_44 : decode cX12_within 44 = .ok (.ireturn, 1) := by decide +kernel
theorem w_X12_within_4 {l : Launch} {D : zDD} {b : Nat} (x1 x2 : Int32) (σ : zSg) (τ : zLm) {Q : Int32 → zSg → zLm → Prop} (h : ((25 * (σ 125 16)) ≤ x2 → Q x1 σ τ) ∧ (¬ (25 * (σ 125 16)) ≤ x2 → (SI l D b M_X12_fit 2 G0 [.ref (b + 125), .int x2] σ τ (fun r2 σ2 τ2 => (r2 = (-1) → AI l D b M_X12_within 3 G0 Q 4 [(0, .ref (b + 125)), (1, .int (x1 ||| 0)), (2, .int (x2 + 1))] [] G0 σ2 τ2) ∧ (¬ r2 = (-1) → (∀ v4 : Int32, v4 = x1 ||| ((1 : Int32) <<< ((x2 / 25) &&& 31)) → AI l D b M_X12_within 3 G0 Q 4 [(0, .ref (b + 125)), (1, .int v4), (2, .int (x2 + 1))] [] G0 σ2 τ2)))))) : AI l D b M_X12_within 3 G0 Q 4 [(0, .ref (b + 125)), (1, .int x1), (2, .int x2)] [] G0 σ τ := by
  refine r_iload_n 2 dX12_within_4 rfl rfl ?_
  refine r_bipush dX12_within_5 cb_25 ?_
  refine r_aload_n 0 dX12_within_7 rfl rfl ?_
  refine r_getI (j := 16) (by decide) (congrArg Prod.fst k0_125) c12_11 (by decide) rfl tw_826 dX12_within_8 ?_
  refine r_imul dX12_within_11 ?_
  refine r_icmp_ge (tgt := 43) dX12_within_12 (by decide) (fun c1 => ?_) (fun c1 => ?_)
  · replace h := h.1 c1
    refine r_iload_n 1 dX12_within_43 rfl rfl ?_
    exact r_iret rfl (Nat.le_refl _) (Nat.le_refl _) dX12_within_44 ⟨rfl, rfl, rfl, _, rfl, h⟩
  · replace h := h.2 c1
    refine r_iload_n 1 dX12_within_15 rfl rfl ?_
    refine r_aload_n 0 dX12_within_16 rfl rfl ?_
    refine r_iload_n 2 dX12_within_17 rfl rfl ?_
    refine rc_VI (h' := 2) [.int x2] okv_X12_fit (by decide) (congrArg Prod.fst k0_125) tw_1009 rfl rfl (Nat.le_of_ble_eq_true rfl) dX12_within_18 (by decide) h (fun r2 σ2 τ2 h => ?_)
    refine r_iconst dX12_within_21 ci_m1 ?_
    refine r_icmp_eq (tgt := 34) dX12_within_22 (by decide) (fun c3 => ?_) (fun c3 => ?_)
    · replace h := h.1 c3
      refine r_iconst dX12_within_34 ci_0 ?_
      refine r_ior dX12_within_35 ?_
      refine r_istore_n dX12_within_36 rfl (by decide) rfl ?_
      refine r_inc 2 dX12_within_37 rfl ci_1 (by decide) rfl ?_
      refine r_goto (tgt := 4) dX12_within_40 (by decide) ?_
      refine r_lv [2, 1, 0] rfl ?_
      exact h
    · replace h := h.2 c3
      refine r_iconst dX12_within_25 ci_1 ?_
      refine r_iload_n 2 dX12_within_26 rfl rfl ?_
      refine r_bipush dX12_within_27 cb_25 ?_
      refine r_idiv dX12_within_29 (by decide) ?_
      refine r_ishl dX12_within_30 ?_
      refine r_goto (tgt := 35) dX12_within_31 (by decide) ?_
      refine r_ior dX12_within_35 ?_
      refine r_nmI (fun v4 ev4 => ?_)
      replace h := h v4 ev4
      refine r_istore_n dX12_within_36 rfl (by decide) rfl ?_
      refine r_inc 2 dX12_within_37 rfl ci_1 (by decide) rfl ?_
      refine r_goto (tgt := 4) dX12_within_40 (by decide) ?_
      refine r_lv [2, 1, 0] rfl ?_
      exact h

theorem w_X12_within_0 {l : Launch} {D : zDD} {b : Nat} (σ : zSg) (τ : zLm) {Q : Int32 → zSg → zLm → Prop} (h : AI l D b M_X12_within 3 G0 Q 4 [(0, .ref (b + 125)), (1, .int 0), (2, .int 0)] [] G0 σ τ) : AI l D b M_X12_within 3 G0 Q 0 [(0, .ref (b + 125))] [] G0 σ τ := by
  refine r_iconst dX12_within_0 ci_0 ?_
  refine r_istore_n dX12_within_1 rfl (by decide) rfl ?_
  refine r_iconst dX12_within_2 ci_0 ?_
  refine r_istore_n dX12_within_3 rfl (by decide) rfl ?_
  refine r_lv [2, 1, 0] rfl ?_
  exact h
theorem s_X12_within {l : Launch} {D : zDD} {b : Nat} (σ : zSg) (τ : zLm) {Q : Int32 → zSg → zLm → Prop} (h : AI l D b M_X12_within 3 G0 Q 4 [(0, .ref (b + 125)), (1, .int 0), (2, .int 0)] [] G0 σ τ) : SI l D b M_X12_within 3 G0 [.ref (b + 125)] σ τ Q := zS.of (by decide) (Nat.le_of_ble_eq_true rfl) rfl (w_X12_within_0 σ τ h)

theorem dX12_fitMany_0 : decode cX12_fitMany 0 = .ok (.iconst 0, 1) := by decide +kernel
theorem dX12_fitMany_1 : decode cX12_fitMany 1 = .ok (.istore_n 1, 1) := by decide +kernel
theorem dX12_fitMany_2 : decode cX12_fitMany 2 = .ok (.iconst 0, 1) := by decide +kernel
theorem dX12_fitMany_3 : decode cX12_fitMany 3 = .ok (.istore_n 2, 1) := by decide +kernel
theorem dX12_fitMany_4 : decode cX12_fitMany 4 = .ok (.iload_n 2, 1) := by decide +kernel
theorem dX12_fitMany_5 : decode cX12_fitMany 5 = .ok (.bipush 25, 2) := by decide +kernel
theorem dX12_fitMany_7 : decode cX12_fitMany 7 = .ok (.aload_n 0, 1) := by decide +kernel
theorem dX12_fitMany_8 : decode cX12_fitMany 8 = .ok (.getfield 141, 3) := by decide +kernel
theorem dX12_fitMany_11 : decode cX12_fitMany 11 = .ok (.imul, 1) := by decide +kernel
theorem dX12_fitMany_12 : decode cX12_fitMany 12 = .ok (.if_icmp .ge 26, 3) := by decide +kernel
theorem dX12_fitMany_15 : decode cX12_fitMany 15 = .ok (.iload_n 1, 1) := by decide +kernel
theorem dX12_fitMany_16 : decode cX12_fitMany 16 = .ok (.aload_n 0, 1) := by decide +kernel
theorem dX12_fitMany_17 : decode cX12_fitMany 17 = .ok (.iload_n 2, 1) := by decide +kernel
theorem dX12_fitMany_18 : decode cX12_fitMany 18 = .ok (.invokevirtual 321, 3) := by decide +kernel
theorem dX12_fitMany_21 : decode cX12_fitMany 21 = .ok (.iconst (-1), 1) := by decide +kernel
theorem dX12_fitMany_22 : decode cX12_fitMany 22 = .ok (.if_icmp .eq 7, 3) := by decide +kernel
theorem dX12_fitMany_25 : decode cX12_fitMany 25 = .ok (.iconst 1, 1) := by decide +kernel
theorem dX12_fitMany_26 : decode cX12_fitMany 26 = .ok (.goto 4, 3) := by decide +kernel
theorem dX12_fitMany_29 : decode cX12_fitMany 29 = .ok (.iconst 0, 1) := by decide +kernel
theorem dX12_fitMany_30 : decode cX12_fitMany 30 = .ok (.iadd, 1) := by decide +kernel
theorem dX12_fitMany_31 : decode cX12_fitMany 31 = .ok (.istore_n 1, 1) := by decide +kernel
theorem dX12_fitMany_32 : decode cX12_fitMany 32 = .ok (.iinc 2 1, 3) := by decide +kernel
theorem dX12_fitMany_35 : decode cX12_fitMany 35 = .ok (.goto (-31), 3) := by decide +kernel
theorem dX12_fitMany_38 : decode cX12_fitMany 38 = .ok (.iload_n 1, 1) := by decide +kernel
theorem dX12_fitMany_39 : decode cX12_fitMany 39 = .ok (.ireturn, 1) := by decide +kernel
theorem w_X12_fitMany_4 {l : Launch} {D : zDD} {b : Nat} (x1 x2 : Int32) (σ : zSg) (τ : zLm) {Q : Int32 → zSg → zLm → Prop} (h : ((25 * (σ 125 16)) ≤ x2 → Q x1 σ τ) ∧ (¬ (25 * (σ 125 16)) ≤ x2 → (SI l D b M_X12_fit 2 G0 [.ref (b + 125), .int x2] σ τ (fun r2 σ2 τ2 => (r2 = (-1) → AI l D b M_X12_fitMany 3 G0 Q 4 [(0, .ref (b + 125)), (1, .int (x1 + 0)), (2, .int (x2 + 1))] [] G0 σ2 τ2) ∧ (¬ r2 = (-1) → AI l D b M_X12_fitMany 3 G0 Q 4 [(0, .ref (b + 125)), (1, .int (x1 + 1)), (2, .int (x2 + 1))] [] G0 σ2 τ2))))) : AI l D b M_X12_fitMany 3 G0 Q 4 [(0, .ref (b + 125)), (1, .int x1), (2, .int x2)] [] G0 σ τ := by
  refine r_iload_n 2 dX12_fitMany_4 rfl rfl ?_
  refine r_bipush dX12_fitMany_5 cb_25 ?_
  refine r_aload_n 0 dX12_fitMany_7 rfl rfl ?_
  refine r_getI (j := 16) (by decide) (congrArg Prod.fst k0_125) c12_11 (by decide) rfl tw_826 dX12_fitMany_8 ?_
  refine r_imul dX12_fitMany_11 ?_
  refine r_icmp_ge (tgt := 38) dX12_fitMany_12 (by decide) (fun c1 => ?_) (fun c1 => ?_)
  · replace h := h.1 c1
    refine r_iload_n 1 dX12_fitMany_38 rfl rfl ?_
    exact r_iret rfl (Nat.le_refl _) (Nat.le_refl _) dX12_fitMany_39 ⟨rfl, rfl, rfl, _, rfl, h⟩
  · replace h := h.2 c1
    refine r_iload_n 1 dX12_fitMany_15 rfl rfl ?_
    refine r_aload_n 0 dX12_fitMany_16 rfl rfl ?_
    refine r_iload_n 2 dX12_fitMany_17 rfl rfl ?_
    refine rc_VI (h' := 2) [.int x2] okv_X12_fit (by decide) (congrArg Prod.fst k0_125) tw_1009 rfl rfl (Nat.le_of_ble_eq_true rfl) dX12_fitMany_18 (by decide) h (fun r2 σ2 τ2 h => ?_)
    refine r_iconst dX12_fitMany_21 ci_m1 ?_
    refine r_icmp_eq (tgt := 29) dX12_fitMany_22 (by decide) (fun c3 => ?_) (fun c3 => ?_)
    · replace h := h.1 c3
      refine r_iconst dX12_fitMany_29 ci_0 ?_
      refine r_iadd dX12_fitMany_30 ?_
      refine r_istore_n dX12_fitMany_31 rfl (by decide) rfl ?_
      refine r_inc 2 dX12_fitMany_32 rfl ci_1 (by decide) rfl ?_
      refine r_goto (tgt := 4) dX12_fitMany_35 (by decide) ?_
      refine r_lv [2, 1, 0] rfl ?_
      exact h
    · replace h := h.2 c3
      refine r_iconst dX12_fitMany_25 ci_1 ?_
      refine r_goto (tgt := 30) dX12_fitMany_26 (by decide) ?_
      refine r_iadd dX12_fitMany_30 ?_
      refine r_istore_n dX12_fitMany_31 rfl (by decide) rfl ?_
      refine r_inc 2 dX12_fitMany_32 rfl ci_1 (by decide) rfl ?_
      refine r_goto (tgt := 4) dX12_fitMany_35 (by decide) ?_
      refine r_lv [2, 1, 0] rfl ?_
      exact h

theorem w_X12_fitMany_0 {l : Launch} {D : zDD} {b : Nat} (σ : zSg) (τ : zLm) {Q : Int32 → zSg → zLm → Prop} (h : AI l D b M_X12_fitMany 3 G0 Q 4 [(0, .ref (b + 125)), (1, .int 0), (2, .int 0)] [] G0 σ τ) : AI l D b M_X12_fitMany 3 G0 Q 0 [(0, .ref (b + 125))] [] G0 σ τ := by
  refine r_iconst dX12_fitMany_0 ci_0 ?_
  refine r_istore_n dX12_fitMany_1 rfl (by decide) rfl ?_
  refine r_iconst dX12_fitMany_2 ci_0 ?_
  refine r_istore_n dX12_fitMany_3 rfl (by decide) rfl ?_
  refine r_lv [2, 1, 0] rfl ?_
  exact h
theorem s_X12_fitMany {l : Launch} {D : zDD} {b : Nat} (σ : zSg) (τ : zLm) {Q : Int32 → zSg → zLm → Prop} (h : AI l D b M_X12_fitMany 3 G0 Q 4 [(0, .ref (b + 125)), (1, .int 0), (2, .int 0)] [] G0 σ τ) : SI l D b M_X12_fitMany 3 G0 [.ref (b + 125)] σ τ Q := zS.of (by decide) (Nat.le_of_ble_eq_true rfl) rfl (w_X12_fitMany_0 σ τ h)

theorem dX12_weave_0 : decode cX12_weave 0 = .ok (.iconst 0, 1) := by decide +kernel
theorem dX12_weave_1 : decode cX12_weave 1 = .ok (.istore_n 1, 1) := by decide +kernel
theorem dX12_weave_2 : decode cX12_weave 2 = .ok (.iconst 0, 1) := by decide +kernel
theorem dX12_weave_3 : decode cX12_weave 3 = .ok (.istore_n 2, 1) := by decide +kernel
theorem dX12_weave_4 : decode cX12_weave 4 = .ok (.iload_n 2, 1) := by decide +kernel
theorem dX12_weave_5 : decode cX12_weave 5 = .ok (.bipush 25, 2) := by decide +kernel
theorem dX12_weave_7 : decode cX12_weave 7 = .ok (.if_icmp .ge 16, 3) := by decide +kernel
theorem dX12_weave_10 : decode cX12_weave 10 = .ok (.aload_n 0, 1) := by decide +kernel
theorem dX12_weave_11 : decode cX12_weave 11 = .ok (.getfield 51, 3) := by decide +kernel
theorem dX12_weave_14 : decode cX12_weave 14 = .ok (.iload_n 2, 1) := by decide +kernel
theorem dX12_weave_15 : decode cX12_weave 15 = .ok (.iconst 0, 1) := by decide +kernel
theorem dX12_weave_16 : decode cX12_weave 16 = .ok (.iastore, 1) := by decide +kernel
theorem dX12_weave_17 : decode cX12_weave 17 = .ok (.iinc 2 1, 3) := by decide +kernel
theorem dX12_weave_20 : decode cX12_weave 20 = .ok (.goto (-16), 3) := by decide +kernel
theorem dX12_weave_23 : decode cX12_weave 23 = .ok (.iconst 0, 1) := by decide +kernel
theorem dX12_weave_24 : decode cX12_weave 24 = .ok (.istore_n 2, 1) := by decide +kernel
theorem dX12_weave_25 : decode cX12_weave 25 = .ok (.iload_n 2, 1) := by decide +kernel
theorem dX12_weave_26 : decode cX12_weave 26 = .ok (.bipush 25, 2) := by decide +kernel
theorem dX12_weave_28 : decode cX12_weave 28 = .ok (.aload_n 0, 1) := by decide +kernel
theorem dX12_weave_29 : decode cX12_weave 29 = .ok (.getfield 141, 3) := by decide +kernel
theorem dX12_weave_32 : decode cX12_weave 32 = .ok (.imul, 1) := by decide +kernel
theorem dX12_weave_33 : decode cX12_weave 33 = .ok (.if_icmp .ge 65, 3) := by decide +kernel
theorem dX12_weave_36 : decode cX12_weave 36 = .ok (.aload_n 0, 1) := by decide +kernel
theorem dX12_weave_37 : decode cX12_weave 37 = .ok (.iload_n 2, 1) := by decide +kernel
theorem dX12_weave_38 : decode cX12_weave 38 = .ok (.invokevirtual 321, 3) := by decide +kernel
theorem dX12_weave_41 : decode cX12_weave 41 = .ok (.istore_n 3, 1) := by decide +kernel
theorem dX12_weave_42 : decode cX12_weave 42 = .ok (.iload_n 1, 1) := by decide +kernel
theorem dX12_weave_43 : decode cX12_weave 43 = .ok (.iload_n 3, 1) := by decide +kernel
theorem dX12_weave_44 : decode cX12_weave 44 = .ok (.iconst (-1), 1) := by decide +kernel
theorem dX12_weave_45 : decode cX12_weave 45 = .ok (.if_icmp .eq 7, 3) := by decide +kernel
theorem dX12_weave_48 : decode cX12_weave 48 = .ok (.iconst 1, 1) := by decide +kernel
theorem dX12_weave_49 : decode cX12_weave 49 = .ok (.goto 4, 3) := by decide +kernel
theorem dX12_weave_52 : decode cX12_weave 52 = .ok (.iconst 0, 1) := by decide +kernel
theorem dX12_weave_53 : decode cX12_weave 53 = .ok (.iadd, 1) := by decide +kernel
theorem dX12_weave_54 : decode cX12_weave 54 = .ok (.istore_n 1, 1) := by decide +kernel
theorem dX12_weave_55 : decode cX12_weave 55 = .ok (.iconst 0, 1) := by decide +kernel
theorem dX12_weave_56 : decode cX12_weave 56 = .ok (.istore 4, 2) := by decide +kernel
theorem dX12_weave_58 : decode cX12_weave 58 = .ok (.iload 4, 2) := by decide +kernel
theorem dX12_weave_60 : decode cX12_weave 60 = .ok (.bipush 25, 2) := by decide +kernel
theorem dX12_weave_62 : decode cX12_weave 62 = .ok (.if_icmp .ge 30, 3) := by decide +kernel
theorem dX12_weave_65 : decode cX12_weave 65 = .ok (.iload_n 3, 1) := by decide +kernel
theorem dX12_weave_66 : decode cX12_weave 66 = .ok (.iconst (-1), 1) := by decide +kernel
theorem dX12_weave_67 : decode cX12_weave 67 = .ok (.if_icmp .eq 25, 3) := by decide +kernel
theorem dX12_weave_70 : decode cX12_weave 70 = .ok (.aload_n 0, 1) := by decide +kernel
theorem dX12_weave_71 : decode cX12_weave 71 = .ok (.getfield 51, 3) := by decide +kernel
theorem dX12_weave_74 : decode cX12_weave 74 = .ok (.iload 4, 2) := by decide +kernel
theorem dX12_weave_76 : decode cX12_weave 76 = .ok (.dup2, 1) := by decide +kernel
theorem dX12_weave_77 : decode cX12_weave 77 = .ok (.iaload, 1) := by decide +kernel
theorem dX12_weave_78 : decode cX12_weave 78 = .ok (.iload_n 3, 1) := by decide +kernel
theorem dX12_weave_79 : decode cX12_weave 79 = .ok (.iload 4, 2) := by decide +kernel
theorem dX12_weave_81 : decode cX12_weave 81 = .ok (.ishr, 1) := by decide +kernel
theorem dX12_weave_82 : decode cX12_weave 82 = .ok (.iconst 1, 1) := by decide +kernel
theorem dX12_weave_83 : decode cX12_weave 83 = .ok (.iand, 1) := by decide +kernel
theorem dX12_weave_84 : decode cX12_weave 84 = .ok (.iadd, 1) := by decide +kernel
theorem dX12_weave_85 : decode cX12_weave 85 = .ok (.iastore, 1) := by decide +kernel
theorem dX12_weave_86 : decode cX12_weave 86 = .ok (.iinc 4 1, 3) := by decide +kernel
theorem dX12_weave_89 : decode cX12_weave 89 = .ok (.goto (-31), 3) := by decide +kernel
theorem dX12_weave_92 : decode cX12_weave 92 = .ok (.iinc 2 1, 3) := by decide +kernel
theorem dX12_weave_95 : decode cX12_weave 95 = .ok (.goto (-70), 3) := by decide +kernel
theorem dX12_weave_98 : decode cX12_weave 98 = .ok (.iconst (-1), 1) := by decide +kernel
theorem dX12_weave_99 : decode cX12_weave 99 = .ok (.istore_n 2, 1) := by decide +kernel
theorem dX12_weave_100 : decode cX12_weave 100 = .ok (.iload_n 1, 1) := by decide +kernel
theorem dX12_weave_101 : decode cX12_weave 101 = .ok (.istore_n 3, 1) := by decide +kernel
theorem dX12_weave_102 : decode cX12_weave 102 = .ok (.iconst 0, 1) := by decide +kernel
theorem dX12_weave_103 : decode cX12_weave 103 = .ok (.istore 4, 2) := by decide +kernel
theorem dX12_weave_105 : decode cX12_weave 105 = .ok (.iload 4, 2) := by decide +kernel
theorem dX12_weave_107 : decode cX12_weave 107 = .ok (.bipush 25, 2) := by decide +kernel
theorem dX12_weave_109 : decode cX12_weave 109 = .ok (.if_icmp .ge 75, 3) := by decide +kernel
theorem dX12_weave_112 : decode cX12_weave 112 = .ok (.aload_n 0, 1) := by decide +kernel
theorem dX12_weave_113 : decode cX12_weave 113 = .ok (.getfield 51, 3) := by decide +kernel
theorem dX12_weave_116 : decode cX12_weave 116 = .ok (.iload 4, 2) := by decide +kernel
theorem dX12_weave_118 : decode cX12_weave 118 = .ok (.iaload, 1) := by decide +kernel
theorem dX12_weave_119 : decode cX12_weave 119 = .ok (.iload_n 1, 1) := by decide +kernel
theorem dX12_weave_120 : decode cX12_weave 120 = .ok (.aload_n 0, 1) := by decide +kernel
theorem dX12_weave_121 : decode cX12_weave 121 = .ok (.getfield 51, 3) := by decide +kernel
theorem dX12_weave_124 : decode cX12_weave 124 = .ok (.iload 4, 2) := by decide +kernel
theorem dX12_weave_126 : decode cX12_weave 126 = .ok (.iaload, 1) := by decide +kernel
theorem dX12_weave_127 : decode cX12_weave 127 = .ok (.isub, 1) := by decide +kernel
theorem dX12_weave_128 : decode cX12_weave 128 = .ok (.if_icmp .le 13, 3) := by decide +kernel
theorem dX12_weave_131 : decode cX12_weave 131 = .ok (.aload_n 0, 1) := by decide +kernel
theorem dX12_weave_132 : decode cX12_weave 132 = .ok (.getfield 51, 3) := by decide +kernel
theorem dX12_weave_135 : decode cX12_weave 135 = .ok (.iload 4, 2) := by decide +kernel
theorem dX12_weave_137 : decode cX12_weave 137 = .ok (.iaload, 1) := by decide +kernel
theorem dX12_weave_138 : decode cX12_weave 138 = .ok (.goto 12, 3) := by decide +kernel
theorem dX12_weave_141 : decode cX12_weave 141 = .ok (.iload_n 1, 1) := by decide +kernel
theorem dX12_weave_142 : decode cX12_weave 142 = .ok (.aload_n 0, 1) := by decide +kernel
theorem dX12_weave_143 : decode cX12_weave 143 = .ok (.getfield 51, 3) := by decide +kernel
theorem dX12_weave_146 : decode cX12_weave 146 = .ok (.iload 4, 2) := by decide +kernel
theorem dX12_weave_148 : decode cX12_weave 148 = .ok (.iaload, 1) := by decide +kernel
theorem dX12_weave_149 : decode cX12_weave 149 = .ok (.isub, 1) := by decide +kernel
theorem dX12_weave_150 : decode cX12_weave 150 = .ok (.istore 5, 2) := by decide +kernel
theorem dX12_weave_152 : decode cX12_weave 152 = .ok (.iload 5, 2) := by decide +kernel
theorem dX12_weave_154 : decode cX12_weave 154 = .ok (.iload_n 3, 1) := by decide +kernel
theorem dX12_weave_155 : decode cX12_weave 155 = .ok (.if_icmp .ge 8, 3) := by decide +kernel
theorem dX12_weave_158 : decode cX12_weave 158 = .ok (.iload 4, 2) := by decide +kernel
theorem dX12_weave_160 : decode cX12_weave 160 = .ok (.goto 4, 3) := by decide +kernel
theorem dX12_weave_163 : decode cX12_weave 163 = .ok (.iload_n 2, 1) := by decide +kernel
theorem dX12_weave_164 : decode cX12_weave 164 = .ok (.istore_n 2, 1) := by decide +kernel
theorem dX12_weave_165 : decode cX12_weave 165 = .ok (.iload 5, 2) := by decide +kernel
theorem dX12_weave_167 : decode cX12_weave 167 = .ok (.iload_n 3, 1) := by decide +kernel
theorem dX12_weave_168 : decode cX12_weave 168 = .ok (.if_icmp .ge 8, 3) := by decide +kernel
theorem dX12_weave_171 : decode cX12_weave 171 = .ok (.iload 5, 2) := by decide +kernel
theorem dX12_weave_173 : decode cX12_weave 173 = .ok (.goto 4, 3) := by decide +kernel
theorem dX12_weave_176 : decode cX12_weave 176 = .ok (.iload_n 3, 1) := by decide +kernel
theorem dX12_weave_177 : decode cX12_weave 177 = .ok (.istore_n 3, 1) := by decide +kernel
theorem dX12_weave_178 : decode cX12_weave 178 = .ok (.iinc 4 1, 3) := by decide +kernel
theorem dX12_weave_181 : decode cX12_weave 181 = .ok (.goto (-76), 3) := by decide +kernel
theorem dX12_weave_184 : decode cX12_weave 184 = .ok (.iload_n 2, 1) := by decide +kernel
theorem dX12_weave_185 : decode cX12_weave 185 = .ok (.ireturn, 1) := by decide +kernel
theorem w_X12_weave_164 {l : Launch} {D : zDD} {b : Nat} (x1 x3 x4 x5 y0 : Int32) (σ : zSg) (τ : zLm) {Q : Int32 → zSg → zLm → Prop} (h : (x3 ≤ x5 → AI l D b M_X12_weave 3 G0 Q 105 [(0, .ref (b + 125)), (1, .int x1), (2, .int y0), (3, .int x3), (4, .int (x4 + 1))] [] G0 σ τ) ∧ (¬ x3 ≤ x5 → AI l D b M_X12_weave 3 G0 Q 105 [(0, .ref (b + 125)), (1, .int x1), (2, .int y0), (3, .int x5), (4, .int (x4 + 1))] [] G0 σ τ)) : AI l D b M_X12_weave 3 G0 Q 164 [(0, .ref (b + 125)), (1, .int x1), (3, .int x3), (4, .int x4), (5, .int x5)] [.int y0] G0 σ τ := by
  refine r_istore_n dX12_weave_164 rfl (by decide) rfl ?_
  refine r_iload 5 dX12_weave_165 rfl ?_
  refine r_iload_n 3 dX12_weave_167 rfl rfl ?_
  refine r_icmp_ge (tgt := 176) dX12_weave_168 (by decide) (fun c1 => ?_) (fun c1 => ?_)
  · replace h := h.1 c1
    refine r_iload_n 3 dX12_weave_176 rfl rfl ?_
    refine r_istore_n dX12_weave_177 rfl (by decide) rfl ?_
    refine r_inc 4 dX12_weave_178 rfl ci_1 (by decide) rfl ?_
    refine r_goto (tgt := 105) dX12_weave_181 (by decide) ?_
    refine r_lv [3, 4, 2, 1, 0] rfl ?_
    exact h
  · replace h := h.2 c1
    refine r_iload 5 dX12_weave_171 rfl ?_
    refine r_goto (tgt := 177) dX12_weave_173 (by decide) ?_
    refine r_istore_n dX12_weave_177 rfl (by decide) rfl ?_
    refine r_inc 4 dX12_weave_178 rfl ci_1 (by decide) rfl ?_
    refine r_goto (tgt := 105) dX12_weave_181 (by decide) ?_
    refine r_lv [3, 4, 2, 1, 0] rfl ?_
    exact h

theorem w_X12_weave_150 {l : Launch} {D : zDD} {b : Nat} (x1 x2 x3 x4 y0 : Int32) (σ : zSg) (τ : zLm) {Q : Int32 → zSg → zLm → Prop} (h : (x3 ≤ y0 → AI l D b M_X12_weave 3 G0 Q 164 [(0, .ref (b + 125)), (1, .int x1), (3, .int x3), (4, .int x4), (5, .int y0)] [.int x2] G0 σ τ) ∧ (¬ x3 ≤ y0 → AI l D b M_X12_weave 3 G0 Q 164 [(0, .ref (b + 125)), (1, .int x1), (3, .int x3), (4, .int x4), (5, .int y0)] [.int x4] G0 σ τ)) : AI l D b M_X12_weave 3 G0 Q 150 [(0, .ref (b + 125)), (1, .int x1), (2, .int x2), (3, .int x3), (4, .int x4)] [.int y0] G0 σ τ := by
  refine r_istore dX12_weave_150 (by decide) rfl ?_
  refine r_iload 0 dX12_weave_152 rfl ?_
  refine r_iload_n 4 dX12_weave_154 rfl rfl ?_
  refine r_icmp_ge (tgt := 163) dX12_weave_155 (by decide) (fun c1 => ?_) (fun c1 => ?_)
  · replace h := h.1 c1
    refine r_iload_n 3 dX12_weave_163 rfl rfl ?_
    refine r_lv [1, 2, 4, 5, 0] rfl ?_
    exact h
  · replace h := h.2 c1
    refine r_iload 5 dX12_weave_158 rfl ?_
    refine r_goto (tgt := 164) dX12_weave_160 (by decide) ?_
    refine r_lv [1, 2, 4, 5, 0] rfl ?_
    exact h

theorem w_X12_weave_105 {l : Launch} {D : zDD} {b : Nat} (x1 x2 x3 x4 : Int32) (σ : zSg) (τ : zLm) {Q : Int32 → zSg → zLm → Prop} (h : (25 ≤ x4 → Q x2 σ τ) ∧ (¬ 25 ≤ x4 → (vp_in x4 25 ∧ (vp_in x4 25 ∧ (((σ 138 x4.toNatClampNeg) ≤ (x1 - (σ 138 x4.toNatClampNeg)) → (vp_in x4 25 ∧ AI l D b M_X12_weave 3 G0 Q 150 [(0, .ref (b + 125)), (1, .int x1), (2, .int x2), (3, .int x3), (4, .int x4)] [.int (x1 - (σ 138 x4.toNatClampNeg))] G0 σ τ)) ∧ (¬ (σ 138 x4.toNatClampNeg) ≤ (x1 - (σ 138 x4.toNatClampNeg)) → (vp_in x4 25 ∧ AI l D b M_X12_weave 3 G0 Q 150 [(0, .ref (b + 125)), (1, .int x1), (2, .int x2), (3, .int x3), (4, .int x4)] [.int (σ 138 x4.toNatClampNeg)] G0 σ τ))))))) : AI l D b M_X12_weave 3 G0 Q 105 [(0, .ref (b + 125)), (1, .int x1), (2, .int x2), (3, .int x3), (4, .int x4)] [] G0 σ τ := by
  refine r_iload 4 dX12_weave_105 rfl ?_
  refine r_bipush dX12_weave_107 cb_25 ?_
  refine r_icmp_ge (tgt := 184) dX12_weave_109 (by decide) (fun c1 => ?_) (fun c1 => ?_)
  · replace h := h.1 c1
    refine r_iload_n 2 dX12_weave_184 rfl rfl ?_
    exact r_iret rfl (Nat.le_refl _) (Nat.le_refl _) dX12_weave_185 ⟨rfl, rfl, rfl, _, rfl, h⟩
  · replace h := h.2 c1
    refine r_aload_n 0 dX12_weave_112 rfl rfl ?_
    refine r_getR (j := 29) (by decide) (congrArg Prod.fst k0_125) c12_11 (by decide) rfl g0_125_29 tw_839 dX12_weave_113 ?_
    refine r_iload 4 dX12_weave_116 rfl ?_
    refine r_iald (by decide) k0_138 dX12_weave_118 h.1 ?_
    replace h := h.2
    refine r_iload_n 1 dX12_weave_119 rfl rfl ?_
    refine r_aload_n 0 dX12_weave_120 rfl rfl ?_
    refine r_getR (j := 29) (by decide) (congrArg Prod.fst k0_125) c12_11 (by decide) rfl g0_125_29 tw_839 dX12_weave_121 ?_
    refine r_iload 4 dX12_weave_124 rfl ?_
    refine r_iald (by decide) k0_138 dX12_weave_126 h.1 ?_
    replace h := h.2
    refine r_isub dX12_weave_127 ?_
    refine r_icmp_le (tgt := 141) dX12_weave_128 (by decide) (fun c2 => ?_) (fun c2 => ?_)
    · replace h := h.1 c2
      refine r_iload_n 1 dX12_weave_141 rfl rfl ?_
      refine r_aload_n 0 dX12_weave_142 rfl rfl ?_
      refine r_getR (j := 29) (by decide) (congrArg Prod.fst k0_125) c12_11 (by decide) rfl g0_125_29 tw_839 dX12_weave_143 ?_
      refine r_iload 4 dX12_weave_146 rfl ?_
      refine r_iald (by decide) k0_138 dX12_weave_148 h.1 ?_
      replace h := h.2
      refine r_isub dX12_weave_149 ?_
      exact h
    · replace h := h.2 c2
      refine r_aload_n 0 dX12_weave_131 rfl rfl ?_
      refine r_getR (j := 29) (by decide) (congrArg Prod.fst k0_125) c12_11 (by decide) rfl g0_125_29 tw_839 dX12_weave_132 ?_
      refine r_iload 4 dX12_weave_135 rfl ?_
      refine r_iald (by decide) k0_138 dX12_weave_137 h.1 ?_
      replace h := h.2
      refine r_goto (tgt := 150) dX12_weave_138 (by decide) ?_
      exact h

theorem w_X12_weave_58 {l : Launch} {D : zDD} {b : Nat} (x1 x2 x3 x4 : Int32) (σ : zSg) (τ : zLm) {Q : Int32 → zSg → zLm → Prop} (h : (25 ≤ x4 → AI l D b M_X12_weave 3 G0 Q 25 [(0, .ref (b + 125)), (1, .int x1), (2, .int (x2 + 1))] [] G0 σ τ) ∧ (¬ 25 ≤ x4 → ((x3 = (-1) → AI l D b M_X12_weave 3 G0 Q 25 [(0, .ref (b + 125)), (1, .int x1), (2, .int (x2 + 1))] [] G0 σ τ) ∧ (¬ x3 = (-1) → (vp_in x4 25 ∧ (vp_in x4 25 ∧ AI l D b M_X12_weave 3 G0 Q 58 [(0, .ref (b + 125)), (1, .int x1), (2, .int x2), (3, .int x3), (4, .int (x4 + 1))] [] G0 (st2 σ 138 x4.toNatClampNeg ((σ 138 x4.toNatClampNeg) + ((x3 >>> (x4 &&& 31)) &&& 1))) τ)))))) : AI l D b M_X12_weave 3 G0 Q 58 [(0, .ref (b + 125)), (1, .int x1), (2, .int x2), (3, .int x3), (4, .int x4)] [] G0 σ τ := by
  refine r_iload 4 dX12_weave_58 rfl ?_
  refine r_bipush dX12_weave_60 cb_25 ?_
  refine r_icmp_ge (tgt := 92) dX12_weave_62 (by decide) (fun c1 => ?_) (fun c1 => ?_)
  · replace h := h.1 c1
    refine r_inc 2 dX12_weave_92 rfl ci_1 (by decide) rfl ?_
    refine r_goto (tgt := 25) dX12_weave_95 (by decide) ?_
    refine r_lv [1, 2, 0] rfl ?_
    exact h
  · replace h := h.2 c1
    refine r_iload_n 3 dX12_weave_65 rfl rfl ?_
    refine r_iconst dX12_weave_66 ci_m1 ?_
    refine r_icmp_eq (tgt := 92) dX12_weave_67 (by decide) (fun c2 => ?_) (fun c2 => ?_)
    · replace h := h.1 c2
      refine r_inc 2 dX12_weave_92 rfl ci_1 (by decide) rfl ?_
      refine r_goto (tgt := 25) dX12_weave_95 (by decide) ?_
      refine r_lv [1, 2, 0] rfl ?_
      exact h
    · replace h := h.2 c2
      refine r_aload_n 0 dX12_weave_70 rfl rfl ?_
      refine r_getR (j := 29) (by decide) (congrArg Prod.fst k0_125) c12_11 (by decide) rfl g0_125_29 tw_839 dX12_weave_71 ?_
      refine r_iload 4 dX12_weave_74 rfl ?_
      refine r_dup2 dX12_weave_76 rfl rfl ?_
      refine r_iald (by decide) k0_138 dX12_weave_77 h.1 ?_
      replace h := h.2
      refine r_iload_n 3 dX12_weave_78 rfl rfl ?_
      refine r_iload 4 dX12_weave_79 rfl ?_
      refine r_ishr dX12_weave_81 ?_
      refine r_iconst dX12_weave_82 ci_1 ?_
      refine r_iand dX12_weave_83 ?_
      refine r_iadd dX12_weave_84 ?_
      refine r_iast (by decide) k0_138 dX12_weave_85 h.1 ?_
      replace h := h.2
      refine r_inc 4 dX12_weave_86 rfl ci_1 (by decide) rfl ?_
      refine r_goto (tgt := 58) dX12_weave_89 (by decide) ?_
      refine r_lv [1, 2, 3, 4, 0] rfl ?_
      exact h

theorem w_X12_weave_25 {l : Launch} {D : zDD} {b : Nat} (x1 x2 : Int32) (σ : zSg) (τ : zLm) {Q : Int32 → zSg → zLm → Prop} (h : ((25 * (σ 125 16)) ≤ x2 → AI l D b M_X12_weave 3 G0 Q 105 [(0, .ref (b + 125)), (1, .int x1), (2, .int (-1)), (3, .int x1), (4, .int 0)] [] G0 σ τ) ∧ (¬ (25 * (σ 125 16)) ≤ x2 → (SI l D b M_X12_fit 2 G0 [.ref (b + 125), .int x2] σ τ (fun r2 σ2 τ2 => (r2 = (-1) → AI l D b M_X12_weave 3 G0 Q 58 [(0, .ref (b + 125)), (1, .int (x1 + 0)), (2, .int x2), (3, .int r2), (4, .int 0)] [] G0 σ2 τ2) ∧ (¬ r2 = (-1) → AI l D b M_X12_weave 3 G0 Q 58 [(0, .ref (b + 125)), (1, .int (x1 + 1)), (2, .int x2), (3, .int r2), (4, .int 0)] [] G0 σ2 τ2))))) : AI l D b M_X12_weave 3 G0 Q 25 [(0, .ref (b + 125)), (1, .int x1), (2, .int x2)] [] G0 σ τ := by
  refine r_iload_n 2 dX12_weave_25 rfl rfl ?_
  refine r_bipush dX12_weave_26 cb_25 ?_
  refine r_aload_n 0 dX12_weave_28 rfl rfl ?_
  refine r_getI (j := 16) (by decide) (congrArg Prod.fst k0_125) c12_11 (by decide) rfl tw_826 dX12_weave_29 ?_
  refine r_imul dX12_weave_32 ?_
  refine r_icmp_ge (tgt := 98) dX12_weave_33 (by decide) (fun c1 => ?_) (fun c1 => ?_)
  · replace h := h.1 c1
    refine r_iconst dX12_weave_98 ci_m1 ?_
    refine r_istore_n dX12_weave_99 rfl (by decide) rfl ?_
    refine r_iload_n 2 dX12_weave_100 rfl rfl ?_
    refine r_istore_n dX12_weave_101 rfl (by decide) rfl ?_
    refine r_iconst dX12_weave_102 ci_0 ?_
    refine r_istore dX12_weave_103 (by decide) rfl ?_
    refine r_lv [3, 4, 2, 1, 0] rfl ?_
    exact h
  · replace h := h.2 c1
    refine r_aload_n 0 dX12_weave_36 rfl rfl ?_
    refine r_iload_n 2 dX12_weave_37 rfl rfl ?_
    refine rc_VI (h' := 2) [.int x2] okv_X12_fit (by decide) (congrArg Prod.fst k0_125) tw_1009 rfl rfl (Nat.le_of_ble_eq_true rfl) dX12_weave_38 (by decide) h (fun r2 σ2 τ2 h => ?_)
    refine r_istore_n dX12_weave_41 rfl (by decide) rfl ?_
    refine r_iload_n 2 dX12_weave_42 rfl rfl ?_
    refine r_iload_n 0 dX12_weave_43 rfl rfl ?_
    refine r_iconst dX12_weave_44 ci_m1 ?_
    refine r_icmp_eq (tgt := 52) dX12_weave_45 (by decide) (fun c3 => ?_) (fun c3 => ?_)
    · replace h := h.1 c3
      refine r_iconst dX12_weave_52 ci_0 ?_
      refine r_iadd dX12_weave_53 ?_
      refine r_istore_n dX12_weave_54 rfl (by decide) rfl ?_
      refine r_iconst dX12_weave_55 ci_0 ?_
      refine r_istore dX12_weave_56 (by decide) rfl ?_
      refine r_lv [3, 1, 4, 2, 0] rfl ?_
      exact h
    · replace h := h.2 c3
      refine r_iconst dX12_weave_48 ci_1 ?_
      refine r_goto (tgt := 53) dX12_weave_49 (by decide) ?_
      refine r_iadd dX12_weave_53 ?_
      refine r_istore_n dX12_weave_54 rfl (by decide) rfl ?_
      refine r_iconst dX12_weave_55 ci_0 ?_
      refine r_istore dX12_weave_56 (by decide) rfl ?_
      refine r_lv [3, 1, 4, 2, 0] rfl ?_
      exact h

theorem w_X12_weave_4 {l : Launch} {D : zDD} {b : Nat} (x1 x2 : Int32) (σ : zSg) (τ : zLm) {Q : Int32 → zSg → zLm → Prop} (h : (25 ≤ x2 → AI l D b M_X12_weave 3 G0 Q 25 [(0, .ref (b + 125)), (1, .int x1), (2, .int 0)] [] G0 σ τ) ∧ (¬ 25 ≤ x2 → (vp_in x2 25 ∧ AI l D b M_X12_weave 3 G0 Q 4 [(0, .ref (b + 125)), (1, .int x1), (2, .int (x2 + 1))] [] G0 (st2 σ 138 x2.toNatClampNeg 0) τ))) : AI l D b M_X12_weave 3 G0 Q 4 [(0, .ref (b + 125)), (1, .int x1), (2, .int x2)] [] G0 σ τ := by
  refine r_iload_n 2 dX12_weave_4 rfl rfl ?_
  refine r_bipush dX12_weave_5 cb_25 ?_
  refine r_icmp_ge (tgt := 23) dX12_weave_7 (by decide) (fun c1 => ?_) (fun c1 => ?_)
  · replace h := h.1 c1
    refine r_iconst dX12_weave_23 ci_0 ?_
    refine r_istore_n dX12_weave_24 rfl (by decide) rfl ?_
    refine r_lv [1, 2, 0] rfl ?_
    exact h
  · replace h := h.2 c1
    refine r_aload_n 0 dX12_weave_10 rfl rfl ?_
    refine r_getR (j := 29) (by decide) (congrArg Prod.fst k0_125) c12_11 (by decide) rfl g0_125_29 tw_839 dX12_weave_11 ?_
    refine r_iload_n 2 dX12_weave_14 rfl rfl ?_
    refine r_iconst dX12_weave_15 ci_0 ?_
    refine r_iast (by decide) k0_138 dX12_weave_16 h.1 ?_
    replace h := h.2
    refine r_inc 2 dX12_weave_17 rfl ci_1 (by decide) rfl ?_
    refine r_goto (tgt := 4) dX12_weave_20 (by decide) ?_
    refine r_lv [1, 2, 0] rfl ?_
    exact h

theorem w_X12_weave_0 {l : Launch} {D : zDD} {b : Nat} (σ : zSg) (τ : zLm) {Q : Int32 → zSg → zLm → Prop} (h : AI l D b M_X12_weave 3 G0 Q 4 [(0, .ref (b + 125)), (1, .int 0), (2, .int 0)] [] G0 σ τ) : AI l D b M_X12_weave 3 G0 Q 0 [(0, .ref (b + 125))] [] G0 σ τ := by
  refine r_iconst dX12_weave_0 ci_0 ?_
  refine r_istore_n dX12_weave_1 rfl (by decide) rfl ?_
  refine r_iconst dX12_weave_2 ci_0 ?_
  refine r_istore_n dX12_weave_3 rfl (by decide) rfl ?_
  refine r_lv [2, 1, 0] rfl ?_
  exact h
theorem s_X12_weave {l : Launch} {D : zDD} {b : Nat} (σ : zSg) (τ : zLm) {Q : Int32 → zSg → zLm → Prop} (h : AI l D b M_X12_weave 3 G0 Q 4 [(0, .ref (b + 125)), (1, .int 0), (2, .int 0)] [] G0 σ τ) : SI l D b M_X12_weave 3 G0 [.ref (b + 125)] σ τ Q := zS.of (by decide) (Nat.le_of_ble_eq_true rfl) rfl (w_X12_weave_0 σ τ h)

theorem dX12_readsClause_0 : decode cX12_readsClause 0 = .ok (.aload_n 0, 1) := by decide +kernel
theorem dX12_readsClause_1 : decode cX12_readsClause 1 = .ok (.invokevirtual 89, 3) := by decide +kernel
theorem dX12_readsClause_4 : decode cX12_readsClause 4 = .ok (.istore_n 1, 1) := by decide +kernel
theorem dX12_readsClause_5 : decode cX12_readsClause 5 = .ok (.aload_n 0, 1) := by decide +kernel
theorem dX12_readsClause_6 : decode cX12_readsClause 6 = .ok (.getfield 79, 3) := by decide +kernel
theorem dX12_readsClause_9 : decode cX12_readsClause 9 = .ok (.istore_n 2, 1) := by decide +kernel
theorem dX12_readsClause_10 : decode cX12_readsClause 10 = .ok (.aload_n 0, 1) := by decide +kernel
theorem dX12_readsClause_11 : decode cX12_readsClause 11 = .ok (.dup, 1) := by decide +kernel
theorem dX12_readsClause_12 : decode cX12_readsClause 12 = .ok (.getfield 79, 3) := by decide +kernel
theorem dX12_readsClause_15 : decode cX12_readsClause 15 = .ok (.iconst 1, 1) := by decide +kernel
theorem dX12_readsClause_16 : decode cX12_readsClause 16 = .ok (.iadd, 1) := by decide +kernel
theorem dX12_readsClause_17 : decode cX12_readsClause 17 = .ok (.putfield 79, 3) := by decide +kernel
theorem dX12_readsClause_20 : decode cX12_readsClause 20 = .ok (.iload_n 1, 1) := by decide +kernel
theorem dX12_readsClause_21 : decode cX12_readsClause 21 = .ok (.bipush 102, 2) := by decide +kernel
theorem dX12_readsClause_23 : decode cX12_readsClause 23 = .ok (.if_icmp .ne 15, 3) := by decide +kernel
theorem dX12_readsClause_26 : decode cX12_readsClause 26 = .ok (.aload_n 0, 1) := by decide +kernel
theorem dX12_readsClause_27 : decode cX12_readsClause 27 = .ok (.getfield 106, 3) := by decide +kernel
theorem dX12_readsClause_30 : decode cX12_readsClause 30 = .ok (.ifCond .ne 8, 3) := by decide +kernel
theorem dX12_readsClause_33 : decode cX12_readsClause 33 = .ok (.aload_n 0, 1) := by decide +kernel
theorem dX12_readsClause_34 : decode cX12_readsClause 34 = .ok (.invokevirtual 119, 3) := by decide +kernel
theorem dX12_readsClause_37 : decode cX12_readsClause 37 = .ok (.ireturn, 1) := by decide +kernel
theorem dX12_readsClause_38 : decode cX12_readsClause 38 = .ok (.iload_n 1, 1) := by decide +kernel
theorem dX12_readsClause_39 : decode cX12_readsClause 39 = .ok (.bipush 102, 2) := by decide +kernel
theorem dX12_readsClause_41 : decode cX12_readsClause 41 = .ok (.if_icmp .eq 15, 3) := by decide +kernel
theorem dX12_readsClause_44 : decode cX12_readsClause 44 = .ok (.iload_n 1, 1) := by decide +kernel
theorem dX12_readsClause_45 : decode cX12_readsClause 45 = .ok (.bipush 116, 2) := by decide +kernel
theorem dX12_readsClause_47 : decode cX12_readsClause 47 = .ok (.if_icmp .eq 9, 3) := by decide +kernel
theorem dX12_readsClause_50 : decode cX12_readsClause 50 = .ok (.iload_n 1, 1) := by decide +kernel
theorem dX12_readsClause_51 : decode cX12_readsClause 51 = .ok (.bipush 101, 2) := by decide +kernel
theorem dX12_readsClause_53 : decode cX12_readsClause 53 = .ok (.if_icmp .ne 7, 3) := by decide +kernel
theorem dX12_readsClause_56 : decode cX12_readsClause 56 = .ok (.iconst 1, 1) := by decide +kernel
theorem dX12_readsClause_57 : decode cX12_readsClause 57 = .ok (.goto 4, 3) := by decide +kernel
theorem dX12_readsClause_60 : decode cX12_readsClause 60 = .ok (.iconst 0, 1) := by decide +kernel
theorem dX12_readsClause_61 : decode cX12_readsClause 61 = .ok (.istore_n 3, 1) := by decide +kernel
theorem dX12_readsClause_62 : decode cX12_readsClause 62 = .ok (.iload_n 3, 1) := by decide +kernel
theorem dX12_readsClause_63 : decode cX12_readsClause 63 = .ok (.ifCond .eq 10, 3) := by decide +kernel
theorem dX12_readsClause_66 : decode cX12_readsClause 66 = .ok (.aload_n 0, 1) := by decide +kernel
theorem dX12_readsClause_67 : decode cX12_readsClause 67 = .ok (.getfield 106, 3) := by decide +kernel
theorem dX12_readsClause_70 : decode cX12_readsClause 70 = .ok (.ifCond .ne 12, 3) := by decide +kernel
theorem dX12_readsClause_73 : decode cX12_readsClause 73 = .ok (.aload_n 0, 1) := by decide +kernel
theorem dX12_readsClause_74 : decode cX12_readsClause 74 = .ok (.iconst 1, 1) := by decide +kernel
theorem dX12_readsClause_75 : decode cX12_readsClause 75 = .ok (.iload_n 2, 1) := by decide +kernel
theorem dX12_readsClause_76 : decode cX12_readsClause 76 = .ok (.invokevirtual 93, 3) := by decide +kernel
theorem dX12_readsClause_79 : decode cX12_readsClause 79 = .ok (.pop, 1) := by decide +kernel
theorem dX12_readsClause_80 : decode cX12_readsClause 80 = .ok (.iconst 0, 1) := by decide +kernel
theorem dX12_readsClause_81 : decode cX12_readsClause 81 = .ok (.ireturn, 1) := by decide +kernel
theorem dX12_readsClause_82 : decode cX12_readsClause 82 = .ok (.iload_n 1, 1) := by decide +kernel
theorem dX12_readsClause_83 : decode cX12_readsClause 83 = .ok (.bipush 102, 2) := by decide +kernel
theorem dX12_readsClause_85 : decode cX12_readsClause 85 = .ok (.if_icmp .eq 33, 3) := by decide +kernel
theorem dX12_readsClause_88 : decode cX12_readsClause 88 = .ok (.iload_n 1, 1) := by decide +kernel
theorem dX12_readsClause_89 : decode cX12_readsClause 89 = .ok (.bipush 116, 2) := by decide +kernel
theorem dX12_readsClause_91 : decode cX12_readsClause 91 = .ok (.if_icmp .ne 12, 3) := by decide +kernel
theorem dX12_readsClause_94 : decode cX12_readsClause 94 = .ok (.aload_n 0, 1) := by decide +kernel
theorem dX12_readsClause_95 : decode cX12_readsClause 95 = .ok (.getfield 113, 3) := by decide +kernel
theorem dX12_readsClause_98 : decode cX12_readsClause 98 = .ok (.bipush 6, 2) := by decide +kernel
theorem dX12_readsClause_100 : decode cX12_readsClause 100 = .ok (.if_icmp .eq 18, 3) := by decide +kernel
theorem dX12_readsClause_103 : decode cX12_readsClause 103 = .ok (.iload_n 1, 1) := by decide +kernel
theorem dX12_readsClause_104 : decode cX12_readsClause 104 = .ok (.bipush 101, 2) := by decide +kernel
theorem dX12_readsClause_106 : decode cX12_readsClause 106 = .ok (.if_icmp .ne 21, 3) := by decide +kernel
theorem dX12_readsClause_109 : decode cX12_readsClause 109 = .ok (.aload_n 0, 1) := by decide +kernel
theorem dX12_readsClause_110 : decode cX12_readsClause 110 = .ok (.getfield 116, 3) := by decide +kernel
theorem dX12_readsClause_113 : decode cX12_readsClause 113 = .ok (.bipush 6, 2) := by decide +kernel
theorem dX12_readsClause_115 : decode cX12_readsClause 115 = .ok (.if_icmp .ne 12, 3) := by decide +kernel
theorem dX12_readsClause_118 : decode cX12_readsClause 118 = .ok (.aload_n 0, 1) := by decide +kernel
theorem dX12_readsClause_119 : decode cX12_readsClause 119 = .ok (.iconst 3, 1) := by decide +kernel
theorem dX12_readsClause_120 : decode cX12_readsClause 120 = .ok (.iload_n 2, 1) := by decide +kernel
theorem dX12_readsClause_121 : decode cX12_readsClause 121 = .ok (.invokevirtual 93, 3) := by decide +kernel
theorem dX12_readsClause_124 : decode cX12_readsClause 124 = .ok (.pop, 1) := by decide +kernel
theorem dX12_readsClause_125 : decode cX12_readsClause 125 = .ok (.iconst 0, 1) := by decide +kernel
theorem dX12_readsClause_126 : decode cX12_readsClause 126 = .ok (.ireturn, 1) := by decide +kernel
theorem dX12_readsClause_127 : decode cX12_readsClause 127 = .ok (.iload_n 1, 1) := by decide +kernel
theorem dX12_readsClause_128 : decode cX12_readsClause 128 = .ok (.bipush 116, 2) := by decide +kernel
theorem dX12_readsClause_130 : decode cX12_readsClause 130 = .ok (.if_icmp .ne 10, 3) := by decide +kernel
theorem dX12_readsClause_133 : decode cX12_readsClause 133 = .ok (.aload_n 0, 1) := by decide +kernel
theorem dX12_readsClause_134 : decode cX12_readsClause 134 = .ok (.invokevirtual 123, 3) := by decide +kernel
theorem dX12_readsClause_137 : decode cX12_readsClause 137 = .ok (.goto 7, 3) := by decide +kernel
theorem dX12_readsClause_140 : decode cX12_readsClause 140 = .ok (.aload_n 0, 1) := by decide +kernel
theorem dX12_readsClause_141 : decode cX12_readsClause 141 = .ok (.invokevirtual 126, 3) := by decide +kernel
theorem dX12_readsClause_144 : decode cX12_readsClause 144 = .ok (.ireturn, 1) := by decide +kernel
theorem w_X12_readsClause_127 {l : Launch} {D : zDD} {b : Nat} (x1 : Int32) (σ : zSg) (τ : zLm) {Q : Int32 → zSg → zLm → Prop} (h : (¬ x1 = 116 → (SI l D b M_X12_readsEater 3 G0 [.ref (b + 125)] σ τ (fun r2 σ2 τ2 => (r2 = 0 ∨ r2 = 1) ∧ Q r2 σ2 τ2))) ∧ (x1 = 116 → (SI l D b M_X12_readsTrouble 3 G0 [.ref (b + 125)] σ τ (fun r3 σ3 τ3 => (r3 = 0 ∨ r3 = 1) ∧ Q r3 σ3 τ3)))) : AI l D b M_X12_readsClause 4 G0 Q 127 [(0, .ref (b + 125)), (1, .int x1)] [] G0 σ τ := by
  refine r_iload_n 1 dX12_readsClause_127 rfl rfl ?_
  refine r_bipush dX12_readsClause_128 cb_116 ?_
  refine r_icmp_ne (tgt := 140) dX12_readsClause_130 (by decide) (fun c1 => ?_) (fun c1 => ?_)
  · replace h := h.1 c1
    refine r_aload_n 0 dX12_readsClause_140 rfl rfl ?_
    refine rc_VI (h' := 3) [] okv_X12_readsEater (by decide) (congrArg Prod.fst k0_125) tw_969 rfl rfl (Nat.le_of_ble_eq_true rfl) dX12_readsClause_141 (by decide) h (fun r2 σ2 τ2 h => ?_)
    exact r_zret rfl (Nat.le_refl _) (Nat.le_refl _) dX12_readsClause_144 h.1 ⟨rfl, rfl, rfl, _, rfl, h.2⟩
  · replace h := h.2 c1
    refine r_aload_n 0 dX12_readsClause_133 rfl rfl ?_
    refine rc_VI (h' := 3) [] okv_X12_readsTrouble (by decide) (congrArg Prod.fst k0_125) tw_965 rfl rfl (Nat.le_of_ble_eq_true rfl) dX12_readsClause_134 (by decide) h (fun r3 σ3 τ3 h => ?_)
    refine r_goto (tgt := 144) dX12_readsClause_137 (by decide) ?_
    exact r_zret rfl (Nat.le_refl _) (Nat.le_refl _) dX12_readsClause_144 h.1 ⟨rfl, rfl, rfl, _, rfl, h.2⟩

theorem w_X12_readsClause_118 {l : Launch} {D : zDD} {b : Nat} (x2 : Int32) (σ : zSg) (τ : zLm) {Q : Int32 → zSg → zLm → Prop} (h : SI l D b M_X12_fails 0 G0 [.ref (b + 125), .int 3, .int x2] σ τ (fun r1 σ1 τ1 => Q 0 σ1 τ1)) : AI l D b M_X12_readsClause 4 G0 Q 118 [(0, .ref (b + 125)), (2, .int x2)] [] G0 σ τ := by
  refine r_aload_n 0 dX12_readsClause_118 rfl rfl ?_
  refine r_iconst dX12_readsClause_119 ci_3 ?_
  refine r_iload_n 1 dX12_readsClause_120 rfl rfl ?_
  refine rc_VI (h' := 0) [.int 3, .int x2] okv_X12_fails (by decide) (congrArg Prod.fst k0_125) tw_957 rfl rfl (Nat.le_of_ble_eq_true rfl) dX12_readsClause_121 (by decide) h (fun r1 σ1 τ1 h => ?_)
  refine r_pop dX12_readsClause_124 rfl ?_
  refine r_iconst dX12_readsClause_125 ci_0 ?_
  exact r_zret rfl (Nat.le_refl _) (Nat.le_refl _) dX12_readsClause_126 (Or.inl rfl) ⟨rfl, rfl, rfl, _, rfl, h⟩

theorem w_X12_readsClause_103 {l : Launch} {D : zDD} {b : Nat} (x1 x2 : Int32) (σ : zSg) (τ : zLm) {Q : Int32 → zSg → zLm → Prop} (h : (¬ x1 = 101 → AI l D b M_X12_readsClause 4 G0 Q 127 [(0, .ref (b + 125)), (1, .int x1)] [] G0 σ τ) ∧ (x1 = 101 → ((¬ (σ 125 9) = 6 → AI l D b M_X12_readsClause 4 G0 Q 127 [(0, .ref (b + 125)), (1, .int x1)] [] G0 σ τ) ∧ ((σ 125 9) = 6 → AI l D b M_X12_readsClause 4 G0 Q 118 [(0, .ref (b + 125)), (2, .int x2)] [] G0 σ τ)))) : AI l D b M_X12_readsClause 4 G0 Q 103 [(0, .ref (b + 125)), (1, .int x1), (2, .int x2)] [] G0 σ τ := by
  refine r_iload_n 1 dX12_readsClause_103 rfl rfl ?_
  refine r_bipush dX12_readsClause_104 cb_101 ?_
  refine r_icmp_ne (tgt := 127) dX12_readsClause_106 (by decide) (fun c1 => ?_) (fun c1 => ?_)
  · replace h := h.1 c1
    refine r_lv [0, 1] rfl ?_
    exact h
  · replace h := h.2 c1
    refine r_aload_n 0 dX12_readsClause_109 rfl rfl ?_
    refine r_getI (j := 9) (by decide) (congrArg Prod.fst k0_125) c12_11 (by decide) rfl tw_819 dX12_readsClause_110 ?_
    refine r_bipush dX12_readsClause_113 cb_6 ?_
    refine r_icmp_ne (tgt := 127) dX12_readsClause_115 (by decide) (fun c2 => ?_) (fun c2 => ?_)
    · replace h := h.1 c2
      refine r_lv [0, 1] rfl ?_
      exact h
    · replace h := h.2 c2
      refine r_lv [0, 2] rfl ?_
      exact h

theorem w_X12_readsClause_73 {l : Launch} {D : zDD} {b : Nat} (x2 : Int32) (σ : zSg) (τ : zLm) {Q : Int32 → zSg → zLm → Prop} (h : SI l D b M_X12_fails 0 G0 [.ref (b + 125), .int 1, .int x2] σ τ (fun r1 σ1 τ1 => Q 0 σ1 τ1)) : AI l D b M_X12_readsClause 4 G0 Q 73 [(0, .ref (b + 125)), (2, .int x2)] [] G0 σ τ := by
  refine r_aload_n 0 dX12_readsClause_73 rfl rfl ?_
  refine r_iconst dX12_readsClause_74 ci_1 ?_
  refine r_iload_n 1 dX12_readsClause_75 rfl rfl ?_
  refine rc_VI (h' := 0) [.int 1, .int x2] okv_X12_fails (by decide) (congrArg Prod.fst k0_125) tw_957 rfl rfl (Nat.le_of_ble_eq_true rfl) dX12_readsClause_76 (by decide) h (fun r1 σ1 τ1 h => ?_)
  refine r_pop dX12_readsClause_79 rfl ?_
  refine r_iconst dX12_readsClause_80 ci_0 ?_
  exact r_zret rfl (Nat.le_refl _) (Nat.le_refl _) dX12_readsClause_81 (Or.inl rfl) ⟨rfl, rfl, rfl, _, rfl, h⟩

theorem w_X12_readsClause_61 {l : Launch} {D : zDD} {b : Nat} (x1 x2 y0 : Int32) (σ : zSg) (τ : zLm) {Q : Int32 → zSg → zLm → Prop} (h : (y0 = 0 → AI l D b M_X12_readsClause 4 G0 Q 73 [(0, .ref (b + 125)), (2, .int x2)] [] G0 σ τ) ∧ (¬ y0 = 0 → ((¬ (σ 125 7) = 0 → ((x1 = 102 → AI l D b M_X12_readsClause 4 G0 Q 118 [(0, .ref (b + 125)), (2, .int x2)] [] G0 σ τ) ∧ (¬ x1 = 102 → ((¬ x1 = 116 → AI l D b M_X12_readsClause 4 G0 Q 103 [(0, .ref (b + 125)), (1, .int x1), (2, .int x2)] [] G0 σ τ) ∧ (x1 = 116 → (((σ 125 8) = 6 → AI l D b M_X12_readsClause 4 G0 Q 118 [(0, .ref (b + 125)), (2, .int x2)] [] G0 σ τ) ∧ (¬ (σ 125 8) = 6 → AI l D b M_X12_readsClause 4 G0 Q 103 [(0, .ref (b + 125)), (1, .int x1), (2, .int x2)] [] G0 σ τ))))))) ∧ ((σ 125 7) = 0 → AI l D b M_X12_readsClause 4 G0 Q 73 [(0, .ref (b + 125)), (2, .int x2)] [] G0 σ τ)))) : AI l D b M_X12_readsClause 4 G0 Q 61 [(0, .ref (b + 125)), (1, .int x1), (2, .int x2)] [.int y0] G0 σ τ := by
  refine r_istore_n dX12_readsClause_61 rfl (by decide) rfl ?_
  refine r_iload_n 0 dX12_readsClause_62 rfl rfl ?_
  refine r_if_eq (tgt := 73) dX12_readsClause_63 (by decide) (fun c1 => ?_) (fun c1 => ?_)
  · replace h := h.1 c1
    refine r_lv [1, 3] rfl ?_
    exact h
  · replace h := h.2 c1
    refine r_aload_n 1 dX12_readsClause_66 rfl rfl ?_
    refine r_getI (j := 7) (by decide) (congrArg Prod.fst k0_125) c12_11 (by decide) rfl tw_817 dX12_readsClause_67 ?_
    refine r_if_ne (tgt := 82) dX12_readsClause_70 (by decide) (fun c2 => ?_) (fun c2 => ?_)
    · replace h := h.1 c2
      refine r_iload_n 2 dX12_readsClause_82 rfl rfl ?_
      refine r_bipush dX12_readsClause_83 cb_102 ?_
      refine r_icmp_eq (tgt := 118) dX12_readsClause_85 (by decide) (fun c3 => ?_) (fun c3 => ?_)
      · replace h := h.1 c3
        refine r_lv [1, 3] rfl ?_
        exact h
      · replace h := h.2 c3
        refine r_iload_n 2 dX12_readsClause_88 rfl rfl ?_
        refine r_bipush dX12_readsClause_89 cb_116 ?_
        refine r_icmp_ne (tgt := 103) dX12_readsClause_91 (by decide) (fun c4 => ?_) (fun c4 => ?_)
        · replace h := h.1 c4
          refine r_lv [1, 2, 3] rfl ?_
          exact h
        · replace h := h.2 c4
          refine r_aload_n 1 dX12_readsClause_94 rfl rfl ?_
          refine r_getI (j := 8) (by decide) (congrArg Prod.fst k0_125) c12_11 (by decide) rfl tw_818 dX12_readsClause_95 ?_
          refine r_bipush dX12_readsClause_98 cb_6 ?_
          refine r_icmp_eq (tgt := 118) dX12_readsClause_100 (by decide) (fun c5 => ?_) (fun c5 => ?_)
          · replace h := h.1 c5
            refine r_lv [1, 3] rfl ?_
            exact h
          · replace h := h.2 c5
            refine r_lv [1, 2, 3] rfl ?_
            exact h
    · replace h := h.2 c2
      refine r_lv [1, 3] rfl ?_
      exact h

theorem w_X12_readsClause_56 {l : Launch} {D : zDD} {b : Nat} (x1 x2 : Int32) (σ : zSg) (τ : zLm) {Q : Int32 → zSg → zLm → Prop} (h : AI l D b M_X12_readsClause 4 G0 Q 61 [(0, .ref (b + 125)), (1, .int x1), (2, .int x2)] [.int 1] G0 σ τ) : AI l D b M_X12_readsClause 4 G0 Q 56 [(0, .ref (b + 125)), (1, .int x1), (2, .int x2)] [] G0 σ τ := by
  refine r_iconst dX12_readsClause_56 ci_1 ?_
  refine r_goto (tgt := 61) dX12_readsClause_57 (by decide) ?_
  exact h

theorem w_X12_readsClause_38 {l : Launch} {D : zDD} {b : Nat} (x1 x2 : Int32) (σ : zSg) (τ : zLm) {Q : Int32 → zSg → zLm → Prop} (h : (x1 = 102 → AI l D b M_X12_readsClause 4 G0 Q 56 [(0, .ref (b + 125)), (1, .int x1), (2, .int x2)] [] G0 σ τ) ∧ (¬ x1 = 102 → ((x1 = 116 → AI l D b M_X12_readsClause 4 G0 Q 56 [(0, .ref (b + 125)), (1, .int x1), (2, .int x2)] [] G0 σ τ) ∧ (¬ x1 = 116 → ((¬ x1 = 101 → AI l D b M_X12_readsClause 4 G0 Q 61 [(0, .ref (b + 125)), (1, .int x1), (2, .int x2)] [.int 0] G0 σ τ) ∧ (x1 = 101 → AI l D b M_X12_readsClause 4 G0 Q 56 [(0, .ref (b + 125)), (1, .int x1), (2, .int x2)] [] G0 σ τ)))))) : AI l D b M_X12_readsClause 4 G0 Q 38 [(0, .ref (b + 125)), (1, .int x1), (2, .int x2)] [] G0 σ τ := by
  refine r_iload_n 1 dX12_readsClause_38 rfl rfl ?_
  refine r_bipush dX12_readsClause_39 cb_102 ?_
  refine r_icmp_eq (tgt := 56) dX12_readsClause_41 (by decide) (fun c1 => ?_) (fun c1 => ?_)
  · replace h := h.1 c1
    exact h
  · replace h := h.2 c1
    refine r_iload_n 1 dX12_readsClause_44 rfl rfl ?_
    refine r_bipush dX12_readsClause_45 cb_116 ?_
    refine r_icmp_eq (tgt := 56) dX12_readsClause_47 (by decide) (fun c2 => ?_) (fun c2 => ?_)
    · replace h := h.1 c2
      exact h
    · replace h := h.2 c2
      refine r_iload_n 1 dX12_readsClause_50 rfl rfl ?_
      refine r_bipush dX12_readsClause_51 cb_101 ?_
      refine r_icmp_ne (tgt := 60) dX12_readsClause_53 (by decide) (fun c3 => ?_) (fun c3 => ?_)
      · replace h := h.1 c3
        refine r_iconst dX12_readsClause_60 ci_0 ?_
        exact h
      · replace h := h.2 c3
        exact h

theorem w_X12_readsClause_0 {l : Launch} {D : zDD} {b : Nat} (σ : zSg) (τ : zLm) {Q : Int32 → zSg → zLm → Prop} (h : SI l D b M_X12_nextLetter 1 G0 [.ref (b + 125)] σ τ (fun r1 σ1 τ1 => (¬ r1 = 102 → AI l D b M_X12_readsClause 4 G0 Q 38 [(0, .ref (b + 125)), (1, .int r1), (2, .int (σ1 125 2))] [] G0 (st2 σ1 125 2 ((σ1 125 2) + 1)) τ1) ∧ (r1 = 102 → ((¬ ((st2 σ1 125 2 ((σ1 125 2) + 1)) 125 7) = 0 → AI l D b M_X12_readsClause 4 G0 Q 38 [(0, .ref (b + 125)), (1, .int r1), (2, .int (σ1 125 2))] [] G0 (st2 σ1 125 2 ((σ1 125 2) + 1)) τ1) ∧ (((st2 σ1 125 2 ((σ1 125 2) + 1)) 125 7) = 0 → (SI l D b M_X12_readsHead 3 G0 [.ref (b + 125)] (st2 σ1 125 2 ((σ1 125 2) + 1)) τ1 (fun r4 σ4 τ4 => (r4 = 0 ∨ r4 = 1) ∧ Q r4 σ4 τ4))))))) : AI l D b M_X12_readsClause 4 G0 Q 0 [(0, .ref (b + 125))] [] G0 σ τ := by
  refine r_aload_n 0 dX12_readsClause_0 rfl rfl ?_
  refine rc_VI (h' := 1) [] okv_X12_nextLetter (by decide) (congrArg Prod.fst k0_125) tw_937 rfl rfl (Nat.le_of_ble_eq_true rfl) dX12_readsClause_1 (by decide) h (fun r1 σ1 τ1 h => ?_)
  refine r_istore_n dX12_readsClause_4 rfl (by decide) rfl ?_
  refine r_aload_n 1 dX12_readsClause_5 rfl rfl ?_
  refine r_getI (j := 2) (by decide) (congrArg Prod.fst k0_125) c12_11 (by decide) rfl tw_812 dX12_readsClause_6 ?_
  refine r_istore_n dX12_readsClause_9 rfl (by decide) rfl ?_
  refine r_aload_n 2 dX12_readsClause_10 rfl rfl ?_
  refine r_dup dX12_readsClause_11 rfl ?_
  refine r_getI (j := 2) (by decide) (congrArg Prod.fst k0_125) c12_11 (by decide) rfl tw_812 dX12_readsClause_12 ?_
  refine r_iconst dX12_readsClause_15 ci_1 ?_
  refine r_iadd dX12_readsClause_16 ?_
  refine r_putI (j := 2) (by decide) (congrArg Prod.fst k0_125) c12_11 (by decide) rfl (Or.inl rfl) tw_812 dX12_readsClause_17 ?_
  refine r_iload_n 1 dX12_readsClause_20 rfl rfl ?_
  refine r_bipush dX12_readsClause_21 cb_102 ?_
  refine r_icmp_ne (tgt := 38) dX12_readsClause_23 (by decide) (fun c2 => ?_) (fun c2 => ?_)
  · replace h := h.1 c2
    refine r_lv [2, 1, 0] rfl ?_
    exact h
  · replace h := h.2 c2
    refine r_aload_n 2 dX12_readsClause_26 rfl rfl ?_
    refine r_getI (j := 7) (by decide) (congrArg Prod.fst k0_125) c12_11 (by decide) rfl tw_817 dX12_readsClause_27 ?_
    refine r_if_ne (tgt := 38) dX12_readsClause_30 (by decide) (fun c3 => ?_) (fun c3 => ?_)
    · replace h := h.1 c3
      refine r_lv [2, 1, 0] rfl ?_
      exact h
    · replace h := h.2 c3
      refine r_aload_n 2 dX12_readsClause_33 rfl rfl ?_
      refine rc_VI (h' := 3) [] okv_X12_readsHead (by decide) (congrArg Prod.fst k0_125) tw_949 rfl rfl (Nat.le_of_ble_eq_true rfl) dX12_readsClause_34 (by decide) h (fun r4 σ4 τ4 h => ?_)
      exact r_zret rfl (Nat.le_refl _) (Nat.le_refl _) dX12_readsClause_37 h.1 ⟨rfl, rfl, rfl, _, rfl, h.2⟩
theorem s_X12_readsClause {l : Launch} {D : zDD} {b : Nat} (σ : zSg) (τ : zLm) {Q : Int32 → zSg → zLm → Prop} (h : SI l D b M_X12_nextLetter 1 G0 [.ref (b + 125)] σ τ (fun r1 σ1 τ1 => (¬ r1 = 102 → AI l D b M_X12_readsClause 4 G0 Q 38 [(0, .ref (b + 125)), (1, .int r1), (2, .int (σ1 125 2))] [] G0 (st2 σ1 125 2 ((σ1 125 2) + 1)) τ1) ∧ (r1 = 102 → ((¬ ((st2 σ1 125 2 ((σ1 125 2) + 1)) 125 7) = 0 → AI l D b M_X12_readsClause 4 G0 Q 38 [(0, .ref (b + 125)), (1, .int r1), (2, .int (σ1 125 2))] [] G0 (st2 σ1 125 2 ((σ1 125 2) + 1)) τ1) ∧ (((st2 σ1 125 2 ((σ1 125 2) + 1)) 125 7) = 0 → (SI l D b M_X12_readsHead 3 G0 [.ref (b + 125)] (st2 σ1 125 2 ((σ1 125 2) + 1)) τ1 (fun r4 σ4 τ4 => (r4 = 0 ∨ r4 = 1) ∧ Q r4 σ4 τ4))))))) : SI l D b M_X12_readsClause 4 G0 [.ref (b + 125)] σ τ Q := zS.of (by decide) (Nat.le_of_ble_eq_true rfl) rfl (w_X12_readsClause_0 σ τ h)

theorem dX12_told_0 : decode cX12_told 0 = .ok (.iload_n 1, 1) := by decide +kernel
theorem dX12_told_1 : decode cX12_told 1 = .ok (.tableswitch 193 0 18 #[91, 96, 101, 106, 111, 116, 123, 129, 135, 141, 146, 153, 158, 163, 168, 173, 178, 183, 188], 91) := by decide +kernel
theorem dX12_told_92 : decode cX12_told 92 = .ok (.aload_n 0, 1) := by decide +kernel
theorem dX12_told_93 : decode cX12_told 93 = .ok (.getfield 135, 3) := by decide +kernel
theorem dX12_told_96 : decode cX12_told 96 = .ok (.ireturn, 1) := by decide +kernel
theorem dX12_told_97 : decode cX12_told 97 = .ok (.aload_n 0, 1) := by decide +kernel
theorem dX12_told_98 : decode cX12_told 98 = .ok (.getfield 138, 3) := by decide +kernel
theorem dX12_told_101 : decode cX12_told 101 = .ok (.ireturn, 1) := by decide +kernel
theorem dX12_told_102 : decode cX12_told 102 = .ok (.aload_n 0, 1) := by decide +kernel
theorem dX12_told_103 : decode cX12_told 103 = .ok (.getfield 141, 3) := by decide +kernel
theorem dX12_told_106 : decode cX12_told 106 = .ok (.ireturn, 1) := by decide +kernel
theorem dX12_told_107 : decode cX12_told 107 = .ok (.aload_n 0, 1) := by decide +kernel
theorem dX12_told_108 : decode cX12_told 108 = .ok (.getfield 144, 3) := by decide +kernel
theorem dX12_told_111 : decode cX12_told 111 = .ok (.ireturn, 1) := by decide +kernel
theorem dX12_told_112 : decode cX12_told 112 = .ok (.aload_n 0, 1) := by decide +kernel
theorem dX12_told_113 : decode cX12_told 113 = .ok (.getfield 75, 3) := by decide +kernel
theorem dX12_told_116 : decode cX12_told 116 = .ok (.ireturn, 1) := by decide +kernel
theorem dX12_told_117 : decode cX12_told 117 = .ok (.aload_n 0, 1) := by decide +kernel
theorem dX12_told_118 : decode cX12_told 118 = .ok (.getfield 35, 3) := by decide +kernel
theorem dX12_told_121 : decode cX12_told 121 = .ok (.iconst 0, 1) := by decide +kernel
theorem dX12_told_122 : decode cX12_told 122 = .ok (.iaload, 1) := by decide +kernel
theorem dX12_told_123 : decode cX12_told 123 = .ok (.ireturn, 1) := by decide +kernel
theorem dX12_told_124 : decode cX12_told 124 = .ok (.aload_n 0, 1) := by decide +kernel
theorem dX12_told_125 : decode cX12_told 125 = .ok (.iconst 1, 1) := by decide +kernel
theorem dX12_told_126 : decode cX12_told 126 = .ok (.invokevirtual 171, 3) := by decide +kernel
theorem dX12_told_129 : decode cX12_told 129 = .ok (.ireturn, 1) := by decide +kernel
theorem dX12_told_130 : decode cX12_told 130 = .ok (.aload_n 0, 1) := by decide +kernel
theorem dX12_told_131 : decode cX12_told 131 = .ok (.iconst 2, 1) := by decide +kernel
theorem dX12_told_132 : decode cX12_told 132 = .ok (.invokevirtual 171, 3) := by decide +kernel
theorem dX12_told_135 : decode cX12_told 135 = .ok (.ireturn, 1) := by decide +kernel
theorem dX12_told_136 : decode cX12_told 136 = .ok (.aload_n 0, 1) := by decide +kernel
theorem dX12_told_137 : decode cX12_told 137 = .ok (.iconst 3, 1) := by decide +kernel
theorem dX12_told_138 : decode cX12_told 138 = .ok (.invokevirtual 171, 3) := by decide +kernel
theorem dX12_told_141 : decode cX12_told 141 = .ok (.ireturn, 1) := by decide +kernel
theorem dX12_told_142 : decode cX12_told 142 = .ok (.aload_n 0, 1) := by decide +kernel
theorem dX12_told_143 : decode cX12_told 143 = .ok (.invokevirtual 174, 3) := by decide +kernel
theorem dX12_told_146 : decode cX12_told 146 = .ok (.ireturn, 1) := by decide +kernel
theorem dX12_told_147 : decode cX12_told 147 = .ok (.aload_n 0, 1) := by decide +kernel
theorem dX12_told_148 : decode cX12_told 148 = .ok (.getfield 35, 3) := by decide +kernel
theorem dX12_told_151 : decode cX12_told 151 = .ok (.iconst 1, 1) := by decide +kernel
theorem dX12_told_152 : decode cX12_told 152 = .ok (.iaload, 1) := by decide +kernel
theorem dX12_told_153 : decode cX12_told 153 = .ok (.ireturn, 1) := by decide +kernel
theorem dX12_told_154 : decode cX12_told 154 = .ok (.aload_n 0, 1) := by decide +kernel
theorem dX12_told_155 : decode cX12_told 155 = .ok (.invokevirtual 168, 3) := by decide +kernel
theorem dX12_told_158 : decode cX12_told 158 = .ok (.ireturn, 1) := by decide +kernel
theorem dX12_told_159 : decode cX12_told 159 = .ok (.aload_n 0, 1) := by decide +kernel
theorem dX12_told_160 : decode cX12_told 160 = .ok (.invokevirtual 177, 3) := by decide +kernel
theorem dX12_told_163 : decode cX12_told 163 = .ok (.ireturn, 1) := by decide +kernel
theorem dX12_told_164 : decode cX12_told 164 = .ok (.aload_n 0, 1) := by decide +kernel
theorem dX12_told_165 : decode cX12_told 165 = .ok (.getfield 150, 3) := by decide +kernel
theorem dX12_told_168 : decode cX12_told 168 = .ok (.ireturn, 1) := by decide +kernel
theorem dX12_told_169 : decode cX12_told 169 = .ok (.aload_n 0, 1) := by decide +kernel
theorem dX12_told_170 : decode cX12_told 170 = .ok (.invokevirtual 180, 3) := by decide +kernel
theorem dX12_told_173 : decode cX12_told 173 = .ok (.ireturn, 1) := by decide +kernel
theorem dX12_told_174 : decode cX12_told 174 = .ok (.aload_n 0, 1) := by decide +kernel
theorem dX12_told_175 : decode cX12_told 175 = .ok (.invokevirtual 183, 3) := by decide +kernel
theorem dX12_told_178 : decode cX12_told 178 = .ok (.ireturn, 1) := by decide +kernel
theorem dX12_told_179 : decode cX12_told 179 = .ok (.aload_n 0, 1) := by decide +kernel
theorem dX12_told_180 : decode cX12_told 180 = .ok (.invokevirtual 186, 3) := by decide +kernel
theorem dX12_told_183 : decode cX12_told 183 = .ok (.ireturn, 1) := by decide +kernel
theorem dX12_told_184 : decode cX12_told 184 = .ok (.aload_n 0, 1) := by decide +kernel
theorem dX12_told_185 : decode cX12_told 185 = .ok (.getfield 153, 3) := by decide +kernel
theorem dX12_told_188 : decode cX12_told 188 = .ok (.ireturn, 1) := by decide +kernel
theorem dX12_told_189 : decode cX12_told 189 = .ok (.aload_n 0, 1) := by decide +kernel
theorem dX12_told_190 : decode cX12_told 190 = .ok (.getfield 147, 3) := by decide +kernel
theorem dX12_told_193 : decode cX12_told 193 = .ok (.ireturn, 1) := by decide +kernel
theorem dX12_told_194 : decode cX12_told 194 = .ok (.ldc 74, 2) := by decide +kernel
theorem dX12_told_196 : decode cX12_told 196 = .ok (.ireturn, 1) := by decide +kernel
theorem w_X12_told_0 {l : Launch} {D : zDD} {b : Nat} (p1 : Int32) (σ : zSg) (τ : zLm) {Q : Int32 → zSg → zLm → Prop} (h : ((p1.toInt < 0 ∨ (18 : Int) < p1.toInt) → Q (-1000000002) σ τ) ∧ (p1 = 0 → Q (σ 125 14) σ τ) ∧ (p1 = 1 → Q (σ 125 15) σ τ) ∧ (p1 = 2 → Q (σ 125 16) σ τ) ∧ (p1 = 3 → Q (σ 125 17) σ τ) ∧ (p1 = 4 → Q (σ 125 0) σ τ) ∧ (p1 = 5 → Q (σ 133 0) σ τ) ∧ (p1 = 6 → SI l D b M_X12_are 0 G0 [.ref (b + 125), .int 1] σ τ (fun r1 σ1 τ1 => Q r1 σ1 τ1)) ∧ (p1 = 7 → SI l D b M_X12_are 0 G0 [.ref (b + 125), .int 2] σ τ (fun r2 σ2 τ2 => Q r2 σ2 τ2)) ∧ (p1 = 8 → SI l D b M_X12_are 0 G0 [.ref (b + 125), .int 3] σ τ (fun r3 σ3 τ3 => Q r3 σ3 τ3)) ∧ (p1 = 9 → SI l D b M_X12_good 2 G0 [.ref (b + 125)] σ τ (fun r4 σ4 τ4 => Q r4 σ4 τ4)) ∧ (p1 = 10 → Q (σ 133 1) σ τ) ∧ (p1 = 11 → SI l D b M_X12_leftAll 1 G0 [.ref (b + 125)] σ τ (fun r5 σ5 τ5 => Q r5 σ5 τ5)) ∧ (p1 = 12 → SI l D b M_X12_strongest 1 G0 [.ref (b + 125)] σ τ (fun r6 σ6 τ6 => Q r6 σ6 τ6)) ∧ (p1 = 13 → Q (σ 125 26) σ τ) ∧ (p1 = 14 → SI l D b M_X12_within 3 G0 [.ref (b + 125)] σ τ (fun r7 σ7 τ7 => Q r7 σ7 τ7)) ∧ (p1 = 15 → SI l D b M_X12_fitMany 3 G0 [.ref (b + 125)] σ τ (fun r8 σ8 τ8 => Q r8 σ8 τ8)) ∧ (p1 = 16 → SI l D b M_X12_weave 3 G0 [.ref (b + 125)] σ τ (fun r9 σ9 τ9 => Q r9 σ9 τ9)) ∧ (p1 = 17 → Q (σ 125 30) σ τ) ∧ (p1 = 18 → Q (σ 125 21) σ τ)) : AI l D b M_X12_told 4 G0 Q 0 [(0, .ref (b + 125)), (1, .int p1)] [] G0 σ τ := by
  refine r_iload_n 1 dX12_told_0 rfl rfl ?_
  by_cases ho : p1.toInt < 0 ∨ (18 : Int) < p1.toInt
  · replace h := h.1 ho
    refine r_tableOut (tgt := 194) dX12_told_1 ho (by decide) ?_
    refine r_ldc (v := (-1000000002)) rfl tw_927 rfl dX12_told_194 ?_
    exact r_iret rfl (Nat.le_refl _) (Nat.le_refl _) dX12_told_196 ⟨rfl, rfl, rfl, _, rfl, h⟩
  · replace h := h.2
    rcases sw_18 ho with e9 | e9 | e9 | e9 | e9 | e9 | e9 | e9 | e9 | e9 | e9 | e9 | e9 | e9 | e9 | e9 | e9 | e9 | e9
    · replace h := h.1 e9
      refine r_tableIn (tgt := 92) (off := 91) dX12_told_1 (by rw [e9]; decide) (by rw [e9]; decide) (by rw [e9]; rfl) (by decide) ?_
      refine r_aload_n 0 dX12_told_92 rfl rfl ?_
      refine r_getI (j := 14) (by decide) (congrArg Prod.fst k0_125) c12_11 (by decide) rfl tw_824 dX12_told_93 ?_
      exact r_iret rfl (Nat.le_refl _) (Nat.le_refl _) dX12_told_96 ⟨rfl, rfl, rfl, _, rfl, h⟩
    · replace h := h.2.1 e9
      refine r_tableIn (tgt := 97) (off := 96) dX12_told_1 (by rw [e9]; decide) (by rw [e9]; decide) (by rw [e9]; rfl) (by decide) ?_
      refine r_aload_n 0 dX12_told_97 rfl rfl ?_
      refine r_getI (j := 15) (by decide) (congrArg Prod.fst k0_125) c12_11 (by decide) rfl tw_825 dX12_told_98 ?_
      exact r_iret rfl (Nat.le_refl _) (Nat.le_refl _) dX12_told_101 ⟨rfl, rfl, rfl, _, rfl, h⟩
    · replace h := h.2.2.1 e9
      refine r_tableIn (tgt := 102) (off := 101) dX12_told_1 (by rw [e9]; decide) (by rw [e9]; decide) (by rw [e9]; rfl) (by decide) ?_
      refine r_aload_n 0 dX12_told_102 rfl rfl ?_
      refine r_getI (j := 16) (by decide) (congrArg Prod.fst k0_125) c12_11 (by decide) rfl tw_826 dX12_told_103 ?_
      exact r_iret rfl (Nat.le_refl _) (Nat.le_refl _) dX12_told_106 ⟨rfl, rfl, rfl, _, rfl, h⟩
    · replace h := h.2.2.2.1 e9
      refine r_tableIn (tgt := 107) (off := 106) dX12_told_1 (by rw [e9]; decide) (by rw [e9]; decide) (by rw [e9]; rfl) (by decide) ?_
      refine r_aload_n 0 dX12_told_107 rfl rfl ?_
      refine r_getI (j := 17) (by decide) (congrArg Prod.fst k0_125) c12_11 (by decide) rfl tw_827 dX12_told_108 ?_
      exact r_iret rfl (Nat.le_refl _) (Nat.le_refl _) dX12_told_111 ⟨rfl, rfl, rfl, _, rfl, h⟩
    · replace h := h.2.2.2.2.1 e9
      refine r_tableIn (tgt := 112) (off := 111) dX12_told_1 (by rw [e9]; decide) (by rw [e9]; decide) (by rw [e9]; rfl) (by decide) ?_
      refine r_aload_n 0 dX12_told_112 rfl rfl ?_
      refine r_getI (j := 0) (by decide) (congrArg Prod.fst k0_125) c12_11 (by decide) rfl tw_810 dX12_told_113 ?_
      exact r_iret rfl (Nat.le_refl _) (Nat.le_refl _) dX12_told_116 ⟨rfl, rfl, rfl, _, rfl, h⟩
    · replace h := h.2.2.2.2.2.1 e9
      refine r_tableIn (tgt := 117) (off := 116) dX12_told_1 (by rw [e9]; decide) (by rw [e9]; decide) (by rw [e9]; rfl) (by decide) ?_
      refine r_aload_n 0 dX12_told_117 rfl rfl ?_
      refine r_getR (j := 20) (by decide) (congrArg Prod.fst k0_125) c12_11 (by decide) rfl g0_125_20 tw_830 dX12_told_118 ?_
      refine r_iconst dX12_told_121 ci_0 ?_
      refine r_iald (by decide) k0_133 dX12_told_122 (show ¬ (_ ∨ _) by decide) ?_
      exact r_iret rfl (Nat.le_refl _) (Nat.le_refl _) dX12_told_123 ⟨rfl, rfl, rfl, _, rfl, h⟩
    · replace h := h.2.2.2.2.2.2.1 e9
      refine r_tableIn (tgt := 124) (off := 123) dX12_told_1 (by rw [e9]; decide) (by rw [e9]; decide) (by rw [e9]; rfl) (by decide) ?_
      refine r_aload_n 0 dX12_told_124 rfl rfl ?_
      refine r_iconst dX12_told_125 ci_1 ?_
      refine rc_VI (h' := 0) [.int 1] okv_X12_are (by decide) (congrArg Prod.fst k0_125) tw_981 rfl rfl (Nat.le_of_ble_eq_true rfl) dX12_told_126 (by decide) h (fun r1 σ1 τ1 h => ?_)
      exact r_iret rfl (Nat.le_refl _) (Nat.le_refl _) dX12_told_129 ⟨rfl, rfl, rfl, _, rfl, h⟩
    · replace h := h.2.2.2.2.2.2.2.1 e9
      refine r_tableIn (tgt := 130) (off := 129) dX12_told_1 (by rw [e9]; decide) (by rw [e9]; decide) (by rw [e9]; rfl) (by decide) ?_
      refine r_aload_n 0 dX12_told_130 rfl rfl ?_
      refine r_iconst dX12_told_131 ci_2 ?_
      refine rc_VI (h' := 0) [.int 2] okv_X12_are (by decide) (congrArg Prod.fst k0_125) tw_981 rfl rfl (Nat.le_of_ble_eq_true rfl) dX12_told_132 (by decide) h (fun r2 σ2 τ2 h => ?_)
      exact r_iret rfl (Nat.le_refl _) (Nat.le_refl _) dX12_told_135 ⟨rfl, rfl, rfl, _, rfl, h⟩
    · replace h := h.2.2.2.2.2.2.2.2.1 e9
      refine r_tableIn (tgt := 136) (off := 135) dX12_told_1 (by rw [e9]; decide) (by rw [e9]; decide) (by rw [e9]; rfl) (by decide) ?_
      refine r_aload_n 0 dX12_told_136 rfl rfl ?_
      refine r_iconst dX12_told_137 ci_3 ?_
      refine rc_VI (h' := 0) [.int 3] okv_X12_are (by decide) (congrArg Prod.fst k0_125) tw_981 rfl rfl (Nat.le_of_ble_eq_true rfl) dX12_told_138 (by decide) h (fun r3 σ3 τ3 h => ?_)
      exact r_iret rfl (Nat.le_refl _) (Nat.le_refl _) dX12_told_141 ⟨rfl, rfl, rfl, _, rfl, h⟩
    · replace h := h.2.2.2.2.2.2.2.2.2.1 e9
      refine r_tableIn (tgt := 142) (off := 141) dX12_told_1 (by rw [e9]; decide) (by rw [e9]; decide) (by rw [e9]; rfl) (by decide) ?_
      refine r_aload_n 0 dX12_told_142 rfl rfl ?_
      refine rc_VI (h' := 2) [] okv_X12_good (by decide) (congrArg Prod.fst k0_125) tw_985 rfl rfl (Nat.le_of_ble_eq_true rfl) dX12_told_143 (by decide) h (fun r4 σ4 τ4 h => ?_)
      exact r_iret rfl (Nat.le_refl _) (Nat.le_refl _) dX12_told_146 ⟨rfl, rfl, rfl, _, rfl, h⟩
    · replace h := h.2.2.2.2.2.2.2.2.2.2.1 e9
      refine r_tableIn (tgt := 147) (off := 146) dX12_told_1 (by rw [e9]; decide) (by rw [e9]; decide) (by rw [e9]; rfl) (by decide) ?_
      refine r_aload_n 0 dX12_told_147 rfl rfl ?_
      refine r_getR (j := 20) (by decide) (congrArg Prod.fst k0_125) c12_11 (by decide) rfl g0_125_20 tw_830 dX12_told_148 ?_
      refine r_iconst dX12_told_151 ci_1 ?_
      refine r_iald (by decide) k0_133 dX12_told_152 (show ¬ (_ ∨ _) by decide) ?_
      exact r_iret rfl (Nat.le_refl _) (Nat.le_refl _) dX12_told_153 ⟨rfl, rfl, rfl, _, rfl, h⟩
    · replace h := h.2.2.2.2.2.2.2.2.2.2.2.1 e9
      refine r_tableIn (tgt := 154) (off := 153) dX12_told_1 (by rw [e9]; decide) (by rw [e9]; decide) (by rw [e9]; rfl) (by decide) ?_
      refine r_aload_n 0 dX12_told_154 rfl rfl ?_
      refine rc_VI (h' := 1) [] okv_X12_leftAll (by decide) (congrArg Prod.fst k0_125) tw_993 rfl rfl (Nat.le_of_ble_eq_true rfl) dX12_told_155 (by decide) h (fun r5 σ5 τ5 h => ?_)
      exact r_iret rfl (Nat.le_refl _) (Nat.le_refl _) dX12_told_158 ⟨rfl, rfl, rfl, _, rfl, h⟩
    · replace h := h.2.2.2.2.2.2.2.2.2.2.2.2.1 e9
      refine r_tableIn (tgt := 159) (off := 158) dX12_told_1 (by rw [e9]; decide) (by rw [e9]; decide) (by rw [e9]; rfl) (by decide) ?_
      refine r_aload_n 0 dX12_told_159 rfl rfl ?_
      refine rc_VI (h' := 1) [] okv_X12_strongest (by decide) (congrArg Prod.fst k0_125) tw_1001 rfl rfl (Nat.le_of_ble_eq_true rfl) dX12_told_160 (by decide) h (fun r6 σ6 τ6 h => ?_)
      exact r_iret rfl (Nat.le_refl _) (Nat.le_refl _) dX12_told_163 ⟨rfl, rfl, rfl, _, rfl, h⟩
    · replace h := h.2.2.2.2.2.2.2.2.2.2.2.2.2.1 e9
      refine r_tableIn (tgt := 164) (off := 163) dX12_told_1 (by rw [e9]; decide) (by rw [e9]; decide) (by rw [e9]; rfl) (by decide) ?_
      refine r_aload_n 0 dX12_told_164 rfl rfl ?_
      refine r_getI (j := 26) (by decide) (congrArg Prod.fst k0_125) c12_11 (by decide) rfl tw_836 dX12_told_165 ?_
      exact r_iret rfl (Nat.le_refl _) (Nat.le_refl _) dX12_told_168 ⟨rfl, rfl, rfl, _, rfl, h⟩
    · replace h := h.2.2.2.2.2.2.2.2.2.2.2.2.2.2.1 e9
      refine r_tableIn (tgt := 169) (off := 168) dX12_told_1 (by rw [e9]; decide) (by rw [e9]; decide) (by rw [e9]; rfl) (by decide) ?_
      refine r_aload_n 0 dX12_told_169 rfl rfl ?_
      refine rc_VI (h' := 3) [] okv_X12_within (by decide) (congrArg Prod.fst k0_125) tw_1005 rfl rfl (Nat.le_of_ble_eq_true rfl) dX12_told_170 (by decide) h (fun r7 σ7 τ7 h => ?_)
      exact r_iret rfl (Nat.le_refl _) (Nat.le_refl _) dX12_told_173 ⟨rfl, rfl, rfl, _, rfl, h⟩
    · replace h := h.2.2.2.2.2.2.2.2.2.2.2.2.2.2.2.1 e9
      refine r_tableIn (tgt := 174) (off := 173) dX12_told_1 (by rw [e9]; decide) (by rw [e9]; decide) (by rw [e9]; rfl) (by decide) ?_
      refine r_aload_n 0 dX12_told_174 rfl rfl ?_
      refine rc_VI (h' := 3) [] okv_X12_fitMany (by decide) (congrArg Prod.fst k0_125) tw_1019 rfl rfl (Nat.le_of_ble_eq_true rfl) dX12_told_175 (by decide) h (fun r8 σ8 τ8 h => ?_)
      exact r_iret rfl (Nat.le_refl _) (Nat.le_refl _) dX12_told_178 ⟨rfl, rfl, rfl, _, rfl, h⟩
    · replace h := h.2.2.2.2.2.2.2.2.2.2.2.2.2.2.2.2.1 e9
      refine r_tableIn (tgt := 179) (off := 178) dX12_told_1 (by rw [e9]; decide) (by rw [e9]; decide) (by rw [e9]; rfl) (by decide) ?_
      refine r_aload_n 0 dX12_told_179 rfl rfl ?_
      refine rc_VI (h' := 3) [] okv_X12_weave (by decide) (congrArg Prod.fst k0_125) tw_1023 rfl rfl (Nat.le_of_ble_eq_true rfl) dX12_told_180 (by decide) h (fun r9 σ9 τ9 h => ?_)
      exact r_iret rfl (Nat.le_refl _) (Nat.le_refl _) dX12_told_183 ⟨rfl, rfl, rfl, _, rfl, h⟩
    · replace h := h.2.2.2.2.2.2.2.2.2.2.2.2.2.2.2.2.2.1 e9
      refine r_tableIn (tgt := 184) (off := 183) dX12_told_1 (by rw [e9]; decide) (by rw [e9]; decide) (by rw [e9]; rfl) (by decide) ?_
      refine r_aload_n 0 dX12_told_184 rfl rfl ?_
      refine r_getI (j := 30) (by decide) (congrArg Prod.fst k0_125) c12_11 (by decide) rfl tw_840 dX12_told_185 ?_
      exact r_iret rfl (Nat.le_refl _) (Nat.le_refl _) dX12_told_188 ⟨rfl, rfl, rfl, _, rfl, h⟩
    · replace h := h.2.2.2.2.2.2.2.2.2.2.2.2.2.2.2.2.2.2 e9
      refine r_tableIn (tgt := 189) (off := 188) dX12_told_1 (by rw [e9]; decide) (by rw [e9]; decide) (by rw [e9]; rfl) (by decide) ?_
      refine r_aload_n 0 dX12_told_189 rfl rfl ?_
      refine r_getI (j := 21) (by decide) (congrArg Prod.fst k0_125) c12_11 (by decide) rfl tw_831 dX12_told_190 ?_
      exact r_iret rfl (Nat.le_refl _) (Nat.le_refl _) dX12_told_193 ⟨rfl, rfl, rfl, _, rfl, h⟩
theorem s_X12_told {l : Launch} {D : zDD} {b : Nat} (p1 : Int32) (σ : zSg) (τ : zLm) {Q : Int32 → zSg → zLm → Prop} (h : ((p1.toInt < 0 ∨ (18 : Int) < p1.toInt) → Q (-1000000002) σ τ) ∧ (p1 = 0 → Q (σ 125 14) σ τ) ∧ (p1 = 1 → Q (σ 125 15) σ τ) ∧ (p1 = 2 → Q (σ 125 16) σ τ) ∧ (p1 = 3 → Q (σ 125 17) σ τ) ∧ (p1 = 4 → Q (σ 125 0) σ τ) ∧ (p1 = 5 → Q (σ 133 0) σ τ) ∧ (p1 = 6 → SI l D b M_X12_are 0 G0 [.ref (b + 125), .int 1] σ τ (fun r1 σ1 τ1 => Q r1 σ1 τ1)) ∧ (p1 = 7 → SI l D b M_X12_are 0 G0 [.ref (b + 125), .int 2] σ τ (fun r2 σ2 τ2 => Q r2 σ2 τ2)) ∧ (p1 = 8 → SI l D b M_X12_are 0 G0 [.ref (b + 125), .int 3] σ τ (fun r3 σ3 τ3 => Q r3 σ3 τ3)) ∧ (p1 = 9 → SI l D b M_X12_good 2 G0 [.ref (b + 125)] σ τ (fun r4 σ4 τ4 => Q r4 σ4 τ4)) ∧ (p1 = 10 → Q (σ 133 1) σ τ) ∧ (p1 = 11 → SI l D b M_X12_leftAll 1 G0 [.ref (b + 125)] σ τ (fun r5 σ5 τ5 => Q r5 σ5 τ5)) ∧ (p1 = 12 → SI l D b M_X12_strongest 1 G0 [.ref (b + 125)] σ τ (fun r6 σ6 τ6 => Q r6 σ6 τ6)) ∧ (p1 = 13 → Q (σ 125 26) σ τ) ∧ (p1 = 14 → SI l D b M_X12_within 3 G0 [.ref (b + 125)] σ τ (fun r7 σ7 τ7 => Q r7 σ7 τ7)) ∧ (p1 = 15 → SI l D b M_X12_fitMany 3 G0 [.ref (b + 125)] σ τ (fun r8 σ8 τ8 => Q r8 σ8 τ8)) ∧ (p1 = 16 → SI l D b M_X12_weave 3 G0 [.ref (b + 125)] σ τ (fun r9 σ9 τ9 => Q r9 σ9 τ9)) ∧ (p1 = 17 → Q (σ 125 30) σ τ) ∧ (p1 = 18 → Q (σ 125 21) σ τ)) : SI l D b M_X12_told 4 G0 [.ref (b + 125), .int p1] σ τ Q := zS.of (by decide) (Nat.le_of_ble_eq_true rfl) rfl (w_X12_told_0 p1 σ τ h)

theorem dX12_wrap_0 : decode cX12_wrap 0 = .ok (.aload_n 0, 1) := by decide +kernel
theorem dX12_wrap_1 : decode cX12_wrap 1 = .ok (.iload_n 1, 1) := by decide +kernel
theorem dX12_wrap_2 : decode cX12_wrap 2 = .ok (.invokevirtual 203, 3) := by decide +kernel
theorem dX12_wrap_5 : decode cX12_wrap 5 = .ok (.ifCond .ne 6, 3) := by decide +kernel
theorem dX12_wrap_8 : decode cX12_wrap 8 = .ok (.ldc 206, 2) := by decide +kernel
theorem dX12_wrap_10 : decode cX12_wrap 10 = .ok (.ireturn, 1) := by decide +kernel
theorem dX12_wrap_11 : decode cX12_wrap 11 = .ok (.aload_n 0, 1) := by decide +kernel
theorem dX12_wrap_12 : decode cX12_wrap 12 = .ok (.getfield 35, 3) := by decide +kernel
theorem dX12_wrap_15 : decode cX12_wrap 15 = .ok (.bipush 14, 2) := by decide +kernel
theorem dX12_wrap_17 : decode cX12_wrap 17 = .ok (.iload_n 1, 1) := by decide +kernel
theorem dX12_wrap_18 : decode cX12_wrap 18 = .ok (.iadd, 1) := by decide +kernel
theorem dX12_wrap_19 : decode cX12_wrap 19 = .ok (.iaload, 1) := by decide +kernel
theorem dX12_wrap_20 : decode cX12_wrap 20 = .ok (.ifCond .eq 6, 3) := by decide +kernel
theorem dX12_wrap_23 : decode cX12_wrap 23 = .ok (.ldc 233, 2) := by decide +kernel
theorem dX12_wrap_25 : decode cX12_wrap 25 = .ok (.ireturn, 1) := by decide +kernel
theorem dX12_wrap_26 : decode cX12_wrap 26 = .ok (.aload_n 0, 1) := by decide +kernel
theorem dX12_wrap_27 : decode cX12_wrap 27 = .ok (.invokevirtual 234, 3) := by decide +kernel
theorem dX12_wrap_30 : decode cX12_wrap 30 = .ok (.aload_n 0, 1) := by decide +kernel
theorem dX12_wrap_31 : decode cX12_wrap 31 = .ok (.iload_n 1, 1) := by decide +kernel
theorem dX12_wrap_32 : decode cX12_wrap 32 = .ok (.invokevirtual 237, 3) := by decide +kernel
theorem dX12_wrap_35 : decode cX12_wrap 35 = .ok (.ireturn, 1) := by decide +kernel
theorem w_X12_wrap_0 {l : Launch} {D : zDD} {b : Nat} (p1 : Int32) (σ : zSg) (τ : zLm) {Q : Int32 → zSg → zLm → Prop} (h : SI l D b M_X12_isTrouble 1 G0 [.ref (b + 125), .int p1] σ τ (fun r1 σ1 τ1 => (¬ r1 = 0 → (vp_in (14 + p1) 26 ∧ (((σ1 133 ((14 + p1).toNatClampNeg)) = 0 → SV l D b M_X12_remember 0 G0 [.ref (b + 125)] σ1 τ1 (fun σ4 τ4 => SI l D b M_X12_wraps 3 G0 [.ref (b + 125), .int p1] σ4 τ4 (fun r5 σ5 τ5 => Q r5 σ5 τ5))) ∧ (¬ (σ1 133 ((14 + p1).toNatClampNeg)) = 0 → Q (-1000000003) σ1 τ1)))) ∧ (r1 = 0 → Q (-1000000001) σ1 τ1))) : AI l D b M_X12_wrap 4 G0 Q 0 [(0, .ref (b + 125)), (1, .int p1)] [] G0 σ τ := by
  refine r_aload_n 0 dX12_wrap_0 rfl rfl ?_
  refine r_iload_n 1 dX12_wrap_1 rfl rfl ?_
  refine rc_VI (h' := 1) [.int p1] okv_X12_isTrouble (by decide) (congrArg Prod.fst k0_125) tw_1031 rfl rfl (Nat.le_of_ble_eq_true rfl) dX12_wrap_2 (by decide) h (fun r1 σ1 τ1 h => ?_)
  refine r_if_ne (tgt := 11) dX12_wrap_5 (by decide) (fun c2 => ?_) (fun c2 => ?_)
  · replace h := h.1 c2
    refine r_aload_n 0 dX12_wrap_11 rfl rfl ?_
    refine r_getR (j := 20) (by decide) (congrArg Prod.fst k0_125) c12_11 (by decide) rfl g0_125_20 tw_830 dX12_wrap_12 ?_
    refine r_bipush dX12_wrap_15 cb_14 ?_
    refine r_iload_n 1 dX12_wrap_17 rfl rfl ?_
    refine r_iadd dX12_wrap_18 ?_
    refine r_iald (by decide) k0_133 dX12_wrap_19 h.1 ?_
    replace h := h.2
    refine r_if_eq (tgt := 26) dX12_wrap_20 (by decide) (fun c3 => ?_) (fun c3 => ?_)
    · replace h := h.1 c3
      refine r_aload_n 0 dX12_wrap_26 rfl rfl ?_
      refine rc_VV (h' := 0) [] okv_X12_remember (by decide) (congrArg Prod.fst k0_125) tw_1079 rfl rfl (Nat.le_of_ble_eq_true rfl) dX12_wrap_27 (by decide) h (fun σ4 τ4 h => ?_)
      refine r_aload_n 0 dX12_wrap_30 rfl rfl ?_
      refine r_iload_n 1 dX12_wrap_31 rfl rfl ?_
      refine rc_VI (h' := 3) [.int p1] okv_X12_wraps (by decide) (congrArg Prod.fst k0_125) tw_1083 rfl rfl (Nat.le_of_ble_eq_true rfl) dX12_wrap_32 (by decide) h (fun r5 σ5 τ5 h => ?_)
      exact r_iret rfl (Nat.le_refl _) (Nat.le_refl _) dX12_wrap_35 ⟨rfl, rfl, rfl, _, rfl, h⟩
    · replace h := h.2 c3
      refine r_ldc (v := (-1000000003)) rfl tw_1078 rfl dX12_wrap_23 ?_
      exact r_iret rfl (Nat.le_refl _) (Nat.le_refl _) dX12_wrap_25 ⟨rfl, rfl, rfl, _, rfl, h⟩
  · replace h := h.2 c2
    refine r_ldc (v := (-1000000001)) rfl tw_1035 rfl dX12_wrap_8 ?_
    exact r_iret rfl (Nat.le_refl _) (Nat.le_refl _) dX12_wrap_10 ⟨rfl, rfl, rfl, _, rfl, h⟩
theorem s_X12_wrap {l : Launch} {D : zDD} {b : Nat} (p1 : Int32) (σ : zSg) (τ : zLm) {Q : Int32 → zSg → zLm → Prop} (h : SI l D b M_X12_isTrouble 1 G0 [.ref (b + 125), .int p1] σ τ (fun r1 σ1 τ1 => (¬ r1 = 0 → (vp_in (14 + p1) 26 ∧ (((σ1 133 ((14 + p1).toNatClampNeg)) = 0 → SV l D b M_X12_remember 0 G0 [.ref (b + 125)] σ1 τ1 (fun σ4 τ4 => SI l D b M_X12_wraps 3 G0 [.ref (b + 125), .int p1] σ4 τ4 (fun r5 σ5 τ5 => Q r5 σ5 τ5))) ∧ (¬ (σ1 133 ((14 + p1).toNatClampNeg)) = 0 → Q (-1000000003) σ1 τ1)))) ∧ (r1 = 0 → Q (-1000000001) σ1 τ1))) : SI l D b M_X12_wrap 4 G0 [.ref (b + 125), .int p1] σ τ Q := zS.of (by decide) (Nat.le_of_ble_eq_true rfl) rfl (w_X12_wrap_0 p1 σ τ h)

theorem dX12_bear_0 : decode cX12_bear 0 = .ok (.aload_n 0, 1) := by decide +kernel
theorem dX12_bear_1 : decode cX12_bear 1 = .ok (.iload_n 1, 1) := by decide +kernel
theorem dX12_bear_2 : decode cX12_bear 2 = .ok (.invokevirtual 203, 3) := by decide +kernel
theorem dX12_bear_5 : decode cX12_bear 5 = .ok (.ifCond .ne 6, 3) := by decide +kernel
theorem dX12_bear_8 : decode cX12_bear 8 = .ok (.ldc 206, 2) := by decide +kernel
theorem dX12_bear_10 : decode cX12_bear 10 = .ok (.ireturn, 1) := by decide +kernel
theorem dX12_bear_11 : decode cX12_bear 11 = .ok (.aload_n 0, 1) := by decide +kernel
theorem dX12_bear_12 : decode cX12_bear 12 = .ok (.iload_n 1, 1) := by decide +kernel
theorem dX12_bear_13 : decode cX12_bear 13 = .ok (.invokevirtual 258, 3) := by decide +kernel
theorem dX12_bear_16 : decode cX12_bear 16 = .ok (.ifCond .ne 6, 3) := by decide +kernel
theorem dX12_bear_19 : decode cX12_bear 19 = .ok (.ldc 233, 2) := by decide +kernel
theorem dX12_bear_21 : decode cX12_bear 21 = .ok (.ireturn, 1) := by decide +kernel
theorem dX12_bear_22 : decode cX12_bear 22 = .ok (.aload_n 0, 1) := by decide +kernel
theorem dX12_bear_23 : decode cX12_bear 23 = .ok (.invokevirtual 234, 3) := by decide +kernel
theorem dX12_bear_26 : decode cX12_bear 26 = .ok (.aload_n 0, 1) := by decide +kernel
theorem dX12_bear_27 : decode cX12_bear 27 = .ok (.iload_n 1, 1) := by decide +kernel
theorem dX12_bear_28 : decode cX12_bear 28 = .ok (.invokevirtual 261, 3) := by decide +kernel
theorem dX12_bear_31 : decode cX12_bear 31 = .ok (.aload_n 0, 1) := by decide +kernel
theorem dX12_bear_32 : decode cX12_bear 32 = .ok (.invokevirtual 168, 3) := by decide +kernel
theorem dX12_bear_35 : decode cX12_bear 35 = .ok (.ireturn, 1) := by decide +kernel
theorem w_X12_bear_0 {l : Launch} {D : zDD} {b : Nat} (p1 : Int32) (σ : zSg) (τ : zLm) {Q : Int32 → zSg → zLm → Prop} (h : SI l D b M_X12_isTrouble 1 G0 [.ref (b + 125), .int p1] σ τ (fun r1 σ1 τ1 => (¬ r1 = 0 → (SI l D b M_X12_canBeBorne 3 G0 [.ref (b + 125), .int p1] σ1 τ1 (fun r3 σ3 τ3 => (¬ r3 = 0 → SV l D b M_X12_remember 0 G0 [.ref (b + 125)] σ3 τ3 (fun σ5 τ5 => SV l D b M_X12_bears 2 G0 [.ref (b + 125), .int p1] σ5 τ5 (fun σ6 τ6 => SI l D b M_X12_leftAll 1 G0 [.ref (b + 125)] σ6 τ6 (fun r7 σ7 τ7 => Q r7 σ7 τ7)))) ∧ (r3 = 0 → Q (-1000000003) σ3 τ3)))) ∧ (r1 = 0 → Q (-1000000001) σ1 τ1))) : AI l D b M_X12_bear 4 G0 Q 0 [(0, .ref (b + 125)), (1, .int p1)] [] G0 σ τ := by
  refine r_aload_n 0 dX12_bear_0 rfl rfl ?_
  refine r_iload_n 1 dX12_bear_1 rfl rfl ?_
  refine rc_VI (h' := 1) [.int p1] okv_X12_isTrouble (by decide) (congrArg Prod.fst k0_125) tw_1031 rfl rfl (Nat.le_of_ble_eq_true rfl) dX12_bear_2 (by decide) h (fun r1 σ1 τ1 h => ?_)
  refine r_if_ne (tgt := 11) dX12_bear_5 (by decide) (fun c2 => ?_) (fun c2 => ?_)
  · replace h := h.1 c2
    refine r_aload_n 0 dX12_bear_11 rfl rfl ?_
    refine r_iload_n 1 dX12_bear_12 rfl rfl ?_
    refine rc_VI (h' := 3) [.int p1] okv_X12_canBeBorne (by decide) (congrArg Prod.fst k0_125) tw_1139 rfl rfl (Nat.le_of_ble_eq_true rfl) dX12_bear_13 (by decide) h (fun r3 σ3 τ3 h => ?_)
    refine r_if_ne (tgt := 22) dX12_bear_16 (by decide) (fun c4 => ?_) (fun c4 => ?_)
    · replace h := h.1 c4
      refine r_aload_n 0 dX12_bear_22 rfl rfl ?_
      refine rc_VV (h' := 0) [] okv_X12_remember (by decide) (congrArg Prod.fst k0_125) tw_1079 rfl rfl (Nat.le_of_ble_eq_true rfl) dX12_bear_23 (by decide) h (fun σ5 τ5 h => ?_)
      refine r_aload_n 0 dX12_bear_26 rfl rfl ?_
      refine r_iload_n 1 dX12_bear_27 rfl rfl ?_
      refine rc_VV (h' := 2) [.int p1] okv_X12_bears (by decide) (congrArg Prod.fst k0_125) tw_1143 rfl rfl (Nat.le_of_ble_eq_true rfl) dX12_bear_28 (by decide) h (fun σ6 τ6 h => ?_)
      refine r_aload_n 0 dX12_bear_31 rfl rfl ?_
      refine rc_VI (h' := 1) [] okv_X12_leftAll (by decide) (congrArg Prod.fst k0_125) tw_993 rfl rfl (Nat.le_of_ble_eq_true rfl) dX12_bear_32 (by decide) h (fun r7 σ7 τ7 h => ?_)
      exact r_iret rfl (Nat.le_refl _) (Nat.le_refl _) dX12_bear_35 ⟨rfl, rfl, rfl, _, rfl, h⟩
    · replace h := h.2 c4
      refine r_ldc (v := (-1000000003)) rfl tw_1078 rfl dX12_bear_19 ?_
      exact r_iret rfl (Nat.le_refl _) (Nat.le_refl _) dX12_bear_21 ⟨rfl, rfl, rfl, _, rfl, h⟩
  · replace h := h.2 c2
    refine r_ldc (v := (-1000000001)) rfl tw_1035 rfl dX12_bear_8 ?_
    exact r_iret rfl (Nat.le_refl _) (Nat.le_refl _) dX12_bear_10 ⟨rfl, rfl, rfl, _, rfl, h⟩
theorem s_X12_bear {l : Launch} {D : zDD} {b : Nat} (p1 : Int32) (σ : zSg) (τ : zLm) {Q : Int32 → zSg → zLm → Prop} (h : SI l D b M_X12_isTrouble 1 G0 [.ref (b + 125), .int p1] σ τ (fun r1 σ1 τ1 => (¬ r1 = 0 → (SI l D b M_X12_canBeBorne 3 G0 [.ref (b + 125), .int p1] σ1 τ1 (fun r3 σ3 τ3 => (¬ r3 = 0 → SV l D b M_X12_remember 0 G0 [.ref (b + 125)] σ3 τ3 (fun σ5 τ5 => SV l D b M_X12_bears 2 G0 [.ref (b + 125), .int p1] σ5 τ5 (fun σ6 τ6 => SI l D b M_X12_leftAll 1 G0 [.ref (b + 125)] σ6 τ6 (fun r7 σ7 τ7 => Q r7 σ7 τ7)))) ∧ (r3 = 0 → Q (-1000000003) σ3 τ3)))) ∧ (r1 = 0 → Q (-1000000001) σ1 τ1))) : SI l D b M_X12_bear 4 G0 [.ref (b + 125), .int p1] σ τ Q := zS.of (by decide) (Nat.le_of_ble_eq_true rfl) rfl (w_X12_bear_0 p1 σ τ h)

theorem dX12_does_0 : decode cX12_does 0 = .ok (.aload_n 0, 1) := by decide +kernel
theorem dX12_does_1 : decode cX12_does 1 = .ok (.getfield 35, 3) := by decide +kernel
theorem dX12_does_4 : decode cX12_does 4 = .ok (.bipush 14, 2) := by decide +kernel
theorem dX12_does_6 : decode cX12_does 6 = .ok (.iload_n 2, 1) := by decide +kernel
theorem dX12_does_7 : decode cX12_does 7 = .ok (.iadd, 1) := by decide +kernel
theorem dX12_does_8 : decode cX12_does 8 = .ok (.iaload, 1) := by decide +kernel
theorem dX12_does_9 : decode cX12_does 9 = .ok (.istore_n 3, 1) := by decide +kernel
theorem dX12_does_10 : decode cX12_does 10 = .ok (.iload_n 1, 1) := by decide +kernel
theorem dX12_does_11 : decode cX12_does 11 = .ok (.ifCond .ne 16, 3) := by decide +kernel
theorem dX12_does_14 : decode cX12_does 14 = .ok (.iload_n 3, 1) := by decide +kernel
theorem dX12_does_15 : decode cX12_does 15 = .ok (.ifCond .ne 12, 3) := by decide +kernel
theorem dX12_does_18 : decode cX12_does 18 = .ok (.aload_n 0, 1) := by decide +kernel
theorem dX12_does_19 : decode cX12_does 19 = .ok (.iload_n 2, 1) := by decide +kernel
theorem dX12_does_20 : decode cX12_does 20 = .ok (.invokevirtual 237, 3) := by decide +kernel
theorem dX12_does_23 : decode cX12_does 23 = .ok (.pop, 1) := by decide +kernel
theorem dX12_does_24 : decode cX12_does 24 = .ok (.goto 87, 3) := by decide +kernel
theorem dX12_does_27 : decode cX12_does 27 = .ok (.iload_n 1, 1) := by decide +kernel
theorem dX12_does_28 : decode cX12_does 28 = .ok (.iconst 1, 1) := by decide +kernel
theorem dX12_does_29 : decode cX12_does 29 = .ok (.if_icmp .ne 28, 3) := by decide +kernel
theorem dX12_does_32 : decode cX12_does 32 = .ok (.iload_n 3, 1) := by decide +kernel
theorem dX12_does_33 : decode cX12_does 33 = .ok (.iconst 1, 1) := by decide +kernel
theorem dX12_does_34 : decode cX12_does 34 = .ok (.if_icmp .ne 23, 3) := by decide +kernel
theorem dX12_does_37 : decode cX12_does 37 = .ok (.aload_n 0, 1) := by decide +kernel
theorem dX12_does_38 : decode cX12_does 38 = .ok (.invokevirtual 240, 3) := by decide +kernel
theorem dX12_does_41 : decode cX12_does 41 = .ok (.ifCond .le 16, 3) := by decide +kernel
theorem dX12_does_44 : decode cX12_does 44 = .ok (.aload_n 0, 1) := by decide +kernel
theorem dX12_does_45 : decode cX12_does 45 = .ok (.getfield 35, 3) := by decide +kernel
theorem dX12_does_48 : decode cX12_does 48 = .ok (.bipush 14, 2) := by decide +kernel
theorem dX12_does_50 : decode cX12_does 50 = .ok (.iload_n 2, 1) := by decide +kernel
theorem dX12_does_51 : decode cX12_does 51 = .ok (.iadd, 1) := by decide +kernel
theorem dX12_does_52 : decode cX12_does 52 = .ok (.iconst 2, 1) := by decide +kernel
theorem dX12_does_53 : decode cX12_does 53 = .ok (.iastore, 1) := by decide +kernel
theorem dX12_does_54 : decode cX12_does 54 = .ok (.goto 57, 3) := by decide +kernel
theorem dX12_does_57 : decode cX12_does 57 = .ok (.iload_n 1, 1) := by decide +kernel
theorem dX12_does_58 : decode cX12_does 58 = .ok (.iconst 2, 1) := by decide +kernel
theorem dX12_does_59 : decode cX12_does 59 = .ok (.if_icmp .ne 21, 3) := by decide +kernel
theorem dX12_does_62 : decode cX12_does 62 = .ok (.iload_n 3, 1) := by decide +kernel
theorem dX12_does_63 : decode cX12_does 63 = .ok (.iconst 2, 1) := by decide +kernel
theorem dX12_does_64 : decode cX12_does 64 = .ok (.if_icmp .ne 16, 3) := by decide +kernel
theorem dX12_does_67 : decode cX12_does 67 = .ok (.aload_n 0, 1) := by decide +kernel
theorem dX12_does_68 : decode cX12_does 68 = .ok (.getfield 35, 3) := by decide +kernel
theorem dX12_does_71 : decode cX12_does 71 = .ok (.bipush 14, 2) := by decide +kernel
theorem dX12_does_73 : decode cX12_does 73 = .ok (.iload_n 2, 1) := by decide +kernel
theorem dX12_does_74 : decode cX12_does 74 = .ok (.iadd, 1) := by decide +kernel
theorem dX12_does_75 : decode cX12_does 75 = .ok (.iconst 1, 1) := by decide +kernel
theorem dX12_does_76 : decode cX12_does 76 = .ok (.iastore, 1) := by decide +kernel
theorem dX12_does_77 : decode cX12_does 77 = .ok (.goto 34, 3) := by decide +kernel
theorem dX12_does_80 : decode cX12_does 80 = .ok (.iload_n 1, 1) := by decide +kernel
theorem dX12_does_81 : decode cX12_does 81 = .ok (.iconst 3, 1) := by decide +kernel
theorem dX12_does_82 : decode cX12_does 82 = .ok (.if_icmp .ne 19, 3) := by decide +kernel
theorem dX12_does_85 : decode cX12_does 85 = .ok (.aload_n 0, 1) := by decide +kernel
theorem dX12_does_86 : decode cX12_does 86 = .ok (.iload_n 2, 1) := by decide +kernel
theorem dX12_does_87 : decode cX12_does 87 = .ok (.invokevirtual 258, 3) := by decide +kernel
theorem dX12_does_90 : decode cX12_does 90 = .ok (.ifCond .eq 11, 3) := by decide +kernel
theorem dX12_does_93 : decode cX12_does 93 = .ok (.aload_n 0, 1) := by decide +kernel
theorem dX12_does_94 : decode cX12_does 94 = .ok (.iload_n 2, 1) := by decide +kernel
theorem dX12_does_95 : decode cX12_does 95 = .ok (.invokevirtual 261, 3) := by decide +kernel
theorem dX12_does_98 : decode cX12_does 98 = .ok (.goto 13, 3) := by decide +kernel
theorem dX12_does_101 : decode cX12_does 101 = .ok (.iload_n 1, 1) := by decide +kernel
theorem dX12_does_102 : decode cX12_does 102 = .ok (.iconst 4, 1) := by decide +kernel
theorem dX12_does_103 : decode cX12_does 103 = .ok (.if_icmp .ne 8, 3) := by decide +kernel
theorem dX12_does_106 : decode cX12_does 106 = .ok (.aload_n 0, 1) := by decide +kernel
theorem dX12_does_107 : decode cX12_does 107 = .ok (.invokevirtual 265, 3) := by decide +kernel
theorem dX12_does_110 : decode cX12_does 110 = .ok (.pop, 1) := by decide +kernel
theorem dX12_does_111 : decode cX12_does 111 = .ok (.return_, 1) := by decide +kernel
theorem w_X12_does_101 {l : Launch} {D : zDD} {b : Nat} (x1 : Int32) (σ : zSg) (τ : zLm) {Q : zSg → zLm → Prop} (h : (¬ x1 = 4 → Q σ τ) ∧ (x1 = 4 → SI l D b M_X12_rests 0 G0 [.ref (b + 125)] σ τ (fun r2 σ2 τ2 => Q σ2 τ2))) : AV l D b M_X12_does 4 G0 Q 101 [(0, .ref (b + 125)), (1, .int x1)] [] G0 σ τ := by
  refine r_iload_n 1 dX12_does_101 rfl rfl ?_
  refine r_iconst dX12_does_102 ci_4 ?_
  refine r_icmp_ne (tgt := 111) dX12_does_103 (by decide) (fun c1 => ?_) (fun c1 => ?_)
  · replace h := h.1 c1
    exact r_vret rfl (Nat.le_refl _) (Nat.le_refl _) dX12_does_111 ⟨rfl, rfl, rfl, rfl, h⟩
  · replace h := h.2 c1
    refine r_aload_n 0 dX12_does_106 rfl rfl ?_
    refine rc_VI (h' := 0) [] okv_X12_rests (by decide) (congrArg Prod.fst k0_125) tw_1151 rfl rfl (Nat.le_of_ble_eq_true rfl) dX12_does_107 (by decide) h (fun r2 σ2 τ2 h => ?_)
    refine r_pop dX12_does_110 rfl ?_
    exact r_vret rfl (Nat.le_refl _) (Nat.le_refl _) dX12_does_111 ⟨rfl, rfl, rfl, rfl, h⟩

theorem w_X12_does_80 {l : Launch} {D : zDD} {b : Nat} (x1 x2 : Int32) (σ : zSg) (τ : zLm) {Q : zSg → zLm → Prop} (h : (¬ x1 = 3 → AV l D b M_X12_does 4 G0 Q 101 [(0, .ref (b + 125)), (1, .int x1)] [] G0 σ τ) ∧ (x1 = 3 → (SI l D b M_X12_canBeBorne 3 G0 [.ref (b + 125), .int x2] σ τ (fun r2 σ2 τ2 => (r2 = 0 → AV l D b M_X12_does 4 G0 Q 101 [(0, .ref (b + 125)), (1, .int x1)] [] G0 σ2 τ2) ∧ (¬ r2 = 0 → SV l D b M_X12_bears 2 G0 [.ref (b + 125), .int x2] σ2 τ2 (fun σ4 τ4 => Q σ4 τ4)))))) : AV l D b M_X12_does 4 G0 Q 80 [(0, .ref (b + 125)), (1, .int x1), (2, .int x2)] [] G0 σ τ := by
  refine r_iload_n 1 dX12_does_80 rfl rfl ?_
  refine r_iconst dX12_does_81 ci_3 ?_
  refine r_icmp_ne (tgt := 101) dX12_does_82 (by decide) (fun c1 => ?_) (fun c1 => ?_)
  · replace h := h.1 c1
    refine r_lv [0, 1] rfl ?_
    exact h
  · replace h := h.2 c1
    refine r_aload_n 0 dX12_does_85 rfl rfl ?_
    refine r_iload_n 2 dX12_does_86 rfl rfl ?_
    refine rc_VI (h' := 3) [.int x2] okv_X12_canBeBorne (by decide) (congrArg Prod.fst k0_125) tw_1139 rfl rfl (Nat.le_of_ble_eq_true rfl) dX12_does_87 (by decide) h (fun r2 σ2 τ2 h => ?_)
    refine r_if_eq (tgt := 101) dX12_does_90 (by decide) (fun c3 => ?_) (fun c3 => ?_)
    · replace h := h.1 c3
      refine r_lv [0, 1] rfl ?_
      exact h
    · replace h := h.2 c3
      refine r_aload_n 0 dX12_does_93 rfl rfl ?_
      refine r_iload_n 2 dX12_does_94 rfl rfl ?_
      refine rc_VV (h' := 2) [.int x2] okv_X12_bears (by decide) (congrArg Prod.fst k0_125) tw_1143 rfl rfl (Nat.le_of_ble_eq_true rfl) dX12_does_95 (by decide) h (fun σ4 τ4 h => ?_)
      refine r_goto (tgt := 111) dX12_does_98 (by decide) ?_
      exact r_vret rfl (Nat.le_refl _) (Nat.le_refl _) dX12_does_111 ⟨rfl, rfl, rfl, rfl, h⟩

theorem w_X12_does_57 {l : Launch} {D : zDD} {b : Nat} (x1 x2 x3 : Int32) (σ : zSg) (τ : zLm) {Q : zSg → zLm → Prop} (h : (¬ x1 = 2 → AV l D b M_X12_does 4 G0 Q 80 [(0, .ref (b + 125)), (1, .int x1), (2, .int x2)] [] G0 σ τ) ∧ (x1 = 2 → ((¬ x3 = 2 → AV l D b M_X12_does 4 G0 Q 80 [(0, .ref (b + 125)), (1, .int x1), (2, .int x2)] [] G0 σ τ) ∧ (x3 = 2 → (vp_in (14 + x2) 26 ∧ Q (st2 σ 133 ((14 + x2).toNatClampNeg) 1) τ))))) : AV l D b M_X12_does 4 G0 Q 57 [(0, .ref (b + 125)), (1, .int x1), (2, .int x2), (3, .int x3)] [] G0 σ τ := by
  refine r_iload_n 1 dX12_does_57 rfl rfl ?_
  refine r_iconst dX12_does_58 ci_2 ?_
  refine r_icmp_ne (tgt := 80) dX12_does_59 (by decide) (fun c1 => ?_) (fun c1 => ?_)
  · replace h := h.1 c1
    refine r_lv [0, 1, 2] rfl ?_
    exact h
  · replace h := h.2 c1
    refine r_iload_n 3 dX12_does_62 rfl rfl ?_
    refine r_iconst dX12_does_63 ci_2 ?_
    refine r_icmp_ne (tgt := 80) dX12_does_64 (by decide) (fun c2 => ?_) (fun c2 => ?_)
    · replace h := h.1 c2
      refine r_lv [0, 1, 2] rfl ?_
      exact h
    · replace h := h.2 c2
      refine r_aload_n 0 dX12_does_67 rfl rfl ?_
      refine r_getR (j := 20) (by decide) (congrArg Prod.fst k0_125) c12_11 (by decide) rfl g0_125_20 tw_830 dX12_does_68 ?_
      refine r_bipush dX12_does_71 cb_14 ?_
      refine r_iload_n 2 dX12_does_73 rfl rfl ?_
      refine r_iadd dX12_does_74 ?_
      refine r_iconst dX12_does_75 ci_1 ?_
      refine r_iast (by decide) k0_133 dX12_does_76 h.1 ?_
      replace h := h.2
      refine r_goto (tgt := 111) dX12_does_77 (by decide) ?_
      exact r_vret rfl (Nat.le_refl _) (Nat.le_refl _) dX12_does_111 ⟨rfl, rfl, rfl, rfl, h⟩

theorem w_X12_does_27 {l : Launch} {D : zDD} {b : Nat} (x1 x2 x3 : Int32) (σ : zSg) (τ : zLm) {Q : zSg → zLm → Prop} (h : (¬ x1 = 1 → AV l D b M_X12_does 4 G0 Q 57 [(0, .ref (b + 125)), (1, .int x1), (2, .int x2), (3, .int x3)] [] G0 σ τ) ∧ (x1 = 1 → ((¬ x3 = 1 → AV l D b M_X12_does 4 G0 Q 57 [(0, .ref (b + 125)), (1, .int x1), (2, .int x2), (3, .int x3)] [] G0 σ τ) ∧ (x3 = 1 → (SI l D b M_X12_potsFree 1 G0 [.ref (b + 125)] σ τ (fun r3 σ3 τ3 => (r3 ≤ 0 → AV l D b M_X12_does 4 G0 Q 57 [(0, .ref (b + 125)), (1, .int x1), (2, .int x2), (3, .int x3)] [] G0 σ3 τ3) ∧ (¬ r3 ≤ 0 → (vp_in (14 + x2) 26 ∧ Q (st2 σ3 133 ((14 + x2).toNatClampNeg) 2) τ3)))))))) : AV l D b M_X12_does 4 G0 Q 27 [(0, .ref (b + 125)), (1, .int x1), (2, .int x2), (3, .int x3)] [] G0 σ τ := by
  refine r_iload_n 1 dX12_does_27 rfl rfl ?_
  refine r_iconst dX12_does_28 ci_1 ?_
  refine r_icmp_ne (tgt := 57) dX12_does_29 (by decide) (fun c1 => ?_) (fun c1 => ?_)
  · replace h := h.1 c1
    exact h
  · replace h := h.2 c1
    refine r_iload_n 3 dX12_does_32 rfl rfl ?_
    refine r_iconst dX12_does_33 ci_1 ?_
    refine r_icmp_ne (tgt := 57) dX12_does_34 (by decide) (fun c2 => ?_) (fun c2 => ?_)
    · replace h := h.1 c2
      exact h
    · replace h := h.2 c2
      refine r_aload_n 0 dX12_does_37 rfl rfl ?_
      refine rc_VI (h' := 1) [] okv_X12_potsFree (by decide) (congrArg Prod.fst k0_125) tw_1104 rfl rfl (Nat.le_of_ble_eq_true rfl) dX12_does_38 (by decide) h (fun r3 σ3 τ3 h => ?_)
      refine r_if_le (tgt := 57) dX12_does_41 (by decide) (fun c4 => ?_) (fun c4 => ?_)
      · replace h := h.1 c4
        exact h
      · replace h := h.2 c4
        refine r_aload_n 0 dX12_does_44 rfl rfl ?_
        refine r_getR (j := 20) (by decide) (congrArg Prod.fst k0_125) c12_11 (by decide) rfl g0_125_20 tw_830 dX12_does_45 ?_
        refine r_bipush dX12_does_48 cb_14 ?_
        refine r_iload_n 2 dX12_does_50 rfl rfl ?_
        refine r_iadd dX12_does_51 ?_
        refine r_iconst dX12_does_52 ci_2 ?_
        refine r_iast (by decide) k0_133 dX12_does_53 h.1 ?_
        replace h := h.2
        refine r_goto (tgt := 111) dX12_does_54 (by decide) ?_
        exact r_vret rfl (Nat.le_refl _) (Nat.le_refl _) dX12_does_111 ⟨rfl, rfl, rfl, rfl, h⟩

theorem w_X12_does_0 {l : Launch} {D : zDD} {b : Nat} (p1 p2 : Int32) (σ : zSg) (τ : zLm) {Q : zSg → zLm → Prop} (h : vp_in (14 + p2) 26 ∧ (∀ v1 : Int32, v1 = σ 133 ((14 + p2).toNatClampNeg) → (¬ p1 = 0 → AV l D b M_X12_does 4 G0 Q 27 [(0, .ref (b + 125)), (1, .int p1), (2, .int p2), (3, .int v1)] [] G0 σ τ) ∧ (p1 = 0 → ((¬ v1 = 0 → AV l D b M_X12_does 4 G0 Q 27 [(0, .ref (b + 125)), (1, .int p1), (2, .int p2), (3, .int v1)] [] G0 σ τ) ∧ (v1 = 0 → SI l D b M_X12_wraps 3 G0 [.ref (b + 125), .int p2] σ τ (fun r4 σ4 τ4 => Q σ4 τ4)))))) : AV l D b M_X12_does 4 G0 Q 0 [(0, .ref (b + 125)), (1, .int p1), (2, .int p2)] [] G0 σ τ := by
  refine r_aload_n 0 dX12_does_0 rfl rfl ?_
  refine r_getR (j := 20) (by decide) (congrArg Prod.fst k0_125) c12_11 (by decide) rfl g0_125_20 tw_830 dX12_does_1 ?_
  refine r_bipush dX12_does_4 cb_14 ?_
  refine r_iload_n 2 dX12_does_6 rfl rfl ?_
  refine r_iadd dX12_does_7 ?_
  refine r_iald (by decide) k0_133 dX12_does_8 h.1 ?_
  replace h := h.2
  refine r_nmI (fun v1 ev1 => ?_)
  replace h := h v1 ev1
  refine r_istore_n dX12_does_9 rfl (by decide) rfl ?_
  refine r_iload_n 2 dX12_does_10 rfl rfl ?_
  refine r_if_ne (tgt := 27) dX12_does_11 (by decide) (fun c2 => ?_) (fun c2 => ?_)
  · replace h := h.1 c2
    refine r_lv [1, 2, 3, 0] rfl ?_
    exact h
  · replace h := h.2 c2
    refine r_iload_n 0 dX12_does_14 rfl rfl ?_
    refine r_if_ne (tgt := 27) dX12_does_15 (by decide) (fun c3 => ?_) (fun c3 => ?_)
    · replace h := h.1 c3
      refine r_lv [1, 2, 3, 0] rfl ?_
      exact h
    · replace h := h.2 c3
      refine r_aload_n 1 dX12_does_18 rfl rfl ?_
      refine r_iload_n 3 dX12_does_19 rfl rfl ?_
      refine rc_VI (h' := 3) [.int p2] okv_X12_wraps (by decide) (congrArg Prod.fst k0_125) tw_1083 rfl rfl (Nat.le_of_ble_eq_true rfl) dX12_does_20 (by decide) h (fun r4 σ4 τ4 h => ?_)
      refine r_pop dX12_does_23 rfl ?_
      refine r_goto (tgt := 111) dX12_does_24 (by decide) ?_
      exact r_vret rfl (Nat.le_refl _) (Nat.le_refl _) dX12_does_111 ⟨rfl, rfl, rfl, rfl, h⟩
theorem s_X12_does {l : Launch} {D : zDD} {b : Nat} (p1 p2 : Int32) (σ : zSg) (τ : zLm) {Q : zSg → zLm → Prop} (h : vp_in (14 + p2) 26 ∧ (∀ v1 : Int32, v1 = σ 133 ((14 + p2).toNatClampNeg) → (¬ p1 = 0 → AV l D b M_X12_does 4 G0 Q 27 [(0, .ref (b + 125)), (1, .int p1), (2, .int p2), (3, .int v1)] [] G0 σ τ) ∧ (p1 = 0 → ((¬ v1 = 0 → AV l D b M_X12_does 4 G0 Q 27 [(0, .ref (b + 125)), (1, .int p1), (2, .int p2), (3, .int v1)] [] G0 σ τ) ∧ (v1 = 0 → SI l D b M_X12_wraps 3 G0 [.ref (b + 125), .int p2] σ τ (fun r4 σ4 τ4 => Q σ4 τ4)))))) : SV l D b M_X12_does 4 G0 [.ref (b + 125), .int p1, .int p2] σ τ Q := zS.of (by decide) (Nat.le_of_ble_eq_true rfl) rfl (w_X12_does_0 p1 p2 σ τ h)

theorem dX12_order_0 : decode cX12_order 0 = .ok (.iload_n 1, 1) := by decide +kernel
theorem dX12_order_1 : decode cX12_order 1 = .ok (.iconst 0, 1) := by decide +kernel
theorem dX12_order_2 : decode cX12_order 2 = .ok (.iconst 1, 1) := by decide +kernel
theorem dX12_order_3 : decode cX12_order 3 = .ok (.aload_n 0, 1) := by decide +kernel
theorem dX12_order_4 : decode cX12_order 4 = .ok (.getfield 141, 3) := by decide +kernel
theorem dX12_order_7 : decode cX12_order 7 = .ok (.ishl, 1) := by decide +kernel
theorem dX12_order_8 : decode cX12_order 8 = .ok (.iconst 1, 1) := by decide +kernel
theorem dX12_order_9 : decode cX12_order 9 = .ok (.isub, 1) := by decide +kernel
theorem dX12_order_10 : decode cX12_order 10 = .ok (.invokestatic 70, 3) := by decide +kernel
theorem dX12_order_13 : decode cX12_order 13 = .ok (.ifCond .ne 6, 3) := by decide +kernel
theorem dX12_order_16 : decode cX12_order 16 = .ok (.ldc 206, 2) := by decide +kernel
theorem dX12_order_18 : decode cX12_order 18 = .ok (.ireturn, 1) := by decide +kernel
theorem dX12_order_19 : decode cX12_order 19 = .ok (.iload_n 2, 1) := by decide +kernel
theorem dX12_order_20 : decode cX12_order 20 = .ok (.iconst 0, 1) := by decide +kernel
theorem dX12_order_21 : decode cX12_order 21 = .ok (.iconst 1, 1) := by decide +kernel
theorem dX12_order_22 : decode cX12_order 22 = .ok (.invokestatic 70, 3) := by decide +kernel
theorem dX12_order_25 : decode cX12_order 25 = .ok (.ifCond .ne 6, 3) := by decide +kernel
theorem dX12_order_28 : decode cX12_order 28 = .ok (.ldc 74, 2) := by decide +kernel
theorem dX12_order_30 : decode cX12_order 30 = .ok (.ireturn, 1) := by decide +kernel
theorem dX12_order_31 : decode cX12_order 31 = .ok (.iload_n 1, 1) := by decide +kernel
theorem dX12_order_32 : decode cX12_order 32 = .ok (.aload_n 0, 1) := by decide +kernel
theorem dX12_order_33 : decode cX12_order 33 = .ok (.iconst 1, 1) := by decide +kernel
theorem dX12_order_34 : decode cX12_order 34 = .ok (.invokevirtual 171, 3) := by decide +kernel
theorem dX12_order_37 : decode cX12_order 37 = .ok (.aload_n 0, 1) := by decide +kernel
theorem dX12_order_38 : decode cX12_order 38 = .ok (.iconst 2, 1) := by decide +kernel
theorem dX12_order_39 : decode cX12_order 39 = .ok (.invokevirtual 171, 3) := by decide +kernel
theorem dX12_order_42 : decode cX12_order 42 = .ok (.ior, 1) := by decide +kernel
theorem dX12_order_43 : decode cX12_order 43 = .ok (.iconst (-1), 1) := by decide +kernel
theorem dX12_order_44 : decode cX12_order 44 = .ok (.ixor, 1) := by decide +kernel
theorem dX12_order_45 : decode cX12_order 45 = .ok (.iand, 1) := by decide +kernel
theorem dX12_order_46 : decode cX12_order 46 = .ok (.ifCond .eq 6, 3) := by decide +kernel
theorem dX12_order_49 : decode cX12_order 49 = .ok (.ldc 233, 2) := by decide +kernel
theorem dX12_order_51 : decode cX12_order 51 = .ok (.ireturn, 1) := by decide +kernel
theorem dX12_order_52 : decode cX12_order 52 = .ok (.iload_n 1, 1) := by decide +kernel
theorem dX12_order_53 : decode cX12_order 53 = .ok (.ifCond .ne 5, 3) := by decide +kernel
theorem dX12_order_56 : decode cX12_order 56 = .ok (.iconst 0, 1) := by decide +kernel
theorem dX12_order_57 : decode cX12_order 57 = .ok (.ireturn, 1) := by decide +kernel
theorem dX12_order_58 : decode cX12_order 58 = .ok (.iload_n 1, 1) := by decide +kernel
theorem dX12_order_59 : decode cX12_order 59 = .ok (.invokestatic 162, 3) := by decide +kernel
theorem dX12_order_62 : decode cX12_order 62 = .ok (.istore_n 3, 1) := by decide +kernel
theorem dX12_order_63 : decode cX12_order 63 = .ok (.iconst 1, 1) := by decide +kernel
theorem dX12_order_64 : decode cX12_order 64 = .ok (.istore 4, 2) := by decide +kernel
theorem dX12_order_66 : decode cX12_order 66 = .ok (.iconst 1, 1) := by decide +kernel
theorem dX12_order_67 : decode cX12_order 67 = .ok (.istore 5, 2) := by decide +kernel
theorem dX12_order_69 : decode cX12_order 69 = .ok (.iconst 1, 1) := by decide +kernel
theorem dX12_order_70 : decode cX12_order 70 = .ok (.istore 6, 2) := by decide +kernel
theorem dX12_order_72 : decode cX12_order 72 = .ok (.iload 6, 2) := by decide +kernel
theorem dX12_order_74 : decode cX12_order 74 = .ok (.iload_n 3, 1) := by decide +kernel
theorem dX12_order_75 : decode cX12_order 75 = .ok (.if_icmp .ge 25, 3) := by decide +kernel
theorem dX12_order_78 : decode cX12_order 78 = .ok (.bipush 10, 2) := by decide +kernel
theorem dX12_order_80 : decode cX12_order 80 = .ok (.iload 4, 2) := by decide +kernel
theorem dX12_order_82 : decode cX12_order 82 = .ok (.imul, 1) := by decide +kernel
theorem dX12_order_83 : decode cX12_order 83 = .ok (.iconst 1, 1) := by decide +kernel
theorem dX12_order_84 : decode cX12_order 84 = .ok (.iadd, 1) := by decide +kernel
theorem dX12_order_85 : decode cX12_order 85 = .ok (.istore 4, 2) := by decide +kernel
theorem dX12_order_87 : decode cX12_order 87 = .ok (.iload 5, 2) := by decide +kernel
theorem dX12_order_89 : decode cX12_order 89 = .ok (.bipush 10, 2) := by decide +kernel
theorem dX12_order_91 : decode cX12_order 91 = .ok (.imul, 1) := by decide +kernel
theorem dX12_order_92 : decode cX12_order 92 = .ok (.istore 5, 2) := by decide +kernel
theorem dX12_order_94 : decode cX12_order 94 = .ok (.iinc 6 1, 3) := by decide +kernel
theorem dX12_order_97 : decode cX12_order 97 = .ok (.goto (-25), 3) := by decide +kernel
theorem dX12_order_100 : decode cX12_order 100 = .ok (.iconst (-1), 1) := by decide +kernel
theorem dX12_order_101 : decode cX12_order 101 = .ok (.istore 6, 2) := by decide +kernel
theorem dX12_order_103 : decode cX12_order 103 = .ok (.ldc_w 303, 3) := by decide +kernel
theorem dX12_order_106 : decode cX12_order 106 = .ok (.istore 7, 2) := by decide +kernel
theorem dX12_order_108 : decode cX12_order 108 = .ok (.iload 4, 2) := by decide +kernel
theorem dX12_order_110 : decode cX12_order 110 = .ok (.bipush 10, 2) := by decide +kernel
theorem dX12_order_112 : decode cX12_order 112 = .ok (.iload 5, 2) := by decide +kernel
theorem dX12_order_114 : decode cX12_order 114 = .ok (.imul, 1) := by decide +kernel
theorem dX12_order_115 : decode cX12_order 115 = .ok (.if_icmp .ge 74, 3) := by decide +kernel
theorem dX12_order_118 : decode cX12_order 118 = .ok (.aload_n 0, 1) := by decide +kernel
theorem dX12_order_119 : decode cX12_order 119 = .ok (.iload 4, 2) := by decide +kernel
theorem dX12_order_121 : decode cX12_order 121 = .ok (.iload_n 1, 1) := by decide +kernel
theorem dX12_order_122 : decode cX12_order 122 = .ok (.invokevirtual 304, 3) := by decide +kernel
theorem dX12_order_125 : decode cX12_order 125 = .ok (.istore 8, 2) := by decide +kernel
theorem dX12_order_127 : decode cX12_order 127 = .ok (.iload 8, 2) := by decide +kernel
theorem dX12_order_129 : decode cX12_order 129 = .ok (.iconst (-1), 1) := by decide +kernel
theorem dX12_order_130 : decode cX12_order 130 = .ok (.if_icmp .eq 14, 3) := by decide +kernel
theorem dX12_order_133 : decode cX12_order 133 = .ok (.iload 8, 2) := by decide +kernel
theorem dX12_order_135 : decode cX12_order 135 = .ok (.iload 7, 2) := by decide +kernel
theorem dX12_order_137 : decode cX12_order 137 = .ok (.if_icmp .ge 7, 3) := by decide +kernel
theorem dX12_order_140 : decode cX12_order 140 = .ok (.iconst 1, 1) := by decide +kernel
theorem dX12_order_141 : decode cX12_order 141 = .ok (.goto 4, 3) := by decide +kernel
theorem dX12_order_144 : decode cX12_order 144 = .ok (.iconst 0, 1) := by decide +kernel
theorem dX12_order_145 : decode cX12_order 145 = .ok (.istore 9, 2) := by decide +kernel
theorem dX12_order_147 : decode cX12_order 147 = .ok (.iload 9, 2) := by decide +kernel
theorem dX12_order_149 : decode cX12_order 149 = .ok (.ifCond .eq 8, 3) := by decide +kernel
theorem dX12_order_152 : decode cX12_order 152 = .ok (.iload 4, 2) := by decide +kernel
theorem dX12_order_154 : decode cX12_order 154 = .ok (.goto 5, 3) := by decide +kernel
theorem dX12_order_157 : decode cX12_order 157 = .ok (.iload 6, 2) := by decide +kernel
theorem dX12_order_159 : decode cX12_order 159 = .ok (.istore 6, 2) := by decide +kernel
theorem dX12_order_161 : decode cX12_order 161 = .ok (.iload 9, 2) := by decide +kernel
theorem dX12_order_163 : decode cX12_order 163 = .ok (.ifCond .eq 8, 3) := by decide +kernel
theorem dX12_order_166 : decode cX12_order 166 = .ok (.iload 8, 2) := by decide +kernel
theorem dX12_order_168 : decode cX12_order 168 = .ok (.goto 5, 3) := by decide +kernel
theorem dX12_order_171 : decode cX12_order 171 = .ok (.iload 7, 2) := by decide +kernel
theorem dX12_order_173 : decode cX12_order 173 = .ok (.istore 7, 2) := by decide +kernel
theorem dX12_order_175 : decode cX12_order 175 = .ok (.iload 4, 2) := by decide +kernel
theorem dX12_order_177 : decode cX12_order 177 = .ok (.aload_n 0, 1) := by decide +kernel
theorem dX12_order_178 : decode cX12_order 178 = .ok (.getfield 141, 3) := by decide +kernel
theorem dX12_order_181 : decode cX12_order 181 = .ok (.invokestatic 307, 3) := by decide +kernel
theorem dX12_order_184 : decode cX12_order 184 = .ok (.istore 4, 2) := by decide +kernel
theorem dX12_order_186 : decode cX12_order 186 = .ok (.goto (-78), 3) := by decide +kernel
theorem dX12_order_189 : decode cX12_order 189 = .ok (.iload 6, 2) := by decide +kernel
theorem dX12_order_191 : decode cX12_order 191 = .ok (.iconst (-1), 1) := by decide +kernel
theorem dX12_order_192 : decode cX12_order 192 = .ok (.if_icmp .ne 7, 3) := by decide +kernel
theorem dX12_order_195 : decode cX12_order 195 = .ok (.iconst (-1), 1) := by decide +kernel
theorem dX12_order_196 : decode cX12_order 196 = .ok (.goto 14, 3) := by decide +kernel
theorem dX12_order_199 : decode cX12_order 199 = .ok (.iload_n 2, 1) := by decide +kernel
theorem dX12_order_200 : decode cX12_order 200 = .ok (.ifCond .ne 8, 3) := by decide +kernel
theorem dX12_order_203 : decode cX12_order 203 = .ok (.iload 7, 2) := by decide +kernel
theorem dX12_order_205 : decode cX12_order 205 = .ok (.goto 5, 3) := by decide +kernel
theorem dX12_order_208 : decode cX12_order 208 = .ok (.iload 6, 2) := by decide +kernel
theorem dX12_order_210 : decode cX12_order 210 = .ok (.ireturn, 1) := by decide +kernel
theorem w_X12_order_173 {l : Launch} {D : zDD} {b : Nat} (x1 x2 x4 x5 x6 y0 : Int32) (σ : zSg) (τ : zLm) {Q : Int32 → zSg → zLm → Prop} (h : SI l D b M_X12_nextFigures 0 G0 [.int x4, .int (σ 125 16)] σ τ (fun r1 σ1 τ1 => AI l D b M_X12_order 4 G0 Q 108 [(0, .ref (b + 125)), (1, .int x1), (2, .int x2), (4, .int r1), (5, .int x5), (6, .int x6), (7, .int y0)] [] G0 σ1 τ1)) : AI l D b M_X12_order 4 G0 Q 173 [(0, .ref (b + 125)), (1, .int x1), (2, .int x2), (4, .int x4), (5, .int x5), (6, .int x6)] [.int y0] G0 σ τ := by
  refine r_istore dX12_order_173 (by decide) rfl ?_
  refine r_iload 4 dX12_order_175 rfl ?_
  refine r_aload_n 1 dX12_order_177 rfl rfl ?_
  refine r_getI (j := 16) (by decide) (congrArg Prod.fst k0_125) c12_11 (by decide) rfl tw_826 dX12_order_178 ?_
  refine rc_SI (h' := 0) [.int x4, .int (σ 125 16)] oks_X12_nextFigures tw_1214 rfl rfl (Nat.le_of_ble_eq_true rfl) dX12_order_181 (by decide) h (fun r1 σ1 τ1 h => ?_)
  refine r_istore dX12_order_184 (by decide) rfl ?_
  refine r_goto (tgt := 108) dX12_order_186 (by decide) ?_
  refine r_lv [2, 3, 4, 0, 5, 6, 1] rfl ?_
  exact h

theorem w_X12_order_159 {l : Launch} {D : zDD} {b : Nat} (x1 x2 x4 x5 x7 x8 x9 y0 : Int32) (σ : zSg) (τ : zLm) {Q : Int32 → zSg → zLm → Prop} (h : (x9 = 0 → AI l D b M_X12_order 4 G0 Q 173 [(0, .ref (b + 125)), (1, .int x1), (2, .int x2), (4, .int x4), (5, .int x5), (6, .int y0)] [.int x7] G0 σ τ) ∧ (¬ x9 = 0 → AI l D b M_X12_order 4 G0 Q 173 [(0, .ref (b + 125)), (1, .int x1), (2, .int x2), (4, .int x4), (5, .int x5), (6, .int y0)] [.int x8] G0 σ τ)) : AI l D b M_X12_order 4 G0 Q 159 [(0, .ref (b + 125)), (1, .int x1), (2, .int x2), (4, .int x4), (5, .int x5), (7, .int x7), (8, .int x8), (9, .int x9)] [.int y0] G0 σ τ := by
  refine r_istore dX12_order_159 (by decide) rfl ?_
  refine r_iload 8 dX12_order_161 rfl ?_
  refine r_if_eq (tgt := 171) dX12_order_163 (by decide) (fun c1 => ?_) (fun c1 => ?_)
  · replace h := h.1 c1
    refine r_iload 6 dX12_order_171 rfl ?_
    refine r_lv [1, 2, 3, 4, 5, 0] rfl ?_
    exact h
  · replace h := h.2 c1
    refine r_iload 7 dX12_order_166 rfl ?_
    refine r_goto (tgt := 173) dX12_order_168 (by decide) ?_
    refine r_lv [1, 2, 3, 4, 5, 0] rfl ?_
    exact h

theorem w_X12_order_145 {l : Launch} {D : zDD} {b : Nat} (x1 x2 x4 x5 x6 x7 x8 y0 : Int32) (σ : zSg) (τ : zLm) {Q : Int32 → zSg → zLm → Prop} (h : (y0 = 0 → AI l D b M_X12_order 4 G0 Q 159 [(0, .ref (b + 125)), (1, .int x1), (2, .int x2), (4, .int x4), (5, .int x5), (7, .int x7), (8, .int x8), (9, .int y0)] [.int x6] G0 σ τ) ∧ (¬ y0 = 0 → AI l D b M_X12_order 4 G0 Q 159 [(0, .ref (b + 125)), (1, .int x1), (2, .int x2), (4, .int x4), (5, .int x5), (7, .int x7), (8, .int x8), (9, .int y0)] [.int x4] G0 σ τ)) : AI l D b M_X12_order 4 G0 Q 145 [(0, .ref (b + 125)), (1, .int x1), (2, .int x2), (4, .int x4), (5, .int x5), (6, .int x6), (7, .int x7), (8, .int x8)] [.int y0] G0 σ τ := by
  refine r_istore dX12_order_145 (by decide) rfl ?_
  refine r_iload 0 dX12_order_147 rfl ?_
  refine r_if_eq (tgt := 157) dX12_order_149 (by decide) (fun c1 => ?_) (fun c1 => ?_)
  · replace h := h.1 c1
    refine r_iload 6 dX12_order_157 rfl ?_
    refine r_lv [1, 2, 3, 4, 5, 7, 8, 0] rfl ?_
    exact h
  · replace h := h.2 c1
    refine r_iload 4 dX12_order_152 rfl ?_
    refine r_goto (tgt := 159) dX12_order_154 (by decide) ?_
    refine r_lv [1, 2, 3, 4, 5, 7, 8, 0] rfl ?_
    exact h

theorem w_X12_order_144 {l : Launch} {D : zDD} {b : Nat} (x1 x2 x4 x5 x6 x7 x8 : Int32) (σ : zSg) (τ : zLm) {Q : Int32 → zSg → zLm → Prop} (h : AI l D b M_X12_order 4 G0 Q 145 [(0, .ref (b + 125)), (1, .int x1), (2, .int x2), (4, .int x4), (5, .int x5), (6, .int x6), (7, .int x7), (8, .int x8)] [.int 0] G0 σ τ) : AI l D b M_X12_order 4 G0 Q 144 [(0, .ref (b + 125)), (1, .int x1), (2, .int x2), (4, .int x4), (5, .int x5), (6, .int x6), (7, .int x7), (8, .int x8)] [] G0 σ τ := by
  refine r_iconst dX12_order_144 ci_0 ?_
  exact h

theorem w_X12_order_108 {l : Launch} {D : zDD} {b : Nat} (x1 x2 x4 x5 x6 x7 : Int32) (σ : zSg) (τ : zLm) {Q : Int32 → zSg → zLm → Prop} (h : ((10 * x5) ≤ x4 → ((¬ x6 = (-1) → ((¬ x2 = 0 → Q x6 σ τ) ∧ (x2 = 0 → Q x7 σ τ))) ∧ (x6 = (-1) → Q (-1) σ τ))) ∧ (¬ (10 * x5) ≤ x4 → (SI l D b M_X12_sumOf 3 G0 [.ref (b + 125), .int x4, .int x1] σ τ (fun r4 σ4 τ4 => (r4 = (-1) → AI l D b M_X12_order 4 G0 Q 144 [(0, .ref (b + 125)), (1, .int x1), (2, .int x2), (4, .int x4), (5, .int x5), (6, .int x6), (7, .int x7), (8, .int r4)] [] G0 σ4 τ4) ∧ (¬ r4 = (-1) → ((x7 ≤ r4 → AI l D b M_X12_order 4 G0 Q 144 [(0, .ref (b + 125)), (1, .int x1), (2, .int x2), (4, .int x4), (5, .int x5), (6, .int x6), (7, .int x7), (8, .int r4)] [] G0 σ4 τ4) ∧ (¬ x7 ≤ r4 → AI l D b M_X12_order 4 G0 Q 145 [(0, .ref (b + 125)), (1, .int x1), (2, .int x2), (4, .int x4), (5, .int x5), (6, .int x6), (7, .int x7), (8, .int r4)] [.int 1] G0 σ4 τ4))))))) : AI l D b M_X12_order 4 G0 Q 108 [(0, .ref (b + 125)), (1, .int x1), (2, .int x2), (4, .int x4), (5, .int x5), (6, .int x6), (7, .int x7)] [] G0 σ τ := by
  refine r_iload 3 dX12_order_108 rfl ?_
  refine r_bipush dX12_order_110 cb_10 ?_
  refine r_iload 4 dX12_order_112 rfl ?_
  refine r_imul dX12_order_114 ?_
  refine r_icmp_ge (tgt := 189) dX12_order_115 (by decide) (fun c1 => ?_) (fun c1 => ?_)
  · replace h := h.1 c1
    refine r_iload 5 dX12_order_189 rfl ?_
    refine r_iconst dX12_order_191 ci_m1 ?_
    refine r_icmp_ne (tgt := 199) dX12_order_192 (by decide) (fun c2 => ?_) (fun c2 => ?_)
    · replace h := h.1 c2
      refine r_iload_n 2 dX12_order_199 rfl rfl ?_
      refine r_if_ne (tgt := 208) dX12_order_200 (by decide) (fun c3 => ?_) (fun c3 => ?_)
      · replace h := h.1 c3
        refine r_iload 5 dX12_order_208 rfl ?_
        exact r_iret rfl (Nat.le_refl _) (Nat.le_refl _) dX12_order_210 ⟨rfl, rfl, rfl, _, rfl, h⟩
      · replace h := h.2 c3
        refine r_iload 6 dX12_order_203 rfl ?_
        refine r_goto (tgt := 210) dX12_order_205 (by decide) ?_
        exact r_iret rfl (Nat.le_refl _) (Nat.le_refl _) dX12_order_210 ⟨rfl, rfl, rfl, _, rfl, h⟩
    · replace h := h.2 c2
      refine r_iconst dX12_order_195 ci_m1 ?_
      refine r_goto (tgt := 210) dX12_order_196 (by decide) ?_
      exact r_iret rfl (Nat.le_refl _) (Nat.le_refl _) dX12_order_210 ⟨rfl, rfl, rfl, _, rfl, h⟩
  · replace h := h.2 c1
    refine r_aload_n 0 dX12_order_118 rfl rfl ?_
    refine r_iload 3 dX12_order_119 rfl ?_
    refine r_iload_n 1 dX12_order_121 rfl rfl ?_
    refine rc_VI (h' := 3) [.int x4, .int x1] okv_X12_sumOf (by decide) (congrArg Prod.fst k0_125) tw_1210 rfl rfl (Nat.le_of_ble_eq_true rfl) dX12_order_122 (by decide) h (fun r4 σ4 τ4 h => ?_)
    refine r_istore dX12_order_125 (by decide) rfl ?_
    refine r_iload 0 dX12_order_127 rfl ?_
    refine r_iconst dX12_order_129 ci_m1 ?_
    refine r_icmp_eq (tgt := 144) dX12_order_130 (by decide) (fun c5 => ?_) (fun c5 => ?_)
    · replace h := h.1 c5
      refine r_lv [1, 2, 3, 4, 5, 6, 7, 0] rfl ?_
      exact h
    · replace h := h.2 c5
      refine r_iload 0 dX12_order_133 rfl ?_
      refine r_iload 7 dX12_order_135 rfl ?_
      refine r_icmp_ge (tgt := 144) dX12_order_137 (by decide) (fun c6 => ?_) (fun c6 => ?_)
      · replace h := h.1 c6
        refine r_lv [1, 2, 3, 4, 5, 6, 7, 0] rfl ?_
        exact h
      · replace h := h.2 c6
        refine r_iconst dX12_order_140 ci_1 ?_
        refine r_goto (tgt := 145) dX12_order_141 (by decide) ?_
        refine r_lv [1, 2, 3, 4, 5, 6, 7, 0] rfl ?_
        exact h

theorem w_X12_order_72 {l : Launch} {D : zDD} {b : Nat} (x1 x2 x3 x4 x5 x6 : Int32) (σ : zSg) (τ : zLm) {Q : Int32 → zSg → zLm → Prop} (h : (x3 ≤ x6 → AI l D b M_X12_order 4 G0 Q 108 [(0, .ref (b + 125)), (1, .int x1), (2, .int x2), (4, .int x4), (5, .int x5), (6, .int (-1)), (7, .int 1000000000)] [] G0 σ τ) ∧ (¬ x3 ≤ x6 → AI l D b M_X12_order 4 G0 Q 72 [(0, .ref (b + 125)), (1, .int x1), (2, .int x2), (3, .int x3), (4, .int ((10 * x4) + 1)), (5, .int (x5 * 10)), (6, .int (x6 + 1))] [] G0 σ τ)) : AI l D b M_X12_order 4 G0 Q 72 [(0, .ref (b + 125)), (1, .int x1), (2, .int x2), (3, .int x3), (4, .int x4), (5, .int x5), (6, .int x6)] [] G0 σ τ := by
  refine r_iload 6 dX12_order_72 rfl ?_
  refine r_iload_n 3 dX12_order_74 rfl rfl ?_
  refine r_icmp_ge (tgt := 100) dX12_order_75 (by decide) (fun c1 => ?_) (fun c1 => ?_)
  · replace h := h.1 c1
    refine r_iconst dX12_order_100 ci_m1 ?_
    refine r_istore dX12_order_101 (by decide) rfl ?_
    refine r_ldcw (v := 1000000000) rfl tw_1209 rfl dX12_order_103 ?_
    refine r_istore dX12_order_106 (by decide) rfl ?_
    refine r_lv [2, 3, 4, 6, 7, 1, 0] rfl ?_
    exact h
  · replace h := h.2 c1
    refine r_bipush dX12_order_78 cb_10 ?_
    refine r_iload 4 dX12_order_80 rfl ?_
    refine r_imul dX12_order_82 ?_
    refine r_iconst dX12_order_83 ci_1 ?_
    refine r_iadd dX12_order_84 ?_
    refine r_istore dX12_order_85 (by decide) rfl ?_
    refine r_iload 5 dX12_order_87 rfl ?_
    refine r_bipush dX12_order_89 cb_10 ?_
    refine r_imul dX12_order_91 ?_
    refine r_istore dX12_order_92 (by decide) rfl ?_
    refine r_inc 6 dX12_order_94 rfl ci_1 (by decide) rfl ?_
    refine r_goto (tgt := 72) dX12_order_97 (by decide) ?_
    refine r_lv [3, 4, 5, 6, 2, 1, 0] rfl ?_
    exact h

theorem w_X12_order_0 {l : Launch} {D : zDD} {b : Nat} (p1 p2 : Int32) (σ : zSg) (τ : zLm) {Q : Int32 → zSg → zLm → Prop} (h : SI l D b M_X12_in 0 G0 [.int p1, .int 0, .int (((1 : Int32) <<< ((σ 125 16) &&& 31)) - 1)] σ τ (fun r1 σ1 τ1 => (¬ r1 = 0 → (SI l D b M_X12_in 0 G0 [.int p2, .int 0, .int 1] σ1 τ1 (fun r3 σ3 τ3 => (¬ r3 = 0 → (SI l D b M_X12_are 0 G0 [.ref (b + 125), .int 1] σ3 τ3 (fun r5 σ5 τ5 => SI l D b M_X12_are 0 G0 [.ref (b + 125), .int 2] σ5 τ5 (fun r6 σ6 τ6 => ((p1 &&& ((r5 ||| r6) ^^^ (-1))) = 0 → ((¬ p1 = 0 → SI l D b M_X12_bits 0 G0 [.int p1] σ6 τ6 (fun r9 σ9 τ9 => AI l D b M_X12_order 4 G0 Q 72 [(0, .ref (b + 125)), (1, .int p1), (2, .int p2), (3, .int r9), (4, .int 1), (5, .int 1), (6, .int 1)] [] G0 σ9 τ9)) ∧ (p1 = 0 → Q 0 σ6 τ6))) ∧ (¬ (p1 &&& ((r5 ||| r6) ^^^ (-1))) = 0 → Q (-1000000003) σ6 τ6))))) ∧ (r3 = 0 → Q (-1000000002) σ3 τ3)))) ∧ (r1 = 0 → Q (-1000000001) σ1 τ1))) : AI l D b M_X12_order 4 G0 Q 0 [(0, .ref (b + 125)), (1, .int p1), (2, .int p2)] [] G0 σ τ := by
  refine r_iload_n 1 dX12_order_0 rfl rfl ?_
  refine r_iconst dX12_order_1 ci_0 ?_
  refine r_iconst dX12_order_2 ci_1 ?_
  refine r_aload_n 0 dX12_order_3 rfl rfl ?_
  refine r_getI (j := 16) (by decide) (congrArg Prod.fst k0_125) c12_11 (by decide) rfl tw_826 dX12_order_4 ?_
  refine r_ishl dX12_order_7 ?_
  refine r_iconst dX12_order_8 ci_1 ?_
  refine r_isub dX12_order_9 ?_
  refine rc_SI (h' := 0) [.int p1, .int 0, .int (((1 : Int32) <<< ((σ 125 16) &&& 31)) - 1)] oks_X12_in tw_924 rfl rfl (Nat.le_of_ble_eq_true rfl) dX12_order_10 (by decide) h (fun r1 σ1 τ1 h => ?_)
  refine r_if_ne (tgt := 19) dX12_order_13 (by decide) (fun c2 => ?_) (fun c2 => ?_)
  · replace h := h.1 c2
    refine r_iload_n 2 dX12_order_19 rfl rfl ?_
    refine r_iconst dX12_order_20 ci_0 ?_
    refine r_iconst dX12_order_21 ci_1 ?_
    refine rc_SI (h' := 0) [.int p2, .int 0, .int 1] oks_X12_in tw_924 rfl rfl (Nat.le_of_ble_eq_true rfl) dX12_order_22 (by decide) h (fun r3 σ3 τ3 h => ?_)
    refine r_if_ne (tgt := 31) dX12_order_25 (by decide) (fun c4 => ?_) (fun c4 => ?_)
    · replace h := h.1 c4
      refine r_iload_n 1 dX12_order_31 rfl rfl ?_
      refine r_aload_n 0 dX12_order_32 rfl rfl ?_
      refine r_iconst dX12_order_33 ci_1 ?_
      refine rc_VI (h' := 0) [.int 1] okv_X12_are (by decide) (congrArg Prod.fst k0_125) tw_981 rfl rfl (Nat.le_of_ble_eq_true rfl) dX12_order_34 (by decide) h (fun r5 σ5 τ5 h => ?_)
      refine r_aload_n 0 dX12_order_37 rfl rfl ?_
      refine r_iconst dX12_order_38 ci_2 ?_
      refine rc_VI (h' := 0) [.int 2] okv_X12_are (by decide) (congrArg Prod.fst k0_125) tw_981 rfl rfl (Nat.le_of_ble_eq_true rfl) dX12_order_39 (by decide) h (fun r6 σ6 τ6 h => ?_)
      refine r_ior dX12_order_42 ?_
      refine r_iconst dX12_order_43 ci_m1 ?_
      refine r_ixor dX12_order_44 ?_
      refine r_iand dX12_order_45 ?_
      refine r_if_eq (tgt := 52) dX12_order_46 (by decide) (fun c7 => ?_) (fun c7 => ?_)
      · replace h := h.1 c7
        refine r_iload_n 1 dX12_order_52 rfl rfl ?_
        refine r_if_ne (tgt := 58) dX12_order_53 (by decide) (fun c8 => ?_) (fun c8 => ?_)
        · replace h := h.1 c8
          refine r_iload_n 1 dX12_order_58 rfl rfl ?_
          refine rc_SI (h' := 0) [.int p1] oks_X12_bits tw_1046 rfl rfl (Nat.le_of_ble_eq_true rfl) dX12_order_59 (by decide) h (fun r9 σ9 τ9 h => ?_)
          refine r_istore_n dX12_order_62 rfl (by decide) rfl ?_
          refine r_iconst dX12_order_63 ci_1 ?_
          refine r_istore dX12_order_64 (by decide) rfl ?_
          refine r_iconst dX12_order_66 ci_1 ?_
          refine r_istore dX12_order_67 (by decide) rfl ?_
          refine r_iconst dX12_order_69 ci_1 ?_
          refine r_istore dX12_order_70 (by decide) rfl ?_
          refine r_lv [4, 5, 6, 3, 2, 1, 0] rfl ?_
          exact h
        · replace h := h.2 c8
          refine r_iconst dX12_order_56 ci_0 ?_
          exact r_iret rfl (Nat.le_refl _) (Nat.le_refl _) dX12_order_57 ⟨rfl, rfl, rfl, _, rfl, h⟩
      · replace h := h.2 c7
        refine r_ldc (v := (-1000000003)) rfl tw_1078 rfl dX12_order_49 ?_
        exact r_iret rfl (Nat.le_refl _) (Nat.le_refl _) dX12_order_51 ⟨rfl, rfl, rfl, _, rfl, h⟩
    · replace h := h.2 c4
      refine r_ldc (v := (-1000000002)) rfl tw_927 rfl dX12_order_28 ?_
      exact r_iret rfl (Nat.le_refl _) (Nat.le_refl _) dX12_order_30 ⟨rfl, rfl, rfl, _, rfl, h⟩
  · replace h := h.2 c2
    refine r_ldc (v := (-1000000001)) rfl tw_1035 rfl dX12_order_16 ?_
    exact r_iret rfl (Nat.le_refl _) (Nat.le_refl _) dX12_order_18 ⟨rfl, rfl, rfl, _, rfl, h⟩
theorem s_X12_order {l : Launch} {D : zDD} {b : Nat} (p1 p2 : Int32) (σ : zSg) (τ : zLm) {Q : Int32 → zSg → zLm → Prop} (h : SI l D b M_X12_in 0 G0 [.int p1, .int 0, .int (((1 : Int32) <<< ((σ 125 16) &&& 31)) - 1)] σ τ (fun r1 σ1 τ1 => (¬ r1 = 0 → (SI l D b M_X12_in 0 G0 [.int p2, .int 0, .int 1] σ1 τ1 (fun r3 σ3 τ3 => (¬ r3 = 0 → (SI l D b M_X12_are 0 G0 [.ref (b + 125), .int 1] σ3 τ3 (fun r5 σ5 τ5 => SI l D b M_X12_are 0 G0 [.ref (b + 125), .int 2] σ5 τ5 (fun r6 σ6 τ6 => ((p1 &&& ((r5 ||| r6) ^^^ (-1))) = 0 → ((¬ p1 = 0 → SI l D b M_X12_bits 0 G0 [.int p1] σ6 τ6 (fun r9 σ9 τ9 => AI l D b M_X12_order 4 G0 Q 72 [(0, .ref (b + 125)), (1, .int p1), (2, .int p2), (3, .int r9), (4, .int 1), (5, .int 1), (6, .int 1)] [] G0 σ9 τ9)) ∧ (p1 = 0 → Q 0 σ6 τ6))) ∧ (¬ (p1 &&& ((r5 ||| r6) ^^^ (-1))) = 0 → Q (-1000000003) σ6 τ6))))) ∧ (r3 = 0 → Q (-1000000002) σ3 τ3)))) ∧ (r1 = 0 → Q (-1000000001) σ1 τ1))) : SI l D b M_X12_order 4 G0 [.ref (b + 125), .int p1, .int p2] σ τ Q := zS.of (by decide) (Nat.le_of_ble_eq_true rfl) rfl (w_X12_order_0 p1 p2 σ τ h)

theorem dX12_readsKitchen_0 : decode cX12_readsKitchen 0 = .ok (.aload_n 0, 1) := by decide +kernel
theorem dX12_readsKitchen_1 : decode cX12_readsKitchen 1 = .ok (.iconst 0, 1) := by decide +kernel
theorem dX12_readsKitchen_2 : decode cX12_readsKitchen 2 = .ok (.putfield 79, 3) := by decide +kernel
theorem dX12_readsKitchen_5 : decode cX12_readsKitchen 5 = .ok (.aload_n 0, 1) := by decide +kernel
theorem dX12_readsKitchen_6 : decode cX12_readsKitchen 6 = .ok (.iconst 0, 1) := by decide +kernel
theorem dX12_readsKitchen_7 : decode cX12_readsKitchen 7 = .ok (.putfield 103, 3) := by decide +kernel
theorem dX12_readsKitchen_10 : decode cX12_readsKitchen 10 = .ok (.aload_n 0, 1) := by decide +kernel
theorem dX12_readsKitchen_11 : decode cX12_readsKitchen 11 = .ok (.iconst 0, 1) := by decide +kernel
theorem dX12_readsKitchen_12 : decode cX12_readsKitchen 12 = .ok (.putfield 106, 3) := by decide +kernel
theorem dX12_readsKitchen_15 : decode cX12_readsKitchen 15 = .ok (.aload_n 0, 1) := by decide +kernel
theorem dX12_readsKitchen_16 : decode cX12_readsKitchen 16 = .ok (.iconst 0, 1) := by decide +kernel
theorem dX12_readsKitchen_17 : decode cX12_readsKitchen 17 = .ok (.putfield 113, 3) := by decide +kernel
theorem dX12_readsKitchen_20 : decode cX12_readsKitchen 20 = .ok (.aload_n 0, 1) := by decide +kernel
theorem dX12_readsKitchen_21 : decode cX12_readsKitchen 21 = .ok (.iconst 0, 1) := by decide +kernel
theorem dX12_readsKitchen_22 : decode cX12_readsKitchen 22 = .ok (.putfield 116, 3) := by decide +kernel
theorem dX12_readsKitchen_25 : decode cX12_readsKitchen 25 = .ok (.iconst 1, 1) := by decide +kernel
theorem dX12_readsKitchen_26 : decode cX12_readsKitchen 26 = .ok (.istore_n 1, 1) := by decide +kernel
theorem dX12_readsKitchen_27 : decode cX12_readsKitchen 27 = .ok (.iload_n 1, 1) := by decide +kernel
theorem dX12_readsKitchen_28 : decode cX12_readsKitchen 28 = .ok (.ifCond .eq 19, 3) := by decide +kernel
theorem dX12_readsKitchen_31 : decode cX12_readsKitchen 31 = .ok (.aload_n 0, 1) := by decide +kernel
theorem dX12_readsKitchen_32 : decode cX12_readsKitchen 32 = .ok (.invokevirtual 89, 3) := by decide +kernel
theorem dX12_readsKitchen_35 : decode cX12_readsKitchen 35 = .ok (.iconst (-1), 1) := by decide +kernel
theorem dX12_readsKitchen_36 : decode cX12_readsKitchen 36 = .ok (.if_icmp .eq 11, 3) := by decide +kernel
theorem dX12_readsKitchen_39 : decode cX12_readsKitchen 39 = .ok (.aload_n 0, 1) := by decide +kernel
theorem dX12_readsKitchen_40 : decode cX12_readsKitchen 40 = .ok (.invokevirtual 129, 3) := by decide +kernel
theorem dX12_readsKitchen_43 : decode cX12_readsKitchen 43 = .ok (.istore_n 1, 1) := by decide +kernel
theorem dX12_readsKitchen_44 : decode cX12_readsKitchen 44 = .ok (.goto (-17), 3) := by decide +kernel
theorem dX12_readsKitchen_47 : decode cX12_readsKitchen 47 = .ok (.iload_n 1, 1) := by decide +kernel
theorem dX12_readsKitchen_48 : decode cX12_readsKitchen 48 = .ok (.ireturn, 1) := by decide +kernel
theorem w_X12_readsKitchen_27 {l : Launch} {D : zDD} {b : Nat} (x1 : Int32) (σ : zSg) (τ : zLm) {Q : Int32 → zSg → zLm → Prop} (h : (x1 = 0 → ((x1 = 0 ∨ x1 = 1) ∧ Q x1 σ τ)) ∧ (¬ x1 = 0 → (SI l D b M_X12_nextLetter 1 G0 [.ref (b + 125)] σ τ (fun r2 σ2 τ2 => (r2 = (-1) → ((x1 = 0 ∨ x1 = 1) ∧ Q x1 σ2 τ2)) ∧ (¬ r2 = (-1) → SI l D b M_X12_readsClause 4 G0 [.ref (b + 125)] σ2 τ2 (fun r4 σ4 τ4 => AI l D b M_X12_readsKitchen 5 G0 Q 27 [(0, .ref (b + 125)), (1, .int r4)] [] G0 σ4 τ4)))))) : AI l D b M_X12_readsKitchen 5 G0 Q 27 [(0, .ref (b + 125)), (1, .int x1)] [] G0 σ τ := by
  refine r_iload_n 1 dX12_readsKitchen_27 rfl rfl ?_
  refine r_if_eq (tgt := 47) dX12_readsKitchen_28 (by decide) (fun c1 => ?_) (fun c1 => ?_)
  · replace h := h.1 c1
    refine r_iload_n 1 dX12_readsKitchen_47 rfl rfl ?_
    exact r_zret rfl (Nat.le_refl _) (Nat.le_refl _) dX12_readsKitchen_48 h.1 ⟨rfl, rfl, rfl, _, rfl, h.2⟩
  · replace h := h.2 c1
    refine r_aload_n 0 dX12_readsKitchen_31 rfl rfl ?_
    refine rc_VI (h' := 1) [] okv_X12_nextLetter (by decide) (congrArg Prod.fst k0_125) tw_937 rfl rfl (Nat.le_of_ble_eq_true rfl) dX12_readsKitchen_32 (by decide) h (fun r2 σ2 τ2 h => ?_)
    refine r_iconst dX12_readsKitchen_35 ci_m1 ?_
    refine r_icmp_eq (tgt := 47) dX12_readsKitchen_36 (by decide) (fun c3 => ?_) (fun c3 => ?_)
    · replace h := h.1 c3
      refine r_iload_n 1 dX12_readsKitchen_47 rfl rfl ?_
      exact r_zret rfl (Nat.le_refl _) (Nat.le_refl _) dX12_readsKitchen_48 h.1 ⟨rfl, rfl, rfl, _, rfl, h.2⟩
    · replace h := h.2 c3
      refine r_aload_n 0 dX12_readsKitchen_39 rfl rfl ?_
      refine rc_VI (h' := 4) [] okv_X12_readsClause (by decide) (congrArg Prod.fst k0_125) tw_945 rfl rfl (Nat.le_of_ble_eq_true rfl) dX12_readsKitchen_40 (by decide) h (fun r4 σ4 τ4 h => ?_)
      refine r_istore_n dX12_readsKitchen_43 rfl (by decide) rfl ?_
      refine r_goto (tgt := 27) dX12_readsKitchen_44 (by decide) ?_
      refine r_lv [1, 0] rfl ?_
      exact h

theorem w_X12_readsKitchen_0 {l : Launch} {D : zDD} {b : Nat} (σ : zSg) (τ : zLm) {Q : Int32 → zSg → zLm → Prop} (h : AI l D b M_X12_readsKitchen 5 G0 Q 27 [(0, .ref (b + 125)), (1, .int 1)] [] G0 (st2 (st2 (st2 (st2 (st2 σ 125 2 0) 125 6 0) 125 7 0) 125 8 0) 125 9 0) τ) : AI l D b M_X12_readsKitchen 5 G0 Q 0 [(0, .ref (b + 125))] [] G0 σ τ := by
  refine r_aload_n 0 dX12_readsKitchen_0 rfl rfl ?_
  refine r_iconst dX12_readsKitchen_1 ci_0 ?_
  refine r_putI (j := 2) (by decide) (congrArg Prod.fst k0_125) c12_11 (by decide) rfl (Or.inl rfl) tw_812 dX12_readsKitchen_2 ?_
  refine r_aload_n 0 dX12_readsKitchen_5 rfl rfl ?_
  refine r_iconst dX12_readsKitchen_6 ci_0 ?_
  refine r_putI (j := 6) (by decide) (congrArg Prod.fst k0_125) c12_11 (by decide) rfl (Or.inl rfl) tw_816 dX12_readsKitchen_7 ?_
  refine r_aload_n 0 dX12_readsKitchen_10 rfl rfl ?_
  refine r_iconst dX12_readsKitchen_11 ci_0 ?_
  refine r_putI (j := 7) (by decide) (congrArg Prod.fst k0_125) c12_11 (by decide) rfl (Or.inl rfl) tw_817 dX12_readsKitchen_12 ?_
  refine r_aload_n 0 dX12_readsKitchen_15 rfl rfl ?_
  refine r_iconst dX12_readsKitchen_16 ci_0 ?_
  refine r_putI (j := 8) (by decide) (congrArg Prod.fst k0_125) c12_11 (by decide) rfl (Or.inl rfl) tw_818 dX12_readsKitchen_17 ?_
  refine r_aload_n 0 dX12_readsKitchen_20 rfl rfl ?_
  refine r_iconst dX12_readsKitchen_21 ci_0 ?_
  refine r_putI (j := 9) (by decide) (congrArg Prod.fst k0_125) c12_11 (by decide) rfl (Or.inl rfl) tw_819 dX12_readsKitchen_22 ?_
  refine r_iconst dX12_readsKitchen_25 ci_1 ?_
  refine r_istore_n dX12_readsKitchen_26 rfl (by decide) rfl ?_
  refine r_lv [1, 0] rfl ?_
  exact h
theorem s_X12_readsKitchen {l : Launch} {D : zDD} {b : Nat} (σ : zSg) (τ : zLm) {Q : Int32 → zSg → zLm → Prop} (h : AI l D b M_X12_readsKitchen 5 G0 Q 27 [(0, .ref (b + 125)), (1, .int 1)] [] G0 (st2 (st2 (st2 (st2 (st2 σ 125 2 0) 125 6 0) 125 7 0) 125 8 0) 125 9 0) τ) : SI l D b M_X12_readsKitchen 5 G0 [.ref (b + 125)] σ τ Q := zS.of (by decide) (Nat.le_of_ble_eq_true rfl) rfl (w_X12_readsKitchen_0 σ τ h)

theorem dX12_drift_0 : decode cX12_drift 0 = .ok (.aload_n 0, 1) := by decide +kernel
theorem dX12_drift_1 : decode cX12_drift 1 = .ok (.iload_n 1, 1) := by decide +kernel
theorem dX12_drift_2 : decode cX12_drift 2 = .ok (.invokevirtual 252, 3) := by decide +kernel
theorem dX12_drift_5 : decode cX12_drift 5 = .ok (.istore_n 2, 1) := by decide +kernel
theorem dX12_drift_6 : decode cX12_drift 6 = .ok (.iload_n 2, 1) := by decide +kernel
theorem dX12_drift_7 : decode cX12_drift 7 = .ok (.ifCond .ge 5, 3) := by decide +kernel
theorem dX12_drift_10 : decode cX12_drift 10 = .ok (.iload_n 2, 1) := by decide +kernel
theorem dX12_drift_11 : decode cX12_drift 11 = .ok (.ireturn, 1) := by decide +kernel
theorem dX12_drift_12 : decode cX12_drift 12 = .ok (.aload_n 0, 1) := by decide +kernel
theorem dX12_drift_13 : decode cX12_drift 13 = .ok (.invokevirtual 234, 3) := by decide +kernel
theorem dX12_drift_16 : decode cX12_drift 16 = .ok (.iconst 0, 1) := by decide +kernel
theorem dX12_drift_17 : decode cX12_drift 17 = .ok (.istore_n 3, 1) := by decide +kernel
theorem dX12_drift_18 : decode cX12_drift 18 = .ok (.iload_n 3, 1) := by decide +kernel
theorem dX12_drift_19 : decode cX12_drift 19 = .ok (.iload_n 1, 1) := by decide +kernel
theorem dX12_drift_20 : decode cX12_drift 20 = .ok (.if_icmp .ge 41, 3) := by decide +kernel
theorem dX12_drift_23 : decode cX12_drift 23 = .ok (.aload_n 0, 1) := by decide +kernel
theorem dX12_drift_24 : decode cX12_drift 24 = .ok (.getfield 141, 3) := by decide +kernel
theorem dX12_drift_27 : decode cX12_drift 27 = .ok (.ifCond .le 24, 3) := by decide +kernel
theorem dX12_drift_30 : decode cX12_drift 30 = .ok (.aload_n 0, 1) := by decide +kernel
theorem dX12_drift_31 : decode cX12_drift 31 = .ok (.iconst 5, 1) := by decide +kernel
theorem dX12_drift_32 : decode cX12_drift 32 = .ok (.invokevirtual 280, 3) := by decide +kernel
theorem dX12_drift_35 : decode cX12_drift 35 = .ok (.istore 4, 2) := by decide +kernel
theorem dX12_drift_37 : decode cX12_drift 37 = .ok (.aload_n 0, 1) := by decide +kernel
theorem dX12_drift_38 : decode cX12_drift 38 = .ok (.iload 4, 2) := by decide +kernel
theorem dX12_drift_40 : decode cX12_drift 40 = .ok (.aload_n 0, 1) := by decide +kernel
theorem dX12_drift_41 : decode cX12_drift 41 = .ok (.aload_n 0, 1) := by decide +kernel
theorem dX12_drift_42 : decode cX12_drift 42 = .ok (.getfield 141, 3) := by decide +kernel
theorem dX12_drift_45 : decode cX12_drift 45 = .ok (.invokevirtual 280, 3) := by decide +kernel
theorem dX12_drift_48 : decode cX12_drift 48 = .ok (.invokevirtual 283, 3) := by decide +kernel
theorem dX12_drift_51 : decode cX12_drift 51 = .ok (.aload_n 0, 1) := by decide +kernel
theorem dX12_drift_52 : decode cX12_drift 52 = .ok (.invokevirtual 255, 3) := by decide +kernel
theorem dX12_drift_55 : decode cX12_drift 55 = .ok (.iinc 3 1, 3) := by decide +kernel
theorem dX12_drift_58 : decode cX12_drift 58 = .ok (.goto (-40), 3) := by decide +kernel
theorem dX12_drift_61 : decode cX12_drift 61 = .ok (.aload_n 0, 1) := by decide +kernel
theorem dX12_drift_62 : decode cX12_drift 62 = .ok (.iconst 3, 1) := by decide +kernel
theorem dX12_drift_63 : decode cX12_drift 63 = .ok (.invokevirtual 171, 3) := by decide +kernel
theorem dX12_drift_66 : decode cX12_drift 66 = .ok (.ireturn, 1) := by decide +kernel
theorem w_X12_drift_51 {l : Launch} {D : zDD} {b : Nat} (x1 x3 : Int32) (σ : zSg) (τ : zLm) {Q : Int32 → zSg → zLm → Prop} (h : SV l D b M_X12_passes 2 G0 [.ref (b + 125)] σ τ (fun σ1 τ1 => AI l D b M_X12_drift 5 G0 Q 18 [(0, .ref (b + 125)), (1, .int x1), (3, .int (x3 + 1))] [] G0 σ1 τ1)) : AI l D b M_X12_drift 5 G0 Q 51 [(0, .ref (b + 125)), (1, .int x1), (3, .int x3)] [] G0 σ τ := by
  refine r_aload_n 0 dX12_drift_51 rfl rfl ?_
  refine rc_VV (h' := 2) [] okv_X12_passes (by decide) (congrArg Prod.fst k0_125) tw_1124 rfl rfl (Nat.le_of_ble_eq_true rfl) dX12_drift_52 (by decide) h (fun σ1 τ1 h => ?_)
  refine r_inc 2 dX12_drift_55 rfl ci_1 (by decide) rfl ?_
  refine r_goto (tgt := 18) dX12_drift_58 (by decide) ?_
  refine r_lv [1, 2, 0] rfl ?_
  exact h

theorem w_X12_drift_18 {l : Launch} {D : zDD} {b : Nat} (x1 x3 : Int32) (σ : zSg) (τ : zLm) {Q : Int32 → zSg → zLm → Prop} (h : (x1 ≤ x3 → SI l D b M_X12_are 0 G0 [.ref (b + 125), .int 3] σ τ (fun r2 σ2 τ2 => Q r2 σ2 τ2)) ∧ (¬ x1 ≤ x3 → (((σ 125 16) ≤ 0 → AI l D b M_X12_drift 5 G0 Q 51 [(0, .ref (b + 125)), (1, .int x1), (3, .int x3)] [] G0 σ τ) ∧ (¬ (σ 125 16) ≤ 0 → SI l D b M_X12_draw 0 G0 [.ref (b + 125), .int 5] σ τ (fun r4 σ4 τ4 => SI l D b M_X12_draw 0 G0 [.ref (b + 125), .int (σ4 125 16)] σ4 τ4 (fun r5 σ5 τ5 => SV l D b M_X12_does 4 G0 [.ref (b + 125), .int r4, .int r5] σ5 τ5 (fun σ6 τ6 => AI l D b M_X12_drift 5 G0 Q 51 [(0, .ref (b + 125)), (1, .int x1), (3, .int x3)] [] G0 σ6 τ6))))))) : AI l D b M_X12_drift 5 G0 Q 18 [(0, .ref (b + 125)), (1, .int x1), (3, .int x3)] [] G0 σ τ := by
  refine r_iload_n 2 dX12_drift_18 rfl rfl ?_
  refine r_iload_n 1 dX12_drift_19 rfl rfl ?_
  refine r_icmp_ge (tgt := 61) dX12_drift_20 (by decide) (fun c1 => ?_) (fun c1 => ?_)
  · replace h := h.1 c1
    refine r_aload_n 0 dX12_drift_61 rfl rfl ?_
    refine r_iconst dX12_drift_62 ci_3 ?_
    refine rc_VI (h' := 0) [.int 3] okv_X12_are (by decide) (congrArg Prod.fst k0_125) tw_981 rfl rfl (Nat.le_of_ble_eq_true rfl) dX12_drift_63 (by decide) h (fun r2 σ2 τ2 h => ?_)
    exact r_iret rfl (Nat.le_refl _) (Nat.le_refl _) dX12_drift_66 ⟨rfl, rfl, rfl, _, rfl, h⟩
  · replace h := h.2 c1
    refine r_aload_n 0 dX12_drift_23 rfl rfl ?_
    refine r_getI (j := 16) (by decide) (congrArg Prod.fst k0_125) c12_11 (by decide) rfl tw_826 dX12_drift_24 ?_
    refine r_if_le (tgt := 51) dX12_drift_27 (by decide) (fun c3 => ?_) (fun c3 => ?_)
    · replace h := h.1 c3
      exact h
    · replace h := h.2 c3
      refine r_aload_n 0 dX12_drift_30 rfl rfl ?_
      refine r_iconst dX12_drift_31 ci_5 ?_
      refine rc_VI (h' := 0) [.int 5] okv_X12_draw (by decide) (congrArg Prod.fst k0_125) tw_1163 rfl rfl (Nat.le_of_ble_eq_true rfl) dX12_drift_32 (by decide) h (fun r4 σ4 τ4 h => ?_)
      refine r_istore dX12_drift_35 (by decide) rfl ?_
      refine r_aload_n 1 dX12_drift_37 rfl rfl ?_
      refine r_iload 0 dX12_drift_38 rfl ?_
      refine r_aload_n 1 dX12_drift_40 rfl rfl ?_
      refine r_aload_n 1 dX12_drift_41 rfl rfl ?_
      refine r_getI (j := 16) (by decide) (congrArg Prod.fst k0_125) c12_11 (by decide) rfl tw_826 dX12_drift_42 ?_
      refine rc_VI (h' := 0) [.int (σ4 125 16)] okv_X12_draw (by decide) (congrArg Prod.fst k0_125) tw_1163 rfl rfl (Nat.le_of_ble_eq_true rfl) dX12_drift_45 (by decide) h (fun r5 σ5 τ5 h => ?_)
      refine rc_VV (h' := 4) [.int r4, .int r5] okv_X12_does (by decide) (congrArg Prod.fst k0_125) tw_1171 rfl rfl (Nat.le_of_ble_eq_true rfl) dX12_drift_48 (by decide) h (fun σ6 τ6 h => ?_)
      refine r_lv [1, 2, 3] rfl ?_
      exact h

theorem w_X12_drift_0 {l : Launch} {D : zDD} {b : Nat} (p1 : Int32) (σ : zSg) (τ : zLm) {Q : Int32 → zSg → zLm → Prop} (h : SI l D b M_X12_needHours 1 G0 [.ref (b + 125), .int p1] σ τ (fun r1 σ1 τ1 => (0 ≤ r1 → SV l D b M_X12_remember 0 G0 [.ref (b + 125)] σ1 τ1 (fun σ3 τ3 => AI l D b M_X12_drift 5 G0 Q 18 [(0, .ref (b + 125)), (1, .int p1), (3, .int 0)] [] G0 σ3 τ3)) ∧ (¬ 0 ≤ r1 → Q r1 σ1 τ1))) : AI l D b M_X12_drift 5 G0 Q 0 [(0, .ref (b + 125)), (1, .int p1)] [] G0 σ τ := by
  refine r_aload_n 0 dX12_drift_0 rfl rfl ?_
  refine r_iload_n 1 dX12_drift_1 rfl rfl ?_
  refine rc_VI (h' := 1) [.int p1] okv_X12_needHours (by decide) (congrArg Prod.fst k0_125) tw_1116 rfl rfl (Nat.le_of_ble_eq_true rfl) dX12_drift_2 (by decide) h (fun r1 σ1 τ1 h => ?_)
  refine r_istore_n dX12_drift_5 rfl (by decide) rfl ?_
  refine r_iload_n 0 dX12_drift_6 rfl rfl ?_
  refine r_if_ge (tgt := 12) dX12_drift_7 (by decide) (fun c2 => ?_) (fun c2 => ?_)
  · replace h := h.1 c2
    refine r_aload_n 1 dX12_drift_12 rfl rfl ?_
    refine rc_VV (h' := 0) [] okv_X12_remember (by decide) (congrArg Prod.fst k0_125) tw_1079 rfl rfl (Nat.le_of_ble_eq_true rfl) dX12_drift_13 (by decide) h (fun σ3 τ3 h => ?_)
    refine r_iconst dX12_drift_16 ci_0 ?_
    refine r_istore_n dX12_drift_17 rfl (by decide) rfl ?_
    refine r_lv [2, 3, 0] rfl ?_
    exact h
  · replace h := h.2 c2
    refine r_iload_n 0 dX12_drift_10 rfl rfl ?_
    exact r_iret rfl (Nat.le_refl _) (Nat.le_refl _) dX12_drift_11 ⟨rfl, rfl, rfl, _, rfl, h⟩
theorem s_X12_drift {l : Launch} {D : zDD} {b : Nat} (p1 : Int32) (σ : zSg) (τ : zLm) {Q : Int32 → zSg → zLm → Prop} (h : SI l D b M_X12_needHours 1 G0 [.ref (b + 125), .int p1] σ τ (fun r1 σ1 τ1 => (0 ≤ r1 → SV l D b M_X12_remember 0 G0 [.ref (b + 125)] σ1 τ1 (fun σ3 τ3 => AI l D b M_X12_drift 5 G0 Q 18 [(0, .ref (b + 125)), (1, .int p1), (3, .int 0)] [] G0 σ3 τ3)) ∧ (¬ 0 ≤ r1 → Q r1 σ1 τ1))) : SI l D b M_X12_drift 5 G0 [.ref (b + 125), .int p1] σ τ Q := zS.of (by decide) (Nat.le_of_ble_eq_true rfl) rfl (w_X12_drift_0 p1 σ τ h)

theorem dX12_kitchen_0 : decode cX12_kitchen 0 = .ok (.aload_n 0, 1) := by decide +kernel
theorem dX12_kitchen_1 : decode cX12_kitchen 1 = .ok (.invokevirtual 132, 3) := by decide +kernel
theorem dX12_kitchen_4 : decode cX12_kitchen 4 = .ok (.istore_n 1, 1) := by decide +kernel
theorem dX12_kitchen_5 : decode cX12_kitchen 5 = .ok (.aload_n 0, 1) := by decide +kernel
theorem dX12_kitchen_6 : decode cX12_kitchen 6 = .ok (.iconst 0, 1) := by decide +kernel
theorem dX12_kitchen_7 : decode cX12_kitchen 7 = .ok (.putfield 75, 3) := by decide +kernel
theorem dX12_kitchen_10 : decode cX12_kitchen 10 = .ok (.aload_n 0, 1) := by decide +kernel
theorem dX12_kitchen_11 : decode cX12_kitchen 11 = .ok (.iload_n 1, 1) := by decide +kernel
theorem dX12_kitchen_12 : decode cX12_kitchen 12 = .ok (.ifCond .eq 7, 3) := by decide +kernel
theorem dX12_kitchen_15 : decode cX12_kitchen 15 = .ok (.iconst (-1), 1) := by decide +kernel
theorem dX12_kitchen_16 : decode cX12_kitchen 16 = .ok (.goto 7, 3) := by decide +kernel
theorem dX12_kitchen_19 : decode cX12_kitchen 19 = .ok (.aload_n 0, 1) := by decide +kernel
theorem dX12_kitchen_20 : decode cX12_kitchen 20 = .ok (.getfield 79, 3) := by decide +kernel
theorem dX12_kitchen_23 : decode cX12_kitchen 23 = .ok (.putfield 13, 3) := by decide +kernel
theorem dX12_kitchen_26 : decode cX12_kitchen 26 = .ok (.iload_n 1, 1) := by decide +kernel
theorem dX12_kitchen_27 : decode cX12_kitchen 27 = .ok (.ifCond .ne 11, 3) := by decide +kernel
theorem dX12_kitchen_30 : decode cX12_kitchen 30 = .ok (.bipush (-10), 2) := by decide +kernel
theorem dX12_kitchen_32 : decode cX12_kitchen 32 = .ok (.aload_n 0, 1) := by decide +kernel
theorem dX12_kitchen_33 : decode cX12_kitchen 33 = .ok (.getfield 86, 3) := by decide +kernel
theorem dX12_kitchen_36 : decode cX12_kitchen 36 = .ok (.isub, 1) := by decide +kernel
theorem dX12_kitchen_37 : decode cX12_kitchen 37 = .ok (.ireturn, 1) := by decide +kernel
theorem dX12_kitchen_38 : decode cX12_kitchen 38 = .ok (.aload_n 0, 1) := by decide +kernel
theorem dX12_kitchen_39 : decode cX12_kitchen 39 = .ok (.aload_n 0, 1) := by decide +kernel
theorem dX12_kitchen_40 : decode cX12_kitchen 40 = .ok (.getfield 103, 3) := by decide +kernel
theorem dX12_kitchen_43 : decode cX12_kitchen 43 = .ok (.putfield 135, 3) := by decide +kernel
theorem dX12_kitchen_46 : decode cX12_kitchen 46 = .ok (.aload_n 0, 1) := by decide +kernel
theorem dX12_kitchen_47 : decode cX12_kitchen 47 = .ok (.aload_n 0, 1) := by decide +kernel
theorem dX12_kitchen_48 : decode cX12_kitchen 48 = .ok (.getfield 106, 3) := by decide +kernel
theorem dX12_kitchen_51 : decode cX12_kitchen 51 = .ok (.putfield 138, 3) := by decide +kernel
theorem dX12_kitchen_54 : decode cX12_kitchen 54 = .ok (.aload_n 0, 1) := by decide +kernel
theorem dX12_kitchen_55 : decode cX12_kitchen 55 = .ok (.aload_n 0, 1) := by decide +kernel
theorem dX12_kitchen_56 : decode cX12_kitchen 56 = .ok (.getfield 113, 3) := by decide +kernel
theorem dX12_kitchen_59 : decode cX12_kitchen 59 = .ok (.putfield 141, 3) := by decide +kernel
theorem dX12_kitchen_62 : decode cX12_kitchen 62 = .ok (.aload_n 0, 1) := by decide +kernel
theorem dX12_kitchen_63 : decode cX12_kitchen 63 = .ok (.aload_n 0, 1) := by decide +kernel
theorem dX12_kitchen_64 : decode cX12_kitchen 64 = .ok (.getfield 116, 3) := by decide +kernel
theorem dX12_kitchen_67 : decode cX12_kitchen 67 = .ok (.putfield 144, 3) := by decide +kernel
theorem dX12_kitchen_70 : decode cX12_kitchen 70 = .ok (.iconst 0, 1) := by decide +kernel
theorem dX12_kitchen_71 : decode cX12_kitchen 71 = .ok (.istore_n 2, 1) := by decide +kernel
theorem dX12_kitchen_72 : decode cX12_kitchen 72 = .ok (.iload_n 2, 1) := by decide +kernel
theorem dX12_kitchen_73 : decode cX12_kitchen 73 = .ok (.bipush 26, 2) := by decide +kernel
theorem dX12_kitchen_75 : decode cX12_kitchen 75 = .ok (.if_icmp .ge 16, 3) := by decide +kernel
theorem dX12_kitchen_78 : decode cX12_kitchen 78 = .ok (.aload_n 0, 1) := by decide +kernel
theorem dX12_kitchen_79 : decode cX12_kitchen 79 = .ok (.getfield 35, 3) := by decide +kernel
theorem dX12_kitchen_82 : decode cX12_kitchen 82 = .ok (.iload_n 2, 1) := by decide +kernel
theorem dX12_kitchen_83 : decode cX12_kitchen 83 = .ok (.iconst 0, 1) := by decide +kernel
theorem dX12_kitchen_84 : decode cX12_kitchen 84 = .ok (.iastore, 1) := by decide +kernel
theorem dX12_kitchen_85 : decode cX12_kitchen 85 = .ok (.iinc 2 1, 3) := by decide +kernel
theorem dX12_kitchen_88 : decode cX12_kitchen 88 = .ok (.goto (-16), 3) := by decide +kernel
theorem dX12_kitchen_91 : decode cX12_kitchen 91 = .ok (.iconst 0, 1) := by decide +kernel
theorem dX12_kitchen_92 : decode cX12_kitchen 92 = .ok (.istore_n 2, 1) := by decide +kernel
theorem dX12_kitchen_93 : decode cX12_kitchen 93 = .ok (.iload_n 2, 1) := by decide +kernel
theorem dX12_kitchen_94 : decode cX12_kitchen 94 = .ok (.aload_n 0, 1) := by decide +kernel
theorem dX12_kitchen_95 : decode cX12_kitchen 95 = .ok (.getfield 141, 3) := by decide +kernel
theorem dX12_kitchen_98 : decode cX12_kitchen 98 = .ok (.if_icmp .ge 50, 3) := by decide +kernel
theorem dX12_kitchen_101 : decode cX12_kitchen 101 = .ok (.aload_n 0, 1) := by decide +kernel
theorem dX12_kitchen_102 : decode cX12_kitchen 102 = .ok (.getfield 29, 3) := by decide +kernel
theorem dX12_kitchen_105 : decode cX12_kitchen 105 = .ok (.iload_n 2, 1) := by decide +kernel
theorem dX12_kitchen_106 : decode cX12_kitchen 106 = .ok (.aload_n 0, 1) := by decide +kernel
theorem dX12_kitchen_107 : decode cX12_kitchen 107 = .ok (.getfield 17, 3) := by decide +kernel
theorem dX12_kitchen_110 : decode cX12_kitchen 110 = .ok (.iload_n 2, 1) := by decide +kernel
theorem dX12_kitchen_111 : decode cX12_kitchen 111 = .ok (.iaload, 1) := by decide +kernel
theorem dX12_kitchen_112 : decode cX12_kitchen 112 = .ok (.iastore, 1) := by decide +kernel
theorem dX12_kitchen_113 : decode cX12_kitchen 113 = .ok (.aload_n 0, 1) := by decide +kernel
theorem dX12_kitchen_114 : decode cX12_kitchen 114 = .ok (.getfield 35, 3) := by decide +kernel
theorem dX12_kitchen_117 : decode cX12_kitchen 117 = .ok (.iconst 2, 1) := by decide +kernel
theorem dX12_kitchen_118 : decode cX12_kitchen 118 = .ok (.iload_n 2, 1) := by decide +kernel
theorem dX12_kitchen_119 : decode cX12_kitchen 119 = .ok (.iadd, 1) := by decide +kernel
theorem dX12_kitchen_120 : decode cX12_kitchen 120 = .ok (.aload_n 0, 1) := by decide +kernel
theorem dX12_kitchen_121 : decode cX12_kitchen 121 = .ok (.getfield 20, 3) := by decide +kernel
theorem dX12_kitchen_124 : decode cX12_kitchen 124 = .ok (.iload_n 2, 1) := by decide +kernel
theorem dX12_kitchen_125 : decode cX12_kitchen 125 = .ok (.iaload, 1) := by decide +kernel
theorem dX12_kitchen_126 : decode cX12_kitchen 126 = .ok (.iastore, 1) := by decide +kernel
theorem dX12_kitchen_127 : decode cX12_kitchen 127 = .ok (.aload_n 0, 1) := by decide +kernel
theorem dX12_kitchen_128 : decode cX12_kitchen 128 = .ok (.getfield 35, 3) := by decide +kernel
theorem dX12_kitchen_131 : decode cX12_kitchen 131 = .ok (.bipush 8, 2) := by decide +kernel
theorem dX12_kitchen_133 : decode cX12_kitchen 133 = .ok (.iload_n 2, 1) := by decide +kernel
theorem dX12_kitchen_134 : decode cX12_kitchen 134 = .ok (.iadd, 1) := by decide +kernel
theorem dX12_kitchen_135 : decode cX12_kitchen 135 = .ok (.aload_n 0, 1) := by decide +kernel
theorem dX12_kitchen_136 : decode cX12_kitchen 136 = .ok (.getfield 23, 3) := by decide +kernel
theorem dX12_kitchen_139 : decode cX12_kitchen 139 = .ok (.iload_n 2, 1) := by decide +kernel
theorem dX12_kitchen_140 : decode cX12_kitchen 140 = .ok (.iaload, 1) := by decide +kernel
theorem dX12_kitchen_141 : decode cX12_kitchen 141 = .ok (.iastore, 1) := by decide +kernel
theorem dX12_kitchen_142 : decode cX12_kitchen 142 = .ok (.iinc 2 1, 3) := by decide +kernel
theorem dX12_kitchen_145 : decode cX12_kitchen 145 = .ok (.goto (-52), 3) := by decide +kernel
theorem dX12_kitchen_148 : decode cX12_kitchen 148 = .ok (.iconst 0, 1) := by decide +kernel
theorem dX12_kitchen_149 : decode cX12_kitchen 149 = .ok (.istore_n 2, 1) := by decide +kernel
theorem dX12_kitchen_150 : decode cX12_kitchen 150 = .ok (.iload_n 2, 1) := by decide +kernel
theorem dX12_kitchen_151 : decode cX12_kitchen 151 = .ok (.aload_n 0, 1) := by decide +kernel
theorem dX12_kitchen_152 : decode cX12_kitchen 152 = .ok (.getfield 144, 3) := by decide +kernel
theorem dX12_kitchen_155 : decode cX12_kitchen 155 = .ok (.if_icmp .ge 21, 3) := by decide +kernel
theorem dX12_kitchen_158 : decode cX12_kitchen 158 = .ok (.aload_n 0, 1) := by decide +kernel
theorem dX12_kitchen_159 : decode cX12_kitchen 159 = .ok (.getfield 32, 3) := by decide +kernel
theorem dX12_kitchen_162 : decode cX12_kitchen 162 = .ok (.iload_n 2, 1) := by decide +kernel
theorem dX12_kitchen_163 : decode cX12_kitchen 163 = .ok (.aload_n 0, 1) := by decide +kernel
theorem dX12_kitchen_164 : decode cX12_kitchen 164 = .ok (.getfield 26, 3) := by decide +kernel
theorem dX12_kitchen_167 : decode cX12_kitchen 167 = .ok (.iload_n 2, 1) := by decide +kernel
theorem dX12_kitchen_168 : decode cX12_kitchen 168 = .ok (.iaload, 1) := by decide +kernel
theorem dX12_kitchen_169 : decode cX12_kitchen 169 = .ok (.iastore, 1) := by decide +kernel
theorem dX12_kitchen_170 : decode cX12_kitchen 170 = .ok (.iinc 2 1, 3) := by decide +kernel
theorem dX12_kitchen_173 : decode cX12_kitchen 173 = .ok (.goto (-23), 3) := by decide +kernel
theorem dX12_kitchen_176 : decode cX12_kitchen 176 = .ok (.aload_n 0, 1) := by decide +kernel
theorem dX12_kitchen_177 : decode cX12_kitchen 177 = .ok (.iconst 0, 1) := by decide +kernel
theorem dX12_kitchen_178 : decode cX12_kitchen 178 = .ok (.putfield 147, 3) := by decide +kernel
theorem dX12_kitchen_181 : decode cX12_kitchen 181 = .ok (.aload_n 0, 1) := by decide +kernel
theorem dX12_kitchen_182 : decode cX12_kitchen 182 = .ok (.iconst 0, 1) := by decide +kernel
theorem dX12_kitchen_183 : decode cX12_kitchen 183 = .ok (.putfield 150, 3) := by decide +kernel
theorem dX12_kitchen_186 : decode cX12_kitchen 186 = .ok (.aload_n 0, 1) := by decide +kernel
theorem dX12_kitchen_187 : decode cX12_kitchen 187 = .ok (.iconst 0, 1) := by decide +kernel
theorem dX12_kitchen_188 : decode cX12_kitchen 188 = .ok (.putfield 153, 3) := by decide +kernel
theorem dX12_kitchen_191 : decode cX12_kitchen 191 = .ok (.aload_n 0, 1) := by decide +kernel
theorem dX12_kitchen_192 : decode cX12_kitchen 192 = .ok (.getfield 60, 3) := by decide +kernel
theorem dX12_kitchen_195 : decode cX12_kitchen 195 = .ok (.iconst 0, 1) := by decide +kernel
theorem dX12_kitchen_196 : decode cX12_kitchen 196 = .ok (.iconst 0, 1) := by decide +kernel
theorem dX12_kitchen_197 : decode cX12_kitchen 197 = .ok (.bastore, 1) := by decide +kernel
theorem dX12_kitchen_198 : decode cX12_kitchen 198 = .ok (.aload_n 0, 1) := by decide +kernel
theorem dX12_kitchen_199 : decode cX12_kitchen 199 = .ok (.getfield 60, 3) := by decide +kernel
theorem dX12_kitchen_202 : decode cX12_kitchen 202 = .ok (.iconst 1, 1) := by decide +kernel
theorem dX12_kitchen_203 : decode cX12_kitchen 203 = .ok (.iconst 0, 1) := by decide +kernel
theorem dX12_kitchen_204 : decode cX12_kitchen 204 = .ok (.bastore, 1) := by decide +kernel
theorem dX12_kitchen_205 : decode cX12_kitchen 205 = .ok (.aload_n 0, 1) := by decide +kernel
theorem dX12_kitchen_206 : decode cX12_kitchen 206 = .ok (.getfield 141, 3) := by decide +kernel
theorem dX12_kitchen_209 : decode cX12_kitchen 209 = .ok (.ireturn, 1) := by decide +kernel
theorem w_X12_kitchen_150 {l : Launch} {D : zDD} {b : Nat} (x2 : Int32) (σ : zSg) (τ : zLm) {Q : Int32 → zSg → zLm → Prop} (h : ((σ 125 17) ≤ x2 → Q ((st2 (st2 (st2 (st2 (st2 σ 125 21 0) 125 26 0) 125 30 0) 141 0 (vp_nar .boolean 0)) 141 1 (vp_nar .boolean 0)) 125 16) (st2 (st2 (st2 (st2 (st2 σ 125 21 0) 125 26 0) 125 30 0) 141 0 (vp_nar .boolean 0)) 141 1 (vp_nar .boolean 0)) τ) ∧ (¬ (σ 125 17) ≤ x2 → (vp_in x2 6 ∧ (vp_in x2 6 ∧ AI l D b M_X12_kitchen 6 G0 Q 150 [(0, .ref (b + 125)), (2, .int (x2 + 1))] [] G0 (st2 σ 132 x2.toNatClampNeg (σ 130 x2.toNatClampNeg)) τ)))) : AI l D b M_X12_kitchen 6 G0 Q 150 [(0, .ref (b + 125)), (2, .int x2)] [] G0 σ τ := by
  refine r_iload_n 1 dX12_kitchen_150 rfl rfl ?_
  refine r_aload_n 0 dX12_kitchen_151 rfl rfl ?_
  refine r_getI (j := 17) (by decide) (congrArg Prod.fst k0_125) c12_11 (by decide) rfl tw_827 dX12_kitchen_152 ?_
  refine r_icmp_ge (tgt := 176) dX12_kitchen_155 (by decide) (fun c1 => ?_) (fun c1 => ?_)
  · replace h := h.1 c1
    refine r_aload_n 0 dX12_kitchen_176 rfl rfl ?_
    refine r_iconst dX12_kitchen_177 ci_0 ?_
    refine r_putI (j := 21) (by decide) (congrArg Prod.fst k0_125) c12_11 (by decide) rfl (Or.inl rfl) tw_831 dX12_kitchen_178 ?_
    refine r_aload_n 0 dX12_kitchen_181 rfl rfl ?_
    refine r_iconst dX12_kitchen_182 ci_0 ?_
    refine r_putI (j := 26) (by decide) (congrArg Prod.fst k0_125) c12_11 (by decide) rfl (Or.inl rfl) tw_836 dX12_kitchen_183 ?_
    refine r_aload_n 0 dX12_kitchen_186 rfl rfl ?_
    refine r_iconst dX12_kitchen_187 ci_0 ?_
    refine r_putI (j := 30) (by decide) (congrArg Prod.fst k0_125) c12_11 (by decide) rfl (Or.inl rfl) tw_840 dX12_kitchen_188 ?_
    refine r_aload_n 0 dX12_kitchen_191 rfl rfl ?_
    refine r_getR (j := 33) (by decide) (congrArg Prod.fst k0_125) c12_11 (by decide) rfl g0_125_33 tw_843 dX12_kitchen_192 ?_
    refine r_iconst dX12_kitchen_195 ci_0 ?_
    refine r_iconst dX12_kitchen_196 ci_0 ?_
    refine r_zast (by decide) k0_141 dX12_kitchen_197 (show ¬ (_ ∨ _) by decide) ?_
    refine r_aload_n 0 dX12_kitchen_198 rfl rfl ?_
    refine r_getR (j := 33) (by decide) (congrArg Prod.fst k0_125) c12_11 (by decide) rfl g0_125_33 tw_843 dX12_kitchen_199 ?_
    refine r_iconst dX12_kitchen_202 ci_1 ?_
    refine r_iconst dX12_kitchen_203 ci_0 ?_
    refine r_zast (by decide) k0_141 dX12_kitchen_204 (show ¬ (_ ∨ _) by decide) ?_
    refine r_aload_n 0 dX12_kitchen_205 rfl rfl ?_
    refine r_getI (j := 16) (by decide) (congrArg Prod.fst k0_125) c12_11 (by decide) rfl tw_826 dX12_kitchen_206 ?_
    exact r_iret rfl (Nat.le_refl _) (Nat.le_refl _) dX12_kitchen_209 ⟨rfl, rfl, rfl, _, rfl, h⟩
  · replace h := h.2 c1
    refine r_aload_n 0 dX12_kitchen_158 rfl rfl ?_
    refine r_getR (j := 19) (by decide) (congrArg Prod.fst k0_125) c12_11 (by decide) rfl g0_125_19 tw_829 dX12_kitchen_159 ?_
    refine r_iload_n 1 dX12_kitchen_162 rfl rfl ?_
    refine r_aload_n 0 dX12_kitchen_163 rfl rfl ?_
    refine r_getR (j := 13) (by decide) (congrArg Prod.fst k0_125) c12_11 (by decide) rfl g0_125_13 tw_823 dX12_kitchen_164 ?_
    refine r_iload_n 1 dX12_kitchen_167 rfl rfl ?_
    refine r_iald (by decide) k0_130 dX12_kitchen_168 h.1 ?_
    replace h := h.2
    refine r_iast (by decide) k0_132 dX12_kitchen_169 h.1 ?_
    replace h := h.2
    refine r_inc 1 dX12_kitchen_170 rfl ci_1 (by decide) rfl ?_
    refine r_goto (tgt := 150) dX12_kitchen_173 (by decide) ?_
    refine r_lv [1, 0] rfl ?_
    exact h

theorem w_X12_kitchen_93 {l : Launch} {D : zDD} {b : Nat} (x2 : Int32) (σ : zSg) (τ : zLm) {Q : Int32 → zSg → zLm → Prop} (h : ((σ 125 16) ≤ x2 → AI l D b M_X12_kitchen 6 G0 Q 150 [(0, .ref (b + 125)), (2, .int 0)] [] G0 σ τ) ∧ (¬ (σ 125 16) ≤ x2 → (vp_in x2 6 ∧ (vp_in x2 6 ∧ (vp_in x2 6 ∧ (vp_in (2 + x2) 26 ∧ (∀ σ2 : zSg, σ2 = st2 (st2 σ 131 x2.toNatClampNeg (σ 127 x2.toNatClampNeg)) 133 ((2 + x2).toNatClampNeg) ((st2 σ 131 x2.toNatClampNeg (σ 127 x2.toNatClampNeg)) 128 x2.toNatClampNeg) → vp_in x2 6 ∧ (vp_in (8 + x2) 26 ∧ AI l D b M_X12_kitchen 6 G0 Q 93 [(0, .ref (b + 125)), (2, .int (x2 + 1))] [] G0 (st2 σ2 133 ((8 + x2).toNatClampNeg) (σ2 129 x2.toNatClampNeg)) τ)))))))) : AI l D b M_X12_kitchen 6 G0 Q 93 [(0, .ref (b + 125)), (2, .int x2)] [] G0 σ τ := by
  refine r_iload_n 1 dX12_kitchen_93 rfl rfl ?_
  refine r_aload_n 0 dX12_kitchen_94 rfl rfl ?_
  refine r_getI (j := 16) (by decide) (congrArg Prod.fst k0_125) c12_11 (by decide) rfl tw_826 dX12_kitchen_95 ?_
  refine r_icmp_ge (tgt := 148) dX12_kitchen_98 (by decide) (fun c1 => ?_) (fun c1 => ?_)
  · replace h := h.1 c1
    refine r_iconst dX12_kitchen_148 ci_0 ?_
    refine r_istore_n dX12_kitchen_149 rfl (by decide) rfl ?_
    refine r_lv [1, 0] rfl ?_
    exact h
  · replace h := h.2 c1
    refine r_aload_n 0 dX12_kitchen_101 rfl rfl ?_
    refine r_getR (j := 18) (by decide) (congrArg Prod.fst k0_125) c12_11 (by decide) rfl g0_125_18 tw_828 dX12_kitchen_102 ?_
    refine r_iload_n 1 dX12_kitchen_105 rfl rfl ?_
    refine r_aload_n 0 dX12_kitchen_106 rfl rfl ?_
    refine r_getR (j := 10) (by decide) (congrArg Prod.fst k0_125) c12_11 (by decide) rfl g0_125_10 tw_820 dX12_kitchen_107 ?_
    refine r_iload_n 1 dX12_kitchen_110 rfl rfl ?_
    refine r_iald (by decide) k0_127 dX12_kitchen_111 h.1 ?_
    replace h := h.2
    refine r_iast (by decide) k0_131 dX12_kitchen_112 h.1 ?_
    replace h := h.2
    refine r_aload_n 0 dX12_kitchen_113 rfl rfl ?_
    refine r_getR (j := 20) (by decide) (congrArg Prod.fst k0_125) c12_11 (by decide) rfl g0_125_20 tw_830 dX12_kitchen_114 ?_
    refine r_iconst dX12_kitchen_117 ci_2 ?_
    refine r_iload_n 1 dX12_kitchen_118 rfl rfl ?_
    refine r_iadd dX12_kitchen_119 ?_
    refine r_aload_n 0 dX12_kitchen_120 rfl rfl ?_
    refine r_getR (j := 11) (by decide) (congrArg Prod.fst k0_125) c12_11 (by decide) rfl g0_125_11 tw_821 dX12_kitchen_121 ?_
    refine r_iload_n 1 dX12_kitchen_124 rfl rfl ?_
    refine r_iald (by decide) k0_128 dX12_kitchen_125 h.1 ?_
    replace h := h.2
    refine r_iast (by decide) k0_133 dX12_kitchen_126 h.1 ?_
    replace h := h.2
    refine r_nmS (fun σ2 eσ2 => ?_)
    replace h := h σ2 eσ2
    refine r_aload_n 0 dX12_kitchen_127 rfl rfl ?_
    refine r_getR (j := 20) (by decide) (congrArg Prod.fst k0_125) c12_11 (by decide) rfl g0_125_20 tw_830 dX12_kitchen_128 ?_
    refine r_bipush dX12_kitchen_131 cb_8 ?_
    refine r_iload_n 1 dX12_kitchen_133 rfl rfl ?_
    refine r_iadd dX12_kitchen_134 ?_
    refine r_aload_n 0 dX12_kitchen_135 rfl rfl ?_
    refine r_getR (j := 12) (by decide) (congrArg Prod.fst k0_125) c12_11 (by decide) rfl g0_125_12 tw_822 dX12_kitchen_136 ?_
    refine r_iload_n 1 dX12_kitchen_139 rfl rfl ?_
    refine r_iald (by decide) k0_129 dX12_kitchen_140 h.1 ?_
    replace h := h.2
    refine r_iast (by decide) k0_133 dX12_kitchen_141 h.1 ?_
    replace h := h.2
    refine r_inc 1 dX12_kitchen_142 rfl ci_1 (by decide) rfl ?_
    refine r_goto (tgt := 93) dX12_kitchen_145 (by decide) ?_
    refine r_lv [1, 0] rfl ?_
    exact h

theorem w_X12_kitchen_72 {l : Launch} {D : zDD} {b : Nat} (x2 : Int32) (σ : zSg) (τ : zLm) {Q : Int32 → zSg → zLm → Prop} (h : (26 ≤ x2 → AI l D b M_X12_kitchen 6 G0 Q 93 [(0, .ref (b + 125)), (2, .int 0)] [] G0 σ τ) ∧ (¬ 26 ≤ x2 → (vp_in x2 26 ∧ AI l D b M_X12_kitchen 6 G0 Q 72 [(0, .ref (b + 125)), (2, .int (x2 + 1))] [] G0 (st2 σ 133 x2.toNatClampNeg 0) τ))) : AI l D b M_X12_kitchen 6 G0 Q 72 [(0, .ref (b + 125)), (2, .int x2)] [] G0 σ τ := by
  refine r_iload_n 1 dX12_kitchen_72 rfl rfl ?_
  refine r_bipush dX12_kitchen_73 cb_26 ?_
  refine r_icmp_ge (tgt := 91) dX12_kitchen_75 (by decide) (fun c1 => ?_) (fun c1 => ?_)
  · replace h := h.1 c1
    refine r_iconst dX12_kitchen_91 ci_0 ?_
    refine r_istore_n dX12_kitchen_92 rfl (by decide) rfl ?_
    refine r_lv [1, 0] rfl ?_
    exact h
  · replace h := h.2 c1
    refine r_aload_n 0 dX12_kitchen_78 rfl rfl ?_
    refine r_getR (j := 20) (by decide) (congrArg Prod.fst k0_125) c12_11 (by decide) rfl g0_125_20 tw_830 dX12_kitchen_79 ?_
    refine r_iload_n 1 dX12_kitchen_82 rfl rfl ?_
    refine r_iconst dX12_kitchen_83 ci_0 ?_
    refine r_iast (by decide) k0_133 dX12_kitchen_84 h.1 ?_
    replace h := h.2
    refine r_inc 1 dX12_kitchen_85 rfl ci_1 (by decide) rfl ?_
    refine r_goto (tgt := 72) dX12_kitchen_88 (by decide) ?_
    refine r_lv [1, 0] rfl ?_
    exact h

theorem w_X12_kitchen_23 {l : Launch} {D : zDD} {b : Nat} (x1 y1 : Int32) (σ : zSg) (τ : zLm) {Q : Int32 → zSg → zLm → Prop} (h : (¬ x1 = 0 → (∀ σ2 : zSg, σ2 = st2 (st2 (st2 σ 125 5 y1) 125 14 ((st2 σ 125 5 y1) 125 6)) 125 15 ((st2 (st2 σ 125 5 y1) 125 14 ((st2 σ 125 5 y1) 125 6)) 125 7) → AI l D b M_X12_kitchen 6 G0 Q 72 [(0, .ref (b + 125)), (2, .int 0)] [] G0 (st2 (st2 σ2 125 16 (σ2 125 8)) 125 17 ((st2 σ2 125 16 (σ2 125 8)) 125 9)) τ)) ∧ (x1 = 0 → Q ((-10) - ((st2 σ 125 5 y1) 125 4)) (st2 σ 125 5 y1) τ)) : AI l D b M_X12_kitchen 6 G0 Q 23 [(0, .ref (b + 125)), (1, .int x1)] [.int y1, .ref (b + 125)] G0 σ τ := by
  refine r_putI (j := 5) (by decide) (congrArg Prod.fst k0_125) c12_11 (by decide) rfl (Or.inl rfl) tw_815 dX12_kitchen_23 ?_
  refine r_iload_n 1 dX12_kitchen_26 rfl rfl ?_
  refine r_if_ne (tgt := 38) dX12_kitchen_27 (by decide) (fun c1 => ?_) (fun c1 => ?_)
  · replace h := h.1 c1
    refine r_aload_n 0 dX12_kitchen_38 rfl rfl ?_
    refine r_aload_n 0 dX12_kitchen_39 rfl rfl ?_
    refine r_getI (j := 6) (by decide) (congrArg Prod.fst k0_125) c12_11 (by decide) rfl tw_816 dX12_kitchen_40 ?_
    refine r_putI (j := 14) (by decide) (congrArg Prod.fst k0_125) c12_11 (by decide) rfl (Or.inl rfl) tw_824 dX12_kitchen_43 ?_
    refine r_aload_n 0 dX12_kitchen_46 rfl rfl ?_
    refine r_aload_n 0 dX12_kitchen_47 rfl rfl ?_
    refine r_getI (j := 7) (by decide) (congrArg Prod.fst k0_125) c12_11 (by decide) rfl tw_817 dX12_kitchen_48 ?_
    refine r_putI (j := 15) (by decide) (congrArg Prod.fst k0_125) c12_11 (by decide) rfl (Or.inl rfl) tw_825 dX12_kitchen_51 ?_
    refine r_nmS (fun σ2 eσ2 => ?_)
    replace h := h σ2 eσ2
    refine r_aload_n 0 dX12_kitchen_54 rfl rfl ?_
    refine r_aload_n 0 dX12_kitchen_55 rfl rfl ?_
    refine r_getI (j := 8) (by decide) (congrArg Prod.fst k0_125) c12_11 (by decide) rfl tw_818 dX12_kitchen_56 ?_
    refine r_putI (j := 16) (by decide) (congrArg Prod.fst k0_125) c12_11 (by decide) rfl (Or.inl rfl) tw_826 dX12_kitchen_59 ?_
    refine r_aload_n 0 dX12_kitchen_62 rfl rfl ?_
    refine r_aload_n 0 dX12_kitchen_63 rfl rfl ?_
    refine r_getI (j := 9) (by decide) (congrArg Prod.fst k0_125) c12_11 (by decide) rfl tw_819 dX12_kitchen_64 ?_
    refine r_putI (j := 17) (by decide) (congrArg Prod.fst k0_125) c12_11 (by decide) rfl (Or.inl rfl) tw_827 dX12_kitchen_67 ?_
    refine r_iconst dX12_kitchen_70 ci_0 ?_
    refine r_istore_n dX12_kitchen_71 rfl (by decide) rfl ?_
    refine r_lv [1, 0] rfl ?_
    exact h
  · replace h := h.2 c1
    refine r_bipush dX12_kitchen_30 cb_m10 ?_
    refine r_aload_n 0 dX12_kitchen_32 rfl rfl ?_
    refine r_getI (j := 4) (by decide) (congrArg Prod.fst k0_125) c12_11 (by decide) rfl tw_814 dX12_kitchen_33 ?_
    refine r_isub dX12_kitchen_36 ?_
    exact r_iret rfl (Nat.le_refl _) (Nat.le_refl _) dX12_kitchen_37 ⟨rfl, rfl, rfl, _, rfl, h⟩

theorem w_X12_kitchen_0 {l : Launch} {D : zDD} {b : Nat} (σ : zSg) (τ : zLm) {Q : Int32 → zSg → zLm → Prop} (h : SI l D b M_X12_readsKitchen 5 G0 [.ref (b + 125)] σ τ (fun r1 σ1 τ1 => (r1 = 0 → AI l D b M_X12_kitchen 6 G0 Q 23 [(0, .ref (b + 125)), (1, .int r1)] [.int ((st2 σ1 125 0 0) 125 2), .ref (b + 125)] G0 (st2 σ1 125 0 0) τ1) ∧ (¬ r1 = 0 → AI l D b M_X12_kitchen 6 G0 Q 23 [(0, .ref (b + 125)), (1, .int r1)] [.int (-1), .ref (b + 125)] G0 (st2 σ1 125 0 0) τ1))) : AI l D b M_X12_kitchen 6 G0 Q 0 [(0, .ref (b + 125))] [] G0 σ τ := by
  refine r_aload_n 0 dX12_kitchen_0 rfl rfl ?_
  refine rc_VI (h' := 5) [] okv_X12_readsKitchen (by decide) (congrArg Prod.fst k0_125) tw_933 rfl rfl (Nat.le_of_ble_eq_true rfl) dX12_kitchen_1 (by decide) h (fun r1 σ1 τ1 h => ?_)
  refine r_istore_n dX12_kitchen_4 rfl (by decide) rfl ?_
  refine r_aload_n 1 dX12_kitchen_5 rfl rfl ?_
  refine r_iconst dX12_kitchen_6 ci_0 ?_
  refine r_putI (j := 0) (by decide) (congrArg Prod.fst k0_125) c12_11 (by decide) rfl (Or.inl rfl) tw_810 dX12_kitchen_7 ?_
  refine r_aload_n 1 dX12_kitchen_10 rfl rfl ?_
  refine r_iload_n 0 dX12_kitchen_11 rfl rfl ?_
  refine r_if_eq (tgt := 19) dX12_kitchen_12 (by decide) (fun c2 => ?_) (fun c2 => ?_)
  · replace h := h.1 c2
    refine r_aload_n 1 dX12_kitchen_19 rfl rfl ?_
    refine r_getI (j := 2) (by decide) (congrArg Prod.fst k0_125) c12_11 (by decide) rfl tw_812 dX12_kitchen_20 ?_
    refine r_lv [1, 0] rfl ?_
    exact h
  · replace h := h.2 c2
    refine r_iconst dX12_kitchen_15 ci_m1 ?_
    refine r_goto (tgt := 23) dX12_kitchen_16 (by decide) ?_
    refine r_lv [1, 0] rfl ?_
    exact h
theorem s_X12_kitchen {l : Launch} {D : zDD} {b : Nat} (σ : zSg) (τ : zLm) {Q : Int32 → zSg → zLm → Prop} (h : SI l D b M_X12_readsKitchen 5 G0 [.ref (b + 125)] σ τ (fun r1 σ1 τ1 => (r1 = 0 → AI l D b M_X12_kitchen 6 G0 Q 23 [(0, .ref (b + 125)), (1, .int r1)] [.int ((st2 σ1 125 0 0) 125 2), .ref (b + 125)] G0 (st2 σ1 125 0 0) τ1) ∧ (¬ r1 = 0 → AI l D b M_X12_kitchen 6 G0 Q 23 [(0, .ref (b + 125)), (1, .int r1)] [.int (-1), .ref (b + 125)] G0 (st2 σ1 125 0 0) τ1))) : SI l D b M_X12_kitchen 6 G0 [.ref (b + 125)] σ τ Q := zS.of (by decide) (Nat.le_of_ble_eq_true rfl) rfl (w_X12_kitchen_0 σ τ h)

