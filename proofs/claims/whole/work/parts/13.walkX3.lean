theorem dX3_draw_0 : decode cX3_draw 0 = .ok (.aload_n 0, 1) := by decide +kernel
theorem dX3_draw_1 : decode cX3_draw 1 = .ok (.aload_n 0, 1) := by decide +kernel
theorem dX3_draw_2 : decode cX3_draw 2 = .ok (.getfield 7, 3) := by decide +kernel
theorem dX3_draw_5 : decode cX3_draw 5 = .ok (.ldc 13, 2) := by decide +kernel
theorem dX3_draw_7 : decode cX3_draw 7 = .ok (.imul, 1) := by decide +kernel
theorem dX3_draw_8 : decode cX3_draw 8 = .ok (.sipush 12345, 3) := by decide +kernel
theorem dX3_draw_11 : decode cX3_draw 11 = .ok (.iadd, 1) := by decide +kernel
theorem dX3_draw_12 : decode cX3_draw 12 = .ok (.ldc 14, 2) := by decide +kernel
theorem dX3_draw_14 : decode cX3_draw 14 = .ok (.iand, 1) := by decide +kernel
theorem dX3_draw_15 : decode cX3_draw 15 = .ok (.putfield 7, 3) := by decide +kernel
theorem dX3_draw_18 : decode cX3_draw 18 = .ok (.iload_n 1, 1) := by decide +kernel
theorem dX3_draw_19 : decode cX3_draw 19 = .ok (.ifCond .le 15, 3) := by decide +kernel
theorem dX3_draw_22 : decode cX3_draw 22 = .ok (.aload_n 0, 1) := by decide +kernel
theorem dX3_draw_23 : decode cX3_draw 23 = .ok (.getfield 7, 3) := by decide +kernel
theorem dX3_draw_26 : decode cX3_draw 26 = .ok (.ldc 15, 2) := by decide +kernel
theorem dX3_draw_28 : decode cX3_draw 28 = .ok (.idiv, 1) := by decide +kernel
theorem dX3_draw_29 : decode cX3_draw 29 = .ok (.iload_n 1, 1) := by decide +kernel
theorem dX3_draw_30 : decode cX3_draw 30 = .ok (.irem, 1) := by decide +kernel
theorem dX3_draw_31 : decode cX3_draw 31 = .ok (.goto 4, 3) := by decide +kernel
theorem dX3_draw_34 : decode cX3_draw 34 = .ok (.iconst 0, 1) := by decide +kernel
theorem dX3_draw_35 : decode cX3_draw 35 = .ok (.ireturn, 1) := by decide +kernel
theorem w_X3_draw_0 {l : Launch} {D : zDD} {b : Nat} (p1 : Int32) (σ : zSg) (τ : zLm) {Q : Int32 → zSg → zLm → Prop} (h : (p1 ≤ 0 → Q 0 (st2 σ 22 0 ((((σ 22 0) * 1103515245) + 12345) &&& 2147483647)) τ) ∧ (¬ p1 ≤ 0 → (¬ p1 = 0 ∧ Q ((((st2 σ 22 0 ((((σ 22 0) * 1103515245) + 12345) &&& 2147483647)) 22 0) / 65536) - (((st2 σ 22 0 ((((σ 22 0) * 1103515245) + 12345) &&& 2147483647)) 22 0) / 65536) / p1 * p1) (st2 σ 22 0 ((((σ 22 0) * 1103515245) + 12345) &&& 2147483647)) τ))) : AI l D b M_X3_draw 0 G0 Q 0 [(0, .ref (b + 22)), (1, .int p1)] [] G0 σ τ := by
  refine r_aload_n 0 dX3_draw_0 rfl rfl ?_
  refine r_aload_n 0 dX3_draw_1 rfl rfl ?_
  refine r_getI (j := 0) (by decide) (congrArg Prod.fst k0_22) c12_3 (by decide) rfl tw_166 dX3_draw_2 ?_
  refine r_ldc (v := 1103515245) rfl tw_675 rfl dX3_draw_5 ?_
  refine r_imul dX3_draw_7 ?_
  refine r_sipush dX3_draw_8 cs_12345 ?_
  refine r_iadd dX3_draw_11 ?_
  refine r_ldc (v := 2147483647) rfl tw_676 rfl dX3_draw_12 ?_
  refine r_iand dX3_draw_14 ?_
  refine r_putI (j := 0) (by decide) (congrArg Prod.fst k0_22) c12_3 (by decide) rfl (Or.inl rfl) tw_166 dX3_draw_15 ?_
  refine r_iload_n 1 dX3_draw_18 rfl rfl ?_
  refine r_if_le (tgt := 34) dX3_draw_19 (by decide) (fun c1 => ?_) (fun c1 => ?_)
  · replace h := h.1 c1
    refine r_iconst dX3_draw_34 ci_0 ?_
    exact r_iret rfl (Nat.le_refl _) (Nat.le_refl _) dX3_draw_35 ⟨rfl, rfl, rfl, _, rfl, h⟩
  · replace h := h.2 c1
    refine r_aload_n 0 dX3_draw_22 rfl rfl ?_
    refine r_getI (j := 0) (by decide) (congrArg Prod.fst k0_22) c12_3 (by decide) rfl tw_166 dX3_draw_23 ?_
    refine r_ldc (v := 65536) rfl tw_677 rfl dX3_draw_26 ?_
    refine r_idiv dX3_draw_28 (by decide) ?_
    refine r_iload_n 1 dX3_draw_29 rfl rfl ?_
    refine r_irem dX3_draw_30 h.1 ?_
    replace h := h.2
    refine r_goto (tgt := 35) dX3_draw_31 (by decide) ?_
    exact r_iret rfl (Nat.le_refl _) (Nat.le_refl _) dX3_draw_35 ⟨rfl, rfl, rfl, _, rfl, h⟩
theorem s_X3_draw {l : Launch} {D : zDD} {b : Nat} (p1 : Int32) (σ : zSg) (τ : zLm) {Q : Int32 → zSg → zLm → Prop} (h : (p1 ≤ 0 → Q 0 (st2 σ 22 0 ((((σ 22 0) * 1103515245) + 12345) &&& 2147483647)) τ) ∧ (¬ p1 ≤ 0 → (¬ p1 = 0 ∧ Q ((((st2 σ 22 0 ((((σ 22 0) * 1103515245) + 12345) &&& 2147483647)) 22 0) / 65536) - (((st2 σ 22 0 ((((σ 22 0) * 1103515245) + 12345) &&& 2147483647)) 22 0) / 65536) / p1 * p1) (st2 σ 22 0 ((((σ 22 0) * 1103515245) + 12345) &&& 2147483647)) τ))) : SI l D b M_X3_draw 0 G0 [.ref (b + 22), .int p1] σ τ Q := zS.of (by decide) (Nat.le_of_ble_eq_true rfl) rfl (w_X3_draw_0 p1 σ τ h)

