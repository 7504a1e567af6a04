theorem dX11_fault_0 : decode cX11_fault 0 = .ok (.aload_n 0, 1) := by decide +kernel
theorem dX11_fault_1 : decode cX11_fault 1 = .ok (.getfield 77, 3) := by decide +kernel
theorem dX11_fault_4 : decode cX11_fault 4 = .ok (.ireturn, 1) := by decide +kernel
theorem w_X11_fault_0 {l : Launch} {D : zDD} {b : Nat} (σ : zSg) (τ : zLm) {Q : Int32 → zSg → zLm → Prop} (h : Q (σ 0 11) σ τ) : AI l D b M_X11_fault 0 G0 Q 0 [(0, .ref (b + 0))] [] G0 σ τ := by
  refine r_aload_n 0 dX11_fault_0 rfl rfl ?_
  refine r_getI (j := 11) (by decide) (congrArg Prod.fst k0_0) c12_10 (by decide) rfl tw_295 dX11_fault_1 ?_
  exact r_iret rfl (Nat.le_refl _) (Nat.le_refl _) dX11_fault_4 ⟨rfl, rfl, rfl, _, rfl, h⟩
theorem s_X11_fault {l : Launch} {D : zDD} {b : Nat} (σ : zSg) (τ : zLm) {Q : Int32 → zSg → zLm → Prop} (h : Q (σ 0 11) σ τ) : SI l D b M_X11_fault 0 G0 [.ref (b + 0)] σ τ Q := zS.of (by decide) (Nat.le_of_ble_eq_true rfl) rfl (w_X11_fault_0 σ τ h)

theorem dX11_mild_0 : decode cX11_mild 0 = .ok (.iload_n 1, 1) := by decide +kernel
theorem dX11_mild_1 : decode cX11_mild 1 = .ok (.ifCond .lt 19, 3) := by decide +kernel
theorem dX11_mild_4 : decode cX11_mild 4 = .ok (.iload_n 1, 1) := by decide +kernel
theorem dX11_mild_5 : decode cX11_mild 5 = .ok (.bipush 60, 2) := by decide +kernel
theorem dX11_mild_7 : decode cX11_mild 7 = .ok (.if_icmp .gt 13, 3) := by decide +kernel
theorem dX11_mild_10 : decode cX11_mild 10 = .ok (.iload_n 2, 1) := by decide +kernel
theorem dX11_mild_11 : decode cX11_mild 11 = .ok (.ifCond .lt 9, 3) := by decide +kernel
theorem dX11_mild_14 : decode cX11_mild 14 = .ok (.iload_n 2, 1) := by decide +kernel
theorem dX11_mild_15 : decode cX11_mild 15 = .ok (.bipush 100, 2) := by decide +kernel
theorem dX11_mild_17 : decode cX11_mild 17 = .ok (.if_icmp .le 6, 3) := by decide +kernel
theorem dX11_mild_20 : decode cX11_mild 20 = .ok (.ldc 81, 2) := by decide +kernel
theorem dX11_mild_22 : decode cX11_mild 22 = .ok (.ireturn, 1) := by decide +kernel
theorem dX11_mild_23 : decode cX11_mild 23 = .ok (.ldc2_w 290, 3) := by decide +kernel
theorem dX11_mild_26 : decode cX11_mild 26 = .ok (.lstore_n 3, 1) := by decide +kernel
theorem dX11_mild_27 : decode cX11_mild 27 = .ok (.iconst 0, 1) := by decide +kernel
theorem dX11_mild_28 : decode cX11_mild 28 = .ok (.istore 5, 2) := by decide +kernel
theorem dX11_mild_30 : decode cX11_mild 30 = .ok (.iload 5, 2) := by decide +kernel
theorem dX11_mild_32 : decode cX11_mild 32 = .ok (.iload_n 1, 1) := by decide +kernel
theorem dX11_mild_33 : decode cX11_mild 33 = .ok (.if_icmp .ge 18, 3) := by decide +kernel
theorem dX11_mild_36 : decode cX11_mild 36 = .ok (.lload_n 3, 1) := by decide +kernel
theorem dX11_mild_37 : decode cX11_mild 37 = .ok (.iload_n 2, 1) := by decide +kernel
theorem dX11_mild_38 : decode cX11_mild 38 = .ok (.i2l, 1) := by decide +kernel
theorem dX11_mild_39 : decode cX11_mild 39 = .ok (.lmul, 1) := by decide +kernel
theorem dX11_mild_40 : decode cX11_mild 40 = .ok (.ldc2_w 292, 3) := by decide +kernel
theorem dX11_mild_43 : decode cX11_mild 43 = .ok (.ldiv, 1) := by decide +kernel
theorem dX11_mild_44 : decode cX11_mild 44 = .ok (.lstore_n 3, 1) := by decide +kernel
theorem dX11_mild_45 : decode cX11_mild 45 = .ok (.iinc 5 1, 3) := by decide +kernel
theorem dX11_mild_48 : decode cX11_mild 48 = .ok (.goto (-18), 3) := by decide +kernel
theorem dX11_mild_51 : decode cX11_mild 51 = .ok (.lload_n 3, 1) := by decide +kernel
theorem dX11_mild_52 : decode cX11_mild 52 = .ok (.l2i, 1) := by decide +kernel
theorem dX11_mild_53 : decode cX11_mild 53 = .ok (.ireturn, 1) := by decide +kernel
theorem w_X11_mild_30 {l : Launch} {D : zDD} {b : Nat} (x1 x2 x5 : Int32) (z3 : Int64) (σ : zSg) (τ : zLm) {Q : Int32 → zSg → zLm → Prop} (h : (x1 ≤ x5 → Q z3.toInt32 σ τ) ∧ (¬ x1 ≤ x5 → AI l D b M_X11_mild 0 G0 Q 30 [(1, .int x1), (2, .int x2), (3, .long ((z3 * x2.toInt64) / 100)), (5, .int (x5 + 1))] [] G0 σ τ)) : AI l D b M_X11_mild 0 G0 Q 30 [(1, .int x1), (2, .int x2), (3, .long z3), (5, .int x5)] [] G0 σ τ := by
  refine r_iload 3 dX11_mild_30 rfl ?_
  refine r_iload_n 0 dX11_mild_32 rfl rfl ?_
  refine r_icmp_ge (tgt := 51) dX11_mild_33 (by decide) (fun c1 => ?_) (fun c1 => ?_)
  · replace h := h.1 c1
    refine r_lload_n 2 dX11_mild_51 rfl rfl ?_
    refine r_l2i dX11_mild_52 ?_
    exact r_iret rfl (Nat.le_refl _) (Nat.le_refl _) dX11_mild_53 ⟨rfl, rfl, rfl, _, rfl, h⟩
  · replace h := h.2 c1
    refine r_lload_n 2 dX11_mild_36 rfl rfl ?_
    refine r_iload_n 1 dX11_mild_37 rfl rfl ?_
    refine r_i2l dX11_mild_38 ?_
    refine r_lmul dX11_mild_39 ?_
    refine r_ldc2 (v := 100) rfl tw_755 rfl dX11_mild_40 ?_
    refine r_ldiv dX11_mild_43 (by decide) ?_
    refine r_lstore_n dX11_mild_44 rfl (by decide) rfl ?_
    refine r_inc 3 dX11_mild_45 rfl ci_1 (by decide) rfl ?_
    refine r_goto (tgt := 30) dX11_mild_48 (by decide) ?_
    refine r_lv [2, 3, 1, 0] rfl ?_
    exact h

theorem w_X11_mild_0 {l : Launch} {D : zDD} {b : Nat} (p1 p2 : Int32) (σ : zSg) (τ : zLm) {Q : Int32 → zSg → zLm → Prop} (h : (p1 < 0 → Q (-1000000002) σ τ) ∧ (¬ p1 < 0 → ((60 < p1 → Q (-1000000002) σ τ) ∧ (¬ 60 < p1 → ((p2 < 0 → Q (-1000000002) σ τ) ∧ (¬ p2 < 0 → ((p2 ≤ 100 → AI l D b M_X11_mild 0 G0 Q 30 [(1, .int p1), (2, .int p2), (3, .long 1000000000), (5, .int 0)] [] G0 σ τ) ∧ (¬ p2 ≤ 100 → Q (-1000000002) σ τ)))))))) : AI l D b M_X11_mild 0 G0 Q 0 [(0, .ref (b + 0)), (1, .int p1), (2, .int p2)] [] G0 σ τ := by
  refine r_iload_n 1 dX11_mild_0 rfl rfl ?_
  refine r_if_lt (tgt := 20) dX11_mild_1 (by decide) (fun c1 => ?_) (fun c1 => ?_)
  · replace h := h.1 c1
    refine r_ldc (v := (-1000000002)) rfl tw_325 rfl dX11_mild_20 ?_
    exact r_iret rfl (Nat.le_refl _) (Nat.le_refl _) dX11_mild_22 ⟨rfl, rfl, rfl, _, rfl, h⟩
  · replace h := h.2 c1
    refine r_iload_n 1 dX11_mild_4 rfl rfl ?_
    refine r_bipush dX11_mild_5 cb_60 ?_
    refine r_icmp_gt (tgt := 20) dX11_mild_7 (by decide) (fun c2 => ?_) (fun c2 => ?_)
    · replace h := h.1 c2
      refine r_ldc (v := (-1000000002)) rfl tw_325 rfl dX11_mild_20 ?_
      exact r_iret rfl (Nat.le_refl _) (Nat.le_refl _) dX11_mild_22 ⟨rfl, rfl, rfl, _, rfl, h⟩
    · replace h := h.2 c2
      refine r_iload_n 2 dX11_mild_10 rfl rfl ?_
      refine r_if_lt (tgt := 20) dX11_mild_11 (by decide) (fun c3 => ?_) (fun c3 => ?_)
      · replace h := h.1 c3
        refine r_ldc (v := (-1000000002)) rfl tw_325 rfl dX11_mild_20 ?_
        exact r_iret rfl (Nat.le_refl _) (Nat.le_refl _) dX11_mild_22 ⟨rfl, rfl, rfl, _, rfl, h⟩
      · replace h := h.2 c3
        refine r_iload_n 2 dX11_mild_14 rfl rfl ?_
        refine r_bipush dX11_mild_15 cb_100 ?_
        refine r_icmp_le (tgt := 23) dX11_mild_17 (by decide) (fun c4 => ?_) (fun c4 => ?_)
        · replace h := h.1 c4
          refine r_ldc2 (v := 1000000000) rfl tw_754 rfl dX11_mild_23 ?_
          refine r_lstore_n dX11_mild_26 rfl (by decide) rfl ?_
          refine r_iconst dX11_mild_27 ci_0 ?_
          refine r_istore dX11_mild_28 (by decide) rfl ?_
          refine r_lv [3, 4, 1, 0] rfl ?_
          exact h
        · replace h := h.2 c4
          refine r_ldc (v := (-1000000002)) rfl tw_325 rfl dX11_mild_20 ?_
          exact r_iret rfl (Nat.le_refl _) (Nat.le_refl _) dX11_mild_22 ⟨rfl, rfl, rfl, _, rfl, h⟩
theorem s_X11_mild {l : Launch} {D : zDD} {b : Nat} (p1 p2 : Int32) (σ : zSg) (τ : zLm) {Q : Int32 → zSg → zLm → Prop} (h : (p1 < 0 → Q (-1000000002) σ τ) ∧ (¬ p1 < 0 → ((60 < p1 → Q (-1000000002) σ τ) ∧ (¬ 60 < p1 → ((p2 < 0 → Q (-1000000002) σ τ) ∧ (¬ p2 < 0 → ((p2 ≤ 100 → AI l D b M_X11_mild 0 G0 Q 30 [(1, .int p1), (2, .int p2), (3, .long 1000000000), (5, .int 0)] [] G0 σ τ) ∧ (¬ p2 ≤ 100 → Q (-1000000002) σ τ)))))))) : SI l D b M_X11_mild 0 G0 [.ref (b + 0), .int p1, .int p2] σ τ Q := zS.of (by decide) (Nat.le_of_ble_eq_true rfl) rfl (w_X11_mild_0 p1 p2 σ τ h)

theorem dX11_seed_0 : decode cX11_seed 0 = .ok (.iload_n 1, 1) := by decide +kernel
theorem dX11_seed_1 : decode cX11_seed 1 = .ok (.ifCond .ge 6, 3) := by decide +kernel
theorem dX11_seed_4 : decode cX11_seed 4 = .ok (.ldc 81, 2) := by decide +kernel
theorem dX11_seed_6 : decode cX11_seed 6 = .ok (.ireturn, 1) := by decide +kernel
theorem dX11_seed_7 : decode cX11_seed 7 = .ok (.aload_n 0, 1) := by decide +kernel
theorem dX11_seed_8 : decode cX11_seed 8 = .ok (.getfield 48, 3) := by decide +kernel
theorem dX11_seed_11 : decode cX11_seed 11 = .ok (.getfield 303, 3) := by decide +kernel
theorem dX11_seed_14 : decode cX11_seed 14 = .ok (.istore_n 2, 1) := by decide +kernel
theorem dX11_seed_15 : decode cX11_seed 15 = .ok (.aload_n 0, 1) := by decide +kernel
theorem dX11_seed_16 : decode cX11_seed 16 = .ok (.getfield 48, 3) := by decide +kernel
theorem dX11_seed_19 : decode cX11_seed 19 = .ok (.iload_n 1, 1) := by decide +kernel
theorem dX11_seed_20 : decode cX11_seed 20 = .ok (.putfield 303, 3) := by decide +kernel
theorem dX11_seed_23 : decode cX11_seed 23 = .ok (.iload_n 2, 1) := by decide +kernel
theorem dX11_seed_24 : decode cX11_seed 24 = .ok (.ireturn, 1) := by decide +kernel
theorem w_X11_seed_0 {l : Launch} {D : zDD} {b : Nat} (p1 : Int32) (σ : zSg) (τ : zLm) {Q : Int32 → zSg → zLm → Prop} (h : (0 ≤ p1 → Q (σ 22 0) (st2 σ 22 0 p1) τ) ∧ (¬ 0 ≤ p1 → Q (-1000000002) σ τ)) : AI l D b M_X11_seed 0 G0 Q 0 [(0, .ref (b + 0)), (1, .int p1)] [] G0 σ τ := by
  refine r_iload_n 1 dX11_seed_0 rfl rfl ?_
  refine r_if_ge (tgt := 7) dX11_seed_1 (by decide) (fun c1 => ?_) (fun c1 => ?_)
  · replace h := h.1 c1
    refine r_aload_n 0 dX11_seed_7 rfl rfl ?_
    refine r_getR (j := 6) (by decide) (congrArg Prod.fst k0_0) c12_10 (by decide) rfl g0_0_6 tw_290 dX11_seed_8 ?_
    refine r_getI (j := 0) (by decide) (congrArg Prod.fst k0_22) c12_3 (by decide) rfl tw_168 dX11_seed_11 ?_
    refine r_istore_n dX11_seed_14 rfl (by decide) rfl ?_
    refine r_aload_n 1 dX11_seed_15 rfl rfl ?_
    refine r_getR (j := 6) (by decide) (congrArg Prod.fst k0_0) c12_10 (by decide) rfl g0_0_6 tw_290 dX11_seed_16 ?_
    refine r_iload_n 2 dX11_seed_19 rfl rfl ?_
    refine r_putI (j := 0) (by decide) (congrArg Prod.fst k0_22) c12_3 (by decide) rfl (Or.inl rfl) tw_168 dX11_seed_20 ?_
    refine r_iload_n 0 dX11_seed_23 rfl rfl ?_
    exact r_iret rfl (Nat.le_refl _) (Nat.le_refl _) dX11_seed_24 ⟨rfl, rfl, rfl, _, rfl, h⟩
  · replace h := h.2 c1
    refine r_ldc (v := (-1000000002)) rfl tw_325 rfl dX11_seed_4 ?_
    exact r_iret rfl (Nat.le_refl _) (Nat.le_refl _) dX11_seed_6 ⟨rfl, rfl, rfl, _, rfl, h⟩
theorem s_X11_seed {l : Launch} {D : zDD} {b : Nat} (p1 : Int32) (σ : zSg) (τ : zLm) {Q : Int32 → zSg → zLm → Prop} (h : (0 ≤ p1 → Q (σ 22 0) (st2 σ 22 0 p1) τ) ∧ (¬ 0 ≤ p1 → Q (-1000000002) σ τ)) : SI l D b M_X11_seed 0 G0 [.ref (b + 0), .int p1] σ τ Q := zS.of (by decide) (Nat.le_of_ble_eq_true rfl) rfl (w_X11_seed_0 p1 σ τ h)

theorem dX11_feed_0 : decode cX11_feed 0 = .ok (.iload_n 1, 1) := by decide +kernel
theorem dX11_feed_1 : decode cX11_feed 1 = .ok (.ifCond .lt 10, 3) := by decide +kernel
theorem dX11_feed_4 : decode cX11_feed 4 = .ok (.iload_n 1, 1) := by decide +kernel
theorem dX11_feed_5 : decode cX11_feed 5 = .ok (.sipush 255, 3) := by decide +kernel
theorem dX11_feed_8 : decode cX11_feed 8 = .ok (.if_icmp .le 6, 3) := by decide +kernel
theorem dX11_feed_11 : decode cX11_feed 11 = .ok (.ldc 81, 2) := by decide +kernel
theorem dX11_feed_13 : decode cX11_feed 13 = .ok (.ireturn, 1) := by decide +kernel
theorem dX11_feed_14 : decode cX11_feed 14 = .ok (.aload_n 0, 1) := by decide +kernel
theorem dX11_feed_15 : decode cX11_feed 15 = .ok (.getfield 10, 3) := by decide +kernel
theorem dX11_feed_18 : decode cX11_feed 18 = .ok (.getfield 82, 3) := by decide +kernel
theorem dX11_feed_21 : decode cX11_feed 21 = .ok (.sipush 240, 3) := by decide +kernel
theorem dX11_feed_24 : decode cX11_feed 24 = .ok (.if_icmp .lt 6, 3) := by decide +kernel
theorem dX11_feed_27 : decode cX11_feed 27 = .ok (.ldc 85, 2) := by decide +kernel
theorem dX11_feed_29 : decode cX11_feed 29 = .ok (.ireturn, 1) := by decide +kernel
theorem dX11_feed_30 : decode cX11_feed 30 = .ok (.aload_n 0, 1) := by decide +kernel
theorem dX11_feed_31 : decode cX11_feed 31 = .ok (.getfield 10, 3) := by decide +kernel
theorem dX11_feed_34 : decode cX11_feed 34 = .ok (.iload_n 1, 1) := by decide +kernel
theorem dX11_feed_35 : decode cX11_feed 35 = .ok (.invokevirtual 86, 3) := by decide +kernel
theorem dX11_feed_38 : decode cX11_feed 38 = .ok (.ireturn, 1) := by decide +kernel
theorem w_X11_feed_0 {l : Launch} {D : zDD} {b : Nat} (p1 : Int32) (σ : zSg) (τ : zLm) {Q : Int32 → zSg → zLm → Prop} (h : (p1 < 0 → Q (-1000000002) σ τ) ∧ (¬ p1 < 0 → ((p1 ≤ 255 → (((σ 1 1) < 240 → SI l D b M_X7_add 0 G0 [.ref (b + 1), .int p1] σ τ (fun r4 σ4 τ4 => Q r4 σ4 τ4)) ∧ (¬ (σ 1 1) < 240 → Q (-1000000004) σ τ))) ∧ (¬ p1 ≤ 255 → Q (-1000000002) σ τ)))) : AI l D b M_X11_feed 1 G0 Q 0 [(0, .ref (b + 0)), (1, .int p1)] [] G0 σ τ := by
  refine r_iload_n 1 dX11_feed_0 rfl rfl ?_
  refine r_if_lt (tgt := 11) dX11_feed_1 (by decide) (fun c1 => ?_) (fun c1 => ?_)
  · replace h := h.1 c1
    refine r_ldc (v := (-1000000002)) rfl tw_325 rfl dX11_feed_11 ?_
    exact r_iret rfl (Nat.le_refl _) (Nat.le_refl _) dX11_feed_13 ⟨rfl, rfl, rfl, _, rfl, h⟩
  · replace h := h.2 c1
    refine r_iload_n 1 dX11_feed_4 rfl rfl ?_
    refine r_sipush dX11_feed_5 cs_255 ?_
    refine r_icmp_le (tgt := 14) dX11_feed_8 (by decide) (fun c2 => ?_) (fun c2 => ?_)
    · replace h := h.1 c2
      refine r_aload_n 0 dX11_feed_14 rfl rfl ?_
      refine r_getR (j := 0) (by decide) (congrArg Prod.fst k0_0) c12_10 (by decide) rfl g0_0_0 tw_284 dX11_feed_15 ?_
      refine r_getI (j := 1) (by decide) (congrArg Prod.fst k0_1) c12_7 (by decide) rfl tw_33 dX11_feed_18 ?_
      refine r_sipush dX11_feed_21 cs_240 ?_
      refine r_icmp_lt (tgt := 30) dX11_feed_24 (by decide) (fun c3 => ?_) (fun c3 => ?_)
      · replace h := h.1 c3
        refine r_aload_n 0 dX11_feed_30 rfl rfl ?_
        refine r_getR (j := 0) (by decide) (congrArg Prod.fst k0_0) c12_10 (by decide) rfl g0_0_0 tw_284 dX11_feed_31 ?_
        refine r_iload_n 1 dX11_feed_34 rfl rfl ?_
        refine rc_VI (h' := 0) [.int p1] okv_X7_add (by decide) (congrArg Prod.fst k0_1) tw_327 rfl rfl (Nat.le_of_ble_eq_true rfl) dX11_feed_35 (by decide) h (fun r4 σ4 τ4 h => ?_)
        exact r_iret rfl (Nat.le_refl _) (Nat.le_refl _) dX11_feed_38 ⟨rfl, rfl, rfl, _, rfl, h⟩
      · replace h := h.2 c3
        refine r_ldc (v := (-1000000004)) rfl tw_326 rfl dX11_feed_27 ?_
        exact r_iret rfl (Nat.le_refl _) (Nat.le_refl _) dX11_feed_29 ⟨rfl, rfl, rfl, _, rfl, h⟩
    · replace h := h.2 c2
      refine r_ldc (v := (-1000000002)) rfl tw_325 rfl dX11_feed_11 ?_
      exact r_iret rfl (Nat.le_refl _) (Nat.le_refl _) dX11_feed_13 ⟨rfl, rfl, rfl, _, rfl, h⟩
theorem s_X11_feed {l : Launch} {D : zDD} {b : Nat} (p1 : Int32) (σ : zSg) (τ : zLm) {Q : Int32 → zSg → zLm → Prop} (h : (p1 < 0 → Q (-1000000002) σ τ) ∧ (¬ p1 < 0 → ((p1 ≤ 255 → (((σ 1 1) < 240 → SI l D b M_X7_add 0 G0 [.ref (b + 1), .int p1] σ τ (fun r4 σ4 τ4 => Q r4 σ4 τ4)) ∧ (¬ (σ 1 1) < 240 → Q (-1000000004) σ τ))) ∧ (¬ p1 ≤ 255 → Q (-1000000002) σ τ)))) : SI l D b M_X11_feed 1 G0 [.ref (b + 0), .int p1] σ τ Q := zS.of (by decide) (Nat.le_of_ble_eq_true rfl) rfl (w_X11_feed_0 p1 σ τ h)

theorem dX11_eater_0 : decode cX11_eater 0 = .ok (.aload_n 0, 1) := by decide +kernel
theorem dX11_eater_1 : decode cX11_eater 1 = .ok (.getfield 33, 3) := by decide +kernel
theorem dX11_eater_4 : decode cX11_eater 4 = .ok (.iload_n 1, 1) := by decide +kernel
theorem dX11_eater_5 : decode cX11_eater 5 = .ok (.invokevirtual 195, 3) := by decide +kernel
theorem dX11_eater_8 : decode cX11_eater 8 = .ok (.ifCond .ne 6, 3) := by decide +kernel
theorem dX11_eater_11 : decode cX11_eater 11 = .ok (.ldc 164, 2) := by decide +kernel
theorem dX11_eater_13 : decode cX11_eater 13 = .ok (.ireturn, 1) := by decide +kernel
theorem dX11_eater_14 : decode cX11_eater 14 = .ok (.iload_n 2, 1) := by decide +kernel
theorem dX11_eater_15 : decode cX11_eater 15 = .ok (.lookupswitch 45 #[(0, 25), (1, 35)], 25) := by decide +kernel
theorem dX11_eater_40 : decode cX11_eater 40 = .ok (.aload_n 0, 1) := by decide +kernel
theorem dX11_eater_41 : decode cX11_eater 41 = .ok (.getfield 33, 3) := by decide +kernel
theorem dX11_eater_44 : decode cX11_eater 44 = .ok (.getfield 198, 3) := by decide +kernel
theorem dX11_eater_47 : decode cX11_eater 47 = .ok (.iload_n 1, 1) := by decide +kernel
theorem dX11_eater_48 : decode cX11_eater 48 = .ok (.iaload, 1) := by decide +kernel
theorem dX11_eater_49 : decode cX11_eater 49 = .ok (.ireturn, 1) := by decide +kernel
theorem dX11_eater_50 : decode cX11_eater 50 = .ok (.aload_n 0, 1) := by decide +kernel
theorem dX11_eater_51 : decode cX11_eater 51 = .ok (.getfield 38, 3) := by decide +kernel
theorem dX11_eater_54 : decode cX11_eater 54 = .ok (.getfield 201, 3) := by decide +kernel
theorem dX11_eater_57 : decode cX11_eater 57 = .ok (.iload_n 1, 1) := by decide +kernel
theorem dX11_eater_58 : decode cX11_eater 58 = .ok (.iaload, 1) := by decide +kernel
theorem dX11_eater_59 : decode cX11_eater 59 = .ok (.ireturn, 1) := by decide +kernel
theorem dX11_eater_60 : decode cX11_eater 60 = .ok (.ldc 81, 2) := by decide +kernel
theorem dX11_eater_62 : decode cX11_eater 62 = .ok (.ireturn, 1) := by decide +kernel
theorem w_X11_eater_0 {l : Launch} {D : zDD} {b : Nat} (p1 p2 : Int32) (σ : zSg) (τ : zLm) {Q : Int32 → zSg → zLm → Prop} (h : SI l D b M_X6_hasEater 0 G0 [.ref (b + 9), .int p1] σ τ (fun r1 σ1 τ1 => (¬ r1 = 0 → ((p2 = 0 → (vp_in p1 6 ∧ Q (σ1 13 p1.toNatClampNeg) σ1 τ1)) ∧ (¬ p2 = 0 → ((p2 = 1 → (vp_in p1 6 ∧ Q (σ1 18 p1.toNatClampNeg) σ1 τ1)) ∧ (¬ p2 = 1 → Q (-1000000002) σ1 τ1))))) ∧ (r1 = 0 → Q (-1000000001) σ1 τ1))) : AI l D b M_X11_eater 1 G0 Q 0 [(0, .ref (b + 0)), (1, .int p1), (2, .int p2)] [] G0 σ τ := by
  refine r_aload_n 0 dX11_eater_0 rfl rfl ?_
  refine r_getR (j := 3) (by decide) (congrArg Prod.fst k0_0) c12_10 (by decide) rfl g0_0_3 tw_287 dX11_eater_1 ?_
  refine r_iload_n 1 dX11_eater_4 rfl rfl ?_
  refine rc_VI (h' := 0) [.int p1] okv_X6_hasEater (by decide) (congrArg Prod.fst k0_9) tw_560 rfl rfl (Nat.le_of_ble_eq_true rfl) dX11_eater_5 (by decide) h (fun r1 σ1 τ1 h => ?_)
  refine r_if_ne (tgt := 14) dX11_eater_8 (by decide) (fun c2 => ?_) (fun c2 => ?_)
  · replace h := h.1 c2
    refine r_iload_n 2 dX11_eater_14 rfl rfl ?_
    by_cases c3 : p2 = 0
    · replace h := h.1 c3
      refine r_lookup (tgt := 40) (off := 25) dX11_eater_15 (by decide) (by rw [c3]; decide) (by decide) ?_
      refine r_aload_n 0 dX11_eater_40 rfl rfl ?_
      refine r_getR (j := 3) (by decide) (congrArg Prod.fst k0_0) c12_10 (by decide) rfl g0_0_3 tw_287 dX11_eater_41 ?_
      refine r_getR (j := 7) (by decide) (congrArg Prod.fst k0_9) c12_6 (by decide) rfl g0_9_7 tw_81 dX11_eater_44 ?_
      refine r_iload_n 1 dX11_eater_47 rfl rfl ?_
      refine r_iald (by decide) k0_13 dX11_eater_48 h.1 ?_
      replace h := h.2
      exact r_iret rfl (Nat.le_refl _) (Nat.le_refl _) dX11_eater_49 ⟨rfl, rfl, rfl, _, rfl, h⟩
    · replace h := h.2 c3
      by_cases c4 : p2 = 1
      · replace h := h.1 c4
        refine r_lookup (tgt := 50) (off := 35) dX11_eater_15 (by decide) (by rw [c4]; decide) (by decide) ?_
        refine r_aload_n 0 dX11_eater_50 rfl rfl ?_
        refine r_getR (j := 4) (by decide) (congrArg Prod.fst k0_0) c12_10 (by decide) rfl g0_0_4 tw_288 dX11_eater_51 ?_
        refine r_getR (j := 5) (by decide) (congrArg Prod.fst k0_14) c12_8 (by decide) rfl g0_14_5 tw_132 dX11_eater_54 ?_
        refine r_iload_n 1 dX11_eater_57 rfl rfl ?_
        refine r_iald (by decide) k0_18 dX11_eater_58 h.1 ?_
        replace h := h.2
        exact r_iret rfl (Nat.le_refl _) (Nat.le_refl _) dX11_eater_59 ⟨rfl, rfl, rfl, _, rfl, h⟩
      · replace h := h.2 c4
        refine r_lookup (tgt := 60) (off := 45) dX11_eater_15 (by decide) ((lv_osw c3 rfl).trans ((lv_osw c4 rfl).trans (rfl))) (by decide) ?_
        refine r_ldc (v := (-1000000002)) rfl tw_325 rfl dX11_eater_60 ?_
        exact r_iret rfl (Nat.le_refl _) (Nat.le_refl _) dX11_eater_62 ⟨rfl, rfl, rfl, _, rfl, h⟩
  · replace h := h.2 c2
    refine r_ldc (v := (-1000000001)) rfl tw_513 rfl dX11_eater_11 ?_
    exact r_iret rfl (Nat.le_refl _) (Nat.le_refl _) dX11_eater_13 ⟨rfl, rfl, rfl, _, rfl, h⟩
theorem s_X11_eater {l : Launch} {D : zDD} {b : Nat} (p1 p2 : Int32) (σ : zSg) (τ : zLm) {Q : Int32 → zSg → zLm → Prop} (h : SI l D b M_X6_hasEater 0 G0 [.ref (b + 9), .int p1] σ τ (fun r1 σ1 τ1 => (¬ r1 = 0 → ((p2 = 0 → (vp_in p1 6 ∧ Q (σ1 13 p1.toNatClampNeg) σ1 τ1)) ∧ (¬ p2 = 0 → ((p2 = 1 → (vp_in p1 6 ∧ Q (σ1 18 p1.toNatClampNeg) σ1 τ1)) ∧ (¬ p2 = 1 → Q (-1000000002) σ1 τ1))))) ∧ (r1 = 0 → Q (-1000000001) σ1 τ1))) : SI l D b M_X11_eater 1 G0 [.ref (b + 0), .int p1, .int p2] σ τ Q := zS.of (by decide) (Nat.le_of_ble_eq_true rfl) rfl (w_X11_eater_0 p1 p2 σ τ h)

theorem dX11_refusalOfHours_0 : decode cX11_refusalOfHours 0 = .ok (.iload_n 1, 1) := by decide +kernel
theorem dX11_refusalOfHours_1 : decode cX11_refusalOfHours 1 = .ok (.iconst 1, 1) := by decide +kernel
theorem dX11_refusalOfHours_2 : decode cX11_refusalOfHours 2 = .ok (.if_icmp .lt 9, 3) := by decide +kernel
theorem dX11_refusalOfHours_5 : decode cX11_refusalOfHours 5 = .ok (.iload_n 1, 1) := by decide +kernel
theorem dX11_refusalOfHours_6 : decode cX11_refusalOfHours 6 = .ok (.bipush 60, 2) := by decide +kernel
theorem dX11_refusalOfHours_8 : decode cX11_refusalOfHours 8 = .ok (.if_icmp .le 6, 3) := by decide +kernel
theorem dX11_refusalOfHours_11 : decode cX11_refusalOfHours 11 = .ok (.ldc 81, 2) := by decide +kernel
theorem dX11_refusalOfHours_13 : decode cX11_refusalOfHours 13 = .ok (.ireturn, 1) := by decide +kernel
theorem dX11_refusalOfHours_14 : decode cX11_refusalOfHours 14 = .ok (.aload_n 0, 1) := by decide +kernel
theorem dX11_refusalOfHours_15 : decode cX11_refusalOfHours 15 = .ok (.getfield 33, 3) := by decide +kernel
theorem dX11_refusalOfHours_18 : decode cX11_refusalOfHours 18 = .ok (.invokevirtual 231, 3) := by decide +kernel
theorem dX11_refusalOfHours_21 : decode cX11_refusalOfHours 21 = .ok (.ifCond .ne 6, 3) := by decide +kernel
theorem dX11_refusalOfHours_24 : decode cX11_refusalOfHours 24 = .ok (.ldc 207, 2) := by decide +kernel
theorem dX11_refusalOfHours_26 : decode cX11_refusalOfHours 26 = .ok (.ireturn, 1) := by decide +kernel
theorem dX11_refusalOfHours_27 : decode cX11_refusalOfHours 27 = .ok (.aload_n 0, 1) := by decide +kernel
theorem dX11_refusalOfHours_28 : decode cX11_refusalOfHours 28 = .ok (.getfield 38, 3) := by decide +kernel
theorem dX11_refusalOfHours_31 : decode cX11_refusalOfHours 31 = .ok (.getfield 123, 3) := by decide +kernel
theorem dX11_refusalOfHours_34 : decode cX11_refusalOfHours 34 = .ok (.sipush 9000, 3) := by decide +kernel
theorem dX11_refusalOfHours_37 : decode cX11_refusalOfHours 37 = .ok (.if_icmp .le 8, 3) := by decide +kernel
theorem dX11_refusalOfHours_40 : decode cX11_refusalOfHours 40 = .ok (.ldc 85, 2) := by decide +kernel
theorem dX11_refusalOfHours_42 : decode cX11_refusalOfHours 42 = .ok (.goto 4, 3) := by decide +kernel
theorem dX11_refusalOfHours_45 : decode cX11_refusalOfHours 45 = .ok (.iconst 0, 1) := by decide +kernel
theorem dX11_refusalOfHours_46 : decode cX11_refusalOfHours 46 = .ok (.ireturn, 1) := by decide +kernel
theorem w_X11_refusalOfHours_0 {l : Launch} {D : zDD} {b : Nat} (p1 : Int32) (σ : zSg) (τ : zLm) {Q : Int32 → zSg → zLm → Prop} (h : (p1 < 1 → Q (-1000000002) σ τ) ∧ (¬ p1 < 1 → ((p1 ≤ 60 → (SI l D b M_X6_isThere 0 G0 [.ref (b + 9)] σ τ (fun r3 σ3 τ3 => (¬ r3 = 0 → (((σ3 14 0) ≤ 9000 → Q 0 σ3 τ3) ∧ (¬ (σ3 14 0) ≤ 9000 → Q (-1000000004) σ3 τ3))) ∧ (r3 = 0 → Q (-1000000003) σ3 τ3)))) ∧ (¬ p1 ≤ 60 → Q (-1000000002) σ τ)))) : AI l D b M_X11_refusalOfHours 1 G0 Q 0 [(0, .ref (b + 0)), (1, .int p1)] [] G0 σ τ := by
  refine r_iload_n 1 dX11_refusalOfHours_0 rfl rfl ?_
  refine r_iconst dX11_refusalOfHours_1 ci_1 ?_
  refine r_icmp_lt (tgt := 11) dX11_refusalOfHours_2 (by decide) (fun c1 => ?_) (fun c1 => ?_)
  · replace h := h.1 c1
    refine r_ldc (v := (-1000000002)) rfl tw_325 rfl dX11_refusalOfHours_11 ?_
    exact r_iret rfl (Nat.le_refl _) (Nat.le_refl _) dX11_refusalOfHours_13 ⟨rfl, rfl, rfl, _, rfl, h⟩
  · replace h := h.2 c1
    refine r_iload_n 1 dX11_refusalOfHours_5 rfl rfl ?_
    refine r_bipush dX11_refusalOfHours_6 cb_60 ?_
    refine r_icmp_le (tgt := 14) dX11_refusalOfHours_8 (by decide) (fun c2 => ?_) (fun c2 => ?_)
    · replace h := h.1 c2
      refine r_aload_n 0 dX11_refusalOfHours_14 rfl rfl ?_
      refine r_getR (j := 3) (by decide) (congrArg Prod.fst k0_0) c12_10 (by decide) rfl g0_0_3 tw_287 dX11_refusalOfHours_15 ?_
      refine rc_VI (h' := 0) [] okv_X6_isThere (by decide) (congrArg Prod.fst k0_9) tw_622 rfl rfl (Nat.le_of_ble_eq_true rfl) dX11_refusalOfHours_18 (by decide) h (fun r3 σ3 τ3 h => ?_)
      refine r_if_ne (tgt := 27) dX11_refusalOfHours_21 (by decide) (fun c4 => ?_) (fun c4 => ?_)
      · replace h := h.1 c4
        refine r_aload_n 0 dX11_refusalOfHours_27 rfl rfl ?_
        refine r_getR (j := 4) (by decide) (congrArg Prod.fst k0_0) c12_10 (by decide) rfl g0_0_4 tw_288 dX11_refusalOfHours_28 ?_
        refine r_getI (j := 0) (by decide) (congrArg Prod.fst k0_14) c12_8 (by decide) rfl tw_115 dX11_refusalOfHours_31 ?_
        refine r_sipush dX11_refusalOfHours_34 cs_9000 ?_
        refine r_icmp_le (tgt := 45) dX11_refusalOfHours_37 (by decide) (fun c5 => ?_) (fun c5 => ?_)
        · replace h := h.1 c5
          refine r_iconst dX11_refusalOfHours_45 ci_0 ?_
          exact r_iret rfl (Nat.le_refl _) (Nat.le_refl _) dX11_refusalOfHours_46 ⟨rfl, rfl, rfl, _, rfl, h⟩
        · replace h := h.2 c5
          refine r_ldc (v := (-1000000004)) rfl tw_326 rfl dX11_refusalOfHours_40 ?_
          refine r_goto (tgt := 46) dX11_refusalOfHours_42 (by decide) ?_
          exact r_iret rfl (Nat.le_refl _) (Nat.le_refl _) dX11_refusalOfHours_46 ⟨rfl, rfl, rfl, _, rfl, h⟩
      · replace h := h.2 c4
        refine r_ldc (v := (-1000000003)) rfl tw_572 rfl dX11_refusalOfHours_24 ?_
        exact r_iret rfl (Nat.le_refl _) (Nat.le_refl _) dX11_refusalOfHours_26 ⟨rfl, rfl, rfl, _, rfl, h⟩
    · replace h := h.2 c2
      refine r_ldc (v := (-1000000002)) rfl tw_325 rfl dX11_refusalOfHours_11 ?_
      exact r_iret rfl (Nat.le_refl _) (Nat.le_refl _) dX11_refusalOfHours_13 ⟨rfl, rfl, rfl, _, rfl, h⟩
theorem s_X11_refusalOfHours {l : Launch} {D : zDD} {b : Nat} (p1 : Int32) (σ : zSg) (τ : zLm) {Q : Int32 → zSg → zLm → Prop} (h : (p1 < 1 → Q (-1000000002) σ τ) ∧ (¬ p1 < 1 → ((p1 ≤ 60 → (SI l D b M_X6_isThere 0 G0 [.ref (b + 9)] σ τ (fun r3 σ3 τ3 => (¬ r3 = 0 → (((σ3 14 0) ≤ 9000 → Q 0 σ3 τ3) ∧ (¬ (σ3 14 0) ≤ 9000 → Q (-1000000004) σ3 τ3))) ∧ (r3 = 0 → Q (-1000000003) σ3 τ3)))) ∧ (¬ p1 ≤ 60 → Q (-1000000002) σ τ)))) : SI l D b M_X11_refusalOfHours 1 G0 [.ref (b + 0), .int p1] σ τ Q := zS.of (by decide) (Nat.le_of_ble_eq_true rfl) rfl (w_X11_refusalOfHours_0 p1 σ τ h)

theorem dX11_bump_0 : decode cX11_bump 0 = .ok (.iload_n 1, 1) := by decide +kernel
theorem dX11_bump_1 : decode cX11_bump 1 = .ok (.ifCond .lt 9, 3) := by decide +kernel
theorem dX11_bump_4 : decode cX11_bump 4 = .ok (.iload_n 1, 1) := by decide +kernel
theorem dX11_bump_5 : decode cX11_bump 5 = .ok (.bipush 25, 2) := by decide +kernel
theorem dX11_bump_7 : decode cX11_bump 7 = .ok (.if_icmp .lt 6, 3) := by decide +kernel
theorem dX11_bump_10 : decode cX11_bump 10 = .ok (.ldc 81, 2) := by decide +kernel
theorem dX11_bump_12 : decode cX11_bump 12 = .ok (.ireturn, 1) := by decide +kernel
theorem dX11_bump_13 : decode cX11_bump 13 = .ok (.aload_n 0, 1) := by decide +kernel
theorem dX11_bump_14 : decode cX11_bump 14 = .ok (.getfield 66, 3) := by decide +kernel
theorem dX11_bump_17 : decode cX11_bump 17 = .ok (.getfield 141, 3) := by decide +kernel
theorem dX11_bump_20 : decode cX11_bump 20 = .ok (.bipush 6, 2) := by decide +kernel
theorem dX11_bump_22 : decode cX11_bump 22 = .ok (.if_icmp .lt 6, 3) := by decide +kernel
theorem dX11_bump_25 : decode cX11_bump 25 = .ok (.ldc 85, 2) := by decide +kernel
theorem dX11_bump_27 : decode cX11_bump 27 = .ok (.ireturn, 1) := by decide +kernel
theorem dX11_bump_28 : decode cX11_bump 28 = .ok (.aload_n 0, 1) := by decide +kernel
theorem dX11_bump_29 : decode cX11_bump 29 = .ok (.getfield 66, 3) := by decide +kernel
theorem dX11_bump_32 : decode cX11_bump 32 = .ok (.iload_n 1, 1) := by decide +kernel
theorem dX11_bump_33 : decode cX11_bump 33 = .ok (.iload_n 2, 1) := by decide +kernel
theorem dX11_bump_34 : decode cX11_bump 34 = .ok (.invokevirtual 294, 3) := by decide +kernel
theorem dX11_bump_37 : decode cX11_bump 37 = .ok (.ireturn, 1) := by decide +kernel
theorem w_X11_bump_0 {l : Launch} {D : zDD} {b : Nat} (p1 p2 : Int32) (σ : zSg) (τ : zLm) {Q : Int32 → zSg → zLm → Prop} (h : (p1 < 0 → Q (-1000000002) σ τ) ∧ (¬ p1 < 0 → ((p1 < 25 → (((σ 120 0) < 6 → SI l D b M_X1_add 0 G0 [.ref (b + 120), .int p1, .int p2] σ τ (fun r4 σ4 τ4 => Q r4 σ4 τ4)) ∧ (¬ (σ 120 0) < 6 → Q (-1000000004) σ τ))) ∧ (¬ p1 < 25 → Q (-1000000002) σ τ)))) : AI l D b M_X11_bump 1 G0 Q 0 [(0, .ref (b + 0)), (1, .int p1), (2, .int p2)] [] G0 σ τ := by
  refine r_iload_n 1 dX11_bump_0 rfl rfl ?_
  refine r_if_lt (tgt := 10) dX11_bump_1 (by decide) (fun c1 => ?_) (fun c1 => ?_)
  · replace h := h.1 c1
    refine r_ldc (v := (-1000000002)) rfl tw_325 rfl dX11_bump_10 ?_
    exact r_iret rfl (Nat.le_refl _) (Nat.le_refl _) dX11_bump_12 ⟨rfl, rfl, rfl, _, rfl, h⟩
  · replace h := h.2 c1
    refine r_iload_n 1 dX11_bump_4 rfl rfl ?_
    refine r_bipush dX11_bump_5 cb_25 ?_
    refine r_icmp_lt (tgt := 13) dX11_bump_7 (by decide) (fun c2 => ?_) (fun c2 => ?_)
    · replace h := h.1 c2
      refine r_aload_n 0 dX11_bump_13 rfl rfl ?_
      refine r_getR (j := 9) (by decide) (congrArg Prod.fst k0_0) c12_10 (by decide) rfl g0_0_9 tw_293 dX11_bump_14 ?_
      refine r_getI (j := 0) (by decide) (congrArg Prod.fst k0_120) c12_1 (by decide) rfl tw_248 dX11_bump_17 ?_
      refine r_bipush dX11_bump_20 cb_6 ?_
      refine r_icmp_lt (tgt := 28) dX11_bump_22 (by decide) (fun c3 => ?_) (fun c3 => ?_)
      · replace h := h.1 c3
        refine r_aload_n 0 dX11_bump_28 rfl rfl ?_
        refine r_getR (j := 9) (by decide) (congrArg Prod.fst k0_0) c12_10 (by decide) rfl g0_0_9 tw_293 dX11_bump_29 ?_
        refine r_iload_n 1 dX11_bump_32 rfl rfl ?_
        refine r_iload_n 2 dX11_bump_33 rfl rfl ?_
        refine rc_VI (h' := 0) [.int p1, .int p2] okv_X1_add (by decide) (congrArg Prod.fst k0_120) tw_760 rfl rfl (Nat.le_of_ble_eq_true rfl) dX11_bump_34 (by decide) h (fun r4 σ4 τ4 h => ?_)
        exact r_iret rfl (Nat.le_refl _) (Nat.le_refl _) dX11_bump_37 ⟨rfl, rfl, rfl, _, rfl, h⟩
      · replace h := h.2 c3
        refine r_ldc (v := (-1000000004)) rfl tw_326 rfl dX11_bump_25 ?_
        exact r_iret rfl (Nat.le_refl _) (Nat.le_refl _) dX11_bump_27 ⟨rfl, rfl, rfl, _, rfl, h⟩
    · replace h := h.2 c2
      refine r_ldc (v := (-1000000002)) rfl tw_325 rfl dX11_bump_10 ?_
      exact r_iret rfl (Nat.le_refl _) (Nat.le_refl _) dX11_bump_12 ⟨rfl, rfl, rfl, _, rfl, h⟩
theorem s_X11_bump {l : Launch} {D : zDD} {b : Nat} (p1 p2 : Int32) (σ : zSg) (τ : zLm) {Q : Int32 → zSg → zLm → Prop} (h : (p1 < 0 → Q (-1000000002) σ τ) ∧ (¬ p1 < 0 → ((p1 < 25 → (((σ 120 0) < 6 → SI l D b M_X1_add 0 G0 [.ref (b + 120), .int p1, .int p2] σ τ (fun r4 σ4 τ4 => Q r4 σ4 τ4)) ∧ (¬ (σ 120 0) < 6 → Q (-1000000004) σ τ))) ∧ (¬ p1 < 25 → Q (-1000000002) σ τ)))) : SI l D b M_X11_bump 1 G0 [.ref (b + 0), .int p1, .int p2] σ τ Q := zS.of (by decide) (Nat.le_of_ble_eq_true rfl) rfl (w_X11_bump_0 p1 p2 σ τ h)

theorem dX11_write_0 : decode cX11_write 0 = .ok (.aload_n 0, 1) := by decide +kernel
theorem dX11_write_1 : decode cX11_write 1 = .ok (.getfield 33, 3) := by decide +kernel
theorem dX11_write_4 : decode cX11_write 4 = .ok (.iload_n 1, 1) := by decide +kernel
theorem dX11_write_5 : decode cX11_write 5 = .ok (.invokevirtual 160, 3) := by decide +kernel
theorem dX11_write_8 : decode cX11_write 8 = .ok (.ifCond .ne 6, 3) := by decide +kernel
theorem dX11_write_11 : decode cX11_write 11 = .ok (.ldc 164, 2) := by decide +kernel
theorem dX11_write_13 : decode cX11_write 13 = .ok (.ireturn, 1) := by decide +kernel
theorem dX11_write_14 : decode cX11_write 14 = .ok (.iload_n 2, 1) := by decide +kernel
theorem dX11_write_15 : decode cX11_write 15 = .ok (.ifCond .lt 10, 3) := by decide +kernel
theorem dX11_write_18 : decode cX11_write 18 = .ok (.iload_n 2, 1) := by decide +kernel
theorem dX11_write_19 : decode cX11_write 19 = .ok (.sipush 200, 3) := by decide +kernel
theorem dX11_write_22 : decode cX11_write 22 = .ok (.if_icmp .le 6, 3) := by decide +kernel
theorem dX11_write_25 : decode cX11_write 25 = .ok (.ldc 81, 2) := by decide +kernel
theorem dX11_write_27 : decode cX11_write 27 = .ok (.ireturn, 1) := by decide +kernel
theorem dX11_write_28 : decode cX11_write 28 = .ok (.aload_n 0, 1) := by decide +kernel
theorem dX11_write_29 : decode cX11_write 29 = .ok (.getfield 73, 3) := by decide +kernel
theorem dX11_write_32 : decode cX11_write 32 = .ok (.getfield 154, 3) := by decide +kernel
theorem dX11_write_35 : decode cX11_write 35 = .ok (.bipush 15, 2) := by decide +kernel
theorem dX11_write_37 : decode cX11_write 37 = .ok (.if_icmp .lt 6, 3) := by decide +kernel
theorem dX11_write_40 : decode cX11_write 40 = .ok (.ldc 85, 2) := by decide +kernel
theorem dX11_write_42 : decode cX11_write 42 = .ok (.ireturn, 1) := by decide +kernel
theorem dX11_write_43 : decode cX11_write 43 = .ok (.aload_n 0, 1) := by decide +kernel
theorem dX11_write_44 : decode cX11_write 44 = .ok (.getfield 73, 3) := by decide +kernel
theorem dX11_write_47 : decode cX11_write 47 = .ok (.iload_n 1, 1) := by decide +kernel
theorem dX11_write_48 : decode cX11_write 48 = .ok (.iload_n 2, 1) := by decide +kernel
theorem dX11_write_49 : decode cX11_write 49 = .ok (.invokevirtual 297, 3) := by decide +kernel
theorem dX11_write_52 : decode cX11_write 52 = .ok (.ireturn, 1) := by decide +kernel
theorem w_X11_write_0 {l : Launch} {D : zDD} {b : Nat} (p1 p2 : Int32) (σ : zSg) (τ : zLm) {Q : Int32 → zSg → zLm → Prop} (h : SI l D b M_X6_hasTrouble 0 G0 [.ref (b + 9), .int p1] σ τ (fun r1 σ1 τ1 => (¬ r1 = 0 → ((p2 < 0 → Q (-1000000002) σ1 τ1) ∧ (¬ p2 < 0 → ((p2 ≤ 200 → (((σ1 122 0) < 15 → SI l D b M_X0_add 0 G0 [.ref (b + 122), .int p1, .int p2] σ1 τ1 (fun r6 σ6 τ6 => Q r6 σ6 τ6)) ∧ (¬ (σ1 122 0) < 15 → Q (-1000000004) σ1 τ1))) ∧ (¬ p2 ≤ 200 → Q (-1000000002) σ1 τ1))))) ∧ (r1 = 0 → Q (-1000000001) σ1 τ1))) : AI l D b M_X11_write 1 G0 Q 0 [(0, .ref (b + 0)), (1, .int p1), (2, .int p2)] [] G0 σ τ := by
  refine r_aload_n 0 dX11_write_0 rfl rfl ?_
  refine r_getR (j := 3) (by decide) (congrArg Prod.fst k0_0) c12_10 (by decide) rfl g0_0_3 tw_287 dX11_write_1 ?_
  refine r_iload_n 1 dX11_write_4 rfl rfl ?_
  refine rc_VI (h' := 0) [.int p1] okv_X6_hasTrouble (by decide) (congrArg Prod.fst k0_9) tw_509 rfl rfl (Nat.le_of_ble_eq_true rfl) dX11_write_5 (by decide) h (fun r1 σ1 τ1 h => ?_)
  refine r_if_ne (tgt := 14) dX11_write_8 (by decide) (fun c2 => ?_) (fun c2 => ?_)
  · replace h := h.1 c2
    refine r_iload_n 2 dX11_write_14 rfl rfl ?_
    refine r_if_lt (tgt := 25) dX11_write_15 (by decide) (fun c3 => ?_) (fun c3 => ?_)
    · replace h := h.1 c3
      refine r_ldc (v := (-1000000002)) rfl tw_325 rfl dX11_write_25 ?_
      exact r_iret rfl (Nat.le_refl _) (Nat.le_refl _) dX11_write_27 ⟨rfl, rfl, rfl, _, rfl, h⟩
    · replace h := h.2 c3
      refine r_iload_n 2 dX11_write_18 rfl rfl ?_
      refine r_sipush dX11_write_19 cs_200 ?_
      refine r_icmp_le (tgt := 28) dX11_write_22 (by decide) (fun c4 => ?_) (fun c4 => ?_)
      · replace h := h.1 c4
        refine r_aload_n 0 dX11_write_28 rfl rfl ?_
        refine r_getR (j := 10) (by decide) (congrArg Prod.fst k0_0) c12_10 (by decide) rfl g0_0_10 tw_294 dX11_write_29 ?_
        refine r_getI (j := 0) (by decide) (congrArg Prod.fst k0_122) c12_0 (by decide) rfl tw_274 dX11_write_32 ?_
        refine r_bipush dX11_write_35 cb_15 ?_
        refine r_icmp_lt (tgt := 43) dX11_write_37 (by decide) (fun c5 => ?_) (fun c5 => ?_)
        · replace h := h.1 c5
          refine r_aload_n 0 dX11_write_43 rfl rfl ?_
          refine r_getR (j := 10) (by decide) (congrArg Prod.fst k0_0) c12_10 (by decide) rfl g0_0_10 tw_294 dX11_write_44 ?_
          refine r_iload_n 1 dX11_write_47 rfl rfl ?_
          refine r_iload_n 2 dX11_write_48 rfl rfl ?_
          refine rc_VI (h' := 0) [.int p1, .int p2] okv_X0_add (by decide) (congrArg Prod.fst k0_122) tw_768 rfl rfl (Nat.le_of_ble_eq_true rfl) dX11_write_49 (by decide) h (fun r6 σ6 τ6 h => ?_)
          exact r_iret rfl (Nat.le_refl _) (Nat.le_refl _) dX11_write_52 ⟨rfl, rfl, rfl, _, rfl, h⟩
        · replace h := h.2 c5
          refine r_ldc (v := (-1000000004)) rfl tw_326 rfl dX11_write_40 ?_
          exact r_iret rfl (Nat.le_refl _) (Nat.le_refl _) dX11_write_42 ⟨rfl, rfl, rfl, _, rfl, h⟩
      · replace h := h.2 c4
        refine r_ldc (v := (-1000000002)) rfl tw_325 rfl dX11_write_25 ?_
        exact r_iret rfl (Nat.le_refl _) (Nat.le_refl _) dX11_write_27 ⟨rfl, rfl, rfl, _, rfl, h⟩
  · replace h := h.2 c2
    refine r_ldc (v := (-1000000001)) rfl tw_513 rfl dX11_write_11 ?_
    exact r_iret rfl (Nat.le_refl _) (Nat.le_refl _) dX11_write_13 ⟨rfl, rfl, rfl, _, rfl, h⟩
theorem s_X11_write {l : Launch} {D : zDD} {b : Nat} (p1 p2 : Int32) (σ : zSg) (τ : zLm) {Q : Int32 → zSg → zLm → Prop} (h : SI l D b M_X6_hasTrouble 0 G0 [.ref (b + 9), .int p1] σ τ (fun r1 σ1 τ1 => (¬ r1 = 0 → ((p2 < 0 → Q (-1000000002) σ1 τ1) ∧ (¬ p2 < 0 → ((p2 ≤ 200 → (((σ1 122 0) < 15 → SI l D b M_X0_add 0 G0 [.ref (b + 122), .int p1, .int p2] σ1 τ1 (fun r6 σ6 τ6 => Q r6 σ6 τ6)) ∧ (¬ (σ1 122 0) < 15 → Q (-1000000004) σ1 τ1))) ∧ (¬ p2 ≤ 200 → Q (-1000000002) σ1 τ1))))) ∧ (r1 = 0 → Q (-1000000001) σ1 τ1))) : SI l D b M_X11_write 1 G0 [.ref (b + 0), .int p1, .int p2] σ τ Q := zS.of (by decide) (Nat.le_of_ble_eq_true rfl) rfl (w_X11_write_0 p1 p2 σ τ h)

theorem dX11_tear_0 : decode cX11_tear 0 = .ok (.aload_n 0, 1) := by decide +kernel
theorem dX11_tear_1 : decode cX11_tear 1 = .ok (.getfield 66, 3) := by decide +kernel
theorem dX11_tear_4 : decode cX11_tear 4 = .ok (.getfield 141, 3) := by decide +kernel
theorem dX11_tear_7 : decode cX11_tear 7 = .ok (.aload_n 0, 1) := by decide +kernel
theorem dX11_tear_8 : decode cX11_tear 8 = .ok (.getfield 73, 3) := by decide +kernel
theorem dX11_tear_11 : decode cX11_tear 11 = .ok (.getfield 154, 3) := by decide +kernel
theorem dX11_tear_14 : decode cX11_tear 14 = .ok (.iadd, 1) := by decide +kernel
theorem dX11_tear_15 : decode cX11_tear 15 = .ok (.istore_n 1, 1) := by decide +kernel
theorem dX11_tear_16 : decode cX11_tear 16 = .ok (.aload_n 0, 1) := by decide +kernel
theorem dX11_tear_17 : decode cX11_tear 17 = .ok (.getfield 66, 3) := by decide +kernel
theorem dX11_tear_20 : decode cX11_tear 20 = .ok (.invokevirtual 107, 3) := by decide +kernel
theorem dX11_tear_23 : decode cX11_tear 23 = .ok (.aload_n 0, 1) := by decide +kernel
theorem dX11_tear_24 : decode cX11_tear 24 = .ok (.getfield 73, 3) := by decide +kernel
theorem dX11_tear_27 : decode cX11_tear 27 = .ok (.invokevirtual 110, 3) := by decide +kernel
theorem dX11_tear_30 : decode cX11_tear 30 = .ok (.iload_n 1, 1) := by decide +kernel
theorem dX11_tear_31 : decode cX11_tear 31 = .ok (.ireturn, 1) := by decide +kernel
theorem w_X11_tear_0 {l : Launch} {D : zDD} {b : Nat} (σ : zSg) (τ : zLm) {Q : Int32 → zSg → zLm → Prop} (h : SV l D b M_X1_clear 0 G0 [.ref (b + 120)] σ τ (fun σ1 τ1 => SV l D b M_X0_clear 0 G0 [.ref (b + 122)] σ1 τ1 (fun σ2 τ2 => Q ((σ 120 0) + (σ 122 0)) σ2 τ2))) : AI l D b M_X11_tear 1 G0 Q 0 [(0, .ref (b + 0))] [] G0 σ τ := by
  refine r_aload_n 0 dX11_tear_0 rfl rfl ?_
  refine r_getR (j := 9) (by decide) (congrArg Prod.fst k0_0) c12_10 (by decide) rfl g0_0_9 tw_293 dX11_tear_1 ?_
  refine r_getI (j := 0) (by decide) (congrArg Prod.fst k0_120) c12_1 (by decide) rfl tw_248 dX11_tear_4 ?_
  refine r_aload_n 0 dX11_tear_7 rfl rfl ?_
  refine r_getR (j := 10) (by decide) (congrArg Prod.fst k0_0) c12_10 (by decide) rfl g0_0_10 tw_294 dX11_tear_8 ?_
  refine r_getI (j := 0) (by decide) (congrArg Prod.fst k0_122) c12_0 (by decide) rfl tw_274 dX11_tear_11 ?_
  refine r_iadd dX11_tear_14 ?_
  refine r_istore_n dX11_tear_15 rfl (by decide) rfl ?_
  refine r_aload_n 1 dX11_tear_16 rfl rfl ?_
  refine r_getR (j := 9) (by decide) (congrArg Prod.fst k0_0) c12_10 (by decide) rfl g0_0_9 tw_293 dX11_tear_17 ?_
  refine rc_VV (h' := 0) [] okv_X1_clear (by decide) (congrArg Prod.fst k0_120) tw_417 rfl rfl (Nat.le_of_ble_eq_true rfl) dX11_tear_20 (by decide) h (fun σ1 τ1 h => ?_)
  refine r_aload_n 1 dX11_tear_23 rfl rfl ?_
  refine r_getR (j := 10) (by decide) (congrArg Prod.fst k0_0) c12_10 (by decide) rfl g0_0_10 tw_294 dX11_tear_24 ?_
  refine rc_VV (h' := 0) [] okv_X0_clear (by decide) (congrArg Prod.fst k0_122) tw_421 rfl rfl (Nat.le_of_ble_eq_true rfl) dX11_tear_27 (by decide) h (fun σ2 τ2 h => ?_)
  refine r_iload_n 0 dX11_tear_30 rfl rfl ?_
  exact r_iret rfl (Nat.le_refl _) (Nat.le_refl _) dX11_tear_31 ⟨rfl, rfl, rfl, _, rfl, h⟩
theorem s_X11_tear {l : Launch} {D : zDD} {b : Nat} (σ : zSg) (τ : zLm) {Q : Int32 → zSg → zLm → Prop} (h : SV l D b M_X1_clear 0 G0 [.ref (b + 120)] σ τ (fun σ1 τ1 => SV l D b M_X0_clear 0 G0 [.ref (b + 122)] σ1 τ1 (fun σ2 τ2 => Q ((σ 120 0) + (σ 122 0)) σ2 τ2))) : SI l D b M_X11_tear 1 G0 [.ref (b + 0)] σ τ Q := zS.of (by decide) (Nat.le_of_ble_eq_true rfl) rfl (w_X11_tear_0 σ τ h)

theorem dX11_judge_0 : decode cX11_judge 0 = .ok (.aload_n 0, 1) := by decide +kernel
theorem dX11_judge_1 : decode cX11_judge 1 = .ok (.getfield 73, 3) := by decide +kernel
theorem dX11_judge_4 : decode cX11_judge 4 = .ok (.aload_n 0, 1) := by decide +kernel
theorem dX11_judge_5 : decode cX11_judge 5 = .ok (.getfield 38, 3) := by decide +kernel
theorem dX11_judge_8 : decode cX11_judge 8 = .ok (.invokevirtual 299, 3) := by decide +kernel
theorem dX11_judge_11 : decode cX11_judge 11 = .ok (.ireturn, 1) := by decide +kernel
theorem w_X11_judge_0 {l : Launch} {D : zDD} {b : Nat} (σ : zSg) (τ : zLm) {Q : Int32 → zSg → zLm → Prop} (h : SI l D b M_X0_firstWrong 0 G0 [.ref (b + 122), .ref (b + 14)] σ τ (fun r1 σ1 τ1 => Q r1 σ1 τ1)) : AI l D b M_X11_judge 1 G0 Q 0 [(0, .ref (b + 0))] [] G0 σ τ := by
  refine r_aload_n 0 dX11_judge_0 rfl rfl ?_
  refine r_getR (j := 10) (by decide) (congrArg Prod.fst k0_0) c12_10 (by decide) rfl g0_0_10 tw_294 dX11_judge_1 ?_
  refine r_aload_n 0 dX11_judge_4 rfl rfl ?_
  refine r_getR (j := 4) (by decide) (congrArg Prod.fst k0_0) c12_10 (by decide) rfl g0_0_4 tw_288 dX11_judge_5 ?_
  refine rc_VI (h' := 0) [.ref (b + 14)] okv_X0_firstWrong (by decide) (congrArg Prod.fst k0_122) tw_780 rfl rfl (Nat.le_of_ble_eq_true rfl) dX11_judge_8 (by decide) h (fun r1 σ1 τ1 h => ?_)
  exact r_iret rfl (Nat.le_refl _) (Nat.le_refl _) dX11_judge_11 ⟨rfl, rfl, rfl, _, rfl, h⟩
theorem s_X11_judge {l : Launch} {D : zDD} {b : Nat} (σ : zSg) (τ : zLm) {Q : Int32 → zSg → zLm → Prop} (h : SI l D b M_X0_firstWrong 0 G0 [.ref (b + 122), .ref (b + 14)] σ τ (fun r1 σ1 τ1 => Q r1 σ1 τ1)) : SI l D b M_X11_judge 1 G0 [.ref (b + 0)] σ τ Q := zS.of (by decide) (Nat.le_of_ble_eq_true rfl) rfl (w_X11_judge_0 σ τ h)

theorem dX11_trouble_0 : decode cX11_trouble 0 = .ok (.aload_n 0, 1) := by decide +kernel
theorem dX11_trouble_1 : decode cX11_trouble 1 = .ok (.getfield 33, 3) := by decide +kernel
theorem dX11_trouble_4 : decode cX11_trouble 4 = .ok (.iload_n 1, 1) := by decide +kernel
theorem dX11_trouble_5 : decode cX11_trouble 5 = .ok (.invokevirtual 160, 3) := by decide +kernel
theorem dX11_trouble_8 : decode cX11_trouble 8 = .ok (.ifCond .ne 6, 3) := by decide +kernel
theorem dX11_trouble_11 : decode cX11_trouble 11 = .ok (.ldc 164, 2) := by decide +kernel
theorem dX11_trouble_13 : decode cX11_trouble 13 = .ok (.ireturn, 1) := by decide +kernel
theorem dX11_trouble_14 : decode cX11_trouble 14 = .ok (.aload_n 0, 1) := by decide +kernel
theorem dX11_trouble_15 : decode cX11_trouble 15 = .ok (.getfield 38, 3) := by decide +kernel
theorem dX11_trouble_18 : decode cX11_trouble 18 = .ok (.getfield 165, 3) := by decide +kernel
theorem dX11_trouble_21 : decode cX11_trouble 21 = .ok (.iload_n 1, 1) := by decide +kernel
theorem dX11_trouble_22 : decode cX11_trouble 22 = .ok (.iaload, 1) := by decide +kernel
theorem dX11_trouble_23 : decode cX11_trouble 23 = .ok (.istore_n 3, 1) := by decide +kernel
theorem dX11_trouble_24 : decode cX11_trouble 24 = .ok (.iload_n 2, 1) := by decide +kernel
theorem dX11_trouble_25 : decode cX11_trouble 25 = .ok (.tableswitch 120 0 8 #[51, 61, 71, 73, 83, 88, 93, 98, 103], 51) := by decide +kernel
theorem dX11_trouble_76 : decode cX11_trouble 76 = .ok (.aload_n 0, 1) := by decide +kernel
theorem dX11_trouble_77 : decode cX11_trouble 77 = .ok (.getfield 33, 3) := by decide +kernel
theorem dX11_trouble_80 : decode cX11_trouble 80 = .ok (.getfield 169, 3) := by decide +kernel
theorem dX11_trouble_83 : decode cX11_trouble 83 = .ok (.iload_n 1, 1) := by decide +kernel
theorem dX11_trouble_84 : decode cX11_trouble 84 = .ok (.iaload, 1) := by decide +kernel
theorem dX11_trouble_85 : decode cX11_trouble 85 = .ok (.ireturn, 1) := by decide +kernel
theorem dX11_trouble_86 : decode cX11_trouble 86 = .ok (.aload_n 0, 1) := by decide +kernel
theorem dX11_trouble_87 : decode cX11_trouble 87 = .ok (.getfield 38, 3) := by decide +kernel
theorem dX11_trouble_90 : decode cX11_trouble 90 = .ok (.getfield 172, 3) := by decide +kernel
theorem dX11_trouble_93 : decode cX11_trouble 93 = .ok (.iload_n 1, 1) := by decide +kernel
theorem dX11_trouble_94 : decode cX11_trouble 94 = .ok (.iaload, 1) := by decide +kernel
theorem dX11_trouble_95 : decode cX11_trouble 95 = .ok (.ireturn, 1) := by decide +kernel
theorem dX11_trouble_96 : decode cX11_trouble 96 = .ok (.iload_n 3, 1) := by decide +kernel
theorem dX11_trouble_97 : decode cX11_trouble 97 = .ok (.ireturn, 1) := by decide +kernel
theorem dX11_trouble_98 : decode cX11_trouble 98 = .ok (.aload_n 0, 1) := by decide +kernel
theorem dX11_trouble_99 : decode cX11_trouble 99 = .ok (.getfield 38, 3) := by decide +kernel
theorem dX11_trouble_102 : decode cX11_trouble 102 = .ok (.getfield 175, 3) := by decide +kernel
theorem dX11_trouble_105 : decode cX11_trouble 105 = .ok (.iload_n 1, 1) := by decide +kernel
theorem dX11_trouble_106 : decode cX11_trouble 106 = .ok (.iaload, 1) := by decide +kernel
theorem dX11_trouble_107 : decode cX11_trouble 107 = .ok (.ireturn, 1) := by decide +kernel
theorem dX11_trouble_108 : decode cX11_trouble 108 = .ok (.iload_n 3, 1) := by decide +kernel
theorem dX11_trouble_109 : decode cX11_trouble 109 = .ok (.invokestatic 178, 3) := by decide +kernel
theorem dX11_trouble_112 : decode cX11_trouble 112 = .ok (.ireturn, 1) := by decide +kernel
theorem dX11_trouble_113 : decode cX11_trouble 113 = .ok (.iload_n 3, 1) := by decide +kernel
theorem dX11_trouble_114 : decode cX11_trouble 114 = .ok (.invokestatic 183, 3) := by decide +kernel
theorem dX11_trouble_117 : decode cX11_trouble 117 = .ok (.ireturn, 1) := by decide +kernel
theorem dX11_trouble_118 : decode cX11_trouble 118 = .ok (.iload_n 3, 1) := by decide +kernel
theorem dX11_trouble_119 : decode cX11_trouble 119 = .ok (.invokestatic 186, 3) := by decide +kernel
theorem dX11_trouble_122 : decode cX11_trouble 122 = .ok (.ireturn, 1) := by decide +kernel
theorem dX11_trouble_123 : decode cX11_trouble 123 = .ok (.iload_n 3, 1) := by decide +kernel
theorem dX11_trouble_124 : decode cX11_trouble 124 = .ok (.invokestatic 189, 3) := by decide +kernel
theorem dX11_trouble_127 : decode cX11_trouble 127 = .ok (.ireturn, 1) := by decide +kernel
theorem dX11_trouble_128 : decode cX11_trouble 128 = .ok (.aload_n 0, 1) := by decide +kernel
theorem dX11_trouble_129 : decode cX11_trouble 129 = .ok (.getfield 26, 3) := by decide +kernel
theorem dX11_trouble_132 : decode cX11_trouble 132 = .ok (.iload_n 1, 1) := by decide +kernel
theorem dX11_trouble_133 : decode cX11_trouble 133 = .ok (.invokevirtual 192, 3) := by decide +kernel
theorem dX11_trouble_136 : decode cX11_trouble 136 = .ok (.ifCond .eq 7, 3) := by decide +kernel
theorem dX11_trouble_139 : decode cX11_trouble 139 = .ok (.iconst 1, 1) := by decide +kernel
theorem dX11_trouble_140 : decode cX11_trouble 140 = .ok (.goto 4, 3) := by decide +kernel
theorem dX11_trouble_143 : decode cX11_trouble 143 = .ok (.iconst 0, 1) := by decide +kernel
theorem dX11_trouble_144 : decode cX11_trouble 144 = .ok (.ireturn, 1) := by decide +kernel
theorem dX11_trouble_145 : decode cX11_trouble 145 = .ok (.ldc 81, 2) := by decide +kernel
theorem dX11_trouble_147 : decode cX11_trouble 147 = .ok (.ireturn, 1) := by decide +kernel
theorem w_X11_trouble_0 {l : Launch} {D : zDD} {b : Nat} (p1 p2 : Int32) (σ : zSg) (τ : zLm) {Q : Int32 → zSg → zLm → Prop} (h : SI l D b M_X6_hasTrouble 0 G0 [.ref (b + 9), .int p1] σ τ (fun r1 σ1 τ1 => (¬ r1 = 0 → (vp_in p1 6 ∧ (((p2.toInt < 0 ∨ (8 : Int) < p2.toInt) → Q (-1000000002) σ1 τ1) ∧ (p2 = 0 → (vp_in p1 6 ∧ Q (σ1 10 p1.toNatClampNeg) σ1 τ1)) ∧ (p2 = 1 → (vp_in p1 6 ∧ Q (σ1 16 p1.toNatClampNeg) σ1 τ1)) ∧ (p2 = 2 → Q (σ1 17 p1.toNatClampNeg) σ1 τ1) ∧ (p2 = 3 → (vp_in p1 6 ∧ Q (σ1 15 p1.toNatClampNeg) σ1 τ1)) ∧ (p2 = 4 → SI l D b M_X9_parts 2 G0 [.int (σ1 17 p1.toNatClampNeg)] σ1 τ1 (fun r3 σ3 τ3 => Q r3 σ3 τ3)) ∧ (p2 = 5 → SI l D b M_X9_greatestPart 2 G0 [.int (σ1 17 p1.toNatClampNeg)] σ1 τ1 (fun r4 σ4 τ4 => Q r4 σ4 τ4)) ∧ (p2 = 6 → SI l D b M_X9_edge 1 G0 [.int (σ1 17 p1.toNatClampNeg)] σ1 τ1 (fun r5 σ5 τ5 => Q r5 σ5 τ5)) ∧ (p2 = 7 → SI l D b M_X9_hold 2 G0 [.int (σ1 17 p1.toNatClampNeg)] σ1 τ1 (fun r6 σ6 τ6 => Q r6 σ6 τ6)) ∧ (p2 = 8 → (SI l D b M_X2_isBearable 2 G0 [.ref (b + 8), .int p1] σ1 τ1 (fun r7 σ7 τ7 => (r7 = 0 → Q 0 σ7 τ7) ∧ (¬ r7 = 0 → Q 1 σ7 τ7))))))) ∧ (r1 = 0 → Q (-1000000001) σ1 τ1))) : AI l D b M_X11_trouble 3 G0 Q 0 [(0, .ref (b + 0)), (1, .int p1), (2, .int p2)] [] G0 σ τ := by
  refine r_aload_n 0 dX11_trouble_0 rfl rfl ?_
  refine r_getR (j := 3) (by decide) (congrArg Prod.fst k0_0) c12_10 (by decide) rfl g0_0_3 tw_287 dX11_trouble_1 ?_
  refine r_iload_n 1 dX11_trouble_4 rfl rfl ?_
  refine rc_VI (h' := 0) [.int p1] okv_X6_hasTrouble (by decide) (congrArg Prod.fst k0_9) tw_509 rfl rfl (Nat.le_of_ble_eq_true rfl) dX11_trouble_5 (by decide) h (fun r1 σ1 τ1 h => ?_)
  refine r_if_ne (tgt := 14) dX11_trouble_8 (by decide) (fun c2 => ?_) (fun c2 => ?_)
  · replace h := h.1 c2
    refine r_aload_n 0 dX11_trouble_14 rfl rfl ?_
    refine r_getR (j := 4) (by decide) (congrArg Prod.fst k0_0) c12_10 (by decide) rfl g0_0_4 tw_288 dX11_trouble_15 ?_
    refine r_getR (j := 4) (by decide) (congrArg Prod.fst k0_14) c12_8 (by decide) rfl g0_14_4 tw_129 dX11_trouble_18 ?_
    refine r_iload_n 1 dX11_trouble_21 rfl rfl ?_
    refine r_iald (by decide) k0_17 dX11_trouble_22 h.1 ?_
    replace h := h.2
    refine r_istore_n dX11_trouble_23 rfl (by decide) rfl ?_
    refine r_iload_n 3 dX11_trouble_24 rfl rfl ?_
    by_cases ho : p2.toInt < 0 ∨ (8 : Int) < p2.toInt
    · replace h := h.1 ho
      refine r_tableOut (tgt := 145) dX11_trouble_25 ho (by decide) ?_
      refine r_ldc (v := (-1000000002)) rfl tw_325 rfl dX11_trouble_145 ?_
      exact r_iret rfl (Nat.le_refl _) (Nat.le_refl _) dX11_trouble_147 ⟨rfl, rfl, rfl, _, rfl, h⟩
    · replace h := h.2
      rcases sw_8 ho with e9 | e9 | e9 | e9 | e9 | e9 | e9 | e9 | e9
      · replace h := h.1 e9
        refine r_tableIn (tgt := 76) (off := 51) dX11_trouble_25 (by rw [e9]; decide) (by rw [e9]; decide) (by rw [e9]; rfl) (by decide) ?_
        refine r_aload_n 1 dX11_trouble_76 rfl rfl ?_
        refine r_getR (j := 3) (by decide) (congrArg Prod.fst k0_0) c12_10 (by decide) rfl g0_0_3 tw_287 dX11_trouble_77 ?_
        refine r_getR (j := 4) (by decide) (congrArg Prod.fst k0_9) c12_6 (by decide) rfl g0_9_4 tw_74 dX11_trouble_80 ?_
        refine r_iload_n 2 dX11_trouble_83 rfl rfl ?_
        refine r_iald (by decide) k0_10 dX11_trouble_84 h.1 ?_
        replace h := h.2
        exact r_iret rfl (Nat.le_refl _) (Nat.le_refl _) dX11_trouble_85 ⟨rfl, rfl, rfl, _, rfl, h⟩
      · replace h := h.2.1 e9
        refine r_tableIn (tgt := 86) (off := 61) dX11_trouble_25 (by rw [e9]; decide) (by rw [e9]; decide) (by rw [e9]; rfl) (by decide) ?_
        refine r_aload_n 1 dX11_trouble_86 rfl rfl ?_
        refine r_getR (j := 4) (by decide) (congrArg Prod.fst k0_0) c12_10 (by decide) rfl g0_0_4 tw_288 dX11_trouble_87 ?_
        refine r_getR (j := 3) (by decide) (congrArg Prod.fst k0_14) c12_8 (by decide) rfl g0_14_3 tw_126 dX11_trouble_90 ?_
        refine r_iload_n 2 dX11_trouble_93 rfl rfl ?_
        refine r_iald (by decide) k0_16 dX11_trouble_94 h.1 ?_
        replace h := h.2
        exact r_iret rfl (Nat.le_refl _) (Nat.le_refl _) dX11_trouble_95 ⟨rfl, rfl, rfl, _, rfl, h⟩
      · replace h := h.2.2.1 e9
        refine r_tableIn (tgt := 96) (off := 71) dX11_trouble_25 (by rw [e9]; decide) (by rw [e9]; decide) (by rw [e9]; rfl) (by decide) ?_
        refine r_iload_n 0 dX11_trouble_96 rfl rfl ?_
        exact r_iret rfl (Nat.le_refl _) (Nat.le_refl _) dX11_trouble_97 ⟨rfl, rfl, rfl, _, rfl, h⟩
      · replace h := h.2.2.2.1 e9
        refine r_tableIn (tgt := 98) (off := 73) dX11_trouble_25 (by rw [e9]; decide) (by rw [e9]; decide) (by rw [e9]; rfl) (by decide) ?_
        refine r_aload_n 1 dX11_trouble_98 rfl rfl ?_
        refine r_getR (j := 4) (by decide) (congrArg Prod.fst k0_0) c12_10 (by decide) rfl g0_0_4 tw_288 dX11_trouble_99 ?_
        refine r_getR (j := 2) (by decide) (congrArg Prod.fst k0_14) c12_8 (by decide) rfl g0_14_2 tw_122 dX11_trouble_102 ?_
        refine r_iload_n 2 dX11_trouble_105 rfl rfl ?_
        refine r_iald (by decide) k0_15 dX11_trouble_106 h.1 ?_
        replace h := h.2
        exact r_iret rfl (Nat.le_refl _) (Nat.le_refl _) dX11_trouble_107 ⟨rfl, rfl, rfl, _, rfl, h⟩
      · replace h := h.2.2.2.2.1 e9
        refine r_tableIn (tgt := 108) (off := 83) dX11_trouble_25 (by rw [e9]; decide) (by rw [e9]; decide) (by rw [e9]; rfl) (by decide) ?_
        refine r_iload_n 0 dX11_trouble_108 rfl rfl ?_
        refine rc_SI (h' := 2) [.int (σ1 17 p1.toNatClampNeg)] oks_X9_parts tw_514 rfl rfl (Nat.le_of_ble_eq_true rfl) dX11_trouble_109 (by decide) h (fun r3 σ3 τ3 h => ?_)
        exact r_iret rfl (Nat.le_refl _) (Nat.le_refl _) dX11_trouble_112 ⟨rfl, rfl, rfl, _, rfl, h⟩
      · replace h := h.2.2.2.2.2.1 e9
        refine r_tableIn (tgt := 113) (off := 88) dX11_trouble_25 (by rw [e9]; decide) (by rw [e9]; decide) (by rw [e9]; rfl) (by decide) ?_
        refine r_iload_n 0 dX11_trouble_113 rfl rfl ?_
        refine rc_SI (h' := 2) [.int (σ1 17 p1.toNatClampNeg)] oks_X9_greatestPart tw_526 rfl rfl (Nat.le_of_ble_eq_true rfl) dX11_trouble_114 (by decide) h (fun r4 σ4 τ4 h => ?_)
        exact r_iret rfl (Nat.le_refl _) (Nat.le_refl _) dX11_trouble_117 ⟨rfl, rfl, rfl, _, rfl, h⟩
      · replace h := h.2.2.2.2.2.2.1 e9
        refine r_tableIn (tgt := 118) (off := 93) dX11_trouble_25 (by rw [e9]; decide) (by rw [e9]; decide) (by rw [e9]; rfl) (by decide) ?_
        refine r_iload_n 0 dX11_trouble_118 rfl rfl ?_
        refine rc_SI (h' := 1) [.int (σ1 17 p1.toNatClampNeg)] oks_X9_edge tw_536 rfl rfl (Nat.le_of_ble_eq_true rfl) dX11_trouble_119 (by decide) h (fun r5 σ5 τ5 h => ?_)
        exact r_iret rfl (Nat.le_refl _) (Nat.le_refl _) dX11_trouble_122 ⟨rfl, rfl, rfl, _, rfl, h⟩
      · replace h := h.2.2.2.2.2.2.2.1 e9
        refine r_tableIn (tgt := 123) (off := 98) dX11_trouble_25 (by rw [e9]; decide) (by rw [e9]; decide) (by rw [e9]; rfl) (by decide) ?_
        refine r_iload_n 0 dX11_trouble_123 rfl rfl ?_
        refine rc_SI (h' := 2) [.int (σ1 17 p1.toNatClampNeg)] oks_X9_hold tw_539 rfl rfl (Nat.le_of_ble_eq_true rfl) dX11_trouble_124 (by decide) h (fun r6 σ6 τ6 h => ?_)
        exact r_iret rfl (Nat.le_refl _) (Nat.le_refl _) dX11_trouble_127 ⟨rfl, rfl, rfl, _, rfl, h⟩
      · replace h := h.2.2.2.2.2.2.2.2 e9
        refine r_tableIn (tgt := 128) (off := 103) dX11_trouble_25 (by rw [e9]; decide) (by rw [e9]; decide) (by rw [e9]; rfl) (by decide) ?_
        refine r_aload_n 1 dX11_trouble_128 rfl rfl ?_
        refine r_getR (j := 2) (by decide) (congrArg Prod.fst k0_0) c12_10 (by decide) rfl g0_0_2 tw_286 dX11_trouble_129 ?_
        refine r_iload_n 2 dX11_trouble_132 rfl rfl ?_
        refine rc_VI (h' := 2) [.int p1] okv_X2_isBearable (by decide) (congrArg Prod.fst k0_8) tw_545 rfl rfl (Nat.le_of_ble_eq_true rfl) dX11_trouble_133 (by decide) h (fun r7 σ7 τ7 h => ?_)
        refine r_if_eq (tgt := 143) dX11_trouble_136 (by decide) (fun c8 => ?_) (fun c8 => ?_)
        · replace h := h.1 c8
          refine r_iconst dX11_trouble_143 ci_0 ?_
          exact r_iret rfl (Nat.le_refl _) (Nat.le_refl _) dX11_trouble_144 ⟨rfl, rfl, rfl, _, rfl, h⟩
        · replace h := h.2 c8
          refine r_iconst dX11_trouble_139 ci_1 ?_
          refine r_goto (tgt := 144) dX11_trouble_140 (by decide) ?_
          exact r_iret rfl (Nat.le_refl _) (Nat.le_refl _) dX11_trouble_144 ⟨rfl, rfl, rfl, _, rfl, h⟩
  · replace h := h.2 c2
    refine r_ldc (v := (-1000000001)) rfl tw_513 rfl dX11_trouble_11 ?_
    exact r_iret rfl (Nat.le_refl _) (Nat.le_refl _) dX11_trouble_13 ⟨rfl, rfl, rfl, _, rfl, h⟩
theorem s_X11_trouble {l : Launch} {D : zDD} {b : Nat} (p1 p2 : Int32) (σ : zSg) (τ : zLm) {Q : Int32 → zSg → zLm → Prop} (h : SI l D b M_X6_hasTrouble 0 G0 [.ref (b + 9), .int p1] σ τ (fun r1 σ1 τ1 => (¬ r1 = 0 → (vp_in p1 6 ∧ (((p2.toInt < 0 ∨ (8 : Int) < p2.toInt) → Q (-1000000002) σ1 τ1) ∧ (p2 = 0 → (vp_in p1 6 ∧ Q (σ1 10 p1.toNatClampNeg) σ1 τ1)) ∧ (p2 = 1 → (vp_in p1 6 ∧ Q (σ1 16 p1.toNatClampNeg) σ1 τ1)) ∧ (p2 = 2 → Q (σ1 17 p1.toNatClampNeg) σ1 τ1) ∧ (p2 = 3 → (vp_in p1 6 ∧ Q (σ1 15 p1.toNatClampNeg) σ1 τ1)) ∧ (p2 = 4 → SI l D b M_X9_parts 2 G0 [.int (σ1 17 p1.toNatClampNeg)] σ1 τ1 (fun r3 σ3 τ3 => Q r3 σ3 τ3)) ∧ (p2 = 5 → SI l D b M_X9_greatestPart 2 G0 [.int (σ1 17 p1.toNatClampNeg)] σ1 τ1 (fun r4 σ4 τ4 => Q r4 σ4 τ4)) ∧ (p2 = 6 → SI l D b M_X9_edge 1 G0 [.int (σ1 17 p1.toNatClampNeg)] σ1 τ1 (fun r5 σ5 τ5 => Q r5 σ5 τ5)) ∧ (p2 = 7 → SI l D b M_X9_hold 2 G0 [.int (σ1 17 p1.toNatClampNeg)] σ1 τ1 (fun r6 σ6 τ6 => Q r6 σ6 τ6)) ∧ (p2 = 8 → (SI l D b M_X2_isBearable 2 G0 [.ref (b + 8), .int p1] σ1 τ1 (fun r7 σ7 τ7 => (r7 = 0 → Q 0 σ7 τ7) ∧ (¬ r7 = 0 → Q 1 σ7 τ7))))))) ∧ (r1 = 0 → Q (-1000000001) σ1 τ1))) : SI l D b M_X11_trouble 3 G0 [.ref (b + 0), .int p1, .int p2] σ τ Q := zS.of (by decide) (Nat.le_of_ble_eq_true rfl) rfl (w_X11_trouble_0 p1 p2 σ τ h)

theorem dX11_putOn_0 : decode cX11_putOn 0 = .ok (.aload_n 0, 1) := by decide +kernel
theorem dX11_putOn_1 : decode cX11_putOn 1 = .ok (.getfield 33, 3) := by decide +kernel
theorem dX11_putOn_4 : decode cX11_putOn 4 = .ok (.iload_n 1, 1) := by decide +kernel
theorem dX11_putOn_5 : decode cX11_putOn 5 = .ok (.invokevirtual 160, 3) := by decide +kernel
theorem dX11_putOn_8 : decode cX11_putOn 8 = .ok (.ifCond .ne 6, 3) := by decide +kernel
theorem dX11_putOn_11 : decode cX11_putOn 11 = .ok (.ldc 164, 2) := by decide +kernel
theorem dX11_putOn_13 : decode cX11_putOn 13 = .ok (.ireturn, 1) := by decide +kernel
theorem dX11_putOn_14 : decode cX11_putOn 14 = .ok (.aload_n 0, 1) := by decide +kernel
theorem dX11_putOn_15 : decode cX11_putOn 15 = .ok (.getfield 38, 3) := by decide +kernel
theorem dX11_putOn_18 : decode cX11_putOn 18 = .ok (.getfield 175, 3) := by decide +kernel
theorem dX11_putOn_21 : decode cX11_putOn 21 = .ok (.iload_n 1, 1) := by decide +kernel
theorem dX11_putOn_22 : decode cX11_putOn 22 = .ok (.iaload, 1) := by decide +kernel
theorem dX11_putOn_23 : decode cX11_putOn 23 = .ok (.iconst 1, 1) := by decide +kernel
theorem dX11_putOn_24 : decode cX11_putOn 24 = .ok (.if_icmp .eq 6, 3) := by decide +kernel
theorem dX11_putOn_27 : decode cX11_putOn 27 = .ok (.ldc 207, 2) := by decide +kernel
theorem dX11_putOn_29 : decode cX11_putOn 29 = .ok (.ireturn, 1) := by decide +kernel
theorem dX11_putOn_30 : decode cX11_putOn 30 = .ok (.aload_n 0, 1) := by decide +kernel
theorem dX11_putOn_31 : decode cX11_putOn 31 = .ok (.getfield 26, 3) := by decide +kernel
theorem dX11_putOn_34 : decode cX11_putOn 34 = .ok (.invokevirtual 215, 3) := by decide +kernel
theorem dX11_putOn_37 : decode cX11_putOn 37 = .ok (.ifCond .gt 6, 3) := by decide +kernel
theorem dX11_putOn_40 : decode cX11_putOn 40 = .ok (.ldc 85, 2) := by decide +kernel
theorem dX11_putOn_42 : decode cX11_putOn 42 = .ok (.ireturn, 1) := by decide +kernel
theorem dX11_putOn_43 : decode cX11_putOn 43 = .ok (.aload_n 0, 1) := by decide +kernel
theorem dX11_putOn_44 : decode cX11_putOn 44 = .ok (.getfield 52, 3) := by decide +kernel
theorem dX11_putOn_47 : decode cX11_putOn 47 = .ok (.aload_n 0, 1) := by decide +kernel
theorem dX11_putOn_48 : decode cX11_putOn 48 = .ok (.getfield 38, 3) := by decide +kernel
theorem dX11_putOn_51 : decode cX11_putOn 51 = .ok (.invokevirtual 208, 3) := by decide +kernel
theorem dX11_putOn_54 : decode cX11_putOn 54 = .ok (.aload_n 0, 1) := by decide +kernel
theorem dX11_putOn_55 : decode cX11_putOn 55 = .ok (.getfield 38, 3) := by decide +kernel
theorem dX11_putOn_58 : decode cX11_putOn 58 = .ok (.getfield 175, 3) := by decide +kernel
theorem dX11_putOn_61 : decode cX11_putOn 61 = .ok (.iload_n 1, 1) := by decide +kernel
theorem dX11_putOn_62 : decode cX11_putOn 62 = .ok (.iconst 2, 1) := by decide +kernel
theorem dX11_putOn_63 : decode cX11_putOn 63 = .ok (.iastore, 1) := by decide +kernel
theorem dX11_putOn_64 : decode cX11_putOn 64 = .ok (.aload_n 0, 1) := by decide +kernel
theorem dX11_putOn_65 : decode cX11_putOn 65 = .ok (.getfield 26, 3) := by decide +kernel
theorem dX11_putOn_68 : decode cX11_putOn 68 = .ok (.invokevirtual 215, 3) := by decide +kernel
theorem dX11_putOn_71 : decode cX11_putOn 71 = .ok (.ireturn, 1) := by decide +kernel
theorem w_X11_putOn_0 {l : Launch} {D : zDD} {b : Nat} (p1 : Int32) (σ : zSg) (τ : zLm) {Q : Int32 → zSg → zLm → Prop} (h : SI l D b M_X6_hasTrouble 0 G0 [.ref (b + 9), .int p1] σ τ (fun r1 σ1 τ1 => (¬ r1 = 0 → (vp_in p1 6 ∧ (((σ1 15 p1.toNatClampNeg) = 1 → (SI l D b M_X2_freePots 1 G0 [.ref (b + 8)] σ1 τ1 (fun r4 σ4 τ4 => (0 < r4 → (SV l D b M_X5_remember 2 G0 [.ref (b + 23), .ref (b + 14)] σ4 τ4 (fun σ6 τ6 => vp_in p1 6 ∧ SI l D b M_X2_freePots 1 G0 [.ref (b + 8)] (st2 σ6 15 p1.toNatClampNeg 2) τ6 (fun r7 σ7 τ7 => Q r7 σ7 τ7)))) ∧ (¬ 0 < r4 → Q (-1000000004) σ4 τ4)))) ∧ (¬ (σ1 15 p1.toNatClampNeg) = 1 → Q (-1000000003) σ1 τ1)))) ∧ (r1 = 0 → Q (-1000000001) σ1 τ1))) : AI l D b M_X11_putOn 3 G0 Q 0 [(0, .ref (b + 0)), (1, .int p1)] [] G0 σ τ := by
  refine r_aload_n 0 dX11_putOn_0 rfl rfl ?_
  refine r_getR (j := 3) (by decide) (congrArg Prod.fst k0_0) c12_10 (by decide) rfl g0_0_3 tw_287 dX11_putOn_1 ?_
  refine r_iload_n 1 dX11_putOn_4 rfl rfl ?_
  refine rc_VI (h' := 0) [.int p1] okv_X6_hasTrouble (by decide) (congrArg Prod.fst k0_9) tw_509 rfl rfl (Nat.le_of_ble_eq_true rfl) dX11_putOn_5 (by decide) h (fun r1 σ1 τ1 h => ?_)
  refine r_if_ne (tgt := 14) dX11_putOn_8 (by decide) (fun c2 => ?_) (fun c2 => ?_)
  · replace h := h.1 c2
    refine r_aload_n 0 dX11_putOn_14 rfl rfl ?_
    refine r_getR (j := 4) (by decide) (congrArg Prod.fst k0_0) c12_10 (by decide) rfl g0_0_4 tw_288 dX11_putOn_15 ?_
    refine r_getR (j := 2) (by decide) (congrArg Prod.fst k0_14) c12_8 (by decide) rfl g0_14_2 tw_122 dX11_putOn_18 ?_
    refine r_iload_n 1 dX11_putOn_21 rfl rfl ?_
    refine r_iald (by decide) k0_15 dX11_putOn_22 h.1 ?_
    replace h := h.2
    refine r_iconst dX11_putOn_23 ci_1 ?_
    refine r_icmp_eq (tgt := 30) dX11_putOn_24 (by decide) (fun c3 => ?_) (fun c3 => ?_)
    · replace h := h.1 c3
      refine r_aload_n 0 dX11_putOn_30 rfl rfl ?_
      refine r_getR (j := 2) (by decide) (congrArg Prod.fst k0_0) c12_10 (by decide) rfl g0_0_2 tw_286 dX11_putOn_31 ?_
      refine rc_VI (h' := 1) [] okv_X2_freePots (by decide) (congrArg Prod.fst k0_8) tw_605 rfl rfl (Nat.le_of_ble_eq_true rfl) dX11_putOn_34 (by decide) h (fun r4 σ4 τ4 h => ?_)
      refine r_if_gt (tgt := 43) dX11_putOn_37 (by decide) (fun c5 => ?_) (fun c5 => ?_)
      · replace h := h.1 c5
        refine r_aload_n 0 dX11_putOn_43 rfl rfl ?_
        refine r_getR (j := 7) (by decide) (congrArg Prod.fst k0_0) c12_10 (by decide) rfl g0_0_7 tw_291 dX11_putOn_44 ?_
        refine r_aload_n 0 dX11_putOn_47 rfl rfl ?_
        refine r_getR (j := 4) (by decide) (congrArg Prod.fst k0_0) c12_10 (by decide) rfl g0_0_4 tw_288 dX11_putOn_48 ?_
        refine rc_VV (h' := 2) [.ref (b + 14)] okv_X5_remember (by decide) (congrArg Prod.fst k0_23) tw_573 rfl rfl (Nat.le_of_ble_eq_true rfl) dX11_putOn_51 (by decide) h (fun σ6 τ6 h => ?_)
        refine r_aload_n 0 dX11_putOn_54 rfl rfl ?_
        refine r_getR (j := 4) (by decide) (congrArg Prod.fst k0_0) c12_10 (by decide) rfl g0_0_4 tw_288 dX11_putOn_55 ?_
        refine r_getR (j := 2) (by decide) (congrArg Prod.fst k0_14) c12_8 (by decide) rfl g0_14_2 tw_122 dX11_putOn_58 ?_
        refine r_iload_n 1 dX11_putOn_61 rfl rfl ?_
        refine r_iconst dX11_putOn_62 ci_2 ?_
        refine r_iast (by decide) k0_15 dX11_putOn_63 h.1 ?_
        replace h := h.2
        refine r_aload_n 0 dX11_putOn_64 rfl rfl ?_
        refine r_getR (j := 2) (by decide) (congrArg Prod.fst k0_0) c12_10 (by decide) rfl g0_0_2 tw_286 dX11_putOn_65 ?_
        refine rc_VI (h' := 1) [] okv_X2_freePots (by decide) (congrArg Prod.fst k0_8) tw_605 rfl rfl (Nat.le_of_ble_eq_true rfl) dX11_putOn_68 (by decide) h (fun r7 σ7 τ7 h => ?_)
        exact r_iret rfl (Nat.le_refl _) (Nat.le_refl _) dX11_putOn_71 ⟨rfl, rfl, rfl, _, rfl, h⟩
      · replace h := h.2 c5
        refine r_ldc (v := (-1000000004)) rfl tw_326 rfl dX11_putOn_40 ?_
        exact r_iret rfl (Nat.le_refl _) (Nat.le_refl _) dX11_putOn_42 ⟨rfl, rfl, rfl, _, rfl, h⟩
    · replace h := h.2 c3
      refine r_ldc (v := (-1000000003)) rfl tw_572 rfl dX11_putOn_27 ?_
      exact r_iret rfl (Nat.le_refl _) (Nat.le_refl _) dX11_putOn_29 ⟨rfl, rfl, rfl, _, rfl, h⟩
  · replace h := h.2 c2
    refine r_ldc (v := (-1000000001)) rfl tw_513 rfl dX11_putOn_11 ?_
    exact r_iret rfl (Nat.le_refl _) (Nat.le_refl _) dX11_putOn_13 ⟨rfl, rfl, rfl, _, rfl, h⟩
theorem s_X11_putOn {l : Launch} {D : zDD} {b : Nat} (p1 : Int32) (σ : zSg) (τ : zLm) {Q : Int32 → zSg → zLm → Prop} (h : SI l D b M_X6_hasTrouble 0 G0 [.ref (b + 9), .int p1] σ τ (fun r1 σ1 τ1 => (¬ r1 = 0 → (vp_in p1 6 ∧ (((σ1 15 p1.toNatClampNeg) = 1 → (SI l D b M_X2_freePots 1 G0 [.ref (b + 8)] σ1 τ1 (fun r4 σ4 τ4 => (0 < r4 → (SV l D b M_X5_remember 2 G0 [.ref (b + 23), .ref (b + 14)] σ4 τ4 (fun σ6 τ6 => vp_in p1 6 ∧ SI l D b M_X2_freePots 1 G0 [.ref (b + 8)] (st2 σ6 15 p1.toNatClampNeg 2) τ6 (fun r7 σ7 τ7 => Q r7 σ7 τ7)))) ∧ (¬ 0 < r4 → Q (-1000000004) σ4 τ4)))) ∧ (¬ (σ1 15 p1.toNatClampNeg) = 1 → Q (-1000000003) σ1 τ1)))) ∧ (r1 = 0 → Q (-1000000001) σ1 τ1))) : SI l D b M_X11_putOn 3 G0 [.ref (b + 0), .int p1] σ τ Q := zS.of (by decide) (Nat.le_of_ble_eq_true rfl) rfl (w_X11_putOn_0 p1 σ τ h)

theorem dX11_takeOff_0 : decode cX11_takeOff 0 = .ok (.aload_n 0, 1) := by decide +kernel
theorem dX11_takeOff_1 : decode cX11_takeOff 1 = .ok (.getfield 33, 3) := by decide +kernel
theorem dX11_takeOff_4 : decode cX11_takeOff 4 = .ok (.iload_n 1, 1) := by decide +kernel
theorem dX11_takeOff_5 : decode cX11_takeOff 5 = .ok (.invokevirtual 160, 3) := by decide +kernel
theorem dX11_takeOff_8 : decode cX11_takeOff 8 = .ok (.ifCond .ne 6, 3) := by decide +kernel
theorem dX11_takeOff_11 : decode cX11_takeOff 11 = .ok (.ldc 164, 2) := by decide +kernel
theorem dX11_takeOff_13 : decode cX11_takeOff 13 = .ok (.ireturn, 1) := by decide +kernel
theorem dX11_takeOff_14 : decode cX11_takeOff 14 = .ok (.aload_n 0, 1) := by decide +kernel
theorem dX11_takeOff_15 : decode cX11_takeOff 15 = .ok (.getfield 38, 3) := by decide +kernel
theorem dX11_takeOff_18 : decode cX11_takeOff 18 = .ok (.getfield 175, 3) := by decide +kernel
theorem dX11_takeOff_21 : decode cX11_takeOff 21 = .ok (.iload_n 1, 1) := by decide +kernel
theorem dX11_takeOff_22 : decode cX11_takeOff 22 = .ok (.iaload, 1) := by decide +kernel
theorem dX11_takeOff_23 : decode cX11_takeOff 23 = .ok (.iconst 2, 1) := by decide +kernel
theorem dX11_takeOff_24 : decode cX11_takeOff 24 = .ok (.if_icmp .eq 6, 3) := by decide +kernel
theorem dX11_takeOff_27 : decode cX11_takeOff 27 = .ok (.ldc 207, 2) := by decide +kernel
theorem dX11_takeOff_29 : decode cX11_takeOff 29 = .ok (.ireturn, 1) := by decide +kernel
theorem dX11_takeOff_30 : decode cX11_takeOff 30 = .ok (.aload_n 0, 1) := by decide +kernel
theorem dX11_takeOff_31 : decode cX11_takeOff 31 = .ok (.getfield 52, 3) := by decide +kernel
theorem dX11_takeOff_34 : decode cX11_takeOff 34 = .ok (.aload_n 0, 1) := by decide +kernel
theorem dX11_takeOff_35 : decode cX11_takeOff 35 = .ok (.getfield 38, 3) := by decide +kernel
theorem dX11_takeOff_38 : decode cX11_takeOff 38 = .ok (.invokevirtual 208, 3) := by decide +kernel
theorem dX11_takeOff_41 : decode cX11_takeOff 41 = .ok (.aload_n 0, 1) := by decide +kernel
theorem dX11_takeOff_42 : decode cX11_takeOff 42 = .ok (.getfield 38, 3) := by decide +kernel
theorem dX11_takeOff_45 : decode cX11_takeOff 45 = .ok (.getfield 175, 3) := by decide +kernel
theorem dX11_takeOff_48 : decode cX11_takeOff 48 = .ok (.iload_n 1, 1) := by decide +kernel
theorem dX11_takeOff_49 : decode cX11_takeOff 49 = .ok (.iconst 1, 1) := by decide +kernel
theorem dX11_takeOff_50 : decode cX11_takeOff 50 = .ok (.iastore, 1) := by decide +kernel
theorem dX11_takeOff_51 : decode cX11_takeOff 51 = .ok (.aload_n 0, 1) := by decide +kernel
theorem dX11_takeOff_52 : decode cX11_takeOff 52 = .ok (.getfield 38, 3) := by decide +kernel
theorem dX11_takeOff_55 : decode cX11_takeOff 55 = .ok (.getfield 172, 3) := by decide +kernel
theorem dX11_takeOff_58 : decode cX11_takeOff 58 = .ok (.iload_n 1, 1) := by decide +kernel
theorem dX11_takeOff_59 : decode cX11_takeOff 59 = .ok (.iaload, 1) := by decide +kernel
theorem dX11_takeOff_60 : decode cX11_takeOff 60 = .ok (.ireturn, 1) := by decide +kernel
theorem w_X11_takeOff_0 {l : Launch} {D : zDD} {b : Nat} (p1 : Int32) (σ : zSg) (τ : zLm) {Q : Int32 → zSg → zLm → Prop} (h : SI l D b M_X6_hasTrouble 0 G0 [.ref (b + 9), .int p1] σ τ (fun r1 σ1 τ1 => (¬ r1 = 0 → (vp_in p1 6 ∧ (((σ1 15 p1.toNatClampNeg) = 2 → (SV l D b M_X5_remember 2 G0 [.ref (b + 23), .ref (b + 14)] σ1 τ1 (fun σ4 τ4 => vp_in p1 6 ∧ (vp_in p1 6 ∧ Q ((st2 σ4 15 p1.toNatClampNeg 1) 16 p1.toNatClampNeg) (st2 σ4 15 p1.toNatClampNeg 1) τ4)))) ∧ (¬ (σ1 15 p1.toNatClampNeg) = 2 → Q (-1000000003) σ1 τ1)))) ∧ (r1 = 0 → Q (-1000000001) σ1 τ1))) : AI l D b M_X11_takeOff 3 G0 Q 0 [(0, .ref (b + 0)), (1, .int p1)] [] G0 σ τ := by
  refine r_aload_n 0 dX11_takeOff_0 rfl rfl ?_
  refine r_getR (j := 3) (by decide) (congrArg Prod.fst k0_0) c12_10 (by decide) rfl g0_0_3 tw_287 dX11_takeOff_1 ?_
  refine r_iload_n 1 dX11_takeOff_4 rfl rfl ?_
  refine rc_VI (h' := 0) [.int p1] okv_X6_hasTrouble (by decide) (congrArg Prod.fst k0_9) tw_509 rfl rfl (Nat.le_of_ble_eq_true rfl) dX11_takeOff_5 (by decide) h (fun r1 σ1 τ1 h => ?_)
  refine r_if_ne (tgt := 14) dX11_takeOff_8 (by decide) (fun c2 => ?_) (fun c2 => ?_)
  · replace h := h.1 c2
    refine r_aload_n 0 dX11_takeOff_14 rfl rfl ?_
    refine r_getR (j := 4) (by decide) (congrArg Prod.fst k0_0) c12_10 (by decide) rfl g0_0_4 tw_288 dX11_takeOff_15 ?_
    refine r_getR (j := 2) (by decide) (congrArg Prod.fst k0_14) c12_8 (by decide) rfl g0_14_2 tw_122 dX11_takeOff_18 ?_
    refine r_iload_n 1 dX11_takeOff_21 rfl rfl ?_
    refine r_iald (by decide) k0_15 dX11_takeOff_22 h.1 ?_
    replace h := h.2
    refine r_iconst dX11_takeOff_23 ci_2 ?_
    refine r_icmp_eq (tgt := 30) dX11_takeOff_24 (by decide) (fun c3 => ?_) (fun c3 => ?_)
    · replace h := h.1 c3
      refine r_aload_n 0 dX11_takeOff_30 rfl rfl ?_
      refine r_getR (j := 7) (by decide) (congrArg Prod.fst k0_0) c12_10 (by decide) rfl g0_0_7 tw_291 dX11_takeOff_31 ?_
      refine r_aload_n 0 dX11_takeOff_34 rfl rfl ?_
      refine r_getR (j := 4) (by decide) (congrArg Prod.fst k0_0) c12_10 (by decide) rfl g0_0_4 tw_288 dX11_takeOff_35 ?_
      refine rc_VV (h' := 2) [.ref (b + 14)] okv_X5_remember (by decide) (congrArg Prod.fst k0_23) tw_573 rfl rfl (Nat.le_of_ble_eq_true rfl) dX11_takeOff_38 (by decide) h (fun σ4 τ4 h => ?_)
      refine r_aload_n 0 dX11_takeOff_41 rfl rfl ?_
      refine r_getR (j := 4) (by decide) (congrArg Prod.fst k0_0) c12_10 (by decide) rfl g0_0_4 tw_288 dX11_takeOff_42 ?_
      refine r_getR (j := 2) (by decide) (congrArg Prod.fst k0_14) c12_8 (by decide) rfl g0_14_2 tw_122 dX11_takeOff_45 ?_
      refine r_iload_n 1 dX11_takeOff_48 rfl rfl ?_
      refine r_iconst dX11_takeOff_49 ci_1 ?_
      refine r_iast (by decide) k0_15 dX11_takeOff_50 h.1 ?_
      replace h := h.2
      refine r_aload_n 0 dX11_takeOff_51 rfl rfl ?_
      refine r_getR (j := 4) (by decide) (congrArg Prod.fst k0_0) c12_10 (by decide) rfl g0_0_4 tw_288 dX11_takeOff_52 ?_
      refine r_getR (j := 3) (by decide) (congrArg Prod.fst k0_14) c12_8 (by decide) rfl g0_14_3 tw_126 dX11_takeOff_55 ?_
      refine r_iload_n 1 dX11_takeOff_58 rfl rfl ?_
      refine r_iald (by decide) k0_16 dX11_takeOff_59 h.1 ?_
      replace h := h.2
      exact r_iret rfl (Nat.le_refl _) (Nat.le_refl _) dX11_takeOff_60 ⟨rfl, rfl, rfl, _, rfl, h⟩
    · replace h := h.2 c3
      refine r_ldc (v := (-1000000003)) rfl tw_572 rfl dX11_takeOff_27 ?_
      exact r_iret rfl (Nat.le_refl _) (Nat.le_refl _) dX11_takeOff_29 ⟨rfl, rfl, rfl, _, rfl, h⟩
  · replace h := h.2 c2
    refine r_ldc (v := (-1000000001)) rfl tw_513 rfl dX11_takeOff_11 ?_
    exact r_iret rfl (Nat.le_refl _) (Nat.le_refl _) dX11_takeOff_13 ⟨rfl, rfl, rfl, _, rfl, h⟩
theorem s_X11_takeOff {l : Launch} {D : zDD} {b : Nat} (p1 : Int32) (σ : zSg) (τ : zLm) {Q : Int32 → zSg → zLm → Prop} (h : SI l D b M_X6_hasTrouble 0 G0 [.ref (b + 9), .int p1] σ τ (fun r1 σ1 τ1 => (¬ r1 = 0 → (vp_in p1 6 ∧ (((σ1 15 p1.toNatClampNeg) = 2 → (SV l D b M_X5_remember 2 G0 [.ref (b + 23), .ref (b + 14)] σ1 τ1 (fun σ4 τ4 => vp_in p1 6 ∧ (vp_in p1 6 ∧ Q ((st2 σ4 15 p1.toNatClampNeg 1) 16 p1.toNatClampNeg) (st2 σ4 15 p1.toNatClampNeg 1) τ4)))) ∧ (¬ (σ1 15 p1.toNatClampNeg) = 2 → Q (-1000000003) σ1 τ1)))) ∧ (r1 = 0 → Q (-1000000001) σ1 τ1))) : SI l D b M_X11_takeOff 3 G0 [.ref (b + 0), .int p1] σ τ Q := zS.of (by decide) (Nat.le_of_ble_eq_true rfl) rfl (w_X11_takeOff_0 p1 σ τ h)

theorem dX11_rest_0 : decode cX11_rest 0 = .ok (.aload_n 0, 1) := by decide +kernel
theorem dX11_rest_1 : decode cX11_rest 1 = .ok (.getfield 33, 3) := by decide +kernel
theorem dX11_rest_4 : decode cX11_rest 4 = .ok (.invokevirtual 231, 3) := by decide +kernel
theorem dX11_rest_7 : decode cX11_rest 7 = .ok (.ifCond .ne 6, 3) := by decide +kernel
theorem dX11_rest_10 : decode cX11_rest 10 = .ok (.ldc 207, 2) := by decide +kernel
theorem dX11_rest_12 : decode cX11_rest 12 = .ok (.ireturn, 1) := by decide +kernel
theorem dX11_rest_13 : decode cX11_rest 13 = .ok (.aload_n 0, 1) := by decide +kernel
theorem dX11_rest_14 : decode cX11_rest 14 = .ok (.getfield 52, 3) := by decide +kernel
theorem dX11_rest_17 : decode cX11_rest 17 = .ok (.aload_n 0, 1) := by decide +kernel
theorem dX11_rest_18 : decode cX11_rest 18 = .ok (.getfield 38, 3) := by decide +kernel
theorem dX11_rest_21 : decode cX11_rest 21 = .ok (.invokevirtual 208, 3) := by decide +kernel
theorem dX11_rest_24 : decode cX11_rest 24 = .ok (.aload_n 0, 1) := by decide +kernel
theorem dX11_rest_25 : decode cX11_rest 25 = .ok (.getfield 26, 3) := by decide +kernel
theorem dX11_rest_28 : decode cX11_rest 28 = .ok (.invokevirtual 235, 3) := by decide +kernel
theorem dX11_rest_31 : decode cX11_rest 31 = .ok (.ireturn, 1) := by decide +kernel
theorem w_X11_rest_0 {l : Launch} {D : zDD} {b : Nat} (σ : zSg) (τ : zLm) {Q : Int32 → zSg → zLm → Prop} (h : SI l D b M_X6_isThere 0 G0 [.ref (b + 9)] σ τ (fun r1 σ1 τ1 => (¬ r1 = 0 → SV l D b M_X5_remember 2 G0 [.ref (b + 23), .ref (b + 14)] σ1 τ1 (fun σ3 τ3 => SI l D b M_X2_unload 0 G0 [.ref (b + 8)] σ3 τ3 (fun r4 σ4 τ4 => Q r4 σ4 τ4))) ∧ (r1 = 0 → Q (-1000000003) σ1 τ1))) : AI l D b M_X11_rest 3 G0 Q 0 [(0, .ref (b + 0))] [] G0 σ τ := by
  refine r_aload_n 0 dX11_rest_0 rfl rfl ?_
  refine r_getR (j := 3) (by decide) (congrArg Prod.fst k0_0) c12_10 (by decide) rfl g0_0_3 tw_287 dX11_rest_1 ?_
  refine rc_VI (h' := 0) [] okv_X6_isThere (by decide) (congrArg Prod.fst k0_9) tw_622 rfl rfl (Nat.le_of_ble_eq_true rfl) dX11_rest_4 (by decide) h (fun r1 σ1 τ1 h => ?_)
  refine r_if_ne (tgt := 13) dX11_rest_7 (by decide) (fun c2 => ?_) (fun c2 => ?_)
  · replace h := h.1 c2
    refine r_aload_n 0 dX11_rest_13 rfl rfl ?_
    refine r_getR (j := 7) (by decide) (congrArg Prod.fst k0_0) c12_10 (by decide) rfl g0_0_7 tw_291 dX11_rest_14 ?_
    refine r_aload_n 0 dX11_rest_17 rfl rfl ?_
    refine r_getR (j := 4) (by decide) (congrArg Prod.fst k0_0) c12_10 (by decide) rfl g0_0_4 tw_288 dX11_rest_18 ?_
    refine rc_VV (h' := 2) [.ref (b + 14)] okv_X5_remember (by decide) (congrArg Prod.fst k0_23) tw_573 rfl rfl (Nat.le_of_ble_eq_true rfl) dX11_rest_21 (by decide) h (fun σ3 τ3 h => ?_)
    refine r_aload_n 0 dX11_rest_24 rfl rfl ?_
    refine r_getR (j := 2) (by decide) (congrArg Prod.fst k0_0) c12_10 (by decide) rfl g0_0_2 tw_286 dX11_rest_25 ?_
    refine rc_VI (h' := 0) [] okv_X2_unload (by decide) (congrArg Prod.fst k0_8) tw_653 rfl rfl (Nat.le_of_ble_eq_true rfl) dX11_rest_28 (by decide) h (fun r4 σ4 τ4 h => ?_)
    exact r_iret rfl (Nat.le_refl _) (Nat.le_refl _) dX11_rest_31 ⟨rfl, rfl, rfl, _, rfl, h⟩
  · replace h := h.2 c2
    refine r_ldc (v := (-1000000003)) rfl tw_572 rfl dX11_rest_10 ?_
    exact r_iret rfl (Nat.le_refl _) (Nat.le_refl _) dX11_rest_12 ⟨rfl, rfl, rfl, _, rfl, h⟩
theorem s_X11_rest {l : Launch} {D : zDD} {b : Nat} (σ : zSg) (τ : zLm) {Q : Int32 → zSg → zLm → Prop} (h : SI l D b M_X6_isThere 0 G0 [.ref (b + 9)] σ τ (fun r1 σ1 τ1 => (¬ r1 = 0 → SV l D b M_X5_remember 2 G0 [.ref (b + 23), .ref (b + 14)] σ1 τ1 (fun σ3 τ3 => SI l D b M_X2_unload 0 G0 [.ref (b + 8)] σ3 τ3 (fun r4 σ4 τ4 => Q r4 σ4 τ4))) ∧ (r1 = 0 → Q (-1000000003) σ1 τ1))) : SI l D b M_X11_rest 3 G0 [.ref (b + 0)] σ τ Q := zS.of (by decide) (Nat.le_of_ble_eq_true rfl) rfl (w_X11_rest_0 σ τ h)

theorem dX11_cut_0 : decode cX11_cut 0 = .ok (.aload_n 0, 1) := by decide +kernel
theorem dX11_cut_1 : decode cX11_cut 1 = .ok (.getfield 33, 3) := by decide +kernel
theorem dX11_cut_4 : decode cX11_cut 4 = .ok (.iload_n 1, 1) := by decide +kernel
theorem dX11_cut_5 : decode cX11_cut 5 = .ok (.invokevirtual 160, 3) := by decide +kernel
theorem dX11_cut_8 : decode cX11_cut 8 = .ok (.ifCond .ne 6, 3) := by decide +kernel
theorem dX11_cut_11 : decode cX11_cut 11 = .ok (.ldc 164, 2) := by decide +kernel
theorem dX11_cut_13 : decode cX11_cut 13 = .ok (.ireturn, 1) := by decide +kernel
theorem dX11_cut_14 : decode cX11_cut 14 = .ok (.iload_n 2, 1) := by decide +kernel
theorem dX11_cut_15 : decode cX11_cut 15 = .ok (.ifCond .lt 9, 3) := by decide +kernel
theorem dX11_cut_18 : decode cX11_cut 18 = .ok (.iload_n 2, 1) := by decide +kernel
theorem dX11_cut_19 : decode cX11_cut 19 = .ok (.bipush 25, 2) := by decide +kernel
theorem dX11_cut_21 : decode cX11_cut 21 = .ok (.if_icmp .lt 6, 3) := by decide +kernel
theorem dX11_cut_24 : decode cX11_cut 24 = .ok (.ldc 81, 2) := by decide +kernel
theorem dX11_cut_26 : decode cX11_cut 26 = .ok (.ireturn, 1) := by decide +kernel
theorem dX11_cut_27 : decode cX11_cut 27 = .ok (.aload_n 0, 1) := by decide +kernel
theorem dX11_cut_28 : decode cX11_cut 28 = .ok (.getfield 38, 3) := by decide +kernel
theorem dX11_cut_31 : decode cX11_cut 31 = .ok (.getfield 175, 3) := by decide +kernel
theorem dX11_cut_34 : decode cX11_cut 34 = .ok (.iload_n 1, 1) := by decide +kernel
theorem dX11_cut_35 : decode cX11_cut 35 = .ok (.iaload, 1) := by decide +kernel
theorem dX11_cut_36 : decode cX11_cut 36 = .ok (.ifCond .ne 34, 3) := by decide +kernel
theorem dX11_cut_39 : decode cX11_cut 39 = .ok (.aload_n 0, 1) := by decide +kernel
theorem dX11_cut_40 : decode cX11_cut 40 = .ok (.getfield 38, 3) := by decide +kernel
theorem dX11_cut_43 : decode cX11_cut 43 = .ok (.getfield 165, 3) := by decide +kernel
theorem dX11_cut_46 : decode cX11_cut 46 = .ok (.iload_n 1, 1) := by decide +kernel
theorem dX11_cut_47 : decode cX11_cut 47 = .ok (.iaload, 1) := by decide +kernel
theorem dX11_cut_48 : decode cX11_cut 48 = .ok (.iload_n 2, 1) := by decide +kernel
theorem dX11_cut_49 : decode cX11_cut 49 = .ok (.invokestatic 238, 3) := by decide +kernel
theorem dX11_cut_52 : decode cX11_cut 52 = .ok (.ifCond .eq 18, 3) := by decide +kernel
theorem dX11_cut_55 : decode cX11_cut 55 = .ok (.aload_n 0, 1) := by decide +kernel
theorem dX11_cut_56 : decode cX11_cut 56 = .ok (.getfield 38, 3) := by decide +kernel
theorem dX11_cut_59 : decode cX11_cut 59 = .ok (.getfield 165, 3) := by decide +kernel
theorem dX11_cut_62 : decode cX11_cut 62 = .ok (.iload_n 1, 1) := by decide +kernel
theorem dX11_cut_63 : decode cX11_cut 63 = .ok (.iaload, 1) := by decide +kernel
theorem dX11_cut_64 : decode cX11_cut 64 = .ok (.iconst 1, 1) := by decide +kernel
theorem dX11_cut_65 : decode cX11_cut 65 = .ok (.iload_n 2, 1) := by decide +kernel
theorem dX11_cut_66 : decode cX11_cut 66 = .ok (.ishl, 1) := by decide +kernel
theorem dX11_cut_67 : decode cX11_cut 67 = .ok (.if_icmp .ne 6, 3) := by decide +kernel
theorem dX11_cut_70 : decode cX11_cut 70 = .ok (.ldc 207, 2) := by decide +kernel
theorem dX11_cut_72 : decode cX11_cut 72 = .ok (.ireturn, 1) := by decide +kernel
theorem dX11_cut_73 : decode cX11_cut 73 = .ok (.aload_n 0, 1) := by decide +kernel
theorem dX11_cut_74 : decode cX11_cut 74 = .ok (.getfield 52, 3) := by decide +kernel
theorem dX11_cut_77 : decode cX11_cut 77 = .ok (.aload_n 0, 1) := by decide +kernel
theorem dX11_cut_78 : decode cX11_cut 78 = .ok (.getfield 38, 3) := by decide +kernel
theorem dX11_cut_81 : decode cX11_cut 81 = .ok (.invokevirtual 208, 3) := by decide +kernel
theorem dX11_cut_84 : decode cX11_cut 84 = .ok (.aload_n 0, 1) := by decide +kernel
theorem dX11_cut_85 : decode cX11_cut 85 = .ok (.getfield 38, 3) := by decide +kernel
theorem dX11_cut_88 : decode cX11_cut 88 = .ok (.getfield 165, 3) := by decide +kernel
theorem dX11_cut_91 : decode cX11_cut 91 = .ok (.iload_n 1, 1) := by decide +kernel
theorem dX11_cut_92 : decode cX11_cut 92 = .ok (.dup2, 1) := by decide +kernel
theorem dX11_cut_93 : decode cX11_cut 93 = .ok (.iaload, 1) := by decide +kernel
theorem dX11_cut_94 : decode cX11_cut 94 = .ok (.iconst 1, 1) := by decide +kernel
theorem dX11_cut_95 : decode cX11_cut 95 = .ok (.iload_n 2, 1) := by decide +kernel
theorem dX11_cut_96 : decode cX11_cut 96 = .ok (.ishl, 1) := by decide +kernel
theorem dX11_cut_97 : decode cX11_cut 97 = .ok (.iconst (-1), 1) := by decide +kernel
theorem dX11_cut_98 : decode cX11_cut 98 = .ok (.ixor, 1) := by decide +kernel
theorem dX11_cut_99 : decode cX11_cut 99 = .ok (.iand, 1) := by decide +kernel
theorem dX11_cut_100 : decode cX11_cut 100 = .ok (.iastore, 1) := by decide +kernel
theorem dX11_cut_101 : decode cX11_cut 101 = .ok (.aload_n 0, 1) := by decide +kernel
theorem dX11_cut_102 : decode cX11_cut 102 = .ok (.getfield 38, 3) := by decide +kernel
theorem dX11_cut_105 : decode cX11_cut 105 = .ok (.getfield 165, 3) := by decide +kernel
theorem dX11_cut_108 : decode cX11_cut 108 = .ok (.iload_n 1, 1) := by decide +kernel
theorem dX11_cut_109 : decode cX11_cut 109 = .ok (.iaload, 1) := by decide +kernel
theorem dX11_cut_110 : decode cX11_cut 110 = .ok (.invokestatic 242, 3) := by decide +kernel
theorem dX11_cut_113 : decode cX11_cut 113 = .ok (.ireturn, 1) := by decide +kernel
theorem w_X11_cut_0 {l : Launch} {D : zDD} {b : Nat} (p1 p2 : Int32) (σ : zSg) (τ : zLm) {Q : Int32 → zSg → zLm → Prop} (h : SI l D b M_X6_hasTrouble 0 G0 [.ref (b + 9), .int p1] σ τ (fun r1 σ1 τ1 => (¬ r1 = 0 → ((p2 < 0 → Q (-1000000002) σ1 τ1) ∧ (¬ p2 < 0 → ((p2 < 25 → (vp_in p1 6 ∧ ((¬ (σ1 15 p1.toNatClampNeg) = 0 → Q (-1000000003) σ1 τ1) ∧ ((σ1 15 p1.toNatClampNeg) = 0 → (vp_in p1 6 ∧ (SI l D b M_X9_has 0 G0 [.int (σ1 17 p1.toNatClampNeg), .int p2] σ1 τ1 (fun r6 σ6 τ6 => (r6 = 0 → Q (-1000000003) σ6 τ6) ∧ (¬ r6 = 0 → (vp_in p1 6 ∧ ((¬ (σ6 17 p1.toNatClampNeg) = ((1 : Int32) <<< (p2 &&& 31)) → (SV l D b M_X5_remember 2 G0 [.ref (b + 23), .ref (b + 14)] σ6 τ6 (fun σ9 τ9 => vp_in p1 6 ∧ (vp_in p1 6 ∧ (vp_in p1 6 ∧ SI l D b M_J6_bitCount_0f7a4 0 G0 [.int ((st2 σ9 17 p1.toNatClampNeg ((σ9 17 p1.toNatClampNeg) &&& (((1 : Int32) <<< (p2 &&& 31)) ^^^ (-1)))) 17 p1.toNatClampNeg)] (st2 σ9 17 p1.toNatClampNeg ((σ9 17 p1.toNatClampNeg) &&& (((1 : Int32) <<< (p2 &&& 31)) ^^^ (-1)))) τ9 (fun r10 σ10 τ10 => Q r10 σ10 τ10)))))) ∧ ((σ6 17 p1.toNatClampNeg) = ((1 : Int32) <<< (p2 &&& 31)) → Q (-1000000003) σ6 τ6))))))))))) ∧ (¬ p2 < 25 → Q (-1000000002) σ1 τ1))))) ∧ (r1 = 0 → Q (-1000000001) σ1 τ1))) : AI l D b M_X11_cut 3 G0 Q 0 [(0, .ref (b + 0)), (1, .int p1), (2, .int p2)] [] G0 σ τ := by
  refine r_aload_n 0 dX11_cut_0 rfl rfl ?_
  refine r_getR (j := 3) (by decide) (congrArg Prod.fst k0_0) c12_10 (by decide) rfl g0_0_3 tw_287 dX11_cut_1 ?_
  refine r_iload_n 1 dX11_cut_4 rfl rfl ?_
  refine rc_VI (h' := 0) [.int p1] okv_X6_hasTrouble (by decide) (congrArg Prod.fst k0_9) tw_509 rfl rfl (Nat.le_of_ble_eq_true rfl) dX11_cut_5 (by decide) h (fun r1 σ1 τ1 h => ?_)
  refine r_if_ne (tgt := 14) dX11_cut_8 (by decide) (fun c2 => ?_) (fun c2 => ?_)
  · replace h := h.1 c2
    refine r_iload_n 2 dX11_cut_14 rfl rfl ?_
    refine r_if_lt (tgt := 24) dX11_cut_15 (by decide) (fun c3 => ?_) (fun c3 => ?_)
    · replace h := h.1 c3
      refine r_ldc (v := (-1000000002)) rfl tw_325 rfl dX11_cut_24 ?_
      exact r_iret rfl (Nat.le_refl _) (Nat.le_refl _) dX11_cut_26 ⟨rfl, rfl, rfl, _, rfl, h⟩
    · replace h := h.2 c3
      refine r_iload_n 2 dX11_cut_18 rfl rfl ?_
      refine r_bipush dX11_cut_19 cb_25 ?_
      refine r_icmp_lt (tgt := 27) dX11_cut_21 (by decide) (fun c4 => ?_) (fun c4 => ?_)
      · replace h := h.1 c4
        refine r_aload_n 0 dX11_cut_27 rfl rfl ?_
        refine r_getR (j := 4) (by decide) (congrArg Prod.fst k0_0) c12_10 (by decide) rfl g0_0_4 tw_288 dX11_cut_28 ?_
        refine r_getR (j := 2) (by decide) (congrArg Prod.fst k0_14) c12_8 (by decide) rfl g0_14_2 tw_122 dX11_cut_31 ?_
        refine r_iload_n 1 dX11_cut_34 rfl rfl ?_
        refine r_iald (by decide) k0_15 dX11_cut_35 h.1 ?_
        replace h := h.2
        refine r_if_ne (tgt := 70) dX11_cut_36 (by decide) (fun c5 => ?_) (fun c5 => ?_)
        · replace h := h.1 c5
          refine r_ldc (v := (-1000000003)) rfl tw_572 rfl dX11_cut_70 ?_
          exact r_iret rfl (Nat.le_refl _) (Nat.le_refl _) dX11_cut_72 ⟨rfl, rfl, rfl, _, rfl, h⟩
        · replace h := h.2 c5
          refine r_aload_n 0 dX11_cut_39 rfl rfl ?_
          refine r_getR (j := 4) (by decide) (congrArg Prod.fst k0_0) c12_10 (by decide) rfl g0_0_4 tw_288 dX11_cut_40 ?_
          refine r_getR (j := 4) (by decide) (congrArg Prod.fst k0_14) c12_8 (by decide) rfl g0_14_4 tw_129 dX11_cut_43 ?_
          refine r_iload_n 1 dX11_cut_46 rfl rfl ?_
          refine r_iald (by decide) k0_17 dX11_cut_47 h.1 ?_
          replace h := h.2
          refine r_iload_n 2 dX11_cut_48 rfl rfl ?_
          refine rc_SI (h' := 0) [.int (σ1 17 p1.toNatClampNeg), .int p2] oks_X9_has tw_661 rfl rfl (Nat.le_of_ble_eq_true rfl) dX11_cut_49 (by decide) h (fun r6 σ6 τ6 h => ?_)
          refine r_if_eq (tgt := 70) dX11_cut_52 (by decide) (fun c7 => ?_) (fun c7 => ?_)
          · replace h := h.1 c7
            refine r_ldc (v := (-1000000003)) rfl tw_572 rfl dX11_cut_70 ?_
            exact r_iret rfl (Nat.le_refl _) (Nat.le_refl _) dX11_cut_72 ⟨rfl, rfl, rfl, _, rfl, h⟩
          · replace h := h.2 c7
            refine r_aload_n 0 dX11_cut_55 rfl rfl ?_
            refine r_getR (j := 4) (by decide) (congrArg Prod.fst k0_0) c12_10 (by decide) rfl g0_0_4 tw_288 dX11_cut_56 ?_
            refine r_getR (j := 4) (by decide) (congrArg Prod.fst k0_14) c12_8 (by decide) rfl g0_14_4 tw_129 dX11_cut_59 ?_
            refine r_iload_n 1 dX11_cut_62 rfl rfl ?_
            refine r_iald (by decide) k0_17 dX11_cut_63 h.1 ?_
            replace h := h.2
            refine r_iconst dX11_cut_64 ci_1 ?_
            refine r_iload_n 2 dX11_cut_65 rfl rfl ?_
            refine r_ishl dX11_cut_66 ?_
            refine r_icmp_ne (tgt := 73) dX11_cut_67 (by decide) (fun c8 => ?_) (fun c8 => ?_)
            · replace h := h.1 c8
              refine r_aload_n 0 dX11_cut_73 rfl rfl ?_
              refine r_getR (j := 7) (by decide) (congrArg Prod.fst k0_0) c12_10 (by decide) rfl g0_0_7 tw_291 dX11_cut_74 ?_
              refine r_aload_n 0 dX11_cut_77 rfl rfl ?_
              refine r_getR (j := 4) (by decide) (congrArg Prod.fst k0_0) c12_10 (by decide) rfl g0_0_4 tw_288 dX11_cut_78 ?_
              refine rc_VV (h' := 2) [.ref (b + 14)] okv_X5_remember (by decide) (congrArg Prod.fst k0_23) tw_573 rfl rfl (Nat.le_of_ble_eq_true rfl) dX11_cut_81 (by decide) h (fun σ9 τ9 h => ?_)
              refine r_aload_n 0 dX11_cut_84 rfl rfl ?_
              refine r_getR (j := 4) (by decide) (congrArg Prod.fst k0_0) c12_10 (by decide) rfl g0_0_4 tw_288 dX11_cut_85 ?_
              refine r_getR (j := 4) (by decide) (congrArg Prod.fst k0_14) c12_8 (by decide) rfl g0_14_4 tw_129 dX11_cut_88 ?_
              refine r_iload_n 1 dX11_cut_91 rfl rfl ?_
              refine r_dup2 dX11_cut_92 rfl rfl ?_
              refine r_iald (by decide) k0_17 dX11_cut_93 h.1 ?_
              replace h := h.2
              refine r_iconst dX11_cut_94 ci_1 ?_
              refine r_iload_n 2 dX11_cut_95 rfl rfl ?_
              refine r_ishl dX11_cut_96 ?_
              refine r_iconst dX11_cut_97 ci_m1 ?_
              refine r_ixor dX11_cut_98 ?_
              refine r_iand dX11_cut_99 ?_
              refine r_iast (by decide) k0_17 dX11_cut_100 h.1 ?_
              replace h := h.2
              refine r_aload_n 0 dX11_cut_101 rfl rfl ?_
              refine r_getR (j := 4) (by decide) (congrArg Prod.fst k0_0) c12_10 (by decide) rfl g0_0_4 tw_288 dX11_cut_102 ?_
              refine r_getR (j := 4) (by decide) (congrArg Prod.fst k0_14) c12_8 (by decide) rfl g0_14_4 tw_129 dX11_cut_105 ?_
              refine r_iload_n 1 dX11_cut_108 rfl rfl ?_
              refine r_iald (by decide) k0_17 dX11_cut_109 h.1 ?_
              replace h := h.2
              refine rc_SI (h' := 0) [.int ((st2 σ9 17 p1.toNatClampNeg ((σ9 17 p1.toNatClampNeg) &&& (((1 : Int32) <<< (p2 &&& 31)) ^^^ (-1)))) 17 p1.toNatClampNeg)] oks_J6_bitCount_0f7a4 tw_662 rfl rfl (Nat.le_of_ble_eq_true rfl) dX11_cut_110 (by decide) h (fun r10 σ10 τ10 h => ?_)
              exact r_iret rfl (Nat.le_refl _) (Nat.le_refl _) dX11_cut_113 ⟨rfl, rfl, rfl, _, rfl, h⟩
            · replace h := h.2 c8
              refine r_ldc (v := (-1000000003)) rfl tw_572 rfl dX11_cut_70 ?_
              exact r_iret rfl (Nat.le_refl _) (Nat.le_refl _) dX11_cut_72 ⟨rfl, rfl, rfl, _, rfl, h⟩
      · replace h := h.2 c4
        refine r_ldc (v := (-1000000002)) rfl tw_325 rfl dX11_cut_24 ?_
        exact r_iret rfl (Nat.le_refl _) (Nat.le_refl _) dX11_cut_26 ⟨rfl, rfl, rfl, _, rfl, h⟩
  · replace h := h.2 c2
    refine r_ldc (v := (-1000000001)) rfl tw_513 rfl dX11_cut_11 ?_
    exact r_iret rfl (Nat.le_refl _) (Nat.le_refl _) dX11_cut_13 ⟨rfl, rfl, rfl, _, rfl, h⟩
theorem s_X11_cut {l : Launch} {D : zDD} {b : Nat} (p1 p2 : Int32) (σ : zSg) (τ : zLm) {Q : Int32 → zSg → zLm → Prop} (h : SI l D b M_X6_hasTrouble 0 G0 [.ref (b + 9), .int p1] σ τ (fun r1 σ1 τ1 => (¬ r1 = 0 → ((p2 < 0 → Q (-1000000002) σ1 τ1) ∧ (¬ p2 < 0 → ((p2 < 25 → (vp_in p1 6 ∧ ((¬ (σ1 15 p1.toNatClampNeg) = 0 → Q (-1000000003) σ1 τ1) ∧ ((σ1 15 p1.toNatClampNeg) = 0 → (vp_in p1 6 ∧ (SI l D b M_X9_has 0 G0 [.int (σ1 17 p1.toNatClampNeg), .int p2] σ1 τ1 (fun r6 σ6 τ6 => (r6 = 0 → Q (-1000000003) σ6 τ6) ∧ (¬ r6 = 0 → (vp_in p1 6 ∧ ((¬ (σ6 17 p1.toNatClampNeg) = ((1 : Int32) <<< (p2 &&& 31)) → (SV l D b M_X5_remember 2 G0 [.ref (b + 23), .ref (b + 14)] σ6 τ6 (fun σ9 τ9 => vp_in p1 6 ∧ (vp_in p1 6 ∧ (vp_in p1 6 ∧ SI l D b M_J6_bitCount_0f7a4 0 G0 [.int ((st2 σ9 17 p1.toNatClampNeg ((σ9 17 p1.toNatClampNeg) &&& (((1 : Int32) <<< (p2 &&& 31)) ^^^ (-1)))) 17 p1.toNatClampNeg)] (st2 σ9 17 p1.toNatClampNeg ((σ9 17 p1.toNatClampNeg) &&& (((1 : Int32) <<< (p2 &&& 31)) ^^^ (-1)))) τ9 (fun r10 σ10 τ10 => Q r10 σ10 τ10)))))) ∧ ((σ6 17 p1.toNatClampNeg) = ((1 : Int32) <<< (p2 &&& 31)) → Q (-1000000003) σ6 τ6))))))))))) ∧ (¬ p2 < 25 → Q (-1000000002) σ1 τ1))))) ∧ (r1 = 0 → Q (-1000000001) σ1 τ1))) : SI l D b M_X11_cut 3 G0 [.ref (b + 0), .int p1, .int p2] σ τ Q := zS.of (by decide) (Nat.le_of_ble_eq_true rfl) rfl (w_X11_cut_0 p1 p2 σ τ h)

theorem dX11_undo_0 : decode cX11_undo 0 = .ok (.aload_n 0, 1) := by decide +kernel
theorem dX11_undo_1 : decode cX11_undo 1 = .ok (.getfield 52, 3) := by decide +kernel
theorem dX11_undo_4 : decode cX11_undo 4 = .ok (.getfield 157, 3) := by decide +kernel
theorem dX11_undo_7 : decode cX11_undo 7 = .ok (.ifCond .gt 6, 3) := by decide +kernel
theorem dX11_undo_10 : decode cX11_undo 10 = .ok (.ldc 207, 2) := by decide +kernel
theorem dX11_undo_12 : decode cX11_undo 12 = .ok (.ireturn, 1) := by decide +kernel
theorem dX11_undo_13 : decode cX11_undo 13 = .ok (.aload_n 0, 1) := by decide +kernel
theorem dX11_undo_14 : decode cX11_undo 14 = .ok (.getfield 52, 3) := by decide +kernel
theorem dX11_undo_17 : decode cX11_undo 17 = .ok (.aload_n 0, 1) := by decide +kernel
theorem dX11_undo_18 : decode cX11_undo 18 = .ok (.getfield 38, 3) := by decide +kernel
theorem dX11_undo_21 : decode cX11_undo 21 = .ok (.invokevirtual 250, 3) := by decide +kernel
theorem dX11_undo_24 : decode cX11_undo 24 = .ok (.aload_n 0, 1) := by decide +kernel
theorem dX11_undo_25 : decode cX11_undo 25 = .ok (.getfield 52, 3) := by decide +kernel
theorem dX11_undo_28 : decode cX11_undo 28 = .ok (.getfield 157, 3) := by decide +kernel
theorem dX11_undo_31 : decode cX11_undo 31 = .ok (.ireturn, 1) := by decide +kernel
theorem w_X11_undo_0 {l : Launch} {D : zDD} {b : Nat} (σ : zSg) (τ : zLm) {Q : Int32 → zSg → zLm → Prop} (h : (0 < (σ 23 5) → SV l D b M_X5_stepBack 2 G0 [.ref (b + 23), .ref (b + 14)] σ τ (fun σ2 τ2 => Q (σ2 23 5) σ2 τ2)) ∧ (¬ 0 < (σ 23 5) → Q (-1000000003) σ τ)) : AI l D b M_X11_undo 3 G0 Q 0 [(0, .ref (b + 0))] [] G0 σ τ := by
  refine r_aload_n 0 dX11_undo_0 rfl rfl ?_
  refine r_getR (j := 7) (by decide) (congrArg Prod.fst k0_0) c12_10 (by decide) rfl g0_0_7 tw_291 dX11_undo_1 ?_
  refine r_getI (j := 5) (by decide) (congrArg Prod.fst k0_23) c12_5 (by decide) rfl tw_205 dX11_undo_4 ?_
  refine r_if_gt (tgt := 13) dX11_undo_7 (by decide) (fun c1 => ?_) (fun c1 => ?_)
  · replace h := h.1 c1
    refine r_aload_n 0 dX11_undo_13 rfl rfl ?_
    refine r_getR (j := 7) (by decide) (congrArg Prod.fst k0_0) c12_10 (by decide) rfl g0_0_7 tw_291 dX11_undo_14 ?_
    refine r_aload_n 0 dX11_undo_17 rfl rfl ?_
    refine r_getR (j := 4) (by decide) (congrArg Prod.fst k0_0) c12_10 (by decide) rfl g0_0_4 tw_288 dX11_undo_18 ?_
    refine rc_VV (h' := 2) [.ref (b + 14)] okv_X5_stepBack (by decide) (congrArg Prod.fst k0_23) tw_688 rfl rfl (Nat.le_of_ble_eq_true rfl) dX11_undo_21 (by decide) h (fun σ2 τ2 h => ?_)
    refine r_aload_n 0 dX11_undo_24 rfl rfl ?_
    refine r_getR (j := 7) (by decide) (congrArg Prod.fst k0_0) c12_10 (by decide) rfl g0_0_7 tw_291 dX11_undo_25 ?_
    refine r_getI (j := 5) (by decide) (congrArg Prod.fst k0_23) c12_5 (by decide) rfl tw_205 dX11_undo_28 ?_
    exact r_iret rfl (Nat.le_refl _) (Nat.le_refl _) dX11_undo_31 ⟨rfl, rfl, rfl, _, rfl, h⟩
  · replace h := h.2 c1
    refine r_ldc (v := (-1000000003)) rfl tw_572 rfl dX11_undo_10 ?_
    exact r_iret rfl (Nat.le_refl _) (Nat.le_refl _) dX11_undo_12 ⟨rfl, rfl, rfl, _, rfl, h⟩
theorem s_X11_undo {l : Launch} {D : zDD} {b : Nat} (σ : zSg) (τ : zLm) {Q : Int32 → zSg → zLm → Prop} (h : (0 < (σ 23 5) → SV l D b M_X5_stepBack 2 G0 [.ref (b + 23), .ref (b + 14)] σ τ (fun σ2 τ2 => Q (σ2 23 5) σ2 τ2)) ∧ (¬ 0 < (σ 23 5) → Q (-1000000003) σ τ)) : SI l D b M_X11_undo 3 G0 [.ref (b + 0)] σ τ Q := zS.of (by decide) (Nat.le_of_ble_eq_true rfl) rfl (w_X11_undo_0 σ τ h)

theorem dX11_soft_0 : decode cX11_soft 0 = .ok (.aload_n 0, 1) := by decide +kernel
theorem dX11_soft_1 : decode cX11_soft 1 = .ok (.getfield 33, 3) := by decide +kernel
theorem dX11_soft_4 : decode cX11_soft 4 = .ok (.iload_n 1, 1) := by decide +kernel
theorem dX11_soft_5 : decode cX11_soft 5 = .ok (.invokevirtual 160, 3) := by decide +kernel
theorem dX11_soft_8 : decode cX11_soft 8 = .ok (.ifCond .ne 6, 3) := by decide +kernel
theorem dX11_soft_11 : decode cX11_soft 11 = .ok (.ldc 164, 2) := by decide +kernel
theorem dX11_soft_13 : decode cX11_soft 13 = .ok (.ireturn, 1) := by decide +kernel
theorem dX11_soft_14 : decode cX11_soft 14 = .ok (.iload_n 2, 1) := by decide +kernel
theorem dX11_soft_15 : decode cX11_soft 15 = .ok (.ifCond .lt 10, 3) := by decide +kernel
theorem dX11_soft_18 : decode cX11_soft 18 = .ok (.iload_n 2, 1) := by decide +kernel
theorem dX11_soft_19 : decode cX11_soft 19 = .ok (.sipush 500, 3) := by decide +kernel
theorem dX11_soft_22 : decode cX11_soft 22 = .ok (.if_icmp .le 6, 3) := by decide +kernel
theorem dX11_soft_25 : decode cX11_soft 25 = .ok (.ldc 81, 2) := by decide +kernel
theorem dX11_soft_27 : decode cX11_soft 27 = .ok (.ireturn, 1) := by decide +kernel
theorem dX11_soft_28 : decode cX11_soft 28 = .ok (.aload_n 0, 1) := by decide +kernel
theorem dX11_soft_29 : decode cX11_soft 29 = .ok (.getfield 26, 3) := by decide +kernel
theorem dX11_soft_32 : decode cX11_soft 32 = .ok (.iload_n 1, 1) := by decide +kernel
theorem dX11_soft_33 : decode cX11_soft 33 = .ok (.iload_n 2, 1) := by decide +kernel
theorem dX11_soft_34 : decode cX11_soft 34 = .ok (.invokevirtual 264, 3) := by decide +kernel
theorem dX11_soft_37 : decode cX11_soft 37 = .ok (.ireturn, 1) := by decide +kernel
theorem w_X11_soft_0 {l : Launch} {D : zDD} {b : Nat} (p1 p2 : Int32) (σ : zSg) (τ : zLm) {Q : Int32 → zSg → zLm → Prop} (h : SI l D b M_X6_hasTrouble 0 G0 [.ref (b + 9), .int p1] σ τ (fun r1 σ1 τ1 => (¬ r1 = 0 → ((p2 < 0 → Q (-1000000002) σ1 τ1) ∧ (¬ p2 < 0 → ((p2 ≤ 500 → SI l D b M_X2_hardBehind 2 G0 [.ref (b + 8), .int p1, .int p2] σ1 τ1 (fun r5 σ5 τ5 => Q r5 σ5 τ5)) ∧ (¬ p2 ≤ 500 → Q (-1000000002) σ1 τ1))))) ∧ (r1 = 0 → Q (-1000000001) σ1 τ1))) : AI l D b M_X11_soft 3 G0 Q 0 [(0, .ref (b + 0)), (1, .int p1), (2, .int p2)] [] G0 σ τ := by
  refine r_aload_n 0 dX11_soft_0 rfl rfl ?_
  refine r_getR (j := 3) (by decide) (congrArg Prod.fst k0_0) c12_10 (by decide) rfl g0_0_3 tw_287 dX11_soft_1 ?_
  refine r_iload_n 1 dX11_soft_4 rfl rfl ?_
  refine rc_VI (h' := 0) [.int p1] okv_X6_hasTrouble (by decide) (congrArg Prod.fst k0_9) tw_509 rfl rfl (Nat.le_of_ble_eq_true rfl) dX11_soft_5 (by decide) h (fun r1 σ1 τ1 h => ?_)
  refine r_if_ne (tgt := 14) dX11_soft_8 (by decide) (fun c2 => ?_) (fun c2 => ?_)
  · replace h := h.1 c2
    refine r_iload_n 2 dX11_soft_14 rfl rfl ?_
    refine r_if_lt (tgt := 25) dX11_soft_15 (by decide) (fun c3 => ?_) (fun c3 => ?_)
    · replace h := h.1 c3
      refine r_ldc (v := (-1000000002)) rfl tw_325 rfl dX11_soft_25 ?_
      exact r_iret rfl (Nat.le_refl _) (Nat.le_refl _) dX11_soft_27 ⟨rfl, rfl, rfl, _, rfl, h⟩
    · replace h := h.2 c3
      refine r_iload_n 2 dX11_soft_18 rfl rfl ?_
      refine r_sipush dX11_soft_19 cs_500 ?_
      refine r_icmp_le (tgt := 28) dX11_soft_22 (by decide) (fun c4 => ?_) (fun c4 => ?_)
      · replace h := h.1 c4
        refine r_aload_n 0 dX11_soft_28 rfl rfl ?_
        refine r_getR (j := 2) (by decide) (congrArg Prod.fst k0_0) c12_10 (by decide) rfl g0_0_2 tw_286 dX11_soft_29 ?_
        refine r_iload_n 1 dX11_soft_32 rfl rfl ?_
        refine r_iload_n 2 dX11_soft_33 rfl rfl ?_
        refine rc_VI (h' := 2) [.int p1, .int p2] okv_X2_hardBehind (by decide) (congrArg Prod.fst k0_8) tw_712 rfl rfl (Nat.le_of_ble_eq_true rfl) dX11_soft_34 (by decide) h (fun r5 σ5 τ5 h => ?_)
        exact r_iret rfl (Nat.le_refl _) (Nat.le_refl _) dX11_soft_37 ⟨rfl, rfl, rfl, _, rfl, h⟩
      · replace h := h.2 c4
        refine r_ldc (v := (-1000000002)) rfl tw_325 rfl dX11_soft_25 ?_
        exact r_iret rfl (Nat.le_refl _) (Nat.le_refl _) dX11_soft_27 ⟨rfl, rfl, rfl, _, rfl, h⟩
  · replace h := h.2 c2
    refine r_ldc (v := (-1000000001)) rfl tw_513 rfl dX11_soft_11 ?_
    exact r_iret rfl (Nat.le_refl _) (Nat.le_refl _) dX11_soft_13 ⟨rfl, rfl, rfl, _, rfl, h⟩
theorem s_X11_soft {l : Launch} {D : zDD} {b : Nat} (p1 p2 : Int32) (σ : zSg) (τ : zLm) {Q : Int32 → zSg → zLm → Prop} (h : SI l D b M_X6_hasTrouble 0 G0 [.ref (b + 9), .int p1] σ τ (fun r1 σ1 τ1 => (¬ r1 = 0 → ((p2 < 0 → Q (-1000000002) σ1 τ1) ∧ (¬ p2 < 0 → ((p2 ≤ 500 → SI l D b M_X2_hardBehind 2 G0 [.ref (b + 8), .int p1, .int p2] σ1 τ1 (fun r5 σ5 τ5 => Q r5 σ5 τ5)) ∧ (¬ p2 ≤ 500 → Q (-1000000002) σ1 τ1))))) ∧ (r1 = 0 → Q (-1000000001) σ1 τ1))) : SI l D b M_X11_soft 3 G0 [.ref (b + 0), .int p1, .int p2] σ τ Q := zS.of (by decide) (Nat.le_of_ble_eq_true rfl) rfl (w_X11_soft_0 p1 p2 σ τ h)

theorem dX11_when_0 : decode cX11_when 0 = .ok (.aload_n 0, 1) := by decide +kernel
theorem dX11_when_1 : decode cX11_when 1 = .ok (.getfield 33, 3) := by decide +kernel
theorem dX11_when_4 : decode cX11_when 4 = .ok (.iload_n 1, 1) := by decide +kernel
theorem dX11_when_5 : decode cX11_when 5 = .ok (.invokevirtual 160, 3) := by decide +kernel
theorem dX11_when_8 : decode cX11_when 8 = .ok (.ifCond .ne 6, 3) := by decide +kernel
theorem dX11_when_11 : decode cX11_when 11 = .ok (.ldc 164, 2) := by decide +kernel
theorem dX11_when_13 : decode cX11_when 13 = .ok (.ireturn, 1) := by decide +kernel
theorem dX11_when_14 : decode cX11_when 14 = .ok (.aload_n 0, 1) := by decide +kernel
theorem dX11_when_15 : decode cX11_when 15 = .ok (.getfield 26, 3) := by decide +kernel
theorem dX11_when_18 : decode cX11_when 18 = .ok (.iload_n 1, 1) := by decide +kernel
theorem dX11_when_19 : decode cX11_when 19 = .ok (.aload_n 0, 1) := by decide +kernel
theorem dX11_when_20 : decode cX11_when 20 = .ok (.getfield 38, 3) := by decide +kernel
theorem dX11_when_23 : decode cX11_when 23 = .ok (.getfield 123, 3) := by decide +kernel
theorem dX11_when_26 : decode cX11_when 26 = .ok (.invokevirtual 268, 3) := by decide +kernel
theorem dX11_when_29 : decode cX11_when 29 = .ok (.ireturn, 1) := by decide +kernel
theorem w_X11_when_0 {l : Launch} {D : zDD} {b : Nat} (p1 : Int32) (σ : zSg) (τ : zLm) {Q : Int32 → zSg → zLm → Prop} (h : SI l D b M_X6_hasTrouble 0 G0 [.ref (b + 9), .int p1] σ τ (fun r1 σ1 τ1 => (¬ r1 = 0 → SI l D b M_X2_hoursTillGood 2 G0 [.ref (b + 8), .int p1, .int (σ1 14 0)] σ1 τ1 (fun r3 σ3 τ3 => Q r3 σ3 τ3)) ∧ (r1 = 0 → Q (-1000000001) σ1 τ1))) : AI l D b M_X11_when 3 G0 Q 0 [(0, .ref (b + 0)), (1, .int p1)] [] G0 σ τ := by
  refine r_aload_n 0 dX11_when_0 rfl rfl ?_
  refine r_getR (j := 3) (by decide) (congrArg Prod.fst k0_0) c12_10 (by decide) rfl g0_0_3 tw_287 dX11_when_1 ?_
  refine r_iload_n 1 dX11_when_4 rfl rfl ?_
  refine rc_VI (h' := 0) [.int p1] okv_X6_hasTrouble (by decide) (congrArg Prod.fst k0_9) tw_509 rfl rfl (Nat.le_of_ble_eq_true rfl) dX11_when_5 (by decide) h (fun r1 σ1 τ1 h => ?_)
  refine r_if_ne (tgt := 14) dX11_when_8 (by decide) (fun c2 => ?_) (fun c2 => ?_)
  · replace h := h.1 c2
    refine r_aload_n 0 dX11_when_14 rfl rfl ?_
    refine r_getR (j := 2) (by decide) (congrArg Prod.fst k0_0) c12_10 (by decide) rfl g0_0_2 tw_286 dX11_when_15 ?_
    refine r_iload_n 1 dX11_when_18 rfl rfl ?_
    refine r_aload_n 0 dX11_when_19 rfl rfl ?_
    refine r_getR (j := 4) (by decide) (congrArg Prod.fst k0_0) c12_10 (by decide) rfl g0_0_4 tw_288 dX11_when_20 ?_
    refine r_getI (j := 0) (by decide) (congrArg Prod.fst k0_14) c12_8 (by decide) rfl tw_115 dX11_when_23 ?_
    refine rc_VI (h' := 2) [.int p1, .int (σ1 14 0)] okv_X2_hoursTillGood (by decide) (congrArg Prod.fst k0_8) tw_717 rfl rfl (Nat.le_of_ble_eq_true rfl) dX11_when_26 (by decide) h (fun r3 σ3 τ3 h => ?_)
    exact r_iret rfl (Nat.le_refl _) (Nat.le_refl _) dX11_when_29 ⟨rfl, rfl, rfl, _, rfl, h⟩
  · replace h := h.2 c2
    refine r_ldc (v := (-1000000001)) rfl tw_513 rfl dX11_when_11 ?_
    exact r_iret rfl (Nat.le_refl _) (Nat.le_refl _) dX11_when_13 ⟨rfl, rfl, rfl, _, rfl, h⟩
theorem s_X11_when {l : Launch} {D : zDD} {b : Nat} (p1 : Int32) (σ : zSg) (τ : zLm) {Q : Int32 → zSg → zLm → Prop} (h : SI l D b M_X6_hasTrouble 0 G0 [.ref (b + 9), .int p1] σ τ (fun r1 σ1 τ1 => (¬ r1 = 0 → SI l D b M_X2_hoursTillGood 2 G0 [.ref (b + 8), .int p1, .int (σ1 14 0)] σ1 τ1 (fun r3 σ3 τ3 => Q r3 σ3 τ3)) ∧ (r1 = 0 → Q (-1000000001) σ1 τ1))) : SI l D b M_X11_when 3 G0 [.ref (b + 0), .int p1] σ τ Q := zS.of (by decide) (Nat.le_of_ble_eq_true rfl) rfl (w_X11_when_0 p1 σ τ h)

theorem dX11_halves_0 : decode cX11_halves 0 = .ok (.aload_n 0, 1) := by decide +kernel
theorem dX11_halves_1 : decode cX11_halves 1 = .ok (.getfield 33, 3) := by decide +kernel
theorem dX11_halves_4 : decode cX11_halves 4 = .ok (.iload_n 1, 1) := by decide +kernel
theorem dX11_halves_5 : decode cX11_halves 5 = .ok (.invokevirtual 160, 3) := by decide +kernel
theorem dX11_halves_8 : decode cX11_halves 8 = .ok (.ifCond .ne 6, 3) := by decide +kernel
theorem dX11_halves_11 : decode cX11_halves 11 = .ok (.ldc 164, 2) := by decide +kernel
theorem dX11_halves_13 : decode cX11_halves 13 = .ok (.ireturn, 1) := by decide +kernel
theorem dX11_halves_14 : decode cX11_halves 14 = .ok (.iload_n 2, 1) := by decide +kernel
theorem dX11_halves_15 : decode cX11_halves 15 = .ok (.ifCond .lt 8, 3) := by decide +kernel
theorem dX11_halves_18 : decode cX11_halves 18 = .ok (.iload_n 2, 1) := by decide +kernel
theorem dX11_halves_19 : decode cX11_halves 19 = .ok (.iconst 1, 1) := by decide +kernel
theorem dX11_halves_20 : decode cX11_halves 20 = .ok (.if_icmp .le 6, 3) := by decide +kernel
theorem dX11_halves_23 : decode cX11_halves 23 = .ok (.ldc 81, 2) := by decide +kernel
theorem dX11_halves_25 : decode cX11_halves 25 = .ok (.ireturn, 1) := by decide +kernel
theorem dX11_halves_26 : decode cX11_halves 26 = .ok (.aload_n 0, 1) := by decide +kernel
theorem dX11_halves_27 : decode cX11_halves 27 = .ok (.getfield 38, 3) := by decide +kernel
theorem dX11_halves_30 : decode cX11_halves 30 = .ok (.getfield 165, 3) := by decide +kernel
theorem dX11_halves_33 : decode cX11_halves 33 = .ok (.iload_n 1, 1) := by decide +kernel
theorem dX11_halves_34 : decode cX11_halves 34 = .ok (.iaload, 1) := by decide +kernel
theorem dX11_halves_35 : decode cX11_halves 35 = .ok (.istore_n 3, 1) := by decide +kernel
theorem dX11_halves_36 : decode cX11_halves 36 = .ok (.iload_n 3, 1) := by decide +kernel
theorem dX11_halves_37 : decode cX11_halves 37 = .ok (.ifCond .ne 5, 3) := by decide +kernel
theorem dX11_halves_40 : decode cX11_halves 40 = .ok (.iconst (-1), 1) := by decide +kernel
theorem dX11_halves_41 : decode cX11_halves 41 = .ok (.ireturn, 1) := by decide +kernel
theorem dX11_halves_42 : decode cX11_halves 42 = .ok (.iload_n 3, 1) := by decide +kernel
theorem dX11_halves_43 : decode cX11_halves 43 = .ok (.invokestatic 284, 3) := by decide +kernel
theorem dX11_halves_46 : decode cX11_halves 46 = .ok (.istore 4, 2) := by decide +kernel
theorem dX11_halves_48 : decode cX11_halves 48 = .ok (.iload_n 2, 1) := by decide +kernel
theorem dX11_halves_49 : decode cX11_halves 49 = .ok (.ifCond .ne 8, 3) := by decide +kernel
theorem dX11_halves_52 : decode cX11_halves 52 = .ok (.iload 4, 2) := by decide +kernel
theorem dX11_halves_54 : decode cX11_halves 54 = .ok (.goto 9, 3) := by decide +kernel
theorem dX11_halves_57 : decode cX11_halves 57 = .ok (.iload_n 3, 1) := by decide +kernel
theorem dX11_halves_58 : decode cX11_halves 58 = .ok (.iload 4, 2) := by decide +kernel
theorem dX11_halves_60 : decode cX11_halves 60 = .ok (.invokestatic 287, 3) := by decide +kernel
theorem dX11_halves_63 : decode cX11_halves 63 = .ok (.ireturn, 1) := by decide +kernel
theorem w_X11_halves_0 {l : Launch} {D : zDD} {b : Nat} (p1 p2 : Int32) (σ : zSg) (τ : zLm) {Q : Int32 → zSg → zLm → Prop} (h : SI l D b M_X6_hasTrouble 0 G0 [.ref (b + 9), .int p1] σ τ (fun r1 σ1 τ1 => (¬ r1 = 0 → ((p2 < 0 → Q (-1000000002) σ1 τ1) ∧ (¬ p2 < 0 → ((p2 ≤ 1 → (vp_in p1 6 ∧ ((¬ (σ1 17 p1.toNatClampNeg) = 0 → (SI l D b M_X9_halvingLine 2 G0 [.int (σ1 17 p1.toNatClampNeg)] σ1 τ1 (fun r6 σ6 τ6 => (¬ p2 = 0 → SI l D b M_X9_greaterHalf 1 G0 [.int (σ1 17 p1.toNatClampNeg), .int r6] σ6 τ6 (fun r8 σ8 τ8 => Q r8 σ8 τ8)) ∧ (p2 = 0 → Q r6 σ6 τ6)))) ∧ ((σ1 17 p1.toNatClampNeg) = 0 → Q (-1) σ1 τ1)))) ∧ (¬ p2 ≤ 1 → Q (-1000000002) σ1 τ1))))) ∧ (r1 = 0 → Q (-1000000001) σ1 τ1))) : AI l D b M_X11_halves 3 G0 Q 0 [(0, .ref (b + 0)), (1, .int p1), (2, .int p2)] [] G0 σ τ := by
  refine r_aload_n 0 dX11_halves_0 rfl rfl ?_
  refine r_getR (j := 3) (by decide) (congrArg Prod.fst k0_0) c12_10 (by decide) rfl g0_0_3 tw_287 dX11_halves_1 ?_
  refine r_iload_n 1 dX11_halves_4 rfl rfl ?_
  refine rc_VI (h' := 0) [.int p1] okv_X6_hasTrouble (by decide) (congrArg Prod.fst k0_9) tw_509 rfl rfl (Nat.le_of_ble_eq_true rfl) dX11_halves_5 (by decide) h (fun r1 σ1 τ1 h => ?_)
  refine r_if_ne (tgt := 14) dX11_halves_8 (by decide) (fun c2 => ?_) (fun c2 => ?_)
  · replace h := h.1 c2
    refine r_iload_n 2 dX11_halves_14 rfl rfl ?_
    refine r_if_lt (tgt := 23) dX11_halves_15 (by decide) (fun c3 => ?_) (fun c3 => ?_)
    · replace h := h.1 c3
      refine r_ldc (v := (-1000000002)) rfl tw_325 rfl dX11_halves_23 ?_
      exact r_iret rfl (Nat.le_refl _) (Nat.le_refl _) dX11_halves_25 ⟨rfl, rfl, rfl, _, rfl, h⟩
    · replace h := h.2 c3
      refine r_iload_n 2 dX11_halves_18 rfl rfl ?_
      refine r_iconst dX11_halves_19 ci_1 ?_
      refine r_icmp_le (tgt := 26) dX11_halves_20 (by decide) (fun c4 => ?_) (fun c4 => ?_)
      · replace h := h.1 c4
        refine r_aload_n 0 dX11_halves_26 rfl rfl ?_
        refine r_getR (j := 4) (by decide) (congrArg Prod.fst k0_0) c12_10 (by decide) rfl g0_0_4 tw_288 dX11_halves_27 ?_
        refine r_getR (j := 4) (by decide) (congrArg Prod.fst k0_14) c12_8 (by decide) rfl g0_14_4 tw_129 dX11_halves_30 ?_
        refine r_iload_n 1 dX11_halves_33 rfl rfl ?_
        refine r_iald (by decide) k0_17 dX11_halves_34 h.1 ?_
        replace h := h.2
        refine r_istore_n dX11_halves_35 rfl (by decide) rfl ?_
        refine r_iload_n 0 dX11_halves_36 rfl rfl ?_
        refine r_if_ne (tgt := 42) dX11_halves_37 (by decide) (fun c5 => ?_) (fun c5 => ?_)
        · replace h := h.1 c5
          refine r_iload_n 0 dX11_halves_42 rfl rfl ?_
          refine rc_SI (h' := 2) [.int (σ1 17 p1.toNatClampNeg)] oks_X9_halvingLine tw_742 rfl rfl (Nat.le_of_ble_eq_true rfl) dX11_halves_43 (by decide) h (fun r6 σ6 τ6 h => ?_)
          refine r_istore dX11_halves_46 (by decide) rfl ?_
          refine r_iload_n 4 dX11_halves_48 rfl rfl ?_
          refine r_if_ne (tgt := 57) dX11_halves_49 (by decide) (fun c7 => ?_) (fun c7 => ?_)
          · replace h := h.1 c7
            refine r_iload_n 1 dX11_halves_57 rfl rfl ?_
            refine r_iload 0 dX11_halves_58 rfl ?_
            refine rc_SI (h' := 1) [.int (σ1 17 p1.toNatClampNeg), .int r6] oks_X9_greaterHalf tw_749 rfl rfl (Nat.le_of_ble_eq_true rfl) dX11_halves_60 (by decide) h (fun r8 σ8 τ8 h => ?_)
            exact r_iret rfl (Nat.le_refl _) (Nat.le_refl _) dX11_halves_63 ⟨rfl, rfl, rfl, _, rfl, h⟩
          · replace h := h.2 c7
            refine r_iload 0 dX11_halves_52 rfl ?_
            refine r_goto (tgt := 63) dX11_halves_54 (by decide) ?_
            exact r_iret rfl (Nat.le_refl _) (Nat.le_refl _) dX11_halves_63 ⟨rfl, rfl, rfl, _, rfl, h⟩
        · replace h := h.2 c5
          refine r_iconst dX11_halves_40 ci_m1 ?_
          exact r_iret rfl (Nat.le_refl _) (Nat.le_refl _) dX11_halves_41 ⟨rfl, rfl, rfl, _, rfl, h⟩
      · replace h := h.2 c4
        refine r_ldc (v := (-1000000002)) rfl tw_325 rfl dX11_halves_23 ?_
        exact r_iret rfl (Nat.le_refl _) (Nat.le_refl _) dX11_halves_25 ⟨rfl, rfl, rfl, _, rfl, h⟩
  · replace h := h.2 c2
    refine r_ldc (v := (-1000000001)) rfl tw_513 rfl dX11_halves_11 ?_
    exact r_iret rfl (Nat.le_refl _) (Nat.le_refl _) dX11_halves_13 ⟨rfl, rfl, rfl, _, rfl, h⟩
theorem s_X11_halves {l : Launch} {D : zDD} {b : Nat} (p1 p2 : Int32) (σ : zSg) (τ : zLm) {Q : Int32 → zSg → zLm → Prop} (h : SI l D b M_X6_hasTrouble 0 G0 [.ref (b + 9), .int p1] σ τ (fun r1 σ1 τ1 => (¬ r1 = 0 → ((p2 < 0 → Q (-1000000002) σ1 τ1) ∧ (¬ p2 < 0 → ((p2 ≤ 1 → (vp_in p1 6 ∧ ((¬ (σ1 17 p1.toNatClampNeg) = 0 → (SI l D b M_X9_halvingLine 2 G0 [.int (σ1 17 p1.toNatClampNeg)] σ1 τ1 (fun r6 σ6 τ6 => (¬ p2 = 0 → SI l D b M_X9_greaterHalf 1 G0 [.int (σ1 17 p1.toNatClampNeg), .int r6] σ6 τ6 (fun r8 σ8 τ8 => Q r8 σ8 τ8)) ∧ (p2 = 0 → Q r6 σ6 τ6)))) ∧ ((σ1 17 p1.toNatClampNeg) = 0 → Q (-1) σ1 τ1)))) ∧ (¬ p2 ≤ 1 → Q (-1000000002) σ1 τ1))))) ∧ (r1 = 0 → Q (-1000000001) σ1 τ1))) : SI l D b M_X11_halves 3 G0 [.ref (b + 0), .int p1, .int p2] σ τ Q := zS.of (by decide) (Nat.le_of_ble_eq_true rfl) rfl (w_X11_halves_0 p1 p2 σ τ h)

theorem dX11_keep_0 : decode cX11_keep 0 = .ok (.iload_n 1, 1) := by decide +kernel
theorem dX11_keep_1 : decode cX11_keep 1 = .ok (.ifCond .lt 8, 3) := by decide +kernel
theorem dX11_keep_4 : decode cX11_keep 4 = .ok (.iload_n 1, 1) := by decide +kernel
theorem dX11_keep_5 : decode cX11_keep 5 = .ok (.iconst 2, 1) := by decide +kernel
theorem dX11_keep_6 : decode cX11_keep 6 = .ok (.if_icmp .lt 6, 3) := by decide +kernel
theorem dX11_keep_9 : decode cX11_keep 9 = .ok (.ldc 164, 2) := by decide +kernel
theorem dX11_keep_11 : decode cX11_keep 11 = .ok (.ireturn, 1) := by decide +kernel
theorem dX11_keep_12 : decode cX11_keep 12 = .ok (.aload_n 0, 1) := by decide +kernel
theorem dX11_keep_13 : decode cX11_keep 13 = .ok (.getfield 52, 3) := by decide +kernel
theorem dX11_keep_16 : decode cX11_keep 16 = .ok (.iload_n 1, 1) := by decide +kernel
theorem dX11_keep_17 : decode cX11_keep 17 = .ok (.aload_n 0, 1) := by decide +kernel
theorem dX11_keep_18 : decode cX11_keep 18 = .ok (.getfield 38, 3) := by decide +kernel
theorem dX11_keep_21 : decode cX11_keep 21 = .ok (.aload_n 0, 1) := by decide +kernel
theorem dX11_keep_22 : decode cX11_keep 22 = .ok (.getfield 48, 3) := by decide +kernel
theorem dX11_keep_25 : decode cX11_keep 25 = .ok (.invokevirtual 308, 3) := by decide +kernel
theorem dX11_keep_28 : decode cX11_keep 28 = .ok (.iconst 1, 1) := by decide +kernel
theorem dX11_keep_29 : decode cX11_keep 29 = .ok (.ireturn, 1) := by decide +kernel
theorem w_X11_keep_0 {l : Launch} {D : zDD} {b : Nat} (p1 : Int32) (σ : zSg) (τ : zLm) {Q : Int32 → zSg → zLm → Prop} (h : (p1 < 0 → Q (-1000000001) σ τ) ∧ (¬ p1 < 0 → ((p1 < 2 → SV l D b M_X5_keepImage 2 G0 [.ref (b + 23), .int p1, .ref (b + 14), .ref (b + 22)] σ τ (fun σ3 τ3 => Q 1 σ3 τ3)) ∧ (¬ p1 < 2 → Q (-1000000001) σ τ)))) : AI l D b M_X11_keep 3 G0 Q 0 [(0, .ref (b + 0)), (1, .int p1)] [] G0 σ τ := by
  refine r_iload_n 1 dX11_keep_0 rfl rfl ?_
  refine r_if_lt (tgt := 9) dX11_keep_1 (by decide) (fun c1 => ?_) (fun c1 => ?_)
  · replace h := h.1 c1
    refine r_ldc (v := (-1000000001)) rfl tw_513 rfl dX11_keep_9 ?_
    exact r_iret rfl (Nat.le_refl _) (Nat.le_refl _) dX11_keep_11 ⟨rfl, rfl, rfl, _, rfl, h⟩
  · replace h := h.2 c1
    refine r_iload_n 1 dX11_keep_4 rfl rfl ?_
    refine r_iconst dX11_keep_5 ci_2 ?_
    refine r_icmp_lt (tgt := 12) dX11_keep_6 (by decide) (fun c2 => ?_) (fun c2 => ?_)
    · replace h := h.1 c2
      refine r_aload_n 0 dX11_keep_12 rfl rfl ?_
      refine r_getR (j := 7) (by decide) (congrArg Prod.fst k0_0) c12_10 (by decide) rfl g0_0_7 tw_291 dX11_keep_13 ?_
      refine r_iload_n 1 dX11_keep_16 rfl rfl ?_
      refine r_aload_n 0 dX11_keep_17 rfl rfl ?_
      refine r_getR (j := 4) (by decide) (congrArg Prod.fst k0_0) c12_10 (by decide) rfl g0_0_4 tw_288 dX11_keep_18 ?_
      refine r_aload_n 0 dX11_keep_21 rfl rfl ?_
      refine r_getR (j := 6) (by decide) (congrArg Prod.fst k0_0) c12_10 (by decide) rfl g0_0_6 tw_290 dX11_keep_22 ?_
      refine rc_VV (h' := 2) [.int p1, .ref (b + 14), .ref (b + 22)] okv_X5_keepImage (by decide) (congrArg Prod.fst k0_23) tw_792 rfl rfl (Nat.le_of_ble_eq_true rfl) dX11_keep_25 (by decide) h (fun σ3 τ3 h => ?_)
      refine r_iconst dX11_keep_28 ci_1 ?_
      exact r_iret rfl (Nat.le_refl _) (Nat.le_refl _) dX11_keep_29 ⟨rfl, rfl, rfl, _, rfl, h⟩
    · replace h := h.2 c2
      refine r_ldc (v := (-1000000001)) rfl tw_513 rfl dX11_keep_9 ?_
      exact r_iret rfl (Nat.le_refl _) (Nat.le_refl _) dX11_keep_11 ⟨rfl, rfl, rfl, _, rfl, h⟩
theorem s_X11_keep {l : Launch} {D : zDD} {b : Nat} (p1 : Int32) (σ : zSg) (τ : zLm) {Q : Int32 → zSg → zLm → Prop} (h : (p1 < 0 → Q (-1000000001) σ τ) ∧ (¬ p1 < 0 → ((p1 < 2 → SV l D b M_X5_keepImage 2 G0 [.ref (b + 23), .int p1, .ref (b + 14), .ref (b + 22)] σ τ (fun σ3 τ3 => Q 1 σ3 τ3)) ∧ (¬ p1 < 2 → Q (-1000000001) σ τ)))) : SI l D b M_X11_keep 3 G0 [.ref (b + 0), .int p1] σ τ Q := zS.of (by decide) (Nat.le_of_ble_eq_true rfl) rfl (w_X11_keep_0 p1 σ τ h)

theorem dX11_goBack_0 : decode cX11_goBack 0 = .ok (.iload_n 1, 1) := by decide +kernel
theorem dX11_goBack_1 : decode cX11_goBack 1 = .ok (.ifCond .lt 8, 3) := by decide +kernel
theorem dX11_goBack_4 : decode cX11_goBack 4 = .ok (.iload_n 1, 1) := by decide +kernel
theorem dX11_goBack_5 : decode cX11_goBack 5 = .ok (.iconst 2, 1) := by decide +kernel
theorem dX11_goBack_6 : decode cX11_goBack 6 = .ok (.if_icmp .lt 6, 3) := by decide +kernel
theorem dX11_goBack_9 : decode cX11_goBack 9 = .ok (.ldc 164, 2) := by decide +kernel
theorem dX11_goBack_11 : decode cX11_goBack 11 = .ok (.ireturn, 1) := by decide +kernel
theorem dX11_goBack_12 : decode cX11_goBack 12 = .ok (.aload_n 0, 1) := by decide +kernel
theorem dX11_goBack_13 : decode cX11_goBack 13 = .ok (.getfield 52, 3) := by decide +kernel
theorem dX11_goBack_16 : decode cX11_goBack 16 = .ok (.getfield 312, 3) := by decide +kernel
theorem dX11_goBack_19 : decode cX11_goBack 19 = .ok (.iload_n 1, 1) := by decide +kernel
theorem dX11_goBack_20 : decode cX11_goBack 20 = .ok (.baload, 1) := by decide +kernel
theorem dX11_goBack_21 : decode cX11_goBack 21 = .ok (.ifCond .ne 6, 3) := by decide +kernel
theorem dX11_goBack_24 : decode cX11_goBack 24 = .ok (.ldc 207, 2) := by decide +kernel
theorem dX11_goBack_26 : decode cX11_goBack 26 = .ok (.ireturn, 1) := by decide +kernel
theorem dX11_goBack_27 : decode cX11_goBack 27 = .ok (.aload_n 0, 1) := by decide +kernel
theorem dX11_goBack_28 : decode cX11_goBack 28 = .ok (.getfield 52, 3) := by decide +kernel
theorem dX11_goBack_31 : decode cX11_goBack 31 = .ok (.iload_n 1, 1) := by decide +kernel
theorem dX11_goBack_32 : decode cX11_goBack 32 = .ok (.aload_n 0, 1) := by decide +kernel
theorem dX11_goBack_33 : decode cX11_goBack 33 = .ok (.getfield 38, 3) := by decide +kernel
theorem dX11_goBack_36 : decode cX11_goBack 36 = .ok (.aload_n 0, 1) := by decide +kernel
theorem dX11_goBack_37 : decode cX11_goBack 37 = .ok (.getfield 48, 3) := by decide +kernel
theorem dX11_goBack_40 : decode cX11_goBack 40 = .ok (.invokevirtual 316, 3) := by decide +kernel
theorem dX11_goBack_43 : decode cX11_goBack 43 = .ok (.iconst 1, 1) := by decide +kernel
theorem dX11_goBack_44 : decode cX11_goBack 44 = .ok (.ireturn, 1) := by decide +kernel
theorem w_X11_goBack_0 {l : Launch} {D : zDD} {b : Nat} (p1 : Int32) (σ : zSg) (τ : zLm) {Q : Int32 → zSg → zLm → Prop} (h : (p1 < 0 → Q (-1000000001) σ τ) ∧ (¬ p1 < 0 → ((p1 < 2 → (vp_in p1 2 ∧ ((¬ (σ 27 p1.toNatClampNeg) = 0 → SV l D b M_X5_showImage 2 G0 [.ref (b + 23), .int p1, .ref (b + 14), .ref (b + 22)] σ τ (fun σ4 τ4 => Q 1 σ4 τ4)) ∧ ((σ 27 p1.toNatClampNeg) = 0 → Q (-1000000003) σ τ)))) ∧ (¬ p1 < 2 → Q (-1000000001) σ τ)))) : AI l D b M_X11_goBack 3 G0 Q 0 [(0, .ref (b + 0)), (1, .int p1)] [] G0 σ τ := by
  refine r_iload_n 1 dX11_goBack_0 rfl rfl ?_
  refine r_if_lt (tgt := 9) dX11_goBack_1 (by decide) (fun c1 => ?_) (fun c1 => ?_)
  · replace h := h.1 c1
    refine r_ldc (v := (-1000000001)) rfl tw_513 rfl dX11_goBack_9 ?_
    exact r_iret rfl (Nat.le_refl _) (Nat.le_refl _) dX11_goBack_11 ⟨rfl, rfl, rfl, _, rfl, h⟩
  · replace h := h.2 c1
    refine r_iload_n 1 dX11_goBack_4 rfl rfl ?_
    refine r_iconst dX11_goBack_5 ci_2 ?_
    refine r_icmp_lt (tgt := 12) dX11_goBack_6 (by decide) (fun c2 => ?_) (fun c2 => ?_)
    · replace h := h.1 c2
      refine r_aload_n 0 dX11_goBack_12 rfl rfl ?_
      refine r_getR (j := 7) (by decide) (congrArg Prod.fst k0_0) c12_10 (by decide) rfl g0_0_7 tw_291 dX11_goBack_13 ?_
      refine r_getR (j := 3) (by decide) (congrArg Prod.fst k0_23) c12_5 (by decide) rfl g0_23_3 tw_202 dX11_goBack_16 ?_
      refine r_iload_n 1 dX11_goBack_19 rfl rfl ?_
      refine r_zald (by decide) k0_27 dX11_goBack_20 h.1 ?_
      replace h := h.2
      refine r_if_ne (tgt := 27) dX11_goBack_21 (by decide) (fun c3 => ?_) (fun c3 => ?_)
      · replace h := h.1 c3
        refine r_aload_n 0 dX11_goBack_27 rfl rfl ?_
        refine r_getR (j := 7) (by decide) (congrArg Prod.fst k0_0) c12_10 (by decide) rfl g0_0_7 tw_291 dX11_goBack_28 ?_
        refine r_iload_n 1 dX11_goBack_31 rfl rfl ?_
        refine r_aload_n 0 dX11_goBack_32 rfl rfl ?_
        refine r_getR (j := 4) (by decide) (congrArg Prod.fst k0_0) c12_10 (by decide) rfl g0_0_4 tw_288 dX11_goBack_33 ?_
        refine r_aload_n 0 dX11_goBack_36 rfl rfl ?_
        refine r_getR (j := 6) (by decide) (congrArg Prod.fst k0_0) c12_10 (by decide) rfl g0_0_6 tw_290 dX11_goBack_37 ?_
        refine rc_VV (h' := 2) [.int p1, .ref (b + 14), .ref (b + 22)] okv_X5_showImage (by decide) (congrArg Prod.fst k0_23) tw_800 rfl rfl (Nat.le_of_ble_eq_true rfl) dX11_goBack_40 (by decide) h (fun σ4 τ4 h => ?_)
        refine r_iconst dX11_goBack_43 ci_1 ?_
        exact r_iret rfl (Nat.le_refl _) (Nat.le_refl _) dX11_goBack_44 ⟨rfl, rfl, rfl, _, rfl, h⟩
      · replace h := h.2 c3
        refine r_ldc (v := (-1000000003)) rfl tw_572 rfl dX11_goBack_24 ?_
        exact r_iret rfl (Nat.le_refl _) (Nat.le_refl _) dX11_goBack_26 ⟨rfl, rfl, rfl, _, rfl, h⟩
    · replace h := h.2 c2
      refine r_ldc (v := (-1000000001)) rfl tw_513 rfl dX11_goBack_9 ?_
      exact r_iret rfl (Nat.le_refl _) (Nat.le_refl _) dX11_goBack_11 ⟨rfl, rfl, rfl, _, rfl, h⟩
theorem s_X11_goBack {l : Launch} {D : zDD} {b : Nat} (p1 : Int32) (σ : zSg) (τ : zLm) {Q : Int32 → zSg → zLm → Prop} (h : (p1 < 0 → Q (-1000000001) σ τ) ∧ (¬ p1 < 0 → ((p1 < 2 → (vp_in p1 2 ∧ ((¬ (σ 27 p1.toNatClampNeg) = 0 → SV l D b M_X5_showImage 2 G0 [.ref (b + 23), .int p1, .ref (b + 14), .ref (b + 22)] σ τ (fun σ4 τ4 => Q 1 σ4 τ4)) ∧ ((σ 27 p1.toNatClampNeg) = 0 → Q (-1000000003) σ τ)))) ∧ (¬ p1 < 2 → Q (-1000000001) σ τ)))) : SI l D b M_X11_goBack 3 G0 [.ref (b + 0), .int p1] σ τ Q := zS.of (by decide) (Nat.le_of_ble_eq_true rfl) rfl (w_X11_goBack_0 p1 σ τ h)

theorem dX11_wrap_0 : decode cX11_wrap 0 = .ok (.aload_n 0, 1) := by decide +kernel
theorem dX11_wrap_1 : decode cX11_wrap 1 = .ok (.getfield 33, 3) := by decide +kernel
theorem dX11_wrap_4 : decode cX11_wrap 4 = .ok (.iload_n 1, 1) := by decide +kernel
theorem dX11_wrap_5 : decode cX11_wrap 5 = .ok (.invokevirtual 160, 3) := by decide +kernel
theorem dX11_wrap_8 : decode cX11_wrap 8 = .ok (.ifCond .ne 6, 3) := by decide +kernel
theorem dX11_wrap_11 : decode cX11_wrap 11 = .ok (.ldc 164, 2) := by decide +kernel
theorem dX11_wrap_13 : decode cX11_wrap 13 = .ok (.ireturn, 1) := by decide +kernel
theorem dX11_wrap_14 : decode cX11_wrap 14 = .ok (.aload_n 0, 1) := by decide +kernel
theorem dX11_wrap_15 : decode cX11_wrap 15 = .ok (.getfield 26, 3) := by decide +kernel
theorem dX11_wrap_18 : decode cX11_wrap 18 = .ok (.iload_n 1, 1) := by decide +kernel
theorem dX11_wrap_19 : decode cX11_wrap 19 = .ok (.invokevirtual 204, 3) := by decide +kernel
theorem dX11_wrap_22 : decode cX11_wrap 22 = .ok (.ifCond .ne 6, 3) := by decide +kernel
theorem dX11_wrap_25 : decode cX11_wrap 25 = .ok (.ldc 207, 2) := by decide +kernel
theorem dX11_wrap_27 : decode cX11_wrap 27 = .ok (.ireturn, 1) := by decide +kernel
theorem dX11_wrap_28 : decode cX11_wrap 28 = .ok (.aload_n 0, 1) := by decide +kernel
theorem dX11_wrap_29 : decode cX11_wrap 29 = .ok (.getfield 52, 3) := by decide +kernel
theorem dX11_wrap_32 : decode cX11_wrap 32 = .ok (.aload_n 0, 1) := by decide +kernel
theorem dX11_wrap_33 : decode cX11_wrap 33 = .ok (.getfield 38, 3) := by decide +kernel
theorem dX11_wrap_36 : decode cX11_wrap 36 = .ok (.invokevirtual 208, 3) := by decide +kernel
theorem dX11_wrap_39 : decode cX11_wrap 39 = .ok (.aload_n 0, 1) := by decide +kernel
theorem dX11_wrap_40 : decode cX11_wrap 40 = .ok (.getfield 26, 3) := by decide +kernel
theorem dX11_wrap_43 : decode cX11_wrap 43 = .ok (.iload_n 1, 1) := by decide +kernel
theorem dX11_wrap_44 : decode cX11_wrap 44 = .ok (.invokevirtual 212, 3) := by decide +kernel
theorem dX11_wrap_47 : decode cX11_wrap 47 = .ok (.ireturn, 1) := by decide +kernel
theorem w_X11_wrap_0 {l : Launch} {D : zDD} {b : Nat} (p1 : Int32) (σ : zSg) (τ : zLm) {Q : Int32 → zSg → zLm → Prop} (h : SI l D b M_X6_hasTrouble 0 G0 [.ref (b + 9), .int p1] σ τ (fun r1 σ1 τ1 => (¬ r1 = 0 → (SI l D b M_X2_canBeWrapped 0 G0 [.ref (b + 8), .int p1] σ1 τ1 (fun r3 σ3 τ3 => (¬ r3 = 0 → SV l D b M_X5_remember 2 G0 [.ref (b + 23), .ref (b + 14)] σ3 τ3 (fun σ5 τ5 => SI l D b M_X2_putInSuet 3 G0 [.ref (b + 8), .int p1] σ5 τ5 (fun r6 σ6 τ6 => Q r6 σ6 τ6))) ∧ (r3 = 0 → Q (-1000000003) σ3 τ3)))) ∧ (r1 = 0 → Q (-1000000001) σ1 τ1))) : AI l D b M_X11_wrap 4 G0 Q 0 [(0, .ref (b + 0)), (1, .int p1)] [] G0 σ τ := by
  refine r_aload_n 0 dX11_wrap_0 rfl rfl ?_
  refine r_getR (j := 3) (by decide) (congrArg Prod.fst k0_0) c12_10 (by decide) rfl g0_0_3 tw_287 dX11_wrap_1 ?_
  refine r_iload_n 1 dX11_wrap_4 rfl rfl ?_
  refine rc_VI (h' := 0) [.int p1] okv_X6_hasTrouble (by decide) (congrArg Prod.fst k0_9) tw_509 rfl rfl (Nat.le_of_ble_eq_true rfl) dX11_wrap_5 (by decide) h (fun r1 σ1 τ1 h => ?_)
  refine r_if_ne (tgt := 14) dX11_wrap_8 (by decide) (fun c2 => ?_) (fun c2 => ?_)
  · replace h := h.1 c2
    refine r_aload_n 0 dX11_wrap_14 rfl rfl ?_
    refine r_getR (j := 2) (by decide) (congrArg Prod.fst k0_0) c12_10 (by decide) rfl g0_0_2 tw_286 dX11_wrap_15 ?_
    refine r_iload_n 1 dX11_wrap_18 rfl rfl ?_
    refine rc_VI (h' := 0) [.int p1] okv_X2_canBeWrapped (by decide) (congrArg Prod.fst k0_8) tw_568 rfl rfl (Nat.le_of_ble_eq_true rfl) dX11_wrap_19 (by decide) h (fun r3 σ3 τ3 h => ?_)
    refine r_if_ne (tgt := 28) dX11_wrap_22 (by decide) (fun c4 => ?_) (fun c4 => ?_)
    · replace h := h.1 c4
      refine r_aload_n 0 dX11_wrap_28 rfl rfl ?_
      refine r_getR (j := 7) (by decide) (congrArg Prod.fst k0_0) c12_10 (by decide) rfl g0_0_7 tw_291 dX11_wrap_29 ?_
      refine r_aload_n 0 dX11_wrap_32 rfl rfl ?_
      refine r_getR (j := 4) (by decide) (congrArg Prod.fst k0_0) c12_10 (by decide) rfl g0_0_4 tw_288 dX11_wrap_33 ?_
      refine rc_VV (h' := 2) [.ref (b + 14)] okv_X5_remember (by decide) (congrArg Prod.fst k0_23) tw_573 rfl rfl (Nat.le_of_ble_eq_true rfl) dX11_wrap_36 (by decide) h (fun σ5 τ5 h => ?_)
      refine r_aload_n 0 dX11_wrap_39 rfl rfl ?_
      refine r_getR (j := 2) (by decide) (congrArg Prod.fst k0_0) c12_10 (by decide) rfl g0_0_2 tw_286 dX11_wrap_40 ?_
      refine r_iload_n 1 dX11_wrap_43 rfl rfl ?_
      refine rc_VI (h' := 3) [.int p1] okv_X2_putInSuet (by decide) (congrArg Prod.fst k0_8) tw_581 rfl rfl (Nat.le_of_ble_eq_true rfl) dX11_wrap_44 (by decide) h (fun r6 σ6 τ6 h => ?_)
      exact r_iret rfl (Nat.le_refl _) (Nat.le_refl _) dX11_wrap_47 ⟨rfl, rfl, rfl, _, rfl, h⟩
    · replace h := h.2 c4
      refine r_ldc (v := (-1000000003)) rfl tw_572 rfl dX11_wrap_25 ?_
      exact r_iret rfl (Nat.le_refl _) (Nat.le_refl _) dX11_wrap_27 ⟨rfl, rfl, rfl, _, rfl, h⟩
  · replace h := h.2 c2
    refine r_ldc (v := (-1000000001)) rfl tw_513 rfl dX11_wrap_11 ?_
    exact r_iret rfl (Nat.le_refl _) (Nat.le_refl _) dX11_wrap_13 ⟨rfl, rfl, rfl, _, rfl, h⟩
theorem s_X11_wrap {l : Launch} {D : zDD} {b : Nat} (p1 : Int32) (σ : zSg) (τ : zLm) {Q : Int32 → zSg → zLm → Prop} (h : SI l D b M_X6_hasTrouble 0 G0 [.ref (b + 9), .int p1] σ τ (fun r1 σ1 τ1 => (¬ r1 = 0 → (SI l D b M_X2_canBeWrapped 0 G0 [.ref (b + 8), .int p1] σ1 τ1 (fun r3 σ3 τ3 => (¬ r3 = 0 → SV l D b M_X5_remember 2 G0 [.ref (b + 23), .ref (b + 14)] σ3 τ3 (fun σ5 τ5 => SI l D b M_X2_putInSuet 3 G0 [.ref (b + 8), .int p1] σ5 τ5 (fun r6 σ6 τ6 => Q r6 σ6 τ6))) ∧ (r3 = 0 → Q (-1000000003) σ3 τ3)))) ∧ (r1 = 0 → Q (-1000000001) σ1 τ1))) : SI l D b M_X11_wrap 4 G0 [.ref (b + 0), .int p1] σ τ Q := zS.of (by decide) (Nat.le_of_ble_eq_true rfl) rfl (w_X11_wrap_0 p1 σ τ h)

theorem dX11_hour_0 : decode cX11_hour 0 = .ok (.aload_n 0, 1) := by decide +kernel
theorem dX11_hour_1 : decode cX11_hour 1 = .ok (.iload_n 1, 1) := by decide +kernel
theorem dX11_hour_2 : decode cX11_hour 2 = .ok (.invokevirtual 218, 3) := by decide +kernel
theorem dX11_hour_5 : decode cX11_hour 5 = .ok (.istore_n 2, 1) := by decide +kernel
theorem dX11_hour_6 : decode cX11_hour 6 = .ok (.iload_n 2, 1) := by decide +kernel
theorem dX11_hour_7 : decode cX11_hour 7 = .ok (.ifCond .eq 5, 3) := by decide +kernel
theorem dX11_hour_10 : decode cX11_hour 10 = .ok (.iload_n 2, 1) := by decide +kernel
theorem dX11_hour_11 : decode cX11_hour 11 = .ok (.ireturn, 1) := by decide +kernel
theorem dX11_hour_12 : decode cX11_hour 12 = .ok (.aload_n 0, 1) := by decide +kernel
theorem dX11_hour_13 : decode cX11_hour 13 = .ok (.getfield 52, 3) := by decide +kernel
theorem dX11_hour_16 : decode cX11_hour 16 = .ok (.aload_n 0, 1) := by decide +kernel
theorem dX11_hour_17 : decode cX11_hour 17 = .ok (.getfield 38, 3) := by decide +kernel
theorem dX11_hour_20 : decode cX11_hour 20 = .ok (.invokevirtual 208, 3) := by decide +kernel
theorem dX11_hour_23 : decode cX11_hour 23 = .ok (.iconst 0, 1) := by decide +kernel
theorem dX11_hour_24 : decode cX11_hour 24 = .ok (.istore_n 3, 1) := by decide +kernel
theorem dX11_hour_25 : decode cX11_hour 25 = .ok (.iload_n 3, 1) := by decide +kernel
theorem dX11_hour_26 : decode cX11_hour 26 = .ok (.iload_n 1, 1) := by decide +kernel
theorem dX11_hour_27 : decode cX11_hour 27 = .ok (.if_icmp .ge 16, 3) := by decide +kernel
theorem dX11_hour_30 : decode cX11_hour 30 = .ok (.aload_n 0, 1) := by decide +kernel
theorem dX11_hour_31 : decode cX11_hour 31 = .ok (.getfield 26, 3) := by decide +kernel
theorem dX11_hour_34 : decode cX11_hour 34 = .ok (.invokevirtual 221, 3) := by decide +kernel
theorem dX11_hour_37 : decode cX11_hour 37 = .ok (.iinc 3 1, 3) := by decide +kernel
theorem dX11_hour_40 : decode cX11_hour 40 = .ok (.goto (-15), 3) := by decide +kernel
theorem dX11_hour_43 : decode cX11_hour 43 = .ok (.aload_n 0, 1) := by decide +kernel
theorem dX11_hour_44 : decode cX11_hour 44 = .ok (.getfield 26, 3) := by decide +kernel
theorem dX11_hour_47 : decode cX11_hour 47 = .ok (.invokevirtual 129, 3) := by decide +kernel
theorem dX11_hour_50 : decode cX11_hour 50 = .ok (.ireturn, 1) := by decide +kernel
theorem w_X11_hour_25 {l : Launch} {D : zDD} {b : Nat} (x1 x3 : Int32) (σ : zSg) (τ : zLm) {Q : Int32 → zSg → zLm → Prop} (h : (x1 ≤ x3 → SI l D b M_X2_allGood 1 G0 [.ref (b + 8)] σ τ (fun r2 σ2 τ2 => Q r2 σ2 τ2)) ∧ (¬ x1 ≤ x3 → SV l D b M_X2_boil 3 G0 [.ref (b + 8)] σ τ (fun σ3 τ3 => AI l D b M_X11_hour 4 G0 Q 25 [(0, .ref (b + 0)), (1, .int x1), (3, .int (x3 + 1))] [] G0 σ3 τ3))) : AI l D b M_X11_hour 4 G0 Q 25 [(0, .ref (b + 0)), (1, .int x1), (3, .int x3)] [] G0 σ τ := by
  refine r_iload_n 2 dX11_hour_25 rfl rfl ?_
  refine r_iload_n 1 dX11_hour_26 rfl rfl ?_
  refine r_icmp_ge (tgt := 43) dX11_hour_27 (by decide) (fun c1 => ?_) (fun c1 => ?_)
  · replace h := h.1 c1
    refine r_aload_n 0 dX11_hour_43 rfl rfl ?_
    refine r_getR (j := 2) (by decide) (congrArg Prod.fst k0_0) c12_10 (by decide) rfl g0_0_2 tw_286 dX11_hour_44 ?_
    refine rc_VI (h' := 1) [] okv_X2_allGood (by decide) (congrArg Prod.fst k0_8) tw_437 rfl rfl (Nat.le_of_ble_eq_true rfl) dX11_hour_47 (by decide) h (fun r2 σ2 τ2 h => ?_)
    exact r_iret rfl (Nat.le_refl _) (Nat.le_refl _) dX11_hour_50 ⟨rfl, rfl, rfl, _, rfl, h⟩
  · replace h := h.2 c1
    refine r_aload_n 0 dX11_hour_30 rfl rfl ?_
    refine r_getR (j := 2) (by decide) (congrArg Prod.fst k0_0) c12_10 (by decide) rfl g0_0_2 tw_286 dX11_hour_31 ?_
    refine rc_VV (h' := 3) [] okv_X2_boil (by decide) (congrArg Prod.fst k0_8) tw_623 rfl rfl (Nat.le_of_ble_eq_true rfl) dX11_hour_34 (by decide) h (fun σ3 τ3 h => ?_)
    refine r_inc 2 dX11_hour_37 rfl ci_1 (by decide) rfl ?_
    refine r_goto (tgt := 25) dX11_hour_40 (by decide) ?_
    refine r_lv [1, 2, 0] rfl ?_
    exact h

theorem w_X11_hour_0 {l : Launch} {D : zDD} {b : Nat} (p1 : Int32) (σ : zSg) (τ : zLm) {Q : Int32 → zSg → zLm → Prop} (h : SI l D b M_X11_refusalOfHours 1 G0 [.ref (b + 0), .int p1] σ τ (fun r1 σ1 τ1 => (r1 = 0 → SV l D b M_X5_remember 2 G0 [.ref (b + 23), .ref (b + 14)] σ1 τ1 (fun σ3 τ3 => AI l D b M_X11_hour 4 G0 Q 25 [(0, .ref (b + 0)), (1, .int p1), (3, .int 0)] [] G0 σ3 τ3)) ∧ (¬ r1 = 0 → Q r1 σ1 τ1))) : AI l D b M_X11_hour 4 G0 Q 0 [(0, .ref (b + 0)), (1, .int p1)] [] G0 σ τ := by
  refine r_aload_n 0 dX11_hour_0 rfl rfl ?_
  refine r_iload_n 1 dX11_hour_1 rfl rfl ?_
  refine rc_VI (h' := 1) [.int p1] okv_X11_refusalOfHours (by decide) (congrArg Prod.fst k0_0) tw_618 rfl rfl (Nat.le_of_ble_eq_true rfl) dX11_hour_2 (by decide) h (fun r1 σ1 τ1 h => ?_)
  refine r_istore_n dX11_hour_5 rfl (by decide) rfl ?_
  refine r_iload_n 0 dX11_hour_6 rfl rfl ?_
  refine r_if_eq (tgt := 12) dX11_hour_7 (by decide) (fun c2 => ?_) (fun c2 => ?_)
  · replace h := h.1 c2
    refine r_aload_n 1 dX11_hour_12 rfl rfl ?_
    refine r_getR (j := 7) (by decide) (congrArg Prod.fst k0_0) c12_10 (by decide) rfl g0_0_7 tw_291 dX11_hour_13 ?_
    refine r_aload_n 1 dX11_hour_16 rfl rfl ?_
    refine r_getR (j := 4) (by decide) (congrArg Prod.fst k0_0) c12_10 (by decide) rfl g0_0_4 tw_288 dX11_hour_17 ?_
    refine rc_VV (h' := 2) [.ref (b + 14)] okv_X5_remember (by decide) (congrArg Prod.fst k0_23) tw_573 rfl rfl (Nat.le_of_ble_eq_true rfl) dX11_hour_20 (by decide) h (fun σ3 τ3 h => ?_)
    refine r_iconst dX11_hour_23 ci_0 ?_
    refine r_istore_n dX11_hour_24 rfl (by decide) rfl ?_
    refine r_lv [2, 3, 0] rfl ?_
    exact h
  · replace h := h.2 c2
    refine r_iload_n 0 dX11_hour_10 rfl rfl ?_
    exact r_iret rfl (Nat.le_refl _) (Nat.le_refl _) dX11_hour_11 ⟨rfl, rfl, rfl, _, rfl, h⟩
theorem s_X11_hour {l : Launch} {D : zDD} {b : Nat} (p1 : Int32) (σ : zSg) (τ : zLm) {Q : Int32 → zSg → zLm → Prop} (h : SI l D b M_X11_refusalOfHours 1 G0 [.ref (b + 0), .int p1] σ τ (fun r1 σ1 τ1 => (r1 = 0 → SV l D b M_X5_remember 2 G0 [.ref (b + 23), .ref (b + 14)] σ1 τ1 (fun σ3 τ3 => AI l D b M_X11_hour 4 G0 Q 25 [(0, .ref (b + 0)), (1, .int p1), (3, .int 0)] [] G0 σ3 τ3)) ∧ (¬ r1 = 0 → Q r1 σ1 τ1))) : SI l D b M_X11_hour 4 G0 [.ref (b + 0), .int p1] σ τ Q := zS.of (by decide) (Nat.le_of_ble_eq_true rfl) rfl (w_X11_hour_0 p1 σ τ h)

theorem dX11_bear_0 : decode cX11_bear 0 = .ok (.aload_n 0, 1) := by decide +kernel
theorem dX11_bear_1 : decode cX11_bear 1 = .ok (.getfield 33, 3) := by decide +kernel
theorem dX11_bear_4 : decode cX11_bear 4 = .ok (.iload_n 1, 1) := by decide +kernel
theorem dX11_bear_5 : decode cX11_bear 5 = .ok (.invokevirtual 160, 3) := by decide +kernel
theorem dX11_bear_8 : decode cX11_bear 8 = .ok (.ifCond .ne 6, 3) := by decide +kernel
theorem dX11_bear_11 : decode cX11_bear 11 = .ok (.ldc 164, 2) := by decide +kernel
theorem dX11_bear_13 : decode cX11_bear 13 = .ok (.ireturn, 1) := by decide +kernel
theorem dX11_bear_14 : decode cX11_bear 14 = .ok (.aload_n 0, 1) := by decide +kernel
theorem dX11_bear_15 : decode cX11_bear 15 = .ok (.getfield 26, 3) := by decide +kernel
theorem dX11_bear_18 : decode cX11_bear 18 = .ok (.iload_n 1, 1) := by decide +kernel
theorem dX11_bear_19 : decode cX11_bear 19 = .ok (.invokevirtual 224, 3) := by decide +kernel
theorem dX11_bear_22 : decode cX11_bear 22 = .ok (.ifCond .ne 6, 3) := by decide +kernel
theorem dX11_bear_25 : decode cX11_bear 25 = .ok (.ldc 207, 2) := by decide +kernel
theorem dX11_bear_27 : decode cX11_bear 27 = .ok (.ireturn, 1) := by decide +kernel
theorem dX11_bear_28 : decode cX11_bear 28 = .ok (.aload_n 0, 1) := by decide +kernel
theorem dX11_bear_29 : decode cX11_bear 29 = .ok (.getfield 52, 3) := by decide +kernel
theorem dX11_bear_32 : decode cX11_bear 32 = .ok (.aload_n 0, 1) := by decide +kernel
theorem dX11_bear_33 : decode cX11_bear 33 = .ok (.getfield 38, 3) := by decide +kernel
theorem dX11_bear_36 : decode cX11_bear 36 = .ok (.invokevirtual 208, 3) := by decide +kernel
theorem dX11_bear_39 : decode cX11_bear 39 = .ok (.aload_n 0, 1) := by decide +kernel
theorem dX11_bear_40 : decode cX11_bear 40 = .ok (.getfield 26, 3) := by decide +kernel
theorem dX11_bear_43 : decode cX11_bear 43 = .ok (.iload_n 1, 1) := by decide +kernel
theorem dX11_bear_44 : decode cX11_bear 44 = .ok (.invokevirtual 227, 3) := by decide +kernel
theorem dX11_bear_47 : decode cX11_bear 47 = .ok (.aload_n 0, 1) := by decide +kernel
theorem dX11_bear_48 : decode cX11_bear 48 = .ok (.getfield 26, 3) := by decide +kernel
theorem dX11_bear_51 : decode cX11_bear 51 = .ok (.invokevirtual 135, 3) := by decide +kernel
theorem dX11_bear_54 : decode cX11_bear 54 = .ok (.ireturn, 1) := by decide +kernel
theorem w_X11_bear_0 {l : Launch} {D : zDD} {b : Nat} (p1 : Int32) (σ : zSg) (τ : zLm) {Q : Int32 → zSg → zLm → Prop} (h : SI l D b M_X6_hasTrouble 0 G0 [.ref (b + 9), .int p1] σ τ (fun r1 σ1 τ1 => (¬ r1 = 0 → (SI l D b M_X2_canBeBorne 3 G0 [.ref (b + 8), .int p1] σ1 τ1 (fun r3 σ3 τ3 => (¬ r3 = 0 → SV l D b M_X5_remember 2 G0 [.ref (b + 23), .ref (b + 14)] σ3 τ3 (fun σ5 τ5 => SV l D b M_X2_shareOut 2 G0 [.ref (b + 8), .int p1] σ5 τ5 (fun σ6 τ6 => SI l D b M_X2_leftTogether 1 G0 [.ref (b + 8)] σ6 τ6 (fun r7 σ7 τ7 => Q r7 σ7 τ7)))) ∧ (r3 = 0 → Q (-1000000003) σ3 τ3)))) ∧ (r1 = 0 → Q (-1000000001) σ1 τ1))) : AI l D b M_X11_bear 4 G0 Q 0 [(0, .ref (b + 0)), (1, .int p1)] [] G0 σ τ := by
  refine r_aload_n 0 dX11_bear_0 rfl rfl ?_
  refine r_getR (j := 3) (by decide) (congrArg Prod.fst k0_0) c12_10 (by decide) rfl g0_0_3 tw_287 dX11_bear_1 ?_
  refine r_iload_n 1 dX11_bear_4 rfl rfl ?_
  refine rc_VI (h' := 0) [.int p1] okv_X6_hasTrouble (by decide) (congrArg Prod.fst k0_9) tw_509 rfl rfl (Nat.le_of_ble_eq_true rfl) dX11_bear_5 (by decide) h (fun r1 σ1 τ1 h => ?_)
  refine r_if_ne (tgt := 14) dX11_bear_8 (by decide) (fun c2 => ?_) (fun c2 => ?_)
  · replace h := h.1 c2
    refine r_aload_n 0 dX11_bear_14 rfl rfl ?_
    refine r_getR (j := 2) (by decide) (congrArg Prod.fst k0_0) c12_10 (by decide) rfl g0_0_2 tw_286 dX11_bear_15 ?_
    refine r_iload_n 1 dX11_bear_18 rfl rfl ?_
    refine rc_VI (h' := 3) [.int p1] okv_X2_canBeBorne (by decide) (congrArg Prod.fst k0_8) tw_639 rfl rfl (Nat.le_of_ble_eq_true rfl) dX11_bear_19 (by decide) h (fun r3 σ3 τ3 h => ?_)
    refine r_if_ne (tgt := 28) dX11_bear_22 (by decide) (fun c4 => ?_) (fun c4 => ?_)
    · replace h := h.1 c4
      refine r_aload_n 0 dX11_bear_28 rfl rfl ?_
      refine r_getR (j := 7) (by decide) (congrArg Prod.fst k0_0) c12_10 (by decide) rfl g0_0_7 tw_291 dX11_bear_29 ?_
      refine r_aload_n 0 dX11_bear_32 rfl rfl ?_
      refine r_getR (j := 4) (by decide) (congrArg Prod.fst k0_0) c12_10 (by decide) rfl g0_0_4 tw_288 dX11_bear_33 ?_
      refine rc_VV (h' := 2) [.ref (b + 14)] okv_X5_remember (by decide) (congrArg Prod.fst k0_23) tw_573 rfl rfl (Nat.le_of_ble_eq_true rfl) dX11_bear_36 (by decide) h (fun σ5 τ5 h => ?_)
      refine r_aload_n 0 dX11_bear_39 rfl rfl ?_
      refine r_getR (j := 2) (by decide) (congrArg Prod.fst k0_0) c12_10 (by decide) rfl g0_0_2 tw_286 dX11_bear_40 ?_
      refine r_iload_n 1 dX11_bear_43 rfl rfl ?_
      refine rc_VV (h' := 2) [.int p1] okv_X2_shareOut (by decide) (congrArg Prod.fst k0_8) tw_644 rfl rfl (Nat.le_of_ble_eq_true rfl) dX11_bear_44 (by decide) h (fun σ6 τ6 h => ?_)
      refine r_aload_n 0 dX11_bear_47 rfl rfl ?_
      refine r_getR (j := 2) (by decide) (congrArg Prod.fst k0_0) c12_10 (by decide) rfl g0_0_2 tw_286 dX11_bear_48 ?_
      refine rc_VI (h' := 1) [] okv_X2_leftTogether (by decide) (congrArg Prod.fst k0_8) tw_445 rfl rfl (Nat.le_of_ble_eq_true rfl) dX11_bear_51 (by decide) h (fun r7 σ7 τ7 h => ?_)
      exact r_iret rfl (Nat.le_refl _) (Nat.le_refl _) dX11_bear_54 ⟨rfl, rfl, rfl, _, rfl, h⟩
    · replace h := h.2 c4
      refine r_ldc (v := (-1000000003)) rfl tw_572 rfl dX11_bear_25 ?_
      exact r_iret rfl (Nat.le_refl _) (Nat.le_refl _) dX11_bear_27 ⟨rfl, rfl, rfl, _, rfl, h⟩
  · replace h := h.2 c2
    refine r_ldc (v := (-1000000001)) rfl tw_513 rfl dX11_bear_11 ?_
    exact r_iret rfl (Nat.le_refl _) (Nat.le_refl _) dX11_bear_13 ⟨rfl, rfl, rfl, _, rfl, h⟩
theorem s_X11_bear {l : Launch} {D : zDD} {b : Nat} (p1 : Int32) (σ : zSg) (τ : zLm) {Q : Int32 → zSg → zLm → Prop} (h : SI l D b M_X6_hasTrouble 0 G0 [.ref (b + 9), .int p1] σ τ (fun r1 σ1 τ1 => (¬ r1 = 0 → (SI l D b M_X2_canBeBorne 3 G0 [.ref (b + 8), .int p1] σ1 τ1 (fun r3 σ3 τ3 => (¬ r3 = 0 → SV l D b M_X5_remember 2 G0 [.ref (b + 23), .ref (b + 14)] σ3 τ3 (fun σ5 τ5 => SV l D b M_X2_shareOut 2 G0 [.ref (b + 8), .int p1] σ5 τ5 (fun σ6 τ6 => SI l D b M_X2_leftTogether 1 G0 [.ref (b + 8)] σ6 τ6 (fun r7 σ7 τ7 => Q r7 σ7 τ7)))) ∧ (r3 = 0 → Q (-1000000003) σ3 τ3)))) ∧ (r1 = 0 → Q (-1000000001) σ1 τ1))) : SI l D b M_X11_bear 4 G0 [.ref (b + 0), .int p1] σ τ Q := zS.of (by decide) (Nat.le_of_ble_eq_true rfl) rfl (w_X11_bear_0 p1 σ τ h)

theorem dX11_toWrap_0 : decode cX11_toWrap 0 = .ok (.aload_n 0, 1) := by decide +kernel
theorem dX11_toWrap_1 : decode cX11_toWrap 1 = .ok (.getfield 33, 3) := by decide +kernel
theorem dX11_toWrap_4 : decode cX11_toWrap 4 = .ok (.iload_n 1, 1) := by decide +kernel
theorem dX11_toWrap_5 : decode cX11_toWrap 5 = .ok (.invokevirtual 160, 3) := by decide +kernel
theorem dX11_toWrap_8 : decode cX11_toWrap 8 = .ok (.ifCond .ne 6, 3) := by decide +kernel
theorem dX11_toWrap_11 : decode cX11_toWrap 11 = .ok (.ldc 164, 2) := by decide +kernel
theorem dX11_toWrap_13 : decode cX11_toWrap 13 = .ok (.ireturn, 1) := by decide +kernel
theorem dX11_toWrap_14 : decode cX11_toWrap 14 = .ok (.iload_n 2, 1) := by decide +kernel
theorem dX11_toWrap_15 : decode cX11_toWrap 15 = .ok (.ifCond .lt 8, 3) := by decide +kernel
theorem dX11_toWrap_18 : decode cX11_toWrap 18 = .ok (.iload_n 2, 1) := by decide +kernel
theorem dX11_toWrap_19 : decode cX11_toWrap 19 = .ok (.iconst 2, 1) := by decide +kernel
theorem dX11_toWrap_20 : decode cX11_toWrap 20 = .ok (.if_icmp .le 6, 3) := by decide +kernel
theorem dX11_toWrap_23 : decode cX11_toWrap 23 = .ok (.ldc 81, 2) := by decide +kernel
theorem dX11_toWrap_25 : decode cX11_toWrap 25 = .ok (.ireturn, 1) := by decide +kernel
theorem dX11_toWrap_26 : decode cX11_toWrap 26 = .ok (.aload_n 0, 1) := by decide +kernel
theorem dX11_toWrap_27 : decode cX11_toWrap 27 = .ok (.getfield 38, 3) := by decide +kernel
theorem dX11_toWrap_30 : decode cX11_toWrap 30 = .ok (.getfield 165, 3) := by decide +kernel
theorem dX11_toWrap_33 : decode cX11_toWrap 33 = .ok (.iload_n 1, 1) := by decide +kernel
theorem dX11_toWrap_34 : decode cX11_toWrap 34 = .ok (.iaload, 1) := by decide +kernel
theorem dX11_toWrap_35 : decode cX11_toWrap 35 = .ok (.istore_n 3, 1) := by decide +kernel
theorem dX11_toWrap_36 : decode cX11_toWrap 36 = .ok (.iload_n 3, 1) := by decide +kernel
theorem dX11_toWrap_37 : decode cX11_toWrap 37 = .ok (.ifCond .ne 5, 3) := by decide +kernel
theorem dX11_toWrap_40 : decode cX11_toWrap 40 = .ok (.iconst (-1), 1) := by decide +kernel
theorem dX11_toWrap_41 : decode cX11_toWrap 41 = .ok (.ireturn, 1) := by decide +kernel
theorem dX11_toWrap_42 : decode cX11_toWrap 42 = .ok (.iload_n 2, 1) := by decide +kernel
theorem dX11_toWrap_43 : decode cX11_toWrap 43 = .ok (.ifCond .ne 12, 3) := by decide +kernel
theorem dX11_toWrap_46 : decode cX11_toWrap 46 = .ok (.aload_n 0, 1) := by decide +kernel
theorem dX11_toWrap_47 : decode cX11_toWrap 47 = .ok (.getfield 43, 3) := by decide +kernel
theorem dX11_toWrap_50 : decode cX11_toWrap 50 = .ok (.iload_n 3, 1) := by decide +kernel
theorem dX11_toWrap_51 : decode cX11_toWrap 51 = .ok (.invokevirtual 253, 3) := by decide +kernel
theorem dX11_toWrap_54 : decode cX11_toWrap 54 = .ok (.ireturn, 1) := by decide +kernel
theorem dX11_toWrap_55 : decode cX11_toWrap 55 = .ok (.iload_n 2, 1) := by decide +kernel
theorem dX11_toWrap_56 : decode cX11_toWrap 56 = .ok (.iconst 1, 1) := by decide +kernel
theorem dX11_toWrap_57 : decode cX11_toWrap 57 = .ok (.if_icmp .ne 14, 3) := by decide +kernel
theorem dX11_toWrap_60 : decode cX11_toWrap 60 = .ok (.aload_n 0, 1) := by decide +kernel
theorem dX11_toWrap_61 : decode cX11_toWrap 61 = .ok (.getfield 43, 3) := by decide +kernel
theorem dX11_toWrap_64 : decode cX11_toWrap 64 = .ok (.iload_n 3, 1) := by decide +kernel
theorem dX11_toWrap_65 : decode cX11_toWrap 65 = .ok (.invokevirtual 258, 3) := by decide +kernel
theorem dX11_toWrap_68 : decode cX11_toWrap 68 = .ok (.goto 7, 3) := by decide +kernel
theorem dX11_toWrap_71 : decode cX11_toWrap 71 = .ok (.iload_n 3, 1) := by decide +kernel
theorem dX11_toWrap_72 : decode cX11_toWrap 72 = .ok (.invokestatic 261, 3) := by decide +kernel
theorem dX11_toWrap_75 : decode cX11_toWrap 75 = .ok (.ireturn, 1) := by decide +kernel
theorem w_X11_toWrap_0 {l : Launch} {D : zDD} {b : Nat} (p1 p2 : Int32) (σ : zSg) (τ : zLm) {Q : Int32 → zSg → zLm → Prop} (h : SI l D b M_X6_hasTrouble 0 G0 [.ref (b + 9), .int p1] σ τ (fun r1 σ1 τ1 => (¬ r1 = 0 → ((p2 < 0 → Q (-1000000002) σ1 τ1) ∧ (¬ p2 < 0 → ((p2 ≤ 2 → (vp_in p1 6 ∧ ((¬ (σ1 17 p1.toNatClampNeg) = 0 → ((¬ p2 = 0 → ((¬ p2 = 1 → SI l D b M_X9_squareSide 2 G0 [.int (σ1 17 p1.toNatClampNeg)] σ1 τ1 (fun r8 σ8 τ8 => Q r8 σ8 τ8)) ∧ (p2 = 1 → SI l D b M_X10_first 3 G0 [.ref (b + 19), .int (σ1 17 p1.toNatClampNeg)] σ1 τ1 (fun r9 σ9 τ9 => Q r9 σ9 τ9)))) ∧ (p2 = 0 → SI l D b M_X10_fewest 2 G0 [.ref (b + 19), .int (σ1 17 p1.toNatClampNeg)] σ1 τ1 (fun r10 σ10 τ10 => Q r10 σ10 τ10)))) ∧ ((σ1 17 p1.toNatClampNeg) = 0 → Q (-1) σ1 τ1)))) ∧ (¬ p2 ≤ 2 → Q (-1000000002) σ1 τ1))))) ∧ (r1 = 0 → Q (-1000000001) σ1 τ1))) : AI l D b M_X11_toWrap 4 G0 Q 0 [(0, .ref (b + 0)), (1, .int p1), (2, .int p2)] [] G0 σ τ := by
  refine r_aload_n 0 dX11_toWrap_0 rfl rfl ?_
  refine r_getR (j := 3) (by decide) (congrArg Prod.fst k0_0) c12_10 (by decide) rfl g0_0_3 tw_287 dX11_toWrap_1 ?_
  refine r_iload_n 1 dX11_toWrap_4 rfl rfl ?_
  refine rc_VI (h' := 0) [.int p1] okv_X6_hasTrouble (by decide) (congrArg Prod.fst k0_9) tw_509 rfl rfl (Nat.le_of_ble_eq_true rfl) dX11_toWrap_5 (by decide) h (fun r1 σ1 τ1 h => ?_)
  refine r_if_ne (tgt := 14) dX11_toWrap_8 (by decide) (fun c2 => ?_) (fun c2 => ?_)
  · replace h := h.1 c2
    refine r_iload_n 2 dX11_toWrap_14 rfl rfl ?_
    refine r_if_lt (tgt := 23) dX11_toWrap_15 (by decide) (fun c3 => ?_) (fun c3 => ?_)
    · replace h := h.1 c3
      refine r_ldc (v := (-1000000002)) rfl tw_325 rfl dX11_toWrap_23 ?_
      exact r_iret rfl (Nat.le_refl _) (Nat.le_refl _) dX11_toWrap_25 ⟨rfl, rfl, rfl, _, rfl, h⟩
    · replace h := h.2 c3
      refine r_iload_n 2 dX11_toWrap_18 rfl rfl ?_
      refine r_iconst dX11_toWrap_19 ci_2 ?_
      refine r_icmp_le (tgt := 26) dX11_toWrap_20 (by decide) (fun c4 => ?_) (fun c4 => ?_)
      · replace h := h.1 c4
        refine r_aload_n 0 dX11_toWrap_26 rfl rfl ?_
        refine r_getR (j := 4) (by decide) (congrArg Prod.fst k0_0) c12_10 (by decide) rfl g0_0_4 tw_288 dX11_toWrap_27 ?_
        refine r_getR (j := 4) (by decide) (congrArg Prod.fst k0_14) c12_8 (by decide) rfl g0_14_4 tw_129 dX11_toWrap_30 ?_
        refine r_iload_n 1 dX11_toWrap_33 rfl rfl ?_
        refine r_iald (by decide) k0_17 dX11_toWrap_34 h.1 ?_
        replace h := h.2
        refine r_istore_n dX11_toWrap_35 rfl (by decide) rfl ?_
        refine r_iload_n 0 dX11_toWrap_36 rfl rfl ?_
        refine r_if_ne (tgt := 42) dX11_toWrap_37 (by decide) (fun c5 => ?_) (fun c5 => ?_)
        · replace h := h.1 c5
          refine r_iload_n 3 dX11_toWrap_42 rfl rfl ?_
          refine r_if_ne (tgt := 55) dX11_toWrap_43 (by decide) (fun c6 => ?_) (fun c6 => ?_)
          · replace h := h.1 c6
            refine r_iload_n 3 dX11_toWrap_55 rfl rfl ?_
            refine r_iconst dX11_toWrap_56 ci_1 ?_
            refine r_icmp_ne (tgt := 71) dX11_toWrap_57 (by decide) (fun c7 => ?_) (fun c7 => ?_)
            · replace h := h.1 c7
              refine r_iload_n 0 dX11_toWrap_71 rfl rfl ?_
              refine rc_SI (h' := 2) [.int (σ1 17 p1.toNatClampNeg)] oks_X9_squareSide tw_702 rfl rfl (Nat.le_of_ble_eq_true rfl) dX11_toWrap_72 (by decide) h (fun r8 σ8 τ8 h => ?_)
              exact r_iret rfl (Nat.le_refl _) (Nat.le_refl _) dX11_toWrap_75 ⟨rfl, rfl, rfl, _, rfl, h⟩
            · replace h := h.2 c7
              refine r_aload_n 1 dX11_toWrap_60 rfl rfl ?_
              refine r_getR (j := 5) (by decide) (congrArg Prod.fst k0_0) c12_10 (by decide) rfl g0_0_5 tw_289 dX11_toWrap_61 ?_
              refine r_iload_n 0 dX11_toWrap_64 rfl rfl ?_
              refine rc_VI (h' := 3) [.int (σ1 17 p1.toNatClampNeg)] okv_X10_first (by decide) (congrArg Prod.fst k0_19) tw_697 rfl rfl (Nat.le_of_ble_eq_true rfl) dX11_toWrap_65 (by decide) h (fun r9 σ9 τ9 h => ?_)
              refine r_goto (tgt := 75) dX11_toWrap_68 (by decide) ?_
              exact r_iret rfl (Nat.le_refl _) (Nat.le_refl _) dX11_toWrap_75 ⟨rfl, rfl, rfl, _, rfl, h⟩
          · replace h := h.2 c6
            refine r_aload_n 1 dX11_toWrap_46 rfl rfl ?_
            refine r_getR (j := 5) (by decide) (congrArg Prod.fst k0_0) c12_10 (by decide) rfl g0_0_5 tw_289 dX11_toWrap_47 ?_
            refine r_iload_n 0 dX11_toWrap_50 rfl rfl ?_
            refine rc_VI (h' := 2) [.int (σ1 17 p1.toNatClampNeg)] okv_X10_fewest (by decide) (congrArg Prod.fst k0_19) tw_696 rfl rfl (Nat.le_of_ble_eq_true rfl) dX11_toWrap_51 (by decide) h (fun r10 σ10 τ10 h => ?_)
            exact r_iret rfl (Nat.le_refl _) (Nat.le_refl _) dX11_toWrap_54 ⟨rfl, rfl, rfl, _, rfl, h⟩
        · replace h := h.2 c5
          refine r_iconst dX11_toWrap_40 ci_m1 ?_
          exact r_iret rfl (Nat.le_refl _) (Nat.le_refl _) dX11_toWrap_41 ⟨rfl, rfl, rfl, _, rfl, h⟩
      · replace h := h.2 c4
        refine r_ldc (v := (-1000000002)) rfl tw_325 rfl dX11_toWrap_23 ?_
        exact r_iret rfl (Nat.le_refl _) (Nat.le_refl _) dX11_toWrap_25 ⟨rfl, rfl, rfl, _, rfl, h⟩
  · replace h := h.2 c2
    refine r_ldc (v := (-1000000001)) rfl tw_513 rfl dX11_toWrap_11 ?_
    exact r_iret rfl (Nat.le_refl _) (Nat.le_refl _) dX11_toWrap_13 ⟨rfl, rfl, rfl, _, rfl, h⟩
theorem s_X11_toWrap {l : Launch} {D : zDD} {b : Nat} (p1 p2 : Int32) (σ : zSg) (τ : zLm) {Q : Int32 → zSg → zLm → Prop} (h : SI l D b M_X6_hasTrouble 0 G0 [.ref (b + 9), .int p1] σ τ (fun r1 σ1 τ1 => (¬ r1 = 0 → ((p2 < 0 → Q (-1000000002) σ1 τ1) ∧ (¬ p2 < 0 → ((p2 ≤ 2 → (vp_in p1 6 ∧ ((¬ (σ1 17 p1.toNatClampNeg) = 0 → ((¬ p2 = 0 → ((¬ p2 = 1 → SI l D b M_X9_squareSide 2 G0 [.int (σ1 17 p1.toNatClampNeg)] σ1 τ1 (fun r8 σ8 τ8 => Q r8 σ8 τ8)) ∧ (p2 = 1 → SI l D b M_X10_first 3 G0 [.ref (b + 19), .int (σ1 17 p1.toNatClampNeg)] σ1 τ1 (fun r9 σ9 τ9 => Q r9 σ9 τ9)))) ∧ (p2 = 0 → SI l D b M_X10_fewest 2 G0 [.ref (b + 19), .int (σ1 17 p1.toNatClampNeg)] σ1 τ1 (fun r10 σ10 τ10 => Q r10 σ10 τ10)))) ∧ ((σ1 17 p1.toNatClampNeg) = 0 → Q (-1) σ1 τ1)))) ∧ (¬ p2 ≤ 2 → Q (-1000000002) σ1 τ1))))) ∧ (r1 = 0 → Q (-1000000001) σ1 τ1))) : SI l D b M_X11_toWrap 4 G0 [.ref (b + 0), .int p1, .int p2] σ τ Q := zS.of (by decide) (Nat.le_of_ble_eq_true rfl) rfl (w_X11_toWrap_0 p1 p2 σ τ h)

theorem dX11_drift_0 : decode cX11_drift 0 = .ok (.aload_n 0, 1) := by decide +kernel
theorem dX11_drift_1 : decode cX11_drift 1 = .ok (.iload_n 1, 1) := by decide +kernel
theorem dX11_drift_2 : decode cX11_drift 2 = .ok (.invokevirtual 218, 3) := by decide +kernel
theorem dX11_drift_5 : decode cX11_drift 5 = .ok (.istore_n 2, 1) := by decide +kernel
theorem dX11_drift_6 : decode cX11_drift 6 = .ok (.iload_n 2, 1) := by decide +kernel
theorem dX11_drift_7 : decode cX11_drift 7 = .ok (.ifCond .eq 5, 3) := by decide +kernel
theorem dX11_drift_10 : decode cX11_drift 10 = .ok (.iload_n 2, 1) := by decide +kernel
theorem dX11_drift_11 : decode cX11_drift 11 = .ok (.ireturn, 1) := by decide +kernel
theorem dX11_drift_12 : decode cX11_drift 12 = .ok (.aload_n 0, 1) := by decide +kernel
theorem dX11_drift_13 : decode cX11_drift 13 = .ok (.getfield 52, 3) := by decide +kernel
theorem dX11_drift_16 : decode cX11_drift 16 = .ok (.aload_n 0, 1) := by decide +kernel
theorem dX11_drift_17 : decode cX11_drift 17 = .ok (.getfield 38, 3) := by decide +kernel
theorem dX11_drift_20 : decode cX11_drift 20 = .ok (.invokevirtual 208, 3) := by decide +kernel
theorem dX11_drift_23 : decode cX11_drift 23 = .ok (.iconst 0, 1) := by decide +kernel
theorem dX11_drift_24 : decode cX11_drift 24 = .ok (.istore_n 3, 1) := by decide +kernel
theorem dX11_drift_25 : decode cX11_drift 25 = .ok (.iload_n 3, 1) := by decide +kernel
theorem dX11_drift_26 : decode cX11_drift 26 = .ok (.iload_n 1, 1) := by decide +kernel
theorem dX11_drift_27 : decode cX11_drift 27 = .ok (.if_icmp .ge 23, 3) := by decide +kernel
theorem dX11_drift_30 : decode cX11_drift 30 = .ok (.aload_n 0, 1) := by decide +kernel
theorem dX11_drift_31 : decode cX11_drift 31 = .ok (.getfield 26, 3) := by decide +kernel
theorem dX11_drift_34 : decode cX11_drift 34 = .ok (.invokevirtual 247, 3) := by decide +kernel
theorem dX11_drift_37 : decode cX11_drift 37 = .ok (.aload_n 0, 1) := by decide +kernel
theorem dX11_drift_38 : decode cX11_drift 38 = .ok (.getfield 26, 3) := by decide +kernel
theorem dX11_drift_41 : decode cX11_drift 41 = .ok (.invokevirtual 221, 3) := by decide +kernel
theorem dX11_drift_44 : decode cX11_drift 44 = .ok (.iinc 3 1, 3) := by decide +kernel
theorem dX11_drift_47 : decode cX11_drift 47 = .ok (.goto (-22), 3) := by decide +kernel
theorem dX11_drift_50 : decode cX11_drift 50 = .ok (.aload_n 0, 1) := by decide +kernel
theorem dX11_drift_51 : decode cX11_drift 51 = .ok (.getfield 26, 3) := by decide +kernel
theorem dX11_drift_54 : decode cX11_drift 54 = .ok (.iconst 3, 1) := by decide +kernel
theorem dX11_drift_55 : decode cX11_drift 55 = .ok (.invokevirtual 126, 3) := by decide +kernel
theorem dX11_drift_58 : decode cX11_drift 58 = .ok (.ireturn, 1) := by decide +kernel
theorem w_X11_drift_25 {l : Launch} {D : zDD} {b : Nat} (x1 x3 : Int32) (σ : zSg) (τ : zLm) {Q : Int32 → zSg → zLm → Prop} (h : (x1 ≤ x3 → SI l D b M_X2_allThatAre 0 G0 [.ref (b + 8), .int 3] σ τ (fun r2 σ2 τ2 => Q r2 σ2 τ2)) ∧ (¬ x1 ≤ x3 → SV l D b M_X2_actByDraws 4 G0 [.ref (b + 8)] σ τ (fun σ3 τ3 => SV l D b M_X2_boil 3 G0 [.ref (b + 8)] σ3 τ3 (fun σ4 τ4 => AI l D b M_X11_drift 5 G0 Q 25 [(0, .ref (b + 0)), (1, .int x1), (3, .int (x3 + 1))] [] G0 σ4 τ4)))) : AI l D b M_X11_drift 5 G0 Q 25 [(0, .ref (b + 0)), (1, .int x1), (3, .int x3)] [] G0 σ τ := by
  refine r_iload_n 2 dX11_drift_25 rfl rfl ?_
  refine r_iload_n 1 dX11_drift_26 rfl rfl ?_
  refine r_icmp_ge (tgt := 50) dX11_drift_27 (by decide) (fun c1 => ?_) (fun c1 => ?_)
  · replace h := h.1 c1
    refine r_aload_n 0 dX11_drift_50 rfl rfl ?_
    refine r_getR (j := 2) (by decide) (congrArg Prod.fst k0_0) c12_10 (by decide) rfl g0_0_2 tw_286 dX11_drift_51 ?_
    refine r_iconst dX11_drift_54 ci_3 ?_
    refine rc_VI (h' := 0) [.int 3] okv_X2_allThatAre (by decide) (congrArg Prod.fst k0_8) tw_433 rfl rfl (Nat.le_of_ble_eq_true rfl) dX11_drift_55 (by decide) h (fun r2 σ2 τ2 h => ?_)
    exact r_iret rfl (Nat.le_refl _) (Nat.le_refl _) dX11_drift_58 ⟨rfl, rfl, rfl, _, rfl, h⟩
  · replace h := h.2 c1
    refine r_aload_n 0 dX11_drift_30 rfl rfl ?_
    refine r_getR (j := 2) (by decide) (congrArg Prod.fst k0_0) c12_10 (by decide) rfl g0_0_2 tw_286 dX11_drift_31 ?_
    refine rc_VV (h' := 4) [] okv_X2_actByDraws (by decide) (congrArg Prod.fst k0_8) tw_667 rfl rfl (Nat.le_of_ble_eq_true rfl) dX11_drift_34 (by decide) h (fun σ3 τ3 h => ?_)
    refine r_aload_n 0 dX11_drift_37 rfl rfl ?_
    refine r_getR (j := 2) (by decide) (congrArg Prod.fst k0_0) c12_10 (by decide) rfl g0_0_2 tw_286 dX11_drift_38 ?_
    refine rc_VV (h' := 3) [] okv_X2_boil (by decide) (congrArg Prod.fst k0_8) tw_623 rfl rfl (Nat.le_of_ble_eq_true rfl) dX11_drift_41 (by decide) h (fun σ4 τ4 h => ?_)
    refine r_inc 2 dX11_drift_44 rfl ci_1 (by decide) rfl ?_
    refine r_goto (tgt := 25) dX11_drift_47 (by decide) ?_
    refine r_lv [1, 2, 0] rfl ?_
    exact h

theorem w_X11_drift_0 {l : Launch} {D : zDD} {b : Nat} (p1 : Int32) (σ : zSg) (τ : zLm) {Q : Int32 → zSg → zLm → Prop} (h : SI l D b M_X11_refusalOfHours 1 G0 [.ref (b + 0), .int p1] σ τ (fun r1 σ1 τ1 => (r1 = 0 → SV l D b M_X5_remember 2 G0 [.ref (b + 23), .ref (b + 14)] σ1 τ1 (fun σ3 τ3 => AI l D b M_X11_drift 5 G0 Q 25 [(0, .ref (b + 0)), (1, .int p1), (3, .int 0)] [] G0 σ3 τ3)) ∧ (¬ r1 = 0 → Q r1 σ1 τ1))) : AI l D b M_X11_drift 5 G0 Q 0 [(0, .ref (b + 0)), (1, .int p1)] [] G0 σ τ := by
  refine r_aload_n 0 dX11_drift_0 rfl rfl ?_
  refine r_iload_n 1 dX11_drift_1 rfl rfl ?_
  refine rc_VI (h' := 1) [.int p1] okv_X11_refusalOfHours (by decide) (congrArg Prod.fst k0_0) tw_618 rfl rfl (Nat.le_of_ble_eq_true rfl) dX11_drift_2 (by decide) h (fun r1 σ1 τ1 h => ?_)
  refine r_istore_n dX11_drift_5 rfl (by decide) rfl ?_
  refine r_iload_n 0 dX11_drift_6 rfl rfl ?_
  refine r_if_eq (tgt := 12) dX11_drift_7 (by decide) (fun c2 => ?_) (fun c2 => ?_)
  · replace h := h.1 c2
    refine r_aload_n 1 dX11_drift_12 rfl rfl ?_
    refine r_getR (j := 7) (by decide) (congrArg Prod.fst k0_0) c12_10 (by decide) rfl g0_0_7 tw_291 dX11_drift_13 ?_
    refine r_aload_n 1 dX11_drift_16 rfl rfl ?_
    refine r_getR (j := 4) (by decide) (congrArg Prod.fst k0_0) c12_10 (by decide) rfl g0_0_4 tw_288 dX11_drift_17 ?_
    refine rc_VV (h' := 2) [.ref (b + 14)] okv_X5_remember (by decide) (congrArg Prod.fst k0_23) tw_573 rfl rfl (Nat.le_of_ble_eq_true rfl) dX11_drift_20 (by decide) h (fun σ3 τ3 h => ?_)
    refine r_iconst dX11_drift_23 ci_0 ?_
    refine r_istore_n dX11_drift_24 rfl (by decide) rfl ?_
    refine r_lv [2, 3, 0] rfl ?_
    exact h
  · replace h := h.2 c2
    refine r_iload_n 0 dX11_drift_10 rfl rfl ?_
    exact r_iret rfl (Nat.le_refl _) (Nat.le_refl _) dX11_drift_11 ⟨rfl, rfl, rfl, _, rfl, h⟩
theorem s_X11_drift {l : Launch} {D : zDD} {b : Nat} (p1 : Int32) (σ : zSg) (τ : zLm) {Q : Int32 → zSg → zLm → Prop} (h : SI l D b M_X11_refusalOfHours 1 G0 [.ref (b + 0), .int p1] σ τ (fun r1 σ1 τ1 => (r1 = 0 → SV l D b M_X5_remember 2 G0 [.ref (b + 23), .ref (b + 14)] σ1 τ1 (fun σ3 τ3 => AI l D b M_X11_drift 5 G0 Q 25 [(0, .ref (b + 0)), (1, .int p1), (3, .int 0)] [] G0 σ3 τ3)) ∧ (¬ r1 = 0 → Q r1 σ1 τ1))) : SI l D b M_X11_drift 5 G0 [.ref (b + 0), .int p1] σ τ Q := zS.of (by decide) (Nat.le_of_ble_eq_true rfl) rfl (w_X11_drift_0 p1 σ τ h)

theorem dX11_kitchen_0 : decode cX11_kitchen 0 = .ok (.aload_n 0, 1) := by decide +kernel
theorem dX11_kitchen_1 : decode cX11_kitchen 1 = .ok (.getfield 10, 3) := by decide +kernel
theorem dX11_kitchen_4 : decode cX11_kitchen 4 = .ok (.aload_n 0, 1) := by decide +kernel
theorem dX11_kitchen_5 : decode cX11_kitchen 5 = .ok (.getfield 19, 3) := by decide +kernel
theorem dX11_kitchen_8 : decode cX11_kitchen 8 = .ok (.invokevirtual 90, 3) := by decide +kernel
theorem dX11_kitchen_11 : decode cX11_kitchen 11 = .ok (.istore_n 1, 1) := by decide +kernel
theorem dX11_kitchen_12 : decode cX11_kitchen 12 = .ok (.aload_n 0, 1) := by decide +kernel
theorem dX11_kitchen_13 : decode cX11_kitchen 13 = .ok (.aload_n 0, 1) := by decide +kernel
theorem dX11_kitchen_14 : decode cX11_kitchen 14 = .ok (.getfield 10, 3) := by decide +kernel
theorem dX11_kitchen_17 : decode cX11_kitchen 17 = .ok (.getfield 94, 3) := by decide +kernel
theorem dX11_kitchen_20 : decode cX11_kitchen 20 = .ok (.putfield 77, 3) := by decide +kernel
theorem dX11_kitchen_23 : decode cX11_kitchen 23 = .ok (.iload_n 1, 1) := by decide +kernel
theorem dX11_kitchen_24 : decode cX11_kitchen 24 = .ok (.ifCond .eq 8, 3) := by decide +kernel
theorem dX11_kitchen_27 : decode cX11_kitchen 27 = .ok (.bipush (-10), 2) := by decide +kernel
theorem dX11_kitchen_29 : decode cX11_kitchen 29 = .ok (.iload_n 1, 1) := by decide +kernel
theorem dX11_kitchen_30 : decode cX11_kitchen 30 = .ok (.isub, 1) := by decide +kernel
theorem dX11_kitchen_31 : decode cX11_kitchen 31 = .ok (.ireturn, 1) := by decide +kernel
theorem dX11_kitchen_32 : decode cX11_kitchen 32 = .ok (.aload_n 0, 1) := by decide +kernel
theorem dX11_kitchen_33 : decode cX11_kitchen 33 = .ok (.getfield 33, 3) := by decide +kernel
theorem dX11_kitchen_36 : decode cX11_kitchen 36 = .ok (.aload_n 0, 1) := by decide +kernel
theorem dX11_kitchen_37 : decode cX11_kitchen 37 = .ok (.getfield 19, 3) := by decide +kernel
theorem dX11_kitchen_40 : decode cX11_kitchen 40 = .ok (.invokevirtual 95, 3) := by decide +kernel
theorem dX11_kitchen_43 : decode cX11_kitchen 43 = .ok (.aload_n 0, 1) := by decide +kernel
theorem dX11_kitchen_44 : decode cX11_kitchen 44 = .ok (.getfield 38, 3) := by decide +kernel
theorem dX11_kitchen_47 : decode cX11_kitchen 47 = .ok (.aload_n 0, 1) := by decide +kernel
theorem dX11_kitchen_48 : decode cX11_kitchen 48 = .ok (.getfield 33, 3) := by decide +kernel
theorem dX11_kitchen_51 : decode cX11_kitchen 51 = .ok (.invokevirtual 99, 3) := by decide +kernel
theorem dX11_kitchen_54 : decode cX11_kitchen 54 = .ok (.aload_n 0, 1) := by decide +kernel
theorem dX11_kitchen_55 : decode cX11_kitchen 55 = .ok (.getfield 52, 3) := by decide +kernel
theorem dX11_kitchen_58 : decode cX11_kitchen 58 = .ok (.invokevirtual 104, 3) := by decide +kernel
theorem dX11_kitchen_61 : decode cX11_kitchen 61 = .ok (.aload_n 0, 1) := by decide +kernel
theorem dX11_kitchen_62 : decode cX11_kitchen 62 = .ok (.getfield 66, 3) := by decide +kernel
theorem dX11_kitchen_65 : decode cX11_kitchen 65 = .ok (.invokevirtual 107, 3) := by decide +kernel
theorem dX11_kitchen_68 : decode cX11_kitchen 68 = .ok (.aload_n 0, 1) := by decide +kernel
theorem dX11_kitchen_69 : decode cX11_kitchen 69 = .ok (.getfield 73, 3) := by decide +kernel
theorem dX11_kitchen_72 : decode cX11_kitchen 72 = .ok (.invokevirtual 110, 3) := by decide +kernel
theorem dX11_kitchen_75 : decode cX11_kitchen 75 = .ok (.aload_n 0, 1) := by decide +kernel
theorem dX11_kitchen_76 : decode cX11_kitchen 76 = .ok (.getfield 33, 3) := by decide +kernel
theorem dX11_kitchen_79 : decode cX11_kitchen 79 = .ok (.getfield 111, 3) := by decide +kernel
theorem dX11_kitchen_82 : decode cX11_kitchen 82 = .ok (.ireturn, 1) := by decide +kernel
theorem w_X11_kitchen_0 {l : Launch} {D : zDD} {b : Nat} (σ : zSg) (τ : zLm) {Q : Int32 → zSg → zLm → Prop} (h : SI l D b M_X7_read 5 G0 [.ref (b + 1), .ref (b + 3)] σ τ (fun r1 σ1 τ1 => (r1 = 0 → SV l D b M_X6_become 1 G0 [.ref (b + 9), .ref (b + 3)] (st2 σ1 0 11 (σ1 1 2)) τ1 (fun σ3 τ3 => SV l D b M_X8_begin 1 G0 [.ref (b + 14), .ref (b + 9)] σ3 τ3 (fun σ4 τ4 => SV l D b M_X5_forgetAll 1 G0 [.ref (b + 23)] σ4 τ4 (fun σ5 τ5 => SV l D b M_X1_clear 0 G0 [.ref (b + 120)] σ5 τ5 (fun σ6 τ6 => SV l D b M_X0_clear 0 G0 [.ref (b + 122)] σ6 τ6 (fun σ7 τ7 => Q (σ7 9 2) σ7 τ7)))))) ∧ (¬ r1 = 0 → Q ((-10) - r1) (st2 σ1 0 11 (σ1 1 2)) τ1))) : AI l D b M_X11_kitchen 6 G0 Q 0 [(0, .ref (b + 0))] [] G0 σ τ := by
  refine r_aload_n 0 dX11_kitchen_0 rfl rfl ?_
  refine r_getR (j := 0) (by decide) (congrArg Prod.fst k0_0) c12_10 (by decide) rfl g0_0_0 tw_284 dX11_kitchen_1 ?_
  refine r_aload_n 0 dX11_kitchen_4 rfl rfl ?_
  refine r_getR (j := 1) (by decide) (congrArg Prod.fst k0_0) c12_10 (by decide) rfl g0_0_1 tw_285 dX11_kitchen_5 ?_
  refine rc_VI (h' := 5) [.ref (b + 3)] okv_X7_read (by decide) (congrArg Prod.fst k0_1) tw_335 rfl rfl (Nat.le_of_ble_eq_true rfl) dX11_kitchen_8 (by decide) h (fun r1 σ1 τ1 h => ?_)
  refine r_istore_n dX11_kitchen_11 rfl (by decide) rfl ?_
  refine r_aload_n 1 dX11_kitchen_12 rfl rfl ?_
  refine r_aload_n 1 dX11_kitchen_13 rfl rfl ?_
  refine r_getR (j := 0) (by decide) (congrArg Prod.fst k0_0) c12_10 (by decide) rfl g0_0_0 tw_284 dX11_kitchen_14 ?_
  refine r_getI (j := 2) (by decide) (congrArg Prod.fst k0_1) c12_7 (by decide) rfl tw_35 dX11_kitchen_17 ?_
  refine r_putI (j := 11) (by decide) (congrArg Prod.fst k0_0) c12_10 (by decide) rfl (Or.inl rfl) tw_295 dX11_kitchen_20 ?_
  refine r_iload_n 0 dX11_kitchen_23 rfl rfl ?_
  refine r_if_eq (tgt := 32) dX11_kitchen_24 (by decide) (fun c2 => ?_) (fun c2 => ?_)
  · replace h := h.1 c2
    refine r_aload_n 1 dX11_kitchen_32 rfl rfl ?_
    refine r_getR (j := 3) (by decide) (congrArg Prod.fst k0_0) c12_10 (by decide) rfl g0_0_3 tw_287 dX11_kitchen_33 ?_
    refine r_aload_n 1 dX11_kitchen_36 rfl rfl ?_
    refine r_getR (j := 1) (by decide) (congrArg Prod.fst k0_0) c12_10 (by decide) rfl g0_0_1 tw_285 dX11_kitchen_37 ?_
    refine rc_VV (h' := 1) [.ref (b + 3)] okv_X6_become (by decide) (congrArg Prod.fst k0_9) tw_397 rfl rfl (Nat.le_of_ble_eq_true rfl) dX11_kitchen_40 (by decide) h (fun σ3 τ3 h => ?_)
    refine r_aload_n 1 dX11_kitchen_43 rfl rfl ?_
    refine r_getR (j := 4) (by decide) (congrArg Prod.fst k0_0) c12_10 (by decide) rfl g0_0_4 tw_288 dX11_kitchen_44 ?_
    refine r_aload_n 1 dX11_kitchen_47 rfl rfl ?_
    refine r_getR (j := 3) (by decide) (congrArg Prod.fst k0_0) c12_10 (by decide) rfl g0_0_3 tw_287 dX11_kitchen_48 ?_
    refine rc_VV (h' := 1) [.ref (b + 9)] okv_X8_begin (by decide) (congrArg Prod.fst k0_14) tw_404 rfl rfl (Nat.le_of_ble_eq_true rfl) dX11_kitchen_51 (by decide) h (fun σ4 τ4 h => ?_)
    refine r_aload_n 1 dX11_kitchen_54 rfl rfl ?_
    refine r_getR (j := 7) (by decide) (congrArg Prod.fst k0_0) c12_10 (by decide) rfl g0_0_7 tw_291 dX11_kitchen_55 ?_
    refine rc_VV (h' := 1) [] okv_X5_forgetAll (by decide) (congrArg Prod.fst k0_23) tw_409 rfl rfl (Nat.le_of_ble_eq_true rfl) dX11_kitchen_58 (by decide) h (fun σ5 τ5 h => ?_)
    refine r_aload_n 1 dX11_kitchen_61 rfl rfl ?_
    refine r_getR (j := 9) (by decide) (congrArg Prod.fst k0_0) c12_10 (by decide) rfl g0_0_9 tw_293 dX11_kitchen_62 ?_
    refine rc_VV (h' := 0) [] okv_X1_clear (by decide) (congrArg Prod.fst k0_120) tw_417 rfl rfl (Nat.le_of_ble_eq_true rfl) dX11_kitchen_65 (by decide) h (fun σ6 τ6 h => ?_)
    refine r_aload_n 1 dX11_kitchen_68 rfl rfl ?_
    refine r_getR (j := 10) (by decide) (congrArg Prod.fst k0_0) c12_10 (by decide) rfl g0_0_10 tw_294 dX11_kitchen_69 ?_
    refine rc_VV (h' := 0) [] okv_X0_clear (by decide) (congrArg Prod.fst k0_122) tw_421 rfl rfl (Nat.le_of_ble_eq_true rfl) dX11_kitchen_72 (by decide) h (fun σ7 τ7 h => ?_)
    refine r_aload_n 1 dX11_kitchen_75 rfl rfl ?_
    refine r_getR (j := 3) (by decide) (congrArg Prod.fst k0_0) c12_10 (by decide) rfl g0_0_3 tw_287 dX11_kitchen_76 ?_
    refine r_getI (j := 2) (by decide) (congrArg Prod.fst k0_9) c12_6 (by decide) rfl tw_66 dX11_kitchen_79 ?_
    exact r_iret rfl (Nat.le_refl _) (Nat.le_refl _) dX11_kitchen_82 ⟨rfl, rfl, rfl, _, rfl, h⟩
  · replace h := h.2 c2
    refine r_bipush dX11_kitchen_27 cb_m10 ?_
    refine r_iload_n 0 dX11_kitchen_29 rfl rfl ?_
    refine r_isub dX11_kitchen_30 ?_
    exact r_iret rfl (Nat.le_refl _) (Nat.le_refl _) dX11_kitchen_31 ⟨rfl, rfl, rfl, _, rfl, h⟩
theorem s_X11_kitchen {l : Launch} {D : zDD} {b : Nat} (σ : zSg) (τ : zLm) {Q : Int32 → zSg → zLm → Prop} (h : SI l D b M_X7_read 5 G0 [.ref (b + 1), .ref (b + 3)] σ τ (fun r1 σ1 τ1 => (r1 = 0 → SV l D b M_X6_become 1 G0 [.ref (b + 9), .ref (b + 3)] (st2 σ1 0 11 (σ1 1 2)) τ1 (fun σ3 τ3 => SV l D b M_X8_begin 1 G0 [.ref (b + 14), .ref (b + 9)] σ3 τ3 (fun σ4 τ4 => SV l D b M_X5_forgetAll 1 G0 [.ref (b + 23)] σ4 τ4 (fun σ5 τ5 => SV l D b M_X1_clear 0 G0 [.ref (b + 120)] σ5 τ5 (fun σ6 τ6 => SV l D b M_X0_clear 0 G0 [.ref (b + 122)] σ6 τ6 (fun σ7 τ7 => Q (σ7 9 2) σ7 τ7)))))) ∧ (¬ r1 = 0 → Q ((-10) - r1) (st2 σ1 0 11 (σ1 1 2)) τ1))) : SI l D b M_X11_kitchen 6 G0 [.ref (b + 0)] σ τ Q := zS.of (by decide) (Nat.le_of_ble_eq_true rfl) rfl (w_X11_kitchen_0 σ τ h)

theorem dX11_told_0 : decode cX11_told 0 = .ok (.iload_n 1, 1) := by decide +kernel
theorem dX11_told_1 : decode cX11_told 1 = .ok (.tableswitch 270 0 18 #[91, 99, 107, 115, 123, 131, 139, 148, 157, 166, 174, 182, 190, 198, 206, 222, 238, 254, 262], 91) := by decide +kernel
theorem dX11_told_92 : decode cX11_told 92 = .ok (.aload_n 0, 1) := by decide +kernel
theorem dX11_told_93 : decode cX11_told 93 = .ok (.getfield 33, 3) := by decide +kernel
theorem dX11_told_96 : decode cX11_told 96 = .ok (.getfield 114, 3) := by decide +kernel
theorem dX11_told_99 : decode cX11_told 99 = .ok (.ireturn, 1) := by decide +kernel
theorem dX11_told_100 : decode cX11_told 100 = .ok (.aload_n 0, 1) := by decide +kernel
theorem dX11_told_101 : decode cX11_told 101 = .ok (.getfield 33, 3) := by decide +kernel
theorem dX11_told_104 : decode cX11_told 104 = .ok (.getfield 117, 3) := by decide +kernel
theorem dX11_told_107 : decode cX11_told 107 = .ok (.ireturn, 1) := by decide +kernel
theorem dX11_told_108 : decode cX11_told 108 = .ok (.aload_n 0, 1) := by decide +kernel
theorem dX11_told_109 : decode cX11_told 109 = .ok (.getfield 33, 3) := by decide +kernel
theorem dX11_told_112 : decode cX11_told 112 = .ok (.getfield 111, 3) := by decide +kernel
theorem dX11_told_115 : decode cX11_told 115 = .ok (.ireturn, 1) := by decide +kernel
theorem dX11_told_116 : decode cX11_told 116 = .ok (.aload_n 0, 1) := by decide +kernel
theorem dX11_told_117 : decode cX11_told 117 = .ok (.getfield 33, 3) := by decide +kernel
theorem dX11_told_120 : decode cX11_told 120 = .ok (.getfield 120, 3) := by decide +kernel
theorem dX11_told_123 : decode cX11_told 123 = .ok (.ireturn, 1) := by decide +kernel
theorem dX11_told_124 : decode cX11_told 124 = .ok (.aload_n 0, 1) := by decide +kernel
theorem dX11_told_125 : decode cX11_told 125 = .ok (.getfield 10, 3) := by decide +kernel
theorem dX11_told_128 : decode cX11_told 128 = .ok (.getfield 82, 3) := by decide +kernel
theorem dX11_told_131 : decode cX11_told 131 = .ok (.ireturn, 1) := by decide +kernel
theorem dX11_told_132 : decode cX11_told 132 = .ok (.aload_n 0, 1) := by decide +kernel
theorem dX11_told_133 : decode cX11_told 133 = .ok (.getfield 38, 3) := by decide +kernel
theorem dX11_told_136 : decode cX11_told 136 = .ok (.getfield 123, 3) := by decide +kernel
theorem dX11_told_139 : decode cX11_told 139 = .ok (.ireturn, 1) := by decide +kernel
theorem dX11_told_140 : decode cX11_told 140 = .ok (.aload_n 0, 1) := by decide +kernel
theorem dX11_told_141 : decode cX11_told 141 = .ok (.getfield 26, 3) := by decide +kernel
theorem dX11_told_144 : decode cX11_told 144 = .ok (.iconst 1, 1) := by decide +kernel
theorem dX11_told_145 : decode cX11_told 145 = .ok (.invokevirtual 126, 3) := by decide +kernel
theorem dX11_told_148 : decode cX11_told 148 = .ok (.ireturn, 1) := by decide +kernel
theorem dX11_told_149 : decode cX11_told 149 = .ok (.aload_n 0, 1) := by decide +kernel
theorem dX11_told_150 : decode cX11_told 150 = .ok (.getfield 26, 3) := by decide +kernel
theorem dX11_told_153 : decode cX11_told 153 = .ok (.iconst 2, 1) := by decide +kernel
theorem dX11_told_154 : decode cX11_told 154 = .ok (.invokevirtual 126, 3) := by decide +kernel
theorem dX11_told_157 : decode cX11_told 157 = .ok (.ireturn, 1) := by decide +kernel
theorem dX11_told_158 : decode cX11_told 158 = .ok (.aload_n 0, 1) := by decide +kernel
theorem dX11_told_159 : decode cX11_told 159 = .ok (.getfield 26, 3) := by decide +kernel
theorem dX11_told_162 : decode cX11_told 162 = .ok (.iconst 3, 1) := by decide +kernel
theorem dX11_told_163 : decode cX11_told 163 = .ok (.invokevirtual 126, 3) := by decide +kernel
theorem dX11_told_166 : decode cX11_told 166 = .ok (.ireturn, 1) := by decide +kernel
theorem dX11_told_167 : decode cX11_told 167 = .ok (.aload_n 0, 1) := by decide +kernel
theorem dX11_told_168 : decode cX11_told 168 = .ok (.getfield 26, 3) := by decide +kernel
theorem dX11_told_171 : decode cX11_told 171 = .ok (.invokevirtual 129, 3) := by decide +kernel
theorem dX11_told_174 : decode cX11_told 174 = .ok (.ireturn, 1) := by decide +kernel
theorem dX11_told_175 : decode cX11_told 175 = .ok (.aload_n 0, 1) := by decide +kernel
theorem dX11_told_176 : decode cX11_told 176 = .ok (.getfield 38, 3) := by decide +kernel
theorem dX11_told_179 : decode cX11_told 179 = .ok (.getfield 133, 3) := by decide +kernel
theorem dX11_told_182 : decode cX11_told 182 = .ok (.ireturn, 1) := by decide +kernel
theorem dX11_told_183 : decode cX11_told 183 = .ok (.aload_n 0, 1) := by decide +kernel
theorem dX11_told_184 : decode cX11_told 184 = .ok (.getfield 26, 3) := by decide +kernel
theorem dX11_told_187 : decode cX11_told 187 = .ok (.invokevirtual 135, 3) := by decide +kernel
theorem dX11_told_190 : decode cX11_told 190 = .ok (.ireturn, 1) := by decide +kernel
theorem dX11_told_191 : decode cX11_told 191 = .ok (.aload_n 0, 1) := by decide +kernel
theorem dX11_told_192 : decode cX11_told 192 = .ok (.getfield 26, 3) := by decide +kernel
theorem dX11_told_195 : decode cX11_told 195 = .ok (.invokevirtual 138, 3) := by decide +kernel
theorem dX11_told_198 : decode cX11_told 198 = .ok (.ireturn, 1) := by decide +kernel
theorem dX11_told_199 : decode cX11_told 199 = .ok (.aload_n 0, 1) := by decide +kernel
theorem dX11_told_200 : decode cX11_told 200 = .ok (.getfield 66, 3) := by decide +kernel
theorem dX11_told_203 : decode cX11_told 203 = .ok (.getfield 141, 3) := by decide +kernel
theorem dX11_told_206 : decode cX11_told 206 = .ok (.ireturn, 1) := by decide +kernel
theorem dX11_told_207 : decode cX11_told 207 = .ok (.aload_n 0, 1) := by decide +kernel
theorem dX11_told_208 : decode cX11_told 208 = .ok (.getfield 66, 3) := by decide +kernel
theorem dX11_told_211 : decode cX11_told 211 = .ok (.aload_n 0, 1) := by decide +kernel
theorem dX11_told_212 : decode cX11_told 212 = .ok (.getfield 33, 3) := by decide +kernel
theorem dX11_told_215 : decode cX11_told 215 = .ok (.aload_n 0, 1) := by decide +kernel
theorem dX11_told_216 : decode cX11_told 216 = .ok (.getfield 38, 3) := by decide +kernel
theorem dX11_told_219 : decode cX11_told 219 = .ok (.invokevirtual 144, 3) := by decide +kernel
theorem dX11_told_222 : decode cX11_told 222 = .ok (.ireturn, 1) := by decide +kernel
theorem dX11_told_223 : decode cX11_told 223 = .ok (.aload_n 0, 1) := by decide +kernel
theorem dX11_told_224 : decode cX11_told 224 = .ok (.getfield 66, 3) := by decide +kernel
theorem dX11_told_227 : decode cX11_told 227 = .ok (.aload_n 0, 1) := by decide +kernel
theorem dX11_told_228 : decode cX11_told 228 = .ok (.getfield 33, 3) := by decide +kernel
theorem dX11_told_231 : decode cX11_told 231 = .ok (.aload_n 0, 1) := by decide +kernel
theorem dX11_told_232 : decode cX11_told 232 = .ok (.getfield 38, 3) := by decide +kernel
theorem dX11_told_235 : decode cX11_told 235 = .ok (.invokevirtual 148, 3) := by decide +kernel
theorem dX11_told_238 : decode cX11_told 238 = .ok (.ireturn, 1) := by decide +kernel
theorem dX11_told_239 : decode cX11_told 239 = .ok (.aload_n 0, 1) := by decide +kernel
theorem dX11_told_240 : decode cX11_told 240 = .ok (.getfield 66, 3) := by decide +kernel
theorem dX11_told_243 : decode cX11_told 243 = .ok (.aload_n 0, 1) := by decide +kernel
theorem dX11_told_244 : decode cX11_told 244 = .ok (.getfield 33, 3) := by decide +kernel
theorem dX11_told_247 : decode cX11_told 247 = .ok (.aload_n 0, 1) := by decide +kernel
theorem dX11_told_248 : decode cX11_told 248 = .ok (.getfield 38, 3) := by decide +kernel
theorem dX11_told_251 : decode cX11_told 251 = .ok (.invokevirtual 151, 3) := by decide +kernel
theorem dX11_told_254 : decode cX11_told 254 = .ok (.ireturn, 1) := by decide +kernel
theorem dX11_told_255 : decode cX11_told 255 = .ok (.aload_n 0, 1) := by decide +kernel
theorem dX11_told_256 : decode cX11_told 256 = .ok (.getfield 73, 3) := by decide +kernel
theorem dX11_told_259 : decode cX11_told 259 = .ok (.getfield 154, 3) := by decide +kernel
theorem dX11_told_262 : decode cX11_told 262 = .ok (.ireturn, 1) := by decide +kernel
theorem dX11_told_263 : decode cX11_told 263 = .ok (.aload_n 0, 1) := by decide +kernel
theorem dX11_told_264 : decode cX11_told 264 = .ok (.getfield 52, 3) := by decide +kernel
theorem dX11_told_267 : decode cX11_told 267 = .ok (.getfield 157, 3) := by decide +kernel
theorem dX11_told_270 : decode cX11_told 270 = .ok (.ireturn, 1) := by decide +kernel
theorem dX11_told_271 : decode cX11_told 271 = .ok (.ldc 81, 2) := by decide +kernel
theorem dX11_told_273 : decode cX11_told 273 = .ok (.ireturn, 1) := by decide +kernel
theorem w_X11_told_0 {l : Launch} {D : zDD} {b : Nat} (p1 : Int32) (σ : zSg) (τ : zLm) {Q : Int32 → zSg → zLm → Prop} (h : ((p1.toInt < 0 ∨ (18 : Int) < p1.toInt) → Q (-1000000002) σ τ) ∧ (p1 = 0 → Q (σ 9 0) σ τ) ∧ (p1 = 1 → Q (σ 9 1) σ τ) ∧ (p1 = 2 → Q (σ 9 2) σ τ) ∧ (p1 = 3 → Q (σ 9 3) σ τ) ∧ (p1 = 4 → Q (σ 1 1) σ τ) ∧ (p1 = 5 → Q (σ 14 0) σ τ) ∧ (p1 = 6 → SI l D b M_X2_allThatAre 0 G0 [.ref (b + 8), .int 1] σ τ (fun r1 σ1 τ1 => Q r1 σ1 τ1)) ∧ (p1 = 7 → SI l D b M_X2_allThatAre 0 G0 [.ref (b + 8), .int 2] σ τ (fun r2 σ2 τ2 => Q r2 σ2 τ2)) ∧ (p1 = 8 → SI l D b M_X2_allThatAre 0 G0 [.ref (b + 8), .int 3] σ τ (fun r3 σ3 τ3 => Q r3 σ3 τ3)) ∧ (p1 = 9 → SI l D b M_X2_allGood 1 G0 [.ref (b + 8)] σ τ (fun r4 σ4 τ4 => Q r4 σ4 τ4)) ∧ (p1 = 10 → Q (σ 14 1) σ τ) ∧ (p1 = 11 → SI l D b M_X2_leftTogether 1 G0 [.ref (b + 8)] σ τ (fun r5 σ5 τ5 => Q r5 σ5 τ5)) ∧ (p1 = 12 → SI l D b M_X2_strongest 1 G0 [.ref (b + 8)] σ τ (fun r6 σ6 τ6 => Q r6 σ6 τ6)) ∧ (p1 = 13 → Q (σ 120 0) σ τ) ∧ (p1 = 14 → SI l D b M_X1_within 5 G0 [.ref (b + 120), .ref (b + 9), .ref (b + 14)] σ τ (fun r7 σ7 τ7 => Q r7 σ7 τ7)) ∧ (p1 = 15 → SI l D b M_X1_pairs 5 G0 [.ref (b + 120), .ref (b + 9), .ref (b + 14)] σ τ (fun r8 σ8 τ8 => Q r8 σ8 τ8)) ∧ (p1 = 16 → SI l D b M_X1_weave 5 G0 [.ref (b + 120), .ref (b + 9), .ref (b + 14)] σ τ (fun r9 σ9 τ9 => Q r9 σ9 τ9)) ∧ (p1 = 17 → Q (σ 122 0) σ τ) ∧ (p1 = 18 → Q (σ 23 5) σ τ)) : AI l D b M_X11_told 6 G0 Q 0 [(0, .ref (b + 0)), (1, .int p1)] [] G0 σ τ := by
  refine r_iload_n 1 dX11_told_0 rfl rfl ?_
  by_cases ho : p1.toInt < 0 ∨ (18 : Int) < p1.toInt
  · replace h := h.1 ho
    refine r_tableOut (tgt := 271) dX11_told_1 ho (by decide) ?_
    refine r_ldc (v := (-1000000002)) rfl tw_325 rfl dX11_told_271 ?_
    exact r_iret rfl (Nat.le_refl _) (Nat.le_refl _) dX11_told_273 ⟨rfl, rfl, rfl, _, rfl, h⟩
  · replace h := h.2
    rcases sw_18 ho with e9 | e9 | e9 | e9 | e9 | e9 | e9 | e9 | e9 | e9 | e9 | e9 | e9 | e9 | e9 | e9 | e9 | e9 | e9
    · replace h := h.1 e9
      refine r_tableIn (tgt := 92) (off := 91) dX11_told_1 (by rw [e9]; decide) (by rw [e9]; decide) (by rw [e9]; rfl) (by decide) ?_
      refine r_aload_n 0 dX11_told_92 rfl rfl ?_
      refine r_getR (j := 3) (by decide) (congrArg Prod.fst k0_0) c12_10 (by decide) rfl g0_0_3 tw_287 dX11_told_93 ?_
      refine r_getI (j := 0) (by decide) (congrArg Prod.fst k0_9) c12_6 (by decide) rfl tw_58 dX11_told_96 ?_
      exact r_iret rfl (Nat.le_refl _) (Nat.le_refl _) dX11_told_99 ⟨rfl, rfl, rfl, _, rfl, h⟩
    · replace h := h.2.1 e9
      refine r_tableIn (tgt := 100) (off := 99) dX11_told_1 (by rw [e9]; decide) (by rw [e9]; decide) (by rw [e9]; rfl) (by decide) ?_
      refine r_aload_n 0 dX11_told_100 rfl rfl ?_
      refine r_getR (j := 3) (by decide) (congrArg Prod.fst k0_0) c12_10 (by decide) rfl g0_0_3 tw_287 dX11_told_101 ?_
      refine r_getI (j := 1) (by decide) (congrArg Prod.fst k0_9) c12_6 (by decide) rfl tw_61 dX11_told_104 ?_
      exact r_iret rfl (Nat.le_refl _) (Nat.le_refl _) dX11_told_107 ⟨rfl, rfl, rfl, _, rfl, h⟩
    · replace h := h.2.2.1 e9
      refine r_tableIn (tgt := 108) (off := 107) dX11_told_1 (by rw [e9]; decide) (by rw [e9]; decide) (by rw [e9]; rfl) (by decide) ?_
      refine r_aload_n 0 dX11_told_108 rfl rfl ?_
      refine r_getR (j := 3) (by decide) (congrArg Prod.fst k0_0) c12_10 (by decide) rfl g0_0_3 tw_287 dX11_told_109 ?_
      refine r_getI (j := 2) (by decide) (congrArg Prod.fst k0_9) c12_6 (by decide) rfl tw_66 dX11_told_112 ?_
      exact r_iret rfl (Nat.le_refl _) (Nat.le_refl _) dX11_told_115 ⟨rfl, rfl, rfl, _, rfl, h⟩
    · replace h := h.2.2.2.1 e9
      refine r_tableIn (tgt := 116) (off := 115) dX11_told_1 (by rw [e9]; decide) (by rw [e9]; decide) (by rw [e9]; rfl) (by decide) ?_
      refine r_aload_n 0 dX11_told_116 rfl rfl ?_
      refine r_getR (j := 3) (by decide) (congrArg Prod.fst k0_0) c12_10 (by decide) rfl g0_0_3 tw_287 dX11_told_117 ?_
      refine r_getI (j := 3) (by decide) (congrArg Prod.fst k0_9) c12_6 (by decide) rfl tw_70 dX11_told_120 ?_
      exact r_iret rfl (Nat.le_refl _) (Nat.le_refl _) dX11_told_123 ⟨rfl, rfl, rfl, _, rfl, h⟩
    · replace h := h.2.2.2.2.1 e9
      refine r_tableIn (tgt := 124) (off := 123) dX11_told_1 (by rw [e9]; decide) (by rw [e9]; decide) (by rw [e9]; rfl) (by decide) ?_
      refine r_aload_n 0 dX11_told_124 rfl rfl ?_
      refine r_getR (j := 0) (by decide) (congrArg Prod.fst k0_0) c12_10 (by decide) rfl g0_0_0 tw_284 dX11_told_125 ?_
      refine r_getI (j := 1) (by decide) (congrArg Prod.fst k0_1) c12_7 (by decide) rfl tw_33 dX11_told_128 ?_
      exact r_iret rfl (Nat.le_refl _) (Nat.le_refl _) dX11_told_131 ⟨rfl, rfl, rfl, _, rfl, h⟩
    · replace h := h.2.2.2.2.2.1 e9
      refine r_tableIn (tgt := 132) (off := 131) dX11_told_1 (by rw [e9]; decide) (by rw [e9]; decide) (by rw [e9]; rfl) (by decide) ?_
      refine r_aload_n 0 dX11_told_132 rfl rfl ?_
      refine r_getR (j := 4) (by decide) (congrArg Prod.fst k0_0) c12_10 (by decide) rfl g0_0_4 tw_288 dX11_told_133 ?_
      refine r_getI (j := 0) (by decide) (congrArg Prod.fst k0_14) c12_8 (by decide) rfl tw_115 dX11_told_136 ?_
      exact r_iret rfl (Nat.le_refl _) (Nat.le_refl _) dX11_told_139 ⟨rfl, rfl, rfl, _, rfl, h⟩
    · replace h := h.2.2.2.2.2.2.1 e9
      refine r_tableIn (tgt := 140) (off := 139) dX11_told_1 (by rw [e9]; decide) (by rw [e9]; decide) (by rw [e9]; rfl) (by decide) ?_
      refine r_aload_n 0 dX11_told_140 rfl rfl ?_
      refine r_getR (j := 2) (by decide) (congrArg Prod.fst k0_0) c12_10 (by decide) rfl g0_0_2 tw_286 dX11_told_141 ?_
      refine r_iconst dX11_told_144 ci_1 ?_
      refine rc_VI (h' := 0) [.int 1] okv_X2_allThatAre (by decide) (congrArg Prod.fst k0_8) tw_433 rfl rfl (Nat.le_of_ble_eq_true rfl) dX11_told_145 (by decide) h (fun r1 σ1 τ1 h => ?_)
      exact r_iret rfl (Nat.le_refl _) (Nat.le_refl _) dX11_told_148 ⟨rfl, rfl, rfl, _, rfl, h⟩
    · replace h := h.2.2.2.2.2.2.2.1 e9
      refine r_tableIn (tgt := 149) (off := 148) dX11_told_1 (by rw [e9]; decide) (by rw [e9]; decide) (by rw [e9]; rfl) (by decide) ?_
      refine r_aload_n 0 dX11_told_149 rfl rfl ?_
      refine r_getR (j := 2) (by decide) (congrArg Prod.fst k0_0) c12_10 (by decide) rfl g0_0_2 tw_286 dX11_told_150 ?_
      refine r_iconst dX11_told_153 ci_2 ?_
      refine rc_VI (h' := 0) [.int 2] okv_X2_allThatAre (by decide) (congrArg Prod.fst k0_8) tw_433 rfl rfl (Nat.le_of_ble_eq_true rfl) dX11_told_154 (by decide) h (fun r2 σ2 τ2 h => ?_)
      exact r_iret rfl (Nat.le_refl _) (Nat.le_refl _) dX11_told_157 ⟨rfl, rfl, rfl, _, rfl, h⟩
    · replace h := h.2.2.2.2.2.2.2.2.1 e9
      refine r_tableIn (tgt := 158) (off := 157) dX11_told_1 (by rw [e9]; decide) (by rw [e9]; decide) (by rw [e9]; rfl) (by decide) ?_
      refine r_aload_n 0 dX11_told_158 rfl rfl ?_
      refine r_getR (j := 2) (by decide) (congrArg Prod.fst k0_0) c12_10 (by decide) rfl g0_0_2 tw_286 dX11_told_159 ?_
      refine r_iconst dX11_told_162 ci_3 ?_
      refine rc_VI (h' := 0) [.int 3] okv_X2_allThatAre (by decide) (congrArg Prod.fst k0_8) tw_433 rfl rfl (Nat.le_of_ble_eq_true rfl) dX11_told_163 (by decide) h (fun r3 σ3 τ3 h => ?_)
      exact r_iret rfl (Nat.le_refl _) (Nat.le_refl _) dX11_told_166 ⟨rfl, rfl, rfl, _, rfl, h⟩
    · replace h := h.2.2.2.2.2.2.2.2.2.1 e9
      refine r_tableIn (tgt := 167) (off := 166) dX11_told_1 (by rw [e9]; decide) (by rw [e9]; decide) (by rw [e9]; rfl) (by decide) ?_
      refine r_aload_n 0 dX11_told_167 rfl rfl ?_
      refine r_getR (j := 2) (by decide) (congrArg Prod.fst k0_0) c12_10 (by decide) rfl g0_0_2 tw_286 dX11_told_168 ?_
      refine rc_VI (h' := 1) [] okv_X2_allGood (by decide) (congrArg Prod.fst k0_8) tw_437 rfl rfl (Nat.le_of_ble_eq_true rfl) dX11_told_171 (by decide) h (fun r4 σ4 τ4 h => ?_)
      exact r_iret rfl (Nat.le_refl _) (Nat.le_refl _) dX11_told_174 ⟨rfl, rfl, rfl, _, rfl, h⟩
    · replace h := h.2.2.2.2.2.2.2.2.2.2.1 e9
      refine r_tableIn (tgt := 175) (off := 174) dX11_told_1 (by rw [e9]; decide) (by rw [e9]; decide) (by rw [e9]; rfl) (by decide) ?_
      refine r_aload_n 0 dX11_told_175 rfl rfl ?_
      refine r_getR (j := 4) (by decide) (congrArg Prod.fst k0_0) c12_10 (by decide) rfl g0_0_4 tw_288 dX11_told_176 ?_
      refine r_getI (j := 1) (by decide) (congrArg Prod.fst k0_14) c12_8 (by decide) rfl tw_118 dX11_told_179 ?_
      exact r_iret rfl (Nat.le_refl _) (Nat.le_refl _) dX11_told_182 ⟨rfl, rfl, rfl, _, rfl, h⟩
    · replace h := h.2.2.2.2.2.2.2.2.2.2.2.1 e9
      refine r_tableIn (tgt := 183) (off := 182) dX11_told_1 (by rw [e9]; decide) (by rw [e9]; decide) (by rw [e9]; rfl) (by decide) ?_
      refine r_aload_n 0 dX11_told_183 rfl rfl ?_
      refine r_getR (j := 2) (by decide) (congrArg Prod.fst k0_0) c12_10 (by decide) rfl g0_0_2 tw_286 dX11_told_184 ?_
      refine rc_VI (h' := 1) [] okv_X2_leftTogether (by decide) (congrArg Prod.fst k0_8) tw_445 rfl rfl (Nat.le_of_ble_eq_true rfl) dX11_told_187 (by decide) h (fun r5 σ5 τ5 h => ?_)
      exact r_iret rfl (Nat.le_refl _) (Nat.le_refl _) dX11_told_190 ⟨rfl, rfl, rfl, _, rfl, h⟩
    · replace h := h.2.2.2.2.2.2.2.2.2.2.2.2.1 e9
      refine r_tableIn (tgt := 191) (off := 190) dX11_told_1 (by rw [e9]; decide) (by rw [e9]; decide) (by rw [e9]; rfl) (by decide) ?_
      refine r_aload_n 0 dX11_told_191 rfl rfl ?_
      refine r_getR (j := 2) (by decide) (congrArg Prod.fst k0_0) c12_10 (by decide) rfl g0_0_2 tw_286 dX11_told_192 ?_
      refine rc_VI (h' := 1) [] okv_X2_strongest (by decide) (congrArg Prod.fst k0_8) tw_453 rfl rfl (Nat.le_of_ble_eq_true rfl) dX11_told_195 (by decide) h (fun r6 σ6 τ6 h => ?_)
      exact r_iret rfl (Nat.le_refl _) (Nat.le_refl _) dX11_told_198 ⟨rfl, rfl, rfl, _, rfl, h⟩
    · replace h := h.2.2.2.2.2.2.2.2.2.2.2.2.2.1 e9
      refine r_tableIn (tgt := 199) (off := 198) dX11_told_1 (by rw [e9]; decide) (by rw [e9]; decide) (by rw [e9]; rfl) (by decide) ?_
      refine r_aload_n 0 dX11_told_199 rfl rfl ?_
      refine r_getR (j := 9) (by decide) (congrArg Prod.fst k0_0) c12_10 (by decide) rfl g0_0_9 tw_293 dX11_told_200 ?_
      refine r_getI (j := 0) (by decide) (congrArg Prod.fst k0_120) c12_1 (by decide) rfl tw_248 dX11_told_203 ?_
      exact r_iret rfl (Nat.le_refl _) (Nat.le_refl _) dX11_told_206 ⟨rfl, rfl, rfl, _, rfl, h⟩
    · replace h := h.2.2.2.2.2.2.2.2.2.2.2.2.2.2.1 e9
      refine r_tableIn (tgt := 207) (off := 206) dX11_told_1 (by rw [e9]; decide) (by rw [e9]; decide) (by rw [e9]; rfl) (by decide) ?_
      refine r_aload_n 0 dX11_told_207 rfl rfl ?_
      refine r_getR (j := 9) (by decide) (congrArg Prod.fst k0_0) c12_10 (by decide) rfl g0_0_9 tw_293 dX11_told_208 ?_
      refine r_aload_n 0 dX11_told_211 rfl rfl ?_
      refine r_getR (j := 3) (by decide) (congrArg Prod.fst k0_0) c12_10 (by decide) rfl g0_0_3 tw_287 dX11_told_212 ?_
      refine r_aload_n 0 dX11_told_215 rfl rfl ?_
      refine r_getR (j := 4) (by decide) (congrArg Prod.fst k0_0) c12_10 (by decide) rfl g0_0_4 tw_288 dX11_told_216 ?_
      refine rc_VI (h' := 5) [.ref (b + 9), .ref (b + 14)] okv_X1_within (by decide) (congrArg Prod.fst k0_120) tw_457 rfl rfl (Nat.le_of_ble_eq_true rfl) dX11_told_219 (by decide) h (fun r7 σ7 τ7 h => ?_)
      exact r_iret rfl (Nat.le_refl _) (Nat.le_refl _) dX11_told_222 ⟨rfl, rfl, rfl, _, rfl, h⟩
    · replace h := h.2.2.2.2.2.2.2.2.2.2.2.2.2.2.2.1 e9
      refine r_tableIn (tgt := 223) (off := 222) dX11_told_1 (by rw [e9]; decide) (by rw [e9]; decide) (by rw [e9]; rfl) (by decide) ?_
      refine r_aload_n 0 dX11_told_223 rfl rfl ?_
      refine r_getR (j := 9) (by decide) (congrArg Prod.fst k0_0) c12_10 (by decide) rfl g0_0_9 tw_293 dX11_told_224 ?_
      refine r_aload_n 0 dX11_told_227 rfl rfl ?_
      refine r_getR (j := 3) (by decide) (congrArg Prod.fst k0_0) c12_10 (by decide) rfl g0_0_3 tw_287 dX11_told_228 ?_
      refine r_aload_n 0 dX11_told_231 rfl rfl ?_
      refine r_getR (j := 4) (by decide) (congrArg Prod.fst k0_0) c12_10 (by decide) rfl g0_0_4 tw_288 dX11_told_232 ?_
      refine rc_VI (h' := 5) [.ref (b + 9), .ref (b + 14)] okv_X1_pairs (by decide) (congrArg Prod.fst k0_120) tw_494 rfl rfl (Nat.le_of_ble_eq_true rfl) dX11_told_235 (by decide) h (fun r8 σ8 τ8 h => ?_)
      exact r_iret rfl (Nat.le_refl _) (Nat.le_refl _) dX11_told_238 ⟨rfl, rfl, rfl, _, rfl, h⟩
    · replace h := h.2.2.2.2.2.2.2.2.2.2.2.2.2.2.2.2.1 e9
      refine r_tableIn (tgt := 239) (off := 238) dX11_told_1 (by rw [e9]; decide) (by rw [e9]; decide) (by rw [e9]; rfl) (by decide) ?_
      refine r_aload_n 0 dX11_told_239 rfl rfl ?_
      refine r_getR (j := 9) (by decide) (congrArg Prod.fst k0_0) c12_10 (by decide) rfl g0_0_9 tw_293 dX11_told_240 ?_
      refine r_aload_n 0 dX11_told_243 rfl rfl ?_
      refine r_getR (j := 3) (by decide) (congrArg Prod.fst k0_0) c12_10 (by decide) rfl g0_0_3 tw_287 dX11_told_244 ?_
      refine r_aload_n 0 dX11_told_247 rfl rfl ?_
      refine r_getR (j := 4) (by decide) (congrArg Prod.fst k0_0) c12_10 (by decide) rfl g0_0_4 tw_288 dX11_told_248 ?_
      refine rc_VI (h' := 5) [.ref (b + 9), .ref (b + 14)] okv_X1_weave (by decide) (congrArg Prod.fst k0_120) tw_498 rfl rfl (Nat.le_of_ble_eq_true rfl) dX11_told_251 (by decide) h (fun r9 σ9 τ9 h => ?_)
      exact r_iret rfl (Nat.le_refl _) (Nat.le_refl _) dX11_told_254 ⟨rfl, rfl, rfl, _, rfl, h⟩
    · replace h := h.2.2.2.2.2.2.2.2.2.2.2.2.2.2.2.2.2.1 e9
      refine r_tableIn (tgt := 255) (off := 254) dX11_told_1 (by rw [e9]; decide) (by rw [e9]; decide) (by rw [e9]; rfl) (by decide) ?_
      refine r_aload_n 0 dX11_told_255 rfl rfl ?_
      refine r_getR (j := 10) (by decide) (congrArg Prod.fst k0_0) c12_10 (by decide) rfl g0_0_10 tw_294 dX11_told_256 ?_
      refine r_getI (j := 0) (by decide) (congrArg Prod.fst k0_122) c12_0 (by decide) rfl tw_274 dX11_told_259 ?_
      exact r_iret rfl (Nat.le_refl _) (Nat.le_refl _) dX11_told_262 ⟨rfl, rfl, rfl, _, rfl, h⟩
    · replace h := h.2.2.2.2.2.2.2.2.2.2.2.2.2.2.2.2.2.2 e9
      refine r_tableIn (tgt := 263) (off := 262) dX11_told_1 (by rw [e9]; decide) (by rw [e9]; decide) (by rw [e9]; rfl) (by decide) ?_
      refine r_aload_n 0 dX11_told_263 rfl rfl ?_
      refine r_getR (j := 7) (by decide) (congrArg Prod.fst k0_0) c12_10 (by decide) rfl g0_0_7 tw_291 dX11_told_264 ?_
      refine r_getI (j := 5) (by decide) (congrArg Prod.fst k0_23) c12_5 (by decide) rfl tw_205 dX11_told_267 ?_
      exact r_iret rfl (Nat.le_refl _) (Nat.le_refl _) dX11_told_270 ⟨rfl, rfl, rfl, _, rfl, h⟩
theorem s_X11_told {l : Launch} {D : zDD} {b : Nat} (p1 : Int32) (σ : zSg) (τ : zLm) {Q : Int32 → zSg → zLm → Prop} (h : ((p1.toInt < 0 ∨ (18 : Int) < p1.toInt) → Q (-1000000002) σ τ) ∧ (p1 = 0 → Q (σ 9 0) σ τ) ∧ (p1 = 1 → Q (σ 9 1) σ τ) ∧ (p1 = 2 → Q (σ 9 2) σ τ) ∧ (p1 = 3 → Q (σ 9 3) σ τ) ∧ (p1 = 4 → Q (σ 1 1) σ τ) ∧ (p1 = 5 → Q (σ 14 0) σ τ) ∧ (p1 = 6 → SI l D b M_X2_allThatAre 0 G0 [.ref (b + 8), .int 1] σ τ (fun r1 σ1 τ1 => Q r1 σ1 τ1)) ∧ (p1 = 7 → SI l D b M_X2_allThatAre 0 G0 [.ref (b + 8), .int 2] σ τ (fun r2 σ2 τ2 => Q r2 σ2 τ2)) ∧ (p1 = 8 → SI l D b M_X2_allThatAre 0 G0 [.ref (b + 8), .int 3] σ τ (fun r3 σ3 τ3 => Q r3 σ3 τ3)) ∧ (p1 = 9 → SI l D b M_X2_allGood 1 G0 [.ref (b + 8)] σ τ (fun r4 σ4 τ4 => Q r4 σ4 τ4)) ∧ (p1 = 10 → Q (σ 14 1) σ τ) ∧ (p1 = 11 → SI l D b M_X2_leftTogether 1 G0 [.ref (b + 8)] σ τ (fun r5 σ5 τ5 => Q r5 σ5 τ5)) ∧ (p1 = 12 → SI l D b M_X2_strongest 1 G0 [.ref (b + 8)] σ τ (fun r6 σ6 τ6 => Q r6 σ6 τ6)) ∧ (p1 = 13 → Q (σ 120 0) σ τ) ∧ (p1 = 14 → SI l D b M_X1_within 5 G0 [.ref (b + 120), .ref (b + 9), .ref (b + 14)] σ τ (fun r7 σ7 τ7 => Q r7 σ7 τ7)) ∧ (p1 = 15 → SI l D b M_X1_pairs 5 G0 [.ref (b + 120), .ref (b + 9), .ref (b + 14)] σ τ (fun r8 σ8 τ8 => Q r8 σ8 τ8)) ∧ (p1 = 16 → SI l D b M_X1_weave 5 G0 [.ref (b + 120), .ref (b + 9), .ref (b + 14)] σ τ (fun r9 σ9 τ9 => Q r9 σ9 τ9)) ∧ (p1 = 17 → Q (σ 122 0) σ τ) ∧ (p1 = 18 → Q (σ 23 5) σ τ)) : SI l D b M_X11_told 6 G0 [.ref (b + 0), .int p1] σ τ Q := zS.of (by decide) (Nat.le_of_ble_eq_true rfl) rfl (w_X11_told_0 p1 σ τ h)

theorem dX11_order_0 : decode cX11_order 0 = .ok (.iload_n 1, 1) := by decide +kernel
theorem dX11_order_1 : decode cX11_order 1 = .ok (.aload_n 0, 1) := by decide +kernel
theorem dX11_order_2 : decode cX11_order 2 = .ok (.getfield 33, 3) := by decide +kernel
theorem dX11_order_5 : decode cX11_order 5 = .ok (.invokevirtual 271, 3) := by decide +kernel
theorem dX11_order_8 : decode cX11_order 8 = .ok (.iconst (-1), 1) := by decide +kernel
theorem dX11_order_9 : decode cX11_order 9 = .ok (.ixor, 1) := by decide +kernel
theorem dX11_order_10 : decode cX11_order 10 = .ok (.iand, 1) := by decide +kernel
theorem dX11_order_11 : decode cX11_order 11 = .ok (.ifCond .eq 6, 3) := by decide +kernel
theorem dX11_order_14 : decode cX11_order 14 = .ok (.ldc 164, 2) := by decide +kernel
theorem dX11_order_16 : decode cX11_order 16 = .ok (.ireturn, 1) := by decide +kernel
theorem dX11_order_17 : decode cX11_order 17 = .ok (.iload_n 2, 1) := by decide +kernel
theorem dX11_order_18 : decode cX11_order 18 = .ok (.ifCond .lt 8, 3) := by decide +kernel
theorem dX11_order_21 : decode cX11_order 21 = .ok (.iload_n 2, 1) := by decide +kernel
theorem dX11_order_22 : decode cX11_order 22 = .ok (.iconst 1, 1) := by decide +kernel
theorem dX11_order_23 : decode cX11_order 23 = .ok (.if_icmp .le 6, 3) := by decide +kernel
theorem dX11_order_26 : decode cX11_order 26 = .ok (.ldc 81, 2) := by decide +kernel
theorem dX11_order_28 : decode cX11_order 28 = .ok (.ireturn, 1) := by decide +kernel
theorem dX11_order_29 : decode cX11_order 29 = .ok (.iload_n 1, 1) := by decide +kernel
theorem dX11_order_30 : decode cX11_order 30 = .ok (.aload_n 0, 1) := by decide +kernel
theorem dX11_order_31 : decode cX11_order 31 = .ok (.getfield 26, 3) := by decide +kernel
theorem dX11_order_34 : decode cX11_order 34 = .ok (.iconst 1, 1) := by decide +kernel
theorem dX11_order_35 : decode cX11_order 35 = .ok (.invokevirtual 126, 3) := by decide +kernel
theorem dX11_order_38 : decode cX11_order 38 = .ok (.aload_n 0, 1) := by decide +kernel
theorem dX11_order_39 : decode cX11_order 39 = .ok (.getfield 26, 3) := by decide +kernel
theorem dX11_order_42 : decode cX11_order 42 = .ok (.iconst 2, 1) := by decide +kernel
theorem dX11_order_43 : decode cX11_order 43 = .ok (.invokevirtual 126, 3) := by decide +kernel
theorem dX11_order_46 : decode cX11_order 46 = .ok (.ior, 1) := by decide +kernel
theorem dX11_order_47 : decode cX11_order 47 = .ok (.iconst (-1), 1) := by decide +kernel
theorem dX11_order_48 : decode cX11_order 48 = .ok (.ixor, 1) := by decide +kernel
theorem dX11_order_49 : decode cX11_order 49 = .ok (.iand, 1) := by decide +kernel
theorem dX11_order_50 : decode cX11_order 50 = .ok (.ifCond .eq 6, 3) := by decide +kernel
theorem dX11_order_53 : decode cX11_order 53 = .ok (.ldc 207, 2) := by decide +kernel
theorem dX11_order_55 : decode cX11_order 55 = .ok (.ireturn, 1) := by decide +kernel
theorem dX11_order_56 : decode cX11_order 56 = .ok (.aload_n 0, 1) := by decide +kernel
theorem dX11_order_57 : decode cX11_order 57 = .ok (.getfield 59, 3) := by decide +kernel
theorem dX11_order_60 : decode cX11_order 60 = .ok (.iload_n 1, 1) := by decide +kernel
theorem dX11_order_61 : decode cX11_order 61 = .ok (.aload_n 0, 1) := by decide +kernel
theorem dX11_order_62 : decode cX11_order 62 = .ok (.getfield 26, 3) := by decide +kernel
theorem dX11_order_65 : decode cX11_order 65 = .ok (.aload_n 0, 1) := by decide +kernel
theorem dX11_order_66 : decode cX11_order 66 = .ok (.getfield 38, 3) := by decide +kernel
theorem dX11_order_69 : decode cX11_order 69 = .ok (.getfield 123, 3) := by decide +kernel
theorem dX11_order_72 : decode cX11_order 72 = .ok (.invokevirtual 274, 3) := by decide +kernel
theorem dX11_order_75 : decode cX11_order 75 = .ok (.iload_n 2, 1) := by decide +kernel
theorem dX11_order_76 : decode cX11_order 76 = .ok (.ifCond .ne 13, 3) := by decide +kernel
theorem dX11_order_79 : decode cX11_order 79 = .ok (.aload_n 0, 1) := by decide +kernel
theorem dX11_order_80 : decode cX11_order 80 = .ok (.getfield 59, 3) := by decide +kernel
theorem dX11_order_83 : decode cX11_order 83 = .ok (.getfield 278, 3) := by decide +kernel
theorem dX11_order_86 : decode cX11_order 86 = .ok (.goto 10, 3) := by decide +kernel
theorem dX11_order_89 : decode cX11_order 89 = .ok (.aload_n 0, 1) := by decide +kernel
theorem dX11_order_90 : decode cX11_order 90 = .ok (.getfield 59, 3) := by decide +kernel
theorem dX11_order_93 : decode cX11_order 93 = .ok (.getfield 281, 3) := by decide +kernel
theorem dX11_order_96 : decode cX11_order 96 = .ok (.ireturn, 1) := by decide +kernel
theorem w_X11_order_0 {l : Launch} {D : zDD} {b : Nat} (p1 p2 : Int32) (σ : zSg) (τ : zLm) {Q : Int32 → zSg → zLm → Prop} (h : SI l D b M_X6_allTroubles 0 G0 [.ref (b + 9)] σ τ (fun r1 σ1 τ1 => ((p1 &&& (r1 ^^^ (-1))) = 0 → ((p2 < 0 → Q (-1000000002) σ1 τ1) ∧ (¬ p2 < 0 → ((p2 ≤ 1 → (SI l D b M_X2_allThatAre 0 G0 [.ref (b + 8), .int 1] σ1 τ1 (fun r5 σ5 τ5 => SI l D b M_X2_allThatAre 0 G0 [.ref (b + 8), .int 2] σ5 τ5 (fun r6 σ6 τ6 => ((p1 &&& ((r5 ||| r6) ^^^ (-1))) = 0 → (SV l D b M_X4_find 10 G0 [.ref (b + 118), .int p1, .ref (b + 8), .int (σ6 14 0)] σ6 τ6 (fun σ8 τ8 => (¬ p2 = 0 → Q (σ8 118 2) σ8 τ8) ∧ (p2 = 0 → Q (σ8 118 1) σ8 τ8)))) ∧ (¬ (p1 &&& ((r5 ||| r6) ^^^ (-1))) = 0 → Q (-1000000003) σ6 τ6))))) ∧ (¬ p2 ≤ 1 → Q (-1000000002) σ1 τ1))))) ∧ (¬ (p1 &&& (r1 ^^^ (-1))) = 0 → Q (-1000000001) σ1 τ1))) : AI l D b M_X11_order 11 G0 Q 0 [(0, .ref (b + 0)), (1, .int p1), (2, .int p2)] [] G0 σ τ := by
  refine r_iload_n 1 dX11_order_0 rfl rfl ?_
  refine r_aload_n 0 dX11_order_1 rfl rfl ?_
  refine r_getR (j := 3) (by decide) (congrArg Prod.fst k0_0) c12_10 (by decide) rfl g0_0_3 tw_287 dX11_order_2 ?_
  refine rc_VI (h' := 0) [] okv_X6_allTroubles (by decide) (congrArg Prod.fst k0_9) tw_725 rfl rfl (Nat.le_of_ble_eq_true rfl) dX11_order_5 (by decide) h (fun r1 σ1 τ1 h => ?_)
  refine r_iconst dX11_order_8 ci_m1 ?_
  refine r_ixor dX11_order_9 ?_
  refine r_iand dX11_order_10 ?_
  refine r_if_eq (tgt := 17) dX11_order_11 (by decide) (fun c2 => ?_) (fun c2 => ?_)
  · replace h := h.1 c2
    refine r_iload_n 2 dX11_order_17 rfl rfl ?_
    refine r_if_lt (tgt := 26) dX11_order_18 (by decide) (fun c3 => ?_) (fun c3 => ?_)
    · replace h := h.1 c3
      refine r_ldc (v := (-1000000002)) rfl tw_325 rfl dX11_order_26 ?_
      exact r_iret rfl (Nat.le_refl _) (Nat.le_refl _) dX11_order_28 ⟨rfl, rfl, rfl, _, rfl, h⟩
    · replace h := h.2 c3
      refine r_iload_n 2 dX11_order_21 rfl rfl ?_
      refine r_iconst dX11_order_22 ci_1 ?_
      refine r_icmp_le (tgt := 29) dX11_order_23 (by decide) (fun c4 => ?_) (fun c4 => ?_)
      · replace h := h.1 c4
        refine r_iload_n 1 dX11_order_29 rfl rfl ?_
        refine r_aload_n 0 dX11_order_30 rfl rfl ?_
        refine r_getR (j := 2) (by decide) (congrArg Prod.fst k0_0) c12_10 (by decide) rfl g0_0_2 tw_286 dX11_order_31 ?_
        refine r_iconst dX11_order_34 ci_1 ?_
        refine rc_VI (h' := 0) [.int 1] okv_X2_allThatAre (by decide) (congrArg Prod.fst k0_8) tw_433 rfl rfl (Nat.le_of_ble_eq_true rfl) dX11_order_35 (by decide) h (fun r5 σ5 τ5 h => ?_)
        refine r_aload_n 0 dX11_order_38 rfl rfl ?_
        refine r_getR (j := 2) (by decide) (congrArg Prod.fst k0_0) c12_10 (by decide) rfl g0_0_2 tw_286 dX11_order_39 ?_
        refine r_iconst dX11_order_42 ci_2 ?_
        refine rc_VI (h' := 0) [.int 2] okv_X2_allThatAre (by decide) (congrArg Prod.fst k0_8) tw_433 rfl rfl (Nat.le_of_ble_eq_true rfl) dX11_order_43 (by decide) h (fun r6 σ6 τ6 h => ?_)
        refine r_ior dX11_order_46 ?_
        refine r_iconst dX11_order_47 ci_m1 ?_
        refine r_ixor dX11_order_48 ?_
        refine r_iand dX11_order_49 ?_
        refine r_if_eq (tgt := 56) dX11_order_50 (by decide) (fun c7 => ?_) (fun c7 => ?_)
        · replace h := h.1 c7
          refine r_aload_n 0 dX11_order_56 rfl rfl ?_
          refine r_getR (j := 8) (by decide) (congrArg Prod.fst k0_0) c12_10 (by decide) rfl g0_0_8 tw_292 dX11_order_57 ?_
          refine r_iload_n 1 dX11_order_60 rfl rfl ?_
          refine r_aload_n 0 dX11_order_61 rfl rfl ?_
          refine r_getR (j := 2) (by decide) (congrArg Prod.fst k0_0) c12_10 (by decide) rfl g0_0_2 tw_286 dX11_order_62 ?_
          refine r_aload_n 0 dX11_order_65 rfl rfl ?_
          refine r_getR (j := 4) (by decide) (congrArg Prod.fst k0_0) c12_10 (by decide) rfl g0_0_4 tw_288 dX11_order_66 ?_
          refine r_getI (j := 0) (by decide) (congrArg Prod.fst k0_14) c12_8 (by decide) rfl tw_115 dX11_order_69 ?_
          refine rc_VV (h' := 10) [.int p1, .ref (b + 8), .int (σ6 14 0)] okv_X4_find (by decide) (congrArg Prod.fst k0_118) tw_729 rfl rfl (Nat.le_of_ble_eq_true rfl) dX11_order_72 (by decide) h (fun σ8 τ8 h => ?_)
          refine r_iload_n 2 dX11_order_75 rfl rfl ?_
          refine r_if_ne (tgt := 89) dX11_order_76 (by decide) (fun c9 => ?_) (fun c9 => ?_)
          · replace h := h.1 c9
            refine r_aload_n 0 dX11_order_89 rfl rfl ?_
            refine r_getR (j := 8) (by decide) (congrArg Prod.fst k0_0) c12_10 (by decide) rfl g0_0_8 tw_292 dX11_order_90 ?_
            refine r_getI (j := 2) (by decide) (congrArg Prod.fst k0_118) c12_4 (by decide) rfl tw_230 dX11_order_93 ?_
            exact r_iret rfl (Nat.le_refl _) (Nat.le_refl _) dX11_order_96 ⟨rfl, rfl, rfl, _, rfl, h⟩
          · replace h := h.2 c9
            refine r_aload_n 0 dX11_order_79 rfl rfl ?_
            refine r_getR (j := 8) (by decide) (congrArg Prod.fst k0_0) c12_10 (by decide) rfl g0_0_8 tw_292 dX11_order_80 ?_
            refine r_getI (j := 1) (by decide) (congrArg Prod.fst k0_118) c12_4 (by decide) rfl tw_228 dX11_order_83 ?_
            refine r_goto (tgt := 96) dX11_order_86 (by decide) ?_
            exact r_iret rfl (Nat.le_refl _) (Nat.le_refl _) dX11_order_96 ⟨rfl, rfl, rfl, _, rfl, h⟩
        · replace h := h.2 c7
          refine r_ldc (v := (-1000000003)) rfl tw_572 rfl dX11_order_53 ?_
          exact r_iret rfl (Nat.le_refl _) (Nat.le_refl _) dX11_order_55 ⟨rfl, rfl, rfl, _, rfl, h⟩
      · replace h := h.2 c4
        refine r_ldc (v := (-1000000002)) rfl tw_325 rfl dX11_order_26 ?_
        exact r_iret rfl (Nat.le_refl _) (Nat.le_refl _) dX11_order_28 ⟨rfl, rfl, rfl, _, rfl, h⟩
  · replace h := h.2 c2
    refine r_ldc (v := (-1000000001)) rfl tw_513 rfl dX11_order_14 ?_
    exact r_iret rfl (Nat.le_refl _) (Nat.le_refl _) dX11_order_16 ⟨rfl, rfl, rfl, _, rfl, h⟩
theorem s_X11_order {l : Launch} {D : zDD} {b : Nat} (p1 p2 : Int32) (σ : zSg) (τ : zLm) {Q : Int32 → zSg → zLm → Prop} (h : SI l D b M_X6_allTroubles 0 G0 [.ref (b + 9)] σ τ (fun r1 σ1 τ1 => ((p1 &&& (r1 ^^^ (-1))) = 0 → ((p2 < 0 → Q (-1000000002) σ1 τ1) ∧ (¬ p2 < 0 → ((p2 ≤ 1 → (SI l D b M_X2_allThatAre 0 G0 [.ref (b + 8), .int 1] σ1 τ1 (fun r5 σ5 τ5 => SI l D b M_X2_allThatAre 0 G0 [.ref (b + 8), .int 2] σ5 τ5 (fun r6 σ6 τ6 => ((p1 &&& ((r5 ||| r6) ^^^ (-1))) = 0 → (SV l D b M_X4_find 10 G0 [.ref (b + 118), .int p1, .ref (b + 8), .int (σ6 14 0)] σ6 τ6 (fun σ8 τ8 => (¬ p2 = 0 → Q (σ8 118 2) σ8 τ8) ∧ (p2 = 0 → Q (σ8 118 1) σ8 τ8)))) ∧ (¬ (p1 &&& ((r5 ||| r6) ^^^ (-1))) = 0 → Q (-1000000003) σ6 τ6))))) ∧ (¬ p2 ≤ 1 → Q (-1000000002) σ1 τ1))))) ∧ (¬ (p1 &&& (r1 ^^^ (-1))) = 0 → Q (-1000000001) σ1 τ1))) : SI l D b M_X11_order 11 G0 [.ref (b + 0), .int p1, .int p2] σ τ Q := zS.of (by decide) (Nat.le_of_ble_eq_true rfl) rfl (w_X11_order_0 p1 p2 σ τ h)

