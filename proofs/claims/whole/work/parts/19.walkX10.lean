theorem dX10_covered_0 : decode cX10_covered 0 = .ok (.iload_n 0, 1) := by decide +kernel
theorem dX10_covered_1 : decode cX10_covered 1 = .ok (.iload_n 0, 1) := by decide +kernel
theorem dX10_covered_2 : decode cX10_covered 2 = .ok (.iconst 1, 1) := by decide +kernel
theorem dX10_covered_3 : decode cX10_covered 3 = .ok (.ishl, 1) := by decide +kernel
theorem dX10_covered_4 : decode cX10_covered 4 = .ok (.ior, 1) := by decide +kernel
theorem dX10_covered_5 : decode cX10_covered 5 = .ok (.ireturn, 1) := by decide +kernel
theorem w_X10_covered_0 {l : Launch} {D : zDD} {b : Nat} {γ : zGm} (p1 : Int32) (σ : zSg) (τ : zLm) {Q : Int32 → zSg → zLm → Prop} (h : Q (p1 ||| (p1 <<< ((1 : Int32) &&& 31))) σ τ) : AI l D b M_X10_covered 0 γ Q 0 [(0, .int p1)] [] γ σ τ := by
  refine r_iload_n 0 dX10_covered_0 rfl rfl ?_
  refine r_iload_n 0 dX10_covered_1 rfl rfl ?_
  refine r_iconst dX10_covered_2 ci_1 ?_
  refine r_ishl dX10_covered_3 ?_
  refine r_ior dX10_covered_4 ?_
  exact r_iret rfl (Nat.le_refl _) (Nat.le_refl _) dX10_covered_5 ⟨rfl, rfl, rfl, _, rfl, h⟩
theorem s_X10_covered {l : Launch} {D : zDD} {b : Nat} {γ : zGm} (p1 : Int32) (σ : zSg) (τ : zLm) {Q : Int32 → zSg → zLm → Prop} (h : Q (p1 ||| (p1 <<< ((1 : Int32) &&& 31))) σ τ) : SI l D b M_X10_covered 0 γ [.int p1] σ τ Q := zS.of (by decide) (Nat.le_of_ble_eq_true rfl) rfl (w_X10_covered_0 p1 σ τ h)

theorem dX10_addRow_0 : decode cX10_addRow 0 = .ok (.iconst 0, 1) := by decide +kernel
theorem dX10_addRow_1 : decode cX10_addRow 1 = .ok (.istore_n 2, 1) := by decide +kernel
theorem dX10_addRow_2 : decode cX10_addRow 2 = .ok (.iload_n 2, 1) := by decide +kernel
theorem dX10_addRow_3 : decode cX10_addRow 3 = .ok (.bipush 16, 2) := by decide +kernel
theorem dX10_addRow_5 : decode cX10_addRow 5 = .ok (.if_icmp .ge 77, 3) := by decide +kernel
theorem dX10_addRow_8 : decode cX10_addRow 8 = .ok (.iload_n 1, 1) := by decide +kernel
theorem dX10_addRow_9 : decode cX10_addRow 9 = .ok (.iload_n 2, 1) := by decide +kernel
theorem dX10_addRow_10 : decode cX10_addRow 10 = .ok (.invokestatic 28, 3) := by decide +kernel
theorem dX10_addRow_13 : decode cX10_addRow 13 = .ok (.iconst (-1), 1) := by decide +kernel
theorem dX10_addRow_14 : decode cX10_addRow 14 = .ok (.ixor, 1) := by decide +kernel
theorem dX10_addRow_15 : decode cX10_addRow 15 = .ok (.iand, 1) := by decide +kernel
theorem dX10_addRow_16 : decode cX10_addRow 16 = .ok (.istore_n 3, 1) := by decide +kernel
theorem dX10_addRow_17 : decode cX10_addRow 17 = .ok (.bipush 100, 2) := by decide +kernel
theorem dX10_addRow_19 : decode cX10_addRow 19 = .ok (.istore 4, 2) := by decide +kernel
theorem dX10_addRow_21 : decode cX10_addRow 21 = .ok (.iconst 0, 1) := by decide +kernel
theorem dX10_addRow_22 : decode cX10_addRow 22 = .ok (.istore 5, 2) := by decide +kernel
theorem dX10_addRow_24 : decode cX10_addRow 24 = .ok (.iload 5, 2) := by decide +kernel
theorem dX10_addRow_26 : decode cX10_addRow 26 = .ok (.bipush 16, 2) := by decide +kernel
theorem dX10_addRow_28 : decode cX10_addRow 28 = .ok (.if_icmp .ge 35, 3) := by decide +kernel
theorem dX10_addRow_31 : decode cX10_addRow 31 = .ok (.iload_n 3, 1) := by decide +kernel
theorem dX10_addRow_32 : decode cX10_addRow 32 = .ok (.iload 5, 2) := by decide +kernel
theorem dX10_addRow_34 : decode cX10_addRow 34 = .ok (.invokestatic 28, 3) := by decide +kernel
theorem dX10_addRow_37 : decode cX10_addRow 37 = .ok (.iconst (-1), 1) := by decide +kernel
theorem dX10_addRow_38 : decode cX10_addRow 38 = .ok (.ixor, 1) := by decide +kernel
theorem dX10_addRow_39 : decode cX10_addRow 39 = .ok (.iand, 1) := by decide +kernel
theorem dX10_addRow_40 : decode cX10_addRow 40 = .ok (.ifCond .ne 17, 3) := by decide +kernel
theorem dX10_addRow_43 : decode cX10_addRow 43 = .ok (.iload 4, 2) := by decide +kernel
theorem dX10_addRow_45 : decode cX10_addRow 45 = .ok (.aload_n 0, 1) := by decide +kernel
theorem dX10_addRow_46 : decode cX10_addRow 46 = .ok (.getfield 11, 3) := by decide +kernel
theorem dX10_addRow_49 : decode cX10_addRow 49 = .ok (.iload 5, 2) := by decide +kernel
theorem dX10_addRow_51 : decode cX10_addRow 51 = .ok (.iaload, 1) := by decide +kernel
theorem dX10_addRow_52 : decode cX10_addRow 52 = .ok (.invokestatic 32, 3) := by decide +kernel
theorem dX10_addRow_55 : decode cX10_addRow 55 = .ok (.istore 4, 2) := by decide +kernel
theorem dX10_addRow_57 : decode cX10_addRow 57 = .ok (.iinc 5 1, 3) := by decide +kernel
theorem dX10_addRow_60 : decode cX10_addRow 60 = .ok (.goto (-36), 3) := by decide +kernel
theorem dX10_addRow_63 : decode cX10_addRow 63 = .ok (.aload_n 0, 1) := by decide +kernel
theorem dX10_addRow_64 : decode cX10_addRow 64 = .ok (.getfield 15, 3) := by decide +kernel
theorem dX10_addRow_67 : decode cX10_addRow 67 = .ok (.iload_n 2, 1) := by decide +kernel
theorem dX10_addRow_68 : decode cX10_addRow 68 = .ok (.iload 4, 2) := by decide +kernel
theorem dX10_addRow_70 : decode cX10_addRow 70 = .ok (.iload_n 2, 1) := by decide +kernel
theorem dX10_addRow_71 : decode cX10_addRow 71 = .ok (.invokestatic 37, 3) := by decide +kernel
theorem dX10_addRow_74 : decode cX10_addRow 74 = .ok (.iadd, 1) := by decide +kernel
theorem dX10_addRow_75 : decode cX10_addRow 75 = .ok (.iastore, 1) := by decide +kernel
theorem dX10_addRow_76 : decode cX10_addRow 76 = .ok (.iinc 2 1, 3) := by decide +kernel
theorem dX10_addRow_79 : decode cX10_addRow 79 = .ok (.goto (-77), 3) := by decide +kernel
theorem dX10_addRow_82 : decode cX10_addRow 82 = .ok (.return_, 1) := by decide +kernel
theorem w_X10_addRow_24 {l : Launch} {D : zDD} {b : Nat} {γ : zGm} {ca cb : Nat} (hca : ca < N0) (hcb : cb < N0) (kca : K0 ca = (0, 16)) (kcb : K0 cb = (0, 16)) (g1 : γ 19 0 = some ca) (g2 : γ 19 1 = some cb) (x1 x2 x3 x4 x5 : Int32) (σ : zSg) (τ : zLm) {Q : zSg → zLm → Prop} (h : (16 ≤ x5 → (SI l D b M_J6_bitCount_0f7a4 0 γ [.int x2] σ τ (fun r2 σ2 τ2 => vp_in x2 16 ∧ AV l D b M_X10_addRow 1 γ Q 2 [(0, .ref (b + 19)), (1, .int x1), (2, .int (x2 + 1))] [] γ (st2 σ2 cb x2.toNatClampNeg (x4 + r2)) τ2))) ∧ (¬ 16 ≤ x5 → (SI l D b M_X10_covered 0 γ [.int x5] σ τ (fun r3 σ3 τ3 => (¬ (x3 &&& (r3 ^^^ (-1))) = 0 → AV l D b M_X10_addRow 1 γ Q 24 [(0, .ref (b + 19)), (1, .int x1), (2, .int x2), (3, .int x3), (4, .int x4), (5, .int (x5 + 1))] [] γ σ3 τ3) ∧ ((x3 &&& (r3 ^^^ (-1))) = 0 → (vp_in x5 16 ∧ (∀ v5 : Int32, v5 = mn x4 (σ3 ca x5.toNatClampNeg) → AV l D b M_X10_addRow 1 γ Q 24 [(0, .ref (b + 19)), (1, .int x1), (2, .int x2), (3, .int x3), (4, .int v5), (5, .int (x5 + 1))] [] γ σ3 τ3))))))) : AV l D b M_X10_addRow 1 γ Q 24 [(0, .ref (b + 19)), (1, .int x1), (2, .int x2), (3, .int x3), (4, .int x4), (5, .int x5)] [] γ σ τ := by
  refine r_iload 5 dX10_addRow_24 rfl ?_
  refine r_bipush dX10_addRow_26 cb_16 ?_
  refine r_icmp_ge (tgt := 63) dX10_addRow_28 (by decide) (fun c1 => ?_) (fun c1 => ?_)
  · replace h := h.1 c1
    refine r_aload_n 0 dX10_addRow_63 rfl rfl ?_
    refine r_getR (j := 1) (by decide) (congrArg Prod.fst k0_19) c12_9 (by decide) rfl g2 tw_154 dX10_addRow_64 ?_
    refine r_iload_n 2 dX10_addRow_67 rfl rfl ?_
    refine r_iload 4 dX10_addRow_68 rfl ?_
    refine r_iload_n 2 dX10_addRow_70 rfl rfl ?_
    refine rc_SI (h' := 0) [.int x2] oks_J6_bitCount_0f7a4 tw_598 rfl rfl (Nat.le_of_ble_eq_true rfl) dX10_addRow_71 (by decide) h (fun r2 σ2 τ2 h => ?_)
    refine r_iadd dX10_addRow_74 ?_
    refine r_iast hcb kcb dX10_addRow_75 h.1 ?_
    replace h := h.2
    refine r_inc 2 dX10_addRow_76 rfl ci_1 (by decide) rfl ?_
    refine r_goto (tgt := 2) dX10_addRow_79 (by decide) ?_
    refine r_lv [1, 2, 0] rfl ?_
    exact h
  · replace h := h.2 c1
    refine r_iload_n 3 dX10_addRow_31 rfl rfl ?_
    refine r_iload 5 dX10_addRow_32 rfl ?_
    refine rc_SI (h' := 0) [.int x5] oks_X10_covered tw_594 rfl rfl (Nat.le_of_ble_eq_true rfl) dX10_addRow_34 (by decide) h (fun r3 σ3 τ3 h => ?_)
    refine r_iconst dX10_addRow_37 ci_m1 ?_
    refine r_ixor dX10_addRow_38 ?_
    refine r_iand dX10_addRow_39 ?_
    refine r_if_ne (tgt := 57) dX10_addRow_40 (by decide) (fun c4 => ?_) (fun c4 => ?_)
    · replace h := h.1 c4
      refine r_inc 5 dX10_addRow_57 rfl ci_1 (by decide) rfl ?_
      refine r_goto (tgt := 24) dX10_addRow_60 (by decide) ?_
      refine r_lv [1, 2, 3, 4, 5, 0] rfl ?_
      exact h
    · replace h := h.2 c4
      refine r_iload 4 dX10_addRow_43 rfl ?_
      refine r_aload_n 0 dX10_addRow_45 rfl rfl ?_
      refine r_getR (j := 0) (by decide) (congrArg Prod.fst k0_19) c12_9 (by decide) rfl g1 tw_153 dX10_addRow_46 ?_
      refine r_iload 5 dX10_addRow_49 rfl ?_
      refine r_iald hca kca dX10_addRow_51 h.1 ?_
      replace h := h.2
      refine r_min tw_597 dX10_addRow_52 (by decide) (Nat.le_of_ble_eq_true rfl) (Nat.le_refl _) (Nat.le_refl _) ?_
      refine r_nmI (fun v5 ev5 => ?_)
      replace h := h v5 ev5
      refine r_istore dX10_addRow_55 (by decide) rfl ?_
      refine r_inc 5 dX10_addRow_57 rfl ci_1 (by decide) rfl ?_
      refine r_goto (tgt := 24) dX10_addRow_60 (by decide) ?_
      refine r_lv [2, 3, 4, 5, 1, 0] rfl ?_
      exact h

theorem w_X10_addRow_2 {l : Launch} {D : zDD} {b : Nat} {γ : zGm} {ca cb : Nat} (hca : ca < N0) (hcb : cb < N0) (kca : K0 ca = (0, 16)) (kcb : K0 cb = (0, 16)) (g1 : γ 19 0 = some ca) (g2 : γ 19 1 = some cb) (x1 x2 : Int32) (σ : zSg) (τ : zLm) {Q : zSg → zLm → Prop} (h : (16 ≤ x2 → Q σ τ) ∧ (¬ 16 ≤ x2 → SI l D b M_X10_covered 0 γ [.int x2] σ τ (fun r2 σ2 τ2 => AV l D b M_X10_addRow 1 γ Q 24 [(0, .ref (b + 19)), (1, .int x1), (2, .int x2), (3, .int (x1 &&& (r2 ^^^ (-1)))), (4, .int 100), (5, .int 0)] [] γ σ2 τ2))) : AV l D b M_X10_addRow 1 γ Q 2 [(0, .ref (b + 19)), (1, .int x1), (2, .int x2)] [] γ σ τ := by
  refine r_iload_n 2 dX10_addRow_2 rfl rfl ?_
  refine r_bipush dX10_addRow_3 cb_16 ?_
  refine r_icmp_ge (tgt := 82) dX10_addRow_5 (by decide) (fun c1 => ?_) (fun c1 => ?_)
  · replace h := h.1 c1
    exact r_vret rfl (Nat.le_refl _) (Nat.le_refl _) dX10_addRow_82 ⟨rfl, rfl, rfl, rfl, h⟩
  · replace h := h.2 c1
    refine r_iload_n 1 dX10_addRow_8 rfl rfl ?_
    refine r_iload_n 2 dX10_addRow_9 rfl rfl ?_
    refine rc_SI (h' := 0) [.int x2] oks_X10_covered tw_594 rfl rfl (Nat.le_of_ble_eq_true rfl) dX10_addRow_10 (by decide) h (fun r2 σ2 τ2 h => ?_)
    refine r_iconst dX10_addRow_13 ci_m1 ?_
    refine r_ixor dX10_addRow_14 ?_
    refine r_iand dX10_addRow_15 ?_
    refine r_istore_n dX10_addRow_16 rfl (by decide) rfl ?_
    refine r_bipush dX10_addRow_17 cb_100 ?_
    refine r_istore dX10_addRow_19 (by decide) rfl ?_
    refine r_iconst dX10_addRow_21 ci_0 ?_
    refine r_istore dX10_addRow_22 (by decide) rfl ?_
    refine r_lv [3, 4, 5, 2, 1, 0] rfl ?_
    exact h

theorem w_X10_addRow_0 {l : Launch} {D : zDD} {b : Nat} {γ : zGm} {ca cb : Nat} (hca : ca < N0) (hcb : cb < N0) (kca : K0 ca = (0, 16)) (kcb : K0 cb = (0, 16)) (g1 : γ 19 0 = some ca) (g2 : γ 19 1 = some cb) (p1 : Int32) (σ : zSg) (τ : zLm) {Q : zSg → zLm → Prop} (h : AV l D b M_X10_addRow 1 γ Q 2 [(0, .ref (b + 19)), (1, .int p1), (2, .int 0)] [] γ σ τ) : AV l D b M_X10_addRow 1 γ Q 0 [(0, .ref (b + 19)), (1, .int p1)] [] γ σ τ := by
  refine r_iconst dX10_addRow_0 ci_0 ?_
  refine r_istore_n dX10_addRow_1 rfl (by decide) rfl ?_
  refine r_lv [1, 2, 0] rfl ?_
  exact h
theorem s_X10_addRow {l : Launch} {D : zDD} {b : Nat} {γ : zGm} {ca cb : Nat} (hca : ca < N0) (hcb : cb < N0) (kca : K0 ca = (0, 16)) (kcb : K0 cb = (0, 16)) (g1 : γ 19 0 = some ca) (g2 : γ 19 1 = some cb) (p1 : Int32) (σ : zSg) (τ : zLm) {Q : zSg → zLm → Prop} (h : AV l D b M_X10_addRow 1 γ Q 2 [(0, .ref (b + 19)), (1, .int p1), (2, .int 0)] [] γ σ τ) : SV l D b M_X10_addRow 1 γ [.ref (b + 19), .int p1] σ τ Q := zS.of (by decide) (Nat.le_of_ble_eq_true rfl) rfl (w_X10_addRow_0 hca hcb kca kcb g1 g2 p1 σ τ h)

theorem dX10_fewest_0 : decode cX10_fewest 0 = .ok (.iconst 0, 1) := by decide +kernel
theorem dX10_fewest_1 : decode cX10_fewest 1 = .ok (.istore_n 2, 1) := by decide +kernel
theorem dX10_fewest_2 : decode cX10_fewest 2 = .ok (.iload_n 2, 1) := by decide +kernel
theorem dX10_fewest_3 : decode cX10_fewest 3 = .ok (.bipush 16, 2) := by decide +kernel
theorem dX10_fewest_5 : decode cX10_fewest 5 = .ok (.if_icmp .ge 25, 3) := by decide +kernel
theorem dX10_fewest_8 : decode cX10_fewest 8 = .ok (.aload_n 0, 1) := by decide +kernel
theorem dX10_fewest_9 : decode cX10_fewest 9 = .ok (.getfield 11, 3) := by decide +kernel
theorem dX10_fewest_12 : decode cX10_fewest 12 = .ok (.iload_n 2, 1) := by decide +kernel
theorem dX10_fewest_13 : decode cX10_fewest 13 = .ok (.iload_n 2, 1) := by decide +kernel
theorem dX10_fewest_14 : decode cX10_fewest 14 = .ok (.ifCond .ne 7, 3) := by decide +kernel
theorem dX10_fewest_17 : decode cX10_fewest 17 = .ok (.iconst 0, 1) := by decide +kernel
theorem dX10_fewest_18 : decode cX10_fewest 18 = .ok (.goto 5, 3) := by decide +kernel
theorem dX10_fewest_21 : decode cX10_fewest 21 = .ok (.bipush 100, 2) := by decide +kernel
theorem dX10_fewest_23 : decode cX10_fewest 23 = .ok (.iastore, 1) := by decide +kernel
theorem dX10_fewest_24 : decode cX10_fewest 24 = .ok (.iinc 2 1, 3) := by decide +kernel
theorem dX10_fewest_27 : decode cX10_fewest 27 = .ok (.goto (-25), 3) := by decide +kernel
theorem dX10_fewest_30 : decode cX10_fewest 30 = .ok (.iconst 0, 1) := by decide +kernel
theorem dX10_fewest_31 : decode cX10_fewest 31 = .ok (.istore_n 2, 1) := by decide +kernel
theorem dX10_fewest_32 : decode cX10_fewest 32 = .ok (.iload_n 2, 1) := by decide +kernel
theorem dX10_fewest_33 : decode cX10_fewest 33 = .ok (.iconst 4, 1) := by decide +kernel
theorem dX10_fewest_34 : decode cX10_fewest 34 = .ok (.if_icmp .ge 36, 3) := by decide +kernel
theorem dX10_fewest_37 : decode cX10_fewest 37 = .ok (.aload_n 0, 1) := by decide +kernel
theorem dX10_fewest_38 : decode cX10_fewest 38 = .ok (.iload_n 1, 1) := by decide +kernel
theorem dX10_fewest_39 : decode cX10_fewest 39 = .ok (.iload_n 2, 1) := by decide +kernel
theorem dX10_fewest_40 : decode cX10_fewest 40 = .ok (.invokestatic 18, 3) := by decide +kernel
theorem dX10_fewest_43 : decode cX10_fewest 43 = .ok (.invokevirtual 24, 3) := by decide +kernel
theorem dX10_fewest_46 : decode cX10_fewest 46 = .ok (.aload_n 0, 1) := by decide +kernel
theorem dX10_fewest_47 : decode cX10_fewest 47 = .ok (.getfield 11, 3) := by decide +kernel
theorem dX10_fewest_50 : decode cX10_fewest 50 = .ok (.astore_n 3, 1) := by decide +kernel
theorem dX10_fewest_51 : decode cX10_fewest 51 = .ok (.aload_n 0, 1) := by decide +kernel
theorem dX10_fewest_52 : decode cX10_fewest 52 = .ok (.aload_n 0, 1) := by decide +kernel
theorem dX10_fewest_53 : decode cX10_fewest 53 = .ok (.getfield 15, 3) := by decide +kernel
theorem dX10_fewest_56 : decode cX10_fewest 56 = .ok (.putfield 11, 3) := by decide +kernel
theorem dX10_fewest_59 : decode cX10_fewest 59 = .ok (.aload_n 0, 1) := by decide +kernel
theorem dX10_fewest_60 : decode cX10_fewest 60 = .ok (.aload_n 3, 1) := by decide +kernel
theorem dX10_fewest_61 : decode cX10_fewest 61 = .ok (.putfield 15, 3) := by decide +kernel
theorem dX10_fewest_64 : decode cX10_fewest 64 = .ok (.iinc 2 1, 3) := by decide +kernel
theorem dX10_fewest_67 : decode cX10_fewest 67 = .ok (.goto (-35), 3) := by decide +kernel
theorem dX10_fewest_70 : decode cX10_fewest 70 = .ok (.bipush 100, 2) := by decide +kernel
theorem dX10_fewest_72 : decode cX10_fewest 72 = .ok (.istore_n 2, 1) := by decide +kernel
theorem dX10_fewest_73 : decode cX10_fewest 73 = .ok (.iload_n 1, 1) := by decide +kernel
theorem dX10_fewest_74 : decode cX10_fewest 74 = .ok (.iconst 4, 1) := by decide +kernel
theorem dX10_fewest_75 : decode cX10_fewest 75 = .ok (.invokestatic 18, 3) := by decide +kernel
theorem dX10_fewest_78 : decode cX10_fewest 78 = .ok (.istore_n 3, 1) := by decide +kernel
theorem dX10_fewest_79 : decode cX10_fewest 79 = .ok (.iconst 0, 1) := by decide +kernel
theorem dX10_fewest_80 : decode cX10_fewest 80 = .ok (.istore 4, 2) := by decide +kernel
theorem dX10_fewest_82 : decode cX10_fewest 82 = .ok (.iload 4, 2) := by decide +kernel
theorem dX10_fewest_84 : decode cX10_fewest 84 = .ok (.bipush 16, 2) := by decide +kernel
theorem dX10_fewest_86 : decode cX10_fewest 86 = .ok (.if_icmp .ge 33, 3) := by decide +kernel
theorem dX10_fewest_89 : decode cX10_fewest 89 = .ok (.iload_n 3, 1) := by decide +kernel
theorem dX10_fewest_90 : decode cX10_fewest 90 = .ok (.iload 4, 2) := by decide +kernel
theorem dX10_fewest_92 : decode cX10_fewest 92 = .ok (.invokestatic 28, 3) := by decide +kernel
theorem dX10_fewest_95 : decode cX10_fewest 95 = .ok (.iconst (-1), 1) := by decide +kernel
theorem dX10_fewest_96 : decode cX10_fewest 96 = .ok (.ixor, 1) := by decide +kernel
theorem dX10_fewest_97 : decode cX10_fewest 97 = .ok (.iand, 1) := by decide +kernel
theorem dX10_fewest_98 : decode cX10_fewest 98 = .ok (.ifCond .ne 15, 3) := by decide +kernel
theorem dX10_fewest_101 : decode cX10_fewest 101 = .ok (.iload_n 2, 1) := by decide +kernel
theorem dX10_fewest_102 : decode cX10_fewest 102 = .ok (.aload_n 0, 1) := by decide +kernel
theorem dX10_fewest_103 : decode cX10_fewest 103 = .ok (.getfield 11, 3) := by decide +kernel
theorem dX10_fewest_106 : decode cX10_fewest 106 = .ok (.iload 4, 2) := by decide +kernel
theorem dX10_fewest_108 : decode cX10_fewest 108 = .ok (.iaload, 1) := by decide +kernel
theorem dX10_fewest_109 : decode cX10_fewest 109 = .ok (.invokestatic 32, 3) := by decide +kernel
theorem dX10_fewest_112 : decode cX10_fewest 112 = .ok (.istore_n 2, 1) := by decide +kernel
theorem dX10_fewest_113 : decode cX10_fewest 113 = .ok (.iinc 4 1, 3) := by decide +kernel
theorem dX10_fewest_116 : decode cX10_fewest 116 = .ok (.goto (-34), 3) := by decide +kernel
theorem dX10_fewest_119 : decode cX10_fewest 119 = .ok (.iload_n 2, 1) := by decide +kernel
theorem dX10_fewest_120 : decode cX10_fewest 120 = .ok (.ireturn, 1) := by decide +kernel
theorem w_X10_fewest_82 {l : Launch} {D : zDD} {b : Nat} {γ γe : zGm} {ca cb : Nat} (hca : ca < N0) (hcb : cb < N0) (kca : K0 ca = (0, 16)) (kcb : K0 cb = (0, 16)) (g1 : γ 19 0 = some ca) (g2 : γ 19 1 = some cb) (x2 x3 x4 : Int32) (σ : zSg) (τ : zLm) {Q : Int32 → zSg → zLm → Prop} (h : (16 ≤ x4 → (γ = γe ∧ Q x2 σ τ)) ∧ (¬ 16 ≤ x4 → (SI l D b M_X10_covered 0 γ [.int x4] σ τ (fun r2 σ2 τ2 => (¬ (x3 &&& (r2 ^^^ (-1))) = 0 → AI l D b M_X10_fewest 2 γe Q 82 [(0, .ref (b + 19)), (2, .int x2), (3, .int x3), (4, .int (x4 + 1))] [] γ σ2 τ2) ∧ ((x3 &&& (r2 ^^^ (-1))) = 0 → (vp_in x4 16 ∧ (∀ v4 : Int32, v4 = mn x2 (σ2 ca x4.toNatClampNeg) → AI l D b M_X10_fewest 2 γe Q 82 [(0, .ref (b + 19)), (2, .int v4), (3, .int x3), (4, .int (x4 + 1))] [] γ σ2 τ2))))))) : AI l D b M_X10_fewest 2 γe Q 82 [(0, .ref (b + 19)), (2, .int x2), (3, .int x3), (4, .int x4)] [] γ σ τ := by
  refine r_iload 3 dX10_fewest_82 rfl ?_
  refine r_bipush dX10_fewest_84 cb_16 ?_
  refine r_icmp_ge (tgt := 119) dX10_fewest_86 (by decide) (fun c1 => ?_) (fun c1 => ?_)
  · replace h := h.1 c1
    refine r_iload_n 1 dX10_fewest_119 rfl rfl ?_
    exact r_iret rfl (Nat.le_refl _) (Nat.le_refl _) dX10_fewest_120 ⟨rfl, rfl, h.1, _, rfl, h.2⟩
  · replace h := h.2 c1
    refine r_iload_n 2 dX10_fewest_89 rfl rfl ?_
    refine r_iload 3 dX10_fewest_90 rfl ?_
    refine rc_SI (h' := 0) [.int x4] oks_X10_covered tw_594 rfl rfl (Nat.le_of_ble_eq_true rfl) dX10_fewest_92 (by decide) h (fun r2 σ2 τ2 h => ?_)
    refine r_iconst dX10_fewest_95 ci_m1 ?_
    refine r_ixor dX10_fewest_96 ?_
    refine r_iand dX10_fewest_97 ?_
    refine r_if_ne (tgt := 113) dX10_fewest_98 (by decide) (fun c3 => ?_) (fun c3 => ?_)
    · replace h := h.1 c3
      refine r_inc 3 dX10_fewest_113 rfl ci_1 (by decide) rfl ?_
      refine r_goto (tgt := 82) dX10_fewest_116 (by decide) ?_
      refine r_lv [1, 2, 3, 0] rfl ?_
      exact h
    · replace h := h.2 c3
      refine r_iload_n 1 dX10_fewest_101 rfl rfl ?_
      refine r_aload_n 0 dX10_fewest_102 rfl rfl ?_
      refine r_getR (j := 0) (by decide) (congrArg Prod.fst k0_19) c12_9 (by decide) rfl g1 tw_153 dX10_fewest_103 ?_
      refine r_iload 3 dX10_fewest_106 rfl ?_
      refine r_iald hca kca dX10_fewest_108 h.1 ?_
      replace h := h.2
      refine r_min tw_597 dX10_fewest_109 (by decide) (Nat.le_of_ble_eq_true rfl) (Nat.le_refl _) (Nat.le_refl _) ?_
      refine r_nmI (fun v4 ev4 => ?_)
      replace h := h v4 ev4
      refine r_istore_n dX10_fewest_112 rfl (by decide) rfl ?_
      refine r_inc 3 dX10_fewest_113 rfl ci_1 (by decide) rfl ?_
      refine r_goto (tgt := 82) dX10_fewest_116 (by decide) ?_
      refine r_lv [2, 1, 3, 0] rfl ?_
      exact h

theorem w_X10_fewest_32 {l : Launch} {D : zDD} {b : Nat} {γ γe : zGm} {ca cb : Nat} (hca : ca < N0) (hcb : cb < N0) (kca : K0 ca = (0, 16)) (kcb : K0 cb = (0, 16)) (g1 : γ 19 0 = some ca) (g2 : γ 19 1 = some cb) (x1 x2 : Int32) (σ : zSg) (τ : zLm) {Q : Int32 → zSg → zLm → Prop} (h : (4 ≤ x2 → SI l D b M_X9_rowOf 0 γ [.int x1, .int 4] σ τ (fun r2 σ2 τ2 => AI l D b M_X10_fewest 2 γe Q 82 [(0, .ref (b + 19)), (2, .int 100), (3, .int r2), (4, .int 0)] [] γ σ2 τ2)) ∧ (¬ 4 ≤ x2 → SI l D b M_X9_rowOf 0 γ [.int x1, .int x2] σ τ (fun r3 σ3 τ3 => SV l D b M_X10_addRow 1 γ [.ref (b + 19), .int r3] σ3 τ3 (fun σ4 τ4 => AI l D b M_X10_fewest 2 γe Q 32 [(0, .ref (b + 19)), (1, .int x1), (2, .int (x2 + 1))] [] (st2 (st2 γ 19 0 (some cb)) 19 1 (some ca)) σ4 τ4)))) : AI l D b M_X10_fewest 2 γe Q 32 [(0, .ref (b + 19)), (1, .int x1), (2, .int x2)] [] γ σ τ := by
  refine r_iload_n 2 dX10_fewest_32 rfl rfl ?_
  refine r_iconst dX10_fewest_33 ci_4 ?_
  refine r_icmp_ge (tgt := 70) dX10_fewest_34 (by decide) (fun c1 => ?_) (fun c1 => ?_)
  · replace h := h.1 c1
    refine r_bipush dX10_fewest_70 cb_100 ?_
    refine r_istore_n dX10_fewest_72 rfl (by decide) rfl ?_
    refine r_iload_n 2 dX10_fewest_73 rfl rfl ?_
    refine r_iconst dX10_fewest_74 ci_4 ?_
    refine rc_SI (h' := 0) [.int x1, .int 4] oks_X9_rowOf tw_589 rfl rfl (Nat.le_of_ble_eq_true rfl) dX10_fewest_75 (by decide) h (fun r2 σ2 τ2 h => ?_)
    refine r_istore_n dX10_fewest_78 rfl (by decide) rfl ?_
    refine r_iconst dX10_fewest_79 ci_0 ?_
    refine r_istore dX10_fewest_80 (by decide) rfl ?_
    refine r_lv [3, 2, 1, 0] rfl ?_
    exact h
  · replace h := h.2 c1
    refine r_aload_n 0 dX10_fewest_37 rfl rfl ?_
    refine r_iload_n 1 dX10_fewest_38 rfl rfl ?_
    refine r_iload_n 2 dX10_fewest_39 rfl rfl ?_
    refine rc_SI (h' := 0) [.int x1, .int x2] oks_X9_rowOf tw_589 rfl rfl (Nat.le_of_ble_eq_true rfl) dX10_fewest_40 (by decide) h (fun r3 σ3 τ3 h => ?_)
    refine rc_VV (h' := 1) [.int r3] okv_X10_addRow (by decide) (congrArg Prod.fst k0_19) tw_590 rfl rfl (Nat.le_of_ble_eq_true rfl) dX10_fewest_43 (by decide) h (fun σ4 τ4 h => ?_)
    refine r_aload_n 0 dX10_fewest_46 rfl rfl ?_
    refine r_getR (j := 0) (by decide) (congrArg Prod.fst k0_19) c12_9 (by decide) rfl g1 tw_153 dX10_fewest_47 ?_
    refine r_astore_n dX10_fewest_50 rfl (by decide) rfl ?_
    refine r_aload_n 1 dX10_fewest_51 rfl rfl ?_
    refine r_aload_n 1 dX10_fewest_52 rfl rfl ?_
    refine r_getR (j := 1) (by decide) (congrArg Prod.fst k0_19) c12_9 (by decide) rfl g2 tw_154 dX10_fewest_53 ?_
    refine r_putR (j := 0) (by decide) (congrArg Prod.fst k0_19) c12_9 (by decide) rfl (Or.inl rfl) tw_153 dX10_fewest_56 ?_
    refine r_aload_n 1 dX10_fewest_59 rfl rfl ?_
    refine r_aload_n 0 dX10_fewest_60 rfl rfl ?_
    refine r_putR (j := 1) (by decide) (congrArg Prod.fst k0_19) c12_9 (by decide) rfl (Or.inl rfl) tw_154 dX10_fewest_61 ?_
    refine r_inc 3 dX10_fewest_64 rfl ci_1 (by decide) rfl ?_
    refine r_goto (tgt := 32) dX10_fewest_67 (by decide) ?_
    refine r_lv [2, 3, 0] rfl ?_
    exact h

theorem w_X10_fewest_2 {l : Launch} {D : zDD} {b : Nat} {γ γe : zGm} {ca cb : Nat} (hca : ca < N0) (hcb : cb < N0) (kca : K0 ca = (0, 16)) (kcb : K0 cb = (0, 16)) (g1 : γ 19 0 = some ca) (g2 : γ 19 1 = some cb) (x1 x2 : Int32) (σ : zSg) (τ : zLm) {Q : Int32 → zSg → zLm → Prop} (h : (16 ≤ x2 → AI l D b M_X10_fewest 2 γe Q 32 [(0, .ref (b + 19)), (1, .int x1), (2, .int 0)] [] γ σ τ) ∧ (¬ 16 ≤ x2 → ((¬ x2 = 0 → (vp_in x2 16 ∧ AI l D b M_X10_fewest 2 γe Q 2 [(0, .ref (b + 19)), (1, .int x1), (2, .int (x2 + 1))] [] γ (st2 σ ca x2.toNatClampNeg 100) τ)) ∧ (x2 = 0 → (vp_in x2 16 ∧ AI l D b M_X10_fewest 2 γe Q 2 [(0, .ref (b + 19)), (1, .int x1), (2, .int (x2 + 1))] [] γ (st2 σ ca x2.toNatClampNeg 0) τ))))) : AI l D b M_X10_fewest 2 γe Q 2 [(0, .ref (b + 19)), (1, .int x1), (2, .int x2)] [] γ σ τ := by
  refine r_iload_n 2 dX10_fewest_2 rfl rfl ?_
  refine r_bipush dX10_fewest_3 cb_16 ?_
  refine r_icmp_ge (tgt := 30) dX10_fewest_5 (by decide) (fun c1 => ?_) (fun c1 => ?_)
  · replace h := h.1 c1
    refine r_iconst dX10_fewest_30 ci_0 ?_
    refine r_istore_n dX10_fewest_31 rfl (by decide) rfl ?_
    refine r_lv [1, 2, 0] rfl ?_
    exact h
  · replace h := h.2 c1
    refine r_aload_n 0 dX10_fewest_8 rfl rfl ?_
    refine r_getR (j := 0) (by decide) (congrArg Prod.fst k0_19) c12_9 (by decide) rfl g1 tw_153 dX10_fewest_9 ?_
    refine r_iload_n 2 dX10_fewest_12 rfl rfl ?_
    refine r_iload_n 2 dX10_fewest_13 rfl rfl ?_
    refine r_if_ne (tgt := 21) dX10_fewest_14 (by decide) (fun c2 => ?_) (fun c2 => ?_)
    · replace h := h.1 c2
      refine r_bipush dX10_fewest_21 cb_100 ?_
      refine r_iast hca kca dX10_fewest_23 h.1 ?_
      replace h := h.2
      refine r_inc 2 dX10_fewest_24 rfl ci_1 (by decide) rfl ?_
      refine r_goto (tgt := 2) dX10_fewest_27 (by decide) ?_
      refine r_lv [1, 2, 0] rfl ?_
      exact h
    · replace h := h.2 c2
      refine r_iconst dX10_fewest_17 ci_0 ?_
      refine r_goto (tgt := 23) dX10_fewest_18 (by decide) ?_
      refine r_iast hca kca dX10_fewest_23 h.1 ?_
      replace h := h.2
      refine r_inc 2 dX10_fewest_24 rfl ci_1 (by decide) rfl ?_
      refine r_goto (tgt := 2) dX10_fewest_27 (by decide) ?_
      refine r_lv [1, 2, 0] rfl ?_
      exact h

theorem w_X10_fewest_0 {l : Launch} {D : zDD} {b : Nat} {γ γe : zGm} {ca cb : Nat} (hca : ca < N0) (hcb : cb < N0) (kca : K0 ca = (0, 16)) (kcb : K0 cb = (0, 16)) (g1 : γ 19 0 = some ca) (g2 : γ 19 1 = some cb) (p1 : Int32) (σ : zSg) (τ : zLm) {Q : Int32 → zSg → zLm → Prop} (h : AI l D b M_X10_fewest 2 γe Q 2 [(0, .ref (b + 19)), (1, .int p1), (2, .int 0)] [] γ σ τ) : AI l D b M_X10_fewest 2 γe Q 0 [(0, .ref (b + 19)), (1, .int p1)] [] γ σ τ := by
  refine r_iconst dX10_fewest_0 ci_0 ?_
  refine r_istore_n dX10_fewest_1 rfl (by decide) rfl ?_
  refine r_lv [1, 2, 0] rfl ?_
  exact h
theorem s_X10_fewest {l : Launch} {D : zDD} {b : Nat} {γ : zGm} {ca cb : Nat} (hca : ca < N0) (hcb : cb < N0) (kca : K0 ca = (0, 16)) (kcb : K0 cb = (0, 16)) (g1 : γ 19 0 = some ca) (g2 : γ 19 1 = some cb) (p1 : Int32) (σ : zSg) (τ : zLm) {Q : Int32 → zSg → zLm → Prop} (h : AI l D b M_X10_fewest 2 γ Q 2 [(0, .ref (b + 19)), (1, .int p1), (2, .int 0)] [] γ σ τ) : SI l D b M_X10_fewest 2 γ [.ref (b + 19), .int p1] σ τ Q := zS.of (by decide) (Nat.le_of_ble_eq_true rfl) rfl (w_X10_fewest_0 hca hcb kca kcb g1 g2 p1 σ τ h)

theorem dX10_first_0 : decode cX10_first 0 = .ok (.aload_n 0, 1) := by decide +kernel
theorem dX10_first_1 : decode cX10_first 1 = .ok (.iload_n 1, 1) := by decide +kernel
theorem dX10_first_2 : decode cX10_first 2 = .ok (.invokevirtual 42, 3) := by decide +kernel
theorem dX10_first_5 : decode cX10_first 5 = .ok (.istore_n 2, 1) := by decide +kernel
theorem dX10_first_6 : decode cX10_first 6 = .ok (.iconst 0, 1) := by decide +kernel
theorem dX10_first_7 : decode cX10_first 7 = .ok (.istore_n 3, 1) := by decide +kernel
theorem dX10_first_8 : decode cX10_first 8 = .ok (.iload_n 3, 1) := by decide +kernel
theorem dX10_first_9 : decode cX10_first 9 = .ok (.iconst 4, 1) := by decide +kernel
theorem dX10_first_10 : decode cX10_first 10 = .ok (.if_icmp .ge 71, 3) := by decide +kernel
theorem dX10_first_13 : decode cX10_first 13 = .ok (.iconst 0, 1) := by decide +kernel
theorem dX10_first_14 : decode cX10_first 14 = .ok (.istore 4, 2) := by decide +kernel
theorem dX10_first_16 : decode cX10_first 16 = .ok (.iload 4, 2) := by decide +kernel
theorem dX10_first_18 : decode cX10_first 18 = .ok (.iconst 4, 1) := by decide +kernel
theorem dX10_first_19 : decode cX10_first 19 = .ok (.if_icmp .ge 56, 3) := by decide +kernel
theorem dX10_first_22 : decode cX10_first 22 = .ok (.iconst 5, 1) := by decide +kernel
theorem dX10_first_23 : decode cX10_first 23 = .ok (.iload_n 3, 1) := by decide +kernel
theorem dX10_first_24 : decode cX10_first 24 = .ok (.imul, 1) := by decide +kernel
theorem dX10_first_25 : decode cX10_first 25 = .ok (.iload 4, 2) := by decide +kernel
theorem dX10_first_27 : decode cX10_first 27 = .ok (.iadd, 1) := by decide +kernel
theorem dX10_first_28 : decode cX10_first 28 = .ok (.istore 5, 2) := by decide +kernel
theorem dX10_first_30 : decode cX10_first 30 = .ok (.iconst 3, 1) := by decide +kernel
theorem dX10_first_31 : decode cX10_first 31 = .ok (.iload 5, 2) := by decide +kernel
theorem dX10_first_33 : decode cX10_first 33 = .ok (.ishl, 1) := by decide +kernel
theorem dX10_first_34 : decode cX10_first 34 = .ok (.iconst 3, 1) := by decide +kernel
theorem dX10_first_35 : decode cX10_first 35 = .ok (.iload 5, 2) := by decide +kernel
theorem dX10_first_37 : decode cX10_first 37 = .ok (.iconst 5, 1) := by decide +kernel
theorem dX10_first_38 : decode cX10_first 38 = .ok (.iadd, 1) := by decide +kernel
theorem dX10_first_39 : decode cX10_first 39 = .ok (.ishl, 1) := by decide +kernel
theorem dX10_first_40 : decode cX10_first 40 = .ok (.ior, 1) := by decide +kernel
theorem dX10_first_41 : decode cX10_first 41 = .ok (.istore 6, 2) := by decide +kernel
theorem dX10_first_43 : decode cX10_first 43 = .ok (.iload_n 1, 1) := by decide +kernel
theorem dX10_first_44 : decode cX10_first 44 = .ok (.iload 6, 2) := by decide +kernel
theorem dX10_first_46 : decode cX10_first 46 = .ok (.iand, 1) := by decide +kernel
theorem dX10_first_47 : decode cX10_first 47 = .ok (.ifCond .eq 22, 3) := by decide +kernel
theorem dX10_first_50 : decode cX10_first 50 = .ok (.aload_n 0, 1) := by decide +kernel
theorem dX10_first_51 : decode cX10_first 51 = .ok (.iload_n 1, 1) := by decide +kernel
theorem dX10_first_52 : decode cX10_first 52 = .ok (.iload 6, 2) := by decide +kernel
theorem dX10_first_54 : decode cX10_first 54 = .ok (.iconst (-1), 1) := by decide +kernel
theorem dX10_first_55 : decode cX10_first 55 = .ok (.ixor, 1) := by decide +kernel
theorem dX10_first_56 : decode cX10_first 56 = .ok (.iand, 1) := by decide +kernel
theorem dX10_first_57 : decode cX10_first 57 = .ok (.invokevirtual 42, 3) := by decide +kernel
theorem dX10_first_60 : decode cX10_first 60 = .ok (.iload_n 2, 1) := by decide +kernel
theorem dX10_first_61 : decode cX10_first 61 = .ok (.iconst 1, 1) := by decide +kernel
theorem dX10_first_62 : decode cX10_first 62 = .ok (.isub, 1) := by decide +kernel
theorem dX10_first_63 : decode cX10_first 63 = .ok (.if_icmp .ne 6, 3) := by decide +kernel
theorem dX10_first_66 : decode cX10_first 66 = .ok (.iload 5, 2) := by decide +kernel
theorem dX10_first_68 : decode cX10_first 68 = .ok (.ireturn, 1) := by decide +kernel
theorem dX10_first_69 : decode cX10_first 69 = .ok (.iinc 4 1, 3) := by decide +kernel
theorem dX10_first_72 : decode cX10_first 72 = .ok (.goto (-56), 3) := by decide +kernel
theorem dX10_first_75 : decode cX10_first 75 = .ok (.iinc 3 1, 3) := by decide +kernel
theorem dX10_first_78 : decode cX10_first 78 = .ok (.goto (-70), 3) := by decide +kernel
theorem dX10_first_81 : decode cX10_first 81 = .ok (.iconst (-1), 1) := by decide +kernel
theorem dX10_first_82 : decode cX10_first 82 = .ok (.ireturn, 1) := by decide +kernel
theorem w_X10_first_16 {l : Launch} {D : zDD} {b : Nat} (x1 x2 x3 x4 : Int32) (σ : zSg) (τ : zLm) {Q : Int32 → zSg → zLm → Prop} (h : (4 ≤ x4 → AI l D b M_X10_first 3 G0 Q 8 [(0, .ref (b + 19)), (1, .int x1), (2, .int x2), (3, .int (x3 + 1))] [] G0 σ τ) ∧ (¬ 4 ≤ x4 → (∀ v2 : Int32, v2 = ((3 : Int32) <<< (((5 * x3) + x4) &&& 31)) ||| ((3 : Int32) <<< ((((5 * x3) + x4) + 5) &&& 31)) → ((x1 &&& v2) = 0 → AI l D b M_X10_first 3 G0 Q 16 [(0, .ref (b + 19)), (1, .int x1), (2, .int x2), (3, .int x3), (4, .int (x4 + 1))] [] G0 σ τ) ∧ (¬ (x1 &&& v2) = 0 → (SI l D b M_X10_fewest 2 G0 [.ref (b + 19), .int (x1 &&& (v2 ^^^ (-1)))] σ τ (fun r4 σ4 τ4 => (¬ r4 = (x2 - 1) → AI l D b M_X10_first 3 G0 Q 16 [(0, .ref (b + 19)), (1, .int x1), (2, .int x2), (3, .int x3), (4, .int (x4 + 1))] [] G0 σ4 τ4) ∧ (r4 = (x2 - 1) → Q ((5 * x3) + x4) σ4 τ4))))))) : AI l D b M_X10_first 3 G0 Q 16 [(0, .ref (b + 19)), (1, .int x1), (2, .int x2), (3, .int x3), (4, .int x4)] [] G0 σ τ := by
  refine r_iload 4 dX10_first_16 rfl ?_
  refine r_iconst dX10_first_18 ci_4 ?_
  refine r_icmp_ge (tgt := 75) dX10_first_19 (by decide) (fun c1 => ?_) (fun c1 => ?_)
  · replace h := h.1 c1
    refine r_inc 3 dX10_first_75 rfl ci_1 (by decide) rfl ?_
    refine r_goto (tgt := 8) dX10_first_78 (by decide) ?_
    refine r_lv [1, 2, 3, 0] rfl ?_
    exact h
  · replace h := h.2 c1
    refine r_iconst dX10_first_22 ci_5 ?_
    refine r_iload_n 3 dX10_first_23 rfl rfl ?_
    refine r_imul dX10_first_24 ?_
    refine r_iload 4 dX10_first_25 rfl ?_
    refine r_iadd dX10_first_27 ?_
    refine r_istore dX10_first_28 (by decide) rfl ?_
    refine r_iconst dX10_first_30 ci_3 ?_
    refine r_iload 0 dX10_first_31 rfl ?_
    refine r_ishl dX10_first_33 ?_
    refine r_iconst dX10_first_34 ci_3 ?_
    refine r_iload 0 dX10_first_35 rfl ?_
    refine r_iconst dX10_first_37 ci_5 ?_
    refine r_iadd dX10_first_38 ?_
    refine r_ishl dX10_first_39 ?_
    refine r_ior dX10_first_40 ?_
    refine r_nmI (fun v2 ev2 => ?_)
    replace h := h v2 ev2
    refine r_istore dX10_first_41 (by decide) rfl ?_
    refine r_iload_n 3 dX10_first_43 rfl rfl ?_
    refine r_iload 0 dX10_first_44 rfl ?_
    refine r_iand dX10_first_46 ?_
    refine r_if_eq (tgt := 69) dX10_first_47 (by decide) (fun c3 => ?_) (fun c3 => ?_)
    · replace h := h.1 c3
      refine r_inc 6 dX10_first_69 rfl ci_1 (by decide) rfl ?_
      refine r_goto (tgt := 16) dX10_first_72 (by decide) ?_
      refine r_lv [3, 4, 5, 6, 0] rfl ?_
      exact h
    · replace h := h.2 c3
      refine r_aload_n 2 dX10_first_50 rfl rfl ?_
      refine r_iload_n 3 dX10_first_51 rfl rfl ?_
      refine r_iload 0 dX10_first_52 rfl ?_
      refine r_iconst dX10_first_54 ci_m1 ?_
      refine r_ixor dX10_first_55 ?_
      refine r_iand dX10_first_56 ?_
      refine rc_VI (h' := 2) [.int (x1 &&& (v2 ^^^ (-1)))] okv_X10_fewest (by decide) (congrArg Prod.fst k0_19) tw_701 rfl rfl (Nat.le_of_ble_eq_true rfl) dX10_first_57 (by decide) h (fun r4 σ4 τ4 h => ?_)
      refine r_iload_n 4 dX10_first_60 rfl rfl ?_
      refine r_iconst dX10_first_61 ci_1 ?_
      refine r_isub dX10_first_62 ?_
      refine r_icmp_ne (tgt := 69) dX10_first_63 (by decide) (fun c5 => ?_) (fun c5 => ?_)
      · replace h := h.1 c5
        refine r_inc 6 dX10_first_69 rfl ci_1 (by decide) rfl ?_
        refine r_goto (tgt := 16) dX10_first_72 (by decide) ?_
        refine r_lv [3, 4, 5, 6, 0] rfl ?_
        exact h
      · replace h := h.2 c5
        refine r_iload 1 dX10_first_66 rfl ?_
        exact r_iret rfl (Nat.le_refl _) (Nat.le_refl _) dX10_first_68 ⟨rfl, rfl, rfl, _, rfl, h⟩

theorem w_X10_first_8 {l : Launch} {D : zDD} {b : Nat} (x1 x2 x3 : Int32) (σ : zSg) (τ : zLm) {Q : Int32 → zSg → zLm → Prop} (h : (4 ≤ x3 → Q (-1) σ τ) ∧ (¬ 4 ≤ x3 → AI l D b M_X10_first 3 G0 Q 16 [(0, .ref (b + 19)), (1, .int x1), (2, .int x2), (3, .int x3), (4, .int 0)] [] G0 σ τ)) : AI l D b M_X10_first 3 G0 Q 8 [(0, .ref (b + 19)), (1, .int x1), (2, .int x2), (3, .int x3)] [] G0 σ τ := by
  refine r_iload_n 3 dX10_first_8 rfl rfl ?_
  refine r_iconst dX10_first_9 ci_4 ?_
  refine r_icmp_ge (tgt := 81) dX10_first_10 (by decide) (fun c1 => ?_) (fun c1 => ?_)
  · replace h := h.1 c1
    refine r_iconst dX10_first_81 ci_m1 ?_
    exact r_iret rfl (Nat.le_refl _) (Nat.le_refl _) dX10_first_82 ⟨rfl, rfl, rfl, _, rfl, h⟩
  · replace h := h.2 c1
    refine r_iconst dX10_first_13 ci_0 ?_
    refine r_istore dX10_first_14 (by decide) rfl ?_
    refine r_lv [1, 2, 3, 4, 0] rfl ?_
    exact h

theorem w_X10_first_0 {l : Launch} {D : zDD} {b : Nat} (p1 : Int32) (σ : zSg) (τ : zLm) {Q : Int32 → zSg → zLm → Prop} (h : SI l D b M_X10_fewest 2 G0 [.ref (b + 19), .int p1] σ τ (fun r1 σ1 τ1 => AI l D b M_X10_first 3 G0 Q 8 [(0, .ref (b + 19)), (1, .int p1), (2, .int r1), (3, .int 0)] [] G0 σ1 τ1)) : AI l D b M_X10_first 3 G0 Q 0 [(0, .ref (b + 19)), (1, .int p1)] [] G0 σ τ := by
  refine r_aload_n 0 dX10_first_0 rfl rfl ?_
  refine r_iload_n 1 dX10_first_1 rfl rfl ?_
  refine rc_VI (h' := 2) [.int p1] okv_X10_fewest (by decide) (congrArg Prod.fst k0_19) tw_701 rfl rfl (Nat.le_of_ble_eq_true rfl) dX10_first_2 (by decide) h (fun r1 σ1 τ1 h => ?_)
  refine r_istore_n dX10_first_5 rfl (by decide) rfl ?_
  refine r_iconst dX10_first_6 ci_0 ?_
  refine r_istore_n dX10_first_7 rfl (by decide) rfl ?_
  refine r_lv [2, 3, 1, 0] rfl ?_
  exact h
theorem s_X10_first {l : Launch} {D : zDD} {b : Nat} (p1 : Int32) (σ : zSg) (τ : zLm) {Q : Int32 → zSg → zLm → Prop} (h : SI l D b M_X10_fewest 2 G0 [.ref (b + 19), .int p1] σ τ (fun r1 σ1 τ1 => AI l D b M_X10_first 3 G0 Q 8 [(0, .ref (b + 19)), (1, .int p1), (2, .int r1), (3, .int 0)] [] G0 σ1 τ1)) : SI l D b M_X10_first 3 G0 [.ref (b + 19), .int p1] σ τ Q := zS.of (by decide) (Nat.le_of_ble_eq_true rfl) rfl (w_X10_first_0 p1 σ τ h)

