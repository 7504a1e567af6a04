theorem dX4_tryNext_0 : decode cX4_tryNext 0 = .ok (.aload_n 0, 1) := by decide +kernel
theorem dX4_tryNext_1 : decode cX4_tryNext 1 = .ok (.getfield 15, 3) := by decide +kernel
theorem dX4_tryNext_4 : decode cX4_tryNext 4 = .ok (.iconst (-1), 1) := by decide +kernel
theorem dX4_tryNext_5 : decode cX4_tryNext 5 = .ok (.if_icmp .eq 12, 3) := by decide +kernel
theorem dX4_tryNext_8 : decode cX4_tryNext 8 = .ok (.iload_n 3, 1) := by decide +kernel
theorem dX4_tryNext_9 : decode cX4_tryNext 9 = .ok (.aload_n 0, 1) := by decide +kernel
theorem dX4_tryNext_10 : decode cX4_tryNext 10 = .ok (.getfield 15, 3) := by decide +kernel
theorem dX4_tryNext_13 : decode cX4_tryNext 13 = .ok (.if_icmp .lt 4, 3) := by decide +kernel
theorem dX4_tryNext_16 : decode cX4_tryNext 16 = .ok (.return_, 1) := by decide +kernel
theorem dX4_tryNext_17 : decode cX4_tryNext 17 = .ok (.iload_n 1, 1) := by decide +kernel
theorem dX4_tryNext_18 : decode cX4_tryNext 18 = .ok (.ifCond .ne 15, 3) := by decide +kernel
theorem dX4_tryNext_21 : decode cX4_tryNext 21 = .ok (.aload_n 0, 1) := by decide +kernel
theorem dX4_tryNext_22 : decode cX4_tryNext 22 = .ok (.iload_n 3, 1) := by decide +kernel
theorem dX4_tryNext_23 : decode cX4_tryNext 23 = .ok (.putfield 15, 3) := by decide +kernel
theorem dX4_tryNext_26 : decode cX4_tryNext 26 = .ok (.aload_n 0, 1) := by decide +kernel
theorem dX4_tryNext_27 : decode cX4_tryNext 27 = .ok (.iload 4, 2) := by decide +kernel
theorem dX4_tryNext_29 : decode cX4_tryNext 29 = .ok (.putfield 19, 3) := by decide +kernel
theorem dX4_tryNext_32 : decode cX4_tryNext 32 = .ok (.return_, 1) := by decide +kernel
theorem dX4_tryNext_33 : decode cX4_tryNext 33 = .ok (.iload 5, 2) := by decide +kernel
theorem dX4_tryNext_35 : decode cX4_tryNext 35 = .ok (.bipush 6, 2) := by decide +kernel
theorem dX4_tryNext_37 : decode cX4_tryNext 37 = .ok (.if_icmp .lt 4, 3) := by decide +kernel
theorem dX4_tryNext_40 : decode cX4_tryNext 40 = .ok (.return_, 1) := by decide +kernel
theorem dX4_tryNext_41 : decode cX4_tryNext 41 = .ok (.iconst 0, 1) := by decide +kernel
theorem dX4_tryNext_42 : decode cX4_tryNext 42 = .ok (.istore 6, 2) := by decide +kernel
theorem dX4_tryNext_44 : decode cX4_tryNext 44 = .ok (.iload 6, 2) := by decide +kernel
theorem dX4_tryNext_46 : decode cX4_tryNext 46 = .ok (.bipush 6, 2) := by decide +kernel
theorem dX4_tryNext_48 : decode cX4_tryNext 48 = .ok (.if_icmp .ge 72, 3) := by decide +kernel
theorem dX4_tryNext_51 : decode cX4_tryNext 51 = .ok (.iload_n 1, 1) := by decide +kernel
theorem dX4_tryNext_52 : decode cX4_tryNext 52 = .ok (.iload 6, 2) := by decide +kernel
theorem dX4_tryNext_54 : decode cX4_tryNext 54 = .ok (.invokestatic 25, 3) := by decide +kernel
theorem dX4_tryNext_57 : decode cX4_tryNext 57 = .ok (.ifCond .eq 57, 3) := by decide +kernel
theorem dX4_tryNext_60 : decode cX4_tryNext 60 = .ok (.iload_n 2, 1) := by decide +kernel
theorem dX4_tryNext_61 : decode cX4_tryNext 61 = .ok (.aload_n 0, 1) := by decide +kernel
theorem dX4_tryNext_62 : decode cX4_tryNext 62 = .ok (.getfield 9, 3) := by decide +kernel
theorem dX4_tryNext_65 : decode cX4_tryNext 65 = .ok (.iconst 2, 1) := by decide +kernel
theorem dX4_tryNext_66 : decode cX4_tryNext 66 = .ok (.iload 6, 2) := by decide +kernel
theorem dX4_tryNext_68 : decode cX4_tryNext 68 = .ok (.imul, 1) := by decide +kernel
theorem dX4_tryNext_69 : decode cX4_tryNext 69 = .ok (.aload_n 0, 1) := by decide +kernel
theorem dX4_tryNext_70 : decode cX4_tryNext 70 = .ok (.getfield 22, 3) := by decide +kernel
theorem dX4_tryNext_73 : decode cX4_tryNext 73 = .ok (.iload_n 2, 1) := by decide +kernel
theorem dX4_tryNext_74 : decode cX4_tryNext 74 = .ok (.iadd, 1) := by decide +kernel
theorem dX4_tryNext_75 : decode cX4_tryNext 75 = .ok (.iconst 2, 1) := by decide +kernel
theorem dX4_tryNext_76 : decode cX4_tryNext 76 = .ok (.irem, 1) := by decide +kernel
theorem dX4_tryNext_77 : decode cX4_tryNext 77 = .ok (.iadd, 1) := by decide +kernel
theorem dX4_tryNext_78 : decode cX4_tryNext 78 = .ok (.iaload, 1) := by decide +kernel
theorem dX4_tryNext_79 : decode cX4_tryNext 79 = .ok (.iadd, 1) := by decide +kernel
theorem dX4_tryNext_80 : decode cX4_tryNext 80 = .ok (.istore 7, 2) := by decide +kernel
theorem dX4_tryNext_82 : decode cX4_tryNext 82 = .ok (.aload_n 0, 1) := by decide +kernel
theorem dX4_tryNext_83 : decode cX4_tryNext 83 = .ok (.iload_n 1, 1) := by decide +kernel
theorem dX4_tryNext_84 : decode cX4_tryNext 84 = .ok (.iconst 1, 1) := by decide +kernel
theorem dX4_tryNext_85 : decode cX4_tryNext 85 = .ok (.iload 6, 2) := by decide +kernel
theorem dX4_tryNext_87 : decode cX4_tryNext 87 = .ok (.ishl, 1) := by decide +kernel
theorem dX4_tryNext_88 : decode cX4_tryNext 88 = .ok (.iconst (-1), 1) := by decide +kernel
theorem dX4_tryNext_89 : decode cX4_tryNext 89 = .ok (.ixor, 1) := by decide +kernel
theorem dX4_tryNext_90 : decode cX4_tryNext 90 = .ok (.iand, 1) := by decide +kernel
theorem dX4_tryNext_91 : decode cX4_tryNext 91 = .ok (.iload 7, 2) := by decide +kernel
theorem dX4_tryNext_93 : decode cX4_tryNext 93 = .ok (.iload_n 3, 1) := by decide +kernel
theorem dX4_tryNext_94 : decode cX4_tryNext 94 = .ok (.iload 7, 2) := by decide +kernel
theorem dX4_tryNext_96 : decode cX4_tryNext 96 = .ok (.iadd, 1) := by decide +kernel
theorem dX4_tryNext_97 : decode cX4_tryNext 97 = .ok (.bipush 10, 2) := by decide +kernel
theorem dX4_tryNext_99 : decode cX4_tryNext 99 = .ok (.iload 4, 2) := by decide +kernel
theorem dX4_tryNext_101 : decode cX4_tryNext 101 = .ok (.imul, 1) := by decide +kernel
theorem dX4_tryNext_102 : decode cX4_tryNext 102 = .ok (.iload 6, 2) := by decide +kernel
theorem dX4_tryNext_104 : decode cX4_tryNext 104 = .ok (.iadd, 1) := by decide +kernel
theorem dX4_tryNext_105 : decode cX4_tryNext 105 = .ok (.iconst 1, 1) := by decide +kernel
theorem dX4_tryNext_106 : decode cX4_tryNext 106 = .ok (.iadd, 1) := by decide +kernel
theorem dX4_tryNext_107 : decode cX4_tryNext 107 = .ok (.iload 5, 2) := by decide +kernel
theorem dX4_tryNext_109 : decode cX4_tryNext 109 = .ok (.iconst 1, 1) := by decide +kernel
theorem dX4_tryNext_110 : decode cX4_tryNext 110 = .ok (.iadd, 1) := by decide +kernel
theorem dX4_tryNext_111 : decode cX4_tryNext 111 = .ok (.invokestatic 37, 3) := by decide +kernel
theorem dX4_tryNext_114 : decode cX4_tryNext 114 = .ok (.iinc 6 1, 3) := by decide +kernel
theorem dX4_tryNext_117 : decode cX4_tryNext 117 = .ok (.goto (-73), 3) := by decide +kernel
theorem dX4_tryNext_120 : decode cX4_tryNext 120 = .ok (.return_, 1) := by decide +kernel
theorem w_X4_tryNext_44 {l : Launch} {D : zDD} {b : Nat} {hh : Nat} (x1 x2 x3 x4 x5 x6 : Int32) (σ : zSg) (τ : zLm) {Q : zSg → zLm → Prop} (h : (6 ≤ x6 → Q σ τ) ∧ (¬ 6 ≤ x6 → (SI l D b M_X9_has 0 G0 [.int x1, .int x6] σ τ (fun r2 σ2 τ2 => (r2 = 0 → AV l D b M_X4_tryNext (hh + 1) G0 Q 44 [(0, .ref (b + 118)), (1, .int x1), (2, .int x2), (3, .int x3), (4, .int x4), (5, .int x5), (6, .int (x6 + 1))] [] G0 σ2 τ2) ∧ (¬ r2 = 0 → (vp_in ((2 * x6) + (((σ2 118 3) + x2) - ((σ2 118 3) + x2) / 2 * 2)) 12 ∧ (∀ v4 : Int32, v4 = x2 + (σ2 119 (((2 * x6) + (((σ2 118 3) + x2) - ((σ2 118 3) + x2) / 2 * 2)).toNatClampNeg)) → SV l D b M_X4_tryNext hh G0 [.ref (b + 118), .int (x1 &&& (((1 : Int32) <<< (x6 &&& 31)) ^^^ (-1))), .int v4, .int (x3 + v4), .int (((10 * x4) + x6) + 1), .int (x5 + 1)] σ2 τ2 (fun σ5 τ5 => AV l D b M_X4_tryNext (hh + 1) G0 Q 44 [(0, .ref (b + 118)), (1, .int x1), (2, .int x2), (3, .int x3), (4, .int x4), (5, .int x5), (6, .int (x6 + 1))] [] G0 σ5 τ5)))))))) : AV l D b M_X4_tryNext (hh + 1) G0 Q 44 [(0, .ref (b + 118)), (1, .int x1), (2, .int x2), (3, .int x3), (4, .int x4), (5, .int x5), (6, .int x6)] [] G0 σ τ := by
  refine r_iload 6 dX4_tryNext_44 rfl ?_
  refine r_bipush dX4_tryNext_46 cb_6 ?_
  refine r_icmp_ge (tgt := 120) dX4_tryNext_48 (by decide) (fun c1 => ?_) (fun c1 => ?_)
  · replace h := h.1 c1
    exact r_vret rfl (Nat.le_refl _) (Nat.le_refl _) dX4_tryNext_120 ⟨rfl, rfl, rfl, rfl, h⟩
  · replace h := h.2 c1
    refine r_iload_n 1 dX4_tryNext_51 rfl rfl ?_
    refine r_iload 6 dX4_tryNext_52 rfl ?_
    refine rc_SI (h' := 0) [.int x1, .int x6] oks_X9_has tw_733 rfl rfl (Nat.le_of_ble_eq_true rfl) dX4_tryNext_54 (by omega) h (fun r2 σ2 τ2 h => ?_)
    refine r_if_eq (tgt := 114) dX4_tryNext_57 (by decide) (fun c3 => ?_) (fun c3 => ?_)
    · replace h := h.1 c3
      refine r_inc 6 dX4_tryNext_114 rfl ci_1 (by decide) rfl ?_
      refine r_goto (tgt := 44) dX4_tryNext_117 (by decide) ?_
      refine r_lv [1, 2, 3, 4, 5, 6, 0] rfl ?_
      exact h
    · replace h := h.2 c3
      refine r_iload_n 2 dX4_tryNext_60 rfl rfl ?_
      refine r_aload_n 0 dX4_tryNext_61 rfl rfl ?_
      refine r_getR (j := 0) (by decide) (congrArg Prod.fst k0_118) c12_4 (by decide) rfl g0_118_0 tw_226 dX4_tryNext_62 ?_
      refine r_iconst dX4_tryNext_65 ci_2 ?_
      refine r_iload 6 dX4_tryNext_66 rfl ?_
      refine r_imul dX4_tryNext_68 ?_
      refine r_aload_n 0 dX4_tryNext_69 rfl rfl ?_
      refine r_getI (j := 3) (by decide) (congrArg Prod.fst k0_118) c12_4 (by decide) rfl tw_231 dX4_tryNext_70 ?_
      refine r_iload_n 2 dX4_tryNext_73 rfl rfl ?_
      refine r_iadd dX4_tryNext_74 ?_
      refine r_iconst dX4_tryNext_75 ci_2 ?_
      refine r_irem dX4_tryNext_76 (by decide) ?_
      refine r_iadd dX4_tryNext_77 ?_
      refine r_iald (by decide) k0_119 dX4_tryNext_78 h.1 ?_
      replace h := h.2
      refine r_iadd dX4_tryNext_79 ?_
      refine r_nmI (fun v4 ev4 => ?_)
      replace h := h v4 ev4
      refine r_istore dX4_tryNext_80 (by decide) rfl ?_
      refine r_aload_n 1 dX4_tryNext_82 rfl rfl ?_
      refine r_iload_n 2 dX4_tryNext_83 rfl rfl ?_
      refine r_iconst dX4_tryNext_84 ci_1 ?_
      refine r_iload 7 dX4_tryNext_85 rfl ?_
      refine r_ishl dX4_tryNext_87 ?_
      refine r_iconst dX4_tryNext_88 ci_m1 ?_
      refine r_ixor dX4_tryNext_89 ?_
      refine r_iand dX4_tryNext_90 ?_
      refine r_iload 0 dX4_tryNext_91 rfl ?_
      refine r_iload_n 4 dX4_tryNext_93 rfl rfl ?_
      refine r_iload 0 dX4_tryNext_94 rfl ?_
      refine r_iadd dX4_tryNext_96 ?_
      refine r_bipush dX4_tryNext_97 cb_10 ?_
      refine r_iload 5 dX4_tryNext_99 rfl ?_
      refine r_imul dX4_tryNext_101 ?_
      refine r_iload 7 dX4_tryNext_102 rfl ?_
      refine r_iadd dX4_tryNext_104 ?_
      refine r_iconst dX4_tryNext_105 ci_1 ?_
      refine r_iadd dX4_tryNext_106 ?_
      refine r_iload 6 dX4_tryNext_107 rfl ?_
      refine r_iconst dX4_tryNext_109 ci_1 ?_
      refine r_iadd dX4_tryNext_110 ?_
      refine rc_SV (h' := hh) [.ref (b + 118), .int (x1 &&& (((1 : Int32) <<< (x6 &&& 31)) ^^^ (-1))), .int v4, .int (x3 + v4), .int (((10 * x4) + x6) + 1), .int (x5 + 1)] oks_X4_tryNext tw_735 rfl rfl (Nat.le_of_ble_eq_true rfl) dX4_tryNext_111 (by omega) h (fun σ5 τ5 h => ?_)
      refine r_inc 7 dX4_tryNext_114 rfl ci_1 (by decide) rfl ?_
      refine r_goto (tgt := 44) dX4_tryNext_117 (by decide) ?_
      refine r_lv [2, 3, 4, 5, 6, 7, 0] rfl ?_
      exact h

theorem w_X4_tryNext_17 {l : Launch} {D : zDD} {b : Nat} {hh : Nat} (x1 x2 x3 x4 x5 : Int32) (σ : zSg) (τ : zLm) {Q : zSg → zLm → Prop} (h : (¬ x1 = 0 → ((x5 < 6 → AV l D b M_X4_tryNext (hh + 1) G0 Q 44 [(0, .ref (b + 118)), (1, .int x1), (2, .int x2), (3, .int x3), (4, .int x4), (5, .int x5), (6, .int 0)] [] G0 σ τ) ∧ (¬ x5 < 6 → Q σ τ))) ∧ (x1 = 0 → Q (st2 (st2 σ 118 1 x3) 118 2 x4) τ)) : AV l D b M_X4_tryNext (hh + 1) G0 Q 17 [(0, .ref (b + 118)), (1, .int x1), (2, .int x2), (3, .int x3), (4, .int x4), (5, .int x5)] [] G0 σ τ := by
  refine r_iload_n 1 dX4_tryNext_17 rfl rfl ?_
  refine r_if_ne (tgt := 33) dX4_tryNext_18 (by decide) (fun c1 => ?_) (fun c1 => ?_)
  · replace h := h.1 c1
    refine r_iload 5 dX4_tryNext_33 rfl ?_
    refine r_bipush dX4_tryNext_35 cb_6 ?_
    refine r_icmp_lt (tgt := 41) dX4_tryNext_37 (by decide) (fun c2 => ?_) (fun c2 => ?_)
    · replace h := h.1 c2
      refine r_iconst dX4_tryNext_41 ci_0 ?_
      refine r_istore dX4_tryNext_42 (by decide) rfl ?_
      refine r_lv [1, 2, 3, 4, 5, 6, 0] rfl ?_
      exact h
    · replace h := h.2 c2
      exact r_vret rfl (Nat.le_refl _) (Nat.le_refl _) dX4_tryNext_40 ⟨rfl, rfl, rfl, rfl, h⟩
  · replace h := h.2 c1
    refine r_aload_n 0 dX4_tryNext_21 rfl rfl ?_
    refine r_iload_n 3 dX4_tryNext_22 rfl rfl ?_
    refine r_putI (j := 1) (by decide) (congrArg Prod.fst k0_118) c12_4 (by decide) rfl (Or.inl rfl) tw_227 dX4_tryNext_23 ?_
    refine r_aload_n 0 dX4_tryNext_26 rfl rfl ?_
    refine r_iload 4 dX4_tryNext_27 rfl ?_
    refine r_putI (j := 2) (by decide) (congrArg Prod.fst k0_118) c12_4 (by decide) rfl (Or.inl rfl) tw_229 dX4_tryNext_29 ?_
    exact r_vret rfl (Nat.le_refl _) (Nat.le_refl _) dX4_tryNext_32 ⟨rfl, rfl, rfl, rfl, h⟩

theorem w_X4_tryNext_0 {l : Launch} {D : zDD} {b : Nat} {hh : Nat} (p2 p3 p4 p5 p6 : Int32) (σ : zSg) (τ : zLm) {Q : zSg → zLm → Prop} (h : ((σ 118 1) = (-1) → AV l D b M_X4_tryNext (hh + 1) G0 Q 17 [(0, .ref (b + 118)), (1, .int p2), (2, .int p3), (3, .int p4), (4, .int p5), (5, .int p6)] [] G0 σ τ) ∧ (¬ (σ 118 1) = (-1) → ((p4 < (σ 118 1) → AV l D b M_X4_tryNext (hh + 1) G0 Q 17 [(0, .ref (b + 118)), (1, .int p2), (2, .int p3), (3, .int p4), (4, .int p5), (5, .int p6)] [] G0 σ τ) ∧ (¬ p4 < (σ 118 1) → Q σ τ)))) : AV l D b M_X4_tryNext (hh + 1) G0 Q 0 [(0, .ref (b + 118)), (1, .int p2), (2, .int p3), (3, .int p4), (4, .int p5), (5, .int p6)] [] G0 σ τ := by
  refine r_aload_n 0 dX4_tryNext_0 rfl rfl ?_
  refine r_getI (j := 1) (by decide) (congrArg Prod.fst k0_118) c12_4 (by decide) rfl tw_227 dX4_tryNext_1 ?_
  refine r_iconst dX4_tryNext_4 ci_m1 ?_
  refine r_icmp_eq (tgt := 17) dX4_tryNext_5 (by decide) (fun c1 => ?_) (fun c1 => ?_)
  · replace h := h.1 c1
    exact h
  · replace h := h.2 c1
    refine r_iload_n 3 dX4_tryNext_8 rfl rfl ?_
    refine r_aload_n 0 dX4_tryNext_9 rfl rfl ?_
    refine r_getI (j := 1) (by decide) (congrArg Prod.fst k0_118) c12_4 (by decide) rfl tw_227 dX4_tryNext_10 ?_
    refine r_icmp_lt (tgt := 17) dX4_tryNext_13 (by decide) (fun c2 => ?_) (fun c2 => ?_)
    · replace h := h.1 c2
      exact h
    · replace h := h.2 c2
      exact r_vret rfl (Nat.le_refl _) (Nat.le_refl _) dX4_tryNext_16 ⟨rfl, rfl, rfl, rfl, h⟩
theorem s_X4_tryNext {l : Launch} {D : zDD} {b : Nat} {hh : Nat} (p2 p3 p4 p5 p6 : Int32) (σ : zSg) (τ : zLm) {Q : zSg → zLm → Prop} (h : ((σ 118 1) = (-1) → AV l D b M_X4_tryNext (hh + 1) G0 Q 17 [(0, .ref (b + 118)), (1, .int p2), (2, .int p3), (3, .int p4), (4, .int p5), (5, .int p6)] [] G0 σ τ) ∧ (¬ (σ 118 1) = (-1) → ((p4 < (σ 118 1) → AV l D b M_X4_tryNext (hh + 1) G0 Q 17 [(0, .ref (b + 118)), (1, .int p2), (2, .int p3), (3, .int p4), (4, .int p5), (5, .int p6)] [] G0 σ τ) ∧ (¬ p4 < (σ 118 1) → Q σ τ)))) : SV l D b M_X4_tryNext (hh + 1) G0 [.ref (b + 118), .int p2, .int p3, .int p4, .int p5, .int p6] σ τ Q := zS.of (by decide) (Nat.le_of_ble_eq_true rfl) rfl (w_X4_tryNext_0 p2 p3 p4 p5 p6 σ τ h)

theorem dX4_find_0 : decode cX4_find 0 = .ok (.aload_n 0, 1) := by decide +kernel
theorem dX4_find_1 : decode cX4_find 1 = .ok (.iconst (-1), 1) := by decide +kernel
theorem dX4_find_2 : decode cX4_find 2 = .ok (.putfield 15, 3) := by decide +kernel
theorem dX4_find_5 : decode cX4_find 5 = .ok (.aload_n 0, 1) := by decide +kernel
theorem dX4_find_6 : decode cX4_find 6 = .ok (.iconst (-1), 1) := by decide +kernel
theorem dX4_find_7 : decode cX4_find 7 = .ok (.putfield 19, 3) := by decide +kernel
theorem dX4_find_10 : decode cX4_find 10 = .ok (.aload_n 0, 1) := by decide +kernel
theorem dX4_find_11 : decode cX4_find 11 = .ok (.iload_n 3, 1) := by decide +kernel
theorem dX4_find_12 : decode cX4_find 12 = .ok (.putfield 22, 3) := by decide +kernel
theorem dX4_find_15 : decode cX4_find 15 = .ok (.iconst 0, 1) := by decide +kernel
theorem dX4_find_16 : decode cX4_find 16 = .ok (.istore 4, 2) := by decide +kernel
theorem dX4_find_18 : decode cX4_find 18 = .ok (.iload 4, 2) := by decide +kernel
theorem dX4_find_20 : decode cX4_find 20 = .ok (.bipush 6, 2) := by decide +kernel
theorem dX4_find_22 : decode cX4_find 22 = .ok (.if_icmp .ge 81, 3) := by decide +kernel
theorem dX4_find_25 : decode cX4_find 25 = .ok (.iload_n 1, 1) := by decide +kernel
theorem dX4_find_26 : decode cX4_find 26 = .ok (.iload 4, 2) := by decide +kernel
theorem dX4_find_28 : decode cX4_find 28 = .ok (.invokestatic 25, 3) := by decide +kernel
theorem dX4_find_31 : decode cX4_find 31 = .ok (.ifCond .eq 66, 3) := by decide +kernel
theorem dX4_find_34 : decode cX4_find 34 = .ok (.aload_n 0, 1) := by decide +kernel
theorem dX4_find_35 : decode cX4_find 35 = .ok (.getfield 9, 3) := by decide +kernel
theorem dX4_find_38 : decode cX4_find 38 = .ok (.iconst 2, 1) := by decide +kernel
theorem dX4_find_39 : decode cX4_find 39 = .ok (.iload 4, 2) := by decide +kernel
theorem dX4_find_41 : decode cX4_find 41 = .ok (.imul, 1) := by decide +kernel
theorem dX4_find_42 : decode cX4_find 42 = .ok (.aload_n 2, 1) := by decide +kernel
theorem dX4_find_43 : decode cX4_find 43 = .ok (.iload 4, 2) := by decide +kernel
theorem dX4_find_45 : decode cX4_find 45 = .ok (.iconst 0, 1) := by decide +kernel
theorem dX4_find_46 : decode cX4_find 46 = .ok (.invokevirtual 31, 3) := by decide +kernel
theorem dX4_find_49 : decode cX4_find 49 = .ok (.iastore, 1) := by decide +kernel
theorem dX4_find_50 : decode cX4_find 50 = .ok (.aload_n 0, 1) := by decide +kernel
theorem dX4_find_51 : decode cX4_find 51 = .ok (.getfield 9, 3) := by decide +kernel
theorem dX4_find_54 : decode cX4_find 54 = .ok (.iconst 2, 1) := by decide +kernel
theorem dX4_find_55 : decode cX4_find 55 = .ok (.iload 4, 2) := by decide +kernel
theorem dX4_find_57 : decode cX4_find 57 = .ok (.imul, 1) := by decide +kernel
theorem dX4_find_58 : decode cX4_find 58 = .ok (.iconst 1, 1) := by decide +kernel
theorem dX4_find_59 : decode cX4_find 59 = .ok (.iadd, 1) := by decide +kernel
theorem dX4_find_60 : decode cX4_find 60 = .ok (.aload_n 2, 1) := by decide +kernel
theorem dX4_find_61 : decode cX4_find 61 = .ok (.iload 4, 2) := by decide +kernel
theorem dX4_find_63 : decode cX4_find 63 = .ok (.iconst 1, 1) := by decide +kernel
theorem dX4_find_64 : decode cX4_find 64 = .ok (.invokevirtual 31, 3) := by decide +kernel
theorem dX4_find_67 : decode cX4_find 67 = .ok (.iastore, 1) := by decide +kernel
theorem dX4_find_68 : decode cX4_find 68 = .ok (.aload_n 0, 1) := by decide +kernel
theorem dX4_find_69 : decode cX4_find 69 = .ok (.getfield 9, 3) := by decide +kernel
theorem dX4_find_72 : decode cX4_find 72 = .ok (.iconst 2, 1) := by decide +kernel
theorem dX4_find_73 : decode cX4_find 73 = .ok (.iload 4, 2) := by decide +kernel
theorem dX4_find_75 : decode cX4_find 75 = .ok (.imul, 1) := by decide +kernel
theorem dX4_find_76 : decode cX4_find 76 = .ok (.iaload, 1) := by decide +kernel
theorem dX4_find_77 : decode cX4_find 77 = .ok (.iconst (-1), 1) := by decide +kernel
theorem dX4_find_78 : decode cX4_find 78 = .ok (.if_icmp .eq 18, 3) := by decide +kernel
theorem dX4_find_81 : decode cX4_find 81 = .ok (.aload_n 0, 1) := by decide +kernel
theorem dX4_find_82 : decode cX4_find 82 = .ok (.getfield 9, 3) := by decide +kernel
theorem dX4_find_85 : decode cX4_find 85 = .ok (.iconst 2, 1) := by decide +kernel
theorem dX4_find_86 : decode cX4_find 86 = .ok (.iload 4, 2) := by decide +kernel
theorem dX4_find_88 : decode cX4_find 88 = .ok (.imul, 1) := by decide +kernel
theorem dX4_find_89 : decode cX4_find 89 = .ok (.iconst 1, 1) := by decide +kernel
theorem dX4_find_90 : decode cX4_find 90 = .ok (.iadd, 1) := by decide +kernel
theorem dX4_find_91 : decode cX4_find 91 = .ok (.iaload, 1) := by decide +kernel
theorem dX4_find_92 : decode cX4_find 92 = .ok (.iconst (-1), 1) := by decide +kernel
theorem dX4_find_93 : decode cX4_find 93 = .ok (.if_icmp .ne 4, 3) := by decide +kernel
theorem dX4_find_96 : decode cX4_find 96 = .ok (.return_, 1) := by decide +kernel
theorem dX4_find_97 : decode cX4_find 97 = .ok (.iinc 4 1, 3) := by decide +kernel
theorem dX4_find_100 : decode cX4_find 100 = .ok (.goto (-82), 3) := by decide +kernel
theorem dX4_find_103 : decode cX4_find 103 = .ok (.aload_n 0, 1) := by decide +kernel
theorem dX4_find_104 : decode cX4_find 104 = .ok (.iload_n 1, 1) := by decide +kernel
theorem dX4_find_105 : decode cX4_find 105 = .ok (.iconst 0, 1) := by decide +kernel
theorem dX4_find_106 : decode cX4_find 106 = .ok (.iconst 0, 1) := by decide +kernel
theorem dX4_find_107 : decode cX4_find 107 = .ok (.iconst 0, 1) := by decide +kernel
theorem dX4_find_108 : decode cX4_find 108 = .ok (.iconst 0, 1) := by decide +kernel
theorem dX4_find_109 : decode cX4_find 109 = .ok (.invokestatic 37, 3) := by decide +kernel
theorem dX4_find_112 : decode cX4_find 112 = .ok (.return_, 1) := by decide +kernel
theorem w_X4_find_18 {l : Launch} {D : zDD} {b : Nat} (x1 x4 : Int32) (σ : zSg) (τ : zLm) {Q : zSg → zLm → Prop} (h : (6 ≤ x4 → SV l D b M_X4_tryNext 9 G0 [.ref (b + 118), .int x1, .int 0, .int 0, .int 0, .int 0] σ τ (fun σ2 τ2 => Q σ2 τ2)) ∧ (¬ 6 ≤ x4 → (SI l D b M_X9_has 0 G0 [.int x1, .int x4] σ τ (fun r3 σ3 τ3 => (r3 = 0 → AV l D b M_X4_find 10 G0 Q 18 [(0, .ref (b + 118)), (1, .int x1), (2, .ref (b + 8)), (4, .int (x4 + 1))] [] G0 σ3 τ3) ∧ (¬ r3 = 0 → (SI l D b M_X2_hoursTillGood 2 G0 [.ref (b + 8), .int x4, .int 0] σ3 τ3 (fun r5 σ5 τ5 => vp_in (2 * x4) 12 ∧ (SI l D b M_X2_hoursTillGood 2 G0 [.ref (b + 8), .int x4, .int 1] (st2 σ5 119 ((2 * x4).toNatClampNeg) r5) τ5 (fun r6 σ6 τ6 => vp_in ((2 * x4) + 1) 12 ∧ (vp_in (2 * x4) 12 ∧ ((((st2 σ6 119 (((2 * x4) + 1).toNatClampNeg) r6) 119 ((2 * x4).toNatClampNeg)) = (-1) → Q (st2 σ6 119 (((2 * x4) + 1).toNatClampNeg) r6) τ6) ∧ (¬ ((st2 σ6 119 (((2 * x4) + 1).toNatClampNeg) r6) 119 ((2 * x4).toNatClampNeg)) = (-1) → (vp_in ((2 * x4) + 1) 12 ∧ ((¬ ((st2 σ6 119 (((2 * x4) + 1).toNatClampNeg) r6) 119 (((2 * x4) + 1).toNatClampNeg)) = (-1) → AV l D b M_X4_find 10 G0 Q 18 [(0, .ref (b + 118)), (1, .int x1), (2, .ref (b + 8)), (4, .int (x4 + 1))] [] G0 (st2 σ6 119 (((2 * x4) + 1).toNatClampNeg) r6) τ6) ∧ (((st2 σ6 119 (((2 * x4) + 1).toNatClampNeg) r6) 119 (((2 * x4) + 1).toNatClampNeg)) = (-1) → Q (st2 σ6 119 (((2 * x4) + 1).toNatClampNeg) r6) τ6))))))))))))))) : AV l D b M_X4_find 10 G0 Q 18 [(0, .ref (b + 118)), (1, .int x1), (2, .ref (b + 8)), (4, .int x4)] [] G0 σ τ := by
  refine r_iload 3 dX4_find_18 rfl ?_
  refine r_bipush dX4_find_20 cb_6 ?_
  refine r_icmp_ge (tgt := 103) dX4_find_22 (by decide) (fun c1 => ?_) (fun c1 => ?_)
  · replace h := h.1 c1
    refine r_aload_n 0 dX4_find_103 rfl rfl ?_
    refine r_iload_n 1 dX4_find_104 rfl rfl ?_
    refine r_iconst dX4_find_105 ci_0 ?_
    refine r_iconst dX4_find_106 ci_0 ?_
    refine r_iconst dX4_find_107 ci_0 ?_
    refine r_iconst dX4_find_108 ci_0 ?_
    refine rc_SV (h' := 9) [.ref (b + 118), .int x1, .int 0, .int 0, .int 0, .int 0] oks_X4_tryNext tw_735 rfl rfl (Nat.le_of_ble_eq_true rfl) dX4_find_109 (by decide) h (fun σ2 τ2 h => ?_)
    exact r_vret rfl (Nat.le_refl _) (Nat.le_refl _) dX4_find_112 ⟨rfl, rfl, rfl, rfl, h⟩
  · replace h := h.2 c1
    refine r_iload_n 1 dX4_find_25 rfl rfl ?_
    refine r_iload 3 dX4_find_26 rfl ?_
    refine rc_SI (h' := 0) [.int x1, .int x4] oks_X9_has tw_733 rfl rfl (Nat.le_of_ble_eq_true rfl) dX4_find_28 (by decide) h (fun r3 σ3 τ3 h => ?_)
    refine r_if_eq (tgt := 97) dX4_find_31 (by decide) (fun c4 => ?_) (fun c4 => ?_)
    · replace h := h.1 c4
      refine r_inc 3 dX4_find_97 rfl ci_1 (by decide) rfl ?_
      refine r_goto (tgt := 18) dX4_find_100 (by decide) ?_
      refine r_lv [1, 2, 3, 0] rfl ?_
      exact h
    · replace h := h.2 c4
      refine r_aload_n 0 dX4_find_34 rfl rfl ?_
      refine r_getR (j := 0) (by decide) (congrArg Prod.fst k0_118) c12_4 (by decide) rfl g0_118_0 tw_226 dX4_find_35 ?_
      refine r_iconst dX4_find_38 ci_2 ?_
      refine r_iload 3 dX4_find_39 rfl ?_
      refine r_imul dX4_find_41 ?_
      refine r_aload_n 2 dX4_find_42 rfl rfl ?_
      refine r_iload 3 dX4_find_43 rfl ?_
      refine r_iconst dX4_find_45 ci_0 ?_
      refine rc_VI (h' := 2) [.int x4, .int 0] okv_X2_hoursTillGood (by decide) (congrArg Prod.fst k0_8) tw_734 rfl rfl (Nat.le_of_ble_eq_true rfl) dX4_find_46 (by decide) h (fun r5 σ5 τ5 h => ?_)
      refine r_iast (by decide) k0_119 dX4_find_49 h.1 ?_
      replace h := h.2
      refine r_aload_n 0 dX4_find_50 rfl rfl ?_
      refine r_getR (j := 0) (by decide) (congrArg Prod.fst k0_118) c12_4 (by decide) rfl g0_118_0 tw_226 dX4_find_51 ?_
      refine r_iconst dX4_find_54 ci_2 ?_
      refine r_iload 3 dX4_find_55 rfl ?_
      refine r_imul dX4_find_57 ?_
      refine r_iconst dX4_find_58 ci_1 ?_
      refine r_iadd dX4_find_59 ?_
      refine r_aload_n 2 dX4_find_60 rfl rfl ?_
      refine r_iload 3 dX4_find_61 rfl ?_
      refine r_iconst dX4_find_63 ci_1 ?_
      refine rc_VI (h' := 2) [.int x4, .int 1] okv_X2_hoursTillGood (by decide) (congrArg Prod.fst k0_8) tw_734 rfl rfl (Nat.le_of_ble_eq_true rfl) dX4_find_64 (by decide) h (fun r6 σ6 τ6 h => ?_)
      refine r_iast (by decide) k0_119 dX4_find_67 h.1 ?_
      replace h := h.2
      refine r_aload_n 0 dX4_find_68 rfl rfl ?_
      refine r_getR (j := 0) (by decide) (congrArg Prod.fst k0_118) c12_4 (by decide) rfl g0_118_0 tw_226 dX4_find_69 ?_
      refine r_iconst dX4_find_72 ci_2 ?_
      refine r_iload 3 dX4_find_73 rfl ?_
      refine r_imul dX4_find_75 ?_
      refine r_iald (by decide) k0_119 dX4_find_76 h.1 ?_
      replace h := h.2
      refine r_iconst dX4_find_77 ci_m1 ?_
      refine r_icmp_eq (tgt := 96) dX4_find_78 (by decide) (fun c7 => ?_) (fun c7 => ?_)
      · replace h := h.1 c7
        exact r_vret rfl (Nat.le_refl _) (Nat.le_refl _) dX4_find_96 ⟨rfl, rfl, rfl, rfl, h⟩
      · replace h := h.2 c7
        refine r_aload_n 0 dX4_find_81 rfl rfl ?_
        refine r_getR (j := 0) (by decide) (congrArg Prod.fst k0_118) c12_4 (by decide) rfl g0_118_0 tw_226 dX4_find_82 ?_
        refine r_iconst dX4_find_85 ci_2 ?_
        refine r_iload 3 dX4_find_86 rfl ?_
        refine r_imul dX4_find_88 ?_
        refine r_iconst dX4_find_89 ci_1 ?_
        refine r_iadd dX4_find_90 ?_
        refine r_iald (by decide) k0_119 dX4_find_91 h.1 ?_
        replace h := h.2
        refine r_iconst dX4_find_92 ci_m1 ?_
        refine r_icmp_ne (tgt := 97) dX4_find_93 (by decide) (fun c8 => ?_) (fun c8 => ?_)
        · replace h := h.1 c8
          refine r_inc 3 dX4_find_97 rfl ci_1 (by decide) rfl ?_
          refine r_goto (tgt := 18) dX4_find_100 (by decide) ?_
          refine r_lv [1, 2, 3, 0] rfl ?_
          exact h
        · replace h := h.2 c8
          exact r_vret rfl (Nat.le_refl _) (Nat.le_refl _) dX4_find_96 ⟨rfl, rfl, rfl, rfl, h⟩

theorem w_X4_find_0 {l : Launch} {D : zDD} {b : Nat} (p1 p3 : Int32) (σ : zSg) (τ : zLm) {Q : zSg → zLm → Prop} (h : AV l D b M_X4_find 10 G0 Q 18 [(0, .ref (b + 118)), (1, .int p1), (2, .ref (b + 8)), (4, .int 0)] [] G0 (st2 (st2 (st2 σ 118 1 (-1)) 118 2 (-1)) 118 3 p3) τ) : AV l D b M_X4_find 10 G0 Q 0 [(0, .ref (b + 118)), (1, .int p1), (2, .ref (b + 8)), (3, .int p3)] [] G0 σ τ := by
  refine r_aload_n 0 dX4_find_0 rfl rfl ?_
  refine r_iconst dX4_find_1 ci_m1 ?_
  refine r_putI (j := 1) (by decide) (congrArg Prod.fst k0_118) c12_4 (by decide) rfl (Or.inl rfl) tw_227 dX4_find_2 ?_
  refine r_aload_n 0 dX4_find_5 rfl rfl ?_
  refine r_iconst dX4_find_6 ci_m1 ?_
  refine r_putI (j := 2) (by decide) (congrArg Prod.fst k0_118) c12_4 (by decide) rfl (Or.inl rfl) tw_229 dX4_find_7 ?_
  refine r_aload_n 0 dX4_find_10 rfl rfl ?_
  refine r_iload_n 3 dX4_find_11 rfl rfl ?_
  refine r_putI (j := 3) (by decide) (congrArg Prod.fst k0_118) c12_4 (by decide) rfl (Or.inl rfl) tw_231 dX4_find_12 ?_
  refine r_iconst dX4_find_15 ci_0 ?_
  refine r_istore dX4_find_16 (by decide) rfl ?_
  refine r_lv [1, 2, 3, 0] rfl ?_
  exact h
theorem s_X4_find {l : Launch} {D : zDD} {b : Nat} (p1 p3 : Int32) (σ : zSg) (τ : zLm) {Q : zSg → zLm → Prop} (h : AV l D b M_X4_find 10 G0 Q 18 [(0, .ref (b + 118)), (1, .int p1), (2, .ref (b + 8)), (4, .int 0)] [] G0 (st2 (st2 (st2 σ 118 1 (-1)) 118 2 (-1)) 118 3 p3) τ) : SV l D b M_X4_find 10 G0 [.ref (b + 118), .int p1, .ref (b + 8), .int p3] σ τ Q := zS.of (by decide) (Nat.le_of_ble_eq_true rfl) rfl (w_X4_find_0 p1 p3 σ τ h)

