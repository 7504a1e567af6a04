theorem dX9_has_0 : decode cX9_has 0 = .ok (.iload_n 0, 1) := by decide +kernel
theorem dX9_has_1 : decode cX9_has 1 = .ok (.iconst 1, 1) := by decide +kernel
theorem dX9_has_2 : decode cX9_has 2 = .ok (.iload_n 1, 1) := by decide +kernel
theorem dX9_has_3 : decode cX9_has 3 = .ok (.ishl, 1) := by decide +kernel
theorem dX9_has_4 : decode cX9_has 4 = .ok (.iand, 1) := by decide +kernel
theorem dX9_has_5 : decode cX9_has 5 = .ok (.ifCond .eq 7, 3) := by decide +kernel
theorem dX9_has_8 : decode cX9_has 8 = .ok (.iconst 1, 1) := by decide +kernel
theorem dX9_has_9 : decode cX9_has 9 = .ok (.goto 4, 3) := by decide +kernel
theorem dX9_has_12 : decode cX9_has 12 = .ok (.iconst 0, 1) := by decide +kernel
theorem dX9_has_13 : decode cX9_has 13 = .ok (.ireturn, 1) := by decide +kernel
theorem w_X9_has_0 {l : Launch} {D : zDD} {b : Nat} {γ : zGm} (p1 p2 : Int32) (σ : zSg) (τ : zLm) {Q : Int32 → zSg → zLm → Prop} (h : ((p1 &&& ((1 : Int32) <<< (p2 &&& 31))) = 0 → Q 0 σ τ) ∧ (¬ (p1 &&& ((1 : Int32) <<< (p2 &&& 31))) = 0 → Q 1 σ τ)) : AI l D b M_X9_has 0 γ Q 0 [(0, .int p1), (1, .int p2)] [] γ σ τ := by
  refine r_iload_n 0 dX9_has_0 rfl rfl ?_
  refine r_iconst dX9_has_1 ci_1 ?_
  refine r_iload_n 1 dX9_has_2 rfl rfl ?_
  refine r_ishl dX9_has_3 ?_
  refine r_iand dX9_has_4 ?_
  refine r_if_eq (tgt := 12) dX9_has_5 (by decide) (fun c1 => ?_) (fun c1 => ?_)
  · replace h := h.1 c1
    refine r_iconst dX9_has_12 ci_0 ?_
    exact r_zret rfl (Nat.le_refl _) (Nat.le_refl _) dX9_has_13 (Or.inl rfl) ⟨rfl, rfl, rfl, _, rfl, h⟩
  · replace h := h.2 c1
    refine r_iconst dX9_has_8 ci_1 ?_
    refine r_goto (tgt := 13) dX9_has_9 (by decide) ?_
    exact r_zret rfl (Nat.le_refl _) (Nat.le_refl _) dX9_has_13 (Or.inr rfl) ⟨rfl, rfl, rfl, _, rfl, h⟩
theorem s_X9_has {l : Launch} {D : zDD} {b : Nat} {γ : zGm} (p1 p2 : Int32) (σ : zSg) (τ : zLm) {Q : Int32 → zSg → zLm → Prop} (h : ((p1 &&& ((1 : Int32) <<< (p2 &&& 31))) = 0 → Q 0 σ τ) ∧ (¬ (p1 &&& ((1 : Int32) <<< (p2 &&& 31))) = 0 → Q 1 σ τ)) : SI l D b M_X9_has 0 γ [.int p1, .int p2] σ τ Q := zS.of (by decide) (Nat.le_of_ble_eq_true rfl) rfl (w_X9_has_0 p1 p2 σ τ h)

theorem dX9_besideIt_0 : decode cX9_besideIt 0 = .ok (.iload_n 1, 1) := by decide +kernel
theorem dX9_besideIt_1 : decode cX9_besideIt 1 = .ok (.tableswitch 45 0 2 #[27, 34, 38], 27) := by decide +kernel
theorem dX9_besideIt_28 : decode cX9_besideIt 28 = .ok (.iload_n 0, 1) := by decide +kernel
theorem dX9_besideIt_29 : decode cX9_besideIt 29 = .ok (.iconst 5, 1) := by decide +kernel
theorem dX9_besideIt_30 : decode cX9_besideIt 30 = .ok (.ishl, 1) := by decide +kernel
theorem dX9_besideIt_31 : decode cX9_besideIt 31 = .ok (.ldc 11, 2) := by decide +kernel
theorem dX9_besideIt_33 : decode cX9_besideIt 33 = .ok (.iand, 1) := by decide +kernel
theorem dX9_besideIt_34 : decode cX9_besideIt 34 = .ok (.ireturn, 1) := by decide +kernel
theorem dX9_besideIt_35 : decode cX9_besideIt 35 = .ok (.iload_n 0, 1) := by decide +kernel
theorem dX9_besideIt_36 : decode cX9_besideIt 36 = .ok (.iconst 5, 1) := by decide +kernel
theorem dX9_besideIt_37 : decode cX9_besideIt 37 = .ok (.ishr, 1) := by decide +kernel
theorem dX9_besideIt_38 : decode cX9_besideIt 38 = .ok (.ireturn, 1) := by decide +kernel
theorem dX9_besideIt_39 : decode cX9_besideIt 39 = .ok (.iload_n 0, 1) := by decide +kernel
theorem dX9_besideIt_40 : decode cX9_besideIt 40 = .ok (.ldc 12, 2) := by decide +kernel
theorem dX9_besideIt_42 : decode cX9_besideIt 42 = .ok (.iand, 1) := by decide +kernel
theorem dX9_besideIt_43 : decode cX9_besideIt 43 = .ok (.iconst 1, 1) := by decide +kernel
theorem dX9_besideIt_44 : decode cX9_besideIt 44 = .ok (.ishl, 1) := by decide +kernel
theorem dX9_besideIt_45 : decode cX9_besideIt 45 = .ok (.ireturn, 1) := by decide +kernel
theorem dX9_besideIt_46 : decode cX9_besideIt 46 = .ok (.iload_n 0, 1) := by decide +kernel
theorem dX9_besideIt_47 : decode cX9_besideIt 47 = .ok (.ldc 13, 2) := by decide +kernel
theorem dX9_besideIt_49 : decode cX9_besideIt 49 = .ok (.iand, 1) := by decide +kernel
theorem dX9_besideIt_50 : decode cX9_besideIt 50 = .ok (.iconst 1, 1) := by decide +kernel
theorem dX9_besideIt_51 : decode cX9_besideIt 51 = .ok (.ishr, 1) := by decide +kernel
theorem dX9_besideIt_52 : decode cX9_besideIt 52 = .ok (.ireturn, 1) := by decide +kernel
theorem w_X9_besideIt_0 {l : Launch} {D : zDD} {b : Nat} {γ : zGm} (p1 p2 : Int32) (σ : zSg) (τ : zLm) {Q : Int32 → zSg → zLm → Prop} (h : ((p2.toInt < 0 ∨ (2 : Int) < p2.toInt) → Q ((p1 &&& (-1082402)) >>> ((1 : Int32) &&& 31)) σ τ) ∧ (p2 = 0 → Q ((p1 <<< ((5 : Int32) &&& 31)) &&& 33554431) σ τ) ∧ (p2 = 1 → Q (p1 >>> ((5 : Int32) &&& 31)) σ τ) ∧ (p2 = 2 → Q ((p1 &&& (-17318417)) <<< ((1 : Int32) &&& 31)) σ τ)) : AI l D b M_X9_besideIt 0 γ Q 0 [(0, .int p1), (1, .int p2)] [] γ σ τ := by
  refine r_iload_n 1 dX9_besideIt_0 rfl rfl ?_
  by_cases ho : p2.toInt < 0 ∨ (2 : Int) < p2.toInt
  · replace h := h.1 ho
    refine r_tableOut (tgt := 46) dX9_besideIt_1 ho (by decide) ?_
    refine r_iload_n 0 dX9_besideIt_46 rfl rfl ?_
    refine r_ldc (v := (-1082402)) rfl tw_525 rfl dX9_besideIt_47 ?_
    refine r_iand dX9_besideIt_49 ?_
    refine r_iconst dX9_besideIt_50 ci_1 ?_
    refine r_ishr dX9_besideIt_51 ?_
    exact r_iret rfl (Nat.le_refl _) (Nat.le_refl _) dX9_besideIt_52 ⟨rfl, rfl, rfl, _, rfl, h⟩
  · replace h := h.2
    rcases sw_2 ho with e9 | e9 | e9
    · replace h := h.1 e9
      refine r_tableIn (tgt := 28) (off := 27) dX9_besideIt_1 (by rw [e9]; decide) (by rw [e9]; decide) (by rw [e9]; rfl) (by decide) ?_
      refine r_iload_n 0 dX9_besideIt_28 rfl rfl ?_
      refine r_iconst dX9_besideIt_29 ci_5 ?_
      refine r_ishl dX9_besideIt_30 ?_
      refine r_ldc (v := 33554431) rfl tw_523 rfl dX9_besideIt_31 ?_
      refine r_iand dX9_besideIt_33 ?_
      exact r_iret rfl (Nat.le_refl _) (Nat.le_refl _) dX9_besideIt_34 ⟨rfl, rfl, rfl, _, rfl, h⟩
    · replace h := h.2.1 e9
      refine r_tableIn (tgt := 35) (off := 34) dX9_besideIt_1 (by rw [e9]; decide) (by rw [e9]; decide) (by rw [e9]; rfl) (by decide) ?_
      refine r_iload_n 0 dX9_besideIt_35 rfl rfl ?_
      refine r_iconst dX9_besideIt_36 ci_5 ?_
      refine r_ishr dX9_besideIt_37 ?_
      exact r_iret rfl (Nat.le_refl _) (Nat.le_refl _) dX9_besideIt_38 ⟨rfl, rfl, rfl, _, rfl, h⟩
    · replace h := h.2.2 e9
      refine r_tableIn (tgt := 39) (off := 38) dX9_besideIt_1 (by rw [e9]; decide) (by rw [e9]; decide) (by rw [e9]; rfl) (by decide) ?_
      refine r_iload_n 0 dX9_besideIt_39 rfl rfl ?_
      refine r_ldc (v := (-17318417)) rfl tw_524 rfl dX9_besideIt_40 ?_
      refine r_iand dX9_besideIt_42 ?_
      refine r_iconst dX9_besideIt_43 ci_1 ?_
      refine r_ishl dX9_besideIt_44 ?_
      exact r_iret rfl (Nat.le_refl _) (Nat.le_refl _) dX9_besideIt_45 ⟨rfl, rfl, rfl, _, rfl, h⟩
theorem s_X9_besideIt {l : Launch} {D : zDD} {b : Nat} {γ : zGm} (p1 p2 : Int32) (σ : zSg) (τ : zLm) {Q : Int32 → zSg → zLm → Prop} (h : ((p2.toInt < 0 ∨ (2 : Int) < p2.toInt) → Q ((p1 &&& (-1082402)) >>> ((1 : Int32) &&& 31)) σ τ) ∧ (p2 = 0 → Q ((p1 <<< ((5 : Int32) &&& 31)) &&& 33554431) σ τ) ∧ (p2 = 1 → Q (p1 >>> ((5 : Int32) &&& 31)) σ τ) ∧ (p2 = 2 → Q ((p1 &&& (-17318417)) <<< ((1 : Int32) &&& 31)) σ τ)) : SI l D b M_X9_besideIt 0 γ [.int p1, .int p2] σ τ Q := zS.of (by decide) (Nat.le_of_ble_eq_true rfl) rfl (w_X9_besideIt_0 p1 p2 σ τ h)

theorem dX9_rowOf_0 : decode cX9_rowOf 0 = .ok (.iload_n 0, 1) := by decide +kernel
theorem dX9_rowOf_1 : decode cX9_rowOf 1 = .ok (.iconst 5, 1) := by decide +kernel
theorem dX9_rowOf_2 : decode cX9_rowOf 2 = .ok (.iload_n 1, 1) := by decide +kernel
theorem dX9_rowOf_3 : decode cX9_rowOf 3 = .ok (.imul, 1) := by decide +kernel
theorem dX9_rowOf_4 : decode cX9_rowOf 4 = .ok (.ishr, 1) := by decide +kernel
theorem dX9_rowOf_5 : decode cX9_rowOf 5 = .ok (.bipush 31, 2) := by decide +kernel
theorem dX9_rowOf_7 : decode cX9_rowOf 7 = .ok (.iand, 1) := by decide +kernel
theorem dX9_rowOf_8 : decode cX9_rowOf 8 = .ok (.ireturn, 1) := by decide +kernel
theorem w_X9_rowOf_0 {l : Launch} {D : zDD} {b : Nat} {γ : zGm} (p1 p2 : Int32) (σ : zSg) (τ : zLm) {Q : Int32 → zSg → zLm → Prop} (h : Q ((p1 >>> ((5 * p2) &&& 31)) &&& 31) σ τ) : AI l D b M_X9_rowOf 0 γ Q 0 [(0, .int p1), (1, .int p2)] [] γ σ τ := by
  refine r_iload_n 0 dX9_rowOf_0 rfl rfl ?_
  refine r_iconst dX9_rowOf_1 ci_5 ?_
  refine r_iload_n 1 dX9_rowOf_2 rfl rfl ?_
  refine r_imul dX9_rowOf_3 ?_
  refine r_ishr dX9_rowOf_4 ?_
  refine r_bipush dX9_rowOf_5 cb_31 ?_
  refine r_iand dX9_rowOf_7 ?_
  exact r_iret rfl (Nat.le_refl _) (Nat.le_refl _) dX9_rowOf_8 ⟨rfl, rfl, rfl, _, rfl, h⟩
theorem s_X9_rowOf {l : Launch} {D : zDD} {b : Nat} {γ : zGm} (p1 p2 : Int32) (σ : zSg) (τ : zLm) {Q : Int32 → zSg → zLm → Prop} (h : Q ((p1 >>> ((5 * p2) &&& 31)) &&& 31) σ τ) : SI l D b M_X9_rowOf 0 γ [.int p1, .int p2] σ τ Q := zS.of (by decide) (Nat.le_of_ble_eq_true rfl) rfl (w_X9_rowOf_0 p1 p2 σ τ h)

theorem dX9_partFrom_0 : decode cX9_partFrom 0 = .ok (.iload_n 1, 1) := by decide +kernel
theorem dX9_partFrom_1 : decode cX9_partFrom 1 = .ok (.istore_n 2, 1) := by decide +kernel
theorem dX9_partFrom_2 : decode cX9_partFrom 2 = .ok (.iconst 0, 1) := by decide +kernel
theorem dX9_partFrom_3 : decode cX9_partFrom 3 = .ok (.istore_n 3, 1) := by decide +kernel
theorem dX9_partFrom_4 : decode cX9_partFrom 4 = .ok (.iload_n 3, 1) := by decide +kernel
theorem dX9_partFrom_5 : decode cX9_partFrom 5 = .ok (.bipush 25, 2) := by decide +kernel
theorem dX9_partFrom_7 : decode cX9_partFrom 7 = .ok (.if_icmp .ge 52, 3) := by decide +kernel
theorem dX9_partFrom_10 : decode cX9_partFrom 10 = .ok (.iload_n 2, 1) := by decide +kernel
theorem dX9_partFrom_11 : decode cX9_partFrom 11 = .ok (.istore 4, 2) := by decide +kernel
theorem dX9_partFrom_13 : decode cX9_partFrom 13 = .ok (.iconst 0, 1) := by decide +kernel
theorem dX9_partFrom_14 : decode cX9_partFrom 14 = .ok (.istore 5, 2) := by decide +kernel
theorem dX9_partFrom_16 : decode cX9_partFrom 16 = .ok (.iload 5, 2) := by decide +kernel
theorem dX9_partFrom_18 : decode cX9_partFrom 18 = .ok (.iconst 4, 1) := by decide +kernel
theorem dX9_partFrom_19 : decode cX9_partFrom 19 = .ok (.if_icmp .ge 22, 3) := by decide +kernel
theorem dX9_partFrom_22 : decode cX9_partFrom 22 = .ok (.iload 4, 2) := by decide +kernel
theorem dX9_partFrom_24 : decode cX9_partFrom 24 = .ok (.iload_n 2, 1) := by decide +kernel
theorem dX9_partFrom_25 : decode cX9_partFrom 25 = .ok (.iload 5, 2) := by decide +kernel
theorem dX9_partFrom_27 : decode cX9_partFrom 27 = .ok (.invokestatic 14, 3) := by decide +kernel
theorem dX9_partFrom_30 : decode cX9_partFrom 30 = .ok (.iload_n 0, 1) := by decide +kernel
theorem dX9_partFrom_31 : decode cX9_partFrom 31 = .ok (.iand, 1) := by decide +kernel
theorem dX9_partFrom_32 : decode cX9_partFrom 32 = .ok (.ior, 1) := by decide +kernel
theorem dX9_partFrom_33 : decode cX9_partFrom 33 = .ok (.istore 4, 2) := by decide +kernel
theorem dX9_partFrom_35 : decode cX9_partFrom 35 = .ok (.iinc 5 1, 3) := by decide +kernel
theorem dX9_partFrom_38 : decode cX9_partFrom 38 = .ok (.goto (-22), 3) := by decide +kernel
theorem dX9_partFrom_41 : decode cX9_partFrom 41 = .ok (.iload 4, 2) := by decide +kernel
theorem dX9_partFrom_43 : decode cX9_partFrom 43 = .ok (.iload_n 2, 1) := by decide +kernel
theorem dX9_partFrom_44 : decode cX9_partFrom 44 = .ok (.if_icmp .ne 6, 3) := by decide +kernel
theorem dX9_partFrom_47 : decode cX9_partFrom 47 = .ok (.goto 12, 3) := by decide +kernel
theorem dX9_partFrom_50 : decode cX9_partFrom 50 = .ok (.iload 4, 2) := by decide +kernel
theorem dX9_partFrom_52 : decode cX9_partFrom 52 = .ok (.istore_n 2, 1) := by decide +kernel
theorem dX9_partFrom_53 : decode cX9_partFrom 53 = .ok (.iinc 3 1, 3) := by decide +kernel
theorem dX9_partFrom_56 : decode cX9_partFrom 56 = .ok (.goto (-52), 3) := by decide +kernel
theorem dX9_partFrom_59 : decode cX9_partFrom 59 = .ok (.iload_n 2, 1) := by decide +kernel
theorem dX9_partFrom_60 : decode cX9_partFrom 60 = .ok (.ireturn, 1) := by decide +kernel
theorem w_X9_partFrom_16 {l : Launch} {D : zDD} {b : Nat} {γ : zGm} (x0 x2 x3 x4 x5 : Int32) (σ : zSg) (τ : zLm) {Q : Int32 → zSg → zLm → Prop} (h : (4 ≤ x5 → ((¬ x4 = x2 → AI l D b M_X9_partFrom 1 γ Q 4 [(0, .int x0), (2, .int x4), (3, .int (x3 + 1))] [] γ σ τ) ∧ (x4 = x2 → Q x2 σ τ))) ∧ (¬ 4 ≤ x5 → SI l D b M_X9_besideIt 0 γ [.int x2, .int x5] σ τ (fun r3 σ3 τ3 => AI l D b M_X9_partFrom 1 γ Q 16 [(0, .int x0), (2, .int x2), (3, .int x3), (4, .int (x4 ||| (r3 &&& x0))), (5, .int (x5 + 1))] [] γ σ3 τ3))) : AI l D b M_X9_partFrom 1 γ Q 16 [(0, .int x0), (2, .int x2), (3, .int x3), (4, .int x4), (5, .int x5)] [] γ σ τ := by
  refine r_iload 4 dX9_partFrom_16 rfl ?_
  refine r_iconst dX9_partFrom_18 ci_4 ?_
  refine r_icmp_ge (tgt := 41) dX9_partFrom_19 (by decide) (fun c1 => ?_) (fun c1 => ?_)
  · replace h := h.1 c1
    refine r_iload 3 dX9_partFrom_41 rfl ?_
    refine r_iload_n 1 dX9_partFrom_43 rfl rfl ?_
    refine r_icmp_ne (tgt := 50) dX9_partFrom_44 (by decide) (fun c2 => ?_) (fun c2 => ?_)
    · replace h := h.1 c2
      refine r_iload 3 dX9_partFrom_50 rfl ?_
      refine r_istore_n dX9_partFrom_52 rfl (by decide) rfl ?_
      refine r_inc 2 dX9_partFrom_53 rfl ci_1 (by decide) rfl ?_
      refine r_goto (tgt := 4) dX9_partFrom_56 (by decide) ?_
      refine r_lv [2, 1, 0] rfl ?_
      exact h
    · replace h := h.2 c2
      refine r_goto (tgt := 59) dX9_partFrom_47 (by decide) ?_
      refine r_iload_n 1 dX9_partFrom_59 rfl rfl ?_
      exact r_iret rfl (Nat.le_refl _) (Nat.le_refl _) dX9_partFrom_60 ⟨rfl, rfl, rfl, _, rfl, h⟩
  · replace h := h.2 c1
    refine r_iload 3 dX9_partFrom_22 rfl ?_
    refine r_iload_n 1 dX9_partFrom_24 rfl rfl ?_
    refine r_iload 4 dX9_partFrom_25 rfl ?_
    refine rc_SI (h' := 0) [.int x2, .int x5] oks_X9_besideIt tw_520 rfl rfl (Nat.le_of_ble_eq_true rfl) dX9_partFrom_27 (by decide) h (fun r3 σ3 τ3 h => ?_)
    refine r_iload_n 0 dX9_partFrom_30 rfl rfl ?_
    refine r_iand dX9_partFrom_31 ?_
    refine r_ior dX9_partFrom_32 ?_
    refine r_istore dX9_partFrom_33 (by decide) rfl ?_
    refine r_inc 4 dX9_partFrom_35 rfl ci_1 (by decide) rfl ?_
    refine r_goto (tgt := 16) dX9_partFrom_38 (by decide) ?_
    refine r_lv [2, 3, 4, 1, 0] rfl ?_
    exact h

theorem w_X9_partFrom_4 {l : Launch} {D : zDD} {b : Nat} {γ : zGm} (x0 x2 x3 : Int32) (σ : zSg) (τ : zLm) {Q : Int32 → zSg → zLm → Prop} (h : (25 ≤ x3 → Q x2 σ τ) ∧ (¬ 25 ≤ x3 → AI l D b M_X9_partFrom 1 γ Q 16 [(0, .int x0), (2, .int x2), (3, .int x3), (4, .int x2), (5, .int 0)] [] γ σ τ)) : AI l D b M_X9_partFrom 1 γ Q 4 [(0, .int x0), (2, .int x2), (3, .int x3)] [] γ σ τ := by
  refine r_iload_n 2 dX9_partFrom_4 rfl rfl ?_
  refine r_bipush dX9_partFrom_5 cb_25 ?_
  refine r_icmp_ge (tgt := 59) dX9_partFrom_7 (by decide) (fun c1 => ?_) (fun c1 => ?_)
  · replace h := h.1 c1
    refine r_iload_n 1 dX9_partFrom_59 rfl rfl ?_
    exact r_iret rfl (Nat.le_refl _) (Nat.le_refl _) dX9_partFrom_60 ⟨rfl, rfl, rfl, _, rfl, h⟩
  · replace h := h.2 c1
    refine r_iload_n 1 dX9_partFrom_10 rfl rfl ?_
    refine r_istore dX9_partFrom_11 (by decide) rfl ?_
    refine r_iconst dX9_partFrom_13 ci_0 ?_
    refine r_istore dX9_partFrom_14 (by decide) rfl ?_
    refine r_lv [2, 3, 4, 1, 0] rfl ?_
    exact h

theorem w_X9_partFrom_0 {l : Launch} {D : zDD} {b : Nat} {γ : zGm} (p1 p2 : Int32) (σ : zSg) (τ : zLm) {Q : Int32 → zSg → zLm → Prop} (h : AI l D b M_X9_partFrom 1 γ Q 4 [(0, .int p1), (2, .int p2), (3, .int 0)] [] γ σ τ) : AI l D b M_X9_partFrom 1 γ Q 0 [(0, .int p1), (1, .int p2)] [] γ σ τ := by
  refine r_iload_n 1 dX9_partFrom_0 rfl rfl ?_
  refine r_istore_n dX9_partFrom_1 rfl (by decide) rfl ?_
  refine r_iconst dX9_partFrom_2 ci_0 ?_
  refine r_istore_n dX9_partFrom_3 rfl (by decide) rfl ?_
  refine r_lv [2, 1, 0] rfl ?_
  exact h
theorem s_X9_partFrom {l : Launch} {D : zDD} {b : Nat} {γ : zGm} (p1 p2 : Int32) (σ : zSg) (τ : zLm) {Q : Int32 → zSg → zLm → Prop} (h : AI l D b M_X9_partFrom 1 γ Q 4 [(0, .int p1), (2, .int p2), (3, .int 0)] [] γ σ τ) : SI l D b M_X9_partFrom 1 γ [.int p1, .int p2] σ τ Q := zS.of (by decide) (Nat.le_of_ble_eq_true rfl) rfl (w_X9_partFrom_0 p1 p2 σ τ h)

theorem dX9_edge_0 : decode cX9_edge 0 = .ok (.iconst 0, 1) := by decide +kernel
theorem dX9_edge_1 : decode cX9_edge 1 = .ok (.istore_n 1, 1) := by decide +kernel
theorem dX9_edge_2 : decode cX9_edge 2 = .ok (.iconst 0, 1) := by decide +kernel
theorem dX9_edge_3 : decode cX9_edge 3 = .ok (.istore_n 2, 1) := by decide +kernel
theorem dX9_edge_4 : decode cX9_edge 4 = .ok (.iload_n 2, 1) := by decide +kernel
theorem dX9_edge_5 : decode cX9_edge 5 = .ok (.iconst 4, 1) := by decide +kernel
theorem dX9_edge_6 : decode cX9_edge 6 = .ok (.if_icmp .ge 24, 3) := by decide +kernel
theorem dX9_edge_9 : decode cX9_edge 9 = .ok (.iload_n 1, 1) := by decide +kernel
theorem dX9_edge_10 : decode cX9_edge 10 = .ok (.iload_n 0, 1) := by decide +kernel
theorem dX9_edge_11 : decode cX9_edge 11 = .ok (.iload_n 0, 1) := by decide +kernel
theorem dX9_edge_12 : decode cX9_edge 12 = .ok (.iload_n 2, 1) := by decide +kernel
theorem dX9_edge_13 : decode cX9_edge 13 = .ok (.invokestatic 14, 3) := by decide +kernel
theorem dX9_edge_16 : decode cX9_edge 16 = .ok (.iconst (-1), 1) := by decide +kernel
theorem dX9_edge_17 : decode cX9_edge 17 = .ok (.ixor, 1) := by decide +kernel
theorem dX9_edge_18 : decode cX9_edge 18 = .ok (.iand, 1) := by decide +kernel
theorem dX9_edge_19 : decode cX9_edge 19 = .ok (.invokestatic 21, 3) := by decide +kernel
theorem dX9_edge_22 : decode cX9_edge 22 = .ok (.iadd, 1) := by decide +kernel
theorem dX9_edge_23 : decode cX9_edge 23 = .ok (.istore_n 1, 1) := by decide +kernel
theorem dX9_edge_24 : decode cX9_edge 24 = .ok (.iinc 2 1, 3) := by decide +kernel
theorem dX9_edge_27 : decode cX9_edge 27 = .ok (.goto (-23), 3) := by decide +kernel
theorem dX9_edge_30 : decode cX9_edge 30 = .ok (.iload_n 1, 1) := by decide +kernel
theorem dX9_edge_31 : decode cX9_edge 31 = .ok (.ireturn, 1) := by decide +kernel
theorem w_X9_edge_4 {l : Launch} {D : zDD} {b : Nat} {γ : zGm} (x0 x1 x2 : Int32) (σ : zSg) (τ : zLm) {Q : Int32 → zSg → zLm → Prop} (h : (4 ≤ x2 → Q x1 σ τ) ∧ (¬ 4 ≤ x2 → SI l D b M_X9_besideIt 0 γ [.int x0, .int x2] σ τ (fun r2 σ2 τ2 => SI l D b M_J6_bitCount_0f7a4 0 γ [.int (x0 &&& (r2 ^^^ (-1)))] σ2 τ2 (fun r3 σ3 τ3 => AI l D b M_X9_edge 1 γ Q 4 [(0, .int x0), (1, .int (x1 + r3)), (2, .int (x2 + 1))] [] γ σ3 τ3)))) : AI l D b M_X9_edge 1 γ Q 4 [(0, .int x0), (1, .int x1), (2, .int x2)] [] γ σ τ := by
  refine r_iload_n 2 dX9_edge_4 rfl rfl ?_
  refine r_iconst dX9_edge_5 ci_4 ?_
  refine r_icmp_ge (tgt := 30) dX9_edge_6 (by decide) (fun c1 => ?_) (fun c1 => ?_)
  · replace h := h.1 c1
    refine r_iload_n 1 dX9_edge_30 rfl rfl ?_
    exact r_iret rfl (Nat.le_refl _) (Nat.le_refl _) dX9_edge_31 ⟨rfl, rfl, rfl, _, rfl, h⟩
  · replace h := h.2 c1
    refine r_iload_n 1 dX9_edge_9 rfl rfl ?_
    refine r_iload_n 0 dX9_edge_10 rfl rfl ?_
    refine r_iload_n 0 dX9_edge_11 rfl rfl ?_
    refine r_iload_n 2 dX9_edge_12 rfl rfl ?_
    refine rc_SI (h' := 0) [.int x0, .int x2] oks_X9_besideIt tw_520 rfl rfl (Nat.le_of_ble_eq_true rfl) dX9_edge_13 (by decide) h (fun r2 σ2 τ2 h => ?_)
    refine r_iconst dX9_edge_16 ci_m1 ?_
    refine r_ixor dX9_edge_17 ?_
    refine r_iand dX9_edge_18 ?_
    refine rc_SI (h' := 0) [.int (x0 &&& (r2 ^^^ (-1)))] oks_J6_bitCount_0f7a4 tw_529 rfl rfl (Nat.le_of_ble_eq_true rfl) dX9_edge_19 (by decide) h (fun r3 σ3 τ3 h => ?_)
    refine r_iadd dX9_edge_22 ?_
    refine r_istore_n dX9_edge_23 rfl (by decide) rfl ?_
    refine r_inc 2 dX9_edge_24 rfl ci_1 (by decide) rfl ?_
    refine r_goto (tgt := 4) dX9_edge_27 (by decide) ?_
    refine r_lv [2, 1, 0] rfl ?_
    exact h

theorem w_X9_edge_0 {l : Launch} {D : zDD} {b : Nat} {γ : zGm} (p1 : Int32) (σ : zSg) (τ : zLm) {Q : Int32 → zSg → zLm → Prop} (h : AI l D b M_X9_edge 1 γ Q 4 [(0, .int p1), (1, .int 0), (2, .int 0)] [] γ σ τ) : AI l D b M_X9_edge 1 γ Q 0 [(0, .int p1)] [] γ σ τ := by
  refine r_iconst dX9_edge_0 ci_0 ?_
  refine r_istore_n dX9_edge_1 rfl (by decide) rfl ?_
  refine r_iconst dX9_edge_2 ci_0 ?_
  refine r_istore_n dX9_edge_3 rfl (by decide) rfl ?_
  refine r_lv [2, 1, 0] rfl ?_
  exact h
theorem s_X9_edge {l : Launch} {D : zDD} {b : Nat} {γ : zGm} (p1 : Int32) (σ : zSg) (τ : zLm) {Q : Int32 → zSg → zLm → Prop} (h : AI l D b M_X9_edge 1 γ Q 4 [(0, .int p1), (1, .int 0), (2, .int 0)] [] γ σ τ) : SI l D b M_X9_edge 1 γ [.int p1] σ τ Q := zS.of (by decide) (Nat.le_of_ble_eq_true rfl) rfl (w_X9_edge_0 p1 σ τ h)

theorem dX9_openSides_0 : decode cX9_openSides 0 = .ok (.iconst 0, 1) := by decide +kernel
theorem dX9_openSides_1 : decode cX9_openSides 1 = .ok (.istore_n 2, 1) := by decide +kernel
theorem dX9_openSides_2 : decode cX9_openSides 2 = .ok (.iconst 0, 1) := by decide +kernel
theorem dX9_openSides_3 : decode cX9_openSides 3 = .ok (.istore_n 3, 1) := by decide +kernel
theorem dX9_openSides_4 : decode cX9_openSides 4 = .ok (.iload_n 3, 1) := by decide +kernel
theorem dX9_openSides_5 : decode cX9_openSides 5 = .ok (.iconst 4, 1) := by decide +kernel
theorem dX9_openSides_6 : decode cX9_openSides 6 = .ok (.if_icmp .ge 24, 3) := by decide +kernel
theorem dX9_openSides_9 : decode cX9_openSides 9 = .ok (.iload_n 0, 1) := by decide +kernel
theorem dX9_openSides_10 : decode cX9_openSides 10 = .ok (.iload_n 3, 1) := by decide +kernel
theorem dX9_openSides_11 : decode cX9_openSides 11 = .ok (.invokestatic 14, 3) := by decide +kernel
theorem dX9_openSides_14 : decode cX9_openSides 14 = .ok (.iload_n 1, 1) := by decide +kernel
theorem dX9_openSides_15 : decode cX9_openSides 15 = .ok (.invokestatic 32, 3) := by decide +kernel
theorem dX9_openSides_18 : decode cX9_openSides 18 = .ok (.ifCond .ne 6, 3) := by decide +kernel
theorem dX9_openSides_21 : decode cX9_openSides 21 = .ok (.iinc 2 1, 3) := by decide +kernel
theorem dX9_openSides_24 : decode cX9_openSides 24 = .ok (.iinc 3 1, 3) := by decide +kernel
theorem dX9_openSides_27 : decode cX9_openSides 27 = .ok (.goto (-23), 3) := by decide +kernel
theorem dX9_openSides_30 : decode cX9_openSides 30 = .ok (.iload_n 2, 1) := by decide +kernel
theorem dX9_openSides_31 : decode cX9_openSides 31 = .ok (.ireturn, 1) := by decide +kernel
theorem w_X9_openSides_4 {l : Launch} {D : zDD} {b : Nat} {γ : zGm} (x0 x1 x2 x3 : Int32) (σ : zSg) (τ : zLm) {Q : Int32 → zSg → zLm → Prop} (h : (4 ≤ x3 → Q x2 σ τ) ∧ (¬ 4 ≤ x3 → (SI l D b M_X9_besideIt 0 γ [.int x0, .int x3] σ τ (fun r2 σ2 τ2 => SI l D b M_X9_has 0 γ [.int r2, .int x1] σ2 τ2 (fun r3 σ3 τ3 => (¬ r3 = 0 → AI l D b M_X9_openSides 1 γ Q 4 [(0, .int x0), (1, .int x1), (2, .int x2), (3, .int (x3 + 1))] [] γ σ3 τ3) ∧ (r3 = 0 → AI l D b M_X9_openSides 1 γ Q 4 [(0, .int x0), (1, .int x1), (2, .int (x2 + 1)), (3, .int (x3 + 1))] [] γ σ3 τ3)))))) : AI l D b M_X9_openSides 1 γ Q 4 [(0, .int x0), (1, .int x1), (2, .int x2), (3, .int x3)] [] γ σ τ := by
  refine r_iload_n 3 dX9_openSides_4 rfl rfl ?_
  refine r_iconst dX9_openSides_5 ci_4 ?_
  refine r_icmp_ge (tgt := 30) dX9_openSides_6 (by decide) (fun c1 => ?_) (fun c1 => ?_)
  · replace h := h.1 c1
    refine r_iload_n 2 dX9_openSides_30 rfl rfl ?_
    exact r_iret rfl (Nat.le_refl _) (Nat.le_refl _) dX9_openSides_31 ⟨rfl, rfl, rfl, _, rfl, h⟩
  · replace h := h.2 c1
    refine r_iload_n 0 dX9_openSides_9 rfl rfl ?_
    refine r_iload_n 3 dX9_openSides_10 rfl rfl ?_
    refine rc_SI (h' := 0) [.int x0, .int x3] oks_X9_besideIt tw_520 rfl rfl (Nat.le_of_ble_eq_true rfl) dX9_openSides_11 (by decide) h (fun r2 σ2 τ2 h => ?_)
    refine r_iload_n 1 dX9_openSides_14 rfl rfl ?_
    refine rc_SI (h' := 0) [.int r2, .int x1] oks_X9_has tw_481 rfl rfl (Nat.le_of_ble_eq_true rfl) dX9_openSides_15 (by decide) h (fun r3 σ3 τ3 h => ?_)
    refine r_if_ne (tgt := 24) dX9_openSides_18 (by decide) (fun c4 => ?_) (fun c4 => ?_)
    · replace h := h.1 c4
      refine r_inc 3 dX9_openSides_24 rfl ci_1 (by decide) rfl ?_
      refine r_goto (tgt := 4) dX9_openSides_27 (by decide) ?_
      refine r_lv [1, 2, 3, 0] rfl ?_
      exact h
    · replace h := h.2 c4
      refine r_inc 2 dX9_openSides_21 rfl ci_1 (by decide) rfl ?_
      refine r_inc 3 dX9_openSides_24 rfl ci_1 (by decide) rfl ?_
      refine r_goto (tgt := 4) dX9_openSides_27 (by decide) ?_
      refine r_lv [2, 3, 1, 0] rfl ?_
      exact h

theorem w_X9_openSides_0 {l : Launch} {D : zDD} {b : Nat} {γ : zGm} (p1 p2 : Int32) (σ : zSg) (τ : zLm) {Q : Int32 → zSg → zLm → Prop} (h : AI l D b M_X9_openSides 1 γ Q 4 [(0, .int p1), (1, .int p2), (2, .int 0), (3, .int 0)] [] γ σ τ) : AI l D b M_X9_openSides 1 γ Q 0 [(0, .int p1), (1, .int p2)] [] γ σ τ := by
  refine r_iconst dX9_openSides_0 ci_0 ?_
  refine r_istore_n dX9_openSides_1 rfl (by decide) rfl ?_
  refine r_iconst dX9_openSides_2 ci_0 ?_
  refine r_istore_n dX9_openSides_3 rfl (by decide) rfl ?_
  refine r_lv [2, 3, 1, 0] rfl ?_
  exact h
theorem s_X9_openSides {l : Launch} {D : zDD} {b : Nat} {γ : zGm} (p1 p2 : Int32) (σ : zSg) (τ : zLm) {Q : Int32 → zSg → zLm → Prop} (h : AI l D b M_X9_openSides 1 γ Q 4 [(0, .int p1), (1, .int p2), (2, .int 0), (3, .int 0)] [] γ σ τ) : SI l D b M_X9_openSides 1 γ [.int p1, .int p2] σ τ Q := zS.of (by decide) (Nat.le_of_ble_eq_true rfl) rfl (w_X9_openSides_0 p1 p2 σ τ h)

theorem dX9_columnsUsed_0 : decode cX9_columnsUsed 0 = .ok (.iconst 0, 1) := by decide +kernel
theorem dX9_columnsUsed_1 : decode cX9_columnsUsed 1 = .ok (.istore_n 1, 1) := by decide +kernel
theorem dX9_columnsUsed_2 : decode cX9_columnsUsed 2 = .ok (.iconst 0, 1) := by decide +kernel
theorem dX9_columnsUsed_3 : decode cX9_columnsUsed 3 = .ok (.istore_n 2, 1) := by decide +kernel
theorem dX9_columnsUsed_4 : decode cX9_columnsUsed 4 = .ok (.iload_n 2, 1) := by decide +kernel
theorem dX9_columnsUsed_5 : decode cX9_columnsUsed 5 = .ok (.iconst 5, 1) := by decide +kernel
theorem dX9_columnsUsed_6 : decode cX9_columnsUsed 6 = .ok (.if_icmp .ge 17, 3) := by decide +kernel
theorem dX9_columnsUsed_9 : decode cX9_columnsUsed 9 = .ok (.iload_n 1, 1) := by decide +kernel
theorem dX9_columnsUsed_10 : decode cX9_columnsUsed 10 = .ok (.iload_n 0, 1) := by decide +kernel
theorem dX9_columnsUsed_11 : decode cX9_columnsUsed 11 = .ok (.iload_n 2, 1) := by decide +kernel
theorem dX9_columnsUsed_12 : decode cX9_columnsUsed 12 = .ok (.invokestatic 39, 3) := by decide +kernel
theorem dX9_columnsUsed_15 : decode cX9_columnsUsed 15 = .ok (.ior, 1) := by decide +kernel
theorem dX9_columnsUsed_16 : decode cX9_columnsUsed 16 = .ok (.istore_n 1, 1) := by decide +kernel
theorem dX9_columnsUsed_17 : decode cX9_columnsUsed 17 = .ok (.iinc 2 1, 3) := by decide +kernel
theorem dX9_columnsUsed_20 : decode cX9_columnsUsed 20 = .ok (.goto (-16), 3) := by decide +kernel
theorem dX9_columnsUsed_23 : decode cX9_columnsUsed 23 = .ok (.iload_n 1, 1) := by decide +kernel
theorem dX9_columnsUsed_24 : decode cX9_columnsUsed 24 = .ok (.ireturn, 1) := by decide +kernel
theorem w_X9_columnsUsed_4 {l : Launch} {D : zDD} {b : Nat} {γ : zGm} (x0 x1 x2 : Int32) (σ : zSg) (τ : zLm) {Q : Int32 → zSg → zLm → Prop} (h : (5 ≤ x2 → Q x1 σ τ) ∧ (¬ 5 ≤ x2 → SI l D b M_X9_rowOf 0 γ [.int x0, .int x2] σ τ (fun r2 σ2 τ2 => AI l D b M_X9_columnsUsed 1 γ Q 4 [(0, .int x0), (1, .int (x1 ||| r2)), (2, .int (x2 + 1))] [] γ σ2 τ2))) : AI l D b M_X9_columnsUsed 1 γ Q 4 [(0, .int x0), (1, .int x1), (2, .int x2)] [] γ σ τ := by
  refine r_iload_n 2 dX9_columnsUsed_4 rfl rfl ?_
  refine r_iconst dX9_columnsUsed_5 ci_5 ?_
  refine r_icmp_ge (tgt := 23) dX9_columnsUsed_6 (by decide) (fun c1 => ?_) (fun c1 => ?_)
  · replace h := h.1 c1
    refine r_iload_n 1 dX9_columnsUsed_23 rfl rfl ?_
    exact r_iret rfl (Nat.le_refl _) (Nat.le_refl _) dX9_columnsUsed_24 ⟨rfl, rfl, rfl, _, rfl, h⟩
  · replace h := h.2 c1
    refine r_iload_n 1 dX9_columnsUsed_9 rfl rfl ?_
    refine r_iload_n 0 dX9_columnsUsed_10 rfl rfl ?_
    refine r_iload_n 2 dX9_columnsUsed_11 rfl rfl ?_
    refine rc_SI (h' := 0) [.int x0, .int x2] oks_X9_rowOf tw_475 rfl rfl (Nat.le_of_ble_eq_true rfl) dX9_columnsUsed_12 (by decide) h (fun r2 σ2 τ2 h => ?_)
    refine r_ior dX9_columnsUsed_15 ?_
    refine r_istore_n dX9_columnsUsed_16 rfl (by decide) rfl ?_
    refine r_inc 2 dX9_columnsUsed_17 rfl ci_1 (by decide) rfl ?_
    refine r_goto (tgt := 4) dX9_columnsUsed_20 (by decide) ?_
    refine r_lv [2, 1, 0] rfl ?_
    exact h

theorem w_X9_columnsUsed_0 {l : Launch} {D : zDD} {b : Nat} {γ : zGm} (p1 : Int32) (σ : zSg) (τ : zLm) {Q : Int32 → zSg → zLm → Prop} (h : AI l D b M_X9_columnsUsed 1 γ Q 4 [(0, .int p1), (1, .int 0), (2, .int 0)] [] γ σ τ) : AI l D b M_X9_columnsUsed 1 γ Q 0 [(0, .int p1)] [] γ σ τ := by
  refine r_iconst dX9_columnsUsed_0 ci_0 ?_
  refine r_istore_n dX9_columnsUsed_1 rfl (by decide) rfl ?_
  refine r_iconst dX9_columnsUsed_2 ci_0 ?_
  refine r_istore_n dX9_columnsUsed_3 rfl (by decide) rfl ?_
  refine r_lv [2, 1, 0] rfl ?_
  exact h
theorem s_X9_columnsUsed {l : Launch} {D : zDD} {b : Nat} {γ : zGm} (p1 : Int32) (σ : zSg) (τ : zLm) {Q : Int32 → zSg → zLm → Prop} (h : AI l D b M_X9_columnsUsed 1 γ Q 4 [(0, .int p1), (1, .int 0), (2, .int 0)] [] γ σ τ) : SI l D b M_X9_columnsUsed 1 γ [.int p1] σ τ Q := zS.of (by decide) (Nat.le_of_ble_eq_true rfl) rfl (w_X9_columnsUsed_0 p1 σ τ h)

theorem dX9_rowsUsed_0 : decode cX9_rowsUsed 0 = .ok (.iconst 0, 1) := by decide +kernel
theorem dX9_rowsUsed_1 : decode cX9_rowsUsed 1 = .ok (.istore_n 1, 1) := by decide +kernel
theorem dX9_rowsUsed_2 : decode cX9_rowsUsed 2 = .ok (.iconst 0, 1) := by decide +kernel
theorem dX9_rowsUsed_3 : decode cX9_rowsUsed 3 = .ok (.istore_n 2, 1) := by decide +kernel
theorem dX9_rowsUsed_4 : decode cX9_rowsUsed 4 = .ok (.iload_n 2, 1) := by decide +kernel
theorem dX9_rowsUsed_5 : decode cX9_rowsUsed 5 = .ok (.iconst 5, 1) := by decide +kernel
theorem dX9_rowsUsed_6 : decode cX9_rowsUsed 6 = .ok (.if_icmp .ge 23, 3) := by decide +kernel
theorem dX9_rowsUsed_9 : decode cX9_rowsUsed 9 = .ok (.iload_n 0, 1) := by decide +kernel
theorem dX9_rowsUsed_10 : decode cX9_rowsUsed 10 = .ok (.iload_n 2, 1) := by decide +kernel
theorem dX9_rowsUsed_11 : decode cX9_rowsUsed 11 = .ok (.invokestatic 39, 3) := by decide +kernel
theorem dX9_rowsUsed_14 : decode cX9_rowsUsed 14 = .ok (.ifCond .eq 9, 3) := by decide +kernel
theorem dX9_rowsUsed_17 : decode cX9_rowsUsed 17 = .ok (.iload_n 1, 1) := by decide +kernel
theorem dX9_rowsUsed_18 : decode cX9_rowsUsed 18 = .ok (.iconst 1, 1) := by decide +kernel
theorem dX9_rowsUsed_19 : decode cX9_rowsUsed 19 = .ok (.iload_n 2, 1) := by decide +kernel
theorem dX9_rowsUsed_20 : decode cX9_rowsUsed 20 = .ok (.ishl, 1) := by decide +kernel
theorem dX9_rowsUsed_21 : decode cX9_rowsUsed 21 = .ok (.ior, 1) := by decide +kernel
theorem dX9_rowsUsed_22 : decode cX9_rowsUsed 22 = .ok (.istore_n 1, 1) := by decide +kernel
theorem dX9_rowsUsed_23 : decode cX9_rowsUsed 23 = .ok (.iinc 2 1, 3) := by decide +kernel
theorem dX9_rowsUsed_26 : decode cX9_rowsUsed 26 = .ok (.goto (-22), 3) := by decide +kernel
theorem dX9_rowsUsed_29 : decode cX9_rowsUsed 29 = .ok (.iload_n 1, 1) := by decide +kernel
theorem dX9_rowsUsed_30 : decode cX9_rowsUsed 30 = .ok (.ireturn, 1) := by decide +kernel
theorem w_X9_rowsUsed_4 {l : Launch} {D : zDD} {b : Nat} {γ : zGm} (x0 x1 x2 : Int32) (σ : zSg) (τ : zLm) {Q : Int32 → zSg → zLm → Prop} (h : (5 ≤ x2 → Q x1 σ τ) ∧ (¬ 5 ≤ x2 → (SI l D b M_X9_rowOf 0 γ [.int x0, .int x2] σ τ (fun r2 σ2 τ2 => (r2 = 0 → AI l D b M_X9_rowsUsed 1 γ Q 4 [(0, .int x0), (1, .int x1), (2, .int (x2 + 1))] [] γ σ2 τ2) ∧ (¬ r2 = 0 → (∀ v4 : Int32, v4 = x1 ||| ((1 : Int32) <<< (x2 &&& 31)) → AI l D b M_X9_rowsUsed 1 γ Q 4 [(0, .int x0), (1, .int v4), (2, .int (x2 + 1))] [] γ σ2 τ2)))))) : AI l D b M_X9_rowsUsed 1 γ Q 4 [(0, .int x0), (1, .int x1), (2, .int x2)] [] γ σ τ := by
  refine r_iload_n 2 dX9_rowsUsed_4 rfl rfl ?_
  refine r_iconst dX9_rowsUsed_5 ci_5 ?_
  refine r_icmp_ge (tgt := 29) dX9_rowsUsed_6 (by decide) (fun c1 => ?_) (fun c1 => ?_)
  · replace h := h.1 c1
    refine r_iload_n 1 dX9_rowsUsed_29 rfl rfl ?_
    exact r_iret rfl (Nat.le_refl _) (Nat.le_refl _) dX9_rowsUsed_30 ⟨rfl, rfl, rfl, _, rfl, h⟩
  · replace h := h.2 c1
    refine r_iload_n 0 dX9_rowsUsed_9 rfl rfl ?_
    refine r_iload_n 2 dX9_rowsUsed_10 rfl rfl ?_
    refine rc_SI (h' := 0) [.int x0, .int x2] oks_X9_rowOf tw_475 rfl rfl (Nat.le_of_ble_eq_true rfl) dX9_rowsUsed_11 (by decide) h (fun r2 σ2 τ2 h => ?_)
    refine r_if_eq (tgt := 23) dX9_rowsUsed_14 (by decide) (fun c3 => ?_) (fun c3 => ?_)
    · replace h := h.1 c3
      refine r_inc 2 dX9_rowsUsed_23 rfl ci_1 (by decide) rfl ?_
      refine r_goto (tgt := 4) dX9_rowsUsed_26 (by decide) ?_
      refine r_lv [1, 2, 0] rfl ?_
      exact h
    · replace h := h.2 c3
      refine r_iload_n 1 dX9_rowsUsed_17 rfl rfl ?_
      refine r_iconst dX9_rowsUsed_18 ci_1 ?_
      refine r_iload_n 2 dX9_rowsUsed_19 rfl rfl ?_
      refine r_ishl dX9_rowsUsed_20 ?_
      refine r_ior dX9_rowsUsed_21 ?_
      refine r_nmI (fun v4 ev4 => ?_)
      replace h := h v4 ev4
      refine r_istore_n dX9_rowsUsed_22 rfl (by decide) rfl ?_
      refine r_inc 2 dX9_rowsUsed_23 rfl ci_1 (by decide) rfl ?_
      refine r_goto (tgt := 4) dX9_rowsUsed_26 (by decide) ?_
      refine r_lv [2, 1, 0] rfl ?_
      exact h

theorem w_X9_rowsUsed_0 {l : Launch} {D : zDD} {b : Nat} {γ : zGm} (p1 : Int32) (σ : zSg) (τ : zLm) {Q : Int32 → zSg → zLm → Prop} (h : AI l D b M_X9_rowsUsed 1 γ Q 4 [(0, .int p1), (1, .int 0), (2, .int 0)] [] γ σ τ) : AI l D b M_X9_rowsUsed 1 γ Q 0 [(0, .int p1)] [] γ σ τ := by
  refine r_iconst dX9_rowsUsed_0 ci_0 ?_
  refine r_istore_n dX9_rowsUsed_1 rfl (by decide) rfl ?_
  refine r_iconst dX9_rowsUsed_2 ci_0 ?_
  refine r_istore_n dX9_rowsUsed_3 rfl (by decide) rfl ?_
  refine r_lv [2, 1, 0] rfl ?_
  exact h
theorem s_X9_rowsUsed {l : Launch} {D : zDD} {b : Nat} {γ : zGm} (p1 : Int32) (σ : zSg) (τ : zLm) {Q : Int32 → zSg → zLm → Prop} (h : AI l D b M_X9_rowsUsed 1 γ Q 4 [(0, .int p1), (1, .int 0), (2, .int 0)] [] γ σ τ) : SI l D b M_X9_rowsUsed 1 γ [.int p1] σ τ Q := zS.of (by decide) (Nat.le_of_ble_eq_true rfl) rfl (w_X9_rowsUsed_0 p1 σ τ h)

theorem dX9_firstOf_0 : decode cX9_firstOf 0 = .ok (.iconst 0, 1) := by decide +kernel
theorem dX9_firstOf_1 : decode cX9_firstOf 1 = .ok (.istore_n 1, 1) := by decide +kernel
theorem dX9_firstOf_2 : decode cX9_firstOf 2 = .ok (.iload_n 1, 1) := by decide +kernel
theorem dX9_firstOf_3 : decode cX9_firstOf 3 = .ok (.iconst 5, 1) := by decide +kernel
theorem dX9_firstOf_4 : decode cX9_firstOf 4 = .ok (.if_icmp .ge 19, 3) := by decide +kernel
theorem dX9_firstOf_7 : decode cX9_firstOf 7 = .ok (.iload_n 0, 1) := by decide +kernel
theorem dX9_firstOf_8 : decode cX9_firstOf 8 = .ok (.iload_n 1, 1) := by decide +kernel
theorem dX9_firstOf_9 : decode cX9_firstOf 9 = .ok (.invokestatic 32, 3) := by decide +kernel
theorem dX9_firstOf_12 : decode cX9_firstOf 12 = .ok (.ifCond .eq 5, 3) := by decide +kernel
theorem dX9_firstOf_15 : decode cX9_firstOf 15 = .ok (.iload_n 1, 1) := by decide +kernel
theorem dX9_firstOf_16 : decode cX9_firstOf 16 = .ok (.ireturn, 1) := by decide +kernel
theorem dX9_firstOf_17 : decode cX9_firstOf 17 = .ok (.iinc 1 1, 3) := by decide +kernel
theorem dX9_firstOf_20 : decode cX9_firstOf 20 = .ok (.goto (-18), 3) := by decide +kernel
theorem dX9_firstOf_23 : decode cX9_firstOf 23 = .ok (.iconst 0, 1) := by decide +kernel
theorem dX9_firstOf_24 : decode cX9_firstOf 24 = .ok (.ireturn, 1) := by decide +kernel
theorem w_X9_firstOf_2 {l : Launch} {D : zDD} {b : Nat} {γ : zGm} (x0 x1 : Int32) (σ : zSg) (τ : zLm) {Q : Int32 → zSg → zLm → Prop} (h : (5 ≤ x1 → Q 0 σ τ) ∧ (¬ 5 ≤ x1 → (SI l D b M_X9_has 0 γ [.int x0, .int x1] σ τ (fun r2 σ2 τ2 => (r2 = 0 → AI l D b M_X9_firstOf 1 γ Q 2 [(0, .int x0), (1, .int (x1 + 1))] [] γ σ2 τ2) ∧ (¬ r2 = 0 → Q x1 σ2 τ2))))) : AI l D b M_X9_firstOf 1 γ Q 2 [(0, .int x0), (1, .int x1)] [] γ σ τ := by
  refine r_iload_n 1 dX9_firstOf_2 rfl rfl ?_
  refine r_iconst dX9_firstOf_3 ci_5 ?_
  refine r_icmp_ge (tgt := 23) dX9_firstOf_4 (by decide) (fun c1 => ?_) (fun c1 => ?_)
  · replace h := h.1 c1
    refine r_iconst dX9_firstOf_23 ci_0 ?_
    exact r_iret rfl (Nat.le_refl _) (Nat.le_refl _) dX9_firstOf_24 ⟨rfl, rfl, rfl, _, rfl, h⟩
  · replace h := h.2 c1
    refine r_iload_n 0 dX9_firstOf_7 rfl rfl ?_
    refine r_iload_n 1 dX9_firstOf_8 rfl rfl ?_
    refine rc_SI (h' := 0) [.int x0, .int x1] oks_X9_has tw_481 rfl rfl (Nat.le_of_ble_eq_true rfl) dX9_firstOf_9 (by decide) h (fun r2 σ2 τ2 h => ?_)
    refine r_if_eq (tgt := 17) dX9_firstOf_12 (by decide) (fun c3 => ?_) (fun c3 => ?_)
    · replace h := h.1 c3
      refine r_inc 1 dX9_firstOf_17 rfl ci_1 (by decide) rfl ?_
      refine r_goto (tgt := 2) dX9_firstOf_20 (by decide) ?_
      refine r_lv [1, 0] rfl ?_
      exact h
    · replace h := h.2 c3
      refine r_iload_n 1 dX9_firstOf_15 rfl rfl ?_
      exact r_iret rfl (Nat.le_refl _) (Nat.le_refl _) dX9_firstOf_16 ⟨rfl, rfl, rfl, _, rfl, h⟩

theorem w_X9_firstOf_0 {l : Launch} {D : zDD} {b : Nat} {γ : zGm} (p1 : Int32) (σ : zSg) (τ : zLm) {Q : Int32 → zSg → zLm → Prop} (h : AI l D b M_X9_firstOf 1 γ Q 2 [(0, .int p1), (1, .int 0)] [] γ σ τ) : AI l D b M_X9_firstOf 1 γ Q 0 [(0, .int p1)] [] γ σ τ := by
  refine r_iconst dX9_firstOf_0 ci_0 ?_
  refine r_istore_n dX9_firstOf_1 rfl (by decide) rfl ?_
  refine r_lv [1, 0] rfl ?_
  exact h
theorem s_X9_firstOf {l : Launch} {D : zDD} {b : Nat} {γ : zGm} (p1 : Int32) (σ : zSg) (τ : zLm) {Q : Int32 → zSg → zLm → Prop} (h : AI l D b M_X9_firstOf 1 γ Q 2 [(0, .int p1), (1, .int 0)] [] γ σ τ) : SI l D b M_X9_firstOf 1 γ [.int p1] σ τ Q := zS.of (by decide) (Nat.le_of_ble_eq_true rfl) rfl (w_X9_firstOf_0 p1 σ τ h)

theorem dX9_lastOf_0 : decode cX9_lastOf 0 = .ok (.iconst 4, 1) := by decide +kernel
theorem dX9_lastOf_1 : decode cX9_lastOf 1 = .ok (.istore_n 1, 1) := by decide +kernel
theorem dX9_lastOf_2 : decode cX9_lastOf 2 = .ok (.iload_n 1, 1) := by decide +kernel
theorem dX9_lastOf_3 : decode cX9_lastOf 3 = .ok (.ifCond .le 19, 3) := by decide +kernel
theorem dX9_lastOf_6 : decode cX9_lastOf 6 = .ok (.iload_n 0, 1) := by decide +kernel
theorem dX9_lastOf_7 : decode cX9_lastOf 7 = .ok (.iload_n 1, 1) := by decide +kernel
theorem dX9_lastOf_8 : decode cX9_lastOf 8 = .ok (.invokestatic 32, 3) := by decide +kernel
theorem dX9_lastOf_11 : decode cX9_lastOf 11 = .ok (.ifCond .eq 5, 3) := by decide +kernel
theorem dX9_lastOf_14 : decode cX9_lastOf 14 = .ok (.iload_n 1, 1) := by decide +kernel
theorem dX9_lastOf_15 : decode cX9_lastOf 15 = .ok (.ireturn, 1) := by decide +kernel
theorem dX9_lastOf_16 : decode cX9_lastOf 16 = .ok (.iinc 1 (-1), 3) := by decide +kernel
theorem dX9_lastOf_19 : decode cX9_lastOf 19 = .ok (.goto (-17), 3) := by decide +kernel
theorem dX9_lastOf_22 : decode cX9_lastOf 22 = .ok (.iconst 0, 1) := by decide +kernel
theorem dX9_lastOf_23 : decode cX9_lastOf 23 = .ok (.ireturn, 1) := by decide +kernel
theorem w_X9_lastOf_2 {l : Launch} {D : zDD} {b : Nat} {γ : zGm} (x0 x1 : Int32) (σ : zSg) (τ : zLm) {Q : Int32 → zSg → zLm → Prop} (h : (x1 ≤ 0 → Q 0 σ τ) ∧ (¬ x1 ≤ 0 → (SI l D b M_X9_has 0 γ [.int x0, .int x1] σ τ (fun r2 σ2 τ2 => (r2 = 0 → AI l D b M_X9_lastOf 1 γ Q 2 [(0, .int x0), (1, .int (x1 + (-1)))] [] γ σ2 τ2) ∧ (¬ r2 = 0 → Q x1 σ2 τ2))))) : AI l D b M_X9_lastOf 1 γ Q 2 [(0, .int x0), (1, .int x1)] [] γ σ τ := by
  refine r_iload_n 1 dX9_lastOf_2 rfl rfl ?_
  refine r_if_le (tgt := 22) dX9_lastOf_3 (by decide) (fun c1 => ?_) (fun c1 => ?_)
  · replace h := h.1 c1
    refine r_iconst dX9_lastOf_22 ci_0 ?_
    exact r_iret rfl (Nat.le_refl _) (Nat.le_refl _) dX9_lastOf_23 ⟨rfl, rfl, rfl, _, rfl, h⟩
  · replace h := h.2 c1
    refine r_iload_n 0 dX9_lastOf_6 rfl rfl ?_
    refine r_iload_n 1 dX9_lastOf_7 rfl rfl ?_
    refine rc_SI (h' := 0) [.int x0, .int x1] oks_X9_has tw_481 rfl rfl (Nat.le_of_ble_eq_true rfl) dX9_lastOf_8 (by decide) h (fun r2 σ2 τ2 h => ?_)
    refine r_if_eq (tgt := 16) dX9_lastOf_11 (by decide) (fun c3 => ?_) (fun c3 => ?_)
    · replace h := h.1 c3
      refine r_inc 1 dX9_lastOf_16 rfl ci_m1 (by decide) rfl ?_
      refine r_goto (tgt := 2) dX9_lastOf_19 (by decide) ?_
      refine r_lv [1, 0] rfl ?_
      exact h
    · replace h := h.2 c3
      refine r_iload_n 1 dX9_lastOf_14 rfl rfl ?_
      exact r_iret rfl (Nat.le_refl _) (Nat.le_refl _) dX9_lastOf_15 ⟨rfl, rfl, rfl, _, rfl, h⟩

theorem w_X9_lastOf_0 {l : Launch} {D : zDD} {b : Nat} {γ : zGm} (p1 : Int32) (σ : zSg) (τ : zLm) {Q : Int32 → zSg → zLm → Prop} (h : AI l D b M_X9_lastOf 1 γ Q 2 [(0, .int p1), (1, .int 4)] [] γ σ τ) : AI l D b M_X9_lastOf 1 γ Q 0 [(0, .int p1)] [] γ σ τ := by
  refine r_iconst dX9_lastOf_0 ci_4 ?_
  refine r_istore_n dX9_lastOf_1 rfl (by decide) rfl ?_
  refine r_lv [1, 0] rfl ?_
  exact h
theorem s_X9_lastOf {l : Launch} {D : zDD} {b : Nat} {γ : zGm} (p1 : Int32) (σ : zSg) (τ : zLm) {Q : Int32 → zSg → zLm → Prop} (h : AI l D b M_X9_lastOf 1 γ Q 2 [(0, .int p1), (1, .int 4)] [] γ σ τ) : SI l D b M_X9_lastOf 1 γ [.int p1] σ τ Q := zS.of (by decide) (Nat.le_of_ble_eq_true rfl) rfl (w_X9_lastOf_0 p1 σ τ h)

theorem dX9_greaterHalf_0 : decode cX9_greaterHalf 0 = .ok (.iload_n 1, 1) := by decide +kernel
theorem dX9_greaterHalf_1 : decode cX9_greaterHalf 1 = .ok (.bipush 10, 2) := by decide +kernel
theorem dX9_greaterHalf_3 : decode cX9_greaterHalf 3 = .ok (.if_icmp .le 17, 3) := by decide +kernel
theorem dX9_greaterHalf_6 : decode cX9_greaterHalf 6 = .ok (.iconst 1, 1) := by decide +kernel
theorem dX9_greaterHalf_7 : decode cX9_greaterHalf 7 = .ok (.iload_n 1, 1) := by decide +kernel
theorem dX9_greaterHalf_8 : decode cX9_greaterHalf 8 = .ok (.bipush 10, 2) := by decide +kernel
theorem dX9_greaterHalf_10 : decode cX9_greaterHalf 10 = .ok (.isub, 1) := by decide +kernel
theorem dX9_greaterHalf_11 : decode cX9_greaterHalf 11 = .ok (.ishl, 1) := by decide +kernel
theorem dX9_greaterHalf_12 : decode cX9_greaterHalf 12 = .ok (.iconst 1, 1) := by decide +kernel
theorem dX9_greaterHalf_13 : decode cX9_greaterHalf 13 = .ok (.isub, 1) := by decide +kernel
theorem dX9_greaterHalf_14 : decode cX9_greaterHalf 14 = .ok (.ldc 54, 2) := by decide +kernel
theorem dX9_greaterHalf_16 : decode cX9_greaterHalf 16 = .ok (.imul, 1) := by decide +kernel
theorem dX9_greaterHalf_17 : decode cX9_greaterHalf 17 = .ok (.goto 10, 3) := by decide +kernel
theorem dX9_greaterHalf_20 : decode cX9_greaterHalf 20 = .ok (.iconst 1, 1) := by decide +kernel
theorem dX9_greaterHalf_21 : decode cX9_greaterHalf 21 = .ok (.iconst 5, 1) := by decide +kernel
theorem dX9_greaterHalf_22 : decode cX9_greaterHalf 22 = .ok (.iload_n 1, 1) := by decide +kernel
theorem dX9_greaterHalf_23 : decode cX9_greaterHalf 23 = .ok (.imul, 1) := by decide +kernel
theorem dX9_greaterHalf_24 : decode cX9_greaterHalf 24 = .ok (.ishl, 1) := by decide +kernel
theorem dX9_greaterHalf_25 : decode cX9_greaterHalf 25 = .ok (.iconst 1, 1) := by decide +kernel
theorem dX9_greaterHalf_26 : decode cX9_greaterHalf 26 = .ok (.isub, 1) := by decide +kernel
theorem dX9_greaterHalf_27 : decode cX9_greaterHalf 27 = .ok (.istore_n 2, 1) := by decide +kernel
theorem dX9_greaterHalf_28 : decode cX9_greaterHalf 28 = .ok (.iload_n 0, 1) := by decide +kernel
theorem dX9_greaterHalf_29 : decode cX9_greaterHalf 29 = .ok (.iload_n 2, 1) := by decide +kernel
theorem dX9_greaterHalf_30 : decode cX9_greaterHalf 30 = .ok (.iand, 1) := by decide +kernel
theorem dX9_greaterHalf_31 : decode cX9_greaterHalf 31 = .ok (.invokestatic 21, 3) := by decide +kernel
theorem dX9_greaterHalf_34 : decode cX9_greaterHalf 34 = .ok (.istore_n 3, 1) := by decide +kernel
theorem dX9_greaterHalf_35 : decode cX9_greaterHalf 35 = .ok (.iload_n 3, 1) := by decide +kernel
theorem dX9_greaterHalf_36 : decode cX9_greaterHalf 36 = .ok (.iload_n 0, 1) := by decide +kernel
theorem dX9_greaterHalf_37 : decode cX9_greaterHalf 37 = .ok (.invokestatic 21, 3) := by decide +kernel
theorem dX9_greaterHalf_40 : decode cX9_greaterHalf 40 = .ok (.iload_n 3, 1) := by decide +kernel
theorem dX9_greaterHalf_41 : decode cX9_greaterHalf 41 = .ok (.isub, 1) := by decide +kernel
theorem dX9_greaterHalf_42 : decode cX9_greaterHalf 42 = .ok (.invokestatic 27, 3) := by decide +kernel
theorem dX9_greaterHalf_45 : decode cX9_greaterHalf 45 = .ok (.ireturn, 1) := by decide +kernel
theorem w_X9_greaterHalf_27 {l : Launch} {D : zDD} {b : Nat} {γ : zGm} (x0 y0 : Int32) (σ : zSg) (τ : zLm) {Q : Int32 → zSg → zLm → Prop} (h : SI l D b M_J6_bitCount_0f7a4 0 γ [.int (x0 &&& y0)] σ τ (fun r1 σ1 τ1 => SI l D b M_J6_bitCount_0f7a4 0 γ [.int x0] σ1 τ1 (fun r2 σ2 τ2 => Q (mx r1 (r2 - r1)) σ2 τ2))) : AI l D b M_X9_greaterHalf 1 γ Q 27 [(0, .int x0)] [.int y0] γ σ τ := by
  refine r_istore_n dX9_greaterHalf_27 rfl (by decide) rfl ?_
  refine r_iload_n 1 dX9_greaterHalf_28 rfl rfl ?_
  refine r_iload_n 0 dX9_greaterHalf_29 rfl rfl ?_
  refine r_iand dX9_greaterHalf_30 ?_
  refine rc_SI (h' := 0) [.int (x0 &&& y0)] oks_J6_bitCount_0f7a4 tw_529 rfl rfl (Nat.le_of_ble_eq_true rfl) dX9_greaterHalf_31 (by decide) h (fun r1 σ1 τ1 h => ?_)
  refine r_istore_n dX9_greaterHalf_34 rfl (by decide) rfl ?_
  refine r_iload_n 0 dX9_greaterHalf_35 rfl rfl ?_
  refine r_iload_n 2 dX9_greaterHalf_36 rfl rfl ?_
  refine rc_SI (h' := 0) [.int x0] oks_J6_bitCount_0f7a4 tw_529 rfl rfl (Nat.le_of_ble_eq_true rfl) dX9_greaterHalf_37 (by decide) h (fun r2 σ2 τ2 h => ?_)
  refine r_iload_n 0 dX9_greaterHalf_40 rfl rfl ?_
  refine r_isub dX9_greaterHalf_41 ?_
  refine r_max tw_535 dX9_greaterHalf_42 (by decide) (Nat.le_of_ble_eq_true rfl) (Nat.le_refl _) (Nat.le_refl _) ?_
  exact r_iret rfl (Nat.le_refl _) (Nat.le_refl _) dX9_greaterHalf_45 ⟨rfl, rfl, rfl, _, rfl, h⟩

theorem w_X9_greaterHalf_0 {l : Launch} {D : zDD} {b : Nat} {γ : zGm} (p1 p2 : Int32) (σ : zSg) (τ : zLm) {Q : Int32 → zSg → zLm → Prop} (h : (p2 ≤ 10 → AI l D b M_X9_greaterHalf 1 γ Q 27 [(0, .int p1)] [.int (((1 : Int32) <<< ((5 * p2) &&& 31)) - 1)] γ σ τ) ∧ (¬ p2 ≤ 10 → AI l D b M_X9_greaterHalf 1 γ Q 27 [(0, .int p1)] [.int ((((1 : Int32) <<< ((p2 - 10) &&& 31)) - 1) * 1082401)] γ σ τ)) : AI l D b M_X9_greaterHalf 1 γ Q 0 [(0, .int p1), (1, .int p2)] [] γ σ τ := by
  refine r_iload_n 1 dX9_greaterHalf_0 rfl rfl ?_
  refine r_bipush dX9_greaterHalf_1 cb_10 ?_
  refine r_icmp_le (tgt := 20) dX9_greaterHalf_3 (by decide) (fun c1 => ?_) (fun c1 => ?_)
  · replace h := h.1 c1
    refine r_iconst dX9_greaterHalf_20 ci_1 ?_
    refine r_iconst dX9_greaterHalf_21 ci_5 ?_
    refine r_iload_n 1 dX9_greaterHalf_22 rfl rfl ?_
    refine r_imul dX9_greaterHalf_23 ?_
    refine r_ishl dX9_greaterHalf_24 ?_
    refine r_iconst dX9_greaterHalf_25 ci_1 ?_
    refine r_isub dX9_greaterHalf_26 ?_
    refine r_lv [0] rfl ?_
    exact h
  · replace h := h.2 c1
    refine r_iconst dX9_greaterHalf_6 ci_1 ?_
    refine r_iload_n 1 dX9_greaterHalf_7 rfl rfl ?_
    refine r_bipush dX9_greaterHalf_8 cb_10 ?_
    refine r_isub dX9_greaterHalf_10 ?_
    refine r_ishl dX9_greaterHalf_11 ?_
    refine r_iconst dX9_greaterHalf_12 ci_1 ?_
    refine r_isub dX9_greaterHalf_13 ?_
    refine r_ldc (v := 1082401) rfl tw_748 rfl dX9_greaterHalf_14 ?_
    refine r_imul dX9_greaterHalf_16 ?_
    refine r_goto (tgt := 27) dX9_greaterHalf_17 (by decide) ?_
    refine r_lv [0] rfl ?_
    exact h
theorem s_X9_greaterHalf {l : Launch} {D : zDD} {b : Nat} {γ : zGm} (p1 p2 : Int32) (σ : zSg) (τ : zLm) {Q : Int32 → zSg → zLm → Prop} (h : (p2 ≤ 10 → AI l D b M_X9_greaterHalf 1 γ Q 27 [(0, .int p1)] [.int (((1 : Int32) <<< ((5 * p2) &&& 31)) - 1)] γ σ τ) ∧ (¬ p2 ≤ 10 → AI l D b M_X9_greaterHalf 1 γ Q 27 [(0, .int p1)] [.int ((((1 : Int32) <<< ((p2 - 10) &&& 31)) - 1) * 1082401)] γ σ τ)) : SI l D b M_X9_greaterHalf 1 γ [.int p1, .int p2] σ τ Q := zS.of (by decide) (Nat.le_of_ble_eq_true rfl) rfl (w_X9_greaterHalf_0 p1 p2 σ τ h)

theorem dX9_parts_0 : decode cX9_parts 0 = .ok (.iload_n 0, 1) := by decide +kernel
theorem dX9_parts_1 : decode cX9_parts 1 = .ok (.istore_n 1, 1) := by decide +kernel
theorem dX9_parts_2 : decode cX9_parts 2 = .ok (.iconst 0, 1) := by decide +kernel
theorem dX9_parts_3 : decode cX9_parts 3 = .ok (.istore_n 2, 1) := by decide +kernel
theorem dX9_parts_4 : decode cX9_parts 4 = .ok (.iconst 0, 1) := by decide +kernel
theorem dX9_parts_5 : decode cX9_parts 5 = .ok (.istore_n 3, 1) := by decide +kernel
theorem dX9_parts_6 : decode cX9_parts 6 = .ok (.iload_n 3, 1) := by decide +kernel
theorem dX9_parts_7 : decode cX9_parts 7 = .ok (.bipush 25, 2) := by decide +kernel
theorem dX9_parts_9 : decode cX9_parts 9 = .ok (.if_icmp .ge 29, 3) := by decide +kernel
theorem dX9_parts_12 : decode cX9_parts 12 = .ok (.iload_n 1, 1) := by decide +kernel
theorem dX9_parts_13 : decode cX9_parts 13 = .ok (.ifCond .eq 25, 3) := by decide +kernel
theorem dX9_parts_16 : decode cX9_parts 16 = .ok (.iload_n 1, 1) := by decide +kernel
theorem dX9_parts_17 : decode cX9_parts 17 = .ok (.iload_n 0, 1) := by decide +kernel
theorem dX9_parts_18 : decode cX9_parts 18 = .ok (.iload_n 1, 1) := by decide +kernel
theorem dX9_parts_19 : decode cX9_parts 19 = .ok (.iload_n 1, 1) := by decide +kernel
theorem dX9_parts_20 : decode cX9_parts 20 = .ok (.ineg, 1) := by decide +kernel
theorem dX9_parts_21 : decode cX9_parts 21 = .ok (.iand, 1) := by decide +kernel
theorem dX9_parts_22 : decode cX9_parts 22 = .ok (.invokestatic 18, 3) := by decide +kernel
theorem dX9_parts_25 : decode cX9_parts 25 = .ok (.iconst (-1), 1) := by decide +kernel
theorem dX9_parts_26 : decode cX9_parts 26 = .ok (.ixor, 1) := by decide +kernel
theorem dX9_parts_27 : decode cX9_parts 27 = .ok (.iand, 1) := by decide +kernel
theorem dX9_parts_28 : decode cX9_parts 28 = .ok (.istore_n 1, 1) := by decide +kernel
theorem dX9_parts_29 : decode cX9_parts 29 = .ok (.iinc 2 1, 3) := by decide +kernel
theorem dX9_parts_32 : decode cX9_parts 32 = .ok (.iinc 3 1, 3) := by decide +kernel
theorem dX9_parts_35 : decode cX9_parts 35 = .ok (.goto (-29), 3) := by decide +kernel
theorem dX9_parts_38 : decode cX9_parts 38 = .ok (.iload_n 2, 1) := by decide +kernel
theorem dX9_parts_39 : decode cX9_parts 39 = .ok (.ireturn, 1) := by decide +kernel
theorem w_X9_parts_6 {l : Launch} {D : zDD} {b : Nat} {γ : zGm} (x0 x1 x2 x3 : Int32) (σ : zSg) (τ : zLm) {Q : Int32 → zSg → zLm → Prop} (h : (25 ≤ x3 → Q x2 σ τ) ∧ (¬ 25 ≤ x3 → ((x1 = 0 → Q x2 σ τ) ∧ (¬ x1 = 0 → SI l D b M_X9_partFrom 1 γ [.int x0, .int (x1 &&& (-x1))] σ τ (fun r3 σ3 τ3 => AI l D b M_X9_parts 2 γ Q 6 [(0, .int x0), (1, .int (x1 &&& (r3 ^^^ (-1)))), (2, .int (x2 + 1)), (3, .int (x3 + 1))] [] γ σ3 τ3))))) : AI l D b M_X9_parts 2 γ Q 6 [(0, .int x0), (1, .int x1), (2, .int x2), (3, .int x3)] [] γ σ τ := by
  refine r_iload_n 3 dX9_parts_6 rfl rfl ?_
  refine r_bipush dX9_parts_7 cb_25 ?_
  refine r_icmp_ge (tgt := 38) dX9_parts_9 (by decide) (fun c1 => ?_) (fun c1 => ?_)
  · replace h := h.1 c1
    refine r_iload_n 2 dX9_parts_38 rfl rfl ?_
    exact r_iret rfl (Nat.le_refl _) (Nat.le_refl _) dX9_parts_39 ⟨rfl, rfl, rfl, _, rfl, h⟩
  · replace h := h.2 c1
    refine r_iload_n 1 dX9_parts_12 rfl rfl ?_
    refine r_if_eq (tgt := 38) dX9_parts_13 (by decide) (fun c2 => ?_) (fun c2 => ?_)
    · replace h := h.1 c2
      refine r_iload_n 2 dX9_parts_38 rfl rfl ?_
      exact r_iret rfl (Nat.le_refl _) (Nat.le_refl _) dX9_parts_39 ⟨rfl, rfl, rfl, _, rfl, h⟩
    · replace h := h.2 c2
      refine r_iload_n 1 dX9_parts_16 rfl rfl ?_
      refine r_iload_n 0 dX9_parts_17 rfl rfl ?_
      refine r_iload_n 1 dX9_parts_18 rfl rfl ?_
      refine r_iload_n 1 dX9_parts_19 rfl rfl ?_
      refine r_ineg dX9_parts_20 ?_
      refine r_iand dX9_parts_21 ?_
      refine rc_SI (h' := 1) [.int x0, .int (x1 &&& (-x1))] oks_X9_partFrom tw_517 rfl rfl (Nat.le_of_ble_eq_true rfl) dX9_parts_22 (by decide) h (fun r3 σ3 τ3 h => ?_)
      refine r_iconst dX9_parts_25 ci_m1 ?_
      refine r_ixor dX9_parts_26 ?_
      refine r_iand dX9_parts_27 ?_
      refine r_istore_n dX9_parts_28 rfl (by decide) rfl ?_
      refine r_inc 2 dX9_parts_29 rfl ci_1 (by decide) rfl ?_
      refine r_inc 3 dX9_parts_32 rfl ci_1 (by decide) rfl ?_
      refine r_goto (tgt := 6) dX9_parts_35 (by decide) ?_
      refine r_lv [3, 2, 1, 0] rfl ?_
      exact h

theorem w_X9_parts_0 {l : Launch} {D : zDD} {b : Nat} {γ : zGm} (p1 : Int32) (σ : zSg) (τ : zLm) {Q : Int32 → zSg → zLm → Prop} (h : AI l D b M_X9_parts 2 γ Q 6 [(0, .int p1), (1, .int p1), (2, .int 0), (3, .int 0)] [] γ σ τ) : AI l D b M_X9_parts 2 γ Q 0 [(0, .int p1)] [] γ σ τ := by
  refine r_iload_n 0 dX9_parts_0 rfl rfl ?_
  refine r_istore_n dX9_parts_1 rfl (by decide) rfl ?_
  refine r_iconst dX9_parts_2 ci_0 ?_
  refine r_istore_n dX9_parts_3 rfl (by decide) rfl ?_
  refine r_iconst dX9_parts_4 ci_0 ?_
  refine r_istore_n dX9_parts_5 rfl (by decide) rfl ?_
  refine r_lv [3, 2, 1, 0] rfl ?_
  exact h
theorem s_X9_parts {l : Launch} {D : zDD} {b : Nat} {γ : zGm} (p1 : Int32) (σ : zSg) (τ : zLm) {Q : Int32 → zSg → zLm → Prop} (h : AI l D b M_X9_parts 2 γ Q 6 [(0, .int p1), (1, .int p1), (2, .int 0), (3, .int 0)] [] γ σ τ) : SI l D b M_X9_parts 2 γ [.int p1] σ τ Q := zS.of (by decide) (Nat.le_of_ble_eq_true rfl) rfl (w_X9_parts_0 p1 σ τ h)

theorem dX9_greatestPart_0 : decode cX9_greatestPart 0 = .ok (.iload_n 0, 1) := by decide +kernel
theorem dX9_greatestPart_1 : decode cX9_greatestPart 1 = .ok (.istore_n 1, 1) := by decide +kernel
theorem dX9_greatestPart_2 : decode cX9_greatestPart 2 = .ok (.iconst 0, 1) := by decide +kernel
theorem dX9_greatestPart_3 : decode cX9_greatestPart 3 = .ok (.istore_n 2, 1) := by decide +kernel
theorem dX9_greatestPart_4 : decode cX9_greatestPart 4 = .ok (.iconst 0, 1) := by decide +kernel
theorem dX9_greatestPart_5 : decode cX9_greatestPart 5 = .ok (.istore_n 3, 1) := by decide +kernel
theorem dX9_greatestPart_6 : decode cX9_greatestPart 6 = .ok (.iload_n 3, 1) := by decide +kernel
theorem dX9_greatestPart_7 : decode cX9_greatestPart 7 = .ok (.bipush 25, 2) := by decide +kernel
theorem dX9_greatestPart_9 : decode cX9_greatestPart 9 = .ok (.if_icmp .ge 40, 3) := by decide +kernel
theorem dX9_greatestPart_12 : decode cX9_greatestPart 12 = .ok (.iload_n 1, 1) := by decide +kernel
theorem dX9_greatestPart_13 : decode cX9_greatestPart 13 = .ok (.ifCond .eq 36, 3) := by decide +kernel
theorem dX9_greatestPart_16 : decode cX9_greatestPart 16 = .ok (.iload_n 0, 1) := by decide +kernel
theorem dX9_greatestPart_17 : decode cX9_greatestPart 17 = .ok (.iload_n 1, 1) := by decide +kernel
theorem dX9_greatestPart_18 : decode cX9_greatestPart 18 = .ok (.iload_n 1, 1) := by decide +kernel
theorem dX9_greatestPart_19 : decode cX9_greatestPart 19 = .ok (.ineg, 1) := by decide +kernel
theorem dX9_greatestPart_20 : decode cX9_greatestPart 20 = .ok (.iand, 1) := by decide +kernel
theorem dX9_greatestPart_21 : decode cX9_greatestPart 21 = .ok (.invokestatic 18, 3) := by decide +kernel
theorem dX9_greatestPart_24 : decode cX9_greatestPart 24 = .ok (.istore 4, 2) := by decide +kernel
theorem dX9_greatestPart_26 : decode cX9_greatestPart 26 = .ok (.iload_n 2, 1) := by decide +kernel
theorem dX9_greatestPart_27 : decode cX9_greatestPart 27 = .ok (.iload 4, 2) := by decide +kernel
theorem dX9_greatestPart_29 : decode cX9_greatestPart 29 = .ok (.invokestatic 21, 3) := by decide +kernel
theorem dX9_greatestPart_32 : decode cX9_greatestPart 32 = .ok (.invokestatic 27, 3) := by decide +kernel
theorem dX9_greatestPart_35 : decode cX9_greatestPart 35 = .ok (.istore_n 2, 1) := by decide +kernel
theorem dX9_greatestPart_36 : decode cX9_greatestPart 36 = .ok (.iload_n 1, 1) := by decide +kernel
theorem dX9_greatestPart_37 : decode cX9_greatestPart 37 = .ok (.iload 4, 2) := by decide +kernel
theorem dX9_greatestPart_39 : decode cX9_greatestPart 39 = .ok (.iconst (-1), 1) := by decide +kernel
theorem dX9_greatestPart_40 : decode cX9_greatestPart 40 = .ok (.ixor, 1) := by decide +kernel
theorem dX9_greatestPart_41 : decode cX9_greatestPart 41 = .ok (.iand, 1) := by decide +kernel
theorem dX9_greatestPart_42 : decode cX9_greatestPart 42 = .ok (.istore_n 1, 1) := by decide +kernel
theorem dX9_greatestPart_43 : decode cX9_greatestPart 43 = .ok (.iinc 3 1, 3) := by decide +kernel
theorem dX9_greatestPart_46 : decode cX9_greatestPart 46 = .ok (.goto (-40), 3) := by decide +kernel
theorem dX9_greatestPart_49 : decode cX9_greatestPart 49 = .ok (.iload_n 2, 1) := by decide +kernel
theorem dX9_greatestPart_50 : decode cX9_greatestPart 50 = .ok (.ireturn, 1) := by decide +kernel
theorem w_X9_greatestPart_6 {l : Launch} {D : zDD} {b : Nat} {γ : zGm} (x0 x1 x2 x3 : Int32) (σ : zSg) (τ : zLm) {Q : Int32 → zSg → zLm → Prop} (h : (25 ≤ x3 → Q x2 σ τ) ∧ (¬ 25 ≤ x3 → ((x1 = 0 → Q x2 σ τ) ∧ (¬ x1 = 0 → SI l D b M_X9_partFrom 1 γ [.int x0, .int (x1 &&& (-x1))] σ τ (fun r3 σ3 τ3 => SI l D b M_J6_bitCount_0f7a4 0 γ [.int r3] σ3 τ3 (fun r4 σ4 τ4 => AI l D b M_X9_greatestPart 2 γ Q 6 [(0, .int x0), (1, .int (x1 &&& (r3 ^^^ (-1)))), (2, .int (mx x2 r4)), (3, .int (x3 + 1))] [] γ σ4 τ4)))))) : AI l D b M_X9_greatestPart 2 γ Q 6 [(0, .int x0), (1, .int x1), (2, .int x2), (3, .int x3)] [] γ σ τ := by
  refine r_iload_n 3 dX9_greatestPart_6 rfl rfl ?_
  refine r_bipush dX9_greatestPart_7 cb_25 ?_
  refine r_icmp_ge (tgt := 49) dX9_greatestPart_9 (by decide) (fun c1 => ?_) (fun c1 => ?_)
  · replace h := h.1 c1
    refine r_iload_n 2 dX9_greatestPart_49 rfl rfl ?_
    exact r_iret rfl (Nat.le_refl _) (Nat.le_refl _) dX9_greatestPart_50 ⟨rfl, rfl, rfl, _, rfl, h⟩
  · replace h := h.2 c1
    refine r_iload_n 1 dX9_greatestPart_12 rfl rfl ?_
    refine r_if_eq (tgt := 49) dX9_greatestPart_13 (by decide) (fun c2 => ?_) (fun c2 => ?_)
    · replace h := h.1 c2
      refine r_iload_n 2 dX9_greatestPart_49 rfl rfl ?_
      exact r_iret rfl (Nat.le_refl _) (Nat.le_refl _) dX9_greatestPart_50 ⟨rfl, rfl, rfl, _, rfl, h⟩
    · replace h := h.2 c2
      refine r_iload_n 0 dX9_greatestPart_16 rfl rfl ?_
      refine r_iload_n 1 dX9_greatestPart_17 rfl rfl ?_
      refine r_iload_n 1 dX9_greatestPart_18 rfl rfl ?_
      refine r_ineg dX9_greatestPart_19 ?_
      refine r_iand dX9_greatestPart_20 ?_
      refine rc_SI (h' := 1) [.int x0, .int (x1 &&& (-x1))] oks_X9_partFrom tw_517 rfl rfl (Nat.le_of_ble_eq_true rfl) dX9_greatestPart_21 (by decide) h (fun r3 σ3 τ3 h => ?_)
      refine r_istore dX9_greatestPart_24 (by decide) rfl ?_
      refine r_iload_n 3 dX9_greatestPart_26 rfl rfl ?_
      refine r_iload 0 dX9_greatestPart_27 rfl ?_
      refine rc_SI (h' := 0) [.int r3] oks_J6_bitCount_0f7a4 tw_529 rfl rfl (Nat.le_of_ble_eq_true rfl) dX9_greatestPart_29 (by decide) h (fun r4 σ4 τ4 h => ?_)
      refine r_max tw_535 dX9_greatestPart_32 (by decide) (Nat.le_of_ble_eq_true rfl) (Nat.le_refl _) (Nat.le_refl _) ?_
      refine r_istore_n dX9_greatestPart_35 rfl (by decide) rfl ?_
      refine r_iload_n 3 dX9_greatestPart_36 rfl rfl ?_
      refine r_iload 1 dX9_greatestPart_37 rfl ?_
      refine r_iconst dX9_greatestPart_39 ci_m1 ?_
      refine r_ixor dX9_greatestPart_40 ?_
      refine r_iand dX9_greatestPart_41 ?_
      refine r_istore_n dX9_greatestPart_42 rfl (by decide) rfl ?_
      refine r_inc 4 dX9_greatestPart_43 rfl ci_1 (by decide) rfl ?_
      refine r_goto (tgt := 6) dX9_greatestPart_46 (by decide) ?_
      refine r_lv [4, 1, 2, 0] rfl ?_
      exact h

theorem w_X9_greatestPart_0 {l : Launch} {D : zDD} {b : Nat} {γ : zGm} (p1 : Int32) (σ : zSg) (τ : zLm) {Q : Int32 → zSg → zLm → Prop} (h : AI l D b M_X9_greatestPart 2 γ Q 6 [(0, .int p1), (1, .int p1), (2, .int 0), (3, .int 0)] [] γ σ τ) : AI l D b M_X9_greatestPart 2 γ Q 0 [(0, .int p1)] [] γ σ τ := by
  refine r_iload_n 0 dX9_greatestPart_0 rfl rfl ?_
  refine r_istore_n dX9_greatestPart_1 rfl (by decide) rfl ?_
  refine r_iconst dX9_greatestPart_2 ci_0 ?_
  refine r_istore_n dX9_greatestPart_3 rfl (by decide) rfl ?_
  refine r_iconst dX9_greatestPart_4 ci_0 ?_
  refine r_istore_n dX9_greatestPart_5 rfl (by decide) rfl ?_
  refine r_lv [3, 2, 1, 0] rfl ?_
  exact h
theorem s_X9_greatestPart {l : Launch} {D : zDD} {b : Nat} {γ : zGm} (p1 : Int32) (σ : zSg) (τ : zLm) {Q : Int32 → zSg → zLm → Prop} (h : AI l D b M_X9_greatestPart 2 γ Q 6 [(0, .int p1), (1, .int p1), (2, .int 0), (3, .int 0)] [] γ σ τ) : SI l D b M_X9_greatestPart 2 γ [.int p1] σ τ Q := zS.of (by decide) (Nat.le_of_ble_eq_true rfl) rfl (w_X9_greatestPart_0 p1 σ τ h)

theorem dX9_hold_0 : decode cX9_hold 0 = .ok (.iconst 0, 1) := by decide +kernel
theorem dX9_hold_1 : decode cX9_hold 1 = .ok (.istore_n 1, 1) := by decide +kernel
theorem dX9_hold_2 : decode cX9_hold 2 = .ok (.iconst 0, 1) := by decide +kernel
theorem dX9_hold_3 : decode cX9_hold 3 = .ok (.istore_n 2, 1) := by decide +kernel
theorem dX9_hold_4 : decode cX9_hold 4 = .ok (.iload_n 2, 1) := by decide +kernel
theorem dX9_hold_5 : decode cX9_hold 5 = .ok (.bipush 25, 2) := by decide +kernel
theorem dX9_hold_7 : decode cX9_hold 7 = .ok (.if_icmp .ge 32, 3) := by decide +kernel
theorem dX9_hold_10 : decode cX9_hold 10 = .ok (.iload_n 0, 1) := by decide +kernel
theorem dX9_hold_11 : decode cX9_hold 11 = .ok (.iload_n 2, 1) := by decide +kernel
theorem dX9_hold_12 : decode cX9_hold 12 = .ok (.invokestatic 32, 3) := by decide +kernel
theorem dX9_hold_15 : decode cX9_hold 15 = .ok (.ifCond .eq 18, 3) := by decide +kernel
theorem dX9_hold_18 : decode cX9_hold 18 = .ok (.iload_n 0, 1) := by decide +kernel
theorem dX9_hold_19 : decode cX9_hold 19 = .ok (.iload_n 2, 1) := by decide +kernel
theorem dX9_hold_20 : decode cX9_hold 20 = .ok (.invokestatic 36, 3) := by decide +kernel
theorem dX9_hold_23 : decode cX9_hold 23 = .ok (.iconst 3, 1) := by decide +kernel
theorem dX9_hold_24 : decode cX9_hold 24 = .ok (.if_icmp .lt 9, 3) := by decide +kernel
theorem dX9_hold_27 : decode cX9_hold 27 = .ok (.iload_n 1, 1) := by decide +kernel
theorem dX9_hold_28 : decode cX9_hold 28 = .ok (.iconst 1, 1) := by decide +kernel
theorem dX9_hold_29 : decode cX9_hold 29 = .ok (.iload_n 2, 1) := by decide +kernel
theorem dX9_hold_30 : decode cX9_hold 30 = .ok (.ishl, 1) := by decide +kernel
theorem dX9_hold_31 : decode cX9_hold 31 = .ok (.ior, 1) := by decide +kernel
theorem dX9_hold_32 : decode cX9_hold 32 = .ok (.istore_n 1, 1) := by decide +kernel
theorem dX9_hold_33 : decode cX9_hold 33 = .ok (.iinc 2 1, 3) := by decide +kernel
theorem dX9_hold_36 : decode cX9_hold 36 = .ok (.goto (-32), 3) := by decide +kernel
theorem dX9_hold_39 : decode cX9_hold 39 = .ok (.iload_n 1, 1) := by decide +kernel
theorem dX9_hold_40 : decode cX9_hold 40 = .ok (.ireturn, 1) := by decide +kernel
theorem w_X9_hold_4 {l : Launch} {D : zDD} {b : Nat} {γ : zGm} (x0 x1 x2 : Int32) (σ : zSg) (τ : zLm) {Q : Int32 → zSg → zLm → Prop} (h : (25 ≤ x2 → Q x1 σ τ) ∧ (¬ 25 ≤ x2 → (SI l D b M_X9_has 0 γ [.int x0, .int x2] σ τ (fun r2 σ2 τ2 => (r2 = 0 → AI l D b M_X9_hold 2 γ Q 4 [(0, .int x0), (1, .int x1), (2, .int (x2 + 1))] [] γ σ2 τ2) ∧ (¬ r2 = 0 → (SI l D b M_X9_openSides 1 γ [.int x0, .int x2] σ2 τ2 (fun r4 σ4 τ4 => (r4 < 3 → AI l D b M_X9_hold 2 γ Q 4 [(0, .int x0), (1, .int x1), (2, .int (x2 + 1))] [] γ σ4 τ4) ∧ (¬ r4 < 3 → (∀ v6 : Int32, v6 = x1 ||| ((1 : Int32) <<< (x2 &&& 31)) → AI l D b M_X9_hold 2 γ Q 4 [(0, .int x0), (1, .int v6), (2, .int (x2 + 1))] [] γ σ4 τ4))))))))) : AI l D b M_X9_hold 2 γ Q 4 [(0, .int x0), (1, .int x1), (2, .int x2)] [] γ σ τ := by
  refine r_iload_n 2 dX9_hold_4 rfl rfl ?_
  refine r_bipush dX9_hold_5 cb_25 ?_
  refine r_icmp_ge (tgt := 39) dX9_hold_7 (by decide) (fun c1 => ?_) (fun c1 => ?_)
  · replace h := h.1 c1
    refine r_iload_n 1 dX9_hold_39 rfl rfl ?_
    exact r_iret rfl (Nat.le_refl _) (Nat.le_refl _) dX9_hold_40 ⟨rfl, rfl, rfl, _, rfl, h⟩
  · replace h := h.2 c1
    refine r_iload_n 0 dX9_hold_10 rfl rfl ?_
    refine r_iload_n 2 dX9_hold_11 rfl rfl ?_
    refine rc_SI (h' := 0) [.int x0, .int x2] oks_X9_has tw_481 rfl rfl (Nat.le_of_ble_eq_true rfl) dX9_hold_12 (by decide) h (fun r2 σ2 τ2 h => ?_)
    refine r_if_eq (tgt := 33) dX9_hold_15 (by decide) (fun c3 => ?_) (fun c3 => ?_)
    · replace h := h.1 c3
      refine r_inc 2 dX9_hold_33 rfl ci_1 (by decide) rfl ?_
      refine r_goto (tgt := 4) dX9_hold_36 (by decide) ?_
      refine r_lv [1, 2, 0] rfl ?_
      exact h
    · replace h := h.2 c3
      refine r_iload_n 0 dX9_hold_18 rfl rfl ?_
      refine r_iload_n 2 dX9_hold_19 rfl rfl ?_
      refine rc_SI (h' := 1) [.int x0, .int x2] oks_X9_openSides tw_542 rfl rfl (Nat.le_of_ble_eq_true rfl) dX9_hold_20 (by decide) h (fun r4 σ4 τ4 h => ?_)
      refine r_iconst dX9_hold_23 ci_3 ?_
      refine r_icmp_lt (tgt := 33) dX9_hold_24 (by decide) (fun c5 => ?_) (fun c5 => ?_)
      · replace h := h.1 c5
        refine r_inc 2 dX9_hold_33 rfl ci_1 (by decide) rfl ?_
        refine r_goto (tgt := 4) dX9_hold_36 (by decide) ?_
        refine r_lv [1, 2, 0] rfl ?_
        exact h
      · replace h := h.2 c5
        refine r_iload_n 1 dX9_hold_27 rfl rfl ?_
        refine r_iconst dX9_hold_28 ci_1 ?_
        refine r_iload_n 2 dX9_hold_29 rfl rfl ?_
        refine r_ishl dX9_hold_30 ?_
        refine r_ior dX9_hold_31 ?_
        refine r_nmI (fun v6 ev6 => ?_)
        replace h := h v6 ev6
        refine r_istore_n dX9_hold_32 rfl (by decide) rfl ?_
        refine r_inc 2 dX9_hold_33 rfl ci_1 (by decide) rfl ?_
        refine r_goto (tgt := 4) dX9_hold_36 (by decide) ?_
        refine r_lv [2, 1, 0] rfl ?_
        exact h

theorem w_X9_hold_0 {l : Launch} {D : zDD} {b : Nat} {γ : zGm} (p1 : Int32) (σ : zSg) (τ : zLm) {Q : Int32 → zSg → zLm → Prop} (h : AI l D b M_X9_hold 2 γ Q 4 [(0, .int p1), (1, .int 0), (2, .int 0)] [] γ σ τ) : AI l D b M_X9_hold 2 γ Q 0 [(0, .int p1)] [] γ σ τ := by
  refine r_iconst dX9_hold_0 ci_0 ?_
  refine r_istore_n dX9_hold_1 rfl (by decide) rfl ?_
  refine r_iconst dX9_hold_2 ci_0 ?_
  refine r_istore_n dX9_hold_3 rfl (by decide) rfl ?_
  refine r_lv [2, 1, 0] rfl ?_
  exact h
theorem s_X9_hold {l : Launch} {D : zDD} {b : Nat} {γ : zGm} (p1 : Int32) (σ : zSg) (τ : zLm) {Q : Int32 → zSg → zLm → Prop} (h : AI l D b M_X9_hold 2 γ Q 4 [(0, .int p1), (1, .int 0), (2, .int 0)] [] γ σ τ) : SI l D b M_X9_hold 2 γ [.int p1] σ τ Q := zS.of (by decide) (Nat.le_of_ble_eq_true rfl) rfl (w_X9_hold_0 p1 σ τ h)

theorem dX9_squareSide_0 : decode cX9_squareSide 0 = .ok (.iload_n 0, 1) := by decide +kernel
theorem dX9_squareSide_1 : decode cX9_squareSide 1 = .ok (.invokestatic 42, 3) := by decide +kernel
theorem dX9_squareSide_4 : decode cX9_squareSide 4 = .ok (.istore_n 1, 1) := by decide +kernel
theorem dX9_squareSide_5 : decode cX9_squareSide 5 = .ok (.iload_n 0, 1) := by decide +kernel
theorem dX9_squareSide_6 : decode cX9_squareSide 6 = .ok (.invokestatic 45, 3) := by decide +kernel
theorem dX9_squareSide_9 : decode cX9_squareSide 9 = .ok (.istore_n 2, 1) := by decide +kernel
theorem dX9_squareSide_10 : decode cX9_squareSide 10 = .ok (.iconst 1, 1) := by decide +kernel
theorem dX9_squareSide_11 : decode cX9_squareSide 11 = .ok (.iload_n 1, 1) := by decide +kernel
theorem dX9_squareSide_12 : decode cX9_squareSide 12 = .ok (.invokestatic 48, 3) := by decide +kernel
theorem dX9_squareSide_15 : decode cX9_squareSide 15 = .ok (.iload_n 1, 1) := by decide +kernel
theorem dX9_squareSide_16 : decode cX9_squareSide 16 = .ok (.invokestatic 51, 3) := by decide +kernel
theorem dX9_squareSide_19 : decode cX9_squareSide 19 = .ok (.isub, 1) := by decide +kernel
theorem dX9_squareSide_20 : decode cX9_squareSide 20 = .ok (.iload_n 2, 1) := by decide +kernel
theorem dX9_squareSide_21 : decode cX9_squareSide 21 = .ok (.invokestatic 48, 3) := by decide +kernel
theorem dX9_squareSide_24 : decode cX9_squareSide 24 = .ok (.iload_n 2, 1) := by decide +kernel
theorem dX9_squareSide_25 : decode cX9_squareSide 25 = .ok (.invokestatic 51, 3) := by decide +kernel
theorem dX9_squareSide_28 : decode cX9_squareSide 28 = .ok (.isub, 1) := by decide +kernel
theorem dX9_squareSide_29 : decode cX9_squareSide 29 = .ok (.invokestatic 27, 3) := by decide +kernel
theorem dX9_squareSide_32 : decode cX9_squareSide 32 = .ok (.iadd, 1) := by decide +kernel
theorem dX9_squareSide_33 : decode cX9_squareSide 33 = .ok (.ireturn, 1) := by decide +kernel
theorem w_X9_squareSide_0 {l : Launch} {D : zDD} {b : Nat} {γ : zGm} (p1 : Int32) (σ : zSg) (τ : zLm) {Q : Int32 → zSg → zLm → Prop} (h : SI l D b M_X9_rowsUsed 1 γ [.int p1] σ τ (fun r1 σ1 τ1 => SI l D b M_X9_columnsUsed 1 γ [.int p1] σ1 τ1 (fun r2 σ2 τ2 => SI l D b M_X9_lastOf 1 γ [.int r1] σ2 τ2 (fun r3 σ3 τ3 => SI l D b M_X9_firstOf 1 γ [.int r1] σ3 τ3 (fun r4 σ4 τ4 => SI l D b M_X9_lastOf 1 γ [.int r2] σ4 τ4 (fun r5 σ5 τ5 => SI l D b M_X9_firstOf 1 γ [.int r2] σ5 τ5 (fun r6 σ6 τ6 => Q (1 + (mx (r3 - r4) (r5 - r6))) σ6 τ6))))))) : AI l D b M_X9_squareSide 2 γ Q 0 [(0, .int p1)] [] γ σ τ := by
  refine r_iload_n 0 dX9_squareSide_0 rfl rfl ?_
  refine rc_SI (h' := 1) [.int p1] oks_X9_rowsUsed tw_472 rfl rfl (Nat.le_of_ble_eq_true rfl) dX9_squareSide_1 (by decide) h (fun r1 σ1 τ1 h => ?_)
  refine r_istore_n dX9_squareSide_4 rfl (by decide) rfl ?_
  refine r_iload_n 1 dX9_squareSide_5 rfl rfl ?_
  refine rc_SI (h' := 1) [.int p1] oks_X9_columnsUsed tw_487 rfl rfl (Nat.le_of_ble_eq_true rfl) dX9_squareSide_6 (by decide) h (fun r2 σ2 τ2 h => ?_)
  refine r_istore_n dX9_squareSide_9 rfl (by decide) rfl ?_
  refine r_iconst dX9_squareSide_10 ci_1 ?_
  refine r_iload_n 1 dX9_squareSide_11 rfl rfl ?_
  refine rc_SI (h' := 1) [.int r1] oks_X9_lastOf tw_478 rfl rfl (Nat.le_of_ble_eq_true rfl) dX9_squareSide_12 (by decide) h (fun r3 σ3 τ3 h => ?_)
  refine r_iload_n 1 dX9_squareSide_15 rfl rfl ?_
  refine rc_SI (h' := 1) [.int r1] oks_X9_firstOf tw_705 rfl rfl (Nat.le_of_ble_eq_true rfl) dX9_squareSide_16 (by decide) h (fun r4 σ4 τ4 h => ?_)
  refine r_isub dX9_squareSide_19 ?_
  refine r_iload_n 0 dX9_squareSide_20 rfl rfl ?_
  refine rc_SI (h' := 1) [.int r2] oks_X9_lastOf tw_478 rfl rfl (Nat.le_of_ble_eq_true rfl) dX9_squareSide_21 (by decide) h (fun r5 σ5 τ5 h => ?_)
  refine r_iload_n 0 dX9_squareSide_24 rfl rfl ?_
  refine rc_SI (h' := 1) [.int r2] oks_X9_firstOf tw_705 rfl rfl (Nat.le_of_ble_eq_true rfl) dX9_squareSide_25 (by decide) h (fun r6 σ6 τ6 h => ?_)
  refine r_isub dX9_squareSide_28 ?_
  refine r_max tw_535 dX9_squareSide_29 (by decide) (Nat.le_of_ble_eq_true rfl) (Nat.le_refl _) (Nat.le_refl _) ?_
  refine r_iadd dX9_squareSide_32 ?_
  exact r_iret rfl (Nat.le_refl _) (Nat.le_refl _) dX9_squareSide_33 ⟨rfl, rfl, rfl, _, rfl, h⟩
theorem s_X9_squareSide {l : Launch} {D : zDD} {b : Nat} {γ : zGm} (p1 : Int32) (σ : zSg) (τ : zLm) {Q : Int32 → zSg → zLm → Prop} (h : SI l D b M_X9_rowsUsed 1 γ [.int p1] σ τ (fun r1 σ1 τ1 => SI l D b M_X9_columnsUsed 1 γ [.int p1] σ1 τ1 (fun r2 σ2 τ2 => SI l D b M_X9_lastOf 1 γ [.int r1] σ2 τ2 (fun r3 σ3 τ3 => SI l D b M_X9_firstOf 1 γ [.int r1] σ3 τ3 (fun r4 σ4 τ4 => SI l D b M_X9_lastOf 1 γ [.int r2] σ4 τ4 (fun r5 σ5 τ5 => SI l D b M_X9_firstOf 1 γ [.int r2] σ5 τ5 (fun r6 σ6 τ6 => Q (1 + (mx (r3 - r4) (r5 - r6))) σ6 τ6))))))) : SI l D b M_X9_squareSide 2 γ [.int p1] σ τ Q := zS.of (by decide) (Nat.le_of_ble_eq_true rfl) rfl (w_X9_squareSide_0 p1 σ τ h)

theorem dX9_movesDown_0 : decode cX9_movesDown 0 = .ok (.iconst 5, 1) := by decide +kernel
theorem dX9_movesDown_1 : decode cX9_movesDown 1 = .ok (.iload_n 0, 1) := by decide +kernel
theorem dX9_movesDown_2 : decode cX9_movesDown 2 = .ok (.invokestatic 42, 3) := by decide +kernel
theorem dX9_movesDown_5 : decode cX9_movesDown 5 = .ok (.invokestatic 48, 3) := by decide +kernel
theorem dX9_movesDown_8 : decode cX9_movesDown 8 = .ok (.isub, 1) := by decide +kernel
theorem dX9_movesDown_9 : decode cX9_movesDown 9 = .ok (.ireturn, 1) := by decide +kernel
theorem w_X9_movesDown_0 {l : Launch} {D : zDD} {b : Nat} {γ : zGm} (p1 : Int32) (σ : zSg) (τ : zLm) {Q : Int32 → zSg → zLm → Prop} (h : SI l D b M_X9_rowsUsed 1 γ [.int p1] σ τ (fun r1 σ1 τ1 => SI l D b M_X9_lastOf 1 γ [.int r1] σ1 τ1 (fun r2 σ2 τ2 => Q (5 - r2) σ2 τ2))) : AI l D b M_X9_movesDown 2 γ Q 0 [(0, .int p1)] [] γ σ τ := by
  refine r_iconst dX9_movesDown_0 ci_5 ?_
  refine r_iload_n 0 dX9_movesDown_1 rfl rfl ?_
  refine rc_SI (h' := 1) [.int p1] oks_X9_rowsUsed tw_472 rfl rfl (Nat.le_of_ble_eq_true rfl) dX9_movesDown_2 (by decide) h (fun r1 σ1 τ1 h => ?_)
  refine rc_SI (h' := 1) [.int r1] oks_X9_lastOf tw_478 rfl rfl (Nat.le_of_ble_eq_true rfl) dX9_movesDown_5 (by decide) h (fun r2 σ2 τ2 h => ?_)
  refine r_isub dX9_movesDown_8 ?_
  exact r_iret rfl (Nat.le_refl _) (Nat.le_refl _) dX9_movesDown_9 ⟨rfl, rfl, rfl, _, rfl, h⟩
theorem s_X9_movesDown {l : Launch} {D : zDD} {b : Nat} {γ : zGm} (p1 : Int32) (σ : zSg) (τ : zLm) {Q : Int32 → zSg → zLm → Prop} (h : SI l D b M_X9_rowsUsed 1 γ [.int p1] σ τ (fun r1 σ1 τ1 => SI l D b M_X9_lastOf 1 γ [.int r1] σ1 τ1 (fun r2 σ2 τ2 => Q (5 - r2) σ2 τ2))) : SI l D b M_X9_movesDown 2 γ [.int p1] σ τ Q := zS.of (by decide) (Nat.le_of_ble_eq_true rfl) rfl (w_X9_movesDown_0 p1 σ τ h)

theorem dX9_movesRight_0 : decode cX9_movesRight 0 = .ok (.iconst 5, 1) := by decide +kernel
theorem dX9_movesRight_1 : decode cX9_movesRight 1 = .ok (.iload_n 0, 1) := by decide +kernel
theorem dX9_movesRight_2 : decode cX9_movesRight 2 = .ok (.invokestatic 45, 3) := by decide +kernel
theorem dX9_movesRight_5 : decode cX9_movesRight 5 = .ok (.invokestatic 48, 3) := by decide +kernel
theorem dX9_movesRight_8 : decode cX9_movesRight 8 = .ok (.isub, 1) := by decide +kernel
theorem dX9_movesRight_9 : decode cX9_movesRight 9 = .ok (.ireturn, 1) := by decide +kernel
theorem w_X9_movesRight_0 {l : Launch} {D : zDD} {b : Nat} {γ : zGm} (p1 : Int32) (σ : zSg) (τ : zLm) {Q : Int32 → zSg → zLm → Prop} (h : SI l D b M_X9_columnsUsed 1 γ [.int p1] σ τ (fun r1 σ1 τ1 => SI l D b M_X9_lastOf 1 γ [.int r1] σ1 τ1 (fun r2 σ2 τ2 => Q (5 - r2) σ2 τ2))) : AI l D b M_X9_movesRight 2 γ Q 0 [(0, .int p1)] [] γ σ τ := by
  refine r_iconst dX9_movesRight_0 ci_5 ?_
  refine r_iload_n 0 dX9_movesRight_1 rfl rfl ?_
  refine rc_SI (h' := 1) [.int p1] oks_X9_columnsUsed tw_487 rfl rfl (Nat.le_of_ble_eq_true rfl) dX9_movesRight_2 (by decide) h (fun r1 σ1 τ1 h => ?_)
  refine rc_SI (h' := 1) [.int r1] oks_X9_lastOf tw_478 rfl rfl (Nat.le_of_ble_eq_true rfl) dX9_movesRight_5 (by decide) h (fun r2 σ2 τ2 h => ?_)
  refine r_isub dX9_movesRight_8 ?_
  exact r_iret rfl (Nat.le_refl _) (Nat.le_refl _) dX9_movesRight_9 ⟨rfl, rfl, rfl, _, rfl, h⟩
theorem s_X9_movesRight {l : Launch} {D : zDD} {b : Nat} {γ : zGm} (p1 : Int32) (σ : zSg) (τ : zLm) {Q : Int32 → zSg → zLm → Prop} (h : SI l D b M_X9_columnsUsed 1 γ [.int p1] σ τ (fun r1 σ1 τ1 => SI l D b M_X9_lastOf 1 γ [.int r1] σ1 τ1 (fun r2 σ2 τ2 => Q (5 - r2) σ2 τ2))) : SI l D b M_X9_movesRight 2 γ [.int p1] σ τ Q := zS.of (by decide) (Nat.le_of_ble_eq_true rfl) rfl (w_X9_movesRight_0 p1 σ τ h)

theorem dX9_halvingLine_0 : decode cX9_halvingLine 0 = .ok (.iconst 1, 1) := by decide +kernel
theorem dX9_halvingLine_1 : decode cX9_halvingLine 1 = .ok (.istore_n 1, 1) := by decide +kernel
theorem dX9_halvingLine_2 : decode cX9_halvingLine 2 = .ok (.iconst 2, 1) := by decide +kernel
theorem dX9_halvingLine_3 : decode cX9_halvingLine 3 = .ok (.istore_n 2, 1) := by decide +kernel
theorem dX9_halvingLine_4 : decode cX9_halvingLine 4 = .ok (.iload_n 2, 1) := by decide +kernel
theorem dX9_halvingLine_5 : decode cX9_halvingLine 5 = .ok (.bipush 9, 2) := by decide +kernel
theorem dX9_halvingLine_7 : decode cX9_halvingLine 7 = .ok (.if_icmp .ge 40, 3) := by decide +kernel
theorem dX9_halvingLine_10 : decode cX9_halvingLine 10 = .ok (.iload_n 2, 1) := by decide +kernel
theorem dX9_halvingLine_11 : decode cX9_halvingLine 11 = .ok (.iconst 5, 1) := by decide +kernel
theorem dX9_halvingLine_12 : decode cX9_halvingLine 12 = .ok (.if_icmp .ge 7, 3) := by decide +kernel
theorem dX9_halvingLine_15 : decode cX9_halvingLine 15 = .ok (.iload_n 2, 1) := by decide +kernel
theorem dX9_halvingLine_16 : decode cX9_halvingLine 16 = .ok (.goto 9, 3) := by decide +kernel
theorem dX9_halvingLine_19 : decode cX9_halvingLine 19 = .ok (.iload_n 2, 1) := by decide +kernel
theorem dX9_halvingLine_20 : decode cX9_halvingLine 20 = .ok (.iconst 5, 1) := by decide +kernel
theorem dX9_halvingLine_21 : decode cX9_halvingLine 21 = .ok (.isub, 1) := by decide +kernel
theorem dX9_halvingLine_22 : decode cX9_halvingLine 22 = .ok (.bipush 11, 2) := by decide +kernel
theorem dX9_halvingLine_24 : decode cX9_halvingLine 24 = .ok (.iadd, 1) := by decide +kernel
theorem dX9_halvingLine_25 : decode cX9_halvingLine 25 = .ok (.istore_n 3, 1) := by decide +kernel
theorem dX9_halvingLine_26 : decode cX9_halvingLine 26 = .ok (.iload_n 0, 1) := by decide +kernel
theorem dX9_halvingLine_27 : decode cX9_halvingLine 27 = .ok (.iload_n 3, 1) := by decide +kernel
theorem dX9_halvingLine_28 : decode cX9_halvingLine 28 = .ok (.invokestatic 55, 3) := by decide +kernel
theorem dX9_halvingLine_31 : decode cX9_halvingLine 31 = .ok (.iload_n 0, 1) := by decide +kernel
theorem dX9_halvingLine_32 : decode cX9_halvingLine 32 = .ok (.iload_n 1, 1) := by decide +kernel
theorem dX9_halvingLine_33 : decode cX9_halvingLine 33 = .ok (.invokestatic 55, 3) := by decide +kernel
theorem dX9_halvingLine_36 : decode cX9_halvingLine 36 = .ok (.if_icmp .ge 5, 3) := by decide +kernel
theorem dX9_halvingLine_39 : decode cX9_halvingLine 39 = .ok (.iload_n 3, 1) := by decide +kernel
theorem dX9_halvingLine_40 : decode cX9_halvingLine 40 = .ok (.istore_n 1, 1) := by decide +kernel
theorem dX9_halvingLine_41 : decode cX9_halvingLine 41 = .ok (.iinc 2 1, 3) := by decide +kernel
theorem dX9_halvingLine_44 : decode cX9_halvingLine 44 = .ok (.goto (-40), 3) := by decide +kernel
theorem dX9_halvingLine_47 : decode cX9_halvingLine 47 = .ok (.iload_n 1, 1) := by decide +kernel
theorem dX9_halvingLine_48 : decode cX9_halvingLine 48 = .ok (.ireturn, 1) := by decide +kernel
theorem w_X9_halvingLine_25 {l : Launch} {D : zDD} {b : Nat} {γ : zGm} (x0 x1 x2 y0 : Int32) (σ : zSg) (τ : zLm) {Q : Int32 → zSg → zLm → Prop} (h : SI l D b M_X9_greaterHalf 1 γ [.int x0, .int y0] σ τ (fun r1 σ1 τ1 => SI l D b M_X9_greaterHalf 1 γ [.int x0, .int x1] σ1 τ1 (fun r2 σ2 τ2 => (r2 ≤ r1 → AI l D b M_X9_halvingLine 2 γ Q 4 [(0, .int x0), (1, .int x1), (2, .int (x2 + 1))] [] γ σ2 τ2) ∧ (¬ r2 ≤ r1 → AI l D b M_X9_halvingLine 2 γ Q 4 [(0, .int x0), (1, .int y0), (2, .int (x2 + 1))] [] γ σ2 τ2)))) : AI l D b M_X9_halvingLine 2 γ Q 25 [(0, .int x0), (1, .int x1), (2, .int x2)] [.int y0] γ σ τ := by
  refine r_istore_n dX9_halvingLine_25 rfl (by decide) rfl ?_
  refine r_iload_n 1 dX9_halvingLine_26 rfl rfl ?_
  refine r_iload_n 0 dX9_halvingLine_27 rfl rfl ?_
  refine rc_SI (h' := 1) [.int x0, .int y0] oks_X9_greaterHalf tw_745 rfl rfl (Nat.le_of_ble_eq_true rfl) dX9_halvingLine_28 (by decide) h (fun r1 σ1 τ1 h => ?_)
  refine r_iload_n 1 dX9_halvingLine_31 rfl rfl ?_
  refine r_iload_n 2 dX9_halvingLine_32 rfl rfl ?_
  refine rc_SI (h' := 1) [.int x0, .int x1] oks_X9_greaterHalf tw_745 rfl rfl (Nat.le_of_ble_eq_true rfl) dX9_halvingLine_33 (by decide) h (fun r2 σ2 τ2 h => ?_)
  refine r_icmp_ge (tgt := 41) dX9_halvingLine_36 (by decide) (fun c3 => ?_) (fun c3 => ?_)
  · replace h := h.1 c3
    refine r_inc 3 dX9_halvingLine_41 rfl ci_1 (by decide) rfl ?_
    refine r_goto (tgt := 4) dX9_halvingLine_44 (by decide) ?_
    refine r_lv [2, 3, 0] rfl ?_
    exact h
  · replace h := h.2 c3
    refine r_iload_n 0 dX9_halvingLine_39 rfl rfl ?_
    refine r_istore_n dX9_halvingLine_40 rfl (by decide) rfl ?_
    refine r_inc 3 dX9_halvingLine_41 rfl ci_1 (by decide) rfl ?_
    refine r_goto (tgt := 4) dX9_halvingLine_44 (by decide) ?_
    refine r_lv [3, 1, 0] rfl ?_
    exact h

theorem w_X9_halvingLine_4 {l : Launch} {D : zDD} {b : Nat} {γ : zGm} (x0 x1 x2 : Int32) (σ : zSg) (τ : zLm) {Q : Int32 → zSg → zLm → Prop} (h : (9 ≤ x2 → Q x1 σ τ) ∧ (¬ 9 ≤ x2 → ((5 ≤ x2 → AI l D b M_X9_halvingLine 2 γ Q 25 [(0, .int x0), (1, .int x1), (2, .int x2)] [.int ((x2 - 5) + 11)] γ σ τ) ∧ (¬ 5 ≤ x2 → AI l D b M_X9_halvingLine 2 γ Q 25 [(0, .int x0), (1, .int x1), (2, .int x2)] [.int x2] γ σ τ)))) : AI l D b M_X9_halvingLine 2 γ Q 4 [(0, .int x0), (1, .int x1), (2, .int x2)] [] γ σ τ := by
  refine r_iload_n 2 dX9_halvingLine_4 rfl rfl ?_
  refine r_bipush dX9_halvingLine_5 cb_9 ?_
  refine r_icmp_ge (tgt := 47) dX9_halvingLine_7 (by decide) (fun c1 => ?_) (fun c1 => ?_)
  · replace h := h.1 c1
    refine r_iload_n 1 dX9_halvingLine_47 rfl rfl ?_
    exact r_iret rfl (Nat.le_refl _) (Nat.le_refl _) dX9_halvingLine_48 ⟨rfl, rfl, rfl, _, rfl, h⟩
  · replace h := h.2 c1
    refine r_iload_n 2 dX9_halvingLine_10 rfl rfl ?_
    refine r_iconst dX9_halvingLine_11 ci_5 ?_
    refine r_icmp_ge (tgt := 19) dX9_halvingLine_12 (by decide) (fun c2 => ?_) (fun c2 => ?_)
    · replace h := h.1 c2
      refine r_iload_n 2 dX9_halvingLine_19 rfl rfl ?_
      refine r_iconst dX9_halvingLine_20 ci_5 ?_
      refine r_isub dX9_halvingLine_21 ?_
      refine r_bipush dX9_halvingLine_22 cb_11 ?_
      refine r_iadd dX9_halvingLine_24 ?_
      exact h
    · replace h := h.2 c2
      refine r_iload_n 2 dX9_halvingLine_15 rfl rfl ?_
      refine r_goto (tgt := 25) dX9_halvingLine_16 (by decide) ?_
      exact h

theorem w_X9_halvingLine_0 {l : Launch} {D : zDD} {b : Nat} {γ : zGm} (p1 : Int32) (σ : zSg) (τ : zLm) {Q : Int32 → zSg → zLm → Prop} (h : AI l D b M_X9_halvingLine 2 γ Q 4 [(0, .int p1), (1, .int 1), (2, .int 2)] [] γ σ τ) : AI l D b M_X9_halvingLine 2 γ Q 0 [(0, .int p1)] [] γ σ τ := by
  refine r_iconst dX9_halvingLine_0 ci_1 ?_
  refine r_istore_n dX9_halvingLine_1 rfl (by decide) rfl ?_
  refine r_iconst dX9_halvingLine_2 ci_2 ?_
  refine r_istore_n dX9_halvingLine_3 rfl (by decide) rfl ?_
  refine r_lv [2, 1, 0] rfl ?_
  exact h
theorem s_X9_halvingLine {l : Launch} {D : zDD} {b : Nat} {γ : zGm} (p1 : Int32) (σ : zSg) (τ : zLm) {Q : Int32 → zSg → zLm → Prop} (h : AI l D b M_X9_halvingLine 2 γ Q 4 [(0, .int p1), (1, .int 1), (2, .int 2)] [] γ σ τ) : SI l D b M_X9_halvingLine 2 γ [.int p1] σ τ Q := zS.of (by decide) (Nat.le_of_ble_eq_true rfl) rfl (w_X9_halvingLine_0 p1 σ τ h)

