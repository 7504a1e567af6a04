theorem dX6_isThere_0 : decode cX6_isThere 0 = .ok (.aload_n 0, 1) := by decide +kernel
theorem dX6_isThere_1 : decode cX6_isThere 1 = .ok (.getfield 24, 3) := by decide +kernel
theorem dX6_isThere_4 : decode cX6_isThere 4 = .ok (.ifCond .le 7, 3) := by decide +kernel
theorem dX6_isThere_7 : decode cX6_isThere 7 = .ok (.iconst 1, 1) := by decide +kernel
theorem dX6_isThere_8 : decode cX6_isThere 8 = .ok (.goto 4, 3) := by decide +kernel
theorem dX6_isThere_11 : decode cX6_isThere 11 = .ok (.iconst 0, 1) := by decide +kernel
theorem dX6_isThere_12 : decode cX6_isThere 12 = .ok (.ireturn, 1) := by decide +kernel
theorem w_X6_isThere_3_0 {l : Launch} {D : zDD} {b : Nat} (σ : zSg) (τ : zLm) {Q : Int32 → zSg → zLm → Prop} (h : ((σ 3 0) ≤ 0 → Q 0 σ τ) ∧ (¬ (σ 3 0) ≤ 0 → Q 1 σ τ)) : AI l D b M_X6_isThere 0 G0 Q 0 [(0, .ref (b + 3))] [] G0 σ τ := by
  refine r_aload_n 0 dX6_isThere_0 rfl rfl ?_
  refine r_getI (j := 0) (by decide) (congrArg Prod.fst k0_3) c12_6 (by decide) rfl tw_56 dX6_isThere_1 ?_
  refine r_if_le (tgt := 11) dX6_isThere_4 (by decide) (fun c1 => ?_) (fun c1 => ?_)
  · replace h := h.1 c1
    refine r_iconst dX6_isThere_11 ci_0 ?_
    exact r_zret rfl (Nat.le_refl _) (Nat.le_refl _) dX6_isThere_12 (Or.inl rfl) ⟨rfl, rfl, rfl, _, rfl, h⟩
  · replace h := h.2 c1
    refine r_iconst dX6_isThere_7 ci_1 ?_
    refine r_goto (tgt := 12) dX6_isThere_8 (by decide) ?_
    exact r_zret rfl (Nat.le_refl _) (Nat.le_refl _) dX6_isThere_12 (Or.inr rfl) ⟨rfl, rfl, rfl, _, rfl, h⟩
theorem s_X6_isThere_3 {l : Launch} {D : zDD} {b : Nat} (σ : zSg) (τ : zLm) {Q : Int32 → zSg → zLm → Prop} (h : ((σ 3 0) ≤ 0 → Q 0 σ τ) ∧ (¬ (σ 3 0) ≤ 0 → Q 1 σ τ)) : SI l D b M_X6_isThere 0 G0 [.ref (b + 3)] σ τ Q := zS.of (by decide) (Nat.le_of_ble_eq_true rfl) rfl (w_X6_isThere_3_0 σ τ h)

theorem w_X6_isThere_8_0 {l : Launch} {D : zDD} {b : Nat} (σ : zSg) (τ : zLm) {Q : Int32 → zSg → zLm → Prop} (h : ((σ 9 0) ≤ 0 → Q 0 σ τ) ∧ (¬ (σ 9 0) ≤ 0 → Q 1 σ τ)) : AI l D b M_X6_isThere 0 G0 Q 0 [(0, .ref (b + 9))] [] G0 σ τ := by
  refine r_aload_n 0 dX6_isThere_0 rfl rfl ?_
  refine r_getI (j := 0) (by decide) (congrArg Prod.fst k0_9) c12_6 (by decide) rfl tw_56 dX6_isThere_1 ?_
  refine r_if_le (tgt := 11) dX6_isThere_4 (by decide) (fun c1 => ?_) (fun c1 => ?_)
  · replace h := h.1 c1
    refine r_iconst dX6_isThere_11 ci_0 ?_
    exact r_zret rfl (Nat.le_refl _) (Nat.le_refl _) dX6_isThere_12 (Or.inl rfl) ⟨rfl, rfl, rfl, _, rfl, h⟩
  · replace h := h.2 c1
    refine r_iconst dX6_isThere_7 ci_1 ?_
    refine r_goto (tgt := 12) dX6_isThere_8 (by decide) ?_
    exact r_zret rfl (Nat.le_refl _) (Nat.le_refl _) dX6_isThere_12 (Or.inr rfl) ⟨rfl, rfl, rfl, _, rfl, h⟩
theorem s_X6_isThere_8 {l : Launch} {D : zDD} {b : Nat} (σ : zSg) (τ : zLm) {Q : Int32 → zSg → zLm → Prop} (h : ((σ 9 0) ≤ 0 → Q 0 σ τ) ∧ (¬ (σ 9 0) ≤ 0 → Q 1 σ τ)) : SI l D b M_X6_isThere 0 G0 [.ref (b + 9)] σ τ Q := zS.of (by decide) (Nat.le_of_ble_eq_true rfl) rfl (w_X6_isThere_8_0 σ τ h)

theorem dX6_hasTrouble_0 : decode cX6_hasTrouble 0 = .ok (.iload_n 1, 1) := by decide +kernel
theorem dX6_hasTrouble_1 : decode cX6_hasTrouble 1 = .ok (.ifCond .lt 15, 3) := by decide +kernel
theorem dX6_hasTrouble_4 : decode cX6_hasTrouble 4 = .ok (.iload_n 1, 1) := by decide +kernel
theorem dX6_hasTrouble_5 : decode cX6_hasTrouble 5 = .ok (.aload_n 0, 1) := by decide +kernel
theorem dX6_hasTrouble_6 : decode cX6_hasTrouble 6 = .ok (.getfield 28, 3) := by decide +kernel
theorem dX6_hasTrouble_9 : decode cX6_hasTrouble 9 = .ok (.if_icmp .ge 7, 3) := by decide +kernel
theorem dX6_hasTrouble_12 : decode cX6_hasTrouble 12 = .ok (.iconst 1, 1) := by decide +kernel
theorem dX6_hasTrouble_13 : decode cX6_hasTrouble 13 = .ok (.goto 4, 3) := by decide +kernel
theorem dX6_hasTrouble_16 : decode cX6_hasTrouble 16 = .ok (.iconst 0, 1) := by decide +kernel
theorem dX6_hasTrouble_17 : decode cX6_hasTrouble 17 = .ok (.ireturn, 1) := by decide +kernel
theorem w_X6_hasTrouble_0 {l : Launch} {D : zDD} {b : Nat} (p1 : Int32) (σ : zSg) (τ : zLm) {Q : Int32 → zSg → zLm → Prop} (h : (p1 < 0 → Q 0 σ τ) ∧ (¬ p1 < 0 → (((σ 9 2) ≤ p1 → Q 0 σ τ) ∧ (¬ (σ 9 2) ≤ p1 → Q 1 σ τ)))) : AI l D b M_X6_hasTrouble 0 G0 Q 0 [(0, .ref (b + 9)), (1, .int p1)] [] G0 σ τ := by
  refine r_iload_n 1 dX6_hasTrouble_0 rfl rfl ?_
  refine r_if_lt (tgt := 16) dX6_hasTrouble_1 (by decide) (fun c1 => ?_) (fun c1 => ?_)
  · replace h := h.1 c1
    refine r_iconst dX6_hasTrouble_16 ci_0 ?_
    exact r_zret rfl (Nat.le_refl _) (Nat.le_refl _) dX6_hasTrouble_17 (Or.inl rfl) ⟨rfl, rfl, rfl, _, rfl, h⟩
  · replace h := h.2 c1
    refine r_iload_n 1 dX6_hasTrouble_4 rfl rfl ?_
    refine r_aload_n 0 dX6_hasTrouble_5 rfl rfl ?_
    refine r_getI (j := 2) (by decide) (congrArg Prod.fst k0_9) c12_6 (by decide) rfl tw_65 dX6_hasTrouble_6 ?_
    refine r_icmp_ge (tgt := 16) dX6_hasTrouble_9 (by decide) (fun c2 => ?_) (fun c2 => ?_)
    · replace h := h.1 c2
      refine r_iconst dX6_hasTrouble_16 ci_0 ?_
      exact r_zret rfl (Nat.le_refl _) (Nat.le_refl _) dX6_hasTrouble_17 (Or.inl rfl) ⟨rfl, rfl, rfl, _, rfl, h⟩
    · replace h := h.2 c2
      refine r_iconst dX6_hasTrouble_12 ci_1 ?_
      refine r_goto (tgt := 17) dX6_hasTrouble_13 (by decide) ?_
      exact r_zret rfl (Nat.le_refl _) (Nat.le_refl _) dX6_hasTrouble_17 (Or.inr rfl) ⟨rfl, rfl, rfl, _, rfl, h⟩
theorem s_X6_hasTrouble {l : Launch} {D : zDD} {b : Nat} (p1 : Int32) (σ : zSg) (τ : zLm) {Q : Int32 → zSg → zLm → Prop} (h : (p1 < 0 → Q 0 σ τ) ∧ (¬ p1 < 0 → (((σ 9 2) ≤ p1 → Q 0 σ τ) ∧ (¬ (σ 9 2) ≤ p1 → Q 1 σ τ)))) : SI l D b M_X6_hasTrouble 0 G0 [.ref (b + 9), .int p1] σ τ Q := zS.of (by decide) (Nat.le_of_ble_eq_true rfl) rfl (w_X6_hasTrouble_0 p1 σ τ h)

theorem dX6_hasEater_0 : decode cX6_hasEater 0 = .ok (.iload_n 1, 1) := by decide +kernel
theorem dX6_hasEater_1 : decode cX6_hasEater 1 = .ok (.ifCond .lt 15, 3) := by decide +kernel
theorem dX6_hasEater_4 : decode cX6_hasEater 4 = .ok (.iload_n 1, 1) := by decide +kernel
theorem dX6_hasEater_5 : decode cX6_hasEater 5 = .ok (.aload_n 0, 1) := by decide +kernel
theorem dX6_hasEater_6 : decode cX6_hasEater 6 = .ok (.getfield 31, 3) := by decide +kernel
theorem dX6_hasEater_9 : decode cX6_hasEater 9 = .ok (.if_icmp .ge 7, 3) := by decide +kernel
theorem dX6_hasEater_12 : decode cX6_hasEater 12 = .ok (.iconst 1, 1) := by decide +kernel
theorem dX6_hasEater_13 : decode cX6_hasEater 13 = .ok (.goto 4, 3) := by decide +kernel
theorem dX6_hasEater_16 : decode cX6_hasEater 16 = .ok (.iconst 0, 1) := by decide +kernel
theorem dX6_hasEater_17 : decode cX6_hasEater 17 = .ok (.ireturn, 1) := by decide +kernel
theorem w_X6_hasEater_0 {l : Launch} {D : zDD} {b : Nat} (p1 : Int32) (σ : zSg) (τ : zLm) {Q : Int32 → zSg → zLm → Prop} (h : (p1 < 0 → Q 0 σ τ) ∧ (¬ p1 < 0 → (((σ 9 3) ≤ p1 → Q 0 σ τ) ∧ (¬ (σ 9 3) ≤ p1 → Q 1 σ τ)))) : AI l D b M_X6_hasEater 0 G0 Q 0 [(0, .ref (b + 9)), (1, .int p1)] [] G0 σ τ := by
  refine r_iload_n 1 dX6_hasEater_0 rfl rfl ?_
  refine r_if_lt (tgt := 16) dX6_hasEater_1 (by decide) (fun c1 => ?_) (fun c1 => ?_)
  · replace h := h.1 c1
    refine r_iconst dX6_hasEater_16 ci_0 ?_
    exact r_zret rfl (Nat.le_refl _) (Nat.le_refl _) dX6_hasEater_17 (Or.inl rfl) ⟨rfl, rfl, rfl, _, rfl, h⟩
  · replace h := h.2 c1
    refine r_iload_n 1 dX6_hasEater_4 rfl rfl ?_
    refine r_aload_n 0 dX6_hasEater_5 rfl rfl ?_
    refine r_getI (j := 3) (by decide) (congrArg Prod.fst k0_9) c12_6 (by decide) rfl tw_69 dX6_hasEater_6 ?_
    refine r_icmp_ge (tgt := 16) dX6_hasEater_9 (by decide) (fun c2 => ?_) (fun c2 => ?_)
    · replace h := h.1 c2
      refine r_iconst dX6_hasEater_16 ci_0 ?_
      exact r_zret rfl (Nat.le_refl _) (Nat.le_refl _) dX6_hasEater_17 (Or.inl rfl) ⟨rfl, rfl, rfl, _, rfl, h⟩
    · replace h := h.2 c2
      refine r_iconst dX6_hasEater_12 ci_1 ?_
      refine r_goto (tgt := 17) dX6_hasEater_13 (by decide) ?_
      exact r_zret rfl (Nat.le_refl _) (Nat.le_refl _) dX6_hasEater_17 (Or.inr rfl) ⟨rfl, rfl, rfl, _, rfl, h⟩
theorem s_X6_hasEater {l : Launch} {D : zDD} {b : Nat} (p1 : Int32) (σ : zSg) (τ : zLm) {Q : Int32 → zSg → zLm → Prop} (h : (p1 < 0 → Q 0 σ τ) ∧ (¬ p1 < 0 → (((σ 9 3) ≤ p1 → Q 0 σ τ) ∧ (¬ (σ 9 3) ≤ p1 → Q 1 σ τ)))) : SI l D b M_X6_hasEater 0 G0 [.ref (b + 9), .int p1] σ τ Q := zS.of (by decide) (Nat.le_of_ble_eq_true rfl) rfl (w_X6_hasEater_0 p1 σ τ h)

theorem dX6_allTroubles_0 : decode cX6_allTroubles 0 = .ok (.iconst 1, 1) := by decide +kernel
theorem dX6_allTroubles_1 : decode cX6_allTroubles 1 = .ok (.aload_n 0, 1) := by decide +kernel
theorem dX6_allTroubles_2 : decode cX6_allTroubles 2 = .ok (.getfield 28, 3) := by decide +kernel
theorem dX6_allTroubles_5 : decode cX6_allTroubles 5 = .ok (.ishl, 1) := by decide +kernel
theorem dX6_allTroubles_6 : decode cX6_allTroubles 6 = .ok (.iconst 1, 1) := by decide +kernel
theorem dX6_allTroubles_7 : decode cX6_allTroubles 7 = .ok (.isub, 1) := by decide +kernel
theorem dX6_allTroubles_8 : decode cX6_allTroubles 8 = .ok (.ireturn, 1) := by decide +kernel
theorem w_X6_allTroubles_0 {l : Launch} {D : zDD} {b : Nat} (σ : zSg) (τ : zLm) {Q : Int32 → zSg → zLm → Prop} (h : Q (((1 : Int32) <<< ((σ 9 2) &&& 31)) - 1) σ τ) : AI l D b M_X6_allTroubles 0 G0 Q 0 [(0, .ref (b + 9))] [] G0 σ τ := by
  refine r_iconst dX6_allTroubles_0 ci_1 ?_
  refine r_aload_n 0 dX6_allTroubles_1 rfl rfl ?_
  refine r_getI (j := 2) (by decide) (congrArg Prod.fst k0_9) c12_6 (by decide) rfl tw_65 dX6_allTroubles_2 ?_
  refine r_ishl dX6_allTroubles_5 ?_
  refine r_iconst dX6_allTroubles_6 ci_1 ?_
  refine r_isub dX6_allTroubles_7 ?_
  exact r_iret rfl (Nat.le_refl _) (Nat.le_refl _) dX6_allTroubles_8 ⟨rfl, rfl, rfl, _, rfl, h⟩
theorem s_X6_allTroubles {l : Launch} {D : zDD} {b : Nat} (σ : zSg) (τ : zLm) {Q : Int32 → zSg → zLm → Prop} (h : Q (((1 : Int32) <<< ((σ 9 2) &&& 31)) - 1) σ τ) : SI l D b M_X6_allTroubles 0 G0 [.ref (b + 9)] σ τ Q := zS.of (by decide) (Nat.le_of_ble_eq_true rfl) rfl (w_X6_allTroubles_0 σ τ h)

theorem dX6_clear_0 : decode cX6_clear 0 = .ok (.aload_n 0, 1) := by decide +kernel
theorem dX6_clear_1 : decode cX6_clear 1 = .ok (.iconst 0, 1) := by decide +kernel
theorem dX6_clear_2 : decode cX6_clear 2 = .ok (.putfield 24, 3) := by decide +kernel
theorem dX6_clear_5 : decode cX6_clear 5 = .ok (.aload_n 0, 1) := by decide +kernel
theorem dX6_clear_6 : decode cX6_clear 6 = .ok (.iconst 0, 1) := by decide +kernel
theorem dX6_clear_7 : decode cX6_clear 7 = .ok (.putfield 34, 3) := by decide +kernel
theorem dX6_clear_10 : decode cX6_clear 10 = .ok (.aload_n 0, 1) := by decide +kernel
theorem dX6_clear_11 : decode cX6_clear 11 = .ok (.iconst 0, 1) := by decide +kernel
theorem dX6_clear_12 : decode cX6_clear 12 = .ok (.putfield 28, 3) := by decide +kernel
theorem dX6_clear_15 : decode cX6_clear 15 = .ok (.aload_n 0, 1) := by decide +kernel
theorem dX6_clear_16 : decode cX6_clear 16 = .ok (.iconst 0, 1) := by decide +kernel
theorem dX6_clear_17 : decode cX6_clear 17 = .ok (.putfield 31, 3) := by decide +kernel
theorem dX6_clear_20 : decode cX6_clear 20 = .ok (.return_, 1) := by decide +kernel
theorem w_X6_clear_0 {l : Launch} {D : zDD} {b : Nat} (σ : zSg) (τ : zLm) {Q : zSg → zLm → Prop} (h : Q (st2 (st2 (st2 (st2 σ 3 0 0) 3 1 0) 3 2 0) 3 3 0) τ) : AV l D b M_X6_clear 0 G0 Q 0 [(0, .ref (b + 3))] [] G0 σ τ := by
  refine r_aload_n 0 dX6_clear_0 rfl rfl ?_
  refine r_iconst dX6_clear_1 ci_0 ?_
  refine r_putI (j := 0) (by decide) (congrArg Prod.fst k0_3) c12_6 (by decide) rfl (Or.inl rfl) tw_56 dX6_clear_2 ?_
  refine r_aload_n 0 dX6_clear_5 rfl rfl ?_
  refine r_iconst dX6_clear_6 ci_0 ?_
  refine r_putI (j := 1) (by decide) (congrArg Prod.fst k0_3) c12_6 (by decide) rfl (Or.inl rfl) tw_62 dX6_clear_7 ?_
  refine r_aload_n 0 dX6_clear_10 rfl rfl ?_
  refine r_iconst dX6_clear_11 ci_0 ?_
  refine r_putI (j := 2) (by decide) (congrArg Prod.fst k0_3) c12_6 (by decide) rfl (Or.inl rfl) tw_65 dX6_clear_12 ?_
  refine r_aload_n 0 dX6_clear_15 rfl rfl ?_
  refine r_iconst dX6_clear_16 ci_0 ?_
  refine r_putI (j := 3) (by decide) (congrArg Prod.fst k0_3) c12_6 (by decide) rfl (Or.inl rfl) tw_69 dX6_clear_17 ?_
  exact r_vret rfl (Nat.le_refl _) (Nat.le_refl _) dX6_clear_20 ⟨rfl, rfl, rfl, rfl, h⟩
theorem s_X6_clear {l : Launch} {D : zDD} {b : Nat} (σ : zSg) (τ : zLm) {Q : zSg → zLm → Prop} (h : Q (st2 (st2 (st2 (st2 σ 3 0 0) 3 1 0) 3 2 0) 3 3 0) τ) : SV l D b M_X6_clear 0 G0 [.ref (b + 3)] σ τ Q := zS.of (by decide) (Nat.le_of_ble_eq_true rfl) rfl (w_X6_clear_0 σ τ h)

theorem dX6_addTrouble_0 : decode cX6_addTrouble 0 = .ok (.aload_n 0, 1) := by decide +kernel
theorem dX6_addTrouble_1 : decode cX6_addTrouble 1 = .ok (.getfield 28, 3) := by decide +kernel
theorem dX6_addTrouble_4 : decode cX6_addTrouble 4 = .ok (.bipush 6, 2) := by decide +kernel
theorem dX6_addTrouble_6 : decode cX6_addTrouble 6 = .ok (.if_icmp .ge 43, 3) := by decide +kernel
theorem dX6_addTrouble_9 : decode cX6_addTrouble 9 = .ok (.aload_n 0, 1) := by decide +kernel
theorem dX6_addTrouble_10 : decode cX6_addTrouble 10 = .ok (.getfield 9, 3) := by decide +kernel
theorem dX6_addTrouble_13 : decode cX6_addTrouble 13 = .ok (.aload_n 0, 1) := by decide +kernel
theorem dX6_addTrouble_14 : decode cX6_addTrouble 14 = .ok (.getfield 28, 3) := by decide +kernel
theorem dX6_addTrouble_17 : decode cX6_addTrouble 17 = .ok (.iload_n 1, 1) := by decide +kernel
theorem dX6_addTrouble_18 : decode cX6_addTrouble 18 = .ok (.iastore, 1) := by decide +kernel
theorem dX6_addTrouble_19 : decode cX6_addTrouble 19 = .ok (.aload_n 0, 1) := by decide +kernel
theorem dX6_addTrouble_20 : decode cX6_addTrouble 20 = .ok (.getfield 15, 3) := by decide +kernel
theorem dX6_addTrouble_23 : decode cX6_addTrouble 23 = .ok (.aload_n 0, 1) := by decide +kernel
theorem dX6_addTrouble_24 : decode cX6_addTrouble 24 = .ok (.getfield 28, 3) := by decide +kernel
theorem dX6_addTrouble_27 : decode cX6_addTrouble 27 = .ok (.iload_n 2, 1) := by decide +kernel
theorem dX6_addTrouble_28 : decode cX6_addTrouble 28 = .ok (.iastore, 1) := by decide +kernel
theorem dX6_addTrouble_29 : decode cX6_addTrouble 29 = .ok (.aload_n 0, 1) := by decide +kernel
theorem dX6_addTrouble_30 : decode cX6_addTrouble 30 = .ok (.getfield 18, 3) := by decide +kernel
theorem dX6_addTrouble_33 : decode cX6_addTrouble 33 = .ok (.aload_n 0, 1) := by decide +kernel
theorem dX6_addTrouble_34 : decode cX6_addTrouble 34 = .ok (.getfield 28, 3) := by decide +kernel
theorem dX6_addTrouble_37 : decode cX6_addTrouble 37 = .ok (.iload_n 3, 1) := by decide +kernel
theorem dX6_addTrouble_38 : decode cX6_addTrouble 38 = .ok (.iastore, 1) := by decide +kernel
theorem dX6_addTrouble_39 : decode cX6_addTrouble 39 = .ok (.aload_n 0, 1) := by decide +kernel
theorem dX6_addTrouble_40 : decode cX6_addTrouble 40 = .ok (.dup, 1) := by decide +kernel
theorem dX6_addTrouble_41 : decode cX6_addTrouble 41 = .ok (.getfield 28, 3) := by decide +kernel
theorem dX6_addTrouble_44 : decode cX6_addTrouble 44 = .ok (.iconst 1, 1) := by decide +kernel
theorem dX6_addTrouble_45 : decode cX6_addTrouble 45 = .ok (.iadd, 1) := by decide +kernel
theorem dX6_addTrouble_46 : decode cX6_addTrouble 46 = .ok (.putfield 28, 3) := by decide +kernel
theorem dX6_addTrouble_49 : decode cX6_addTrouble 49 = .ok (.return_, 1) := by decide +kernel
theorem w_X6_addTrouble_0 {l : Launch} {D : zDD} {b : Nat} (p1 p2 p3 : Int32) (σ : zSg) (τ : zLm) {Q : zSg → zLm → Prop} (h : (6 ≤ (σ 3 2) → Q σ τ) ∧ (¬ 6 ≤ (σ 3 2) → (vp_in (σ 3 2) 6 ∧ (vp_in ((st2 σ 4 ((σ 3 2).toNatClampNeg) p1) 3 2) 6 ∧ (vp_in ((st2 (st2 σ 4 ((σ 3 2).toNatClampNeg) p1) 5 (((st2 σ 4 ((σ 3 2).toNatClampNeg) p1) 3 2).toNatClampNeg) p2) 3 2) 6 ∧ (∀ σ2 : zSg, σ2 = st2 (st2 (st2 σ 4 ((σ 3 2).toNatClampNeg) p1) 5 (((st2 σ 4 ((σ 3 2).toNatClampNeg) p1) 3 2).toNatClampNeg) p2) 6 (((st2 (st2 σ 4 ((σ 3 2).toNatClampNeg) p1) 5 (((st2 σ 4 ((σ 3 2).toNatClampNeg) p1) 3 2).toNatClampNeg) p2) 3 2).toNatClampNeg) p3 → Q (st2 σ2 3 2 ((σ2 3 2) + 1)) τ)))))) : AV l D b M_X6_addTrouble 0 G0 Q 0 [(0, .ref (b + 3)), (1, .int p1), (2, .int p2), (3, .int p3)] [] G0 σ τ := by
  refine r_aload_n 0 dX6_addTrouble_0 rfl rfl ?_
  refine r_getI (j := 2) (by decide) (congrArg Prod.fst k0_3) c12_6 (by decide) rfl tw_65 dX6_addTrouble_1 ?_
  refine r_bipush dX6_addTrouble_4 cb_6 ?_
  refine r_icmp_ge (tgt := 49) dX6_addTrouble_6 (by decide) (fun c1 => ?_) (fun c1 => ?_)
  · replace h := h.1 c1
    exact r_vret rfl (Nat.le_refl _) (Nat.le_refl _) dX6_addTrouble_49 ⟨rfl, rfl, rfl, rfl, h⟩
  · replace h := h.2 c1
    refine r_aload_n 0 dX6_addTrouble_9 rfl rfl ?_
    refine r_getR (j := 4) (by decide) (congrArg Prod.fst k0_3) c12_6 (by decide) rfl g0_3_4 tw_73 dX6_addTrouble_10 ?_
    refine r_aload_n 0 dX6_addTrouble_13 rfl rfl ?_
    refine r_getI (j := 2) (by decide) (congrArg Prod.fst k0_3) c12_6 (by decide) rfl tw_65 dX6_addTrouble_14 ?_
    refine r_iload_n 1 dX6_addTrouble_17 rfl rfl ?_
    refine r_iast (by decide) k0_4 dX6_addTrouble_18 h.1 ?_
    replace h := h.2
    refine r_aload_n 0 dX6_addTrouble_19 rfl rfl ?_
    refine r_getR (j := 5) (by decide) (congrArg Prod.fst k0_3) c12_6 (by decide) rfl g0_3_5 tw_76 dX6_addTrouble_20 ?_
    refine r_aload_n 0 dX6_addTrouble_23 rfl rfl ?_
    refine r_getI (j := 2) (by decide) (congrArg Prod.fst k0_3) c12_6 (by decide) rfl tw_65 dX6_addTrouble_24 ?_
    refine r_iload_n 2 dX6_addTrouble_27 rfl rfl ?_
    refine r_iast (by decide) k0_5 dX6_addTrouble_28 h.1 ?_
    replace h := h.2
    refine r_aload_n 0 dX6_addTrouble_29 rfl rfl ?_
    refine r_getR (j := 6) (by decide) (congrArg Prod.fst k0_3) c12_6 (by decide) rfl g0_3_6 tw_78 dX6_addTrouble_30 ?_
    refine r_aload_n 0 dX6_addTrouble_33 rfl rfl ?_
    refine r_getI (j := 2) (by decide) (congrArg Prod.fst k0_3) c12_6 (by decide) rfl tw_65 dX6_addTrouble_34 ?_
    refine r_iload_n 3 dX6_addTrouble_37 rfl rfl ?_
    refine r_iast (by decide) k0_6 dX6_addTrouble_38 h.1 ?_
    replace h := h.2
    refine r_nmS (fun σ2 eσ2 => ?_)
    replace h := h σ2 eσ2
    refine r_aload_n 0 dX6_addTrouble_39 rfl rfl ?_
    refine r_dup dX6_addTrouble_40 rfl ?_
    refine r_getI (j := 2) (by decide) (congrArg Prod.fst k0_3) c12_6 (by decide) rfl tw_65 dX6_addTrouble_41 ?_
    refine r_iconst dX6_addTrouble_44 ci_1 ?_
    refine r_iadd dX6_addTrouble_45 ?_
    refine r_putI (j := 2) (by decide) (congrArg Prod.fst k0_3) c12_6 (by decide) rfl (Or.inl rfl) tw_65 dX6_addTrouble_46 ?_
    exact r_vret rfl (Nat.le_refl _) (Nat.le_refl _) dX6_addTrouble_49 ⟨rfl, rfl, rfl, rfl, h⟩
theorem s_X6_addTrouble {l : Launch} {D : zDD} {b : Nat} (p1 p2 p3 : Int32) (σ : zSg) (τ : zLm) {Q : zSg → zLm → Prop} (h : (6 ≤ (σ 3 2) → Q σ τ) ∧ (¬ 6 ≤ (σ 3 2) → (vp_in (σ 3 2) 6 ∧ (vp_in ((st2 σ 4 ((σ 3 2).toNatClampNeg) p1) 3 2) 6 ∧ (vp_in ((st2 (st2 σ 4 ((σ 3 2).toNatClampNeg) p1) 5 (((st2 σ 4 ((σ 3 2).toNatClampNeg) p1) 3 2).toNatClampNeg) p2) 3 2) 6 ∧ (∀ σ2 : zSg, σ2 = st2 (st2 (st2 σ 4 ((σ 3 2).toNatClampNeg) p1) 5 (((st2 σ 4 ((σ 3 2).toNatClampNeg) p1) 3 2).toNatClampNeg) p2) 6 (((st2 (st2 σ 4 ((σ 3 2).toNatClampNeg) p1) 5 (((st2 σ 4 ((σ 3 2).toNatClampNeg) p1) 3 2).toNatClampNeg) p2) 3 2).toNatClampNeg) p3 → Q (st2 σ2 3 2 ((σ2 3 2) + 1)) τ)))))) : SV l D b M_X6_addTrouble 0 G0 [.ref (b + 3), .int p1, .int p2, .int p3] σ τ Q := zS.of (by decide) (Nat.le_of_ble_eq_true rfl) rfl (w_X6_addTrouble_0 p1 p2 p3 σ τ h)

theorem dX6_addEater_0 : decode cX6_addEater 0 = .ok (.aload_n 0, 1) := by decide +kernel
theorem dX6_addEater_1 : decode cX6_addEater 1 = .ok (.getfield 31, 3) := by decide +kernel
theorem dX6_addEater_4 : decode cX6_addEater 4 = .ok (.bipush 6, 2) := by decide +kernel
theorem dX6_addEater_6 : decode cX6_addEater 6 = .ok (.if_icmp .ge 23, 3) := by decide +kernel
theorem dX6_addEater_9 : decode cX6_addEater 9 = .ok (.aload_n 0, 1) := by decide +kernel
theorem dX6_addEater_10 : decode cX6_addEater 10 = .ok (.getfield 21, 3) := by decide +kernel
theorem dX6_addEater_13 : decode cX6_addEater 13 = .ok (.aload_n 0, 1) := by decide +kernel
theorem dX6_addEater_14 : decode cX6_addEater 14 = .ok (.getfield 31, 3) := by decide +kernel
theorem dX6_addEater_17 : decode cX6_addEater 17 = .ok (.iload_n 1, 1) := by decide +kernel
theorem dX6_addEater_18 : decode cX6_addEater 18 = .ok (.iastore, 1) := by decide +kernel
theorem dX6_addEater_19 : decode cX6_addEater 19 = .ok (.aload_n 0, 1) := by decide +kernel
theorem dX6_addEater_20 : decode cX6_addEater 20 = .ok (.dup, 1) := by decide +kernel
theorem dX6_addEater_21 : decode cX6_addEater 21 = .ok (.getfield 31, 3) := by decide +kernel
theorem dX6_addEater_24 : decode cX6_addEater 24 = .ok (.iconst 1, 1) := by decide +kernel
theorem dX6_addEater_25 : decode cX6_addEater 25 = .ok (.iadd, 1) := by decide +kernel
theorem dX6_addEater_26 : decode cX6_addEater 26 = .ok (.putfield 31, 3) := by decide +kernel
theorem dX6_addEater_29 : decode cX6_addEater 29 = .ok (.return_, 1) := by decide +kernel
theorem w_X6_addEater_0 {l : Launch} {D : zDD} {b : Nat} (p1 : Int32) (σ : zSg) (τ : zLm) {Q : zSg → zLm → Prop} (h : (6 ≤ (σ 3 3) → Q σ τ) ∧ (¬ 6 ≤ (σ 3 3) → (vp_in (σ 3 3) 6 ∧ Q (st2 (st2 σ 7 ((σ 3 3).toNatClampNeg) p1) 3 3 (((st2 σ 7 ((σ 3 3).toNatClampNeg) p1) 3 3) + 1)) τ))) : AV l D b M_X6_addEater 0 G0 Q 0 [(0, .ref (b + 3)), (1, .int p1)] [] G0 σ τ := by
  refine r_aload_n 0 dX6_addEater_0 rfl rfl ?_
  refine r_getI (j := 3) (by decide) (congrArg Prod.fst k0_3) c12_6 (by decide) rfl tw_69 dX6_addEater_1 ?_
  refine r_bipush dX6_addEater_4 cb_6 ?_
  refine r_icmp_ge (tgt := 29) dX6_addEater_6 (by decide) (fun c1 => ?_) (fun c1 => ?_)
  · replace h := h.1 c1
    exact r_vret rfl (Nat.le_refl _) (Nat.le_refl _) dX6_addEater_29 ⟨rfl, rfl, rfl, rfl, h⟩
  · replace h := h.2 c1
    refine r_aload_n 0 dX6_addEater_9 rfl rfl ?_
    refine r_getR (j := 7) (by decide) (congrArg Prod.fst k0_3) c12_6 (by decide) rfl g0_3_7 tw_80 dX6_addEater_10 ?_
    refine r_aload_n 0 dX6_addEater_13 rfl rfl ?_
    refine r_getI (j := 3) (by decide) (congrArg Prod.fst k0_3) c12_6 (by decide) rfl tw_69 dX6_addEater_14 ?_
    refine r_iload_n 1 dX6_addEater_17 rfl rfl ?_
    refine r_iast (by decide) k0_7 dX6_addEater_18 h.1 ?_
    replace h := h.2
    refine r_aload_n 0 dX6_addEater_19 rfl rfl ?_
    refine r_dup dX6_addEater_20 rfl ?_
    refine r_getI (j := 3) (by decide) (congrArg Prod.fst k0_3) c12_6 (by decide) rfl tw_69 dX6_addEater_21 ?_
    refine r_iconst dX6_addEater_24 ci_1 ?_
    refine r_iadd dX6_addEater_25 ?_
    refine r_putI (j := 3) (by decide) (congrArg Prod.fst k0_3) c12_6 (by decide) rfl (Or.inl rfl) tw_69 dX6_addEater_26 ?_
    exact r_vret rfl (Nat.le_refl _) (Nat.le_refl _) dX6_addEater_29 ⟨rfl, rfl, rfl, rfl, h⟩
theorem s_X6_addEater {l : Launch} {D : zDD} {b : Nat} (p1 : Int32) (σ : zSg) (τ : zLm) {Q : zSg → zLm → Prop} (h : (6 ≤ (σ 3 3) → Q σ τ) ∧ (¬ 6 ≤ (σ 3 3) → (vp_in (σ 3 3) 6 ∧ Q (st2 (st2 σ 7 ((σ 3 3).toNatClampNeg) p1) 3 3 (((st2 σ 7 ((σ 3 3).toNatClampNeg) p1) 3 3) + 1)) τ))) : SV l D b M_X6_addEater 0 G0 [.ref (b + 3), .int p1] σ τ Q := zS.of (by decide) (Nat.le_of_ble_eq_true rfl) rfl (w_X6_addEater_0 p1 σ τ h)

theorem dX6_become_0 : decode cX6_become 0 = .ok (.aload_n 0, 1) := by decide +kernel
theorem dX6_become_1 : decode cX6_become 1 = .ok (.aload_n 1, 1) := by decide +kernel
theorem dX6_become_2 : decode cX6_become 2 = .ok (.getfield 24, 3) := by decide +kernel
theorem dX6_become_5 : decode cX6_become 5 = .ok (.putfield 24, 3) := by decide +kernel
theorem dX6_become_8 : decode cX6_become 8 = .ok (.aload_n 0, 1) := by decide +kernel
theorem dX6_become_9 : decode cX6_become 9 = .ok (.aload_n 1, 1) := by decide +kernel
theorem dX6_become_10 : decode cX6_become 10 = .ok (.getfield 34, 3) := by decide +kernel
theorem dX6_become_13 : decode cX6_become 13 = .ok (.putfield 34, 3) := by decide +kernel
theorem dX6_become_16 : decode cX6_become 16 = .ok (.aload_n 0, 1) := by decide +kernel
theorem dX6_become_17 : decode cX6_become 17 = .ok (.aload_n 1, 1) := by decide +kernel
theorem dX6_become_18 : decode cX6_become 18 = .ok (.getfield 28, 3) := by decide +kernel
theorem dX6_become_21 : decode cX6_become 21 = .ok (.putfield 28, 3) := by decide +kernel
theorem dX6_become_24 : decode cX6_become 24 = .ok (.aload_n 0, 1) := by decide +kernel
theorem dX6_become_25 : decode cX6_become 25 = .ok (.aload_n 1, 1) := by decide +kernel
theorem dX6_become_26 : decode cX6_become 26 = .ok (.getfield 31, 3) := by decide +kernel
theorem dX6_become_29 : decode cX6_become 29 = .ok (.putfield 31, 3) := by decide +kernel
theorem dX6_become_32 : decode cX6_become 32 = .ok (.aload_n 1, 1) := by decide +kernel
theorem dX6_become_33 : decode cX6_become 33 = .ok (.getfield 9, 3) := by decide +kernel
theorem dX6_become_36 : decode cX6_become 36 = .ok (.iconst 0, 1) := by decide +kernel
theorem dX6_become_37 : decode cX6_become 37 = .ok (.aload_n 0, 1) := by decide +kernel
theorem dX6_become_38 : decode cX6_become 38 = .ok (.getfield 9, 3) := by decide +kernel
theorem dX6_become_41 : decode cX6_become 41 = .ok (.iconst 0, 1) := by decide +kernel
theorem dX6_become_42 : decode cX6_become 42 = .ok (.bipush 6, 2) := by decide +kernel
theorem dX6_become_44 : decode cX6_become 44 = .ok (.invokestatic 37, 3) := by decide +kernel
theorem dX6_become_47 : decode cX6_become 47 = .ok (.aload_n 1, 1) := by decide +kernel
theorem dX6_become_48 : decode cX6_become 48 = .ok (.getfield 15, 3) := by decide +kernel
theorem dX6_become_51 : decode cX6_become 51 = .ok (.iconst 0, 1) := by decide +kernel
theorem dX6_become_52 : decode cX6_become 52 = .ok (.aload_n 0, 1) := by decide +kernel
theorem dX6_become_53 : decode cX6_become 53 = .ok (.getfield 15, 3) := by decide +kernel
theorem dX6_become_56 : decode cX6_become 56 = .ok (.iconst 0, 1) := by decide +kernel
theorem dX6_become_57 : decode cX6_become 57 = .ok (.bipush 6, 2) := by decide +kernel
theorem dX6_become_59 : decode cX6_become 59 = .ok (.invokestatic 37, 3) := by decide +kernel
theorem dX6_become_62 : decode cX6_become 62 = .ok (.aload_n 1, 1) := by decide +kernel
theorem dX6_become_63 : decode cX6_become 63 = .ok (.getfield 18, 3) := by decide +kernel
theorem dX6_become_66 : decode cX6_become 66 = .ok (.iconst 0, 1) := by decide +kernel
theorem dX6_become_67 : decode cX6_become 67 = .ok (.aload_n 0, 1) := by decide +kernel
theorem dX6_become_68 : decode cX6_become 68 = .ok (.getfield 18, 3) := by decide +kernel
theorem dX6_become_71 : decode cX6_become 71 = .ok (.iconst 0, 1) := by decide +kernel
theorem dX6_become_72 : decode cX6_become 72 = .ok (.bipush 6, 2) := by decide +kernel
theorem dX6_become_74 : decode cX6_become 74 = .ok (.invokestatic 37, 3) := by decide +kernel
theorem dX6_become_77 : decode cX6_become 77 = .ok (.aload_n 1, 1) := by decide +kernel
theorem dX6_become_78 : decode cX6_become 78 = .ok (.getfield 21, 3) := by decide +kernel
theorem dX6_become_81 : decode cX6_become 81 = .ok (.iconst 0, 1) := by decide +kernel
theorem dX6_become_82 : decode cX6_become 82 = .ok (.aload_n 0, 1) := by decide +kernel
theorem dX6_become_83 : decode cX6_become 83 = .ok (.getfield 21, 3) := by decide +kernel
theorem dX6_become_86 : decode cX6_become 86 = .ok (.iconst 0, 1) := by decide +kernel
theorem dX6_become_87 : decode cX6_become 87 = .ok (.bipush 6, 2) := by decide +kernel
theorem dX6_become_89 : decode cX6_become 89 = .ok (.invokestatic 37, 3) := by decide +kernel
theorem dX6_become_92 : decode cX6_become 92 = .ok (.return_, 1) := by decide +kernel
theorem w_X6_become_0 {l : Launch} {D : zDD} {b : Nat} (σ : zSg) (τ : zLm) {Q : zSg → zLm → Prop} (h : ∀ σ1 : zSg, σ1 = st2 (st2 (st2 σ 9 0 (σ 3 0)) 9 1 ((st2 σ 9 0 (σ 3 0)) 3 1)) 9 2 ((st2 (st2 σ 9 0 (σ 3 0)) 9 1 ((st2 σ 9 0 (σ 3 0)) 3 1)) 3 2) → ∀ σ2 : zSg, σ2 = va_up (st2 σ1 9 3 (σ1 3 3)) 10 (va_cpy ((st2 σ1 9 3 (σ1 3 3)) 4) ((st2 σ1 9 3 (σ1 3 3)) 10) 0 0 6) → ∀ σ3 : zSg, σ3 = va_up σ2 11 (va_cpy (σ2 5) (σ2 11) 0 0 6) → ∀ σ4 : zSg, σ4 = va_up σ3 12 (va_cpy (σ3 6) (σ3 12) 0 0 6) → ∀ σ5 : zSg, σ5 = va_up σ4 13 (va_cpy (σ4 7) (σ4 13) 0 0 6) → Q σ5 τ) : AV l D b M_X6_become 1 G0 Q 0 [(0, .ref (b + 9)), (1, .ref (b + 3))] [] G0 σ τ := by
  refine r_aload_n 0 dX6_become_0 rfl rfl ?_
  refine r_aload_n 1 dX6_become_1 rfl rfl ?_
  refine r_getI (j := 0) (by decide) (congrArg Prod.fst k0_3) c12_6 (by decide) rfl tw_56 dX6_become_2 ?_
  refine r_putI (j := 0) (by decide) (congrArg Prod.fst k0_9) c12_6 (by decide) rfl (Or.inl rfl) tw_56 dX6_become_5 ?_
  refine r_aload_n 0 dX6_become_8 rfl rfl ?_
  refine r_aload_n 1 dX6_become_9 rfl rfl ?_
  refine r_getI (j := 1) (by decide) (congrArg Prod.fst k0_3) c12_6 (by decide) rfl tw_62 dX6_become_10 ?_
  refine r_putI (j := 1) (by decide) (congrArg Prod.fst k0_9) c12_6 (by decide) rfl (Or.inl rfl) tw_62 dX6_become_13 ?_
  refine r_aload_n 0 dX6_become_16 rfl rfl ?_
  refine r_aload_n 1 dX6_become_17 rfl rfl ?_
  refine r_getI (j := 2) (by decide) (congrArg Prod.fst k0_3) c12_6 (by decide) rfl tw_65 dX6_become_18 ?_
  refine r_putI (j := 2) (by decide) (congrArg Prod.fst k0_9) c12_6 (by decide) rfl (Or.inl rfl) tw_65 dX6_become_21 ?_
  refine r_nmS (fun σ1 eσ1 => ?_)
  replace h := h σ1 eσ1
  refine r_aload_n 0 dX6_become_24 rfl rfl ?_
  refine r_aload_n 1 dX6_become_25 rfl rfl ?_
  refine r_getI (j := 3) (by decide) (congrArg Prod.fst k0_3) c12_6 (by decide) rfl tw_69 dX6_become_26 ?_
  refine r_putI (j := 3) (by decide) (congrArg Prod.fst k0_9) c12_6 (by decide) rfl (Or.inl rfl) tw_69 dX6_become_29 ?_
  refine r_aload_n 1 dX6_become_32 rfl rfl ?_
  refine r_getR (j := 4) (by decide) (congrArg Prod.fst k0_3) c12_6 (by decide) rfl g0_3_4 tw_73 dX6_become_33 ?_
  refine r_iconst dX6_become_36 ci_0 ?_
  refine r_aload_n 0 dX6_become_37 rfl rfl ?_
  refine r_getR (j := 4) (by decide) (congrArg Prod.fst k0_9) c12_6 (by decide) rfl g0_9_4 tw_73 dX6_become_38 ?_
  refine r_iconst dX6_become_41 ci_0 ?_
  refine r_bipush dX6_become_42 cb_6 ?_
  refine r_copy tw_401 tw_nat tw_stat tw_ini (by decide) (by decide) k0_4 k0_10 (by decide) (by decide) (by decide) (by decide) (by decide) (by decide) (Nat.le_of_ble_eq_true rfl) dX6_become_44 ?_
  refine r_nmS (fun σ2 eσ2 => ?_)
  replace h := h σ2 eσ2
  refine r_aload_n 1 dX6_become_47 rfl rfl ?_
  refine r_getR (j := 5) (by decide) (congrArg Prod.fst k0_3) c12_6 (by decide) rfl g0_3_5 tw_76 dX6_become_48 ?_
  refine r_iconst dX6_become_51 ci_0 ?_
  refine r_aload_n 0 dX6_become_52 rfl rfl ?_
  refine r_getR (j := 5) (by decide) (congrArg Prod.fst k0_9) c12_6 (by decide) rfl g0_9_5 tw_76 dX6_become_53 ?_
  refine r_iconst dX6_become_56 ci_0 ?_
  refine r_bipush dX6_become_57 cb_6 ?_
  refine r_copy tw_401 tw_nat tw_stat tw_ini (by decide) (by decide) k0_5 k0_11 (by decide) (by decide) (by decide) (by decide) (by decide) (by decide) (Nat.le_of_ble_eq_true rfl) dX6_become_59 ?_
  refine r_nmS (fun σ3 eσ3 => ?_)
  replace h := h σ3 eσ3
  refine r_aload_n 1 dX6_become_62 rfl rfl ?_
  refine r_getR (j := 6) (by decide) (congrArg Prod.fst k0_3) c12_6 (by decide) rfl g0_3_6 tw_78 dX6_become_63 ?_
  refine r_iconst dX6_become_66 ci_0 ?_
  refine r_aload_n 0 dX6_become_67 rfl rfl ?_
  refine r_getR (j := 6) (by decide) (congrArg Prod.fst k0_9) c12_6 (by decide) rfl g0_9_6 tw_78 dX6_become_68 ?_
  refine r_iconst dX6_become_71 ci_0 ?_
  refine r_bipush dX6_become_72 cb_6 ?_
  refine r_copy tw_401 tw_nat tw_stat tw_ini (by decide) (by decide) k0_6 k0_12 (by decide) (by decide) (by decide) (by decide) (by decide) (by decide) (Nat.le_of_ble_eq_true rfl) dX6_become_74 ?_
  refine r_nmS (fun σ4 eσ4 => ?_)
  replace h := h σ4 eσ4
  refine r_aload_n 1 dX6_become_77 rfl rfl ?_
  refine r_getR (j := 7) (by decide) (congrArg Prod.fst k0_3) c12_6 (by decide) rfl g0_3_7 tw_80 dX6_become_78 ?_
  refine r_iconst dX6_become_81 ci_0 ?_
  refine r_aload_n 0 dX6_become_82 rfl rfl ?_
  refine r_getR (j := 7) (by decide) (congrArg Prod.fst k0_9) c12_6 (by decide) rfl g0_9_7 tw_80 dX6_become_83 ?_
  refine r_iconst dX6_become_86 ci_0 ?_
  refine r_bipush dX6_become_87 cb_6 ?_
  refine r_copy tw_401 tw_nat tw_stat tw_ini (by decide) (by decide) k0_7 k0_13 (by decide) (by decide) (by decide) (by decide) (by decide) (by decide) (Nat.le_of_ble_eq_true rfl) dX6_become_89 ?_
  refine r_nmS (fun σ5 eσ5 => ?_)
  replace h := h σ5 eσ5
  exact r_vret rfl (Nat.le_refl _) (Nat.le_refl _) dX6_become_92 ⟨rfl, rfl, rfl, rfl, h⟩
theorem s_X6_become {l : Launch} {D : zDD} {b : Nat} (σ : zSg) (τ : zLm) {Q : zSg → zLm → Prop} (h : ∀ σ1 : zSg, σ1 = st2 (st2 (st2 σ 9 0 (σ 3 0)) 9 1 ((st2 σ 9 0 (σ 3 0)) 3 1)) 9 2 ((st2 (st2 σ 9 0 (σ 3 0)) 9 1 ((st2 σ 9 0 (σ 3 0)) 3 1)) 3 2) → ∀ σ2 : zSg, σ2 = va_up (st2 σ1 9 3 (σ1 3 3)) 10 (va_cpy ((st2 σ1 9 3 (σ1 3 3)) 4) ((st2 σ1 9 3 (σ1 3 3)) 10) 0 0 6) → ∀ σ3 : zSg, σ3 = va_up σ2 11 (va_cpy (σ2 5) (σ2 11) 0 0 6) → ∀ σ4 : zSg, σ4 = va_up σ3 12 (va_cpy (σ3 6) (σ3 12) 0 0 6) → ∀ σ5 : zSg, σ5 = va_up σ4 13 (va_cpy (σ4 7) (σ4 13) 0 0 6) → Q σ5 τ) : SV l D b M_X6_become 1 G0 [.ref (b + 9), .ref (b + 3)] σ τ Q := zS.of (by decide) (Nat.le_of_ble_eq_true rfl) rfl (w_X6_become_0 σ τ h)

