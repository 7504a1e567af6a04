/-! THE REFERENCE, what it reads of the kitchen and the scene. -/
section MREAD
variable {l : Launch} {D : zDD} {b : Nat} {γ : zGm} {σ : zSg} {τ : zLm} {p : Pl} {A : Sc} {Q : Int32 → zSg → zLm → Prop}
theorem RM_t {t : Nat} (R : RM σ p A) (ht : t < pm p) : t < 6 := by have := R.1.2.2.1; omega
theorem RM_e {e : Nat} (R : RM σ p A) (he : e < pn p) : e < 6 := by have := R.1.2.2.2.1; omega
theorem RM_st {t : Nat} (R : RM σ p A) (ht : t < pm p) : σ 133 (14 + t) = nI (stS A t) ∧ stS A t ≤ 3 := ⟨by have := R.2.2.2.2.2.1 t ht; rwa [Nat.zero_add] at this, (R.2.1.2.2.1 t ht).1⟩
theorem RM_hd {t : Nat} (R : RM σ p A) (ht : t < pm p) : σ 133 (2 + t) = nI (hdS A t) ∧ hdS A t ≤ 200 := ⟨by have := R.2.2.2.2.2.2.1 t ht; rwa [Nat.zero_add] at this, (R.2.1.2.2.1 t ht).2.1⟩
theorem RM_sp {t : Nat} (R : RM σ p A) (ht : t < pm p) : σ 133 (8 + t) = nI (spS A t) ∧ spS A t < 2 ^ 25 := ⟨by have := R.2.2.2.2.2.2.2.1 t ht; rwa [Nat.zero_add] at this, (R.2.1.2.2.1 t ht).2.2⟩
theorem RM_ld {e : Nat} (R : RM σ p A) (he : e < pn p) : σ 133 (20 + e) = nI (ldS A e) ∧ ldS A e ≤ ps p e ∧ σ 132 e = nI (ps p e) ∧ ps p e ≤ 30 := ⟨by have := R.2.2.2.2.2.2.2.2 e (RM_e R he); rwa [Nat.zero_add] at this, R.2.1.2.2.2.1 e he, R.2.2.1.2.2.2.2.2 e he, (R.1.2.2.2.2.2.2.2 e he).2⟩
theorem RM_m (R : RM σ p A) : σ 125 16 = nI (pm p) ∧ pm p ≤ 6 := ⟨R.2.2.1.2.2.1, R.1.2.2.1⟩
theorem RM_n (R : RM σ p A) : σ 125 17 = nI (pn p) ∧ pn p ≤ 6 := ⟨R.2.2.1.2.2.2.1, R.1.2.2.2.1⟩
theorem nI_p2 (t : Nat) : (2 : Int32) + nI t = nI (2 + t) := nI_add 2 t
theorem nI_p8 (t : Nat) : (8 : Int32) + nI t = nI (8 + t) := nI_add 8 t
theorem nI_p14 (t : Nat) : (14 : Int32) + nI t = nI (14 + t) := nI_add 14 t
theorem nI_p20 (t : Nat) : (20 : Int32) + nI t = nI (20 + t) := nI_add 20 t
theorem M_in {x lo hi : Int32} (h1 : lo ≤ x → x ≤ hi → Q 1 σ τ) (h2 : ¬ (lo ≤ x ∧ x ≤ hi) → Q 0 σ τ) : SI l D b M_X12_in 0 γ [.int x, .int lo, .int hi] σ τ Q := by
  refine s_X12_in _ _ _ σ τ ⟨fun c => h2 (fun q => ?_), fun c => ⟨fun c2 => h2 (fun q => ?_), fun c2 => h1 (Int32.not_lt.mp c) (Int32.not_lt.mp c2)⟩⟩
  · exact absurd c (Int32.not_lt.mpr q.1)
  · exact absurd c2 (Int32.not_lt.mpr q.2)
theorem M_isKitchen (R : RM σ p A) (h : Q (bI (decide (0 < pH p))) σ τ) : SI l D b M_X12_isKitchen 0 G0 [.ref (b + 125)] σ τ Q := by
  have h0 : pP p ≤ 3 := R.1.2.1
  have h1 := R.1.2.2.2.2.1
  refine s_X12_isKitchen σ τ ⟨fun c => ?_, fun c => ?_⟩
  all_goals rw [R.2.2.1.2.1, show (0 : Int32) = nI 0 from rfl, nI_leI (by omega) (by omega)] at c
  · rw [decide_eq_false (by omega)] at h; exact h
  · rw [decide_eq_true (by omega)] at h; exact h
theorem M_isOne {m : Nat} (hm : m ≤ 6) {x : Int32} (hy : ∀ t : Nat, t < m → x = nI t → Q 1 σ τ) (hn : (∀ t : Nat, t < m → x ≠ nI t) → Q 0 σ τ) : SI l D b M_X12_in 0 γ [.int x, .int 0, .int (nI m - 1)] σ τ Q := by
  have e1 : (nI m - 1).toInt = (m : Int) - 1 := by
    rw [show (1 : Int32) = nI 1 from rfl, pk_sub_toInt (by omega) (by decide)]; rfl
  refine M_in (fun c1 c2 => ?_) (fun c => hn (fun t ht e => c ?_))
  · rw [fa_le] at c1 c2
    rw [e1] at c2
    have c0 : (0 : Int32).toInt = 0 := rfl
    rw [c0] at c1
    have hx : ¬ x < 0 := by rw [fa_lt, c0]; omega
    obtain ⟨j, hj, e⟩ := nI_of hx
    rw [e, nI_toInt hj] at c2
    exact hy j (by omega) e
  · rw [e, fa_le, fa_le, e1, nI_toInt (by omega)]
    have c0 : (0 : Int32).toInt = 0 := rfl
    rw [c0]
    omega
theorem M_isTrouble (R : RM σ p A) (x : Int32) (hy : ∀ t : Nat, t < pm p → x = nI t → Q 1 σ τ) (hn : (∀ t : Nat, t < pm p → x ≠ nI t) → Q 0 σ τ) : SI l D b M_X12_isTrouble 1 G0 [.ref (b + 125), .int x] σ τ Q := by
  refine s_X12_isTrouble x σ τ ?_
  rw [(RM_m R).1]
  exact M_isOne (RM_m R).2 (fun t ht e => ⟨Or.inr rfl, hy t ht e⟩) (fun q => ⟨Or.inl rfl, hn q⟩)
theorem M_isEater (R : RM σ p A) (x : Int32) (hy : ∀ t : Nat, t < pn p → x = nI t → Q 1 σ τ) (hn : (∀ t : Nat, t < pn p → x ≠ nI t) → Q 0 σ τ) : SI l D b M_X12_isEater 1 G0 [.ref (b + 125), .int x] σ τ Q := by
  refine s_X12_isEater x σ τ ?_
  rw [(RM_n R).1]
  exact M_isOne (RM_n R).2 (fun t ht e => ⟨Or.inr rfl, hy t ht e⟩) (fun q => ⟨Or.inl rfl, hn q⟩)
theorem M_are (R : RM σ p A) {v : Nat} (hv : v ≤ 3) (h : Q (nI (stN (isA A v) (pm p))) σ τ) : SI l D b M_X12_are 0 G0 [.ref (b + 125), .int (nI v)] σ τ Q := by
  obtain ⟨hm, hm6⟩ := RM_m R
  refine s_X12_are _ σ τ ?_
  refine lp_up (P := fun k => AI l D b M_X12_are 0 G0 Q 4 [(0, .ref (b + 125)), (1, .int (nI v)), (2, .int (nI (stN (isA A v) k))), (3, .int (nI k))] [] G0 σ τ) (n := pm p) ?_ ?_ 0 (Nat.zero_le _)
  · intro k hk ih
    obtain ⟨h1, h2⟩ := RM_st R hk
    have h6 := RM_t R hk
    refine w_X12_are_4 _ _ _ σ τ ⟨fun c => ?_, fun c => ?_⟩
    · rw [hm, nI_leI (by omega) (by omega)] at c; omega
    · rw [nI_p14, nI_c (by omega), h1, nI_1]
      refine ⟨vp_in_t (by omega) (by decide), ?_⟩
      have hs := stN_step (isA A v) (t := k) (by omega)
      refine ⟨fun c2 => ?_, fun c2 v3 e3 => ?_⟩
      · rw [nI_eq (by omega) (by omega)] at c2
        rw [show isA A v k = false from decide_eq_false c2, if_neg (by decide)] at hs
        rw [hs]; exact ih
      · rw [nI_eq (by omega) (by omega)] at c2
        rw [show isA A v k = true from decide_eq_true c2, if_pos rfl] at hs
        rw [e3, hs]; exact ih
  · refine w_X12_are_4 _ _ _ σ τ ⟨fun _ => h, fun c => absurd ?_ c⟩
    rw [hm]; exact nI_le (Nat.le_refl _) (by omega)
theorem M_isGood (R : RM σ p A) {t : Nat} (ht : t < pm p) (h : Q (bI (goodA A t)) σ τ) : SI l D b M_X12_isGood 1 G0 [.ref (b + 125), .int (nI t)] σ τ Q := by
  obtain ⟨h1, h2⟩ := RM_st R ht
  obtain ⟨h3, h4⟩ := RM_hd R ht
  have h6 := RM_t R ht
  refine s_X12_isGood _ σ τ ?_
  rw [nI_p2, nI_p14, nI_c (by omega), nI_c (by omega), h1, h3]
  unfold goodA at h
  refine ⟨vp_in_t (by omega) (by decide), fun c => ?_, fun c => ⟨vp_in_t (by omega) (by decide), M_in (fun c2 c3 => ⟨fun q => absurd q (by decide), fun _ => ?_⟩) (fun c2 => ⟨fun _ => ?_, fun q => absurd rfl q⟩)⟩⟩
  · rw [show (0 : Int32) = nI 0 from rfl, nI_eq (by omega) (by omega)] at c
    simpa [c, bI] using h
  · rw [show (0 : Int32) = nI 0 from rfl, nI_eq (by omega) (by omega)] at c
    rw [show (1 : Int32) = nI 1 from rfl, nI_leI (by omega) (by omega)] at c2
    rw [show (2 : Int32) = nI 2 from rfl, nI_leI (by omega) (by omega)] at c3
    have : stS A t = 1 ∨ stS A t = 2 := by omega
    simpa [c, this, bI] using h
  · rw [show (0 : Int32) = nI 0 from rfl, nI_eq (by omega) (by omega)] at c
    rw [show (1 : Int32) = nI 1 from rfl, show (2 : Int32) = nI 2 from rfl, nI_leI (by omega) (by omega), nI_leI (by omega) (by omega)] at c2
    have e1 : ¬ stS A t = 1 := by omega
    have e2 : ¬ stS A t = 2 := by omega
    simpa [c, e1, e2, bI] using h
theorem M_good (R : RM σ p A) (h : Q (nI (stN (goodA A) (pm p))) σ τ) : SI l D b M_X12_good 2 G0 [.ref (b + 125)] σ τ Q := by
  obtain ⟨hm, hm6⟩ := RM_m R
  refine s_X12_good σ τ ?_
  refine lp_up (P := fun k => AI l D b M_X12_good 2 G0 Q 4 [(0, .ref (b + 125)), (1, .int (nI (stN (goodA A) k))), (2, .int (nI k))] [] G0 σ τ) (n := pm p) ?_ ?_ 0 (Nat.zero_le _)
  · intro k hk ih
    refine w_X12_good_4 _ _ σ τ ⟨fun c => ?_, fun c => M_isGood R hk ?_⟩
    · rw [hm, nI_leI (by omega) (by omega)] at c; omega
    · have hs := stN_step (goodA A) (t := k) (by omega)
      rw [nI_1]
      refine ⟨fun c2 => ?_, fun c2 v3 e3 => ?_⟩
      · rw [bI_0] at c2
        rw [c2, if_neg (by decide)] at hs
        rw [hs]; exact ih
      · rw [bI_n0] at c2
        rw [c2, if_pos rfl] at hs
        rw [e3, hs]; exact ih
  · refine w_X12_good_4 _ _ σ τ ⟨fun _ => h, fun c => absurd ?_ c⟩
    rw [hm]; exact nI_le (Nat.le_refl _) (by omega)
theorem M_left (R : RM σ p A) {e : Nat} (he : e < pn p) (h : Q (nI (leftE p A e)) σ τ) : SI l D b M_X12_left 0 G0 [.ref (b + 125), .int (nI e)] σ τ Q := by
  obtain ⟨h1, h2, h3, h4⟩ := RM_ld R he
  have h6 := RM_e R he
  refine s_X12_left _ σ τ ?_
  rw [nI_p20, nI_c (by omega), nI_c (by omega), h1, h3, pk_sub h2]
  exact ⟨vp_in_t h6 (by decide), vp_in_t (by omega) (by decide), h⟩
theorem M_leftAll (R : RM σ p A) (h : Q (nI (leftA p A)) σ τ) : SI l D b M_X12_leftAll 1 G0 [.ref (b + 125)] σ τ Q := by
  obtain ⟨hm, hm6⟩ := RM_n R
  refine s_X12_leftAll σ τ ?_
  refine lp_up (P := fun k => AI l D b M_X12_leftAll 1 G0 Q 4 [(0, .ref (b + 125)), (1, .int (nI (fb_sm (leftE p A) k))), (2, .int (nI k))] [] G0 σ τ) (n := pn p) ?_ ?_ 0 (Nat.zero_le _)
  · intro k hk ih
    refine w_X12_leftAll_4 _ _ σ τ ⟨fun c => ?_, fun c => M_left R hk ?_⟩
    · rw [hm, nI_leI (by omega) (by omega)] at c; omega
    · rw [nI_1, nI_add]; exact ih
  · refine w_X12_leftAll_4 _ _ σ τ ⟨fun _ => h, fun c => absurd ?_ c⟩
    rw [hm]; exact nI_le (Nat.le_refl _) (by omega)
theorem M_strongest (R : RM σ p A) (h : Q (oI (bst (leftE p A) (pn p))) σ τ) : SI l D b M_X12_strongest 1 G0 [.ref (b + 125)] σ τ Q := by
  obtain ⟨hm, hm6⟩ := RM_n R
  refine s_X12_strongest σ τ ?_
  refine lp_up (P := fun k => AI l D b M_X12_strongest 1 G0 Q 4 [(0, .ref (b + 125)), (1, .int (oI (bst (leftE p A) k))), (2, .int (nI k))] [] G0 σ τ) (n := pn p) ?_ ?_ 0 (Nat.zero_le _)
  · intro k hk ih
    refine w_X12_strongest_4 _ _ σ τ ⟨fun c => ?_, fun c => ?_⟩
    · rw [hm, nI_leI (by omega) (by omega)] at c; omega
    · rw [nI_1]
      cases hb : bst (leftE p A) k with
      | none =>
        have e1 : bst (leftE p A) (k + 1) = some k := by unfold bst; rw [hb]
        rw [e1] at ih
        exact ⟨fun _ => ih, fun c2 => absurd rfl c2⟩
      | some i =>
        have hi := bst_lt _ hb
        refine ⟨fun c2 => absurd c2 (nI_m1 (by omega)), fun _ => M_left R hk (M_left R (by omega) ?_)⟩
        have l1 := leftE_le (A := A) R.1 hk
        have l2 := leftE_le (A := A) R.1 (show i < pn p by omega)
        rw [nI_leI (by omega) (by omega)]
        refine ⟨fun c3 => ?_, fun c3 => ?_⟩
        · have e1 : bst (leftE p A) (k + 1) = some i := by unfold bst; rw [hb]; simp only; rw [if_neg (by omega)]
          rw [e1] at ih; exact ih
        · have e1 : bst (leftE p A) (k + 1) = some k := by unfold bst; rw [hb]; simp only; rw [if_pos (by omega)]
          rw [e1] at ih; exact ih
  · refine w_X12_strongest_4 _ _ σ τ ⟨fun _ => h, fun c => absurd ?_ c⟩
    rw [hm]; exact nI_le (Nat.le_refl _) (by omega)
theorem M_weight (R : RM σ p A) {t : Nat} (ht : t < pm p) (h : Q (nI (wgtA A t)) σ τ) : SI l D b M_X12_weight 1 G0 [.ref (b + 125), .int (nI t)] σ τ Q := by
  obtain ⟨h1, h2⟩ := RM_sp R ht
  have h6 := RM_t R ht
  refine s_X12_weight _ σ τ ?_
  rw [nI_p8, nI_c (by omega), h1]
  refine ⟨vp_in_t (by omega) (by decide), S_bits (by omega) σ τ ?_⟩
  have hl := pcn_le (spS A t)
  unfold wgtA at h
  rw [show (0 : Int32) = nI 0 from rfl, nI_eq (by omega) (by omega)]
  refine ⟨fun c => ?_, fun c => ?_⟩
  · rw [if_neg c] at h; exact h
  · rw [if_pos c] at h; exact h
theorem M_isBearable (R : RM σ p A) {t : Nat} (ht : t < pm p) (h : Q (bI (bearA p A t)) σ τ) : SI l D b M_X12_isBearable 2 G0 [.ref (b + 125), .int (nI t)] σ τ Q := by
  refine s_X12_isBearable _ σ τ (M_weight R ht (M_leftAll R ?_))
  have h1 := (wgt_le A t).2
  have h2 := leftA_le p A R.1
  unfold bearA at h
  rw [nI_ltI (by omega) (by omega)]
  refine ⟨fun c => ?_, fun c => ?_⟩
  · rw [decide_eq_false (by omega)] at h; exact h
  · rw [decide_eq_true (by omega)] at h; exact h
theorem M_canBeBorne (R : RM σ p A) {t : Nat} (ht : t < pm p) (h : Q (bI (goodA A t && bearA p A t)) σ τ) : SI l D b M_X12_canBeBorne 3 G0 [.ref (b + 125), .int (nI t)] σ τ Q := by
  refine s_X12_canBeBorne _ σ τ (M_isGood R ht ⟨fun c => ?_, fun c => M_isBearable R ht ⟨fun c2 => ?_, fun c2 => ?_⟩⟩)
  · rw [bI_0] at c; rw [c] at h; exact h
  · rw [bI_n0] at c; rw [bI_0] at c2; rw [c, c2] at h; exact h
  · rw [bI_n0] at c c2; rw [c, c2] at h; exact h
theorem M_potsFree (R : RM σ p A) (h : Q (nI (pP p - onC p A)) σ τ) : SI l D b M_X12_potsFree 1 G0 [.ref (b + 125)] σ τ Q := by
  refine s_X12_potsFree σ τ (M_are (v := 2) R (by decide) (S_bits ?_ σ τ ?_))
  · have := stN_lt (isA A 2) (pm p)
    have h6 := R.1.2.2.1
    have : 2 ^ pm p ≤ 2 ^ 6 := Nat.pow_le_pow_right (by decide) h6
    omega
  · rw [pcn_stN _ (by have := R.1.2.2.1; omega), R.2.2.1.2.1]
    have : fb_ct (isA A 2) (pm p) ≤ pP p := R.2.1.2.2.2.2.2
    rw [pk_sub this]
    exact h
end MREAD
