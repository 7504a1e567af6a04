/-! THE CLASS, what it reads of the kitchen and the scene. -/
section CREAD
variable {l : Launch} {D : zDD} {b : Nat} {σ : zSg} {τ : zLm} {p : Pl} {A : Sc} {Q : Int32 → zSg → zLm → Prop}
theorem RC_t {t : Nat} (R : RC σ p A) (ht : t < pm p) : t < 6 := by have := R.1.2.2.1; omega
theorem RC_e {e : Nat} (R : RC σ p A) (he : e < pn p) : e < 6 := by have := R.1.2.2.2.1; omega
theorem RC_st {t : Nat} (R : RC σ p A) (ht : t < pm p) : σ 15 t = nI (stS A t) ∧ stS A t ≤ 3 := ⟨R.2.2.2.2.2.1 t ht, (R.2.1.2.2.1 t ht).1⟩
theorem RC_hd {t : Nat} (R : RC σ p A) (ht : t < pm p) : σ 16 t = nI (hdS A t) ∧ hdS A t ≤ 200 := ⟨R.2.2.2.2.2.2.1 t ht, (R.2.1.2.2.1 t ht).2.1⟩
theorem RC_sp {t : Nat} (R : RC σ p A) (ht : t < pm p) : σ 17 t = nI (spS A t) ∧ spS A t < 2 ^ 25 := ⟨R.2.2.2.2.2.2.2.1 t ht, (R.2.1.2.2.1 t ht).2.2⟩
theorem RC_ld {e : Nat} (R : RC σ p A) (he : e < pn p) : σ 18 e = nI (ldS A e) ∧ ldS A e ≤ ps p e ∧ σ 13 e = nI (ps p e) ∧ ps p e ≤ 30 := ⟨R.2.2.2.2.2.2.2.2 e he, R.2.1.2.2.2.1 e he, R.2.2.1.2.2.2.2.2 e he, (R.1.2.2.2.2.2.2.2 e he).2⟩
theorem RC_m (R : RC σ p A) : σ 9 2 = nI (pm p) ∧ pm p ≤ 6 := ⟨R.2.2.1.2.2.1, R.1.2.2.1⟩
theorem RC_n (R : RC σ p A) : σ 9 3 = nI (pn p) ∧ pn p ≤ 6 := ⟨R.2.2.1.2.2.2.1, R.1.2.2.2.1⟩
theorem S_isThere (R : RC σ p A) (h : Q (bI (decide (0 < pH p))) σ τ) : SI l D b M_X6_isThere 0 G0 [.ref (b + 9)] σ τ Q := by
  have h0 : pH p ≤ 20 := R.1.1
  refine s_X6_isThere_8 σ τ ⟨fun c => ?_, fun c => ?_⟩
  all_goals rw [R.2.2.1.1, show (0 : Int32) = nI 0 from rfl, nI_leI (by omega) (by omega)] at c
  · rw [decide_eq_false (by omega)] at h; exact h
  · rw [decide_eq_true (by omega)] at h; exact h
/-- a number of a trouble, or not one -/
theorem S_hasTrouble (R : RC σ p A) (x : Int32) (hy : ∀ t : Nat, t < pm p → x = nI t → Q 1 σ τ) (hn : (∀ t : Nat, t < pm p → x ≠ nI t) → Q 0 σ τ) : SI l D b M_X6_hasTrouble 0 G0 [.ref (b + 9), .int x] σ τ Q := by
  obtain ⟨hm, hm6⟩ := RC_m R
  refine s_X6_hasTrouble x σ τ ⟨fun c => hn (fun t ht e => ?_), fun c => ⟨fun c2 => hn (fun t ht e => ?_), fun c2 => ?_⟩⟩
  · rw [e] at c; exact nI_pos (by omega) c
  · rw [e, hm, nI_leI (by omega) (by omega)] at c2; omega
  · obtain ⟨j, hj, e⟩ := nI_of c
    rw [e, hm, nI_leI (by omega) hj] at c2
    exact hy j (by omega) e
theorem S_hasEater (R : RC σ p A) (x : Int32) (hy : ∀ t : Nat, t < pn p → x = nI t → Q 1 σ τ) (hn : (∀ t : Nat, t < pn p → x ≠ nI t) → Q 0 σ τ) : SI l D b M_X6_hasEater 0 G0 [.ref (b + 9), .int x] σ τ Q := by
  obtain ⟨hm, hm6⟩ := RC_n R
  refine s_X6_hasEater x σ τ ⟨fun c => hn (fun t ht e => ?_), fun c => ⟨fun c2 => hn (fun t ht e => ?_), fun c2 => ?_⟩⟩
  · rw [e] at c; exact nI_pos (by omega) c
  · rw [e, hm, nI_leI (by omega) (by omega)] at c2; omega
  · obtain ⟨j, hj, e⟩ := nI_of c
    rw [e, hm, nI_leI (by omega) hj] at c2
    exact hy j (by omega) e
theorem stN_step (q : Nat → Bool) {t : Nat} (ht : t < 31) : nI (stN q t) ||| (if q t then (1 : Int32) <<< (nI t &&& 31) else 0) = nI (stN q (t + 1)) := by
  show _ = nI (stN q t ||| (if q t then 2 ^ t else 0))
  rw [← fa_or, nI_sh ht]
  cases q t <;> rfl
theorem or0 (x : Int32) : x ||| 0 = x := by simp
theorem S_allThatAre (R : RC σ p A) {v : Nat} (hv : v ≤ 3) (h : Q (nI (stN (isA A v) (pm p))) σ τ) : SI l D b M_X2_allThatAre 0 G0 [.ref (b + 8), .int (nI v)] σ τ Q := by
  obtain ⟨hm, hm6⟩ := RC_m R
  refine s_X2_allThatAre _ σ τ ?_
  refine lp_up (P := fun k => AI l D b M_X2_allThatAre 0 G0 Q 4 [(0, .ref (b + 8)), (1, .int (nI v)), (2, .int (nI (stN (isA A v) k))), (3, .int (nI k))] [] G0 σ τ) (n := pm p) ?_ ?_ 0 (Nat.zero_le _)
  · intro k hk ih
    obtain ⟨h1, h2⟩ := RC_st R hk
    refine w_X2_allThatAre_4 _ _ _ σ τ ⟨fun c => ?_, fun c => ⟨vp_in_t (RC_t R hk) (by decide), ?_⟩⟩
    · rw [hm, nI_leI (by omega) (by omega)] at c; omega
    · rw [nI_c (by omega), h1, nI_1]
      have hs := stN_step (isA A v) (t := k) (by omega)
      refine ⟨fun c2 => ?_, fun c2 v3 e3 => ?_⟩
      · rw [nI_eq (by omega) (by omega)] at c2
        rw [show isA A v k = false from decide_eq_false c2, if_neg (by decide), or0] at hs
        rw [hs]; exact ih
      · rw [nI_eq (by omega) (by omega)] at c2
        rw [show isA A v k = true from decide_eq_true c2, if_pos rfl] at hs
        rw [e3, hs]; exact ih
  · refine w_X2_allThatAre_4 _ _ _ σ τ ⟨fun _ => h, fun c => absurd ?_ c⟩
    rw [hm]; exact nI_le (Nat.le_refl _) (by omega)
theorem S_isGood (R : RC σ p A) {t : Nat} (ht : t < pm p) (h : Q (bI (goodA A t)) σ τ) : SI l D b M_X2_isGood 0 G0 [.ref (b + 8), .int (nI t)] σ τ Q := by
  obtain ⟨h1, h2⟩ := RC_st R ht
  obtain ⟨h3, h4⟩ := RC_hd R ht
  have hin := vp_in_t (RC_t R ht) (show 6 < 2 ^ 31 by decide)
  have h6 := RC_t R ht
  refine s_X2_isGood _ σ τ ?_
  rw [nI_c (by omega), h1, h3, show (0 : Int32) = nI 0 from rfl, show (1 : Int32) = nI 1 from rfl, show (2 : Int32) = nI 2 from rfl, nI_eq (by omega) (by omega), nI_eq (by omega) (by omega), nI_eq (by omega) (by omega)]
  unfold goodA at h
  refine ⟨hin, fun c => ?_, fun c => ⟨hin, fun c2 => ?_, fun c2 => ⟨hin, fun c3 => ?_, fun c3 => ?_⟩⟩⟩
  · show Q 0 σ τ
    simpa [c, bI] using h
  · show Q 1 σ τ
    simpa [c, c2, bI] using h
  · show Q 0 σ τ
    simpa [c, c2, c3, bI] using h
  · show Q 1 σ τ
    simpa [c, c3, bI] using h
theorem S_allGood (R : RC σ p A) (h : Q (nI (stN (goodA A) (pm p))) σ τ) : SI l D b M_X2_allGood 1 G0 [.ref (b + 8)] σ τ Q := by
  obtain ⟨hm, hm6⟩ := RC_m R
  refine s_X2_allGood σ τ ?_
  refine lp_up (P := fun k => AI l D b M_X2_allGood 1 G0 Q 4 [(0, .ref (b + 8)), (1, .int (nI (stN (goodA A) k))), (2, .int (nI k))] [] G0 σ τ) (n := pm p) ?_ ?_ 0 (Nat.zero_le _)
  · intro k hk ih
    refine w_X2_allGood_4 _ _ σ τ ⟨fun c => ?_, fun c => S_isGood R hk ?_⟩
    · rw [hm, nI_leI (by omega) (by omega)] at c; omega
    · have hs := stN_step (goodA A) (t := k) (by omega)
      rw [nI_1]
      refine ⟨fun c2 => ?_, fun c2 v3 e3 => ?_⟩
      · rw [bI_0] at c2
        rw [c2, if_neg (by decide), or0] at hs
        rw [hs]; exact ih
      · rw [bI_n0] at c2
        rw [c2, if_pos rfl] at hs
        rw [e3, hs]; exact ih
  · refine w_X2_allGood_4 _ _ σ τ ⟨fun _ => h, fun c => absurd ?_ c⟩
    rw [hm]; exact nI_le (Nat.le_refl _) (by omega)
theorem S_canBeWrapped (R : RC σ p A) {t : Nat} (ht : t < pm p) (h : Q (bI (isA A 0 t)) σ τ) : SI l D b M_X2_canBeWrapped 0 G0 [.ref (b + 8), .int (nI t)] σ τ Q := by
  obtain ⟨h1, h2⟩ := RC_st R ht
  have h6 := RC_t R ht
  refine s_X2_canBeWrapped _ σ τ ?_
  rw [nI_c (by omega), h1, show (0 : Int32) = nI 0 from rfl, nI_eq (by omega) (by omega)]
  unfold isA at h
  refine ⟨vp_in_t h6 (by decide), fun c => ?_, fun c => ?_⟩
  · rw [decide_eq_false c] at h; exact h
  · rw [decide_eq_true c] at h; exact h
theorem S_freePots (R : RC σ p A) (h : Q (nI (pP p - onC p A)) σ τ) : SI l D b M_X2_freePots 1 G0 [.ref (b + 8)] σ τ Q := by
  refine s_X2_freePots σ τ (S_allThatAre (v := 2) R (by decide) (S_bitCount ?_ σ τ ?_))
  · have := stN_lt (isA A 2) (pm p)
    have h6 := R.1.2.2.1
    have : 2 ^ pm p ≤ 2 ^ 6 := Nat.pow_le_pow_right (by decide) h6
    omega
  · rw [pcn_stN _ (by have := R.1.2.2.1; omega), R.2.2.1.2.1]
    have : fb_ct (isA A 2) (pm p) ≤ pP p := R.2.1.2.2.2.2.2
    rw [pk_sub this]
    exact h
theorem S_leftOf (R : RC σ p A) {e : Nat} (he : e < pn p) (h : Q (nI (leftE p A e)) σ τ) : SI l D b M_X2_leftOf 0 G0 [.ref (b + 8), .int (nI e)] σ τ Q := by
  obtain ⟨h1, h2, h3, h4⟩ := RC_ld R he
  have h6 := RC_e R he
  refine s_X2_leftOf _ σ τ ?_
  rw [nI_c (by omega), h1, h3, pk_sub h2]
  exact ⟨vp_in_t h6 (by decide), vp_in_t h6 (by decide), h⟩
theorem S_leftTogether (R : RC σ p A) (h : Q (nI (leftA p A)) σ τ) : SI l D b M_X2_leftTogether 1 G0 [.ref (b + 8)] σ τ Q := by
  obtain ⟨hm, hm6⟩ := RC_n R
  refine s_X2_leftTogether σ τ ?_
  refine lp_up (P := fun k => AI l D b M_X2_leftTogether 1 G0 Q 4 [(0, .ref (b + 8)), (1, .int (nI (fb_sm (leftE p A) k))), (2, .int (nI k))] [] G0 σ τ) (n := pn p) ?_ ?_ 0 (Nat.zero_le _)
  · intro k hk ih
    refine w_X2_leftTogether_4 _ _ σ τ ⟨fun c => ?_, fun c => S_leftOf R hk ?_⟩
    · rw [hm, nI_leI (by omega) (by omega)] at c; omega
    · rw [nI_1, nI_add]; exact ih
  · refine w_X2_leftTogether_4 _ _ σ τ ⟨fun _ => h, fun c => absurd ?_ c⟩
    rw [hm]; exact nI_le (Nat.le_refl _) (by omega)
theorem leftE_le (hp : okP p) {e : Nat} (he : e < pn p) : leftE p A e ≤ 30 := by
  have := (hp.2.2.2.2.2.2.2 e he).2
  unfold leftE; omega
theorem nI_m1 {a : Nat} (h : a < 2 ^ 31) : ¬ nI a = -1 := by
  intro e
  have h1 := congrArg Int32.toInt e
  rw [nI_toInt h] at h1
  have : (-1 : Int32).toInt = -1 := by decide
  omega
theorem S_strongest (R : RC σ p A) (h : Q (oI (bst (leftE p A) (pn p))) σ τ) : SI l D b M_X2_strongest 1 G0 [.ref (b + 8)] σ τ Q := by
  obtain ⟨hm, hm6⟩ := RC_n R
  refine s_X2_strongest σ τ ?_
  refine lp_up (P := fun k => AI l D b M_X2_strongest 1 G0 Q 4 [(0, .ref (b + 8)), (1, .int (oI (bst (leftE p A) k))), (2, .int (nI k))] [] G0 σ τ) (n := pn p) ?_ ?_ 0 (Nat.zero_le _)
  · intro k hk ih
    refine w_X2_strongest_4 _ _ σ τ ⟨fun c => ?_, fun c => ?_⟩
    · rw [hm, nI_leI (by omega) (by omega)] at c; omega
    · rw [nI_1]
      cases hb : bst (leftE p A) k with
      | none =>
        have e1 : bst (leftE p A) (k + 1) = some k := by unfold bst; rw [hb]
        rw [e1] at ih
        exact ⟨fun _ => ih, fun c2 => absurd rfl c2⟩
      | some i =>
        have hi := bst_lt _ hb
        refine ⟨fun c2 => absurd c2 (nI_m1 (by omega)), fun _ => S_leftOf R hk (S_leftOf R (by omega) ?_)⟩
        have l1 := leftE_le (A := A) R.1 hk
        have l2 := leftE_le (A := A) R.1 (show i < pn p by omega)
        rw [nI_leI (by omega) (by omega)]
        refine ⟨fun c3 => ?_, fun c3 => ?_⟩
        · have e1 : bst (leftE p A) (k + 1) = some i := by unfold bst; rw [hb]; simp only; rw [if_neg (by omega)]
          rw [e1] at ih; exact ih
        · have e1 : bst (leftE p A) (k + 1) = some k := by unfold bst; rw [hb]; simp only; rw [if_pos (by omega)]
          rw [e1] at ih; exact ih
  · refine w_X2_strongest_4 _ _ σ τ ⟨fun _ => h, fun c => absurd ?_ c⟩
    rw [hm]; exact nI_le (Nat.le_refl _) (by omega)
theorem mx_nI {a c : Nat} (ha : a < 2 ^ 31) (hc : c < 2 ^ 31) : mx (nI a) (nI c) = nI (max a c) := by
  unfold mx
  by_cases hlt : a < c
  · rw [if_pos ((nI_ltI ha hc).mpr hlt), Nat.max_eq_right (by omega)]
  · rw [if_neg (fun q => hlt ((nI_ltI ha hc).mp q)), Nat.max_eq_left (by omega)]
theorem mn_nI {a c : Nat} (ha : a < 2 ^ 31) (hc : c < 2 ^ 31) : mn (nI a) (nI c) = nI (min a c) := by
  unfold mn
  by_cases hlt : c < a
  · rw [if_pos ((nI_ltI hc ha).mpr hlt), Nat.min_eq_right (by omega)]
  · rw [if_neg (fun q => hlt ((nI_ltI hc ha).mp q)), Nat.min_eq_left (by omega)]
theorem S_weight (R : RC σ p A) {t : Nat} (ht : t < pm p) (h : Q (nI (wgtA A t)) σ τ) : SI l D b M_X2_weight 1 G0 [.ref (b + 8), .int (nI t)] σ τ Q := by
  obtain ⟨h1, h2⟩ := RC_sp R ht
  have h6 := RC_t R ht
  refine s_X2_weight _ σ τ ⟨vp_in_t h6 (by decide), ?_⟩
  rw [nI_c (by omega), h1]
  refine S_bitCount (by omega) σ τ ?_
  have hl := pcn_le (spS A t)
  rw [show (1 : Int32) = nI 1 from rfl, mx_nI (by omega) (by omega)]
  have e : wgtA A t = max 1 (pcn (spS A t)) := by
    unfold wgtA
    split <;> omega
  rw [← e]; exact h
theorem wgt_le (A : Sc) (t : Nat) : 1 ≤ wgtA A t ∧ wgtA A t ≤ 32 := by
  have := pcn_le (spS A t)
  unfold wgtA
  split <;> omega
theorem S_isBearable (R : RC σ p A) {t : Nat} (ht : t < pm p) (h : Q (bI (bearA p A t)) σ τ) : SI l D b M_X2_isBearable 2 G0 [.ref (b + 8), .int (nI t)] σ τ Q := by
  refine s_X2_isBearable _ σ τ (S_weight R ht (S_leftTogether R ?_))
  have h1 := (wgt_le A t).2
  have h2 := leftA_le p A R.1
  unfold bearA at h
  rw [nI_ltI (by omega) (by omega)]
  refine ⟨fun c => ?_, fun c => ?_⟩
  · rw [decide_eq_false (by omega)] at h; exact h
  · rw [decide_eq_true (by omega)] at h; exact h
theorem S_canBeBorne (R : RC σ p A) {t : Nat} (ht : t < pm p) (h : Q (bI (goodA A t && bearA p A t)) σ τ) : SI l D b M_X2_canBeBorne 3 G0 [.ref (b + 8), .int (nI t)] σ τ Q := by
  refine s_X2_canBeBorne _ σ τ (S_isGood R ht ⟨fun c => ?_, fun c => S_isBearable R ht ⟨fun c2 => ?_, fun c2 => ?_⟩⟩)
  · rw [bI_0] at c; rw [c] at h; exact h
  · rw [bI_n0] at c; rw [bI_0] at c2; rw [c, c2] at h; exact h
  · rw [bI_n0] at c c2; rw [c, c2] at h; exact h
end CREAD
