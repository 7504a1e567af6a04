/-! SHEETS, the class. -/
theorem neg1_bit {x j : Nat} (hj : j < 32) : (x ^^^ 4294967295).testBit j = !x.testBit j := by
  rw [Nat.testBit_xor, show (4294967295 : Nat) = 2 ^ 32 - 1 from rfl, Nat.testBit_two_pow_sub_one, decide_eq_true hj, Bool.xor_true]
/-- what is left of a set, as the code tells it -/
theorem sub_zero_iff {a c : Nat} (ha : a < 2 ^ 31) : nI a &&& (nI c ^^^ (-1)) = 0 ↔ ∀ i, a.testBit i = true → c.testBit i = true := by
  rw [nI_neg1, fa_and, show (0 : Int32) = nI 0 from rfl, nI_eq (Nat.lt_of_le_of_lt Nat.and_le_left ha) (by decide)]
  have hbig : ∀ i, a.testBit i = true → i < 32 := fun i hi => by
    apply Nat.lt_of_not_le
    intro q
    have := Nat.testBit_lt_two_pow (x := a) (i := i) (Nat.lt_of_lt_of_le ha (Nat.pow_le_pow_right (by decide) (by omega)))
    rw [this] at hi; cases hi
  constructor
  · intro h i hi
    have h1 : (a &&& (c ^^^ 4294967295)).testBit i = false := by rw [h]; exact Nat.zero_testBit i
    rw [Nat.testBit_and, hi, Bool.true_and, neg1_bit (hbig i hi)] at h1
    cases hc : c.testBit i
    · rw [hc] at h1; cases h1
    · rfl
  · intro h
    apply Nat.eq_of_testBit_eq
    intro i
    rw [Nat.zero_testBit, Nat.testBit_and]
    cases hi : a.testBit i
    · rfl
    · rw [neg1_bit (hbig i hi), h i hi]; rfl
theorem minus_bit {a c i : Nat} (ha : a < 2 ^ 31) : (a &&& (c ^^^ 4294967295)).testBit i = (a.testBit i && !c.testBit i) := by
  rw [Nat.testBit_and]
  by_cases hi : i < 32
  · rw [neg1_bit hi]
  · have := Nat.testBit_lt_two_pow (x := a) (i := i) (Nat.lt_of_lt_of_le ha (Nat.pow_le_pow_right (by decide) (by omega)))
    rw [this]; rfl
theorem row_lt (sp r : Nat) : rwN sp r < 32 := Nat.mod_lt _ (by decide)
theorem bit5 {x i : Nat} (hx : x < 32) (hi : x.testBit i = true) : i < 5 := by
  apply Nat.lt_of_not_le
  intro q
  have := Nat.testBit_lt_two_pow (x := x) (i := i) (Nat.lt_of_lt_of_le (show x < 2 ^ 5 from hx) (Nat.pow_le_pow_right (by decide) q))
  rw [this] at hi; cases hi
theorem open_iff {cells c a : Nat} (hc : cells < 32) : nI (cells &&& (cvN c ^^^ 4294967295)) &&& (nI (cvN a) ^^^ (-1)) = 0 ↔ okB cells c a = true := by
  have hl : cells &&& (cvN c ^^^ 4294967295) < 2 ^ 31 := Nat.lt_of_le_of_lt Nat.and_le_left (by omega)
  rw [sub_zero_iff hl, okB_iff]
  constructor
  · intro h j hj hb
    cases h1 : (cvN c).testBit j
    · right
      apply h
      rw [minus_bit (by omega), hb, h1]; rfl
    · exact Or.inl rfl
  · intro h i hi
    rw [minus_bit (by omega)] at hi
    simp only [Bool.and_eq_true, Bool.not_eq_true'] at hi
    rcases h i (bit5 hc hi.1) hi.1 with q | q
    · rw [q] at hi; cases hi.2
    · exact q
theorem costF_le (sp : Nat) : ∀ r c, costF sp r c ≤ 132
  | 0, c => by
    show (if c = 0 then 0 else 100) ≤ 132
    split <;> omega
  | r + 1, c => by
    have h1 := (mnO_le (fun a => okB (rwN sp r) c a) (costF sp r) 16).1
    have h2 := pcn_le c
    show mnO (fun a => okB (rwN sp r) c a) (costF sp r) 16 + pcn c ≤ 132
    omega
section CFEW
variable {l : Launch} {D : zDD} {b : Nat} {γ γe : zGm} {σ : zSg} {τ : zLm} {Q : Int32 → zSg → zLm → Prop} {G : zSg → zLm → Prop}
theorem S_covered {c : Nat} (hc : c < 16) (h : Q (nI (cvN c)) σ τ) : SI l D b M_X10_covered 0 γ [.int (nI c)] σ τ Q := by
  refine s_X10_covered _ σ τ ?_
  rw [show (1 : Int32) = nI 1 from rfl, nI_shl (i := 1) (by decide) (by omega), fa_or, show c * 2 ^ 1 = 2 * c by omega]
  exact h
theorem S_rowOf {sp r : Nat} (hsp : sp < 2 ^ 31) (hr : r < 6) (h : Q (nI (rwN sp r)) σ τ) : SI l D b M_X9_rowOf 0 γ [.int (nI sp), .int (nI r)] σ τ Q := by
  refine s_X9_rowOf _ _ σ τ ?_
  rw [show (5 : Int32) = nI 5 from rfl, pk_mul, nI_shr hsp (by omega), show (31 : Int32) = nI (2 ^ 5 - 1) from rfl, fa_mask, Nat.pow_mul]
  exact h
theorem S_addRow {ca cb cells : Nat} {f : Nat → Nat} (hca : ca < N0) (hcb : cb < N0) (kca : K0 ca = (0, 16)) (kcb : K0 cb = (0, 16)) (g1 : γ 19 0 = some ca) (g2 : γ 19 1 = some cb) (hne : ca ≠ cb) (hc : cells < 32) (hf : ∀ a, a < 16 → σ ca a = nI (f a) ∧ f a ≤ 132)
    (h : ∀ σ', (∀ c, c < 16 → σ' cb c = nI (mnO (fun a => okB cells c a) f 16 + pcn c)) → (∀ q, q ≠ cb → σ' q = σ q) → G σ' τ) : SV l D b M_X10_addRow 1 γ [.ref (b + 19), .int (nI cells)] σ τ G := by
  refine s_X10_addRow hca hcb kca kcb g1 g2 _ σ τ ?_
  have key := lp_up (P := fun k => ∀ σ', (∀ c, c < k → σ' cb c = nI (mnO (fun a => okB cells c a) f 16 + pcn c)) → (∀ q, q ≠ cb → σ' q = σ q) → AV l D b M_X10_addRow 1 γ G 2 [(0, .ref (b + 19)), (1, .int (nI cells)), (2, .int (nI k))] [] γ σ' τ) (n := 16) ?_ ?_ 0 (Nat.zero_le _)
  · exact key σ (fun c hc0 => by omega) (fun _ _ => rfl)
  · intro k hk ih σ' f1 f2
    refine w_X10_addRow_2 hca hcb kca kcb g1 g2 _ _ σ' τ ⟨fun c => ?_, fun c => S_covered hk ?_⟩
    · rw [show (16 : Int32) = nI 16 from rfl, nI_leI (by omega) (by omega)] at c; omega
    · rw [nI_neg1, fa_and]
      refine lp_up (P := fun q => AV l D b M_X10_addRow 1 γ G 24 [(0, .ref (b + 19)), (1, .int (nI cells)), (2, .int (nI k)), (3, .int (nI (cells &&& (cvN k ^^^ 4294967295)))), (4, .int (nI (mnO (fun a => okB cells k a) f q))), (5, .int (nI q))] [] γ σ' τ) (n := 16) ?_ ?_ 0 (Nat.zero_le _)
      · intro q hq ih2
        have hl := (mnO_le (fun a => okB cells k a) f q).1
        refine w_X10_addRow_24 hca hcb kca kcb g1 g2 _ _ _ _ _ σ' τ ⟨fun c2 => ?_, fun c2 => S_covered hq ⟨fun c3 => ?_, fun c3 => ⟨vp_in_t hq (by decide), fun v e => ?_⟩⟩⟩
        · rw [show (16 : Int32) = nI 16 from rfl, nI_leI (by omega) (by omega)] at c2; omega
        · rw [open_iff hc] at c3
          rw [nI_1]
          have e : mnO (fun a => okB cells k a) f (q + 1) = mnO (fun a => okB cells k a) f q := by
            show (if okB cells k q = true then _ else _) = _
            rw [if_neg c3]
          rw [e] at ih2; exact ih2
        · rw [open_iff hc] at c3
          obtain ⟨x1, x2⟩ := hf q hq
          rw [nI_c (by omega), f2 ca hne, x1, mn_nI (by omega) (by omega)] at e
          rw [nI_1, e]
          have e2 : mnO (fun a => okB cells k a) f (q + 1) = min (mnO (fun a => okB cells k a) f q) (f q) := by
            show (if okB cells k q = true then _ else _) = _
            rw [if_pos c3]
          rw [e2] at ih2; exact ih2
      · refine w_X10_addRow_24 hca hcb kca kcb g1 g2 _ _ _ _ _ σ' τ ⟨fun _ => S_bitCount (by omega) σ' τ ⟨vp_in_t hk (by decide), ?_⟩, fun c2 => absurd (nI_le (Nat.le_refl _) (by decide)) c2⟩
        rw [nI_1, nI_c (by omega), nI_add]
        refine ih _ (fun c hc2 => ?_) (fun q hq => (st2_cell _ _ hq).trans (f2 q hq))
        by_cases ec : c = k
        · subst ec; exact st2_same _ _ _ _
        · rw [st2_slot _ _ ec]; exact f1 c (by omega)
  · intro σ' f1 f2
    exact w_X10_addRow_2 hca hcb kca kcb g1 g2 _ _ σ' τ ⟨fun _ => h σ' f1 f2, fun c => absurd (nI_le (Nat.le_refl _) (by decide)) c⟩
def swp (g : zGm) (x y : Nat) : zGm := st2 (st2 g 19 0 (some y)) 19 1 (some x)
theorem few_row {ca cb sp r : Nat} (hca : ca < N0) (hcb : cb < N0) (kca : K0 ca = (0, 16)) (kcb : K0 cb = (0, 16)) (g1 : γ 19 0 = some ca) (g2 : γ 19 1 = some cb) (hne : ca ≠ cb) (hsp : sp < 2 ^ 25) (hr : r < 4) (hf : ∀ a, a < 16 → σ ca a = nI (costF sp r a))
    (kk : ∀ σ', (∀ a, a < 16 → σ' cb a = nI (costF sp (r + 1) a)) → (∀ q, q ≠ cb → σ' q = σ q) → AI l D b M_X10_fewest 2 γe Q 32 [(0, .ref (b + 19)), (1, .int (nI sp)), (2, .int (nI (r + 1)))] [] (swp γ ca cb) σ' τ) : AI l D b M_X10_fewest 2 γe Q 32 [(0, .ref (b + 19)), (1, .int (nI sp)), (2, .int (nI r))] [] γ σ τ := by
  refine w_X10_fewest_32 hca hcb kca kcb g1 g2 _ _ σ τ ⟨fun c => ?_, fun c => S_rowOf (by omega) (by omega) (S_addRow hca hcb kca kcb g1 g2 hne (row_lt sp r) (fun a ha => ⟨hf a ha, costF_le sp r a⟩) (fun σ' f1 f2 => ?_))⟩
  · rw [show (4 : Int32) = nI 4 from rfl, nI_leI (by omega) (by omega)] at c; omega
  · rw [nI_1]
    exact kk σ' f1 f2
theorem swp_twice : swp (swp G0 20 21) 21 20 = G0 := by
  funext c j
  unfold swp
  by_cases h : c = 19
  · subst h
    by_cases h1 : j = 1
    · subst h1; rw [st2_same, g0_19_1]
    · rw [st2_slot _ _ h1]
      by_cases h0 : j = 0
      · subst h0; rw [st2_same, g0_19_0]
      · rw [st2_slot _ _ h0, st2_slot _ _ h1, st2_slot _ _ h0]
  · rw [st2_cell _ _ h, st2_cell _ _ h, st2_cell _ _ h, st2_cell _ _ h]
theorem swp_a : swp G0 20 21 19 0 = some 21 := by unfold swp; rw [st2_slot _ _ (by decide), st2_same]
theorem swp_b : swp G0 20 21 19 1 = some 20 := by unfold swp; rw [st2_same]
theorem S_fewest {sp : Nat} (hsp : sp < 2 ^ 25) (h : ∀ σ', (∀ q, q ≠ 20 → q ≠ 21 → σ' q = σ q) → Q (nI (fewN sp)) σ' τ) : SI l D b M_X10_fewest 2 G0 [.ref (b + 19), .int (nI sp)] σ τ Q := by
  have h19 : (20 : Nat) < N0 := by decide
  have h20 : (21 : Nat) < N0 := by decide
  refine s_X10_fewest h19 h20 k0_20 k0_21 g0_19_0 g0_19_1 _ σ τ ?_
  have fin : ∀ σ', (∀ a, a < 16 → σ' 20 a = nI (costF sp 4 a)) → (∀ q, q ≠ 20 → q ≠ 21 → σ' q = σ q) → AI l D b M_X10_fewest 2 G0 Q 32 [(0, .ref (b + 19)), (1, .int (nI sp)), (2, .int (nI 4))] [] G0 σ' τ := by
    intro σ' f1 f2
    refine w_X10_fewest_32 h19 h20 k0_20 k0_21 g0_19_0 g0_19_1 _ _ σ' τ ⟨fun _ => S_rowOf (r := 4) (by omega) (by decide) ?_, fun c => absurd (nI_le (Nat.le_refl _) (by decide)) c⟩
    refine lp_up (P := fun k => AI l D b M_X10_fewest 2 G0 Q 82 [(0, .ref (b + 19)), (2, .int (nI (mnO (fun c => okB (rwN sp 4) 0 c) (costF sp 4) k))), (3, .int (nI (rwN sp 4))), (4, .int (nI k))] [] G0 σ' τ) (n := 16) ?_ ?_ 0 (Nat.zero_le _)
    · intro k hk ih
      have hl := (mnO_le (fun c => okB (rwN sp 4) 0 c) (costF sp 4) k).1
      have hr := row_lt sp 4
      have oi : nI (rwN sp 4) &&& (nI (cvN k) ^^^ (-1)) = 0 ↔ okB (rwN sp 4) 0 k = true := by
        rw [sub_zero_iff (by omega), okB_iff]
        constructor
        · intro q j hj hb; exact Or.inr (q j hb)
        · intro q i hi
          rcases q i (bit5 hr hi) hi with q2 | q2
          · rw [cvN_0] at q2; cases q2
          · exact q2
      refine w_X10_fewest_82 h19 h20 k0_20 k0_21 g0_19_0 g0_19_1 _ _ _ σ' τ ⟨fun c => ?_, fun c => S_covered hk ⟨fun c2 => ?_, fun c2 => ⟨vp_in_t hk (by decide), fun v e => ?_⟩⟩⟩
      · rw [show (16 : Int32) = nI 16 from rfl, nI_leI (by omega) (by omega)] at c; omega
      · rw [oi] at c2
        rw [nI_1]
        have e : mnO (fun c => okB (rwN sp 4) 0 c) (costF sp 4) (k + 1) = mnO (fun c => okB (rwN sp 4) 0 c) (costF sp 4) k := by
          show (if okB (rwN sp 4) 0 k = true then _ else _) = _
          rw [if_neg c2]
        rw [e] at ih; exact ih
      · rw [oi] at c2
        have hl2 := costF_le sp 4 k
        rw [nI_c (by omega), f1 k hk, mn_nI (by omega) (by omega)] at e
        rw [nI_1, e]
        have e2 : mnO (fun c => okB (rwN sp 4) 0 c) (costF sp 4) (k + 1) = min (mnO (fun c => okB (rwN sp 4) 0 c) (costF sp 4) k) (costF sp 4 k) := by
          show (if okB (rwN sp 4) 0 k = true then _ else _) = _
          rw [if_pos c2]
        rw [e2] at ih; exact ih
    · exact w_X10_fewest_82 h19 h20 k0_20 k0_21 g0_19_0 g0_19_1 _ _ _ σ' τ ⟨fun _ => ⟨rfl, h σ' f2⟩, fun c => absurd (nI_le (Nat.le_refl _) (by decide)) c⟩
  have rows : ∀ σ', (∀ a, a < 16 → σ' 20 a = nI (costF sp 0 a)) → (∀ q, q ≠ 20 → q ≠ 21 → σ' q = σ q) → AI l D b M_X10_fewest 2 G0 Q 32 [(0, .ref (b + 19)), (1, .int (nI sp)), (2, .int (nI 0))] [] G0 σ' τ := by
    intro σ' f1 f2
    refine few_row h19 h20 k0_20 k0_21 g0_19_0 g0_19_1 (by decide) hsp (by decide) f1 (fun σ1 a1 b1 => ?_)
    refine few_row h20 h19 k0_21 k0_20 swp_a swp_b (by decide) hsp (by decide) a1 (fun σ2 a2 b2 => ?_)
    rw [swp_twice]
    refine few_row h19 h20 k0_20 k0_21 g0_19_0 g0_19_1 (by decide) hsp (by decide) a2 (fun σ3 a3 b3 => ?_)
    refine few_row h20 h19 k0_21 k0_20 swp_a swp_b (by decide) hsp (by decide) a3 (fun σ4 a4 b4 => ?_)
    rw [swp_twice]
    exact fin σ4 a4 (fun q q1 q2 => by rw [b4 q q1, b3 q q2, b2 q q1, b1 q q2, f2 q q1 q2])
  refine lp_up (P := fun k => ∀ σ', (∀ a, a < k → σ' 20 a = nI (costF sp 0 a)) → (∀ q, q ≠ 20 → q ≠ 21 → σ' q = σ q) → AI l D b M_X10_fewest 2 G0 Q 2 [(0, .ref (b + 19)), (1, .int (nI sp)), (2, .int (nI k))] [] G0 σ' τ) (n := 16) ?_ ?_ 0 (Nat.zero_le _) σ (fun a ha => by omega) (fun _ _ _ => rfl)
  · intro k hk ih σ' f1 f2
    refine w_X10_fewest_2 h19 h20 k0_20 k0_21 g0_19_0 g0_19_1 _ _ σ' τ ⟨fun c => ?_, fun c => ⟨fun c2 => ⟨vp_in_t hk (by decide), ?_⟩, fun c2 => ⟨vp_in_t hk (by decide), ?_⟩⟩⟩
    · rw [show (16 : Int32) = nI 16 from rfl, nI_leI (by omega) (by omega)] at c; omega
    · rw [show (0 : Int32) = nI 0 from rfl, nI_eq (by omega) (by omega)] at c2
      rw [nI_1, nI_c (by omega)]
      refine ih _ (fun a ha => ?_) (fun q q1 q2 => (st2_cell _ _ q1).trans (f2 q q1 q2))
      by_cases ea : a = k
      · subst ea
        rw [st2_same]
        show (100 : Int32) = nI (if a = 0 then 0 else 100)
        rw [if_neg c2]; rfl
      · rw [st2_slot _ _ ea]; exact f1 a (by omega)
    · rw [show (0 : Int32) = nI 0 from rfl, nI_eq (by omega) (by omega)] at c2
      rw [nI_1, nI_c (by omega)]
      refine ih _ (fun a ha => ?_) (fun q q1 q2 => (st2_cell _ _ q1).trans (f2 q q1 q2))
      by_cases ea : a = k
      · subst ea
        rw [st2_same]
        show (0 : Int32) = nI (if a = 0 then 0 else 100)
        rw [if_pos c2]; rfl
      · rw [st2_slot _ _ ea]; exact f1 a (by omega)
  · intro σ' f1 f2
    exact w_X10_fewest_2 h19 h20 k0_20 k0_21 g0_19_0 g0_19_1 _ _ σ' τ ⟨fun _ => rows σ' f1 f2, fun c => absurd (nI_le (Nat.le_refl _) (by decide)) c⟩
end CFEW
