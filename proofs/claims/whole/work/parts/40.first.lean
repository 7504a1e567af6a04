/-! SHEETS: the first one; the reference. -/
def isOpt (sp S : Nat) : Prop := S < 65536 ∧ Cvr sp S ∧ pcn S = fewN sp
theorem Cvr_iff {sp S : Nat} : Cvr sp S ↔ ∀ i, sp.testBit i = true → ∃ k, k < 16 ∧ S.testBit k = true ∧ (shN k).testBit i = true :=
  ⟨fun h i hi => (covT_bit S i 16).mp (h i hi), fun h i hi => (covT_bit S i 16).mpr (h i hi)⟩
theorem pcn_on {S k : Nat} (hk : k < 32) (h : S.testBit k = false) : pcn (S ||| 2 ^ k) = pcn S + 1 := by
  have h1 := fb_ct_upd (fun i => S.testBit i) true hk
  have e : fb_ct (fun i => (S ||| 2 ^ k).testBit i) 32 = fb_ct (fun i => if i = k then true else S.testBit i) 32 := fb_ct_cong (fun i _ => by
    rw [fb_bit_set]
    by_cases q : i = k <;> simp [q])
  simp only [h] at h1
  unfold pcn
  rw [e]
  simpa using h1
theorem pcn_off {S k : Nat} (hk : k < 32) (h : S.testBit k = true) : pcn (S ^^^ 2 ^ k) + 1 = pcn S := by
  have h1 := fb_ct_upd (fun i => S.testBit i) false hk
  have e : fb_ct (fun i => (S ^^^ 2 ^ k).testBit i) 32 = fb_ct (fun i => if i = k then false else S.testBit i) 32 := fb_ct_cong (fun i _ => by
    rw [fb_bit_flip]
    by_cases q : i = k
    · subst q; simp [h]
    · simp [q])
  simp only [h] at h1
  unfold pcn
  rw [e]
  simpa using h1
theorem or_same {S k : Nat} (h : S.testBit k = true) : S ||| 2 ^ k = S := by
  apply Nat.eq_of_testBit_eq
  intro i
  rw [fb_bit_set]
  by_cases q : i = k
  · subst q; simp [h]
  · simp [q]
theorem or_lt {S k : Nat} (hS : S < 65536) (hk : k < 16) : S ||| 2 ^ k < 65536 := Nat.or_lt_two_pow (n := 16) hS (Nat.pow_lt_pow_right (by decide) hk)
theorem xor_lt {S k : Nat} (hS : S < 65536) (hk : k < 16) : S ^^^ 2 ^ k < 65536 := Nat.xor_lt_two_pow (n := 16) hS (Nat.pow_lt_pow_right (by decide) hk)
def lessN (sp k : Nat) : Nat := sp &&& (shN k ^^^ 4294967295)
theorem lessN_lt {sp k : Nat} (h : sp < 2 ^ 25) : lessN sp k < 2 ^ 25 := Nat.lt_of_le_of_lt Nat.and_le_left h
theorem lessN_bit {sp k i : Nat} (h : sp < 2 ^ 25) : (lessN sp k).testBit i = (sp.testBit i && !(shN k).testBit i) := minus_bit (by omega)
theorem few_less {sp k : Nat} (hsp : sp < 2 ^ 25) (hk : k < 16) : fewN sp ≤ fewN (lessN sp k) + 1 := by
  obtain ⟨T, t1, t2, t3⟩ := fewN_at (lessN_lt (k := k) hsp)
  have c : Cvr sp (T ||| 2 ^ k) := by
    rw [Cvr_iff] at t2 ⊢
    intro i hi
    cases hs : (shN k).testBit i
    · obtain ⟨q, q1, q2, q3⟩ := t2 i (by rw [lessN_bit hsp, hi, hs]; rfl)
      exact ⟨q, q1, by rw [fb_bit_set, q2]; rfl, q3⟩
    · exact ⟨k, hk, by rw [fb_bit_set]; simp, hs⟩
  have := fewN_low hsp (or_lt t1 hk) c
  cases hb : T.testBit k
  · rw [pcn_on (by omega) hb] at this; omega
  · rw [or_same hb] at this; omega
theorem few_pos {sp : Nat} (hsp : sp < 2 ^ 25) (h : sp ≠ 0) : 1 ≤ fewN sp := by
  obtain ⟨T, t1, t2, t3⟩ := fewN_at hsp
  apply Nat.pos_of_ne_zero
  intro q
  rw [q] at t3
  have hz : ∀ k, k < 32 → T.testBit k = false := fb_ct_zero.mp t3
  obtain ⟨i, hi⟩ := Nat.exists_testBit_of_ne_zero h
  obtain ⟨k, k1, k2, k3⟩ := Cvr_iff.mp t2 i hi
  rw [hz k (by omega)] at k2; cases k2
def firP (sp k : Nat) : Prop := sp &&& shN k ≠ 0 ∧ fewN (lessN sp k) = fewN sp - 1
theorem firP_iff {sp k : Nat} (hsp : sp < 2 ^ 25) (h0 : sp ≠ 0) (hk : k < 16) : firP sp k ↔ ∃ S, isOpt sp S ∧ S.testBit k = true := by
  have hpos := few_pos hsp h0
  constructor
  · rintro ⟨h1, h2⟩
    obtain ⟨T, t1, t2, t3⟩ := fewN_at (lessN_lt (k := k) hsp)
    have c : Cvr sp (T ||| 2 ^ k) := by
      rw [Cvr_iff] at t2 ⊢
      intro i hi
      cases hs : (shN k).testBit i
      · obtain ⟨q, q1, q2, q3⟩ := t2 i (by rw [lessN_bit hsp, hi, hs]; rfl)
        exact ⟨q, q1, by rw [fb_bit_set, q2]; rfl, q3⟩
      · exact ⟨k, hk, by rw [fb_bit_set]; simp, hs⟩
    have hl := fewN_low hsp (or_lt t1 hk) c
    cases hb : T.testBit k
    · exact ⟨T ||| 2 ^ k, ⟨or_lt t1 hk, c, by rw [pcn_on (by omega) hb]; omega⟩, by rw [fb_bit_set]; simp⟩
    · rw [or_same hb] at hl; omega
  · rintro ⟨S, ⟨s1, s2, s3⟩, hb⟩
    have c : Cvr (lessN sp k) (S ^^^ 2 ^ k) := by
      rw [Cvr_iff] at s2 ⊢
      intro i hi
      rw [lessN_bit hsp] at hi
      simp only [Bool.and_eq_true, Bool.not_eq_true'] at hi
      obtain ⟨q, q1, q2, q3⟩ := s2 i hi.1
      have hne : q ≠ k := fun e => by rw [e, hi.2] at q3; cases q3
      refine ⟨q, q1, ?_, q3⟩
      rw [fb_bit_flip, q2, decide_eq_false hne]; rfl
    have hl := fewN_low (lessN_lt (k := k) hsp) (xor_lt s1 hk) c
    have hp := pcn_off (S := S) (k := k) (by omega) hb
    have hf := few_less (k := k) hsp hk
    refine ⟨fun hz => ?_, by omega⟩
    have e : lessN sp k = sp := by
      apply Nat.eq_of_testBit_eq
      intro i
      rw [lessN_bit hsp]
      have h1 : (sp &&& shN k).testBit i = false := by rw [hz]; exact Nat.zero_testBit i
      rw [Nat.testBit_and] at h1
      cases ha : sp.testBit i
      · rfl
      · rw [ha] at h1; simp only [Bool.true_and] at h1 ⊢; rw [h1]; rfl
    rw [e] at hl
    omega
def lowN (S : Nat) : Nat := fa_first (fun i => S.testBit i) 16
theorem lowN_at {S : Nat} (h0 : S ≠ 0) (hS : S < 65536) : lowN S < 16 ∧ S.testBit (lowN S) = true ∧ ∀ i, i < lowN S → S.testBit i = false := by
  have hn := fa_first_no (fun i => S.testBit i) 16
  have hlt : lowN S < 16 := by
    apply Nat.lt_of_not_le
    intro q
    obtain ⟨i, hi⟩ := Nat.exists_testBit_of_ne_zero h0
    have hi16 : i < 16 := by
      apply Nat.lt_of_not_le
      intro q2
      have := Nat.testBit_lt_two_pow (x := S) (i := i) (Nat.lt_of_lt_of_le (show S < 2 ^ 16 from hS) (Nat.pow_le_pow_right (by decide) q2))
      rw [this] at hi; cases hi
    have h9 : S.testBit i = false := hn i (Nat.lt_of_lt_of_le hi16 q)
    rw [h9] at hi; cases hi
  exact ⟨hlt, fa_first_yes (fun i => S.testBit i) 16 hlt, fun i hi => hn i hi⟩
/-- the least of the first ones -/
def isLow (sp K : Nat) : Prop := (∃ S, isOpt sp S ∧ lowN S = K) ∧ ∀ S, isOpt sp S → K ≤ lowN S
theorem opt_ne {sp S : Nat} (hsp : sp < 2 ^ 25) (h0 : sp ≠ 0) (h : isOpt sp S) : S ≠ 0 := by
  intro e
  have := few_pos hsp h0
  have h2 := h.2.2
  rw [e, show pcn 0 = 0 by decide] at h2
  omega
theorem isLow_fir {sp K : Nat} (hsp : sp < 2 ^ 25) (h0 : sp ≠ 0) (h : isLow sp K) : K < 16 ∧ firP sp K ∧ ∀ k, k < K → ¬ firP sp k := by
  obtain ⟨⟨S, hS, hK⟩, hmin⟩ := h
  obtain ⟨a1, a2, a3⟩ := lowN_at (opt_ne hsp h0 hS) hS.1
  rw [hK] at a1 a2
  refine ⟨a1, (firP_iff hsp h0 a1).mpr ⟨S, hS, a2⟩, fun k hk q => ?_⟩
  obtain ⟨T, hT, hb⟩ := (firP_iff hsp h0 (by omega)).mp q
  have := hmin T hT
  obtain ⟨b1, b2, b3⟩ := lowN_at (opt_ne hsp h0 hT) hT.1
  have := b3 k (by omega)
  rw [this] at hb; cases hb
theorem neg_nI {S : Nat} (hS : S ≤ 2 ^ 32) : -nI S = nI (2 ^ 32 - S) := by
  have h1 : nI S + nI (2 ^ 32 - S) = 0 := by
    rw [nI_add, show S + (2 ^ 32 - S) = 2 ^ 32 by omega]; decide
  calc -nI S = -nI S + 0 := (Int32.add_zero _).symm
    _ = -nI S + (nI S + nI (2 ^ 32 - S)) := by rw [h1]
    _ = (-nI S + nI S) + nI (2 ^ 32 - S) := (Int32.add_assoc _ _ _).symm
    _ = nI (2 ^ 32 - S) := by rw [Int32.add_left_neg, Int32.zero_add]
theorem low_mask {S : Nat} (h0 : S ≠ 0) (hS : S < 65536) : nI S &&& (-nI S) = nI (2 ^ lowN S) := by
  obtain ⟨a1, a2, a3⟩ := lowN_at h0 hS
  generalize lowN S = k at *
  rw [neg_nI (by omega), fa_and]
  congr 1
  apply Nat.eq_of_testBit_eq
  intro i
  have e : 2 ^ 32 - S = 2 ^ 32 - ((S - 1) + 1) := by omega
  rw [Nat.testBit_and, e, Nat.testBit_two_pow_sub_succ (by omega), Nat.testBit_two_pow]
  -- the number by its lowest bit
  have hd : S = 2 ^ k * (S / 2 ^ k) := by
    have hm : S % 2 ^ k = 0 := by
      apply Nat.eq_of_testBit_eq
      intro q
      rw [Nat.testBit_mod_two_pow, Nat.zero_testBit]
      by_cases hq : q < k
      · rw [a3 q hq]; simp
      · simp [hq]
    have := Nat.div_add_mod S (2 ^ k)
    omega
  have ho : (S / 2 ^ k) % 2 = 1 := by
    have := a2
    rw [Nat.testBit_eq_decide_div_mod_eq] at this
    exact of_decide_eq_true this
  obtain ⟨q, hq⟩ : ∃ q, S / 2 ^ k = 2 * q + 1 := ⟨S / 2 ^ k / 2, by omega⟩
  rw [hq] at hd
  have hp : 0 < 2 ^ k := Nat.two_pow_pos k
  have hS1 : S - 1 = 2 ^ k * (2 * q) + (2 ^ k - 1) := by
    rw [hd, Nat.mul_add, Nat.mul_one]; omega
  have hlt : 2 ^ k - 1 < 2 ^ k := by omega
  rw [hS1, Nat.testBit_two_pow_mul_add _ hlt]
  by_cases hik : i < k
  · rw [a3 i hik]
    have : ¬ k = i := by omega
    simp [this]
  · rw [if_neg hik]
    by_cases hie : i = k
    · subst hie
      rw [a2, Nat.sub_self, Nat.testBit_zero]
      have : (2 * q) % 2 = 0 := by omega
      simp [this]
      omega
    · have e1 : S.testBit i = (2 * q).testBit (i - k) := by
        rw [hd, Nat.testBit_two_pow_mul, decide_eq_true (by omega), Bool.true_and]
        obtain ⟨z, hz⟩ : ∃ z, i - k = z + 1 := ⟨i - k - 1, by omega⟩
        rw [hz, Nat.testBit_succ, Nat.testBit_succ]
        congr 1; omega
      rw [e1]
      have : ¬ k = i := by omega
      cases (2 * q).testBit (i - k) <;> simp [this]
theorem pcn_ones {k : Nat} (hk : k ≤ 32) : pcn (2 ^ k - 1) = k := by
  unfold pcn
  rw [show (32 : Nat) = k + (32 - k) by omega, fb_ct_split]
  have h1 : fb_ct (fun i => (2 ^ k - 1).testBit i) k = k := fb_ct_all.mpr (fun i hi => by rw [Nat.testBit_two_pow_sub_one]; exact decide_eq_true hi)
  have h2 : fb_ct (fun i => (2 ^ k - 1).testBit (k + i)) (32 - k) = 0 := fb_ct_zero.mpr (fun i _ => by rw [Nat.testBit_two_pow_sub_one]; exact decide_eq_false (by omega))
  omega
section FIRST
variable {l : Launch} {D : zDD} {b : Nat} {γ : zGm} {σ : zSg} {τ : zLm} {Q : Int32 → zSg → zLm → Prop} {G : zSg → zLm → Prop}
theorem shN_I {i : Nat} (hi : i ≤ 18) : ((3 : Int32) <<< (nI i &&& 31)) ||| ((3 : Int32) <<< (nI (i + 5) &&& 31)) = nI ((3 * 2 ^ i) ||| (3 * 2 ^ (i + 5))) := by
  have h1 : 2 ^ i ≤ 2 ^ 18 := Nat.pow_le_pow_right (by decide) hi
  have h2 : 2 ^ (i + 5) ≤ 2 ^ 23 := Nat.pow_le_pow_right (by decide) (by omega)
  rw [show (3 : Int32) = nI 3 from rfl, nI_shl (by omega) (by omega), nI_shl (by omega) (by omega), fa_or]
theorem S_first {sp K : Nat} (hsp : sp < 2 ^ 25) (h0 : sp ≠ 0) (hK : isLow sp K) (h : ∀ σ', (∀ q, q ≠ 20 → q ≠ 21 → σ' q = σ q) → Q (nI (celN K)) σ' τ) : SI l D b M_X10_first 3 G0 [.ref (b + 19), .int (nI sp)] σ τ Q := by
  obtain ⟨k1, k2, k3⟩ := isLow_fir hsp h0 hK
  have hpos := few_pos hsp h0
  have hle := fewN_le hsp
  refine s_X10_first _ σ τ (S_fewest hsp (fun σ1 f1 => ?_))
  -- one place
  have one : ∀ k, k < 16 → ∀ σ', (∀ q, q ≠ 20 → q ≠ 21 → σ' q = σ q) → (firP sp k → ∀ σ'', (∀ q, q ≠ 20 → q ≠ 21 → σ'' q = σ q) → Q (nI (celN k)) σ'' τ) → (¬ firP sp k → ∀ σ'', (∀ q, q ≠ 20 → q ≠ 21 → σ'' q = σ q) → AI l D b M_X10_first 3 G0 Q 16 [(0, .ref (b + 19)), (1, .int (nI sp)), (2, .int (nI (fewN sp))), (3, .int (nI (k / 4))), (4, .int (nI (k % 4 + 1)))] [] G0 σ'' τ) → AI l D b M_X10_first 3 G0 Q 16 [(0, .ref (b + 19)), (1, .int (nI sp)), (2, .int (nI (fewN sp))), (3, .int (nI (k / 4))), (4, .int (nI (k % 4)))] [] G0 σ' τ := by
    intro k hk σ' f2 yes no
    refine w_X10_first_16 _ _ _ _ σ' τ ⟨fun c => ?_, fun c v e => ?_⟩
    · rw [show (4 : Int32) = nI 4 from rfl, nI_leI (by omega) (by omega)] at c; omega
    · have e5 : (5 : Int32) * nI (k / 4) + nI (k % 4) = nI (celN k) := by
        rw [show (5 : Int32) = nI 5 from rfl, pk_mul, nI_add]; rfl
      have hcel : celN k ≤ 18 := by unfold celN; omega
      rw [e5] at e ⊢
      rw [show (5 : Int32) = nI 5 from rfl, nI_add, shN_I hcel] at e
      have e : v = nI (shN k) := e
      have hsh := shN_lt ⟨k, hk⟩
      have hsh : shN k < 2 ^ 25 := hsh
      rw [e, fa_and, nI_1, nI_neg1, fa_and, show (0 : Int32) = nI 0 from rfl, nI_eq (Nat.lt_of_le_of_lt Nat.and_le_left (by omega)) (by decide)]
      refine ⟨fun c2 => no (fun q => q.1 c2) σ' f2, fun c2 => S_fewest (lessN_lt (k := k) hsp) (fun σ4 f4 => ?_)⟩
      have f5 : ∀ q, q ≠ 20 → q ≠ 21 → σ4 q = σ q := fun q q1 q2 => (f4 q q1 q2).trans (f2 q q1 q2)
      have hle2 := fewN_le (lessN_lt (k := k) hsp)
      rw [show sp &&& (shN k ^^^ 4294967295) = lessN sp k from rfl, show (1 : Int32) = nI 1 from rfl, pk_sub hpos, nI_eq (by omega) (by omega)]
      exact ⟨fun c3 => no (fun q => c3 q.2) σ4 f5, fun c3 => yes ⟨c2, c3⟩ σ4 f5⟩
  have key := lp_up (P := fun k => ∀ σ', (∀ q, q ≠ 20 → q ≠ 21 → σ' q = σ q) → AI l D b M_X10_first 3 G0 Q 16 [(0, .ref (b + 19)), (1, .int (nI sp)), (2, .int (nI (fewN sp))), (3, .int (nI (k / 4))), (4, .int (nI (k % 4)))] [] G0 σ' τ) (n := K) ?_ ?_ 0 (Nat.zero_le _)
  · refine w_X10_first_8 _ _ _ σ1 τ ⟨fun c => absurd c (by decide), fun _ => key σ1 f1⟩
  · intro k hk ih σ' f2
    refine one k (by omega) σ' f2 (fun q => absurd q (k3 k hk)) (fun _ σ'' f3 => ?_)
    by_cases e3 : k % 4 = 3
    · rw [e3]
      refine w_X10_first_16 _ _ _ _ σ'' τ ⟨fun _ => ?_, fun c => absurd (by decide) c⟩
      rw [nI_1]
      refine w_X10_first_8 _ _ _ σ'' τ ⟨fun c => ?_, fun _ => ?_⟩
      · rw [show (4 : Int32) = nI 4 from rfl, nI_leI (by omega) (by omega)] at c; omega
      · have := ih σ'' f3
        rw [show (k + 1) / 4 = k / 4 + 1 by omega, show (k + 1) % 4 = 0 by omega] at this
        exact this
    · have := ih σ'' f3
      rw [show (k + 1) / 4 = k / 4 by omega, show (k + 1) % 4 = k % 4 + 1 by omega] at this
      exact this
  · intro σ' f2
    exact one K k1 σ' f2 (fun _ => h) (fun q => absurd k2 q)
end FIRST
