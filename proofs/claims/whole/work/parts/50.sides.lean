/-! SHAPES: sides, parts, edge, hold; trouble. -/
theorem low_maskK {S k : Nat} (hS : S < 2 ^ 31) (a2 : S.testBit k = true) (a3 : ∀ i, i < k → S.testBit i = false) (hk : k < 31) : nI S &&& (-nI S) = nI (2 ^ k) := by
  have h0 : S ≠ 0 := fun e => by rw [e, Nat.zero_testBit] at a2; cases a2
  rw [neg_nI (by omega), fa_and]
  congr 1
  apply Nat.eq_of_testBit_eq
  intro i
  have e : 2 ^ 32 - S = 2 ^ 32 - ((S - 1) + 1) := by omega
  rw [Nat.testBit_and, e, Nat.testBit_two_pow_sub_succ (by omega), Nat.testBit_two_pow]
  have hd : S = 2 ^ k * (S / 2 ^ k) := by
    have hm : S % 2 ^ k = 0 := by
      apply Nat.eq_of_testBit_eq
      intro q
      rw [Nat.testBit_mod_two_pow, Nat.zero_testBit]
      by_cases hq : q < k
      · rw [a3 q hq]; simp
      · simp [hq]
    have := Nat.div_add_mod S (2 ^ k)
    omega
  have ho : (S / 2 ^ k) % 2 = 1 := by
    have := a2
    rw [Nat.testBit_eq_decide_div_mod_eq] at this
    exact of_decide_eq_true this
  obtain ⟨q, hq⟩ : ∃ q, S / 2 ^ k = 2 * q + 1 := ⟨S / 2 ^ k / 2, by omega⟩
  rw [hq] at hd
  have hp : 0 < 2 ^ k := Nat.two_pow_pos k
  have hS1 : S - 1 = 2 ^ k * (2 * q) + (2 ^ k - 1) := by
    rw [hd, Nat.mul_add, Nat.mul_one]; omega
  have hlt : 2 ^ k - 1 < 2 ^ k := by omega
  rw [hS1, Nat.testBit_two_pow_mul_add _ hlt]
  by_cases hik : i < k
  · rw [a3 i hik]
    have : ¬ k = i := by omega
    simp [this]
  · rw [if_neg hik]
    by_cases hie : i = k
    · subst hie
      rw [a2, Nat.sub_self, Nat.testBit_zero]
      have : (2 * q) % 2 = 0 := by omega
      simp [this]
      omega
    · have e1 : S.testBit i = (2 * q).testBit (i - k) := by
        rw [hd, Nat.testBit_two_pow_mul, decide_eq_true (by omega), Bool.true_and]
        obtain ⟨z, hz⟩ : ∃ z, i - k = z + 1 := ⟨i - k - 1, by omega⟩
        rw [hz, Nat.testBit_succ, Nat.testBit_succ]
        congr 1; omega
      rw [e1]
      have : ¬ k = i := by omega
      cases (2 * q).testBit (i - k) <;> simp [this]
theorem bit25 {s i : Nat} (hs : s < 2 ^ 25) (hi : 25 ≤ i) : s.testBit i = false := Nat.testBit_lt_two_pow (Nat.lt_of_lt_of_le hs (Nat.pow_le_pow_right (by decide) hi))
theorem lt25 {s : Nat} (h : ∀ i, 25 ≤ i → s.testBit i = false) : s < 2 ^ 25 := Nat.lt_pow_two_of_testBit s (fun i hi => h i hi)
def besN (s k : Nat) : Nat := match k with
  | 0 => 2 ^ 5 * s % 2 ^ 25
  | 1 => s / 2 ^ 5
  | 2 => 2 ^ 1 * (s &&& (17318416 ^^^ 4294967295))
  | _ => (s &&& (1082401 ^^^ 4294967295)) / 2 ^ 1
def nbS (k i : Nat) : Option Nat := match k with
  | 0 => if 5 ≤ i then some (i - 5) else none
  | 1 => if i < 20 then some (i + 5) else none
  | 2 => if i % 5 = 0 then none else some (i - 1)
  | _ => if i % 5 = 4 then none else some (i + 1)
def nbBit (s k i : Nat) : Bool := match nbS k i with
  | none => false
  | some j => s.testBit j
theorem tabL : ∀ j : Fin 25, (17318416 ^^^ 4294967295 : Nat).testBit j.1 = !decide (j.1 % 5 = 4) := by decide +kernel
theorem tabF : ∀ j : Fin 25, (1082401 ^^^ 4294967295 : Nat).testBit j.1 = !decide (j.1 % 5 = 0) := by decide +kernel
theorem bes_bit {s k i : Nat} (hs : s < 2 ^ 25) (hk : k < 4) : (besN s k).testBit i = (decide (i < 25) && nbBit s k i) := by
  rcases (show k = 0 ∨ k = 1 ∨ k = 2 ∨ k = 3 by omega) with rfl | rfl | rfl | rfl
  · show (2 ^ 5 * s % 2 ^ 25).testBit i = _
    rw [Nat.testBit_mod_two_pow, Nat.testBit_two_pow_mul]
    unfold nbBit nbS
    by_cases h : 5 ≤ i
    · simp [h]
    · simp [h]
  · show (s / 2 ^ 5).testBit i = _
    rw [Nat.testBit_div_two_pow]
    unfold nbBit nbS
    by_cases h : i < 20
    · simp [h, show i < 25 by omega, Nat.add_comm]
    · rw [bit25 hs (by omega)]
      simp [h]
  · show (2 ^ 1 * (s &&& (17318416 ^^^ 4294967295))).testBit i = _
    rw [Nat.testBit_two_pow_mul, Nat.testBit_and]
    unfold nbBit nbS
    by_cases h : 1 ≤ i
    · by_cases h2 : i - 1 < 25
      · rw [tabL ⟨i - 1, h2⟩]
        by_cases h3 : i % 5 = 0
        · have : (i - 1) % 5 = 4 := by omega
          simp [this, h3]
        · have : ¬ (i - 1) % 5 = 4 := by omega
          have h4 : i < 25 := by omega
          simp [this, h3, h, h4]
      · rw [bit25 hs (by omega)]
        have h4 : ¬ i < 25 := by omega
        simp [h4]
    · have : i = 0 := by omega
      subst this
      simp
  · show ((s &&& (1082401 ^^^ 4294967295)) / 2 ^ 1).testBit i = _
    rw [Nat.testBit_div_two_pow, Nat.testBit_and]
    unfold nbBit nbS
    by_cases h2 : i + 1 < 25
    · rw [tabF ⟨i + 1, h2⟩]
      have h4 : i < 25 := by omega
      by_cases h3 : i % 5 = 4
      · have : (i + 1) % 5 = 0 := by omega
        simp [this, h3]
      · have : ¬ (i + 1) % 5 = 0 := by omega
        simp [this, h3, h4]
    · rw [bit25 hs (by omega)]
      by_cases h4 : i < 25
      · have : i % 5 = 4 := by omega
        simp [this]
      · simp [h4]
theorem bes_lt {s k : Nat} (hs : s < 2 ^ 25) (hk : k < 4) : besN s k < 2 ^ 25 := lt25 (fun i hi => by
  rw [bes_bit hs hk, decide_eq_false (by omega)]; rfl)
def grT (sh S : Nat) : Nat → Nat
  | 0 => S
  | k + 1 => grT sh S k ||| (besN S k &&& sh)
def grN (s : Nat) : Nat := (((s ||| besN s 0) ||| besN s 1) ||| besN s 2) ||| besN s 3
def prt (sh S : Nat) : Nat → Nat
  | 0 => S
  | k + 1 => grT sh (prt sh S k) 4
def Sub (a c : Nat) : Prop := ∀ i, a.testBit i = true → c.testBit i = true
theorem Sub_lt {a c : Nat} (h : Sub a c) (hc : c < 2 ^ 25) : a < 2 ^ 25 := lt25 (fun i hi => by
  cases e : a.testBit i
  · rfl
  · have := h i e; rw [bit25 hc hi] at this; cases this)
theorem grT_sub {sh S : Nat} (h : Sub S sh) : ∀ k, Sub (grT sh S k) sh
  | 0 => h
  | k + 1 => fun i hi => by
    have hi : (grT sh S k ||| (besN S k &&& sh)).testBit i = true := hi
    rw [Nat.testBit_or, Bool.or_eq_true] at hi
    rcases hi with hi | hi
    · exact grT_sub h k i hi
    · rw [Nat.testBit_and, Bool.and_eq_true] at hi; exact hi.2
theorem grT_up {sh S : Nat} : ∀ k, Sub S (grT sh S k)
  | 0 => fun i h => h
  | k + 1 => fun i h => by
    show (grT sh S k ||| (besN S k &&& sh)).testBit i = true
    rw [Nat.testBit_or, grT_up k i h]; rfl
theorem prt_sub {sh S : Nat} (h : Sub S sh) : ∀ k, Sub (prt sh S k) sh
  | 0 => h
  | k + 1 => grT_sub (prt_sub h k) 4
theorem prt_up {sh S : Nat} : ∀ k, Sub S (prt sh S k)
  | 0 => fun i h => h
  | k + 1 => fun i h => grT_up 4 i (prt_up k i h)
theorem prt_fix {sh S k : Nat} (h : prt sh S (k + 1) = prt sh S k) : ∀ d, prt sh S (k + d) = prt sh S k
  | 0 => rfl
  | d + 1 => by
    show grT sh (prt sh S (k + d)) 4 = _
    rw [prt_fix h d]; exact h
theorem gr_and {sh S : Nat} (h : Sub S sh) : grN S &&& sh = grT sh S 4 := by
  apply Nat.eq_of_testBit_eq
  intro i
  show (((((S ||| besN S 0) ||| besN S 1) ||| besN S 2) ||| besN S 3) &&& sh).testBit i = ((((S ||| (besN S 0 &&& sh)) ||| (besN S 1 &&& sh)) ||| (besN S 2 &&& sh)) ||| (besN S 3 &&& sh)).testBit i
  simp only [Nat.testBit_or, Nat.testBit_and]
  have hi := h i
  revert hi
  cases S.testBit i <;> cases sh.testBit i <;> simp
theorem Sub_one {sh c : Nat} (h : sh.testBit c = true) : Sub (2 ^ c) sh := fun i hi => by
  rw [Nat.testBit_two_pow] at hi
  rw [← of_decide_eq_true hi]; exact h
def ptN (sh c : Nat) : Nat := prt sh (2 ^ c) 25
theorem ptN_lt {sh c : Nat} (hs : sh < 2 ^ 25) (h : sh.testBit c = true) : ptN sh c < 2 ^ 25 := Sub_lt (prt_sub (Sub_one h) 25) hs
theorem ptN_has {sh c : Nat} : (ptN sh c).testBit c = true := prt_up 25 c (by rw [Nat.testBit_two_pow]; exact decide_eq_true rfl)
def resP (sh : Nat) : Nat → Nat → Nat → Nat → Nat → Nat × Nat
  | 0, _, _, n, m => (n, m)
  | d + 1, c, L, n, m => if L.testBit c then resP sh d (c + 1) (L &&& (ptN sh c ^^^ 4294967295)) (n + 1) (max m (pcn (ptN sh c))) else resP sh d (c + 1) L n m
theorem less_sub {L P sh : Nat} (h : Sub L sh) : Sub (L &&& (P ^^^ 4294967295)) sh := fun i hi => by
  rw [Nat.testBit_and, Bool.and_eq_true] at hi; exact h i hi.1
theorem less_low {sh c L : Nat} (hs : L < 2 ^ 25) (h : ∀ i, i < c → L.testBit i = false) : ∀ i, i < c + 1 → (L &&& (ptN sh c ^^^ 4294967295)).testBit i = false := fun i hi => by
  rw [minus_bit (by omega)]
  rcases (show i = c ∨ i < c by omega) with rfl | q
  · rw [ptN_has]; simp
  · rw [h i q]; rfl
def opN (sh c : Nat) : Nat := fb_ct (fun k => !(besN sh k).testBit c) 4
def edgN (sh : Nat) : Nat := fb_sm (fun k => pcn (sh &&& (besN sh k ^^^ 4294967295))) 4
def hldB (sh c : Nat) : Bool := sh.testBit c && decide (3 ≤ opN sh c)
def msk (c : Nat) : Nat → Nat
  | 0 => 0
  | k + 1 => msk c k ||| (match nbS k c with
    | none => 0
    | some j => 2 ^ j)
theorem msk_tab : ∀ c : Fin 25, grN (2 ^ c.1) &&& (2 ^ c.1 ^^^ 4294967295) = msk c.1 4 := by decide +kernel
theorem nbS_tab : ∀ c : Fin 25, ∀ k : Fin 4, ∀ j : Fin 25, nbS k.1 c.1 = some j.1 → (msk c.1 k.1).testBit j.1 = false := by decide +kernel
theorem nbS_lt : ∀ c : Fin 25, ∀ k : Fin 4, (nbS k.1 c.1).getD 0 < 25 := by decide +kernel
theorem msk_pcn {sh c : Nat} (hs : sh < 2 ^ 25) (hc : c < 25) : ∀ k, k ≤ 4 → pcn (msk c k &&& sh) = fb_ct (fun q => (besN sh q).testBit c) k
  | 0, _ => by
    rw [show msk c 0 = 0 from rfl, Nat.zero_and]; rfl
  | k + 1, hk => by
    have ih := msk_pcn hs hc k (by omega)
    rw [fb_ct_succ, bes_bit hs (by omega), decide_eq_true hc, Bool.true_and, ← ih]
    rw [show msk c (k + 1) = msk c k ||| (match nbS k c with | none => 0 | some j => 2 ^ j) from rfl]
    unfold nbBit
    have hlt := nbS_lt ⟨c, hc⟩ ⟨k, by omega⟩
    have htab := nbS_tab ⟨c, hc⟩ ⟨k, by omega⟩
    cases e : nbS k c with
    | none => simp
    | some j =>
      have e2 : nbS k c = some j := e
      simp only [e2, Option.getD_some] at hlt
      have hb : (msk c k).testBit j = false := htab ⟨j, hlt⟩ e2
      show pcn ((msk c k ||| 2 ^ j) &&& sh) = pcn (msk c k &&& sh) + (if sh.testBit j = true then 1 else 0)
      cases hj : sh.testBit j
      · rw [if_neg (by decide), Nat.add_zero]
        congr 1
        apply Nat.eq_of_testBit_eq
        intro i
        rw [Nat.testBit_and, fb_bit_set, Nat.testBit_and]
        by_cases q : i = j
        · subst q; rw [hj]; simp
        · simp [q]
      · rw [if_pos rfl, ← pcn_on (k := j) (by omega) (by rw [Nat.testBit_and, hb]; rfl)]
        congr 1
        apply Nat.eq_of_testBit_eq
        intro i
        rw [Nat.testBit_and, fb_bit_set, fb_bit_set, Nat.testBit_and]
        by_cases q : i = j
        · subst q; rw [hj]; simp
        · simp [q]
theorem sm_swap (q : Nat → Nat → Bool) (K : Nat) : ∀ n, fb_sm (fun k => fb_ct (fun c => q k c) n) K = fb_sm (fun c => fb_ct (fun k => q k c) K) n
  | 0 => by
    rw [show fb_sm (fun c => fb_ct (fun k => q k c) K) 0 = 0 from rfl]
    have : fb_sm (fun k => fb_ct (fun c => q k c) 0) K = fb_sm (fun _ => 0) K := rfl
    rw [this, fb_sm_const, Nat.mul_zero]
  | n + 1 => by
    rw [fb_sm_succ, ← sm_swap q K n]
    have e : fb_sm (fun k => fb_ct (fun c => q k c) (n + 1)) K = fb_sm (fun k => fb_ct (fun c => q k c) n + (if q k n then 1 else 0)) K := rfl
    rw [e, fb_sm_add]
    congr 1
    clear e
    induction K with
    | zero => rfl
    | succ K ih => rw [fb_sm_succ, fb_ct_succ, ih]
theorem pcn25 {n : Nat} (h : n < 2 ^ 25) : pcn n = fb_ct (fun i => n.testBit i) 25 := by
  unfold pcn
  rw [show (32 : Nat) = 25 + 7 from rfl, fb_ct_split]
  have e : fb_ct (fun k => n.testBit (25 + k)) 7 = 0 := fb_ct_zero.mpr (fun i _ => bit25 h (by omega))
  omega
theorem edg_alt {sh : Nat} (hs : sh < 2 ^ 25) : edgN sh = fb_sm (fun c => if sh.testBit c then opN sh c else 0) 25 := by
  unfold edgN
  have e1 : fb_sm (fun k => pcn (sh &&& (besN sh k ^^^ 4294967295))) 4 = fb_sm (fun k => fb_ct (fun c => sh.testBit c && !(besN sh k).testBit c) 25) 4 := fb_sm_cong (fun k _ => by
    rw [pcn25 (Nat.lt_of_le_of_lt Nat.and_le_left hs)]
    exact fb_ct_cong (fun c _ => minus_bit (by omega)))
  rw [e1, sm_swap]
  refine fb_sm_cong (fun c _ => ?_)
  unfold opN
  cases sh.testBit c
  · rw [if_neg (by decide)]
    exact fb_ct_zero.mpr (fun k _ => rfl)
  · rw [if_pos rfl]
    exact fb_ct_cong (fun k _ => rfl)
section SIDES
variable {l : Launch} {D : zDD} {b : Nat} {γ : zGm} {σ : zSg} {τ : zLm} {p : Pl} {A : Sc} {U : Un} {X : Xt} {Q : Int32 → zSg → zLm → Prop} {G : zSg → zLm → Prop}
theorem S_bes {s k : Nat} (hs : s < 2 ^ 25) (hk : k < 4) (h : Q (nI (besN s k)) σ τ) : SI l D b M_X9_besideIt 0 γ [.int (nI s), .int (nI k)] σ τ Q := by
  have hl2 : s &&& (17318416 ^^^ 4294967295) < 2 ^ 25 := Nat.lt_of_le_of_lt Nat.and_le_left hs
  have hl3 : s &&& (1082401 ^^^ 4294967295) < 2 ^ 25 := Nat.lt_of_le_of_lt Nat.and_le_left hs
  refine s_X9_besideIt _ _ σ τ ?_
  rcases (show k = 0 ∨ k = 1 ∨ k = 2 ∨ k = 3 by omega) with rfl | rfl | rfl | rfl
  · refine ⟨fun q => absurd q (by decide), fun _ => ?_, fun q => absurd q (by decide), fun q => absurd q (by decide)⟩
    rw [show (5 : Int32) = nI 5 from rfl, nI_shl (by decide) (by omega), show (33554431 : Int32) = nI (2 ^ 25 - 1) from rfl, fa_mask, Nat.mul_comm]
    exact h
  · refine ⟨fun q => absurd q (by decide), fun q => absurd q (by decide), fun _ => ?_, fun q => absurd q (by decide)⟩
    rw [show (5 : Int32) = nI 5 from rfl, nI_shr (by omega) (by decide)]
    exact h
  · refine ⟨fun q => absurd q (by decide), fun q => absurd q (by decide), fun q => absurd q (by decide), fun _ => ?_⟩
    rw [show (-17318417 : Int32) = nI (17318416 ^^^ 4294967295) by decide, fa_and, show (1 : Int32) = nI 1 from rfl, nI_shl (by decide) (by omega), Nat.mul_comm]
    exact h
  · refine ⟨fun _ => ?_, fun q => absurd q (by decide), fun q => absurd q (by decide), fun q => absurd q (by decide)⟩
    rw [show (-1082402 : Int32) = nI (1082401 ^^^ 4294967295) by decide, fa_and, show (1 : Int32) = nI 1 from rfl, nI_shr (by omega) (by decide)]
    exact h
theorem S_partFrom {sh S : Nat} (hsh : sh < 2 ^ 25) (hS : Sub S sh) (h : Q (nI (prt sh S 25)) σ τ) : SI l D b M_X9_partFrom 1 γ [.int (nI sh), .int (nI S)] σ τ Q := by
  refine s_X9_partFrom _ _ σ τ ?_
  refine lp_up (P := fun k => AI l D b M_X9_partFrom 1 γ Q 4 [(0, .int (nI sh)), (2, .int (nI (prt sh S k))), (3, .int (nI k))] [] γ σ τ) (n := 25) ?_ ?_ 0 (Nat.zero_le _)
  · intro k hk ih
    have hP : prt sh S k < 2 ^ 25 := Sub_lt (prt_sub hS k) hsh
    have hP2 : grT sh (prt sh S k) 4 < 2 ^ 25 := Sub_lt (prt_sub hS (k + 1)) hsh
    refine w_X9_partFrom_4 _ _ _ σ τ ⟨fun c => ?_, fun _ => ?_⟩
    · rw [show (25 : Int32) = nI 25 from rfl, nI_leI (by omega) (by omega)] at c; omega
    · refine lp_up (P := fun j => AI l D b M_X9_partFrom 1 γ Q 16 [(0, .int (nI sh)), (2, .int (nI (prt sh S k))), (3, .int (nI k)), (4, .int (nI (grT sh (prt sh S k) j))), (5, .int (nI j))] [] γ σ τ) (n := 4) ?_ ?_ 0 (Nat.zero_le _)
      · intro j hj ih2
        refine w_X9_partFrom_16 _ _ _ _ _ σ τ ⟨fun c => ?_, fun _ => S_bes hP hj ?_⟩
        · rw [show (4 : Int32) = nI 4 from rfl, nI_leI (by omega) (by omega)] at c; omega
        · rw [fa_and, fa_or, nI_1]; exact ih2
      · refine w_X9_partFrom_16 _ _ _ _ _ σ τ ⟨fun _ => ?_, fun c => absurd (nI_le (Nat.le_refl 4) (by decide)) c⟩
        rw [nI_1, nI_eq (by omega) (by omega)]
        refine ⟨fun _ => ih, fun e => ?_⟩
        have := prt_fix (show prt sh S (k + 1) = prt sh S k from e) (25 - k)
        rw [show k + (25 - k) = 25 by omega] at this
        rw [this] at h
        exact h
  · exact w_X9_partFrom_4 _ _ _ σ τ ⟨fun _ => h, fun c => absurd (nI_le (Nat.le_refl 25) (by decide)) c⟩
def lfT : Nat → Nat
  | 0 => 0
  | k + 1 => lfT k ||| 15 * 2 ^ (5 * k)
theorem tabA : ∀ j : Fin 25, (lfT 5).testBit j.1 = (17318416 ^^^ 4294967295 : Nat).testBit j.1 ∧ (lfT 5 * 2 ^ 1).testBit j.1 = (1082401 ^^^ 4294967295 : Nat).testBit j.1 := by decide +kernel
theorem and_tab {s a c : Nat} (hs : s < 2 ^ 25) (h : ∀ j, j < 25 → a.testBit j = c.testBit j) : s &&& a = s &&& c := by
  apply Nat.eq_of_testBit_eq
  intro i
  rw [Nat.testBit_and, Nat.testBit_and]
  by_cases q : i < 25
  · rw [h i q]
  · rw [bit25 hs (by omega)]; rfl
theorem M_grown {s : Nat} (hs : s < 2 ^ 25) (h : Q (nI (grN s)) σ τ) : SI l D b M_X12_grown 0 γ [.int (nI s)] σ τ Q := by
  refine s_X12_grown _ σ τ ?_
  refine lp_up (P := fun k => AI l D b M_X12_grown 0 γ Q 4 [(0, .int (nI s)), (1, .int (nI (lfT k))), (2, .int (nI k))] [] γ σ τ) (n := 5) ?_ ?_ 0 (Nat.zero_le _)
  · intro k hk ih
    refine w_X12_grown_4 _ _ _ σ τ ⟨fun c => ?_, fun _ v ev => ?_⟩
    · rw [show (5 : Int32) = nI 5 from rfl, nI_leI (by omega) (by omega)] at c; omega
    · have hp : 2 ^ (5 * k) ≤ 2 ^ 20 := Nat.pow_le_pow_right (by decide) (by omega)
      rw [show (5 : Int32) = nI 5 from rfl, pk_mul, show (15 : Int32) = nI 15 from rfl, nI_shl (by omega) (by omega), fa_or] at ev
      rw [ev, nI_1]; exact ih
  · refine w_X12_grown_4 _ _ _ σ τ ⟨fun _ => ?_, fun c => absurd (nI_le (Nat.le_refl 5) (by decide)) c⟩
    have hl5 : lfT 5 = 16236015 := by decide
    have e2 : s &&& lfT 5 = s &&& (17318416 ^^^ 4294967295) := and_tab hs (fun j hj => (tabA ⟨j, hj⟩).1)
    have e3 : s &&& (lfT 5 * 2 ^ 1) = s &&& (1082401 ^^^ 4294967295) := and_tab hs (fun j hj => (tabA ⟨j, hj⟩).2)
    have hl2 : s &&& (17318416 ^^^ 4294967295) < 2 ^ 25 := Nat.lt_of_le_of_lt Nat.and_le_left hs
    have hl3 : s &&& (1082401 ^^^ 4294967295) < 2 ^ 25 := Nat.lt_of_le_of_lt Nat.and_le_left hs
    rw [show (5 : Int32) = nI 5 from rfl, nI_shl (by decide) (by omega), show (33554431 : Int32) = nI (2 ^ 25 - 1) from rfl, fa_mask, nI_shr (by omega) (by decide), show (1 : Int32) = nI 1 from rfl, nI_shl (n := lfT 5) (by decide) (by rw [hl5]; decide), fa_and, fa_and, e2, e3, nI_shl (by decide) (by omega), nI_shr (by omega) (by decide), fa_or, fa_or, fa_or, fa_or]
    have e : grN s = (((s ||| s * 2 ^ 5 % 2 ^ 25) ||| s / 2 ^ 5) ||| (s &&& (17318416 ^^^ 4294967295)) * 2 ^ 1) ||| (s &&& (1082401 ^^^ 4294967295)) / 2 ^ 1 := by
      rw [Nat.mul_comm s, Nat.mul_comm _ (2 ^ 1)]; rfl
    rw [e] at h
    exact h
theorem gr_lt {s : Nat} (hs : s < 2 ^ 25) : grN s < 2 ^ 25 := Nat.or_lt_two_pow (Nat.or_lt_two_pow (Nat.or_lt_two_pow (Nat.or_lt_two_pow hs (bes_lt hs (by decide))) (bes_lt hs (by decide))) (bes_lt hs (by decide))) (bes_lt hs (by decide))
theorem M_partOf {sh c : Nat} (hsh : sh < 2 ^ 25) (hc : c < 25) (hb : sh.testBit c = true) (h : Q (nI (ptN sh c)) σ τ) : SI l D b M_X12_partOf 1 γ [.int (nI sh), .int (nI c)] σ τ Q := by
  refine s_X12_partOf _ _ σ τ (fun v ev => ?_)
  rw [nI_sh (by omega)] at ev
  subst ev
  refine lp_up (P := fun k => AI l D b M_X12_partOf 1 γ Q 6 [(0, .int (nI sh)), (2, .int (nI (prt sh (2 ^ c) k))), (3, .int (nI k))] [] γ σ τ) (n := 25) ?_ ?_ 0 (Nat.zero_le _)
  · intro k hk ih
    have hS := prt_sub (Sub_one hb) k
    refine w_X12_partOf_6 _ _ _ σ τ ⟨fun c => ?_, fun _ => M_grown (Sub_lt hS hsh) ?_⟩
    · rw [show (25 : Int32) = nI 25 from rfl, nI_leI (by omega) (by omega)] at c; omega
    · rw [fa_and, gr_and hS, nI_1]; exact ih
  · exact w_X12_partOf_6 _ _ _ σ τ ⟨fun _ => h, fun c => absurd (nI_le (Nat.le_refl 25) (by decide)) c⟩
theorem S_parts {sh : Nat} (hsh : sh < 2 ^ 25) (h : Q (nI (resP sh 25 0 sh 0 0).1) σ τ) : SI l D b M_X9_parts 2 γ [.int (nI sh)] σ τ Q := by
  refine s_X9_parts _ σ τ ?_
  suffices H : ∀ d c L n m x3, c + d = 25 → Sub L sh → (∀ i, i < c → L.testBit i = false) → x3 ≤ c → Q (nI (resP sh d c L n m).1) σ τ → AI l D b M_X9_parts 2 γ Q 6 [(0, .int (nI sh)), (1, .int (nI L)), (2, .int (nI n)), (3, .int (nI x3))] [] γ σ τ from H 25 0 sh 0 0 0 rfl (fun _ h => h) (fun i hi => absurd hi (Nat.not_lt_zero i)) (Nat.le_refl 0) h
  intro d
  induction d with
  | zero =>
    intro c L n m x3 hcd hL hlow hx hQ
    have hL0 : L = 0 := by
      apply Nat.eq_of_testBit_eq
      intro i
      rw [Nat.zero_testBit]
      rcases Nat.lt_or_ge i 25 with q | q
      · exact hlow i (by omega)
      · exact bit25 (Sub_lt hL hsh) q
    subst hL0
    exact w_X9_parts_6 _ _ _ _ σ τ ⟨fun _ => hQ, fun _ => ⟨fun _ => hQ, fun q => absurd rfl q⟩⟩
  | succ d ih =>
    intro c L n m x3 hcd hL hlow hx hQ
    have hL25 := Sub_lt hL hsh
    unfold resP at hQ
    cases hb : L.testBit c
    · rw [hb, if_neg (by decide)] at hQ
      refine ih (c + 1) L n m x3 (by omega) hL (fun i hi => ?_) (by omega) hQ
      rcases (show i = c ∨ i < c by omega) with rfl | q
      · exact hb
      · exact hlow i q
    · rw [hb, if_pos rfl] at hQ
      have hne : L ≠ 0 := fun e => by rw [e, Nat.zero_testBit] at hb; cases hb
      refine w_X9_parts_6 _ _ _ _ σ τ ⟨fun q => ?_, fun _ => ⟨fun q => ?_, fun _ => ?_⟩⟩
      · rw [show (25 : Int32) = nI 25 from rfl, nI_leI (by omega) (by omega)] at q; omega
      · rw [show (0 : Int32) = nI 0 from rfl, nI_eq (by omega) (by omega)] at q; exact absurd q hne
      · rw [low_maskK (by omega) hb hlow (by omega)]
        refine S_partFrom hsh (Sub_one (hL c hb)) ?_
        rw [nI_neg1, fa_and, nI_1, nI_1]
        exact ih (c + 1) _ (n + 1) _ (x3 + 1) (by omega) (less_sub hL) (less_low hL25 hlow) (by omega) hQ
theorem S_greatest {sh : Nat} (hsh : sh < 2 ^ 25) (h : Q (nI (resP sh 25 0 sh 0 0).2) σ τ) : SI l D b M_X9_greatestPart 2 γ [.int (nI sh)] σ τ Q := by
  refine s_X9_greatestPart _ σ τ ?_
  suffices H : ∀ d c L n m x3, c + d = 25 → Sub L sh → (∀ i, i < c → L.testBit i = false) → x3 ≤ c → m ≤ 32 → Q (nI (resP sh d c L n m).2) σ τ → AI l D b M_X9_greatestPart 2 γ Q 6 [(0, .int (nI sh)), (1, .int (nI L)), (2, .int (nI m)), (3, .int (nI x3))] [] γ σ τ from H 25 0 sh 0 0 0 rfl (fun _ h => h) (fun i hi => absurd hi (Nat.not_lt_zero i)) (Nat.le_refl 0) (by decide) h
  intro d
  induction d with
  | zero =>
    intro c L n m x3 hcd hL hlow hx hm hQ
    have hL0 : L = 0 := by
      apply Nat.eq_of_testBit_eq
      intro i
      rw [Nat.zero_testBit]
      rcases Nat.lt_or_ge i 25 with q | q
      · exact hlow i (by omega)
      · exact bit25 (Sub_lt hL hsh) q
    subst hL0
    exact w_X9_greatestPart_6 _ _ _ _ σ τ ⟨fun _ => hQ, fun _ => ⟨fun _ => hQ, fun q => absurd rfl q⟩⟩
  | succ d ih =>
    intro c L n m x3 hcd hL hlow hx hm hQ
    have hL25 := Sub_lt hL hsh
    unfold resP at hQ
    cases hb : L.testBit c
    · rw [hb, if_neg (by decide)] at hQ
      refine ih (c + 1) L n m x3 (by omega) hL (fun i hi => ?_) (by omega) hm hQ
      rcases (show i = c ∨ i < c by omega) with rfl | q
      · exact hb
      · exact hlow i q
    · rw [hb, if_pos rfl] at hQ
      have hne : L ≠ 0 := fun e => by rw [e, Nat.zero_testBit] at hb; cases hb
      refine w_X9_greatestPart_6 _ _ _ _ σ τ ⟨fun q => ?_, fun _ => ⟨fun q => ?_, fun _ => ?_⟩⟩
      · rw [show (25 : Int32) = nI 25 from rfl, nI_leI (by omega) (by omega)] at q; omega
      · rw [show (0 : Int32) = nI 0 from rfl, nI_eq (by omega) (by omega)] at q; exact absurd q hne
      · rw [low_maskK (by omega) hb hlow (by omega)]
        have hpt : ptN sh c < 2 ^ 25 := ptN_lt hsh (hL c hb)
        have hpl := pcn_le (ptN sh c)
        refine S_partFrom hsh (Sub_one (hL c hb)) (S_bitCount (n := ptN sh c) (by omega) σ τ ?_)
        rw [nI_neg1, fa_and, nI_1, mx_nI (by omega) (by omega)]
        exact ih (c + 1) _ (n + 1) _ (x3 + 1) (by omega) (less_sub hL) (less_low hL25 hlow) (by omega) (by omega) hQ
theorem M_parts {sh : Nat} {x1 : Int32} (hsh : sh < 2 ^ 25) (h0 : x1 = 0 → Q (nI (resP sh 25 0 sh 0 0).1) σ τ) (h1 : ¬ x1 = 0 → ∀ B, B < 2 ^ 25 → pcn B = (resP sh 25 0 sh 0 0).2 → Q (nI B) σ τ) : SI l D b M_X12_parts 2 γ [.int (nI sh), .int x1] σ τ Q := by
  refine s_X12_parts _ _ σ τ ?_
  suffices H : ∀ d c L n B, c + d = 25 → Sub L sh → B < 2 ^ 25 → (x1 = 0 → Q (nI (resP sh d c L n (pcn B)).1) σ τ) → (¬ x1 = 0 → ∀ B', B' < 2 ^ 25 → pcn B' = (resP sh d c L n (pcn B)).2 → Q (nI B') σ τ) → AI l D b M_X12_parts 2 γ Q 10 [(0, .int (nI sh)), (1, .int x1), (2, .int (nI n)), (3, .int (nI B)), (4, .int (nI L)), (5, .int (nI c))] [] γ σ τ from H 25 0 sh 0 0 rfl (fun _ h => h) (by decide) h0 h1
  intro d
  induction d with
  | zero =>
    intro c L n B hcd hL hB q0 q1
    have : c = 25 := by omega
    subst this
    exact w_X12_parts_10 _ _ _ _ _ _ σ τ ⟨fun _ => ⟨q0, fun q => q1 q B hB rfl⟩, fun c => absurd (nI_le (Nat.le_refl 25) (by decide)) c⟩
  | succ d ih =>
    intro c L n B hcd hL hB q0 q1
    have hL25 := Sub_lt hL hsh
    unfold resP at q0 q1
    refine w_X12_parts_10 _ _ _ _ _ _ σ τ ⟨fun q => ?_, fun _ => M_has (by omega) (by omega) ⟨fun cb => ?_, fun cb => ?_⟩⟩
    · rw [show (25 : Int32) = nI 25 from rfl, nI_leI (by omega) (by omega)] at q; omega
    · have hb := (bI_0 _).mp cb
      rw [hb, if_neg (by decide)] at q0 q1
      rw [nI_1]
      exact ih (c + 1) L n B (by omega) hL hB q0 q1
    · have hb := (bI_n0 _).mp cb
      rw [hb, if_pos rfl] at q0 q1
      have hpt : ptN sh c < 2 ^ 25 := ptN_lt hsh (hL c hb)
      have hpl := pcn_le (ptN sh c)
      have hpl2 := pcn_le B
      refine M_partOf hsh (by omega) (hL c hb) (S_bits (by omega) σ τ (S_bits (by omega) σ τ ?_))
      rw [nI_neg1, fa_and, nI_1, nI_1, nI_leI (by omega) (by omega)]
      refine ⟨fun q => ?_, fun q => ?_⟩
      · rw [show max (pcn B) (pcn (ptN sh c)) = pcn B by omega] at q0 q1
        exact ih (c + 1) _ (n + 1) B (by omega) (less_sub hL) hB q0 q1
      · rw [show max (pcn B) (pcn (ptN sh c)) = pcn (ptN sh c) by omega] at q0 q1
        exact ih (c + 1) _ (n + 1) _ (by omega) (less_sub hL) hpt q0 q1
theorem S_edge {sh : Nat} (hsh : sh < 2 ^ 25) (h : Q (nI (edgN sh)) σ τ) : SI l D b M_X9_edge 1 γ [.int (nI sh)] σ τ Q := by
  refine s_X9_edge _ σ τ ?_
  refine lp_up (P := fun k => AI l D b M_X9_edge 1 γ Q 4 [(0, .int (nI sh)), (1, .int (nI (fb_sm (fun k => pcn (sh &&& (besN sh k ^^^ 4294967295))) k))), (2, .int (nI k))] [] γ σ τ) (n := 4) ?_ ?_ 0 (Nat.zero_le _)
  · intro k hk ih
    refine w_X9_edge_4 _ _ _ σ τ ⟨fun c => ?_, fun _ => S_bes hsh hk ?_⟩
    · rw [show (4 : Int32) = nI 4 from rfl, nI_leI (by omega) (by omega)] at c; omega
    · rw [nI_neg1, fa_and]
      have hl : sh &&& (besN sh k ^^^ 4294967295) ≤ sh := Nat.and_le_left
      refine S_bitCount (by omega) σ τ ?_
      rw [nI_add, nI_1]; exact ih
  · exact w_X9_edge_4 _ _ _ σ τ ⟨fun _ => h, fun c => absurd (nI_le (Nat.le_refl 4) (by decide)) c⟩
theorem op_le (sh c : Nat) : opN sh c ≤ 4 := fb_ct_le _ _
theorem S_open {sh c : Nat} (hsh : sh < 2 ^ 25) (hc : c < 25) (h : Q (nI (opN sh c)) σ τ) : SI l D b M_X9_openSides 1 γ [.int (nI sh), .int (nI c)] σ τ Q := by
  refine s_X9_openSides _ _ σ τ ?_
  refine lp_up (P := fun k => AI l D b M_X9_openSides 1 γ Q 4 [(0, .int (nI sh)), (1, .int (nI c)), (2, .int (nI (fb_ct (fun k => !(besN sh k).testBit c) k))), (3, .int (nI k))] [] γ σ τ) (n := 4) ?_ ?_ 0 (Nat.zero_le _)
  · intro k hk ih
    refine w_X9_openSides_4 _ _ _ _ σ τ ⟨fun c => ?_, fun _ => S_bes hsh hk (S_has (by omega) ⟨fun q => ?_, fun q => ?_⟩)⟩
    · rw [show (4 : Int32) = nI 4 from rfl, nI_leI (by omega) (by omega)] at c; omega
    · have q := (bI_n0 _).mp q
      rw [fb_ct_succ, q, Bool.not_true, if_neg (by decide)] at ih
      rw [nI_1]; exact ih
    · have q := (bI_0 _).mp q
      rw [fb_ct_succ, q, Bool.not_false, if_pos rfl] at ih
      rw [nI_1, nI_1]; exact ih
  · exact w_X9_openSides_4 _ _ _ _ σ τ ⟨fun _ => h, fun c => absurd (nI_le (Nat.le_refl 4) (by decide)) c⟩
theorem M_edgeOf {sh c : Nat} (hsh : sh < 2 ^ 25) (hc : c < 25) (h : Q (nI (opN sh c)) σ τ) : SI l D b M_X12_edgeOf 1 γ [.int (nI sh), .int (nI c)] σ τ Q := by
  refine s_X12_edgeOf _ _ σ τ ?_
  rw [nI_sh (by omega)]
  have hpow : 2 ^ c < 2 ^ 25 := Nat.pow_lt_pow_right (by decide) hc
  refine M_grown hpow (fun v ev => ?_)
  have mt : grN (2 ^ c) &&& (2 ^ c ^^^ 4294967295) = msk c 4 := msk_tab ⟨c, hc⟩
  rw [nI_neg1, fa_and, fa_and, mt] at ev
  subst ev
  have hl : msk c 4 &&& sh ≤ sh := Nat.and_le_right
  refine S_bits (by omega) σ τ ?_
  have e := msk_pcn hsh hc 4 (Nat.le_refl 4)
  have e2 := fb_ct_not (fun q => (besN sh q).testBit c) 4
  have e3 : fb_ct (fun k => !(besN sh k).testBit c) 4 = opN sh c := rfl
  have e2 : fb_ct (fun q => (besN sh q).testBit c) 4 + opN sh c = 4 := e2
  show Q (4 - nI (pcn (msk c 4 &&& sh))) σ τ
  rw [show (4 : Int32) = nI 4 from rfl, pk_sub (by omega), show 4 - pcn (msk c 4 &&& sh) = opN sh c by omega]
  exact h
theorem M_edge {sh : Nat} (hsh : sh < 2 ^ 25) (h : Q (nI (edgN sh)) σ τ) : SI l D b M_X12_edge 2 γ [.int (nI sh)] σ τ Q := by
  rw [edg_alt hsh] at h
  refine s_X12_edge _ σ τ ?_
  refine lp_up (P := fun k => AI l D b M_X12_edge 2 γ Q 4 [(0, .int (nI sh)), (1, .int (nI (fb_sm (fun c => if sh.testBit c then opN sh c else 0) k))), (2, .int (nI k))] [] γ σ τ) (n := 25) ?_ ?_ 0 (Nat.zero_le _)
  · intro k hk ih
    refine w_X12_edge_4 _ _ _ σ τ ⟨fun c => ?_, fun _ => M_has (by omega) (by omega) ⟨fun q => ?_, fun q => M_edgeOf hsh hk ?_⟩⟩
    · rw [show (25 : Int32) = nI 25 from rfl, nI_leI (by omega) (by omega)] at c; omega
    · have q := (bI_0 _).mp q
      rw [fb_sm_succ, q, if_neg (by decide)] at ih
      rw [nI_1, show (0 : Int32) = nI 0 from rfl, nI_add]; exact ih
    · have q := (bI_n0 _).mp q
      rw [fb_sm_succ, q, if_pos rfl] at ih
      rw [nI_1, nI_add]; exact ih
  · exact w_X12_edge_4 _ _ _ σ τ ⟨fun _ => h, fun c => absurd (nI_le (Nat.le_refl 25) (by decide)) c⟩
theorem S_hold {sh : Nat} (hsh : sh < 2 ^ 25) (h : Q (nI (stN (hldB sh) 25)) σ τ) : SI l D b M_X9_hold 2 γ [.int (nI sh)] σ τ Q := by
  refine s_X9_hold _ σ τ ?_
  refine lp_up (P := fun k => AI l D b M_X9_hold 2 γ Q 4 [(0, .int (nI sh)), (1, .int (nI (stN (hldB sh) k))), (2, .int (nI k))] [] γ σ τ) (n := 25) ?_ ?_ 0 (Nat.zero_le _)
  · intro k hk ih
    have hs := stN_step (hldB sh) (t := k) (by omega)
    have ho := op_le sh k
    refine w_X9_hold_4 _ _ _ σ τ ⟨fun c => ?_, fun _ => S_has (by omega) ⟨fun q => ?_, fun q => S_open hsh hk ?_⟩⟩
    · rw [show (25 : Int32) = nI 25 from rfl, nI_leI (by omega) (by omega)] at c; omega
    · have q := (bI_0 _).mp q
      rw [show hldB sh k = false by unfold hldB; rw [q]; rfl, if_neg (by decide), or0] at hs
      rw [nI_1, hs]; exact ih
    · have q := (bI_n0 _).mp q
      rw [show (3 : Int32) = nI 3 from rfl, nI_ltI (by omega) (by omega)]
      refine ⟨fun c => ?_, fun c v ev => ?_⟩
      · rw [show hldB sh k = false by unfold hldB; rw [q, decide_eq_false (by omega)]; rfl, if_neg (by decide), or0] at hs
        rw [nI_1, hs]; exact ih
      · rw [show hldB sh k = true by unfold hldB; rw [q, decide_eq_true (by omega)]; rfl, if_pos rfl] at hs
        rw [ev, nI_1, hs]; exact ih
  · exact w_X9_hold_4 _ _ _ σ τ ⟨fun _ => h, fun c => absurd (nI_le (Nat.le_refl 25) (by decide)) c⟩
theorem M_hold {sh : Nat} (hsh : sh < 2 ^ 25) (h : Q (nI (stN (hldB sh) 25)) σ τ) : SI l D b M_X12_hold 2 γ [.int (nI sh)] σ τ Q := by
  refine s_X12_hold _ σ τ ?_
  refine lp_up (P := fun k => AI l D b M_X12_hold 2 γ Q 4 [(0, .int (nI sh)), (1, .int (nI (stN (hldB sh) k))), (2, .int (nI k))] [] γ σ τ) (n := 25) ?_ ?_ 0 (Nat.zero_le _)
  · intro k hk ih
    have hs := stN_step (hldB sh) (t := k) (by omega)
    have ho := op_le sh k
    refine w_X12_hold_4 _ _ _ σ τ ⟨fun c => ?_, fun _ => M_has (by omega) (by omega) ⟨fun q => ?_, fun q => M_edgeOf hsh hk ?_⟩⟩
    · rw [show (25 : Int32) = nI 25 from rfl, nI_leI (by omega) (by omega)] at c; omega
    · have q := (bI_0 _).mp q
      rw [show hldB sh k = false by unfold hldB; rw [q]; rfl, if_neg (by decide)] at hs
      rw [nI_1, hs]; exact ih
    · have q := (bI_n0 _).mp q
      rw [show (3 : Int32) = nI 3 from rfl, nI_ltI (by omega) (by omega)]
      refine ⟨fun c => ?_, fun c v ev => ?_⟩
      · rw [show hldB sh k = false by unfold hldB; rw [q, decide_eq_false (by omega)]; rfl, if_neg (by decide)] at hs
        rw [nI_1, hs]; exact ih
      · rw [show hldB sh k = true by unfold hldB; rw [q, decide_eq_true (by omega)]; rfl, if_pos rfl] at hs
        rw [ev, nI_1, hs]; exact ih
  · exact w_X12_hold_4 _ _ _ σ τ ⟨fun _ => h, fun c => absurd (nI_le (Nat.le_refl 25) (by decide)) c⟩
end SIDES
