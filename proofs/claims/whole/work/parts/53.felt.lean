/-! WHAT IS FELT: moves of a shape, bumps; the reference. -/
theorem hi_tab : ∀ x : Fin 32, ∀ i : Fin 5, x.1.testBit i.1 = true → i.1 ≤ hiN x.1 := by decide +kernel
theorem hi_at : ∀ x : Fin 32, x.1 ≠ 0 → x.1.testBit (hiN x.1) = true := by decide +kernel
def okMv (sh m : Nat) : Bool := decide (hiN (rowsN sh) + m / 5 < 5) && decide (hiN (colsN sh) + m % 5 < 5)
theorem colT_bit {sh j : Nat} : ∀ {k : Nat}, (colT sh k).testBit j = true ↔ ∃ r, r < k ∧ (rwN sh r).testBit j = true
  | 0 => by
    rw [show colT sh 0 = 0 from rfl, Nat.zero_testBit]
    exact ⟨fun h => (by cases h), fun ⟨r, hr, _⟩ => absurd hr (Nat.not_lt_zero r)⟩
  | k + 1 => by
    rw [show colT sh (k + 1) = colT sh k ||| rwN sh k from rfl, Nat.testBit_or, Bool.or_eq_true, colT_bit (k := k)]
    constructor
    · rintro (⟨r, hr, h⟩ | h)
      · exact ⟨r, by omega, h⟩
      · exact ⟨k, by omega, h⟩
    · rintro ⟨r, hr, h⟩
      rcases (show r = k ∨ r < k by omega) with rfl | q
      · exact Or.inr h
      · exact Or.inl ⟨r, q, h⟩
theorem ne0_bit {x : Nat} (h : x ≠ 0) : ∃ i, x.testBit i = true := by
  refine Classical.byContradiction fun hx => h ?_
  apply Nat.eq_of_testBit_eq
  intro i
  rw [Nat.zero_testBit]
  cases e : x.testBit i
  · rfl
  · exact absurd ⟨i, e⟩ hx
theorem okMv_iff {sh m : Nat} (hsh : sh < 2 ^ 25) (hm : m < 25) : okMv sh m = true ↔ ∀ i, i < 25 → sh.testBit i = true → i / 5 + m / 5 < 5 ∧ i % 5 + m % 5 < 5 := by
  unfold okMv
  rw [Bool.and_eq_true, decide_eq_true_eq, decide_eq_true_eq]
  constructor
  · rintro ⟨h1, h2⟩ i hi hb
    have hb2 : (rwN sh (i / 5)).testBit (i % 5) = true := by rw [rwN_bit (by omega), show 5 * (i / 5) + i % 5 = i by omega]; exact hb
    have hr : (rowsN sh).testBit (i / 5) = true := by
      show (stN (rowB sh) 5).testBit (i / 5) = true
      rw [stN_bit, decide_eq_true (by omega), Bool.true_and]
      unfold rowB
      rw [decide_eq_false]
      · rfl
      · intro e; rw [e, Nat.zero_testBit] at hb2; cases hb2
    have hc : (colsN sh).testBit (i % 5) = true := colT_bit.mpr ⟨i / 5, by omega, hb2⟩
    have a1 : i / 5 ≤ hiN (rowsN sh) := hi_tab ⟨rowsN sh, rowsN_lt sh⟩ ⟨i / 5, by omega⟩ hr
    have a2 : i % 5 ≤ hiN (colsN sh) := hi_tab ⟨colsN sh, colsN_lt sh⟩ ⟨i % 5, by omega⟩ hc
    omega
  · intro h
    have h0 : hiN 0 = 0 := by decide
    refine ⟨?_, ?_⟩
    · by_cases e : rowsN sh = 0
      · rw [e, h0]; omega
      · have hb : (rowsN sh).testBit (hiN (rowsN sh)) = true := hi_at ⟨rowsN sh, rowsN_lt sh⟩ e
        have hb : (stN (rowB sh) 5).testBit (hiN (rowsN sh)) = true := hb
        rw [stN_bit, Bool.and_eq_true, decide_eq_true_eq] at hb
        obtain ⟨b1, b2⟩ := hb
        have hne : rwN sh (hiN (rowsN sh)) ≠ 0 := by
          intro e2
          unfold rowB at b2
          rw [decide_eq_true e2] at b2
          cases b2
        obtain ⟨j, hj⟩ := ne0_bit hne
        have hj5 := bit5 (row_lt _ _) hj
        rw [rwN_bit hj5] at hj
        have := (h (5 * hiN (rowsN sh) + j) (by omega) hj).1
        omega
    · by_cases e : colsN sh = 0
      · rw [e, h0]; omega
      · have hb : (colsN sh).testBit (hiN (colsN sh)) = true := hi_at ⟨colsN sh, colsN_lt sh⟩ e
        obtain ⟨r, hr, hj⟩ := colT_bit.mp (show (colT sh 5).testBit (hiN (colsN sh)) = true from hb)
        have hj5 := bit5 (row_lt _ _) hj
        rw [rwN_bit hj5] at hj
        have := (h (5 * r + hiN (colsN sh)) (by omega) hj).2
        omega
theorem mv_bit (sh m i : Nat) : (sh * 2 ^ m).testBit i = (decide (m ≤ i) && sh.testBit (i - m)) := by
  rw [Nat.mul_comm, Nat.testBit_two_pow_mul]
theorem mv_lt {sh m : Nat} (hsh : sh < 2 ^ 25) (hm : m < 25) (h : okMv sh m = true) : sh * 2 ^ m < 2 ^ 25 := lt25 (fun i hi => by
  rw [mv_bit]
  cases e : sh.testBit (i - m)
  · simp
  · by_cases q : m ≤ i
    · exfalso
      have hlt : i - m < 25 := by
        rcases Nat.lt_or_ge (i - m) 25 with r | r
        · exact r
        · rw [bit25 hsh r] at e; cases e
      have := (okMv_iff hsh hm).mp h (i - m) hlt e
      omega
    · simp [q])
def bmB (B : Bm) (S : Nat) : Nat → Bool
  | 0 => true
  | k + 1 => bmB B S k && (S.testBit (B.2.1 k) == B.2.2 k)
def fitB (B : Bm) (sh m : Nat) : Bool := okMv sh m && bmB B (sh * 2 ^ m) B.1
theorem bmB_dn {B : Bm} {S : Nat} : ∀ {k n : Nat}, k ≤ n → bmB B S k = false → bmB B S n = false
  | k, 0, h, e => by
    have : k = 0 := by omega
    subst this; exact e
  | k, n + 1, h, e => by
    rcases (show k = n + 1 ∨ k ≤ n by omega) with rfl | q
    · exact e
    · rw [bmB, bmB_dn q e]; rfl
theorem bmB_iff {B : Bm} {S : Nat} : ∀ {k : Nat}, bmB B S k = true ↔ ∀ q, q < k → S.testBit (B.2.1 q) = B.2.2 q
  | 0 => ⟨fun _ q hq => absurd hq (Nat.not_lt_zero q), fun _ => rfl⟩
  | k + 1 => by
    rw [bmB, Bool.and_eq_true, bmB_iff (k := k), beq_iff_eq]
    constructor
    · rintro ⟨h1, h2⟩ q hq
      rcases (show q = k ∨ q < k by omega) with rfl | r
      · exact h2
      · exact h1 q r
    · intro h
      exact ⟨fun q hq => h q (by omega), h k (by omega)⟩
theorem bsT_bit {B : Bm} {v : Bool} {i : Nat} : ∀ {k : Nat}, (bsT B v k).testBit i = true ↔ ∃ q, q < k ∧ B.2.2 q = v ∧ B.2.1 q = i
  | 0 => by
    rw [show bsT B v 0 = 0 from rfl, Nat.zero_testBit]
    exact ⟨fun h => (by cases h), fun ⟨r, hr, _⟩ => absurd hr (Nat.not_lt_zero r)⟩
  | k + 1 => by
    rw [bsT, Nat.testBit_or, Bool.or_eq_true, bsT_bit (k := k)]
    constructor
    · rintro (⟨q, hq, h⟩ | h)
      · exact ⟨q, by omega, h⟩
      · by_cases e : B.2.2 k = v
        · rw [if_pos e, Nat.testBit_two_pow, decide_eq_true_eq] at h
          exact ⟨k, by omega, e, h⟩
        · rw [if_neg e, Nat.zero_testBit] at h; cases h
    · rintro ⟨q, hq, h1, h2⟩
      rcases (show q = k ∨ q < k by omega) with rfl | r
      · rw [if_pos h1, Nat.testBit_two_pow]
        exact Or.inr (decide_eq_true h2)
      · exact Or.inl ⟨q, r, h1, h2⟩
theorem bsT_lt {B : Bm} {v : Bool} (h : okBm B) : bsT B v B.1 < 2 ^ 25 := lt25 (fun i hi => by
  cases e : (bsT B v B.1).testBit i
  · rfl
  · obtain ⟨q, hq, -, h2⟩ := bsT_bit.mp e
    have := h.2 q hq
    omega)
/-- the bumps, by their two sets -/
theorem bm_sets {B : Bm} {S : Nat} : bmB B S B.1 = true ↔ (∀ i, (bsT B true B.1).testBit i = true → S.testBit i = true) ∧ ∀ i, (bsT B false B.1).testBit i = true → S.testBit i = false := by
  rw [bmB_iff]
  constructor
  · intro h
    refine ⟨fun i hi => ?_, fun i hi => ?_⟩
    · obtain ⟨q, hq, h1, h2⟩ := bsT_bit.mp hi
      rw [← h2, h q hq, h1]
    · obtain ⟨q, hq, h1, h2⟩ := bsT_bit.mp hi
      rw [← h2, h q hq, h1]
  · rintro ⟨h1, h2⟩ q hq
    cases e : B.2.2 q
    · exact h2 _ (bsT_bit.mpr ⟨q, hq, e, rfl⟩)
    · exact h1 _ (bsT_bit.mpr ⟨q, hq, e, rfl⟩)
def setT (sh d : Nat) : Nat → Nat
  | 0 => 0
  | k + 1 => setT sh d k ||| (if sh.testBit k then 2 ^ (k + d) else 0)
theorem setT_bit {sh d i : Nat} : ∀ {k : Nat}, (setT sh d k).testBit i = (decide (d ≤ i) && (decide (i - d < k) && sh.testBit (i - d)))
  | 0 => by
    rw [show setT sh d 0 = 0 from rfl, Nat.zero_testBit]; simp
  | k + 1 => by
    rw [setT, Nat.testBit_or, setT_bit (k := k)]
    by_cases e : i = k + d
    · subst e
      rw [show k + d - d = k by omega]
      cases sh.testBit k <;> simp
    · have hne : ¬ k + d = i := fun q => e q.symm
      have hz : (if sh.testBit k = true then 2 ^ (k + d) else 0).testBit i = false := by
        split
        · rw [Nat.testBit_two_pow, decide_eq_false hne]
        · exact Nat.zero_testBit i
      rw [hz, Bool.or_false]
      by_cases hd : d ≤ i
      · have : (i - d < k) ↔ (i - d < k + 1) := by omega
        simp [hd, this]
      · simp [hd]
theorem setT_end {sh d : Nat} (hsh : sh < 2 ^ 25) : setT sh d 25 = sh * 2 ^ d := by
  apply Nat.eq_of_testBit_eq
  intro i
  rw [setT_bit, mv_bit]
  by_cases q : i - d < 25
  · simp [q]
  · rw [bit25 hsh (by omega)]; simp
section FELT
variable {l : Launch} {D : zDD} {b : Nat} {γ : zGm} {σ : zSg} {τ : zLm} {p : Pl} {A : Sc} {U : Un} {X : Xt} {Q : Int32 → zSg → zLm → Prop} {G : zSg → zLm → Prop}
theorem M_moved {sh m : Nat} (hsh : sh < 2 ^ 25) (hm : m < 25) (h1 : okMv sh m = true → Q (nI (sh * 2 ^ m)) σ τ) (h2 : okMv sh m = false → Q (-1) σ τ) : SI l D b M_X12_moved 1 γ [.int (nI sh), .int (nI (m / 5)), .int (nI (m % 5))] σ τ Q := by
  refine s_X12_moved _ _ _ σ τ ?_
  have key := lp_up (P := fun k => ∀ x3 x4 : Int32, (((∀ i, i < k → sh.testBit i = true → i / 5 + m / 5 < 5 ∧ i % 5 + m % 5 < 5) ∧ x4 = 1 ∧ x3 = nI (setT sh m k)) ∨ (x4 = 0 ∧ ¬ ∀ i, i < k → sh.testBit i = true → i / 5 + m / 5 < 5 ∧ i % 5 + m % 5 < 5)) → AI l D b M_X12_moved 1 γ Q 8 [(0, .int (nI sh)), (1, .int (nI (m / 5))), (2, .int (nI (m % 5))), (3, .int x3), (4, .int x4), (5, .int (nI k))] [] γ σ τ) (n := 25) ?_ ?_ 0 (Nat.zero_le _)
  · exact key 0 1 (Or.inl ⟨fun i hi => absurd hi (Nat.not_lt_zero i), rfl, rfl⟩)
  · intro k hk ih x3 x4 hx
    refine w_X12_moved_8 _ _ _ _ _ _ σ τ ⟨fun c => ?_, fun _ => M_has (by omega) (by omega) ⟨fun c => ?_, fun c => ?_⟩⟩
    · rw [show (25 : Int32) = nI 25 from rfl, nI_leI (by omega) (by omega)] at c; omega
    · have c := (bI_0 _).mp c
      rw [nI_1]
      refine ih _ _ ?_
      rcases hx with ⟨g, e4, e3⟩ | ⟨e4, g⟩
      · refine Or.inl ⟨fun i hi hb => ?_, e4, ?_⟩
        · rcases (show i = k ∨ i < k by omega) with rfl | q
          · rw [c] at hb; cases hb
          · exact g i q hb
        · rw [e3, setT, c, if_neg (by decide), Nat.or_zero]
      · exact Or.inr ⟨e4, fun g2 => g (fun i hi => g2 i (by omega))⟩
    · have c := (bI_n0 _).mp c
      have e5 : nI k / 5 = nI (k / 5) := nI_div5 (by omega)
      have e6 : nI k - nI k / 5 * 5 = nI (k % 5) := pk_rem (d := 5) (by omega) (by decide) (by decide)
      rw [e6, e5, nI_add, nI_add]
      have bad : (¬ ∀ i, i < k + 1 → sh.testBit i = true → i / 5 + m / 5 < 5 ∧ i % 5 + m % 5 < 5) → AI l D b M_X12_moved 1 γ Q 61 [(0, .int (nI sh)), (1, .int (nI (m / 5))), (2, .int (nI (m % 5))), (3, .int x3), (5, .int (nI k)), (6, .int (nI (k / 5 + m / 5))), (7, .int (nI (k % 5 + m % 5)))] [] γ σ τ := by
        intro hbad
        refine w_X12_moved_61 _ _ _ _ _ _ _ σ τ (w_X12_moved_62 _ _ _ _ _ _ _ _ σ τ ⟨fun _ => ?_, fun q => absurd rfl q⟩)
        rw [nI_1]
        exact ih _ _ (Or.inr ⟨rfl, hbad⟩)
      refine ⟨fun e0 => bad ?_, fun e0 => ?_⟩
      · rcases hx with ⟨g, e4, e3⟩ | ⟨e4, g⟩
        · exact absurd (e4.symm.trans e0) one0
        · exact fun g2 => g (fun i hi => g2 i (by omega))
      · rcases hx with ⟨g, e4, e3⟩ | ⟨e4, g⟩
        · rw [show (5 : Int32) = nI 5 from rfl, nI_leI (by omega) (by omega), nI_leI (by omega) (by omega)]
          refine ⟨fun q => bad (fun g2 => ?_), fun q => ⟨fun q2 => bad (fun g2 => ?_), fun q2 => ?_⟩⟩
          · have := (g2 k (by omega) c).1; omega
          · have := (g2 k (by omega) c).2; omega
          · refine w_X12_moved_62 _ _ _ _ _ _ _ _ σ τ ⟨fun q => absurd q one0, fun _ v ev => ?_⟩
            rw [show (5 : Int32) = nI 5 from rfl, pk_mul, nI_add, nI_sh (by omega), e3, fa_or] at ev
            rw [nI_1]
            refine ih _ _ (Or.inl ⟨fun i hi hb => ?_, rfl, ?_⟩)
            · rcases (show i = k ∨ i < k by omega) with rfl | r
              · omega
              · exact g i r hb
            · rw [ev, setT, c, if_pos rfl, show 5 * (k / 5 + m / 5) + (k % 5 + m % 5) = k + m by omega]
        · exact absurd e4 e0
  · intro x3 x4 hx
    refine w_X12_moved_8 _ _ _ _ _ _ σ τ ⟨fun _ => ⟨fun e0 => ?_, fun e0 => ?_⟩, fun c => absurd (nI_le (Nat.le_refl 25) (by decide)) c⟩
    · rcases hx with ⟨g, e4, e3⟩ | ⟨e4, g⟩
      · exact absurd (e4.symm.trans e0) one0
      · refine h2 ?_
        cases e : okMv sh m
        · rfl
        · exact absurd ((okMv_iff hsh hm).mp e) g
    · rcases hx with ⟨g, e4, e3⟩ | ⟨e4, g⟩
      · rw [e3, setT_end hsh]
        exact h1 ((okMv_iff hsh hm).mpr g)
      · exact absurd e4 e0
theorem bI_inj (q r : Bool) : bI q = bI r ↔ q = r := by cases q <;> cases r <;> decide
theorem M_fit {B : Bm} (R : RM σ p A) (HB : MB σ B) {t m : Nat} (ht : t < pm p) (hm : m < 25) (h : Q (if fitB B (spS A t) m then nI (spS A t * 2 ^ m) else -1) σ τ) : SI l D b M_X12_fit 2 G0 [.ref (b + 125), .int (nI (25 * t + m))] σ τ Q := by
  have h6 := RM_t R ht
  obtain ⟨s1, s2⟩ := RM_sp R ht
  obtain ⟨oB, b0, b1⟩ := HB
  have hB6 := oB.1
  refine s_X12_fit _ σ τ ?_
  have e1 : nI (25 * t + m) / 25 = nI t := by
    rw [show (25 : Int32) = nI 25 from rfl, pk_div (by omega) (by decide) (by decide), show (25 * t + m) / 25 = t by omega]
  have e2 : nI (25 * t + m) - nI (25 * t + m) / 25 * 25 = nI m := by
    rw [show (25 : Int32) = nI 25 from rfl, pk_rem (by omega) (by decide) (by decide), show (25 * t + m) % 25 = m by omega]
  have e3 : nI m - nI m / 5 * 5 = nI (m % 5) := pk_rem (d := 5) (by omega) (by decide) (by decide)
  rw [e2, e1, e3, nI_div5 (by omega), nI_p8, nI_c (by omega), s1]
  generalize spS A t = sh at *
  refine ⟨vp_in_t (by omega) (by decide), M_moved s2 hm (fun ok => ⟨fun q => ?_, fun _ => ?_⟩) (fun ok => ⟨fun _ => ?_, fun q => absurd rfl q⟩)⟩
  · have := mv_lt s2 hm ok
    exact absurd q (nI_m1 (by omega))
  · have hS := mv_lt s2 hm ok
    unfold fitB at h
    rw [ok, Bool.true_and] at h
    generalize sh * 2 ^ m = S at *
    have fin : ∀ k, k ≤ B.1 → (bmB B S B.1 = bmB B S k) → AI l D b M_X12_fit 2 G0 Q 90 [(3, .int (nI S)), (4, .int (bI (bmB B S k)))] [] G0 σ τ := by
      intro k hk e
      refine w_X12_fit_90 _ _ σ τ ⟨fun q => ?_, fun q => ?_⟩
      · rw [e, (bI_0 _).mp q, if_neg (by decide)] at h; exact h
      · rw [e, (bI_n0 _).mp q, if_pos rfl] at h; exact h
    refine lp_up (P := fun k => AI l D b M_X12_fit 2 G0 Q 42 [(0, .ref (b + 125)), (3, .int (nI S)), (4, .int (bI (bmB B S k))), (5, .int (nI k))] [] G0 σ τ) (n := B.1) ?_ ?_ 0 (Nat.zero_le _)
    · intro k hk ih
      obtain ⟨k1, k2⟩ := b1 k hk
      have k3 := oB.2 k hk
      refine w_X12_fit_42 _ _ _ σ τ ⟨fun c => ?_, fun _ => ⟨fun c => ?_, fun c => ⟨vp_in_t (by omega) (by decide), ?_⟩⟩⟩
      · rw [b0, nI_leI (by omega) (by omega)] at c; omega
      · have c := (bI_0 _).mp c
        exact fin k (by omega) ((bmB_dn (by omega) c).trans c.symm)
      · have c := (bI_n0 _).mp c
        rw [nI_c (by omega), k1]
        refine M_has (by omega) (by omega) ⟨vp_in_t (by omega) (by decide), ?_⟩
        rw [k2, bI_inj, nI_1]
        rw [bmB, c, Bool.true_and] at ih
        refine ⟨fun q => ?_, fun q => ?_⟩
        · rw [beq_eq_false_iff_ne.mpr q] at ih; exact ih
        · rw [beq_iff_eq.mpr q] at ih; exact ih
    · refine w_X12_fit_42 _ _ _ σ τ ⟨fun _ => fin B.1 (Nat.le_refl _) rfl, fun c => ?_⟩
      rw [b0] at c
      exact absurd (nI_le (Nat.le_refl _) (by omega)) c
  · unfold fitB at h
    rw [ok, Bool.false_and, if_neg (by decide)] at h
    have f90 : AI l D b M_X12_fit 2 G0 Q 90 [(3, .int (-1)), (4, .int 0)] [] G0 σ τ := w_X12_fit_90 _ _ σ τ ⟨fun _ => h, fun q => absurd rfl q⟩
    exact w_X12_fit_42 _ _ _ σ τ ⟨fun _ => f90, fun _ => ⟨fun _ => f90, fun q => absurd rfl q⟩⟩
end FELT
