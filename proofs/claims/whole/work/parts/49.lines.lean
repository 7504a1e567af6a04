/-! LINES of cells: which rows, which columns, from where to where; toWrap. -/
def rowB (sp r : Nat) : Bool := !decide (rwN sp r = 0)
def rowsN (sp : Nat) : Nat := stN (rowB sp) 5
def colT (sp : Nat) : Nat → Nat
  | 0 => 0
  | k + 1 => colT sp k ||| rwN sp k
def colsN (sp : Nat) : Nat := colT sp 5
def loF (x : Nat) : Nat → Option Nat
  | 0 => none
  | k + 1 => match loF x k with
    | some i => some i
    | none => if x.testBit k then some k else none
def hiF (x : Nat) : Nat → Option Nat
  | 0 => none
  | k + 1 => if x.testBit k then some k else hiF x k
def loN (x : Nat) : Nat := (loF x 5).getD 0
def hiN (x : Nat) : Nat := (hiF x 5).getD 0
theorem lohi_tab : ∀ x : Fin 32, x.1 ≠ 0 → loF x.1 5 = some (loN x.1) ∧ hiF x.1 5 = some (hiN x.1) ∧ loN x.1 ≤ hiN x.1 ∧ hiN x.1 ≤ 4 := by decide +kernel
theorem hi_le : ∀ x : Fin 32, hiN x.1 ≤ 4 := by decide +kernel
theorem lo_up {x i : Nat} : ∀ {k n : Nat}, k ≤ n → loF x k = some i → loF x n = some i
  | k, 0, h, e => by
    have : k = 0 := by omega
    subst this; exact e
  | k, n + 1, h, e => by
    rcases (show k = n + 1 ∨ k ≤ n by omega) with rfl | h2
    · exact e
    · rw [loF, lo_up h2 e]
theorem rowsN_lt (sp : Nat) : rowsN sp < 32 := stN_lt _ 5
theorem colT_lt (sp : Nat) : ∀ k, colT sp k < 32
  | 0 => by show 0 < 32; decide
  | k + 1 => Nat.or_lt_two_pow (n := 5) (colT_lt sp k) (row_lt sp k)
theorem colsN_lt (sp : Nat) : colsN sp < 32 := colT_lt sp 5
theorem rows_all {sp : Nat} (hsp : sp < 2 ^ 25) (h : ∀ r, r < 5 → rwN sp r = 0) : sp = 0 := by
  have h0 := h 0 (by decide)
  have h1 := h 1 (by decide)
  have h2 := h 2 (by decide)
  have h3 := h 3 (by decide)
  have h4 := h 4 (by decide)
  unfold rwN at *
  omega
theorem rowsN_0 {sp : Nat} (hsp : sp < 2 ^ 25) (h0 : sp ≠ 0) : rowsN sp ≠ 0 := by
  intro e
  refine h0 (rows_all hsp (fun r hr => ?_))
  have hb := stN_bit (rowB sp) 5 r
  have e2 : stN (rowB sp) 5 = 0 := e
  rw [e2, decide_eq_true hr, Nat.zero_testBit, Bool.true_and] at hb
  unfold rowB at hb
  have := Bool.not_eq_false' .. ▸ hb.symm
  simpa using this
theorem or_eq0 {a c : Nat} (h : a ||| c = 0) : a = 0 ∧ c = 0 := by
  have h1 := Nat.left_le_or (n := a) (m := c)
  have h2 := Nat.right_le_or (n := a) (m := c)
  omega
theorem colT_0 {sp : Nat} : ∀ k, colT sp k = 0 → ∀ r, r < k → rwN sp r = 0
  | 0, _, r, hr => absurd hr (Nat.not_lt_zero r)
  | k + 1, h, r, hr => by
    obtain ⟨h1, h2⟩ := or_eq0 (show colT sp k ||| rwN sp k = 0 from h)
    rcases (show r = k ∨ r < k by omega) with rfl | hk
    · exact h2
    · exact colT_0 k h1 r hk
theorem colsN_0 {sp : Nat} (hsp : sp < 2 ^ 25) (h0 : sp ≠ 0) : colsN sp ≠ 0 := fun e => h0 (rows_all hsp (colT_0 5 e))
section LINES
variable {l : Launch} {D : zDD} {b : Nat} {γ : zGm} {σ : zSg} {τ : zLm} {p : Pl} {A : Sc} {U : Un} {X : Xt} {Q : Int32 → zSg → zLm → Prop} {G : zSg → zLm → Prop}
theorem S_rowsUsed {sp : Nat} (hsp : sp < 2 ^ 25) (h : Q (nI (rowsN sp)) σ τ) : SI l D b M_X9_rowsUsed 1 γ [.int (nI sp)] σ τ Q := by
  refine s_X9_rowsUsed _ σ τ ?_
  refine lp_up (P := fun k => AI l D b M_X9_rowsUsed 1 γ Q 4 [(0, .int (nI sp)), (1, .int (nI (stN (rowB sp) k))), (2, .int (nI k))] [] γ σ τ) (n := 5) ?_ ?_ 0 (Nat.zero_le _)
  · intro k hk ih
    have hl := row_lt sp k
    refine w_X9_rowsUsed_4 _ _ _ σ τ ⟨fun c => ?_, fun c => S_rowOf (by omega) (by omega) ?_⟩
    · rw [show (5 : Int32) = nI 5 from rfl, nI_leI (by omega) (by omega)] at c; omega
    · rw [show (0 : Int32) = nI 0 from rfl, nI_eq (by omega) (by omega), nI_1]
      have hs := stN_step (rowB sp) (t := k) (by omega)
      refine ⟨fun c2 => ?_, fun c2 v e => ?_⟩
      · rw [show rowB sp k = false by unfold rowB; rw [decide_eq_true c2]; rfl, if_neg (by decide), or0] at hs
        rw [hs]; exact ih
      · rw [show rowB sp k = true by unfold rowB; rw [decide_eq_false c2]; rfl, if_pos rfl] at hs
        rw [e, hs]; exact ih
  · exact w_X9_rowsUsed_4 _ _ _ σ τ ⟨fun _ => h, fun c => absurd (nI_le (Nat.le_refl 5) (by decide)) c⟩
theorem S_colsUsed {sp : Nat} (hsp : sp < 2 ^ 25) (h : Q (nI (colsN sp)) σ τ) : SI l D b M_X9_columnsUsed 1 γ [.int (nI sp)] σ τ Q := by
  refine s_X9_columnsUsed _ σ τ ?_
  refine lp_up (P := fun k => AI l D b M_X9_columnsUsed 1 γ Q 4 [(0, .int (nI sp)), (1, .int (nI (colT sp k))), (2, .int (nI k))] [] γ σ τ) (n := 5) ?_ ?_ 0 (Nat.zero_le _)
  · intro k hk ih
    refine w_X9_columnsUsed_4 _ _ _ σ τ ⟨fun c => ?_, fun c => S_rowOf (by omega) (by omega) ?_⟩
    · rw [show (5 : Int32) = nI 5 from rfl, nI_leI (by omega) (by omega)] at c; omega
    · rw [nI_1, fa_or]; exact ih
  · exact w_X9_columnsUsed_4 _ _ _ σ τ ⟨fun _ => h, fun c => absurd (nI_le (Nat.le_refl 5) (by decide)) c⟩
theorem S_lastOf {x : Nat} (h : Q (nI (hiN x)) σ τ) : SI l D b M_X9_lastOf 1 γ [.int (nI x)] σ τ Q := by
  refine s_X9_lastOf _ σ τ ?_
  suffices H : ∀ k, k ≤ 4 → (∀ Q : Int32 → zSg → zLm → Prop, Q (nI ((hiF x (k + 1)).getD 0)) σ τ → AI l D b M_X9_lastOf 1 γ Q 2 [(0, .int (nI x)), (1, .int (nI k))] [] γ σ τ) from H 4 (by decide) Q h
  intro k
  induction k with
  | zero =>
    intro _ Q hQ
    refine w_X9_lastOf_2 _ _ σ τ ⟨fun _ => ?_, fun c => absurd (by decide) c⟩
    have e : (hiF x (0 + 1)).getD 0 = 0 := by
      rw [hiF]; split <;> rfl
    rw [e] at hQ
    exact hQ
  | succ k ih =>
    intro hk Q hQ
    refine w_X9_lastOf_2 _ _ σ τ ⟨fun c => ?_, fun c => S_has (by omega) ⟨fun c2 => ?_, fun c2 => ?_⟩⟩
    · rw [show (0 : Int32) = nI 0 from rfl, nI_leI (by omega) (by omega)] at c; omega
    · have c2 := (bI_0 _).mp c2
      rw [hiF, if_neg (by rw [c2]; decide)] at hQ
      rw [show nI (k + 1) + (-1) = nI k by rw [← nI_1, Int32.add_assoc]; simp]
      exact ih (by omega) Q hQ
    · have c2 := (bI_n0 _).mp c2
      rw [hiF, if_pos c2] at hQ
      exact hQ
theorem S_firstOf {x : Nat} (h : Q (nI (loN x)) σ τ) : SI l D b M_X9_firstOf 1 γ [.int (nI x)] σ τ Q := by
  refine s_X9_firstOf _ σ τ ?_
  refine lp_up (P := fun k => loF x k = none → AI l D b M_X9_firstOf 1 γ Q 2 [(0, .int (nI x)), (1, .int (nI k))] [] γ σ τ) (n := 5) ?_ ?_ 0 (Nat.zero_le _) rfl
  · intro k hk ih hn
    refine w_X9_firstOf_2 _ _ σ τ ⟨fun c => ?_, fun c => S_has (by omega) ⟨fun c2 => ?_, fun c2 => ?_⟩⟩
    · rw [show (5 : Int32) = nI 5 from rfl, nI_leI (by omega) (by omega)] at c; omega
    · have c2 := (bI_0 _).mp c2
      rw [nI_1]
      refine ih ?_
      rw [loF, hn]
      show (if x.testBit k = true then some k else none) = none
      rw [if_neg (by rw [c2]; decide)]
    · have c2 := (bI_n0 _).mp c2
      have e1 : loF x (k + 1) = some k := by
        rw [loF, hn]
        show (if x.testBit k = true then some k else none) = some k
        rw [if_pos c2]
      have e2 : loN x = k := by unfold loN; rw [lo_up (by omega) e1]; rfl
      rw [e2] at h
      exact h
  · intro hn
    refine w_X9_firstOf_2 _ _ σ τ ⟨fun _ => ?_, fun c => absurd (nI_le (Nat.le_refl 5) (by decide)) c⟩
    have e2 : loN x = 0 := by unfold loN; rw [hn]; rfl
    rw [e2] at h
    exact h
theorem M_span {x : Nat} (hx : x < 32) (h0 : x ≠ 0) (h : Q (nI (hiN x - loN x + 1)) σ τ) : SI l D b M_X12_span 1 γ [.int (nI x)] σ τ Q := by
  obtain ⟨t1, t2, t3, t4⟩ := lohi_tab ⟨x, hx⟩ h0
  have t1 : loF x 5 = some (loN x) := t1
  have t2 : hiF x 5 = some (hiN x) := t2
  have t3 : loN x ≤ hiN x := t3
  have t4 : hiN x ≤ 4 := t4
  refine s_X12_span _ σ τ ?_
  refine lp_up (P := fun k => AI l D b M_X12_span 1 γ Q 6 [(0, .int (nI x)), (1, .int (oI (loF x k))), (2, .int (oI (hiF x k))), (3, .int (nI k))] [] γ σ τ) (n := 5) ?_ ?_ 0 (Nat.zero_le _)
  · intro k hk ih
    have p29 : AI l D b M_X12_span 1 γ Q 29 [(0, .int (nI x)), (2, .int (oI (hiF x k))), (3, .int (nI k))] [.int (oI (loF x (k + 1)))] γ σ τ := by
      refine w_X12_span_29 _ _ _ _ σ τ (M_has (by omega) (by omega) ?_)
      rw [nI_1]
      refine ⟨fun c => ?_, fun c => ?_⟩
      · have c := (bI_0 _).mp c
        rw [hiF, if_neg (by rw [c]; decide)] at ih
        exact ih
      · have c := (bI_n0 _).mp c
        rw [hiF, if_pos c] at ih
        exact ih
    refine w_X12_span_6 _ _ _ _ σ τ ⟨fun c => ?_, fun _ => ⟨fun c => ?_, fun c => M_has (by omega) (by omega) ⟨fun c2 => ?_, fun c2 => ?_⟩⟩⟩
    · rw [show (5 : Int32) = nI 5 from rfl, nI_leI (by omega) (by omega)] at c; omega
    · refine w_X12_span_28 _ _ _ _ σ τ ?_
      cases e : loF x k with
      | none => rw [e] at c; exact absurd rfl c
      | some i =>
        rw [loF, e] at p29
        exact p29
    · refine w_X12_span_28 _ _ _ _ σ τ ?_
      have c2 := (bI_0 _).mp c2
      cases e : loF x k with
      | none =>
        rw [loF, e] at p29
        simp only [c2] at p29
        exact p29
      | some i =>
        rw [loF, e] at p29
        exact p29
    · have c2 := (bI_n0 _).mp c2
      cases e : loF x k with
      | none =>
        rw [loF, e] at p29
        simp only [c2] at p29
        exact p29
      | some i =>
        exfalso
        have hi5 := lo_up (show k ≤ 5 by omega) e
        rw [t1] at hi5
        have : loN x = i := by injection hi5
        rw [e] at c
        exact nI_m1 (show i < 2 ^ 31 by omega) c
  · refine w_X12_span_6 _ _ _ _ σ τ ⟨fun _ => ?_, fun c => absurd (nI_le (Nat.le_refl 5) (by decide)) c⟩
    rw [t1, t2]
    show Q (nI (hiN x) - nI (loN x) + 1) σ τ
    rw [pk_sub t3, nI_1]
    exact h
def sideN (sp : Nat) : Nat := max (hiN (rowsN sp) - loN (rowsN sp) + 1) (hiN (colsN sp) - loN (colsN sp) + 1)
theorem S_squareSide {sp : Nat} (hsp : sp < 2 ^ 25) (h0 : sp ≠ 0) (h : Q (nI (sideN sp)) σ τ) : SI l D b M_X9_squareSide 2 γ [.int (nI sp)] σ τ Q := by
  obtain ⟨r1, r2, r3, r4⟩ := lohi_tab ⟨rowsN sp, rowsN_lt sp⟩ (rowsN_0 hsp h0)
  obtain ⟨s1, s2, s3, s4⟩ := lohi_tab ⟨colsN sp, colsN_lt sp⟩ (colsN_0 hsp h0)
  have r3 : loN (rowsN sp) ≤ hiN (rowsN sp) := r3
  have s3 : loN (colsN sp) ≤ hiN (colsN sp) := s3
  have r4 : hiN (rowsN sp) ≤ 4 := r4
  have s4 : hiN (colsN sp) ≤ 4 := s4
  refine s_X9_squareSide _ σ τ (S_rowsUsed hsp (S_colsUsed hsp (S_lastOf (S_firstOf (S_lastOf (S_firstOf ?_))))))
  rw [pk_sub r3, pk_sub s3, mx_nI (by omega) (by omega), show (1 : Int32) = nI 1 from rfl, nI_add]
  have e : 1 + max (hiN (rowsN sp) - loN (rowsN sp)) (hiN (colsN sp) - loN (colsN sp)) = sideN sp := by unfold sideN; omega
  rw [e]
  exact h
theorem M_sideOf {sp : Nat} (hsp : sp < 2 ^ 25) (h0 : sp ≠ 0) (h : Q (nI (sideN sp)) σ τ) : SI l D b M_X12_sideOf 2 γ [.int (nI sp)] σ τ Q := by
  obtain ⟨r1, r2, r3, r4⟩ := lohi_tab ⟨rowsN sp, rowsN_lt sp⟩ (rowsN_0 hsp h0)
  obtain ⟨s1, s2, s3, s4⟩ := lohi_tab ⟨colsN sp, colsN_lt sp⟩ (colsN_0 hsp h0)
  have r4 : hiN (rowsN sp) ≤ 4 := r4
  have s4 : hiN (colsN sp) ≤ 4 := s4
  refine s_X12_sideOf _ σ τ ?_
  refine lp_up (P := fun k => AI l D b M_X12_sideOf 2 γ Q 6 [(0, .int (nI sp)), (1, .int (nI (stN (rowB sp) k))), (2, .int (nI (colT sp k))), (3, .int (nI k))] [] γ σ τ) (n := 5) ?_ ?_ 0 (Nat.zero_le _)
  · intro k hk ih
    have hl := row_lt sp k
    refine w_X12_sideOf_6 _ _ _ _ σ τ ⟨fun c => ?_, fun c v ev => ?_⟩
    · rw [show (5 : Int32) = nI 5 from rfl, nI_leI (by omega) (by omega)] at c; omega
    · rw [show (5 : Int32) = nI 5 from rfl, pk_mul, nI_shr (by omega) (by omega), show (31 : Int32) = nI (2 ^ 5 - 1) from rfl, fa_mask, Nat.pow_mul] at ev
      have ev : v = nI (rwN sp k) := ev
      subst ev
      rw [show (0 : Int32) = nI 0 from rfl, nI_eq (by omega) (by omega), nI_1, show nI 0 = (0 : Int32) from rfl]
      have hs := stN_step (rowB sp) (t := k) (by omega)
      refine ⟨fun c2 => ?_, fun c2 v e => ?_⟩
      · rw [show rowB sp k = false by unfold rowB; rw [decide_eq_true c2]; rfl, if_neg (by decide)] at hs
        rw [hs, fa_or]; exact ih
      · rw [show rowB sp k = true by unfold rowB; rw [decide_eq_false c2]; rfl, if_pos rfl] at hs
        rw [e, hs, fa_or]; exact ih
  · refine w_X12_sideOf_6 _ _ _ _ σ τ ⟨fun _ => M_span (x := rowsN sp) (rowsN_lt sp) (rowsN_0 hsp h0) (M_span (x := colsN sp) (colsN_lt sp) (colsN_0 hsp h0) ?_), fun c => absurd (nI_le (Nat.le_refl 5) (by decide)) c⟩
    rw [nI_leI (by omega) (by omega)]
    refine ⟨fun c => ?_, fun c => ?_⟩
    · have e : sideN sp = hiN (colsN sp) - loN (colsN sp) + 1 := by unfold sideN; omega
      rw [e] at h; exact h
    · have e : sideN sp = hiN (rowsN sp) - loN (rowsN sp) + 1 := by unfold sideN; omega
      rw [e] at h; exact h
theorem P_toWrap (J : Iv σ τ) (x y : Int32) (h : ∀ r σ1 τ1, (∀ Z : Int32 → zSg → zLm → Prop, (∀ σ2 τ2, Iv σ2 τ2 → Z r σ2 τ2) → SI l D b M_X12_toWrap 3 G0 [.ref (b + 125), .int x, .int y] σ1 τ1 Z) → Q r σ1 τ1) : SI l D b M_X11_toWrap 4 G0 [.ref (b + 0), .int x, .int y] σ τ Q := by
  obtain ⟨p, A, U, X, hC, hM⟩ := id J
  rcases tro p hC.1.1 x with ⟨t, ht, rfl⟩ | hx
  · have out : (y < 0 ∨ nI 3 ≤ y) → SI l D b M_X11_toWrap 4 G0 [.ref (b + 0), .int (nI t), .int y] σ τ Q := by
      intro hy
      have fin : Q (-1000000002) σ τ := h _ _ _ (fun Z hZ => s_X12_toWrap _ _ σ τ (M_tro hM.1 ht ⟨fun _ => M_inN (n := 2) (by decide) hy ⟨fun q => absurd rfl q, fun _ => hZ _ _ J⟩, fun q => absurd q one0⟩))
      refine s_X11_toWrap _ _ σ τ (S_tro hC.1 ht ⟨fun _ => ⟨fun _ => fin, fun c1 => ⟨fun c2 => ?_, fun _ => fin⟩⟩, fun q => absurd q one0⟩)
      rcases hy with hy | hy
      · exact absurd hy c1
      · have hy : (3 : Int32) ≤ y := hy
        rw [fa_le] at hy c2
        have e1 : (3 : Int32).toInt = 3 := rfl
        have e2 : (2 : Int32).toInt = 2 := rfl
        omega
    rcases pk_ix y (n := 3) (by decide) with hy | hy | ⟨k, hk, rfl⟩
    · exact out (Or.inl hy)
    · exact out (Or.inr hy)
    · have h6 := RC_t hC.1 ht
      obtain ⟨s1, s2⟩ := RC_sp hC.1 ht
      refine s_X11_toWrap _ _ σ τ (S_tro hC.1 ht ⟨fun _ => ⟨fun q => absurd q (nI_pos (by omega)), fun _ => ⟨fun _ => ⟨vp_in_t h6 (by decide), ?_⟩, fun q => absurd (nI_le (b := 2) (by omega) (by decide)) q⟩⟩, fun q => absurd q one0⟩)
      rw [nI_c (by omega), s1]
      have mod : ∀ σ1, RM σ1 p A → ∀ Z : Int32 → zSg → zLm → Prop, ((¬ spS A t = 0 → ((¬ nI k = 2 → ((¬ nI k = 1 → SI l D b M_X12_fewestSheets 1 G0 [.ref (b + 125), .int (nI (spS A t)), .int 0] σ1 τ Z) ∧ (nI k = 1 → SI l D b M_X12_fewestSheets 1 G0 [.ref (b + 125), .int (nI (spS A t)), .int 1] σ1 τ Z))) ∧ (nI k = 2 → SI l D b M_X12_sideOf 2 G0 [.int (nI (spS A t))] σ1 τ Z))) ∧ (spS A t = 0 → Z (-1) σ1 τ)) → SI l D b M_X12_toWrap 3 G0 [.ref (b + 125), .int (nI t), .int (nI k)] σ1 τ Z := by
        intro σ1 R1 Z hz
        obtain ⟨m1, m2⟩ := RM_sp R1 ht
        refine s_X12_toWrap _ _ σ1 τ (M_tro R1 ht ⟨fun _ => M_inY (n := 2) (by omega) (by decide) ⟨fun _ => ?_, fun q => absurd q one0⟩, fun q => absurd q one0⟩)
        rw [nI_p8, nI_c (by omega), m1]
        refine ⟨vp_in_t (by omega) (by decide), fun v ev => ?_⟩
        subst ev
        have e0 : (nI (spS A t) = 0) = (spS A t = 0) := by rw [show (0 : Int32) = nI 0 from rfl, nI_eq (by omega) (by omega)]
        rw [e0]
        exact ⟨fun c => ⟨fun c2 => ⟨fun c3 => w_X12_toWrap_65 _ _ σ1 τ (((hz.1 c).1 c2).1 c3), fun c3 => w_X12_toWrap_65 _ _ σ1 τ (((hz.1 c).1 c2).2 c3)⟩, (hz.1 c).2⟩, hz.2⟩
      have e0 : (nI (spS A t) = 0) = (spS A t = 0) := by rw [show (0 : Int32) = nI 0 from rfl, nI_eq (by omega) (by omega)]
      rw [e0]
      refine ⟨fun c => ⟨fun c2 => ⟨fun c3 => ?_, fun c3 => ?_⟩, fun c2 => ?_⟩, fun c => h _ _ _ (fun Z hZ => mod σ hM.1 Z ⟨fun q => absurd c q, fun _ => hZ _ _ J⟩)⟩
      · refine S_squareSide s2 c (h _ _ _ (fun Z hZ => mod σ hM.1 Z ⟨fun _ => ⟨fun q => ?_, fun _ => M_sideOf s2 c (hZ _ _ J)⟩, fun q => absurd q c⟩))
        exfalso
        rw [show (0 : Int32) = nI 0 from rfl, nI_eq (by omega) (by omega)] at c2
        rw [show (1 : Int32) = nI 1 from rfl, nI_eq (by omega) (by omega)] at c3
        rw [show (2 : Int32) = nI 2 from rfl, nI_eq (by omega) (by omega)] at q
        omega
      · obtain ⟨S, hS⟩ := fewN_at s2
        -- the least first one
        have hex : ∃ K, isLow (spS A t) K := by
          have hp : ∃ K, K < 65536 ∧ ∃ S, isOpt (spS A t) S ∧ lowN S = K := by
            refine ⟨lowN S, ?_, S, hS, rfl⟩
            have hne := opt_ne s2 c hS
            have := (lowN_at hne hS.1).1
            omega
          haveI : DecidablePred (fun K => ∃ S, isOpt (spS A t) S ∧ lowN S = K) := fun _ => Classical.propDecidable _
          obtain ⟨K, k1, k2, k3⟩ := fb_first (p := fun K => ∃ S, isOpt (spS A t) S ∧ lowN S = K) hp
          refine ⟨K, k2, fun T hT => ?_⟩
          rcases Nat.lt_or_ge (lowN T) K with q | q
          · exact absurd ⟨T, hT, rfl⟩ (k3 _ q)
          · exact q
        obtain ⟨K, hK⟩ := hex
        refine S_first s2 c hK (fun σ1 f1 => h _ _ _ (fun Z hZ => ?_))
        have M1 := hM.cong (σ' := σ1) (fun c a => f1 c (by omega) (by omega))
        have C1 : CI σ1 p A U X := hC.scene (hC.1.cong (fun c a1 a2 => f1 c (by omega) (by omega))) (hC.2.1.cong (f1 23 (by decide) (by decide)) (fun c a1 a2 => f1 c (by omega) (by omega))) (fun c a1 a2 a3 => f1 c (by omega) (by omega))
        refine mod σ1 M1.1 Z ⟨fun _ => ⟨fun q => ⟨fun q2 => absurd c3 q2, fun _ => M_few s2 c (fun σ2 K2 hK2 f2 => ?_)⟩, fun q => absurd (c3.symm.trans q) (by decide)⟩, fun q => absurd q c⟩
        have eK : K2 = K := by
          obtain ⟨⟨S1, o1, e1⟩, u1⟩ := hK
          obtain ⟨⟨S2, o2, e2⟩, u2⟩ := hK2
          have a1 := u1 S2 o2
          have a2 := u2 S1 o1
          omega
        rw [eK]
        refine ⟨fun q => absurd q one0, fun _ => hZ _ _ ⟨p, A, U, X, C1.cong (fun c a => f2 c (by omega)), M1.scene (M1.1.cong (fun j a1 a2 => by rw [f2 125 (by decide)]) (f2 131 (by decide)) (f2 132 (by decide)) (f2 133 (by decide))) (M1.2.1.fr M1.1.1 (fun c a1 a2 => f2 c a2)) (frM.of (fun c a1 a2 => f2 c a2))⟩⟩
      · refine S_fewest s2 (fun σ1 f1 => h _ _ _ (fun Z hZ => ?_))
        have M1 := hM.cong (σ' := σ1) (fun c a => f1 c (by omega) (by omega))
        have C1 : CI σ1 p A U X := hC.scene (hC.1.cong (fun c a1 a2 => f1 c (by omega) (by omega))) (hC.2.1.cong (f1 23 (by decide) (by decide)) (fun c a1 a2 => f1 c (by omega) (by omega))) (fun c a1 a2 a3 => f1 c (by omega) (by omega))
        refine mod σ1 M1.1 Z ⟨fun _ => ⟨fun q => ⟨fun q2 => M_few s2 c (fun σ2 K2 hK2 f2 => ?_), fun q2 => absurd (c2.symm.trans q2) (by decide)⟩, fun q => absurd (c2.symm.trans q) (by decide)⟩, fun q => absurd q c⟩
        refine ⟨fun _ => hZ _ _ ⟨p, A, U, X, C1.cong (fun c a => f2 c (by omega)), M1.scene (M1.1.cong (fun j a1 a2 => by rw [f2 125 (by decide)]) (f2 131 (by decide)) (f2 132 (by decide)) (f2 133 (by decide))) (M1.2.1.fr M1.1.1 (fun c a1 a2 => f2 c a2)) (frM.of (fun c a1 a2 => f2 c a2))⟩, fun q => absurd rfl q⟩
  · exact s_X11_toWrap _ _ σ τ (S_ntro hC.1 hx ⟨fun q => absurd rfl q, fun _ => h _ _ _ (fun Z hZ => s_X12_toWrap _ _ σ τ (M_ntro hM.1 hx ⟨fun q => absurd rfl q, fun _ => hZ _ _ J⟩))⟩)
end LINES
