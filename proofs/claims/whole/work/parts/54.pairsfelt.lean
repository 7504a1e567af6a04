/-! WHAT IS FELT: counts of pairs. -/
def ctF (B : Bm) (sh m : Nat) : Nat := fb_ct (fitB B sh) m
def flF (B : Bm) (sh c m : Nat) : Nat := fb_ct (fun m => fitB B sh m && (sh * 2 ^ m).testBit c) m
def totF (A : Sc) (B : Bm) (t : Nat) : Nat := fb_sm (fun t => ctF B (spS A t) 25) t
def flsF (A : Sc) (B : Bm) (c t : Nat) : Nat := fb_sm (fun t => flF B (spS A t) c 25) t
def wiB (A : Sc) (B : Bm) (t : Nat) : Bool := decide (0 < ctF B (spS A t) 25)
theorem ct_le (B : Bm) (sh m : Nat) : ctF B sh m ≤ m := fb_ct_le _ _
theorem fl_le (B : Bm) (sh c m : Nat) : flF B sh c m ≤ ctF B sh m := fb_ct_sub (fun k _ h => by rw [Bool.and_eq_true] at h; exact h.1)
theorem tot_le (A : Sc) (B : Bm) (t : Nat) : totF A B t ≤ t * 25 := fb_sm_bound (fun k _ => ct_le B _ 25)
theorem fls_le (A : Sc) (B : Bm) (c t : Nat) : flsF A B c t ≤ totF A B t := fb_sm_le (fun k _ => fl_le B _ c 25)
theorem ct_s (B : Bm) (sh m : Nat) : ctF B sh (m + 1) = ctF B sh m + (if fitB B sh m then 1 else 0) := rfl
theorem fl_s (B : Bm) (sh c m : Nat) : flF B sh c (m + 1) = flF B sh c m + (if fitB B sh m && (sh * 2 ^ m).testBit c then 1 else 0) := rfl
theorem ct_gap {B : Bm} {sh m n : Nat} (hmn : m ≤ n) (h : ∀ k, m ≤ k → k < n → okMv sh k = false) : ctF B sh n = ctF B sh m ∧ ∀ c, flF B sh c n = flF B sh c m := by
  have hz : ∀ k, k < n - m → fitB B sh (m + k) = false := fun k hk => by
    unfold fitB; rw [h (m + k) (by omega) (by omega)]; rfl
  refine ⟨?_, fun c => ?_⟩
  · unfold ctF
    rw [show n = m + (n - m) by omega, fb_ct_split]
    have e : fb_ct (fun k => fitB B sh (m + k)) (n - m) = 0 := fb_ct_zero.mpr hz
    omega
  · unfold flF
    rw [show n = m + (n - m) by omega, fb_ct_split]
    have e : fb_ct (fun k => fitB B sh (m + k) && (sh * 2 ^ (m + k)).testBit c) (n - m) = 0 := fb_ct_zero.mpr (fun k hk => by rw [hz k hk]; rfl)
    omega
theorem bit_val {S c : Nat} (hS : S < 2 ^ 31) (hc : c < 31) : (nI S >>> (nI c &&& 31)) &&& 1 = nI (if S.testBit c then 1 else 0) := by
  rw [nI_shr hS hc, show (1 : Int32) = nI 1 from rfl, fa_and, Nat.and_one_is_mod, Nat.testBit_eq_decide_div_mod_eq]
  by_cases q : S / 2 ^ c % 2 = 1
  · simp [q]
  · have : S / 2 ^ c % 2 = 0 := by omega
    simp [this]
theorem and_zero_iff {a c : Nat} (ha : a < 2 ^ 31) : nI a &&& nI c = 0 ↔ ∀ i, a.testBit i = true → c.testBit i = false := by
  rw [fa_and, show (0 : Int32) = nI 0 from rfl, nI_eq (Nat.lt_of_le_of_lt Nat.and_le_left ha) (by decide)]
  constructor
  · intro h i hi
    have h1 : (a &&& c).testBit i = false := by rw [h]; exact Nat.zero_testBit i
    rw [Nat.testBit_and, hi, Bool.true_and] at h1
    exact h1
  · intro h
    apply Nat.eq_of_testBit_eq
    intro i
    rw [Nat.testBit_and, Nat.zero_testBit]
    cases e : a.testBit i
    · rfl
    · rw [h i e]; rfl
/-- the cloth's scratch -/
def Fst (σ : zSg) (n : Nat) (f : Nat → Nat) : Prop := σ 120 4 = nI n ∧ ∀ c, c < 25 → σ 121 c = nI (f c)
def felM (σ σ' : zSg) : Prop := (∀ c, c ≠ 120 → c ≠ 121 → σ' c = σ c) ∧ ∀ j, j ≠ 4 → σ' 120 j = σ 120 j
def felA (σ σ' : zSg) : Prop := (∀ c, c ≠ 120 → c ≠ 121 → σ' c = σ c) ∧ ∀ j, j ≠ 3 → j ≠ 4 → σ' 120 j = σ 120 j
theorem felM.refl (σ : zSg) : felM σ σ := ⟨fun _ _ _ => rfl, fun _ _ => rfl⟩
theorem felM.trans {a c d : zSg} (h : felM a c) (h2 : felM c d) : felM a d := ⟨fun q a1 a2 => (h2.1 q a1 a2).trans (h.1 q a1 a2), fun j a1 => (h2.2 j a1).trans (h.2 j a1)⟩
theorem felA.trans {a c d : zSg} (h : felA a c) (h2 : felM c d) : felA a d := ⟨fun q a1 a2 => (h2.1 q a1 a2).trans (h.1 q a1 a2), fun j a1 a2 => (h2.2 j a2).trans (h.2 j a1 a2)⟩
def wvT (n : Nat) (f : Nat → Nat) : Nat → Option Nat × Nat
  | 0 => (none, n)
  | k + 1 => if max (f k) (n - f k) < (wvT n f k).2 then (some k, max (f k) (n - f k)) else wvT n f k
theorem wv_le (n : Nat) (f : Nat → Nat) : ∀ k, (wvT n f k).2 ≤ n
  | 0 => Nat.le_refl n
  | k + 1 => by
    have ih := wv_le n f k
    rw [wvT]
    split
    · rename_i h
      have h : max (f k) (n - f k) < (wvT n f k).2 := h
      show max (f k) (n - f k) ≤ n
      omega
    · exact ih
section COUNTS
variable {l : Launch} {D : zDD} {b : Nat} {γ : zGm} {σ : zSg} {τ : zLm} {p : Pl} {A : Sc} {U : Un} {X : Xt} {Q : Int32 → zSg → zLm → Prop} {G : zSg → zLm → Prop}
theorem S_countPair {S n : Nat} {f : Nat → Nat} (hS : S < 2 ^ 31) (HS : Fst σ n f) (h : ∀ σ', Fst σ' (n + 1) (fun c => f c + (if S.testBit c then 1 else 0)) → felM σ σ' → G σ' τ) : SV l D b M_X1_countPair 0 G0 [.ref (b + 120), .int (nI S)] σ τ G := by
  obtain ⟨h4, h1⟩ := HS
  refine s_X1_countPair _ σ τ ?_
  rw [h4, nI_1]
  have key := lp_up (P := fun k => ∀ σ', (∀ c, c ≠ 121 → σ' c = st2 σ 120 4 (nI (n + 1)) c) → (∀ c, c < k → σ' 121 c = nI (f c + (if S.testBit c then 1 else 0))) → (∀ c, k ≤ c → σ' 121 c = σ 121 c) → AV l D b M_X1_countPair 0 G0 G 12 [(0, .ref (b + 120)), (1, .int (nI S)), (2, .int (nI k))] [] G0 σ' τ) (n := 25) ?_ ?_ 0 (Nat.zero_le _)
  · exact key _ (fun _ _ => rfl) (fun c hc => absurd hc (Nat.not_lt_zero c)) (fun c _ => by rw [st2_cell _ _ (by decide)])
  · intro k hk ih σ' f1 f2 f3
    refine w_X1_countPair_12 _ _ σ' τ ⟨fun c => ?_, fun _ => ⟨vp_in_t hk (by decide), vp_in_t hk (by decide), ?_⟩⟩
    · rw [show (25 : Int32) = nI 25 from rfl, nI_leI (by omega) (by omega)] at c; omega
    · rw [nI_c (by omega), f3 k (Nat.le_refl k), h1 k hk, bit_val hS (by omega), nI_add, nI_1]
      refine ih _ (fun c hc => (st2_cell _ _ hc).trans (f1 c hc)) (fun c hc => ?_) (fun c hc => (st2_slot _ _ (by omega)).trans (f3 c (by omega)))
      by_cases e : c = k
      · subst e; rw [st2_same]
      · rw [st2_slot _ _ e]; exact f2 c (by omega)
  · intro σ' f1 f2 f3
    refine w_X1_countPair_12 _ _ σ' τ ⟨fun _ => h σ' ⟨?_, f2⟩ ⟨fun c c1 c2 => (f1 c c2).trans (st2_cell _ _ c1), fun j hj => ?_⟩, fun c => absurd (nI_le (Nat.le_refl 25) (by decide)) c⟩
    · rw [f1 120 (by decide), st2_same]
    · rw [f1 120 (by decide), st2_slot _ _ hj]
theorem S_feelMoves {B : Bm} {sh n : Nat} {f : Nat → Nat} (hsh : sh < 2 ^ 25) (HB : CB σ B) (HS : Fst σ n f) (h : ∀ σ', Fst σ' (n + ctF B sh 25) (fun c => f c + flF B sh c 25) → felM σ σ' → G σ' τ) : SV l D b M_X1_feelMoves 3 G0 [.ref (b + 120), .int (nI sh)] σ τ G := by
  have hr := hi_le ⟨rowsN sh, rowsN_lt sh⟩
  have hc := hi_le ⟨colsN sh, colsN_lt sh⟩
  have hr : hiN (rowsN sh) ≤ 4 := hr
  have hc : hiN (colsN sh) ≤ 4 := hc
  obtain ⟨oB, -, b1, b2⟩ := HB
  have bl1 := bsT_lt (v := true) oB
  have bl2 := bsT_lt (v := false) oB
  refine s_X1_feelMoves _ σ τ (s_X9_movesDown _ σ τ (S_rowsUsed hsh (S_lastOf ?_)))
  rw [show (5 : Int32) = nI 5 from rfl, pk_sub (by omega)]
  refine s_X9_movesRight _ σ τ (S_colsUsed hsh (S_lastOf ?_))
  rw [show (5 : Int32) = nI 5 from rfl, pk_sub (by omega)]
  generalize hdn : 5 - hiN (rowsN sh) = dn
  generalize hrt : 5 - hiN (colsN sh) = rt
  have okv : ∀ r c, c < 5 → okMv sh (5 * r + c) = (decide (r < dn) && decide (c < rt)) := by
    intro r c hc5
    unfold okMv
    rw [show (5 * r + c) / 5 = r by omega, show (5 * r + c) % 5 = c by omega]
    congr 1
    · exact decide_eq_decide.mpr (by omega)
    · exact decide_eq_decide.mpr (by omega)
  have key := lp_up (P := fun r => ∀ σ', Fst σ' (n + ctF B sh (5 * r)) (fun c => f c + flF B sh c (5 * r)) → felM σ σ' → AV l D b M_X1_feelMoves 3 G0 G 13 [(0, .ref (b + 120)), (1, .int (nI sh)), (2, .int (nI dn)), (3, .int (nI rt)), (4, .int (nI r))] [] G0 σ' τ) (n := dn) ?_ ?_ 0 (Nat.zero_le _)
  · exact key σ HS (felM.refl σ)
  · intro r hr5 ih σ' S' F'
    refine w_X1_feelMoves_13 _ _ _ _ σ' τ ⟨fun c => ?_, fun _ => ?_⟩
    · rw [nI_leI (by omega) (by omega)] at c; omega
    · have key2 := lp_up (P := fun c => ∀ σ', Fst σ' (n + ctF B sh (5 * r + c)) (fun q => f q + flF B sh q (5 * r + c)) → felM σ σ' → AV l D b M_X1_feelMoves 3 G0 G 22 [(0, .ref (b + 120)), (1, .int (nI sh)), (2, .int (nI dn)), (3, .int (nI rt)), (4, .int (nI r)), (5, .int (nI c))] [] G0 σ' τ) (n := rt) ?_ ?_ 0 (Nat.zero_le _)
      · exact key2 σ' S' F'
      · intro c hc5 ih2 σ' S' F'
        have ok : okMv sh (5 * r + c) = true := by rw [okv r c (by omega), decide_eq_true hr5, decide_eq_true hc5]; rfl
        have hS := mv_lt hsh (m := 5 * r + c) (by omega) ok
        refine w_X1_feelMoves_22 _ _ _ _ _ σ' τ ⟨fun c => ?_, fun _ v ev => ?_⟩
        · rw [nI_leI (by omega) (by omega)] at c; omega
        · rw [show (5 : Int32) = nI 5 from rfl, pk_mul, nI_add, nI_shl (by omega) (by omega)] at ev
          subst ev
          rw [F'.2 1 (by decide), F'.2 2 (by decide), b1, b2, sub_zero_iff (by omega), and_zero_iff (by omega), nI_1]
          have efit : fitB B sh (5 * r + c) = bmB B (sh * 2 ^ (5 * r + c)) B.1 := by unfold fitB; rw [ok]; rfl
          have no : fitB B sh (5 * r + c) = false → AV l D b M_X1_feelMoves 3 G0 G 22 [(0, .ref (b + 120)), (1, .int (nI sh)), (2, .int (nI dn)), (3, .int (nI rt)), (4, .int (nI r)), (5, .int (nI (c + 1)))] [] G0 σ' τ := by
            intro e
            refine ih2 σ' ⟨?_, fun q hq => ?_⟩ F'
            · rw [show 5 * r + (c + 1) = 5 * r + c + 1 by omega, ct_s, e, if_neg (by decide), Nat.add_zero]; exact S'.1
            · show σ' 121 q = nI (f q + flF B sh q (5 * r + c + 1))
              rw [fl_s, e, Bool.false_and, if_neg (by decide), Nat.add_zero]; exact S'.2 q hq
          refine ⟨fun q => no ?_, fun q1 => ⟨fun q => no ?_, fun q2 => ?_⟩⟩
          · rw [efit]
            cases e : bmB B (sh * 2 ^ (5 * r + c)) B.1
            · rfl
            · exact absurd (bm_sets.mp e).1 q
          · rw [efit]
            cases e : bmB B (sh * 2 ^ (5 * r + c)) B.1
            · rfl
            · exact absurd (bm_sets.mp e).2 q
          · have e : fitB B sh (5 * r + c) = true := by rw [efit]; exact bm_sets.mpr ⟨q1, q2⟩
            refine S_countPair (by omega) S' (fun σ2 S2 F2 => ih2 σ2 ⟨?_, fun q hq => ?_⟩ (F'.trans F2))
            · rw [show 5 * r + (c + 1) = 5 * r + c + 1 by omega, ct_s, e, if_pos rfl]; exact S2.1
            · show σ2 121 q = nI (f q + flF B sh q (5 * r + c + 1))
              rw [fl_s, e, Bool.true_and, ← Nat.add_assoc]; exact S2.2 q hq
      · intro σ' S' F'
        refine w_X1_feelMoves_22 _ _ _ _ _ σ' τ ⟨fun _ => ?_, fun c => absurd (nI_le (Nat.le_refl _) (by omega)) c⟩
        have gp := ct_gap (B := B) (sh := sh) (m := 5 * r + rt) (n := 5 * (r + 1)) (by omega) (fun k k1 k2 => by
          have := okv r (k - 5 * r) (by omega)
          rw [show 5 * r + (k - 5 * r) = k by omega] at this
          rw [this, decide_eq_false (p := k - 5 * r < rt) (by omega), Bool.and_false])
        rw [nI_1]
        refine ih σ' ⟨?_, fun q hq => ?_⟩ F'
        · rw [gp.1]; exact S'.1
        · show σ' 121 q = nI (f q + flF B sh q (5 * (r + 1)))
          rw [gp.2 q]; exact S'.2 q hq
  · intro σ' S' F'
    refine w_X1_feelMoves_13 _ _ _ _ σ' τ ⟨fun _ => h σ' ⟨?_, fun q hq => ?_⟩ F', fun c => absurd (nI_le (Nat.le_refl _) (by omega)) c⟩
    · have gp := ct_gap (B := B) (sh := sh) (m := 5 * dn) (n := 25) (by omega) (fun k k1 k2 => by
        have := okv (k / 5) (k % 5) (by omega)
        rw [show 5 * (k / 5) + k % 5 = k by omega] at this
        rw [this, decide_eq_false (p := k / 5 < dn) (by omega), Bool.false_and])
      rw [gp.1]; exact S'.1
    · have gp := ct_gap (B := B) (sh := sh) (m := 5 * dn) (n := 25) (by omega) (fun k k1 k2 => by
        have := okv (k / 5) (k % 5) (by omega)
        rw [show 5 * (k / 5) + k % 5 = k by omega] at this
        rw [this, decide_eq_false (p := k / 5 < dn) (by omega), Bool.false_and])
      show σ' 121 q = nI (f q + flF B sh q 25)
      rw [gp.2 q]; exact S'.2 q hq
theorem S_feelAll {B : Bm} (R : RC σ p A) (HB : CB σ B) (h : ∀ σ', σ' 120 3 = nI (stN (wiB A B) (pm p)) → Fst σ' (totF A B (pm p)) (fun c => flsF A B c (pm p)) → felA σ σ' → G σ' τ) : SV l D b M_X1_feelAll 4 G0 [.ref (b + 120), .ref (b + 9), .ref (b + 14)] σ τ G := by
  obtain ⟨m1, m2⟩ := RC_m R
  refine s_X1_feelAll σ τ ?_
  have key2 := lp_up (P := fun t => ∀ σ', σ' 120 3 = nI (stN (wiB A B) t) → Fst σ' (totF A B t) (fun c => flsF A B c t) → felA σ σ' → AV l D b M_X1_feelAll 4 G0 G 33 [(0, .ref (b + 120)), (1, .ref (b + 9)), (2, .ref (b + 14)), (3, .int (nI t))] [] G0 σ' τ) (n := pm p) ?_ ?_ 0 (Nat.zero_le _)
  · have key := lp_up (P := fun k => ∀ σ', (∀ c, c ≠ 121 → σ' c = st2 (st2 σ 120 3 0) 120 4 0 c) → (∀ c, c < k → σ' 121 c = 0) → AV l D b M_X1_feelAll 4 G0 G 12 [(0, .ref (b + 120)), (1, .ref (b + 9)), (2, .ref (b + 14)), (3, .int (nI k))] [] G0 σ' τ) (n := 25) ?_ ?_ 0 (Nat.zero_le _)
    · exact key _ (fun _ _ => rfl) (fun c hc => absurd hc (Nat.not_lt_zero c))
    · intro k hk ih σ' f1 f2
      refine w_X1_feelAll_12 _ σ' τ ⟨fun c => ?_, fun _ => ⟨vp_in_t hk (by decide), ?_⟩⟩
      · rw [show (25 : Int32) = nI 25 from rfl, nI_leI (by omega) (by omega)] at c; omega
      · rw [nI_c (by omega), nI_1]
        refine ih _ (fun c hc => (st2_cell _ _ hc).trans (f1 c hc)) (fun c hc => ?_)
        by_cases e : c = k
        · subst e; rw [st2_same]
        · rw [st2_slot _ _ e]; exact f2 c (by omega)
    · intro σ' f1 f2
      refine w_X1_feelAll_12 _ σ' τ ⟨fun _ => key2 σ' ?_ ⟨?_, fun c hc => f2 c hc⟩ ⟨fun c c1 c2 => ?_, fun j j1 j2 => ?_⟩, fun c => absurd (nI_le (Nat.le_refl 25) (by decide)) c⟩
      · rw [f1 120 (by decide), st2_slot _ _ (by decide), st2_same]; rfl
      · rw [f1 120 (by decide), st2_same]; rfl
      · rw [f1 c c2, st2_cell _ _ c1, st2_cell _ _ c1]
      · rw [f1 120 (by decide), st2_slot _ _ j2, st2_slot _ _ j1]
  · intro t ht ih σ' e3 S' F'
    obtain ⟨s1, s2⟩ := RC_sp R ht
    have h6 := RC_t R ht
    have hb := tot_le A B t
    have hb2 := ct_le B (spS A t) 25
    refine w_X1_feelAll_33 _ σ' τ ⟨fun c => ?_, fun _ => ⟨vp_in_t h6 (by decide), ?_⟩⟩
    · rw [F'.1 9 (by decide) (by decide), m1, nI_leI (by omega) (by omega)] at c; omega
    · rw [nI_c (by omega), F'.1 17 (by decide) (by decide), s1]
      have HB' : CB σ' B := HB.cong (F'.2 0 (by decide) (by decide)) (F'.2 1 (by decide) (by decide)) (F'.2 2 (by decide) (by decide))
      refine S_feelMoves s2 HB' S' (fun σ2 S2 F2 => ?_)
      have hs := stN_step (wiB A B) (t := t) (by omega)
      rw [S2.1, S'.1, nI_leI (by omega) (by omega), nI_1]
      refine ⟨fun c => ?_, fun c => ?_⟩
      · rw [show wiB A B t = false by unfold wiB; exact decide_eq_false (by omega), if_neg (by decide), or0] at hs
        refine ih σ2 ?_ S2 (F'.trans F2)
        rw [← hs, F2.2 3 (by decide)]; exact e3
      · rw [show wiB A B t = true by unfold wiB; exact decide_eq_true (by omega), if_pos rfl] at hs
        refine ih _ ?_ ⟨?_, fun q hq => ?_⟩ ⟨fun c c1 c2 => ?_, fun j j1 j2 => ?_⟩
        · rw [st2_same, F2.2 3 (by decide), e3]; exact hs
        · rw [st2_slot _ _ (by decide)]; exact S2.1
        · rw [st2_cell _ _ (by decide)]; exact S2.2 q hq
        · rw [st2_cell _ _ c1]; exact (F'.trans F2).1 c c1 c2
        · rw [st2_slot _ _ j1]; exact (F'.trans F2).2 j j1 j2
  · intro σ' e3 S' F'
    refine w_X1_feelAll_33 _ σ' τ ⟨fun _ => h σ' e3 S' F', fun c => ?_⟩
    rw [F'.1 9 (by decide) (by decide), m1] at c
    exact absurd (nI_le (Nat.le_refl _) (by omega)) c
theorem S_weave {B : Bm} (R : RC σ p A) (HB : CB σ B) (h : ∀ σ', felA σ σ' → Q (oI (wvT (totF A B (pm p)) (fun c => flsF A B c (pm p)) 25).1) σ' τ) : SI l D b M_X1_weave 5 G0 [.ref (b + 120), .ref (b + 9), .ref (b + 14)] σ τ Q := by
  obtain ⟨m1, m2⟩ := RC_m R
  have hb := tot_le A B (pm p)
  refine s_X1_weave σ τ (S_feelAll R HB (fun σ' e3 S' F' => ?_))
  have hf := fun c => fls_le A B c (pm p)
  obtain ⟨s4, s1⟩ := S'
  rw [s4]
  generalize totF A B (pm p) = n at *
  generalize hff : (fun c => flsF A B c (pm p)) = f at *
  have hf : ∀ c, f c ≤ n := fun c => by rw [← hff]; exact hf c
  refine lp_up (P := fun k => AI l D b M_X1_weave 5 G0 Q 17 [(0, .ref (b + 120)), (3, .int (oI (wvT n f k).1)), (4, .int (nI (wvT n f k).2)), (5, .int (nI k))] [] G0 σ' τ) (n := 25) ?_ ?_ 0 (Nat.zero_le _)
  · intro k hk ih
    have w := wv_le n f k
    have hfk := hf k
    refine w_X1_weave_17 _ _ _ σ' τ ⟨fun c => ?_, fun _ => ⟨vp_in_t hk (by decide), vp_in_t hk (by decide), fun v ev => ?_⟩⟩
    · rw [show (25 : Int32) = nI 25 from rfl, nI_leI (by omega) (by omega)] at c; omega
    · rw [nI_c (by omega), s1 k hk, s4, pk_sub hfk, mx_nI (by omega) (by omega)] at ev
      subst ev
      rw [nI_leI (by omega) (by omega), nI_1]
      rw [wvT] at ih
      refine ⟨fun c => ?_, fun c => ?_⟩
      · rw [if_neg (by omega)] at ih; exact ih
      · rw [if_pos (by omega)] at ih; exact ih
  · exact w_X1_weave_17 _ _ _ σ' τ ⟨fun _ => h σ' F', fun c => absurd (nI_le (Nat.le_refl 25) (by decide)) c⟩
theorem M_within {B : Bm} (R : RM σ p A) (HB : MB σ B) (h : Q (nI (stN (wiB A B) (pm p))) σ τ) : SI l D b M_X12_within 3 G0 [.ref (b + 125)] σ τ Q := by
  obtain ⟨m1, m2⟩ := RM_m R
  refine s_X12_within σ τ ?_
  refine lp_up (P := fun t => AI l D b M_X12_within 3 G0 Q 4 [(0, .ref (b + 125)), (1, .int (nI (stN (wiB A B) t))), (2, .int (nI (25 * t)))] [] G0 σ τ) (n := pm p) ?_ ?_ 0 (Nat.zero_le _)
  · intro t ht ih
    have key := lp_up (P := fun m => AI l D b M_X12_within 3 G0 Q 4 [(0, .ref (b + 125)), (1, .int (nI (stN (wiB A B) t ||| (if 0 < ctF B (spS A t) m then 2 ^ t else 0)))), (2, .int (nI (25 * t + m)))] [] G0 σ τ) (n := 25) ?_ ?_ 0 (Nat.zero_le _)
    · rw [show ctF B (spS A t) 0 = 0 from rfl, if_neg (by decide), Nat.or_zero] at key
      exact key
    · intro m hm ih2
      have hS : spS A t < 2 ^ 25 := (RM_sp R ht).2
      refine w_X12_within_4 _ _ σ τ ?_
      rw [m1, show (25 : Int32) = nI 25 from rfl, pk_mul, nI_leI (by omega) (by omega), nI_1, pk_div (by omega) (by decide) (by decide), show (25 * t + m) / 25 = t by omega, nI_sh (by omega)]
      refine ⟨fun c => by omega, fun _ => M_fit R HB ht hm ?_⟩
      rw [show 25 * t + (m + 1) = 25 * t + m + 1 by omega] at ih2
      cases e : fitB B (spS A t) m
      · rw [show ctF B (spS A t) (m + 1) = ctF B (spS A t) m by rw [ct_s, e, if_neg (by decide), Nat.add_zero]] at ih2
        rw [if_neg (by decide)]
        refine ⟨fun _ => ?_, fun q => absurd rfl q⟩
        rw [or0]; exact ih2
      · have hlt := mv_lt hS hm (by unfold fitB at e; rw [Bool.and_eq_true] at e; exact e.1)
        rw [show ctF B (spS A t) (m + 1) = ctF B (spS A t) m + 1 by rw [ct_s, e, if_pos rfl], if_pos (by omega)] at ih2
        rw [if_pos rfl]
        refine ⟨fun q => absurd q (nI_m1 (by omega)), fun _ v ev => ?_⟩
        rw [fa_or] at ev
        rw [ev]
        have e2 : stN (wiB A B) t ||| (if 0 < ctF B (spS A t) m then 2 ^ t else 0) ||| 2 ^ t = stN (wiB A B) t ||| 2 ^ t := by
          rw [Nat.or_assoc]
          congr 1
          split
          · rw [Nat.or_self]
          · rw [Nat.zero_or]
        rw [e2]; exact ih2
    · have e : stN (wiB A B) (t + 1) = stN (wiB A B) t ||| (if 0 < ctF B (spS A t) 25 then 2 ^ t else 0) := by
        show stN (wiB A B) t ||| (if wiB A B t then 2 ^ t else 0) = _
        unfold wiB
        congr 1
        by_cases q : 0 < ctF B (spS A t) 25
        · rw [decide_eq_true q, if_pos rfl, if_pos q]
        · rw [decide_eq_false q, if_neg (by decide), if_neg q]
      rw [e] at ih
      exact ih
  · refine w_X12_within_4 _ _ σ τ ⟨fun _ => h, fun c => ?_⟩
    rw [m1, show (25 : Int32) = nI 25 from rfl, pk_mul] at c
    exact absurd (nI_le (Nat.le_refl _) (by omega)) c
theorem M_fitMany {B : Bm} (R : RM σ p A) (HB : MB σ B) (h : Q (nI (totF A B (pm p))) σ τ) : SI l D b M_X12_fitMany 3 G0 [.ref (b + 125)] σ τ Q := by
  obtain ⟨m1, m2⟩ := RM_m R
  refine s_X12_fitMany σ τ ?_
  refine lp_up (P := fun t => AI l D b M_X12_fitMany 3 G0 Q 4 [(0, .ref (b + 125)), (1, .int (nI (totF A B t))), (2, .int (nI (25 * t)))] [] G0 σ τ) (n := pm p) ?_ ?_ 0 (Nat.zero_le _)
  · intro t ht ih
    refine lp_up (P := fun m => AI l D b M_X12_fitMany 3 G0 Q 4 [(0, .ref (b + 125)), (1, .int (nI (totF A B t + ctF B (spS A t) m))), (2, .int (nI (25 * t + m)))] [] G0 σ τ) (n := 25) ?_ ?_ 0 (Nat.zero_le _)
    · intro m hm ih2
      have hS : spS A t < 2 ^ 25 := (RM_sp R ht).2
      refine w_X12_fitMany_4 _ _ σ τ ?_
      rw [m1, show (25 : Int32) = nI 25 from rfl, pk_mul, nI_leI (by omega) (by omega), nI_1, nI_1]
      refine ⟨fun c => by omega, fun _ => M_fit R HB ht hm ?_⟩
      rw [show 25 * t + (m + 1) = 25 * t + m + 1 by omega, ct_s] at ih2
      cases e : fitB B (spS A t) m
      · rw [e, if_neg (by decide), Nat.add_zero] at ih2
        rw [if_neg (by decide)]
        refine ⟨fun _ => ?_, fun q => absurd rfl q⟩
        rw [show (0 : Int32) = nI 0 from rfl, nI_add]; exact ih2
      · have hlt := mv_lt hS hm (by unfold fitB at e; rw [Bool.and_eq_true] at e; exact e.1)
        rw [e, if_pos rfl, ← Nat.add_assoc] at ih2
        rw [if_pos rfl]
        exact ⟨fun q => absurd q (nI_m1 (by omega)), fun _ => ih2⟩
    · exact ih
  · refine w_X12_fitMany_4 _ _ σ τ ⟨fun _ => h, fun c => ?_⟩
    rw [m1, show (25 : Int32) = nI 25 from rfl, pk_mul] at c
    exact absurd (nI_le (Nat.le_refl _) (by omega)) c
theorem M_weave {B : Bm} (R : RM σ p A) (HB : MB σ B) (h : ∀ σ', (∀ c, c ≠ 138 → σ' c = σ c) → Q (oI (wvT (totF A B (pm p)) (fun c => flsF A B c (pm p)) 25).1) σ' τ) : SI l D b M_X12_weave 3 G0 [.ref (b + 125)] σ τ Q := by
  obtain ⟨m1, m2⟩ := RM_m R
  have hb := tot_le A B (pm p)
  refine s_X12_weave σ τ ?_
  have Rc : ∀ σ', (∀ c, c ≠ 138 → σ' c = σ c) → RM σ' p A ∧ MB σ' B := fun σ' f => ⟨R.cong (fun j _ _ => by rw [f 125 (by decide)]) (f 131 (by decide)) (f 132 (by decide)) (f 133 (by decide)), HB.cong (by rw [f 125 (by decide)]) (f 136 (by decide)) (f 137 (by decide))⟩
  have last : ∀ σ', (∀ c, c ≠ 138 → σ' c = σ c) → (∀ c, c < 25 → σ' 138 c = nI (flsF A B c (pm p))) → AI l D b M_X12_weave 3 G0 Q 105 [(0, .ref (b + 125)), (1, .int (nI (totF A B (pm p)))), (2, .int (-1)), (3, .int (nI (totF A B (pm p)))), (4, .int 0)] [] G0 σ' τ := by
    intro σ' f1 f2
    have hf := fun c => fls_le A B c (pm p)
    have hQ := h σ' f1
    generalize totF A B (pm p) = n at *
    generalize hff : (fun c => flsF A B c (pm p)) = f at *
    have hf : ∀ c, f c ≤ n := fun c => by rw [← hff]; exact hf c
    have f2 : ∀ c, c < 25 → σ' 138 c = nI (f c) := fun c hc => by rw [← hff]; exact f2 c hc
    refine lp_up (P := fun k => AI l D b M_X12_weave 3 G0 Q 105 [(0, .ref (b + 125)), (1, .int (nI n)), (2, .int (oI (wvT n f k).1)), (3, .int (nI (wvT n f k).2)), (4, .int (nI k))] [] G0 σ' τ) (n := 25) ?_ ?_ 0 (Nat.zero_le _)
    · intro k hk ih
      have w := wv_le n f k
      have hfk := hf k
      rw [wvT] at ih
      have f150 : AI l D b M_X12_weave 3 G0 Q 150 [(0, .ref (b + 125)), (1, .int (nI n)), (2, .int (oI (wvT n f k).1)), (3, .int (nI (wvT n f k).2)), (4, .int (nI k))] [.int (nI (max (f k) (n - f k)))] G0 σ' τ := by
        refine w_X12_weave_150 _ _ _ _ _ σ' τ ?_
        rw [nI_leI (by omega) (by omega)]
        refine ⟨fun c => w_X12_weave_164 _ _ _ _ _ σ' τ ?_, fun c => w_X12_weave_164 _ _ _ _ _ σ' τ ?_⟩
        · rw [nI_leI (by omega) (by omega), nI_1]
          rw [if_neg (by omega)] at ih
          exact ⟨fun _ => ih, fun q => absurd c q⟩
        · rw [nI_leI (by omega) (by omega), nI_1]
          rw [if_pos (by omega)] at ih
          exact ⟨fun q => absurd q c, fun _ => ih⟩
      refine w_X12_weave_105 _ _ _ _ σ' τ ⟨fun c => ?_, fun _ => ⟨vp_in_t hk (by decide), vp_in_t hk (by decide), ?_⟩⟩
      · rw [show (25 : Int32) = nI 25 from rfl, nI_leI (by omega) (by omega)] at c; omega
      · rw [nI_c (by omega), f2 k hk, pk_sub hfk, nI_leI (by omega) (by omega)]
        refine ⟨fun c => ⟨vp_in_t hk (by decide), ?_⟩, fun c => ⟨vp_in_t hk (by decide), ?_⟩⟩
        · rw [show max (f k) (n - f k) = n - f k by omega] at f150; exact f150
        · rw [show max (f k) (n - f k) = f k by omega] at f150; exact f150
    · exact w_X12_weave_105 _ _ _ _ σ' τ ⟨fun _ => hQ, fun c => absurd (nI_le (Nat.le_refl 25) (by decide)) c⟩
  have key2 := lp_up (P := fun t => ∀ σ', (∀ c, c ≠ 138 → σ' c = σ c) → (∀ c, c < 25 → σ' 138 c = nI (flsF A B c t)) → AI l D b M_X12_weave 3 G0 Q 25 [(0, .ref (b + 125)), (1, .int (nI (totF A B t))), (2, .int (nI (25 * t)))] [] G0 σ' τ) (n := pm p) ?_ ?_ 0 (Nat.zero_le _)
  · have key := lp_up (P := fun k => ∀ σ', (∀ c, c ≠ 138 → σ' c = σ c) → (∀ c, c < k → σ' 138 c = 0) → AI l D b M_X12_weave 3 G0 Q 4 [(0, .ref (b + 125)), (1, .int 0), (2, .int (nI k))] [] G0 σ' τ) (n := 25) ?_ ?_ 0 (Nat.zero_le _)
    · exact key σ (fun _ _ => rfl) (fun c hc => absurd hc (Nat.not_lt_zero c))
    · intro k hk ih σ' f1 f2
      refine w_X12_weave_4 _ _ σ' τ ⟨fun c => ?_, fun _ => ⟨vp_in_t hk (by decide), ?_⟩⟩
      · rw [show (25 : Int32) = nI 25 from rfl, nI_leI (by omega) (by omega)] at c; omega
      · rw [nI_c (by omega), nI_1]
        refine ih _ (fun c hc => (st2_cell _ _ hc).trans (f1 c hc)) (fun c hc => ?_)
        by_cases e : c = k
        · subst e; rw [st2_same]
        · rw [st2_slot _ _ e]; exact f2 c (by omega)
    · intro σ' f1 f2
      exact w_X12_weave_4 _ _ σ' τ ⟨fun _ => key2 σ' f1 (fun c hc => f2 c hc), fun c => absurd (nI_le (Nat.le_refl 25) (by decide)) c⟩
  · intro t ht ih σ' f1 f2
    have key3 := lp_up (P := fun m => ∀ σ', (∀ c, c ≠ 138 → σ' c = σ c) → (∀ c, c < 25 → σ' 138 c = nI (flsF A B c t + flF B (spS A t) c m)) → AI l D b M_X12_weave 3 G0 Q 25 [(0, .ref (b + 125)), (1, .int (nI (totF A B t + ctF B (spS A t) m))), (2, .int (nI (25 * t + m)))] [] G0 σ' τ) (n := 25) ?_ ?_ 0 (Nat.zero_le _)
    · exact key3 σ' f1 f2
    · intro m hm ih2 σ' f1 f2
      have hS : spS A t < 2 ^ 25 := (RM_sp R ht).2
      obtain ⟨R', HB'⟩ := Rc σ' f1
      refine w_X12_weave_25 _ _ σ' τ ?_
      rw [f1 125 (by decide), m1, show (25 : Int32) = nI 25 from rfl, pk_mul, nI_leI (by omega) (by omega), nI_1]
      refine ⟨fun c => by omega, fun _ => M_fit R' HB' ht hm ?_⟩
      cases e : fitB B (spS A t) m
      · rw [if_neg (by decide)]
        refine ⟨fun _ => ?_, fun q => absurd rfl q⟩
        have nx : AI l D b M_X12_weave 3 G0 Q 25 [(0, .ref (b + 125)), (1, .int (nI (totF A B t + ctF B (spS A t) m) + 0)), (2, .int (nI (25 * t + m) + 1))] [] G0 σ' τ := by
          rw [show (0 : Int32) = nI 0 from rfl, nI_add, nI_1]
          have := ih2 σ' f1 (fun c hc => by rw [fl_s, e, Bool.false_and, if_neg (by decide), Nat.add_zero]; exact f2 c hc)
          rw [ct_s, e, if_neg (by decide), Nat.add_zero] at this
          exact this
        exact w_X12_weave_58 _ _ _ _ σ' τ ⟨fun _ => nx, fun _ => ⟨fun _ => nx, fun q => absurd rfl q⟩⟩
      · have hlt := mv_lt hS hm (by unfold fitB at e; rw [Bool.and_eq_true] at e; exact e.1)
        rw [if_pos rfl]
        refine ⟨fun q => absurd q (nI_m1 (by omega)), fun _ => ?_⟩
        have key4 := lp_up (P := fun k => ∀ σ2, (∀ c, c ≠ 138 → σ2 c = σ c) → (∀ c, c < k → σ2 138 c = nI (flsF A B c t + flF B (spS A t) c (m + 1))) → (∀ c, k ≤ c → σ2 138 c = σ' 138 c) → AI l D b M_X12_weave 3 G0 Q 58 [(0, .ref (b + 125)), (1, .int (nI (totF A B t + ctF B (spS A t) (m + 1)))), (2, .int (nI (25 * t + m))), (3, .int (nI (spS A t * 2 ^ m))), (4, .int (nI k))] [] G0 σ2 τ) (n := 25) ?_ ?_ 0 (Nat.zero_le _)
        · have := key4 σ' f1 (fun c hc => absurd hc (Nat.not_lt_zero c)) (fun _ _ => rfl)
          rw [ct_s, e, if_pos rfl, ← Nat.add_assoc] at this
          exact this
        · intro k hk ih4 σ2 g1 g2 g3
          refine w_X12_weave_58 _ _ _ _ σ2 τ ⟨fun c => ?_, fun _ => ⟨fun q => absurd q (nI_m1 (by omega)), fun _ => ⟨vp_in_t hk (by decide), vp_in_t hk (by decide), ?_⟩⟩⟩
          · rw [show (25 : Int32) = nI 25 from rfl, nI_leI (by omega) (by omega)] at c; omega
          · rw [nI_c (by omega), g3 k (Nat.le_refl k), f2 k hk, bit_val (by omega) (by omega), nI_add, nI_1]
            refine ih4 _ (fun c hc => (st2_cell _ _ hc).trans (g1 c hc)) (fun c hc => ?_) (fun c hc => (st2_slot _ _ (by omega)).trans (g3 c (by omega)))
            by_cases ec : c = k
            · subst ec; rw [st2_same, fl_s, e, Bool.true_and, ← Nat.add_assoc]
            · rw [st2_slot _ _ ec]; exact g2 c (by omega)
        · intro σ2 g1 g2 g3
          refine w_X12_weave_58 _ _ _ _ σ2 τ ⟨fun _ => ?_, fun c => absurd (nI_le (Nat.le_refl 25) (by decide)) c⟩
          rw [nI_1]
          exact ih2 σ2 g1 g2
    · intro σ' f1 f2
      exact ih σ' f1 f2
  · intro σ' f1 f2
    refine w_X12_weave_25 _ _ σ' τ ⟨fun _ => last σ' f1 f2, fun c => ?_⟩
    rw [f1 125 (by decide), m1, show (25 : Int32) = nI 25 from rfl, pk_mul] at c
    exact absurd (nI_le (Nat.le_refl _) (by omega)) c
end COUNTS
