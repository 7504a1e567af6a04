/-! HALVES. -/
def lnN (k : Nat) : Nat := if k < 5 then k else k + 6
def ahB (ln c : Nat) : Bool := if ln < 10 then decide (c / 5 < ln) else decide (c % 5 < ln - 10)
def ahN (sh ln : Nat) : Nat := fb_ct (fun c => sh.testBit c && ahB ln c) 25
def ghN (sh ln : Nat) : Nat := max (ahN sh ln) (pcn sh - ahN sh ln)
def mkN (ln : Nat) : Nat := if ln ≤ 10 then 2 ^ (5 * ln) - 1 else (2 ^ (ln - 10) - 1) * 1082401
theorem mk_tab : ∀ k : Fin 9, ∀ c : Fin 25, (mkN (lnN k.1)).testBit c.1 = ahB (lnN k.1) c.1 := by decide +kernel
def bsL (sh : Nat) : Nat → Nat
  | 0 => 1
  | 1 => 1
  | k + 2 => if ghN sh (lnN (k + 2)) < ghN sh (lnN (bsL sh (k + 1))) then k + 2 else bsL sh (k + 1)
theorem bsL_rng (sh : Nat) : ∀ k, 1 ≤ k → 1 ≤ bsL sh k ∧ bsL sh k ≤ k
  | 0, h => absurd h (by decide)
  | 1, _ => ⟨Nat.le_refl 1, Nat.le_refl 1⟩
  | k + 2, _ => by
    have ih := bsL_rng sh (k + 1) (by omega)
    rw [bsL]
    split
    · omega
    · omega
theorem ah_le {sh ln : Nat} (hs : sh < 2 ^ 25) : ahN sh ln ≤ pcn sh := by
  rw [pcn25 hs]
  exact fb_ct_sub (fun c _ h => by rw [Bool.and_eq_true] at h; exact h.1)
theorem pcn_25 {sh : Nat} (hs : sh < 2 ^ 25) : pcn sh ≤ 25 := by
  rw [pcn25 hs]; exact fb_ct_le _ _
theorem gh_le {sh ln : Nat} (hs : sh < 2 ^ 25) : ghN sh ln ≤ 25 := by
  have h1 := ah_le (ln := ln) hs
  have h2 := pcn_25 hs
  unfold ghN
  omega
section HALVES
variable {l : Launch} {D : zDD} {b : Nat} {γ : zGm} {σ : zSg} {τ : zLm} {p : Pl} {A : Sc} {U : Un} {X : Xt} {Q : Int32 → zSg → zLm → Prop} {G : zSg → zLm → Prop}
theorem S_greaterHalf {sh k : Nat} (hs : sh < 2 ^ 25) (hk : k < 9) (h : Q (nI (ghN sh (lnN k))) σ τ) : SI l D b M_X9_greaterHalf 1 γ [.int (nI sh), .int (nI (lnN k))] σ τ Q := by
  have hln : lnN k ≤ 14 := by unfold lnN; split <;> omega
  have hln2 : ¬ (4 < lnN k ∧ lnN k < 11) := by unfold lnN; split <;> omega
  have fin : AI l D b M_X9_greaterHalf 1 γ Q 27 [(0, .int (nI sh))] [.int (nI (mkN (lnN k)))] γ σ τ := by
    refine w_X9_greaterHalf_27 _ _ σ τ ?_
    rw [fa_and]
    have hl : sh &&& mkN (lnN k) ≤ sh := Nat.and_le_left
    have e : pcn (sh &&& mkN (lnN k)) = ahN sh (lnN k) := by
      rw [pcn25 (by omega)]
      exact fb_ct_cong (fun c hc => by rw [Nat.testBit_and, mk_tab ⟨k, hk⟩ ⟨c, hc⟩])
    have h1 := ah_le (ln := lnN k) hs
    have h2 := pcn_25 hs
    refine S_bitCount (by omega) σ τ (S_bitCount (by omega) σ τ ?_)
    rw [e, pk_sub h1, mx_nI (by omega) (by omega)]
    exact h
  refine s_X9_greaterHalf _ _ σ τ ?_
  rw [show (10 : Int32) = nI 10 from rfl, nI_leI (by omega) (by omega)]
  refine ⟨fun c => ?_, fun c => ?_⟩
  · rw [show (5 : Int32) = nI 5 from rfl, pk_mul, nI_sh (by omega), show (1 : Int32) = nI 1 from rfl, pk_sub (Nat.two_pow_pos _)]
    unfold mkN at fin
    rw [if_pos c] at fin
    exact fin
  · rw [pk_sub (by omega), nI_sh (by omega), show (1 : Int32) = nI 1 from rfl, pk_sub (Nat.two_pow_pos _), show (1082401 : Int32) = nI 1082401 from rfl, pk_mul]
    unfold mkN at fin
    rw [if_neg c] at fin
    exact fin
theorem S_halvingLine {sh : Nat} (hs : sh < 2 ^ 25) (h : Q (nI (lnN (bsL sh 8))) σ τ) : SI l D b M_X9_halvingLine 2 γ [.int (nI sh)] σ τ Q := by
  refine s_X9_halvingLine _ σ τ ?_
  refine lp_up (P := fun k => AI l D b M_X9_halvingLine 2 γ Q 4 [(0, .int (nI sh)), (1, .int (nI (lnN (bsL sh (k + 1))))), (2, .int (nI (k + 2)))] [] γ σ τ) (n := 7) ?_ ?_ 0 (Nat.zero_le _)
  · intro k hk ih
    have hr := bsL_rng sh (k + 1) (by omega)
    have g1 := gh_le (ln := lnN (k + 2)) hs
    have g2 := gh_le (ln := lnN (bsL sh (k + 1))) hs
    have fin : AI l D b M_X9_halvingLine 2 γ Q 25 [(0, .int (nI sh)), (1, .int (nI (lnN (bsL sh (k + 1))))), (2, .int (nI (k + 2)))] [.int (nI (lnN (k + 2)))] γ σ τ := by
      refine w_X9_halvingLine_25 _ _ _ _ σ τ (S_greaterHalf hs (by omega) (S_greaterHalf hs (by omega) ?_))
      rw [nI_leI (by omega) (by omega), nI_1]
      rw [show bsL sh (k + 1 + 1) = if ghN sh (lnN (k + 2)) < ghN sh (lnN (bsL sh (k + 1))) then k + 2 else bsL sh (k + 1) from rfl] at ih
      refine ⟨fun c => ?_, fun c => ?_⟩
      · rw [if_neg (by omega)] at ih; exact ih
      · rw [if_pos (by omega)] at ih; exact ih
    refine w_X9_halvingLine_4 _ _ _ σ τ ⟨fun c => ?_, fun _ => ?_⟩
    · rw [show (9 : Int32) = nI 9 from rfl, nI_leI (by omega) (by omega)] at c; omega
    · rw [show (5 : Int32) = nI 5 from rfl, nI_leI (by omega) (by omega)]
      unfold lnN at fin
      refine ⟨fun c => ?_, fun c => ?_⟩
      · rw [pk_sub c, show (11 : Int32) = nI 11 from rfl, nI_add, show k + 2 - 5 + 11 = k + 2 + 6 by omega]
        rw [if_neg (show ¬ k + 2 < 5 by omega)] at fin
        exact fin
      · rw [if_pos (show k + 2 < 5 by omega)] at fin
        exact fin
  · exact w_X9_halvingLine_4 _ _ _ σ τ ⟨fun _ => h, fun c => absurd (nI_le (Nat.le_refl 9) (by decide)) c⟩
theorem M_ahead {sh ln : Nat} (hs : sh < 2 ^ 25) (hln : ln ≤ 14) (h : Q (nI (ahN sh ln)) σ τ) : SI l D b M_X12_ahead 1 γ [.int (nI sh), .int (nI ln)] σ τ Q := by
  refine s_X12_ahead _ _ σ τ ?_
  refine lp_up (P := fun k => AI l D b M_X12_ahead 1 γ Q 4 [(0, .int (nI sh)), (1, .int (nI ln)), (2, .int (nI (fb_ct (fun c => sh.testBit c && ahB ln c) k))), (3, .int (nI k))] [] γ σ τ) (n := 25) ?_ ?_ 0 (Nat.zero_le _)
  · intro k hk ih
    have fin : ∀ y0 : Int32, y0 = bI (ahB ln k) → AI l D b M_X12_ahead 1 γ Q 46 [(0, .int (nI sh)), (1, .int (nI ln)), (2, .int (nI (fb_ct (fun c => sh.testBit c && ahB ln c) k))), (3, .int (nI k))] [.int y0] γ σ τ := by
      intro y0 e0
      refine w_X12_ahead_46 _ _ _ _ _ σ τ (M_has (by omega) (by omega) ?_)
      rw [nI_1, nI_1, show (0 : Int32) = nI 0 from rfl, nI_add, Nat.add_zero, show nI 0 = (0 : Int32) from rfl, e0]
      rw [fb_ct_succ] at ih
      refine ⟨fun c => ?_, fun c => ⟨fun c2 => ?_, fun c2 => ?_⟩⟩
      · have c := (bI_0 _).mp c
        rw [c, Bool.false_and, if_neg (by decide)] at ih; exact ih
      · have c2 := (bI_0 _).mp c2
        rw [c2, Bool.and_false, if_neg (by decide)] at ih; exact ih
      · have c := (bI_n0 _).mp c
        have c2 := (bI_n0 _).mp c2
        rw [c, c2, Bool.true_and, if_pos rfl] at ih; exact ih
    refine w_X12_ahead_4 _ _ _ _ σ τ ⟨fun c => ?_, fun _ => ?_⟩
    · rw [show (25 : Int32) = nI 25 from rfl, nI_leI (by omega) (by omega)] at c; omega
    · rw [show (10 : Int32) = nI 10 from rfl, nI_leI (by omega) (by omega), show nI k - nI k / 5 * 5 = nI (k % 5) from pk_rem (d := 5) (by omega) (by decide) (by decide), nI_div5 (by omega), nI_leI (a := ln) (b := k / 5) (by omega) (by omega)]
      refine ⟨fun c => ?_, fun c => ⟨fun c2 => fin _ ?_, fun c2 => fin _ ?_⟩⟩
      · rw [pk_sub c, nI_leI (by omega) (by omega)]
        refine ⟨fun c2 => fin _ ?_, fun c2 => fin _ ?_⟩
        · unfold ahB; rw [if_neg (by omega), decide_eq_false (by omega)]; rfl
        · unfold ahB; rw [if_neg (by omega), decide_eq_true (by omega)]; rfl
      · unfold ahB; rw [if_pos (by omega), decide_eq_false (by omega)]; rfl
      · unfold ahB; rw [if_pos (by omega), decide_eq_true (by omega)]; rfl
  · exact w_X12_ahead_4 _ _ _ _ σ τ ⟨fun _ => h, fun c => absurd (nI_le (Nat.le_refl 25) (by decide)) c⟩
/-- how many lines lie ahead of a number -/
def jx (v : Nat) : Nat := if v ≤ 5 then v - 1 else if v ≤ 11 then 4 else v - 7
theorem M_halvesLoop {sh : Nat} {x2 : Int32} (hs : sh < 2 ^ 25) (hz : sh = 0 → Q (-1) σ τ) (h1 : sh ≠ 0 → ¬ x2 = 0 → Q (nI (ghN sh (lnN (bsL sh 8)))) σ τ) (h2 : sh ≠ 0 → x2 = 0 → Q (nI (lnN (bsL sh 8))) σ τ) : AI l D b M_X12_halves 2 G0 Q 43 [(2, .int x2), (3, .int (nI sh)), (4, .int (-1)), (5, .int 26), (6, .int 1)] [] G0 σ τ := by
  have step : ∀ k (x4 : Int32) bb, 1 ≤ k → k < 9 → bb ≤ 26 → (ghN sh (lnN k) < bb → AI l D b M_X12_halves 2 G0 Q 43 [(2, .int x2), (3, .int (nI sh)), (4, .int (nI (lnN k))), (5, .int (nI (ghN sh (lnN k)))), (6, .int (nI (lnN k + 1)))] [] G0 σ τ) → (¬ ghN sh (lnN k) < bb → AI l D b M_X12_halves 2 G0 Q 43 [(2, .int x2), (3, .int (nI sh)), (4, .int x4), (5, .int (nI bb)), (6, .int (nI (lnN k + 1)))] [] G0 σ τ) → AI l D b M_X12_halves 2 G0 Q 43 [(2, .int x2), (3, .int (nI sh)), (4, .int x4), (5, .int (nI bb)), (6, .int (nI (lnN k)))] [] G0 σ τ := by
    intro k x4 bb hk1 hk hbb ha hb
    have hln : lnN k ≤ 14 := by unfold lnN; split <;> omega
    have hln2 : 1 ≤ lnN k % 10 ∧ lnN k % 10 ≤ 4 := by unfold lnN; split <;> omega
    have g1 := gh_le (ln := lnN k) hs
    have a1 := ah_le (ln := lnN k) hs
    have a2 := pcn_25 hs
    have f94 : AI l D b M_X12_halves 2 G0 Q 94 [(2, .int x2), (3, .int (nI sh)), (4, .int x4), (5, .int (nI bb)), (6, .int (nI (lnN k)))] [.int (nI (ghN sh (lnN k)))] G0 σ τ := by
      refine w_X12_halves_94 _ _ _ _ _ _ σ τ ?_
      rw [nI_leI (by omega) (by omega)]
      refine ⟨fun c => w_X12_halves_110 _ _ _ _ _ _ σ τ ?_, fun c => w_X12_halves_110 _ _ _ _ _ _ σ τ ?_⟩
      · rw [nI_leI (by omega) (by omega), nI_1]
        exact ⟨fun _ => hb (by omega), fun q => absurd c q⟩
      · rw [nI_leI (by omega) (by omega), nI_1]
        exact ⟨fun q => absurd q c, fun _ => ha (by omega)⟩
    refine w_X12_halves_43 _ _ _ _ _ σ τ ⟨fun c => ?_, fun _ => ?_⟩
    · rw [show (15 : Int32) = nI 15 from rfl, nI_leI (by omega) (by omega)] at c; omega
    · rw [show (10 : Int32) = nI 10 from rfl, pk_rem (by omega) (by decide) (by decide)]
      refine M_in (fun _ _ => ⟨fun q => absurd q one0, fun _ => M_ahead hs hln (S_bits (by omega) σ τ ?_)⟩) (fun q => absurd ⟨nI_le (a := 1) hln2.1 (by omega), nI_le (b := 4) hln2.2 (by decide)⟩ q)
      rw [pk_sub a1, nI_leI (by omega) (by omega)]
      refine ⟨fun c => ?_, fun c => ?_⟩
      · rw [show pcn sh - ahN sh (lnN k) = ghN sh (lnN k) by unfold ghN; omega]; exact f94
      · rw [show ahN sh (lnN k) = ghN sh (lnN k) by unfold ghN; omega]; exact f94
  have skip : ∀ v (x4 x5 : Int32), 5 ≤ v → v ≤ 10 → AI l D b M_X12_halves 2 G0 Q 43 [(2, .int x2), (3, .int (nI sh)), (4, .int x4), (5, .int x5), (6, .int (nI (v + 1)))] [] G0 σ τ → AI l D b M_X12_halves 2 G0 Q 43 [(2, .int x2), (3, .int (nI sh)), (4, .int x4), (5, .int x5), (6, .int (nI v))] [] G0 σ τ := by
    intro v x4 x5 hv1 hv2 hn
    refine w_X12_halves_43 _ _ _ _ _ σ τ ⟨fun c => ?_, fun _ => ?_⟩
    · rw [show (15 : Int32) = nI 15 from rfl, nI_leI (by omega) (by omega)] at c; omega
    · rw [show (10 : Int32) = nI 10 from rfl, pk_rem (by omega) (by decide) (by decide), nI_1]
      refine M_in (fun q1 q2 => ?_) (fun _ => ⟨fun _ => hn, fun q => absurd rfl q⟩)
      exfalso
      rw [show (1 : Int32) = nI 1 from rfl, nI_leI (by omega) (by omega)] at q1
      rw [show (4 : Int32) = nI 4 from rfl, nI_leI (by omega) (by omega)] at q2
      omega
  have last : AI l D b M_X12_halves 2 G0 Q 43 [(2, .int x2), (3, .int (nI sh)), (4, .int (nI (lnN (bsL sh 8)))), (5, .int (nI (ghN sh (lnN (bsL sh 8))))), (6, .int (nI 15))] [] G0 σ τ := by
    refine w_X12_halves_43 _ _ _ _ _ σ τ ⟨fun _ => ?_, fun c => absurd (nI_le (Nat.le_refl 15) (by decide)) c⟩
    have e0 : (nI sh = 0) = (sh = 0) := by rw [show (0 : Int32) = nI 0 from rfl, nI_eq (by omega) (by omega)]
    rw [e0]
    exact ⟨fun q => ⟨h1 q, h2 q⟩, hz⟩
  have st2' : ∀ k, k < 7 → AI l D b M_X12_halves 2 G0 Q 43 [(2, .int x2), (3, .int (nI sh)), (4, .int (nI (lnN (bsL sh (k + 2))))), (5, .int (nI (ghN sh (lnN (bsL sh (k + 2)))))), (6, .int (nI (lnN (k + 2) + 1)))] [] G0 σ τ → AI l D b M_X12_halves 2 G0 Q 43 [(2, .int x2), (3, .int (nI sh)), (4, .int (nI (lnN (bsL sh (k + 1))))), (5, .int (nI (ghN sh (lnN (bsL sh (k + 1)))))), (6, .int (nI (lnN (k + 2))))] [] G0 σ τ := by
    intro k hk hn
    have g2 := gh_le (ln := lnN (bsL sh (k + 1))) hs
    rw [show bsL sh (k + 2) = if ghN sh (lnN (k + 2)) < ghN sh (lnN (bsL sh (k + 1))) then k + 2 else bsL sh (k + 1) from rfl] at hn
    refine step (k + 2) _ _ (by omega) (by omega) (by omega) (fun c => ?_) (fun c => ?_)
    · rw [if_pos c] at hn; exact hn
    · rw [if_neg c] at hn; exact hn
  have l8 := st2' 6 (by decide) last
  have l7 := st2' 5 (by decide) l8
  have l6 := st2' 4 (by decide) l7
  have l5 := st2' 3 (by decide) l6
  have m := skip 5 _ _ (by decide) (by decide) (skip 6 _ _ (by decide) (by decide) (skip 7 _ _ (by decide) (by decide) (skip 8 _ _ (by decide) (by decide) (skip 9 _ _ (by decide) (by decide) (skip 10 _ _ (by decide) (by decide) l5)))))
  have l4 := st2' 2 (by decide) m
  have l3 := st2' 1 (by decide) l4
  have l2 := st2' 0 (by decide) l3
  have g1 := gh_le (ln := lnN 1) hs
  exact step 1 _ 26 (by decide) (by decide) (by decide) (fun _ => l2) (fun q => by omega)
theorem P_halves (J : Iv σ τ) (x y : Int32) (h : ∀ r σ1 τ1, (∀ Z : Int32 → zSg → zLm → Prop, (∀ σ2 τ2, Iv σ2 τ2 → Z r σ2 τ2) → SI l D b M_X12_halves 2 G0 [.ref (b + 125), .int x, .int y] σ1 τ1 Z) → Q r σ1 τ1) : SI l D b M_X11_halves 3 G0 [.ref (b + 0), .int x, .int y] σ τ Q := by
  obtain ⟨p, A, U, X, hC, hM⟩ := id J
  rcases tro p hC.1.1 x with ⟨t, ht, rfl⟩ | hx
  · have h6 := RC_t hC.1 ht
    obtain ⟨s1, s2⟩ := RC_sp hC.1 ht
    obtain ⟨m1, m2⟩ := RM_sp hM.1 ht
    have out : ¬ (0 ≤ y ∧ y ≤ 1) → Q (-1000000002) σ τ := fun q => h _ _ _ (fun Z hZ => s_X12_halves _ _ σ τ (M_tro hM.1 ht ⟨fun _ => M_in (fun a1 a2 => absurd ⟨a1, a2⟩ q) (fun _ => ⟨fun q => absurd rfl q, fun _ => hZ _ _ J⟩), fun q => absurd q one0⟩))
    refine s_X11_halves _ _ σ τ (S_tro hC.1 ht ⟨fun _ => ⟨fun c => out (fun q => absurd c (Int32.not_lt.mpr q.1)), fun c1 => ⟨fun c2 => ⟨vp_in_t h6 (by decide), ?_⟩, fun c => out (fun q => c q.2)⟩⟩, fun q => absurd q one0⟩)
    have hy : 0 ≤ y ∧ y ≤ 1 := ⟨fa_of_nlt c1, c2⟩
    have mod : ∀ Z : Int32 → zSg → zLm → Prop, AI l D b M_X12_halves 2 G0 Z 43 [(2, .int y), (3, .int (nI (spS A t))), (4, .int (-1)), (5, .int 26), (6, .int 1)] [] G0 σ τ → SI l D b M_X12_halves 2 G0 [.ref (b + 125), .int (nI t), .int y] σ τ Z := by
      intro Z hz
      refine s_X12_halves _ _ σ τ (M_tro hM.1 ht ⟨fun _ => M_in (fun a1 a2 => ⟨fun _ => ?_, fun q => absurd q one0⟩) (fun q => absurd hy q), fun q => absurd q one0⟩)
      rw [nI_p8, nI_c (by omega), m1]
      refine ⟨vp_in_t (by omega) (by decide), fun v ev => ?_⟩
      subst ev
      exact hz
    rw [nI_c (by omega), s1]
    have hb := bsL_rng (spS A t) 8 (by decide)
    have e0 : (nI (spS A t) = 0) = (spS A t = 0) := by rw [show (0 : Int32) = nI 0 from rfl, nI_eq (by omega) (by omega)]
    refine ⟨fun c => ?_, fun c => h _ _ _ (fun Z hZ => mod Z ?_)⟩
    · rw [e0] at c
      refine S_halvingLine s2 ⟨fun cy => S_greaterHalf s2 (by omega) (h _ _ _ (fun Z hZ => mod Z (M_halvesLoop s2 (fun q => absurd q c) (fun _ _ => hZ _ _ J) (fun _ q => absurd q cy)))), fun cy => h _ _ _ (fun Z hZ => mod Z (M_halvesLoop s2 (fun q => absurd q c) (fun _ q => absurd cy q) (fun _ _ => hZ _ _ J)))⟩
    · rw [e0] at c
      exact M_halvesLoop s2 (fun _ => hZ _ _ J) (fun q => absurd c q) (fun q => absurd c q)
  · exact s_X11_halves _ _ σ τ (S_ntro hC.1 hx ⟨fun q => absurd rfl q, fun _ => h _ _ _ (fun Z hZ => s_X12_halves _ _ σ τ (M_ntro hM.1 hx ⟨fun q => absurd rfl q, fun _ => hZ _ _ J⟩))⟩)
end HALVES
