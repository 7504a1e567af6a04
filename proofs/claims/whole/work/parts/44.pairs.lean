/-! PAIRS OF CALLS: the class's answer and then the reference's. -/
theorem nar1 : vp_nar .boolean 1 = 1 := by decide
theorem nar0 : vp_nar .boolean 0 = 0 := by decide
theorem CU.fr {σ σ' : zSg} {p : Pl} {U : Un} (h : CU σ p U) (hf : ∀ c, (c < 14 ∨ 21 < c) → σ' c = σ c) : CU σ' p U := h.cong (hf 23 (by omega)) (fun c _ _ => hf c (by omega))
theorem MU.fr {σ σ' : zSg} {p : Pl} {U : Un} (h : MU σ p U) (hp : okP p) (hf : ∀ c, c ≠ 133 → c ≠ 135 → σ' c = σ c) : MU σ' p U := h.cong hp (fun j _ _ => by rw [hf 125 (by decide) (by decide)]) (hf 134 (by decide) (by decide))
theorem frC.of {σ σ' : zSg} (h : ∀ c, (c < 14 ∨ 21 < c) → σ' c = σ c) : frC σ σ' := fun c _ a2 _ => h c a2
section PAIRS
variable {l : Launch} {D : zDD} {b : Nat} {γ : zGm} {σ : zSg} {τ : zLm} {p : Pl} {A : Sc} {U : Un} {X : Xt} {Q : Int32 → zSg → zLm → Prop} {G : zSg → zLm → Prop}
theorem M_inY {k n : Nat} (hk : k ≤ n) (hn : n < 2 ^ 31) (h : Q 1 σ τ) : SI l D b M_X12_in 0 γ [.int (nI k), .int 0, .int (nI n)] σ τ Q :=
  M_in (fun _ _ => h) (fun q => absurd ⟨nI_pos' (by omega), nI_le hk hn⟩ q)
theorem M_inN {x : Int32} {n : Nat} (hn : n + 1 < 2 ^ 31) (hx : x < 0 ∨ nI (n + 1) ≤ x) (h : Q 0 σ τ) : SI l D b M_X12_in 0 γ [.int x, .int 0, .int (nI n)] σ τ Q :=
  M_in (fun a1 a2 => by
    rcases hx with q | q
    · exact absurd q (Int32.not_lt.mpr a1)
    · rw [fa_le, nI_toInt (by omega)] at q a2
      omega) (fun _ => h)
theorem P_wrap (J : Iv σ τ) (x : Int32) (h : ∀ r σ1 τ1, (∀ Z : Int32 → zSg → zLm → Prop, (∀ σ2 τ2, Iv σ2 τ2 → Z r σ2 τ2) → SI l D b M_X12_wrap 4 G0 [.ref (b + 125), .int x] σ1 τ1 Z) → Q r σ1 τ1) : SI l D b M_X11_wrap 4 G0 [.ref (b + 0), .int x] σ τ Q := by
  obtain ⟨p, A, U, X, hC, hM⟩ := id J
  rcases tro p hC.1.1 x with ⟨t, ht, rfl⟩ | hx
  · have h6 := RC_t hC.1 ht
    refine s_X11_wrap _ σ τ (S_tro hC.1 ht ⟨fun _ => S_canBeWrapped hC.1 ht ⟨fun c => ?_, fun c => ?_⟩, fun q => absurd q one0⟩)
    · rw [bI_n0] at c
      have c0 : stS A t = 0 := of_decide_eq_true c
      refine S_rem hC (fun σ1 R1 U1 f1 => S_putInSuet R1 ht (fun σ2 R2 f2 => h _ _ _ (fun Z hZ => ?_)))
      have f12 : frC σ σ2 := f1.trans (frC.of f2)
      have M2 := hM.cong f12.up
      refine s_X12_wrap _ σ2 τ (M_tro M2.1 ht ⟨fun _ => ?_, fun q => absurd q one0⟩)
      obtain ⟨s1, s2⟩ := RM_st M2.1 ht
      rw [nI_p14, nI_c (by omega), s1, c0]
      refine ⟨vp_in_t (by omega) (by decide), fun _ => M_rem M2 (fun σ3 R3 U3 f3 => M_wraps R3 ht (fun σ4 R4 f4 => hZ _ _ ?_)), fun q => absurd rfl q⟩
      exact Iv_scene hC hM R2 (U1.fr f2) f12 R4 (U3.fr R4.1 f4) (f3.trans (frM.of f4))
    · rw [bI_0] at c
      have c0 : ¬ stS A t = 0 := of_decide_eq_false c
      refine h _ _ _ (fun Z hZ => s_X12_wrap _ σ τ (M_tro hM.1 ht ⟨fun _ => ?_, fun q => absurd q one0⟩))
      obtain ⟨s1, s2⟩ := RM_st hM.1 ht
      rw [nI_p14, nI_c (by omega), s1, show (0 : Int32) = nI 0 from rfl, nI_eq (by omega) (by omega)]
      exact ⟨vp_in_t (by omega) (by decide), fun q => absurd q c0, fun _ => hZ _ _ J⟩
  · exact s_X11_wrap _ σ τ (S_ntro hC.1 hx ⟨fun q => absurd rfl q, fun _ => h _ _ _ (fun Z hZ => s_X12_wrap _ σ τ (M_ntro hM.1 hx ⟨fun q => absurd rfl q, fun _ => hZ _ _ J⟩))⟩)
theorem P_putOn (J : Iv σ τ) (x : Int32) (h : ∀ r σ1 τ1, (∀ Z : Int32 → zSg → zLm → Prop, (∀ σ2 τ2, Iv σ2 τ2 → Z r σ2 τ2) → SI l D b M_X12_putOn 2 G0 [.ref (b + 125), .int x] σ1 τ1 Z) → Q r σ1 τ1) : SI l D b M_X11_putOn 3 G0 [.ref (b + 0), .int x] σ τ Q := by
  obtain ⟨p, A, U, X, hC, hM⟩ := id J
  rcases tro p hC.1.1 x with ⟨t, ht, rfl⟩ | hx
  · have h6 := RC_t hC.1 ht
    obtain ⟨s1, s2⟩ := RC_st hC.1 ht
    obtain ⟨m1, m2⟩ := RM_st hM.1 ht
    have hP3 : pP p ≤ 3 := hC.1.1.2.1
    refine s_X11_putOn _ σ τ (S_tro hC.1 ht ⟨fun _ => ?_, fun q => absurd q one0⟩)
    rw [nI_c (by omega), s1, show (1 : Int32) = nI 1 from rfl, nI_eq (by omega) (by omega)]
    refine ⟨vp_in_t h6 (by decide), fun c1 => S_freePots hC.1 ?_, fun c1 => ?_⟩
    · rw [show (0 : Int32) = nI 0 from rfl, nI_ltI (by omega) (by omega)]
      refine ⟨fun c2 => S_rem hC (fun σ1 R1 U1 f1 => ⟨vp_in_t h6 (by decide), ?_⟩), fun c2 => ?_⟩
      · have R2 := RC_putSt R1 (v := 2) ht (by decide) (fun _ => by omega)
        refine S_freePots R2 (h _ _ _ (fun Z hZ => ?_))
        have f2 : ∀ c, (c < 14 ∨ 21 < c) → st2 σ1 15 t (nI 2) c = σ1 c := fun c hc => st2_cell _ _ (by omega)
        have f12 : frC σ (st2 σ1 15 t (nI 2)) := f1.trans (frC.of f2)
        have M2 := hM.cong f12.up
        obtain ⟨m1, m2⟩ := RM_st M2.1 ht
        refine s_X12_putOn _ _ τ (M_tro M2.1 ht ⟨fun _ => ?_, fun q => absurd q one0⟩)
        rw [nI_p14, nI_c (by omega), m1, show (1 : Int32) = nI 1 from rfl, nI_eq (by omega) (by omega)]
        refine ⟨vp_in_t (by omega) (by decide), fun _ => M_potsFree M2.1 ?_, fun q => absurd c1 q⟩
        rw [show (0 : Int32) = nI 0 from rfl, nI_eq (by omega) (by omega)]
        refine ⟨fun _ => M_rem M2 (fun σ3 R3 U3 f3 => ⟨vp_in_t (by omega) (by decide), ?_⟩), fun q => by omega⟩
        have R4 := RM_putSt R3 (v := 2) ht (by decide) (fun _ => by omega)
        refine M_potsFree R4 (hZ _ _ ?_)
        have f4 : ∀ c, c ≠ 133 → c ≠ 135 → st2 σ3 133 (14 + t) (nI 2) c = σ3 c := fun c c1 c2 => st2_cell _ _ c1
        exact Iv_scene hC hM R2 (U1.fr f2) f12 R4 (U3.fr R4.1 f4) (f3.trans (frM.of f4))
      · refine h _ _ _ (fun Z hZ => s_X12_putOn _ σ τ (M_tro hM.1 ht ⟨fun _ => ?_, fun q => absurd q one0⟩))
        rw [nI_p14, nI_c (by omega), m1, show (1 : Int32) = nI 1 from rfl, nI_eq (by omega) (by omega)]
        refine ⟨vp_in_t (by omega) (by decide), fun _ => M_potsFree hM.1 ?_, fun q => absurd c1 q⟩
        rw [show (0 : Int32) = nI 0 from rfl, nI_eq (by omega) (by omega)]
        exact ⟨fun q => by omega, fun _ => hZ _ _ J⟩
    · refine h _ _ _ (fun Z hZ => s_X12_putOn _ σ τ (M_tro hM.1 ht ⟨fun _ => ?_, fun q => absurd q one0⟩))
      rw [nI_p14, nI_c (by omega), m1, show (1 : Int32) = nI 1 from rfl, nI_eq (by omega) (by omega)]
      exact ⟨vp_in_t (by omega) (by decide), fun q => absurd q c1, fun _ => hZ _ _ J⟩
  · exact s_X11_putOn _ σ τ (S_ntro hC.1 hx ⟨fun q => absurd rfl q, fun _ => h _ _ _ (fun Z hZ => s_X12_putOn _ σ τ (M_ntro hM.1 hx ⟨fun q => absurd rfl q, fun _ => hZ _ _ J⟩))⟩)
theorem P_takeOff (J : Iv σ τ) (x : Int32) (h : ∀ r σ1 τ1, (∀ Z : Int32 → zSg → zLm → Prop, (∀ σ2 τ2, Iv σ2 τ2 → Z r σ2 τ2) → SI l D b M_X12_takeOff 2 G0 [.ref (b + 125), .int x] σ1 τ1 Z) → Q r σ1 τ1) : SI l D b M_X11_takeOff 3 G0 [.ref (b + 0), .int x] σ τ Q := by
  obtain ⟨p, A, U, X, hC, hM⟩ := id J
  rcases tro p hC.1.1 x with ⟨t, ht, rfl⟩ | hx
  · have h6 := RC_t hC.1 ht
    obtain ⟨s1, s2⟩ := RC_st hC.1 ht
    obtain ⟨m1, m2⟩ := RM_st hM.1 ht
    refine s_X11_takeOff _ σ τ (S_tro hC.1 ht ⟨fun _ => ?_, fun q => absurd q one0⟩)
    rw [nI_c (by omega), s1, show (2 : Int32) = nI 2 from rfl, nI_eq (by omega) (by omega)]
    refine ⟨vp_in_t h6 (by decide), fun c1 => S_rem hC (fun σ1 R1 U1 f1 => ⟨vp_in_t h6 (by decide), vp_in_t h6 (by decide), ?_⟩), fun c1 => ?_⟩
    · have R2 := RC_putSt R1 (v := 1) ht (by decide) (fun q => absurd q (by decide))
      have f2 : ∀ c, (c < 14 ∨ 21 < c) → st2 σ1 15 t (nI 1) c = σ1 c := fun c hc => st2_cell _ _ (by omega)
      have f12 : frC σ (st2 σ1 15 t (nI 1)) := f1.trans (frC.of f2)
      have M2 := hM.cong f12.up
      obtain ⟨m1, m2⟩ := RM_st M2.1 ht
      have e1 := (RC_hd R2 ht).1
      rw [show (1 : Int32) = nI 1 from rfl, e1]
      refine h _ _ _ (fun Z hZ => s_X12_takeOff _ _ τ (M_tro M2.1 ht ⟨fun _ => ?_, fun q => absurd q one0⟩))
      rw [nI_p14, nI_p2, nI_c (by omega), nI_c (by omega), m1, show (2 : Int32) = nI 2 from rfl, nI_eq (by omega) (by omega)]
      refine ⟨vp_in_t (by omega) (by decide), fun _ => M_rem M2 (fun σ3 R3 U3 f3 => ⟨vp_in_t (by omega) (by decide), vp_in_t (by omega) (by decide), ?_⟩), fun q => absurd c1 q⟩
      have R4 := RM_putSt R3 (v := 1) ht (by decide) (fun q => absurd q (by decide))
      have e2 := (RM_hd R4 ht).1
      rw [show (1 : Int32) = nI 1 from rfl, e2]
      have f4 : ∀ c, c ≠ 133 → c ≠ 135 → st2 σ3 133 (14 + t) (nI 1) c = σ3 c := fun c c1 c2 => st2_cell _ _ c1
      exact hZ _ _ (Iv_scene hC hM R2 (U1.fr f2) f12 R4 (U3.fr R4.1 f4) (f3.trans (frM.of f4)))
    · refine h _ _ _ (fun Z hZ => s_X12_takeOff _ σ τ (M_tro hM.1 ht ⟨fun _ => ?_, fun q => absurd q one0⟩))
      rw [nI_p14, nI_c (by omega), m1, show (2 : Int32) = nI 2 from rfl, nI_eq (by omega) (by omega)]
      exact ⟨vp_in_t (by omega) (by decide), fun q => absurd q c1, fun _ => hZ _ _ J⟩
  · exact s_X11_takeOff _ σ τ (S_ntro hC.1 hx ⟨fun q => absurd rfl q, fun _ => h _ _ _ (fun Z hZ => s_X12_takeOff _ σ τ (M_ntro hM.1 hx ⟨fun q => absurd rfl q, fun _ => hZ _ _ J⟩))⟩)
theorem P_bear (J : Iv σ τ) (x : Int32) (h : ∀ r σ1 τ1, (∀ Z : Int32 → zSg → zLm → Prop, (∀ σ2 τ2, Iv σ2 τ2 → Z r σ2 τ2) → SI l D b M_X12_bear 4 G0 [.ref (b + 125), .int x] σ1 τ1 Z) → Q r σ1 τ1) : SI l D b M_X11_bear 4 G0 [.ref (b + 0), .int x] σ τ Q := by
  obtain ⟨p, A, U, X, hC, hM⟩ := id J
  rcases tro p hC.1.1 x with ⟨t, ht, rfl⟩ | hx
  · refine s_X11_bear _ σ τ (S_tro hC.1 ht ⟨fun _ => S_canBeBorne hC.1 ht ⟨fun c => ?_, fun c => ?_⟩, fun q => absurd q one0⟩)
    · rw [bI_n0] at c
      have cb : wgtA A t ≤ leftA p A := by
        rw [Bool.and_eq_true] at c; exact of_decide_eq_true c.2
      refine S_rem hC (fun σ1 R1 U1 f1 => S_shareOut R1 ht cb (fun σ2 R2 f2 => S_leftTogether R2 (h _ _ _ (fun Z hZ => ?_))))
      have f12 : frC σ σ2 := f1.trans (frC.of f2)
      have M2 := hM.cong f12.up
      refine s_X12_bear _ σ2 τ (M_tro M2.1 ht ⟨fun _ => M_canBeBorne M2.1 ht ⟨fun _ => M_rem M2 (fun σ3 R3 U3 f3 => M_bears R3 ht cb (fun σ4 R4 f4 => M_leftAll R4 (hZ _ _ ?_))), fun q => ?_⟩, fun q => absurd q one0⟩)
      · have f4' : ∀ c, c ≠ 133 → c ≠ 135 → σ4 c = σ3 c := fun c c1 _ => f4 c c1
        exact Iv_scene hC hM R2 (U1.fr f2) f12 R4 (U3.fr R4.1 f4') (f3.trans (frM.of f4'))
      · rw [bI_0, c] at q; cases q
    · refine h _ _ _ (fun Z hZ => s_X12_bear _ σ τ (M_tro hM.1 ht ⟨fun _ => M_canBeBorne hM.1 ht ⟨fun q => absurd c q, fun _ => hZ _ _ J⟩, fun q => absurd q one0⟩))
  · exact s_X11_bear _ σ τ (S_ntro hC.1 hx ⟨fun q => absurd rfl q, fun _ => h _ _ _ (fun Z hZ => s_X12_bear _ σ τ (M_ntro hM.1 hx ⟨fun q => absurd rfl q, fun _ => hZ _ _ J⟩))⟩)
theorem P_rest (J : Iv σ τ) (h : ∀ r σ1 τ1, (∀ Z : Int32 → zSg → zLm → Prop, (∀ σ2 τ2, Iv σ2 τ2 → Z r σ2 τ2) → SI l D b M_X12_rest 1 G0 [.ref (b + 125)] σ1 τ1 Z) → Q r σ1 τ1) : SI l D b M_X11_rest 3 G0 [.ref (b + 0)] σ τ Q := by
  obtain ⟨p, A, U, X, hC, hM⟩ := id J
  refine s_X11_rest σ τ (S_isThere hC.1 ⟨fun c => ?_, fun c => ?_⟩)
  · refine S_rem hC (fun σ1 R1 U1 f1 => S_unload R1 (fun σ2 R2 f2 => h _ _ _ (fun Z hZ => ?_)))
    have f12 : frC σ σ2 := f1.trans (frC.of f2)
    have M2 := hM.cong f12.up
    refine s_X12_rest σ2 τ (M_isKitchen M2.1 ⟨fun _ => M_rem M2 (fun σ3 R3 U3 f3 => M_rests R3 (fun σ4 R4 f4 => hZ _ _ ?_)), fun q => absurd q c⟩)
    have f4' : ∀ c, c ≠ 133 → c ≠ 135 → σ4 c = σ3 c := fun c c1 _ => f4 c c1
    exact Iv_scene hC hM R2 (U1.fr f2) f12 R4 (U3.fr R4.1 f4') (f3.trans (frM.of f4'))
  · exact h _ _ _ (fun Z hZ => s_X12_rest σ τ (M_isKitchen hM.1 ⟨fun q => absurd c q, fun _ => hZ _ _ J⟩))
theorem S_has {n i : Nat} (hi : i < 31) (h : Q (bI (n.testBit i)) σ τ) : SI l D b M_X9_has 0 γ [.int (nI n), .int (nI i)] σ τ Q := by
  refine s_X9_has _ _ σ τ ?_
  rw [nI_has hi]
  refine ⟨fun c => ?_, fun c => ?_⟩
  · rw [c] at h; exact h
  · rw [show n.testBit i = true by cases hb : n.testBit i; exact absurd hb c; rfl] at h; exact h
theorem P_cut (J : Iv σ τ) (x y : Int32) (h : ∀ r σ1 τ1, (∀ Z : Int32 → zSg → zLm → Prop, (∀ σ2 τ2, Iv σ2 τ2 → Z r σ2 τ2) → SI l D b M_X12_cut 2 G0 [.ref (b + 125), .int x, .int y] σ1 τ1 Z) → Q r σ1 τ1) : SI l D b M_X11_cut 3 G0 [.ref (b + 0), .int x, .int y] σ τ Q := by
  obtain ⟨p, A, U, X, hC, hM⟩ := id J
  rcases tro p hC.1.1 x with ⟨t, ht, rfl⟩ | hx
  · have h6 := RC_t hC.1 ht
    obtain ⟨s1, s2⟩ := RC_st hC.1 ht
    obtain ⟨m1, m2⟩ := RM_st hM.1 ht
    obtain ⟨p1, p2⟩ := RC_sp hC.1 ht
    obtain ⟨q1, q2⟩ := RM_sp hM.1 ht
    have out : (y < 0 ∨ nI 25 ≤ y) → SI l D b M_X11_cut 3 G0 [.ref (b + 0), .int (nI t), .int y] σ τ Q := by
      intro hy
      have fin : Q (-1000000002) σ τ := h _ _ _ (fun Z hZ => s_X12_cut _ _ σ τ (M_tro hM.1 ht ⟨fun _ => M_inN (n := 24) (by decide) hy ⟨fun q => absurd rfl q, fun _ => hZ _ _ J⟩, fun q => absurd q one0⟩))
      refine s_X11_cut _ _ σ τ (S_tro hC.1 ht ⟨fun _ => ⟨fun _ => fin, fun c1 => ⟨fun c2 => ?_, fun _ => fin⟩⟩, fun q => absurd q one0⟩)
      rcases hy with hy | hy
      · exact absurd hy c1
      · exact absurd c2 (Int32.not_lt.mpr hy)
    rcases pk_ix y (n := 25) (by decide) with hy | hy | ⟨k, hk, rfl⟩
    · exact out (Or.inl hy)
    · exact out (Or.inr hy)
    · have hpow : 2 ^ k < 2 ^ 25 := Nat.pow_lt_pow_right (by decide) hk
      have nots : (¬ stS A t = 0 ∨ (spS A t).testBit k = false ∨ spS A t = 2 ^ k) → ∀ Z : Int32 → zSg → zLm → Prop, (∀ σ2 τ2, Iv σ2 τ2 → Z (-1000000003) σ2 τ2) → SI l D b M_X12_cut 2 G0 [.ref (b + 125), .int (nI t), .int (nI k)] σ τ Z := by
        intro hn Z hZ
        refine s_X12_cut _ _ σ τ (M_tro hM.1 ht ⟨fun _ => M_inY (n := 24) (by omega) (by decide) ⟨fun _ => ?_, fun q => absurd q one0⟩, fun q => absurd q one0⟩)
        rw [nI_p14, nI_p8, nI_c (by omega), nI_c (by omega), m1, q1, show (0 : Int32) = nI 0 from rfl, nI_eq (by omega) (by omega), nI_sh (by omega)]
        refine ⟨vp_in_t (by omega) (by decide), fun v e => ⟨vp_in_t (by omega) (by decide), fun _ => hZ _ _ J, fun c => ?_⟩⟩
        rw [e]
        refine M_has (by omega) (by omega) ⟨fun _ => hZ _ _ J, fun c2 => ?_⟩
        have c2 : (spS A t).testBit k = true := (bI_n0 _).mp c2
        rw [nI_eq (by omega) (by omega)]
        refine ⟨fun c3 => ?_, fun _ => hZ _ _ J⟩
        rcases hn with hn | hn | hn
        · exact absurd c hn
        · rw [hn] at c2; cases c2
        · exact absurd hn c3
      have ge0 : ¬ nI k < 0 := nI_pos (by omega)
      have lt25 : nI k < 25 := nI_lt (b := 25) hk (by decide)
      refine s_X11_cut _ _ σ τ (S_tro hC.1 ht ⟨fun _ => ⟨fun q => absurd q ge0, fun _ => ⟨fun _ => ?_, fun q => absurd lt25 q⟩⟩, fun q => absurd q one0⟩)
      rw [nI_c (by omega), s1, p1, show (0 : Int32) = nI 0 from rfl, nI_eq (by omega) (by omega)]
      refine ⟨vp_in_t h6 (by decide), fun c => h _ _ _ (nots (Or.inl c)), fun c => ⟨vp_in_t h6 (by decide), S_has (by omega) ⟨fun c2 => ?_, fun c2 => ⟨vp_in_t h6 (by decide), ?_⟩⟩⟩⟩
      · exact h _ _ _ (nots (Or.inr (Or.inl ((bI_0 _).mp c2))))
      · have c2 : (spS A t).testBit k = true := (bI_n0 _).mp c2
        rw [p1, nI_sh (by omega), nI_eq (by omega) (by omega)]
        refine ⟨fun c3 => S_rem hC (fun σ1 R1 U1 f1 => ⟨vp_in_t h6 (by decide), vp_in_t h6 (by decide), vp_in_t h6 (by decide), ?_⟩), fun c3 => h _ _ _ (nots (Or.inr (Or.inr c3)))⟩
        have hv : spS A t &&& (2 ^ k ^^^ 4294967295) < 2 ^ 25 := Nat.lt_of_le_of_lt Nat.and_le_left p2
        rw [(RC_sp R1 ht).1, nI_neg1, fa_and, st2_same]
        have R2 := RC_putSp R1 (t := t) hv
        refine S_bitCount (by omega) _ τ (h _ _ _ (fun Z hZ => ?_))
        have f2 : ∀ c, (c < 14 ∨ 21 < c) → st2 σ1 17 t (nI (spS A t &&& (2 ^ k ^^^ 4294967295))) c = σ1 c := fun c hc => st2_cell _ _ (by omega)
        have f12 := f1.trans (frC.of f2)
        have M2 := hM.cong f12.up
        obtain ⟨m1, m2⟩ := RM_st M2.1 ht
        obtain ⟨q1, q2⟩ := RM_sp M2.1 ht
        refine s_X12_cut _ _ _ τ (M_tro M2.1 ht ⟨fun _ => M_inY (n := 24) (by omega) (by decide) ⟨fun _ => ?_, fun q => absurd q one0⟩, fun q => absurd q one0⟩)
        rw [nI_p14, nI_p8, nI_c (by omega), nI_c (by omega), m1, q1, show (0 : Int32) = nI 0 from rfl, nI_eq (by omega) (by omega), nI_sh (by omega)]
        refine ⟨vp_in_t (by omega) (by decide), fun v e => ⟨vp_in_t (by omega) (by decide), fun q => absurd c q, fun _ => ?_⟩⟩
        rw [e]
        refine M_has (by omega) (by omega) ⟨fun q => ?_, fun _ => ?_⟩
        · rw [show nI 0 = (0 : Int32) from rfl, bI_0, c2] at q; cases q
        · rw [nI_eq (by omega) (by omega)]
          refine ⟨fun _ => M_rem M2 (fun σ3 R3 U3 f3 => ⟨vp_in_t (by omega) (by decide), vp_in_t (by omega) (by decide), ?_⟩), fun q => absurd q c3⟩
          rw [nI_neg1, fa_and, st2_same]
          have R4 := RM_putSp R3 (t := t) ht hv
          refine S_bits (by omega) _ τ (hZ _ _ ?_)
          have f4 : ∀ c, c ≠ 133 → c ≠ 135 → st2 σ3 133 (8 + t) (nI (spS A t &&& (2 ^ k ^^^ 4294967295))) c = σ3 c := fun c c1 c2 => st2_cell _ _ c1
          exact Iv_scene hC hM R2 (U1.fr f2) f12 R4 (U3.fr R4.1 f4) (f3.trans (frM.of f4))
  · exact s_X11_cut _ _ σ τ (S_ntro hC.1 hx ⟨fun q => absurd rfl q, fun _ => h _ _ _ (fun Z hZ => s_X12_cut _ _ σ τ (M_ntro hM.1 hx ⟨fun q => absurd rfl q, fun _ => hZ _ _ J⟩))⟩)
end PAIRS
