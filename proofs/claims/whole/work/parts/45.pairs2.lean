/-! PAIRS OF CALLS, further. -/
theorem RC.of {σ σ' : zSg} {p : Pl} {A B : Sc} (R : RC σ p A) (hB : okA p B) (hs : CS σ' 14 p B) (h : ∀ c, 9 ≤ c → c ≤ 13 → σ' c = σ c) : RC σ' p B := by
  refine ⟨R.1, hB, ?_, hs⟩
  have := R.2.2.1
  unfold CP at *
  rw [h 9 (by decide) (by decide), h 10 (by decide) (by decide), h 13 (by decide) (by decide)]
  exact this
def popU (U : Un) : Un := (U.1 - 1, U.2)
section PAIRS2
variable {l : Launch} {D : zDD} {b : Nat} {γ : zGm} {σ : zSg} {τ : zLm} {p : Pl} {A : Sc} {U : Un} {X : Xt} {Q : Int32 → zSg → zLm → Prop} {G : zSg → zLm → Prop}
theorem S_stepBack (hC : CI σ p A U X) (hU : 0 < U.1) (h : ∀ σ', RC σ' p (U.2 (U.1 - 1)) → CU σ' p (popU U) → frC σ σ' → σ' 23 5 = nI (U.1 - 1) → G σ' τ) : SV l D b M_X5_stepBack 2 G0 [.ref (b + 23), .ref (b + 14)] σ τ G := by
  obtain ⟨hk, o, ho, e1, e2, e3⟩ := id hC.2.1
  have hk16 := hk.1
  refine s_X5_stepBack σ τ ?_
  rw [e2, show (0 : Int32) = nI 0 from rfl, nI_leI (by omega) (by omega), show (1 : Int32) = nI 1 from rfl, pk_sub (by omega)]
  refine ⟨fun c => by omega, fun _ => ?_⟩
  rw [st2_slot _ _ (by decide), st2_same, e1, nI_add, nI_rem16 (by omega), nI_c (by omega)]
  have hx : (o + (U.1 - 1)) % 16 < 16 := Nat.mod_lt _ (by decide)
  have hs := e3 (U.1 - 1) (by omega)
  refine ⟨vp_in_t hx (by decide), S_become (Or.inl rfl) (isSc_un hx) (by omega) hC.1.1 (CS.same (σ := σ) (fun q q1 q2 => st2_cell _ _ (by omega)) hs) (fun σ2 hs2 hf => ?_)⟩
  have f23 : σ2 23 = st2 σ 23 5 (nI (U.1 - 1)) 23 := hf 23 (by decide)
  have ff : ∀ c, c ≠ 23 → (c < 14 ∨ 18 < c) → σ2 c = σ c := fun c c1 c2 => (hf c (by omega)).trans (st2_cell _ _ c1)
  refine h σ2 (hC.1.of (hk.2 _ (by omega)) hs2 (fun c c1 c2 => ff c (by omega) (by omega))) ⟨⟨by show U.1 - 1 ≤ 16; omega, fun j hj => hk.2 j (by have : j < U.1 - 1 := hj; omega)⟩, o, ho, ?_, ?_, ?_⟩ (fun c c1 c2 c3 => ff c c1 (by omega)) ?_
  · rw [f23, st2_slot _ _ (by decide)]; exact e1
  · rw [f23, st2_same]; rfl
  · intro j hj
    have hj : j < U.1 - 1 := hj
    exact CS.same (fun q q1 q2 => ff q (by omega) (by omega)) (e3 j (by omega))
  · rw [f23, st2_same]
theorem M_undoes (hM : MI σ τ p A U X) (hU : 0 < U.1) (h : ∀ σ', RM σ' p (U.2 (U.1 - 1)) → MU σ' p (popU U) → frM σ σ' → Q (nI (U.1 - 1)) σ' τ) : SI l D b M_X12_undo 0 G0 [.ref (b + 125)] σ τ Q := by
  obtain ⟨hk, a, ha, e1, e2, e3⟩ := id hM.2.1
  have hk16 := hk.1
  refine s_X12_undo σ τ ⟨fun _ σ2 es => ?_, fun c => ?_⟩
  · rw [st2_slot _ _ (by decide), e1, e2, show (16 : Int32) = nI 16 from rfl, show (1 : Int32) = nI 1 from rfl, nI_add, pk_sub (by omega), pk_sub (by omega), show nI 16 = (16 : Int32) from rfl, nI_rem16 (by omega)] at es
    have a2 : (a + 16 - 1) % 16 < 16 := Nat.mod_lt _ (by decide)
    have r22 : σ2 125 22 = nI ((a + 16 - 1) % 16) := by rw [es, st2_slot _ _ (by decide), st2_same]
    have r21 : σ2 125 21 = nI (U.1 - 1) := by rw [es, st2_same]
    have rc : ∀ c, c ≠ 125 → σ2 c = σ c := fun c c1 => by rw [es, st2_cell _ _ c1, st2_cell _ _ c1]
    have rj : ∀ j, j ≠ 21 → j ≠ 22 → σ2 125 j = σ 125 j := fun j j1 j2 => by rw [es, st2_slot _ _ j1, st2_slot _ _ j2]
    generalize ho : (a + 16 - 1) % 16 = o at a2 r22
    have key := lp_up (P := fun k => ∀ σ', (∀ c, c ≠ 133 → σ' c = σ2 c) → (∀ i, i < k → σ' 133 i = σ 134 (26 * o + i)) → AI l D b M_X12_undo 0 G0 Q 38 [(0, .ref (b + 125)), (1, .int (nI k))] [] G0 σ' τ) (n := 26) ?_ ?_ 0 (Nat.zero_le _)
    · exact key σ2 (fun _ _ => rfl) (fun i hi => by omega)
    · intro k hk2 ih σ' f1 f2
      have g1 : σ' 125 22 = nI o := by rw [f1 125 (by decide)]; exact r22
      refine w_X12_undo_38 _ σ' τ ⟨fun c => ?_, fun c => ?_⟩
      · rw [show (26 : Int32) = nI 26 from rfl, nI_leI (by omega) (by omega)] at c; omega
      · rw [g1, show (26 : Int32) = nI 26 from rfl, pk_mul, nI_add, nI_c (by omega), nI_c (by omega), nI_1]
        refine ⟨vp_in_t (by omega) (by decide), vp_in_t hk2 (by decide), ih _ (fun c hc => (st2_cell _ _ hc).trans (f1 c hc)) (fun i hi => ?_)⟩
        by_cases ei : i = k
        · subst ei
          rw [st2_same, f1 134 (by decide), rc 134 (by decide)]
        · rw [st2_slot _ _ ei]
          exact f2 i (by omega)
    · intro σ' f1 f2
      refine w_X12_undo_38 _ σ' τ ⟨fun c => ?_, fun c => absurd (nI_le (Nat.le_refl 26) (by decide)) c⟩
      have g1 : σ' 125 21 = nI (U.1 - 1) := by rw [f1 125 (by decide)]; exact r21
      rw [g1]
      have r134 : σ' 134 = σ 134 := by rw [f1 134 (by decide), rc 134 (by decide)]
      have hs := e3 (U.1 - 1) (by omega)
      have rr : RM σ' p (U.2 (U.1 - 1)) := by
        refine ⟨hM.1.1, hk.2 _ (by omega), hM.1.2.2.1.cong (fun j j1 j2 => by rw [f1 125 (by decide)]; exact rj j (by omega) (by omega)) (by rw [f1 131 (by decide), rc 131 (by decide)]) (by rw [f1 132 (by decide), rc 132 (by decide)]), ?_⟩
        refine hs.copy (fun i hi => ?_) hM.1.1
        rw [Nat.zero_add, f2 i hi, show (a + 16 - U.1 + (U.1 - 1)) % 16 = o by omega]
      refine h σ' rr ⟨⟨by show U.1 - 1 ≤ 16; omega, fun j hj => hk.2 j (by have : j < U.1 - 1 := hj; omega)⟩, o, a2, ?_, g1, ?_⟩ ⟨fun c c1 c2 c3 c4 => (f1 c c2).trans (rc c c1), fun j j1 j2 => by rw [f1 125 (by decide)]; exact rj j j1 j2⟩
      · rw [f1 125 (by decide)]; exact r22
      · intro j hj
        have hj : j < U.1 - 1 := hj
        show MS σ' 134 (26 * ((o + 16 - (U.1 - 1) + j) % 16)) p (U.2 j)
        rw [show (o + 16 - (U.1 - 1) + j) % 16 = (a + 16 - U.1 + j) % 16 by omega]
        exact (e3 j (by omega)).copy (fun i hi => by rw [r134]) hM.1.1
  · rw [e2, show (0 : Int32) = nI 0 from rfl, nI_eq (by omega) (by omega)] at c; omega
theorem P_undo (J : Iv σ τ) (h : ∀ r σ1 τ1, (∀ Z : Int32 → zSg → zLm → Prop, (∀ σ2 τ2, Iv σ2 τ2 → Z r σ2 τ2) → SI l D b M_X12_undo 0 G0 [.ref (b + 125)] σ1 τ1 Z) → Q r σ1 τ1) : SI l D b M_X11_undo 3 G0 [.ref (b + 0)] σ τ Q := by
  obtain ⟨p, A, U, X, hC, hM⟩ := id J
  have e2 : σ 23 5 = nI U.1 := by obtain ⟨_, _, _, _, q, _⟩ := hC.2.1; exact q
  have m2 : σ 125 21 = nI U.1 := by obtain ⟨_, _, _, _, q, _⟩ := hM.2.1; exact q
  have hk16 := hC.2.1.1.1
  refine s_X11_undo σ τ ?_
  rw [e2, show (0 : Int32) = nI 0 from rfl, nI_ltI (by omega) (by omega)]
  refine ⟨fun c => S_stepBack hC c (fun σ1 R1 U1 f1 g1 => ?_), fun c => h _ _ _ (fun Z hZ => s_X12_undo σ τ ⟨fun q => ?_, fun _ => hZ _ _ J⟩)⟩
  · rw [g1]
    exact h _ _ _ (fun Z hZ => M_undoes (hM.cong f1.up) c (fun σ2 R2 U2 f2 => hZ _ _ (Iv_scene hC hM R1 U1 f1 R2 U2 f2)))
  · rw [m2, show (0 : Int32) = nI 0 from rfl, nI_eq (by omega) (by omega)] at q
    omega
theorem P_soft (J : Iv σ τ) (x y : Int32) (h : ∀ r σ1 τ1, (∀ Z : Int32 → zSg → zLm → Prop, (∀ σ2 τ2, Iv σ2 τ2 → Z r σ2 τ2) → SI l D b M_X12_soft 3 G0 [.ref (b + 125), .int x, .int y] σ1 τ1 Z) → Q r σ1 τ1) : SI l D b M_X11_soft 3 G0 [.ref (b + 0), .int x, .int y] σ τ Q := by
  obtain ⟨p, A, U, X, hC, hM⟩ := id J
  rcases tro p hC.1.1 x with ⟨t, ht, rfl⟩ | hx
  · have out : (y < 0 ∨ nI 501 ≤ y) → SI l D b M_X11_soft 3 G0 [.ref (b + 0), .int (nI t), .int y] σ τ Q := by
      intro hy
      have fin : Q (-1000000002) σ τ := h _ _ _ (fun Z hZ => s_X12_soft _ _ σ τ (M_tro hM.1 ht ⟨fun _ => M_inN (n := 500) (by decide) hy ⟨fun q => absurd rfl q, fun _ => hZ _ _ J⟩, fun q => absurd q one0⟩))
      refine s_X11_soft _ _ σ τ (S_tro hC.1 ht ⟨fun _ => ⟨fun _ => fin, fun c1 => ⟨fun c2 => ?_, fun _ => fin⟩⟩, fun q => absurd q one0⟩)
      rcases hy with hy | hy
      · exact absurd hy c1
      · have hy : (501 : Int32) ≤ y := hy
        rw [fa_le] at hy c2
        have e1 : (501 : Int32).toInt = 501 := rfl
        have e2 : (500 : Int32).toInt = 500 := rfl
        omega
    rcases pk_ix y (n := 501) (by decide) with hy | hy | ⟨k, hk, rfl⟩
    · exact out (Or.inl hy)
    · exact out (Or.inr hy)
    · refine s_X11_soft _ _ σ τ (S_tro hC.1 ht ⟨fun _ => ⟨fun q => absurd q (nI_pos (by omega)), fun _ => ⟨fun _ => S_hardBehind hC.1 ht (by omega) (h _ _ _ (fun Z hZ => s_X12_soft _ _ σ τ (M_tro hM.1 ht ⟨fun _ => M_inY (n := 500) (by omega) (by decide) ⟨fun _ => M_softBehind hM.1 ht (by omega) (hZ _ _ J), fun q => absurd q one0⟩, fun q => absurd q one0⟩))), fun q => absurd (nI_le (b := 500) (by omega) (by decide)) q⟩⟩, fun q => absurd q one0⟩)
  · exact s_X11_soft _ _ σ τ (S_ntro hC.1 hx ⟨fun q => absurd rfl q, fun _ => h _ _ _ (fun Z hZ => s_X12_soft _ _ σ τ (M_ntro hM.1 hx ⟨fun q => absurd rfl q, fun _ => hZ _ _ J⟩))⟩)
theorem P_when (J : Iv σ τ) (x : Int32) (h : ∀ r σ1 τ1, (∀ Z : Int32 → zSg → zLm → Prop, (∀ σ2 τ2, Iv σ2 τ2 → Z r σ2 τ2) → SI l D b M_X12_when 3 G0 [.ref (b + 125), .int x] σ1 τ1 Z) → Q r σ1 τ1) : SI l D b M_X11_when 3 G0 [.ref (b + 0), .int x] σ τ Q := by
  obtain ⟨p, A, U, X, hC, hM⟩ := id J
  rcases tro p hC.1.1 x with ⟨t, ht, rfl⟩ | hx
  · obtain ⟨r1, r2⟩ := RC_hr hC.1
    refine s_X11_when _ σ τ (S_tro hC.1 ht ⟨fun _ => ?_, fun q => absurd q one0⟩)
    rw [r1]
    exact S_hoursTillGood hC.1 ht (by omega) (h _ _ _ (fun Z hZ => s_X12_when _ σ τ (M_tro hM.1 ht ⟨fun q => absurd q one0, fun _ => M_softIn (fr := 0) hM.1 ht (by decide) (hZ _ _ J)⟩)))
  · exact s_X11_when _ σ τ (S_ntro hC.1 hx ⟨fun q => absurd rfl q, fun _ => h _ _ _ (fun Z hZ => s_X12_when _ σ τ (M_ntro hM.1 hx ⟨fun _ => hZ _ _ J, fun q => absurd rfl q⟩))⟩)
theorem P_eater (J : Iv σ τ) (x y : Int32) (h : ∀ r σ1 τ1, (∀ Z : Int32 → zSg → zLm → Prop, (∀ σ2 τ2, Iv σ2 τ2 → Z r σ2 τ2) → SI l D b M_X12_eater 2 G0 [.ref (b + 125), .int x, .int y] σ1 τ1 Z) → Q r σ1 τ1) : SI l D b M_X11_eater 1 G0 [.ref (b + 0), .int x, .int y] σ τ Q := by
  obtain ⟨p, A, U, X, hC, hM⟩ := id J
  rcases eat p hC.1.1 x with ⟨t, ht, rfl⟩ | hx
  · have h6 := RC_e hC.1 ht
    have cE : ∀ {Q' : Int32 → zSg → zLm → Prop}, Q' 1 σ τ → SI l D b M_X6_hasEater 0 G0 [.ref (b + 9), .int (nI t)] σ τ Q' := fun q => S_hasEater hC.1 _ (fun _ _ _ => q) (fun r => absurd rfl (r t ht))
    have mE : ∀ {Q' : Int32 → zSg → zLm → Prop}, Q' 1 σ τ → SI l D b M_X12_isEater 1 G0 [.ref (b + 125), .int (nI t)] σ τ Q' := fun q => M_isEater hM.1 _ (fun _ _ _ => q) (fun r => absurd rfl (r t ht))
    obtain ⟨c1, c2, c3, c4⟩ := RC_ld hC.1 ht
    obtain ⟨m1, m2, m3, m4⟩ := RM_ld hM.1 ht
    refine s_X11_eater _ _ σ τ (cE ⟨fun _ => ?_, fun q => absurd q one0⟩)
    rw [nI_c (by omega), c1, c3]
    have ref : ∀ Z : Int32 → zSg → zLm → Prop, ((0 ≤ y ∧ y ≤ 1) → (¬ y = 0 → Z (nI (ldS A t)) σ τ) ∧ (y = 0 → Z (nI (ps p t)) σ τ)) → (¬ (0 ≤ y ∧ y ≤ 1) → Z (-1000000002) σ τ) → SI l D b M_X12_eater 2 G0 [.ref (b + 125), .int (nI t), .int y] σ τ Z := by
      intro Z h1 h2
      refine s_X12_eater _ _ σ τ (mE ⟨fun _ => M_in (fun a1 a2 => ?_) (fun a => ⟨fun q => absurd rfl q, fun _ => h2 a⟩), fun q => absurd q one0⟩)
      rw [nI_p20, nI_c (by omega), nI_c (by omega), m1, m3]
      exact ⟨fun _ => ⟨fun q => ⟨vp_in_t (by omega) (by decide), (h1 ⟨a1, a2⟩).1 q⟩, fun q => ⟨vp_in_t h6 (by decide), (h1 ⟨a1, a2⟩).2 q⟩⟩, fun q => absurd q one0⟩
    refine ⟨fun e => ⟨vp_in_t h6 (by decide), h _ _ _ (fun Z hZ => ref Z (fun _ => ⟨fun q => absurd e q, fun _ => hZ _ _ J⟩) (fun a => absurd (by subst e; decide) a))⟩, fun n0 => ⟨fun e => ⟨vp_in_t h6 (by decide), h _ _ _ (fun Z hZ => ref Z (fun _ => ⟨fun _ => hZ _ _ J, fun q => absurd q n0⟩) (fun a => absurd (by subst e; decide) a))⟩, fun n1 => h _ _ _ (fun Z hZ => ref Z (fun a => ?_) (fun _ => hZ _ _ J))⟩⟩
    exfalso
    obtain ⟨a1, a2⟩ := a
    rw [fa_le] at a1 a2
    rw [fa_eq] at n0 n1
    have z0 : (0 : Int32).toInt = 0 := rfl
    have z1 : (1 : Int32).toInt = 1 := rfl
    omega
  · exact s_X11_eater _ _ σ τ (S_hasEater hC.1 _ (fun t ht e => absurd e (hx t ht)) (fun _ => ⟨fun q => absurd rfl q, fun _ => h _ _ _ (fun Z hZ => s_X12_eater _ _ σ τ (M_isEater hM.1 _ (fun t ht e => absurd e (hx t ht)) (fun _ => ⟨fun q => absurd rfl q, fun _ => hZ _ _ J⟩)))⟩))
theorem P_fault (J : Iv σ τ) (h : ∀ r σ1 τ1, (∀ Z : Int32 → zSg → zLm → Prop, (∀ σ2 τ2, Iv σ2 τ2 → Z r σ2 τ2) → SI l D b M_X12_fault 0 G0 [.ref (b + 125)] σ1 τ1 Z) → Q r σ1 τ1) : SI l D b M_X11_fault 0 G0 [.ref (b + 0)] σ τ Q := by
  obtain ⟨p, A, U, X, hC, hM⟩ := id J
  refine s_X11_fault σ τ (h _ _ _ (fun Z hZ => s_X12_fault σ τ ?_))
  rw [hM.2.2.2.2.2.2.2, ← hC.2.2.2.2.2.2.2]
  exact hZ _ _ J
theorem nI_ge0 {x : Int32} (h : 0 ≤ x) : ∃ k, k < 2 ^ 31 ∧ x = nI k := by
  rw [fa_le] at h
  have h2 := fb_rng x
  have z0 : (0 : Int32).toInt = 0 := rfl
  refine ⟨x.toInt.toNat, by omega, ?_⟩
  rw [fa_eq, nI_toInt (by omega)]
  omega
theorem P_seed (J : Iv σ τ) (x : Int32) (h : ∀ r σ1 τ1, (∀ Z : Int32 → zSg → zLm → Prop, (∀ σ2 τ2, Iv σ2 τ2 → Z r σ2 τ2) → SI l D b M_X12_seed 0 G0 [.ref (b + 125), .int x] σ1 τ1 Z) → Q r σ1 τ1) : SI l D b M_X11_seed 0 G0 [.ref (b + 0), .int x] σ τ Q := by
  obtain ⟨p, A, U, X, hC, hM⟩ := id J
  refine s_X11_seed _ σ τ ⟨fun c => h _ _ _ (fun Z hZ => s_X12_seed _ _ τ ⟨fun _ => ?_, fun q => absurd c q⟩), fun c => h _ _ _ (fun Z hZ => s_X12_seed _ σ τ ⟨fun q => absurd q c, fun _ => hZ _ _ J⟩)⟩
  obtain ⟨k, hk, rfl⟩ := nI_ge0 c
  obtain ⟨z1, z2⟩ := hC.2.2.2.1
  obtain ⟨y1, y2⟩ := hM.2.2.2.1
  rw [y2]
  have e1 : (lN X.2.1).toInt32 = nI X.2.1 := lN_i _
  have e2 : (nI k).toInt64 = lN k := nI_l hk
  rw [e1, e2]
  rw [z2] at hZ
  refine hZ (st2 σ 22 0 (nI k)) (st2 τ 125 24 (lN k)) ⟨p, A, U, (X.1, k, X.2.2), ⟨hC.1.cong (fun c c1 c2 => st2_cell (c := 22) (q := c) _ _ (by omega)), hC.2.1.cong (st2_cell _ _ (by decide)) (fun c c1 c2 => st2_cell (c := 22) (q := c) _ _ (by omega)), ?_⟩, ?_⟩
  · obtain ⟨i1, i2, i3, i4, i5, i6⟩ := hC.2.2
    exact ⟨i1.cong (st2_cell _ _ (by decide)) (st2_cell _ _ (by decide)) (fun c c1 c2 => st2_cell _ _ (by omega)), ⟨hk, st2_same _ _ _ _⟩, i3.cong (by rw [st2_cell _ _ (by decide)]) (by rw [st2_cell _ _ (by decide)]) (by rw [st2_cell _ _ (by decide)]), i4.cong (by rw [st2_cell _ _ (by decide)]) (st2_cell _ _ (by decide)) (st2_cell _ _ (by decide)), i5.cong (by rw [st2_cell _ _ (by decide)]) (st2_cell _ _ (by decide)), by rw [st2_cell _ _ (by decide)]; exact i6⟩
  · have M2 : MI (st2 σ 22 0 (nI k)) τ p A U X := hM.cong (fun c hc => st2_cell _ _ (by omega))
    obtain ⟨i1, i2, i3, i4, i5, i6⟩ := M2.2.2
    exact ⟨M2.1, M2.2.1, i1.cong M2.1.1 rfl rfl (st2_cell _ _ (by decide)), ⟨hk, st2_same _ _ _ _⟩, i3, i4, i5, i6⟩
theorem P_feed (J : Iv σ τ) (x : Int32) (h : ∀ r σ1 τ1, (∀ Z : Int32 → zSg → zLm → Prop, (∀ σ2 τ2, Iv σ2 τ2 → Z r σ2 τ2) → SI l D b M_X12_feed 1 G0 [.ref (b + 125), .int x] σ1 τ1 Z) → Q r σ1 τ1) : SI l D b M_X11_feed 1 G0 [.ref (b + 0), .int x] σ τ Q := by
  obtain ⟨p, A, U, X, hC, hM⟩ := id J
  have out : (x < 0 ∨ nI 256 ≤ x) → SI l D b M_X11_feed 1 G0 [.ref (b + 0), .int x] σ τ Q := by
    intro hy
    have fin : Q (-1000000002) σ τ := h _ _ _ (fun Z hZ => s_X12_feed _ σ τ (M_inN (n := 255) (by decide) hy ⟨fun q => absurd rfl q, fun _ => hZ _ _ J⟩))
    refine s_X11_feed _ σ τ ⟨fun _ => fin, fun c1 => ⟨fun c2 => ?_, fun _ => fin⟩⟩
    rcases hy with hy | hy
    · exact absurd hy c1
    · have hy : (256 : Int32) ≤ x := hy
      rw [fa_le] at hy c2
      have e1 : (256 : Int32).toInt = 256 := rfl
      have e2 : (255 : Int32).toInt = 255 := rfl
      omega
  rcases pk_ix x (n := 256) (by decide) with hy | hy | ⟨k, hk, rfl⟩
  · exact out (Or.inl hy)
  · exact out (Or.inr hy)
  · obtain ⟨c1, c2, c3, c4, ⟨c51, c52, c53⟩, c6⟩ := id hC.2.2
    obtain ⟨m1, m2, m3, m4, ⟨m51, m52, m53⟩, m6⟩ := id hM.2.2
    have hT := c51.1
    refine s_X11_feed _ σ τ ⟨fun q => absurd q (nI_pos (by omega)), fun _ => ⟨fun _ => ?_, fun q => absurd (nI_le (b := 255) (by omega) (by decide)) q⟩⟩
    rw [c52, show (240 : Int32) = nI 240 from rfl, nI_ltI (by omega) (by omega)]
    refine ⟨fun c => s_X7_add _ σ τ ?_, fun c => h _ _ _ (fun Z hZ => s_X12_feed _ σ τ (M_inY (n := 255) (by omega) (by decide) ⟨fun _ => ⟨fun q => ?_, fun _ => hZ _ _ J⟩, fun q => absurd q one0⟩))⟩
    · rw [c52, show (240 : Int32) = nI 240 from rfl, nI_leI (by omega) (by omega)]
      refine ⟨fun q => by omega, fun _ => ⟨vp_in_t c (by decide), ?_⟩⟩
      rw [nI_c (by omega), st2_cell (c := 2) (q := 1) _ _ (by decide), c52, nI_1, st2_same]
      generalize hs : st2 (st2 σ 2 X.2.2.2.2.1.1 (nI k)) 1 1 (nI (X.2.2.2.2.1.1 + 1)) = σ1
      have f1 : ∀ c, c ≠ 1 → c ≠ 2 → σ1 c = σ c := fun c a1 a2 => by rw [← hs, st2_cell _ _ a1, st2_cell _ _ a2]
      refine h _ _ _ (fun Z hZ => s_X12_feed _ σ1 τ (M_inY (n := 255) (by omega) (by decide) ⟨fun _ => ?_, fun q => absurd q one0⟩))
      rw [f1 125 (by decide) (by decide), m52, show (240 : Int32) = nI 240 from rfl, nI_eq (by omega) (by omega)]
      refine ⟨fun _ => ⟨vp_in_t c (by decide), ?_⟩, fun q => by omega⟩
      rw [nI_c (by omega), st2_cell (c := 126) (q := 125) _ _ (by decide), f1 125 (by decide) (by decide), m52, nI_1, st2_same]
      generalize hs2 : st2 (st2 σ1 126 X.2.2.2.2.1.1 (nI k)) 125 0 (nI (X.2.2.2.2.1.1 + 1)) = σ2
      have f2 : ∀ c, c ≠ 125 → c ≠ 126 → σ2 c = σ1 c := fun c a1 a2 => by rw [← hs2, st2_cell _ _ a1, st2_cell _ _ a2]
      have f3 : ∀ j, j ≠ 0 → σ2 125 j = σ1 125 j := fun j a1 => by rw [← hs2, st2_slot _ _ a1, st2_cell _ _ (by decide)]
      have fl : ∀ c, c < 125 → c ≠ 1 → c ≠ 2 → σ2 c = σ c := fun c a1 a2 a3 => (f2 c (by omega) (by omega)).trans (f1 c a2 a3)
      have fu : ∀ c, 126 < c → σ2 c = σ c := fun c a1 => (f2 c (by omega) (by omega)).trans (f1 c (by omega) (by omega))
      have fj : ∀ j, j ≠ 0 → σ2 125 j = σ 125 j := fun j a1 => (f3 j a1).trans (by rw [f1 125 (by decide) (by decide)])
      have oT : okT (X.2.2.2.2.1.1 + 1, va_up X.2.2.2.2.1.2 X.2.2.2.2.1.1 k) := by
        refine ⟨by show _ + 1 ≤ 240; omega, fun i hi => ?_⟩
        show va_up X.2.2.2.2.1.2 X.2.2.2.2.1.1 k i ≤ 255
        unfold va_up
        split
        · omega
        · exact c51.2 i (by have : i < X.2.2.2.2.1.1 + 1 := hi; omega)
      refine hZ _ _ ⟨p, A, U, (X.1, X.2.1, X.2.2.1, X.2.2.2.1, (X.2.2.2.2.1.1 + 1, va_up X.2.2.2.2.1.2 X.2.2.2.2.1.1 k), X.2.2.2.2.2), ⟨hC.1.cong (fun c a1 a2 => fl c (by omega) (by omega) (by omega)), hC.2.1.cong (fl 23 (by decide) (by decide) (by decide)) (fun c a1 a2 => fl c (by omega) (by omega) (by omega)), ?_⟩, ⟨hM.1.cong (fun j a1 a2 => fj j (by omega)) (fu 131 (by decide)) (fu 132 (by decide)) (fu 133 (by decide)), hM.2.1.cong hM.1.1 (fun j a1 a2 => fj j (by omega)) (fu 134 (by decide)), ?_⟩⟩
      · refine ⟨c1.cong (fl 26 (by decide) (by decide) (by decide)) (fl 27 (by decide) (by decide) (by decide)) (fun c a1 a2 => fl c (by omega) (by omega) (by omega)), ⟨c2.1, by rw [fl 22 (by decide) (by decide) (by decide)]; exact c2.2⟩, c3.cong (by rw [fl 120 (by decide) (by decide) (by decide)]) (by rw [fl 120 (by decide) (by decide) (by decide)]) (by rw [fl 120 (by decide) (by decide) (by decide)]), c4.cong (by rw [fl 122 (by decide) (by decide) (by decide)]) (fl 123 (by decide) (by decide) (by decide)) (fl 124 (by decide) (by decide) (by decide)), ⟨oT, ?_, ?_⟩, by rw [fl 0 (by decide) (by decide) (by decide)]; exact c6⟩
        · rw [f2 1 (by decide) (by decide), ← hs, st2_same]
        · intro i hi
          have hi : i < X.2.2.2.2.1.1 + 1 := hi
          rw [f2 2 (by decide) (by decide), ← hs, st2_cell _ _ (by decide), st2_row]
          exact up_nI (fun q => c53 i (by omega))
      · refine ⟨m1.cong hM.1.1 (fu 141 (by decide)) (fu 142 (by decide)) rfl, m2, m3.cong (fj 26 (by decide)) (fu 136 (by decide)) (fu 137 (by decide)), m4.cong (fj 30 (by decide)) (fu 139 (by decide)) (fu 140 (by decide)), ⟨oT, ?_, ?_⟩, (fj 5 (by decide)).trans m6⟩
        · rw [← hs2, st2_same]
        · intro i hi
          have hi : i < X.2.2.2.2.1.1 + 1 := hi
          rw [← hs2, st2_cell _ _ (by decide), st2_row]
          exact up_nI (fun q => by rw [f1 126 (by decide) (by decide)]; exact m53 i (by omega))
    · rw [m52, show (240 : Int32) = nI 240 from rfl, nI_eq (by omega) (by omega)] at q; omega
end PAIRS2
