/-! PAIRS OF CALLS: images. -/
theorem okU_0 (p : Pl) (f : Nat → Sc) : okU p (0, f) := ⟨Nat.zero_le _, fun j hj => absurd hj (Nat.not_lt_zero j)⟩
theorem CU_0 {σ : zSg} {p : Pl} {f : Nat → Sc} (h1 : σ 23 4 = 0) (h2 : σ 23 5 = 0) : CU σ p (0, f) := ⟨okU_0 p f, 0, by decide, h1, h2, fun j hj => absurd hj (Nat.not_lt_zero j)⟩
theorem MU_0 {σ : zSg} {p : Pl} {f : Nat → Sc} {a : Nat} (ha : a < 16) (h1 : σ 125 22 = nI a) (h2 : σ 125 21 = 0) : MU σ p (0, f) := ⟨okU_0 p f, a, ha, h1, h2, fun j hj => absurd hj (Nat.not_lt_zero j)⟩
section IMAGES
variable {l : Launch} {D : zDD} {b : Nat} {γ : zGm} {σ : zSg} {τ : zLm} {p : Pl} {A : Sc} {U : Un} {X : Xt} {Q : Int32 → zSg → zLm → Prop} {G : zSg → zLm → Prop}
theorem S_keepImage (hC : CI σ p A U X) {i : Nat} (hi : i < 2) (h : ∀ σ', CI σ' p A (0, U.2) (va_up X.1 i (some (A, X.2.1)), X.2) → (∀ c, 125 ≤ c → σ' c = σ c) → G σ' τ) : SV l D b M_X5_keepImage 2 G0 [.ref (b + 23), .int (nI i), .ref (b + 14), .ref (b + 22)] σ τ G := by
  refine s_X5_keepImage _ σ τ ?_
  rw [nI_c (by omega)]
  obtain ⟨c1, c2, c3, c4, c5, c6⟩ := id hC.2.2
  refine ⟨vp_in_t hi (by decide), S_become (isSc_im hi) (Or.inl rfl) (by omega) hC.1.1 hC.1.2.2.2 (fun σ2 hs hf => ⟨vp_in_t hi (by decide), vp_in_t hi (by decide), s_X5_forgetUndone _ τ ?_⟩)⟩
  have e21 : σ2 22 0 = nI X.2.1 := by rw [hf 22 (by omega)]; exact c2.2
  rw [e21, nar1]
  generalize hs3 : st2 (st2 (st2 (st2 σ2 26 i (nI X.2.1)) 27 i 1) 23 4 0) 23 5 0 = σ3
  have g : ∀ c, c ≠ 23 → c ≠ 26 → c ≠ 27 → σ3 c = σ2 c := fun c a1 a2 a3 => by rw [← hs3, st2_cell _ _ a1, st2_cell _ _ a1, st2_cell _ _ a3, st2_cell _ _ a2]
  have f : ∀ c, c ≠ 23 → c ≠ 26 → c ≠ 27 → (c < 108 + 5 * i ∨ 108 + 5 * i + 4 < c) → σ3 c = σ c := fun c a1 a2 a3 a4 => (g c a1 a2 a3).trans (hf c a4)
  refine h σ3 ⟨hC.1.cong (fun c a1 a2 => f c (by omega) (by omega) (by omega) (by omega)), CU_0 (by rw [← hs3, st2_slot _ _ (by decide), st2_same]) (by rw [← hs3, st2_same]), ?_, ⟨c2.1, by rw [f 22 (by omega) (by omega) (by omega) (by omega)]; exact c2.2⟩, c3.cong (by rw [f 120 (by omega) (by omega) (by omega) (by omega)]) (by rw [f 120 (by omega) (by omega) (by omega) (by omega)]) (by rw [f 120 (by omega) (by omega) (by omega) (by omega)]), c4.cong (by rw [f 122 (by omega) (by omega) (by omega) (by omega)]) (f 123 (by omega) (by omega) (by omega) (by omega)) (f 124 (by omega) (by omega) (by omega) (by omega)), c5.cong (by rw [f 1 (by omega) (by omega) (by omega) (by omega)]) (f 2 (by omega) (by omega) (by omega) (by omega)), by rw [f 0 (by omega) (by omega) (by omega) (by omega)]; exact c6⟩ (fun c a => f c (by omega) (by omega) (by omega) (by omega))
  intro q hq
  have e27 : σ3 27 q = va_up (σ 27) i 1 q := by rw [← hs3, st2_cell _ _ (by decide), st2_cell _ _ (by decide), st2_row, st2_cell _ _ (by decide), hf 27 (by omega)]
  have e26 : σ3 26 q = va_up (σ 26) i (nI X.2.1) q := by rw [← hs3, st2_cell _ _ (by decide), st2_cell _ _ (by decide), st2_cell _ _ (by decide), st2_row, hf 26 (by omega)]
  rw [e27, e26]
  show (va_up X.1 i (some (A, X.2.1)) q = none → _) ∧ ∀ B z, va_up X.1 i (some (A, X.2.1)) q = some (B, z) → _
  unfold va_up
  by_cases e : q = i
  · subst e
    rw [if_pos rfl, if_pos rfl, if_pos rfl]
    refine ⟨fun q => (by cases q), fun B z q => ?_⟩
    have q2 : A = B ∧ X.2.1 = z := by injection q with q; injection q with q1 q2; exact ⟨q1, q2⟩
    obtain ⟨rfl, rfl⟩ := q2
    exact ⟨rfl, hC.1.2.1, hs.same (fun c a1 a2 => g c (by omega) (by omega) (by omega)), c2.1, rfl⟩
  · rw [if_neg e, if_neg e, if_neg e]
    obtain ⟨i1, i2⟩ := c1 q hq
    refine ⟨i1, fun B z q2 => ?_⟩
    obtain ⟨k1, k2, k3, k4, k5⟩ := i2 B z q2
    exact ⟨k1, k2, k3.same (fun c a1 a2 => f c (by omega) (by omega) (by omega) (by omega)), k4, k5⟩
theorem P_keep (J : Iv σ τ) (x : Int32) (h : ∀ r σ1 τ1, (∀ Z : Int32 → zSg → zLm → Prop, (∀ σ2 τ2, Iv σ2 τ2 → Z r σ2 τ2) → SI l D b M_X12_keep 1 G0 [.ref (b + 125), .int x] σ1 τ1 Z) → Q r σ1 τ1) : SI l D b M_X11_keep 3 G0 [.ref (b + 0), .int x] σ τ Q := by
  obtain ⟨p, A, U, X, hC, hM⟩ := id J
  have out : (x < 0 ∨ nI 2 ≤ x) → SI l D b M_X11_keep 3 G0 [.ref (b + 0), .int x] σ τ Q := by
    intro hx
    have fin : Q (-1000000001) σ τ := h _ _ _ (fun Z hZ => s_X12_keep _ σ τ (M_inN (n := 1) (by decide) hx ⟨fun q => absurd rfl q, fun _ => hZ _ _ J⟩))
    refine s_X11_keep _ σ τ ⟨fun _ => fin, fun c1 => ⟨fun c2 => ?_, fun _ => fin⟩⟩
    rcases hx with hx | hx
    · exact absurd hx c1
    · exact absurd c2 (Int32.not_lt.mpr hx)
  rcases pk_ix x (n := 2) (by decide) with hx | hx | ⟨i, hi, rfl⟩
  · exact out (Or.inl hx)
  · exact out (Or.inr hx)
  · refine s_X11_keep _ σ τ ⟨fun q => absurd q (nI_pos (by omega)), fun _ => ⟨fun _ => S_keepImage hC hi (fun σ1 C1 f1 => h _ _ _ (fun Z hZ => s_X12_keep _ σ1 τ (M_inY (n := 1) (by omega) (by decide) ⟨fun _ => ⟨vp_in_t hi (by decide), vp_in_t hi (by decide), ?_⟩, fun q => absurd q one0⟩))), fun q => absurd (nI_lt (b := 2) hi (by decide)) q⟩⟩
    have M1 := hM.cong f1
    obtain ⟨m1, m2, m3, m4, m5, m6⟩ := id M1.2.2
    obtain ⟨hk, a, ha, e1, e2, e3⟩ := id M1.2.1
    rw [nI_c (by omega), nar1, m2.2]
    generalize hs : st2 (st2 σ1 141 i 1) 125 21 0 = σ2
    have key := lp_up (P := fun k => ∀ σ', (∀ c, c ≠ 142 → σ' c = σ2 c) → (∀ j, j < k → σ' 142 (26 * i + j) = σ1 133 j) → (∀ q, (q < 26 * i ∨ 26 * i + 26 ≤ q) → σ' 142 q = σ1 142 q) → AI l D b M_X12_keep 1 G0 Z 36 [(0, .ref (b + 125)), (1, .int (nI i)), (2, .int (nI k))] [] G0 σ' (st2 τ 143 i (lN X.2.1))) (n := 26) ?_ ?_ 0 (Nat.zero_le _)
    · refine key σ2 (fun _ _ => rfl) (fun i hi => by omega) (fun q _ => ?_)
      rw [← hs, st2_cell _ _ (by decide), st2_cell _ _ (by decide)]
    · intro k hk2 ih σ' g1 g2 g3
      refine w_X12_keep_36 _ _ σ' _ ⟨fun c => ?_, fun c => ?_⟩
      · rw [show (26 : Int32) = nI 26 from rfl, nI_leI (by omega) (by omega)] at c; omega
      · rw [show (26 : Int32) = nI 26 from rfl, pk_mul, nI_add, nI_c (by omega), nI_c (by omega), nI_1]
        refine ⟨vp_in_t hk2 (by decide), vp_in_t (by omega) (by decide), ih _ (fun c hc => (st2_cell _ _ hc).trans (g1 c hc)) (fun j hj => ?_) (fun q hq => (st2_slot _ _ (by omega)).trans (g3 q hq))⟩
        by_cases ei : j = k
        · subst ei
          rw [st2_same, g1 133 (by decide), ← hs, st2_cell _ _ (by decide), st2_cell _ _ (by decide)]
        · rw [st2_slot _ _ (by omega)]
          exact g2 j (by omega)
    · intro σ' g1 g2 g3
      refine w_X12_keep_36 _ _ σ' _ ⟨fun c => ?_, fun c => absurd (nI_le (Nat.le_refl 26) (by decide)) c⟩
      have f2 : ∀ c, c ≠ 125 → c ≠ 141 → c ≠ 142 → σ' c = σ1 c := fun c a1 a2 a3 => (g1 c a3).trans (by rw [← hs, st2_cell _ _ a1, st2_cell _ _ a2])
      have fj : ∀ j, j ≠ 21 → σ' 125 j = σ1 125 j := fun j a1 => by rw [g1 125 (by decide), ← hs, st2_slot _ _ a1, st2_cell _ _ (by decide)]
      refine hZ _ _ ⟨p, A, (0, U.2), (va_up X.1 i (some (A, X.2.1)), X.2), C1.cong (fun c a => f2 c (by omega) (by omega) (by omega)), M1.1.cong (fun j a1 a2 => fj j (by omega)) (f2 131 (by omega) (by omega) (by omega)) (f2 132 (by omega) (by omega) (by omega)) (f2 133 (by omega) (by omega) (by omega)), MU_0 ha ((fj 22 (by decide)).trans e1) (by rw [g1 125 (by decide), ← hs, st2_same]), ?_, ⟨m2.1, by rw [st2_cell _ _ (by decide)]; exact m2.2⟩, m3.cong (fj 26 (by decide)) (f2 136 (by omega) (by omega) (by omega)) (f2 137 (by omega) (by omega) (by omega)), m4.cong (fj 30 (by decide)) (f2 139 (by omega) (by omega) (by omega)) (f2 140 (by omega) (by omega) (by omega)), m5.cong (fj 0 (by decide)) (f2 126 (by omega) (by omega) (by omega)), (fj 5 (by decide)).trans m6⟩
      intro q hq
      have e141 : σ' 141 q = va_up (σ1 141) i 1 q := by rw [g1 141 (by decide), ← hs, st2_cell _ _ (by decide), st2_row]
      have e143 : st2 τ 143 i (lN X.2.1) 143 q = va_up (τ 143) i (lN X.2.1) q := by rw [st2_row]
      rw [e141, e143]
      show (va_up X.1 i (some (A, X.2.1)) q = none → _) ∧ ∀ B z, va_up X.1 i (some (A, X.2.1)) q = some (B, z) → _
      unfold va_up
      by_cases e : q = i
      · subst e
        rw [if_pos rfl, if_pos rfl, if_pos rfl]
        refine ⟨fun q => (by cases q), fun B z q => ?_⟩
        have q2 : A = B ∧ X.2.1 = z := by injection q with q; injection q with q1 q2; exact ⟨q1, q2⟩
        obtain ⟨rfl, rfl⟩ := q2
        exact ⟨rfl, hC.1.2.1, M1.1.2.2.2.copy (fun j hj => by rw [Nat.zero_add]; exact g2 j hj) M1.1.1, m2.1, rfl⟩
      · rw [if_neg e, if_neg e, if_neg e]
        obtain ⟨i1, i2⟩ := m1 q hq
        refine ⟨i1, fun B z q2 => ?_⟩
        obtain ⟨k1, k2, k3, k4, k5⟩ := i2 B z q2
        exact ⟨k1, k2, k3.copy (fun j hj => g3 _ (by omega)) M1.1.1, k4, k5⟩
theorem P_goBack (J : Iv σ τ) (x : Int32) (h : ∀ r σ1 τ1, (∀ Z : Int32 → zSg → zLm → Prop, (∀ σ2 τ2, Iv σ2 τ2 → Z r σ2 τ2) → SI l D b M_X12_goBack 1 G0 [.ref (b + 125), .int x] σ1 τ1 Z) → Q r σ1 τ1) : SI l D b M_X11_goBack 3 G0 [.ref (b + 0), .int x] σ τ Q := by
  obtain ⟨p, A, U, X, hC, hM⟩ := id J
  have out : (x < 0 ∨ nI 2 ≤ x) → SI l D b M_X11_goBack 3 G0 [.ref (b + 0), .int x] σ τ Q := by
    intro hx
    have fin : Q (-1000000001) σ τ := h _ _ _ (fun Z hZ => s_X12_goBack _ σ τ (M_inN (n := 1) (by decide) hx ⟨fun q => absurd rfl q, fun _ => hZ _ _ J⟩))
    refine s_X11_goBack _ σ τ ⟨fun _ => fin, fun c1 => ⟨fun c2 => ?_, fun _ => fin⟩⟩
    rcases hx with hx | hx
    · exact absurd hx c1
    · exact absurd c2 (Int32.not_lt.mpr hx)
  rcases pk_ix x (n := 2) (by decide) with hx | hx | ⟨i, hi, rfl⟩
  · exact out (Or.inl hx)
  · exact out (Or.inr hx)
  · obtain ⟨c1, c2, c3, c4, c5, c6⟩ := id hC.2.2
    obtain ⟨m1, m2, m3, m4, m5, m6⟩ := id hM.2.2
    refine s_X11_goBack _ σ τ ⟨fun q => absurd q (nI_pos (by omega)), fun _ => ⟨fun _ => ⟨vp_in_t hi (by decide), ?_⟩, fun q => absurd (nI_lt (b := 2) hi (by decide)) q⟩⟩
    rw [nI_c (by omega)]
    cases hI : X.1 i with
    | none =>
      refine ⟨fun q => absurd ((c1 i hi).1 hI) q, fun _ => h _ _ _ (fun Z hZ => s_X12_goBack _ σ τ (M_inY (n := 1) (by omega) (by decide) ⟨fun _ => ⟨vp_in_t hi (by decide), ?_⟩, fun q => absurd q one0⟩))⟩
      rw [nI_c (by omega)]
      exact ⟨fun q => absurd ((m1 i hi).1 hI) q, fun _ => hZ _ _ J⟩
    | some w =>
      obtain ⟨B, z⟩ := w
      obtain ⟨k1, k2, k3, k4, k5⟩ := (c1 i hi).2 B z hI
      obtain ⟨n1, n2, n3, n4, n5⟩ := (m1 i hi).2 B z hI
      refine ⟨fun _ => s_X5_showImage _ σ τ ?_, fun q => absurd q (by rw [k1]; decide)⟩
      rw [nI_c (by omega)]
      refine ⟨vp_in_t hi (by decide), S_become (Or.inl rfl) (isSc_im hi) (by omega) hC.1.1 k3 (fun σ2 hs hf => ⟨vp_in_t hi (by decide), s_X5_forgetUndone _ τ ?_⟩)⟩
      have e26 : σ2 26 i = nI z := by rw [hf 26 (by omega)]; exact k5
      rw [e26]
      generalize hs3 : st2 (st2 (st2 σ2 22 0 (nI z)) 23 4 0) 23 5 0 = σ3
      have g : ∀ c, c ≠ 22 → c ≠ 23 → σ3 c = σ2 c := fun c a1 a2 => by rw [← hs3, st2_cell _ _ a2, st2_cell _ _ a2, st2_cell _ _ a1]
      have f : ∀ c, c ≠ 22 → c ≠ 23 → (c < 14 ∨ 18 < c) → σ3 c = σ c := fun c a1 a2 a4 => (g c a1 a2).trans (hf c (by omega))
      have C1 : CI σ3 p B (0, U.2) (X.1, z, X.2.2) := by
        exact ⟨hC.1.of k2 (hs.same (fun c a1 a2 => g c (by omega) (by omega))) (fun c a1 a2 => f c (by omega) (by omega) (by omega)), CU_0 (by rw [← hs3, st2_slot _ _ (by decide), st2_same]) (by rw [← hs3, st2_same]), c1.cong (f 26 (by omega) (by omega) (by omega)) (f 27 (by omega) (by omega) (by omega)) (fun c a1 a2 => f c (by omega) (by omega) (by omega)), ⟨k4, by rw [← hs3, st2_cell _ _ (by decide), st2_cell _ _ (by decide), st2_same]⟩, c3.cong (by rw [f 120 (by omega) (by omega) (by omega)]) (by rw [f 120 (by omega) (by omega) (by omega)]) (by rw [f 120 (by omega) (by omega) (by omega)]), c4.cong (by rw [f 122 (by omega) (by omega) (by omega)]) (f 123 (by omega) (by omega) (by omega)) (f 124 (by omega) (by omega) (by omega)), c5.cong (by rw [f 1 (by omega) (by omega) (by omega)]) (f 2 (by omega) (by omega) (by omega)), by rw [f 0 (by omega) (by omega) (by omega)]; exact c6⟩
      have fu : ∀ c, 125 ≤ c → σ3 c = σ c := fun c a => f c (by omega) (by omega) (by omega)
      have M1 := hM.cong fu
      refine h _ _ _ (fun Z hZ => s_X12_goBack _ σ3 τ (M_inY (n := 1) (by omega) (by decide) ⟨fun _ => ⟨vp_in_t hi (by decide), ?_⟩, fun q => absurd q one0⟩))
      rw [nI_c (by omega), fu 141 (by decide), n1, n5]
      refine ⟨fun _ => ⟨vp_in_t hi (by decide), ?_⟩, fun q => absurd q one0⟩
      obtain ⟨m1, m2, m3, m4, m5, m6⟩ := id M1.2.2
      obtain ⟨hk, a, ha, e1, e2, e3⟩ := id M1.2.1
      generalize hs4 : st2 σ3 125 21 0 = σ4
      have r142 : ∀ q, σ4 142 q = σ 142 q := fun q => by rw [← hs4, st2_cell _ _ (by decide), fu 142 (by decide)]
      have key := lp_up (P := fun k => ∀ σ', (∀ c, c ≠ 133 → σ' c = σ4 c) → (∀ j, j < k → σ' 133 j = σ 142 (26 * i + j)) → AI l D b M_X12_goBack 1 G0 Z 41 [(0, .ref (b + 125)), (1, .int (nI i)), (2, .int (nI k))] [] G0 σ' (st2 τ 125 24 (lN z))) (n := 26) ?_ ?_ 0 (Nat.zero_le _)
      · exact key σ4 (fun _ _ => rfl) (fun i hi => by omega)
      · intro k hk2 ih σ' g1 g2
        refine w_X12_goBack_41 _ _ σ' _ ⟨fun c => ?_, fun c => ?_⟩
        · rw [show (26 : Int32) = nI 26 from rfl, nI_leI (by omega) (by omega)] at c; omega
        · rw [show (26 : Int32) = nI 26 from rfl, pk_mul, nI_add, nI_c (by omega), nI_c (by omega), nI_1]
          refine ⟨vp_in_t (by omega) (by decide), vp_in_t hk2 (by decide), ih _ (fun c hc => (st2_cell _ _ hc).trans (g1 c hc)) (fun j hj => ?_)⟩
          by_cases ei : j = k
          · subst ei
            rw [st2_same, g1 142 (by decide), r142]
          · rw [st2_slot _ _ ei]
            exact g2 j (by omega)
      · intro σ' g1 g2
        refine w_X12_goBack_41 _ _ σ' _ ⟨fun c => ?_, fun c => absurd (nI_le (Nat.le_refl 26) (by decide)) c⟩
        have f2 : ∀ c, c ≠ 125 → c ≠ 133 → σ' c = σ3 c := fun c a1 a2 => (g1 c a2).trans (by rw [← hs4, st2_cell _ _ a1])
        have fj : ∀ j, j ≠ 21 → σ' 125 j = σ3 125 j := fun j a1 => by rw [g1 125 (by decide), ← hs4, st2_slot _ _ a1]
        refine hZ _ _ ⟨p, B, (0, U.2), (X.1, z, X.2.2), C1.cong (fun c a => f2 c (by omega) (by omega)), ⟨hM.1.1, k2, M1.1.2.2.1.cong (fun j a1 a2 => fj j (by omega)) (f2 131 (by omega) (by omega)) (f2 132 (by omega) (by omega)), ?_⟩, MU_0 ha ((fj 22 (by decide)).trans e1) (by rw [g1 125 (by decide), ← hs4, st2_same]), m1.cong hM.1.1 (f2 141 (by omega) (by omega)) (f2 142 (by omega) (by omega)) (st2_cell _ _ (by decide)), ⟨k4, st2_same _ _ _ _⟩, m3.cong (fj 26 (by decide)) (f2 136 (by omega) (by omega)) (f2 137 (by omega) (by omega)), m4.cong (fj 30 (by decide)) (f2 139 (by omega) (by omega)) (f2 140 (by omega) (by omega)), m5.cong (fj 0 (by decide)) (f2 126 (by omega) (by omega)), (fj 5 (by decide)).trans m6⟩
        exact n3.copy (fun j hj => by rw [Nat.zero_add]; exact g2 j hj) hM.1.1
end IMAGES
