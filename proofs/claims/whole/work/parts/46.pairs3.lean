/-! PAIRS OF CALLS: bumps, the book, images, a mild winter. -/
theorem CI.putB {σ σ' : zSg} {p : Pl} {A : Sc} {U : Un} {X : Xt} {B : Bm} (h : CI σ p A U X) (f : ∀ c, c < 125 → c ≠ 120 → σ' c = σ c) (hB : CB σ' B) : CI σ' p A U (X.1, X.2.1, B, X.2.2.2) := by
  obtain ⟨c1, c2, c3, c4, c5, c6⟩ := h.2.2
  have g : ∀ c, c < 120 ∨ 120 < c ∧ c < 125 → σ' c = σ c := fun c hc => f c (by omega) (by omega)
  exact ⟨h.1.cong (fun c a1 a2 => g c (by omega)), h.2.1.cong (g 23 (by decide)) (fun c a1 a2 => g c (by omega)), c1.cong (g 26 (by decide)) (g 27 (by decide)) (fun c a1 a2 => g c (by omega)), ⟨c2.1, by rw [g 22 (by decide)]; exact c2.2⟩, hB, c4.cong (by rw [g 122 (by decide)]) (g 123 (by decide)) (g 124 (by decide)), c5.cong (by rw [g 1 (by decide)]) (g 2 (by decide)), by rw [g 0 (by decide)]; exact c6⟩
theorem CI.putK {σ σ' : zSg} {p : Pl} {A : Sc} {U : Un} {X : Xt} {K : Bk} (h : CI σ p A U X) (f : ∀ c, c < 122 → σ' c = σ c) (hK : CK σ' p K) : CI σ' p A U (X.1, X.2.1, X.2.2.1, K, X.2.2.2.2) := by
  obtain ⟨c1, c2, c3, c4, c5, c6⟩ := h.2.2
  exact ⟨h.1.cong (fun c a1 a2 => f c (by omega)), h.2.1.cong (f 23 (by decide)) (fun c a1 a2 => f c (by omega)), c1.cong (f 26 (by decide)) (f 27 (by decide)) (fun c a1 a2 => f c (by omega)), ⟨c2.1, by rw [f 22 (by decide)]; exact c2.2⟩, c3.cong (by rw [f 120 (by decide)]) (by rw [f 120 (by decide)]) (by rw [f 120 (by decide)]), hK, c5.cong (by rw [f 1 (by decide)]) (f 2 (by decide)), by rw [f 0 (by decide)]; exact c6⟩
theorem MI.putB {σ σ' : zSg} {τ : zLm} {p : Pl} {A : Sc} {U : Un} {X : Xt} {B : Bm} (h : MI σ τ p A U X) (fj : ∀ j, j ≠ 26 → σ' 125 j = σ 125 j) (f : ∀ c, 125 < c → c ≠ 136 → c ≠ 137 → σ' c = σ c) (hB : MB σ' B) : MI σ' τ p A U (X.1, X.2.1, B, X.2.2.2) := by
  obtain ⟨c1, c2, c3, c4, c5, c6⟩ := h.2.2
  have g : ∀ c, 125 < c ∧ (c < 136 ∨ 137 < c) → σ' c = σ c := fun c hc => f c (by omega) (by omega) (by omega)
  exact ⟨h.1.cong (fun j a1 a2 => fj j (by omega)) (g 131 (by decide)) (g 132 (by decide)) (g 133 (by decide)), h.2.1.cong h.1.1 (fun j a1 a2 => fj j (by omega)) (g 134 (by decide)), c1.cong h.1.1 (g 141 (by decide)) (g 142 (by decide)) rfl, c2, hB, c4.cong (fj 30 (by decide)) (g 139 (by decide)) (g 140 (by decide)), c5.cong (fj 0 (by decide)) (g 126 (by decide)), (fj 5 (by decide)).trans c6⟩
theorem MI.putK {σ σ' : zSg} {τ : zLm} {p : Pl} {A : Sc} {U : Un} {X : Xt} {K : Bk} (h : MI σ τ p A U X) (fj : ∀ j, j ≠ 30 → σ' 125 j = σ 125 j) (f : ∀ c, 125 < c → c ≠ 139 → c ≠ 140 → σ' c = σ c) (hK : MK σ' p K) : MI σ' τ p A U (X.1, X.2.1, X.2.2.1, K, X.2.2.2.2) := by
  obtain ⟨c1, c2, c3, c4, c5, c6⟩ := h.2.2
  have g : ∀ c, 125 < c ∧ (c < 139 ∨ 140 < c) → σ' c = σ c := fun c hc => f c (by omega) (by omega) (by omega)
  exact ⟨h.1.cong (fun j a1 a2 => fj j (by omega)) (g 131 (by decide)) (g 132 (by decide)) (g 133 (by decide)), h.2.1.cong h.1.1 (fun j a1 a2 => fj j (by omega)) (g 134 (by decide)), c1.cong h.1.1 (g 141 (by decide)) (g 142 (by decide)) rfl, c2, c3.cong (fj 26 (by decide)) (g 136 (by decide)) (g 137 (by decide)), hK, c5.cong (fj 0 (by decide)) (g 126 (by decide)), (fj 5 (by decide)).trans c6⟩
theorem bsT_cong {B B' : Bm} {v : Bool} : ∀ {k : Nat}, (∀ i, i < k → B.2.1 i = B'.2.1 i ∧ B.2.2 i = B'.2.2 i) → bsT B v k = bsT B' v k
  | 0, _ => rfl
  | k + 1, h => by rw [bsT, bsT, bsT_cong (fun i hi => h i (by omega)), (h k (by omega)).1, (h k (by omega)).2]
def addB (B : Bm) (k : Nat) (v : Bool) : Bm := (B.1 + 1, va_up B.2.1 B.1 k, va_up B.2.2 B.1 v)
theorem bsT_add (B : Bm) (k : Nat) (v w : Bool) : bsT (addB B k v) w (B.1 + 1) = bsT B w B.1 ||| (if v = w then 2 ^ k else 0) := by
  rw [bsT, bsT_cong (B' := B)]
  · unfold addB va_up
    simp
  · intro i hi
    unfold addB va_up
    simp [show ¬ i = B.1 by omega]
theorem okB_add {B : Bm} {k : Nat} {v : Bool} (h : okBm B) (h6 : B.1 < 6) (hk : k < 25) : okBm (addB B k v) := by
  refine ⟨by show B.1 + 1 ≤ 6; omega, fun i hi => ?_⟩
  have hi : i < B.1 + 1 := hi
  show va_up B.2.1 B.1 k i < 25
  unfold va_up
  split
  · exact hk
  · exact h.2 i (by omega)
def addK (K : Bk) (t y : Nat) : Bk := (K.1 + 1, va_up K.2.1 K.1 t, va_up K.2.2 K.1 y)
theorem okK_add {p : Pl} {K : Bk} {t y : Nat} (h : okK p K) (h6 : K.1 < 15) (ht : t < pm p) (hy : y ≤ 200) : okK p (addK K t y) := by
  refine ⟨by show K.1 + 1 ≤ 15; omega, fun i hi => ?_⟩
  have hi : i < K.1 + 1 := hi
  show va_up K.2.1 K.1 t i < pm p ∧ va_up K.2.2 K.1 y i ≤ 200
  unfold va_up
  split
  · exact ⟨ht, hy⟩
  · exact h.2 i (by omega)
theorem okBm_0 : okBm (0, fun _ => 0, fun _ => false) := ⟨by decide, fun k hk => absurd hk (Nat.not_lt_zero k)⟩
theorem okK_0 (p : Pl) : okK p (0, fun _ => 0, fun _ => 0) := ⟨by show 0 ≤ 15; decide, fun k hk => absurd hk (Nat.not_lt_zero k)⟩
section PAIRS3
variable {l : Launch} {D : zDD} {b : Nat} {γ : zGm} {σ : zSg} {τ : zLm} {p : Pl} {A : Sc} {U : Un} {X : Xt} {Q : Int32 → zSg → zLm → Prop} {G : zSg → zLm → Prop}
theorem P_bump (J : Iv σ τ) (x y : Int32) (hy : y = 0 ∨ y = 1) (h : ∀ r σ1 τ1, (∀ Z : Int32 → zSg → zLm → Prop, (∀ σ2 τ2, Iv σ2 τ2 → Z r σ2 τ2) → SI l D b M_X12_bump 1 G0 [.ref (b + 125), .int x, .int y] σ1 τ1 Z) → Q r σ1 τ1) : SI l D b M_X11_bump 1 G0 [.ref (b + 0), .int x, .int y] σ τ Q := by
  obtain ⟨p, A, U, X, hC, hM⟩ := id J
  have out : (x < 0 ∨ nI 25 ≤ x) → SI l D b M_X11_bump 1 G0 [.ref (b + 0), .int x, .int y] σ τ Q := by
    intro hx
    have fin : Q (-1000000002) σ τ := h _ _ _ (fun Z hZ => s_X12_bump _ _ σ τ (M_inN (n := 24) (by decide) hx ⟨fun q => absurd rfl q, fun _ => hZ _ _ J⟩))
    refine s_X11_bump _ _ σ τ ⟨fun _ => fin, fun c1 => ⟨fun c2 => ?_, fun _ => fin⟩⟩
    rcases hx with hx | hx
    · exact absurd hx c1
    · exact absurd c2 (Int32.not_lt.mpr hx)
  rcases pk_ix x (n := 25) (by decide) with hx | hx | ⟨k, hk, rfl⟩
  · exact out (Or.inl hx)
  · exact out (Or.inr hx)
  · obtain ⟨oB, b0, b1, b2⟩ := id hC.2.2.2.2.1
    obtain ⟨-, m0, m1⟩ := id hM.2.2.2.2.1
    generalize hB : X.2.2.1 = B at *
    have h6 := oB.1
    refine s_X11_bump _ _ σ τ ⟨fun q => absurd q (nI_pos (by omega)), fun _ => ⟨fun _ => ?_, fun q => absurd (nI_lt (b := 25) hk (by decide)) q⟩⟩
    rw [b0, show (6 : Int32) = nI 6 from rfl, nI_ltI (by omega) (by omega)]
    refine ⟨fun c => ?_, fun c => h _ _ _ (fun Z hZ => s_X12_bump _ _ σ τ (M_inY (n := 24) (by omega) (by decide) ⟨fun _ => ⟨fun q => ?_, fun _ => hZ _ _ J⟩, fun q => absurd q one0⟩))⟩
    · have fin : ∀ v : Bool, y = bI v → ∀ σ1 : zSg, (∀ c, c ≠ 120 → σ1 c = σ c) → CB σ1 (addB B k v) → Q (σ1 120 0) σ1 τ := by
        intro v hv σ1 f1 hB1
        refine h _ _ _ (fun Z hZ => s_X12_bump _ _ σ1 τ (M_inY (n := 24) (by omega) (by decide) ⟨fun _ => ?_, fun q => absurd q one0⟩))
        rw [f1 125 (by decide), m0, nI_c (by omega), st2_cell (c := 136) (q := 125) _ _ (by decide), f1 125 (by decide), m0, nI_c (by omega), show (6 : Int32) = nI 6 from rfl, nI_eq (by omega) (by omega)]
        refine ⟨fun _ => ⟨vp_in_t c (by decide), vp_in_t c (by decide), fun σ4 es => ?_⟩, fun q => by omega⟩
        have e4 : σ4 125 26 = nI B.1 := by rw [es, st2_cell _ _ (by decide), st2_cell _ _ (by decide), f1 125 (by decide)]; exact m0
        rw [e4, nI_1, st2_same]
        have r : σ1 120 0 = nI (B.1 + 1) := hB1.2.1
        rw [r] at hZ
        have ft : ∀ c, c ≠ 125 → c ≠ 136 → c ≠ 137 → st2 σ4 125 26 (nI (B.1 + 1)) c = σ1 c := fun c a1 a2 a3 => by rw [st2_cell _ _ a1, es, st2_cell _ _ a3, st2_cell _ _ a2]
        have C1 : CI σ1 p A U (X.1, X.2.1, addB B k v, X.2.2.2) := hC.putB (fun c _ a => f1 c a) hB1
        refine hZ _ _ ⟨p, A, U, (X.1, X.2.1, addB B k v, X.2.2.2), C1.cong (fun c a => ft c (by omega) (by omega) (by omega)), hM.putB (fun j a => ?_) (fun c a1 a2 a3 => (ft c (by omega) a2 a3).trans (f1 c (by omega))) ⟨hB1.1, st2_same _ _ _ _, fun i hi => ?_⟩⟩
        · rw [st2_slot _ _ a, es, st2_cell _ _ (by decide), st2_cell _ _ (by decide), f1 125 (by decide)]
        · have hi : i < B.1 + 1 := hi
          rw [st2_cell _ _ (by decide), st2_cell _ _ (by decide), es]
          have e136 : st2 (st2 σ1 136 B.1 (nI k)) 137 B.1 (vp_nar .boolean y) 136 i = nI ((addB B k v).2.1 i) := by
            rw [st2_cell _ _ (by decide), st2_row]
            exact up_nI (fun q => by rw [f1 136 (by decide)]; exact (m1 i (by omega)).1)
          have e137 : st2 (st2 σ1 136 B.1 (nI k)) 137 B.1 (vp_nar .boolean y) 137 i = bI ((addB B k v).2.2 i) := by
            show _ = bI (va_up B.2.2 B.1 v i)
            rw [st2_row, st2_cell _ _ (by decide), f1 137 (by decide), hv]
            unfold va_up
            split
            · cases v
              · exact nar0
              · exact nar1
            · exact (m1 i (by omega)).2
          exact ⟨e136, e137⟩
      refine s_X1_add _ _ σ τ ⟨fun e => ?_, fun e => ?_⟩
      · intro σ2 es
        rw [st2_slot _ _ (by decide), b0, nI_1, b2, nI_sh (by omega), fa_or] at es
        refine fin false (e.trans rfl) σ2 (fun c a => by rw [es, st2_cell _ _ a, st2_cell _ _ a]) ⟨okB_add oB c hk, by rw [es, st2_same]; rfl, ?_, ?_⟩
        · rw [es, st2_slot _ _ (by decide), st2_slot _ _ (by decide), b1]
          show _ = nI (bsT (addB B k false) true (B.1 + 1))
          rw [bsT_add]; simp
        · rw [es, st2_slot _ _ (by decide), st2_same]
          show _ = nI (bsT (addB B k false) false (B.1 + 1))
          rw [bsT_add]; simp
      · intro σ2 es
        have e1 : y = 1 := by rcases hy with q | q; exact absurd q e; exact q
        rw [st2_slot _ _ (by decide), b0, nI_1, b1, nI_sh (by omega), fa_or] at es
        refine fin true (e1.trans rfl) σ2 (fun c a => by rw [es, st2_cell _ _ a, st2_cell _ _ a]) ⟨okB_add oB c hk, by rw [es, st2_same]; rfl, ?_, ?_⟩
        · rw [es, st2_slot _ _ (by decide), st2_same]
          show _ = nI (bsT (addB B k true) true (B.1 + 1))
          rw [bsT_add]; simp
        · rw [es, st2_slot _ _ (by decide), st2_slot _ _ (by decide), b2]
          show _ = nI (bsT (addB B k true) false (B.1 + 1))
          rw [bsT_add]; simp
    · rw [m0, show (6 : Int32) = nI 6 from rfl, nI_eq (by omega) (by omega)] at q; omega
theorem P_write (J : Iv σ τ) (x y : Int32) (h : ∀ r σ1 τ1, (∀ Z : Int32 → zSg → zLm → Prop, (∀ σ2 τ2, Iv σ2 τ2 → Z r σ2 τ2) → SI l D b M_X12_write 2 G0 [.ref (b + 125), .int x, .int y] σ1 τ1 Z) → Q r σ1 τ1) : SI l D b M_X11_write 1 G0 [.ref (b + 0), .int x, .int y] σ τ Q := by
  obtain ⟨p, A, U, X, hC, hM⟩ := id J
  rcases tro p hC.1.1 x with ⟨t, ht, rfl⟩ | hx
  · have out : (y < 0 ∨ nI 201 ≤ y) → SI l D b M_X11_write 1 G0 [.ref (b + 0), .int (nI t), .int y] σ τ Q := by
      intro hy
      have fin : Q (-1000000002) σ τ := h _ _ _ (fun Z hZ => s_X12_write _ _ σ τ (M_tro hM.1 ht ⟨fun _ => M_inN (n := 200) (by decide) hy ⟨fun q => absurd rfl q, fun _ => hZ _ _ J⟩, fun q => absurd q one0⟩))
      refine s_X11_write _ _ σ τ (S_tro hC.1 ht ⟨fun _ => ⟨fun _ => fin, fun c1 => ⟨fun c2 => ?_, fun _ => fin⟩⟩, fun q => absurd q one0⟩)
      rcases hy with hy | hy
      · exact absurd hy c1
      · have hy : (201 : Int32) ≤ y := hy
        rw [fa_le] at hy c2
        have e1 : (201 : Int32).toInt = 201 := rfl
        have e2 : (200 : Int32).toInt = 200 := rfl
        omega
    rcases pk_ix y (n := 201) (by decide) with hy | hy | ⟨k, hk, rfl⟩
    · exact out (Or.inl hy)
    · exact out (Or.inr hy)
    · obtain ⟨oK, b0, b1⟩ := id hC.2.2.2.2.2.1
      obtain ⟨-, m0, m1⟩ := id hM.2.2.2.2.2.1
      generalize hB : X.2.2.2.1 = K at *
      have h6 := oK.1
      refine s_X11_write _ _ σ τ (S_tro hC.1 ht ⟨fun _ => ⟨fun q => absurd q (nI_pos (by omega)), fun _ => ⟨fun _ => ?_, fun q => absurd (nI_le (b := 200) (by omega) (by decide)) q⟩⟩, fun q => absurd q one0⟩)
      rw [b0, show (15 : Int32) = nI 15 from rfl, nI_ltI (by omega) (by omega)]
      refine ⟨fun c => s_X0_add _ _ σ τ ?_, fun c => h _ _ _ (fun Z hZ => s_X12_write _ _ σ τ (M_tro hM.1 ht ⟨fun _ => M_inY (n := 200) (by omega) (by decide) ⟨fun _ => ⟨fun q => ?_, fun _ => hZ _ _ J⟩, fun q => absurd q one0⟩, fun q => absurd q one0⟩))⟩
      · rw [b0, nI_c (by omega), st2_cell (c := 123) (q := 122) _ _ (by decide), b0, nI_c (by omega), show (15 : Int32) = nI 15 from rfl, nI_leI (by omega) (by omega)]
        refine ⟨fun q => by omega, fun _ => ⟨vp_in_t c (by decide), vp_in_t c (by decide), fun σ2 es => ?_⟩⟩
        have e2 : σ2 122 0 = nI K.1 := by rw [es, st2_cell _ _ (by decide), st2_cell _ _ (by decide)]; exact b0
        rw [e2, nI_1, st2_same]
        generalize hs : st2 σ2 122 0 (nI (K.1 + 1)) = σ1
        have f1 : ∀ c, c ≠ 122 → c ≠ 123 → c ≠ 124 → σ1 c = σ c := fun c a1 a2 a3 => by rw [← hs, st2_cell _ _ a1, es, st2_cell _ _ a3, st2_cell _ _ a2]
        have C1 : CI σ1 p A U (X.1, X.2.1, X.2.2.1, addK K t k, X.2.2.2.2) := by
          refine hC.putK (fun c a => f1 c (by omega) (by omega) (by omega)) ⟨okK_add oK c ht (by omega), by rw [← hs, st2_same]; rfl, fun i hi => ?_⟩
          have hi : i < K.1 + 1 := hi
          rw [← hs, st2_cell _ _ (by decide), st2_cell _ _ (by decide), es]
          refine ⟨?_, ?_⟩
          · rw [st2_cell _ _ (by decide), st2_row]
            exact up_nI (fun q => (b1 i (by omega)).1)
          · rw [st2_row, st2_cell _ _ (by decide)]
            exact up_nI (fun q => (b1 i (by omega)).2)
        have M1 := hM.cong (σ' := σ1) (fun c a => f1 c (by omega) (by omega) (by omega))
        refine h _ _ _ (fun Z hZ => s_X12_write _ _ σ1 τ (M_tro M1.1 ht ⟨fun _ => M_inY (n := 200) (by omega) (by decide) ⟨fun _ => ?_, fun q => absurd q one0⟩, fun q => absurd q one0⟩))
        rw [f1 125 (by decide) (by decide) (by decide), m0, nI_c (by omega), st2_cell (c := 139) (q := 125) _ _ (by decide), f1 125 (by decide) (by decide) (by decide), m0, nI_c (by omega), show (15 : Int32) = nI 15 from rfl, nI_eq (by omega) (by omega)]
        refine ⟨fun _ => ⟨vp_in_t c (by decide), vp_in_t c (by decide), fun σ4 es => ?_⟩, fun q => by omega⟩
        have e4 : σ4 125 30 = nI K.1 := by rw [es, st2_cell _ _ (by decide), st2_cell _ _ (by decide), f1 125 (by decide) (by decide) (by decide)]; exact m0
        rw [e4, nI_1, st2_same]
        have ft : ∀ c, c ≠ 125 → c ≠ 139 → c ≠ 140 → st2 σ4 125 30 (nI (K.1 + 1)) c = σ1 c := fun c a1 a2 a3 => by rw [st2_cell _ _ a1, es, st2_cell _ _ a3, st2_cell _ _ a2]
        refine hZ _ _ ⟨p, A, U, (X.1, X.2.1, X.2.2.1, addK K t k, X.2.2.2.2), C1.cong (fun c a => ft c (by omega) (by omega) (by omega)), M1.putK (fun j a => ?_) (fun c a1 a2 a3 => (ft c (by omega) a2 a3)) ⟨C1.2.2.2.2.2.1.1, st2_same _ _ _ _, fun i hi => ?_⟩⟩
        · rw [st2_slot _ _ a, es, st2_cell _ _ (by decide), st2_cell _ _ (by decide)]
        · have hi : i < K.1 + 1 := hi
          rw [st2_cell _ _ (by decide), st2_cell _ _ (by decide), es]
          refine ⟨?_, ?_⟩
          · rw [st2_cell _ _ (by decide), st2_row]
            exact up_nI (fun q => by rw [f1 139 (by decide) (by decide) (by decide)]; exact (m1 i (by omega)).1)
          · rw [st2_row, st2_cell _ _ (by decide), f1 140 (by decide) (by decide) (by decide)]
            exact up_nI (fun q => (m1 i (by omega)).2)
      · rw [m0, show (15 : Int32) = nI 15 from rfl, nI_eq (by omega) (by omega)] at q; omega
  · exact s_X11_write _ _ σ τ (S_ntro hC.1 hx ⟨fun q => absurd rfl q, fun _ => h _ _ _ (fun Z hZ => s_X12_write _ _ σ τ (M_ntro hM.1 hx ⟨fun q => absurd rfl q, fun _ => hZ _ _ J⟩))⟩)
theorem P_tear (J : Iv σ τ) (h : ∀ r σ1 τ1, (∀ Z : Int32 → zSg → zLm → Prop, (∀ σ2 τ2, Iv σ2 τ2 → Z r σ2 τ2) → SI l D b M_X12_tear 0 G0 [.ref (b + 125)] σ1 τ1 Z) → Q r σ1 τ1) : SI l D b M_X11_tear 1 G0 [.ref (b + 0)] σ τ Q := by
  obtain ⟨p, A, U, X, hC, hM⟩ := id J
  refine s_X11_tear σ τ (s_X1_clear σ τ (s_X0_clear _ τ (h _ _ _ (fun Z hZ => s_X12_tear _ τ ?_))))
  rw [hC.2.2.2.2.1.2.1, hC.2.2.2.2.2.1.2.1] at hZ
  generalize hs : st2 (st2 (st2 (st2 σ 120 0 0) 120 1 0) 120 2 0) 122 0 0 = σ1
  have f1 : ∀ c, c ≠ 120 → c ≠ 122 → σ1 c = σ c := fun c a1 a2 => by rw [← hs, st2_cell _ _ a2, st2_cell _ _ a1, st2_cell _ _ a1, st2_cell _ _ a1]
  have M1 := hM.cong (σ' := σ1) (fun c a => f1 c (by omega) (by omega))
  rw [M1.2.2.2.2.1.2.1, M1.2.2.2.2.2.1.2.1]
  have C0 : CI (st2 (st2 (st2 σ 120 0 0) 120 1 0) 120 2 0) p A U (X.1, X.2.1, (0, fun _ => 0, fun _ => false), X.2.2.2) := by
    refine hC.putB (fun c _ a => by rw [st2_cell _ _ a, st2_cell _ _ a, st2_cell _ _ a]) ⟨okBm_0, ?_, ?_, ?_⟩
    · rw [st2_slot _ _ (by decide), st2_slot _ _ (by decide), st2_same]; rfl
    · rw [st2_slot _ _ (by decide), st2_same]; rfl
    · rw [st2_same]; rfl
  have C1 : CI σ1 p A U (X.1, X.2.1, (0, fun _ => 0, fun _ => false), (0, fun _ => 0, fun _ => 0), X.2.2.2.2) := by
    rw [← hs]
    exact C0.putK (fun c a => st2_cell _ _ (by omega)) ⟨okK_0 p, by rw [st2_same]; rfl, fun k hk => absurd hk (Nat.not_lt_zero k)⟩
  refine hZ _ _ ⟨p, A, U, _, C1.cong (fun c a => by rw [st2_cell _ _ (by omega), st2_cell _ _ (by omega)]), ?_⟩
  have M2 : MI (st2 σ1 125 26 0) τ p A U (X.1, X.2.1, (0, fun _ => 0, fun _ => false), X.2.2.2) := M1.putB (fun j a => st2_slot _ _ a) (fun c a1 a2 a3 => st2_cell _ _ (by omega)) ⟨okBm_0, by rw [st2_same]; rfl, fun k hk => absurd hk (Nat.not_lt_zero k)⟩
  exact M2.putK (fun j a => st2_slot _ _ a) (fun c a1 a2 a3 => st2_cell _ _ (by omega)) ⟨okK_0 p, by rw [st2_same]; rfl, fun k hk => absurd hk (Nat.not_lt_zero k)⟩
theorem P_judge (J : Iv σ τ) (h : ∀ r σ1 τ1, (∀ Z : Int32 → zSg → zLm → Prop, (∀ σ2 τ2, Iv σ2 τ2 → Z r σ2 τ2) → SI l D b M_X12_judge 0 G0 [.ref (b + 125)] σ1 τ1 Z) → Q r σ1 τ1) : SI l D b M_X11_judge 1 G0 [.ref (b + 0)] σ τ Q := by
  obtain ⟨p, A, U, X, hC, hM⟩ := id J
  obtain ⟨oK, b0, b1⟩ := id hC.2.2.2.2.2.1
  obtain ⟨-, m0, m1⟩ := id hM.2.2.2.2.2.1
  generalize hB : X.2.2.2.1 = K at *
  have h6 := oK.1
  have hm := hC.1.1.2.2.1
  refine s_X11_judge σ τ (s_X0_firstWrong σ τ ?_)
  suffices H : ∀ k, k ≤ K.1 → (∀ Q : Int32 → zSg → zLm → Prop, (∀ r, (∀ Z : Int32 → zSg → zLm → Prop, Z r σ τ → AI l D b M_X12_judge 0 G0 Z 2 [(0, .ref (b + 125)), (1, .int (nI k))] [] G0 σ τ) → Q r σ τ) → AI l D b M_X0_firstWrong 0 G0 Q 2 [(0, .ref (b + 122)), (1, .ref (b + 14)), (2, .int (nI k))] [] G0 σ τ) by
    exact H 0 (Nat.zero_le _) _ (fun r hr => h _ _ _ (fun Z hZ => s_X12_judge σ τ (hr Z (hZ _ _ J))))
  refine lp_up (P := fun k => ∀ Q : Int32 → zSg → zLm → Prop, (∀ r, (∀ Z : Int32 → zSg → zLm → Prop, Z r σ τ → AI l D b M_X12_judge 0 G0 Z 2 [(0, .ref (b + 125)), (1, .int (nI k))] [] G0 σ τ) → Q r σ τ) → AI l D b M_X0_firstWrong 0 G0 Q 2 [(0, .ref (b + 122)), (1, .ref (b + 14)), (2, .int (nI k))] [] G0 σ τ) ?_ ?_
  · intro k hk ih Q' hQ
    obtain ⟨i1, i2⟩ := oK.2 k hk
    obtain ⟨k1, k2⟩ := b1 k hk
    obtain ⟨n1, n2⟩ := m1 k hk
    obtain ⟨s1, s2⟩ := RC_hd hC.1 i1
    obtain ⟨t1, t2⟩ := RM_hd hM.1 i1
    have mod : ∀ Z : Int32 → zSg → zLm → Prop, ((hdS A (K.2.1 k) = K.2.2 k → AI l D b M_X12_judge 0 G0 Z 2 [(0, .ref (b + 125)), (1, .int (nI (k + 1)))] [] G0 σ τ) ∧ (¬ hdS A (K.2.1 k) = K.2.2 k → Z (nI k) σ τ)) → AI l D b M_X12_judge 0 G0 Z 2 [(0, .ref (b + 125)), (1, .int (nI k))] [] G0 σ τ := by
      intro Z hz
      refine w_X12_judge_2 _ σ τ ?_
      rw [m0, nI_leI (by omega) (by omega), nI_c (by omega), n1, n2, nI_p2, nI_c (by omega), t1, nI_eq (by omega) (by omega), nI_1]
      exact ⟨fun q => by omega, fun _ => ⟨vp_in_t (by omega) (by decide), vp_in_t (by omega) (by decide), vp_in_t (by omega) (by decide), hz⟩⟩
    refine w_X0_firstWrong_2 _ σ τ ?_
    rw [b0, nI_leI (by omega) (by omega), nI_c (by omega), k1, k2, nI_c (by omega), s1, nI_eq (by omega) (by omega), nI_1]
    refine ⟨fun q => by omega, fun _ => ⟨vp_in_t (by omega) (by decide), vp_in_t (by omega) (by decide), vp_in_t (by omega) (by decide), fun c => ?_, fun c => ?_⟩⟩
    · exact ih Q' (fun r hr => hQ r (fun Z hZ => mod Z ⟨fun _ => hr Z hZ, fun q => absurd c q⟩))
    · exact hQ _ (fun Z hZ => mod Z ⟨fun q => absurd q c, fun _ => hZ⟩)
  · intro Q' hQ
    refine w_X0_firstWrong_2 _ σ τ ?_
    rw [b0, nI_leI (by omega) (by omega)]
    refine ⟨fun _ => hQ _ (fun Z hZ => w_X12_judge_2 _ σ τ ?_), fun q => absurd (Nat.le_refl _) q⟩
    rw [m0, nI_leI (by omega) (by omega)]
    exact ⟨fun _ => hZ, fun q => absurd (Nat.le_refl _) q⟩
theorem P_mild (J : Iv σ τ) (x y : Int32) (h : ∀ r σ1 τ1, (∀ Z : Int32 → zSg → zLm → Prop, (∀ σ2 τ2, Iv σ2 τ2 → Z r σ2 τ2) → SI l D b M_X12_mild 1 G0 [.ref (b + 125), .int x, .int y] σ1 τ1 Z) → Q r σ1 τ1) : SI l D b M_X11_mild 0 G0 [.ref (b + 0), .int x, .int y] σ τ Q := by
  obtain ⟨p, A, U, X, hC, hM⟩ := id J
  have refX : ¬ (0 ≤ x ∧ x ≤ 60) → Q (-1000000002) σ τ := fun q => h _ _ _ (fun Z hZ => s_X12_mild _ _ σ τ (M_in (fun a1 a2 => absurd ⟨a1, a2⟩ q) (fun _ => ⟨fun _ => hZ _ _ J, fun q => absurd rfl q⟩)))
  have refY : (0 ≤ x ∧ x ≤ 60) → ¬ (0 ≤ y ∧ y ≤ 100) → Q (-1000000002) σ τ := fun q q2 => h _ _ _ (fun Z hZ => s_X12_mild _ _ σ τ (M_in (fun a1 a2 => ⟨fun q => absurd q one0, fun _ => M_in (fun a1 a2 => absurd ⟨a1, a2⟩ q2) (fun _ => ⟨fun q => absurd rfl q, fun _ => hZ _ _ J⟩)⟩) (fun a => absurd q a)))
  refine s_X11_mild _ _ σ τ ⟨fun c => refX (fun q => absurd c (Int32.not_lt.mpr q.1)), fun c1 => ⟨fun c => refX (fun q => absurd c (Int32.not_lt.mpr q.2)), fun c2 => ⟨fun c => refY ⟨fa_of_nlt c1, fa_of_nlt c2⟩ (fun q => absurd c (Int32.not_lt.mpr q.1)), fun c3 => ⟨fun c => ?_, fun c => refY ⟨fa_of_nlt c1, fa_of_nlt c2⟩ (fun q => absurd q.2 c)⟩⟩⟩⟩
  have hx1 := fa_of_nlt c1
  have hx2 := fa_of_nlt c2
  have hy1 := fa_of_nlt c3
  obtain ⟨n, hn, rfl⟩ := nI_ge0 hx1
  suffices H : ∀ k, k ≤ n → ∀ z : Int64, (∀ Q : Int32 → zSg → zLm → Prop, (∀ r, (∀ Z : Int32 → zSg → zLm → Prop, Z r σ τ → AI l D b M_X12_mild 1 G0 Z 30 [(1, .int (nI n)), (2, .int y), (3, .long z), (5, .int (nI k))] [] G0 σ τ) → Q r σ τ) → AI l D b M_X11_mild 0 G0 Q 30 [(1, .int (nI n)), (2, .int y), (3, .long z), (5, .int (nI k))] [] G0 σ τ) by
    exact H 0 (Nat.zero_le _) _ _ (fun r hr => h _ _ _ (fun Z hZ => s_X12_mild _ _ σ τ (M_in (fun a1 a2 => ⟨fun q => absurd q one0, fun _ => M_in (fun _ _ => ⟨fun _ => hr Z (hZ _ _ J), fun q => absurd q one0⟩) (fun a => absurd ⟨hy1, c⟩ a)⟩) (fun a => absurd ⟨hx1, hx2⟩ a))))
  refine lp_up (P := fun k => ∀ z : Int64, (∀ Q : Int32 → zSg → zLm → Prop, (∀ r, (∀ Z : Int32 → zSg → zLm → Prop, Z r σ τ → AI l D b M_X12_mild 1 G0 Z 30 [(1, .int (nI n)), (2, .int y), (3, .long z), (5, .int (nI k))] [] G0 σ τ) → Q r σ τ) → AI l D b M_X11_mild 0 G0 Q 30 [(1, .int (nI n)), (2, .int y), (3, .long z), (5, .int (nI k))] [] G0 σ τ)) ?_ ?_
  · intro k hk ih z Q' hQ
    refine w_X11_mild_30 _ _ _ _ σ τ ⟨fun q => ?_, fun q => ?_⟩
    · rw [nI_leI (by omega) (by omega)] at q; omega
    · rw [nI_1]
      refine ih _ Q' (fun r hr => hQ r (fun Z hZ => w_X12_mild_30 _ _ _ _ σ τ ⟨fun q2 => absurd q2 q, fun _ => ?_⟩))
      rw [nI_1]
      exact hr Z hZ
  · intro z Q' hQ
    refine w_X11_mild_30 _ _ _ _ σ τ ⟨fun _ => hQ _ (fun Z hZ => w_X12_mild_30 _ _ _ _ σ τ ⟨fun _ => hZ, fun q => absurd (nI_le (Nat.le_refl _) hn) q⟩), fun q => absurd (nI_le (Nat.le_refl _) hn) q⟩
end PAIRS3
