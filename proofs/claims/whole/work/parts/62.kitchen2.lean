/-! THE KITCHEN told: both, and the pair. -/
def B00 : Bm := (0, fun _ => 0, fun _ => false)
def K00 : Bk := (0, fun _ => 0, fun _ => 0)
section KIT
variable {l : Launch} {D : zDD} {b : Nat} {γ : zGm} {σ : zSg} {τ : zLm} {p : Pl} {A : Sc} {U : Un} {X : Xt} {Q : Int32 → zSg → zLm → Prop} {G : zSg → zLm → Prop}
theorem C_kitchen (hC : CI σ p A U X) (hok : ∀ d σ', pK X.2.2.2.2.1 (X.2.2.2.2.1.1 + 1) d0 0 = .ok d → okD d → CI σ' d.1 (newA d) (0, U.2) (fun _ => none, X.2.1, B00, K00, (0, X.2.2.2.2.1.2), -1) → (∀ c, 125 ≤ c → σ' c = σ c) → Q (nI (pm d.1)) σ' τ) (hbad : ∀ q σ', pK X.2.2.2.2.1 (X.2.2.2.2.1.1 + 1) d0 0 = .error q → CI σ' p A U (X.1, X.2.1, X.2.2.1, X.2.2.2.1, (0, X.2.2.2.2.1.2), nI q.2) → (∀ c, 125 ≤ c → σ' c = σ c) → Q ((-10) - nI q.1) σ' τ) : SI l D b M_X11_kitchen 6 G0 [.ref (b + 0)] σ τ Q := by
  obtain ⟨c1, c2, c3, c4, ⟨oT, t1, t2⟩, c6⟩ := id hC.2.2
  generalize hT : X.2.2.2.2.1 = T at *
  refine s_X11_kitchen σ τ (s_X7_read σ τ (s_X6_clear _ τ ?_))
  generalize hs : st2 (st2 (st2 (st2 (st2 (st2 (st2 σ 1 3 0) 1 4 0) 1 2 (-1)) 3 0 0) 3 1 0) 3 2 0) 3 3 0 = σ0
  have f0 : ∀ c, c ≠ 1 → c ≠ 3 → σ0 c = σ c := fun c h1 h3 => by rw [← hs, st2_cell _ _ h3, st2_cell _ _ h3, st2_cell _ _ h3, st2_cell _ _ h3, st2_cell _ _ h1, st2_cell _ _ h1, st2_cell _ _ h1]
  have r1 : ∀ j, σ0 1 j = st2 (st2 (st2 σ 1 3 0) 1 4 0) 1 2 (-1) 1 j := fun j => by rw [← hs, st2_cell _ _ (by decide), st2_cell _ _ (by decide), st2_cell _ _ (by decide), st2_cell _ _ (by decide)]
  have R0 : Rk σ0 T 0 := by
    refine ⟨⟨oT, ?_, fun k hk => ?_, ?_, Nat.zero_le _⟩, ?_, ?_⟩
    · rw [r1, st2_slot _ _ (by decide), st2_slot _ _ (by decide), st2_slot _ _ (by decide)]; exact t1
    · rw [f0 2 (by decide) (by decide)]; exact t2 k hk
    · rw [r1, st2_slot _ _ (by decide), st2_slot _ _ (by decide), st2_same]; rfl
    · rw [r1, st2_slot _ _ (by decide), st2_same]
    · rw [r1, st2_same]
  have C0 : CD σ0 d0 := by
    refine ⟨?_, ?_, ?_, ?_, fun t ht => absurd ht (Nat.not_lt_zero t), fun t ht => absurd ht (Nat.not_lt_zero t)⟩
    · rw [← hs, st2_slot _ _ (by decide), st2_slot _ _ (by decide), st2_slot _ _ (by decide), st2_same]; rfl
    · rw [← hs, st2_slot _ _ (by decide), st2_slot _ _ (by decide), st2_same]; rfl
    · rw [← hs, st2_slot _ _ (by decide), st2_same]; rfl
    · rw [← hs, st2_same]; rfl
  have hsk := (sk_rng (T := T) 0).2.1 (Nat.zero_le _)
  have fhi : ∀ σ', frd σ0 σ' → ∀ c, 7 < c → σ' c = σ c := fun σ' F c hc => (F.1 c (by omega)).trans (f0 c (by omega) (by omega))
  refine S_skip R0.1 ?_
  have R1 := R0.mv hsk
  have F1 : frd σ0 (st2 σ0 1 3 (nI (sk T 0))) := (frn.mv σ0 _).d
  refine C_loop (T := T) (T.1 + 1) d0 (sk T 0) 0 _ (sk_sk 0) (Nat.zero_le _) (by omega) R1 (C0.cong (fun c c1 c2 => st2_cell _ _ (by omega))) okD_0 (fun d e σ2 hp R2 C2 o2 F2 => ⟨fun _ => ?_, fun q => absurd rfl q⟩) (fun q σ2 hp B2 F2 => ⟨fun c => ?_, fun _ => ?_⟩)
  · rw [pK_sk] at hp
    have F3 := F1.trans F2
    have e2 : (st2 σ2 1 1 0) 1 2 = -1 := by rw [st2_slot _ _ (by decide)]; exact R2.2.2
    rw [e2]
    generalize hs3 : st2 (st2 σ2 1 1 0) 0 11 (-1) = σ3
    have g3 : ∀ c, c ≠ 0 → c ≠ 1 → σ3 c = σ2 c := fun c h1 h2 => by rw [← hs3, st2_cell _ _ h1, st2_cell _ _ h2]
    have h311 : σ3 1 1 = 0 := by rw [← hs3, st2_cell _ _ (by decide), st2_same]
    have h3011 : σ3 0 11 = -1 := by rw [← hs3, st2_same]
    refine S_planBecome (C2.cong (fun c c1 c2 => g3 c (by omega) (by omega))) o2 (fun σ4 P4 A4 f4 => S_begin P4 o2 A4 (fun σ5 R5 f5 => S_forgetAll (fun σ6 u1 u2 u3 f6 => s_X1_clear σ6 τ (s_X0_clear _ τ ?_))))
    generalize hs7 : st2 (st2 (st2 (st2 σ6 120 0 0) 120 1 0) 120 2 0) 122 0 0 = σ7
    have g7 : ∀ c, c ≠ 120 → c ≠ 122 → σ7 c = σ6 c := fun c h1 h2 => by rw [← hs7, st2_cell _ _ h2, st2_cell _ _ h1, st2_cell _ _ h1, st2_cell _ _ h1]
    have gall : ∀ c, 18 < c → c ≠ 23 → c ≠ 27 → c ≠ 120 → c ≠ 122 → σ7 c = σ c := fun c h1 h2 h3 h4 h5 => by
      rw [g7 c h4 h5, f6 c h2 h3, f5 c (by omega), f4 c (by omega), g3 c (by omega) (by omega)]; exact fhi σ2 F3 c (by omega)
    have glo : ∀ c, c < 9 → σ7 c = σ3 c := fun c hc => by rw [g7 c (by omega) (by omega), f6 c (by omega) (by omega), f5 c (by omega), f4 c (by omega)]
    have R7 : RC σ7 d.1 (newA d) := R5.cong (fun c a1 a2 => (g7 c (by omega) (by omega)).trans (f6 c (by omega) (by omega)))
    rw [R7.2.2.1.2.2.1]
    refine hok d σ7 hp o2 ⟨R7, CU_0 ?_ ?_, ?_, ⟨c2.1, ?_⟩, ⟨okBm_0, ?_, ?_, ?_⟩, ⟨okK_0 _, ?_, fun k hk => absurd hk (Nat.not_lt_zero k)⟩, ⟨⟨Nat.zero_le _, fun k hk => absurd hk (Nat.not_lt_zero k)⟩, ?_, fun k hk => absurd hk (Nat.not_lt_zero k)⟩, ?_⟩ (fun c hc => gall c (by omega) (by omega) (by omega) (by omega) (by omega))
    · rw [g7 23 (by decide) (by decide)]; exact u1
    · rw [g7 23 (by decide) (by decide)]; exact u2
    · intro i hi
      refine ⟨fun _ => ?_, fun B z q => by cases q⟩
      rw [g7 27 (by decide) (by decide)]; exact u3 i hi
    · rw [gall 22 (by decide) (by decide) (by decide) (by decide) (by decide)]; exact c2.2
    · rw [← hs7, st2_cell _ _ (by decide), st2_slot _ _ (by decide), st2_slot _ _ (by decide), st2_same]; rfl
    · rw [← hs7, st2_cell _ _ (by decide), st2_slot _ _ (by decide), st2_same]; rfl
    · rw [← hs7, st2_cell _ _ (by decide), st2_same]; rfl
    · rw [← hs7, st2_same]; rfl
    · rw [glo 1 (by decide), h311]; rfl
    · rw [glo 0 (by decide), h3011]
  · exact absurd c (nI_ne0 B2.2.2.2.1 (by have := B2.2.2.2.2; omega))
  · rw [pK_sk] at hp
    have F3 := F1.trans F2
    have e2 : (st2 σ2 1 1 0) 1 2 = nI q.2 := by rw [st2_slot _ _ (by decide)]; exact B2.2.2.1
    rw [e2]
    have g3 : ∀ c, 7 < c → st2 (st2 σ2 1 1 0) 0 11 (nI q.2) c = σ c := fun c hc => by rw [st2_cell _ _ (by omega), st2_cell _ _ (by omega)]; exact fhi σ2 F3 c hc
    have := hC.txt (v := nI q.2) g3 (by rw [st2_cell _ _ (by decide), st2_same]) (st2_same _ _ _ _)
    rw [hT] at this
    exact hbad q _ hp this (fun c hc => g3 c (by omega))
theorem M_kitchen (hM : MI σ τ p A U X) (hok : ∀ d σ', pK X.2.2.2.2.1 (X.2.2.2.2.1.1 + 1) d0 0 = .ok d → okD d → MI σ' τ d.1 (newA d) (0, U.2) (fun _ => none, X.2.1, B00, K00, (0, X.2.2.2.2.1.2), -1) → (∀ c, c < 125 → σ' c = σ c) → Q (nI (pm d.1)) σ' τ) (hbad : ∀ q σ', pK X.2.2.2.2.1 (X.2.2.2.2.1.1 + 1) d0 0 = .error q → MI σ' τ p A U (X.1, X.2.1, X.2.2.1, X.2.2.2.1, (0, X.2.2.2.2.1.2), nI q.2) → (∀ c, c < 125 → σ' c = σ c) → Q ((-10) - nI q.1) σ' τ) : SI l D b M_X12_kitchen 6 G0 [.ref (b + 125)] σ τ Q := by
  obtain ⟨c1, c2, c3, c4, ⟨oT, t1, t2⟩, c6⟩ := id hM.2.2
  generalize hT : X.2.2.2.2.1 = T at *
  refine s_X12_kitchen σ τ (s_X12_readsKitchen σ τ ?_)
  generalize hs : st2 (st2 (st2 (st2 (st2 σ 125 2 0) 125 6 0) 125 7 0) 125 8 0) 125 9 0 = σ0
  have f0 : ∀ c, c ≠ 125 → σ0 c = σ c := fun c h1 => by rw [← hs, st2_cell _ _ h1, st2_cell _ _ h1, st2_cell _ _ h1, st2_cell _ _ h1, st2_cell _ _ h1]
  have fj : ∀ j, (j < 2 ∨ j = 5 ∨ 9 < j) → σ0 125 j = σ 125 j := fun j hj => by rw [← hs, st2_slot _ _ (by omega), st2_slot _ _ (by omega), st2_slot _ _ (by omega), st2_slot _ _ (by omega), st2_slot _ _ (by omega)]
  have R0 : RdM σ0 T 0 := ⟨oT, by rw [fj 0 (by decide)]; exact t1, fun k hk => by rw [f0 126 (by decide)]; exact t2 k hk, by rw [← hs, st2_slot _ _ (by decide), st2_slot _ _ (by decide), st2_slot _ _ (by decide), st2_slot _ _ (by decide), st2_same]; rfl, Nat.zero_le _⟩
  have C0 : MD σ0 d0 := by
    refine ⟨?_, ?_, ?_, ?_, fun t ht => absurd ht (Nat.not_lt_zero t), fun t ht => absurd ht (Nat.not_lt_zero t)⟩
    · rw [← hs, st2_slot _ _ (by decide), st2_slot _ _ (by decide), st2_slot _ _ (by decide), st2_same]; rfl
    · rw [← hs, st2_slot _ _ (by decide), st2_slot _ _ (by decide), st2_same]; rfl
    · rw [← hs, st2_slot _ _ (by decide), st2_same]; rfl
    · rw [← hs, st2_same]; rfl
  refine M_loop (T := T) (T.1 + 1) d0 0 σ0 (by omega) R0 C0 okD_0 (fun d σ2 hp C2 o2 F2 => ⟨fun c => absurd c one0, fun _ => ?_⟩) (fun q σ2 hp B2 F2 => ⟨fun _ => ?_, fun c => absurd rfl c⟩)
  · have hm6 := o2.1.2.2.1
    have hn6 := o2.1.2.2.2.1
    refine w_X12_kitchen_23 _ _ _ τ ⟨fun _ σ3 e3 => ?_, fun c => absurd c one0⟩
    -- the state ahead of the loops
    have k3 : ∀ j, j ≠ 0 → j ≠ 5 → j ≠ 14 → j ≠ 15 → σ3 125 j = σ2 125 j := fun j h1 h2 h3 h4 => by rw [e3, st2_slot _ _ h4, st2_slot _ _ h3, st2_slot _ _ h2, st2_slot _ _ h1]
    have k3c : ∀ c, c ≠ 125 → σ3 c = σ2 c := fun c h1 => by rw [e3, st2_cell _ _ h1, st2_cell _ _ h1, st2_cell _ _ h1, st2_cell _ _ h1]
    have k30 : σ3 125 0 = 0 := by rw [e3, st2_slot _ _ (by decide), st2_slot _ _ (by decide), st2_slot _ _ (by decide), st2_same]
    have k35 : σ3 125 5 = -1 := by rw [e3, st2_slot _ _ (by decide), st2_slot _ _ (by decide), st2_same]
    have k314 : σ3 125 14 = nI (pH d.1) := by rw [e3, st2_slot _ _ (by decide), st2_same, st2_slot _ _ (by decide), st2_slot _ _ (by decide)]; exact C2.1
    have k315 : σ3 125 15 = nI (pP d.1) := by rw [e3, st2_same, st2_slot _ _ (by decide), st2_slot _ _ (by decide), st2_slot _ _ (by decide)]; exact C2.2.1
    have k38 : σ3 125 8 = nI (pm d.1) := (k3 8 (by decide) (by decide) (by decide) (by decide)).trans C2.2.2.1
    have k39 : σ3 125 9 = nI (pn d.1) := (k3 9 (by decide) (by decide) (by decide) (by decide)).trans C2.2.2.2.1
    rw [k38]
    have e9' : (st2 σ3 125 16 (nI (pm d.1))) 125 9 = nI (pn d.1) := by rw [st2_slot _ _ (by decide)]; exact k39
    rw [e9']
    generalize hs4 : st2 (st2 σ3 125 16 (nI (pm d.1))) 125 17 (nI (pn d.1)) = σ4
    have k4 : ∀ j, j ≠ 16 → j ≠ 17 → σ4 125 j = σ3 125 j := fun j h1 h2 => by rw [← hs4, st2_slot _ _ h2, st2_slot _ _ h1]
    have k4c : ∀ c, c ≠ 125 → σ4 c = σ3 c := fun c h1 => by rw [← hs4, st2_cell _ _ h1, st2_cell _ _ h1]
    have k416 : σ4 125 16 = nI (pm d.1) := by rw [← hs4, st2_slot _ _ (by decide), st2_same]
    have k417 : σ4 125 17 = nI (pn d.1) := by rw [← hs4, st2_same]
    have z127 : ∀ t, t < pm d.1 → σ4 127 t = nI (pk d.1 t) ∧ σ4 128 t = nI (d.2.1 t) ∧ σ4 129 t = nI (d.2.2 t) := fun t ht => by
      rw [k4c 127 (by decide), k4c 128 (by decide), k4c 129 (by decide), k3c 127 (by decide), k3c 128 (by decide), k3c 129 (by decide)]; exact C2.2.2.2.2.1 t ht
    have z130 : ∀ e, e < pn d.1 → σ4 130 e = nI (ps d.1 e) := fun e he => by rw [k4c 130 (by decide), k3c 130 (by decide)]; exact C2.2.2.2.2.2 e he
    -- the strengths, and the end
    have key3 := lp_up (P := fun k => ∀ σ', (∀ c, c ≠ 131 → c ≠ 132 → c ≠ 133 → σ' c = σ4 c) → (∀ t, t < pm d.1 → σ' 131 t = nI (pk d.1 t)) → MS σ' 133 0 d.1 (newA d) → (∀ e, e < k → σ' 132 e = nI (ps d.1 e)) → AI l D b M_X12_kitchen 6 G0 Q 150 [(0, .ref (b + 125)), (2, .int (nI k))] [] G0 σ' τ) (n := pn d.1) ?_ ?_ 0 (Nat.zero_le _)
    · -- the troubles
      have key2 := lp_up (P := fun k => ∀ σ', (∀ c, c ≠ 131 → c ≠ 133 → σ' c = σ4 c) → (∀ t, t < k → σ' 131 t = nI (pk d.1 t) ∧ σ' 133 (2 + t) = nI (d.2.1 t) ∧ σ' 133 (8 + t) = nI (d.2.2 t)) → (∀ j, j < 26 → (j < 2 ∨ 14 ≤ j) → σ' 133 j = 0) → AI l D b M_X12_kitchen 6 G0 Q 93 [(0, .ref (b + 125)), (2, .int (nI k))] [] G0 σ' τ) (n := pm d.1) ?_ ?_ 0 (Nat.zero_le _)
      · have key1 := lp_up (P := fun k => ∀ σ', (∀ c, c ≠ 133 → σ' c = σ4 c) → (∀ j, j < k → σ' 133 j = 0) → AI l D b M_X12_kitchen 6 G0 Q 72 [(0, .ref (b + 125)), (2, .int (nI k))] [] G0 σ' τ) (n := 26) ?_ ?_ 0 (Nat.zero_le _)
        · exact key1 σ4 (fun _ _ => rfl) (fun j hj => absurd hj (Nat.not_lt_zero j))
        · intro k hk ih σ' f1 f2
          refine w_X12_kitchen_72 _ σ' τ ⟨fun c => ?_, fun _ => ⟨vp_in_t hk (by decide), ?_⟩⟩
          · rw [show (26 : Int32) = nI 26 from rfl, nI_leI (by omega) (by omega)] at c; omega
          · rw [nI_c (by omega), nI_1]
            refine ih _ (fun c hc => (st2_cell _ _ hc).trans (f1 c hc)) (fun j hj => ?_)
            by_cases e : j = k
            · subst e; rw [st2_same]
            · rw [st2_slot _ _ e]; exact f2 j (by omega)
        · intro σ' f1 f2
          exact w_X12_kitchen_72 _ σ' τ ⟨fun _ => key2 σ' (fun c h1 h2 => f1 c h2) (fun t ht => absurd ht (Nat.not_lt_zero t)) (fun j hj _ => f2 j hj), fun c => absurd (nI_le (Nat.le_refl 26) (by decide)) c⟩
      · intro k hk ih σ' f1 f2 f3
        refine w_X12_kitchen_93 _ σ' τ ⟨fun c => ?_, fun _ => ?_⟩
        · rw [f1 125 (by decide) (by decide), k416, nI_leI (by omega) (by omega)] at c; omega
        · obtain ⟨y1, y2, y3⟩ := z127 k hk
          rw [nI_p2, nI_p8, nI_c (by omega), nI_c (by omega), nI_c (by omega), nI_1, st2_cell (c := 131) (q := 128) _ _ (by decide), f1 127 (by decide) (by decide), f1 128 (by decide) (by decide), y1, y2]
          refine ⟨vp_in_t (by omega) (by decide), vp_in_t (by omega) (by decide), vp_in_t (by omega) (by decide), vp_in_t (by omega) (by decide), fun σ5 e5 => ⟨vp_in_t (by omega) (by decide), vp_in_t (by omega) (by decide), ?_⟩⟩
          have g5 : ∀ c, c ≠ 131 → c ≠ 133 → σ5 c = σ' c := fun c h1 h2 => by rw [e5, st2_cell _ _ h2, st2_cell _ _ h1]
          have e129 : σ5 129 k = nI (d.2.2 k) := by rw [g5 129 (by decide) (by decide), f1 129 (by decide) (by decide)]; exact y3
          rw [e129]
          refine ih _ (fun c h1 h2 => by rw [st2_cell _ _ h2, g5 c h1 h2]; exact f1 c h1 h2) (fun t ht => ?_) (fun j hj hj2 => ?_)
          · by_cases e : t = k
            · subst e
              refine ⟨?_, ?_, ?_⟩
              · rw [st2_cell _ _ (by decide), e5, st2_cell _ _ (by decide), st2_same]
              · rw [st2_slot _ _ (by omega), e5, st2_same]
              · rw [st2_same]
            · obtain ⟨p1, p2, p3⟩ := f2 t (by omega)
              refine ⟨?_, ?_, ?_⟩
              · rw [st2_cell _ _ (by decide), e5, st2_cell _ _ (by decide), st2_slot _ _ e]; exact p1
              · rw [st2_slot _ _ (by omega), e5, st2_slot _ _ (by omega), st2_cell _ _ (by decide)]; exact p2
              · rw [st2_slot _ _ (by omega), e5, st2_slot _ _ (by omega), st2_cell _ _ (by decide)]; exact p3
          · rw [st2_slot _ _ (by omega), e5, st2_slot _ _ (by omega), st2_cell _ _ (by decide)]; exact f3 j hj hj2
      · intro σ' f1 f2 f3
        refine w_X12_kitchen_93 _ σ' τ ⟨fun _ => key3 σ' (fun c h1 h2 h3 => f1 c h1 h3) (fun t ht => (f2 t ht).1) ⟨?_, ?_, ?_, ?_, ?_, ?_⟩ (fun t ht => absurd ht (Nat.not_lt_zero t)), fun c => ?_⟩
        · exact f3 0 (by decide) (by decide)
        · exact f3 1 (by decide) (by decide)
        · intro t ht; rw [Nat.zero_add]; exact f3 (14 + t) (by omega) (by omega)
        · intro t ht; rw [Nat.zero_add]; exact (f2 t ht).2.1
        · intro t ht; rw [Nat.zero_add]; exact (f2 t ht).2.2
        · intro t ht; rw [Nat.zero_add]; exact f3 (20 + t) (by omega) (by omega)
        · rw [f1 125 (by decide) (by decide), k416] at c
          exact absurd (nI_le (Nat.le_refl _) (by omega)) c
    · intro k hk ih σ' f1 f2 f3 f4
      refine w_X12_kitchen_150 _ σ' τ ⟨fun c => ?_, fun _ => ⟨vp_in_t (by omega) (by decide), vp_in_t (by omega) (by decide), ?_⟩⟩
      · rw [f1 125 (by decide) (by decide) (by decide), k417, nI_leI (by omega) (by omega)] at c; omega
      · rw [nI_c (by omega), nI_1, f1 130 (by decide) (by decide) (by decide), z130 k hk]
        refine ih _ (fun c h1 h2 h3 => (st2_cell _ _ h2).trans (f1 c h1 h2 h3)) (fun t ht => by rw [st2_cell _ _ (by decide)]; exact f2 t ht) (f3.copy (fun i hi => by rw [st2_cell _ _ (by decide)]) o2.1) (fun e he => ?_)
        by_cases q : e = k
        · subst q; rw [st2_same]
        · rw [st2_slot _ _ q]; exact f4 e (by omega)
    · intro σ' f1 f2 f3 f4
      refine w_X12_kitchen_150 _ σ' τ ⟨fun _ => ?_, fun c => ?_⟩
      · rw [nar0]
        generalize hs6 : st2 (st2 (st2 (st2 (st2 σ' 125 21 0) 125 26 0) 125 30 0) 141 0 0) 141 1 0 = σ6
        have g6 : ∀ c, c ≠ 125 → c ≠ 141 → σ6 c = σ' c := fun c h1 h2 => by rw [← hs6, st2_cell _ _ h2, st2_cell _ _ h2, st2_cell _ _ h1, st2_cell _ _ h1, st2_cell _ _ h1]
        have g6j : ∀ j, j ≠ 21 → j ≠ 26 → j ≠ 30 → σ6 125 j = σ' 125 j := fun j h1 h2 h3 => by rw [← hs6, st2_cell _ _ (by decide), st2_cell _ _ (by decide), st2_slot _ _ h3, st2_slot _ _ h2, st2_slot _ _ h1]
        have hx : ∀ j, j ≠ 21 → j ≠ 26 → j ≠ 30 → σ6 125 j = σ4 125 j := fun j h1 h2 h3 => (g6j j h1 h2 h3).trans (by rw [f1 125 (by decide) (by decide) (by decide)])
        have h16 : σ6 125 16 = nI (pm d.1) := (hx 16 (by decide) (by decide) (by decide)).trans k416
        rw [h16]
        have far : ∀ c, c ≠ 125 → c ≠ 131 → c ≠ 132 → c ≠ 133 → c ≠ 141 → (c < 127 ∨ 130 < c) → σ6 c = σ c := fun c h1 h2 h3 h4 h5 h6 => by rw [g6 c h1 h5, f1 c h2 h3 h4, k4c c h1, k3c c h1, F2.1 c h1 h6, f0 c h1]
        obtain ⟨hu, a, ha, u1, u2, u3⟩ := id hM.2.1
        refine hok d σ6 hp o2 ⟨⟨o2.1, okA_new o2, ⟨?_, ?_, h16, ?_, fun t ht => ?_, fun t ht => ?_⟩, f3.copy (fun i hi => by rw [g6 133 (by decide) (by decide)]) o2.1⟩, MU_0 ha ?_ ?_, ?_, c2, ⟨okBm_0, ?_, fun k hk => absurd hk (Nat.not_lt_zero k)⟩, ⟨okK_0 _, ?_, fun k hk => absurd hk (Nat.not_lt_zero k)⟩, ⟨⟨Nat.zero_le _, fun k hk => absurd hk (Nat.not_lt_zero k)⟩, ?_, fun k hk => absurd hk (Nat.not_lt_zero k)⟩, ?_⟩ (fun c hc => far c (by omega) (by omega) (by omega) (by omega) (by omega) (by omega))
        · rw [hx 14 (by decide) (by decide) (by decide), k4 14 (by decide) (by decide)]; exact k314
        · rw [hx 15 (by decide) (by decide) (by decide), k4 15 (by decide) (by decide)]; exact k315
        · rw [hx 17 (by decide) (by decide) (by decide)]; exact k417
        · rw [g6 131 (by decide) (by decide)]; exact f2 t ht
        · rw [g6 132 (by decide) (by decide)]; exact f4 t ht
        · rw [hx 22 (by decide) (by decide) (by decide), k4 22 (by decide) (by decide), k3 22 (by decide) (by decide) (by decide) (by decide), F2.2 22 (by decide), fj 22 (by decide)]; exact u1
        · rw [← hs6, st2_cell _ _ (by decide), st2_cell _ _ (by decide), st2_slot _ _ (by decide), st2_slot _ _ (by decide), st2_same]
        · intro i hi
          refine ⟨fun _ => ?_, fun B z q => by cases q⟩
          rcases (show i = 0 ∨ i = 1 by omega) with rfl | rfl
          · rw [← hs6, st2_slot _ _ (by decide), st2_same]
          · rw [← hs6, st2_same]
        · rw [← hs6, st2_cell _ _ (by decide), st2_cell _ _ (by decide), st2_slot _ _ (by decide), st2_same]; rfl
        · rw [← hs6, st2_cell _ _ (by decide), st2_cell _ _ (by decide), st2_same]; rfl
        · rw [hx 0 (by decide) (by decide) (by decide), k4 0 (by decide) (by decide), k30]; rfl
        · rw [hx 5 (by decide) (by decide) (by decide), k4 5 (by decide) (by decide)]; exact k35
      · rw [f1 125 (by decide) (by decide) (by decide), k417] at c
        exact absurd (nI_le (Nat.le_refl _) (by omega)) c
  · refine w_X12_kitchen_23 _ _ _ τ ⟨fun c => absurd rfl c, fun _ => ?_⟩
    have e4 : (st2 (st2 σ2 125 0 0) 125 5 ((st2 σ2 125 0 0) 125 2)) 125 4 = nI q.1 := by rw [st2_slot _ _ (by decide), st2_slot _ _ (by decide)]; exact B2.1
    have e2 : (st2 σ2 125 0 0) 125 2 = nI q.2 := by rw [st2_slot _ _ (by decide)]; exact B2.2
    rw [e4, e2]
    have fc : ∀ c, c ≠ 125 → (c < 127 ∨ 130 < c) → st2 (st2 σ2 125 0 0) 125 5 (nI q.2) c = σ c := fun c h1 h2 => by rw [st2_cell _ _ h1, st2_cell _ _ h1, F2.1 c h1 h2, f0 c h1]
    have := hM.txt (σ' := st2 (st2 σ2 125 0 0) 125 5 (nI q.2)) (v := nI q.2) (fun c h1 _ h2 => fc c h1 h2) (fun j hj => by rw [st2_slot _ _ (by omega), st2_slot _ _ (by omega), F2.2 j (by omega), fj j (by omega)]) (by rw [st2_slot _ _ (by decide), st2_same]) (st2_same _ _ _ _)
    rw [hT] at this
    exact hbad q _ hp this (fun c hc => fc c (by omega) (by omega))
theorem P_kitchen (J : Iv σ τ) (h : ∀ r σ1 τ1, (∀ Z : Int32 → zSg → zLm → Prop, (∀ σ2 τ2, Iv σ2 τ2 → Z r σ2 τ2) → SI l D b M_X12_kitchen 6 G0 [.ref (b + 125)] σ1 τ1 Z) → Q r σ1 τ1) : SI l D b M_X11_kitchen 6 G0 [.ref (b + 0)] σ τ Q := by
  obtain ⟨p, A, U, X, hC, hM⟩ := id J
  refine C_kitchen hC (fun d σ1 hp o C1 f1 => h _ _ _ (fun Z hZ => ?_)) (fun q σ1 hp C1 f1 => h _ _ _ (fun Z hZ => ?_))
  · refine M_kitchen (hM.cong f1) (fun d2 σ2 hp2 o2 M2 f2 => ?_) (fun q σ2 hp2 => by rw [hp] at hp2; cases hp2)
    rw [hp] at hp2
    injection hp2 with hp2
    subst hp2
    exact hZ _ _ ⟨d.1, newA d, _, _, C1.cong f2, M2⟩
  · refine M_kitchen (hM.cong f1) (fun d2 σ2 hp2 => by rw [hp] at hp2; cases hp2) (fun q2 σ2 hp2 M2 f2 => ?_)
    rw [hp] at hp2
    injection hp2 with hp2
    subst hp2
    exact hZ _ _ ⟨p, A, U, _, C1.cong f2, M2⟩
end KIT
