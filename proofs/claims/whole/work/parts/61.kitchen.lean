/-! THE KITCHEN told. -/
theorem pCl_ok {T : Tx} {d d' : Dr} {a e : Nat} (o : okD d) (ha : a < T.1) (h : pCl T d a = .ok (d', e)) : okD d' ∧ a < e ∧ e ≤ T.1 := by
  have hm6 := o.1.2.2.1
  have hn6 := o.1.2.2.2.1
  unfold pCl at h
  split at h
  · split at h
    · unfold pFi at h
      cases e1 : pN T 1 20 (a + 1) with
      | error q => rw [e1] at h; cases h
      | ok x =>
        rw [e1] at h
        have b1 := pN_ok (by omega) (show pN T 1 20 (a + 1) = .ok (x.1, x.2) from e1)
        have h : (match pN T 1 3 x.2 with | .error q => .error q | .ok y => match pS T 59 y.2 with | .error q => .error q | .ok e => .ok (setF d x.1 y.1, e)) = Except.ok (d', e) := h
        cases e2 : pN T 1 3 x.2 with
        | error q => rw [e2] at h; cases h
        | ok y =>
          rw [e2] at h
          have b2 := pN_ok b1.2.2.2 (show pN T 1 3 x.2 = .ok (y.1, y.2) from e2)
          have h : (match pS T 59 y.2 with | .error q => .error q | .ok e => .ok (setF d x.1 y.1, e)) = Except.ok (d', e) := h
          cases e3 : pS T 59 y.2 with
          | error q => rw [e3] at h; cases h
          | ok e' =>
            rw [e3] at h
            have b3 := pS_ok b2.2.2.2 e3
            injection h with h
            injection h with h1 h2
            subst h1 h2
            exact ⟨okD_setF o b1.1 b1.2.1 b2.1 b2.2.1, by omega, b3.2⟩
    · cases h
  · split at h
    · split at h
      · cases h
      · rename_i nH
        split at h
        · cases h
        · unfold pTr at h
          cases e1 : pN T 0 3 (a + 1) with
          | error q => rw [e1] at h; cases h
          | ok x =>
            rw [e1] at h
            have b1 := pN_ok (by omega) (show pN T 0 3 (a + 1) = .ok (x.1, x.2) from e1)
            have h : (match pN T 1 200 x.2 with | .error q => .error q | .ok y => match pRw T 5 0 0 y.2 with | .error q => .error q | .ok z => match pS T 59 z.2 with | .error q => .error q | .ok e => .ok (addT d x.1 y.1 z.1, e)) = Except.ok (d', e) := h
            cases e2 : pN T 1 200 x.2 with
            | error q => rw [e2] at h; cases h
            | ok y =>
              rw [e2] at h
              have b2 := pN_ok b1.2.2.2 (show pN T 1 200 x.2 = .ok (y.1, y.2) from e2)
              have h : (match pRw T 5 0 0 y.2 with | .error q => .error q | .ok z => match pS T 59 z.2 with | .error q => .error q | .ok e => .ok (addT d x.1 y.1 z.1, e)) = Except.ok (d', e) := h
              cases e3 : pRw T 5 0 0 y.2 with
              | error q => rw [e3] at h; cases h
              | ok z =>
                rw [e3] at h
                have b3 := pRw_ok (by rfl) b2.2.2.2 (by decide) (show pRw T 5 0 0 y.2 = .ok (z.1, z.2) from e3)
                have h : (match pS T 59 z.2 with | .error q => .error q | .ok e => .ok (addT d x.1 y.1 z.1, e)) = Except.ok (d', e) := h
                cases e4 : pS T 59 z.2 with
                | error q => rw [e4] at h; cases h
                | ok e' =>
                  rw [e4] at h
                  have b4 := pS_ok b3.2.2 e4
                  injection h with h
                  injection h with h1 h2
                  subst h1 h2
                  exact ⟨okD_addT o nH (by omega) b1.2.1 b2.2.1 b3.1, by omega, b4.2⟩
    · split at h
      · split at h
        · cases h
        · rename_i nH
          split at h
          · cases h
          · unfold pEa at h
            cases e1 : pN T 1 30 (a + 1) with
            | error q => rw [e1] at h; cases h
            | ok x =>
              rw [e1] at h
              have b1 := pN_ok (by omega) (show pN T 1 30 (a + 1) = .ok (x.1, x.2) from e1)
              have h : (match pS T 59 x.2 with | .error q => .error q | .ok e => .ok (addE d x.1, e)) = Except.ok (d', e) := h
              cases e3 : pS T 59 x.2 with
              | error q => rw [e3] at h; cases h
              | ok e' =>
                rw [e3] at h
                have b3 := pS_ok b1.2.2.2 e3
                injection h with h
                injection h with h1 h2
                subst h1 h2
                exact ⟨okD_addE o nH (by omega) b1.1 b1.2.1, by omega, b3.2⟩
      · cases h
def d0 : Dr := ((0, 0, 0, 0, fun _ => 0, fun _ => 0), fun _ => 0, fun _ => 0)
theorem okD_0 : okD d0 := ⟨⟨by decide, by decide, by decide, by decide, ⟨fun _ => rfl, fun _ => rfl⟩, fun _ => ⟨rfl, rfl⟩, fun t ht => absurd ht (Nat.not_lt_zero t), fun t ht => absurd ht (Nat.not_lt_zero t)⟩, fun t ht => absurd ht (Nat.not_lt_zero t)⟩
theorem vu_same {α : Type} (f : Nat → α) (c : Nat) (x : α) : va_up f c x c = x := by simp [va_up]
theorem vu_ne {α : Type} (f : Nat → α) {c q : Nat} (x : α) (h : q ≠ c) : va_up f c x q = f q := by simp [va_up, h]
def newA (d : Dr) : Sc := (0, 0, fun _ => 0, d.2.1, d.2.2, fun _ => 0)
theorem okA_new {d : Dr} (o : okD d) : okA d.1 (newA d) := by
  refine ⟨by show 0 ≤ 9060; decide, by show 0 ≤ 999999; decide, fun t ht => ⟨by show 0 ≤ 3; decide, (o.2 t ht).1, (o.2 t ht).2⟩, fun e _ => Nat.zero_le _, fun e _ => rfl, ?_⟩
  have : onC d.1 (newA d) = 0 := fb_ct_zero.mpr (fun t _ => rfl)
  rw [this]; exact Nat.zero_le _
theorem CI.txt {σ σ' : zSg} {p : Pl} {A : Sc} {U : Un} {X : Xt} {v : Int32} (h : CI σ p A U X) (f : ∀ c, 7 < c → σ' c = σ c) (h1 : σ' 1 1 = 0) (h0 : σ' 0 11 = v) : CI σ' p A U (X.1, X.2.1, X.2.2.1, X.2.2.2.1, (0, X.2.2.2.2.1.2), v) := by
  obtain ⟨c1, c2, c3, c4, c5, c6⟩ := h.2.2
  exact ⟨h.1.cong (fun c a1 a2 => f c (by omega)), h.2.1.cong (f 23 (by decide)) (fun c a1 a2 => f c (by omega)), c1.cong (f 26 (by decide)) (f 27 (by decide)) (fun c a1 a2 => f c (by omega)), ⟨c2.1, by rw [f 22 (by decide)]; exact c2.2⟩, c3.cong (by rw [f 120 (by decide)]) (by rw [f 120 (by decide)]) (by rw [f 120 (by decide)]), c4.cong (by rw [f 122 (by decide)]) (f 123 (by decide)) (f 124 (by decide)), ⟨⟨Nat.zero_le _, fun k hk => absurd hk (Nat.not_lt_zero k)⟩, h1, fun k hk => absurd hk (Nat.not_lt_zero k)⟩, h0⟩
theorem MI.txt {σ σ' : zSg} {τ : zLm} {p : Pl} {A : Sc} {U : Un} {X : Xt} {v : Int32} (h : MI σ τ p A U X) (f : ∀ c, c ≠ 125 → 125 < c → (c < 127 ∨ 130 < c) → σ' c = σ c) (fj : ∀ j, 9 < j → σ' 125 j = σ 125 j) (h1 : σ' 125 0 = 0) (h0 : σ' 125 5 = v) : MI σ' τ p A U (X.1, X.2.1, X.2.2.1, X.2.2.2.1, (0, X.2.2.2.2.1.2), v) := by
  obtain ⟨c1, c2, c3, c4, c5, c6⟩ := h.2.2
  have g : ∀ c, 130 < c → σ' c = σ c := fun c hc => f c (by omega) (by omega) (by omega)
  exact ⟨h.1.cong (fun j a1 a2 => fj j (by omega)) (g 131 (by decide)) (g 132 (by decide)) (g 133 (by decide)), h.2.1.cong h.1.1 (fun j a1 a2 => fj j (by omega)) (g 134 (by decide)), c1.cong h.1.1 (g 141 (by decide)) (g 142 (by decide)) rfl, c2, c3.cong (fj 26 (by decide)) (g 136 (by decide)) (g 137 (by decide)), c4.cong (fj 30 (by decide)) (g 139 (by decide)) (g 140 (by decide)), ⟨⟨Nat.zero_le _, fun k hk => absurd hk (Nat.not_lt_zero k)⟩, h1, fun k hk => absurd hk (Nat.not_lt_zero k)⟩, h0⟩
section KITCHEN
variable {l : Launch} {D : zDD} {b : Nat} {γ : zGm} {σ : zSg} {τ : zLm} {T : Tx} {Q : Int32 → zSg → zLm → Prop} {G : zSg → zLm → Prop}
theorem C_loop : ∀ (f : Nat) (d : Dr) (a k : Nat) (σ : zSg), sk T a = a → k ≤ a → T.1 - a < f → Rk σ T a → CD σ d → okD d → (∀ d' e σ', pK T f d a = .ok d' → Rk σ' T e → CD σ' d' → okD d' → frd σ σ' → Q 0 (st2 σ' 1 1 0) τ) → (∀ q σ', pK T f d a = .error q → Bq σ' T q → frd σ σ' → Q (nI q.1) (st2 σ' 1 1 0) τ) → AI l D b M_X7_read 5 G0 Q 25 [(0, .ref (b + 1)), (1, .ref (b + 3)), (2, .int (nI k))] [] G0 σ τ := by
  intro f
  induction f with
  | zero => intro d a k σ _ _ h; omega
  | succ f ih =>
    intro d a k σ hsk hk hf R C o hok hbad
    have hn := R.1.1.1
    have ha := R.1.2.2.2.2
    rw [pK, hsk] at hok hbad
    refine w_X7_read_25 _ σ τ ?_
    rw [R.1.2.1, R.1.2.2.2.1, nI_leI (by omega) (by omega), show (240 : Int32) = nI 240 from rfl, nI_leI (by omega) (by omega), st2_slot _ _ (by decide), R.2.1]
    have fin : ¬ a < T.1 → Q 0 (st2 σ 1 1 0) τ := by
      intro hna
      rw [if_neg hna] at hok
      exact hok d a σ rfl R C o (frd.refl σ)
    refine ⟨fun c => fin (by omega), fun c => ⟨fun c2 => fin (by omega), fun c2 => ⟨fun c3 => absurd rfl c3, fun _ => ?_⟩⟩⟩
    have hlt : a < T.1 := by omega
    rw [if_pos hlt] at hok hbad
    refine C_clause R C o hlt (fun d' e σ1 he R1 C1 o1 hae F1 => ?_) (fun q σ1 he B1 F1 => ?_)
    · rw [he] at hok hbad
      have hok : ∀ d'' e'' σ', pK T f d' e = .ok d'' → Rk σ' T e'' → CD σ' d'' → okD d'' → frd σ σ' → Q 0 (st2 σ' 1 1 0) τ := hok
      have hbad : ∀ q σ', pK T f d' e = .error q → Bq σ' T q → frd σ σ' → Q (nI q.1) (st2 σ' 1 1 0) τ := hbad
      have r := sk_rng (T := T) e
      have he2 := r.2.1 R1.1.2.2.2.2
      refine S_skip R1.1 ?_
      rw [nI_1]
      have F2 := F1.trans (frn.mv σ1 (nI (sk T e))).d
      refine ih d' (sk T e) (k + 1) _ (sk_sk e) (by omega) (by omega) (R1.mv he2) (C1.cong (fun c c1 c2 => st2_cell _ _ (by omega))) o1 (fun d'' e'' σ' hp R' C' o' F' => hok d'' e'' σ' (by rw [← pK_sk]; exact hp) R' C' o' (F2.trans F')) (fun q σ' hp B' F' => hbad q σ' (by rw [← pK_sk]; exact hp) B' (F2.trans F'))
    · rw [he] at hbad
      have hbad : ∀ q' σ', Except.error q = .error q' → Bq σ' T q' → frd σ σ' → Q (nI q'.1) (st2 σ' 1 1 0) τ := hbad
      obtain ⟨a1, R1⟩ := B1.1
      have he2 := (sk_rng (T := T) a1).2.1 R1.2.2.2.2
      refine S_skip R1 ?_
      have B2 := B1.mv he2
      have F2 := F1.trans (frn.mv σ1 (nI (sk T a1))).d
      generalize st2 σ1 1 3 (nI (sk T a1)) = σ2 at *
      have fin2 : Q ((st2 σ2 1 1 0) 1 4) (st2 σ2 1 1 0) τ := by
        rw [st2_slot _ _ (by decide), B2.2.1]
        exact hbad q σ2 rfl B2 F2
      exact w_X7_read_25 _ σ2 τ ⟨fun _ => fin2, fun _ => ⟨fun _ => fin2, fun _ => ⟨fun _ => fin2, fun c => absurd c B2.ne⟩⟩⟩
theorem M_loop : ∀ (f : Nat) (d : Dr) (a : Nat) (σ : zSg), T.1 - a < f → RdM σ T a → MD σ d → okD d → (∀ d' σ', pK T f d a = .ok d' → MD σ' d' → okD d' → frR σ σ' → Q 1 σ' τ) → (∀ q σ', pK T f d a = .error q → Mq σ' q → frR σ σ' → Q 0 σ' τ) → AI l D b M_X12_readsKitchen 5 G0 Q 27 [(0, .ref (b + 125)), (1, .int 1)] [] G0 σ τ := by
  intro f
  induction f with
  | zero => intro d a σ h; omega
  | succ f ih =>
    intro d a σ hf R C o hok hbad
    rw [pK] at hok hbad
    have r := sk_rng (T := T) a
    have ha2 := r.2.1 R.2.2.2.2
    refine w_X12_readsKitchen_27 _ σ τ ⟨fun c => absurd c one0, fun _ => M_nextL R ?_⟩
    have R1 := R.mv ha2
    have F1 := frN.mv σ (nI (sk T a))
    have C1 : MD (st2 σ 125 2 (nI (sk T a))) d := C.cong (fun c c1 c2 => F1.1 c (by omega)) (fun j j1 j2 => F1.2 j (by omega) (by omega) (by omega))
    generalize st2 σ 125 2 (nI (sk T a)) = σ1 at *
    by_cases hlt : sk T a < T.1
    · rw [if_pos hlt] at hok hbad
      have hl := R.1.2 (sk T a) hlt
      have el : ltr T (sk T a) = nI (T.2 (sk T a)) := by unfold ltr; rw [if_pos hlt]
      rw [el]
      refine ⟨fun c => absurd c (nI_m1 (by omega)), fun _ => M_clause R1 C1 o (sk_sk a) hlt (fun d' e σ2 he R2 C2 F2 => ?_) (fun q σ2 he B2 F2 => ?_)⟩
      · have b1 := pCl_ok o hlt he
        rw [he] at hok hbad
        exact ih d' e σ2 (by omega) R2 C2 b1.1 (fun d'' σ' hp C' o' F' => hok d'' σ' hp C' o' ((F1.r.trans F2).trans F')) (fun q σ' hp B' F' => hbad q σ' hp B' ((F1.r.trans F2).trans F'))
      · rw [he] at hbad
        exact w_X12_readsKitchen_27 _ σ2 τ ⟨fun _ => ⟨Or.inl rfl, hbad q σ2 rfl B2 (F1.r.trans F2)⟩, fun c => absurd rfl c⟩
    · rw [if_neg hlt] at hok
      have el : ltr T (sk T a) = -1 := by unfold ltr; rw [if_neg hlt]
      rw [el]
      exact ⟨fun _ => ⟨Or.inr rfl, hok d σ1 rfl C1 o F1.r⟩, fun c => absurd rfl c⟩
theorem S_planBecome {d : Dr} (C : CD σ d) (o : okD d) (h : ∀ σ', CP σ' d.1 → (∀ t, t < pm d.1 → σ' 11 t = nI (d.2.1 t) ∧ σ' 12 t = nI (d.2.2 t)) → (∀ c, (c < 9 ∨ 13 < c) → σ' c = σ c) → G σ' τ) : SV l D b M_X6_become 1 G0 [.ref (b + 9), .ref (b + 3)] σ τ G := by
  have hm6 := o.1.2.2.1
  have hn6 := o.1.2.2.2.1
  refine s_X6_become σ τ (fun σ1 e1 σ2 e2 σ3 e3 σ4 e4 σ5 e5 => ?_)
  have a1 : ∀ c, c ≠ 9 → σ1 c = σ c := fun c hc => by rw [e1, st2_cell _ _ hc, st2_cell _ _ hc, st2_cell _ _ hc]
  have r0 : σ1 9 0 = σ 3 0 := by rw [e1, st2_slot _ _ (by decide), st2_slot _ _ (by decide), st2_same]
  have r1 : σ1 9 1 = σ 3 1 := by rw [e1, st2_slot _ _ (by decide), st2_same, st2_cell _ _ (by decide)]
  have r2 : σ1 9 2 = σ 3 2 := by rw [e1, st2_same, st2_cell _ _ (by decide), st2_cell _ _ (by decide)]
  generalize hs : st2 σ1 9 3 (σ1 3 3) = σx at e2
  have ax : ∀ c, c ≠ 9 → σx c = σ c := fun c hc => by rw [← hs, st2_cell _ _ hc]; exact a1 c hc
  have x8 : ∀ j, j ≠ 3 → σx 9 j = σ1 9 j := fun j hj => by rw [← hs, st2_slot _ _ hj]
  have x83 : σx 9 3 = σ 3 3 := by rw [← hs, st2_same, a1 3 (by decide)]
  have a2 : ∀ c, c ≠ 10 → σ2 c = σx c := fun c hc => by rw [e2, vu_ne _ _ hc]
  have a3 : ∀ c, c ≠ 11 → σ3 c = σ2 c := fun c hc => by rw [e3, vu_ne _ _ hc]
  have a4 : ∀ c, c ≠ 12 → σ4 c = σ3 c := fun c hc => by rw [e4, vu_ne _ _ hc]
  have a5 : ∀ c, c ≠ 13 → σ5 c = σ4 c := fun c hc => by rw [e5, vu_ne _ _ hc]
  have b9 : ∀ t, t < 6 → σ5 10 t = σ 4 t := fun t ht => by rw [a5 10 (by decide), a4 10 (by decide), a3 10 (by decide), e2, vu_same, cpy6 ht, ax 4 (by decide)]
  have b10 : ∀ t, t < 6 → σ5 11 t = σ 5 t := fun t ht => by rw [a5 11 (by decide), a4 11 (by decide), e3, vu_same, cpy6 ht, a2 5 (by decide), ax 5 (by decide)]
  have b11 : ∀ t, t < 6 → σ5 12 t = σ 6 t := fun t ht => by rw [a5 12 (by decide), e4, vu_same, cpy6 ht, a3 6 (by decide), a2 6 (by decide), ax 6 (by decide)]
  have b12 : ∀ t, t < 6 → σ5 13 t = σ 7 t := fun t ht => by rw [e5, vu_same, cpy6 ht, a4 7 (by decide), a3 7 (by decide), a2 7 (by decide), ax 7 (by decide)]
  have b8 : σ5 9 = σx 9 := by rw [a5 9 (by decide), a4 9 (by decide), a3 9 (by decide), a2 9 (by decide)]
  refine h σ5 ⟨?_, ?_, ?_, ?_, ?_, ?_⟩ (fun t ht => ?_) (fun c hc => ?_)
  · rw [b8, x8 0 (by decide), r0]; exact C.1
  · rw [b8, x8 1 (by decide), r1]; exact C.2.1
  · rw [b8, x8 2 (by decide), r2]; exact C.2.2.1
  · rw [b8, x83]; exact C.2.2.2.1
  · intro t ht; rw [b9 t (by omega)]; exact (C.2.2.2.2.1 t ht).1
  · intro t ht; rw [b12 t (by omega)]; exact C.2.2.2.2.2 t ht
  · rw [b10 t (by omega), b11 t (by omega)]; exact (C.2.2.2.2.1 t ht).2
  · rw [a5 c (by omega), a4 c (by omega), a3 c (by omega), a2 c (by omega), ax c (by omega)]
theorem S_begin {d : Dr} (P : CP σ d.1) (o : okD d) (hA : ∀ t, t < pm d.1 → σ 11 t = nI (d.2.1 t) ∧ σ 12 t = nI (d.2.2 t)) (h : ∀ σ', RC σ' d.1 (newA d) → (∀ c, (c < 14 ∨ 18 < c) → σ' c = σ c) → G σ' τ) : SV l D b M_X8_begin 1 G0 [.ref (b + 14), .ref (b + 9)] σ τ G := by
  have hm6 := o.1.2.2.1
  have hn6 := o.1.2.2.2.1
  refine s_X8_begin σ τ (fun σ1 e1 σ2 e2 => ?_)
  generalize hs : st2 (st2 σ 14 0 0) 14 1 0 = σx at e1
  have ax : ∀ c, c ≠ 14 → σx c = σ c := fun c hc => by rw [← hs, st2_cell _ _ hc, st2_cell _ _ hc]
  have a1 : ∀ c, c ≠ 16 → σ1 c = σx c := fun c hc => by rw [e1, vu_ne _ _ hc]
  have a2 : ∀ c, c ≠ 17 → σ2 c = σ1 c := fun c hc => by rw [e2, vu_ne _ _ hc]
  have b15 : ∀ t, t < 6 → σ2 16 t = σ 11 t := fun t ht => by rw [a2 16 (by decide), e1, vu_same, cpy6 ht, ax 11 (by decide)]
  have b16 : ∀ t, t < 6 → σ2 17 t = σ 12 t := fun t ht => by rw [e2, vu_same, cpy6 ht, a1 12 (by decide), ax 12 (by decide)]
  have b13 : σ2 14 = σx 14 := by rw [a2 14 (by decide), a1 14 (by decide)]
  have x0 : σx 14 0 = 0 := by rw [← hs, st2_slot _ _ (by decide), st2_same]
  have x1 : σx 14 1 = 0 := by rw [← hs, st2_same]
  have aa : ∀ c, c ≠ 14 → c ≠ 16 → c ≠ 17 → σ2 c = σ c := fun c h1 h2 h3 => by rw [a2 c h3, a1 c h2, ax c h1]
  have key2 := lp_up (P := fun k => ∀ σ', (∀ c, c ≠ 15 → c ≠ 18 → σ' c = σ2 c) → (∀ t, t < 6 → σ' 15 t = 0) → (∀ t, t < k → σ' 18 t = 0) → AV l D b M_X8_begin 1 G0 G 63 [(0, .ref (b + 14)), (2, .int (nI k))] [] G0 σ' τ) (n := 6) ?_ ?_ 0 (Nat.zero_le _)
  · have key := lp_up (P := fun k => ∀ σ', (∀ c, c ≠ 15 → σ' c = σ2 c) → (∀ t, t < k → σ' 15 t = 0) → AV l D b M_X8_begin 1 G0 G 42 [(0, .ref (b + 14)), (2, .int (nI k))] [] G0 σ' τ) (n := 6) ?_ ?_ 0 (Nat.zero_le _)
    · exact key σ2 (fun _ _ => rfl) (fun t ht => absurd ht (Nat.not_lt_zero t))
    · intro k hk ih σ' f1 f2
      refine w_X8_begin_42 _ σ' τ ⟨fun c => ?_, fun _ => ⟨vp_in_t hk (by decide), ?_⟩⟩
      · rw [show (6 : Int32) = nI 6 from rfl, nI_leI (by omega) (by omega)] at c; omega
      · rw [nI_c (by omega), nI_1]
        refine ih _ (fun c hc => (st2_cell _ _ hc).trans (f1 c hc)) (fun t ht => ?_)
        by_cases e : t = k
        · subst e; rw [st2_same]
        · rw [st2_slot _ _ e]; exact f2 t (by omega)
    · intro σ' f1 f2
      exact w_X8_begin_42 _ σ' τ ⟨fun _ => key2 σ' (fun c c1 c2 => f1 c c1) f2 (fun t ht => absurd ht (Nat.not_lt_zero t)), fun c => absurd (nI_le (Nat.le_refl 6) (by decide)) c⟩
  · intro k hk ih σ' f1 f2 f3
    refine w_X8_begin_63 _ σ' τ ⟨fun c => ?_, fun _ => ⟨vp_in_t hk (by decide), ?_⟩⟩
    · rw [show (6 : Int32) = nI 6 from rfl, nI_leI (by omega) (by omega)] at c; omega
    · rw [nI_c (by omega), nI_1]
      refine ih _ (fun c c1 c2 => (st2_cell _ _ c2).trans (f1 c c1 c2)) (fun t ht => by rw [st2_cell _ _ (by decide)]; exact f2 t ht) (fun t ht => ?_)
      by_cases e : t = k
      · subst e; rw [st2_same]
      · rw [st2_slot _ _ e]; exact f3 t (by omega)
  · intro σ' f1 f2 f3
    refine w_X8_begin_63 _ σ' τ ⟨fun _ => h σ' ⟨o.1, okA_new o, ?_, ?_, ?_, ?_, ?_, ?_, ?_⟩ (fun c hc => (f1 c (by omega) (by omega)).trans (aa c (by omega) (by omega) (by omega))), fun c => absurd (nI_le (Nat.le_refl 6) (by decide)) c⟩
    · unfold CP at *
      rw [f1 9 (by decide) (by decide), f1 10 (by decide) (by decide), f1 13 (by decide) (by decide), aa 9 (by decide) (by decide) (by decide), aa 10 (by decide) (by decide) (by decide), aa 13 (by decide) (by decide) (by decide)]
      exact P
    · rw [f1 14 (by decide) (by decide), b13, x0]; rfl
    · rw [f1 14 (by decide) (by decide), b13, x1]; rfl
    · intro t ht; exact f2 t (by omega)
    · intro t ht
      show σ' 16 t = nI (d.2.1 t)
      rw [f1 16 (by decide) (by decide), b15 t (by omega)]; exact (hA t ht).1
    · intro t ht
      show σ' 17 t = nI (d.2.2 t)
      rw [f1 17 (by decide) (by decide), b16 t (by omega)]; exact (hA t ht).2
    · intro t ht; exact f3 t (by omega)
theorem S_forgetAll (h : ∀ σ', σ' 23 4 = 0 → σ' 23 5 = 0 → (∀ i, i < 2 → σ' 27 i = 0) → (∀ c, c ≠ 23 → c ≠ 27 → σ' c = σ c) → G σ' τ) : SV l D b M_X5_forgetAll 1 G0 [.ref (b + 23)] σ τ G := by
  refine s_X5_forgetAll σ τ (s_X5_forgetUndone σ τ ?_)
  have key := lp_up (P := fun k => ∀ σ', (∀ c, c ≠ 27 → σ' c = st2 (st2 σ 23 4 0) 23 5 0 c) → (∀ t, t < k → σ' 27 t = 0) → AV l D b M_X5_forgetAll 1 G0 G 6 [(0, .ref (b + 23)), (1, .int (nI k))] [] G0 σ' τ) (n := 2) ?_ ?_ 0 (Nat.zero_le _)
  · exact key _ (fun _ _ => rfl) (fun t ht => absurd ht (Nat.not_lt_zero t))
  · intro k hk ih σ' f1 f2
    refine w_X5_forgetAll_6 _ σ' τ ⟨fun c => ?_, fun _ => ⟨vp_in_t hk (by decide), ?_⟩⟩
    · rw [show (2 : Int32) = nI 2 from rfl, nI_leI (by omega) (by omega)] at c; omega
    · rw [nI_c (by omega), nI_1, nar0]
      refine ih _ (fun c hc => (st2_cell _ _ hc).trans (f1 c hc)) (fun t ht => ?_)
      by_cases e : t = k
      · subst e; rw [st2_same]
      · rw [st2_slot _ _ e]; exact f2 t (by omega)
  · intro σ' f1 f2
    refine w_X5_forgetAll_6 _ σ' τ ⟨fun _ => h σ' ?_ ?_ f2 (fun c c1 c2 => ?_), fun c => absurd (nI_le (Nat.le_refl 2) (by decide)) c⟩
    · rw [f1 23 (by decide), st2_slot _ _ (by decide), st2_same]
    · rw [f1 23 (by decide), st2_same]
    · rw [f1 c c2, st2_cell _ _ c1, st2_cell _ _ c1]
end KITCHEN
