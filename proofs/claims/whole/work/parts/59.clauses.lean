/-! THE TEXT: its clauses. -/
abbrev Dr : Type := Pl × (Nat → Nat) × (Nat → Nat)
def okD (d : Dr) : Prop := okP d.1 ∧ ∀ t, t < pm d.1 → d.2.1 t ≤ 200 ∧ d.2.2 t < 2 ^ 25
def CD (σ : zSg) (d : Dr) : Prop := σ 3 0 = nI (pH d.1) ∧ σ 3 1 = nI (pP d.1) ∧ σ 3 2 = nI (pm d.1) ∧ σ 3 3 = nI (pn d.1) ∧ (∀ t, t < pm d.1 → σ 4 t = nI (pk d.1 t) ∧ σ 5 t = nI (d.2.1 t) ∧ σ 6 t = nI (d.2.2 t)) ∧ ∀ e, e < pn d.1 → σ 7 e = nI (ps d.1 e)
def MD (σ : zSg) (d : Dr) : Prop := σ 125 6 = nI (pH d.1) ∧ σ 125 7 = nI (pP d.1) ∧ σ 125 8 = nI (pm d.1) ∧ σ 125 9 = nI (pn d.1) ∧ (∀ t, t < pm d.1 → σ 127 t = nI (pk d.1 t) ∧ σ 128 t = nI (d.2.1 t) ∧ σ 129 t = nI (d.2.2 t)) ∧ ∀ e, e < pn d.1 → σ 130 e = nI (ps d.1 e)
theorem CD.cong {σ σ' : zSg} {d : Dr} (h : CD σ d) (f : ∀ c, 3 ≤ c → c ≤ 7 → σ' c = σ c) : CD σ' d := by
  unfold CD at *
  rw [f 3 (by decide) (by decide), f 4 (by decide) (by decide), f 5 (by decide) (by decide), f 6 (by decide) (by decide), f 7 (by decide) (by decide)]
  exact h
theorem MD.cong {σ σ' : zSg} {d : Dr} (h : MD σ d) (f : ∀ c, 127 ≤ c → c ≤ 130 → σ' c = σ c) (fj : ∀ j, 6 ≤ j → j ≤ 9 → σ' 125 j = σ 125 j) : MD σ' d := by
  unfold MD at *
  rw [f 127 (by decide) (by decide), f 128 (by decide) (by decide), f 129 (by decide) (by decide), f 130 (by decide) (by decide), fj 6 (by decide) (by decide), fj 7 (by decide) (by decide), fj 8 (by decide) (by decide), fj 9 (by decide) (by decide)]
  exact h
def setF (d : Dr) (h q : Nat) : Dr := ((h, q, pm d.1, pn d.1, pk d.1, ps d.1), d.2.1, d.2.2)
def addT (d : Dr) (k h s : Nat) : Dr := ((pH d.1, pP d.1, pm d.1 + 1, pn d.1, va_up (pk d.1) (pm d.1) k, ps d.1), va_up d.2.1 (pm d.1) h, va_up d.2.2 (pm d.1) s)
def addE (d : Dr) (v : Nat) : Dr := ((pH d.1, pP d.1, pm d.1, pn d.1 + 1, pk d.1, va_up (ps d.1) (pn d.1) v), d.2.1, d.2.2)
theorem okD_setF {d : Dr} {h q : Nat} (o : okD d) (h1 : 1 ≤ h) (h2 : h ≤ 20) (q1 : 1 ≤ q) (q2 : q ≤ 3) : okD (setF d h q) := by
  obtain ⟨⟨o1, o2, o3, o4, o5, o6, o7, o8⟩, o9⟩ := o
  exact ⟨⟨h2, q2, o3, o4, ⟨fun e => absurd (show h = 0 from e) (by omega), fun e => absurd (show q = 0 from e) (by omega)⟩, fun e => absurd (show h = 0 from e) (by omega), o7, o8⟩, o9⟩
theorem okD_addT {d : Dr} {k h s : Nat} (o : okD d) (hH : pH d.1 ≠ 0) (hm : pm d.1 < 6) (k3 : k ≤ 3) (h2 : h ≤ 200) (hs : s < 2 ^ 25) : okD (addT d k h s) := by
  obtain ⟨⟨o1, o2, o3, o4, o5, o6, o7, o8⟩, o9⟩ := o
  refine ⟨⟨o1, o2, hm, o4, o5, fun e => absurd (show pH d.1 = 0 from e) hH, fun t ht => ?_, o8⟩, fun t ht => ?_⟩
  · have ht : t < pm d.1 + 1 := ht
    show va_up (pk d.1) (pm d.1) k t ≤ 3
    unfold va_up
    split
    · exact k3
    · exact o7 t (by omega)
  · have ht : t < pm d.1 + 1 := ht
    show va_up d.2.1 (pm d.1) h t ≤ 200 ∧ va_up d.2.2 (pm d.1) s t < 2 ^ 25
    unfold va_up
    split
    · exact ⟨h2, hs⟩
    · exact o9 t (by omega)
theorem okD_addE {d : Dr} {v : Nat} (o : okD d) (hH : pH d.1 ≠ 0) (hn : pn d.1 < 6) (v1 : 1 ≤ v) (v2 : v ≤ 30) : okD (addE d v) := by
  obtain ⟨⟨o1, o2, o3, o4, o5, o6, o7, o8⟩, o9⟩ := o
  refine ⟨⟨o1, o2, o3, hn, o5, fun e => absurd (show pH d.1 = 0 from e) hH, o7, fun t ht => ?_⟩, o9⟩
  have ht : t < pn d.1 + 1 := ht
  show 1 ≤ va_up (ps d.1) (pn d.1) v t ∧ va_up (ps d.1) (pn d.1) v t ≤ 30
  unfold va_up
  split
  · exact ⟨v1, v2⟩
  · exact o8 t (by omega)
def pRw (T : Tx) : Nat → Nat → Nat → Nat → Except Er (Nat × Nat)
  | 0, _, s, a => .ok (s, a)
  | d + 1, i, s, a => match pS T 44 a with
    | .error q => .error q
    | .ok a1 => match pN T 0 31 a1 with
      | .error q => .error q
      | .ok x => pRw T d (i + 1) (s ||| x.1 * 2 ^ (5 * i)) x.2
def pFi (T : Tx) (d : Dr) (a : Nat) : Except Er (Dr × Nat) := match pN T 1 20 a with
  | .error q => .error q
  | .ok x => match pN T 1 3 x.2 with
    | .error q => .error q
    | .ok y => match pS T 59 y.2 with
      | .error q => .error q
      | .ok e => .ok (setF d x.1 y.1, e)
def pTr (T : Tx) (d : Dr) (a : Nat) : Except Er (Dr × Nat) := match pN T 0 3 a with
  | .error q => .error q
  | .ok x => match pN T 1 200 x.2 with
    | .error q => .error q
    | .ok y => match pRw T 5 0 0 y.2 with
      | .error q => .error q
      | .ok z => match pS T 59 z.2 with
        | .error q => .error q
        | .ok e => .ok (addT d x.1 y.1 z.1, e)
def pEa (T : Tx) (d : Dr) (a : Nat) : Except Er (Dr × Nat) := match pN T 1 30 a with
  | .error q => .error q
  | .ok x => match pS T 59 x.2 with
    | .error q => .error q
    | .ok e => .ok (addE d x.1, e)
def pCl (T : Tx) (d : Dr) (a : Nat) : Except Er (Dr × Nat) :=
  if T.2 a = 102 then (if pH d.1 = 0 then pFi T d (a + 1) else .error (3, a))
  else if T.2 a = 116 then (if pH d.1 = 0 then .error (1, a) else if pm d.1 = 6 then .error (3, a) else pTr T d (a + 1))
  else if T.2 a = 101 then (if pH d.1 = 0 then .error (1, a) else if pn d.1 = 6 then .error (3, a) else pEa T d (a + 1))
  else .error (1, a)
/-- frames of the reading -/
def frd (σ σ' : zSg) : Prop := (∀ c, (c = 0 ∨ c = 2 ∨ 7 < c) → σ' c = σ c) ∧ σ' 1 1 = σ 1 1
theorem frd.refl (σ : zSg) : frd σ σ := ⟨fun _ _ => rfl, rfl⟩
theorem frd.trans {a c d : zSg} (h : frd a c) (h2 : frd c d) : frd a d := ⟨fun q hq => (h2.1 q hq).trans (h.1 q hq), h2.2.trans h.2⟩
theorem frn.d {σ σ' : zSg} (h : frn σ σ') : frd σ σ' := ⟨fun c hc => h.1 c (by omega), h.2 1 (by decide) (by decide) (by decide)⟩
theorem frd.dr {σ σ' : zSg} (h : ∀ c, (c < 3 ∨ 7 < c) → σ' c = σ c) : frd σ σ' := ⟨fun c hc => h c (by omega), by rw [h 1 (by decide)]⟩
theorem Rk.dr {σ σ' : zSg} {T : Tx} {a : Nat} (R : Rk σ T a) (h : ∀ c, (c < 3 ∨ 7 < c) → σ' c = σ c) : Rk σ' T a := by
  unfold Rk RdC at *
  rw [h 1 (by decide), h 2 (by decide)]
  exact R
def frR (σ σ' : zSg) : Prop := (∀ c, c ≠ 125 → (c < 127 ∨ 130 < c) → σ' c = σ c) ∧ ∀ j, (j < 2 ∨ j = 5 ∨ 9 < j) → σ' 125 j = σ 125 j
theorem frR.refl (σ : zSg) : frR σ σ := ⟨fun _ _ _ => rfl, fun _ _ => rfl⟩
theorem frR.trans {a c d : zSg} (h : frR a c) (h2 : frR c d) : frR a d := ⟨fun q a1 a2 => (h2.1 q a1 a2).trans (h.1 q a1 a2), fun j a1 => (h2.2 j a1).trans (h.2 j a1)⟩
theorem frN.r {σ σ' : zSg} (h : frN σ σ') : frR σ σ' := ⟨fun c a1 _ => h.1 c a1, fun j hj => h.2 j (by omega) (by omega) (by omega)⟩
theorem RdM.cong {σ σ' : zSg} {T : Tx} {a : Nat} (R : RdM σ T a) (h0 : σ' 125 0 = σ 125 0) (h2 : σ' 125 2 = σ 125 2) (h : σ' 126 = σ 126) : RdM σ' T a := by
  unfold RdM at *
  rw [h0, h2, h]
  exact R
theorem pRw_ok {T : Tx} : ∀ {d i s a s' e : Nat}, i + d = 5 → a ≤ T.1 → s < 2 ^ (5 * i) → pRw T d i s a = .ok (s', e) → s' < 2 ^ 25 ∧ a ≤ e ∧ e ≤ T.1
  | 0, i, s, a, s', e, hi, ha, hs, h => by
    rw [pRw] at h
    injection h with h
    injection h with h1 h2
    subst h1 h2
    have : i = 5 := by omega
    subst this
    exact ⟨hs, Nat.le_refl _, ha⟩
  | d + 1, i, s, a, s', e, hi, ha, hs, h => by
    rw [pRw] at h
    cases e1 : pS T 44 a with
    | error q => rw [e1] at h; cases h
    | ok a1 =>
      rw [e1] at h
      have h : (match pN T 0 31 a1 with | .error q => .error q | .ok x => pRw T d (i + 1) (s ||| x.1 * 2 ^ (5 * i)) x.2) = Except.ok (s', e) := h
      have b1 := pS_ok ha e1
      cases e2 : pN T 0 31 a1 with
      | error q => rw [e2] at h; cases h
      | ok x =>
        rw [e2] at h
        have h : pRw T d (i + 1) (s ||| x.1 * 2 ^ (5 * i)) x.2 = Except.ok (s', e) := h
        have b2 := pN_ok b1.2 (show pN T 0 31 a1 = .ok (x.1, x.2) from e2)
        have hs2 : s ||| x.1 * 2 ^ (5 * i) < 2 ^ (5 * (i + 1)) := by
          have hp : 2 ^ (5 * (i + 1)) = 32 * 2 ^ (5 * i) := by rw [Nat.mul_add, Nat.pow_add, Nat.mul_comm]
          have hpos := Nat.two_pow_pos (5 * i)
          refine Nat.or_lt_two_pow ?_ ?_
          · rw [hp]; omega
          · rw [hp]; exact Nat.mul_lt_mul_of_pos_right (by omega) hpos
        have b3 := pRw_ok (by omega) b2.2.2.2 hs2 h
        omega
section CLAUSES
variable {l : Launch} {D : zDD} {b : Nat} {γ : zGm} {σ : zSg} {τ : zLm} {T : Tx} {d : Dr} {Q : Int32 → zSg → zLm → Prop} {G : zSg → zLm → Prop}
theorem S_there (C : CD σ d) (o : okD d) (h : Q (bI (decide (0 < pH d.1))) σ τ) : SI l D b M_X6_isThere 0 G0 [.ref (b + 3)] σ τ Q := by
  have h0 : pH d.1 ≤ 20 := o.1.1
  refine s_X6_isThere_3 σ τ ⟨fun c => ?_, fun c => ?_⟩
  all_goals rw [C.1, show (0 : Int32) = nI 0 from rfl, nI_leI (by omega) (by omega)] at c
  · rw [decide_eq_false (by omega)] at h; exact h
  · rw [decide_eq_true (by omega)] at h; exact h
theorem S_blame {a n : Nat} (R : Rk σ T a) (h1 : 1 ≤ n) (h3 : n ≤ 3) (h : ∀ σ', Bq σ' T (n, a) → frn σ σ' → G σ' τ) : SV l D b M_X7_blame 0 G0 [.ref (b + 1), .int (nI n), .int (σ 1 3)] σ τ G := by
  rw [R.1.2.2.2.1]
  exact s_X7_blame _ _ σ τ ⟨fun c => absurd R.2.1 c, fun _ => h _ (R.bl (q := (n, a)) h1 h3) (frn.bl σ _ _)⟩
theorem C_fire {a : Nat} (R : Rk σ T a) (C : CD σ d) (o : okD d) (ha : a < T.1) (hw : T.2 a = 102) (hok : ∀ d' e σ', pCl T d a = .ok (d', e) → Rk σ' T e → CD σ' d' → okD d' → a < e → frd σ σ' → G σ' τ) (hbad : ∀ q σ', pCl T d a = .error q → Bq σ' T q → frd σ σ' → G σ' τ) : SV l D b M_X7_readFire 3 G0 [.ref (b + 1), .ref (b + 3)] σ τ G := by
  unfold pCl at hok hbad
  rw [if_pos hw] at hok hbad
  refine s_X7_readFire σ τ (S_there C o ⟨fun c => ?_, fun c => ?_⟩)
  · have hH : pH d.1 = 0 := by have := of_decide_eq_false ((bI_0 _).mp c); omega
    rw [if_pos hH] at hok hbad
    rw [R.1.2.2.2.1, nI_1]
    have R0 := R.mv (e := a + 1) (by omega)
    have F0 := frn.mv σ (nI (a + 1))
    unfold pFi at hok hbad
    have gs : ∀ q σ', Bq σ' T q → frn σ σ' → (∀ σ', Bq σ' T q → frn σ σ' → G σ' τ) → ∀ r3 r4 : Int32, SV l D b M_X7_readSign 2 G0 [.ref (b + 1), .int 59] σ' τ (fun σ5 τ5 => (¬ (σ5 1 4) = 0 → G σ5 τ5) ∧ ((σ5 1 4) = 0 → G (st2 (st2 σ5 3 0 r3) 3 1 r4) τ5)) := fun q σ' B' F' hg r3 r4 => G_sgn (s := 59) B' (by decide) (fun σ2 B2 F2 => ⟨fun _ => hg σ2 B2 (F'.trans F2), fun c => absurd c B2.ne⟩)
    refine S_num (lo := 1) (hi := 20) R0 (by decide) (by decide) (fun h e1 σ1 p1 R1 F1 => ?_) (fun q σ1 p1 B1 F1 => ?_)
    · rw [p1] at hok hbad
      have b1 := pN_ok R0.1.2.2.2.2 p1
      refine S_num (lo := 1) (hi := 3) R1 (by decide) (by decide) (fun v e2 σ2 p2 R2 F2 => ?_) (fun q σ2 p2 B2 F2 => ?_)
      · have hok : ∀ d' e σ', (match pN T 1 3 e1 with | .error q => .error q | .ok y => match pS T 59 y.2 with | .error q => .error q | .ok e => .ok (setF d h y.1, e)) = Except.ok (d', e) → _ := hok
        have hbad : ∀ q σ', (match pN T 1 3 e1 with | .error q => .error q | .ok y => match pS T 59 y.2 with | .error q => .error q | .ok e => .ok (setF d h y.1, e)) = Except.error q → _ := hbad
        rw [p2] at hok hbad
        have b2 := pN_ok R1.1.2.2.2.2 p2
        refine S_sgn (s := 59) R2 (by decide) (fun e3 σ3 p3 R3 F3 => ⟨fun c => absurd R3.2.1 c, fun _ => ?_⟩) (fun q σ3 p3 B3 F3 => ⟨fun _ => ?_, fun c => absurd c B3.ne⟩)
        · have hok : ∀ d' e σ', (match pS T 59 e2 with | .error q => .error q | .ok e => .ok (setF d h v, e)) = Except.ok (d', e) → _ := hok
          rw [p3] at hok
          have b3 := pS_ok R2.1.2.2.2.2 p3
          have F4 := ((F0.trans F1).trans F2).trans F3
          have C3 : CD σ3 d := C.cong (fun c c1 c2 => F4.1 c (by omega))
          have fd : ∀ c, (c < 3 ∨ 7 < c) → st2 (st2 σ3 3 0 (nI h)) 3 1 (nI v) c = σ3 c := fun c hc => by rw [st2_cell _ _ (by omega), st2_cell _ _ (by omega)]
          refine hok (setF d h v) e3 _ rfl (R3.dr fd) ⟨?_, ?_, ?_, ?_, ?_, ?_⟩ (okD_setF o b1.1 b1.2.1 b2.1 b2.2.1) (by omega) (F4.d.trans (frd.dr fd))
          · rw [st2_slot _ _ (by decide), st2_same]; rfl
          · rw [st2_same]; rfl
          · rw [st2_slot _ _ (by decide), st2_slot _ _ (by decide)]; exact C3.2.2.1
          · rw [st2_slot _ _ (by decide), st2_slot _ _ (by decide)]; exact C3.2.2.2.1
          · intro t ht
            rw [st2_cell _ _ (by decide), st2_cell _ _ (by decide), st2_cell _ _ (by decide), st2_cell _ _ (by decide), st2_cell _ _ (by decide), st2_cell _ _ (by decide)]
            exact C3.2.2.2.2.1 t ht
          · intro t ht
            rw [st2_cell _ _ (by decide), st2_cell _ _ (by decide)]
            exact C3.2.2.2.2.2 t ht
        · have hbad : ∀ q σ', (match pS T 59 e2 with | .error q => .error q | .ok e => .ok (setF d h v, e)) = Except.error q → _ := hbad
          rw [p3] at hbad
          exact hbad q σ3 rfl B3 (((F0.trans F1).trans F2).trans F3).d
      · have hbad : ∀ q σ', (match pN T 1 3 e1 with | .error q => .error q | .ok y => match pS T 59 y.2 with | .error q => .error q | .ok e => .ok (setF d h y.1, e)) = Except.error q → _ := hbad
        rw [p2] at hbad
        exact gs q σ2 B2 ((F0.trans F1).trans F2) (fun σ' B' F' => hbad q σ' rfl B' F'.d) _ _
    · rw [p1] at hbad
      refine G_num (lo := 1) (hi := 3) B1 (by decide) (by decide) (fun r σ2 B2 F2 => ?_)
      exact gs q σ2 B2 ((F0.trans F1).trans F2) (fun σ' B' F' => hbad q σ' rfl B' F'.d) _ _
  · have hH : ¬ pH d.1 = 0 := by have := of_decide_eq_true ((bI_n0 _).mp c); omega
    rw [if_neg hH] at hbad
    exact S_blame (n := 3) R (by decide) (by decide) (fun σ' B' F' => hbad (3, a) σ' rfl B' F'.d)
theorem G_rows {q : Er} : ∀ k, k ≤ 5 → ∀ (x2 x3 x4 : Int32) (σ : zSg), Bq σ T q → (∀ σ', Bq σ' T q → frn σ σ' → G σ' τ) → AV l D b M_X7_readTrouble 3 G0 G 51 [(0, .ref (b + 1)), (1, .ref (b + 3)), (2, .int x2), (3, .int x3), (4, .int x4), (5, .int (nI k))] [] G0 σ τ := by
  refine lp_up (P := fun k => ∀ (x2 x3 x4 : Int32) (σ : zSg), Bq σ T q → (∀ σ', Bq σ' T q → frn σ σ' → G σ' τ) → AV l D b M_X7_readTrouble 3 G0 G 51 [(0, .ref (b + 1)), (1, .ref (b + 3)), (2, .int x2), (3, .int x3), (4, .int x4), (5, .int (nI k))] [] G0 σ τ) (n := 5) ?_ ?_
  · intro k hk ih x2 x3 x4 σ B hg
    refine w_X7_readTrouble_51 _ _ _ _ σ τ ⟨fun c => ?_, fun _ => G_sgn (s := 44) B (by decide) (fun σ1 B1 F1 => G_num (lo := 0) (hi := 31) B1 (by decide) (by decide) (fun r σ2 B2 F2 v ev => ?_))⟩
    · rw [show (5 : Int32) = nI 5 from rfl, nI_leI (by omega) (by omega)] at c; omega
    · rw [nI_1]
      exact ih _ _ _ σ2 B2 (fun σ' B' F' => hg σ' B' ((F1.trans F2).trans F'))
  · intro x2 x3 x4 σ B hg
    exact w_X7_readTrouble_51 _ _ _ _ σ τ ⟨fun _ => G_sgn (s := 59) B (by decide) (fun σ1 B1 F1 => ⟨fun _ => hg σ1 B1 F1, fun c => absurd c B1.ne⟩), fun c => absurd (nI_le (Nat.le_refl 5) (by decide)) c⟩
theorem S_rows {x2 x3 : Int32} : ∀ dd i s a (σ : zSg), i + dd = 5 → s < 2 ^ (5 * i) → Rk σ T a → (∀ s' e σ', pRw T dd i s a = .ok (s', e) → Rk σ' T e → frn σ σ' → AV l D b M_X7_readTrouble 3 G0 G 51 [(0, .ref (b + 1)), (1, .ref (b + 3)), (2, .int x2), (3, .int x3), (4, .int (nI s')), (5, .int (nI 5))] [] G0 σ' τ) → (∀ q σ', pRw T dd i s a = .error q → Bq σ' T q → frn σ σ' → ∀ (x4 : Int32) k, k ≤ 5 → AV l D b M_X7_readTrouble 3 G0 G 51 [(0, .ref (b + 1)), (1, .ref (b + 3)), (2, .int x2), (3, .int x3), (4, .int x4), (5, .int (nI k))] [] G0 σ' τ) → AV l D b M_X7_readTrouble 3 G0 G 51 [(0, .ref (b + 1)), (1, .ref (b + 3)), (2, .int x2), (3, .int x3), (4, .int (nI s)), (5, .int (nI i))] [] G0 σ τ := by
  intro dd
  induction dd with
  | zero =>
    intro i s a σ hi hs R hok hbad
    have : i = 5 := by omega
    subst this
    exact hok s a σ rfl R (frn.refl σ)
  | succ dd ih =>
    intro i s a σ hi hs R hok hbad
    rw [pRw] at hok hbad
    refine w_X7_readTrouble_51 _ _ _ _ σ τ ⟨fun c => ?_, fun _ => S_sgn (s := 44) R (by decide) (fun e1 σ1 p1 R1 F1 => ?_) (fun q σ1 p1 B1 F1 => ?_)⟩
    · rw [show (5 : Int32) = nI 5 from rfl, nI_leI (by omega) (by omega)] at c; omega
    · rw [p1] at hok hbad
      have b1 := pS_ok R.1.2.2.2.2 p1
      have hok : ∀ s' e σ', (match pN T 0 31 e1 with | .error q => .error q | .ok x => pRw T dd (i + 1) (s ||| x.1 * 2 ^ (5 * i)) x.2) = Except.ok (s', e) → _ := hok
      have hbad : ∀ q σ', (match pN T 0 31 e1 with | .error q => .error q | .ok x => pRw T dd (i + 1) (s ||| x.1 * 2 ^ (5 * i)) x.2) = Except.error q → _ := hbad
      refine S_num (lo := 0) (hi := 31) R1 (by decide) (by decide) (fun r e2 σ2 p2 R2 F2 v ev => ?_) (fun q σ2 p2 B2 F2 v ev => ?_)
      · rw [p2] at hok hbad
        have b2 := pN_ok b1.2 p2
        have hpi : 2 ^ (5 * i) ≤ 2 ^ 20 := Nat.pow_le_pow_right (by decide) (by omega)
        have hprod : r * 2 ^ (5 * i) ≤ 31 * 2 ^ 20 := Nat.mul_le_mul b2.2.1 hpi
        rw [show (5 : Int32) = nI 5 from rfl, pk_mul, nI_shl (by omega) (by omega), fa_or] at ev
        rw [ev, nI_1]
        have hs2 : s ||| r * 2 ^ (5 * i) < 2 ^ (5 * (i + 1)) := by
          have hp : 2 ^ (5 * (i + 1)) = 32 * 2 ^ (5 * i) := by rw [Nat.mul_add, Nat.pow_add, Nat.mul_comm]
          have hpos := Nat.two_pow_pos (5 * i)
          refine Nat.or_lt_two_pow ?_ ?_
          · rw [hp]; omega
          · rw [hp]; exact Nat.mul_lt_mul_of_pos_right (by omega) hpos
        exact ih (i + 1) _ e2 σ2 (by omega) hs2 R2 (fun s' e σ' he R' F' => hok s' e σ' he R' ((F1.trans F2).trans F')) (fun q σ' he B' F' => hbad q σ' he B' ((F1.trans F2).trans F'))
      · rw [p2] at hbad
        rw [nI_1]
        exact hbad q σ2 rfl B2 (F1.trans F2) v (i + 1) (by omega)
    · rw [p1] at hbad
      refine G_num (lo := 0) (hi := 31) B1 (by decide) (by decide) (fun r σ2 B2 F2 v ev => ?_)
      rw [nI_1]
      exact hbad q σ2 rfl B2 (F1.trans F2) v (i + 1) (by omega)
theorem C_trouble {a : Nat} (R : Rk σ T a) (C : CD σ d) (o : okD d) (ha : a < T.1) (hw : T.2 a = 116) (hH : pH d.1 ≠ 0) (hok : ∀ d' e σ', pCl T d a = .ok (d', e) → Rk σ' T e → CD σ' d' → okD d' → a < e → frd σ σ' → G σ' τ) (hbad : ∀ q σ', pCl T d a = .error q → Bq σ' T q → frd σ σ' → G σ' τ) : SV l D b M_X7_readTrouble 3 G0 [.ref (b + 1), .ref (b + 3)] σ τ G := by
  have hm6 := o.1.2.2.1
  unfold pCl at hok hbad
  rw [if_neg (by omega), if_pos hw, if_neg hH] at hok hbad
  refine s_X7_readTrouble σ τ ?_
  rw [C.2.2.1, show (6 : Int32) = nI 6 from rfl, nI_ltI (by omega) (by omega)]
  refine ⟨fun c => ?_, fun c => ?_⟩
  · rw [if_neg (by omega)] at hok hbad
    rw [R.1.2.2.2.1, nI_1]
    have R0 := R.mv (e := a + 1) (by omega)
    have F0 := frn.mv σ (nI (a + 1))
    unfold pTr at hok hbad
    refine S_num (lo := 0) (hi := 3) R0 (by decide) (by decide) (fun k e1 σ1 p1 R1 F1 => ?_) (fun q σ1 p1 B1 F1 => ?_)
    · rw [p1] at hok hbad
      have b1 := pN_ok R0.1.2.2.2.2 p1
      have hok : ∀ d' e σ', (match pN T 1 200 e1 with | .error q => .error q | .ok y => match pRw T 5 0 0 y.2 with | .error q => .error q | .ok z => match pS T 59 z.2 with | .error q => .error q | .ok e => .ok (addT d k y.1 z.1, e)) = Except.ok (d', e) → _ := hok
      have hbad : ∀ q σ', (match pN T 1 200 e1 with | .error q => .error q | .ok y => match pRw T 5 0 0 y.2 with | .error q => .error q | .ok z => match pS T 59 z.2 with | .error q => .error q | .ok e => .ok (addT d k y.1 z.1, e)) = Except.error q → _ := hbad
      refine S_num (lo := 1) (hi := 200) R1 (by decide) (by decide) (fun h e2 σ2 p2 R2 F2 => ?_) (fun q σ2 p2 B2 F2 => ?_)
      · rw [p2] at hok hbad
        have b2 := pN_ok b1.2.2.2 p2
        have hok : ∀ d' e σ', (match pRw T 5 0 0 e2 with | .error q => .error q | .ok z => match pS T 59 z.2 with | .error q => .error q | .ok e => .ok (addT d k h z.1, e)) = Except.ok (d', e) → _ := hok
        have hbad : ∀ q σ', (match pRw T 5 0 0 e2 with | .error q => .error q | .ok z => match pS T 59 z.2 with | .error q => .error q | .ok e => .ok (addT d k h z.1, e)) = Except.error q → _ := hbad
        refine S_rows 5 0 0 e2 σ2 rfl (by decide) R2 (fun s e3 σ3 p3 R3 F3 => ?_) (fun q σ3 p3 B3 F3 x4 j hj => ?_)
        · rw [p3] at hok hbad
          have b3 := pRw_ok (by rfl) b2.2.2.2 (by decide) p3
          have hok : ∀ d' e σ', (match pS T 59 e3 with | .error q => .error q | .ok e => .ok (addT d k h s, e)) = Except.ok (d', e) → _ := hok
          have hbad : ∀ q σ', (match pS T 59 e3 with | .error q => .error q | .ok e => .ok (addT d k h s, e)) = Except.error q → _ := hbad
          refine w_X7_readTrouble_51 _ _ _ _ σ3 τ ⟨fun _ => S_sgn (s := 59) R3 (by decide) (fun e4 σ4 p4 R4 F4 => ⟨fun c => absurd R4.2.1 c, fun _ => ?_⟩) (fun q σ4 p4 B4 F4 => ⟨fun _ => ?_, fun c => absurd c B4.ne⟩), fun c => absurd (nI_le (Nat.le_refl 5) (by decide)) c⟩
          · rw [p4] at hok
            have b4 := pS_ok b3.2.2 p4
            have F5 := (((F0.trans F1).trans F2).trans F3).trans F4
            have C4 : CD σ4 d := C.cong (fun c c1 c2 => F5.1 c (by omega))
            refine s_X6_addTrouble _ _ _ σ4 τ ?_
            have e32 : σ4 3 2 = nI (pm d.1) := C4.2.2.1
            rw [st2_cell (c := 5) (q := 3) _ _ (by decide), st2_cell (c := 4) (q := 3) _ _ (by decide), e32, nI_c (by omega), show (6 : Int32) = nI 6 from rfl, nI_leI (by omega) (by omega)]
            refine ⟨fun q => by omega, fun _ => ⟨vp_in_t c (by decide), vp_in_t c (by decide), vp_in_t c (by decide), fun σ5 es => ?_⟩⟩
            have e5 : σ5 3 2 = nI (pm d.1) := by rw [es, st2_cell _ _ (by decide), st2_cell _ _ (by decide), st2_cell _ _ (by decide)]; exact e32
            rw [e5, nI_1]
            have fd : ∀ c, (c < 3 ∨ 7 < c) → st2 σ5 3 2 (nI (pm d.1 + 1)) c = σ4 c := fun c hc => by rw [st2_cell _ _ (by omega), es, st2_cell _ _ (by omega), st2_cell _ _ (by omega), st2_cell _ _ (by omega)]
            have f3 : σ5 3 = σ4 3 := by rw [es, st2_cell _ _ (by decide), st2_cell _ _ (by decide), st2_cell _ _ (by decide)]
            refine hok (addT d k h s) e4 _ rfl (R4.dr fd) ⟨?_, ?_, ?_, ?_, ?_, ?_⟩ (okD_addT o hH c b1.2.1 b2.2.1 b3.1) (by omega) (F5.d.trans (frd.dr fd))
            · rw [st2_slot _ _ (by decide), f3]; exact C4.1
            · rw [st2_slot _ _ (by decide), f3]; exact C4.2.1
            · rw [st2_same]; rfl
            · rw [st2_slot _ _ (by decide), f3]; exact C4.2.2.2.1
            · intro t ht
              have ht : t < pm d.1 + 1 := ht
              have g := fun q => C4.2.2.2.2.1 t q
              refine ⟨?_, ?_, ?_⟩
              · rw [st2_cell _ _ (by decide), es, st2_cell _ _ (by decide), st2_cell _ _ (by decide), st2_row]
                exact up_nI (fun q => (g (by omega)).1)
              · rw [st2_cell _ _ (by decide), es, st2_cell _ _ (by decide), st2_row, st2_cell _ _ (by decide)]
                exact up_nI (fun q => (g (by omega)).2.1)
              · rw [st2_cell _ _ (by decide), es, st2_row, st2_cell _ _ (by decide), st2_cell _ _ (by decide)]
                exact up_nI (fun q => (g (by omega)).2.2)
            · intro t ht
              rw [st2_cell _ _ (by decide), es, st2_cell _ _ (by decide), st2_cell _ _ (by decide), st2_cell _ _ (by decide)]
              exact C4.2.2.2.2.2 t ht
          · rw [p4] at hbad
            exact hbad q σ4 rfl B4 ((((F0.trans F1).trans F2).trans F3).trans F4).d
        · rw [p3] at hbad
          exact G_rows j hj _ _ _ σ3 B3 (fun σ' B' F' => hbad q σ' rfl B' ((((F0.trans F1).trans F2).trans F3).trans F').d)
      · rw [p2] at hbad
        exact G_rows 0 (by decide) _ _ _ σ2 B2 (fun σ' B' F' => hbad q σ' rfl B' (((F0.trans F1).trans F2).trans F').d)
    · rw [p1] at hbad
      exact G_num (lo := 1) (hi := 200) B1 (by decide) (by decide) (fun r σ2 B2 F2 => G_rows 0 (by decide) _ _ _ σ2 B2 (fun σ' B' F' => hbad q σ' rfl B' (((F0.trans F1).trans F2).trans F').d))
  · rw [if_pos (by omega)] at hbad
    exact S_blame (n := 3) R (by decide) (by decide) (fun σ' B' F' => hbad (3, a) σ' rfl B' F'.d)
theorem C_eater {a : Nat} (R : Rk σ T a) (C : CD σ d) (o : okD d) (ha : a < T.1) (hw : T.2 a = 101) (hH : pH d.1 ≠ 0) (hok : ∀ d' e σ', pCl T d a = .ok (d', e) → Rk σ' T e → CD σ' d' → okD d' → a < e → frd σ σ' → G σ' τ) (hbad : ∀ q σ', pCl T d a = .error q → Bq σ' T q → frd σ σ' → G σ' τ) : SV l D b M_X7_readEater 3 G0 [.ref (b + 1), .ref (b + 3)] σ τ G := by
  have hm6 := o.1.2.2.2.1
  unfold pCl at hok hbad
  rw [if_neg (by omega), if_neg (by omega), if_pos hw, if_neg hH] at hok hbad
  refine s_X7_readEater σ τ ?_
  rw [C.2.2.2.1, show (6 : Int32) = nI 6 from rfl, nI_ltI (by omega) (by omega)]
  refine ⟨fun c => ?_, fun c => ?_⟩
  · rw [if_neg (by omega)] at hok hbad
    rw [R.1.2.2.2.1, nI_1]
    have R0 := R.mv (e := a + 1) (by omega)
    have F0 := frn.mv σ (nI (a + 1))
    unfold pEa at hok hbad
    refine S_num (lo := 1) (hi := 30) R0 (by decide) (by decide) (fun v e1 σ1 p1 R1 F1 => ?_) (fun q σ1 p1 B1 F1 => ?_)
    · rw [p1] at hok hbad
      have b1 := pN_ok R0.1.2.2.2.2 p1
      have hok : ∀ d' e σ', (match pS T 59 e1 with | .error q => .error q | .ok e => .ok (addE d v, e)) = Except.ok (d', e) → _ := hok
      have hbad : ∀ q σ', (match pS T 59 e1 with | .error q => .error q | .ok e => .ok (addE d v, e)) = Except.error q → _ := hbad
      refine S_sgn (s := 59) R1 (by decide) (fun e2 σ2 p2 R2 F2 => ⟨fun c => absurd R2.2.1 c, fun _ => ?_⟩) (fun q σ2 p2 B2 F2 => ⟨fun _ => ?_, fun c => absurd c B2.ne⟩)
      · rw [p2] at hok
        have b2 := pS_ok b1.2.2.2 p2
        have F3 := (F0.trans F1).trans F2
        have C2 : CD σ2 d := C.cong (fun c c1 c2 => F3.1 c (by omega))
        refine s_X6_addEater _ σ2 τ ?_
        have e33 : σ2 3 3 = nI (pn d.1) := C2.2.2.2.1
        rw [st2_cell (c := 7) (q := 3) _ _ (by decide), e33, nI_c (by omega), show (6 : Int32) = nI 6 from rfl, nI_leI (by omega) (by omega), nI_1]
        refine ⟨fun q => by omega, fun _ => ⟨vp_in_t c (by decide), ?_⟩⟩
        have fd : ∀ c, (c < 3 ∨ 7 < c) → st2 (st2 σ2 7 (pn d.1) (nI v)) 3 3 (nI (pn d.1 + 1)) c = σ2 c := fun c hc => by rw [st2_cell _ _ (by omega), st2_cell _ _ (by omega)]
        refine hok (addE d v) e2 _ rfl (R2.dr fd) ⟨?_, ?_, ?_, ?_, ?_, ?_⟩ (okD_addE o hH c b1.1 b1.2.1) (by omega) (F3.d.trans (frd.dr fd))
        · rw [st2_slot _ _ (by decide), st2_cell _ _ (by decide)]; exact C2.1
        · rw [st2_slot _ _ (by decide), st2_cell _ _ (by decide)]; exact C2.2.1
        · rw [st2_slot _ _ (by decide), st2_cell _ _ (by decide)]; exact C2.2.2.1
        · rw [st2_same]; rfl
        · intro t ht
          rw [st2_cell _ _ (by decide), st2_cell _ _ (by decide), st2_cell _ _ (by decide), st2_cell _ _ (by decide), st2_cell _ _ (by decide), st2_cell _ _ (by decide)]
          exact C2.2.2.2.2.1 t ht
        · intro t ht
          have ht : t < pn d.1 + 1 := ht
          rw [st2_cell _ _ (by decide), st2_row]
          exact up_nI (fun q => C2.2.2.2.2.2 t (by omega))
      · rw [p2] at hbad
        exact hbad q σ2 rfl B2 ((F0.trans F1).trans F2).d
    · rw [p1] at hbad
      exact G_sgn (s := 59) B1 (by decide) (fun σ2 B2 F2 => ⟨fun _ => hbad q σ2 rfl B2 ((F0.trans F1).trans F2).d, fun c => absurd c B2.ne⟩)
  · rw [if_pos (by omega)] at hbad
    exact S_blame (n := 3) R (by decide) (by decide) (fun σ' B' F' => hbad (3, a) σ' rfl B' F'.d)
theorem C_clause {a : Nat} (R : Rk σ T a) (C : CD σ d) (o : okD d) (ha : a < T.1) (hok : ∀ d' e σ', pCl T d a = .ok (d', e) → Rk σ' T e → CD σ' d' → okD d' → a < e → frd σ σ' → G σ' τ) (hbad : ∀ q σ', pCl T d a = .error q → Bq σ' T q → frd σ σ' → G σ' τ) : SV l D b M_X7_readClause 4 G0 [.ref (b + 1), .ref (b + 3)] σ τ G := by
  have hl := R.1.1.2 a ha
  have el : ltr T a = nI (T.2 a) := by unfold ltr; rw [if_pos ha]
  have f61 : pCl T d a = .error (1, a) → AV l D b M_X7_readClause 4 G0 G 61 [(0, .ref (b + 1))] [] G0 σ τ := fun e => w_X7_readClause_61 σ τ (S_blame (n := 1) R (by decide) (by decide) (fun σ' B' F' => hbad (1, a) σ' e B' F'.d))
  have f40 : ¬ T.2 a = 102 → (T.2 a = 116 → pH d.1 = 0) → AV l D b M_X7_readClause 4 G0 G 40 [(0, .ref (b + 1)), (1, .ref (b + 3)), (2, .int (nI (T.2 a)))] [] G0 σ τ := by
    intro n1 n2
    refine w_X7_readClause_40 _ σ τ ?_
    rw [show (101 : Int32) = nI 101 from rfl, nI_eq (by omega) (by omega)]
    refine ⟨fun q => f61 ?_, fun q => S_there C o ⟨fun c => f61 ?_, fun c => ?_⟩⟩
    · unfold pCl
      rw [if_neg n1]
      by_cases q2 : T.2 a = 116
      · rw [if_pos q2, if_pos (n2 q2)]
      · rw [if_neg q2, if_neg q]
    · have hH : pH d.1 = 0 := by have := of_decide_eq_false ((bI_0 _).mp c); omega
      unfold pCl
      rw [if_neg n1, if_neg (by omega), if_pos q, if_pos hH]
    · have hH : ¬ pH d.1 = 0 := by have := of_decide_eq_true ((bI_n0 _).mp c); omega
      exact C_eater R C o ha q hH hok hbad
  refine s_X7_readClause σ τ (S_here R.1 ?_)
  rw [el, show (102 : Int32) = nI 102 from rfl, show (116 : Int32) = nI 116 from rfl, nI_eq (by omega) (by omega), nI_eq (by omega) (by omega)]
  refine ⟨fun q => ⟨fun q2 => f40 q (fun e => absurd e q2), fun q2 => S_there C o ⟨fun c => f40 q (fun _ => ?_), fun c => ?_⟩⟩, fun q => C_fire R C o ha q hok hbad⟩
  · have := of_decide_eq_false ((bI_0 _).mp c); omega
  · have hH : ¬ pH d.1 = 0 := by have := of_decide_eq_true ((bI_n0 _).mp c); omega
    exact C_trouble R C o ha q2 hH hok hbad
end CLAUSES
