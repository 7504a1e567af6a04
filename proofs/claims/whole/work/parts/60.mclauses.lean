/-! THE TEXT: clauses, the reference; both ways through the whole text. -/
theorem Mq.cong {σ σ' : zSg} {q : Er} (h : Mq σ q) (h4 : σ' 125 4 = σ 125 4) (h2 : σ' 125 2 = σ 125 2) : Mq σ' q := ⟨h4.trans h.1, h2.trans h.2⟩
def pK (T : Tx) : Nat → Dr → Nat → Except Er Dr
  | 0, d, _ => .ok d
  | f + 1, d, a => if sk T a < T.1 then (match pCl T d (sk T a) with
    | .error q => .error q
    | .ok x => pK T f x.1 x.2) else .ok d
theorem pK_sk (T : Tx) (d : Dr) (a : Nat) : ∀ f, pK T f d (sk T a) = pK T f d a
  | 0 => rfl
  | f + 1 => by rw [pK, pK, sk_sk]
section MCL
variable {l : Launch} {D : zDD} {b : Nat} {γ : zGm} {σ : zSg} {τ : zLm} {T : Tx} {d : Dr} {Q : Int32 → zSg → zLm → Prop} {G : zSg → zLm → Prop}
theorem M_head {a : Nat} (R : RdM σ T a) (C : MD σ d) (hok : ∀ d' e σ', pFi T d a = .ok (d', e) → RdM σ' T e → MD σ' d' → frR σ σ' → Q 1 σ' τ) (hbad : ∀ q σ', pFi T d a = .error q → Mq σ' q → frR σ σ' → Q 0 σ' τ) : SI l D b M_X12_readsHead 3 G0 [.ref (b + 125)] σ τ Q := by
  unfold pFi at hok hbad
  refine s_X12_readsHead σ τ (M_num (lo := 1) (hi := 20) R (by decide) (by decide) (fun h e1 σ1 p1 R1 F1 => ⟨fun _ => ?_, fun q => ?_⟩) (fun q σ1 p1 B1 F1 => ⟨fun c => absurd rfl c, fun _ => ?_⟩))
  · rw [p1] at hok hbad
    have b1 := pN_ok R.2.2.2.2 p1
    have hok : ∀ d' e σ', (match pN T 1 3 e1 with | .error q => .error q | .ok y => match pS T 59 y.2 with | .error q => .error q | .ok e => .ok (setF d h y.1, e)) = Except.ok (d', e) → _ := hok
    have hbad : ∀ q σ', (match pN T 1 3 e1 with | .error q => .error q | .ok y => match pS T 59 y.2 with | .error q => .error q | .ok e => .ok (setF d h y.1, e)) = Except.error q → _ := hbad
    refine M_num (lo := 1) (hi := 3) R1 (by decide) (by decide) (fun v e2 σ2 p2 R2 F2 => ?_) (fun q σ2 p2 B2 F2 => ?_)
    · rw [p2] at hok hbad
      have b2 := pN_ok b1.2.2.2 p2
      have hok : ∀ d' e σ', (match pS T 59 e2 with | .error q => .error q | .ok e => .ok (setF d h v, e)) = Except.ok (d', e) → _ := hok
      have hbad : ∀ q σ', (match pS T 59 e2 with | .error q => .error q | .ok e => .ok (setF d h v, e)) = Except.error q → _ := hbad
      refine w_X12_readsHead_23 _ _ σ2 τ ⟨fun c => absurd c (nI_m1 (by omega)), fun _ => ?_⟩
      have F12 := F1.trans F2
      have C2 : MD σ2 d := C.cong (fun c c1 c2 => F12.1 c (by omega)) (fun j j1 j2 => F12.2 j (by omega) (by omega) (by omega))
      generalize hs : st2 (st2 σ2 125 6 (nI h)) 125 7 (nI v) = σ3
      have g : ∀ c, c ≠ 125 → σ3 c = σ2 c := fun c hc => by rw [← hs, st2_cell _ _ hc, st2_cell _ _ hc]
      have gj : ∀ j, j ≠ 6 → j ≠ 7 → σ3 125 j = σ2 125 j := fun j j1 j2 => by rw [← hs, st2_slot _ _ j2, st2_slot _ _ j1]
      have C3 : MD σ3 (setF d h v) := ⟨by rw [← hs, st2_slot _ _ (by decide), st2_same]; rfl, by rw [← hs, st2_same]; rfl, (gj 8 (by decide) (by decide)).trans C2.2.2.1, (gj 9 (by decide) (by decide)).trans C2.2.2.2.1, fun t ht => by rw [g 127 (by decide), g 128 (by decide), g 129 (by decide)]; exact C2.2.2.2.2.1 t ht, fun t ht => by rw [g 130 (by decide)]; exact C2.2.2.2.2.2 t ht⟩
      have R3 : RdM σ3 T e2 := R2.cong (gj 0 (by decide) (by decide)) (gj 2 (by decide) (by decide)) (g 126 (by decide))
      have F3 : frR σ σ3 := F12.r.trans ⟨fun c c1 c2 => g c c1, fun j hj => gj j (by omega) (by omega)⟩
      refine M_sgn (s := 59) R3 (by decide) (fun e3 σ4 p3 R4 F4 => ⟨fun q => absurd q one0, fun _ => ?_⟩) (fun q σ4 p3 B4 F4 => ⟨fun _ => ?_, fun c => absurd rfl c⟩)
      · rw [p3] at hok
        exact hok _ _ σ4 rfl R4 (C3.cong (fun c c1 c2 => F4.1 c (by omega)) (fun j j1 j2 => F4.2 j (by omega) (by omega) (by omega))) (F3.trans F4.r)
      · rw [p3] at hbad
        exact hbad q σ4 rfl B4 (F3.trans F4.r)
    · rw [p2] at hbad
      refine w_X12_readsHead_23 _ _ σ2 τ ⟨fun _ => hbad q _ rfl (B2.cong ?_ ?_) ((F1.trans F2).r.trans ⟨fun c c1 c2 => by rw [st2_cell _ _ c1, st2_cell _ _ c1], fun j hj => by rw [st2_slot _ _ (by omega), st2_slot _ _ (by omega)]⟩), fun c => absurd rfl c⟩
      · rw [st2_slot _ _ (by decide), st2_slot _ _ (by decide)]
      · rw [st2_slot _ _ (by decide), st2_slot _ _ (by decide)]
  · have b1 := pN_ok R.2.2.2.2 p1
    exact absurd q (nI_m1 (by omega))
  · rw [p1] at hbad
    refine w_X12_readsHead_23 _ _ σ1 τ ⟨fun _ => hbad q _ rfl (B1.cong ?_ ?_) (F1.r.trans ⟨fun c c1 c2 => by rw [st2_cell _ _ c1, st2_cell _ _ c1], fun j hj => by rw [st2_slot _ _ (by omega), st2_slot _ _ (by omega)]⟩), fun c => absurd rfl c⟩
    · rw [st2_slot _ _ (by decide), st2_slot _ _ (by decide)]
    · rw [st2_slot _ _ (by decide), st2_slot _ _ (by decide)]
theorem M_eater {a : Nat} (R : RdM σ T a) (C : MD σ d) (hn : pn d.1 < 6) (hok : ∀ d' e σ', pEa T d a = .ok (d', e) → RdM σ' T e → MD σ' d' → frR σ σ' → Q 1 σ' τ) (hbad : ∀ q σ', pEa T d a = .error q → Mq σ' q → frR σ σ' → Q 0 σ' τ) : SI l D b M_X12_readsEater 3 G0 [.ref (b + 125)] σ τ Q := by
  unfold pEa at hok hbad
  have fin : ∀ σ1 (r : Int32), frN σ σ1 → (st2 (st2 σ1 130 ((σ1 125 9).toNatClampNeg) r) 125 9 (((st2 σ1 130 ((σ1 125 9).toNatClampNeg) r) 125 9) + 1)) = st2 (st2 σ1 130 (pn d.1) r) 125 9 (nI (pn d.1 + 1)) := by
    intro σ1 r F1
    have e9 : σ1 125 9 = nI (pn d.1) := (F1.2 9 (by decide) (by decide) (by decide)).trans C.2.2.2.1
    rw [st2_cell (c := 130) (q := 125) _ _ (by decide), e9, nI_1, nI_c (by omega)]
  refine s_X12_readsEater σ τ (M_num (lo := 1) (hi := 30) R (by decide) (by decide) (fun v e1 σ1 p1 R1 F1 => ?_) (fun q σ1 p1 B1 F1 => ?_))
  · have e9 : σ1 125 9 = nI (pn d.1) := (F1.2 9 (by decide) (by decide) (by decide)).trans C.2.2.2.1
    have b1 := pN_ok R.2.2.2.2 p1
    rw [p1] at hok hbad
    have hok : ∀ d' e σ', (match pS T 59 e1 with | .error q => .error q | .ok e => .ok (addE d v, e)) = Except.ok (d', e) → _ := hok
    have hbad : ∀ q σ', (match pS T 59 e1 with | .error q => .error q | .ok e => .ok (addE d v, e)) = Except.error q → _ := hbad
    refine ⟨by rw [e9]; exact vp_in_t hn (by decide), fun q => absurd q (nI_m1 (by omega)), fun _ => ?_⟩
    rw [fin σ1 _ F1]
    generalize hs : st2 (st2 σ1 130 (pn d.1) (nI v)) 125 9 (nI (pn d.1 + 1)) = σ3
    have g : ∀ c, c ≠ 125 → c ≠ 130 → σ3 c = σ1 c := fun c h1 h2 => by rw [← hs, st2_cell _ _ h1, st2_cell _ _ h2]
    have gj : ∀ j, j ≠ 9 → σ3 125 j = σ1 125 j := fun j j1 => by rw [← hs, st2_slot _ _ j1, st2_cell _ _ (by decide)]
    have C1 : MD σ1 d := C.cong (fun c c1 c2 => F1.1 c (by omega)) (fun j j1 j2 => F1.2 j (by omega) (by omega) (by omega))
    have C3 : MD σ3 (addE d v) := ⟨(gj 6 (by decide)).trans C1.1, (gj 7 (by decide)).trans C1.2.1, (gj 8 (by decide)).trans C1.2.2.1, by rw [← hs, st2_same]; rfl, fun t ht => by rw [g 127 (by decide) (by decide), g 128 (by decide) (by decide), g 129 (by decide) (by decide)]; exact C1.2.2.2.2.1 t ht, fun t ht => by
      have ht : t < pn d.1 + 1 := ht
      rw [← hs, st2_cell _ _ (by decide), st2_row]
      exact up_nI (fun q => C1.2.2.2.2.2 t (by omega))⟩
    have R3 : RdM σ3 T e1 := R1.cong (gj 0 (by decide)) (gj 2 (by decide)) (g 126 (by decide) (by decide))
    have F3 : frR σ σ3 := F1.r.trans ⟨fun c c1 c2 => g c c1 (by omega), fun j hj => gj j (by omega)⟩
    refine M_sgn (s := 59) R3 (by decide) (fun e3 σ4 p3 R4 F4 => ⟨fun q => absurd q one0, fun _ => ?_⟩) (fun q σ4 p3 B4 F4 => ⟨fun _ => ?_, fun c => absurd rfl c⟩)
    · rw [p3] at hok
      exact hok _ _ σ4 rfl R4 (C3.cong (fun c c1 c2 => F4.1 c (by omega)) (fun j j1 j2 => F4.2 j (by omega) (by omega) (by omega))) (F3.trans F4.r)
    · rw [p3] at hbad
      exact hbad q σ4 rfl B4 (F3.trans F4.r)
  · have e9 : σ1 125 9 = nI (pn d.1) := (F1.2 9 (by decide) (by decide) (by decide)).trans C.2.2.2.1
    rw [p1] at hbad
    refine ⟨by rw [e9]; exact vp_in_t hn (by decide), fun _ => ?_, fun c => absurd rfl c⟩
    rw [fin σ1 _ F1]
    refine hbad q _ rfl (B1.cong ?_ ?_) (F1.r.trans ⟨fun c c1 c2 => by rw [st2_cell _ _ c1, st2_cell _ _ (by omega)], fun j hj => by rw [st2_slot _ _ (by omega), st2_cell _ _ (by decide)]⟩)
    · rw [st2_slot _ _ (by decide), st2_cell _ _ (by decide)]
    · rw [st2_slot _ _ (by decide), st2_cell _ _ (by decide)]
theorem M_bad70 {m i : Nat} {q : Er} (B : Mq σ q) (h : ∀ σ', Mq σ' q → frR σ σ' → Q 0 σ' τ) : AI l D b M_X12_readsTrouble 3 G0 Q 70 [(0, .ref (b + 125)), (1, .int (nI m)), (2, .int 0), (3, .int (nI i))] [] G0 σ τ := by
  have f142 : AI l D b M_X12_readsTrouble 3 G0 Q 142 [(0, .ref (b + 125)), (2, .int 0)] [] G0 σ τ := by
    refine w_X12_readsTrouble_142 _ σ τ ⟨fun _ => h _ (B.cong ?_ ?_) ⟨fun c c1 c2 => st2_cell _ _ c1, fun j hj => st2_slot _ _ (by omega)⟩, fun c => absurd rfl c⟩
    · rw [st2_slot _ _ (by decide)]
    · rw [st2_slot _ _ (by decide)]
  exact w_X12_readsTrouble_70 _ _ _ σ τ ⟨fun _ => f142, fun _ => ⟨fun _ => f142, fun c => absurd rfl c⟩⟩
theorem M_rows {m : Nat} (hm : m < 6) : ∀ dd i s a (σ : zSg), i + dd = 5 → s < 2 ^ (5 * i) → RdM σ T a → σ 129 m = nI s → (∀ s' e σ', pRw T dd i s a = .ok (s', e) → RdM σ' T e → σ' 129 m = nI s' → (∀ c, c ≠ 125 → c ≠ 129 → σ' c = σ c) → (∀ t, t ≠ m → σ' 129 t = σ 129 t) → (∀ j, j ≠ 2 → j ≠ 3 → j ≠ 4 → σ' 125 j = σ 125 j) → AI l D b M_X12_readsTrouble 3 G0 Q 142 [(0, .ref (b + 125)), (2, .int 1)] [] G0 σ' τ) → (∀ q σ', pRw T dd i s a = .error q → Mq σ' q → frR σ σ' → Q 0 σ' τ) → AI l D b M_X12_readsTrouble 3 G0 Q 70 [(0, .ref (b + 125)), (1, .int (nI m)), (2, .int 1), (3, .int (nI i))] [] G0 σ τ := by
  intro dd
  induction dd with
  | zero =>
    intro i s a σ hi hs R es hok hbad
    have : i = 5 := by omega
    subst this
    exact w_X12_readsTrouble_70 _ _ _ σ τ ⟨fun _ => hok s a σ rfl R es (fun _ _ _ => rfl) (fun _ _ => rfl) (fun _ _ _ _ => rfl), fun c => absurd (nI_le (Nat.le_refl 5) (by decide)) c⟩
  | succ dd ih =>
    intro i s a σ hi hs R es hok hbad
    rw [pRw] at hok hbad
    have bad : ∀ q σ', Mq σ' q → frN σ σ' → (∀ σ'', Mq σ'' q → frR σ σ'' → Q 0 σ'' τ) → AI l D b M_X12_readsTrouble 3 G0 Q 99 [(0, .ref (b + 125)), (1, .int (nI m)), (3, .int (nI i))] [.int (-1)] G0 σ' τ := by
      intro q σ' B' F' hg
      refine w_X12_readsTrouble_99 _ _ _ σ' τ ⟨fun _ => w_X12_readsTrouble_112 _ _ _ _ σ' τ ⟨vp_in_t hm (by decide), fun _ => ⟨vp_in_t hm (by decide), ?_⟩, fun c => absurd rfl c⟩, fun c => absurd rfl c⟩
      rw [nI_1]
      refine M_bad70 (B'.cong (by rw [st2_cell _ _ (by decide)]) (by rw [st2_cell _ _ (by decide)])) (fun σ'' B'' F'' => hg σ'' B'' (F'.r.trans (frR.trans ⟨fun c c1 c2 => st2_cell _ _ (by omega), fun j hj => by rw [st2_cell _ _ (by decide)]⟩ F'')))
    refine w_X12_readsTrouble_70 _ _ _ σ τ ⟨fun c => ?_, fun _ => ⟨fun c => absurd c one0, fun _ => M_sgn (s := 44) R (by decide) (fun e1 σ1 p1 R1 F1 => ⟨fun c => absurd c one0, fun _ => ?_⟩) (fun q σ1 p1 B1 F1 => ⟨fun _ => ?_, fun c => absurd rfl c⟩)⟩⟩
    · rw [show (5 : Int32) = nI 5 from rfl, nI_leI (by omega) (by omega)] at c; omega
    · rw [p1] at hok hbad
      have b1 := pS_ok R.2.2.2.2 p1
      have hok : ∀ s' e σ', (match pN T 0 31 e1 with | .error q => .error q | .ok x => pRw T dd (i + 1) (s ||| x.1 * 2 ^ (5 * i)) x.2) = Except.ok (s', e) → _ := hok
      have hbad : ∀ q σ', (match pN T 0 31 e1 with | .error q => .error q | .ok x => pRw T dd (i + 1) (s ||| x.1 * 2 ^ (5 * i)) x.2) = Except.error q → _ := hbad
      refine M_num (lo := 0) (hi := 31) R1 (by decide) (by decide) (fun r e2 σ2 p2 R2 F2 => ?_) (fun q σ2 p2 B2 F2 => ?_)
      · rw [p2] at hok hbad
        have b2 := pN_ok b1.2 p2
        have F12 := F1.trans F2
        have es2 : σ2 129 m = nI s := by rw [F12.1 129 (by decide)]; exact es
        have hpi : 2 ^ (5 * i) ≤ 2 ^ 20 := Nat.pow_le_pow_right (by decide) (by omega)
        have hprod : r * 2 ^ (5 * i) ≤ 31 * 2 ^ 20 := Nat.mul_le_mul b2.2.1 hpi
        have hs2 : s ||| r * 2 ^ (5 * i) < 2 ^ (5 * (i + 1)) := by
          have hp : 2 ^ (5 * (i + 1)) = 32 * 2 ^ (5 * i) := by rw [Nat.mul_add, Nat.pow_add, Nat.mul_comm]
          have hpos := Nat.two_pow_pos (5 * i)
          refine Nat.or_lt_two_pow ?_ ?_
          · rw [hp]; omega
          · rw [hp]; exact Nat.mul_lt_mul_of_pos_right (by omega) hpos
        refine w_X12_readsTrouble_99 _ _ _ σ2 τ ⟨fun c => absurd c (nI_m1 (by omega)), fun _ => w_X12_readsTrouble_112 _ _ _ _ σ2 τ ⟨vp_in_t hm (by decide), fun c => absurd c one0, fun _ => ⟨vp_in_t hm (by decide), ?_⟩⟩⟩
        rw [nI_c (by omega), es2, show (5 : Int32) = nI 5 from rfl, pk_mul, nI_shl (by omega) (by omega), fa_or, nI_1]
        refine ih (i + 1) _ e2 _ (by omega) hs2 (R2.cong (by rw [st2_cell _ _ (by decide)]) (by rw [st2_cell _ _ (by decide)]) (st2_cell _ _ (by decide))) (st2_same _ _ _ _) (fun s' e σ' he R' e' g1 g2 g3 => hok s' e σ' he R' e' (fun c c1 c2 => ?_) (fun t ht => ?_) (fun j j1 j2 j3 => ?_)) (fun q σ' he B' F' => hbad q σ' he B' (F12.r.trans (frR.trans ⟨fun c c1 c2 => st2_cell _ _ (by omega), fun j hj => by rw [st2_cell _ _ (by decide)]⟩ F')))
        · rw [g1 c c1 c2, st2_cell _ _ c2]; exact F12.1 c c1
        · rw [g2 t ht, st2_slot _ _ ht, F12.1 129 (by decide)]
        · rw [g3 j j1 j2 j3, st2_cell _ _ (by decide)]; exact F12.2 j j1 j2 j3
      · rw [p2] at hbad
        exact bad q σ2 B2 (F1.trans F2) (fun σ'' B'' F'' => hbad q σ'' rfl B'' F'')
    · rw [p1] at hbad
      exact bad q σ1 B1 F1 (fun σ'' B'' F'' => hbad q σ'' rfl B'' F'')
theorem M_troubleT {a : Nat} (R : RdM σ T a) (C : MD σ d) (hm : pm d.1 < 6) (hok : ∀ d' e σ', pTr T d a = .ok (d', e) → RdM σ' T e → MD σ' d' → frR σ σ' → Q 1 σ' τ) (hbad : ∀ q σ', pTr T d a = .error q → Mq σ' q → frR σ σ' → Q 0 σ' τ) : SI l D b M_X12_readsTrouble 3 G0 [.ref (b + 125)] σ τ Q := by
  unfold pTr at hok hbad
  refine s_X12_readsTrouble σ τ ?_
  rw [C.2.2.1, nI_c (by omega)]
  generalize hmm : pm d.1 = m at *
  -- a fault ahead of the rows
  have bad44 : ∀ q σ', Mq σ' q → frR σ σ' → (∀ σ'', Mq σ'' q → frR σ σ'' → Q 0 σ'' τ) → AI l D b M_X12_readsTrouble 3 G0 Q 44 [(0, .ref (b + 125)), (1, .int (nI m))] [.int (-1), .int (nI m), .ref (b + 128)] G0 σ' τ := by
    intro q σ' B' F' hg
    refine w_X12_readsTrouble_44 _ _ _ σ' τ ⟨vp_in_t hm (by decide), vp_in_t hm (by decide), vp_in_t hm (by decide), ?_⟩
    rw [nI_c (by omega), st2_cell (c := 129) (q := 128) _ _ (by decide), st2_same]
    refine ⟨fun _ => M_bad70 (i := 0) (B'.cong ?_ ?_) (fun σ'' B'' F'' => hg σ'' B'' (F'.trans (frR.trans ⟨fun c c1 c2 => ?_, fun j hj => ?_⟩ F''))), fun c => absurd rfl c⟩
    · rw [st2_cell _ _ (by decide), st2_cell _ _ (by decide)]
    · rw [st2_cell _ _ (by decide), st2_cell _ _ (by decide)]
    · rw [st2_cell _ _ (by omega), st2_cell _ _ (by omega)]
    · rw [st2_cell _ _ (by decide), st2_cell _ _ (by decide)]
  refine M_num (lo := 0) (hi := 3) R (by decide) (by decide) (fun k e1 σ1 p1 R1 F1 => ⟨vp_in_t hm (by decide), vp_in_t hm (by decide), ?_⟩) (fun q σ1 p1 B1 F1 => ⟨vp_in_t hm (by decide), vp_in_t hm (by decide), ?_⟩)
  · rw [p1] at hok hbad
    have b1 := pN_ok R.2.2.2.2 p1
    have hok : ∀ d' e σ', (match pN T 1 200 e1 with | .error q => .error q | .ok y => match pRw T 5 0 0 y.2 with | .error q => .error q | .ok z => match pS T 59 z.2 with | .error q => .error q | .ok e => .ok (addT d k y.1 z.1, e)) = Except.ok (d', e) → _ := hok
    have hbad : ∀ q σ', (match pN T 1 200 e1 with | .error q => .error q | .ok y => match pRw T 5 0 0 y.2 with | .error q => .error q | .ok z => match pS T 59 z.2 with | .error q => .error q | .ok e => .ok (addT d k y.1 z.1, e)) = Except.error q → _ := hbad
    rw [st2_same]
    refine ⟨fun _ => ?_, fun c => absurd c (nI_m1 (by omega))⟩
    generalize hs1 : st2 σ1 127 m (nI k) = σ1'
    have g1 : ∀ c, c ≠ 127 → σ1' c = σ1 c := fun c hc => by rw [← hs1, st2_cell _ _ hc]
    have R1' : RdM σ1' T e1 := R1.cong (by rw [g1 125 (by decide)]) (by rw [g1 125 (by decide)]) (g1 126 (by decide))
    have F1' : frR σ σ1' := F1.r.trans ⟨fun c c1 c2 => g1 c (by omega), fun j hj => by rw [g1 125 (by decide)]⟩
    refine M_num (lo := 1) (hi := 200) R1' (by decide) (by decide) (fun h e2 σ2 p2 R2 F2 => ?_) (fun q σ2 p2 B2 F2 => ?_)
    · rw [p2] at hok hbad
      have b2 := pN_ok b1.2.2.2 p2
      have hok : ∀ d' e σ', (match pRw T 5 0 0 e2 with | .error q => .error q | .ok z => match pS T 59 z.2 with | .error q => .error q | .ok e => .ok (addT d k h z.1, e)) = Except.ok (d', e) → _ := hok
      have hbad : ∀ q σ', (match pRw T 5 0 0 e2 with | .error q => .error q | .ok z => match pS T 59 z.2 with | .error q => .error q | .ok e => .ok (addT d k h z.1, e)) = Except.error q → _ := hbad
      refine w_X12_readsTrouble_44 _ _ _ σ2 τ ⟨vp_in_t hm (by decide), vp_in_t hm (by decide), vp_in_t hm (by decide), ?_⟩
      rw [nI_c (by omega), st2_cell (c := 129) (q := 128) _ _ (by decide), st2_same]
      refine ⟨fun c => absurd c (nI_m1 (by omega)), fun _ => ?_⟩
      generalize hs3 : st2 (st2 σ2 128 m (nI h)) 129 m 0 = σ3
      have g3 : ∀ c, c ≠ 128 → c ≠ 129 → σ3 c = σ2 c := fun c h1 h2 => by rw [← hs3, st2_cell _ _ h2, st2_cell _ _ h1]
      have R3 : RdM σ3 T e2 := R2.cong (by rw [g3 125 (by decide) (by decide)]) (by rw [g3 125 (by decide) (by decide)]) (g3 126 (by decide) (by decide))
      have F3 : frR σ σ3 := (F1'.trans F2.r).trans ⟨fun c c1 c2 => g3 c (by omega) (by omega), fun j hj => by rw [g3 125 (by decide) (by decide)]⟩
      refine M_rows hm 5 0 0 e2 σ3 rfl (by decide) R3 (by rw [← hs3, st2_same]; rfl) (fun s e3 σ4 p3 R4 e4 f1 f2 f3 => ?_) (fun q σ4 p3 B4 F4 => ?_)
      · rw [p3] at hok hbad
        have b3 := pRw_ok (by rfl) b2.2.2.2 (by decide) p3
        have hok : ∀ d' e σ', (match pS T 59 e3 with | .error q => .error q | .ok e => .ok (addT d k h s, e)) = Except.ok (d', e) → _ := hok
        have hbad : ∀ q σ', (match pS T 59 e3 with | .error q => .error q | .ok e => .ok (addT d k h s, e)) = Except.error q → _ := hbad
        have e8 : σ4 125 8 = nI m := by
          rw [f3 8 (by decide) (by decide) (by decide), g3 125 (by decide) (by decide), F2.2 8 (by decide) (by decide) (by decide), g1 125 (by decide), F1.2 8 (by decide) (by decide) (by decide), C.2.2.1, hmm]
        have gall : ∀ j, j ≠ 2 → j ≠ 3 → j ≠ 4 → σ4 125 j = σ 125 j := fun j j1 j2 j3 => by
          rw [f3 j j1 j2 j3, g3 125 (by decide) (by decide), F2.2 j j1 j2 j3, g1 125 (by decide), F1.2 j j1 j2 j3]
        have F4 : frR σ σ4 := F3.trans ⟨fun c c1 c2 => f1 c c1 (by omega), fun j hj => f3 j (by omega) (by omega) (by omega)⟩
        refine w_X12_readsTrouble_142 _ σ4 τ ⟨fun c => absurd c one0, fun _ => ?_⟩
        rw [e8, nI_1]
        generalize hs5 : st2 σ4 125 8 (nI (m + 1)) = σ5
        have g5 : ∀ c, c ≠ 125 → σ5 c = σ4 c := fun c hc => by rw [← hs5, st2_cell _ _ hc]
        have g5j : ∀ j, j ≠ 8 → σ5 125 j = σ4 125 j := fun j hj => by rw [← hs5, st2_slot _ _ hj]
        have R5 : RdM σ5 T e3 := R4.cong (g5j 0 (by decide)) (g5j 2 (by decide)) (g5 126 (by decide))
        have F5 : frR σ σ5 := F4.trans ⟨fun c c1 c2 => g5 c c1, fun j hj => g5j j (by omega)⟩
        have C5 : MD σ5 (addT d k h s) := by
          refine ⟨?_, ?_, ?_, ?_, fun t ht => ?_, fun t ht => ?_⟩
          · exact (g5j 6 (by decide)).trans ((gall 6 (by decide) (by decide) (by decide)).trans C.1)
          · exact (g5j 7 (by decide)).trans ((gall 7 (by decide) (by decide) (by decide)).trans C.2.1)
          · rw [← hs5, st2_same, ← hmm]; rfl
          · exact (g5j 9 (by decide)).trans ((gall 9 (by decide) (by decide) (by decide)).trans C.2.2.2.1)
          · have ht : t < m + 1 := by rw [← hmm]; exact ht
            have gd := fun q => C.2.2.2.2.1 t q
            rw [hmm] at gd
            rw [g5 127 (by decide), g5 128 (by decide), g5 129 (by decide), f1 127 (by decide) (by decide), f1 128 (by decide) (by decide)]
            refine ⟨?_, ?_, ?_⟩
            · rw [g3 127 (by decide) (by decide), F2.1 127 (by decide), ← hs1, st2_row]
              show va_up (σ1 127) m (nI k) t = nI (va_up (pk d.1) (pm d.1) k t)
              rw [hmm]
              exact up_nI (fun q => by rw [F1.1 127 (by decide)]; exact (gd (by omega)).1)
            · rw [← hs3, st2_cell _ _ (by decide), st2_row]
              show va_up (σ2 128) m (nI h) t = nI (va_up d.2.1 (pm d.1) h t)
              rw [hmm]
              exact up_nI (fun q => by rw [F2.1 128 (by decide), g1 128 (by decide), F1.1 128 (by decide)]; exact (gd (by omega)).2.1)
            · show σ4 129 t = nI (va_up d.2.2 (pm d.1) s t)
              rw [hmm]
              unfold va_up
              split
              · rename_i e; rw [e]; exact e4
              · rename_i e
                rw [f2 t e, ← hs3, st2_slot _ _ e, st2_cell _ _ (by decide), F2.1 129 (by decide), g1 129 (by decide), F1.1 129 (by decide)]
                exact (gd (by omega)).2.2
          · rw [g5 130 (by decide), f1 130 (by decide) (by decide), g3 130 (by decide) (by decide), F2.1 130 (by decide), g1 130 (by decide), F1.1 130 (by decide)]
            exact C.2.2.2.2.2 t ht
        refine M_sgn (s := 59) R5 (by decide) (fun e4' σ6 p4 R6 F6 => ⟨fun q => absurd q one0, fun _ => ?_⟩) (fun q σ6 p4 B6 F6 => ⟨fun _ => ?_, fun c => absurd rfl c⟩)
        · rw [p4] at hok
          exact hok _ _ σ6 rfl R6 (C5.cong (fun c c1 c2 => F6.1 c (by omega)) (fun j j1 j2 => F6.2 j (by omega) (by omega) (by omega))) (F5.trans F6.r)
        · rw [p4] at hbad
          exact hbad q σ6 rfl B6 (F5.trans F6.r)
      · rw [p3] at hbad
        exact hbad q σ4 rfl B4 (F3.trans F4)
    · rw [p2] at hbad
      exact bad44 q σ2 B2 (F1'.trans F2.r) (fun σ'' B'' F'' => hbad q σ'' rfl B'' F'')
  · rw [p1] at hbad
    rw [st2_same]
    refine ⟨fun c => absurd rfl c, fun _ => bad44 q _ (B1.cong ?_ ?_) (F1.r.trans ⟨fun c c1 c2 => ?_, fun j hj => ?_⟩) (fun σ'' B'' F'' => hbad q σ'' rfl B'' F'')⟩
    · rw [st2_cell _ _ (by decide)]
    · rw [st2_cell _ _ (by decide)]
    · rw [st2_cell _ _ (by omega)]
    · rw [st2_cell _ _ (by decide)]
theorem M_clause {a : Nat} (R : RdM σ T a) (C : MD σ d) (o : okD d) (hsk : sk T a = a) (ha : a < T.1) (hok : ∀ d' e σ', pCl T d a = .ok (d', e) → RdM σ' T e → MD σ' d' → frR σ σ' → Q 1 σ' τ) (hbad : ∀ q σ', pCl T d a = .error q → Mq σ' q → frR σ σ' → Q 0 σ' τ) : SI l D b M_X12_readsClause 4 G0 [.ref (b + 125)] σ τ Q := by
  have hl := R.1.2 a ha
  have hP3 : pP d.1 ≤ 3 := o.1.2.1
  have hm6 := o.1.2.2.1
  have hn6 := o.1.2.2.2.1
  have hHP : pH d.1 = 0 ↔ pP d.1 = 0 := o.1.2.2.2.2.1
  have el : ltr T a = nI (T.2 a) := by unfold ltr; rw [if_pos ha]
  refine s_X12_readsClause σ τ (M_nextL R ?_)
  rw [hsk, el]
  have eid : st2 σ 125 2 (nI a) = σ := by rw [← R.2.2.2.1, st2_id]
  rw [eid, R.2.2.2.1, nI_1]
  generalize hs : st2 σ 125 2 (nI (a + 1)) = σ1
  have R1 : RdM σ1 T (a + 1) := by rw [← hs]; exact R.mv (by omega)
  have F1 : frN σ σ1 := by rw [← hs]; exact frN.mv _ _
  have C1 : MD σ1 d := C.cong (fun c c1 c2 => F1.1 c (by omega)) (fun j j1 j2 => F1.2 j (by omega) (by omega) (by omega))
  have e7 : (σ1 125 7 = 0) = (pH d.1 = 0) := by rw [C1.2.1, show (0 : Int32) = nI 0 from rfl, nI_eq (by omega) (by omega), ← hHP]
  have e8 : (σ1 125 8 = 6) = (pm d.1 = 6) := by rw [C1.2.2.1, show (6 : Int32) = nI 6 from rfl, nI_eq (by omega) (by omega)]
  have e9 : (σ1 125 9 = 6) = (pn d.1 = 6) := by rw [C1.2.2.2.1, show (6 : Int32) = nI 6 from rfl, nI_eq (by omega) (by omega)]
  have w102 : (nI (T.2 a) = 102) = (T.2 a = 102) := by rw [show (102 : Int32) = nI 102 from rfl, nI_eq (by omega) (by omega)]
  have w116 : (nI (T.2 a) = 116) = (T.2 a = 116) := by rw [show (116 : Int32) = nI 116 from rfl, nI_eq (by omega) (by omega)]
  have w101 : (nI (T.2 a) = 101) = (T.2 a = 101) := by rw [show (101 : Int32) = nI 101 from rfl, nI_eq (by omega) (by omega)]
  unfold pCl at hok hbad
  have f73 : (∀ σ', Mq σ' (1, a) → frR σ σ' → Q 0 σ' τ) → AI l D b M_X12_readsClause 4 G0 Q 73 [(0, .ref (b + 125)), (2, .int (nI a))] [] G0 σ1 τ := fun hg => w_X12_readsClause_73 _ σ1 τ (M_fails (n := 1) (hg _ (Mq.mk σ1 (1, a)) (F1.trans (frN.bl _ _ _)).r))
  have f118 : (∀ σ', Mq σ' (3, a) → frR σ σ' → Q 0 σ' τ) → AI l D b M_X12_readsClause 4 G0 Q 118 [(0, .ref (b + 125)), (2, .int (nI a))] [] G0 σ1 τ := fun hg => w_X12_readsClause_118 _ σ1 τ (M_fails (n := 3) (hg _ (Mq.mk σ1 (3, a)) (F1.trans (frN.bl _ _ _)).r))
  have f38 : ¬ (T.2 a = 102 ∧ pH d.1 = 0) → AI l D b M_X12_readsClause 4 G0 Q 38 [(0, .ref (b + 125)), (1, .int (nI (T.2 a))), (2, .int (nI a))] [] G0 σ1 τ := by
    intro hne
    have f56 : (T.2 a = 102 ∨ T.2 a = 116 ∨ T.2 a = 101) → AI l D b M_X12_readsClause 4 G0 Q 56 [(0, .ref (b + 125)), (1, .int (nI (T.2 a))), (2, .int (nI a))] [] G0 σ1 τ := by
      intro hw
      have f103 : ¬ T.2 a = 102 → ¬ pH d.1 = 0 → (T.2 a = 116 → ¬ pm d.1 = 6) → AI l D b M_X12_readsClause 4 G0 Q 103 [(0, .ref (b + 125)), (1, .int (nI (T.2 a))), (2, .int (nI a))] [] G0 σ1 τ := by
        intro n1 nH n2
        rw [if_neg n1] at hok hbad
        have f127 : (T.2 a = 101 → ¬ pn d.1 = 6) → AI l D b M_X12_readsClause 4 G0 Q 127 [(0, .ref (b + 125)), (1, .int (nI (T.2 a)))] [] G0 σ1 τ := by
          intro n3
          refine w_X12_readsClause_127 _ σ1 τ ?_
          rw [w116]
          refine ⟨fun c => ?_, fun c => ?_⟩
          · have c101 : T.2 a = 101 := by omega
            rw [if_neg c, if_pos c101, if_neg nH, if_neg (n3 c101)] at hok hbad
            have := n3 c101
            exact M_eater R1 C1 (by omega) (fun d' e σ' he R' C' F' => ⟨Or.inr rfl, hok d' e σ' he R' C' (F1.r.trans F')⟩) (fun q σ' he B' F' => ⟨Or.inl rfl, hbad q σ' he B' (F1.r.trans F')⟩)
          · rw [if_pos c, if_neg nH, if_neg (n2 c)] at hok hbad
            have := n2 c
            exact M_troubleT R1 C1 (by omega) (fun d' e σ' he R' C' F' => ⟨Or.inr rfl, hok d' e σ' he R' C' (F1.r.trans F')⟩) (fun q σ' he B' F' => ⟨Or.inl rfl, hbad q σ' he B' (F1.r.trans F')⟩)
        refine w_X12_readsClause_103 _ _ σ1 τ ?_
        rw [w101, e9]
        refine ⟨fun c => f127 (fun q => absurd q c), fun c => ⟨fun c2 => f127 (fun _ => c2), fun c2 => f118 (fun σ' B' F' => hbad (3, a) σ' ?_ B' F')⟩⟩
        rw [if_neg (by omega), if_pos c, if_neg nH, if_pos c2]
      refine w_X12_readsClause_56 _ _ σ1 τ (w_X12_readsClause_61 _ _ _ σ1 τ ⟨fun c => absurd c one0, fun _ => ?_⟩)
      rw [e7, w102, w116, e8]
      refine ⟨fun nH => ⟨fun c => f118 (fun σ' B' F' => hbad (3, a) σ' ?_ B' F'), fun c => ⟨fun c2 => f103 c nH (fun q => absurd q c2), fun c2 => ⟨fun c3 => f118 (fun σ' B' F' => hbad (3, a) σ' ?_ B' F'), fun c3 => f103 c nH (fun _ => c3)⟩⟩⟩, fun hH => f73 (fun σ' B' F' => hbad (1, a) σ' ?_ B' F')⟩
      · rw [if_pos c, if_neg nH]
      · rw [if_neg c, if_pos c2, if_neg nH, if_pos c3]
      · rw [if_neg (fun q => hne ⟨q, hH⟩)]
        by_cases q : T.2 a = 116
        · rw [if_pos q, if_pos hH]
        · rw [if_neg q, if_pos (by omega), if_pos hH]
    refine w_X12_readsClause_38 _ _ σ1 τ ?_
    rw [w102, w116, w101]
    refine ⟨fun c => f56 (Or.inl c), fun c => ⟨fun c2 => f56 (Or.inr (Or.inl c2)), fun c2 => ⟨fun c3 => ?_, fun c3 => f56 (Or.inr (Or.inr c3))⟩⟩⟩
    refine w_X12_readsClause_61 _ _ _ σ1 τ ⟨fun _ => f73 (fun σ' B' F' => hbad (1, a) σ' ?_ B' F'), fun q => absurd rfl q⟩
    rw [if_neg c, if_neg c2, if_neg c3]
  rw [w102, e7]
  refine ⟨fun c => f38 (fun q => c q.1), fun c => ⟨fun c2 => f38 (fun q => c2 q.2), fun c2 => ?_⟩⟩
  rw [if_pos c, if_pos c2] at hok hbad
  exact M_head R1 C1 (fun d' e σ' he R' C' F' => ⟨Or.inr rfl, hok d' e σ' he R' C' (F1.r.trans F')⟩) (fun q σ' he B' F' => ⟨Or.inl rfl, hbad q σ' he B' (F1.r.trans F')⟩)
end MCL
