/-! HOURS: by the clock, by draws. -/
def nxt (z : Nat) : Nat := (z * 1103515245 + 12345) % 2147483648
theorem nxt_lt (z : Nat) : nxt z < 2 ^ 31 := Nat.mod_lt _ (by decide)
def drw (z n : Nat) : Nat := nxt z / 65536 % n
theorem drw_lt {z n : Nat} (h : 0 < n) : drw z n < n := Nat.mod_lt _ h
def actA (p : Pl) (A : Sc) (op t : Nat) : Sc :=
  if op = 0 then (if stS A t = 0 then wrapA A t else A) else if op = 1 then (if stS A t = 1 ∧ onC p A < pP p then sSt A (va_up (stS A) t 2) else A) else if op = 2 then (if stS A t = 2 then sSt A (va_up (stS A) t 1) else A) else if op = 3 then (if (goodA A t && bearA p A t) = true then shareA p A t else A) else unldA A
theorem hr_share (p : Pl) (A : Sc) : ∀ k, hrS (shareS p A k) = hrS A
  | 0 => rfl
  | k + 1 => by
    have ih := hr_share p A k
    rw [shareS]
    split
    · exact ih
    · exact ih
theorem hr_act (p : Pl) (A : Sc) (op t : Nat) : hrS (actA p A op t) = hrS A := by
  unfold actA
  split
  · split <;> rfl
  · split
    · split <;> rfl
    · split
      · split <;> rfl
      · split
        · split
          · show hrS (shareS p A (wgtA A t)) = hrS A
            exact hr_share p A _
          · rfl
        · rfl
def itB (p : Pl) (A : Sc) : Nat → Sc
  | 0 => A
  | k + 1 => boilA p (itB p A k)
theorem hr_it (p : Pl) (A : Sc) : ∀ k, hrS (itB p A k) = hrS A + k
  | 0 => rfl
  | k + 1 => by
    show hrS (itB p A k) + 1 = _
    rw [hr_it p A k]; rfl
def drS (p : Pl) (a : Sc × Nat) : Sc × Nat := if pm p = 0 then (boilA p a.1, a.2) else (boilA p (actA p a.1 (drw a.2 5) (drw (nxt a.2) (pm p))), nxt (nxt a.2))
def itD (p : Pl) (a : Sc × Nat) : Nat → Sc × Nat
  | 0 => a
  | k + 1 => drS p (itD p a k)
theorem hr_itD (p : Pl) (a : Sc × Nat) : ∀ k, hrS (itD p a k).1 = hrS a.1 + k
  | 0 => rfl
  | k + 1 => by
    have ih := hr_itD p a k
    show hrS (drS p (itD p a k)).1 = _
    unfold drS
    split
    · show hrS (itD p a k).1 + 1 = _
      rw [ih]; rfl
    · show hrS (actA p (itD p a k).1 _ _) + 1 = _
      rw [hr_act, ih]; rfl
section HOURS
variable {l : Launch} {D : zDD} {b : Nat} {γ : zGm} {σ : zSg} {τ : zLm} {p : Pl} {A : Sc} {U : Un} {X : Xt} {Q : Int32 → zSg → zLm → Prop} {G : zSg → zLm → Prop}
theorem S_draw {z n : Nat} (hz : CZ σ z) (hn : 1 ≤ n) (hn6 : n ≤ 6) (h : Q (nI (drw z n)) (st2 σ 22 0 (nI (nxt z))) τ) : SI l D b M_X3_draw 0 G0 [.ref (b + 22), .int (nI n)] σ τ Q := by
  refine s_X3_draw _ σ τ ?_
  have e : (σ 22 0 * 1103515245 + 12345) &&& 2147483647 = nI (nxt z) := by
    rw [hz.2, show (1103515245 : Int32) = nI 1103515245 from rfl, show (12345 : Int32) = nI 12345 from rfl, pk_mul, nI_add, show (2147483647 : Int32) = nI (2 ^ 31 - 1) from rfl, fa_mask]
    rfl
  have hl := nxt_lt z
  rw [e, st2_same, show (65536 : Int32) = nI 65536 from rfl, pk_div hl (by decide) (by decide), pk_rem (by omega) (by omega) (by omega), show (0 : Int32) = nI 0 from rfl, nI_leI (by omega) (by omega), nI_eq (by omega) (by omega)]
  exact ⟨fun q => by omega, fun _ => ⟨by omega, h⟩⟩
theorem M_draw {z n : Nat} (hz : MZ τ z) (hn : 1 ≤ n) (hn6 : n ≤ 6) (h : Q (nI (drw z n)) σ (st2 τ 125 24 (lN (nxt z)))) : SI l D b M_X12_draw 0 G0 [.ref (b + 125), .int (nI n)] σ τ Q := by
  refine s_X12_draw _ σ τ ?_
  have hz1 := hz.1
  have hl := nxt_lt z
  have e : (τ 125 24 * 1103515245 + 12345) - (τ 125 24 * 1103515245 + 12345) / 2147483648 * 2147483648 = lN (nxt z) := by
    rw [hz.2, show (1103515245 : Int64) = lN 1103515245 from rfl, show (12345 : Int64) = lN 12345 from rfl, show (2147483648 : Int64) = lN 2147483648 from rfl, lN_mul, lN_add]
    exact pk_lRem (by omega) (by decide) (by decide)
  rw [e, st2_same, nI_l (by omega), show (65536 : Int64) = lN 65536 from rfl, pk_lDiv (by omega) (by decide) (by decide), pk_lRem (by omega) (by omega) (by omega), lN_i]
  refine ⟨fun q => ?_, h⟩
  rw [show (0 : Int64) = lN 0 from rfl, fb_lN_inj (by omega) (by decide)] at q
  omega
theorem S_acts {z : Nat} (R : RC σ p A) (hz : CZ σ z) (hm : 0 < pm p) (h : ∀ σ', RC σ' p (actA p A (drw z 5) (drw (nxt z) (pm p))) → CZ σ' (nxt (nxt z)) → (∀ c, (c < 14 ∨ 22 < c) → σ' c = σ c) → G σ' τ) : SV l D b M_X2_actByDraws 4 G0 [.ref (b + 8)] σ τ G := by
  obtain ⟨m1, m2⟩ := RC_m R
  refine s_X2_actByDraws σ τ ?_
  rw [m1, show (0 : Int32) = nI 0 from rfl, nI_ltI (by omega) (by omega)]
  refine ⟨fun _ => S_draw (n := 5) hz (by decide) (by decide) ?_, fun q => absurd hm q⟩
  have hz2 : CZ (st2 σ 22 0 (nI (nxt z))) (nxt z) := ⟨nxt_lt z, st2_same _ _ _ _⟩
  rw [st2_cell (c := 22) (q := 9) _ _ (by decide), m1]
  refine S_draw hz2 hm m2 ?_
  have ht : drw (nxt z) (pm p) < pm p := drw_lt hm
  have ho : drw z 5 < 5 := drw_lt (by decide)
  generalize hs : st2 (st2 σ 22 0 (nI (nxt z))) 22 0 (nI (nxt (nxt z))) = σ1
  have f1 : ∀ c, c ≠ 22 → σ1 c = σ c := fun c a => by rw [← hs, st2_cell _ _ a, st2_cell _ _ a]
  have z1 : CZ σ1 (nxt (nxt z)) := ⟨nxt_lt _, by rw [← hs, st2_same]⟩
  have R1 : RC σ1 p A := R.cong (fun c a1 a2 => f1 c (by omega))
  generalize drw (nxt z) (pm p) = t at ht h
  generalize drw z 5 = op at ho h
  have h6 := RC_t R ht
  have fin : ∀ σ', RC σ' p (actA p A op t) → (∀ c, (c < 14 ∨ 21 < c) → σ' c = σ1 c) → G σ' τ := fun σ' R' f' => h σ' R' ⟨z1.1, by rw [f' 22 (by omega)]; exact z1.2⟩ (fun c a => (f' c (by omega)).trans (f1 c (by omega)))
  obtain ⟨s1, s2⟩ := RC_st R1 ht
  rcases (show op = 0 ∨ op = 1 ∨ op = 2 ∨ op = 3 ∨ op = 4 by omega) with rfl | rfl | rfl | rfl | rfl
  · refine ⟨fun q => absurd rfl q, fun _ => S_canBeWrapped R1 ht ⟨fun c => ?_, fun c => ?_⟩⟩
    · refine w_X2_actByDraws_56 _ _ σ1 τ ⟨fun _ => w_X2_actByDraws_94 _ _ σ1 τ ⟨fun _ => w_X2_actByDraws_125 _ _ σ1 τ ⟨fun _ => w_X2_actByDraws_146 _ σ1 τ ⟨fun _ => fin σ1 ?_ (fun _ _ => rfl), fun q => absurd q (by decide)⟩, fun q => absurd q (by decide)⟩, fun q => absurd q (by decide)⟩, fun q => absurd q (by decide)⟩
      have c0 : ¬ stS A t = 0 := of_decide_eq_false ((bI_0 _).mp c)
      unfold actA
      rw [if_pos rfl, if_neg c0]
      exact R1
    · have c0 : stS A t = 0 := of_decide_eq_true ((bI_n0 _).mp c)
      refine S_putInSuet R1 ht (fun σ2 R2 f2 => fin σ2 ?_ f2)
      unfold actA
      rw [if_pos rfl, if_pos c0]
      exact R2
  · refine ⟨fun _ => w_X2_actByDraws_56 _ _ σ1 τ ⟨fun q => absurd rfl q, fun _ => ⟨vp_in_t h6 (by decide), ?_⟩⟩, fun q => absurd q (by decide)⟩
    rw [nI_c (by omega), s1, show (1 : Int32) = nI 1 from rfl, nI_eq (by omega) (by omega)]
    have skip : ¬ (stS A t = 1 ∧ onC p A < pP p) → AV l D b M_X2_actByDraws 4 G0 G 94 [(0, .ref (b + 8)), (1, .int (nI 1)), (2, .int (nI t))] [] G0 σ1 τ := by
      intro hn
      refine w_X2_actByDraws_94 _ _ σ1 τ ⟨fun _ => w_X2_actByDraws_125 _ _ σ1 τ ⟨fun _ => w_X2_actByDraws_146 _ σ1 τ ⟨fun _ => fin σ1 ?_ (fun _ _ => rfl), fun q => absurd q (by decide)⟩, fun q => absurd q (by decide)⟩, fun q => absurd q (by decide)⟩
      unfold actA
      rw [if_neg (by decide), if_pos rfl, if_neg hn]
      exact R1
    refine ⟨fun c => skip (fun q => c q.1), fun c => S_freePots R1 ?_⟩
    have hP3 : pP p ≤ 3 := R.1.2.1
    rw [show (0 : Int32) = nI 0 from rfl, nI_leI (by omega) (by omega)]
    refine ⟨fun q => skip (fun q2 => by omega), fun q => ⟨vp_in_t h6 (by decide), fin _ ?_ (fun c hc => st2_cell _ _ (by omega))⟩⟩
    have c2 : stS A t = 1 ∧ onC p A < pP p := ⟨c, by omega⟩
    unfold actA
    rw [if_neg (by decide), if_pos rfl, if_pos c2]
    exact RC_putSt R1 (v := 2) ht (by decide) (fun _ => c2.2)
  · refine ⟨fun _ => w_X2_actByDraws_56 _ _ σ1 τ ⟨fun _ => w_X2_actByDraws_94 _ _ σ1 τ ⟨fun q => absurd rfl q, fun _ => ⟨vp_in_t h6 (by decide), ?_⟩⟩, fun q => absurd q (by decide)⟩, fun q => absurd q (by decide)⟩
    rw [nI_c (by omega), s1, show (2 : Int32) = nI 2 from rfl, nI_eq (by omega) (by omega)]
    refine ⟨fun c => w_X2_actByDraws_125 _ _ σ1 τ ⟨fun _ => w_X2_actByDraws_146 _ σ1 τ ⟨fun _ => fin σ1 ?_ (fun _ _ => rfl), fun q => absurd q (by decide)⟩, fun q => absurd q (by decide)⟩, fun c => ⟨vp_in_t h6 (by decide), fin _ ?_ (fun c hc => st2_cell _ _ (by omega))⟩⟩
    · unfold actA
      rw [if_neg (by decide), if_neg (by decide), if_pos rfl, if_neg c]
      exact R1
    · unfold actA
      rw [if_neg (by decide), if_neg (by decide), if_pos rfl, if_pos c]
      exact RC_putSt R1 (v := 1) ht (by decide) (fun q => absurd q (by decide))
  · refine ⟨fun _ => w_X2_actByDraws_56 _ _ σ1 τ ⟨fun _ => w_X2_actByDraws_94 _ _ σ1 τ ⟨fun _ => w_X2_actByDraws_125 _ _ σ1 τ ⟨fun q => absurd rfl q, fun _ => S_canBeBorne R1 ht ⟨fun c => ?_, fun c => ?_⟩⟩, fun q => absurd q (by decide)⟩, fun q => absurd q (by decide)⟩, fun q => absurd q (by decide)⟩
    · refine w_X2_actByDraws_146 _ σ1 τ ⟨fun _ => fin σ1 ?_ (fun _ _ => rfl), fun q => absurd q (by decide)⟩
      have c0 := (bI_0 _).mp c
      unfold actA
      rw [if_neg (by decide), if_neg (by decide), if_neg (by decide), if_pos rfl, if_neg (by rw [c0]; decide)]
      exact R1
    · have c0 := (bI_n0 _).mp c
      have cb : wgtA A t ≤ leftA p A := by
        rw [Bool.and_eq_true] at c0; exact of_decide_eq_true c0.2
      refine S_shareOut R1 ht cb (fun σ2 R2 f2 => fin σ2 ?_ f2)
      unfold actA
      rw [if_neg (by decide), if_neg (by decide), if_neg (by decide), if_pos rfl, if_pos c0]
      exact R2
  · refine ⟨fun _ => w_X2_actByDraws_56 _ _ σ1 τ ⟨fun _ => w_X2_actByDraws_94 _ _ σ1 τ ⟨fun _ => w_X2_actByDraws_125 _ _ σ1 τ ⟨fun _ => w_X2_actByDraws_146 _ σ1 τ ⟨fun q => absurd rfl q, fun _ => S_unload R1 (fun σ2 R2 f2 => fin σ2 ?_ f2)⟩, fun q => absurd q (by decide)⟩, fun q => absurd q (by decide)⟩, fun q => absurd q (by decide)⟩, fun q => absurd q (by decide)⟩
    unfold actA
    rw [if_neg (by decide), if_neg (by decide), if_neg (by decide), if_neg (by decide)]
    exact R2
theorem M_does {op t : Nat} (R : RM σ p A) (ho : op < 5) (ht : t < pm p) (h : ∀ σ', RM σ' p (actA p A op t) → (∀ c, c ≠ 133 → c ≠ 135 → σ' c = σ c) → G σ' τ) : SV l D b M_X12_does 4 G0 [.ref (b + 125), .int (nI op), .int (nI t)] σ τ G := by
  have h6 := RM_t R ht
  obtain ⟨s1, s2⟩ := RM_st R ht
  have hP3 : pP p ≤ 3 := R.1.2.1
  refine s_X12_does _ _ σ τ ?_
  rw [nI_p14, nI_c (by omega), s1]
  refine ⟨vp_in_t (by omega) (by decide), fun v ev => ?_⟩
  subst ev
  rcases (show op = 0 ∨ op = 1 ∨ op = 2 ∨ op = 3 ∨ op = 4 by omega) with rfl | rfl | rfl | rfl | rfl
  · refine ⟨fun q => absurd rfl q, fun _ => ?_⟩
    rw [show (0 : Int32) = nI 0 from rfl, nI_eq (by omega) (by omega)]
    refine ⟨fun c => w_X12_does_27 _ _ _ σ τ ⟨fun _ => w_X12_does_57 _ _ _ σ τ ⟨fun _ => w_X12_does_80 _ _ σ τ ⟨fun _ => w_X12_does_101 _ σ τ ⟨fun _ => h σ ?_ (fun _ _ _ => rfl), fun q => absurd q (by decide)⟩, fun q => absurd q (by decide)⟩, fun q => absurd q (by decide)⟩, fun q => absurd q (by decide)⟩, fun c => M_wraps R ht (fun σ2 R2 f2 => h σ2 ?_ f2)⟩
    · unfold actA
      rw [if_pos rfl, if_neg c]
      exact R
    · unfold actA
      rw [if_pos rfl, if_pos c]
      exact R2
  · refine ⟨fun _ => w_X12_does_27 _ _ _ σ τ ⟨fun q => absurd rfl q, fun _ => ?_⟩, fun q => absurd q (by decide)⟩
    rw [show (1 : Int32) = nI 1 from rfl, nI_eq (by omega) (by omega)]
    have skip : ¬ (stS A t = 1 ∧ onC p A < pP p) → AV l D b M_X12_does 4 G0 G 57 [(0, .ref (b + 125)), (1, .int (nI 1)), (2, .int (nI t)), (3, .int (nI (stS A t)))] [] G0 σ τ := by
      intro hn
      refine w_X12_does_57 _ _ _ σ τ ⟨fun _ => w_X12_does_80 _ _ σ τ ⟨fun _ => w_X12_does_101 _ σ τ ⟨fun _ => h σ ?_ (fun _ _ _ => rfl), fun q => absurd q (by decide)⟩, fun q => absurd q (by decide)⟩, fun q => absurd q (by decide)⟩
      unfold actA
      rw [if_neg (by decide), if_pos rfl, if_neg hn]
      exact R
    refine ⟨fun c => skip (fun q => c q.1), fun c => M_potsFree R ?_⟩
    rw [show (0 : Int32) = nI 0 from rfl, nI_leI (by omega) (by omega)]
    refine ⟨fun q => skip (fun q2 => by omega), fun q => ?_⟩
    rw [nI_p14, nI_c (by omega)]
    refine ⟨vp_in_t (by omega) (by decide), h _ ?_ (fun c c1 c2 => st2_cell _ _ c1)⟩
    have c2 : stS A t = 1 ∧ onC p A < pP p := ⟨c, by omega⟩
    unfold actA
    rw [if_neg (by decide), if_pos rfl, if_pos c2]
    exact RM_putSt R (v := 2) ht (by decide) (fun _ => c2.2)
  · refine ⟨fun _ => w_X12_does_27 _ _ _ σ τ ⟨fun _ => w_X12_does_57 _ _ _ σ τ ⟨fun q => absurd rfl q, fun _ => ?_⟩, fun q => absurd q (by decide)⟩, fun q => absurd q (by decide)⟩
    rw [show (2 : Int32) = nI 2 from rfl, nI_eq (by omega) (by omega)]
    refine ⟨fun c => w_X12_does_80 _ _ σ τ ⟨fun _ => w_X12_does_101 _ σ τ ⟨fun _ => h σ ?_ (fun _ _ _ => rfl), fun q => absurd q (by decide)⟩, fun q => absurd q (by decide)⟩, fun c => ?_⟩
    · unfold actA
      rw [if_neg (by decide), if_neg (by decide), if_pos rfl, if_neg c]
      exact R
    · rw [nI_p14, nI_c (by omega)]
      refine ⟨vp_in_t (by omega) (by decide), h _ ?_ (fun c c1 c2 => st2_cell _ _ c1)⟩
      unfold actA
      rw [if_neg (by decide), if_neg (by decide), if_pos rfl, if_pos c]
      exact RM_putSt R (v := 1) ht (by decide) (fun q => absurd q (by decide))
  · refine ⟨fun _ => w_X12_does_27 _ _ _ σ τ ⟨fun _ => w_X12_does_57 _ _ _ σ τ ⟨fun _ => w_X12_does_80 _ _ σ τ ⟨fun q => absurd rfl q, fun _ => M_canBeBorne R ht ⟨fun c => ?_, fun c => ?_⟩⟩, fun q => absurd q (by decide)⟩, fun q => absurd q (by decide)⟩, fun q => absurd q (by decide)⟩
    · refine w_X12_does_101 _ σ τ ⟨fun _ => h σ ?_ (fun _ _ _ => rfl), fun q => absurd q (by decide)⟩
      have c0 := (bI_0 _).mp c
      unfold actA
      rw [if_neg (by decide), if_neg (by decide), if_neg (by decide), if_pos rfl, if_neg (by rw [c0]; decide)]
      exact R
    · have c0 := (bI_n0 _).mp c
      have cb : wgtA A t ≤ leftA p A := by
        rw [Bool.and_eq_true] at c0; exact of_decide_eq_true c0.2
      refine M_bears R ht cb (fun σ2 R2 f2 => h σ2 ?_ (fun c c1 _ => f2 c c1))
      unfold actA
      rw [if_neg (by decide), if_neg (by decide), if_neg (by decide), if_pos rfl, if_pos c0]
      exact R2
  · refine ⟨fun _ => w_X12_does_27 _ _ _ σ τ ⟨fun _ => w_X12_does_57 _ _ _ σ τ ⟨fun _ => w_X12_does_80 _ _ σ τ ⟨fun _ => w_X12_does_101 _ σ τ ⟨fun q => absurd rfl q, fun _ => M_rests R (fun σ2 R2 f2 => h σ2 ?_ (fun c c1 _ => f2 c c1))⟩, fun q => absurd q (by decide)⟩, fun q => absurd q (by decide)⟩, fun q => absurd q (by decide)⟩, fun q => absurd q (by decide)⟩
    unfold actA
    rw [if_neg (by decide), if_neg (by decide), if_neg (by decide), if_neg (by decide)]
    exact R2
/-- may hours go by? -/
theorem S_refusal (R : RC σ p A) (x : Int32) (h1 : ¬ (1 ≤ x ∧ x ≤ 60) → Q (-1000000002) σ τ) (h2 : (1 ≤ x ∧ x ≤ 60) → ¬ 0 < pH p → Q (-1000000003) σ τ) (h3 : (1 ≤ x ∧ x ≤ 60) → 0 < pH p → ¬ hrS A ≤ 9000 → Q (-1000000004) σ τ) (h4 : (1 ≤ x ∧ x ≤ 60) → 0 < pH p → hrS A ≤ 9000 → Q 0 σ τ) : SI l D b M_X11_refusalOfHours 1 G0 [.ref (b + 0), .int x] σ τ Q := by
  obtain ⟨r1, r2⟩ := RC_hr R
  refine s_X11_refusalOfHours _ σ τ ⟨fun c => h1 (fun q => absurd c (Int32.not_lt.mpr q.1)), fun c => ⟨fun c2 => S_isThere R ⟨fun c3 => ?_, fun c3 => ?_⟩, fun c2 => h1 (fun q => c2 q.2)⟩⟩
  · rw [r1, show (9000 : Int32) = nI 9000 from rfl, nI_leI (by omega) (by omega)]
    exact ⟨h4 ⟨fa_of_nlt c, c2⟩ (of_decide_eq_true ((bI_n0 _).mp c3)), h3 ⟨fa_of_nlt c, c2⟩ (of_decide_eq_true ((bI_n0 _).mp c3))⟩
  · exact h2 ⟨fa_of_nlt c, c2⟩ (of_decide_eq_false ((bI_0 _).mp c3))
theorem M_need (R : RM σ p A) (x : Int32) (h1 : ¬ (1 ≤ x ∧ x ≤ 60) → Q (-1000000002) σ τ) (h2 : (1 ≤ x ∧ x ≤ 60) → ¬ 0 < pH p → Q (-1000000003) σ τ) (h3 : (1 ≤ x ∧ x ≤ 60) → 0 < pH p → ¬ hrS A ≤ 9000 → Q (-1000000004) σ τ) (h4 : (1 ≤ x ∧ x ≤ 60) → 0 < pH p → hrS A ≤ 9000 → Q 0 σ τ) : SI l D b M_X12_needHours 1 G0 [.ref (b + 125), .int x] σ τ Q := by
  obtain ⟨r1, r2⟩ := RM_hr R
  refine s_X12_needHours _ σ τ (M_in (fun a1 a2 => ⟨fun _ => M_isKitchen R ⟨fun c3 => ?_, fun c3 => ?_⟩, fun q => absurd q one0⟩) (fun a => ⟨fun q => absurd rfl q, fun _ => h1 a⟩))
  · rw [r1, show (9000 : Int32) = nI 9000 from rfl, nI_leI (by omega) (by omega)]
    exact ⟨h4 ⟨a1, a2⟩ (of_decide_eq_true ((bI_n0 _).mp c3)), h3 ⟨a1, a2⟩ (of_decide_eq_true ((bI_n0 _).mp c3))⟩
  · exact h2 ⟨a1, a2⟩ (of_decide_eq_false ((bI_0 _).mp c3))
theorem hours_n {x : Int32} (h : 1 ≤ x ∧ x ≤ 60) : ∃ n, n ≤ 60 ∧ x = nI n := by
  obtain ⟨h1, h2⟩ := h
  rw [fa_le] at h1 h2
  have e1 : (1 : Int32).toInt = 1 := rfl
  have e2 : (60 : Int32).toInt = 60 := rfl
  obtain ⟨k, hk, rfl⟩ := nI_ge0 (x := x) (by rw [fa_le]; have e0 : (0 : Int32).toInt = 0 := rfl; omega)
  rw [nI_toInt hk] at h2
  exact ⟨k, by omega, rfl⟩
theorem P_hour (J : Iv σ τ) (x : Int32) (h : ∀ r σ1 τ1, (∀ Z : Int32 → zSg → zLm → Prop, (∀ σ2 τ2, Iv σ2 τ2 → Z r σ2 τ2) → SI l D b M_X12_hour 3 G0 [.ref (b + 125), .int x] σ1 τ1 Z) → Q r σ1 τ1) : SI l D b M_X11_hour 4 G0 [.ref (b + 0), .int x] σ τ Q := by
  obtain ⟨p, A, U, X, hC, hM⟩ := id J
  refine s_X11_hour _ σ τ (S_refusal hC.1 x (fun q => ⟨fun e => absurd e (by decide), fun _ => ?_⟩) (fun q q2 => ⟨fun e => absurd e (by decide), fun _ => ?_⟩) (fun q q2 q3 => ⟨fun e => absurd e (by decide), fun _ => ?_⟩) (fun q q2 q3 => ⟨fun _ => ?_, fun e => absurd rfl e⟩))
  · exact h _ _ _ (fun Z hZ => s_X12_hour _ σ τ (M_need hM.1 x (fun _ => ⟨fun e => absurd e (by decide), fun _ => hZ _ _ J⟩) (fun a _ => absurd a q) (fun a _ _ => absurd a q) (fun a _ _ => absurd a q)))
  · exact h _ _ _ (fun Z hZ => s_X12_hour _ σ τ (M_need hM.1 x (fun a => absurd q a) (fun _ _ => ⟨fun e => absurd e (by decide), fun _ => hZ _ _ J⟩) (fun a a2 _ => absurd a2 q2) (fun a a2 _ => absurd a2 q2)))
  · exact h _ _ _ (fun Z hZ => s_X12_hour _ σ τ (M_need hM.1 x (fun a => absurd q a) (fun _ a => absurd q2 a) (fun a a2 _ => ⟨fun e => absurd e (by decide), fun _ => hZ _ _ J⟩) (fun a a2 a3 => absurd a3 q3)))
  · obtain ⟨n, hn, rfl⟩ := hours_n q
    refine S_rem hC (fun σ1 R1 U1 f1 => ?_)
    have key := lp_up (P := fun k => ∀ σ', RC σ' p (itB p A k) → (∀ c, (c < 14 ∨ 21 < c) → σ' c = σ1 c) → AI l D b M_X11_hour 4 G0 Q 25 [(0, .ref (b + 0)), (1, .int (nI n)), (3, .int (nI k))] [] G0 σ' τ) (n := n) ?_ ?_ 0 (Nat.zero_le _)
    · exact key σ1 R1 (fun _ _ => rfl)
    · intro k hk ih σ' R' f'
      refine w_X11_hour_25 _ _ σ' τ ⟨fun q => ?_, fun _ => ?_⟩
      · rw [nI_leI (by omega) (by omega)] at q; omega
      · rw [nI_1]
        have hh := hr_it p A k
        exact S_boil R' (by omega) (fun σ2 R2 f2 => ih σ2 R2 (fun c hc => (f2 c (by omega) (by omega)).trans (f' c hc)))
    · intro σ2 R2 f2
      refine w_X11_hour_25 _ _ σ2 τ ⟨fun _ => S_allGood R2 (h _ _ _ (fun Z hZ => ?_)), fun q => absurd (nI_le (Nat.le_refl _) (by omega)) q⟩
      have f12 : frC σ σ2 := f1.trans (frC.of f2)
      have M2 := hM.cong f12.up
      refine s_X12_hour _ σ2 τ (M_need M2.1 _ (fun a => absurd q a) (fun _ a => absurd q2 a) (fun _ _ a => absurd q3 a) (fun _ _ _ => ⟨fun _ => M_rem M2 (fun σ3 R3 U3 f3 => ?_), fun e => absurd (by decide) e⟩))
      have key := lp_up (P := fun k => ∀ σ', RM σ' p (itB p A k) → (∀ c, c ≠ 133 → c ≠ 135 → σ' c = σ3 c) → AI l D b M_X12_hour 3 G0 Z 18 [(0, .ref (b + 125)), (1, .int (nI n)), (3, .int (nI k))] [] G0 σ' τ) (n := n) ?_ ?_ 0 (Nat.zero_le _)
      · exact key σ3 R3 (fun _ _ _ => rfl)
      · intro k hk ih σ' R' f'
        refine w_X12_hour_18 _ _ σ' τ ⟨fun q => ?_, fun _ => ?_⟩
        · rw [nI_leI (by omega) (by omega)] at q; omega
        · rw [nI_1]
          have hh := hr_it p A k
          exact M_passes R' (by omega) (fun σ2 R2 f2 => ih σ2 R2 (fun c c1 c2 => (f2 c c1).trans (f' c c1 c2)))
      · intro σ4 R4 f4
        refine w_X12_hour_18 _ _ σ4 τ ⟨fun _ => M_good R4 (hZ _ _ ?_), fun q => absurd (nI_le (Nat.le_refl _) (by omega)) q⟩
        exact Iv_scene hC hM R2 (U1.fr f2) f12 R4 (U3.fr R4.1 f4) (f3.trans (frM.of f4))
theorem P_drift (J : Iv σ τ) (x : Int32) (h : ∀ r σ1 τ1, (∀ Z : Int32 → zSg → zLm → Prop, (∀ σ2 τ2, Iv σ2 τ2 → Z r σ2 τ2) → SI l D b M_X12_drift 5 G0 [.ref (b + 125), .int x] σ1 τ1 Z) → Q r σ1 τ1) : SI l D b M_X11_drift 5 G0 [.ref (b + 0), .int x] σ τ Q := by
  obtain ⟨p, A, U, X, hC, hM⟩ := id J
  refine s_X11_drift _ σ τ (S_refusal hC.1 x (fun q => ⟨fun e => absurd e (by decide), fun _ => ?_⟩) (fun q q2 => ⟨fun e => absurd e (by decide), fun _ => ?_⟩) (fun q q2 q3 => ⟨fun e => absurd e (by decide), fun _ => ?_⟩) (fun q q2 q3 => ⟨fun _ => ?_, fun e => absurd rfl e⟩))
  · exact h _ _ _ (fun Z hZ => s_X12_drift _ σ τ (M_need hM.1 x (fun _ => ⟨fun e => absurd e (by decide), fun _ => hZ _ _ J⟩) (fun a _ => absurd a q) (fun a _ _ => absurd a q) (fun a _ _ => absurd a q)))
  · exact h _ _ _ (fun Z hZ => s_X12_drift _ σ τ (M_need hM.1 x (fun a => absurd q a) (fun _ _ => ⟨fun e => absurd e (by decide), fun _ => hZ _ _ J⟩) (fun a a2 _ => absurd a2 q2) (fun a a2 _ => absurd a2 q2)))
  · exact h _ _ _ (fun Z hZ => s_X12_drift _ σ τ (M_need hM.1 x (fun a => absurd q a) (fun _ a => absurd q2 a) (fun a a2 _ => ⟨fun e => absurd e (by decide), fun _ => hZ _ _ J⟩) (fun a a2 a3 => absurd a3 q3)))
  · obtain ⟨n, hn, rfl⟩ := hours_n q
    refine S_rem hC (fun σ1 R1 U1 f1 => ?_)
    have z1 : CZ σ1 X.2.1 := ⟨hC.2.2.2.1.1, by rw [f1 22 (by decide) (by decide) (by decide)]; exact hC.2.2.2.1.2⟩
    have key := lp_up (P := fun k => ∀ σ', RC σ' p (itD p (A, X.2.1) k).1 → CZ σ' (itD p (A, X.2.1) k).2 → (∀ c, (c < 14 ∨ 22 < c) → σ' c = σ1 c) → AI l D b M_X11_drift 5 G0 Q 25 [(0, .ref (b + 0)), (1, .int (nI n)), (3, .int (nI k))] [] G0 σ' τ) (n := n) ?_ ?_ 0 (Nat.zero_le _)
    · exact key σ1 R1 z1 (fun _ _ => rfl)
    · intro k hk ih σ' R' z' f'
      refine w_X11_drift_25 _ _ σ' τ ⟨fun q => ?_, fun _ => ?_⟩
      · rw [nI_leI (by omega) (by omega)] at q; omega
      · rw [nI_1]
        have hh := hr_itD p (A, X.2.1) k
        have hh2 : hrS (itD p (A, X.2.1) k).1 ≤ 9059 := by rw [hh]; show hrS A + k ≤ 9059; omega
        have e : itD p (A, X.2.1) (k + 1) = drS p (itD p (A, X.2.1) k) := rfl
        rw [e] at ih
        generalize itD p (A, X.2.1) k = a at *
        unfold drS at ih
        by_cases hm : pm p = 0
        · rw [if_pos hm] at ih
          refine s_X2_actByDraws σ' τ ?_
          rw [(RC_m R').1, hm]
          refine ⟨fun q => absurd q (by decide), fun _ => S_boil R' hh2 (fun σ2 R2 f2 => ih σ2 R2 ⟨z'.1, by rw [f2 22 (by decide) (by decide)]; exact z'.2⟩ (fun c hc => (f2 c (by omega) (by omega)).trans (f' c hc)))⟩
        · rw [if_neg hm] at ih
          refine S_acts R' z' (by omega) (fun σ2 R2 z2 f2 => S_boil R2 (by rw [hr_act]; exact hh2) (fun σ3 R3 f3 => ih σ3 R3 ⟨z2.1, by rw [f3 22 (by decide) (by decide)]; exact z2.2⟩ (fun c hc => (f3 c (by omega) (by omega)).trans ((f2 c hc).trans (f' c hc)))))
    · intro σ2 R2 z2 f2
      refine w_X11_drift_25 _ _ σ2 τ ⟨fun _ => S_allThatAre (v := 3) R2 (by decide) (h _ _ _ (fun Z hZ => ?_)), fun q => absurd (nI_le (Nat.le_refl _) (by omega)) q⟩
      have fu : ∀ c, 125 ≤ c → σ2 c = σ c := fun c hc => (f2 c (by omega)).trans (f1.up c hc)
      have M2 := hM.cong fu
      have C2 : CI σ2 p (itD p (A, X.2.1) n).1 (pushU U A) (X.1, (itD p (A, X.2.1) n).2, X.2.2) := by
        obtain ⟨c1, c2, c3, c4, c5, c6⟩ := hC.2.2
        have g : ∀ c, (c < 14 ∨ 22 < c) → c ≠ 23 → (c < 28 ∨ 108 ≤ c) → σ2 c = σ c := fun c a1 a2 a3 => (f2 c a1).trans (f1 c a2 (by omega) a3)
        exact ⟨R2, U1.cong (f2 23 (by decide)) (fun c a1 a2 => f2 c (by omega)), c1.cong (g 26 (by omega) (by omega) (by omega)) (g 27 (by omega) (by omega) (by omega)) (fun c a1 a2 => g c (by omega) (by omega) (by omega)), z2, c3.cong (by rw [g 120 (by omega) (by omega) (by omega)]) (by rw [g 120 (by omega) (by omega) (by omega)]) (by rw [g 120 (by omega) (by omega) (by omega)]), c4.cong (by rw [g 122 (by omega) (by omega) (by omega)]) (g 123 (by omega) (by omega) (by omega)) (g 124 (by omega) (by omega) (by omega)), c5.cong (by rw [g 1 (by omega) (by omega) (by omega)]) (g 2 (by omega) (by omega) (by omega)), by rw [g 0 (by omega) (by omega) (by omega)]; exact c6⟩
      refine s_X12_drift _ σ2 τ (M_need M2.1 _ (fun a => absurd q a) (fun _ a => absurd q2 a) (fun _ _ a => absurd q3 a) (fun _ _ _ => ⟨fun _ => M_rem M2 (fun σ3 R3 U3 f3 => ?_), fun e => absurd (by decide) e⟩))
      have key := lp_up (P := fun k => ∀ σ' τ', RM σ' p (itD p (A, X.2.1) k).1 → MZ τ' (itD p (A, X.2.1) k).2 → τ' 143 = τ 143 → (∀ c, c ≠ 133 → c ≠ 135 → σ' c = σ3 c) → AI l D b M_X12_drift 5 G0 Z 18 [(0, .ref (b + 125)), (1, .int (nI n)), (3, .int (nI k))] [] G0 σ' τ') (n := n) ?_ ?_ 0 (Nat.zero_le _)
      · exact key σ3 τ R3 hM.2.2.2.1 rfl (fun _ _ _ => rfl)
      · intro k hk ih σ' τ' R' z' t' f'
        refine w_X12_drift_18 _ _ σ' τ' ⟨fun q => ?_, fun _ => ?_⟩
        · rw [nI_leI (by omega) (by omega)] at q; omega
        · obtain ⟨m1, m2⟩ := RM_m R'
          have hh := hr_itD p (A, X.2.1) k
          have hh2 : hrS (itD p (A, X.2.1) k).1 ≤ 9059 := by rw [hh]; show hrS A + k ≤ 9059; omega
          have e : itD p (A, X.2.1) (k + 1) = drS p (itD p (A, X.2.1) k) := rfl
          rw [e] at ih
          generalize itD p (A, X.2.1) k = a at *
          unfold drS at ih
          rw [m1, show (0 : Int32) = nI 0 from rfl, nI_leI (by omega) (by omega)]
          by_cases hm : pm p = 0
          · rw [if_pos hm] at ih
            refine ⟨fun _ => w_X12_drift_51 _ _ σ' τ' ?_, fun q => by omega⟩
            rw [nI_1]
            exact M_passes R' hh2 (fun σ2 R2 f2 => ih σ2 τ' R2 z' t' (fun c c1 c2 => (f2 c c1).trans (f' c c1 c2)))
          · rw [if_neg hm] at ih
            refine ⟨fun q => by omega, fun _ => M_draw (n := 5) z' (by decide) (by decide) ?_⟩
            rw [m1]
            refine M_draw (z := nxt a.2) ⟨nxt_lt _, st2_same _ _ _ _⟩ (by omega) m2 ?_
            refine M_does R' (drw_lt (by decide)) (drw_lt (by omega)) (fun σ4 R4 f4 => w_X12_drift_51 _ _ σ4 _ ?_)
            rw [nI_1]
            refine M_passes R4 (by rw [hr_act]; exact hh2) (fun σ5 R5 f5 => ih σ5 _ R5 ⟨nxt_lt _, st2_same _ _ _ _⟩ ?_ (fun c c1 c2 => (f5 c c1).trans ((f4 c c1 c2).trans (f' c c1 c2))))
            rw [st2_cell _ _ (by decide), st2_cell _ _ (by decide)]
            exact t'
      · intro σ4 τ4 R4 z4 t4 f4
        refine w_X12_drift_18 _ _ σ4 τ4 ⟨fun _ => M_are (v := 3) R4 (by decide) (hZ _ _ ?_), fun q => absurd (nI_le (Nat.le_refl _) (by omega)) q⟩
        obtain ⟨m1, m2, m3, m4, m5, m6⟩ := M2.2.2
        have g : ∀ c, c ≠ 125 → c ≠ 133 → c ≠ 134 → c ≠ 135 → σ4 c = σ2 c := fun c a1 a2 a3 a4 => (f4 c a2 a4).trans (f3.1 c a1 a2 a3 a4)
        have gj : ∀ j, j ≠ 21 → j ≠ 22 → σ4 125 j = σ2 125 j := fun j a1 a2 => by rw [f4 125 (by decide) (by decide)]; exact f3.2 j a1 a2
        exact ⟨p, _, _, _, C2.cong (fun c a => g c (by omega) (by omega) (by omega) (by omega)), R4, U3.fr R4.1 f4, m1.cong R4.1 (g 141 (by decide) (by decide) (by decide) (by decide)) (g 142 (by decide) (by decide) (by decide) (by decide)) t4, z4, m3.cong (gj 26 (by decide) (by decide)) (g 136 (by decide) (by decide) (by decide) (by decide)) (g 137 (by decide) (by decide) (by decide) (by decide)), m4.cong (gj 30 (by decide) (by decide)) (g 139 (by decide) (by decide) (by decide) (by decide)) (g 140 (by decide) (by decide) (by decide) (by decide)), m5.cong (gj 0 (by decide) (by decide)) (g 126 (by decide) (by decide) (by decide) (by decide)), (gj 5 (by decide) (by decide)).trans m6⟩
end HOURS
