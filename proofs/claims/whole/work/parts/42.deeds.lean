/-! WHAT IS DONE to a scene: stages, sheets, shapes, loads. -/
theorem onC_put (p : Pl) (A : Sc) {t v : Nat} (ht : t < pm p) : onC p (sSt A (va_up (stS A) t v)) + (if stS A t = 2 then 1 else 0) = onC p A + (if v = 2 then 1 else 0) := by
  have h1 := fb_ct_upd (isA A 2) (decide (v = 2)) ht
  have e : fb_ct (isA (sSt A (va_up (stS A) t v)) 2) (pm p) = fb_ct (fun k => if k = t then decide (v = 2) else isA A 2 k) (pm p) := fb_ct_cong (fun k _ => by
    show decide (va_up (stS A) t v k = 2) = _
    unfold va_up
    split <;> rfl)
  unfold onC
  rw [e]
  have e2 : (if isA A 2 t = true then 1 else 0 : Nat) = (if stS A t = 2 then 1 else 0) := by unfold isA; simp
  have e3 : (if decide (v = 2) = true then 1 else 0 : Nat) = (if v = 2 then 1 else 0) := by simp
  rw [e2, e3] at h1
  exact h1
theorem okA_putSt {p : Pl} {A : Sc} {t v : Nat} (h : okA p A) (ht : t < pm p) (hv : v ≤ 3) (ho : v = 2 → onC p A < pP p) : okA p (sSt A (va_up (stS A) t v)) := by
  obtain ⟨a1, a2, a3, a4, a5, a6⟩ := h
  refine ⟨a1, a2, fun q hq => ⟨?_, (a3 q hq).2⟩, a4, a5, ?_⟩
  · show va_up (stS A) t v q ≤ 3
    unfold va_up; split
    · exact hv
    · exact (a3 q hq).1
  · have := onC_put p A (t := t) (v := v) ht
    by_cases e : v = 2
    · have := ho e
      rw [if_pos e] at *
      split at * <;> omega
    · rw [if_neg e] at *
      split at * <;> omega
theorem okA_putSh {p : Pl} {A : Sc} {v : Nat} (h : okA p A) (hv : v ≤ 999999) : okA p (sSh A v) := ⟨h.1, hv, h.2.2⟩
theorem okA_putSp {p : Pl} {A : Sc} {t v : Nat} (h : okA p A) (hv : v < 2 ^ 25) : okA p (sSp A (va_up (spS A) t v)) := by
  obtain ⟨a1, a2, a3, a4, a5, a6⟩ := h
  refine ⟨a1, a2, fun q hq => ⟨(a3 q hq).1, (a3 q hq).2.1, ?_⟩, a4, a5, a6⟩
  show va_up (spS A) t v q < 2 ^ 25
  unfold va_up; split
  · exact hv
  · exact (a3 q hq).2.2
theorem okA_putLd {p : Pl} {A : Sc} {e v : Nat} (h : okA p A) (he : e < pn p) (hv : v ≤ ps p e) : okA p (sLd A (va_up (ldS A) e v)) := by
  obtain ⟨a1, a2, a3, a4, a5, a6⟩ := h
  refine ⟨a1, a2, a3, fun q hq => ?_, fun q hq => ?_, a6⟩
  · show va_up (ldS A) e v q ≤ ps p q
    unfold va_up; split
    · rename_i h1; rw [h1]; exact hv
    · exact a4 q hq
  · show va_up (ldS A) e v q = 0
    unfold va_up; rw [if_neg (by omega)]; exact a5 q hq
section PUTS
variable {σ : zSg} {p : Pl} {A : Sc}
theorem up_nI {f : Nat → Int32} {g : Nat → Nat} {t v q : Nat} (h : q ≠ t → f q = nI (g q)) : va_up f t (nI v) q = nI (va_up g t v q) := by
  unfold va_up; split
  · rfl
  · rename_i e; exact h e
theorem RC_putSt (R : RC σ p A) {t v : Nat} (ht : t < pm p) (hv : v ≤ 3) (ho : v = 2 → onC p A < pP p) : RC (st2 σ 15 t (nI v)) p (sSt A (va_up (stS A) t v)) := by
  obtain ⟨h1, hA, hP, ⟨d1, d2, d3, d4, d5, d6⟩⟩ := R
  refine ⟨h1, okA_putSt hA ht hv ho, hP, ⟨d1, d2, fun q hq => ?_, d4, d5, d6⟩⟩
  show st2 σ 15 t (nI v) 15 q = nI (va_up (stS A) t v q)
  rw [st2_row]; exact up_nI (fun _ => d3 q hq)
theorem RC_putSh (R : RC σ p A) {v : Nat} (hv : v ≤ 999999) : RC (st2 σ 14 1 (nI v)) p (sSh A v) := by
  obtain ⟨h1, hA, hP, ⟨d1, d2, d3, d4, d5, d6⟩⟩ := R
  exact ⟨h1, okA_putSh hA hv, hP, ⟨(st2_slot _ _ (by decide)).trans d1, st2_same _ _ _ _, d3, d4, d5, d6⟩⟩
theorem RC_putSp (R : RC σ p A) {t v : Nat} (hv : v < 2 ^ 25) : RC (st2 σ 17 t (nI v)) p (sSp A (va_up (spS A) t v)) := by
  obtain ⟨h1, hA, hP, ⟨d1, d2, d3, d4, d5, d6⟩⟩ := R
  refine ⟨h1, okA_putSp hA hv, hP, ⟨d1, d2, d3, d4, fun q hq => ?_, d6⟩⟩
  show st2 σ 17 t (nI v) 17 q = nI (va_up (spS A) t v q)
  rw [st2_row]; exact up_nI (fun _ => d5 q hq)
theorem RC_putLd (R : RC σ p A) {e v : Nat} (he : e < pn p) (hv : v ≤ ps p e) : RC (st2 σ 18 e (nI v)) p (sLd A (va_up (ldS A) e v)) := by
  obtain ⟨h1, hA, hP, ⟨d1, d2, d3, d4, d5, d6⟩⟩ := R
  refine ⟨h1, okA_putLd hA he hv, hP, ⟨d1, d2, d3, d4, d5, fun q hq => ?_⟩⟩
  show st2 σ 18 e (nI v) 18 q = nI (va_up (ldS A) e v q)
  rw [st2_row]; exact up_nI (fun _ => d6 q hq)
theorem RM_putSt (R : RM σ p A) {t v : Nat} (ht : t < pm p) (hv : v ≤ 3) (ho : v = 2 → onC p A < pP p) : RM (st2 σ 133 (14 + t) (nI v)) p (sSt A (va_up (stS A) t v)) := by
  obtain ⟨h1, hA, hMP, ⟨d1, d2, d3, d4, d5, d6⟩⟩ := R
  have hm6 := h1.2.2.1
  refine ⟨h1, okA_putSt hA ht hv ho, hMP, ⟨?_, ?_, fun q hq => ?_, fun q hq => ?_, fun q hq => ?_, fun q hq => ?_⟩⟩
  · exact (st2_slot _ _ (by omega)).trans d1
  · exact (st2_slot _ _ (by omega)).trans d2
  · show st2 σ 133 (14 + t) (nI v) 133 (0 + 14 + q) = nI (va_up (stS A) t v q)
    by_cases e : q = t
    · subst e
      rw [show 0 + 14 + q = 14 + q by omega, st2_same]; simp [va_up]
    · rw [st2_slot _ _ (by omega), d3 q hq]; simp [va_up, e]
  · exact (st2_slot _ _ (by omega)).trans (d4 q hq)
  · exact (st2_slot _ _ (by omega)).trans (d5 q hq)
  · exact (st2_slot _ _ (by omega)).trans (d6 q hq)
theorem RM_putSh (R : RM σ p A) {v : Nat} (hv : v ≤ 999999) : RM (st2 σ 133 1 (nI v)) p (sSh A v) := by
  obtain ⟨h1, hA, hMP, ⟨d1, d2, d3, d4, d5, d6⟩⟩ := R
  exact ⟨h1, okA_putSh hA hv, hMP, ⟨(st2_slot _ _ (by decide)).trans d1, st2_same _ _ _ _, fun q hq => (st2_slot _ _ (by omega)).trans (d3 q hq), fun q hq => (st2_slot _ _ (by omega)).trans (d4 q hq), fun q hq => (st2_slot _ _ (by omega)).trans (d5 q hq), fun q hq => (st2_slot _ _ (by omega)).trans (d6 q hq)⟩⟩
theorem RM_putSp (R : RM σ p A) {t v : Nat} (ht : t < pm p) (hv : v < 2 ^ 25) : RM (st2 σ 133 (8 + t) (nI v)) p (sSp A (va_up (spS A) t v)) := by
  obtain ⟨h1, hA, hMP, ⟨d1, d2, d3, d4, d5, d6⟩⟩ := R
  have hm6 := h1.2.2.1
  refine ⟨h1, okA_putSp hA hv, hMP, ⟨?_, ?_, fun q hq => ?_, fun q hq => ?_, fun q hq => ?_, fun q hq => ?_⟩⟩
  · exact (st2_slot _ _ (by omega)).trans d1
  · exact (st2_slot _ _ (by omega)).trans d2
  · exact (st2_slot _ _ (by omega)).trans (d3 q hq)
  · exact (st2_slot _ _ (by omega)).trans (d4 q hq)
  · show st2 σ 133 (8 + t) (nI v) 133 (0 + 8 + q) = nI (va_up (spS A) t v q)
    by_cases e : q = t
    · subst e
      rw [show 0 + 8 + q = 8 + q by omega, st2_same]; simp [va_up]
    · rw [st2_slot _ _ (by omega), d5 q hq]; simp [va_up, e]
  · exact (st2_slot _ _ (by omega)).trans (d6 q hq)
theorem RM_putLd (R : RM σ p A) {e v : Nat} (he : e < pn p) (hv : v ≤ ps p e) : RM (st2 σ 133 (20 + e) (nI v)) p (sLd A (va_up (ldS A) e v)) := by
  obtain ⟨h1, hA, hMP, ⟨d1, d2, d3, d4, d5, d6⟩⟩ := R
  have hm6 := h1.2.2.1
  refine ⟨h1, okA_putLd hA he hv, hMP, ⟨?_, ?_, fun q hq => ?_, fun q hq => ?_, fun q hq => ?_, fun q hq => ?_⟩⟩
  · exact (st2_slot _ _ (by omega)).trans d1
  · exact (st2_slot _ _ (by omega)).trans d2
  · exact (st2_slot _ _ (by omega)).trans (d3 q hq)
  · exact (st2_slot _ _ (by omega)).trans (d4 q hq)
  · exact (st2_slot _ _ (by omega)).trans (d5 q hq)
  · show st2 σ 133 (20 + e) (nI v) 133 (0 + 20 + q) = nI (va_up (ldS A) e v q)
    by_cases e2 : q = e
    · subst e2
      rw [show 0 + 20 + q = 20 + q by omega, st2_same]; simp [va_up]
    · rw [st2_slot _ _ (by omega), d6 q hq]; simp [va_up, e2]
end PUTS
def wrapN (A : Sc) (t : Nat) : Nat := if spS A t = 0 then 1 else fewN (spS A t)
def wrapA (A : Sc) (t : Nat) : Sc := sSh (sSt A (va_up (stS A) t 1)) (min (shS A + wrapN A t) 999999)
theorem wrapN_le {A : Sc} {t : Nat} (h : spS A t < 2 ^ 25) : wrapN A t ≤ 16 := by
  unfold wrapN
  split
  · omega
  · exact fewN_le h
def shareS (p : Pl) (A : Sc) : Nat → Sc
  | 0 => A
  | k + 1 => match bst (leftE p (shareS p A k)) (pn p) with
    | none => shareS p A k
    | some e => sLd (shareS p A k) (va_up (ldS (shareS p A k)) e (ldS (shareS p A k) e + 1))
def shareA (p : Pl) (A : Sc) (t : Nat) : Sc := sSt (shareS p A (wgtA A t)) (va_up (stS (shareS p A (wgtA A t))) t 3)
def unldT (A : Sc) (k : Nat) : Sc := sLd A (fun e => if e < k then 0 else ldS A e)
def unldA (A : Sc) : Sc := sLd A (fun _ => 0)
theorem unldT_s (A : Sc) (k : Nat) : sLd (unldT A k) (va_up (ldS (unldT A k)) k 0) = unldT A (k + 1) := by
  show sLd A (va_up (fun e => if e < k then 0 else ldS A e) k 0) = sLd A (fun e => if e < k + 1 then 0 else ldS A e)
  congr 1
  funext e
  unfold va_up
  by_cases h : e = k
  · subst h; simp
  · rw [if_neg h]
    by_cases h2 : e < k
    · show (if e < k then 0 else ldS A e) = _
      rw [if_pos h2, if_pos (by omega)]
    · show (if e < k then 0 else ldS A e) = _
      rw [if_neg h2, if_neg (by omega)]
theorem unldT_0 (A : Sc) : unldT A 0 = A := by unfold unldT sLd; simp; rfl
theorem unldT_end {p : Pl} {A : Sc} (h : okA p A) {k : Nat} (hk : pn p ≤ k) : unldT A k = unldA A := by
  unfold unldT unldA
  congr 1
  funext e
  by_cases h2 : e < k
  · rw [if_pos h2]
  · rw [if_neg h2]; exact h.2.2.2.2.1 e (by omega)
theorem share_ex {p : Pl} {B : Sc} (hp : okP p) (h : 1 ≤ leftA p B) : ∃ e, bst (leftE p B) (pn p) = some e ∧ e < pn p ∧ 1 ≤ leftE p B e := by
  have hn : 0 < pn p := by
    apply Nat.pos_of_ne_zero
    intro q
    unfold leftA at h
    rw [q] at h
    exact absurd h (by show ¬ 1 ≤ 0; omega)
  obtain ⟨e, he⟩ := bst_some (leftE p B) hn
  refine ⟨e, he, bst_lt _ he, ?_⟩
  apply Nat.pos_of_ne_zero
  intro q
  have hm := bst_max _ he
  have hb := fb_sm_bound (f := leftE p B) (c := 0) (n := pn p) (fun j hj => by have := hm j hj; omega)
  unfold leftA at h
  omega
theorem share_left {p : Pl} {B : Sc} {e : Nat} (he : e < pn p) (h1 : 1 ≤ leftE p B e) : leftA p (sLd B (va_up (ldS B) e (ldS B e + 1))) + 1 = leftA p B := by
  have h2 := fb_sm_upd (leftE p B) (leftE p B e - 1) he
  have e2 : fb_sm (leftE p (sLd B (va_up (ldS B) e (ldS B e + 1)))) (pn p) = fb_sm (fun k => if k = e then leftE p B e - 1 else leftE p B k) (pn p) := fb_sm_cong (fun k _ => by
    show ps p k - va_up (ldS B) e (ldS B e + 1) k = _
    unfold va_up
    by_cases q : k = e
    · subst q
      rw [if_pos rfl, if_pos rfl]; unfold leftE; omega
    · rw [if_neg q, if_neg q]; rfl)
  unfold leftA
  rw [e2]
  omega
theorem share_step {p : Pl} {A : Sc} (hp : okP p) : ∀ k, k < leftA p A → ∃ e, shareS p A (k + 1) = sLd (shareS p A k) (va_up (ldS (shareS p A k)) e (ldS (shareS p A k) e + 1)) ∧ bst (leftE p (shareS p A k)) (pn p) = some e ∧ e < pn p ∧ 1 ≤ leftE p (shareS p A k) e ∧ leftA p (shareS p A k) + k = leftA p A
  | 0, hk => by
    obtain ⟨e, e1, e2, e3⟩ := share_ex (B := A) hp (by omega)
    refine ⟨e, ?_, e1, e2, e3, rfl⟩
    show (match bst (leftE p A) (pn p) with
      | none => A
      | some e => sLd A (va_up (ldS A) e (ldS A e + 1))) = _
    rw [e1]; rfl
  | k + 1, hk => by
    obtain ⟨e, e1, e2, e3, e4, e5⟩ := share_step (A := A) hp k (by omega)
    have hl : leftA p (shareS p A (k + 1)) + 1 = leftA p (shareS p A k) := by rw [e1]; exact share_left e3 e4
    obtain ⟨f, f1, f2, f3⟩ := share_ex (B := shareS p A (k + 1)) hp (by omega)
    refine ⟨f, ?_, f1, f2, f3, by omega⟩
    show (match bst (leftE p (shareS p A (k + 1))) (pn p) with
      | none => shareS p A (k + 1)
      | some e => sLd (shareS p A (k + 1)) (va_up (ldS (shareS p A (k + 1))) e (ldS (shareS p A (k + 1)) e + 1))) = _
    rw [f1]
section DEEDS
variable {l : Launch} {D : zDD} {b : Nat} {σ : zSg} {τ : zLm} {p : Pl} {A : Sc} {Q : Int32 → zSg → zLm → Prop} {G : zSg → zLm → Prop}
theorem S_putInSuet (R : RC σ p A) {t : Nat} (ht : t < pm p) (h : ∀ σ', RC σ' p (wrapA A t) → (∀ c, (c < 14 ∨ 21 < c) → σ' c = σ c) → Q (nI (wrapN A t)) σ' τ) : SI l D b M_X2_putInSuet 3 G0 [.ref (b + 8), .int (nI t)] σ τ Q := by
  obtain ⟨h1, h2⟩ := RC_sp R ht
  have h6 := RC_t R ht
  have hN := wrapN_le h2
  have fin : ∀ σ', RC σ' p A → (∀ c, (c < 14 ∨ 21 < c) → σ' c = σ c) → AI l D b M_X2_putInSuet 3 G0 Q 32 [(0, .ref (b + 8)), (1, .int (nI t))] [.int (nI (wrapN A t))] G0 σ' τ := by
    intro σ' R' hf
    refine w_X2_putInSuet_32 _ _ σ' τ ⟨vp_in_t h6 (by decide), ?_⟩
    have hs : shS A ≤ 999999 := R'.2.1.2.1
    rw [nI_c (by omega), st2_cell _ _ (by decide), R'.2.2.2.2.1, nI_add, show (999999 : Int32) = nI 999999 from rfl, mn_nI (by omega) (by omega)]
    have R2 := RC_putSt R' (v := 1) ht (by decide) (fun q => absurd q (by decide))
    exact h _ (RC_putSh R2 (Nat.min_le_right _ _)) (fun c hc => by rw [st2_cell _ _ (by omega), st2_cell _ _ (by omega)]; exact hf c hc)
  refine s_X2_putInSuet _ σ τ ⟨vp_in_t h6 (by decide), ?_⟩
  rw [nI_c (by omega), h1, show (0 : Int32) = nI 0 from rfl, nI_eq (by omega) (by omega)]
  refine ⟨fun c => ⟨vp_in_t h6 (by decide), S_fewest h2 (fun σ' f => ?_)⟩, fun c => ?_⟩
  · have e : fewN (spS A t) = wrapN A t := by unfold wrapN; rw [if_neg c]
    rw [e]
    exact fin σ' (R.cong (fun q q1 q2 => f q (by omega) (by omega))) (fun q hq => f q (by omega) (by omega))
  · have e : wrapN A t = 1 := by unfold wrapN; rw [if_pos c]
    have := fin σ R (fun _ _ => rfl)
    rw [e] at this
    exact this
theorem M_wraps (R : RM σ p A) {t : Nat} (ht : t < pm p) (h : ∀ σ', RM σ' p (wrapA A t) → (∀ c, c ≠ 133 → c ≠ 135 → σ' c = σ c) → Q (nI (wrapN A t)) σ' τ) : SI l D b M_X12_wraps 3 G0 [.ref (b + 125), .int (nI t)] σ τ Q := by
  obtain ⟨h1, h2⟩ := RM_sp R ht
  have h6 := RM_t R ht
  have hN := wrapN_le h2
  have fin : ∀ σ', RM σ' p A → (∀ c, c ≠ 133 → c ≠ 135 → σ' c = σ c) → ((((σ' 133 1) + nI (wrapN A t)) ≤ 999999 → AI l D b M_X12_wraps 3 G0 Q 32 [(0, .ref (b + 125)), (1, .int (nI t)), (2, .int (nI (wrapN A t)))] [.int ((σ' 133 1) + nI (wrapN A t)), .int 1, .ref (b + 133)] G0 σ' τ) ∧ (¬ ((σ' 133 1) + nI (wrapN A t)) ≤ 999999 → AI l D b M_X12_wraps 3 G0 Q 32 [(0, .ref (b + 125)), (1, .int (nI t)), (2, .int (nI (wrapN A t)))] [.int 999999, .int 1, .ref (b + 133)] G0 σ' τ)) := by
    intro σ' R' hf
    have hs : shS A ≤ 999999 := R'.2.1.2.1
    have e1 : σ' 133 1 = nI (shS A) := R'.2.2.2.2.1
    have fin2 : ∀ v, v = min (shS A + wrapN A t) 999999 → AI l D b M_X12_wraps 3 G0 Q 32 [(0, .ref (b + 125)), (1, .int (nI t)), (2, .int (nI (wrapN A t)))] [.int (nI v), .int 1, .ref (b + 133)] G0 σ' τ := by
      intro v hv
      refine w_X12_wraps_32 _ _ _ _ σ' τ ?_
      rw [nI_p14, nI_c (by omega), show (1 : Int32).toNatClampNeg = 1 from rfl]
      have R2 := RM_putSt (RM_putSh R' (v := v) (by omega)) (v := 1) ht (by decide) (fun q => absurd q (by decide))
      refine ⟨vp_in_t (t := 1) (by decide) (by decide), vp_in_t (by omega) (by decide), h _ ?_ (fun c c1 c2 => by rw [st2_cell _ _ c1, st2_cell _ _ c1]; exact hf c c1 c2)⟩
      have e : wrapA A t = sSt (sSh A v) (va_up (stS (sSh A v)) t 1) := by rw [hv]; rfl
      rw [e]; exact R2
    rw [e1, nI_add, show (999999 : Int32) = nI 999999 from rfl, nI_leI (by omega) (by omega)]
    exact ⟨fun c => fin2 _ (by omega), fun c => fin2 _ (by omega)⟩
  refine s_X12_wraps _ σ τ (s_X12_sheetsFor _ σ τ ?_)
  rw [nI_p8, nI_c (by omega), h1, show (0 : Int32) = nI 0 from rfl, nI_eq (by omega) (by omega)]
  refine ⟨vp_in_t (by omega) (by decide), fun c => ⟨vp_in_t (by omega) (by decide), M_few h2 c (fun σ' K _ f => ⟨fun _ => ?_, fun q => absurd rfl q⟩)⟩, fun c => ?_⟩
  · have e : fewN (spS A t) = wrapN A t := by unfold wrapN; rw [if_neg c]
    rw [e]
    exact fin σ' (R.cong (fun j _ _ => by rw [f 125 (by decide)]) (f 131 (by decide)) (f 132 (by decide)) (f 133 (by decide))) (fun q q1 q2 => f q q2)
  · have e : wrapN A t = 1 := by unfold wrapN; rw [if_pos c]
    have := fin σ R (fun _ _ _ => rfl)
    rw [e] at this
    exact this
theorem sLd_wgt (B : Sc) (f : Nat → Nat) : spS (sLd B f) = spS B := rfl
theorem S_shareOut (R : RC σ p A) {t : Nat} (ht : t < pm p) (hb : wgtA A t ≤ leftA p A) (h : ∀ σ', RC σ' p (shareA p A t) → (∀ c, (c < 14 ∨ 21 < c) → σ' c = σ c) → G σ' τ) : SV l D b M_X2_shareOut 2 G0 [.ref (b + 8), .int (nI t)] σ τ G := by
  have h6 := RC_t R ht
  have hw := (wgt_le A t).2
  refine s_X2_shareOut _ σ τ (S_weight R ht ?_)
  refine lp_up (P := fun k => ∀ σ', RC σ' p (shareS p A k) → (∀ c, (c < 14 ∨ 21 < c) → σ' c = σ c) → AV l D b M_X2_shareOut 2 G0 G 8 [(0, .ref (b + 8)), (1, .int (nI t)), (2, .int (nI (wgtA A t))), (3, .int (nI k))] [] G0 σ' τ) (n := wgtA A t) ?_ ?_ 0 (Nat.zero_le _) σ R (fun _ _ => rfl)
  · intro k hk ih σ' R' hf
    obtain ⟨e, e1, e2, e3, e4, e5⟩ := share_step (A := A) R.1 k (by omega)
    obtain ⟨l1, l2, l3, l4⟩ := RC_ld R' e3
    have he6 := RC_e R' e3
    refine w_X2_shareOut_8 _ _ _ σ' τ ⟨fun c => ?_, fun _ => S_strongest R' ?_⟩
    · rw [nI_leI (by omega) (by omega)] at c; omega
    · rw [e2]
      show (nI e = -1 → _) ∧ (¬ nI e = -1 → _)
      refine ⟨fun q => absurd q (nI_m1 (by omega)), fun _ => ⟨vp_in_t he6 (by decide), vp_in_t he6 (by decide), ?_⟩⟩
      show AV l D b M_X2_shareOut 2 G0 G 8 [(0, .ref (b + 8)), (1, .int (nI t)), (2, .int (nI (wgtA A t))), (3, .int (nI k + 1))] [] G0 (st2 σ' 18 (nI e).toNatClampNeg (σ' 18 (nI e).toNatClampNeg + 1)) τ
      rw [nI_c (by omega), l1, nI_1, nI_1]
      refine ih _ ?_ (fun c hc => (st2_cell _ _ (by omega)).trans (hf c hc))
      rw [e1]
      refine RC_putLd R' e3 ?_
      unfold leftE at e4; omega
  · intro σ' R' hf
    refine w_X2_shareOut_8 _ _ _ σ' τ ⟨fun _ => ⟨vp_in_t h6 (by decide), ?_⟩, fun c => absurd (nI_le (Nat.le_refl _) (by omega)) c⟩
    rw [nI_c (by omega)]
    exact h _ (RC_putSt R' (v := 3) ht (by decide) (fun q => absurd q (by decide))) (fun c hc => (st2_cell _ _ (by omega)).trans (hf c hc))
theorem M_bears (R : RM σ p A) {t : Nat} (ht : t < pm p) (hb : wgtA A t ≤ leftA p A) (h : ∀ σ', RM σ' p (shareA p A t) → (∀ c, c ≠ 133 → σ' c = σ c) → G σ' τ) : SV l D b M_X12_bears 2 G0 [.ref (b + 125), .int (nI t)] σ τ G := by
  have h6 := RM_t R ht
  have hw := (wgt_le A t).2
  refine s_X12_bears _ σ τ (M_weight R ht ?_)
  have key := lp_up (P := fun k => ∀ σ', RM σ' p (shareS p A k) → (∀ c, c ≠ 133 → σ' c = σ c) → AV l D b M_X12_bears 2 G0 G 6 [(0, .ref (b + 125)), (1, .int (nI t)), (2, .int (nI (wgtA A t - k)))] [] G0 σ' τ) (n := wgtA A t) ?_ ?_ 0 (Nat.zero_le _) σ R (fun _ _ => rfl)
  · exact key
  · intro k hk ih σ' R' hf
    obtain ⟨e, e1, e2, e3, e4, e5⟩ := share_step (A := A) R.1 k (by omega)
    obtain ⟨l1, l2, l3, l4⟩ := RM_ld R' e3
    have he6 := RM_e R' e3
    refine w_X12_bears_6 _ _ σ' τ ⟨fun c => ?_, fun _ => M_strongest R' ?_⟩
    · rw [show (0 : Int32) = nI 0 from rfl, nI_leI (by omega) (by omega)] at c; omega
    · rw [e2]
      show vp_in (20 + nI e) 26 ∧ vp_in (20 + nI e) 26 ∧ AV l D b M_X12_bears 2 G0 G 6 [(0, .ref (b + 125)), (1, .int (nI t)), (2, .int (nI (wgtA A t - k) + (-1)))] [] G0 (st2 σ' 133 (20 + nI e).toNatClampNeg (σ' 133 (20 + nI e).toNatClampNeg + 1)) τ
      rw [nI_p20, nI_c (by omega), l1, nI_1, show wgtA A t - k = (wgtA A t - (k + 1)) + 1 by omega, pk_m1]
      refine ⟨vp_in_t (by omega) (by decide), vp_in_t (by omega) (by decide), ih _ ?_ (fun c hc => (st2_cell _ _ hc).trans (hf c hc))⟩
      rw [e1]
      refine RM_putLd R' e3 ?_
      unfold leftE at e4; omega
  · intro σ' R' hf
    rw [Nat.sub_self]
    refine w_X12_bears_6 _ _ σ' τ ⟨fun _ => ?_, fun c => absurd (by decide) c⟩
    rw [nI_p14, nI_c (by omega)]
    exact ⟨vp_in_t (by omega) (by decide), h _ (RM_putSt R' (v := 3) ht (by decide) (fun q => absurd q (by decide))) (fun c hc => (st2_cell _ _ hc).trans (hf c hc))⟩
theorem S_unload (R : RC σ p A) (h : ∀ σ', RC σ' p (unldA A) → (∀ c, (c < 14 ∨ 21 < c) → σ' c = σ c) → Q (nI (fb_sm (ldS A) (pn p))) σ' τ) : SI l D b M_X2_unload 0 G0 [.ref (b + 8)] σ τ Q := by
  refine s_X2_unload σ τ ?_
  refine lp_up (P := fun k => ∀ σ', RC σ' p (unldT A k) → (∀ c, (c < 14 ∨ 21 < c) → σ' c = σ c) → AI l D b M_X2_unload 0 G0 Q 4 [(0, .ref (b + 8)), (1, .int (nI (fb_sm (ldS A) k))), (2, .int (nI k))] [] G0 σ' τ) (n := pn p) ?_ ?_ 0 (Nat.zero_le _) σ (by rw [unldT_0]; exact R) (fun _ _ => rfl)
  · intro k hk ih σ' R' hf
    obtain ⟨hm, hm6⟩ := RC_n R'
    obtain ⟨l1, l2, l3, l4⟩ := RC_ld R' hk
    have el : ldS (unldT A k) k = ldS A k := by
      show (if k < k then 0 else ldS A k) = ldS A k
      rw [if_neg (by omega)]
    refine w_X2_unload_4 _ _ σ' τ ⟨fun c => ?_, fun _ => ⟨vp_in_t (by omega) (by decide), fun v e => ⟨vp_in_t (by omega) (by decide), ?_⟩⟩⟩
    · rw [hm, nI_leI (by omega) (by omega)] at c; omega
    · rw [nI_c (by omega), l1, el, nI_add] at e
      rw [nI_c (by omega), e, nI_1]
      refine ih _ ?_ (fun c hc => (st2_cell _ _ (by omega)).trans (hf c hc))
      rw [← unldT_s]
      exact RC_putLd R' (v := 0) hk (Nat.zero_le _)
  · intro σ' R' hf
    obtain ⟨hm, hm6⟩ := RC_n R'
    refine w_X2_unload_4 _ _ σ' τ ⟨fun _ => ?_, fun c => absurd ?_ c⟩
    · rw [unldT_end R.2.1 (Nat.le_refl _)] at R'
      exact h σ' R' hf
    · rw [hm]; exact nI_le (Nat.le_refl _) (by omega)
theorem sm_tail {f : Nat → Nat} {n : Nat} (h : ∀ e, n ≤ e → f e = 0) : ∀ d, fb_sm f (n + d) = fb_sm f n
  | 0 => rfl
  | d + 1 => by
    show fb_sm f (n + d) + f (n + d) = _
    rw [sm_tail h d, h _ (by omega)]; rfl
theorem M_rests (R : RM σ p A) (h : ∀ σ', RM σ' p (unldA A) → (∀ c, c ≠ 133 → σ' c = σ c) → Q (nI (fb_sm (ldS A) (pn p))) σ' τ) : SI l D b M_X12_rests 0 G0 [.ref (b + 125)] σ τ Q := by
  have hn6 := R.1.2.2.2.1
  have hsum : fb_sm (ldS A) 6 = fb_sm (ldS A) (pn p) := by
    have := sm_tail (f := ldS A) (n := pn p) R.2.1.2.2.2.2.1 (6 - pn p)
    rw [show pn p + (6 - pn p) = 6 by omega] at this; exact this
  refine s_X12_rests σ τ ?_
  refine lp_up (P := fun k => ∀ σ', RM σ' p (unldT A k) → (∀ c, c ≠ 133 → σ' c = σ c) → AI l D b M_X12_rests 0 G0 Q 4 [(0, .ref (b + 125)), (1, .int (nI (fb_sm (ldS A) k))), (2, .int (nI k))] [] G0 σ' τ) (n := 6) ?_ ?_ 0 (Nat.zero_le _) σ (by rw [unldT_0]; exact R) (fun _ _ => rfl)
  · intro k hk ih σ' R' hf
    have l1 : σ' 133 (20 + k) = nI (ldS A k) := by
      have := R'.2.2.2.2.2.2.2.2 k hk
      rw [Nat.zero_add] at this
      rw [this]
      congr 1
      show (if k < k then 0 else ldS A k) = ldS A k
      rw [if_neg (by omega)]
    refine w_X12_rests_4 _ _ σ' τ ⟨fun c => ?_, fun _ => ?_⟩
    · rw [show (6 : Int32) = nI 6 from rfl, nI_leI (by omega) (by omega)] at c; omega
    · rw [nI_p20, nI_c (by omega), l1, nI_add, nI_1]
      refine ⟨vp_in_t (by omega) (by decide), fun v e => ⟨vp_in_t (by omega) (by decide), ?_⟩⟩
      rw [e]
      refine ih _ ?_ (fun c hc => (st2_cell _ _ hc).trans (hf c hc))
      by_cases hk2 : k < pn p
      · rw [← unldT_s]
        exact RM_putLd R' (v := 0) hk2 (Nat.zero_le _)
      · have e0 : ldS A k = 0 := R.2.1.2.2.2.2.1 k (by omega)
        have ei : st2 σ' 133 (20 + k) 0 = σ' := by
          have := st2_id σ' 133 (20 + k)
          rw [l1, e0] at this
          exact this
        rw [ei, unldT_end R.2.1 (show pn p ≤ k + 1 by omega), ← unldT_end R.2.1 (show pn p ≤ k by omega)]
        exact R'
  · intro σ' R' hf
    refine w_X12_rests_4 _ _ σ' τ ⟨fun _ => ?_, fun c => absurd (by decide) c⟩
    rw [unldT_end R.2.1 hn6] at R'
    rw [hsum]
    exact h σ' R' hf
end DEEDS
