/-! SOFTENING, the reference. -/
section MSOFT
variable {l : Launch} {D : zDD} {b : Nat} {γ : zGm} {σ : zSg} {τ : zLm} {p : Pl} {A : Sc} {Q : Int32 → zSg → zLm → Prop} {G : zSg → zLm → Prop}
theorem RM_k {t : Nat} (R : RM σ p A) (ht : t < pm p) : σ 131 t = nI (pk p t) ∧ pk p t ≤ 3 := ⟨R.2.2.1.2.2.2.2.1 t ht, R.1.2.2.2.2.2.2.1 t ht⟩
theorem RM_H (R : RM σ p A) : σ 125 14 = nI (pH p) ∧ pH p ≤ 20 := ⟨R.2.2.1.1, R.1.1⟩
theorem RM_hr (R : RM σ p A) : σ 133 0 = nI (hrS A) ∧ hrS A ≤ 9060 := ⟨R.2.2.2.1, R.2.1.1⟩
theorem M_less {a c : Nat} (ha : a < 2 ^ 31) (hc : c < 2 ^ 31) (h : Q (nI (a - c)) σ τ) : SI l D b M_X12_less 0 γ [.int (nI a), .int (nI c)] σ τ Q := by
  refine s_X12_less _ _ σ τ ?_
  rw [nI_leI ha hc]
  refine ⟨fun q => ?_, fun q => ?_⟩
  · rw [show a - c = 0 by omega] at h; exact h
  · rw [pk_sub (by omega)]; exact h
theorem M_softens (R : RM σ p A) {t hh : Nat} (ht : t < pm p) (hh2 : hh < 2 ^ 30) (h : Q (nI (satH p A t hh)) σ τ) : SI l D b M_X12_softens 1 G0 [.ref (b + 125), .int (nI t), .int (nI hh)] σ τ Q := by
  obtain ⟨h1, h2⟩ := RM_k R ht
  obtain ⟨h3, h4⟩ := RM_H R
  obtain ⟨h5, h7⟩ := RM_sp R ht
  have h6 := RM_t R ht
  have hl := pcn_le (spS A t)
  refine s_X12_softens _ _ σ τ ?_
  rw [nI_p8, nI_c (by omega), h5]
  refine ⟨vp_in_t (by omega) (by decide), S_bits (by omega) σ τ ⟨vp_in_t h6 (by decide), ?_⟩⟩
  rw [nI_c (by omega), h1, h3, nI_rem2 (by omega), nI_div2 (by omega), nI_div5 (by omega), nI_toInt (by omega)]
  unfold satH sby at h
  refine ⟨fun c => ?_, fun c => ?_, fun c => ?_, fun c => ?_⟩
  · have k3 : pk p t = 3 := by omega
    rw [if_pos k3] at h
    rw [show (1 : Int32) = nI 1 from rfl, nI_eq (by omega) (by omega)]
    refine ⟨fun c2 => ?_, fun c2 => ?_⟩
    · rw [if_neg c2] at h; exact h
    · rw [if_pos c2] at h; exact h
  · rw [show (0 : Int32) = nI 0 from rfl, nI_eq (by omega) (by omega)] at c
    rw [if_neg (by omega), if_neg (by omega), if_neg (by omega)] at h
    exact h
  · rw [show (1 : Int32) = nI 1 from rfl, nI_eq (by omega) (by omega)] at c
    rw [if_neg (by omega), if_pos c] at h
    exact h
  · rw [show (2 : Int32) = nI 2 from rfl, nI_eq (by omega) (by omega)] at c
    rw [if_neg (by omega), if_neg (by omega), if_pos c] at h
    have e1 := pk_sub_toInt (a := pH p) (b := pcn (spS A t) / 5) (by omega) (by omega)
    have c0 : (0 : Int32).toInt = 0 := rfl
    refine ⟨fun c2 => ?_, fun c2 => ?_⟩
    · rw [fa_le, e1, c0] at c2
      rw [show pH p - pcn (spS A t) / 5 = 0 by omega] at h; exact h
    · rw [fa_le, e1, c0] at c2
      rw [pk_sub (by omega)]; exact h
theorem satH_le (hp : pH p ≤ 20) (t hh : Nat) : satH p A t hh ≤ 20 := by
  have := sby_le p A t
  unfold satH
  split
  · split <;> omega
  · omega
theorem M_softBehind (R : RM σ p A) {t n : Nat} (ht : t < pm p) (hn : n ≤ 500) (h : Q (nI (softA p A t (hrS A) n)) σ τ) : SI l D b M_X12_softBehind 2 G0 [.ref (b + 125), .int (nI t), .int (nI n)] σ τ Q := by
  obtain ⟨h5, h7⟩ := RM_hd R ht
  obtain ⟨h8, h9⟩ := RM_hr R
  have h6 := RM_t R ht
  refine s_X12_softBehind _ _ σ τ ?_
  rw [nI_p2, nI_c (by omega), h5]
  refine ⟨vp_in_t (by omega) (by decide), fun v e => ?_⟩
  rw [e]
  have e0 : hdS A t = softA p A t (hrS A) 0 := (softA_0 p A t (hrS A)).symm
  rw [e0]
  refine lp_up (P := fun k => AI l D b M_X12_softBehind 2 G0 Q 12 [(0, .ref (b + 125)), (1, .int (nI t)), (2, .int (nI n)), (3, .int (nI (softA p A t (hrS A) k))), (4, .int (nI k))] [] G0 σ τ) (n := n) ?_ ?_ 0 (Nat.zero_le _)
  · intro k hk ih
    have hl : softA p A t (hrS A) k ≤ hdS A t := softA_le
    have hs := satH_le (A := A) R.1.1 t (hrS A + k)
    refine w_X12_softBehind_12 _ _ _ _ σ τ ⟨fun c => ?_, fun c => ?_⟩
    · rw [nI_leI (by omega) (by omega)] at c; omega
    · rw [h8, nI_add, nI_1]
      refine M_softens R ht (by omega) (M_less (by omega) (by omega) ?_)
      rw [← softA_s]; exact ih
  · exact w_X12_softBehind_12 _ _ _ _ σ τ ⟨fun _ => h, fun c => absurd (nI_le (Nat.le_refl _) (by omega)) c⟩
/-- the first hour at which nothing is left -/
theorem tg_first {t : Nat} (hd : hdS A t ≤ 200) (hh : Nat) : match tgN p A t hh with
    | none => ∀ k, softA p A t hh k ≠ 0
    | some K => softA p A t hh K = 0 ∧ ∀ k, k < K → softA p A t hh k ≠ 0 := by
  unfold tgN
  by_cases h0 : hdS A t = 0
  · rw [if_pos h0]
    refine ⟨?_, fun k hk => by omega⟩
    rw [softA_0]; exact h0
  · rw [if_neg h0]
    by_cases hs : sby p A t = 0
    · rw [if_pos hs]
      intro k
      unfold softA
      rw [hs, Nat.mul_zero]; omega
    · rw [if_neg hs]
      have hs0 : 0 < sby p A t := by omega
      -- counted hours that are enough
      have en : ∀ c, hdS A t ≤ c * sby p A t ↔ (hdS A t + sby p A t - 1) / sby p A t ≤ c := by
        intro c
        constructor
        · intro q
          apply Nat.le_of_lt_succ
          apply (Nat.div_lt_iff_lt_mul hs0).mpr
          rw [Nat.succ_mul]; omega
        · intro q
          have q2 := (Nat.div_lt_iff_lt_mul hs0).mp (Nat.lt_succ_of_le q)
          rw [Nat.succ_mul] at q2; omega
      have z : ∀ k, softA p A t hh k = 0 ↔ (hdS A t + sby p A t - 1) / sby p A t ≤ cntH (pk p t) hh k := by
        intro k
        rw [← en]
        unfold softA
        exact Nat.sub_eq_zero_iff_le
      have hn := need_le (a := hdS A t) (s := sby p A t) (by omega) hs0 hd
      by_cases hk : pk p t = 3
      · rw [if_pos hk]
        refine ⟨(z _).mpr ?_, fun k hk2 q => ?_⟩
        · unfold cntH; rw [if_pos hk]; omega
        · have := (z k).mp q
          unfold cntH at this; rw [if_pos hk] at this; omega
      · rw [if_neg hk]
        refine ⟨(z _).mpr ?_, fun k hk2 q => ?_⟩
        · unfold cntH; rw [if_neg hk]; omega
        · have := (z k).mp q
          unfold cntH at this; rw [if_neg hk] at this; omega
theorem M_softIn (R : RM σ p A) {t fr : Nat} (ht : t < pm p) (hf : fr < 2 ^ 20) (h : Q (oI (tgN p A t (hrS A + fr))) σ τ) : SI l D b M_X12_softIn 2 G0 [.ref (b + 125), .int (nI t), .int (nI fr)] σ τ Q := by
  obtain ⟨h5, h7⟩ := RM_hd R ht
  obtain ⟨h8, h9⟩ := RM_hr R
  have h6 := RM_t R ht
  refine s_X12_softIn _ _ σ τ ?_
  rw [nI_p2, nI_c (by omega), h5]
  refine ⟨vp_in_t (by omega) (by decide), fun v e => ?_⟩
  rw [e]
  have e0 : hdS A t = softA p A t (hrS A + fr) 0 := (softA_0 p A t _).symm
  rw [e0]
  have tf := tg_first (p := p) (A := A) (t := t) h7 (hrS A + fr)
  have step : ∀ k, k ≤ 500 → softA p A t (hrS A + fr) k ≠ 0 → AI l D b M_X12_softIn 2 G0 Q 12 [(0, .ref (b + 125)), (1, .int (nI t)), (2, .int (nI fr)), (3, .int (nI (softA p A t (hrS A + fr) (k + 1)))), (4, .int (nI (k + 1)))] [] G0 σ τ → AI l D b M_X12_softIn 2 G0 Q 12 [(0, .ref (b + 125)), (1, .int (nI t)), (2, .int (nI fr)), (3, .int (nI (softA p A t (hrS A + fr) k))), (4, .int (nI k))] [] G0 σ τ := by
    intro k hk hne ih
    have hl : softA p A t (hrS A + fr) k ≤ hdS A t := softA_le
    have hs := satH_le (A := A) R.1.1 t (hrS A + fr + k)
    refine w_X12_softIn_12 _ _ _ _ σ τ ⟨fun c => ?_, fun c => ⟨fun _ => ?_, fun c2 => ?_⟩⟩
    · rw [show (500 : Int32) = nI 500 from rfl, nI_ltI (by omega) (by omega)] at c; omega
    · rw [h8, nI_add, nI_add, nI_1]
      refine M_softens R ht (by omega) (M_less (by omega) (by omega) ?_)
      rw [← softA_s]; exact ih
    · rw [show (0 : Int32) = nI 0 from rfl, nI_eq (by omega) (by omega)] at c2
      exact absurd c2 hne
  cases hT : tgN p A t (hrS A + fr) with
  | none =>
    rw [hT] at tf h
    refine lp_up (P := fun k => AI l D b M_X12_softIn 2 G0 Q 12 [(0, .ref (b + 125)), (1, .int (nI t)), (2, .int (nI fr)), (3, .int (nI (softA p A t (hrS A + fr) k))), (4, .int (nI k))] [] G0 σ τ) (n := 501) ?_ ?_ 0 (Nat.zero_le _)
    · intro k hk ih
      exact step k (by omega) (tf k) ih
    · refine w_X12_softIn_12 _ _ _ _ σ τ ⟨fun _ => h, fun c => absurd ?_ c⟩
      rw [show (500 : Int32) = nI 500 from rfl, nI_ltI (by omega) (by omega)]; omega
  | some K =>
    rw [hT] at tf h
    have hK := tgN_le h7 hT
    refine lp_up (P := fun k => AI l D b M_X12_softIn 2 G0 Q 12 [(0, .ref (b + 125)), (1, .int (nI t)), (2, .int (nI fr)), (3, .int (nI (softA p A t (hrS A + fr) k))), (4, .int (nI k))] [] G0 σ τ) (n := K) ?_ ?_ 0 (Nat.zero_le _)
    · intro k hk ih
      exact step k (by omega) (tf.2 k hk) ih
    · refine w_X12_softIn_12 _ _ _ _ σ τ ⟨fun c => ?_, fun c => ⟨fun c2 => ?_, fun _ => h⟩⟩
      · rw [show (500 : Int32) = nI 500 from rfl, nI_ltI (by omega) (by omega)] at c; omega
      · rw [tf.1] at c2; exact absurd rfl c2
theorem st2_id {α : Type} (f : Nat → Nat → α) (c j : Nat) : st2 f c j (f c j) = f := by
  funext q i
  by_cases h : q = c
  · subst h
    rw [st2_row]
    by_cases h2 : i = j
    · subst h2; simp [va_up]
    · simp [va_up, h2]
  · rw [st2_cell _ _ h]
theorem RM_putHd (R : RM σ p A) {t v : Nat} (ht : t < 6) (hv : v ≤ 200) : RM (st2 σ 133 (2 + t) (nI v)) p (sHd A (va_up (hdS A) t v)) := by
  obtain ⟨h1, ⟨a1, a2, a3, a4, a5, a6⟩, hMP, ⟨d1, d2, d3, d4, d5, d6⟩⟩ := R
  have hm6 := h1.2.2.1
  refine ⟨h1, ⟨a1, a2, fun q hq => ⟨(a3 q hq).1, ?_, (a3 q hq).2.2⟩, a4, a5, a6⟩, hMP, ⟨?_, ?_, fun q hq => ?_, fun q hq => ?_, fun q hq => ?_, fun q hq => ?_⟩⟩
  · show va_up (hdS A) t v q ≤ 200
    unfold va_up; split
    · exact hv
    · exact (a3 q hq).2.1
  · exact (st2_slot _ _ (by omega)).trans d1
  · exact (st2_slot _ _ (by omega)).trans d2
  · exact (st2_slot _ _ (by omega)).trans (d3 q hq)
  · show st2 σ 133 (2 + t) (nI v) 133 (0 + 2 + q) = nI (va_up (hdS A) t v q)
    by_cases e : q = t
    · subst e
      rw [show 0 + 2 + q = 2 + q by omega, st2_same]; simp [va_up]
    · rw [st2_slot _ _ (by omega), d4 q hq]; simp [va_up, e]
  · exact (st2_slot _ _ (by omega)).trans (d5 q hq)
  · exact (st2_slot _ _ (by omega)).trans (d6 q hq)
theorem RM_putHr (R : RM σ p A) {v : Nat} (hv : v ≤ 9060) : RM (st2 σ 133 0 (nI v)) p (sHr A v) := by
  obtain ⟨h1, ⟨a1, a2, a3, a4, a5, a6⟩, hMP, ⟨d1, d2, d3, d4, d5, d6⟩⟩ := R
  exact ⟨h1, ⟨hv, a2, a3, a4, a5, a6⟩, hMP, ⟨st2_same _ _ _ _, (st2_slot _ _ (by decide)).trans d2, fun q hq => (st2_slot _ _ (by omega)).trans (d3 q hq), fun q hq => (st2_slot _ _ (by omega)).trans (d4 q hq), fun q hq => (st2_slot _ _ (by omega)).trans (d5 q hq), fun q hq => (st2_slot _ _ (by omega)).trans (d6 q hq)⟩⟩
theorem M_passes (R : RM σ p A) (hh : hrS A ≤ 9059) (h : ∀ σ', RM σ' p (boilA p A) → (∀ c, c ≠ 133 → σ' c = σ c) → G σ' τ) : SV l D b M_X12_passes 2 G0 [.ref (b + 125)] σ τ G := by
  refine s_X12_passes σ τ ?_
  have key := lp_up (P := fun k => ∀ σ', RM σ' p (boilT p A k) → (∀ c, c ≠ 133 → σ' c = σ c) → AV l D b M_X12_passes 2 G0 G 2 [(0, .ref (b + 125)), (1, .int (nI k))] [] G0 σ' τ) (n := pm p) ?_ ?_ 0 (Nat.zero_le _)
  · refine key σ ?_ (fun _ _ => rfl)
    have e : boilT p A 0 = A := by unfold boilT sHd; simp; rfl
    rw [e]; exact R
  · intro k hk ih σ' R' hf
    obtain ⟨hm, hm6⟩ := RM_m R'
    obtain ⟨h1, h2⟩ := RM_st R' hk
    have h1 : σ' 133 (14 + k) = nI (stS A k) := h1
    have h2 : stS A k ≤ 3 := h2
    have h6 := RM_t R' hk
    obtain ⟨h5, h7⟩ := RM_hd R' hk
    obtain ⟨h8, h9⟩ := RM_hr R'
    refine w_X12_passes_2 _ σ' τ ⟨fun c => ?_, fun c => ?_⟩
    · rw [hm, nI_leI (by omega) (by omega)] at c; omega
    · rw [nI_p14, nI_p2, nI_c (by omega), nI_c (by omega), h1, nI_1]
      refine ⟨vp_in_t (by omega) (by decide), fun c2 => ?_, fun c2 => ?_⟩
      · rw [show (2 : Int32) = nI 2 from rfl, nI_eq (by omega) (by omega)] at c2
        rw [st2_id]
        exact ⟨vp_in_t (by omega) (by decide), vp_in_t (by omega) (by decide), ih σ' (by rw [boilT_n c2]; exact R') hf⟩
      · rw [show (2 : Int32) = nI 2 from rfl, nI_eq (by omega) (by omega)] at c2
        rw [h8, h5]
        have hs := satH_le (A := boilT p A k) R'.1.1 k (hrS (boilT p A k))
        refine ⟨vp_in_t (by omega) (by decide), M_softens R' hk (by omega) (M_less (by omega) (by omega) ⟨vp_in_t (by omega) (by decide), ?_⟩)⟩
        have e : hdS (boilT p A k) k - satH p (boilT p A k) k (hrS (boilT p A k)) = softA p A k (hrS A) 1 := by
          have e1 : hdS (boilT p A k) k = hdS A k := by
            show (if k < k ∧ stS A k = 2 then _ else hdS A k) = hdS A k
            rw [if_neg (by omega)]
          rw [softA_s, softA_0, e1]
          rfl
        rw [e]
        refine ih _ ?_ (fun c hc => (st2_cell _ _ hc).trans (hf c hc))
        rw [boilT_s c2]
        exact RM_putHd R' h6 (Nat.le_trans softA_le (R.2.1.2.2.1 k hk).2.1)
  · intro σ' R' hf
    obtain ⟨hm, hm6⟩ := RM_m R'
    obtain ⟨h8, h9⟩ := RM_hr R'
    refine w_X12_passes_2 _ σ' τ ⟨fun _ => ?_, fun c => absurd ?_ c⟩
    · rw [h8, nI_1]
      refine h _ (RM_putHr R' (by show hrS A + 1 ≤ 9060; omega)) (fun c c1 => (st2_cell _ _ c1).trans (hf c c1))
    · rw [hm]; exact nI_le (Nat.le_refl _) (by omega)
end MSOFT
