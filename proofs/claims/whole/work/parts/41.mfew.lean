/-! SHEETS, the reference: all sets are tried. -/
section MFEW
variable {l : Launch} {D : zDD} {b : Nat} {γ : zGm} {σ : zSg} {τ : zLm} {Q : Int32 → zSg → zLm → Prop} {G : zSg → zLm → Prop}
theorem M_has {n i : Nat} (hn : n < 2 ^ 31) (hi : i < 31) (h : Q (bI (n.testBit i)) σ τ) : SI l D b M_X12_has 0 γ [.int (nI n), .int (nI i)] σ τ Q := by
  refine s_X12_has _ _ σ τ ?_
  rw [nI_has2 hn hi]
  refine ⟨fun c => ?_, fun c => ?_⟩
  · rw [Bool.eq_false_iff.mpr c] at h; exact h
  · rw [c] at h; exact h
theorem M_sheet {k : Nat} (hk : k < 16) (h : Q (nI (shN k)) σ τ) : SI l D b M_X12_sheet 0 γ [.int (nI k)] σ τ Q := by
  refine s_X12_sheet _ σ τ (fun v e => ?_)
  rw [show (4 : Int32) = nI 4 from rfl, pk_div (d := 4) (by omega) (by decide) (by decide), show nI k - nI (k / 4) * nI 4 = nI (k % 4) by rw [pk_mul, pk_sub (by omega)]; congr 1; omega, show (5 : Int32) = nI 5 from rfl, pk_mul, nI_add] at e
  have e : v = nI (celN k) := e
  have hc : celN k ≤ 18 := by unfold celN; omega
  rw [e, show (5 : Int32) = nI 5 from rfl, nI_add, shN_I hc]
  exact h
def fwI (sp s F K : Nat) : Prop := (F = 17 ∧ K = 16 ∨ ∃ S, 1 ≤ S ∧ S < s ∧ Cvr sp S ∧ pcn S = F ∧ lowN S = K) ∧ ∀ T, 1 ≤ T → T < s → Cvr sp T → F < pcn T ∨ (F = pcn T ∧ K ≤ lowN T)
theorem fwI_bd {sp s F K : Nat} (hs : s ≤ 65536) (h : fwI sp s F K) : F ≤ 32 ∧ K ≤ 16 := by
  rcases h.1 with ⟨h1, h2⟩ | ⟨S, h1, h2, h3, h4, h5⟩
  · omega
  · have := pcn_le S
    have := (lowN_at (show S ≠ 0 by omega) (by omega)).1
    omega
theorem covT_low {S : Nat} : ∀ k, (∀ i, i < k → S.testBit i = false) → covT S k = 0
  | 0, _ => rfl
  | k + 1, h => by
    unfold covT
    rw [covT_low k (fun i hi => h i (by omega)), h k (by omega)]; simp
theorem covT_lt (S : Nat) : ∀ k, k ≤ 16 → covT S k < 2 ^ 25
  | 0, _ => by show 0 < 2 ^ 25; decide
  | k + 1, h => by
    unfold covT
    refine Nat.or_lt_two_pow (covT_lt S k (by omega)) ?_
    split
    · exact shN_lt ⟨k, by omega⟩
    · decide
theorem or0n (x : Int32) : x ||| 0 = x := by simp
theorem fwI_end {sp F K : Nat} (hsp : sp < 2 ^ 25) (h0 : sp ≠ 0) (h : fwI sp 65536 F K) : F = fewN sp ∧ isLow sp K := by
  obtain ⟨T, t1, t2, t3⟩ := fewN_at hsp
  have tn := opt_ne hsp h0 ⟨t1, t2, t3⟩
  have hl := fewN_le hsp
  have q := h.2 T (by omega) t1 t2
  rcases h.1 with ⟨h1, h2⟩ | ⟨S, h1, h2, h3, h4, h5⟩
  · omega
  · have hlo := fewN_low hsp h2 h3
    have eF : F = fewN sp := by omega
    refine ⟨eF, ⟨S, ⟨h2, h3, by omega⟩, h5⟩, fun T' hT' => ?_⟩
    have tn' := opt_ne hsp h0 hT'
    have q' := h.2 T' (by omega) hT'.1 hT'.2.1
    have := hT'.2.2
    omega
theorem M_few {sp : Nat} {x2 : Int32} (hsp : sp < 2 ^ 25) (h0 : sp ≠ 0) (h : ∀ σ' K, isLow sp K → (∀ q, q ≠ 135 → σ' q = σ q) → (x2 = 0 → Q (nI (fewN sp)) σ' τ) ∧ (¬ x2 = 0 → Q (nI (celN K)) σ' τ)) : SI l D b M_X12_fewestSheets 1 G0 [.ref (b + 125), .int (nI sp), .int x2] σ τ Q := by
  refine s_X12_fewestSheets _ _ σ τ ?_
  have main : ∀ σ', (∀ k, k < 16 → σ' 135 k = nI (shN k)) → (∀ q, q ≠ 135 → σ' q = σ q) → AI l D b M_X12_fewestSheets 1 G0 Q 34 [(0, .ref (b + 125)), (1, .int (nI sp)), (2, .int x2), (3, .int (nI 17)), (4, .int (nI 16)), (5, .int (nI 1))] [] G0 σ' τ := by
    intro σ' f1 f2
    have key := lp_up (P := fun s => 1 ≤ s → ∀ F K, fwI sp s F K → AI l D b M_X12_fewestSheets 1 G0 Q 34 [(0, .ref (b + 125)), (1, .int (nI sp)), (2, .int x2), (3, .int (nI F)), (4, .int (nI K)), (5, .int (nI s))] [] G0 σ' τ) (n := 65536) ?_ ?_ 1 (by decide)
    · exact key (by decide) 17 16 ⟨Or.inl ⟨rfl, rfl⟩, fun T h1 h2 => by omega⟩
    · intro s hs ih hs1 F K hI
      have bd := fwI_bd (by omega) hI
      obtain ⟨lw1, lw2, lw3⟩ := lowN_at (show s ≠ 0 by omega) hs
      have hpl := pcn_le s
      -- the set is looked at
      have skip : (F < pcn s ∨ (F = pcn s ∧ K ≤ lowN s)) ∨ ¬ Cvr sp s → fwI sp (s + 1) F K := by
        intro q
        refine ⟨?_, fun T h1 h2 h3 => ?_⟩
        · rcases hI.1 with w | ⟨S, a1, a2, a3⟩
          · exact Or.inl w
          · exact Or.inr ⟨S, a1, by omega, a3⟩
        · by_cases e : T = s
          · subst e
            rcases q with q | q
            · exact q
            · exact absurd h3 q
          · exact hI.2 T h1 (by omega) h3
      have look : (pcn s < F ∨ pcn s = F ∧ lowN s < K) → AI l D b M_X12_fewestSheets 1 G0 Q 88 [(0, .ref (b + 125)), (1, .int (nI sp)), (2, .int x2), (3, .int (nI F)), (4, .int (nI K)), (5, .int (nI s)), (6, .int (nI (pcn s))), (7, .int (nI (lowN s))), (8, .int (nI 0)), (9, .int (nI (lowN s)))] [] G0 σ' τ := by
        intro hb
        have c0 : covT s (lowN s) = 0 := covT_low _ lw3
        suffices fin : AI l D b M_X12_fewestSheets 1 G0 Q 88 [(0, .ref (b + 125)), (1, .int (nI sp)), (2, .int x2), (3, .int (nI F)), (4, .int (nI K)), (5, .int (nI s)), (6, .int (nI (pcn s))), (7, .int (nI (lowN s))), (8, .int (nI (covT s (lowN s)))), (9, .int (nI (lowN s)))] [] G0 σ' τ by
          rw [c0] at fin; exact fin
        refine lp_up (P := fun k => lowN s ≤ k → AI l D b M_X12_fewestSheets 1 G0 Q 88 [(0, .ref (b + 125)), (1, .int (nI sp)), (2, .int x2), (3, .int (nI F)), (4, .int (nI K)), (5, .int (nI s)), (6, .int (nI (pcn s))), (7, .int (nI (lowN s))), (8, .int (nI (covT s k))), (9, .int (nI k))] [] G0 σ' τ) (n := 16) ?_ ?_ (lowN s) (by omega) (Nat.le_refl _)
        · intro k hk ih2 hlk
          refine w_X12_fewestSheets_88 _ _ _ _ _ _ _ _ _ σ' τ ⟨fun c => ?_, fun c => M_has (by omega) (by omega) ⟨fun c2 => ?_, fun c2 => ⟨vp_in_t hk (by decide), fun v e => ?_⟩⟩⟩
          · rw [show (16 : Int32) = nI 16 from rfl, nI_leI (by omega) (by omega)] at c; omega
          · rw [bI_0] at c2
            have e : covT s (k + 1) = covT s k := by
              show covT s k ||| (if s.testBit k then shN k else 0) = covT s k
              rw [c2]; simp
            rw [or0n, nI_1]
            have := ih2 (by omega)
            rw [e] at this; exact this
          · rw [bI_n0] at c2
            have e3 : covT s (k + 1) = covT s k ||| shN k := by
              show covT s k ||| (if s.testBit k then shN k else 0) = _
              rw [c2]; rfl
            rw [nI_c (by omega), f1 k hk, fa_or, ← e3] at e
            rw [e, nI_1]
            exact ih2 (by omega)
        · intro _
          have hz : nI sp &&& (nI (covT s 16) ^^^ (-1)) = 0 ↔ Cvr sp s := sub_zero_iff (by omega)
          refine w_X12_fewestSheets_88 _ _ _ _ _ _ _ _ _ σ' τ ⟨fun _ => ⟨fun c => ?_, fun c => ?_⟩, fun c => absurd (by decide) c⟩
          · rw [hz] at c
            refine w_X12_fewestSheets_141 _ _ _ _ _ _ _ _ σ' τ ⟨fun _ => w_X12_fewestSheets_155 _ _ _ _ _ _ _ σ' τ ⟨fun _ => ?_, fun q => absurd rfl q⟩, fun q => absurd rfl q⟩
            rw [nI_1]
            exact ih (by omega) F K (skip (Or.inr c))
          · rw [hz] at c
            refine w_X12_fewestSheets_141 _ _ _ _ _ _ _ _ σ' τ ⟨fun q => absurd q (by decide), fun _ => w_X12_fewestSheets_155 _ _ _ _ _ _ _ σ' τ ⟨fun q => absurd q (by decide), fun _ => ?_⟩⟩
            rw [nI_1]
            refine ih (by omega) (pcn s) (lowN s) ⟨Or.inr ⟨s, hs1, by omega, c, rfl, rfl⟩, fun T h1 h2 h3 => ?_⟩
            by_cases e : T = s
            · subst e; exact Or.inr ⟨rfl, Nat.le_refl _⟩
            · have := hI.2 T h1 (by omega) h3
              omega
      have hlp : 2 ^ lowN s ≤ 2 ^ 15 := Nat.pow_le_pow_right (by decide) (by omega)
      have hlq := Nat.two_pow_pos (lowN s)
      refine w_X12_fewestSheets_34 _ _ _ _ _ σ' τ ⟨fun c => ?_, fun c => S_bits (by omega) σ' τ ?_⟩
      · rw [show (65536 : Int32) = nI 65536 from rfl, nI_leI (by omega) (by omega)] at c; omega
      · rw [low_mask (by omega) hs, show (1 : Int32) = nI 1 from rfl, pk_sub hlq]
        refine S_bits (by omega) σ' τ ?_
        rw [pcn_ones (by omega), nI_add, nI_ltI (by omega) (by omega), nI_eq (by omega) (by omega), nI_leI (by omega) (by omega)]
        refine ⟨fun c2 => look (Or.inl c2), fun c2 => ⟨fun c3 => ?_, fun c3 => ⟨fun c4 => ?_, fun c4 => look (Or.inr ⟨c3, by omega⟩)⟩⟩⟩
        · exact ih (by omega) F K (skip (Or.inl (by omega)))
        · exact ih (by omega) F K (skip (Or.inl (by omega)))
    · intro _ F K hI
      obtain ⟨e1, e2⟩ := fwI_end hsp h0 hI
      have bd := fwI_bd (by omega) hI
      refine w_X12_fewestSheets_34 _ _ _ _ _ σ' τ ⟨fun _ => ?_, fun c => absurd (by decide) c⟩
      rw [e1]
      have hh := h σ' K e2 f2
      refine ⟨hh.1, fun c => ?_⟩
      rw [show (4 : Int32) = nI 4 from rfl, pk_div (d := 4) (by omega) (by decide) (by decide), show nI K - nI (K / 4) * nI 4 = nI (K % 4) by rw [pk_mul, pk_sub (by omega)]; congr 1; omega, show (5 : Int32) = nI 5 from rfl, pk_mul, nI_add]
      exact hh.2 c
  refine lp_up (P := fun k => ∀ σ', (∀ i, i < k → σ' 135 i = nI (shN i)) → (∀ q, q ≠ 135 → σ' q = σ q) → AI l D b M_X12_fewestSheets 1 G0 Q 2 [(0, .ref (b + 125)), (1, .int (nI sp)), (2, .int x2), (3, .int (nI k))] [] G0 σ' τ) (n := 16) ?_ ?_ 0 (Nat.zero_le _) σ (fun i hi => by omega) (fun _ _ => rfl)
  · intro k hk ih σ' f1 f2
    refine w_X12_fewestSheets_2 _ _ _ σ' τ ⟨fun c => ?_, fun c => M_sheet hk ⟨vp_in_t hk (by decide), ?_⟩⟩
    · rw [show (16 : Int32) = nI 16 from rfl, nI_leI (by omega) (by omega)] at c; omega
    · rw [nI_1, nI_c (by omega)]
      refine ih _ (fun i hi => ?_) (fun q hq => (st2_cell _ _ hq).trans (f2 q hq))
      by_cases ei : i = k
      · subst ei; exact st2_same _ _ _ _
      · rw [st2_slot _ _ ei]; exact f1 i (by omega)
  · intro σ' f1 f2
    exact w_X12_fewestSheets_2 _ _ _ σ' τ ⟨fun _ => main σ' f1 f2, fun c => absurd (nI_le (Nat.le_refl _) (by decide)) c⟩
end MFEW
