/-! WHAT CAN BE UNDONE, scenes copied. -/
theorem isSc_apart {c1 c2 : Nat} (h1 : isSc c1) (h2 : isSc c2) (hne : c1 ≠ c2) : c1 + 4 < c2 ∨ c2 + 4 < c1 := by
  rcases h1 with rfl | ⟨a1, a2, a3⟩ <;> rcases h2 with rfl | ⟨b1, b2, b3⟩ <;> omega
theorem cpy6 {f g : Nat → Int32} {k : Nat} (h : k < 6) : va_cpy f g 0 0 6 k = f k := by
  rw [pk_cpy_in (by omega) (by omega)]
  congr 1; omega
theorem CS.cong {σ σ' : zSg} {c c' : Nat} {p : Pl} {A : Sc} (h0 : σ' c' 0 = σ c 0) (h1 : σ' c' 1 = σ c 1) (hr : ∀ k, k < 4 → ∀ t, t < 6 → σ' (c' + 1 + k) t = σ (c + 1 + k) t) (hp : okP p) (h : CS σ c p A) : CS σ' c' p A := by
  obtain ⟨d1, d2, d3, d4, d5, d6⟩ := h
  have m6 := hp.2.2.1
  have n6 := hp.2.2.2.1
  exact ⟨h0.trans d1, h1.trans d2, fun t ht => (hr 0 (by omega) t (by omega)).trans (d3 t ht), fun t ht => (hr 1 (by omega) t (by omega)).trans (d4 t ht), fun t ht => (hr 2 (by omega) t (by omega)).trans (d5 t ht), fun t ht => (hr 3 (by omega) t (by omega)).trans (d6 t ht)⟩
theorem CS.same {σ σ' : zSg} {c : Nat} {p : Pl} {A : Sc} (hr : ∀ q, c ≤ q → q ≤ c + 4 → σ' q = σ q) (h : CS σ c p A) : CS σ' c p A := by
  obtain ⟨d1, d2, d3, d4, d5, d6⟩ := h
  refine ⟨?_, ?_, fun t ht => ?_, fun t ht => ?_, fun t ht => ?_, fun t ht => ?_⟩
  · rw [hr c (by omega) (by omega)]; exact d1
  · rw [hr c (by omega) (by omega)]; exact d2
  · rw [hr (c + 1) (by omega) (by omega)]; exact d3 t ht
  · rw [hr (c + 2) (by omega) (by omega)]; exact d4 t ht
  · rw [hr (c + 3) (by omega) (by omega)]; exact d5 t ht
  · rw [hr (c + 4) (by omega) (by omega)]; exact d6 t ht
theorem RC.cong {σ σ' : zSg} {p : Pl} {A : Sc} (R : RC σ p A) (h : ∀ c, 9 ≤ c → c ≤ 18 → σ' c = σ c) : RC σ' p A := by
  obtain ⟨h1, h2, ⟨c1, c2, c3, c4, c5, c6⟩, h4⟩ := R
  refine ⟨h1, h2, ⟨?_, ?_, ?_, ?_, fun t ht => ?_, fun e he => ?_⟩, h4.same (fun q h1 h2 => h q (by omega) (by omega))⟩
  · rw [h 9 (by decide) (by decide)]; exact c1
  · rw [h 9 (by decide) (by decide)]; exact c2
  · rw [h 9 (by decide) (by decide)]; exact c3
  · rw [h 9 (by decide) (by decide)]; exact c4
  · rw [h 10 (by decide) (by decide)]; exact c5 t ht
  · rw [h 13 (by decide) (by decide)]; exact c6 e he
theorem MS.copy {σ σ' : zSg} {a o a' o' : Nat} {p : Pl} {A : Sc} (hr : ∀ i, i < 26 → σ' a' (o' + i) = σ a (o + i)) (hp : okP p) (h : MS σ a o p A) : MS σ' a' o' p A := by
  obtain ⟨d1, d2, d3, d4, d5, d6⟩ := h
  have m6 := hp.2.2.1
  refine ⟨?_, ?_, fun t ht => ?_, fun t ht => ?_, fun t ht => ?_, fun t ht => ?_⟩
  · exact (hr 0 (by decide)).trans d1
  · exact (hr 1 (by decide)).trans d2
  · rw [Nat.add_assoc, hr (14 + t) (by omega), ← Nat.add_assoc]; exact d3 t ht
  · rw [Nat.add_assoc, hr (2 + t) (by omega), ← Nat.add_assoc]; exact d4 t ht
  · rw [Nat.add_assoc, hr (8 + t) (by omega), ← Nat.add_assoc]; exact d5 t ht
  · rw [Nat.add_assoc, hr (20 + t) (by omega), ← Nat.add_assoc]; exact d6 t ht
theorem MP.cong {σ σ' : zSg} {p : Pl} (h : MP σ p) (h1 : ∀ j, 14 ≤ j → j ≤ 17 → σ' 125 j = σ 125 j) (h2 : σ' 131 = σ 131) (h3 : σ' 132 = σ 132) : MP σ' p := by
  obtain ⟨c1, c2, c3, c4, c5, c6⟩ := h
  refine ⟨?_, ?_, ?_, ?_, fun t ht => ?_, fun e he => ?_⟩
  · rw [h1 14 (by decide) (by decide)]; exact c1
  · rw [h1 15 (by decide) (by decide)]; exact c2
  · rw [h1 16 (by decide) (by decide)]; exact c3
  · rw [h1 17 (by decide) (by decide)]; exact c4
  · rw [h2]; exact c5 t ht
  · rw [h3]; exact c6 e he
theorem RM.cong {σ σ' : zSg} {p : Pl} {A : Sc} (R : RM σ p A) (h1 : ∀ j, 14 ≤ j → j ≤ 17 → σ' 125 j = σ 125 j) (h2 : σ' 131 = σ 131) (h3 : σ' 132 = σ 132) (h4 : σ' 133 = σ 133) : RM σ' p A :=
  ⟨R.1, R.2.1, R.2.2.1.cong h1 h2 h3, R.2.2.2.copy (fun i _ => by rw [h4]) R.1⟩
abbrev Un : Type := Nat × (Nat → Sc)
def pushU (U : Un) (A : Sc) : Un := if U.1 < 16 then (U.1 + 1, va_up U.2 U.1 A) else (16, fun j => if j = 15 then A else U.2 (j + 1))
def okU (p : Pl) (U : Un) : Prop := U.1 ≤ 16 ∧ ∀ j, j < U.1 → okA p (U.2 j)
def CU (σ : zSg) (p : Pl) (U : Un) : Prop := okU p U ∧ ∃ o : Nat, o < 16 ∧ σ 23 4 = nI o ∧ σ 23 5 = nI U.1 ∧ ∀ j, j < U.1 → CS σ (28 + 5 * ((o + j) % 16)) p (U.2 j)
def MU (σ : zSg) (p : Pl) (U : Un) : Prop := okU p U ∧ ∃ a : Nat, a < 16 ∧ σ 125 22 = nI a ∧ σ 125 21 = nI U.1 ∧ ∀ j, j < U.1 → MS σ 134 (26 * ((a + 16 - U.1 + j) % 16)) p (U.2 j)
theorem okU_push {p : Pl} {U : Un} {A : Sc} (h : okU p U) (hA : okA p A) : okU p (pushU U A) := by
  unfold pushU
  split
  · rename_i hlt
    refine ⟨hlt, fun j hj => ?_⟩
    show okA p (va_up U.2 U.1 A j)
    unfold va_up
    split
    · exact hA
    · have hj : j < U.1 + 1 := hj
      exact h.2 j (by omega)
  · rename_i hge
    have h1 := h.1
    refine ⟨Nat.le_refl _, fun j hj => ?_⟩
    have hj : j < 16 := hj
    show okA p (if j = 15 then A else U.2 (j + 1))
    split
    · exact hA
    · exact h.2 _ (by omega)
theorem CU.cong {σ σ' : zSg} {p : Pl} {U : Un} (h : CU σ p U) (h1 : σ' 23 = σ 23) (h2 : ∀ c, 28 ≤ c → c < 108 → σ' c = σ c) : CU σ' p U := by
  obtain ⟨hk, o, ho, e1, e2, e3⟩ := h
  refine ⟨hk, o, ho, by rw [h1]; exact e1, by rw [h1]; exact e2, fun j hj => (e3 j hj).same (fun q q1 q2 => h2 q (by omega) (by omega))⟩
theorem MU.cong {σ σ' : zSg} {p : Pl} {U : Un} (h : MU σ p U) (hp : okP p) (h1 : ∀ j, 21 ≤ j → j ≤ 22 → σ' 125 j = σ 125 j) (h2 : σ' 134 = σ 134) : MU σ' p U := by
  obtain ⟨hk, o, ho, e1, e2, e3⟩ := h
  refine ⟨hk, o, ho, by rw [h1 22 (by decide) (by decide)]; exact e1, by rw [h1 21 (by decide) (by decide)]; exact e2, fun j hj => (e3 j hj).copy (fun i _ => by rw [h2]) hp⟩
section UNDO
variable {l : Launch} {D : zDD} {b : Nat} {σ : zSg} {τ : zLm} {p : Pl} {A : Sc} {U : Un} {Q : Int32 → zSg → zLm → Prop} {G : zSg → zLm → Prop}
theorem S_become {c1 c2 : Nat} (q1 : isSc c1) (q2 : isSc c2) (hne : c1 ≠ c2) (hp : okP p) (hA : CS σ c2 p A) (h : ∀ σ', CS σ' c1 p A → (∀ c, (c < c1 ∨ c1 + 4 < c) → σ' c = σ c) → G σ' τ) : SV l D b M_X8_become 1 G0 [.ref (b + c1), .ref (b + c2)] σ τ G := by
  have ap := isSc_apart q1 q2 hne
  refine s_X8_become q1 q2 σ τ ?_
  intro σ1 e1 σ2 e2 σ3 e3 σ4 e4
  have o1 : ∀ c, (c < c1 ∨ c1 + 1 < c) → σ1 c = σ c := fun c hc => by
    rw [e1, va_up_ne _ _ (by omega), st2_cell _ _ (by omega), st2_cell _ _ (by omega)]
  have o2 : ∀ c, (c < c1 ∨ c1 + 2 < c) → σ2 c = σ c := fun c hc => by
    rw [e2, va_up_ne _ _ (by omega), o1 c (by omega)]
  have o3 : ∀ c, (c < c1 ∨ c1 + 3 < c) → σ3 c = σ c := fun c hc => by
    rw [e3, va_up_ne _ _ (by omega), o2 c (by omega)]
  have o4 : ∀ c, (c < c1 ∨ c1 + 4 < c) → σ4 c = σ c := fun c hc => by
    rw [e4, va_up_ne _ _ (by omega), o3 c (by omega)]
  refine h σ4 (CS.cong ?_ ?_ ?_ hp hA) o4
  · rw [e4, va_up_ne _ _ (by omega), e3, va_up_ne _ _ (by omega), e2, va_up_ne _ _ (by omega), e1, va_up_ne _ _ (by omega), st2_slot _ _ (by decide), st2_same]
  · rw [e4, va_up_ne _ _ (by omega), e3, va_up_ne _ _ (by omega), e2, va_up_ne _ _ (by omega), e1, va_up_ne _ _ (by omega), st2_same, st2_cell _ _ (by omega)]
  · intro k hk t ht
    rcases (show k = 0 ∨ k = 1 ∨ k = 2 ∨ k = 3 by omega) with rfl | rfl | rfl | rfl
    · rw [e4, va_up_ne _ _ (by omega), e3, va_up_ne _ _ (by omega), e2, va_up_ne _ _ (by omega), e1, Nat.add_zero, va_up_self, cpy6 ht, st2_cell _ _ (by omega), st2_cell _ _ (by omega)]
    · rw [e4, va_up_ne _ _ (by omega), e3, va_up_ne _ _ (by omega), e2, show c1 + 1 + 1 = c1 + 2 by omega, va_up_self, cpy6 ht, o1 _ (by omega)]
    · rw [e4, va_up_ne _ _ (by omega), e3, show c1 + 1 + 2 = c1 + 3 by omega, va_up_self, cpy6 ht, o2 _ (by omega)]
    · rw [e4, show c1 + 1 + 3 = c1 + 4 by omega, va_up_self, cpy6 ht, o3 _ (by omega)]
theorem nI_rem16 {a : Nat} (ha : a < 2 ^ 31) : nI a - nI a / 16 * 16 = nI (a % 16) := pk_rem (d := 16) ha (by decide) (by decide)
theorem S_remember (R : RC σ p A) (HU : CU σ p U) (h : ∀ σ', CU σ' p (pushU U A) → (∀ c, c ≠ 23 → (c < 28 ∨ 108 ≤ c) → σ' c = σ c) → G σ' τ) : SV l D b M_X5_remember 2 G0 [.ref (b + 23), .ref (b + 14)] σ τ G := by
  obtain ⟨hk, o, ho, e1, e2, e3⟩ := id HU
  have hk16 := hk.1
  refine s_X5_remember σ τ ?_
  rw [e1, e2, nI_add, nI_rem16 (by omega), nI_c (by omega)]
  have hx : (o + U.1) % 16 < 16 := Nat.mod_lt _ (by decide)
  refine ⟨vp_in_t hx (by decide), S_become (isSc_un hx) (Or.inl rfl) (by omega) R.1 R.2.2.2 (fun σ2 hs hf => ?_)⟩
  have hf2 : ∀ c, (c < 28 ∨ 108 ≤ c) → σ2 c = σ c := fun c hc => hf c (by omega)
  have f23 : σ2 23 = σ 23 := hf2 23 (by decide)
  rw [f23, e1, e2, nI_1, nI_1, nI_rem16 (by omega), show (16 : Int32) = nI 16 from rfl, nI_leI (by omega) (by omega)]
  have hok := okU_push hk R.2.1
  refine ⟨fun c => ?_, fun c => ?_⟩
  · have h16 : U.1 = 16 := by omega
    refine h _ ⟨hok, (o + 1) % 16, Nat.mod_lt _ (by decide), st2_same _ _ _ _, ?_, ?_⟩ (fun c hc1 hc2 => (st2_cell _ _ hc1).trans (hf2 c hc2))
    · rw [st2_slot _ _ (by decide), f23, e2, h16]
      unfold pushU
      rw [if_neg (by omega)]
    · unfold pushU
      rw [if_neg (by omega)]
      intro j hj
      have hj : j < 16 := hj
      show CS _ (28 + 5 * (((o + 1) % 16 + j) % 16)) p (if j = 15 then A else U.2 (j + 1))
      have em : ((o + 1) % 16 + j) % 16 = (o + (j + 1)) % 16 := by omega
      rw [em]
      refine CS.same (σ := σ2) (fun q q1 q2 => st2_cell _ _ (by omega)) ?_
      split
      · rename_i e15
        subst e15
        rw [show (o + (15 + 1)) % 16 = (o + U.1) % 16 by omega]
        exact hs
      · refine CS.same (fun q q1 q2 => hf q ?_) (e3 (j + 1) (by omega))
        omega
  · have hlt : U.1 < 16 := by omega
    refine h _ ⟨hok, o, ho, (st2_slot _ _ (by decide)).trans (by rw [f23]; exact e1), ?_, ?_⟩ (fun c hc1 hc2 => (st2_cell _ _ hc1).trans (hf2 c hc2))
    · rw [st2_same]
      unfold pushU
      rw [if_pos hlt]
    · unfold pushU
      rw [if_pos hlt]
      intro j hj
      have hj : j < U.1 + 1 := hj
      show CS _ (28 + 5 * ((o + j) % 16)) p (va_up U.2 U.1 A j)
      refine CS.same (σ := σ2) (fun q q1 q2 => st2_cell _ _ (by omega)) ?_
      unfold va_up
      split
      · rename_i ej
        subst ej
        exact hs
      · refine CS.same (fun q q1 q2 => hf q ?_) (e3 j (by omega))
        omega
theorem M_remember (R : RM σ p A) (HU : MU σ p U) (h : ∀ σ', MU σ' p (pushU U A) → (∀ c, c ≠ 125 → c ≠ 134 → σ' c = σ c) → (∀ j, j ≠ 21 → j ≠ 22 → σ' 125 j = σ 125 j) → G σ' τ) : SV l D b M_X12_remember 0 G0 [.ref (b + 125)] σ τ G := by
  obtain ⟨hk, a, ha, e1, e2, e3⟩ := id HU
  have hk16 := hk.1
  refine s_X12_remember σ τ ?_
  have key := lp_up (P := fun k => ∀ σ', (∀ c, c ≠ 134 → σ' c = σ c) → (∀ i, i < k → σ' 134 (26 * a + i) = σ 133 i) → (∀ q, (q < 26 * a ∨ 26 * a + 26 ≤ q) → σ' 134 q = σ 134 q) → AV l D b M_X12_remember 0 G0 G 2 [(0, .ref (b + 125)), (1, .int (nI k))] [] G0 σ' τ) (n := 26) ?_ ?_ 0 (Nat.zero_le _)
  · exact key σ (fun _ _ => rfl) (fun i hi => by omega) (fun _ _ => rfl)
  · intro k hk2 ih σ' f1 f2 f3
    have g1 : σ' 125 22 = nI a := by rw [f1 125 (by decide)]; exact e1
    refine w_X12_remember_2 _ σ' τ ⟨fun c => ?_, fun c => ?_⟩
    · rw [show (26 : Int32) = nI 26 from rfl, nI_leI (by omega) (by omega)] at c; omega
    · rw [g1, show (26 : Int32) = nI 26 from rfl, pk_mul, nI_add, nI_c (by omega), nI_c (by omega), nI_1]
      refine ⟨vp_in_t hk2 (by decide), vp_in_t (by omega) (by decide), ih _ (fun c hc => (st2_cell _ _ hc).trans (f1 c hc)) (fun i hi => ?_) (fun q hq => (st2_slot _ _ (by omega)).trans (f3 q hq))⟩
      by_cases ei : i = k
      · subst ei
        rw [st2_same, f1 133 (by decide)]
      · rw [st2_slot _ _ (by omega)]
        exact f2 i (by omega)
  · intro σ' f1 f2 f3
    have g1 : σ' 125 22 = nI a := by rw [f1 125 (by decide)]; exact e1
    have g2 : σ' 125 21 = nI U.1 := by rw [f1 125 (by decide)]; exact e2
    have hok := okU_push hk R.2.1
    have newrow : ∀ σ'' : zSg, σ'' 134 = σ' 134 → MS σ'' 134 (26 * a) p A := fun σ'' e => R.2.2.2.copy (fun i hi => by rw [e, Nat.zero_add]; exact f2 i hi) R.1
    have oldrow : ∀ σ'' : zSg, σ'' 134 = σ' 134 → ∀ x, x < 16 → x ≠ a → ∀ B : Sc, MS σ 134 (26 * x) p B → MS σ'' 134 (26 * x) p B := fun σ'' e x hx hxa B hB => hB.copy (fun i hi => by rw [e]; exact f3 _ (by omega)) R.1
    have fin : ∀ k' : Nat, k' = (pushU U A).1 → ∀ σ'' : zSg, σ'' = st2 (st2 σ' 125 22 (nI ((a + 1) % 16))) 125 21 (nI k') → G σ'' τ := by
      intro k' hk' σ'' es
      have r134 : σ'' 134 = σ' 134 := by rw [es, st2_cell _ _ (by decide), st2_cell _ _ (by decide)]
      refine h σ'' ⟨hok, (a + 1) % 16, Nat.mod_lt _ (by decide), ?_, ?_, ?_⟩ (fun c c1 c2 => ?_) (fun j j1 j2 => ?_)
      · rw [es, st2_slot _ _ (by decide), st2_same]
      · rw [es, st2_same, hk']
      · unfold pushU
        by_cases hlt : U.1 < 16
        · rw [if_pos hlt]
          intro j hj
          have hj : j < U.1 + 1 := hj
          show MS σ'' 134 (26 * (((a + 1) % 16 + 16 - (U.1 + 1) + j) % 16)) p (va_up U.2 U.1 A j)
          unfold va_up
          split
          · rename_i ej
            subst ej
            rw [show ((a + 1) % 16 + 16 - (U.1 + 1) + U.1) % 16 = a by omega]
            exact newrow σ'' r134
          · rw [show ((a + 1) % 16 + 16 - (U.1 + 1) + j) % 16 = (a + 16 - U.1 + j) % 16 by omega]
            exact oldrow σ'' r134 _ (Nat.mod_lt _ (by decide)) (by omega) _ (e3 j (by omega))
        · rw [if_neg hlt]
          intro j hj
          have hj : j < 16 := hj
          show MS σ'' 134 (26 * (((a + 1) % 16 + 16 - 16 + j) % 16)) p (if j = 15 then A else U.2 (j + 1))
          split
          · rename_i ej
            subst ej
            rw [show ((a + 1) % 16 + 16 - 16 + 15) % 16 = a by omega]
            exact newrow σ'' r134
          · rw [show ((a + 1) % 16 + 16 - 16 + j) % 16 = (a + 16 - U.1 + (j + 1)) % 16 by omega]
            exact oldrow σ'' r134 _ (Nat.mod_lt _ (by decide)) (by omega) _ (e3 (j + 1) (by omega))
      · rw [es, st2_cell _ _ c1, st2_cell _ _ c1]; exact f1 c c2
      · rw [es, st2_slot _ _ j1, st2_slot _ _ j2, f1 125 (by decide)]
    refine w_X12_remember_2 _ σ' τ ⟨fun _ => ?_, fun c => absurd (nI_le (Nat.le_refl _) (by decide)) c⟩
    rw [g1, nI_1, nI_rem16 (by omega), st2_slot _ _ (by decide), g2, show (16 : Int32) = nI 16 from rfl, nI_leI (by omega) (by omega), nI_1, show nI U.1 + 0 = nI U.1 by rw [show (0 : Int32) = nI 0 from rfl, nI_add, Nat.add_zero]]
    refine ⟨fun c σ'' es => fin U.1 ?_ σ'' es, fun c σ'' es => fin (U.1 + 1) ?_ σ'' es⟩
    · unfold pushU; rw [if_neg (by omega)]; show U.1 = 16; omega
    · unfold pushU; rw [if_pos (by omega)]
end UNDO
