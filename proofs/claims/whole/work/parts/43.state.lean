/-! THE WHOLE STATE, the class's picture and the reference's. -/
abbrev Im : Type := Nat → Option (Sc × Nat)
abbrev Bm : Type := Nat × (Nat → Nat) × (Nat → Bool)
abbrev Bk : Type := Nat × (Nat → Nat) × (Nat → Nat)
abbrev Tx : Type := Nat × (Nat → Nat)
abbrev Xt : Type := Im × Nat × Bm × Bk × Tx × Int32
def bsT (B : Bm) (v : Bool) : Nat → Nat
  | 0 => 0
  | k + 1 => bsT B v k ||| (if B.2.2 k = v then 2 ^ B.2.1 k else 0)
def CIm (σ : zSg) (p : Pl) (I : Im) : Prop := ∀ i, i < 2 → (I i = none → σ 27 i = 0) ∧ ∀ A z, I i = some (A, z) → σ 27 i = 1 ∧ okA p A ∧ CS σ (108 + 5 * i) p A ∧ z < 2 ^ 31 ∧ σ 26 i = nI z
def MIm (σ : zSg) (τ : zLm) (p : Pl) (I : Im) : Prop := ∀ i, i < 2 → (I i = none → σ 141 i = 0) ∧ ∀ A z, I i = some (A, z) → σ 141 i = 1 ∧ okA p A ∧ MS σ 142 (26 * i) p A ∧ z < 2 ^ 31 ∧ τ 143 i = lN z
def CZ (σ : zSg) (z : Nat) : Prop := z < 2 ^ 31 ∧ σ 22 0 = nI z
def MZ (τ : zLm) (z : Nat) : Prop := z < 2 ^ 31 ∧ τ 125 24 = lN z
def okBm (B : Bm) : Prop := B.1 ≤ 6 ∧ ∀ k, k < B.1 → B.2.1 k < 25
def CB (σ : zSg) (B : Bm) : Prop := okBm B ∧ σ 120 0 = nI B.1 ∧ σ 120 1 = nI (bsT B true B.1) ∧ σ 120 2 = nI (bsT B false B.1)
def MB (σ : zSg) (B : Bm) : Prop := okBm B ∧ σ 125 26 = nI B.1 ∧ ∀ k, k < B.1 → σ 136 k = nI (B.2.1 k) ∧ σ 137 k = bI (B.2.2 k)
def okK (p : Pl) (K : Bk) : Prop := K.1 ≤ 15 ∧ ∀ k, k < K.1 → K.2.1 k < pm p ∧ K.2.2 k ≤ 200
def CK (σ : zSg) (p : Pl) (K : Bk) : Prop := okK p K ∧ σ 122 0 = nI K.1 ∧ ∀ k, k < K.1 → σ 123 k = nI (K.2.1 k) ∧ σ 124 k = nI (K.2.2 k)
def MK (σ : zSg) (p : Pl) (K : Bk) : Prop := okK p K ∧ σ 125 30 = nI K.1 ∧ ∀ k, k < K.1 → σ 139 k = nI (K.2.1 k) ∧ σ 140 k = nI (K.2.2 k)
def okT (T : Tx) : Prop := T.1 ≤ 240 ∧ ∀ k, k < T.1 → T.2 k ≤ 255
def CT (σ : zSg) (T : Tx) : Prop := okT T ∧ σ 1 1 = nI T.1 ∧ ∀ k, k < T.1 → σ 2 k = nI (T.2 k)
def MT (σ : zSg) (T : Tx) : Prop := okT T ∧ σ 125 0 = nI T.1 ∧ ∀ k, k < T.1 → σ 126 k = nI (T.2 k)
def CX (σ : zSg) (p : Pl) (X : Xt) : Prop := CIm σ p X.1 ∧ CZ σ X.2.1 ∧ CB σ X.2.2.1 ∧ CK σ p X.2.2.2.1 ∧ CT σ X.2.2.2.2.1 ∧ σ 0 11 = X.2.2.2.2.2
def MX (σ : zSg) (τ : zLm) (p : Pl) (X : Xt) : Prop := MIm σ τ p X.1 ∧ MZ τ X.2.1 ∧ MB σ X.2.2.1 ∧ MK σ p X.2.2.2.1 ∧ MT σ X.2.2.2.2.1 ∧ σ 125 5 = X.2.2.2.2.2
def CI (σ : zSg) (p : Pl) (A : Sc) (U : Un) (X : Xt) : Prop := RC σ p A ∧ CU σ p U ∧ CX σ p X
def MI (σ : zSg) (τ : zLm) (p : Pl) (A : Sc) (U : Un) (X : Xt) : Prop := RM σ p A ∧ MU σ p U ∧ MX σ τ p X
def Iv (σ : zSg) (τ : zLm) : Prop := ∃ p A U X, CI σ p A U X ∧ MI σ τ p A U X
theorem CIm.cong {σ σ' : zSg} {p : Pl} {I : Im} (h : CIm σ p I) (h1 : σ' 26 = σ 26) (h2 : σ' 27 = σ 27) (h3 : ∀ c, 108 ≤ c → c < 118 → σ' c = σ c) : CIm σ' p I := fun i hi => by
  obtain ⟨a, k⟩ := h i hi
  refine ⟨fun q => by rw [h2]; exact a q, fun A z q => ?_⟩
  obtain ⟨k1, k2, k3, k4, k5⟩ := k A z q
  exact ⟨by rw [h2]; exact k1, k2, k3.same (fun c c1 c2 => h3 c (by omega) (by omega)), k4, by rw [h1]; exact k5⟩
theorem MIm.cong {σ σ' : zSg} {τ τ' : zLm} {p : Pl} {I : Im} (h : MIm σ τ p I) (hp : okP p) (h1 : σ' 141 = σ 141) (h2 : σ' 142 = σ 142) (h3 : τ' 143 = τ 143) : MIm σ' τ' p I := fun i hi => by
  obtain ⟨a, k⟩ := h i hi
  refine ⟨fun q => by rw [h1]; exact a q, fun A z q => ?_⟩
  obtain ⟨k1, k2, k3, k4, k5⟩ := k A z q
  exact ⟨by rw [h1]; exact k1, k2, k3.copy (fun i _ => by rw [h2]) hp, k4, by rw [h3]; exact k5⟩
theorem CB.cong {σ σ' : zSg} {B : Bm} (h : CB σ B) (h0 : σ' 120 0 = σ 120 0) (h1 : σ' 120 1 = σ 120 1) (h2 : σ' 120 2 = σ 120 2) : CB σ' B := ⟨h.1, h0.trans h.2.1, h1.trans h.2.2.1, h2.trans h.2.2.2⟩
theorem MB.cong {σ σ' : zSg} {B : Bm} (h : MB σ B) (h0 : σ' 125 26 = σ 125 26) (h1 : σ' 136 = σ 136) (h2 : σ' 137 = σ 137) : MB σ' B := ⟨h.1, h0.trans h.2.1, fun k hk => by rw [h1, h2]; exact h.2.2 k hk⟩
theorem CK.cong {σ σ' : zSg} {p : Pl} {K : Bk} (h : CK σ p K) (h0 : σ' 122 0 = σ 122 0) (h1 : σ' 123 = σ 123) (h2 : σ' 124 = σ 124) : CK σ' p K := ⟨h.1, h0.trans h.2.1, fun k hk => by rw [h1, h2]; exact h.2.2 k hk⟩
theorem MK.cong {σ σ' : zSg} {p : Pl} {K : Bk} (h : MK σ p K) (h0 : σ' 125 30 = σ 125 30) (h1 : σ' 139 = σ 139) (h2 : σ' 140 = σ 140) : MK σ' p K := ⟨h.1, h0.trans h.2.1, fun k hk => by rw [h1, h2]; exact h.2.2 k hk⟩
theorem CT.cong {σ σ' : zSg} {T : Tx} (h : CT σ T) (h0 : σ' 1 1 = σ 1 1) (h1 : σ' 2 = σ 2) : CT σ' T := ⟨h.1, h0.trans h.2.1, fun k hk => by rw [h1]; exact h.2.2 k hk⟩
theorem MT.cong {σ σ' : zSg} {T : Tx} (h : MT σ T) (h0 : σ' 125 0 = σ 125 0) (h1 : σ' 126 = σ 126) : MT σ' T := ⟨h.1, h0.trans h.2.1, fun k hk => by rw [h1]; exact h.2.2 k hk⟩
theorem CX.cong {σ σ' : zSg} {p : Pl} {X : Xt} (h : CX σ p X) (hf : ∀ c, (c < 3 ∨ 22 ≤ c ∧ c ≤ 22 ∨ 26 ≤ c ∧ c ≤ 27 ∨ 108 ≤ c ∧ c < 118 ∨ 120 ≤ c ∧ c < 125) → σ' c = σ c) : CX σ' p X := by
  obtain ⟨h1, h2, h3, h4, h5, h6⟩ := h
  refine ⟨h1.cong (hf 26 (by omega)) (hf 27 (by omega)) (fun c c1 c2 => hf c (by omega)), ⟨h2.1, by rw [hf 22 (by omega)]; exact h2.2⟩, h3.cong ?_ ?_ ?_, h4.cong ?_ (hf 123 (by omega)) (hf 124 (by omega)), h5.cong ?_ (hf 2 (by omega)), ?_⟩
  · rw [hf 120 (by omega)]
  · rw [hf 120 (by omega)]
  · rw [hf 120 (by omega)]
  · rw [hf 122 (by omega)]
  · rw [hf 1 (by omega)]
  · rw [hf 0 (by omega)]; exact h6
theorem MX.cong {σ σ' : zSg} {τ τ' : zLm} {p : Pl} {X : Xt} (h : MX σ τ p X) (hp : okP p) (h0 : ∀ j, (j = 0 ∨ j = 5 ∨ j = 26 ∨ j = 30) → σ' 125 j = σ 125 j) (hf : ∀ c, (c = 126 ∨ 136 ≤ c ∧ c < 144) → c ≠ 138 → σ' c = σ c) (ht : τ' 125 24 = τ 125 24) (ht2 : τ' 143 = τ 143) : MX σ' τ' p X := by
  obtain ⟨h1, h2, h3, h4, h5, h6⟩ := h
  exact ⟨h1.cong hp (hf 141 (by omega) (by omega)) (hf 142 (by omega) (by omega)) ht2, ⟨h2.1, ht.trans h2.2⟩, h3.cong (h0 26 (by omega)) (hf 136 (by omega) (by omega)) (hf 137 (by omega) (by omega)), h4.cong (h0 30 (by omega)) (hf 139 (by omega) (by omega)) (hf 140 (by omega) (by omega)), h5.cong (h0 0 (by omega)) (hf 126 (by omega) (by omega)), (h0 5 (by omega)).trans h6⟩
theorem CI.cong {σ σ' : zSg} {p : Pl} {A : Sc} {U : Un} {X : Xt} (h : CI σ p A U X) (hf : ∀ c, c < 125 → σ' c = σ c) : CI σ' p A U X :=
  ⟨h.1.cong (fun c _ _ => hf c (by omega)), h.2.1.cong (hf 23 (by omega)) (fun c _ _ => hf c (by omega)), h.2.2.cong (fun c hc => hf c (by omega))⟩
theorem MI.cong {σ σ' : zSg} {τ : zLm} {p : Pl} {A : Sc} {U : Un} {X : Xt} (h : MI σ τ p A U X) (hf : ∀ c, 125 ≤ c → σ' c = σ c) : MI σ' τ p A U X :=
  ⟨h.1.cong (fun j _ _ => by rw [hf 125 (by omega)]) (hf 131 (by omega)) (hf 132 (by omega)) (hf 133 (by omega)), h.2.1.cong h.1.1 (fun j _ _ => by rw [hf 125 (by omega)]) (hf 134 (by omega)), h.2.2.cong h.1.1 (fun j _ => by rw [hf 125 (by omega)]) (fun c hc _ => hf c (by omega)) rfl rfl⟩
/-- what a deed may touch -/
def frC (σ σ' : zSg) : Prop := ∀ c, c ≠ 23 → (c < 14 ∨ 21 < c) → (c < 28 ∨ 108 ≤ c) → σ' c = σ c
def frM (σ σ' : zSg) : Prop := (∀ c, c ≠ 125 → c ≠ 133 → c ≠ 134 → c ≠ 135 → σ' c = σ c) ∧ ∀ j, j ≠ 21 → j ≠ 22 → σ' 125 j = σ 125 j
theorem frC.refl (σ : zSg) : frC σ σ := fun _ _ _ _ => rfl
theorem frC.trans {σ σ' σ'' : zSg} (h : frC σ σ') (h2 : frC σ' σ'') : frC σ σ'' := fun c a1 a2 a3 => (h2 c a1 a2 a3).trans (h c a1 a2 a3)
theorem frM.refl (σ : zSg) : frM σ σ := ⟨fun _ _ _ _ _ => rfl, fun _ _ _ => rfl⟩
theorem frM.trans {σ σ' σ'' : zSg} (h : frM σ σ') (h2 : frM σ' σ'') : frM σ σ'' := ⟨fun c a1 a2 a3 a4 => (h2.1 c a1 a2 a3 a4).trans (h.1 c a1 a2 a3 a4), fun j a1 a2 => (h2.2 j a1 a2).trans (h.2 j a1 a2)⟩
theorem frM.of {σ σ' : zSg} (h : ∀ c, c ≠ 133 → c ≠ 135 → σ' c = σ c) : frM σ σ' := ⟨fun c _ a2 _ a4 => h c a2 a4, fun j _ _ => by rw [h 125 (by decide) (by decide)]⟩
theorem CI.scene {σ σ' : zSg} {p : Pl} {A A' : Sc} {U U' : Un} {X : Xt} (h : CI σ p A U X) (R' : RC σ' p A') (hU : CU σ' p U') (hf : frC σ σ') : CI σ' p A' U' X :=
  ⟨R', hU, h.2.2.cong (fun c hc => hf c (by omega) (by omega) (by omega))⟩
theorem MI.scene {σ σ' : zSg} {τ : zLm} {p : Pl} {A A' : Sc} {U U' : Un} {X : Xt} (h : MI σ τ p A U X) (R' : RM σ' p A') (hU : MU σ' p U') (hf : frM σ σ') : MI σ' τ p A' U' X :=
  ⟨R', hU, h.2.2.cong h.1.1 (fun j hj => hf.2 j (by omega) (by omega)) (fun c hc _ => hf.1 c (by omega) (by omega) (by omega) (by omega)) rfl rfl⟩
theorem frC.up {σ σ' : zSg} (h : frC σ σ') : ∀ c, 125 ≤ c → σ' c = σ c := fun c hc => h c (by omega) (by omega) (by omega)
theorem frM.dn {σ σ' : zSg} (h : frM σ σ') : ∀ c, c < 125 → σ' c = σ c := fun c hc => h.1 c (by omega) (by omega) (by omega) (by omega)
/-- the end of a pair of deeds -/
theorem Iv_scene {σ σ1 σ2 : zSg} {τ : zLm} {p : Pl} {A A' : Sc} {U U' : Un} {X : Xt} (hC : CI σ p A U X) (hM : MI σ τ p A U X) (R1 : RC σ1 p A') (U1 : CU σ1 p U') (f1 : frC σ σ1) (R2 : RM σ2 p A') (U2 : MU σ2 p U') (f2 : frM σ1 σ2) : Iv σ2 τ :=
  ⟨p, A', U', X, (hC.scene R1 U1 f1).cong f2.dn, (hM.cong f1.up).scene R2 U2 f2⟩
theorem tro (p : Pl) (hp : okP p) (x : Int32) : (∃ t, t < pm p ∧ x = nI t) ∨ ∀ t, t < pm p → x ≠ nI t := by
  by_cases h : ∃ t, t < pm p ∧ x = nI t
  · exact Or.inl h
  · exact Or.inr (fun t ht e => h ⟨t, ht, e⟩)
theorem eat (p : Pl) (hp : okP p) (x : Int32) : (∃ t, t < pn p ∧ x = nI t) ∨ ∀ t, t < pn p → x ≠ nI t := by
  by_cases h : ∃ t, t < pn p ∧ x = nI t
  · exact Or.inl h
  · exact Or.inr (fun t ht e => h ⟨t, ht, e⟩)
section BASIC
variable {l : Launch} {D : zDD} {b : Nat} {γ : zGm} {σ : zSg} {τ : zLm} {p : Pl} {A : Sc} {U : Un} {X : Xt} {Q : Int32 → zSg → zLm → Prop} {G : zSg → zLm → Prop}
theorem S_tro (R : RC σ p A) {t : Nat} (ht : t < pm p) (h : Q 1 σ τ) : SI l D b M_X6_hasTrouble 0 G0 [.ref (b + 9), .int (nI t)] σ τ Q := S_hasTrouble R _ (fun _ _ _ => h) (fun q => absurd rfl (q t ht))
theorem S_ntro (R : RC σ p A) {x : Int32} (hx : ∀ t, t < pm p → x ≠ nI t) (h : Q 0 σ τ) : SI l D b M_X6_hasTrouble 0 G0 [.ref (b + 9), .int x] σ τ Q := S_hasTrouble R _ (fun t ht e => absurd e (hx t ht)) (fun _ => h)
theorem M_tro (R : RM σ p A) {t : Nat} (ht : t < pm p) (h : Q 1 σ τ) : SI l D b M_X12_isTrouble 1 G0 [.ref (b + 125), .int (nI t)] σ τ Q := M_isTrouble R _ (fun _ _ _ => h) (fun q => absurd rfl (q t ht))
theorem M_ntro (R : RM σ p A) {x : Int32} (hx : ∀ t, t < pm p → x ≠ nI t) (h : Q 0 σ τ) : SI l D b M_X12_isTrouble 1 G0 [.ref (b + 125), .int x] σ τ Q := M_isTrouble R _ (fun t ht e => absurd e (hx t ht)) (fun _ => h)
theorem S_rem (hC : CI σ p A U X) (h : ∀ σ', RC σ' p A → CU σ' p (pushU U A) → frC σ σ' → G σ' τ) : SV l D b M_X5_remember 2 G0 [.ref (b + 23), .ref (b + 14)] σ τ G :=
  S_remember hC.1 hC.2.1 (fun σ' hU hf => h σ' (hC.1.cong (fun c c1 c2 => hf c (by omega) (by omega))) hU (fun c a1 a2 a3 => hf c a1 a3))
theorem M_rem (hM : MI σ τ p A U X) (h : ∀ σ', RM σ' p A → MU σ' p (pushU U A) → frM σ σ' → G σ' τ) : SV l D b M_X12_remember 0 G0 [.ref (b + 125)] σ τ G :=
  M_remember hM.1 hM.2.1 (fun σ' hU hf hf2 => h σ' (hM.1.cong (fun j j1 j2 => hf2 j (by omega) (by omega)) (hf 131 (by decide) (by decide)) (hf 132 (by decide) (by decide)) (hf 133 (by decide) (by decide))) hU ⟨fun c a1 a2 a3 a4 => hf c a1 a3, hf2⟩)
theorem one0 : ¬ (1 : Int32) = 0 := by decide
end BASIC
