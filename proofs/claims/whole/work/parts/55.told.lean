/-! told. -/
theorem CI.scr {σ σ' : zSg} {p : Pl} {A : Sc} {U : Un} {X : Xt} (h : CI σ p A U X) (f : felA σ σ') : CI σ' p A U X := by
  obtain ⟨c1, c2, c3, c4, c5, c6⟩ := h.2.2
  have g : ∀ c, c < 120 ∨ 121 < c → σ' c = σ c := fun c hc => f.1 c (by omega) (by omega)
  exact ⟨h.1.cong (fun c a1 a2 => g c (by omega)), h.2.1.cong (g 23 (by decide)) (fun c a1 a2 => g c (by omega)), c1.cong (g 26 (by decide)) (g 27 (by decide)) (fun c a1 a2 => g c (by omega)), ⟨c2.1, by rw [g 22 (by decide)]; exact c2.2⟩, c3.cong (f.2 0 (by decide) (by decide)) (f.2 1 (by decide) (by decide)) (f.2 2 (by decide) (by decide)), c4.cong (by rw [g 122 (by decide)]) (g 123 (by decide)) (g 124 (by decide)), c5.cong (by rw [g 1 (by decide)]) (g 2 (by decide)), by rw [g 0 (by decide)]; exact c6⟩
theorem MI.scr {σ σ' : zSg} {τ : zLm} {p : Pl} {A : Sc} {U : Un} {X : Xt} (h : MI σ τ p A U X) (f : ∀ c, c ≠ 138 → σ' c = σ c) : MI σ' τ p A U X :=
  ⟨h.1.cong (fun j _ _ => by rw [f 125 (by decide)]) (f 131 (by decide)) (f 132 (by decide)) (f 133 (by decide)), h.2.1.cong h.1.1 (fun j _ _ => by rw [f 125 (by decide)]) (f 134 (by decide)), h.2.2.cong h.1.1 (fun j _ => by rw [f 125 (by decide)]) (fun c _ hc => f c hc) rfl rfl⟩
def tdA (p : Pl) (A : Sc) (U : Un) (X : Xt) (k : Nat) : Int32 := match k with
  | 0 => nI (pH p)
  | 1 => nI (pP p)
  | 2 => nI (pm p)
  | 3 => nI (pn p)
  | 4 => nI X.2.2.2.2.1.1
  | 5 => nI (hrS A)
  | 6 => nI (stN (isA A 1) (pm p))
  | 7 => nI (stN (isA A 2) (pm p))
  | 8 => nI (stN (isA A 3) (pm p))
  | 9 => nI (stN (goodA A) (pm p))
  | 10 => nI (shS A)
  | 11 => nI (leftA p A)
  | 12 => oI (bst (leftE p A) (pn p))
  | 13 => nI X.2.2.1.1
  | 14 => nI (stN (wiB A X.2.2.1) (pm p))
  | 15 => nI (totF A X.2.2.1 (pm p))
  | 16 => oI (wvT (totF A X.2.2.1 (pm p)) (fun c => flsF A X.2.2.1 c (pm p)) 25).1
  | 17 => nI X.2.2.2.1.1
  | _ => nI U.1
section TOLD
variable {l : Launch} {D : zDD} {b : Nat} {γ : zGm} {σ : zSg} {τ : zLm} {p : Pl} {A : Sc} {U : Un} {X : Xt} {Q : Int32 → zSg → zLm → Prop} {G : zSg → zLm → Prop}
theorem felA.refl (σ : zSg) : felA σ σ := ⟨fun _ _ _ => rfl, fun _ _ _ => rfl⟩
theorem C_told (hC : CI σ p A U X) (y : Int32) (hin : ∀ k, k < 19 → y = nI k → ∀ σ', felA σ σ' → Q (tdA p A U X k) σ' τ) (hout : (y.toInt < 0 ∨ (18 : Int) < y.toInt) → Q (-1000000002) σ τ) : SI l D b M_X11_told 6 G0 [.ref (b + 0), .int y] σ τ Q := by
  have R := hC.1
  have HB := hC.2.2.2.2.1
  have e23 : σ 23 5 = nI U.1 := by obtain ⟨_, _, _, _, q, _⟩ := hC.2.1; exact q
  refine s_X11_told _ σ τ ?_
  rw [R.2.2.1.1, R.2.2.1.2.1, R.2.2.1.2.2.1, R.2.2.1.2.2.2.1, hC.2.2.2.2.2.2.1.2.1, R.2.2.2.1, R.2.2.2.2.1, HB.2.1, hC.2.2.2.2.2.1.2.1, e23]
  have f0 := felA.refl σ
  exact ⟨hout, fun e => hin 0 (by decide) e σ f0, fun e => hin 1 (by decide) e σ f0, fun e => hin 2 (by decide) e σ f0, fun e => hin 3 (by decide) e σ f0, fun e => hin 4 (by decide) e σ f0, fun e => hin 5 (by decide) e σ f0, fun e => S_allThatAre (v := 1) R (by decide) (hin 6 (by decide) e σ f0), fun e => S_allThatAre (v := 2) R (by decide) (hin 7 (by decide) e σ f0), fun e => S_allThatAre (v := 3) R (by decide) (hin 8 (by decide) e σ f0), fun e => S_allGood R (hin 9 (by decide) e σ f0), fun e => hin 10 (by decide) e σ f0, fun e => S_leftTogether R (hin 11 (by decide) e σ f0), fun e => S_strongest R (hin 12 (by decide) e σ f0), fun e => hin 13 (by decide) e σ f0, fun e => s_X1_within σ τ (S_feelAll R HB (fun σ' e3 S' F' => by rw [e3]; exact hin 14 (by decide) e σ' F')), fun e => s_X1_pairs σ τ (S_feelAll R HB (fun σ' e3 S' F' => by rw [S'.1]; exact hin 15 (by decide) e σ' F')), fun e => S_weave R HB (fun σ' F' => hin 16 (by decide) e σ' F'), fun e => hin 17 (by decide) e σ f0, fun e => hin 18 (by decide) e σ f0⟩
theorem M_told (hM : MI σ τ p A U X) (y : Int32) (hin : ∀ k, k < 19 → y = nI k → ∀ σ', (∀ c, c ≠ 138 → σ' c = σ c) → Q (tdA p A U X k) σ' τ) (hout : (y.toInt < 0 ∨ (18 : Int) < y.toInt) → Q (-1000000002) σ τ) : SI l D b M_X12_told 4 G0 [.ref (b + 125), .int y] σ τ Q := by
  have R := hM.1
  have HB := hM.2.2.2.2.1
  have e23 : σ 125 21 = nI U.1 := by obtain ⟨_, _, _, _, q, _⟩ := hM.2.1; exact q
  have e0 : σ 133 1 = nI (shS A) := R.2.2.2.2.1
  refine s_X12_told _ σ τ ?_
  rw [R.2.2.1.1, R.2.2.1.2.1, R.2.2.1.2.2.1, R.2.2.1.2.2.2.1, hM.2.2.2.2.2.2.1.2.1, R.2.2.2.1, e0, HB.2.1, hM.2.2.2.2.2.1.2.1, e23]
  have f0 : ∀ c, c ≠ 138 → σ c = σ c := fun _ _ => rfl
  exact ⟨hout, fun e => hin 0 (by decide) e σ f0, fun e => hin 1 (by decide) e σ f0, fun e => hin 2 (by decide) e σ f0, fun e => hin 3 (by decide) e σ f0, fun e => hin 4 (by decide) e σ f0, fun e => hin 5 (by decide) e σ f0, fun e => M_are (v := 1) R (by decide) (hin 6 (by decide) e σ f0), fun e => M_are (v := 2) R (by decide) (hin 7 (by decide) e σ f0), fun e => M_are (v := 3) R (by decide) (hin 8 (by decide) e σ f0), fun e => M_good R (hin 9 (by decide) e σ f0), fun e => hin 10 (by decide) e σ f0, fun e => M_leftAll R (hin 11 (by decide) e σ f0), fun e => M_strongest R (hin 12 (by decide) e σ f0), fun e => hin 13 (by decide) e σ f0, fun e => M_within R HB (hin 14 (by decide) e σ f0), fun e => M_fitMany R HB (hin 15 (by decide) e σ f0), fun e => M_weave R HB (fun σ' F' => hin 16 (by decide) e σ' F'), fun e => hin 17 (by decide) e σ f0, fun e => hin 18 (by decide) e σ f0⟩
theorem P_told (J : Iv σ τ) (y : Int32) (h : ∀ r σ1 τ1, (∀ Z : Int32 → zSg → zLm → Prop, (∀ σ2 τ2, Iv σ2 τ2 → Z r σ2 τ2) → SI l D b M_X12_told 4 G0 [.ref (b + 125), .int y] σ1 τ1 Z) → Q r σ1 τ1) : SI l D b M_X11_told 6 G0 [.ref (b + 0), .int y] σ τ Q := by
  obtain ⟨p, A, U, X, hC, hM⟩ := id J
  have inr : ∀ k, k < 19 → y = nI k → ¬ (y.toInt < 0 ∨ (18 : Int) < y.toInt) := by
    intro k hk e q
    rw [e, nI_toInt (by omega)] at q
    omega
  refine C_told hC y (fun k hk e σ1 F1 => h _ _ _ (fun Z hZ => ?_)) (fun q => h _ _ _ (fun Z hZ => M_told hM y (fun k2 hk2 e2 => absurd q (inr k2 hk2 e2)) (fun _ => hZ _ _ J)))
  have M1 := hM.cong (σ' := σ1) (fun c a => F1.1 c (by omega) (by omega))
  refine M_told M1 y (fun k2 hk2 e2 σ2 F2 => ?_) (fun q => absurd q (inr k hk e))
  have ek : k = k2 := by
    rw [e, nI_eq (by omega) (by omega)] at e2
    exact e2
  subst ek
  exact hZ _ _ ⟨p, A, U, X, (hC.scr F1).cong (fun c a => F2 c (by omega)), M1.scr F2⟩
end TOLD
