/-! trouble: what is told of one. -/
def trA (p : Pl) (A : Sc) (t k : Nat) : Int32 := match k with
  | 0 => nI (pk p t)
  | 1 => nI (hdS A t)
  | 2 => nI (spS A t)
  | 3 => nI (stS A t)
  | 4 => nI (resP (spS A t) 25 0 (spS A t) 0 0).1
  | 5 => nI (resP (spS A t) 25 0 (spS A t) 0 0).2
  | 6 => nI (edgN (spS A t))
  | 7 => nI (stN (hldB (spS A t)) 25)
  | _ => bI (bearA p A t)
section TROUBLE
variable {l : Launch} {D : zDD} {b : Nat} {γ : zGm} {σ : zSg} {τ : zLm} {p : Pl} {A : Sc} {U : Un} {X : Xt} {Q : Int32 → zSg → zLm → Prop} {G : zSg → zLm → Prop}
theorem bI_if (q : Bool) (h : Q (bI q) σ τ) : (bI q = 0 → Q 0 σ τ) ∧ (¬ bI q = 0 → Q 1 σ τ) := by
  cases q
  · exact ⟨fun _ => h, fun c => absurd rfl c⟩
  · exact ⟨fun c => absurd c one0, fun _ => h⟩
theorem C_tr (R : RC σ p A) {t : Nat} (ht : t < pm p) (y : Int32) (hin : ∀ k, k < 9 → y = nI k → Q (trA p A t k) σ τ) (hout : (y.toInt < 0 ∨ (8 : Int) < y.toInt) → Q (-1000000002) σ τ) : SI l D b M_X11_trouble 3 G0 [.ref (b + 0), .int (nI t), .int y] σ τ Q := by
  have h6 := RC_t R ht
  obtain ⟨s1, s2⟩ := RC_sp R ht
  refine s_X11_trouble _ _ σ τ (S_tro R ht ⟨fun _ => ⟨vp_in_t h6 (by decide), ?_⟩, fun q => absurd q one0⟩)
  rw [nI_c (by omega), s1, (RC_k R ht).1, (RC_hd R ht).1, (RC_st R ht).1]
  exact ⟨hout, fun e => ⟨vp_in_t h6 (by decide), hin 0 (by decide) e⟩, fun e => ⟨vp_in_t h6 (by decide), hin 1 (by decide) e⟩, fun e => hin 2 (by decide) e, fun e => ⟨vp_in_t h6 (by decide), hin 3 (by decide) e⟩, fun e => S_parts s2 (hin 4 (by decide) e), fun e => S_greatest s2 (hin 5 (by decide) e), fun e => S_edge s2 (hin 6 (by decide) e), fun e => S_hold s2 (hin 7 (by decide) e), fun e => S_isBearable R ht (bI_if _ (hin 8 (by decide) e))⟩
theorem M_tr (R : RM σ p A) {t : Nat} (ht : t < pm p) (y : Int32) (hin : ∀ k, k < 9 → y = nI k → Q (trA p A t k) σ τ) (hout : (y.toInt < 0 ∨ (8 : Int) < y.toInt) → Q (-1000000002) σ τ) : SI l D b M_X12_trouble 3 G0 [.ref (b + 125), .int (nI t), .int y] σ τ Q := by
  have h6 := RM_t R ht
  obtain ⟨s1, s2⟩ := RM_sp R ht
  refine s_X12_trouble _ _ σ τ (M_tro R ht ⟨fun _ => ?_, fun q => absurd q one0⟩)
  rw [nI_p8, nI_p2, nI_p14, nI_c (by omega), nI_c (by omega), nI_c (by omega), nI_c (by omega), s1, (RM_k R ht).1, (RM_hd R ht).1, (RM_st R ht).1]
  refine ⟨vp_in_t (by omega) (by decide), fun v ev => ?_⟩
  subst ev
  refine ⟨hout, fun e => ⟨vp_in_t h6 (by decide), hin 0 (by decide) e⟩, fun e => ⟨vp_in_t (by omega) (by decide), hin 1 (by decide) e⟩, fun e => hin 2 (by decide) e, fun e => ⟨vp_in_t (by omega) (by decide), hin 3 (by decide) e⟩, fun e => M_parts s2 (fun _ => hin 4 (by decide) e) (fun q => absurd rfl q), fun e => M_parts s2 (fun q => absurd q one0) (fun _ B hB eB => S_bits (by omega) σ τ ?_), fun e => M_edge s2 (hin 6 (by decide) e), fun e => M_hold s2 (hin 7 (by decide) e), fun e => M_isBearable R ht (bI_if _ (hin 8 (by decide) e))⟩
  rw [eB]
  exact hin 5 (by decide) e
theorem P_trouble (J : Iv σ τ) (x y : Int32) (h : ∀ r σ1 τ1, (∀ Z : Int32 → zSg → zLm → Prop, (∀ σ2 τ2, Iv σ2 τ2 → Z r σ2 τ2) → SI l D b M_X12_trouble 3 G0 [.ref (b + 125), .int x, .int y] σ1 τ1 Z) → Q r σ1 τ1) : SI l D b M_X11_trouble 3 G0 [.ref (b + 0), .int x, .int y] σ τ Q := by
  obtain ⟨p, A, U, X, hC, hM⟩ := id J
  rcases tro p hC.1.1 x with ⟨t, ht, rfl⟩ | hx
  · have inr : ∀ k, k < 9 → y = nI k → ¬ (y.toInt < 0 ∨ (8 : Int) < y.toInt) := by
      intro k hk e q
      rw [e, nI_toInt (by omega)] at q
      omega
    refine C_tr hC.1 ht y (fun k hk e => h _ _ _ (fun Z hZ => M_tr hM.1 ht y (fun k2 hk2 e2 => ?_) (fun q => absurd q (inr k hk e)))) (fun q => h _ _ _ (fun Z hZ => M_tr hM.1 ht y (fun k2 hk2 e2 => absurd q (inr k2 hk2 e2)) (fun _ => hZ _ _ J)))
    have ek : k = k2 := by
      rw [e, nI_eq (by omega) (by omega)] at e2
      exact e2
    subst ek
    exact hZ _ _ J
  · exact s_X11_trouble _ _ σ τ (S_ntro hC.1 hx ⟨fun q => absurd rfl q, fun _ => h _ _ _ (fun Z hZ => s_X12_trouble _ _ σ τ (M_ntro hM.1 hx ⟨fun q => absurd rfl q, fun _ => hZ _ _ J⟩))⟩)
end TROUBLE
