/-! IN WHICH ORDER: the class. -/
def tmN (p : Pl) (A : Sc) (t h : Nat) : Nat := (tgN p A t h).getD 0
def dF (p : Pl) (A : Sc) : Nat → Nat → Nat → Nat → Nat → Bo → Bo
  | 0, _, _, sm, fig, c => updB c sm fig
  | k + 1, S, at', sm, fig, c => fld (fun t c => if S.testBit t then dF p A k (offT S t) (at' + tmN p A t (hrS A + at')) (sm + (at' + tmN p A t (hrS A + at'))) (10 * fig + t + 1) c else c) 6 c
theorem fld_id {β : Type} {f : Nat → β → β} {c : β} : ∀ {n : Nat}, (∀ t, t < n → f t c = c) → fld f n c = c
  | 0, _ => rfl
  | n + 1, h => by rw [fld, fld_id (fun t ht => h t (by omega))]; exact h n (by omega)
theorem fld_ext {β : Type} {f g : Nat → β → β} {c : β} : ∀ {n : Nat}, (∀ t, t < n → ∀ d, f t d = g t d) → fld f n c = fld g n c
  | 0, _ => rfl
  | n + 1, h => by rw [fld, fld, fld_ext (fun t ht => h t (by omega)), h n (by omega)]
theorem fld_tail {β : Type} {f : Nat → β → β} {c : β} {m : Nat} : ∀ d, (∀ t, m ≤ t → ∀ e, f t e = e) → fld f (m + d) c = fld f m c
  | 0, _ => rfl
  | d + 1, h => by
    rw [show m + (d + 1) = m + d + 1 from rfl, fld, h (m + d) (by omega)]; exact fld_tail d h
theorem dF_prune (p : Pl) (A : Sc) : ∀ k S at' sm fig (x : Nat × Nat), x.1 ≤ sm → dF p A k S at' sm fig (some x) = some x
  | 0, _, _, sm, fig, x, h => by
    show (if sm < x.1 then _ else _) = _
    rw [if_neg (by omega)]
  | k + 1, S, at', sm, fig, x, h => by
    rw [dF]
    refine fld_id (fun t _ => ?_)
    split
    · exact dF_prune p A k _ _ _ _ x (by omega)
    · rfl
theorem off_bit {S t i : Nat} (hS : S < 2 ^ 31) : (offT S t).testBit i = (S.testBit i && !decide (t = i)) := by
  unfold offT
  rw [minus_bit hS, Nat.testBit_two_pow]
theorem off_pcn {S t : Nat} (hS : S < 2 ^ 31) (ht : t < 32) (h : S.testBit t = true) : pcn (offT S t) + 1 = pcn S := by
  have e : offT S t = S ^^^ 2 ^ t := by
    apply Nat.eq_of_testBit_eq
    intro i
    rw [off_bit hS, fb_bit_flip]
    by_cases q : i = t
    · subst q; rw [h]; simp
    · have q2 : ¬ t = i := fun e => q e.symm
      simp [q, q2]
  rw [e]; exact pcn_off ht h
theorem pcn_z {S : Nat} (hS : S < 2 ^ 32) : pcn S = 0 ↔ S = 0 := by
  constructor
  · intro h
    apply Nat.eq_of_testBit_eq
    intro i
    rw [Nat.zero_testBit]
    rcases Nat.lt_or_ge i 32 with q | q
    · exact fb_ct_zero.mp h i q
    · exact Nat.testBit_lt_two_pow (Nat.lt_of_lt_of_le hS (Nat.pow_le_pow_right (by decide) q))
  · rintro rfl
    exact fb_ct_zero.mpr (fun k _ => Nat.zero_testBit k)
theorem tg_par (p : Pl) (A : Sc) (t h : Nat) : tgN p A t h = tgN p A t (h % 2) := by
  unfold tgN
  rw [Nat.mod_mod]
theorem tg_ind {p : Pl} {A : Sc} {t h : Nat} (e : tgN p A t h = none) (h' : Nat) : tgN p A t h' = none := by
  unfold tgN at *
  split at e
  · cases e
  · rename_i h1
    split at e
    · rename_i h2
      rw [if_neg h1, if_pos h2]
    · cases e
theorem bit_lt {S m i : Nat} (hS : S < 2 ^ m) (h : S.testBit i = true) : i < m := by
  rcases Nat.lt_or_ge i m with q | q
  · exact q
  · rw [Nat.testBit_lt_two_pow (Nat.lt_of_lt_of_le hS (Nat.pow_le_pow_right (by decide) q))] at h; cases h
theorem enm_none {p : Pl} {A : Sc} {S0 : Nat} : ∀ k ds c, stOf p A S0 ds = none → enm p A S0 k ds c = c
  | 0, ds, c, h => by rw [enm, h]
  | k + 1, ds, c, h => by
    rw [enm]
    exact fld_id (fun t _ => enm_none k _ c (by rw [stOf_s, h]; rfl))
theorem enm_dF {p : Pl} {A : Sc} {S0 : Nat} (hm : pm p ≤ 6) : ∀ k ds S at' sm c, stOf p A S0 ds = some (S, at', sm) → pcn S = k → S < 2 ^ pm p → (∀ t, S.testBit t = true → ∀ h, tgN p A t h ≠ none) → enm p A S0 k ds c = dF p A k S at' sm (figOf ds) c
  | 0, ds, S, at', sm, c, h, _, _, _ => by rw [enm, h]; rfl
  | k + 1, ds, S, at', sm, c, h, hk, hS, ht => by
    have hpm : 2 ^ pm p ≤ 2 ^ 6 := Nat.pow_le_pow_right (by decide) hm
    rw [enm, dF, show (6 : Nat) = pm p + (6 - pm p) by omega, fld_tail]
    · refine fld_ext (fun t htm d => ?_)
      cases hb : S.testBit t
      · rw [if_neg (by decide)]
        refine enm_none k _ d ?_
        rw [stOf_s, h]
        show (if S.testBit t = true then _ else none) = none
        rw [if_neg (by rw [hb]; decide)]
      · rw [if_pos rfl]
        have hn := ht t hb (hrS A + at')
        cases eK : tgN p A t (hrS A + at') with
        | none => exact absurd eK hn
        | some K =>
          have eT : tmN p A t (hrS A + at') = K := by unfold tmN; rw [eK]; rfl
          have es : stOf p A S0 (ds ++ [t]) = some (offT S t, at' + K, sm + (at' + K)) := by
            rw [stOf_s, h]
            show (if S.testBit t = true then (match tgN p A t (hrS A + at') with | none => none | some K => some (offT S t, at' + K, sm + (at' + K))) else none) = _
            rw [if_pos hb, eK]
          rw [eT, ← figOf_s]
          have hp := off_pcn (by omega) (by omega) hb
          refine enm_dF hm k _ _ _ _ d es (by omega) (Nat.lt_of_le_of_lt (off_le S t) hS) (fun q hq => ht q ?_)
          rw [off_bit (by omega), Bool.and_eq_true] at hq
          exact hq.1
    · intro t htm e
      have hb : S.testBit t = false := by
        cases q : S.testBit t
        · rfl
        · have := bit_lt hS q; omega
      rw [hb, if_neg (by decide)]
theorem st_inv {p : Pl} {A : Sc} {S0 : Nat} (hS0 : S0 < 2 ^ 31) : ∀ (n : Nat) (ds : List Nat), ds.length = n → ∀ x, stOf p A S0 ds = some x → pcn x.1 + n = pcn S0 ∧ x.1 ≤ S0 ∧ ∀ t0, S0.testBit t0 = true → (∀ h, tgN p A t0 h = none) → x.1.testBit t0 = true := by
  intro n
  induction n with
  | zero =>
    intro ds hl x hx
    have : ds = [] := List.length_eq_zero_iff.mp hl
    subst this
    have : (S0, 0, 0) = x := by injection hx
    subst this
    exact ⟨rfl, Nat.le_refl _, fun t0 h _ => h⟩
  | succ n ih =>
    intro ds hl x hx
    have hne : ds ≠ [] := fun e => by rw [e] at hl; cases hl
    have e := (List.dropLast_concat_getLast hne).symm
    have l1 : ds.dropLast.length = n := by rw [List.length_dropLast, hl]; rfl
    rw [e, stOf_s] at hx
    generalize ds.getLast hne = t at *
    cases e1 : stOf p A S0 ds.dropLast with
    | none => rw [e1] at hx; cases hx
    | some y =>
      obtain ⟨i1, i2, i3⟩ := ih ds.dropLast l1 y e1
      rw [e1] at hx
      have hx : (if y.1.testBit t = true then (match tgN p A t (hrS A + y.2.1) with | none => none | some K => some (offT y.1 t, y.2.1 + K, y.2.2 + (y.2.1 + K))) else none) = some x := hx
      split at hx
      · rename_i hb
        cases eK : tgN p A t (hrS A + y.2.1) with
        | none => rw [eK] at hx; cases hx
        | some K =>
          rw [eK] at hx
          have : (offT y.1 t, y.2.1 + K, y.2.2 + (y.2.1 + K)) = x := by injection hx
          subst this
          have ht32 : t < 31 := bit_lt (show y.1 < 2 ^ 31 by omega) hb
          have hp := off_pcn (t := t) (show y.1 < 2 ^ 31 by omega) (by omega) hb
          refine ⟨by show pcn (offT y.1 t) + (n + 1) = _; omega, Nat.le_trans (off_le _ _) i2, fun t0 h0 hn => ?_⟩
          show (offT y.1 t).testBit t0 = true
          rw [off_bit (by omega), i3 t0 h0 hn]
          have : ¬ t = t0 := fun q => by subst q; rw [hn] at eK; cases eK
          simp [this]
      · cases hx
theorem enm_bad {p : Pl} {A : Sc} {S0 t0 : Nat} (hS0 : S0 < 2 ^ 31) (h0 : S0.testBit t0 = true) (hn : ∀ h, tgN p A t0 h = none) : ∀ k ds, ds.length + k = pcn S0 → enm p A S0 k ds none = none
  | 0, ds, hl => by
    rw [enm]
    cases e : stOf p A S0 ds with
    | none => rfl
    | some x =>
      exfalso
      obtain ⟨i1, i2, i3⟩ := st_inv hS0 _ ds rfl x e
      have hx0 : x.1 = 0 := (pcn_z (by omega)).mp (by omega)
      have := i3 t0 h0 hn
      rw [hx0, Nat.zero_testBit] at this
      cases this
  | k + 1, ds, hl => by
    rw [enm]
    exact fld_id (fun t _ => enm_bad hS0 h0 hn k _ (by rw [List.length_append, List.length_singleton]; omega))
def bC (σ : zSg) (c : Bo) : Prop := match c with
  | none => σ 118 1 = -1 ∧ σ 118 2 = -1
  | some x => σ 118 1 = nI x.1 ∧ σ 118 2 = nI x.2 ∧ x.1 < 2 ^ 31 ∧ x.2 < 2 ^ 31
theorem bC.cong {σ σ' : zSg} {c : Bo} (h : bC σ c) (h1 : σ' 118 1 = σ 118 1) (h2 : σ' 118 2 = σ 118 2) : bC σ' c := by
  cases c with
  | none => exact ⟨h1.trans h.1, h2.trans h.2⟩
  | some x => exact ⟨h1.trans h.1, h2.trans h.2.1, h.2.2⟩
section ORDER
variable {l : Launch} {D : zDD} {b : Nat} {γ : zGm} {σ : zSg} {τ : zLm} {p : Pl} {A : Sc} {U : Un} {X : Xt} {Q : Int32 → zSg → zLm → Prop} {G : zSg → zLm → Prop}
theorem S_try (hm : pm p ≤ 6) (hd : ∀ t, t < pm p → hdS A t ≤ 200) (hh : hrS A ≤ 9060) : ∀ (k hq S at' sm fig dep : Nat) (c : Bo) (σ : zSg) (G : zSg → zLm → Prop), k ≤ hq → pcn S = k → S < 2 ^ pm p → (∀ t, S.testBit t = true → ∀ h, tgN p A t h ≠ none) → at' ≤ 400 * dep → sm ≤ 2400 * dep → fig < 10 ^ dep → dep + k ≤ 6 →
    σ 118 3 = nI (hrS A) → (∀ t, S.testBit t = true → ∀ par, par < 2 → σ 119 (2 * t + par) = nI (tmN p A t par)) → bC σ c →
    (∀ σ', bC σ' (dF p A k S at' sm fig c) → (∀ q, q ≠ 118 → σ' q = σ q) → σ' 118 3 = σ 118 3 → G σ' τ) →
    SV l D b M_X4_tryNext (hq + 1) G0 [.ref (b + 118), .int (nI S), .int (nI at'), .int (nI sm), .int (nI fig), .int (nI dep)] σ τ G := by
  intro k
  induction k with
  | zero =>
    intro hq S at' sm fig dep c σ G hkq hk hS htg hat hsm hfig hdep e3 etm hb hG
    have hpm : 2 ^ pm p ≤ 2 ^ 6 := Nat.pow_le_pow_right (by decide) hm
    have hf6 : 10 ^ dep ≤ 10 ^ 6 := p10_le (by omega)
    have hS0 : S = 0 := (pcn_z (by omega)).mp hk
    subst hS0
    have body : updB c sm fig = some (sm, fig) → AV l D b M_X4_tryNext (hq + 1) G0 G 17 [(0, .ref (b + 118)), (1, .int (nI 0)), (2, .int (nI at')), (3, .int (nI sm)), (4, .int (nI fig)), (5, .int (nI dep))] [] G0 σ τ := by
      intro hu
      refine w_X4_tryNext_17 _ _ _ _ _ σ τ ⟨fun q => absurd rfl q, fun _ => hG _ ?_ (fun q hq => by rw [st2_cell _ _ hq, st2_cell _ _ hq]) (by rw [st2_slot _ _ (by decide), st2_slot _ _ (by decide)])⟩
      rw [dF, hu]
      exact ⟨by rw [st2_slot _ _ (by decide), st2_same], by rw [st2_same], by show sm < 2 ^ 31; omega, by show fig < 2 ^ 31; omega⟩
    refine s_X4_tryNext _ _ _ _ _ σ τ ?_
    cases c with
    | none =>
      exact ⟨fun _ => body rfl, fun q => absurd hb.1 q⟩
    | some x =>
      obtain ⟨b1, b2, b3, b4⟩ := id hb
      rw [b1, nI_ltI (by omega) b3]
      refine ⟨fun q => absurd q (nI_m1 b3), fun _ => ⟨fun q => body (by show (if sm < x.1 then _ else _) = _; rw [if_pos q]), fun q => hG σ ?_ (fun _ _ => rfl) rfl⟩⟩
      rw [dF_prune p A 0 0 at' sm fig x (by omega)]
      exact hb
  | succ k ih =>
    intro hq S at' sm fig dep c σ G hkq hk hS htg hat hsm hfig hdep e3 etm hb hG
    have hpm : 2 ^ pm p ≤ 2 ^ 6 := Nat.pow_le_pow_right (by decide) hm
    have hf6 : 10 ^ dep ≤ 10 ^ 5 := p10_le (by omega)
    obtain ⟨hq', rfl⟩ : ∃ q, hq = q + 1 := ⟨hq - 1, by omega⟩
    have hS0 : S ≠ 0 := fun e => by rw [e, (pcn_z (by decide)).mpr rfl] at hk; omega
    have body : AV l D b M_X4_tryNext (hq' + 1 + 1) G0 G 17 [(0, .ref (b + 118)), (1, .int (nI S)), (2, .int (nI at')), (3, .int (nI sm)), (4, .int (nI fig)), (5, .int (nI dep))] [] G0 σ τ := by
      refine w_X4_tryNext_17 _ _ _ _ _ σ τ ⟨fun _ => ⟨fun _ => ?_, fun q => ?_⟩, fun q => ?_⟩
      · have key := lp_up (P := fun t => ∀ σ', bC σ' (fld (fun t c => if S.testBit t then dF p A k (offT S t) (at' + tmN p A t (hrS A + at')) (sm + (at' + tmN p A t (hrS A + at'))) (10 * fig + t + 1) c else c) t c) → (∀ q, q ≠ 118 → σ' q = σ q) → σ' 118 3 = σ 118 3 → AV l D b M_X4_tryNext (hq' + 1 + 1) G0 G 44 [(0, .ref (b + 118)), (1, .int (nI S)), (2, .int (nI at')), (3, .int (nI sm)), (4, .int (nI fig)), (5, .int (nI dep)), (6, .int (nI t))] [] G0 σ' τ) (n := 6) ?_ ?_ 0 (Nat.zero_le _)
        · exact key σ hb (fun _ _ => rfl) rfl
        · intro t ht iht σ' hb' f1 f3
          rw [fld] at iht
          refine w_X4_tryNext_44 _ _ _ _ _ _ σ' τ ⟨fun q => ?_, fun _ => S_has (by omega) ⟨fun q => ?_, fun q => ?_⟩⟩
          · rw [show (6 : Int32) = nI 6 from rfl, nI_leI (by omega) (by omega)] at q; omega
          · have q := (bI_0 _).mp q
            rw [q, if_neg (by decide)] at iht
            rw [nI_1]
            exact iht σ' hb' f1 f3
          · have q := (bI_n0 _).mp q
            rw [q, if_pos rfl] at iht
            have htm := bit_lt hS q
            have hpar : (hrS A + at') % 2 < 2 := Nat.mod_lt _ (by decide)
            rw [f3, e3, nI_add, nI_rem2 (by omega), show (2 : Int32) = nI 2 from rfl, pk_mul, nI_add, nI_c (by omega), f1 119 (by decide), etm t q _ hpar]
            have eT : tmN p A t ((hrS A + at') % 2) = tmN p A t (hrS A + at') := by unfold tmN; rw [← tg_par]
            rw [eT]
            have hK : tmN p A t (hrS A + at') ≤ 400 := by
              unfold tmN
              cases eK : tgN p A t (hrS A + at') with
              | none => exact Nat.zero_le _
              | some K => exact tgN_le (hd t htm) eK
            generalize tmN p A t (hrS A + at') = K at *
            refine ⟨vp_in_t (by omega) (by decide), fun v ev => ?_⟩
            rw [nI_add] at ev
            subst ev
            rw [nI_sh (by omega), nI_neg1, fa_and, nI_add, nI_10, nI_add, nI_1, nI_1, nI_1]
            have hp := off_pcn (t := t) (show S < 2 ^ 31 by omega) (by omega) q
            refine ih hq' (offT S t) (at' + K) (sm + (at' + K)) (10 * fig + t + 1) (dep + 1) _ σ' _ (by omega) (by omega) (Nat.lt_of_le_of_lt (off_le S t) hS) (fun r hr => htg r ?_) (by omega) (by omega) (by rw [Nat.pow_succ]; omega) (by omega) (f3.trans e3) (fun r hr par hpar2 => ?_) hb' (fun σ2 hb2 g1 g3 => iht σ2 hb2 (fun r hr => (g1 r hr).trans (f1 r hr)) (g3.trans f3))
            · rw [off_bit (by omega), Bool.and_eq_true] at hr; exact hr.1
            · rw [off_bit (by omega), Bool.and_eq_true] at hr
              rw [f1 119 (by decide)]; exact etm r hr.1 par hpar2
        · intro σ' hb' f1 f3
          exact w_X4_tryNext_44 _ _ _ _ _ _ σ' τ ⟨fun _ => hG σ' hb' f1 f3, fun q => absurd (nI_le (Nat.le_refl 6) (by decide)) q⟩
      · exact absurd (nI_lt (b := 6) (show dep < 6 by omega) (by decide)) q
      · rw [show (0 : Int32) = nI 0 from rfl, nI_eq (by omega) (by omega)] at q; exact absurd q hS0
    refine s_X4_tryNext _ _ _ _ _ σ τ ⟨fun _ => body, fun _ => ⟨fun _ => body, fun q => ?_⟩⟩
    cases c with
    | none => exact absurd hb.1 (by assumption)
    | some x =>
      obtain ⟨b1, b2, b3, b4⟩ := id hb
      rw [b1, nI_ltI (by omega) b3] at q
      refine hG σ ?_ (fun _ _ => rfl) rfl
      rw [dF_prune p A (k + 1) S at' sm fig x (by omega)]
      exact hb
theorem S_find (R : RC σ p A) {S : Nat} (hS : S < 2 ^ pm p) (h : ∀ σ', bC σ' (enm p A S (pcn S) [] none) → (∀ q, q ≠ 118 → q ≠ 119 → σ' q = σ q) → G σ' τ) : SV l D b M_X4_find 10 G0 [.ref (b + 118), .int (nI S), .ref (b + 8), .int (nI (hrS A))] σ τ G := by
  have hm6 := R.1.2.2.1
  have hpm : 2 ^ pm p ≤ 2 ^ 6 := Nat.pow_le_pow_right (by decide) hm6
  have hp6 : pcn S ≤ 6 := by
    have e := pcn25 (n := S) (by omega)
    rw [e, show (25 : Nat) = 6 + 19 from rfl, fb_ct_split]
    have e2 : fb_ct (fun k => S.testBit (6 + k)) 19 = 0 := fb_ct_zero.mpr (fun i _ => by
      cases q : S.testBit (6 + i)
      · rfl
      · have := bit_lt hS q; omega)
    have := fb_ct_le (fun i => S.testBit i) 6
    omega
  refine s_X4_find _ _ σ τ ?_
  generalize hs0 : st2 (st2 (st2 σ 118 1 (-1)) 118 2 (-1)) 118 3 (nI (hrS A)) = σ0
  have b0 : bC σ0 none := ⟨by rw [← hs0, st2_slot _ _ (by decide), st2_slot _ _ (by decide), st2_same], by rw [← hs0, st2_slot _ _ (by decide), st2_same]⟩
  have f0 : ∀ q, q ≠ 118 → σ0 q = σ q := fun q hq => by rw [← hs0, st2_cell _ _ hq, st2_cell _ _ hq, st2_cell _ _ hq]
  have e30 : σ0 118 3 = nI (hrS A) := by rw [← hs0, st2_same]
  have key := lp_up (P := fun t => (∀ q, q < t → S.testBit q = true → ∀ h, tgN p A q h ≠ none) → ∀ σ', (∀ q, q ≠ 119 → σ' q = σ0 q) → (∀ q, q < t → S.testBit q = true → ∀ par, par < 2 → σ' 119 (2 * q + par) = nI (tmN p A q par)) → AV l D b M_X4_find 10 G0 G 18 [(0, .ref (b + 118)), (1, .int (nI S)), (2, .ref (b + 8)), (4, .int (nI t))] [] G0 σ' τ) (n := 6) ?_ ?_ 0 (Nat.zero_le _)
  · exact key (fun q hq => absurd hq (Nat.not_lt_zero q)) σ0 (fun _ _ => rfl) (fun q hq => absurd hq (Nat.not_lt_zero q))
  · intro t ht ih hall σ' f1 f2
    have R' : RC σ' p A := R.cong (fun c a1 a2 => (f1 c (by omega)).trans (f0 c (by omega)))
    refine w_X4_find_18 _ _ σ' τ ⟨fun q => ?_, fun _ => S_has (by omega) ⟨fun q => ?_, fun q => ?_⟩⟩
    · rw [show (6 : Int32) = nI 6 from rfl, nI_leI (by omega) (by omega)] at q; omega
    · have q := (bI_0 _).mp q
      rw [nI_1]
      refine ih (fun r hr hb => ?_) σ' f1 (fun r hr hb => ?_)
      · rcases (show r = t ∨ r < t by omega) with rfl | hr2
        · rw [q] at hb; cases hb
        · exact hall r hr2 hb
      · rcases (show r = t ∨ r < t by omega) with rfl | hr2
        · rw [q] at hb; cases hb
        · exact f2 r hr2 hb
    · have q := (bI_n0 _).mp q
      have htm := bit_lt hS q
      rw [show (2 : Int32) = nI 2 from rfl, pk_mul, nI_1, nI_c (by omega), nI_c (by omega)]
      refine S_hoursTillGood (hh := 0) R' htm (by decide) ⟨vp_in_t (by omega) (by decide), ?_⟩
      have R2 : RC (st2 σ' 119 (2 * t) (oI (tgN p A t 0))) p A := R'.cong (fun c a1 a2 => st2_cell _ _ (by omega))
      refine S_hoursTillGood (hh := 1) R2 htm (by decide) ⟨vp_in_t (by omega) (by decide), vp_in_t (by omega) (by decide), ?_⟩
      rw [st2_slot _ _ (by omega), st2_same, st2_same]
      generalize hs2 : st2 (st2 σ' 119 (2 * t) (oI (tgN p A t 0))) 119 (2 * t + 1) (oI (tgN p A t 1)) = σ2
      have g1 : ∀ q, q ≠ 119 → σ2 q = σ0 q := fun q hq => by rw [← hs2, st2_cell _ _ hq, st2_cell _ _ hq]; exact f1 q hq
      have bad : tgN p A t 0 = none → G σ2 τ := by
        intro e
        refine h σ2 ?_ (fun q h1 h2 => (g1 q h2).trans (f0 q h1))
        rw [enm_bad (by omega) q (fun hx => tg_ind e hx) (pcn S) [] (by rw [List.length_nil]; omega)]
        exact b0.cong (by rw [g1 118 (by decide)]) (by rw [g1 118 (by decide)])
      refine ⟨fun c => bad ?_, fun c => ⟨vp_in_t (by omega) (by decide), fun c2 => ?_, fun c2 => bad ?_⟩⟩
      · cases e : tgN p A t 0 with
        | none => rfl
        | some K =>
          rw [e] at c
          have := tgN_le (RC_hd R htm).2 e
          exact absurd c (nI_m1 (show K < 2 ^ 31 by omega))
      · have e0 : tgN p A t 0 ≠ none := fun e => by rw [e] at c; exact absurd rfl c
        rw [nI_1]
        refine ih (fun r hr hb => ?_) σ2 g1 (fun r hr hb par hpar => ?_)
        · rcases (show r = t ∨ r < t by omega) with rfl | hr2
          · exact fun hx e => e0 (tg_ind e 0)
          · exact hall r hr2 hb
        · have oT : ∀ par, oI (tgN p A t par) = nI (tmN p A t par) := fun par => by
            unfold tmN
            cases e : tgN p A t par with
            | none => exact absurd (tg_ind e 0) e0
            | some K => rfl
          rcases (show r = t ∨ r < t by omega) with rfl | hr2
          · rcases (show par = 0 ∨ par = 1 by omega) with rfl | rfl
            · rw [← hs2, st2_slot _ _ (by omega), Nat.add_zero, st2_same]; exact oT 0
            · rw [← hs2, st2_same]; exact oT 1
          · rw [← hs2, st2_slot _ _ (by omega), st2_slot _ _ (by omega)]
            exact f2 r hr2 hb par hpar
      · cases e : tgN p A t 1 with
        | none => exact tg_ind e 0
        | some K =>
          rw [e] at c2
          have := tgN_le (RC_hd R htm).2 e
          exact absurd c2 (nI_m1 (show K < 2 ^ 31 by omega))
  · intro hall σ' f1 f2
    refine w_X4_find_18 _ _ σ' τ ⟨fun _ => ?_, fun q => absurd (nI_le (Nat.le_refl 6) (by decide)) q⟩
    have hal2 : ∀ t, S.testBit t = true → ∀ h, tgN p A t h ≠ none := fun t hb => hall t (by have := bit_lt hS hb; omega) hb
    refine S_try (p := p) (A := A) hm6 (fun t ht => (RC_hd R ht).2) (RC_hr R).2 (pcn S) 8 S 0 0 0 0 none σ' G (by omega) rfl hS hal2 (Nat.le_refl _) (Nat.le_refl _) (by decide) (by omega) (by rw [f1 118 (by decide)]; exact e30) (fun t hb => f2 t (by have := bit_lt hS hb; omega) hb) (b0.cong (by rw [f1 118 (by decide)]) (by rw [f1 118 (by decide)])) (fun σ2 hb2 g1 g3 => h σ2 ?_ (fun q h1 h2 => (g1 q h1).trans ((f1 q h2).trans (f0 q h1))))
    rw [enm_dF hm6 (pcn S) [] S 0 0 none rfl rfl hS hal2]
    exact hb2
theorem CI.scr2 {σ σ' : zSg} {p : Pl} {A : Sc} {U : Un} {X : Xt} (h : CI σ p A U X) (f : ∀ c, c ≠ 118 → c ≠ 119 → σ' c = σ c) : CI σ' p A U X :=
  ⟨h.1.cong (fun c a1 a2 => f c (by omega) (by omega)), h.2.1.cong (f 23 (by decide) (by decide)) (fun c a1 a2 => f c (by omega) (by omega)), h.2.2.cong (fun c hc => f c (by omega) (by omega))⟩
theorem all_mask {m : Nat} (hm : m ≤ 6) : ((1 : Int32) <<< (nI m &&& 31)) - 1 = nI (2 ^ m - 1) := by
  rw [nI_sh (by omega), show (1 : Int32) = nI 1 from rfl, pk_sub (Nat.two_pow_pos m)]
theorem nI_bits (x : Int32) : ∃ N, N < 2 ^ 32 ∧ x = nI N := by
  refine ⟨x.toBitVec.toNat, x.toBitVec.isLt, ?_⟩
  apply Int32.toBitVec_inj.1
  show x.toBitVec = BitVec.ofNat 32 x.toBitVec.toNat
  rw [BitVec.ofNat_toNat, BitVec.setWidth_eq]
theorem nI_z {v : Nat} (hv : v < 2 ^ 32) (h : nI v = 0) : v = 0 := by
  have h1 : (BitVec.ofNat 32 v).toNat = (0 : BitVec 32).toNat := congrArg (fun x : Int32 => x.toBitVec.toNat) h
  rw [BitVec.toNat_ofNat, Nat.mod_eq_of_lt hv] at h1
  exact h1
theorem P_order (J : Iv σ τ) (x y : Int32) (h : ∀ r σ1 τ1, (∀ Z : Int32 → zSg → zLm → Prop, (∀ σ2 τ2, Iv σ2 τ2 → Z r σ2 τ2) → SI l D b M_X12_order 4 G0 [.ref (b + 125), .int x, .int y] σ1 τ1 Z) → Q r σ1 τ1) : SI l D b M_X11_order 11 G0 [.ref (b + 0), .int x, .int y] σ τ Q := by
  obtain ⟨p, A, U, X, hC, hM⟩ := id J
  obtain ⟨c1, c2⟩ := RC_m hC.1
  obtain ⟨m1, m2⟩ := RM_m hM.1
  have hpm : 2 ^ pm p ≤ 2 ^ 6 := Nat.pow_le_pow_right (by decide) c2
  have hpos : 1 ≤ 2 ^ pm p := Nat.two_pow_pos _
  have inA : ∀ S, S < 2 ^ pm p → nI S &&& (nI (2 ^ pm p - 1) ^^^ (-1)) = 0 := by
    intro S hS
    rw [sub_zero_iff (by omega)]
    intro i hi
    rw [Nat.testBit_two_pow_sub_one]
    exact decide_eq_true (bit_lt hS hi)
  by_cases hx : ∃ S, S < 2 ^ pm p ∧ x = nI S
  · obtain ⟨S, hS, rfl⟩ := hx
    have out : ¬ (0 ≤ y ∧ y ≤ 1) → Q (-1000000002) σ τ := fun q => h _ _ _ (fun Z hZ => by
      refine s_X12_order _ _ σ τ ?_
      rw [m1, all_mask m2]
      exact M_inY (by omega) (by omega) ⟨fun _ => M_in (fun a1 a2 => absurd ⟨a1, a2⟩ q) (fun _ => ⟨fun q => absurd rfl q, fun _ => hZ _ _ J⟩), fun q => absurd q one0⟩)
    refine s_X11_order _ _ σ τ (s_X6_allTroubles σ τ ?_)
    rw [c1, all_mask c2]
    refine ⟨fun _ => ⟨fun c => out (fun q => absurd c (Int32.not_lt.mpr q.1)), fun y1 => ⟨fun y2 => ?_, fun c => out (fun q => c q.2)⟩⟩, fun c => absurd (inA S hS) c⟩
    have hy : 0 ≤ y ∧ y ≤ 1 := ⟨fa_of_nlt y1, y2⟩
    refine S_allThatAre (v := 1) hC.1 (by decide) (S_allThatAre (v := 2) hC.1 (by decide) ?_)
    have mod : ∀ σ1, MI σ1 τ p A U X → ∀ Z : Int32 → zSg → zLm → Prop, (((nI S &&& ((nI (stN (isA A 1) (pm p)) ||| nI (stN (isA A 2) (pm p))) ^^^ (-1))) = 0 → ((¬ nI S = 0 → SI l D b M_X12_bits 0 G0 [.int (nI S)] σ1 τ (fun r9 σ9 τ9 => AI l D b M_X12_order 4 G0 Z 72 [(0, .ref (b + 125)), (1, .int (nI S)), (2, .int y), (3, .int r9), (4, .int 1), (5, .int 1), (6, .int 1)] [] G0 σ9 τ9)) ∧ (nI S = 0 → Z 0 σ1 τ))) ∧ (¬ (nI S &&& ((nI (stN (isA A 1) (pm p)) ||| nI (stN (isA A 2) (pm p))) ^^^ (-1))) = 0 → Z (-1000000003) σ1 τ)) → SI l D b M_X12_order 4 G0 [.ref (b + 125), .int (nI S), .int y] σ1 τ Z := by
      intro σ1 M1 Z hz
      refine s_X12_order _ _ σ1 τ ?_
      rw [(RM_m M1.1).1, all_mask m2]
      exact M_inY (by omega) (by omega) ⟨fun _ => M_in (fun a1 a2 => ⟨fun _ => M_are (v := 1) M1.1 (by decide) (M_are (v := 2) M1.1 (by decide) hz), fun q => absurd q one0⟩) (fun q => absurd hy q), fun q => absurd q one0⟩
    refine ⟨fun cc => ?_, fun cc => h _ _ _ (fun Z hZ => mod σ hM Z ⟨fun q => absurd q cc, fun _ => hZ _ _ J⟩)⟩
    rw [(RC_hr hC.1).1]
    refine S_find hC.1 hS (fun σ1 hb f1 => ?_)
    have C1 := hC.scr2 f1
    have M1 := hM.cong (σ' := σ1) (fun c a => f1 c (by omega) (by omega))
    have J1 : Iv σ1 τ := ⟨p, A, U, X, C1, M1⟩
    have hp6 : pcn S ≤ 6 := by
      have e := pcn25 (n := S) (by omega)
      rw [e, show (25 : Nat) = 6 + 19 from rfl, fb_ct_split]
      have e2 : fb_ct (fun k => S.testBit (6 + k)) 19 = 0 := fb_ct_zero.mpr (fun i _ => by
        cases q : S.testBit (6 + i)
        · rfl
        · have := bit_lt hS q; omega)
      have := fb_ct_le (fun i => S.testBit i) 6
      omega
    by_cases hS0 : S = 0
    · subst hS0
      have e : enm p A 0 (pcn 0) [] none = some (0, 0) := by rw [(pcn_z (by decide)).mpr rfl]; rfl
      rw [e] at hb
      obtain ⟨b1, b2, -, -⟩ := hb
      rw [b1, b2]
      have fin : Q (nI 0) σ1 τ := h _ _ _ (fun Z hZ => mod σ1 M1 Z ⟨fun _ => ⟨fun q => absurd rfl q, fun _ => hZ _ _ J1⟩, fun q => absurd cc q⟩)
      exact ⟨fun _ => fin, fun _ => fin⟩
    · have h1 : 1 ≤ pcn S := by
        rcases Nat.eq_zero_or_pos (pcn S) with e | e
        · exact absurd ((pcn_z (by omega)).mp e) hS0
        · exact e
      have nz : ¬ nI S = 0 := by rw [show (0 : Int32) = nI 0 from rfl, nI_eq (by omega) (by omega)]; exact hS0
      have fin : ∀ r, (∀ Z : Int32 → zSg → zLm → Prop, Z r σ1 τ → ∀ x6 x7, bM x6 x7 (enm p A S (pcn S) [] none) → (¬ x6 = -1 → ((¬ y = 0 → Z x6 σ1 τ) ∧ (y = 0 → Z x7 σ1 τ))) ∧ (x6 = -1 → Z (-1) σ1 τ)) → Q r σ1 τ := by
        intro r hr
        refine h _ _ _ (fun Z hZ => mod σ1 M1 Z ⟨fun _ => ⟨fun _ => S_bits (by omega) σ1 τ ?_, fun q => absurd q nz⟩, fun q => absurd cc q⟩)
        exact M_orders M1.1 hS hS0 h1 hp6 (hr Z (hZ _ _ J1))
      cases e : enm p A S (pcn S) [] none with
      | none =>
        rw [e] at hb fin
        obtain ⟨b1, b2⟩ := hb
        rw [b1, b2]
        have fi : Q (-1) σ1 τ := fin _ (fun Z hz x6 x7 hx => ⟨fun q => absurd hx.1 q, fun _ => hz⟩)
        exact ⟨fun _ => fi, fun _ => fi⟩
      | some v =>
        rw [e] at hb fin
        obtain ⟨b1, b2, b3, b4⟩ := hb
        rw [b1, b2]
        refine ⟨fun qy => fin _ (fun Z hz x6 x7 hx => ?_), fun qy => fin _ (fun Z hz x6 x7 hx => ?_)⟩
        · obtain ⟨e1, e2, -, -⟩ := hx
          rw [e1]
          exact ⟨fun _ => ⟨fun _ => hz, fun q => absurd q qy⟩, fun q => absurd q (nI_m1 b4)⟩
        · obtain ⟨e1, e2, -, -⟩ := hx
          rw [e1, e2]
          exact ⟨fun _ => ⟨fun q => absurd qy q, fun _ => hz⟩, fun q => absurd q (nI_m1 b4)⟩
  · have hno : ¬ (x &&& (nI (2 ^ pm p - 1) ^^^ (-1))) = 0 := by
      intro e
      obtain ⟨N, hN, rfl⟩ := nI_bits x
      rw [nI_neg1, fa_and] at e
      have e := nI_z (Nat.lt_of_le_of_lt Nat.and_le_left hN) e
      refine hx ⟨N, ?_, rfl⟩
      refine Nat.lt_pow_two_of_testBit N (fun i hi => ?_)
      cases hb : N.testBit i
      · rfl
      · have h1 : (N &&& ((2 ^ pm p - 1) ^^^ 4294967295)).testBit i = false := by rw [e]; exact Nat.zero_testBit i
        have hi32 : i < 32 := bit_lt hN hb
        rw [Nat.testBit_and, hb, Bool.true_and, neg1_bit hi32, Nat.testBit_two_pow_sub_one, decide_eq_false (by omega)] at h1
        cases h1
    refine s_X11_order _ _ σ τ (s_X6_allTroubles σ τ ?_)
    rw [c1, all_mask c2]
    refine ⟨fun c => absurd c hno, fun _ => h _ _ _ (fun Z hZ => s_X12_order _ _ σ τ ?_)⟩
    rw [m1, all_mask m2]
    refine M_in (fun a1 a2 => ?_) (fun _ => ⟨fun q => absurd rfl q, fun _ => hZ _ _ J⟩)
    exfalso
    obtain ⟨k, hk, rfl⟩ := nI_ge0 a1
    rw [nI_leI hk (by omega)] at a2
    exact hx ⟨k, by omega, rfl⟩
end ORDER
