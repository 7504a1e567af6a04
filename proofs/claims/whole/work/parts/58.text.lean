/-! THE TEXT: blanks, numbers, signs. -/
def ltr (T : Tx) (a : Nat) : Int32 := if a < T.1 then nI (T.2 a) else -1
def skF (T : Tx) : Nat → Nat → Nat
  | 0, a => a
  | d + 1, a => if a < T.1 ∧ T.2 a = 32 then skF T d (a + 1) else a
def sk (T : Tx) (a : Nat) : Nat := skF T (T.1 - a) a
theorem sk_step {T : Tx} {a : Nat} (h1 : a < T.1) (h2 : T.2 a = 32) : sk T a = sk T (a + 1) := by
  unfold sk
  rw [show T.1 - a = (T.1 - (a + 1)) + 1 by omega, skF, if_pos ⟨h1, h2⟩]
theorem sk_stop {T : Tx} {a : Nat} (h : ¬ (a < T.1 ∧ T.2 a = 32)) : sk T a = a := by
  unfold sk
  cases e : T.1 - a with
  | zero => rfl
  | succ d => rw [skF, if_neg h]
/-- by how much is left -/
theorem tx_ind {T : Tx} {P : Nat → Prop} (h : ∀ a, (a < T.1 → P (a + 1)) → P a) : ∀ a, P a := by
  have key : ∀ d a, T.1 - a ≤ d → P a := by
    intro d
    induction d with
    | zero => intro a ha; exact h a (fun q => by omega)
    | succ d ih => intro a ha; exact h a (fun q => ih (a + 1) (by omega))
  intro a
  exact key _ a (Nat.le_refl _)
theorem sk_rng {T : Tx} : ∀ a, a ≤ sk T a ∧ (a ≤ T.1 → sk T a ≤ T.1) ∧ ¬ (sk T a < T.1 ∧ T.2 (sk T a) = 32) := by
  refine tx_ind (T := T) (fun a ih => ?_)
  by_cases h : a < T.1 ∧ T.2 a = 32
  · rw [sk_step h.1 h.2]
    obtain ⟨i1, i2, i3⟩ := ih h.1
    exact ⟨by omega, fun _ => i2 (by omega), i3⟩
  · rw [sk_stop h]
    exact ⟨Nat.le_refl _, fun q => q, h⟩
theorem sk_sk {T : Tx} (a : Nat) : sk T (sk T a) = sk T a := sk_stop (sk_rng a).2.2
def isF (T : Tx) (a : Nat) : Bool := decide (a < T.1) && (decide (48 ≤ T.2 a) && decide (T.2 a ≤ 57))
def feF (T : Tx) : Nat → Nat → Nat
  | 0, a => a
  | d + 1, a => if isF T a then feF T d (a + 1) else a
def fe (T : Tx) (a : Nat) : Nat := feF T (T.1 - a) a
theorem isF_lt {T : Tx} {a : Nat} (h : isF T a = true) : a < T.1 ∧ 48 ≤ T.2 a ∧ T.2 a ≤ 57 := by
  unfold isF at h
  rw [Bool.and_eq_true, Bool.and_eq_true, decide_eq_true_eq, decide_eq_true_eq, decide_eq_true_eq] at h
  exact h
theorem fe_step {T : Tx} {a : Nat} (h : isF T a = true) : fe T a = fe T (a + 1) := by
  unfold fe
  have := (isF_lt h).1
  rw [show T.1 - a = (T.1 - (a + 1)) + 1 by omega, feF, if_pos h]
theorem fe_stop {T : Tx} {a : Nat} (h : ¬ isF T a = true) : fe T a = a := by
  unfold fe
  cases e : T.1 - a with
  | zero => rfl
  | succ d => rw [feF, if_neg h]
theorem fe_rng {T : Tx} : ∀ a, a ≤ fe T a ∧ (a ≤ T.1 → fe T a ≤ T.1) ∧ ¬ isF T (fe T a) = true ∧ ∀ k, a ≤ k → k < fe T a → isF T k = true := by
  refine tx_ind (T := T) (fun a ih => ?_)
  by_cases h : isF T a = true
  · have hlt := (isF_lt h).1
    rw [fe_step h]
    obtain ⟨i1, i2, i3, i4⟩ := ih hlt
    refine ⟨by omega, fun _ => i2 (by omega), i3, fun k k1 k2 => ?_⟩
    rcases (show k = a ∨ a + 1 ≤ k by omega) with rfl | q
    · exact h
    · exact i4 k q k2
  · rw [fe_stop h]
    exact ⟨Nat.le_refl _, fun q => q, h, fun k k1 k2 => by omega⟩
def vC (T : Tx) (s : Nat) : Nat → Nat
  | 0 => 0
  | k + 1 => min (vC T s k * 10 + (T.2 (s + k) - 48)) 1000
def vM (T : Tx) (s : Nat) : Nat → Nat
  | 0 => 0
  | k + 1 => if 999 < vM T s k then vM T s k else 10 * vM T s k + (T.2 (s + k) - 48)
theorem vC_le (T : Tx) (s : Nat) : ∀ k, vC T s k ≤ 1000
  | 0 => Nat.zero_le _
  | k + 1 => Nat.min_le_right _ _
theorem vM_le {T : Tx} {s : Nat} : ∀ k, (∀ q, q < k → isF T (s + q) = true) → vM T s k ≤ 9999
  | 0, _ => Nat.zero_le _
  | k + 1, h => by
    have hf := isF_lt (h k (by omega))
    have ih := vM_le k (fun q hq => h q (by omega))
    rw [vM]
    split
    · exact ih
    · omega
theorem vCM {T : Tx} {s k : Nat} (hk : k ≤ 3) (h : ∀ q, q < k → isF T (s + q) = true) : vC T s k = vM T s k := by
  have l : ∀ k, k ≤ 3 → (∀ q, q < k → isF T (s + q) = true) → vM T s k < 10 ^ k ∧ vC T s k = vM T s k := by
    intro k
    induction k with
    | zero => intro _ _; exact ⟨by show 0 < 10 ^ 0; decide, rfl⟩
    | succ k ih =>
      intro hk h
      obtain ⟨i1, i2⟩ := ih (by omega) (fun q hq => h q (by omega))
      have hf := isF_lt (h k (by omega))
      have hp : 10 ^ k ≤ 10 ^ 2 := Nat.pow_le_pow_right (by decide) (by omega)
      rw [vC, vM, if_neg (by omega), i2, Nat.pow_succ]
      refine ⟨by omega, ?_⟩
      rw [Nat.mul_comm 10]
      exact Nat.min_eq_left (by omega)
  exact (l k hk h).2
abbrev Er : Type := Nat × Nat
def pN (T : Tx) (lo hi a : Nat) : Except Er (Nat × Nat) :=
  if isF T (sk T a) then (if fe T (sk T a) - sk T a ≤ 3 ∧ lo ≤ vM T (sk T a) (fe T (sk T a) - sk T a) ∧ vM T (sk T a) (fe T (sk T a) - sk T a) ≤ hi then .ok (vM T (sk T a) (fe T (sk T a) - sk T a), fe T (sk T a)) else .error (2, sk T a)) else .error (1, sk T a)
def pS (T : Tx) (sg a : Nat) : Except Er Nat := if sk T a < T.1 ∧ T.2 (sk T a) = sg then .ok (sk T a + 1) else .error (1, sk T a)
theorem pN_ok {T : Tx} {lo hi a v e : Nat} (ha : a ≤ T.1) (h : pN T lo hi a = .ok (v, e)) : lo ≤ v ∧ v ≤ hi ∧ a < e ∧ e ≤ T.1 := by
  unfold pN at h
  split at h
  · rename_i hf
    split at h
    · rename_i hc
      injection h with h
      injection h with h1 h2
      subst h1 h2
      have r1 := sk_rng (T := T) a
      have r2 := fe_rng (T := T) (sk T a)
      rw [fe_step hf]
      have r3 := fe_rng (T := T) (sk T a + 1)
      have := isF_lt hf
      rw [fe_step hf] at hc
      exact ⟨hc.2.1, hc.2.2, by omega, r3.2.1 (by omega)⟩
    · cases h
  · cases h
theorem pS_ok {T : Tx} {sg a e : Nat} (ha : a ≤ T.1) (h : pS T sg a = .ok e) : a < e ∧ e ≤ T.1 := by
  unfold pS at h
  split at h
  · rename_i hc
    injection h with h
    have r1 := sk_rng (T := T) a
    omega
  · cases h
theorem pN_er {T : Tx} {lo hi a : Nat} {q : Er} (ha : a ≤ T.1) (h : pN T lo hi a = .error q) : 1 ≤ q.1 ∧ q.1 ≤ 3 ∧ q.2 ≤ T.1 := by
  have r1 := (sk_rng (T := T) a).2.1 ha
  unfold pN at h
  split at h
  · split at h
    · cases h
    · injection h with h; subst h; exact ⟨by show 1 ≤ 2; decide, by show 2 ≤ 3; decide, r1⟩
  · injection h with h; subst h; exact ⟨by show 1 ≤ 1; decide, by show 1 ≤ 3; decide, r1⟩
theorem pS_er {T : Tx} {sg a : Nat} {q : Er} (ha : a ≤ T.1) (h : pS T sg a = .error q) : 1 ≤ q.1 ∧ q.1 ≤ 3 ∧ q.2 ≤ T.1 := by
  have r1 := (sk_rng (T := T) a).2.1 ha
  unfold pS at h
  split at h
  · cases h
  · injection h with h; subst h; exact ⟨by show 1 ≤ 1; decide, by show 1 ≤ 3; decide, r1⟩
theorem st2_two {α : Type} (f : Nat → Nat → α) (c j : Nat) (v w : α) : st2 (st2 f c j v) c j w = st2 f c j w := by
  funext q i
  by_cases h : q = c
  · subst h
    by_cases h2 : i = j
    · subst h2; rw [st2_same, st2_same]
    · rw [st2_slot _ _ h2, st2_slot _ _ h2, st2_slot _ _ h2]
  · rw [st2_cell _ _ h, st2_cell _ _ h, st2_cell _ _ h]
/-- the class reads the text at a -/
def RdC (σ : zSg) (T : Tx) (a : Nat) : Prop := okT T ∧ σ 1 1 = nI T.1 ∧ (∀ k, k < T.1 → σ 2 k = nI (T.2 k)) ∧ σ 1 3 = nI a ∧ a ≤ T.1
def Rk (σ : zSg) (T : Tx) (a : Nat) : Prop := RdC σ T a ∧ σ 1 4 = 0 ∧ σ 1 2 = -1
def Bq (σ : zSg) (T : Tx) (q : Er) : Prop := (∃ e, RdC σ T e) ∧ σ 1 4 = nI q.1 ∧ σ 1 2 = nI q.2 ∧ 1 ≤ q.1 ∧ q.1 ≤ 3
def frn (σ σ' : zSg) : Prop := (∀ c, c ≠ 1 → σ' c = σ c) ∧ ∀ j, j ≠ 2 → j ≠ 3 → j ≠ 4 → σ' 1 j = σ 1 j
theorem frn.refl (σ : zSg) : frn σ σ := ⟨fun _ _ => rfl, fun _ _ _ _ => rfl⟩
theorem frn.trans {a c d : zSg} (h : frn a c) (h2 : frn c d) : frn a d := ⟨fun q a1 => (h2.1 q a1).trans (h.1 q a1), fun j a1 a2 a3 => (h2.2 j a1 a2 a3).trans (h.2 j a1 a2 a3)⟩
theorem RdC.mv {σ : zSg} {T : Tx} {a e : Nat} (h : RdC σ T a) (he : e ≤ T.1) : RdC (st2 σ 1 3 (nI e)) T e := ⟨h.1, by rw [st2_slot _ _ (by decide)]; exact h.2.1, fun k hk => by rw [st2_cell _ _ (by decide)]; exact h.2.2.1 k hk, st2_same _ _ _ _, he⟩
theorem Rk.mv {σ : zSg} {T : Tx} {a e : Nat} (h : Rk σ T a) (he : e ≤ T.1) : Rk (st2 σ 1 3 (nI e)) T e := ⟨h.1.mv he, by rw [st2_slot _ _ (by decide)]; exact h.2.1, by rw [st2_slot _ _ (by decide)]; exact h.2.2⟩
theorem Bq.mv {σ : zSg} {T : Tx} {q : Er} {e : Nat} (h : Bq σ T q) (he : e ≤ T.1) : Bq (st2 σ 1 3 (nI e)) T q := by
  obtain ⟨⟨a, h1⟩, h2, h3, h4⟩ := h
  exact ⟨⟨e, h1.mv he⟩, by rw [st2_slot _ _ (by decide)]; exact h2, by rw [st2_slot _ _ (by decide)]; exact h3, h4⟩
theorem frn.mv (σ : zSg) (v : Int32) : frn σ (st2 σ 1 3 v) := ⟨fun c a => st2_cell _ _ a, fun j a1 a2 a3 => st2_slot _ _ a2⟩
theorem Rk.bl {σ : zSg} {T : Tx} {a : Nat} {q : Er} (h : Rk σ T a) (h1 : 1 ≤ q.1) (h3 : q.1 ≤ 3) : Bq (st2 (st2 σ 1 4 (nI q.1)) 1 2 (nI q.2)) T q := by
  refine ⟨⟨a, h.1.1, ?_, fun k hk => ?_, ?_, h.1.2.2.2.2⟩, ?_, ?_, h1, h3⟩
  · rw [st2_slot _ _ (by decide), st2_slot _ _ (by decide)]; exact h.1.2.1
  · rw [st2_cell _ _ (by decide), st2_cell _ _ (by decide)]; exact h.1.2.2.1 k hk
  · rw [st2_slot _ _ (by decide), st2_slot _ _ (by decide)]; exact h.1.2.2.2.1
  · rw [st2_slot _ _ (by decide), st2_same]
  · rw [st2_same]
theorem frn.bl (σ : zSg) (v w : Int32) : frn σ (st2 (st2 σ 1 4 v) 1 2 w) := ⟨fun c a => by rw [st2_cell _ _ a, st2_cell _ _ a], fun j a1 a2 a3 => by rw [st2_slot _ _ a1, st2_slot _ _ a3]⟩
/-- the reference reads the text at a -/
def RdM (σ : zSg) (T : Tx) (a : Nat) : Prop := okT T ∧ σ 125 0 = nI T.1 ∧ (∀ k, k < T.1 → σ 126 k = nI (T.2 k)) ∧ σ 125 2 = nI a ∧ a ≤ T.1
def frN (σ σ' : zSg) : Prop := (∀ c, c ≠ 125 → σ' c = σ c) ∧ ∀ j, j ≠ 2 → j ≠ 3 → j ≠ 4 → σ' 125 j = σ 125 j
theorem frN.refl (σ : zSg) : frN σ σ := ⟨fun _ _ => rfl, fun _ _ _ _ => rfl⟩
theorem frN.trans {a c d : zSg} (h : frN a c) (h2 : frN c d) : frN a d := ⟨fun q a1 => (h2.1 q a1).trans (h.1 q a1), fun j a1 a2 a3 => (h2.2 j a1 a2 a3).trans (h.2 j a1 a2 a3)⟩
theorem RdM.mv {σ : zSg} {T : Tx} {a e : Nat} (h : RdM σ T a) (he : e ≤ T.1) : RdM (st2 σ 125 2 (nI e)) T e := ⟨h.1, by rw [st2_slot _ _ (by decide)]; exact h.2.1, fun k hk => by rw [st2_cell _ _ (by decide)]; exact h.2.2.1 k hk, st2_same _ _ _ _, he⟩
theorem frN.mv (σ : zSg) (v : Int32) : frN σ (st2 σ 125 2 v) := ⟨fun c a => st2_cell _ _ a, fun j a1 a2 a3 => st2_slot _ _ a1⟩
def Mq (σ : zSg) (q : Er) : Prop := σ 125 4 = nI q.1 ∧ σ 125 2 = nI q.2
section TEXT
variable {l : Launch} {D : zDD} {b : Nat} {γ : zGm} {σ : zSg} {τ : zLm} {T : Tx} {Q : Int32 → zSg → zLm → Prop} {G : zSg → zLm → Prop}
theorem S_here {a : Nat} (R : RdC σ T a) (h : Q (ltr T a) σ τ) : SI l D b M_X7_here 0 G0 [.ref (b + 1)] σ τ Q := by
  obtain ⟨o, e1, e2, e3, ha⟩ := R
  have hn := o.1
  refine s_X7_here σ τ ?_
  rw [e1, e3, nI_leI (by omega) (by omega)]
  unfold ltr at h
  refine ⟨fun q => absurd q (nI_pos (by omega)), fun _ => ⟨fun q => ?_, fun q => ?_⟩⟩
  · rw [if_neg (by omega)] at h; exact h
  · rw [if_pos (by omega)] at h
    rw [nI_c (by omega), e2 a (by omega)]
    exact ⟨vp_in_t (by omega) (by decide), h⟩
theorem ltr_32 {a : Nat} (o : okT T) : ltr T a = 32 ↔ a < T.1 ∧ T.2 a = 32 := by
  unfold ltr
  by_cases h : a < T.1
  · have := o.2 a h
    rw [if_pos h, show (32 : Int32) = nI 32 from rfl, nI_eq (by omega) (by decide)]
    exact ⟨fun q => ⟨h, q⟩, fun q => q.2⟩
  · rw [if_neg h]
    exact ⟨fun q => absurd q (by decide), fun q => absurd q.1 h⟩
theorem ltr_eq {a s : Nat} (o : okT T) (hs : s < 256) : ltr T a = nI s ↔ a < T.1 ∧ T.2 a = s := by
  unfold ltr
  by_cases h : a < T.1
  · have := o.2 a h
    rw [if_pos h, nI_eq (by omega) (by omega)]
    exact ⟨fun q => ⟨h, q⟩, fun q => q.2⟩
  · rw [if_neg h]
    exact ⟨fun q => absurd q.symm (nI_m1 (by omega)), fun q => absurd q.1 h⟩
theorem S_skip {a : Nat} (R : RdC σ T a) (h : G (st2 σ 1 3 (nI (sk T a))) τ) : SV l D b M_X7_skipBlanks 1 G0 [.ref (b + 1)] σ τ G := by
  refine s_X7_skipBlanks σ τ ?_
  rw [R.2.2.2.1]
  suffices H : ∀ a, ∀ σ, RdC σ T a → G (st2 σ 1 3 (nI (sk T a))) τ → AV l D b M_X7_skipBlanks 1 G0 G 5 [(0, .ref (b + 1)), (1, .int (nI a))] [] G0 σ τ from H a σ R h
  refine tx_ind (T := T) (fun a ih σ R h => ?_)
  have hn := R.1.1
  have stop : ¬ (a < T.1 ∧ T.2 a = 32) → G σ τ := fun q => by
    rw [sk_stop q, ← R.2.2.2.1, st2_id] at h; exact h
  refine w_X7_skipBlanks_5 _ σ τ ⟨fun c => stop ?_, fun c => S_here R ⟨fun q => stop ?_, fun q => ?_⟩⟩
  · rw [R.2.1, nI_leI (by omega) (by have := R.2.2.2.2; omega)] at c
    omega
  · exact fun q2 => q ((ltr_32 R.1).mpr q2)
  · have q := (ltr_32 R.1).mp q
    rw [R.2.2.2.1, nI_1]
    refine ih q.1 _ (R.mv (by omega)) ?_
    rw [st2_two, ← sk_step q.1 q.2]
    exact h
theorem S_fig {a : Nat} (o : okT T) (h : Q (bI (isF T a)) σ τ) : SI l D b M_X7_isFigure 0 γ [.int (ltr T a)] σ τ Q := by
  refine s_X7_isFigure _ σ τ ?_
  unfold ltr
  unfold isF at h
  by_cases ha : a < T.1
  · have := o.2 a ha
    rw [decide_eq_true ha, Bool.true_and] at h
    rw [if_pos ha, show (48 : Int32) = nI 48 from rfl, show (57 : Int32) = nI 57 from rfl, nI_ltI (by omega) (by omega), nI_ltI (by omega) (by omega)]
    refine ⟨fun c => ?_, fun c => ⟨fun c2 => ?_, fun c2 => ?_⟩⟩
    · rw [decide_eq_false (p := 48 ≤ T.2 a) (by omega)] at h; exact h
    · rw [decide_eq_false (p := T.2 a ≤ 57) (by omega), Bool.and_false] at h; exact h
    · rw [decide_eq_true (p := 48 ≤ T.2 a) (by omega), decide_eq_true (p := T.2 a ≤ 57) (by omega)] at h; exact h
  · rw [decide_eq_false ha, Bool.false_and] at h
    rw [if_neg ha]
    exact ⟨fun _ => h, fun c => absurd (by decide) c⟩
/-- a number read, whatever the mode -/
theorem S_numAny {a lo hi : Nat} (R : RdC σ T a) (hlo : lo < 2 ^ 31) (hhi : hi < 2 ^ 31) (hok : ∀ v e, pN T lo hi a = .ok (v, e) → Q (nI v) (st2 σ 1 3 (nI e)) τ) (hbad : ∀ q e, pN T lo hi a = .error q → e ≤ T.1 → SV l D b M_X7_blame 0 G0 [.ref (b + 1), .int (nI q.1), .int (nI q.2)] (st2 σ 1 3 (nI e)) τ (fun σ1 τ1 => Q 0 σ1 τ1)) : SI l D b M_X7_readNumber 2 G0 [.ref (b + 1), .int (nI lo), .int (nI hi)] σ τ Q := by
  have hn := R.1.1
  have r1 := sk_rng (T := T) a
  have hs := r1.2.1 R.2.2.2.2
  unfold pN at hok hbad
  generalize hss : sk T a = s at *
  refine s_X7_readNumber _ _ σ τ (S_skip R ?_)
  rw [hss]
  have R1 := R.mv hs
  refine S_here R1 (S_fig R.1 ⟨fun c => ?_, fun c => ?_⟩)
  · have c := (bI_n0 _).mp c
    rw [if_pos c] at hok hbad
    rw [R1.2.2.2.1]
    obtain ⟨f1, f2, f3, f4⟩ := fe_rng (T := T) s
    have f2 := f2 hs
    have key := lp_up (P := fun k => ∀ σ', RdC σ' T (s + k) → st2 σ' 1 3 (nI (fe T s)) = st2 σ 1 3 (nI (fe T s)) → AI l D b M_X7_readNumber 2 G0 Q 36 [(0, .ref (b + 1)), (1, .int (nI lo)), (2, .int (nI hi)), (3, .int (nI s)), (4, .int (nI (vC T s k))), (5, .int (nI (s + k)))] [] G0 σ' τ) (n := fe T s - s) ?_ ?_ 0 (Nat.zero_le _)
    · exact key _ R1 (by rw [st2_two])
    · intro k hk ih σ' R' es
      have hf := f4 (s + k) (by omega) (by omega)
      obtain ⟨g1, g2, g3⟩ := isF_lt hf
      have hv := vC_le T s k
      refine w_X7_readNumber_36 _ _ _ _ _ σ' τ ⟨fun q => ?_, fun _ => S_here R' (S_fig R'.1 ⟨fun q => ?_, fun _ => S_here R' (fun v ev => ?_)⟩)⟩
      · rw [R'.2.1, nI_leI (by omega) (by omega)] at q; omega
      · rw [bI_0, hf] at q; cases q
      · have el : ltr T (s + k) = nI (T.2 (s + k)) := by unfold ltr; rw [if_pos g1]
        rw [el, show (10 : Int32) = nI 10 from rfl, pk_mul, nI_add, show (48 : Int32) = nI 48 from rfl, pk_sub (by omega), show (1000 : Int32) = nI 1000 from rfl, mn_nI (by omega) (by omega), show vC T s k * 10 + T.2 (s + k) - 48 = vC T s k * 10 + (T.2 (s + k) - 48) by omega] at ev
        rw [ev, R'.2.2.2.1, nI_1, show s + k + 1 = s + (k + 1) by omega]
        exact ih _ (R'.mv (by omega)) (by rw [st2_two]; exact es)
    · intro σ' R' es
      rw [show s + (fe T s - s) = fe T s by omega] at *
      have es2 : σ' = st2 σ 1 3 (nI (fe T s)) := by rw [← es, ← R'.2.2.2.1, st2_id]
      have hv := vC_le T s (fe T s - s)
      have f92 : AI l D b M_X7_readNumber 2 G0 Q 92 [(0, .ref (b + 1)), (1, .int (nI lo)), (2, .int (nI hi)), (3, .int (nI s)), (4, .int (nI (vC T s (fe T s - s))))] [] G0 σ' τ := by
        have bad : ¬ (fe T s - s ≤ 3 ∧ lo ≤ vM T s (fe T s - s) ∧ vM T s (fe T s - s) ≤ hi) → AI l D b M_X7_readNumber 2 G0 Q 114 [(0, .ref (b + 1)), (3, .int (nI s))] [] G0 σ' τ := by
          intro hc
          rw [if_neg hc] at hbad
          refine w_X7_readNumber_114 _ σ' τ ?_
          rw [es2]
          exact hbad (2, s) (fe T s) rfl f2
        refine w_X7_readNumber_92 _ _ _ _ σ' τ ?_
        rw [R'.2.2.2.1, pk_sub f1, show (3 : Int32) = nI 3 from rfl, nI_ltI (by omega) (by omega), nI_ltI (by omega) (by omega), nI_leI (by omega) (by omega)]
        refine ⟨fun q => bad (fun q2 => by omega), fun q => ?_⟩
        have eCM := vCM (T := T) (s := s) (k := fe T s - s) (by omega) (fun q hq => f4 (s + q) (by omega) (by omega))
        rw [eCM]
        refine ⟨fun q2 => bad (fun q3 => by omega), fun q2 => ⟨fun q3 => ?_, fun q3 => bad (fun q4 => q3 q4.2.2)⟩⟩
        rw [if_pos ⟨by omega, by omega, q3⟩] at hok
        rw [es2]
        exact hok _ _ rfl
      refine w_X7_readNumber_36 _ _ _ _ _ σ' τ ⟨fun _ => f92, fun q => S_here R' (S_fig R'.1 ⟨fun _ => f92, fun q => absurd ((bI_n0 _).mp q) f3⟩)⟩
  · have c := (bI_0 _).mp c
    rw [if_neg (by rw [c]; decide)] at hbad
    rw [R1.2.2.2.1]
    exact hbad (1, s) s rfl hs
theorem S_num {a lo hi : Nat} (R : Rk σ T a) (hlo : lo < 2 ^ 31) (hhi : hi < 2 ^ 31) (hok : ∀ v e σ', pN T lo hi a = .ok (v, e) → Rk σ' T e → frn σ σ' → Q (nI v) σ' τ) (hbad : ∀ q σ', pN T lo hi a = .error q → Bq σ' T q → frn σ σ' → Q 0 σ' τ) : SI l D b M_X7_readNumber 2 G0 [.ref (b + 1), .int (nI lo), .int (nI hi)] σ τ Q := by
  refine S_numAny R.1 hlo hhi (fun v e he => hok v e _ he (R.mv (pN_ok R.1.2.2.2.2 he).2.2.2) (frn.mv σ _)) (fun q e he hle => ?_)
  have hq := pN_er R.1.2.2.2.2 he
  have R2 := R.mv hle
  refine s_X7_blame _ _ _ τ ⟨fun c => absurd R2.2.1 c, fun _ => hbad q _ he (R2.bl hq.1 hq.2.1) ((frn.mv σ _).trans (frn.bl _ _ _))⟩
theorem Bq.ne {q : Er} (h : Bq σ T q) : ¬ σ 1 4 = 0 := by
  rw [h.2.1]
  exact nI_ne0 h.2.2.2.1 (by have := h.2.2.2.2; omega)
theorem G_num {lo hi : Nat} {q : Er} (B : Bq σ T q) (hlo : lo < 2 ^ 31) (hhi : hi < 2 ^ 31) (h : ∀ r σ', Bq σ' T q → frn σ σ' → Q r σ' τ) : SI l D b M_X7_readNumber 2 G0 [.ref (b + 1), .int (nI lo), .int (nI hi)] σ τ Q := by
  obtain ⟨a, R⟩ := B.1
  refine S_numAny R hlo hhi (fun v e he => h _ _ (B.mv (pN_ok R.2.2.2.2 he).2.2.2) (frn.mv σ _)) (fun q2 e he hle => ?_)
  exact s_X7_blame _ _ _ τ ⟨fun _ => h _ _ (B.mv hle) (frn.mv σ _), fun c => absurd c (B.mv hle).ne⟩
theorem S_sgnAny {a s : Nat} (R : RdC σ T a) (hs : s < 256) (hok : ∀ e, pS T s a = .ok e → G (st2 σ 1 3 (nI e)) τ) (hbad : ∀ q, pS T s a = .error q → q.2 ≤ T.1 → SV l D b M_X7_blame 0 G0 [.ref (b + 1), .int (nI q.1), .int (nI q.2)] (st2 σ 1 3 (nI q.2)) τ G) : SV l D b M_X7_readSign 2 G0 [.ref (b + 1), .int (nI s)] σ τ G := by
  have hsk := (sk_rng (T := T) a).2.1 R.2.2.2.2
  have hn := R.1.1
  have R1 := R.mv hsk
  unfold pS at hok hbad
  refine s_X7_readSign _ σ τ (S_skip R (S_here R1 ⟨fun q => ?_, fun q => ?_⟩))
  · rw [ltr_eq R.1 hs] at q
    rw [if_neg q] at hbad
    rw [R1.2.2.2.1]
    exact hbad (1, sk T a) rfl hsk
  · rw [ltr_eq R.1 hs] at q
    rw [if_pos q] at hok
    rw [R1.2.2.2.1, nI_1, st2_two]
    exact hok _ rfl
theorem S_sgn {a s : Nat} (R : Rk σ T a) (hs : s < 256) (hok : ∀ e σ', pS T s a = .ok e → Rk σ' T e → frn σ σ' → G σ' τ) (hbad : ∀ q σ', pS T s a = .error q → Bq σ' T q → frn σ σ' → G σ' τ) : SV l D b M_X7_readSign 2 G0 [.ref (b + 1), .int (nI s)] σ τ G := by
  refine S_sgnAny R.1 hs (fun e he => hok e _ he (R.mv (pS_ok R.1.2.2.2.2 he).2) (frn.mv σ _)) (fun q he hle => ?_)
  have hq := pS_er R.1.2.2.2.2 he
  have R2 := R.mv hle
  refine s_X7_blame _ _ _ τ ⟨fun c => absurd R2.2.1 c, fun _ => hbad q _ he (R2.bl hq.1 hq.2.1) ((frn.mv σ _).trans (frn.bl _ _ _))⟩
theorem G_sgn {s : Nat} {q : Er} (B : Bq σ T q) (hs : s < 256) (h : ∀ σ', Bq σ' T q → frn σ σ' → G σ' τ) : SV l D b M_X7_readSign 2 G0 [.ref (b + 1), .int (nI s)] σ τ G := by
  obtain ⟨a, R⟩ := B.1
  refine S_sgnAny R hs (fun e he => h _ (B.mv (pS_ok R.2.2.2.2 he).2) (frn.mv σ _)) (fun q2 he hle => ?_)
  exact s_X7_blame _ _ _ τ ⟨fun _ => h _ (B.mv hle) (frn.mv σ _), fun c => absurd c (B.mv hle).ne⟩
theorem M_letterAt {a : Nat} (R : RdM σ T a) (h : Q (ltr T a) σ τ) : SI l D b M_X12_letterAt 0 G0 [.ref (b + 125), .int (nI a)] σ τ Q := by
  obtain ⟨o, e1, e2, e3, ha⟩ := R
  have hn := o.1
  refine s_X12_letterAt _ σ τ ?_
  rw [e1, nI_leI (by omega) (by omega)]
  unfold ltr at h
  refine ⟨fun q => ?_, fun q => ?_⟩
  · rw [if_neg (by omega)] at h; exact h
  · rw [if_pos (by omega)] at h
    rw [nI_c (by omega), e2 a (by omega)]
    exact ⟨vp_in_t (by omega) (by decide), h⟩
theorem M_nextL {a : Nat} (R : RdM σ T a) (h : Q (ltr T (sk T a)) (st2 σ 125 2 (nI (sk T a))) τ) : SI l D b M_X12_nextLetter 1 G0 [.ref (b + 125)] σ τ Q := by
  refine s_X12_nextLetter σ τ ?_
  suffices H : ∀ a, ∀ σ, RdM σ T a → Q (ltr T (sk T a)) (st2 σ 125 2 (nI (sk T a))) τ → AI l D b M_X12_nextLetter 1 G0 Q 0 [(0, .ref (b + 125))] [] G0 σ τ from H a σ R h
  refine tx_ind (T := T) (fun a ih σ R h => ?_)
  refine w_X12_nextLetter_0 σ τ ?_
  rw [R.2.2.2.1]
  refine M_letterAt R ⟨fun q => ?_, fun q => ?_⟩
  · rw [R.2.2.2.1]
    rw [ltr_32 R.1] at q
    refine M_letterAt R ?_
    rw [sk_stop q, ← R.2.2.2.1, st2_id] at h
    exact h
  · have q := (ltr_32 R.1).mp q
    rw [R.2.2.2.1, nI_1]
    refine ih q.1 _ (R.mv (by omega)) ?_
    rw [st2_two, ← sk_step q.1 q.2]
    exact h
theorem M_fails {n pl : Nat} (h : Q (-1) (st2 (st2 σ 125 4 (nI n)) 125 2 (nI pl)) τ) : SI l D b M_X12_fails 0 G0 [.ref (b + 125), .int (nI n), .int (nI pl)] σ τ Q := s_X12_fails _ _ σ τ h
theorem Mq.mk (σ : zSg) (q : Er) : Mq (st2 (st2 σ 125 4 (nI q.1)) 125 2 (nI q.2)) q := ⟨by rw [st2_slot _ _ (by decide), st2_same], st2_same _ _ _ _⟩
theorem frN.bl (σ : zSg) (v w : Int32) : frN σ (st2 (st2 σ 125 4 v) 125 2 w) := ⟨fun c a => by rw [st2_cell _ _ a, st2_cell _ _ a], fun j a1 a2 a3 => by rw [st2_slot _ _ a1, st2_slot _ _ a3]⟩
theorem M_fig {a : Nat} (o : okT T) (h : Q (bI (isF T a)) σ τ) : SI l D b M_X12_in 0 γ [.int (ltr T a), .int 48, .int 57] σ τ Q := by
  unfold ltr
  unfold isF at h
  by_cases ha : a < T.1
  · have := o.2 a ha
    rw [decide_eq_true ha, Bool.true_and] at h
    rw [if_pos ha]
    refine M_in (fun c1 c2 => ?_) (fun c => ?_)
    · rw [show (48 : Int32) = nI 48 from rfl, nI_leI (by omega) (by omega)] at c1
      rw [show (57 : Int32) = nI 57 from rfl, nI_leI (by omega) (by omega)] at c2
      rw [decide_eq_true c1, decide_eq_true c2] at h; exact h
    · rw [show (48 : Int32) = nI 48 from rfl, show (57 : Int32) = nI 57 from rfl, nI_leI (by omega) (by omega), nI_leI (by omega) (by omega)] at c
      have e : (decide (48 ≤ T.2 a) && decide (T.2 a ≤ 57)) = false := by
        rw [Bool.and_eq_false_iff]
        by_cases q : 48 ≤ T.2 a
        · exact Or.inr (decide_eq_false (by omega))
        · exact Or.inl (decide_eq_false q)
      rw [e] at h; exact h
  · rw [decide_eq_false ha, Bool.false_and] at h
    rw [if_neg ha]
    exact M_in (fun c1 _ => absurd c1 (by decide)) (fun _ => h)
theorem M_num {a lo hi : Nat} (R : RdM σ T a) (hlo : lo < 2 ^ 31) (hhi : hi < 2 ^ 31) (hok : ∀ v e σ', pN T lo hi a = .ok (v, e) → RdM σ' T e → frN σ σ' → Q (nI v) σ' τ) (hbad : ∀ q σ', pN T lo hi a = .error q → Mq σ' q → frN σ σ' → Q (-1) σ' τ) : SI l D b M_X12_readsNumber 2 G0 [.ref (b + 125), .int (nI lo), .int (nI hi)] σ τ Q := by
  have hn := R.1.1
  have r1 := sk_rng (T := T) a
  have hs := r1.2.1 R.2.2.2.2
  unfold pN at hok hbad
  generalize hss : sk T a = s at *
  refine s_X12_readsNumber _ _ σ τ (M_nextL R ?_)
  rw [hss]
  have R1 := R.mv hs
  have F1 := frN.mv σ (nI s)
  generalize st2 σ 125 2 (nI s) = σ1 at *
  refine M_fig R.1 ⟨fun c => ?_, fun c => ?_⟩
  · have c := (bI_n0 _).mp c
    rw [if_pos c] at hok hbad
    rw [R1.2.2.2.1]
    obtain ⟨f1, f2, f3, f4⟩ := fe_rng (T := T) s
    have f2 := f2 hs
    have key := lp_up (P := fun k => ∀ σ', RdM σ' T (s + k) → frN σ σ' → σ' 125 3 = nI s → AI l D b M_X12_readsNumber 2 G0 Q 34 [(0, .ref (b + 125)), (1, .int (nI lo)), (2, .int (nI hi)), (3, .int (nI (vM T s k)))] [] G0 σ' τ) (n := fe T s - s) ?_ ?_ 0 (Nat.zero_le _)
    · refine key _ ⟨R1.1, by rw [st2_slot _ _ (by decide)]; exact R1.2.1, fun k hk => by rw [st2_cell _ _ (by decide)]; exact R1.2.2.1 k hk, by rw [st2_slot _ _ (by decide)]; exact R1.2.2.2.1, R1.2.2.2.2⟩ (F1.trans ⟨fun c a => st2_cell _ _ a, fun j a1 a2 a3 => st2_slot _ _ a2⟩) (st2_same _ _ _ _)
    · intro k hk ih σ' R' F' e3
      have hf := f4 (s + k) (by omega) (by omega)
      obtain ⟨g1, g2, g3⟩ := isF_lt hf
      have hv := vM_le (T := T) (s := s) k (fun q hq => f4 (s + q) (by omega) (by omega))
      refine w_X12_readsNumber_34 _ _ _ σ' τ ?_
      rw [R'.2.2.2.1]
      refine M_letterAt R' (M_fig R'.1 ⟨fun q => ?_, fun _ => ?_⟩)
      · rw [bI_0, hf] at q; cases q
      · rw [R'.2.2.2.1, show (999 : Int32) = nI 999 from rfl, nI_leI (by omega) (by omega), nI_1]
        rw [vM] at ih
        refine ⟨fun q => M_letterAt R' ?_, fun q => ?_⟩
        · have el : ltr T (s + k) = nI (T.2 (s + k)) := by unfold ltr; rw [if_pos g1]
          rw [if_neg (by omega), show 10 * vM T s k + (T.2 (s + k) - 48) = 10 * vM T s k + T.2 (s + k) - 48 by omega] at ih
          rw [el, nI_10, nI_add, show (48 : Int32) = nI 48 from rfl, pk_sub (by omega), R'.2.2.2.1, nI_1]
          exact ih _ (R'.mv (by omega)) (F'.trans (frN.mv _ _)) (by rw [st2_slot _ _ (by decide)]; exact e3)
        · rw [if_pos (by omega)] at ih
          exact ih _ (R'.mv (by omega)) (F'.trans (frN.mv _ _)) (by rw [st2_slot _ _ (by decide)]; exact e3)
    · intro σ' R' F' e3
      rw [show s + (fe T s - s) = fe T s by omega] at *
      have hv := vM_le (T := T) (s := s) (fe T s - s) (fun q hq => f4 (s + q) (by omega) (by omega))
      have bad : ¬ (fe T s - s ≤ 3 ∧ lo ≤ vM T s (fe T s - s) ∧ vM T s (fe T s - s) ≤ hi) → AI l D b M_X12_readsNumber 2 G0 Q 115 [(0, .ref (b + 125))] [] G0 σ' τ := by
        intro hc
        rw [if_neg hc] at hbad
        refine w_X12_readsNumber_115 σ' τ ?_
        rw [e3]
        exact M_fails (n := 2) (hbad (2, s) _ rfl (Mq.mk σ' (2, s)) (F'.trans (frN.bl _ _ _)))
      refine w_X12_readsNumber_34 _ _ _ σ' τ ?_
      rw [R'.2.2.2.1]
      refine M_letterAt R' (M_fig R'.1 ⟨fun _ => ?_, fun q => absurd ((bI_n0 _).mp q) f3⟩)
      rw [R'.2.2.2.1, e3, pk_sub f1, show (3 : Int32) = nI 3 from rfl, nI_ltI (by omega) (by omega)]
      refine ⟨fun q => bad (fun q2 => by omega), fun q => M_in (fun c1 c2 => ?_) (fun c3 => ?_)⟩
      · rw [nI_leI (by omega) (by omega)] at c1 c2
        rw [if_pos ⟨by omega, c1, c2⟩] at hok
        exact ⟨fun _ => hok _ _ σ' rfl R' F', fun q => absurd q one0⟩
      · rw [nI_leI (by omega) (by omega), nI_leI (by omega) (by omega)] at c3
        exact ⟨fun q => absurd rfl q, fun _ => bad (fun q2 => c3 q2.2)⟩
  · have c := (bI_0 _).mp c
    rw [if_neg (by rw [c]; decide)] at hbad
    rw [R1.2.2.2.1]
    exact M_fails (n := 1) (hbad (1, s) _ rfl (Mq.mk σ1 (1, s)) (F1.trans (frN.bl _ _ _)))
theorem M_sgn {a s : Nat} (R : RdM σ T a) (hs : s < 256) (hok : ∀ e σ', pS T s a = .ok e → RdM σ' T e → frN σ σ' → Q 1 σ' τ) (hbad : ∀ q σ', pS T s a = .error q → Mq σ' q → frN σ σ' → Q 0 σ' τ) : SI l D b M_X12_readsSign 2 G0 [.ref (b + 125), .int (nI s)] σ τ Q := by
  have hsk := (sk_rng (T := T) a).2.1 R.2.2.2.2
  have hn := R.1.1
  have R1 := R.mv hsk
  unfold pS at hok hbad
  refine s_X12_readsSign _ σ τ (M_nextL R ⟨fun q => ?_, fun q => ?_⟩)
  · rw [ltr_eq R.1 hs] at q
    rw [if_pos q] at hok
    rw [R1.2.2.2.1, nI_1]
    exact hok _ _ rfl (R1.mv (by omega)) ((frN.mv σ _).trans (frN.mv _ _))
  · rw [ltr_eq R.1 hs] at q
    rw [if_neg q] at hbad
    rw [R1.2.2.2.1]
    exact M_fails (n := 1) (hbad (1, sk T a) _ rfl (Mq.mk _ (1, sk T a)) ((frN.mv σ _).trans (frN.bl _ _ _)))
end TEXT
