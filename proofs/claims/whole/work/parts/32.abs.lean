/-! WHAT THE CELLS MEAN: the kitchen p, a scene A, in numbers; the class's and the reference's pictures of them. -/
abbrev Sc : Type := Nat × Nat × (Nat → Nat) × (Nat → Nat) × (Nat → Nat) × (Nat → Nat)
abbrev Pl : Type := Nat × Nat × Nat × Nat × (Nat → Nat) × (Nat → Nat)
def hrS (A : Sc) : Nat := A.1
def shS (A : Sc) : Nat := A.2.1
def stS (A : Sc) : Nat → Nat := A.2.2.1
def hdS (A : Sc) : Nat → Nat := A.2.2.2.1
def spS (A : Sc) : Nat → Nat := A.2.2.2.2.1
def ldS (A : Sc) : Nat → Nat := A.2.2.2.2.2
def pH (p : Pl) : Nat := p.1
def pP (p : Pl) : Nat := p.2.1
def pm (p : Pl) : Nat := p.2.2.1
def pn (p : Pl) : Nat := p.2.2.2.1
def pk (p : Pl) : Nat → Nat := p.2.2.2.2.1
def ps (p : Pl) : Nat → Nat := p.2.2.2.2.2
def bI (q : Bool) : Int32 := if q then 1 else 0
theorem bI_t : bI true = 1 := rfl
theorem bI_f : bI false = 0 := rfl
theorem bI_0 (q : Bool) : bI q = 0 ↔ q = false := by cases q <;> decide
theorem bI_n0 (q : Bool) : ¬ bI q = 0 ↔ q = true := by cases q <;> decide
theorem bI_01 (q : Bool) : bI q = 0 ∨ bI q = 1 := by cases q <;> decide
/-- which of the first t are so, as a set -/
def stN (q : Nat → Bool) : Nat → Nat
  | 0 => 0
  | t + 1 => stN q t ||| (if q t then 2 ^ t else 0)
theorem stN_bit (q : Nat → Bool) : ∀ t i, (stN q t).testBit i = (decide (i < t) && q i)
  | 0, i => by simp [stN]
  | t + 1, i => by
    unfold stN
    rw [Nat.testBit_or, stN_bit q t i]
    by_cases h : i = t
    · subst h
      cases hq : q i <;> simp
    · have e : (if q t then 2 ^ t else 0 : Nat).testBit i = false := by
        split
        · rw [Nat.testBit_two_pow]; simp; omega
        · simp
      rw [e, Bool.or_false]
      congr 1
      apply decide_eq_decide.mpr
      omega
theorem stN_lt (q : Nat → Bool) (t : Nat) : stN q t < 2 ^ t := by
  apply Nat.lt_pow_two_of_testBit
  intro i hi
  rw [stN_bit]
  simp; omega
theorem stN_cong {q r : Nat → Bool} : ∀ {t : Nat}, (∀ i, i < t → q i = r i) → stN q t = stN r t
  | 0, _ => rfl
  | t + 1, h => by unfold stN; rw [stN_cong (fun i hi => h i (by omega)), h t (by omega)]
theorem pcn_stN (q : Nat → Bool) {t : Nat} (ht : t ≤ 32) : pcn (stN q t) = fb_ct q t := by
  unfold pcn
  rw [show (32 : Nat) = t + (32 - t) by omega, fb_ct_split, fb_ct_cong (n := t) (p := fun i => (stN q t).testBit i) (q := q) (fun k hk => by simp [stN_bit, hk])]
  have h0 : fb_ct (fun k => (stN q t).testBit (t + k)) (32 - t) = 0 := fb_ct_zero.mpr (fun k hk => by rw [stN_bit, decide_eq_false (by omega), Bool.false_and])
  omega
def goodA (A : Sc) (t : Nat) : Bool := decide (hdS A t = 0) && (decide (stS A t = 1) || decide (stS A t = 2))
def isA (A : Sc) (v t : Nat) : Bool := decide (stS A t = v)
def leftE (p : Pl) (A : Sc) (e : Nat) : Nat := ps p e - ldS A e
def leftA (p : Pl) (A : Sc) : Nat := fb_sm (leftE p A) (pn p)
/-- the first of the greatest -/
def bst (f : Nat → Nat) : Nat → Option Nat
  | 0 => none
  | k + 1 => match bst f k with
    | none => some k
    | some i => if f i < f k then some k else some i
theorem bst_lt (f : Nat → Nat) : ∀ {k i : Nat}, bst f k = some i → i < k
  | 0, i, h => by simp [bst] at h
  | k + 1, i, h => by
    unfold bst at h
    cases hb : bst f k with
    | none => rw [hb] at h; simp at h; omega
    | some j =>
      rw [hb] at h
      simp only at h
      have := bst_lt f hb
      split at h <;> simp at h <;> omega
theorem bst_some (f : Nat → Nat) {k : Nat} (h : 0 < k) : ∃ i, bst f k = some i := by
  cases k with
  | zero => omega
  | succ k =>
    unfold bst
    cases bst f k with
    | none => exact ⟨_, rfl⟩
    | some j => simp only; split <;> exact ⟨_, rfl⟩
theorem bst_max (f : Nat → Nat) : ∀ {k i : Nat}, bst f k = some i → ∀ j, j < k → f j ≤ f i
  | 0, i, h, j, hj => by omega
  | k + 1, i, h, j, hj => by
    unfold bst at h
    cases hb : bst f k with
    | none =>
      rw [hb] at h
      simp at h
      have : k = 0 := by
        rcases Nat.eq_zero_or_pos k with e | e
        · exact e
        · obtain ⟨x, hx⟩ := bst_some f e
          rw [hx] at hb; cases hb
      have : j = i := by omega
      subst this
      exact Nat.le_refl _
    | some q =>
      rw [hb] at h
      simp only at h
      have hm := bst_max f hb
      split at h
      · simp at h
        subst h
        rcases Nat.lt_or_ge j k with hjk | hjk
        · have := hm j hjk; omega
        · have : j = k := by omega
          subst this; exact Nat.le_refl _
      · simp at h
        subst h
        rcases Nat.lt_or_ge j k with hjk | hjk
        · exact hm j hjk
        · have : j = k := by omega
          subst this; omega
theorem bst_cong {f g : Nat → Nat} : ∀ {k : Nat}, (∀ i, i < k → f i = g i) → bst f k = bst g k
  | 0, _ => rfl
  | k + 1, h => by
    unfold bst
    rw [bst_cong (fun i hi => h i (by omega))]
    cases hb : bst g k with
    | none => rfl
    | some j =>
      have := bst_lt g hb
      simp only
      rw [h j (by omega), h k (by omega)]
def oI (r : Option Nat) : Int32 := match r with
  | none => -1
  | some i => nI i
def wgtA (A : Sc) (t : Nat) : Nat := if pcn (spS A t) = 0 then 1 else pcn (spS A t)
def bearA (p : Pl) (A : Sc) (t : Nat) : Bool := decide (wgtA A t ≤ leftA p A)
def onC (p : Pl) (A : Sc) : Nat := fb_ct (isA A 2) (pm p)
def okP (p : Pl) : Prop := pH p ≤ 20 ∧ pP p ≤ 3 ∧ pm p ≤ 6 ∧ pn p ≤ 6 ∧ (pH p = 0 ↔ pP p = 0) ∧ (pH p = 0 → pm p = 0 ∧ pn p = 0) ∧ (∀ t, t < pm p → pk p t ≤ 3) ∧ (∀ e, e < pn p → 1 ≤ ps p e ∧ ps p e ≤ 30)
def okA (p : Pl) (A : Sc) : Prop := hrS A ≤ 9060 ∧ shS A ≤ 999999 ∧ (∀ t, t < pm p → stS A t ≤ 3 ∧ hdS A t ≤ 200 ∧ spS A t < 2 ^ 25) ∧ (∀ e, e < pn p → ldS A e ≤ ps p e) ∧ (∀ e, pn p ≤ e → ldS A e = 0) ∧ onC p A ≤ pP p
/-- the class: the kitchen, a scene at cell c -/
def CP (σ : zSg) (p : Pl) : Prop := σ 9 0 = nI (pH p) ∧ σ 9 1 = nI (pP p) ∧ σ 9 2 = nI (pm p) ∧ σ 9 3 = nI (pn p) ∧ (∀ t, t < pm p → σ 10 t = nI (pk p t)) ∧ (∀ e, e < pn p → σ 13 e = nI (ps p e))
def CS (σ : zSg) (c : Nat) (p : Pl) (A : Sc) : Prop := σ c 0 = nI (hrS A) ∧ σ c 1 = nI (shS A) ∧ (∀ t, t < pm p → σ (c + 1) t = nI (stS A t)) ∧ (∀ t, t < pm p → σ (c + 2) t = nI (hdS A t)) ∧ (∀ t, t < pm p → σ (c + 3) t = nI (spS A t)) ∧ (∀ e, e < pn p → σ (c + 4) e = nI (ldS A e))
/-- the reference: the kitchen, a scene in the row a from place o on -/
def MP (σ : zSg) (p : Pl) : Prop := σ 125 14 = nI (pH p) ∧ σ 125 15 = nI (pP p) ∧ σ 125 16 = nI (pm p) ∧ σ 125 17 = nI (pn p) ∧ (∀ t, t < pm p → σ 131 t = nI (pk p t)) ∧ (∀ e, e < pn p → σ 132 e = nI (ps p e))
def MS (σ : zSg) (a o : Nat) (p : Pl) (A : Sc) : Prop := σ a o = nI (hrS A) ∧ σ a (o + 1) = nI (shS A) ∧ (∀ t, t < pm p → σ a (o + 14 + t) = nI (stS A t)) ∧ (∀ t, t < pm p → σ a (o + 2 + t) = nI (hdS A t)) ∧ (∀ t, t < pm p → σ a (o + 8 + t) = nI (spS A t)) ∧ (∀ e, e < 6 → σ a (o + 20 + e) = nI (ldS A e))
def RC (σ : zSg) (p : Pl) (A : Sc) : Prop := okP p ∧ okA p A ∧ CP σ p ∧ CS σ 14 p A
def RM (σ : zSg) (p : Pl) (A : Sc) : Prop := okP p ∧ okA p A ∧ MP σ p ∧ MS σ 133 0 p A
theorem nI_lit {a k : Nat} (ha : a < 2 ^ 31) (hk : k < 2 ^ 31) : nI a = (OfNat.ofNat k : Int32) ↔ a = k := by rw [fa_lit, nI_eq ha hk]
theorem vp_in_t {t n : Nat} (h : t < n) (hn : n < 2 ^ 31) : vp_in (nI t) n := vp_in_nI h hn
theorem nI_c {t : Nat} (h : t < 2 ^ 31) : (nI t).toNatClampNeg = t := nI_clamp h
theorem leftA_le (p : Pl) (A : Sc) (hp : okP p) : leftA p A ≤ 180 := by
  have h1 := fb_sm_bound (f := leftE p A) (c := 30) (n := pn p) (fun e he => by
    have := (hp.2.2.2.2.2.2.2 e he).2
    unfold leftE; omega)
  have h2 := hp.2.2.2.1
  have : pn p * 30 ≤ 6 * 30 := Nat.mul_le_mul_right 30 h2
  unfold leftA
  omega
