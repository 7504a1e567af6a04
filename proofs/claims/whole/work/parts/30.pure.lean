/-! PURE ROWS: loops, small numbers, bits. -/
theorem st2_same {α : Type} (f : Nat → Nat → α) (c j : Nat) (v : α) : st2 f c j v c j = v := by simp [st2, va_up]
theorem st2_slot {α : Type} (f : Nat → Nat → α) {c j i : Nat} (v : α) (h : i ≠ j) : st2 f c j v c i = f c i := by simp [st2, va_up, h]
theorem st2_cell {α : Type} (f : Nat → Nat → α) {c j q : Nat} (v : α) (h : q ≠ c) : st2 f c j v q = f q := by simp [st2, va_up, h]
theorem st2_row {α : Type} (f : Nat → Nat → α) (c j : Nat) (v : α) : st2 f c j v c = va_up (f c) j v := by simp [st2, va_up]
/-- a loop whose states are told by the count of its rounds -/
theorem lp_up {P : Nat → Prop} {n : Nat} (hs : ∀ k, k < n → P (k + 1) → P k) (hn : P n) : ∀ i, i ≤ n → P i := by
  have key : ∀ d i, i + d = n → P i := by
    intro d
    induction d with
    | zero => intro i h; rw [show i = n by omega]; exact hn
    | succ d ih => intro i h; exact hs i (by omega) (ih (i + 1) (by omega))
  intro i h
  exact key (n - i) i (by omega)
theorem nI_sh {i : Nat} (h : i < 31) : (1 : Int32) <<< (nI i &&& 31) = nI (2 ^ i) := by
  have h1 : (((nI i &&& 31 : Int32)).toBitVec.smod 32).toNat = i := by
    have := (by decide : ∀ j : Fin 31, ((nI j.1 &&& 31 : Int32).toBitVec.smod 32).toNat = j.1) ⟨i, h⟩
    exact this
  have h2 := pk_shlN (n := 1) (nI i &&& 31) i h1 (by rw [Nat.one_mul]; exact Nat.pow_lt_pow_right (by decide) (by omega))
  rw [Nat.one_mul] at h2
  exact h2
theorem nI_shr {n i : Nat} (hn : n < 2 ^ 31) (h : i < 31) : nI n >>> (nI i &&& 31) = nI (n / 2 ^ i) := by
  have h1 : (((nI i &&& 31 : Int32)).toBitVec.smod 32).toNat = i := by
    have := (by decide : ∀ j : Fin 31, ((nI j.1 &&& 31 : Int32).toBitVec.smod 32).toNat = j.1) ⟨i, h⟩
    exact this
  exact pk_shrN hn _ i h1
theorem nI_shl {n i : Nat} (h : i < 31) (hn : n * 2 ^ i < 2 ^ 32) : nI n <<< (nI i &&& 31) = nI (n * 2 ^ i) := by
  have h1 : (((nI i &&& 31 : Int32)).toBitVec.smod 32).toNat = i := by
    have := (by decide : ∀ j : Fin 31, ((nI j.1 &&& 31 : Int32).toBitVec.smod 32).toNat = j.1) ⟨i, h⟩
    exact this
  exact pk_shlN _ i h1 hn
/-- has a bit, as the class asks it -/
theorem nI_has {n i : Nat} (h : i < 31) : nI n &&& ((1 : Int32) <<< (nI i &&& 31)) = 0 ↔ n.testBit i = false := by
  rw [nI_sh h]
  exact fa_bit h
/-- and as the reference does -/
theorem nI_has2 {n i : Nat} (hn : n < 2 ^ 31) (h : i < 31) : (nI n >>> (nI i &&& 31)) &&& 1 = 1 ↔ n.testBit i = true := by
  rw [nI_shr hn h, show (1 : Int32) = nI 1 from rfl, fa_and, Nat.and_one_is_mod, nI_eq (by omega) (by omega)]
  rw [Nat.testBit_eq_decide_div_mod_eq]
  simp
theorem nI_neg1 (n : Nat) : nI n ^^^ (-1) = nI (n ^^^ 4294967295) := by
  rw [show (-1 : Int32) = nI 4294967295 by decide, fb_xorI]
/-- how many bits -/
def pcn (n : Nat) : Nat := fb_ct (fun i => n.testBit i) 32
theorem pcn_le (n : Nat) : pcn n ≤ 32 := fb_ct_le _ _
