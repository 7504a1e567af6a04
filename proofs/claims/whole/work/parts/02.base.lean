/-! THE WORLD: all cells made since the base b, in the order of their making; their kinds, and what they hold. -/
abbrev zMI : Type := MethodName × ByteArray × Nat × Option FieldType
abbrev zKd : Type := Nat → Nat × Nat
abbrev zGm : Type := Nat → Nat → Option Nat
abbrev zSg : Type := Nat → Nat → Int32
abbrev zLm : Type := Nat → Nat → Int64
abbrev zDD : Type := va_G × (Nat → ClassId)
def cls12 : List vw_C := [(RX0, TX0, 3), (RX1, TX1, 6), (RX2, TX2, 4), (RX3, TX3, 1), (RX4, TX4, 4), (RX5, TX5, 6), (RX6, TX6, 8), (RX7, TX7, 5), (RX8, TX8, 6), (RX10, TX10, 2), (RX11, TX11, 12), (RX12, TX12, 36)]
def cN (t : Nat) : Nat := match t with
  | 0 => 3 | 1 => 6 | 2 => 4 | 3 => 1 | 4 => 4 | 5 => 6 | 6 => 8 | 7 => 5 | 8 => 6 | 9 => 2 | 10 => 12 | 11 => 36 | _ => 0
def cTy (t : Nat) : Nat → FieldType := match t with
  | 0 => tyX0 | 1 => tyX1 | 2 => tyX2 | 3 => tyX3 | 4 => tyX4 | 5 => tyX5 | 6 => tyX6 | 7 => tyX7 | 8 => tyX8 | 9 => tyX10 | 10 => tyX11 | _ => tyX12
def rv (b : Nat) (r : Option Nat) : Value := va_rf (r.map (fun c => b + c))
def fval (b : Nat) (ty : FieldType) (g : Option Nat) (x : Int32) (y : Int64) : Value := match ty with
  | .int => .int x
  | .long => .long y
  | _ => rv b g
def fldsOf (b t : Nat) (g : Nat → Option Nat) (x : Nat → Int32) (y : Nat → Int64) : List Value := (List.range (cN t)).map (fun j => fval b (cTy t j) (g j) (x j) (y j))
def zEnt (D : zDD) (b : Nat) (k : Nat × Nat) (g : Nat → Option Nat) (x : Nat → Int32) (y : Nat → Int64) : va_E := match k.1 with
  | 0 => .inl (D.2 0, k.2, .inl x)
  | 1 => .inl (D.2 1, k.2, .inl x)
  | 2 => .inl (D.2 2, k.2, .inr (.inl y))
  | 3 => .inl (D.2 3, k.2, .inr (.inr (.inr (.inr (fun j => (g j).map (fun c => b + c))))))
  | t + 4 => .inr (t, fldsOf b t g x y)
def zEE (D : zDD) (b : Nat) (kd : zKd) (γ : zGm) (σ : zSg) (τ : zLm) (c : Nat) : va_E := zEnt D b (kd c) (γ c) (σ c) (τ c)
def wlE (b N : Nat) (F : Nat → va_E) : va_W := (List.range N).map (fun c => (b + c, F c))
abbrev wl (D : zDD) (b N : Nat) (kd : zKd) (γ : zGm) (σ : zSg) (τ : zLm) : va_W := wlE b N (zEE D b kd γ σ τ)
def tysD (D : zDD) : List (ClassId × FieldType) := [(D.2 0, .int), (D.2 1, .boolean), (D.2 2, .long), (D.2 3, .object RX8)]
/-- fz = 0: nothing is said of the heap's size; else it is known (makers need it) -/
def zWd (D : zDD) (b fz N : Nat) (kd : zKd) (γ : zGm) (σ : zSg) (τ : zLm) (U : State) (H : Heap) : Prop := va_P D.1 cls12 (wl D b N kd γ σ τ) H ∧ va_K D.1 cls12 (tysD D) U ∧ (fz = 0 ∨ H.size = b + N)
theorem zWd.moved {D : zDD} {b fz N : Nat} {kd : zKd} {γ : zGm} {σ : zSg} {τ : zLm} {u U : State} {H : Heap} (hvm : u.vm.Alike U.vm) (h : zWd D b fz N kd γ σ τ u H) : zWd D b fz N kd γ σ τ U H := ⟨h.1, h.2.1.moved hvm, h.2.2⟩
theorem wlE_get {b N : Nat} {F : Nat → va_E} {c : Nat} (h : c < N) : (wlE b N F)[c]? = some (b + c, F c) := by
  simp [wlE, List.getElem?_range h]
theorem wlE_D (b N : Nat) (F : Nat → va_E) : va_D (fun q => b ≤ q) (wlE b N F) := by
  have key : ∀ (k : Nat) (q : Nat × va_E), (wlE b N F)[k]? = some q → q.1 = b + k := by
    intro k q hk
    by_cases hl : k < N
    · rw [wlE_get hl] at hk
      cases hk
      rfl
    · rw [List.getElem?_eq_none (by simp [wlE]; omega)] at hk
      cases hk
  refine ⟨fun i j p q hi hj hpq => ?_, fun k q hk => ?_⟩
  · have h1 := key i p hi
    have h2 := key j q hj
    omega
  · show b ≤ q.1
    rw [key k q hk]
    omega
theorem wlE_set {b N : Nat} {F : Nat → va_E} {c : Nat} {e : va_E} : (wlE b N F).set c (b + c, e) = wlE b N (va_up F c e) := by
  apply List.ext_getElem?
  intro j
  by_cases hN : j < N
  · rw [wlE_get hN]
    by_cases hj : j = c
    · subst hj
      rw [List.getElem?_set_self (by simp [wlE]; exact hN)]
      simp [va_up]
    · rw [List.getElem?_set_ne (Ne.symm hj), wlE_get hN]
      simp [va_up, hj]
  · rw [List.getElem?_eq_none (by simp [wlE]; omega), List.getElem?_eq_none (by simp [wlE]; omega)]
theorem wlE_push {b N : Nat} {F : Nat → va_E} {e : va_E} : wlE b N F ++ [(b + N, e)] = wlE b (N + 1) (va_up F N e) := by
  apply List.ext_getElem?
  intro j
  by_cases hN : j < N
  · rw [List.getElem?_append_left (by simp [wlE]; exact hN), wlE_get hN, wlE_get (by omega)]
    simp [va_up, Nat.ne_of_lt hN]
  · rw [List.getElem?_append_right (by simp [wlE]; omega)]
    by_cases hj : j = N
    · subst hj
      rw [wlE_get (by omega)]
      simp [wlE, va_up]
    · rw [List.getElem?_eq_none (by simp [wlE]; omega), List.getElem?_eq_none (by simp [wlE]; omega)]
/-- a store of one slot -/
def st2 {α : Type} (f : Nat → Nat → α) (c j : Nat) (v : α) : Nat → Nat → α := va_up f c (va_up (f c) j v)
theorem zEE_σ {D : zDD} {b : Nat} {kd : zKd} {γ : zGm} {σ : zSg} {τ : zLm} {c : Nat} {f : Nat → Int32} : va_up (zEE D b kd γ σ τ) c (zEnt D b (kd c) (γ c) f (τ c)) = zEE D b kd γ (va_up σ c f) τ := by
  funext q
  by_cases h : q = c
  · subst h; simp [zEE, va_up]
  · simp [zEE, va_up, h]
theorem zEE_τ {D : zDD} {b : Nat} {kd : zKd} {γ : zGm} {σ : zSg} {τ : zLm} {c : Nat} {f : Nat → Int64} : va_up (zEE D b kd γ σ τ) c (zEnt D b (kd c) (γ c) (σ c) f) = zEE D b kd γ σ (va_up τ c f) := by
  funext q
  by_cases h : q = c
  · subst h; simp [zEE, va_up]
  · simp [zEE, va_up, h]
theorem zEE_γ {D : zDD} {b : Nat} {kd : zKd} {γ : zGm} {σ : zSg} {τ : zLm} {c : Nat} {f : Nat → Option Nat} : va_up (zEE D b kd γ σ τ) c (zEnt D b (kd c) f (σ c) (τ c)) = zEE D b kd (va_up γ c f) σ τ := by
  funext q
  by_cases h : q = c
  · subst h; simp [zEE, va_up]
  · simp [zEE, va_up, h]
theorem zEE_new {D : zDD} {b : Nat} {kd : zKd} {γ : zGm} {σ : zSg} {τ : zLm} {c : Nat} {k : Nat × Nat} {g : Nat → Option Nat} {x : Nat → Int32} {y : Nat → Int64} : va_up (zEE D b kd γ σ τ) c (zEnt D b k g x y) = zEE D b (va_up kd c k) (va_up γ c g) (va_up σ c x) (va_up τ c y) := by
  funext q
  by_cases h : q = c
  · subst h; simp [zEE, va_up]
  · simp [zEE, va_up, h]
theorem flds_get {b t : Nat} {g : Nat → Option Nat} {x : Nat → Int32} {y : Nat → Int64} {j : Nat} (h : j < cN t) : (fldsOf b t g x y)[j]? = some (fval b (cTy t j) (g j) (x j) (y j)) := by
  simp [fldsOf, List.getElem?_range h]
theorem flds_len {b t : Nat} {g : Nat → Option Nat} {x : Nat → Int32} {y : Nat → Int64} : (fldsOf b t g x y).length = cN t := by simp [fldsOf]
theorem flds_set {b t : Nat} {g g' : Nat → Option Nat} {x x' : Nat → Int32} {y y' : Nat → Int64} {j : Nat} {v : Value} (hv : fval b (cTy t j) (g' j) (x' j) (y' j) = v) (ho : ∀ i, i ≠ j → g' i = g i ∧ x' i = x i ∧ y' i = y i) : (fldsOf b t g x y).set j v = fldsOf b t g' x' y' := by
  apply List.ext_getElem?
  intro i
  by_cases hN : i < cN t
  · rw [flds_get hN]
    by_cases hj : i = j
    · subst hj
      rw [List.getElem?_set_self (by rw [flds_len]; exact hN), hv]
    · rw [List.getElem?_set_ne (Ne.symm hj), flds_get hN, (ho i hj).1, (ho i hj).2.1, (ho i hj).2.2]
  · rw [List.getElem?_eq_none (by rw [List.length_set, flds_len]; omega), List.getElem?_eq_none (by rw [flds_len]; omega)]
theorem cls_N {t : Nat} {C : String} {T : u_T} {n : Nat} (h : cls12[t]? = some (C, T, n)) : cN t = n ∧ (∀ w ∈ u_ws C T n, w ∈ lw_g) ∧ (∀ k, k < n → parseFieldDescriptor (T k).2.2.1 = some (cTy t k)) ∧ (∀ a, a < n → ∀ b, b < n → a ≠ b → (T a).2.1 ≠ (T b).2.1) := by
  match t, h with
  | 0, h => cases h; exact ⟨rfl, igX0, tyX0_ok, nmX0⟩
  | 1, h => cases h; exact ⟨rfl, igX1, tyX1_ok, nmX1⟩
  | 2, h => cases h; exact ⟨rfl, igX2, tyX2_ok, nmX2⟩
  | 3, h => cases h; exact ⟨rfl, igX3, tyX3_ok, nmX3⟩
  | 4, h => cases h; exact ⟨rfl, igX4, tyX4_ok, nmX4⟩
  | 5, h => cases h; exact ⟨rfl, igX5, tyX5_ok, nmX5⟩
  | 6, h => cases h; exact ⟨rfl, igX6, tyX6_ok, nmX6⟩
  | 7, h => cases h; exact ⟨rfl, igX7, tyX7_ok, nmX7⟩
  | 8, h => cases h; exact ⟨rfl, igX8, tyX8_ok, nmX8⟩
  | 9, h => cases h; exact ⟨rfl, igX10, tyX10_ok, nmX10⟩
  | 10, h => cases h; exact ⟨rfl, igX11, tyX11_ok, nmX11⟩
  | 11, h => cases h; exact ⟨rfl, igX12, tyX12_ok, nmX12⟩
  | t + 12, h => simp [cls12] at h
