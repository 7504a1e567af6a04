/-! Math.max, Math.min as instructions. -/
def mx (x y : Int32) : Int32 := if x < y then y else x
def mn (x y : Int32) : Int32 := if y < x then y else x
theorem tm_st_max : Cond.static Lib.Math.max.name ∈ lw_tbl := tb_in (List.mem_of_getElem? (i := 503) (by decide +kernel))
theorem tm_in_max : Cond.initialized "java/lang/Math" ∈ lw_tbl := tb_in (List.mem_of_getElem? (i := 13) (by decide +kernel))
theorem tm_cd_max : Cond.code Lib.Math.max.name Lib.Math.max.code 2 (some .int) ∈ lw_tbl := tb_in (List.mem_of_getElem? (i := 504) (by decide +kernel))
theorem r_max {l : Launch} {D : zDD} {b : Nat} {M : zMI} {h fz kc ks : Nat} {Z : zZZ} {pc : Nat} {lv : List (Nat × Value)} {stk : List Value} {k n N : Nat} {kd : zKd} {γ : zGm} {σ : zSg} {τ : zLm} {index : Nat} {x y : Int32} (hw : Cond.methodLink M.1.cls index Lib.Math.max.name ∈ lw_tbl) (hd : decode M.2.1 pc = .ok (.invokestatic index, 3)) (hh : 1 ≤ h) (hroom : (stk.map fun v => v.category).sum ≤ 8) (hk : k ≤ kc) (hn : n ≤ ks) (a : zA l D b M h fz kc ks Z (pc + 3) lv (.int (mx x y) :: stk) k n N kd γ σ τ) : zA l D b M h fz kc ks Z pc lv (.int y :: .int x :: stk) k n N kd γ σ τ := by
  intro p e R s m args below meth c C H locs ls hl hW hS
  obtain ⟨hx, hbb, hr, hml, hown, hts, hlk, hnm, hbs, hf, hlo, hkc2, hks2, hNW⟩ := id C
  exact va_mmax hx hbb (by rw [hml]; exact hl.1.symm) hown (hts _ (lw_gIn hw rfl)) (hts _ (lw_gIn tm_st_max rfl)) (hts _ (lw_gIn tm_in_max rfl)) (hts _ (lw_gIn tm_cd_max rfl)) (by omega) (by omega) (Nat.le_trans hk hkc2) (Nat.le_trans hn hks2) hd (a p e R s m args below meth c C H locs ls hl hW hS)
theorem tm_st_min : Cond.static Lib.Math.min.name ∈ lw_tbl := tb_in (List.mem_of_getElem? (i := 375) (by decide +kernel))
theorem tm_in_min : Cond.initialized "java/lang/Math" ∈ lw_tbl := tb_in (List.mem_of_getElem? (i := 13) (by decide +kernel))
theorem tm_cd_min : Cond.code Lib.Math.min.name Lib.Math.min.code 2 (some .int) ∈ lw_tbl := tb_in (List.mem_of_getElem? (i := 376) (by decide +kernel))
theorem r_min {l : Launch} {D : zDD} {b : Nat} {M : zMI} {h fz kc ks : Nat} {Z : zZZ} {pc : Nat} {lv : List (Nat × Value)} {stk : List Value} {k n N : Nat} {kd : zKd} {γ : zGm} {σ : zSg} {τ : zLm} {index : Nat} {x y : Int32} (hw : Cond.methodLink M.1.cls index Lib.Math.min.name ∈ lw_tbl) (hd : decode M.2.1 pc = .ok (.invokestatic index, 3)) (hh : 1 ≤ h) (hroom : (stk.map fun v => v.category).sum ≤ 8) (hk : k ≤ kc) (hn : n ≤ ks) (a : zA l D b M h fz kc ks Z (pc + 3) lv (.int (mn x y) :: stk) k n N kd γ σ τ) : zA l D b M h fz kc ks Z pc lv (.int y :: .int x :: stk) k n N kd γ σ τ := by
  intro p e R s m args below meth c C H locs ls hl hW hS
  obtain ⟨hx, hbb, hr, hml, hown, hts, hlk, hnm, hbs, hf, hlo, hkc2, hks2, hNW⟩ := id C
  exact va_mmin hx hbb (by rw [hml]; exact hl.1.symm) hown (hts _ (lw_gIn hw rfl)) (hts _ (lw_gIn tm_st_min rfl)) (hts _ (lw_gIn tm_in_min rfl)) (hts _ (lw_gIn tm_cd_min rfl)) (by omega) (by omega) (Nat.le_trans hk hkc2) (Nat.le_trans hn hks2) hd (a p e R s m args below meth c C H locs ls hl hW hS)
