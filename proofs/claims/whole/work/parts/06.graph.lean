/-! THE GRAPH of the cells once all constructors have run; contracts and calls in it. -/
abbrev N0 : Nat := 144
def K0t (c : Nat) : Nat × Nat := match c with
  | 0 => (14, 0)
  | 1 => (11, 0)
  | 2 => (0, 240)
  | 3 => (10, 0)
  | 4 => (0, 6)
  | 5 => (0, 6)
  | 6 => (0, 6)
  | 7 => (0, 6)
  | 8 => (6, 0)
  | 9 => (10, 0)
  | 10 => (0, 6)
  | 11 => (0, 6)
  | 12 => (0, 6)
  | 13 => (0, 6)
  | 14 => (12, 0)
  | 15 => (0, 6)
  | 16 => (0, 6)
  | 17 => (0, 6)
  | 18 => (0, 6)
  | 19 => (13, 0)
  | 20 => (0, 16)
  | 21 => (0, 16)
  | 22 => (7, 0)
  | 23 => (9, 0)
  | 24 => (3, 16)
  | 25 => (3, 2)
  | 26 => (0, 2)
  | 27 => (1, 2)
  | 118 => (8, 0)
  | 119 => (0, 12)
  | 120 => (5, 0)
  | 121 => (0, 25)
  | 122 => (4, 0)
  | 123 => (0, 15)
  | 124 => (0, 15)
  | 125 => (15, 0)
  | 126 => (0, 240)
  | 127 => (0, 6)
  | 128 => (0, 6)
  | 129 => (0, 6)
  | 130 => (0, 6)
  | 131 => (0, 6)
  | 132 => (0, 6)
  | 133 => (0, 26)
  | 134 => (0, 416)
  | 135 => (0, 16)
  | 136 => (0, 6)
  | 137 => (1, 6)
  | 138 => (0, 25)
  | 139 => (0, 15)
  | 140 => (0, 15)
  | 141 => (1, 2)
  | 142 => (0, 52)
  | 143 => (2, 2)
  | _ => (0, 0)
def K0 : zKd := fun c => if 28 ≤ c ∧ c < 118 then (if (c - 28) % 5 = 0 then (12, 0) else (0, 6)) else K0t c
def gof : List (Nat × Nat × Nat) → zGm
  | [] => fun _ _ => none
  | t :: L => st2 (gof L) t.1 t.2.1 (some t.2.2)
abbrev Lall : List (Nat × Nat × Nat) := [(125, 35, 143), (125, 34, 142), (125, 33, 141), (125, 32, 140), (125, 31, 139), (125, 29, 138), (125, 28, 137), (125, 27, 136), (125, 25, 135), (125, 23, 134), (125, 20, 133), (125, 19, 132), (125, 18, 131), (125, 13, 130), (125, 12, 129), (125, 11, 128), (125, 10, 127), (125, 1, 126), (0, 10, 122), (122, 2, 124), (122, 1, 123), (0, 9, 120), (120, 5, 121), (0, 8, 118), (118, 0, 119), (0, 7, 23), (25, 1, 113), (113, 5, 117), (113, 4, 116), (113, 3, 115), (113, 2, 114), (25, 0, 108), (108, 5, 112), (108, 4, 111), (108, 3, 110), (108, 2, 109), (24, 15, 103), (103, 5, 107), (103, 4, 106), (103, 3, 105), (103, 2, 104), (24, 14, 98), (98, 5, 102), (98, 4, 101), (98, 3, 100), (98, 2, 99), (24, 13, 93), (93, 5, 97), (93, 4, 96), (93, 3, 95), (93, 2, 94), (24, 12, 88), (88, 5, 92), (88, 4, 91), (88, 3, 90), (88, 2, 89), (24, 11, 83), (83, 5, 87), (83, 4, 86), (83, 3, 85), (83, 2, 84), (24, 10, 78), (78, 5, 82), (78, 4, 81), (78, 3, 80), (78, 2, 79), (24, 9, 73), (73, 5, 77), (73, 4, 76), (73, 3, 75), (73, 2, 74), (24, 8, 68), (68, 5, 72), (68, 4, 71), (68, 3, 70), (68, 2, 69), (24, 7, 63), (63, 5, 67), (63, 4, 66), (63, 3, 65), (63, 2, 64), (24, 6, 58), (58, 5, 62), (58, 4, 61), (58, 3, 60), (58, 2, 59), (24, 5, 53), (53, 5, 57), (53, 4, 56), (53, 3, 55), (53, 2, 54), (24, 4, 48), (48, 5, 52), (48, 4, 51), (48, 3, 50), (48, 2, 49), (24, 3, 43), (43, 5, 47), (43, 4, 46), (43, 3, 45), (43, 2, 44), (24, 2, 38), (38, 5, 42), (38, 4, 41), (38, 3, 40), (38, 2, 39), (24, 1, 33), (33, 5, 37), (33, 4, 36), (33, 3, 35), (33, 2, 34), (24, 0, 28), (28, 5, 32), (28, 4, 31), (28, 3, 30), (28, 2, 29), (23, 3, 27), (23, 2, 26), (23, 1, 25), (23, 0, 24), (0, 6, 22), (0, 5, 19), (0, 4, 14), (0, 3, 9), (0, 2, 8), (8, 3, 22), (8, 2, 19), (19, 1, 21), (19, 0, 20), (8, 1, 14), (14, 5, 18), (14, 4, 17), (14, 3, 16), (14, 2, 15), (8, 0, 9), (9, 7, 13), (9, 6, 12), (9, 5, 11), (9, 4, 10), (0, 1, 3), (3, 7, 7), (3, 6, 6), (3, 5, 5), (3, 4, 4), (0, 0, 1), (1, 0, 2)]
def G0 : zGm := gof Lall
def isSc (c : Nat) : Prop := c = 14 ∨ (28 ≤ c ∧ c < 118 ∧ (c - 28) % 5 = 0)
theorem isSc_K {c : Nat} (h : isSc c) : K0 c = (12, 0) := by
  rcases h with rfl | ⟨h1, h2, h3⟩
  · rfl
  · unfold K0; rw [if_pos ⟨h1, h2⟩, if_pos h3]
theorem isSc_lt {c : Nat} (h : isSc c) : c + 4 < N0 := by
  rcases h with rfl | ⟨h1, h2, h3⟩
  · decide
  · show c + 4 < 144; omega
theorem isSc_A {c k : Nat} (h : isSc c) (h1 : 1 ≤ k) (h2 : k ≤ 4) : K0 (c + k) = (0, 6) := by
  rcases h with rfl | ⟨h3, h4, h5⟩
  · rcases (show k = 1 ∨ k = 2 ∨ k = 3 ∨ k = 4 by omega) with rfl | rfl | rfl | rfl <;> rfl
  · unfold K0; rw [if_pos (by omega), if_neg (by omega)]
set_option maxRecDepth 20000 in
theorem isSc_G13 : ∀ j : Fin 6, 2 ≤ j.1 → G0 14 j.1 = some (14 + (j.1 - 1)) := by decide +kernel
set_option maxRecDepth 20000 in
theorem isSc_Gi : ∀ i : Fin 18, ∀ j : Fin 6, 2 ≤ j.1 → G0 (28 + 5 * i.1) j.1 = some (28 + 5 * i.1 + (j.1 - 1)) := by decide +kernel
theorem isSc_G {c j : Nat} (h : isSc c) (h1 : 2 ≤ j) (h2 : j ≤ 5) : G0 c j = some (c + (j - 1)) := by
  rcases h with rfl | ⟨h3, h4, h5⟩
  · exact isSc_G13 ⟨j, by omega⟩ h1
  · obtain ⟨i, hi, rfl⟩ : ∃ i : Nat, i < 18 ∧ c = 28 + 5 * i := ⟨(c - 28) / 5, by omega, by omega⟩
    exact isSc_Gi ⟨i, hi⟩ ⟨j, by omega⟩ h1
theorem isSc_un {j : Nat} (h : j < 16) : isSc (28 + 5 * j) := Or.inr ⟨by omega, by omega, by omega⟩
theorem isSc_im {j : Nat} (h : j < 2) : isSc (108 + 5 * j) := Or.inr ⟨by omega, by omega, by omega⟩
set_option maxRecDepth 20000 in
theorem G0_24i : ∀ j : Fin 16, G0 24 j.1 = some (28 + 5 * j.1) := by decide +kernel
theorem G0_24 {j : Nat} (h : j < 16) : G0 24 j = some (28 + 5 * j) := G0_24i ⟨j, h⟩
set_option maxRecDepth 20000 in
theorem G0_25i : ∀ j : Fin 2, G0 25 j.1 = some (108 + 5 * j.1) := by decide +kernel
theorem G0_25 {j : Nat} (h : j < 2) : G0 25 j = some (108 + 5 * j) := G0_25i ⟨j, h⟩
theorem vp_lt {i : Int32} {n : Nat} (h : vp_in i n) : i.toNatClampNeg < n := Nat.not_le.mp fun q => h (Or.inr q)
theorem zS.mono {l : Launch} {D : zDD} {b : Nat} {M : zMI} {h fz mc ms : Nat} {av : List Value} {N : Nat} {kd : zKd} {γ : zGm} {σ : zSg} {τ : zLm} {Q Q' : zPost} (a : zS l D b M h fz mc ms av N kd γ σ τ Q) (hq : ∀ r N kd γ σ τ, Q r N kd γ σ τ → Q' r N kd γ σ τ) : zS l D b M h fz mc ms av N kd γ σ τ Q' := by
  intro p e ha hc hk s m args below hf happ hP hK
  obtain ⟨n, o, h1, h2, h3, ⟨⟨r, N', kd', γ', σ', τ', e1, e2, e3⟩, hF⟩, L⟩ := a p e ha hc hk s m args below hf happ hP hK
  exact ⟨n, o, h1, h2, h3, ⟨⟨r, N', kd', γ', σ', τ', e1, hq _ _ _ _ _ _ e2, e3⟩, hF⟩, L⟩
abbrev QI (γe : zGm) (Q : Int32 → zSg → zLm → Prop) : zPost := fun r N kd γ σ τ => N = N0 ∧ kd = K0 ∧ γ = γe ∧ ∃ x : Int32, r = some (.int x) ∧ Q x σ τ
abbrev QV (γe : zGm) (Q : zSg → zLm → Prop) : zPost := fun r N kd γ σ τ => N = N0 ∧ kd = K0 ∧ γ = γe ∧ r = none ∧ Q σ τ
abbrev AI (l : Launch) (D : zDD) (b : Nat) (M : zMI) (h : Nat) (γe : zGm) (Q : Int32 → zSg → zLm → Prop) (pc : Nat) (lv : List (Nat × Value)) (stk : List Value) (γ : zGm) (σ : zSg) (τ : zLm) : Prop := zA l D b M h 0 0 0 (zZm D b 0 0 0 (QI γe Q)) pc lv stk 0 0 N0 K0 γ σ τ
abbrev AV (l : Launch) (D : zDD) (b : Nat) (M : zMI) (h : Nat) (γe : zGm) (Q : zSg → zLm → Prop) (pc : Nat) (lv : List (Nat × Value)) (stk : List Value) (γ : zGm) (σ : zSg) (τ : zLm) : Prop := zA l D b M h 0 0 0 (zZm D b 0 0 0 (QV γe Q)) pc lv stk 0 0 N0 K0 γ σ τ
abbrev SI (l : Launch) (D : zDD) (b : Nat) (M : zMI) (h : Nat) (γ : zGm) (av : List Value) (σ : zSg) (τ : zLm) (Q : Int32 → zSg → zLm → Prop) : Prop := zS l D b M h 0 0 0 av N0 K0 γ σ τ (QI γ Q)
abbrev SV (l : Launch) (D : zDD) (b : Nat) (M : zMI) (h : Nat) (γ : zGm) (av : List Value) (σ : zSg) (τ : zLm) (Q : zSg → zLm → Prop) : Prop := zS l D b M h 0 0 0 av N0 K0 γ σ τ (QV γ Q)
def okV (K : zMI) (np ci : Nat) : Prop := ∃ (C : String) (T : u_T) (nf : Nat), okM K np ∧ K.1.cls = C ∧ Cond.instanceMethod K.1 ∈ lw_tbl ∧ Cond.selects C K.1 K.1 ∈ lw_tbl ∧ cls12[ci]? = some (C, T, nf)
def okS (K : zMI) (np : Nat) : Prop := okM K np ∧ Cond.static K.1 ∈ lw_tbl
section RUN
variable {l : Launch} {D : zDD} {b : Nat} {M : zMI} {h kc ks : Nat} {Z : zZZ} {pc : Nat} {lv lv' : List (Nat × Value)} {stk st0 : List Value} {γ : zGm} {σ : zSg} {τ : zLm}
variable {K : zMI} {h' ci c0 index np : Nat} {F : Int32 → zSg → zLm → Prop} {G : zSg → zLm → Prop}
theorem rc_VI (As : List Value) (hok : okV K np ci) (hN : c0 < N0) (hk : (K0 c0).1 = ci + 4) (hw : Cond.methodLink M.1.cls index K.1 ∈ lw_tbl) (hn : As.length = np) (hst : st0 = As.reverse ++ .ref (b + c0) :: stk) (hroom : (stk.map fun v => v.category).sum ≤ 8) (hd : decode M.2.1 pc = .ok (.invokevirtual index, 3)) (hh : h' < h)
    (sp : SI l D b K h' γ (.ref (b + c0) :: As) σ τ F) (kk : ∀ x σ' τ', F x σ' τ' → zA l D b M h 0 kc ks Z (pc + 3) lv (.int x :: stk) 0 0 N0 K0 γ σ' τ') : zA l D b M h 0 kc ks Z pc lv st0 0 0 N0 K0 γ σ τ := by
  obtain ⟨C, T, nf, hok1, hC, hin, hse, hci⟩ := hok
  refine r_callV (mc' := 0) (ms' := 0) As hok1 hC hin hse hci hN hk hw hn hst hroom hd hh (Nat.zero_le _) (Nat.zero_le _) (zS.mono sp ?_)
  rintro r N kd γ' σ' τ' ⟨rfl, rfl, rfl, x, rfl, hF⟩
  exact kk x σ' τ' hF
theorem rc_VV (As : List Value) (hok : okV K np ci) (hN : c0 < N0) (hk : (K0 c0).1 = ci + 4) (hw : Cond.methodLink M.1.cls index K.1 ∈ lw_tbl) (hn : As.length = np) (hst : st0 = As.reverse ++ .ref (b + c0) :: stk) (hroom : (stk.map fun v => v.category).sum ≤ 8) (hd : decode M.2.1 pc = .ok (.invokevirtual index, 3)) (hh : h' < h)
    (sp : SV l D b K h' γ (.ref (b + c0) :: As) σ τ G) (kk : ∀ σ' τ', G σ' τ' → zA l D b M h 0 kc ks Z (pc + 3) lv stk 0 0 N0 K0 γ σ' τ') : zA l D b M h 0 kc ks Z pc lv st0 0 0 N0 K0 γ σ τ := by
  obtain ⟨C, T, nf, hok1, hC, hin, hse, hci⟩ := hok
  refine r_callV (mc' := 0) (ms' := 0) As hok1 hC hin hse hci hN hk hw hn hst hroom hd hh (Nat.zero_le _) (Nat.zero_le _) (zS.mono sp ?_)
  rintro r N kd γ' σ' τ' ⟨rfl, rfl, rfl, rfl, hF⟩
  exact kk σ' τ' hF
theorem rc_SI (As : List Value) (hok : okS K np) (hw : Cond.methodLink M.1.cls index K.1 ∈ lw_tbl) (hn : As.length = np) (hst : st0 = As.reverse ++ stk) (hroom : (stk.map fun v => v.category).sum ≤ 8) (hd : decode M.2.1 pc = .ok (.invokestatic index, 3)) (hh : h' < h)
    (sp : SI l D b K h' γ As σ τ F) (kk : ∀ x σ' τ', F x σ' τ' → zA l D b M h 0 kc ks Z (pc + 3) lv (.int x :: stk) 0 0 N0 K0 γ σ' τ') : zA l D b M h 0 kc ks Z pc lv st0 0 0 N0 K0 γ σ τ := by
  refine r_callS (mc' := 0) (ms' := 0) As hok.1 hok.2 hw hn hst hroom hd hh (Nat.zero_le _) (Nat.zero_le _) (zS.mono sp ?_)
  rintro r N kd γ' σ' τ' ⟨rfl, rfl, rfl, x, rfl, hF⟩
  exact kk x σ' τ' hF
theorem rc_SV (As : List Value) (hok : okS K np) (hw : Cond.methodLink M.1.cls index K.1 ∈ lw_tbl) (hn : As.length = np) (hst : st0 = As.reverse ++ stk) (hroom : (stk.map fun v => v.category).sum ≤ 8) (hd : decode M.2.1 pc = .ok (.invokestatic index, 3)) (hh : h' < h)
    (sp : SV l D b K h' γ As σ τ G) (kk : ∀ σ' τ', G σ' τ' → zA l D b M h 0 kc ks Z (pc + 3) lv stk 0 0 N0 K0 γ σ' τ') : zA l D b M h 0 kc ks Z pc lv st0 0 0 N0 K0 γ σ τ := by
  refine r_callS (mc' := 0) (ms' := 0) As hok.1 hok.2 hw hn hst hroom hd hh (Nat.zero_le _) (Nat.zero_le _) (zS.mono sp ?_)
  rintro r N kd γ' σ' τ' ⟨rfl, rfl, rfl, rfl, hF⟩
  exact kk σ' τ' hF
theorem r_nmI {fz k n N : Nat} {kd : zKd} {x : Int32} (a : ∀ y : Int32, y = x → zA l D b M h fz kc ks Z pc lv (.int y :: stk) k n N kd γ σ τ) : zA l D b M h fz kc ks Z pc lv (.int x :: stk) k n N kd γ σ τ := a x rfl
theorem r_nmL {fz k n N : Nat} {kd : zKd} {x : Int64} (a : ∀ y : Int64, y = x → zA l D b M h fz kc ks Z pc lv (.long y :: stk) k n N kd γ σ τ) : zA l D b M h fz kc ks Z pc lv (.long x :: stk) k n N kd γ σ τ := a x rfl
theorem r_nmS {fz k n N : Nat} {kd : zKd} (a : ∀ σ' : zSg, σ' = σ → zA l D b M h fz kc ks Z pc lv stk k n N kd γ σ' τ) : zA l D b M h fz kc ks Z pc lv stk k n N kd γ σ τ := a σ rfl
theorem r_inc {fz k n N : Nat} {kd : zKd} (q : Nat) {i : Nat} {z : Int} {x w : Int32} (hd : decode M.2.1 pc = .ok (.iinc i z, 3)) (hq : lv[q]? = some (i, .int x)) (hz : Int32.ofInt z = w) (hn : i < M.2.2.1) (hl0 : (i, Value.int (x + w)) :: lv.filter (fun q => !(q.1 == i) && !(q.1 + 1 == i && q.2.category == 2)) = lv') (a : zA l D b M h fz kc ks Z (pc + 3) lv' stk k n N kd γ σ τ) : zA l D b M h fz kc ks Z pc lv stk k n N kd γ σ τ := r_iinc q hd hq (by rw [hz]) hn hl0 a
end RUN
theorem sw_fin {hi : Nat} {x : Int32} (h : ¬ (x.toInt < 0 ∨ (hi : Int) < x.toInt)) : ∃ j : Nat, j ≤ hi ∧ x = nI j := by
  refine ⟨x.toInt.toNat, by omega, ?_⟩
  apply Int32.toInt_inj.mp
  have h1 : x.toInt.toNat < 2 ^ 31 := by
    have := x.toInt_lt
    omega
  rw [nI_toInt h1]
  omega
theorem sw_2 {x : Int32} (h : ¬ (x.toInt < 0 ∨ (2 : Int) < x.toInt)) : x = 0 ∨ x = 1 ∨ x = 2 := by
  obtain ⟨j, hj, rfl⟩ := sw_fin (hi := 2) h
  exact (by decide : ∀ j : Fin 3, nI j.1 = 0 ∨ nI j.1 = 1 ∨ nI j.1 = 2) ⟨j, by omega⟩
theorem sw_8 {x : Int32} (h : ¬ (x.toInt < 0 ∨ (8 : Int) < x.toInt)) : x = 0 ∨ x = 1 ∨ x = 2 ∨ x = 3 ∨ x = 4 ∨ x = 5 ∨ x = 6 ∨ x = 7 ∨ x = 8 := by
  obtain ⟨j, hj, rfl⟩ := sw_fin (hi := 8) h
  exact (by decide : ∀ j : Fin 9, nI j.1 = 0 ∨ nI j.1 = 1 ∨ nI j.1 = 2 ∨ nI j.1 = 3 ∨ nI j.1 = 4 ∨ nI j.1 = 5 ∨ nI j.1 = 6 ∨ nI j.1 = 7 ∨ nI j.1 = 8) ⟨j, by omega⟩
theorem sw_18 {x : Int32} (h : ¬ (x.toInt < 0 ∨ (18 : Int) < x.toInt)) : x = 0 ∨ x = 1 ∨ x = 2 ∨ x = 3 ∨ x = 4 ∨ x = 5 ∨ x = 6 ∨ x = 7 ∨ x = 8 ∨ x = 9 ∨ x = 10 ∨ x = 11 ∨ x = 12 ∨ x = 13 ∨ x = 14 ∨ x = 15 ∨ x = 16 ∨ x = 17 ∨ x = 18 := by
  obtain ⟨j, hj, rfl⟩ := sw_fin (hi := 18) h
  exact (by decide : ∀ j : Fin 19, nI j.1 = 0 ∨ nI j.1 = 1 ∨ nI j.1 = 2 ∨ nI j.1 = 3 ∨ nI j.1 = 4 ∨ nI j.1 = 5 ∨ nI j.1 = 6 ∨ nI j.1 = 7 ∨ nI j.1 = 8 ∨ nI j.1 = 9 ∨ nI j.1 = 10 ∨ nI j.1 = 11 ∨ nI j.1 = 12 ∨ nI j.1 = 13 ∨ nI j.1 = 14 ∨ nI j.1 = 15 ∨ nI j.1 = 16 ∨ nI j.1 = 17 ∨ nI j.1 = 18) ⟨j, by omega⟩
theorem sw_27 {x : Int32} (h : ¬ (x.toInt < 0 ∨ (27 : Int) < x.toInt)) : x = 0 ∨ x = 1 ∨ x = 2 ∨ x = 3 ∨ x = 4 ∨ x = 5 ∨ x = 6 ∨ x = 7 ∨ x = 8 ∨ x = 9 ∨ x = 10 ∨ x = 11 ∨ x = 12 ∨ x = 13 ∨ x = 14 ∨ x = 15 ∨ x = 16 ∨ x = 17 ∨ x = 18 ∨ x = 19 ∨ x = 20 ∨ x = 21 ∨ x = 22 ∨ x = 23 ∨ x = 24 ∨ x = 25 ∨ x = 26 ∨ x = 27 := by
  obtain ⟨j, hj, rfl⟩ := sw_fin (hi := 27) h
  exact (by decide : ∀ j : Fin 28, nI j.1 = 0 ∨ nI j.1 = 1 ∨ nI j.1 = 2 ∨ nI j.1 = 3 ∨ nI j.1 = 4 ∨ nI j.1 = 5 ∨ nI j.1 = 6 ∨ nI j.1 = 7 ∨ nI j.1 = 8 ∨ nI j.1 = 9 ∨ nI j.1 = 10 ∨ nI j.1 = 11 ∨ nI j.1 = 12 ∨ nI j.1 = 13 ∨ nI j.1 = 14 ∨ nI j.1 = 15 ∨ nI j.1 = 16 ∨ nI j.1 = 17 ∨ nI j.1 = 18 ∨ nI j.1 = 19 ∨ nI j.1 = 20 ∨ nI j.1 = 21 ∨ nI j.1 = 22 ∨ nI j.1 = 23 ∨ nI j.1 = 24 ∨ nI j.1 = 25 ∨ nI j.1 = 26 ∨ nI j.1 = 27) ⟨j, by omega⟩
