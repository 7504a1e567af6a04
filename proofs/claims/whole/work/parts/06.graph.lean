/-! THE GRAPH of the cells once all constructors have run; contracts and calls in it. -/
abbrev N0 : Nat := 144
def K0t (c : Nat) : Nat × Nat := match c with
  | 0 => (14, 0)
  | 1 => (11, 0)
  | 2 => (0, 240)
  | 3 => (10, 0)
  | 4 => (0, 6)
  | 5 => (0, 6)
  | 6 => (0, 6)
  | 7 => (0, 6)
  | 8 => (10, 0)
  | 9 => (0, 6)
  | 10 => (0, 6)
  | 11 => (0, 6)
  | 12 => (0, 6)
  | 13 => (12, 0)
  | 14 => (0, 6)
  | 15 => (0, 6)
  | 16 => (0, 6)
  | 17 => (0, 6)
  | 18 => (13, 0)
  | 19 => (0, 16)
  | 20 => (0, 16)
  | 21 => (7, 0)
  | 22 => (6, 0)
  | 23 => (9, 0)
  | 24 => (3, 16)
  | 25 => (3, 2)
  | 26 => (0, 2)
  | 27 => (1, 2)
  | 118 => (8, 0)
  | 119 => (0, 12)
  | 120 => (5, 0)
  | 121 => (0, 25)
  | 122 => (4, 0)
  | 123 => (0, 15)
  | 124 => (0, 15)
  | 125 => (15, 0)
  | 126 => (0, 240)
  | 127 => (0, 6)
  | 128 => (0, 6)
  | 129 => (0, 6)
  | 130 => (0, 6)
  | 131 => (0, 6)
  | 132 => (0, 6)
  | 133 => (0, 26)
  | 134 => (0, 416)
  | 135 => (0, 16)
  | 136 => (0, 6)
  | 137 => (1, 6)
  | 138 => (0, 25)
  | 139 => (0, 15)
  | 140 => (0, 15)
  | 141 => (1, 2)
  | 142 => (0, 52)
  | 143 => (2, 2)
  | _ => (0, 0)
def K0 : zKd := fun c => if 28 ≤ c ∧ c < 118 then (if (c - 28) % 5 = 0 then (12, 0) else (0, 6)) else K0t c
def scF (c j : Nat) : Option Nat := if 2 ≤ j ∧ j ≤ 5 then some (c + (j - 1)) else none
def G0t (c : Nat) : Nat → Option Nat := match c with
  | 0 => (fun j => match j with | 0 => some 1 | 1 => some 3 | 2 => some 8 | 3 => some 13 | 4 => some 18 | 5 => some 21 | 6 => some 22 | 7 => some 23 | 8 => some 118 | 9 => some 120 | 10 => some 122 | _ => none)
  | 1 => (fun j => match j with | 0 => some 2 | _ => none)
  | 3 => (fun j => match j with | 4 => some 4 | 5 => some 5 | 6 => some 6 | 7 => some 7 | _ => none)
  | 8 => (fun j => match j with | 4 => some 9 | 5 => some 10 | 6 => some 11 | 7 => some 12 | _ => none)
  | 18 => (fun j => match j with | 0 => some 19 | 1 => some 20 | _ => none)
  | 22 => (fun j => match j with | 0 => some 8 | 1 => some 13 | 2 => some 18 | 3 => some 21 | _ => none)
  | 23 => (fun j => match j with | 0 => some 24 | 1 => some 25 | 2 => some 26 | 3 => some 27 | _ => none)
  | 118 => (fun j => match j with | 0 => some 119 | _ => none)
  | 120 => (fun j => match j with | 5 => some 121 | _ => none)
  | 122 => (fun j => match j with | 1 => some 123 | 2 => some 124 | _ => none)
  | 125 => (fun j => match j with | 1 => some 126 | 10 => some 127 | 11 => some 128 | 12 => some 129 | 13 => some 130 | 18 => some 131 | 19 => some 132 | 20 => some 133 | 23 => some 134 | 25 => some 135 | 27 => some 136 | 28 => some 137 | 29 => some 138 | 31 => some 139 | 32 => some 140 | 33 => some 141 | 34 => some 142 | 35 => some 143 | _ => none)
  | 13 => scF 13
  | 24 => (fun j => if j < 16 then some (28 + 5 * j) else none)
  | 25 => (fun j => if j < 2 then some (108 + 5 * j) else none)
  | _ => (fun _ => none)
def G0 : zGm := fun c => if 28 ≤ c ∧ c < 118 then (if (c - 28) % 5 = 0 then scF c else (fun _ => none)) else G0t c
def isSc (c : Nat) : Prop := c = 13 ∨ (28 ≤ c ∧ c < 118 ∧ (c - 28) % 5 = 0)
theorem isSc_K {c : Nat} (h : isSc c) : K0 c = (12, 0) := by
  rcases h with rfl | ⟨h1, h2, h3⟩
  · rfl
  · unfold K0; rw [if_pos ⟨h1, h2⟩, if_pos h3]
theorem isSc_lt {c : Nat} (h : isSc c) : c + 4 < N0 := by
  rcases h with rfl | ⟨h1, h2, h3⟩
  · decide
  · show c + 4 < 144; omega
theorem isSc_A {c k : Nat} (h : isSc c) (h1 : 1 ≤ k) (h2 : k ≤ 4) : K0 (c + k) = (0, 6) := by
  rcases h with rfl | ⟨h3, h4, h5⟩
  · rcases (show k = 1 ∨ k = 2 ∨ k = 3 ∨ k = 4 by omega) with rfl | rfl | rfl | rfl <;> rfl
  · unfold K0; rw [if_pos (by omega), if_neg (by omega)]
theorem isSc_G {c j : Nat} (h : isSc c) (h1 : 2 ≤ j) (h2 : j ≤ 5) : G0 c j = some (c + (j - 1)) := by
  rcases h with rfl | ⟨h3, h4, h5⟩
  · show G0t 13 j = _
    show scF 13 j = _
    unfold scF; rw [if_pos ⟨h1, h2⟩]
  · unfold G0; rw [if_pos ⟨h3, h4⟩, if_pos h5]
    unfold scF; rw [if_pos ⟨h1, h2⟩]
theorem isSc_un {j : Nat} (h : j < 16) : isSc (28 + 5 * j) := Or.inr ⟨by omega, by omega, by omega⟩
theorem isSc_im {j : Nat} (h : j < 2) : isSc (108 + 5 * j) := Or.inr ⟨by omega, by omega, by omega⟩
theorem G0_24 {j : Nat} (h : j < 16) : G0 24 j = some (28 + 5 * j) := by
  show (if j < 16 then some (28 + 5 * j) else none) = _
  rw [if_pos h]
theorem G0_25 {j : Nat} (h : j < 2) : G0 25 j = some (108 + 5 * j) := by
  show (if j < 2 then some (108 + 5 * j) else none) = _
  rw [if_pos h]
theorem vp_lt {i : Int32} {n : Nat} (h : vp_in i n) : i.toNatClampNeg < n := Nat.not_le.mp fun q => h (Or.inr q)
theorem zS.mono {l : Launch} {D : zDD} {b : Nat} {M : zMI} {h fz mc ms : Nat} {av : List Value} {N : Nat} {kd : zKd} {γ : zGm} {σ : zSg} {τ : zLm} {Q Q' : zPost} (a : zS l D b M h fz mc ms av N kd γ σ τ Q) (hq : ∀ r N kd γ σ τ, Q r N kd γ σ τ → Q' r N kd γ σ τ) : zS l D b M h fz mc ms av N kd γ σ τ Q' := by
  intro p e ha hc hk s m args below hf happ hP hK
  obtain ⟨n, o, h1, h2, h3, ⟨⟨r, N', kd', γ', σ', τ', e1, e2, e3⟩, hF⟩, L⟩ := a p e ha hc hk s m args below hf happ hP hK
  exact ⟨n, o, h1, h2, h3, ⟨⟨r, N', kd', γ', σ', τ', e1, hq _ _ _ _ _ _ e2, e3⟩, hF⟩, L⟩
abbrev QI (γe : zGm) (Q : Int32 → zSg → zLm → Prop) : zPost := fun r N kd γ σ τ => N = N0 ∧ kd = K0 ∧ γ = γe ∧ ∃ x : Int32, r = some (.int x) ∧ Q x σ τ
abbrev QV (γe : zGm) (Q : zSg → zLm → Prop) : zPost := fun r N kd γ σ τ => N = N0 ∧ kd = K0 ∧ γ = γe ∧ r = none ∧ Q σ τ
abbrev AI (l : Launch) (D : zDD) (b : Nat) (M : zMI) (h : Nat) (γe : zGm) (Q : Int32 → zSg → zLm → Prop) (pc : Nat) (lv : List (Nat × Value)) (stk : List Value) (γ : zGm) (σ : zSg) (τ : zLm) : Prop := zA l D b M h 0 0 0 (zZm D b 0 0 0 (QI γe Q)) pc lv stk 0 0 N0 K0 γ σ τ
abbrev AV (l : Launch) (D : zDD) (b : Nat) (M : zMI) (h : Nat) (γe : zGm) (Q : zSg → zLm → Prop) (pc : Nat) (lv : List (Nat × Value)) (stk : List Value) (γ : zGm) (σ : zSg) (τ : zLm) : Prop := zA l D b M h 0 0 0 (zZm D b 0 0 0 (QV γe Q)) pc lv stk 0 0 N0 K0 γ σ τ
abbrev SI (l : Launch) (D : zDD) (b : Nat) (M : zMI) (h : Nat) (γ : zGm) (av : List Value) (σ : zSg) (τ : zLm) (Q : Int32 → zSg → zLm → Prop) : Prop := zS l D b M h 0 0 0 av N0 K0 γ σ τ (QI γ Q)
abbrev SV (l : Launch) (D : zDD) (b : Nat) (M : zMI) (h : Nat) (γ : zGm) (av : List Value) (σ : zSg) (τ : zLm) (Q : zSg → zLm → Prop) : Prop := zS l D b M h 0 0 0 av N0 K0 γ σ τ (QV γ Q)
def okV (K : zMI) (np ci : Nat) : Prop := ∃ (C : String) (T : u_T) (nf : Nat), okM K np ∧ K.1.cls = C ∧ Cond.instanceMethod K.1 ∈ lw_tbl ∧ Cond.selects C K.1 K.1 ∈ lw_tbl ∧ cls12[ci]? = some (C, T, nf)
def okS (K : zMI) (np : Nat) : Prop := okM K np ∧ Cond.static K.1 ∈ lw_tbl
section RUN
variable {l : Launch} {D : zDD} {b : Nat} {M : zMI} {h kc ks : Nat} {Z : zZZ} {pc : Nat} {lv lv' : List (Nat × Value)} {stk st0 : List Value} {γ : zGm} {σ : zSg} {τ : zLm}
variable {K : zMI} {h' ci c0 index np : Nat} {F : Int32 → zSg → zLm → Prop} {G : zSg → zLm → Prop}
theorem rc_VI (As : List Value) (hok : okV K np ci) (hN : c0 < N0) (hk : (K0 c0).1 = ci + 4) (hw : Cond.methodLink M.1.cls index K.1 ∈ lw_tbl) (hn : As.length = np) (hst : st0 = As.reverse ++ .ref (b + c0) :: stk) (hroom : (stk.map fun v => v.category).sum ≤ 8) (hd : decode M.2.1 pc = .ok (.invokevirtual index, 3)) (hh : h' < h)
    (sp : SI l D b K h' γ (.ref (b + c0) :: As) σ τ F) (kk : ∀ x σ' τ', F x σ' τ' → zA l D b M h 0 kc ks Z (pc + 3) lv (.int x :: stk) 0 0 N0 K0 γ σ' τ') : zA l D b M h 0 kc ks Z pc lv st0 0 0 N0 K0 γ σ τ := by
  obtain ⟨C, T, nf, hok1, hC, hin, hse, hci⟩ := hok
  refine r_callV (mc' := 0) (ms' := 0) As hok1 hC hin hse hci hN hk hw hn hst hroom hd hh (Nat.zero_le _) (Nat.zero_le _) (zS.mono sp ?_)
  rintro r N kd γ' σ' τ' ⟨rfl, rfl, rfl, x, rfl, hF⟩
  exact kk x σ' τ' hF
theorem rc_VV (As : List Value) (hok : okV K np ci) (hN : c0 < N0) (hk : (K0 c0).1 = ci + 4) (hw : Cond.methodLink M.1.cls index K.1 ∈ lw_tbl) (hn : As.length = np) (hst : st0 = As.reverse ++ .ref (b + c0) :: stk) (hroom : (stk.map fun v => v.category).sum ≤ 8) (hd : decode M.2.1 pc = .ok (.invokevirtual index, 3)) (hh : h' < h)
    (sp : SV l D b K h' γ (.ref (b + c0) :: As) σ τ G) (kk : ∀ σ' τ', G σ' τ' → zA l D b M h 0 kc ks Z (pc + 3) lv stk 0 0 N0 K0 γ σ' τ') : zA l D b M h 0 kc ks Z pc lv st0 0 0 N0 K0 γ σ τ := by
  obtain ⟨C, T, nf, hok1, hC, hin, hse, hci⟩ := hok
  refine r_callV (mc' := 0) (ms' := 0) As hok1 hC hin hse hci hN hk hw hn hst hroom hd hh (Nat.zero_le _) (Nat.zero_le _) (zS.mono sp ?_)
  rintro r N kd γ' σ' τ' ⟨rfl, rfl, rfl, rfl, hF⟩
  exact kk σ' τ' hF
theorem rc_SI (As : List Value) (hok : okS K np) (hw : Cond.methodLink M.1.cls index K.1 ∈ lw_tbl) (hn : As.length = np) (hst : st0 = As.reverse ++ stk) (hroom : (stk.map fun v => v.category).sum ≤ 8) (hd : decode M.2.1 pc = .ok (.invokestatic index, 3)) (hh : h' < h)
    (sp : SI l D b K h' γ As σ τ F) (kk : ∀ x σ' τ', F x σ' τ' → zA l D b M h 0 kc ks Z (pc + 3) lv (.int x :: stk) 0 0 N0 K0 γ σ' τ') : zA l D b M h 0 kc ks Z pc lv st0 0 0 N0 K0 γ σ τ := by
  refine r_callS (mc' := 0) (ms' := 0) As hok.1 hok.2 hw hn hst hroom hd hh (Nat.zero_le _) (Nat.zero_le _) (zS.mono sp ?_)
  rintro r N kd γ' σ' τ' ⟨rfl, rfl, rfl, x, rfl, hF⟩
  exact kk x σ' τ' hF
theorem r_nmI {fz k n N : Nat} {kd : zKd} {x : Int32} (a : ∀ y : Int32, y = x → zA l D b M h fz kc ks Z pc lv (.int y :: stk) k n N kd γ σ τ) : zA l D b M h fz kc ks Z pc lv (.int x :: stk) k n N kd γ σ τ := a x rfl
theorem r_nmL {fz k n N : Nat} {kd : zKd} {x : Int64} (a : ∀ y : Int64, y = x → zA l D b M h fz kc ks Z pc lv (.long y :: stk) k n N kd γ σ τ) : zA l D b M h fz kc ks Z pc lv (.long x :: stk) k n N kd γ σ τ := a x rfl
theorem r_nmS {fz k n N : Nat} {kd : zKd} (a : ∀ σ' : zSg, σ' = σ → zA l D b M h fz kc ks Z pc lv stk k n N kd γ σ' τ) : zA l D b M h fz kc ks Z pc lv stk k n N kd γ σ τ := a σ rfl
theorem r_inc {fz k n N : Nat} {kd : zKd} (q : Nat) {i : Nat} {z : Int} {x w : Int32} (hd : decode M.2.1 pc = .ok (.iinc i z, 3)) (hq : lv[q]? = some (i, .int x)) (hz : Int32.ofInt z = w) (hn : i < M.2.2.1) (hl0 : (i, Value.int (x + w)) :: lv.filter (fun q => !(q.1 == i) && !(q.1 + 1 == i && q.2.category == 2)) = lv') (a : zA l D b M h fz kc ks Z (pc + 3) lv' stk k n N kd γ σ τ) : zA l D b M h fz kc ks Z pc lv stk k n N kd γ σ τ := r_iinc q hd hq (by rw [hz]) hn hl0 a
end RUN
theorem sw_fin {hi : Nat} {x : Int32} (h : ¬ (x.toInt < 0 ∨ (hi : Int) < x.toInt)) : ∃ j : Nat, j ≤ hi ∧ x = nI j := by
  refine ⟨x.toInt.toNat, by omega, ?_⟩
  apply Int32.toInt_inj.mp
  have h1 : x.toInt.toNat < 2 ^ 31 := by
    have := x.toInt_lt
    omega
  rw [nI_toInt h1]
  omega
theorem sw_2 {x : Int32} (h : ¬ (x.toInt < 0 ∨ (2 : Int) < x.toInt)) : x = 0 ∨ x = 1 ∨ x = 2 := by
  obtain ⟨j, hj, rfl⟩ := sw_fin (hi := 2) h
  exact (by decide : ∀ j : Fin 3, nI j.1 = 0 ∨ nI j.1 = 1 ∨ nI j.1 = 2) ⟨j, by omega⟩
theorem sw_8 {x : Int32} (h : ¬ (x.toInt < 0 ∨ (8 : Int) < x.toInt)) : x = 0 ∨ x = 1 ∨ x = 2 ∨ x = 3 ∨ x = 4 ∨ x = 5 ∨ x = 6 ∨ x = 7 ∨ x = 8 := by
  obtain ⟨j, hj, rfl⟩ := sw_fin (hi := 8) h
  exact (by decide : ∀ j : Fin 9, nI j.1 = 0 ∨ nI j.1 = 1 ∨ nI j.1 = 2 ∨ nI j.1 = 3 ∨ nI j.1 = 4 ∨ nI j.1 = 5 ∨ nI j.1 = 6 ∨ nI j.1 = 7 ∨ nI j.1 = 8) ⟨j, by omega⟩
theorem sw_18 {x : Int32} (h : ¬ (x.toInt < 0 ∨ (18 : Int) < x.toInt)) : x = 0 ∨ x = 1 ∨ x = 2 ∨ x = 3 ∨ x = 4 ∨ x = 5 ∨ x = 6 ∨ x = 7 ∨ x = 8 ∨ x = 9 ∨ x = 10 ∨ x = 11 ∨ x = 12 ∨ x = 13 ∨ x = 14 ∨ x = 15 ∨ x = 16 ∨ x = 17 ∨ x = 18 := by
  obtain ⟨j, hj, rfl⟩ := sw_fin (hi := 18) h
  exact (by decide : ∀ j : Fin 19, nI j.1 = 0 ∨ nI j.1 = 1 ∨ nI j.1 = 2 ∨ nI j.1 = 3 ∨ nI j.1 = 4 ∨ nI j.1 = 5 ∨ nI j.1 = 6 ∨ nI j.1 = 7 ∨ nI j.1 = 8 ∨ nI j.1 = 9 ∨ nI j.1 = 10 ∨ nI j.1 = 11 ∨ nI j.1 = 12 ∨ nI j.1 = 13 ∨ nI j.1 = 14 ∨ nI j.1 = 15 ∨ nI j.1 = 16 ∨ nI j.1 = 17 ∨ nI j.1 = 18) ⟨j, by omega⟩
theorem sw_27 {x : Int32} (h : ¬ (x.toInt < 0 ∨ (27 : Int) < x.toInt)) : x = 0 ∨ x = 1 ∨ x = 2 ∨ x = 3 ∨ x = 4 ∨ x = 5 ∨ x = 6 ∨ x = 7 ∨ x = 8 ∨ x = 9 ∨ x = 10 ∨ x = 11 ∨ x = 12 ∨ x = 13 ∨ x = 14 ∨ x = 15 ∨ x = 16 ∨ x = 17 ∨ x = 18 ∨ x = 19 ∨ x = 20 ∨ x = 21 ∨ x = 22 ∨ x = 23 ∨ x = 24 ∨ x = 25 ∨ x = 26 ∨ x = 27 := by
  obtain ⟨j, hj, rfl⟩ := sw_fin (hi := 27) h
  exact (by decide : ∀ j : Fin 28, nI j.1 = 0 ∨ nI j.1 = 1 ∨ nI j.1 = 2 ∨ nI j.1 = 3 ∨ nI j.1 = 4 ∨ nI j.1 = 5 ∨ nI j.1 = 6 ∨ nI j.1 = 7 ∨ nI j.1 = 8 ∨ nI j.1 = 9 ∨ nI j.1 = 10 ∨ nI j.1 = 11 ∨ nI j.1 = 12 ∨ nI j.1 = 13 ∨ nI j.1 = 14 ∨ nI j.1 = 15 ∨ nI j.1 = 16 ∨ nI j.1 = 17 ∨ nI j.1 = 18 ∨ nI j.1 = 19 ∨ nI j.1 = 20 ∨ nI j.1 = 21 ∨ nI j.1 = 22 ∨ nI j.1 = 23 ∨ nI j.1 = 24 ∨ nI j.1 = 25 ∨ nI j.1 = 26 ∨ nI j.1 = 27) ⟨j, by omega⟩
