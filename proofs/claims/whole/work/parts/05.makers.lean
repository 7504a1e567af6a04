/-! MAKERS: new objects and arrays; stores of references; Object's constructor; System.arraycopy. -/
def tyk (t : FieldType) : Bool := match t with
  | .int => true | .long => true | .object _ => true | .array _ => true | _ => false
theorem cTy_ok {t : Nat} : ∀ j, j < cN t → tyk (cTy t j) = true := by
  match t with
  | 0 => decide +kernel
  | 1 => decide +kernel
  | 2 => decide +kernel
  | 3 => decide +kernel
  | 4 => decide +kernel
  | 5 => decide +kernel
  | 6 => decide +kernel
  | 7 => decide +kernel
  | 8 => decide +kernel
  | 9 => decide +kernel
  | 10 => decide +kernel
  | 11 => decide +kernel
  | t + 12 => intro j hj; exact absurd hj (Nat.not_lt_zero j)
theorem flds_dflt {b t j : Nat} (hj : j < cN t) : defaultValue (cTy t j) = vp_V (fldsOf b t (fun _ => none) (fun _ => 0) (fun _ => 0)) j := by
  have h := cTy_ok (t := t) j hj
  unfold vp_V
  rw [List.getD_eq_getElem?_getD, flds_get hj, Option.getD_some]
  cases hx : cTy t j <;> rw [hx] at h <;> first | rfl | cases h
section MAKERS
variable {l : Launch} {D : zDD} {b : Nat} {M : zMI} {h fz kc ks : Nat} {Z : zZZ} {pc : Nat} {lv lv' : List (Nat × Value)} {stk st0 : List Value} {k n N : Nat} {kd : zKd} {γ : zGm} {σ : zSg} {τ : zLm} {Q : zPost} {mc ms : Nat}
theorem wl_pushed {H H1 : Heap} {ky : Nat × Nat} {g : Nat → Option Nat} {x : Nat → Int32} {y : Nat → Int64} (hP : va_P D.1 cls12 (wl D b N kd γ σ τ) H) (hz : H.size = b + N) (o1 : ∀ q, q < b + N → H1[q]? = H[q]?) (hat : va_at D.1 cls12 (b + N, zEnt D b ky g x y) H1) : va_P D.1 cls12 (wl D b (N + 1) (va_up kd N ky) (va_up γ N g) (va_up σ N x) (va_up τ N y)) H1 := by
  have hk : ∀ (k : Nat) (x : Nat × va_E), (wl D b N kd γ σ τ)[k]? = some x → H1[x.1]? = H[x.1]? := fun k x hx => o1 x.1 (by rw [← hz]; exact (hP k x hx).lt)
  have h1 := (hP.kept hk).app (w2 := [(b + N, zEnt D b ky g x y)]) (fun k x hx => by
    have hz : k < 1 := (List.getElem?_eq_some_iff.mp hx).1
    rw [show k = 0 by omega] at hx
    cases hx
    exact hat)
  rw [wlE_push, zEE_new] at h1
  exact h1
theorem r_new {ci : Nat} {C : String} {T : u_T} {nf index : Nat} (hci : cls12[ci]? = some (C, T, nf)) (hw : Cond.classLink M.1.cls index C ∈ lw_tbl) (hi : Cond.instantiable C nf ∈ lw_tbl) (hini : Cond.initialized C ∈ lw_tbl) (hd : decode M.2.1 pc = .ok (.new index, 3)) (hkc : k + 1 ≤ kc) (hks : n + nf ≤ ks)
    (a : zA l D b M h 1 kc ks Z (pc + 3) lv (.ref (b + N) :: stk) (k + 1) (n + nf) (N + 1) (va_up kd N (ci + 4, 0)) (va_up γ N (fun _ => none)) (va_up σ N (fun _ => 0)) (va_up τ N (fun _ => 0))) : zA l D b M h 1 kc ks Z pc lv stk k n N kd γ σ τ := by
  intro p e R s m args below meth c Cc H locs ls hl hW hS
  obtain ⟨hx, hbb, hr, hml, hown, hts, hlk, hnm, hbs, hf, hlo, hkc2, hks2, hNW⟩ := id Cc
  obtain ⟨hcn, hci2, hpt, hnm2⟩ := cls_N hci
  obtain ⟨hP, hK, hz⟩ := hW
  have hz : H.size = b + N := hz.resolve_left (by decide)
  have hKn := hK.1 ci _ hci
  refine W.newcK hx hbb hown (hts _ (lw_gIn hw rfl)) (hts _ (lw_gIn hi rfl)) (hts _ (lw_gIn hini rfl)) rfl hd (Nat.le_trans hkc hkc2) (Nat.le_trans hks hks2) hKn.2.1 hz fun H1 kC hkC e1 z1 o1 => ?_
  refine a p e R s m args below meth c Cc H1 locs ls hl ⟨wl_pushed hP hz o1 ?_, hK, Or.inr (by rw [z1]; omega)⟩ ⟨Nat.le_trans hS.1 (by omega), fun x h1 h2 => (o1 x (by have := hS.1; omega)).trans (hS.2.1 x h1 h2), hS.2.2⟩
  exact ⟨_, hci, (u_born (cTy ci) hts hci2 hKn hkC e1 hpt).to (fun j hj => flds_dflt (by rw [hcn]; exact hj))⟩
theorem r_newarr {atype : ArrayType} {ty : FieldType} {tag len : Nat} {v : Int32} (hty : newarray.typeOf atype = ty) (htag : (tag = 0 ∧ ty = .int) ∨ (tag = 1 ∧ ty = .boolean) ∨ (tag = 2 ∧ ty = .long)) (hw : Cond.arrayClass ty ∈ lw_tbl) (hv : ¬ v < 0) (hlen : v.toNatClampNeg = len) (hb8 : len ≤ 1000) (hd : decode M.2.1 pc = .ok (.newarray atype, 2)) (hkc : k + 1 ≤ kc) (hks : n + len ≤ ks)
    (a : zA l D b M h 1 kc ks Z (pc + 2) lv (.ref (b + N) :: stk) (k + 1) (n + len) (N + 1) (va_up kd N (tag, len)) (va_up γ N (fun _ => none)) (va_up σ N (fun _ => 0)) (va_up τ N (fun _ => 0))) : zA l D b M h 1 kc ks Z pc lv (.int v :: stk) k n N kd γ σ τ := by
  intro p e R s m args below meth c Cc H locs ls hl hW hS
  obtain ⟨hx, hbb, hr, hml, hown, hts, hlk, hnm, hbs, hf, hlo, hkc2, hks2, hNW⟩ := id Cc
  obtain ⟨hP, hK, hz⟩ := hW
  have hz : H.size = b + N := hz.resolve_left (by decide)
  subst hty
  have hcb : len * componentBytes (newarray.typeOf atype) ≤ 536870912 := by
    have : componentBytes (newarray.typeOf atype) ≤ 8 := by cases atype <;> decide
    have h2 := Nat.mul_le_mul hb8 this
    omega
  refine va_newaK hx hbb (hts _ (lw_gIn hw rfl)) rfl hd rfl hv hlen hcb (Nat.le_trans hkc hkc2) (Nat.le_trans hks hks2) hz fun H1 cA e1 z1 o1 hAr hNm => ?_
  refine a p e R s m args below meth c Cc H1 locs ls hl ⟨wl_pushed hP hz o1 ?_, hK, Or.inr (by rw [z1]; omega)⟩ ⟨Nat.le_trans hS.1 (by omega), fun x h1 h2 => (o1 x (by have := hS.1; omega)).trans (hS.2.1 x h1 h2), hS.2.2⟩
  rcases htag with ⟨rfl, ht⟩ | ⟨rfl, ht⟩ | ⟨rfl, ht⟩
  · have hA : cA = D.2 0 := by
      have h2 := (hK.2 0 _ rfl).2
      rw [ht] at hNm
      exact Option.some.inj (hNm.symm.trans h2)
    show H1[b + N]? = some (vp_cell (D.2 0) (len, .inl (fun _ => 0)))
    rw [e1, ht, hA]; rfl
  · have hA : cA = D.2 1 := by
      have h2 := (hK.2 1 _ rfl).2
      rw [ht] at hNm
      exact Option.some.inj (hNm.symm.trans h2)
    show H1[b + N]? = some (vp_cell (D.2 1) (len, .inl (fun _ => 0)))
    rw [e1, ht, hA]; rfl
  · have hA : cA = D.2 2 := by
      have h2 := (hK.2 2 _ rfl).2
      rw [ht] at hNm
      exact Option.some.inj (hNm.symm.trans h2)
    show H1[b + N]? = some (vp_cell (D.2 2) (len, .inr (.inl (fun _ => 0))))
    rw [e1, ht, hA]; rfl
theorem r_anew {index len : Nat} {v : Int32} (hw : Cond.classLink M.1.cls index RX8 ∈ lw_tbl) (hv : ¬ v < 0) (hlen : v.toNatClampNeg = len) (hb8 : len ≤ 1000) (hd : decode M.2.1 pc = .ok (.anewarray index, 3)) (hkc : k + 1 ≤ kc) (hks : n + len ≤ ks)
    (a : zA l D b M h 1 kc ks Z (pc + 3) lv (.ref (b + N) :: stk) (k + 1) (n + len) (N + 1) (va_up kd N (3, len)) (va_up γ N (fun _ => none)) (va_up σ N (fun _ => 0)) (va_up τ N (fun _ => 0))) : zA l D b M h 1 kc ks Z pc lv (.int v :: stk) k n N kd γ σ τ := by
  intro p e R s m args below meth c Cc H locs ls hl hW hS
  obtain ⟨hx, hbb, hr, hml, hown, hts, hlk, hnm, hbs, hf, hlo, hkc2, hks2, hNW⟩ := id Cc
  obtain ⟨hP, hK, hz⟩ := hW
  have hz : H.size = b + N := hz.resolve_left (by decide)
  subst hlen
  refine W.anew hx hbb hown (hts _ (lw_gIn hw rfl)) hNW.2.use rfl hd rfl hv (by omega) (Nat.le_trans hkc hkc2) (Nat.le_trans hks hks2) fun cA kA comp f1 f2 f3 f4 => ?_
  generalize hH1 : H.push ({ cls := cA, slots := Array.replicate v.toNatClampNeg .null, vm := .none } : Cell) = H1
  have z1 : H1.size = H.size + 1 := by rw [← hH1, Array.size_push]
  have e1 : H1[b + N]? = some (arrV cA v.toNatClampNeg (fun _ => .null)) := by rw [← hH1, ← hz, Array.getElem?_push_size, ← arrV_new]
  have o1 : ∀ q : Nat, q < b + N → H1[q]? = H[q]? := fun q hq => by rw [← hH1, Array.getElem?_push, if_neg (by omega)]
  have hA : cA = D.2 3 := by
    obtain ⟨kB, comp2, g1, g2, g3, g4⟩ := (hK.2 3 _ rfl).2
    exact Option.some.inj (f1.symm.trans g4)
  have hst : (F0 m (pc + 3) ls (.ref H.size :: stk)) = F0 m (pc + 3) ls (.ref (b + N) :: stk) := by rw [hz]
  show W p l e R s m args below meth c H1 locs (k + 1) (n + v.toNatClampNeg) (Z args s below) (F0 m (pc + 3) ls (.ref H.size :: stk))
  rw [hst]
  refine a p e R s m args below meth c Cc H1 locs ls hl ⟨wl_pushed hP hz o1 ?_, hK, Or.inr (by rw [z1]; omega)⟩ ⟨Nat.le_trans hS.1 (by omega), fun x h1 h2 => (o1 x (by have := hS.1; omega)).trans (hS.2.1 x h1 h2), hS.2.2⟩
  show H1[b + N]? = some (vp_cell (D.2 3) (v.toNatClampNeg, .inr (.inr (.inr (.inr (fun j => Option.map (fun c => b + c) none))))))
  rw [e1, hA]; rfl
theorem r_aast {c len c2 : Nat} {i : Int32} (hN : c < N) (hk : kd c = (3, len)) (hN2 : c2 < N) (hk2 : (kd c2).1 = 12) (hd : decode M.2.1 pc = .ok (.aastore, 1)) (hin : vp_in i len) (a : zA l D b M h fz kc ks Z (pc + 1) lv stk k n N kd (st2 γ c i.toNatClampNeg (some c2)) σ τ) : zA l D b M h fz kc ks Z pc lv (.ref (b + c2) :: .int i :: .ref (b + c) :: stk) k n N kd γ σ τ := by
  intro p e R s m args below meth c0 C H locs ls hl hW hS
  obtain ⟨hP, hK, hz⟩ := hW
  have hlt : i.toNatClampNeg < len := Nat.not_le.mp fun q => hin (Or.inr q)
  have h0 : ¬ i < 0 := fun q => hin (Or.inl q)
  have ha : (wl D b N kd γ σ τ)[c]? = some (b + c, .inl (D.2 3, len, .inr (.inr (.inr (.inr (fun j => (γ c j).map (fun q => b + q))))))) := by rw [wlE_get hN]; unfold zEE zEnt; rw [hk]
  have hv : (wl D b N kd γ σ τ)[c2]? = some (b + c2, .inr (8, fldsOf b 8 (γ c2) (σ c2) (τ c2))) := by rw [wlE_get hN2]; unfold zEE zEnt; rw [hk2]
  obtain ⟨r', hr', cellV, g1, g2, g3, -⟩ := hP c2 _ hv
  have hcls := (hK.1 8 _ rfl).2
  obtain ⟨kA, comp, k1, k2, k3, -⟩ := (hK.2 3 _ rfl).2
  have hcomp : comp = D.1.1 8 := Option.some.inj (k3.symm.trans hcls.1)
  subst hcomp
  obtain ⟨kC, hkC, -⟩ := hcls.2
  refine W.aast C.1 C.2.1 (hP c _ ha) (fun q h => by cases h) (fun h => by cases h) k1 k2 rfl hkC ⟨h0, by show _ < (arrV _ _ _).slots.size; rw [arrV_size]; exact hlt⟩ g1 (fun q h => by rw [g3] at h; cases h) (by rw [g2]; exact hkC) (by rw [g2]; exact va_assign hcls) rfl rfl hd fun H1 e1 z oq => ?_
  have hP1 : va_P D.1 cls12 ((wl D b N kd γ σ τ).set c (b + c, zEnt D b (kd c) (va_up (γ c) i.toNatClampNeg (some c2)) (σ c) (τ c))) H1 := by
    refine hP.set (wlE_D b N _) ha ?_ oq
    unfold zEnt
    rw [hk]
    show H1[b + c]? = some (vp_cell _ _)
    rw [e1]
    rw [vp_cell_q, vp_cell_q, arrV_store]
    congr 2
    funext q
    by_cases hq : q = i.toNatClampNeg
    · subst hq
      simp [updV, va_up, va_rf]
    · simp [updV, va_up, hq]
  rw [wlE_set, zEE_γ] at hP1
  exact a p e R s m args below meth c0 C H1 _ ls hl ⟨hP1, hK, hz.imp id (fun q => z.trans q)⟩ (hS.put z oq (by show b ≤ b + c; omega))
theorem r_oinit {c0 index : Nat} (hw : Cond.methodLink M.1.cls index objectInit ∈ lw_tbl) (hin : Cond.instanceMethod objectInit ∈ lw_tbl) (hcd : Cond.code objectInit ⟨#[0xb1]⟩ 1 none ∈ lw_tbl) (hd : decode M.2.1 pc = .ok (.invokespecial index, 3)) (hh : 1 ≤ h) (hroom : (stk.map fun v => v.category).sum ≤ 8) (a : zA l D b M h fz kc ks Z (pc + 3) lv stk k n N kd γ σ τ) : zA l D b M h fz kc ks Z pc lv (.ref c0 :: stk) k n N kd γ σ τ := by
  intro p e R s m args below meth c Cc H locs ls hl hW hS
  obtain ⟨hx, hbb, hr, hml, hown, hts, hlk, hnm, hbs, hf, hlo, hkc2, hks2, hNW⟩ := id Cc
  refine W.objInit hx hbb hown (hts _ (lw_gIn hw rfl)) (hts _ (lw_gIn hin rfl)) (hts _ (lw_gIn hcd rfl)) rfl (by rw [hml]; exact hl.1) rfl hd (by omega) ?_ ?_
  · show 2 * 0 + (stk.map fun v => v.category).sum + 12 ≤ R.locals
    omega
  · exact a p e R s m args below meth c Cc H locs ls hl hW hS
theorem r_copy {index c1 c2 n1 n2 : Nat} {sp dp cnt : Int32} (hw : Cond.methodLink M.1.cls index arraycopyName ∈ lw_tbl) (hnat : Cond.native arraycopyName ∈ lw_tbl) (hstat : Cond.static arraycopyName ∈ lw_tbl) (hini : Cond.initialized "java/lang/System" ∈ lw_tbl) (hN1 : c1 < N) (hN2 : c2 < N) (hk1 : kd c1 = (0, n1)) (hk2 : kd c2 = (0, n2)) (h1 : ¬ sp < 0) (h2 : ¬ dp < 0) (h3 : ¬ cnt < 0) (h4 : sp.toNatClampNeg + cnt.toNatClampNeg ≤ n1) (h5 : dp.toNatClampNeg + cnt.toNatClampNeg ≤ n2) (hh : 1 ≤ h) (hroom : (stk.map fun v => v.category).sum ≤ 8) (hd : decode M.2.1 pc = .ok (.invokestatic index, 3))
    (a : zA l D b M h 0 kc ks Z (pc + 3) lv stk k n N kd γ (va_up σ c2 (va_cpy (σ c1) (σ c2) sp.toNatClampNeg dp.toNatClampNeg cnt.toNatClampNeg)) τ) : zA l D b M h 0 kc ks Z pc lv (.int cnt :: .int dp :: .ref (b + c2) :: .int sp :: .ref (b + c1) :: stk) k n N kd γ σ τ := by
  intro p e R s m args below meth c Cc H locs ls hl hW hS
  obtain ⟨hx, hbb, hr, hml, hown, hts, hlk, hnm, hbs, hf, hlo, hkc2, hks2, hNW⟩ := id Cc
  obtain ⟨hP, hK, hz⟩ := hW
  refine va_copyi (D := D.1) (ty := .int) hx hbb (by rw [hml]; exact hl.1.symm) hown (hts _ (lw_gIn hw rfl)) (hts _ (lw_gIn hnat rfl)) (hts _ (lw_gIn hstat rfl)) (hts _ (lw_gIn hini rfl)) hK hP (wlE_D b N _) hS c1 c2 0 0 (c0 := D.2 0) (c1 := D.2 0) (n0 := n1) (n1 := n2) (f := σ c1) (g := σ c2) (by rw [wlE_get hN1]; unfold zEE zEnt; rw [hk1]) (by rw [wlE_get hN2]; unfold zEE zEnt; rw [hk2]) rfl rfl rfl h1 h2 h3 h4 h5 (fun i hi => rfl) (by omega) ?_ hd (fun H1 locs1 hP1 hD1 hS1 => ?_)
  · have : nativeFrameWords "java/lang/System" "arraycopy" 5 ≤ 20 := by decide
    omega
  · rw [wlE_set, show (Sum.inl (D.2 0, n2, Sum.inl (va_cpy (σ c1) (σ c2) sp.toNatClampNeg dp.toNatClampNeg cnt.toNatClampNeg)) : va_E) = zEnt D b (kd c2) (γ c2) (va_cpy (σ c1) (σ c2) sp.toNatClampNeg dp.toNatClampNeg cnt.toNatClampNeg) (τ c2) by unfold zEnt; rw [hk2], zEE_σ] at hP1
    exact a p e R s m args below meth c Cc H1 locs1 ls hl ⟨hP1, hK, Or.inl rfl⟩ hS1
end MAKERS
