/-! CONTRACTS (zS), ends of methods, calls, makers. -/
abbrev zPost : Type := Option Value → Nat → zKd → zGm → zSg → zLm → Prop
def zQc (D : zDD) (b fz : Nat) (Q : zPost) : Array Value → State → Outcome → State → Prop := fun _ st oc t => (∃ (r : Option Value) (N : Nat) (kd : zKd) (γ : zGm) (σ : zSg) (τ : zLm), oc = .returned r ∧ Q r N kd γ σ τ ∧ zWd D b fz N kd γ σ τ t t.heap) ∧ va_F (fun q => b ≤ q) st t
def zZm (D : zDD) (b fz mc ms : Nat) (Q : zPost) : zZZ := fun args s below => MQ below (zQc D b fz Q) args s mc ms (fun q => b ≤ q)
def wsM (M : zMI) : List Cond := .code M.1 M.2.1 M.2.2.1 M.2.2.2 :: lw_g
def rmM (h mc ms : Nat) : Room := { frames := h, cells := mc, slots := ms, locals := 40 * h }
def zPc (D : zDD) (b fz : Nat) (av : List Value) (N : Nat) (kd : zKd) (γ : zGm) (σ : zSg) (τ : zLm) : Array Value → State → Prop := va_Pc av (fun U => zWd D b fz N kd γ σ τ U U.heap ∧ b ≤ U.heap.size ∧ zNW U)
def zS (l : Launch) (D : zDD) (b : Nat) (M : zMI) (h fz mc ms : Nat) (av : List Value) (N : Nat) (kd : zKd) (γ : zGm) (σ : zSg) (τ : zLm) (Q : zPost) : Prop := Met l M.1 (wsM M) (rmM h mc ms) (zPc D b fz av N kd γ σ τ) (zQc D b fz Q) mc ms (fun q => b ≤ q)
theorem zPc_blind {D : zDD} {b fz : Nat} {av : List Value} {N : Nat} {kd : zKd} {γ : zGm} {σ : zSg} {τ : zLm} : FrameBlind (zPc D b fz av N kd γ σ τ) := fun a U g mk q => ⟨q.1, zWd.moved (u := U) (U := U.calling g mk a) (Vm.Alike.refl U.vm) q.2.1, q.2.2.1, zNW.same (u := U) (U := U.calling g mk a) rfl q.2.2.2⟩
theorem zS.of {l : Launch} {D : zDD} {b : Nat} {M : zMI} {h fz mc ms : Nat} {av : List Value} {N : Nat} {kd : zKd} {γ : zGm} {σ : zSg} {τ : zLm} {Q : zPost} (hy : plainName M.1.cls = true) (hn : (lg_sl av).length ≤ M.2.2.1) {lv : List (Nat × Value)} (hlv : lv_args 0 av = lv) (a : zA l D b M h fz mc ms (zZm D b fz mc ms Q) 0 lv [] 0 0 N kd γ σ τ) : zS l D b M h fz mc ms av N kd γ σ τ Q := by
  subst hlv
  refine Met.ofW (cc := M.2.1) (maxL := M.2.2.1) (ret := M.2.2.2) hy rfl ?_
  intro p e s m args below meth c s₁ B hml hv
  obtain ⟨rfl, hW, hbs, hNW⟩ := hv
  have hl := lv_entry av hn
  rw [lg_entry_eq]
  exact a p e _ s m _ below meth c ⟨B.exec, B.bytes, B.returns, hml, findClass_of_methodNamed B.named, fun w hw => atoms_spec (ws := wsM M) B.pre w (List.mem_cons_of_mem _ hw), B.notSynchronized, (name_of_methodNamed B.named B.method).1, hbs, Nat.le_refl _, Nat.le_refl _, Nat.le_refl _, Nat.le_refl _, hNW⟩ s.heap [] _ hl hW va_S.rf
section CALLS
variable {l : Launch} {D : zDD} {b : Nat} {M : zMI} {h fz kc ks : Nat} {Z : zZZ} {pc : Nat} {lv lv' : List (Nat × Value)} {stk st0 : List Value} {k n N : Nat} {kd : zKd} {γ : zGm} {σ : zSg} {τ : zLm} {Q : zPost} {mc ms : Nat}
theorem r_iret {v : Int32} (hr : M.2.2.2 = some .int) (hk : k ≤ mc) (hn : n ≤ ms) (hd : decode M.2.1 pc = .ok (.ireturn, 1)) (q : Q (some (.int v)) N kd γ σ τ) : zA l D b M h fz kc ks (zZm D b fz mc ms Q) pc lv [.int v] k n N kd γ σ τ := by
  intro p e R s m args below meth c C H locs ls hl hW hS
  refine W.widen hk hn ?_
  exact W.iret C.1 C.2.1 (C.2.2.1.trans hr) (fun t ht hWm => ⟨⟨some (.int v), N, kd, γ, σ, τ, rfl, q, by rw [ht]; exact hW.moved hWm.alike⟩, hS.F ht⟩) (fun q hq => hS.2.2 q hq) hd C.2.2.2.2.2.2.1
theorem r_zret {v : Int32} (hr : M.2.2.2 = some .boolean) (hk : k ≤ mc) (hn : n ≤ ms) (hd : decode M.2.1 pc = .ok (.ireturn, 1)) (hv : v = 0 ∨ v = 1) (q : Q (some (.int v)) N kd γ σ τ) : zA l D b M h fz kc ks (zZm D b fz mc ms Q) pc lv [.int v] k n N kd γ σ τ := by
  intro p e R s m args below meth c C H locs ls hl hW hS
  refine W.widen hk hn ?_
  have hnar : narrow .boolean (.int v) = .int v := by rcases hv with rfl | rfl <;> decide
  exact W.zret C.1 C.2.1 (C.2.2.1.trans hr) hnar (fun t ht hWm => ⟨⟨some (.int v), N, kd, γ, σ, τ, rfl, q, by rw [ht]; exact hW.moved hWm.alike⟩, hS.F ht⟩) (fun q hq => hS.2.2 q hq) hd C.2.2.2.2.2.2.1
theorem r_vret (hr : M.2.2.2 = none) (hk : k ≤ mc) (hn : n ≤ ms) (hd : decode M.2.1 pc = .ok (.return_, 1)) (q : Q none N kd γ σ τ) : zA l D b M h fz kc ks (zZm D b fz mc ms Q) pc lv [] k n N kd γ σ τ := by
  intro p e R s m args below meth c C H locs ls hl hW hS
  refine W.widen hk hn ?_
  exact W.vret C.1 C.2.1 (C.2.2.1.trans hr) (fun t ht hWm => ⟨⟨none, N, kd, γ, σ, τ, rfl, q, by rw [ht]; exact hW.moved hWm.alike⟩, hS.F ht⟩) (fun q hq => hS.2.2 q hq) hd C.2.2.2.2.2.2.1
/-- what the tables say of a method that is called -/
def okM (K : zMI) (np : Nat) : Prop := (K.1.cls ≠ "java/lang/invoke/MethodHandle" ∧ K.1.cls ≠ "java/lang/invoke/VarHandle" ∧ (parseMethodDescriptor K.1.desc).map (fun d => d.parameters.length) = some np) ∧ Cond.code K.1 K.2.1 K.2.2.1 K.2.2.2 ∈ lw_tbl ∧ Cond.initialized K.1.cls ∈ lw_tbl ∧ K.2.2.1 ≤ 21
theorem good_wsM {K : zMI} (h : Cond.code K.1 K.2.1 K.2.2.1 K.2.2.2 ∈ lw_tbl) : GoodIn lw_g (wsM K) := by
  intro w hw
  rcases List.mem_cons.mp hw with rfl | hw
  · have h1 := lw_gIn h rfl
    exact ⟨h1, lw_gGood h1⟩
  · exact ⟨hw, lw_gGood hw⟩
theorem callB4 {K : zMI} {h' mc' ms' np index : Nat} {p : Program} {R : Room} {s : State} {m : MethodId} {args : Array Value} {meth : Method} {c : Code} (C : zCx b M h kc ks p R s m args meth c) (hok : okM K np) (hw : Cond.methodLink M.1.cls index K.1 ∈ lw_tbl) (hh : h' < h) : CallB R s args M.1.cls index K.1 K.2.1 K.2.2.1 K.2.2.2 (wsM K) (rmM h' mc' ms') mc' ms' np := by
  obtain ⟨-, -, -, -, hown, hts, -, -, -, hf, hlo, -, -, -⟩ := C
  obtain ⟨hd, hc, hi, hL⟩ := hok
  refine callB_of np hts (good_wsM hc) rfl rfl rfl (hts _ (lw_gIn hi rfl)) (hts _ (lw_gIn hw rfl)) hd ⟨?_, ?_⟩
  · show h' + 1 ≤ R.frames
    omega
  · show 8 + (K.2.2.1 + 11) + 40 * h' ≤ R.locals
    omega
theorem go_call {p : Program} {e : Env} {R : Room} {s : State} {m : MethodId} {args a : Array Value} {below : List Frame} {meth : Method} {c : Code} {H : Heap} {locs : List Loc} {ls : Array Slot} {Qf : State → Prop} {mc' ms' : Nat}
    (hr : va_Run p l e R s m args below meth c H locs k n mc' ms' (F0 m pc ls st0) stk (zQc D b fz Q a) (fun q => b ≤ q)) (hS : va_S (fun q => b ≤ q) s.heap H locs)
    (kk : ∀ (r : Option Value) (N : Nat) (kd : zKd) (γ : zGm) (σ : zSg) (τ : zLm), Q r N kd γ σ τ → ∀ (H1 : Heap) (locs1 : List Loc), zWd D b fz N kd γ σ τ s H1 → va_S (fun q => b ≤ q) s.heap H1 locs1 → W p l e R s m args below meth c H1 locs1 (k + mc') (n + ms') Qf (F0 m (pc + 3) ls (r.toList ++ stk))) : W p l e R s m args below meth c H locs k n Qf (F0 m pc ls st0) := by
  intro T hT X
  obtain ⟨v, st₀, t, T', L, h0, X', hL, e1, e2, ⟨⟨r, N', kd', γ', σ', τ', hv, hq, hb⟩, hz, hk⟩, st⟩ := hr T hT X
  cases hv
  rw [h0] at hz hk
  have hvm : s.vm.Alike t.vm := by rw [← e2]; exact X'.warmed.alike
  obtain ⟨t2, a1, b1⟩ := kk _ N' kd' γ' σ' τ' hq T'.heap (locs ++ L) (by rw [e1]; exact hb.moved hvm.symm)
    ⟨Nat.le_trans hS.1 (by rw [e1]; exact hz), fun q h1 h2 => by rw [e1, hk q (Nat.lt_of_lt_of_le h1 hS.1) h2]; exact hS.2.1 q h1 h2, fun q hq => by
      rcases List.mem_append.mp hq with h | h
      · exact hS.2.2 q h
      · exact hL q h⟩ T' rfl X'
  exact ⟨t2, st t2 a1, b1⟩
theorem pre4 {av : List Value} {s : State} {H : Heap} {locs : List Loc} (hW : zWd D b fz N kd γ σ τ s H) (hbs : b ≤ s.heap.size) (hS : va_S (fun q => b ≤ q) s.heap H locs) (hNW : zNW s) : ∀ U : State, U.heap = H → s.WarmedH U.vm → zPc D b fz av N kd γ σ τ av.toArray U := by
  intro U hU hWm
  exact ⟨rfl, by rw [hU]; exact hW.moved hWm.alike, by rw [hU]; exact Nat.le_trans hbs hS.1, hNW.warm hWm⟩
theorem r_callV {K : zMI} {h' mc' ms' ci c0 : Nat} {C : String} {T : u_T} {nf index np : Nat} (As : List Value) (hok : okM K np) (hC : K.1.cls = C) (hin : Cond.instanceMethod K.1 ∈ lw_tbl) (hse : Cond.selects C K.1 K.1 ∈ lw_tbl) (hci : cls12[ci]? = some (C, T, nf)) (hN : c0 < N) (hk : (kd c0).1 = ci + 4) (hw : Cond.methodLink M.1.cls index K.1 ∈ lw_tbl) (hn : As.length = np) (hst : st0 = As.reverse ++ .ref (b + c0) :: stk) (hroom : (stk.map fun v => v.category).sum ≤ 8) (hd : decode M.2.1 pc = .ok (.invokevirtual index, 3)) (hh : h' < h) (hkc : k + mc' ≤ kc) (hks : n + ms' ≤ ks)
    (sp : zS l D b K h' fz mc' ms' (.ref (b + c0) :: As) N kd γ σ τ (fun r N' kd' γ' σ' τ' => zA l D b M h fz kc ks Z (pc + 3) lv (r.toList ++ stk) (k + mc') (n + ms') N' kd' γ' σ' τ')) : zA l D b M h fz kc ks Z pc lv st0 k n N kd γ σ τ := by
  intro p e R s m args below meth c Cc H locs ls hl hW hS
  have cb := callB4 (mc' := mc') (ms' := ms') Cc hok hw hh
  obtain ⟨hx, hbb, hr, hml, hown, hts, hlk, hnm, hbs, hf, hlo, hkc2, hks2, hNW⟩ := id Cc
  have hget : (wl D b N kd γ σ τ)[c0]? = some (b + c0, .inr (ci, fldsOf b ci (γ c0) (σ c0) (τ c0))) := by rw [wlE_get hN]; unfold zEE zEnt; rw [hk]
  refine go_call (va_runV (As := As) (rest := stk) (C := C) ⟨hx, hbb, hml, hown, hts⟩ sp ⟨cb, hts _ (lw_gIn hin rfl), hts _ (lw_gIn hse rfl)⟩ ⟨zPc_blind, va_recv hW.2.1 hW.1 hci hget, pre4 hW hbs hS hNW⟩ rfl hn hl.1 hst (lv_room hroom) hd ⟨Nat.le_trans hkc hkc2, Nat.le_trans hks hks2⟩) hS (fun r N' kd' γ' σ' τ' hq H1 locs1 hW1 hS1 => ?_)
  exact hq p e R s m args below meth c Cc H1 locs1 ls hl hW1 hS1
theorem r_callS {K : zMI} {h' mc' ms' : Nat} {index np : Nat} (As : List Value) (hok : okM K np) (hin : Cond.static K.1 ∈ lw_tbl) (hw : Cond.methodLink M.1.cls index K.1 ∈ lw_tbl) (hn : As.length = np) (hst : st0 = As.reverse ++ stk) (hroom : (stk.map fun v => v.category).sum ≤ 8) (hd : decode M.2.1 pc = .ok (.invokestatic index, 3)) (hh : h' < h) (hkc : k + mc' ≤ kc) (hks : n + ms' ≤ ks)
    (sp : zS l D b K h' fz mc' ms' As N kd γ σ τ (fun r N' kd' γ' σ' τ' => zA l D b M h fz kc ks Z (pc + 3) lv (r.toList ++ stk) (k + mc') (n + ms') N' kd' γ' σ' τ')) : zA l D b M h fz kc ks Z pc lv st0 k n N kd γ σ τ := by
  intro p e R s m args below meth c Cc H locs ls hl hW hS
  have cb := callB4 (mc' := mc') (ms' := ms') Cc hok hw hh
  obtain ⟨hx, hbb, hr, hml, hown, hts, hlk, hnm, hbs, hf, hlo, hkc2, hks2, hNW⟩ := id Cc
  refine go_call (va_runS (As := As) (rest := stk) ⟨hx, hbb, hml, hown, hts⟩ sp ⟨cb, hts _ (lw_gIn hin rfl)⟩ ⟨zPc_blind, pre4 hW hbs hS hNW⟩ rfl hn hl.1 hst (lv_room hroom) hd ⟨Nat.le_trans hkc hkc2, Nat.le_trans hks hks2⟩) hS (fun r N' kd' γ' σ' τ' hq H1 locs1 hW1 hS1 => ?_)
  exact hq p e R s m args below meth c Cc H1 locs1 ls hl hW1 hS1
theorem r_callI {K : zMI} {h' mc' ms' c0 : Nat} {index np : Nat} (As : List Value) (hok : okM K np) (hvo : K.2.2.2 = none) (hnm : K.1.name = "<init>") (hin : Cond.instanceMethod K.1 ∈ lw_tbl) (hw : Cond.methodLink M.1.cls index K.1 ∈ lw_tbl) (hn : As.length = np) (hst : st0 = As.reverse ++ .ref (b + c0) :: stk) (hroom : (stk.map fun v => v.category).sum ≤ 8) (hd : decode M.2.1 pc = .ok (.invokespecial index, 3)) (hh : h' < h) (hkc : k + mc' ≤ kc) (hks : n + ms' ≤ ks)
    (sp : zS l D b K h' fz mc' ms' (.ref (b + c0) :: As) N kd γ σ τ (fun r N' kd' γ' σ' τ' => zA l D b M h fz kc ks Z (pc + 3) lv (r.toList ++ stk) (k + mc') (n + ms') N' kd' γ' σ' τ')) : zA l D b M h fz kc ks Z pc lv st0 k n N kd γ σ τ := by
  intro p e R s m args below meth c Cc H locs ls hl hW hS
  have cb := callB4 (mc' := mc') (ms' := ms') Cc hok hw hh
  rw [hvo] at cb
  obtain ⟨hx, hbb, hr, hml, hown, hts, hlk, hnm2, hbs, hf, hlo, hkc2, hks2, hNW⟩ := id Cc
  refine go_call (va_runI (As := As) (rest := stk) ⟨hx, hbb, hml, hown, hts⟩ sp ⟨cb, hnm, hts _ (lw_gIn hin rfl)⟩ ⟨zPc_blind, pre4 hW hbs hS hNW⟩ rfl hn hl.1 hst (lv_room hroom) hd ⟨Nat.le_trans hkc hkc2, Nat.le_trans hks hks2⟩) hS (fun r N' kd' γ' σ' τ' hq H1 locs1 hW1 hS1 => ?_)
  exact hq p e R s m args below meth c Cc H1 locs1 ls hl hW1 hS1
theorem r_callIN {K : zMI} {h' mc' ms' c0 : Nat} {index np : Nat} {host : String} (As : List Value) (hok : okM K np) (hvo : K.2.2.2 = none) (hnm : K.1.name = "<init>") (hin : Cond.instanceMethod K.1 ∈ lw_tbl) (hw : Cond.methodLinkNest M.1.cls index K.1 host ∈ nestL) (hn : As.length = np) (hst : st0 = As.reverse ++ .ref (b + c0) :: stk) (hroom : (stk.map fun v => v.category).sum ≤ 8) (hd : decode M.2.1 pc = .ok (.invokespecial index, 3)) (hh : h' < h) (hkc : k + mc' ≤ kc) (hks : n + ms' ≤ ks)
    (sp : zS l D b K h' fz mc' ms' (.ref (b + c0) :: As) N kd γ σ τ (fun r N' kd' γ' σ' τ' => zA l D b M h fz kc ks Z (pc + 3) lv (r.toList ++ stk) (k + mc') (n + ms') N' kd' γ' σ' τ')) : zA l D b M h fz kc ks Z pc lv st0 k n N kd γ σ τ := by
  intro p e R s m args below meth c Cc H locs ls hl hW hS
  obtain ⟨hx, hbb, hr, hml, hown, hts, hlk, hnm2, hbs, hf, hlo, hkc2, hks2, hNW⟩ := id Cc
  obtain ⟨hd2, hcd, hi, hL⟩ := hok
  have cb : va_CN R s args M.1.cls index K.1 host K.2.1 K.2.2.1 none (wsM K) (rmM h' mc' ms') mc' ms' np := by
    refine va_cnB (ws' := lw_g) np hts (good_wsM hcd) (by rw [← hvo]; rfl) rfl rfl (hNW.1 _ hw) (hts _ (lw_gIn hi rfl)) hd2 ⟨?_, ?_⟩
    · show h' + 1 ≤ R.frames
      omega
    · show 8 + (K.2.2.1 + 11) + 40 * h' ≤ R.locals
      omega
  refine go_call (va_runIN (As := As) (rest := stk) ⟨hx, hbb, hml, hown, hts⟩ sp ⟨cb, hnm, hts _ (lw_gIn hin rfl)⟩ ⟨zPc_blind, pre4 hW hbs hS hNW⟩ rfl hn hl.1 hst (lv_room hroom) hd ⟨Nat.le_trans hkc hkc2, Nat.le_trans hks hks2⟩) hS (fun r N' kd' γ' σ' τ' hq H1 locs1 hW1 hS1 => ?_)
  exact hq p e R s m args below meth c Cc H1 locs1 ls hl hW1 hS1
end CALLS
