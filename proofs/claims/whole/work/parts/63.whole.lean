/-! THE WHOLE LAW. -/
theorem S1_z {c : Nat} (h0 : c ≠ 0) (h1 : c ≠ 125) (j : Nat) : S1 c j = 0 := by
  unfold S1
  rw [st2_cell _ _ h1, st2_cell _ _ h0]
theorem S1_m {j : Nat} (h : j ≠ 5) : S1 125 j = 0 := by
  unfold S1
  rw [st2_slot _ _ h, st2_cell _ _ (by decide)]
theorem Iv_1 : Iv S1 T1 := by
  refine ⟨d0.1, newA d0, (0, fun _ => newA d0), (fun _ => none, 0, B00, K00, (0, fun _ => 0), -1), ⟨⟨okD_0.1, okA_new okD_0, ⟨?_, ?_, ?_, ?_, ?_, ?_⟩, ⟨?_, ?_, ?_, ?_, ?_, ?_⟩⟩, CU_0 ?_ ?_, ?_, ⟨by decide, ?_⟩, ⟨okBm_0, ?_, ?_, ?_⟩, ⟨okK_0 _, ?_, ?_⟩, ⟨⟨Nat.zero_le _, ?_⟩, ?_, ?_⟩, ?_⟩, ⟨⟨okD_0.1, okA_new okD_0, ⟨?_, ?_, ?_, ?_, ?_, ?_⟩, ⟨?_, ?_, ?_, ?_, ?_, ?_⟩⟩, MU_0 (a := 0) (by decide) ?_ ?_, ?_, ⟨by decide, rfl⟩, ⟨okBm_0, ?_, ?_⟩, ⟨okK_0 _, ?_, ?_⟩, ⟨⟨Nat.zero_le _, ?_⟩, ?_, ?_⟩, ?_⟩⟩
  all_goals first
    | exact S1_z (by decide) (by decide) _
    | exact S1_m (by decide)
    | exact fun t ht => absurd ht (Nat.not_lt_zero t)
    | exact fun e _ => S1_z (by decide) (by decide) _
    | exact fun i hi => ⟨fun _ => S1_z (by decide) (by decide) _, fun B z q => by cases q⟩
    | rfl
section LAW
variable {l : Launch} {D : zDD} {b bs L : Nat} {xs : Nat → Int32}
theorem law_step {k : Nat} {σ : zSg} {τ : zLm} (hL : L ≤ 192) (hk : k ≤ L) (J : Iv σ τ) (nxt' : ∀ σ2 τ2, k + 3 ≤ L → Iv σ2 τ2 → LA l D b bs L xs 18 [(0, .ref bs), (1, .ref (b + 0)), (2, .ref (b + 125)), (3, .int (nI (k + 3)))] [] σ2 τ2) : LA l D b bs L xs 18 [(0, .ref bs), (1, .ref (b + 0)), (2, .ref (b + 125)), (3, .int (nI k))] [] σ τ := by
  refine w_law_18 _ σ τ ⟨fun _ => trivial, fun c => ?_⟩
  have h3 : k + 3 ≤ L := by
    have eL : Int32.ofNat L = nI L := rfl
    rw [eL] at c
    rcases Nat.lt_or_ge L 3 with q | q
    · exfalso
      apply c
      rw [fa_lt, nI_toInt (by omega)]
      rcases (show L = 0 ∨ L = 1 ∨ L = 2 by omega) with rfl | rfl | rfl
      · have : (nI 0 - 3 : Int32).toInt = -3 := by decide
        omega
      · have : (nI 1 - 3 : Int32).toInt = -2 := by decide
        omega
      · have : (nI 2 - 3 : Int32).toInt = -1 := by decide
        omega
    · rw [show (3 : Int32) = nI 3 from rfl, pk_sub q, nI_ltI (by omega) (by omega)] at c
      omega
  have v0 : vp_in (nI k) L := vp_in_t (by omega) (by omega)
  have v1 : vp_in (nI k + 1) L := by rw [nI_1]; exact vp_in_t (by omega) (by omega)
  have v2 : vp_in (nI k + 2) L := by rw [show (2 : Int32) = nI 2 from rfl, nI_add]; exact vp_in_t (by omega) (by omega)
  have nx : ∀ σ2 τ2, Iv σ2 τ2 → LA l D b bs L xs 18 [(0, .ref bs), (1, .ref (b + 0)), (2, .ref (b + 125)), (3, .int (nI k + 3))] [] σ2 τ2 := by
    intro σ2 τ2 J2
    rw [show (3 : Int32) = nI 3 from rfl, nI_add]
    exact nxt' σ2 τ2 h3 J2
  exact ⟨v0, fun _ => nx σ τ J,
      fun _ => ⟨v1, P_feed J _ (fun r σ1 τ1 aft => ⟨v1, aft _ (fun σ2 τ2 J2 => ⟨fun _ => nx σ2 τ2 J2, fun q => absurd rfl q⟩)⟩)⟩,
      fun _ => P_kitchen J (fun r σ1 τ1 aft => aft _ (fun σ2 τ2 J2 => ⟨fun _ => nx σ2 τ2 J2, fun q => absurd rfl q⟩)),
      fun _ => P_fault J (fun r σ1 τ1 aft => aft _ (fun σ2 τ2 J2 => ⟨fun _ => nx σ2 τ2 J2, fun q => absurd rfl q⟩)),
      fun _ => ⟨v1, P_told J _ (fun r σ1 τ1 aft => ⟨v1, aft _ (fun σ2 τ2 J2 => ⟨fun _ => nx σ2 τ2 J2, fun q => absurd rfl q⟩)⟩)⟩,
      fun _ => ⟨v1, v2, P_trouble J _ _ (fun r σ1 τ1 aft => ⟨v1, v2, aft _ (fun σ2 τ2 J2 => ⟨fun _ => nx σ2 τ2 J2, fun q => absurd rfl q⟩)⟩)⟩,
      fun _ => ⟨v1, v2, P_eater J _ _ (fun r σ1 τ1 aft => ⟨v1, v2, aft _ (fun σ2 τ2 J2 => ⟨fun _ => nx σ2 τ2 J2, fun q => absurd rfl q⟩)⟩)⟩,
      fun _ => ⟨v1, P_wrap J _ (fun r σ1 τ1 aft => ⟨v1, aft _ (fun σ2 τ2 J2 => ⟨fun _ => nx σ2 τ2 J2, fun q => absurd rfl q⟩)⟩)⟩,
      fun _ => ⟨v1, P_putOn J _ (fun r σ1 τ1 aft => ⟨v1, aft _ (fun σ2 τ2 J2 => ⟨fun _ => nx σ2 τ2 J2, fun q => absurd rfl q⟩)⟩)⟩,
      fun _ => ⟨v1, P_takeOff J _ (fun r σ1 τ1 aft => ⟨v1, aft _ (fun σ2 τ2 J2 => ⟨fun _ => nx σ2 τ2 J2, fun q => absurd rfl q⟩)⟩)⟩,
      fun _ => ⟨v1, P_hour J _ (fun r σ1 τ1 aft => ⟨v1, aft _ (fun σ2 τ2 J2 => ⟨fun _ => nx σ2 τ2 J2, fun q => absurd rfl q⟩)⟩)⟩,
      fun _ => ⟨v1, P_bear J _ (fun r σ1 τ1 aft => ⟨v1, aft _ (fun σ2 τ2 J2 => ⟨fun _ => nx σ2 τ2 J2, fun q => absurd rfl q⟩)⟩)⟩,
      fun _ => P_rest J (fun r σ1 τ1 aft => aft _ (fun σ2 τ2 J2 => ⟨fun _ => nx σ2 τ2 J2, fun q => absurd rfl q⟩)),
      fun _ => ⟨v1, v2, P_cut J _ _ (fun r σ1 τ1 aft => ⟨v1, v2, aft _ (fun σ2 τ2 J2 => ⟨fun _ => nx σ2 τ2 J2, fun q => absurd rfl q⟩)⟩)⟩,
      fun _ => ⟨v1, P_drift J _ (fun r σ1 τ1 aft => ⟨v1, aft _ (fun σ2 τ2 J2 => ⟨fun _ => nx σ2 τ2 J2, fun q => absurd rfl q⟩)⟩)⟩,
      fun _ => P_undo J (fun r σ1 τ1 aft => aft _ (fun σ2 τ2 J2 => ⟨fun _ => nx σ2 τ2 J2, fun q => absurd rfl q⟩)),
      fun _ => ⟨v1, v2, P_toWrap J _ _ (fun r σ1 τ1 aft => ⟨v1, v2, aft _ (fun σ2 τ2 J2 => ⟨fun _ => nx σ2 τ2 J2, fun q => absurd rfl q⟩)⟩)⟩,
      fun _ => ⟨v1, v2, P_soft J _ _ (fun r σ1 τ1 aft => ⟨v1, v2, aft _ (fun σ2 τ2 J2 => ⟨fun _ => nx σ2 τ2 J2, fun q => absurd rfl q⟩)⟩)⟩,
      fun _ => ⟨v1, P_when J _ (fun r σ1 τ1 aft => ⟨v1, aft _ (fun σ2 τ2 J2 => ⟨fun _ => nx σ2 τ2 J2, fun q => absurd rfl q⟩)⟩)⟩,
      fun _ => ⟨v1, v2, P_order J _ _ (fun r σ1 τ1 aft => ⟨v1, v2, aft _ (fun σ2 τ2 J2 => ⟨fun _ => nx σ2 τ2 J2, fun q => absurd rfl q⟩)⟩)⟩,
      fun _ => ⟨v1, v2, P_halves J _ _ (fun r σ1 τ1 aft => ⟨v1, v2, aft _ (fun σ2 τ2 J2 => ⟨fun _ => nx σ2 τ2 J2, fun q => absurd rfl q⟩)⟩)⟩,
      fun _ => ⟨v1, v2, P_mild J _ _ (fun r σ1 τ1 aft => ⟨v1, v2, aft _ (fun σ2 τ2 J2 => ⟨fun _ => nx σ2 τ2 J2, fun q => absurd rfl q⟩)⟩)⟩,
      fun _ => ⟨v1, v2, fun c => w_law_702 _ _ _ σ τ (P_bump J _ 0 (Or.inl rfl) (fun r σ1 τ1 aft => ⟨v1, v2, fun _ => w_law_724 _ _ _ _ σ1 τ1 (aft _ (fun σ2 τ2 J2 => ⟨fun _ => nx σ2 τ2 J2, fun q => absurd rfl q⟩)), fun q => absurd c q⟩)), fun c => w_law_702 _ _ _ σ τ (P_bump J _ 1 (Or.inr rfl) (fun r σ1 τ1 aft => ⟨v1, v2, fun q => absurd q c, fun _ => w_law_724 _ _ _ _ σ1 τ1 (aft _ (fun σ2 τ2 J2 => ⟨fun _ => nx σ2 τ2 J2, fun q => absurd rfl q⟩))⟩))⟩,
      fun _ => ⟨v1, v2, P_write J _ _ (fun r σ1 τ1 aft => ⟨v1, v2, aft _ (fun σ2 τ2 J2 => ⟨fun _ => nx σ2 τ2 J2, fun q => absurd rfl q⟩)⟩)⟩,
      fun _ => P_tear J (fun r σ1 τ1 aft => aft _ (fun σ2 τ2 J2 => ⟨fun _ => nx σ2 τ2 J2, fun q => absurd rfl q⟩)),
      fun _ => P_judge J (fun r σ1 τ1 aft => aft _ (fun σ2 τ2 J2 => ⟨fun _ => nx σ2 τ2 J2, fun q => absurd rfl q⟩)),
      fun _ => ⟨v1, P_seed J _ (fun r σ1 τ1 aft => ⟨v1, aft _ (fun σ2 τ2 J2 => ⟨fun _ => nx σ2 τ2 J2, fun q => absurd rfl q⟩)⟩)⟩,
      fun _ => ⟨v1, P_keep J _ (fun r σ1 τ1 aft => ⟨v1, aft _ (fun σ2 τ2 J2 => ⟨fun _ => nx σ2 τ2 J2, fun q => absurd rfl q⟩)⟩)⟩,
      fun _ => ⟨v1, P_goBack J _ (fun r σ1 τ1 aft => ⟨v1, aft _ (fun σ2 τ2 J2 => ⟨fun _ => nx σ2 τ2 J2, fun q => absurd rfl q⟩)⟩)⟩⟩
theorem law_main (hL : L ≤ 192) : ∀ (f k : Nat) (σ : zSg) (τ : zLm), L - k < f → k ≤ L → Iv σ τ → LA l D b bs L xs 18 [(0, .ref bs), (1, .ref (b + 0)), (2, .ref (b + 125)), (3, .int (nI k))] [] σ τ := by
  intro f
  induction f with
  | zero => intro k σ τ h; omega
  | succ f ih =>
    intro k σ τ hf hk J
    exact law_step hL hk J (fun σ2 τ2 h3 J2 => ih (k + 3) σ2 τ2 (by omega) h3 J2)
end LAW
theorem whole_start {p : Program} {e : Env} {s : State} {m : MethodId} {below : List Frame} {meth : Method} {c : Code} (l : Launch) {b L : Nat} {xs : Nat → Int32} (hL : L ≤ 192) (C0 : lw_At p s m meth c b L xs) (hname : meth.name = "law") : W p l e room_1 s m #[Value.ref b] below meth c s.heap [] 0 0 (lw_Z below #[Value.ref b] s) (entryFrame m ([Value.ref b] : List Value).toArray 4) :=
  whole_open l (fun l D b bs => law_main hL (L + 1) 0 S1 T1 (by omega) (Nat.zero_le _) Iv_1) C0 hname
set_option maxHeartbeats 4000000 in
theorem lw_walk (l : Launch) (b : Addr) (xs : List Int32) : MetFree l x (headSpec (Jvm.Cond.code x code maxLocals ret :: tables_1) room_1) (lw_P b xs) (fun _ _ _ _ _ => True) lw_Q := by
  refine MetFree.of_bodyS (code := code) (maxLocals := maxLocals) (ret := ret) (by decide) ?_ ?_
  · intro args s m h hn
    obtain ⟨meth, c, h1, h2, h3, h4, h5, h6, -, -⟩ := Cond.code_spec hn (atoms_spec (ws := Jvm.Cond.code x code maxLocals ret :: tables_1) h _ List.mem_cons_self)
    exact ⟨meth, c, h1, h2, h3, h4, h5, h6⟩
  · intro p e s m args below meth c s₁ B hml0 hP _
    obtain ⟨rfl, hx, hbd, hgv⟩ := hP
    obtain ⟨scr, harrAt, hlist, hof, hsmall⟩ := hx
    obtain ⟨hcb, hkn, -, -⟩ := State.arrayAt?_spec harrAt
    have hown : s.vm.findClass R_law = some m.cls := findClass_of_methodNamed B.named
    have hts0 : ∀ c ∈ (Jvm.Cond.code x code maxLocals ret :: tables_1), c.before #[Value.ref b] s = true := atoms_spec (ws := Jvm.Cond.code x code maxLocals ret :: tables_1) B.pre
    have hts : ∀ w ∈ lw_tbl, w.before #[Value.ref b] s = true := k2_hts_sels lw_privs (fun w hw => hts0 w (List.mem_cons_of_mem _ hw)) lw_privs_ok
    have hml : c.maxLocals = 4 := B.maxLocals_eq (hts0 _ List.mem_cons_self)
    have X₀ : Stand p l e room_1 s m #[Value.ref b] below meth c s₁ [] 0 0 := Stand.of_body B
    have hh0 : s₁.heap = s.heap := by rw [B.state]; rfl
    have hsz : scr.slots.size = xs.length := by rw [← Array.length_toList, hlist, List.length_map]
    have hval : ∀ j : Nat, j < xs.length → scr.slots[j]? = some (.int (xs.getD j 0)) := fun j hj => by
      rw [← Array.getElem?_toList, hlist]
      simp [hj]
    have hbl : b < s.heap.size := (Array.getElem?_eq_some_iff.mp hcb).1
    have hX : va_X b xs.length (fun j => xs.getD j 0) s s.heap := ⟨scr, hcb, hof, hkn, hsz, hval⟩
    have K : W p l e room_1 s m #[Value.ref b] below meth c s₁.heap [] 0 0 (lw_Z below #[Value.ref b] s) (entryFrame m ([Value.ref b] : List Value).toArray 4) := by
      rw [hh0]
      exact whole_start l hbd ⟨B.exec, B.bytes, B.returns, hml, hown, hts, hX, hbl, B.notSynchronized, hgv⟩ (name_of_methodNamed B.named B.method).1
    obtain ⟨t, a1, o, b1, b2, b3⟩ := K s₁ rfl X₀
    exact ⟨t, o, a1, b1, b2, b3⟩
theorem lw_pre_spec {args : Array Value} {s : State} (h : (Jvm.Cond.and given_1 narrow_1).before args s = true) (hr : rest_1_c.before args s = true) : ∃ (b : Addr) (xs : List Int32), lw_P b xs args s := by
  have hs := flat_of_before _ h
  have hq := flat_of_before _ hr
  have hc : (Cond.count 1).before args s = true := hs _ (by decide +kernel)
  have harr : (Cond.arrayOf (.arg 0) .int).before args s = true := hs _ (by decide +kernel)
  have hle : (Cond.le (.length (.arg 0)) (.int 192)).before args s = true := hs _ (by decide +kernel)
  have hlen : (Cond.isInt (.length (.arg 0))).before args s = true := hq _ (by decide +kernel)
  have hall : (Cond.all (.arg 0) (.isInt (.elem (.arg 0) (.index 0)))).before args s = true := hq _ (by decide +kernel)
  obtain ⟨b, xs, hb, hx⟩ := State.ints_of_pre rfl harr hlen hall
  have hsm : xs.length < 2 ^ 31 := hx.choose_spec.2.2.2
  have hev : (Term.length (.arg 0)).eval args s none [] s = some (.int xs.length.toInt32) := hx.length_eval hb
  have hv := Cond.le_ints hev (show (Term.int 192).eval args s none [] s = some (.int 192) from rfl)
  have hd : xs.length.toInt32 ≤ 192 := by
    simpa [Cond.before, Cond.holds, hv] using hle
  have hN : xs.length ≤ 192 := (Int32.ofNat_le_ofNat hsm (by decide)).mp (show Int32.ofNat xs.length ≤ Int32.ofNat 192 from hd)
  exact ⟨b, xs, Cond.one_arg hc (show args[0]? = some (.ref b) from hb), hx, hN, h⟩
theorem lw_comes (l : Launch) : Comes l x (Jvm.Cond.code x code maxLocals ret :: tables_1) room_1 (fun tb e args s => Calls_1 tb e args s ∧ rest_1 tb e args s ∧ Pre_1 tb e args s)
    (fun _ _ args s o t => lw_Q args s o t) := by
  intro p e ha hc hk s m args below hf hfit hheap happ hpre
  obtain ⟨b, xs, hP⟩ := lw_pre_spec hpre.2.2 hpre.2.1
  obtain ⟨k, o, h1, h2, h3, hQ⟩ := lw_walk l b xs p e ha hc hk s m args below hf ((Spec.applies_iff_loose hf).mp happ).1 hP trivial
  exact ⟨k, o, h1, h2, h3, hQ⟩
theorem lw_frame {s t : State} {o : Outcome} {args : Array Value} (h : Framed s o t [] 600000 7302250) :
    Framed s o t (fieldLocs frame_1_writes args s ++ arrayLocs frame_1_arrays args s ++ staticLocs frame_1_statics s) 600000 7302250 := h
theorem lw_limb (L : Cond) (hL : ∀ (args : Array Value) (s t : State), L.after args s (.returned (some (.int 1))) t = true) :
    ArmFor flags0 classFile x code maxLocals ret World_1 tables_1 room_1 Calls_1 rest_1 Pre_1
      (fun tb e a s o t => postC L tb e a s o t ∧ Framed s o t (fieldLocs frame_1_writes a s ++ arrayLocs frame_1_arrays a s ++ staticLocs frame_1_statics s) 600000 7302250) := by
  intro l _ _ _ p e ha hc hk s m args below hf hfit hheap happ hpre
  obtain ⟨k, o, h1, h2, h3, rfl, hF⟩ := lw_comes l p e ha hc hk s m args below hf hfit hheap happ hpre
  exact ⟨k, _, h1, h2, h3, hL args s _, lw_frame hF⟩
theorem i_vc : Claimed_1_1 ∧ Claimed_1_2 := ⟨lw_limb limb_1_1 (fun args s t => by simp [limb_1_1, Cond.after, Cond.holds, Cond.value]), lw_limb limb_1_2 (fun args s t => Cond.after_iff.mpr (by
  first | (rw [show limb_1_2 = Cond.eq .result (.int 1) from rfl, Cond.eq_ints (x := 1) (y := 1) rfl rfl]; simp; done) | (simp [limb_1_2, Cond.value, Term.eval]; done)))⟩
