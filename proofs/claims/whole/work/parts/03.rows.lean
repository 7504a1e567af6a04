/-! THE JUDGEMENT zA: a method at a place, with its locals and stack, in a world; and its rows, one an instruction. -/
def nestL : List Cond := [.methodLinkNest "SuetTroubles" 9 ⟨"SuetTroubles$Reader", "<init>", "()V"⟩ "SuetTroubles", .methodLinkNest "SuetTroubles" 18 ⟨"SuetTroubles$Plan", "<init>", "()V"⟩ "SuetTroubles", .methodLinkNest "SuetTroubles" 25 ⟨"SuetTroubles$Deeds", "<init>", "()V"⟩ "SuetTroubles", .methodLinkNest "SuetTroubles$Deeds" 11 ⟨"SuetTroubles$Plan", "<init>", "()V"⟩ "SuetTroubles", .methodLinkNest "SuetTroubles$Deeds" 20 ⟨"SuetTroubles$Scene", "<init>", "()V"⟩ "SuetTroubles", .methodLinkNest "SuetTroubles$Deeds" 27 ⟨"SuetTroubles$Sheets", "<init>", "()V"⟩ "SuetTroubles", .methodLinkNest "SuetTroubles$Deeds" 34 ⟨"SuetTroubles$Draws", "<init>", "()V"⟩ "SuetTroubles", .methodLinkNest "SuetTroubles$Past" 28 ⟨"SuetTroubles$Scene", "<init>", "()V"⟩ "SuetTroubles", .methodLinkNest "SuetTroubles" 58 ⟨"SuetTroubles$Orders", "<init>", "()V"⟩ "SuetTroubles", .methodLinkNest "SuetTroubles" 65 ⟨"SuetTroubles$Cloth", "<init>", "()V"⟩ "SuetTroubles", .methodLinkNest "SuetTroubles" 72 ⟨"SuetTroubles$Book", "<init>", "()V"⟩ "SuetTroubles"]
def zNW (U : State) : Prop := (∀ w ∈ nestL, va_Nw w U) ∧ va_AO RX8 U
theorem zNW.warm {s U : State} (hW : s.WarmedH U.vm) (h : zNW s) : zNW U := by
  refine ⟨fun w hw => ?_, h.2.moved hW.alike⟩
  have h1 := h.1 w hw
  simp only [nestL, List.mem_cons, List.not_mem_nil, or_false] at hw
  rcases hw with rfl | rfl | rfl | rfl | rfl | rfl | rfl | rfl | rfl | rfl | rfl <;> exact va_Nw.warmM hW h1
theorem zNW.same {u U : State} (e : u.vm = U.vm) (h : zNW u) : zNW U := by
  refine ⟨fun w hw => ?_, h.2.moved (by rw [e]; exact Vm.Alike.refl _)⟩
  have h1 := h.1 w hw
  simp only [nestL, List.mem_cons, List.not_mem_nil, or_false] at hw
  rcases hw with rfl | rfl | rfl | rfl | rfl | rfl | rfl | rfl | rfl | rfl | rfl <;> exact va_Nw.same rfl e h1
def zCx (b : Nat) (M : zMI) (h kc ks : Nat) (p : Program) (R : Room) (s : State) (m : MethodId) (args : Array Value) (meth : Method) (c : Code) : Prop :=
  p.tables.exec = Jvm.exec ∧ c.code = M.2.1 ∧ meth.sig.returnType = M.2.2.2 ∧ c.maxLocals = M.2.2.1 ∧ s.vm.findClass M.1.cls = some m.cls ∧ (∀ w ∈ lw_g, w.before args s = true) ∧ meth.locks = false ∧ meth.name = M.1.name ∧ b ≤ s.heap.size ∧ h ≤ R.frames ∧ 40 * h ≤ R.locals ∧ kc ≤ R.cells ∧ ks ≤ R.slots ∧ zNW s
abbrev zZZ : Type := Array Value → State → List Frame → State → Prop
def zA (l : Launch) (D : zDD) (b : Nat) (M : zMI) (h fz kc ks : Nat) (Z : zZZ) (pc : Nat) (lv : List (Nat × Value)) (stk : List Value) (k n N : Nat) (kd : zKd) (γ : zGm) (σ : zSg) (τ : zLm) : Prop :=
  ∀ (p : Program) (e : Env) (R : Room) (s : State) (m : MethodId) (args : Array Value) (below : List Frame) (meth : Method) (c : Code), zCx b M h kc ks p R s m args meth c →
  ∀ (H : Heap) (locs : List Loc) (ls : Array Slot), lv_has ls M.2.2.1 lv → zWd D b fz N kd γ σ τ s H → va_S (fun q => b ≤ q) s.heap H locs → W p l e R s m args below meth c H locs k n (Z args s below) (F0 m pc ls stk)
section ROWS
variable {l : Launch} {D : zDD} {b : Nat} {M : zMI} {h fz kc ks : Nat} {Z : zZZ} {pc : Nat} {lv lv' : List (Nat × Value)} {stk : List Value} {k n N : Nat} {kd : zKd} {γ : zGm} {σ : zSg} {τ : zLm}
theorem r_iadd {x y : Int32} (hd : decode M.2.1 pc = .ok (.iadd, 1)) (a : zA l D b M h fz kc ks Z (pc + 1) lv (.int (x + y) :: stk) k n N kd γ σ τ) : zA l D b M h fz kc ks Z pc lv (.int y :: .int x :: stk) k n N kd γ σ τ :=
  fun p e R s m args below meth c C H locs ls hl hW hS => lv_iadd C.1 C.2.1 hd (a p e R s m args below meth c C H locs ls hl hW hS)
theorem r_isub {x y : Int32} (hd : decode M.2.1 pc = .ok (.isub, 1)) (a : zA l D b M h fz kc ks Z (pc + 1) lv (.int (x - y) :: stk) k n N kd γ σ τ) : zA l D b M h fz kc ks Z pc lv (.int y :: .int x :: stk) k n N kd γ σ τ :=
  fun p e R s m args below meth c C H locs ls hl hW hS => lv_isub C.1 C.2.1 hd (a p e R s m args below meth c C H locs ls hl hW hS)
theorem r_imul {x y : Int32} (hd : decode M.2.1 pc = .ok (.imul, 1)) (a : zA l D b M h fz kc ks Z (pc + 1) lv (.int (x * y) :: stk) k n N kd γ σ τ) : zA l D b M h fz kc ks Z pc lv (.int y :: .int x :: stk) k n N kd γ σ τ :=
  fun p e R s m args below meth c C H locs ls hl hW hS => lv_imul C.1 C.2.1 hd (a p e R s m args below meth c C H locs ls hl hW hS)
theorem r_iand {x y : Int32} (hd : decode M.2.1 pc = .ok (.iand, 1)) (a : zA l D b M h fz kc ks Z (pc + 1) lv (.int (x &&& y) :: stk) k n N kd γ σ τ) : zA l D b M h fz kc ks Z pc lv (.int y :: .int x :: stk) k n N kd γ σ τ :=
  fun p e R s m args below meth c C H locs ls hl hW hS => lv_iand C.1 C.2.1 hd (a p e R s m args below meth c C H locs ls hl hW hS)
theorem r_ior {x y : Int32} (hd : decode M.2.1 pc = .ok (.ior, 1)) (a : zA l D b M h fz kc ks Z (pc + 1) lv (.int (x ||| y) :: stk) k n N kd γ σ τ) : zA l D b M h fz kc ks Z pc lv (.int y :: .int x :: stk) k n N kd γ σ τ :=
  fun p e R s m args below meth c C H locs ls hl hW hS => lv_ior C.1 C.2.1 hd (a p e R s m args below meth c C H locs ls hl hW hS)
theorem r_ixor {x y : Int32} (hd : decode M.2.1 pc = .ok (.ixor, 1)) (a : zA l D b M h fz kc ks Z (pc + 1) lv (.int (x ^^^ y) :: stk) k n N kd γ σ τ) : zA l D b M h fz kc ks Z pc lv (.int y :: .int x :: stk) k n N kd γ σ τ :=
  fun p e R s m args below meth c C H locs ls hl hW hS => lv_ixor C.1 C.2.1 hd (a p e R s m args below meth c C H locs ls hl hW hS)
theorem r_idiv {x y : Int32} (hd : decode M.2.1 pc = .ok (.idiv, 1)) (hne : ¬ y = 0) (a : zA l D b M h fz kc ks Z (pc + 1) lv (.int (x / y) :: stk) k n N kd γ σ τ) : zA l D b M h fz kc ks Z pc lv (.int y :: .int x :: stk) k n N kd γ σ τ :=
  fun p e R s m args below meth c C H locs ls hl hW hS => lv_idiv C.1 C.2.1 hd hne (a p e R s m args below meth c C H locs ls hl hW hS)
theorem r_irem {x y : Int32} (hd : decode M.2.1 pc = .ok (.irem, 1)) (hne : ¬ y = 0) (a : zA l D b M h fz kc ks Z (pc + 1) lv (.int (x - x / y * y) :: stk) k n N kd γ σ τ) : zA l D b M h fz kc ks Z pc lv (.int y :: .int x :: stk) k n N kd γ σ τ :=
  fun p e R s m args below meth c C H locs ls hl hW hS => lv_irem C.1 C.2.1 hd hne (a p e R s m args below meth c C H locs ls hl hW hS)
theorem r_ineg {x : Int32} (hd : decode M.2.1 pc = .ok (.ineg, 1)) (a : zA l D b M h fz kc ks Z (pc + 1) lv (.int (-x) :: stk) k n N kd γ σ τ) : zA l D b M h fz kc ks Z pc lv (.int x :: stk) k n N kd γ σ τ :=
  fun p e R s m args below meth c C H locs ls hl hW hS => lv_ineg C.1 C.2.1 hd (a p e R s m args below meth c C H locs ls hl hW hS)
theorem r_ishl {x y : Int32} (hd : decode M.2.1 pc = .ok (.ishl, 1)) (a : zA l D b M h fz kc ks Z (pc + 1) lv (.int (x <<< (y &&& 31)) :: stk) k n N kd γ σ τ) : zA l D b M h fz kc ks Z pc lv (.int y :: .int x :: stk) k n N kd γ σ τ :=
  fun p e R s m args below meth c C H locs ls hl hW hS => lv_ishl C.1 C.2.1 hd (a p e R s m args below meth c C H locs ls hl hW hS)
theorem r_ishr {x y : Int32} (hd : decode M.2.1 pc = .ok (.ishr, 1)) (a : zA l D b M h fz kc ks Z (pc + 1) lv (.int (x >>> (y &&& 31)) :: stk) k n N kd γ σ τ) : zA l D b M h fz kc ks Z pc lv (.int y :: .int x :: stk) k n N kd γ σ τ :=
  fun p e R s m args below meth c C H locs ls hl hW hS => lv_ishr C.1 C.2.1 hd (a p e R s m args below meth c C H locs ls hl hW hS)
theorem r_iushr {x y : Int32} (hd : decode M.2.1 pc = .ok (.iushr, 1)) (a : zA l D b M h fz kc ks Z (pc + 1) lv (.int ((x.toUInt32 >>> (y.toUInt32 &&& Int32.toUInt32 31)).toInt32) :: stk) k n N kd γ σ τ) : zA l D b M h fz kc ks Z pc lv (.int y :: .int x :: stk) k n N kd γ σ τ :=
  fun p e R s m args below meth c C H locs ls hl hW hS => lv_iushr C.1 C.2.1 hd rfl (a p e R s m args below meth c C H locs ls hl hW hS)
theorem r_ladd {x y : Int64} (hd : decode M.2.1 pc = .ok (.ladd, 1)) (a : zA l D b M h fz kc ks Z (pc + 1) lv (.long (x + y) :: stk) k n N kd γ σ τ) : zA l D b M h fz kc ks Z pc lv (.long y :: .long x :: stk) k n N kd γ σ τ :=
  fun p e R s m args below meth c C H locs ls hl hW hS => lv_ladd C.1 C.2.1 hd (a p e R s m args below meth c C H locs ls hl hW hS)
theorem r_lmul {x y : Int64} (hd : decode M.2.1 pc = .ok (.lmul, 1)) (a : zA l D b M h fz kc ks Z (pc + 1) lv (.long (x * y) :: stk) k n N kd γ σ τ) : zA l D b M h fz kc ks Z pc lv (.long y :: .long x :: stk) k n N kd γ σ τ :=
  fun p e R s m args below meth c C H locs ls hl hW hS => lv_lmul C.1 C.2.1 hd (a p e R s m args below meth c C H locs ls hl hW hS)
theorem r_ldiv {x y : Int64} (hd : decode M.2.1 pc = .ok (.ldiv, 1)) (hne : ¬ y = 0) (a : zA l D b M h fz kc ks Z (pc + 1) lv (.long (x / y) :: stk) k n N kd γ σ τ) : zA l D b M h fz kc ks Z pc lv (.long y :: .long x :: stk) k n N kd γ σ τ :=
  fun p e R s m args below meth c C H locs ls hl hW hS => lv_ldiv C.1 C.2.1 hd hne (a p e R s m args below meth c C H locs ls hl hW hS)
theorem r_lrem {x y : Int64} (hd : decode M.2.1 pc = .ok (.lrem, 1)) (hne : ¬ y = 0) (a : zA l D b M h fz kc ks Z (pc + 1) lv (.long (x - x / y * y) :: stk) k n N kd γ σ τ) : zA l D b M h fz kc ks Z pc lv (.long y :: .long x :: stk) k n N kd γ σ τ :=
  fun p e R s m args below meth c C H locs ls hl hW hS => lv_lrem C.1 C.2.1 hd hne (a p e R s m args below meth c C H locs ls hl hW hS)
theorem r_i2l {x : Int32} (hd : decode M.2.1 pc = .ok (.i2l, 1)) (a : zA l D b M h fz kc ks Z (pc + 1) lv (.long x.toInt64 :: stk) k n N kd γ σ τ) : zA l D b M h fz kc ks Z pc lv (.int x :: stk) k n N kd γ σ τ :=
  fun p e R s m args below meth c C H locs ls hl hW hS => lv_i2l C.1 C.2.1 hd rfl (a p e R s m args below meth c C H locs ls hl hW hS)
theorem r_l2i {x : Int64} (hd : decode M.2.1 pc = .ok (.l2i, 1)) (a : zA l D b M h fz kc ks Z (pc + 1) lv (.int x.toInt32 :: stk) k n N kd γ σ τ) : zA l D b M h fz kc ks Z pc lv (.long x :: stk) k n N kd γ σ τ :=
  fun p e R s m args below meth c C H locs ls hl hW hS => lv_l2i C.1 C.2.1 hd rfl (a p e R s m args below meth c C H locs ls hl hW hS)
theorem r_dup {va : Value} (hd : decode M.2.1 pc = .ok (.dup, 1)) (hva : va.category = 1) (a : zA l D b M h fz kc ks Z (pc + 1) lv (va :: va :: stk) k n N kd γ σ τ) : zA l D b M h fz kc ks Z pc lv (va :: stk) k n N kd γ σ τ :=
  fun p e R s m args below meth c C H locs ls hl hW hS => lv_dup C.1 C.2.1 hd hva (a p e R s m args below meth c C H locs ls hl hW hS)
theorem r_pop {va : Value} (hd : decode M.2.1 pc = .ok (.pop, 1)) (hva : va.category = 1) (a : zA l D b M h fz kc ks Z (pc + 1) lv (stk) k n N kd γ σ τ) : zA l D b M h fz kc ks Z pc lv (va :: stk) k n N kd γ σ τ :=
  fun p e R s m args below meth c C H locs ls hl hW hS => lv_pop C.1 C.2.1 hd hva (a p e R s m args below meth c C H locs ls hl hW hS)
theorem r_dup2 {va vb : Value} (hd : decode M.2.1 pc = .ok (.dup2, 1)) (hva : va.category = 1) (hvb : vb.category = 1) (a : zA l D b M h fz kc ks Z (pc + 1) lv (va :: vb :: va :: vb :: stk) k n N kd γ σ τ) : zA l D b M h fz kc ks Z pc lv (va :: vb :: stk) k n N kd γ σ τ :=
  fun p e R s m args below meth c C H locs ls hl hW hS => lv_dup2_11 C.1 C.2.1 hd hva hvb (a p e R s m args below meth c C H locs ls hl hW hS)
theorem r_iconst {z : Int} {v : Int32} (hd : decode M.2.1 pc = .ok (.iconst z, 1)) (hv : Int32.ofInt z = v) (a : zA l D b M h fz kc ks Z (pc + 1) lv (.int v :: stk) k n N kd γ σ τ) : zA l D b M h fz kc ks Z pc lv (stk) k n N kd γ σ τ :=
  fun p e R s m args below meth c C H locs ls hl hW hS => lv_iconst C.1 C.2.1 hd hv (a p e R s m args below meth c C H locs ls hl hW hS)
theorem r_bipush {z : Int} {v : Int32} (hd : decode M.2.1 pc = .ok (.bipush z, 2)) (hv : (Int8.ofInt z).toInt32 = v) (a : zA l D b M h fz kc ks Z (pc + 2) lv (.int v :: stk) k n N kd γ σ τ) : zA l D b M h fz kc ks Z pc lv (stk) k n N kd γ σ τ :=
  fun p e R s m args below meth c C H locs ls hl hW hS => lv_bipush C.1 C.2.1 hd hv (a p e R s m args below meth c C H locs ls hl hW hS)
theorem r_sipush {z : Int} {v : Int32} (hd : decode M.2.1 pc = .ok (.sipush z, 3)) (hv : (Int16.ofInt z).toInt32 = v) (a : zA l D b M h fz kc ks Z (pc + 3) lv (.int v :: stk) k n N kd γ σ τ) : zA l D b M h fz kc ks Z pc lv (stk) k n N kd γ σ τ :=
  fun p e R s m args below meth c C H locs ls hl hW hS => lv_sipush C.1 C.2.1 hd hv (a p e R s m args below meth c C H locs ls hl hW hS)
theorem r_ldc {own : String} {index : Nat} {v : Int32} (ho : M.1.cls = own) (hw : Cond.constant own index v ∈ lw_tbl) (hg : goodWord (Cond.constant own index v) = true) (hd : decode M.2.1 pc = .ok (.ldc index, 2)) (a : zA l D b M h fz kc ks Z (pc + 2) lv (.int v :: stk) k n N kd γ σ τ) : zA l D b M h fz kc ks Z pc lv stk k n N kd γ σ τ := by
  subst ho
  exact fun p e R s m args below meth c C H locs ls hl hW hS => lv_ldc C.1 C.2.1 C.2.2.2.2.1 (C.2.2.2.2.2.1 _ (lw_gIn hw hg)) hd (a p e R s m args below meth c C H locs ls hl hW hS)
theorem r_ldcw {own : String} {index : Nat} {v : Int32} (ho : M.1.cls = own) (hw : Cond.constant own index v ∈ lw_tbl) (hg : goodWord (Cond.constant own index v) = true) (hd : decode M.2.1 pc = .ok (.ldc_w index, 3)) (a : zA l D b M h fz kc ks Z (pc + 3) lv (.int v :: stk) k n N kd γ σ τ) : zA l D b M h fz kc ks Z pc lv stk k n N kd γ σ τ := by
  subst ho
  exact fun p e R s m args below meth c C H locs ls hl hW hS => lv_ldcw C.1 C.2.1 C.2.2.2.2.1 (C.2.2.2.2.2.1 _ (lw_gIn hw hg)) hd (a p e R s m args below meth c C H locs ls hl hW hS)
theorem r_ldc2 {own : String} {index : Nat} {v : Int64} (ho : M.1.cls = own) (hw : Cond.constantLong own index v ∈ lw_tbl) (hg : goodWord (Cond.constantLong own index v) = true) (hd : decode M.2.1 pc = .ok (.ldc2_w index, 3)) (a : zA l D b M h fz kc ks Z (pc + 3) lv (.long v :: stk) k n N kd γ σ τ) : zA l D b M h fz kc ks Z pc lv stk k n N kd γ σ τ := by
  subst ho
  exact fun p e R s m args below meth c C H locs ls hl hW hS => lv_ldc2 C.1 C.2.1 C.2.2.2.2.1 (C.2.2.2.2.2.1 _ (lw_gIn hw hg)) hd (a p e R s m args below meth c C H locs ls hl hW hS)
theorem r_iload_n (q : Nat) {f : Fin 4} {i : Nat} {x : Int32} (hd : decode M.2.1 pc = .ok (.iload_n f, 1)) (hf : (f : Nat) = i) (hq : lv[q]? = some (i, .int x)) (a : zA l D b M h fz kc ks Z (pc + 1) lv (.int x :: stk) k n N kd γ σ τ) : zA l D b M h fz kc ks Z pc lv stk k n N kd γ σ τ :=
  fun p e R s m args below meth c C H locs ls hl hW hS => lv_iload_n C.1 C.2.1 hd hf (lv_at hl q hq) (a p e R s m args below meth c C H locs ls hl hW hS)
theorem r_iload (q : Nat) {i : Nat} {x : Int32} (hd : decode M.2.1 pc = .ok (.iload i, 2)) (hq : lv[q]? = some (i, .int x)) (a : zA l D b M h fz kc ks Z (pc + 2) lv (.int x :: stk) k n N kd γ σ τ) : zA l D b M h fz kc ks Z pc lv stk k n N kd γ σ τ :=
  fun p e R s m args below meth c C H locs ls hl hW hS => lv_iload C.1 C.2.1 hd (lv_at hl q hq) (a p e R s m args below meth c C H locs ls hl hW hS)
theorem r_istore_n {f : Fin 4} {i : Nat} {x : Int32} (hd : decode M.2.1 pc = .ok (.istore_n f, 1)) (hf : (f : Nat) = i) (hn : i < M.2.2.1) (hl0 : (i, (.int x : Value)) :: lv.filter (fun q => !(q.1 == i) && !(q.1 + 1 == i && q.2.category == 2)) = lv') (a : zA l D b M h fz kc ks Z (pc + 1) lv' stk k n N kd γ σ τ) : zA l D b M h fz kc ks Z pc lv (.int x :: stk) k n N kd γ σ τ :=
  fun p e R s m args below meth c C H locs ls hl hW hS => lv_istore_n C.1 C.2.1 hd hf hl hn hl0 (fun ls' hl' => a p e R s m args below meth c C H locs ls' hl' hW hS)
theorem r_istore {i : Nat} {x : Int32} (hd : decode M.2.1 pc = .ok (.istore i, 2)) (hn : i < M.2.2.1) (hl0 : (i, (.int x : Value)) :: lv.filter (fun q => !(q.1 == i) && !(q.1 + 1 == i && q.2.category == 2)) = lv') (a : zA l D b M h fz kc ks Z (pc + 2) lv' stk k n N kd γ σ τ) : zA l D b M h fz kc ks Z pc lv (.int x :: stk) k n N kd γ σ τ :=
  fun p e R s m args below meth c C H locs ls hl hW hS => lv_istore C.1 C.2.1 hd hl hn hl0 (fun ls' hl' => a p e R s m args below meth c C H locs ls' hl' hW hS)
theorem r_lload_n (q : Nat) {f : Fin 4} {i : Nat} {x : Int64} (hd : decode M.2.1 pc = .ok (.lload_n f, 1)) (hf : (f : Nat) = i) (hq : lv[q]? = some (i, .long x)) (a : zA l D b M h fz kc ks Z (pc + 1) lv (.long x :: stk) k n N kd γ σ τ) : zA l D b M h fz kc ks Z pc lv stk k n N kd γ σ τ :=
  fun p e R s m args below meth c C H locs ls hl hW hS => lv_lload_n C.1 C.2.1 hd hf (lv_at hl q hq) (a p e R s m args below meth c C H locs ls hl hW hS)
theorem r_lload (q : Nat) {i : Nat} {x : Int64} (hd : decode M.2.1 pc = .ok (.lload i, 2)) (hq : lv[q]? = some (i, .long x)) (a : zA l D b M h fz kc ks Z (pc + 2) lv (.long x :: stk) k n N kd γ σ τ) : zA l D b M h fz kc ks Z pc lv stk k n N kd γ σ τ :=
  fun p e R s m args below meth c C H locs ls hl hW hS => lv_lload C.1 C.2.1 hd (lv_at hl q hq) (a p e R s m args below meth c C H locs ls hl hW hS)
theorem r_lstore_n {f : Fin 4} {i : Nat} {x : Int64} (hd : decode M.2.1 pc = .ok (.lstore_n f, 1)) (hf : (f : Nat) = i) (hn : i + 1 < M.2.2.1) (hl0 : (i, (.long x : Value)) :: lv.filter (fun q => !(q.1 == i) && (!(q.1 == i + 1) && !(q.1 + 1 == i && q.2.category == 2))) = lv') (a : zA l D b M h fz kc ks Z (pc + 1) lv' stk k n N kd γ σ τ) : zA l D b M h fz kc ks Z pc lv (.long x :: stk) k n N kd γ σ τ :=
  fun p e R s m args below meth c C H locs ls hl hW hS => lv_lstore_n C.1 C.2.1 hd hf hl hn hl0 (fun ls' hl' => a p e R s m args below meth c C H locs ls' hl' hW hS)
theorem r_lstore {i : Nat} {x : Int64} (hd : decode M.2.1 pc = .ok (.lstore i, 2)) (hn : i + 1 < M.2.2.1) (hl0 : (i, (.long x : Value)) :: lv.filter (fun q => !(q.1 == i) && (!(q.1 == i + 1) && !(q.1 + 1 == i && q.2.category == 2))) = lv') (a : zA l D b M h fz kc ks Z (pc + 2) lv' stk k n N kd γ σ τ) : zA l D b M h fz kc ks Z pc lv (.long x :: stk) k n N kd γ σ τ :=
  fun p e R s m args below meth c C H locs ls hl hW hS => lv_lstore C.1 C.2.1 hd hl hn hl0 (fun ls' hl' => a p e R s m args below meth c C H locs ls' hl' hW hS)
theorem r_aload_n (q : Nat) {f : Fin 4} {i : Nat} {x : Nat} (hd : decode M.2.1 pc = .ok (.aload_n f, 1)) (hf : (f : Nat) = i) (hq : lv[q]? = some (i, .ref x)) (a : zA l D b M h fz kc ks Z (pc + 1) lv (.ref x :: stk) k n N kd γ σ τ) : zA l D b M h fz kc ks Z pc lv stk k n N kd γ σ τ :=
  fun p e R s m args below meth c C H locs ls hl hW hS => lv_aload_n C.1 C.2.1 hd hf (lv_at hl q hq) (a p e R s m args below meth c C H locs ls hl hW hS)
theorem r_aload (q : Nat) {i : Nat} {x : Nat} (hd : decode M.2.1 pc = .ok (.aload i, 2)) (hq : lv[q]? = some (i, .ref x)) (a : zA l D b M h fz kc ks Z (pc + 2) lv (.ref x :: stk) k n N kd γ σ τ) : zA l D b M h fz kc ks Z pc lv stk k n N kd γ σ τ :=
  fun p e R s m args below meth c C H locs ls hl hW hS => lv_aload C.1 C.2.1 hd (lv_at hl q hq) (a p e R s m args below meth c C H locs ls hl hW hS)
theorem r_astore_n {f : Fin 4} {i : Nat} {x : Nat} (hd : decode M.2.1 pc = .ok (.astore_n f, 1)) (hf : (f : Nat) = i) (hn : i < M.2.2.1) (hl0 : (i, (.ref x : Value)) :: lv.filter (fun q => !(q.1 == i) && !(q.1 + 1 == i && q.2.category == 2)) = lv') (a : zA l D b M h fz kc ks Z (pc + 1) lv' stk k n N kd γ σ τ) : zA l D b M h fz kc ks Z pc lv (.ref x :: stk) k n N kd γ σ τ :=
  fun p e R s m args below meth c C H locs ls hl hW hS => lv_astore_n C.1 C.2.1 hd hf hl hn hl0 (fun ls' hl' => a p e R s m args below meth c C H locs ls' hl' hW hS)
theorem r_astore {i : Nat} {x : Nat} (hd : decode M.2.1 pc = .ok (.astore i, 2)) (hn : i < M.2.2.1) (hl0 : (i, (.ref x : Value)) :: lv.filter (fun q => !(q.1 == i) && !(q.1 + 1 == i && q.2.category == 2)) = lv') (a : zA l D b M h fz kc ks Z (pc + 2) lv' stk k n N kd γ σ τ) : zA l D b M h fz kc ks Z pc lv (.ref x :: stk) k n N kd γ σ τ :=
  fun p e R s m args below meth c C H locs ls hl hW hS => lv_astore C.1 C.2.1 hd hl hn hl0 (fun ls' hl' => a p e R s m args below meth c C H locs ls' hl' hW hS)
theorem r_iinc (q : Nat) {i : Nat} {z : Int} {x v : Int32} (hd : decode M.2.1 pc = .ok (.iinc i z, 3)) (hq : lv[q]? = some (i, .int x)) (hv : x + Int32.ofInt z = v) (hn : i < M.2.2.1) (hl0 : (i, Value.int v) :: lv.filter (fun q => !(q.1 == i) && !(q.1 + 1 == i && q.2.category == 2)) = lv') (a : zA l D b M h fz kc ks Z (pc + 3) lv' stk k n N kd γ σ τ) : zA l D b M h fz kc ks Z pc lv stk k n N kd γ σ τ :=
  fun p e R s m args below meth c C H locs ls hl hW hS => lv_iinc C.1 C.2.1 hd hl hq hv hn hl0 (fun ls' hl' => a p e R s m args below meth c C H locs ls' hl' hW hS)
theorem r_lv (qs : List Nat) (hl0 : lv_pick lv qs = lv') (a : zA l D b M h fz kc ks Z pc lv' stk k n N kd γ σ τ) : zA l D b M h fz kc ks Z pc lv stk k n N kd γ σ τ :=
  fun p e R s m args below meth c C H locs ls hl hW hS => a p e R s m args below meth c C H locs ls (lv_sub hl qs hl0) hW hS
theorem r_goto {off : Int} {tgt : Nat} (hd : decode M.2.1 pc = .ok (.goto off, 3)) (ht : (pc : Int) + off = (tgt : Int)) (a : zA l D b M h fz kc ks Z tgt lv stk k n N kd γ σ τ) : zA l D b M h fz kc ks Z pc lv stk k n N kd γ σ τ :=
  fun p e R s m args below meth c C H locs ls hl hW hS => lv_goto C.1 C.2.1 hd ht (a p e R s m args below meth c C H locs ls hl hW hS)
theorem r_if_eq {x : Int32} {off : Int} {tgt : Nat} (hd : decode M.2.1 pc = .ok (.ifCond .eq off, 3)) (ht : (pc : Int) + off = (tgt : Int)) (at_ : x = 0 → zA l D b M h fz kc ks Z tgt lv stk k n N kd γ σ τ) (af : ¬ x = 0 → zA l D b M h fz kc ks Z (pc + 3) lv stk k n N kd γ σ τ) : zA l D b M h fz kc ks Z pc lv (.int x :: stk) k n N kd γ σ τ :=
  fun p e R s m args below meth c C H locs ls hl hW hS => lv_if_eq C.1 C.2.1 hd ht (fun q => at_ q p e R s m args below meth c C H locs ls hl hW hS) (fun q => af q p e R s m args below meth c C H locs ls hl hW hS)
theorem r_if_ne {x : Int32} {off : Int} {tgt : Nat} (hd : decode M.2.1 pc = .ok (.ifCond .ne off, 3)) (ht : (pc : Int) + off = (tgt : Int)) (at_ : ¬ x = 0 → zA l D b M h fz kc ks Z tgt lv stk k n N kd γ σ τ) (af : x = 0 → zA l D b M h fz kc ks Z (pc + 3) lv stk k n N kd γ σ τ) : zA l D b M h fz kc ks Z pc lv (.int x :: stk) k n N kd γ σ τ :=
  fun p e R s m args below meth c C H locs ls hl hW hS => lv_if_ne C.1 C.2.1 hd ht (fun q => at_ q p e R s m args below meth c C H locs ls hl hW hS) (fun q => af q p e R s m args below meth c C H locs ls hl hW hS)
theorem r_if_lt {x : Int32} {off : Int} {tgt : Nat} (hd : decode M.2.1 pc = .ok (.ifCond .lt off, 3)) (ht : (pc : Int) + off = (tgt : Int)) (at_ : x < 0 → zA l D b M h fz kc ks Z tgt lv stk k n N kd γ σ τ) (af : ¬ x < 0 → zA l D b M h fz kc ks Z (pc + 3) lv stk k n N kd γ σ τ) : zA l D b M h fz kc ks Z pc lv (.int x :: stk) k n N kd γ σ τ :=
  fun p e R s m args below meth c C H locs ls hl hW hS => lv_if_lt C.1 C.2.1 hd ht (fun q => at_ q p e R s m args below meth c C H locs ls hl hW hS) (fun q => af q p e R s m args below meth c C H locs ls hl hW hS)
theorem r_if_ge {x : Int32} {off : Int} {tgt : Nat} (hd : decode M.2.1 pc = .ok (.ifCond .ge off, 3)) (ht : (pc : Int) + off = (tgt : Int)) (at_ : 0 ≤ x → zA l D b M h fz kc ks Z tgt lv stk k n N kd γ σ τ) (af : ¬ 0 ≤ x → zA l D b M h fz kc ks Z (pc + 3) lv stk k n N kd γ σ τ) : zA l D b M h fz kc ks Z pc lv (.int x :: stk) k n N kd γ σ τ :=
  fun p e R s m args below meth c C H locs ls hl hW hS => lv_if_ge C.1 C.2.1 hd ht (fun q => at_ q p e R s m args below meth c C H locs ls hl hW hS) (fun q => af q p e R s m args below meth c C H locs ls hl hW hS)
theorem r_if_gt {x : Int32} {off : Int} {tgt : Nat} (hd : decode M.2.1 pc = .ok (.ifCond .gt off, 3)) (ht : (pc : Int) + off = (tgt : Int)) (at_ : 0 < x → zA l D b M h fz kc ks Z tgt lv stk k n N kd γ σ τ) (af : ¬ 0 < x → zA l D b M h fz kc ks Z (pc + 3) lv stk k n N kd γ σ τ) : zA l D b M h fz kc ks Z pc lv (.int x :: stk) k n N kd γ σ τ :=
  fun p e R s m args below meth c C H locs ls hl hW hS => lv_if_gt C.1 C.2.1 hd ht (fun q => at_ q p e R s m args below meth c C H locs ls hl hW hS) (fun q => af q p e R s m args below meth c C H locs ls hl hW hS)
theorem r_if_le {x : Int32} {off : Int} {tgt : Nat} (hd : decode M.2.1 pc = .ok (.ifCond .le off, 3)) (ht : (pc : Int) + off = (tgt : Int)) (at_ : x ≤ 0 → zA l D b M h fz kc ks Z tgt lv stk k n N kd γ σ τ) (af : ¬ x ≤ 0 → zA l D b M h fz kc ks Z (pc + 3) lv stk k n N kd γ σ τ) : zA l D b M h fz kc ks Z pc lv (.int x :: stk) k n N kd γ σ τ :=
  fun p e R s m args below meth c C H locs ls hl hW hS => lv_if_le C.1 C.2.1 hd ht (fun q => at_ q p e R s m args below meth c C H locs ls hl hW hS) (fun q => af q p e R s m args below meth c C H locs ls hl hW hS)
theorem r_icmp_eq {x y : Int32} {off : Int} {tgt : Nat} (hd : decode M.2.1 pc = .ok (.if_icmp .eq off, 3)) (ht : (pc : Int) + off = (tgt : Int)) (at_ : x = y → zA l D b M h fz kc ks Z tgt lv stk k n N kd γ σ τ) (af : ¬ x = y → zA l D b M h fz kc ks Z (pc + 3) lv stk k n N kd γ σ τ) : zA l D b M h fz kc ks Z pc lv (.int y :: .int x :: stk) k n N kd γ σ τ :=
  fun p e R s m args below meth c C H locs ls hl hW hS => lv_icmp_eq C.1 C.2.1 hd ht (fun q => at_ q p e R s m args below meth c C H locs ls hl hW hS) (fun q => af q p e R s m args below meth c C H locs ls hl hW hS)
theorem r_icmp_ne {x y : Int32} {off : Int} {tgt : Nat} (hd : decode M.2.1 pc = .ok (.if_icmp .ne off, 3)) (ht : (pc : Int) + off = (tgt : Int)) (at_ : ¬ x = y → zA l D b M h fz kc ks Z tgt lv stk k n N kd γ σ τ) (af : x = y → zA l D b M h fz kc ks Z (pc + 3) lv stk k n N kd γ σ τ) : zA l D b M h fz kc ks Z pc lv (.int y :: .int x :: stk) k n N kd γ σ τ :=
  fun p e R s m args below meth c C H locs ls hl hW hS => lv_icmp_ne C.1 C.2.1 hd ht (fun q => at_ q p e R s m args below meth c C H locs ls hl hW hS) (fun q => af q p e R s m args below meth c C H locs ls hl hW hS)
theorem r_icmp_lt {x y : Int32} {off : Int} {tgt : Nat} (hd : decode M.2.1 pc = .ok (.if_icmp .lt off, 3)) (ht : (pc : Int) + off = (tgt : Int)) (at_ : x < y → zA l D b M h fz kc ks Z tgt lv stk k n N kd γ σ τ) (af : ¬ x < y → zA l D b M h fz kc ks Z (pc + 3) lv stk k n N kd γ σ τ) : zA l D b M h fz kc ks Z pc lv (.int y :: .int x :: stk) k n N kd γ σ τ :=
  fun p e R s m args below meth c C H locs ls hl hW hS => lv_icmp_lt C.1 C.2.1 hd ht (fun q => at_ q p e R s m args below meth c C H locs ls hl hW hS) (fun q => af q p e R s m args below meth c C H locs ls hl hW hS)
theorem r_icmp_ge {x y : Int32} {off : Int} {tgt : Nat} (hd : decode M.2.1 pc = .ok (.if_icmp .ge off, 3)) (ht : (pc : Int) + off = (tgt : Int)) (at_ : y ≤ x → zA l D b M h fz kc ks Z tgt lv stk k n N kd γ σ τ) (af : ¬ y ≤ x → zA l D b M h fz kc ks Z (pc + 3) lv stk k n N kd γ σ τ) : zA l D b M h fz kc ks Z pc lv (.int y :: .int x :: stk) k n N kd γ σ τ :=
  fun p e R s m args below meth c C H locs ls hl hW hS => lv_icmp_ge C.1 C.2.1 hd ht (fun q => at_ q p e R s m args below meth c C H locs ls hl hW hS) (fun q => af q p e R s m args below meth c C H locs ls hl hW hS)
theorem r_icmp_gt {x y : Int32} {off : Int} {tgt : Nat} (hd : decode M.2.1 pc = .ok (.if_icmp .gt off, 3)) (ht : (pc : Int) + off = (tgt : Int)) (at_ : y < x → zA l D b M h fz kc ks Z tgt lv stk k n N kd γ σ τ) (af : ¬ y < x → zA l D b M h fz kc ks Z (pc + 3) lv stk k n N kd γ σ τ) : zA l D b M h fz kc ks Z pc lv (.int y :: .int x :: stk) k n N kd γ σ τ :=
  fun p e R s m args below meth c C H locs ls hl hW hS => lv_icmp_gt C.1 C.2.1 hd ht (fun q => at_ q p e R s m args below meth c C H locs ls hl hW hS) (fun q => af q p e R s m args below meth c C H locs ls hl hW hS)
theorem r_icmp_le {x y : Int32} {off : Int} {tgt : Nat} (hd : decode M.2.1 pc = .ok (.if_icmp .le off, 3)) (ht : (pc : Int) + off = (tgt : Int)) (at_ : x ≤ y → zA l D b M h fz kc ks Z tgt lv stk k n N kd γ σ τ) (af : ¬ x ≤ y → zA l D b M h fz kc ks Z (pc + 3) lv stk k n N kd γ σ τ) : zA l D b M h fz kc ks Z pc lv (.int y :: .int x :: stk) k n N kd γ σ τ :=
  fun p e R s m args below meth c C H locs ls hl hW hS => lv_icmp_le C.1 C.2.1 hd ht (fun q => at_ q p e R s m args below meth c C H locs ls hl hW hS) (fun q => af q p e R s m args below meth c C H locs ls hl hW hS)
theorem r_tableOut {dflt lo hi : Int} {offs : Array Int} {len : Nat} {x : Int32} {tgt : Nat} (hd : decode M.2.1 pc = .ok (.tableswitch dflt lo hi offs, len)) (hx : x.toInt < lo ∨ hi < x.toInt) (ht : (pc : Int) + dflt = (tgt : Int)) (a : zA l D b M h fz kc ks Z tgt lv stk k n N kd γ σ τ) : zA l D b M h fz kc ks Z pc lv (.int x :: stk) k n N kd γ σ τ :=
  fun p e R s m args below meth c C H locs ls hl hW hS => lv_tableOut C.1 C.2.1 hd hx ht (a p e R s m args below meth c C H locs ls hl hW hS)
theorem r_tableIn {dflt lo hi : Int} {offs : Array Int} {len : Nat} {x : Int32} {off : Int} {tgt : Nat} (hd : decode M.2.1 pc = .ok (.tableswitch dflt lo hi offs, len)) (h1 : ¬ x.toInt < lo) (h2 : ¬ hi < x.toInt) (ho : offs[(x.toInt - lo).toNat]? = some off) (ht : (pc : Int) + off = (tgt : Int)) (a : zA l D b M h fz kc ks Z tgt lv stk k n N kd γ σ τ) : zA l D b M h fz kc ks Z pc lv (.int x :: stk) k n N kd γ σ τ :=
  fun p e R s m args below meth c C H locs ls hl hW hS => lv_tableIn C.1 C.2.1 hd h1 h2 ho ht (a p e R s m args below meth c C H locs ls hl hW hS)
theorem r_lookup {dflt : Int} {ps : Array (Int × Int)} {len : Nat} {x : Int32} {off : Int} {tgt : Nat} (hd : decode M.2.1 pc = .ok (.lookupswitch dflt ps, len)) (hp : (ps.toList.zip (ps.toList.drop 1)).all (fun (a, next) => a.1 < next.1) = true) (ho : Op.lookupswitch.offset ps.toList dflt x.toInt = off) (ht : (pc : Int) + off = (tgt : Int)) (a : zA l D b M h fz kc ks Z tgt lv stk k n N kd γ σ τ) : zA l D b M h fz kc ks Z pc lv (.int x :: stk) k n N kd γ σ τ :=
  fun p e R s m args below meth c C H locs ls hl hW hS => lv_lookup C.1 C.2.1 hd hp ho ht (a p e R s m args below meth c C H locs ls hl hW hS)
theorem r_getI {ci c j : Nat} {C : String} {T : u_T} {nf index : Nat} (hN : c < N) (hk : (kd c).1 = ci + 4) (hc : cls12[ci]? = some (C, T, nf)) (hj : j < nf) (hty : cTy ci j = .int) (hw : Cond.fieldLink M.1.cls index (T j).1 (T j).2.1 (T j).2.2.1 ∈ lw_tbl) (hd : decode M.2.1 pc = .ok (.getfield index, 3)) (a : zA l D b M h fz kc ks Z (pc + 3) lv (.int (σ c j) :: stk) k n N kd γ σ τ) : zA l D b M h fz kc ks Z pc lv (.ref (b + c) :: stk) k n N kd γ σ τ := by
  intro p e R s m args below meth c0 C H locs ls hl hW hS
  obtain ⟨hcn, hci, -, -⟩ := cls_N hc
  obtain ⟨hP, hK, hz⟩ := hW
  refine va_get (D := D.1) (ci := ci) (v := .int (σ c j)) C.1 C.2.1 C.2.2.2.2.2.1 hci C.2.2.2.2.1 hK hP c (fs := fldsOf b ci (γ c) (σ c) (τ c)) ?_ hc j hj (C.2.2.2.2.2.1 _ (lw_gIn hw rfl)) (fun _ h9 => h9) ?_ hd (a p e R s m args below meth c0 C H locs ls hl ⟨hP, hK, hz⟩ hS)
  · rw [wlE_get hN]; unfold zEE zEnt; rw [hk]
  · rw [flds_get (by rw [hcn]; exact hj), hty]; rfl
theorem r_getL {ci c j : Nat} {C : String} {T : u_T} {nf index : Nat} (hN : c < N) (hk : (kd c).1 = ci + 4) (hc : cls12[ci]? = some (C, T, nf)) (hj : j < nf) (hty : cTy ci j = .long) (hw : Cond.fieldLink M.1.cls index (T j).1 (T j).2.1 (T j).2.2.1 ∈ lw_tbl) (hd : decode M.2.1 pc = .ok (.getfield index, 3)) (a : zA l D b M h fz kc ks Z (pc + 3) lv (.long (τ c j) :: stk) k n N kd γ σ τ) : zA l D b M h fz kc ks Z pc lv (.ref (b + c) :: stk) k n N kd γ σ τ := by
  intro p e R s m args below meth c0 C H locs ls hl hW hS
  obtain ⟨hcn, hci, -, -⟩ := cls_N hc
  obtain ⟨hP, hK, hz⟩ := hW
  refine va_get (D := D.1) (ci := ci) (v := .long (τ c j)) C.1 C.2.1 C.2.2.2.2.2.1 hci C.2.2.2.2.1 hK hP c (fs := fldsOf b ci (γ c) (σ c) (τ c)) ?_ hc j hj (C.2.2.2.2.2.1 _ (lw_gIn hw rfl)) (fun _ h9 => h9) ?_ hd (a p e R s m args below meth c0 C H locs ls hl ⟨hP, hK, hz⟩ hS)
  · rw [wlE_get hN]; unfold zEE zEnt; rw [hk]
  · rw [flds_get (by rw [hcn]; exact hj), hty]; rfl
theorem r_getR {c2 : Nat} {ci c j : Nat} {C : String} {T : u_T} {nf index : Nat} (hN : c < N) (hk : (kd c).1 = ci + 4) (hc : cls12[ci]? = some (C, T, nf)) (hj : j < nf) (hty : (match cTy ci j with | .int => false | .long => false | _ => true) = true) (hg : γ c j = some c2) (hw : Cond.fieldLink M.1.cls index (T j).1 (T j).2.1 (T j).2.2.1 ∈ lw_tbl) (hd : decode M.2.1 pc = .ok (.getfield index, 3)) (a : zA l D b M h fz kc ks Z (pc + 3) lv (.ref (b + c2) :: stk) k n N kd γ σ τ) : zA l D b M h fz kc ks Z pc lv (.ref (b + c) :: stk) k n N kd γ σ τ := by
  intro p e R s m args below meth c0 C H locs ls hl hW hS
  obtain ⟨hcn, hci, -, -⟩ := cls_N hc
  obtain ⟨hP, hK, hz⟩ := hW
  refine va_get (D := D.1) (ci := ci) (v := .ref (b + c2)) C.1 C.2.1 C.2.2.2.2.2.1 hci C.2.2.2.2.1 hK hP c (fs := fldsOf b ci (γ c) (σ c) (τ c)) ?_ hc j hj (C.2.2.2.2.2.1 _ (lw_gIn hw rfl)) (fun _ h9 => h9) ?_ hd (a p e R s m args below meth c0 C H locs ls hl ⟨hP, hK, hz⟩ hS)
  · rw [wlE_get hN]; unfold zEE zEnt; rw [hk]
  · rw [flds_get (by rw [hcn]; exact hj), hg]
    unfold fval
    cases hx : cTy ci j <;> rw [hx] at hty <;> first | rfl | cases hty
end ROWS
section PUTS
variable {p : Program} {l : Launch} {e : Env} {R : Room} {s : State} {m : MethodId} {args : Array Value} {below : List Frame} {meth : Method} {c : Code} {H : Heap} {locs : List Loc} {cells slots : Nat} {Q : State → Prop}
variable {cc : ByteArray} {pc : Nat} {ls : Array Slot} {rest : List Value} {D : va_G} {cl : List vw_C} {A : Nat → Prop} {a : Nat} {tys : List (ClassId × FieldType)} {ws : va_W} {H0 : Heap}
theorem pt_put (hexec : p.tables.exec = Jvm.exec) (hb : c.code = cc) {own C : String} {T : u_T} {N ci index : Nat} {Ts : List Cond} (hts : ∀ w ∈ Ts, w.before args s = true) (hin : ∀ w ∈ u_ws C T N, w ∈ Ts) (ty0 : Nat → FieldType) (hty : ∀ k, k < N → parseFieldDescriptor (T k).2.2.1 = some (ty0 k)) (hnm : ∀ a, a < N → ∀ b, b < N → a ≠ b → (T a).2.1 ≠ (T b).2.1) (hown : s.vm.findClass own = some m.cls) (hK : va_K D cl tys s) (hP : va_P D cl ws H) (hD : va_D A ws) (hS0 : va_S A H0 H locs) (q0 : Nat) {fs : List Value} (he : ws[q0]? = some (a, .inr (ci, fs))) (hc : cl[ci]? = some (C, T, N)) (k : Nat) (hk : k < N) (hlink : (Cond.fieldLink own index (T k).1 (T k).2.1 (T k).2.2.1).before args s = true) (hfin : (T k).2.2.2 = false ∨ ((T k).2.2.2 = true ∧ meth.name = "<init>" ∧ (T k).1 = own)) {v : Value} (hn : narrow (ty0 k) v = v) (hfit : fits (ty0 k) v = true) (hl : k < fs.length)
    (hdg : decode cc pc = .ok (.putfield index, 3)) (kk : ∀ (H1 : Heap) (locs1 : List Loc), H1.size = H.size → va_P D cl (ws.set q0 (a, .inr (ci, fs.set k v))) H1 → va_S A H0 H1 locs1 → W p l e R s m args below meth c H1 locs1 cells slots Q (F0 m (pc + 3) ls rest)) : W p l e R s m args below meth c H locs cells slots Q (F0 m pc ls (v :: .ref a :: rest)) := by
  have hap := va_apart (own := own) hts hin ty0 hty hnm hK hc
  obtain ⟨r, h1, cell, q1, q2, q3, q4⟩ := hP q0 _ he
  have hr : r = (C, T, N) := Option.some.inj (h1.symm.trans hc)
  subst hr
  obtain ⟨hS, hfc, kC, hkC, hkind⟩ := hK.1 ci _ hc
  obtain ⟨cf, kf, fi, f, hi, hsl⟩ := hS k hk
  have hd := hty k hk
  have hlay := hts _ (hin _ (u_in_lay hk))
  have hst := (u_facts hfc hkC (u_lays hts hin hk) hi).1
  have fin : ∀ H' : Heap, H'[a]? = some (cell.setSlot f.slot v) → H'.size = H.size → (∀ q, q ≠ a → H'[q]? = H[q]?) → W p l e R s m args below meth c H' (locs ++ [⟨a, f.slot⟩]) cells slots Q (F0 m (pc + 3) ls rest) := by
    intro H' e1 e2 e3
    rw [hsl] at e1 ⊢
    exact kk H' _ e2 (hP.set hD he ⟨_, hc, t_OB.to (V := updV (vp_V fs) k v) ⟨_, e1, q2, q3, t_set q4 hap hk v⟩ (fun j _ => vp_updV_set hl v j)⟩ e3) (hS0.put e2 e3 (hD.2 q0 _ he))
  rcases hfin with hfin | ⟨hfin, hin2, hdecl⟩
  · unfold u_lay at hlay
    rw [if_neg (by rw [hfin]; decide)] at hlay
    have h6 := u_store hfc hkC hkind hlay hi hd hn hfit
    exact W.putK hexec hb (f := f) ⟨hown, hlink, ⟨_, _, _, hi⟩, hst⟩ (by rw [q2]; exact h6) q1 q3 (by rw [hsl]; exact k2_hasslot (q4 k hk)) rfl rfl hdg fin
  · unfold u_lay at hlay
    rw [if_pos hfin] at hlay
    have hcf : m.cls = cf := by
      obtain ⟨_, _, c', _, _, _, -, -, hf', -, -, -, hown2, -⟩ := Cond.laysFinal_spec hlay
      have e1 : c' = cf := by have := hi.symm.trans hf'; simp at this; exact this.1.symm
      rw [hdecl] at hown2
      rw [← e1]; exact Option.some.inj (hown.symm.trans hown2)
    have h6 := u_fits hfc hkC hkind (Or.inr hlay) hi hd hn hfit
    exact W.putFinK hexec hb hown hlink hi hst hcf hin2 (by rw [q2]; exact h6) q1 q3 (by rw [hsl]; exact k2_hasslot (q4 k hk)) rfl rfl hdg fin
end PUTS
section ROWS2
variable {l : Launch} {D : zDD} {b : Nat} {M : zMI} {h fz kc ks : Nat} {Z : zZZ} {pc : Nat} {lv lv' : List (Nat × Value)} {stk : List Value} {k n N : Nat} {kd : zKd} {γ : zGm} {σ : zSg} {τ : zLm}
theorem r_putI {x : Int32} {ci c j : Nat} {C : String} {T : u_T} {nf index : Nat} (hN : c < N) (hk : (kd c).1 = ci + 4) (hc : cls12[ci]? = some (C, T, nf)) (hj : j < nf) (hty : cTy ci j = .int) (hfin : (T j).2.2.2 = false ∨ ((T j).2.2.2 = true ∧ M.1.name = "<init>" ∧ (T j).1 = M.1.cls)) (hw : Cond.fieldLink M.1.cls index (T j).1 (T j).2.1 (T j).2.2.1 ∈ lw_tbl) (hd : decode M.2.1 pc = .ok (.putfield index, 3)) (a : zA l D b M h fz kc ks Z (pc + 3) lv stk k n N kd γ (st2 σ c j x) τ) : zA l D b M h fz kc ks Z pc lv (.int x :: .ref (b + c) :: stk) k n N kd γ σ τ := by
  intro p e R s m args below meth c0 C H locs ls hl hW hS
  obtain ⟨hcn, hci, hpt, hnm⟩ := cls_N hc
  obtain ⟨hP, hK, hz⟩ := hW
  have hget : (wl D b N kd γ σ τ)[c]? = some (b + c, .inr (ci, fldsOf b ci (γ c) (σ c) (τ c))) := by rw [wlE_get hN]; unfold zEE zEnt; rw [hk]
  have hnf : narrow (cTy ci j) (.int x) = .int x ∧ fits (cTy ci j) (.int x) = true := by
    rw [hty]; exact ⟨rfl, rfl⟩
  refine pt_put (D := D.1) (ci := ci) (v := .int x) C.1 C.2.1 C.2.2.2.2.2.1 hci (cTy ci) hpt hnm C.2.2.2.2.1 hK hP (wlE_D b N _) hS c hget hc j hj (C.2.2.2.2.2.1 _ (lw_gIn hw rfl)) (hfin.imp id (fun q => ⟨q.1, C.2.2.2.2.2.2.2.1.trans q.2.1, q.2.2⟩)) hnf.1 hnf.2 (by rw [flds_len, hcn]; exact hj) hd (fun H1 locs1 hz1 hP1 hS1 => ?_)
  have e1 : (wl D b N kd γ σ τ).set c (b + c, .inr (ci, (fldsOf b ci (γ c) (σ c) (τ c)).set j (.int x))) = wl D b N kd γ (st2 σ c j x) τ := by
    have e2 : (fldsOf b ci (γ c) (σ c) (τ c)).set j (.int x) = fldsOf b ci (γ c) (va_up (σ c) j x) (τ c) := flds_set (by rw [hty]; simp [fval, va_up]) (fun i hi => by simp [va_up, hi])
    rw [wlE_set, e2, show (Sum.inr (ci, fldsOf b ci (γ c) (va_up (σ c) j x) (τ c)) : va_E) = zEnt D b (kd c) (γ c) (va_up (σ c) j x) (τ c) by unfold zEnt; rw [hk], zEE_σ]
    rfl
  rw [e1] at hP1
  exact a p e R s m args below meth c0 C H1 locs1 ls hl ⟨hP1, hK, hz.imp id (fun q => hz1.trans q)⟩ hS1
theorem r_putL {x : Int64} {ci c j : Nat} {C : String} {T : u_T} {nf index : Nat} (hN : c < N) (hk : (kd c).1 = ci + 4) (hc : cls12[ci]? = some (C, T, nf)) (hj : j < nf) (hty : cTy ci j = .long) (hfin : (T j).2.2.2 = false ∨ ((T j).2.2.2 = true ∧ M.1.name = "<init>" ∧ (T j).1 = M.1.cls)) (hw : Cond.fieldLink M.1.cls index (T j).1 (T j).2.1 (T j).2.2.1 ∈ lw_tbl) (hd : decode M.2.1 pc = .ok (.putfield index, 3)) (a : zA l D b M h fz kc ks Z (pc + 3) lv stk k n N kd γ σ (st2 τ c j x)) : zA l D b M h fz kc ks Z pc lv (.long x :: .ref (b + c) :: stk) k n N kd γ σ τ := by
  intro p e R s m args below meth c0 C H locs ls hl hW hS
  obtain ⟨hcn, hci, hpt, hnm⟩ := cls_N hc
  obtain ⟨hP, hK, hz⟩ := hW
  have hget : (wl D b N kd γ σ τ)[c]? = some (b + c, .inr (ci, fldsOf b ci (γ c) (σ c) (τ c))) := by rw [wlE_get hN]; unfold zEE zEnt; rw [hk]
  have hnf : narrow (cTy ci j) (.long x) = .long x ∧ fits (cTy ci j) (.long x) = true := by
    rw [hty]; exact ⟨rfl, rfl⟩
  refine pt_put (D := D.1) (ci := ci) (v := .long x) C.1 C.2.1 C.2.2.2.2.2.1 hci (cTy ci) hpt hnm C.2.2.2.2.1 hK hP (wlE_D b N _) hS c hget hc j hj (C.2.2.2.2.2.1 _ (lw_gIn hw rfl)) (hfin.imp id (fun q => ⟨q.1, C.2.2.2.2.2.2.2.1.trans q.2.1, q.2.2⟩)) hnf.1 hnf.2 (by rw [flds_len, hcn]; exact hj) hd (fun H1 locs1 hz1 hP1 hS1 => ?_)
  have e1 : (wl D b N kd γ σ τ).set c (b + c, .inr (ci, (fldsOf b ci (γ c) (σ c) (τ c)).set j (.long x))) = wl D b N kd γ σ (st2 τ c j x) := by
    have e2 : (fldsOf b ci (γ c) (σ c) (τ c)).set j (.long x) = fldsOf b ci (γ c) (σ c) (va_up (τ c) j x) := flds_set (by rw [hty]; simp [fval, va_up]) (fun i hi => by simp [va_up, hi])
    rw [wlE_set, e2, show (Sum.inr (ci, fldsOf b ci (γ c) (σ c) (va_up (τ c) j x)) : va_E) = zEnt D b (kd c) (γ c) (σ c) (va_up (τ c) j x) by unfold zEnt; rw [hk], zEE_τ]
    rfl
  rw [e1] at hP1
  exact a p e R s m args below meth c0 C H1 locs1 ls hl ⟨hP1, hK, hz.imp id (fun q => hz1.trans q)⟩ hS1
theorem r_putR {c2 : Nat} {ci c j : Nat} {C : String} {T : u_T} {nf index : Nat} (hN : c < N) (hk : (kd c).1 = ci + 4) (hc : cls12[ci]? = some (C, T, nf)) (hj : j < nf) (hty : (match cTy ci j with | .object _ => true | .array _ => true | _ => false) = true) (hfin : (T j).2.2.2 = false ∨ ((T j).2.2.2 = true ∧ M.1.name = "<init>" ∧ (T j).1 = M.1.cls)) (hw : Cond.fieldLink M.1.cls index (T j).1 (T j).2.1 (T j).2.2.1 ∈ lw_tbl) (hd : decode M.2.1 pc = .ok (.putfield index, 3)) (a : zA l D b M h fz kc ks Z (pc + 3) lv stk k n N kd (st2 γ c j (some c2)) σ τ) : zA l D b M h fz kc ks Z pc lv (.ref (b + c2) :: .ref (b + c) :: stk) k n N kd γ σ τ := by
  intro p e R s m args below meth c0 C H locs ls hl hW hS
  obtain ⟨hcn, hci, hpt, hnm⟩ := cls_N hc
  obtain ⟨hP, hK, hz⟩ := hW
  have hget : (wl D b N kd γ σ τ)[c]? = some (b + c, .inr (ci, fldsOf b ci (γ c) (σ c) (τ c))) := by rw [wlE_get hN]; unfold zEE zEnt; rw [hk]
  have hnf : narrow (cTy ci j) (.ref (b + c2)) = .ref (b + c2) ∧ fits (cTy ci j) (.ref (b + c2)) = true := by
    cases hx : cTy ci j <;> rw [hx] at hty <;> first | exact ⟨rfl, rfl⟩ | cases hty
  refine pt_put (D := D.1) (ci := ci) (v := .ref (b + c2)) C.1 C.2.1 C.2.2.2.2.2.1 hci (cTy ci) hpt hnm C.2.2.2.2.1 hK hP (wlE_D b N _) hS c hget hc j hj (C.2.2.2.2.2.1 _ (lw_gIn hw rfl)) (hfin.imp id (fun q => ⟨q.1, C.2.2.2.2.2.2.2.1.trans q.2.1, q.2.2⟩)) hnf.1 hnf.2 (by rw [flds_len, hcn]; exact hj) hd (fun H1 locs1 hz1 hP1 hS1 => ?_)
  have e1 : (wl D b N kd γ σ τ).set c (b + c, .inr (ci, (fldsOf b ci (γ c) (σ c) (τ c)).set j (.ref (b + c2)))) = wl D b N kd (st2 γ c j (some c2)) σ τ := by
    have e2 : (fldsOf b ci (γ c) (σ c) (τ c)).set j (.ref (b + c2)) = fldsOf b ci (va_up (γ c) j (some c2)) (σ c) (τ c) := flds_set (by cases hx : cTy ci j <;> rw [hx] at hty <;> first | (simp [fval, va_up, rv, va_rf]; done) | cases hty) (fun i hi => by simp [va_up, hi])
    rw [wlE_set, e2, show (Sum.inr (ci, fldsOf b ci (va_up (γ c) j (some c2)) (σ c) (τ c)) : va_E) = zEnt D b (kd c) (va_up (γ c) j (some c2)) (σ c) (τ c) by unfold zEnt; rw [hk], zEE_γ]
    rfl
  rw [e1] at hP1
  exact a p e R s m args below meth c0 C H1 locs1 ls hl ⟨hP1, hK, hz.imp id (fun q => hz1.trans q)⟩ hS1
theorem r_iald {c len : Nat} {i : Int32} (hN : c < N) (hk : kd c = (0, len)) (hd : decode M.2.1 pc = .ok (.iaload, 1)) (hin : vp_in i len) (a : zA l D b M h fz kc ks Z (pc + 1) lv (.int (σ c i.toNatClampNeg) :: stk) k n N kd γ σ τ) : zA l D b M h fz kc ks Z pc lv (.int i :: .ref (b + c) :: stk) k n N kd γ σ τ := by
  intro p e R s m args below meth c0 C H locs ls hl hW hS
  obtain ⟨hP, hK, hz⟩ := hW
  exact va_iald (D := D.1) C.1 C.2.1 hK hP c 0 (cA := D.2 0) (n := len) (f := σ c) (by rw [wlE_get hN]; unfold zEE zEnt; rw [hk]) rfl hin hd (a p e R s m args below meth c0 C H locs ls hl ⟨hP, hK, hz⟩ hS)
theorem r_zald {c len : Nat} {i : Int32} (hN : c < N) (hk : kd c = (1, len)) (hd : decode M.2.1 pc = .ok (.baload, 1)) (hin : vp_in i len) (a : zA l D b M h fz kc ks Z (pc + 1) lv (.int (σ c i.toNatClampNeg) :: stk) k n N kd γ σ τ) : zA l D b M h fz kc ks Z pc lv (.int i :: .ref (b + c) :: stk) k n N kd γ σ τ := by
  intro p e R s m args below meth c0 C H locs ls hl hW hS
  obtain ⟨hP, hK, hz⟩ := hW
  exact va_zald (D := D.1) C.1 C.2.1 hK hP c 1 (cA := D.2 1) (n := len) (f := σ c) (by rw [wlE_get hN]; unfold zEE zEnt; rw [hk]) rfl hin hd (a p e R s m args below meth c0 C H locs ls hl ⟨hP, hK, hz⟩ hS)
theorem r_lald {c len : Nat} {i : Int32} (hN : c < N) (hk : kd c = (2, len)) (hd : decode M.2.1 pc = .ok (.laload, 1)) (hin : vp_in i len) (a : zA l D b M h fz kc ks Z (pc + 1) lv (.long (τ c i.toNatClampNeg) :: stk) k n N kd γ σ τ) : zA l D b M h fz kc ks Z pc lv (.int i :: .ref (b + c) :: stk) k n N kd γ σ τ := by
  intro p e R s m args below meth c0 C H locs ls hl hW hS
  obtain ⟨hP, hK, hz⟩ := hW
  exact va_lald (D := D.1) C.1 C.2.1 hK hP c 2 (cA := D.2 2) (n := len) (f := τ c) (by rw [wlE_get hN]; unfold zEE zEnt; rw [hk]) rfl hin hd (a p e R s m args below meth c0 C H locs ls hl ⟨hP, hK, hz⟩ hS)
theorem r_aald {c len c2 : Nat} {i : Int32} (hN : c < N) (hk : kd c = (3, len)) (hd : decode M.2.1 pc = .ok (.aaload, 1)) (hin : vp_in i len) (hg : γ c i.toNatClampNeg = some c2) (a : zA l D b M h fz kc ks Z (pc + 1) lv (.ref (b + c2) :: stk) k n N kd γ σ τ) : zA l D b M h fz kc ks Z pc lv (.int i :: .ref (b + c) :: stk) k n N kd γ σ τ := by
  intro p e R s m args below meth c0 C H locs ls hl hW hS
  obtain ⟨hP, hK, hz⟩ := hW
  refine va_aldq (D := D.1) (C := RX8) C.1 C.2.1 hK hP c 3 (cA := D.2 3) (n := len) (f := fun j => (γ c j).map (fun q => b + q)) (by rw [wlE_get hN]; unfold zEE zEnt; rw [hk]) rfl hin hd ?_
  rw [hg]
  exact a p e R s m args below meth c0 C H locs ls hl ⟨hP, hK, hz⟩ hS
theorem r_iast {c len : Nat} {i : Int32} {x : Int32} (hN : c < N) (hk : kd c = (0, len)) (hd : decode M.2.1 pc = .ok (.iastore, 1)) (hin : vp_in i len) (a : zA l D b M h 0 kc ks Z (pc + 1) lv stk k n N kd γ (st2 σ c i.toNatClampNeg x) τ) : zA l D b M h 0 kc ks Z pc lv (.int x :: .int i :: .ref (b + c) :: stk) k n N kd γ σ τ := by
  intro p e R s m args below meth c0 C H locs ls hl hW hS
  obtain ⟨hP, hK, hz⟩ := hW
  refine va_iast (D := D.1) C.1 C.2.1 hK hP (wlE_D b N _) hS c 0 (cA := D.2 0) (n := len) (f := σ c) (by rw [wlE_get hN]; unfold zEE zEnt; rw [hk]) rfl hin hd (fun H1 locs1 hP1 hD1 hS1 => ?_)
  have e1 : (wl D b N kd γ σ τ).set c (b + c, .inl (D.2 0, len, .inl (upd (σ c) i.toNatClampNeg x))) = wl D b N kd γ (st2 σ c i.toNatClampNeg x) τ := by
    rw [wlE_set, show (.inl (D.2 0, len, .inl (upd (σ c) i.toNatClampNeg x)) : va_E) = zEnt D b (kd c) (γ c) (va_up (σ c) i.toNatClampNeg x) (τ c) by unfold zEnt; rw [hk]; rfl, zEE_σ]
    rfl
  rw [e1] at hP1
  exact a p e R s m args below meth c0 C H1 locs1 ls hl ⟨hP1, hK, Or.inl rfl⟩ hS1
theorem r_zast {c len : Nat} {i : Int32} {x : Int32} (hN : c < N) (hk : kd c = (1, len)) (hd : decode M.2.1 pc = .ok (.bastore, 1)) (hin : vp_in i len) (a : zA l D b M h 0 kc ks Z (pc + 1) lv stk k n N kd γ (st2 σ c i.toNatClampNeg (vp_nar .boolean x)) τ) : zA l D b M h 0 kc ks Z pc lv (.int x :: .int i :: .ref (b + c) :: stk) k n N kd γ σ τ := by
  intro p e R s m args below meth c0 C H locs ls hl hW hS
  obtain ⟨hP, hK, hz⟩ := hW
  refine va_zast (D := D.1) C.1 C.2.1 hK hP (wlE_D b N _) hS c 1 (cA := D.2 1) (n := len) (f := σ c) (by rw [wlE_get hN]; unfold zEE zEnt; rw [hk]) rfl hin hd (fun H1 locs1 hP1 hD1 hS1 => ?_)
  have e1 : (wl D b N kd γ σ τ).set c (b + c, .inl (D.2 1, len, .inl (upd (σ c) i.toNatClampNeg (vp_nar .boolean x)))) = wl D b N kd γ (st2 σ c i.toNatClampNeg (vp_nar .boolean x)) τ := by
    rw [wlE_set, show (.inl (D.2 1, len, .inl (upd (σ c) i.toNatClampNeg (vp_nar .boolean x))) : va_E) = zEnt D b (kd c) (γ c) (va_up (σ c) i.toNatClampNeg (vp_nar .boolean x)) (τ c) by unfold zEnt; rw [hk]; rfl, zEE_σ]
    rfl
  rw [e1] at hP1
  exact a p e R s m args below meth c0 C H1 locs1 ls hl ⟨hP1, hK, Or.inl rfl⟩ hS1
theorem r_last {c len : Nat} {i : Int32} {x : Int64} (hN : c < N) (hk : kd c = (2, len)) (hd : decode M.2.1 pc = .ok (.lastore, 1)) (hin : vp_in i len) (a : zA l D b M h 0 kc ks Z (pc + 1) lv stk k n N kd γ σ (st2 τ c i.toNatClampNeg x)) : zA l D b M h 0 kc ks Z pc lv (.long x :: .int i :: .ref (b + c) :: stk) k n N kd γ σ τ := by
  intro p e R s m args below meth c0 C H locs ls hl hW hS
  obtain ⟨hP, hK, hz⟩ := hW
  refine va_last (D := D.1) C.1 C.2.1 hK hP (wlE_D b N _) hS c 2 (cA := D.2 2) (n := len) (f := τ c) (by rw [wlE_get hN]; unfold zEE zEnt; rw [hk]) rfl hin hd (fun H1 locs1 hP1 hD1 hS1 => ?_)
  have e1 : (wl D b N kd γ σ τ).set c (b + c, .inl (D.2 2, len, .inr (.inl (vp_updL (τ c) i.toNatClampNeg x)))) = wl D b N kd γ σ (st2 τ c i.toNatClampNeg x) := by
    rw [wlE_set, show (.inl (D.2 2, len, .inr (.inl (vp_updL (τ c) i.toNatClampNeg x))) : va_E) = zEnt D b (kd c) (γ c) (σ c) (va_up (τ c) i.toNatClampNeg x) by unfold zEnt; rw [hk]; rfl, zEE_τ]
    rfl
  rw [e1] at hP1
  exact a p e R s m args below meth c0 C H1 locs1 ls hl ⟨hP1, hK, Or.inl rfl⟩ hS1
end ROWS2
