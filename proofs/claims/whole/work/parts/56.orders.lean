/-! IN WHICH ORDER: the mathematics and the reference. -/
def offT (S t : Nat) : Nat := S &&& (2 ^ t ^^^ 4294967295)
abbrev Os : Type := Option (Nat × Nat × Nat)
abbrev Bo : Type := Option (Nat × Nat)
def stp (p : Pl) (A : Sc) (o : Os) (t : Nat) : Os := match o with
  | none => none
  | some x => if x.1.testBit t then (match tgN p A t (hrS A + x.2.1) with
    | none => none
    | some K => some (offT x.1 t, x.2.1 + K, x.2.2 + (x.2.1 + K))) else none
def stOf (p : Pl) (A : Sc) (S0 : Nat) (ds : List Nat) : Os := ds.foldl (stp p A) (some (S0, 0, 0))
def figOf (ds : List Nat) : Nat := ds.foldl (fun a t => 10 * a + t + 1) 0
theorem stOf_s (p : Pl) (A : Sc) (S0 : Nat) (ds : List Nat) (t : Nat) : stOf p A S0 (ds ++ [t]) = stp p A (stOf p A S0 ds) t := by unfold stOf; rw [List.foldl_append]; rfl
theorem figOf_s (ds : List Nat) (t : Nat) : figOf (ds ++ [t]) = 10 * figOf ds + t + 1 := by unfold figOf; rw [List.foldl_append]; rfl
def fld {β : Type} (f : Nat → β → β) : Nat → β → β
  | 0, c => c
  | t + 1, c => f t (fld f t c)
def updB (c : Bo) (s f : Nat) : Bo := match c with
  | none => some (s, f)
  | some x => if s < x.1 then some (s, f) else some x
def enm (p : Pl) (A : Sc) (S0 : Nat) : Nat → List Nat → Bo → Bo
  | 0, ds, c => match stOf p A S0 ds with
    | none => c
    | some x => updB c x.2.2 (figOf ds)
  | k + 1, ds, c => fld (fun t c => enm p A S0 k (ds ++ [t]) c) (pm p) c
def ones : Nat → Nat
  | 0 => 0
  | k + 1 => 10 ^ k + ones k
theorem ones_lt : ∀ k, ones k < 10 ^ k
  | 0 => by decide
  | k + 1 => by
    have ih := ones_lt k
    rw [ones, Nat.pow_succ]; omega
theorem ones_t : ∀ k, ones (k + 1) = 10 * ones k + 1
  | 0 => rfl
  | k + 1 => by
    have ih := ones_t k
    rw [ones, ih, Nat.pow_succ]
    rw [ones] at ih
    omega
theorem ones_9 : ∀ k, 9 * ones k + 1 = 10 ^ k
  | 0 => rfl
  | k + 1 => by
    have ih := ones_9 k
    rw [ones, Nat.pow_succ]; omega
theorem p10_le {k n : Nat} (h : k ≤ n) : 10 ^ k ≤ 10 ^ n := Nat.pow_le_pow_right (by decide) h
theorem p10_pos (k : Nat) : 0 < 10 ^ k := Nat.pow_pos (by decide)
theorem fig_lt {ds : List Nat} (h : ∀ t, t ∈ ds → t < 9) : figOf ds < 10 ^ ds.length := by
  suffices H : ∀ n (ds : List Nat), ds.length = n → (∀ t, t ∈ ds → t < 9) → figOf ds < 10 ^ n from H _ ds rfl h
  intro n
  induction n with
  | zero =>
    intro ds hl _
    have : ds = [] := List.length_eq_zero_iff.mp hl
    subst this
    decide
  | succ n ih =>
    intro ds hl hd
    have hne : ds ≠ [] := fun e => by rw [e] at hl; cases hl
    have e := (List.dropLast_concat_getLast hne).symm
    have l1 : ds.dropLast.length = n := by rw [List.length_dropLast, hl]; rfl
    have h1 := ih ds.dropLast l1 (fun t ht => hd t ((List.dropLast_subset _ ht)))
    have h2 := hd (ds.getLast hne) (List.getLast_mem hne)
    rw [e, figOf_s, Nat.pow_succ]
    omega
theorem nI_10 {x : Nat} : (10 : Int32) * nI x = nI (10 * x) := pk_mul 10 x
theorem nI_r10 {a : Nat} (ha : a < 2 ^ 31) : nI a - nI a / 10 * 10 = nI (a % 10) := pk_rem (d := 10) ha (by decide) (by decide)
theorem nI_d10 {a : Nat} (ha : a < 2 ^ 31) : nI a / 10 = nI (a / 10) := pk_div (d := 10) ha (by decide) (by decide)
theorem divA {x a o : Nat} (ho : o < a) : (x * a + o) / a = x := by
  refine Nat.div_eq_of_lt_le ?_ ?_
  · omega
  · rw [Nat.add_mul, Nat.one_mul]; omega
section ORDERS
variable {l : Launch} {D : zDD} {b : Nat} {γ : zGm} {σ : zSg} {τ : zLm} {p : Pl} {A : Sc} {U : Un} {X : Xt} {Q : Int32 → zSg → zLm → Prop} {G : zSg → zLm → Prop}
theorem M_nextLoop {m q : Nat} (hm1 : 1 ≤ m) (hm : m ≤ 6) (hq : (q + 1) % 10 ≤ m) : ∀ i j, (q + 2) * 10 ^ (i + j) < 2 ^ 27 → Q (nI ((q + 1) * 10 ^ (i + j) + ones (i + j))) σ τ → AI l D b M_X12_nextFigures 0 γ Q 6 [(1, .int (nI m)), (2, .int (nI ((q * 10 ^ i + m * ones i + 1) * 10 ^ j + ones j))), (3, .int (nI (10 ^ j)))] [] γ σ τ := by
  intro i
  induction i with
  | zero =>
    intro j hb hQ
    rw [Nat.zero_add] at hb hQ
    have o1 := ones_lt j
    have a1 := p10_pos j
    have e : (q * 10 ^ 0 + m * ones 0 + 1) * 10 ^ j + ones j = (q + 1) * 10 ^ j + ones j := by
      rw [show ones 0 = 0 from rfl, Nat.pow_zero, Nat.mul_one, Nat.mul_zero, Nat.add_zero]
    rw [e]
    have e2 : ((q + 1) * 10 ^ j + ones j) / 10 ^ j = q + 1 := divA o1
    have hlt : (q + 1) * 10 ^ j + ones j < 2 ^ 27 := by
      rw [show q + 2 = (q + 1) + 1 from rfl, Nat.add_mul (q + 1) 1, Nat.one_mul] at hb; omega
    have hq1 : q + 1 ≤ (q + 1) * 10 ^ j := Nat.le_mul_of_pos_right _ a1
    have ha : 10 ^ j ≤ (q + 1) * 10 ^ j := Nat.le_mul_of_pos_left _ (by omega)
    refine w_X12_nextFigures_6 _ _ _ σ τ ⟨nI_ne0 a1 (by omega), ?_⟩
    rw [pk_div (by omega) a1 (by omega), e2, nI_r10 (by omega), nI_leI (by omega) (by omega)]
    exact ⟨fun _ => hQ, fun c => absurd hq c⟩
  | succ i ih =>
    intro j hb hQ
    have o1 := ones_lt j
    have a1 := p10_pos j
    have e0 : i + 1 + j = i + (j + 1) := by omega
    rw [e0] at hb hQ
    have hn := ih (j + 1) hb hQ
    have h9 := ones_9 i
    -- names
    have eW : q * 10 ^ (i + 1) + m * ones (i + 1) + 1 = 10 * (q * 10 ^ i + m * ones i) + m + 1 := by
      rw [ones_t, Nat.pow_succ, Nat.mul_add m, ← Nat.mul_assoc q, Nat.mul_one, Nat.mul_left_comm m 10]
      omega
    rw [eW]
    have hW : q * 10 ^ i + m * ones i + 2 ≤ (q + 2) * 10 ^ i := by
      have h6 : m * ones i ≤ 6 * ones i := Nat.mul_le_mul_right _ hm
      rw [Nat.add_mul]
      have := p10_pos i
      omega
    have hb2 : (q * 10 ^ i + m * ones i + 2) * 10 ^ (j + 1) < 2 ^ 27 := by
      refine Nat.lt_of_le_of_lt (Nat.mul_le_mul_right _ hW) ?_
      rw [Nat.mul_assoc, ← Nat.pow_add]; exact hb
    generalize q * 10 ^ i + m * ones i = W at *
    have ea : 10 ^ (j + 1) = 10 * 10 ^ j := by rw [Nat.pow_succ, Nat.mul_comm]
    have eo : ones (j + 1) = 10 ^ j + ones j := rfl
    rw [ea] at hb2 hn
    rw [eo] at hn
    generalize 10 ^ j = a at *
    generalize ones j = o at *
    have hWa : (W + 2) * (10 * a) = 10 * (W * a) + 20 * a := by rw [Nat.add_mul, Nat.mul_left_comm]; omega
    have hWb : (W + 1) * (10 * a) + (a + o) = 10 * (W * a) + 11 * a + o := by rw [Nat.add_mul, Nat.mul_left_comm]; omega
    have hva : (10 * W + m + 1) * a + o = 10 * (W * a) + m * a + a + o := by rw [Nat.add_mul, Nat.add_mul, Nat.mul_assoc]; omega
    have hdiv : ((10 * W + m + 1) * a + o) / a = 10 * W + m + 1 := divA o1
    have hma : m * a ≤ 6 * a := Nat.mul_le_mul_right _ hm
    have hWle : W ≤ W * a := Nat.le_mul_of_pos_right _ a1
    rw [hWa] at hb2
    rw [hWb] at hn
    refine w_X12_nextFigures_6 _ _ _ σ τ ⟨nI_ne0 a1 (by omega), ?_⟩
    rw [pk_div (by rw [hva]; omega) a1 (by omega), hdiv, nI_r10 (by omega), show (10 * W + m + 1) % 10 = m + 1 by omega, nI_leI (by omega) (by omega)]
    refine ⟨fun c => by omega, fun _ => ⟨nI_ne0 a1 (by omega), fun v ev => ?_⟩⟩
    rw [show (10 : Int32) = nI 10 from rfl, pk_sub (by omega), pk_mul, nI_add, nI_add, hva] at ev
    have e3 : 10 * (W * a) + m * a + a + o + (a * (10 - (m + 1)) + a) = 10 * (W * a) + 11 * a + o := by
      rcases (show m = 1 ∨ m = 2 ∨ m = 3 ∨ m = 4 ∨ m = 5 ∨ m = 6 by omega) with rfl | rfl | rfl | rfl | rfl | rfl <;> omega
    rw [e3] at ev
    rw [ev, show (10 : Int32) = nI 10 from rfl, pk_mul, Nat.mul_comm a 10]
    exact hn
theorem M_next {m q k : Nat} (hm1 : 1 ≤ m) (hm : m ≤ 6) (hq : (q + 1) % 10 ≤ m) (hb : (q + 2) * 10 ^ k < 2 ^ 27) (h : Q (nI ((q + 1) * 10 ^ k + ones k)) σ τ) : SI l D b M_X12_nextFigures 0 γ [.int (nI (q * 10 ^ k + m * ones k)), .int (nI m)] σ τ Q := by
  refine s_X12_nextFigures _ _ σ τ ?_
  rw [nI_1]
  have := M_nextLoop (l := l) (D := D) (b := b) (γ := γ) (σ := σ) (τ := τ) (Q := Q) hm1 hm hq k 0 hb h
  rw [Nat.pow_zero, Nat.mul_one, show ones 0 = 0 from rfl, Nat.add_zero] at this
  exact this
/-- the sum of an order, or that it is none -/
def sumI (o : Os) : Int32 := match o with
  | none => -1
  | some x => nI x.2.2
theorem stp_none (p : Pl) (A : Sc) : ∀ ds : List Nat, ds.foldl (stp p A) none = none
  | [] => rfl
  | t :: ds => by rw [List.foldl_cons]; exact stp_none p A ds
theorem off_le (S t : Nat) : offT S t ≤ S := Nat.and_le_left
theorem fig_mid (as bs : List Nat) (t : Nat) (h : ∀ q, q ∈ bs → q < 9) : figOf (as ++ t :: bs) / 10 ^ bs.length = 10 * figOf as + t + 1 := by
  suffices H : ∀ (bs : List Nat) (n : Nat), (∀ q, q ∈ bs → q < 9) → bs.foldl (fun a t => 10 * a + t + 1) n / 10 ^ bs.length = n by
    unfold figOf
    rw [List.foldl_append, List.foldl_cons]
    exact H bs _ h
  intro bs
  induction bs with
  | nil => intro n _; rw [List.foldl_nil, List.length_nil, Nat.pow_zero, Nat.div_one]
  | cons q bs ih =>
    intro n hq
    rw [List.foldl_cons, List.length_cons, Nat.pow_succ, ← Nat.div_div_eq_div_mul, ih _ (fun r hr => hq r (List.mem_cons_of_mem _ hr))]
    have := hq q List.mem_cons_self
    omega
theorem M_sumLoop (R : RM σ p A) {ds : List Nat} (hds : ∀ t, t ∈ ds → t < pm p) (hlen : ds.length ≤ 6) : ∀ (bs as : List Nat) (S at' sm : Nat), ds = as ++ bs → S < 2 ^ pm p → at' ≤ 400 * as.length → Q (sumI (bs.foldl (stp p A) (some (S, at', sm)))) σ τ → AI l D b M_X12_sumOf 3 G0 Q 42 [(0, .ref (b + 125)), (1, .int (nI (figOf ds))), (3, .int (nI S)), (4, .int (nI at')), (5, .int (nI sm)), (6, .int (nI (10 ^ bs.length / 10))), (7, .int (nI bs.length))] [] G0 σ τ := by
  have hm6 := R.1.2.2.1
  have h9 : ∀ t, t ∈ ds → t < 9 := fun t ht => by have := hds t ht; omega
  have hF := fig_lt h9
  have hF6 : 10 ^ ds.length ≤ 10 ^ 6 := p10_le hlen
  intro bs
  induction bs with
  | nil =>
    intro as S at' sm _ _ _ hQ
    exact w_X12_sumOf_42 _ _ _ _ _ _ σ τ ⟨fun _ => hQ, fun c => absurd (by decide) c⟩
  | cons t bs ih =>
    intro as S at' sm he hS hat hQ
    have ht : t < pm p := hds t (by rw [he]; exact List.mem_append_right _ List.mem_cons_self)
    have hl : as.length + (bs.length + 1) = ds.length := by rw [he, List.length_append, List.length_cons]
    have hpm : 2 ^ pm p ≤ 2 ^ 6 := Nat.pow_le_pow_right (by decide) hm6
    have hpb : 10 ^ bs.length ≤ 10 ^ 5 := p10_le (by omega)
    have hp0 := p10_pos bs.length
    have e1 : 10 ^ (t :: bs).length / 10 = 10 ^ bs.length := by rw [List.length_cons, Nat.pow_succ, Nat.mul_div_cancel _ (by decide)]
    rw [e1]
    have e2 : figOf ds / 10 ^ bs.length = 10 * figOf as + t + 1 := by
      rw [he]
      exact fig_mid as bs t (fun q hq => h9 q (by rw [he]; exact List.mem_append_right _ (List.mem_cons_of_mem _ hq)))
    have e3 : figOf ds / 10 ^ bs.length ≤ figOf ds := Nat.div_le_self _ _
    refine w_X12_sumOf_42 _ _ _ _ _ _ σ τ ⟨fun c => ?_, fun _ => ⟨nI_ne0 hp0 (by omega), fun v ev => ?_⟩⟩
    · rw [show (0 : Int32) = nI 0 from rfl, List.length_cons, nI_leI (by omega) (by omega)] at c; omega
    · rw [pk_div (by omega) hp0 (by omega), nI_r10 (by omega), e2, show (10 * figOf as + t + 1) % 10 = t + 1 by omega, show (1 : Int32) = nI 1 from rfl, pk_sub (by omega), Nat.add_sub_cancel] at ev
      subst ev
      refine ⟨fun c => absurd c (nI_pos (by omega)), fun _ => M_has (by omega) (by omega) ⟨fun c v6 e6 => ?_, fun c => ?_⟩⟩
      · have c := (bI_n0 _).mp c
        rw [nI_sh (by omega), nI_neg1, fa_and] at e6
        subst e6
        refine M_softIn R ht (by omega) ?_
        rw [List.foldl_cons] at hQ
        have es : stp p A (some (S, at', sm)) t = (match tgN p A t (hrS A + at') with | none => none | some K => some (offT S t, at' + K, sm + (at' + K))) := by
          show (if S.testBit t = true then _ else none) = _
          rw [if_pos c]
        rw [es] at hQ
        cases eK : tgN p A t (hrS A + at') with
        | none =>
          rw [eK] at hQ
          have hQ : Q (sumI (bs.foldl (stp p A) none)) σ τ := hQ
          rw [stp_none] at hQ
          exact ⟨fun q => absurd rfl q, fun _ => hQ⟩
        | some K =>
          rw [eK] at hQ
          have hK := tgN_le (RM_hd R ht).2 eK
          refine ⟨fun _ => ?_, fun q => absurd q (nI_m1 (show K < 2 ^ 31 by omega))⟩
          have hx := ih (as ++ [t]) (offT S t) (at' + K) (sm + (at' + K)) (by rw [he, List.append_assoc]; rfl) (Nat.lt_of_le_of_lt (off_le S t) hS) (by rw [List.length_append, List.length_singleton]; omega) hQ
          show AI l D b M_X12_sumOf 3 G0 Q 42 [(0, .ref (b + 125)), (1, .int (nI (figOf ds))), (3, .int (nI (offT S t))), (4, .int (nI at' + nI K)), (5, .int (nI sm + (nI at' + nI K))), (6, .int (nI (10 ^ bs.length) / 10)), (7, .int (nI (t :: bs).length + (-1)))] [] G0 σ τ
          rw [nI_add, nI_add, nI_d10 (by omega), List.length_cons, show nI (bs.length + 1) + (-1) = nI bs.length by rw [← nI_1, Int32.add_assoc]; simp]
          exact hx
      · have c := (bI_0 _).mp c
        rw [List.foldl_cons] at hQ
        have es : stp p A (some (S, at', sm)) t = none := by
          show (if S.testBit t = true then _ else none) = _
          rw [if_neg (by rw [c]; decide)]
        rw [es, stp_none] at hQ
        exact hQ
theorem M_sumOf (R : RM σ p A) {S : Nat} {ds : List Nat} (hS : S < 2 ^ pm p) (hds : ∀ t, t ∈ ds → t < pm p) (hlen : ds.length = pcn S) (h1 : 1 ≤ pcn S) (h6 : pcn S ≤ 6) (h : Q (sumI (stOf p A S ds)) σ τ) : SI l D b M_X12_sumOf 3 G0 [.ref (b + 125), .int (nI (figOf ds)), .int (nI S)] σ τ Q := by
  have hm6 := R.1.2.2.1
  have hpm : 2 ^ pm p ≤ 2 ^ 6 := Nat.pow_le_pow_right (by decide) hm6
  refine s_X12_sumOf _ _ σ τ ?_
  refine lp_up (P := fun j => AI l D b M_X12_sumOf 3 G0 Q 14 [(0, .ref (b + 125)), (1, .int (nI (figOf ds))), (2, .int (nI S)), (3, .int (nI S)), (4, .int 0), (5, .int 0), (6, .int (nI (10 ^ j))), (7, .int (nI (j + 1)))] [] G0 σ τ) (n := pcn S - 1) ?_ ?_ 0 (Nat.zero_le _)
  · intro j hj ih
    refine w_X12_sumOf_14 _ _ _ _ _ _ _ σ τ (S_bits (by omega) σ τ ?_)
    rw [nI_leI (by omega) (by omega), nI_1, show (10 : Int32) = nI 10 from rfl, pk_mul, ← Nat.pow_succ]
    exact ⟨fun c => by omega, fun _ => ih⟩
  · refine w_X12_sumOf_14 _ _ _ _ _ _ _ σ τ (S_bits (by omega) σ τ ?_)
    rw [nI_leI (by omega) (by omega)]
    refine ⟨fun _ => S_bits (by omega) σ τ ?_, fun c => by omega⟩
    have := M_sumLoop (l := l) (D := D) (b := b) (Q := Q) R hds (by omega) ds [] S 0 0 rfl hS (Nat.zero_le _) h
    rw [hlen, show 10 ^ pcn S / 10 = 10 ^ (pcn S - 1) by
      obtain ⟨n, hn⟩ : ∃ n, pcn S = n + 1 := ⟨pcn S - 1, by omega⟩
      rw [hn, Nat.pow_succ, Nat.mul_div_cancel _ (by decide)]; rfl] at this
    exact this
def bM (x6 x7 : Int32) (c : Bo) : Prop := match c with
  | none => x6 = -1 ∧ x7 = 1000000000
  | some x => x6 = nI x.2 ∧ x7 = nI x.1 ∧ x.1 < 1000000000 ∧ x.2 < 2 ^ 31
theorem st_bd {S0 : Nat} (hd : ∀ t, t < pm p → hdS A t ≤ 200) : ∀ (n : Nat) (ds : List Nat), ds.length = n → (∀ t, t ∈ ds → t < pm p) → ∀ x, stOf p A S0 ds = some x → x.2.1 ≤ 400 * n ∧ x.2.2 ≤ 400 * n * n := by
  intro n
  induction n with
  | zero =>
    intro ds hl _ x hx
    have : ds = [] := List.length_eq_zero_iff.mp hl
    subst this
    have : (S0, 0, 0) = x := by injection hx
    subst this
    exact ⟨Nat.zero_le _, Nat.zero_le _⟩
  | succ n ih =>
    intro ds hl hds x hx
    have hne : ds ≠ [] := fun e => by rw [e] at hl; cases hl
    have e := (List.dropLast_concat_getLast hne).symm
    have l1 : ds.dropLast.length = n := by rw [List.length_dropLast, hl]; rfl
    have ht := hds (ds.getLast hne) (List.getLast_mem hne)
    rw [e, stOf_s] at hx
    generalize ds.getLast hne = t at *
    cases e1 : stOf p A S0 ds.dropLast with
    | none => rw [e1] at hx; cases hx
    | some y =>
      obtain ⟨i1, i2⟩ := ih ds.dropLast l1 (fun t ht => hds t ((List.dropLast_subset _ ht))) y e1
      rw [e1] at hx
      have hx : (if y.1.testBit t = true then (match tgN p A t (hrS A + y.2.1) with | none => none | some K => some (offT y.1 t, y.2.1 + K, y.2.2 + (y.2.1 + K))) else none) = some x := hx
      split at hx
      · cases eK : tgN p A t (hrS A + y.2.1) with
        | none => rw [eK] at hx; cases hx
        | some K =>
          rw [eK] at hx
          have hK := tgN_le (hd t ht) eK
          have : (offT y.1 t, y.2.1 + K, y.2.2 + (y.2.1 + K)) = x := by injection hx
          subst this
          refine ⟨by show y.2.1 + K ≤ 400 * (n + 1); omega, ?_⟩
          show y.2.2 + (y.2.1 + K) ≤ 400 * (n + 1) * (n + 1)
          have : 400 * (n + 1) * (n + 1) = 400 * n * n + 800 * n + 400 := by
            rw [Nat.mul_add 400, Nat.mul_add _ n 1, Nat.add_mul]; omega
          omega
      · cases hx
theorem M_block (R : RM σ p A) {S0 : Nat} {x2 : Int32} (hS : S0 < 2 ^ pm p) (h1 : 1 ≤ pcn S0) (h6 : pcn S0 ≤ 6) (hm1 : 1 ≤ pm p) : ∀ (k : Nat) (ds : List Nat) (c : Bo) (x6 x7 : Int32), ds.length + k = pcn S0 → (∀ t, t ∈ ds → t < pm p) → bM x6 x7 c →
    (∀ x6' x7', bM x6' x7' (enm p A S0 k ds c) → SI l D b M_X12_nextFigures 0 G0 [.int (nI (figOf ds * 10 ^ k + pm p * ones k)), .int (nI (pm p))] σ τ (fun r σ1 τ1 => AI l D b M_X12_order 4 G0 Q 108 [(0, .ref (b + 125)), (1, .int (nI S0)), (2, .int x2), (4, .int r), (5, .int (nI (10 ^ (pcn S0 - 1)))), (6, .int x6'), (7, .int x7')] [] G0 σ1 τ1)) →
    AI l D b M_X12_order 4 G0 Q 108 [(0, .ref (b + 125)), (1, .int (nI S0)), (2, .int x2), (4, .int (nI (figOf ds * 10 ^ k + ones k))), (5, .int (nI (10 ^ (pcn S0 - 1)))), (6, .int x6), (7, .int x7)] [] G0 σ τ := by
  have hm6 := R.1.2.2.1
  have hd : ∀ t, t < pm p → hdS A t ≤ 200 := fun t ht => (RM_hd R ht).2
  have e10 : 10 * 10 ^ (pcn S0 - 1) = 10 ^ pcn S0 := by
    obtain ⟨n, hn⟩ : ∃ n, pcn S0 = n + 1 := ⟨pcn S0 - 1, by omega⟩
    rw [hn, Nat.pow_succ, Nat.mul_comm]; rfl
  have hp6 : 10 ^ pcn S0 ≤ 10 ^ 6 := p10_le h6
  intro k
  induction k with
  | zero =>
    intro ds c x6 x7 hl hds hb H
    rw [Nat.pow_zero, Nat.mul_one, show ones 0 = 0 from rfl, Nat.mul_zero, Nat.add_zero] at *
    have hF := fig_lt (ds := ds) (fun t ht => by have := hds t ht; omega)
    rw [hl] at hF
    have f173 : ∀ x6' x7', bM x6' x7' (enm p A S0 0 ds c) → AI l D b M_X12_order 4 G0 Q 173 [(0, .ref (b + 125)), (1, .int (nI S0)), (2, .int x2), (4, .int (nI (figOf ds))), (5, .int (nI (10 ^ (pcn S0 - 1)))), (6, .int x6')] [.int x7'] G0 σ τ := by
      intro x6' x7' hb'
      refine w_X12_order_173 _ _ _ _ _ _ σ τ ?_
      rw [(RM_m R).1]
      exact H x6' x7' hb'
    refine w_X12_order_108 _ _ _ _ _ _ σ τ ⟨fun q => ?_, fun _ => M_sumOf R hS hds hl h1 h6 ?_⟩
    · rw [nI_10, e10, nI_leI (by omega) (by omega)] at q; omega
    · rw [enm] at f173
      have skip : (∀ x6' x7', bM x6' x7' c → AI l D b M_X12_order 4 G0 Q 173 [(0, .ref (b + 125)), (1, .int (nI S0)), (2, .int x2), (4, .int (nI (figOf ds))), (5, .int (nI (10 ^ (pcn S0 - 1)))), (6, .int x6')] [.int x7'] G0 σ τ) → ∀ r, AI l D b M_X12_order 4 G0 Q 144 [(0, .ref (b + 125)), (1, .int (nI S0)), (2, .int x2), (4, .int (nI (figOf ds))), (5, .int (nI (10 ^ (pcn S0 - 1)))), (6, .int x6), (7, .int x7), (8, .int r)] [] G0 σ τ := by
        intro hf r
        exact w_X12_order_144 _ _ _ _ _ _ _ σ τ (w_X12_order_145 _ _ _ _ _ _ _ _ σ τ ⟨fun _ => w_X12_order_159 _ _ _ _ _ _ _ _ σ τ ⟨fun _ => hf x6 x7 hb, fun q => absurd rfl q⟩, fun q => absurd rfl q⟩)
      cases es : stOf p A S0 ds with
      | none =>
        rw [es] at f173
        exact ⟨fun _ => skip f173 _, fun q => absurd rfl q⟩
      | some x =>
        rw [es] at f173
        have f173 : ∀ x6' x7', bM x6' x7' (updB c x.2.2 (figOf ds)) → _ := f173
        have hbd := (st_bd (S0 := S0) hd _ ds rfl hds x es).2
        have hbd2 : x.2.2 ≤ 14400 := by
          have hlen : ds.length ≤ 6 := by omega
          have : 400 * ds.length * ds.length ≤ 2400 * 6 := Nat.mul_le_mul (by omega) hlen
          omega
        rw [show sumI (some x) = nI x.2.2 from rfl]
        refine ⟨fun q => absurd q (nI_m1 (by omega)), fun _ => ?_⟩
        have win : bM (nI (figOf ds)) (nI x.2.2) (updB c x.2.2 (figOf ds)) → AI l D b M_X12_order 4 G0 Q 145 [(0, .ref (b + 125)), (1, .int (nI S0)), (2, .int x2), (4, .int (nI (figOf ds))), (5, .int (nI (10 ^ (pcn S0 - 1)))), (6, .int x6), (7, .int x7), (8, .int (nI x.2.2))] [.int 1] G0 σ τ := by
          intro hw
          exact w_X12_order_145 _ _ _ _ _ _ _ _ σ τ ⟨fun q => absurd q one0, fun _ => w_X12_order_159 _ _ _ _ _ _ _ _ σ τ ⟨fun q => absurd q one0, fun _ => f173 _ _ hw⟩⟩
        cases c with
        | none =>
          obtain ⟨hb1, hb2⟩ := hb
          rw [hb2, show (1000000000 : Int32) = nI 1000000000 from rfl, nI_leI (by omega) (by omega)]
          rw [hb2] at win
          exact ⟨fun q => by omega, fun _ => win ⟨rfl, rfl, by omega, by omega⟩⟩
        | some y =>
          obtain ⟨hb1, hb2, hb3, hb4⟩ := id hb
          rw [hb2, nI_leI (by omega) (by omega)]
          rw [hb2] at win skip
          refine ⟨fun q => skip ?_ _, fun q => win ?_⟩
          · have e : updB (some y) x.2.2 (figOf ds) = some y := by
              show (if x.2.2 < y.1 then _ else _) = _
              rw [if_neg (by omega)]
            rw [e] at f173
            exact f173
          · have e : updB (some y) x.2.2 (figOf ds) = some (x.2.2, figOf ds) := by
              show (if x.2.2 < y.1 then _ else _) = _
              rw [if_pos (by omega)]
            rw [e]
            exact ⟨rfl, rfl, by omega, by omega⟩
  | succ k ih =>
    intro ds c x6 x7 hl hds hb H
    have hF := fig_lt (ds := ds) (fun t ht => by have := hds t ht; omega)
    have hpk := p10_pos k
    have hmem : ∀ j, j < pm p → ∀ t, t ∈ ds ++ [j] → t < pm p := fun j hj t ht => by
      rcases List.mem_append.mp ht with q | q
      · exact hds t q
      · rw [List.mem_singleton.mp q]; exact hj
    have hlen : ∀ j, (ds ++ [j]).length + k = pcn S0 := fun j => by rw [List.length_append, List.length_singleton]; omega
    have key := lp_up (P := fun j => ∀ x6 x7, bM x6 x7 (fld (fun t c => enm p A S0 k (ds ++ [t]) c) j c) → AI l D b M_X12_order 4 G0 Q 108 [(0, .ref (b + 125)), (1, .int (nI S0)), (2, .int x2), (4, .int (nI (figOf (ds ++ [j]) * 10 ^ k + ones k))), (5, .int (nI (10 ^ (pcn S0 - 1)))), (6, .int x6), (7, .int x7)] [] G0 σ τ) (n := pm p - 1) ?_ ?_ 0 (Nat.zero_le _)
    · have e : figOf (ds ++ [0]) * 10 ^ k + ones k = figOf ds * 10 ^ (k + 1) + ones (k + 1) := by
        rw [figOf_s, Nat.add_zero, Nat.add_mul, Nat.one_mul, ones, Nat.pow_succ, Nat.mul_comm (10 ^ k) 10, ← Nat.mul_assoc, Nat.mul_comm 10 (figOf ds)]; omega
      rw [e] at key
      exact key x6 x7 hb
    · intro j hj ihj x6 x7 hb'
      refine ih (ds ++ [j]) _ x6 x7 (hlen j) (hmem j (by omega)) hb' (fun x6' x7' hb2 => ?_)
      have e : figOf (ds ++ [j + 1]) = figOf (ds ++ [j]) + 1 := by rw [figOf_s, figOf_s]; omega
      have hF2 := fig_lt (ds := ds ++ [j]) (fun t ht => by have := hmem j (by omega) t ht; omega)
      have hbound : (figOf (ds ++ [j]) + 2) * 10 ^ k < 2 ^ 27 := by
        have h2 : figOf (ds ++ [j]) + 2 ≤ 2 * 10 ^ (ds ++ [j]).length := by have := p10_pos (ds ++ [j]).length; omega
        have h3 : (figOf (ds ++ [j]) + 2) * 10 ^ k ≤ 2 * 10 ^ (ds ++ [j]).length * 10 ^ k := Nat.mul_le_mul_right _ h2
        rw [Nat.mul_assoc, ← Nat.pow_add, hlen j] at h3
        omega
      refine M_next hm1 hm6 (by rw [figOf_s]; omega) hbound ?_
      rw [← e]
      exact ihj x6' x7' hb2
    · intro x6 x7 hb'
      refine ih (ds ++ [pm p - 1]) _ x6 x7 (hlen _) (hmem _ (by omega)) hb' (fun x6' x7' hb2 => ?_)
      have e : figOf (ds ++ [pm p - 1]) * 10 ^ k + pm p * ones k = figOf ds * 10 ^ (k + 1) + pm p * ones (k + 1) := by
        rw [figOf_s, show 10 * figOf ds + (pm p - 1) + 1 = 10 * figOf ds + pm p by omega, Nat.add_mul, ones, Nat.mul_add (pm p), Nat.pow_succ, Nat.mul_comm (10 ^ k) 10, ← Nat.mul_assoc, Nat.mul_comm 10 (figOf ds)]; omega
      rw [e]
      refine H x6' x7' ?_
      rw [enm]
      have e2 : fld (fun t c => enm p A S0 k (ds ++ [t]) c) (pm p) c = enm p A S0 k (ds ++ [pm p - 1]) (fld (fun t c => enm p A S0 k (ds ++ [t]) c) (pm p - 1) c) := by
        obtain ⟨n, hn⟩ : ∃ n, pm p = n + 1 := ⟨pm p - 1, by omega⟩
        rw [hn]; rfl
      rw [e2]
      exact hb2
/-- all orders tried -/
theorem M_orders (R : RM σ p A) {S0 : Nat} {x2 : Int32} (hS : S0 < 2 ^ pm p) (h0 : S0 ≠ 0) (h1 : 1 ≤ pcn S0) (h6 : pcn S0 ≤ 6) (h : ∀ x6 x7, bM x6 x7 (enm p A S0 (pcn S0) [] none) → (¬ x6 = -1 → ((¬ x2 = 0 → Q x6 σ τ) ∧ (x2 = 0 → Q x7 σ τ))) ∧ (x6 = -1 → Q (-1) σ τ)) : AI l D b M_X12_order 4 G0 Q 72 [(0, .ref (b + 125)), (1, .int (nI S0)), (2, .int x2), (3, .int (nI (pcn S0))), (4, .int 1), (5, .int 1), (6, .int 1)] [] G0 σ τ := by
  have hm6 := R.1.2.2.1
  have hm1 : 1 ≤ pm p := by
    rcases Nat.eq_zero_or_pos (pm p) with e | e
    · rw [e] at hS
      have : S0 < 1 := hS
      omega
    · exact e
  have e10 : 10 * 10 ^ (pcn S0 - 1) = 10 ^ pcn S0 := by
    obtain ⟨n, hn⟩ : ∃ n, pcn S0 = n + 1 := ⟨pcn S0 - 1, by omega⟩
    rw [hn, Nat.pow_succ, Nat.mul_comm]; rfl
  have hp6 : 10 ^ pcn S0 ≤ 10 ^ 6 := p10_le h6
  refine lp_up (P := fun j => AI l D b M_X12_order 4 G0 Q 72 [(0, .ref (b + 125)), (1, .int (nI S0)), (2, .int x2), (3, .int (nI (pcn S0))), (4, .int (nI (ones (j + 1)))), (5, .int (nI (10 ^ j))), (6, .int (nI (j + 1)))] [] G0 σ τ) (n := pcn S0 - 1) ?_ ?_ 0 (Nat.zero_le _)
  · intro j hj ih
    refine w_X12_order_72 _ _ _ _ _ _ σ τ ?_
    rw [nI_leI (by omega) (by omega), nI_10, nI_1, nI_1, ← ones_t, show (10 : Int32) = nI 10 from rfl, pk_mul, ← Nat.pow_succ]
    exact ⟨fun c => by omega, fun _ => ih⟩
  · refine w_X12_order_72 _ _ _ _ _ _ σ τ ?_
    rw [nI_leI (by omega) (by omega)]
    refine ⟨fun _ => ?_, fun c => by omega⟩
    have := M_block (l := l) (D := D) (b := b) (τ := τ) (Q := Q) (x2 := x2) R hS h1 h6 hm1 (pcn S0) [] none (-1) 1000000000 (by rw [List.length_nil]; omega) (fun t ht => by cases ht) ⟨rfl, rfl⟩ (fun x6' x7' hb => ?_)
    · rw [show figOf [] = 0 from rfl, Nat.zero_mul, Nat.zero_add] at this
      rw [show pcn S0 - 1 + 1 = pcn S0 by omega]
      exact this
    · refine M_next (q := figOf []) hm1 hm6 (by show 1 % 10 ≤ pm p; omega) (by show 2 * 10 ^ pcn S0 < 2 ^ 27; omega) ?_
      rw [show figOf [] = 0 from rfl, Nat.zero_add, Nat.one_mul]
      have ho := ones_lt (pcn S0)
      refine w_X12_order_108 _ _ _ _ _ _ σ τ ⟨fun _ => h x6' x7' hb, fun q => absurd ?_ q⟩
      rw [nI_10, e10]
      exact nI_le (by omega) (by omega)
end ORDERS
