/-! SOFTENING. -/
def sHr (A : Sc) (v : Nat) : Sc := (v, shS A, stS A, hdS A, spS A, ldS A)
def sSh (A : Sc) (v : Nat) : Sc := (hrS A, v, stS A, hdS A, spS A, ldS A)
def sSt (A : Sc) (f : Nat → Nat) : Sc := (hrS A, shS A, f, hdS A, spS A, ldS A)
def sHd (A : Sc) (f : Nat → Nat) : Sc := (hrS A, shS A, stS A, f, spS A, ldS A)
def sSp (A : Sc) (f : Nat → Nat) : Sc := (hrS A, shS A, stS A, hdS A, f, ldS A)
def sLd (A : Sc) (f : Nat → Nat) : Sc := (hrS A, shS A, stS A, hdS A, spS A, f)
def sby (p : Pl) (A : Sc) (t : Nat) : Nat := if pk p t = 1 then pH p / 2 else if pk p t = 2 then pH p - pcn (spS A t) / 5 else pH p
def cntH (kind h n : Nat) : Nat := if kind = 3 then (n + h % 2) / 2 else n
/-- in the hour with h ahead -/
def satH (p : Pl) (A : Sc) (t h : Nat) : Nat := if pk p t = 3 then (if h % 2 = 1 then pH p else 0) else sby p A t
def softA (p : Pl) (A : Sc) (t h n : Nat) : Nat := hdS A t - cntH (pk p t) h n * sby p A t
theorem softA_0 (p : Pl) (A : Sc) (t h : Nat) : softA p A t h 0 = hdS A t := by
  have : cntH (pk p t) h 0 = 0 := by unfold cntH; split <;> omega
  unfold softA
  rw [this, Nat.zero_mul, Nat.sub_zero]
theorem softA_s (p : Pl) (A : Sc) (t h n : Nat) : softA p A t h (n + 1) = softA p A t h n - satH p A t (h + n) := by
  unfold softA satH
  by_cases hk : pk p t = 3
  · have e1 : sby p A t = pH p := by unfold sby; rw [if_neg (by omega), if_neg (by omega)]
    rw [if_pos hk, e1]
    have e2 : cntH (pk p t) h (n + 1) = cntH (pk p t) h n + (if (h + n) % 2 = 1 then 1 else 0) := by
      unfold cntH; rw [if_pos hk, if_pos hk]; split <;> omega
    rw [e2]
    split
    · rw [Nat.add_mul, Nat.one_mul]; omega
    · rw [Nat.add_zero, Nat.sub_zero]
  · rw [if_neg hk]
    have e2 : cntH (pk p t) h (n + 1) = cntH (pk p t) h n + 1 := by unfold cntH; rw [if_neg hk, if_neg hk]
    rw [e2, Nat.add_mul, Nat.one_mul]; omega
def boilT (p : Pl) (A : Sc) (k : Nat) : Sc := sHd A (fun t => if t < k ∧ stS A t = 2 then softA p A t (hrS A) 1 else hdS A t)
def boilA (p : Pl) (A : Sc) : Sc := sHr (boilT p A (pm p)) (hrS A + 1)
theorem sby_le (p : Pl) (A : Sc) (t : Nat) : sby p A t ≤ pH p := by
  unfold sby
  split
  · omega
  · split <;> omega
theorem mx0_sub {a c : Nat} (ha : a < 2 ^ 30) (hc : c < 2 ^ 30) : mx 0 (nI a - nI c) = nI (a - c) := by
  unfold mx
  have h1 := pk_sub_toInt ha hc
  have c0 : (0 : Int32).toInt = 0 := rfl
  by_cases h : c < a
  · rw [if_pos (by rw [fa_lt, h1, c0]; omega), pk_sub (by omega)]
  · rw [if_neg (by rw [fa_lt, h1, c0]; omega), show a - c = 0 by omega]; rfl
theorem nI_rem2 {a : Nat} (ha : a < 2 ^ 31) : nI a - nI a / 2 * 2 = nI (a % 2) := pk_rem (d := 2) ha (by decide) (by decide)
theorem nI_div2 {a : Nat} (ha : a < 2 ^ 31) : nI a / 2 = nI (a / 2) := pk_div (d := 2) ha (by decide) (by decide)
theorem nI_div5 {a : Nat} (ha : a < 2 ^ 31) : nI a / 5 = nI (a / 5) := pk_div (d := 5) ha (by decide) (by decide)
/-- hours till it is good -/
def tgN (p : Pl) (A : Sc) (t h : Nat) : Option Nat := if hdS A t = 0 then some 0 else if sby p A t = 0 then none else some (if pk p t = 3 then 2 * ((hdS A t + sby p A t - 1) / sby p A t) - h % 2 else (hdS A t + sby p A t - 1) / sby p A t)
theorem need_le {a s : Nat} (ha : 0 < a) (hs : 0 < s) (h : a ≤ 200) : 1 ≤ (a + s - 1) / s ∧ (a + s - 1) / s ≤ 200 := by
  refine ⟨(Nat.le_div_iff_mul_le hs).mpr (by omega), ?_⟩
  have : (a + s - 1) / s ≤ a := by
    apply Nat.div_le_of_le_mul
    have h1 : 1 * s ≤ a * s := Nat.mul_le_mul_right s ha
    have h2 : a * 1 ≤ a * s := Nat.mul_le_mul_left a hs
    have h3 : (a - 1) * (s - 1) ≥ 0 := Nat.zero_le _
    have h4 : s * a = (a - 1) * (s - 1) + (a + s - 1) := by
      obtain ⟨a', rfl⟩ : ∃ a', a = a' + 1 := ⟨a - 1, by omega⟩
      obtain ⟨s', rfl⟩ : ∃ s', s = s' + 1 := ⟨s - 1, by omega⟩
      simp only [Nat.add_sub_cancel]
      rw [Nat.add_mul, Nat.mul_add, Nat.mul_comm s' a']
      omega
    omega
  omega
theorem tgN_le {p : Pl} {A : Sc} {t h K : Nat} (hd : hdS A t ≤ 200) (hK : tgN p A t h = some K) : K ≤ 400 := by
  unfold tgN at hK
  split at hK
  · simp at hK; omega
  · split at hK
    · cases hK
    · have := need_le (a := hdS A t) (s := sby p A t) (by omega) (by omega) hd
      simp at hK
      split at hK <;> omega
section CSOFT
variable {l : Launch} {D : zDD} {b : Nat} {σ : zSg} {τ : zLm} {p : Pl} {A : Sc} {Q : Int32 → zSg → zLm → Prop} {G : zSg → zLm → Prop}
theorem RC_k {t : Nat} (R : RC σ p A) (ht : t < pm p) : σ 10 t = nI (pk p t) ∧ pk p t ≤ 3 := ⟨R.2.2.1.2.2.2.2.1 t ht, R.1.2.2.2.2.2.2.1 t ht⟩
theorem RC_H (R : RC σ p A) : σ 9 0 = nI (pH p) ∧ pH p ≤ 20 := ⟨R.2.2.1.1, R.1.1⟩
theorem RC_hr (R : RC σ p A) : σ 14 0 = nI (hrS A) ∧ hrS A ≤ 9060 := ⟨R.2.2.2.1, R.2.1.1⟩
theorem S_softenedBy (R : RC σ p A) {t : Nat} (ht : t < pm p) (h : Q (nI (sby p A t)) σ τ) : SI l D b M_X2_softenedBy 1 G0 [.ref (b + 8), .int (nI t)] σ τ Q := by
  obtain ⟨h1, h2⟩ := RC_k R ht
  obtain ⟨h3, h4⟩ := RC_H R
  obtain ⟨h5, h7⟩ := RC_sp R ht
  have h6 := RC_t R ht
  have hl := pcn_le (spS A t)
  refine s_X2_softenedBy _ σ τ ?_
  rw [nI_c (by omega), h1, h3, h5]
  unfold sby at h
  refine ⟨vp_in_t h6 (by decide), fun c => ?_, fun c => ⟨fun c2 => ⟨vp_in_t h6 (by decide), S_bitCount (by omega) σ τ ?_⟩, fun c2 => ?_⟩⟩
  · rw [show (1 : Int32) = nI 1 from rfl, nI_eq (by omega) (by omega)] at c
    rw [if_pos c] at h
    rw [nI_div2 (by omega)]; exact h
  · rw [show (1 : Int32) = nI 1 from rfl, nI_eq (by omega) (by omega)] at c
    rw [show (2 : Int32) = nI 2 from rfl, nI_eq (by omega) (by omega)] at c2
    rw [if_neg c, if_pos c2] at h
    rw [nI_div5 (by omega), mx0_sub (by omega) (by omega)]; exact h
  · rw [show (1 : Int32) = nI 1 from rfl, nI_eq (by omega) (by omega)] at c
    rw [show (2 : Int32) = nI 2 from rfl, nI_eq (by omega) (by omega)] at c2
    rw [if_neg c, if_neg c2] at h
    exact h
theorem S_hardBehind (R : RC σ p A) {t n : Nat} (ht : t < pm p) (hn : n ≤ 500) (h : Q (nI (softA p A t (hrS A) n)) σ τ) : SI l D b M_X2_hardBehind 2 G0 [.ref (b + 8), .int (nI t), .int (nI n)] σ τ Q := by
  obtain ⟨h1, h2⟩ := RC_k R ht
  obtain ⟨h3, h4⟩ := RC_H R
  obtain ⟨h5, h7⟩ := RC_hd R ht
  obtain ⟨h8, h9⟩ := RC_hr R
  have h6 := RC_t R ht
  have hs := sby_le p A t
  have key : ∀ k, k = cntH (pk p t) (hrS A) n → AI l D b M_X2_hardBehind 2 G0 Q 29 [(0, .ref (b + 8)), (1, .int (nI t)), (3, .int (nI k))] [] G0 σ τ := by
    intro k hk
    have hk5 : k ≤ 500 := by rw [hk]; unfold cntH; split <;> omega
    refine w_X2_hardBehind_29 _ _ σ τ ⟨vp_in_t h6 (by decide), S_softenedBy R ht ?_⟩
    rw [nI_c (by omega), h5, pk_mul]
    have : k * sby p A t ≤ 500 * 20 := Nat.mul_le_mul hk5 (by omega)
    rw [mx0_sub (by omega) (by omega)]
    unfold softA at h
    rw [← hk] at h
    exact h
  refine s_X2_hardBehind _ _ σ τ ?_
  rw [nI_c (by omega), h1, h8]
  refine ⟨vp_in_t h6 (by decide), fun c => ?_, fun c v e => ?_⟩
  · rw [show (3 : Int32) = nI 3 from rfl, nI_eq (by omega) (by omega)] at c
    exact key n (by unfold cntH; rw [if_neg c])
  · rw [show (3 : Int32) = nI 3 from rfl, nI_eq (by omega) (by omega)] at c
    rw [nI_rem2 (by omega), nI_add, nI_div2 (by omega)] at e
    rw [e]
    exact key _ (by unfold cntH; rw [if_pos c])
theorem S_hoursTillGood (R : RC σ p A) {t hh : Nat} (ht : t < pm p) (hh2 : hh < 2 ^ 30) (h : Q (oI (tgN p A t hh)) σ τ) : SI l D b M_X2_hoursTillGood 2 G0 [.ref (b + 8), .int (nI t), .int (nI hh)] σ τ Q := by
  obtain ⟨h1, h2⟩ := RC_k R ht
  obtain ⟨h3, h4⟩ := RC_H R
  obtain ⟨h5, h7⟩ := RC_hd R ht
  have h6 := RC_t R ht
  have hs := sby_le p A t
  have fin : ∀ K, K ≤ 400 → tgN p A t hh = some K → AI l D b M_X2_hoursTillGood 2 G0 Q 64 [(5, .int (nI K))] [] G0 σ τ := by
    intro K hK e
    rw [e] at h
    refine w_X2_hoursTillGood_64 _ σ τ ⟨fun _ => h, fun c => absurd ?_ c⟩
    rw [show (500 : Int32) = nI 500 from rfl, nI_leI (by omega) (by omega)]; omega
  refine s_X2_hoursTillGood _ _ σ τ ?_
  rw [nI_c (by omega), h5]
  refine ⟨vp_in_t h6 (by decide), S_softenedBy R ht ?_⟩
  rw [h1]
  refine ⟨fun c => ⟨fun c2 => ⟨?_, fun v4 e4 => ⟨vp_in_t h6 (by decide), fun c3 => ?_, fun c3 v6 e6 => ?_⟩⟩, fun c2 => ?_⟩, fun c => ?_⟩
  · rw [show (0 : Int32) = nI 0 from rfl, nI_ltI (by omega) (by omega)] at c2
    exact nI_ne0 c2 (by omega)
  · rw [show (0 : Int32) = nI 0 from rfl, nI_eq (by omega) (by omega)] at c
    rw [show (0 : Int32) = nI 0 from rfl, nI_ltI (by omega) (by omega)] at c2
    rw [show (3 : Int32) = nI 3 from rfl, nI_eq (by omega) (by omega)] at c3
    rw [nI_add, show (1 : Int32) = nI 1 from rfl, pk_sub (by omega), pk_div (by omega) c2 (by omega)] at e4
    rw [e4]
    have hn := need_le (a := hdS A t) (s := sby p A t) (by omega) c2 h7
    refine fin _ (by omega) ?_
    unfold tgN
    rw [if_neg c, if_neg (by omega), if_neg c3]
  · rw [show (0 : Int32) = nI 0 from rfl, nI_eq (by omega) (by omega)] at c
    rw [show (0 : Int32) = nI 0 from rfl, nI_ltI (by omega) (by omega)] at c2
    rw [show (3 : Int32) = nI 3 from rfl, nI_eq (by omega) (by omega)] at c3
    rw [nI_add, show (1 : Int32) = nI 1 from rfl, pk_sub (by omega), pk_div (by omega) c2 (by omega)] at e4
    have hn := need_le (a := hdS A t) (s := sby p A t) (by omega) c2 h7
    rw [e4, nI_rem2 (by omega), show (2 : Int32) = nI 2 from rfl, pk_mul, pk_sub (by omega)] at e6
    rw [e6]
    refine fin _ (by omega) ?_
    unfold tgN
    rw [if_neg c, if_neg (by omega), if_pos c3]
  · rw [show (0 : Int32) = nI 0 from rfl, nI_eq (by omega) (by omega)] at c
    rw [show (0 : Int32) = nI 0 from rfl, nI_ltI (by omega) (by omega)] at c2
    unfold tgN at h
    rw [if_neg c, if_pos (by omega)] at h
    exact h
  · rw [show (0 : Int32) = nI 0 from rfl, nI_eq (by omega) (by omega)] at c
    unfold tgN at h
    rw [if_pos c] at h
    exact h
theorem RC_putHd (R : RC σ p A) {t v : Nat} (hv : v ≤ 200) : RC (st2 σ 16 t (nI v)) p (sHd A (va_up (hdS A) t v)) := by
  obtain ⟨h1, ⟨a1, a2, a3, a4, a5, a6⟩, ⟨c1, c2, c3, c4, c5, c6⟩, ⟨d1, d2, d3, d4, d5, d6⟩⟩ := R
  refine ⟨h1, ⟨a1, a2, fun q hq => ⟨(a3 q hq).1, ?_, (a3 q hq).2.2⟩, a4, a5, a6⟩, ⟨c1, c2, c3, c4, c5, c6⟩, ⟨d1, d2, d3, fun q hq => ?_, d5, d6⟩⟩
  · show va_up (hdS A) t v q ≤ 200
    unfold va_up; split
    · exact hv
    · exact (a3 q hq).2.1
  · show st2 σ 16 t (nI v) 16 q = nI (va_up (hdS A) t v q)
    rw [st2_row]
    unfold va_up; split
    · rfl
    · exact d4 q hq
theorem RC_putHr (R : RC σ p A) {v : Nat} (hv : v ≤ 9060) : RC (st2 σ 14 0 (nI v)) p (sHr A v) := by
  obtain ⟨h1, ⟨a1, a2, a3, a4, a5, a6⟩, ⟨c1, c2, c3, c4, c5, c6⟩, ⟨d1, d2, d3, d4, d5, d6⟩⟩ := R
  exact ⟨h1, ⟨hv, a2, a3, a4, a5, a6⟩, ⟨c1, c2, c3, c4, c5, c6⟩, ⟨st2_same _ _ _ _, (st2_slot _ _ (by decide)).trans d2, d3, d4, d5, d6⟩⟩
theorem boilT_s {k : Nat} (h : stS A k = 2) : boilT p A (k + 1) = sHd (boilT p A k) (va_up (hdS (boilT p A k)) k (softA p A k (hrS A) 1)) := by
  show sHd A (fun t => if t < k + 1 ∧ stS A t = 2 then softA p A t (hrS A) 1 else hdS A t) = sHd A (va_up (fun t => if t < k ∧ stS A t = 2 then softA p A t (hrS A) 1 else hdS A t) k (softA p A k (hrS A) 1))
  congr 1
  funext t
  unfold va_up
  by_cases e : t = k
  · subst e; simp [h]
  · rw [if_neg e]
    by_cases h2 : t < k
    · simp [h2, show t < k + 1 by omega]
    · simp [h2, show ¬ t < k + 1 by omega]
theorem boilT_n {k : Nat} (h : ¬ stS A k = 2) : boilT p A (k + 1) = boilT p A k := by
  show sHd A (fun t => if t < k + 1 ∧ stS A t = 2 then softA p A t (hrS A) 1 else hdS A t) = sHd A (fun t => if t < k ∧ stS A t = 2 then softA p A t (hrS A) 1 else hdS A t)
  congr 1
  funext t
  by_cases e : t = k
  · subst e; simp [h]
  · by_cases h2 : t < k
    · simp [h2, show t < k + 1 by omega]
    · simp [h2, show ¬ t < k + 1 by omega]
theorem softA_le {t h n : Nat} : softA p A t h n ≤ hdS A t := Nat.sub_le _ _
theorem S_boil (R : RC σ p A) (hh : hrS A ≤ 9059) (h : ∀ σ', RC σ' p (boilA p A) → (∀ c, c ≠ 16 → c ≠ 14 → σ' c = σ c) → G σ' τ) : SV l D b M_X2_boil 3 G0 [.ref (b + 8)] σ τ G := by
  refine s_X2_boil σ τ ?_
  have key := lp_up (P := fun k => ∀ σ', RC σ' p (boilT p A k) → (∀ c, c ≠ 16 → σ' c = σ c) → AV l D b M_X2_boil 3 G0 G 2 [(0, .ref (b + 8)), (1, .int (nI k))] [] G0 σ' τ) (n := pm p) ?_ ?_ 0 (Nat.zero_le _)
  · refine key σ ?_ (fun _ _ => rfl)
    have e : boilT p A 0 = A := by unfold boilT sHd; simp; rfl
    rw [e]; exact R
  · intro k hk ih σ' R' hf
    obtain ⟨hm, hm6⟩ := RC_m R'
    obtain ⟨h1, h2⟩ := RC_st R' hk
    have h1 : σ' 15 k = nI (stS A k) := h1
    have h6 := RC_t R' hk
    refine w_X2_boil_2 _ σ' τ ⟨fun c => ?_, fun c => ⟨vp_in_t h6 (by decide), fun c2 => ?_, fun c2 => ?_⟩⟩
    · rw [hm, nI_leI (by omega) (by omega)] at c; omega
    · have h2 : stS A k ≤ 3 := h2
      rw [nI_c (by omega), h1, show (2 : Int32) = nI 2 from rfl, nI_eq (by omega) (by omega)] at c2
      rw [nI_1]
      exact ih σ' (by rw [boilT_n c2]; exact R') hf
    · have h2 : stS A k ≤ 3 := h2
      rw [nI_c (by omega), h1, show (2 : Int32) = nI 2 from rfl, nI_eq (by omega) (by omega)] at c2
      refine S_hardBehind (n := 1) R' hk (by decide) ⟨vp_in_t h6 (by decide), ?_⟩
      have e : softA p (boilT p A k) k (hrS (boilT p A k)) 1 = softA p A k (hrS A) 1 := by
        have e1 : hdS (boilT p A k) k = hdS A k := by
          show (if k < k ∧ stS A k = 2 then _ else hdS A k) = hdS A k
          rw [if_neg (by omega)]
        unfold softA
        rw [e1]; rfl
      rw [e, nI_c (by omega), nI_1]
      refine ih _ ?_ (fun c hc => (st2_cell _ _ hc).trans (hf c hc))
      rw [boilT_s c2]
      exact RC_putHd R' (Nat.le_trans softA_le (R.2.1.2.2.1 k hk).2.1)
  · intro σ' R' hf
    obtain ⟨hm, hm6⟩ := RC_m R'
    obtain ⟨h8, h9⟩ := RC_hr R'
    refine w_X2_boil_2 _ σ' τ ⟨fun _ => ?_, fun c => absurd ?_ c⟩
    · rw [h8, nI_1]
      refine h _ (RC_putHr R' (by show hrS A + 1 ≤ 9060; omega)) (fun c c1 c2 => (st2_cell _ _ c2).trans (hf c c1))
    · rw [hm]; exact nI_le (Nat.le_refl _) (by omega)
end CSOFT
