/-! HOW MANY BITS: Integer.bitCount and the reference's bits. -/
theorem and_split (a c x y : Nat) (hx : x < 256) (hy : y < 256) : (256 * a + x) &&& (256 * c + y) = 256 * (a &&& c) + (x &&& y) := by
  have h1 := Nat.two_pow_add_eq_or_of_lt (i := 8) (b := x) hx a
  have h2 := Nat.two_pow_add_eq_or_of_lt (i := 8) (b := y) hy c
  have h3 := Nat.two_pow_add_eq_or_of_lt (i := 8) (b := x &&& y) (Nat.lt_of_le_of_lt Nat.and_le_left hx) (a &&& c)
  simp only [show (2 : Nat) ^ 8 = 256 from rfl] at h1 h2 h3
  rw [h1, h2, h3]
  apply Nat.eq_of_testBit_eq
  intro i
  simp only [Nat.testBit_and, Nat.testBit_or]
  have e : ∀ q, (256 * q).testBit i = (decide (8 ≤ i) && q.testBit (i - 8)) := fun q => by
    rw [show 256 * q = 2 ^ 8 * q from rfl, Nat.testBit_two_pow_mul]
  rw [e a, e c, e (a &&& c), Nat.testBit_and]
  by_cases hi : 8 ≤ i
  · have ex : x.testBit i = false := Nat.testBit_lt_two_pow (Nat.lt_of_lt_of_le hx (Nat.pow_le_pow_right (n := 2) (i := 8) (by decide) hi))
    have ey : y.testBit i = false := Nat.testBit_lt_two_pow (Nat.lt_of_lt_of_le hy (Nat.pow_le_pow_right (n := 2) (i := 8) (by decide) hi))
    simp [hi, ex, ey]
  · simp [hi]
/-- a number by its four bytes -/
def by4 (a b c d : Nat) : Nat := 256 * (256 * (256 * a + b) + c) + d
theorem by4_and {a b c d m : Nat} (hb : b < 256) (hc : c < 256) (hd : d < 256) (hm : m < 256) : by4 a b c d &&& by4 m m m m = by4 (a &&& m) (b &&& m) (c &&& m) (d &&& m) := by
  unfold by4
  rw [and_split _ _ _ _ hd hm, and_split _ _ _ _ hc hm, and_split _ _ _ _ hb hm]
theorem by4_eq (n : Nat) : n = by4 (n / 16777216) (n / 65536 % 256) (n / 256 % 256) (n % 256) := by
  unfold by4; omega
/-- the shift by s of four bytes, with what comes from above -/
theorem by4_div {a b c d s t : Nat} (hs : s * t = 256) (hs0 : 0 < s) : by4 a b c d / s = by4 (a / s) (t * (a % s) + b / s) (t * (b % s) + c / s) (t * (c % s) + d / s) := by
  unfold by4
  have key : ∀ x y : Nat, (256 * x + y) / s = 256 * (x / s) + (t * (x % s) + y / s) := by
    intro x y
    have h1 : 256 * x + y = s * (t * x) + y := by rw [← hs]; rw [Nat.mul_assoc]
    rw [h1, Nat.mul_add_div hs0]
    have h2 := Nat.div_add_mod x s
    have h3 : t * x = 256 * (x / s) + t * (x % s) := by
      calc t * x = t * (s * (x / s) + x % s) := by rw [h2]
        _ = t * (s * (x / s)) + t * (x % s) := Nat.mul_add _ _ _
        _ = 256 * (x / s) + t * (x % s) := by rw [← Nat.mul_assoc, Nat.mul_comm t s, hs]
    omega
  have e3 := key (256 * (256 * a + b) + c) d
  have e2 := key (256 * a + b) c
  have e1 := key a b
  have m1 : (256 * (256 * a + b) + c) % s = c % s := by
    have : 256 * (256 * a + b) + c = c + s * (t * (256 * a + b)) := by rw [← Nat.mul_assoc, hs]; omega
    rw [this, Nat.add_mul_mod_self_left]
  have m2 : (256 * a + b) % s = b % s := by
    have : 256 * a + b = b + s * (t * a) := by rw [← Nat.mul_assoc, hs]; omega
    rw [this, Nat.add_mul_mod_self_left]
  rw [e3, e2, e1, m1, m2]
theorem b1 : ∀ b : Fin 256, ∀ r : Fin 2, (128 * r.1 + b.1 / 2) &&& 85 = (b.1 / 2) &&& 85 ∧ (b.1 / 2) &&& 85 ≤ b.1 := by decide +kernel
theorem b2 : ∀ b : Fin 256, ∀ r : Fin 4, (64 * r.1 + b.1 / 4) &&& 51 = (b.1 / 4) &&& 51 ∧ ((b.1 &&& 51) + ((b.1 / 4) &&& 51)) < 256 := by decide +kernel
def g1 (b : Nat) : Nat := b - ((b / 2) &&& 85)
def g2 (b : Nat) : Nat := (b &&& 51) + ((b / 4) &&& 51)
def g3 (b : Nat) : Nat := (b + b / 16) &&& 15
def bigNib (b : Nat) : Bool := decide (b % 16 ≤ 4) && decide (b / 16 ≤ 4)
theorem b12 : ∀ b : Fin 256, g1 b.1 < 256 ∧ bigNib (g2 (g1 b.1)) = true ∧ g3 (g2 (g1 b.1)) = fb_ct (fun i => b.1.testBit i) 8 := by decide +kernel
theorem b3 : ∀ b : Fin 69, ∀ r : Fin 5, (16 * r.1 + (b.1 + b.1 / 16)) &&& 15 = (b.1 + b.1 / 16) &&& 15 ∧ (b.1 % 16 ≤ 4 → 16 * r.1 + (b.1 + b.1 / 16) < 256) := by decide +kernel
theorem sw1 {a b c d : Nat} (ha : a < 256) (hb : b < 256) (hc : c < 256) (hd : d < 256) : by4 a b c d - (by4 a b c d / 2 &&& 1431655765) = by4 (g1 a) (g1 b) (g1 c) (g1 d) := by
  have e : (1431655765 : Nat) = by4 85 85 85 85 := by decide
  rw [by4_div (s := 2) (t := 128) (by decide) (by decide), e, by4_and (by omega) (by omega) (by omega) (by decide)]
  have hA := b1 ⟨a, ha⟩ 0
  have hB := b1 ⟨b, hb⟩ ⟨a % 2, by omega⟩
  have hC := b1 ⟨c, hc⟩ ⟨b % 2, by omega⟩
  have hD := b1 ⟨d, hd⟩ ⟨c % 2, by omega⟩
  simp only at hA hB hC hD
  rw [hB.1, hC.1, hD.1]
  have h1 := hA.2
  have h2 := hB.2
  have h3 := hC.2
  have h4 := hD.2
  unfold by4 g1
  omega
theorem sw2 {a b c d : Nat} (ha : a < 256) (hb : b < 256) (hc : c < 256) (hd : d < 256) : (by4 a b c d &&& 858993459) + (by4 a b c d / 4 &&& 858993459) = by4 (g2 a) (g2 b) (g2 c) (g2 d) := by
  have e : (858993459 : Nat) = by4 51 51 51 51 := by decide
  rw [by4_div (s := 4) (t := 64) (by decide) (by decide), e, by4_and hb hc hd (by decide), by4_and (by omega) (by omega) (by omega) (by decide)]
  have hB := b2 ⟨b, hb⟩ ⟨a % 4, by omega⟩
  have hC := b2 ⟨c, hc⟩ ⟨b % 4, by omega⟩
  have hD := b2 ⟨d, hd⟩ ⟨c % 4, by omega⟩
  simp only at hB hC hD
  rw [hB.1, hC.1, hD.1]
  unfold by4 g2
  omega
theorem nib_lt {b : Nat} (h : bigNib b = true) : b < 69 ∧ b % 16 ≤ 4 ∧ b / 16 ≤ 4 := by
  simp only [bigNib, Bool.and_eq_true, decide_eq_true_eq] at h
  omega
theorem sw3 {a b c d : Nat} (ha : bigNib a = true) (hb : bigNib b = true) (hc : bigNib c = true) (hd : bigNib d = true) : (by4 a b c d + by4 a b c d / 16) &&& 252645135 = by4 (g3 a) (g3 b) (g3 c) (g3 d) := by
  have e : (252645135 : Nat) = by4 15 15 15 15 := by decide
  obtain ⟨a1, a2, a3⟩ := nib_lt ha
  obtain ⟨b1', b2', b3'⟩ := nib_lt hb
  obtain ⟨c1, c2, c3⟩ := nib_lt hc
  obtain ⟨d1, d2, d3⟩ := nib_lt hd
  have hB := b3 ⟨b, by omega⟩ ⟨a % 16, by omega⟩
  have hC := b3 ⟨c, by omega⟩ ⟨b % 16, by omega⟩
  have hD := b3 ⟨d, by omega⟩ ⟨c % 16, by omega⟩
  simp only at hB hC hD
  rw [by4_div (s := 16) (t := 16) (by decide) (by decide)]
  have es : by4 a b c d + by4 (a / 16) (16 * (a % 16) + b / 16) (16 * (b % 16) + c / 16) (16 * (c % 16) + d / 16) = by4 (a + a / 16) (16 * (a % 16) + (b + b / 16)) (16 * (b % 16) + (c + c / 16)) (16 * (c % 16) + (d + d / 16)) := by
    unfold by4; omega
  rw [es, e, by4_and (hB.2 b2') (hC.2 c2) (hD.2 d2) (by decide), hB.1, hC.1, hD.1]
  rfl
theorem pcn_by4 {a b c d : Nat} (ha : a < 256) (hb : b < 256) (hc : c < 256) (hd : d < 256) : pcn (by4 a b c d) = fb_ct (fun i => a.testBit i) 8 + fb_ct (fun i => b.testBit i) 8 + fb_ct (fun i => c.testBit i) 8 + fb_ct (fun i => d.testBit i) 8 := by
  have low : ∀ x y : Nat, y < 256 → ∀ i, i < 8 → (256 * x + y).testBit i = y.testBit i := by
    intro x y hy i hi
    rw [show 256 * x + y = 2 ^ 8 * x + y from rfl, Nat.testBit_two_pow_mul_add _ hy, if_pos hi]
  have high : ∀ x y : Nat, y < 256 → ∀ i, (256 * x + y).testBit (8 + i) = x.testBit i := by
    intro x y hy i
    rw [show 256 * x + y = 2 ^ 8 * x + y from rfl, Nat.testBit_two_pow_mul_add _ hy, if_neg (by omega)]
    congr 1; omega
  unfold pcn by4
  rw [show (32 : Nat) = 8 + (8 + (8 + 8)) from rfl, fb_ct_split, fb_ct_split, fb_ct_split]
  rw [fb_ct_cong (n := 8) (p := fun k => (256 * (256 * (256 * a + b) + c) + d).testBit k) (q := fun k => d.testBit k) (fun k hk => low _ d hd k hk)]
  rw [fb_ct_cong (n := 8) (p := fun k => (256 * (256 * (256 * a + b) + c) + d).testBit (8 + k)) (q := fun k => c.testBit k) (fun k hk => by rw [high _ d hd]; exact low _ c hc k hk)]
  rw [fb_ct_cong (n := 8) (p := fun k => (256 * (256 * (256 * a + b) + c) + d).testBit (8 + (8 + k))) (q := fun k => b.testBit k) (fun k hk => by rw [high _ d hd, high _ c hc]; exact low _ b hb k hk)]
  rw [fb_ct_cong (n := 8) (p := fun k => (256 * (256 * (256 * a + b) + c) + d).testBit (8 + (8 + (8 + k)))) (q := fun k => a.testBit k) (fun k hk => by rw [high _ d hd, high _ c hc, high _ b hb])]
  omega
theorem swar {n : Nat} (hn : n < 2 ^ 32) : ∀ v1 v2 v3 v4 v5 : Nat, v1 = n - (n / 2 &&& 1431655765) → v2 = (v1 &&& 858993459) + (v1 / 4 &&& 858993459) → v3 = (v2 + v2 / 16) &&& 252645135 → v4 = v3 + v3 / 256 → v5 = v4 + v4 / 65536 → (v1 < 2 ^ 32 ∧ v2 < 2 ^ 31 ∧ v3 < 2 ^ 31 ∧ v4 < 2 ^ 31 ∧ v5 < 2 ^ 31 ∧ n / 2 &&& 1431655765 ≤ n) ∧ v5 % 64 = pcn n := by
  intro v1 v2 v3 v4 v5 h1 h2 h3 h4 h5
  have ha : n / 16777216 < 256 := by omega
  have hb : n / 65536 % 256 < 256 := by omega
  have hc : n / 256 % 256 < 256 := by omega
  have hd : n % 256 < 256 := by omega
  have en := by4_eq n
  have hle : n / 2 &&& 1431655765 ≤ n := Nat.le_trans Nat.and_le_left (by omega)
  generalize n / 16777216 = a at *
  generalize n / 65536 % 256 = b at *
  generalize n / 256 % 256 = c at *
  generalize n % 256 = d at *
  subst en
  obtain ⟨a1, a2, a3⟩ := b12 ⟨a, ha⟩
  obtain ⟨b1', b2', b3'⟩ := b12 ⟨b, hb⟩
  obtain ⟨c1, c2, c3⟩ := b12 ⟨c, hc⟩
  obtain ⟨d1, d2, d3⟩ := b12 ⟨d, hd⟩
  simp only at a1 a2 a3 b1' b2' b3' c1 c2 c3 d1 d2 d3
  rw [sw1 ha hb hc hd] at h1
  rw [h1, sw2 a1 b1' c1 d1] at h2
  rw [h2, sw3 a2 b2' c2 d2, a3, b3', c3, d3] at h3
  rw [pcn_by4 ha hb hc hd]
  obtain ⟨x1, x2, x3⟩ := nib_lt a2
  obtain ⟨y1, y2, y3⟩ := nib_lt b2'
  obtain ⟨z1, z2, z3⟩ := nib_lt c2
  obtain ⟨w1, w2, w3⟩ := nib_lt d2
  have ca := fb_ct_le (fun i => a.testBit i) 8
  have cb := fb_ct_le (fun i => b.testBit i) 8
  have cc := fb_ct_le (fun i => c.testBit i) 8
  have cd := fb_ct_le (fun i => d.testBit i) 8
  generalize fb_ct (fun i => a.testBit i) 8 = A at *
  generalize fb_ct (fun i => b.testBit i) 8 = B at *
  generalize fb_ct (fun i => c.testBit i) 8 = C at *
  generalize fb_ct (fun i => d.testBit i) 8 = E at *
  have v3e : v3 = by4 A B C E := h3
  have v2b : v2 < 2 ^ 31 := by rw [h2]; unfold by4; omega
  have v1b : v1 < 2 ^ 32 := by rw [h1]; unfold by4; omega
  unfold by4 at v3e
  have q1 : v3 / 256 = 256 * (256 * A + B) + C := by omega
  have v4e : v4 = 256 * (256 * (256 * A + (A + B)) + (B + C)) + (C + E) := by omega
  have q2 : v4 / 65536 = 256 * A + (A + B) := by omega
  refine ⟨⟨v1b, v2b, by omega, by omega, by omega, hle⟩, ?_⟩
  omega
section PC
variable {l : Launch} {D : zDD} {b : Nat} {γ : zGm}
theorem S_bitCount {n : Nat} (hn : n < 2 ^ 32) (σ : zSg) (τ : zLm) {Q : Int32 → zSg → zLm → Prop} (h : Q (nI (pcn n)) σ τ) : SI l D b M_J6_bitCount_0f7a4 0 γ [.int (nI n)] σ τ Q := by
  refine s_J6_bitCount_0f7a4 _ σ τ ?_
  obtain ⟨w1, hw1⟩ : ∃ w, w = n - (n / 2 &&& 1431655765) := ⟨_, rfl⟩
  obtain ⟨w2, hw2⟩ : ∃ w, w = (w1 &&& 858993459) + (w1 / 4 &&& 858993459) := ⟨_, rfl⟩
  obtain ⟨w3, hw3⟩ : ∃ w, w = (w2 + w2 / 16) &&& 252645135 := ⟨_, rfl⟩
  obtain ⟨w4, hw4⟩ : ∃ w, w = w3 + w3 / 256 := ⟨_, rfl⟩
  obtain ⟨w5, hw5⟩ : ∃ w, w = w4 + w4 / 65536 := ⟨_, rfl⟩
  obtain ⟨⟨k1, k2, k3, k4, k5, k6⟩, hp⟩ := swar hn w1 w2 w3 w4 w5 hw1 hw2 hw3 hw4 hw5
  intro v1 e1 v2 e2 v3 e3 v4 e4 v5 e5
  rw [pk_ushrN hn _ 1 (by decide), show (1431655765 : Int32) = nI 1431655765 from rfl, fa_and, pk_sub k6, ← hw1] at e1
  rw [e1, pk_ushrN k1 _ 2 (by decide), show (858993459 : Int32) = nI 858993459 from rfl, fa_and, fa_and, nI_add, show (2 : Nat) ^ 2 = 4 from rfl, ← hw2] at e2
  rw [e2, pk_ushrN (by omega) _ 4 (by decide), nI_add, show (252645135 : Int32) = nI 252645135 from rfl, fa_and, show (2 : Nat) ^ 4 = 16 from rfl, ← hw3] at e3
  rw [e3, pk_ushrN (by omega) _ 8 (by decide), nI_add, show (2 : Nat) ^ 8 = 256 from rfl, ← hw4] at e4
  rw [e4, pk_ushrN (by omega) _ 16 (by decide), nI_add, show (2 : Nat) ^ 16 = 65536 from rfl, ← hw5] at e5
  have e6 : v5 &&& 63 = nI (pcn n) := by
    rw [e5, show (63 : Int32) = nI (2 ^ 6 - 1) from rfl, fa_mask]
    rw [show (2 : Nat) ^ 6 = 64 from rfl]
    exact congrArg nI hp
  rw [e6]
  exact h
/-- the lowest bit taken away -/
theorem low_off {n : Nat} : ∀ k, 0 < n → n < 2 ^ k → fb_ct (fun i => (n &&& (n - 1)).testBit i) k + 1 = fb_ct (fun i => n.testBit i) k := by
  have gen : ∀ k n, 0 < n → n < 2 ^ k → fb_ct (fun i => (n &&& (n - 1)).testBit i) k + 1 = fb_ct (fun i => n.testBit i) k := by
    intro k
    induction k with
    | zero => intro n h1 h2; simp at h2; omega
    | succ k ih =>
      intro n h1 h2
      rw [show k + 1 = 1 + k by omega, fb_ct_split, fb_ct_split]
      have hb : ∀ m : Nat, fb_ct (fun i => m.testBit i) 1 = m % 2 := by
        intro m
        show 0 + (if m.testBit 0 then 1 else 0) = m % 2
        rw [Nat.testBit_zero]
        rcases Nat.mod_two_eq_zero_or_one m with h | h <;> simp [h]
      have hs : ∀ (m i : Nat), m.testBit (1 + i) = (m / 2).testBit i := fun m i => by rw [Nat.add_comm, Nat.testBit_succ]
      rw [hb, hb, fb_ct_cong (n := k) (p := fun i => (n &&& (n - 1)).testBit (1 + i)) (q := fun i => ((n &&& (n - 1)) / 2).testBit i) (fun i _ => hs (n &&& (n - 1)) i), fb_ct_cong (n := k) (p := fun i => n.testBit (1 + i)) (q := fun i => (n / 2).testBit i) (fun i _ => hs n i)]
      have hd : (n &&& (n - 1)) / 2 = (n / 2) &&& ((n - 1) / 2) := by
        have := Nat.and_div_two_pow (a := n) (b := n - 1) (n := 1)
        simpa using this
      have hm : (n &&& (n - 1)) % 2 = 0 := by
        have h3 : (n &&& (n - 1)).testBit 0 = false := by
          rw [Nat.testBit_and, Nat.testBit_zero, Nat.testBit_zero]
          rcases Nat.mod_two_eq_zero_or_one n with h | h
          · simp [h]
          · have : (n - 1) % 2 = 0 := by omega
            simp [this]
        rw [Nat.testBit_zero] at h3
        have := of_decide_eq_false h3
        omega
      rw [hm, hd]
      rcases Nat.mod_two_eq_zero_or_one n with h | h
      · have e : (n - 1) / 2 = n / 2 - 1 := by omega
        rw [e, h]
        have := ih (n / 2) (by omega) (by rw [Nat.pow_succ] at h2; omega)
        omega
      · have e : (n - 1) / 2 = n / 2 := by omega
        rw [e, h, Nat.and_self]
        omega
  exact fun k h1 h2 => gen k n h1 h2
theorem S_bits {n : Nat} (hn : n < 2 ^ 31) (σ : zSg) (τ : zLm) {Q : Int32 → zSg → zLm → Prop} (h : Q (nI (pcn n)) σ τ) : SI l D b M_X12_bits 0 γ [.int (nI n)] σ τ Q := by
  refine s_X12_bits _ σ τ ?_
  have key : ∀ k m c : Nat, m < 2 ^ 31 → pcn m = k → c + k = pcn n → AI l D b M_X12_bits 0 γ Q 4 [(1, .int (nI c)), (2, .int (nI m))] [] γ σ τ := by
    intro k
    induction k with
    | zero =>
      intro m c hm hk hc
      have h0 : m = 0 := by
        rcases Nat.eq_zero_or_pos m with e | e
        · exact e
        · have := low_off 32 e (by omega)
          unfold pcn at hk
          omega
      subst h0
      refine w_X12_bits_4 _ _ σ τ ⟨fun _ => ?_, fun c => absurd rfl c⟩
      rw [show c = pcn n by omega]
      exact h
    | succ k ih =>
      intro m c hm hk hc
      have h0 : 0 < m := by
        rcases Nat.eq_zero_or_pos m with e | e
        · subst e; have : pcn 0 = 0 := by decide
          omega
        · exact e
      refine w_X12_bits_4 _ _ σ τ ⟨fun e => absurd e (nI_ne0 h0 hm), fun _ => ?_⟩
      have e2 : nI m &&& (nI m - 1) = nI (m &&& (m - 1)) := by
        rw [show (1 : Int32) = nI 1 from rfl, pk_sub h0, fa_and]
      rw [e2, nI_1]
      refine ih _ _ (Nat.lt_of_le_of_lt Nat.and_le_left hm) ?_ (by omega)
      have := low_off 32 h0 (by omega)
      unfold pcn at hk ⊢
      omega
  exact key (pcn n) n 0 hn rfl (by omega)
end PC
