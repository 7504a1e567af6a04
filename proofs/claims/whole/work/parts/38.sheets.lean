/-! SHEETS, the mathematics: which sets of sheets cover a shape; the fewest by rows. -/
def cvN (c : Nat) : Nat := c ||| (2 * c)
def celN (k : Nat) : Nat := 5 * (k / 4) + k % 4
def shN (k : Nat) : Nat := (3 * 2 ^ celN k) ||| (3 * 2 ^ (celN k + 5))
def covT (S : Nat) : Nat → Nat
  | 0 => 0
  | k + 1 => covT S k ||| (if S.testBit k then shN k else 0)
def cov (S : Nat) : Nat := covT S 16
def Cvr (sp S : Nat) : Prop := ∀ i, sp.testBit i = true → (cov S).testBit i = true
theorem covT_bit (S i : Nat) : ∀ n, (covT S n).testBit i = true ↔ ∃ k, k < n ∧ S.testBit k = true ∧ (shN k).testBit i = true
  | 0 => by simp [covT]
  | n + 1 => by
    unfold covT
    rw [Nat.testBit_or, Bool.or_eq_true, covT_bit S i n]
    constructor
    · rintro (⟨k, h1, h2, h3⟩ | h)
      · exact ⟨k, by omega, h2, h3⟩
      · cases hs : S.testBit n
        · rw [hs] at h; simp at h
        · rw [hs] at h; exact ⟨n, by omega, hs, h⟩
    · rintro ⟨k, h1, h2, h3⟩
      by_cases e : k = n
      · subst e; right; rw [h2]; exact h3
      · exact Or.inl ⟨k, by omega, h2, h3⟩
theorem shN_tab : ∀ k : Fin 16, ∀ r : Fin 5, ∀ j : Fin 5, (shN k.1).testBit (5 * r.1 + j.1) = decide ((k.1 / 4 = r.1 ∨ k.1 / 4 + 1 = r.1) ∧ (k.1 % 4 = j.1 ∨ k.1 % 4 + 1 = j.1)) := by decide +kernel
theorem shN_lt : ∀ k : Fin 16, shN k.1 < 2 ^ 25 := by decide +kernel
def hit (S r j : Nat) : Prop := ∃ k, k < 16 ∧ S.testBit k = true ∧ (k / 4 = r ∨ k / 4 + 1 = r) ∧ (k % 4 = j ∨ k % 4 + 1 = j)
theorem cov_hit {S r j : Nat} (hr : r < 5) (hj : j < 5) : (cov S).testBit (5 * r + j) = true ↔ hit S r j := by
  unfold cov hit
  rw [covT_bit]
  constructor
  · rintro ⟨k, h1, h2, h3⟩
    have := shN_tab ⟨k, h1⟩ ⟨r, hr⟩ ⟨j, hj⟩
    simp only at this
    rw [this] at h3
    have h4 := of_decide_eq_true h3
    exact ⟨k, h1, h2, h4.1, h4.2⟩
  · rintro ⟨k, h1, h2, h3, h4⟩
    refine ⟨k, h1, h2, ?_⟩
    have := shN_tab ⟨k, h1⟩ ⟨r, hr⟩ ⟨j, hj⟩
    simp only at this
    rw [this]
    exact decide_eq_true ⟨h3, h4⟩
theorem Cvr_hit {sp S : Nat} (hsp : sp < 2 ^ 25) : Cvr sp S ↔ ∀ r, r < 5 → ∀ j, j < 5 → sp.testBit (5 * r + j) = true → hit S r j := by
  constructor
  · intro h r hr j hj hb
    exact (cov_hit hr hj).mp (h _ hb)
  · intro h i hi
    have hi25 : i < 25 := by
      apply Nat.lt_of_not_le
      intro q
      have := Nat.testBit_lt_two_pow (x := sp) (i := i) (Nat.lt_of_lt_of_le hsp (Nat.pow_le_pow_right (by decide) q))
      rw [this] at hi; cases hi
    have e : i = 5 * (i / 5) + i % 5 := by omega
    rw [e] at hi ⊢
    exact (cov_hit (by omega) (by omega)).mpr (h _ (by omega) _ (by omega) hi)
/-- the four of a row -/
def nb (S r : Nat) : Nat := S / 16 ^ r % 16
theorem nb_bit {S r b : Nat} (hb : b < 4) : (nb S r).testBit b = S.testBit (4 * r + b) := by
  unfold nb
  rw [show (16 : Nat) = 2 ^ 4 from rfl, Nat.testBit_mod_two_pow, decide_eq_true hb, Bool.true_and, ← Nat.pow_mul, ← Nat.shiftRight_eq_div_pow, Nat.testBit_shiftRight]
theorem nb_lt (S r : Nat) : nb S r < 16 := Nat.mod_lt _ (by decide)
theorem cvN_bit {c j : Nat} (hc : c < 16) : (cvN c).testBit j = true ↔ ∃ b, b < 4 ∧ c.testBit b = true ∧ (b = j ∨ b + 1 = j) := by
  unfold cvN
  rw [Nat.testBit_or, Bool.or_eq_true, show 2 * c = 2 ^ 1 * c from rfl, Nat.testBit_two_pow_mul]
  have h4 : ∀ b, c.testBit b = true → b < 4 := fun b hb => by
    apply Nat.lt_of_not_le
    intro q
    have := Nat.testBit_lt_two_pow (x := c) (i := b) (Nat.lt_of_lt_of_le (show c < 2 ^ 4 from hc) (Nat.pow_le_pow_right (by decide) q))
    rw [this] at hb; cases hb
  constructor
  · rintro (h | h)
    · exact ⟨j, h4 j h, h, Or.inl rfl⟩
    · simp only [Bool.and_eq_true, decide_eq_true_eq] at h
      exact ⟨j - 1, h4 _ h.2, h.2, Or.inr (by omega)⟩
  · rintro ⟨b, h1, h2, h3 | h3⟩
    · subst h3; exact Or.inl h2
    · right
      simp only [Bool.and_eq_true, decide_eq_true_eq]
      refine ⟨by omega, ?_⟩
      rw [show j - 1 = b by omega]; exact h2
def rwN (sp r : Nat) : Nat := sp / 32 ^ r % 32
theorem rwN_bit {sp r j : Nat} (hj : j < 5) : (rwN sp r).testBit j = sp.testBit (5 * r + j) := by
  unfold rwN
  rw [show (32 : Nat) = 2 ^ 5 from rfl, Nat.testBit_mod_two_pow, decide_eq_true hj, Bool.true_and, ← Nat.pow_mul, ← Nat.shiftRight_eq_div_pow, Nat.testBit_shiftRight]
/-- a row of cells under the sheets that begin in it and those above it -/
def okR (cells c a : Nat) : Prop := ∀ j, j < 5 → cells.testBit j = true → (cvN c).testBit j = true ∨ (cvN a).testBit j = true
theorem hit_row {S r j : Nat} (hr : r < 5) (hS : S < 65536) : hit S r j ↔ ((r < 4 ∧ (cvN (nb S r)).testBit j = true) ∨ (1 ≤ r ∧ (cvN (nb S (r - 1))).testBit j = true)) := by
  unfold hit
  constructor
  · rintro ⟨k, h1, h2, h3, h4⟩
    have e : k = 4 * (k / 4) + k % 4 := by omega
    rcases h3 with h3 | h3
    · left
      refine ⟨by omega, (cvN_bit (nb_lt S r)).mpr ⟨k % 4, by omega, ?_, h4⟩⟩
      rw [nb_bit (by omega), ← h3, ← e]; exact h2
    · right
      refine ⟨by omega, (cvN_bit (nb_lt S (r - 1))).mpr ⟨k % 4, by omega, ?_, h4⟩⟩
      rw [nb_bit (by omega), show r - 1 = k / 4 by omega, ← e]; exact h2
  · rintro (⟨h1, h2⟩ | ⟨h1, h2⟩)
    · obtain ⟨b, hb, h3, h4⟩ := (cvN_bit (nb_lt S r)).mp h2
      rw [nb_bit hb] at h3
      exact ⟨4 * r + b, by omega, h3, Or.inl (by omega), by omega⟩
    · obtain ⟨b, hb, h3, h4⟩ := (cvN_bit (nb_lt S (r - 1))).mp h2
      rw [nb_bit hb] at h3
      exact ⟨4 * (r - 1) + b, by omega, h3, Or.inr (by omega), by omega⟩
/-- choices row by row: d 0 = 0, then four rows -/
def okQ (sp : Nat) (d : Nat → Nat) (r : Nat) : Prop := d 0 = 0 ∧ ∀ i, i < r → d (i + 1) < 16 ∧ okR (rwN sp i) (d (i + 1)) (d i)
def dOf (S : Nat) : Nat → Nat := fun i => if i = 0 then 0 else nb S (i - 1)
theorem cvN_0 (j : Nat) : (cvN 0).testBit j = false := by unfold cvN; simp
theorem Cvr_rows {sp S : Nat} (hsp : sp < 2 ^ 25) (hS : S < 65536) : Cvr sp S ↔ okQ sp (dOf S) 4 ∧ okR (rwN sp 4) 0 (nb S 3) := by
  rw [Cvr_hit hsp]
  constructor
  · intro h
    refine ⟨⟨rfl, fun i hi => ⟨nb_lt _ _, fun j hj hb => ?_⟩⟩, fun j hj hb => ?_⟩
    · rw [rwN_bit hj] at hb
      rcases (hit_row (by omega) hS).mp (h i (by omega) j hj hb) with q | q
      · left; exact q.2
      · right
        have e : dOf S i = nb S (i - 1) := by unfold dOf; rw [if_neg (by omega)]
        rw [e]; exact q.2
    · rw [rwN_bit hj] at hb
      rcases (hit_row (by omega) hS).mp (h 4 (by omega) j hj hb) with q | q
      · omega
      · right; exact q.2
  · rintro ⟨⟨h0, h1⟩, h2⟩ r hr j hj hb
    apply (hit_row hr hS).mpr
    rw [← rwN_bit hj] at hb
    by_cases e4 : r = 4
    · subst e4
      rcases h2 j hj hb with q | q
      · rw [cvN_0] at q; cases q
      · right; exact ⟨by omega, q⟩
    · rcases (h1 r (by omega)).2 j hj hb with q | q
      · left; exact ⟨by omega, q⟩
      · right
        unfold dOf at q
        split at q
        · rw [cvN_0] at q; cases q
        · exact ⟨by omega, q⟩
theorem pcn_nb {S : Nat} (hS : S < 65536) : pcn S = fb_sm (fun i => pcn (nb S i)) 4 := by
  have p4 : ∀ c, c < 16 → pcn c = fb_ct (fun i => c.testBit i) 4 := fun c hc => by
    unfold pcn
    rw [show (32 : Nat) = 4 + 28 from rfl, fb_ct_split]
    have : fb_ct (fun k => c.testBit (4 + k)) 28 = 0 := fb_ct_zero.mpr (fun k _ => Nat.testBit_lt_two_pow (Nat.lt_of_lt_of_le (show c < 2 ^ 4 from hc) (Nat.pow_le_pow_right (by decide) (by omega))))
    omega
  have pS : pcn S = fb_ct (fun i => S.testBit i) 16 := by
    unfold pcn
    rw [show (32 : Nat) = 16 + 16 from rfl, fb_ct_split]
    have : fb_ct (fun k => S.testBit (16 + k)) 16 = 0 := fb_ct_zero.mpr (fun k _ => Nat.testBit_lt_two_pow (Nat.lt_of_lt_of_le (show S < 2 ^ 16 from hS) (Nat.pow_le_pow_right (by decide) (by omega))))
    omega
  have q : ∀ r, pcn (nb S r) = fb_ct (fun i => S.testBit (4 * r + i)) 4 := fun r => by
    rw [p4 _ (nb_lt S r)]
    exact fb_ct_cong (fun b hb => nb_bit hb)
  rw [pS, show (16 : Nat) = 4 + (4 + (4 + 4)) from rfl, fb_ct_split, fb_ct_split, fb_ct_split]
  show _ = 0 + pcn (nb S 0) + pcn (nb S 1) + pcn (nb S 2) + pcn (nb S 3)
  rw [q 0, q 1, q 2, q 3]
  have c0 : fb_ct (fun i => S.testBit (4 * 0 + i)) 4 = fb_ct (fun i => S.testBit i) 4 := fb_ct_cong (fun k _ => by rw [show 4 * 0 + k = k by omega])
  have c1 : fb_ct (fun i => S.testBit (4 * 1 + i)) 4 = fb_ct (fun k => S.testBit (4 + k)) 4 := fb_ct_cong (fun k _ => by rw [show 4 * 1 + k = 4 + k by omega])
  have c2 : fb_ct (fun i => S.testBit (4 * 2 + i)) 4 = fb_ct (fun k => S.testBit (4 + (4 + k))) 4 := fb_ct_cong (fun k _ => by rw [show 4 * 2 + k = 4 + (4 + k) by omega])
  have c3 : fb_ct (fun i => S.testBit (4 * 3 + i)) 4 = fb_ct (fun k => S.testBit (4 + (4 + (4 + k)))) 4 := fb_ct_cong (fun k _ => by rw [show 4 * 3 + k = 4 + (4 + (4 + k)) by omega])
  rw [c0, c1, c2, c3]
  omega
/-- the least of f over those that are so, 100 at most -/
def mnO (q : Nat → Bool) (f : Nat → Nat) : Nat → Nat
  | 0 => 100
  | k + 1 => if q k then min (mnO q f k) (f k) else mnO q f k
theorem mnO_le (q : Nat → Bool) (f : Nat → Nat) : ∀ n, mnO q f n ≤ 100 ∧ ∀ k, k < n → q k = true → mnO q f n ≤ f k
  | 0 => ⟨Nat.le_refl _, fun k hk => by omega⟩
  | n + 1 => by
    obtain ⟨h1, h2⟩ := mnO_le q f n
    unfold mnO
    split
    · refine ⟨by omega, fun k hk hq => ?_⟩
      by_cases e : k = n
      · subst e; omega
      · have := h2 k (by omega) hq; omega
    · rename_i hn
      refine ⟨h1, fun k hk hq => ?_⟩
      by_cases e : k = n
      · subst e; exact absurd hq hn
      · exact h2 k (by omega) hq
theorem mnO_at (q : Nat → Bool) (f : Nat → Nat) : ∀ n, mnO q f n < 100 → ∃ k, k < n ∧ q k = true ∧ mnO q f n = f k
  | 0, h => by unfold mnO at h; omega
  | n + 1, h => by
    unfold mnO at h ⊢
    split at h
    · rename_i hn
      rw [if_pos hn]
      by_cases e : mnO q f n ≤ f n
      · obtain ⟨k, h1, h2, h3⟩ := mnO_at q f n (by omega)
        exact ⟨k, by omega, h2, by omega⟩
      · exact ⟨n, by omega, hn, by omega⟩
    · rename_i hn
      rw [if_neg hn]
      obtain ⟨k, h1, h2, h3⟩ := mnO_at q f n h
      exact ⟨k, by omega, h2, h3⟩
def okB (cells c a : Nat) : Bool := decide (∀ j : Fin 5, cells.testBit j.1 = true → (cvN c).testBit j.1 = true ∨ (cvN a).testBit j.1 = true)
theorem okB_iff {cells c a : Nat} : okB cells c a = true ↔ okR cells c a := by
  unfold okB okR
  rw [decide_eq_true_eq]
  exact ⟨fun h j hj => h ⟨j, hj⟩, fun h j => h j.1 j.2⟩
def costF (sp : Nat) : Nat → Nat → Nat
  | 0 => fun c => if c = 0 then 0 else 100
  | r + 1 => fun c => mnO (fun a => okB (rwN sp r) c a) (costF sp r) 16 + pcn c
def fewN (sp : Nat) : Nat := mnO (fun c => okB (rwN sp 4) 0 c) (costF sp 4) 16
theorem cost_low (sp : Nat) (d : Nat → Nat) : ∀ r, okQ sp d r → costF sp r (d r) ≤ fb_sm (fun i => pcn (d (i + 1))) r
  | 0, h => by
    show (if d 0 = 0 then 0 else 100) ≤ 0
    rw [if_pos h.1]
    exact Nat.le_refl _
  | r + 1, h => by
    have h1 : okQ sp d r := ⟨h.1, fun i hi => h.2 i (by omega)⟩
    have ih := cost_low sp d r h1
    have h2 := (h.2 r (by omega)).2
    have hd : d r < 16 := by
      cases r with
      | zero => rw [h.1]; decide
      | succ q => exact (h.2 q (by omega)).1
    have := (mnO_le (fun a => okB (rwN sp r) (d (r + 1)) a) (costF sp r) 16).2 (d r) hd (okB_iff.mpr h2)
    show mnO (fun a => okB (rwN sp r) (d (r + 1)) a) (costF sp r) 16 + pcn (d (r + 1)) ≤ fb_sm (fun i => pcn (d (i + 1))) r + pcn (d (r + 1))
    omega
theorem cost_up (sp : Nat) : ∀ r x, x < 16 → costF sp r x < 100 → ∃ d, okQ sp d r ∧ d r = x ∧ fb_sm (fun i => pcn (d (i + 1))) r = costF sp r x
  | 0, x, hx, h => by
    have e : x = 0 := by
      unfold costF at h
      split at h
      · assumption
      · omega
    subst e
    exact ⟨fun _ => 0, ⟨rfl, fun i hi => by omega⟩, rfl, rfl⟩
  | r + 1, x, hx, h => by
    have h : mnO (fun a => okB (rwN sp r) x a) (costF sp r) 16 + pcn x < 100 := h
    obtain ⟨a, h1, h2, h3⟩ := mnO_at (fun a => okB (rwN sp r) x a) (costF sp r) 16 (by omega)
    obtain ⟨d, k1, k2, k3⟩ := cost_up sp r a h1 (by omega)
    refine ⟨va_up d (r + 1) x, ⟨?_, fun i hi => ?_⟩, va_up_self _ _ _, ?_⟩
    · rw [va_up_ne _ _ (by omega)]; exact k1.1
    · by_cases e : i = r
      · subst e
        rw [va_up_self, va_up_ne _ _ (by omega), k2]
        exact ⟨hx, okB_iff.mp h2⟩
      · rw [va_up_ne _ _ (by omega), va_up_ne _ _ (by omega)]
        exact k1.2 i (by omega)
    · show fb_sm (fun i => pcn (va_up d (r + 1) x (i + 1))) r + pcn (va_up d (r + 1) x (r + 1)) = mnO (fun a => okB (rwN sp r) x a) (costF sp r) 16 + pcn x
      rw [va_up_self, h3, ← k3]
      congr 1
      exact fb_sm_cong (fun i hi => by rw [va_up_ne _ _ (by omega)])
theorem full_cov {sp : Nat} (hsp : sp < 2 ^ 25) : Cvr sp 65535 := by
  have hc : cov 65535 = 2 ^ 25 - 1 := by decide +kernel
  intro i hi
  rw [hc, Nat.testBit_two_pow_sub_one]
  apply decide_eq_true
  apply Nat.lt_of_not_le
  intro q
  have := Nat.testBit_lt_two_pow (x := sp) (i := i) (Nat.lt_of_lt_of_le hsp (Nat.pow_le_pow_right (by decide) q))
  rw [this] at hi; cases hi
theorem fewN_low {sp S : Nat} (hsp : sp < 2 ^ 25) (hS : S < 65536) (h : Cvr sp S) : fewN sp ≤ pcn S := by
  obtain ⟨h1, h2⟩ := (Cvr_rows hsp hS).mp h
  have a1 := cost_low sp (dOf S) 4 h1
  have a2 := (mnO_le (fun c => okB (rwN sp 4) 0 c) (costF sp 4) 16).2 (nb S 3) (nb_lt _ _) (okB_iff.mpr h2)
  rw [pcn_nb hS]
  have e : fb_sm (fun i => pcn (dOf S (i + 1))) 4 = fb_sm (fun i => pcn (nb S i)) 4 := fb_sm_cong (fun i _ => rfl)
  have e2 : dOf S 4 = nb S 3 := rfl
  rw [e, e2] at a1
  unfold fewN
  omega
theorem fewN_le {sp : Nat} (hsp : sp < 2 ^ 25) : fewN sp ≤ 16 := by
  have := fewN_low hsp (show 65535 < 65536 by decide) (full_cov hsp)
  have e : pcn 65535 = 16 := by decide +kernel
  omega
theorem nbs (a b c d : Nat) (ha : a < 16) (hb : b < 16) (hc : c < 16) (hd : d < 16) : nb (a + 16 * b + 256 * c + 4096 * d) 0 = a ∧ nb (a + 16 * b + 256 * c + 4096 * d) 1 = b ∧ nb (a + 16 * b + 256 * c + 4096 * d) 2 = c ∧ nb (a + 16 * b + 256 * c + 4096 * d) 3 = d := by
  unfold nb
  refine ⟨?_, ?_, ?_, ?_⟩ <;> simp only [show (16 : Nat) ^ 0 = 1 from rfl, show (16 : Nat) ^ 1 = 16 from rfl, show (16 : Nat) ^ 2 = 256 from rfl, show (16 : Nat) ^ 3 = 4096 from rfl] <;> omega
theorem fewN_at {sp : Nat} (hsp : sp < 2 ^ 25) : ∃ S, S < 65536 ∧ Cvr sp S ∧ pcn S = fewN sp := by
  have hl := fewN_le hsp
  obtain ⟨x, h1, h2, h3⟩ := mnO_at (fun c => okB (rwN sp 4) 0 c) (costF sp 4) 16 (by unfold fewN at hl; omega)
  obtain ⟨d, k1, k2, k3⟩ := cost_up sp 4 x h1 (by unfold fewN at hl; omega)
  have d1 : d 1 < 16 := (k1.2 0 (by decide)).1
  have d2 : d 2 < 16 := (k1.2 1 (by decide)).1
  have d3 : d 3 < 16 := (k1.2 2 (by decide)).1
  have d4 : d 4 < 16 := (k1.2 3 (by decide)).1
  obtain ⟨n0, n1, n2, n3⟩ := nbs (d 1) (d 2) (d 3) (d 4) d1 d2 d3 d4
  have hS : d 1 + 16 * d 2 + 256 * d 3 + 4096 * d 4 < 65536 := by omega
  generalize d 1 + 16 * d 2 + 256 * d 3 + 4096 * d 4 = S at *
  have e : ∀ i, i ≤ 4 → dOf S i = d i := fun i hi => by
    rcases (show i = 0 ∨ i = 1 ∨ i = 2 ∨ i = 3 ∨ i = 4 by omega) with rfl | rfl | rfl | rfl | rfl
    · exact k1.1.symm
    · exact n0
    · exact n1
    · exact n2
    · exact n3
  refine ⟨S, hS, (Cvr_rows hsp hS).mpr ⟨⟨rfl, fun i hi => ?_⟩, ?_⟩, ?_⟩
  · rw [e (i + 1) (by omega), e i (by omega)]; exact k1.2 i hi
  · rw [n3, k2]; exact okB_iff.mp h2
  · rw [pcn_nb hS]
    unfold fewN
    rw [h3, ← k3]
    exact fb_sm_cong (fun i hi => by rw [← e (i + 1) (by omega)]; rfl)
