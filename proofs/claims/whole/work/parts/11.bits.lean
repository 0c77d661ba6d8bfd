/-! loops -/
theorem lp {σ : Type} (W : Nat → Int32 → σ → Prop) (I : Nat → σ → Prop) (e i0 : Nat) {x0 : Int32} {s0 : σ} (hx0 : x0 = nI i0) (hi : i0 ≤ e) (h0 : I i0 s0) (hx : ∀ n s, I e s → W (n + 1) (nI e) s) (hs : ∀ n i s, i < e → I i s → (∀ s', I (i + 1) s' → W n (nI (i + 1)) s') → W (n + 1) (nI i) s) : ∃ n, W n x0 s0 := by
  subst hx0
  suffices H : ∀ j i s, i + j = e → I i s → W (j + 1) (nI i) s from ⟨e - i0 + 1, H (e - i0) i0 s0 (by omega) h0⟩
  intro j
  induction j with
  | zero =>
    intro i s h hI
    have : i = e := by omega
    subst this
    exact hx 0 s hI
  | succ j ih =>
    intro i s h hI
    exact hs (j + 1) i s (by omega) hI (fun s' h' => ih (i + 1) s' (by omega) h')
/-! counting bits -/
def pcn : Nat → Nat → Nat
  | 0, _ => 0
  | k + 1, s => s % 2 + pcn k (s / 2)
def pc (s : Nat) : Nat := pcn 24 s
theorem pcn_le (k s : Nat) : pcn k s ≤ k := by
  induction k generalizing s with
  | zero => exact Nat.le_refl _
  | succ k ih =>
    have := ih (s / 2)
    have := Nat.mod_lt s (by decide : 0 < 2)
    rw [pcn]; omega
theorem pcn_zero (k : Nat) : pcn k 0 = 0 := by
  induction k with
  | zero => rfl
  | succ k ih => rw [pcn]; simpa using ih
theorem pcn_app (a b s : Nat) : pcn (a + b) s = pcn a s + pcn b (s / 2 ^ a) := by
  induction a generalizing s with
  | zero => simp [pcn]
  | succ a ih =>
    rw [Nat.succ_add, pcn, pcn, ih, Nat.div_div_eq_div_mul, Nat.pow_succ, Nat.mul_comm 2 (2 ^ a)]
    omega
theorem pcn_mod (a s : Nat) : pcn a (s % 2 ^ a) = pcn a s := by
  induction a generalizing s with
  | zero => rfl
  | succ a ih =>
    rw [pcn, pcn]
    have e1 : s % 2 ^ (a + 1) % 2 = s % 2 := Nat.mod_mod_of_dvd _ ⟨2 ^ a, by rw [Nat.pow_succ, Nat.mul_comm]⟩
    have e2 : s % 2 ^ (a + 1) / 2 = s / 2 % 2 ^ a := by
      rw [Nat.pow_succ, Nat.mul_comm (2 ^ a) 2]
      exact Nat.mod_mul_right_div_self s 2 (2 ^ a)
    rw [e1, e2, ih]
theorem pcn_small {k s : Nat} (h : s < 2 ^ k) (m : Nat) : pcn (k + m) s = pcn k s := by
  rw [pcn_app, Nat.div_eq_of_lt h, pcn_zero]; rfl
theorem pc_le {n s : Nat} (hn : n ≤ 24) (h : s < 2 ^ n) : pc s ≤ n := by
  have h1 := pcn_small h (24 - n)
  rw [show n + (24 - n) = 24 by omega] at h1
  rw [pc, h1]
  exact pcn_le n s
/-- three bytes at a time -/
theorem by_and {a b m u : Nat} (ha : a < 256) (hm : m < 256) : (a + 256 * b) &&& (m + 256 * u) = (a &&& m) + 256 * (b &&& u) := by
  have h1 : (a &&& m) < 256 := Nat.lt_of_le_of_lt Nat.and_le_left ha
  have e1 : ((a + 256 * b) &&& (m + 256 * u)) % 2 ^ 8 = (a + 256 * b) % 2 ^ 8 &&& (m + 256 * u) % 2 ^ 8 := Nat.and_mod_two_pow
  have e2 : ((a + 256 * b) &&& (m + 256 * u)) / 2 ^ 8 = (a + 256 * b) / 2 ^ 8 &&& (m + 256 * u) / 2 ^ 8 := Nat.and_div_two_pow
  have d1 : (a + 256 * b) % 2 ^ 8 = a := by omega
  have d2 : (m + 256 * u) % 2 ^ 8 = m := by omega
  have d3 : (a + 256 * b) / 2 ^ 8 = b := by omega
  have d4 : (m + 256 * u) / 2 ^ 8 = u := by omega
  rw [d1, d2] at e1
  rw [d3, d4] at e2
  omega
theorem by_1 : ∀ a, a < 256 → ∀ c, c < 2 → (a / 2 + 128 * c) &&& 85 = (a / 2) &&& 85 := by decide +kernel
theorem by_2 : ∀ a, a < 256 → ∀ c, c < 4 → (a / 4 + 64 * c) &&& 51 = (a / 4) &&& 51 := by decide +kernel
def by1 (a : Nat) : Nat := a - ((a / 2) &&& 85)
def by2 (a : Nat) : Nat := (a &&& 51) + ((a / 4) &&& 51)
def by4 (a : Nat) : Nat := (a % 16) + (a / 16)
theorem by1_lt : ∀ a, a < 256 → by1 a < 256 ∧ ((a / 2) &&& 85) ≤ a := by decide +kernel
theorem by2_lt : ∀ a, a < 256 → by2 (by1 a) < 256 ∧ by2 (by1 a) % 16 ≤ 4 ∧ by2 (by1 a) / 16 ≤ 4 := by decide +kernel
theorem by_pc : ∀ a, a < 256 → by4 (by2 (by1 a)) = pcn 8 a := by decide +kernel
theorem c_ush {s k : Nat} (hs : s < 2147483648) (hk : k < 32) : (Int32.toUInt32 (nI s) >>> (Int32.toUInt32 (nI k) &&& Int32.toUInt32 31)).toInt32 = nI (s / 2 ^ k) := by
  have hq : ∀ k, k < 32 → ((Int32.toUInt32 (nI k) &&& Int32.toUInt32 31).toBitVec % 32).toNat = k := by decide +kernel
  exact pk_ushrN (by omega) _ k (hq k hk)
set_option maxHeartbeats 4000000 in
theorem bit_count {a b c : Nat} (ha : a < 256) (hb : b < 256) (hc : c < 256) : ∃ x1 x2 x3 x4 x5 : Nat, x1 < 16777216 ∧ x2 < 16777216 ∧ x3 < 16777216 ∧ x4 < 16777216 ∧ x5 < 33554432 ∧
    (a + 256 * (b + 256 * c)) - (((a + 256 * (b + 256 * c)) / 2) &&& 1431655765) = x1 ∧ (((a + 256 * (b + 256 * c)) / 2) &&& 1431655765) ≤ (a + 256 * (b + 256 * c)) ∧ (x1 &&& 858993459) + ((x1 / 4) &&& 858993459) = x2 ∧ (x2 + x2 / 16) &&& 252645135 = x3 ∧ x3 + x3 / 256 = x4 ∧ x4 + x4 / 65536 = x5 ∧ x5 &&& 63 = pcn 8 a + (pcn 8 b + pcn 8 c) := by
  have a1 := by1_lt a ha; have b1 := by1_lt b hb; have c1 := by1_lt c hc
  have a2 := by2_lt a ha; have b2 := by2_lt b hb; have c2 := by2_lt c hc
  have a3 := by_pc a ha; have b3 := by_pc b hb; have c3 := by_pc c hc
  have s1 : ∀ a b c : Nat, a < 256 → b < 256 → c < 256 → ((a + 256 * (b + 256 * c)) / 2) &&& 1431655765 = ((a / 2) &&& 85) + 256 * (((b / 2) &&& 85) + 256 * ((c / 2) &&& 85)) := by
    intro a b c ha hb hc
    have e : (a + 256 * (b + 256 * c)) / 2 = (a / 2 + 128 * (b % 2)) + 256 * ((b / 2 + 128 * (c % 2)) + 256 * ((c / 2) + 256 * 0)) := by omega
    rw [e, show 1431655765 = 85 + 256 * (85 + 256 * (85 + 256 * 85)) by rfl, by_and (by omega) (by omega), by_and (by omega) (by omega), by_and (by omega) (by omega), by_1 a ha _ (by omega), by_1 b hb _ (by omega), Nat.zero_and, Nat.mul_zero, Nat.add_zero]
  have s2 : ∀ a b c : Nat, a < 256 → b < 256 → c < 256 → ((a + 256 * (b + 256 * c)) &&& 858993459) + (((a + 256 * (b + 256 * c)) / 4) &&& 858993459) = by2 a + 256 * (by2 b + 256 * by2 c) := by
    intro a b c ha hb hc
    have e : (a + 256 * (b + 256 * c)) / 4 = (a / 4 + 64 * (b % 4)) + 256 * ((b / 4 + 64 * (c % 4)) + 256 * ((c / 4) + 256 * 0)) := by omega
    have e0 : a + 256 * (b + 256 * c) = a + 256 * (b + 256 * (c + 256 * 0)) := by omega
    rw [e, e0, show 858993459 = 51 + 256 * (51 + 256 * (51 + 256 * 51)) by rfl, by_and (by omega) (by omega), by_and (by omega) (by omega), by_and (by omega) (by omega), by_and (by omega) (by omega), by_and (by omega) (by omega), by_and (by omega) (by omega), by_2 a ha _ (by omega), by_2 b hb _ (by omega), Nat.zero_and]
    simp only [by2]
    omega
  have h15 : ∀ x y : Nat, x < 256 → y < 16 → x % 16 + x / 16 ≤ 8 → (x % 16 + x / 16 + 16 * (x / 16 + y) ) % 256 &&& 15 = x % 16 + x / 16 := by
    intro x y _ _ h
    rw [show 15 = 2 ^ 4 - 1 by rfl, Nat.and_two_pow_sub_one_eq_mod]
    omega
  obtain ⟨A, hA⟩ : ∃ A, A = by1 a := ⟨_, rfl⟩
  obtain ⟨B, hB⟩ : ∃ B, B = by1 b := ⟨_, rfl⟩
  obtain ⟨C, hC⟩ : ∃ C, C = by1 c := ⟨_, rfl⟩
  rw [← hA] at a1 a2 a3; rw [← hB] at b1 b2 b3; rw [← hC] at c1 c2 c3
  have q1 := s1 a b c ha hb hc
  have e1 : (a + 256 * (b + 256 * c)) - (((a + 256 * (b + 256 * c)) / 2) &&& 1431655765) = A + 256 * (B + 256 * C) := by
    rw [q1]; rw [hA, hB, hC]; simp only [by1]; omega
  have q2 := s2 A B C a1.1 b1.1 c1.1
  obtain ⟨A2, hA2⟩ : ∃ x, x = by2 A := ⟨_, rfl⟩
  obtain ⟨B2, hB2⟩ : ∃ x, x = by2 B := ⟨_, rfl⟩
  obtain ⟨C2, hC2⟩ : ∃ x, x = by2 C := ⟨_, rfl⟩
  rw [← hA2, ← hB2, ← hC2] at q2
  rw [← hA2] at a2 a3; rw [← hB2] at b2 b3; rw [← hC2] at c2 c3
  simp only [by4] at a3 b3 c3
  have pa := pcn_le 8 a; have pb := pcn_le 8 b; have pc1 := pcn_le 8 c
  have q3 : ((A2 + 256 * (B2 + 256 * C2)) + (A2 + 256 * (B2 + 256 * C2)) / 16) &&& 252645135 = pcn 8 a + 256 * (pcn 8 b + 256 * pcn 8 c) := by
    have e : (A2 + 256 * (B2 + 256 * C2)) + (A2 + 256 * (B2 + 256 * C2)) / 16 = (A2 + A2 / 16 + 16 * (B2 % 16)) + 256 * ((B2 + B2 / 16 + 16 * (C2 % 16)) + 256 * ((C2 + C2 / 16) + 256 * 0)) := by omega
    rw [e, show 252645135 = 15 + 256 * (15 + 256 * (15 + 256 * 15)) by rfl, by_and (by omega) (by omega), by_and (by omega) (by omega), by_and (by omega) (by omega), Nat.zero_and, show 15 = 2 ^ 4 - 1 by rfl, Nat.and_two_pow_sub_one_eq_mod, Nat.and_two_pow_sub_one_eq_mod, Nat.and_two_pow_sub_one_eq_mod]
    omega
  refine ⟨_, _, _, _, _, ?_, ?_, ?_, ?_, ?_, e1, ?_, q2, q3, rfl, rfl, ?_⟩
  · omega
  · omega
  · omega
  · omega
  · omega
  · rw [q1]; omega
  · have d1 : (pcn 8 a + 256 * (pcn 8 b + 256 * pcn 8 c)) / 256 = pcn 8 b + 256 * pcn 8 c := by omega
    rw [d1]
    have d2 : (pcn 8 a + 256 * (pcn 8 b + 256 * pcn 8 c) + (pcn 8 b + 256 * pcn 8 c)) / 65536 = pcn 8 c := by omega
    rw [d2, show 63 = 2 ^ 6 - 1 by rfl, Nat.and_two_pow_sub_one_eq_mod]
    omega
theorem S_bitCount {s : Nat} {M : gM} {Q : Int32 → gM → Prop} (hs : s < 16777216) (h : Q (nI (pc s)) M) : w_J6_bitCount_0f7a4 (nI s) M Q := by
  obtain ⟨x1, x2, x3, x4, x5, l1, l2, l3, l4, l5, e1, e0, e2, e3, e4, e5, e6⟩ := bit_count (a := s % 256) (b := s / 256 % 256) (c := s / 65536) (by omega) (by omega) (by omega)
  have es : s % 256 + 256 * (s / 256 % 256 + 256 * (s / 65536)) = s := by omega
  rw [es] at e1 e0
  have u : ∀ (y k : Nat), y < 2147483648 → k < 32 → (Int32.toUInt32 (nI y) >>> (Int32.toUInt32 (nI k) &&& Int32.toUInt32 31)).toInt32 = nI (y / 2 ^ k) := fun y k h1 h2 => c_ush h1 h2
  unfold w_J6_bitCount_0f7a4
  intro y1 h1
  rw [show (1 : Int32) = nI 1 from rfl, u s 1 (by omega) (by omega), show (1431655765 : Int32) = nI 1431655765 from rfl, c_and, show (2 : Nat) ^ 1 = 2 from rfl, pk_sub e0, e1] at h1
  subst h1
  intro y2 h2
  rw [show (2 : Int32) = nI 2 from rfl, u x1 2 (by omega) (by omega), show (858993459 : Int32) = nI 858993459 from rfl, c_and, c_and, nI_add, show (2 : Nat) ^ 2 = 4 from rfl, e2] at h2
  subst h2
  intro y3 h3
  rw [show (4 : Int32) = nI 4 from rfl, u x2 4 (by omega) (by omega), nI_add, show (252645135 : Int32) = nI 252645135 from rfl, c_and, show (2 : Nat) ^ 4 = 16 from rfl, e3] at h3
  subst h3
  intro y4 h4
  rw [show (8 : Int32) = nI 8 from rfl, u x3 8 (by omega) (by omega), nI_add, show (2 : Nat) ^ 8 = 256 from rfl, e4] at h4
  subst h4
  intro y5 h5
  rw [show (16 : Int32) = nI 16 from rfl, u x4 16 (by omega) (by omega), nI_add, show (2 : Nat) ^ 16 = 65536 from rfl, e5] at h5
  subst h5
  rw [show (63 : Int32) = nI 63 from rfl, c_and, e6]
  have e7 : pc s = pcn 8 (s % 256) + (pcn 8 (s / 256 % 256) + pcn 8 (s / 65536)) := by
    rw [pc, show (24 : Nat) = 8 + (8 + 8) from rfl, pcn_app, pcn_app, show (256 : Nat) = 2 ^ 8 from rfl, pcn_mod, pcn_mod, Nat.div_div_eq_div_mul]
  rw [← e7]
  exact h
