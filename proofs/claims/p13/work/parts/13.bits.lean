/-! small sets of bits as Nats below 256 (fa_and, fa_or, s_l: out of kit/laws) -/
theorem fa_and (a b : Nat) : nI a &&& nI b = nI (a &&& b) := by
  apply Int32.toBitVec_inj.1
  show BitVec.ofNat 32 a &&& BitVec.ofNat 32 b = BitVec.ofNat 32 (a &&& b)
  apply BitVec.eq_of_getLsbD_eq
  intro i hi
  simp [hi]
theorem fa_or (a b : Nat) : nI a ||| nI b = nI (a ||| b) := by
  apply Int32.toBitVec_inj.1
  show BitVec.ofNat 32 a ||| BitVec.ofNat 32 b = BitVec.ofNat 32 (a ||| b)
  apply BitVec.eq_of_getLsbD_eq
  intro i hi
  simp [hi]
theorem s_l : ∀ n, n < 32 → ((nI n &&& 31).toBitVec.smod 32).toNat = n := by decide +kernel
theorem bit_of {s i : Nat} (hs : s < 2147483648) (hi : i < 32) : (nI s >>> (nI i &&& 31)) &&& nI 1 = nI (s / 2 ^ i % 2) := by
  rw [pk_shrN hs _ i (s_l i hi), pk_andN (Nat.lt_of_le_of_lt (Nat.div_le_self _ _) (by omega)) 1 (by decide +kernel)]
theorem shl_1 {v : Nat} (hv : v < 8) : nI 1 <<< (nI v &&& 31) = nI (2 ^ v) := by
  have h : 1 * 2 ^ v < 2 ^ 32 := by rw [Nat.one_mul]; exact Nat.pow_lt_pow_right (by decide) (by omega)
  rw [pk_shlN _ v (s_l v (by omega)) h, Nat.one_mul]
theorem shl_1' {v : Nat} (hv : v ≤ 8) : nI 1 <<< (nI v &&& 31) = nI (2 ^ v) := by
  have h : 1 * 2 ^ v < 2 ^ 32 := by rw [Nat.one_mul]; exact Nat.pow_lt_pow_right (by decide) (by omega)
  rw [pk_shlN _ v (s_l v (by omega)) h, Nat.one_mul]
theorem or_256 {a b : Nat} (ha : a < 256) (hb : b < 256) : a ||| b < 256 := Nat.or_lt_two_pow (n := 8) ha hb
theorem or_16 {a b : Nat} (ha : a < 16) (hb : b < 16) : a ||| b < 16 := Nat.or_lt_two_pow (n := 4) ha hb
theorem p2_8 {v : Nat} (hv : v < 8) : 2 ^ v < 256 := Nat.pow_lt_pow_right (a := 2) (n := 8) (by decide) hv
theorem p2_4 {v : Nat} (hv : v ≤ 3) : 2 ^ v < 16 := Nat.pow_lt_pow_right (a := 2) (n := 4) (by decide) (by omega)
theorem p2_le {n : Nat} (h : n ≤ 8) : 1 ≤ 2 ^ n ∧ 2 ^ n ≤ 256 := ⟨Nat.one_le_two_pow, Nat.pow_le_pow_right (by decide) h⟩
/-- how many bits of the lowest eight -/
def pc (s : Nat) : Nat := s % 2 + s / 2 % 2 + s / 4 % 2 + s / 8 % 2 + s / 16 % 2 + s / 32 % 2 + s / 64 % 2 + s / 128 % 2
def clr (s u : Nat) : Nat := s &&& (255 - 2 ^ u)
theorem pc_step : ∀ k, k < 256 → 0 < k → pc (k &&& (k - 1)) + 1 = pc k ∧ (k &&& (k - 1)) < k := by decide +kernel
theorem pc_pos : ∀ k, k < 256 → 0 < pc k → 0 < k := by decide +kernel
theorem pc_all : ∀ n, n ≤ 8 → pc (2 ^ n - 1) = n := by decide +kernel
theorem pc_le (s : Nat) : pc s ≤ 8 := by unfold pc; omega
theorem low_bit : ∀ r, r < 256 → 0 < r → ∃ b, b < 8 ∧ r / 2 ^ b % 2 = 1 := by decide +kernel
theorem clr_eq : ∀ s, s < 256 → ∀ u, u < 8 → nI s &&& (nI (2 ^ u) ^^^ (-1)) = nI (clr s u) := by decide +kernel
theorem clr_pc : ∀ s, s < 256 → ∀ u, u < 8 → s / 2 ^ u % 2 = 1 → pc (clr s u) + 1 = pc s := by decide +kernel
theorem clr_le (s u : Nat) : clr s u ≤ s := Nat.and_le_left
theorem bit_lt {s n b : Nat} (hs : s < 2 ^ n) (h : s / 2 ^ b % 2 = 1) : b < n := by
  by_cases hb : b < n
  · exact hb
  · have h2 : 2 ^ n ≤ 2 ^ b := Nat.pow_le_pow_right (by decide) (by omega)
    have h3 : s / 2 ^ b = 0 := Nat.div_eq_of_lt (by omega)
    rw [h3] at h
    exact absurd h (by decide)
