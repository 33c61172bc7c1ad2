/-! what is answered of a row -/
def pnN (row : Nat → Int32) : Nat → Nat
  | 0 => 0
  | n + 1 => pnN row n + (if 0 < row (40 + n) then 1 else 0)
theorem pnN_t {row : Nat → Int32} {p k : Nat} (hk : k = pnN row p) (h : 0 < row (40 + p)) : k + 1 = pnN row (p + 1) := by
  show k + 1 = pnN row p + _
  rw [if_pos h, hk]
theorem pnN_f {row : Nat → Int32} {p k : Nat} (hk : k = pnN row p) (h : ¬ 0 < row (40 + p)) : k = pnN row (p + 1) := by
  show k = pnN row p + _
  rw [if_neg h, hk, Nat.add_zero]
theorem pnN_le (row : Nat → Int32) : ∀ p, pnN row p ≤ p
  | 0 => Nat.le_refl _
  | p + 1 => by
    have := pnN_le row p
    show pnN row p + _ ≤ p + 1
    split <;> omega
theorem pin_m1 : ∀ p, p ≤ 4 → (nI p - 1 = (-1) ↔ p = 0) := by decide +kernel
theorem pin_i : ∀ p, p ≤ 4 → ∀ i, i < 4 → (nI p - 1 = nI i ↔ p = i + 1) := by decide +kernel
theorem pos_nI {t : Nat} (ht : t < 2147483648) : 0 < nI t ↔ 0 < t := by rw [← nI_0]; exact nI_ltI (by omega) ht
/-- what a choice costs, by pin, own cost, kind -/
def cstN (p t kd i : Nat) : Nat := if (0 < p ∧ p ≠ i + 1) ∨ t = 99 then 1000000 else if kd = 0 then t else if kd = 1 then 2 * t else if kd = 2 then t + i else if 10 < t then 1000000 else 2 * t
def cst (row : Nat → Int32) (u i : Nat) : Nat := cstN (row (40 + u)).toNatClampNeg (row (4 * u + i)).toNatClampNeg (row (32 + u)).toNatClampNeg i
def tcN (e : Nat) : Nat := if e = 10 then 1000000 else e - 1
def tcs (row : Nat → Int32) (u v i j : Nat) : Nat := tcN (row (eA u v i j)).toNatClampNeg
theorem wr.cstE {n : Nat} {mm : Nat → Nat} {row : Nat → Int32} (hw : wr n mm row) {u i : Nat} (hu : u < n) (hi : i < mm u) : ∃ p t kd, p ≤ 4 ∧ t ≤ 99 ∧ kd ≤ 3 ∧ row (40 + u) = nI p ∧ row (4 * u + i) = nI t ∧ row (32 + u) = nI kd ∧ cst row u i = cstN p t kd i := by
  obtain ⟨⟨kd, h1, e1⟩, ⟨p, h2, e2⟩, h3⟩ := hw.2.1 u hu
  obtain ⟨t, h4, e4⟩ := h3 i hi
  have := (hw.1.2 u hu).2
  refine ⟨p, t, kd, by omega, h4, h1, e2, e4, e1, ?_⟩
  unfold cst
  rw [e1, e2, e4, nI_clamp (by omega), nI_clamp (by omega), nI_clamp (by omega)]
theorem sw_eq {x : Int32} {k : Nat} (e : x.toInt = 0 + (k : Int)) : x = nI k := by
  obtain ⟨j, hj, rfl⟩ := nI_of (x := x) (by rw [Int32.lt_iff_toInt_lt, Int32.toInt_zero]; omega)
  rw [nI_toInt hj] at e
  congr 1
  omega
theorem sw_ne {x : Int32} {hi : Int} (c : x.toInt < 0 ∨ hi < x.toInt) (k : Nat) (hk : k < 2147483648) (h : (k : Int) ≤ hi) : ¬ x = nI k := fun e => by
  rw [e, nI_toInt hk] at c
  omega
theorem nI_s1 (f : Nat) : nI (f + 1) - 1 = nI f := by rw [← n01, pk_sub (by omega)]; rfl
section AN
variable {n : Nat} {mm : Nat → Nat} {row : Nat → Int32} {x1 x2 x3 x4 : Int32} {u v i j : Nat}
def ndAns (n : Nat) (mm : Nat → Nat) (row : Nat → Int32) (x1 x2 : Int32) : Int32 := match ndO n x1 with
  | none => -1
  | some u => if x2 = nI 0 then row (32 + u) else if x2 = nI 1 then nI (mm u) else if x2 = nI 2 then nI (deg row u) else if x2 = nI 3 then pinA (row (40 + u)) else -1
theorem ndAns_n (h : ndO n x1 = none) : ndAns n mm row x1 x2 = -1 := by unfold ndAns; rw [h]
theorem ndAns_i (h : ndO n x1 = some u) : ndAns n mm row x1 x2 = if x2 = nI 0 then row (32 + u) else if x2 = nI 1 then nI (mm u) else if x2 = nI 2 then nI (deg row u) else if x2 = nI 3 then pinA (row (40 + u)) else -1 := by unfold ndAns; rw [h]
theorem ndAns_0 (h : ndO n x1 = some u) (e : x2 = nI 0) : ndAns n mm row x1 x2 = row (32 + u) := by rw [ndAns_i h, if_pos e]
theorem ndAns_1 (h : ndO n x1 = some u) (e : x2 = nI 1) : ndAns n mm row x1 x2 = nI (mm u) := by rw [ndAns_i h, e, if_neg (by decide +kernel), if_pos rfl]
theorem ndAns_2 (h : ndO n x1 = some u) (e : x2 = nI 2) : ndAns n mm row x1 x2 = nI (deg row u) := by rw [ndAns_i h, e, if_neg (by decide +kernel), if_neg (by decide +kernel), if_pos rfl]
theorem ndAns_3 (h : ndO n x1 = some u) (e : x2 = nI 3) : ndAns n mm row x1 x2 = pinA (row (40 + u)) := by rw [ndAns_i h, e, if_neg (by decide +kernel), if_neg (by decide +kernel), if_neg (by decide +kernel), if_pos rfl]
theorem ndAns_x (h0 : ¬ x2 = nI 0) (h1 : ¬ x2 = nI 1) (h2 : ¬ x2 = nI 2) (h3 : ¬ x2 = nI 3) : ndAns n mm row x1 x2 = -1 := by
  cases h : ndO n x1 with
  | none => exact ndAns_n h
  | some u => rw [ndAns_i h, if_neg h0, if_neg h1, if_neg h2, if_neg h3]
def coAns (n : Nat) (mm : Nat → Nat) (row : Nat → Int32) (x1 x2 : Int32) : Int32 := match chO n mm x1 x2 with
  | none => -1
  | some p => nI (cst row p.1 p.2)
theorem coAns_n (h : chO n mm x1 x2 = none) : coAns n mm row x1 x2 = -1 := by unfold coAns; rw [h]
theorem coAns_s (h : chO n mm x1 x2 = some (u, i)) : coAns n mm row x1 x2 = nI (cst row u i) := by unfold coAns; rw [h]
def tiAns (n : Nat) (mm : Nat → Nat) (row : Nat → Int32) (x1 x2 x3 x4 : Int32) : Int32 := if x1 = x2 then -1 else match chO n mm x1 x3 with
  | none => -1
  | some p => match chO n mm x2 x4 with
    | none => -1
    | some q => if 0 < row (eA p.1 q.1 0 0) then nI (tcs row p.1 q.1 p.2 q.2) else -4
theorem tiAns_e (h : x1 = x2) : tiAns n mm row x1 x2 x3 x4 = -1 := if_pos h
theorem tiAns_1 (h : ¬ x1 = x2) (h1 : chO n mm x1 x3 = none) : tiAns n mm row x1 x2 x3 x4 = -1 := by unfold tiAns; rw [if_neg h, h1]
theorem tiAns_2 (h : ¬ x1 = x2) (h1 : chO n mm x1 x3 = some (u, i)) (h2 : chO n mm x2 x4 = none) : tiAns n mm row x1 x2 x3 x4 = -1 := by unfold tiAns; rw [if_neg h, h1]; simp only [h2]
theorem tiAns_t (h : ¬ x1 = x2) (h1 : chO n mm x1 x3 = some (u, i)) (h2 : chO n mm x2 x4 = some (v, j)) (ht : 0 < row (eA u v 0 0)) : tiAns n mm row x1 x2 x3 x4 = nI (tcs row u v i j) := by unfold tiAns; rw [if_neg h, h1]; simp only [h2, if_pos ht]
theorem tiAns_u (h : ¬ x1 = x2) (h1 : chO n mm x1 x3 = some (u, i)) (h2 : chO n mm x2 x4 = some (v, j)) (ht : ¬ 0 < row (eA u v 0 0)) : tiAns n mm row x1 x2 x3 x4 = -4 := by unfold tiAns; rw [if_neg h, h1]; simp only [h2, if_neg ht]
def ctAns (n : Nat) (row : Nat → Int32) (un kn t : Nat) (x : Int32) : Int32 := if x = nI 0 then nI n else if x = nI 1 then nI (tsN row 28) else if x = nI 2 then nI (pnN row n) else if x = nI 3 then nI un else if x = nI 4 then nI kn else if x = nI 5 then nI t else -1
theorem ctAns_0 {un kn t : Nat} (e : x1 = nI 0) : ctAns n row un kn t x1 = nI n := if_pos e
theorem ctAns_1 {un kn t : Nat} (e : x1 = nI 1) : ctAns n row un kn t x1 = nI (tsN row 28) := by unfold ctAns; rw [e, if_neg (by decide +kernel), if_pos rfl]
theorem ctAns_2 {un kn t : Nat} (e : x1 = nI 2) : ctAns n row un kn t x1 = nI (pnN row n) := by unfold ctAns; rw [e, if_neg (by decide +kernel), if_neg (by decide +kernel), if_pos rfl]
theorem ctAns_3 {un kn t : Nat} (e : x1 = nI 3) : ctAns n row un kn t x1 = nI un := by unfold ctAns; rw [e, if_neg (by decide +kernel), if_neg (by decide +kernel), if_neg (by decide +kernel), if_pos rfl]
theorem ctAns_4 {un kn t : Nat} (e : x1 = nI 4) : ctAns n row un kn t x1 = nI kn := by unfold ctAns; rw [e, if_neg (by decide +kernel), if_neg (by decide +kernel), if_neg (by decide +kernel), if_neg (by decide +kernel), if_pos rfl]
theorem ctAns_5 {un kn t : Nat} (e : x1 = nI 5) : ctAns n row un kn t x1 = nI t := by unfold ctAns; rw [e, if_neg (by decide +kernel), if_neg (by decide +kernel), if_neg (by decide +kernel), if_neg (by decide +kernel), if_neg (by decide +kernel), if_pos rfl]
theorem ctAns_x {un kn t : Nat} (h : ∀ k, k < 6 → ¬ x1 = nI k) : ctAns n row un kn t x1 = -1 := by unfold ctAns; rw [if_neg (h 0 (by omega)), if_neg (h 1 (by omega)), if_neg (h 2 (by omega)), if_neg (h 3 (by omega)), if_neg (h 4 (by omega)), if_neg (h 5 (by omega))]
/-- a pin, and what it is but one -/
theorem pin_eq0 {x : Int32} {t : Nat} (ht : t ≤ 4) (e : x = nI t) : x - 1 = (-1) ↔ x = nI 0 := by
  rw [e, pin_m1 t ht, nI_eq (by omega) (by omega)]
theorem pin_eqi {x : Int32} {t i : Nat} (ht : t ≤ 4) (e : x = nI t) (hi : i < 4) : x - 1 = nI i ↔ x = nI (i + 1) := by
  rw [e, pin_i t ht i hi, nI_eq (by omega) (by omega)]
theorem pinA_z {x : Int32} (h : x = nI 0) : pinA x = -4 := by unfold pinA; rw [if_pos (h.trans nI_0)]
theorem pinA_p {x : Int32} (h : ¬ x = nI 0) : pinA x = x - 1 := by unfold pinA; rw [if_neg (fun q => h (q.trans nI_0.symm))]
/-- how many of the first are tied to it -/
def dgN (row : Nat → Int32) (u : Nat) : Nat → Nat
  | 0 => 0
  | k + 1 => dgN row u k + tdd row u k
theorem dgN_8 (row : Nat → Int32) (u : Nat) : dgN row u 8 = deg row u := by
  show 0 + tdd row u 0 + tdd row u 1 + tdd row u 2 + tdd row u 3 + tdd row u 4 + tdd row u 5 + tdd row u 6 + tdd row u 7 = _
  unfold deg
  omega
theorem dgN_le (row : Nat → Int32) (u : Nat) : ∀ k, dgN row u k ≤ k
  | 0 => Nat.le_refl _
  | k + 1 => by
    have := dgN_le row u k
    have := tdd_le row u k
    show dgN row u k + tdd row u k ≤ k + 1
    omega
theorem dgN_off {row : Nat → Int32} {u n : Nat} (h : ∀ v, n ≤ v → v < 8 → tdd row u v = 0) : ∀ k, n + k ≤ 8 → dgN row u (n + k) = dgN row u n
  | 0, _ => rfl
  | k + 1, hk => by
    show dgN row u (n + k) + tdd row u (n + k) = _
    rw [dgN_off h k (by omega), h (n + k) (by omega) (by omega), Nat.add_zero]
theorem dgN_n {row : Nat → Int32} {u n : Nat} (hn : n ≤ 8) (h : ∀ v, n ≤ v → v < 8 → tdd row u v = 0) : dgN row u n = deg row u := by
  rw [← dgN_8, ← dgN_off h (8 - n) (by omega)]
  congr 1
  omega
end AN
/-! tables, entry by entry -/
theorem wr.ent {n : Nat} {mm : Nat → Nat} {row : Nat → Int32} (hw : wr n mm row) {u v i j : Nat} (hu : u < n) (hv : v < n) (huv : u ≠ v) (hi : i < mm u) (hj : j < mm v) (ht : 0 < row (eA u v 0 0)) : ∃ f, f ≤ 9 ∧ row (eA u v i j) = nI (f + 1) := by
  by_cases hl : u < v
  · exact hw.2.2.2.1 u v i j hl hv hi hj ht
  · rw [eA_sym 0 0 huv] at ht
    rw [eA_sym i j huv]
    exact hw.2.2.2.1 v u j i (by omega) hu hj hi ht
theorem in64 {x : Int32} {a b : Int64} (lo hi : Nat) (ha : (nI lo).toInt64 = a) (hb : (nI hi).toInt64 = b) : (a ≤ x.toInt64 ∧ x.toInt64 ≤ b) ↔ (nI lo ≤ x ∧ x ≤ nI hi) := by rw [← ha, ← hb, wide_le, wide_le]
/-- a place of the block, by its entry -/
theorem blk_at {u v x : Nat} (huv : u ≠ v) (h : bk (pmin u v) (pmax u v) ≤ x ∧ x < bk (pmin u v) (pmax u v) + 16) : ∃ i j, i < 4 ∧ j < 4 ∧ x = eA u v i j := by
  rcases pmm_or u v with ⟨hl, e1, e2⟩ | ⟨hl, e1, e2⟩
  · rw [e1, e2] at h
    refine ⟨(x - bk u v) / 4, (x - bk u v) % 4, by omega, by omega, ?_⟩
    rw [eA_bk hl]
    omega
  · rw [e1, e2] at h
    refine ⟨(x - bk v u) % 4, (x - bk v u) / 4, by omega, by omega, ?_⟩
    rw [eA_sym _ _ huv, eA_bk (by omega)]
    omega
theorem blk_in {u v i j : Nat} (huv : u ≠ v) (hi : i < 4) (hj : j < 4) : bk (pmin u v) (pmax u v) ≤ eA u v i j ∧ eA u v i j < bk (pmin u v) (pmax u v) + 16 := by
  rcases pmm_or u v with ⟨hl, e1, e2⟩ | ⟨hl, e1, e2⟩
  · rw [e1, e2, eA_bk hl]; omega
  · rw [e1, e2, eA_sym _ _ huv, eA_bk (by omega)]; omega
theorem loo_fin {f f0 : Nat → Int32} {u v : Nat} (huv : u ≠ v) (h1 : ∀ q, q < 16 → f (eA u v (q / 4) (q % 4)) = 0) (h2 : ∀ x, (∀ q, q < 16 → x ≠ eA u v (q / 4) (q % 4)) → f x = f0 x) : f = looR f0 (pmin u v) (pmax u v) := by
  funext x
  unfold looR
  by_cases hb : bk (pmin u v) (pmax u v) ≤ x ∧ x < bk (pmin u v) (pmax u v) + 16
  · rw [if_pos hb]
    obtain ⟨i, j, hi, hj, rfl⟩ := blk_at huv hb
    have := h1 (4 * i + j) (by omega)
    rw [show (4 * i + j) / 4 = i by omega, show (4 * i + j) % 4 = j by omega] at this
    exact this
  · rw [if_neg hb]
    exact h2 x (fun q hq e => hb (by rw [e]; exact blk_in huv (by omega) (by omega)))
theorem back_fin {f f0 f1 : Nat → Int32} {u v : Nat} (huv : u ≠ v) (h1 : ∀ q, q < 16 → f (eA u v (q / 4) (q % 4)) = f0 (eA u v (q / 4) (q % 4))) (h2 : ∀ x, (∀ q, q < 16 → x ≠ eA u v (q / 4) (q % 4)) → f x = f1 x) (h3 : f1 = looR f0 (pmin u v) (pmax u v)) : f = f0 := by
  funext x
  by_cases hb : bk (pmin u v) (pmax u v) ≤ x ∧ x < bk (pmin u v) (pmax u v) + 16
  · obtain ⟨i, j, hi, hj, rfl⟩ := blk_at huv hb
    have := h1 (4 * i + j) (by omega)
    rw [show (4 * i + j) / 4 = i by omega, show (4 * i + j) % 4 = j by omega] at this
    exact this
  · rw [h2 x (fun q hq e => hb (by rw [e]; exact blk_in huv (by omega) (by omega))), h3]
    exact if_neg hb
theorem one_fin {f f0 : Nat → Int32} {mm : Nat → Nat} {u v : Nat} (huv : u ≠ v) (hu : mm u ≤ 4) (hv : mm v ≤ 4) (hv1 : 1 ≤ mm v) (h1 : ∀ q, q < mm u * mm v → f (eA u v (q / mm v) (q % mm v)) = 1) (h2 : ∀ x, (∀ q, q < mm u * mm v → x ≠ eA u v (q / mm v) (q % mm v)) → f x = f0 x) : f = oneR mm f0 (pmin u v) (pmax u v) := by
  funext x
  unfold oneR
  by_cases hb : bk (pmin u v) (pmax u v) ≤ x ∧ x < bk (pmin u v) (pmax u v) + 16 ∧ (x - bk (pmin u v) (pmax u v)) / 4 < mm (pmin u v) ∧ (x - bk (pmin u v) (pmax u v)) % 4 < mm (pmax u v)
  · rw [if_pos hb]
    obtain ⟨i, j, hi, hj, rfl⟩ : ∃ i j, i < mm u ∧ j < mm v ∧ x = eA u v i j := by
      rcases pmm_or u v with ⟨hl, e1, e2⟩ | ⟨hl, e1, e2⟩
      · rw [e1, e2] at hb
        refine ⟨(x - bk u v) / 4, (x - bk u v) % 4, by omega, by omega, ?_⟩
        rw [eA_bk hl]
        omega
      · rw [e1, e2] at hb
        refine ⟨(x - bk v u) % 4, (x - bk v u) / 4, by omega, by omega, ?_⟩
        rw [eA_sym _ _ huv, eA_bk (by omega)]
        omega
    have hq : i * mm v + j < mm u * mm v := by
      have : (i + 1) * mm v ≤ mm u * mm v := Nat.mul_le_mul_right _ hi
      rw [Nat.add_mul] at this
      omega
    have := h1 (i * mm v + j) hq
    rw [show (i * mm v + j) / mm v = i by rw [Nat.mul_comm, Nat.mul_add_div (by omega), Nat.div_eq_of_lt hj, Nat.add_zero], show (i * mm v + j) % mm v = j by rw [Nat.mul_comm, Nat.mul_add_mod, Nat.mod_eq_of_lt hj]] at this
    exact this
  · rw [if_neg hb]
    refine h2 x (fun q hq e => hb ?_)
    obtain ⟨m1, m2⟩ := dm_lt hv1 hq
    have hin := blk_in huv (i := q / mm v) (j := q % mm v) (by omega) (by omega)
    rw [e]
    refine ⟨hin.1, hin.2, ?_⟩
    have key : ∀ i j, i < mm u → j < mm v → (eA u v i j - bk (pmin u v) (pmax u v)) / 4 < mm (pmin u v) ∧ (eA u v i j - bk (pmin u v) (pmax u v)) % 4 < mm (pmax u v) := by
      intro i j hi hj
      rcases pmm_or u v with ⟨hl, e1, e2⟩ | ⟨hl, e1, e2⟩
      · rw [e1, e2, eA_bk hl]
        omega
      · rw [e1, e2, eA_sym _ _ huv, eA_bk (by omega)]
        omega
    exact key _ _ m1 m2
theorem in_m1 {x : Int32} {m : Nat} (hm : m ≤ 4) : ((-1 : Int64) ≤ x.toInt64 ∧ x.toInt64 ≤ (nI m - nI 1).toInt64) ↔ (x = (-1) ∨ ∃ k, k < m ∧ x = nI k) := by
  constructor
  · rintro ⟨h1, h2⟩
    by_cases hx : x < 0
    · left
      rw [Int64.le_iff_toInt_le, Int32.toInt_toInt64, show ((-1 : Int64)).toInt = -1 from by decide +kernel] at h1
      rw [Int32.lt_iff_toInt_lt, Int32.toInt_zero] at hx
      apply Int32.toInt_inj.mp
      rw [show ((-1 : Int32)).toInt = -1 from by decide +kernel]
      omega
    · right
      refine (in_lt (x := x) (n := m) (by omega)).mp ⟨?_, h2⟩
      rw [Int64.le_iff_toInt_le, Int32.toInt_toInt64, show ((0 : Int64)).toInt = 0 from by decide +kernel]
      rw [Int32.lt_iff_toInt_lt, Int32.toInt_zero] at hx
      omega
  · rintro (rfl | ⟨k, hk, rfl⟩)
    · refine ⟨by decide +kernel, ?_⟩
      match m, hm with
      | 0, _ => decide +kernel
      | 1, _ => decide +kernel
      | 2, _ => decide +kernel
      | 3, _ => decide +kernel
      | 4, _ => decide +kernel
      | m + 5, h => exact absurd h (by omega)
    · have h := (in_lt (x := nI k) (n := m) (by omega)).mpr ⟨k, hk, rfl⟩
      refine ⟨Int64.le_trans (by decide +kernel) h.1, h.2⟩
/-- an act of pinning, told by any number that may be told -/
theorem acPin_any {n : Nat} {mm : Nat → Nat} {row : Nat → Int32} {x2 : Int32} {u t : Nat} (hn : n ≤ 8) (hu : u < n) (hm : mm u ≤ 4) (ht : t ≤ 4) (et : row (40 + u) = nI t) (hx : x2 = (-1) ∨ ∃ k, k < mm u ∧ x2 = nI k) : ∃ p, acPin n mm row (nI u) x2 = pinO row u p ∧ (row (40 + u) - 1 = x2 ↔ row (40 + u) = nI p) ∧ x2 + 1 = nI p ∧ p ≤ mm u := by
  rcases hx with rfl | ⟨k, hk, rfl⟩
  · exact ⟨0, acPin_0 (ndO_some hn hu) rfl, pin_eq0 ht et, by decide +kernel, Nat.zero_le _⟩
  · refine ⟨k + 1, acPin_i (ndO_some hn hu) ?_ (ndO_some (by omega) hk), pin_eqi ht et (by omega), by rw [← n01, nI_add], hk⟩
    intro e
    have h1 := nI_toInt (n := k) (by omega)
    rw [e, show ((-1 : Int32)).toInt = -1 from by decide +kernel] at h1
    omega
theorem acPin_nn {n : Nat} {mm : Nat → Nat} {row : Nat → Int32} {x2 : Int32} {u : Nat} (hn : n ≤ 8) (hu : u < n) (hm : mm u ≤ 4) (hx : ¬ (x2 = (-1) ∨ ∃ k, k < mm u ∧ x2 = nI k)) : acPin n mm row (nI u) x2 = (-1, none) := acPin_c (ndO_some hn hu) (fun e => hx (Or.inl e)) (ndO_none (by omega) (fun e => hx (Or.inr e)))
/-! an act's row is a row -/
section AW
variable {n : Nat} {mm : Nat → Nat} {row row' : Nat → Int32} {x x1 x2 x3 x4 x5 : Int32}
theorem chO_inv {u i : Nat} (hn : n ≤ 8) (hm : ∀ u, u < n → mm u ≤ 4) (h : chO n mm x1 x2 = some (u, i)) : u < n ∧ i < mm u := by
  unfold chO at h
  cases h1 : ndO n x1 with
  | none => rw [h1] at h; cases h
  | some u' =>
    rw [h1] at h
    simp only at h
    obtain ⟨hu, -⟩ := ndO_inv hn h1
    cases h2 : ndO (mm u') x2 with
    | none => rw [h2] at h; cases h
    | some i' =>
      rw [h2] at h
      cases h
      exact ⟨hu, (ndO_inv (by have := hm u hu; omega) h2).1⟩
theorem in_c {lo hi : Nat} (hhi : hi < 2147483648) (h : nI lo ≤ x ∧ x ≤ nI hi) (h0 : lo = 0) : ∃ c, c ≤ hi ∧ x = nI c := by
  subst h0
  obtain ⟨j, hj, rfl⟩ := nI_of (x := x) (Int32.not_lt.mpr (by rw [← nI_0]; exact h.1))
  exact ⟨j, (nI_leI hj hhi).mp h.2, rfl⟩
theorem acPrice_wr (hw : wr n mm row) (h : acPrice n mm row x1 x2 x3 = (x, some row')) : wr n mm row' := by
  cases hc : chO n mm x1 x2 with
  | none => rw [acPrice_n hc] at h; cases h
  | some p =>
    obtain ⟨u, i⟩ := p
    obtain ⟨hu, hi⟩ := chO_inv hw.1.1 (fun u hu => (hw.1.2 u hu).2) hc
    by_cases h3 : nI 0 ≤ x3 ∧ x3 ≤ nI 99
    · by_cases he : row (4 * u + i) = x3
      · rw [acPrice_s hc h3 he] at h; cases h
      · rw [acPrice_d hc h3 he] at h
        cases h
        obtain ⟨c, hc9, rfl⟩ := in_c (by decide) h3 rfl
        exact hw.own hu hi hc9
    · rw [acPrice_c hc h3] at h; cases h
theorem acRename_wr (hw : wr n mm row) (h : acRename n row x1 x2 = (x, some row')) : wr n mm row' := by
  cases hc : ndO n x1 with
  | none => rw [acRename_n hc] at h; cases h
  | some u =>
    obtain ⟨hu, -⟩ := ndO_inv hw.1.1 hc
    by_cases h3 : nI 0 ≤ x2 ∧ x2 ≤ nI 3
    · by_cases he : row (32 + u) = x2
      · rw [acRename_s hc h3 he] at h; cases h
      · rw [acRename_d hc h3 he] at h
        cases h
        obtain ⟨c, hc9, rfl⟩ := in_c (by decide) h3 rfl
        exact hw.kind hu hc9
    · rw [acRename_c hc h3] at h; cases h
theorem pinO_wr (hw : wr n mm row) {u p : Nat} (hu : u < n) (hp : p ≤ mm u) (h : pinO row u p = (x, some row')) : wr n mm row' := by
  by_cases he : row (40 + u) = nI p
  · rw [pinO_s he] at h; cases h
  · rw [pinO_d he] at h
    cases h
    exact hw.pin hu hp
theorem acPin_wr (hw : wr n mm row) (h : acPin n mm row x1 x2 = (x, some row')) : wr n mm row' := by
  cases hc : ndO n x1 with
  | none => rw [acPin_n hc] at h; cases h
  | some u =>
    obtain ⟨hu, -⟩ := ndO_inv hw.1.1 hc
    have h4 := (hw.1.2 u hu).2
    by_cases h2 : x2 = -1
    · rw [acPin_0 hc h2] at h
      exact pinO_wr hw hu (Nat.zero_le _) h
    · cases h3 : ndO (mm u) x2 with
      | none => rw [acPin_c hc h2 h3] at h; cases h
      | some i =>
        rw [acPin_i hc h2 h3] at h
        exact pinO_wr hw hu (ndO_inv (by omega) h3).1 h
theorem wr.ent2 (hw : wr n mm row) {u v i j c : Nat} (huv : u ≠ v) (hu : u < n) (hv : v < n) (hi : i < mm u) (hj : j < mm v) (ht : 0 < row (eA u v 0 0)) (hc : c ≤ 9) : wr n mm (upd row (eA u v i j) (nI (c + 1))) := by
  by_cases hl : u < v
  · exact hw.entry hl hv hi hj ht hc
  · rw [eA_sym 0 0 huv] at ht
    rw [eA_sym i j huv]
    exact hw.entry (by omega) hu hj hi ht hc
theorem acTable_wr (hw : wr n mm row) (h : acTable n mm row x1 x2 x3 x4 x5 = (x, some row')) : wr n mm row' := by
  have h8 := hw.1.1
  have hm : ∀ u, u < n → mm u ≤ 4 := fun u hu => (hw.1.2 u hu).2
  by_cases h0 : x1 = x2
  · rw [acTable_e h0] at h; cases h
  · cases h1 : chO n mm x1 x3 with
    | none => rw [acTable_1 h0 h1] at h; cases h
    | some p =>
      obtain ⟨u, i⟩ := p
      obtain ⟨hu, hi⟩ := chO_inv h8 hm h1
      cases h2 : chO n mm x2 x4 with
      | none => rw [acTable_2 h0 h1 h2] at h; cases h
      | some q =>
        obtain ⟨v, j⟩ := q
        obtain ⟨hv, hj⟩ := chO_inv h8 hm h2
        have huv : u ≠ v := by
          intro e
          subst e
          apply h0
          unfold chO at h1 h2
          cases k1 : ndO n x1 with
          | none => rw [k1] at h1; cases h1
          | some u1 =>
            cases k2 : ndO n x2 with
            | none => rw [k2] at h2; cases h2
            | some u2 =>
              rw [k1] at h1
              rw [k2] at h2
              simp only at h1 h2
              cases k3 : ndO (mm u1) x3 with
              | none => rw [k3] at h1; cases h1
              | some i1 =>
                cases k4 : ndO (mm u2) x4 with
                | none => rw [k4] at h2; cases h2
                | some i2 =>
                  rw [k3] at h1
                  rw [k4] at h2
                  cases h1
                  cases h2
                  rw [(ndO_inv h8 k1).2, (ndO_inv h8 k2).2]
        by_cases h5 : nI 0 ≤ x5 ∧ x5 ≤ nI 9
        · rw [acTable_o h0 h1 h2 h5] at h
          obtain ⟨c, hc9, rfl⟩ := in_c (by decide) h5 rfl
          have e1 : nI c + 1 = nI (c + 1) := by rw [← n01, nI_add]
          by_cases ht : 0 < row (eA u v 0 0)
          · by_cases he : row (eA u v i j) - 1 = nI c
            · rw [tabO_s ht he] at h; cases h
            · rw [tabO_d ht he] at h
              cases h
              rw [e1]
              exact hw.ent2 huv hu hv hi hj ht hc9
          · by_cases he : tsN row 28 = 12
            · rw [tabO_f ht he] at h; cases h
            · rw [tabO_n ht he] at h
              cases h
              rw [e1]
              have hone : wr n mm (oneR mm row (pmin u v) (pmax u v)) := hw.one (pmm huv) (by unfold pmax; split <;> omega) he
              refine hone.ent2 huv hu hv hi hj ?_ hc9
              have hu1 := (hw.1.2 u hu).1
              have hv1 := (hw.1.2 v hv).1
              have : oneR mm row (pmin u v) (pmax u v) (eA u v 0 0) = 1 := by
                rcases pmm_or u v with ⟨hl, k1, k2⟩ | ⟨hl, k1, k2⟩
                · rw [k1, k2]; exact oneR_at hl (by omega) (by omega) (by omega) (by omega)
                · rw [k1, k2, eA_sym 0 0 huv]; exact oneR_at (by omega) (by omega) (by omega) (by omega) (by omega)
              rw [this]
              decide
        · rw [acTable_5 h0 h1 h2 h5] at h; cases h
theorem acLoose_wr (hw : wr n mm row) (h : acLoose n row x1 x2 = some row') : wr n mm row' := by
  cases h1 : ndO n x1 with
  | none => rw [acLoose_1 h1] at h; cases h
  | some u =>
    cases h2 : ndO n x2 with
    | none => rw [acLoose_2 h2] at h; cases h
    | some v =>
      obtain ⟨hu, -⟩ := ndO_inv hw.1.1 h1
      obtain ⟨hv, -⟩ := ndO_inv hw.1.1 h2
      by_cases h3 : u ≠ v ∧ 0 < row (eA u v 0 0)
      · rw [acLoose_d h1 h2 h3] at h
        cases h
        exact hw.loo (pmm h3.1) (by unfold pmax; split <;> omega)
      · rw [acLoose_n h1 h2 h3] at h; cases h
/-- the row up to 500, the choices of the nodes alone -/
theorem wr.cg {mm' : Nat → Nat} (hw : wr n mm row) (hm : ∀ u, u < n → mm' u = mm u) (hr : ∀ k, k < 500 → row' k = row k) : wr n mm' row' := by
  have h8 := hw.1.1
  refine ⟨⟨h8, fun u hu => by rw [hm u hu]; exact hw.1.2 u hu⟩, fun u hu => ?_, fun u v h1 h2 h3 => ?_, fun u v i j h1 h2 h3 h4 h5 => ?_, ?_⟩
  · have := (hw.1.2 u hu).2
    obtain ⟨b1, b2, b3⟩ := hw.2.1 u hu
    rw [hr _ (by omega), hr _ (by omega), hm u hu]
    exact ⟨b1, b2, fun i hi => by rw [hr _ (by omega)]; exact b3 i hi⟩
  · rw [hr _ (eA_lt (by omega) h2 (by omega) (by omega) (by omega))]; exact hw.2.2.1 u v h1 h2 h3
  · rw [hm u (by omega)] at h3
    rw [hm v h2] at h4
    have := (hw.1.2 u (by omega)).2
    have := (hw.1.2 v h2).2
    rw [hr _ (eA_lt (by omega) (by omega) (by omega) (by omega) (by omega))] at h5 ⊢
    exact hw.2.2.2.1 u v i j h1 h2 h3 h4 h5
  · rw [tsN_congr (row' := row) (fun q hq => hr _ (by omega))]; exact hw.2.2.2.2
end AW
theorem rd_no_not {c : Nat → Int32} {t n : Nat} {mm : Nat → Nat} {row : Nat → Int32} (h : (∃ b, rd_text c t = .inl b) ∨ ∃ mmr row, rd_text c t = .inr (0, mmr, row)) (h2 : rd_text c t = .inr (n, mm, row)) (hn : 0 < n) : False := by
  rcases h with ⟨b, e⟩ | ⟨mm', row', e⟩
  · rw [e] at h2; cases h2
  · rw [e] at h2; cases h2; omega
theorem nar_char : ∀ w, w < 127 → vp_nar .char (((nI w).toUInt32 % 65536).toInt32) = nI w := by decide +kernel
theorem nar_in {x : Int32} (h : nI 32 ≤ x ∧ x ≤ nI 126) : vp_nar .char ((x.toUInt32 % 65536).toInt32) = x := by
  obtain ⟨h1, h2⟩ := h
  obtain ⟨j, hj, rfl⟩ := nI_of (x := x) (fun h3 => by
    rw [Int32.lt_iff_toInt_lt, Int32.toInt_zero] at h3
    rw [Int32.le_iff_toInt_le, nI_toInt (by omega)] at h1
    omega)
  rw [nI_leI hj (by omega)] at h2
  exact nar_char j (by omega)
