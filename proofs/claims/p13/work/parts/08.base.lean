/-! rows over numbers that are nI of a Nat; small facts -/
section MJN
variable {g : mj_G} {y : mj_Y} {d pc : Nat} {lv : List (Nat × Value)} {st : List Value} {F A : mj_S} {Q : Option Value → mj_S → mj_S → Prop}
theorem j_top {x y0 : Int32} (h : x = y0) (k : J g y d pc lv (.int y0 :: st) F A Q) : J g y d pc lv (.int x :: st) F A Q := by rw [h]; exact k
theorem j_F {F' : mj_S} (h : F = F') (k : J g y d pc lv st F' A Q) : J g y d pc lv st F A Q := by rw [h]; exact k
theorem j_A {A' : mj_S} (h : A = A') (k : J g y d pc lv st F A' Q) : J g y d pc lv st F A Q := by rw [h]; exact k
theorem j_iaddN {a b : Nat} (hd : decode y.2.1 pc = .ok (.iadd, 1)) (k : J g y d (pc + 1) lv (.int (nI (a + b)) :: st) F A Q) : J g y d pc lv (.int (nI b) :: .int (nI a) :: st) F A Q := j_iadd hd (j_top (nI_add a b) k)
theorem j_imulN {a b : Nat} (hd : decode y.2.1 pc = .ok (.imul, 1)) (k : J g y d (pc + 1) lv (.int (nI (a * b)) :: st) F A Q) : J g y d pc lv (.int (nI b) :: .int (nI a) :: st) F A Q := j_imul hd (j_top (pk_mul a b) k)
theorem j_isubN {a b : Nat} (hd : decode y.2.1 pc = .ok (.isub, 1)) (h : b ≤ a) (k : J g y d (pc + 1) lv (.int (nI (a - b)) :: st) F A Q) : J g y d pc lv (.int (nI b) :: .int (nI a) :: st) F A Q := j_isub hd (j_top (pk_sub h) k)
theorem j_idivN {a b : Nat} (hd : decode y.2.1 pc = .ok (.idiv, 1)) (ha : a < 2147483648) (h0 : 0 < b) (hb : b < 2147483648) (k : J g y d (pc + 1) lv (.int (nI (a / b)) :: st) F A Q) : J g y d pc lv (.int (nI b) :: .int (nI a) :: st) F A Q := j_idiv hd (nI_ne0 h0 hb) (j_top (pk_div ha h0 hb) k)
theorem j_iremN {a b : Nat} (hd : decode y.2.1 pc = .ok (.irem, 1)) (ha : a < 2147483648) (h0 : 0 < b) (hb : b < 2147483648) (k : J g y d (pc + 1) lv (.int (nI (a % b)) :: st) F A Q) : J g y d pc lv (.int (nI b) :: .int (nI a) :: st) F A Q := j_irem hd (nI_ne0 h0 hb) (j_top (pk_rem ha h0 hb) k)
theorem mj_dec {a : Nat} (h : 0 < a) : nI a + Int32.ofInt (-1) = nI (a - 1) := by
  obtain ⟨b, rfl⟩ : ∃ b, a = b + 1 := ⟨a - 1, by omega⟩
  exact pk_m1 b
theorem j_ialdN {b n i : Nat} {z : Nat → Int32} (hd : decode y.2.1 pc = .ok (.iaload, 1)) (hb : b < (mj_n g)) (hsh : mj_sh g b = .inl (0, n, .inl z)) (hi : i < n) (hn : n < 2147483648) (k : J g y d (pc + 1) lv (.int (A b i) :: st) F A Q) : J g y d pc lv (.int (nI i) :: .ref b :: st) F A Q :=
  j_iald hd hb hsh (vp_in_nI hi hn) (by rw [nI_clamp (Nat.lt_trans hi hn)]; exact k)
theorem j_caldN {b n i : Nat} {z : Nat → Int32} (hd : decode y.2.1 pc = .ok (.caload, 1)) (hb : b < (mj_n g)) (hsh : mj_sh g b = .inl (1, n, .inl z)) (hi : i < n) (hn : n < 2147483648) (k : J g y d (pc + 1) lv (.int (A b i) :: st) F A Q) : J g y d pc lv (.int (nI i) :: .ref b :: st) F A Q :=
  j_cald hd hb hsh (vp_in_nI hi hn) (by rw [nI_clamp (Nat.lt_trans hi hn)]; exact k)
theorem j_iastN {b n i : Nat} {z : Nat → Int32} {x : Int32} (hd : decode y.2.1 pc = .ok (.iastore, 1)) (hb : b < (mj_n g)) (hsh : mj_sh g b = .inl (0, n, .inl z)) (hi : i < n) (hn : n < 2147483648) (k : J g y d (pc + 1) lv st F (mj_u A b i x) Q) : J g y d pc lv (.int x :: .int (nI i) :: .ref b :: st) F A Q :=
  j_iast hd hb hsh (vp_in_nI hi hn) (by rw [nI_clamp (Nat.lt_trans hi hn)]; exact k)
theorem j_castN {b n i : Nat} {z : Nat → Int32} {x : Int32} (hd : decode y.2.1 pc = .ok (.castore, 1)) (hb : b < (mj_n g)) (hsh : mj_sh g b = .inl (1, n, .inl z)) (hi : i < n) (hn : n < 2147483648) (k : J g y d (pc + 1) lv st F (mj_u A b i (vp_nar .char x)) Q) : J g y d pc lv (.int x :: .int (nI i) :: .ref b :: st) F A Q :=
  j_cast hd hb hsh (vp_in_nI hi hn) (by rw [nI_clamp (Nat.lt_trans hi hn)]; exact k)
theorem j_aaldN {b n i : Nat} {z : Nat → Option Nat} (hd : decode y.2.1 pc = .ok (.aaload, 1)) (hb : b < (mj_n g)) (hsh : mj_sh g b = .inl (2, n, .inr (.inr (.inr (.inr z))))) (hi : i < n) (hn : n < 2147483648) {r : Nat} (hr : A b i = nI r) (hr2 : r < 2147483648) (k : J g y d (pc + 1) lv (.ref r :: st) F A Q) : J g y d pc lv (.int (nI i) :: .ref b :: st) F A Q :=
  j_aald hd hb hsh (vp_in_nI hi hn) (by rw [nI_clamp (Nat.lt_trans hi hn), hr, nI_clamp hr2]; exact k)
theorem j_aastN {b n i r : Nat} {z : Nat → Option Nat} {ts : List Value} (hd : decode y.2.1 pc = .ok (.aastore, 1)) (hb : b < (mj_n g)) (hsh : mj_sh g b = .inl (2, n, .inr (.inr (.inr (.inr z))))) (hr : r < (mj_n g)) (hr2 : r < 2147483648) (hsr : mj_sh g r = .inr (0, ts)) (hi : i < n) (hn : n < 2147483648) (k : J g y d (pc + 1) lv st F (mj_u A b i (nI r)) Q) : J g y d pc lv (.ref r :: .int (nI i) :: .ref b :: st) F A Q :=
  j_aast hd hb hsh hr hr2 hsr (vp_in_nI hi hn) (by rw [nI_clamp (Nat.lt_trans hi hn)]; exact k)
theorem j_icmp_eqN {a b : Nat} {off : Int} {tgt : Nat} (hd : decode y.2.1 pc = .ok (.if_icmp .eq off, 3)) (ht : (pc : Int) + off = (tgt : Int)) (ha : a < 2147483648) (hb : b < 2147483648) (kt : a = b → J g y d tgt lv st F A Q) (kf : a ≠ b → J g y d (pc + 3) lv st F A Q) : J g y d pc lv (.int (nI b) :: .int (nI a) :: st) F A Q := j_icmp_eq hd ht (fun h => kt ((nI_eq ha hb).mp h)) (fun h => kf (fun e => h (by rw [e])))
theorem j_icmp_neN {a b : Nat} {off : Int} {tgt : Nat} (hd : decode y.2.1 pc = .ok (.if_icmp .ne off, 3)) (ht : (pc : Int) + off = (tgt : Int)) (ha : a < 2147483648) (hb : b < 2147483648) (kt : a ≠ b → J g y d tgt lv st F A Q) (kf : a = b → J g y d (pc + 3) lv st F A Q) : J g y d pc lv (.int (nI b) :: .int (nI a) :: st) F A Q := j_icmp_ne hd ht (fun h => kt (fun e => h (by rw [e]))) (fun h => kf ((nI_eq ha hb).mp h))
theorem j_icmp_ltN {a b : Nat} {off : Int} {tgt : Nat} (hd : decode y.2.1 pc = .ok (.if_icmp .lt off, 3)) (ht : (pc : Int) + off = (tgt : Int)) (ha : a < 2147483648) (hb : b < 2147483648) (kt : a < b → J g y d tgt lv st F A Q) (kf : b ≤ a → J g y d (pc + 3) lv st F A Q) : J g y d pc lv (.int (nI b) :: .int (nI a) :: st) F A Q := j_icmp_lt hd ht (fun h => kt ((nI_ltI ha hb).mp h)) (fun h => kf (Nat.not_lt.mp fun e => h ((nI_ltI ha hb).mpr e)))
theorem j_icmp_geN {a b : Nat} {off : Int} {tgt : Nat} (hd : decode y.2.1 pc = .ok (.if_icmp .ge off, 3)) (ht : (pc : Int) + off = (tgt : Int)) (ha : a < 2147483648) (hb : b < 2147483648) (kt : b ≤ a → J g y d tgt lv st F A Q) (kf : a < b → J g y d (pc + 3) lv st F A Q) : J g y d pc lv (.int (nI b) :: .int (nI a) :: st) F A Q := j_icmp_ge hd ht (fun h => kt ((nI_leI hb ha).mp h)) (fun h => kf (Nat.not_le.mp fun e => h ((nI_leI hb ha).mpr e)))
theorem j_icmp_gtN {a b : Nat} {off : Int} {tgt : Nat} (hd : decode y.2.1 pc = .ok (.if_icmp .gt off, 3)) (ht : (pc : Int) + off = (tgt : Int)) (ha : a < 2147483648) (hb : b < 2147483648) (kt : b < a → J g y d tgt lv st F A Q) (kf : a ≤ b → J g y d (pc + 3) lv st F A Q) : J g y d pc lv (.int (nI b) :: .int (nI a) :: st) F A Q := j_icmp_gt hd ht (fun h => kt ((nI_ltI hb ha).mp h)) (fun h => kf (Nat.not_lt.mp fun e => h ((nI_ltI hb ha).mpr e)))
theorem j_icmp_leN {a b : Nat} {off : Int} {tgt : Nat} (hd : decode y.2.1 pc = .ok (.if_icmp .le off, 3)) (ht : (pc : Int) + off = (tgt : Int)) (ha : a < 2147483648) (hb : b < 2147483648) (kt : a ≤ b → J g y d tgt lv st F A Q) (kf : b < a → J g y d (pc + 3) lv st F A Q) : J g y d pc lv (.int (nI b) :: .int (nI a) :: st) F A Q := j_icmp_le hd ht (fun h => kt ((nI_leI ha hb).mp h)) (fun h => kf (Nat.not_le.mp fun e => h ((nI_leI ha hb).mpr e)))
theorem j_if_eqN {a : Nat} {off : Int} {tgt : Nat} (hd : decode y.2.1 pc = .ok (.ifCond .eq off, 3)) (ht : (pc : Int) + off = (tgt : Int)) (ha : a < 2147483648) (kt : a = 0 → J g y d tgt lv st F A Q) (kf : 0 < a → J g y d (pc + 3) lv st F A Q) : J g y d pc lv (.int (nI a) :: st) F A Q := j_if_eq hd ht (fun h => kt ((nI_eq ha (by decide)).mp (h.trans nI_0.symm))) (fun h => kf (Nat.pos_of_ne_zero fun e => h (by rw [e]; exact nI_0)))
theorem j_if_neN {a : Nat} {off : Int} {tgt : Nat} (hd : decode y.2.1 pc = .ok (.ifCond .ne off, 3)) (ht : (pc : Int) + off = (tgt : Int)) (ha : a < 2147483648) (kt : 0 < a → J g y d tgt lv st F A Q) (kf : a = 0 → J g y d (pc + 3) lv st F A Q) : J g y d pc lv (.int (nI a) :: st) F A Q := j_if_ne hd ht (fun h => kt (Nat.pos_of_ne_zero fun e => h (by rw [e]; exact nI_0))) (fun h => kf ((nI_eq ha (by decide)).mp (h.trans nI_0.symm)))
theorem j_if_ltN {a : Nat} {off : Int} {tgt : Nat} (hd : decode y.2.1 pc = .ok (.ifCond .lt off, 3)) (ht : (pc : Int) + off = (tgt : Int)) (ha : a < 2147483648) (kt : False → J g y d tgt lv st F A Q) (kf : 0 ≤ a → J g y d (pc + 3) lv st F A Q) : J g y d pc lv (.int (nI a) :: st) F A Q := j_if_lt hd ht (fun h => absurd h (nI_pos ha)) (fun _ => kf (Nat.zero_le _))
theorem j_if_geN {a : Nat} {off : Int} {tgt : Nat} (hd : decode y.2.1 pc = .ok (.ifCond .ge off, 3)) (ht : (pc : Int) + off = (tgt : Int)) (ha : a < 2147483648) (kt : 0 ≤ a → J g y d tgt lv st F A Q) (kf : False → J g y d (pc + 3) lv st F A Q) : J g y d pc lv (.int (nI a) :: st) F A Q := j_if_ge hd ht (fun _ => kt (Nat.zero_le _)) (fun h => absurd (nI_pos' ha) h)
theorem j_if_gtN {a : Nat} {off : Int} {tgt : Nat} (hd : decode y.2.1 pc = .ok (.ifCond .gt off, 3)) (ht : (pc : Int) + off = (tgt : Int)) (ha : a < 2147483648) (kt : 0 < a → J g y d tgt lv st F A Q) (kf : a = 0 → J g y d (pc + 3) lv st F A Q) : J g y d pc lv (.int (nI a) :: st) F A Q := j_if_gt hd ht (fun h => kt (Nat.pos_of_ne_zero fun e => by rw [e, nI_0] at h; exact absurd h (by decide))) (fun h => kf (Nat.eq_zero_of_not_pos fun e => h (by rw [← nI_0]; exact nI_lt e ha)))
theorem j_if_leN {a : Nat} {off : Int} {tgt : Nat} (hd : decode y.2.1 pc = .ok (.ifCond .le off, 3)) (ht : (pc : Int) + off = (tgt : Int)) (ha : a < 2147483648) (kt : a = 0 → J g y d tgt lv st F A Q) (kf : 0 < a → J g y d (pc + 3) lv st F A Q) : J g y d pc lv (.int (nI a) :: st) F A Q := j_if_le hd ht (fun h => kt (Nat.eq_zero_of_not_pos fun e => nI_nle e ha h)) (fun h => kf (Nat.pos_of_ne_zero fun e => h (by rw [e, nI_0]; decide)))
end MJN
theorem mj_sw (x : Int32) {lo hi : Int} {n : Nat} (h : ¬ (x.toInt < lo ∨ hi < x.toInt)) (hn : hi = lo + (n : Int) - 1) : ∃ q : Nat, q < n ∧ x.toInt = lo + (q : Int) := ⟨(x.toInt - lo).toNat, by omega, by omega⟩
/-- the first n of f lie in 0 .. B -/
def rg (f : Nat → Int32) (n B : Nat) : Prop := ∀ j, j < n → ∃ t, t ≤ B ∧ f j = nI t
theorem rg_upd {f : Nat → Int32} {n B i t : Nat} (h : rg f n B) (ht : t ≤ B) : rg (upd f i (nI t)) n B := by
  intro j hj
  by_cases e : j = i
  · exact ⟨t, ht, by simp [upd, e]⟩
  · obtain ⟨t', h1, h2⟩ := h j hj
    exact ⟨t', h1, by simp [upd, e]; exact h2⟩
theorem rg_u {A : mj_S} {k n B i t : Nat} (h : rg (A k) n B) (ht : t ≤ B) : rg (mj_u A k i (nI t) k) n B := by rw [mj_u_at]; exact rg_upd h ht
theorem nI_lit {x : Int32} {n : Nat} (h : x = nI n) : x = nI n := h
theorem wide_le (a b : Int32) : a.toInt64 ≤ b.toInt64 ↔ a ≤ b := by
  rw [Int64.le_iff_toInt_le, Int32.toInt_toInt64, Int32.toInt_toInt64, ← Int32.le_iff_toInt_le]
theorem nz1 : ¬ (1 : Int32) = 0 := by decide
theorem n01 : nI 1 = 1 := by decide +kernel
theorem n00 : nI 0 = 0 := by decide +kernel
/-- nothing changed; the answer is an int with P -/
def qP (F A : mj_S) (P : Int32 → Prop) : Option Value → mj_S → mj_S → Prop := fun v F' A' => F = F' ∧ A = A' ∧ ∃ r, v = some (.int r) ∧ P r
/-- nothing changed; the answer is nI of a Nat with P -/
def qN (F A : mj_S) (P : Nat → Prop) : Option Value → mj_S → mj_S → Prop := fun v F' A' => F = F' ∧ A = A' ∧ ∃ r, v = some (.int (nI r)) ∧ P r
theorem lg_ge {a b : Int64} : ¬ lg_cmp a b < 0 ↔ b ≤ a := by
  unfold lg_cmp
  by_cases h : b < a
  · simp [h]; exact Int64.le_of_lt h
  · by_cases e : a = b
    · subst e; simp
    · simp [h, e]; exact Int64.lt_of_le_of_ne (Int64.not_lt.mp h) e
theorem lg_le {a b : Int64} : ¬ 0 < lg_cmp a b ↔ a ≤ b := by
  unfold lg_cmp
  by_cases h : b < a
  · simp [h]
  · by_cases e : a = b
    · subst e; simp
    · simp [h, e]; exact Int64.not_lt.mp h
theorem mj_nz {r : Nat} (h : r ≤ 1) : narrow .boolean (.int (nI r)) = .int (nI r) := by
  rcases (show r = 0 ∨ r = 1 by omega) with rfl | rfl <;> decide +kernel
theorem dn1 {x : Int32} {k : Nat} (h : x + 1 = nI k) (hk : 0 < k) : x = nI (k - 1) := by
  obtain ⟨b, rfl⟩ : ∃ b, k = b + 1 := ⟨k - 1, by omega⟩
  have h2 : x = x + 1 - 1 := (Int32.add_sub_cancel x 1).symm
  rw [h2, h]
  exact nI_pred b
theorem dn2 (k : Nat) : nI k + Int32.ofInt (-1) + 1 = nI k := by
  rw [Int32.add_assoc, show Int32.ofInt (-1) + 1 = 0 from by decide +kernel, Int32.add_zero]
theorem dn0 {x : Int32} (h : x + 1 = nI 0) : x < 0 := by
  have : x = -1 := by
    have h2 : x = x + 1 - 1 := (Int32.add_sub_cancel x 1).symm
    rw [h2, h]; decide +kernel
  rw [this]; decide +kernel
theorem dn3 {k : Nat} (h : 0 < k) : nI (k - 1) + 1 = nI k := by
  obtain ⟨b, rfl⟩ : ∃ b, k = b + 1 := ⟨k - 1, by omega⟩
  exact nI_1 b
theorem in_lt {x : Int32} {n : Nat} (hn : n < 1073741824) : ((0 : Int64) ≤ x.toInt64 ∧ x.toInt64 ≤ (nI n - nI 1).toInt64) ↔ ∃ j, j < n ∧ x = nI j := by
  rw [Int64.le_iff_toInt_le, Int64.le_iff_toInt_le, Int32.toInt_toInt64, Int32.toInt_toInt64, pk_sub_toInt hn (by omega), Int64.toInt_zero]
  constructor
  · intro h
    obtain ⟨j, hj, e⟩ := nI_of (x := x) (by rw [Int32.lt_iff_toInt_lt, Int32.toInt_zero]; omega)
    refine ⟨j, ?_, e⟩
    rw [e, nI_toInt hj] at h
    omega
  · rintro ⟨j, hj, rfl⟩
    rw [nI_toInt (by omega)]
    omega
def isC (n : Nat) (mm : Nat → Nat) (x y : Int32) : Prop := ∃ j k, j < n ∧ k < mm j ∧ x = nI j ∧ y = nI k
theorem isC_iff {n : Nat} {mm : Nat → Nat} (h8 : n ≤ 8) {j : Nat} (hj : j < n) {y : Int32} : isC n mm (nI j) y ↔ ∃ k, k < mm j ∧ y = nI k := by
  constructor
  · rintro ⟨j', k, h1, h2, h3, h4⟩
    obtain rfl := (nI_eq (by omega) (by omega)).mp h3
    exact ⟨k, h2, h4⟩
  · rintro ⟨k, h1, h2⟩
    exact ⟨j, k, hj, h1, rfl, h2⟩
