/-! the reference: the reduction -/
theorem MI.takes {L : Lg} {n : Nat} {mm : Nat → Nat} {rn : Nat} {rm : Nat → Nat} {un kn : Nat} {F A : mj_S} (h : MI L n mm rn rm un kn F A) : rg (A 14) 8 3 := h.2.2.2.2.2.1
theorem MI.same {L : Lg} {n : Nat} {mm : Nat → Nat} {rn : Nat} {rm : Nat → Nat} {un kn : Nat} {F A : mj_S} (h : MI L n mm rn rm un kn F A) : rg (A 16) 8 15 := h.2.2.2.2.2.2.1
theorem MI.tied {L : Lg} {n : Nat} {mm : Nat → Nat} {rn : Nat} {rm : Nat → Nat} {un kn : Nat} {F A : mj_S} (h : MI L n mm rn rm un kn F A) : rg (A 10) 8 255 := h.2.2.2.2.2.2.2.1
theorem MI.order {L : Lg} {n : Nat} {mm : Nat → Nat} {rn : Nat} {rm : Nat → Nat} {un kn : Nat} {F A : mj_S} (h : MI L n mm rn rm un kn F A) : rg (A 11) 8 7 := h.2.2.2.2.2.2.2.2.1
theorem MI.with' {L : Lg} {n : Nat} {mm : Nat → Nat} {rn : Nat} {rm : Nat → Nat} {un kn : Nat} {F A : mj_S} (h : MI L n mm rn rm un kn F A) : rg (A 13) 8 255 := h.2.2.2.2.2.2.2.2.2
theorem MI.s14 {L : Lg} {n : Nat} {mm : Nat → Nat} {rn : Nat} {rm : Nat → Nat} {un kn : Nat} {F A : mj_S} (h : MI L n mm rn rm un kn F A) (i : Nat) {t : Nat} (ht : t ≤ 3) : MI L n mm rn rm un kn F (mj_u A 14 i (nI t)) := ⟨h.1, h.2.1, h.2.2.1, h.2.2.2.1, h.2.2.2.2.1, rg_u h.takes ht, h.same, h.tied, h.order, h.with'⟩
theorem MI.s16 {L : Lg} {n : Nat} {mm : Nat → Nat} {rn : Nat} {rm : Nat → Nat} {un kn : Nat} {F A : mj_S} (h : MI L n mm rn rm un kn F A) (i : Nat) {t : Nat} (ht : t ≤ 15) : MI L n mm rn rm un kn F (mj_u A 16 i (nI t)) := ⟨h.1, h.2.1, h.2.2.1, h.2.2.2.1, h.2.2.2.2.1, h.takes, rg_u h.same ht, h.tied, h.order, h.with'⟩
theorem MI.s10 {L : Lg} {n : Nat} {mm : Nat → Nat} {rn : Nat} {rm : Nat → Nat} {un kn : Nat} {F A : mj_S} (h : MI L n mm rn rm un kn F A) (i : Nat) {t : Nat} (ht : t ≤ 255) : MI L n mm rn rm un kn F (mj_u A 10 i (nI t)) := ⟨h.1, h.2.1, h.2.2.1, h.2.2.2.1, h.2.2.2.2.1, h.takes, h.same, rg_u h.tied ht, h.order, h.with'⟩
theorem MI.s11 {L : Lg} {n : Nat} {mm : Nat → Nat} {rn : Nat} {rm : Nat → Nat} {un kn : Nat} {F A : mj_S} (h : MI L n mm rn rm un kn F A) (i : Nat) {t : Nat} (ht : t ≤ 7) : MI L n mm rn rm un kn F (mj_u A 11 i (nI t)) := ⟨h.1, h.2.1, h.2.2.1, h.2.2.2.1, h.2.2.2.2.1, h.takes, h.same, h.tied, rg_u h.order ht, h.with'⟩
theorem MI.s13 {L : Lg} {n : Nat} {mm : Nat → Nat} {rn : Nat} {rm : Nat → Nat} {un kn : Nat} {F A : mj_S} (h : MI L n mm rn rm un kn F A) (i : Nat) {t : Nat} (ht : t ≤ 255) : MI L n mm rn rm un kn F (mj_u A 13 i (nI t)) := ⟨h.1, h.2.1, h.2.2.1, h.2.2.2.1, h.2.2.2.2.1, h.takes, h.same, h.tied, h.order, rg_u h.with' ht⟩

/-- costs, tables, ties aside, as they are told -/
def MR (A : mj_S) (n : Nat) (mm : VF) (c : CF) (t : TF) (mk : VF) : Prop := (∀ u i, u < n → i < mm u → A 8 (4 * u + i) = nI (c u i)) ∧ (∀ u v i j, u < n → v < n → i < mm u → j < mm v → A 9 (128 * u + 16 * v + 4 * i + j) = nI (t u v i j)) ∧ ∀ u, u < n → A 10 u = nI (mk u)
theorem MR.c {A : mj_S} {n : Nat} {mm : VF} {c : CF} {t : TF} {mk : VF} (h : MR A n mm c t mk) {v j : Nat} (hm : ∀ j, mm j ≤ 4) (hj : j < mm v) (x : Nat) : MR (mj_u A 8 (4 * v + j) (nI x)) n mm (ucf c v j x) t mk := by
  refine ⟨fun u i hu hi => ?_, h.2.1, h.2.2⟩
  rw [mj_u_at]
  by_cases e : u = v ∧ i = j
  · obtain ⟨rfl, rfl⟩ := e
    rw [pk_us, ucf_at]
  · have := hm u
    have := hm v
    rw [pk_un (by omega), ucf_ne e]
    exact h.1 u i hu hi
theorem MR.t {A : mj_S} {n : Nat} {mm : VF} {c : CF} {t : TF} {mk : VF} (h : MR A n mm c t mk) {v w j k : Nat} (hn : n ≤ 8) (hm : ∀ j, mm j ≤ 4) (hv : v < n) (hw : w < n) (hj : j < mm v) (hk : k < mm w) (x : Nat) : MR (mj_u (mj_u A 9 (128 * v + 16 * w + 4 * j + k) (nI x)) 9 (128 * w + 16 * v + 4 * k + j) (nI x)) n mm c (utf t v w j k x) mk := by
  refine ⟨h.1, fun a b i i' ha hb hi hi' => ?_, h.2.2⟩
  have := hm a
  have := hm b
  have := hm v
  have := hm w
  rw [mj_u_at, mj_u_at]
  by_cases e1 : a = w ∧ b = v ∧ i = k ∧ i' = j
  · obtain ⟨rfl, rfl, rfl, rfl⟩ := e1
    rw [pk_us]
    unfold utf
    rw [if_pos (Or.inr ⟨rfl, rfl, rfl, rfl⟩)]
  · rw [pk_un (by omega)]
    by_cases e2 : a = v ∧ b = w ∧ i = j ∧ i' = k
    · obtain ⟨rfl, rfl, rfl, rfl⟩ := e2
      rw [pk_us]
      unfold utf
      rw [if_pos (Or.inl ⟨rfl, rfl, rfl, rfl⟩)]
    · rw [pk_un (by omega)]
      unfold utf
      rw [if_neg (by omega)]
      exact h.2.1 a b i i' ha hb hi hi'
theorem MR.m {A : mj_S} {n : Nat} {mm : VF} {c : CF} {t : TF} {mk : VF} (h : MR A n mm c t mk) (v x : Nat) : MR (mj_u A 10 v (nI x)) n mm c t (uvf mk v x) := by
  refine ⟨h.1, h.2.1, fun u hu => ?_⟩
  rw [mj_u_at]
  by_cases e : u = v
  · rw [e, pk_us, uvf_at]
  · rw [pk_un e, uvf_ne e]; exact h.2.2 u hu
theorem MR.off {A A' : mj_S} {n : Nat} {mm : VF} {c : CF} {t : TF} {mk : VF} (h : MR A n mm c t mk) (h8 : A' 8 = A 8) (h9 : A' 9 = A 9) (h10 : A' 10 = A 10) : MR A' n mm c t mk := by
  refine ⟨?_, ?_, ?_⟩
  · rw [h8]; exact h.1
  · rw [h9]; exact h.2.1
  · rw [h10]; exact h.2.2
/-- what the rows aside are for is but these -/
def FM (A0 A : mj_S) : Prop := ∀ k, k ≠ 8 → k ≠ 9 → k ≠ 10 → A k = A0 k
theorem FM.rf (A : mj_S) : FM A A := fun _ _ _ _ => rfl
theorem FM.u {A0 A : mj_S} (h : FM A0 A) {k : Nat} (hk : k = 8 ∨ k = 9 ∨ k = 10) (i : Nat) (x : Int32) : FM A0 (mj_u A k i x) := fun j h1 h2 h3 => by
  rw [mj_u_ne A x (by omega)]; exact h j h1 h2 h3
/-- ties of a node to the first ones -/
def mbp (row : Nat → Int32) (u : Nat) : Nat → Nat
  | 0 => 0
  | k + 1 => if tdd row u k = 1 then mbp row u k ||| 2 ^ k else mbp row u k
theorem mbp_t {row : Nat → Int32} {u k : Nat} (h : tdd row u k = 1) : mbp row u (k + 1) = mbp row u k ||| 2 ^ k := if_pos h
theorem mbp_f {row : Nat → Int32} {u k : Nat} (h : ¬ tdd row u k = 1) : mbp row u (k + 1) = mbp row u k := if_neg h
theorem mbp_lt (row : Nat → Int32) (u : Nat) : ∀ k, k ≤ 8 → mbp row u k < 256
  | 0, _ => by show (0 : Nat) < 256; decide
  | k + 1, h => by
    have := mbp_lt row u k (by omega)
    by_cases e : tdd row u k = 1
    · rw [mbp_t e]; exact or_256 this (p2_8 (by omega))
    · rw [mbp_f e]; exact this
theorem mbp_bt (row : Nat → Int32) (u : Nat) {v : Nat} : ∀ k, mbp row u k / 2 ^ v % 2 = 1 ↔ (v < k ∧ tdd row u v = 1)
  | 0 => by
    show 0 / 2 ^ v % 2 = 1 ↔ _
    rw [Nat.zero_div]
    exact ⟨fun h => absurd h (by decide), fun h => absurd h.1 (Nat.not_lt_zero v)⟩
  | k + 1 => by
    have ih := mbp_bt row u (v := v) k
    by_cases e : tdd row u k = 1
    · rw [mbp_t e, bt_or, ih]
      constructor
      · rintro (⟨h1, h2⟩ | rfl)
        · exact ⟨by omega, h2⟩
        · exact ⟨Nat.lt_succ_self _, e⟩
      · rintro ⟨h1, h2⟩
        by_cases e2 : k = v
        · exact Or.inr e2
        · exact Or.inl ⟨by omega, h2⟩
    · rw [mbp_f e, ih]
      constructor
      · rintro ⟨h1, h2⟩
        exact ⟨by omega, h2⟩
      · rintro ⟨h1, h2⟩
        refine ⟨?_, h2⟩
        by_cases e2 : v = k
        · rw [e2] at h2; exact absurd h2 e
        · omega
theorem mbp_n {n : Nat} {mm : VF} {row : Nat → Int32} (hw : wr n mm row) {u : Nat} (hu : u < n) : mbp row u n = (if u < n then mkB row u else 0) := by
  apply bt_ext
  intro v
  rw [mbp_bt, mk0_bt hw]
  exact ⟨fun h => ⟨hu, h.1, h.2⟩, fun h => h.2⟩
theorem dmi_inj {q k m : Nat} (h1 : q / m = k / m) (h2 : q % m = k % m) : q = k := by
  rw [← Nat.div_add_mod q m, ← Nat.div_add_mod k m, h1, h2]
/-- a table is laid entry by entry -/
theorem as_k {A : mj_S} {u v m mu k : Nat} {x : Int32} (hm : m ≤ 4) (hm0 : 0 < m) {g : Nat → Nat → Int32} (h : ∀ q, q < k → A 9 (128 * u + 16 * v + 4 * (q / m) + q % m) = g (q / m) (q % m)) (hx : x = g (k / m) (k % m)) : ∀ q, q < k + 1 → mj_u A 9 (128 * u + 16 * v + 4 * (k / m) + k % m) x 9 (128 * u + 16 * v + 4 * (q / m) + q % m) = g (q / m) (q % m) := by
  intro q hq
  rw [mj_u_at]
  by_cases e : q = k
  · rw [e, pk_us, hx]
  · have h1 := Nat.mod_lt q hm0
    have h2 := Nat.mod_lt k hm0
    rw [pk_un (fun e2 => e (dmi_inj (m := m) (by omega) (by omega)))]
    exact h q (by omega)
theorem as_ne {A : mj_S} {u v i j a b i' j' : Nat} {x : Int32} (h : a ≠ u ∨ b ≠ v) (hi : i < 4) (hj : j < 4) (hi' : i' < 4) (hj' : j' < 4) (hv : v < 8) (hb : b < 8) : mj_u A 9 (128 * u + 16 * v + 4 * i + j) x 9 (128 * a + 16 * b + 4 * i' + j') = A 9 (128 * a + 16 * b + 4 * i' + j') := by
  rw [mj_u_at, pk_un (by omega)]
/-- one that is laid whole -/
theorem as_all {A : mj_S} {u v mu mv k : Nat} {g : Nat → Nat → Int32} (hk : k = mu * mv) (h : ∀ q, q < k → A 9 (128 * u + 16 * v + 4 * (q / mv) + q % mv) = g (q / mv) (q % mv)) {i j : Nat} (hi : i < mu) (hj : j < mv) : A 9 (128 * u + 16 * v + 4 * i + j) = g i j := by
  have h1 : i * mv + j < k := by
    rw [hk]
    calc i * mv + j < i * mv + mv := by omega
      _ = (i + 1) * mv := by rw [Nat.add_mul, Nat.one_mul]
      _ ≤ mu * mv := Nat.mul_le_mul_right _ hi
  have h2 := h (i * mv + j) h1
  have e1 : (i * mv + j) / mv = i := by rw [Nat.mul_comm, Nat.mul_add_div (by omega), Nat.div_eq_of_lt hj, Nat.add_zero]
  have e2 : (i * mv + j) % mv = j := by rw [Nat.mul_comm, Nat.mul_add_mod, Nat.mod_eq_of_lt hj]
  rw [e1, e2] at h2
  exact h2
theorem capI {x : Nat} (hx : x < 2147483648) : (if nI x ≤ 1000000 then nI x else 1000000) = nI (cap x) := by
  have hM : (1000000 : Int32) = nI 1000000 := by decide +kernel
  rw [hM]
  by_cases h : x ≤ 1000000
  · rw [if_pos ((nI_leI hx (by decide)).mpr h), cap_id h]
  · rw [if_neg (fun q => h ((nI_leI hx (by decide)).mp q)), cap_big h]
theorem m_capN (z : mj_B) (d x : Nat) (hx : x < 2147483648) (F A : mj_S) : J (gM z) mX6_atMost d 0 [(0, .int (nI x))] [] F A (qN F A fun r => r = cap x) := j_mono (m_atMost z d (nI x) F A) (fun v F' A' ⟨h1, h2, r, h3, h4⟩ => ⟨h1, h2, cap x, by rw [h3, h4, capI hx], rfl⟩)

set_option maxHeartbeats 400000 in
set_option maxRecDepth 100000 in
theorem m_ones (z : mj_B) (d s : Nat) (hs : s < 256) (F A : mj_S) : J (gM z) mX6_ones d 0 [(0, .int (nI s))] [] F A (qN F A fun q => q = pc s) := by
  have L4 : ∀ (fuel : Nat) (q : Nat) (k : Nat), (q + pc k = pc s ∧ k < 256 ∧ q ≤ 8) → k < fuel → J (gM z) mX6_ones d 4 [(1, .int (nI q)), (2, .int (nI k))] [] F A (qN F A fun q => q = pc s) := by
    intro fuel
    induction fuel with
    | zero => intro q k h1 hf; exact absurd hf (by omega)
    | succ fuel ih4 =>
      intro q k h1 hf
      refine j_iload_n dX6_ones_4 rfl ?_
      refine j_if_eqN (tgt := 20) dX6_ones_5 (by decide) (by omega) (fun c5 => ?_) (fun c5 => ?_)
      · refine j_iload_n dX6_ones_20 rfl ?_
        exact j_iret dX6_ones_21 rfl rfl ⟨rfl, rfl, _, rfl, by have : pc k = 0 := (by rw [c5]; rfl); omega⟩
      · have hp := pc_step k (by omega) c5
        refine j_iinc (v := nI (q + 1)) (lv' := [(1, .int (nI (q + 1))), (2, .int (nI k))]) dX6_ones_8 rfl (nI_add _ 1) (Nat.le_of_ble_eq_true rfl) rfl rfl ?_
        refine j_iload_n dX6_ones_11 rfl ?_
        refine j_iload_n dX6_ones_12 rfl ?_
        refine j_iconst (v := nI 1) dX6_ones_13 (by decide +kernel) ?_
        refine j_isubN dX6_ones_14 (by omega) ?_
        refine j_iand dX6_ones_15 ?_
        refine j_top (y0 := nI (k &&& (k - 1))) (fa_and _ _) ?_
        refine j_istore_n (lv' := [(1, .int (nI (q + 1))), (2, .int (nI (k &&& (k - 1))))]) dX6_ones_16 (Nat.le_of_ble_eq_true rfl) rfl rfl ?_
        refine j_goto (tgt := 4) dX6_ones_17 (by decide) ?_
        exact ih4 (q + 1) (k &&& (k - 1)) ⟨by omega, by omega, by have := pc_le s; omega⟩ (by omega)
  refine j_iconst (v := nI 0) dX6_ones_0 (by decide +kernel) ?_
  refine j_istore_n (lv' := [(0, .int (nI s)), (1, .int (nI 0))]) dX6_ones_1 (Nat.le_of_ble_eq_true rfl) rfl rfl ?_
  refine j_iload_n dX6_ones_2 rfl ?_
  refine j_istore_n (lv' := [(0, .int (nI s)), (1, .int (nI 0)), (2, .int (nI s))]) dX6_ones_3 (Nat.le_of_ble_eq_true rfl) rfl rfl ?_
  refine j_sub [1, 2] rfl ?_
  exact L4 _ 0 s ⟨by omega, by omega, by omega⟩ (Nat.lt_succ_self _)

set_option maxHeartbeats 400000 in
set_option maxRecDepth 100000 in
theorem m_has (z : mj_B) (d s i : Nat) (hs : s < 2147483648) (hi : i < 32) (F A : mj_S) : J (gM z) mX6_has d 0 [(0, .int (nI s)), (1, .int (nI i))] [] F A (qN F A fun q => q = s / 2 ^ i % 2) := by
  have hm : s / 2 ^ i % 2 < 2 := Nat.mod_lt _ (by decide)
  refine j_iload_n dX6_has_0 rfl ?_
  refine j_iload_n dX6_has_1 rfl ?_
  refine j_ishr dX6_has_2 ?_
  refine j_top (y0 := nI s >>> (nI i &&& 31)) rfl ?_
  refine j_iconst (v := nI 1) dX6_has_3 (by decide +kernel) ?_
  refine j_iand dX6_has_4 ?_
  refine j_top (y0 := nI (s / 2 ^ i % 2)) (bit_of hs hi) ?_
  refine j_iconst (v := nI 1) dX6_has_5 (by decide +kernel) ?_
  refine j_icmp_neN (tgt := 13) dX6_has_6 (by decide) (by omega) (by omega) (fun c6 => ?_) (fun c6 => ?_)
  · refine j_iconst (v := nI 0) dX6_has_13 (by decide +kernel) ?_
    exact j_iret dX6_has_14 rfl (by decide +kernel) ⟨rfl, rfl, _, rfl, by omega⟩
  · refine j_iconst (v := nI 1) dX6_has_9 (by decide +kernel) ?_
    refine j_goto (tgt := 14) dX6_has_10 (by decide) ?_
    exact j_iret dX6_has_14 rfl (by decide +kernel) ⟨rfl, rfl, _, rfl, by omega⟩

set_option maxHeartbeats 400000 in
set_option maxRecDepth 100000 in
theorem m_tableAt (z : mj_B) (d u v i j : Nat) (F A : mj_S) : J (gM z) mX6_tableAt d 0 [(0, .int (nI u)), (1, .int (nI v)), (2, .int (nI i)), (3, .int (nI j))] [] F A (qN F A fun q => q = 128 * u + 16 * v + 4 * i + j) := by
  refine j_sipush (v := nI 128) dX6_tableAt_0 (by decide +kernel) ?_
  refine j_iload_n dX6_tableAt_3 rfl ?_
  refine j_imulN dX6_tableAt_4 ?_
  refine j_bipush (v := nI 16) dX6_tableAt_5 (by decide +kernel) ?_
  refine j_iload_n dX6_tableAt_7 rfl ?_
  refine j_imulN dX6_tableAt_8 ?_
  refine j_iaddN dX6_tableAt_9 ?_
  refine j_iconst (v := nI 4) dX6_tableAt_10 (by decide +kernel) ?_
  refine j_iload_n dX6_tableAt_11 rfl ?_
  refine j_imulN dX6_tableAt_12 ?_
  refine j_iaddN dX6_tableAt_13 ?_
  refine j_iload_n dX6_tableAt_14 rfl ?_
  refine j_iaddN dX6_tableAt_15 ?_
  exact j_iret dX6_tableAt_16 rfl rfl ⟨rfl, rfl, _, rfl, rfl⟩

set_option maxHeartbeats 400000 in
set_option maxRecDepth 100000 in
theorem m_aside (z : mj_B) (d : Nat) (L : Lg) (n : Nat) (mm : Nat → Nat) (rn : Nat) (rm : Nat → Nat) (un kn : Nat) (F A0 : mj_S) (hM : MI L n mm rn rm un kn F A0) (hw : wr n mm (L.2 5)) : J (gM z) mX6_aside (d + 2) 0 [(0, .ref 0)] [] F A0 (fun v F' A' => v = none ∧ F = F' ∧ MI L n mm rn rm un kn F A' ∧ MR A' n mm (c0 n mm (L.2 5)) (t0 n mm (L.2 5)) (fun u => if u < n then mkB (L.2 5) u else 0) ∧ FM A0 A') := by
  have hM0 := hM.1.2.1
  have hM1 := hM.2.1.2.1
  have hM2 := hM.2.2.1.2.1
  have hM3 := hM.2.2.2.1.2
  have hM4 := hM.2.2.2.2.1.2
  have L2 : ∀ (fuel : Nat) (u : Nat) (A : mj_S), (MI L n mm rn rm un kn F A) → (u ≤ n) → (∀ a i, a < u → i < mm a → A 8 (4 * a + i) = nI (c0 n mm (L.2 5) a i)) → (∀ a b i j, a < u → b < n → i < mm a → j < mm b → A 9 (128 * a + 16 * b + 4 * i + j) = nI (t0 n mm (L.2 5) a b i j)) → (∀ a, a < u → A 10 a = nI (mbp (L.2 5) a n)) → (FM A0 A) → n - u < fuel → J (gM z) mX6_aside (d + 2) 2 [(0, .ref 0), (1, .int (nI u))] [] F A (fun v F' A' => v = none ∧ F = F' ∧ MI L n mm rn rm un kn F A' ∧ MR A' n mm (c0 n mm (L.2 5)) (t0 n mm (L.2 5)) (fun u => if u < n then mkB (L.2 5) u else 0) ∧ FM A0 A') := by
    intro fuel
    induction fuel with
    | zero => intro u A hM h1 hc ht hm hfr hf; exact absurd hf (by omega)
    | succ fuel ih2 =>
      intro u A hM h1 hc ht hm hfr hf
      have h4u := hM.2.1.2.2.2.1 u
      have hn8 := hM.2.1.2.1
      refine j_iload_n dX6_aside_2 rfl ?_
      refine j_aload_n dX6_aside_3 rfl ?_
      refine j_getI dX6_aside_4 flX6_132 (Nat.le_of_ble_eq_true rfl) rfl rfl ?_
      refine j_top (y0 := nI n) hM.2.1.1 ?_
      refine j_icmp_geN (tgt := 180) dX6_aside_7 (by decide) (by omega) (by omega) (fun c7 => ?_) (fun c7 => ?_)
      · exact j_vret dX6_aside_180 rfl ⟨rfl, rfl, hM, ⟨fun a i ha hi => hc a i (by omega) hi, fun a b i j ha hb hi hj => ht a b i j (by omega) hb hi hj, fun a ha => by rw [hm a (by omega), mbp_n hw ha]⟩, hfr⟩
      · have L53 : ∀ (fuel : Nat) (v : Nat) (A : mj_S), (MI L n mm rn rm un kn F A) → (v ≤ n) → (∀ a i, a < u + 1 → i < mm a → A 8 (4 * a + i) = nI (c0 n mm (L.2 5) a i)) → (∀ a b i j, a < u → b < n → i < mm a → j < mm b → A 9 (128 * a + 16 * b + 4 * i + j) = nI (t0 n mm (L.2 5) a b i j)) → (∀ b i j, b < v → i < mm u → j < mm b → A 9 (128 * u + 16 * b + 4 * i + j) = nI (t0 n mm (L.2 5) u b i j)) → (∀ a, a < u → A 10 a = nI (mbp (L.2 5) a n)) → (A 10 u = nI (mbp (L.2 5) u v)) → (FM A0 A) → n - v < fuel → J (gM z) mX6_aside (d + 2) 53 [(0, .ref 0), (1, .int (nI u)), (2, .int (nI v))] [] F A (fun v F' A' => v = none ∧ F = F' ∧ MI L n mm rn rm un kn F A' ∧ MR A' n mm (c0 n mm (L.2 5)) (t0 n mm (L.2 5)) (fun u => if u < n then mkB (L.2 5) u else 0) ∧ FM A0 A') := by
          intro fuel
          induction fuel with
          | zero => intro v A hM h1 hc ht htu hm hmu hfr hf; exact absurd hf (by omega)
          | succ fuel ih53 =>
            intro v A hM h1 hc ht htu hm hmu hfr hf
            have h4u := hM.2.1.2.2.2.1 u
            have hn8 := hM.2.1.2.1
            refine j_iload_n dX6_aside_53 rfl ?_
            refine j_aload_n dX6_aside_54 rfl ?_
            refine j_getI dX6_aside_55 flX6_132 (Nat.le_of_ble_eq_true rfl) rfl rfl ?_
            refine j_top (y0 := nI n) hM.2.1.1 ?_
            refine j_icmp_geN (tgt := 174) dX6_aside_58 (by decide) (by omega) (by omega) (fun c58 => ?_) (fun c58 => ?_)
            · refine j_iinc (v := nI (u + 1)) (lv' := [(0, .ref 0), (1, .int (nI (u + 1))), (2, .int (nI v))]) dX6_aside_174 rfl (nI_add _ 1) (Nat.le_of_ble_eq_true rfl) rfl rfl ?_
              refine j_goto (tgt := 2) dX6_aside_177 (by decide) ?_
              refine j_sub [0, 1] rfl ?_
              exact ih2 (u + 1) A (by first | exact hM | omega) (by first | exact h1 | omega) (by first | exact hc | omega) (fun a b i j ha hb hi hj => if e : a = u then (by rw [e] at hi ⊢; exact htu b i j (by omega) hi hj) else ht a b i j (by omega) hb hi hj) (fun a ha => if e : a = u then (by rw [e, hmu, show v = n by omega]) else hm a (by omega)) (by first | exact hfr | omega) (by omega)
            · have hv8 : v < 8 := by omega
              have L88 : ∀ (fuel : Nat) (k : Nat) (A : mj_S), (MI L n mm rn rm un kn F A) → (k ≤ mm u * mm v) → (∀ a i, a < u + 1 → i < mm a → A 8 (4 * a + i) = nI (c0 n mm (L.2 5) a i)) → (∀ a b i j, a < u → b < n → i < mm a → j < mm b → A 9 (128 * a + 16 * b + 4 * i + j) = nI (t0 n mm (L.2 5) a b i j)) → (∀ b i j, b < v → i < mm u → j < mm b → A 9 (128 * u + 16 * b + 4 * i + j) = nI (t0 n mm (L.2 5) u b i j)) → (∀ q, q < k → A 9 (128 * u + 16 * v + 4 * (q / mm v) + q % mm v) = nI (t0 n mm (L.2 5) u v (q / mm v) (q % mm v))) → (∀ a, a < u → A 10 a = nI (mbp (L.2 5) a n)) → (A 10 u = nI (mbp (L.2 5) u (v + 1))) → (FM A0 A) → mm u * mm v - k < fuel → J (gM z) mX6_aside (d + 2) 88 [(0, .ref 0), (1, .int (nI u)), (2, .int (nI v)), (3, .int (nI k))] [] F A (fun v F' A' => v = none ∧ F = F' ∧ MI L n mm rn rm un kn F A' ∧ MR A' n mm (c0 n mm (L.2 5)) (t0 n mm (L.2 5)) (fun u => if u < n then mkB (L.2 5) u else 0) ∧ FM A0 A') := by
                intro fuel
                induction fuel with
                | zero => intro k A hM h1 hc ht htu htk hm hmu hfr hf; exact absurd hf (by omega)
                | succ fuel ih88 =>
                  intro k A hM h1 hc ht htu htk hm hmu hfr hf
                  have h4u := hM.2.1.2.2.2.1 u
                  have hn8 := hM.2.1.2.1
                  have h4v := hM.2.1.2.2.2.1 v
                  have hp16 : mm u * mm v ≤ 16 := Nat.mul_le_mul h4u h4v
                  refine j_iload_n dX6_aside_88 rfl ?_
                  refine j_aload_n dX6_aside_89 rfl ?_
                  refine j_getR (r := 2) dX6_aside_90 flX6_13 (Nat.le_of_ble_eq_true rfl) rfl rfl ?_
                  refine j_iload_n dX6_aside_93 rfl ?_
                  refine j_ialdN dX6_aside_94 (Nat.le_of_ble_eq_true rfl) rfl (by omega) (by decide) ?_
                  refine j_top (y0 := nI (mm u)) (hM.2.1.2.2.1 _ (by omega)) ?_
                  refine j_aload_n dX6_aside_95 rfl ?_
                  refine j_getR (r := 2) dX6_aside_96 flX6_13 (Nat.le_of_ble_eq_true rfl) rfl rfl ?_
                  refine j_iload_n dX6_aside_99 rfl ?_
                  refine j_ialdN dX6_aside_100 (Nat.le_of_ble_eq_true rfl) rfl (by omega) (by decide) ?_
                  refine j_top (y0 := nI (mm v)) (hM.2.1.2.2.1 _ (by omega)) ?_
                  refine j_imulN dX6_aside_101 ?_
                  refine j_icmp_geN (tgt := 168) dX6_aside_102 (by decide) (by omega) (by omega) (fun c102 => ?_) (fun c102 => ?_)
                  · refine j_iinc (v := nI (v + 1)) (lv' := [(0, .ref 0), (1, .int (nI u)), (2, .int (nI (v + 1))), (3, .int (nI k))]) dX6_aside_168 rfl (nI_add _ 1) (Nat.le_of_ble_eq_true rfl) rfl rfl ?_
                    refine j_goto (tgt := 53) dX6_aside_171 (by decide) ?_
                    refine j_sub [0, 1, 2] rfl ?_
                    exact ih53 (v + 1) A (by first | exact hM | omega) (by first | exact h1 | omega) (by first | exact hc | omega) (by first | exact ht | omega) (fun b i j hb hi hj => if e : b = v then (by rw [e] at hj ⊢; exact as_all (g := fun i j => nI (t0 n mm (L.2 5) u v i j)) (mu := mm u) (mv := mm v) (by omega) htk hi hj) else htu b i j (by omega) hi hj) (by first | exact hm | omega) (by first | exact hmu | omega) (by first | exact hfr | omega) (by omega)
                  · have h1v := hM.2.1.2.2.2.2 v (by omega)
                    have hd1 : k / mm v < mm u := Nat.div_lt_of_lt_mul (by rw [Nat.mul_comm]; exact c102)
                    have hd2 : k % mm v < mm v := Nat.mod_lt _ (by omega)
                    refine j_iload_n dX6_aside_105 rfl ?_
                    refine j_aload_n dX6_aside_106 rfl ?_
                    refine j_getR (r := 2) dX6_aside_107 flX6_13 (Nat.le_of_ble_eq_true rfl) rfl rfl ?_
                    refine j_iload_n dX6_aside_110 rfl ?_
                    refine j_ialdN dX6_aside_111 (Nat.le_of_ble_eq_true rfl) rfl (by omega) (by decide) ?_
                    refine j_top (y0 := nI (mm v)) (hM.2.1.2.2.1 _ (by omega)) ?_
                    refine j_idivN dX6_aside_112 (by omega) (by omega) (by omega) ?_
                    refine j_istore (lv' := [(0, .ref 0), (1, .int (nI u)), (2, .int (nI v)), (3, .int (nI k)), (4, .int (nI (k / (mm v))))]) dX6_aside_113 (Nat.le_of_ble_eq_true rfl) rfl rfl ?_
                    refine j_iload_n dX6_aside_115 rfl ?_
                    refine j_aload_n dX6_aside_116 rfl ?_
                    refine j_getR (r := 2) dX6_aside_117 flX6_13 (Nat.le_of_ble_eq_true rfl) rfl rfl ?_
                    refine j_iload_n dX6_aside_120 rfl ?_
                    refine j_ialdN dX6_aside_121 (Nat.le_of_ble_eq_true rfl) rfl (by omega) (by decide) ?_
                    refine j_top (y0 := nI (mm v)) (hM.2.1.2.2.1 _ (by omega)) ?_
                    refine j_iremN dX6_aside_122 (by omega) (by omega) (by omega) ?_
                    refine j_istore (lv' := [(0, .ref 0), (1, .int (nI u)), (2, .int (nI v)), (3, .int (nI k)), (4, .int (nI (k / (mm v)))), (5, .int (nI (k % (mm v))))]) dX6_aside_123 (Nat.le_of_ble_eq_true rfl) rfl rfl ?_
                    refine j_aload_n dX6_aside_125 rfl ?_
                    refine j_getR (r := 9) dX6_aside_126 flX6_34 (Nat.le_of_ble_eq_true rfl) rfl rfl ?_
                    refine j_iload_n dX6_aside_129 rfl ?_
                    refine j_iload_n dX6_aside_130 rfl ?_
                    refine j_iload dX6_aside_131 rfl ?_
                    refine j_iload dX6_aside_133 rfl ?_
                    refine j_callS (y' := mX6_tableAt) (As := [.int (nI u), .int (nI v), .int (nI (k / (mm v))), .int (nI (k % (mm v)))]) (st := [.ref 9]) dX6_aside_135 lkX6_179 okX6_tableAt stX6_tableAt rfl (Nat.le_of_ble_eq_true rfl) (Nat.le_of_ble_eq_true rfl) (m_tableAt z _ u v (k / (mm v)) (k % (mm v)) F A) (fun v135 F135 A135 hq135 => ?_)
                    obtain ⟨rfl, rfl, _, rfl, rfl⟩ := hq135
                    refine j_aload_n dX6_aside_138 rfl ?_
                    refine j_iload_n dX6_aside_139 rfl ?_
                    refine j_iload_n dX6_aside_140 rfl ?_
                    refine j_callV (y' := mX6_isTied) (As := [.int (nI u), .int (nI v)]) (st := [.int (nI (128 * u + 16 * v + 4 * (k / (mm v)) + (k % (mm v)))), .ref 9]) dX6_aside_141 lkX6_146 okX6_isTied imX6_isTied seX6_isTied (Nat.le_of_ble_eq_true rfl) rfl rfl rfl rfl (Nat.le_of_ble_eq_true rfl) (Nat.le_of_ble_eq_true rfl) (m_isTied z _ u v (by omega) (by omega) F A) (fun v141 F141 A141 hq141 => ?_)
                    obtain ⟨rfl, rfl, r141, rfl, hr141⟩ := hq141
                    have hb141 : r141 ≤ 1 := by omega
                    refine j_if_eqN (tgt := 160) dX6_aside_144 (by decide) (by omega) (fun c144 => ?_) (fun c144 => ?_)
                    · have hnt : ¬ tdd (L.2 5) u v = 1 := fun q => (hr141.resolve_left (fun h => by omega)).2 (by have q2 := tdd_inv q; rw [hM.1.2.2.2.1]; exact q2)
                      have hx : nI 0 = nI (t0 n mm (L.2 5) u v (k / mm v) (k % mm v)) := by
                        congr 1
                        exact (if_neg (fun q => hnt q.2.2.2.2)).symm
                      refine j_iconst (v := nI 0) dX6_aside_160 (by decide +kernel) ?_
                      refine j_iastN dX6_aside_161 (Nat.le_of_ble_eq_true rfl) rfl (by omega) (by decide) ?_
                      have hfr := hfr.u (k := 9) (by omega) (128 * u + 16 * v + 4 * (k / (mm v)) + (k % (mm v))) (nI 0)
                      refine j_iinc (v := nI (k + 1)) (lv' := [(0, .ref 0), (1, .int (nI u)), (2, .int (nI v)), (3, .int (nI (k + 1))), (4, .int (nI (k / (mm v)))), (5, .int (nI (k % (mm v))))]) dX6_aside_162 rfl (nI_add _ 1) (Nat.le_of_ble_eq_true rfl) rfl rfl ?_
                      refine j_goto (tgt := 88) dX6_aside_165 (by decide) ?_
                      refine j_sub [0, 1, 2, 3] rfl ?_
                      exact ih88 (k + 1) (mj_u A 9 (128 * u + 16 * v + 4 * (k / (mm v)) + (k % (mm v))) (nI 0)) (by first | exact hM | omega) (by first | exact h1 | omega) (by first | exact hc | omega) (fun a b i j ha hb hi hj => by have := hM.2.1.2.2.2.1 a; have := hM.2.1.2.2.2.1 b; rw [as_ne (Or.inl (by omega)) (by omega) (by omega) (by omega) (by omega) (by omega) (by omega)]; exact ht a b i j ha hb hi hj) (fun b i j hb hi hj => by have := hM.2.1.2.2.2.1 b; rw [as_ne (Or.inr (by omega)) (by omega) (by omega) (by omega) (by omega) (by omega) (by omega)]; exact htu b i j hb hi hj) (as_k (g := fun i j => nI (t0 n mm (L.2 5) u v i j)) (mu := mm u) h4v (by omega) htk hx) (by first | exact hm | omega) (by first | exact hmu | omega) (by first | exact hfr | omega) (by omega)
                    · have htd := (hr141.resolve_right (fun h => by omega)).2
                      rw [hM.1.2.2.2.1] at htd
                      have htt : tdd (L.2 5) u v = 1 := tdd_1 htd.1 htd.2
                      refine j_aload_n dX6_aside_147 rfl ?_
                      refine j_iload_n dX6_aside_148 rfl ?_
                      refine j_iload_n dX6_aside_149 rfl ?_
                      refine j_iload dX6_aside_150 rfl ?_
                      refine j_iload dX6_aside_152 rfl ?_
                      refine j_callV (y' := mX6_tieOf) (As := [.int (nI u), .int (nI v), .int (nI (k / (mm v))), .int (nI (k % (mm v)))]) (st := [.int (nI (128 * u + 16 * v + 4 * (k / (mm v)) + (k % (mm v)))), .ref 9]) dX6_aside_154 lkX6_162 okX6_tieOf imX6_tieOf seX6_tieOf (Nat.le_of_ble_eq_true rfl) rfl rfl rfl rfl (Nat.le_of_ble_eq_true rfl) (Nat.le_of_ble_eq_true rfl) (m_tieOf z _ u v (k / (mm v)) (k % (mm v)) F A n mm (by rw [hM.1.2.2.2.1]; exact hw) (by omega) (by omega) htd.1 (by omega) (by omega) (by rw [hM.1.2.2.2.1]; exact htd.2)) (fun v154 F154 A154 hq154 => ?_)
                      obtain ⟨rfl, rfl, r154, rfl, hr154⟩ := hq154
                      rw [hM.1.2.2.2.1] at hr154
                      have hb154 : r154 ≤ 1000000 := by rw [hr154]; exact tcs_le hw (by omega) (by omega) htd.1 (by omega) (by omega) htd.2
                      have hx : nI r154 = nI (t0 n mm (L.2 5) u v (k / mm v) (k % mm v)) := by
                        rw [hr154]
                        congr 1
                        exact (if_pos ⟨by omega, by omega, hd1, hd2, htt⟩).symm
                      refine j_goto (tgt := 161) dX6_aside_157 (by decide) ?_
                      refine j_iastN dX6_aside_161 (Nat.le_of_ble_eq_true rfl) rfl (by omega) (by decide) ?_
                      have hfr := hfr.u (k := 9) (by omega) (128 * u + 16 * v + 4 * (k / (mm v)) + (k % (mm v))) (nI r154)
                      refine j_iinc (v := nI (k + 1)) (lv' := [(0, .ref 0), (1, .int (nI u)), (2, .int (nI v)), (3, .int (nI (k + 1))), (4, .int (nI (k / (mm v)))), (5, .int (nI (k % (mm v))))]) dX6_aside_162 rfl (nI_add _ 1) (Nat.le_of_ble_eq_true rfl) rfl rfl ?_
                      refine j_goto (tgt := 88) dX6_aside_165 (by decide) ?_
                      refine j_sub [0, 1, 2, 3] rfl ?_
                      exact ih88 (k + 1) (mj_u A 9 (128 * u + 16 * v + 4 * (k / (mm v)) + (k % (mm v))) (nI r154)) (by first | exact hM | omega) (by first | exact h1 | omega) (by first | exact hc | omega) (fun a b i j ha hb hi hj => by have := hM.2.1.2.2.2.1 a; have := hM.2.1.2.2.2.1 b; rw [as_ne (Or.inl (by omega)) (by omega) (by omega) (by omega) (by omega) (by omega) (by omega)]; exact ht a b i j ha hb hi hj) (fun b i j hb hi hj => by have := hM.2.1.2.2.2.1 b; rw [as_ne (Or.inr (by omega)) (by omega) (by omega) (by omega) (by omega) (by omega) (by omega)]; exact htu b i j hb hi hj) (as_k (g := fun i j => nI (t0 n mm (L.2 5) u v i j)) (mu := mm u) h4v (by omega) htk hx) (by first | exact hm | omega) (by first | exact hmu | omega) (by first | exact hfr | omega) (by omega)
              refine j_aload_n dX6_aside_61 rfl ?_
              refine j_getR (r := 10) dX6_aside_62 flX6_37 (Nat.le_of_ble_eq_true rfl) rfl rfl ?_
              refine j_iload_n dX6_aside_65 rfl ?_
              refine j_dup2 dX6_aside_66 rfl rfl ?_
              refine j_ialdN dX6_aside_67 (Nat.le_of_ble_eq_true rfl) rfl (by omega) (by decide) ?_
              refine j_top (y0 := nI (mbp (L.2 5) u v)) hmu ?_
              refine j_aload_n dX6_aside_68 rfl ?_
              refine j_iload_n dX6_aside_69 rfl ?_
              refine j_iload_n dX6_aside_70 rfl ?_
              refine j_callV (y' := mX6_isTied) (As := [.int (nI u), .int (nI v)]) (st := [.int (nI (mbp (L.2 5) u v)), .int (nI u), .ref 10]) dX6_aside_71 lkX6_146 okX6_isTied imX6_isTied seX6_isTied (Nat.le_of_ble_eq_true rfl) rfl rfl rfl rfl (Nat.le_of_ble_eq_true rfl) (Nat.le_of_ble_eq_true rfl) (m_isTied z _ u v (by omega) (by omega) F A) (fun v71 F71 A71 hq71 => ?_)
              obtain ⟨rfl, rfl, r71, rfl, hr71⟩ := hq71
              have hb71 : r71 ≤ 1 := by omega
              refine j_if_eqN (tgt := 83) dX6_aside_74 (by decide) (by omega) (fun c74 => ?_) (fun c74 => ?_)
              · have hnt : ¬ tdd (L.2 5) u v = 1 := fun q => (hr71.resolve_left (fun h => by omega)).2 (by have q2 := tdd_inv q; rw [hM.1.2.2.2.1]; exact q2)
                refine j_iconst (v := nI 0) dX6_aside_83 (by decide +kernel) ?_
                refine j_ior dX6_aside_84 ?_
                refine j_top (y0 := nI ((mbp (L.2 5) u v) ||| 0)) (fa_or _ _) ?_
                refine j_iastN dX6_aside_85 (Nat.le_of_ble_eq_true rfl) rfl (by omega) (by decide) ?_
                have hM := hM.s10 u (t := (mbp (L.2 5) u v) ||| 0) (Nat.le_of_lt_succ (or_256 (mbp_lt _ _ _ (by omega)) (by first | exact p2_8 (by omega) | omega)))
                have hfr := hfr.u (k := 10) (by omega) u (nI ((mbp (L.2 5) u v) ||| 0))
                refine j_iconst (v := nI 0) dX6_aside_86 (by decide +kernel) ?_
                refine j_istore_n (lv' := [(0, .ref 0), (1, .int (nI u)), (2, .int (nI v)), (3, .int (nI 0))]) dX6_aside_87 (Nat.le_of_ble_eq_true rfl) rfl rfl ?_
                exact L88 _ 0 (mj_u A 10 u (nI ((mbp (L.2 5) u v) ||| 0))) (by first | exact hM | omega) (Nat.zero_le _) (by first | exact hc | omega) (by first | exact ht | omega) (by first | exact htu | omega) (fun q hq => absurd hq (Nat.not_lt_zero q)) (fun a ha => by rw [mj_u_at, pk_un (by omega)]; exact hm a ha) (by rw [mj_u_at, pk_us]; congr 1; first | exact (mbp_t htt).symm | (rw [Nat.or_zero]; exact (mbp_f hnt).symm)) (by first | exact hfr | omega) (Nat.lt_succ_self _)
              · have htd := (hr71.resolve_right (fun h => by omega)).2
                rw [hM.1.2.2.2.1] at htd
                have htt : tdd (L.2 5) u v = 1 := tdd_1 htd.1 htd.2
                refine j_iconst (v := nI 1) dX6_aside_77 (by decide +kernel) ?_
                refine j_iload_n dX6_aside_78 rfl ?_
                refine j_ishl dX6_aside_79 ?_
                refine j_top (y0 := nI (2 ^ v)) (shl_1 (by omega)) ?_
                refine j_goto (tgt := 84) dX6_aside_80 (by decide) ?_
                refine j_ior dX6_aside_84 ?_
                refine j_top (y0 := nI ((mbp (L.2 5) u v) ||| (2 ^ v))) (fa_or _ _) ?_
                refine j_iastN dX6_aside_85 (Nat.le_of_ble_eq_true rfl) rfl (by omega) (by decide) ?_
                have hM := hM.s10 u (t := (mbp (L.2 5) u v) ||| (2 ^ v)) (Nat.le_of_lt_succ (or_256 (mbp_lt _ _ _ (by omega)) (by first | exact p2_8 (by omega) | omega)))
                have hfr := hfr.u (k := 10) (by omega) u (nI ((mbp (L.2 5) u v) ||| (2 ^ v)))
                refine j_iconst (v := nI 0) dX6_aside_86 (by decide +kernel) ?_
                refine j_istore_n (lv' := [(0, .ref 0), (1, .int (nI u)), (2, .int (nI v)), (3, .int (nI 0))]) dX6_aside_87 (Nat.le_of_ble_eq_true rfl) rfl rfl ?_
                exact L88 _ 0 (mj_u A 10 u (nI ((mbp (L.2 5) u v) ||| (2 ^ v)))) (by first | exact hM | omega) (Nat.zero_le _) (by first | exact hc | omega) (by first | exact ht | omega) (by first | exact htu | omega) (fun q hq => absurd hq (Nat.not_lt_zero q)) (fun a ha => by rw [mj_u_at, pk_un (by omega)]; exact hm a ha) (by rw [mj_u_at, pk_us]; congr 1; first | exact (mbp_t htt).symm | (rw [Nat.or_zero]; exact (mbp_f hnt).symm)) (by first | exact hfr | omega) (Nat.lt_succ_self _)
        have L19 : ∀ (fuel : Nat) (i : Nat) (A : mj_S), (MI L n mm rn rm un kn F A) → (i ≤ mm u) → (∀ a i, a < u → i < mm a → A 8 (4 * a + i) = nI (c0 n mm (L.2 5) a i)) → (∀ q, q < i → A 8 (4 * u + q) = nI (c0 n mm (L.2 5) u q)) → (∀ a b i j, a < u → b < n → i < mm a → j < mm b → A 9 (128 * a + 16 * b + 4 * i + j) = nI (t0 n mm (L.2 5) a b i j)) → (∀ a, a < u → A 10 a = nI (mbp (L.2 5) a n)) → (A 10 u = nI 0) → (FM A0 A) → mm u - i < fuel → J (gM z) mX6_aside (d + 2) 19 [(0, .ref 0), (1, .int (nI u)), (2, .int (nI i))] [] F A (fun v F' A' => v = none ∧ F = F' ∧ MI L n mm rn rm un kn F A' ∧ MR A' n mm (c0 n mm (L.2 5)) (t0 n mm (L.2 5)) (fun u => if u < n then mkB (L.2 5) u else 0) ∧ FM A0 A') := by
          intro fuel
          induction fuel with
          | zero => intro i A hM h1 hc hcu ht hm hmu hfr hf; exact absurd hf (by omega)
          | succ fuel ih19 =>
            intro i A hM h1 hc hcu ht hm hmu hfr hf
            have h4u := hM.2.1.2.2.2.1 u
            have hn8 := hM.2.1.2.1
            refine j_iload_n dX6_aside_19 rfl ?_
            refine j_aload_n dX6_aside_20 rfl ?_
            refine j_getR (r := 2) dX6_aside_21 flX6_13 (Nat.le_of_ble_eq_true rfl) rfl rfl ?_
            refine j_iload_n dX6_aside_24 rfl ?_
            refine j_ialdN dX6_aside_25 (Nat.le_of_ble_eq_true rfl) rfl (by omega) (by decide) ?_
            refine j_top (y0 := nI (mm u)) (hM.2.1.2.2.1 _ (by omega)) ?_
            refine j_icmp_geN (tgt := 51) dX6_aside_26 (by decide) (by omega) (by omega) (fun c26 => ?_) (fun c26 => ?_)
            · refine j_iconst (v := nI 0) dX6_aside_51 (by decide +kernel) ?_
              refine j_istore_n (lv' := [(0, .ref 0), (1, .int (nI u)), (2, .int (nI 0))]) dX6_aside_52 (Nat.le_of_ble_eq_true rfl) rfl rfl ?_
              exact L53 _ 0 A (by first | exact hM | omega) (by first | exact h1 | omega) (fun a q ha hq => if e : a = u then (by rw [e] at hq ⊢; exact hcu q (by omega)) else hc a q (by omega) hq) (by first | exact ht | omega) (fun b i j hb => absurd hb (Nat.not_lt_zero b)) (by first | exact hm | omega) (by first | exact hmu | omega) (by first | exact hfr | omega) (Nat.lt_succ_self _)
            · refine j_aload_n dX6_aside_29 rfl ?_
              refine j_getR (r := 8) dX6_aside_30 flX6_31 (Nat.le_of_ble_eq_true rfl) rfl rfl ?_
              refine j_iconst (v := nI 4) dX6_aside_33 (by decide +kernel) ?_
              refine j_iload_n dX6_aside_34 rfl ?_
              refine j_imulN dX6_aside_35 ?_
              refine j_iload_n dX6_aside_36 rfl ?_
              refine j_iaddN dX6_aside_37 ?_
              refine j_aload_n dX6_aside_38 rfl ?_
              refine j_iload_n dX6_aside_39 rfl ?_
              refine j_iload_n dX6_aside_40 rfl ?_
              refine j_callV (y' := mX6_costOf) (As := [.int (nI u), .int (nI i)]) (st := [.int (nI (4 * u + i)), .ref 8]) dX6_aside_41 lkX6_158 okX6_costOf imX6_costOf seX6_costOf (Nat.le_of_ble_eq_true rfl) rfl rfl rfl rfl (Nat.le_of_ble_eq_true rfl) (Nat.le_of_ble_eq_true rfl) (m_costOf z _ u i F A n mm (by rw [hM.1.2.2.2.1]; exact hw) (by omega) (by omega)) (fun v41 F41 A41 hq41 => ?_)
              obtain ⟨rfl, rfl, r41, rfl, hr41⟩ := hq41
              rw [hM.1.2.2.2.1] at hr41
              have hb41 : r41 ≤ 1000000 := by rw [hr41]; exact cst_le hw (by omega) (by omega)
              refine j_iastN dX6_aside_44 (Nat.le_of_ble_eq_true rfl) rfl (by omega) (by decide) ?_
              have hfr := hfr.u (k := 8) (by omega) (4 * u + i) (nI r41)
              refine j_iinc (v := nI (i + 1)) (lv' := [(0, .ref 0), (1, .int (nI u)), (2, .int (nI (i + 1)))]) dX6_aside_45 rfl (nI_add _ 1) (Nat.le_of_ble_eq_true rfl) rfl rfl ?_
              refine j_goto (tgt := 19) dX6_aside_48 (by decide) ?_
              exact ih19 (i + 1) (mj_u A 8 (4 * u + i) (nI r41)) (by first | exact hM | omega) (by first | exact h1 | omega) (fun a q ha hq => by have := hM.2.1.2.2.2.1 a; rw [mj_u_at, pk_un (by omega)]; exact hc a q ha hq) (fun q hq => by rw [mj_u_at]; exact if e : q = i then (by rw [e, pk_us, hr41]; congr 1; exact (if_pos ⟨by omega, by omega⟩).symm) else (by rw [pk_un (by omega)]; exact hcu q (by omega))) (by first | exact ht | omega) (by first | exact hm | omega) (by first | exact hmu | omega) (by first | exact hfr | omega) (by omega)
        refine j_aload_n dX6_aside_10 rfl ?_
        refine j_getR (r := 10) dX6_aside_11 flX6_37 (Nat.le_of_ble_eq_true rfl) rfl rfl ?_
        refine j_iload_n dX6_aside_14 rfl ?_
        refine j_iconst (v := nI 0) dX6_aside_15 (by decide +kernel) ?_
        refine j_iastN dX6_aside_16 (Nat.le_of_ble_eq_true rfl) rfl (by omega) (by decide) ?_
        have hM := hM.s10 u (t := 0) (by omega)
        have hfr := hfr.u (k := 10) (by omega) u (nI 0)
        refine j_iconst (v := nI 0) dX6_aside_17 (by decide +kernel) ?_
        refine j_istore_n (lv' := [(0, .ref 0), (1, .int (nI u)), (2, .int (nI 0))]) dX6_aside_18 (Nat.le_of_ble_eq_true rfl) rfl rfl ?_
        exact L19 _ 0 (mj_u A 10 u (nI 0)) (by first | exact hM | omega) (by first | exact h1 | omega) (by first | exact hc | omega) (fun q hq => absurd hq (Nat.not_lt_zero q)) (by first | exact ht | omega) (fun a ha => by rw [mj_u_at, pk_un (by omega)]; exact hm a ha) (by rw [mj_u_at, pk_us]) (by first | exact hfr | omega) (Nat.lt_succ_self _)
  refine j_iconst (v := nI 0) dX6_aside_0 (by decide +kernel) ?_
  refine j_istore_n (lv' := [(0, .ref 0), (1, .int (nI 0))]) dX6_aside_1 (Nat.le_of_ble_eq_true rfl) rfl rfl ?_
  exact L2 _ 0 A0 (by first | exact hM | omega) (by first | exact h1 | omega) (fun a i ha => absurd ha (Nat.not_lt_zero a)) (fun a b i j ha => absurd ha (Nat.not_lt_zero a)) (fun a ha => absurd ha (Nat.not_lt_zero a)) (FM.rf _) (Nat.lt_succ_self _)
