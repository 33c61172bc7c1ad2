/-! the reference: its state's words, and its small methods -/
/-- the reference's state: length L, nodes n, choices mm, what is read (rn, rm), undo and kept -/
def MI (L : Lg) (n : Nat) (mm : Nat → Nat) (rn : Nat) (rm : Nat → Nat) (un kn : Nat) (F A : mj_S) : Prop :=
  (F 0 0 = nI L.1 ∧ L.1 ≤ 200 ∧ A 1 = L.2 1 ∧ A 5 = L.2 5 ∧ A 6 = L.2 6 ∧ A 7 = L.2 7 ∧ A 17 = L.2 17) ∧ (F 0 2 = nI n ∧ n ≤ 8 ∧ (∀ j, j < 8 → A 2 j = nI (mm j)) ∧ (∀ j, mm j ≤ 4) ∧ ∀ j, j < n → 1 ≤ mm j) ∧
  (F 0 4 = nI rn ∧ rn ≤ 8 ∧ (∀ j, j < 8 → A 3 j = nI (rm j)) ∧ (∀ j, rm j ≤ 4) ∧ ∀ j, j < rn → 1 ≤ rm j) ∧ (F 0 9 = nI un ∧ un ≤ 8) ∧ (F 0 11 = nI kn ∧ kn ≤ 2) ∧ rg (A 14) 8 3 ∧ rg (A 16) 8 15 ∧ rg (A 10) 8 255 ∧ rg (A 11) 8 7 ∧ rg (A 13) 8 255

set_option maxHeartbeats 400000 in
set_option maxRecDepth 100000 in
theorem m_in (z : mj_B) (d : Nat) (a b c : Int64) (F A : mj_S) : J (gM z) mX6_in d 0 [(0, .long a), (2, .long b), (4, .long c)] [] F A (qN F A fun r => (r = 1 ∧ b ≤ a ∧ a ≤ c) ∨ (r = 0 ∧ ¬ (b ≤ a ∧ a ≤ c))) := by
  refine j_lload_n dX6_in_0 rfl ?_
  refine j_lload_n dX6_in_1 rfl ?_
  refine j_lcmp dX6_in_2 ?_
  refine j_if_lt (tgt := 17) dX6_in_3 (by decide) (fun c3 => ?_) (fun c3 => ?_)
  · refine j_iconst (v := nI 0) dX6_in_17 (by decide +kernel) ?_
    exact j_iret dX6_in_18 rfl (by decide +kernel) ⟨rfl, rfl, _, rfl, by first | exact Or.inl ⟨rfl, lg_ge.mp c3, lg_le.mp c10⟩ | exact Or.inr ⟨rfl, fun h => lg_ge.mpr h.1 c3⟩ | exact Or.inr ⟨rfl, fun h => lg_le.mpr h.2 c10⟩⟩
  · refine j_lload_n dX6_in_6 rfl ?_
    refine j_lload dX6_in_7 rfl ?_
    refine j_lcmp dX6_in_9 ?_
    refine j_if_gt (tgt := 17) dX6_in_10 (by decide) (fun c10 => ?_) (fun c10 => ?_)
    · refine j_iconst (v := nI 0) dX6_in_17 (by decide +kernel) ?_
      exact j_iret dX6_in_18 rfl (by decide +kernel) ⟨rfl, rfl, _, rfl, by first | exact Or.inl ⟨rfl, lg_ge.mp c3, lg_le.mp c10⟩ | exact Or.inr ⟨rfl, fun h => lg_ge.mpr h.1 c3⟩ | exact Or.inr ⟨rfl, fun h => lg_le.mpr h.2 c10⟩⟩
    · refine j_iconst (v := nI 1) dX6_in_13 (by decide +kernel) ?_
      refine j_goto (tgt := 18) dX6_in_14 (by decide) ?_
      exact j_iret dX6_in_18 rfl (by decide +kernel) ⟨rfl, rfl, _, rfl, by first | exact Or.inl ⟨rfl, lg_ge.mp c3, lg_le.mp c10⟩ | exact Or.inr ⟨rfl, fun h => lg_ge.mpr h.1 c3⟩ | exact Or.inr ⟨rfl, fun h => lg_le.mpr h.2 c10⟩⟩

set_option maxHeartbeats 400000 in
set_option maxRecDepth 100000 in
theorem m_write (z : mj_B) (d : Nat) (L : Lg) (n : Nat) (mm : Nat → Nat) (rn : Nat) (rm : Nat → Nat) (un kn : Nat) (x : Int32) (F A : mj_S) (hM : MI L n mm rn rm un kn F A) : J (gM z) mX6_write (d + 1) 0 [(0, .ref 0), (1, .int x)] [] F A (fun v F' A' => (¬ ((32 : Int64) ≤ x.toInt64 ∧ x.toInt64 ≤ 126) ∧ v = some (.int (-1)) ∧ F' = F ∧ A' = A) ∨ (((32 : Int64) ≤ x.toInt64 ∧ x.toInt64 ≤ 126) ∧ L.1 = 200 ∧ v = some (.int (-3)) ∧ F' = F ∧ A' = A) ∨ (((32 : Int64) ≤ x.toInt64 ∧ x.toInt64 ≤ 126) ∧ L.1 < 200 ∧ v = some (.int (nI (L.1 + 1))) ∧ F' = mj_u F 0 0 (nI (L.1 + 1)) ∧ A' = mj_u A 1 L.1 x)) := by
  have hM0 := hM.1.2.1
  have hM1 := hM.2.1.2.1
  have hM2 := hM.2.2.1.2.1
  have hM3 := hM.2.2.2.1.2
  have hM4 := hM.2.2.2.2.1.2
  refine j_iload_n dX6_write_0 rfl ?_
  refine j_i2l dX6_write_1 rfl ?_
  refine j_ldc2 dX6_write_2 klX6_85 ?_
  refine j_ldc2 dX6_write_5 klX6_87 ?_
  refine j_callS (y' := mX6_in) (As := [.long (x.toInt64), .long ((32)), .long ((126))]) (st := []) dX6_write_8 lkX6_89 okX6_in stX6_in rfl (Nat.le_of_ble_eq_true rfl) (Nat.le_of_ble_eq_true rfl) (m_in z _ x.toInt64 (32) (126) F A) (fun v8 F8 A8 hq8 => ?_)
  obtain ⟨rfl, rfl, r8, rfl, hr8⟩ := hq8
  have hb8 : r8 ≤ 1 := by omega
  refine j_if_neN (tgt := 16) dX6_write_11 (by decide) (by omega) (fun c11 => ?_) (fun c11 => ?_)
  · have hp := (hr8.resolve_right (fun h => by omega)).2
    refine j_aload_n dX6_write_16 rfl ?_
    refine j_getI dX6_write_17 flX6_93 (Nat.le_of_ble_eq_true rfl) rfl rfl ?_
    refine j_top (y0 := nI (L.1)) hM.1.1 ?_
    refine j_sipush (v := nI 200) dX6_write_20 (by decide +kernel) ?_
    refine j_icmp_neN (tgt := 29) dX6_write_23 (by decide) (by omega) (by omega) (fun c23 => ?_) (fun c23 => ?_)
    · refine j_aload_n dX6_write_29 rfl ?_
      refine j_getR (r := 1) dX6_write_30 flX6_7 (Nat.le_of_ble_eq_true rfl) rfl rfl ?_
      refine j_aload_n dX6_write_33 rfl ?_
      refine j_getI dX6_write_34 flX6_93 (Nat.le_of_ble_eq_true rfl) rfl rfl ?_
      refine j_top (y0 := nI (L.1)) hM.1.1 ?_
      refine j_iload_n dX6_write_37 rfl ?_
      refine j_iastN dX6_write_38 (Nat.le_of_ble_eq_true rfl) rfl (by omega) (by decide) ?_
      refine j_aload_n dX6_write_39 rfl ?_
      refine j_dup dX6_write_40 rfl ?_
      refine j_getI dX6_write_41 flX6_93 (Nat.le_of_ble_eq_true rfl) rfl rfl ?_
      refine j_top (y0 := nI (L.1)) hM.1.1 ?_
      refine j_iconst (v := nI 1) dX6_write_44 (by decide +kernel) ?_
      refine j_iaddN dX6_write_45 ?_
      refine j_putI dX6_write_46 fpX6_93 (Nat.le_of_ble_eq_true rfl) rfl rfl ?_
      refine j_aload_n dX6_write_49 rfl ?_
      refine j_getI dX6_write_50 flX6_93 (Nat.le_of_ble_eq_true rfl) rfl rfl ?_
      refine j_top (y0 := nI (L.1 + 1)) rfl ?_
      exact j_iret dX6_write_53 rfl rfl (Or.inr (Or.inr ⟨hp, by omega, rfl, rfl, rfl⟩))
    · refine j_bipush (v := (-3)) dX6_write_26 (by decide +kernel) ?_
      exact j_iret dX6_write_28 rfl rfl (Or.inr (Or.inl ⟨hp, by omega, rfl, rfl, rfl⟩))
  · have hp := (hr8.resolve_left (fun h => by omega)).2
    refine j_iconst (v := (-1)) dX6_write_14 (by decide +kernel) ?_
    exact j_iret dX6_write_15 rfl rfl (Or.inl ⟨hp, rfl, rfl, rfl⟩)

set_option maxHeartbeats 400000 in
set_option maxRecDepth 100000 in
theorem m_wipe (z : mj_B) (d : Nat) (L : Lg) (n : Nat) (mm : Nat → Nat) (rn : Nat) (rm : Nat → Nat) (un kn : Nat) (F A : mj_S) (hM : MI L n mm rn rm un kn F A) : J (gM z) mX6_wipe d 0 [(0, .ref 0)] [] F A (fun v F' A' => v = some (.int (nI L.1)) ∧ F' = mj_u F 0 0 (nI 0) ∧ A' = A) := by
  have hM0 := hM.1.2.1
  have hM1 := hM.2.1.2.1
  have hM2 := hM.2.2.1.2.1
  have hM3 := hM.2.2.2.1.2
  have hM4 := hM.2.2.2.2.1.2
  refine j_aload_n dX6_wipe_0 rfl ?_
  refine j_getI dX6_wipe_1 flX6_93 (Nat.le_of_ble_eq_true rfl) rfl rfl ?_
  refine j_top (y0 := nI (L.1)) hM.1.1 ?_
  refine j_istore_n (lv' := [(0, .ref 0), (1, .int (nI (L.1)))]) dX6_wipe_4 (Nat.le_of_ble_eq_true rfl) rfl rfl ?_
  refine j_aload_n dX6_wipe_5 rfl ?_
  refine j_iconst (v := nI 0) dX6_wipe_6 (by decide +kernel) ?_
  refine j_putI dX6_wipe_7 fpX6_93 (Nat.le_of_ble_eq_true rfl) rfl rfl ?_
  refine j_iload_n dX6_wipe_10 rfl ?_
  exact j_iret dX6_wipe_11 rfl rfl ⟨rfl, rfl, rfl⟩

set_option maxHeartbeats 400000 in
set_option maxRecDepth 100000 in
theorem m_letterAt (z : mj_B) (d : Nat) (L : Lg) (n : Nat) (mm : Nat → Nat) (rn : Nat) (rm : Nat → Nat) (un kn : Nat) (k : Nat) (hk : k < 1000) (F A : mj_S) (hM : MI L n mm rn rm un kn F A) : J (gM z) mX6_letterAt d 0 [(0, .ref 0), (1, .int (nI k))] [] F A (qP F A fun r => r = cL L k) := by
  have hM0 := hM.1.2.1
  have hM1 := hM.2.1.2.1
  have hM2 := hM.2.2.1.2.1
  have hM3 := hM.2.2.2.1.2
  have hM4 := hM.2.2.2.2.1.2
  refine j_iload_n dX6_letterAt_0 rfl ?_
  refine j_aload_n dX6_letterAt_1 rfl ?_
  refine j_getI dX6_letterAt_2 flX6_93 (Nat.le_of_ble_eq_true rfl) rfl rfl ?_
  refine j_top (y0 := nI (L.1)) hM.1.1 ?_
  refine j_icmp_geN (tgt := 17) dX6_letterAt_5 (by decide) (by omega) (by omega) (fun c5 => ?_) (fun c5 => ?_)
  · refine j_iconst (v := nI 0) dX6_letterAt_17 (by decide +kernel) ?_
    exact j_iret dX6_letterAt_18 rfl rfl ⟨rfl, rfl, _, rfl, by unfold cL rd_c; first | rw [if_pos (by omega), hM.1.2.2.1] | (rw [if_neg (by omega)]; exact nI_0)⟩
  · refine j_aload_n dX6_letterAt_8 rfl ?_
    refine j_getR (r := 1) dX6_letterAt_9 flX6_7 (Nat.le_of_ble_eq_true rfl) rfl rfl ?_
    refine j_iload_n dX6_letterAt_12 rfl ?_
    refine j_ialdN dX6_letterAt_13 (Nat.le_of_ble_eq_true rfl) rfl (by omega) (by decide) ?_
    refine j_goto (tgt := 18) dX6_letterAt_14 (by decide) ?_
    exact j_iret dX6_letterAt_18 rfl rfl ⟨rfl, rfl, _, rfl, by unfold cL rd_c; first | rw [if_pos (by omega), hM.1.2.2.1] | (rw [if_neg (by omega)]; exact nI_0)⟩


theorem MI.rn0 {L : Lg} {n : Nat} {mm : Nat → Nat} {rn : Nat} {rm : Nat → Nat} {un kn : Nat} {F A : mj_S} (h : MI L n mm rn rm un kn F A) : MI L n mm 0 rm un kn (mj_u F 0 4 (nI 0)) A := ⟨h.1, h.2.1, ⟨rfl, by omega, h.2.2.1.2.2.1, h.2.2.1.2.2.2.1, fun j hj => absurd hj (by omega)⟩, h.2.2.2⟩
theorem MI.node {L : Lg} {n : Nat} {mm : Nat → Nat} {rn : Nat} {rm : Nat → Nat} {un kn : Nat} {F A : mj_S} (h : MI L n mm rn rm un kn F A) {c : Nat} (hr : rn < 8) (h1 : 1 ≤ c) (h4 : c ≤ 4) : MI L n mm (rn + 1) (fun j => if j = rn then c else rm j) un kn (mj_u F 0 4 (nI (rn + 1))) (mj_u A 3 rn (nI c)) := by
  refine ⟨h.1, h.2.1, ⟨rfl, by omega, fun j hj => ?_, fun j => ?_, fun j hj => ?_⟩, h.2.2.2⟩
  · show (mj_u A 3 rn (nI c)) 3 j = _
    rw [mj_u_at]
    by_cases e : j = rn
    · simp [upd, e]
    · simp [upd, e]; exact h.2.2.1.2.2.1 j hj
  · by_cases e : j = rn
    · simp [e]; exact h4
    · simp [e]; exact h.2.2.1.2.2.2.1 j
  · by_cases e : j = rn
    · simp [e]; exact h1
    · simp [e]; exact h.2.2.1.2.2.2.2 j (by omega)
theorem in_of {x : Int32} {a b : Int64} (h : a ≤ x.toInt64 ∧ x.toInt64 ≤ b) (lo hi : Nat) (ha : a.toInt = lo) (hb : b.toInt = hi) : ∃ w : Nat, x = nI w ∧ lo ≤ w ∧ w ≤ hi := by
  obtain ⟨h1, h2⟩ := h
  rw [Int64.le_iff_toInt_le, Int32.toInt_toInt64, ha] at h1
  rw [Int64.le_iff_toInt_le, Int32.toInt_toInt64, hb] at h2
  obtain ⟨j, hj, e⟩ := nI_of (x := x) (by rw [Int32.lt_iff_toInt_lt, Int32.toInt_zero]; omega)
  refine ⟨j, e, ?_⟩
  rw [e, nI_toInt hj] at h1 h2
  omega
theorem lt_let {L : Lg} {x : Int32} {k sp : Nat} (h : x = cL L sp) (e : x = nI k) (hk : 0 < k) (hk2 : k < 2147483648) : sp < L.1 := rd_c_lt (h.symm.trans e) hk hk2
theorem tsN_t {row : Nat → Int32} {p k : Nat} (hk : k = tsN row p) (h : 0 < row (52 + 16 * p)) : k + 1 = tsN row (p + 1) := by
  show k + 1 = tsN row p + _
  rw [if_pos h, hk]
theorem tsN_f {row : Nat → Int32} {p k : Nat} (hk : k = tsN row p) (h : ¬ 0 < row (52 + 16 * p)) : k + 0 = tsN row (p + 1) := by
  show k + 0 = tsN row p + _
  rw [if_neg h, hk]
theorem tsN_le (row : Nat → Int32) : ∀ p, tsN row p ≤ p
  | 0 => Nat.le_refl _
  | p + 1 => by
    have := tsN_le row p
    show tsN row p + _ ≤ p + 1
    split <;> omega

theorem mj_z {A : mj_S} {b k j : Nat} (h : ∀ j, j < k → A b j = 0) (hj : j < k + 1) : mj_u A b k (nI 0) b j = 0 := by
  rw [mj_u_at]
  by_cases e : j = k
  · simp [upd, e]; exact nI_0
  · simp [upd, e]; exact h j (by omega)

set_option maxHeartbeats 400000 in
set_option maxRecDepth 100000 in
theorem m_readNone (z : mj_B) (d : Nat) (L : Lg) (n : Nat) (mm : Nat → Nat) (rn : Nat) (rm : Nat → Nat) (un kn : Nat) (F A : mj_S) (hM : MI L n mm rn rm un kn F A) : J (gM z) mX6_readNone d 0 [(0, .ref 0)] [] F A (fun v F' A' => v = none ∧ MI L n mm 0 rm un kn F' A' ∧ ∀ j, j < 500 → A' 4 j = 0) := by
  have hM0 := hM.1.2.1
  have hM1 := hM.2.1.2.1
  have hM2 := hM.2.2.1.2.1
  have hM3 := hM.2.2.2.1.2
  have hM4 := hM.2.2.2.2.1.2
  have L7 : ∀ (fuel : Nat) (k : Nat) (F A : mj_S), (MI L n mm 0 rm un kn F A) → (k ≤ 500) → (∀ j, j < k → A 4 j = 0) → 500 - k < fuel → J (gM z) mX6_readNone d 7 [(0, .ref 0), (1, .int (nI k))] [] F A (fun v F' A' => v = none ∧ MI L n mm 0 rm un kn F' A' ∧ ∀ j, j < 500 → A' 4 j = 0) := by
    intro fuel
    induction fuel with
    | zero => intro k F A hM hk hz hf; exact absurd hf (by omega)
    | succ fuel ih7 =>
      intro k F A hM hk hz hf
      refine j_iload_n dX6_readNone_7 rfl ?_
      refine j_sipush (v := nI 500) dX6_readNone_8 (by decide +kernel) ?_
      refine j_icmp_geN (tgt := 27) dX6_readNone_11 (by decide) (by omega) (by omega) (fun c11 => ?_) (fun c11 => ?_)
      · exact j_vret dX6_readNone_27 rfl ⟨rfl, hM, fun j hj => hz j (by omega)⟩
      · refine j_aload_n dX6_readNone_14 rfl ?_
        refine j_getR (r := 4) dX6_readNone_15 flX6_19 (Nat.le_of_ble_eq_true rfl) rfl rfl ?_
        refine j_iload_n dX6_readNone_18 rfl ?_
        refine j_iconst (v := nI 0) dX6_readNone_19 (by decide +kernel) ?_
        refine j_iastN dX6_readNone_20 (Nat.le_of_ble_eq_true rfl) rfl (by omega) (by decide) ?_
        refine j_iinc (v := nI (k + 1)) (lv' := [(0, .ref 0), (1, .int (nI (k + 1)))]) dX6_readNone_21 rfl (nI_add _ 1) (Nat.le_of_ble_eq_true rfl) rfl rfl ?_
        refine j_goto (tgt := 7) dX6_readNone_24 (by decide) ?_
        exact ih7 (k + 1) F (mj_u A 4 k (nI 0)) (by first | exact hM | omega) (by first | exact hk | omega) (fun j hj => mj_z hz (by omega)) (by omega)
  refine j_aload_n dX6_readNone_0 rfl ?_
  refine j_iconst (v := nI 0) dX6_readNone_1 (by decide +kernel) ?_
  refine j_putI dX6_readNone_2 fpX6_77 (Nat.le_of_ble_eq_true rfl) rfl rfl ?_
  have hM := hM.rn0
  refine j_iconst (v := nI 0) dX6_readNone_5 (by decide +kernel) ?_
  refine j_istore_n (lv' := [(0, .ref 0), (1, .int (nI 0))]) dX6_readNone_6 (Nat.le_of_ble_eq_true rfl) rfl rfl ?_
  exact L7 _ 0 (mj_u F 0 4 (nI 0)) A (by first | exact hM | omega) (by first | exact hk | omega) (fun j hj => absurd hj (by omega)) (Nat.lt_succ_self _)

set_option maxHeartbeats 400000 in
set_option maxRecDepth 100000 in
theorem m_tiesIn (z : mj_B) (d rr : Nat) (hb : rr < 18) (hsh : SHM rr = .inl (0, 500, .inl (fun _ => 0))) (F A : mj_S) : J (gM z) mX6_tiesIn d 0 [(0, .ref rr)] [] F A (qN F A fun q => q = tsN (A rr) 28) := by
  have L4 : ∀ (fuel : Nat) (k : Nat) (p : Nat), (k = tsN (A rr) p) → (p ≤ 28) → 28 - p < fuel → J (gM z) mX6_tiesIn d 4 [(0, .ref rr), (1, .int (nI k)), (2, .int (nI p))] [] F A (qN F A fun q => q = tsN (A rr) 28) := by
    intro fuel
    induction fuel with
    | zero => intro k p hk hp hf; exact absurd hf (by omega)
    | succ fuel ih4 =>
      intro k p hk hp hf
      refine j_iload_n dX6_tiesIn_4 rfl ?_
      refine j_bipush (v := nI 28) dX6_tiesIn_5 (by decide +kernel) ?_
      refine j_icmp_geN (tgt := 36) dX6_tiesIn_7 (by decide) (by omega) (by omega) (fun c7 => ?_) (fun c7 => ?_)
      · refine j_iload_n dX6_tiesIn_36 rfl ?_
        exact j_iret dX6_tiesIn_37 rfl rfl ⟨rfl, rfl, _, rfl, by rw [hk, show p = 28 by omega]⟩
      · refine j_iload_n dX6_tiesIn_10 rfl ?_
        refine j_aload_n dX6_tiesIn_11 rfl ?_
        refine j_bipush (v := nI 52) dX6_tiesIn_12 (by decide +kernel) ?_
        refine j_bipush (v := nI 16) dX6_tiesIn_14 (by decide +kernel) ?_
        refine j_iload_n dX6_tiesIn_16 rfl ?_
        refine j_imulN dX6_tiesIn_17 ?_
        refine j_iaddN dX6_tiesIn_18 ?_
        refine j_ialdN dX6_tiesIn_19 hb hsh (by omega) (by decide) ?_
        refine j_if_le (tgt := 27) dX6_tiesIn_20 (by decide) (fun c20 => ?_) (fun c20 => ?_)
        · refine j_iconst (v := nI 0) dX6_tiesIn_27 (by decide +kernel) ?_
          refine j_iaddN dX6_tiesIn_28 ?_
          refine j_istore_n (lv' := [(0, .ref rr), (1, .int (nI (k + 0))), (2, .int (nI p))]) dX6_tiesIn_29 (Nat.le_of_ble_eq_true rfl) rfl rfl ?_
          refine j_iinc (v := nI (p + 1)) (lv' := [(0, .ref rr), (1, .int (nI (k + 0))), (2, .int (nI (p + 1)))]) dX6_tiesIn_30 rfl (nI_add _ 1) (Nat.le_of_ble_eq_true rfl) rfl rfl ?_
          refine j_goto (tgt := 4) dX6_tiesIn_33 (by decide) ?_
          exact ih4 (k + 0) (p + 1) (by first | exact tsN_t hk (Int32.not_le.mp c20) | exact tsN_f hk (Int32.not_lt.mpr c20)) (by first | exact hp | omega) (by omega)
        · refine j_iconst (v := nI 1) dX6_tiesIn_23 (by decide +kernel) ?_
          refine j_goto (tgt := 28) dX6_tiesIn_24 (by decide) ?_
          refine j_iaddN dX6_tiesIn_28 ?_
          refine j_istore_n (lv' := [(0, .ref rr), (1, .int (nI (k + 1))), (2, .int (nI p))]) dX6_tiesIn_29 (Nat.le_of_ble_eq_true rfl) rfl rfl ?_
          refine j_iinc (v := nI (p + 1)) (lv' := [(0, .ref rr), (1, .int (nI (k + 1))), (2, .int (nI (p + 1)))]) dX6_tiesIn_30 rfl (nI_add _ 1) (Nat.le_of_ble_eq_true rfl) rfl rfl ?_
          refine j_goto (tgt := 4) dX6_tiesIn_33 (by decide) ?_
          exact ih4 (k + 1) (p + 1) (by first | exact tsN_t hk (Int32.not_le.mp c20) | exact tsN_f hk (Int32.not_lt.mpr c20)) (by first | exact hp | omega) (by omega)
  refine j_iconst (v := nI 0) dX6_tiesIn_0 (by decide +kernel) ?_
  refine j_istore_n (lv' := [(0, .ref rr), (1, .int (nI 0))]) dX6_tiesIn_1 (Nat.le_of_ble_eq_true rfl) rfl rfl ?_
  refine j_iconst (v := nI 0) dX6_tiesIn_2 (by decide +kernel) ?_
  refine j_istore_n (lv' := [(0, .ref rr), (1, .int (nI 0)), (2, .int (nI 0))]) dX6_tiesIn_3 (Nat.le_of_ble_eq_true rfl) rfl rfl ?_
  exact L4 _ 0 0 rfl (by first | exact hp | omega) (Nat.lt_succ_self _)

set_option maxHeartbeats 400000 in
set_option maxRecDepth 100000 in
theorem m_entryAt (z : mj_B) (d u v i j : Nat) (hu : u < 8) (hv : v < 8) (huv : u ≠ v) (hi : i < 4) (hj : j < 4) (F A : mj_S) : J (gM z) mX6_entryAt d 0 [(0, .int (nI u)), (1, .int (nI v)), (2, .int (nI i)), (3, .int (nI j))] [] F A (qN F A fun q => q = eA u v i j) := by
  refine j_iload_n dX6_entryAt_0 rfl ?_
  refine j_iload_n dX6_entryAt_1 rfl ?_
  refine j_icmp_geN (tgt := 9) dX6_entryAt_2 (by decide) (by omega) (by omega) (fun c2 => ?_) (fun c2 => ?_)
  · have ht := tri_lt u hu v (by omega)
    refine j_iload_n dX6_entryAt_9 rfl ?_
    refine j_istore (lv' := [(0, .int (nI u)), (1, .int (nI v)), (2, .int (nI i)), (3, .int (nI j)), (4, .int (nI v))]) dX6_entryAt_10 (Nat.le_of_ble_eq_true rfl) rfl rfl ?_
    refine j_iload_n dX6_entryAt_12 rfl ?_
    refine j_iload_n dX6_entryAt_13 rfl ?_
    refine j_icmp_geN (tgt := 21) dX6_entryAt_14 (by decide) (by omega) (by omega) (fun c14 => ?_) (fun c14 => ?_)
    · refine j_iload_n dX6_entryAt_21 rfl ?_
      refine j_istore (lv' := [(0, .int (nI u)), (1, .int (nI v)), (2, .int (nI i)), (3, .int (nI j)), (4, .int (nI v)), (5, .int (nI u))]) dX6_entryAt_22 (Nat.le_of_ble_eq_true rfl) rfl rfl ?_
      refine j_iload dX6_entryAt_24 rfl ?_
      refine j_iload dX6_entryAt_26 rfl ?_
      refine j_iconst (v := nI 1) dX6_entryAt_28 (by decide +kernel) ?_
      refine j_isubN dX6_entryAt_29 (by omega) ?_
      refine j_imulN dX6_entryAt_30 ?_
      refine j_iconst (v := nI 2) dX6_entryAt_31 (by decide +kernel) ?_
      refine j_idivN dX6_entryAt_32 (by omega) (by omega) (by omega) ?_
      refine j_iload dX6_entryAt_33 rfl ?_
      refine j_iaddN dX6_entryAt_35 ?_
      refine j_istore (lv' := [(0, .int (nI u)), (1, .int (nI v)), (2, .int (nI i)), (3, .int (nI j)), (4, .int (nI v)), (5, .int (nI u)), (6, .int (nI ((u * (u - 1)) / 2 + v)))]) dX6_entryAt_36 (Nat.le_of_ble_eq_true rfl) rfl rfl ?_
      refine j_bipush (v := nI 52) dX6_entryAt_38 (by decide +kernel) ?_
      refine j_bipush (v := nI 16) dX6_entryAt_40 (by decide +kernel) ?_
      refine j_iload dX6_entryAt_42 rfl ?_
      refine j_imulN dX6_entryAt_44 ?_
      refine j_iaddN dX6_entryAt_45 ?_
      refine j_iconst (v := nI 4) dX6_entryAt_46 (by decide +kernel) ?_
      refine j_iload_n dX6_entryAt_47 rfl ?_
      refine j_iload_n dX6_entryAt_48 rfl ?_
      refine j_icmp_geN (tgt := 56) dX6_entryAt_49 (by decide) (by omega) (by omega) (fun c49 => ?_) (fun c49 => ?_)
      · refine j_iload_n dX6_entryAt_56 rfl ?_
        refine j_imulN dX6_entryAt_57 ?_
        refine j_iaddN dX6_entryAt_58 ?_
        refine j_iload_n dX6_entryAt_59 rfl ?_
        refine j_iload_n dX6_entryAt_60 rfl ?_
        refine j_icmp_geN (tgt := 68) dX6_entryAt_61 (by decide) (by omega) (by omega) (fun c61 => ?_) (fun c61 => ?_)
        · refine j_iload_n dX6_entryAt_68 rfl ?_
          refine j_iaddN dX6_entryAt_69 ?_
          exact j_iret dX6_entryAt_70 rfl rfl ⟨rfl, rfl, _, rfl, by unfold eA; first | (rw [if_pos (by omega)]) | (rw [if_neg (by omega)])⟩
        · exfalso; omega
      · exfalso; omega
    · exfalso; omega
  · have ht := tri_lt v hv u (by omega)
    refine j_iload_n dX6_entryAt_5 rfl ?_
    refine j_goto (tgt := 10) dX6_entryAt_6 (by decide) ?_
    refine j_istore (lv' := [(0, .int (nI u)), (1, .int (nI v)), (2, .int (nI i)), (3, .int (nI j)), (4, .int (nI u))]) dX6_entryAt_10 (Nat.le_of_ble_eq_true rfl) rfl rfl ?_
    refine j_iload_n dX6_entryAt_12 rfl ?_
    refine j_iload_n dX6_entryAt_13 rfl ?_
    refine j_icmp_geN (tgt := 21) dX6_entryAt_14 (by decide) (by omega) (by omega) (fun c14 => ?_) (fun c14 => ?_)
    · exfalso; omega
    · refine j_iload_n dX6_entryAt_17 rfl ?_
      refine j_goto (tgt := 22) dX6_entryAt_18 (by decide) ?_
      refine j_istore (lv' := [(0, .int (nI u)), (1, .int (nI v)), (2, .int (nI i)), (3, .int (nI j)), (4, .int (nI u)), (5, .int (nI v))]) dX6_entryAt_22 (Nat.le_of_ble_eq_true rfl) rfl rfl ?_
      refine j_iload dX6_entryAt_24 rfl ?_
      refine j_iload dX6_entryAt_26 rfl ?_
      refine j_iconst (v := nI 1) dX6_entryAt_28 (by decide +kernel) ?_
      refine j_isubN dX6_entryAt_29 (by omega) ?_
      refine j_imulN dX6_entryAt_30 ?_
      refine j_iconst (v := nI 2) dX6_entryAt_31 (by decide +kernel) ?_
      refine j_idivN dX6_entryAt_32 (by omega) (by omega) (by omega) ?_
      refine j_iload dX6_entryAt_33 rfl ?_
      refine j_iaddN dX6_entryAt_35 ?_
      refine j_istore (lv' := [(0, .int (nI u)), (1, .int (nI v)), (2, .int (nI i)), (3, .int (nI j)), (4, .int (nI u)), (5, .int (nI v)), (6, .int (nI ((v * (v - 1)) / 2 + u)))]) dX6_entryAt_36 (Nat.le_of_ble_eq_true rfl) rfl rfl ?_
      refine j_bipush (v := nI 52) dX6_entryAt_38 (by decide +kernel) ?_
      refine j_bipush (v := nI 16) dX6_entryAt_40 (by decide +kernel) ?_
      refine j_iload dX6_entryAt_42 rfl ?_
      refine j_imulN dX6_entryAt_44 ?_
      refine j_iaddN dX6_entryAt_45 ?_
      refine j_iconst (v := nI 4) dX6_entryAt_46 (by decide +kernel) ?_
      refine j_iload_n dX6_entryAt_47 rfl ?_
      refine j_iload_n dX6_entryAt_48 rfl ?_
      refine j_icmp_geN (tgt := 56) dX6_entryAt_49 (by decide) (by omega) (by omega) (fun c49 => ?_) (fun c49 => ?_)
      · exfalso; omega
      · refine j_iload_n dX6_entryAt_52 rfl ?_
        refine j_goto (tgt := 57) dX6_entryAt_53 (by decide) ?_
        refine j_imulN dX6_entryAt_57 ?_
        refine j_iaddN dX6_entryAt_58 ?_
        refine j_iload_n dX6_entryAt_59 rfl ?_
        refine j_iload_n dX6_entryAt_60 rfl ?_
        refine j_icmp_geN (tgt := 68) dX6_entryAt_61 (by decide) (by omega) (by omega) (fun c61 => ?_) (fun c61 => ?_)
        · exfalso; omega
        · refine j_iload_n dX6_entryAt_64 rfl ?_
          refine j_goto (tgt := 69) dX6_entryAt_65 (by decide) ?_
          refine j_iaddN dX6_entryAt_69 ?_
          exact j_iret dX6_entryAt_70 rfl rfl ⟨rfl, rfl, _, rfl, by unfold eA; first | (rw [if_pos (by omega)]) | (rw [if_neg (by omega)])⟩

set_option maxHeartbeats 400000 in
set_option maxRecDepth 100000 in
theorem m_isTied (z : mj_B) (d u v : Nat) (hu : u < 8) (hv : v < 8) (F A : mj_S) : J (gM z) mX6_isTied (d + 1) 0 [(0, .ref 0), (1, .int (nI u)), (2, .int (nI v))] [] F A (qN F A fun r => (r = 1 ∧ u ≠ v ∧ 0 < A 5 (eA u v 0 0)) ∨ (r = 0 ∧ ¬ (u ≠ v ∧ 0 < A 5 (eA u v 0 0)))) := by
  refine j_iload_n dX6_isTied_0 rfl ?_
  refine j_iload_n dX6_isTied_1 rfl ?_
  refine j_icmp_eqN (tgt := 24) dX6_isTied_2 (by decide) (by omega) (by omega) (fun c2 => ?_) (fun c2 => ?_)
  · refine j_iconst (v := nI 0) dX6_isTied_24 (by decide +kernel) ?_
    exact j_iret dX6_isTied_25 rfl (by decide +kernel) ⟨rfl, rfl, _, rfl, by first | exact Or.inl ⟨rfl, c2, by rw [← he13]; exact c17⟩ | exact Or.inr ⟨rfl, fun h => h.1 c2⟩ | exact Or.inr ⟨rfl, fun h => absurd (by rw [← he13] at h; exact h.2) (Int32.not_lt.mpr c17)⟩⟩
  · refine j_aload_n dX6_isTied_5 rfl ?_
    refine j_getR (r := 5) dX6_isTied_6 flX6_22 (Nat.le_of_ble_eq_true rfl) rfl rfl ?_
    refine j_iload_n dX6_isTied_9 rfl ?_
    refine j_iload_n dX6_isTied_10 rfl ?_
    refine j_iconst (v := nI 0) dX6_isTied_11 (by decide +kernel) ?_
    refine j_iconst (v := nI 0) dX6_isTied_12 (by decide +kernel) ?_
    refine j_callS (y' := mX6_entryAt) (As := [.int (nI u), .int (nI v), .int (nI 0), .int (nI 0)]) (st := [.ref 5]) dX6_isTied_13 lkX6_81 okX6_entryAt stX6_entryAt rfl (Nat.le_of_ble_eq_true rfl) (Nat.le_of_ble_eq_true rfl) (m_entryAt z _ u v 0 0 (by omega) (by omega) (by omega) (by omega) (by omega) F A) (fun v13 F13 A13 hq13 => ?_)
    obtain ⟨rfl, rfl, e13, rfl, he13⟩ := hq13
    have hl13 : e13 < 500 := by rw [he13]; exact eA_lt (by omega) (by omega) (by omega) (by omega) (by omega)
    refine j_ialdN dX6_isTied_16 (Nat.le_of_ble_eq_true rfl) rfl (by omega) (by decide) ?_
    refine j_if_le (tgt := 24) dX6_isTied_17 (by decide) (fun c17 => ?_) (fun c17 => ?_)
    · refine j_iconst (v := nI 0) dX6_isTied_24 (by decide +kernel) ?_
      exact j_iret dX6_isTied_25 rfl (by decide +kernel) ⟨rfl, rfl, _, rfl, by first | exact Or.inl ⟨rfl, c2, by rw [← he13]; exact c17⟩ | exact Or.inr ⟨rfl, fun h => h.1 c2⟩ | exact Or.inr ⟨rfl, fun h => absurd (by rw [← he13] at h; exact h.2) (Int32.not_lt.mpr c17)⟩⟩
    · have c17 := Int32.not_le.mp c17
      refine j_iconst (v := nI 1) dX6_isTied_20 (by decide +kernel) ?_
      refine j_goto (tgt := 25) dX6_isTied_21 (by decide) ?_
      exact j_iret dX6_isTied_25 rfl (by decide +kernel) ⟨rfl, rfl, _, rfl, by first | exact Or.inl ⟨rfl, c2, by rw [← he13]; exact c17⟩ | exact Or.inr ⟨rfl, fun h => h.1 c2⟩ | exact Or.inr ⟨rfl, fun h => absurd (by rw [← he13] at h; exact h.2) (Int32.not_lt.mpr c17)⟩⟩
