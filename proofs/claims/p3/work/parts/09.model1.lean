/-! the reference: its state's words, and its small methods -/
/-- the reference's state: length L, nodes n, choices mm, what is read (rn, rm), undo and kept -/
def MI (L n : Nat) (mm : Nat → Nat) (rn : Nat) (rm : Nat → Nat) (un kn : Nat) (F A : mj_S) : Prop :=
  (F 0 0 = nI L ∧ L ≤ 200) ∧ (F 0 2 = nI n ∧ n ≤ 8 ∧ (∀ j, j < 8 → A 2 j = nI (mm j)) ∧ (∀ j, mm j ≤ 4) ∧ ∀ j, j < n → 1 ≤ mm j) ∧
  (F 0 4 = nI rn ∧ rn ≤ 8 ∧ (∀ j, j < 8 → A 3 j = nI (rm j)) ∧ (∀ j, rm j ≤ 4) ∧ ∀ j, j < rn → 1 ≤ rm j) ∧ (F 0 9 = nI un ∧ un ≤ 8) ∧ (F 0 11 = nI kn ∧ kn ≤ 2) ∧ rg (A 14) 8 3

set_option maxHeartbeats 4000000 in
set_option maxRecDepth 100000 in
theorem m_in (z : mj_B) (d : Nat) (a b c : Int64) (F A : mj_S) : J (gM z) mX6_in d 0 [(0, .long a), (2, .long b), (4, .long c)] [] F A (qN F A fun r => (r = 1 ∧ b ≤ a ∧ a ≤ c) ∨ (r = 0 ∧ ¬ (b ≤ a ∧ a ≤ c))) := by
  refine j_lload_n dX6_in_0 rfl ?_
  refine j_lload_n dX6_in_1 rfl ?_
  refine j_lcmp dX6_in_2 ?_
  refine j_if_lt (tgt := 17) dX6_in_3 (by decide) (fun c3 => ?_) (fun c3 => ?_)
  · refine j_iconst (v := nI 0) dX6_in_17 (by decide +kernel) ?_
    exact j_iret dX6_in_18 rfl (by decide +kernel) ⟨rfl, rfl, _, rfl, by first | exact Or.inl ⟨rfl, lg_ge.mp c3, lg_le.mp c10⟩ | exact Or.inr ⟨rfl, fun h => lg_ge.mpr h.1 c3⟩ | exact Or.inr ⟨rfl, fun h => lg_le.mpr h.2 c10⟩⟩
  · refine j_lload_n dX6_in_6 rfl ?_
    refine j_lload dX6_in_7 rfl ?_
    refine j_lcmp dX6_in_9 ?_
    refine j_if_gt (tgt := 17) dX6_in_10 (by decide) (fun c10 => ?_) (fun c10 => ?_)
    · refine j_iconst (v := nI 0) dX6_in_17 (by decide +kernel) ?_
      exact j_iret dX6_in_18 rfl (by decide +kernel) ⟨rfl, rfl, _, rfl, by first | exact Or.inl ⟨rfl, lg_ge.mp c3, lg_le.mp c10⟩ | exact Or.inr ⟨rfl, fun h => lg_ge.mpr h.1 c3⟩ | exact Or.inr ⟨rfl, fun h => lg_le.mpr h.2 c10⟩⟩
    · refine j_iconst (v := nI 1) dX6_in_13 (by decide +kernel) ?_
      refine j_goto (tgt := 18) dX6_in_14 (by decide) ?_
      exact j_iret dX6_in_18 rfl (by decide +kernel) ⟨rfl, rfl, _, rfl, by first | exact Or.inl ⟨rfl, lg_ge.mp c3, lg_le.mp c10⟩ | exact Or.inr ⟨rfl, fun h => lg_ge.mpr h.1 c3⟩ | exact Or.inr ⟨rfl, fun h => lg_le.mpr h.2 c10⟩⟩

set_option maxHeartbeats 4000000 in
set_option maxRecDepth 100000 in
theorem m_write (z : mj_B) (d : Nat) (L n : Nat) (mm : Nat → Nat) (rn : Nat) (rm : Nat → Nat) (un kn : Nat) (x : Int32) (F A : mj_S) (hM : MI L n mm rn rm un kn F A) : J (gM z) mX6_write (d + 1) 0 [(0, .ref 0), (1, .int x)] [] F A (fun v F' A' => (¬ ((32 : Int64) ≤ x.toInt64 ∧ x.toInt64 ≤ 126) ∧ v = some (.int (-1)) ∧ F' = F ∧ A' = A) ∨ (((32 : Int64) ≤ x.toInt64 ∧ x.toInt64 ≤ 126) ∧ L = 200 ∧ v = some (.int (-3)) ∧ F' = F ∧ A' = A) ∨ (((32 : Int64) ≤ x.toInt64 ∧ x.toInt64 ≤ 126) ∧ L < 200 ∧ v = some (.int (nI (L + 1))) ∧ F' = mj_u F 0 0 (nI (L + 1)) ∧ A' = mj_u A 1 L x)) := by
  have hM0 := hM.1.2
  have hM1 := hM.2.1.2.1
  have hM2 := hM.2.2.1.2.1
  have hM3 := hM.2.2.2.1.2
  have hM4 := hM.2.2.2.2.1.2
  refine j_iload_n dX6_write_0 rfl ?_
  refine j_i2l dX6_write_1 rfl ?_
  refine j_ldc2 dX6_write_2 klX6_85 ?_
  refine j_ldc2 dX6_write_5 klX6_87 ?_
  refine j_callS (y' := mX6_in) (As := [.long (x.toInt64), .long ((32)), .long ((126))]) (st := []) dX6_write_8 lkX6_89 okX6_in stX6_in rfl (Nat.le_of_ble_eq_true rfl) (Nat.le_of_ble_eq_true rfl) (m_in z _ x.toInt64 (32) (126) F A) (fun v8 F8 A8 hq8 => ?_)
  obtain ⟨rfl, rfl, r8, rfl, hr8⟩ := hq8
  have hb8 : r8 ≤ 1 := by omega
  refine j_if_neN (tgt := 16) dX6_write_11 (by decide) (by omega) (fun c11 => ?_) (fun c11 => ?_)
  · have hp := (hr8.resolve_right (fun h => by omega)).2
    refine j_aload_n dX6_write_16 rfl ?_
    refine j_getI dX6_write_17 flX6_93 (Nat.le_of_ble_eq_true rfl) rfl rfl ?_
    refine j_top (y0 := nI L) hM.1.1 ?_
    refine j_sipush (v := nI 200) dX6_write_20 (by decide +kernel) ?_
    refine j_icmp_neN (tgt := 29) dX6_write_23 (by decide) (by omega) (by omega) (fun c23 => ?_) (fun c23 => ?_)
    · refine j_aload_n dX6_write_29 rfl ?_
      refine j_getR (r := 1) dX6_write_30 flX6_7 (Nat.le_of_ble_eq_true rfl) rfl rfl ?_
      refine j_aload_n dX6_write_33 rfl ?_
      refine j_getI dX6_write_34 flX6_93 (Nat.le_of_ble_eq_true rfl) rfl rfl ?_
      refine j_top (y0 := nI L) hM.1.1 ?_
      refine j_iload_n dX6_write_37 rfl ?_
      refine j_iastN dX6_write_38 (Nat.le_of_ble_eq_true rfl) rfl (by omega) (by decide) ?_
      refine j_aload_n dX6_write_39 rfl ?_
      refine j_dup dX6_write_40 rfl ?_
      refine j_getI dX6_write_41 flX6_93 (Nat.le_of_ble_eq_true rfl) rfl rfl ?_
      refine j_top (y0 := nI L) hM.1.1 ?_
      refine j_iconst (v := nI 1) dX6_write_44 (by decide +kernel) ?_
      refine j_iaddN dX6_write_45 ?_
      refine j_putI dX6_write_46 fpX6_93 (Nat.le_of_ble_eq_true rfl) rfl rfl ?_
      refine j_aload_n dX6_write_49 rfl ?_
      refine j_getI dX6_write_50 flX6_93 (Nat.le_of_ble_eq_true rfl) rfl rfl ?_
      refine j_top (y0 := nI (L + 1)) rfl ?_
      exact j_iret dX6_write_53 rfl rfl (Or.inr (Or.inr ⟨hp, by omega, rfl, rfl, rfl⟩))
    · refine j_bipush (v := (-3)) dX6_write_26 (by decide +kernel) ?_
      exact j_iret dX6_write_28 rfl rfl (Or.inr (Or.inl ⟨hp, by omega, rfl, rfl, rfl⟩))
  · have hp := (hr8.resolve_left (fun h => by omega)).2
    refine j_iconst (v := (-1)) dX6_write_14 (by decide +kernel) ?_
    exact j_iret dX6_write_15 rfl rfl (Or.inl ⟨hp, rfl, rfl, rfl⟩)

set_option maxHeartbeats 4000000 in
set_option maxRecDepth 100000 in
theorem m_wipe (z : mj_B) (d : Nat) (L n : Nat) (mm : Nat → Nat) (rn : Nat) (rm : Nat → Nat) (un kn : Nat) (F A : mj_S) (hM : MI L n mm rn rm un kn F A) : J (gM z) mX6_wipe d 0 [(0, .ref 0)] [] F A (fun v F' A' => v = some (.int (nI L)) ∧ F' = mj_u F 0 0 (nI 0) ∧ A' = A) := by
  have hM0 := hM.1.2
  have hM1 := hM.2.1.2.1
  have hM2 := hM.2.2.1.2.1
  have hM3 := hM.2.2.2.1.2
  have hM4 := hM.2.2.2.2.1.2
  refine j_aload_n dX6_wipe_0 rfl ?_
  refine j_getI dX6_wipe_1 flX6_93 (Nat.le_of_ble_eq_true rfl) rfl rfl ?_
  refine j_top (y0 := nI L) hM.1.1 ?_
  refine j_istore_n (lv' := [(0, .ref 0), (1, .int (nI L))]) dX6_wipe_4 (Nat.le_of_ble_eq_true rfl) rfl rfl ?_
  refine j_aload_n dX6_wipe_5 rfl ?_
  refine j_iconst (v := nI 0) dX6_wipe_6 (by decide +kernel) ?_
  refine j_putI dX6_wipe_7 fpX6_93 (Nat.le_of_ble_eq_true rfl) rfl rfl ?_
  refine j_iload_n dX6_wipe_10 rfl ?_
  exact j_iret dX6_wipe_11 rfl rfl ⟨rfl, rfl, rfl⟩

set_option maxHeartbeats 4000000 in
set_option maxRecDepth 100000 in
theorem m_letterAt (z : mj_B) (d : Nat) (L n : Nat) (mm : Nat → Nat) (rn : Nat) (rm : Nat → Nat) (un kn : Nat) (k : Nat) (hk : k < 1000) (F A : mj_S) (hM : MI L n mm rn rm un kn F A) : J (gM z) mX6_letterAt d 0 [(0, .ref 0), (1, .int (nI k))] [] F A (qP F A fun r => r = if k < L then A 1 k else 0) := by
  have hM0 := hM.1.2
  have hM1 := hM.2.1.2.1
  have hM2 := hM.2.2.1.2.1
  have hM3 := hM.2.2.2.1.2
  have hM4 := hM.2.2.2.2.1.2
  refine j_iload_n dX6_letterAt_0 rfl ?_
  refine j_aload_n dX6_letterAt_1 rfl ?_
  refine j_getI dX6_letterAt_2 flX6_93 (Nat.le_of_ble_eq_true rfl) rfl rfl ?_
  refine j_top (y0 := nI L) hM.1.1 ?_
  refine j_icmp_geN (tgt := 17) dX6_letterAt_5 (by decide) (by omega) (by omega) (fun c5 => ?_) (fun c5 => ?_)
  · refine j_iconst (v := nI 0) dX6_letterAt_17 (by decide +kernel) ?_
    exact j_iret dX6_letterAt_18 rfl rfl ⟨rfl, rfl, _, rfl, by first | rw [if_pos (by omega)] | (rw [if_neg (by omega)]; exact nI_0)⟩
  · refine j_aload_n dX6_letterAt_8 rfl ?_
    refine j_getR (r := 1) dX6_letterAt_9 flX6_7 (Nat.le_of_ble_eq_true rfl) rfl rfl ?_
    refine j_iload_n dX6_letterAt_12 rfl ?_
    refine j_ialdN dX6_letterAt_13 (Nat.le_of_ble_eq_true rfl) rfl (by omega) (by decide) ?_
    refine j_goto (tgt := 18) dX6_letterAt_14 (by decide) ?_
    exact j_iret dX6_letterAt_18 rfl rfl ⟨rfl, rfl, _, rfl, by first | rw [if_pos (by omega)] | (rw [if_neg (by omega)]; exact nI_0)⟩
