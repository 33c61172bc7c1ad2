/-! the class: its own methods -/
theorem in32 {x : Int32} {n : Nat} (hn : n ≤ 8) (h : nI 0 ≤ x ∧ x ≤ nI n - nI 1) : ∃ j, j < n ∧ x = nI j := by
  obtain ⟨h1, h2⟩ := h
  rw [Int32.le_iff_toInt_le, nI_toInt (by decide)] at h1
  rw [Int32.le_iff_toInt_le, pk_sub_toInt (by omega) (by decide)] at h2
  obtain ⟨j, hj, e⟩ := nI_of (x := x) (by rw [Int32.lt_iff_toInt_lt, Int32.toInt_zero]; omega)
  refine ⟨j, ?_, e⟩
  rw [e, nI_toInt hj] at h2
  omega
theorem CB.past {T : Nat} {F A : mj_S} (h : CB T F A) (i : Nat) {o : Nat} (ho : isG o) : CB T F (mj_u A 3 i (nI o)) := by
  refine ⟨h.1, h.2.1, h.2.2.1, fun o' ho' => ⟨(h.2.2.2.1 o' ho').1, by rw [mj_u_ne A _ (isN_lit ho' (by omega))]; exact (h.2.2.2.1 o' ho').2⟩, h.2.2.2.2.1, fun j hj => ?_, h.2.2.2.2.2.2⟩
  rw [mj_u_at]
  by_cases e : j = i
  · exact ⟨o, ho, by simp [upd, e]⟩
  · obtain ⟨o', h1, h2⟩ := h.2.2.2.2.2.1 j hj
    exact ⟨o', h1, by simp [upd, e]; exact h2⟩
theorem CB.pn {T : Nat} {F A : mj_S} (h : CB T F A) {n : Nat} (hn : n ≤ 8) : CB T (mj_u F 0 6 (nI n)) A := ⟨h.1, ⟨n, hn, rfl⟩, h.2.2.1, fun o ho => ⟨by
  obtain ⟨n', h1, h2⟩ := (h.2.2.2.1 o ho).1
  exact ⟨n', h1, by rw [mj_u_off _ (Or.inr (by decide))]; exact h2⟩, (h.2.2.2.1 o ho).2⟩, h.2.2.2.2⟩
theorem CB.kn {T : Nat} {F A : mj_S} (h : CB T F A) {n : Nat} (hn : n ≤ 2) : CB T (mj_u F 0 8 (nI n)) A := ⟨h.1, h.2.1, ⟨n, hn, rfl⟩, fun o ho => ⟨by
  obtain ⟨n', h1, h2⟩ := (h.2.2.2.1 o ho).1
  exact ⟨n', h1, by rw [mj_u_off _ (Or.inr (by decide))]; exact h2⟩, (h.2.2.2.1 o ho).2⟩, h.2.2.2.2⟩
theorem CB.tl {T : Nat} {F A : mj_S} (h : CB T F A) {n : Nat} (hn : n ≤ 200) : CB n (mj_u F 0 1 (nI n)) A := ⟨⟨rfl, hn⟩, h.2.1, h.2.2.1, fun o ho => ⟨by
  obtain ⟨n', h1, h2⟩ := (h.2.2.2.1 o ho).1
  exact ⟨n', h1, by rw [mj_u_off _ (Or.inr (by decide))]; exact h2⟩, (h.2.2.2.1 o ho).2⟩, h.2.2.2.2⟩

set_option maxHeartbeats 400000 in
set_option maxRecDepth 100000 in
theorem c_write (z : mj_B) (d : Nat) (T : Tg) (x1 : Int32) (F A : mj_S) (hC : CI T F A) : J (gC z) mX5_write (d + 1) 0 [(0, .ref 0), (1, .int x1)] [] F A (fun v F' A' => (¬ (nI 32 ≤ x1 ∧ x1 ≤ nI 126) ∧ v = some (.int (-1)) ∧ F = F' ∧ A = A') ∨ ((nI 32 ≤ x1 ∧ x1 ≤ nI 126) ∧ T.1 = 200 ∧ v = some (.int (-3)) ∧ F = F' ∧ A = A') ∨ ((nI 32 ≤ x1 ∧ x1 ≤ nI 126) ∧ T.1 < 200 ∧ v = some (.int (nI (T.1 + 1))) ∧ CB (T.1 + 1) F' A' ∧ F' = mj_u F 0 1 (nI (T.1 + 1)) ∧ A' = mj_u A 1 T.1 (vp_nar .char ((x1.toUInt32 % 65536).toInt32)))) := by
  have hT := hC.1.2.1
  refine j_iload_n dX5_write_0 rfl ?_
  refine j_bipush (v := nI 32) dX5_write_1 (by decide +kernel) ?_
  refine j_bipush (v := nI 126) dX5_write_3 (by decide +kernel) ?_
  refine j_callS (y' := mX5_isWithin) (As := [.int x1, .int (nI 32), .int (nI 126)]) (st := []) dX5_write_5 lkX5_90 okX5_isWithin stX5_isWithin rfl (Nat.le_of_ble_eq_true rfl) (Nat.le_of_ble_eq_true rfl) (c_isWithin z _ x1 (nI 32) (nI 126) F A) (fun v5 F5 A5 hq5 => ?_)
  obtain ⟨rfl, rfl, r5, rfl, hr5⟩ := hq5
  have hb5 : r5 ≤ 1 := by omega
  refine j_if_neN (tgt := 13) dX5_write_8 (by decide) (by omega) (fun c8 => ?_) (fun c8 => ?_)
  · have hp := (hr5.resolve_right (fun h => by omega)).2
    refine j_aload_n dX5_write_13 rfl ?_
    refine j_getI dX5_write_14 flX5_94 (Nat.le_of_ble_eq_true rfl) rfl rfl ?_
    refine j_top (y0 := nI (T.1)) hC.1.1 ?_
    refine j_sipush (v := nI 200) dX5_write_17 (by decide +kernel) ?_
    refine j_icmp_ltN (tgt := 26) dX5_write_20 (by decide) (by omega) (by omega) (fun c20 => ?_) (fun c20 => ?_)
    · refine j_aload_n dX5_write_26 rfl ?_
      refine j_getR (r := 1) dX5_write_27 flX5_9 (Nat.le_of_ble_eq_true rfl) rfl rfl ?_
      refine j_aload_n dX5_write_30 rfl ?_
      refine j_getI dX5_write_31 flX5_94 (Nat.le_of_ble_eq_true rfl) rfl rfl ?_
      refine j_top (y0 := nI (T.1)) hC.1.1 ?_
      refine j_iload_n dX5_write_34 rfl ?_
      refine j_i2c dX5_write_35 rfl ?_
      refine j_castN dX5_write_36 (Nat.le_of_ble_eq_true rfl) rfl (by omega) (by decide) ?_
      have hCb := hC.b.u (k := 1) rfl T.1 (vp_nar .char ((x1.toUInt32 % 65536).toInt32))
      refine j_aload_n dX5_write_37 rfl ?_
      refine j_dup dX5_write_38 rfl ?_
      refine j_getI dX5_write_39 flX5_94 (Nat.le_of_ble_eq_true rfl) rfl rfl ?_
      refine j_top (y0 := nI (T.1)) hC.1.1 ?_
      refine j_iconst (v := nI 1) dX5_write_42 (by decide +kernel) ?_
      refine j_iaddN dX5_write_43 ?_
      refine j_putI dX5_write_44 fpX5_94 (Nat.le_of_ble_eq_true rfl) rfl rfl ?_
      have hCb := hCb.tl (n := T.1 + 1) (by omega)
      refine j_aload_n dX5_write_47 rfl ?_
      refine j_getI dX5_write_48 flX5_94 (Nat.le_of_ble_eq_true rfl) rfl rfl ?_
      refine j_top (y0 := nI (T.1 + 1)) rfl ?_
      exact j_iret dX5_write_51 rfl rfl (Or.inr (Or.inr ⟨hp, by omega, rfl, hCb, rfl, rfl⟩))
    · refine j_bipush (v := (-3)) dX5_write_23 (by decide +kernel) ?_
      exact j_iret dX5_write_25 rfl rfl (Or.inr (Or.inl ⟨hp, by omega, rfl, rfl, rfl⟩))
  · have hp := (hr5.resolve_left (fun h => by omega)).2
    refine j_iconst (v := (-1)) dX5_write_11 (by decide +kernel) ?_
    exact j_iret dX5_write_12 rfl rfl (Or.inl ⟨hp, rfl, rfl, rfl⟩)

set_option maxHeartbeats 400000 in
set_option maxRecDepth 100000 in
theorem c_wipe (z : mj_B) (d : Nat) (T : Tg) (F A : mj_S) (hC : CI T F A) : J (gC z) mX5_wipe d 0 [(0, .ref 0)] [] F A (fun v F' A' => v = some (.int (nI T.1)) ∧ CB 0 F' A' ∧ F' = mj_u F 0 1 (nI 0) ∧ A' = A) := by
  have hT := hC.1.2.1
  refine j_aload_n dX5_wipe_0 rfl ?_
  refine j_getI dX5_wipe_1 flX5_94 (Nat.le_of_ble_eq_true rfl) rfl rfl ?_
  refine j_top (y0 := nI (T.1)) hC.1.1 ?_
  refine j_istore_n (lv' := [(0, .ref 0), (1, .int (nI (T.1)))]) dX5_wipe_4 (Nat.le_of_ble_eq_true rfl) rfl rfl ?_
  refine j_aload_n dX5_wipe_5 rfl ?_
  refine j_iconst (v := nI 0) dX5_wipe_6 (by decide +kernel) ?_
  refine j_putI dX5_wipe_7 fpX5_94 (Nat.le_of_ble_eq_true rfl) rfl rfl ?_
  have hCb := hC.b.tl (n := 0) (by omega)
  refine j_iload_n dX5_wipe_10 rfl ?_
  exact j_iret dX5_wipe_11 rfl rfl ⟨rfl, hCb, rfl, rfl⟩

set_option maxHeartbeats 400000 in
set_option maxRecDepth 100000 in
theorem c_isNode (z : mj_B) (d : Nat) (T : Tg) (x1 : Int32) (F A : mj_S) (hC : CI T F A) : J (gC z) mX5_isNode (d + 1) 0 [(0, .ref 0), (1, .int x1)] [] F A (qN F A fun r => r ≤ 1 ∧ (r = 1 → ∃ j, j < 8 ∧ x1 = nI j)) := by
  obtain ⟨n, hn, en⟩ := (hC.2.2.2.1 33 n33).1
  refine j_iload_n dX5_isNode_0 rfl ?_
  refine j_iconst (v := nI 0) dX5_isNode_1 (by decide +kernel) ?_
  refine j_aload_n dX5_isNode_2 rfl ?_
  refine j_getR (r := 33) dX5_isNode_3 flX5_16 (Nat.le_of_ble_eq_true rfl) rfl rfl ?_
  refine j_getI dX5_isNode_6 flX5_101 (Nat.le_of_ble_eq_true rfl) rfl rfl ?_
  refine j_top (y0 := nI n) en ?_
  refine j_iconst (v := nI 1) dX5_isNode_9 (by decide +kernel) ?_
  refine j_isub dX5_isNode_10 ?_
  refine j_top (y0 := (nI n) - (nI 1)) rfl ?_
  refine j_callS (y' := mX5_isWithin) (As := [.int x1, .int (nI 0), .int ((nI n) - (nI 1))]) (st := []) dX5_isNode_11 lkX5_90 okX5_isWithin stX5_isWithin rfl (Nat.le_of_ble_eq_true rfl) (Nat.le_of_ble_eq_true rfl) (c_isWithin z _ x1 (nI 0) ((nI n) - (nI 1)) F A) (fun v11 F11 A11 hq11 => ?_)
  obtain ⟨rfl, rfl, r11, rfl, hr11⟩ := hq11
  have hb11 : r11 ≤ 1 := by omega
  exact j_iret dX5_isNode_14 rfl (mj_nz (by omega)) ⟨rfl, rfl, _, rfl, hb11, fun h => by obtain ⟨j, h1, h2⟩ := in32 hn (hr11.resolve_right (fun h => by omega)).2; exact ⟨j, by omega, h2⟩⟩

set_option maxHeartbeats 400000 in
set_option maxRecDepth 100000 in
theorem c_isChoice (z : mj_B) (d : Nat) (T : Tg) (x1 x2 : Int32) (F A : mj_S) (hC : CI T F A) : J (gC z) mX5_isChoice (d + 2) 0 [(0, .ref 0), (1, .int x1), (2, .int x2)] [] F A (qN F A fun r => r ≤ 1 ∧ (r = 1 → ∃ j k, j < 8 ∧ k < 4 ∧ x1 = nI j ∧ x2 = nI k)) := by
  refine j_aload_n dX5_isChoice_0 rfl ?_
  refine j_iload_n dX5_isChoice_1 rfl ?_
  refine j_callV (y' := mX5_isNode) (As := [.int x1]) (st := []) dX5_isChoice_2 lkX5_117 okX5_isNode imX5_isNode seX5_isNode (Nat.le_of_ble_eq_true rfl) rfl rfl rfl rfl (Nat.le_of_ble_eq_true rfl) (Nat.le_of_ble_eq_true rfl) (c_isNode z _ _ x1 F A hC) (fun v2 F2 A2 hq2 => ?_)
  obtain ⟨rfl, rfl, r2, rfl, hr2⟩ := hq2
  have hb2 : r2 ≤ 1 := hr2.1
  refine j_if_eqN (tgt := 31) dX5_isChoice_5 (by decide) (by omega) (fun c5 => ?_) (fun c5 => ?_)
  · refine j_iconst (v := nI 0) dX5_isChoice_31 (by decide +kernel) ?_
    exact j_iret dX5_isChoice_32 rfl (by decide +kernel) ⟨rfl, rfl, _, rfl, by omega, fun h => by first | exact ⟨j, k, hj, by omega, rfl, rfl⟩ | omega⟩
  · obtain ⟨j, hj, rfl⟩ := hr2.2 (by omega)
    refine j_iload_n dX5_isChoice_8 rfl ?_
    refine j_iconst (v := nI 0) dX5_isChoice_9 (by decide +kernel) ?_
    refine j_aload_n dX5_isChoice_10 rfl ?_
    refine j_getR (r := 33) dX5_isChoice_11 flX5_16 (Nat.le_of_ble_eq_true rfl) rfl rfl ?_
    refine j_getR (r := 34) dX5_isChoice_14 flX5_125 (Nat.le_of_ble_eq_true rfl) rfl rfl ?_
    refine j_iload_n dX5_isChoice_17 rfl ?_
    refine j_ialdN dX5_isChoice_18 (Nat.le_of_ble_eq_true rfl) rfl (by omega) (by decide) ?_
    obtain ⟨t1, ht1, et1⟩ := (hC.2.2.2.1 33 n33).2 j (by omega)
    refine j_top (y0 := nI t1) et1 ?_
    refine j_iconst (v := nI 1) dX5_isChoice_19 (by decide +kernel) ?_
    refine j_isub dX5_isChoice_20 ?_
    refine j_top (y0 := (nI t1) - (nI 1)) rfl ?_
    refine j_callS (y' := mX5_isWithin) (As := [.int x2, .int (nI 0), .int ((nI t1) - (nI 1))]) (st := []) dX5_isChoice_21 lkX5_90 okX5_isWithin stX5_isWithin rfl (Nat.le_of_ble_eq_true rfl) (Nat.le_of_ble_eq_true rfl) (c_isWithin z _ x2 (nI 0) ((nI t1) - (nI 1)) F A) (fun v21 F21 A21 hq21 => ?_)
    obtain ⟨rfl, rfl, r21, rfl, hr21⟩ := hq21
    have hb21 : r21 ≤ 1 := by omega
    refine j_if_eqN (tgt := 31) dX5_isChoice_24 (by decide) (by omega) (fun c24 => ?_) (fun c24 => ?_)
    · refine j_iconst (v := nI 0) dX5_isChoice_31 (by decide +kernel) ?_
      exact j_iret dX5_isChoice_32 rfl (by decide +kernel) ⟨rfl, rfl, _, rfl, by omega, fun h => by first | exact ⟨j, k, hj, by omega, rfl, rfl⟩ | omega⟩
    · obtain ⟨k, hk, rfl⟩ := in32 (by omega) (hr21.resolve_right (fun h => by omega)).2
      refine j_iconst (v := nI 1) dX5_isChoice_27 (by decide +kernel) ?_
      refine j_goto (tgt := 32) dX5_isChoice_28 (by decide) ?_
      exact j_iret dX5_isChoice_32 rfl (by decide +kernel) ⟨rfl, rfl, _, rfl, by omega, fun h => by first | exact ⟨j, k, hj, by omega, rfl, rfl⟩ | omega⟩

set_option maxHeartbeats 400000 in
set_option maxRecDepth 100000 in
theorem c_pinnedTo (z : mj_B) (d : Nat) (T : Tg) (u : Nat) (hu : u < 8) (F A : mj_S) (hC : CI T F A) : J (gC z) mX5_pinnedTo d 0 [(0, .ref 0), (1, .int (nI u))] [] F A (qP F A fun _ => True) := by
  refine j_aload_n dX5_pinnedTo_0 rfl ?_
  refine j_getR (r := 33) dX5_pinnedTo_1 flX5_16 (Nat.le_of_ble_eq_true rfl) rfl rfl ?_
  refine j_getR (r := 36) dX5_pinnedTo_4 flX5_180 (Nat.le_of_ble_eq_true rfl) rfl rfl ?_
  refine j_iload_n dX5_pinnedTo_7 rfl ?_
  refine j_ialdN dX5_pinnedTo_8 (Nat.le_of_ble_eq_true rfl) rfl (by omega) (by decide) ?_
  refine j_iconst (v := (-1)) dX5_pinnedTo_9 (by decide +kernel) ?_
  refine j_icmp_ne (tgt := 18) dX5_pinnedTo_10 (by decide) (fun c10 => ?_) (fun c10 => ?_)
  · refine j_aload_n dX5_pinnedTo_18 rfl ?_
    refine j_getR (r := 33) dX5_pinnedTo_19 flX5_16 (Nat.le_of_ble_eq_true rfl) rfl rfl ?_
    refine j_getR (r := 36) dX5_pinnedTo_22 flX5_180 (Nat.le_of_ble_eq_true rfl) rfl rfl ?_
    refine j_iload_n dX5_pinnedTo_25 rfl ?_
    refine j_ialdN dX5_pinnedTo_26 (Nat.le_of_ble_eq_true rfl) rfl (by omega) (by decide) ?_
    exact j_iret dX5_pinnedTo_27 rfl rfl ⟨rfl, rfl, _, rfl, trivial⟩
  · refine j_bipush (v := (-4)) dX5_pinnedTo_13 (by decide +kernel) ?_
    refine j_goto (tgt := 27) dX5_pinnedTo_15 (by decide) ?_
    exact j_iret dX5_pinnedTo_27 rfl rfl ⟨rfl, rfl, _, rfl, trivial⟩

theorem in32I {x : Int32} {n : Nat} (hn : n ≤ 8) : (nI 0 ≤ x ∧ x ≤ nI n - nI 1) ↔ ∃ j, j < n ∧ x = nI j := by
  constructor
  · exact in32 hn
  · rintro ⟨j, hj, rfl⟩
    refine ⟨nI_le (by omega) (by omega), ?_⟩
    rw [Int32.le_iff_toInt_le, pk_sub_toInt (by omega) (by decide), nI_toInt (by omega)]
    omega

set_option maxHeartbeats 400000 in
set_option maxRecDepth 100000 in
theorem c_isNodeX (z : mj_B) (d : Nat) (n : Nat) (mm : Nat → Nat) (row : Nat → Int32) (x1 : Int32) (F A : mj_S) (hG : GR F A 33 n mm row) : J (gC z) mX5_isNode (d + 1) 0 [(0, .ref 0), (1, .int x1)] [] F A (qN F A fun r => (r = 1 ∧ ∃ j, j < n ∧ x1 = nI j) ∨ (r = 0 ∧ ¬ ∃ j, j < n ∧ x1 = nI j)) := by
  refine j_iload_n dX5_isNode_0 rfl ?_
  refine j_iconst (v := nI 0) dX5_isNode_1 (by decide +kernel) ?_
  refine j_aload_n dX5_isNode_2 rfl ?_
  refine j_getR (r := 33) dX5_isNode_3 flX5_16 (Nat.le_of_ble_eq_true rfl) rfl rfl ?_
  refine j_getI dX5_isNode_6 flX5_101 (Nat.le_of_ble_eq_true rfl) rfl rfl ?_
  refine j_top (y0 := nI n) hG.1.1.1 ?_
  refine j_iconst (v := nI 1) dX5_isNode_9 (by decide +kernel) ?_
  refine j_isub dX5_isNode_10 ?_
  refine j_top (y0 := (nI n) - (nI 1)) rfl ?_
  refine j_callS (y' := mX5_isWithin) (As := [.int x1, .int (nI 0), .int ((nI n) - (nI 1))]) (st := []) dX5_isNode_11 lkX5_90 okX5_isWithin stX5_isWithin rfl (Nat.le_of_ble_eq_true rfl) (Nat.le_of_ble_eq_true rfl) (c_isWithin z _ x1 (nI 0) ((nI n) - (nI 1)) F A) (fun v11 F11 A11 hq11 => ?_)
  obtain ⟨rfl, rfl, r11, rfl, hr11⟩ := hq11
  have hb11 : r11 ≤ 1 := by omega
  exact j_iret dX5_isNode_14 rfl (mj_nz (by omega)) ⟨rfl, rfl, _, rfl, by rw [in32I hG.1.1.2] at hr11; exact hr11⟩

set_option maxHeartbeats 400000 in
set_option maxRecDepth 100000 in
theorem c_isChoiceX (z : mj_B) (d : Nat) (n : Nat) (mm : Nat → Nat) (row : Nat → Int32) (x1 x2 : Int32) (F A : mj_S) (hG : GR F A 33 n mm row) : J (gC z) mX5_isChoice (d + 2) 0 [(0, .ref 0), (1, .int x1), (2, .int x2)] [] F A (qN F A fun r => (r = 1 ∧ isC n mm x1 x2) ∨ (r = 0 ∧ ¬ isC n mm x1 x2)) := by
  have hn8 := hG.1.1.2
  refine j_aload_n dX5_isChoice_0 rfl ?_
  refine j_iload_n dX5_isChoice_1 rfl ?_
  refine j_callV (y' := mX5_isNode) (As := [.int x1]) (st := []) dX5_isChoice_2 lkX5_117 okX5_isNode imX5_isNode seX5_isNode (Nat.le_of_ble_eq_true rfl) rfl rfl rfl rfl (Nat.le_of_ble_eq_true rfl) (Nat.le_of_ble_eq_true rfl) (c_isNodeX z _ n mm row x1 F A hG) (fun v2 F2 A2 hq2 => ?_)
  obtain ⟨rfl, rfl, r2, rfl, hr2⟩ := hq2
  have hb2 : r2 ≤ 1 := by omega
  refine j_if_eqN (tgt := 31) dX5_isChoice_5 (by decide) (by omega) (fun c5 => ?_) (fun c5 => ?_)
  · have hx := (hr2.resolve_left (fun h => by omega)).2
    refine j_iconst (v := nI 0) dX5_isChoice_31 (by decide +kernel) ?_
    exact j_iret dX5_isChoice_32 rfl (by decide +kernel) ⟨rfl, rfl, _, rfl, by first | exact Or.inl ⟨rfl, (isC_iff hn8 hj).mpr (hr21.resolve_right (fun h => by omega)).2⟩ | exact Or.inr ⟨rfl, fun h => (hr21.resolve_left (fun h => by omega)).2 ((isC_iff hn8 hj).mp h)⟩ | exact Or.inr ⟨rfl, fun ⟨j, k, h1, _, h3, _⟩ => hx ⟨j, h1, h3⟩⟩⟩
  · obtain ⟨j, hj, rfl⟩ := (hr2.resolve_right (fun h => by omega)).2
    have h4j := (hG.1.2 j hj).1
    refine j_iload_n dX5_isChoice_8 rfl ?_
    refine j_iconst (v := nI 0) dX5_isChoice_9 (by decide +kernel) ?_
    refine j_aload_n dX5_isChoice_10 rfl ?_
    refine j_getR (r := 33) dX5_isChoice_11 flX5_16 (Nat.le_of_ble_eq_true rfl) rfl rfl ?_
    refine j_getR (r := 34) dX5_isChoice_14 flX5_125 (Nat.le_of_ble_eq_true rfl) rfl rfl ?_
    refine j_iload_n dX5_isChoice_17 rfl ?_
    refine j_ialdN dX5_isChoice_18 (Nat.le_of_ble_eq_true rfl) rfl (by omega) (by decide) ?_
    refine j_top (y0 := nI (mm j)) (hG.1.2 j hj).2.1 ?_
    refine j_iconst (v := nI 1) dX5_isChoice_19 (by decide +kernel) ?_
    refine j_isub dX5_isChoice_20 ?_
    refine j_top (y0 := (nI (mm j)) - (nI 1)) rfl ?_
    refine j_callS (y' := mX5_isWithin) (As := [.int x2, .int (nI 0), .int ((nI (mm j)) - (nI 1))]) (st := []) dX5_isChoice_21 lkX5_90 okX5_isWithin stX5_isWithin rfl (Nat.le_of_ble_eq_true rfl) (Nat.le_of_ble_eq_true rfl) (c_isWithin z _ x2 (nI 0) ((nI (mm j)) - (nI 1)) F A) (fun v21 F21 A21 hq21 => ?_)
    obtain ⟨rfl, rfl, r21, rfl, hr21⟩ := hq21
    have hb21 : r21 ≤ 1 := by omega
    rw [in32I (show mm j ≤ 8 by omega)] at hr21
    refine j_if_eqN (tgt := 31) dX5_isChoice_24 (by decide) (by omega) (fun c24 => ?_) (fun c24 => ?_)
    · refine j_iconst (v := nI 0) dX5_isChoice_31 (by decide +kernel) ?_
      exact j_iret dX5_isChoice_32 rfl (by decide +kernel) ⟨rfl, rfl, _, rfl, by first | exact Or.inl ⟨rfl, (isC_iff hn8 hj).mpr (hr21.resolve_right (fun h => by omega)).2⟩ | exact Or.inr ⟨rfl, fun h => (hr21.resolve_left (fun h => by omega)).2 ((isC_iff hn8 hj).mp h)⟩ | exact Or.inr ⟨rfl, fun ⟨j, k, h1, _, h3, _⟩ => hx ⟨j, h1, h3⟩⟩⟩
    · refine j_iconst (v := nI 1) dX5_isChoice_27 (by decide +kernel) ?_
      refine j_goto (tgt := 32) dX5_isChoice_28 (by decide) ?_
      exact j_iret dX5_isChoice_32 rfl (by decide +kernel) ⟨rfl, rfl, _, rfl, by first | exact Or.inl ⟨rfl, (isC_iff hn8 hj).mpr (hr21.resolve_right (fun h => by omega)).2⟩ | exact Or.inr ⟨rfl, fun h => (hr21.resolve_left (fun h => by omega)).2 ((isC_iff hn8 hj).mp h)⟩ | exact Or.inr ⟨rfl, fun ⟨j, k, h1, _, h3, _⟩ => hx ⟨j, h1, h3⟩⟩⟩

set_option maxHeartbeats 400000 in
set_option maxRecDepth 100000 in
theorem c_pinnedToX (z : mj_B) (d : Nat) (n : Nat) (mm : Nat → Nat) (row : Nat → Int32) (u : Nat) (hu : u < n) (F A : mj_S) (hG : GR F A 33 n mm row) (hw : wr n mm row) : J (gC z) mX5_pinnedTo d 0 [(0, .ref 0), (1, .int (nI u))] [] F A (qP F A fun r => r = pinA (row (40 + u))) := by
  have hn8 := hG.1.1.2
  obtain ⟨p, hp, ep⟩ := (hw.2.1 u hu).2.1
  have hp4 := (hw.1.2 u hu).2
  refine j_aload_n dX5_pinnedTo_0 rfl ?_
  refine j_getR (r := 33) dX5_pinnedTo_1 flX5_16 (Nat.le_of_ble_eq_true rfl) rfl rfl ?_
  refine j_getR (r := 36) dX5_pinnedTo_4 flX5_180 (Nat.le_of_ble_eq_true rfl) rfl rfl ?_
  refine j_iload_n dX5_pinnedTo_7 rfl ?_
  refine j_ialdN dX5_pinnedTo_8 (Nat.le_of_ble_eq_true rfl) rfl (by omega) (by decide) ?_
  refine j_top (y0 := row (40 + u) - 1) (hG.1.2 u hu).2.2.2.1 ?_
  refine j_iconst (v := (-1)) dX5_pinnedTo_9 (by decide +kernel) ?_
  refine j_icmp_ne (tgt := 18) dX5_pinnedTo_10 (by decide) (fun c10 => ?_) (fun c10 => ?_)
  · have hpz : ¬ row (40 + u) = nI 0 := fun q => c10 ((pin_eq0 (by omega) ep).mpr q)
    refine j_aload_n dX5_pinnedTo_18 rfl ?_
    refine j_getR (r := 33) dX5_pinnedTo_19 flX5_16 (Nat.le_of_ble_eq_true rfl) rfl rfl ?_
    refine j_getR (r := 36) dX5_pinnedTo_22 flX5_180 (Nat.le_of_ble_eq_true rfl) rfl rfl ?_
    refine j_iload_n dX5_pinnedTo_25 rfl ?_
    refine j_ialdN dX5_pinnedTo_26 (Nat.le_of_ble_eq_true rfl) rfl (by omega) (by decide) ?_
    refine j_top (y0 := row (40 + u) - 1) (hG.1.2 u hu).2.2.2.1 ?_
    exact j_iret dX5_pinnedTo_27 rfl rfl ⟨rfl, rfl, _, rfl, by first | exact (pinA_z hpz).symm | exact (pinA_p hpz).symm⟩
  · have hpz : row (40 + u) = nI 0 := (pin_eq0 (by omega) ep).mp c10
    refine j_bipush (v := (-4)) dX5_pinnedTo_13 (by decide +kernel) ?_
    refine j_goto (tgt := 27) dX5_pinnedTo_15 (by decide) ?_
    exact j_iret dX5_pinnedTo_27 rfl rfl ⟨rfl, rfl, _, rfl, by first | exact (pinA_z hpz).symm | exact (pinA_p hpz).symm⟩

set_option maxHeartbeats 400000 in
set_option maxRecDepth 100000 in
theorem c_node (z : mj_B) (d : Nat) (t n : Nat) (mm : Nat → Nat) (row : Nat → Int32) (un : Nat) (P : Nat → Nat → Int32) (kn : Nat) (K : Nat → Nat → Int32) (x1 x2 : Int32) (F A : mj_S) (hB : CB t F A) (hS : CS F A n mm row un P kn K) (hw : wr n mm row) : J (gC z) mX5_node (d + 2) 0 [(0, .ref 0), (1, .int x1), (2, .int x2)] [] F A (qP F A fun r => r = ndAns n mm row x1 x2) := by
  have hn8 := hS.gr.1.1.2
  have hm4 : ∀ u, u < n → mm u ≤ 4 := fun u hu => (hS.gr.1.2 u hu).1
  have hT := hB.1.2
  have hun := hS.1.2.2.1
  have hkn := hS.1.2.2.2.2
  refine j_aload_n dX5_node_0 rfl ?_
  refine j_iload_n dX5_node_1 rfl ?_
  refine j_callV (y' := mX5_isNode) (As := [.int x1]) (st := []) dX5_node_2 lkX5_117 okX5_isNode imX5_isNode seX5_isNode (Nat.le_of_ble_eq_true rfl) rfl rfl rfl rfl (Nat.le_of_ble_eq_true rfl) (Nat.le_of_ble_eq_true rfl) (c_isNodeX z _ n mm row x1 F A hS.gr) (fun v2 F2 A2 hq2 => ?_)
  obtain ⟨rfl, rfl, r2, rfl, hr2⟩ := hq2
  have hb2 : r2 ≤ 1 := by omega
  refine j_if_neN (tgt := 10) dX5_node_5 (by decide) (by omega) (fun c5 => ?_) (fun c5 => ?_)
  · obtain ⟨j, hj, rfl⟩ := (hr2.resolve_right (fun h => by omega)).2
    have hndj := ndO_some hn8 hj
    refine j_iload_n dX5_node_10 rfl ?_
    by_cases c11 : x2.toInt < 0 ∨ 3 < x2.toInt
    · refine j_tOut (tgt := 79) dX5_node_11 c11 (by decide) ?_
      refine j_iconst (v := (-1)) dX5_node_79 (by decide +kernel) ?_
      exact j_iret dX5_node_80 rfl rfl ⟨rfl, rfl, _, rfl, (ndAns_x (sw_ne c11 0 (by decide) (by decide)) (sw_ne c11 1 (by decide) (by decide)) (sw_ne c11 2 (by decide) (by decide)) (sw_ne c11 3 (by decide) (by decide))).symm⟩
    · obtain ⟨q11, hq11, e11⟩ := mj_sw (n := 4) x2 c11 (by decide)
      match q11, hq11, e11 with
      | 0, _, e11 =>
        refine j_tIn (tgt := 40) dX5_node_11 (by rw [e11]; decide) (by rw [e11]; decide) (by rw [e11]; rfl) (by decide) ?_
        refine j_aload_n dX5_node_40 rfl ?_
        refine j_getR (r := 33) dX5_node_41 flX5_16 (Nat.le_of_ble_eq_true rfl) rfl rfl ?_
        refine j_getR (r := 35) dX5_node_44 flX5_121 (Nat.le_of_ble_eq_true rfl) rfl rfl ?_
        refine j_iload_n dX5_node_47 rfl ?_
        refine j_ialdN dX5_node_48 (Nat.le_of_ble_eq_true rfl) rfl (by omega) (by decide) ?_
        exact j_iret dX5_node_49 rfl rfl ⟨rfl, rfl, _, rfl, by rw [ndAns_0 hndj (sw_eq (k := 0) e11)]; exact (hS.gr.1.2 j hj).2.2.1⟩
      | 1, _, e11 =>
        refine j_tIn (tgt := 50) dX5_node_11 (by rw [e11]; decide) (by rw [e11]; decide) (by rw [e11]; rfl) (by decide) ?_
        refine j_aload_n dX5_node_50 rfl ?_
        refine j_getR (r := 33) dX5_node_51 flX5_16 (Nat.le_of_ble_eq_true rfl) rfl rfl ?_
        refine j_getR (r := 34) dX5_node_54 flX5_125 (Nat.le_of_ble_eq_true rfl) rfl rfl ?_
        refine j_iload_n dX5_node_57 rfl ?_
        refine j_ialdN dX5_node_58 (Nat.le_of_ble_eq_true rfl) rfl (by omega) (by decide) ?_
        exact j_iret dX5_node_59 rfl rfl ⟨rfl, rfl, _, rfl, by rw [ndAns_1 hndj (sw_eq (k := 1) e11)]; exact (hS.gr.1.2 j hj).2.1⟩
      | 2, _, e11 =>
        refine j_tIn (tgt := 60) dX5_node_11 (by rw [e11]; decide) (by rw [e11]; decide) (by rw [e11]; rfl) (by decide) ?_
        refine j_aload_n dX5_node_60 rfl ?_
        refine j_getR (r := 33) dX5_node_61 flX5_16 (Nat.le_of_ble_eq_true rfl) rfl rfl ?_
        refine j_getR (r := 37) dX5_node_64 flX5_128 (Nat.le_of_ble_eq_true rfl) rfl rfl ?_
        refine j_iload_n dX5_node_67 rfl ?_
        refine j_ialdN dX5_node_68 (Nat.le_of_ble_eq_true rfl) rfl (by omega) (by decide) ?_
        refine j_callS (y' := mJ6_bitCount_0f7a4) (As := [.int (A 37 j)]) (st := []) dX5_node_69 lkX5_131 okJ6_bitCount_0f7a4 stJ6_bitCount_0f7a4 rfl (Nat.le_of_ble_eq_true rfl) (Nat.le_of_ble_eq_true rfl) (c_bitCount z _ (A 37 j) F A) (fun v69 F69 A69 hq69 => ?_)
        obtain ⟨rfl, rfl, r69, rfl, hr69⟩ := hq69
        exact j_iret dX5_node_72 rfl rfl ⟨rfl, rfl, _, rfl, by rw [ndAns_2 hndj (sw_eq (k := 2) e11), hr69, hS.gr.2.1 j hj, bc_deg]⟩
      | 3, _, e11 =>
        refine j_tIn (tgt := 73) dX5_node_11 (by rw [e11]; decide) (by rw [e11]; decide) (by rw [e11]; rfl) (by decide) ?_
        refine j_aload_n dX5_node_73 rfl ?_
        refine j_iload_n dX5_node_74 rfl ?_
        refine j_callV (y' := mX5_pinnedTo) (As := [.int (nI j)]) (st := []) dX5_node_75 lkX5_136 okX5_pinnedTo imX5_pinnedTo seX5_pinnedTo (Nat.le_of_ble_eq_true rfl) rfl rfl rfl rfl (Nat.le_of_ble_eq_true rfl) (Nat.le_of_ble_eq_true rfl) (c_pinnedToX z _ n mm row j hj F A hS.gr hw) (fun v75 F75 A75 hq75 => ?_)
        obtain ⟨rfl, rfl, r75, rfl, hr75⟩ := hq75
        exact j_iret dX5_node_78 rfl rfl ⟨rfl, rfl, _, rfl, by rw [ndAns_3 hndj (sw_eq (k := 3) e11)]; exact hr75⟩
      | q + 4, hq, _ => exact absurd hq (by omega)
  · have hnd := ndO_none hn8 (hr2.resolve_left (fun h => by omega)).2
    refine j_iconst (v := (-1)) dX5_node_8 (by decide +kernel) ?_
    exact j_iret dX5_node_9 rfl rfl ⟨rfl, rfl, _, rfl, (ndAns_n hnd).symm⟩

set_option maxHeartbeats 400000 in
set_option maxRecDepth 100000 in
theorem c_cost (z : mj_B) (d : Nat) (t n : Nat) (mm : Nat → Nat) (row : Nat → Int32) (un : Nat) (P : Nat → Nat → Int32) (kn : Nat) (K : Nat → Nat → Int32) (x1 x2 : Int32) (F A : mj_S) (hB : CB t F A) (hS : CS F A n mm row un P kn K) (hw : wr n mm row) : J (gC z) mX5_cost (d + 3) 0 [(0, .ref 0), (1, .int x1), (2, .int x2)] [] F A (qP F A fun r => r = coAns n mm row x1 x2) := by
  have hn8 := hS.gr.1.1.2
  have hm4 : ∀ u, u < n → mm u ≤ 4 := fun u hu => (hS.gr.1.2 u hu).1
  have hT := hB.1.2
  have hun := hS.1.2.2.1
  have hkn := hS.1.2.2.2.2
  refine j_aload_n dX5_cost_0 rfl ?_
  refine j_iload_n dX5_cost_1 rfl ?_
  refine j_iload_n dX5_cost_2 rfl ?_
  refine j_callV (y' := mX5_isChoice) (As := [.int x1, .int x2]) (st := []) dX5_cost_3 lkX5_139 okX5_isChoice imX5_isChoice seX5_isChoice (Nat.le_of_ble_eq_true rfl) rfl rfl rfl rfl (Nat.le_of_ble_eq_true rfl) (Nat.le_of_ble_eq_true rfl) (c_isChoiceX z _ n mm row x1 x2 F A hS.gr) (fun v3 F3 A3 hq3 => ?_)
  obtain ⟨rfl, rfl, r3, rfl, hr3⟩ := hq3
  have hb3 : r3 ≤ 1 := by omega
  refine j_if_eqN (tgt := 21) dX5_cost_6 (by decide) (by omega) (fun c6 => ?_) (fun c6 => ?_)
  · have hch := chO_none hn8 hm4 (hr3.resolve_left (fun h => by omega)).2
    refine j_iconst (v := (-1)) dX5_cost_21 (by decide +kernel) ?_
    exact j_iret dX5_cost_22 rfl rfl ⟨rfl, rfl, _, rfl, by first | exact (coAns_n hch).symm | rw [coAns_s hchj, hr15]⟩
  · obtain ⟨j, k, hj, hk, rfl, rfl⟩ := (hr3.resolve_right (fun h => by omega)).2
    have h4j := hm4 j hj
    have hchj := chO_some hn8 h4j hj hk
    refine j_aload_n dX5_cost_9 rfl ?_
    refine j_getR (r := 33) dX5_cost_10 flX5_16 (Nat.le_of_ble_eq_true rfl) rfl rfl ?_
    refine j_iload_n dX5_cost_13 rfl ?_
    refine j_iload_n dX5_cost_14 rfl ?_
    refine j_callV (y' := mX0_choiceCost) (As := [.int (nI j), .int (nI k)]) (st := []) dX5_cost_15 lkX5_143 okX0_choiceCost imX0_choiceCost seX0_choiceCost (Nat.le_of_ble_eq_true rfl) rfl rfl rfl rfl (Nat.le_of_ble_eq_true rfl) (Nat.le_of_ble_eq_true rfl) (c_choiceCostX z _ n mm row j k hj hk F A hS.gr hw) (fun v15 F15 A15 hq15 => ?_)
    obtain ⟨rfl, rfl, r15, rfl, hr15⟩ := hq15
    refine j_goto (tgt := 22) dX5_cost_18 (by decide) ?_
    exact j_iret dX5_cost_22 rfl rfl ⟨rfl, rfl, _, rfl, by first | exact (coAns_n hch).symm | rw [coAns_s hchj, hr15]⟩

set_option maxHeartbeats 400000 in
set_option maxRecDepth 100000 in
theorem c_tie (z : mj_B) (d : Nat) (t n : Nat) (mm : Nat → Nat) (row : Nat → Int32) (un : Nat) (P : Nat → Nat → Int32) (kn : Nat) (K : Nat → Nat → Int32) (x1 x2 x3 x4 : Int32) (F A : mj_S) (hB : CB t F A) (hS : CS F A n mm row un P kn K) (hw : wr n mm row) : J (gC z) mX5_tie (d + 3) 0 [(0, .ref 0), (1, .int x1), (2, .int x2), (3, .int x3), (4, .int x4)] [] F A (qP F A fun r => r = tiAns n mm row x1 x2 x3 x4) := by
  have hn8 := hS.gr.1.1.2
  have hm4 : ∀ u, u < n → mm u ≤ 4 := fun u hu => (hS.gr.1.2 u hu).1
  have hT := hB.1.2
  have hun := hS.1.2.2.1
  have hkn := hS.1.2.2.2.2
  refine j_iload_n dX5_tie_0 rfl ?_
  refine j_iload_n dX5_tie_1 rfl ?_
  refine j_icmp_eq (tgt := 24) dX5_tie_2 (by decide) (fun c2 => ?_) (fun c2 => ?_)
  · have hti := tiAns_e (n := n) (mm := mm) (row := row) (x3 := x3) (x4 := x4) c2
    refine j_iconst (v := (-1)) dX5_tie_24 (by decide +kernel) ?_
    exact j_iret dX5_tie_25 rfl rfl ⟨rfl, rfl, _, rfl, by first | exact hti.symm | rw [tiAns_t c2 hchj hchj2 htd, hr47]⟩
  · refine j_aload_n dX5_tie_5 rfl ?_
    refine j_iload_n dX5_tie_6 rfl ?_
    refine j_iload_n dX5_tie_7 rfl ?_
    refine j_callV (y' := mX5_isChoice) (As := [.int x1, .int x3]) (st := []) dX5_tie_8 lkX5_139 okX5_isChoice imX5_isChoice seX5_isChoice (Nat.le_of_ble_eq_true rfl) rfl rfl rfl rfl (Nat.le_of_ble_eq_true rfl) (Nat.le_of_ble_eq_true rfl) (c_isChoiceX z _ n mm row x1 x3 F A hS.gr) (fun v8 F8 A8 hq8 => ?_)
    obtain ⟨rfl, rfl, r8, rfl, hr8⟩ := hq8
    have hb8 : r8 ≤ 1 := by omega
    refine j_if_eqN (tgt := 24) dX5_tie_11 (by decide) (by omega) (fun c11 => ?_) (fun c11 => ?_)
    · have hch := chO_none hn8 hm4 (hr8.resolve_left (fun h => by omega)).2
      have hti := tiAns_1 (row := row) (x4 := x4) c2 hch
      refine j_iconst (v := (-1)) dX5_tie_24 (by decide +kernel) ?_
      exact j_iret dX5_tie_25 rfl rfl ⟨rfl, rfl, _, rfl, by first | exact hti.symm | rw [tiAns_t c2 hchj hchj2 htd, hr47]⟩
    · obtain ⟨j, k, hj, hk, rfl, rfl⟩ := (hr8.resolve_right (fun h => by omega)).2
      have h4j := hm4 j hj
      have hchj := chO_some hn8 h4j hj hk
      refine j_aload_n dX5_tie_14 rfl ?_
      refine j_iload_n dX5_tie_15 rfl ?_
      refine j_iload dX5_tie_16 rfl ?_
      refine j_callV (y' := mX5_isChoice) (As := [.int x2, .int x4]) (st := []) dX5_tie_18 lkX5_139 okX5_isChoice imX5_isChoice seX5_isChoice (Nat.le_of_ble_eq_true rfl) rfl rfl rfl rfl (Nat.le_of_ble_eq_true rfl) (Nat.le_of_ble_eq_true rfl) (c_isChoiceX z _ n mm row x2 x4 F A hS.gr) (fun v18 F18 A18 hq18 => ?_)
      obtain ⟨rfl, rfl, r18, rfl, hr18⟩ := hq18
      have hb18 : r18 ≤ 1 := by omega
      refine j_if_neN (tgt := 26) dX5_tie_21 (by decide) (by omega) (fun c21 => ?_) (fun c21 => ?_)
      · obtain ⟨j2, k2, hj2, hk2, rfl, rfl⟩ := (hr18.resolve_right (fun h => by omega)).2
        have h4j2 := hm4 j2 hj2
        have hchj2 := chO_some hn8 h4j2 hj2 hk2
        have hne : j ≠ j2 := fun e => c2 (by rw [e])
        refine j_aload_n dX5_tie_26 rfl ?_
        refine j_getR (r := 33) dX5_tie_27 flX5_16 (Nat.le_of_ble_eq_true rfl) rfl rfl ?_
        refine j_iload_n dX5_tie_30 rfl ?_
        refine j_iload_n dX5_tie_31 rfl ?_
        refine j_callV (y' := mX0_areTied) (As := [.int (nI j), .int (nI j2)]) (st := []) dX5_tie_32 lkX5_147 okX0_areTied imX0_areTied seX0_areTied (Nat.le_of_ble_eq_true rfl) rfl rfl rfl rfl (Nat.le_of_ble_eq_true rfl) (Nat.le_of_ble_eq_true rfl) (c_areTiedX33 z _ n j j2 row hn8 hj (by omega) F A hS.gr.2.1) (fun v32 F32 A32 hq32 => ?_)
        obtain ⟨rfl, rfl, r32, rfl, hr32⟩ := hq32
        have hb32 := tdd_le row j j2
        refine j_if_eqN (tgt := 53) dX5_tie_35 (by decide) (by omega) (fun c35 => ?_) (fun c35 => ?_)
        · have hti := tiAns_u (row := row) c2 hchj hchj2 (fun q => by have := tdd_1 hne q; omega)
          refine j_bipush (v := (-4)) dX5_tie_53 (by decide +kernel) ?_
          exact j_iret dX5_tie_55 rfl rfl ⟨rfl, rfl, _, rfl, by first | exact hti.symm | rw [tiAns_t c2 hchj hchj2 htd, hr47]⟩
        · have htd : 0 < row (eA j j2 0 0) := Classical.byContradiction fun q => by have := tdd_0 (u := j) (v := j2) q; omega
          refine j_aload_n dX5_tie_38 rfl ?_
          refine j_getR (r := 33) dX5_tie_39 flX5_16 (Nat.le_of_ble_eq_true rfl) rfl rfl ?_
          refine j_iload_n dX5_tie_42 rfl ?_
          refine j_iload_n dX5_tie_43 rfl ?_
          refine j_iload_n dX5_tie_44 rfl ?_
          refine j_iload dX5_tie_45 rfl ?_
          refine j_callV (y' := mX0_tieCost) (As := [.int (nI j), .int (nI j2), .int (nI k), .int (nI k2)]) (st := []) dX5_tie_47 lkX5_150 okX0_tieCost imX0_tieCost seX0_tieCost (Nat.le_of_ble_eq_true rfl) rfl rfl rfl rfl (Nat.le_of_ble_eq_true rfl) (Nat.le_of_ble_eq_true rfl) (c_tieCostX z _ n mm row j j2 k k2 hj hj2 hne hk hk2 htd F A hS.gr hw) (fun v47 F47 A47 hq47 => ?_)
          obtain ⟨rfl, rfl, r47, rfl, hr47⟩ := hq47
          refine j_goto (tgt := 55) dX5_tie_50 (by decide) ?_
          exact j_iret dX5_tie_55 rfl rfl ⟨rfl, rfl, _, rfl, by first | exact hti.symm | rw [tiAns_t c2 hchj hchj2 htd, hr47]⟩
      · have hch := chO_none hn8 hm4 (hr18.resolve_left (fun h => by omega)).2
        have hti := tiAns_2 (row := row) c2 hchj hch
        refine j_iconst (v := (-1)) dX5_tie_24 (by decide +kernel) ?_
        exact j_iret dX5_tie_25 rfl rfl ⟨rfl, rfl, _, rfl, by first | exact hti.symm | rw [tiAns_t c2 hchj hchj2 htd, hr47]⟩

set_option maxHeartbeats 400000 in
set_option maxRecDepth 100000 in
theorem c_count (z : mj_B) (d : Nat) (t n : Nat) (mm : Nat → Nat) (row : Nat → Int32) (un : Nat) (P : Nat → Nat → Int32) (kn : Nat) (K : Nat → Nat → Int32) (x1 : Int32) (F A : mj_S) (hB : CB t F A) (hS : CS F A n mm row un P kn K) (hw : wr n mm row) : J (gC z) mX5_count (d + 2) 0 [(0, .ref 0), (1, .int x1)] [] F A (qP F A fun r => r = ctAns n row un kn t x1) := by
  have hn8 := hS.gr.1.1.2
  have hm4 : ∀ u, u < n → mm u ≤ 4 := fun u hu => (hS.gr.1.2 u hu).1
  have hT := hB.1.2
  have hun := hS.1.2.2.1
  have hkn := hS.1.2.2.2.2
  refine j_iload_n dX5_count_0 rfl ?_
  by_cases c1 : x1.toInt < 0 ∨ 5 < x1.toInt
  · refine j_tOut (tgt := 79) dX5_count_1 c1 (by decide) ?_
    refine j_iconst (v := (-1)) dX5_count_79 (by decide +kernel) ?_
    exact j_iret dX5_count_80 rfl rfl ⟨rfl, rfl, _, rfl, (ctAns_x (fun k hk => sw_ne c1 k (by omega) (by omega))).symm⟩
  · obtain ⟨q1, hq1, e1⟩ := mj_sw (n := 6) x1 c1 (by decide)
    match q1, hq1, e1 with
    | 0, _, e1 =>
      refine j_tIn (tgt := 40) dX5_count_1 (by rw [e1]; decide) (by rw [e1]; decide) (by rw [e1]; rfl) (by decide) ?_
      refine j_aload_n dX5_count_40 rfl ?_
      refine j_getR (r := 33) dX5_count_41 flX5_16 (Nat.le_of_ble_eq_true rfl) rfl rfl ?_
      refine j_getI dX5_count_44 flX5_101 (Nat.le_of_ble_eq_true rfl) rfl rfl ?_
      refine j_top (y0 := nI n) hS.gr.1.1.1 ?_
      exact j_iret dX5_count_47 rfl rfl ⟨rfl, rfl, _, rfl, (ctAns_0 (sw_eq (k := 0) e1)).symm⟩
    | 1, _, e1 =>
      refine j_tIn (tgt := 48) dX5_count_1 (by rw [e1]; decide) (by rw [e1]; decide) (by rw [e1]; rfl) (by decide) ?_
      refine j_aload_n dX5_count_48 rfl ?_
      refine j_getR (r := 33) dX5_count_49 flX5_16 (Nat.le_of_ble_eq_true rfl) rfl rfl ?_
      refine j_callV (y' := mX0_tieCount) (As := []) (st := []) dX5_count_52 lkX5_169 okX0_tieCount imX0_tieCount seX0_tieCount (Nat.le_of_ble_eq_true rfl) rfl rfl rfl rfl (Nat.le_of_ble_eq_true rfl) (Nat.le_of_ble_eq_true rfl) (c_tieCountX33 z _ n mm row F A hS.gr hw) (fun v52 F52 A52 hq52 => ?_)
      obtain ⟨rfl, rfl, r52, rfl, hr52⟩ := hq52
      have hb52 := hw.2.2.2.2
      exact j_iret dX5_count_55 rfl rfl ⟨rfl, rfl, _, rfl, by rw [ctAns_1 (sw_eq (k := 1) e1), hr52]⟩
    | 2, _, e1 =>
      refine j_tIn (tgt := 56) dX5_count_1 (by rw [e1]; decide) (by rw [e1]; decide) (by rw [e1]; rfl) (by decide) ?_
      refine j_aload_n dX5_count_56 rfl ?_
      refine j_getR (r := 33) dX5_count_57 flX5_16 (Nat.le_of_ble_eq_true rfl) rfl rfl ?_
      refine j_callV (y' := mX0_pinCount) (As := []) (st := []) dX5_count_60 lkX5_236 okX0_pinCount imX0_pinCount seX0_pinCount (Nat.le_of_ble_eq_true rfl) rfl rfl rfl rfl (Nat.le_of_ble_eq_true rfl) (Nat.le_of_ble_eq_true rfl) (c_pinCountX z _ n mm row F A hS.gr hw) (fun v60 F60 A60 hq60 => ?_)
      obtain ⟨rfl, rfl, r60, rfl, hr60⟩ := hq60
      exact j_iret dX5_count_63 rfl rfl ⟨rfl, rfl, _, rfl, by rw [ctAns_2 (sw_eq (k := 2) e1), hr60]⟩
    | 3, _, e1 =>
      refine j_tIn (tgt := 64) dX5_count_1 (by rw [e1]; decide) (by rw [e1]; decide) (by rw [e1]; rfl) (by decide) ?_
      refine j_aload_n dX5_count_64 rfl ?_
      refine j_getI dX5_count_65 flX5_108 (Nat.le_of_ble_eq_true rfl) rfl rfl ?_
      refine j_top (y0 := nI un) hS.1.2.1 ?_
      exact j_iret dX5_count_68 rfl rfl ⟨rfl, rfl, _, rfl, (ctAns_3 (sw_eq (k := 3) e1)).symm⟩
    | 4, _, e1 =>
      refine j_tIn (tgt := 69) dX5_count_1 (by rw [e1]; decide) (by rw [e1]; decide) (by rw [e1]; rfl) (by decide) ?_
      refine j_aload_n dX5_count_69 rfl ?_
      refine j_getI dX5_count_70 flX5_111 (Nat.le_of_ble_eq_true rfl) rfl rfl ?_
      refine j_top (y0 := nI kn) hS.1.2.2.2.1 ?_
      exact j_iret dX5_count_73 rfl rfl ⟨rfl, rfl, _, rfl, (ctAns_4 (sw_eq (k := 4) e1)).symm⟩
    | 5, _, e1 =>
      refine j_tIn (tgt := 74) dX5_count_1 (by rw [e1]; decide) (by rw [e1]; decide) (by rw [e1]; rfl) (by decide) ?_
      refine j_aload_n dX5_count_74 rfl ?_
      refine j_getI dX5_count_75 flX5_94 (Nat.le_of_ble_eq_true rfl) rfl rfl ?_
      refine j_top (y0 := nI t) hB.1.1 ?_
      exact j_iret dX5_count_78 rfl rfl ⟨rfl, rfl, _, rfl, (ctAns_5 (sw_eq (k := 5) e1)).symm⟩
    | q + 6, hq, _ => exact absurd hq (by omega)

set_option maxHeartbeats 400000 in
set_option maxRecDepth 100000 in
theorem c_forgetAnswers (z : mj_B) (d t : Nat) (F A : mj_S) (hB : CB t F A) : J (gC z) mX5_forgetAnswers d 0 [(0, .ref 0)] [] F A (fun v F' A' => v = none ∧ CB t F' A' ∧ A = A' ∧ F' = mj_u (mj_u (mj_u F 0 14 (nI 0)) 0 15 (nI 0)) 0 16 (nI 0)) := by
  refine j_aload_n dX5_forgetAnswers_0 rfl ?_
  refine j_iconst (v := nI 0) dX5_forgetAnswers_1 (by decide +kernel) ?_
  refine j_put dX5_forgetAnswers_2 fpX5_242 (Nat.le_of_ble_eq_true rfl) rfl rfl (by decide +kernel) rfl ?_
  have hB := hB.f (k := 0) (s := 14) rfl (nI 0)
  refine j_aload_n dX5_forgetAnswers_5 rfl ?_
  refine j_iconst (v := nI 0) dX5_forgetAnswers_6 (by decide +kernel) ?_
  refine j_put dX5_forgetAnswers_7 fpX5_245 (Nat.le_of_ble_eq_true rfl) rfl rfl (by decide +kernel) rfl ?_
  have hB := hB.f (k := 0) (s := 15) rfl (nI 0)
  refine j_aload_n dX5_forgetAnswers_10 rfl ?_
  refine j_iconst (v := nI 0) dX5_forgetAnswers_11 (by decide +kernel) ?_
  refine j_put dX5_forgetAnswers_12 fpX5_248 (Nat.le_of_ble_eq_true rfl) rfl rfl (by decide +kernel) rfl ?_
  have hB := hB.f (k := 0) (s := 16) rfl (nI 0)
  exact j_vret dX5_forgetAnswers_15 rfl ⟨rfl, hB, rfl, rfl⟩

theorem drop_s {A A1 : mj_S} {k o : Nat} (h3 : ∀ j, j < 8 → A1 3 j = if j + 1 < k then A 3 (j + 1) else A 3 j) (h1 : 1 ≤ k ∧ k ≤ 8) (e : A1 3 k = nI o) (hk : k < 8 := by omega) : ∀ j, j < 8 → mj_u A1 3 (k - 1) (nI o) 3 j = if j + 1 < k + 1 then A 3 (j + 1) else A 3 j := fun j hj => by
  rw [mj_u_at]
  by_cases ej : j = k - 1
  · subst ej
    rw [pk_us, if_pos (by omega), ← e, h3 k hk, if_neg (by omega), show k - 1 + 1 = k by omega]
  · rw [pk_un ej, h3 j hj]
    by_cases e2 : j + 1 < k
    · rw [if_pos e2, if_pos (by omega)]
    · rw [if_neg e2, if_neg (by omega)]

set_option maxHeartbeats 400000 in
set_option maxRecDepth 100000 in
theorem c_dropOldest (z : mj_B) (d : Nat) (t n : Nat) (mm : Nat → Nat) (row : Nat → Int32) (P : Nat → Nat → Int32) (kn : Nat) (K : Nat → Nat → Int32) (F A : mj_S) (hB : CB t F A) (hS : CS F A n mm row 8 P kn K) : J (gC z) mX5_dropOldest d 0 [(0, .ref 0)] [] F A (fun v F' A' => v = none ∧ CB t F' A' ∧ A' 1 = A 1 ∧ F' = mj_u F 0 6 (nI 7) ∧ CS F' A' n mm row 7 (fun k => P (k + 1)) kn K) := by
  refine j_aload_n dX5_dropOldest_0 rfl ?_
  refine j_getR (r := 3) dX5_dropOldest_1 flX5_32 (Nat.le_of_ble_eq_true rfl) rfl rfl ?_
  refine j_iconst (v := nI 0) dX5_dropOldest_4 (by decide +kernel) ?_
  obtain ⟨o5, hGo5, eo5⟩ := hB.2.2.2.2.2.1 0 (by omega)
  refine j_aaldN dX5_dropOldest_5 (Nat.le_of_ble_eq_true rfl) rfl (by omega) (by decide) eo5 (g_31 hGo5) ?_
  refine j_astore_n (lv' := [(0, .ref 0), (1, .ref o5)]) dX5_dropOldest_6 (Nat.le_of_ble_eq_true rfl) rfl rfl ?_
  have L9 : ∀ (fuel : Nat) (k : Nat) (A1 : mj_S), (CB t F A1) → (1 ≤ k ∧ k ≤ 8) → (∀ c, c ≠ 3 → A1 c = A c) → (∀ j, j < 8 → A1 3 j = if j + 1 < k then A 3 (j + 1) else A 3 j) → 8 - k < fuel → J (gC z) mX5_dropOldest d 9 [(0, .ref 0), (1, .ref o5), (2, .int (nI k))] [] F A1 (fun v F' A' => v = none ∧ CB t F' A' ∧ A' 1 = A 1 ∧ F' = mj_u F 0 6 (nI 7) ∧ CS F' A' n mm row 7 (fun k => P (k + 1)) kn K) := by
    intro fuel
    induction fuel with
    | zero => intro k A1 hB h1 hfr h3 hf; exact absurd hf (by omega)
    | succ fuel ih9 =>
      intro k A1 hB h1 hfr h3 hf
      refine j_iload_n dX5_dropOldest_9 rfl ?_
      refine j_bipush (v := nI 8) dX5_dropOldest_10 (by decide +kernel) ?_
      refine j_icmp_geN (tgt := 35) dX5_dropOldest_12 (by decide) (by omega) (by omega) (fun c12 => ?_) (fun c12 => ?_)
      · refine j_aload_n dX5_dropOldest_35 rfl ?_
        refine j_getR (r := 3) dX5_dropOldest_36 flX5_32 (Nat.le_of_ble_eq_true rfl) rfl rfl ?_
        refine j_bipush (v := nI 7) dX5_dropOldest_39 (by decide +kernel) ?_
        refine j_aload_n dX5_dropOldest_41 rfl ?_
        refine j_aastN dX5_dropOldest_42 (Nat.le_of_ble_eq_true rfl) rfl (gs_lt hGo5 0 (by omega)) (g_31 hGo5) (gs_o hGo5) (by omega) (by decide) ?_
        have hB := hB.past 7 hGo5
        have hfr2 : ∀ c, c ≠ 3 → mj_u A1 3 7 (nI o5) c = A c := fun c hc => by rw [mj_u_ne _ _ hc]; exact hfr c hc
        have h32 : ∀ j, j < 7 → mj_u A1 3 7 (nI o5) 3 j = A 3 (j + 1) := fun j hj => by rw [mj_u_at, pk_un (by omega), h3 j (by omega), if_pos (by omega)]
        have h37 : mj_u A1 3 7 (nI o5) 3 7 = A 3 0 := by rw [mj_u_at, pk_us, eo5]
        refine j_aload_n dX5_dropOldest_43 rfl ?_
        refine j_bipush (v := nI 7) dX5_dropOldest_44 (by decide +kernel) ?_
        refine j_putI dX5_dropOldest_46 fpX5_108 (Nat.le_of_ble_eq_true rfl) rfl rfl ?_
        have hB := hB.pn (n := 7) (by omega)
        exact j_vret dX5_dropOldest_49 rfl ⟨rfl, hB, (hfr2 1 (by decide)), rfl, hS.drop hfr2 h32 h37⟩
      · refine j_aload_n dX5_dropOldest_15 rfl ?_
        refine j_getR (r := 3) dX5_dropOldest_16 flX5_32 (Nat.le_of_ble_eq_true rfl) rfl rfl ?_
        refine j_iload_n dX5_dropOldest_19 rfl ?_
        refine j_iconst (v := nI 1) dX5_dropOldest_20 (by decide +kernel) ?_
        refine j_isubN dX5_dropOldest_21 (by omega) ?_
        refine j_aload_n dX5_dropOldest_22 rfl ?_
        refine j_getR (r := 3) dX5_dropOldest_23 flX5_32 (Nat.le_of_ble_eq_true rfl) rfl rfl ?_
        refine j_iload_n dX5_dropOldest_26 rfl ?_
        obtain ⟨o27, hGo27, eo27⟩ := hB.2.2.2.2.2.1 k (by omega)
        refine j_aaldN dX5_dropOldest_27 (Nat.le_of_ble_eq_true rfl) rfl (by omega) (by decide) eo27 (g_31 hGo27) ?_
        refine j_aastN dX5_dropOldest_28 (Nat.le_of_ble_eq_true rfl) rfl (gs_lt hGo27 0 (by omega)) (g_31 hGo27) (gs_o hGo27) (by omega) (by decide) ?_
        have hB := hB.past (k - 1) hGo27
        refine j_iinc (v := nI (k + 1)) (lv' := [(0, .ref 0), (1, .ref o5), (2, .int (nI (k + 1)))]) dX5_dropOldest_29 rfl (nI_add _ 1) (Nat.le_of_ble_eq_true rfl) rfl rfl ?_
        refine j_goto (tgt := 9) dX5_dropOldest_32 (by decide) ?_
        exact ih9 (k + 1) (mj_u A1 3 (k - 1) (nI o27)) (by first | exact hB | omega) (by first | exact h1 | omega) (fun c hc => by rw [mj_u_ne _ _ hc]; exact hfr c hc) (drop_s h3 h1 eo27) (by omega)
  refine j_iconst (v := nI 1) dX5_dropOldest_7 (by decide +kernel) ?_
  refine j_istore_n (lv' := [(0, .ref 0), (1, .ref o5), (2, .int (nI 1))]) dX5_dropOldest_8 (Nat.le_of_ble_eq_true rfl) rfl rfl ?_
  exact L9 _ 1 A (by first | exact hB | omega) (by first | exact h1 | omega) (fun _ _ => rfl) (fun j hj => by rw [if_neg (by omega)]) (Nat.lt_succ_self _)

theorem g_47 {o : Nat} (h : isG o) : 33 ≤ o := by obtain ⟨g, hg, rfl⟩ := h; omega

set_option maxHeartbeats 400000 in
set_option maxRecDepth 100000 in
theorem c_beginAct (z : mj_B) (d : Nat) (t n : Nat) (mm : Nat → Nat) (row : Nat → Int32) (un : Nat) (P : Nat → Nat → Int32) (kn : Nat) (K : Nat → Nat → Int32) (F A0 : mj_S) (hB : CB t F A0) (hS : CS F A0 n mm row un P kn K) : J (gC z) mX5_beginAct (d + 3) 0 [(0, .ref 0)] [] F A0 (fun v F' A' => v = none ∧ CB t F' A' ∧ A' 1 = A0 1 ∧ CS F' A' n mm row (pushN un) (pushP un P row) kn K) := by
  have hun := hS.1.2.2.1
  have L13 : ∀ (p1 : Nat) (P1 : Nat → Nat → Int32) (F A : mj_S), (CB t F A) → (CS F A n mm row p1 P1 kn K) → (p1 ≤ 7) → (A 1 = A0 1) → (pushN un = p1 + 1 ∧ pushP un P row = fun k => if k = p1 then row else P1 k) → J (gC z) mX5_beginAct (d + 3) 13 [(0, .ref 0)] [] F A (fun v F' A' => v = none ∧ CB t F' A' ∧ A' 1 = A0 1 ∧ CS F' A' n mm row (pushN un) (pushP un P row) kn K) := by
    intro p1 P1 F A hB hS hp1 hA1 hpp
    refine j_aload_n dX5_beginAct_13 rfl ?_
    refine j_getR (r := 3) dX5_beginAct_14 flX5_32 (Nat.le_of_ble_eq_true rfl) rfl rfl ?_
    refine j_aload_n dX5_beginAct_17 rfl ?_
    refine j_getI dX5_beginAct_18 flX5_108 (Nat.le_of_ble_eq_true rfl) rfl rfl ?_
    refine j_top (y0 := nI p1) hS.1.2.1 ?_
    obtain ⟨o21, hGo21, eo21⟩ := hB.2.2.2.2.2.1 p1 (by omega)
    refine j_aaldN dX5_beginAct_21 (Nat.le_of_ble_eq_true rfl) rfl (by omega) (by decide) eo21 (g_31 hGo21) ?_
    refine j_aload_n dX5_beginAct_22 rfl ?_
    refine j_getR (r := 33) dX5_beginAct_23 flX5_16 (Nat.le_of_ble_eq_true rfl) rfl rfl ?_
    refine j_callV (y' := mX0_copyFrom) (As := [.ref 33]) (st := []) dX5_beginAct_26 lkX5_104 okX0_copyFrom imX0_copyFrom seX0_copyFrom (gs_lt hGo21 0 (by omega)) (gs_o hGo21) rfl rfl rfl (Nat.le_of_ble_eq_true rfl) (Nat.le_of_ble_eq_true rfl) (c_copyFrom z _ _ o21 33 hGo21 g33 F A hB) (fun v26 F26 A26 hq26 => ?_)
    obtain ⟨rfl, hB, rfl, rfl⟩ := hq26
    refine j_aload_n dX5_beginAct_29 rfl ?_
    refine j_dup dX5_beginAct_30 rfl ?_
    refine j_getI dX5_beginAct_31 flX5_108 (Nat.le_of_ble_eq_true rfl) rfl rfl ?_
    refine j_top (y0 := nI p1) ((mj_u_off _ (Or.inl (g_ne0 hGo21))).trans hS.1.2.1) ?_
    refine j_iconst (v := nI 1) dX5_beginAct_34 (by decide +kernel) ?_
    refine j_iaddN dX5_beginAct_35 ?_
    refine j_putI dX5_beginAct_36 fpX5_108 (Nat.le_of_ble_eq_true rfl) rfl rfl ?_
    have hB := hB.pn (n := p1 + 1) (by omega)
    have hS := hS.push (by omega) hGo21 eo21
    refine j_aload_n dX5_beginAct_39 rfl ?_
    refine j_callV (y' := mX5_forgetAnswers) (As := []) (st := []) dX5_beginAct_40 lkX5_114 okX5_forgetAnswers imX5_forgetAnswers seX5_forgetAnswers (Nat.le_of_ble_eq_true rfl) rfl rfl rfl rfl (Nat.le_of_ble_eq_true rfl) (Nat.le_of_ble_eq_true rfl) (c_forgetAnswers z _ _ (mj_u (mj_u F o21 0 (F 33 0)) 0 6 (nI (p1 + 1))) (cpA A o21 33) hB) (fun v40 F40 A40 hq40 => ?_)
    obtain ⟨rfl, hB, rfl, eF40⟩ := hq40
    have hS := ((hS.f (s := 14) (by decide) (by decide) (nI 0)).f (s := 15) (by decide) (by decide) (nI 0)).f (s := 16) (by decide) (by decide) (nI 0)
    rw [← eF40] at hS
    exact j_vret dX5_beginAct_43 rfl ⟨rfl, hB, (cpA_off (fun i hi => by have := g_47 hGo21; omega)).trans hA1, by rw [hpp.1, hpp.2]; exact hS⟩
  refine j_aload_n dX5_beginAct_0 rfl ?_
  refine j_getI dX5_beginAct_1 flX5_108 (Nat.le_of_ble_eq_true rfl) rfl rfl ?_
  refine j_top (y0 := nI un) hS.1.2.1 ?_
  refine j_bipush (v := nI 8) dX5_beginAct_4 (by decide +kernel) ?_
  refine j_icmp_ltN (tgt := 13) dX5_beginAct_6 (by decide) (by omega) (by omega) (fun c6 => ?_) (fun c6 => ?_)
  · exact L13 un P F A0 (by first | exact hB | omega) (by first | exact hS | omega) (by omega) rfl ⟨pushN_s (by omega), funext fun k => pushP_s (by omega)⟩
  · have hu8 : un = 8 := by omega
    refine j_aload_n dX5_beginAct_9 rfl ?_
    refine j_callV (y' := mX5_dropOldest) (As := []) (st := []) dX5_beginAct_10 lkX5_239 okX5_dropOldest imX5_dropOldest seX5_dropOldest (Nat.le_of_ble_eq_true rfl) rfl rfl rfl rfl (Nat.le_of_ble_eq_true rfl) (Nat.le_of_ble_eq_true rfl) (c_dropOldest z _ t n mm row P kn K F A0 hB (by rw [← hu8]; exact hS)) (fun v10 F10 A10 hq10 => ?_)
    obtain ⟨rfl, hB, e1_10, eF10, hS⟩ := hq10
    exact L13 7 (fun k => P (k + 1)) F10 A10 (by first | exact hB | omega) hS (by omega) e1_10 ⟨by rw [hu8]; rfl, by rw [hu8]; exact funext fun k => pushP_8⟩

set_option maxHeartbeats 400000 in
set_option maxRecDepth 100000 in
theorem c_price (z : mj_B) (d : Nat) (t n : Nat) (mm : Nat → Nat) (row : Nat → Int32) (un : Nat) (P : Nat → Nat → Int32) (kn : Nat) (K : Nat → Nat → Int32) (x1 x2 x3 : Int32) (F A : mj_S) (hB : CB t F A) (hS : CS F A n mm row un P kn K) (hw : wr n mm row) : J (gC z) mX5_price (d + 4) 0 [(0, .ref 0), (1, .int x1), (2, .int x2), (3, .int x3)] [] F A (fun v F' A' => ∃ x o, v = some (.int x) ∧ acPrice n mm row x1 x2 x3 = (x, o) ∧ CB t F' A' ∧ A' 1 = A 1 ∧ CSo F' A' n mm row un P kn K o) := by
  have hn8 := hS.gr.1.1.2
  have hm4 : ∀ u, u < n → mm u ≤ 4 := fun u hu => (hS.gr.1.2 u hu).1
  have hT := hB.1.2
  have hun := hS.1.2.2.1
  have hkn := hS.1.2.2.2.2
  refine j_aload_n dX5_price_0 rfl ?_
  refine j_iload_n dX5_price_1 rfl ?_
  refine j_iload_n dX5_price_2 rfl ?_
  refine j_callV (y' := mX5_isChoice) (As := [.int x1, .int x2]) (st := []) dX5_price_3 lkX5_139 okX5_isChoice imX5_isChoice seX5_isChoice (Nat.le_of_ble_eq_true rfl) rfl rfl rfl rfl (Nat.le_of_ble_eq_true rfl) (Nat.le_of_ble_eq_true rfl) (c_isChoiceX z _ n mm row x1 x2 F A hS.gr) (fun v3 F3 A3 hq3 => ?_)
  obtain ⟨rfl, rfl, r3, rfl, hr3⟩ := hq3
  have hb3 : r3 ≤ 1 := by omega
  refine j_if_eqN (tgt := 19) dX5_price_6 (by decide) (by omega) (fun c6 => ?_) (fun c6 => ?_)
  · have hch := chO_none hn8 hm4 (hr3.resolve_left (fun h => by omega)).2
    have hac := acPrice_n (row := row) (x3 := x3) hch
    refine j_iconst (v := (-1)) dX5_price_19 (by decide +kernel) ?_
    exact j_iret dX5_price_20 rfl rfl ⟨_, _, rfl, hac, hB, rfl, hS⟩
  · obtain ⟨j, k, hj, hk, rfl, rfl⟩ := (hr3.resolve_right (fun h => by omega)).2
    have h4j := hm4 j hj
    have hchj := chO_some hn8 h4j hj hk
    refine j_iload_n dX5_price_9 rfl ?_
    refine j_iconst (v := nI 0) dX5_price_10 (by decide +kernel) ?_
    refine j_bipush (v := nI 99) dX5_price_11 (by decide +kernel) ?_
    refine j_callS (y' := mX5_isWithin) (As := [.int x3, .int (nI 0), .int (nI 99)]) (st := []) dX5_price_13 lkX5_90 okX5_isWithin stX5_isWithin rfl (Nat.le_of_ble_eq_true rfl) (Nat.le_of_ble_eq_true rfl) (c_isWithin z _ x3 (nI 0) (nI 99) F A) (fun v13 F13 A13 hq13 => ?_)
    obtain ⟨rfl, rfl, r13, rfl, hr13⟩ := hq13
    have hb13 : r13 ≤ 1 := by omega
    refine j_if_neN (tgt := 21) dX5_price_16 (by decide) (by omega) (fun c16 => ?_) (fun c16 => ?_)
    · have h3 := (hr13.resolve_right (fun h => by omega)).2
      refine j_aload_n dX5_price_21 rfl ?_
      refine j_getR (r := 33) dX5_price_22 flX5_16 (Nat.le_of_ble_eq_true rfl) rfl rfl ?_
      refine j_getR (r := 38) dX5_price_25 flX5_154 (Nat.le_of_ble_eq_true rfl) rfl rfl ?_
      refine j_iload_n dX5_price_28 rfl ?_
      refine j_iload_n dX5_price_29 rfl ?_
      refine j_callS (y' := mX5_choicePlace) (As := [.int (nI j), .int (nI k)]) (st := [.ref 38]) dX5_price_30 lkX5_157 okX5_choicePlace stX5_choicePlace rfl (Nat.le_of_ble_eq_true rfl) (Nat.le_of_ble_eq_true rfl) (c_choicePlace z _ j k F A) (fun v30 F30 A30 hq30 => ?_)
      obtain ⟨rfl, rfl, r30, rfl, hr30⟩ := hq30
      refine j_ialdN dX5_price_33 (Nat.le_of_ble_eq_true rfl) rfl (by omega) (by decide) ?_
      refine j_top (y0 := row (4 * j + k)) (by rw [hr30, Nat.mul_comm j 4]; exact (hS.gr.1.2 j hj).2.2.2.2 k hk) ?_
      refine j_istore (lv' := [(0, .ref 0), (1, .int (nI j)), (2, .int (nI k)), (3, .int x3), (4, .int (row (4 * j + k)))]) dX5_price_34 (Nat.le_of_ble_eq_true rfl) rfl rfl ?_
      refine j_iload dX5_price_36 rfl ?_
      refine j_iload_n dX5_price_38 rfl ?_
      refine j_icmp_ne (tgt := 45) dX5_price_39 (by decide) (fun c39 => ?_) (fun c39 => ?_)
      · have hac := acPrice_d hchj h3 c39
        refine j_aload_n dX5_price_45 rfl ?_
        refine j_callV (y' := mX5_beginAct) (As := []) (st := []) dX5_price_46 lkX5_160 okX5_beginAct imX5_beginAct seX5_beginAct (Nat.le_of_ble_eq_true rfl) rfl rfl rfl rfl (Nat.le_of_ble_eq_true rfl) (Nat.le_of_ble_eq_true rfl) (c_beginAct z _ t n mm row un P kn K F A hB hS) (fun v46 F46 A46 hq46 => ?_)
        obtain ⟨rfl, hB, e1_46, hS⟩ := hq46
        have hn8 := hS.gr.1.1.2
        refine j_aload_n dX5_price_49 rfl ?_
        refine j_getR (r := 33) dX5_price_50 flX5_16 (Nat.le_of_ble_eq_true rfl) rfl rfl ?_
        refine j_getR (r := 38) dX5_price_53 flX5_154 (Nat.le_of_ble_eq_true rfl) rfl rfl ?_
        refine j_iload_n dX5_price_56 rfl ?_
        refine j_iload_n dX5_price_57 rfl ?_
        refine j_callS (y' := mX5_choicePlace) (As := [.int (nI j), .int (nI k)]) (st := [.ref 38]) dX5_price_58 lkX5_157 okX5_choicePlace stX5_choicePlace rfl (Nat.le_of_ble_eq_true rfl) (Nat.le_of_ble_eq_true rfl) (c_choicePlace z _ j k F46 A46) (fun v58 F58 A58 hq58 => ?_)
        obtain ⟨rfl, rfl, r58, rfl, hr58⟩ := hq58
        refine j_iload_n dX5_price_61 rfl ?_
        refine j_iastN dX5_price_62 (Nat.le_of_ble_eq_true rfl) rfl (by omega) (by decide) ?_
        have e58 : r58 = 4 * j + k := by omega
        have hB := hB.u (k := 38) rfl r58 x3
        have hS := hS.set (A' := mj_u A46 38 (4 * j + k) x3) (fun q hq => mj_u_ne _ _ (by omega)) (hS.gr.own (by omega) x3)
        refine j_iload dX5_price_63 rfl ?_
        exact j_iret dX5_price_65 rfl rfl ⟨_, _, rfl, hac, hB, e1_46, by rw [e58]; exact hS⟩
      · have hac := acPrice_s hchj h3 c39
        refine j_bipush (v := (-2)) dX5_price_42 (by decide +kernel) ?_
        exact j_iret dX5_price_44 rfl rfl ⟨_, _, rfl, hac, hB, rfl, hS⟩
    · have hac := acPrice_c (row := row) hchj (hr13.resolve_left (fun h => by omega)).2
      refine j_iconst (v := (-1)) dX5_price_19 (by decide +kernel) ?_
      exact j_iret dX5_price_20 rfl rfl ⟨_, _, rfl, hac, hB, rfl, hS⟩

set_option maxHeartbeats 400000 in
set_option maxRecDepth 100000 in
theorem c_rename (z : mj_B) (d : Nat) (t n : Nat) (mm : Nat → Nat) (row : Nat → Int32) (un : Nat) (P : Nat → Nat → Int32) (kn : Nat) (K : Nat → Nat → Int32) (x1 x2 : Int32) (F A : mj_S) (hB : CB t F A) (hS : CS F A n mm row un P kn K) (hw : wr n mm row) : J (gC z) mX5_rename (d + 4) 0 [(0, .ref 0), (1, .int x1), (2, .int x2)] [] F A (fun v F' A' => ∃ x o, v = some (.int x) ∧ acRename n row x1 x2 = (x, o) ∧ CB t F' A' ∧ A' 1 = A 1 ∧ CSo F' A' n mm row un P kn K o) := by
  have hn8 := hS.gr.1.1.2
  have hm4 : ∀ u, u < n → mm u ≤ 4 := fun u hu => (hS.gr.1.2 u hu).1
  have hT := hB.1.2
  have hun := hS.1.2.2.1
  have hkn := hS.1.2.2.2.2
  refine j_aload_n dX5_rename_0 rfl ?_
  refine j_iload_n dX5_rename_1 rfl ?_
  refine j_callV (y' := mX5_isNode) (As := [.int x1]) (st := []) dX5_rename_2 lkX5_117 okX5_isNode imX5_isNode seX5_isNode (Nat.le_of_ble_eq_true rfl) rfl rfl rfl rfl (Nat.le_of_ble_eq_true rfl) (Nat.le_of_ble_eq_true rfl) (c_isNodeX z _ n mm row x1 F A hS.gr) (fun v2 F2 A2 hq2 => ?_)
  obtain ⟨rfl, rfl, r2, rfl, hr2⟩ := hq2
  have hb2 : r2 ≤ 1 := by omega
  refine j_if_eqN (tgt := 17) dX5_rename_5 (by decide) (by omega) (fun c5 => ?_) (fun c5 => ?_)
  · have hnd := ndO_none hn8 (hr2.resolve_left (fun h => by omega)).2
    have hac := acRename_n (row := row) (x2 := x2) hnd
    refine j_iconst (v := (-1)) dX5_rename_17 (by decide +kernel) ?_
    exact j_iret dX5_rename_18 rfl rfl ⟨_, _, rfl, hac, hB, rfl, hS⟩
  · obtain ⟨j, hj, rfl⟩ := (hr2.resolve_right (fun h => by omega)).2
    have hndj := ndO_some hn8 hj
    refine j_iload_n dX5_rename_8 rfl ?_
    refine j_iconst (v := nI 0) dX5_rename_9 (by decide +kernel) ?_
    refine j_iconst (v := nI 3) dX5_rename_10 (by decide +kernel) ?_
    refine j_callS (y' := mX5_isWithin) (As := [.int x2, .int (nI 0), .int (nI 3)]) (st := []) dX5_rename_11 lkX5_90 okX5_isWithin stX5_isWithin rfl (Nat.le_of_ble_eq_true rfl) (Nat.le_of_ble_eq_true rfl) (c_isWithin z _ x2 (nI 0) (nI 3) F A) (fun v11 F11 A11 hq11 => ?_)
    obtain ⟨rfl, rfl, r11, rfl, hr11⟩ := hq11
    have hb11 : r11 ≤ 1 := by omega
    refine j_if_neN (tgt := 19) dX5_rename_14 (by decide) (by omega) (fun c14 => ?_) (fun c14 => ?_)
    · have h3 := (hr11.resolve_right (fun h => by omega)).2
      refine j_aload_n dX5_rename_19 rfl ?_
      refine j_getR (r := 33) dX5_rename_20 flX5_16 (Nat.le_of_ble_eq_true rfl) rfl rfl ?_
      refine j_getR (r := 35) dX5_rename_23 flX5_121 (Nat.le_of_ble_eq_true rfl) rfl rfl ?_
      refine j_iload_n dX5_rename_26 rfl ?_
      refine j_ialdN dX5_rename_27 (Nat.le_of_ble_eq_true rfl) rfl (by omega) (by decide) ?_
      refine j_top (y0 := row (32 + j)) (hS.gr.1.2 j hj).2.2.1 ?_
      refine j_istore_n (lv' := [(0, .ref 0), (1, .int (nI j)), (2, .int x2), (3, .int (row (32 + j)))]) dX5_rename_28 (Nat.le_of_ble_eq_true rfl) rfl rfl ?_
      refine j_iload_n dX5_rename_29 rfl ?_
      refine j_iload_n dX5_rename_30 rfl ?_
      refine j_icmp_ne (tgt := 37) dX5_rename_31 (by decide) (fun c31 => ?_) (fun c31 => ?_)
      · have hac := acRename_d hndj h3 c31
        refine j_aload_n dX5_rename_37 rfl ?_
        refine j_callV (y' := mX5_beginAct) (As := []) (st := []) dX5_rename_38 lkX5_160 okX5_beginAct imX5_beginAct seX5_beginAct (Nat.le_of_ble_eq_true rfl) rfl rfl rfl rfl (Nat.le_of_ble_eq_true rfl) (Nat.le_of_ble_eq_true rfl) (c_beginAct z _ t n mm row un P kn K F A hB hS) (fun v38 F38 A38 hq38 => ?_)
        obtain ⟨rfl, hB, e1_38, hS⟩ := hq38
        have hn8 := hS.gr.1.1.2
        refine j_aload_n dX5_rename_41 rfl ?_
        refine j_getR (r := 33) dX5_rename_42 flX5_16 (Nat.le_of_ble_eq_true rfl) rfl rfl ?_
        refine j_getR (r := 35) dX5_rename_45 flX5_121 (Nat.le_of_ble_eq_true rfl) rfl rfl ?_
        refine j_iload_n dX5_rename_48 rfl ?_
        refine j_iload_n dX5_rename_49 rfl ?_
        refine j_iastN dX5_rename_50 (Nat.le_of_ble_eq_true rfl) rfl (by omega) (by decide) ?_
        have hB := hB.u (k := 35) rfl j x2
        have hS := hS.set (A' := mj_u A38 35 j x2) (fun q hq => mj_u_ne _ _ (by omega)) (hS.gr.kind (by omega) x2)
        refine j_iload_n dX5_rename_51 rfl ?_
        exact j_iret dX5_rename_52 rfl rfl ⟨_, _, rfl, hac, hB, e1_38, hS⟩
      · have hac := acRename_s hndj h3 c31
        refine j_bipush (v := (-2)) dX5_rename_34 (by decide +kernel) ?_
        exact j_iret dX5_rename_36 rfl rfl ⟨_, _, rfl, hac, hB, rfl, hS⟩
    · have hac := acRename_c (row := row) hndj (hr11.resolve_left (fun h => by omega)).2
      refine j_iconst (v := (-1)) dX5_rename_17 (by decide +kernel) ?_
      exact j_iret dX5_rename_18 rfl rfl ⟨_, _, rfl, hac, hB, rfl, hS⟩

set_option maxHeartbeats 400000 in
set_option maxRecDepth 100000 in
theorem c_pin (z : mj_B) (d : Nat) (t n : Nat) (mm : Nat → Nat) (row : Nat → Int32) (un : Nat) (P : Nat → Nat → Int32) (kn : Nat) (K : Nat → Nat → Int32) (x1 x2 : Int32) (F A : mj_S) (hB : CB t F A) (hS : CS F A n mm row un P kn K) (hw : wr n mm row) : J (gC z) mX5_pin (d + 4) 0 [(0, .ref 0), (1, .int x1), (2, .int x2)] [] F A (fun v F' A' => ∃ x o, v = some (.int x) ∧ acPin n mm row x1 x2 = (x, o) ∧ CB t F' A' ∧ A' 1 = A 1 ∧ CSo F' A' n mm row un P kn K o) := by
  have hn8 := hS.gr.1.1.2
  have hm4 : ∀ u, u < n → mm u ≤ 4 := fun u hu => (hS.gr.1.2 u hu).1
  have hT := hB.1.2
  have hun := hS.1.2.2.1
  have hkn := hS.1.2.2.2.2
  refine j_aload_n dX5_pin_0 rfl ?_
  refine j_iload_n dX5_pin_1 rfl ?_
  refine j_callV (y' := mX5_isNode) (As := [.int x1]) (st := []) dX5_pin_2 lkX5_117 okX5_isNode imX5_isNode seX5_isNode (Nat.le_of_ble_eq_true rfl) rfl rfl rfl rfl (Nat.le_of_ble_eq_true rfl) (Nat.le_of_ble_eq_true rfl) (c_isNodeX z _ n mm row x1 F A hS.gr) (fun v2 F2 A2 hq2 => ?_)
  obtain ⟨rfl, rfl, r2, rfl, hr2⟩ := hq2
  have hb2 : r2 ≤ 1 := by omega
  refine j_if_eqN (tgt := 22) dX5_pin_5 (by decide) (by omega) (fun c5 => ?_) (fun c5 => ?_)
  · have hnd := ndO_none hn8 (hr2.resolve_left (fun h => by omega)).2
    have hac := acPin_n (mm := mm) (row := row) (x2 := x2) hnd
    refine j_iconst (v := (-1)) dX5_pin_22 (by decide +kernel) ?_
    exact j_iret dX5_pin_23 rfl rfl ⟨_, _, rfl, hac, hB, rfl, hS⟩
  · obtain ⟨j, hj, rfl⟩ := (hr2.resolve_right (fun h => by omega)).2
    have hndj := ndO_some hn8 hj
    obtain ⟨p, hp, ep⟩ := (hw.2.1 j hj).2.1
    have h4j := hm4 j hj
    refine j_iload_n dX5_pin_8 rfl ?_
    refine j_iconst (v := (-1)) dX5_pin_9 (by decide +kernel) ?_
    refine j_icmp_eq (tgt := 24) dX5_pin_10 (by decide) (fun c10 => ?_) (fun c10 => ?_)
    · subst c10
      have hpo := acPin_0 (mm := mm) (row := row) hndj rfl
      have hpe := pin_eq0 (x := row (40 + j)) (by omega) ep
      have hst : ((-1) : Int32) = nI 0 - 1 := by decide +kernel
      refine j_aload_n dX5_pin_24 rfl ?_
      refine j_getR (r := 33) dX5_pin_25 flX5_16 (Nat.le_of_ble_eq_true rfl) rfl rfl ?_
      refine j_getR (r := 36) dX5_pin_28 flX5_180 (Nat.le_of_ble_eq_true rfl) rfl rfl ?_
      refine j_iload_n dX5_pin_31 rfl ?_
      refine j_ialdN dX5_pin_32 (Nat.le_of_ble_eq_true rfl) rfl (by omega) (by decide) ?_
      refine j_top (y0 := row (40 + j) - 1) (hS.gr.1.2 j hj).2.2.2.1 ?_
      refine j_iload_n dX5_pin_33 rfl ?_
      refine j_icmp_ne (tgt := 40) dX5_pin_34 (by decide) (fun c34 => ?_) (fun c34 => ?_)
      · have hac := hpo.trans (pinO_d (fun q => c34 (hpe.mpr q)))
        refine j_aload_n dX5_pin_40 rfl ?_
        refine j_iload_n dX5_pin_41 rfl ?_
        refine j_callV (y' := mX5_pinnedTo) (As := [.int (nI j)]) (st := []) dX5_pin_42 lkX5_136 okX5_pinnedTo imX5_pinnedTo seX5_pinnedTo (Nat.le_of_ble_eq_true rfl) rfl rfl rfl rfl (Nat.le_of_ble_eq_true rfl) (Nat.le_of_ble_eq_true rfl) (c_pinnedToX z _ n mm row j hj F A hS.gr hw) (fun v42 F42 A42 hq42 => ?_)
        obtain ⟨rfl, rfl, r42, rfl, hr42⟩ := hq42
        refine j_istore_n (lv' := [(0, .ref 0), (1, .int (nI j)), (2, .int ((-1))), (3, .int r42)]) dX5_pin_45 (Nat.le_of_ble_eq_true rfl) rfl rfl ?_
        rw [← hr42] at hac
        refine j_aload_n dX5_pin_46 rfl ?_
        refine j_callV (y' := mX5_beginAct) (As := []) (st := []) dX5_pin_47 lkX5_160 okX5_beginAct imX5_beginAct seX5_beginAct (Nat.le_of_ble_eq_true rfl) rfl rfl rfl rfl (Nat.le_of_ble_eq_true rfl) (Nat.le_of_ble_eq_true rfl) (c_beginAct z _ t n mm row un P kn K F A hB hS) (fun v47 F47 A47 hq47 => ?_)
        obtain ⟨rfl, hB, e1_47, hS⟩ := hq47
        have hn8 := hS.gr.1.1.2
        refine j_aload_n dX5_pin_50 rfl ?_
        refine j_getR (r := 33) dX5_pin_51 flX5_16 (Nat.le_of_ble_eq_true rfl) rfl rfl ?_
        refine j_getR (r := 36) dX5_pin_54 flX5_180 (Nat.le_of_ble_eq_true rfl) rfl rfl ?_
        refine j_iload_n dX5_pin_57 rfl ?_
        refine j_iload_n dX5_pin_58 rfl ?_
        refine j_iastN dX5_pin_59 (Nat.le_of_ble_eq_true rfl) rfl (by omega) (by decide) ?_
        have hB := hB.u (k := 36) rfl j ((-1))
        have hS := hS.set (A' := mj_u A47 36 j ((-1))) (fun q hq => mj_u_ne _ _ (by omega)) (hS.gr.pin (by omega) hst)
        refine j_iload_n dX5_pin_60 rfl ?_
        exact j_iret dX5_pin_61 rfl rfl ⟨_, _, rfl, hac, hB, e1_47, hS⟩
      · have hac := hpo.trans (pinO_s (hpe.mp c34))
        refine j_bipush (v := (-2)) dX5_pin_37 (by decide +kernel) ?_
        exact j_iret dX5_pin_39 rfl rfl ⟨_, _, rfl, hac, hB, rfl, hS⟩
    · refine j_aload_n dX5_pin_13 rfl ?_
      refine j_iload_n dX5_pin_14 rfl ?_
      refine j_iload_n dX5_pin_15 rfl ?_
      refine j_callV (y' := mX5_isChoice) (As := [.int (nI j), .int x2]) (st := []) dX5_pin_16 lkX5_139 okX5_isChoice imX5_isChoice seX5_isChoice (Nat.le_of_ble_eq_true rfl) rfl rfl rfl rfl (Nat.le_of_ble_eq_true rfl) (Nat.le_of_ble_eq_true rfl) (c_isChoiceX z _ n mm row (nI j) x2 F A hS.gr) (fun v16 F16 A16 hq16 => ?_)
      obtain ⟨rfl, rfl, r16, rfl, hr16⟩ := hq16
      have hb16 : r16 ≤ 1 := by omega
      refine j_if_neN (tgt := 24) dX5_pin_19 (by decide) (by omega) (fun c19 => ?_) (fun c19 => ?_)
      · obtain ⟨k, hk, rfl⟩ := (isC_iff hn8 hj).mp (hr16.resolve_right (fun h => by omega)).2
        have hpo := acPin_i (row := row) hndj c10 (ndO_some (by omega) hk)
        have hpe := pin_eqi (x := row (40 + j)) (by omega) ep (show k < 4 by omega)
        have hst : nI k = nI (k + 1) - 1 := (nI_s1 k).symm
        refine j_aload_n dX5_pin_24 rfl ?_
        refine j_getR (r := 33) dX5_pin_25 flX5_16 (Nat.le_of_ble_eq_true rfl) rfl rfl ?_
        refine j_getR (r := 36) dX5_pin_28 flX5_180 (Nat.le_of_ble_eq_true rfl) rfl rfl ?_
        refine j_iload_n dX5_pin_31 rfl ?_
        refine j_ialdN dX5_pin_32 (Nat.le_of_ble_eq_true rfl) rfl (by omega) (by decide) ?_
        refine j_top (y0 := row (40 + j) - 1) (hS.gr.1.2 j hj).2.2.2.1 ?_
        refine j_iload_n dX5_pin_33 rfl ?_
        refine j_icmp_ne (tgt := 40) dX5_pin_34 (by decide) (fun c34 => ?_) (fun c34 => ?_)
        · have hac := hpo.trans (pinO_d (fun q => c34 (hpe.mpr q)))
          refine j_aload_n dX5_pin_40 rfl ?_
          refine j_iload_n dX5_pin_41 rfl ?_
          refine j_callV (y' := mX5_pinnedTo) (As := [.int (nI j)]) (st := []) dX5_pin_42 lkX5_136 okX5_pinnedTo imX5_pinnedTo seX5_pinnedTo (Nat.le_of_ble_eq_true rfl) rfl rfl rfl rfl (Nat.le_of_ble_eq_true rfl) (Nat.le_of_ble_eq_true rfl) (c_pinnedToX z _ n mm row j hj F A hS.gr hw) (fun v42 F42 A42 hq42 => ?_)
          obtain ⟨rfl, rfl, r42, rfl, hr42⟩ := hq42
          refine j_istore_n (lv' := [(0, .ref 0), (1, .int (nI j)), (2, .int (nI k)), (3, .int r42)]) dX5_pin_45 (Nat.le_of_ble_eq_true rfl) rfl rfl ?_
          rw [← hr42] at hac
          refine j_aload_n dX5_pin_46 rfl ?_
          refine j_callV (y' := mX5_beginAct) (As := []) (st := []) dX5_pin_47 lkX5_160 okX5_beginAct imX5_beginAct seX5_beginAct (Nat.le_of_ble_eq_true rfl) rfl rfl rfl rfl (Nat.le_of_ble_eq_true rfl) (Nat.le_of_ble_eq_true rfl) (c_beginAct z _ t n mm row un P kn K F A hB hS) (fun v47 F47 A47 hq47 => ?_)
          obtain ⟨rfl, hB, e1_47, hS⟩ := hq47
          have hn8 := hS.gr.1.1.2
          refine j_aload_n dX5_pin_50 rfl ?_
          refine j_getR (r := 33) dX5_pin_51 flX5_16 (Nat.le_of_ble_eq_true rfl) rfl rfl ?_
          refine j_getR (r := 36) dX5_pin_54 flX5_180 (Nat.le_of_ble_eq_true rfl) rfl rfl ?_
          refine j_iload_n dX5_pin_57 rfl ?_
          refine j_iload_n dX5_pin_58 rfl ?_
          refine j_iastN dX5_pin_59 (Nat.le_of_ble_eq_true rfl) rfl (by omega) (by decide) ?_
          have hB := hB.u (k := 36) rfl j (nI k)
          have hS := hS.set (A' := mj_u A47 36 j (nI k)) (fun q hq => mj_u_ne _ _ (by omega)) (hS.gr.pin (by omega) hst)
          refine j_iload_n dX5_pin_60 rfl ?_
          exact j_iret dX5_pin_61 rfl rfl ⟨_, _, rfl, hac, hB, e1_47, hS⟩
        · have hac := hpo.trans (pinO_s (hpe.mp c34))
          refine j_bipush (v := (-2)) dX5_pin_37 (by decide +kernel) ?_
          exact j_iret dX5_pin_39 rfl rfl ⟨_, _, rfl, hac, hB, rfl, hS⟩
      · have hac := acPin_c (row := row) hndj c10 (ndO_none (by omega) (fun q => (hr16.resolve_left (fun h => by omega)).2 ((isC_iff hn8 hj).mpr q)))
        refine j_iconst (v := (-1)) dX5_pin_22 (by decide +kernel) ?_
        exact j_iret dX5_pin_23 rfl rfl ⟨_, _, rfl, hac, hB, rfl, hS⟩

set_option maxHeartbeats 400000 in
set_option maxRecDepth 100000 in
theorem c_loose (z : mj_B) (d : Nat) (t n : Nat) (mm : Nat → Nat) (row : Nat → Int32) (un : Nat) (P : Nat → Nat → Int32) (kn : Nat) (K : Nat → Nat → Int32) (x1 x2 : Int32) (F A : mj_S) (hB : CB t F A) (hS : CS F A n mm row un P kn K) (hw : wr n mm row) : J (gC z) mX5_loose (d + 4) 0 [(0, .ref 0), (1, .int x1), (2, .int x2)] [] F A (fun v F' A' => ∃ x o, v = some (.int x) ∧ acLoose n row x1 x2 = o ∧ CB t F' A' ∧ A' 1 = A 1 ∧ CSo F' A' n mm row un P kn K o) := by
  have hn8 := hS.gr.1.1.2
  have hm4 : ∀ u, u < n → mm u ≤ 4 := fun u hu => (hS.gr.1.2 u hu).1
  have hT := hB.1.2
  have hun := hS.1.2.2.1
  have hkn := hS.1.2.2.2.2
  refine j_aload_n dX5_loose_0 rfl ?_
  refine j_iload_n dX5_loose_1 rfl ?_
  refine j_callV (y' := mX5_isNode) (As := [.int x1]) (st := []) dX5_loose_2 lkX5_117 okX5_isNode imX5_isNode seX5_isNode (Nat.le_of_ble_eq_true rfl) rfl rfl rfl rfl (Nat.le_of_ble_eq_true rfl) (Nat.le_of_ble_eq_true rfl) (c_isNodeX z _ n mm row x1 F A hS.gr) (fun v2 F2 A2 hq2 => ?_)
  obtain ⟨rfl, rfl, r2, rfl, hr2⟩ := hq2
  have hb2 : r2 ≤ 1 := by omega
  refine j_if_eqN (tgt := 16) dX5_loose_5 (by decide) (by omega) (fun c5 => ?_) (fun c5 => ?_)
  · have hnd := ndO_none hn8 (hr2.resolve_left (fun h => by omega)).2
    have hac := acLoose_1 (row := row) (x2 := x2) hnd
    refine j_iconst (v := (-1)) dX5_loose_16 (by decide +kernel) ?_
    exact j_iret dX5_loose_17 rfl rfl ⟨_, _, rfl, hac, hB, rfl, hS⟩
  · obtain ⟨j, hj, rfl⟩ := (hr2.resolve_right (fun h => by omega)).2
    have hndj := ndO_some hn8 hj
    refine j_aload_n dX5_loose_8 rfl ?_
    refine j_iload_n dX5_loose_9 rfl ?_
    refine j_callV (y' := mX5_isNode) (As := [.int x2]) (st := []) dX5_loose_10 lkX5_117 okX5_isNode imX5_isNode seX5_isNode (Nat.le_of_ble_eq_true rfl) rfl rfl rfl rfl (Nat.le_of_ble_eq_true rfl) (Nat.le_of_ble_eq_true rfl) (c_isNodeX z _ n mm row x2 F A hS.gr) (fun v10 F10 A10 hq10 => ?_)
    obtain ⟨rfl, rfl, r10, rfl, hr10⟩ := hq10
    have hb10 : r10 ≤ 1 := by omega
    refine j_if_neN (tgt := 18) dX5_loose_13 (by decide) (by omega) (fun c13 => ?_) (fun c13 => ?_)
    · obtain ⟨k, hk, rfl⟩ := (hr10.resolve_right (fun h => by omega)).2
      have hndk := ndO_some hn8 hk
      refine j_aload_n dX5_loose_18 rfl ?_
      refine j_getR (r := 33) dX5_loose_19 flX5_16 (Nat.le_of_ble_eq_true rfl) rfl rfl ?_
      refine j_iload_n dX5_loose_22 rfl ?_
      refine j_iload_n dX5_loose_23 rfl ?_
      refine j_callV (y' := mX0_areTied) (As := [.int (nI j), .int (nI k)]) (st := []) dX5_loose_24 lkX5_147 okX0_areTied imX0_areTied seX0_areTied (Nat.le_of_ble_eq_true rfl) rfl rfl rfl rfl (Nat.le_of_ble_eq_true rfl) (Nat.le_of_ble_eq_true rfl) (c_areTiedX33 z _ n j k row hn8 hj (by omega) F A hS.gr.2.1) (fun v24 F24 A24 hq24 => ?_)
      obtain ⟨rfl, rfl, r24, rfl, hr24⟩ := hq24
      have hb24 := tdd_le row j k
      refine j_if_neN (tgt := 33) dX5_loose_27 (by decide) (by omega) (fun c27 => ?_) (fun c27 => ?_)
      · have hne : j ≠ k := fun e => by rw [e, tdd_self] at hr24; omega
        have htd : 0 < row (eA j k 0 0) := Classical.byContradiction fun q => by have := tdd_0 (u := j) (v := k) q; omega
        have hac := acLoose_d (row := row) hndj hndk ⟨hne, htd⟩
        refine j_aload_n dX5_loose_33 rfl ?_
        refine j_callV (y' := mX5_beginAct) (As := []) (st := []) dX5_loose_34 lkX5_160 okX5_beginAct imX5_beginAct seX5_beginAct (Nat.le_of_ble_eq_true rfl) rfl rfl rfl rfl (Nat.le_of_ble_eq_true rfl) (Nat.le_of_ble_eq_true rfl) (c_beginAct z _ t n mm row un P kn K F A hB hS) (fun v34 F34 A34 hq34 => ?_)
        obtain ⟨rfl, hB, e1_34, hS⟩ := hq34
        have hn8 := hS.gr.1.1.2
        refine j_aload_n dX5_loose_37 rfl ?_
        refine j_getR (r := 33) dX5_loose_38 flX5_16 (Nat.le_of_ble_eq_true rfl) rfl rfl ?_
        refine j_getR (r := 37) dX5_loose_41 flX5_128 (Nat.le_of_ble_eq_true rfl) rfl rfl ?_
        refine j_iload_n dX5_loose_44 rfl ?_
        refine j_iload_n dX5_loose_45 rfl ?_
        refine j_callS (y' := mX5_part) (As := [.ref 37, .int (nI j), .int (nI k)]) (st := []) dX5_loose_46 lkX5_176 okX5_part stX5_part rfl (Nat.le_of_ble_eq_true rfl) (Nat.le_of_ble_eq_true rfl) (c_part z _ 37 j k (by omega) (by omega) (Nat.le_of_ble_eq_true rfl) rfl F34 A34) (fun v46 F46 A46 hq46 => ?_)
        obtain ⟨rfl, rfl, h37, hk37⟩ := hq46
        have hB := hB.ab (a := 37) (b := 37) rfl rfl (fun q h _ => hk37 q h)
        rw [pk_un (Ne.symm hne)] at h37
        have hS : CS F34 A46 n mm (looR row (pmin j k) (pmax j k)) (pushN un) (pushP un P row) kn K := hS.set (fun q hq => hk37 q (by omega)) (by
          rcases pmm_or j k with ⟨hl, e1, e2⟩ | ⟨hl, e1, e2⟩
          · rw [e1, e2]; exact hS.gr.loo hl hk htd h37 (fun i h1 h2 h3 => hk37 _ (by omega))
          · rw [e1, e2]; exact hS.gr.loo (by omega) hj (by rw [eA_sym 0 0 (Ne.symm hne)]; exact htd) (h37.trans (upd_comm hne _ _)) (fun i h1 h2 h3 => hk37 _ (by omega)))
        refine j_aload_n dX5_loose_49 rfl ?_
        refine j_getR (r := 33) dX5_loose_50 flX5_16 (Nat.le_of_ble_eq_true rfl) rfl rfl ?_
        refine j_callV (y' := mX0_tieCount) (As := []) (st := []) dX5_loose_53 lkX5_169 okX0_tieCount imX0_tieCount seX0_tieCount (Nat.le_of_ble_eq_true rfl) rfl rfl rfl rfl (Nat.le_of_ble_eq_true rfl) (Nat.le_of_ble_eq_true rfl) (c_tieCount33 z _ _ F34 A46 hB.c) (fun v53 F53 A53 hq53 => ?_)
        obtain ⟨rfl, rfl, r53, rfl, -⟩ := hq53
        exact j_iret dX5_loose_56 rfl rfl ⟨_, _, rfl, hac, hB, (hk37 1 (by decide)).trans e1_34, hS⟩
      · have hac := acLoose_n (row := row) hndj hndk (fun q => by have := tdd_1 q.1 q.2; omega)
        refine j_bipush (v := (-2)) dX5_loose_30 (by decide +kernel) ?_
        exact j_iret dX5_loose_32 rfl rfl ⟨_, _, rfl, hac, hB, rfl, hS⟩
    · have hnd := ndO_none hn8 (hr10.resolve_left (fun h => by omega)).2
      have hac := acLoose_2 (row := row) (x1 := nI j) hnd
      refine j_iconst (v := (-1)) dX5_loose_16 (by decide +kernel) ?_
      exact j_iret dX5_loose_17 rfl rfl ⟨_, _, rfl, hac, hB, rfl, hS⟩

theorem in09 {x : Int32} (h : nI 0 ≤ x ∧ x ≤ nI 9) : ∃ c, c ≤ 9 ∧ x = nI c := by
  obtain ⟨j, hj, rfl⟩ := nI_of (x := x) (Int32.not_lt.mpr (by rw [← nI_0]; exact h.1))
  exact ⟨j, (nI_leI hj (by omega)).mp h.2, rfl⟩
theorem eP_blk {u v i j : Nat} (h : u ≠ v) (hi : i < 4) (hj : j < 4) : eP u v 0 0 ≤ eP u v i j ∧ eP u v i j < eP u v 0 0 + 16 := by
  unfold eP
  by_cases hl : u < v
  · rw [if_pos hl, if_pos hl]; omega
  · rw [if_neg hl, if_neg hl]; omega

set_option maxHeartbeats 400000 in
set_option maxRecDepth 100000 in
theorem c_table (z : mj_B) (d : Nat) (t n : Nat) (mm : Nat → Nat) (row : Nat → Int32) (un : Nat) (P : Nat → Nat → Int32) (kn : Nat) (K : Nat → Nat → Int32) (x1 x2 x3 x4 x5 : Int32) (F A : mj_S) (hB : CB t F A) (hS : CS F A n mm row un P kn K) (hw : wr n mm row) : J (gC z) mX5_table (d + 4) 0 [(0, .ref 0), (1, .int x1), (2, .int x2), (3, .int x3), (4, .int x4), (5, .int x5)] [] F A (fun v F' A' => ∃ x o, v = some (.int x) ∧ acTable n mm row x1 x2 x3 x4 x5 = (x, o) ∧ CB t F' A' ∧ A' 1 = A 1 ∧ CSo F' A' n mm row un P kn K o) := by
  have hn8 := hS.gr.1.1.2
  have hm4 : ∀ u, u < n → mm u ≤ 4 := fun u hu => (hS.gr.1.2 u hu).1
  have hT := hB.1.2
  have hun := hS.1.2.2.1
  have hkn := hS.1.2.2.2.2
  refine j_iload_n dX5_table_0 rfl ?_
  refine j_iload_n dX5_table_1 rfl ?_
  refine j_icmp_eq (tgt := 35) dX5_table_2 (by decide) (fun c2 => ?_) (fun c2 => ?_)
  · have hac := acTable_e (n := n) (mm := mm) (row := row) (x3 := x3) (x4 := x4) (x5 := x5) c2
    refine j_iconst (v := (-1)) dX5_table_35 (by decide +kernel) ?_
    exact j_iret dX5_table_36 rfl rfl ⟨_, _, rfl, hac, hB, rfl, hS⟩
  · refine j_aload_n dX5_table_5 rfl ?_
    refine j_iload_n dX5_table_6 rfl ?_
    refine j_iload_n dX5_table_7 rfl ?_
    refine j_callV (y' := mX5_isChoice) (As := [.int x1, .int x3]) (st := []) dX5_table_8 lkX5_139 okX5_isChoice imX5_isChoice seX5_isChoice (Nat.le_of_ble_eq_true rfl) rfl rfl rfl rfl (Nat.le_of_ble_eq_true rfl) (Nat.le_of_ble_eq_true rfl) (c_isChoiceX z _ n mm row x1 x3 F A hS.gr) (fun v8 F8 A8 hq8 => ?_)
    obtain ⟨rfl, rfl, r8, rfl, hr8⟩ := hq8
    have hb8 : r8 ≤ 1 := by omega
    refine j_if_eqN (tgt := 35) dX5_table_11 (by decide) (by omega) (fun c11 => ?_) (fun c11 => ?_)
    · have hch := chO_none hn8 hm4 (hr8.resolve_left (fun h => by omega)).2
      have hac := acTable_1 (row := row) (x4 := x4) (x5 := x5) c2 hch
      refine j_iconst (v := (-1)) dX5_table_35 (by decide +kernel) ?_
      exact j_iret dX5_table_36 rfl rfl ⟨_, _, rfl, hac, hB, rfl, hS⟩
    · obtain ⟨j, k, hj, hk, rfl, rfl⟩ := (hr8.resolve_right (fun h => by omega)).2
      have h4j := hm4 j hj
      have hchj := chO_some hn8 h4j hj hk
      refine j_aload_n dX5_table_14 rfl ?_
      refine j_iload_n dX5_table_15 rfl ?_
      refine j_iload dX5_table_16 rfl ?_
      refine j_callV (y' := mX5_isChoice) (As := [.int x2, .int x4]) (st := []) dX5_table_18 lkX5_139 okX5_isChoice imX5_isChoice seX5_isChoice (Nat.le_of_ble_eq_true rfl) rfl rfl rfl rfl (Nat.le_of_ble_eq_true rfl) (Nat.le_of_ble_eq_true rfl) (c_isChoiceX z _ n mm row x2 x4 F A hS.gr) (fun v18 F18 A18 hq18 => ?_)
      obtain ⟨rfl, rfl, r18, rfl, hr18⟩ := hq18
      have hb18 : r18 ≤ 1 := by omega
      refine j_if_eqN (tgt := 35) dX5_table_21 (by decide) (by omega) (fun c21 => ?_) (fun c21 => ?_)
      · have hch := chO_none hn8 hm4 (hr18.resolve_left (fun h => by omega)).2
        have hac := acTable_2 (row := row) (x5 := x5) c2 hchj hch
        refine j_iconst (v := (-1)) dX5_table_35 (by decide +kernel) ?_
        exact j_iret dX5_table_36 rfl rfl ⟨_, _, rfl, hac, hB, rfl, hS⟩
      · obtain ⟨j2, k2, hj2, hk2, rfl, rfl⟩ := (hr18.resolve_right (fun h => by omega)).2
        have h4j2 := hm4 j2 hj2
        have hchj2 := chO_some hn8 h4j2 hj2 hk2
        have hne : j ≠ j2 := fun e => c2 (by rw [e])
        refine j_iload dX5_table_24 rfl ?_
        refine j_iconst (v := nI 0) dX5_table_26 (by decide +kernel) ?_
        refine j_bipush (v := nI 9) dX5_table_27 (by decide +kernel) ?_
        refine j_callS (y' := mX5_isWithin) (As := [.int x5, .int (nI 0), .int (nI 9)]) (st := []) dX5_table_29 lkX5_90 okX5_isWithin stX5_isWithin rfl (Nat.le_of_ble_eq_true rfl) (Nat.le_of_ble_eq_true rfl) (c_isWithin z _ x5 (nI 0) (nI 9) F A) (fun v29 F29 A29 hq29 => ?_)
        obtain ⟨rfl, rfl, r29, rfl, hr29⟩ := hq29
        have hb29 : r29 ≤ 1 := by omega
        refine j_if_neN (tgt := 37) dX5_table_32 (by decide) (by omega) (fun c32 => ?_) (fun c32 => ?_)
        · have h5 := (hr29.resolve_right (fun h => by omega)).2
          have hao := acTable_o (row := row) c2 hchj hchj2 h5
          obtain ⟨c, hc9, rfl⟩ := in09 h5
          have hy : 0 < nI c + 1 := by rw [← n01, nI_add, ← nI_0]; exact nI_lt (by omega) (by omega)
          refine j_aload_n dX5_table_37 rfl ?_
          refine j_getR (r := 33) dX5_table_38 flX5_16 (Nat.le_of_ble_eq_true rfl) rfl rfl ?_
          refine j_iload_n dX5_table_41 rfl ?_
          refine j_iload_n dX5_table_42 rfl ?_
          refine j_callV (y' := mX0_areTied) (As := [.int (nI j), .int (nI j2)]) (st := []) dX5_table_43 lkX5_147 okX0_areTied imX0_areTied seX0_areTied (Nat.le_of_ble_eq_true rfl) rfl rfl rfl rfl (Nat.le_of_ble_eq_true rfl) (Nat.le_of_ble_eq_true rfl) (c_areTiedX33 z _ n j j2 row hn8 hj (by omega) F A hS.gr.2.1) (fun v43 F43 A43 hq43 => ?_)
          obtain ⟨rfl, rfl, r43, rfl, hr43⟩ := hq43
          have hb43 := tdd_le row j j2
          refine j_istore (lv' := [(0, .ref 0), (1, .int (nI j)), (2, .int (nI j2)), (3, .int (nI k)), (4, .int (nI k2)), (5, .int (nI c)), (6, .int (nI r43))]) dX5_table_46 (Nat.le_of_ble_eq_true rfl) rfl rfl ?_
          refine j_iload dX5_table_48 rfl ?_
          refine j_if_eqN (tgt := 77) dX5_table_50 (by decide) (by omega) (fun c50 => ?_) (fun c50 => ?_)
          · have htn : ¬ 0 < row (eA j j2 0 0) := fun q => by have := tdd_1 hne q; omega
            have ht0 : tdd row j j2 = 0 := by omega
            refine j_iload dX5_table_77 rfl ?_
            refine j_if_neN (tgt := 97) dX5_table_79 (by decide) (by omega) (fun c79 => ?_) (fun c79 => ?_)
            · exfalso; omega
            · refine j_aload_n dX5_table_82 rfl ?_
              refine j_getR (r := 33) dX5_table_83 flX5_16 (Nat.le_of_ble_eq_true rfl) rfl rfl ?_
              refine j_callV (y' := mX0_tieCount) (As := []) (st := []) dX5_table_86 lkX5_169 okX0_tieCount imX0_tieCount seX0_tieCount (Nat.le_of_ble_eq_true rfl) rfl rfl rfl rfl (Nat.le_of_ble_eq_true rfl) (Nat.le_of_ble_eq_true rfl) (c_tieCountX33 z _ n mm row F A hS.gr hw) (fun v86 F86 A86 hq86 => ?_)
              obtain ⟨rfl, rfl, r86, rfl, hr86⟩ := hq86
              have hb86 := hw.2.2.2.2
              refine j_bipush (v := nI 12) dX5_table_89 (by decide +kernel) ?_
              refine j_icmp_ltN (tgt := 97) dX5_table_91 (by decide) (by omega) (by omega) (fun c91 => ?_) (fun c91 => ?_)
              · have hac := hao.trans (tabO_n htn (by omega))
                rw [← nI_0] at hac
                refine j_aload_n dX5_table_97 rfl ?_
                refine j_callV (y' := mX5_beginAct) (As := []) (st := []) dX5_table_98 lkX5_160 okX5_beginAct imX5_beginAct seX5_beginAct (Nat.le_of_ble_eq_true rfl) rfl rfl rfl rfl (Nat.le_of_ble_eq_true rfl) (Nat.le_of_ble_eq_true rfl) (c_beginAct z _ t n mm row un P kn K F A hB hS) (fun v98 F98 A98 hq98 => ?_)
                obtain ⟨rfl, hB, e1_98, hS⟩ := hq98
                have hn8 := hS.gr.1.1.2
                refine j_iload dX5_table_101 rfl ?_
                refine j_if_neN (tgt := 125) dX5_table_103 (by decide) (by omega) (fun c103 => ?_) (fun c103 => ?_)
                · exfalso; omega
                · refine j_aload_n dX5_table_106 rfl ?_
                  refine j_getR (r := 33) dX5_table_107 flX5_16 (Nat.le_of_ble_eq_true rfl) rfl rfl ?_
                  refine j_getR (r := 37) dX5_table_110 flX5_128 (Nat.le_of_ble_eq_true rfl) rfl rfl ?_
                  refine j_aload_n dX5_table_113 rfl ?_
                  refine j_getR (r := 33) dX5_table_114 flX5_16 (Nat.le_of_ble_eq_true rfl) rfl rfl ?_
                  refine j_getR (r := 39) dX5_table_117 flX5_163 (Nat.le_of_ble_eq_true rfl) rfl rfl ?_
                  refine j_iload_n dX5_table_120 rfl ?_
                  refine j_iload_n dX5_table_121 rfl ?_
                  refine j_callS (y' := mX5_joinByNoughts) (As := [.ref 37, .ref 39, .int (nI j), .int (nI j2)]) (st := []) dX5_table_122 lkX5_172 okX5_joinByNoughts stX5_joinByNoughts rfl (Nat.le_of_ble_eq_true rfl) (Nat.le_of_ble_eq_true rfl) (c_joinByNoughts z _ 37 39 j j2 (by omega) (by omega) hne (Nat.le_of_ble_eq_true rfl) rfl (Nat.le_of_ble_eq_true rfl) rfl (by decide) F98 A98) (fun v122 F122 A122 hq122 => ?_)
                  obtain ⟨rfl, rfl, h37, h39, hjf⟩ := hq122
                  have hB := hB.ab (a := 37) (b := 39) rfl rfl hjf
                  have hS : CS F98 A122 n mm (oneR mm row (pmin j j2) (pmax j j2)) (pushN un) (pushP un P row) kn K := hS.set (fun q hq => hjf q (by omega) (by omega)) (by
                    rcases pmm_or j j2 with ⟨hl, e1, e2⟩ | ⟨hl, e1, e2⟩
                    · rw [e1, e2]; exact hS.gr.one hl hj2 (hw.1.2 j hj).1 (hw.1.2 j2 hj2).1 ht0 h39 h37 (fun i h1 h2 h3 => hjf _ (by omega) (by omega))
                    · rw [e1, e2]; exact hS.gr.one (by omega) hj (hw.1.2 j2 hj2).1 (hw.1.2 j hj).1 (by rw [tdd_sym]; exact ht0) (fun q => by rw [eP_sym 0 0 (Ne.symm hne)]; exact h39 q) (h37.trans (upd_comm hne _ _)) (fun i h1 h2 h3 => hjf _ (by omega) (by omega)))
                  have hone : oneR mm row (pmin j j2) (pmax j j2) (eA j j2 k k2) = 1 := by
                    rcases pmm_or j j2 with ⟨hl, e1, e2⟩ | ⟨hl, e1, e2⟩
                    · rw [e1, e2]; exact oneR_at hl hk hk2 (by omega) (by omega)
                    · rw [e1, e2, eA_sym k k2 hne]; exact oneR_at (by omega) hk2 hk (by omega) (by omega)
                  refine j_aload_n dX5_table_125 rfl ?_
                  refine j_getR (r := 33) dX5_table_126 flX5_16 (Nat.le_of_ble_eq_true rfl) rfl rfl ?_
                  refine j_getR (r := 39) dX5_table_129 flX5_163 (Nat.le_of_ble_eq_true rfl) rfl rfl ?_
                  refine j_iload_n dX5_table_132 rfl ?_
                  refine j_iload_n dX5_table_133 rfl ?_
                  refine j_iload_n dX5_table_134 rfl ?_
                  refine j_iload dX5_table_135 rfl ?_
                  refine j_callS (y' := mX5_entryPlace) (As := [.int (nI j), .int (nI j2), .int (nI k), .int (nI k2)]) (st := [.ref 39]) dX5_table_137 lkX5_166 okX5_entryPlace stX5_entryPlace rfl (Nat.le_of_ble_eq_true rfl) (Nat.le_of_ble_eq_true rfl) (c_entryPlace z _ j j2 k k2 (by omega) (by omega) (by omega) F98 A122) (fun v137 F137 A137 hq137 => ?_)
                  obtain ⟨rfl, rfl, e137, rfl, he137⟩ := hq137
                  have hl137 : e137 < 448 := by rw [he137]; exact eP_lt (by omega) (by omega) (by omega) (by omega) (by omega)
                  refine j_ialdN dX5_table_140 (Nat.le_of_ble_eq_true rfl) rfl (by omega) (by decide) ?_
                  refine j_top (y0 := nI 0) (by rw [he137, h39, if_pos (eP_blk hne (by omega) (by omega))]; exact nI_0.symm) ?_
                  refine j_istore (lv' := [(0, .ref 0), (1, .int (nI j)), (2, .int (nI j2)), (3, .int (nI k)), (4, .int (nI k2)), (5, .int (nI c)), (6, .int (nI r43)), (7, .int (nI 0))]) dX5_table_141 (Nat.le_of_ble_eq_true rfl) rfl rfl ?_
                  refine j_aload_n dX5_table_143 rfl ?_
                  refine j_getR (r := 33) dX5_table_144 flX5_16 (Nat.le_of_ble_eq_true rfl) rfl rfl ?_
                  refine j_getR (r := 39) dX5_table_147 flX5_163 (Nat.le_of_ble_eq_true rfl) rfl rfl ?_
                  refine j_iload_n dX5_table_150 rfl ?_
                  refine j_iload_n dX5_table_151 rfl ?_
                  refine j_iload_n dX5_table_152 rfl ?_
                  refine j_iload dX5_table_153 rfl ?_
                  refine j_callS (y' := mX5_entryPlace) (As := [.int (nI j), .int (nI j2), .int (nI k), .int (nI k2)]) (st := [.ref 39]) dX5_table_155 lkX5_166 okX5_entryPlace stX5_entryPlace rfl (Nat.le_of_ble_eq_true rfl) (Nat.le_of_ble_eq_true rfl) (c_entryPlace z _ j j2 k k2 (by omega) (by omega) (by omega) F98 A122) (fun v155 F155 A155 hq155 => ?_)
                  obtain ⟨rfl, rfl, e155, rfl, he155⟩ := hq155
                  have hl155 : e155 < 448 := by rw [he155]; exact eP_lt (by omega) (by omega) (by omega) (by omega) (by omega)
                  refine j_iload dX5_table_158 rfl ?_
                  refine j_iastN dX5_table_160 (Nat.le_of_ble_eq_true rfl) rfl (by omega) (by decide) ?_
                  have hB := hB.u (k := 39) rfl e155 (nI c)
                  have hS := hS.set (A' := mj_u A122 39 (eP j j2 k k2) (nI c)) (fun q hq => mj_u_ne _ _ (by omega)) (hS.gr.ent2 hne hj hj2 hk hk2 (by rw [hone]; decide) rfl hy)
                  refine j_iload dX5_table_161 rfl ?_
                  exact j_iret dX5_table_163 rfl rfl ⟨_, _, rfl, hac, hB, (hjf 1 (by decide) (by decide)).trans e1_98, by rw [he155]; exact hS⟩
              · have hac := hao.trans (tabO_f htn (by omega))
                refine j_bipush (v := (-3)) dX5_table_94 (by decide +kernel) ?_
                exact j_iret dX5_table_96 rfl rfl ⟨_, _, rfl, hac, hB, rfl, hS⟩
          · have htd : 0 < row (eA j j2 0 0) := Classical.byContradiction fun q => by have := tdd_0 (u := j) (v := j2) q; omega
            obtain ⟨f, hf, ef, er⟩ := hS.gr.fig hw hj hj2 hne hk hk2 htd
            refine j_aload_n dX5_table_53 rfl ?_
            refine j_getR (r := 33) dX5_table_54 flX5_16 (Nat.le_of_ble_eq_true rfl) rfl rfl ?_
            refine j_getR (r := 39) dX5_table_57 flX5_163 (Nat.le_of_ble_eq_true rfl) rfl rfl ?_
            refine j_iload_n dX5_table_60 rfl ?_
            refine j_iload_n dX5_table_61 rfl ?_
            refine j_iload_n dX5_table_62 rfl ?_
            refine j_iload dX5_table_63 rfl ?_
            refine j_callS (y' := mX5_entryPlace) (As := [.int (nI j), .int (nI j2), .int (nI k), .int (nI k2)]) (st := [.ref 39]) dX5_table_65 lkX5_166 okX5_entryPlace stX5_entryPlace rfl (Nat.le_of_ble_eq_true rfl) (Nat.le_of_ble_eq_true rfl) (c_entryPlace z _ j j2 k k2 (by omega) (by omega) (by omega) F A) (fun v65 F65 A65 hq65 => ?_)
            obtain ⟨rfl, rfl, e65, rfl, he65⟩ := hq65
            have hl65 : e65 < 448 := by rw [he65]; exact eP_lt (by omega) (by omega) (by omega) (by omega) (by omega)
            refine j_ialdN dX5_table_68 (Nat.le_of_ble_eq_true rfl) rfl (by omega) (by decide) ?_
            refine j_top (y0 := nI f) (by rw [he65]; exact ef) ?_
            refine j_iload dX5_table_69 rfl ?_
            refine j_icmp_neN (tgt := 77) dX5_table_71 (by decide) (by omega) (by omega) (fun c71 => ?_) (fun c71 => ?_)
            · have hac := hao.trans (tabO_d htd (by rw [er, nI_s1]; exact fun q => c71 ((nI_eq (by omega) (by omega)).mp q)))
              rw [er, nI_s1] at hac
              refine j_iload dX5_table_77 rfl ?_
              refine j_if_neN (tgt := 97) dX5_table_79 (by decide) (by omega) (fun c79 => ?_) (fun c79 => ?_)
              · refine j_aload_n dX5_table_97 rfl ?_
                refine j_callV (y' := mX5_beginAct) (As := []) (st := []) dX5_table_98 lkX5_160 okX5_beginAct imX5_beginAct seX5_beginAct (Nat.le_of_ble_eq_true rfl) rfl rfl rfl rfl (Nat.le_of_ble_eq_true rfl) (Nat.le_of_ble_eq_true rfl) (c_beginAct z _ t n mm row un P kn K F A hB hS) (fun v98 F98 A98 hq98 => ?_)
                obtain ⟨rfl, hB, e1_98, hS⟩ := hq98
                have hn8 := hS.gr.1.1.2
                refine j_iload dX5_table_101 rfl ?_
                refine j_if_neN (tgt := 125) dX5_table_103 (by decide) (by omega) (fun c103 => ?_) (fun c103 => ?_)
                · refine j_aload_n dX5_table_125 rfl ?_
                  refine j_getR (r := 33) dX5_table_126 flX5_16 (Nat.le_of_ble_eq_true rfl) rfl rfl ?_
                  refine j_getR (r := 39) dX5_table_129 flX5_163 (Nat.le_of_ble_eq_true rfl) rfl rfl ?_
                  refine j_iload_n dX5_table_132 rfl ?_
                  refine j_iload_n dX5_table_133 rfl ?_
                  refine j_iload_n dX5_table_134 rfl ?_
                  refine j_iload dX5_table_135 rfl ?_
                  refine j_callS (y' := mX5_entryPlace) (As := [.int (nI j), .int (nI j2), .int (nI k), .int (nI k2)]) (st := [.ref 39]) dX5_table_137 lkX5_166 okX5_entryPlace stX5_entryPlace rfl (Nat.le_of_ble_eq_true rfl) (Nat.le_of_ble_eq_true rfl) (c_entryPlace z _ j j2 k k2 (by omega) (by omega) (by omega) F98 A98) (fun v137 F137 A137 hq137 => ?_)
                  obtain ⟨rfl, rfl, e137, rfl, he137⟩ := hq137
                  have hl137 : e137 < 448 := by rw [he137]; exact eP_lt (by omega) (by omega) (by omega) (by omega) (by omega)
                  refine j_ialdN dX5_table_140 (Nat.le_of_ble_eq_true rfl) rfl (by omega) (by decide) ?_
                  obtain ⟨f2, hf2, ef2, er2⟩ := hS.gr.fig hw hj hj2 hne hk hk2 htd
                  have hff : f2 = f := by have := er2.symm.trans er; have := (nI_eq (by omega) (by omega)).mp this; omega
                  refine j_top (y0 := nI f) (by rw [he137]; exact ef2.trans (by rw [hff])) ?_
                  refine j_istore (lv' := [(0, .ref 0), (1, .int (nI j)), (2, .int (nI j2)), (3, .int (nI k)), (4, .int (nI k2)), (5, .int (nI c)), (6, .int (nI r43)), (7, .int (nI f))]) dX5_table_141 (Nat.le_of_ble_eq_true rfl) rfl rfl ?_
                  refine j_aload_n dX5_table_143 rfl ?_
                  refine j_getR (r := 33) dX5_table_144 flX5_16 (Nat.le_of_ble_eq_true rfl) rfl rfl ?_
                  refine j_getR (r := 39) dX5_table_147 flX5_163 (Nat.le_of_ble_eq_true rfl) rfl rfl ?_
                  refine j_iload_n dX5_table_150 rfl ?_
                  refine j_iload_n dX5_table_151 rfl ?_
                  refine j_iload_n dX5_table_152 rfl ?_
                  refine j_iload dX5_table_153 rfl ?_
                  refine j_callS (y' := mX5_entryPlace) (As := [.int (nI j), .int (nI j2), .int (nI k), .int (nI k2)]) (st := [.ref 39]) dX5_table_155 lkX5_166 okX5_entryPlace stX5_entryPlace rfl (Nat.le_of_ble_eq_true rfl) (Nat.le_of_ble_eq_true rfl) (c_entryPlace z _ j j2 k k2 (by omega) (by omega) (by omega) F98 A98) (fun v155 F155 A155 hq155 => ?_)
                  obtain ⟨rfl, rfl, e155, rfl, he155⟩ := hq155
                  have hl155 : e155 < 448 := by rw [he155]; exact eP_lt (by omega) (by omega) (by omega) (by omega) (by omega)
                  refine j_iload dX5_table_158 rfl ?_
                  refine j_iastN dX5_table_160 (Nat.le_of_ble_eq_true rfl) rfl (by omega) (by decide) ?_
                  have hB := hB.u (k := 39) rfl e155 (nI c)
                  have hS := hS.set (A' := mj_u A98 39 (eP j j2 k k2) (nI c)) (fun q hq => mj_u_ne _ _ (by omega)) (hS.gr.ent2 hne hj hj2 hk hk2 (by rw [er, ← nI_0]; exact nI_lt (by omega) (by omega)) rfl hy)
                  refine j_iload dX5_table_161 rfl ?_
                  exact j_iret dX5_table_163 rfl rfl ⟨_, _, rfl, hac, hB, e1_98, by rw [he155]; exact hS⟩
                · exfalso; omega
              · exfalso; omega
            · have hac := hao.trans (tabO_s htd (by rw [er, nI_s1, c71]))
              refine j_bipush (v := (-2)) dX5_table_74 (by decide +kernel) ?_
              exact j_iret dX5_table_76 rfl rfl ⟨_, _, rfl, hac, hB, rfl, hS⟩
        · have hac := acTable_5 (row := row) c2 hchj hchj2 (hr29.resolve_left (fun h => by omega)).2
          refine j_iconst (v := (-1)) dX5_table_35 (by decide +kernel) ?_
          exact j_iret dX5_table_36 rfl rfl ⟨_, _, rfl, hac, hB, rfl, hS⟩

set_option maxHeartbeats 400000 in
set_option maxRecDepth 100000 in
theorem c_undo (z : mj_B) (d : Nat) (t n : Nat) (mm : Nat → Nat) (row : Nat → Int32) (un : Nat) (P : Nat → Nat → Int32) (kn : Nat) (K : Nat → Nat → Int32) (F A : mj_S) (hB : CB t F A) (hS : CS F A n mm row un P kn K) (hw : wr n mm row) : J (gC z) mX5_undo (d + 3) 0 [(0, .ref 0)] [] F A (fun v F' A' => ∃ x, v = some (.int x) ∧ CB t F' A' ∧ A' 1 = A 1 ∧ ((un = 0 ∧ x = (-2) ∧ CS F' A' n mm row un P kn K) ∨ (0 < un ∧ x = nI (un - 1) ∧ CS F' A' n mm (P (un - 1)) (un - 1) P kn K))) := by
  have hn8 := hS.gr.1.1.2
  have hm4 : ∀ u, u < n → mm u ≤ 4 := fun u hu => (hS.gr.1.2 u hu).1
  have hT := hB.1.2
  have hun := hS.1.2.2.1
  have hkn := hS.1.2.2.2.2
  refine j_aload_n dX5_undo_0 rfl ?_
  refine j_getI dX5_undo_1 flX5_108 (Nat.le_of_ble_eq_true rfl) rfl rfl ?_
  refine j_top (y0 := nI un) hS.1.2.1 ?_
  refine j_if_gtN (tgt := 10) dX5_undo_4 (by decide) (by omega) (fun c4 => ?_) (fun c4 => ?_)
  · refine j_aload_n dX5_undo_10 rfl ?_
    refine j_dup dX5_undo_11 rfl ?_
    refine j_getI dX5_undo_12 flX5_108 (Nat.le_of_ble_eq_true rfl) rfl rfl ?_
    refine j_top (y0 := nI un) hS.1.2.1 ?_
    refine j_iconst (v := nI 1) dX5_undo_15 (by decide +kernel) ?_
    refine j_isubN dX5_undo_16 (by omega) ?_
    refine j_putI dX5_undo_17 fpX5_108 (Nat.le_of_ble_eq_true rfl) rfl rfl ?_
    have hB := hB.pn (n := un - 1) (by omega)
    refine j_aload_n dX5_undo_20 rfl ?_
    refine j_getR (r := 33) dX5_undo_21 flX5_16 (Nat.le_of_ble_eq_true rfl) rfl rfl ?_
    refine j_aload_n dX5_undo_24 rfl ?_
    refine j_getR (r := 3) dX5_undo_25 flX5_32 (Nat.le_of_ble_eq_true rfl) rfl rfl ?_
    refine j_aload_n dX5_undo_28 rfl ?_
    refine j_getI dX5_undo_29 flX5_108 (Nat.le_of_ble_eq_true rfl) rfl rfl ?_
    refine j_top (y0 := nI (un - 1)) rfl ?_
    obtain ⟨o32, hGo32, eo32⟩ := hB.2.2.2.2.2.1 (un - 1) (by omega)
    refine j_aaldN dX5_undo_32 (Nat.le_of_ble_eq_true rfl) rfl (by omega) (by decide) eo32 (g_31 hGo32) ?_
    refine j_callV (y' := mX0_copyFrom) (As := [.ref o32]) (st := []) dX5_undo_33 lkX5_104 okX0_copyFrom imX0_copyFrom seX0_copyFrom (Nat.le_of_ble_eq_true rfl) rfl rfl rfl rfl (Nat.le_of_ble_eq_true rfl) (Nat.le_of_ble_eq_true rfl) (c_copyFrom z _ _ 33 o32 g33 hGo32 (mj_u F 0 6 (nI (un - 1))) A hB) (fun v33 F33 A33 hq33 => ?_)
    obtain ⟨rfl, hB, rfl, rfl⟩ := hq33
    have hS := hS.undo (by omega) hGo32 eo32
    refine j_aload_n dX5_undo_36 rfl ?_
    refine j_callV (y' := mX5_forgetAnswers) (As := []) (st := []) dX5_undo_37 lkX5_114 okX5_forgetAnswers imX5_forgetAnswers seX5_forgetAnswers (Nat.le_of_ble_eq_true rfl) rfl rfl rfl rfl (Nat.le_of_ble_eq_true rfl) (Nat.le_of_ble_eq_true rfl) (c_forgetAnswers z _ _ (mj_u (mj_u F 0 6 (nI (un - 1))) 33 0 ((mj_u F 0 6 (nI (un - 1))) o32 0)) (cpA A 33 o32) hB) (fun v37 F37 A37 hq37 => ?_)
    obtain ⟨rfl, hB, rfl, eF37⟩ := hq37
    have hS := ((hS.f (s := 14) (by decide) (by decide) (nI 0)).f (s := 15) (by decide) (by decide) (nI 0)).f (s := 16) (by decide) (by decide) (nI 0)
    rw [← eF37] at hS
    refine j_aload_n dX5_undo_40 rfl ?_
    refine j_getI dX5_undo_41 flX5_108 (Nat.le_of_ble_eq_true rfl) rfl rfl ?_
    refine j_top (y0 := nI (un - 1)) hS.1.2.1 ?_
    exact j_iret dX5_undo_44 rfl rfl ⟨_, rfl, hB, cpA_off (fun i hi => by have := g_47 hGo32; omega), Or.inr ⟨by omega, rfl, hS⟩⟩
  · refine j_bipush (v := (-2)) dX5_undo_7 (by decide +kernel) ?_
    exact j_iret dX5_undo_9 rfl rfl ⟨_, rfl, hB, rfl, Or.inl ⟨by omega, rfl, hS⟩⟩

set_option maxHeartbeats 400000 in
set_option maxRecDepth 100000 in
theorem c_keep (z : mj_B) (d : Nat) (t n : Nat) (mm : Nat → Nat) (row : Nat → Int32) (un : Nat) (P : Nat → Nat → Int32) (kn : Nat) (K : Nat → Nat → Int32) (F A : mj_S) (hB : CB t F A) (hS : CS F A n mm row un P kn K) (hw : wr n mm row) : J (gC z) mX5_keep (d + 3) 0 [(0, .ref 0)] [] F A (fun v F' A' => ∃ x, v = some (.int x) ∧ CB t F' A' ∧ A' 1 = A 1 ∧ ((kn = 2 ∧ x = (-3) ∧ CS F' A' n mm row un P kn K) ∨ (kn < 2 ∧ x = nI (kn + 1) ∧ CS F' A' n mm row un P (kn + 1) (fun k => if k = kn then row else K k)))) := by
  have hn8 := hS.gr.1.1.2
  have hm4 : ∀ u, u < n → mm u ≤ 4 := fun u hu => (hS.gr.1.2 u hu).1
  have hT := hB.1.2
  have hun := hS.1.2.2.1
  have hkn := hS.1.2.2.2.2
  refine j_aload_n dX5_keep_0 rfl ?_
  refine j_getI dX5_keep_1 flX5_111 (Nat.le_of_ble_eq_true rfl) rfl rfl ?_
  refine j_top (y0 := nI kn) hS.1.2.2.2.1 ?_
  refine j_iconst (v := nI 2) dX5_keep_4 (by decide +kernel) ?_
  refine j_icmp_ltN (tgt := 11) dX5_keep_5 (by decide) (by omega) (by omega) (fun c5 => ?_) (fun c5 => ?_)
  · refine j_aload_n dX5_keep_11 rfl ?_
    refine j_getR (r := 4) dX5_keep_12 flX5_36 (Nat.le_of_ble_eq_true rfl) rfl rfl ?_
    refine j_aload_n dX5_keep_15 rfl ?_
    refine j_getI dX5_keep_16 flX5_111 (Nat.le_of_ble_eq_true rfl) rfl rfl ?_
    refine j_top (y0 := nI kn) hS.1.2.2.2.1 ?_
    obtain ⟨o19, hGo19, eo19⟩ := hB.2.2.2.2.2.2 kn (by omega)
    refine j_aaldN dX5_keep_19 (Nat.le_of_ble_eq_true rfl) rfl (by omega) (by decide) eo19 (g_31 hGo19) ?_
    refine j_aload_n dX5_keep_20 rfl ?_
    refine j_getR (r := 33) dX5_keep_21 flX5_16 (Nat.le_of_ble_eq_true rfl) rfl rfl ?_
    refine j_callV (y' := mX0_copyFrom) (As := [.ref 33]) (st := []) dX5_keep_24 lkX5_104 okX0_copyFrom imX0_copyFrom seX0_copyFrom (gs_lt hGo19 0 (by omega)) (gs_o hGo19) rfl rfl rfl (Nat.le_of_ble_eq_true rfl) (Nat.le_of_ble_eq_true rfl) (c_copyFrom z _ _ o19 33 hGo19 g33 F A hB) (fun v24 F24 A24 hq24 => ?_)
    obtain ⟨rfl, hB, rfl, rfl⟩ := hq24
    refine j_aload_n dX5_keep_27 rfl ?_
    refine j_dup dX5_keep_28 rfl ?_
    refine j_getI dX5_keep_29 flX5_111 (Nat.le_of_ble_eq_true rfl) rfl rfl ?_
    refine j_top (y0 := nI kn) ((mj_u_off _ (Or.inl (g_ne0 hGo19))).trans hS.1.2.2.2.1) ?_
    refine j_iconst (v := nI 1) dX5_keep_32 (by decide +kernel) ?_
    refine j_iaddN dX5_keep_33 ?_
    refine j_putI dX5_keep_34 fpX5_111 (Nat.le_of_ble_eq_true rfl) rfl rfl ?_
    have hB := hB.kn (n := kn + 1) (by omega)
    have ho := hS.kref (by omega) hGo19 eo19
    have hS := hS.keep (by omega)
    rw [← ho] at hS
    refine j_aload_n dX5_keep_37 rfl ?_
    refine j_getI dX5_keep_38 flX5_111 (Nat.le_of_ble_eq_true rfl) rfl rfl ?_
    refine j_top (y0 := nI (kn + 1)) rfl ?_
    exact j_iret dX5_keep_41 rfl rfl ⟨_, rfl, hB, cpA_off (fun i hi => by have := g_47 hGo19; omega), Or.inr ⟨by omega, rfl, hS⟩⟩
  · refine j_bipush (v := (-3)) dX5_keep_8 (by decide +kernel) ?_
    exact j_iret dX5_keep_10 rfl rfl ⟨_, rfl, hB, rfl, Or.inl ⟨by omega, rfl, hS⟩⟩

set_option maxHeartbeats 400000 in
set_option maxRecDepth 100000 in
theorem c_back (z : mj_B) (d : Nat) (t n : Nat) (mm : Nat → Nat) (row : Nat → Int32) (un : Nat) (P : Nat → Nat → Int32) (kn : Nat) (K : Nat → Nat → Int32) (F A : mj_S) (hB : CB t F A) (hS : CS F A n mm row un P kn K) (hw : wr n mm row) : J (gC z) mX5_back (d + 3) 0 [(0, .ref 0)] [] F A (fun v F' A' => ∃ x, v = some (.int x) ∧ CB t F' A' ∧ A' 1 = A 1 ∧ ((kn = 0 ∧ x = (-2) ∧ CS F' A' n mm row un P kn K) ∨ (0 < kn ∧ x = nI (kn - 1) ∧ CS F' A' n mm (K (kn - 1)) 0 P (kn - 1) K))) := by
  have hn8 := hS.gr.1.1.2
  have hm4 : ∀ u, u < n → mm u ≤ 4 := fun u hu => (hS.gr.1.2 u hu).1
  have hT := hB.1.2
  have hun := hS.1.2.2.1
  have hkn := hS.1.2.2.2.2
  refine j_aload_n dX5_back_0 rfl ?_
  refine j_getI dX5_back_1 flX5_111 (Nat.le_of_ble_eq_true rfl) rfl rfl ?_
  refine j_top (y0 := nI kn) hS.1.2.2.2.1 ?_
  refine j_if_gtN (tgt := 10) dX5_back_4 (by decide) (by omega) (fun c4 => ?_) (fun c4 => ?_)
  · refine j_aload_n dX5_back_10 rfl ?_
    refine j_dup dX5_back_11 rfl ?_
    refine j_getI dX5_back_12 flX5_111 (Nat.le_of_ble_eq_true rfl) rfl rfl ?_
    refine j_top (y0 := nI kn) hS.1.2.2.2.1 ?_
    refine j_iconst (v := nI 1) dX5_back_15 (by decide +kernel) ?_
    refine j_isubN dX5_back_16 (by omega) ?_
    refine j_putI dX5_back_17 fpX5_111 (Nat.le_of_ble_eq_true rfl) rfl rfl ?_
    have hB := hB.kn (n := kn - 1) (by omega)
    refine j_aload_n dX5_back_20 rfl ?_
    refine j_getR (r := 33) dX5_back_21 flX5_16 (Nat.le_of_ble_eq_true rfl) rfl rfl ?_
    refine j_aload_n dX5_back_24 rfl ?_
    refine j_getR (r := 4) dX5_back_25 flX5_36 (Nat.le_of_ble_eq_true rfl) rfl rfl ?_
    refine j_aload_n dX5_back_28 rfl ?_
    refine j_getI dX5_back_29 flX5_111 (Nat.le_of_ble_eq_true rfl) rfl rfl ?_
    refine j_top (y0 := nI (kn - 1)) rfl ?_
    obtain ⟨o32, hGo32, eo32⟩ := hB.2.2.2.2.2.2 (kn - 1) (by omega)
    refine j_aaldN dX5_back_32 (Nat.le_of_ble_eq_true rfl) rfl (by omega) (by decide) eo32 (g_31 hGo32) ?_
    refine j_callV (y' := mX0_copyFrom) (As := [.ref o32]) (st := []) dX5_back_33 lkX5_104 okX0_copyFrom imX0_copyFrom seX0_copyFrom (Nat.le_of_ble_eq_true rfl) rfl rfl rfl rfl (Nat.le_of_ble_eq_true rfl) (Nat.le_of_ble_eq_true rfl) (c_copyFrom z _ _ 33 o32 g33 hGo32 (mj_u F 0 8 (nI (kn - 1))) A hB) (fun v33 F33 A33 hq33 => ?_)
    obtain ⟨rfl, hB, rfl, rfl⟩ := hq33
    refine j_aload_n dX5_back_36 rfl ?_
    refine j_iconst (v := nI 0) dX5_back_37 (by decide +kernel) ?_
    refine j_putI dX5_back_38 fpX5_108 (Nat.le_of_ble_eq_true rfl) rfl rfl ?_
    have hB := hB.pn (n := 0) (by omega)
    have ho := hS.kref (by omega) hGo32 eo32
    have hS := hS.back (by omega)
    rw [← ho] at hS
    refine j_aload_n dX5_back_41 rfl ?_
    refine j_callV (y' := mX5_forgetAnswers) (As := []) (st := []) dX5_back_42 lkX5_114 okX5_forgetAnswers imX5_forgetAnswers seX5_forgetAnswers (Nat.le_of_ble_eq_true rfl) rfl rfl rfl rfl (Nat.le_of_ble_eq_true rfl) (Nat.le_of_ble_eq_true rfl) (c_forgetAnswers z _ _ (mj_u (mj_u (mj_u F 0 8 (nI (kn - 1))) 33 0 ((mj_u F 0 8 (nI (kn - 1))) o32 0)) 0 6 (nI 0)) (cpA A 33 o32) hB) (fun v42 F42 A42 hq42 => ?_)
    obtain ⟨rfl, hB, rfl, eF42⟩ := hq42
    have hS := ((hS.f (s := 14) (by decide) (by decide) (nI 0)).f (s := 15) (by decide) (by decide) (nI 0)).f (s := 16) (by decide) (by decide) (nI 0)
    rw [← eF42] at hS
    refine j_aload_n dX5_back_45 rfl ?_
    refine j_getI dX5_back_46 flX5_111 (Nat.le_of_ble_eq_true rfl) rfl rfl ?_
    refine j_top (y0 := nI (kn - 1)) hS.1.2.2.2.1 ?_
    exact j_iret dX5_back_49 rfl rfl ⟨_, rfl, hB, cpA_off (fun i hi => by have := g_47 hGo32; omega), Or.inr ⟨by omega, rfl, hS⟩⟩
  · refine j_bipush (v := (-2)) dX5_back_7 (by decide +kernel) ?_
    exact j_iret dX5_back_9 rfl rfl ⟨_, rfl, hB, rfl, Or.inl ⟨by omega, rfl, hS⟩⟩

set_option maxHeartbeats 400000 in
set_option maxRecDepth 100000 in
theorem c_fault (z : mj_B) (d : Nat) (T : Tg) (F A : mj_S) (hC : CI T F A) : J (gC z) mX5_fault (d + 5) 0 [(0, .ref 0)] [] F A (fun v F' A' => ∃ x, v = some (.int x) ∧ CI T F' A' ∧ ((∃ b, rd_text (cT T) T.1 = .inl b ∧ x = nI b ∧ b ≤ 200) ∨ (x = (-4) ∧ ∃ n mm row, rd_text (cT T) T.1 = .inr (n, mm, row) ∧ GR F' A' 40 n mm row ∧ wd n mm row))) := by
  have hT := hC.1.2.1
  refine j_aload_n dX5_fault_0 rfl ?_
  refine j_getR (r := 2) dX5_fault_1 flX5_28 (Nat.le_of_ble_eq_true rfl) rfl rfl ?_
  refine j_aload_n dX5_fault_4 rfl ?_
  refine j_getI dX5_fault_5 flX5_94 (Nat.le_of_ble_eq_true rfl) rfl rfl ?_
  refine j_top (y0 := nI (T.1)) hC.1.1 ?_
  refine j_callV (y' := mX1_read) (As := [.int (nI (T.1))]) (st := []) dX5_fault_8 lkX5_98 okX1_read imX1_read seX1_read (Nat.le_of_ble_eq_true rfl) rfl rfl rfl rfl (Nat.le_of_ble_eq_true rfl) (Nat.le_of_ble_eq_true rfl) (c_read z _ _ F A hC) (fun v8 F8 A8 hq8 => ?_)
  obtain ⟨x8, rfl, hC, hE8⟩ := hq8
  exact j_iret dX5_fault_11 rfl rfl ⟨_, rfl, hC, hE8⟩

set_option maxHeartbeats 400000 in
set_option maxRecDepth 100000 in
theorem c_lay (z : mj_B) (d t : Nat) (F0 A0 : mj_S) (hB0 : CB t F0 A0) (T : Tg) (hTe : T = (t, F0, A0)) : J (gC z) mX5_lay (d + 5) 0 [(0, .ref 0)] [] F0 A0 (fun v F' A' => ∃ x, v = some (.int x) ∧ CB T.1 F' A' ∧ A' 1 = A0 1 ∧ ((x = (-2) ∧ rd_no (cT T) T.1 ∧ PG T F' A') ∨ (∃ n' mm' row', rd_text (cT T) T.1 = .inr (n', mm', row') ∧ wd n' mm' row' ∧ 0 < n' ∧ x = nI n' ∧ ∀ n mm row un P kn K, CS F0 A0 n mm row un P kn K → CS F' A' n' mm' row' 0 P 0 K))) := by
  have hC : CI T F0 A0 := by rw [hTe]; exact hB0.c
  have hT := hC.1.2.1
  have hTA : T.2.2 1 = A0 1 := by rw [hTe]
  refine j_aload_n dX5_lay_0 rfl ?_
  refine j_getR (r := 2) dX5_lay_1 flX5_28 (Nat.le_of_ble_eq_true rfl) rfl rfl ?_
  refine j_aload_n dX5_lay_4 rfl ?_
  refine j_getI dX5_lay_5 flX5_94 (Nat.le_of_ble_eq_true rfl) rfl rfl ?_
  refine j_top (y0 := nI (T.1)) hC.1.1 ?_
  refine j_callV (y' := mX1_read) (As := [.int (nI (T.1))]) (st := []) dX5_lay_8 lkX5_98 okX1_read imX1_read seX1_read (Nat.le_of_ble_eq_true rfl) rfl rfl rfl rfl (Nat.le_of_ble_eq_true rfl) (Nat.le_of_ble_eq_true rfl) (c_read z _ _ F0 A0 hC) (fun v8 F8 A8 hq8 => ?_)
  obtain ⟨x8, rfl, hC, hE8⟩ := hq8
  refine j_bipush (v := (-4)) dX5_lay_11 (by decide +kernel) ?_
  refine j_icmp_ne (tgt := 26) dX5_lay_13 (by decide) (fun c13 => ?_) (fun c13 => ?_)
  · have hno : rd_no (cT T) T.1 := by
      rcases hE8 with ⟨b, h, -⟩ | ⟨h, -⟩
      · exact Or.inl ⟨b, h⟩
      · exact absurd h c13
    refine j_bipush (v := (-2)) dX5_lay_26 (by decide +kernel) ?_
    exact j_iret dX5_lay_28 rfl rfl ⟨_, rfl, hC.b, hC.tx.trans hTA, Or.inl ⟨rfl, hno, hC.p⟩⟩
  · obtain ⟨-, n1, mm1, row1, htx, hG, hw⟩ := hE8.resolve_left (fun ⟨b, _, h, hb⟩ => by rw [h] at c13; exact nI_m4 hb c13)
    have hn8 := hG.1.1.2
    refine j_aload_n dX5_lay_16 rfl ?_
    refine j_getR (r := 40) dX5_lay_17 flX5_20 (Nat.le_of_ble_eq_true rfl) rfl rfl ?_
    refine j_getI dX5_lay_20 flX5_101 (Nat.le_of_ble_eq_true rfl) rfl rfl ?_
    refine j_top (y0 := nI n1) hG.1.1.1 ?_
    refine j_if_neN (tgt := 29) dX5_lay_23 (by decide) (by omega) (fun c23 => ?_) (fun c23 => ?_)
    · have hB := hC.b
      refine j_aload_n dX5_lay_29 rfl ?_
      refine j_getR (r := 33) dX5_lay_30 flX5_16 (Nat.le_of_ble_eq_true rfl) rfl rfl ?_
      refine j_aload_n dX5_lay_33 rfl ?_
      refine j_getR (r := 40) dX5_lay_34 flX5_20 (Nat.le_of_ble_eq_true rfl) rfl rfl ?_
      refine j_callV (y' := mX0_copyFrom) (As := [.ref 40]) (st := []) dX5_lay_37 lkX5_104 okX0_copyFrom imX0_copyFrom seX0_copyFrom (Nat.le_of_ble_eq_true rfl) rfl rfl rfl rfl (Nat.le_of_ble_eq_true rfl) (Nat.le_of_ble_eq_true rfl) (c_copyFrom z _ _ 33 40 g33 g40 F8 A8 hB) (fun v37 F37 A37 hq37 => ?_)
      obtain ⟨rfl, hB, rfl, rfl⟩ := hq37
      refine j_aload_n dX5_lay_40 rfl ?_
      refine j_iconst (v := nI 0) dX5_lay_41 (by decide +kernel) ?_
      refine j_putI dX5_lay_42 fpX5_108 (Nat.le_of_ble_eq_true rfl) rfl rfl ?_
      have hB := hB.pn (n := 0) (by omega)
      refine j_aload_n dX5_lay_45 rfl ?_
      refine j_iconst (v := nI 0) dX5_lay_46 (by decide +kernel) ?_
      refine j_putI dX5_lay_47 fpX5_111 (Nat.le_of_ble_eq_true rfl) rfl rfl ?_
      have hB := hB.kn (n := 0) (by omega)
      refine j_aload_n dX5_lay_50 rfl ?_
      refine j_callV (y' := mX5_forgetAnswers) (As := []) (st := []) dX5_lay_51 lkX5_114 okX5_forgetAnswers imX5_forgetAnswers seX5_forgetAnswers (Nat.le_of_ble_eq_true rfl) rfl rfl rfl rfl (Nat.le_of_ble_eq_true rfl) (Nat.le_of_ble_eq_true rfl) (c_forgetAnswers z _ _ (mj_u (mj_u (mj_u F8 33 0 (F8 40 0)) 0 6 (nI 0)) 0 8 (nI 0)) (cpA A8 33 40) hB) (fun v51 F51 A51 hq51 => ?_)
      obtain ⟨rfl, hB, rfl, eF51⟩ := hq51
      refine j_aload_n dX5_lay_54 rfl ?_
      refine j_getR (r := 33) dX5_lay_55 flX5_16 (Nat.le_of_ble_eq_true rfl) rfl rfl ?_
      refine j_getI dX5_lay_58 flX5_101 (Nat.le_of_ble_eq_true rfl) rfl rfl ?_
      have hret : F51 33 0 = nI n1 := by
        rw [eF51, mj_u_off _ (Or.inl (by decide)), mj_u_off _ (Or.inl (by decide)), mj_u_off _ (Or.inl (by decide)), mj_u_off _ (Or.inl (by decide)), mj_u_off _ (Or.inl (by decide)), mj_u_on]
        exact hG.1.1.1
      exact j_iret dX5_lay_61 rfl rfl ⟨_, rfl, hB, (cpA_off (fun i hi => by omega)).trans (hC.tx.trans hTA), Or.inr ⟨n1, mm1, row1, htx, hw, by omega, hret, fun n mm row un P kn K h => by rw [eF51]; exact ((((CS.pg (t := t) h (by rw [hTe] at hC; exact hC.p)).lay hG).f (by decide) (by decide) _).f (by decide) (by decide) _).f (by decide) (by decide) _⟩⟩
    · obtain rfl : n1 = 0 := by omega
      have hno : rd_no (cT T) T.1 := Or.inr ⟨mm1, row1, htx⟩
      refine j_bipush (v := (-2)) dX5_lay_26 (by decide +kernel) ?_
      exact j_iret dX5_lay_28 rfl rfl ⟨_, rfl, hC.b, hC.tx.trans hTA, Or.inl ⟨rfl, hno, hC.p⟩⟩

set_option maxHeartbeats 400000 in
set_option maxRecDepth 100000 in
theorem c_bringWeights (z : mj_B) (d : Nat) (T : Tg) (F A : mj_S) (hC : CI T F A) : J (gC z) mX5_bringWeights (d + 4) 0 [(0, .ref 0)] [] F A (fun v F' A' => v = none ∧ CI T F' A') := by
  refine j_aload_n dX5_bringWeights_0 rfl ?_
  refine j_getI dX5_bringWeights_1 flX5_242 (Nat.le_of_ble_eq_true rfl) rfl rfl ?_
  refine j_if_ne (tgt := 23) dX5_bringWeights_4 (by decide) (fun c4 => ?_) (fun c4 => ?_)
  · exact j_vret dX5_bringWeights_23 rfl ⟨rfl, hC⟩
  · refine j_aload_n dX5_bringWeights_7 rfl ?_
    refine j_getR (r := 18) dX5_bringWeights_8 flX5_42 (Nat.le_of_ble_eq_true rfl) rfl rfl ?_
    refine j_aload_n dX5_bringWeights_11 rfl ?_
    refine j_getR (r := 33) dX5_bringWeights_12 flX5_16 (Nat.le_of_ble_eq_true rfl) rfl rfl ?_
    refine j_callV (y' := mX4_weigh) (As := [.ref 33]) (st := []) dX5_bringWeights_15 lkX5_225 okX4_weigh imX4_weigh seX4_weigh (Nat.le_of_ble_eq_true rfl) rfl rfl rfl rfl (Nat.le_of_ble_eq_true rfl) (Nat.le_of_ble_eq_true rfl) (c_weigh18 z _ _ F A hC) (fun v15 F15 A15 hq15 => ?_)
    obtain ⟨n15, rfl, hn15, rfl, hC⟩ := hq15
    refine j_aload_n dX5_bringWeights_18 rfl ?_
    refine j_iconst (v := nI 1) dX5_bringWeights_19 (by decide +kernel) ?_
    refine j_put dX5_bringWeights_20 fpX5_242 (Nat.le_of_ble_eq_true rfl) rfl rfl (by decide +kernel) rfl ?_
    have hC := hC.f (k := 0) (s := 14) rfl (nI 1)
    exact j_vret dX5_bringWeights_23 rfl ⟨rfl, hC⟩

set_option maxHeartbeats 400000 in
set_option maxRecDepth 100000 in
theorem c_bringReduction (z : mj_B) (d : Nat) (T : Tg) (F A : mj_S) (hC : CI T F A) : J (gC z) mX5_bringReduction (d + 6) 0 [(0, .ref 0)] [] F A (fun v F' A' => v = none ∧ CI T F' A') := by
  refine j_aload_n dX5_bringReduction_0 rfl ?_
  refine j_callV (y' := mX5_bringWeights) (As := []) (st := []) dX5_bringReduction_1 lkX5_251 okX5_bringWeights imX5_bringWeights seX5_bringWeights (Nat.le_of_ble_eq_true rfl) rfl rfl rfl rfl (Nat.le_of_ble_eq_true rfl) (Nat.le_of_ble_eq_true rfl) (c_bringWeights z _ _ F A hC) (fun v1 F1 A1 hq1 => ?_)
  obtain ⟨rfl, hC⟩ := hq1
  refine j_aload_n dX5_bringReduction_4 rfl ?_
  refine j_getI dX5_bringReduction_5 flX5_245 (Nat.le_of_ble_eq_true rfl) rfl rfl ?_
  refine j_if_ne (tgt := 27) dX5_bringReduction_8 (by decide) (fun c8 => ?_) (fun c8 => ?_)
  · exact j_vret dX5_bringReduction_27 rfl ⟨rfl, hC⟩
  · refine j_aload_n dX5_bringReduction_11 rfl ?_
    refine j_getR (r := 5) dX5_bringReduction_12 flX5_52 (Nat.le_of_ble_eq_true rfl) rfl rfl ?_
    refine j_aload_n dX5_bringReduction_15 rfl ?_
    refine j_getR (r := 33) dX5_bringReduction_16 flX5_16 (Nat.le_of_ble_eq_true rfl) rfl rfl ?_
    refine j_callV (y' := mX2_run) (As := [.ref 33]) (st := []) dX5_bringReduction_19 lkX5_254 okX2_run imX2_run seX2_run (Nat.le_of_ble_eq_true rfl) rfl rfl rfl rfl (Nat.le_of_ble_eq_true rfl) (Nat.le_of_ble_eq_true rfl) (c_runR z _ _ F1 A1 hC) (fun v19 F19 A19 hq19 => ?_)
    obtain ⟨rfl, hC⟩ := hq19
    refine j_aload_n dX5_bringReduction_22 rfl ?_
    refine j_iconst (v := nI 1) dX5_bringReduction_23 (by decide +kernel) ?_
    refine j_put dX5_bringReduction_24 fpX5_245 (Nat.le_of_ble_eq_true rfl) rfl rfl (by decide +kernel) rfl ?_
    have hC := hC.f (k := 0) (s := 15) rfl (nI 1)
    exact j_vret dX5_bringReduction_27 rfl ⟨rfl, hC⟩

set_option maxHeartbeats 400000 in
set_option maxRecDepth 100000 in
theorem c_bringSearch (z : mj_B) (d : Nat) (T : Tg) (F A : mj_S) (hC : CI T F A) : J (gC z) mX5_bringSearch (d + 13) 0 [(0, .ref 0)] [] F A (fun v F' A' => v = none ∧ CI T F' A') := by
  refine j_aload_n dX5_bringSearch_0 rfl ?_
  refine j_callV (y' := mX5_bringWeights) (As := []) (st := []) dX5_bringSearch_1 lkX5_251 okX5_bringWeights imX5_bringWeights seX5_bringWeights (Nat.le_of_ble_eq_true rfl) rfl rfl rfl rfl (Nat.le_of_ble_eq_true rfl) (Nat.le_of_ble_eq_true rfl) (c_bringWeights z _ _ F A hC) (fun v1 F1 A1 hq1 => ?_)
  obtain ⟨rfl, hC⟩ := hq1
  refine j_aload_n dX5_bringSearch_4 rfl ?_
  refine j_getI dX5_bringSearch_5 flX5_248 (Nat.le_of_ble_eq_true rfl) rfl rfl ?_
  refine j_if_ne (tgt := 23) dX5_bringSearch_8 (by decide) (fun c8 => ?_) (fun c8 => ?_)
  · exact j_vret dX5_bringSearch_23 rfl ⟨rfl, hC⟩
  · refine j_aload_n dX5_bringSearch_11 rfl ?_
    refine j_getR (r := 10) dX5_bringSearch_12 flX5_61 (Nat.le_of_ble_eq_true rfl) rfl rfl ?_
    refine j_callV (y' := mX3_run) (As := []) (st := []) dX5_bringSearch_15 lkX5_232 okX3_run imX3_run seX3_run (Nat.le_of_ble_eq_true rfl) rfl rfl rfl rfl (Nat.le_of_ble_eq_true rfl) (Nat.le_of_ble_eq_true rfl) (c_runS10 z _ _ F1 A1 hC) (fun v15 F15 A15 hq15 => ?_)
    obtain ⟨rfl, hC⟩ := hq15
    refine j_aload_n dX5_bringSearch_18 rfl ?_
    refine j_iconst (v := nI 1) dX5_bringSearch_19 (by decide +kernel) ?_
    refine j_put dX5_bringSearch_20 fpX5_248 (Nat.le_of_ble_eq_true rfl) rfl rfl (by decide +kernel) rfl ?_
    have hC := hC.f (k := 0) (s := 16) rfl (nI 1)
    exact j_vret dX5_bringSearch_23 rfl ⟨rfl, hC⟩

set_option maxHeartbeats 400000 in
set_option maxRecDepth 100000 in
theorem c_turn (z : mj_B) (d : Nat) (T : Tg) (x1 x2 : Int32) (F A : mj_S) (hC : CI T F A) : J (gC z) mX5_turn (d + 7) 0 [(0, .ref 0), (1, .int x1), (2, .int x2)] [] F A (fun v F' A' => ∃ x, v = some (.int x) ∧ CI T F' A') := by
  refine j_aload_n dX5_turn_0 rfl ?_
  refine j_iload_n dX5_turn_1 rfl ?_
  refine j_callV (y' := mX5_isNode) (As := [.int x1]) (st := []) dX5_turn_2 lkX5_117 okX5_isNode imX5_isNode seX5_isNode (Nat.le_of_ble_eq_true rfl) rfl rfl rfl rfl (Nat.le_of_ble_eq_true rfl) (Nat.le_of_ble_eq_true rfl) (c_isNode z _ _ x1 F A hC) (fun v2 F2 A2 hq2 => ?_)
  obtain ⟨rfl, rfl, r2, rfl, hr2⟩ := hq2
  have hb2 : r2 ≤ 1 := hr2.1
  refine j_if_eqN (tgt := 17) dX5_turn_5 (by decide) (by omega) (fun c5 => ?_) (fun c5 => ?_)
  · refine j_iconst (v := (-1)) dX5_turn_17 (by decide +kernel) ?_
    exact j_iret dX5_turn_18 rfl rfl ⟨_, rfl, hC⟩
  · obtain ⟨j, hj, rfl⟩ := hr2.2 (by omega)
    refine j_iload_n dX5_turn_8 rfl ?_
    refine j_iconst (v := nI 0) dX5_turn_9 (by decide +kernel) ?_
    refine j_iconst (v := nI 1) dX5_turn_10 (by decide +kernel) ?_
    refine j_callS (y' := mX5_isWithin) (As := [.int x2, .int (nI 0), .int (nI 1)]) (st := []) dX5_turn_11 lkX5_90 okX5_isWithin stX5_isWithin rfl (Nat.le_of_ble_eq_true rfl) (Nat.le_of_ble_eq_true rfl) (c_isWithin z _ x2 (nI 0) (nI 1) F A) (fun v11 F11 A11 hq11 => ?_)
    obtain ⟨rfl, rfl, r11, rfl, hr11⟩ := hq11
    have hb11 : r11 ≤ 1 := by omega
    refine j_if_neN (tgt := 19) dX5_turn_14 (by decide) (by omega) (fun c14 => ?_) (fun c14 => ?_)
    · refine j_aload_n dX5_turn_19 rfl ?_
      refine j_callV (y' := mX5_bringReduction) (As := []) (st := []) dX5_turn_20 lkX5_183 okX5_bringReduction imX5_bringReduction seX5_bringReduction (Nat.le_of_ble_eq_true rfl) rfl rfl rfl rfl (Nat.le_of_ble_eq_true rfl) (Nat.le_of_ble_eq_true rfl) (c_bringReduction z _ _ F A hC) (fun v20 F20 A20 hq20 => ?_)
      obtain ⟨rfl, hC⟩ := hq20
      refine j_iload_n dX5_turn_23 rfl ?_
      refine j_if_ne (tgt := 39) dX5_turn_24 (by decide) (fun c24 => ?_) (fun c24 => ?_)
      · refine j_aload_n dX5_turn_39 rfl ?_
        refine j_getR (r := 5) dX5_turn_40 flX5_52 (Nat.le_of_ble_eq_true rfl) rfl rfl ?_
        refine j_getR (r := 7) dX5_turn_43 flX5_189 (Nat.le_of_ble_eq_true rfl) rfl rfl ?_
        refine j_iload_n dX5_turn_46 rfl ?_
        refine j_ialdN dX5_turn_47 (Nat.le_of_ble_eq_true rfl) rfl (by omega) (by decide) ?_
        exact j_iret dX5_turn_48 rfl rfl ⟨_, rfl, hC⟩
      · refine j_aload_n dX5_turn_27 rfl ?_
        refine j_getR (r := 5) dX5_turn_28 flX5_52 (Nat.le_of_ble_eq_true rfl) rfl rfl ?_
        refine j_getR (r := 6) dX5_turn_31 flX5_186 (Nat.le_of_ble_eq_true rfl) rfl rfl ?_
        refine j_iload_n dX5_turn_34 rfl ?_
        refine j_ialdN dX5_turn_35 (Nat.le_of_ble_eq_true rfl) rfl (by omega) (by decide) ?_
        obtain ⟨t1, ht1, et1⟩ := hC.2.2.2.2.1.1 j (by omega)
        refine j_top (y0 := nI t1) et1 ?_
        refine j_goto (tgt := 48) dX5_turn_36 (by decide) ?_
        exact j_iret dX5_turn_48 rfl rfl ⟨_, rfl, hC⟩
    · refine j_iconst (v := (-1)) dX5_turn_17 (by decide +kernel) ?_
      exact j_iret dX5_turn_18 rfl rfl ⟨_, rfl, hC⟩

set_option maxHeartbeats 400000 in
set_option maxRecDepth 100000 in
theorem c_reduced (z : mj_B) (d : Nat) (T : Tg) (x1 : Int32) (F A : mj_S) (hC : CI T F A) : J (gC z) mX5_reduced (d + 7) 0 [(0, .ref 0), (1, .int x1)] [] F A (fun v F' A' => ∃ x, v = some (.int x) ∧ CI T F' A') := by
  refine j_aload_n dX5_reduced_0 rfl ?_
  refine j_iload_n dX5_reduced_1 rfl ?_
  refine j_callV (y' := mX5_isNode) (As := [.int x1]) (st := []) dX5_reduced_2 lkX5_117 okX5_isNode imX5_isNode seX5_isNode (Nat.le_of_ble_eq_true rfl) rfl rfl rfl rfl (Nat.le_of_ble_eq_true rfl) (Nat.le_of_ble_eq_true rfl) (c_isNode z _ _ x1 F A hC) (fun v2 F2 A2 hq2 => ?_)
  obtain ⟨rfl, rfl, r2, rfl, hr2⟩ := hq2
  have hb2 : r2 ≤ 1 := hr2.1
  refine j_if_neN (tgt := 10) dX5_reduced_5 (by decide) (by omega) (fun c5 => ?_) (fun c5 => ?_)
  · obtain ⟨j, hj, rfl⟩ := hr2.2 (by omega)
    refine j_aload_n dX5_reduced_10 rfl ?_
    refine j_callV (y' := mX5_bringReduction) (As := []) (st := []) dX5_reduced_11 lkX5_183 okX5_bringReduction imX5_bringReduction seX5_bringReduction (Nat.le_of_ble_eq_true rfl) rfl rfl rfl rfl (Nat.le_of_ble_eq_true rfl) (Nat.le_of_ble_eq_true rfl) (c_bringReduction z _ _ F A hC) (fun v11 F11 A11 hq11 => ?_)
    obtain ⟨rfl, hC⟩ := hq11
    refine j_aload_n dX5_reduced_14 rfl ?_
    refine j_getR (r := 5) dX5_reduced_15 flX5_52 (Nat.le_of_ble_eq_true rfl) rfl rfl ?_
    refine j_getR (r := 8) dX5_reduced_18 flX5_192 (Nat.le_of_ble_eq_true rfl) rfl rfl ?_
    refine j_iload_n dX5_reduced_21 rfl ?_
    refine j_ialdN dX5_reduced_22 (Nat.le_of_ble_eq_true rfl) rfl (by omega) (by decide) ?_
    obtain ⟨t1, ht1, et1⟩ := hC.2.2.2.2.1.2.1 j (by omega)
    refine j_top (y0 := nI t1) et1 ?_
    exact j_iret dX5_reduced_23 rfl rfl ⟨_, rfl, hC⟩
  · refine j_iconst (v := (-1)) dX5_reduced_8 (by decide +kernel) ?_
    exact j_iret dX5_reduced_9 rfl rfl ⟨_, rfl, hC⟩

set_option maxHeartbeats 400000 in
set_option maxRecDepth 100000 in
theorem c_plan (z : mj_B) (d : Nat) (T : Tg) (x1 : Int32) (F A : mj_S) (hC : CI T F A) : J (gC z) mX5_plan (d + 7) 0 [(0, .ref 0), (1, .int x1)] [] F A (fun v F' A' => ∃ x, v = some (.int x) ∧ CI T F' A') := by
  refine j_iload_n dX5_plan_0 rfl ?_
  refine j_iconst (v := nI 0) dX5_plan_1 (by decide +kernel) ?_
  refine j_iconst (v := nI 1) dX5_plan_2 (by decide +kernel) ?_
  refine j_callS (y' := mX5_isWithin) (As := [.int x1, .int (nI 0), .int (nI 1)]) (st := []) dX5_plan_3 lkX5_90 okX5_isWithin stX5_isWithin rfl (Nat.le_of_ble_eq_true rfl) (Nat.le_of_ble_eq_true rfl) (c_isWithin z _ x1 (nI 0) (nI 1) F A) (fun v3 F3 A3 hq3 => ?_)
  obtain ⟨rfl, rfl, r3, rfl, hr3⟩ := hq3
  have hb3 : r3 ≤ 1 := by omega
  refine j_if_neN (tgt := 11) dX5_plan_6 (by decide) (by omega) (fun c6 => ?_) (fun c6 => ?_)
  · refine j_aload_n dX5_plan_11 rfl ?_
    refine j_callV (y' := mX5_bringReduction) (As := []) (st := []) dX5_plan_12 lkX5_183 okX5_bringReduction imX5_bringReduction seX5_bringReduction (Nat.le_of_ble_eq_true rfl) rfl rfl rfl rfl (Nat.le_of_ble_eq_true rfl) (Nat.le_of_ble_eq_true rfl) (c_bringReduction z _ _ F A hC) (fun v12 F12 A12 hq12 => ?_)
    obtain ⟨rfl, hC⟩ := hq12
    refine j_iload_n dX5_plan_15 rfl ?_
    refine j_if_ne (tgt := 34) dX5_plan_16 (by decide) (fun c16 => ?_) (fun c16 => ?_)
    · refine j_aload_n dX5_plan_34 rfl ?_
      refine j_getR (r := 5) dX5_plan_35 flX5_52 (Nat.le_of_ble_eq_true rfl) rfl rfl ?_
      refine j_getI dX5_plan_38 flX5_199 (Nat.le_of_ble_eq_true rfl) rfl rfl ?_
      refine j_if_eq (tgt := 48) dX5_plan_41 (by decide) (fun c41 => ?_) (fun c41 => ?_)
      · refine j_iconst (v := nI 1) dX5_plan_48 (by decide +kernel) ?_
        exact j_iret dX5_plan_49 rfl rfl ⟨_, rfl, hC⟩
      · refine j_iconst (v := nI 0) dX5_plan_44 (by decide +kernel) ?_
        refine j_goto (tgt := 49) dX5_plan_45 (by decide) ?_
        exact j_iret dX5_plan_49 rfl rfl ⟨_, rfl, hC⟩
    · refine j_aload_n dX5_plan_19 rfl ?_
      refine j_getR (r := 18) dX5_plan_20 flX5_42 (Nat.le_of_ble_eq_true rfl) rfl rfl ?_
      refine j_aload_n dX5_plan_23 rfl ?_
      refine j_getR (r := 5) dX5_plan_24 flX5_52 (Nat.le_of_ble_eq_true rfl) rfl rfl ?_
      refine j_getR (r := 8) dX5_plan_27 flX5_192 (Nat.le_of_ble_eq_true rfl) rfl rfl ?_
      refine j_callV (y' := mX4_planCost) (As := [.ref 8]) (st := []) dX5_plan_30 lkX5_195 okX4_planCost imX4_planCost seX4_planCost (Nat.le_of_ble_eq_true rfl) rfl rfl rfl rfl (Nat.le_of_ble_eq_true rfl) (Nat.le_of_ble_eq_true rfl) (c_planCost18 z _ _  F12 A12 hC) (fun v30 F30 A30 hq30 => ?_)
      obtain ⟨rfl, rfl, r30, rfl, hr30⟩ := hq30
      exact j_iret dX5_plan_33 rfl rfl ⟨_, rfl, hC⟩
  · refine j_iconst (v := (-1)) dX5_plan_9 (by decide +kernel) ?_
    exact j_iret dX5_plan_10 rfl rfl ⟨_, rfl, hC⟩

set_option maxHeartbeats 400000 in
set_option maxRecDepth 100000 in
theorem c_least (z : mj_B) (d : Nat) (T : Tg) (x1 : Int32) (F A : mj_S) (hC : CI T F A) : J (gC z) mX5_least (d + 14) 0 [(0, .ref 0), (1, .int x1)] [] F A (fun v F' A' => ∃ x, v = some (.int x) ∧ CI T F' A') := by
  refine j_iload_n dX5_least_0 rfl ?_
  refine j_iconst (v := nI 0) dX5_least_1 (by decide +kernel) ?_
  refine j_iconst (v := nI 4) dX5_least_2 (by decide +kernel) ?_
  refine j_callS (y' := mX5_isWithin) (As := [.int x1, .int (nI 0), .int (nI 4)]) (st := []) dX5_least_3 lkX5_90 okX5_isWithin stX5_isWithin rfl (Nat.le_of_ble_eq_true rfl) (Nat.le_of_ble_eq_true rfl) (c_isWithin z _ x1 (nI 0) (nI 4) F A) (fun v3 F3 A3 hq3 => ?_)
  obtain ⟨rfl, rfl, r3, rfl, hr3⟩ := hq3
  have hb3 : r3 ≤ 1 := by omega
  refine j_if_neN (tgt := 11) dX5_least_6 (by decide) (by omega) (fun c6 => ?_) (fun c6 => ?_)
  · refine j_aload_n dX5_least_11 rfl ?_
    refine j_callV (y' := mX5_bringSearch) (As := []) (st := []) dX5_least_12 lkX5_203 okX5_bringSearch imX5_bringSearch seX5_bringSearch (Nat.le_of_ble_eq_true rfl) rfl rfl rfl rfl (Nat.le_of_ble_eq_true rfl) (Nat.le_of_ble_eq_true rfl) (c_bringSearch z _ _ F A hC) (fun v12 F12 A12 hq12 => ?_)
    obtain ⟨rfl, hC⟩ := hq12
    refine j_iload_n dX5_least_15 rfl ?_
    by_cases c16 : x1.toInt < 0 ∨ 3 < x1.toInt
    · refine j_tOut (tgt := 112) dX5_least_16 c16 (by decide) ?_
      refine j_aload_n dX5_least_112 rfl ?_
      refine j_getR (r := 18) dX5_least_113 flX5_42 (Nat.le_of_ble_eq_true rfl) rfl rfl ?_
      refine j_callV (y' := mX4_bound) (As := []) (st := []) dX5_least_116 lkX5_219 okX4_bound imX4_bound seX4_bound (Nat.le_of_ble_eq_true rfl) rfl rfl rfl rfl (Nat.le_of_ble_eq_true rfl) (Nat.le_of_ble_eq_true rfl) (c_bound18 z _ _  F12 A12 hC) (fun v116 F116 A116 hq116 => ?_)
      obtain ⟨rfl, rfl, r116, rfl, hr116⟩ := hq116
      exact j_iret dX5_least_119 rfl rfl ⟨_, rfl, hC⟩
    · obtain ⟨q16, hq16, e16⟩ := mj_sw (n := 4) x1 c16 (by decide)
      match q16, hq16, e16 with
      | 0, _, e16 =>
        refine j_tIn (tgt := 48) dX5_least_16 (by rw [e16]; decide) (by rw [e16]; decide) (by rw [e16]; rfl) (by decide) ?_
        refine j_aload_n dX5_least_48 rfl ?_
        refine j_getR (r := 10) dX5_least_49 flX5_61 (Nat.le_of_ble_eq_true rfl) rfl rfl ?_
        refine j_getI dX5_least_52 flX5_206 (Nat.le_of_ble_eq_true rfl) rfl rfl ?_
        exact j_iret dX5_least_55 rfl rfl ⟨_, rfl, hC⟩
      | 1, _, e16 =>
        refine j_tIn (tgt := 56) dX5_least_16 (by rw [e16]; decide) (by rw [e16]; decide) (by rw [e16]; rfl) (by decide) ?_
        refine j_aload_n dX5_least_56 rfl ?_
        refine j_getR (r := 10) dX5_least_57 flX5_61 (Nat.le_of_ble_eq_true rfl) rfl rfl ?_
        refine j_getI dX5_least_60 flX5_209 (Nat.le_of_ble_eq_true rfl) rfl rfl ?_
        exact j_iret dX5_least_63 rfl rfl ⟨_, rfl, hC⟩
      | 2, _, e16 =>
        refine j_tIn (tgt := 64) dX5_least_16 (by rw [e16]; decide) (by rw [e16]; decide) (by rw [e16]; rfl) (by decide) ?_
        refine j_aload_n dX5_least_64 rfl ?_
        refine j_getR (r := 10) dX5_least_65 flX5_61 (Nat.le_of_ble_eq_true rfl) rfl rfl ?_
        refine j_getI dX5_least_68 flX5_209 (Nat.le_of_ble_eq_true rfl) rfl rfl ?_
        refine j_if_ne (tgt := 79) dX5_least_71 (by decide) (fun c71 => ?_) (fun c71 => ?_)
        · refine j_aload_n dX5_least_79 rfl ?_
          refine j_getR (r := 10) dX5_least_80 flX5_61 (Nat.le_of_ble_eq_true rfl) rfl rfl ?_
          refine j_getI dX5_least_83 flX5_212 (Nat.le_of_ble_eq_true rfl) rfl rfl ?_
          exact j_iret dX5_least_86 rfl rfl ⟨_, rfl, hC⟩
        · refine j_bipush (v := (-4)) dX5_least_74 (by decide +kernel) ?_
          refine j_goto (tgt := 86) dX5_least_76 (by decide) ?_
          exact j_iret dX5_least_86 rfl rfl ⟨_, rfl, hC⟩
      | 3, _, e16 =>
        refine j_tIn (tgt := 87) dX5_least_16 (by rw [e16]; decide) (by rw [e16]; decide) (by rw [e16]; rfl) (by decide) ?_
        refine j_aload_n dX5_least_87 rfl ?_
        refine j_getR (r := 10) dX5_least_88 flX5_61 (Nat.le_of_ble_eq_true rfl) rfl rfl ?_
        refine j_getI dX5_least_91 flX5_215 (Nat.le_of_ble_eq_true rfl) rfl rfl ?_
        refine j_ldc dX5_least_94 kcX5_218 ?_
        refine j_icmp_ne (tgt := 104) dX5_least_96 (by decide) (fun c96 => ?_) (fun c96 => ?_)
        · refine j_aload_n dX5_least_104 rfl ?_
          refine j_getR (r := 10) dX5_least_105 flX5_61 (Nat.le_of_ble_eq_true rfl) rfl rfl ?_
          refine j_getI dX5_least_108 flX5_215 (Nat.le_of_ble_eq_true rfl) rfl rfl ?_
          exact j_iret dX5_least_111 rfl rfl ⟨_, rfl, hC⟩
        · refine j_bipush (v := (-4)) dX5_least_99 (by decide +kernel) ?_
          refine j_goto (tgt := 111) dX5_least_101 (by decide) ?_
          exact j_iret dX5_least_111 rfl rfl ⟨_, rfl, hC⟩
      | q + 4, hq, _ => exact absurd hq (by omega)
  · refine j_iconst (v := (-1)) dX5_least_9 (by decide +kernel) ?_
    exact j_iret dX5_least_10 rfl rfl ⟨_, rfl, hC⟩

set_option maxHeartbeats 400000 in
set_option maxRecDepth 100000 in
theorem c_first (z : mj_B) (d : Nat) (T : Tg) (x1 : Int32) (F A : mj_S) (hC : CI T F A) : J (gC z) mX5_first (d + 14) 0 [(0, .ref 0), (1, .int x1)] [] F A (fun v F' A' => ∃ x, v = some (.int x) ∧ CI T F' A') := by
  refine j_aload_n dX5_first_0 rfl ?_
  refine j_iload_n dX5_first_1 rfl ?_
  refine j_callV (y' := mX5_isNode) (As := [.int x1]) (st := []) dX5_first_2 lkX5_117 okX5_isNode imX5_isNode seX5_isNode (Nat.le_of_ble_eq_true rfl) rfl rfl rfl rfl (Nat.le_of_ble_eq_true rfl) (Nat.le_of_ble_eq_true rfl) (c_isNode z _ _ x1 F A hC) (fun v2 F2 A2 hq2 => ?_)
  obtain ⟨rfl, rfl, r2, rfl, hr2⟩ := hq2
  have hb2 : r2 ≤ 1 := hr2.1
  refine j_if_neN (tgt := 10) dX5_first_5 (by decide) (by omega) (fun c5 => ?_) (fun c5 => ?_)
  · obtain ⟨j, hj, rfl⟩ := hr2.2 (by omega)
    refine j_aload_n dX5_first_10 rfl ?_
    refine j_callV (y' := mX5_bringSearch) (As := []) (st := []) dX5_first_11 lkX5_203 okX5_bringSearch imX5_bringSearch seX5_bringSearch (Nat.le_of_ble_eq_true rfl) rfl rfl rfl rfl (Nat.le_of_ble_eq_true rfl) (Nat.le_of_ble_eq_true rfl) (c_bringSearch z _ _ F A hC) (fun v11 F11 A11 hq11 => ?_)
    obtain ⟨rfl, hC⟩ := hq11
    refine j_aload_n dX5_first_14 rfl ?_
    refine j_getR (r := 10) dX5_first_15 flX5_61 (Nat.le_of_ble_eq_true rfl) rfl rfl ?_
    refine j_getI dX5_first_18 flX5_209 (Nat.le_of_ble_eq_true rfl) rfl rfl ?_
    refine j_if_ne (tgt := 29) dX5_first_21 (by decide) (fun c21 => ?_) (fun c21 => ?_)
    · refine j_aload_n dX5_first_29 rfl ?_
      refine j_getR (r := 10) dX5_first_30 flX5_61 (Nat.le_of_ble_eq_true rfl) rfl rfl ?_
      refine j_getR (r := 11) dX5_first_33 flX5_222 (Nat.le_of_ble_eq_true rfl) rfl rfl ?_
      refine j_iload_n dX5_first_36 rfl ?_
      refine j_ialdN dX5_first_37 (Nat.le_of_ble_eq_true rfl) rfl (by omega) (by decide) ?_
      exact j_iret dX5_first_38 rfl rfl ⟨_, rfl, hC⟩
    · refine j_bipush (v := (-4)) dX5_first_24 (by decide +kernel) ?_
      refine j_goto (tgt := 38) dX5_first_26 (by decide) ?_
      exact j_iret dX5_first_38 rfl rfl ⟨_, rfl, hC⟩
  · refine j_iconst (v := (-1)) dX5_first_8 (by decide +kernel) ?_
    exact j_iret dX5_first_9 rfl rfl ⟨_, rfl, hC⟩

set_option maxHeartbeats 400000 in
set_option maxRecDepth 100000 in
theorem c_with (z : mj_B) (d : Nat) (T : Tg) (x1 x2 : Int32) (F A : mj_S) (hC : CI T F A) : J (gC z) mX5_with (d + 13) 0 [(0, .ref 0), (1, .int x1), (2, .int x2)] [] F A (fun v F' A' => ∃ x, v = some (.int x) ∧ CI T F' A') := by
  refine j_aload_n dX5_with_0 rfl ?_
  refine j_iload_n dX5_with_1 rfl ?_
  refine j_iload_n dX5_with_2 rfl ?_
  refine j_callV (y' := mX5_isChoice) (As := [.int x1, .int x2]) (st := []) dX5_with_3 lkX5_139 okX5_isChoice imX5_isChoice seX5_isChoice (Nat.le_of_ble_eq_true rfl) rfl rfl rfl rfl (Nat.le_of_ble_eq_true rfl) (Nat.le_of_ble_eq_true rfl) (c_isChoice z _ _ x1 x2 F A hC) (fun v3 F3 A3 hq3 => ?_)
  obtain ⟨rfl, rfl, r3, rfl, hr3⟩ := hq3
  have hb3 : r3 ≤ 1 := hr3.1
  refine j_if_neN (tgt := 11) dX5_with_6 (by decide) (by omega) (fun c6 => ?_) (fun c6 => ?_)
  · obtain ⟨j, k, hj, hk, rfl, rfl⟩ := hr3.2 (by omega)
    refine j_aload_n dX5_with_11 rfl ?_
    refine j_getR (r := 23) dX5_with_12 flX5_46 (Nat.le_of_ble_eq_true rfl) rfl rfl ?_
    refine j_aload_n dX5_with_15 rfl ?_
    refine j_getR (r := 33) dX5_with_16 flX5_16 (Nat.le_of_ble_eq_true rfl) rfl rfl ?_
    refine j_callV (y' := mX4_weigh) (As := [.ref 33]) (st := []) dX5_with_19 lkX5_225 okX4_weigh imX4_weigh seX4_weigh (Nat.le_of_ble_eq_true rfl) rfl rfl rfl rfl (Nat.le_of_ble_eq_true rfl) (Nat.le_of_ble_eq_true rfl) (c_weigh23 z _ _ F A hC) (fun v19 F19 A19 hq19 => ?_)
    obtain ⟨n19, rfl, hn19, rfl, hC⟩ := hq19
    refine j_aload_n dX5_with_22 rfl ?_
    refine j_getR (r := 23) dX5_with_23 flX5_46 (Nat.le_of_ble_eq_true rfl) rfl rfl ?_
    refine j_iload_n dX5_with_26 rfl ?_
    refine j_iload_n dX5_with_27 rfl ?_
    refine j_callV (y' := mX4_allowOnly) (As := [.int (nI j), .int (nI k)]) (st := []) dX5_with_28 lkX5_228 okX4_allowOnly imX4_allowOnly seX4_allowOnly (Nat.le_of_ble_eq_true rfl) rfl rfl rfl rfl (Nat.le_of_ble_eq_true rfl) (Nat.le_of_ble_eq_true rfl) (c_allowOnly23 z _ _ j (by omega) (nI k) (mj_u F 23 0 (nI n19)) A19 hC) (fun v28 F28 A28 hq28 => ?_)
    obtain ⟨rfl, rfl, hC⟩ := hq28
    refine j_aload_n dX5_with_31 rfl ?_
    refine j_getR (r := 14) dX5_with_32 flX5_65 (Nat.le_of_ble_eq_true rfl) rfl rfl ?_
    refine j_callV (y' := mX3_run) (As := []) (st := []) dX5_with_35 lkX5_232 okX3_run imX3_run seX3_run (Nat.le_of_ble_eq_true rfl) rfl rfl rfl rfl (Nat.le_of_ble_eq_true rfl) (Nat.le_of_ble_eq_true rfl) (c_runS14 z _ _ (mj_u F 23 0 (nI n19)) A28 hC) (fun v35 F35 A35 hq35 => ?_)
    obtain ⟨rfl, hC⟩ := hq35
    refine j_aload_n dX5_with_38 rfl ?_
    refine j_getR (r := 14) dX5_with_39 flX5_65 (Nat.le_of_ble_eq_true rfl) rfl rfl ?_
    refine j_getI dX5_with_42 flX5_206 (Nat.le_of_ble_eq_true rfl) rfl rfl ?_
    exact j_iret dX5_with_45 rfl rfl ⟨_, rfl, hC⟩
  · refine j_iconst (v := (-1)) dX5_with_9 (by decide +kernel) ?_
    exact j_iret dX5_with_10 rfl rfl ⟨_, rfl, hC⟩

set_option maxHeartbeats 400000 in
set_option maxRecDepth 100000 in
theorem c_without (z : mj_B) (d : Nat) (T : Tg) (x1 x2 : Int32) (F A : mj_S) (hC : CI T F A) : J (gC z) mX5_without (d + 13) 0 [(0, .ref 0), (1, .int x1), (2, .int x2)] [] F A (fun v F' A' => ∃ x, v = some (.int x) ∧ CI T F' A') := by
  refine j_aload_n dX5_without_0 rfl ?_
  refine j_iload_n dX5_without_1 rfl ?_
  refine j_callV (y' := mX5_isNode) (As := [.int x1]) (st := []) dX5_without_2 lkX5_117 okX5_isNode imX5_isNode seX5_isNode (Nat.le_of_ble_eq_true rfl) rfl rfl rfl rfl (Nat.le_of_ble_eq_true rfl) (Nat.le_of_ble_eq_true rfl) (c_isNode z _ _ x1 F A hC) (fun v2 F2 A2 hq2 => ?_)
  obtain ⟨rfl, rfl, r2, rfl, hr2⟩ := hq2
  have hb2 : r2 ≤ 1 := hr2.1
  refine j_if_eqN (tgt := 16) dX5_without_5 (by decide) (by omega) (fun c5 => ?_) (fun c5 => ?_)
  · refine j_iconst (v := (-1)) dX5_without_16 (by decide +kernel) ?_
    exact j_iret dX5_without_17 rfl rfl ⟨_, rfl, hC⟩
  · obtain ⟨j, hj, rfl⟩ := hr2.2 (by omega)
    refine j_aload_n dX5_without_8 rfl ?_
    refine j_iload_n dX5_without_9 rfl ?_
    refine j_callV (y' := mX5_isNode) (As := [.int x2]) (st := []) dX5_without_10 lkX5_117 okX5_isNode imX5_isNode seX5_isNode (Nat.le_of_ble_eq_true rfl) rfl rfl rfl rfl (Nat.le_of_ble_eq_true rfl) (Nat.le_of_ble_eq_true rfl) (c_isNode z _ _ x2 F A hC) (fun v10 F10 A10 hq10 => ?_)
    obtain ⟨rfl, rfl, r10, rfl, hr10⟩ := hq10
    have hb10 : r10 ≤ 1 := hr10.1
    refine j_if_neN (tgt := 18) dX5_without_13 (by decide) (by omega) (fun c13 => ?_) (fun c13 => ?_)
    · obtain ⟨k, hk, rfl⟩ := hr10.2 (by omega)
      refine j_aload_n dX5_without_18 rfl ?_
      refine j_getR (r := 33) dX5_without_19 flX5_16 (Nat.le_of_ble_eq_true rfl) rfl rfl ?_
      refine j_iload_n dX5_without_22 rfl ?_
      refine j_iload_n dX5_without_23 rfl ?_
      refine j_callV (y' := mX0_areTied) (As := [.int (nI j), .int (nI k)]) (st := []) dX5_without_24 lkX5_147 okX0_areTied imX0_areTied seX0_areTied (Nat.le_of_ble_eq_true rfl) rfl rfl rfl rfl (Nat.le_of_ble_eq_true rfl) (Nat.le_of_ble_eq_true rfl) (c_areTied33 z _ j (by omega) (nI k) F A) (fun v24 F24 A24 hq24 => ?_)
      obtain ⟨rfl, rfl, r24, rfl, hr24⟩ := hq24
      refine j_if_neN (tgt := 33) dX5_without_27 (by decide) (by omega) (fun c27 => ?_) (fun c27 => ?_)
      · refine j_aload_n dX5_without_33 rfl ?_
        refine j_getR (r := 23) dX5_without_34 flX5_46 (Nat.le_of_ble_eq_true rfl) rfl rfl ?_
        refine j_aload_n dX5_without_37 rfl ?_
        refine j_getR (r := 33) dX5_without_38 flX5_16 (Nat.le_of_ble_eq_true rfl) rfl rfl ?_
        refine j_callV (y' := mX4_weigh) (As := [.ref 33]) (st := []) dX5_without_41 lkX5_225 okX4_weigh imX4_weigh seX4_weigh (Nat.le_of_ble_eq_true rfl) rfl rfl rfl rfl (Nat.le_of_ble_eq_true rfl) (Nat.le_of_ble_eq_true rfl) (c_weigh23 z _ _ F A hC) (fun v41 F41 A41 hq41 => ?_)
        obtain ⟨n41, rfl, hn41, rfl, hC⟩ := hq41
        refine j_aload_n dX5_without_44 rfl ?_
        refine j_getR (r := 23) dX5_without_45 flX5_46 (Nat.le_of_ble_eq_true rfl) rfl rfl ?_
        refine j_getR (r := 25) dX5_without_48 flX5_235 (Nat.le_of_ble_eq_true rfl) rfl rfl ?_
        refine j_iload_n dX5_without_51 rfl ?_
        refine j_iload_n dX5_without_52 rfl ?_
        refine j_callS (y' := mX5_part) (As := [.ref 25, .int (nI j), .int (nI k)]) (st := []) dX5_without_53 lkX5_176 okX5_part stX5_part rfl (Nat.le_of_ble_eq_true rfl) (Nat.le_of_ble_eq_true rfl) (c_part z _ 25 j k (by omega) (by omega) (Nat.le_of_ble_eq_true rfl) rfl (mj_u F 23 0 (nI n41)) A41) (fun v53 F53 A53 hq53 => ?_)
        obtain ⟨rfl, rfl, -, hk53⟩ := hq53
        have hC := hC.ab (a := 25) (b := 25) rfl rfl (fun k h _ => hk53 k h)
        refine j_aload_n dX5_without_56 rfl ?_
        refine j_getR (r := 14) dX5_without_57 flX5_65 (Nat.le_of_ble_eq_true rfl) rfl rfl ?_
        refine j_callV (y' := mX3_run) (As := []) (st := []) dX5_without_60 lkX5_232 okX3_run imX3_run seX3_run (Nat.le_of_ble_eq_true rfl) rfl rfl rfl rfl (Nat.le_of_ble_eq_true rfl) (Nat.le_of_ble_eq_true rfl) (c_runS14 z _ _ (mj_u F 23 0 (nI n41)) A53 hC) (fun v60 F60 A60 hq60 => ?_)
        obtain ⟨rfl, hC⟩ := hq60
        refine j_aload_n dX5_without_63 rfl ?_
        refine j_getR (r := 14) dX5_without_64 flX5_65 (Nat.le_of_ble_eq_true rfl) rfl rfl ?_
        refine j_getI dX5_without_67 flX5_206 (Nat.le_of_ble_eq_true rfl) rfl rfl ?_
        exact j_iret dX5_without_70 rfl rfl ⟨_, rfl, hC⟩
      · refine j_bipush (v := (-4)) dX5_without_30 (by decide +kernel) ?_
        exact j_iret dX5_without_32 rfl rfl ⟨_, rfl, hC⟩
    · refine j_iconst (v := (-1)) dX5_without_16 (by decide +kernel) ?_
      exact j_iret dX5_without_17 rfl rfl ⟨_, rfl, hC⟩
