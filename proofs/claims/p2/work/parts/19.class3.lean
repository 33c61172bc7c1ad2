/-! the class: the reader -/
def RI (ln a : Nat) (F : mj_S) : Prop := F 2 2 = nI ln ∧ F 2 3 = nI a ∧ a ≤ ln ∧ ln ≤ 200

set_option maxHeartbeats 400000 in
set_option maxRecDepth 100000 in
theorem c_ntz0 (z : mj_B) (d : Nat) (F A : mj_S) : J (gC z) mJ6_numberOfTrailingZeros_0f7a4 d 0 [(0, .int (nI 0))] [] F A (qP F A fun _ => True) := by
  refine j_iload_n dJ6_numberOfTrailingZeros_0f7a4_0 rfl ?_
  refine j_iconst (v := (-1)) dJ6_numberOfTrailingZeros_0f7a4_1 (by decide +kernel) ?_
  refine j_ixor dJ6_numberOfTrailingZeros_0f7a4_2 ?_
  refine j_iload_n dJ6_numberOfTrailingZeros_0f7a4_3 rfl ?_
  refine j_iconst (v := nI 1) dJ6_numberOfTrailingZeros_0f7a4_4 (by decide +kernel) ?_
  refine j_isub dJ6_numberOfTrailingZeros_0f7a4_5 ?_
  refine j_iand dJ6_numberOfTrailingZeros_0f7a4_6 ?_
  refine j_istore_n (lv' := [(0, .int (((nI 0) ^^^ (-1)) &&& ((nI 0) - (nI 1))))]) dJ6_numberOfTrailingZeros_0f7a4_7 (Nat.le_of_ble_eq_true rfl) rfl rfl ?_
  refine j_iload_n dJ6_numberOfTrailingZeros_0f7a4_8 rfl ?_
  refine j_if_gt (tgt := 17) dJ6_numberOfTrailingZeros_0f7a4_9 (by decide) (fun c9 => ?_) (fun c9 => ?_)
  · exact absurd c9 (by decide +kernel)
  · refine j_iload_n dJ6_numberOfTrailingZeros_0f7a4_12 rfl ?_
    refine j_bipush (v := nI 32) dJ6_numberOfTrailingZeros_0f7a4_13 (by decide +kernel) ?_
    refine j_iand dJ6_numberOfTrailingZeros_0f7a4_15 ?_
    exact j_iret dJ6_numberOfTrailingZeros_0f7a4_16 rfl rfl ⟨rfl, rfl, _, rfl, trivial⟩

set_option maxHeartbeats 400000 in
set_option maxRecDepth 100000 in
theorem c_takes (z : mj_B) (d T ln a : Nat) (x : Int32) (F A : mj_S) (hC : CI T F A) (hR : RI ln a F) : J (gC z) mX1_takes d 0 [(0, .ref 2), (1, .int x)] [] F A (fun v F' A' => A = A' ∧ CI T F' A ∧ F' 40 0 = F 40 0 ∧ ∃ a', RI ln a' F' ∧ ∃ r, v = some (.int (nI r)) ∧ r ≤ 1) := by
  have hRa := hR.2.2.1
  have hRl := hR.2.2.2
  refine j_aload_n dX1_takes_0 rfl ?_
  refine j_getI dX1_takes_1 flX1_29 (Nat.le_of_ble_eq_true rfl) rfl rfl ?_
  refine j_top (y0 := nI a) hR.2.1 ?_
  refine j_aload_n dX1_takes_4 rfl ?_
  refine j_getI dX1_takes_5 flX1_25 (Nat.le_of_ble_eq_true rfl) rfl rfl ?_
  refine j_top (y0 := nI ln) hR.1 ?_
  refine j_icmp_geN (tgt := 24) dX1_takes_8 (by decide) (by omega) (by omega) (fun c8 => ?_) (fun c8 => ?_)
  · refine j_iconst (v := nI 0) dX1_takes_24 (by decide +kernel) ?_
    exact j_iret dX1_takes_25 rfl (by decide +kernel) ⟨rfl, hC, rfl, _, hR, _, rfl, by omega⟩
  · refine j_aload_n dX1_takes_11 rfl ?_
    refine j_getR (r := 1) dX1_takes_12 flX1_9 (Nat.le_of_ble_eq_true rfl) rfl rfl ?_
    refine j_aload_n dX1_takes_15 rfl ?_
    refine j_getI dX1_takes_16 flX1_29 (Nat.le_of_ble_eq_true rfl) rfl rfl ?_
    refine j_top (y0 := nI a) hR.2.1 ?_
    refine j_caldN dX1_takes_19 (Nat.le_of_ble_eq_true rfl) rfl (by omega) (by decide) ?_
    refine j_iload_n dX1_takes_20 rfl ?_
    refine j_icmp_eq (tgt := 26) dX1_takes_21 (by decide) (fun c21 => ?_) (fun c21 => ?_)
    · refine j_aload_n dX1_takes_26 rfl ?_
      refine j_dup dX1_takes_27 rfl ?_
      refine j_getI dX1_takes_28 flX1_29 (Nat.le_of_ble_eq_true rfl) rfl rfl ?_
      refine j_top (y0 := nI a) hR.2.1 ?_
      refine j_iconst (v := nI 1) dX1_takes_31 (by decide +kernel) ?_
      refine j_iaddN dX1_takes_32 ?_
      refine j_putI dX1_takes_33 fpX1_29 (Nat.le_of_ble_eq_true rfl) rfl rfl ?_
      have hC := hC.f (k := 2) (s := 3) rfl (nI (a + 1))
      refine j_iconst (v := nI 1) dX1_takes_36 (by decide +kernel) ?_
      exact j_iret dX1_takes_37 rfl (by decide +kernel) ⟨rfl, hC, rfl, _, ⟨hR.1, rfl, by omega, hRl⟩, _, rfl, by omega⟩
    · refine j_iconst (v := nI 0) dX1_takes_24 (by decide +kernel) ?_
      exact j_iret dX1_takes_25 rfl (by decide +kernel) ⟨rfl, hC, rfl, _, hR, _, rfl, by omega⟩

set_option maxHeartbeats 400000 in
set_option maxRecDepth 100000 in
theorem c_readFigure (z : mj_B) (d T ln a : Nat) (F A : mj_S) (hC : CI T F A) (hR : RI ln a F) : J (gC z) mX1_readFigure d 0 [(0, .ref 2)] [] F A (fun v F' A' => A = A' ∧ CI T F' A ∧ F' 40 0 = F 40 0 ∧ ∃ a', RI ln a' F' ∧ ∃ x, v = some (.int x)) := by
  have hRa := hR.2.2.1
  have hRl := hR.2.2.2
  refine j_aload_n dX1_readFigure_0 rfl ?_
  refine j_getI dX1_readFigure_1 flX1_29 (Nat.le_of_ble_eq_true rfl) rfl rfl ?_
  refine j_top (y0 := nI a) hR.2.1 ?_
  refine j_aload_n dX1_readFigure_4 rfl ?_
  refine j_getI dX1_readFigure_5 flX1_25 (Nat.le_of_ble_eq_true rfl) rfl rfl ?_
  refine j_top (y0 := nI ln) hR.1 ?_
  refine j_icmp_geN (tgt := 39) dX1_readFigure_8 (by decide) (by omega) (by omega) (fun c8 => ?_) (fun c8 => ?_)
  · refine j_iconst (v := (-1)) dX1_readFigure_39 (by decide +kernel) ?_
    exact j_iret dX1_readFigure_40 rfl rfl ⟨rfl, hC, rfl, _, hR, _, rfl⟩
  · refine j_aload_n dX1_readFigure_11 rfl ?_
    refine j_getR (r := 1) dX1_readFigure_12 flX1_9 (Nat.le_of_ble_eq_true rfl) rfl rfl ?_
    refine j_aload_n dX1_readFigure_15 rfl ?_
    refine j_getI dX1_readFigure_16 flX1_29 (Nat.le_of_ble_eq_true rfl) rfl rfl ?_
    refine j_top (y0 := nI a) hR.2.1 ?_
    refine j_caldN dX1_readFigure_19 (Nat.le_of_ble_eq_true rfl) rfl (by omega) (by decide) ?_
    refine j_bipush (v := nI 48) dX1_readFigure_20 (by decide +kernel) ?_
    refine j_icmp_lt (tgt := 39) dX1_readFigure_22 (by decide) (fun c22 => ?_) (fun c22 => ?_)
    · refine j_iconst (v := (-1)) dX1_readFigure_39 (by decide +kernel) ?_
      exact j_iret dX1_readFigure_40 rfl rfl ⟨rfl, hC, rfl, _, hR, _, rfl⟩
    · refine j_aload_n dX1_readFigure_25 rfl ?_
      refine j_getR (r := 1) dX1_readFigure_26 flX1_9 (Nat.le_of_ble_eq_true rfl) rfl rfl ?_
      refine j_aload_n dX1_readFigure_29 rfl ?_
      refine j_getI dX1_readFigure_30 flX1_29 (Nat.le_of_ble_eq_true rfl) rfl rfl ?_
      refine j_top (y0 := nI a) hR.2.1 ?_
      refine j_caldN dX1_readFigure_33 (Nat.le_of_ble_eq_true rfl) rfl (by omega) (by decide) ?_
      refine j_bipush (v := nI 57) dX1_readFigure_34 (by decide +kernel) ?_
      refine j_icmp_le (tgt := 41) dX1_readFigure_36 (by decide) (fun c36 => ?_) (fun c36 => ?_)
      · refine j_aload_n dX1_readFigure_41 rfl ?_
        refine j_getR (r := 1) dX1_readFigure_42 flX1_9 (Nat.le_of_ble_eq_true rfl) rfl rfl ?_
        refine j_aload_n dX1_readFigure_45 rfl ?_
        refine j_getI dX1_readFigure_46 flX1_29 (Nat.le_of_ble_eq_true rfl) rfl rfl ?_
        refine j_top (y0 := nI a) hR.2.1 ?_
        refine j_caldN dX1_readFigure_49 (Nat.le_of_ble_eq_true rfl) rfl (by omega) (by decide) ?_
        refine j_bipush (v := nI 48) dX1_readFigure_50 (by decide +kernel) ?_
        refine j_isub dX1_readFigure_52 ?_
        refine j_istore_n (lv' := [(0, .ref 2), (1, .int ((A 1 a) - (nI 48)))]) dX1_readFigure_53 (Nat.le_of_ble_eq_true rfl) rfl rfl ?_
        refine j_aload_n dX1_readFigure_54 rfl ?_
        refine j_dup dX1_readFigure_55 rfl ?_
        refine j_getI dX1_readFigure_56 flX1_29 (Nat.le_of_ble_eq_true rfl) rfl rfl ?_
        refine j_top (y0 := nI a) hR.2.1 ?_
        refine j_iconst (v := nI 1) dX1_readFigure_59 (by decide +kernel) ?_
        refine j_iaddN dX1_readFigure_60 ?_
        refine j_putI dX1_readFigure_61 fpX1_29 (Nat.le_of_ble_eq_true rfl) rfl rfl ?_
        have hC := hC.f (k := 2) (s := 3) rfl (nI (a + 1))
        refine j_iload_n dX1_readFigure_64 rfl ?_
        exact j_iret dX1_readFigure_65 rfl rfl ⟨rfl, hC, rfl, _, ⟨hR.1, rfl, by omega, hRl⟩, _, rfl⟩
      · refine j_iconst (v := (-1)) dX1_readFigure_39 (by decide +kernel) ?_
        exact j_iret dX1_readFigure_40 rfl rfl ⟨rfl, hC, rfl, _, hR, _, rfl⟩

set_option maxHeartbeats 400000 in
set_option maxRecDepth 100000 in
theorem c_readNumber (z : mj_B) (d T ln a : Nat) (F A : mj_S) (hC : CI T F A) (hR : RI ln a F) : J (gC z) mX1_readNumber (d + 1) 0 [(0, .ref 2)] [] F A (fun v F' A' => A = A' ∧ CI T F' A ∧ F' 40 0 = F 40 0 ∧ ∃ a', RI ln a' F' ∧ ∃ x, v = some (.int x)) := by
  have hRa := hR.2.2.1
  have hRl := hR.2.2.2
  refine j_aload_n dX1_readNumber_0 rfl ?_
  refine j_callV (y' := mX1_readFigure) (As := []) (st := []) dX1_readNumber_1 lkX1_93 okX1_readFigure imX1_readFigure seX1_readFigure (Nat.le_of_ble_eq_true rfl) rfl rfl rfl rfl (Nat.le_of_ble_eq_true rfl) (Nat.le_of_ble_eq_true rfl) (c_readFigure z _ _ _ _  F A hC hR) (fun v1 F1 A1 hq1 => ?_)
  obtain ⟨rfl, hC, h40_1, a1, hR, x1, rfl⟩ := hq1
  have hRa := hR.2.2.1
  refine j_istore_n (lv' := [(0, .ref 2), (1, .int x1)]) dX1_readNumber_4 (Nat.le_of_ble_eq_true rfl) rfl rfl ?_
  refine j_iload_n dX1_readNumber_5 rfl ?_
  refine j_if_ge (tgt := 11) dX1_readNumber_6 (by decide) (fun c6 => ?_) (fun c6 => ?_)
  · refine j_aload_n dX1_readNumber_11 rfl ?_
    refine j_callV (y' := mX1_readFigure) (As := []) (st := []) dX1_readNumber_12 lkX1_93 okX1_readFigure imX1_readFigure seX1_readFigure (Nat.le_of_ble_eq_true rfl) rfl rfl rfl rfl (Nat.le_of_ble_eq_true rfl) (Nat.le_of_ble_eq_true rfl) (c_readFigure z _ _ _ _  F1 A hC hR) (fun v12 F12 A12 hq12 => ?_)
    obtain ⟨rfl, hC, h40_12, a12, hR, x12, rfl⟩ := hq12
    have hRa := hR.2.2.1
    refine j_istore_n (lv' := [(0, .ref 2), (1, .int x1), (2, .int x12)]) dX1_readNumber_15 (Nat.le_of_ble_eq_true rfl) rfl rfl ?_
    refine j_iload_n dX1_readNumber_16 rfl ?_
    refine j_if_ge (tgt := 24) dX1_readNumber_17 (by decide) (fun c17 => ?_) (fun c17 => ?_)
    · refine j_iload_n dX1_readNumber_24 rfl ?_
      refine j_bipush (v := nI 10) dX1_readNumber_25 (by decide +kernel) ?_
      refine j_imul dX1_readNumber_27 ?_
      refine j_iload_n dX1_readNumber_28 rfl ?_
      refine j_iadd dX1_readNumber_29 ?_
      exact j_iret dX1_readNumber_30 rfl rfl ⟨rfl, hC, h40_12.trans h40_1, _, hR, _, rfl⟩
    · refine j_iload_n dX1_readNumber_20 rfl ?_
      refine j_goto (tgt := 30) dX1_readNumber_21 (by decide) ?_
      exact j_iret dX1_readNumber_30 rfl rfl ⟨rfl, hC, h40_12.trans h40_1, _, hR, _, rfl⟩
  · refine j_iconst (v := (-1)) dX1_readNumber_9 (by decide +kernel) ?_
    exact j_iret dX1_readNumber_10 rfl rfl ⟨rfl, hC, h40_1, _, hR, _, rfl⟩

set_option maxHeartbeats 400000 in
set_option maxRecDepth 100000 in
theorem c_readNode (z : mj_B) (d T ln a : Nat) (F A : mj_S) (hC : CI T F A) (hR : RI ln a F) : J (gC z) mX1_readNode (d + 2) 0 [(0, .ref 2)] [] F A (fun v F' A' => CI T F' A' ∧ ∃ a', RI ln a' F' ∧ ∃ r, v = some (.int (nI r)) ∧ r ≤ 1) := by
  have hRa := hR.2.2.1
  have hRl := hR.2.2.2
  obtain ⟨n, hn, en⟩ := (hC.2.2.2.1 40 n40).1
  refine j_aload_n dX1_readNode_0 rfl ?_
  refine j_getR (r := 40) dX1_readNode_1 flX1_15 (Nat.le_of_ble_eq_true rfl) rfl rfl ?_
  refine j_getI dX1_readNode_4 flX1_32 (Nat.le_of_ble_eq_true rfl) rfl rfl ?_
  refine j_top (y0 := nI n) en ?_
  refine j_istore_n (lv' := [(0, .ref 2), (1, .int (nI n))]) dX1_readNode_7 (Nat.le_of_ble_eq_true rfl) rfl rfl ?_
  refine j_aload_n dX1_readNode_8 rfl ?_
  refine j_callV (y' := mX1_readNumber) (As := []) (st := []) dX1_readNode_9 lkX1_51 okX1_readNumber imX1_readNumber seX1_readNumber (Nat.le_of_ble_eq_true rfl) rfl rfl rfl rfl (Nat.le_of_ble_eq_true rfl) (Nat.le_of_ble_eq_true rfl) (c_readNumber z _ _ _ _  F A hC hR) (fun v9 F9 A9 hq9 => ?_)
  obtain ⟨rfl, hC, h40_9, a9, hR, x9, rfl⟩ := hq9
  have hRa := hR.2.2.1
  have en9 := h40_9.trans en
  refine j_istore_n (lv' := [(0, .ref 2), (1, .int (nI n)), (2, .int x9)]) dX1_readNode_12 (Nat.le_of_ble_eq_true rfl) rfl rfl ?_
  refine j_iload_n dX1_readNode_13 rfl ?_
  refine j_bipush (v := nI 8) dX1_readNode_14 (by decide +kernel) ?_
  refine j_icmp_geN (tgt := 28) dX1_readNode_16 (by decide) (by omega) (by omega) (fun c16 => ?_) (fun c16 => ?_)
  · refine j_iconst (v := nI 0) dX1_readNode_28 (by decide +kernel) ?_
    exact j_iret dX1_readNode_29 rfl (by decide +kernel) ⟨hC, _, hR, _, rfl, by omega⟩
  · have hn7 : n < 8 := by omega
    have L35 : ∀ (fuel : Nat) (q : Nat) (i : Nat) (a : Nat) (F A : mj_S), (CI T F A) → (RI ln a F) → (F 40 0 = nI n) → (q ≤ i ∧ i ≤ 4) → (a ≤ ln) → 4 - i < fuel → J (gC z) mX1_readNode (d + 2) 35 [(0, .ref 2), (1, .int (nI n)), (2, .int x9), (3, .int (nI q)), (4, .int (nI i))] [] F A (fun v F' A' => CI T F' A' ∧ ∃ a', RI ln a' F' ∧ ∃ r, v = some (.int (nI r)) ∧ r ≤ 1) := by
      intro fuel
      induction fuel with
      | zero => intro q i a F A hC hR en h1 hRa hf; exact absurd hf (by omega)
      | succ fuel ih35 =>
        intro q i a F A hC hR en h1 hRa hf
        refine j_iload dX1_readNode_35 rfl ?_
        refine j_iconst (v := nI 4) dX1_readNode_37 (by decide +kernel) ?_
        refine j_icmp_geN (tgt := 88) dX1_readNode_38 (by decide) (by omega) (by omega) (fun c38 => ?_) (fun c38 => ?_)
        · refine j_iload_n dX1_readNode_88 rfl ?_
          refine j_if_eqN (tgt := 101) dX1_readNode_89 (by decide) (by omega) (fun c89 => ?_) (fun c89 => ?_)
          · refine j_iconst (v := nI 0) dX1_readNode_101 (by decide +kernel) ?_
            exact j_iret dX1_readNode_102 rfl (by decide +kernel) ⟨hC, _, hR, _, rfl, by omega⟩
          · refine j_aload_n dX1_readNode_92 rfl ?_
            refine j_bipush (v := nI 59) dX1_readNode_93 (by decide +kernel) ?_
            refine j_callV (y' := mX1_takes) (As := [.int (nI 59)]) (st := []) dX1_readNode_95 lkX1_41 okX1_takes imX1_takes seX1_takes (Nat.le_of_ble_eq_true rfl) rfl rfl rfl rfl (Nat.le_of_ble_eq_true rfl) (Nat.le_of_ble_eq_true rfl) (c_takes z _ _ _ _ (nI 59) F A hC hR) (fun v95 F95 A95 hq95 => ?_)
            obtain ⟨rfl, hC, h40_95, a95, hR, r95, rfl, hb95⟩ := hq95
            have hRa := hR.2.2.1
            have en95 := h40_95.trans en
            refine j_if_neN (tgt := 103) dX1_readNode_98 (by decide) (by omega) (fun c98 => ?_) (fun c98 => ?_)
            · refine j_aload_n dX1_readNode_103 rfl ?_
              refine j_getR (r := 40) dX1_readNode_104 flX1_15 (Nat.le_of_ble_eq_true rfl) rfl rfl ?_
              refine j_iload_n dX1_readNode_107 rfl ?_
              refine j_iload_n dX1_readNode_108 rfl ?_
              refine j_callV (y' := mX0_addNode) (As := [.int x9, .int (nI q)]) (st := []) dX1_readNode_109 lkX1_66 okX0_addNode imX0_addNode seX0_addNode (Nat.le_of_ble_eq_true rfl) rfl rfl rfl rfl (Nat.le_of_ble_eq_true rfl) (Nat.le_of_ble_eq_true rfl) (c_addNode z _ _ n q (by omega) (by omega) x9 F95 A hC en95) (fun v109 F109 A109 hq109 => ?_)
              obtain ⟨rfl, hC, e22, e23⟩ := hq109
              have hR : RI ln _ F109 := ⟨e22.trans hR.1, e23.trans hR.2.1, hR.2.2⟩
              refine j_iconst (v := nI 1) dX1_readNode_112 (by decide +kernel) ?_
              exact j_iret dX1_readNode_113 rfl (by decide +kernel) ⟨hC, _, hR, _, rfl, by omega⟩
            · refine j_iconst (v := nI 0) dX1_readNode_101 (by decide +kernel) ?_
              exact j_iret dX1_readNode_102 rfl (by decide +kernel) ⟨hC, _, hR, _, rfl, by omega⟩
        · refine j_aload_n dX1_readNode_41 rfl ?_
          refine j_bipush (v := nI 44) dX1_readNode_42 (by decide +kernel) ?_
          refine j_callV (y' := mX1_takes) (As := [.int (nI 44)]) (st := []) dX1_readNode_44 lkX1_41 okX1_takes imX1_takes seX1_takes (Nat.le_of_ble_eq_true rfl) rfl rfl rfl rfl (Nat.le_of_ble_eq_true rfl) (Nat.le_of_ble_eq_true rfl) (c_takes z _ _ _ _ (nI 44) F A hC hR) (fun v44 F44 A44 hq44 => ?_)
          obtain ⟨rfl, hC, h40_44, a44, hR, r44, rfl, hb44⟩ := hq44
          have hRa := hR.2.2.1
          have en44 := h40_44.trans en
          refine j_if_eqN (tgt := 88) dX1_readNode_47 (by decide) (by omega) (fun c47 => ?_) (fun c47 => ?_)
          · refine j_iload_n dX1_readNode_88 rfl ?_
            refine j_if_eqN (tgt := 101) dX1_readNode_89 (by decide) (by omega) (fun c89 => ?_) (fun c89 => ?_)
            · refine j_iconst (v := nI 0) dX1_readNode_101 (by decide +kernel) ?_
              exact j_iret dX1_readNode_102 rfl (by decide +kernel) ⟨hC, _, hR, _, rfl, by omega⟩
            · refine j_aload_n dX1_readNode_92 rfl ?_
              refine j_bipush (v := nI 59) dX1_readNode_93 (by decide +kernel) ?_
              refine j_callV (y' := mX1_takes) (As := [.int (nI 59)]) (st := []) dX1_readNode_95 lkX1_41 okX1_takes imX1_takes seX1_takes (Nat.le_of_ble_eq_true rfl) rfl rfl rfl rfl (Nat.le_of_ble_eq_true rfl) (Nat.le_of_ble_eq_true rfl) (c_takes z _ _ _ _ (nI 59) F44 A hC hR) (fun v95 F95 A95 hq95 => ?_)
              obtain ⟨rfl, hC, h40_95, a95, hR, r95, rfl, hb95⟩ := hq95
              have hRa := hR.2.2.1
              have en95 := h40_95.trans en44
              refine j_if_neN (tgt := 103) dX1_readNode_98 (by decide) (by omega) (fun c98 => ?_) (fun c98 => ?_)
              · refine j_aload_n dX1_readNode_103 rfl ?_
                refine j_getR (r := 40) dX1_readNode_104 flX1_15 (Nat.le_of_ble_eq_true rfl) rfl rfl ?_
                refine j_iload_n dX1_readNode_107 rfl ?_
                refine j_iload_n dX1_readNode_108 rfl ?_
                refine j_callV (y' := mX0_addNode) (As := [.int x9, .int (nI q)]) (st := []) dX1_readNode_109 lkX1_66 okX0_addNode imX0_addNode seX0_addNode (Nat.le_of_ble_eq_true rfl) rfl rfl rfl rfl (Nat.le_of_ble_eq_true rfl) (Nat.le_of_ble_eq_true rfl) (c_addNode z _ _ n q (by omega) (by omega) x9 F95 A hC en95) (fun v109 F109 A109 hq109 => ?_)
                obtain ⟨rfl, hC, e22, e23⟩ := hq109
                have hR : RI ln _ F109 := ⟨e22.trans hR.1, e23.trans hR.2.1, hR.2.2⟩
                refine j_iconst (v := nI 1) dX1_readNode_112 (by decide +kernel) ?_
                exact j_iret dX1_readNode_113 rfl (by decide +kernel) ⟨hC, _, hR, _, rfl, by omega⟩
              · refine j_iconst (v := nI 0) dX1_readNode_101 (by decide +kernel) ?_
                exact j_iret dX1_readNode_102 rfl (by decide +kernel) ⟨hC, _, hR, _, rfl, by omega⟩
          · refine j_aload_n dX1_readNode_50 rfl ?_
            refine j_callV (y' := mX1_readNumber) (As := []) (st := []) dX1_readNode_51 lkX1_51 okX1_readNumber imX1_readNumber seX1_readNumber (Nat.le_of_ble_eq_true rfl) rfl rfl rfl rfl (Nat.le_of_ble_eq_true rfl) (Nat.le_of_ble_eq_true rfl) (c_readNumber z _ _ _ _  F44 A hC hR) (fun v51 F51 A51 hq51 => ?_)
            obtain ⟨rfl, hC, h40_51, a51, hR, x51, rfl⟩ := hq51
            have hRa := hR.2.2.1
            have en51 := h40_51.trans en44
            refine j_istore (lv' := [(0, .ref 2), (1, .int (nI n)), (2, .int x9), (3, .int (nI q)), (4, .int (nI i)), (5, .int x51)]) dX1_readNode_54 (Nat.le_of_ble_eq_true rfl) rfl rfl ?_
            refine j_iload dX1_readNode_56 rfl ?_
            refine j_if_ge (tgt := 63) dX1_readNode_58 (by decide) (fun c58 => ?_) (fun c58 => ?_)
            · refine j_aload_n dX1_readNode_63 rfl ?_
              refine j_getR (r := 40) dX1_readNode_64 flX1_15 (Nat.le_of_ble_eq_true rfl) rfl rfl ?_
              refine j_getR (r := 45) dX1_readNode_67 flX1_59 (Nat.le_of_ble_eq_true rfl) rfl rfl ?_
              refine j_iload_n dX1_readNode_70 rfl ?_
              refine j_iload dX1_readNode_71 rfl ?_
              refine j_callSN (y' := mX5_choicePlace) (As := [.int (nI n), .int (nI i)]) (st := [.ref 45]) dX1_readNode_73 lnX1_63 okX5_choicePlace stX5_choicePlace rfl (Nat.le_of_ble_eq_true rfl) (Nat.le_of_ble_eq_true rfl) (c_choicePlace z _ n i F51 A) (fun v73 F73 A73 hq73 => ?_)
              obtain ⟨rfl, rfl, r73, rfl, hr73⟩ := hq73
              refine j_iload dX1_readNode_76 rfl ?_
              refine j_iastN dX1_readNode_78 (Nat.le_of_ble_eq_true rfl) rfl (by omega) (by decide) ?_
              have hC := hC.u (k := 45) rfl r73 x51
              refine j_iinc (v := nI (q + 1)) (lv' := [(0, .ref 2), (1, .int (nI n)), (2, .int x9), (3, .int (nI (q + 1))), (4, .int (nI i)), (5, .int x51)]) dX1_readNode_79 rfl (nI_add _ 1) (Nat.le_of_ble_eq_true rfl) rfl rfl ?_
              refine j_iinc (v := nI (i + 1)) (lv' := [(0, .ref 2), (1, .int (nI n)), (2, .int x9), (3, .int (nI (q + 1))), (4, .int (nI (i + 1))), (5, .int x51)]) dX1_readNode_82 rfl (nI_add _ 1) (Nat.le_of_ble_eq_true rfl) rfl rfl ?_
              refine j_goto (tgt := 35) dX1_readNode_85 (by decide) ?_
              refine j_sub [0, 1, 2, 3, 4] rfl ?_
              exact ih35 (q + 1) (i + 1) a51 F51 (mj_u A 45 r73 x51) (by first | exact hC | omega) (by first | exact hR | omega) en51 (by first | exact h1 | omega) hR.2.2.1 (by omega)
            · refine j_iconst (v := nI 0) dX1_readNode_61 (by decide +kernel) ?_
              exact j_iret dX1_readNode_62 rfl (by decide +kernel) ⟨hC, _, hR, _, rfl, by omega⟩
    refine j_iload_n dX1_readNode_19 rfl ?_
    refine j_iconst (v := nI 0) dX1_readNode_20 (by decide +kernel) ?_
    refine j_iconst (v := nI 3) dX1_readNode_21 (by decide +kernel) ?_
    refine j_callSN (y' := mX5_isWithin) (As := [.int x9, .int (nI 0), .int (nI 3)]) (st := []) dX1_readNode_22 lnX1_55 okX5_isWithin stX5_isWithin rfl (Nat.le_of_ble_eq_true rfl) (Nat.le_of_ble_eq_true rfl) (c_isWithin z _ x9 (nI 0) (nI 3) F9 A) (fun v22 F22 A22 hq22 => ?_)
    obtain ⟨rfl, rfl, r22, rfl, hr22⟩ := hq22
    have hb22 : r22 ≤ 1 := by omega
    refine j_if_neN (tgt := 30) dX1_readNode_25 (by decide) (by omega) (fun c25 => ?_) (fun c25 => ?_)
    · refine j_iconst (v := nI 0) dX1_readNode_30 (by decide +kernel) ?_
      refine j_istore_n (lv' := [(0, .ref 2), (1, .int (nI n)), (2, .int x9), (3, .int (nI 0))]) dX1_readNode_31 (Nat.le_of_ble_eq_true rfl) rfl rfl ?_
      refine j_iconst (v := nI 0) dX1_readNode_32 (by decide +kernel) ?_
      refine j_istore (lv' := [(0, .ref 2), (1, .int (nI n)), (2, .int x9), (3, .int (nI 0)), (4, .int (nI 0))]) dX1_readNode_33 (Nat.le_of_ble_eq_true rfl) rfl rfl ?_
      exact L35 _ 0 0 a9 F9 A (by first | exact hC | omega) (by first | exact hR | omega) en9 (by first | exact h1 | omega) hR.2.2.1 (Nat.lt_succ_self _)
    · refine j_iconst (v := nI 0) dX1_readNode_28 (by decide +kernel) ?_
      exact j_iret dX1_readNode_29 rfl (by decide +kernel) ⟨hC, _, hR, _, rfl, by omega⟩

set_option maxHeartbeats 400000 in
set_option maxRecDepth 100000 in
theorem c_readTable (z : mj_B) (d T ln a : Nat) (u v : Nat) (hu : u < 8) (hv : v < 8) (huv : u ≠ v) (F A : mj_S) (hC : CI T F A) (hR : RI ln a F) : J (gC z) mX1_readTable (d + 1) 0 [(0, .ref 2), (1, .int (nI u)), (2, .int (nI v))] [] F A (fun v F' A' => CI T F' A' ∧ ∃ a', RI ln a' F' ∧ ∃ r, v = some (.int (nI r)) ∧ r ≤ 1) := by
  have hRa := hR.2.2.1
  have hRl := hR.2.2.2
  have L2 : ∀ (fuel : Nat) (i : Nat) (a : Nat) (F A : mj_S), (CI T F A) → (RI ln a F) → (i ≤ 4) → (a ≤ ln) → 4 - i < fuel → J (gC z) mX1_readTable (d + 1) 2 [(0, .ref 2), (1, .int (nI u)), (2, .int (nI v)), (3, .int (nI i))] [] F A (fun v F' A' => CI T F' A' ∧ ∃ a', RI ln a' F' ∧ ∃ r, v = some (.int (nI r)) ∧ r ≤ 1) := by
    intro fuel
    induction fuel with
    | zero => intro i a F A hC hR h1 hRa hf; exact absurd hf (by omega)
    | succ fuel ih2 =>
      intro i a F A hC hR h1 hRa hf
      refine j_iload_n dX1_readTable_2 rfl ?_
      refine j_aload_n dX1_readTable_3 rfl ?_
      refine j_getR (r := 40) dX1_readTable_4 flX1_15 (Nat.le_of_ble_eq_true rfl) rfl rfl ?_
      refine j_getR (r := 41) dX1_readTable_7 flX1_90 (Nat.le_of_ble_eq_true rfl) rfl rfl ?_
      refine j_iload_n dX1_readTable_10 rfl ?_
      refine j_ialdN dX1_readTable_11 (Nat.le_of_ble_eq_true rfl) rfl (by omega) (by decide) ?_
      obtain ⟨t1, ht1, et1⟩ := (hC.2.2.2.1 40 n40).2 u (by omega)
      refine j_top (y0 := nI t1) et1 ?_
      refine j_icmp_geN (tgt := 75) dX1_readTable_12 (by decide) (by omega) (by omega) (fun c12 => ?_) (fun c12 => ?_)
      · refine j_iconst (v := nI 1) dX1_readTable_75 (by decide +kernel) ?_
        exact j_iret dX1_readTable_76 rfl (by decide +kernel) ⟨hC, _, hR, _, rfl, by omega⟩
      · have L18 : ∀ (fuel : Nat) (j : Nat) (a : Nat) (F A : mj_S), (CI T F A) → (RI ln a F) → (j ≤ 4) → (a ≤ ln) → 4 - j < fuel → J (gC z) mX1_readTable (d + 1) 18 [(0, .ref 2), (1, .int (nI u)), (2, .int (nI v)), (3, .int (nI i)), (4, .int (nI j))] [] F A (fun v F' A' => CI T F' A' ∧ ∃ a', RI ln a' F' ∧ ∃ r, v = some (.int (nI r)) ∧ r ≤ 1) := by
          intro fuel
          induction fuel with
          | zero => intro j a F A hC hR h2 hRa hf; exact absurd hf (by omega)
          | succ fuel ih18 =>
            intro j a F A hC hR h2 hRa hf
            refine j_iload dX1_readTable_18 rfl ?_
            refine j_aload_n dX1_readTable_20 rfl ?_
            refine j_getR (r := 40) dX1_readTable_21 flX1_15 (Nat.le_of_ble_eq_true rfl) rfl rfl ?_
            refine j_getR (r := 41) dX1_readTable_24 flX1_90 (Nat.le_of_ble_eq_true rfl) rfl rfl ?_
            refine j_iload_n dX1_readTable_27 rfl ?_
            refine j_ialdN dX1_readTable_28 (Nat.le_of_ble_eq_true rfl) rfl (by omega) (by decide) ?_
            obtain ⟨t2, ht2, et2⟩ := (hC.2.2.2.1 40 n40).2 v (by omega)
            refine j_top (y0 := nI t2) et2 ?_
            refine j_icmp_geN (tgt := 69) dX1_readTable_29 (by decide) (by omega) (by omega) (fun c29 => ?_) (fun c29 => ?_)
            · refine j_iinc (v := nI (i + 1)) (lv' := [(0, .ref 2), (1, .int (nI u)), (2, .int (nI v)), (3, .int (nI (i + 1))), (4, .int (nI j))]) dX1_readTable_69 rfl (nI_add _ 1) (Nat.le_of_ble_eq_true rfl) rfl rfl ?_
              refine j_goto (tgt := 2) dX1_readTable_72 (by decide) ?_
              refine j_sub [0, 1, 2, 3] rfl ?_
              exact ih2 (i + 1) a F A (by first | exact hC | omega) (by first | exact hR | omega) (by first | exact h1 | omega) (by first | exact hRa | omega) (by omega)
            · refine j_aload_n dX1_readTable_32 rfl ?_
              refine j_callV (y' := mX1_readFigure) (As := []) (st := []) dX1_readTable_33 lkX1_93 okX1_readFigure imX1_readFigure seX1_readFigure (Nat.le_of_ble_eq_true rfl) rfl rfl rfl rfl (Nat.le_of_ble_eq_true rfl) (Nat.le_of_ble_eq_true rfl) (c_readFigure z _ _ _ _  F A hC hR) (fun v33 F33 A33 hq33 => ?_)
              obtain ⟨rfl, hC, h40_33, a33, hR, x33, rfl⟩ := hq33
              have hRa := hR.2.2.1
              refine j_istore (lv' := [(0, .ref 2), (1, .int (nI u)), (2, .int (nI v)), (3, .int (nI i)), (4, .int (nI j)), (5, .int x33)]) dX1_readTable_36 (Nat.le_of_ble_eq_true rfl) rfl rfl ?_
              refine j_iload dX1_readTable_38 rfl ?_
              refine j_if_ge (tgt := 45) dX1_readTable_40 (by decide) (fun c40 => ?_) (fun c40 => ?_)
              · refine j_aload_n dX1_readTable_45 rfl ?_
                refine j_getR (r := 40) dX1_readTable_46 flX1_15 (Nat.le_of_ble_eq_true rfl) rfl rfl ?_
                refine j_getR (r := 46) dX1_readTable_49 flX1_80 (Nat.le_of_ble_eq_true rfl) rfl rfl ?_
                refine j_iload_n dX1_readTable_52 rfl ?_
                refine j_iload_n dX1_readTable_53 rfl ?_
                refine j_iload_n dX1_readTable_54 rfl ?_
                refine j_iload dX1_readTable_55 rfl ?_
                refine j_callSN (y' := mX5_entryPlace) (As := [.int (nI u), .int (nI v), .int (nI i), .int (nI j)]) (st := [.ref 46]) dX1_readTable_57 lnX1_96 okX5_entryPlace stX5_entryPlace rfl (Nat.le_of_ble_eq_true rfl) (Nat.le_of_ble_eq_true rfl) (c_entryPlace z _ u v i j (by omega) (by omega) (by omega) F33 A) (fun v57 F57 A57 hq57 => ?_)
                obtain ⟨rfl, rfl, e57, rfl, he57⟩ := hq57
                have hl57 : e57 < 448 := by rw [he57]; exact eP_lt (by omega) (by omega) (by omega) (by omega) (by omega)
                refine j_iload dX1_readTable_60 rfl ?_
                refine j_iastN dX1_readTable_62 (Nat.le_of_ble_eq_true rfl) rfl (by omega) (by decide) ?_
                have hC := hC.u (k := 46) rfl e57 x33
                refine j_iinc (v := nI (j + 1)) (lv' := [(0, .ref 2), (1, .int (nI u)), (2, .int (nI v)), (3, .int (nI i)), (4, .int (nI (j + 1))), (5, .int x33)]) dX1_readTable_63 rfl (nI_add _ 1) (Nat.le_of_ble_eq_true rfl) rfl rfl ?_
                refine j_goto (tgt := 18) dX1_readTable_66 (by decide) ?_
                refine j_sub [0, 1, 2, 3, 4] rfl ?_
                exact ih18 (j + 1) a33 F33 (mj_u A 46 e57 x33) (by first | exact hC | omega) (by first | exact hR | omega) (by first | exact h2 | omega) hR.2.2.1 (by omega)
              · refine j_iconst (v := nI 0) dX1_readTable_43 (by decide +kernel) ?_
                exact j_iret dX1_readTable_44 rfl (by decide +kernel) ⟨hC, _, hR, _, rfl, by omega⟩
        refine j_iconst (v := nI 0) dX1_readTable_15 (by decide +kernel) ?_
        refine j_istore (lv' := [(0, .ref 2), (1, .int (nI u)), (2, .int (nI v)), (3, .int (nI i)), (4, .int (nI 0))]) dX1_readTable_16 (Nat.le_of_ble_eq_true rfl) rfl rfl ?_
        exact L18 _ 0 a F A (by first | exact hC | omega) (by first | exact hR | omega) (by first | exact h2 | omega) (by first | exact hRa | omega) (Nat.lt_succ_self _)
  refine j_iconst (v := nI 0) dX1_readTable_0 (by decide +kernel) ?_
  refine j_istore_n (lv' := [(0, .ref 2), (1, .int (nI u)), (2, .int (nI v)), (3, .int (nI 0))]) dX1_readTable_1 (Nat.le_of_ble_eq_true rfl) rfl rfl ?_
  exact L2 _ 0 a F A (by first | exact hC | omega) (by first | exact hR | omega) (by first | exact h1 | omega) (by first | exact hRa | omega) (Nat.lt_succ_self _)

theorem gt_nn {x : Int32} {u : Nat} (hu : u < 2147483648) (h : ¬ x ≤ nI u) : ¬ x < 0 := by
  intro h2
  apply h
  rw [Int32.lt_iff_toInt_lt, Int32.toInt_zero] at h2
  rw [Int32.le_iff_toInt_le, nI_toInt hu]
  omega

set_option maxHeartbeats 400000 in
set_option maxRecDepth 100000 in
theorem c_readTie (z : mj_B) (d T ln a : Nat) (F A : mj_S) (hC : CI T F A) (hR : RI ln a F) : J (gC z) mX1_readTie (d + 2) 0 [(0, .ref 2)] [] F A (fun v F' A' => CI T F' A' ∧ ∃ a', RI ln a' F' ∧ ∃ r, v = some (.int (nI r)) ∧ r ≤ 1) := by
  have hRa := hR.2.2.1
  have hRl := hR.2.2.2
  obtain ⟨n, hn, en⟩ := (hC.2.2.2.1 40 n40).1
  refine j_aload_n dX1_readTie_0 rfl ?_
  refine j_callV (y' := mX1_readNumber) (As := []) (st := []) dX1_readTie_1 lkX1_51 okX1_readNumber imX1_readNumber seX1_readNumber (Nat.le_of_ble_eq_true rfl) rfl rfl rfl rfl (Nat.le_of_ble_eq_true rfl) (Nat.le_of_ble_eq_true rfl) (c_readNumber z _ _ _ _  F A hC hR) (fun v1 F1 A1 hq1 => ?_)
  obtain ⟨rfl, hC, h40_1, a1, hR, x1, rfl⟩ := hq1
  have hRa := hR.2.2.1
  have en1 := h40_1.trans en
  refine j_istore_n (lv' := [(0, .ref 2), (1, .int x1)]) dX1_readTie_4 (Nat.le_of_ble_eq_true rfl) rfl rfl ?_
  refine j_iload_n dX1_readTie_5 rfl ?_
  refine j_if_lt (tgt := 18) dX1_readTie_6 (by decide) (fun c6 => ?_) (fun c6 => ?_)
  · refine j_iconst (v := nI 0) dX1_readTie_18 (by decide +kernel) ?_
    exact j_iret dX1_readTie_19 rfl (by decide +kernel) ⟨hC, _, hR, _, rfl, by omega⟩
  · obtain ⟨u, hu31, rfl⟩ := nI_of c6
    refine j_aload_n dX1_readTie_9 rfl ?_
    refine j_bipush (v := nI 44) dX1_readTie_10 (by decide +kernel) ?_
    refine j_callV (y' := mX1_takes) (As := [.int (nI 44)]) (st := []) dX1_readTie_12 lkX1_41 okX1_takes imX1_takes seX1_takes (Nat.le_of_ble_eq_true rfl) rfl rfl rfl rfl (Nat.le_of_ble_eq_true rfl) (Nat.le_of_ble_eq_true rfl) (c_takes z _ _ _ _ (nI 44) F1 A hC hR) (fun v12 F12 A12 hq12 => ?_)
    obtain ⟨rfl, hC, h40_12, a12, hR, r12, rfl, hb12⟩ := hq12
    have hRa := hR.2.2.1
    have en12 := h40_12.trans en1
    refine j_if_neN (tgt := 20) dX1_readTie_15 (by decide) (by omega) (fun c15 => ?_) (fun c15 => ?_)
    · refine j_aload_n dX1_readTie_20 rfl ?_
      refine j_callV (y' := mX1_readNumber) (As := []) (st := []) dX1_readTie_21 lkX1_51 okX1_readNumber imX1_readNumber seX1_readNumber (Nat.le_of_ble_eq_true rfl) rfl rfl rfl rfl (Nat.le_of_ble_eq_true rfl) (Nat.le_of_ble_eq_true rfl) (c_readNumber z _ _ _ _  F12 A hC hR) (fun v21 F21 A21 hq21 => ?_)
      obtain ⟨rfl, hC, h40_21, a21, hR, x21, rfl⟩ := hq21
      have hRa := hR.2.2.1
      have en21 := h40_21.trans en12
      refine j_istore_n (lv' := [(0, .ref 2), (1, .int (nI u)), (2, .int x21)]) dX1_readTie_24 (Nat.le_of_ble_eq_true rfl) rfl rfl ?_
      refine j_iload_n dX1_readTie_25 rfl ?_
      refine j_iload_n dX1_readTie_26 rfl ?_
      refine j_icmp_le (tgt := 50) dX1_readTie_27 (by decide) (fun c27 => ?_) (fun c27 => ?_)
      · refine j_iconst (v := nI 0) dX1_readTie_50 (by decide +kernel) ?_
        exact j_iret dX1_readTie_51 rfl (by decide +kernel) ⟨hC, _, hR, _, rfl, by omega⟩
      · obtain ⟨v, hv31, rfl⟩ := nI_of (x := x21) (gt_nn hu31 c27)
        have huv : u < v := Nat.not_le.mp (fun h => c27 (nI_le h hu31))
        refine j_iload_n dX1_readTie_30 rfl ?_
        refine j_aload_n dX1_readTie_31 rfl ?_
        refine j_getR (r := 40) dX1_readTie_32 flX1_15 (Nat.le_of_ble_eq_true rfl) rfl rfl ?_
        refine j_getI dX1_readTie_35 flX1_32 (Nat.le_of_ble_eq_true rfl) rfl rfl ?_
        refine j_top (y0 := nI n) en21 ?_
        refine j_icmp_geN (tgt := 50) dX1_readTie_38 (by decide) (by omega) (by omega) (fun c38 => ?_) (fun c38 => ?_)
        · refine j_iconst (v := nI 0) dX1_readTie_50 (by decide +kernel) ?_
          exact j_iret dX1_readTie_51 rfl (by decide +kernel) ⟨hC, _, hR, _, rfl, by omega⟩
        · refine j_aload_n dX1_readTie_41 rfl ?_
          refine j_bipush (v := nI 44) dX1_readTie_42 (by decide +kernel) ?_
          refine j_callV (y' := mX1_takes) (As := [.int (nI 44)]) (st := []) dX1_readTie_44 lkX1_41 okX1_takes imX1_takes seX1_takes (Nat.le_of_ble_eq_true rfl) rfl rfl rfl rfl (Nat.le_of_ble_eq_true rfl) (Nat.le_of_ble_eq_true rfl) (c_takes z _ _ _ _ (nI 44) F21 A hC hR) (fun v44 F44 A44 hq44 => ?_)
          obtain ⟨rfl, hC, h40_44, a44, hR, r44, rfl, hb44⟩ := hq44
          have hRa := hR.2.2.1
          have en44 := h40_44.trans en21
          refine j_if_neN (tgt := 52) dX1_readTie_47 (by decide) (by omega) (fun c47 => ?_) (fun c47 => ?_)
          · refine j_aload_n dX1_readTie_52 rfl ?_
            refine j_getR (r := 40) dX1_readTie_53 flX1_15 (Nat.le_of_ble_eq_true rfl) rfl rfl ?_
            refine j_iload_n dX1_readTie_56 rfl ?_
            refine j_iload_n dX1_readTie_57 rfl ?_
            refine j_callV (y' := mX0_areTied) (As := [.int (nI u), .int (nI v)]) (st := []) dX1_readTie_58 lkX1_70 okX0_areTied imX0_areTied seX0_areTied (Nat.le_of_ble_eq_true rfl) rfl rfl rfl rfl (Nat.le_of_ble_eq_true rfl) (Nat.le_of_ble_eq_true rfl) (c_areTied40 z _ u (by omega) (nI v) F44 A) (fun v58 F58 A58 hq58 => ?_)
            obtain ⟨rfl, rfl, r58, rfl, hr58⟩ := hq58
            refine j_if_neN (tgt := 76) dX1_readTie_61 (by decide) (by omega) (fun c61 => ?_) (fun c61 => ?_)
            · refine j_iconst (v := nI 0) dX1_readTie_76 (by decide +kernel) ?_
              exact j_iret dX1_readTie_77 rfl (by decide +kernel) ⟨hC, _, hR, _, rfl, by omega⟩
            · refine j_aload_n dX1_readTie_64 rfl ?_
              refine j_getR (r := 40) dX1_readTie_65 flX1_15 (Nat.le_of_ble_eq_true rfl) rfl rfl ?_
              refine j_callV (y' := mX0_tieCount) (As := []) (st := []) dX1_readTie_68 lkX1_74 okX0_tieCount imX0_tieCount seX0_tieCount (Nat.le_of_ble_eq_true rfl) rfl rfl rfl rfl (Nat.le_of_ble_eq_true rfl) (Nat.le_of_ble_eq_true rfl) (c_tieCount40 z _ _ F44 A hC) (fun v68 F68 A68 hq68 => ?_)
              obtain ⟨rfl, rfl, r68, rfl, -⟩ := hq68
              refine j_bipush (v := nI 12) dX1_readTie_71 (by decide +kernel) ?_
              refine j_icmp_lt (tgt := 78) dX1_readTie_73 (by decide) (fun c73 => ?_) (fun c73 => ?_)
              · refine j_aload_n dX1_readTie_78 rfl ?_
                refine j_getR (r := 40) dX1_readTie_79 flX1_15 (Nat.le_of_ble_eq_true rfl) rfl rfl ?_
                refine j_getR (r := 44) dX1_readTie_82 flX1_77 (Nat.le_of_ble_eq_true rfl) rfl rfl ?_
                refine j_aload_n dX1_readTie_85 rfl ?_
                refine j_getR (r := 40) dX1_readTie_86 flX1_15 (Nat.le_of_ble_eq_true rfl) rfl rfl ?_
                refine j_getR (r := 46) dX1_readTie_89 flX1_80 (Nat.le_of_ble_eq_true rfl) rfl rfl ?_
                refine j_iload_n dX1_readTie_92 rfl ?_
                refine j_iload_n dX1_readTie_93 rfl ?_
                refine j_callSN (y' := mX5_joinByNoughts) (As := [.ref 44, .ref 46, .int (nI u), .int (nI v)]) (st := []) dX1_readTie_94 lnX1_83 okX5_joinByNoughts stX5_joinByNoughts rfl (Nat.le_of_ble_eq_true rfl) (Nat.le_of_ble_eq_true rfl) (c_joinByNoughts z _ _ 44 46 u v (by omega) (by omega) (by omega) (Nat.le_of_ble_eq_true rfl) rfl (Nat.le_of_ble_eq_true rfl) rfl rfl rfl F44 A hC) (fun v94 F94 A94 hq94 => ?_)
                obtain ⟨rfl, rfl, hC, hfr94⟩ := hq94
                refine j_aload_n dX1_readTie_97 rfl ?_
                refine j_iload_n dX1_readTie_98 rfl ?_
                refine j_iload_n dX1_readTie_99 rfl ?_
                refine j_callV (y' := mX1_readTable) (As := [.int (nI u), .int (nI v)]) (st := []) dX1_readTie_100 lkX1_87 okX1_readTable imX1_readTable seX1_readTable (Nat.le_of_ble_eq_true rfl) rfl rfl rfl rfl (Nat.le_of_ble_eq_true rfl) (Nat.le_of_ble_eq_true rfl) (c_readTable z _ _ _ _ u v (by omega) (by omega) (by omega) F44 A94 hC hR) (fun v100 F100 A100 hq100 => ?_)
                obtain ⟨hC, a100, hR, r100, rfl, hb100⟩ := hq100
                refine j_if_eqN (tgt := 119) dX1_readTie_103 (by decide) (by omega) (fun c103 => ?_) (fun c103 => ?_)
                · refine j_iconst (v := nI 0) dX1_readTie_119 (by decide +kernel) ?_
                  exact j_iret dX1_readTie_120 rfl (by decide +kernel) ⟨hC, _, hR, _, rfl, by omega⟩
                · refine j_aload_n dX1_readTie_106 rfl ?_
                  refine j_bipush (v := nI 59) dX1_readTie_107 (by decide +kernel) ?_
                  refine j_callV (y' := mX1_takes) (As := [.int (nI 59)]) (st := []) dX1_readTie_109 lkX1_41 okX1_takes imX1_takes seX1_takes (Nat.le_of_ble_eq_true rfl) rfl rfl rfl rfl (Nat.le_of_ble_eq_true rfl) (Nat.le_of_ble_eq_true rfl) (c_takes z _ _ _ _ (nI 59) F100 A100 hC hR) (fun v109 F109 A109 hq109 => ?_)
                  obtain ⟨rfl, hC, h40_109, a109, hR, r109, rfl, hb109⟩ := hq109
                  have hRa := hR.2.2.1
                  refine j_if_eqN (tgt := 119) dX1_readTie_112 (by decide) (by omega) (fun c112 => ?_) (fun c112 => ?_)
                  · refine j_iconst (v := nI 0) dX1_readTie_119 (by decide +kernel) ?_
                    exact j_iret dX1_readTie_120 rfl (by decide +kernel) ⟨hC, _, hR, _, rfl, by omega⟩
                  · refine j_iconst (v := nI 1) dX1_readTie_115 (by decide +kernel) ?_
                    refine j_goto (tgt := 120) dX1_readTie_116 (by decide) ?_
                    exact j_iret dX1_readTie_120 rfl (by decide +kernel) ⟨hC, _, hR, _, rfl, by omega⟩
              · refine j_iconst (v := nI 0) dX1_readTie_76 (by decide +kernel) ?_
                exact j_iret dX1_readTie_77 rfl (by decide +kernel) ⟨hC, _, hR, _, rfl, by omega⟩
          · refine j_iconst (v := nI 0) dX1_readTie_50 (by decide +kernel) ?_
            exact j_iret dX1_readTie_51 rfl (by decide +kernel) ⟨hC, _, hR, _, rfl, by omega⟩
    · refine j_iconst (v := nI 0) dX1_readTie_18 (by decide +kernel) ?_
      exact j_iret dX1_readTie_19 rfl (by decide +kernel) ⟨hC, _, hR, _, rfl, by omega⟩

set_option maxHeartbeats 400000 in
set_option maxRecDepth 100000 in
theorem c_readItem (z : mj_B) (d T ln a : Nat) (F A : mj_S) (hC : CI T F A) (hR : RI ln a F) : J (gC z) mX1_readItem (d + 3) 0 [(0, .ref 2)] [] F A (fun v F' A' => CI T F' A' ∧ ∃ a', RI ln a' F' ∧ ∃ r, v = some (.int (nI r)) ∧ r ≤ 1) := by
  have hRa := hR.2.2.1
  have hRl := hR.2.2.2
  refine j_aload_n dX1_readItem_0 rfl ?_
  refine j_bipush (v := nI 110) dX1_readItem_1 (by decide +kernel) ?_
  refine j_callV (y' := mX1_takes) (As := [.int (nI 110)]) (st := []) dX1_readItem_3 lkX1_41 okX1_takes imX1_takes seX1_takes (Nat.le_of_ble_eq_true rfl) rfl rfl rfl rfl (Nat.le_of_ble_eq_true rfl) (Nat.le_of_ble_eq_true rfl) (c_takes z _ _ _ _ (nI 110) F A hC hR) (fun v3 F3 A3 hq3 => ?_)
  obtain ⟨rfl, hC, h40_3, a3, hR, r3, rfl, hb3⟩ := hq3
  have hRa := hR.2.2.1
  refine j_if_eqN (tgt := 14) dX1_readItem_6 (by decide) (by omega) (fun c6 => ?_) (fun c6 => ?_)
  · refine j_aload_n dX1_readItem_14 rfl ?_
    refine j_bipush (v := nI 101) dX1_readItem_15 (by decide +kernel) ?_
    refine j_callV (y' := mX1_takes) (As := [.int (nI 101)]) (st := []) dX1_readItem_17 lkX1_41 okX1_takes imX1_takes seX1_takes (Nat.le_of_ble_eq_true rfl) rfl rfl rfl rfl (Nat.le_of_ble_eq_true rfl) (Nat.le_of_ble_eq_true rfl) (c_takes z _ _ _ _ (nI 101) F3 A hC hR) (fun v17 F17 A17 hq17 => ?_)
    obtain ⟨rfl, hC, h40_17, a17, hR, r17, rfl, hb17⟩ := hq17
    have hRa := hR.2.2.1
    refine j_if_eqN (tgt := 34) dX1_readItem_20 (by decide) (by omega) (fun c20 => ?_) (fun c20 => ?_)
    · refine j_iconst (v := nI 0) dX1_readItem_34 (by decide +kernel) ?_
      exact j_iret dX1_readItem_35 rfl (by decide +kernel) ⟨hC, _, hR, _, rfl, by omega⟩
    · refine j_aload_n dX1_readItem_23 rfl ?_
      refine j_callV (y' := mX1_readTie) (As := []) (st := []) dX1_readItem_24 lkX1_48 okX1_readTie imX1_readTie seX1_readTie (Nat.le_of_ble_eq_true rfl) rfl rfl rfl rfl (Nat.le_of_ble_eq_true rfl) (Nat.le_of_ble_eq_true rfl) (c_readTie z _ _ _ _ F17 A hC hR) (fun v24 F24 A24 hq24 => ?_)
      obtain ⟨hC, a24, hR, r24, rfl, hb24⟩ := hq24
      refine j_if_eqN (tgt := 34) dX1_readItem_27 (by decide) (by omega) (fun c27 => ?_) (fun c27 => ?_)
      · refine j_iconst (v := nI 0) dX1_readItem_34 (by decide +kernel) ?_
        exact j_iret dX1_readItem_35 rfl (by decide +kernel) ⟨hC, _, hR, _, rfl, by omega⟩
      · refine j_iconst (v := nI 1) dX1_readItem_30 (by decide +kernel) ?_
        refine j_goto (tgt := 35) dX1_readItem_31 (by decide) ?_
        exact j_iret dX1_readItem_35 rfl (by decide +kernel) ⟨hC, _, hR, _, rfl, by omega⟩
  · refine j_aload_n dX1_readItem_9 rfl ?_
    refine j_callV (y' := mX1_readNode) (As := []) (st := []) dX1_readItem_10 lkX1_45 okX1_readNode imX1_readNode seX1_readNode (Nat.le_of_ble_eq_true rfl) rfl rfl rfl rfl (Nat.le_of_ble_eq_true rfl) (Nat.le_of_ble_eq_true rfl) (c_readNode z _ _ _ _ F3 A hC hR) (fun v10 F10 A10 hq10 => ?_)
    obtain ⟨hC, a10, hR, r10, rfl, hb10⟩ := hq10
    exact j_iret dX1_readItem_13 rfl (mj_nz (by omega)) ⟨hC, _, hR, _, rfl, by omega⟩

theorem min_T {T : Nat} (h : T ≤ 200) : mj_min (nI T) (nI 200) = nI T := by
  unfold mj_min
  rw [if_neg (nI_nlt h (by decide))]

set_option maxHeartbeats 400000 in
set_option maxRecDepth 100000 in
theorem c_read (z : mj_B) (d T : Nat) (F A : mj_S) (hC : CI T F A) : J (gC z) mX1_read (d + 4) 0 [(0, .ref 2), (1, .int (nI T))] [] F A (fun v F' A' => ∃ x, v = some (.int x) ∧ CI T F' A') := by
  have hT := hC.1.2
  have L28 : ∀ (fuel : Nat) (k : Nat) (a : Nat) (F A : mj_S), (CI T F A) → (RI T a F) → (k ≤ 200) → 200 - k < fuel → J (gC z) mX1_read (d + 4) 28 [(0, .ref 2), (2, .int (nI k))] [] F A (fun v F' A' => ∃ x, v = some (.int x) ∧ CI T F' A') := by
    intro fuel
    induction fuel with
    | zero => intro k a F A hC hR h1 hf; exact absurd hf (by omega)
    | succ fuel ih28 =>
      intro k a F A hC hR h1 hf
      have hRa := hR.2.2.1
      have hRl := hR.2.2.2
      refine j_iload_n dX1_read_28 rfl ?_
      refine j_sipush (v := nI 200) dX1_read_29 (by decide +kernel) ?_
      refine j_icmp_geN (tgt := 66) dX1_read_32 (by decide) (by omega) (by omega) (fun c32 => ?_) (fun c32 => ?_)
      · refine j_bipush (v := (-4)) dX1_read_66 (by decide +kernel) ?_
        exact j_iret dX1_read_68 rfl rfl ⟨_, rfl, hC⟩
      · refine j_aload_n dX1_read_35 rfl ?_
        refine j_getI dX1_read_36 flX1_29 (Nat.le_of_ble_eq_true rfl) rfl rfl ?_
        refine j_top (y0 := nI a) hR.2.1 ?_
        refine j_aload_n dX1_read_39 rfl ?_
        refine j_getI dX1_read_40 flX1_25 (Nat.le_of_ble_eq_true rfl) rfl rfl ?_
        refine j_top (y0 := nI T) hR.1 ?_
        refine j_icmp_geN (tgt := 66) dX1_read_43 (by decide) (by omega) (by omega) (fun c43 => ?_) (fun c43 => ?_)
        · refine j_bipush (v := (-4)) dX1_read_66 (by decide +kernel) ?_
          exact j_iret dX1_read_68 rfl rfl ⟨_, rfl, hC⟩
        · refine j_aload_n dX1_read_46 rfl ?_
          refine j_getI dX1_read_47 flX1_29 (Nat.le_of_ble_eq_true rfl) rfl rfl ?_
          refine j_top (y0 := nI a) hR.2.1 ?_
          refine j_istore_n (lv' := [(0, .ref 2), (2, .int (nI k)), (3, .int (nI a))]) dX1_read_50 (Nat.le_of_ble_eq_true rfl) rfl rfl ?_
          refine j_aload_n dX1_read_51 rfl ?_
          refine j_callV (y' := mX1_readItem) (As := []) (st := []) dX1_read_52 lkX1_37 okX1_readItem imX1_readItem seX1_readItem (Nat.le_of_ble_eq_true rfl) rfl rfl rfl rfl (Nat.le_of_ble_eq_true rfl) (Nat.le_of_ble_eq_true rfl) (c_readItem z _ _ _ _ F A hC hR) (fun v52 F52 A52 hq52 => ?_)
          obtain ⟨hC, a52, hR, r52, rfl, hb52⟩ := hq52
          refine j_if_neN (tgt := 60) dX1_read_55 (by decide) (by omega) (fun c55 => ?_) (fun c55 => ?_)
          · refine j_iinc (v := nI (k + 1)) (lv' := [(0, .ref 2), (2, .int (nI (k + 1))), (3, .int (nI a))]) dX1_read_60 rfl (nI_add _ 1) (Nat.le_of_ble_eq_true rfl) rfl rfl ?_
            refine j_goto (tgt := 28) dX1_read_63 (by decide) ?_
            refine j_sub [0, 1] rfl ?_
            exact ih28 (k + 1) a52 F52 A52 (by first | exact hC | omega) (by first | exact hR | omega) (by first | exact h1 | omega) (by omega)
          · refine j_iload_n dX1_read_58 rfl ?_
            exact j_iret dX1_read_59 rfl rfl ⟨_, rfl, hC⟩
  refine j_aload_n dX1_read_0 rfl ?_
  refine j_iload_n dX1_read_1 rfl ?_
  refine j_aload_n dX1_read_2 rfl ?_
  refine j_getR (r := 1) dX1_read_3 flX1_9 (Nat.le_of_ble_eq_true rfl) rfl rfl ?_
  refine j_alen (v := nI 200) dX1_read_6 (Nat.le_of_ble_eq_true rfl) rfl (by decide) rfl ?_
  refine j_min dX1_read_7 lkX1_19 mn_st mn_in mn_co (Nat.le_of_ble_eq_true rfl) ?_
  refine j_top (y0 := nI T) (min_T hC.1.2) ?_
  refine j_putI dX1_read_10 fpX1_25 (Nat.le_of_ble_eq_true rfl) rfl rfl ?_
  have hC := hC.f (k := 2) (s := 2) rfl (nI T)
  refine j_aload_n dX1_read_13 rfl ?_
  refine j_iconst (v := nI 0) dX1_read_14 (by decide +kernel) ?_
  refine j_putI dX1_read_15 fpX1_29 (Nat.le_of_ble_eq_true rfl) rfl rfl ?_
  have hC := hC.f (k := 2) (s := 3) rfl (nI 0)
  refine j_aload_n dX1_read_18 rfl ?_
  refine j_getR (r := 40) dX1_read_19 flX1_15 (Nat.le_of_ble_eq_true rfl) rfl rfl ?_
  refine j_iconst (v := nI 0) dX1_read_22 (by decide +kernel) ?_
  refine j_putI dX1_read_23 fpX1_32 (Nat.le_of_ble_eq_true rfl) rfl rfl ?_
  have hC := hC.nd n40 (n := 0) (by omega)
  have hR : RI T 0 (mj_u (mj_u (mj_u F 2 2 (nI T)) 2 3 (nI 0)) 40 0 (nI 0)) := ⟨rfl, rfl, by omega, hC.1.2⟩
  refine j_iconst (v := nI 0) dX1_read_26 (by decide +kernel) ?_
  refine j_istore_n (lv' := [(0, .ref 2), (1, .int (nI T)), (2, .int (nI 0))]) dX1_read_27 (Nat.le_of_ble_eq_true rfl) rfl rfl ?_
  refine j_sub [0, 2] rfl ?_
  exact L28 _ 0 0 (mj_u (mj_u (mj_u F 2 2 (nI T)) 2 3 (nI 0)) 40 0 (nI 0)) A (by first | exact hC | omega) (by first | exact hR | omega) (by first | exact h1 | omega) (Nat.lt_succ_self _)
