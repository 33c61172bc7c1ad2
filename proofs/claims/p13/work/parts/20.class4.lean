/-! the class: weights -/
theorem mb_bit (x : Int32) {u : Nat} (hu : u < 8) : ((x &&& (nI (2 ^ u) - nI 1)) >>> (nI u &&& 31)) &&& nI 1 = 0 := by
  have h1 : 1 ≤ 2 ^ u := Nat.one_le_two_pow
  have h2 := p2_8 hu
  rw [pk_sub h1, pk_and x u (by rw [pk_tn (by omega)])]
  have h3 : x.toBitVec.toNat % 2 ^ u < 2 ^ u := Nat.mod_lt _ (by omega)
  rw [bit_of (by omega) (by omega), Nat.div_eq_of_lt h3]
  exact nI_0

set_option maxHeartbeats 400000 in
set_option maxRecDepth 100000 in
theorem c_areTied18 (z : mj_B) (d : Nat) (T : Tg) (u : Nat) (hu : u < 8) (y : Int32) (F A : mj_S) (hC : CI T F A) : J (gC z) mX4_areTied (d + 1) 0 [(0, .ref 18), (1, .int (nI u)), (2, .int y)] [] F A (qN F A fun r => r ≤ 1 ∧ (r = 1 ↔ ¬ (A 20 u >>> (y &&& 31)) &&& nI 1 = 0)) := by
  refine j_aload_n dX4_areTied_0 rfl ?_
  refine j_getR (r := 20) dX4_areTied_1 flX4_15 (Nat.le_of_ble_eq_true rfl) rfl rfl ?_
  refine j_iload_n dX4_areTied_4 rfl ?_
  refine j_ialdN dX4_areTied_5 (Nat.le_of_ble_eq_true rfl) rfl (by omega) (by decide) ?_
  refine j_iload_n dX4_areTied_6 rfl ?_
  refine j_callSN (y' := mX5_hasBit) (As := [.int (A 20 u), .int y]) (st := []) dX4_areTied_7 lnX4_59 okX5_hasBit stX5_hasBit rfl (Nat.le_of_ble_eq_true rfl) (Nat.le_of_ble_eq_true rfl) (c_hasBit z _ (A 20 u) y F A) (fun v7 F7 A7 hq7 => ?_)
  obtain ⟨rfl, rfl, r7, rfl, hr7⟩ := hq7
  have hb7 : r7 ≤ 1 := hr7.1
  exact j_iret dX4_areTied_10 rfl (mj_nz hb7) ⟨rfl, rfl, _, rfl, hr7⟩

set_option maxHeartbeats 400000 in
set_option maxRecDepth 100000 in
theorem c_costAt18 (z : mj_B) (d : Nat) (T : Tg) (u i : Nat) (hu : u < 8) (hi : i < 4) (F A : mj_S) (hC : CI T F A) : J (gC z) mX4_costAt (d + 1) 0 [(0, .ref 18), (1, .int (nI u)), (2, .int (nI i))] [] F A (qP F A fun _ => True) := by
  refine j_aload_n dX4_costAt_0 rfl ?_
  refine j_getR (r := 21) dX4_costAt_1 flX4_18 (Nat.le_of_ble_eq_true rfl) rfl rfl ?_
  refine j_iload_n dX4_costAt_4 rfl ?_
  refine j_iload_n dX4_costAt_5 rfl ?_
  refine j_callSN (y' := mX5_choicePlace) (As := [.int (nI u), .int (nI i)]) (st := [.ref 21]) dX4_costAt_6 lnX4_37 okX5_choicePlace stX5_choicePlace rfl (Nat.le_of_ble_eq_true rfl) (Nat.le_of_ble_eq_true rfl) (c_choicePlace z _ u i F A) (fun v6 F6 A6 hq6 => ?_)
  obtain ⟨rfl, rfl, r6, rfl, hr6⟩ := hq6
  refine j_ialdN dX4_costAt_9 (Nat.le_of_ble_eq_true rfl) rfl (by omega) (by decide) ?_
  exact j_iret dX4_costAt_10 rfl rfl ⟨rfl, rfl, _, rfl, trivial⟩

set_option maxHeartbeats 400000 in
set_option maxRecDepth 100000 in
theorem c_entryAt18 (z : mj_B) (d : Nat) (T : Tg) (u v i j : Nat) (hu : u < 8) (hv : v < 8) (huv : u ≠ v) (hi : i < 4) (hj : j < 4) (F A : mj_S) (hC : CI T F A) : J (gC z) mX4_entryAt (d + 1) 0 [(0, .ref 18), (1, .int (nI u)), (2, .int (nI v)), (3, .int (nI i)), (4, .int (nI j))] [] F A (qP F A fun _ => True) := by
  refine j_aload_n dX4_entryAt_0 rfl ?_
  refine j_getR (r := 22) dX4_entryAt_1 flX4_21 (Nat.le_of_ble_eq_true rfl) rfl rfl ?_
  refine j_iload_n dX4_entryAt_4 rfl ?_
  refine j_iload_n dX4_entryAt_5 rfl ?_
  refine j_iload_n dX4_entryAt_6 rfl ?_
  refine j_iload dX4_entryAt_7 rfl ?_
  refine j_callSN (y' := mX5_entryPlace) (As := [.int (nI u), .int (nI v), .int (nI i), .int (nI j)]) (st := [.ref 22]) dX4_entryAt_9 lnX4_52 okX5_entryPlace stX5_entryPlace rfl (Nat.le_of_ble_eq_true rfl) (Nat.le_of_ble_eq_true rfl) (c_entryPlace z _ u v i j (by omega) (by omega) (by omega) F A) (fun v9 F9 A9 hq9 => ?_)
  obtain ⟨rfl, rfl, e9, rfl, he9⟩ := hq9
  have hl9 : e9 < 448 := by rw [he9]; exact eP_lt (by omega) (by omega) (by omega) (by omega) (by omega)
  refine j_ialdN dX4_entryAt_12 (Nat.le_of_ble_eq_true rfl) rfl (by omega) (by decide) ?_
  exact j_iret dX4_entryAt_13 rfl rfl ⟨rfl, rfl, _, rfl, trivial⟩

set_option maxHeartbeats 400000 in
set_option maxRecDepth 100000 in
theorem c_leastCost18 (z : mj_B) (d : Nat) (T : Tg) (u : Nat) (hu : u < 8) (F A : mj_S) (hC : CI T F A) : J (gC z) mX4_leastCost (d + 2) 0 [(0, .ref 18), (1, .int (nI u))] [] F A (qP F A fun _ => True) := by
  have L5 : ∀ (fuel : Nat) (le : Int32) (i : Nat), (i ≤ 4) → 4 - i < fuel → J (gC z) mX4_leastCost (d + 2) 5 [(0, .ref 18), (1, .int (nI u)), (2, .int le), (3, .int (nI i))] [] F A (qP F A fun _ => True) := by
    intro fuel
    induction fuel with
    | zero => intro le i h1 hf; exact absurd hf (by omega)
    | succ fuel ih5 =>
      intro le i h1 hf
      refine j_iload_n dX4_leastCost_5 rfl ?_
      refine j_aload_n dX4_leastCost_6 rfl ?_
      refine j_getR (r := 19) dX4_leastCost_7 flX4_9 (Nat.le_of_ble_eq_true rfl) rfl rfl ?_
      refine j_iload_n dX4_leastCost_10 rfl ?_
      refine j_ialdN dX4_leastCost_11 (Nat.le_of_ble_eq_true rfl) rfl (by omega) (by decide) ?_
      obtain ⟨t1, ht1, et1⟩ := (hC.2.2.2.1 18 n18).2 u (by omega)
      refine j_top (y0 := nI t1) et1 ?_
      refine j_icmp_geN (tgt := 32) dX4_leastCost_12 (by decide) (by omega) (by omega) (fun c12 => ?_) (fun c12 => ?_)
      · refine j_iload_n dX4_leastCost_32 rfl ?_
        exact j_iret dX4_leastCost_33 rfl rfl ⟨rfl, rfl, _, rfl, trivial⟩
      · refine j_iload_n dX4_leastCost_15 rfl ?_
        refine j_aload_n dX4_leastCost_16 rfl ?_
        refine j_iload_n dX4_leastCost_17 rfl ?_
        refine j_iload_n dX4_leastCost_18 rfl ?_
        refine j_callV (y' := mX4_costAt) (As := [.int (nI u), .int (nI i)]) (st := [.int le]) dX4_leastCost_19 lkX4_79 okX4_costAt imX4_costAt seX4_costAt (Nat.le_of_ble_eq_true rfl) rfl rfl rfl rfl (Nat.le_of_ble_eq_true rfl) (Nat.le_of_ble_eq_true rfl) (c_costAt18 z _ _ u i (by omega) (by omega) F A hC) (fun v19 F19 A19 hq19 => ?_)
        obtain ⟨rfl, rfl, r19, rfl, hr19⟩ := hq19
        refine j_min dX4_leastCost_22 lkX4_74 mn_st mn_in mn_co (Nat.le_of_ble_eq_true rfl) ?_
        refine j_istore_n (lv' := [(0, .ref 18), (1, .int (nI u)), (2, .int (mj_min le r19)), (3, .int (nI i))]) dX4_leastCost_25 (Nat.le_of_ble_eq_true rfl) rfl rfl ?_
        refine j_iinc (v := nI (i + 1)) (lv' := [(0, .ref 18), (1, .int (nI u)), (2, .int (mj_min le r19)), (3, .int (nI (i + 1)))]) dX4_leastCost_26 rfl (nI_add _ 1) (Nat.le_of_ble_eq_true rfl) rfl rfl ?_
        refine j_goto (tgt := 5) dX4_leastCost_29 (by decide) ?_
        exact ih5 (mj_min le r19) (i + 1) (by first | exact h1 | omega) (by omega)
  refine j_ldc dX4_leastCost_0 kcX4_66 ?_
  refine j_istore_n (lv' := [(0, .ref 18), (1, .int (nI u)), (2, .int 1000000)]) dX4_leastCost_2 (Nat.le_of_ble_eq_true rfl) rfl rfl ?_
  refine j_iconst (v := nI 0) dX4_leastCost_3 (by decide +kernel) ?_
  refine j_istore_n (lv' := [(0, .ref 18), (1, .int (nI u)), (2, .int 1000000), (3, .int (nI 0))]) dX4_leastCost_4 (Nat.le_of_ble_eq_true rfl) rfl rfl ?_
  exact L5 _ 1000000 0 (by first | exact h1 | omega) (Nat.lt_succ_self _)

set_option maxHeartbeats 400000 in
set_option maxRecDepth 100000 in
theorem c_matesBelow18 (z : mj_B) (d : Nat) (T : Tg) (u : Nat) (hu : u < 8) (F A : mj_S) (hC : CI T F A) : J (gC z) mX4_matesBelow d 0 [(0, .ref 18), (1, .int (nI u))] [] F A (qP F A fun r => (r >>> (nI u &&& 31)) &&& nI 1 = 0) := by
  refine j_aload_n dX4_matesBelow_0 rfl ?_
  refine j_getR (r := 20) dX4_matesBelow_1 flX4_15 (Nat.le_of_ble_eq_true rfl) rfl rfl ?_
  refine j_iload_n dX4_matesBelow_4 rfl ?_
  refine j_ialdN dX4_matesBelow_5 (Nat.le_of_ble_eq_true rfl) rfl (by omega) (by decide) ?_
  refine j_iconst (v := nI 1) dX4_matesBelow_6 (by decide +kernel) ?_
  refine j_iload_n dX4_matesBelow_7 rfl ?_
  refine j_ishl dX4_matesBelow_8 ?_
  refine j_iconst (v := nI 1) dX4_matesBelow_9 (by decide +kernel) ?_
  refine j_isub dX4_matesBelow_10 ?_
  refine j_top (y0 := ((nI 1) <<< ((nI u) &&& 31)) - (nI 1)) rfl ?_
  refine j_iand dX4_matesBelow_11 ?_
  exact j_iret dX4_matesBelow_12 rfl rfl ⟨rfl, rfl, _, rfl, by rw [shl_1 hu]; exact mb_bit _ hu⟩

set_option maxHeartbeats 400000 in
set_option maxRecDepth 100000 in
theorem c_weighTable18 (z : mj_B) (d : Nat) (T : Tg) (u v : Nat) (hu : u < 8) (hv : v < 8) (huv : u ≠ v) (F A : mj_S) (hC : CI T F A) : J (gC z) mX4_weighTable (d + 2) 0 [(0, .ref 18), (1, .ref 33), (2, .int (nI u)), (3, .int (nI v))] [] F A (fun v F' A' => v = none ∧ F = F' ∧ CI T F A') := by
  have L3 : ∀ (fuel : Nat) (i : Nat) (A : mj_S), (CI T F A) → (i ≤ 4) → 4 - i < fuel → J (gC z) mX4_weighTable (d + 2) 3 [(0, .ref 18), (1, .ref 33), (2, .int (nI u)), (3, .int (nI v)), (4, .int (nI i))] [] F A (fun v F' A' => v = none ∧ F = F' ∧ CI T F A') := by
    intro fuel
    induction fuel with
    | zero => intro i A hC h1 hf; exact absurd hf (by omega)
    | succ fuel ih3 =>
      intro i A hC h1 hf
      refine j_iload dX4_weighTable_3 rfl ?_
      refine j_aload_n dX4_weighTable_5 rfl ?_
      refine j_getR (r := 19) dX4_weighTable_6 flX4_9 (Nat.le_of_ble_eq_true rfl) rfl rfl ?_
      refine j_iload_n dX4_weighTable_9 rfl ?_
      refine j_ialdN dX4_weighTable_10 (Nat.le_of_ble_eq_true rfl) rfl (by omega) (by decide) ?_
      obtain ⟨t1, ht1, et1⟩ := (hC.2.2.2.1 18 n18).2 u (by omega)
      refine j_top (y0 := nI t1) et1 ?_
      refine j_icmp_geN (tgt := 64) dX4_weighTable_11 (by decide) (by omega) (by omega) (fun c11 => ?_) (fun c11 => ?_)
      · exact j_vret dX4_weighTable_64 rfl ⟨rfl, rfl, hC⟩
      · have L17 : ∀ (fuel : Nat) (j : Nat) (A : mj_S), (CI T F A) → (j ≤ 4) → 4 - j < fuel → J (gC z) mX4_weighTable (d + 2) 17 [(0, .ref 18), (1, .ref 33), (2, .int (nI u)), (3, .int (nI v)), (4, .int (nI i)), (5, .int (nI j))] [] F A (fun v F' A' => v = none ∧ F = F' ∧ CI T F A') := by
          intro fuel
          induction fuel with
          | zero => intro j A hC h2 hf; exact absurd hf (by omega)
          | succ fuel ih17 =>
            intro j A hC h2 hf
            refine j_iload dX4_weighTable_17 rfl ?_
            refine j_aload_n dX4_weighTable_19 rfl ?_
            refine j_getR (r := 19) dX4_weighTable_20 flX4_9 (Nat.le_of_ble_eq_true rfl) rfl rfl ?_
            refine j_iload_n dX4_weighTable_23 rfl ?_
            refine j_ialdN dX4_weighTable_24 (Nat.le_of_ble_eq_true rfl) rfl (by omega) (by decide) ?_
            obtain ⟨t2, ht2, et2⟩ := (hC.2.2.2.1 18 n18).2 v (by omega)
            refine j_top (y0 := nI t2) et2 ?_
            refine j_icmp_geN (tgt := 58) dX4_weighTable_25 (by decide) (by omega) (by omega) (fun c25 => ?_) (fun c25 => ?_)
            · refine j_iinc (v := nI (i + 1)) (lv' := [(0, .ref 18), (1, .ref 33), (2, .int (nI u)), (3, .int (nI v)), (4, .int (nI (i + 1))), (5, .int (nI j))]) dX4_weighTable_58 rfl (nI_add _ 1) (Nat.le_of_ble_eq_true rfl) rfl rfl ?_
              refine j_goto (tgt := 3) dX4_weighTable_61 (by decide) ?_
              refine j_sub [0, 1, 2, 3, 4] rfl ?_
              exact ih3 (i + 1) A (by first | exact hC | omega) (by first | exact h1 | omega) (by omega)
            · refine j_aload_n dX4_weighTable_28 rfl ?_
              refine j_getR (r := 22) dX4_weighTable_29 flX4_21 (Nat.le_of_ble_eq_true rfl) rfl rfl ?_
              refine j_iload_n dX4_weighTable_32 rfl ?_
              refine j_iload_n dX4_weighTable_33 rfl ?_
              refine j_iload dX4_weighTable_34 rfl ?_
              refine j_iload dX4_weighTable_36 rfl ?_
              refine j_callSN (y' := mX5_entryPlace) (As := [.int (nI u), .int (nI v), .int (nI i), .int (nI j)]) (st := [.ref 22]) dX4_weighTable_38 lnX4_52 okX5_entryPlace stX5_entryPlace rfl (Nat.le_of_ble_eq_true rfl) (Nat.le_of_ble_eq_true rfl) (c_entryPlace z _ u v i j (by omega) (by omega) (by omega) F A) (fun v38 F38 A38 hq38 => ?_)
              obtain ⟨rfl, rfl, e38, rfl, he38⟩ := hq38
              have hl38 : e38 < 448 := by rw [he38]; exact eP_lt (by omega) (by omega) (by omega) (by omega) (by omega)
              refine j_aload_n dX4_weighTable_41 rfl ?_
              refine j_iload_n dX4_weighTable_42 rfl ?_
              refine j_iload_n dX4_weighTable_43 rfl ?_
              refine j_iload dX4_weighTable_44 rfl ?_
              refine j_iload dX4_weighTable_46 rfl ?_
              refine j_callV (y' := mX0_tieCost) (As := [.int (nI u), .int (nI v), .int (nI i), .int (nI j)]) (st := [.int (nI e38), .ref 22]) dX4_weighTable_48 lkX4_56 okX0_tieCost imX0_tieCost seX0_tieCost (Nat.le_of_ble_eq_true rfl) rfl rfl rfl rfl (Nat.le_of_ble_eq_true rfl) (Nat.le_of_ble_eq_true rfl) (c_tieCost z _ u v i j (by omega) (by omega) (by omega) (by omega) (by omega) F A) (fun v48 F48 A48 hq48 => ?_)
              obtain ⟨rfl, rfl, r48, rfl, hr48⟩ := hq48
              refine j_iastN dX4_weighTable_51 (Nat.le_of_ble_eq_true rfl) rfl (by omega) (by decide) ?_
              have hC := hC.u (k := 22) rfl e38 r48
              refine j_iinc (v := nI (j + 1)) (lv' := [(0, .ref 18), (1, .ref 33), (2, .int (nI u)), (3, .int (nI v)), (4, .int (nI i)), (5, .int (nI (j + 1)))]) dX4_weighTable_52 rfl (nI_add _ 1) (Nat.le_of_ble_eq_true rfl) rfl rfl ?_
              refine j_goto (tgt := 17) dX4_weighTable_55 (by decide) ?_
              exact ih17 (j + 1) (mj_u A 22 e38 r48) (by first | exact hC | omega) (by first | exact h2 | omega) (by omega)
        refine j_iconst (v := nI 0) dX4_weighTable_14 (by decide +kernel) ?_
        refine j_istore (lv' := [(0, .ref 18), (1, .ref 33), (2, .int (nI u)), (3, .int (nI v)), (4, .int (nI i)), (5, .int (nI 0))]) dX4_weighTable_15 (Nat.le_of_ble_eq_true rfl) rfl rfl ?_
        exact L17 _ 0 A (by first | exact hC | omega) (by first | exact h2 | omega) (Nat.lt_succ_self _)
  refine j_iconst (v := nI 0) dX4_weighTable_0 (by decide +kernel) ?_
  refine j_istore (lv' := [(0, .ref 18), (1, .ref 33), (2, .int (nI u)), (3, .int (nI v)), (4, .int (nI 0))]) dX4_weighTable_1 (Nat.le_of_ble_eq_true rfl) rfl rfl ?_
  exact L3 _ 0 A (by first | exact hC | omega) (by first | exact h1 | omega) (Nat.lt_succ_self _)

set_option maxHeartbeats 400000 in
set_option maxRecDepth 100000 in
theorem c_weigh18 (z : mj_B) (d : Nat) (T : Tg) (F A : mj_S) (hC : CI T F A) : J (gC z) mX4_weigh (d + 3) 0 [(0, .ref 18), (1, .ref 33)] [] F A (fun v F' A' => ∃ n, v = none ∧ n ≤ 8 ∧ mj_u F 18 0 (nI n) = F' ∧ CI T F' A') := by
  refine j_aload_n dX4_weigh_0 rfl ?_
  refine j_aload_n dX4_weigh_1 rfl ?_
  obtain ⟨n, hn, en⟩ := (hC.2.2.2.1 33 n33).1
  refine j_getI dX4_weigh_2 flX4_24 (Nat.le_of_ble_eq_true rfl) rfl rfl ?_
  refine j_top (y0 := nI n) en ?_
  refine j_putI dX4_weigh_5 fpX4_30 (Nat.le_of_ble_eq_true rfl) rfl rfl ?_
  have hC := hC.nd n18 hn
  obtain ⟨F1, hF1⟩ : ∃ F1, F1 = mj_u F 18 0 (nI n) := ⟨_, rfl⟩
  rw [← hF1] at hC ⊢
  have en1 : F1 18 0 = nI n := by rw [hF1]; rfl
  refine j_aload_n dX4_weigh_8 rfl ?_
  refine j_getR (r := 34) dX4_weigh_9 flX4_31 (Nat.le_of_ble_eq_true rfl) rfl rfl ?_
  refine j_aload_n dX4_weigh_12 rfl ?_
  refine j_getR (r := 19) dX4_weigh_13 flX4_9 (Nat.le_of_ble_eq_true rfl) rfl rfl ?_
  refine j_callSN (y' := mX5_copyRow) (As := [.ref 34, .ref 19]) (st := []) dX4_weigh_16 lnX4_32 okX5_copyRow stX5_copyRow rfl (Nat.le_of_ble_eq_true rfl) (Nat.le_of_ble_eq_true rfl) (c_copyRow z _ 34 19 8 (by decide) (Nat.le_of_ble_eq_true rfl) rfl (Nat.le_of_ble_eq_true rfl) rfl F1 A) (fun v16 F16 A16 hq16 => ?_)
  obtain ⟨rfl, rfl, rfl⟩ := hq16
  have hC := hC.ch n18 (f := va_cpy (A 34) (A 19) 0 0 8) (rg_cpy (hC.2.2.2.1 33 n33).2)
  refine j_aload_n dX4_weigh_19 rfl ?_
  refine j_getR (r := 37) dX4_weigh_20 flX4_36 (Nat.le_of_ble_eq_true rfl) rfl rfl ?_
  refine j_aload_n dX4_weigh_23 rfl ?_
  refine j_getR (r := 20) dX4_weigh_24 flX4_15 (Nat.le_of_ble_eq_true rfl) rfl rfl ?_
  refine j_callSN (y' := mX5_copyRow) (As := [.ref 37, .ref 20]) (st := []) dX4_weigh_27 lnX4_32 okX5_copyRow stX5_copyRow rfl (Nat.le_of_ble_eq_true rfl) (Nat.le_of_ble_eq_true rfl) (c_copyRow z _ 37 20 8 (by decide) (Nat.le_of_ble_eq_true rfl) rfl (Nat.le_of_ble_eq_true rfl) rfl F1 (mj_a A 19 (va_cpy (A 34) (A 19) 0 0 8))) (fun v27 F27 A27 hq27 => ?_)
  obtain ⟨rfl, rfl, rfl⟩ := hq27
  have hC := hC.a (k := 20) rfl (va_cpy ((mj_a A 19 (va_cpy (A 34) (A 19) 0 0 8)) 37) ((mj_a A 19 (va_cpy (A 34) (A 19) 0 0 8)) 20) 0 0 8)
  have L32 : ∀ (fuel : Nat) (u : Nat) (A : mj_S), (CI T F1 A) → (u ≤ n) → n - u < fuel → J (gC z) mX4_weigh (d + 3) 32 [(0, .ref 18), (1, .ref 33), (2, .int (nI u))] [] F1 A (fun v F' A' => ∃ n, v = none ∧ n ≤ 8 ∧ mj_u F 18 0 (nI n) = F' ∧ CI T F' A') := by
    intro fuel
    induction fuel with
    | zero => intro u A hC h1 hf; exact absurd hf (by omega)
    | succ fuel ih32 =>
      intro u A hC h1 hf
      refine j_iload_n dX4_weigh_32 rfl ?_
      refine j_aload_n dX4_weigh_33 rfl ?_
      refine j_getI dX4_weigh_34 flX4_30 (Nat.le_of_ble_eq_true rfl) rfl rfl ?_
      refine j_top (y0 := nI n) en1 ?_
      refine j_icmp_geN (tgt := 109) dX4_weigh_37 (by decide) (by omega) (by omega) (fun c37 => ?_) (fun c37 => ?_)
      · exact j_vret dX4_weigh_109 rfl ⟨n, rfl, hn, hF1.symm, hC⟩
      · have L76 : ∀ (fuel : Nat) (v : Nat) (A : mj_S), (CI T F1 A) → (v ≤ u) → u - v < fuel → J (gC z) mX4_weigh (d + 3) 76 [(0, .ref 18), (1, .ref 33), (2, .int (nI u)), (3, .int (nI v))] [] F1 A (fun v F' A' => ∃ n, v = none ∧ n ≤ 8 ∧ mj_u F 18 0 (nI n) = F' ∧ CI T F' A') := by
          intro fuel
          induction fuel with
          | zero => intro v A hC h2 hf; exact absurd hf (by omega)
          | succ fuel ih76 =>
            intro v A hC h2 hf
            refine j_iload_n dX4_weigh_76 rfl ?_
            refine j_iload_n dX4_weigh_77 rfl ?_
            refine j_icmp_geN (tgt := 103) dX4_weigh_78 (by decide) (by omega) (by omega) (fun c78 => ?_) (fun c78 => ?_)
            · refine j_iinc (v := nI (u + 1)) (lv' := [(0, .ref 18), (1, .ref 33), (2, .int (nI (u + 1))), (3, .int (nI v))]) dX4_weigh_103 rfl (nI_add _ 1) (Nat.le_of_ble_eq_true rfl) rfl rfl ?_
              refine j_goto (tgt := 32) dX4_weigh_106 (by decide) ?_
              refine j_sub [0, 1, 2] rfl ?_
              exact ih32 (u + 1) A (by first | exact hC | omega) (by first | exact h1 | omega) (by omega)
            · refine j_aload_n dX4_weigh_81 rfl ?_
              refine j_iload_n dX4_weigh_82 rfl ?_
              refine j_iload_n dX4_weigh_83 rfl ?_
              refine j_callV (y' := mX4_areTied) (As := [.int (nI u), .int (nI v)]) (st := []) dX4_weigh_84 lkX4_44 okX4_areTied imX4_areTied seX4_areTied (Nat.le_of_ble_eq_true rfl) rfl rfl rfl rfl (Nat.le_of_ble_eq_true rfl) (Nat.le_of_ble_eq_true rfl) (c_areTied18 z _ _ u (by omega) (nI v) F1 A hC) (fun v84 F84 A84 hq84 => ?_)
              obtain ⟨rfl, rfl, r84, rfl, hr84⟩ := hq84
              refine j_if_eqN (tgt := 97) dX4_weigh_87 (by decide) (by omega) (fun c87 => ?_) (fun c87 => ?_)
              · refine j_iinc (v := nI (v + 1)) (lv' := [(0, .ref 18), (1, .ref 33), (2, .int (nI u)), (3, .int (nI (v + 1)))]) dX4_weigh_97 rfl (nI_add _ 1) (Nat.le_of_ble_eq_true rfl) rfl rfl ?_
                refine j_goto (tgt := 76) dX4_weigh_100 (by decide) ?_
                exact ih76 (v + 1) A (by first | exact hC | omega) (by first | exact h2 | omega) (by omega)
              · refine j_aload_n dX4_weigh_90 rfl ?_
                refine j_aload_n dX4_weigh_91 rfl ?_
                refine j_iload_n dX4_weigh_92 rfl ?_
                refine j_iload_n dX4_weigh_93 rfl ?_
                refine j_callV (y' := mX4_weighTable) (As := [.ref 33, .int (nI u), .int (nI v)]) (st := []) dX4_weigh_94 lkX4_48 okX4_weighTable imX4_weighTable seX4_weighTable (Nat.le_of_ble_eq_true rfl) rfl rfl rfl rfl (Nat.le_of_ble_eq_true rfl) (Nat.le_of_ble_eq_true rfl) (c_weighTable18 z _ _ u v (by omega) (by omega) (by omega) F1 A hC) (fun v94 F94 A94 hq94 => ?_)
                obtain ⟨rfl, rfl, hC⟩ := hq94
                refine j_iinc (v := nI (v + 1)) (lv' := [(0, .ref 18), (1, .ref 33), (2, .int (nI u)), (3, .int (nI (v + 1)))]) dX4_weigh_97 rfl (nI_add _ 1) (Nat.le_of_ble_eq_true rfl) rfl rfl ?_
                refine j_goto (tgt := 76) dX4_weigh_100 (by decide) ?_
                exact ih76 (v + 1) A94 (by first | exact hC | omega) (by first | exact h2 | omega) (by omega)
        have L42 : ∀ (fuel : Nat) (i : Nat) (A : mj_S), (CI T F1 A) → (i ≤ 4) → 4 - i < fuel → J (gC z) mX4_weigh (d + 3) 42 [(0, .ref 18), (1, .ref 33), (2, .int (nI u)), (3, .int (nI i))] [] F1 A (fun v F' A' => ∃ n, v = none ∧ n ≤ 8 ∧ mj_u F 18 0 (nI n) = F' ∧ CI T F' A') := by
          intro fuel
          induction fuel with
          | zero => intro i A hC h2 hf; exact absurd hf (by omega)
          | succ fuel ih42 =>
            intro i A hC h2 hf
            refine j_iload_n dX4_weigh_42 rfl ?_
            refine j_aload_n dX4_weigh_43 rfl ?_
            refine j_getR (r := 19) dX4_weigh_44 flX4_9 (Nat.le_of_ble_eq_true rfl) rfl rfl ?_
            refine j_iload_n dX4_weigh_47 rfl ?_
            refine j_ialdN dX4_weigh_48 (Nat.le_of_ble_eq_true rfl) rfl (by omega) (by decide) ?_
            obtain ⟨t1, ht1, et1⟩ := (hC.2.2.2.1 18 n18).2 u (by omega)
            refine j_top (y0 := nI t1) et1 ?_
            refine j_icmp_geN (tgt := 74) dX4_weigh_49 (by decide) (by omega) (by omega) (fun c49 => ?_) (fun c49 => ?_)
            · refine j_iconst (v := nI 0) dX4_weigh_74 (by decide +kernel) ?_
              refine j_istore_n (lv' := [(0, .ref 18), (1, .ref 33), (2, .int (nI u)), (3, .int (nI 0))]) dX4_weigh_75 (Nat.le_of_ble_eq_true rfl) rfl rfl ?_
              exact L76 _ 0 A (by first | exact hC | omega) (by first | exact h2 | omega) (Nat.lt_succ_self _)
            · refine j_aload_n dX4_weigh_52 rfl ?_
              refine j_getR (r := 21) dX4_weigh_53 flX4_18 (Nat.le_of_ble_eq_true rfl) rfl rfl ?_
              refine j_iload_n dX4_weigh_56 rfl ?_
              refine j_iload_n dX4_weigh_57 rfl ?_
              refine j_callSN (y' := mX5_choicePlace) (As := [.int (nI u), .int (nI i)]) (st := [.ref 21]) dX4_weigh_58 lnX4_37 okX5_choicePlace stX5_choicePlace rfl (Nat.le_of_ble_eq_true rfl) (Nat.le_of_ble_eq_true rfl) (c_choicePlace z _ u i F1 A) (fun v58 F58 A58 hq58 => ?_)
              obtain ⟨rfl, rfl, r58, rfl, hr58⟩ := hq58
              refine j_aload_n dX4_weigh_61 rfl ?_
              refine j_iload_n dX4_weigh_62 rfl ?_
              refine j_iload_n dX4_weigh_63 rfl ?_
              refine j_callV (y' := mX0_choiceCost) (As := [.int (nI u), .int (nI i)]) (st := [.int (nI r58), .ref 21]) dX4_weigh_64 lkX4_41 okX0_choiceCost imX0_choiceCost seX0_choiceCost (Nat.le_of_ble_eq_true rfl) rfl rfl rfl rfl (Nat.le_of_ble_eq_true rfl) (Nat.le_of_ble_eq_true rfl) (c_choiceCost z _ u i (by omega) (by omega) F1 A) (fun v64 F64 A64 hq64 => ?_)
              obtain ⟨rfl, rfl, r64, rfl, hr64⟩ := hq64
              refine j_iastN dX4_weigh_67 (Nat.le_of_ble_eq_true rfl) rfl (by omega) (by decide) ?_
              have hC := hC.u (k := 21) rfl r58 r64
              refine j_iinc (v := nI (i + 1)) (lv' := [(0, .ref 18), (1, .ref 33), (2, .int (nI u)), (3, .int (nI (i + 1)))]) dX4_weigh_68 rfl (nI_add _ 1) (Nat.le_of_ble_eq_true rfl) rfl rfl ?_
              refine j_goto (tgt := 42) dX4_weigh_71 (by decide) ?_
              exact ih42 (i + 1) (mj_u A 21 r58 r64) (by first | exact hC | omega) (by first | exact h2 | omega) (by omega)
        refine j_iconst (v := nI 0) dX4_weigh_40 (by decide +kernel) ?_
        refine j_istore_n (lv' := [(0, .ref 18), (1, .ref 33), (2, .int (nI u)), (3, .int (nI 0))]) dX4_weigh_41 (Nat.le_of_ble_eq_true rfl) rfl rfl ?_
        exact L42 _ 0 A (by first | exact hC | omega) (by first | exact h2 | omega) (Nat.lt_succ_self _)
  refine j_iconst (v := nI 0) dX4_weigh_30 (by decide +kernel) ?_
  refine j_istore_n (lv' := [(0, .ref 18), (1, .ref 33), (2, .int (nI 0))]) dX4_weigh_31 (Nat.le_of_ble_eq_true rfl) rfl rfl ?_
  exact L32 _ 0 (mj_a (mj_a A 19 (va_cpy (A 34) (A 19) 0 0 8)) 20 (va_cpy ((mj_a A 19 (va_cpy (A 34) (A 19) 0 0 8)) 37) ((mj_a A 19 (va_cpy (A 34) (A 19) 0 0 8)) 20) 0 0 8)) (by first | exact hC | omega) (by first | exact h1 | omega) (Nat.lt_succ_self _)

set_option maxHeartbeats 400000 in
set_option maxRecDepth 100000 in
theorem c_areTied23 (z : mj_B) (d : Nat) (T : Tg) (u : Nat) (hu : u < 8) (y : Int32) (F A : mj_S) (hC : CI T F A) : J (gC z) mX4_areTied (d + 1) 0 [(0, .ref 23), (1, .int (nI u)), (2, .int y)] [] F A (qN F A fun r => r ≤ 1 ∧ (r = 1 ↔ ¬ (A 25 u >>> (y &&& 31)) &&& nI 1 = 0)) := by
  refine j_aload_n dX4_areTied_0 rfl ?_
  refine j_getR (r := 25) dX4_areTied_1 flX4_15 (Nat.le_of_ble_eq_true rfl) rfl rfl ?_
  refine j_iload_n dX4_areTied_4 rfl ?_
  refine j_ialdN dX4_areTied_5 (Nat.le_of_ble_eq_true rfl) rfl (by omega) (by decide) ?_
  refine j_iload_n dX4_areTied_6 rfl ?_
  refine j_callSN (y' := mX5_hasBit) (As := [.int (A 25 u), .int y]) (st := []) dX4_areTied_7 lnX4_59 okX5_hasBit stX5_hasBit rfl (Nat.le_of_ble_eq_true rfl) (Nat.le_of_ble_eq_true rfl) (c_hasBit z _ (A 25 u) y F A) (fun v7 F7 A7 hq7 => ?_)
  obtain ⟨rfl, rfl, r7, rfl, hr7⟩ := hq7
  have hb7 : r7 ≤ 1 := hr7.1
  exact j_iret dX4_areTied_10 rfl (mj_nz hb7) ⟨rfl, rfl, _, rfl, hr7⟩

set_option maxHeartbeats 400000 in
set_option maxRecDepth 100000 in
theorem c_costAt23 (z : mj_B) (d : Nat) (T : Tg) (u i : Nat) (hu : u < 8) (hi : i < 4) (F A : mj_S) (hC : CI T F A) : J (gC z) mX4_costAt (d + 1) 0 [(0, .ref 23), (1, .int (nI u)), (2, .int (nI i))] [] F A (qP F A fun _ => True) := by
  refine j_aload_n dX4_costAt_0 rfl ?_
  refine j_getR (r := 26) dX4_costAt_1 flX4_18 (Nat.le_of_ble_eq_true rfl) rfl rfl ?_
  refine j_iload_n dX4_costAt_4 rfl ?_
  refine j_iload_n dX4_costAt_5 rfl ?_
  refine j_callSN (y' := mX5_choicePlace) (As := [.int (nI u), .int (nI i)]) (st := [.ref 26]) dX4_costAt_6 lnX4_37 okX5_choicePlace stX5_choicePlace rfl (Nat.le_of_ble_eq_true rfl) (Nat.le_of_ble_eq_true rfl) (c_choicePlace z _ u i F A) (fun v6 F6 A6 hq6 => ?_)
  obtain ⟨rfl, rfl, r6, rfl, hr6⟩ := hq6
  refine j_ialdN dX4_costAt_9 (Nat.le_of_ble_eq_true rfl) rfl (by omega) (by decide) ?_
  exact j_iret dX4_costAt_10 rfl rfl ⟨rfl, rfl, _, rfl, trivial⟩

set_option maxHeartbeats 400000 in
set_option maxRecDepth 100000 in
theorem c_entryAt23 (z : mj_B) (d : Nat) (T : Tg) (u v i j : Nat) (hu : u < 8) (hv : v < 8) (huv : u ≠ v) (hi : i < 4) (hj : j < 4) (F A : mj_S) (hC : CI T F A) : J (gC z) mX4_entryAt (d + 1) 0 [(0, .ref 23), (1, .int (nI u)), (2, .int (nI v)), (3, .int (nI i)), (4, .int (nI j))] [] F A (qP F A fun _ => True) := by
  refine j_aload_n dX4_entryAt_0 rfl ?_
  refine j_getR (r := 27) dX4_entryAt_1 flX4_21 (Nat.le_of_ble_eq_true rfl) rfl rfl ?_
  refine j_iload_n dX4_entryAt_4 rfl ?_
  refine j_iload_n dX4_entryAt_5 rfl ?_
  refine j_iload_n dX4_entryAt_6 rfl ?_
  refine j_iload dX4_entryAt_7 rfl ?_
  refine j_callSN (y' := mX5_entryPlace) (As := [.int (nI u), .int (nI v), .int (nI i), .int (nI j)]) (st := [.ref 27]) dX4_entryAt_9 lnX4_52 okX5_entryPlace stX5_entryPlace rfl (Nat.le_of_ble_eq_true rfl) (Nat.le_of_ble_eq_true rfl) (c_entryPlace z _ u v i j (by omega) (by omega) (by omega) F A) (fun v9 F9 A9 hq9 => ?_)
  obtain ⟨rfl, rfl, e9, rfl, he9⟩ := hq9
  have hl9 : e9 < 448 := by rw [he9]; exact eP_lt (by omega) (by omega) (by omega) (by omega) (by omega)
  refine j_ialdN dX4_entryAt_12 (Nat.le_of_ble_eq_true rfl) rfl (by omega) (by decide) ?_
  exact j_iret dX4_entryAt_13 rfl rfl ⟨rfl, rfl, _, rfl, trivial⟩

set_option maxHeartbeats 400000 in
set_option maxRecDepth 100000 in
theorem c_leastCost23 (z : mj_B) (d : Nat) (T : Tg) (u : Nat) (hu : u < 8) (F A : mj_S) (hC : CI T F A) : J (gC z) mX4_leastCost (d + 2) 0 [(0, .ref 23), (1, .int (nI u))] [] F A (qP F A fun _ => True) := by
  have L5 : ∀ (fuel : Nat) (le : Int32) (i : Nat), (i ≤ 4) → 4 - i < fuel → J (gC z) mX4_leastCost (d + 2) 5 [(0, .ref 23), (1, .int (nI u)), (2, .int le), (3, .int (nI i))] [] F A (qP F A fun _ => True) := by
    intro fuel
    induction fuel with
    | zero => intro le i h1 hf; exact absurd hf (by omega)
    | succ fuel ih5 =>
      intro le i h1 hf
      refine j_iload_n dX4_leastCost_5 rfl ?_
      refine j_aload_n dX4_leastCost_6 rfl ?_
      refine j_getR (r := 24) dX4_leastCost_7 flX4_9 (Nat.le_of_ble_eq_true rfl) rfl rfl ?_
      refine j_iload_n dX4_leastCost_10 rfl ?_
      refine j_ialdN dX4_leastCost_11 (Nat.le_of_ble_eq_true rfl) rfl (by omega) (by decide) ?_
      obtain ⟨t1, ht1, et1⟩ := (hC.2.2.2.1 23 n23).2 u (by omega)
      refine j_top (y0 := nI t1) et1 ?_
      refine j_icmp_geN (tgt := 32) dX4_leastCost_12 (by decide) (by omega) (by omega) (fun c12 => ?_) (fun c12 => ?_)
      · refine j_iload_n dX4_leastCost_32 rfl ?_
        exact j_iret dX4_leastCost_33 rfl rfl ⟨rfl, rfl, _, rfl, trivial⟩
      · refine j_iload_n dX4_leastCost_15 rfl ?_
        refine j_aload_n dX4_leastCost_16 rfl ?_
        refine j_iload_n dX4_leastCost_17 rfl ?_
        refine j_iload_n dX4_leastCost_18 rfl ?_
        refine j_callV (y' := mX4_costAt) (As := [.int (nI u), .int (nI i)]) (st := [.int le]) dX4_leastCost_19 lkX4_79 okX4_costAt imX4_costAt seX4_costAt (Nat.le_of_ble_eq_true rfl) rfl rfl rfl rfl (Nat.le_of_ble_eq_true rfl) (Nat.le_of_ble_eq_true rfl) (c_costAt23 z _ _ u i (by omega) (by omega) F A hC) (fun v19 F19 A19 hq19 => ?_)
        obtain ⟨rfl, rfl, r19, rfl, hr19⟩ := hq19
        refine j_min dX4_leastCost_22 lkX4_74 mn_st mn_in mn_co (Nat.le_of_ble_eq_true rfl) ?_
        refine j_istore_n (lv' := [(0, .ref 23), (1, .int (nI u)), (2, .int (mj_min le r19)), (3, .int (nI i))]) dX4_leastCost_25 (Nat.le_of_ble_eq_true rfl) rfl rfl ?_
        refine j_iinc (v := nI (i + 1)) (lv' := [(0, .ref 23), (1, .int (nI u)), (2, .int (mj_min le r19)), (3, .int (nI (i + 1)))]) dX4_leastCost_26 rfl (nI_add _ 1) (Nat.le_of_ble_eq_true rfl) rfl rfl ?_
        refine j_goto (tgt := 5) dX4_leastCost_29 (by decide) ?_
        exact ih5 (mj_min le r19) (i + 1) (by first | exact h1 | omega) (by omega)
  refine j_ldc dX4_leastCost_0 kcX4_66 ?_
  refine j_istore_n (lv' := [(0, .ref 23), (1, .int (nI u)), (2, .int 1000000)]) dX4_leastCost_2 (Nat.le_of_ble_eq_true rfl) rfl rfl ?_
  refine j_iconst (v := nI 0) dX4_leastCost_3 (by decide +kernel) ?_
  refine j_istore_n (lv' := [(0, .ref 23), (1, .int (nI u)), (2, .int 1000000), (3, .int (nI 0))]) dX4_leastCost_4 (Nat.le_of_ble_eq_true rfl) rfl rfl ?_
  exact L5 _ 1000000 0 (by first | exact h1 | omega) (Nat.lt_succ_self _)

set_option maxHeartbeats 400000 in
set_option maxRecDepth 100000 in
theorem c_matesBelow23 (z : mj_B) (d : Nat) (T : Tg) (u : Nat) (hu : u < 8) (F A : mj_S) (hC : CI T F A) : J (gC z) mX4_matesBelow d 0 [(0, .ref 23), (1, .int (nI u))] [] F A (qP F A fun r => (r >>> (nI u &&& 31)) &&& nI 1 = 0) := by
  refine j_aload_n dX4_matesBelow_0 rfl ?_
  refine j_getR (r := 25) dX4_matesBelow_1 flX4_15 (Nat.le_of_ble_eq_true rfl) rfl rfl ?_
  refine j_iload_n dX4_matesBelow_4 rfl ?_
  refine j_ialdN dX4_matesBelow_5 (Nat.le_of_ble_eq_true rfl) rfl (by omega) (by decide) ?_
  refine j_iconst (v := nI 1) dX4_matesBelow_6 (by decide +kernel) ?_
  refine j_iload_n dX4_matesBelow_7 rfl ?_
  refine j_ishl dX4_matesBelow_8 ?_
  refine j_iconst (v := nI 1) dX4_matesBelow_9 (by decide +kernel) ?_
  refine j_isub dX4_matesBelow_10 ?_
  refine j_top (y0 := ((nI 1) <<< ((nI u) &&& 31)) - (nI 1)) rfl ?_
  refine j_iand dX4_matesBelow_11 ?_
  exact j_iret dX4_matesBelow_12 rfl rfl ⟨rfl, rfl, _, rfl, by rw [shl_1 hu]; exact mb_bit _ hu⟩

set_option maxHeartbeats 400000 in
set_option maxRecDepth 100000 in
theorem c_weighTable23 (z : mj_B) (d : Nat) (T : Tg) (u v : Nat) (hu : u < 8) (hv : v < 8) (huv : u ≠ v) (F A : mj_S) (hC : CI T F A) : J (gC z) mX4_weighTable (d + 2) 0 [(0, .ref 23), (1, .ref 33), (2, .int (nI u)), (3, .int (nI v))] [] F A (fun v F' A' => v = none ∧ F = F' ∧ CI T F A') := by
  have L3 : ∀ (fuel : Nat) (i : Nat) (A : mj_S), (CI T F A) → (i ≤ 4) → 4 - i < fuel → J (gC z) mX4_weighTable (d + 2) 3 [(0, .ref 23), (1, .ref 33), (2, .int (nI u)), (3, .int (nI v)), (4, .int (nI i))] [] F A (fun v F' A' => v = none ∧ F = F' ∧ CI T F A') := by
    intro fuel
    induction fuel with
    | zero => intro i A hC h1 hf; exact absurd hf (by omega)
    | succ fuel ih3 =>
      intro i A hC h1 hf
      refine j_iload dX4_weighTable_3 rfl ?_
      refine j_aload_n dX4_weighTable_5 rfl ?_
      refine j_getR (r := 24) dX4_weighTable_6 flX4_9 (Nat.le_of_ble_eq_true rfl) rfl rfl ?_
      refine j_iload_n dX4_weighTable_9 rfl ?_
      refine j_ialdN dX4_weighTable_10 (Nat.le_of_ble_eq_true rfl) rfl (by omega) (by decide) ?_
      obtain ⟨t1, ht1, et1⟩ := (hC.2.2.2.1 23 n23).2 u (by omega)
      refine j_top (y0 := nI t1) et1 ?_
      refine j_icmp_geN (tgt := 64) dX4_weighTable_11 (by decide) (by omega) (by omega) (fun c11 => ?_) (fun c11 => ?_)
      · exact j_vret dX4_weighTable_64 rfl ⟨rfl, rfl, hC⟩
      · have L17 : ∀ (fuel : Nat) (j : Nat) (A : mj_S), (CI T F A) → (j ≤ 4) → 4 - j < fuel → J (gC z) mX4_weighTable (d + 2) 17 [(0, .ref 23), (1, .ref 33), (2, .int (nI u)), (3, .int (nI v)), (4, .int (nI i)), (5, .int (nI j))] [] F A (fun v F' A' => v = none ∧ F = F' ∧ CI T F A') := by
          intro fuel
          induction fuel with
          | zero => intro j A hC h2 hf; exact absurd hf (by omega)
          | succ fuel ih17 =>
            intro j A hC h2 hf
            refine j_iload dX4_weighTable_17 rfl ?_
            refine j_aload_n dX4_weighTable_19 rfl ?_
            refine j_getR (r := 24) dX4_weighTable_20 flX4_9 (Nat.le_of_ble_eq_true rfl) rfl rfl ?_
            refine j_iload_n dX4_weighTable_23 rfl ?_
            refine j_ialdN dX4_weighTable_24 (Nat.le_of_ble_eq_true rfl) rfl (by omega) (by decide) ?_
            obtain ⟨t2, ht2, et2⟩ := (hC.2.2.2.1 23 n23).2 v (by omega)
            refine j_top (y0 := nI t2) et2 ?_
            refine j_icmp_geN (tgt := 58) dX4_weighTable_25 (by decide) (by omega) (by omega) (fun c25 => ?_) (fun c25 => ?_)
            · refine j_iinc (v := nI (i + 1)) (lv' := [(0, .ref 23), (1, .ref 33), (2, .int (nI u)), (3, .int (nI v)), (4, .int (nI (i + 1))), (5, .int (nI j))]) dX4_weighTable_58 rfl (nI_add _ 1) (Nat.le_of_ble_eq_true rfl) rfl rfl ?_
              refine j_goto (tgt := 3) dX4_weighTable_61 (by decide) ?_
              refine j_sub [0, 1, 2, 3, 4] rfl ?_
              exact ih3 (i + 1) A (by first | exact hC | omega) (by first | exact h1 | omega) (by omega)
            · refine j_aload_n dX4_weighTable_28 rfl ?_
              refine j_getR (r := 27) dX4_weighTable_29 flX4_21 (Nat.le_of_ble_eq_true rfl) rfl rfl ?_
              refine j_iload_n dX4_weighTable_32 rfl ?_
              refine j_iload_n dX4_weighTable_33 rfl ?_
              refine j_iload dX4_weighTable_34 rfl ?_
              refine j_iload dX4_weighTable_36 rfl ?_
              refine j_callSN (y' := mX5_entryPlace) (As := [.int (nI u), .int (nI v), .int (nI i), .int (nI j)]) (st := [.ref 27]) dX4_weighTable_38 lnX4_52 okX5_entryPlace stX5_entryPlace rfl (Nat.le_of_ble_eq_true rfl) (Nat.le_of_ble_eq_true rfl) (c_entryPlace z _ u v i j (by omega) (by omega) (by omega) F A) (fun v38 F38 A38 hq38 => ?_)
              obtain ⟨rfl, rfl, e38, rfl, he38⟩ := hq38
              have hl38 : e38 < 448 := by rw [he38]; exact eP_lt (by omega) (by omega) (by omega) (by omega) (by omega)
              refine j_aload_n dX4_weighTable_41 rfl ?_
              refine j_iload_n dX4_weighTable_42 rfl ?_
              refine j_iload_n dX4_weighTable_43 rfl ?_
              refine j_iload dX4_weighTable_44 rfl ?_
              refine j_iload dX4_weighTable_46 rfl ?_
              refine j_callV (y' := mX0_tieCost) (As := [.int (nI u), .int (nI v), .int (nI i), .int (nI j)]) (st := [.int (nI e38), .ref 27]) dX4_weighTable_48 lkX4_56 okX0_tieCost imX0_tieCost seX0_tieCost (Nat.le_of_ble_eq_true rfl) rfl rfl rfl rfl (Nat.le_of_ble_eq_true rfl) (Nat.le_of_ble_eq_true rfl) (c_tieCost z _ u v i j (by omega) (by omega) (by omega) (by omega) (by omega) F A) (fun v48 F48 A48 hq48 => ?_)
              obtain ⟨rfl, rfl, r48, rfl, hr48⟩ := hq48
              refine j_iastN dX4_weighTable_51 (Nat.le_of_ble_eq_true rfl) rfl (by omega) (by decide) ?_
              have hC := hC.u (k := 27) rfl e38 r48
              refine j_iinc (v := nI (j + 1)) (lv' := [(0, .ref 23), (1, .ref 33), (2, .int (nI u)), (3, .int (nI v)), (4, .int (nI i)), (5, .int (nI (j + 1)))]) dX4_weighTable_52 rfl (nI_add _ 1) (Nat.le_of_ble_eq_true rfl) rfl rfl ?_
              refine j_goto (tgt := 17) dX4_weighTable_55 (by decide) ?_
              exact ih17 (j + 1) (mj_u A 27 e38 r48) (by first | exact hC | omega) (by first | exact h2 | omega) (by omega)
        refine j_iconst (v := nI 0) dX4_weighTable_14 (by decide +kernel) ?_
        refine j_istore (lv' := [(0, .ref 23), (1, .ref 33), (2, .int (nI u)), (3, .int (nI v)), (4, .int (nI i)), (5, .int (nI 0))]) dX4_weighTable_15 (Nat.le_of_ble_eq_true rfl) rfl rfl ?_
        exact L17 _ 0 A (by first | exact hC | omega) (by first | exact h2 | omega) (Nat.lt_succ_self _)
  refine j_iconst (v := nI 0) dX4_weighTable_0 (by decide +kernel) ?_
  refine j_istore (lv' := [(0, .ref 23), (1, .ref 33), (2, .int (nI u)), (3, .int (nI v)), (4, .int (nI 0))]) dX4_weighTable_1 (Nat.le_of_ble_eq_true rfl) rfl rfl ?_
  exact L3 _ 0 A (by first | exact hC | omega) (by first | exact h1 | omega) (Nat.lt_succ_self _)

set_option maxHeartbeats 400000 in
set_option maxRecDepth 100000 in
theorem c_weigh23 (z : mj_B) (d : Nat) (T : Tg) (F A : mj_S) (hC : CI T F A) : J (gC z) mX4_weigh (d + 3) 0 [(0, .ref 23), (1, .ref 33)] [] F A (fun v F' A' => ∃ n, v = none ∧ n ≤ 8 ∧ mj_u F 23 0 (nI n) = F' ∧ CI T F' A') := by
  refine j_aload_n dX4_weigh_0 rfl ?_
  refine j_aload_n dX4_weigh_1 rfl ?_
  obtain ⟨n, hn, en⟩ := (hC.2.2.2.1 33 n33).1
  refine j_getI dX4_weigh_2 flX4_24 (Nat.le_of_ble_eq_true rfl) rfl rfl ?_
  refine j_top (y0 := nI n) en ?_
  refine j_putI dX4_weigh_5 fpX4_30 (Nat.le_of_ble_eq_true rfl) rfl rfl ?_
  have hC := hC.nd n23 hn
  obtain ⟨F1, hF1⟩ : ∃ F1, F1 = mj_u F 23 0 (nI n) := ⟨_, rfl⟩
  rw [← hF1] at hC ⊢
  have en1 : F1 23 0 = nI n := by rw [hF1]; rfl
  refine j_aload_n dX4_weigh_8 rfl ?_
  refine j_getR (r := 34) dX4_weigh_9 flX4_31 (Nat.le_of_ble_eq_true rfl) rfl rfl ?_
  refine j_aload_n dX4_weigh_12 rfl ?_
  refine j_getR (r := 24) dX4_weigh_13 flX4_9 (Nat.le_of_ble_eq_true rfl) rfl rfl ?_
  refine j_callSN (y' := mX5_copyRow) (As := [.ref 34, .ref 24]) (st := []) dX4_weigh_16 lnX4_32 okX5_copyRow stX5_copyRow rfl (Nat.le_of_ble_eq_true rfl) (Nat.le_of_ble_eq_true rfl) (c_copyRow z _ 34 24 8 (by decide) (Nat.le_of_ble_eq_true rfl) rfl (Nat.le_of_ble_eq_true rfl) rfl F1 A) (fun v16 F16 A16 hq16 => ?_)
  obtain ⟨rfl, rfl, rfl⟩ := hq16
  have hC := hC.ch n23 (f := va_cpy (A 34) (A 24) 0 0 8) (rg_cpy (hC.2.2.2.1 33 n33).2)
  refine j_aload_n dX4_weigh_19 rfl ?_
  refine j_getR (r := 37) dX4_weigh_20 flX4_36 (Nat.le_of_ble_eq_true rfl) rfl rfl ?_
  refine j_aload_n dX4_weigh_23 rfl ?_
  refine j_getR (r := 25) dX4_weigh_24 flX4_15 (Nat.le_of_ble_eq_true rfl) rfl rfl ?_
  refine j_callSN (y' := mX5_copyRow) (As := [.ref 37, .ref 25]) (st := []) dX4_weigh_27 lnX4_32 okX5_copyRow stX5_copyRow rfl (Nat.le_of_ble_eq_true rfl) (Nat.le_of_ble_eq_true rfl) (c_copyRow z _ 37 25 8 (by decide) (Nat.le_of_ble_eq_true rfl) rfl (Nat.le_of_ble_eq_true rfl) rfl F1 (mj_a A 24 (va_cpy (A 34) (A 24) 0 0 8))) (fun v27 F27 A27 hq27 => ?_)
  obtain ⟨rfl, rfl, rfl⟩ := hq27
  have hC := hC.a (k := 25) rfl (va_cpy ((mj_a A 24 (va_cpy (A 34) (A 24) 0 0 8)) 37) ((mj_a A 24 (va_cpy (A 34) (A 24) 0 0 8)) 25) 0 0 8)
  have L32 : ∀ (fuel : Nat) (u : Nat) (A : mj_S), (CI T F1 A) → (u ≤ n) → n - u < fuel → J (gC z) mX4_weigh (d + 3) 32 [(0, .ref 23), (1, .ref 33), (2, .int (nI u))] [] F1 A (fun v F' A' => ∃ n, v = none ∧ n ≤ 8 ∧ mj_u F 23 0 (nI n) = F' ∧ CI T F' A') := by
    intro fuel
    induction fuel with
    | zero => intro u A hC h1 hf; exact absurd hf (by omega)
    | succ fuel ih32 =>
      intro u A hC h1 hf
      refine j_iload_n dX4_weigh_32 rfl ?_
      refine j_aload_n dX4_weigh_33 rfl ?_
      refine j_getI dX4_weigh_34 flX4_30 (Nat.le_of_ble_eq_true rfl) rfl rfl ?_
      refine j_top (y0 := nI n) en1 ?_
      refine j_icmp_geN (tgt := 109) dX4_weigh_37 (by decide) (by omega) (by omega) (fun c37 => ?_) (fun c37 => ?_)
      · exact j_vret dX4_weigh_109 rfl ⟨n, rfl, hn, hF1.symm, hC⟩
      · have L76 : ∀ (fuel : Nat) (v : Nat) (A : mj_S), (CI T F1 A) → (v ≤ u) → u - v < fuel → J (gC z) mX4_weigh (d + 3) 76 [(0, .ref 23), (1, .ref 33), (2, .int (nI u)), (3, .int (nI v))] [] F1 A (fun v F' A' => ∃ n, v = none ∧ n ≤ 8 ∧ mj_u F 23 0 (nI n) = F' ∧ CI T F' A') := by
          intro fuel
          induction fuel with
          | zero => intro v A hC h2 hf; exact absurd hf (by omega)
          | succ fuel ih76 =>
            intro v A hC h2 hf
            refine j_iload_n dX4_weigh_76 rfl ?_
            refine j_iload_n dX4_weigh_77 rfl ?_
            refine j_icmp_geN (tgt := 103) dX4_weigh_78 (by decide) (by omega) (by omega) (fun c78 => ?_) (fun c78 => ?_)
            · refine j_iinc (v := nI (u + 1)) (lv' := [(0, .ref 23), (1, .ref 33), (2, .int (nI (u + 1))), (3, .int (nI v))]) dX4_weigh_103 rfl (nI_add _ 1) (Nat.le_of_ble_eq_true rfl) rfl rfl ?_
              refine j_goto (tgt := 32) dX4_weigh_106 (by decide) ?_
              refine j_sub [0, 1, 2] rfl ?_
              exact ih32 (u + 1) A (by first | exact hC | omega) (by first | exact h1 | omega) (by omega)
            · refine j_aload_n dX4_weigh_81 rfl ?_
              refine j_iload_n dX4_weigh_82 rfl ?_
              refine j_iload_n dX4_weigh_83 rfl ?_
              refine j_callV (y' := mX4_areTied) (As := [.int (nI u), .int (nI v)]) (st := []) dX4_weigh_84 lkX4_44 okX4_areTied imX4_areTied seX4_areTied (Nat.le_of_ble_eq_true rfl) rfl rfl rfl rfl (Nat.le_of_ble_eq_true rfl) (Nat.le_of_ble_eq_true rfl) (c_areTied23 z _ _ u (by omega) (nI v) F1 A hC) (fun v84 F84 A84 hq84 => ?_)
              obtain ⟨rfl, rfl, r84, rfl, hr84⟩ := hq84
              refine j_if_eqN (tgt := 97) dX4_weigh_87 (by decide) (by omega) (fun c87 => ?_) (fun c87 => ?_)
              · refine j_iinc (v := nI (v + 1)) (lv' := [(0, .ref 23), (1, .ref 33), (2, .int (nI u)), (3, .int (nI (v + 1)))]) dX4_weigh_97 rfl (nI_add _ 1) (Nat.le_of_ble_eq_true rfl) rfl rfl ?_
                refine j_goto (tgt := 76) dX4_weigh_100 (by decide) ?_
                exact ih76 (v + 1) A (by first | exact hC | omega) (by first | exact h2 | omega) (by omega)
              · refine j_aload_n dX4_weigh_90 rfl ?_
                refine j_aload_n dX4_weigh_91 rfl ?_
                refine j_iload_n dX4_weigh_92 rfl ?_
                refine j_iload_n dX4_weigh_93 rfl ?_
                refine j_callV (y' := mX4_weighTable) (As := [.ref 33, .int (nI u), .int (nI v)]) (st := []) dX4_weigh_94 lkX4_48 okX4_weighTable imX4_weighTable seX4_weighTable (Nat.le_of_ble_eq_true rfl) rfl rfl rfl rfl (Nat.le_of_ble_eq_true rfl) (Nat.le_of_ble_eq_true rfl) (c_weighTable23 z _ _ u v (by omega) (by omega) (by omega) F1 A hC) (fun v94 F94 A94 hq94 => ?_)
                obtain ⟨rfl, rfl, hC⟩ := hq94
                refine j_iinc (v := nI (v + 1)) (lv' := [(0, .ref 23), (1, .ref 33), (2, .int (nI u)), (3, .int (nI (v + 1)))]) dX4_weigh_97 rfl (nI_add _ 1) (Nat.le_of_ble_eq_true rfl) rfl rfl ?_
                refine j_goto (tgt := 76) dX4_weigh_100 (by decide) ?_
                exact ih76 (v + 1) A94 (by first | exact hC | omega) (by first | exact h2 | omega) (by omega)
        have L42 : ∀ (fuel : Nat) (i : Nat) (A : mj_S), (CI T F1 A) → (i ≤ 4) → 4 - i < fuel → J (gC z) mX4_weigh (d + 3) 42 [(0, .ref 23), (1, .ref 33), (2, .int (nI u)), (3, .int (nI i))] [] F1 A (fun v F' A' => ∃ n, v = none ∧ n ≤ 8 ∧ mj_u F 23 0 (nI n) = F' ∧ CI T F' A') := by
          intro fuel
          induction fuel with
          | zero => intro i A hC h2 hf; exact absurd hf (by omega)
          | succ fuel ih42 =>
            intro i A hC h2 hf
            refine j_iload_n dX4_weigh_42 rfl ?_
            refine j_aload_n dX4_weigh_43 rfl ?_
            refine j_getR (r := 24) dX4_weigh_44 flX4_9 (Nat.le_of_ble_eq_true rfl) rfl rfl ?_
            refine j_iload_n dX4_weigh_47 rfl ?_
            refine j_ialdN dX4_weigh_48 (Nat.le_of_ble_eq_true rfl) rfl (by omega) (by decide) ?_
            obtain ⟨t1, ht1, et1⟩ := (hC.2.2.2.1 23 n23).2 u (by omega)
            refine j_top (y0 := nI t1) et1 ?_
            refine j_icmp_geN (tgt := 74) dX4_weigh_49 (by decide) (by omega) (by omega) (fun c49 => ?_) (fun c49 => ?_)
            · refine j_iconst (v := nI 0) dX4_weigh_74 (by decide +kernel) ?_
              refine j_istore_n (lv' := [(0, .ref 23), (1, .ref 33), (2, .int (nI u)), (3, .int (nI 0))]) dX4_weigh_75 (Nat.le_of_ble_eq_true rfl) rfl rfl ?_
              exact L76 _ 0 A (by first | exact hC | omega) (by first | exact h2 | omega) (Nat.lt_succ_self _)
            · refine j_aload_n dX4_weigh_52 rfl ?_
              refine j_getR (r := 26) dX4_weigh_53 flX4_18 (Nat.le_of_ble_eq_true rfl) rfl rfl ?_
              refine j_iload_n dX4_weigh_56 rfl ?_
              refine j_iload_n dX4_weigh_57 rfl ?_
              refine j_callSN (y' := mX5_choicePlace) (As := [.int (nI u), .int (nI i)]) (st := [.ref 26]) dX4_weigh_58 lnX4_37 okX5_choicePlace stX5_choicePlace rfl (Nat.le_of_ble_eq_true rfl) (Nat.le_of_ble_eq_true rfl) (c_choicePlace z _ u i F1 A) (fun v58 F58 A58 hq58 => ?_)
              obtain ⟨rfl, rfl, r58, rfl, hr58⟩ := hq58
              refine j_aload_n dX4_weigh_61 rfl ?_
              refine j_iload_n dX4_weigh_62 rfl ?_
              refine j_iload_n dX4_weigh_63 rfl ?_
              refine j_callV (y' := mX0_choiceCost) (As := [.int (nI u), .int (nI i)]) (st := [.int (nI r58), .ref 26]) dX4_weigh_64 lkX4_41 okX0_choiceCost imX0_choiceCost seX0_choiceCost (Nat.le_of_ble_eq_true rfl) rfl rfl rfl rfl (Nat.le_of_ble_eq_true rfl) (Nat.le_of_ble_eq_true rfl) (c_choiceCost z _ u i (by omega) (by omega) F1 A) (fun v64 F64 A64 hq64 => ?_)
              obtain ⟨rfl, rfl, r64, rfl, hr64⟩ := hq64
              refine j_iastN dX4_weigh_67 (Nat.le_of_ble_eq_true rfl) rfl (by omega) (by decide) ?_
              have hC := hC.u (k := 26) rfl r58 r64
              refine j_iinc (v := nI (i + 1)) (lv' := [(0, .ref 23), (1, .ref 33), (2, .int (nI u)), (3, .int (nI (i + 1)))]) dX4_weigh_68 rfl (nI_add _ 1) (Nat.le_of_ble_eq_true rfl) rfl rfl ?_
              refine j_goto (tgt := 42) dX4_weigh_71 (by decide) ?_
              exact ih42 (i + 1) (mj_u A 26 r58 r64) (by first | exact hC | omega) (by first | exact h2 | omega) (by omega)
        refine j_iconst (v := nI 0) dX4_weigh_40 (by decide +kernel) ?_
        refine j_istore_n (lv' := [(0, .ref 23), (1, .ref 33), (2, .int (nI u)), (3, .int (nI 0))]) dX4_weigh_41 (Nat.le_of_ble_eq_true rfl) rfl rfl ?_
        exact L42 _ 0 A (by first | exact hC | omega) (by first | exact h2 | omega) (Nat.lt_succ_self _)
  refine j_iconst (v := nI 0) dX4_weigh_30 (by decide +kernel) ?_
  refine j_istore_n (lv' := [(0, .ref 23), (1, .ref 33), (2, .int (nI 0))]) dX4_weigh_31 (Nat.le_of_ble_eq_true rfl) rfl rfl ?_
  exact L32 _ 0 (mj_a (mj_a A 24 (va_cpy (A 34) (A 24) 0 0 8)) 25 (va_cpy ((mj_a A 24 (va_cpy (A 34) (A 24) 0 0 8)) 37) ((mj_a A 24 (va_cpy (A 34) (A 24) 0 0 8)) 25) 0 0 8)) (by first | exact hC | omega) (by first | exact h1 | omega) (Nat.lt_succ_self _)

set_option maxHeartbeats 400000 in
set_option maxRecDepth 100000 in
theorem c_areTied28 (z : mj_B) (d : Nat) (T : Tg) (u : Nat) (hu : u < 8) (y : Int32) (F A : mj_S) (hC : CI T F A) : J (gC z) mX4_areTied (d + 1) 0 [(0, .ref 28), (1, .int (nI u)), (2, .int y)] [] F A (qN F A fun r => r ≤ 1 ∧ (r = 1 ↔ ¬ (A 30 u >>> (y &&& 31)) &&& nI 1 = 0)) := by
  refine j_aload_n dX4_areTied_0 rfl ?_
  refine j_getR (r := 30) dX4_areTied_1 flX4_15 (Nat.le_of_ble_eq_true rfl) rfl rfl ?_
  refine j_iload_n dX4_areTied_4 rfl ?_
  refine j_ialdN dX4_areTied_5 (Nat.le_of_ble_eq_true rfl) rfl (by omega) (by decide) ?_
  refine j_iload_n dX4_areTied_6 rfl ?_
  refine j_callSN (y' := mX5_hasBit) (As := [.int (A 30 u), .int y]) (st := []) dX4_areTied_7 lnX4_59 okX5_hasBit stX5_hasBit rfl (Nat.le_of_ble_eq_true rfl) (Nat.le_of_ble_eq_true rfl) (c_hasBit z _ (A 30 u) y F A) (fun v7 F7 A7 hq7 => ?_)
  obtain ⟨rfl, rfl, r7, rfl, hr7⟩ := hq7
  have hb7 : r7 ≤ 1 := hr7.1
  exact j_iret dX4_areTied_10 rfl (mj_nz hb7) ⟨rfl, rfl, _, rfl, hr7⟩

set_option maxHeartbeats 400000 in
set_option maxRecDepth 100000 in
theorem c_costAt28 (z : mj_B) (d : Nat) (T : Tg) (u i : Nat) (hu : u < 8) (hi : i < 4) (F A : mj_S) (hC : CI T F A) : J (gC z) mX4_costAt (d + 1) 0 [(0, .ref 28), (1, .int (nI u)), (2, .int (nI i))] [] F A (qP F A fun _ => True) := by
  refine j_aload_n dX4_costAt_0 rfl ?_
  refine j_getR (r := 31) dX4_costAt_1 flX4_18 (Nat.le_of_ble_eq_true rfl) rfl rfl ?_
  refine j_iload_n dX4_costAt_4 rfl ?_
  refine j_iload_n dX4_costAt_5 rfl ?_
  refine j_callSN (y' := mX5_choicePlace) (As := [.int (nI u), .int (nI i)]) (st := [.ref 31]) dX4_costAt_6 lnX4_37 okX5_choicePlace stX5_choicePlace rfl (Nat.le_of_ble_eq_true rfl) (Nat.le_of_ble_eq_true rfl) (c_choicePlace z _ u i F A) (fun v6 F6 A6 hq6 => ?_)
  obtain ⟨rfl, rfl, r6, rfl, hr6⟩ := hq6
  refine j_ialdN dX4_costAt_9 (Nat.le_of_ble_eq_true rfl) rfl (by omega) (by decide) ?_
  exact j_iret dX4_costAt_10 rfl rfl ⟨rfl, rfl, _, rfl, trivial⟩

set_option maxHeartbeats 400000 in
set_option maxRecDepth 100000 in
theorem c_entryAt28 (z : mj_B) (d : Nat) (T : Tg) (u v i j : Nat) (hu : u < 8) (hv : v < 8) (huv : u ≠ v) (hi : i < 4) (hj : j < 4) (F A : mj_S) (hC : CI T F A) : J (gC z) mX4_entryAt (d + 1) 0 [(0, .ref 28), (1, .int (nI u)), (2, .int (nI v)), (3, .int (nI i)), (4, .int (nI j))] [] F A (qP F A fun _ => True) := by
  refine j_aload_n dX4_entryAt_0 rfl ?_
  refine j_getR (r := 32) dX4_entryAt_1 flX4_21 (Nat.le_of_ble_eq_true rfl) rfl rfl ?_
  refine j_iload_n dX4_entryAt_4 rfl ?_
  refine j_iload_n dX4_entryAt_5 rfl ?_
  refine j_iload_n dX4_entryAt_6 rfl ?_
  refine j_iload dX4_entryAt_7 rfl ?_
  refine j_callSN (y' := mX5_entryPlace) (As := [.int (nI u), .int (nI v), .int (nI i), .int (nI j)]) (st := [.ref 32]) dX4_entryAt_9 lnX4_52 okX5_entryPlace stX5_entryPlace rfl (Nat.le_of_ble_eq_true rfl) (Nat.le_of_ble_eq_true rfl) (c_entryPlace z _ u v i j (by omega) (by omega) (by omega) F A) (fun v9 F9 A9 hq9 => ?_)
  obtain ⟨rfl, rfl, e9, rfl, he9⟩ := hq9
  have hl9 : e9 < 448 := by rw [he9]; exact eP_lt (by omega) (by omega) (by omega) (by omega) (by omega)
  refine j_ialdN dX4_entryAt_12 (Nat.le_of_ble_eq_true rfl) rfl (by omega) (by decide) ?_
  exact j_iret dX4_entryAt_13 rfl rfl ⟨rfl, rfl, _, rfl, trivial⟩

set_option maxHeartbeats 400000 in
set_option maxRecDepth 100000 in
theorem c_leastCost28 (z : mj_B) (d : Nat) (T : Tg) (u : Nat) (hu : u < 8) (F A : mj_S) (hC : CI T F A) : J (gC z) mX4_leastCost (d + 2) 0 [(0, .ref 28), (1, .int (nI u))] [] F A (qP F A fun _ => True) := by
  have L5 : ∀ (fuel : Nat) (le : Int32) (i : Nat), (i ≤ 4) → 4 - i < fuel → J (gC z) mX4_leastCost (d + 2) 5 [(0, .ref 28), (1, .int (nI u)), (2, .int le), (3, .int (nI i))] [] F A (qP F A fun _ => True) := by
    intro fuel
    induction fuel with
    | zero => intro le i h1 hf; exact absurd hf (by omega)
    | succ fuel ih5 =>
      intro le i h1 hf
      refine j_iload_n dX4_leastCost_5 rfl ?_
      refine j_aload_n dX4_leastCost_6 rfl ?_
      refine j_getR (r := 29) dX4_leastCost_7 flX4_9 (Nat.le_of_ble_eq_true rfl) rfl rfl ?_
      refine j_iload_n dX4_leastCost_10 rfl ?_
      refine j_ialdN dX4_leastCost_11 (Nat.le_of_ble_eq_true rfl) rfl (by omega) (by decide) ?_
      obtain ⟨t1, ht1, et1⟩ := (hC.2.2.2.1 28 n28).2 u (by omega)
      refine j_top (y0 := nI t1) et1 ?_
      refine j_icmp_geN (tgt := 32) dX4_leastCost_12 (by decide) (by omega) (by omega) (fun c12 => ?_) (fun c12 => ?_)
      · refine j_iload_n dX4_leastCost_32 rfl ?_
        exact j_iret dX4_leastCost_33 rfl rfl ⟨rfl, rfl, _, rfl, trivial⟩
      · refine j_iload_n dX4_leastCost_15 rfl ?_
        refine j_aload_n dX4_leastCost_16 rfl ?_
        refine j_iload_n dX4_leastCost_17 rfl ?_
        refine j_iload_n dX4_leastCost_18 rfl ?_
        refine j_callV (y' := mX4_costAt) (As := [.int (nI u), .int (nI i)]) (st := [.int le]) dX4_leastCost_19 lkX4_79 okX4_costAt imX4_costAt seX4_costAt (Nat.le_of_ble_eq_true rfl) rfl rfl rfl rfl (Nat.le_of_ble_eq_true rfl) (Nat.le_of_ble_eq_true rfl) (c_costAt28 z _ _ u i (by omega) (by omega) F A hC) (fun v19 F19 A19 hq19 => ?_)
        obtain ⟨rfl, rfl, r19, rfl, hr19⟩ := hq19
        refine j_min dX4_leastCost_22 lkX4_74 mn_st mn_in mn_co (Nat.le_of_ble_eq_true rfl) ?_
        refine j_istore_n (lv' := [(0, .ref 28), (1, .int (nI u)), (2, .int (mj_min le r19)), (3, .int (nI i))]) dX4_leastCost_25 (Nat.le_of_ble_eq_true rfl) rfl rfl ?_
        refine j_iinc (v := nI (i + 1)) (lv' := [(0, .ref 28), (1, .int (nI u)), (2, .int (mj_min le r19)), (3, .int (nI (i + 1)))]) dX4_leastCost_26 rfl (nI_add _ 1) (Nat.le_of_ble_eq_true rfl) rfl rfl ?_
        refine j_goto (tgt := 5) dX4_leastCost_29 (by decide) ?_
        exact ih5 (mj_min le r19) (i + 1) (by first | exact h1 | omega) (by omega)
  refine j_ldc dX4_leastCost_0 kcX4_66 ?_
  refine j_istore_n (lv' := [(0, .ref 28), (1, .int (nI u)), (2, .int 1000000)]) dX4_leastCost_2 (Nat.le_of_ble_eq_true rfl) rfl rfl ?_
  refine j_iconst (v := nI 0) dX4_leastCost_3 (by decide +kernel) ?_
  refine j_istore_n (lv' := [(0, .ref 28), (1, .int (nI u)), (2, .int 1000000), (3, .int (nI 0))]) dX4_leastCost_4 (Nat.le_of_ble_eq_true rfl) rfl rfl ?_
  exact L5 _ 1000000 0 (by first | exact h1 | omega) (Nat.lt_succ_self _)

set_option maxHeartbeats 400000 in
set_option maxRecDepth 100000 in
theorem c_matesBelow28 (z : mj_B) (d : Nat) (T : Tg) (u : Nat) (hu : u < 8) (F A : mj_S) (hC : CI T F A) : J (gC z) mX4_matesBelow d 0 [(0, .ref 28), (1, .int (nI u))] [] F A (qP F A fun r => (r >>> (nI u &&& 31)) &&& nI 1 = 0) := by
  refine j_aload_n dX4_matesBelow_0 rfl ?_
  refine j_getR (r := 30) dX4_matesBelow_1 flX4_15 (Nat.le_of_ble_eq_true rfl) rfl rfl ?_
  refine j_iload_n dX4_matesBelow_4 rfl ?_
  refine j_ialdN dX4_matesBelow_5 (Nat.le_of_ble_eq_true rfl) rfl (by omega) (by decide) ?_
  refine j_iconst (v := nI 1) dX4_matesBelow_6 (by decide +kernel) ?_
  refine j_iload_n dX4_matesBelow_7 rfl ?_
  refine j_ishl dX4_matesBelow_8 ?_
  refine j_iconst (v := nI 1) dX4_matesBelow_9 (by decide +kernel) ?_
  refine j_isub dX4_matesBelow_10 ?_
  refine j_top (y0 := ((nI 1) <<< ((nI u) &&& 31)) - (nI 1)) rfl ?_
  refine j_iand dX4_matesBelow_11 ?_
  exact j_iret dX4_matesBelow_12 rfl rfl ⟨rfl, rfl, _, rfl, by rw [shl_1 hu]; exact mb_bit _ hu⟩

set_option maxHeartbeats 400000 in
set_option maxRecDepth 100000 in
theorem c_weighTable28 (z : mj_B) (d : Nat) (T : Tg) (u v : Nat) (hu : u < 8) (hv : v < 8) (huv : u ≠ v) (F A : mj_S) (hC : CI T F A) : J (gC z) mX4_weighTable (d + 2) 0 [(0, .ref 28), (1, .ref 33), (2, .int (nI u)), (3, .int (nI v))] [] F A (fun v F' A' => v = none ∧ F = F' ∧ CI T F A') := by
  have L3 : ∀ (fuel : Nat) (i : Nat) (A : mj_S), (CI T F A) → (i ≤ 4) → 4 - i < fuel → J (gC z) mX4_weighTable (d + 2) 3 [(0, .ref 28), (1, .ref 33), (2, .int (nI u)), (3, .int (nI v)), (4, .int (nI i))] [] F A (fun v F' A' => v = none ∧ F = F' ∧ CI T F A') := by
    intro fuel
    induction fuel with
    | zero => intro i A hC h1 hf; exact absurd hf (by omega)
    | succ fuel ih3 =>
      intro i A hC h1 hf
      refine j_iload dX4_weighTable_3 rfl ?_
      refine j_aload_n dX4_weighTable_5 rfl ?_
      refine j_getR (r := 29) dX4_weighTable_6 flX4_9 (Nat.le_of_ble_eq_true rfl) rfl rfl ?_
      refine j_iload_n dX4_weighTable_9 rfl ?_
      refine j_ialdN dX4_weighTable_10 (Nat.le_of_ble_eq_true rfl) rfl (by omega) (by decide) ?_
      obtain ⟨t1, ht1, et1⟩ := (hC.2.2.2.1 28 n28).2 u (by omega)
      refine j_top (y0 := nI t1) et1 ?_
      refine j_icmp_geN (tgt := 64) dX4_weighTable_11 (by decide) (by omega) (by omega) (fun c11 => ?_) (fun c11 => ?_)
      · exact j_vret dX4_weighTable_64 rfl ⟨rfl, rfl, hC⟩
      · have L17 : ∀ (fuel : Nat) (j : Nat) (A : mj_S), (CI T F A) → (j ≤ 4) → 4 - j < fuel → J (gC z) mX4_weighTable (d + 2) 17 [(0, .ref 28), (1, .ref 33), (2, .int (nI u)), (3, .int (nI v)), (4, .int (nI i)), (5, .int (nI j))] [] F A (fun v F' A' => v = none ∧ F = F' ∧ CI T F A') := by
          intro fuel
          induction fuel with
          | zero => intro j A hC h2 hf; exact absurd hf (by omega)
          | succ fuel ih17 =>
            intro j A hC h2 hf
            refine j_iload dX4_weighTable_17 rfl ?_
            refine j_aload_n dX4_weighTable_19 rfl ?_
            refine j_getR (r := 29) dX4_weighTable_20 flX4_9 (Nat.le_of_ble_eq_true rfl) rfl rfl ?_
            refine j_iload_n dX4_weighTable_23 rfl ?_
            refine j_ialdN dX4_weighTable_24 (Nat.le_of_ble_eq_true rfl) rfl (by omega) (by decide) ?_
            obtain ⟨t2, ht2, et2⟩ := (hC.2.2.2.1 28 n28).2 v (by omega)
            refine j_top (y0 := nI t2) et2 ?_
            refine j_icmp_geN (tgt := 58) dX4_weighTable_25 (by decide) (by omega) (by omega) (fun c25 => ?_) (fun c25 => ?_)
            · refine j_iinc (v := nI (i + 1)) (lv' := [(0, .ref 28), (1, .ref 33), (2, .int (nI u)), (3, .int (nI v)), (4, .int (nI (i + 1))), (5, .int (nI j))]) dX4_weighTable_58 rfl (nI_add _ 1) (Nat.le_of_ble_eq_true rfl) rfl rfl ?_
              refine j_goto (tgt := 3) dX4_weighTable_61 (by decide) ?_
              refine j_sub [0, 1, 2, 3, 4] rfl ?_
              exact ih3 (i + 1) A (by first | exact hC | omega) (by first | exact h1 | omega) (by omega)
            · refine j_aload_n dX4_weighTable_28 rfl ?_
              refine j_getR (r := 32) dX4_weighTable_29 flX4_21 (Nat.le_of_ble_eq_true rfl) rfl rfl ?_
              refine j_iload_n dX4_weighTable_32 rfl ?_
              refine j_iload_n dX4_weighTable_33 rfl ?_
              refine j_iload dX4_weighTable_34 rfl ?_
              refine j_iload dX4_weighTable_36 rfl ?_
              refine j_callSN (y' := mX5_entryPlace) (As := [.int (nI u), .int (nI v), .int (nI i), .int (nI j)]) (st := [.ref 32]) dX4_weighTable_38 lnX4_52 okX5_entryPlace stX5_entryPlace rfl (Nat.le_of_ble_eq_true rfl) (Nat.le_of_ble_eq_true rfl) (c_entryPlace z _ u v i j (by omega) (by omega) (by omega) F A) (fun v38 F38 A38 hq38 => ?_)
              obtain ⟨rfl, rfl, e38, rfl, he38⟩ := hq38
              have hl38 : e38 < 448 := by rw [he38]; exact eP_lt (by omega) (by omega) (by omega) (by omega) (by omega)
              refine j_aload_n dX4_weighTable_41 rfl ?_
              refine j_iload_n dX4_weighTable_42 rfl ?_
              refine j_iload_n dX4_weighTable_43 rfl ?_
              refine j_iload dX4_weighTable_44 rfl ?_
              refine j_iload dX4_weighTable_46 rfl ?_
              refine j_callV (y' := mX0_tieCost) (As := [.int (nI u), .int (nI v), .int (nI i), .int (nI j)]) (st := [.int (nI e38), .ref 32]) dX4_weighTable_48 lkX4_56 okX0_tieCost imX0_tieCost seX0_tieCost (Nat.le_of_ble_eq_true rfl) rfl rfl rfl rfl (Nat.le_of_ble_eq_true rfl) (Nat.le_of_ble_eq_true rfl) (c_tieCost z _ u v i j (by omega) (by omega) (by omega) (by omega) (by omega) F A) (fun v48 F48 A48 hq48 => ?_)
              obtain ⟨rfl, rfl, r48, rfl, hr48⟩ := hq48
              refine j_iastN dX4_weighTable_51 (Nat.le_of_ble_eq_true rfl) rfl (by omega) (by decide) ?_
              have hC := hC.u (k := 32) rfl e38 r48
              refine j_iinc (v := nI (j + 1)) (lv' := [(0, .ref 28), (1, .ref 33), (2, .int (nI u)), (3, .int (nI v)), (4, .int (nI i)), (5, .int (nI (j + 1)))]) dX4_weighTable_52 rfl (nI_add _ 1) (Nat.le_of_ble_eq_true rfl) rfl rfl ?_
              refine j_goto (tgt := 17) dX4_weighTable_55 (by decide) ?_
              exact ih17 (j + 1) (mj_u A 32 e38 r48) (by first | exact hC | omega) (by first | exact h2 | omega) (by omega)
        refine j_iconst (v := nI 0) dX4_weighTable_14 (by decide +kernel) ?_
        refine j_istore (lv' := [(0, .ref 28), (1, .ref 33), (2, .int (nI u)), (3, .int (nI v)), (4, .int (nI i)), (5, .int (nI 0))]) dX4_weighTable_15 (Nat.le_of_ble_eq_true rfl) rfl rfl ?_
        exact L17 _ 0 A (by first | exact hC | omega) (by first | exact h2 | omega) (Nat.lt_succ_self _)
  refine j_iconst (v := nI 0) dX4_weighTable_0 (by decide +kernel) ?_
  refine j_istore (lv' := [(0, .ref 28), (1, .ref 33), (2, .int (nI u)), (3, .int (nI v)), (4, .int (nI 0))]) dX4_weighTable_1 (Nat.le_of_ble_eq_true rfl) rfl rfl ?_
  exact L3 _ 0 A (by first | exact hC | omega) (by first | exact h1 | omega) (Nat.lt_succ_self _)

set_option maxHeartbeats 400000 in
set_option maxRecDepth 100000 in
theorem c_weigh28 (z : mj_B) (d : Nat) (T : Tg) (F A : mj_S) (hC : CI T F A) : J (gC z) mX4_weigh (d + 3) 0 [(0, .ref 28), (1, .ref 33)] [] F A (fun v F' A' => ∃ n, v = none ∧ n ≤ 8 ∧ mj_u F 28 0 (nI n) = F' ∧ CI T F' A') := by
  refine j_aload_n dX4_weigh_0 rfl ?_
  refine j_aload_n dX4_weigh_1 rfl ?_
  obtain ⟨n, hn, en⟩ := (hC.2.2.2.1 33 n33).1
  refine j_getI dX4_weigh_2 flX4_24 (Nat.le_of_ble_eq_true rfl) rfl rfl ?_
  refine j_top (y0 := nI n) en ?_
  refine j_putI dX4_weigh_5 fpX4_30 (Nat.le_of_ble_eq_true rfl) rfl rfl ?_
  have hC := hC.nd n28 hn
  obtain ⟨F1, hF1⟩ : ∃ F1, F1 = mj_u F 28 0 (nI n) := ⟨_, rfl⟩
  rw [← hF1] at hC ⊢
  have en1 : F1 28 0 = nI n := by rw [hF1]; rfl
  refine j_aload_n dX4_weigh_8 rfl ?_
  refine j_getR (r := 34) dX4_weigh_9 flX4_31 (Nat.le_of_ble_eq_true rfl) rfl rfl ?_
  refine j_aload_n dX4_weigh_12 rfl ?_
  refine j_getR (r := 29) dX4_weigh_13 flX4_9 (Nat.le_of_ble_eq_true rfl) rfl rfl ?_
  refine j_callSN (y' := mX5_copyRow) (As := [.ref 34, .ref 29]) (st := []) dX4_weigh_16 lnX4_32 okX5_copyRow stX5_copyRow rfl (Nat.le_of_ble_eq_true rfl) (Nat.le_of_ble_eq_true rfl) (c_copyRow z _ 34 29 8 (by decide) (Nat.le_of_ble_eq_true rfl) rfl (Nat.le_of_ble_eq_true rfl) rfl F1 A) (fun v16 F16 A16 hq16 => ?_)
  obtain ⟨rfl, rfl, rfl⟩ := hq16
  have hC := hC.ch n28 (f := va_cpy (A 34) (A 29) 0 0 8) (rg_cpy (hC.2.2.2.1 33 n33).2)
  refine j_aload_n dX4_weigh_19 rfl ?_
  refine j_getR (r := 37) dX4_weigh_20 flX4_36 (Nat.le_of_ble_eq_true rfl) rfl rfl ?_
  refine j_aload_n dX4_weigh_23 rfl ?_
  refine j_getR (r := 30) dX4_weigh_24 flX4_15 (Nat.le_of_ble_eq_true rfl) rfl rfl ?_
  refine j_callSN (y' := mX5_copyRow) (As := [.ref 37, .ref 30]) (st := []) dX4_weigh_27 lnX4_32 okX5_copyRow stX5_copyRow rfl (Nat.le_of_ble_eq_true rfl) (Nat.le_of_ble_eq_true rfl) (c_copyRow z _ 37 30 8 (by decide) (Nat.le_of_ble_eq_true rfl) rfl (Nat.le_of_ble_eq_true rfl) rfl F1 (mj_a A 29 (va_cpy (A 34) (A 29) 0 0 8))) (fun v27 F27 A27 hq27 => ?_)
  obtain ⟨rfl, rfl, rfl⟩ := hq27
  have hC := hC.a (k := 30) rfl (va_cpy ((mj_a A 29 (va_cpy (A 34) (A 29) 0 0 8)) 37) ((mj_a A 29 (va_cpy (A 34) (A 29) 0 0 8)) 30) 0 0 8)
  have L32 : ∀ (fuel : Nat) (u : Nat) (A : mj_S), (CI T F1 A) → (u ≤ n) → n - u < fuel → J (gC z) mX4_weigh (d + 3) 32 [(0, .ref 28), (1, .ref 33), (2, .int (nI u))] [] F1 A (fun v F' A' => ∃ n, v = none ∧ n ≤ 8 ∧ mj_u F 28 0 (nI n) = F' ∧ CI T F' A') := by
    intro fuel
    induction fuel with
    | zero => intro u A hC h1 hf; exact absurd hf (by omega)
    | succ fuel ih32 =>
      intro u A hC h1 hf
      refine j_iload_n dX4_weigh_32 rfl ?_
      refine j_aload_n dX4_weigh_33 rfl ?_
      refine j_getI dX4_weigh_34 flX4_30 (Nat.le_of_ble_eq_true rfl) rfl rfl ?_
      refine j_top (y0 := nI n) en1 ?_
      refine j_icmp_geN (tgt := 109) dX4_weigh_37 (by decide) (by omega) (by omega) (fun c37 => ?_) (fun c37 => ?_)
      · exact j_vret dX4_weigh_109 rfl ⟨n, rfl, hn, hF1.symm, hC⟩
      · have L76 : ∀ (fuel : Nat) (v : Nat) (A : mj_S), (CI T F1 A) → (v ≤ u) → u - v < fuel → J (gC z) mX4_weigh (d + 3) 76 [(0, .ref 28), (1, .ref 33), (2, .int (nI u)), (3, .int (nI v))] [] F1 A (fun v F' A' => ∃ n, v = none ∧ n ≤ 8 ∧ mj_u F 28 0 (nI n) = F' ∧ CI T F' A') := by
          intro fuel
          induction fuel with
          | zero => intro v A hC h2 hf; exact absurd hf (by omega)
          | succ fuel ih76 =>
            intro v A hC h2 hf
            refine j_iload_n dX4_weigh_76 rfl ?_
            refine j_iload_n dX4_weigh_77 rfl ?_
            refine j_icmp_geN (tgt := 103) dX4_weigh_78 (by decide) (by omega) (by omega) (fun c78 => ?_) (fun c78 => ?_)
            · refine j_iinc (v := nI (u + 1)) (lv' := [(0, .ref 28), (1, .ref 33), (2, .int (nI (u + 1))), (3, .int (nI v))]) dX4_weigh_103 rfl (nI_add _ 1) (Nat.le_of_ble_eq_true rfl) rfl rfl ?_
              refine j_goto (tgt := 32) dX4_weigh_106 (by decide) ?_
              refine j_sub [0, 1, 2] rfl ?_
              exact ih32 (u + 1) A (by first | exact hC | omega) (by first | exact h1 | omega) (by omega)
            · refine j_aload_n dX4_weigh_81 rfl ?_
              refine j_iload_n dX4_weigh_82 rfl ?_
              refine j_iload_n dX4_weigh_83 rfl ?_
              refine j_callV (y' := mX4_areTied) (As := [.int (nI u), .int (nI v)]) (st := []) dX4_weigh_84 lkX4_44 okX4_areTied imX4_areTied seX4_areTied (Nat.le_of_ble_eq_true rfl) rfl rfl rfl rfl (Nat.le_of_ble_eq_true rfl) (Nat.le_of_ble_eq_true rfl) (c_areTied28 z _ _ u (by omega) (nI v) F1 A hC) (fun v84 F84 A84 hq84 => ?_)
              obtain ⟨rfl, rfl, r84, rfl, hr84⟩ := hq84
              refine j_if_eqN (tgt := 97) dX4_weigh_87 (by decide) (by omega) (fun c87 => ?_) (fun c87 => ?_)
              · refine j_iinc (v := nI (v + 1)) (lv' := [(0, .ref 28), (1, .ref 33), (2, .int (nI u)), (3, .int (nI (v + 1)))]) dX4_weigh_97 rfl (nI_add _ 1) (Nat.le_of_ble_eq_true rfl) rfl rfl ?_
                refine j_goto (tgt := 76) dX4_weigh_100 (by decide) ?_
                exact ih76 (v + 1) A (by first | exact hC | omega) (by first | exact h2 | omega) (by omega)
              · refine j_aload_n dX4_weigh_90 rfl ?_
                refine j_aload_n dX4_weigh_91 rfl ?_
                refine j_iload_n dX4_weigh_92 rfl ?_
                refine j_iload_n dX4_weigh_93 rfl ?_
                refine j_callV (y' := mX4_weighTable) (As := [.ref 33, .int (nI u), .int (nI v)]) (st := []) dX4_weigh_94 lkX4_48 okX4_weighTable imX4_weighTable seX4_weighTable (Nat.le_of_ble_eq_true rfl) rfl rfl rfl rfl (Nat.le_of_ble_eq_true rfl) (Nat.le_of_ble_eq_true rfl) (c_weighTable28 z _ _ u v (by omega) (by omega) (by omega) F1 A hC) (fun v94 F94 A94 hq94 => ?_)
                obtain ⟨rfl, rfl, hC⟩ := hq94
                refine j_iinc (v := nI (v + 1)) (lv' := [(0, .ref 28), (1, .ref 33), (2, .int (nI u)), (3, .int (nI (v + 1)))]) dX4_weigh_97 rfl (nI_add _ 1) (Nat.le_of_ble_eq_true rfl) rfl rfl ?_
                refine j_goto (tgt := 76) dX4_weigh_100 (by decide) ?_
                exact ih76 (v + 1) A94 (by first | exact hC | omega) (by first | exact h2 | omega) (by omega)
        have L42 : ∀ (fuel : Nat) (i : Nat) (A : mj_S), (CI T F1 A) → (i ≤ 4) → 4 - i < fuel → J (gC z) mX4_weigh (d + 3) 42 [(0, .ref 28), (1, .ref 33), (2, .int (nI u)), (3, .int (nI i))] [] F1 A (fun v F' A' => ∃ n, v = none ∧ n ≤ 8 ∧ mj_u F 28 0 (nI n) = F' ∧ CI T F' A') := by
          intro fuel
          induction fuel with
          | zero => intro i A hC h2 hf; exact absurd hf (by omega)
          | succ fuel ih42 =>
            intro i A hC h2 hf
            refine j_iload_n dX4_weigh_42 rfl ?_
            refine j_aload_n dX4_weigh_43 rfl ?_
            refine j_getR (r := 29) dX4_weigh_44 flX4_9 (Nat.le_of_ble_eq_true rfl) rfl rfl ?_
            refine j_iload_n dX4_weigh_47 rfl ?_
            refine j_ialdN dX4_weigh_48 (Nat.le_of_ble_eq_true rfl) rfl (by omega) (by decide) ?_
            obtain ⟨t1, ht1, et1⟩ := (hC.2.2.2.1 28 n28).2 u (by omega)
            refine j_top (y0 := nI t1) et1 ?_
            refine j_icmp_geN (tgt := 74) dX4_weigh_49 (by decide) (by omega) (by omega) (fun c49 => ?_) (fun c49 => ?_)
            · refine j_iconst (v := nI 0) dX4_weigh_74 (by decide +kernel) ?_
              refine j_istore_n (lv' := [(0, .ref 28), (1, .ref 33), (2, .int (nI u)), (3, .int (nI 0))]) dX4_weigh_75 (Nat.le_of_ble_eq_true rfl) rfl rfl ?_
              exact L76 _ 0 A (by first | exact hC | omega) (by first | exact h2 | omega) (Nat.lt_succ_self _)
            · refine j_aload_n dX4_weigh_52 rfl ?_
              refine j_getR (r := 31) dX4_weigh_53 flX4_18 (Nat.le_of_ble_eq_true rfl) rfl rfl ?_
              refine j_iload_n dX4_weigh_56 rfl ?_
              refine j_iload_n dX4_weigh_57 rfl ?_
              refine j_callSN (y' := mX5_choicePlace) (As := [.int (nI u), .int (nI i)]) (st := [.ref 31]) dX4_weigh_58 lnX4_37 okX5_choicePlace stX5_choicePlace rfl (Nat.le_of_ble_eq_true rfl) (Nat.le_of_ble_eq_true rfl) (c_choicePlace z _ u i F1 A) (fun v58 F58 A58 hq58 => ?_)
              obtain ⟨rfl, rfl, r58, rfl, hr58⟩ := hq58
              refine j_aload_n dX4_weigh_61 rfl ?_
              refine j_iload_n dX4_weigh_62 rfl ?_
              refine j_iload_n dX4_weigh_63 rfl ?_
              refine j_callV (y' := mX0_choiceCost) (As := [.int (nI u), .int (nI i)]) (st := [.int (nI r58), .ref 31]) dX4_weigh_64 lkX4_41 okX0_choiceCost imX0_choiceCost seX0_choiceCost (Nat.le_of_ble_eq_true rfl) rfl rfl rfl rfl (Nat.le_of_ble_eq_true rfl) (Nat.le_of_ble_eq_true rfl) (c_choiceCost z _ u i (by omega) (by omega) F1 A) (fun v64 F64 A64 hq64 => ?_)
              obtain ⟨rfl, rfl, r64, rfl, hr64⟩ := hq64
              refine j_iastN dX4_weigh_67 (Nat.le_of_ble_eq_true rfl) rfl (by omega) (by decide) ?_
              have hC := hC.u (k := 31) rfl r58 r64
              refine j_iinc (v := nI (i + 1)) (lv' := [(0, .ref 28), (1, .ref 33), (2, .int (nI u)), (3, .int (nI (i + 1)))]) dX4_weigh_68 rfl (nI_add _ 1) (Nat.le_of_ble_eq_true rfl) rfl rfl ?_
              refine j_goto (tgt := 42) dX4_weigh_71 (by decide) ?_
              exact ih42 (i + 1) (mj_u A 31 r58 r64) (by first | exact hC | omega) (by first | exact h2 | omega) (by omega)
        refine j_iconst (v := nI 0) dX4_weigh_40 (by decide +kernel) ?_
        refine j_istore_n (lv' := [(0, .ref 28), (1, .ref 33), (2, .int (nI u)), (3, .int (nI 0))]) dX4_weigh_41 (Nat.le_of_ble_eq_true rfl) rfl rfl ?_
        exact L42 _ 0 A (by first | exact hC | omega) (by first | exact h2 | omega) (Nat.lt_succ_self _)
  refine j_iconst (v := nI 0) dX4_weigh_30 (by decide +kernel) ?_
  refine j_istore_n (lv' := [(0, .ref 28), (1, .ref 33), (2, .int (nI 0))]) dX4_weigh_31 (Nat.le_of_ble_eq_true rfl) rfl rfl ?_
  exact L32 _ 0 (mj_a (mj_a A 29 (va_cpy (A 34) (A 29) 0 0 8)) 30 (va_cpy ((mj_a A 29 (va_cpy (A 34) (A 29) 0 0 8)) 37) ((mj_a A 29 (va_cpy (A 34) (A 29) 0 0 8)) 30) 0 0 8)) (by first | exact hC | omega) (by first | exact h1 | omega) (Nat.lt_succ_self _)

set_option maxHeartbeats 400000 in
set_option maxRecDepth 100000 in
theorem c_costBeside28_8 (z : mj_B) (d : Nat) (T : Tg) (u i : Nat) (hu : u < 8) (hi : i < 4) (x : Int32) (hoth : (x >>> (nI u &&& 31)) &&& nI 1 = 0) (F A : mj_S) (hC : CI T F A) : J (gC z) mX4_costBeside (d + 2) 0 [(0, .ref 28), (1, .int (nI u)), (2, .int (nI i)), (3, .int x), (4, .ref 8)] [] F A (qP F A fun _ => True) := by
  obtain ⟨n, hn, en⟩ := (hC.2.2.2.1 28 n28).1
  have L22 : ∀ (fuel : Nat) (su : Int32) (v : Nat), (v ≤ n) → n - v < fuel → J (gC z) mX4_costBeside (d + 2) 22 [(0, .ref 28), (1, .int (nI u)), (2, .int (nI i)), (3, .int x), (4, .ref 8), (5, .int su), (6, .int (nI v))] [] F A (qP F A fun _ => True) := by
    intro fuel
    induction fuel with
    | zero => intro su v h1 hf; exact absurd hf (by omega)
    | succ fuel ih22 =>
      intro su v h1 hf
      refine j_iload dX4_costBeside_22 rfl ?_
      refine j_aload_n dX4_costBeside_24 rfl ?_
      refine j_getI dX4_costBeside_25 flX4_30 (Nat.le_of_ble_eq_true rfl) rfl rfl ?_
      refine j_top (y0 := nI n) en ?_
      refine j_icmp_geN (tgt := 75) dX4_costBeside_28 (by decide) (by omega) (by omega) (fun c28 => ?_) (fun c28 => ?_)
      · refine j_iload dX4_costBeside_75 rfl ?_
        refine j_callSN (y' := mX5_capped) (As := [.int su]) (st := []) dX4_costBeside_77 lnX4_62 okX5_capped stX5_capped rfl (Nat.le_of_ble_eq_true rfl) (Nat.le_of_ble_eq_true rfl) (c_capped z _ su F A) (fun v77 F77 A77 hq77 => ?_)
        obtain ⟨rfl, rfl, r77, rfl, hr77⟩ := hq77
        exact j_iret dX4_costBeside_80 rfl rfl ⟨rfl, rfl, _, rfl, trivial⟩
      · refine j_iload_n dX4_costBeside_31 rfl ?_
        refine j_iload dX4_costBeside_32 rfl ?_
        refine j_ishr dX4_costBeside_34 ?_
        refine j_if_eq (tgt := 75) dX4_costBeside_35 (by decide) (fun c35 => ?_) (fun c35 => ?_)
        · refine j_iload dX4_costBeside_75 rfl ?_
          refine j_callSN (y' := mX5_capped) (As := [.int su]) (st := []) dX4_costBeside_77 lnX4_62 okX5_capped stX5_capped rfl (Nat.le_of_ble_eq_true rfl) (Nat.le_of_ble_eq_true rfl) (c_capped z _ su F A) (fun v77 F77 A77 hq77 => ?_)
          obtain ⟨rfl, rfl, r77, rfl, hr77⟩ := hq77
          exact j_iret dX4_costBeside_80 rfl rfl ⟨rfl, rfl, _, rfl, trivial⟩
        · refine j_iload_n dX4_costBeside_38 rfl ?_
          refine j_iload dX4_costBeside_39 rfl ?_
          refine j_callSN (y' := mX5_hasBit) (As := [.int x, .int (nI v)]) (st := []) dX4_costBeside_41 lnX4_59 okX5_hasBit stX5_hasBit rfl (Nat.le_of_ble_eq_true rfl) (Nat.le_of_ble_eq_true rfl) (c_hasBit z _ x (nI v) F A) (fun v41 F41 A41 hq41 => ?_)
          obtain ⟨rfl, rfl, r41, rfl, hr41⟩ := hq41
          have hb41 : r41 ≤ 1 := hr41.1
          refine j_if_eqN (tgt := 69) dX4_costBeside_44 (by decide) (by omega) (fun c44 => ?_) (fun c44 => ?_)
          · refine j_iinc (v := nI (v + 1)) (lv' := [(0, .ref 28), (1, .int (nI u)), (2, .int (nI i)), (3, .int x), (4, .ref 8), (5, .int su), (6, .int (nI (v + 1)))]) dX4_costBeside_69 rfl (nI_add _ 1) (Nat.le_of_ble_eq_true rfl) rfl rfl ?_
            refine j_goto (tgt := 22) dX4_costBeside_72 (by decide) ?_
            exact ih22 su (v + 1) (by first | exact h1 | omega) (by omega)
          · have hne : u ≠ v := fun e => (hr41.2.mp (by omega)) (by rw [← e]; exact hoth)
            refine j_iload dX4_costBeside_47 rfl ?_
            refine j_aload_n dX4_costBeside_49 rfl ?_
            refine j_getR (r := 32) dX4_costBeside_50 flX4_21 (Nat.le_of_ble_eq_true rfl) rfl rfl ?_
            refine j_iload_n dX4_costBeside_53 rfl ?_
            refine j_iload dX4_costBeside_54 rfl ?_
            refine j_iload_n dX4_costBeside_56 rfl ?_
            refine j_aload dX4_costBeside_57 rfl ?_
            refine j_iload dX4_costBeside_59 rfl ?_
            refine j_ialdN dX4_costBeside_61 (Nat.le_of_ble_eq_true rfl) rfl (by omega) (by decide) ?_
            obtain ⟨t1, ht1, et1⟩ := hC.2.2.2.2.1.2.1 v (by omega)
            refine j_top (y0 := nI t1) et1 ?_
            refine j_callSN (y' := mX5_entryPlace) (As := [.int (nI u), .int (nI v), .int (nI i), .int (nI t1)]) (st := [.ref 32, .int su]) dX4_costBeside_62 lnX4_52 okX5_entryPlace stX5_entryPlace rfl (Nat.le_of_ble_eq_true rfl) (Nat.le_of_ble_eq_true rfl) (c_entryPlace z _ u v i t1 (by omega) (by omega) (by omega) F A) (fun v62 F62 A62 hq62 => ?_)
            obtain ⟨rfl, rfl, e62, rfl, he62⟩ := hq62
            have hl62 : e62 < 448 := by rw [he62]; exact eP_lt (by omega) (by omega) (by omega) (by omega) (by omega)
            refine j_ialdN dX4_costBeside_65 (Nat.le_of_ble_eq_true rfl) rfl (by omega) (by decide) ?_
            refine j_iadd dX4_costBeside_66 ?_
            refine j_istore (lv' := [(0, .ref 28), (1, .int (nI u)), (2, .int (nI i)), (3, .int x), (4, .ref 8), (5, .int (su + (A 32 e62))), (6, .int (nI v))]) dX4_costBeside_67 (Nat.le_of_ble_eq_true rfl) rfl rfl ?_
            refine j_iinc (v := nI (v + 1)) (lv' := [(0, .ref 28), (1, .int (nI u)), (2, .int (nI i)), (3, .int x), (4, .ref 8), (5, .int (su + (A 32 e62))), (6, .int (nI (v + 1)))]) dX4_costBeside_69 rfl (nI_add _ 1) (Nat.le_of_ble_eq_true rfl) rfl rfl ?_
            refine j_goto (tgt := 22) dX4_costBeside_72 (by decide) ?_
            exact ih22 (su + (A 32 e62)) (v + 1) (by first | exact h1 | omega) (by omega)
  refine j_aload_n dX4_costBeside_0 rfl ?_
  refine j_getR (r := 31) dX4_costBeside_1 flX4_18 (Nat.le_of_ble_eq_true rfl) rfl rfl ?_
  refine j_iload_n dX4_costBeside_4 rfl ?_
  refine j_iload_n dX4_costBeside_5 rfl ?_
  refine j_callSN (y' := mX5_choicePlace) (As := [.int (nI u), .int (nI i)]) (st := [.ref 31]) dX4_costBeside_6 lnX4_37 okX5_choicePlace stX5_choicePlace rfl (Nat.le_of_ble_eq_true rfl) (Nat.le_of_ble_eq_true rfl) (c_choicePlace z _ u i F A) (fun v6 F6 A6 hq6 => ?_)
  obtain ⟨rfl, rfl, r6, rfl, hr6⟩ := hq6
  refine j_ialdN dX4_costBeside_9 (Nat.le_of_ble_eq_true rfl) rfl (by omega) (by decide) ?_
  refine j_istore (lv' := [(0, .ref 28), (1, .int (nI u)), (2, .int (nI i)), (3, .int x), (4, .ref 8), (5, .int (A 31 r6))]) dX4_costBeside_10 (Nat.le_of_ble_eq_true rfl) rfl rfl ?_
  refine j_iload_n dX4_costBeside_12 rfl ?_
  refine j_if_ne (tgt := 19) dX4_costBeside_13 (by decide) (fun c13 => ?_) (fun c13 => ?_)
  · refine j_iconst (v := nI 0) dX4_costBeside_19 (by decide +kernel) ?_
    refine j_istore (lv' := [(0, .ref 28), (1, .int (nI u)), (2, .int (nI i)), (3, .int x), (4, .ref 8), (5, .int (A 31 r6)), (6, .int (nI 0))]) dX4_costBeside_20 (Nat.le_of_ble_eq_true rfl) rfl rfl ?_
    exact L22 _ (A 31 r6) 0 (by first | exact h1 | omega) (Nat.lt_succ_self _)
  · refine j_iload dX4_costBeside_16 rfl ?_
    exact j_iret dX4_costBeside_18 rfl rfl ⟨rfl, rfl, _, rfl, trivial⟩

set_option maxHeartbeats 400000 in
set_option maxRecDepth 100000 in
theorem c_costBeside18_8 (z : mj_B) (d : Nat) (T : Tg) (u i : Nat) (hu : u < 8) (hi : i < 4) (x : Int32) (hoth : (x >>> (nI u &&& 31)) &&& nI 1 = 0) (F A : mj_S) (hC : CI T F A) : J (gC z) mX4_costBeside (d + 2) 0 [(0, .ref 18), (1, .int (nI u)), (2, .int (nI i)), (3, .int x), (4, .ref 8)] [] F A (qP F A fun _ => True) := by
  obtain ⟨n, hn, en⟩ := (hC.2.2.2.1 18 n18).1
  have L22 : ∀ (fuel : Nat) (su : Int32) (v : Nat), (v ≤ n) → n - v < fuel → J (gC z) mX4_costBeside (d + 2) 22 [(0, .ref 18), (1, .int (nI u)), (2, .int (nI i)), (3, .int x), (4, .ref 8), (5, .int su), (6, .int (nI v))] [] F A (qP F A fun _ => True) := by
    intro fuel
    induction fuel with
    | zero => intro su v h1 hf; exact absurd hf (by omega)
    | succ fuel ih22 =>
      intro su v h1 hf
      refine j_iload dX4_costBeside_22 rfl ?_
      refine j_aload_n dX4_costBeside_24 rfl ?_
      refine j_getI dX4_costBeside_25 flX4_30 (Nat.le_of_ble_eq_true rfl) rfl rfl ?_
      refine j_top (y0 := nI n) en ?_
      refine j_icmp_geN (tgt := 75) dX4_costBeside_28 (by decide) (by omega) (by omega) (fun c28 => ?_) (fun c28 => ?_)
      · refine j_iload dX4_costBeside_75 rfl ?_
        refine j_callSN (y' := mX5_capped) (As := [.int su]) (st := []) dX4_costBeside_77 lnX4_62 okX5_capped stX5_capped rfl (Nat.le_of_ble_eq_true rfl) (Nat.le_of_ble_eq_true rfl) (c_capped z _ su F A) (fun v77 F77 A77 hq77 => ?_)
        obtain ⟨rfl, rfl, r77, rfl, hr77⟩ := hq77
        exact j_iret dX4_costBeside_80 rfl rfl ⟨rfl, rfl, _, rfl, trivial⟩
      · refine j_iload_n dX4_costBeside_31 rfl ?_
        refine j_iload dX4_costBeside_32 rfl ?_
        refine j_ishr dX4_costBeside_34 ?_
        refine j_if_eq (tgt := 75) dX4_costBeside_35 (by decide) (fun c35 => ?_) (fun c35 => ?_)
        · refine j_iload dX4_costBeside_75 rfl ?_
          refine j_callSN (y' := mX5_capped) (As := [.int su]) (st := []) dX4_costBeside_77 lnX4_62 okX5_capped stX5_capped rfl (Nat.le_of_ble_eq_true rfl) (Nat.le_of_ble_eq_true rfl) (c_capped z _ su F A) (fun v77 F77 A77 hq77 => ?_)
          obtain ⟨rfl, rfl, r77, rfl, hr77⟩ := hq77
          exact j_iret dX4_costBeside_80 rfl rfl ⟨rfl, rfl, _, rfl, trivial⟩
        · refine j_iload_n dX4_costBeside_38 rfl ?_
          refine j_iload dX4_costBeside_39 rfl ?_
          refine j_callSN (y' := mX5_hasBit) (As := [.int x, .int (nI v)]) (st := []) dX4_costBeside_41 lnX4_59 okX5_hasBit stX5_hasBit rfl (Nat.le_of_ble_eq_true rfl) (Nat.le_of_ble_eq_true rfl) (c_hasBit z _ x (nI v) F A) (fun v41 F41 A41 hq41 => ?_)
          obtain ⟨rfl, rfl, r41, rfl, hr41⟩ := hq41
          have hb41 : r41 ≤ 1 := hr41.1
          refine j_if_eqN (tgt := 69) dX4_costBeside_44 (by decide) (by omega) (fun c44 => ?_) (fun c44 => ?_)
          · refine j_iinc (v := nI (v + 1)) (lv' := [(0, .ref 18), (1, .int (nI u)), (2, .int (nI i)), (3, .int x), (4, .ref 8), (5, .int su), (6, .int (nI (v + 1)))]) dX4_costBeside_69 rfl (nI_add _ 1) (Nat.le_of_ble_eq_true rfl) rfl rfl ?_
            refine j_goto (tgt := 22) dX4_costBeside_72 (by decide) ?_
            exact ih22 su (v + 1) (by first | exact h1 | omega) (by omega)
          · have hne : u ≠ v := fun e => (hr41.2.mp (by omega)) (by rw [← e]; exact hoth)
            refine j_iload dX4_costBeside_47 rfl ?_
            refine j_aload_n dX4_costBeside_49 rfl ?_
            refine j_getR (r := 22) dX4_costBeside_50 flX4_21 (Nat.le_of_ble_eq_true rfl) rfl rfl ?_
            refine j_iload_n dX4_costBeside_53 rfl ?_
            refine j_iload dX4_costBeside_54 rfl ?_
            refine j_iload_n dX4_costBeside_56 rfl ?_
            refine j_aload dX4_costBeside_57 rfl ?_
            refine j_iload dX4_costBeside_59 rfl ?_
            refine j_ialdN dX4_costBeside_61 (Nat.le_of_ble_eq_true rfl) rfl (by omega) (by decide) ?_
            obtain ⟨t1, ht1, et1⟩ := hC.2.2.2.2.1.2.1 v (by omega)
            refine j_top (y0 := nI t1) et1 ?_
            refine j_callSN (y' := mX5_entryPlace) (As := [.int (nI u), .int (nI v), .int (nI i), .int (nI t1)]) (st := [.ref 22, .int su]) dX4_costBeside_62 lnX4_52 okX5_entryPlace stX5_entryPlace rfl (Nat.le_of_ble_eq_true rfl) (Nat.le_of_ble_eq_true rfl) (c_entryPlace z _ u v i t1 (by omega) (by omega) (by omega) F A) (fun v62 F62 A62 hq62 => ?_)
            obtain ⟨rfl, rfl, e62, rfl, he62⟩ := hq62
            have hl62 : e62 < 448 := by rw [he62]; exact eP_lt (by omega) (by omega) (by omega) (by omega) (by omega)
            refine j_ialdN dX4_costBeside_65 (Nat.le_of_ble_eq_true rfl) rfl (by omega) (by decide) ?_
            refine j_iadd dX4_costBeside_66 ?_
            refine j_istore (lv' := [(0, .ref 18), (1, .int (nI u)), (2, .int (nI i)), (3, .int x), (4, .ref 8), (5, .int (su + (A 22 e62))), (6, .int (nI v))]) dX4_costBeside_67 (Nat.le_of_ble_eq_true rfl) rfl rfl ?_
            refine j_iinc (v := nI (v + 1)) (lv' := [(0, .ref 18), (1, .int (nI u)), (2, .int (nI i)), (3, .int x), (4, .ref 8), (5, .int (su + (A 22 e62))), (6, .int (nI (v + 1)))]) dX4_costBeside_69 rfl (nI_add _ 1) (Nat.le_of_ble_eq_true rfl) rfl rfl ?_
            refine j_goto (tgt := 22) dX4_costBeside_72 (by decide) ?_
            exact ih22 (su + (A 22 e62)) (v + 1) (by first | exact h1 | omega) (by omega)
  refine j_aload_n dX4_costBeside_0 rfl ?_
  refine j_getR (r := 21) dX4_costBeside_1 flX4_18 (Nat.le_of_ble_eq_true rfl) rfl rfl ?_
  refine j_iload_n dX4_costBeside_4 rfl ?_
  refine j_iload_n dX4_costBeside_5 rfl ?_
  refine j_callSN (y' := mX5_choicePlace) (As := [.int (nI u), .int (nI i)]) (st := [.ref 21]) dX4_costBeside_6 lnX4_37 okX5_choicePlace stX5_choicePlace rfl (Nat.le_of_ble_eq_true rfl) (Nat.le_of_ble_eq_true rfl) (c_choicePlace z _ u i F A) (fun v6 F6 A6 hq6 => ?_)
  obtain ⟨rfl, rfl, r6, rfl, hr6⟩ := hq6
  refine j_ialdN dX4_costBeside_9 (Nat.le_of_ble_eq_true rfl) rfl (by omega) (by decide) ?_
  refine j_istore (lv' := [(0, .ref 18), (1, .int (nI u)), (2, .int (nI i)), (3, .int x), (4, .ref 8), (5, .int (A 21 r6))]) dX4_costBeside_10 (Nat.le_of_ble_eq_true rfl) rfl rfl ?_
  refine j_iload_n dX4_costBeside_12 rfl ?_
  refine j_if_ne (tgt := 19) dX4_costBeside_13 (by decide) (fun c13 => ?_) (fun c13 => ?_)
  · refine j_iconst (v := nI 0) dX4_costBeside_19 (by decide +kernel) ?_
    refine j_istore (lv' := [(0, .ref 18), (1, .int (nI u)), (2, .int (nI i)), (3, .int x), (4, .ref 8), (5, .int (A 21 r6)), (6, .int (nI 0))]) dX4_costBeside_20 (Nat.le_of_ble_eq_true rfl) rfl rfl ?_
    exact L22 _ (A 21 r6) 0 (by first | exact h1 | omega) (Nat.lt_succ_self _)
  · refine j_iload dX4_costBeside_16 rfl ?_
    exact j_iret dX4_costBeside_18 rfl rfl ⟨rfl, rfl, _, rfl, trivial⟩

set_option maxHeartbeats 400000 in
set_option maxRecDepth 100000 in
theorem c_costBeside18_12 (z : mj_B) (d : Nat) (T : Tg) (u i : Nat) (hu : u < 8) (hi : i < 4) (x : Int32) (hoth : (x >>> (nI u &&& 31)) &&& nI 1 = 0) (F A : mj_S) (hC : CI T F A) : J (gC z) mX4_costBeside (d + 2) 0 [(0, .ref 18), (1, .int (nI u)), (2, .int (nI i)), (3, .int x), (4, .ref 12)] [] F A (qP F A fun _ => True) := by
  obtain ⟨n, hn, en⟩ := (hC.2.2.2.1 18 n18).1
  have L22 : ∀ (fuel : Nat) (su : Int32) (v : Nat), (v ≤ n) → n - v < fuel → J (gC z) mX4_costBeside (d + 2) 22 [(0, .ref 18), (1, .int (nI u)), (2, .int (nI i)), (3, .int x), (4, .ref 12), (5, .int su), (6, .int (nI v))] [] F A (qP F A fun _ => True) := by
    intro fuel
    induction fuel with
    | zero => intro su v h1 hf; exact absurd hf (by omega)
    | succ fuel ih22 =>
      intro su v h1 hf
      refine j_iload dX4_costBeside_22 rfl ?_
      refine j_aload_n dX4_costBeside_24 rfl ?_
      refine j_getI dX4_costBeside_25 flX4_30 (Nat.le_of_ble_eq_true rfl) rfl rfl ?_
      refine j_top (y0 := nI n) en ?_
      refine j_icmp_geN (tgt := 75) dX4_costBeside_28 (by decide) (by omega) (by omega) (fun c28 => ?_) (fun c28 => ?_)
      · refine j_iload dX4_costBeside_75 rfl ?_
        refine j_callSN (y' := mX5_capped) (As := [.int su]) (st := []) dX4_costBeside_77 lnX4_62 okX5_capped stX5_capped rfl (Nat.le_of_ble_eq_true rfl) (Nat.le_of_ble_eq_true rfl) (c_capped z _ su F A) (fun v77 F77 A77 hq77 => ?_)
        obtain ⟨rfl, rfl, r77, rfl, hr77⟩ := hq77
        exact j_iret dX4_costBeside_80 rfl rfl ⟨rfl, rfl, _, rfl, trivial⟩
      · refine j_iload_n dX4_costBeside_31 rfl ?_
        refine j_iload dX4_costBeside_32 rfl ?_
        refine j_ishr dX4_costBeside_34 ?_
        refine j_if_eq (tgt := 75) dX4_costBeside_35 (by decide) (fun c35 => ?_) (fun c35 => ?_)
        · refine j_iload dX4_costBeside_75 rfl ?_
          refine j_callSN (y' := mX5_capped) (As := [.int su]) (st := []) dX4_costBeside_77 lnX4_62 okX5_capped stX5_capped rfl (Nat.le_of_ble_eq_true rfl) (Nat.le_of_ble_eq_true rfl) (c_capped z _ su F A) (fun v77 F77 A77 hq77 => ?_)
          obtain ⟨rfl, rfl, r77, rfl, hr77⟩ := hq77
          exact j_iret dX4_costBeside_80 rfl rfl ⟨rfl, rfl, _, rfl, trivial⟩
        · refine j_iload_n dX4_costBeside_38 rfl ?_
          refine j_iload dX4_costBeside_39 rfl ?_
          refine j_callSN (y' := mX5_hasBit) (As := [.int x, .int (nI v)]) (st := []) dX4_costBeside_41 lnX4_59 okX5_hasBit stX5_hasBit rfl (Nat.le_of_ble_eq_true rfl) (Nat.le_of_ble_eq_true rfl) (c_hasBit z _ x (nI v) F A) (fun v41 F41 A41 hq41 => ?_)
          obtain ⟨rfl, rfl, r41, rfl, hr41⟩ := hq41
          have hb41 : r41 ≤ 1 := hr41.1
          refine j_if_eqN (tgt := 69) dX4_costBeside_44 (by decide) (by omega) (fun c44 => ?_) (fun c44 => ?_)
          · refine j_iinc (v := nI (v + 1)) (lv' := [(0, .ref 18), (1, .int (nI u)), (2, .int (nI i)), (3, .int x), (4, .ref 12), (5, .int su), (6, .int (nI (v + 1)))]) dX4_costBeside_69 rfl (nI_add _ 1) (Nat.le_of_ble_eq_true rfl) rfl rfl ?_
            refine j_goto (tgt := 22) dX4_costBeside_72 (by decide) ?_
            exact ih22 su (v + 1) (by first | exact h1 | omega) (by omega)
          · have hne : u ≠ v := fun e => (hr41.2.mp (by omega)) (by rw [← e]; exact hoth)
            refine j_iload dX4_costBeside_47 rfl ?_
            refine j_aload_n dX4_costBeside_49 rfl ?_
            refine j_getR (r := 22) dX4_costBeside_50 flX4_21 (Nat.le_of_ble_eq_true rfl) rfl rfl ?_
            refine j_iload_n dX4_costBeside_53 rfl ?_
            refine j_iload dX4_costBeside_54 rfl ?_
            refine j_iload_n dX4_costBeside_56 rfl ?_
            refine j_aload dX4_costBeside_57 rfl ?_
            refine j_iload dX4_costBeside_59 rfl ?_
            refine j_ialdN dX4_costBeside_61 (Nat.le_of_ble_eq_true rfl) rfl (by omega) (by decide) ?_
            obtain ⟨t1, ht1, et1⟩ := hC.2.2.2.2.1.2.2.1 v (by omega)
            refine j_top (y0 := nI t1) et1 ?_
            refine j_callSN (y' := mX5_entryPlace) (As := [.int (nI u), .int (nI v), .int (nI i), .int (nI t1)]) (st := [.ref 22, .int su]) dX4_costBeside_62 lnX4_52 okX5_entryPlace stX5_entryPlace rfl (Nat.le_of_ble_eq_true rfl) (Nat.le_of_ble_eq_true rfl) (c_entryPlace z _ u v i t1 (by omega) (by omega) (by omega) F A) (fun v62 F62 A62 hq62 => ?_)
            obtain ⟨rfl, rfl, e62, rfl, he62⟩ := hq62
            have hl62 : e62 < 448 := by rw [he62]; exact eP_lt (by omega) (by omega) (by omega) (by omega) (by omega)
            refine j_ialdN dX4_costBeside_65 (Nat.le_of_ble_eq_true rfl) rfl (by omega) (by decide) ?_
            refine j_iadd dX4_costBeside_66 ?_
            refine j_istore (lv' := [(0, .ref 18), (1, .int (nI u)), (2, .int (nI i)), (3, .int x), (4, .ref 12), (5, .int (su + (A 22 e62))), (6, .int (nI v))]) dX4_costBeside_67 (Nat.le_of_ble_eq_true rfl) rfl rfl ?_
            refine j_iinc (v := nI (v + 1)) (lv' := [(0, .ref 18), (1, .int (nI u)), (2, .int (nI i)), (3, .int x), (4, .ref 12), (5, .int (su + (A 22 e62))), (6, .int (nI (v + 1)))]) dX4_costBeside_69 rfl (nI_add _ 1) (Nat.le_of_ble_eq_true rfl) rfl rfl ?_
            refine j_goto (tgt := 22) dX4_costBeside_72 (by decide) ?_
            exact ih22 (su + (A 22 e62)) (v + 1) (by first | exact h1 | omega) (by omega)
  refine j_aload_n dX4_costBeside_0 rfl ?_
  refine j_getR (r := 21) dX4_costBeside_1 flX4_18 (Nat.le_of_ble_eq_true rfl) rfl rfl ?_
  refine j_iload_n dX4_costBeside_4 rfl ?_
  refine j_iload_n dX4_costBeside_5 rfl ?_
  refine j_callSN (y' := mX5_choicePlace) (As := [.int (nI u), .int (nI i)]) (st := [.ref 21]) dX4_costBeside_6 lnX4_37 okX5_choicePlace stX5_choicePlace rfl (Nat.le_of_ble_eq_true rfl) (Nat.le_of_ble_eq_true rfl) (c_choicePlace z _ u i F A) (fun v6 F6 A6 hq6 => ?_)
  obtain ⟨rfl, rfl, r6, rfl, hr6⟩ := hq6
  refine j_ialdN dX4_costBeside_9 (Nat.le_of_ble_eq_true rfl) rfl (by omega) (by decide) ?_
  refine j_istore (lv' := [(0, .ref 18), (1, .int (nI u)), (2, .int (nI i)), (3, .int x), (4, .ref 12), (5, .int (A 21 r6))]) dX4_costBeside_10 (Nat.le_of_ble_eq_true rfl) rfl rfl ?_
  refine j_iload_n dX4_costBeside_12 rfl ?_
  refine j_if_ne (tgt := 19) dX4_costBeside_13 (by decide) (fun c13 => ?_) (fun c13 => ?_)
  · refine j_iconst (v := nI 0) dX4_costBeside_19 (by decide +kernel) ?_
    refine j_istore (lv' := [(0, .ref 18), (1, .int (nI u)), (2, .int (nI i)), (3, .int x), (4, .ref 12), (5, .int (A 21 r6)), (6, .int (nI 0))]) dX4_costBeside_20 (Nat.le_of_ble_eq_true rfl) rfl rfl ?_
    exact L22 _ (A 21 r6) 0 (by first | exact h1 | omega) (Nat.lt_succ_self _)
  · refine j_iload dX4_costBeside_16 rfl ?_
    exact j_iret dX4_costBeside_18 rfl rfl ⟨rfl, rfl, _, rfl, trivial⟩

set_option maxHeartbeats 400000 in
set_option maxRecDepth 100000 in
theorem c_costBeside23_16 (z : mj_B) (d : Nat) (T : Tg) (u i : Nat) (hu : u < 8) (hi : i < 4) (x : Int32) (hoth : (x >>> (nI u &&& 31)) &&& nI 1 = 0) (F A : mj_S) (hC : CI T F A) : J (gC z) mX4_costBeside (d + 2) 0 [(0, .ref 23), (1, .int (nI u)), (2, .int (nI i)), (3, .int x), (4, .ref 16)] [] F A (qP F A fun _ => True) := by
  obtain ⟨n, hn, en⟩ := (hC.2.2.2.1 23 n23).1
  have L22 : ∀ (fuel : Nat) (su : Int32) (v : Nat), (v ≤ n) → n - v < fuel → J (gC z) mX4_costBeside (d + 2) 22 [(0, .ref 23), (1, .int (nI u)), (2, .int (nI i)), (3, .int x), (4, .ref 16), (5, .int su), (6, .int (nI v))] [] F A (qP F A fun _ => True) := by
    intro fuel
    induction fuel with
    | zero => intro su v h1 hf; exact absurd hf (by omega)
    | succ fuel ih22 =>
      intro su v h1 hf
      refine j_iload dX4_costBeside_22 rfl ?_
      refine j_aload_n dX4_costBeside_24 rfl ?_
      refine j_getI dX4_costBeside_25 flX4_30 (Nat.le_of_ble_eq_true rfl) rfl rfl ?_
      refine j_top (y0 := nI n) en ?_
      refine j_icmp_geN (tgt := 75) dX4_costBeside_28 (by decide) (by omega) (by omega) (fun c28 => ?_) (fun c28 => ?_)
      · refine j_iload dX4_costBeside_75 rfl ?_
        refine j_callSN (y' := mX5_capped) (As := [.int su]) (st := []) dX4_costBeside_77 lnX4_62 okX5_capped stX5_capped rfl (Nat.le_of_ble_eq_true rfl) (Nat.le_of_ble_eq_true rfl) (c_capped z _ su F A) (fun v77 F77 A77 hq77 => ?_)
        obtain ⟨rfl, rfl, r77, rfl, hr77⟩ := hq77
        exact j_iret dX4_costBeside_80 rfl rfl ⟨rfl, rfl, _, rfl, trivial⟩
      · refine j_iload_n dX4_costBeside_31 rfl ?_
        refine j_iload dX4_costBeside_32 rfl ?_
        refine j_ishr dX4_costBeside_34 ?_
        refine j_if_eq (tgt := 75) dX4_costBeside_35 (by decide) (fun c35 => ?_) (fun c35 => ?_)
        · refine j_iload dX4_costBeside_75 rfl ?_
          refine j_callSN (y' := mX5_capped) (As := [.int su]) (st := []) dX4_costBeside_77 lnX4_62 okX5_capped stX5_capped rfl (Nat.le_of_ble_eq_true rfl) (Nat.le_of_ble_eq_true rfl) (c_capped z _ su F A) (fun v77 F77 A77 hq77 => ?_)
          obtain ⟨rfl, rfl, r77, rfl, hr77⟩ := hq77
          exact j_iret dX4_costBeside_80 rfl rfl ⟨rfl, rfl, _, rfl, trivial⟩
        · refine j_iload_n dX4_costBeside_38 rfl ?_
          refine j_iload dX4_costBeside_39 rfl ?_
          refine j_callSN (y' := mX5_hasBit) (As := [.int x, .int (nI v)]) (st := []) dX4_costBeside_41 lnX4_59 okX5_hasBit stX5_hasBit rfl (Nat.le_of_ble_eq_true rfl) (Nat.le_of_ble_eq_true rfl) (c_hasBit z _ x (nI v) F A) (fun v41 F41 A41 hq41 => ?_)
          obtain ⟨rfl, rfl, r41, rfl, hr41⟩ := hq41
          have hb41 : r41 ≤ 1 := hr41.1
          refine j_if_eqN (tgt := 69) dX4_costBeside_44 (by decide) (by omega) (fun c44 => ?_) (fun c44 => ?_)
          · refine j_iinc (v := nI (v + 1)) (lv' := [(0, .ref 23), (1, .int (nI u)), (2, .int (nI i)), (3, .int x), (4, .ref 16), (5, .int su), (6, .int (nI (v + 1)))]) dX4_costBeside_69 rfl (nI_add _ 1) (Nat.le_of_ble_eq_true rfl) rfl rfl ?_
            refine j_goto (tgt := 22) dX4_costBeside_72 (by decide) ?_
            exact ih22 su (v + 1) (by first | exact h1 | omega) (by omega)
          · have hne : u ≠ v := fun e => (hr41.2.mp (by omega)) (by rw [← e]; exact hoth)
            refine j_iload dX4_costBeside_47 rfl ?_
            refine j_aload_n dX4_costBeside_49 rfl ?_
            refine j_getR (r := 27) dX4_costBeside_50 flX4_21 (Nat.le_of_ble_eq_true rfl) rfl rfl ?_
            refine j_iload_n dX4_costBeside_53 rfl ?_
            refine j_iload dX4_costBeside_54 rfl ?_
            refine j_iload_n dX4_costBeside_56 rfl ?_
            refine j_aload dX4_costBeside_57 rfl ?_
            refine j_iload dX4_costBeside_59 rfl ?_
            refine j_ialdN dX4_costBeside_61 (Nat.le_of_ble_eq_true rfl) rfl (by omega) (by decide) ?_
            obtain ⟨t1, ht1, et1⟩ := hC.2.2.2.2.1.2.2.2 v (by omega)
            refine j_top (y0 := nI t1) et1 ?_
            refine j_callSN (y' := mX5_entryPlace) (As := [.int (nI u), .int (nI v), .int (nI i), .int (nI t1)]) (st := [.ref 27, .int su]) dX4_costBeside_62 lnX4_52 okX5_entryPlace stX5_entryPlace rfl (Nat.le_of_ble_eq_true rfl) (Nat.le_of_ble_eq_true rfl) (c_entryPlace z _ u v i t1 (by omega) (by omega) (by omega) F A) (fun v62 F62 A62 hq62 => ?_)
            obtain ⟨rfl, rfl, e62, rfl, he62⟩ := hq62
            have hl62 : e62 < 448 := by rw [he62]; exact eP_lt (by omega) (by omega) (by omega) (by omega) (by omega)
            refine j_ialdN dX4_costBeside_65 (Nat.le_of_ble_eq_true rfl) rfl (by omega) (by decide) ?_
            refine j_iadd dX4_costBeside_66 ?_
            refine j_istore (lv' := [(0, .ref 23), (1, .int (nI u)), (2, .int (nI i)), (3, .int x), (4, .ref 16), (5, .int (su + (A 27 e62))), (6, .int (nI v))]) dX4_costBeside_67 (Nat.le_of_ble_eq_true rfl) rfl rfl ?_
            refine j_iinc (v := nI (v + 1)) (lv' := [(0, .ref 23), (1, .int (nI u)), (2, .int (nI i)), (3, .int x), (4, .ref 16), (5, .int (su + (A 27 e62))), (6, .int (nI (v + 1)))]) dX4_costBeside_69 rfl (nI_add _ 1) (Nat.le_of_ble_eq_true rfl) rfl rfl ?_
            refine j_goto (tgt := 22) dX4_costBeside_72 (by decide) ?_
            exact ih22 (su + (A 27 e62)) (v + 1) (by first | exact h1 | omega) (by omega)
  refine j_aload_n dX4_costBeside_0 rfl ?_
  refine j_getR (r := 26) dX4_costBeside_1 flX4_18 (Nat.le_of_ble_eq_true rfl) rfl rfl ?_
  refine j_iload_n dX4_costBeside_4 rfl ?_
  refine j_iload_n dX4_costBeside_5 rfl ?_
  refine j_callSN (y' := mX5_choicePlace) (As := [.int (nI u), .int (nI i)]) (st := [.ref 26]) dX4_costBeside_6 lnX4_37 okX5_choicePlace stX5_choicePlace rfl (Nat.le_of_ble_eq_true rfl) (Nat.le_of_ble_eq_true rfl) (c_choicePlace z _ u i F A) (fun v6 F6 A6 hq6 => ?_)
  obtain ⟨rfl, rfl, r6, rfl, hr6⟩ := hq6
  refine j_ialdN dX4_costBeside_9 (Nat.le_of_ble_eq_true rfl) rfl (by omega) (by decide) ?_
  refine j_istore (lv' := [(0, .ref 23), (1, .int (nI u)), (2, .int (nI i)), (3, .int x), (4, .ref 16), (5, .int (A 26 r6))]) dX4_costBeside_10 (Nat.le_of_ble_eq_true rfl) rfl rfl ?_
  refine j_iload_n dX4_costBeside_12 rfl ?_
  refine j_if_ne (tgt := 19) dX4_costBeside_13 (by decide) (fun c13 => ?_) (fun c13 => ?_)
  · refine j_iconst (v := nI 0) dX4_costBeside_19 (by decide +kernel) ?_
    refine j_istore (lv' := [(0, .ref 23), (1, .int (nI u)), (2, .int (nI i)), (3, .int x), (4, .ref 16), (5, .int (A 26 r6)), (6, .int (nI 0))]) dX4_costBeside_20 (Nat.le_of_ble_eq_true rfl) rfl rfl ?_
    exact L22 _ (A 26 r6) 0 (by first | exact h1 | omega) (Nat.lt_succ_self _)
  · refine j_iload dX4_costBeside_16 rfl ?_
    exact j_iret dX4_costBeside_18 rfl rfl ⟨rfl, rfl, _, rfl, trivial⟩

set_option maxHeartbeats 400000 in
set_option maxRecDepth 100000 in
theorem c_planCost18 (z : mj_B) (d : Nat) (T : Tg) (F A : mj_S) (hC : CI T F A) : J (gC z) mX4_planCost (d + 3) 0 [(0, .ref 18), (1, .ref 8)] [] F A (qP F A fun _ => True) := by
  obtain ⟨n, hn, en⟩ := (hC.2.2.2.1 18 n18).1
  have L4 : ∀ (fuel : Nat) (su : Int32) (u : Nat), (u ≤ n) → n - u < fuel → J (gC z) mX4_planCost (d + 3) 4 [(0, .ref 18), (1, .ref 8), (2, .int su), (3, .int (nI u))] [] F A (qP F A fun _ => True) := by
    intro fuel
    induction fuel with
    | zero => intro su u h1 hf; exact absurd hf (by omega)
    | succ fuel ih4 =>
      intro su u h1 hf
      refine j_iload_n dX4_planCost_4 rfl ?_
      refine j_aload_n dX4_planCost_5 rfl ?_
      refine j_getI dX4_planCost_6 flX4_30 (Nat.le_of_ble_eq_true rfl) rfl rfl ?_
      refine j_top (y0 := nI n) en ?_
      refine j_icmp_geN (tgt := 38) dX4_planCost_9 (by decide) (by omega) (by omega) (fun c9 => ?_) (fun c9 => ?_)
      · refine j_iload_n dX4_planCost_38 rfl ?_
        exact j_iret dX4_planCost_39 rfl rfl ⟨rfl, rfl, _, rfl, trivial⟩
      · refine j_iload_n dX4_planCost_12 rfl ?_
        refine j_aload_n dX4_planCost_13 rfl ?_
        refine j_iload_n dX4_planCost_14 rfl ?_
        refine j_aload_n dX4_planCost_15 rfl ?_
        refine j_iload_n dX4_planCost_16 rfl ?_
        refine j_ialdN dX4_planCost_17 (Nat.le_of_ble_eq_true rfl) rfl (by omega) (by decide) ?_
        obtain ⟨t1, ht1, et1⟩ := hC.2.2.2.2.1.2.1 u (by omega)
        refine j_top (y0 := nI t1) et1 ?_
        refine j_aload_n dX4_planCost_18 rfl ?_
        refine j_iload_n dX4_planCost_19 rfl ?_
        refine j_callV (y' := mX4_matesBelow) (As := [.int (nI u)]) (st := [.int (nI t1), .int (nI u), .ref 18, .int su]) dX4_planCost_20 lkX4_67 okX4_matesBelow imX4_matesBelow seX4_matesBelow (Nat.le_of_ble_eq_true rfl) rfl rfl rfl rfl (Nat.le_of_ble_eq_true rfl) (Nat.le_of_ble_eq_true rfl) (c_matesBelow18 z _ _ u (by omega) F A hC) (fun v20 F20 A20 hq20 => ?_)
        obtain ⟨rfl, rfl, r20, rfl, hr20⟩ := hq20
        refine j_aload_n dX4_planCost_23 rfl ?_
        refine j_callV (y' := mX4_costBeside) (As := [.int (nI u), .int (nI t1), .int r20, .ref 8]) (st := [.int su]) dX4_planCost_24 lkX4_70 okX4_costBeside imX4_costBeside seX4_costBeside (Nat.le_of_ble_eq_true rfl) rfl rfl rfl rfl (Nat.le_of_ble_eq_true rfl) (Nat.le_of_ble_eq_true rfl) (c_costBeside18_8 z _ _ u t1 (by omega) (by omega) r20 hr20 F A hC) (fun v24 F24 A24 hq24 => ?_)
        obtain ⟨rfl, rfl, r24, rfl, -⟩ := hq24
        refine j_iadd dX4_planCost_27 ?_
        refine j_callSN (y' := mX5_capped) (As := [.int (su + r24)]) (st := []) dX4_planCost_28 lnX4_62 okX5_capped stX5_capped rfl (Nat.le_of_ble_eq_true rfl) (Nat.le_of_ble_eq_true rfl) (c_capped z _ (su + r24) F A) (fun v28 F28 A28 hq28 => ?_)
        obtain ⟨rfl, rfl, r28, rfl, hr28⟩ := hq28
        refine j_istore_n (lv' := [(0, .ref 18), (1, .ref 8), (2, .int r28), (3, .int (nI u))]) dX4_planCost_31 (Nat.le_of_ble_eq_true rfl) rfl rfl ?_
        refine j_iinc (v := nI (u + 1)) (lv' := [(0, .ref 18), (1, .ref 8), (2, .int r28), (3, .int (nI (u + 1)))]) dX4_planCost_32 rfl (nI_add _ 1) (Nat.le_of_ble_eq_true rfl) rfl rfl ?_
        refine j_goto (tgt := 4) dX4_planCost_35 (by decide) ?_
        exact ih4 r28 (u + 1) (by first | exact h1 | omega) (by omega)
  refine j_iconst (v := nI 0) dX4_planCost_0 (by decide +kernel) ?_
  refine j_istore_n (lv' := [(0, .ref 18), (1, .ref 8), (2, .int (nI 0))]) dX4_planCost_1 (Nat.le_of_ble_eq_true rfl) rfl rfl ?_
  refine j_iconst (v := nI 0) dX4_planCost_2 (by decide +kernel) ?_
  refine j_istore_n (lv' := [(0, .ref 18), (1, .ref 8), (2, .int (nI 0)), (3, .int (nI 0))]) dX4_planCost_3 (Nat.le_of_ble_eq_true rfl) rfl rfl ?_
  exact L4 _ (nI 0) 0 (by first | exact h1 | omega) (Nat.lt_succ_self _)

set_option maxHeartbeats 400000 in
set_option maxRecDepth 100000 in
theorem c_leastEntry18 (z : mj_B) (d : Nat) (T : Tg) (u v : Nat) (hu : u < 8) (hv : v < 8) (huv : u ≠ v) (F A : mj_S) (hC : CI T F A) : J (gC z) mX4_leastEntry (d + 2) 0 [(0, .ref 18), (1, .int (nI u)), (2, .int (nI v))] [] F A (qP F A fun _ => True) := by
  have L6 : ∀ (fuel : Nat) (le : Int32) (i : Nat), (i ≤ 4) → 4 - i < fuel → J (gC z) mX4_leastEntry (d + 2) 6 [(0, .ref 18), (1, .int (nI u)), (2, .int (nI v)), (3, .int le), (4, .int (nI i))] [] F A (qP F A fun _ => True) := by
    intro fuel
    induction fuel with
    | zero => intro le i h1 hf; exact absurd hf (by omega)
    | succ fuel ih6 =>
      intro le i h1 hf
      refine j_iload dX4_leastEntry_6 rfl ?_
      refine j_aload_n dX4_leastEntry_8 rfl ?_
      refine j_getR (r := 19) dX4_leastEntry_9 flX4_9 (Nat.le_of_ble_eq_true rfl) rfl rfl ?_
      refine j_iload_n dX4_leastEntry_12 rfl ?_
      refine j_ialdN dX4_leastEntry_13 (Nat.le_of_ble_eq_true rfl) rfl (by omega) (by decide) ?_
      obtain ⟨t1, ht1, et1⟩ := (hC.2.2.2.1 18 n18).2 u (by omega)
      refine j_top (y0 := nI t1) et1 ?_
      refine j_icmp_geN (tgt := 58) dX4_leastEntry_14 (by decide) (by omega) (by omega) (fun c14 => ?_) (fun c14 => ?_)
      · refine j_iload_n dX4_leastEntry_58 rfl ?_
        exact j_iret dX4_leastEntry_59 rfl rfl ⟨rfl, rfl, _, rfl, trivial⟩
      · have L20 : ∀ (fuel : Nat) (le : Int32) (j : Nat), (j ≤ 4) → 4 - j < fuel → J (gC z) mX4_leastEntry (d + 2) 20 [(0, .ref 18), (1, .int (nI u)), (2, .int (nI v)), (3, .int le), (4, .int (nI i)), (5, .int (nI j))] [] F A (qP F A fun _ => True) := by
          intro fuel
          induction fuel with
          | zero => intro le j h2 hf; exact absurd hf (by omega)
          | succ fuel ih20 =>
            intro le j h2 hf
            refine j_iload dX4_leastEntry_20 rfl ?_
            refine j_aload_n dX4_leastEntry_22 rfl ?_
            refine j_getR (r := 19) dX4_leastEntry_23 flX4_9 (Nat.le_of_ble_eq_true rfl) rfl rfl ?_
            refine j_iload_n dX4_leastEntry_26 rfl ?_
            refine j_ialdN dX4_leastEntry_27 (Nat.le_of_ble_eq_true rfl) rfl (by omega) (by decide) ?_
            obtain ⟨t2, ht2, et2⟩ := (hC.2.2.2.1 18 n18).2 v (by omega)
            refine j_top (y0 := nI t2) et2 ?_
            refine j_icmp_geN (tgt := 52) dX4_leastEntry_28 (by decide) (by omega) (by omega) (fun c28 => ?_) (fun c28 => ?_)
            · refine j_iinc (v := nI (i + 1)) (lv' := [(0, .ref 18), (1, .int (nI u)), (2, .int (nI v)), (3, .int le), (4, .int (nI (i + 1))), (5, .int (nI j))]) dX4_leastEntry_52 rfl (nI_add _ 1) (Nat.le_of_ble_eq_true rfl) rfl rfl ?_
              refine j_goto (tgt := 6) dX4_leastEntry_55 (by decide) ?_
              refine j_sub [0, 1, 2, 3, 4] rfl ?_
              exact ih6 le (i + 1) (by first | exact h1 | omega) (by omega)
            · refine j_iload_n dX4_leastEntry_31 rfl ?_
              refine j_aload_n dX4_leastEntry_32 rfl ?_
              refine j_iload_n dX4_leastEntry_33 rfl ?_
              refine j_iload_n dX4_leastEntry_34 rfl ?_
              refine j_iload dX4_leastEntry_35 rfl ?_
              refine j_iload dX4_leastEntry_37 rfl ?_
              refine j_callV (y' := mX4_entryAt) (As := [.int (nI u), .int (nI v), .int (nI i), .int (nI j)]) (st := [.int le]) dX4_leastEntry_39 lkX4_82 okX4_entryAt imX4_entryAt seX4_entryAt (Nat.le_of_ble_eq_true rfl) rfl rfl rfl rfl (Nat.le_of_ble_eq_true rfl) (Nat.le_of_ble_eq_true rfl) (c_entryAt18 z _ _ u v i j (by omega) (by omega) (by omega) (by omega) (by omega) F A hC) (fun v39 F39 A39 hq39 => ?_)
              obtain ⟨rfl, rfl, r39, rfl, hr39⟩ := hq39
              refine j_min dX4_leastEntry_42 lkX4_74 mn_st mn_in mn_co (Nat.le_of_ble_eq_true rfl) ?_
              refine j_istore_n (lv' := [(0, .ref 18), (1, .int (nI u)), (2, .int (nI v)), (3, .int (mj_min le r39)), (4, .int (nI i)), (5, .int (nI j))]) dX4_leastEntry_45 (Nat.le_of_ble_eq_true rfl) rfl rfl ?_
              refine j_iinc (v := nI (j + 1)) (lv' := [(0, .ref 18), (1, .int (nI u)), (2, .int (nI v)), (3, .int (mj_min le r39)), (4, .int (nI i)), (5, .int (nI (j + 1)))]) dX4_leastEntry_46 rfl (nI_add _ 1) (Nat.le_of_ble_eq_true rfl) rfl rfl ?_
              refine j_goto (tgt := 20) dX4_leastEntry_49 (by decide) ?_
              exact ih20 (mj_min le r39) (j + 1) (by first | exact h2 | omega) (by omega)
        refine j_iconst (v := nI 0) dX4_leastEntry_17 (by decide +kernel) ?_
        refine j_istore (lv' := [(0, .ref 18), (1, .int (nI u)), (2, .int (nI v)), (3, .int le), (4, .int (nI i)), (5, .int (nI 0))]) dX4_leastEntry_18 (Nat.le_of_ble_eq_true rfl) rfl rfl ?_
        exact L20 _ le 0 (by first | exact h2 | omega) (Nat.lt_succ_self _)
  refine j_ldc dX4_leastEntry_0 kcX4_66 ?_
  refine j_istore_n (lv' := [(0, .ref 18), (1, .int (nI u)), (2, .int (nI v)), (3, .int 1000000)]) dX4_leastEntry_2 (Nat.le_of_ble_eq_true rfl) rfl rfl ?_
  refine j_iconst (v := nI 0) dX4_leastEntry_3 (by decide +kernel) ?_
  refine j_istore (lv' := [(0, .ref 18), (1, .int (nI u)), (2, .int (nI v)), (3, .int 1000000), (4, .int (nI 0))]) dX4_leastEntry_4 (Nat.le_of_ble_eq_true rfl) rfl rfl ?_
  exact L6 _ 1000000 0 (by first | exact h1 | omega) (Nat.lt_succ_self _)

set_option maxHeartbeats 400000 in
set_option maxRecDepth 100000 in
theorem c_bound18 (z : mj_B) (d : Nat) (T : Tg) (F A : mj_S) (hC : CI T F A) : J (gC z) mX4_bound (d + 3) 0 [(0, .ref 18)] [] F A (qP F A fun _ => True) := by
  obtain ⟨n, hn, en⟩ := (hC.2.2.2.1 18 n18).1
  have L4 : ∀ (fuel : Nat) (su : Int32) (u : Nat), (u ≤ n) → n - u < fuel → J (gC z) mX4_bound (d + 3) 4 [(0, .ref 18), (1, .int su), (2, .int (nI u))] [] F A (qP F A fun _ => True) := by
    intro fuel
    induction fuel with
    | zero => intro su u h1 hf; exact absurd hf (by omega)
    | succ fuel ih4 =>
      intro su u h1 hf
      refine j_iload_n dX4_bound_4 rfl ?_
      refine j_aload_n dX4_bound_5 rfl ?_
      refine j_getI dX4_bound_6 flX4_30 (Nat.le_of_ble_eq_true rfl) rfl rfl ?_
      refine j_top (y0 := nI n) en ?_
      refine j_icmp_geN (tgt := 63) dX4_bound_9 (by decide) (by omega) (by omega) (fun c9 => ?_) (fun c9 => ?_)
      · refine j_iload_n dX4_bound_63 rfl ?_
        exact j_iret dX4_bound_64 rfl rfl ⟨rfl, rfl, _, rfl, trivial⟩
      · have L25 : ∀ (fuel : Nat) (su : Int32) (v : Nat), (v ≤ u) → u - v < fuel → J (gC z) mX4_bound (d + 3) 25 [(0, .ref 18), (1, .int su), (2, .int (nI u)), (3, .int (nI v))] [] F A (qP F A fun _ => True) := by
          intro fuel
          induction fuel with
          | zero => intro su v h2 hf; exact absurd hf (by omega)
          | succ fuel ih25 =>
            intro su v h2 hf
            refine j_iload_n dX4_bound_25 rfl ?_
            refine j_iload_n dX4_bound_26 rfl ?_
            refine j_icmp_geN (tgt := 57) dX4_bound_27 (by decide) (by omega) (by omega) (fun c27 => ?_) (fun c27 => ?_)
            · refine j_iinc (v := nI (u + 1)) (lv' := [(0, .ref 18), (1, .int su), (2, .int (nI (u + 1))), (3, .int (nI v))]) dX4_bound_57 rfl (nI_add _ 1) (Nat.le_of_ble_eq_true rfl) rfl rfl ?_
              refine j_goto (tgt := 4) dX4_bound_60 (by decide) ?_
              refine j_sub [0, 1, 2] rfl ?_
              exact ih4 su (u + 1) (by first | exact h1 | omega) (by omega)
            · refine j_aload_n dX4_bound_30 rfl ?_
              refine j_iload_n dX4_bound_31 rfl ?_
              refine j_iload_n dX4_bound_32 rfl ?_
              refine j_callV (y' := mX4_areTied) (As := [.int (nI u), .int (nI v)]) (st := []) dX4_bound_33 lkX4_44 okX4_areTied imX4_areTied seX4_areTied (Nat.le_of_ble_eq_true rfl) rfl rfl rfl rfl (Nat.le_of_ble_eq_true rfl) (Nat.le_of_ble_eq_true rfl) (c_areTied18 z _ _ u (by omega) (nI v) F A hC) (fun v33 F33 A33 hq33 => ?_)
              obtain ⟨rfl, rfl, r33, rfl, hr33⟩ := hq33
              refine j_if_eqN (tgt := 51) dX4_bound_36 (by decide) (by omega) (fun c36 => ?_) (fun c36 => ?_)
              · refine j_iinc (v := nI (v + 1)) (lv' := [(0, .ref 18), (1, .int su), (2, .int (nI u)), (3, .int (nI (v + 1)))]) dX4_bound_51 rfl (nI_add _ 1) (Nat.le_of_ble_eq_true rfl) rfl rfl ?_
                refine j_goto (tgt := 25) dX4_bound_54 (by decide) ?_
                exact ih25 su (v + 1) (by first | exact h2 | omega) (by omega)
              · refine j_iload_n dX4_bound_39 rfl ?_
                refine j_aload_n dX4_bound_40 rfl ?_
                refine j_iload_n dX4_bound_41 rfl ?_
                refine j_iload_n dX4_bound_42 rfl ?_
                refine j_callV (y' := mX4_leastEntry) (As := [.int (nI u), .int (nI v)]) (st := [.int su]) dX4_bound_43 lkX4_88 okX4_leastEntry imX4_leastEntry seX4_leastEntry (Nat.le_of_ble_eq_true rfl) rfl rfl rfl rfl (Nat.le_of_ble_eq_true rfl) (Nat.le_of_ble_eq_true rfl) (c_leastEntry18 z _ _ u v (by omega) (by omega) (by omega) F A hC) (fun v43 F43 A43 hq43 => ?_)
                obtain ⟨rfl, rfl, r43, rfl, hr43⟩ := hq43
                refine j_iadd dX4_bound_46 ?_
                refine j_callSN (y' := mX5_capped) (As := [.int (su + r43)]) (st := []) dX4_bound_47 lnX4_62 okX5_capped stX5_capped rfl (Nat.le_of_ble_eq_true rfl) (Nat.le_of_ble_eq_true rfl) (c_capped z _ (su + r43) F A) (fun v47 F47 A47 hq47 => ?_)
                obtain ⟨rfl, rfl, r47, rfl, hr47⟩ := hq47
                refine j_istore_n (lv' := [(0, .ref 18), (1, .int r47), (2, .int (nI u)), (3, .int (nI v))]) dX4_bound_50 (Nat.le_of_ble_eq_true rfl) rfl rfl ?_
                refine j_iinc (v := nI (v + 1)) (lv' := [(0, .ref 18), (1, .int r47), (2, .int (nI u)), (3, .int (nI (v + 1)))]) dX4_bound_51 rfl (nI_add _ 1) (Nat.le_of_ble_eq_true rfl) rfl rfl ?_
                refine j_goto (tgt := 25) dX4_bound_54 (by decide) ?_
                exact ih25 r47 (v + 1) (by first | exact h2 | omega) (by omega)
        refine j_iload_n dX4_bound_12 rfl ?_
        refine j_aload_n dX4_bound_13 rfl ?_
        refine j_iload_n dX4_bound_14 rfl ?_
        refine j_callV (y' := mX4_leastCost) (As := [.int (nI u)]) (st := [.int su]) dX4_bound_15 lkX4_85 okX4_leastCost imX4_leastCost seX4_leastCost (Nat.le_of_ble_eq_true rfl) rfl rfl rfl rfl (Nat.le_of_ble_eq_true rfl) (Nat.le_of_ble_eq_true rfl) (c_leastCost18 z _ _ u (by omega) F A hC) (fun v15 F15 A15 hq15 => ?_)
        obtain ⟨rfl, rfl, r15, rfl, hr15⟩ := hq15
        refine j_iadd dX4_bound_18 ?_
        refine j_callSN (y' := mX5_capped) (As := [.int (su + r15)]) (st := []) dX4_bound_19 lnX4_62 okX5_capped stX5_capped rfl (Nat.le_of_ble_eq_true rfl) (Nat.le_of_ble_eq_true rfl) (c_capped z _ (su + r15) F A) (fun v19 F19 A19 hq19 => ?_)
        obtain ⟨rfl, rfl, r19, rfl, hr19⟩ := hq19
        refine j_istore_n (lv' := [(0, .ref 18), (1, .int r19), (2, .int (nI u))]) dX4_bound_22 (Nat.le_of_ble_eq_true rfl) rfl rfl ?_
        refine j_iconst (v := nI 0) dX4_bound_23 (by decide +kernel) ?_
        refine j_istore_n (lv' := [(0, .ref 18), (1, .int r19), (2, .int (nI u)), (3, .int (nI 0))]) dX4_bound_24 (Nat.le_of_ble_eq_true rfl) rfl rfl ?_
        exact L25 _ r19 0 (by first | exact h2 | omega) (Nat.lt_succ_self _)
  refine j_iconst (v := nI 0) dX4_bound_0 (by decide +kernel) ?_
  refine j_istore_n (lv' := [(0, .ref 18), (1, .int (nI 0))]) dX4_bound_1 (Nat.le_of_ble_eq_true rfl) rfl rfl ?_
  refine j_iconst (v := nI 0) dX4_bound_2 (by decide +kernel) ?_
  refine j_istore_n (lv' := [(0, .ref 18), (1, .int (nI 0)), (2, .int (nI 0))]) dX4_bound_3 (Nat.le_of_ble_eq_true rfl) rfl rfl ?_
  exact L4 _ (nI 0) 0 (by first | exact h1 | omega) (Nat.lt_succ_self _)

set_option maxHeartbeats 400000 in
set_option maxRecDepth 100000 in
theorem c_allowOnly23 (z : mj_B) (d : Nat) (T : Tg) (u : Nat) (hu : u < 8) (x : Int32) (F A : mj_S) (hC : CI T F A) : J (gC z) mX4_allowOnly (d + 1) 0 [(0, .ref 23), (1, .int (nI u)), (2, .int x)] [] F A (fun v F' A' => v = none ∧ F = F' ∧ CI T F A') := by
  have L2 : ∀ (fuel : Nat) (i : Nat) (A : mj_S), (CI T F A) → (i ≤ 4) → 4 - i < fuel → J (gC z) mX4_allowOnly (d + 1) 2 [(0, .ref 23), (1, .int (nI u)), (2, .int x), (3, .int (nI i))] [] F A (fun v F' A' => v = none ∧ F = F' ∧ CI T F A') := by
    intro fuel
    induction fuel with
    | zero => intro i A hC h1 hf; exact absurd hf (by omega)
    | succ fuel ih2 =>
      intro i A hC h1 hf
      refine j_iload_n dX4_allowOnly_2 rfl ?_
      refine j_aload_n dX4_allowOnly_3 rfl ?_
      refine j_getR (r := 24) dX4_allowOnly_4 flX4_9 (Nat.le_of_ble_eq_true rfl) rfl rfl ?_
      refine j_iload_n dX4_allowOnly_7 rfl ?_
      refine j_ialdN dX4_allowOnly_8 (Nat.le_of_ble_eq_true rfl) rfl (by omega) (by decide) ?_
      obtain ⟨t1, ht1, et1⟩ := (hC.2.2.2.1 23 n23).2 u (by omega)
      refine j_top (y0 := nI t1) et1 ?_
      refine j_icmp_geN (tgt := 35) dX4_allowOnly_9 (by decide) (by omega) (by omega) (fun c9 => ?_) (fun c9 => ?_)
      · exact j_vret dX4_allowOnly_35 rfl ⟨rfl, rfl, hC⟩
      · refine j_iload_n dX4_allowOnly_12 rfl ?_
        refine j_iload_n dX4_allowOnly_13 rfl ?_
        refine j_icmp_eq (tgt := 29) dX4_allowOnly_14 (by decide) (fun c14 => ?_) (fun c14 => ?_)
        · refine j_iinc (v := nI (i + 1)) (lv' := [(0, .ref 23), (1, .int (nI u)), (2, .int x), (3, .int (nI (i + 1)))]) dX4_allowOnly_29 rfl (nI_add _ 1) (Nat.le_of_ble_eq_true rfl) rfl rfl ?_
          refine j_goto (tgt := 2) dX4_allowOnly_32 (by decide) ?_
          exact ih2 (i + 1) A (by first | exact hC | omega) (by first | exact h1 | omega) (by omega)
        · refine j_aload_n dX4_allowOnly_17 rfl ?_
          refine j_getR (r := 26) dX4_allowOnly_18 flX4_18 (Nat.le_of_ble_eq_true rfl) rfl rfl ?_
          refine j_iload_n dX4_allowOnly_21 rfl ?_
          refine j_iload_n dX4_allowOnly_22 rfl ?_
          refine j_callSN (y' := mX5_choicePlace) (As := [.int (nI u), .int (nI i)]) (st := [.ref 26]) dX4_allowOnly_23 lnX4_37 okX5_choicePlace stX5_choicePlace rfl (Nat.le_of_ble_eq_true rfl) (Nat.le_of_ble_eq_true rfl) (c_choicePlace z _ u i F A) (fun v23 F23 A23 hq23 => ?_)
          obtain ⟨rfl, rfl, r23, rfl, hr23⟩ := hq23
          refine j_ldc dX4_allowOnly_26 kcX4_66 ?_
          refine j_iastN dX4_allowOnly_28 (Nat.le_of_ble_eq_true rfl) rfl (by omega) (by decide) ?_
          have hC := hC.u (k := 26) rfl r23 1000000
          refine j_iinc (v := nI (i + 1)) (lv' := [(0, .ref 23), (1, .int (nI u)), (2, .int x), (3, .int (nI (i + 1)))]) dX4_allowOnly_29 rfl (nI_add _ 1) (Nat.le_of_ble_eq_true rfl) rfl rfl ?_
          refine j_goto (tgt := 2) dX4_allowOnly_32 (by decide) ?_
          exact ih2 (i + 1) (mj_u A 26 r23 1000000) (by first | exact hC | omega) (by first | exact h1 | omega) (by omega)
  refine j_iconst (v := nI 0) dX4_allowOnly_0 (by decide +kernel) ?_
  refine j_istore_n (lv' := [(0, .ref 23), (1, .int (nI u)), (2, .int x), (3, .int (nI 0))]) dX4_allowOnly_1 (Nat.le_of_ble_eq_true rfl) rfl rfl ?_
  exact L2 _ 0 A (by first | exact hC | omega) (by first | exact h1 | omega) (Nat.lt_succ_self _)

set_option maxHeartbeats 400000 in
set_option maxRecDepth 100000 in
theorem c_leastAcross28 (z : mj_B) (d : Nat) (T : Tg) (u i v : Nat) (hu : u < 8) (hi : i < 4) (hv : v < 8) (huv : u ≠ v) (F A : mj_S) (hC : CI T F A) : J (gC z) mX4_leastAcross (d + 1) 0 [(0, .ref 28), (1, .int (nI u)), (2, .int (nI i)), (3, .int (nI v))] [] F A (qP F A fun _ => True) := by
  have L7 : ∀ (fuel : Nat) (le : Int32) (j : Nat), (j ≤ 4) → 4 - j < fuel → J (gC z) mX4_leastAcross (d + 1) 7 [(0, .ref 28), (1, .int (nI u)), (2, .int (nI i)), (3, .int (nI v)), (4, .int le), (5, .int (nI j))] [] F A (qP F A fun _ => True) := by
    intro fuel
    induction fuel with
    | zero => intro le j h1 hf; exact absurd hf (by omega)
    | succ fuel ih7 =>
      intro le j h1 hf
      refine j_iload dX4_leastAcross_7 rfl ?_
      refine j_aload_n dX4_leastAcross_9 rfl ?_
      refine j_getR (r := 29) dX4_leastAcross_10 flX4_9 (Nat.le_of_ble_eq_true rfl) rfl rfl ?_
      refine j_iload_n dX4_leastAcross_13 rfl ?_
      refine j_ialdN dX4_leastAcross_14 (Nat.le_of_ble_eq_true rfl) rfl (by omega) (by decide) ?_
      obtain ⟨t1, ht1, et1⟩ := (hC.2.2.2.1 28 n28).2 v (by omega)
      refine j_top (y0 := nI t1) et1 ?_
      refine j_icmp_geN (tgt := 60) dX4_leastAcross_15 (by decide) (by omega) (by omega) (fun c15 => ?_) (fun c15 => ?_)
      · refine j_iload dX4_leastAcross_60 rfl ?_
        exact j_iret dX4_leastAcross_62 rfl rfl ⟨rfl, rfl, _, rfl, trivial⟩
      · refine j_aload_n dX4_leastAcross_18 rfl ?_
        refine j_getR (r := 31) dX4_leastAcross_19 flX4_18 (Nat.le_of_ble_eq_true rfl) rfl rfl ?_
        refine j_iload_n dX4_leastAcross_22 rfl ?_
        refine j_iload dX4_leastAcross_23 rfl ?_
        refine j_callSN (y' := mX5_choicePlace) (As := [.int (nI v), .int (nI j)]) (st := [.ref 31]) dX4_leastAcross_25 lnX4_37 okX5_choicePlace stX5_choicePlace rfl (Nat.le_of_ble_eq_true rfl) (Nat.le_of_ble_eq_true rfl) (c_choicePlace z _ v j F A) (fun v25 F25 A25 hq25 => ?_)
        obtain ⟨rfl, rfl, r25, rfl, hr25⟩ := hq25
        refine j_ialdN dX4_leastAcross_28 (Nat.le_of_ble_eq_true rfl) rfl (by omega) (by decide) ?_
        refine j_aload_n dX4_leastAcross_29 rfl ?_
        refine j_getR (r := 32) dX4_leastAcross_30 flX4_21 (Nat.le_of_ble_eq_true rfl) rfl rfl ?_
        refine j_iload_n dX4_leastAcross_33 rfl ?_
        refine j_iload_n dX4_leastAcross_34 rfl ?_
        refine j_iload_n dX4_leastAcross_35 rfl ?_
        refine j_iload dX4_leastAcross_36 rfl ?_
        refine j_callSN (y' := mX5_entryPlace) (As := [.int (nI u), .int (nI v), .int (nI i), .int (nI j)]) (st := [.ref 32, .int (A 31 r25)]) dX4_leastAcross_38 lnX4_52 okX5_entryPlace stX5_entryPlace rfl (Nat.le_of_ble_eq_true rfl) (Nat.le_of_ble_eq_true rfl) (c_entryPlace z _ u v i j (by omega) (by omega) (by omega) F A) (fun v38 F38 A38 hq38 => ?_)
        obtain ⟨rfl, rfl, e38, rfl, he38⟩ := hq38
        have hl38 : e38 < 448 := by rw [he38]; exact eP_lt (by omega) (by omega) (by omega) (by omega) (by omega)
        refine j_ialdN dX4_leastAcross_41 (Nat.le_of_ble_eq_true rfl) rfl (by omega) (by decide) ?_
        refine j_iadd dX4_leastAcross_42 ?_
        refine j_istore (lv' := [(0, .ref 28), (1, .int (nI u)), (2, .int (nI i)), (3, .int (nI v)), (4, .int le), (5, .int (nI j)), (6, .int ((A 31 r25) + (A 32 e38)))]) dX4_leastAcross_43 (Nat.le_of_ble_eq_true rfl) rfl rfl ?_
        refine j_iload dX4_leastAcross_45 rfl ?_
        refine j_iload dX4_leastAcross_47 rfl ?_
        refine j_min dX4_leastAcross_49 lkX4_74 mn_st mn_in mn_co (Nat.le_of_ble_eq_true rfl) ?_
        refine j_istore (lv' := [(0, .ref 28), (1, .int (nI u)), (2, .int (nI i)), (3, .int (nI v)), (4, .int (mj_min le ((A 31 r25) + (A 32 e38)))), (5, .int (nI j)), (6, .int ((A 31 r25) + (A 32 e38)))]) dX4_leastAcross_52 (Nat.le_of_ble_eq_true rfl) rfl rfl ?_
        refine j_iinc (v := nI (j + 1)) (lv' := [(0, .ref 28), (1, .int (nI u)), (2, .int (nI i)), (3, .int (nI v)), (4, .int (mj_min le ((A 31 r25) + (A 32 e38)))), (5, .int (nI (j + 1))), (6, .int ((A 31 r25) + (A 32 e38)))]) dX4_leastAcross_54 rfl (nI_add _ 1) (Nat.le_of_ble_eq_true rfl) rfl rfl ?_
        refine j_goto (tgt := 7) dX4_leastAcross_57 (by decide) ?_
        refine j_sub [0, 1, 2, 3, 4, 5] rfl ?_
        exact ih7 (mj_min le ((A 31 r25) + (A 32 e38))) (j + 1) (by first | exact h1 | omega) (by omega)
  refine j_ldc dX4_leastAcross_0 kcX4_66 ?_
  refine j_istore (lv' := [(0, .ref 28), (1, .int (nI u)), (2, .int (nI i)), (3, .int (nI v)), (4, .int 1000000)]) dX4_leastAcross_2 (Nat.le_of_ble_eq_true rfl) rfl rfl ?_
  refine j_iconst (v := nI 0) dX4_leastAcross_4 (by decide +kernel) ?_
  refine j_istore (lv' := [(0, .ref 28), (1, .int (nI u)), (2, .int (nI i)), (3, .int (nI v)), (4, .int 1000000), (5, .int (nI 0))]) dX4_leastAcross_5 (Nat.le_of_ble_eq_true rfl) rfl rfl ?_
  exact L7 _ 1000000 0 (by first | exact h1 | omega) (Nat.lt_succ_self _)

set_option maxHeartbeats 400000 in
set_option maxRecDepth 100000 in
theorem c_addCost28 (z : mj_B) (d : Nat) (T : Tg) (u i : Nat) (hu : u < 8) (hi : i < 4) (x : Int32) (F A : mj_S) (hC : CI T F A) : J (gC z) mX4_addCost (d + 2) 0 [(0, .ref 28), (1, .int (nI u)), (2, .int (nI i)), (3, .int x)] [] F A (fun v F' A' => v = none ∧ F = F' ∧ CI T F A' ∧ ∀ k, k ≠ 31 → A' k = A k) := by
  refine j_iload_n dX4_addCost_0 rfl ?_
  refine j_iload_n dX4_addCost_1 rfl ?_
  refine j_callSN (y' := mX5_choicePlace) (As := [.int (nI u), .int (nI i)]) (st := []) dX4_addCost_2 lnX4_37 okX5_choicePlace stX5_choicePlace rfl (Nat.le_of_ble_eq_true rfl) (Nat.le_of_ble_eq_true rfl) (c_choicePlace z _ u i F A) (fun v2 F2 A2 hq2 => ?_)
  obtain ⟨rfl, rfl, r2, rfl, hr2⟩ := hq2
  refine j_istore (lv' := [(0, .ref 28), (1, .int (nI u)), (2, .int (nI i)), (3, .int x), (4, .int (nI r2))]) dX4_addCost_5 (Nat.le_of_ble_eq_true rfl) rfl rfl ?_
  refine j_aload_n dX4_addCost_7 rfl ?_
  refine j_getR (r := 31) dX4_addCost_8 flX4_18 (Nat.le_of_ble_eq_true rfl) rfl rfl ?_
  refine j_iload dX4_addCost_11 rfl ?_
  refine j_aload_n dX4_addCost_13 rfl ?_
  refine j_getR (r := 31) dX4_addCost_14 flX4_18 (Nat.le_of_ble_eq_true rfl) rfl rfl ?_
  refine j_iload dX4_addCost_17 rfl ?_
  refine j_ialdN dX4_addCost_19 (Nat.le_of_ble_eq_true rfl) rfl (by omega) (by decide) ?_
  refine j_iload_n dX4_addCost_20 rfl ?_
  refine j_iadd dX4_addCost_21 ?_
  refine j_callSN (y' := mX5_capped) (As := [.int ((A 31 r2) + x)]) (st := [.int (nI r2), .ref 31]) dX4_addCost_22 lnX4_62 okX5_capped stX5_capped rfl (Nat.le_of_ble_eq_true rfl) (Nat.le_of_ble_eq_true rfl) (c_capped z _ ((A 31 r2) + x) F A) (fun v22 F22 A22 hq22 => ?_)
  obtain ⟨rfl, rfl, r22, rfl, hr22⟩ := hq22
  refine j_iastN dX4_addCost_25 (Nat.le_of_ble_eq_true rfl) rfl (by omega) (by decide) ?_
  have hC := hC.u (k := 31) rfl r2 r22
  exact j_vret dX4_addCost_26 rfl ⟨rfl, rfl, hC, fun k hk => mj_u_ne _ _ hk⟩

set_option maxHeartbeats 400000 in
set_option maxRecDepth 100000 in
theorem c_addEntry28 (z : mj_B) (d : Nat) (T : Tg) (u v i j : Nat) (hu : u < 8) (hv : v < 8) (huv : u ≠ v) (hi : i < 4) (hj : j < 4) (x : Int32) (F A : mj_S) (hC : CI T F A) : J (gC z) mX4_addEntry (d + 2) 0 [(0, .ref 28), (1, .int (nI u)), (2, .int (nI v)), (3, .int (nI i)), (4, .int (nI j)), (5, .int x)] [] F A (fun v F' A' => v = none ∧ F = F' ∧ CI T F A' ∧ ∀ k, k ≠ 32 → A' k = A k) := by
  refine j_iload_n dX4_addEntry_0 rfl ?_
  refine j_iload_n dX4_addEntry_1 rfl ?_
  refine j_iload_n dX4_addEntry_2 rfl ?_
  refine j_iload dX4_addEntry_3 rfl ?_
  refine j_callSN (y' := mX5_entryPlace) (As := [.int (nI u), .int (nI v), .int (nI i), .int (nI j)]) (st := []) dX4_addEntry_5 lnX4_52 okX5_entryPlace stX5_entryPlace rfl (Nat.le_of_ble_eq_true rfl) (Nat.le_of_ble_eq_true rfl) (c_entryPlace z _ u v i j (by omega) (by omega) (by omega) F A) (fun v5 F5 A5 hq5 => ?_)
  obtain ⟨rfl, rfl, e5, rfl, he5⟩ := hq5
  have hl5 : e5 < 448 := by rw [he5]; exact eP_lt (by omega) (by omega) (by omega) (by omega) (by omega)
  refine j_istore (lv' := [(0, .ref 28), (1, .int (nI u)), (2, .int (nI v)), (3, .int (nI i)), (4, .int (nI j)), (5, .int x), (6, .int (nI e5))]) dX4_addEntry_8 (Nat.le_of_ble_eq_true rfl) rfl rfl ?_
  refine j_aload_n dX4_addEntry_10 rfl ?_
  refine j_getR (r := 32) dX4_addEntry_11 flX4_21 (Nat.le_of_ble_eq_true rfl) rfl rfl ?_
  refine j_iload dX4_addEntry_14 rfl ?_
  refine j_aload_n dX4_addEntry_16 rfl ?_
  refine j_getR (r := 32) dX4_addEntry_17 flX4_21 (Nat.le_of_ble_eq_true rfl) rfl rfl ?_
  refine j_iload dX4_addEntry_20 rfl ?_
  refine j_ialdN dX4_addEntry_22 (Nat.le_of_ble_eq_true rfl) rfl (by omega) (by decide) ?_
  refine j_iload dX4_addEntry_23 rfl ?_
  refine j_iadd dX4_addEntry_25 ?_
  refine j_callSN (y' := mX5_capped) (As := [.int ((A 32 e5) + x)]) (st := [.int (nI e5), .ref 32]) dX4_addEntry_26 lnX4_62 okX5_capped stX5_capped rfl (Nat.le_of_ble_eq_true rfl) (Nat.le_of_ble_eq_true rfl) (c_capped z _ ((A 32 e5) + x) F A) (fun v26 F26 A26 hq26 => ?_)
  obtain ⟨rfl, rfl, r26, rfl, hr26⟩ := hq26
  refine j_iastN dX4_addEntry_29 (Nat.le_of_ble_eq_true rfl) rfl (by omega) (by decide) ?_
  have hC := hC.u (k := 32) rfl e5 r26
  exact j_vret dX4_addEntry_30 rfl ⟨rfl, rfl, hC, fun k hk => mj_u_ne _ _ hk⟩
