/-! the reference: acts, kept -/

set_option maxHeartbeats 400000 in
set_option maxRecDepth 100000 in
theorem m_price (z : mj_B) (d : Nat) (L : Lg) (n : Nat) (mm : Nat → Nat) (rn : Nat) (rm : Nat → Nat) (un kn : Nat) (x1 x2 x3 : Int32) (F A : mj_S) (hM : MI L n mm rn rm un kn F A) : J (gM z) mX6_price (d + 3) 0 [(0, .ref 0), (1, .int x1), (2, .int x2), (3, .int x3)] [] F A (fun v F' A' => ∃ x o, v = some (.int x) ∧ acPrice n mm (A 5) x1 x2 x3 = (x, o) ∧ A' 1 = A 1 ∧ A' 7 = A 7 ∧ MSo L.1 n mm rn rm un kn A F' A' o) := by
  have hM0 := hM.1.2.1
  have hM1 := hM.2.1.2.1
  have hM2 := hM.2.2.1.2.1
  have hM3 := hM.2.2.2.1.2
  have hM4 := hM.2.2.2.2.1.2
  have hm4 : ∀ u, u < n → mm u ≤ 4 := fun u _ => hM.2.1.2.2.2.1 u
  refine j_aload_n dX6_price_0 rfl ?_
  refine j_iload_n dX6_price_1 rfl ?_
  refine j_iload_n dX6_price_2 rfl ?_
  refine j_callV (y' := mX6_isChoice) (As := [.int x1, .int x2]) (st := []) dX6_price_3 lkX6_155 okX6_isChoice imX6_isChoice seX6_isChoice (Nat.le_of_ble_eq_true rfl) rfl rfl rfl rfl (Nat.le_of_ble_eq_true rfl) (Nat.le_of_ble_eq_true rfl) (m_isChoice z _ _ _ _ _ _ _ _ x1 x2 F A hM) (fun v3 F3 A3 hq3 => ?_)
  obtain ⟨rfl, rfl, r3, rfl, hr3⟩ := hq3
  have hb3 : r3 ≤ 1 := by omega
  refine j_if_eqN (tgt := 21) dX6_price_6 (by decide) (by omega) (fun c6 => ?_) (fun c6 => ?_)
  · have hch := chO_none hM1 hm4 (hr3.resolve_left (fun h => by omega)).2
    have hac := acPrice_n (row := A 5) (x3 := x3) hch
    refine j_iconst (v := (-1)) dX6_price_21 (by decide +kernel) ?_
    exact j_iret dX6_price_22 rfl rfl ⟨_, _, rfl, hac, rfl, rfl, hM.k.i, rfl, rfl⟩
  · obtain ⟨j, k, hj, hk, rfl, rfl⟩ := (hr3.resolve_right (fun h => by omega)).2
    have h8j : j < 8 := by omega
    have h4k := hM.2.1.2.2.2.1 j
    have hchj := chO_some hM1 h4k hj hk
    refine j_iload_n dX6_price_9 rfl ?_
    refine j_i2l dX6_price_10 rfl ?_
    refine j_lconst (v := 0) dX6_price_11 rfl ?_
    refine j_ldc2 dX6_price_12 klX6_165 ?_
    refine j_callS (y' := mX6_in) (As := [.long (x3.toInt64), .long (0), .long ((99))]) (st := []) dX6_price_15 lkX6_89 okX6_in stX6_in rfl (Nat.le_of_ble_eq_true rfl) (Nat.le_of_ble_eq_true rfl) (m_in z _ x3.toInt64 0 (99) F A) (fun v15 F15 A15 hq15 => ?_)
    obtain ⟨rfl, rfl, r15, rfl, hr15⟩ := hq15
    have hb15 : r15 ≤ 1 := by omega
    rw [in64 0 99 (by decide +kernel) (by decide +kernel)] at hr15
    refine j_if_neN (tgt := 23) dX6_price_18 (by decide) (by omega) (fun c18 => ?_) (fun c18 => ?_)
    · have h3 := (hr15.resolve_right (fun h => by omega)).2
      refine j_aload_n dX6_price_23 rfl ?_
      refine j_getR (r := 5) dX6_price_24 flX6_22 (Nat.le_of_ble_eq_true rfl) rfl rfl ?_
      refine j_iconst (v := nI 4) dX6_price_27 (by decide +kernel) ?_
      refine j_iload_n dX6_price_28 rfl ?_
      refine j_imulN dX6_price_29 ?_
      refine j_iload_n dX6_price_30 rfl ?_
      refine j_iaddN dX6_price_31 ?_
      refine j_ialdN dX6_price_32 (Nat.le_of_ble_eq_true rfl) rfl (by omega) (by decide) ?_
      refine j_istore (lv' := [(0, .ref 0), (1, .int (nI j)), (2, .int (nI k)), (3, .int x3), (4, .int (A 5 (4 * j + k)))]) dX6_price_33 (Nat.le_of_ble_eq_true rfl) rfl rfl ?_
      refine j_iload dX6_price_35 rfl ?_
      refine j_iload_n dX6_price_37 rfl ?_
      refine j_icmp_ne (tgt := 44) dX6_price_38 (by decide) (fun c38 => ?_) (fun c38 => ?_)
      · have hac := acPrice_d hchj h3 c38
        refine j_aload_n dX6_price_44 rfl ?_
        refine j_callV (y' := mX6_note) (As := []) (st := []) dX6_price_45 lkX6_167 okX6_note imX6_note seX6_note (Nat.le_of_ble_eq_true rfl) rfl rfl rfl rfl (Nat.le_of_ble_eq_true rfl) (Nat.le_of_ble_eq_true rfl) (m_note z _ _ _ _ _ _ _ _ F A hM.k) (fun v45 F45 A45 hq45 => ?_)
        obtain ⟨rfl, hM, ⟨e1_45, e5_45, e7_45⟩, h6_45⟩ := hq45
        refine j_aload_n dX6_price_48 rfl ?_
        refine j_getR (r := 5) dX6_price_49 flX6_22 (Nat.le_of_ble_eq_true rfl) rfl rfl ?_
        refine j_iconst (v := nI 4) dX6_price_52 (by decide +kernel) ?_
        refine j_iload_n dX6_price_53 rfl ?_
        refine j_imulN dX6_price_54 ?_
        refine j_iload_n dX6_price_55 rfl ?_
        refine j_iaddN dX6_price_56 ?_
        refine j_iload_n dX6_price_57 rfl ?_
        refine j_iastN dX6_price_58 (Nat.le_of_ble_eq_true rfl) rfl (by omega) (by decide) ?_
        refine j_iload dX6_price_59 rfl ?_
        exact j_iret dX6_price_61 rfl rfl ⟨_, _, rfl, hac, e1_45, e7_45, (MK.i (F := F45) (A := mj_u A45 5 (4 * j + k) x3) hM), fun i hi => by rw [mj_u_at, e5_45], h6_45⟩
      · have hac := acPrice_s hchj h3 c38
        refine j_bipush (v := (-2)) dX6_price_41 (by decide +kernel) ?_
        exact j_iret dX6_price_43 rfl rfl ⟨_, _, rfl, hac, rfl, rfl, hM.k.i, rfl, rfl⟩
    · have hac := acPrice_c (row := A 5) hchj (hr15.resolve_left (fun h => by omega)).2
      refine j_iconst (v := (-1)) dX6_price_21 (by decide +kernel) ?_
      exact j_iret dX6_price_22 rfl rfl ⟨_, _, rfl, hac, rfl, rfl, hM.k.i, rfl, rfl⟩

set_option maxHeartbeats 400000 in
set_option maxRecDepth 100000 in
theorem m_rename (z : mj_B) (d : Nat) (L : Lg) (n : Nat) (mm : Nat → Nat) (rn : Nat) (rm : Nat → Nat) (un kn : Nat) (x1 x2 : Int32) (F A : mj_S) (hM : MI L n mm rn rm un kn F A) : J (gM z) mX6_rename (d + 2) 0 [(0, .ref 0), (1, .int x1), (2, .int x2)] [] F A (fun v F' A' => ∃ x o, v = some (.int x) ∧ acRename n (A 5) x1 x2 = (x, o) ∧ A' 1 = A 1 ∧ A' 7 = A 7 ∧ MSo L.1 n mm rn rm un kn A F' A' o) := by
  have hM0 := hM.1.2.1
  have hM1 := hM.2.1.2.1
  have hM2 := hM.2.2.1.2.1
  have hM3 := hM.2.2.2.1.2
  have hM4 := hM.2.2.2.2.1.2
  have hm4 : ∀ u, u < n → mm u ≤ 4 := fun u _ => hM.2.1.2.2.2.1 u
  refine j_aload_n dX6_rename_0 rfl ?_
  refine j_iload_n dX6_rename_1 rfl ?_
  refine j_callV (y' := mX6_isNode) (As := [.int x1]) (st := []) dX6_rename_2 lkX6_141 okX6_isNode imX6_isNode seX6_isNode (Nat.le_of_ble_eq_true rfl) rfl rfl rfl rfl (Nat.le_of_ble_eq_true rfl) (Nat.le_of_ble_eq_true rfl) (m_isNode z _ _ _ _ _ _ _ _ x1 F A hM) (fun v2 F2 A2 hq2 => ?_)
  obtain ⟨rfl, rfl, r2, rfl, hr2⟩ := hq2
  have hb2 : r2 ≤ 1 := by omega
  refine j_if_eqN (tgt := 20) dX6_rename_5 (by decide) (by omega) (fun c5 => ?_) (fun c5 => ?_)
  · have hnd := ndO_none hM1 (hr2.resolve_left (fun h => by omega)).2
    have hac := acRename_n (row := A 5) (x2 := x2) hnd
    refine j_iconst (v := (-1)) dX6_rename_20 (by decide +kernel) ?_
    exact j_iret dX6_rename_21 rfl rfl ⟨_, _, rfl, hac, rfl, rfl, hM.k.i, rfl, rfl⟩
  · obtain ⟨j, hj, rfl⟩ := (hr2.resolve_right (fun h => by omega)).2
    have h8j : j < 8 := by omega
    have hndj := ndO_some hM1 hj
    refine j_iload_n dX6_rename_8 rfl ?_
    refine j_i2l dX6_rename_9 rfl ?_
    refine j_lconst (v := 0) dX6_rename_10 rfl ?_
    refine j_ldc2 dX6_rename_11 klX6_150 ?_
    refine j_callS (y' := mX6_in) (As := [.long (x2.toInt64), .long (0), .long ((3))]) (st := []) dX6_rename_14 lkX6_89 okX6_in stX6_in rfl (Nat.le_of_ble_eq_true rfl) (Nat.le_of_ble_eq_true rfl) (m_in z _ x2.toInt64 0 (3) F A) (fun v14 F14 A14 hq14 => ?_)
    obtain ⟨rfl, rfl, r14, rfl, hr14⟩ := hq14
    have hb14 : r14 ≤ 1 := by omega
    rw [in64 0 3 (by decide +kernel) (by decide +kernel)] at hr14
    refine j_if_neN (tgt := 22) dX6_rename_17 (by decide) (by omega) (fun c17 => ?_) (fun c17 => ?_)
    · have h3 := (hr14.resolve_right (fun h => by omega)).2
      refine j_aload_n dX6_rename_22 rfl ?_
      refine j_getR (r := 5) dX6_rename_23 flX6_22 (Nat.le_of_ble_eq_true rfl) rfl rfl ?_
      refine j_bipush (v := nI 32) dX6_rename_26 (by decide +kernel) ?_
      refine j_iload_n dX6_rename_28 rfl ?_
      refine j_iaddN dX6_rename_29 ?_
      refine j_ialdN dX6_rename_30 (Nat.le_of_ble_eq_true rfl) rfl (by omega) (by decide) ?_
      refine j_istore_n (lv' := [(0, .ref 0), (1, .int (nI j)), (2, .int x2), (3, .int (A 5 (32 + j)))]) dX6_rename_31 (Nat.le_of_ble_eq_true rfl) rfl rfl ?_
      refine j_iload_n dX6_rename_32 rfl ?_
      refine j_iload_n dX6_rename_33 rfl ?_
      refine j_icmp_ne (tgt := 40) dX6_rename_34 (by decide) (fun c34 => ?_) (fun c34 => ?_)
      · have hac := acRename_d hndj h3 c34
        refine j_aload_n dX6_rename_40 rfl ?_
        refine j_callV (y' := mX6_note) (As := []) (st := []) dX6_rename_41 lkX6_167 okX6_note imX6_note seX6_note (Nat.le_of_ble_eq_true rfl) rfl rfl rfl rfl (Nat.le_of_ble_eq_true rfl) (Nat.le_of_ble_eq_true rfl) (m_note z _ _ _ _ _ _ _ _ F A hM.k) (fun v41 F41 A41 hq41 => ?_)
        obtain ⟨rfl, hM, ⟨e1_41, e5_41, e7_41⟩, h6_41⟩ := hq41
        refine j_aload_n dX6_rename_44 rfl ?_
        refine j_getR (r := 5) dX6_rename_45 flX6_22 (Nat.le_of_ble_eq_true rfl) rfl rfl ?_
        refine j_bipush (v := nI 32) dX6_rename_48 (by decide +kernel) ?_
        refine j_iload_n dX6_rename_50 rfl ?_
        refine j_iaddN dX6_rename_51 ?_
        refine j_iload_n dX6_rename_52 rfl ?_
        refine j_iastN dX6_rename_53 (Nat.le_of_ble_eq_true rfl) rfl (by omega) (by decide) ?_
        refine j_iload_n dX6_rename_54 rfl ?_
        exact j_iret dX6_rename_55 rfl rfl ⟨_, _, rfl, hac, e1_41, e7_41, (MK.i (F := F41) (A := mj_u A41 5 (32 + j) x2) hM), fun i hi => by rw [mj_u_at, e5_41], h6_41⟩
      · have hac := acRename_s hndj h3 c34
        refine j_bipush (v := (-2)) dX6_rename_37 (by decide +kernel) ?_
        exact j_iret dX6_rename_39 rfl rfl ⟨_, _, rfl, hac, rfl, rfl, hM.k.i, rfl, rfl⟩
    · have hac := acRename_c (row := A 5) hndj (hr14.resolve_left (fun h => by omega)).2
      refine j_iconst (v := (-1)) dX6_rename_20 (by decide +kernel) ?_
      exact j_iret dX6_rename_21 rfl rfl ⟨_, _, rfl, hac, rfl, rfl, hM.k.i, rfl, rfl⟩

theorem pin_neg {x : Int32} {p : Nat} (hp : p ≤ 4) (e : x = nI p) (h : ¬ 0 ≤ x - nI 1) : x = nI 0 := by
  rw [e] at h ⊢
  match p, hp with
  | 0, _ => rfl
  | q + 1, _ =>
    rw [pk_sub (by omega)] at h
    exact absurd (nI_pos' (by omega)) h
theorem pin_pos {x : Int32} {p : Nat} (e : x = nI p) (h : 0 ≤ x - nI 1) : ¬ x = nI 0 := fun q => by
  rw [q] at h
  exact absurd h (by decide +kernel)

set_option maxHeartbeats 400000 in
set_option maxRecDepth 100000 in
theorem m_pin (z : mj_B) (d : Nat) (L : Lg) (n : Nat) (mm : Nat → Nat) (rn : Nat) (rm : Nat → Nat) (un kn : Nat) (x1 x2 : Int32) (F A : mj_S) (hM : MI L n mm rn rm un kn F A) (hw : wr n mm (A 5)) : J (gM z) mX6_pin (d + 2) 0 [(0, .ref 0), (1, .int x1), (2, .int x2)] [] F A (fun v F' A' => ∃ x o, v = some (.int x) ∧ acPin n mm (A 5) x1 x2 = (x, o) ∧ A' 1 = A 1 ∧ A' 7 = A 7 ∧ MSo L.1 n mm rn rm un kn A F' A' o) := by
  have hM0 := hM.1.2.1
  have hM1 := hM.2.1.2.1
  have hM2 := hM.2.2.1.2.1
  have hM3 := hM.2.2.2.1.2
  have hM4 := hM.2.2.2.2.1.2
  have hm4 : ∀ u, u < n → mm u ≤ 4 := fun u _ => hM.2.1.2.2.2.1 u
  refine j_aload_n dX6_pin_0 rfl ?_
  refine j_iload_n dX6_pin_1 rfl ?_
  refine j_callV (y' := mX6_isNode) (As := [.int x1]) (st := []) dX6_pin_2 lkX6_141 okX6_isNode imX6_isNode seX6_isNode (Nat.le_of_ble_eq_true rfl) rfl rfl rfl rfl (Nat.le_of_ble_eq_true rfl) (Nat.le_of_ble_eq_true rfl) (m_isNode z _ _ _ _ _ _ _ _ x1 F A hM) (fun v2 F2 A2 hq2 => ?_)
  obtain ⟨rfl, rfl, r2, rfl, hr2⟩ := hq2
  have hb2 : r2 ≤ 1 := by omega
  refine j_if_eqN (tgt := 28) dX6_pin_5 (by decide) (by omega) (fun c5 => ?_) (fun c5 => ?_)
  · have hnd := ndO_none hM1 (hr2.resolve_left (fun h => by omega)).2
    have hac := acPin_n (mm := mm) (row := A 5) (x2 := x2) hnd
    refine j_iconst (v := (-1)) dX6_pin_28 (by decide +kernel) ?_
    exact j_iret dX6_pin_29 rfl rfl ⟨_, _, rfl, hac, rfl, rfl, hM.k.i, rfl, rfl⟩
  · obtain ⟨j, hj, rfl⟩ := (hr2.resolve_right (fun h => by omega)).2
    have h8j : j < 8 := by omega
    have hndj := ndO_some hM1 hj
    have h4j := hm4 j hj
    obtain ⟨p0, hp0, ep0⟩ := (hw.2.1 j hj).2.1
    refine j_iload_n dX6_pin_8 rfl ?_
    refine j_i2l dX6_pin_9 rfl ?_
    refine j_ldc2 dX6_pin_10 klX6_177 ?_
    refine j_aload_n dX6_pin_13 rfl ?_
    refine j_getR (r := 2) dX6_pin_14 flX6_13 (Nat.le_of_ble_eq_true rfl) rfl rfl ?_
    refine j_iload_n dX6_pin_17 rfl ?_
    refine j_ialdN dX6_pin_18 (Nat.le_of_ble_eq_true rfl) rfl (by omega) (by decide) ?_
    refine j_top (y0 := nI (mm j)) (hM.2.1.2.2.1 _ (by omega)) ?_
    refine j_iconst (v := nI 1) dX6_pin_19 (by decide +kernel) ?_
    refine j_isub dX6_pin_20 ?_
    refine j_top (y0 := (nI (mm j)) - (nI 1)) rfl ?_
    refine j_i2l dX6_pin_21 rfl ?_
    refine j_callS (y' := mX6_in) (As := [.long (x2.toInt64), .long ((-1)), .long (((nI (mm j)) - (nI 1)).toInt64)]) (st := []) dX6_pin_22 lkX6_89 okX6_in stX6_in rfl (Nat.le_of_ble_eq_true rfl) (Nat.le_of_ble_eq_true rfl) (m_in z _ x2.toInt64 (-1) (((nI (mm j)) - (nI 1)).toInt64) F A) (fun v22 F22 A22 hq22 => ?_)
    obtain ⟨rfl, rfl, r22, rfl, hr22⟩ := hq22
    have hb22 : r22 ≤ 1 := by omega
    rw [in_m1 h4j] at hr22
    refine j_if_neN (tgt := 30) dX6_pin_25 (by decide) (by omega) (fun c25 => ?_) (fun c25 => ?_)
    · obtain ⟨p, hpo, hpe, hst, hpm⟩ := acPin_any (row := A 5) hM1 hj h4j (show p0 ≤ 4 by omega) ep0 (hr22.resolve_right (fun h => by omega)).2
      rw [← n01] at hpe hst
      refine j_aload_n dX6_pin_30 rfl ?_
      refine j_getR (r := 5) dX6_pin_31 flX6_22 (Nat.le_of_ble_eq_true rfl) rfl rfl ?_
      refine j_bipush (v := nI 40) dX6_pin_34 (by decide +kernel) ?_
      refine j_iload_n dX6_pin_36 rfl ?_
      refine j_iaddN dX6_pin_37 ?_
      refine j_ialdN dX6_pin_38 (Nat.le_of_ble_eq_true rfl) rfl (by omega) (by decide) ?_
      refine j_iconst (v := nI 1) dX6_pin_39 (by decide +kernel) ?_
      refine j_isub dX6_pin_40 ?_
      refine j_istore_n (lv' := [(0, .ref 0), (1, .int (nI j)), (2, .int x2), (3, .int ((A 5 (40 + j)) - (nI 1)))]) dX6_pin_41 (Nat.le_of_ble_eq_true rfl) rfl rfl ?_
      refine j_iload_n dX6_pin_42 rfl ?_
      refine j_iload_n dX6_pin_43 rfl ?_
      refine j_icmp_ne (tgt := 50) dX6_pin_44 (by decide) (fun c44 => ?_) (fun c44 => ?_)
      · have hac := hpo.trans (pinO_d (fun q => c44 (hpe.mpr q)))
        refine j_aload_n dX6_pin_50 rfl ?_
        refine j_callV (y' := mX6_note) (As := []) (st := []) dX6_pin_51 lkX6_167 okX6_note imX6_note seX6_note (Nat.le_of_ble_eq_true rfl) rfl rfl rfl rfl (Nat.le_of_ble_eq_true rfl) (Nat.le_of_ble_eq_true rfl) (m_note z _ _ _ _ _ _ _ _ F A hM.k) (fun v51 F51 A51 hq51 => ?_)
        obtain ⟨rfl, hM, ⟨e1_51, e5_51, e7_51⟩, h6_51⟩ := hq51
        refine j_aload_n dX6_pin_54 rfl ?_
        refine j_getR (r := 5) dX6_pin_55 flX6_22 (Nat.le_of_ble_eq_true rfl) rfl rfl ?_
        refine j_bipush (v := nI 40) dX6_pin_58 (by decide +kernel) ?_
        refine j_iload_n dX6_pin_60 rfl ?_
        refine j_iaddN dX6_pin_61 ?_
        refine j_iload_n dX6_pin_62 rfl ?_
        refine j_iconst (v := nI 1) dX6_pin_63 (by decide +kernel) ?_
        refine j_iadd dX6_pin_64 ?_
        refine j_iastN dX6_pin_65 (Nat.le_of_ble_eq_true rfl) rfl (by omega) (by decide) ?_
        refine j_iload_n dX6_pin_66 rfl ?_
        refine j_if_ge (tgt := 75) dX6_pin_67 (by decide) (fun c67 => ?_) (fun c67 => ?_)
        · have hpa : pinA (A 5 (40 + j)) = A 5 (40 + j) - nI 1 := by rw [n01]; exact pinA_p (pin_pos ep0 c67)
          rw [hpa] at hac
          refine j_iload_n dX6_pin_75 rfl ?_
          exact j_iret dX6_pin_76 rfl rfl ⟨_, _, rfl, hac, e1_51, e7_51, (MK.i (F := F51) (A := mj_u A51 5 (40 + j) (x2 + (nI 1))) hM), fun i hi => by rw [mj_u_at, e5_51, hst], h6_51⟩
        · have hpa : pinA (A 5 (40 + j)) = -4 := pinA_z (pin_neg (by omega) ep0 c67)
          rw [hpa] at hac
          refine j_bipush (v := (-4)) dX6_pin_70 (by decide +kernel) ?_
          refine j_goto (tgt := 76) dX6_pin_72 (by decide) ?_
          exact j_iret dX6_pin_76 rfl rfl ⟨_, _, rfl, hac, e1_51, e7_51, (MK.i (F := F51) (A := mj_u A51 5 (40 + j) (x2 + (nI 1))) hM), fun i hi => by rw [mj_u_at, e5_51, hst], h6_51⟩
      · have hac := hpo.trans (pinO_s (hpe.mp c44))
        refine j_bipush (v := (-2)) dX6_pin_47 (by decide +kernel) ?_
        exact j_iret dX6_pin_49 rfl rfl ⟨_, _, rfl, hac, rfl, rfl, hM.k.i, rfl, rfl⟩
    · have hac := acPin_nn (row := A 5) hM1 hj h4j (hr22.resolve_left (fun h => by omega)).2
      refine j_iconst (v := (-1)) dX6_pin_28 (by decide +kernel) ?_
      exact j_iret dX6_pin_29 rfl rfl ⟨_, _, rfl, hac, rfl, rfl, hM.k.i, rfl, rfl⟩

set_option maxHeartbeats 400000 in
set_option maxRecDepth 100000 in
theorem m_looseNow (z : mj_B) (d : Nat) (T : Nat) (n : Nat) (mm : Nat → Nat) (rn : Nat) (rm : Nat → Nat) (un kn : Nat) (u v : Nat) (hu : u < 8) (hv : v < 8) (huv : u ≠ v) (F A0 : mj_S) (hM : MK T n mm rn rm un kn F A0) : J (gM z) mX6_looseNow (d + 1) 0 [(0, .ref 0), (1, .int (nI u)), (2, .int (nI v))] [] F A0 (fun w F' A' => w = none ∧ F = F' ∧ MK T n mm rn rm un kn F A' ∧ (A' 1 = A0 1 ∧ A' 6 = A0 6 ∧ A' 7 = A0 7 ∧ A' 17 = A0 17) ∧ A' 5 = looR (A0 5) (pmin u v) (pmax u v)) := by
  have hM0 := hM.1.2.1
  have hM1 := hM.2.1.2.1
  have hM2 := hM.2.2.1.2.1
  have hM3 := hM.2.2.2.1.2
  have hM4 := hM.2.2.2.2.1.2
  have L2 : ∀ (fuel : Nat) (k : Nat) (A : mj_S), (MK T n mm rn rm un kn F A) → (k ≤ 16) → (A 1 = A0 1 ∧ A 6 = A0 6 ∧ A 7 = A0 7 ∧ A 17 = A0 17) → (∀ q, q < k → A 5 (eA u v (q / 4) (q % 4)) = 0) → (∀ x, (∀ q, q < k → x ≠ eA u v (q / 4) (q % 4)) → A 5 x = A0 5 x) → 16 - k < fuel → J (gM z) mX6_looseNow (d + 1) 2 [(0, .ref 0), (1, .int (nI u)), (2, .int (nI v)), (3, .int (nI k))] [] F A (fun w F' A' => w = none ∧ F = F' ∧ MK T n mm rn rm un kn F A' ∧ (A' 1 = A0 1 ∧ A' 6 = A0 6 ∧ A' 7 = A0 7 ∧ A' 17 = A0 17) ∧ A' 5 = looR (A0 5) (pmin u v) (pmax u v)) := by
    intro fuel
    induction fuel with
    | zero => intro k A hM h1 hfr h5 h5b hf; exact absurd hf (by omega)
    | succ fuel ih2 =>
      intro k A hM h1 hfr h5 h5b hf
      refine j_iload_n dX6_looseNow_2 rfl ?_
      refine j_bipush (v := nI 16) dX6_looseNow_3 (by decide +kernel) ?_
      refine j_icmp_geN (tgt := 31) dX6_looseNow_5 (by decide) (by omega) (by omega) (fun c5 => ?_) (fun c5 => ?_)
      · exact j_vret dX6_looseNow_31 rfl ⟨rfl, rfl, hM, hfr, loo_fin huv (fun q hq => h5 q (by omega)) (fun x hx => h5b x (fun q hq => hx q (by omega)))⟩
      · refine j_aload_n dX6_looseNow_8 rfl ?_
        refine j_getR (r := 5) dX6_looseNow_9 flX6_22 (Nat.le_of_ble_eq_true rfl) rfl rfl ?_
        refine j_iload_n dX6_looseNow_12 rfl ?_
        refine j_iload_n dX6_looseNow_13 rfl ?_
        refine j_iload_n dX6_looseNow_14 rfl ?_
        refine j_iconst (v := nI 4) dX6_looseNow_15 (by decide +kernel) ?_
        refine j_idivN dX6_looseNow_16 (by omega) (by omega) (by omega) ?_
        refine j_iload_n dX6_looseNow_17 rfl ?_
        refine j_iconst (v := nI 4) dX6_looseNow_18 (by decide +kernel) ?_
        refine j_iremN dX6_looseNow_19 (by omega) (by omega) (by omega) ?_
        refine j_callS (y' := mX6_entryAt) (As := [.int (nI u), .int (nI v), .int (nI (k / 4)), .int (nI (k % 4))]) (st := [.ref 5]) dX6_looseNow_20 lkX6_81 okX6_entryAt stX6_entryAt rfl (Nat.le_of_ble_eq_true rfl) (Nat.le_of_ble_eq_true rfl) (m_entryAt z _ u v (k / 4) (k % 4) (by omega) (by omega) (by omega) (by omega) (by omega) F A) (fun v20 F20 A20 hq20 => ?_)
        obtain ⟨rfl, rfl, e20, rfl, he20⟩ := hq20
        have hl20 : e20 < 500 := by rw [he20]; exact eA_lt (by omega) (by omega) (by omega) (by omega) (by omega)
        refine j_iconst (v := nI 0) dX6_looseNow_23 (by decide +kernel) ?_
        refine j_iastN dX6_looseNow_24 (Nat.le_of_ble_eq_true rfl) rfl (by omega) (by decide) ?_
        refine j_iinc (v := nI (k + 1)) (lv' := [(0, .ref 0), (1, .int (nI u)), (2, .int (nI v)), (3, .int (nI (k + 1)))]) dX6_looseNow_25 rfl (nI_add _ 1) (Nat.le_of_ble_eq_true rfl) rfl rfl ?_
        refine j_goto (tgt := 2) dX6_looseNow_28 (by decide) ?_
        exact ih2 (k + 1) (mj_u A 5 e20 (nI 0)) (by first | exact hM | omega) (by first | exact h1 | omega) (by first | exact hfr | omega) (fun q hq => by rw [he20, mj_u_at]; exact if e : eA u v (q / 4) (q % 4) = eA u v (k / 4) (k % 4) then (by rw [e, pk_us, nI_0]) else (by rw [pk_un e]; exact h5 q (by have : q ≠ k := (fun e2 => e (by rw [e2])); omega))) (fun x hx => by rw [he20, mj_u_at, pk_un (hx k (by omega))]; exact h5b x (fun q hq => hx q (by omega))) (by omega)
  refine j_iconst (v := nI 0) dX6_looseNow_0 (by decide +kernel) ?_
  refine j_istore_n (lv' := [(0, .ref 0), (1, .int (nI u)), (2, .int (nI v)), (3, .int (nI 0))]) dX6_looseNow_1 (Nat.le_of_ble_eq_true rfl) rfl rfl ?_
  exact L2 _ 0 A0 (by first | exact hM | omega) (by first | exact h1 | omega) ⟨rfl, rfl, rfl, rfl⟩ (fun q hq => absurd hq (by omega)) (fun _ _ => rfl) (Nat.lt_succ_self _)

theorem loose_no {n : Nat} {row : Nat → Int32} {x1 x2 : Int32} (hn : n ≤ 8) (h : ¬ ∃ j k, j < n ∧ k < n ∧ j ≠ k ∧ x1 = nI j ∧ x2 = nI k) : acLoose n row x1 x2 = none := by
  cases h1 : ndO n x1 with
  | none => exact acLoose_1 h1
  | some u =>
    cases h2 : ndO n x2 with
    | none => exact acLoose_2 h2
    | some v =>
      obtain ⟨hu, e1⟩ := ndO_inv hn h1
      obtain ⟨hv, e2⟩ := ndO_inv hn h2
      exact acLoose_n h1 h2 (fun q => h ⟨u, v, hu, hv, q.1, e1, e2⟩)

set_option maxHeartbeats 400000 in
set_option maxRecDepth 100000 in
theorem m_loose (z : mj_B) (d : Nat) (L : Lg) (n : Nat) (mm : Nat → Nat) (rn : Nat) (rm : Nat → Nat) (un kn : Nat) (x1 x2 : Int32) (F A : mj_S) (hM : MI L n mm rn rm un kn F A) : J (gM z) mX6_loose (d + 3) 0 [(0, .ref 0), (1, .int x1), (2, .int x2)] [] F A (fun v F' A' => ∃ x o, v = some (.int x) ∧ acLoose n (A 5) x1 x2 = o ∧ A' 1 = A 1 ∧ A' 7 = A 7 ∧ MSo L.1 n mm rn rm un kn A F' A' o) := by
  have hM0 := hM.1.2.1
  have hM1 := hM.2.1.2.1
  have hM2 := hM.2.2.1.2.1
  have hM3 := hM.2.2.2.1.2
  have hM4 := hM.2.2.2.2.1.2
  have hm4 : ∀ u, u < n → mm u ≤ 4 := fun u _ => hM.2.1.2.2.2.1 u
  refine j_aload_n dX6_loose_0 rfl ?_
  refine j_iload_n dX6_loose_1 rfl ?_
  refine j_iload_n dX6_loose_2 rfl ?_
  refine j_callV (y' := mX6_isPair) (As := [.int x1, .int x2]) (st := []) dX6_loose_3 lkX6_170 okX6_isPair imX6_isPair seX6_isPair (Nat.le_of_ble_eq_true rfl) rfl rfl rfl rfl (Nat.le_of_ble_eq_true rfl) (Nat.le_of_ble_eq_true rfl) (m_isPair z _ _ _ _ _ _ _ _ x1 x2 F A hM) (fun v3 F3 A3 hq3 => ?_)
  obtain ⟨rfl, rfl, r3, rfl, hr3⟩ := hq3
  have hb3 : r3 ≤ 1 := by omega
  refine j_if_neN (tgt := 11) dX6_loose_6 (by decide) (by omega) (fun c6 => ?_) (fun c6 => ?_)
  · obtain ⟨j, k, hj, hk, hne, rfl, rfl⟩ := (hr3.resolve_right (fun h => by omega)).2
    have h8j : j < 8 := by omega
    have h8k : k < 8 := by omega
    refine j_aload_n dX6_loose_11 rfl ?_
    refine j_iload_n dX6_loose_12 rfl ?_
    refine j_iload_n dX6_loose_13 rfl ?_
    refine j_callV (y' := mX6_isTied) (As := [.int (nI j), .int (nI k)]) (st := []) dX6_loose_14 lkX6_146 okX6_isTied imX6_isTied seX6_isTied (Nat.le_of_ble_eq_true rfl) rfl rfl rfl rfl (Nat.le_of_ble_eq_true rfl) (Nat.le_of_ble_eq_true rfl) (m_isTied z _ j k (by omega) (by omega) F A) (fun v14 F14 A14 hq14 => ?_)
    obtain ⟨rfl, rfl, r14, rfl, hr14⟩ := hq14
    have hb14 : r14 ≤ 1 := by omega
    refine j_if_neN (tgt := 23) dX6_loose_17 (by decide) (by omega) (fun c17 => ?_) (fun c17 => ?_)
    · have hac := acLoose_d (row := A 5) (ndO_some hM1 hj) (ndO_some hM1 hk) (hr14.resolve_right (fun h => by omega)).2
      refine j_aload_n dX6_loose_23 rfl ?_
      refine j_callV (y' := mX6_note) (As := []) (st := []) dX6_loose_24 lkX6_167 okX6_note imX6_note seX6_note (Nat.le_of_ble_eq_true rfl) rfl rfl rfl rfl (Nat.le_of_ble_eq_true rfl) (Nat.le_of_ble_eq_true rfl) (m_note z _ _ _ _ _ _ _ _ F A hM.k) (fun v24 F24 A24 hq24 => ?_)
      obtain ⟨rfl, hM, ⟨e1_24, e5_24, e7_24⟩, h6_24⟩ := hq24
      refine j_aload_n dX6_loose_27 rfl ?_
      refine j_iload_n dX6_loose_28 rfl ?_
      refine j_iload_n dX6_loose_29 rfl ?_
      refine j_callV (y' := mX6_looseNow) (As := [.int (nI j), .int (nI k)]) (st := []) dX6_loose_30 lkX6_173 okX6_looseNow imX6_looseNow seX6_looseNow (Nat.le_of_ble_eq_true rfl) rfl rfl rfl rfl (Nat.le_of_ble_eq_true rfl) (Nat.le_of_ble_eq_true rfl) (m_looseNow z _ _ _ _ _ _ _ _ j k (by omega) (by omega) hne F24 A24 hM) (fun v30 F30 A30 hq30 => ?_)
      obtain ⟨rfl, rfl, hM, hlf30, hl5_30⟩ := hq30
      refine j_aload_n dX6_loose_33 rfl ?_
      refine j_getR (r := 5) dX6_loose_34 flX6_22 (Nat.le_of_ble_eq_true rfl) rfl rfl ?_
      refine j_callS (y' := mX6_tiesIn) (As := [.ref 5]) (st := []) dX6_loose_37 lkX6_116 okX6_tiesIn stX6_tiesIn rfl (Nat.le_of_ble_eq_true rfl) (Nat.le_of_ble_eq_true rfl) (m_tiesIn z _ 5 (Nat.le_of_ble_eq_true rfl) rfl F24 A30) (fun v37 F37 A37 hq37 => ?_)
      obtain ⟨rfl, rfl, r37, rfl, hr37⟩ := hq37
      have hl37 : r37 ≤ 28 := by rw [hr37]; exact tsN_le _ 28
      exact j_iret dX6_loose_40 rfl rfl ⟨_, _, rfl, hac, hlf30.1.trans e1_24, hlf30.2.2.1.trans e7_24, (MK.i (F := F24) (A := A30) hM), fun i hi => by rw [hl5_30, e5_24], fun a b h1 h2 => by rw [hlf30.2.1]; exact h6_24 a b h1 h2⟩
    · have hac := acLoose_n (row := A 5) (ndO_some hM1 hj) (ndO_some hM1 hk) (hr14.resolve_left (fun h => by omega)).2
      refine j_bipush (v := (-2)) dX6_loose_20 (by decide +kernel) ?_
      exact j_iret dX6_loose_22 rfl rfl ⟨_, _, rfl, hac, rfl, rfl, hM.k.i, rfl, rfl⟩
  · have hac := loose_no (row := A 5) hM1 (hr3.resolve_left (fun h => by omega)).2
    refine j_iconst (v := (-1)) dX6_loose_9 (by decide +kernel) ?_
    exact j_iret dX6_loose_10 rfl rfl ⟨_, _, rfl, hac, rfl, rfl, hM.k.i, rfl, rfl⟩

set_option maxHeartbeats 400000 in
set_option maxRecDepth 100000 in
theorem m_table (z : mj_B) (d : Nat) (L : Lg) (n : Nat) (mm : Nat → Nat) (rn : Nat) (rm : Nat → Nat) (un kn : Nat) (x1 x2 x3 x4 x5 : Int32) (F A0 : mj_S) (hM : MI L n mm rn rm un kn F A0) : J (gM z) mX6_table (d + 3) 0 [(0, .ref 0), (1, .int x1), (2, .int x2), (3, .int x3), (4, .int x4), (5, .int x5)] [] F A0 (fun v F' A' => ∃ x o, v = some (.int x) ∧ acTable n mm (A0 5) x1 x2 x3 x4 x5 = (x, o) ∧ A' 1 = A0 1 ∧ A' 7 = A0 7 ∧ MSo L.1 n mm rn rm un kn A0 F' A' o) := by
  have hM0 := hM.1.2.1
  have hM1 := hM.2.1.2.1
  have hM2 := hM.2.2.1.2.1
  have hM3 := hM.2.2.2.1.2
  have hM4 := hM.2.2.2.2.1.2
  have hm4 : ∀ u, u < n → mm u ≤ 4 := fun u _ => hM.2.1.2.2.2.1 u
  refine j_iload_n dX6_table_0 rfl ?_
  refine j_iload_n dX6_table_1 rfl ?_
  refine j_icmp_eq (tgt := 37) dX6_table_2 (by decide) (fun c2 => ?_) (fun c2 => ?_)
  · have hac := acTable_e (n := n) (mm := mm) (row := A0 5) (x3 := x3) (x4 := x4) (x5 := x5) c2
    refine j_iconst (v := (-1)) dX6_table_37 (by decide +kernel) ?_
    exact j_iret dX6_table_38 rfl rfl ⟨_, _, rfl, hac, rfl, rfl, hM.k.i, rfl, rfl⟩
  · refine j_aload_n dX6_table_5 rfl ?_
    refine j_iload_n dX6_table_6 rfl ?_
    refine j_iload_n dX6_table_7 rfl ?_
    refine j_callV (y' := mX6_isChoice) (As := [.int x1, .int x3]) (st := []) dX6_table_8 lkX6_155 okX6_isChoice imX6_isChoice seX6_isChoice (Nat.le_of_ble_eq_true rfl) rfl rfl rfl rfl (Nat.le_of_ble_eq_true rfl) (Nat.le_of_ble_eq_true rfl) (m_isChoice z _ _ _ _ _ _ _ _ x1 x3 F A0 hM) (fun v8 F8 A8 hq8 => ?_)
    obtain ⟨rfl, rfl, r8, rfl, hr8⟩ := hq8
    have hb8 : r8 ≤ 1 := by omega
    refine j_if_eqN (tgt := 37) dX6_table_11 (by decide) (by omega) (fun c11 => ?_) (fun c11 => ?_)
    · have hch := chO_none hM1 hm4 (hr8.resolve_left (fun h => by omega)).2
      have hac := acTable_1 (row := A0 5) (x4 := x4) (x5 := x5) c2 hch
      refine j_iconst (v := (-1)) dX6_table_37 (by decide +kernel) ?_
      exact j_iret dX6_table_38 rfl rfl ⟨_, _, rfl, hac, rfl, rfl, hM.k.i, rfl, rfl⟩
    · obtain ⟨j, k, hj, hk, rfl, rfl⟩ := (hr8.resolve_right (fun h => by omega)).2
      have h8j : j < 8 := by omega
      have h4k := hM.2.1.2.2.2.1 j
      have hchj := chO_some hM1 h4k hj hk
      refine j_aload_n dX6_table_14 rfl ?_
      refine j_iload_n dX6_table_15 rfl ?_
      refine j_iload dX6_table_16 rfl ?_
      refine j_callV (y' := mX6_isChoice) (As := [.int x2, .int x4]) (st := []) dX6_table_18 lkX6_155 okX6_isChoice imX6_isChoice seX6_isChoice (Nat.le_of_ble_eq_true rfl) rfl rfl rfl rfl (Nat.le_of_ble_eq_true rfl) (Nat.le_of_ble_eq_true rfl) (m_isChoice z _ _ _ _ _ _ _ _ x2 x4 F A0 hM) (fun v18 F18 A18 hq18 => ?_)
      obtain ⟨rfl, rfl, r18, rfl, hr18⟩ := hq18
      have hb18 : r18 ≤ 1 := by omega
      refine j_if_eqN (tgt := 37) dX6_table_21 (by decide) (by omega) (fun c21 => ?_) (fun c21 => ?_)
      · have hch := chO_none hM1 hm4 (hr18.resolve_left (fun h => by omega)).2
        have hac := acTable_2 (row := A0 5) (x5 := x5) c2 hchj hch
        refine j_iconst (v := (-1)) dX6_table_37 (by decide +kernel) ?_
        exact j_iret dX6_table_38 rfl rfl ⟨_, _, rfl, hac, rfl, rfl, hM.k.i, rfl, rfl⟩
      · obtain ⟨j2, k2, hj2, hk2, rfl, rfl⟩ := (hr18.resolve_right (fun h => by omega)).2
        have h8j2 : j2 < 8 := by omega
        have h4k2 := hM.2.1.2.2.2.1 j2
        have hchj2 := chO_some hM1 h4k2 hj2 hk2
        have hne : j ≠ j2 := fun e => c2 (by rw [e])
        have h1j2 := hM.2.1.2.2.2.2 j2 hj2
        have hp16 : mm j * mm j2 ≤ 16 := Nat.mul_le_mul h4k h4k2
        refine j_iload dX6_table_24 rfl ?_
        refine j_i2l dX6_table_26 rfl ?_
        refine j_lconst (v := 0) dX6_table_27 rfl ?_
        refine j_ldc2 dX6_table_28 klX6_120 ?_
        refine j_callS (y' := mX6_in) (As := [.long (x5.toInt64), .long (0), .long ((9))]) (st := []) dX6_table_31 lkX6_89 okX6_in stX6_in rfl (Nat.le_of_ble_eq_true rfl) (Nat.le_of_ble_eq_true rfl) (m_in z _ x5.toInt64 0 (9) F A0) (fun v31 F31 A31 hq31 => ?_)
        obtain ⟨rfl, rfl, r31, rfl, hr31⟩ := hq31
        have hb31 : r31 ≤ 1 := by omega
        rw [in64 0 9 (by decide +kernel) (by decide +kernel)] at hr31
        refine j_if_neN (tgt := 39) dX6_table_34 (by decide) (by omega) (fun c34 => ?_) (fun c34 => ?_)
        · have h5 := (hr31.resolve_right (fun h => by omega)).2
          have hao := acTable_o (row := A0 5) c2 hchj hchj2 h5
          refine j_aload_n dX6_table_39 rfl ?_
          refine j_iload_n dX6_table_40 rfl ?_
          refine j_iload_n dX6_table_41 rfl ?_
          refine j_callV (y' := mX6_isTied) (As := [.int (nI j), .int (nI j2)]) (st := []) dX6_table_42 lkX6_146 okX6_isTied imX6_isTied seX6_isTied (Nat.le_of_ble_eq_true rfl) rfl rfl rfl rfl (Nat.le_of_ble_eq_true rfl) (Nat.le_of_ble_eq_true rfl) (m_isTied z _ j j2 (by omega) (by omega) F A0) (fun v42 F42 A42 hq42 => ?_)
          obtain ⟨rfl, rfl, r42, rfl, hr42⟩ := hq42
          have hb42 : r42 ≤ 1 := by omega
          refine j_istore (lv' := [(0, .ref 0), (1, .int (nI j)), (2, .int (nI j2)), (3, .int (nI k)), (4, .int (nI k2)), (5, .int x5), (6, .int (nI r42))]) dX6_table_45 (Nat.le_of_ble_eq_true rfl) rfl rfl ?_
          refine j_iload dX6_table_47 rfl ?_
          refine j_if_eqN (tgt := 70) dX6_table_49 (by decide) (by omega) (fun c49 => ?_) (fun c49 => ?_)
          · have htn : ¬ 0 < A0 5 (eA j j2 0 0) := fun q => (hr42.resolve_left (fun h => by omega)).2 ⟨hne, q⟩
            refine j_iconst (v := nI 0) dX6_table_70 (by decide +kernel) ?_
            refine j_istore (lv' := [(0, .ref 0), (1, .int (nI j)), (2, .int (nI j2)), (3, .int (nI k)), (4, .int (nI k2)), (5, .int x5), (6, .int (nI r42)), (7, .int (nI 0))]) dX6_table_71 (Nat.le_of_ble_eq_true rfl) rfl rfl ?_
            refine j_iload dX6_table_73 rfl ?_
            refine j_if_eqN (tgt := 88) dX6_table_75 (by decide) (by omega) (fun c75 => ?_) (fun c75 => ?_)
            · refine j_iload dX6_table_88 rfl ?_
              refine j_if_neN (tgt := 108) dX6_table_90 (by decide) (by omega) (fun c90 => ?_) (fun c90 => ?_)
              · exfalso; omega
              · refine j_aload_n dX6_table_93 rfl ?_
                refine j_getR (r := 5) dX6_table_94 flX6_22 (Nat.le_of_ble_eq_true rfl) rfl rfl ?_
                refine j_callS (y' := mX6_tiesIn) (As := [.ref 5]) (st := []) dX6_table_97 lkX6_116 okX6_tiesIn stX6_tiesIn rfl (Nat.le_of_ble_eq_true rfl) (Nat.le_of_ble_eq_true rfl) (m_tiesIn z _ 5 (Nat.le_of_ble_eq_true rfl) rfl F A0) (fun v97 F97 A97 hq97 => ?_)
                obtain ⟨rfl, rfl, r97, rfl, hr97⟩ := hq97
                have hl97 : r97 ≤ 28 := by rw [hr97]; exact tsN_le _ 28
                refine j_bipush (v := nI 12) dX6_table_100 (by decide +kernel) ?_
                refine j_icmp_neN (tgt := 108) dX6_table_102 (by decide) (by omega) (by omega) (fun c102 => ?_) (fun c102 => ?_)
                · have hac := hao.trans (tabO_n htn (by rw [← hr97]; exact c102))
                  rw [← nI_0] at hac
                  refine j_aload_n dX6_table_108 rfl ?_
                  refine j_callV (y' := mX6_note) (As := []) (st := []) dX6_table_109 lkX6_167 okX6_note imX6_note seX6_note (Nat.le_of_ble_eq_true rfl) rfl rfl rfl rfl (Nat.le_of_ble_eq_true rfl) (Nat.le_of_ble_eq_true rfl) (m_note z _ _ _ _ _ _ _ _ F A0 hM.k) (fun v109 F109 A109 hq109 => ?_)
                  obtain ⟨rfl, hM, ⟨e1_109, e5_109, e7_109⟩, h6_109⟩ := hq109
                  have L115 : ∀ (fuel : Nat) (q : Nat) (F A : mj_S), (MK L.1 n mm rn rm (pushN un) kn F A) → (A 1 = A0 1 ∧ A 7 = A0 7 ∧ A 6 = A109 6) → (q ≤ mm j * mm j2) → (∀ w, w < q → A 5 (eA j j2 (w / mm j2) (w % mm j2)) = 1) → (∀ x, (∀ w, w < q → x ≠ eA j j2 (w / mm j2) (w % mm j2)) → A 5 x = A0 5 x) → mm j * mm j2 - q < fuel → J (gM z) mX6_table (d + 3) 115 [(0, .ref 0), (1, .int (nI j)), (2, .int (nI j2)), (3, .int (nI k)), (4, .int (nI k2)), (5, .int x5), (6, .int (nI r42)), (7, .int (nI 0)), (8, .int (nI q))] [] F A (fun v F' A' => ∃ x o, v = some (.int x) ∧ acTable n mm (A0 5) (nI j) (nI j2) (nI k) (nI k2) x5 = (x, o) ∧ A' 1 = A0 1 ∧ A' 7 = A0 7 ∧ MSo L.1 n mm rn rm un kn A0 F' A' o) := by
                    intro fuel
                    induction fuel with
                    | zero => intro q F A hM hfr h2 g5 g5b hf; exact absurd hf (by omega)
                    | succ fuel ih115 =>
                      intro q F A hM hfr h2 g5 g5b hf
                      refine j_iload dX6_table_115 rfl ?_
                      refine j_aload_n dX6_table_117 rfl ?_
                      refine j_getR (r := 2) dX6_table_118 flX6_13 (Nat.le_of_ble_eq_true rfl) rfl rfl ?_
                      refine j_iload_n dX6_table_121 rfl ?_
                      refine j_ialdN dX6_table_122 (Nat.le_of_ble_eq_true rfl) rfl (by omega) (by decide) ?_
                      refine j_top (y0 := nI (mm j)) (hM.2.1.2.2.1 _ (by omega)) ?_
                      refine j_aload_n dX6_table_123 rfl ?_
                      refine j_getR (r := 2) dX6_table_124 flX6_13 (Nat.le_of_ble_eq_true rfl) rfl rfl ?_
                      refine j_iload_n dX6_table_127 rfl ?_
                      refine j_ialdN dX6_table_128 (Nat.le_of_ble_eq_true rfl) rfl (by omega) (by decide) ?_
                      refine j_top (y0 := nI (mm j2)) (hM.2.1.2.2.1 _ (by omega)) ?_
                      refine j_imulN dX6_table_129 ?_
                      refine j_icmp_geN (tgt := 173) dX6_table_130 (by decide) (by omega) (by omega) (fun c130 => ?_) (fun c130 => ?_)
                      · have hrow : A 5 = oneR mm (A0 5) (pmin j j2) (pmax j j2) := one_fin hne h4k h4k2 h1j2 (fun w hw => g5 w (by omega)) (fun x hx => g5b x (fun w hw => hx w (by omega)))
                        refine j_aload_n dX6_table_173 rfl ?_
                        refine j_getR (r := 5) dX6_table_174 flX6_22 (Nat.le_of_ble_eq_true rfl) rfl rfl ?_
                        refine j_iload_n dX6_table_177 rfl ?_
                        refine j_iload_n dX6_table_178 rfl ?_
                        refine j_iload_n dX6_table_179 rfl ?_
                        refine j_iload dX6_table_180 rfl ?_
                        refine j_callS (y' := mX6_entryAt) (As := [.int (nI j), .int (nI j2), .int (nI k), .int (nI k2)]) (st := [.ref 5]) dX6_table_182 lkX6_81 okX6_entryAt stX6_entryAt rfl (Nat.le_of_ble_eq_true rfl) (Nat.le_of_ble_eq_true rfl) (m_entryAt z _ j j2 k k2 (by omega) (by omega) (by omega) (by omega) (by omega) F A) (fun v182 F182 A182 hq182 => ?_)
                        obtain ⟨rfl, rfl, e182, rfl, he182⟩ := hq182
                        have hl182 : e182 < 500 := by rw [he182]; exact eA_lt (by omega) (by omega) (by omega) (by omega) (by omega)
                        refine j_iconst (v := nI 1) dX6_table_185 (by decide +kernel) ?_
                        refine j_iload dX6_table_186 rfl ?_
                        refine j_iadd dX6_table_188 ?_
                        refine j_iastN dX6_table_189 (Nat.le_of_ble_eq_true rfl) rfl (by omega) (by decide) ?_
                        refine j_iload dX6_table_190 rfl ?_
                        exact j_iret dX6_table_192 rfl rfl ⟨_, _, rfl, hac, hfr.1, hfr.2.1, (MK.i (F := F) (A := mj_u A 5 e182 ((nI 1) + x5)) hM), fun i hi => by rw [mj_u_at, hrow, he182, ← n01, Int32.add_comm], fun a b h1 h2 => by show A 6 _ = _; rw [hfr.2.2]; exact h6_109 a b h1 h2⟩
                      · have hd1 : q / mm j2 < mm j := Nat.div_lt_of_lt_mul (by rw [Nat.mul_comm]; exact c130)
                        have hd2 : q % mm j2 < mm j2 := Nat.mod_lt _ (by omega)
                        refine j_iload dX6_table_133 rfl ?_
                        refine j_if_neN (tgt := 173) dX6_table_135 (by decide) (by omega) (fun c135 => ?_) (fun c135 => ?_)
                        · exfalso; omega
                        · refine j_aload_n dX6_table_138 rfl ?_
                          refine j_getR (r := 5) dX6_table_139 flX6_22 (Nat.le_of_ble_eq_true rfl) rfl rfl ?_
                          refine j_iload_n dX6_table_142 rfl ?_
                          refine j_iload_n dX6_table_143 rfl ?_
                          refine j_iload dX6_table_144 rfl ?_
                          refine j_aload_n dX6_table_146 rfl ?_
                          refine j_getR (r := 2) dX6_table_147 flX6_13 (Nat.le_of_ble_eq_true rfl) rfl rfl ?_
                          refine j_iload_n dX6_table_150 rfl ?_
                          refine j_ialdN dX6_table_151 (Nat.le_of_ble_eq_true rfl) rfl (by omega) (by decide) ?_
                          refine j_top (y0 := nI (mm j2)) (hM.2.1.2.2.1 _ (by omega)) ?_
                          refine j_idivN dX6_table_152 (by omega) (by omega) (by omega) ?_
                          refine j_iload dX6_table_153 rfl ?_
                          refine j_aload_n dX6_table_155 rfl ?_
                          refine j_getR (r := 2) dX6_table_156 flX6_13 (Nat.le_of_ble_eq_true rfl) rfl rfl ?_
                          refine j_iload_n dX6_table_159 rfl ?_
                          refine j_ialdN dX6_table_160 (Nat.le_of_ble_eq_true rfl) rfl (by omega) (by decide) ?_
                          refine j_top (y0 := nI (mm j2)) (hM.2.1.2.2.1 _ (by omega)) ?_
                          refine j_iremN dX6_table_161 (by omega) (by omega) (by omega) ?_
                          refine j_callS (y' := mX6_entryAt) (As := [.int (nI j), .int (nI j2), .int (nI (q / (mm j2))), .int (nI (q % (mm j2)))]) (st := [.ref 5]) dX6_table_162 lkX6_81 okX6_entryAt stX6_entryAt rfl (Nat.le_of_ble_eq_true rfl) (Nat.le_of_ble_eq_true rfl) (m_entryAt z _ j j2 (q / (mm j2)) (q % (mm j2)) (by omega) (by omega) (by omega) (by omega) (by omega) F A) (fun v162 F162 A162 hq162 => ?_)
                          obtain ⟨rfl, rfl, e162, rfl, he162⟩ := hq162
                          have hl162 : e162 < 500 := by rw [he162]; exact eA_lt (by omega) (by omega) (by omega) (by omega) (by omega)
                          refine j_iconst (v := nI 1) dX6_table_165 (by decide +kernel) ?_
                          refine j_iastN dX6_table_166 (Nat.le_of_ble_eq_true rfl) rfl (by omega) (by decide) ?_
                          refine j_iinc (v := nI (q + 1)) (lv' := [(0, .ref 0), (1, .int (nI j)), (2, .int (nI j2)), (3, .int (nI k)), (4, .int (nI k2)), (5, .int x5), (6, .int (nI r42)), (7, .int (nI 0)), (8, .int (nI (q + 1)))]) dX6_table_167 rfl (nI_add _ 1) (Nat.le_of_ble_eq_true rfl) rfl rfl ?_
                          refine j_goto (tgt := 115) dX6_table_170 (by decide) ?_
                          exact ih115 (q + 1) F (mj_u A 5 e162 (nI 1)) (by first | exact hM | omega) (by first | exact hfr | omega) (by first | exact h2 | omega) (fun w hw => by rw [he162, mj_u_at]; exact if e : eA j j2 (w / mm j2) (w % mm j2) = eA j j2 (q / mm j2) (q % mm j2) then (by rw [e, pk_us, n01]) else (by rw [pk_un e]; exact g5 w (by have : w ≠ q := (fun e2 => e (by rw [e2])); omega))) (fun x hx => by rw [he162, mj_u_at, pk_un (hx q (by omega))]; exact g5b x (fun w hw => hx w (by omega))) (by omega)
                  refine j_iconst (v := nI 0) dX6_table_112 (by decide +kernel) ?_
                  refine j_istore (lv' := [(0, .ref 0), (1, .int (nI j)), (2, .int (nI j2)), (3, .int (nI k)), (4, .int (nI k2)), (5, .int x5), (6, .int (nI r42)), (7, .int (nI 0)), (8, .int (nI 0))]) dX6_table_113 (Nat.le_of_ble_eq_true rfl) rfl rfl ?_
                  exact L115 _ 0 F109 A109 (by first | exact hM | omega) ⟨e1_109, e7_109, rfl⟩ (Nat.zero_le _) (fun w hw => absurd hw (by omega)) (fun x _ => by rw [e5_109]) (Nat.lt_succ_self _)
                · have hac := hao.trans (tabO_f htn (by rw [← hr97]; exact c102))
                  refine j_bipush (v := (-3)) dX6_table_105 (by decide +kernel) ?_
                  exact j_iret dX6_table_107 rfl rfl ⟨_, _, rfl, hac, rfl, rfl, hM.k.i, rfl, rfl⟩
            · exfalso; omega
          · have htd := (hr42.resolve_right (fun h => by omega)).2.2
            refine j_aload_n dX6_table_52 rfl ?_
            refine j_getR (r := 5) dX6_table_53 flX6_22 (Nat.le_of_ble_eq_true rfl) rfl rfl ?_
            refine j_iload_n dX6_table_56 rfl ?_
            refine j_iload_n dX6_table_57 rfl ?_
            refine j_iload_n dX6_table_58 rfl ?_
            refine j_iload dX6_table_59 rfl ?_
            refine j_callS (y' := mX6_entryAt) (As := [.int (nI j), .int (nI j2), .int (nI k), .int (nI k2)]) (st := [.ref 5]) dX6_table_61 lkX6_81 okX6_entryAt stX6_entryAt rfl (Nat.le_of_ble_eq_true rfl) (Nat.le_of_ble_eq_true rfl) (m_entryAt z _ j j2 k k2 (by omega) (by omega) (by omega) (by omega) (by omega) F A0) (fun v61 F61 A61 hq61 => ?_)
            obtain ⟨rfl, rfl, e61, rfl, he61⟩ := hq61
            have hl61 : e61 < 500 := by rw [he61]; exact eA_lt (by omega) (by omega) (by omega) (by omega) (by omega)
            refine j_ialdN dX6_table_64 (Nat.le_of_ble_eq_true rfl) rfl (by omega) (by decide) ?_
            refine j_iconst (v := nI 1) dX6_table_65 (by decide +kernel) ?_
            refine j_isub dX6_table_66 ?_
            refine j_goto (tgt := 71) dX6_table_67 (by decide) ?_
            refine j_istore (lv' := [(0, .ref 0), (1, .int (nI j)), (2, .int (nI j2)), (3, .int (nI k)), (4, .int (nI k2)), (5, .int x5), (6, .int (nI r42)), (7, .int ((A0 5 e61) - (nI 1)))]) dX6_table_71 (Nat.le_of_ble_eq_true rfl) rfl rfl ?_
            refine j_iload dX6_table_73 rfl ?_
            refine j_if_eqN (tgt := 88) dX6_table_75 (by decide) (by omega) (fun c75 => ?_) (fun c75 => ?_)
            · exfalso; omega
            · refine j_iload dX6_table_78 rfl ?_
              refine j_iload dX6_table_80 rfl ?_
              refine j_icmp_ne (tgt := 88) dX6_table_82 (by decide) (fun c82 => ?_) (fun c82 => ?_)
              · have hac := hao.trans (tabO_d htd (by rw [← n01, ← he61]; exact c82))
                rw [← he61, ← n01] at hac
                refine j_iload dX6_table_88 rfl ?_
                refine j_if_neN (tgt := 108) dX6_table_90 (by decide) (by omega) (fun c90 => ?_) (fun c90 => ?_)
                · refine j_aload_n dX6_table_108 rfl ?_
                  refine j_callV (y' := mX6_note) (As := []) (st := []) dX6_table_109 lkX6_167 okX6_note imX6_note seX6_note (Nat.le_of_ble_eq_true rfl) rfl rfl rfl rfl (Nat.le_of_ble_eq_true rfl) (Nat.le_of_ble_eq_true rfl) (m_note z _ _ _ _ _ _ _ _ F A0 hM.k) (fun v109 F109 A109 hq109 => ?_)
                  obtain ⟨rfl, hM, ⟨e1_109, e5_109, e7_109⟩, h6_109⟩ := hq109
                  refine j_iconst (v := nI 0) dX6_table_112 (by decide +kernel) ?_
                  refine j_istore (lv' := [(0, .ref 0), (1, .int (nI j)), (2, .int (nI j2)), (3, .int (nI k)), (4, .int (nI k2)), (5, .int x5), (6, .int (nI r42)), (7, .int ((A0 5 e61) - (nI 1))), (8, .int (nI 0))]) dX6_table_113 (Nat.le_of_ble_eq_true rfl) rfl rfl ?_
                  refine j_iload dX6_table_115 rfl ?_
                  refine j_aload_n dX6_table_117 rfl ?_
                  refine j_getR (r := 2) dX6_table_118 flX6_13 (Nat.le_of_ble_eq_true rfl) rfl rfl ?_
                  refine j_iload_n dX6_table_121 rfl ?_
                  refine j_ialdN dX6_table_122 (Nat.le_of_ble_eq_true rfl) rfl (by omega) (by decide) ?_
                  refine j_top (y0 := nI (mm j)) (hM.2.1.2.2.1 _ (by omega)) ?_
                  refine j_aload_n dX6_table_123 rfl ?_
                  refine j_getR (r := 2) dX6_table_124 flX6_13 (Nat.le_of_ble_eq_true rfl) rfl rfl ?_
                  refine j_iload_n dX6_table_127 rfl ?_
                  refine j_ialdN dX6_table_128 (Nat.le_of_ble_eq_true rfl) rfl (by omega) (by decide) ?_
                  refine j_top (y0 := nI (mm j2)) (hM.2.1.2.2.1 _ (by omega)) ?_
                  refine j_imulN dX6_table_129 ?_
                  refine j_icmp_geN (tgt := 173) dX6_table_130 (by decide) (by omega) (by omega) (fun c130 => ?_) (fun c130 => ?_)
                  · refine j_aload_n dX6_table_173 rfl ?_
                    refine j_getR (r := 5) dX6_table_174 flX6_22 (Nat.le_of_ble_eq_true rfl) rfl rfl ?_
                    refine j_iload_n dX6_table_177 rfl ?_
                    refine j_iload_n dX6_table_178 rfl ?_
                    refine j_iload_n dX6_table_179 rfl ?_
                    refine j_iload dX6_table_180 rfl ?_
                    refine j_callS (y' := mX6_entryAt) (As := [.int (nI j), .int (nI j2), .int (nI k), .int (nI k2)]) (st := [.ref 5]) dX6_table_182 lkX6_81 okX6_entryAt stX6_entryAt rfl (Nat.le_of_ble_eq_true rfl) (Nat.le_of_ble_eq_true rfl) (m_entryAt z _ j j2 k k2 (by omega) (by omega) (by omega) (by omega) (by omega) F109 A109) (fun v182 F182 A182 hq182 => ?_)
                    obtain ⟨rfl, rfl, e182, rfl, he182⟩ := hq182
                    have hl182 : e182 < 500 := by rw [he182]; exact eA_lt (by omega) (by omega) (by omega) (by omega) (by omega)
                    refine j_iconst (v := nI 1) dX6_table_185 (by decide +kernel) ?_
                    refine j_iload dX6_table_186 rfl ?_
                    refine j_iadd dX6_table_188 ?_
                    refine j_iastN dX6_table_189 (Nat.le_of_ble_eq_true rfl) rfl (by omega) (by decide) ?_
                    refine j_iload dX6_table_190 rfl ?_
                    exact j_iret dX6_table_192 rfl rfl ⟨_, _, rfl, hac, e1_109, e7_109, (MK.i (F := F109) (A := mj_u A109 5 e182 ((nI 1) + x5)) hM), fun i hi => by rw [mj_u_at, e5_109, he182, ← he61, Int32.add_comm], h6_109⟩
                  · refine j_iload dX6_table_133 rfl ?_
                    refine j_if_neN (tgt := 173) dX6_table_135 (by decide) (by omega) (fun c135 => ?_) (fun c135 => ?_)
                    · refine j_aload_n dX6_table_173 rfl ?_
                      refine j_getR (r := 5) dX6_table_174 flX6_22 (Nat.le_of_ble_eq_true rfl) rfl rfl ?_
                      refine j_iload_n dX6_table_177 rfl ?_
                      refine j_iload_n dX6_table_178 rfl ?_
                      refine j_iload_n dX6_table_179 rfl ?_
                      refine j_iload dX6_table_180 rfl ?_
                      refine j_callS (y' := mX6_entryAt) (As := [.int (nI j), .int (nI j2), .int (nI k), .int (nI k2)]) (st := [.ref 5]) dX6_table_182 lkX6_81 okX6_entryAt stX6_entryAt rfl (Nat.le_of_ble_eq_true rfl) (Nat.le_of_ble_eq_true rfl) (m_entryAt z _ j j2 k k2 (by omega) (by omega) (by omega) (by omega) (by omega) F109 A109) (fun v182 F182 A182 hq182 => ?_)
                      obtain ⟨rfl, rfl, e182, rfl, he182⟩ := hq182
                      have hl182 : e182 < 500 := by rw [he182]; exact eA_lt (by omega) (by omega) (by omega) (by omega) (by omega)
                      refine j_iconst (v := nI 1) dX6_table_185 (by decide +kernel) ?_
                      refine j_iload dX6_table_186 rfl ?_
                      refine j_iadd dX6_table_188 ?_
                      refine j_iastN dX6_table_189 (Nat.le_of_ble_eq_true rfl) rfl (by omega) (by decide) ?_
                      refine j_iload dX6_table_190 rfl ?_
                      exact j_iret dX6_table_192 rfl rfl ⟨_, _, rfl, hac, e1_109, e7_109, (MK.i (F := F109) (A := mj_u A109 5 e182 ((nI 1) + x5)) hM), fun i hi => by rw [mj_u_at, e5_109, he182, ← he61, Int32.add_comm], h6_109⟩
                    · exfalso; omega
                · exfalso; omega
              · have hac := hao.trans (tabO_s htd (by rw [← n01, ← he61]; exact c82))
                refine j_bipush (v := (-2)) dX6_table_85 (by decide +kernel) ?_
                exact j_iret dX6_table_87 rfl rfl ⟨_, _, rfl, hac, rfl, rfl, hM.k.i, rfl, rfl⟩
        · have hac := acTable_5 (row := A0 5) c2 hchj hchj2 (hr31.resolve_left (fun h => by omega)).2
          refine j_iconst (v := (-1)) dX6_table_37 (by decide +kernel) ?_
          exact j_iret dX6_table_38 rfl rfl ⟨_, _, rfl, hac, rfl, rfl, hM.k.i, rfl, rfl⟩

set_option maxHeartbeats 400000 in
set_option maxRecDepth 100000 in
theorem m_undo (z : mj_B) (d : Nat) (L : Lg) (n : Nat) (mm : Nat → Nat) (rn : Nat) (rm : Nat → Nat) (un kn : Nat) (F A0 : mj_S) (hM : MI L n mm rn rm un kn F A0) : J (gM z) mX6_undo d 0 [(0, .ref 0)] [] F A0 (fun v F' A' => ∃ x un', v = some (.int x) ∧ MI (L.1, A') n mm rn rm un' kn F' A' ∧ (A' 1 = A0 1 ∧ A' 6 = A0 6 ∧ A' 7 = A0 7) ∧ ((un = 0 ∧ x = (-2) ∧ un' = un ∧ A' 5 = A0 5) ∨ (0 < un ∧ x = nI (un - 1) ∧ un' = un - 1 ∧ ∀ j, j < 500 → A' 5 j = rwK (A0 6) (un - 1) j))) := by
  have hM0 := hM.1.2.1
  have hM1 := hM.2.1.2.1
  have hM2 := hM.2.2.1.2.1
  have hM3 := hM.2.2.2.1.2
  have hM4 := hM.2.2.2.2.1.2
  have L22 : ∀ (fuel : Nat) (k : Nat) (F A : mj_S), (MK L.1 n mm rn rm (un - 1) kn F A) → (k ≤ 500 ∧ 0 < un) → (A 1 = A0 1 ∧ A 6 = A0 6 ∧ A 7 = A0 7) → (∀ j, j < k → A 5 j = rwK (A0 6) (un - 1) j) → 500 - k < fuel → J (gM z) mX6_undo d 22 [(0, .ref 0), (1, .int (nI k))] [] F A (fun v F' A' => ∃ x un', v = some (.int x) ∧ MI (L.1, A') n mm rn rm un' kn F' A' ∧ (A' 1 = A0 1 ∧ A' 6 = A0 6 ∧ A' 7 = A0 7) ∧ ((un = 0 ∧ x = (-2) ∧ un' = un ∧ A' 5 = A0 5) ∨ (0 < un ∧ x = nI (un - 1) ∧ un' = un - 1 ∧ ∀ j, j < 500 → A' 5 j = rwK (A0 6) (un - 1) j))) := by
    intro fuel
    induction fuel with
    | zero => intro k F A hM h1 hfr h5 hf; exact absurd hf (by omega)
    | succ fuel ih22 =>
      intro k F A hM h1 hfr h5 hf
      refine j_iload_n dX6_undo_22 rfl ?_
      refine j_sipush (v := nI 500) dX6_undo_23 (by decide +kernel) ?_
      refine j_icmp_geN (tgt := 56) dX6_undo_26 (by decide) (by omega) (by omega) (fun c26 => ?_) (fun c26 => ?_)
      · refine j_aload_n dX6_undo_56 rfl ?_
        refine j_getI dX6_undo_57 flX6_135 (Nat.le_of_ble_eq_true rfl) rfl rfl ?_
        refine j_top (y0 := nI (un - 1)) hM.2.2.2.1.1 ?_
        exact j_iret dX6_undo_60 rfl rfl ⟨_, _, rfl, (MK.i (F := F) (A := A) hM), hfr, Or.inr ⟨by omega, rfl, rfl, fun j hj => h5 j (by omega)⟩⟩
      · refine j_aload_n dX6_undo_29 rfl ?_
        refine j_getR (r := 5) dX6_undo_30 flX6_22 (Nat.le_of_ble_eq_true rfl) rfl rfl ?_
        refine j_iload_n dX6_undo_33 rfl ?_
        refine j_aload_n dX6_undo_34 rfl ?_
        refine j_getR (r := 6) dX6_undo_35 flX6_25 (Nat.le_of_ble_eq_true rfl) rfl rfl ?_
        refine j_sipush (v := nI 500) dX6_undo_38 (by decide +kernel) ?_
        refine j_aload_n dX6_undo_41 rfl ?_
        refine j_getI dX6_undo_42 flX6_135 (Nat.le_of_ble_eq_true rfl) rfl rfl ?_
        refine j_top (y0 := nI (un - 1)) hM.2.2.2.1.1 ?_
        refine j_imulN dX6_undo_45 ?_
        refine j_iload_n dX6_undo_46 rfl ?_
        refine j_iaddN dX6_undo_47 ?_
        refine j_ialdN dX6_undo_48 (Nat.le_of_ble_eq_true rfl) rfl (by omega) (by decide) ?_
        refine j_iastN dX6_undo_49 (Nat.le_of_ble_eq_true rfl) rfl (by omega) (by decide) ?_
        refine j_iinc (v := nI (k + 1)) (lv' := [(0, .ref 0), (1, .int (nI (k + 1)))]) dX6_undo_50 rfl (nI_add _ 1) (Nat.le_of_ble_eq_true rfl) rfl rfl ?_
        refine j_goto (tgt := 22) dX6_undo_53 (by decide) ?_
        exact ih22 (k + 1) F (mj_u A 5 k (A 6 (500 * (un - 1) + k))) (by first | exact hM | omega) (by first | exact h1 | omega) (by first | exact hfr | omega) (fun j hj => mj_cp (A := A) (b := 5) (f := rwK (A0 6) (un - 1)) h5 (by rw [hfr.2.1]; rfl) hj) (by omega)
  refine j_aload_n dX6_undo_0 rfl ?_
  refine j_getI dX6_undo_1 flX6_135 (Nat.le_of_ble_eq_true rfl) rfl rfl ?_
  refine j_top (y0 := nI un) hM.2.2.2.1.1 ?_
  refine j_if_neN (tgt := 10) dX6_undo_4 (by decide) (by omega) (fun c4 => ?_) (fun c4 => ?_)
  · refine j_aload_n dX6_undo_10 rfl ?_
    refine j_dup dX6_undo_11 rfl ?_
    refine j_getI dX6_undo_12 flX6_135 (Nat.le_of_ble_eq_true rfl) rfl rfl ?_
    refine j_top (y0 := nI un) hM.2.2.2.1.1 ?_
    refine j_iconst (v := nI 1) dX6_undo_15 (by decide +kernel) ?_
    refine j_isubN dX6_undo_16 (by omega) ?_
    refine j_putI dX6_undo_17 fpX6_135 (Nat.le_of_ble_eq_true rfl) rfl rfl ?_
    have hM := hM.k.un' (u := un - 1) (by omega)
    refine j_iconst (v := nI 0) dX6_undo_20 (by decide +kernel) ?_
    refine j_istore_n (lv' := [(0, .ref 0), (1, .int (nI 0))]) dX6_undo_21 (Nat.le_of_ble_eq_true rfl) rfl rfl ?_
    exact L22 _ 0 (mj_u F 0 9 (nI (un - 1))) A0 (by first | exact hM | omega) ⟨by omega, by omega⟩ ⟨rfl, rfl, rfl⟩ (fun j hj => absurd hj (by omega)) (Nat.lt_succ_self _)
  · refine j_bipush (v := (-2)) dX6_undo_7 (by decide +kernel) ?_
    exact j_iret dX6_undo_9 rfl rfl ⟨_, _, rfl, hM.k.i, ⟨rfl, rfl, rfl⟩, Or.inl ⟨by omega, rfl, rfl, rfl⟩⟩

set_option maxHeartbeats 400000 in
set_option maxRecDepth 100000 in
theorem m_keep (z : mj_B) (d : Nat) (L : Lg) (n : Nat) (mm : Nat → Nat) (rn : Nat) (rm : Nat → Nat) (un kn : Nat) (F A0 : mj_S) (hM : MI L n mm rn rm un kn F A0) : J (gM z) mX6_keep d 0 [(0, .ref 0)] [] F A0 (fun v F' A' => ∃ x kn', v = some (.int x) ∧ MI (L.1, A') n mm rn rm un kn' F' A' ∧ (A' 1 = A0 1 ∧ A' 5 = A0 5 ∧ A' 6 = A0 6) ∧ ((kn = 2 ∧ x = (-3) ∧ kn' = kn ∧ A' 7 = A0 7) ∨ (kn < 2 ∧ x = nI (kn + 1) ∧ kn' = kn + 1 ∧ ∀ k j, k < kn + 1 → j < 500 → A' 7 (500 * k + j) = if k = kn then A0 5 j else rwK (A0 7) k j))) := by
  have hM0 := hM.1.2.1
  have hM1 := hM.2.1.2.1
  have hM2 := hM.2.2.1.2.1
  have hM3 := hM.2.2.2.1.2
  have hM4 := hM.2.2.2.2.1.2
  have L13 : ∀ (fuel : Nat) (k : Nat) (F A : mj_S), (MK L.1 n mm rn rm un kn F A) → (k ≤ 500 ∧ kn < 2) → (A 1 = A0 1 ∧ A 5 = A0 5 ∧ A 6 = A0 6) → (∀ j, j < k → A 7 (500 * kn + j) = A0 5 j) → (∀ a b, a < kn → b < 500 → A 7 (500 * a + b) = rwK (A0 7) a b) → 500 - k < fuel → J (gM z) mX6_keep d 13 [(0, .ref 0), (1, .int (nI k))] [] F A (fun v F' A' => ∃ x kn', v = some (.int x) ∧ MI (L.1, A') n mm rn rm un kn' F' A' ∧ (A' 1 = A0 1 ∧ A' 5 = A0 5 ∧ A' 6 = A0 6) ∧ ((kn = 2 ∧ x = (-3) ∧ kn' = kn ∧ A' 7 = A0 7) ∨ (kn < 2 ∧ x = nI (kn + 1) ∧ kn' = kn + 1 ∧ ∀ k j, k < kn + 1 → j < 500 → A' 7 (500 * k + j) = if k = kn then A0 5 j else rwK (A0 7) k j))) := by
    intro fuel
    induction fuel with
    | zero => intro k F A hM h1 hfr h7 h7b hf; exact absurd hf (by omega)
    | succ fuel ih13 =>
      intro k F A hM h1 hfr h7 h7b hf
      refine j_iload_n dX6_keep_13 rfl ?_
      refine j_sipush (v := nI 500) dX6_keep_14 (by decide +kernel) ?_
      refine j_icmp_geN (tgt := 47) dX6_keep_17 (by decide) (by omega) (by omega) (fun c17 => ?_) (fun c17 => ?_)
      · refine j_aload_n dX6_keep_47 rfl ?_
        refine j_dup dX6_keep_48 rfl ?_
        refine j_getI dX6_keep_49 flX6_138 (Nat.le_of_ble_eq_true rfl) rfl rfl ?_
        refine j_top (y0 := nI kn) hM.2.2.2.2.1.1 ?_
        refine j_iconst (v := nI 1) dX6_keep_52 (by decide +kernel) ?_
        refine j_iaddN dX6_keep_53 ?_
        refine j_putI dX6_keep_54 fpX6_138 (Nat.le_of_ble_eq_true rfl) rfl rfl ?_
        have hM := hM.kn' (u := kn + 1) (by omega)
        refine j_aload_n dX6_keep_57 rfl ?_
        refine j_getI dX6_keep_58 flX6_138 (Nat.le_of_ble_eq_true rfl) rfl rfl ?_
        refine j_top (y0 := nI (kn + 1)) rfl ?_
        exact j_iret dX6_keep_61 rfl rfl ⟨_, _, rfl, (MK.i (F := mj_u F 0 11 (nI (kn + 1))) (A := A) hM), hfr, Or.inr ⟨by omega, rfl, rfl, fun a b ha hb => by show A 7 _ = _; exact if e : a = kn then (by rw [if_pos e, e]; exact h7 b (by omega)) else (by rw [if_neg e]; exact h7b a b (by omega) hb)⟩⟩
      · refine j_aload_n dX6_keep_20 rfl ?_
        refine j_getR (r := 7) dX6_keep_21 flX6_28 (Nat.le_of_ble_eq_true rfl) rfl rfl ?_
        refine j_sipush (v := nI 500) dX6_keep_24 (by decide +kernel) ?_
        refine j_aload_n dX6_keep_27 rfl ?_
        refine j_getI dX6_keep_28 flX6_138 (Nat.le_of_ble_eq_true rfl) rfl rfl ?_
        refine j_top (y0 := nI kn) hM.2.2.2.2.1.1 ?_
        refine j_imulN dX6_keep_31 ?_
        refine j_iload_n dX6_keep_32 rfl ?_
        refine j_iaddN dX6_keep_33 ?_
        refine j_aload_n dX6_keep_34 rfl ?_
        refine j_getR (r := 5) dX6_keep_35 flX6_22 (Nat.le_of_ble_eq_true rfl) rfl rfl ?_
        refine j_iload_n dX6_keep_38 rfl ?_
        refine j_ialdN dX6_keep_39 (Nat.le_of_ble_eq_true rfl) rfl (by omega) (by decide) ?_
        refine j_iastN dX6_keep_40 (Nat.le_of_ble_eq_true rfl) rfl (by omega) (by decide) ?_
        refine j_iinc (v := nI (k + 1)) (lv' := [(0, .ref 0), (1, .int (nI (k + 1)))]) dX6_keep_41 rfl (nI_add _ 1) (Nat.le_of_ble_eq_true rfl) rfl rfl ?_
        refine j_goto (tgt := 13) dX6_keep_44 (by decide) ?_
        exact ih13 (k + 1) F (mj_u A 7 (500 * kn + k) (A 5 k)) (by first | exact hM | omega) (by first | exact h1 | omega) (by first | exact hfr | omega) (fun j hj => by rw [mj_u_at]; exact if e : j = k then (by rw [e, pk_us, hfr.2.1]) else (by rw [pk_un (by omega)]; exact h7 j (by omega))) (fun a b ha hb => by rw [mj_u_at, pk_un (by omega)]; exact h7b a b ha hb) (by omega)
  refine j_aload_n dX6_keep_0 rfl ?_
  refine j_getI dX6_keep_1 flX6_138 (Nat.le_of_ble_eq_true rfl) rfl rfl ?_
  refine j_top (y0 := nI kn) hM.2.2.2.2.1.1 ?_
  refine j_iconst (v := nI 2) dX6_keep_4 (by decide +kernel) ?_
  refine j_icmp_neN (tgt := 11) dX6_keep_5 (by decide) (by omega) (by omega) (fun c5 => ?_) (fun c5 => ?_)
  · refine j_iconst (v := nI 0) dX6_keep_11 (by decide +kernel) ?_
    have hM := hM.k
    refine j_istore_n (lv' := [(0, .ref 0), (1, .int (nI 0))]) dX6_keep_12 (Nat.le_of_ble_eq_true rfl) rfl rfl ?_
    exact L13 _ 0 F A0 (by first | exact hM | omega) ⟨by omega, by omega⟩ ⟨rfl, rfl, rfl⟩ (fun j hj => absurd hj (by omega)) (fun _ _ _ _ => rfl) (Nat.lt_succ_self _)
  · refine j_bipush (v := (-3)) dX6_keep_8 (by decide +kernel) ?_
    exact j_iret dX6_keep_10 rfl rfl ⟨_, _, rfl, hM.k.i, ⟨rfl, rfl, rfl⟩, Or.inl ⟨by omega, rfl, rfl, rfl⟩⟩

set_option maxHeartbeats 400000 in
set_option maxRecDepth 100000 in
theorem m_back (z : mj_B) (d : Nat) (L : Lg) (n : Nat) (mm : Nat → Nat) (rn : Nat) (rm : Nat → Nat) (un kn : Nat) (F A0 : mj_S) (hM : MI L n mm rn rm un kn F A0) : J (gM z) mX6_back d 0 [(0, .ref 0)] [] F A0 (fun v F' A' => ∃ x un' kn', v = some (.int x) ∧ MI (L.1, A') n mm rn rm un' kn' F' A' ∧ (A' 1 = A0 1 ∧ A' 6 = A0 6 ∧ A' 7 = A0 7) ∧ ((kn = 0 ∧ x = (-2) ∧ un' = un ∧ kn' = kn ∧ A' 5 = A0 5) ∨ (0 < kn ∧ x = nI (kn - 1) ∧ un' = 0 ∧ kn' = kn - 1 ∧ ∀ j, j < 500 → A' 5 j = rwK (A0 7) (kn - 1) j))) := by
  have hM0 := hM.1.2.1
  have hM1 := hM.2.1.2.1
  have hM2 := hM.2.2.1.2.1
  have hM3 := hM.2.2.2.1.2
  have hM4 := hM.2.2.2.2.1.2
  have L22 : ∀ (fuel : Nat) (k : Nat) (F A : mj_S), (MK L.1 n mm rn rm un (kn - 1) F A) → (k ≤ 500 ∧ 0 < kn) → (A 1 = A0 1 ∧ A 6 = A0 6 ∧ A 7 = A0 7) → (∀ j, j < k → A 5 j = rwK (A0 7) (kn - 1) j) → 500 - k < fuel → J (gM z) mX6_back d 22 [(0, .ref 0), (1, .int (nI k))] [] F A (fun v F' A' => ∃ x un' kn', v = some (.int x) ∧ MI (L.1, A') n mm rn rm un' kn' F' A' ∧ (A' 1 = A0 1 ∧ A' 6 = A0 6 ∧ A' 7 = A0 7) ∧ ((kn = 0 ∧ x = (-2) ∧ un' = un ∧ kn' = kn ∧ A' 5 = A0 5) ∨ (0 < kn ∧ x = nI (kn - 1) ∧ un' = 0 ∧ kn' = kn - 1 ∧ ∀ j, j < 500 → A' 5 j = rwK (A0 7) (kn - 1) j))) := by
    intro fuel
    induction fuel with
    | zero => intro k F A hM h1 hfr h5 hf; exact absurd hf (by omega)
    | succ fuel ih22 =>
      intro k F A hM h1 hfr h5 hf
      refine j_iload_n dX6_back_22 rfl ?_
      refine j_sipush (v := nI 500) dX6_back_23 (by decide +kernel) ?_
      refine j_icmp_geN (tgt := 56) dX6_back_26 (by decide) (by omega) (by omega) (fun c26 => ?_) (fun c26 => ?_)
      · refine j_aload_n dX6_back_56 rfl ?_
        refine j_iconst (v := nI 0) dX6_back_57 (by decide +kernel) ?_
        refine j_putI dX6_back_58 fpX6_135 (Nat.le_of_ble_eq_true rfl) rfl rfl ?_
        have hM := hM.un' (u := 0) (by omega)
        refine j_aload_n dX6_back_61 rfl ?_
        refine j_getI dX6_back_62 flX6_138 (Nat.le_of_ble_eq_true rfl) rfl rfl ?_
        refine j_top (y0 := nI (kn - 1)) hM.2.2.2.2.1.1 ?_
        exact j_iret dX6_back_65 rfl rfl ⟨_, _, _, rfl, (MK.i (F := mj_u F 0 9 (nI 0)) (A := A) hM), hfr, Or.inr ⟨by omega, rfl, rfl, rfl, fun j hj => h5 j (by omega)⟩⟩
      · refine j_aload_n dX6_back_29 rfl ?_
        refine j_getR (r := 5) dX6_back_30 flX6_22 (Nat.le_of_ble_eq_true rfl) rfl rfl ?_
        refine j_iload_n dX6_back_33 rfl ?_
        refine j_aload_n dX6_back_34 rfl ?_
        refine j_getR (r := 7) dX6_back_35 flX6_28 (Nat.le_of_ble_eq_true rfl) rfl rfl ?_
        refine j_sipush (v := nI 500) dX6_back_38 (by decide +kernel) ?_
        refine j_aload_n dX6_back_41 rfl ?_
        refine j_getI dX6_back_42 flX6_138 (Nat.le_of_ble_eq_true rfl) rfl rfl ?_
        refine j_top (y0 := nI (kn - 1)) hM.2.2.2.2.1.1 ?_
        refine j_imulN dX6_back_45 ?_
        refine j_iload_n dX6_back_46 rfl ?_
        refine j_iaddN dX6_back_47 ?_
        refine j_ialdN dX6_back_48 (Nat.le_of_ble_eq_true rfl) rfl (by omega) (by decide) ?_
        refine j_iastN dX6_back_49 (Nat.le_of_ble_eq_true rfl) rfl (by omega) (by decide) ?_
        refine j_iinc (v := nI (k + 1)) (lv' := [(0, .ref 0), (1, .int (nI (k + 1)))]) dX6_back_50 rfl (nI_add _ 1) (Nat.le_of_ble_eq_true rfl) rfl rfl ?_
        refine j_goto (tgt := 22) dX6_back_53 (by decide) ?_
        exact ih22 (k + 1) F (mj_u A 5 k (A 7 (500 * (kn - 1) + k))) (by first | exact hM | omega) (by first | exact h1 | omega) (by first | exact hfr | omega) (fun j hj => mj_cp (A := A) (b := 5) (f := rwK (A0 7) (kn - 1)) h5 (by rw [hfr.2.2]; rfl) hj) (by omega)
  refine j_aload_n dX6_back_0 rfl ?_
  refine j_getI dX6_back_1 flX6_138 (Nat.le_of_ble_eq_true rfl) rfl rfl ?_
  refine j_top (y0 := nI kn) hM.2.2.2.2.1.1 ?_
  refine j_if_neN (tgt := 10) dX6_back_4 (by decide) (by omega) (fun c4 => ?_) (fun c4 => ?_)
  · refine j_aload_n dX6_back_10 rfl ?_
    refine j_dup dX6_back_11 rfl ?_
    refine j_getI dX6_back_12 flX6_138 (Nat.le_of_ble_eq_true rfl) rfl rfl ?_
    refine j_top (y0 := nI kn) hM.2.2.2.2.1.1 ?_
    refine j_iconst (v := nI 1) dX6_back_15 (by decide +kernel) ?_
    refine j_isubN dX6_back_16 (by omega) ?_
    refine j_putI dX6_back_17 fpX6_138 (Nat.le_of_ble_eq_true rfl) rfl rfl ?_
    have hM := hM.k.kn' (u := kn - 1) (by omega)
    refine j_iconst (v := nI 0) dX6_back_20 (by decide +kernel) ?_
    refine j_istore_n (lv' := [(0, .ref 0), (1, .int (nI 0))]) dX6_back_21 (Nat.le_of_ble_eq_true rfl) rfl rfl ?_
    exact L22 _ 0 (mj_u F 0 11 (nI (kn - 1))) A0 (by first | exact hM | omega) ⟨by omega, by omega⟩ ⟨rfl, rfl, rfl⟩ (fun j hj => absurd hj (by omega)) (Nat.lt_succ_self _)
  · refine j_bipush (v := (-2)) dX6_back_7 (by decide +kernel) ?_
    exact j_iret dX6_back_9 rfl rfl ⟨_, _, _, rfl, hM.k.i, ⟨rfl, rfl, rfl⟩, Or.inl ⟨by omega, rfl, rfl, rfl, rfl⟩⟩
