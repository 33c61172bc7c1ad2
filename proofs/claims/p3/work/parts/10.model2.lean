/-! the reference: the reading of a text -/

theorem in_nat {k : Nat} (hk : k < 2147483648) {a b : Int64} (h : a ≤ (nI k).toInt64 ∧ (nI k).toInt64 ≤ b) (lo hi : Nat) (ha : a.toInt = lo) (hb : b.toInt = hi) : lo ≤ k ∧ k ≤ hi := by
  obtain ⟨h1, h2⟩ := h
  rw [Int64.le_iff_toInt_le, Int32.toInt_toInt64, ha, nI_toInt hk] at h1
  rw [Int64.le_iff_toInt_le, Int32.toInt_toInt64, hb, nI_toInt hk] at h2
  omega

set_option maxHeartbeats 400000 in
set_option maxRecDepth 100000 in
theorem m_isNumber (z : mj_B) (d : Nat) (L n : Nat) (mm : Nat → Nat) (rn : Nat) (rm : Nat → Nat) (un kn : Nat) (sp0 : Nat) (hs0 : sp0 ≤ 300) (F A : mj_S) (hM : MI L n mm rn rm un kn F A) (hsp : F 0 12 = nI sp0) : J (gM z) mX6_isNumber (d + 1) 0 [(0, .ref 0)] [] F A (fun v F' A' => A = A' ∧ ∃ r sp' w, v = some (.int (nI r)) ∧ MI L n mm rn rm un kn F' A ∧ F' 0 12 = nI sp' ∧ F' 0 13 = nI w ∧ r ≤ 1 ∧ w ≤ 999 ∧ sp0 ≤ sp' ∧ (sp' ≤ sp0 ∨ sp' ≤ L) ∧ (r = 1 → sp0 < sp' ∧ w ≤ 99)) := by
  have hM0 := hM.1.2
  have hM1 := hM.2.1.2.1
  have hM2 := hM.2.2.1.2.1
  have hM3 := hM.2.2.2.1.2
  have hM4 := hM.2.2.2.2.1.2
  have L4 : ∀ (fuel : Nat) (f : Nat) (v : Nat) (sp : Nat) (F : mj_S), (MI L n mm rn rm un kn F A) → (F 0 12 = nI sp) → (f ≤ 3 ∧ v ≤ 999 ∧ (f ≤ 2 → v ≤ 99) ∧ (f ≤ 1 → v ≤ 9) ∧ (f = 0 → v = 0)) → (sp0 + f = sp ∧ (f = 0 ∨ sp ≤ L) ∧ sp0 ≤ 300) → 3 - f < fuel → J (gM z) mX6_isNumber (d + 1) 4 [(0, .ref 0), (1, .int (nI f)), (2, .int (nI v))] [] F A (fun v F' A' => A = A' ∧ ∃ r sp' w, v = some (.int (nI r)) ∧ MI L n mm rn rm un kn F' A ∧ F' 0 12 = nI sp' ∧ F' 0 13 = nI w ∧ r ≤ 1 ∧ w ≤ 999 ∧ sp0 ≤ sp' ∧ (sp' ≤ sp0 ∨ sp' ≤ L) ∧ (r = 1 → sp0 < sp' ∧ w ≤ 99)) := by
    intro fuel
    induction fuel with
    | zero => intro f v sp F hM hsp h1 h2 hf; exact absurd hf (by omega)
    | succ fuel ih =>
      intro f v sp F hM hsp h1 h2 hf
      refine j_aload_n dX6_isNumber_4 rfl ?_
      refine j_aload_n dX6_isNumber_5 rfl ?_
      refine j_getI dX6_isNumber_6 flX6_96 (Nat.le_of_ble_eq_true rfl) rfl rfl ?_
      refine j_top (y0 := nI sp) hsp ?_
      refine j_callV (y' := mX6_letterAt) (As := [.int (nI sp)]) (st := []) dX6_isNumber_9 lkX6_99 okX6_letterAt imX6_letterAt seX6_letterAt (Nat.le_of_ble_eq_true rfl) rfl rfl rfl rfl (Nat.le_of_ble_eq_true rfl) (Nat.le_of_ble_eq_true rfl) (m_letterAt z _ L n mm rn rm un kn sp (by omega) F A hM) (fun v9 F9 A9 hq9 => ?_)
      obtain ⟨rfl, rfl, r9, rfl, hr9⟩ := hq9
      refine j_i2l dX6_isNumber_12 rfl ?_
      refine j_ldc2 dX6_isNumber_13 klX6_103 ?_
      refine j_ldc2 dX6_isNumber_16 klX6_105 ?_
      refine j_callS (y' := mX6_in) (As := [.long (r9.toInt64), .long ((48)), .long ((57))]) (st := []) dX6_isNumber_19 lkX6_89 okX6_in stX6_in rfl (Nat.le_of_ble_eq_true rfl) (Nat.le_of_ble_eq_true rfl) (m_in z _ r9.toInt64 (48) (57) F A) (fun v19 F19 A19 hq19 => ?_)
      obtain ⟨rfl, rfl, r19, rfl, hr19⟩ := hq19
      have hb19 : r19 ≤ 1 := by omega
      refine j_if_eqN (tgt := 63) dX6_isNumber_22 (by decide) (by omega) (fun c22 => ?_) (fun c22 => ?_)
      · refine j_aload_n dX6_isNumber_63 rfl ?_
        refine j_iload_n dX6_isNumber_64 rfl ?_
        refine j_putI dX6_isNumber_65 fpX6_107 (Nat.le_of_ble_eq_true rfl) rfl rfl ?_
        refine j_iload_n dX6_isNumber_68 rfl ?_
        refine j_i2l dX6_isNumber_69 rfl ?_
        refine j_lconst (v := 1) dX6_isNumber_70 rfl ?_
        refine j_ldc2 dX6_isNumber_71 klX6_110 ?_
        refine j_callS (y' := mX6_in) (As := [.long ((nI f).toInt64), .long (1), .long ((2))]) (st := []) dX6_isNumber_74 lkX6_89 okX6_in stX6_in rfl (Nat.le_of_ble_eq_true rfl) (Nat.le_of_ble_eq_true rfl) (m_in z _ ((nI f).toInt64) 1 (2) (mj_u F 0 13 (nI v)) A) (fun v74 F74 A74 hq74 => ?_)
        obtain ⟨rfl, rfl, r74, rfl, hr74⟩ := hq74
        have hb74 : r74 ≤ 1 := by omega
        have hf1 : r74 = 1 → 1 ≤ f ∧ f ≤ 2 := fun h => in_nat (by omega) (hr74.resolve_right (fun h => by omega)).2 1 2 rfl rfl
        exact j_iret dX6_isNumber_77 rfl (mj_nz (by omega)) ⟨rfl, _, sp, v, rfl, hM, hsp, rfl, by omega, by omega, by omega, by omega, fun h => by omega⟩
      · obtain ⟨w9, ew, hw1, hw2⟩ := in_of (hr19.resolve_right (fun h => by omega)).2 48 57 rfl rfl
        have hl9 := lt_let hr9 ew (by omega) (by omega)
        refine j_iload_n dX6_isNumber_25 rfl ?_
        refine j_iconst (v := nI 3) dX6_isNumber_26 (by decide +kernel) ?_
        refine j_icmp_geN (tgt := 63) dX6_isNumber_27 (by decide) (by omega) (by omega) (fun c27 => ?_) (fun c27 => ?_)
        · refine j_aload_n dX6_isNumber_63 rfl ?_
          refine j_iload_n dX6_isNumber_64 rfl ?_
          refine j_putI dX6_isNumber_65 fpX6_107 (Nat.le_of_ble_eq_true rfl) rfl rfl ?_
          refine j_iload_n dX6_isNumber_68 rfl ?_
          refine j_i2l dX6_isNumber_69 rfl ?_
          refine j_lconst (v := 1) dX6_isNumber_70 rfl ?_
          refine j_ldc2 dX6_isNumber_71 klX6_110 ?_
          refine j_callS (y' := mX6_in) (As := [.long ((nI f).toInt64), .long (1), .long ((2))]) (st := []) dX6_isNumber_74 lkX6_89 okX6_in stX6_in rfl (Nat.le_of_ble_eq_true rfl) (Nat.le_of_ble_eq_true rfl) (m_in z _ ((nI f).toInt64) 1 (2) (mj_u F 0 13 (nI v)) A) (fun v74 F74 A74 hq74 => ?_)
          obtain ⟨rfl, rfl, r74, rfl, hr74⟩ := hq74
          have hb74 : r74 ≤ 1 := by omega
          have hf1 : r74 = 1 → 1 ≤ f ∧ f ≤ 2 := fun h => in_nat (by omega) (hr74.resolve_right (fun h => by omega)).2 1 2 rfl rfl
          exact j_iret dX6_isNumber_77 rfl (mj_nz (by omega)) ⟨rfl, _, sp, v, rfl, hM, hsp, rfl, by omega, by omega, by omega, by omega, fun h => by omega⟩
        · refine j_bipush (v := nI 10) dX6_isNumber_30 (by decide +kernel) ?_
          refine j_iload_n dX6_isNumber_32 rfl ?_
          refine j_imulN dX6_isNumber_33 ?_
          refine j_aload_n dX6_isNumber_34 rfl ?_
          refine j_aload_n dX6_isNumber_35 rfl ?_
          refine j_getI dX6_isNumber_36 flX6_96 (Nat.le_of_ble_eq_true rfl) rfl rfl ?_
          refine j_top (y0 := nI sp) hsp ?_
          refine j_callV (y' := mX6_letterAt) (As := [.int (nI sp)]) (st := [.int (nI (10 * v))]) dX6_isNumber_39 lkX6_99 okX6_letterAt imX6_letterAt seX6_letterAt (Nat.le_of_ble_eq_true rfl) rfl rfl rfl rfl (Nat.le_of_ble_eq_true rfl) (Nat.le_of_ble_eq_true rfl) (m_letterAt z _ L n mm rn rm un kn sp (by omega) F A hM) (fun v39 F39 A39 hq39 => ?_)
          obtain ⟨rfl, rfl, r39, rfl, hr39⟩ := hq39
          refine j_top (y0 := nI w9) (by rw [hr39, ← hr9]; exact ew) ?_
          refine j_iaddN dX6_isNumber_42 ?_
          refine j_bipush (v := nI 48) dX6_isNumber_43 (by decide +kernel) ?_
          refine j_isubN dX6_isNumber_45 (by omega) ?_
          refine j_istore_n (lv' := [(0, .ref 0), (1, .int (nI f)), (2, .int (nI ((10 * v + w9) - 48)))]) dX6_isNumber_46 (Nat.le_of_ble_eq_true rfl) rfl rfl ?_
          refine j_iinc (v := nI (f + 1)) (lv' := [(0, .ref 0), (1, .int (nI (f + 1))), (2, .int (nI ((10 * v + w9) - 48)))]) dX6_isNumber_47 rfl (nI_add _ 1) (Nat.le_of_ble_eq_true rfl) rfl rfl ?_
          refine j_aload_n dX6_isNumber_50 rfl ?_
          refine j_dup dX6_isNumber_51 rfl ?_
          refine j_getI dX6_isNumber_52 flX6_96 (Nat.le_of_ble_eq_true rfl) rfl rfl ?_
          refine j_top (y0 := nI sp) hsp ?_
          refine j_iconst (v := nI 1) dX6_isNumber_55 (by decide +kernel) ?_
          refine j_iaddN dX6_isNumber_56 ?_
          refine j_putI dX6_isNumber_57 fpX6_96 (Nat.le_of_ble_eq_true rfl) rfl rfl ?_
          refine j_goto (tgt := 4) dX6_isNumber_60 (by decide) ?_
          exact ih (f + 1) ((10 * v + w9) - 48) (sp + 1) (mj_u F 0 12 (nI (sp + 1))) (by first | exact hM | omega) rfl (by first | exact h1 | omega) (by first | exact h2 | omega) (by omega)
  refine j_iconst (v := nI 0) dX6_isNumber_0 (by decide +kernel) ?_
  refine j_istore_n (lv' := [(0, .ref 0), (1, .int (nI 0))]) dX6_isNumber_1 (Nat.le_of_ble_eq_true rfl) rfl rfl ?_
  refine j_iconst (v := nI 0) dX6_isNumber_2 (by decide +kernel) ?_
  refine j_istore_n (lv' := [(0, .ref 0), (1, .int (nI 0)), (2, .int (nI 0))]) dX6_isNumber_3 (Nat.le_of_ble_eq_true rfl) rfl rfl ?_
  exact L4 _ 0 0 sp0 F (by first | exact hM | omega) (by first | exact hsp | omega) (by first | exact h1 | omega) (by first | exact h2 | omega) (Nat.lt_succ_self _)
