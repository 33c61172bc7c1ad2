/-! the reference: the reading of a text -/

set_option maxHeartbeats 400000 in
set_option maxRecDepth 100000 in
theorem m_isNumber (z : mj_B) (d : Nat) (L : Lg) (n : Nat) (mm : Nat → Nat) (rn : Nat) (rm : Nat → Nat) (un kn : Nat) (sp0 : Nat) (hs0 : sp0 ≤ 300) (F A : mj_S) (hM : MI L n mm rn rm un kn F A) (hsp : F 0 12 = nI sp0) : J (gM z) mX6_isNumber (d + 1) 0 [(0, .ref 0)] [] F A (fun v F' A' => A = A' ∧ ∃ r sp' w, v = some (.int (nI r)) ∧ MI L n mm rn rm un kn F' A ∧ F' 0 12 = nI sp' ∧ F' 0 13 = nI w ∧ (r ≤ 1 ∧ w ≤ 999 ∧ sp0 ≤ sp' ∧ (sp' ≤ sp0 ∨ sp' ≤ L.1) ∧ (r = 1 → sp0 < sp' ∧ w ≤ 99)) ∧ ((r = 1 ∧ rd_n (cL L) sp0 = some (w, sp') ∧ rd_d (cL L) sp' = none) ∨ (r = 0 ∧ nmF (cL L) sp0))) := by
  have hM0 := hM.1.2.1
  have hM1 := hM.2.1.2.1
  have hM2 := hM.2.2.1.2.1
  have hM3 := hM.2.2.2.1.2
  have hM4 := hM.2.2.2.2.1.2
  have L4 : ∀ (fuel : Nat) (f : Nat) (v : Nat) (sp : Nat) (F : mj_S), (MI L n mm rn rm un kn F A) → (F 0 12 = nI sp) → (f ≤ 3 ∧ v ≤ 999 ∧ (f ≤ 2 → v ≤ 99) ∧ (f ≤ 1 → v ≤ 9) ∧ (f = 0 → v = 0)) → (sp0 + f = sp ∧ (f = 0 ∨ sp ≤ L.1) ∧ sp0 ≤ 300) → (nmI (cL L) sp0 f v) → 3 - f < fuel → J (gM z) mX6_isNumber (d + 1) 4 [(0, .ref 0), (1, .int (nI f)), (2, .int (nI v))] [] F A (fun v F' A' => A = A' ∧ ∃ r sp' w, v = some (.int (nI r)) ∧ MI L n mm rn rm un kn F' A ∧ F' 0 12 = nI sp' ∧ F' 0 13 = nI w ∧ (r ≤ 1 ∧ w ≤ 999 ∧ sp0 ≤ sp' ∧ (sp' ≤ sp0 ∨ sp' ≤ L.1) ∧ (r = 1 → sp0 < sp' ∧ w ≤ 99)) ∧ ((r = 1 ∧ rd_n (cL L) sp0 = some (w, sp') ∧ rd_d (cL L) sp' = none) ∨ (r = 0 ∧ nmF (cL L) sp0))) := by
    intro fuel
    induction fuel with
    | zero => intro f v sp F hM hsp h1 h2 hI hf; exact absurd hf (by omega)
    | succ fuel ih4 =>
      intro f v sp F hM hsp h1 h2 hI hf
      refine j_aload_n dX6_isNumber_4 rfl ?_
      refine j_aload_n dX6_isNumber_5 rfl ?_
      refine j_getI dX6_isNumber_6 flX6_96 (Nat.le_of_ble_eq_true rfl) rfl rfl ?_
      refine j_top (y0 := nI sp) hsp ?_
      refine j_callV (y' := mX6_letterAt) (As := [.int (nI sp)]) (st := []) dX6_isNumber_9 lkX6_99 okX6_letterAt imX6_letterAt seX6_letterAt (Nat.le_of_ble_eq_true rfl) rfl rfl rfl rfl (Nat.le_of_ble_eq_true rfl) (Nat.le_of_ble_eq_true rfl) (m_letterAt z _ _ _ _ _ _ _ _ sp (by omega) F A hM) (fun v9 F9 A9 hq9 => ?_)
      obtain ⟨rfl, rfl, r9, rfl, hr9⟩ := hq9
      refine j_i2l dX6_isNumber_12 rfl ?_
      refine j_ldc2 dX6_isNumber_13 klX6_103 ?_
      refine j_ldc2 dX6_isNumber_16 klX6_105 ?_
      refine j_callS (y' := mX6_in) (As := [.long (r9.toInt64), .long ((48)), .long ((57))]) (st := []) dX6_isNumber_19 lkX6_89 okX6_in stX6_in rfl (Nat.le_of_ble_eq_true rfl) (Nat.le_of_ble_eq_true rfl) (m_in z _ r9.toInt64 (48) (57) F A) (fun v19 F19 A19 hq19 => ?_)
      obtain ⟨rfl, rfl, r19, rfl, hr19⟩ := hq19
      have hb19 : r19 ≤ 1 := by omega
      refine j_if_eqN (tgt := 63) dX6_isNumber_22 (by decide) (by omega) (fun c22 => ?_) (fun c22 => ?_)
      · have hx : rd_d (cL L) (sp0 + f) = none ∨ f = 3 := Or.inl (by rw [h2.1]; exact rd_d_none (fun h => (hr19.resolve_left (fun h => by omega)).2 (by rw [hr9]; exact in_dg.mpr h)))
        refine j_aload_n dX6_isNumber_63 rfl ?_
        refine j_iload_n dX6_isNumber_64 rfl ?_
        refine j_putI dX6_isNumber_65 fpX6_107 (Nat.le_of_ble_eq_true rfl) rfl rfl ?_
        refine j_iload_n dX6_isNumber_68 rfl ?_
        refine j_i2l dX6_isNumber_69 rfl ?_
        refine j_lconst (v := 1) dX6_isNumber_70 rfl ?_
        refine j_ldc2 dX6_isNumber_71 klX6_110 ?_
        refine j_callS (y' := mX6_in) (As := [.long ((nI f).toInt64), .long (1), .long ((2))]) (st := []) dX6_isNumber_74 lkX6_89 okX6_in stX6_in rfl (Nat.le_of_ble_eq_true rfl) (Nat.le_of_ble_eq_true rfl) (m_in z _ ((nI f).toInt64) 1 (2) (mj_u F 0 13 (nI v)) A) (fun v74 F74 A74 hq74 => ?_)
        obtain ⟨rfl, rfl, r74, rfl, hr74⟩ := hq74
        have hb74 : r74 ≤ 1 := by omega
        have hf2 : r74 = 1 ↔ 1 ≤ f ∧ f ≤ 2 := by
          have := in_natI (k := f) (by omega) (a := 1) (b := 2) 1 2 rfl rfl
          rcases hr74 with ⟨e, h⟩ | ⟨e, h⟩
          · exact ⟨fun _ => this.mp h, fun _ => e⟩
          · exact ⟨fun e2 => absurd e2 (by omega), fun h3 => absurd (this.mpr h3) h⟩
        have hf1 := hf2.mp
        have hE : (r74 = 1 ∧ rd_n (cL L) sp0 = some (v, sp) ∧ rd_d (cL L) sp = none) ∨ (r74 = 0 ∧ nmF (cL L) sp0) := by
          have := hI.e hx
          rw [h2.1] at this
          rcases this with ⟨h3, h4, h5⟩ | ⟨h3, h4⟩
          · exact Or.inl ⟨hf2.mpr h3, h4, h5⟩
          · exact Or.inr ⟨by have : r74 ≠ 1 := fun h => h3 (hf2.mp h); omega, h4⟩
        exact j_iret dX6_isNumber_77 rfl (mj_nz (by omega)) ⟨rfl, _, sp, v, rfl, hM, hsp, rfl, ⟨by omega, by omega, by omega, by omega, fun h => by omega⟩, hE⟩
      · obtain ⟨w9, ew, hw1, hw2⟩ := in_of (hr19.resolve_right (fun h => by omega)).2 48 57 rfl rfl
        have hl9 := lt_let hr9 ew (by omega) (by omega)
        refine j_iload_n dX6_isNumber_25 rfl ?_
        refine j_iconst (v := nI 3) dX6_isNumber_26 (by decide +kernel) ?_
        refine j_icmp_geN (tgt := 63) dX6_isNumber_27 (by decide) (by omega) (by omega) (fun c27 => ?_) (fun c27 => ?_)
        · have hx : rd_d (cL L) (sp0 + f) = none ∨ f = 3 := Or.inr (by omega)
          refine j_aload_n dX6_isNumber_63 rfl ?_
          refine j_iload_n dX6_isNumber_64 rfl ?_
          refine j_putI dX6_isNumber_65 fpX6_107 (Nat.le_of_ble_eq_true rfl) rfl rfl ?_
          refine j_iload_n dX6_isNumber_68 rfl ?_
          refine j_i2l dX6_isNumber_69 rfl ?_
          refine j_lconst (v := 1) dX6_isNumber_70 rfl ?_
          refine j_ldc2 dX6_isNumber_71 klX6_110 ?_
          refine j_callS (y' := mX6_in) (As := [.long ((nI f).toInt64), .long (1), .long ((2))]) (st := []) dX6_isNumber_74 lkX6_89 okX6_in stX6_in rfl (Nat.le_of_ble_eq_true rfl) (Nat.le_of_ble_eq_true rfl) (m_in z _ ((nI f).toInt64) 1 (2) (mj_u F 0 13 (nI v)) A) (fun v74 F74 A74 hq74 => ?_)
          obtain ⟨rfl, rfl, r74, rfl, hr74⟩ := hq74
          have hb74 : r74 ≤ 1 := by omega
          have hf2 : r74 = 1 ↔ 1 ≤ f ∧ f ≤ 2 := by
            have := in_natI (k := f) (by omega) (a := 1) (b := 2) 1 2 rfl rfl
            rcases hr74 with ⟨e, h⟩ | ⟨e, h⟩
            · exact ⟨fun _ => this.mp h, fun _ => e⟩
            · exact ⟨fun e2 => absurd e2 (by omega), fun h3 => absurd (this.mpr h3) h⟩
          have hf1 := hf2.mp
          have hE : (r74 = 1 ∧ rd_n (cL L) sp0 = some (v, sp) ∧ rd_d (cL L) sp = none) ∨ (r74 = 0 ∧ nmF (cL L) sp0) := by
            have := hI.e hx
            rw [h2.1] at this
            rcases this with ⟨h3, h4, h5⟩ | ⟨h3, h4⟩
            · exact Or.inl ⟨hf2.mpr h3, h4, h5⟩
            · exact Or.inr ⟨by have : r74 ≠ 1 := fun h => h3 (hf2.mp h); omega, h4⟩
          exact j_iret dX6_isNumber_77 rfl (mj_nz (by omega)) ⟨rfl, _, sp, v, rfl, hM, hsp, rfl, ⟨by omega, by omega, by omega, by omega, fun h => by omega⟩, hE⟩
        · refine j_bipush (v := nI 10) dX6_isNumber_30 (by decide +kernel) ?_
          refine j_iload_n dX6_isNumber_32 rfl ?_
          refine j_imulN dX6_isNumber_33 ?_
          refine j_aload_n dX6_isNumber_34 rfl ?_
          refine j_aload_n dX6_isNumber_35 rfl ?_
          refine j_getI dX6_isNumber_36 flX6_96 (Nat.le_of_ble_eq_true rfl) rfl rfl ?_
          refine j_top (y0 := nI sp) hsp ?_
          refine j_callV (y' := mX6_letterAt) (As := [.int (nI sp)]) (st := [.int (nI (10 * v))]) dX6_isNumber_39 lkX6_99 okX6_letterAt imX6_letterAt seX6_letterAt (Nat.le_of_ble_eq_true rfl) rfl rfl rfl rfl (Nat.le_of_ble_eq_true rfl) (Nat.le_of_ble_eq_true rfl) (m_letterAt z _ _ _ _ _ _ _ _ sp (by omega) F A hM) (fun v39 F39 A39 hq39 => ?_)
          obtain ⟨rfl, rfl, r39, rfl, hr39⟩ := hq39
          refine j_top (y0 := nI w9) (by rw [hr39, ← hr9]; exact ew) ?_
          refine j_iaddN dX6_isNumber_42 ?_
          refine j_bipush (v := nI 48) dX6_isNumber_43 (by decide +kernel) ?_
          refine j_isubN dX6_isNumber_45 (by omega) ?_
          refine j_istore_n (lv' := [(0, .ref 0), (1, .int (nI f)), (2, .int (nI ((10 * v + w9) - 48)))]) dX6_isNumber_46 (Nat.le_of_ble_eq_true rfl) rfl rfl ?_
          refine j_iinc (v := nI (f + 1)) (lv' := [(0, .ref 0), (1, .int (nI (f + 1))), (2, .int (nI ((10 * v + w9) - 48)))]) dX6_isNumber_47 rfl (nI_add _ 1) (Nat.le_of_ble_eq_true rfl) rfl rfl ?_
          refine j_aload_n dX6_isNumber_50 rfl ?_
          refine j_dup dX6_isNumber_51 rfl ?_
          refine j_getI dX6_isNumber_52 flX6_96 (Nat.le_of_ble_eq_true rfl) rfl rfl ?_
          refine j_top (y0 := nI sp) hsp ?_
          refine j_iconst (v := nI 1) dX6_isNumber_55 (by decide +kernel) ?_
          refine j_iaddN dX6_isNumber_56 ?_
          refine j_putI dX6_isNumber_57 fpX6_96 (Nat.le_of_ble_eq_true rfl) rfl rfl ?_
          refine j_goto (tgt := 4) dX6_isNumber_60 (by decide) ?_
          exact ih4 (f + 1) ((10 * v + w9) - 48) (sp + 1) (mj_u F 0 12 (nI (sp + 1))) (by first | exact hM | omega) rfl (by first | exact h1 | omega) (by first | exact h2 | omega) (hI.s (by omega) (by rw [h2.1, ← hr9]; exact ew) hw1 hw2) (by omega)
  refine j_iconst (v := nI 0) dX6_isNumber_0 (by decide +kernel) ?_
  refine j_istore_n (lv' := [(0, .ref 0), (1, .int (nI 0))]) dX6_isNumber_1 (Nat.le_of_ble_eq_true rfl) rfl rfl ?_
  refine j_iconst (v := nI 0) dX6_isNumber_2 (by decide +kernel) ?_
  refine j_istore_n (lv' := [(0, .ref 0), (1, .int (nI 0)), (2, .int (nI 0))]) dX6_isNumber_3 (Nat.le_of_ble_eq_true rfl) rfl rfl ?_
  exact L4 _ 0 0 sp0 F (by first | exact hM | omega) (by first | exact hsp | omega) (by first | exact h1 | omega) (by first | exact h2 | omega) (Or.inl ⟨rfl, rfl⟩) (Nat.lt_succ_self _)

theorem neg48 {w : Nat} (h : w < 2147483648) : ¬ (0 : Int32) - nI 48 = nI w := by
  intro e
  have := congrArg Int32.toInt e
  rw [nI_toInt h, show ((0 : Int32) - nI 48).toInt = -48 from by decide +kernel] at this
  omega

set_option maxHeartbeats 400000 in
set_option maxRecDepth 100000 in
theorem m_nodeItem (z : mj_B) (d : Nat) (L : Lg) (n : Nat) (mm : Nat → Nat) (rn : Nat) (rm : Nat → Nat) (un kn : Nat) (sp : Nat) (hs0 : sp ≤ 201) (mmr : Nat → Nat) (row : Nat → Int32) (F A : mj_S) (hM : MI L n mm rn rm un kn F A) (hsp : F 0 12 = nI sp) (hrow : ∀ j, j < 500 → A 4 j = row j) (hrm : ∀ j, j < rn → rm j = mmr j) : J (gM z) mX6_nodeItem (d + 2) 0 [(0, .ref 0)] [] F A (fun v F' A' => ∃ r sp' rn' rm', v = some (.int (nI r)) ∧ MI L n mm rn' rm' un kn F' A' ∧ F' 0 12 = nI sp' ∧ (r ≤ 1 ∧ sp' ≤ 300 ∧ (r = 1 → sp < sp' ∧ sp' ≤ L.1)) ∧ ((r = 1 ∧ ∃ mmr' row', rd_node (cL L) sp rn mmr row = some (sp', rn', mmr', row') ∧ (∀ j, j < 500 → A' 4 j = row' j) ∧ ∀ j, j < rn' → rm' j = mmr' j) ∨ (r = 0 ∧ rd_node (cL L) sp rn mmr row = none))) := by
  have hM0 := hM.1.2.1
  have hM1 := hM.2.1.2.1
  have hM2 := hM.2.2.1.2.1
  have hM3 := hM.2.2.2.1.2
  have hM4 := hM.2.2.2.2.1.2
  have L57 : ∀ (fuel : Nat) (k : Nat) (sp1 : Nat) (f : Nat) (row1 : Nat → Int32) (res : Option (Nat × Nat × (Nat → Int32))) (F A : mj_S), (MI L n mm rn rm un kn F A) → (F 0 12 = nI sp1) → (k ≤ 4 ∧ sp ≤ sp1 ∧ sp1 ≤ 250 ∧ rn < 8 ∧ f + k = 6) → (0 < k ∨ cL L sp1 = nI 44) → (∀ j, j < 500 → A 4 j = row1 j) → (rd_o (cL L) rn f sp1 k row1 = res) → (rd_node (cL L) sp rn mmr row = rd_nM rn mmr res) → 5 - k < fuel → J (gM z) mX6_nodeItem (d + 2) 57 [(0, .ref 0), (1, .int (nI k))] [] F A (fun v F' A' => ∃ r sp' rn' rm', v = some (.int (nI r)) ∧ MI L n mm rn' rm' un kn F' A' ∧ F' 0 12 = nI sp' ∧ (r ≤ 1 ∧ sp' ≤ 300 ∧ (r = 1 → sp < sp' ∧ sp' ≤ L.1)) ∧ ((r = 1 ∧ ∃ mmr' row', rd_node (cL L) sp rn mmr row = some (sp', rn', mmr', row') ∧ (∀ j, j < 500 → A' 4 j = row' j) ∧ ∀ j, j < rn' → rm' j = mmr' j) ∨ (r = 0 ∧ rd_node (cL L) sp rn mmr row = none))) := by
    intro fuel
    induction fuel with
    | zero => intro k sp1 f row1 res F A hM hsp h1 hz hrow hspec hres hf; exact absurd hf (by omega)
    | succ fuel ih57 =>
      intro k sp1 f row1 res F A hM hsp h1 hz hrow hspec hres hf
      refine j_aload_n dX6_nodeItem_57 rfl ?_
      refine j_aload_n dX6_nodeItem_58 rfl ?_
      refine j_getI dX6_nodeItem_59 flX6_96 (Nat.le_of_ble_eq_true rfl) rfl rfl ?_
      refine j_top (y0 := nI sp1) hsp ?_
      refine j_callV (y' := mX6_letterAt) (As := [.int (nI sp1)]) (st := []) dX6_nodeItem_62 lkX6_99 okX6_letterAt imX6_letterAt seX6_letterAt (Nat.le_of_ble_eq_true rfl) rfl rfl rfl rfl (Nat.le_of_ble_eq_true rfl) (Nat.le_of_ble_eq_true rfl) (m_letterAt z _ _ _ _ _ _ _ _ sp1 (by omega) F A hM) (fun v62 F62 A62 hq62 => ?_)
      obtain ⟨rfl, rfl, r62, rfl, hr62⟩ := hq62
      refine j_bipush (v := nI 44) dX6_nodeItem_65 (by decide +kernel) ?_
      refine j_icmp_ne (tgt := 117) dX6_nodeItem_67 (by decide) (fun c67 => ?_) (fun c67 => ?_)
      · have hc44 : cL L sp1 ≠ nI 44 := by rw [← hr62]; exact c67
        have hk0 : 0 < k := by
          rcases hz with h | h
          · exact h
          · exact absurd h hc44
        refine j_aload_n dX6_nodeItem_117 rfl ?_
        refine j_getR (r := 3) dX6_nodeItem_118 flX6_16 (Nat.le_of_ble_eq_true rfl) rfl rfl ?_
        refine j_aload_n dX6_nodeItem_121 rfl ?_
        refine j_getI dX6_nodeItem_122 flX6_77 (Nat.le_of_ble_eq_true rfl) rfl rfl ?_
        refine j_top (y0 := nI rn) hM.2.2.1.1 ?_
        refine j_iload_n dX6_nodeItem_125 rfl ?_
        refine j_iastN dX6_nodeItem_126 (Nat.le_of_ble_eq_true rfl) rfl (by omega) (by decide) ?_
        refine j_aload_n dX6_nodeItem_127 rfl ?_
        refine j_dup dX6_nodeItem_128 rfl ?_
        refine j_getI dX6_nodeItem_129 flX6_77 (Nat.le_of_ble_eq_true rfl) rfl rfl ?_
        refine j_top (y0 := nI rn) hM.2.2.1.1 ?_
        refine j_iconst (v := nI 1) dX6_nodeItem_132 (by decide +kernel) ?_
        refine j_iaddN dX6_nodeItem_133 ?_
        refine j_putI dX6_nodeItem_134 fpX6_77 (Nat.le_of_ble_eq_true rfl) rfl rfl ?_
        have hM := hM.node (c := k) (by omega) (by omega) (by omega)
        refine j_aload_n dX6_nodeItem_137 rfl ?_
        refine j_dup dX6_nodeItem_138 rfl ?_
        refine j_getI dX6_nodeItem_139 flX6_96 (Nat.le_of_ble_eq_true rfl) rfl rfl ?_
        refine j_top (y0 := nI sp1) hsp ?_
        refine j_iconst (v := nI 1) dX6_nodeItem_142 (by decide +kernel) ?_
        refine j_iaddN dX6_nodeItem_143 ?_
        refine j_putI dX6_nodeItem_144 fpX6_96 (Nat.le_of_ble_eq_true rfl) rfl rfl ?_
        refine j_aload_n dX6_nodeItem_147 rfl ?_
        refine j_aload_n dX6_nodeItem_148 rfl ?_
        refine j_getI dX6_nodeItem_149 flX6_96 (Nat.le_of_ble_eq_true rfl) rfl rfl ?_
        refine j_top (y0 := nI (sp1 + 1)) rfl ?_
        refine j_iconst (v := nI 1) dX6_nodeItem_152 (by decide +kernel) ?_
        refine j_isubN dX6_nodeItem_153 (by omega) ?_
        refine j_callV (y' := mX6_letterAt) (As := [.int (nI ((sp1 + 1) - 1))]) (st := []) dX6_nodeItem_154 lkX6_99 okX6_letterAt imX6_letterAt seX6_letterAt (Nat.le_of_ble_eq_true rfl) rfl rfl rfl rfl (Nat.le_of_ble_eq_true rfl) (Nat.le_of_ble_eq_true rfl) (m_letterAt z _ _ _ _ _ _ _ _ ((sp1 + 1) - 1) (by omega) (mj_u (mj_u F 0 4 (nI (rn + 1))) 0 12 (nI (sp1 + 1))) (mj_u A 3 rn (nI k)) hM) (fun v154 F154 A154 hq154 => ?_)
        obtain ⟨rfl, rfl, r154, rfl, hr154⟩ := hq154
        refine j_bipush (v := nI 59) dX6_nodeItem_157 (by decide +kernel) ?_
        refine j_icmp_ne (tgt := 166) dX6_nodeItem_159 (by decide) (fun c159 => ?_) (fun c159 => ?_)
        · have hr154 : r154 = cL L sp1 := hr154
          have hno : rd_node (cL L) sp rn mmr row = none := by rw [hres, ← hspec, rd_o_no hc44 (fun q => c159 (by rw [hr154]; exact q.1))]; rfl
          refine j_iconst (v := nI 0) dX6_nodeItem_166 (by decide +kernel) ?_
          exact j_iret dX6_nodeItem_167 rfl (by decide +kernel) ⟨_, _, _, _, rfl, hM, rfl, ⟨by omega, by omega, fun h => by first | omega | (have := lt_let hr154 c159 (by omega) (by omega); omega)⟩, by first | exact Or.inr ⟨rfl, hno⟩ | exact Or.inl ⟨rfl, _, _, hsome, hrow, mmU_eq hrm⟩⟩
        · have hr154 : r154 = cL L sp1 := hr154
          have hsome : rd_node (cL L) sp rn mmr row = some (sp1 + 1, rn + 1, mmU mmr rn k, row1) := by
            obtain ⟨f1, rfl⟩ : ∃ f1, f = f1 + 1 := ⟨f - 1, by omega⟩
            rw [hres, ← hspec, rd_o_59 f1 (hr154.symm.trans c159) hk0]
            rfl
          refine j_iconst (v := nI 1) dX6_nodeItem_162 (by decide +kernel) ?_
          refine j_goto (tgt := 167) dX6_nodeItem_163 (by decide) ?_
          exact j_iret dX6_nodeItem_167 rfl (by decide +kernel) ⟨_, _, _, _, rfl, hM, rfl, ⟨by omega, by omega, fun h => by first | omega | (have := lt_let hr154 c159 (by omega) (by omega); omega)⟩, by first | exact Or.inr ⟨rfl, hno⟩ | exact Or.inl ⟨rfl, _, _, hsome, hrow, mmU_eq hrm⟩⟩
      · have hl62 := lt_let hr62 c67 (by omega) (by omega)
        have hc44 : cL L sp1 = nI 44 := hr62.symm.trans c67
        refine j_aload_n dX6_nodeItem_70 rfl ?_
        refine j_dup dX6_nodeItem_71 rfl ?_
        refine j_getI dX6_nodeItem_72 flX6_96 (Nat.le_of_ble_eq_true rfl) rfl rfl ?_
        refine j_top (y0 := nI sp1) hsp ?_
        refine j_iconst (v := nI 1) dX6_nodeItem_75 (by decide +kernel) ?_
        refine j_iaddN dX6_nodeItem_76 ?_
        refine j_putI dX6_nodeItem_77 fpX6_96 (Nat.le_of_ble_eq_true rfl) rfl rfl ?_
        refine j_aload_n dX6_nodeItem_80 rfl ?_
        refine j_callV (y' := mX6_isNumber) (As := []) (st := []) dX6_nodeItem_81 lkX6_112 okX6_isNumber imX6_isNumber seX6_isNumber (Nat.le_of_ble_eq_true rfl) rfl rfl rfl rfl (Nat.le_of_ble_eq_true rfl) (Nat.le_of_ble_eq_true rfl) (m_isNumber z _ _ _ _ _ _ _ _ (sp1 + 1) (by omega) (mj_u F 0 12 (nI (sp1 + 1))) A hM rfl) (fun v81 F81 A81 hq81 => ?_)
        obtain ⟨rfl, r81, s81, w81, rfl, hM, e12_81, e13_81, hn81, hE81⟩ := hq81
        refine j_if_eqN (tgt := 92) dX6_nodeItem_84 (by decide) (by omega) (fun c84 => ?_) (fun c84 => ?_)
        · have hno : rd_node (cL L) sp rn mmr row = none := by rw [hres, ← hspec, rd_o_F hc44 (hE81.resolve_left (fun h => by omega)).2]; rfl
          refine j_iconst (v := nI 0) dX6_nodeItem_92 (by decide +kernel) ?_
          exact j_iret dX6_nodeItem_93 rfl (by decide +kernel) ⟨_, _, _, _, rfl, hM, e12_81, ⟨by omega, by omega, fun h => absurd h (by omega)⟩, Or.inr ⟨rfl, hno⟩⟩
        · obtain ⟨-, hN81, hD81⟩ := hE81.resolve_right (fun h => by omega)
          refine j_iload_n dX6_nodeItem_87 rfl ?_
          refine j_iconst (v := nI 4) dX6_nodeItem_88 (by decide +kernel) ?_
          refine j_icmp_neN (tgt := 94) dX6_nodeItem_89 (by decide) (by omega) (by omega) (fun c89 => ?_) (fun c89 => ?_)
          · refine j_aload_n dX6_nodeItem_94 rfl ?_
            refine j_getR (r := 4) dX6_nodeItem_95 flX6_19 (Nat.le_of_ble_eq_true rfl) rfl rfl ?_
            refine j_iconst (v := nI 4) dX6_nodeItem_98 (by decide +kernel) ?_
            refine j_aload_n dX6_nodeItem_99 rfl ?_
            refine j_getI dX6_nodeItem_100 flX6_77 (Nat.le_of_ble_eq_true rfl) rfl rfl ?_
            refine j_top (y0 := nI rn) hM.2.2.1.1 ?_
            refine j_imulN dX6_nodeItem_103 ?_
            refine j_iload_n dX6_nodeItem_104 rfl ?_
            refine j_iaddN dX6_nodeItem_105 ?_
            refine j_aload_n dX6_nodeItem_106 rfl ?_
            refine j_getI dX6_nodeItem_107 flX6_107 (Nat.le_of_ble_eq_true rfl) rfl rfl ?_
            refine j_top (y0 := nI w81) e13_81 ?_
            refine j_iastN dX6_nodeItem_110 (Nat.le_of_ble_eq_true rfl) rfl (by omega) (by decide) ?_
            refine j_iinc (v := nI (k + 1)) (lv' := [(0, .ref 0), (1, .int (nI (k + 1)))]) dX6_nodeItem_111 rfl (nI_add _ 1) (Nat.le_of_ble_eq_true rfl) rfl rfl ?_
            refine j_goto (tgt := 57) dX6_nodeItem_114 (by decide) ?_
            exact ih57 (k + 1) s81 (f - 1) (upd row1 (4 * rn + k) (nI w81)) res F81 (mj_u A 4 (4 * rn + k) (nI w81)) (by first | exact hM | omega) (by first | exact e12_81 | omega) (by first | exact h1 | omega) (Or.inl (by omega)) (row_u hrow _ _) (by rw [← hspec, show f = f - 1 + 1 by omega, rd_o_44 _ hc44 c89 hN81]; rfl) hres (by omega)
          · have hno : rd_node (cL L) sp rn mmr row = none := by rw [hres, ← hspec, show k = 4 by omega, rd_o_4 hc44]; rfl
            refine j_iconst (v := nI 0) dX6_nodeItem_92 (by decide +kernel) ?_
            exact j_iret dX6_nodeItem_93 rfl (by decide +kernel) ⟨_, _, _, _, rfl, hM, e12_81, ⟨by omega, by omega, fun h => absurd h (by omega)⟩, Or.inr ⟨rfl, hno⟩⟩
  refine j_aload_n dX6_nodeItem_0 rfl ?_
  refine j_callV (y' := mX6_isNumber) (As := []) (st := []) dX6_nodeItem_1 lkX6_112 okX6_isNumber imX6_isNumber seX6_isNumber (Nat.le_of_ble_eq_true rfl) rfl rfl rfl rfl (Nat.le_of_ble_eq_true rfl) (Nat.le_of_ble_eq_true rfl) (m_isNumber z _ _ _ _ _ _ _ _ sp (by omega) F A hM hsp) (fun v1 F1 A1 hq1 => ?_)
  obtain ⟨rfl, r1, s1, w1, rfl, hM, e12_1, e13_1, hn1, hE1⟩ := hq1
  refine j_if_eqN (tgt := 37) dX6_nodeItem_4 (by decide) (by omega) (fun c4 => ?_) (fun c4 => ?_)
  · have hno : rd_node (cL L) sp rn mmr row = none := rd_node_F (hE1.resolve_left (fun h => by omega)).2
    refine j_iconst (v := nI 0) dX6_nodeItem_37 (by decide +kernel) ?_
    exact j_iret dX6_nodeItem_38 rfl (by decide +kernel) ⟨_, _, _, _, rfl, hM, e12_1, ⟨by omega, by omega, fun h => absurd h (by omega)⟩, Or.inr ⟨rfl, hno⟩⟩
  · obtain ⟨-, hN1, hD1⟩ := hE1.resolve_right (fun h => by omega)
    refine j_aload_n dX6_nodeItem_7 rfl ?_
    refine j_getI dX6_nodeItem_8 flX6_107 (Nat.le_of_ble_eq_true rfl) rfl rfl ?_
    refine j_top (y0 := nI w1) e13_1 ?_
    refine j_iconst (v := nI 3) dX6_nodeItem_11 (by decide +kernel) ?_
    refine j_icmp_gtN (tgt := 37) dX6_nodeItem_12 (by decide) (by omega) (by omega) (fun c12 => ?_) (fun c12 => ?_)
    · have hno : rd_node (cL L) sp rn mmr row = none := rd_node_no hN1 (by omega)
      refine j_iconst (v := nI 0) dX6_nodeItem_37 (by decide +kernel) ?_
      exact j_iret dX6_nodeItem_38 rfl (by decide +kernel) ⟨_, _, _, _, rfl, hM, e12_1, ⟨by omega, by omega, fun h => absurd h (by omega)⟩, Or.inr ⟨rfl, hno⟩⟩
    · refine j_aload_n dX6_nodeItem_15 rfl ?_
      refine j_aload_n dX6_nodeItem_16 rfl ?_
      refine j_getI dX6_nodeItem_17 flX6_96 (Nat.le_of_ble_eq_true rfl) rfl rfl ?_
      refine j_top (y0 := nI s1) e12_1 ?_
      refine j_callV (y' := mX6_letterAt) (As := [.int (nI s1)]) (st := []) dX6_nodeItem_20 lkX6_99 okX6_letterAt imX6_letterAt seX6_letterAt (Nat.le_of_ble_eq_true rfl) rfl rfl rfl rfl (Nat.le_of_ble_eq_true rfl) (Nat.le_of_ble_eq_true rfl) (m_letterAt z _ _ _ _ _ _ _ _ s1 (by omega) F1 A hM) (fun v20 F20 A20 hq20 => ?_)
      obtain ⟨rfl, rfl, r20, rfl, hr20⟩ := hq20
      refine j_bipush (v := nI 44) dX6_nodeItem_23 (by decide +kernel) ?_
      refine j_icmp_ne (tgt := 37) dX6_nodeItem_25 (by decide) (fun c25 => ?_) (fun c25 => ?_)
      · have hno : rd_node (cL L) sp rn mmr row = none := rd_node_c hN1 (by rw [← hr20]; exact c25)
        refine j_iconst (v := nI 0) dX6_nodeItem_37 (by decide +kernel) ?_
        exact j_iret dX6_nodeItem_38 rfl (by decide +kernel) ⟨_, _, _, _, rfl, hM, e12_1, ⟨by omega, by omega, fun h => absurd h (by omega)⟩, Or.inr ⟨rfl, hno⟩⟩
      · have hl20 := lt_let hr20 c25 (by omega) (by omega)
        refine j_aload_n dX6_nodeItem_28 rfl ?_
        refine j_getI dX6_nodeItem_29 flX6_77 (Nat.le_of_ble_eq_true rfl) rfl rfl ?_
        refine j_top (y0 := nI rn) hM.2.2.1.1 ?_
        refine j_bipush (v := nI 8) dX6_nodeItem_32 (by decide +kernel) ?_
        refine j_icmp_neN (tgt := 39) dX6_nodeItem_34 (by decide) (by omega) (by omega) (fun c34 => ?_) (fun c34 => ?_)
        · have hres := rd_node_eq (mm := mmr) (row := row) hN1 (by omega) (show rn < 8 by omega)
          refine j_aload_n dX6_nodeItem_39 rfl ?_
          refine j_getR (r := 4) dX6_nodeItem_40 flX6_19 (Nat.le_of_ble_eq_true rfl) rfl rfl ?_
          refine j_bipush (v := nI 32) dX6_nodeItem_43 (by decide +kernel) ?_
          refine j_aload_n dX6_nodeItem_45 rfl ?_
          refine j_getI dX6_nodeItem_46 flX6_77 (Nat.le_of_ble_eq_true rfl) rfl rfl ?_
          refine j_top (y0 := nI rn) hM.2.2.1.1 ?_
          refine j_iaddN dX6_nodeItem_49 ?_
          refine j_aload_n dX6_nodeItem_50 rfl ?_
          refine j_getI dX6_nodeItem_51 flX6_107 (Nat.le_of_ble_eq_true rfl) rfl rfl ?_
          refine j_top (y0 := nI w1) e13_1 ?_
          refine j_iastN dX6_nodeItem_54 (Nat.le_of_ble_eq_true rfl) rfl (by omega) (by decide) ?_
          refine j_iconst (v := nI 0) dX6_nodeItem_55 (by decide +kernel) ?_
          refine j_istore_n (lv' := [(0, .ref 0), (1, .int (nI 0))]) dX6_nodeItem_56 (Nat.le_of_ble_eq_true rfl) rfl rfl ?_
          exact L57 _ 0 s1 6 (upd row (32 + rn) (nI w1)) _ F1 (mj_u A 4 (32 + rn) (nI w1)) (by first | exact hM | omega) (by first | exact e12_1 | omega) (by first | exact h1 | omega) (Or.inr (hr20.symm.trans c25)) (row_u hrow _ _) rfl hres (Nat.lt_succ_self _)
        · have hno : rd_node (cL L) sp rn mmr row = none := rd_node_no hN1 (by omega)
          refine j_iconst (v := nI 0) dX6_nodeItem_37 (by decide +kernel) ?_
          exact j_iret dX6_nodeItem_38 rfl (by decide +kernel) ⟨_, _, _, _, rfl, hM, e12_1, ⟨by omega, by omega, fun h => absurd h (by omega)⟩, Or.inr ⟨rfl, hno⟩⟩

theorem sub48 {x : Int32} {w : Nat} (h : x - nI 48 = nI w) : x = nI (48 + w) := by
  have h2 : x = x - nI 48 + nI 48 := (Int32.sub_add_cancel x _).symm
  rw [h2, h, nI_add, Nat.add_comm]
theorem in_f {x : Int32} : (nI 48 ≤ x ∧ x ≤ nI 57) ↔ ((0 : Int64) ≤ (x - nI 48).toInt64 ∧ (x - nI 48).toInt64 ≤ 9) := by
  constructor
  · rintro ⟨h1, h2⟩
    obtain ⟨j, hj, rfl⟩ := nI_of (x := x) (fun h3 => by
      rw [Int32.lt_iff_toInt_lt, Int32.toInt_zero] at h3
      rw [Int32.le_iff_toInt_le, nI_toInt (by omega)] at h1
      omega)
    rw [nI_leI (by omega) hj] at h1
    rw [nI_leI hj (by omega)] at h2
    rw [pk_sub h1]
    exact (in_natI (k := j - 48) (by omega) (a := 0) (b := 9) 0 9 rfl rfl).mpr (by omega)
  · intro h
    obtain ⟨w, hw, h1, h2⟩ := in_of h 0 9 rfl rfl
    rw [sub48 hw]
    exact ⟨nI_le (by omega) (by omega), nI_le (by omega) (by omega)⟩

set_option maxHeartbeats 400000 in
set_option maxRecDepth 100000 in
theorem m_tieItem (z : mj_B) (d : Nat) (L : Lg) (n : Nat) (mm : Nat → Nat) (rn : Nat) (rm : Nat → Nat) (un kn : Nat) (sp : Nat) (hs0 : sp ≤ 201) (mmr : Nat → Nat) (row : Nat → Int32) (F A : mj_S) (hM : MI L n mm rn rm un kn F A) (hsp : F 0 12 = nI sp) (hrow : ∀ j, j < 500 → A 4 j = row j) (hrm : ∀ j, j < rn → rm j = mmr j) : J (gM z) mX6_tieItem (d + 2) 0 [(0, .ref 0)] [] F A (fun v F' A' => ∃ r sp' rn' rm', v = some (.int (nI r)) ∧ MI L n mm rn' rm' un kn F' A' ∧ F' 0 12 = nI sp' ∧ (r ≤ 1 ∧ sp' ≤ 300 ∧ (r = 1 → sp < sp' ∧ sp' ≤ L.1)) ∧ ((r = 1 ∧ ∃ mmr' row', rd_tie (cL L) sp rn mmr row = some (sp', rn', mmr', row') ∧ (∀ j, j < 500 → A' 4 j = row' j) ∧ ∀ j, j < rn' → rm' j = mmr' j) ∨ (r = 0 ∧ rd_tie (cL L) sp rn mmr row = none))) := by
  have hM0 := hM.1.2.1
  have hM1 := hM.2.1.2.1
  have hM2 := hM.2.2.1.2.1
  have hM3 := hM.2.2.2.1.2
  have hM4 := hM.2.2.2.2.1.2
  have L118 : ∀ (fuel : Nat) (u : Nat) (v : Nat) (k : Nat) (sp1 : Nat) (f : Nat) (row1 : Nat → Int32) (res : Option (Nat × (Nat → Int32))) (F A : mj_S), (MI L n mm rn rm un kn F A) → (F 0 12 = nI sp1) → (u < v ∧ v < rn ∧ sp < sp1 ∧ sp1 ≤ 250 ∧ k ≤ rm u * rm v ∧ rm u * rm v ≤ 16 ∧ 1 ≤ rm u ∧ 1 ≤ rm v ∧ rm u ≤ 4 ∧ rm v ≤ 4 ∧ f + k = 17) → (mmr u = rm u) → (mmr v = rm v) → (∀ j, j < 500 → A 4 j = row1 j) → (rd_tb (cL L) mmr u v f sp1 k row1 = res) → (rd_tie (cL L) sp rn mmr row = rd_tM rn mmr res) → rm u * rm v - k < fuel → J (gM z) mX6_tieItem (d + 2) 118 [(0, .ref 0), (1, .int (nI u)), (2, .int (nI v)), (3, .int (nI k))] [] F A (fun v F' A' => ∃ r sp' rn' rm', v = some (.int (nI r)) ∧ MI L n mm rn' rm' un kn F' A' ∧ F' 0 12 = nI sp' ∧ (r ≤ 1 ∧ sp' ≤ 300 ∧ (r = 1 → sp < sp' ∧ sp' ≤ L.1)) ∧ ((r = 1 ∧ ∃ mmr' row', rd_tie (cL L) sp rn mmr row = some (sp', rn', mmr', row') ∧ (∀ j, j < 500 → A' 4 j = row' j) ∧ ∀ j, j < rn' → rm' j = mmr' j) ∨ (r = 0 ∧ rd_tie (cL L) sp rn mmr row = none))) := by
    intro fuel
    induction fuel with
    | zero => intro u v k sp1 f row1 res F A hM hsp h1 heu hev hrow hspec hres hf; exact absurd hf (by omega)
    | succ fuel ih118 =>
      intro u v k sp1 f row1 res F A hM hsp h1 heu hev hrow hspec hres hf
      refine j_iload_n dX6_tieItem_118 rfl ?_
      refine j_aload_n dX6_tieItem_119 rfl ?_
      refine j_getR (r := 3) dX6_tieItem_120 flX6_16 (Nat.le_of_ble_eq_true rfl) rfl rfl ?_
      refine j_iload_n dX6_tieItem_123 rfl ?_
      refine j_ialdN dX6_tieItem_124 (Nat.le_of_ble_eq_true rfl) rfl (by omega) (by decide) ?_
      refine j_top (y0 := nI (rm u)) (hM.2.2.1.2.2.1 _ (by omega)) ?_
      refine j_aload_n dX6_tieItem_125 rfl ?_
      refine j_getR (r := 3) dX6_tieItem_126 flX6_16 (Nat.le_of_ble_eq_true rfl) rfl rfl ?_
      refine j_iload_n dX6_tieItem_129 rfl ?_
      refine j_ialdN dX6_tieItem_130 (Nat.le_of_ble_eq_true rfl) rfl (by omega) (by decide) ?_
      refine j_top (y0 := nI (rm v)) (hM.2.2.1.2.2.1 _ (by omega)) ?_
      refine j_imulN dX6_tieItem_131 ?_
      refine j_icmp_geN (tgt := 209) dX6_tieItem_132 (by decide) (by omega) (by omega) (fun c132 => ?_) (fun c132 => ?_)
      · refine j_aload_n dX6_tieItem_209 rfl ?_
        refine j_dup dX6_tieItem_210 rfl ?_
        refine j_getI dX6_tieItem_211 flX6_96 (Nat.le_of_ble_eq_true rfl) rfl rfl ?_
        refine j_top (y0 := nI sp1) hsp ?_
        refine j_iconst (v := nI 1) dX6_tieItem_214 (by decide +kernel) ?_
        refine j_iaddN dX6_tieItem_215 ?_
        refine j_putI dX6_tieItem_216 fpX6_96 (Nat.le_of_ble_eq_true rfl) rfl rfl ?_
        refine j_aload_n dX6_tieItem_219 rfl ?_
        refine j_aload_n dX6_tieItem_220 rfl ?_
        refine j_getI dX6_tieItem_221 flX6_96 (Nat.le_of_ble_eq_true rfl) rfl rfl ?_
        refine j_top (y0 := nI (sp1 + 1)) rfl ?_
        refine j_iconst (v := nI 1) dX6_tieItem_224 (by decide +kernel) ?_
        refine j_isubN dX6_tieItem_225 (by omega) ?_
        refine j_callV (y' := mX6_letterAt) (As := [.int (nI ((sp1 + 1) - 1))]) (st := []) dX6_tieItem_226 lkX6_99 okX6_letterAt imX6_letterAt seX6_letterAt (Nat.le_of_ble_eq_true rfl) rfl rfl rfl rfl (Nat.le_of_ble_eq_true rfl) (Nat.le_of_ble_eq_true rfl) (m_letterAt z _ _ _ _ _ _ _ _ ((sp1 + 1) - 1) (by omega) (mj_u F 0 12 (nI (sp1 + 1))) A hM) (fun v226 F226 A226 hq226 => ?_)
        obtain ⟨rfl, rfl, r226, rfl, hr226⟩ := hq226
        refine j_bipush (v := nI 59) dX6_tieItem_229 (by decide +kernel) ?_
        refine j_icmp_ne (tgt := 238) dX6_tieItem_231 (by decide) (fun c231 => ?_) (fun c231 => ?_)
        · have hr226 : r226 = cL L sp1 := hr226
          have hno : rd_tie (cL L) sp rn mmr row = none := by rw [hres, ← hspec, rd_tb_x (by rw [heu, hev]; omega) (by rw [← hr226]; exact c231)]; rfl
          refine j_iconst (v := nI 0) dX6_tieItem_238 (by decide +kernel) ?_
          exact j_iret dX6_tieItem_239 rfl (by decide +kernel) ⟨_, _, _, _, rfl, hM, rfl, ⟨by omega, by omega, fun h => by first | omega | (have := lt_let hr226 c231 (by omega) (by omega); omega)⟩, by first | exact Or.inr ⟨rfl, hno⟩ | exact Or.inl ⟨rfl, _, _, hsome, hrow, hrm⟩⟩
        · have hr226 : r226 = cL L sp1 := hr226
          have hsome : rd_tie (cL L) sp rn mmr row = some (sp1 + 1, rn, mmr, row1) := by
            obtain ⟨f1, rfl⟩ : ∃ f1, f = f1 + 1 := ⟨f - 1, by omega⟩
            rw [hres, ← hspec, rd_tb_e f1 (by rw [heu, hev]; omega) (hr226.symm.trans c231)]
            rfl
          refine j_iconst (v := nI 1) dX6_tieItem_234 (by decide +kernel) ?_
          refine j_goto (tgt := 239) dX6_tieItem_235 (by decide) ?_
          exact j_iret dX6_tieItem_239 rfl (by decide +kernel) ⟨_, _, _, _, rfl, hM, rfl, ⟨by omega, by omega, fun h => by first | omega | (have := lt_let hr226 c231 (by omega) (by omega); omega)⟩, by first | exact Or.inr ⟨rfl, hno⟩ | exact Or.inl ⟨rfl, _, _, hsome, hrow, hrm⟩⟩
      · have hd1 : k / rm v < rm u := Nat.div_lt_of_lt_mul (by rw [Nat.mul_comm]; exact c132)
        have hd2 : k % rm v < rm v := Nat.mod_lt _ (by omega)
        refine j_aload_n dX6_tieItem_135 rfl ?_
        refine j_aload_n dX6_tieItem_136 rfl ?_
        refine j_getI dX6_tieItem_137 flX6_96 (Nat.le_of_ble_eq_true rfl) rfl rfl ?_
        refine j_top (y0 := nI sp1) hsp ?_
        refine j_callV (y' := mX6_letterAt) (As := [.int (nI sp1)]) (st := []) dX6_tieItem_140 lkX6_99 okX6_letterAt imX6_letterAt seX6_letterAt (Nat.le_of_ble_eq_true rfl) rfl rfl rfl rfl (Nat.le_of_ble_eq_true rfl) (Nat.le_of_ble_eq_true rfl) (m_letterAt z _ _ _ _ _ _ _ _ sp1 (by omega) F A hM) (fun v140 F140 A140 hq140 => ?_)
        obtain ⟨rfl, rfl, r140, rfl, hr140⟩ := hq140
        refine j_bipush (v := nI 48) dX6_tieItem_143 (by decide +kernel) ?_
        refine j_isub dX6_tieItem_145 ?_
        refine j_istore (lv' := [(0, .ref 0), (1, .int (nI u)), (2, .int (nI v)), (3, .int (nI k)), (4, .int (r140 - (nI 48)))]) dX6_tieItem_146 (Nat.le_of_ble_eq_true rfl) rfl rfl ?_
        refine j_iload dX6_tieItem_148 rfl ?_
        refine j_i2l dX6_tieItem_150 rfl ?_
        refine j_lconst (v := 0) dX6_tieItem_151 rfl ?_
        refine j_ldc2 dX6_tieItem_152 klX6_120 ?_
        refine j_callS (y' := mX6_in) (As := [.long ((r140 - (nI 48)).toInt64), .long (0), .long ((9))]) (st := []) dX6_tieItem_155 lkX6_89 okX6_in stX6_in rfl (Nat.le_of_ble_eq_true rfl) (Nat.le_of_ble_eq_true rfl) (m_in z _ ((r140 - (nI 48)).toInt64) 0 (9) F A) (fun v155 F155 A155 hq155 => ?_)
        obtain ⟨rfl, rfl, r155, rfl, hr155⟩ := hq155
        have hb155 : r155 ≤ 1 := by omega
        refine j_if_neN (tgt := 163) dX6_tieItem_158 (by decide) (by omega) (fun c158 => ?_) (fun c158 => ?_)
        · obtain ⟨w9, ew, hw1, hw2⟩ := in_of (hr155.resolve_right (fun h => by omega)).2 0 9 rfl rfl
          have hc9 : cL L sp1 = nI (48 + w9) := by rw [← hr140]; exact sub48 ew
          have hl140 : sp1 < L.1 := rd_c_lt hc9 (by omega) (by omega)
          have hdg := rd_d_of hc9 hw2
          rw [ew]
          refine j_aload_n dX6_tieItem_163 rfl ?_
          refine j_getR (r := 4) dX6_tieItem_164 flX6_19 (Nat.le_of_ble_eq_true rfl) rfl rfl ?_
          refine j_iload_n dX6_tieItem_167 rfl ?_
          refine j_iload_n dX6_tieItem_168 rfl ?_
          refine j_iload_n dX6_tieItem_169 rfl ?_
          refine j_aload_n dX6_tieItem_170 rfl ?_
          refine j_getR (r := 3) dX6_tieItem_171 flX6_16 (Nat.le_of_ble_eq_true rfl) rfl rfl ?_
          refine j_iload_n dX6_tieItem_174 rfl ?_
          refine j_ialdN dX6_tieItem_175 (Nat.le_of_ble_eq_true rfl) rfl (by omega) (by decide) ?_
          refine j_top (y0 := nI (rm v)) (hM.2.2.1.2.2.1 _ (by omega)) ?_
          refine j_idivN dX6_tieItem_176 (by omega) (by omega) (by omega) ?_
          refine j_iload_n dX6_tieItem_177 rfl ?_
          refine j_aload_n dX6_tieItem_178 rfl ?_
          refine j_getR (r := 3) dX6_tieItem_179 flX6_16 (Nat.le_of_ble_eq_true rfl) rfl rfl ?_
          refine j_iload_n dX6_tieItem_182 rfl ?_
          refine j_ialdN dX6_tieItem_183 (Nat.le_of_ble_eq_true rfl) rfl (by omega) (by decide) ?_
          refine j_top (y0 := nI (rm v)) (hM.2.2.1.2.2.1 _ (by omega)) ?_
          refine j_iremN dX6_tieItem_184 (by omega) (by omega) (by omega) ?_
          refine j_callS (y' := mX6_entryAt) (As := [.int (nI u), .int (nI v), .int (nI (k / (rm v))), .int (nI (k % (rm v)))]) (st := [.ref 4]) dX6_tieItem_185 lkX6_81 okX6_entryAt stX6_entryAt rfl (Nat.le_of_ble_eq_true rfl) (Nat.le_of_ble_eq_true rfl) (m_entryAt z _ u v (k / (rm v)) (k % (rm v)) (by omega) (by omega) (by omega) (by omega) (by omega) F A) (fun v185 F185 A185 hq185 => ?_)
          obtain ⟨rfl, rfl, e185, rfl, he185⟩ := hq185
          have hl185 : e185 < 500 := by rw [he185]; exact eA_lt (by omega) (by omega) (by omega) (by omega) (by omega)
          refine j_iconst (v := nI 1) dX6_tieItem_188 (by decide +kernel) ?_
          refine j_iload dX6_tieItem_189 rfl ?_
          refine j_iaddN dX6_tieItem_191 ?_
          refine j_iastN dX6_tieItem_192 (Nat.le_of_ble_eq_true rfl) rfl (by omega) (by decide) ?_
          refine j_aload_n dX6_tieItem_193 rfl ?_
          refine j_dup dX6_tieItem_194 rfl ?_
          refine j_getI dX6_tieItem_195 flX6_96 (Nat.le_of_ble_eq_true rfl) rfl rfl ?_
          refine j_top (y0 := nI sp1) hsp ?_
          refine j_iconst (v := nI 1) dX6_tieItem_198 (by decide +kernel) ?_
          refine j_iaddN dX6_tieItem_199 ?_
          refine j_putI dX6_tieItem_200 fpX6_96 (Nat.le_of_ble_eq_true rfl) rfl rfl ?_
          refine j_iinc (v := nI (k + 1)) (lv' := [(0, .ref 0), (1, .int (nI u)), (2, .int (nI v)), (3, .int (nI (k + 1))), (4, .int (nI w9))]) dX6_tieItem_203 rfl (nI_add _ 1) (Nat.le_of_ble_eq_true rfl) rfl rfl ?_
          refine j_goto (tgt := 118) dX6_tieItem_206 (by decide) ?_
          refine j_sub [0, 1, 2, 3] rfl ?_
          exact ih118 u v (k + 1) (sp1 + 1) (f - 1) (upd row1 (eA u v (k / rm v) (k % rm v)) (nI (1 + w9))) res (mj_u F 0 12 (nI (sp1 + 1))) (mj_u A 4 e185 (nI (1 + w9))) (by first | exact hM | omega) rfl (by first | exact h1 | omega) (by first | exact heu | omega) (by first | exact hev | omega) (by rw [← he185]; exact row_u hrow _ _) (by rw [← hspec, show f = f - 1 + 1 by omega, rd_tb_d _ (by rw [heu, hev]; omega) hdg, hev]; rfl) hres (by omega)
        · have hno : rd_tie (cL L) sp rn mmr row = none := by rw [hres, ← hspec, rd_tb_no (by rw [heu, hev]; omega) (rd_d_none (fun q => (hr155.resolve_left (fun h => by omega)).2 (by rw [hr140]; exact in_f.mp q)))]; rfl
          refine j_iconst (v := nI 0) dX6_tieItem_161 (by decide +kernel) ?_
          exact j_iret dX6_tieItem_162 rfl (by decide +kernel) ⟨_, _, _, _, rfl, hM, hsp, ⟨by omega, by omega, fun h => absurd h (by omega)⟩, Or.inr ⟨rfl, hno⟩⟩
  refine j_aload_n dX6_tieItem_0 rfl ?_
  refine j_callV (y' := mX6_isNumber) (As := []) (st := []) dX6_tieItem_1 lkX6_112 okX6_isNumber imX6_isNumber seX6_isNumber (Nat.le_of_ble_eq_true rfl) rfl rfl rfl rfl (Nat.le_of_ble_eq_true rfl) (Nat.le_of_ble_eq_true rfl) (m_isNumber z _ _ _ _ _ _ _ _ sp (by omega) F A hM hsp) (fun v1 F1 A1 hq1 => ?_)
  obtain ⟨rfl, r1, s1, w1, rfl, hM, e12_1, e13_1, hn1, hE1⟩ := hq1
  refine j_if_eqN (tgt := 20) dX6_tieItem_4 (by decide) (by omega) (fun c4 => ?_) (fun c4 => ?_)
  · have hno : rd_tie (cL L) sp rn mmr row = none := rd_tie_F (hE1.resolve_left (fun h => by omega)).2
    refine j_iconst (v := nI 0) dX6_tieItem_20 (by decide +kernel) ?_
    exact j_iret dX6_tieItem_21 rfl (by decide +kernel) ⟨_, _, _, _, rfl, hM, e12_1, ⟨by omega, by omega, fun h => absurd h (by omega)⟩, Or.inr ⟨rfl, hno⟩⟩
  · obtain ⟨-, hN1, hD1⟩ := hE1.resolve_right (fun h => by omega)
    refine j_aload_n dX6_tieItem_7 rfl ?_
    refine j_aload_n dX6_tieItem_8 rfl ?_
    refine j_getI dX6_tieItem_9 flX6_96 (Nat.le_of_ble_eq_true rfl) rfl rfl ?_
    refine j_top (y0 := nI s1) e12_1 ?_
    refine j_callV (y' := mX6_letterAt) (As := [.int (nI s1)]) (st := []) dX6_tieItem_12 lkX6_99 okX6_letterAt imX6_letterAt seX6_letterAt (Nat.le_of_ble_eq_true rfl) rfl rfl rfl rfl (Nat.le_of_ble_eq_true rfl) (Nat.le_of_ble_eq_true rfl) (m_letterAt z _ _ _ _ _ _ _ _ s1 (by omega) F1 A hM) (fun v12 F12 A12 hq12 => ?_)
    obtain ⟨rfl, rfl, r12, rfl, hr12⟩ := hq12
    refine j_bipush (v := nI 44) dX6_tieItem_15 (by decide +kernel) ?_
    refine j_icmp_eq (tgt := 22) dX6_tieItem_17 (by decide) (fun c17 => ?_) (fun c17 => ?_)
    · have hl12 := lt_let hr12 c17 (by omega) (by omega)
      have hc1 := hr12.symm.trans c17
      refine j_aload_n dX6_tieItem_22 rfl ?_
      refine j_getI dX6_tieItem_23 flX6_107 (Nat.le_of_ble_eq_true rfl) rfl rfl ?_
      refine j_top (y0 := nI w1) e13_1 ?_
      refine j_istore_n (lv' := [(0, .ref 0), (1, .int (nI w1))]) dX6_tieItem_26 (Nat.le_of_ble_eq_true rfl) rfl rfl ?_
      refine j_aload_n dX6_tieItem_27 rfl ?_
      refine j_dup dX6_tieItem_28 rfl ?_
      refine j_getI dX6_tieItem_29 flX6_96 (Nat.le_of_ble_eq_true rfl) rfl rfl ?_
      refine j_top (y0 := nI s1) e12_1 ?_
      refine j_iconst (v := nI 1) dX6_tieItem_32 (by decide +kernel) ?_
      refine j_iaddN dX6_tieItem_33 ?_
      refine j_putI dX6_tieItem_34 fpX6_96 (Nat.le_of_ble_eq_true rfl) rfl rfl ?_
      refine j_aload_n dX6_tieItem_37 rfl ?_
      refine j_callV (y' := mX6_isNumber) (As := []) (st := []) dX6_tieItem_38 lkX6_112 okX6_isNumber imX6_isNumber seX6_isNumber (Nat.le_of_ble_eq_true rfl) rfl rfl rfl rfl (Nat.le_of_ble_eq_true rfl) (Nat.le_of_ble_eq_true rfl) (m_isNumber z _ _ _ _ _ _ _ _ (s1 + 1) (by omega) (mj_u F1 0 12 (nI (s1 + 1))) A hM rfl) (fun v38 F38 A38 hq38 => ?_)
      obtain ⟨rfl, r38, s38, w38, rfl, hM, e12_38, e13_38, hn38, hE38⟩ := hq38
      refine j_if_eqN (tgt := 57) dX6_tieItem_41 (by decide) (by omega) (fun c41 => ?_) (fun c41 => ?_)
      · have hno : rd_tie (cL L) sp rn mmr row = none := rd_tie_F2 hN1 (hE38.resolve_left (fun h => by omega)).2
        refine j_iconst (v := nI 0) dX6_tieItem_57 (by decide +kernel) ?_
        exact j_iret dX6_tieItem_58 rfl (by decide +kernel) ⟨_, _, _, _, rfl, hM, e12_38, ⟨by omega, by omega, fun h => absurd h (by omega)⟩, Or.inr ⟨rfl, hno⟩⟩
      · obtain ⟨-, hN38, hD38⟩ := hE38.resolve_right (fun h => by omega)
        refine j_aload_n dX6_tieItem_44 rfl ?_
        refine j_aload_n dX6_tieItem_45 rfl ?_
        refine j_getI dX6_tieItem_46 flX6_96 (Nat.le_of_ble_eq_true rfl) rfl rfl ?_
        refine j_top (y0 := nI s38) e12_38 ?_
        refine j_callV (y' := mX6_letterAt) (As := [.int (nI s38)]) (st := []) dX6_tieItem_49 lkX6_99 okX6_letterAt imX6_letterAt seX6_letterAt (Nat.le_of_ble_eq_true rfl) rfl rfl rfl rfl (Nat.le_of_ble_eq_true rfl) (Nat.le_of_ble_eq_true rfl) (m_letterAt z _ _ _ _ _ _ _ _ s38 (by omega) F38 A hM) (fun v49 F49 A49 hq49 => ?_)
        obtain ⟨rfl, rfl, r49, rfl, hr49⟩ := hq49
        refine j_bipush (v := nI 44) dX6_tieItem_52 (by decide +kernel) ?_
        refine j_icmp_eq (tgt := 59) dX6_tieItem_54 (by decide) (fun c54 => ?_) (fun c54 => ?_)
        · have hl49 := lt_let hr49 c54 (by omega) (by omega)
          have hc2 := hr49.symm.trans c54
          refine j_aload_n dX6_tieItem_59 rfl ?_
          refine j_getI dX6_tieItem_60 flX6_107 (Nat.le_of_ble_eq_true rfl) rfl rfl ?_
          refine j_top (y0 := nI w38) e13_38 ?_
          refine j_istore_n (lv' := [(0, .ref 0), (1, .int (nI w1)), (2, .int (nI w38))]) dX6_tieItem_63 (Nat.le_of_ble_eq_true rfl) rfl rfl ?_
          refine j_aload_n dX6_tieItem_64 rfl ?_
          refine j_dup dX6_tieItem_65 rfl ?_
          refine j_getI dX6_tieItem_66 flX6_96 (Nat.le_of_ble_eq_true rfl) rfl rfl ?_
          refine j_top (y0 := nI s38) e12_38 ?_
          refine j_iconst (v := nI 1) dX6_tieItem_69 (by decide +kernel) ?_
          refine j_iaddN dX6_tieItem_70 ?_
          refine j_putI dX6_tieItem_71 fpX6_96 (Nat.le_of_ble_eq_true rfl) rfl rfl ?_
          refine j_iload_n dX6_tieItem_74 rfl ?_
          refine j_iload_n dX6_tieItem_75 rfl ?_
          refine j_icmp_geN (tgt := 114) dX6_tieItem_76 (by decide) (by omega) (by omega) (fun c76 => ?_) (fun c76 => ?_)
          · have hno : rd_tie (cL L) sp rn mmr row = none := rd_tie_no hN1 hN38 (fun q => absurd q.2.1 (by omega))
            refine j_iconst (v := nI 0) dX6_tieItem_114 (by decide +kernel) ?_
            exact j_iret dX6_tieItem_115 rfl (by decide +kernel) ⟨_, _, _, _, rfl, hM, rfl, ⟨by omega, by omega, fun h => absurd h (by omega)⟩, Or.inr ⟨rfl, hno⟩⟩
          · refine j_iload_n dX6_tieItem_79 rfl ?_
            refine j_aload_n dX6_tieItem_80 rfl ?_
            refine j_getI dX6_tieItem_81 flX6_77 (Nat.le_of_ble_eq_true rfl) rfl rfl ?_
            refine j_top (y0 := nI rn) hM.2.2.1.1 ?_
            refine j_icmp_geN (tgt := 114) dX6_tieItem_84 (by decide) (by omega) (by omega) (fun c84 => ?_) (fun c84 => ?_)
            · have hno : rd_tie (cL L) sp rn mmr row = none := rd_tie_no hN1 hN38 (fun q => absurd q.2.2.1 (by omega))
              refine j_iconst (v := nI 0) dX6_tieItem_114 (by decide +kernel) ?_
              exact j_iret dX6_tieItem_115 rfl (by decide +kernel) ⟨_, _, _, _, rfl, hM, rfl, ⟨by omega, by omega, fun h => absurd h (by omega)⟩, Or.inr ⟨rfl, hno⟩⟩
            · refine j_aload_n dX6_tieItem_87 rfl ?_
              refine j_getR (r := 4) dX6_tieItem_88 flX6_19 (Nat.le_of_ble_eq_true rfl) rfl rfl ?_
              refine j_iload_n dX6_tieItem_91 rfl ?_
              refine j_iload_n dX6_tieItem_92 rfl ?_
              refine j_iconst (v := nI 0) dX6_tieItem_93 (by decide +kernel) ?_
              refine j_iconst (v := nI 0) dX6_tieItem_94 (by decide +kernel) ?_
              refine j_callS (y' := mX6_entryAt) (As := [.int (nI w1), .int (nI w38), .int (nI 0), .int (nI 0)]) (st := [.ref 4]) dX6_tieItem_95 lkX6_81 okX6_entryAt stX6_entryAt rfl (Nat.le_of_ble_eq_true rfl) (Nat.le_of_ble_eq_true rfl) (m_entryAt z _ w1 w38 0 0 (by omega) (by omega) (by omega) (by omega) (by omega) (mj_u F38 0 12 (nI (s38 + 1))) A) (fun v95 F95 A95 hq95 => ?_)
              obtain ⟨rfl, rfl, e95, rfl, he95⟩ := hq95
              have hl95 : e95 < 500 := by rw [he95]; exact eA_lt (by omega) (by omega) (by omega) (by omega) (by omega)
              refine j_ialdN dX6_tieItem_98 (Nat.le_of_ble_eq_true rfl) rfl (by omega) (by decide) ?_
              refine j_if_gt (tgt := 114) dX6_tieItem_99 (by decide) (fun c99 => ?_) (fun c99 => ?_)
              · have hno : rd_tie (cL L) sp rn mmr row = none := rd_tie_no hN1 hN38 (fun q => q.2.2.2.1 (by rw [← he95, ← hrow _ hl95]; exact c99))
                refine j_iconst (v := nI 0) dX6_tieItem_114 (by decide +kernel) ?_
                exact j_iret dX6_tieItem_115 rfl (by decide +kernel) ⟨_, _, _, _, rfl, hM, rfl, ⟨by omega, by omega, fun h => absurd h (by omega)⟩, Or.inr ⟨rfl, hno⟩⟩
              · refine j_aload_n dX6_tieItem_102 rfl ?_
                refine j_getR (r := 4) dX6_tieItem_103 flX6_19 (Nat.le_of_ble_eq_true rfl) rfl rfl ?_
                refine j_callS (y' := mX6_tiesIn) (As := [.ref 4]) (st := []) dX6_tieItem_106 lkX6_116 okX6_tiesIn stX6_tiesIn rfl (Nat.le_of_ble_eq_true rfl) (Nat.le_of_ble_eq_true rfl) (m_tiesIn z _ 4 (Nat.le_of_ble_eq_true rfl) rfl (mj_u F38 0 12 (nI (s38 + 1))) A) (fun v106 F106 A106 hq106 => ?_)
                obtain ⟨rfl, rfl, r106, rfl, hr106⟩ := hq106
                have hl106 : r106 ≤ 28 := by rw [hr106]; exact tsN_le _ 28
                refine j_bipush (v := nI 12) dX6_tieItem_109 (by decide +kernel) ?_
                refine j_icmp_neN (tgt := 116) dX6_tieItem_111 (by decide) (by omega) (by omega) (fun c111 => ?_) (fun c111 => ?_)
                · have hres := rd_tie_eq (mm := mmr) (row := row) (n := rn) hN1 hc1 hN38 ⟨hc2, by omega, by omega, fun q => c99 (by rw [hrow _ hl95, he95]; exact q), fun q => c111 (by rw [hr106, tsN_congr (row' := row) (fun q hq => hrow _ (by omega))]; exact q)⟩
                  refine j_iconst (v := nI 0) dX6_tieItem_116 (by decide +kernel) ?_
                  refine j_istore_n (lv' := [(0, .ref 0), (1, .int (nI w1)), (2, .int (nI w38)), (3, .int (nI 0))]) dX6_tieItem_117 (Nat.le_of_ble_eq_true rfl) rfl rfl ?_
                  exact L118 _ w1 w38 0 (s38 + 1) 17 row _ (mj_u F38 0 12 (nI (s38 + 1))) A (by first | exact hM | omega) rfl ⟨by omega, by omega, by omega, by omega, Nat.zero_le _, Nat.mul_le_mul (hM.2.2.1.2.2.2.1 _) (hM.2.2.1.2.2.2.1 _), hM.2.2.1.2.2.2.2 _ (by omega), hM.2.2.1.2.2.2.2 _ (by omega), hM.2.2.1.2.2.2.1 _, hM.2.2.1.2.2.2.1 _, rfl⟩ (hrm _ (by omega)).symm (hrm _ (by omega)).symm hrow rfl hres (Nat.lt_succ_self _)
                · have hno : rd_tie (cL L) sp rn mmr row = none := rd_tie_no hN1 hN38 (fun q => q.2.2.2.2 (by rw [← tsN_congr (row := A 4) (fun q hq => hrow _ (by omega)), ← hr106]; exact c111))
                  refine j_iconst (v := nI 0) dX6_tieItem_114 (by decide +kernel) ?_
                  exact j_iret dX6_tieItem_115 rfl (by decide +kernel) ⟨_, _, _, _, rfl, hM, rfl, ⟨by omega, by omega, fun h => absurd h (by omega)⟩, Or.inr ⟨rfl, hno⟩⟩
        · have hno : rd_tie (cL L) sp rn mmr row = none := rd_tie_no hN1 hN38 (fun q => c54 (by rw [hr49]; exact q.1))
          refine j_iconst (v := nI 0) dX6_tieItem_57 (by decide +kernel) ?_
          exact j_iret dX6_tieItem_58 rfl (by decide +kernel) ⟨_, _, _, _, rfl, hM, e12_38, ⟨by omega, by omega, fun h => absurd h (by omega)⟩, Or.inr ⟨rfl, hno⟩⟩
    · have hno : rd_tie (cL L) sp rn mmr row = none := rd_tie_c hN1 (by rw [← hr12]; exact c17)
      refine j_iconst (v := nI 0) dX6_tieItem_20 (by decide +kernel) ?_
      exact j_iret dX6_tieItem_21 rfl (by decide +kernel) ⟨_, _, _, _, rfl, hM, e12_1, ⟨by omega, by omega, fun h => absurd h (by omega)⟩, Or.inr ⟨rfl, hno⟩⟩

set_option maxHeartbeats 400000 in
set_option maxRecDepth 100000 in
theorem m_readAll (z : mj_B) (d : Nat) (L : Lg) (n : Nat) (mm : Nat → Nat) (rn : Nat) (rm : Nat → Nat) (un kn : Nat) (F A : mj_S) (hM : MI L n mm rn rm un kn F A) : J (gM z) mX6_readAll (d + 3) 0 [(0, .ref 0)] [] F A (fun v F' A' => ∃ (x : Int32) (rn' : Nat) (rm' : Nat → Nat), v = some (.int x) ∧ MI L n mm rn' rm' un kn F' A' ∧ ((∃ b, rd_text (cL L) L.1 = .inl b ∧ x = nI b ∧ b ≤ 200) ∨ (x = (-4) ∧ ∃ mmr row, rd_text (cL L) L.1 = .inr (rn', mmr, row) ∧ (∀ j, j < 500 → A' 4 j = row j) ∧ ∀ j, j < rn' → rm' j = mmr j))) := by
  have hM0 := hM.1.2.1
  have hM1 := hM.2.1.2.1
  have hM2 := hM.2.2.1.2.1
  have hM3 := hM.2.2.2.1.2
  have hM4 := hM.2.2.2.2.1.2
  have L9 : ∀ (fuel : Nat) (sp : Nat) (rn9 : Nat) (rm9 : Nat → Nat) (mmr : Nat → Nat) (row : Nat → Int32) (f : Nat) (F A : mj_S), (MI L n mm rn9 rm9 un kn F A) → (F 0 12 = nI sp) → (sp ≤ L.1 ∧ L.1 < sp + f) → (∀ j, j < 500 → A 4 j = row j) → (∀ j, j < rn9 → rm9 j = mmr j) → (rd_all (cL L) L.1 f sp rn9 mmr row = rd_text (cL L) L.1) → L.1 - sp < fuel → J (gM z) mX6_readAll (d + 3) 9 [(0, .ref 0)] [] F A (fun v F' A' => ∃ (x : Int32) (rn' : Nat) (rm' : Nat → Nat), v = some (.int x) ∧ MI L n mm rn' rm' un kn F' A' ∧ ((∃ b, rd_text (cL L) L.1 = .inl b ∧ x = nI b ∧ b ≤ 200) ∨ (x = (-4) ∧ ∃ mmr row, rd_text (cL L) L.1 = .inr (rn', mmr, row) ∧ (∀ j, j < 500 → A' 4 j = row j) ∧ ∀ j, j < rn' → rm' j = mmr j))) := by
    intro fuel
    induction fuel with
    | zero => intro sp rn9 rm9 mmr row f F A hM hsp h1 hrow hrm hspec hf; exact absurd hf (by omega)
    | succ fuel ih9 =>
      intro sp rn9 rm9 mmr row f F A hM hsp h1 hrow hrm hspec hf
      obtain ⟨f, rfl⟩ : ∃ f1, f = f1 + 1 := ⟨f - 1, by omega⟩
      refine j_aload_n dX6_readAll_9 rfl ?_
      refine j_getI dX6_readAll_10 flX6_96 (Nat.le_of_ble_eq_true rfl) rfl rfl ?_
      refine j_top (y0 := nI sp) hsp ?_
      refine j_aload_n dX6_readAll_13 rfl ?_
      refine j_getI dX6_readAll_14 flX6_93 (Nat.le_of_ble_eq_true rfl) rfl rfl ?_
      refine j_top (y0 := nI (L.1)) hM.1.1 ?_
      refine j_icmp_geN (tgt := 78) dX6_readAll_17 (by decide) (by omega) (by omega) (fun c17 => ?_) (fun c17 => ?_)
      · have hfin : rd_text (cL L) L.1 = .inr (rn9, mmr, row) := by rw [← hspec, rd_all_end f (by omega)]
        refine j_bipush (v := (-4)) dX6_readAll_78 (by decide +kernel) ?_
        exact j_iret dX6_readAll_80 rfl rfl ⟨_, _, _, rfl, hM, Or.inr ⟨rfl, _, _, hfin, hrow, hrm⟩⟩
      · refine j_aload_n dX6_readAll_20 rfl ?_
        refine j_getI dX6_readAll_21 flX6_96 (Nat.le_of_ble_eq_true rfl) rfl rfl ?_
        refine j_top (y0 := nI sp) hsp ?_
        refine j_istore_n (lv' := [(0, .ref 0), (1, .int (nI sp))]) dX6_readAll_24 (Nat.le_of_ble_eq_true rfl) rfl rfl ?_
        refine j_aload_n dX6_readAll_25 rfl ?_
        refine j_aload_n dX6_readAll_26 rfl ?_
        refine j_getI dX6_readAll_27 flX6_96 (Nat.le_of_ble_eq_true rfl) rfl rfl ?_
        refine j_top (y0 := nI sp) hsp ?_
        refine j_callV (y' := mX6_letterAt) (As := [.int (nI sp)]) (st := []) dX6_readAll_30 lkX6_99 okX6_letterAt imX6_letterAt seX6_letterAt (Nat.le_of_ble_eq_true rfl) rfl rfl rfl rfl (Nat.le_of_ble_eq_true rfl) (Nat.le_of_ble_eq_true rfl) (m_letterAt z _ _ _ _ _ _ _ _ sp (by omega) F A hM) (fun v30 F30 A30 hq30 => ?_)
        obtain ⟨rfl, rfl, r30, rfl, hr30⟩ := hq30
        refine j_istore_n (lv' := [(0, .ref 0), (1, .int (nI sp)), (2, .int r30)]) dX6_readAll_33 (Nat.le_of_ble_eq_true rfl) rfl rfl ?_
        refine j_aload_n dX6_readAll_34 rfl ?_
        refine j_dup dX6_readAll_35 rfl ?_
        refine j_getI dX6_readAll_36 flX6_96 (Nat.le_of_ble_eq_true rfl) rfl rfl ?_
        refine j_top (y0 := nI sp) hsp ?_
        refine j_iconst (v := nI 1) dX6_readAll_39 (by decide +kernel) ?_
        refine j_iaddN dX6_readAll_40 ?_
        refine j_putI dX6_readAll_41 fpX6_96 (Nat.le_of_ble_eq_true rfl) rfl rfl ?_
        refine j_iload_n dX6_readAll_44 rfl ?_
        refine j_bipush (v := nI 110) dX6_readAll_45 (by decide +kernel) ?_
        refine j_icmp_ne (tgt := 60) dX6_readAll_47 (by decide) (fun c47 => ?_) (fun c47 => ?_)
        · refine j_iload_n dX6_readAll_60 rfl ?_
          refine j_bipush (v := nI 101) dX6_readAll_61 (by decide +kernel) ?_
          refine j_icmp_ne (tgt := 73) dX6_readAll_63 (by decide) (fun c63 => ?_) (fun c63 => ?_)
          · have hfin : rd_text (cL L) L.1 = .inl sp := by rw [← hspec, rd_all_no f (by omega) (rd_item_no (by rw [← hr30]; exact c47) (by rw [← hr30]; exact c63))]
            refine j_iload_n dX6_readAll_73 rfl ?_
            exact j_iret dX6_readAll_74 rfl rfl ⟨_, _, _, rfl, hM, Or.inl ⟨sp, hfin, rfl, by omega⟩⟩
          · refine j_aload_n dX6_readAll_66 rfl ?_
            refine j_callV (y' := mX6_tieItem) (As := []) (st := []) dX6_readAll_67 lkX6_125 okX6_tieItem imX6_tieItem seX6_tieItem (Nat.le_of_ble_eq_true rfl) rfl rfl rfl rfl (Nat.le_of_ble_eq_true rfl) (Nat.le_of_ble_eq_true rfl) (m_tieItem z _ _ _ _ _ _ _ _ (sp + 1) (by omega) _ _ (mj_u F 0 12 (nI (sp + 1))) A hM rfl hrow hrm) (fun v67 F67 A67 hq67 => ?_)
            obtain ⟨r67, s67, rn67, rm67, rfl, hM, e12_67, hn67, hE67⟩ := hq67
            refine j_if_neN (tgt := 75) dX6_readAll_70 (by decide) (by omega) (fun c70 => ?_) (fun c70 => ?_)
            · obtain ⟨-, mmr67, row67, hi67, hrow67, hrm67⟩ := hE67.resolve_right (fun h => by omega)
              rw [← rd_item_e (hr30.symm.trans c63)] at hi67
              refine j_goto (tgt := 9) dX6_readAll_75 (by decide) ?_
              refine j_sub [0] rfl ?_
              exact ih9 s67 rn67 rm67 mmr67 row67 f F67 A67 (by first | exact hM | omega) (by first | exact e12_67 | omega) (by first | exact h1 | omega) hrow67 hrm67 (by rw [← hspec, rd_all_s f (by omega) hi67]) (by omega)
            · have hfin : rd_text (cL L) L.1 = .inl sp := by rw [← hspec, rd_all_no f (by omega) (by rw [rd_item_e (hr30.symm.trans c63)]; exact (hE67.resolve_left (fun h => by omega)).2)]
              refine j_iload_n dX6_readAll_73 rfl ?_
              exact j_iret dX6_readAll_74 rfl rfl ⟨_, _, _, rfl, hM, Or.inl ⟨sp, hfin, rfl, by omega⟩⟩
        · refine j_aload_n dX6_readAll_50 rfl ?_
          refine j_callV (y' := mX6_nodeItem) (As := []) (st := []) dX6_readAll_51 lkX6_122 okX6_nodeItem imX6_nodeItem seX6_nodeItem (Nat.le_of_ble_eq_true rfl) rfl rfl rfl rfl (Nat.le_of_ble_eq_true rfl) (Nat.le_of_ble_eq_true rfl) (m_nodeItem z _ _ _ _ _ _ _ _ (sp + 1) (by omega) _ _ (mj_u F 0 12 (nI (sp + 1))) A hM rfl hrow hrm) (fun v51 F51 A51 hq51 => ?_)
          obtain ⟨r51, s51, rn51, rm51, rfl, hM, e12_51, hn51, hE51⟩ := hq51
          refine j_if_neN (tgt := 75) dX6_readAll_54 (by decide) (by omega) (fun c54 => ?_) (fun c54 => ?_)
          · obtain ⟨-, mmr51, row51, hi51, hrow51, hrm51⟩ := hE51.resolve_right (fun h => by omega)
            rw [← rd_item_n (hr30.symm.trans c47)] at hi51
            refine j_goto (tgt := 9) dX6_readAll_75 (by decide) ?_
            refine j_sub [0] rfl ?_
            exact ih9 s51 rn51 rm51 mmr51 row51 f F51 A51 (by first | exact hM | omega) (by first | exact e12_51 | omega) (by first | exact h1 | omega) hrow51 hrm51 (by rw [← hspec, rd_all_s f (by omega) hi51]) (by omega)
          · have hfin : rd_text (cL L) L.1 = .inl sp := by rw [← hspec, rd_all_no f (by omega) (by rw [rd_item_n (hr30.symm.trans c47)]; exact (hE51.resolve_left (fun h => by omega)).2)]
            refine j_goto (tgt := 73) dX6_readAll_57 (by decide) ?_
            refine j_iload_n dX6_readAll_73 rfl ?_
            exact j_iret dX6_readAll_74 rfl rfl ⟨_, _, _, rfl, hM, Or.inl ⟨sp, hfin, rfl, by omega⟩⟩
  refine j_aload_n dX6_readAll_0 rfl ?_
  refine j_callV (y' := mX6_readNone) (As := []) (st := []) dX6_readAll_1 lkX6_61 okX6_readNone imX6_readNone seX6_readNone (Nat.le_of_ble_eq_true rfl) rfl rfl rfl rfl (Nat.le_of_ble_eq_true rfl) (Nat.le_of_ble_eq_true rfl) (m_readNone z _ _ _ _ _ _ _ _ F A hM) (fun v1 F1 A1 hq1 => ?_)
  obtain ⟨rfl, hM, hz1⟩ := hq1
  refine j_aload_n dX6_readAll_4 rfl ?_
  refine j_iconst (v := nI 0) dX6_readAll_5 (by decide +kernel) ?_
  refine j_putI dX6_readAll_6 fpX6_96 (Nat.le_of_ble_eq_true rfl) rfl rfl ?_
  exact L9 _ 0 0 rm (fun _ => 0) (fun _ => 0) 201 (mj_u F1 0 12 (nI 0)) A1 (by first | exact hM | omega) rfl (by first | exact h1 | omega) hz1 (fun j hj => absurd hj (by omega)) rfl (Nat.lt_succ_self _)

set_option maxHeartbeats 400000 in
set_option maxRecDepth 100000 in
theorem m_fault (z : mj_B) (d : Nat) (L : Lg) (n : Nat) (mm : Nat → Nat) (rn : Nat) (rm : Nat → Nat) (un kn : Nat) (F A : mj_S) (hM : MI L n mm rn rm un kn F A) : J (gM z) mX6_fault (d + 4) 0 [(0, .ref 0)] [] F A (fun v F' A' => ∃ (x : Int32) (rn' : Nat) (rm' : Nat → Nat), v = some (.int x) ∧ MI L n mm rn' rm' un kn F' A' ∧ ((∃ b, rd_text (cL L) L.1 = .inl b ∧ x = nI b ∧ b ≤ 200) ∨ (x = (-4) ∧ ∃ mmr row, rd_text (cL L) L.1 = .inr (rn', mmr, row) ∧ (∀ j, j < 500 → A' 4 j = row j) ∧ ∀ j, j < rn' → rm' j = mmr j))) := by
  have hM0 := hM.1.2.1
  have hM1 := hM.2.1.2.1
  have hM2 := hM.2.2.1.2.1
  have hM3 := hM.2.2.2.1.2
  have hM4 := hM.2.2.2.2.1.2
  refine j_aload_n dX6_fault_0 rfl ?_
  refine j_callV (y' := mX6_readAll) (As := []) (st := []) dX6_fault_1 lkX6_128 okX6_readAll imX6_readAll seX6_readAll (Nat.le_of_ble_eq_true rfl) rfl rfl rfl rfl (Nat.le_of_ble_eq_true rfl) (Nat.le_of_ble_eq_true rfl) (m_readAll z _ _ _ _ _ _ _ _ F A hM) (fun v1 F1 A1 hq1 => ?_)
  obtain ⟨x1, rn1, rm1, rfl, hM, hE1⟩ := hq1
  exact j_iret dX6_fault_4 rfl rfl ⟨_, _, _, rfl, hM, hE1⟩

def rd_no (c : Nat → Int32) (L : Nat) : Prop := (∃ b, rd_text c L = .inl b) ∨ ∃ mmr row, rd_text c L = .inr (0, mmr, row)
theorem MI.beg {L : Lg} {n : Nat} {mm : Nat → Nat} {rn : Nat} {rm : Nat → Nat} {un kn : Nat} {F A : mj_S} (h : MI L n mm rn rm un kn F A) {F' A' : mj_S} (h1 : F' 0 0 = F 0 0) (h2 : F' 0 2 = nI rn) (h3 : F' 0 4 = nI rn) (h4 : F' 0 9 = nI 0) (h5 : F' 0 11 = nI 0) (h6 : A' 3 = A 3) (h7 : ∀ j, j < 8 → A' 2 j = nI (rm j)) (h8 : A' 14 = A 14 ∧ A' 16 = A 16 ∧ A' 10 = A 10 ∧ A' 11 = A 11 ∧ A' 13 = A 13) : MI (L.1, A') rn rm rn rm 0 0 F' A' :=
  ⟨⟨h1.trans h.1.1, h.1.2.1, rfl, rfl, rfl, rfl, rfl⟩, ⟨h2, h.2.2.1.2.1, h7, h.2.2.1.2.2.2.1, h.2.2.1.2.2.2.2⟩, ⟨h3, h.2.2.1.2.1, fun j hj => by rw [h6]; exact h.2.2.1.2.2.1 j hj, h.2.2.1.2.2.2.1, h.2.2.1.2.2.2.2⟩, ⟨h4, by omega⟩, ⟨h5, by omega⟩, by rw [h8.1, h8.2.1, h8.2.2.1, h8.2.2.2.1, h8.2.2.2.2]; exact h.2.2.2.2.2⟩
theorem mj_cp {A : mj_S} {b k j : Nat} {f : Nat → Int32} (h : ∀ j, j < k → A b j = f j) {x : Int32} (hx : x = f k) (hj : j < k + 1) : mj_u A b k x b j = f j := by
  rw [mj_u_at]
  by_cases e : j = k
  · simp [upd, e]; exact hx
  · simp [upd, e]; exact h j (by omega)

set_option maxHeartbeats 400000 in
set_option maxRecDepth 100000 in
theorem m_begin (z : mj_B) (d : Nat) (L : Lg) (n : Nat) (mm : Nat → Nat) (rn : Nat) (rm : Nat → Nat) (un kn : Nat) (F A : mj_S) (hM : MI L n mm rn rm un kn F A) : J (gM z) mX6_begin d 0 [(0, .ref 0)] [] F A (fun v F' A' => v = none ∧ MI (L.1, A') rn rm rn rm 0 0 F' A' ∧ F' 0 12 = F 0 12 ∧ A' 1 = A 1 ∧ ∀ j, j < 500 → A' 5 j = A 4 j) := by
  have hM0 := hM.1.2.1
  have hM1 := hM.2.1.2.1
  have hM2 := hM.2.2.1.2.1
  have hM3 := hM.2.2.2.1.2
  have hM4 := hM.2.2.2.2.1.2
  have L36 : ∀ (fuel : Nat) (k : Nat) (F1 A1 : mj_S), (F1 0 0 = F 0 0 ∧ F1 0 2 = nI rn ∧ F1 0 4 = nI rn ∧ F1 0 12 = F 0 12 ∧ A1 3 = A 3 ∧ A1 14 = A 14 ∧ A1 4 = A 4 ∧ A1 14 = A 14 ∧ A1 16 = A 16 ∧ A1 10 = A 10 ∧ A1 11 = A 11 ∧ A1 13 = A 13) → (A1 1 = A 1) → (∀ j, j < 8 → A1 2 j = nI (rm j)) → (∀ j, j < k → A1 5 j = A 4 j) → (k ≤ 500) → 500 - k < fuel → J (gM z) mX6_begin d 36 [(0, .ref 0), (1, .int (nI k))] [] F1 A1 (fun v F' A' => v = none ∧ MI (L.1, A') rn rm rn rm 0 0 F' A' ∧ F' 0 12 = F 0 12 ∧ A' 1 = A 1 ∧ ∀ j, j < 500 → A' 5 j = A 4 j) := by
    intro fuel
    induction fuel with
    | zero => intro k F1 A1 hc hc0 hd2 he hk hf; exact absurd hf (by omega)
    | succ fuel ih36 =>
      intro k F1 A1 hc hc0 hd2 he hk hf
      refine j_iload_n dX6_begin_36 rfl ?_
      refine j_sipush (v := nI 500) dX6_begin_37 (by decide +kernel) ?_
      refine j_icmp_geN (tgt := 61) dX6_begin_40 (by decide) (by omega) (by omega) (fun c40 => ?_) (fun c40 => ?_)
      · refine j_aload_n dX6_begin_61 rfl ?_
        refine j_iconst (v := nI 0) dX6_begin_62 (by decide +kernel) ?_
        refine j_putI dX6_begin_63 fpX6_135 (Nat.le_of_ble_eq_true rfl) rfl rfl ?_
        refine j_aload_n dX6_begin_66 rfl ?_
        refine j_iconst (v := nI 0) dX6_begin_67 (by decide +kernel) ?_
        refine j_putI dX6_begin_68 fpX6_138 (Nat.le_of_ble_eq_true rfl) rfl rfl ?_
        exact j_vret dX6_begin_71 rfl ⟨rfl, hM.beg hc.1 hc.2.1 hc.2.2.1 rfl rfl hc.2.2.2.2.1 hd2 hc.2.2.2.2.2.2.2, hc.2.2.2.1, hc0, fun j hj => he j (by omega)⟩
      · refine j_aload_n dX6_begin_43 rfl ?_
        refine j_getR (r := 5) dX6_begin_44 flX6_22 (Nat.le_of_ble_eq_true rfl) rfl rfl ?_
        refine j_iload_n dX6_begin_47 rfl ?_
        refine j_aload_n dX6_begin_48 rfl ?_
        refine j_getR (r := 4) dX6_begin_49 flX6_19 (Nat.le_of_ble_eq_true rfl) rfl rfl ?_
        refine j_iload_n dX6_begin_52 rfl ?_
        refine j_ialdN dX6_begin_53 (Nat.le_of_ble_eq_true rfl) rfl (by omega) (by decide) ?_
        refine j_iastN dX6_begin_54 (Nat.le_of_ble_eq_true rfl) rfl (by omega) (by decide) ?_
        refine j_iinc (v := nI (k + 1)) (lv' := [(0, .ref 0), (1, .int (nI (k + 1)))]) dX6_begin_55 rfl (nI_add _ 1) (Nat.le_of_ble_eq_true rfl) rfl rfl ?_
        refine j_goto (tgt := 36) dX6_begin_58 (by decide) ?_
        exact ih36 (k + 1) F1 (mj_u A1 5 k (A1 4 k)) (by first | exact hc | omega) (by first | exact hc0 | omega) (by first | exact hd2 | omega) (fun j hj => mj_cp (A := A1) (b := 5) (f := A 4) he (congrFun hc.2.2.2.2.2.2.1 k) hj) (by first | exact hk | omega) (by omega)
  have L10 : ∀ (fuel : Nat) (k : Nat) (F1 A1 : mj_S), (F1 0 0 = F 0 0 ∧ F1 0 2 = nI rn ∧ F1 0 4 = nI rn ∧ F1 0 12 = F 0 12 ∧ A1 3 = A 3 ∧ A1 14 = A 14 ∧ A1 4 = A 4 ∧ A1 14 = A 14 ∧ A1 16 = A 16 ∧ A1 10 = A 10 ∧ A1 11 = A 11 ∧ A1 13 = A 13) → (A1 1 = A 1) → (∀ j, j < k → A1 2 j = nI (rm j)) → (k ≤ 8) → 8 - k < fuel → J (gM z) mX6_begin d 10 [(0, .ref 0), (1, .int (nI k))] [] F1 A1 (fun v F' A' => v = none ∧ MI (L.1, A') rn rm rn rm 0 0 F' A' ∧ F' 0 12 = F 0 12 ∧ A' 1 = A 1 ∧ ∀ j, j < 500 → A' 5 j = A 4 j) := by
    intro fuel
    induction fuel with
    | zero => intro k F1 A1 hc hc0 hd2 hk hf; exact absurd hf (by omega)
    | succ fuel ih10 =>
      intro k F1 A1 hc hc0 hd2 hk hf
      refine j_iload_n dX6_begin_10 rfl ?_
      refine j_bipush (v := nI 8) dX6_begin_11 (by decide +kernel) ?_
      refine j_icmp_geN (tgt := 34) dX6_begin_13 (by decide) (by omega) (by omega) (fun c13 => ?_) (fun c13 => ?_)
      · refine j_iconst (v := nI 0) dX6_begin_34 (by decide +kernel) ?_
        refine j_istore_n (lv' := [(0, .ref 0), (1, .int (nI 0))]) dX6_begin_35 (Nat.le_of_ble_eq_true rfl) rfl rfl ?_
        exact L36 _ 0 F1 A1 (by first | exact hc | omega) (by first | exact hc0 | omega) (fun j hj => hd2 j (by omega)) (fun j hj => absurd hj (by omega)) (by first | exact hk | omega) (Nat.lt_succ_self _)
      · refine j_aload_n dX6_begin_16 rfl ?_
        refine j_getR (r := 2) dX6_begin_17 flX6_13 (Nat.le_of_ble_eq_true rfl) rfl rfl ?_
        refine j_iload_n dX6_begin_20 rfl ?_
        refine j_aload_n dX6_begin_21 rfl ?_
        refine j_getR (r := 3) dX6_begin_22 flX6_16 (Nat.le_of_ble_eq_true rfl) rfl rfl ?_
        refine j_iload_n dX6_begin_25 rfl ?_
        refine j_ialdN dX6_begin_26 (Nat.le_of_ble_eq_true rfl) rfl (by omega) (by decide) ?_
        refine j_iastN dX6_begin_27 (Nat.le_of_ble_eq_true rfl) rfl (by omega) (by decide) ?_
        refine j_iinc (v := nI (k + 1)) (lv' := [(0, .ref 0), (1, .int (nI (k + 1)))]) dX6_begin_28 rfl (nI_add _ 1) (Nat.le_of_ble_eq_true rfl) rfl rfl ?_
        refine j_goto (tgt := 10) dX6_begin_31 (by decide) ?_
        exact ih10 (k + 1) F1 (mj_u A1 2 k (A1 3 k)) (by first | exact hc | omega) (by first | exact hc0 | omega) (fun j hj => mj_cp (A := A1) (b := 2) (f := fun j => nI (rm j)) hd2 ((congrFun hc.2.2.2.2.1 k).trans (hM.2.2.1.2.2.1 k (by omega))) hj) (by first | exact hk | omega) (by omega)
  refine j_aload_n dX6_begin_0 rfl ?_
  refine j_aload_n dX6_begin_1 rfl ?_
  refine j_getI dX6_begin_2 flX6_77 (Nat.le_of_ble_eq_true rfl) rfl rfl ?_
  refine j_top (y0 := nI rn) hM.2.2.1.1 ?_
  refine j_putI dX6_begin_5 fpX6_132 (Nat.le_of_ble_eq_true rfl) rfl rfl ?_
  refine j_iconst (v := nI 0) dX6_begin_8 (by decide +kernel) ?_
  refine j_istore_n (lv' := [(0, .ref 0), (1, .int (nI 0))]) dX6_begin_9 (Nat.le_of_ble_eq_true rfl) rfl rfl ?_
  exact L10 _ 0 (mj_u F 0 2 (nI rn)) A ⟨rfl, rfl, hM.2.2.1.1, rfl, rfl, rfl, rfl, rfl, rfl, rfl, rfl, rfl⟩ rfl (fun j hj => absurd hj (by omega)) (by first | exact hk | omega) (Nat.lt_succ_self _)

theorem nI_m4 {b : Nat} (hb : b ≤ 200) (h : nI b = (-4)) : False := by
  have := congrArg Int32.toInt h
  rw [nI_toInt (by omega), show ((-4 : Int32)).toInt = -4 from by decide +kernel] at this
  omega

set_option maxHeartbeats 400000 in
set_option maxRecDepth 100000 in
theorem m_lay (z : mj_B) (d : Nat) (L : Lg) (n : Nat) (mm : Nat → Nat) (rn : Nat) (rm : Nat → Nat) (un kn : Nat) (F A : mj_S) (hM : MI L n mm rn rm un kn F A) : J (gM z) mX6_lay (d + 4) 0 [(0, .ref 0)] [] F A (fun v F' A' => ∃ (x : Int32) (L' : Lg) (n' : Nat) (mm' : Nat → Nat) (rn' : Nat) (rm' : Nat → Nat) (un' kn' : Nat), v = some (.int x) ∧ MI L' n' mm' rn' rm' un' kn' F' A' ∧ ((x = (-2) ∧ L' = L ∧ n' = n ∧ mm' = mm ∧ un' = un ∧ kn' = kn ∧ rd_no (cL L) L.1) ∨ (x = nI n' ∧ L'.1 = L.1 ∧ L'.2 1 = L.2 1 ∧ un' = 0 ∧ kn' = 0 ∧ ∃ mmr row, rd_text (cL L) L.1 = .inr (n', mmr, row) ∧ 0 < n' ∧ (∀ j, j < 500 → L'.2 5 j = row j) ∧ ∀ j, j < n' → mm' j = mmr j))) := by
  have hM0 := hM.1.2.1
  have hM1 := hM.2.1.2.1
  have hM2 := hM.2.2.1.2.1
  have hM3 := hM.2.2.2.1.2
  have hM4 := hM.2.2.2.2.1.2
  refine j_aload_n dX6_lay_0 rfl ?_
  refine j_callV (y' := mX6_readAll) (As := []) (st := []) dX6_lay_1 lkX6_128 okX6_readAll imX6_readAll seX6_readAll (Nat.le_of_ble_eq_true rfl) rfl rfl rfl rfl (Nat.le_of_ble_eq_true rfl) (Nat.le_of_ble_eq_true rfl) (m_readAll z _ _ _ _ _ _ _ _ F A hM) (fun v1 F1 A1 hq1 => ?_)
  obtain ⟨x1, rn1, rm1, rfl, hM, hE1⟩ := hq1
  have hM2 := hM.2.2.1.2.1
  refine j_bipush (v := (-4)) dX6_lay_4 (by decide +kernel) ?_
  refine j_icmp_ne (tgt := 16) dX6_lay_6 (by decide) (fun c6 => ?_) (fun c6 => ?_)
  · have hno : rd_no (cL L) L.1 := by
      rcases hE1 with ⟨b, h, -⟩ | ⟨h, -⟩
      · exact Or.inl ⟨b, h⟩
      · exact absurd h c6
    refine j_bipush (v := (-2)) dX6_lay_16 (by decide +kernel) ?_
    exact j_iret dX6_lay_18 rfl rfl ⟨_, _, _, _, _, _, _, _, rfl, hM, Or.inl ⟨rfl, rfl, rfl, rfl, rfl, rfl, hno⟩⟩
  · obtain ⟨-, mmr, row, hT, hrow, hrm⟩ := hE1.resolve_left (fun ⟨b, _, h, hb⟩ => by rw [h] at c6; exact nI_m4 hb c6)
    refine j_aload_n dX6_lay_9 rfl ?_
    refine j_getI dX6_lay_10 flX6_77 (Nat.le_of_ble_eq_true rfl) rfl rfl ?_
    refine j_top (y0 := nI rn1) hM.2.2.1.1 ?_
    refine j_if_neN (tgt := 19) dX6_lay_13 (by decide) (by omega) (fun c13 => ?_) (fun c13 => ?_)
    · refine j_aload_n dX6_lay_19 rfl ?_
      refine j_callV (y' := mX6_begin) (As := []) (st := []) dX6_lay_20 lkX6_74 okX6_begin imX6_begin seX6_begin (Nat.le_of_ble_eq_true rfl) rfl rfl rfl rfl (Nat.le_of_ble_eq_true rfl) (Nat.le_of_ble_eq_true rfl) (m_begin z _ _ _ _ _ _ _ _ F1 A1 hM) (fun v20 F20 A20 hq20 => ?_)
      have hM9 := hM
      obtain ⟨rfl, hM, -, ht20, hn20⟩ := hq20
      refine j_aload_n dX6_lay_23 rfl ?_
      refine j_getI dX6_lay_24 flX6_132 (Nat.le_of_ble_eq_true rfl) rfl rfl ?_
      refine j_top (y0 := nI rn1) hM.2.1.1 ?_
      exact j_iret dX6_lay_27 rfl rfl ⟨_, _, _, _, _, _, _, _, rfl, hM, Or.inr ⟨rfl, rfl, ht20.trans hM9.1.2.2.1, rfl, rfl, mmr, row, hT, c13, fun j hj => (hn20 j hj).trans (hrow j hj), hrm⟩⟩
    · subst c13
      have hno : rd_no (cL L) L.1 := Or.inr ⟨mmr, row, hT⟩
      refine j_bipush (v := (-2)) dX6_lay_16 (by decide +kernel) ?_
      exact j_iret dX6_lay_18 rfl rfl ⟨_, _, _, _, _, _, _, _, rfl, hM, Or.inl ⟨rfl, rfl, rfl, rfl, rfl, rfl, hno⟩⟩

set_option maxHeartbeats 400000 in
set_option maxRecDepth 100000 in
theorem m_nodeIs (z : mj_B) (d : Nat) (L : Lg) (n : Nat) (mm : Nat → Nat) (rn : Nat) (rm : Nat → Nat) (un kn : Nat) (kd a b c : Int32) (q : Nat) (hq1 : 1 ≤ q) (hq4 : q ≤ 4) (hr8 : rn < 8) (F A : mj_S) (hM : MI L n mm rn rm un kn F A) : J (gM z) mX6_nodeIs d 0 [(0, .ref 0), (1, .int kd), (2, .int (nI q)), (3, .int a), (4, .int b), (5, .int c)] [] F A (fun v F' A' => v = none ∧ MI L n mm (rn + 1) (fun j => if j = rn then q else rm j) un kn F' A' ∧ A' 4 = upd (upd (upd (upd (A 4) (4 * rn) a) (4 * rn + 1) b) (4 * rn + 2) c) (32 + rn) kd) := by
  have hM0 := hM.1.2.1
  have hM1 := hM.2.1.2.1
  have hM2 := hM.2.2.1.2.1
  have hM3 := hM.2.2.2.1.2
  have hM4 := hM.2.2.2.2.1.2
  refine j_iconst (v := nI 4) dX6_nodeIs_0 (by decide +kernel) ?_
  refine j_aload_n dX6_nodeIs_1 rfl ?_
  refine j_getI dX6_nodeIs_2 flX6_77 (Nat.le_of_ble_eq_true rfl) rfl rfl ?_
  refine j_top (y0 := nI rn) hM.2.2.1.1 ?_
  refine j_imulN dX6_nodeIs_5 ?_
  refine j_istore (lv' := [(0, .ref 0), (1, .int kd), (2, .int (nI q)), (3, .int a), (4, .int b), (5, .int c), (6, .int (nI (4 * rn)))]) dX6_nodeIs_6 (Nat.le_of_ble_eq_true rfl) rfl rfl ?_
  refine j_aload_n dX6_nodeIs_8 rfl ?_
  refine j_getR (r := 4) dX6_nodeIs_9 flX6_19 (Nat.le_of_ble_eq_true rfl) rfl rfl ?_
  refine j_iload dX6_nodeIs_12 rfl ?_
  refine j_iload_n dX6_nodeIs_14 rfl ?_
  refine j_iastN dX6_nodeIs_15 (Nat.le_of_ble_eq_true rfl) rfl (by omega) (by decide) ?_
  refine j_aload_n dX6_nodeIs_16 rfl ?_
  refine j_getR (r := 4) dX6_nodeIs_17 flX6_19 (Nat.le_of_ble_eq_true rfl) rfl rfl ?_
  refine j_iload dX6_nodeIs_20 rfl ?_
  refine j_iconst (v := nI 1) dX6_nodeIs_22 (by decide +kernel) ?_
  refine j_iaddN dX6_nodeIs_23 ?_
  refine j_iload dX6_nodeIs_24 rfl ?_
  refine j_iastN dX6_nodeIs_26 (Nat.le_of_ble_eq_true rfl) rfl (by omega) (by decide) ?_
  refine j_aload_n dX6_nodeIs_27 rfl ?_
  refine j_getR (r := 4) dX6_nodeIs_28 flX6_19 (Nat.le_of_ble_eq_true rfl) rfl rfl ?_
  refine j_iload dX6_nodeIs_31 rfl ?_
  refine j_iconst (v := nI 2) dX6_nodeIs_33 (by decide +kernel) ?_
  refine j_iaddN dX6_nodeIs_34 ?_
  refine j_iload dX6_nodeIs_35 rfl ?_
  refine j_iastN dX6_nodeIs_37 (Nat.le_of_ble_eq_true rfl) rfl (by omega) (by decide) ?_
  refine j_aload_n dX6_nodeIs_38 rfl ?_
  refine j_getR (r := 4) dX6_nodeIs_39 flX6_19 (Nat.le_of_ble_eq_true rfl) rfl rfl ?_
  refine j_bipush (v := nI 32) dX6_nodeIs_42 (by decide +kernel) ?_
  refine j_aload_n dX6_nodeIs_44 rfl ?_
  refine j_getI dX6_nodeIs_45 flX6_77 (Nat.le_of_ble_eq_true rfl) rfl rfl ?_
  refine j_top (y0 := nI rn) hM.2.2.1.1 ?_
  refine j_iaddN dX6_nodeIs_48 ?_
  refine j_iload_n dX6_nodeIs_49 rfl ?_
  refine j_iastN dX6_nodeIs_50 (Nat.le_of_ble_eq_true rfl) rfl (by omega) (by decide) ?_
  refine j_aload_n dX6_nodeIs_51 rfl ?_
  refine j_getR (r := 3) dX6_nodeIs_52 flX6_16 (Nat.le_of_ble_eq_true rfl) rfl rfl ?_
  refine j_aload_n dX6_nodeIs_55 rfl ?_
  refine j_getI dX6_nodeIs_56 flX6_77 (Nat.le_of_ble_eq_true rfl) rfl rfl ?_
  refine j_top (y0 := nI rn) hM.2.2.1.1 ?_
  refine j_iload_n dX6_nodeIs_59 rfl ?_
  refine j_iastN dX6_nodeIs_60 (Nat.le_of_ble_eq_true rfl) rfl (by omega) (by decide) ?_
  refine j_aload_n dX6_nodeIs_61 rfl ?_
  refine j_dup dX6_nodeIs_62 rfl ?_
  refine j_getI dX6_nodeIs_63 flX6_77 (Nat.le_of_ble_eq_true rfl) rfl rfl ?_
  refine j_top (y0 := nI rn) hM.2.2.1.1 ?_
  refine j_iconst (v := nI 1) dX6_nodeIs_66 (by decide +kernel) ?_
  refine j_iaddN dX6_nodeIs_67 ?_
  refine j_putI dX6_nodeIs_68 fpX6_77 (Nat.le_of_ble_eq_true rfl) rfl rfl ?_
  have hM := hM.node (c := q) (by omega) (by omega) (by omega)
  exact j_vret dX6_nodeIs_71 rfl ⟨rfl, hM, rfl⟩

/-- a table by figures, the last one lowest -/
def tbR (rm : Nat → Nat) (u v : Nat) : Nat → Nat → (Nat → Int32) → Nat → Int32
  | 0, _, row => row
  | k + 1, f, row => tbR rm u v k (f / 10) (upd row (eA u v (k / rm v) (k % rm v)) (nI (1 + f % 10)))
theorem tbR_s (rm : Nat → Nat) (u v : Nat) {k : Nat} (hk : 0 < k) (f : Nat) (row : Nat → Int32) : tbR rm u v k f row = tbR rm u v (k - 1) (f / 10) (upd row (eA u v ((k - 1) / rm v) ((k - 1) % rm v)) (nI (1 + f % 10))) := by
  obtain ⟨q, rfl⟩ : ∃ q, k = q + 1 := ⟨k - 1, by omega⟩
  rfl

set_option maxHeartbeats 400000 in
set_option maxRecDepth 100000 in
theorem m_tableIs (z : mj_B) (d : Nat) (L : Lg) (n : Nat) (mm : Nat → Nat) (rn : Nat) (rm : Nat → Nat) (un kn : Nat) (u v fg : Nat) (hfg : fg ≤ 2147483647) (huv : u < v) (hv : v < rn) (F A0 : mj_S) (hM : MI L n mm rn rm un kn F A0) : J (gM z) mX6_tableIs (d + 1) 0 [(0, .ref 0), (1, .int (nI u)), (2, .int (nI v)), (3, .int (nI fg))] [] F A0 (fun w F' A' => w = none ∧ MI L n mm rn rm un kn F' A' ∧ A' 4 = tbR rm u v (rm u * rm v) fg (A0 4)) := by
  have hM0 := hM.1.2.1
  have hM1 := hM.2.1.2.1
  have hM2 := hM.2.2.1.2.1
  have hM3 := hM.2.2.2.1.2
  have hM4 := hM.2.2.2.2.1.2
  have L20 : ∀ (fuel : Nat) (le : Nat) (x : Int32) (kk : Nat) (F A : mj_S), (MI L n mm rn rm un kn F A) → (x + 1 = nI kk) → (kk ≤ rm u * rm v ∧ u < v ∧ v < rn ∧ le ≤ 2147483647) → (tbR rm u v kk le (A 4) = tbR rm u v (rm u * rm v) fg (A0 4)) → kk < fuel → J (gM z) mX6_tableIs (d + 1) 20 [(0, .ref 0), (1, .int (nI u)), (2, .int (nI v)), (4, .int (nI le)), (5, .int x)] [] F A (fun w F' A' => w = none ∧ MI L n mm rn rm un kn F' A' ∧ A' 4 = tbR rm u v (rm u * rm v) fg (A0 4)) := by
    intro fuel
    induction fuel with
    | zero => intro le x kk F A hM hx h1 hsp hf; exact absurd hf (by omega)
    | succ fuel ih20 =>
      intro le x kk F A hM hx h1 hsp hf
      have h1u := hM.2.2.1.2.2.2.2 u (by omega)
      have h1v := hM.2.2.1.2.2.2.2 v (by omega)
      have h4u := hM.2.2.1.2.2.2.1 u
      have h4v := hM.2.2.1.2.2.2.1 v
      have hp : 1 ≤ rm u * rm v := Nat.mul_le_mul h1u h1v
      have hp16 : rm u * rm v ≤ 16 := Nat.mul_le_mul h4u h4v
      refine j_iload dX6_tableIs_20 rfl ?_
      refine j_if_lt (tgt := 73) dX6_tableIs_22 (by decide) (fun c22 => ?_) (fun c22 => ?_)
      · have hk0 : kk = 0 := Classical.byContradiction fun e => by
          obtain rfl : x = nI (kk - 1) := dn1 hx (by omega)
          exact absurd c22 (Int32.not_lt.mpr (nI_pos' (by omega)))
        exact j_vret dX6_tableIs_73 rfl ⟨rfl, hM, by rw [← hsp, show kk = 0 from hk0]; rfl⟩
      · have hk0 : 0 < kk := Nat.pos_of_ne_zero (fun e => by rw [e] at hx; exact c22 (dn0 hx))
        obtain rfl : x = nI (kk - 1) := dn1 hx hk0
        have hd1 : (kk - 1) / rm v < rm u := Nat.div_lt_of_lt_mul (by rw [Nat.mul_comm]; omega)
        have hd2 : (kk - 1) % rm v < rm v := Nat.mod_lt _ (by omega)
        refine j_aload_n dX6_tableIs_25 rfl ?_
        refine j_getR (r := 4) dX6_tableIs_26 flX6_19 (Nat.le_of_ble_eq_true rfl) rfl rfl ?_
        refine j_iload_n dX6_tableIs_29 rfl ?_
        refine j_iload_n dX6_tableIs_30 rfl ?_
        refine j_iload dX6_tableIs_31 rfl ?_
        refine j_aload_n dX6_tableIs_33 rfl ?_
        refine j_getR (r := 3) dX6_tableIs_34 flX6_16 (Nat.le_of_ble_eq_true rfl) rfl rfl ?_
        refine j_iload_n dX6_tableIs_37 rfl ?_
        refine j_ialdN dX6_tableIs_38 (Nat.le_of_ble_eq_true rfl) rfl (by omega) (by decide) ?_
        refine j_top (y0 := nI (rm v)) (hM.2.2.1.2.2.1 _ (by omega)) ?_
        refine j_idivN dX6_tableIs_39 (by omega) (by omega) (by omega) ?_
        refine j_iload dX6_tableIs_40 rfl ?_
        refine j_aload_n dX6_tableIs_42 rfl ?_
        refine j_getR (r := 3) dX6_tableIs_43 flX6_16 (Nat.le_of_ble_eq_true rfl) rfl rfl ?_
        refine j_iload_n dX6_tableIs_46 rfl ?_
        refine j_ialdN dX6_tableIs_47 (Nat.le_of_ble_eq_true rfl) rfl (by omega) (by decide) ?_
        refine j_top (y0 := nI (rm v)) (hM.2.2.1.2.2.1 _ (by omega)) ?_
        refine j_iremN dX6_tableIs_48 (by omega) (by omega) (by omega) ?_
        refine j_callS (y' := mX6_entryAt) (As := [.int (nI u), .int (nI v), .int (nI ((kk - 1) / (rm v))), .int (nI ((kk - 1) % (rm v)))]) (st := [.ref 4]) dX6_tableIs_49 lkX6_81 okX6_entryAt stX6_entryAt rfl (Nat.le_of_ble_eq_true rfl) (Nat.le_of_ble_eq_true rfl) (m_entryAt z _ u v ((kk - 1) / (rm v)) ((kk - 1) % (rm v)) (by omega) (by omega) (by omega) (by omega) (by omega) F A) (fun v49 F49 A49 hq49 => ?_)
        obtain ⟨rfl, rfl, e49, rfl, he49⟩ := hq49
        have hl49 : e49 < 500 := by rw [he49]; exact eA_lt (by omega) (by omega) (by omega) (by omega) (by omega)
        refine j_iconst (v := nI 1) dX6_tableIs_52 (by decide +kernel) ?_
        refine j_iload dX6_tableIs_53 rfl ?_
        refine j_bipush (v := nI 10) dX6_tableIs_55 (by decide +kernel) ?_
        refine j_iremN dX6_tableIs_57 (by omega) (by omega) (by omega) ?_
        refine j_iaddN dX6_tableIs_58 ?_
        refine j_iastN dX6_tableIs_59 (Nat.le_of_ble_eq_true rfl) rfl (by omega) (by decide) ?_
        refine j_iload dX6_tableIs_60 rfl ?_
        refine j_bipush (v := nI 10) dX6_tableIs_62 (by decide +kernel) ?_
        refine j_idivN dX6_tableIs_64 (by omega) (by omega) (by omega) ?_
        refine j_istore (lv' := [(0, .ref 0), (1, .int (nI u)), (2, .int (nI v)), (4, .int (nI (le / 10))), (5, .int (nI (kk - 1)))]) dX6_tableIs_65 (Nat.le_of_ble_eq_true rfl) rfl rfl ?_
        refine j_iinc (v := nI (kk - 1) + Int32.ofInt (-1)) (lv' := [(0, .ref 0), (1, .int (nI u)), (2, .int (nI v)), (4, .int (nI (le / 10))), (5, .int (nI (kk - 1) + Int32.ofInt (-1)))]) dX6_tableIs_67 rfl rfl (Nat.le_of_ble_eq_true rfl) rfl rfl ?_
        refine j_goto (tgt := 20) dX6_tableIs_70 (by decide) ?_
        exact ih20 (le / 10) (nI (kk - 1) + Int32.ofInt (-1)) (kk - 1) F (mj_u A 4 e49 (nI (1 + (le % 10)))) (by first | exact hM | omega) (dn2 _) ⟨by omega, by omega, by omega, Nat.le_trans (Nat.div_le_self _ _) h1.2.2.2⟩ (by rw [← hsp, tbR_s rm u v hk0, he49]; rfl) (by omega)
  have h1u := hM.2.2.1.2.2.2.2 u (by omega)
  have h1v := hM.2.2.1.2.2.2.2 v (by omega)
  have h4u := hM.2.2.1.2.2.2.1 u
  have h4v := hM.2.2.1.2.2.2.1 v
  have hp : 1 ≤ rm u * rm v := Nat.mul_le_mul h1u h1v
  have hp16 : rm u * rm v ≤ 16 := Nat.mul_le_mul h4u h4v
  refine j_iload_n dX6_tableIs_0 rfl ?_
  refine j_istore (lv' := [(0, .ref 0), (1, .int (nI u)), (2, .int (nI v)), (3, .int (nI fg)), (4, .int (nI fg))]) dX6_tableIs_1 (Nat.le_of_ble_eq_true rfl) rfl rfl ?_
  refine j_aload_n dX6_tableIs_3 rfl ?_
  refine j_getR (r := 3) dX6_tableIs_4 flX6_16 (Nat.le_of_ble_eq_true rfl) rfl rfl ?_
  refine j_iload_n dX6_tableIs_7 rfl ?_
  refine j_ialdN dX6_tableIs_8 (Nat.le_of_ble_eq_true rfl) rfl (by omega) (by decide) ?_
  refine j_top (y0 := nI (rm u)) (hM.2.2.1.2.2.1 _ (by omega)) ?_
  refine j_aload_n dX6_tableIs_9 rfl ?_
  refine j_getR (r := 3) dX6_tableIs_10 flX6_16 (Nat.le_of_ble_eq_true rfl) rfl rfl ?_
  refine j_iload_n dX6_tableIs_13 rfl ?_
  refine j_ialdN dX6_tableIs_14 (Nat.le_of_ble_eq_true rfl) rfl (by omega) (by decide) ?_
  refine j_top (y0 := nI (rm v)) (hM.2.2.1.2.2.1 _ (by omega)) ?_
  refine j_imulN dX6_tableIs_15 ?_
  refine j_iconst (v := nI 1) dX6_tableIs_16 (by decide +kernel) ?_
  refine j_isubN dX6_tableIs_17 (by omega) ?_
  refine j_istore (lv' := [(0, .ref 0), (1, .int (nI u)), (2, .int (nI v)), (3, .int (nI fg)), (4, .int (nI fg)), (5, .int (nI (((rm u) * (rm v)) - 1)))]) dX6_tableIs_18 (Nat.le_of_ble_eq_true rfl) rfl rfl ?_
  refine j_sub [0, 1, 2, 4, 5] rfl ?_
  exact L20 _ fg (nI (((rm u) * (rm v)) - 1)) (rm u * rm v) F A0 (by first | exact hM | omega) (dn3 (by omega)) ⟨Nat.le_refl _, by omega, by omega, by omega⟩ rfl (Nat.lt_succ_self _)
