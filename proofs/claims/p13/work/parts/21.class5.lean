/-! the class: the reduction -/
def FR (A A1 : mj_S) : Prop := ∀ k, k < 28 → k ≠ 8 → A1 k = A k
theorem FR.rf (A : mj_S) : FR A A := fun _ _ _ => rfl
theorem FR.u {A A1 : mj_S} (h : FR A A1) {k0 : Nat} (hk : 28 ≤ k0 ∨ k0 = 8) (i : Nat) (x : Int32) : FR A (mj_u A1 k0 i x) := fun k h1 h2 => by
  rw [mj_u_ne A1 x (by omega)]; exact h k h1 h2
theorem FR.k {A A1 A2 : mj_S} (h : FR A A1) {k0 : Nat} (h2 : ∀ k, k ≠ k0 → A2 k = A1 k) (hk : 28 ≤ k0) : FR A A2 := fun k h1 h3 => by
  rw [h2 k (by omega)]; exact h k h1 h3
theorem FR.k2 {A A1 A2 : mj_S} (h : FR A A1) {k0 k1 : Nat} (h2 : ∀ k, k ≠ k0 → k ≠ k1 → A2 k = A1 k) (hk : 28 ≤ k0) (hk1 : 28 ≤ k1) : FR A A2 := fun k h1 h3 => by
  rw [h2 k (by omega) (by omega)]; exact h k h1 h3
theorem FR.tr {A A1 A2 : mj_S} (h : FR A A1) (h2 : FR A1 A2) : FR A A2 := fun k h1 h3 => (h2 k h1 h3).trans (h k h1 h3)
theorem i_of32 (x : Int32) : ∃ n, n < 4294967296 ∧ x = nI n := ⟨x.toBitVec.toNat, x.toBitVec.isLt, by
  apply Int32.toBitVec_inj.1
  show x.toBitVec = BitVec.ofNat 32 x.toBitVec.toNat
  rw [BitVec.ofNat_toNat, BitVec.setWidth_eq]⟩
theorem sub_and (x : Int32) {lf : Nat} (h : lf < 256) : ∃ s, s < 256 ∧ x &&& nI lf = nI s ∧ ∀ b, s / 2 ^ b % 2 = 1 → lf / 2 ^ b % 2 = 1 := by
  obtain ⟨t, ht, rfl⟩ := i_of32 x
  refine ⟨t &&& lf, Nat.lt_of_le_of_lt Nat.and_le_right h, fa_and t lf, fun b hb => ?_⟩
  have h1 : (t &&& lf).testBit b = true := by rw [Nat.testBit_eq_decide_div_mod_eq]; simp [hb]
  rw [Nat.testBit_and, Bool.and_eq_true] at h1
  have h2 := h1.2
  rw [Nat.testBit_eq_decide_div_mod_eq] at h2
  simpa using h2
theorem clr_bit : ∀ s, s < 256 → ∀ u, u < 8 → ¬ clr s u / 2 ^ u % 2 = 1 := by decide +kernel
theorem clr_sub {s v r : Nat} (hs : s < 256) (hv : v < 8) (h : clr s v / 2 ^ r % 2 = 1) : r ≠ v ∧ s / 2 ^ r % 2 = 1 := by
  refine ⟨fun e => clr_bit s hs v hv (by rw [← e]; rw [e] at h ⊢; exact h), ?_⟩
  have h1 : (clr s v).testBit r = true := by rw [Nat.testBit_eq_decide_div_mod_eq]; simp [h]
  unfold clr at h1
  rw [Nat.testBit_and, Bool.and_eq_true] at h1
  have h2 := h1.1
  rw [Nat.testBit_eq_decide_div_mod_eq] at h2
  simpa using h2
theorem clr_two : ∀ s, s < 256 → pc s = 2 → ∀ v, v < 8 → 0 < clr s v := by decide +kernel
theorem no_bit {s u : Nat} (hs : s < 256) (hu : u < 8) (h : ¬ s / 2 ^ u % 2 = 1) : (nI s >>> (nI u &&& 31)) &&& nI 1 = 0 := by
  rw [bit_of (by omega) (by omega)]
  have h2 : s / 2 ^ u % 2 = 0 := by omega
  rw [h2]; exact nI_0
theorem is_bit {s v : Nat} (hs : s < 256) (hv : v < 8) (h : ¬ (nI s >>> (nI v &&& 31)) &&& nI 1 = 0) : s / 2 ^ v % 2 = 1 := by
  rw [bit_of (by omega) (by omega)] at h
  have h2 : s / 2 ^ v % 2 < 2 := Nat.mod_lt _ (by decide)
  by_cases e : s / 2 ^ v % 2 = 0
  · rw [e] at h; exact absurd nI_0 h
  · omega
def ahd (x : Int32) : Prop := x = (-1) ∨ ∃ a, a < 8 ∧ x = nI a
theorem ahd_ne {x : Int32} (h : ahd x) (hx : ¬ x < 0) : ∃ a, a < 8 ∧ x = nI a := h.resolve_left (fun e => hx (by rw [e]; decide +kernel))

set_option maxHeartbeats 400000 in
set_option maxRecDepth 100000 in
theorem c_matesLeft (z : mj_B) (d : Nat) (T : Tg) (n lf : Nat) (u : Nat) (hu : u < 8) (F A : mj_S) (hC : CI T F A) (en : F 28 0 = nI n) (hn : n ≤ 8) (el : F 5 6 = nI lf) (hlf : lf < 256) : J (gC z) mX2_matesLeft d 0 [(0, .ref 5), (1, .int (nI u))] [] F A (qN F A fun s => s < 256 ∧ ∀ b, s / 2 ^ b % 2 = 1 → lf / 2 ^ b % 2 = 1) := by
  refine j_aload_n dX2_matesLeft_0 rfl ?_
  refine j_getR (r := 28) dX2_matesLeft_1 flX2_27 (Nat.le_of_ble_eq_true rfl) rfl rfl ?_
  refine j_getR (r := 30) dX2_matesLeft_4 flX2_82 (Nat.le_of_ble_eq_true rfl) rfl rfl ?_
  refine j_iload_n dX2_matesLeft_7 rfl ?_
  refine j_ialdN dX2_matesLeft_8 (Nat.le_of_ble_eq_true rfl) rfl (by omega) (by decide) ?_
  refine j_aload_n dX2_matesLeft_9 rfl ?_
  refine j_getI dX2_matesLeft_10 flX2_43 (Nat.le_of_ble_eq_true rfl) rfl rfl ?_
  refine j_top (y0 := nI lf) el ?_
  refine j_iand dX2_matesLeft_13 ?_
  obtain ⟨s, hs, es, hsub⟩ := sub_and (A 30 u) hlf
  refine j_top (y0 := nI s) es ?_
  exact j_iret dX2_matesLeft_14 rfl rfl ⟨rfl, rfl, _, rfl, hs, hsub⟩

set_option maxHeartbeats 400000 in
set_option maxRecDepth 100000 in
theorem c_comesAhead (z : mj_B) (d : Nat) (T : Tg) (n lf : Nat) (u v : Nat) (hu : u < 8) (hv : v < 8) (F A : mj_S) (hC : CI T F A) (en : F 28 0 = nI n) (hn : n ≤ 8) (el : F 5 6 = nI lf) (hlf : lf < 256) : J (gC z) mX2_comesAhead (d + 1) 0 [(0, .ref 5), (1, .int (nI u)), (2, .int (nI v))] [] F A (qN F A fun r => r ≤ 1) := by
  refine j_aload_n dX2_comesAhead_0 rfl ?_
  refine j_iload_n dX2_comesAhead_1 rfl ?_
  refine j_callV (y' := mX2_matesLeft) (As := [.int (nI u)]) (st := []) dX2_comesAhead_2 lkX2_50 okX2_matesLeft imX2_matesLeft seX2_matesLeft (Nat.le_of_ble_eq_true rfl) rfl rfl rfl rfl (Nat.le_of_ble_eq_true rfl) (Nat.le_of_ble_eq_true rfl) (c_matesLeft z _ _ n lf u (by omega) F A hC en hn el (by omega)) (fun v2 F2 A2 hq2 => ?_)
  obtain ⟨rfl, rfl, s2, rfl, hs2, hsub2⟩ := hq2
  refine j_callS (y' := mJ6_bitCount_0f7a4) (As := [.int (nI s2)]) (st := []) dX2_comesAhead_5 lkX2_54 okJ6_bitCount_0f7a4 stJ6_bitCount_0f7a4 rfl (Nat.le_of_ble_eq_true rfl) (Nat.le_of_ble_eq_true rfl) (c_bitCount z _ (nI s2) F A) (fun v5 F5 A5 hq5 => ?_)
  obtain ⟨rfl, rfl, r5, rfl, hr5⟩ := hq5
  have hp5 := pc_le (s2)
  refine j_top (y0 := nI (pc s2)) (hr5.trans (bc_pc _ (by omega))) ?_
  refine j_istore_n (lv' := [(0, .ref 5), (1, .int (nI u)), (2, .int (nI v)), (3, .int (nI (pc s2)))]) dX2_comesAhead_8 (Nat.le_of_ble_eq_true rfl) rfl rfl ?_
  refine j_aload_n dX2_comesAhead_9 rfl ?_
  refine j_iload_n dX2_comesAhead_10 rfl ?_
  refine j_callV (y' := mX2_matesLeft) (As := [.int (nI v)]) (st := []) dX2_comesAhead_11 lkX2_50 okX2_matesLeft imX2_matesLeft seX2_matesLeft (Nat.le_of_ble_eq_true rfl) rfl rfl rfl rfl (Nat.le_of_ble_eq_true rfl) (Nat.le_of_ble_eq_true rfl) (c_matesLeft z _ _ n lf v (by omega) F A hC en hn el (by omega)) (fun v11 F11 A11 hq11 => ?_)
  obtain ⟨rfl, rfl, s11, rfl, hs11, hsub11⟩ := hq11
  refine j_callS (y' := mJ6_bitCount_0f7a4) (As := [.int (nI s11)]) (st := []) dX2_comesAhead_14 lkX2_54 okJ6_bitCount_0f7a4 stJ6_bitCount_0f7a4 rfl (Nat.le_of_ble_eq_true rfl) (Nat.le_of_ble_eq_true rfl) (c_bitCount z _ (nI s11) F A) (fun v14 F14 A14 hq14 => ?_)
  obtain ⟨rfl, rfl, r14, rfl, hr14⟩ := hq14
  have hp14 := pc_le (s11)
  refine j_top (y0 := nI (pc s11)) (hr14.trans (bc_pc _ (by omega))) ?_
  refine j_istore (lv' := [(0, .ref 5), (1, .int (nI u)), (2, .int (nI v)), (3, .int (nI (pc s2))), (4, .int (nI (pc s11)))]) dX2_comesAhead_17 (Nat.le_of_ble_eq_true rfl) rfl rfl ?_
  refine j_iload_n dX2_comesAhead_19 rfl ?_
  refine j_iload dX2_comesAhead_20 rfl ?_
  refine j_icmp_eqN (tgt := 37) dX2_comesAhead_22 (by decide) (by omega) (by omega) (fun c22 => ?_) (fun c22 => ?_)
  · refine j_aload_n dX2_comesAhead_37 rfl ?_
    refine j_getR (r := 28) dX2_comesAhead_38 flX2_27 (Nat.le_of_ble_eq_true rfl) rfl rfl ?_
    refine j_getR (r := 29) dX2_comesAhead_41 flX2_92 (Nat.le_of_ble_eq_true rfl) rfl rfl ?_
    refine j_iload_n dX2_comesAhead_44 rfl ?_
    refine j_ialdN dX2_comesAhead_45 (Nat.le_of_ble_eq_true rfl) rfl (by omega) (by decide) ?_
    obtain ⟨t1, ht1, et1⟩ := (hC.2.2.2.1 28 n28).2 u (by omega)
    refine j_top (y0 := nI t1) et1 ?_
    refine j_aload_n dX2_comesAhead_46 rfl ?_
    refine j_getR (r := 28) dX2_comesAhead_47 flX2_27 (Nat.le_of_ble_eq_true rfl) rfl rfl ?_
    refine j_getR (r := 29) dX2_comesAhead_50 flX2_92 (Nat.le_of_ble_eq_true rfl) rfl rfl ?_
    refine j_iload_n dX2_comesAhead_53 rfl ?_
    refine j_ialdN dX2_comesAhead_54 (Nat.le_of_ble_eq_true rfl) rfl (by omega) (by decide) ?_
    obtain ⟨t2, ht2, et2⟩ := (hC.2.2.2.1 28 n28).2 v (by omega)
    refine j_top (y0 := nI t2) et2 ?_
    refine j_icmp_eqN (tgt := 85) dX2_comesAhead_55 (by decide) (by omega) (by omega) (fun c55 => ?_) (fun c55 => ?_)
    · refine j_iload_n dX2_comesAhead_85 rfl ?_
      refine j_iload_n dX2_comesAhead_86 rfl ?_
      refine j_icmp_geN (tgt := 94) dX2_comesAhead_87 (by decide) (by omega) (by omega) (fun c87 => ?_) (fun c87 => ?_)
      · refine j_iconst (v := nI 0) dX2_comesAhead_94 (by decide +kernel) ?_
        exact j_iret dX2_comesAhead_95 rfl (by decide +kernel) ⟨rfl, rfl, _, rfl, by omega⟩
      · refine j_iconst (v := nI 1) dX2_comesAhead_90 (by decide +kernel) ?_
        refine j_goto (tgt := 95) dX2_comesAhead_91 (by decide) ?_
        exact j_iret dX2_comesAhead_95 rfl (by decide +kernel) ⟨rfl, rfl, _, rfl, by omega⟩
    · refine j_aload_n dX2_comesAhead_58 rfl ?_
      refine j_getR (r := 28) dX2_comesAhead_59 flX2_27 (Nat.le_of_ble_eq_true rfl) rfl rfl ?_
      refine j_getR (r := 29) dX2_comesAhead_62 flX2_92 (Nat.le_of_ble_eq_true rfl) rfl rfl ?_
      refine j_iload_n dX2_comesAhead_65 rfl ?_
      refine j_ialdN dX2_comesAhead_66 (Nat.le_of_ble_eq_true rfl) rfl (by omega) (by decide) ?_
      refine j_top (y0 := nI t1) et1 ?_
      refine j_aload_n dX2_comesAhead_67 rfl ?_
      refine j_getR (r := 28) dX2_comesAhead_68 flX2_27 (Nat.le_of_ble_eq_true rfl) rfl rfl ?_
      refine j_getR (r := 29) dX2_comesAhead_71 flX2_92 (Nat.le_of_ble_eq_true rfl) rfl rfl ?_
      refine j_iload_n dX2_comesAhead_74 rfl ?_
      refine j_ialdN dX2_comesAhead_75 (Nat.le_of_ble_eq_true rfl) rfl (by omega) (by decide) ?_
      refine j_top (y0 := nI t2) et2 ?_
      refine j_icmp_geN (tgt := 83) dX2_comesAhead_76 (by decide) (by omega) (by omega) (fun c76 => ?_) (fun c76 => ?_)
      · refine j_iconst (v := nI 0) dX2_comesAhead_83 (by decide +kernel) ?_
        exact j_iret dX2_comesAhead_84 rfl (by decide +kernel) ⟨rfl, rfl, _, rfl, by omega⟩
      · refine j_iconst (v := nI 1) dX2_comesAhead_79 (by decide +kernel) ?_
        refine j_goto (tgt := 84) dX2_comesAhead_80 (by decide) ?_
        exact j_iret dX2_comesAhead_84 rfl (by decide +kernel) ⟨rfl, rfl, _, rfl, by omega⟩
  · refine j_iload_n dX2_comesAhead_25 rfl ?_
    refine j_iload dX2_comesAhead_26 rfl ?_
    refine j_icmp_geN (tgt := 35) dX2_comesAhead_28 (by decide) (by omega) (by omega) (fun c28 => ?_) (fun c28 => ?_)
    · refine j_iconst (v := nI 0) dX2_comesAhead_35 (by decide +kernel) ?_
      exact j_iret dX2_comesAhead_36 rfl (by decide +kernel) ⟨rfl, rfl, _, rfl, by omega⟩
    · refine j_iconst (v := nI 1) dX2_comesAhead_31 (by decide +kernel) ?_
      refine j_goto (tgt := 36) dX2_comesAhead_32 (by decide) ?_
      exact j_iret dX2_comesAhead_36 rfl (by decide +kernel) ⟨rfl, rfl, _, rfl, by omega⟩

set_option maxHeartbeats 400000 in
set_option maxRecDepth 100000 in
theorem c_nextNode (z : mj_B) (d : Nat) (T : Tg) (n lf : Nat) (F A : mj_S) (hC : CI T F A) (en : F 28 0 = nI n) (hn : n ≤ 8) (el : F 5 6 = nI lf) (hlf : lf < 256) : J (gC z) mX2_nextNode (d + 2) 0 [(0, .ref 5)] [] F A (qN F A fun u => u < 8) := by
  have L6 : ∀ (fuel : Nat) (x1 : Int32) (x2 : Int32) (u : Nat), (u ≤ n) → (ahd x1) → (ahd x2) → n - u < fuel → J (gC z) mX2_nextNode (d + 2) 6 [(0, .ref 5), (1, .int x1), (2, .int x2), (3, .int (nI u))] [] F A (qN F A fun u => u < 8) := by
    intro fuel
    induction fuel with
    | zero => intro x1 x2 u h1 h2 h3 hf; exact absurd hf (by omega)
    | succ fuel ih6 =>
      intro x1 x2 u h1 h2 h3 hf
      refine j_iload_n dX2_nextNode_6 rfl ?_
      refine j_aload_n dX2_nextNode_7 rfl ?_
      refine j_getR (r := 28) dX2_nextNode_8 flX2_27 (Nat.le_of_ble_eq_true rfl) rfl rfl ?_
      refine j_getI dX2_nextNode_11 flX2_39 (Nat.le_of_ble_eq_true rfl) rfl rfl ?_
      refine j_top (y0 := nI n) en ?_
      refine j_icmp_geN (tgt := 72) dX2_nextNode_14 (by decide) (by omega) (by omega) (fun c14 => ?_) (fun c14 => ?_)
      · refine j_iload_n dX2_nextNode_72 rfl ?_
        refine j_if_lt (tgt := 80) dX2_nextNode_73 (by decide) (fun c73 => ?_) (fun c73 => ?_)
        · refine j_iconst (v := nI 0) dX2_nextNode_80 (by decide +kernel) ?_
          exact j_iret dX2_nextNode_81 rfl rfl ⟨rfl, rfl, _, rfl, by omega⟩
        · obtain ⟨a, ha, rfl⟩ := ahd_ne h2 c73
          refine j_iload_n dX2_nextNode_76 rfl ?_
          refine j_if_ge (tgt := 82) dX2_nextNode_77 (by decide) (fun c77 => ?_) (fun c77 => ?_)
          · obtain ⟨b, hb, rfl⟩ := ahd_ne h3 (Int32.not_lt.mpr c77)
            refine j_aload_n dX2_nextNode_82 rfl ?_
            refine j_iload_n dX2_nextNode_83 rfl ?_
            refine j_callV (y' := mX2_matesLeft) (As := [.int (nI a)]) (st := []) dX2_nextNode_84 lkX2_50 okX2_matesLeft imX2_matesLeft seX2_matesLeft (Nat.le_of_ble_eq_true rfl) rfl rfl rfl rfl (Nat.le_of_ble_eq_true rfl) (Nat.le_of_ble_eq_true rfl) (c_matesLeft z _ _ n lf a (by omega) F A hC en hn el (by omega)) (fun v84 F84 A84 hq84 => ?_)
            obtain ⟨rfl, rfl, s84, rfl, hs84, hsub84⟩ := hq84
            refine j_callS (y' := mJ6_bitCount_0f7a4) (As := [.int (nI s84)]) (st := []) dX2_nextNode_87 lkX2_54 okJ6_bitCount_0f7a4 stJ6_bitCount_0f7a4 rfl (Nat.le_of_ble_eq_true rfl) (Nat.le_of_ble_eq_true rfl) (c_bitCount z _ (nI s84) F A) (fun v87 F87 A87 hq87 => ?_)
            obtain ⟨rfl, rfl, r87, rfl, hr87⟩ := hq87
            have hp87 := pc_le (s84)
            refine j_top (y0 := nI (pc s84)) (hr87.trans (bc_pc _ (by omega))) ?_
            refine j_iconst (v := nI 2) dX2_nextNode_90 (by decide +kernel) ?_
            refine j_icmp_gtN (tgt := 98) dX2_nextNode_91 (by decide) (by omega) (by omega) (fun c91 => ?_) (fun c91 => ?_)
            · refine j_iload_n dX2_nextNode_98 rfl ?_
              exact j_iret dX2_nextNode_99 rfl rfl ⟨rfl, rfl, _, rfl, by omega⟩
            · refine j_iload_n dX2_nextNode_94 rfl ?_
              refine j_goto (tgt := 99) dX2_nextNode_95 (by decide) ?_
              exact j_iret dX2_nextNode_99 rfl rfl ⟨rfl, rfl, _, rfl, by omega⟩
          · refine j_iconst (v := nI 0) dX2_nextNode_80 (by decide +kernel) ?_
            exact j_iret dX2_nextNode_81 rfl rfl ⟨rfl, rfl, _, rfl, by omega⟩
      · refine j_aload_n dX2_nextNode_17 rfl ?_
        refine j_getI dX2_nextNode_18 flX2_43 (Nat.le_of_ble_eq_true rfl) rfl rfl ?_
        refine j_top (y0 := nI lf) el ?_
        refine j_iload_n dX2_nextNode_21 rfl ?_
        refine j_callSN (y' := mX5_hasBit) (As := [.int (nI lf), .int (nI u)]) (st := []) dX2_nextNode_22 lnX2_85 okX5_hasBit stX5_hasBit rfl (Nat.le_of_ble_eq_true rfl) (Nat.le_of_ble_eq_true rfl) (c_hasBit z _ (nI lf) (nI u) F A) (fun v22 F22 A22 hq22 => ?_)
        obtain ⟨rfl, rfl, r22, rfl, hr22⟩ := hq22
        have hb22 : r22 ≤ 1 := hr22.1
        refine j_if_eqN (tgt := 66) dX2_nextNode_25 (by decide) (by omega) (fun c25 => ?_) (fun c25 => ?_)
        · refine j_iinc (v := nI (u + 1)) (lv' := [(0, .ref 5), (1, .int x1), (2, .int x2), (3, .int (nI (u + 1)))]) dX2_nextNode_66 rfl (nI_add _ 1) (Nat.le_of_ble_eq_true rfl) rfl rfl ?_
          refine j_goto (tgt := 6) dX2_nextNode_69 (by decide) ?_
          exact ih6 x1 x2 (u + 1) (by first | exact h1 | omega) (by first | exact Or.inr ⟨_, by omega, rfl⟩ | exact h2) (by first | exact Or.inr ⟨_, by omega, rfl⟩ | exact h3) (by omega)
        · refine j_iload_n dX2_nextNode_28 rfl ?_
          refine j_if_lt (tgt := 41) dX2_nextNode_29 (by decide) (fun c29 => ?_) (fun c29 => ?_)
          · refine j_iload_n dX2_nextNode_41 rfl ?_
            refine j_goto (tgt := 46) dX2_nextNode_42 (by decide) ?_
            refine j_istore_n (lv' := [(0, .ref 5), (1, .int (nI u)), (2, .int x2), (3, .int (nI u))]) dX2_nextNode_46 (Nat.le_of_ble_eq_true rfl) rfl rfl ?_
            refine j_iload_n dX2_nextNode_47 rfl ?_
            refine j_if_lt (tgt := 60) dX2_nextNode_48 (by decide) (fun c48 => ?_) (fun c48 => ?_)
            · refine j_iload_n dX2_nextNode_60 rfl ?_
              refine j_goto (tgt := 65) dX2_nextNode_61 (by decide) ?_
              refine j_istore_n (lv' := [(0, .ref 5), (1, .int (nI u)), (2, .int (nI u)), (3, .int (nI u))]) dX2_nextNode_65 (Nat.le_of_ble_eq_true rfl) rfl rfl ?_
              refine j_iinc (v := nI (u + 1)) (lv' := [(0, .ref 5), (1, .int (nI u)), (2, .int (nI u)), (3, .int (nI (u + 1)))]) dX2_nextNode_66 rfl (nI_add _ 1) (Nat.le_of_ble_eq_true rfl) rfl rfl ?_
              refine j_goto (tgt := 6) dX2_nextNode_69 (by decide) ?_
              exact ih6 (nI u) (nI u) (u + 1) (by first | exact h1 | omega) (by first | exact Or.inr ⟨_, by omega, rfl⟩ | exact h2) (by first | exact Or.inr ⟨_, by omega, rfl⟩ | exact h3) (by omega)
            · obtain ⟨b, hb, rfl⟩ := ahd_ne h3 c48
              refine j_aload_n dX2_nextNode_51 rfl ?_
              refine j_iload_n dX2_nextNode_52 rfl ?_
              refine j_iload_n dX2_nextNode_53 rfl ?_
              refine j_callV (y' := mX2_comesAhead) (As := [.int (nI b), .int (nI u)]) (st := []) dX2_nextNode_54 lkX2_89 okX2_comesAhead imX2_comesAhead seX2_comesAhead (Nat.le_of_ble_eq_true rfl) rfl rfl rfl rfl (Nat.le_of_ble_eq_true rfl) (Nat.le_of_ble_eq_true rfl) (c_comesAhead z _ _ n lf b u (by omega) (by omega) F A hC en hn el hlf) (fun v54 F54 A54 hq54 => ?_)
              obtain ⟨rfl, rfl, r54, rfl, hr54⟩ := hq54
              refine j_if_eqN (tgt := 64) dX2_nextNode_57 (by decide) (by omega) (fun c57 => ?_) (fun c57 => ?_)
              · refine j_iload_n dX2_nextNode_64 rfl ?_
                refine j_istore_n (lv' := [(0, .ref 5), (1, .int (nI u)), (2, .int (nI b)), (3, .int (nI u))]) dX2_nextNode_65 (Nat.le_of_ble_eq_true rfl) rfl rfl ?_
                refine j_iinc (v := nI (u + 1)) (lv' := [(0, .ref 5), (1, .int (nI u)), (2, .int (nI b)), (3, .int (nI (u + 1)))]) dX2_nextNode_66 rfl (nI_add _ 1) (Nat.le_of_ble_eq_true rfl) rfl rfl ?_
                refine j_goto (tgt := 6) dX2_nextNode_69 (by decide) ?_
                exact ih6 (nI u) (nI b) (u + 1) (by first | exact h1 | omega) (by first | exact Or.inr ⟨_, by omega, rfl⟩ | exact h2) (by first | exact Or.inr ⟨_, by omega, rfl⟩ | exact h3) (by omega)
              · refine j_iload_n dX2_nextNode_60 rfl ?_
                refine j_goto (tgt := 65) dX2_nextNode_61 (by decide) ?_
                refine j_istore_n (lv' := [(0, .ref 5), (1, .int (nI u)), (2, .int (nI u)), (3, .int (nI u))]) dX2_nextNode_65 (Nat.le_of_ble_eq_true rfl) rfl rfl ?_
                refine j_iinc (v := nI (u + 1)) (lv' := [(0, .ref 5), (1, .int (nI u)), (2, .int (nI u)), (3, .int (nI (u + 1)))]) dX2_nextNode_66 rfl (nI_add _ 1) (Nat.le_of_ble_eq_true rfl) rfl rfl ?_
                refine j_goto (tgt := 6) dX2_nextNode_69 (by decide) ?_
                exact ih6 (nI u) (nI u) (u + 1) (by first | exact h1 | omega) (by first | exact Or.inr ⟨_, by omega, rfl⟩ | exact h2) (by first | exact Or.inr ⟨_, by omega, rfl⟩ | exact h3) (by omega)
          · obtain ⟨a, ha, rfl⟩ := ahd_ne h2 c29
            refine j_aload_n dX2_nextNode_32 rfl ?_
            refine j_iload_n dX2_nextNode_33 rfl ?_
            refine j_iload_n dX2_nextNode_34 rfl ?_
            refine j_callV (y' := mX2_comesAhead) (As := [.int (nI u), .int (nI a)]) (st := []) dX2_nextNode_35 lkX2_89 okX2_comesAhead imX2_comesAhead seX2_comesAhead (Nat.le_of_ble_eq_true rfl) rfl rfl rfl rfl (Nat.le_of_ble_eq_true rfl) (Nat.le_of_ble_eq_true rfl) (c_comesAhead z _ _ n lf u a (by omega) (by omega) F A hC en hn el hlf) (fun v35 F35 A35 hq35 => ?_)
            obtain ⟨rfl, rfl, r35, rfl, hr35⟩ := hq35
            refine j_if_eqN (tgt := 45) dX2_nextNode_38 (by decide) (by omega) (fun c38 => ?_) (fun c38 => ?_)
            · refine j_iload_n dX2_nextNode_45 rfl ?_
              refine j_istore_n (lv' := [(0, .ref 5), (1, .int (nI a)), (2, .int x2), (3, .int (nI u))]) dX2_nextNode_46 (Nat.le_of_ble_eq_true rfl) rfl rfl ?_
              refine j_iload_n dX2_nextNode_47 rfl ?_
              refine j_if_lt (tgt := 60) dX2_nextNode_48 (by decide) (fun c48 => ?_) (fun c48 => ?_)
              · refine j_iload_n dX2_nextNode_60 rfl ?_
                refine j_goto (tgt := 65) dX2_nextNode_61 (by decide) ?_
                refine j_istore_n (lv' := [(0, .ref 5), (1, .int (nI a)), (2, .int (nI u)), (3, .int (nI u))]) dX2_nextNode_65 (Nat.le_of_ble_eq_true rfl) rfl rfl ?_
                refine j_iinc (v := nI (u + 1)) (lv' := [(0, .ref 5), (1, .int (nI a)), (2, .int (nI u)), (3, .int (nI (u + 1)))]) dX2_nextNode_66 rfl (nI_add _ 1) (Nat.le_of_ble_eq_true rfl) rfl rfl ?_
                refine j_goto (tgt := 6) dX2_nextNode_69 (by decide) ?_
                exact ih6 (nI a) (nI u) (u + 1) (by first | exact h1 | omega) (by first | exact Or.inr ⟨_, by omega, rfl⟩ | exact h2) (by first | exact Or.inr ⟨_, by omega, rfl⟩ | exact h3) (by omega)
              · obtain ⟨b, hb, rfl⟩ := ahd_ne h3 c48
                refine j_aload_n dX2_nextNode_51 rfl ?_
                refine j_iload_n dX2_nextNode_52 rfl ?_
                refine j_iload_n dX2_nextNode_53 rfl ?_
                refine j_callV (y' := mX2_comesAhead) (As := [.int (nI b), .int (nI u)]) (st := []) dX2_nextNode_54 lkX2_89 okX2_comesAhead imX2_comesAhead seX2_comesAhead (Nat.le_of_ble_eq_true rfl) rfl rfl rfl rfl (Nat.le_of_ble_eq_true rfl) (Nat.le_of_ble_eq_true rfl) (c_comesAhead z _ _ n lf b u (by omega) (by omega) F A hC en hn el hlf) (fun v54 F54 A54 hq54 => ?_)
                obtain ⟨rfl, rfl, r54, rfl, hr54⟩ := hq54
                refine j_if_eqN (tgt := 64) dX2_nextNode_57 (by decide) (by omega) (fun c57 => ?_) (fun c57 => ?_)
                · refine j_iload_n dX2_nextNode_64 rfl ?_
                  refine j_istore_n (lv' := [(0, .ref 5), (1, .int (nI a)), (2, .int (nI b)), (3, .int (nI u))]) dX2_nextNode_65 (Nat.le_of_ble_eq_true rfl) rfl rfl ?_
                  refine j_iinc (v := nI (u + 1)) (lv' := [(0, .ref 5), (1, .int (nI a)), (2, .int (nI b)), (3, .int (nI (u + 1)))]) dX2_nextNode_66 rfl (nI_add _ 1) (Nat.le_of_ble_eq_true rfl) rfl rfl ?_
                  refine j_goto (tgt := 6) dX2_nextNode_69 (by decide) ?_
                  exact ih6 (nI a) (nI b) (u + 1) (by first | exact h1 | omega) (by first | exact Or.inr ⟨_, by omega, rfl⟩ | exact h2) (by first | exact Or.inr ⟨_, by omega, rfl⟩ | exact h3) (by omega)
                · refine j_iload_n dX2_nextNode_60 rfl ?_
                  refine j_goto (tgt := 65) dX2_nextNode_61 (by decide) ?_
                  refine j_istore_n (lv' := [(0, .ref 5), (1, .int (nI a)), (2, .int (nI u)), (3, .int (nI u))]) dX2_nextNode_65 (Nat.le_of_ble_eq_true rfl) rfl rfl ?_
                  refine j_iinc (v := nI (u + 1)) (lv' := [(0, .ref 5), (1, .int (nI a)), (2, .int (nI u)), (3, .int (nI (u + 1)))]) dX2_nextNode_66 rfl (nI_add _ 1) (Nat.le_of_ble_eq_true rfl) rfl rfl ?_
                  refine j_goto (tgt := 6) dX2_nextNode_69 (by decide) ?_
                  exact ih6 (nI a) (nI u) (u + 1) (by first | exact h1 | omega) (by first | exact Or.inr ⟨_, by omega, rfl⟩ | exact h2) (by first | exact Or.inr ⟨_, by omega, rfl⟩ | exact h3) (by omega)
            · refine j_iload_n dX2_nextNode_41 rfl ?_
              refine j_goto (tgt := 46) dX2_nextNode_42 (by decide) ?_
              refine j_istore_n (lv' := [(0, .ref 5), (1, .int (nI u)), (2, .int x2), (3, .int (nI u))]) dX2_nextNode_46 (Nat.le_of_ble_eq_true rfl) rfl rfl ?_
              refine j_iload_n dX2_nextNode_47 rfl ?_
              refine j_if_lt (tgt := 60) dX2_nextNode_48 (by decide) (fun c48 => ?_) (fun c48 => ?_)
              · refine j_iload_n dX2_nextNode_60 rfl ?_
                refine j_goto (tgt := 65) dX2_nextNode_61 (by decide) ?_
                refine j_istore_n (lv' := [(0, .ref 5), (1, .int (nI u)), (2, .int (nI u)), (3, .int (nI u))]) dX2_nextNode_65 (Nat.le_of_ble_eq_true rfl) rfl rfl ?_
                refine j_iinc (v := nI (u + 1)) (lv' := [(0, .ref 5), (1, .int (nI u)), (2, .int (nI u)), (3, .int (nI (u + 1)))]) dX2_nextNode_66 rfl (nI_add _ 1) (Nat.le_of_ble_eq_true rfl) rfl rfl ?_
                refine j_goto (tgt := 6) dX2_nextNode_69 (by decide) ?_
                exact ih6 (nI u) (nI u) (u + 1) (by first | exact h1 | omega) (by first | exact Or.inr ⟨_, by omega, rfl⟩ | exact h2) (by first | exact Or.inr ⟨_, by omega, rfl⟩ | exact h3) (by omega)
              · obtain ⟨b, hb, rfl⟩ := ahd_ne h3 c48
                refine j_aload_n dX2_nextNode_51 rfl ?_
                refine j_iload_n dX2_nextNode_52 rfl ?_
                refine j_iload_n dX2_nextNode_53 rfl ?_
                refine j_callV (y' := mX2_comesAhead) (As := [.int (nI b), .int (nI u)]) (st := []) dX2_nextNode_54 lkX2_89 okX2_comesAhead imX2_comesAhead seX2_comesAhead (Nat.le_of_ble_eq_true rfl) rfl rfl rfl rfl (Nat.le_of_ble_eq_true rfl) (Nat.le_of_ble_eq_true rfl) (c_comesAhead z _ _ n lf b u (by omega) (by omega) F A hC en hn el hlf) (fun v54 F54 A54 hq54 => ?_)
                obtain ⟨rfl, rfl, r54, rfl, hr54⟩ := hq54
                refine j_if_eqN (tgt := 64) dX2_nextNode_57 (by decide) (by omega) (fun c57 => ?_) (fun c57 => ?_)
                · refine j_iload_n dX2_nextNode_64 rfl ?_
                  refine j_istore_n (lv' := [(0, .ref 5), (1, .int (nI u)), (2, .int (nI b)), (3, .int (nI u))]) dX2_nextNode_65 (Nat.le_of_ble_eq_true rfl) rfl rfl ?_
                  refine j_iinc (v := nI (u + 1)) (lv' := [(0, .ref 5), (1, .int (nI u)), (2, .int (nI b)), (3, .int (nI (u + 1)))]) dX2_nextNode_66 rfl (nI_add _ 1) (Nat.le_of_ble_eq_true rfl) rfl rfl ?_
                  refine j_goto (tgt := 6) dX2_nextNode_69 (by decide) ?_
                  exact ih6 (nI u) (nI b) (u + 1) (by first | exact h1 | omega) (by first | exact Or.inr ⟨_, by omega, rfl⟩ | exact h2) (by first | exact Or.inr ⟨_, by omega, rfl⟩ | exact h3) (by omega)
                · refine j_iload_n dX2_nextNode_60 rfl ?_
                  refine j_goto (tgt := 65) dX2_nextNode_61 (by decide) ?_
                  refine j_istore_n (lv' := [(0, .ref 5), (1, .int (nI u)), (2, .int (nI u)), (3, .int (nI u))]) dX2_nextNode_65 (Nat.le_of_ble_eq_true rfl) rfl rfl ?_
                  refine j_iinc (v := nI (u + 1)) (lv' := [(0, .ref 5), (1, .int (nI u)), (2, .int (nI u)), (3, .int (nI (u + 1)))]) dX2_nextNode_66 rfl (nI_add _ 1) (Nat.le_of_ble_eq_true rfl) rfl rfl ?_
                  refine j_goto (tgt := 6) dX2_nextNode_69 (by decide) ?_
                  exact ih6 (nI u) (nI u) (u + 1) (by first | exact h1 | omega) (by first | exact Or.inr ⟨_, by omega, rfl⟩ | exact h2) (by first | exact Or.inr ⟨_, by omega, rfl⟩ | exact h3) (by omega)
  refine j_iconst (v := (-1)) dX2_nextNode_0 (by decide +kernel) ?_
  refine j_istore_n (lv' := [(0, .ref 5), (1, .int ((-1)))]) dX2_nextNode_1 (Nat.le_of_ble_eq_true rfl) rfl rfl ?_
  refine j_iconst (v := (-1)) dX2_nextNode_2 (by decide +kernel) ?_
  refine j_istore_n (lv' := [(0, .ref 5), (1, .int ((-1))), (2, .int ((-1)))]) dX2_nextNode_3 (Nat.le_of_ble_eq_true rfl) rfl rfl ?_
  refine j_iconst (v := nI 0) dX2_nextNode_4 (by decide +kernel) ?_
  refine j_istore_n (lv' := [(0, .ref 5), (1, .int ((-1))), (2, .int ((-1))), (3, .int (nI 0))]) dX2_nextNode_5 (Nat.le_of_ble_eq_true rfl) rfl rfl ?_
  exact L6 _ (-1) (-1) 0 (by first | exact h1 | omega) (Or.inl rfl) (Or.inl rfl) (Nat.lt_succ_self _)

set_option maxHeartbeats 400000 in
set_option maxRecDepth 100000 in
theorem c_foldIntoOne (z : mj_B) (d : Nat) (T : Tg) (u v : Nat) (hu : u < 8) (hv : v < 8) (huv : u ≠ v) (F A : mj_S) (hC : CI T F A) : J (gC z) mX2_foldIntoOne (d + 3) 0 [(0, .ref 5), (1, .int (nI u)), (2, .int (nI v))] [] F A (fun v F' A' => v = none ∧ F = F' ∧ CI T F A' ∧ FR A A') := by
  have L2 : ∀ (fuel : Nat) (j : Nat) (A1 : mj_S), (CI T F A1) → (FR A A1) → (j ≤ 4) → 4 - j < fuel → J (gC z) mX2_foldIntoOne (d + 3) 2 [(0, .ref 5), (1, .int (nI u)), (2, .int (nI v)), (3, .int (nI j))] [] F A1 (fun v F' A' => v = none ∧ F = F' ∧ CI T F A' ∧ FR A A') := by
    intro fuel
    induction fuel with
    | zero => intro j A1 hC hfr h1 hf; exact absurd hf (by omega)
    | succ fuel ih2 =>
      intro j A1 hC hfr h1 hf
      refine j_iload_n dX2_foldIntoOne_2 rfl ?_
      refine j_aload_n dX2_foldIntoOne_3 rfl ?_
      refine j_getR (r := 28) dX2_foldIntoOne_4 flX2_27 (Nat.le_of_ble_eq_true rfl) rfl rfl ?_
      refine j_getR (r := 29) dX2_foldIntoOne_7 flX2_92 (Nat.le_of_ble_eq_true rfl) rfl rfl ?_
      refine j_iload_n dX2_foldIntoOne_10 rfl ?_
      refine j_ialdN dX2_foldIntoOne_11 (Nat.le_of_ble_eq_true rfl) rfl (by omega) (by decide) ?_
      obtain ⟨t1, ht1, et1⟩ := (hC.2.2.2.1 28 n28).2 v (by omega)
      refine j_top (y0 := nI t1) et1 ?_
      refine j_icmp_geN (tgt := 89) dX2_foldIntoOne_12 (by decide) (by omega) (by omega) (fun c12 => ?_) (fun c12 => ?_)
      · exact j_vret dX2_foldIntoOne_89 rfl ⟨rfl, rfl, hC, hfr⟩
      · have L22 : ∀ (fuel : Nat) (le : Int32) (i : Nat), (i ≤ 4) → 4 - i < fuel → J (gC z) mX2_foldIntoOne (d + 3) 22 [(0, .ref 5), (1, .int (nI u)), (2, .int (nI v)), (3, .int (nI j)), (4, .int le), (5, .int (nI i))] [] F A1 (fun v F' A' => v = none ∧ F = F' ∧ CI T F A' ∧ FR A A') := by
          intro fuel
          induction fuel with
          | zero => intro le i h2 hf; exact absurd hf (by omega)
          | succ fuel ih22 =>
            intro le i h2 hf
            refine j_iload dX2_foldIntoOne_22 rfl ?_
            refine j_aload_n dX2_foldIntoOne_24 rfl ?_
            refine j_getR (r := 28) dX2_foldIntoOne_25 flX2_27 (Nat.le_of_ble_eq_true rfl) rfl rfl ?_
            refine j_getR (r := 29) dX2_foldIntoOne_28 flX2_92 (Nat.le_of_ble_eq_true rfl) rfl rfl ?_
            refine j_iload_n dX2_foldIntoOne_31 rfl ?_
            refine j_ialdN dX2_foldIntoOne_32 (Nat.le_of_ble_eq_true rfl) rfl (by omega) (by decide) ?_
            obtain ⟨t2, ht2, et2⟩ := (hC.2.2.2.1 28 n28).2 u (by omega)
            refine j_top (y0 := nI t2) et2 ?_
            refine j_icmp_geN (tgt := 72) dX2_foldIntoOne_33 (by decide) (by omega) (by omega) (fun c33 => ?_) (fun c33 => ?_)
            · refine j_aload_n dX2_foldIntoOne_72 rfl ?_
              refine j_getR (r := 28) dX2_foldIntoOne_73 flX2_27 (Nat.le_of_ble_eq_true rfl) rfl rfl ?_
              refine j_iload_n dX2_foldIntoOne_76 rfl ?_
              refine j_iload_n dX2_foldIntoOne_77 rfl ?_
              refine j_iload dX2_foldIntoOne_78 rfl ?_
              refine j_callV (y' := mX4_addCost) (As := [.int (nI v), .int (nI j), .int le]) (st := []) dX2_foldIntoOne_80 lkX2_103 okX4_addCost imX4_addCost seX4_addCost (Nat.le_of_ble_eq_true rfl) rfl rfl rfl rfl (Nat.le_of_ble_eq_true rfl) (Nat.le_of_ble_eq_true rfl) (c_addCost28 z _ _ v j (by omega) (by omega) le F A1 hC) (fun v80 F80 A80 hq80 => ?_)
              obtain ⟨rfl, rfl, hC, hk80⟩ := hq80
              have hfr := hfr.k hk80 (by decide)
              refine j_iinc (v := nI (j + 1)) (lv' := [(0, .ref 5), (1, .int (nI u)), (2, .int (nI v)), (3, .int (nI (j + 1))), (4, .int le), (5, .int (nI i))]) dX2_foldIntoOne_83 rfl (nI_add _ 1) (Nat.le_of_ble_eq_true rfl) rfl rfl ?_
              refine j_goto (tgt := 2) dX2_foldIntoOne_86 (by decide) ?_
              refine j_sub [0, 1, 2, 3] rfl ?_
              exact ih2 (j + 1) A80 (by first | exact hC | omega) (by first | exact hfr | omega) (by first | exact h1 | omega) (by omega)
            · refine j_iload dX2_foldIntoOne_36 rfl ?_
              refine j_aload_n dX2_foldIntoOne_38 rfl ?_
              refine j_getR (r := 28) dX2_foldIntoOne_39 flX2_27 (Nat.le_of_ble_eq_true rfl) rfl rfl ?_
              refine j_iload_n dX2_foldIntoOne_42 rfl ?_
              refine j_iload dX2_foldIntoOne_43 rfl ?_
              refine j_callV (y' := mX4_costAt) (As := [.int (nI u), .int (nI i)]) (st := [.int le]) dX2_foldIntoOne_45 lkX2_96 okX4_costAt imX4_costAt seX4_costAt (Nat.le_of_ble_eq_true rfl) rfl rfl rfl rfl (Nat.le_of_ble_eq_true rfl) (Nat.le_of_ble_eq_true rfl) (c_costAt28 z _ _ u i (by omega) (by omega) F A1 hC) (fun v45 F45 A45 hq45 => ?_)
              obtain ⟨rfl, rfl, r45, rfl, hr45⟩ := hq45
              refine j_aload_n dX2_foldIntoOne_48 rfl ?_
              refine j_getR (r := 28) dX2_foldIntoOne_49 flX2_27 (Nat.le_of_ble_eq_true rfl) rfl rfl ?_
              refine j_iload_n dX2_foldIntoOne_52 rfl ?_
              refine j_iload_n dX2_foldIntoOne_53 rfl ?_
              refine j_iload dX2_foldIntoOne_54 rfl ?_
              refine j_iload_n dX2_foldIntoOne_56 rfl ?_
              refine j_callV (y' := mX4_entryAt) (As := [.int (nI u), .int (nI v), .int (nI i), .int (nI j)]) (st := [.int r45, .int le]) dX2_foldIntoOne_57 lkX2_99 okX4_entryAt imX4_entryAt seX4_entryAt (Nat.le_of_ble_eq_true rfl) rfl rfl rfl rfl (Nat.le_of_ble_eq_true rfl) (Nat.le_of_ble_eq_true rfl) (c_entryAt28 z _ _ u v i j (by omega) (by omega) (by omega) (by omega) (by omega) F A1 hC) (fun v57 F57 A57 hq57 => ?_)
              obtain ⟨rfl, rfl, r57, rfl, hr57⟩ := hq57
              refine j_iadd dX2_foldIntoOne_60 ?_
              refine j_min dX2_foldIntoOne_61 lkX2_59 mn_st mn_in mn_co (Nat.le_of_ble_eq_true rfl) ?_
              refine j_istore (lv' := [(0, .ref 5), (1, .int (nI u)), (2, .int (nI v)), (3, .int (nI j)), (4, .int (mj_min le (r45 + r57))), (5, .int (nI i))]) dX2_foldIntoOne_64 (Nat.le_of_ble_eq_true rfl) rfl rfl ?_
              refine j_iinc (v := nI (i + 1)) (lv' := [(0, .ref 5), (1, .int (nI u)), (2, .int (nI v)), (3, .int (nI j)), (4, .int (mj_min le (r45 + r57))), (5, .int (nI (i + 1)))]) dX2_foldIntoOne_66 rfl (nI_add _ 1) (Nat.le_of_ble_eq_true rfl) rfl rfl ?_
              refine j_goto (tgt := 22) dX2_foldIntoOne_69 (by decide) ?_
              exact ih22 (mj_min le (r45 + r57)) (i + 1) (by first | exact h2 | omega) (by omega)
        refine j_ldc dX2_foldIntoOne_15 kcX2_95 ?_
        refine j_istore (lv' := [(0, .ref 5), (1, .int (nI u)), (2, .int (nI v)), (3, .int (nI j)), (4, .int 1000000)]) dX2_foldIntoOne_17 (Nat.le_of_ble_eq_true rfl) rfl rfl ?_
        refine j_iconst (v := nI 0) dX2_foldIntoOne_19 (by decide +kernel) ?_
        refine j_istore (lv' := [(0, .ref 5), (1, .int (nI u)), (2, .int (nI v)), (3, .int (nI j)), (4, .int 1000000), (5, .int (nI 0))]) dX2_foldIntoOne_20 (Nat.le_of_ble_eq_true rfl) rfl rfl ?_
        exact L22 _ 1000000 0 (by first | exact h2 | omega) (Nat.lt_succ_self _)
  refine j_iconst (v := nI 0) dX2_foldIntoOne_0 (by decide +kernel) ?_
  refine j_istore_n (lv' := [(0, .ref 5), (1, .int (nI u)), (2, .int (nI v)), (3, .int (nI 0))]) dX2_foldIntoOne_1 (Nat.le_of_ble_eq_true rfl) rfl rfl ?_
  exact L2 _ 0 A (by first | exact hC | omega) (FR.rf A) (by first | exact h1 | omega) (Nat.lt_succ_self _)

set_option maxHeartbeats 400000 in
set_option maxRecDepth 100000 in
theorem c_foldIntoTwo (z : mj_B) (d : Nat) (T : Tg) (u v w : Nat) (hu : u < 8) (hv : v < 8) (hw : w < 8) (huv : u ≠ v) (huw : u ≠ w) (hvw : v ≠ w) (F A : mj_S) (hC : CI T F A) : J (gC z) mX2_foldIntoTwo (d + 3) 0 [(0, .ref 5), (1, .int (nI u)), (2, .int (nI v)), (3, .int (nI w))] [] F A (fun v F' A' => v = none ∧ F = F' ∧ CI T F A' ∧ FR A A') := by
  have L34 : ∀ (fuel : Nat) (j : Nat) (A1 : mj_S), (CI T F A1) → (FR A A1) → (j ≤ 4) → 4 - j < fuel → J (gC z) mX2_foldIntoTwo (d + 3) 34 [(0, .ref 5), (1, .int (nI u)), (2, .int (nI v)), (3, .int (nI w)), (4, .int (nI j))] [] F A1 (fun v F' A' => v = none ∧ F = F' ∧ CI T F A' ∧ FR A A') := by
    intro fuel
    induction fuel with
    | zero => intro j A1 hC hfr h1 hf; exact absurd hf (by omega)
    | succ fuel ih34 =>
      intro j A1 hC hfr h1 hf
      refine j_iload dX2_foldIntoTwo_34 rfl ?_
      refine j_aload_n dX2_foldIntoTwo_36 rfl ?_
      refine j_getR (r := 28) dX2_foldIntoTwo_37 flX2_27 (Nat.le_of_ble_eq_true rfl) rfl rfl ?_
      refine j_getR (r := 29) dX2_foldIntoTwo_40 flX2_92 (Nat.le_of_ble_eq_true rfl) rfl rfl ?_
      refine j_iload_n dX2_foldIntoTwo_43 rfl ?_
      refine j_ialdN dX2_foldIntoTwo_44 (Nat.le_of_ble_eq_true rfl) rfl (by omega) (by decide) ?_
      obtain ⟨t1, ht1, et1⟩ := (hC.2.2.2.1 28 n28).2 v (by omega)
      refine j_top (y0 := nI t1) et1 ?_
      refine j_icmp_geN (tgt := 168) dX2_foldIntoTwo_45 (by decide) (by omega) (by omega) (fun c45 => ?_) (fun c45 => ?_)
      · exact j_vret dX2_foldIntoTwo_168 rfl ⟨rfl, rfl, hC, hfr⟩
      · have L51 : ∀ (fuel : Nat) (k : Nat) (A2 : mj_S), (CI T F A2) → (FR A A2) → (k ≤ 4) → 4 - k < fuel → J (gC z) mX2_foldIntoTwo (d + 3) 51 [(0, .ref 5), (1, .int (nI u)), (2, .int (nI v)), (3, .int (nI w)), (4, .int (nI j)), (5, .int (nI k))] [] F A2 (fun v F' A' => v = none ∧ F = F' ∧ CI T F A' ∧ FR A A') := by
          intro fuel
          induction fuel with
          | zero => intro k A2 hC hfr h2 hf; exact absurd hf (by omega)
          | succ fuel ih51 =>
            intro k A2 hC hfr h2 hf
            refine j_iload dX2_foldIntoTwo_51 rfl ?_
            refine j_aload_n dX2_foldIntoTwo_53 rfl ?_
            refine j_getR (r := 28) dX2_foldIntoTwo_54 flX2_27 (Nat.le_of_ble_eq_true rfl) rfl rfl ?_
            refine j_getR (r := 29) dX2_foldIntoTwo_57 flX2_92 (Nat.le_of_ble_eq_true rfl) rfl rfl ?_
            refine j_iload_n dX2_foldIntoTwo_60 rfl ?_
            refine j_ialdN dX2_foldIntoTwo_61 (Nat.le_of_ble_eq_true rfl) rfl (by omega) (by decide) ?_
            obtain ⟨t2, ht2, et2⟩ := (hC.2.2.2.1 28 n28).2 w (by omega)
            refine j_top (y0 := nI t2) et2 ?_
            refine j_icmp_geN (tgt := 162) dX2_foldIntoTwo_62 (by decide) (by omega) (by omega) (fun c62 => ?_) (fun c62 => ?_)
            · refine j_iinc (v := nI (j + 1)) (lv' := [(0, .ref 5), (1, .int (nI u)), (2, .int (nI v)), (3, .int (nI w)), (4, .int (nI (j + 1))), (5, .int (nI k))]) dX2_foldIntoTwo_162 rfl (nI_add _ 1) (Nat.le_of_ble_eq_true rfl) rfl rfl ?_
              refine j_goto (tgt := 34) dX2_foldIntoTwo_165 (by decide) ?_
              refine j_sub [0, 1, 2, 3, 4] rfl ?_
              exact ih34 (j + 1) A2 (by first | exact hC | omega) (by first | exact hfr | omega) (by first | exact h1 | omega) (by omega)
            · have L72 : ∀ (fuel : Nat) (le : Int32) (i : Nat), (i ≤ 4) → 4 - i < fuel → J (gC z) mX2_foldIntoTwo (d + 3) 72 [(0, .ref 5), (1, .int (nI u)), (2, .int (nI v)), (3, .int (nI w)), (4, .int (nI j)), (5, .int (nI k)), (6, .int le), (7, .int (nI i))] [] F A2 (fun v F' A' => v = none ∧ F = F' ∧ CI T F A' ∧ FR A A') := by
                intro fuel
                induction fuel with
                | zero => intro le i h3 hf; exact absurd hf (by omega)
                | succ fuel ih72 =>
                  intro le i h3 hf
                  refine j_iload dX2_foldIntoTwo_72 rfl ?_
                  refine j_aload_n dX2_foldIntoTwo_74 rfl ?_
                  refine j_getR (r := 28) dX2_foldIntoTwo_75 flX2_27 (Nat.le_of_ble_eq_true rfl) rfl rfl ?_
                  refine j_getR (r := 29) dX2_foldIntoTwo_78 flX2_92 (Nat.le_of_ble_eq_true rfl) rfl rfl ?_
                  refine j_iload_n dX2_foldIntoTwo_81 rfl ?_
                  refine j_ialdN dX2_foldIntoTwo_82 (Nat.le_of_ble_eq_true rfl) rfl (by omega) (by decide) ?_
                  obtain ⟨t3, ht3, et3⟩ := (hC.2.2.2.1 28 n28).2 u (by omega)
                  refine j_top (y0 := nI t3) et3 ?_
                  refine j_icmp_geN (tgt := 141) dX2_foldIntoTwo_83 (by decide) (by omega) (by omega) (fun c83 => ?_) (fun c83 => ?_)
                  · refine j_aload_n dX2_foldIntoTwo_141 rfl ?_
                    refine j_getR (r := 28) dX2_foldIntoTwo_142 flX2_27 (Nat.le_of_ble_eq_true rfl) rfl rfl ?_
                    refine j_iload_n dX2_foldIntoTwo_145 rfl ?_
                    refine j_iload_n dX2_foldIntoTwo_146 rfl ?_
                    refine j_iload dX2_foldIntoTwo_147 rfl ?_
                    refine j_iload dX2_foldIntoTwo_149 rfl ?_
                    refine j_iload dX2_foldIntoTwo_151 rfl ?_
                    refine j_callV (y' := mX4_addEntry) (As := [.int (nI v), .int (nI w), .int (nI j), .int (nI k), .int le]) (st := []) dX2_foldIntoTwo_153 lkX2_116 okX4_addEntry imX4_addEntry seX4_addEntry (Nat.le_of_ble_eq_true rfl) rfl rfl rfl rfl (Nat.le_of_ble_eq_true rfl) (Nat.le_of_ble_eq_true rfl) (c_addEntry28 z _ _ v w j k (by omega) (by omega) (by omega) (by omega) (by omega) le F A2 hC) (fun v153 F153 A153 hq153 => ?_)
                    obtain ⟨rfl, rfl, hC, hk153⟩ := hq153
                    have hfr := hfr.k hk153 (by decide)
                    refine j_iinc (v := nI (k + 1)) (lv' := [(0, .ref 5), (1, .int (nI u)), (2, .int (nI v)), (3, .int (nI w)), (4, .int (nI j)), (5, .int (nI (k + 1))), (6, .int le), (7, .int (nI i))]) dX2_foldIntoTwo_156 rfl (nI_add _ 1) (Nat.le_of_ble_eq_true rfl) rfl rfl ?_
                    refine j_goto (tgt := 51) dX2_foldIntoTwo_159 (by decide) ?_
                    refine j_sub [0, 1, 2, 3, 4, 5] rfl ?_
                    exact ih51 (k + 1) A153 (by first | exact hC | omega) (by first | exact hfr | omega) (by first | exact h2 | omega) (by omega)
                  · refine j_aload_n dX2_foldIntoTwo_86 rfl ?_
                    refine j_getR (r := 28) dX2_foldIntoTwo_87 flX2_27 (Nat.le_of_ble_eq_true rfl) rfl rfl ?_
                    refine j_iload_n dX2_foldIntoTwo_90 rfl ?_
                    refine j_iload_n dX2_foldIntoTwo_91 rfl ?_
                    refine j_iload dX2_foldIntoTwo_92 rfl ?_
                    refine j_iload dX2_foldIntoTwo_94 rfl ?_
                    refine j_callV (y' := mX4_entryAt) (As := [.int (nI u), .int (nI v), .int (nI i), .int (nI j)]) (st := []) dX2_foldIntoTwo_96 lkX2_99 okX4_entryAt imX4_entryAt seX4_entryAt (Nat.le_of_ble_eq_true rfl) rfl rfl rfl rfl (Nat.le_of_ble_eq_true rfl) (Nat.le_of_ble_eq_true rfl) (c_entryAt28 z _ _ u v i j (by omega) (by omega) (by omega) (by omega) (by omega) F A2 hC) (fun v96 F96 A96 hq96 => ?_)
                    obtain ⟨rfl, rfl, r96, rfl, hr96⟩ := hq96
                    refine j_aload_n dX2_foldIntoTwo_99 rfl ?_
                    refine j_getR (r := 28) dX2_foldIntoTwo_100 flX2_27 (Nat.le_of_ble_eq_true rfl) rfl rfl ?_
                    refine j_iload_n dX2_foldIntoTwo_103 rfl ?_
                    refine j_iload_n dX2_foldIntoTwo_104 rfl ?_
                    refine j_iload dX2_foldIntoTwo_105 rfl ?_
                    refine j_iload dX2_foldIntoTwo_107 rfl ?_
                    refine j_callV (y' := mX4_entryAt) (As := [.int (nI u), .int (nI w), .int (nI i), .int (nI k)]) (st := [.int r96]) dX2_foldIntoTwo_109 lkX2_99 okX4_entryAt imX4_entryAt seX4_entryAt (Nat.le_of_ble_eq_true rfl) rfl rfl rfl rfl (Nat.le_of_ble_eq_true rfl) (Nat.le_of_ble_eq_true rfl) (c_entryAt28 z _ _ u w i k (by omega) (by omega) (by omega) (by omega) (by omega) F A2 hC) (fun v109 F109 A109 hq109 => ?_)
                    obtain ⟨rfl, rfl, r109, rfl, hr109⟩ := hq109
                    refine j_iadd dX2_foldIntoTwo_112 ?_
                    refine j_istore (lv' := [(0, .ref 5), (1, .int (nI u)), (2, .int (nI v)), (3, .int (nI w)), (4, .int (nI j)), (5, .int (nI k)), (6, .int le), (7, .int (nI i)), (8, .int (r96 + r109))]) dX2_foldIntoTwo_113 (Nat.le_of_ble_eq_true rfl) rfl rfl ?_
                    refine j_iload dX2_foldIntoTwo_115 rfl ?_
                    refine j_aload_n dX2_foldIntoTwo_117 rfl ?_
                    refine j_getR (r := 28) dX2_foldIntoTwo_118 flX2_27 (Nat.le_of_ble_eq_true rfl) rfl rfl ?_
                    refine j_iload_n dX2_foldIntoTwo_121 rfl ?_
                    refine j_iload dX2_foldIntoTwo_122 rfl ?_
                    refine j_callV (y' := mX4_costAt) (As := [.int (nI u), .int (nI i)]) (st := [.int le]) dX2_foldIntoTwo_124 lkX2_96 okX4_costAt imX4_costAt seX4_costAt (Nat.le_of_ble_eq_true rfl) rfl rfl rfl rfl (Nat.le_of_ble_eq_true rfl) (Nat.le_of_ble_eq_true rfl) (c_costAt28 z _ _ u i (by omega) (by omega) F A2 hC) (fun v124 F124 A124 hq124 => ?_)
                    obtain ⟨rfl, rfl, r124, rfl, hr124⟩ := hq124
                    refine j_iload dX2_foldIntoTwo_127 rfl ?_
                    refine j_iadd dX2_foldIntoTwo_129 ?_
                    refine j_min dX2_foldIntoTwo_130 lkX2_59 mn_st mn_in mn_co (Nat.le_of_ble_eq_true rfl) ?_
                    refine j_istore (lv' := [(0, .ref 5), (1, .int (nI u)), (2, .int (nI v)), (3, .int (nI w)), (4, .int (nI j)), (5, .int (nI k)), (6, .int (mj_min le (r124 + (r96 + r109)))), (7, .int (nI i)), (8, .int (r96 + r109))]) dX2_foldIntoTwo_133 (Nat.le_of_ble_eq_true rfl) rfl rfl ?_
                    refine j_iinc (v := nI (i + 1)) (lv' := [(0, .ref 5), (1, .int (nI u)), (2, .int (nI v)), (3, .int (nI w)), (4, .int (nI j)), (5, .int (nI k)), (6, .int (mj_min le (r124 + (r96 + r109)))), (7, .int (nI (i + 1))), (8, .int (r96 + r109))]) dX2_foldIntoTwo_135 rfl (nI_add _ 1) (Nat.le_of_ble_eq_true rfl) rfl rfl ?_
                    refine j_goto (tgt := 72) dX2_foldIntoTwo_138 (by decide) ?_
                    refine j_sub [0, 1, 2, 3, 4, 5, 6, 7] rfl ?_
                    exact ih72 (mj_min le (r124 + (r96 + r109))) (i + 1) (by first | exact h3 | omega) (by omega)
              refine j_ldc dX2_foldIntoTwo_65 kcX2_95 ?_
              refine j_istore (lv' := [(0, .ref 5), (1, .int (nI u)), (2, .int (nI v)), (3, .int (nI w)), (4, .int (nI j)), (5, .int (nI k)), (6, .int 1000000)]) dX2_foldIntoTwo_67 (Nat.le_of_ble_eq_true rfl) rfl rfl ?_
              refine j_iconst (v := nI 0) dX2_foldIntoTwo_69 (by decide +kernel) ?_
              refine j_istore (lv' := [(0, .ref 5), (1, .int (nI u)), (2, .int (nI v)), (3, .int (nI w)), (4, .int (nI j)), (5, .int (nI k)), (6, .int 1000000), (7, .int (nI 0))]) dX2_foldIntoTwo_70 (Nat.le_of_ble_eq_true rfl) rfl rfl ?_
              exact L72 _ 1000000 0 (by first | exact h3 | omega) (Nat.lt_succ_self _)
        refine j_iconst (v := nI 0) dX2_foldIntoTwo_48 (by decide +kernel) ?_
        refine j_istore (lv' := [(0, .ref 5), (1, .int (nI u)), (2, .int (nI v)), (3, .int (nI w)), (4, .int (nI j)), (5, .int (nI 0))]) dX2_foldIntoTwo_49 (Nat.le_of_ble_eq_true rfl) rfl rfl ?_
        exact L51 _ 0 A1 (by first | exact hC | omega) (by first | exact hfr | omega) (by first | exact h2 | omega) (Nat.lt_succ_self _)
  have L31 : ∀ (A1 : mj_S), (CI T F A1) → (FR A A1) → J (gC z) mX2_foldIntoTwo (d + 3) 31 [(0, .ref 5), (1, .int (nI u)), (2, .int (nI v)), (3, .int (nI w))] [] F A1 (fun v F' A' => v = none ∧ F = F' ∧ CI T F A' ∧ FR A A') := by
    intro A1 hC hfr
    refine j_iconst (v := nI 0) dX2_foldIntoTwo_31 (by decide +kernel) ?_
    refine j_istore (lv' := [(0, .ref 5), (1, .int (nI u)), (2, .int (nI v)), (3, .int (nI w)), (4, .int (nI 0))]) dX2_foldIntoTwo_32 (Nat.le_of_ble_eq_true rfl) rfl rfl ?_
    exact L34 _ 0 A1 (by first | exact hC | omega) (by first | exact hfr | omega) (by first | exact h1 | omega) (Nat.lt_succ_self _)
  refine j_aload_n dX2_foldIntoTwo_0 rfl ?_
  refine j_getR (r := 28) dX2_foldIntoTwo_1 flX2_27 (Nat.le_of_ble_eq_true rfl) rfl rfl ?_
  refine j_iload_n dX2_foldIntoTwo_4 rfl ?_
  refine j_iload_n dX2_foldIntoTwo_5 rfl ?_
  refine j_callV (y' := mX4_areTied) (As := [.int (nI v), .int (nI w)]) (st := []) dX2_foldIntoTwo_6 lkX2_106 okX4_areTied imX4_areTied seX4_areTied (Nat.le_of_ble_eq_true rfl) rfl rfl rfl rfl (Nat.le_of_ble_eq_true rfl) (Nat.le_of_ble_eq_true rfl) (c_areTied28 z _ _ v (by omega) (nI w) F A hC) (fun v6 F6 A6 hq6 => ?_)
  obtain ⟨rfl, rfl, r6, rfl, hr6⟩ := hq6
  refine j_if_neN (tgt := 31) dX2_foldIntoTwo_9 (by decide) (by omega) (fun c9 => ?_) (fun c9 => ?_)
  · exact L31 A (by first | exact hC | omega) (FR.rf A)
  · refine j_aload_n dX2_foldIntoTwo_12 rfl ?_
    refine j_getR (r := 28) dX2_foldIntoTwo_13 flX2_27 (Nat.le_of_ble_eq_true rfl) rfl rfl ?_
    refine j_getR (r := 30) dX2_foldIntoTwo_16 flX2_82 (Nat.le_of_ble_eq_true rfl) rfl rfl ?_
    refine j_aload_n dX2_foldIntoTwo_19 rfl ?_
    refine j_getR (r := 28) dX2_foldIntoTwo_20 flX2_27 (Nat.le_of_ble_eq_true rfl) rfl rfl ?_
    refine j_getR (r := 32) dX2_foldIntoTwo_23 flX2_109 (Nat.le_of_ble_eq_true rfl) rfl rfl ?_
    refine j_iload_n dX2_foldIntoTwo_26 rfl ?_
    refine j_iload_n dX2_foldIntoTwo_27 rfl ?_
    refine j_callSN (y' := mX5_joinByNoughts) (As := [.ref 30, .ref 32, .int (nI v), .int (nI w)]) (st := []) dX2_foldIntoTwo_28 lnX2_112 okX5_joinByNoughts stX5_joinByNoughts rfl (Nat.le_of_ble_eq_true rfl) (Nat.le_of_ble_eq_true rfl) (c_joinByNoughts z _ 30 32 v w (by omega) (by omega) (by omega) (Nat.le_of_ble_eq_true rfl) rfl (Nat.le_of_ble_eq_true rfl) rfl (by decide) F A) (fun v28 F28 A28 hq28 => ?_)
    obtain ⟨rfl, rfl, -, -, hk28⟩ := hq28
    have hC := hC.ab (a := 30) (b := 32) rfl rfl hk28
    have hfr := (FR.rf A).k2 hk28 (by decide) (by decide)
    exact L31 A28 (by first | exact hC | omega) (by first | exact hfr | omega)

set_option maxHeartbeats 400000 in
set_option maxRecDepth 100000 in
theorem c_outlook (z : mj_B) (d : Nat) (T : Tg) (u i : Nat) (hu : u < 8) (hi : i < 4) (s : Nat) (hs : s < 256) (hub : ¬ s / 2 ^ u % 2 = 1) (F A : mj_S) (hC : CI T F A) : J (gC z) mX2_outlook (d + 2) 0 [(0, .ref 5), (1, .int (nI u)), (2, .int (nI i)), (3, .int (nI s))] [] F A (qP F A fun _ => True) := by
  obtain ⟨n, hn, en⟩ := (hC.2.2.2.1 28 n28).1
  have L14 : ∀ (fuel : Nat) (su : Int32) (v : Nat), (v ≤ n) → n - v < fuel → J (gC z) mX2_outlook (d + 2) 14 [(0, .ref 5), (1, .int (nI u)), (2, .int (nI i)), (3, .int (nI s)), (4, .int su), (5, .int (nI v))] [] F A (qP F A fun _ => True) := by
    intro fuel
    induction fuel with
    | zero => intro su v h1 hf; exact absurd hf (by omega)
    | succ fuel ih14 =>
      intro su v h1 hf
      refine j_iload dX2_outlook_14 rfl ?_
      refine j_aload_n dX2_outlook_16 rfl ?_
      refine j_getR (r := 28) dX2_outlook_17 flX2_27 (Nat.le_of_ble_eq_true rfl) rfl rfl ?_
      refine j_getI dX2_outlook_20 flX2_39 (Nat.le_of_ble_eq_true rfl) rfl rfl ?_
      refine j_top (y0 := nI n) en ?_
      refine j_icmp_geN (tgt := 60) dX2_outlook_23 (by decide) (by omega) (by omega) (fun c23 => ?_) (fun c23 => ?_)
      · refine j_iload dX2_outlook_60 rfl ?_
        exact j_iret dX2_outlook_62 rfl rfl ⟨rfl, rfl, _, rfl, trivial⟩
      · refine j_iload_n dX2_outlook_26 rfl ?_
        refine j_iload dX2_outlook_27 rfl ?_
        refine j_callSN (y' := mX5_hasBit) (As := [.int (nI s), .int (nI v)]) (st := []) dX2_outlook_29 lnX2_85 okX5_hasBit stX5_hasBit rfl (Nat.le_of_ble_eq_true rfl) (Nat.le_of_ble_eq_true rfl) (c_hasBit z _ (nI s) (nI v) F A) (fun v29 F29 A29 hq29 => ?_)
        obtain ⟨rfl, rfl, r29, rfl, hr29⟩ := hq29
        have hb29 : r29 ≤ 1 := hr29.1
        refine j_if_eqN (tgt := 54) dX2_outlook_32 (by decide) (by omega) (fun c32 => ?_) (fun c32 => ?_)
        · refine j_iinc (v := nI (v + 1)) (lv' := [(0, .ref 5), (1, .int (nI u)), (2, .int (nI i)), (3, .int (nI s)), (4, .int su), (5, .int (nI (v + 1)))]) dX2_outlook_54 rfl (nI_add _ 1) (Nat.le_of_ble_eq_true rfl) rfl rfl ?_
          refine j_goto (tgt := 14) dX2_outlook_57 (by decide) ?_
          exact ih14 su (v + 1) (by first | exact h1 | omega) (by omega)
        · have hne : u ≠ v := fun e => hub (by rw [e]; exact is_bit hs (by omega) (hr29.2.mp (by omega)))
          refine j_iload dX2_outlook_35 rfl ?_
          refine j_aload_n dX2_outlook_37 rfl ?_
          refine j_getR (r := 28) dX2_outlook_38 flX2_27 (Nat.le_of_ble_eq_true rfl) rfl rfl ?_
          refine j_iload_n dX2_outlook_41 rfl ?_
          refine j_iload_n dX2_outlook_42 rfl ?_
          refine j_iload dX2_outlook_43 rfl ?_
          refine j_callV (y' := mX4_leastAcross) (As := [.int (nI u), .int (nI i), .int (nI v)]) (st := [.int su]) dX2_outlook_45 lkX2_124 okX4_leastAcross imX4_leastAcross seX4_leastAcross (Nat.le_of_ble_eq_true rfl) rfl rfl rfl rfl (Nat.le_of_ble_eq_true rfl) (Nat.le_of_ble_eq_true rfl) (c_leastAcross28 z _ _ u i v (by omega) (by omega) (by omega) (by omega) F A hC) (fun v45 F45 A45 hq45 => ?_)
          obtain ⟨rfl, rfl, r45, rfl, hr45⟩ := hq45
          refine j_iadd dX2_outlook_48 ?_
          refine j_callSN (y' := mX5_capped) (As := [.int (su + r45)]) (st := []) dX2_outlook_49 lnX2_127 okX5_capped stX5_capped rfl (Nat.le_of_ble_eq_true rfl) (Nat.le_of_ble_eq_true rfl) (c_capped z _ (su + r45) F A) (fun v49 F49 A49 hq49 => ?_)
          obtain ⟨rfl, rfl, r49, rfl, hr49⟩ := hq49
          refine j_istore (lv' := [(0, .ref 5), (1, .int (nI u)), (2, .int (nI i)), (3, .int (nI s)), (4, .int r49), (5, .int (nI v))]) dX2_outlook_52 (Nat.le_of_ble_eq_true rfl) rfl rfl ?_
          refine j_iinc (v := nI (v + 1)) (lv' := [(0, .ref 5), (1, .int (nI u)), (2, .int (nI i)), (3, .int (nI s)), (4, .int r49), (5, .int (nI (v + 1)))]) dX2_outlook_54 rfl (nI_add _ 1) (Nat.le_of_ble_eq_true rfl) rfl rfl ?_
          refine j_goto (tgt := 14) dX2_outlook_57 (by decide) ?_
          exact ih14 r49 (v + 1) (by first | exact h1 | omega) (by omega)
  refine j_aload_n dX2_outlook_0 rfl ?_
  refine j_getR (r := 28) dX2_outlook_1 flX2_27 (Nat.le_of_ble_eq_true rfl) rfl rfl ?_
  refine j_iload_n dX2_outlook_4 rfl ?_
  refine j_iload_n dX2_outlook_5 rfl ?_
  refine j_callV (y' := mX4_costAt) (As := [.int (nI u), .int (nI i)]) (st := []) dX2_outlook_6 lkX2_96 okX4_costAt imX4_costAt seX4_costAt (Nat.le_of_ble_eq_true rfl) rfl rfl rfl rfl (Nat.le_of_ble_eq_true rfl) (Nat.le_of_ble_eq_true rfl) (c_costAt28 z _ _ u i (by omega) (by omega) F A hC) (fun v6 F6 A6 hq6 => ?_)
  obtain ⟨rfl, rfl, r6, rfl, hr6⟩ := hq6
  refine j_istore (lv' := [(0, .ref 5), (1, .int (nI u)), (2, .int (nI i)), (3, .int (nI s)), (4, .int r6)]) dX2_outlook_9 (Nat.le_of_ble_eq_true rfl) rfl rfl ?_
  refine j_iconst (v := nI 0) dX2_outlook_11 (by decide +kernel) ?_
  refine j_istore (lv' := [(0, .ref 5), (1, .int (nI u)), (2, .int (nI i)), (3, .int (nI s)), (4, .int r6), (5, .int (nI 0))]) dX2_outlook_12 (Nat.le_of_ble_eq_true rfl) rfl rfl ?_
  exact L14 _ r6 0 (by first | exact h1 | omega) (Nat.lt_succ_self _)

theorem CB.tk {T : Nat} {F A : mj_S} (h : CB T F A) (i : Nat) {t : Nat} (ht : t ≤ 3) : CB T F (mj_u A 8 i (nI t)) := ⟨h.1, h.2.1, h.2.2.1, fun o ho => ⟨(h.2.2.2.1 o ho).1, by rw [mj_u_ne A _ (isN_lit ho (by omega))]; exact (h.2.2.2.1 o ho).2⟩, ⟨h.2.2.2.2.1.1, rg_u h.2.2.2.2.1.2.1 ht, h.2.2.2.2.1.2.2⟩, h.2.2.2.2.2⟩
theorem CB.ord {T : Nat} {F A : mj_S} (h : CB T F A) (i : Nat) {t : Nat} (ht : t ≤ 7) : CB T F (mj_u A 6 i (nI t)) := ⟨h.1, h.2.1, h.2.2.1, fun o ho => ⟨(h.2.2.2.1 o ho).1, by rw [mj_u_ne A _ (isN_lit ho (by omega))]; exact (h.2.2.2.1 o ho).2⟩, ⟨rg_u h.2.2.2.2.1.1 ht, h.2.2.2.2.1.2⟩, h.2.2.2.2.2⟩
theorem CB.c12 {T : Nat} {F A : mj_S} (h : CB T F A) (i : Nat) {t : Nat} (ht : t ≤ 3) : CB T F (mj_u A 12 i (nI t)) := ⟨h.1, h.2.1, h.2.2.1, fun o ho => ⟨(h.2.2.2.1 o ho).1, by rw [mj_u_ne A _ (isN_lit ho (by omega))]; exact (h.2.2.2.1 o ho).2⟩, ⟨h.2.2.2.2.1.1, h.2.2.2.2.1.2.1, rg_u h.2.2.2.2.1.2.2.1 ht, h.2.2.2.2.1.2.2.2⟩, h.2.2.2.2.2⟩
theorem CB.c16 {T : Nat} {F A : mj_S} (h : CB T F A) (i : Nat) {t : Nat} (ht : t ≤ 3) : CB T F (mj_u A 16 i (nI t)) := ⟨h.1, h.2.1, h.2.2.1, fun o ho => ⟨(h.2.2.2.1 o ho).1, by rw [mj_u_ne A _ (isN_lit ho (by omega))]; exact (h.2.2.2.1 o ho).2⟩, ⟨h.2.2.2.2.1.1, h.2.2.2.2.1.2.1, h.2.2.2.2.1.2.2.1, rg_u h.2.2.2.2.1.2.2.2 ht⟩, h.2.2.2.2.2⟩
theorem CI.tk {T : Tg} {F A : mj_S} (h : CI T F A) (i : Nat) {t : Nat} (ht : t ≤ 3) : CI T F (mj_u A 8 i (nI t)) := (h.b.tk i ht).g (h.p.u rfl i (nI t))
theorem CI.ord {T : Tg} {F A : mj_S} (h : CI T F A) (i : Nat) {t : Nat} (ht : t ≤ 7) : CI T F (mj_u A 6 i (nI t)) := (h.b.ord i ht).g (h.p.u rfl i (nI t))
theorem CI.c12 {T : Tg} {F A : mj_S} (h : CI T F A) (i : Nat) {t : Nat} (ht : t ≤ 3) : CI T F (mj_u A 12 i (nI t)) := (h.b.c12 i ht).g (h.p.u rfl i (nI t))
theorem CI.c16 {T : Tg} {F A : mj_S} (h : CI T F A) (i : Nat) {t : Nat} (ht : t ≤ 3) : CI T F (mj_u A 16 i (nI t)) := (h.b.c16 i ht).g (h.p.u rfl i (nI t))

set_option maxHeartbeats 400000 in
set_option maxRecDepth 100000 in
theorem c_guess (z : mj_B) (d : Nat) (T : Tg) (u : Nat) (hu : u < 8) (s : Nat) (hs : s < 256) (hub : ¬ s / 2 ^ u % 2 = 1) (F A : mj_S) (hC : CI T F A) : J (gC z) mX2_guess (d + 3) 0 [(0, .ref 5), (1, .int (nI u)), (2, .int (nI s))] [] F A (fun v F' A' => v = none ∧ mj_u F 5 3 (nI 1) = F' ∧ CI T F' A' ∧ FR A A') := by
  obtain ⟨n, hn, en⟩ := (hC.2.2.2.1 28 n28).1
  refine j_aload_n dX2_guess_0 rfl ?_
  refine j_iconst (v := nI 1) dX2_guess_1 (by decide +kernel) ?_
  refine j_put dX2_guess_2 fpX2_35 (Nat.le_of_ble_eq_true rfl) rfl rfl (by decide +kernel) rfl ?_
  have hC := hC.f (k := 5) (s := 3) rfl (nI 1)
  obtain ⟨F1, hF1⟩ : ∃ F1, F1 = mj_u F 5 3 (nI 1) := ⟨_, rfl⟩
  rw [← hF1] at hC
  refine j_F hF1.symm ?_
  have en1 : F1 28 0 = nI n := by rw [hF1]; exact en
  have L73 : ∀ (fuel : Nat) (ch : Nat) (v : Nat) (A1 : mj_S), (CI T F1 A1) → (FR A A1) → (v ≤ n ∧ ch ≤ 3) → n - v < fuel → J (gC z) mX2_guess (d + 3) 73 [(0, .ref 5), (1, .int (nI u)), (2, .int (nI s)), (3, .int (nI ch)), (5, .int (nI v))] [] F1 A1 (fun v F' A' => v = none ∧ mj_u F 5 3 (nI 1) = F' ∧ CI T F' A' ∧ FR A A') := by
    intro fuel
    induction fuel with
    | zero => intro ch v A1 hC hfr h2 hf; exact absurd hf (by omega)
    | succ fuel ih73 =>
      intro ch v A1 hC hfr h2 hf
      refine j_iload dX2_guess_73 rfl ?_
      refine j_aload_n dX2_guess_75 rfl ?_
      refine j_getR (r := 28) dX2_guess_76 flX2_27 (Nat.le_of_ble_eq_true rfl) rfl rfl ?_
      refine j_getI dX2_guess_79 flX2_39 (Nat.le_of_ble_eq_true rfl) rfl rfl ?_
      refine j_top (y0 := nI n) en1 ?_
      refine j_icmp_geN (tgt := 148) dX2_guess_82 (by decide) (by omega) (by omega) (fun c82 => ?_) (fun c82 => ?_)
      · exact j_vret dX2_guess_148 rfl ⟨rfl, hF1.symm, hC, hfr⟩
      · refine j_iload_n dX2_guess_85 rfl ?_
        refine j_iload dX2_guess_86 rfl ?_
        refine j_callSN (y' := mX5_hasBit) (As := [.int (nI s), .int (nI v)]) (st := []) dX2_guess_88 lnX2_85 okX5_hasBit stX5_hasBit rfl (Nat.le_of_ble_eq_true rfl) (Nat.le_of_ble_eq_true rfl) (c_hasBit z _ (nI s) (nI v) F1 A1) (fun v88 F88 A88 hq88 => ?_)
        obtain ⟨rfl, rfl, r88, rfl, hr88⟩ := hq88
        have hb88 : r88 ≤ 1 := hr88.1
        refine j_if_eqN (tgt := 142) dX2_guess_91 (by decide) (by omega) (fun c91 => ?_) (fun c91 => ?_)
        · refine j_iinc (v := nI (v + 1)) (lv' := [(0, .ref 5), (1, .int (nI u)), (2, .int (nI s)), (3, .int (nI ch)), (5, .int (nI (v + 1)))]) dX2_guess_142 rfl (nI_add _ 1) (Nat.le_of_ble_eq_true rfl) rfl rfl ?_
          refine j_goto (tgt := 73) dX2_guess_145 (by decide) ?_
          exact ih73 ch (v + 1) A1 (by first | exact hC | omega) (by first | exact hfr | omega) (by first | exact h2 | omega) (by omega)
        · have hne : u ≠ v := fun e => hub (by rw [e]; exact is_bit hs (by omega) (hr88.2.mp (by omega)))
          have L97 : ∀ (fuel : Nat) (j : Nat) (A2 : mj_S), (CI T F1 A2) → (FR A A2) → (j ≤ 4) → 4 - j < fuel → J (gC z) mX2_guess (d + 3) 97 [(0, .ref 5), (1, .int (nI u)), (2, .int (nI s)), (3, .int (nI ch)), (5, .int (nI v)), (6, .int (nI j))] [] F1 A2 (fun v F' A' => v = none ∧ mj_u F 5 3 (nI 1) = F' ∧ CI T F' A' ∧ FR A A') := by
            intro fuel
            induction fuel with
            | zero => intro j A2 hC hfr h3 hf; exact absurd hf (by omega)
            | succ fuel ih97 =>
              intro j A2 hC hfr h3 hf
              refine j_iload dX2_guess_97 rfl ?_
              refine j_aload_n dX2_guess_99 rfl ?_
              refine j_getR (r := 28) dX2_guess_100 flX2_27 (Nat.le_of_ble_eq_true rfl) rfl rfl ?_
              refine j_getR (r := 29) dX2_guess_103 flX2_92 (Nat.le_of_ble_eq_true rfl) rfl rfl ?_
              refine j_iload dX2_guess_106 rfl ?_
              refine j_ialdN dX2_guess_108 (Nat.le_of_ble_eq_true rfl) rfl (by omega) (by decide) ?_
              obtain ⟨t1, ht1, et1⟩ := (hC.2.2.2.1 28 n28).2 v (by omega)
              refine j_top (y0 := nI t1) et1 ?_
              refine j_icmp_geN (tgt := 142) dX2_guess_109 (by decide) (by omega) (by omega) (fun c109 => ?_) (fun c109 => ?_)
              · refine j_iinc (v := nI (v + 1)) (lv' := [(0, .ref 5), (1, .int (nI u)), (2, .int (nI s)), (3, .int (nI ch)), (5, .int (nI (v + 1))), (6, .int (nI j))]) dX2_guess_142 rfl (nI_add _ 1) (Nat.le_of_ble_eq_true rfl) rfl rfl ?_
                refine j_goto (tgt := 73) dX2_guess_145 (by decide) ?_
                refine j_sub [0, 1, 2, 3, 4] rfl ?_
                exact ih73 ch (v + 1) A2 (by first | exact hC | omega) (by first | exact hfr | omega) (by first | exact h2 | omega) (by omega)
              · refine j_aload_n dX2_guess_112 rfl ?_
                refine j_getR (r := 28) dX2_guess_113 flX2_27 (Nat.le_of_ble_eq_true rfl) rfl rfl ?_
                refine j_iload dX2_guess_116 rfl ?_
                refine j_iload dX2_guess_118 rfl ?_
                refine j_aload_n dX2_guess_120 rfl ?_
                refine j_getR (r := 28) dX2_guess_121 flX2_27 (Nat.le_of_ble_eq_true rfl) rfl rfl ?_
                refine j_iload_n dX2_guess_124 rfl ?_
                refine j_iload dX2_guess_125 rfl ?_
                refine j_iload_n dX2_guess_127 rfl ?_
                refine j_iload dX2_guess_128 rfl ?_
                refine j_callV (y' := mX4_entryAt) (As := [.int (nI u), .int (nI v), .int (nI ch), .int (nI j)]) (st := [.int (nI j), .int (nI v), .ref 28]) dX2_guess_130 lkX2_99 okX4_entryAt imX4_entryAt seX4_entryAt (Nat.le_of_ble_eq_true rfl) rfl rfl rfl rfl (Nat.le_of_ble_eq_true rfl) (Nat.le_of_ble_eq_true rfl) (c_entryAt28 z _ _ u v ch j (by omega) (by omega) (by omega) (by omega) (by omega) F1 A2 hC) (fun v130 F130 A130 hq130 => ?_)
                obtain ⟨rfl, rfl, r130, rfl, hr130⟩ := hq130
                refine j_callV (y' := mX4_addCost) (As := [.int (nI v), .int (nI j), .int r130]) (st := []) dX2_guess_133 lkX2_103 okX4_addCost imX4_addCost seX4_addCost (Nat.le_of_ble_eq_true rfl) rfl rfl rfl rfl (Nat.le_of_ble_eq_true rfl) (Nat.le_of_ble_eq_true rfl) (c_addCost28 z _ _ v j (by omega) (by omega) r130 F1 A2 hC) (fun v133 F133 A133 hq133 => ?_)
                obtain ⟨rfl, rfl, hC, hk133⟩ := hq133
                have hfr := hfr.k hk133 (by decide)
                refine j_iinc (v := nI (j + 1)) (lv' := [(0, .ref 5), (1, .int (nI u)), (2, .int (nI s)), (3, .int (nI ch)), (5, .int (nI v)), (6, .int (nI (j + 1)))]) dX2_guess_136 rfl (nI_add _ 1) (Nat.le_of_ble_eq_true rfl) rfl rfl ?_
                refine j_goto (tgt := 97) dX2_guess_139 (by decide) ?_
                exact ih97 (j + 1) A133 (by first | exact hC | omega) (by first | exact hfr | omega) (by first | exact h3 | omega) (by omega)
          refine j_iconst (v := nI 0) dX2_guess_94 (by decide +kernel) ?_
          refine j_istore (lv' := [(0, .ref 5), (1, .int (nI u)), (2, .int (nI s)), (3, .int (nI ch)), (5, .int (nI v)), (6, .int (nI 0))]) dX2_guess_95 (Nat.le_of_ble_eq_true rfl) rfl rfl ?_
          exact L97 _ 0 A1 (by first | exact hC | omega) (by first | exact hfr | omega) (by first | exact h3 | omega) (Nat.lt_succ_self _)
  have L19 : ∀ (fuel : Nat) (ch : Nat) (le : Int32) (i : Nat), (i ≤ 4 ∧ ch ≤ 3) → 4 - i < fuel → J (gC z) mX2_guess (d + 3) 19 [(0, .ref 5), (1, .int (nI u)), (2, .int (nI s)), (3, .int (nI ch)), (4, .int le), (5, .int (nI i))] [] F1 A (fun v F' A' => v = none ∧ mj_u F 5 3 (nI 1) = F' ∧ CI T F' A' ∧ FR A A') := by
    intro fuel
    induction fuel with
    | zero => intro ch le i h1 hf; exact absurd hf (by omega)
    | succ fuel ih19 =>
      intro ch le i h1 hf
      refine j_iload dX2_guess_19 rfl ?_
      refine j_aload_n dX2_guess_21 rfl ?_
      refine j_getR (r := 28) dX2_guess_22 flX2_27 (Nat.le_of_ble_eq_true rfl) rfl rfl ?_
      refine j_getR (r := 29) dX2_guess_25 flX2_92 (Nat.le_of_ble_eq_true rfl) rfl rfl ?_
      refine j_iload_n dX2_guess_28 rfl ?_
      refine j_ialdN dX2_guess_29 (Nat.le_of_ble_eq_true rfl) rfl (by omega) (by decide) ?_
      obtain ⟨t2, ht2, et2⟩ := (hC.2.2.2.1 28 n28).2 u (by omega)
      refine j_top (y0 := nI t2) et2 ?_
      refine j_icmp_geN (tgt := 63) dX2_guess_30 (by decide) (by omega) (by omega) (fun c30 => ?_) (fun c30 => ?_)
      · refine j_aload_n dX2_guess_63 rfl ?_
        refine j_getR (r := 8) dX2_guess_64 flX2_18 (Nat.le_of_ble_eq_true rfl) rfl rfl ?_
        refine j_iload_n dX2_guess_67 rfl ?_
        refine j_iload_n dX2_guess_68 rfl ?_
        refine j_iastN dX2_guess_69 (Nat.le_of_ble_eq_true rfl) rfl (by omega) (by decide) ?_
        have hC := hC.tk u (t := ch) (by omega)
        have hfr := (FR.rf A).u (k0 := 8) (Or.inr rfl) u (nI ch)
        refine j_iconst (v := nI 0) dX2_guess_70 (by decide +kernel) ?_
        refine j_istore (lv' := [(0, .ref 5), (1, .int (nI u)), (2, .int (nI s)), (3, .int (nI ch)), (4, .int le), (5, .int (nI 0))]) dX2_guess_71 (Nat.le_of_ble_eq_true rfl) rfl rfl ?_
        refine j_sub [0, 1, 2, 3, 5] rfl ?_
        exact L73 _ ch 0 (mj_u A 8 u (nI ch)) (by first | exact hC | omega) (by first | exact hfr | omega) (by first | exact h2 | omega) (Nat.lt_succ_self _)
      · refine j_aload_n dX2_guess_33 rfl ?_
        refine j_iload_n dX2_guess_34 rfl ?_
        refine j_iload dX2_guess_35 rfl ?_
        refine j_iload_n dX2_guess_37 rfl ?_
        refine j_callV (y' := mX2_outlook) (As := [.int (nI u), .int (nI i), .int (nI s)]) (st := []) dX2_guess_38 lkX2_120 okX2_outlook imX2_outlook seX2_outlook (Nat.le_of_ble_eq_true rfl) rfl rfl rfl rfl (Nat.le_of_ble_eq_true rfl) (Nat.le_of_ble_eq_true rfl) (c_outlook z _ _ u i (by omega) (by omega) s (by omega) hub F1 A hC) (fun v38 F38 A38 hq38 => ?_)
        obtain ⟨rfl, rfl, r38, rfl, -⟩ := hq38
        refine j_istore (lv' := [(0, .ref 5), (1, .int (nI u)), (2, .int (nI s)), (3, .int (nI ch)), (4, .int le), (5, .int (nI i)), (6, .int r38)]) dX2_guess_41 (Nat.le_of_ble_eq_true rfl) rfl rfl ?_
        refine j_iload dX2_guess_43 rfl ?_
        refine j_iload dX2_guess_45 rfl ?_
        refine j_icmp_ge (tgt := 57) dX2_guess_47 (by decide) (fun c47 => ?_) (fun c47 => ?_)
        · refine j_iinc (v := nI (i + 1)) (lv' := [(0, .ref 5), (1, .int (nI u)), (2, .int (nI s)), (3, .int (nI ch)), (4, .int le), (5, .int (nI (i + 1))), (6, .int r38)]) dX2_guess_57 rfl (nI_add _ 1) (Nat.le_of_ble_eq_true rfl) rfl rfl ?_
          refine j_goto (tgt := 19) dX2_guess_60 (by decide) ?_
          refine j_sub [0, 1, 2, 3, 4, 5] rfl ?_
          exact ih19 ch le (i + 1) (by first | exact h1 | omega) (by omega)
        · refine j_iload dX2_guess_50 rfl ?_
          refine j_istore (lv' := [(0, .ref 5), (1, .int (nI u)), (2, .int (nI s)), (3, .int (nI ch)), (4, .int r38), (5, .int (nI i)), (6, .int r38)]) dX2_guess_52 (Nat.le_of_ble_eq_true rfl) rfl rfl ?_
          refine j_iload dX2_guess_54 rfl ?_
          refine j_istore_n (lv' := [(0, .ref 5), (1, .int (nI u)), (2, .int (nI s)), (3, .int (nI i)), (4, .int r38), (5, .int (nI i)), (6, .int r38)]) dX2_guess_56 (Nat.le_of_ble_eq_true rfl) rfl rfl ?_
          refine j_iinc (v := nI (i + 1)) (lv' := [(0, .ref 5), (1, .int (nI u)), (2, .int (nI s)), (3, .int (nI i)), (4, .int r38), (5, .int (nI (i + 1))), (6, .int r38)]) dX2_guess_57 rfl (nI_add _ 1) (Nat.le_of_ble_eq_true rfl) rfl rfl ?_
          refine j_goto (tgt := 19) dX2_guess_60 (by decide) ?_
          refine j_sub [0, 1, 2, 3, 4, 5] rfl ?_
          exact ih19 i r38 (i + 1) (by first | exact h1 | omega) (by omega)
  refine j_iconst (v := nI 0) dX2_guess_5 (by decide +kernel) ?_
  refine j_istore_n (lv' := [(0, .ref 5), (1, .int (nI u)), (2, .int (nI s)), (3, .int (nI 0))]) dX2_guess_6 (Nat.le_of_ble_eq_true rfl) rfl rfl ?_
  refine j_aload_n dX2_guess_7 rfl ?_
  refine j_iload_n dX2_guess_8 rfl ?_
  refine j_iconst (v := nI 0) dX2_guess_9 (by decide +kernel) ?_
  refine j_iload_n dX2_guess_10 rfl ?_
  refine j_callV (y' := mX2_outlook) (As := [.int (nI u), .int (nI 0), .int (nI s)]) (st := []) dX2_guess_11 lkX2_120 okX2_outlook imX2_outlook seX2_outlook (Nat.le_of_ble_eq_true rfl) rfl rfl rfl rfl (Nat.le_of_ble_eq_true rfl) (Nat.le_of_ble_eq_true rfl) (c_outlook z _ _ u 0 (by omega) (by omega) s (by omega) hub F1 A hC) (fun v11 F11 A11 hq11 => ?_)
  obtain ⟨rfl, rfl, r11, rfl, -⟩ := hq11
  refine j_istore (lv' := [(0, .ref 5), (1, .int (nI u)), (2, .int (nI s)), (3, .int (nI 0)), (4, .int r11)]) dX2_guess_14 (Nat.le_of_ble_eq_true rfl) rfl rfl ?_
  refine j_iconst (v := nI 1) dX2_guess_16 (by decide +kernel) ?_
  refine j_istore (lv' := [(0, .ref 5), (1, .int (nI u)), (2, .int (nI s)), (3, .int (nI 0)), (4, .int r11), (5, .int (nI 1))]) dX2_guess_17 (Nat.le_of_ble_eq_true rfl) rfl rfl ?_
  exact L19 _ 0 r11 1 (by first | exact h1 | omega) (Nat.lt_succ_self _)

set_option maxHeartbeats 400000 in
set_option maxRecDepth 100000 in
theorem c_firstLeast (z : mj_B) (d : Nat) (T : Tg) (u : Nat) (hu : u < 8) (x : Int32) (hoth : (x >>> (nI u &&& 31)) &&& nI 1 = 0) (F A : mj_S) (hC : CI T F A) : J (gC z) mX2_firstLeast (d + 3) 0 [(0, .ref 5), (1, .int (nI u)), (2, .int x)] [] F A (qN F A fun r => r ≤ 3) := by
  have L21 : ∀ (fuel : Nat) (ch : Nat) (le : Int32) (i : Nat), (i ≤ 4 ∧ ch ≤ 3) → 4 - i < fuel → J (gC z) mX2_firstLeast (d + 3) 21 [(0, .ref 5), (1, .int (nI u)), (2, .int x), (3, .int (nI ch)), (4, .int le), (5, .int (nI i))] [] F A (qN F A fun r => r ≤ 3) := by
    intro fuel
    induction fuel with
    | zero => intro ch le i h1 hf; exact absurd hf (by omega)
    | succ fuel ih21 =>
      intro ch le i h1 hf
      refine j_iload dX2_firstLeast_21 rfl ?_
      refine j_aload_n dX2_firstLeast_23 rfl ?_
      refine j_getR (r := 28) dX2_firstLeast_24 flX2_27 (Nat.le_of_ble_eq_true rfl) rfl rfl ?_
      refine j_getR (r := 29) dX2_firstLeast_27 flX2_92 (Nat.le_of_ble_eq_true rfl) rfl rfl ?_
      refine j_iload_n dX2_firstLeast_30 rfl ?_
      refine j_ialdN dX2_firstLeast_31 (Nat.le_of_ble_eq_true rfl) rfl (by omega) (by decide) ?_
      obtain ⟨t1, ht1, et1⟩ := (hC.2.2.2.1 28 n28).2 u (by omega)
      refine j_top (y0 := nI t1) et1 ?_
      refine j_icmp_geN (tgt := 72) dX2_firstLeast_32 (by decide) (by omega) (by omega) (fun c32 => ?_) (fun c32 => ?_)
      · refine j_iload_n dX2_firstLeast_72 rfl ?_
        exact j_iret dX2_firstLeast_73 rfl rfl ⟨rfl, rfl, _, rfl, by omega⟩
      · refine j_aload_n dX2_firstLeast_35 rfl ?_
        refine j_getR (r := 28) dX2_firstLeast_36 flX2_27 (Nat.le_of_ble_eq_true rfl) rfl rfl ?_
        refine j_iload_n dX2_firstLeast_39 rfl ?_
        refine j_iload dX2_firstLeast_40 rfl ?_
        refine j_iload_n dX2_firstLeast_42 rfl ?_
        refine j_aload_n dX2_firstLeast_43 rfl ?_
        refine j_getR (r := 8) dX2_firstLeast_44 flX2_18 (Nat.le_of_ble_eq_true rfl) rfl rfl ?_
        refine j_callV (y' := mX4_costBeside) (As := [.int (nI u), .int (nI i), .int x, .ref 8]) (st := []) dX2_firstLeast_47 lkX2_133 okX4_costBeside imX4_costBeside seX4_costBeside (Nat.le_of_ble_eq_true rfl) rfl rfl rfl rfl (Nat.le_of_ble_eq_true rfl) (Nat.le_of_ble_eq_true rfl) (c_costBeside28_8 z _ _ u i (by omega) (by omega) x hoth F A hC) (fun v47 F47 A47 hq47 => ?_)
        obtain ⟨rfl, rfl, r47, rfl, -⟩ := hq47
        refine j_istore (lv' := [(0, .ref 5), (1, .int (nI u)), (2, .int x), (3, .int (nI ch)), (4, .int le), (5, .int (nI i)), (6, .int r47)]) dX2_firstLeast_50 (Nat.le_of_ble_eq_true rfl) rfl rfl ?_
        refine j_iload dX2_firstLeast_52 rfl ?_
        refine j_iload dX2_firstLeast_54 rfl ?_
        refine j_icmp_ge (tgt := 66) dX2_firstLeast_56 (by decide) (fun c56 => ?_) (fun c56 => ?_)
        · refine j_iinc (v := nI (i + 1)) (lv' := [(0, .ref 5), (1, .int (nI u)), (2, .int x), (3, .int (nI ch)), (4, .int le), (5, .int (nI (i + 1))), (6, .int r47)]) dX2_firstLeast_66 rfl (nI_add _ 1) (Nat.le_of_ble_eq_true rfl) rfl rfl ?_
          refine j_goto (tgt := 21) dX2_firstLeast_69 (by decide) ?_
          refine j_sub [0, 1, 2, 3, 4, 5] rfl ?_
          exact ih21 ch le (i + 1) (by first | exact h1 | omega) (by omega)
        · refine j_iload dX2_firstLeast_59 rfl ?_
          refine j_istore (lv' := [(0, .ref 5), (1, .int (nI u)), (2, .int x), (3, .int (nI ch)), (4, .int r47), (5, .int (nI i)), (6, .int r47)]) dX2_firstLeast_61 (Nat.le_of_ble_eq_true rfl) rfl rfl ?_
          refine j_iload dX2_firstLeast_63 rfl ?_
          refine j_istore_n (lv' := [(0, .ref 5), (1, .int (nI u)), (2, .int x), (3, .int (nI i)), (4, .int r47), (5, .int (nI i)), (6, .int r47)]) dX2_firstLeast_65 (Nat.le_of_ble_eq_true rfl) rfl rfl ?_
          refine j_iinc (v := nI (i + 1)) (lv' := [(0, .ref 5), (1, .int (nI u)), (2, .int x), (3, .int (nI i)), (4, .int r47), (5, .int (nI (i + 1))), (6, .int r47)]) dX2_firstLeast_66 rfl (nI_add _ 1) (Nat.le_of_ble_eq_true rfl) rfl rfl ?_
          refine j_goto (tgt := 21) dX2_firstLeast_69 (by decide) ?_
          refine j_sub [0, 1, 2, 3, 4, 5] rfl ?_
          exact ih21 i r47 (i + 1) (by first | exact h1 | omega) (by omega)
  refine j_iconst (v := nI 0) dX2_firstLeast_0 (by decide +kernel) ?_
  refine j_istore_n (lv' := [(0, .ref 5), (1, .int (nI u)), (2, .int x), (3, .int (nI 0))]) dX2_firstLeast_1 (Nat.le_of_ble_eq_true rfl) rfl rfl ?_
  refine j_aload_n dX2_firstLeast_2 rfl ?_
  refine j_getR (r := 28) dX2_firstLeast_3 flX2_27 (Nat.le_of_ble_eq_true rfl) rfl rfl ?_
  refine j_iload_n dX2_firstLeast_6 rfl ?_
  refine j_iconst (v := nI 0) dX2_firstLeast_7 (by decide +kernel) ?_
  refine j_iload_n dX2_firstLeast_8 rfl ?_
  refine j_aload_n dX2_firstLeast_9 rfl ?_
  refine j_getR (r := 8) dX2_firstLeast_10 flX2_18 (Nat.le_of_ble_eq_true rfl) rfl rfl ?_
  refine j_callV (y' := mX4_costBeside) (As := [.int (nI u), .int (nI 0), .int x, .ref 8]) (st := []) dX2_firstLeast_13 lkX2_133 okX4_costBeside imX4_costBeside seX4_costBeside (Nat.le_of_ble_eq_true rfl) rfl rfl rfl rfl (Nat.le_of_ble_eq_true rfl) (Nat.le_of_ble_eq_true rfl) (c_costBeside28_8 z _ _ u 0 (by omega) (by omega) x hoth F A hC) (fun v13 F13 A13 hq13 => ?_)
  obtain ⟨rfl, rfl, r13, rfl, -⟩ := hq13
  refine j_istore (lv' := [(0, .ref 5), (1, .int (nI u)), (2, .int x), (3, .int (nI 0)), (4, .int r13)]) dX2_firstLeast_16 (Nat.le_of_ble_eq_true rfl) rfl rfl ?_
  refine j_iconst (v := nI 1) dX2_firstLeast_18 (by decide +kernel) ?_
  refine j_istore (lv' := [(0, .ref 5), (1, .int (nI u)), (2, .int x), (3, .int (nI 0)), (4, .int r13), (5, .int (nI 1))]) dX2_firstLeast_19 (Nat.le_of_ble_eq_true rfl) rfl rfl ?_
  exact L21 _ 0 r13 1 (by first | exact h1 | omega) (Nat.lt_succ_self _)

set_option maxHeartbeats 400000 in
set_option maxRecDepth 100000 in
theorem c_readOff (z : mj_B) (d : Nat) (T : Tg) (n : Nat) (hn : n ≤ 8) (F A : mj_S) (hC : CI T F A) (en : F 28 0 = nI n) (hrel : ∀ q, q < n → (A 9 q >>> (A 6 q &&& 31)) &&& nI 1 = 0) : J (gC z) mX2_readOff (d + 4) 0 [(0, .ref 5)] [] F A (fun v F' A' => v = none ∧ F = F' ∧ CI T F A') := by
  have L10 : ∀ (fuel : Nat) (x : Int32) (kk : Nat) (A : mj_S), (CI T F A) → (∀ q, q < n → (A 9 q >>> (A 6 q &&& 31)) &&& nI 1 = 0) → (x + 1 = nI kk) → (kk ≤ n) → kk < fuel → J (gC z) mX2_readOff (d + 4) 10 [(0, .ref 5), (1, .int x)] [] F A (fun v F' A' => v = none ∧ F = F' ∧ CI T F A') := by
    intro fuel
    induction fuel with
    | zero => intro x kk A hC hrel hx h1 hf; exact absurd hf (by omega)
    | succ fuel ih10 =>
      intro x kk A hC hrel hx h1 hf
      refine j_iload_n dX2_readOff_10 rfl ?_
      refine j_if_lt (tgt := 57) dX2_readOff_11 (by decide) (fun c11 => ?_) (fun c11 => ?_)
      · exact j_vret dX2_readOff_57 rfl ⟨rfl, rfl, hC⟩
      · have hk0 : 0 < kk := Nat.pos_of_ne_zero (fun e => by rw [e] at hx; exact c11 (dn0 hx))
        obtain rfl : x = nI (kk - 1) := dn1 hx hk0
        refine j_aload_n dX2_readOff_14 rfl ?_
        refine j_getR (r := 7) dX2_readOff_15 flX2_15 (Nat.le_of_ble_eq_true rfl) rfl rfl ?_
        refine j_iload_n dX2_readOff_18 rfl ?_
        refine j_ialdN dX2_readOff_19 (Nat.le_of_ble_eq_true rfl) rfl (by omega) (by decide) ?_
        refine j_iconst (v := nI 3) dX2_readOff_20 (by decide +kernel) ?_
        refine j_icmp_eq (tgt := 51) dX2_readOff_21 (by decide) (fun c21 => ?_) (fun c21 => ?_)
        · refine j_iinc (v := nI (kk - 1) + Int32.ofInt (-1)) (lv' := [(0, .ref 5), (1, .int (nI (kk - 1) + Int32.ofInt (-1)))]) dX2_readOff_51 rfl rfl (Nat.le_of_ble_eq_true rfl) rfl rfl ?_
          refine j_goto (tgt := 10) dX2_readOff_54 (by decide) ?_
          exact ih10 (nI (kk - 1) + Int32.ofInt (-1)) (kk - 1) A (by first | exact hC | omega) (by first | exact hrel | omega) (dn2 _) (by first | exact h1 | omega) (by omega)
        · refine j_aload_n dX2_readOff_24 rfl ?_
          refine j_getR (r := 8) dX2_readOff_25 flX2_18 (Nat.le_of_ble_eq_true rfl) rfl rfl ?_
          refine j_aload_n dX2_readOff_28 rfl ?_
          refine j_getR (r := 6) dX2_readOff_29 flX2_9 (Nat.le_of_ble_eq_true rfl) rfl rfl ?_
          refine j_iload_n dX2_readOff_32 rfl ?_
          refine j_ialdN dX2_readOff_33 (Nat.le_of_ble_eq_true rfl) rfl (by omega) (by decide) ?_
          obtain ⟨t1, ht1, et1⟩ := hC.2.2.2.2.1.1 (kk - 1) (by omega)
          refine j_top (y0 := nI t1) et1 ?_
          refine j_aload_n dX2_readOff_34 rfl ?_
          refine j_aload_n dX2_readOff_35 rfl ?_
          refine j_getR (r := 6) dX2_readOff_36 flX2_9 (Nat.le_of_ble_eq_true rfl) rfl rfl ?_
          refine j_iload_n dX2_readOff_39 rfl ?_
          refine j_ialdN dX2_readOff_40 (Nat.le_of_ble_eq_true rfl) rfl (by omega) (by decide) ?_
          refine j_top (y0 := nI t1) et1 ?_
          refine j_aload_n dX2_readOff_41 rfl ?_
          refine j_getR (r := 9) dX2_readOff_42 flX2_21 (Nat.le_of_ble_eq_true rfl) rfl rfl ?_
          refine j_iload_n dX2_readOff_45 rfl ?_
          refine j_ialdN dX2_readOff_46 (Nat.le_of_ble_eq_true rfl) rfl (by omega) (by decide) ?_
          refine j_callV (y' := mX2_firstLeast) (As := [.int (nI t1), .int (A 9 (kk - 1))]) (st := [.int (nI t1), .ref 8]) dX2_readOff_47 lkX2_130 okX2_firstLeast imX2_firstLeast seX2_firstLeast (Nat.le_of_ble_eq_true rfl) rfl rfl rfl rfl (Nat.le_of_ble_eq_true rfl) (Nat.le_of_ble_eq_true rfl) (c_firstLeast z _ _ t1 (by omega) (A 9 (kk - 1)) (by have h := hrel (kk - 1) (by omega); rw [et1] at h; exact h) F A hC) (fun v47 F47 A47 hq47 => ?_)
          obtain ⟨rfl, rfl, r47, rfl, hr47⟩ := hq47
          refine j_iastN dX2_readOff_50 (Nat.le_of_ble_eq_true rfl) rfl (by omega) (by decide) ?_
          have hC := hC.tk t1 (t := r47) (by omega)
          refine j_iinc (v := nI (kk - 1) + Int32.ofInt (-1)) (lv' := [(0, .ref 5), (1, .int (nI (kk - 1) + Int32.ofInt (-1)))]) dX2_readOff_51 rfl rfl (Nat.le_of_ble_eq_true rfl) rfl rfl ?_
          refine j_goto (tgt := 10) dX2_readOff_54 (by decide) ?_
          exact ih10 (nI (kk - 1) + Int32.ofInt (-1)) (kk - 1) (mj_u A 8 t1 (nI r47)) (by first | exact hC | omega) (by first | exact hrel | omega) (dn2 _) (by first | exact h1 | omega) (by omega)
  refine j_aload_n dX2_readOff_0 rfl ?_
  refine j_getR (r := 28) dX2_readOff_1 flX2_27 (Nat.le_of_ble_eq_true rfl) rfl rfl ?_
  refine j_getI dX2_readOff_4 flX2_39 (Nat.le_of_ble_eq_true rfl) rfl rfl ?_
  refine j_top (y0 := nI n) en ?_
  refine j_iconst (v := nI 1) dX2_readOff_7 (by decide +kernel) ?_
  refine j_isub dX2_readOff_8 ?_
  refine j_top (y0 := (nI n) - (nI 1)) rfl ?_
  refine j_istore_n (lv' := [(0, .ref 5), (1, .int ((nI n) - (nI 1)))]) dX2_readOff_9 (Nat.le_of_ble_eq_true rfl) rfl rfl ?_
  exact L10 _ ((nI n) - (nI 1)) n A (by first | exact hC | omega) (by first | exact hrel | omega) (dn4 n) (by first | exact h1 | omega) (Nat.lt_succ_self _)
