/-! the class: bits of the JDK, graphs, the reader -/
theorem s_u : ∀ n, n < 32 → (((nI n).toUInt32 &&& Int32.toUInt32 31).toBitVec % 32).toNat = n := by decide +kernel
def bcE (x : Int32) : Int32 := (((((((x - (((x.toUInt32 >>> ((nI 1).toUInt32 &&& Int32.toUInt32 31)).toInt32) &&& 1431655765)) &&& 858993459) + ((((x - (((x.toUInt32 >>> ((nI 1).toUInt32 &&& Int32.toUInt32 31)).toInt32) &&& 1431655765)).toUInt32 >>> ((nI 2).toUInt32 &&& Int32.toUInt32 31)).toInt32) &&& 858993459)) + (((((x - (((x.toUInt32 >>> ((nI 1).toUInt32 &&& Int32.toUInt32 31)).toInt32) &&& 1431655765)) &&& 858993459) + ((((x - (((x.toUInt32 >>> ((nI 1).toUInt32 &&& Int32.toUInt32 31)).toInt32) &&& 1431655765)).toUInt32 >>> ((nI 2).toUInt32 &&& Int32.toUInt32 31)).toInt32) &&& 858993459)).toUInt32 >>> ((nI 4).toUInt32 &&& Int32.toUInt32 31)).toInt32)) &&& 252645135) + (((((((x - (((x.toUInt32 >>> ((nI 1).toUInt32 &&& Int32.toUInt32 31)).toInt32) &&& 1431655765)) &&& 858993459) + ((((x - (((x.toUInt32 >>> ((nI 1).toUInt32 &&& Int32.toUInt32 31)).toInt32) &&& 1431655765)).toUInt32 >>> ((nI 2).toUInt32 &&& Int32.toUInt32 31)).toInt32) &&& 858993459)) + (((((x - (((x.toUInt32 >>> ((nI 1).toUInt32 &&& Int32.toUInt32 31)).toInt32) &&& 1431655765)) &&& 858993459) + ((((x - (((x.toUInt32 >>> ((nI 1).toUInt32 &&& Int32.toUInt32 31)).toInt32) &&& 1431655765)).toUInt32 >>> ((nI 2).toUInt32 &&& Int32.toUInt32 31)).toInt32) &&& 858993459)).toUInt32 >>> ((nI 4).toUInt32 &&& Int32.toUInt32 31)).toInt32)) &&& 252645135).toUInt32 >>> ((nI 8).toUInt32 &&& Int32.toUInt32 31)).toInt32)) + ((((((((x - (((x.toUInt32 >>> ((nI 1).toUInt32 &&& Int32.toUInt32 31)).toInt32) &&& 1431655765)) &&& 858993459) + ((((x - (((x.toUInt32 >>> ((nI 1).toUInt32 &&& Int32.toUInt32 31)).toInt32) &&& 1431655765)).toUInt32 >>> ((nI 2).toUInt32 &&& Int32.toUInt32 31)).toInt32) &&& 858993459)) + (((((x - (((x.toUInt32 >>> ((nI 1).toUInt32 &&& Int32.toUInt32 31)).toInt32) &&& 1431655765)) &&& 858993459) + ((((x - (((x.toUInt32 >>> ((nI 1).toUInt32 &&& Int32.toUInt32 31)).toInt32) &&& 1431655765)).toUInt32 >>> ((nI 2).toUInt32 &&& Int32.toUInt32 31)).toInt32) &&& 858993459)).toUInt32 >>> ((nI 4).toUInt32 &&& Int32.toUInt32 31)).toInt32)) &&& 252645135) + (((((((x - (((x.toUInt32 >>> ((nI 1).toUInt32 &&& Int32.toUInt32 31)).toInt32) &&& 1431655765)) &&& 858993459) + ((((x - (((x.toUInt32 >>> ((nI 1).toUInt32 &&& Int32.toUInt32 31)).toInt32) &&& 1431655765)).toUInt32 >>> ((nI 2).toUInt32 &&& Int32.toUInt32 31)).toInt32) &&& 858993459)) + (((((x - (((x.toUInt32 >>> ((nI 1).toUInt32 &&& Int32.toUInt32 31)).toInt32) &&& 1431655765)) &&& 858993459) + ((((x - (((x.toUInt32 >>> ((nI 1).toUInt32 &&& Int32.toUInt32 31)).toInt32) &&& 1431655765)).toUInt32 >>> ((nI 2).toUInt32 &&& Int32.toUInt32 31)).toInt32) &&& 858993459)).toUInt32 >>> ((nI 4).toUInt32 &&& Int32.toUInt32 31)).toInt32)) &&& 252645135).toUInt32 >>> ((nI 8).toUInt32 &&& Int32.toUInt32 31)).toInt32)).toUInt32 >>> ((nI 16).toUInt32 &&& Int32.toUInt32 31)).toInt32)) &&& (nI 63)
theorem bc_pc : ∀ s, s < 256 → bcE (nI s) = nI (pc s) := by decide +kernel
set_option maxHeartbeats 400000 in
set_option maxRecDepth 100000 in
theorem c_bitCount (z : mj_B) (d : Nat) (x : Int32) (F A : mj_S) : J (gC z) mJ6_bitCount_0f7a4 d 0 [(0, .int x)] [] F A (qP F A fun r => r = bcE x) := by
  refine j_iload_n dJ6_bitCount_0f7a4_0 rfl ?_
  refine j_iload_n dJ6_bitCount_0f7a4_1 rfl ?_
  refine j_iconst (v := nI 1) dJ6_bitCount_0f7a4_2 (by decide +kernel) ?_
  refine j_iushr dJ6_bitCount_0f7a4_3 rfl ?_
  refine j_ldcw dJ6_bitCount_0f7a4_4 kcJ6_265 ?_
  refine j_iand dJ6_bitCount_0f7a4_7 ?_
  refine j_isub dJ6_bitCount_0f7a4_8 ?_
  refine j_istore_n (lv' := [(0, .int (x - (((x.toUInt32 >>> ((nI 1).toUInt32 &&& Int32.toUInt32 31)).toInt32) &&& 1431655765)))]) dJ6_bitCount_0f7a4_9 (Nat.le_of_ble_eq_true rfl) rfl rfl ?_
  refine j_iload_n dJ6_bitCount_0f7a4_10 rfl ?_
  refine j_ldcw dJ6_bitCount_0f7a4_11 kcJ6_266 ?_
  refine j_iand dJ6_bitCount_0f7a4_14 ?_
  refine j_iload_n dJ6_bitCount_0f7a4_15 rfl ?_
  refine j_iconst (v := nI 2) dJ6_bitCount_0f7a4_16 (by decide +kernel) ?_
  refine j_iushr dJ6_bitCount_0f7a4_17 rfl ?_
  refine j_ldcw dJ6_bitCount_0f7a4_18 kcJ6_266 ?_
  refine j_iand dJ6_bitCount_0f7a4_21 ?_
  refine j_iadd dJ6_bitCount_0f7a4_22 ?_
  refine j_istore_n (lv' := [(0, .int (((x - (((x.toUInt32 >>> ((nI 1).toUInt32 &&& Int32.toUInt32 31)).toInt32) &&& 1431655765)) &&& 858993459) + ((((x - (((x.toUInt32 >>> ((nI 1).toUInt32 &&& Int32.toUInt32 31)).toInt32) &&& 1431655765)).toUInt32 >>> ((nI 2).toUInt32 &&& Int32.toUInt32 31)).toInt32) &&& 858993459)))]) dJ6_bitCount_0f7a4_23 (Nat.le_of_ble_eq_true rfl) rfl rfl ?_
  refine j_iload_n dJ6_bitCount_0f7a4_24 rfl ?_
  refine j_iload_n dJ6_bitCount_0f7a4_25 rfl ?_
  refine j_iconst (v := nI 4) dJ6_bitCount_0f7a4_26 (by decide +kernel) ?_
  refine j_iushr dJ6_bitCount_0f7a4_27 rfl ?_
  refine j_iadd dJ6_bitCount_0f7a4_28 ?_
  refine j_ldcw dJ6_bitCount_0f7a4_29 kcJ6_267 ?_
  refine j_iand dJ6_bitCount_0f7a4_32 ?_
  refine j_istore_n (lv' := [(0, .int (((((x - (((x.toUInt32 >>> ((nI 1).toUInt32 &&& Int32.toUInt32 31)).toInt32) &&& 1431655765)) &&& 858993459) + ((((x - (((x.toUInt32 >>> ((nI 1).toUInt32 &&& Int32.toUInt32 31)).toInt32) &&& 1431655765)).toUInt32 >>> ((nI 2).toUInt32 &&& Int32.toUInt32 31)).toInt32) &&& 858993459)) + (((((x - (((x.toUInt32 >>> ((nI 1).toUInt32 &&& Int32.toUInt32 31)).toInt32) &&& 1431655765)) &&& 858993459) + ((((x - (((x.toUInt32 >>> ((nI 1).toUInt32 &&& Int32.toUInt32 31)).toInt32) &&& 1431655765)).toUInt32 >>> ((nI 2).toUInt32 &&& Int32.toUInt32 31)).toInt32) &&& 858993459)).toUInt32 >>> ((nI 4).toUInt32 &&& Int32.toUInt32 31)).toInt32)) &&& 252645135))]) dJ6_bitCount_0f7a4_33 (Nat.le_of_ble_eq_true rfl) rfl rfl ?_
  refine j_iload_n dJ6_bitCount_0f7a4_34 rfl ?_
  refine j_iload_n dJ6_bitCount_0f7a4_35 rfl ?_
  refine j_bipush (v := nI 8) dJ6_bitCount_0f7a4_36 (by decide +kernel) ?_
  refine j_iushr dJ6_bitCount_0f7a4_38 rfl ?_
  refine j_iadd dJ6_bitCount_0f7a4_39 ?_
  refine j_istore_n (lv' := [(0, .int ((((((x - (((x.toUInt32 >>> ((nI 1).toUInt32 &&& Int32.toUInt32 31)).toInt32) &&& 1431655765)) &&& 858993459) + ((((x - (((x.toUInt32 >>> ((nI 1).toUInt32 &&& Int32.toUInt32 31)).toInt32) &&& 1431655765)).toUInt32 >>> ((nI 2).toUInt32 &&& Int32.toUInt32 31)).toInt32) &&& 858993459)) + (((((x - (((x.toUInt32 >>> ((nI 1).toUInt32 &&& Int32.toUInt32 31)).toInt32) &&& 1431655765)) &&& 858993459) + ((((x - (((x.toUInt32 >>> ((nI 1).toUInt32 &&& Int32.toUInt32 31)).toInt32) &&& 1431655765)).toUInt32 >>> ((nI 2).toUInt32 &&& Int32.toUInt32 31)).toInt32) &&& 858993459)).toUInt32 >>> ((nI 4).toUInt32 &&& Int32.toUInt32 31)).toInt32)) &&& 252645135) + (((((((x - (((x.toUInt32 >>> ((nI 1).toUInt32 &&& Int32.toUInt32 31)).toInt32) &&& 1431655765)) &&& 858993459) + ((((x - (((x.toUInt32 >>> ((nI 1).toUInt32 &&& Int32.toUInt32 31)).toInt32) &&& 1431655765)).toUInt32 >>> ((nI 2).toUInt32 &&& Int32.toUInt32 31)).toInt32) &&& 858993459)) + (((((x - (((x.toUInt32 >>> ((nI 1).toUInt32 &&& Int32.toUInt32 31)).toInt32) &&& 1431655765)) &&& 858993459) + ((((x - (((x.toUInt32 >>> ((nI 1).toUInt32 &&& Int32.toUInt32 31)).toInt32) &&& 1431655765)).toUInt32 >>> ((nI 2).toUInt32 &&& Int32.toUInt32 31)).toInt32) &&& 858993459)).toUInt32 >>> ((nI 4).toUInt32 &&& Int32.toUInt32 31)).toInt32)) &&& 252645135).toUInt32 >>> ((nI 8).toUInt32 &&& Int32.toUInt32 31)).toInt32)))]) dJ6_bitCount_0f7a4_40 (Nat.le_of_ble_eq_true rfl) rfl rfl ?_
  refine j_iload_n dJ6_bitCount_0f7a4_41 rfl ?_
  refine j_iload_n dJ6_bitCount_0f7a4_42 rfl ?_
  refine j_bipush (v := nI 16) dJ6_bitCount_0f7a4_43 (by decide +kernel) ?_
  refine j_iushr dJ6_bitCount_0f7a4_45 rfl ?_
  refine j_iadd dJ6_bitCount_0f7a4_46 ?_
  refine j_istore_n (lv' := [(0, .int (((((((x - (((x.toUInt32 >>> ((nI 1).toUInt32 &&& Int32.toUInt32 31)).toInt32) &&& 1431655765)) &&& 858993459) + ((((x - (((x.toUInt32 >>> ((nI 1).toUInt32 &&& Int32.toUInt32 31)).toInt32) &&& 1431655765)).toUInt32 >>> ((nI 2).toUInt32 &&& Int32.toUInt32 31)).toInt32) &&& 858993459)) + (((((x - (((x.toUInt32 >>> ((nI 1).toUInt32 &&& Int32.toUInt32 31)).toInt32) &&& 1431655765)) &&& 858993459) + ((((x - (((x.toUInt32 >>> ((nI 1).toUInt32 &&& Int32.toUInt32 31)).toInt32) &&& 1431655765)).toUInt32 >>> ((nI 2).toUInt32 &&& Int32.toUInt32 31)).toInt32) &&& 858993459)).toUInt32 >>> ((nI 4).toUInt32 &&& Int32.toUInt32 31)).toInt32)) &&& 252645135) + (((((((x - (((x.toUInt32 >>> ((nI 1).toUInt32 &&& Int32.toUInt32 31)).toInt32) &&& 1431655765)) &&& 858993459) + ((((x - (((x.toUInt32 >>> ((nI 1).toUInt32 &&& Int32.toUInt32 31)).toInt32) &&& 1431655765)).toUInt32 >>> ((nI 2).toUInt32 &&& Int32.toUInt32 31)).toInt32) &&& 858993459)) + (((((x - (((x.toUInt32 >>> ((nI 1).toUInt32 &&& Int32.toUInt32 31)).toInt32) &&& 1431655765)) &&& 858993459) + ((((x - (((x.toUInt32 >>> ((nI 1).toUInt32 &&& Int32.toUInt32 31)).toInt32) &&& 1431655765)).toUInt32 >>> ((nI 2).toUInt32 &&& Int32.toUInt32 31)).toInt32) &&& 858993459)).toUInt32 >>> ((nI 4).toUInt32 &&& Int32.toUInt32 31)).toInt32)) &&& 252645135).toUInt32 >>> ((nI 8).toUInt32 &&& Int32.toUInt32 31)).toInt32)) + ((((((((x - (((x.toUInt32 >>> ((nI 1).toUInt32 &&& Int32.toUInt32 31)).toInt32) &&& 1431655765)) &&& 858993459) + ((((x - (((x.toUInt32 >>> ((nI 1).toUInt32 &&& Int32.toUInt32 31)).toInt32) &&& 1431655765)).toUInt32 >>> ((nI 2).toUInt32 &&& Int32.toUInt32 31)).toInt32) &&& 858993459)) + (((((x - (((x.toUInt32 >>> ((nI 1).toUInt32 &&& Int32.toUInt32 31)).toInt32) &&& 1431655765)) &&& 858993459) + ((((x - (((x.toUInt32 >>> ((nI 1).toUInt32 &&& Int32.toUInt32 31)).toInt32) &&& 1431655765)).toUInt32 >>> ((nI 2).toUInt32 &&& Int32.toUInt32 31)).toInt32) &&& 858993459)).toUInt32 >>> ((nI 4).toUInt32 &&& Int32.toUInt32 31)).toInt32)) &&& 252645135) + (((((((x - (((x.toUInt32 >>> ((nI 1).toUInt32 &&& Int32.toUInt32 31)).toInt32) &&& 1431655765)) &&& 858993459) + ((((x - (((x.toUInt32 >>> ((nI 1).toUInt32 &&& Int32.toUInt32 31)).toInt32) &&& 1431655765)).toUInt32 >>> ((nI 2).toUInt32 &&& Int32.toUInt32 31)).toInt32) &&& 858993459)) + (((((x - (((x.toUInt32 >>> ((nI 1).toUInt32 &&& Int32.toUInt32 31)).toInt32) &&& 1431655765)) &&& 858993459) + ((((x - (((x.toUInt32 >>> ((nI 1).toUInt32 &&& Int32.toUInt32 31)).toInt32) &&& 1431655765)).toUInt32 >>> ((nI 2).toUInt32 &&& Int32.toUInt32 31)).toInt32) &&& 858993459)).toUInt32 >>> ((nI 4).toUInt32 &&& Int32.toUInt32 31)).toInt32)) &&& 252645135).toUInt32 >>> ((nI 8).toUInt32 &&& Int32.toUInt32 31)).toInt32)).toUInt32 >>> ((nI 16).toUInt32 &&& Int32.toUInt32 31)).toInt32)))]) dJ6_bitCount_0f7a4_47 (Nat.le_of_ble_eq_true rfl) rfl rfl ?_
  refine j_iload_n dJ6_bitCount_0f7a4_48 rfl ?_
  refine j_bipush (v := nI 63) dJ6_bitCount_0f7a4_49 (by decide +kernel) ?_
  refine j_iand dJ6_bitCount_0f7a4_51 ?_
  exact j_iret dJ6_bitCount_0f7a4_52 rfl rfl ⟨rfl, rfl, _, rfl, rfl⟩

def tm (s : Nat) : Nat := (s - 1) - ((s - 1) &&& s)
theorem tm_eq : ∀ s, s < 256 → 0 < s → (nI s ^^^ (-1)) &&& (nI (s - 1)) = nI (tm s) ∧ tm s ≤ 127 := by decide +kernel
theorem tz_0 : ∀ s, s < 256 → 0 < s → tm s = 0 → (tm s &&& 32) < 8 ∧ s / 2 ^ (tm s &&& 32) % 2 = 1 := by decide +kernel
theorem tz_1 : ∀ s, s < 256 → (0 < s ∧ 0 < tm s ∧ tm s ≤ 16 ∧ tm s ≤ 4) → (1 + tm s / 2) < 8 ∧ s / 2 ^ (1 + tm s / 2) % 2 = 1 := by decide +kernel
theorem tz_2 : ∀ s, s < 256 → (0 < s ∧ 0 < tm s ∧ tm s ≤ 16 ∧ 4 < tm s) → (1 + 2 + tm s / 4 / 2) < 8 ∧ s / 2 ^ (1 + 2 + tm s / 4 / 2) % 2 = 1 := by decide +kernel
theorem tz_3 : ∀ s, s < 256 → (0 < s ∧ 0 < tm s ∧ 16 < tm s ∧ tm s / 16 ≤ 4) → (1 + 4 + tm s / 16 / 2) < 8 ∧ s / 2 ^ (1 + 4 + tm s / 16 / 2) % 2 = 1 := by decide +kernel
theorem tz_4 : ∀ s, s < 256 → (0 < s ∧ 0 < tm s ∧ 16 < tm s ∧ 4 < tm s / 16) → (1 + 4 + 2 + tm s / 16 / 4 / 2) < 8 ∧ s / 2 ^ (1 + 4 + 2 + tm s / 16 / 4 / 2) % 2 = 1 := by decide +kernel
theorem ushN {n k : Nat} (hn : n < 4294967296) (hk : k < 32) : ((nI n).toUInt32 >>> ((nI k).toUInt32 &&& Int32.toUInt32 31)).toInt32 = nI (n / 2 ^ k) := pk_ushrN hn (nI k) k (s_u k hk)

set_option maxHeartbeats 400000 in
set_option maxRecDepth 100000 in
theorem c_ntz (z : mj_B) (d : Nat) (s : Nat) (hs : s < 256) (h0 : 0 < s) (F A : mj_S) : J (gC z) mJ6_numberOfTrailingZeros_0f7a4 d 0 [(0, .int (nI s))] [] F A (qN F A fun r => r < 8 ∧ s / 2 ^ r % 2 = 1) := by
  have ht := tm_eq s hs h0
  refine j_iload_n dJ6_numberOfTrailingZeros_0f7a4_0 rfl ?_
  refine j_iconst (v := (-1)) dJ6_numberOfTrailingZeros_0f7a4_1 (by decide +kernel) ?_
  refine j_ixor dJ6_numberOfTrailingZeros_0f7a4_2 ?_
  refine j_iload_n dJ6_numberOfTrailingZeros_0f7a4_3 rfl ?_
  refine j_iconst (v := nI 1) dJ6_numberOfTrailingZeros_0f7a4_4 (by decide +kernel) ?_
  refine j_isubN dJ6_numberOfTrailingZeros_0f7a4_5 (by omega) ?_
  refine j_iand dJ6_numberOfTrailingZeros_0f7a4_6 ?_
  refine j_top (y0 := nI (tm s)) ht.1 ?_
  refine j_istore_n (lv' := [(0, .int (nI (tm s)))]) dJ6_numberOfTrailingZeros_0f7a4_7 (Nat.le_of_ble_eq_true rfl) rfl rfl ?_
  refine j_iload_n dJ6_numberOfTrailingZeros_0f7a4_8 rfl ?_
  refine j_if_gtN (tgt := 17) dJ6_numberOfTrailingZeros_0f7a4_9 (by decide) (by omega) (fun c9 => ?_) (fun c9 => ?_)
  · refine j_iconst (v := nI 1) dJ6_numberOfTrailingZeros_0f7a4_17 (by decide +kernel) ?_
    refine j_istore_n (lv' := [(0, .int (nI (tm s))), (1, .int (nI 1))]) dJ6_numberOfTrailingZeros_0f7a4_18 (Nat.le_of_ble_eq_true rfl) rfl rfl ?_
    refine j_iload_n dJ6_numberOfTrailingZeros_0f7a4_19 rfl ?_
    refine j_ldcw dJ6_numberOfTrailingZeros_0f7a4_20 kcJ6_264 ?_
    refine j_top (y0 := nI 65536) (by decide +kernel) ?_
    refine j_icmp_leN (tgt := 34) dJ6_numberOfTrailingZeros_0f7a4_23 (by decide) (by omega) (by omega) (fun c23 => ?_) (fun c23 => ?_)
    · refine j_iload_n dJ6_numberOfTrailingZeros_0f7a4_34 rfl ?_
      refine j_sipush (v := nI 256) dJ6_numberOfTrailingZeros_0f7a4_35 (by decide +kernel) ?_
      refine j_icmp_leN (tgt := 49) dJ6_numberOfTrailingZeros_0f7a4_38 (by decide) (by omega) (by omega) (fun c38 => ?_) (fun c38 => ?_)
      · refine j_iload_n dJ6_numberOfTrailingZeros_0f7a4_49 rfl ?_
        refine j_bipush (v := nI 16) dJ6_numberOfTrailingZeros_0f7a4_50 (by decide +kernel) ?_
        refine j_icmp_leN (tgt := 62) dJ6_numberOfTrailingZeros_0f7a4_52 (by decide) (by omega) (by omega) (fun c52 => ?_) (fun c52 => ?_)
        · refine j_iload_n dJ6_numberOfTrailingZeros_0f7a4_62 rfl ?_
          refine j_iconst (v := nI 4) dJ6_numberOfTrailingZeros_0f7a4_63 (by decide +kernel) ?_
          refine j_icmp_leN (tgt := 74) dJ6_numberOfTrailingZeros_0f7a4_64 (by decide) (by omega) (by omega) (fun c64 => ?_) (fun c64 => ?_)
          · refine j_iload_n dJ6_numberOfTrailingZeros_0f7a4_74 rfl ?_
            refine j_iload_n dJ6_numberOfTrailingZeros_0f7a4_75 rfl ?_
            refine j_iconst (v := nI 1) dJ6_numberOfTrailingZeros_0f7a4_76 (by decide +kernel) ?_
            refine j_iushr dJ6_numberOfTrailingZeros_0f7a4_77 rfl ?_
            refine j_top (y0 := nI (tm s / 2)) (ushN (k := 1) (by omega) (by decide)) ?_
            refine j_iaddN dJ6_numberOfTrailingZeros_0f7a4_78 ?_
            exact j_iret dJ6_numberOfTrailingZeros_0f7a4_79 rfl rfl ⟨rfl, rfl, _, rfl, by first | exact tz_0 s hs h0 (by omega) | exact tz_1 s hs (by omega) | exact tz_2 s hs (by omega) | exact tz_3 s hs (by omega) | exact tz_4 s hs (by omega)⟩
          · refine j_iinc (v := nI (1 + 2)) (lv' := [(0, .int (nI (tm s))), (1, .int (nI (1 + 2)))]) dJ6_numberOfTrailingZeros_0f7a4_67 rfl (nI_add _ 2) (Nat.le_of_ble_eq_true rfl) rfl rfl ?_
            refine j_iload_n dJ6_numberOfTrailingZeros_0f7a4_70 rfl ?_
            refine j_iconst (v := nI 2) dJ6_numberOfTrailingZeros_0f7a4_71 (by decide +kernel) ?_
            refine j_iushr dJ6_numberOfTrailingZeros_0f7a4_72 rfl ?_
            refine j_top (y0 := nI (tm s / 4)) (ushN (k := 2) (by omega) (by decide)) ?_
            refine j_istore_n (lv' := [(0, .int (nI (tm s / 4))), (1, .int (nI (1 + 2)))]) dJ6_numberOfTrailingZeros_0f7a4_73 (Nat.le_of_ble_eq_true rfl) rfl rfl ?_
            refine j_iload_n dJ6_numberOfTrailingZeros_0f7a4_74 rfl ?_
            refine j_iload_n dJ6_numberOfTrailingZeros_0f7a4_75 rfl ?_
            refine j_iconst (v := nI 1) dJ6_numberOfTrailingZeros_0f7a4_76 (by decide +kernel) ?_
            refine j_iushr dJ6_numberOfTrailingZeros_0f7a4_77 rfl ?_
            refine j_top (y0 := nI (tm s / 4 / 2)) (ushN (k := 1) (by omega) (by decide)) ?_
            refine j_iaddN dJ6_numberOfTrailingZeros_0f7a4_78 ?_
            exact j_iret dJ6_numberOfTrailingZeros_0f7a4_79 rfl rfl ⟨rfl, rfl, _, rfl, by first | exact tz_0 s hs h0 (by omega) | exact tz_1 s hs (by omega) | exact tz_2 s hs (by omega) | exact tz_3 s hs (by omega) | exact tz_4 s hs (by omega)⟩
        · refine j_iinc (v := nI (1 + 4)) (lv' := [(0, .int (nI (tm s))), (1, .int (nI (1 + 4)))]) dJ6_numberOfTrailingZeros_0f7a4_55 rfl (nI_add _ 4) (Nat.le_of_ble_eq_true rfl) rfl rfl ?_
          refine j_iload_n dJ6_numberOfTrailingZeros_0f7a4_58 rfl ?_
          refine j_iconst (v := nI 4) dJ6_numberOfTrailingZeros_0f7a4_59 (by decide +kernel) ?_
          refine j_iushr dJ6_numberOfTrailingZeros_0f7a4_60 rfl ?_
          refine j_top (y0 := nI (tm s / 16)) (ushN (k := 4) (by omega) (by decide)) ?_
          refine j_istore_n (lv' := [(0, .int (nI (tm s / 16))), (1, .int (nI (1 + 4)))]) dJ6_numberOfTrailingZeros_0f7a4_61 (Nat.le_of_ble_eq_true rfl) rfl rfl ?_
          refine j_iload_n dJ6_numberOfTrailingZeros_0f7a4_62 rfl ?_
          refine j_iconst (v := nI 4) dJ6_numberOfTrailingZeros_0f7a4_63 (by decide +kernel) ?_
          refine j_icmp_leN (tgt := 74) dJ6_numberOfTrailingZeros_0f7a4_64 (by decide) (by omega) (by omega) (fun c64 => ?_) (fun c64 => ?_)
          · refine j_iload_n dJ6_numberOfTrailingZeros_0f7a4_74 rfl ?_
            refine j_iload_n dJ6_numberOfTrailingZeros_0f7a4_75 rfl ?_
            refine j_iconst (v := nI 1) dJ6_numberOfTrailingZeros_0f7a4_76 (by decide +kernel) ?_
            refine j_iushr dJ6_numberOfTrailingZeros_0f7a4_77 rfl ?_
            refine j_top (y0 := nI (tm s / 16 / 2)) (ushN (k := 1) (by omega) (by decide)) ?_
            refine j_iaddN dJ6_numberOfTrailingZeros_0f7a4_78 ?_
            exact j_iret dJ6_numberOfTrailingZeros_0f7a4_79 rfl rfl ⟨rfl, rfl, _, rfl, by first | exact tz_0 s hs h0 (by omega) | exact tz_1 s hs (by omega) | exact tz_2 s hs (by omega) | exact tz_3 s hs (by omega) | exact tz_4 s hs (by omega)⟩
          · refine j_iinc (v := nI (1 + 4 + 2)) (lv' := [(0, .int (nI (tm s / 16))), (1, .int (nI (1 + 4 + 2)))]) dJ6_numberOfTrailingZeros_0f7a4_67 rfl (nI_add _ 2) (Nat.le_of_ble_eq_true rfl) rfl rfl ?_
            refine j_iload_n dJ6_numberOfTrailingZeros_0f7a4_70 rfl ?_
            refine j_iconst (v := nI 2) dJ6_numberOfTrailingZeros_0f7a4_71 (by decide +kernel) ?_
            refine j_iushr dJ6_numberOfTrailingZeros_0f7a4_72 rfl ?_
            refine j_top (y0 := nI (tm s / 16 / 4)) (ushN (k := 2) (by omega) (by decide)) ?_
            refine j_istore_n (lv' := [(0, .int (nI (tm s / 16 / 4))), (1, .int (nI (1 + 4 + 2)))]) dJ6_numberOfTrailingZeros_0f7a4_73 (Nat.le_of_ble_eq_true rfl) rfl rfl ?_
            refine j_iload_n dJ6_numberOfTrailingZeros_0f7a4_74 rfl ?_
            refine j_iload_n dJ6_numberOfTrailingZeros_0f7a4_75 rfl ?_
            refine j_iconst (v := nI 1) dJ6_numberOfTrailingZeros_0f7a4_76 (by decide +kernel) ?_
            refine j_iushr dJ6_numberOfTrailingZeros_0f7a4_77 rfl ?_
            refine j_top (y0 := nI (tm s / 16 / 4 / 2)) (ushN (k := 1) (by omega) (by decide)) ?_
            refine j_iaddN dJ6_numberOfTrailingZeros_0f7a4_78 ?_
            exact j_iret dJ6_numberOfTrailingZeros_0f7a4_79 rfl rfl ⟨rfl, rfl, _, rfl, by first | exact tz_0 s hs h0 (by omega) | exact tz_1 s hs (by omega) | exact tz_2 s hs (by omega) | exact tz_3 s hs (by omega) | exact tz_4 s hs (by omega)⟩
      · exfalso; omega
    · exfalso; omega
  · refine j_iload_n dJ6_numberOfTrailingZeros_0f7a4_12 rfl ?_
    refine j_bipush (v := nI 32) dJ6_numberOfTrailingZeros_0f7a4_13 (by decide +kernel) ?_
    refine j_iand dJ6_numberOfTrailingZeros_0f7a4_15 ?_
    refine j_top (y0 := nI (tm s &&& 32)) (fa_and _ _) ?_
    exact j_iret dJ6_numberOfTrailingZeros_0f7a4_16 rfl rfl ⟨rfl, rfl, _, rfl, by first | exact tz_0 s hs h0 (by omega) | exact tz_1 s hs (by omega) | exact tz_2 s hs (by omega) | exact tz_3 s hs (by omega) | exact tz_4 s hs (by omega)⟩

theorem pc_deg (row : Nat → Int32) (u : Nat) : pc (mkB row u) = deg row u := by
  have h0 := mkB_bit row u (v := 0) (by omega)
  have h1 := mkB_bit row u (v := 1) (by omega)
  have h2 := mkB_bit row u (v := 2) (by omega)
  have h3 := mkB_bit row u (v := 3) (by omega)
  have h4 := mkB_bit row u (v := 4) (by omega)
  have h5 := mkB_bit row u (v := 5) (by omega)
  have h6 := mkB_bit row u (v := 6) (by omega)
  have h7 := mkB_bit row u (v := 7) (by omega)
  unfold pc deg
  omega
theorem bc_deg (row : Nat → Int32) (u : Nat) : bcE (nI (mkB row u)) = nI (deg row u) := by rw [bc_pc _ (mkB_lt row u), pc_deg]
theorem deg_le (row : Nat → Int32) (u : Nat) : deg row u ≤ 8 := by
  rw [← pc_deg]; exact pc_le _
theorem degN_le (row : Nat → Int32) : ∀ n, degN row n ≤ 8 * n
  | 0 => Nat.le_refl _
  | n + 1 => by
    have := degN_le row n
    have := deg_le row n
    show degN row n + deg row n ≤ 8 * (n + 1)
    omega
theorem min_cap {x : Nat} (hx : x < 2147483648) : mj_min (nI x) 1000000 = nI (if x ≤ 1000000 then x else 1000000) := by
  unfold mj_min
  rw [show (1000000 : Int32) = nI 1000000 from by decide +kernel]
  by_cases h : x ≤ 1000000
  · rw [if_pos h, if_neg (nI_nlt h (by omega))]
  · rw [if_neg h, if_pos (nI_lt (by omega) (by omega))]
theorem GR.fig {F A : mj_S} {o n : Nat} {mm : Nat → Nat} {row : Nat → Int32} (h : GR F A o n mm row) (hw : wr n mm row) {u v i j : Nat} (hu : u < n) (hv : v < n) (huv : u ≠ v) (hi : i < mm u) (hj : j < mm v) (ht : 0 < row (eA u v 0 0)) : ∃ f, f ≤ 9 ∧ A (o + 6) (eP u v i j) = nI f ∧ row (eA u v i j) = nI (f + 1) := by
  have key : ∀ u v i j, u < v → v < n → i < mm u → j < mm v → 0 < row (eA u v 0 0) → ∃ f, f ≤ 9 ∧ A (o + 6) (eP u v i j) = nI f ∧ row (eA u v i j) = nI (f + 1) := by
    intro u v i j h1 h2 h3 h4 h5
    obtain ⟨f, hf, e⟩ := hw.2.2.2.1 u v i j h1 h2 h3 h4 h5
    have e2 := h.2.2 u v i j h1 h2 h3 h4 h5
    refine ⟨f, hf, ?_, e⟩
    rw [e] at e2
    exact dn1 (k := f + 1) e2.symm (by omega)
  by_cases hl : u < v
  · exact key u v i j hl hv hi hj ht
  · rw [eA_sym 0 0 huv] at ht
    rw [eA_sym i j huv, eP_sym i j huv]
    exact key v u j i (by omega) hu hj hi ht

set_option maxHeartbeats 400000 in
set_option maxRecDepth 100000 in
theorem c_areTied33 (z : mj_B) (d : Nat) (u : Nat) (hu : u < 8) (y : Int32) (F A : mj_S) : J (gC z) mX0_areTied (d + 1) 0 [(0, .ref 33), (1, .int (nI u)), (2, .int y)] [] F A (qN F A fun r => r ≤ 1) := by
  refine j_aload_n dX0_areTied_0 rfl ?_
  refine j_getR (r := 37) dX0_areTied_1 flX0_21 (Nat.le_of_ble_eq_true rfl) rfl rfl ?_
  refine j_iload_n dX0_areTied_4 rfl ?_
  refine j_ialdN dX0_areTied_5 (Nat.le_of_ble_eq_true rfl) rfl (by omega) (by decide) ?_
  refine j_iload_n dX0_areTied_6 rfl ?_
  refine j_callSN (y' := mX5_hasBit) (As := [.int (A 37 u), .int y]) (st := []) dX0_areTied_7 lnX0_38 okX5_hasBit stX5_hasBit rfl (Nat.le_of_ble_eq_true rfl) (Nat.le_of_ble_eq_true rfl) (c_hasBit z _ (A 37 u) y F A) (fun v7 F7 A7 hq7 => ?_)
  obtain ⟨rfl, rfl, r7, rfl, hr7⟩ := hq7
  have hb7 : r7 ≤ 1 := hr7.1
  exact j_iret dX0_areTied_10 rfl (mj_nz (by omega)) ⟨rfl, rfl, _, rfl, hb7⟩

set_option maxHeartbeats 400000 in
set_option maxRecDepth 100000 in
theorem c_areTiedX33 (z : mj_B) (d : Nat) (n u v : Nat) (row : Nat → Int32) (hn : n ≤ 8) (hu : u < n) (hv : v < 8) (F A : mj_S) (hG : GRm A 33 n row) : J (gC z) mX0_areTied (d + 1) 0 [(0, .ref 33), (1, .int (nI u)), (2, .int (nI v))] [] F A (qN F A fun r => r = tdd row u v) := by
  refine j_aload_n dX0_areTied_0 rfl ?_
  refine j_getR (r := 37) dX0_areTied_1 flX0_21 (Nat.le_of_ble_eq_true rfl) rfl rfl ?_
  refine j_iload_n dX0_areTied_4 rfl ?_
  refine j_ialdN dX0_areTied_5 (Nat.le_of_ble_eq_true rfl) rfl (by omega) (by decide) ?_
  refine j_iload_n dX0_areTied_6 rfl ?_
  refine j_callSN (y' := mX5_hasBit) (As := [.int (A 37 u), .int (nI v)]) (st := []) dX0_areTied_7 lnX0_38 okX5_hasBit stX5_hasBit rfl (Nat.le_of_ble_eq_true rfl) (Nat.le_of_ble_eq_true rfl) (c_hasBit z _ (A 37 u) (nI v) F A) (fun v7 F7 A7 hq7 => ?_)
  obtain ⟨rfl, rfl, r7, rfl, hr7⟩ := hq7
  have hb7 : r7 ≤ 1 := hr7.1
  have hx : r7 = tdd row u v := by
    have h2 := bit_get _ (mkB_lt row u) v hv
    rw [mkB_bit row u hv] at h2
    have h3 := tdd_le row u v
    rw [hG u hu] at hr7
    have h4 := hr7.2
    rcases (show tdd row u v = 0 ∨ tdd row u v = 1 by omega) with e | e
    · have h5 := h2.mpr e
      have : r7 ≠ 1 := fun q => h4.mp q h5
      omega
    · have : r7 = 1 := h4.mpr (fun q => absurd (h2.mp q) (by omega))
      omega
  exact j_iret dX0_areTied_10 rfl (mj_nz (by omega)) ⟨rfl, rfl, _, rfl, hx⟩

set_option maxHeartbeats 400000 in
set_option maxRecDepth 100000 in
theorem c_tieCount33 (z : mj_B) (d : Nat) (T : Tg) (F A : mj_S) (hC : CI T F A) : J (gC z) mX0_tieCount (d + 1) 0 [(0, .ref 33)] [] F A (qP F A fun _ => True) := by
  obtain ⟨n, hn, en⟩ := (hC.2.2.2.1 33 n33).1
  have L4 : ∀ (fuel : Nat) (q : Int32) (v : Nat), (v ≤ n) → n - v < fuel → J (gC z) mX0_tieCount (d + 1) 4 [(0, .ref 33), (1, .int q), (2, .int (nI v))] [] F A (qP F A fun _ => True) := by
    intro fuel
    induction fuel with
    | zero => intro q v h1 hf; exact absurd hf (by omega)
    | succ fuel ih4 =>
      intro q v h1 hf
      refine j_iload_n dX0_tieCount_4 rfl ?_
      refine j_aload_n dX0_tieCount_5 rfl ?_
      refine j_getI dX0_tieCount_6 flX0_30 (Nat.le_of_ble_eq_true rfl) rfl rfl ?_
      refine j_top (y0 := nI n) en ?_
      refine j_icmp_geN (tgt := 30) dX0_tieCount_9 (by decide) (by omega) (by omega) (fun c9 => ?_) (fun c9 => ?_)
      · refine j_iload_n dX0_tieCount_30 rfl ?_
        refine j_iconst (v := nI 2) dX0_tieCount_31 (by decide +kernel) ?_
        refine j_idiv dX0_tieCount_32 (by decide +kernel) ?_
        exact j_iret dX0_tieCount_33 rfl rfl ⟨rfl, rfl, _, rfl, trivial⟩
      · refine j_iload_n dX0_tieCount_12 rfl ?_
        refine j_aload_n dX0_tieCount_13 rfl ?_
        refine j_getR (r := 37) dX0_tieCount_14 flX0_21 (Nat.le_of_ble_eq_true rfl) rfl rfl ?_
        refine j_iload_n dX0_tieCount_17 rfl ?_
        refine j_ialdN dX0_tieCount_18 (Nat.le_of_ble_eq_true rfl) rfl (by omega) (by decide) ?_
        refine j_callS (y' := mJ6_bitCount_0f7a4) (As := [.int (A 37 v)]) (st := [.int q]) dX0_tieCount_19 lkX0_42 okJ6_bitCount_0f7a4 stJ6_bitCount_0f7a4 rfl (Nat.le_of_ble_eq_true rfl) (Nat.le_of_ble_eq_true rfl) (c_bitCount z _ (A 37 v) F A) (fun v19 F19 A19 hq19 => ?_)
        obtain ⟨rfl, rfl, r19, rfl, hr19⟩ := hq19
        refine j_iadd dX0_tieCount_22 ?_
        refine j_istore_n (lv' := [(0, .ref 33), (1, .int (q + r19)), (2, .int (nI v))]) dX0_tieCount_23 (Nat.le_of_ble_eq_true rfl) rfl rfl ?_
        refine j_iinc (v := nI (v + 1)) (lv' := [(0, .ref 33), (1, .int (q + r19)), (2, .int (nI (v + 1)))]) dX0_tieCount_24 rfl (nI_add _ 1) (Nat.le_of_ble_eq_true rfl) rfl rfl ?_
        refine j_goto (tgt := 4) dX0_tieCount_27 (by decide) ?_
        exact ih4 (q + r19) (v + 1) (by first | exact h1 | omega) (by omega)
  refine j_iconst (v := nI 0) dX0_tieCount_0 (by decide +kernel) ?_
  refine j_istore_n (lv' := [(0, .ref 33), (1, .int (nI 0))]) dX0_tieCount_1 (Nat.le_of_ble_eq_true rfl) rfl rfl ?_
  refine j_iconst (v := nI 0) dX0_tieCount_2 (by decide +kernel) ?_
  refine j_istore_n (lv' := [(0, .ref 33), (1, .int (nI 0)), (2, .int (nI 0))]) dX0_tieCount_3 (Nat.le_of_ble_eq_true rfl) rfl rfl ?_
  exact L4 _ (nI 0) 0 (by first | exact h1 | omega) (Nat.lt_succ_self _)

set_option maxHeartbeats 400000 in
set_option maxRecDepth 100000 in
theorem c_tieCountX33 (z : mj_B) (d : Nat) (n : Nat) (mm : Nat → Nat) (row : Nat → Int32) (F A : mj_S) (hG : GR F A 33 n mm row) (hw : wr n mm row) : J (gC z) mX0_tieCount (d + 1) 0 [(0, .ref 33)] [] F A (qN F A fun r => r = tsN row 28) := by
  have hn := hG.1.1.2
  have L4 : ∀ (fuel : Nat) (q : Nat) (v : Nat), (v ≤ n) → (q = degN row v) → n - v < fuel → J (gC z) mX0_tieCount (d + 1) 4 [(0, .ref 33), (1, .int (nI q)), (2, .int (nI v))] [] F A (qN F A fun r => r = tsN row 28) := by
    intro fuel
    induction fuel with
    | zero => intro q v h1 hq0 hf; exact absurd hf (by omega)
    | succ fuel ih4 =>
      intro q v h1 hq0 hf
      have hq8 : q ≤ 8 * v := by rw [hq0]; exact degN_le row v
      refine j_iload_n dX0_tieCount_4 rfl ?_
      refine j_aload_n dX0_tieCount_5 rfl ?_
      refine j_getI dX0_tieCount_6 flX0_30 (Nat.le_of_ble_eq_true rfl) rfl rfl ?_
      refine j_top (y0 := nI n) hG.1.1.1 ?_
      refine j_icmp_geN (tgt := 30) dX0_tieCount_9 (by decide) (by omega) (by omega) (fun c9 => ?_) (fun c9 => ?_)
      · refine j_iload_n dX0_tieCount_30 rfl ?_
        refine j_iconst (v := nI 2) dX0_tieCount_31 (by decide +kernel) ?_
        refine j_idivN dX0_tieCount_32 (by omega) (by omega) (by omega) ?_
        exact j_iret dX0_tieCount_33 rfl rfl ⟨rfl, rfl, _, rfl, by have e1 := degN_all (row := row) hn (fun u h1 h2 => deg_z (fun v hv => hw.off h2 hv (Or.inl h1))); have e2 := degN_ts row; rw [show v = n by omega] at hq0; omega⟩
      · refine j_iload_n dX0_tieCount_12 rfl ?_
        refine j_aload_n dX0_tieCount_13 rfl ?_
        refine j_getR (r := 37) dX0_tieCount_14 flX0_21 (Nat.le_of_ble_eq_true rfl) rfl rfl ?_
        refine j_iload_n dX0_tieCount_17 rfl ?_
        refine j_ialdN dX0_tieCount_18 (Nat.le_of_ble_eq_true rfl) rfl (by omega) (by decide) ?_
        refine j_callS (y' := mJ6_bitCount_0f7a4) (As := [.int (A 37 v)]) (st := [.int (nI q)]) dX0_tieCount_19 lkX0_42 okJ6_bitCount_0f7a4 stJ6_bitCount_0f7a4 rfl (Nat.le_of_ble_eq_true rfl) (Nat.le_of_ble_eq_true rfl) (c_bitCount z _ (A 37 v) F A) (fun v19 F19 A19 hq19 => ?_)
        obtain ⟨rfl, rfl, r19, rfl, hr19⟩ := hq19
        refine j_top (y0 := nI (deg row v)) (by rw [hr19, hG.2.1 v (by omega), bc_deg]) ?_
        refine j_iaddN dX0_tieCount_22 ?_
        refine j_istore_n (lv' := [(0, .ref 33), (1, .int (nI (q + (deg row v)))), (2, .int (nI v))]) dX0_tieCount_23 (Nat.le_of_ble_eq_true rfl) rfl rfl ?_
        refine j_iinc (v := nI (v + 1)) (lv' := [(0, .ref 33), (1, .int (nI (q + (deg row v)))), (2, .int (nI (v + 1)))]) dX0_tieCount_24 rfl (nI_add _ 1) (Nat.le_of_ble_eq_true rfl) rfl rfl ?_
        refine j_goto (tgt := 4) dX0_tieCount_27 (by decide) ?_
        exact ih4 (q + (deg row v)) (v + 1) (by first | exact h1 | omega) (by rw [hq0]; rfl) (by omega)
  refine j_iconst (v := nI 0) dX0_tieCount_0 (by decide +kernel) ?_
  refine j_istore_n (lv' := [(0, .ref 33), (1, .int (nI 0))]) dX0_tieCount_1 (Nat.le_of_ble_eq_true rfl) rfl rfl ?_
  refine j_iconst (v := nI 0) dX0_tieCount_2 (by decide +kernel) ?_
  refine j_istore_n (lv' := [(0, .ref 33), (1, .int (nI 0)), (2, .int (nI 0))]) dX0_tieCount_3 (Nat.le_of_ble_eq_true rfl) rfl rfl ?_
  exact L4 _ 0 0 (by first | exact h1 | omega) rfl (Nat.lt_succ_self _)

set_option maxHeartbeats 400000 in
set_option maxRecDepth 100000 in
theorem c_areTied40 (z : mj_B) (d : Nat) (u : Nat) (hu : u < 8) (y : Int32) (F A : mj_S) : J (gC z) mX0_areTied (d + 1) 0 [(0, .ref 40), (1, .int (nI u)), (2, .int y)] [] F A (qN F A fun r => r ≤ 1) := by
  refine j_aload_n dX0_areTied_0 rfl ?_
  refine j_getR (r := 44) dX0_areTied_1 flX0_21 (Nat.le_of_ble_eq_true rfl) rfl rfl ?_
  refine j_iload_n dX0_areTied_4 rfl ?_
  refine j_ialdN dX0_areTied_5 (Nat.le_of_ble_eq_true rfl) rfl (by omega) (by decide) ?_
  refine j_iload_n dX0_areTied_6 rfl ?_
  refine j_callSN (y' := mX5_hasBit) (As := [.int (A 44 u), .int y]) (st := []) dX0_areTied_7 lnX0_38 okX5_hasBit stX5_hasBit rfl (Nat.le_of_ble_eq_true rfl) (Nat.le_of_ble_eq_true rfl) (c_hasBit z _ (A 44 u) y F A) (fun v7 F7 A7 hq7 => ?_)
  obtain ⟨rfl, rfl, r7, rfl, hr7⟩ := hq7
  have hb7 : r7 ≤ 1 := hr7.1
  exact j_iret dX0_areTied_10 rfl (mj_nz (by omega)) ⟨rfl, rfl, _, rfl, hb7⟩

set_option maxHeartbeats 400000 in
set_option maxRecDepth 100000 in
theorem c_areTiedX40 (z : mj_B) (d : Nat) (n u v : Nat) (row : Nat → Int32) (hn : n ≤ 8) (hu : u < n) (hv : v < 8) (F A : mj_S) (hG : GRm A 40 n row) : J (gC z) mX0_areTied (d + 1) 0 [(0, .ref 40), (1, .int (nI u)), (2, .int (nI v))] [] F A (qN F A fun r => r = tdd row u v) := by
  refine j_aload_n dX0_areTied_0 rfl ?_
  refine j_getR (r := 44) dX0_areTied_1 flX0_21 (Nat.le_of_ble_eq_true rfl) rfl rfl ?_
  refine j_iload_n dX0_areTied_4 rfl ?_
  refine j_ialdN dX0_areTied_5 (Nat.le_of_ble_eq_true rfl) rfl (by omega) (by decide) ?_
  refine j_iload_n dX0_areTied_6 rfl ?_
  refine j_callSN (y' := mX5_hasBit) (As := [.int (A 44 u), .int (nI v)]) (st := []) dX0_areTied_7 lnX0_38 okX5_hasBit stX5_hasBit rfl (Nat.le_of_ble_eq_true rfl) (Nat.le_of_ble_eq_true rfl) (c_hasBit z _ (A 44 u) (nI v) F A) (fun v7 F7 A7 hq7 => ?_)
  obtain ⟨rfl, rfl, r7, rfl, hr7⟩ := hq7
  have hb7 : r7 ≤ 1 := hr7.1
  have hx : r7 = tdd row u v := by
    have h2 := bit_get _ (mkB_lt row u) v hv
    rw [mkB_bit row u hv] at h2
    have h3 := tdd_le row u v
    rw [hG u hu] at hr7
    have h4 := hr7.2
    rcases (show tdd row u v = 0 ∨ tdd row u v = 1 by omega) with e | e
    · have h5 := h2.mpr e
      have : r7 ≠ 1 := fun q => h4.mp q h5
      omega
    · have : r7 = 1 := h4.mpr (fun q => absurd (h2.mp q) (by omega))
      omega
  exact j_iret dX0_areTied_10 rfl (mj_nz (by omega)) ⟨rfl, rfl, _, rfl, hx⟩

set_option maxHeartbeats 400000 in
set_option maxRecDepth 100000 in
theorem c_tieCount40 (z : mj_B) (d : Nat) (T : Tg) (F A : mj_S) (hC : CI T F A) : J (gC z) mX0_tieCount (d + 1) 0 [(0, .ref 40)] [] F A (qP F A fun _ => True) := by
  obtain ⟨n, hn, en⟩ := (hC.2.2.2.1 40 n40).1
  have L4 : ∀ (fuel : Nat) (q : Int32) (v : Nat), (v ≤ n) → n - v < fuel → J (gC z) mX0_tieCount (d + 1) 4 [(0, .ref 40), (1, .int q), (2, .int (nI v))] [] F A (qP F A fun _ => True) := by
    intro fuel
    induction fuel with
    | zero => intro q v h1 hf; exact absurd hf (by omega)
    | succ fuel ih4 =>
      intro q v h1 hf
      refine j_iload_n dX0_tieCount_4 rfl ?_
      refine j_aload_n dX0_tieCount_5 rfl ?_
      refine j_getI dX0_tieCount_6 flX0_30 (Nat.le_of_ble_eq_true rfl) rfl rfl ?_
      refine j_top (y0 := nI n) en ?_
      refine j_icmp_geN (tgt := 30) dX0_tieCount_9 (by decide) (by omega) (by omega) (fun c9 => ?_) (fun c9 => ?_)
      · refine j_iload_n dX0_tieCount_30 rfl ?_
        refine j_iconst (v := nI 2) dX0_tieCount_31 (by decide +kernel) ?_
        refine j_idiv dX0_tieCount_32 (by decide +kernel) ?_
        exact j_iret dX0_tieCount_33 rfl rfl ⟨rfl, rfl, _, rfl, trivial⟩
      · refine j_iload_n dX0_tieCount_12 rfl ?_
        refine j_aload_n dX0_tieCount_13 rfl ?_
        refine j_getR (r := 44) dX0_tieCount_14 flX0_21 (Nat.le_of_ble_eq_true rfl) rfl rfl ?_
        refine j_iload_n dX0_tieCount_17 rfl ?_
        refine j_ialdN dX0_tieCount_18 (Nat.le_of_ble_eq_true rfl) rfl (by omega) (by decide) ?_
        refine j_callS (y' := mJ6_bitCount_0f7a4) (As := [.int (A 44 v)]) (st := [.int q]) dX0_tieCount_19 lkX0_42 okJ6_bitCount_0f7a4 stJ6_bitCount_0f7a4 rfl (Nat.le_of_ble_eq_true rfl) (Nat.le_of_ble_eq_true rfl) (c_bitCount z _ (A 44 v) F A) (fun v19 F19 A19 hq19 => ?_)
        obtain ⟨rfl, rfl, r19, rfl, hr19⟩ := hq19
        refine j_iadd dX0_tieCount_22 ?_
        refine j_istore_n (lv' := [(0, .ref 40), (1, .int (q + r19)), (2, .int (nI v))]) dX0_tieCount_23 (Nat.le_of_ble_eq_true rfl) rfl rfl ?_
        refine j_iinc (v := nI (v + 1)) (lv' := [(0, .ref 40), (1, .int (q + r19)), (2, .int (nI (v + 1)))]) dX0_tieCount_24 rfl (nI_add _ 1) (Nat.le_of_ble_eq_true rfl) rfl rfl ?_
        refine j_goto (tgt := 4) dX0_tieCount_27 (by decide) ?_
        exact ih4 (q + r19) (v + 1) (by first | exact h1 | omega) (by omega)
  refine j_iconst (v := nI 0) dX0_tieCount_0 (by decide +kernel) ?_
  refine j_istore_n (lv' := [(0, .ref 40), (1, .int (nI 0))]) dX0_tieCount_1 (Nat.le_of_ble_eq_true rfl) rfl rfl ?_
  refine j_iconst (v := nI 0) dX0_tieCount_2 (by decide +kernel) ?_
  refine j_istore_n (lv' := [(0, .ref 40), (1, .int (nI 0)), (2, .int (nI 0))]) dX0_tieCount_3 (Nat.le_of_ble_eq_true rfl) rfl rfl ?_
  exact L4 _ (nI 0) 0 (by first | exact h1 | omega) (Nat.lt_succ_self _)

set_option maxHeartbeats 400000 in
set_option maxRecDepth 100000 in
theorem c_tieCountX40 (z : mj_B) (d : Nat) (n : Nat) (mm : Nat → Nat) (row : Nat → Int32) (F A : mj_S) (hG : GR F A 40 n mm row) (hw : wr n mm row) : J (gC z) mX0_tieCount (d + 1) 0 [(0, .ref 40)] [] F A (qN F A fun r => r = tsN row 28) := by
  have hn := hG.1.1.2
  have L4 : ∀ (fuel : Nat) (q : Nat) (v : Nat), (v ≤ n) → (q = degN row v) → n - v < fuel → J (gC z) mX0_tieCount (d + 1) 4 [(0, .ref 40), (1, .int (nI q)), (2, .int (nI v))] [] F A (qN F A fun r => r = tsN row 28) := by
    intro fuel
    induction fuel with
    | zero => intro q v h1 hq0 hf; exact absurd hf (by omega)
    | succ fuel ih4 =>
      intro q v h1 hq0 hf
      have hq8 : q ≤ 8 * v := by rw [hq0]; exact degN_le row v
      refine j_iload_n dX0_tieCount_4 rfl ?_
      refine j_aload_n dX0_tieCount_5 rfl ?_
      refine j_getI dX0_tieCount_6 flX0_30 (Nat.le_of_ble_eq_true rfl) rfl rfl ?_
      refine j_top (y0 := nI n) hG.1.1.1 ?_
      refine j_icmp_geN (tgt := 30) dX0_tieCount_9 (by decide) (by omega) (by omega) (fun c9 => ?_) (fun c9 => ?_)
      · refine j_iload_n dX0_tieCount_30 rfl ?_
        refine j_iconst (v := nI 2) dX0_tieCount_31 (by decide +kernel) ?_
        refine j_idivN dX0_tieCount_32 (by omega) (by omega) (by omega) ?_
        exact j_iret dX0_tieCount_33 rfl rfl ⟨rfl, rfl, _, rfl, by have e1 := degN_all (row := row) hn (fun u h1 h2 => deg_z (fun v hv => hw.off h2 hv (Or.inl h1))); have e2 := degN_ts row; rw [show v = n by omega] at hq0; omega⟩
      · refine j_iload_n dX0_tieCount_12 rfl ?_
        refine j_aload_n dX0_tieCount_13 rfl ?_
        refine j_getR (r := 44) dX0_tieCount_14 flX0_21 (Nat.le_of_ble_eq_true rfl) rfl rfl ?_
        refine j_iload_n dX0_tieCount_17 rfl ?_
        refine j_ialdN dX0_tieCount_18 (Nat.le_of_ble_eq_true rfl) rfl (by omega) (by decide) ?_
        refine j_callS (y' := mJ6_bitCount_0f7a4) (As := [.int (A 44 v)]) (st := [.int (nI q)]) dX0_tieCount_19 lkX0_42 okJ6_bitCount_0f7a4 stJ6_bitCount_0f7a4 rfl (Nat.le_of_ble_eq_true rfl) (Nat.le_of_ble_eq_true rfl) (c_bitCount z _ (A 44 v) F A) (fun v19 F19 A19 hq19 => ?_)
        obtain ⟨rfl, rfl, r19, rfl, hr19⟩ := hq19
        refine j_top (y0 := nI (deg row v)) (by rw [hr19, hG.2.1 v (by omega), bc_deg]) ?_
        refine j_iaddN dX0_tieCount_22 ?_
        refine j_istore_n (lv' := [(0, .ref 40), (1, .int (nI (q + (deg row v)))), (2, .int (nI v))]) dX0_tieCount_23 (Nat.le_of_ble_eq_true rfl) rfl rfl ?_
        refine j_iinc (v := nI (v + 1)) (lv' := [(0, .ref 40), (1, .int (nI (q + (deg row v)))), (2, .int (nI (v + 1)))]) dX0_tieCount_24 rfl (nI_add _ 1) (Nat.le_of_ble_eq_true rfl) rfl rfl ?_
        refine j_goto (tgt := 4) dX0_tieCount_27 (by decide) ?_
        exact ih4 (q + (deg row v)) (v + 1) (by first | exact h1 | omega) (by rw [hq0]; rfl) (by omega)
  refine j_iconst (v := nI 0) dX0_tieCount_0 (by decide +kernel) ?_
  refine j_istore_n (lv' := [(0, .ref 40), (1, .int (nI 0))]) dX0_tieCount_1 (Nat.le_of_ble_eq_true rfl) rfl rfl ?_
  refine j_iconst (v := nI 0) dX0_tieCount_2 (by decide +kernel) ?_
  refine j_istore_n (lv' := [(0, .ref 40), (1, .int (nI 0)), (2, .int (nI 0))]) dX0_tieCount_3 (Nat.le_of_ble_eq_true rfl) rfl rfl ?_
  exact L4 _ 0 0 (by first | exact h1 | omega) rfl (Nat.lt_succ_self _)

set_option maxHeartbeats 400000 in
set_option maxRecDepth 100000 in
theorem c_pinCount (z : mj_B) (d : Nat) (T : Tg) (F A : mj_S) (hC : CI T F A) : J (gC z) mX0_pinCount d 0 [(0, .ref 33)] [] F A (qP F A fun _ => True) := by
  obtain ⟨n, hn, en⟩ := (hC.2.2.2.1 33 n33).1
  have L4 : ∀ (fuel : Nat) (q : Int32) (v : Nat), (v ≤ n) → n - v < fuel → J (gC z) mX0_pinCount d 4 [(0, .ref 33), (1, .int q), (2, .int (nI v))] [] F A (qP F A fun _ => True) := by
    intro fuel
    induction fuel with
    | zero => intro q v h1 hf; exact absurd hf (by omega)
    | succ fuel ih4 =>
      intro q v h1 hf
      refine j_iload_n dX0_pinCount_4 rfl ?_
      refine j_aload_n dX0_pinCount_5 rfl ?_
      refine j_getI dX0_pinCount_6 flX0_30 (Nat.le_of_ble_eq_true rfl) rfl rfl ?_
      refine j_top (y0 := nI n) en ?_
      refine j_icmp_geN (tgt := 31) dX0_pinCount_9 (by decide) (by omega) (by omega) (fun c9 => ?_) (fun c9 => ?_)
      · refine j_iload_n dX0_pinCount_31 rfl ?_
        exact j_iret dX0_pinCount_32 rfl rfl ⟨rfl, rfl, _, rfl, trivial⟩
      · refine j_aload_n dX0_pinCount_12 rfl ?_
        refine j_getR (r := 36) dX0_pinCount_13 flX0_18 (Nat.le_of_ble_eq_true rfl) rfl rfl ?_
        refine j_iload_n dX0_pinCount_16 rfl ?_
        refine j_ialdN dX0_pinCount_17 (Nat.le_of_ble_eq_true rfl) rfl (by omega) (by decide) ?_
        refine j_iconst (v := (-1)) dX0_pinCount_18 (by decide +kernel) ?_
        refine j_icmp_eq (tgt := 25) dX0_pinCount_19 (by decide) (fun c19 => ?_) (fun c19 => ?_)
        · refine j_iinc (v := nI (v + 1)) (lv' := [(0, .ref 33), (1, .int q), (2, .int (nI (v + 1)))]) dX0_pinCount_25 rfl (nI_add _ 1) (Nat.le_of_ble_eq_true rfl) rfl rfl ?_
          refine j_goto (tgt := 4) dX0_pinCount_28 (by decide) ?_
          exact ih4 q (v + 1) (by first | exact h1 | omega) (by omega)
        · refine j_iinc (v := q + 1) (lv' := [(0, .ref 33), (1, .int (q + 1)), (2, .int (nI v))]) dX0_pinCount_22 rfl rfl (Nat.le_of_ble_eq_true rfl) rfl rfl ?_
          refine j_iinc (v := nI (v + 1)) (lv' := [(0, .ref 33), (1, .int (q + 1)), (2, .int (nI (v + 1)))]) dX0_pinCount_25 rfl (nI_add _ 1) (Nat.le_of_ble_eq_true rfl) rfl rfl ?_
          refine j_goto (tgt := 4) dX0_pinCount_28 (by decide) ?_
          exact ih4 (q + 1) (v + 1) (by first | exact h1 | omega) (by omega)
  refine j_iconst (v := nI 0) dX0_pinCount_0 (by decide +kernel) ?_
  refine j_istore_n (lv' := [(0, .ref 33), (1, .int (nI 0))]) dX0_pinCount_1 (Nat.le_of_ble_eq_true rfl) rfl rfl ?_
  refine j_iconst (v := nI 0) dX0_pinCount_2 (by decide +kernel) ?_
  refine j_istore_n (lv' := [(0, .ref 33), (1, .int (nI 0)), (2, .int (nI 0))]) dX0_pinCount_3 (Nat.le_of_ble_eq_true rfl) rfl rfl ?_
  exact L4 _ (nI 0) 0 (by first | exact h1 | omega) (Nat.lt_succ_self _)

set_option maxHeartbeats 400000 in
set_option maxRecDepth 100000 in
theorem c_pinCountX (z : mj_B) (d : Nat) (n : Nat) (mm : Nat → Nat) (row : Nat → Int32) (F A : mj_S) (hG : GR F A 33 n mm row) (hw : wr n mm row) : J (gC z) mX0_pinCount d 0 [(0, .ref 33)] [] F A (qN F A fun r => r = pnN row n) := by
  have hn := hG.1.1.2
  have L4 : ∀ (fuel : Nat) (q : Nat) (v : Nat), (v ≤ n) → (q = pnN row v) → n - v < fuel → J (gC z) mX0_pinCount d 4 [(0, .ref 33), (1, .int (nI q)), (2, .int (nI v))] [] F A (qN F A fun r => r = pnN row n) := by
    intro fuel
    induction fuel with
    | zero => intro q v h1 hq0 hf; exact absurd hf (by omega)
    | succ fuel ih4 =>
      intro q v h1 hq0 hf
      refine j_iload_n dX0_pinCount_4 rfl ?_
      refine j_aload_n dX0_pinCount_5 rfl ?_
      refine j_getI dX0_pinCount_6 flX0_30 (Nat.le_of_ble_eq_true rfl) rfl rfl ?_
      refine j_top (y0 := nI n) hG.1.1.1 ?_
      refine j_icmp_geN (tgt := 31) dX0_pinCount_9 (by decide) (by omega) (by omega) (fun c9 => ?_) (fun c9 => ?_)
      · refine j_iload_n dX0_pinCount_31 rfl ?_
        exact j_iret dX0_pinCount_32 rfl rfl ⟨rfl, rfl, _, rfl, by rw [hq0, show v = n by omega]⟩
      · have hpv : A 36 v = (-1) ↔ ¬ 0 < row (40 + v) := by
          obtain ⟨p, hp, ep⟩ := (hw.2.1 v (by omega)).2.1
          have := (hw.1.2 v (by omega)).2
          rw [(hG.1.2 v (by omega)).2.2.2.1, ep, pin_m1 p (by omega), pos_nI (by omega)]
          omega
        refine j_aload_n dX0_pinCount_12 rfl ?_
        refine j_getR (r := 36) dX0_pinCount_13 flX0_18 (Nat.le_of_ble_eq_true rfl) rfl rfl ?_
        refine j_iload_n dX0_pinCount_16 rfl ?_
        refine j_ialdN dX0_pinCount_17 (Nat.le_of_ble_eq_true rfl) rfl (by omega) (by decide) ?_
        refine j_iconst (v := (-1)) dX0_pinCount_18 (by decide +kernel) ?_
        refine j_icmp_eq (tgt := 25) dX0_pinCount_19 (by decide) (fun c19 => ?_) (fun c19 => ?_)
        · refine j_iinc (v := nI (v + 1)) (lv' := [(0, .ref 33), (1, .int (nI q)), (2, .int (nI (v + 1)))]) dX0_pinCount_25 rfl (nI_add _ 1) (Nat.le_of_ble_eq_true rfl) rfl rfl ?_
          refine j_goto (tgt := 4) dX0_pinCount_28 (by decide) ?_
          exact ih4 q (v + 1) (by first | exact h1 | omega) (by first | exact pnN_f hq0 (hpv.mp c19) | exact pnN_t hq0 (Classical.byContradiction fun q => c19 (hpv.mpr q))) (by omega)
        · refine j_iinc (v := nI (q + 1)) (lv' := [(0, .ref 33), (1, .int (nI (q + 1))), (2, .int (nI v))]) dX0_pinCount_22 rfl (nI_add _ 1) (Nat.le_of_ble_eq_true rfl) rfl rfl ?_
          refine j_iinc (v := nI (v + 1)) (lv' := [(0, .ref 33), (1, .int (nI (q + 1))), (2, .int (nI (v + 1)))]) dX0_pinCount_25 rfl (nI_add _ 1) (Nat.le_of_ble_eq_true rfl) rfl rfl ?_
          refine j_goto (tgt := 4) dX0_pinCount_28 (by decide) ?_
          exact ih4 (q + 1) (v + 1) (by first | exact h1 | omega) (by first | exact pnN_f hq0 (hpv.mp c19) | exact pnN_t hq0 (Classical.byContradiction fun q => c19 (hpv.mpr q))) (by omega)
  refine j_iconst (v := nI 0) dX0_pinCount_0 (by decide +kernel) ?_
  refine j_istore_n (lv' := [(0, .ref 33), (1, .int (nI 0))]) dX0_pinCount_1 (Nat.le_of_ble_eq_true rfl) rfl rfl ?_
  refine j_iconst (v := nI 0) dX0_pinCount_2 (by decide +kernel) ?_
  refine j_istore_n (lv' := [(0, .ref 33), (1, .int (nI 0)), (2, .int (nI 0))]) dX0_pinCount_3 (Nat.le_of_ble_eq_true rfl) rfl rfl ?_
  exact L4 _ 0 0 (by first | exact h1 | omega) rfl (Nat.lt_succ_self _)

set_option maxHeartbeats 400000 in
set_option maxRecDepth 100000 in
theorem c_choiceCost (z : mj_B) (d : Nat) (u i : Nat) (hu : u < 8) (hi : i < 4) (F A : mj_S) : J (gC z) mX0_choiceCost (d + 2) 0 [(0, .ref 33), (1, .int (nI u)), (2, .int (nI i))] [] F A (qP F A fun _ => True) := by
  refine j_aload_n dX0_choiceCost_0 rfl ?_
  refine j_getR (r := 36) dX0_choiceCost_1 flX0_18 (Nat.le_of_ble_eq_true rfl) rfl rfl ?_
  refine j_iload_n dX0_choiceCost_4 rfl ?_
  refine j_ialdN dX0_choiceCost_5 (Nat.le_of_ble_eq_true rfl) rfl (by omega) (by decide) ?_
  refine j_iconst (v := (-1)) dX0_choiceCost_6 (by decide +kernel) ?_
  refine j_icmp_eq (tgt := 23) dX0_choiceCost_7 (by decide) (fun c7 => ?_) (fun c7 => ?_)
  · refine j_aload_n dX0_choiceCost_23 rfl ?_
    refine j_getR (r := 38) dX0_choiceCost_24 flX0_24 (Nat.le_of_ble_eq_true rfl) rfl rfl ?_
    refine j_iload_n dX0_choiceCost_27 rfl ?_
    refine j_iload_n dX0_choiceCost_28 rfl ?_
    refine j_callSN (y' := mX5_choicePlace) (As := [.int (nI u), .int (nI i)]) (st := [.ref 38]) dX0_choiceCost_29 lnX0_49 okX5_choicePlace stX5_choicePlace rfl (Nat.le_of_ble_eq_true rfl) (Nat.le_of_ble_eq_true rfl) (c_choicePlace z _ u i F A) (fun v29 F29 A29 hq29 => ?_)
    obtain ⟨rfl, rfl, r29, rfl, hr29⟩ := hq29
    refine j_ialdN dX0_choiceCost_32 (Nat.le_of_ble_eq_true rfl) rfl (by omega) (by decide) ?_
    refine j_istore_n (lv' := [(0, .ref 33), (1, .int (nI u)), (2, .int (nI i)), (3, .int (A 38 r29))]) dX0_choiceCost_33 (Nat.le_of_ble_eq_true rfl) rfl rfl ?_
    refine j_iload_n dX0_choiceCost_34 rfl ?_
    refine j_bipush (v := nI 99) dX0_choiceCost_35 (by decide +kernel) ?_
    refine j_icmp_ne (tgt := 45) dX0_choiceCost_37 (by decide) (fun c37 => ?_) (fun c37 => ?_)
    · refine j_iload_n dX0_choiceCost_45 rfl ?_
      refine j_istore (lv' := [(0, .ref 33), (1, .int (nI u)), (2, .int (nI i)), (3, .int (A 38 r29)), (4, .int (A 38 r29))]) dX0_choiceCost_46 (Nat.le_of_ble_eq_true rfl) rfl rfl ?_
      refine j_aload_n dX0_choiceCost_48 rfl ?_
      refine j_getR (r := 35) dX0_choiceCost_49 flX0_15 (Nat.le_of_ble_eq_true rfl) rfl rfl ?_
      refine j_iload_n dX0_choiceCost_52 rfl ?_
      refine j_ialdN dX0_choiceCost_53 (Nat.le_of_ble_eq_true rfl) rfl (by omega) (by decide) ?_
      by_cases c54 : (A 35 u).toInt < 1 ∨ 3 < (A 35 u).toInt
      · refine j_tOut (tgt := 115) dX0_choiceCost_54 c54 (by decide) ?_
        refine j_iload dX0_choiceCost_115 rfl ?_
        exact j_iret dX0_choiceCost_117 rfl rfl ⟨rfl, rfl, _, rfl, trivial⟩
      · obtain ⟨q54, hq54, e54⟩ := mj_sw (n := 3) (A 35 u) c54 (by decide)
        match q54, hq54, e54 with
        | 0, _, e54 =>
          refine j_tIn (tgt := 80) dX0_choiceCost_54 (by rw [e54]; decide) (by rw [e54]; decide) (by rw [e54]; rfl) (by decide) ?_
          refine j_iconst (v := nI 2) dX0_choiceCost_80 (by decide +kernel) ?_
          refine j_iload dX0_choiceCost_81 rfl ?_
          refine j_imul dX0_choiceCost_83 ?_
          refine j_callSN (y' := mX5_capped) (As := [.int ((nI 2) * (A 38 r29))]) (st := []) dX0_choiceCost_84 lnX0_53 okX5_capped stX5_capped rfl (Nat.le_of_ble_eq_true rfl) (Nat.le_of_ble_eq_true rfl) (c_capped z _ ((nI 2) * (A 38 r29)) F A) (fun v84 F84 A84 hq84 => ?_)
          obtain ⟨rfl, rfl, r84, rfl, hr84⟩ := hq84
          exact j_iret dX0_choiceCost_87 rfl rfl ⟨rfl, rfl, _, rfl, trivial⟩
        | 1, _, e54 =>
          refine j_tIn (tgt := 88) dX0_choiceCost_54 (by rw [e54]; decide) (by rw [e54]; decide) (by rw [e54]; rfl) (by decide) ?_
          refine j_iload dX0_choiceCost_88 rfl ?_
          refine j_iload_n dX0_choiceCost_90 rfl ?_
          refine j_iadd dX0_choiceCost_91 ?_
          refine j_callSN (y' := mX5_capped) (As := [.int ((A 38 r29) + (nI i))]) (st := []) dX0_choiceCost_92 lnX0_53 okX5_capped stX5_capped rfl (Nat.le_of_ble_eq_true rfl) (Nat.le_of_ble_eq_true rfl) (c_capped z _ ((A 38 r29) + (nI i)) F A) (fun v92 F92 A92 hq92 => ?_)
          obtain ⟨rfl, rfl, r92, rfl, hr92⟩ := hq92
          exact j_iret dX0_choiceCost_95 rfl rfl ⟨rfl, rfl, _, rfl, trivial⟩
        | 2, _, e54 =>
          refine j_tIn (tgt := 96) dX0_choiceCost_54 (by rw [e54]; decide) (by rw [e54]; decide) (by rw [e54]; rfl) (by decide) ?_
          refine j_iconst (v := nI 2) dX0_choiceCost_96 (by decide +kernel) ?_
          refine j_iload dX0_choiceCost_97 rfl ?_
          refine j_imul dX0_choiceCost_99 ?_
          refine j_bipush (v := nI 20) dX0_choiceCost_100 (by decide +kernel) ?_
          refine j_icmp_le (tgt := 110) dX0_choiceCost_102 (by decide) (fun c102 => ?_) (fun c102 => ?_)
          · refine j_iconst (v := nI 2) dX0_choiceCost_110 (by decide +kernel) ?_
            refine j_iload dX0_choiceCost_111 rfl ?_
            refine j_imul dX0_choiceCost_113 ?_
            exact j_iret dX0_choiceCost_114 rfl rfl ⟨rfl, rfl, _, rfl, trivial⟩
          · refine j_ldc dX0_choiceCost_105 kcX0_48 ?_
            refine j_goto (tgt := 114) dX0_choiceCost_107 (by decide) ?_
            exact j_iret dX0_choiceCost_114 rfl rfl ⟨rfl, rfl, _, rfl, trivial⟩
        | q + 3, hq, _ => exact absurd hq (by omega)
    · refine j_ldc dX0_choiceCost_40 kcX0_48 ?_
      refine j_goto (tgt := 46) dX0_choiceCost_42 (by decide) ?_
      refine j_istore (lv' := [(0, .ref 33), (1, .int (nI u)), (2, .int (nI i)), (3, .int (A 38 r29)), (4, .int 1000000)]) dX0_choiceCost_46 (Nat.le_of_ble_eq_true rfl) rfl rfl ?_
      refine j_aload_n dX0_choiceCost_48 rfl ?_
      refine j_getR (r := 35) dX0_choiceCost_49 flX0_15 (Nat.le_of_ble_eq_true rfl) rfl rfl ?_
      refine j_iload_n dX0_choiceCost_52 rfl ?_
      refine j_ialdN dX0_choiceCost_53 (Nat.le_of_ble_eq_true rfl) rfl (by omega) (by decide) ?_
      by_cases c54 : (A 35 u).toInt < 1 ∨ 3 < (A 35 u).toInt
      · refine j_tOut (tgt := 115) dX0_choiceCost_54 c54 (by decide) ?_
        refine j_iload dX0_choiceCost_115 rfl ?_
        exact j_iret dX0_choiceCost_117 rfl rfl ⟨rfl, rfl, _, rfl, trivial⟩
      · obtain ⟨q54, hq54, e54⟩ := mj_sw (n := 3) (A 35 u) c54 (by decide)
        match q54, hq54, e54 with
        | 0, _, e54 =>
          refine j_tIn (tgt := 80) dX0_choiceCost_54 (by rw [e54]; decide) (by rw [e54]; decide) (by rw [e54]; rfl) (by decide) ?_
          refine j_iconst (v := nI 2) dX0_choiceCost_80 (by decide +kernel) ?_
          refine j_iload dX0_choiceCost_81 rfl ?_
          refine j_imul dX0_choiceCost_83 ?_
          refine j_callSN (y' := mX5_capped) (As := [.int ((nI 2) * 1000000)]) (st := []) dX0_choiceCost_84 lnX0_53 okX5_capped stX5_capped rfl (Nat.le_of_ble_eq_true rfl) (Nat.le_of_ble_eq_true rfl) (c_capped z _ ((nI 2) * 1000000) F A) (fun v84 F84 A84 hq84 => ?_)
          obtain ⟨rfl, rfl, r84, rfl, hr84⟩ := hq84
          exact j_iret dX0_choiceCost_87 rfl rfl ⟨rfl, rfl, _, rfl, trivial⟩
        | 1, _, e54 =>
          refine j_tIn (tgt := 88) dX0_choiceCost_54 (by rw [e54]; decide) (by rw [e54]; decide) (by rw [e54]; rfl) (by decide) ?_
          refine j_iload dX0_choiceCost_88 rfl ?_
          refine j_iload_n dX0_choiceCost_90 rfl ?_
          refine j_iadd dX0_choiceCost_91 ?_
          refine j_callSN (y' := mX5_capped) (As := [.int (1000000 + (nI i))]) (st := []) dX0_choiceCost_92 lnX0_53 okX5_capped stX5_capped rfl (Nat.le_of_ble_eq_true rfl) (Nat.le_of_ble_eq_true rfl) (c_capped z _ (1000000 + (nI i)) F A) (fun v92 F92 A92 hq92 => ?_)
          obtain ⟨rfl, rfl, r92, rfl, hr92⟩ := hq92
          exact j_iret dX0_choiceCost_95 rfl rfl ⟨rfl, rfl, _, rfl, trivial⟩
        | 2, _, e54 =>
          refine j_tIn (tgt := 96) dX0_choiceCost_54 (by rw [e54]; decide) (by rw [e54]; decide) (by rw [e54]; rfl) (by decide) ?_
          refine j_iconst (v := nI 2) dX0_choiceCost_96 (by decide +kernel) ?_
          refine j_iload dX0_choiceCost_97 rfl ?_
          refine j_imul dX0_choiceCost_99 ?_
          refine j_bipush (v := nI 20) dX0_choiceCost_100 (by decide +kernel) ?_
          refine j_icmp_le (tgt := 110) dX0_choiceCost_102 (by decide) (fun c102 => ?_) (fun c102 => ?_)
          · refine j_iconst (v := nI 2) dX0_choiceCost_110 (by decide +kernel) ?_
            refine j_iload dX0_choiceCost_111 rfl ?_
            refine j_imul dX0_choiceCost_113 ?_
            exact j_iret dX0_choiceCost_114 rfl rfl ⟨rfl, rfl, _, rfl, trivial⟩
          · refine j_ldc dX0_choiceCost_105 kcX0_48 ?_
            refine j_goto (tgt := 114) dX0_choiceCost_107 (by decide) ?_
            exact j_iret dX0_choiceCost_114 rfl rfl ⟨rfl, rfl, _, rfl, trivial⟩
        | q + 3, hq, _ => exact absurd hq (by omega)
  · refine j_aload_n dX0_choiceCost_10 rfl ?_
    refine j_getR (r := 36) dX0_choiceCost_11 flX0_18 (Nat.le_of_ble_eq_true rfl) rfl rfl ?_
    refine j_iload_n dX0_choiceCost_14 rfl ?_
    refine j_ialdN dX0_choiceCost_15 (Nat.le_of_ble_eq_true rfl) rfl (by omega) (by decide) ?_
    refine j_iload_n dX0_choiceCost_16 rfl ?_
    refine j_icmp_eq (tgt := 23) dX0_choiceCost_17 (by decide) (fun c17 => ?_) (fun c17 => ?_)
    · refine j_aload_n dX0_choiceCost_23 rfl ?_
      refine j_getR (r := 38) dX0_choiceCost_24 flX0_24 (Nat.le_of_ble_eq_true rfl) rfl rfl ?_
      refine j_iload_n dX0_choiceCost_27 rfl ?_
      refine j_iload_n dX0_choiceCost_28 rfl ?_
      refine j_callSN (y' := mX5_choicePlace) (As := [.int (nI u), .int (nI i)]) (st := [.ref 38]) dX0_choiceCost_29 lnX0_49 okX5_choicePlace stX5_choicePlace rfl (Nat.le_of_ble_eq_true rfl) (Nat.le_of_ble_eq_true rfl) (c_choicePlace z _ u i F A) (fun v29 F29 A29 hq29 => ?_)
      obtain ⟨rfl, rfl, r29, rfl, hr29⟩ := hq29
      refine j_ialdN dX0_choiceCost_32 (Nat.le_of_ble_eq_true rfl) rfl (by omega) (by decide) ?_
      refine j_istore_n (lv' := [(0, .ref 33), (1, .int (nI u)), (2, .int (nI i)), (3, .int (A 38 r29))]) dX0_choiceCost_33 (Nat.le_of_ble_eq_true rfl) rfl rfl ?_
      refine j_iload_n dX0_choiceCost_34 rfl ?_
      refine j_bipush (v := nI 99) dX0_choiceCost_35 (by decide +kernel) ?_
      refine j_icmp_ne (tgt := 45) dX0_choiceCost_37 (by decide) (fun c37 => ?_) (fun c37 => ?_)
      · refine j_iload_n dX0_choiceCost_45 rfl ?_
        refine j_istore (lv' := [(0, .ref 33), (1, .int (nI u)), (2, .int (nI i)), (3, .int (A 38 r29)), (4, .int (A 38 r29))]) dX0_choiceCost_46 (Nat.le_of_ble_eq_true rfl) rfl rfl ?_
        refine j_aload_n dX0_choiceCost_48 rfl ?_
        refine j_getR (r := 35) dX0_choiceCost_49 flX0_15 (Nat.le_of_ble_eq_true rfl) rfl rfl ?_
        refine j_iload_n dX0_choiceCost_52 rfl ?_
        refine j_ialdN dX0_choiceCost_53 (Nat.le_of_ble_eq_true rfl) rfl (by omega) (by decide) ?_
        by_cases c54 : (A 35 u).toInt < 1 ∨ 3 < (A 35 u).toInt
        · refine j_tOut (tgt := 115) dX0_choiceCost_54 c54 (by decide) ?_
          refine j_iload dX0_choiceCost_115 rfl ?_
          exact j_iret dX0_choiceCost_117 rfl rfl ⟨rfl, rfl, _, rfl, trivial⟩
        · obtain ⟨q54, hq54, e54⟩ := mj_sw (n := 3) (A 35 u) c54 (by decide)
          match q54, hq54, e54 with
          | 0, _, e54 =>
            refine j_tIn (tgt := 80) dX0_choiceCost_54 (by rw [e54]; decide) (by rw [e54]; decide) (by rw [e54]; rfl) (by decide) ?_
            refine j_iconst (v := nI 2) dX0_choiceCost_80 (by decide +kernel) ?_
            refine j_iload dX0_choiceCost_81 rfl ?_
            refine j_imul dX0_choiceCost_83 ?_
            refine j_callSN (y' := mX5_capped) (As := [.int ((nI 2) * (A 38 r29))]) (st := []) dX0_choiceCost_84 lnX0_53 okX5_capped stX5_capped rfl (Nat.le_of_ble_eq_true rfl) (Nat.le_of_ble_eq_true rfl) (c_capped z _ ((nI 2) * (A 38 r29)) F A) (fun v84 F84 A84 hq84 => ?_)
            obtain ⟨rfl, rfl, r84, rfl, hr84⟩ := hq84
            exact j_iret dX0_choiceCost_87 rfl rfl ⟨rfl, rfl, _, rfl, trivial⟩
          | 1, _, e54 =>
            refine j_tIn (tgt := 88) dX0_choiceCost_54 (by rw [e54]; decide) (by rw [e54]; decide) (by rw [e54]; rfl) (by decide) ?_
            refine j_iload dX0_choiceCost_88 rfl ?_
            refine j_iload_n dX0_choiceCost_90 rfl ?_
            refine j_iadd dX0_choiceCost_91 ?_
            refine j_callSN (y' := mX5_capped) (As := [.int ((A 38 r29) + (nI i))]) (st := []) dX0_choiceCost_92 lnX0_53 okX5_capped stX5_capped rfl (Nat.le_of_ble_eq_true rfl) (Nat.le_of_ble_eq_true rfl) (c_capped z _ ((A 38 r29) + (nI i)) F A) (fun v92 F92 A92 hq92 => ?_)
            obtain ⟨rfl, rfl, r92, rfl, hr92⟩ := hq92
            exact j_iret dX0_choiceCost_95 rfl rfl ⟨rfl, rfl, _, rfl, trivial⟩
          | 2, _, e54 =>
            refine j_tIn (tgt := 96) dX0_choiceCost_54 (by rw [e54]; decide) (by rw [e54]; decide) (by rw [e54]; rfl) (by decide) ?_
            refine j_iconst (v := nI 2) dX0_choiceCost_96 (by decide +kernel) ?_
            refine j_iload dX0_choiceCost_97 rfl ?_
            refine j_imul dX0_choiceCost_99 ?_
            refine j_bipush (v := nI 20) dX0_choiceCost_100 (by decide +kernel) ?_
            refine j_icmp_le (tgt := 110) dX0_choiceCost_102 (by decide) (fun c102 => ?_) (fun c102 => ?_)
            · refine j_iconst (v := nI 2) dX0_choiceCost_110 (by decide +kernel) ?_
              refine j_iload dX0_choiceCost_111 rfl ?_
              refine j_imul dX0_choiceCost_113 ?_
              exact j_iret dX0_choiceCost_114 rfl rfl ⟨rfl, rfl, _, rfl, trivial⟩
            · refine j_ldc dX0_choiceCost_105 kcX0_48 ?_
              refine j_goto (tgt := 114) dX0_choiceCost_107 (by decide) ?_
              exact j_iret dX0_choiceCost_114 rfl rfl ⟨rfl, rfl, _, rfl, trivial⟩
          | q + 3, hq, _ => exact absurd hq (by omega)
      · refine j_ldc dX0_choiceCost_40 kcX0_48 ?_
        refine j_goto (tgt := 46) dX0_choiceCost_42 (by decide) ?_
        refine j_istore (lv' := [(0, .ref 33), (1, .int (nI u)), (2, .int (nI i)), (3, .int (A 38 r29)), (4, .int 1000000)]) dX0_choiceCost_46 (Nat.le_of_ble_eq_true rfl) rfl rfl ?_
        refine j_aload_n dX0_choiceCost_48 rfl ?_
        refine j_getR (r := 35) dX0_choiceCost_49 flX0_15 (Nat.le_of_ble_eq_true rfl) rfl rfl ?_
        refine j_iload_n dX0_choiceCost_52 rfl ?_
        refine j_ialdN dX0_choiceCost_53 (Nat.le_of_ble_eq_true rfl) rfl (by omega) (by decide) ?_
        by_cases c54 : (A 35 u).toInt < 1 ∨ 3 < (A 35 u).toInt
        · refine j_tOut (tgt := 115) dX0_choiceCost_54 c54 (by decide) ?_
          refine j_iload dX0_choiceCost_115 rfl ?_
          exact j_iret dX0_choiceCost_117 rfl rfl ⟨rfl, rfl, _, rfl, trivial⟩
        · obtain ⟨q54, hq54, e54⟩ := mj_sw (n := 3) (A 35 u) c54 (by decide)
          match q54, hq54, e54 with
          | 0, _, e54 =>
            refine j_tIn (tgt := 80) dX0_choiceCost_54 (by rw [e54]; decide) (by rw [e54]; decide) (by rw [e54]; rfl) (by decide) ?_
            refine j_iconst (v := nI 2) dX0_choiceCost_80 (by decide +kernel) ?_
            refine j_iload dX0_choiceCost_81 rfl ?_
            refine j_imul dX0_choiceCost_83 ?_
            refine j_callSN (y' := mX5_capped) (As := [.int ((nI 2) * 1000000)]) (st := []) dX0_choiceCost_84 lnX0_53 okX5_capped stX5_capped rfl (Nat.le_of_ble_eq_true rfl) (Nat.le_of_ble_eq_true rfl) (c_capped z _ ((nI 2) * 1000000) F A) (fun v84 F84 A84 hq84 => ?_)
            obtain ⟨rfl, rfl, r84, rfl, hr84⟩ := hq84
            exact j_iret dX0_choiceCost_87 rfl rfl ⟨rfl, rfl, _, rfl, trivial⟩
          | 1, _, e54 =>
            refine j_tIn (tgt := 88) dX0_choiceCost_54 (by rw [e54]; decide) (by rw [e54]; decide) (by rw [e54]; rfl) (by decide) ?_
            refine j_iload dX0_choiceCost_88 rfl ?_
            refine j_iload_n dX0_choiceCost_90 rfl ?_
            refine j_iadd dX0_choiceCost_91 ?_
            refine j_callSN (y' := mX5_capped) (As := [.int (1000000 + (nI i))]) (st := []) dX0_choiceCost_92 lnX0_53 okX5_capped stX5_capped rfl (Nat.le_of_ble_eq_true rfl) (Nat.le_of_ble_eq_true rfl) (c_capped z _ (1000000 + (nI i)) F A) (fun v92 F92 A92 hq92 => ?_)
            obtain ⟨rfl, rfl, r92, rfl, hr92⟩ := hq92
            exact j_iret dX0_choiceCost_95 rfl rfl ⟨rfl, rfl, _, rfl, trivial⟩
          | 2, _, e54 =>
            refine j_tIn (tgt := 96) dX0_choiceCost_54 (by rw [e54]; decide) (by rw [e54]; decide) (by rw [e54]; rfl) (by decide) ?_
            refine j_iconst (v := nI 2) dX0_choiceCost_96 (by decide +kernel) ?_
            refine j_iload dX0_choiceCost_97 rfl ?_
            refine j_imul dX0_choiceCost_99 ?_
            refine j_bipush (v := nI 20) dX0_choiceCost_100 (by decide +kernel) ?_
            refine j_icmp_le (tgt := 110) dX0_choiceCost_102 (by decide) (fun c102 => ?_) (fun c102 => ?_)
            · refine j_iconst (v := nI 2) dX0_choiceCost_110 (by decide +kernel) ?_
              refine j_iload dX0_choiceCost_111 rfl ?_
              refine j_imul dX0_choiceCost_113 ?_
              exact j_iret dX0_choiceCost_114 rfl rfl ⟨rfl, rfl, _, rfl, trivial⟩
            · refine j_ldc dX0_choiceCost_105 kcX0_48 ?_
              refine j_goto (tgt := 114) dX0_choiceCost_107 (by decide) ?_
              exact j_iret dX0_choiceCost_114 rfl rfl ⟨rfl, rfl, _, rfl, trivial⟩
          | q + 3, hq, _ => exact absurd hq (by omega)
    · refine j_ldc dX0_choiceCost_20 kcX0_48 ?_
      exact j_iret dX0_choiceCost_22 rfl rfl ⟨rfl, rfl, _, rfl, trivial⟩

set_option maxHeartbeats 400000 in
set_option maxRecDepth 100000 in
theorem c_choiceCostX (z : mj_B) (d : Nat) (n : Nat) (mm : Nat → Nat) (row : Nat → Int32) (u i : Nat) (hu : u < n) (hi : i < mm u) (F A : mj_S) (hG : GR F A 33 n mm row) (hw : wr n mm row) : J (gC z) mX0_choiceCost (d + 2) 0 [(0, .ref 33), (1, .int (nI u)), (2, .int (nI i))] [] F A (qN F A fun r => r = cst row u i) := by
  have hn := hG.1.1.2
  have hm4 := (hw.1.2 u hu).2
  obtain ⟨p, t, kd, hp4, ht9, hk4, ep, et, ek, ecst⟩ := hw.cstE hu hi
  obtain ⟨-, -, e35, e36, e38⟩ := hG.1.2 u hu
  have e38 := e38 i hi
  refine j_aload_n dX0_choiceCost_0 rfl ?_
  refine j_getR (r := 36) dX0_choiceCost_1 flX0_18 (Nat.le_of_ble_eq_true rfl) rfl rfl ?_
  refine j_iload_n dX0_choiceCost_4 rfl ?_
  refine j_ialdN dX0_choiceCost_5 (Nat.le_of_ble_eq_true rfl) rfl (by omega) (by decide) ?_
  refine j_iconst (v := (-1)) dX0_choiceCost_6 (by decide +kernel) ?_
  refine j_icmp_eq (tgt := 23) dX0_choiceCost_7 (by decide) (fun c7 => ?_) (fun c7 => ?_)
  · have hp0 : p = 0 := (pin_m1 p hp4).mp (by rw [← ep, ← e36]; exact c7)
    refine j_aload_n dX0_choiceCost_23 rfl ?_
    refine j_getR (r := 38) dX0_choiceCost_24 flX0_24 (Nat.le_of_ble_eq_true rfl) rfl rfl ?_
    refine j_iload_n dX0_choiceCost_27 rfl ?_
    refine j_iload_n dX0_choiceCost_28 rfl ?_
    refine j_callSN (y' := mX5_choicePlace) (As := [.int (nI u), .int (nI i)]) (st := [.ref 38]) dX0_choiceCost_29 lnX0_49 okX5_choicePlace stX5_choicePlace rfl (Nat.le_of_ble_eq_true rfl) (Nat.le_of_ble_eq_true rfl) (c_choicePlace z _ u i F A) (fun v29 F29 A29 hq29 => ?_)
    obtain ⟨rfl, rfl, r29, rfl, hr29⟩ := hq29
    refine j_ialdN dX0_choiceCost_32 (Nat.le_of_ble_eq_true rfl) rfl (by omega) (by decide) ?_
    refine j_top (y0 := nI t) (by rw [hr29, Nat.mul_comm u 4, e38, et]) ?_
    refine j_istore_n (lv' := [(0, .ref 33), (1, .int (nI u)), (2, .int (nI i)), (3, .int (nI t))]) dX0_choiceCost_33 (Nat.le_of_ble_eq_true rfl) rfl rfl ?_
    refine j_iload_n dX0_choiceCost_34 rfl ?_
    refine j_bipush (v := nI 99) dX0_choiceCost_35 (by decide +kernel) ?_
    refine j_icmp_neN (tgt := 45) dX0_choiceCost_37 (by decide) (by omega) (by omega) (fun c37 => ?_) (fun c37 => ?_)
    · refine j_iload_n dX0_choiceCost_45 rfl ?_
      refine j_istore (lv' := [(0, .ref 33), (1, .int (nI u)), (2, .int (nI i)), (3, .int (nI t)), (4, .int (nI t))]) dX0_choiceCost_46 (Nat.le_of_ble_eq_true rfl) rfl rfl ?_
      refine j_aload_n dX0_choiceCost_48 rfl ?_
      refine j_getR (r := 35) dX0_choiceCost_49 flX0_15 (Nat.le_of_ble_eq_true rfl) rfl rfl ?_
      refine j_iload_n dX0_choiceCost_52 rfl ?_
      refine j_ialdN dX0_choiceCost_53 (Nat.le_of_ble_eq_true rfl) rfl (by omega) (by decide) ?_
      refine j_top (y0 := nI kd) (by rw [e35, ek]) ?_
      have hk3 := nI_toInt (n := kd) (by omega)
      by_cases c54 : (nI kd).toInt < 1 ∨ 3 < (nI kd).toInt
      · refine j_tOut (tgt := 115) dX0_choiceCost_54 c54 (by decide) ?_
        refine j_iload dX0_choiceCost_115 rfl ?_
        exact j_iret dX0_choiceCost_117 rfl rfl ⟨rfl, rfl, _, rfl, by rw [ecst]; unfold cstN; (repeat' split) <;> omega⟩
      · obtain ⟨q54, hq54, e54⟩ := mj_sw (n := 3) (nI kd) c54 (by decide)
        match q54, hq54, e54 with
        | 0, _, e54 =>
          refine j_tIn (tgt := 80) dX0_choiceCost_54 (by rw [e54]; decide) (by rw [e54]; decide) (by rw [e54]; rfl) (by decide) ?_
          refine j_iconst (v := nI 2) dX0_choiceCost_80 (by decide +kernel) ?_
          refine j_iload dX0_choiceCost_81 rfl ?_
          refine j_imulN dX0_choiceCost_83 ?_
          refine j_callSN (y' := mX5_capped) (As := [.int (nI (2 * t))]) (st := []) dX0_choiceCost_84 lnX0_53 okX5_capped stX5_capped rfl (Nat.le_of_ble_eq_true rfl) (Nat.le_of_ble_eq_true rfl) (c_capped z _ (nI (2 * t)) F A) (fun v84 F84 A84 hq84 => ?_)
          obtain ⟨rfl, rfl, r84, rfl, hr84⟩ := hq84
          rw [min_cap (by omega)] at hr84
          subst hr84
          exact j_iret dX0_choiceCost_87 rfl rfl ⟨rfl, rfl, _, rfl, by rw [ecst]; unfold cstN; (repeat' split) <;> omega⟩
        | 1, _, e54 =>
          refine j_tIn (tgt := 88) dX0_choiceCost_54 (by rw [e54]; decide) (by rw [e54]; decide) (by rw [e54]; rfl) (by decide) ?_
          refine j_iload dX0_choiceCost_88 rfl ?_
          refine j_iload_n dX0_choiceCost_90 rfl ?_
          refine j_iaddN dX0_choiceCost_91 ?_
          refine j_callSN (y' := mX5_capped) (As := [.int (nI (t + i))]) (st := []) dX0_choiceCost_92 lnX0_53 okX5_capped stX5_capped rfl (Nat.le_of_ble_eq_true rfl) (Nat.le_of_ble_eq_true rfl) (c_capped z _ (nI (t + i)) F A) (fun v92 F92 A92 hq92 => ?_)
          obtain ⟨rfl, rfl, r92, rfl, hr92⟩ := hq92
          rw [min_cap (by omega)] at hr92
          subst hr92
          exact j_iret dX0_choiceCost_95 rfl rfl ⟨rfl, rfl, _, rfl, by rw [ecst]; unfold cstN; (repeat' split) <;> omega⟩
        | 2, _, e54 =>
          refine j_tIn (tgt := 96) dX0_choiceCost_54 (by rw [e54]; decide) (by rw [e54]; decide) (by rw [e54]; rfl) (by decide) ?_
          refine j_iconst (v := nI 2) dX0_choiceCost_96 (by decide +kernel) ?_
          refine j_iload dX0_choiceCost_97 rfl ?_
          refine j_imulN dX0_choiceCost_99 ?_
          refine j_bipush (v := nI 20) dX0_choiceCost_100 (by decide +kernel) ?_
          refine j_icmp_leN (tgt := 110) dX0_choiceCost_102 (by decide) (by omega) (by omega) (fun c102 => ?_) (fun c102 => ?_)
          · refine j_iconst (v := nI 2) dX0_choiceCost_110 (by decide +kernel) ?_
            refine j_iload dX0_choiceCost_111 rfl ?_
            refine j_imulN dX0_choiceCost_113 ?_
            exact j_iret dX0_choiceCost_114 rfl rfl ⟨rfl, rfl, _, rfl, by rw [ecst]; unfold cstN; (repeat' split) <;> omega⟩
          · refine j_ldc dX0_choiceCost_105 kcX0_48 ?_
            refine j_top (y0 := nI 1000000) (by decide +kernel) ?_
            refine j_goto (tgt := 114) dX0_choiceCost_107 (by decide) ?_
            exact j_iret dX0_choiceCost_114 rfl rfl ⟨rfl, rfl, _, rfl, by rw [ecst]; unfold cstN; (repeat' split) <;> omega⟩
        | q + 3, hq, _ => exact absurd hq (by omega)
    · refine j_ldc dX0_choiceCost_40 kcX0_48 ?_
      refine j_top (y0 := nI 1000000) (by decide +kernel) ?_
      refine j_goto (tgt := 46) dX0_choiceCost_42 (by decide) ?_
      refine j_istore (lv' := [(0, .ref 33), (1, .int (nI u)), (2, .int (nI i)), (3, .int (nI t)), (4, .int (nI 1000000))]) dX0_choiceCost_46 (Nat.le_of_ble_eq_true rfl) rfl rfl ?_
      refine j_aload_n dX0_choiceCost_48 rfl ?_
      refine j_getR (r := 35) dX0_choiceCost_49 flX0_15 (Nat.le_of_ble_eq_true rfl) rfl rfl ?_
      refine j_iload_n dX0_choiceCost_52 rfl ?_
      refine j_ialdN dX0_choiceCost_53 (Nat.le_of_ble_eq_true rfl) rfl (by omega) (by decide) ?_
      refine j_top (y0 := nI kd) (by rw [e35, ek]) ?_
      have hk3 := nI_toInt (n := kd) (by omega)
      by_cases c54 : (nI kd).toInt < 1 ∨ 3 < (nI kd).toInt
      · refine j_tOut (tgt := 115) dX0_choiceCost_54 c54 (by decide) ?_
        refine j_iload dX0_choiceCost_115 rfl ?_
        exact j_iret dX0_choiceCost_117 rfl rfl ⟨rfl, rfl, _, rfl, by rw [ecst]; unfold cstN; (repeat' split) <;> omega⟩
      · obtain ⟨q54, hq54, e54⟩ := mj_sw (n := 3) (nI kd) c54 (by decide)
        match q54, hq54, e54 with
        | 0, _, e54 =>
          refine j_tIn (tgt := 80) dX0_choiceCost_54 (by rw [e54]; decide) (by rw [e54]; decide) (by rw [e54]; rfl) (by decide) ?_
          refine j_iconst (v := nI 2) dX0_choiceCost_80 (by decide +kernel) ?_
          refine j_iload dX0_choiceCost_81 rfl ?_
          refine j_imulN dX0_choiceCost_83 ?_
          refine j_callSN (y' := mX5_capped) (As := [.int (nI (2 * 1000000))]) (st := []) dX0_choiceCost_84 lnX0_53 okX5_capped stX5_capped rfl (Nat.le_of_ble_eq_true rfl) (Nat.le_of_ble_eq_true rfl) (c_capped z _ (nI (2 * 1000000)) F A) (fun v84 F84 A84 hq84 => ?_)
          obtain ⟨rfl, rfl, r84, rfl, hr84⟩ := hq84
          rw [min_cap (by omega)] at hr84
          subst hr84
          exact j_iret dX0_choiceCost_87 rfl rfl ⟨rfl, rfl, _, rfl, by rw [ecst]; unfold cstN; (repeat' split) <;> omega⟩
        | 1, _, e54 =>
          refine j_tIn (tgt := 88) dX0_choiceCost_54 (by rw [e54]; decide) (by rw [e54]; decide) (by rw [e54]; rfl) (by decide) ?_
          refine j_iload dX0_choiceCost_88 rfl ?_
          refine j_iload_n dX0_choiceCost_90 rfl ?_
          refine j_iaddN dX0_choiceCost_91 ?_
          refine j_callSN (y' := mX5_capped) (As := [.int (nI (1000000 + i))]) (st := []) dX0_choiceCost_92 lnX0_53 okX5_capped stX5_capped rfl (Nat.le_of_ble_eq_true rfl) (Nat.le_of_ble_eq_true rfl) (c_capped z _ (nI (1000000 + i)) F A) (fun v92 F92 A92 hq92 => ?_)
          obtain ⟨rfl, rfl, r92, rfl, hr92⟩ := hq92
          rw [min_cap (by omega)] at hr92
          subst hr92
          exact j_iret dX0_choiceCost_95 rfl rfl ⟨rfl, rfl, _, rfl, by rw [ecst]; unfold cstN; (repeat' split) <;> omega⟩
        | 2, _, e54 =>
          refine j_tIn (tgt := 96) dX0_choiceCost_54 (by rw [e54]; decide) (by rw [e54]; decide) (by rw [e54]; rfl) (by decide) ?_
          refine j_iconst (v := nI 2) dX0_choiceCost_96 (by decide +kernel) ?_
          refine j_iload dX0_choiceCost_97 rfl ?_
          refine j_imulN dX0_choiceCost_99 ?_
          refine j_bipush (v := nI 20) dX0_choiceCost_100 (by decide +kernel) ?_
          refine j_icmp_leN (tgt := 110) dX0_choiceCost_102 (by decide) (by omega) (by omega) (fun c102 => ?_) (fun c102 => ?_)
          · refine j_iconst (v := nI 2) dX0_choiceCost_110 (by decide +kernel) ?_
            refine j_iload dX0_choiceCost_111 rfl ?_
            refine j_imulN dX0_choiceCost_113 ?_
            exact j_iret dX0_choiceCost_114 rfl rfl ⟨rfl, rfl, _, rfl, by rw [ecst]; unfold cstN; (repeat' split) <;> omega⟩
          · refine j_ldc dX0_choiceCost_105 kcX0_48 ?_
            refine j_top (y0 := nI 1000000) (by decide +kernel) ?_
            refine j_goto (tgt := 114) dX0_choiceCost_107 (by decide) ?_
            exact j_iret dX0_choiceCost_114 rfl rfl ⟨rfl, rfl, _, rfl, by rw [ecst]; unfold cstN; (repeat' split) <;> omega⟩
        | q + 3, hq, _ => exact absurd hq (by omega)
  · have hp0 : p ≠ 0 := fun q => c7 (by rw [e36, ep]; exact (pin_m1 p hp4).mpr q)
    refine j_aload_n dX0_choiceCost_10 rfl ?_
    refine j_getR (r := 36) dX0_choiceCost_11 flX0_18 (Nat.le_of_ble_eq_true rfl) rfl rfl ?_
    refine j_iload_n dX0_choiceCost_14 rfl ?_
    refine j_ialdN dX0_choiceCost_15 (Nat.le_of_ble_eq_true rfl) rfl (by omega) (by decide) ?_
    refine j_iload_n dX0_choiceCost_16 rfl ?_
    refine j_icmp_eq (tgt := 23) dX0_choiceCost_17 (by decide) (fun c17 => ?_) (fun c17 => ?_)
    · have hpi : p = i + 1 := (pin_i p hp4 i (by omega)).mp (by rw [← ep, ← e36]; exact c17)
      refine j_aload_n dX0_choiceCost_23 rfl ?_
      refine j_getR (r := 38) dX0_choiceCost_24 flX0_24 (Nat.le_of_ble_eq_true rfl) rfl rfl ?_
      refine j_iload_n dX0_choiceCost_27 rfl ?_
      refine j_iload_n dX0_choiceCost_28 rfl ?_
      refine j_callSN (y' := mX5_choicePlace) (As := [.int (nI u), .int (nI i)]) (st := [.ref 38]) dX0_choiceCost_29 lnX0_49 okX5_choicePlace stX5_choicePlace rfl (Nat.le_of_ble_eq_true rfl) (Nat.le_of_ble_eq_true rfl) (c_choicePlace z _ u i F A) (fun v29 F29 A29 hq29 => ?_)
      obtain ⟨rfl, rfl, r29, rfl, hr29⟩ := hq29
      refine j_ialdN dX0_choiceCost_32 (Nat.le_of_ble_eq_true rfl) rfl (by omega) (by decide) ?_
      refine j_top (y0 := nI t) (by rw [hr29, Nat.mul_comm u 4, e38, et]) ?_
      refine j_istore_n (lv' := [(0, .ref 33), (1, .int (nI u)), (2, .int (nI i)), (3, .int (nI t))]) dX0_choiceCost_33 (Nat.le_of_ble_eq_true rfl) rfl rfl ?_
      refine j_iload_n dX0_choiceCost_34 rfl ?_
      refine j_bipush (v := nI 99) dX0_choiceCost_35 (by decide +kernel) ?_
      refine j_icmp_neN (tgt := 45) dX0_choiceCost_37 (by decide) (by omega) (by omega) (fun c37 => ?_) (fun c37 => ?_)
      · refine j_iload_n dX0_choiceCost_45 rfl ?_
        refine j_istore (lv' := [(0, .ref 33), (1, .int (nI u)), (2, .int (nI i)), (3, .int (nI t)), (4, .int (nI t))]) dX0_choiceCost_46 (Nat.le_of_ble_eq_true rfl) rfl rfl ?_
        refine j_aload_n dX0_choiceCost_48 rfl ?_
        refine j_getR (r := 35) dX0_choiceCost_49 flX0_15 (Nat.le_of_ble_eq_true rfl) rfl rfl ?_
        refine j_iload_n dX0_choiceCost_52 rfl ?_
        refine j_ialdN dX0_choiceCost_53 (Nat.le_of_ble_eq_true rfl) rfl (by omega) (by decide) ?_
        refine j_top (y0 := nI kd) (by rw [e35, ek]) ?_
        have hk3 := nI_toInt (n := kd) (by omega)
        by_cases c54 : (nI kd).toInt < 1 ∨ 3 < (nI kd).toInt
        · refine j_tOut (tgt := 115) dX0_choiceCost_54 c54 (by decide) ?_
          refine j_iload dX0_choiceCost_115 rfl ?_
          exact j_iret dX0_choiceCost_117 rfl rfl ⟨rfl, rfl, _, rfl, by rw [ecst]; unfold cstN; (repeat' split) <;> omega⟩
        · obtain ⟨q54, hq54, e54⟩ := mj_sw (n := 3) (nI kd) c54 (by decide)
          match q54, hq54, e54 with
          | 0, _, e54 =>
            refine j_tIn (tgt := 80) dX0_choiceCost_54 (by rw [e54]; decide) (by rw [e54]; decide) (by rw [e54]; rfl) (by decide) ?_
            refine j_iconst (v := nI 2) dX0_choiceCost_80 (by decide +kernel) ?_
            refine j_iload dX0_choiceCost_81 rfl ?_
            refine j_imulN dX0_choiceCost_83 ?_
            refine j_callSN (y' := mX5_capped) (As := [.int (nI (2 * t))]) (st := []) dX0_choiceCost_84 lnX0_53 okX5_capped stX5_capped rfl (Nat.le_of_ble_eq_true rfl) (Nat.le_of_ble_eq_true rfl) (c_capped z _ (nI (2 * t)) F A) (fun v84 F84 A84 hq84 => ?_)
            obtain ⟨rfl, rfl, r84, rfl, hr84⟩ := hq84
            rw [min_cap (by omega)] at hr84
            subst hr84
            exact j_iret dX0_choiceCost_87 rfl rfl ⟨rfl, rfl, _, rfl, by rw [ecst]; unfold cstN; (repeat' split) <;> omega⟩
          | 1, _, e54 =>
            refine j_tIn (tgt := 88) dX0_choiceCost_54 (by rw [e54]; decide) (by rw [e54]; decide) (by rw [e54]; rfl) (by decide) ?_
            refine j_iload dX0_choiceCost_88 rfl ?_
            refine j_iload_n dX0_choiceCost_90 rfl ?_
            refine j_iaddN dX0_choiceCost_91 ?_
            refine j_callSN (y' := mX5_capped) (As := [.int (nI (t + i))]) (st := []) dX0_choiceCost_92 lnX0_53 okX5_capped stX5_capped rfl (Nat.le_of_ble_eq_true rfl) (Nat.le_of_ble_eq_true rfl) (c_capped z _ (nI (t + i)) F A) (fun v92 F92 A92 hq92 => ?_)
            obtain ⟨rfl, rfl, r92, rfl, hr92⟩ := hq92
            rw [min_cap (by omega)] at hr92
            subst hr92
            exact j_iret dX0_choiceCost_95 rfl rfl ⟨rfl, rfl, _, rfl, by rw [ecst]; unfold cstN; (repeat' split) <;> omega⟩
          | 2, _, e54 =>
            refine j_tIn (tgt := 96) dX0_choiceCost_54 (by rw [e54]; decide) (by rw [e54]; decide) (by rw [e54]; rfl) (by decide) ?_
            refine j_iconst (v := nI 2) dX0_choiceCost_96 (by decide +kernel) ?_
            refine j_iload dX0_choiceCost_97 rfl ?_
            refine j_imulN dX0_choiceCost_99 ?_
            refine j_bipush (v := nI 20) dX0_choiceCost_100 (by decide +kernel) ?_
            refine j_icmp_leN (tgt := 110) dX0_choiceCost_102 (by decide) (by omega) (by omega) (fun c102 => ?_) (fun c102 => ?_)
            · refine j_iconst (v := nI 2) dX0_choiceCost_110 (by decide +kernel) ?_
              refine j_iload dX0_choiceCost_111 rfl ?_
              refine j_imulN dX0_choiceCost_113 ?_
              exact j_iret dX0_choiceCost_114 rfl rfl ⟨rfl, rfl, _, rfl, by rw [ecst]; unfold cstN; (repeat' split) <;> omega⟩
            · refine j_ldc dX0_choiceCost_105 kcX0_48 ?_
              refine j_top (y0 := nI 1000000) (by decide +kernel) ?_
              refine j_goto (tgt := 114) dX0_choiceCost_107 (by decide) ?_
              exact j_iret dX0_choiceCost_114 rfl rfl ⟨rfl, rfl, _, rfl, by rw [ecst]; unfold cstN; (repeat' split) <;> omega⟩
          | q + 3, hq, _ => exact absurd hq (by omega)
      · refine j_ldc dX0_choiceCost_40 kcX0_48 ?_
        refine j_top (y0 := nI 1000000) (by decide +kernel) ?_
        refine j_goto (tgt := 46) dX0_choiceCost_42 (by decide) ?_
        refine j_istore (lv' := [(0, .ref 33), (1, .int (nI u)), (2, .int (nI i)), (3, .int (nI t)), (4, .int (nI 1000000))]) dX0_choiceCost_46 (Nat.le_of_ble_eq_true rfl) rfl rfl ?_
        refine j_aload_n dX0_choiceCost_48 rfl ?_
        refine j_getR (r := 35) dX0_choiceCost_49 flX0_15 (Nat.le_of_ble_eq_true rfl) rfl rfl ?_
        refine j_iload_n dX0_choiceCost_52 rfl ?_
        refine j_ialdN dX0_choiceCost_53 (Nat.le_of_ble_eq_true rfl) rfl (by omega) (by decide) ?_
        refine j_top (y0 := nI kd) (by rw [e35, ek]) ?_
        have hk3 := nI_toInt (n := kd) (by omega)
        by_cases c54 : (nI kd).toInt < 1 ∨ 3 < (nI kd).toInt
        · refine j_tOut (tgt := 115) dX0_choiceCost_54 c54 (by decide) ?_
          refine j_iload dX0_choiceCost_115 rfl ?_
          exact j_iret dX0_choiceCost_117 rfl rfl ⟨rfl, rfl, _, rfl, by rw [ecst]; unfold cstN; (repeat' split) <;> omega⟩
        · obtain ⟨q54, hq54, e54⟩ := mj_sw (n := 3) (nI kd) c54 (by decide)
          match q54, hq54, e54 with
          | 0, _, e54 =>
            refine j_tIn (tgt := 80) dX0_choiceCost_54 (by rw [e54]; decide) (by rw [e54]; decide) (by rw [e54]; rfl) (by decide) ?_
            refine j_iconst (v := nI 2) dX0_choiceCost_80 (by decide +kernel) ?_
            refine j_iload dX0_choiceCost_81 rfl ?_
            refine j_imulN dX0_choiceCost_83 ?_
            refine j_callSN (y' := mX5_capped) (As := [.int (nI (2 * 1000000))]) (st := []) dX0_choiceCost_84 lnX0_53 okX5_capped stX5_capped rfl (Nat.le_of_ble_eq_true rfl) (Nat.le_of_ble_eq_true rfl) (c_capped z _ (nI (2 * 1000000)) F A) (fun v84 F84 A84 hq84 => ?_)
            obtain ⟨rfl, rfl, r84, rfl, hr84⟩ := hq84
            rw [min_cap (by omega)] at hr84
            subst hr84
            exact j_iret dX0_choiceCost_87 rfl rfl ⟨rfl, rfl, _, rfl, by rw [ecst]; unfold cstN; (repeat' split) <;> omega⟩
          | 1, _, e54 =>
            refine j_tIn (tgt := 88) dX0_choiceCost_54 (by rw [e54]; decide) (by rw [e54]; decide) (by rw [e54]; rfl) (by decide) ?_
            refine j_iload dX0_choiceCost_88 rfl ?_
            refine j_iload_n dX0_choiceCost_90 rfl ?_
            refine j_iaddN dX0_choiceCost_91 ?_
            refine j_callSN (y' := mX5_capped) (As := [.int (nI (1000000 + i))]) (st := []) dX0_choiceCost_92 lnX0_53 okX5_capped stX5_capped rfl (Nat.le_of_ble_eq_true rfl) (Nat.le_of_ble_eq_true rfl) (c_capped z _ (nI (1000000 + i)) F A) (fun v92 F92 A92 hq92 => ?_)
            obtain ⟨rfl, rfl, r92, rfl, hr92⟩ := hq92
            rw [min_cap (by omega)] at hr92
            subst hr92
            exact j_iret dX0_choiceCost_95 rfl rfl ⟨rfl, rfl, _, rfl, by rw [ecst]; unfold cstN; (repeat' split) <;> omega⟩
          | 2, _, e54 =>
            refine j_tIn (tgt := 96) dX0_choiceCost_54 (by rw [e54]; decide) (by rw [e54]; decide) (by rw [e54]; rfl) (by decide) ?_
            refine j_iconst (v := nI 2) dX0_choiceCost_96 (by decide +kernel) ?_
            refine j_iload dX0_choiceCost_97 rfl ?_
            refine j_imulN dX0_choiceCost_99 ?_
            refine j_bipush (v := nI 20) dX0_choiceCost_100 (by decide +kernel) ?_
            refine j_icmp_leN (tgt := 110) dX0_choiceCost_102 (by decide) (by omega) (by omega) (fun c102 => ?_) (fun c102 => ?_)
            · refine j_iconst (v := nI 2) dX0_choiceCost_110 (by decide +kernel) ?_
              refine j_iload dX0_choiceCost_111 rfl ?_
              refine j_imulN dX0_choiceCost_113 ?_
              exact j_iret dX0_choiceCost_114 rfl rfl ⟨rfl, rfl, _, rfl, by rw [ecst]; unfold cstN; (repeat' split) <;> omega⟩
            · refine j_ldc dX0_choiceCost_105 kcX0_48 ?_
              refine j_top (y0 := nI 1000000) (by decide +kernel) ?_
              refine j_goto (tgt := 114) dX0_choiceCost_107 (by decide) ?_
              exact j_iret dX0_choiceCost_114 rfl rfl ⟨rfl, rfl, _, rfl, by rw [ecst]; unfold cstN; (repeat' split) <;> omega⟩
          | q + 3, hq, _ => exact absurd hq (by omega)
    · have hpi : p ≠ i + 1 := fun q => c17 (by rw [e36, ep]; exact (pin_i p hp4 i (by omega)).mpr q)
      refine j_ldc dX0_choiceCost_20 kcX0_48 ?_
      refine j_top (y0 := nI 1000000) (by decide +kernel) ?_
      exact j_iret dX0_choiceCost_22 rfl rfl ⟨rfl, rfl, _, rfl, by rw [ecst]; unfold cstN; (repeat' split) <;> omega⟩

set_option maxHeartbeats 400000 in
set_option maxRecDepth 100000 in
theorem c_tieCost (z : mj_B) (d : Nat) (u v i j : Nat) (hu : u < 8) (hv : v < 8) (huv : u ≠ v) (hi : i < 4) (hj : j < 4) (F A : mj_S) : J (gC z) mX0_tieCost (d + 1) 0 [(0, .ref 33), (1, .int (nI u)), (2, .int (nI v)), (3, .int (nI i)), (4, .int (nI j))] [] F A (qP F A fun _ => True) := by
  refine j_aload_n dX0_tieCost_0 rfl ?_
  refine j_getR (r := 39) dX0_tieCost_1 flX0_27 (Nat.le_of_ble_eq_true rfl) rfl rfl ?_
  refine j_iload_n dX0_tieCost_4 rfl ?_
  refine j_iload_n dX0_tieCost_5 rfl ?_
  refine j_iload_n dX0_tieCost_6 rfl ?_
  refine j_iload dX0_tieCost_7 rfl ?_
  refine j_callSN (y' := mX5_entryPlace) (As := [.int (nI u), .int (nI v), .int (nI i), .int (nI j)]) (st := [.ref 39]) dX0_tieCost_9 lnX0_56 okX5_entryPlace stX5_entryPlace rfl (Nat.le_of_ble_eq_true rfl) (Nat.le_of_ble_eq_true rfl) (c_entryPlace z _ u v i j (by omega) (by omega) (by omega) F A) (fun v9 F9 A9 hq9 => ?_)
  obtain ⟨rfl, rfl, e9, rfl, he9⟩ := hq9
  have hl9 : e9 < 448 := by rw [he9]; exact eP_lt (by omega) (by omega) (by omega) (by omega) (by omega)
  refine j_ialdN dX0_tieCost_12 (Nat.le_of_ble_eq_true rfl) rfl (by omega) (by decide) ?_
  refine j_istore (lv' := [(0, .ref 33), (1, .int (nI u)), (2, .int (nI v)), (3, .int (nI i)), (4, .int (nI j)), (5, .int (A 39 e9))]) dX0_tieCost_13 (Nat.le_of_ble_eq_true rfl) rfl rfl ?_
  refine j_iload dX0_tieCost_15 rfl ?_
  refine j_bipush (v := nI 9) dX0_tieCost_17 (by decide +kernel) ?_
  refine j_icmp_ne (tgt := 27) dX0_tieCost_19 (by decide) (fun c19 => ?_) (fun c19 => ?_)
  · refine j_iload dX0_tieCost_27 rfl ?_
    exact j_iret dX0_tieCost_29 rfl rfl ⟨rfl, rfl, _, rfl, trivial⟩
  · refine j_ldc dX0_tieCost_22 kcX0_48 ?_
    refine j_goto (tgt := 29) dX0_tieCost_24 (by decide) ?_
    exact j_iret dX0_tieCost_29 rfl rfl ⟨rfl, rfl, _, rfl, trivial⟩

set_option maxHeartbeats 400000 in
set_option maxRecDepth 100000 in
theorem c_tieCostX (z : mj_B) (d : Nat) (n : Nat) (mm : Nat → Nat) (row : Nat → Int32) (u v i j : Nat) (hu : u < n) (hv : v < n) (huv : u ≠ v) (hi : i < mm u) (hj : j < mm v) (ht : 0 < row (eA u v 0 0)) (F A : mj_S) (hG : GR F A 33 n mm row) (hw : wr n mm row) : J (gC z) mX0_tieCost (d + 1) 0 [(0, .ref 33), (1, .int (nI u)), (2, .int (nI v)), (3, .int (nI i)), (4, .int (nI j))] [] F A (qN F A fun r => r = tcs row u v i j) := by
  have hn := hG.1.1.2
  have hm4 := (hw.1.2 u hu).2
  have hm5 := (hw.1.2 v hv).2
  obtain ⟨f, hf, ef, er⟩ := hG.fig hw hu hv huv hi hj ht
  refine j_aload_n dX0_tieCost_0 rfl ?_
  refine j_getR (r := 39) dX0_tieCost_1 flX0_27 (Nat.le_of_ble_eq_true rfl) rfl rfl ?_
  refine j_iload_n dX0_tieCost_4 rfl ?_
  refine j_iload_n dX0_tieCost_5 rfl ?_
  refine j_iload_n dX0_tieCost_6 rfl ?_
  refine j_iload dX0_tieCost_7 rfl ?_
  refine j_callSN (y' := mX5_entryPlace) (As := [.int (nI u), .int (nI v), .int (nI i), .int (nI j)]) (st := [.ref 39]) dX0_tieCost_9 lnX0_56 okX5_entryPlace stX5_entryPlace rfl (Nat.le_of_ble_eq_true rfl) (Nat.le_of_ble_eq_true rfl) (c_entryPlace z _ u v i j (by omega) (by omega) (by omega) F A) (fun v9 F9 A9 hq9 => ?_)
  obtain ⟨rfl, rfl, e9, rfl, he9⟩ := hq9
  have hl9 : e9 < 448 := by rw [he9]; exact eP_lt (by omega) (by omega) (by omega) (by omega) (by omega)
  refine j_ialdN dX0_tieCost_12 (Nat.le_of_ble_eq_true rfl) rfl (by omega) (by decide) ?_
  refine j_top (y0 := nI f) (by rw [he9, ef]) ?_
  refine j_istore (lv' := [(0, .ref 33), (1, .int (nI u)), (2, .int (nI v)), (3, .int (nI i)), (4, .int (nI j)), (5, .int (nI f))]) dX0_tieCost_13 (Nat.le_of_ble_eq_true rfl) rfl rfl ?_
  refine j_iload dX0_tieCost_15 rfl ?_
  refine j_bipush (v := nI 9) dX0_tieCost_17 (by decide +kernel) ?_
  refine j_icmp_neN (tgt := 27) dX0_tieCost_19 (by decide) (by omega) (by omega) (fun c19 => ?_) (fun c19 => ?_)
  · refine j_iload dX0_tieCost_27 rfl ?_
    exact j_iret dX0_tieCost_29 rfl rfl ⟨rfl, rfl, _, rfl, by unfold tcs tcN; rw [er, nI_clamp (by omega)]; split <;> omega⟩
  · refine j_ldc dX0_tieCost_22 kcX0_48 ?_
    refine j_top (y0 := nI 1000000) (by decide +kernel) ?_
    refine j_goto (tgt := 29) dX0_tieCost_24 (by decide) ?_
    exact j_iret dX0_tieCost_29 rfl rfl ⟨rfl, rfl, _, rfl, by unfold tcs tcN; rw [er, nI_clamp (by omega)]; split <;> omega⟩

set_option maxHeartbeats 400000 in
set_option maxRecDepth 100000 in
theorem c_addNode (z : mj_B) (d : Nat) (T : Tg) (n q : Nat) (hn : n < 8) (hq4 : q ≤ 4) (kd : Int32) (F A : mj_S) (hC : CI T F A) (en : F 40 0 = nI n) : J (gC z) mX0_addNode d 0 [(0, .ref 40), (1, .int kd), (2, .int (nI q))] [] F A (fun v F' A' => v = none ∧ CI T F' A' ∧ F' = mj_u F 40 0 (nI (n + 1)) ∧ A' = mj_u (mj_u (mj_u (mj_u A 42 n kd) 41 n (nI q)) 43 n (-1)) 44 n (nI 0)) := by
  refine j_aload_n dX0_addNode_0 rfl ?_
  refine j_getR (r := 42) dX0_addNode_1 flX0_15 (Nat.le_of_ble_eq_true rfl) rfl rfl ?_
  refine j_aload_n dX0_addNode_4 rfl ?_
  refine j_getI dX0_addNode_5 flX0_30 (Nat.le_of_ble_eq_true rfl) rfl rfl ?_
  refine j_top (y0 := nI n) en ?_
  refine j_iload_n dX0_addNode_8 rfl ?_
  refine j_iastN dX0_addNode_9 (Nat.le_of_ble_eq_true rfl) rfl (by omega) (by decide) ?_
  have hC := hC.u (k := 42) rfl n kd
  refine j_aload_n dX0_addNode_10 rfl ?_
  refine j_getR (r := 41) dX0_addNode_11 flX0_9 (Nat.le_of_ble_eq_true rfl) rfl rfl ?_
  refine j_aload_n dX0_addNode_14 rfl ?_
  refine j_getI dX0_addNode_15 flX0_30 (Nat.le_of_ble_eq_true rfl) rfl rfl ?_
  refine j_top (y0 := nI n) en ?_
  refine j_iload_n dX0_addNode_18 rfl ?_
  refine j_iastN dX0_addNode_19 (Nat.le_of_ble_eq_true rfl) rfl (by omega) (by decide) ?_
  have hC := hC.chu n40 n (t := q) hq4
  refine j_aload_n dX0_addNode_20 rfl ?_
  refine j_getR (r := 43) dX0_addNode_21 flX0_18 (Nat.le_of_ble_eq_true rfl) rfl rfl ?_
  refine j_aload_n dX0_addNode_24 rfl ?_
  refine j_getI dX0_addNode_25 flX0_30 (Nat.le_of_ble_eq_true rfl) rfl rfl ?_
  refine j_top (y0 := nI n) en ?_
  refine j_iconst (v := (-1)) dX0_addNode_28 (by decide +kernel) ?_
  refine j_iastN dX0_addNode_29 (Nat.le_of_ble_eq_true rfl) rfl (by omega) (by decide) ?_
  have hC := hC.u (k := 43) rfl n (-1)
  refine j_aload_n dX0_addNode_30 rfl ?_
  refine j_getR (r := 44) dX0_addNode_31 flX0_21 (Nat.le_of_ble_eq_true rfl) rfl rfl ?_
  refine j_aload_n dX0_addNode_34 rfl ?_
  refine j_getI dX0_addNode_35 flX0_30 (Nat.le_of_ble_eq_true rfl) rfl rfl ?_
  refine j_top (y0 := nI n) en ?_
  refine j_iconst (v := nI 0) dX0_addNode_38 (by decide +kernel) ?_
  refine j_iastN dX0_addNode_39 (Nat.le_of_ble_eq_true rfl) rfl (by omega) (by decide) ?_
  have hC := hC.u (k := 44) rfl n (nI 0)
  refine j_aload_n dX0_addNode_40 rfl ?_
  refine j_dup dX0_addNode_41 rfl ?_
  refine j_getI dX0_addNode_42 flX0_30 (Nat.le_of_ble_eq_true rfl) rfl rfl ?_
  refine j_top (y0 := nI n) en ?_
  refine j_iconst (v := nI 1) dX0_addNode_45 (by decide +kernel) ?_
  refine j_iaddN dX0_addNode_46 ?_
  refine j_putI dX0_addNode_47 fpX0_30 (Nat.le_of_ble_eq_true rfl) rfl rfl ?_
  have hC := hC.nd n40 (n := n + 1) (by omega)
  exact j_vret dX0_addNode_50 rfl ⟨rfl, hC, rfl, rfl⟩

theorem g_ne0 {o : Nat} (h : isG o) : 0 ≠ o := by obtain ⟨g, hg, rfl⟩ := h; omega
theorem g_31 {o : Nat} (h : isG o) : o < 2147483648 := by obtain ⟨g, hg, rfl⟩ := h; omega
def cp1 (A : mj_S) (o o2 i n : Nat) : mj_S := mj_a A (o + i) (va_cpy (A (o2 + i)) (A (o + i)) 0 0 n)
/-- graph o is as graph o2 -/
def cpA (A : mj_S) (o o2 : Nat) : mj_S := cp1 (cp1 (cp1 (cp1 (cp1 (cp1 A o o2 1 8) o o2 2 8) o o2 3 8) o o2 4 8) o o2 5 32) o o2 6 448
theorem cp1_ne (A : mj_S) {o o2 i n k : Nat} (h : k ≠ o + i) : cp1 A o o2 i n k = A k := mj_a_ne A _ h
theorem cp1_at (A : mj_S) {o o2 i n j : Nat} (h : j < n) : cp1 A o o2 i n (o + i) j = A (o2 + i) j := by
  unfold cp1
  rw [mj_a_at, pk_cpy_in (Nat.zero_le _) (by omega)]
  simp
theorem cpA_ne (A : mj_S) {o o2 k : Nat} (h : ∀ i, 1 ≤ i → i ≤ 6 → k ≠ o + i) : cpA A o o2 k = A k := by
  unfold cpA
  rw [cp1_ne _ (h 6 (by omega) (by omega)), cp1_ne _ (h 5 (by omega) (by omega)), cp1_ne _ (h 4 (by omega) (by omega)), cp1_ne _ (h 3 (by omega) (by omega)), cp1_ne _ (h 2 (by omega) (by omega)), cp1_ne _ (h 1 (by omega) (by omega))]
theorem isG_ne {o o2 : Nat} (h : isG o) (h2 : isG o2) (hne : o ≠ o2) {i j : Nat} (hi : i ≤ 6) (hj : j ≤ 6) : o2 + i ≠ o + j := by
  obtain ⟨g, hg, rfl⟩ := h
  obtain ⟨g2, hg2, rfl⟩ := h2
  omega
theorem cpA_1 (A : mj_S) {o o2 : Nat} (h : isG o) (h2 : isG o2) (hne : o ≠ o2) : (∀ j, j < 8 → cpA A o o2 (o + 1) j = A (o2 + 1) j) ∧ (∀ j, j < 8 → cpA A o o2 (o + 2) j = A (o2 + 2) j) ∧ (∀ j, j < 8 → cpA A o o2 (o + 3) j = A (o2 + 3) j) ∧ (∀ j, j < 8 → cpA A o o2 (o + 4) j = A (o2 + 4) j) ∧ (∀ j, j < 32 → cpA A o o2 (o + 5) j = A (o2 + 5) j) ∧ ∀ j, j < 448 → cpA A o o2 (o + 6) j = A (o2 + 6) j := by
  have e : ∀ i k, i ≤ 6 → k ≤ 6 → o2 + i ≠ o + k := fun i k hi hk => isG_ne h h2 hne hi hk
  unfold cpA
  refine ⟨fun j hj => ?_, fun j hj => ?_, fun j hj => ?_, fun j hj => ?_, fun j hj => ?_, fun j hj => ?_⟩
  · rw [cp1_ne _ (show o + 1 ≠ o + 6 by omega), cp1_ne _ (show o + 1 ≠ o + 5 by omega), cp1_ne _ (show o + 1 ≠ o + 4 by omega), cp1_ne _ (show o + 1 ≠ o + 3 by omega), cp1_ne _ (show o + 1 ≠ o + 2 by omega), cp1_at _ hj]
  · rw [cp1_ne _ (show o + 2 ≠ o + 6 by omega), cp1_ne _ (show o + 2 ≠ o + 5 by omega), cp1_ne _ (show o + 2 ≠ o + 4 by omega), cp1_ne _ (show o + 2 ≠ o + 3 by omega), cp1_at _ hj, cp1_ne _ (e 2 1 (by omega) (by omega))]
  · rw [cp1_ne _ (show o + 3 ≠ o + 6 by omega), cp1_ne _ (show o + 3 ≠ o + 5 by omega), cp1_ne _ (show o + 3 ≠ o + 4 by omega), cp1_at _ hj, cp1_ne _ (e 3 2 (by omega) (by omega)), cp1_ne _ (e 3 1 (by omega) (by omega))]
  · rw [cp1_ne _ (show o + 4 ≠ o + 6 by omega), cp1_ne _ (show o + 4 ≠ o + 5 by omega), cp1_at _ hj, cp1_ne _ (e 4 3 (by omega) (by omega)), cp1_ne _ (e 4 2 (by omega) (by omega)), cp1_ne _ (e 4 1 (by omega) (by omega))]
  · rw [cp1_ne _ (show o + 5 ≠ o + 6 by omega), cp1_at _ hj, cp1_ne _ (e 5 4 (by omega) (by omega)), cp1_ne _ (e 5 3 (by omega) (by omega)), cp1_ne _ (e 5 2 (by omega) (by omega)), cp1_ne _ (e 5 1 (by omega) (by omega))]
  · rw [cp1_at _ hj, cp1_ne _ (e 6 5 (by omega) (by omega)), cp1_ne _ (e 6 4 (by omega) (by omega)), cp1_ne _ (e 6 3 (by omega) (by omega)), cp1_ne _ (e 6 2 (by omega) (by omega)), cp1_ne _ (e 6 1 (by omega) (by omega))]
theorem GR.copy {F A : mj_S} {o o2 n : Nat} {mm : Nat → Nat} {row : Nat → Int32} (h : GR F A o2 n mm row) (ho : isG o) (ho2 : isG o2) (hne : o ≠ o2) : GR (mj_u F o 0 (F o2 0)) (cpA A o o2) o n mm row := by
  have h8 := h.1.1.2
  obtain ⟨c1, c2, c3, c4, c5, c6⟩ := cpA_1 A ho ho2 hne
  refine ⟨⟨⟨(mj_u_on F o 0 _).trans h.1.1.1, h8⟩, fun u hu => ?_⟩, fun u hu => ?_, fun u v i j h1 h2 h3 h4 h5 => ?_⟩
  · obtain ⟨g0, g1, g2, g3, g4⟩ := h.1.2 u hu
    refine ⟨g0, by rw [c1 u (by omega)]; exact g1, by rw [c2 u (by omega)]; exact g2, by rw [c3 u (by omega)]; exact g3, fun i hi => by rw [c5 _ (by omega)]; exact g4 i hi⟩
  · rw [c4 u (by omega)]; exact h.2.1 u hu
  · have b1 := (h.1.2 u (by omega)).1
    have b2 := (h.1.2 v h2).1
    rw [c6 _ (eP_lt (by omega) (by omega) (by omega) (by omega) (by omega))]
    exact h.2.2 u v i j h1 h2 h3 h4 h5

theorem rg_cpy {f g : Nat → Int32} {n B : Nat} (h : rg f n B) : rg (va_cpy f g 0 0 n) n B := by
  intro j hj
  rw [pk_cpy_in (Nat.zero_le j) (by omega)]
  have e : 0 + (j - 0) = j := by omega
  rw [e]
  exact h j hj
theorem key_g {o : Nat} (h : isG o) (i : Nat) (hi : 2 ≤ i) (hi6 : i ≤ 6) : keyB (o + i) = false := by
  obtain ⟨g, hg, rfl⟩ := h
  simp only [keyB, Bool.or_eq_false_iff, beq_eq_false_iff_ne, Bool.and_eq_false_iff, decide_eq_false_iff_not]
  omega

set_option maxHeartbeats 400000 in
set_option maxRecDepth 100000 in
theorem c_copyFrom (z : mj_B) (d : Nat) (T o o2 : Nat) (hG : isG o) (hG2 : isG o2) (F A : mj_S) (hC : CB T F A) : J (gC z) mX0_copyFrom (d + 2) 0 [(0, .ref o), (1, .ref o2)] [] F A (fun v F' A' => v = none ∧ CB T F' A' ∧ F' = mj_u F o 0 (F o2 0) ∧ A' = cpA A o o2) := by
  refine j_aload_n dX0_copyFrom_0 rfl ?_
  refine j_aload_n dX0_copyFrom_1 rfl ?_
  obtain ⟨n2, hn2, en2⟩ := (hC.2.2.2.1 o2 (Or.inl hG2)).1
  refine j_getI dX0_copyFrom_2 flX0_30 (gs_lt hG2 0 (by omega)) (gs_o hG2) rfl ?_
  refine j_top (y0 := nI n2) en2 ?_
  refine j_putI dX0_copyFrom_5 fpX0_30 (gs_lt hG 0 (by omega)) (gs_o hG) rfl ?_
  have hC := hC.nd (Or.inl hG) hn2
  refine j_aload_n dX0_copyFrom_8 rfl ?_
  refine j_getR (r := (o2 + 1)) dX0_copyFrom_9 flX0_9 (gs_lt hG2 0 (by omega)) (gs_o hG2) rfl ?_
  refine j_aload_n dX0_copyFrom_12 rfl ?_
  refine j_getR (r := (o + 1)) dX0_copyFrom_13 flX0_9 (gs_lt hG 0 (by omega)) (gs_o hG) rfl ?_
  refine j_callSN (y' := mX5_copyRow) (As := [.ref (o2 + 1), .ref (o + 1)]) (st := []) dX0_copyFrom_16 lnX0_34 okX5_copyRow stX5_copyRow rfl (Nat.le_of_ble_eq_true rfl) (Nat.le_of_ble_eq_true rfl) (c_copyRow z _ (o2 + 1) (o + 1) 8 (by decide) (gs_lt hG2 1 (by omega)) (gs_1 hG2) (gs_lt hG 1 (by omega)) (gs_1 hG) (mj_u F o 0 (nI n2)) A) (fun v16 F16 A16 hq16 => ?_)
  obtain ⟨rfl, rfl, rfl⟩ := hq16
  have hC := hC.ch (Or.inl hG) (f := va_cpy (A (o2 + 1)) (A (o + 1)) 0 0 8) (rg_cpy (hC.2.2.2.1 o2 (Or.inl hG2)).2)
  refine j_aload_n dX0_copyFrom_19 rfl ?_
  refine j_getR (r := (o2 + 2)) dX0_copyFrom_20 flX0_15 (gs_lt hG2 0 (by omega)) (gs_o hG2) rfl ?_
  refine j_aload_n dX0_copyFrom_23 rfl ?_
  refine j_getR (r := (o + 2)) dX0_copyFrom_24 flX0_15 (gs_lt hG 0 (by omega)) (gs_o hG) rfl ?_
  refine j_callSN (y' := mX5_copyRow) (As := [.ref (o2 + 2), .ref (o + 2)]) (st := []) dX0_copyFrom_27 lnX0_34 okX5_copyRow stX5_copyRow rfl (Nat.le_of_ble_eq_true rfl) (Nat.le_of_ble_eq_true rfl) (c_copyRow z _ (o2 + 2) (o + 2) 8 (by decide) (gs_lt hG2 2 (by omega)) (gs_2 hG2) (gs_lt hG 2 (by omega)) (gs_2 hG) (mj_u F o 0 (nI n2)) (mj_a A (o + 1) (va_cpy (A (o2 + 1)) (A (o + 1)) 0 0 8))) (fun v27 F27 A27 hq27 => ?_)
  obtain ⟨rfl, rfl, rfl⟩ := hq27
  have hC := hC.a (key_g hG 2 (by decide) (by decide)) (va_cpy ((mj_a A (o + 1) (va_cpy (A (o2 + 1)) (A (o + 1)) 0 0 8)) (o2 + 2)) ((mj_a A (o + 1) (va_cpy (A (o2 + 1)) (A (o + 1)) 0 0 8)) (o + 2)) 0 0 8)
  refine j_aload_n dX0_copyFrom_30 rfl ?_
  refine j_getR (r := (o2 + 3)) dX0_copyFrom_31 flX0_18 (gs_lt hG2 0 (by omega)) (gs_o hG2) rfl ?_
  refine j_aload_n dX0_copyFrom_34 rfl ?_
  refine j_getR (r := (o + 3)) dX0_copyFrom_35 flX0_18 (gs_lt hG 0 (by omega)) (gs_o hG) rfl ?_
  refine j_callSN (y' := mX5_copyRow) (As := [.ref (o2 + 3), .ref (o + 3)]) (st := []) dX0_copyFrom_38 lnX0_34 okX5_copyRow stX5_copyRow rfl (Nat.le_of_ble_eq_true rfl) (Nat.le_of_ble_eq_true rfl) (c_copyRow z _ (o2 + 3) (o + 3) 8 (by decide) (gs_lt hG2 3 (by omega)) (gs_3 hG2) (gs_lt hG 3 (by omega)) (gs_3 hG) (mj_u F o 0 (nI n2)) (mj_a (mj_a A (o + 1) (va_cpy (A (o2 + 1)) (A (o + 1)) 0 0 8)) (o + 2) (va_cpy ((mj_a A (o + 1) (va_cpy (A (o2 + 1)) (A (o + 1)) 0 0 8)) (o2 + 2)) ((mj_a A (o + 1) (va_cpy (A (o2 + 1)) (A (o + 1)) 0 0 8)) (o + 2)) 0 0 8))) (fun v38 F38 A38 hq38 => ?_)
  obtain ⟨rfl, rfl, rfl⟩ := hq38
  have hC := hC.a (key_g hG 3 (by decide) (by decide)) (va_cpy ((mj_a (mj_a A (o + 1) (va_cpy (A (o2 + 1)) (A (o + 1)) 0 0 8)) (o + 2) (va_cpy ((mj_a A (o + 1) (va_cpy (A (o2 + 1)) (A (o + 1)) 0 0 8)) (o2 + 2)) ((mj_a A (o + 1) (va_cpy (A (o2 + 1)) (A (o + 1)) 0 0 8)) (o + 2)) 0 0 8)) (o2 + 3)) ((mj_a (mj_a A (o + 1) (va_cpy (A (o2 + 1)) (A (o + 1)) 0 0 8)) (o + 2) (va_cpy ((mj_a A (o + 1) (va_cpy (A (o2 + 1)) (A (o + 1)) 0 0 8)) (o2 + 2)) ((mj_a A (o + 1) (va_cpy (A (o2 + 1)) (A (o + 1)) 0 0 8)) (o + 2)) 0 0 8)) (o + 3)) 0 0 8)
  refine j_aload_n dX0_copyFrom_41 rfl ?_
  refine j_getR (r := (o2 + 4)) dX0_copyFrom_42 flX0_21 (gs_lt hG2 0 (by omega)) (gs_o hG2) rfl ?_
  refine j_aload_n dX0_copyFrom_45 rfl ?_
  refine j_getR (r := (o + 4)) dX0_copyFrom_46 flX0_21 (gs_lt hG 0 (by omega)) (gs_o hG) rfl ?_
  refine j_callSN (y' := mX5_copyRow) (As := [.ref (o2 + 4), .ref (o + 4)]) (st := []) dX0_copyFrom_49 lnX0_34 okX5_copyRow stX5_copyRow rfl (Nat.le_of_ble_eq_true rfl) (Nat.le_of_ble_eq_true rfl) (c_copyRow z _ (o2 + 4) (o + 4) 8 (by decide) (gs_lt hG2 4 (by omega)) (gs_4 hG2) (gs_lt hG 4 (by omega)) (gs_4 hG) (mj_u F o 0 (nI n2)) (mj_a (mj_a (mj_a A (o + 1) (va_cpy (A (o2 + 1)) (A (o + 1)) 0 0 8)) (o + 2) (va_cpy ((mj_a A (o + 1) (va_cpy (A (o2 + 1)) (A (o + 1)) 0 0 8)) (o2 + 2)) ((mj_a A (o + 1) (va_cpy (A (o2 + 1)) (A (o + 1)) 0 0 8)) (o + 2)) 0 0 8)) (o + 3) (va_cpy ((mj_a (mj_a A (o + 1) (va_cpy (A (o2 + 1)) (A (o + 1)) 0 0 8)) (o + 2) (va_cpy ((mj_a A (o + 1) (va_cpy (A (o2 + 1)) (A (o + 1)) 0 0 8)) (o2 + 2)) ((mj_a A (o + 1) (va_cpy (A (o2 + 1)) (A (o + 1)) 0 0 8)) (o + 2)) 0 0 8)) (o2 + 3)) ((mj_a (mj_a A (o + 1) (va_cpy (A (o2 + 1)) (A (o + 1)) 0 0 8)) (o + 2) (va_cpy ((mj_a A (o + 1) (va_cpy (A (o2 + 1)) (A (o + 1)) 0 0 8)) (o2 + 2)) ((mj_a A (o + 1) (va_cpy (A (o2 + 1)) (A (o + 1)) 0 0 8)) (o + 2)) 0 0 8)) (o + 3)) 0 0 8))) (fun v49 F49 A49 hq49 => ?_)
  obtain ⟨rfl, rfl, rfl⟩ := hq49
  have hC := hC.a (key_g hG 4 (by decide) (by decide)) (va_cpy ((mj_a (mj_a (mj_a A (o + 1) (va_cpy (A (o2 + 1)) (A (o + 1)) 0 0 8)) (o + 2) (va_cpy ((mj_a A (o + 1) (va_cpy (A (o2 + 1)) (A (o + 1)) 0 0 8)) (o2 + 2)) ((mj_a A (o + 1) (va_cpy (A (o2 + 1)) (A (o + 1)) 0 0 8)) (o + 2)) 0 0 8)) (o + 3) (va_cpy ((mj_a (mj_a A (o + 1) (va_cpy (A (o2 + 1)) (A (o + 1)) 0 0 8)) (o + 2) (va_cpy ((mj_a A (o + 1) (va_cpy (A (o2 + 1)) (A (o + 1)) 0 0 8)) (o2 + 2)) ((mj_a A (o + 1) (va_cpy (A (o2 + 1)) (A (o + 1)) 0 0 8)) (o + 2)) 0 0 8)) (o2 + 3)) ((mj_a (mj_a A (o + 1) (va_cpy (A (o2 + 1)) (A (o + 1)) 0 0 8)) (o + 2) (va_cpy ((mj_a A (o + 1) (va_cpy (A (o2 + 1)) (A (o + 1)) 0 0 8)) (o2 + 2)) ((mj_a A (o + 1) (va_cpy (A (o2 + 1)) (A (o + 1)) 0 0 8)) (o + 2)) 0 0 8)) (o + 3)) 0 0 8)) (o2 + 4)) ((mj_a (mj_a (mj_a A (o + 1) (va_cpy (A (o2 + 1)) (A (o + 1)) 0 0 8)) (o + 2) (va_cpy ((mj_a A (o + 1) (va_cpy (A (o2 + 1)) (A (o + 1)) 0 0 8)) (o2 + 2)) ((mj_a A (o + 1) (va_cpy (A (o2 + 1)) (A (o + 1)) 0 0 8)) (o + 2)) 0 0 8)) (o + 3) (va_cpy ((mj_a (mj_a A (o + 1) (va_cpy (A (o2 + 1)) (A (o + 1)) 0 0 8)) (o + 2) (va_cpy ((mj_a A (o + 1) (va_cpy (A (o2 + 1)) (A (o + 1)) 0 0 8)) (o2 + 2)) ((mj_a A (o + 1) (va_cpy (A (o2 + 1)) (A (o + 1)) 0 0 8)) (o + 2)) 0 0 8)) (o2 + 3)) ((mj_a (mj_a A (o + 1) (va_cpy (A (o2 + 1)) (A (o + 1)) 0 0 8)) (o + 2) (va_cpy ((mj_a A (o + 1) (va_cpy (A (o2 + 1)) (A (o + 1)) 0 0 8)) (o2 + 2)) ((mj_a A (o + 1) (va_cpy (A (o2 + 1)) (A (o + 1)) 0 0 8)) (o + 2)) 0 0 8)) (o + 3)) 0 0 8)) (o + 4)) 0 0 8)
  refine j_aload_n dX0_copyFrom_52 rfl ?_
  refine j_getR (r := (o2 + 5)) dX0_copyFrom_53 flX0_24 (gs_lt hG2 0 (by omega)) (gs_o hG2) rfl ?_
  refine j_aload_n dX0_copyFrom_56 rfl ?_
  refine j_getR (r := (o + 5)) dX0_copyFrom_57 flX0_24 (gs_lt hG 0 (by omega)) (gs_o hG) rfl ?_
  refine j_callSN (y' := mX5_copyRow) (As := [.ref (o2 + 5), .ref (o + 5)]) (st := []) dX0_copyFrom_60 lnX0_34 okX5_copyRow stX5_copyRow rfl (Nat.le_of_ble_eq_true rfl) (Nat.le_of_ble_eq_true rfl) (c_copyRow z _ (o2 + 5) (o + 5) 32 (by decide) (gs_lt hG2 5 (by omega)) (gs_5 hG2) (gs_lt hG 5 (by omega)) (gs_5 hG) (mj_u F o 0 (nI n2)) (mj_a (mj_a (mj_a (mj_a A (o + 1) (va_cpy (A (o2 + 1)) (A (o + 1)) 0 0 8)) (o + 2) (va_cpy ((mj_a A (o + 1) (va_cpy (A (o2 + 1)) (A (o + 1)) 0 0 8)) (o2 + 2)) ((mj_a A (o + 1) (va_cpy (A (o2 + 1)) (A (o + 1)) 0 0 8)) (o + 2)) 0 0 8)) (o + 3) (va_cpy ((mj_a (mj_a A (o + 1) (va_cpy (A (o2 + 1)) (A (o + 1)) 0 0 8)) (o + 2) (va_cpy ((mj_a A (o + 1) (va_cpy (A (o2 + 1)) (A (o + 1)) 0 0 8)) (o2 + 2)) ((mj_a A (o + 1) (va_cpy (A (o2 + 1)) (A (o + 1)) 0 0 8)) (o + 2)) 0 0 8)) (o2 + 3)) ((mj_a (mj_a A (o + 1) (va_cpy (A (o2 + 1)) (A (o + 1)) 0 0 8)) (o + 2) (va_cpy ((mj_a A (o + 1) (va_cpy (A (o2 + 1)) (A (o + 1)) 0 0 8)) (o2 + 2)) ((mj_a A (o + 1) (va_cpy (A (o2 + 1)) (A (o + 1)) 0 0 8)) (o + 2)) 0 0 8)) (o + 3)) 0 0 8)) (o + 4) (va_cpy ((mj_a (mj_a (mj_a A (o + 1) (va_cpy (A (o2 + 1)) (A (o + 1)) 0 0 8)) (o + 2) (va_cpy ((mj_a A (o + 1) (va_cpy (A (o2 + 1)) (A (o + 1)) 0 0 8)) (o2 + 2)) ((mj_a A (o + 1) (va_cpy (A (o2 + 1)) (A (o + 1)) 0 0 8)) (o + 2)) 0 0 8)) (o + 3) (va_cpy ((mj_a (mj_a A (o + 1) (va_cpy (A (o2 + 1)) (A (o + 1)) 0 0 8)) (o + 2) (va_cpy ((mj_a A (o + 1) (va_cpy (A (o2 + 1)) (A (o + 1)) 0 0 8)) (o2 + 2)) ((mj_a A (o + 1) (va_cpy (A (o2 + 1)) (A (o + 1)) 0 0 8)) (o + 2)) 0 0 8)) (o2 + 3)) ((mj_a (mj_a A (o + 1) (va_cpy (A (o2 + 1)) (A (o + 1)) 0 0 8)) (o + 2) (va_cpy ((mj_a A (o + 1) (va_cpy (A (o2 + 1)) (A (o + 1)) 0 0 8)) (o2 + 2)) ((mj_a A (o + 1) (va_cpy (A (o2 + 1)) (A (o + 1)) 0 0 8)) (o + 2)) 0 0 8)) (o + 3)) 0 0 8)) (o2 + 4)) ((mj_a (mj_a (mj_a A (o + 1) (va_cpy (A (o2 + 1)) (A (o + 1)) 0 0 8)) (o + 2) (va_cpy ((mj_a A (o + 1) (va_cpy (A (o2 + 1)) (A (o + 1)) 0 0 8)) (o2 + 2)) ((mj_a A (o + 1) (va_cpy (A (o2 + 1)) (A (o + 1)) 0 0 8)) (o + 2)) 0 0 8)) (o + 3) (va_cpy ((mj_a (mj_a A (o + 1) (va_cpy (A (o2 + 1)) (A (o + 1)) 0 0 8)) (o + 2) (va_cpy ((mj_a A (o + 1) (va_cpy (A (o2 + 1)) (A (o + 1)) 0 0 8)) (o2 + 2)) ((mj_a A (o + 1) (va_cpy (A (o2 + 1)) (A (o + 1)) 0 0 8)) (o + 2)) 0 0 8)) (o2 + 3)) ((mj_a (mj_a A (o + 1) (va_cpy (A (o2 + 1)) (A (o + 1)) 0 0 8)) (o + 2) (va_cpy ((mj_a A (o + 1) (va_cpy (A (o2 + 1)) (A (o + 1)) 0 0 8)) (o2 + 2)) ((mj_a A (o + 1) (va_cpy (A (o2 + 1)) (A (o + 1)) 0 0 8)) (o + 2)) 0 0 8)) (o + 3)) 0 0 8)) (o + 4)) 0 0 8))) (fun v60 F60 A60 hq60 => ?_)
  obtain ⟨rfl, rfl, rfl⟩ := hq60
  have hC := hC.a (key_g hG 5 (by decide) (by decide)) (va_cpy ((mj_a (mj_a (mj_a (mj_a A (o + 1) (va_cpy (A (o2 + 1)) (A (o + 1)) 0 0 8)) (o + 2) (va_cpy ((mj_a A (o + 1) (va_cpy (A (o2 + 1)) (A (o + 1)) 0 0 8)) (o2 + 2)) ((mj_a A (o + 1) (va_cpy (A (o2 + 1)) (A (o + 1)) 0 0 8)) (o + 2)) 0 0 8)) (o + 3) (va_cpy ((mj_a (mj_a A (o + 1) (va_cpy (A (o2 + 1)) (A (o + 1)) 0 0 8)) (o + 2) (va_cpy ((mj_a A (o + 1) (va_cpy (A (o2 + 1)) (A (o + 1)) 0 0 8)) (o2 + 2)) ((mj_a A (o + 1) (va_cpy (A (o2 + 1)) (A (o + 1)) 0 0 8)) (o + 2)) 0 0 8)) (o2 + 3)) ((mj_a (mj_a A (o + 1) (va_cpy (A (o2 + 1)) (A (o + 1)) 0 0 8)) (o + 2) (va_cpy ((mj_a A (o + 1) (va_cpy (A (o2 + 1)) (A (o + 1)) 0 0 8)) (o2 + 2)) ((mj_a A (o + 1) (va_cpy (A (o2 + 1)) (A (o + 1)) 0 0 8)) (o + 2)) 0 0 8)) (o + 3)) 0 0 8)) (o + 4) (va_cpy ((mj_a (mj_a (mj_a A (o + 1) (va_cpy (A (o2 + 1)) (A (o + 1)) 0 0 8)) (o + 2) (va_cpy ((mj_a A (o + 1) (va_cpy (A (o2 + 1)) (A (o + 1)) 0 0 8)) (o2 + 2)) ((mj_a A (o + 1) (va_cpy (A (o2 + 1)) (A (o + 1)) 0 0 8)) (o + 2)) 0 0 8)) (o + 3) (va_cpy ((mj_a (mj_a A (o + 1) (va_cpy (A (o2 + 1)) (A (o + 1)) 0 0 8)) (o + 2) (va_cpy ((mj_a A (o + 1) (va_cpy (A (o2 + 1)) (A (o + 1)) 0 0 8)) (o2 + 2)) ((mj_a A (o + 1) (va_cpy (A (o2 + 1)) (A (o + 1)) 0 0 8)) (o + 2)) 0 0 8)) (o2 + 3)) ((mj_a (mj_a A (o + 1) (va_cpy (A (o2 + 1)) (A (o + 1)) 0 0 8)) (o + 2) (va_cpy ((mj_a A (o + 1) (va_cpy (A (o2 + 1)) (A (o + 1)) 0 0 8)) (o2 + 2)) ((mj_a A (o + 1) (va_cpy (A (o2 + 1)) (A (o + 1)) 0 0 8)) (o + 2)) 0 0 8)) (o + 3)) 0 0 8)) (o2 + 4)) ((mj_a (mj_a (mj_a A (o + 1) (va_cpy (A (o2 + 1)) (A (o + 1)) 0 0 8)) (o + 2) (va_cpy ((mj_a A (o + 1) (va_cpy (A (o2 + 1)) (A (o + 1)) 0 0 8)) (o2 + 2)) ((mj_a A (o + 1) (va_cpy (A (o2 + 1)) (A (o + 1)) 0 0 8)) (o + 2)) 0 0 8)) (o + 3) (va_cpy ((mj_a (mj_a A (o + 1) (va_cpy (A (o2 + 1)) (A (o + 1)) 0 0 8)) (o + 2) (va_cpy ((mj_a A (o + 1) (va_cpy (A (o2 + 1)) (A (o + 1)) 0 0 8)) (o2 + 2)) ((mj_a A (o + 1) (va_cpy (A (o2 + 1)) (A (o + 1)) 0 0 8)) (o + 2)) 0 0 8)) (o2 + 3)) ((mj_a (mj_a A (o + 1) (va_cpy (A (o2 + 1)) (A (o + 1)) 0 0 8)) (o + 2) (va_cpy ((mj_a A (o + 1) (va_cpy (A (o2 + 1)) (A (o + 1)) 0 0 8)) (o2 + 2)) ((mj_a A (o + 1) (va_cpy (A (o2 + 1)) (A (o + 1)) 0 0 8)) (o + 2)) 0 0 8)) (o + 3)) 0 0 8)) (o + 4)) 0 0 8)) (o2 + 5)) ((mj_a (mj_a (mj_a (mj_a A (o + 1) (va_cpy (A (o2 + 1)) (A (o + 1)) 0 0 8)) (o + 2) (va_cpy ((mj_a A (o + 1) (va_cpy (A (o2 + 1)) (A (o + 1)) 0 0 8)) (o2 + 2)) ((mj_a A (o + 1) (va_cpy (A (o2 + 1)) (A (o + 1)) 0 0 8)) (o + 2)) 0 0 8)) (o + 3) (va_cpy ((mj_a (mj_a A (o + 1) (va_cpy (A (o2 + 1)) (A (o + 1)) 0 0 8)) (o + 2) (va_cpy ((mj_a A (o + 1) (va_cpy (A (o2 + 1)) (A (o + 1)) 0 0 8)) (o2 + 2)) ((mj_a A (o + 1) (va_cpy (A (o2 + 1)) (A (o + 1)) 0 0 8)) (o + 2)) 0 0 8)) (o2 + 3)) ((mj_a (mj_a A (o + 1) (va_cpy (A (o2 + 1)) (A (o + 1)) 0 0 8)) (o + 2) (va_cpy ((mj_a A (o + 1) (va_cpy (A (o2 + 1)) (A (o + 1)) 0 0 8)) (o2 + 2)) ((mj_a A (o + 1) (va_cpy (A (o2 + 1)) (A (o + 1)) 0 0 8)) (o + 2)) 0 0 8)) (o + 3)) 0 0 8)) (o + 4) (va_cpy ((mj_a (mj_a (mj_a A (o + 1) (va_cpy (A (o2 + 1)) (A (o + 1)) 0 0 8)) (o + 2) (va_cpy ((mj_a A (o + 1) (va_cpy (A (o2 + 1)) (A (o + 1)) 0 0 8)) (o2 + 2)) ((mj_a A (o + 1) (va_cpy (A (o2 + 1)) (A (o + 1)) 0 0 8)) (o + 2)) 0 0 8)) (o + 3) (va_cpy ((mj_a (mj_a A (o + 1) (va_cpy (A (o2 + 1)) (A (o + 1)) 0 0 8)) (o + 2) (va_cpy ((mj_a A (o + 1) (va_cpy (A (o2 + 1)) (A (o + 1)) 0 0 8)) (o2 + 2)) ((mj_a A (o + 1) (va_cpy (A (o2 + 1)) (A (o + 1)) 0 0 8)) (o + 2)) 0 0 8)) (o2 + 3)) ((mj_a (mj_a A (o + 1) (va_cpy (A (o2 + 1)) (A (o + 1)) 0 0 8)) (o + 2) (va_cpy ((mj_a A (o + 1) (va_cpy (A (o2 + 1)) (A (o + 1)) 0 0 8)) (o2 + 2)) ((mj_a A (o + 1) (va_cpy (A (o2 + 1)) (A (o + 1)) 0 0 8)) (o + 2)) 0 0 8)) (o + 3)) 0 0 8)) (o2 + 4)) ((mj_a (mj_a (mj_a A (o + 1) (va_cpy (A (o2 + 1)) (A (o + 1)) 0 0 8)) (o + 2) (va_cpy ((mj_a A (o + 1) (va_cpy (A (o2 + 1)) (A (o + 1)) 0 0 8)) (o2 + 2)) ((mj_a A (o + 1) (va_cpy (A (o2 + 1)) (A (o + 1)) 0 0 8)) (o + 2)) 0 0 8)) (o + 3) (va_cpy ((mj_a (mj_a A (o + 1) (va_cpy (A (o2 + 1)) (A (o + 1)) 0 0 8)) (o + 2) (va_cpy ((mj_a A (o + 1) (va_cpy (A (o2 + 1)) (A (o + 1)) 0 0 8)) (o2 + 2)) ((mj_a A (o + 1) (va_cpy (A (o2 + 1)) (A (o + 1)) 0 0 8)) (o + 2)) 0 0 8)) (o2 + 3)) ((mj_a (mj_a A (o + 1) (va_cpy (A (o2 + 1)) (A (o + 1)) 0 0 8)) (o + 2) (va_cpy ((mj_a A (o + 1) (va_cpy (A (o2 + 1)) (A (o + 1)) 0 0 8)) (o2 + 2)) ((mj_a A (o + 1) (va_cpy (A (o2 + 1)) (A (o + 1)) 0 0 8)) (o + 2)) 0 0 8)) (o + 3)) 0 0 8)) (o + 4)) 0 0 8)) (o + 5)) 0 0 32)
  refine j_aload_n dX0_copyFrom_63 rfl ?_
  refine j_getR (r := (o2 + 6)) dX0_copyFrom_64 flX0_27 (gs_lt hG2 0 (by omega)) (gs_o hG2) rfl ?_
  refine j_aload_n dX0_copyFrom_67 rfl ?_
  refine j_getR (r := (o + 6)) dX0_copyFrom_68 flX0_27 (gs_lt hG 0 (by omega)) (gs_o hG) rfl ?_
  refine j_callSN (y' := mX5_copyRow) (As := [.ref (o2 + 6), .ref (o + 6)]) (st := []) dX0_copyFrom_71 lnX0_34 okX5_copyRow stX5_copyRow rfl (Nat.le_of_ble_eq_true rfl) (Nat.le_of_ble_eq_true rfl) (c_copyRow z _ (o2 + 6) (o + 6) 448 (by decide) (gs_lt hG2 6 (by omega)) (gs_6 hG2) (gs_lt hG 6 (by omega)) (gs_6 hG) (mj_u F o 0 (nI n2)) (mj_a (mj_a (mj_a (mj_a (mj_a A (o + 1) (va_cpy (A (o2 + 1)) (A (o + 1)) 0 0 8)) (o + 2) (va_cpy ((mj_a A (o + 1) (va_cpy (A (o2 + 1)) (A (o + 1)) 0 0 8)) (o2 + 2)) ((mj_a A (o + 1) (va_cpy (A (o2 + 1)) (A (o + 1)) 0 0 8)) (o + 2)) 0 0 8)) (o + 3) (va_cpy ((mj_a (mj_a A (o + 1) (va_cpy (A (o2 + 1)) (A (o + 1)) 0 0 8)) (o + 2) (va_cpy ((mj_a A (o + 1) (va_cpy (A (o2 + 1)) (A (o + 1)) 0 0 8)) (o2 + 2)) ((mj_a A (o + 1) (va_cpy (A (o2 + 1)) (A (o + 1)) 0 0 8)) (o + 2)) 0 0 8)) (o2 + 3)) ((mj_a (mj_a A (o + 1) (va_cpy (A (o2 + 1)) (A (o + 1)) 0 0 8)) (o + 2) (va_cpy ((mj_a A (o + 1) (va_cpy (A (o2 + 1)) (A (o + 1)) 0 0 8)) (o2 + 2)) ((mj_a A (o + 1) (va_cpy (A (o2 + 1)) (A (o + 1)) 0 0 8)) (o + 2)) 0 0 8)) (o + 3)) 0 0 8)) (o + 4) (va_cpy ((mj_a (mj_a (mj_a A (o + 1) (va_cpy (A (o2 + 1)) (A (o + 1)) 0 0 8)) (o + 2) (va_cpy ((mj_a A (o + 1) (va_cpy (A (o2 + 1)) (A (o + 1)) 0 0 8)) (o2 + 2)) ((mj_a A (o + 1) (va_cpy (A (o2 + 1)) (A (o + 1)) 0 0 8)) (o + 2)) 0 0 8)) (o + 3) (va_cpy ((mj_a (mj_a A (o + 1) (va_cpy (A (o2 + 1)) (A (o + 1)) 0 0 8)) (o + 2) (va_cpy ((mj_a A (o + 1) (va_cpy (A (o2 + 1)) (A (o + 1)) 0 0 8)) (o2 + 2)) ((mj_a A (o + 1) (va_cpy (A (o2 + 1)) (A (o + 1)) 0 0 8)) (o + 2)) 0 0 8)) (o2 + 3)) ((mj_a (mj_a A (o + 1) (va_cpy (A (o2 + 1)) (A (o + 1)) 0 0 8)) (o + 2) (va_cpy ((mj_a A (o + 1) (va_cpy (A (o2 + 1)) (A (o + 1)) 0 0 8)) (o2 + 2)) ((mj_a A (o + 1) (va_cpy (A (o2 + 1)) (A (o + 1)) 0 0 8)) (o + 2)) 0 0 8)) (o + 3)) 0 0 8)) (o2 + 4)) ((mj_a (mj_a (mj_a A (o + 1) (va_cpy (A (o2 + 1)) (A (o + 1)) 0 0 8)) (o + 2) (va_cpy ((mj_a A (o + 1) (va_cpy (A (o2 + 1)) (A (o + 1)) 0 0 8)) (o2 + 2)) ((mj_a A (o + 1) (va_cpy (A (o2 + 1)) (A (o + 1)) 0 0 8)) (o + 2)) 0 0 8)) (o + 3) (va_cpy ((mj_a (mj_a A (o + 1) (va_cpy (A (o2 + 1)) (A (o + 1)) 0 0 8)) (o + 2) (va_cpy ((mj_a A (o + 1) (va_cpy (A (o2 + 1)) (A (o + 1)) 0 0 8)) (o2 + 2)) ((mj_a A (o + 1) (va_cpy (A (o2 + 1)) (A (o + 1)) 0 0 8)) (o + 2)) 0 0 8)) (o2 + 3)) ((mj_a (mj_a A (o + 1) (va_cpy (A (o2 + 1)) (A (o + 1)) 0 0 8)) (o + 2) (va_cpy ((mj_a A (o + 1) (va_cpy (A (o2 + 1)) (A (o + 1)) 0 0 8)) (o2 + 2)) ((mj_a A (o + 1) (va_cpy (A (o2 + 1)) (A (o + 1)) 0 0 8)) (o + 2)) 0 0 8)) (o + 3)) 0 0 8)) (o + 4)) 0 0 8)) (o + 5) (va_cpy ((mj_a (mj_a (mj_a (mj_a A (o + 1) (va_cpy (A (o2 + 1)) (A (o + 1)) 0 0 8)) (o + 2) (va_cpy ((mj_a A (o + 1) (va_cpy (A (o2 + 1)) (A (o + 1)) 0 0 8)) (o2 + 2)) ((mj_a A (o + 1) (va_cpy (A (o2 + 1)) (A (o + 1)) 0 0 8)) (o + 2)) 0 0 8)) (o + 3) (va_cpy ((mj_a (mj_a A (o + 1) (va_cpy (A (o2 + 1)) (A (o + 1)) 0 0 8)) (o + 2) (va_cpy ((mj_a A (o + 1) (va_cpy (A (o2 + 1)) (A (o + 1)) 0 0 8)) (o2 + 2)) ((mj_a A (o + 1) (va_cpy (A (o2 + 1)) (A (o + 1)) 0 0 8)) (o + 2)) 0 0 8)) (o2 + 3)) ((mj_a (mj_a A (o + 1) (va_cpy (A (o2 + 1)) (A (o + 1)) 0 0 8)) (o + 2) (va_cpy ((mj_a A (o + 1) (va_cpy (A (o2 + 1)) (A (o + 1)) 0 0 8)) (o2 + 2)) ((mj_a A (o + 1) (va_cpy (A (o2 + 1)) (A (o + 1)) 0 0 8)) (o + 2)) 0 0 8)) (o + 3)) 0 0 8)) (o + 4) (va_cpy ((mj_a (mj_a (mj_a A (o + 1) (va_cpy (A (o2 + 1)) (A (o + 1)) 0 0 8)) (o + 2) (va_cpy ((mj_a A (o + 1) (va_cpy (A (o2 + 1)) (A (o + 1)) 0 0 8)) (o2 + 2)) ((mj_a A (o + 1) (va_cpy (A (o2 + 1)) (A (o + 1)) 0 0 8)) (o + 2)) 0 0 8)) (o + 3) (va_cpy ((mj_a (mj_a A (o + 1) (va_cpy (A (o2 + 1)) (A (o + 1)) 0 0 8)) (o + 2) (va_cpy ((mj_a A (o + 1) (va_cpy (A (o2 + 1)) (A (o + 1)) 0 0 8)) (o2 + 2)) ((mj_a A (o + 1) (va_cpy (A (o2 + 1)) (A (o + 1)) 0 0 8)) (o + 2)) 0 0 8)) (o2 + 3)) ((mj_a (mj_a A (o + 1) (va_cpy (A (o2 + 1)) (A (o + 1)) 0 0 8)) (o + 2) (va_cpy ((mj_a A (o + 1) (va_cpy (A (o2 + 1)) (A (o + 1)) 0 0 8)) (o2 + 2)) ((mj_a A (o + 1) (va_cpy (A (o2 + 1)) (A (o + 1)) 0 0 8)) (o + 2)) 0 0 8)) (o + 3)) 0 0 8)) (o2 + 4)) ((mj_a (mj_a (mj_a A (o + 1) (va_cpy (A (o2 + 1)) (A (o + 1)) 0 0 8)) (o + 2) (va_cpy ((mj_a A (o + 1) (va_cpy (A (o2 + 1)) (A (o + 1)) 0 0 8)) (o2 + 2)) ((mj_a A (o + 1) (va_cpy (A (o2 + 1)) (A (o + 1)) 0 0 8)) (o + 2)) 0 0 8)) (o + 3) (va_cpy ((mj_a (mj_a A (o + 1) (va_cpy (A (o2 + 1)) (A (o + 1)) 0 0 8)) (o + 2) (va_cpy ((mj_a A (o + 1) (va_cpy (A (o2 + 1)) (A (o + 1)) 0 0 8)) (o2 + 2)) ((mj_a A (o + 1) (va_cpy (A (o2 + 1)) (A (o + 1)) 0 0 8)) (o + 2)) 0 0 8)) (o2 + 3)) ((mj_a (mj_a A (o + 1) (va_cpy (A (o2 + 1)) (A (o + 1)) 0 0 8)) (o + 2) (va_cpy ((mj_a A (o + 1) (va_cpy (A (o2 + 1)) (A (o + 1)) 0 0 8)) (o2 + 2)) ((mj_a A (o + 1) (va_cpy (A (o2 + 1)) (A (o + 1)) 0 0 8)) (o + 2)) 0 0 8)) (o + 3)) 0 0 8)) (o + 4)) 0 0 8)) (o2 + 5)) ((mj_a (mj_a (mj_a (mj_a A (o + 1) (va_cpy (A (o2 + 1)) (A (o + 1)) 0 0 8)) (o + 2) (va_cpy ((mj_a A (o + 1) (va_cpy (A (o2 + 1)) (A (o + 1)) 0 0 8)) (o2 + 2)) ((mj_a A (o + 1) (va_cpy (A (o2 + 1)) (A (o + 1)) 0 0 8)) (o + 2)) 0 0 8)) (o + 3) (va_cpy ((mj_a (mj_a A (o + 1) (va_cpy (A (o2 + 1)) (A (o + 1)) 0 0 8)) (o + 2) (va_cpy ((mj_a A (o + 1) (va_cpy (A (o2 + 1)) (A (o + 1)) 0 0 8)) (o2 + 2)) ((mj_a A (o + 1) (va_cpy (A (o2 + 1)) (A (o + 1)) 0 0 8)) (o + 2)) 0 0 8)) (o2 + 3)) ((mj_a (mj_a A (o + 1) (va_cpy (A (o2 + 1)) (A (o + 1)) 0 0 8)) (o + 2) (va_cpy ((mj_a A (o + 1) (va_cpy (A (o2 + 1)) (A (o + 1)) 0 0 8)) (o2 + 2)) ((mj_a A (o + 1) (va_cpy (A (o2 + 1)) (A (o + 1)) 0 0 8)) (o + 2)) 0 0 8)) (o + 3)) 0 0 8)) (o + 4) (va_cpy ((mj_a (mj_a (mj_a A (o + 1) (va_cpy (A (o2 + 1)) (A (o + 1)) 0 0 8)) (o + 2) (va_cpy ((mj_a A (o + 1) (va_cpy (A (o2 + 1)) (A (o + 1)) 0 0 8)) (o2 + 2)) ((mj_a A (o + 1) (va_cpy (A (o2 + 1)) (A (o + 1)) 0 0 8)) (o + 2)) 0 0 8)) (o + 3) (va_cpy ((mj_a (mj_a A (o + 1) (va_cpy (A (o2 + 1)) (A (o + 1)) 0 0 8)) (o + 2) (va_cpy ((mj_a A (o + 1) (va_cpy (A (o2 + 1)) (A (o + 1)) 0 0 8)) (o2 + 2)) ((mj_a A (o + 1) (va_cpy (A (o2 + 1)) (A (o + 1)) 0 0 8)) (o + 2)) 0 0 8)) (o2 + 3)) ((mj_a (mj_a A (o + 1) (va_cpy (A (o2 + 1)) (A (o + 1)) 0 0 8)) (o + 2) (va_cpy ((mj_a A (o + 1) (va_cpy (A (o2 + 1)) (A (o + 1)) 0 0 8)) (o2 + 2)) ((mj_a A (o + 1) (va_cpy (A (o2 + 1)) (A (o + 1)) 0 0 8)) (o + 2)) 0 0 8)) (o + 3)) 0 0 8)) (o2 + 4)) ((mj_a (mj_a (mj_a A (o + 1) (va_cpy (A (o2 + 1)) (A (o + 1)) 0 0 8)) (o + 2) (va_cpy ((mj_a A (o + 1) (va_cpy (A (o2 + 1)) (A (o + 1)) 0 0 8)) (o2 + 2)) ((mj_a A (o + 1) (va_cpy (A (o2 + 1)) (A (o + 1)) 0 0 8)) (o + 2)) 0 0 8)) (o + 3) (va_cpy ((mj_a (mj_a A (o + 1) (va_cpy (A (o2 + 1)) (A (o + 1)) 0 0 8)) (o + 2) (va_cpy ((mj_a A (o + 1) (va_cpy (A (o2 + 1)) (A (o + 1)) 0 0 8)) (o2 + 2)) ((mj_a A (o + 1) (va_cpy (A (o2 + 1)) (A (o + 1)) 0 0 8)) (o + 2)) 0 0 8)) (o2 + 3)) ((mj_a (mj_a A (o + 1) (va_cpy (A (o2 + 1)) (A (o + 1)) 0 0 8)) (o + 2) (va_cpy ((mj_a A (o + 1) (va_cpy (A (o2 + 1)) (A (o + 1)) 0 0 8)) (o2 + 2)) ((mj_a A (o + 1) (va_cpy (A (o2 + 1)) (A (o + 1)) 0 0 8)) (o + 2)) 0 0 8)) (o + 3)) 0 0 8)) (o + 4)) 0 0 8)) (o + 5)) 0 0 32))) (fun v71 F71 A71 hq71 => ?_)
  obtain ⟨rfl, rfl, rfl⟩ := hq71
  have hC := hC.a (key_g hG 6 (by decide) (by decide)) (va_cpy ((mj_a (mj_a (mj_a (mj_a (mj_a A (o + 1) (va_cpy (A (o2 + 1)) (A (o + 1)) 0 0 8)) (o + 2) (va_cpy ((mj_a A (o + 1) (va_cpy (A (o2 + 1)) (A (o + 1)) 0 0 8)) (o2 + 2)) ((mj_a A (o + 1) (va_cpy (A (o2 + 1)) (A (o + 1)) 0 0 8)) (o + 2)) 0 0 8)) (o + 3) (va_cpy ((mj_a (mj_a A (o + 1) (va_cpy (A (o2 + 1)) (A (o + 1)) 0 0 8)) (o + 2) (va_cpy ((mj_a A (o + 1) (va_cpy (A (o2 + 1)) (A (o + 1)) 0 0 8)) (o2 + 2)) ((mj_a A (o + 1) (va_cpy (A (o2 + 1)) (A (o + 1)) 0 0 8)) (o + 2)) 0 0 8)) (o2 + 3)) ((mj_a (mj_a A (o + 1) (va_cpy (A (o2 + 1)) (A (o + 1)) 0 0 8)) (o + 2) (va_cpy ((mj_a A (o + 1) (va_cpy (A (o2 + 1)) (A (o + 1)) 0 0 8)) (o2 + 2)) ((mj_a A (o + 1) (va_cpy (A (o2 + 1)) (A (o + 1)) 0 0 8)) (o + 2)) 0 0 8)) (o + 3)) 0 0 8)) (o + 4) (va_cpy ((mj_a (mj_a (mj_a A (o + 1) (va_cpy (A (o2 + 1)) (A (o + 1)) 0 0 8)) (o + 2) (va_cpy ((mj_a A (o + 1) (va_cpy (A (o2 + 1)) (A (o + 1)) 0 0 8)) (o2 + 2)) ((mj_a A (o + 1) (va_cpy (A (o2 + 1)) (A (o + 1)) 0 0 8)) (o + 2)) 0 0 8)) (o + 3) (va_cpy ((mj_a (mj_a A (o + 1) (va_cpy (A (o2 + 1)) (A (o + 1)) 0 0 8)) (o + 2) (va_cpy ((mj_a A (o + 1) (va_cpy (A (o2 + 1)) (A (o + 1)) 0 0 8)) (o2 + 2)) ((mj_a A (o + 1) (va_cpy (A (o2 + 1)) (A (o + 1)) 0 0 8)) (o + 2)) 0 0 8)) (o2 + 3)) ((mj_a (mj_a A (o + 1) (va_cpy (A (o2 + 1)) (A (o + 1)) 0 0 8)) (o + 2) (va_cpy ((mj_a A (o + 1) (va_cpy (A (o2 + 1)) (A (o + 1)) 0 0 8)) (o2 + 2)) ((mj_a A (o + 1) (va_cpy (A (o2 + 1)) (A (o + 1)) 0 0 8)) (o + 2)) 0 0 8)) (o + 3)) 0 0 8)) (o2 + 4)) ((mj_a (mj_a (mj_a A (o + 1) (va_cpy (A (o2 + 1)) (A (o + 1)) 0 0 8)) (o + 2) (va_cpy ((mj_a A (o + 1) (va_cpy (A (o2 + 1)) (A (o + 1)) 0 0 8)) (o2 + 2)) ((mj_a A (o + 1) (va_cpy (A (o2 + 1)) (A (o + 1)) 0 0 8)) (o + 2)) 0 0 8)) (o + 3) (va_cpy ((mj_a (mj_a A (o + 1) (va_cpy (A (o2 + 1)) (A (o + 1)) 0 0 8)) (o + 2) (va_cpy ((mj_a A (o + 1) (va_cpy (A (o2 + 1)) (A (o + 1)) 0 0 8)) (o2 + 2)) ((mj_a A (o + 1) (va_cpy (A (o2 + 1)) (A (o + 1)) 0 0 8)) (o + 2)) 0 0 8)) (o2 + 3)) ((mj_a (mj_a A (o + 1) (va_cpy (A (o2 + 1)) (A (o + 1)) 0 0 8)) (o + 2) (va_cpy ((mj_a A (o + 1) (va_cpy (A (o2 + 1)) (A (o + 1)) 0 0 8)) (o2 + 2)) ((mj_a A (o + 1) (va_cpy (A (o2 + 1)) (A (o + 1)) 0 0 8)) (o + 2)) 0 0 8)) (o + 3)) 0 0 8)) (o + 4)) 0 0 8)) (o + 5) (va_cpy ((mj_a (mj_a (mj_a (mj_a A (o + 1) (va_cpy (A (o2 + 1)) (A (o + 1)) 0 0 8)) (o + 2) (va_cpy ((mj_a A (o + 1) (va_cpy (A (o2 + 1)) (A (o + 1)) 0 0 8)) (o2 + 2)) ((mj_a A (o + 1) (va_cpy (A (o2 + 1)) (A (o + 1)) 0 0 8)) (o + 2)) 0 0 8)) (o + 3) (va_cpy ((mj_a (mj_a A (o + 1) (va_cpy (A (o2 + 1)) (A (o + 1)) 0 0 8)) (o + 2) (va_cpy ((mj_a A (o + 1) (va_cpy (A (o2 + 1)) (A (o + 1)) 0 0 8)) (o2 + 2)) ((mj_a A (o + 1) (va_cpy (A (o2 + 1)) (A (o + 1)) 0 0 8)) (o + 2)) 0 0 8)) (o2 + 3)) ((mj_a (mj_a A (o + 1) (va_cpy (A (o2 + 1)) (A (o + 1)) 0 0 8)) (o + 2) (va_cpy ((mj_a A (o + 1) (va_cpy (A (o2 + 1)) (A (o + 1)) 0 0 8)) (o2 + 2)) ((mj_a A (o + 1) (va_cpy (A (o2 + 1)) (A (o + 1)) 0 0 8)) (o + 2)) 0 0 8)) (o + 3)) 0 0 8)) (o + 4) (va_cpy ((mj_a (mj_a (mj_a A (o + 1) (va_cpy (A (o2 + 1)) (A (o + 1)) 0 0 8)) (o + 2) (va_cpy ((mj_a A (o + 1) (va_cpy (A (o2 + 1)) (A (o + 1)) 0 0 8)) (o2 + 2)) ((mj_a A (o + 1) (va_cpy (A (o2 + 1)) (A (o + 1)) 0 0 8)) (o + 2)) 0 0 8)) (o + 3) (va_cpy ((mj_a (mj_a A (o + 1) (va_cpy (A (o2 + 1)) (A (o + 1)) 0 0 8)) (o + 2) (va_cpy ((mj_a A (o + 1) (va_cpy (A (o2 + 1)) (A (o + 1)) 0 0 8)) (o2 + 2)) ((mj_a A (o + 1) (va_cpy (A (o2 + 1)) (A (o + 1)) 0 0 8)) (o + 2)) 0 0 8)) (o2 + 3)) ((mj_a (mj_a A (o + 1) (va_cpy (A (o2 + 1)) (A (o + 1)) 0 0 8)) (o + 2) (va_cpy ((mj_a A (o + 1) (va_cpy (A (o2 + 1)) (A (o + 1)) 0 0 8)) (o2 + 2)) ((mj_a A (o + 1) (va_cpy (A (o2 + 1)) (A (o + 1)) 0 0 8)) (o + 2)) 0 0 8)) (o + 3)) 0 0 8)) (o2 + 4)) ((mj_a (mj_a (mj_a A (o + 1) (va_cpy (A (o2 + 1)) (A (o + 1)) 0 0 8)) (o + 2) (va_cpy ((mj_a A (o + 1) (va_cpy (A (o2 + 1)) (A (o + 1)) 0 0 8)) (o2 + 2)) ((mj_a A (o + 1) (va_cpy (A (o2 + 1)) (A (o + 1)) 0 0 8)) (o + 2)) 0 0 8)) (o + 3) (va_cpy ((mj_a (mj_a A (o + 1) (va_cpy (A (o2 + 1)) (A (o + 1)) 0 0 8)) (o + 2) (va_cpy ((mj_a A (o + 1) (va_cpy (A (o2 + 1)) (A (o + 1)) 0 0 8)) (o2 + 2)) ((mj_a A (o + 1) (va_cpy (A (o2 + 1)) (A (o + 1)) 0 0 8)) (o + 2)) 0 0 8)) (o2 + 3)) ((mj_a (mj_a A (o + 1) (va_cpy (A (o2 + 1)) (A (o + 1)) 0 0 8)) (o + 2) (va_cpy ((mj_a A (o + 1) (va_cpy (A (o2 + 1)) (A (o + 1)) 0 0 8)) (o2 + 2)) ((mj_a A (o + 1) (va_cpy (A (o2 + 1)) (A (o + 1)) 0 0 8)) (o + 2)) 0 0 8)) (o + 3)) 0 0 8)) (o + 4)) 0 0 8)) (o2 + 5)) ((mj_a (mj_a (mj_a (mj_a A (o + 1) (va_cpy (A (o2 + 1)) (A (o + 1)) 0 0 8)) (o + 2) (va_cpy ((mj_a A (o + 1) (va_cpy (A (o2 + 1)) (A (o + 1)) 0 0 8)) (o2 + 2)) ((mj_a A (o + 1) (va_cpy (A (o2 + 1)) (A (o + 1)) 0 0 8)) (o + 2)) 0 0 8)) (o + 3) (va_cpy ((mj_a (mj_a A (o + 1) (va_cpy (A (o2 + 1)) (A (o + 1)) 0 0 8)) (o + 2) (va_cpy ((mj_a A (o + 1) (va_cpy (A (o2 + 1)) (A (o + 1)) 0 0 8)) (o2 + 2)) ((mj_a A (o + 1) (va_cpy (A (o2 + 1)) (A (o + 1)) 0 0 8)) (o + 2)) 0 0 8)) (o2 + 3)) ((mj_a (mj_a A (o + 1) (va_cpy (A (o2 + 1)) (A (o + 1)) 0 0 8)) (o + 2) (va_cpy ((mj_a A (o + 1) (va_cpy (A (o2 + 1)) (A (o + 1)) 0 0 8)) (o2 + 2)) ((mj_a A (o + 1) (va_cpy (A (o2 + 1)) (A (o + 1)) 0 0 8)) (o + 2)) 0 0 8)) (o + 3)) 0 0 8)) (o + 4) (va_cpy ((mj_a (mj_a (mj_a A (o + 1) (va_cpy (A (o2 + 1)) (A (o + 1)) 0 0 8)) (o + 2) (va_cpy ((mj_a A (o + 1) (va_cpy (A (o2 + 1)) (A (o + 1)) 0 0 8)) (o2 + 2)) ((mj_a A (o + 1) (va_cpy (A (o2 + 1)) (A (o + 1)) 0 0 8)) (o + 2)) 0 0 8)) (o + 3) (va_cpy ((mj_a (mj_a A (o + 1) (va_cpy (A (o2 + 1)) (A (o + 1)) 0 0 8)) (o + 2) (va_cpy ((mj_a A (o + 1) (va_cpy (A (o2 + 1)) (A (o + 1)) 0 0 8)) (o2 + 2)) ((mj_a A (o + 1) (va_cpy (A (o2 + 1)) (A (o + 1)) 0 0 8)) (o + 2)) 0 0 8)) (o2 + 3)) ((mj_a (mj_a A (o + 1) (va_cpy (A (o2 + 1)) (A (o + 1)) 0 0 8)) (o + 2) (va_cpy ((mj_a A (o + 1) (va_cpy (A (o2 + 1)) (A (o + 1)) 0 0 8)) (o2 + 2)) ((mj_a A (o + 1) (va_cpy (A (o2 + 1)) (A (o + 1)) 0 0 8)) (o + 2)) 0 0 8)) (o + 3)) 0 0 8)) (o2 + 4)) ((mj_a (mj_a (mj_a A (o + 1) (va_cpy (A (o2 + 1)) (A (o + 1)) 0 0 8)) (o + 2) (va_cpy ((mj_a A (o + 1) (va_cpy (A (o2 + 1)) (A (o + 1)) 0 0 8)) (o2 + 2)) ((mj_a A (o + 1) (va_cpy (A (o2 + 1)) (A (o + 1)) 0 0 8)) (o + 2)) 0 0 8)) (o + 3) (va_cpy ((mj_a (mj_a A (o + 1) (va_cpy (A (o2 + 1)) (A (o + 1)) 0 0 8)) (o + 2) (va_cpy ((mj_a A (o + 1) (va_cpy (A (o2 + 1)) (A (o + 1)) 0 0 8)) (o2 + 2)) ((mj_a A (o + 1) (va_cpy (A (o2 + 1)) (A (o + 1)) 0 0 8)) (o + 2)) 0 0 8)) (o2 + 3)) ((mj_a (mj_a A (o + 1) (va_cpy (A (o2 + 1)) (A (o + 1)) 0 0 8)) (o + 2) (va_cpy ((mj_a A (o + 1) (va_cpy (A (o2 + 1)) (A (o + 1)) 0 0 8)) (o2 + 2)) ((mj_a A (o + 1) (va_cpy (A (o2 + 1)) (A (o + 1)) 0 0 8)) (o + 2)) 0 0 8)) (o + 3)) 0 0 8)) (o + 4)) 0 0 8)) (o + 5)) 0 0 32)) (o2 + 6)) ((mj_a (mj_a (mj_a (mj_a (mj_a A (o + 1) (va_cpy (A (o2 + 1)) (A (o + 1)) 0 0 8)) (o + 2) (va_cpy ((mj_a A (o + 1) (va_cpy (A (o2 + 1)) (A (o + 1)) 0 0 8)) (o2 + 2)) ((mj_a A (o + 1) (va_cpy (A (o2 + 1)) (A (o + 1)) 0 0 8)) (o + 2)) 0 0 8)) (o + 3) (va_cpy ((mj_a (mj_a A (o + 1) (va_cpy (A (o2 + 1)) (A (o + 1)) 0 0 8)) (o + 2) (va_cpy ((mj_a A (o + 1) (va_cpy (A (o2 + 1)) (A (o + 1)) 0 0 8)) (o2 + 2)) ((mj_a A (o + 1) (va_cpy (A (o2 + 1)) (A (o + 1)) 0 0 8)) (o + 2)) 0 0 8)) (o2 + 3)) ((mj_a (mj_a A (o + 1) (va_cpy (A (o2 + 1)) (A (o + 1)) 0 0 8)) (o + 2) (va_cpy ((mj_a A (o + 1) (va_cpy (A (o2 + 1)) (A (o + 1)) 0 0 8)) (o2 + 2)) ((mj_a A (o + 1) (va_cpy (A (o2 + 1)) (A (o + 1)) 0 0 8)) (o + 2)) 0 0 8)) (o + 3)) 0 0 8)) (o + 4) (va_cpy ((mj_a (mj_a (mj_a A (o + 1) (va_cpy (A (o2 + 1)) (A (o + 1)) 0 0 8)) (o + 2) (va_cpy ((mj_a A (o + 1) (va_cpy (A (o2 + 1)) (A (o + 1)) 0 0 8)) (o2 + 2)) ((mj_a A (o + 1) (va_cpy (A (o2 + 1)) (A (o + 1)) 0 0 8)) (o + 2)) 0 0 8)) (o + 3) (va_cpy ((mj_a (mj_a A (o + 1) (va_cpy (A (o2 + 1)) (A (o + 1)) 0 0 8)) (o + 2) (va_cpy ((mj_a A (o + 1) (va_cpy (A (o2 + 1)) (A (o + 1)) 0 0 8)) (o2 + 2)) ((mj_a A (o + 1) (va_cpy (A (o2 + 1)) (A (o + 1)) 0 0 8)) (o + 2)) 0 0 8)) (o2 + 3)) ((mj_a (mj_a A (o + 1) (va_cpy (A (o2 + 1)) (A (o + 1)) 0 0 8)) (o + 2) (va_cpy ((mj_a A (o + 1) (va_cpy (A (o2 + 1)) (A (o + 1)) 0 0 8)) (o2 + 2)) ((mj_a A (o + 1) (va_cpy (A (o2 + 1)) (A (o + 1)) 0 0 8)) (o + 2)) 0 0 8)) (o + 3)) 0 0 8)) (o2 + 4)) ((mj_a (mj_a (mj_a A (o + 1) (va_cpy (A (o2 + 1)) (A (o + 1)) 0 0 8)) (o + 2) (va_cpy ((mj_a A (o + 1) (va_cpy (A (o2 + 1)) (A (o + 1)) 0 0 8)) (o2 + 2)) ((mj_a A (o + 1) (va_cpy (A (o2 + 1)) (A (o + 1)) 0 0 8)) (o + 2)) 0 0 8)) (o + 3) (va_cpy ((mj_a (mj_a A (o + 1) (va_cpy (A (o2 + 1)) (A (o + 1)) 0 0 8)) (o + 2) (va_cpy ((mj_a A (o + 1) (va_cpy (A (o2 + 1)) (A (o + 1)) 0 0 8)) (o2 + 2)) ((mj_a A (o + 1) (va_cpy (A (o2 + 1)) (A (o + 1)) 0 0 8)) (o + 2)) 0 0 8)) (o2 + 3)) ((mj_a (mj_a A (o + 1) (va_cpy (A (o2 + 1)) (A (o + 1)) 0 0 8)) (o + 2) (va_cpy ((mj_a A (o + 1) (va_cpy (A (o2 + 1)) (A (o + 1)) 0 0 8)) (o2 + 2)) ((mj_a A (o + 1) (va_cpy (A (o2 + 1)) (A (o + 1)) 0 0 8)) (o + 2)) 0 0 8)) (o + 3)) 0 0 8)) (o + 4)) 0 0 8)) (o + 5) (va_cpy ((mj_a (mj_a (mj_a (mj_a A (o + 1) (va_cpy (A (o2 + 1)) (A (o + 1)) 0 0 8)) (o + 2) (va_cpy ((mj_a A (o + 1) (va_cpy (A (o2 + 1)) (A (o + 1)) 0 0 8)) (o2 + 2)) ((mj_a A (o + 1) (va_cpy (A (o2 + 1)) (A (o + 1)) 0 0 8)) (o + 2)) 0 0 8)) (o + 3) (va_cpy ((mj_a (mj_a A (o + 1) (va_cpy (A (o2 + 1)) (A (o + 1)) 0 0 8)) (o + 2) (va_cpy ((mj_a A (o + 1) (va_cpy (A (o2 + 1)) (A (o + 1)) 0 0 8)) (o2 + 2)) ((mj_a A (o + 1) (va_cpy (A (o2 + 1)) (A (o + 1)) 0 0 8)) (o + 2)) 0 0 8)) (o2 + 3)) ((mj_a (mj_a A (o + 1) (va_cpy (A (o2 + 1)) (A (o + 1)) 0 0 8)) (o + 2) (va_cpy ((mj_a A (o + 1) (va_cpy (A (o2 + 1)) (A (o + 1)) 0 0 8)) (o2 + 2)) ((mj_a A (o + 1) (va_cpy (A (o2 + 1)) (A (o + 1)) 0 0 8)) (o + 2)) 0 0 8)) (o + 3)) 0 0 8)) (o + 4) (va_cpy ((mj_a (mj_a (mj_a A (o + 1) (va_cpy (A (o2 + 1)) (A (o + 1)) 0 0 8)) (o + 2) (va_cpy ((mj_a A (o + 1) (va_cpy (A (o2 + 1)) (A (o + 1)) 0 0 8)) (o2 + 2)) ((mj_a A (o + 1) (va_cpy (A (o2 + 1)) (A (o + 1)) 0 0 8)) (o + 2)) 0 0 8)) (o + 3) (va_cpy ((mj_a (mj_a A (o + 1) (va_cpy (A (o2 + 1)) (A (o + 1)) 0 0 8)) (o + 2) (va_cpy ((mj_a A (o + 1) (va_cpy (A (o2 + 1)) (A (o + 1)) 0 0 8)) (o2 + 2)) ((mj_a A (o + 1) (va_cpy (A (o2 + 1)) (A (o + 1)) 0 0 8)) (o + 2)) 0 0 8)) (o2 + 3)) ((mj_a (mj_a A (o + 1) (va_cpy (A (o2 + 1)) (A (o + 1)) 0 0 8)) (o + 2) (va_cpy ((mj_a A (o + 1) (va_cpy (A (o2 + 1)) (A (o + 1)) 0 0 8)) (o2 + 2)) ((mj_a A (o + 1) (va_cpy (A (o2 + 1)) (A (o + 1)) 0 0 8)) (o + 2)) 0 0 8)) (o + 3)) 0 0 8)) (o2 + 4)) ((mj_a (mj_a (mj_a A (o + 1) (va_cpy (A (o2 + 1)) (A (o + 1)) 0 0 8)) (o + 2) (va_cpy ((mj_a A (o + 1) (va_cpy (A (o2 + 1)) (A (o + 1)) 0 0 8)) (o2 + 2)) ((mj_a A (o + 1) (va_cpy (A (o2 + 1)) (A (o + 1)) 0 0 8)) (o + 2)) 0 0 8)) (o + 3) (va_cpy ((mj_a (mj_a A (o + 1) (va_cpy (A (o2 + 1)) (A (o + 1)) 0 0 8)) (o + 2) (va_cpy ((mj_a A (o + 1) (va_cpy (A (o2 + 1)) (A (o + 1)) 0 0 8)) (o2 + 2)) ((mj_a A (o + 1) (va_cpy (A (o2 + 1)) (A (o + 1)) 0 0 8)) (o + 2)) 0 0 8)) (o2 + 3)) ((mj_a (mj_a A (o + 1) (va_cpy (A (o2 + 1)) (A (o + 1)) 0 0 8)) (o + 2) (va_cpy ((mj_a A (o + 1) (va_cpy (A (o2 + 1)) (A (o + 1)) 0 0 8)) (o2 + 2)) ((mj_a A (o + 1) (va_cpy (A (o2 + 1)) (A (o + 1)) 0 0 8)) (o + 2)) 0 0 8)) (o + 3)) 0 0 8)) (o + 4)) 0 0 8)) (o2 + 5)) ((mj_a (mj_a (mj_a (mj_a A (o + 1) (va_cpy (A (o2 + 1)) (A (o + 1)) 0 0 8)) (o + 2) (va_cpy ((mj_a A (o + 1) (va_cpy (A (o2 + 1)) (A (o + 1)) 0 0 8)) (o2 + 2)) ((mj_a A (o + 1) (va_cpy (A (o2 + 1)) (A (o + 1)) 0 0 8)) (o + 2)) 0 0 8)) (o + 3) (va_cpy ((mj_a (mj_a A (o + 1) (va_cpy (A (o2 + 1)) (A (o + 1)) 0 0 8)) (o + 2) (va_cpy ((mj_a A (o + 1) (va_cpy (A (o2 + 1)) (A (o + 1)) 0 0 8)) (o2 + 2)) ((mj_a A (o + 1) (va_cpy (A (o2 + 1)) (A (o + 1)) 0 0 8)) (o + 2)) 0 0 8)) (o2 + 3)) ((mj_a (mj_a A (o + 1) (va_cpy (A (o2 + 1)) (A (o + 1)) 0 0 8)) (o + 2) (va_cpy ((mj_a A (o + 1) (va_cpy (A (o2 + 1)) (A (o + 1)) 0 0 8)) (o2 + 2)) ((mj_a A (o + 1) (va_cpy (A (o2 + 1)) (A (o + 1)) 0 0 8)) (o + 2)) 0 0 8)) (o + 3)) 0 0 8)) (o + 4) (va_cpy ((mj_a (mj_a (mj_a A (o + 1) (va_cpy (A (o2 + 1)) (A (o + 1)) 0 0 8)) (o + 2) (va_cpy ((mj_a A (o + 1) (va_cpy (A (o2 + 1)) (A (o + 1)) 0 0 8)) (o2 + 2)) ((mj_a A (o + 1) (va_cpy (A (o2 + 1)) (A (o + 1)) 0 0 8)) (o + 2)) 0 0 8)) (o + 3) (va_cpy ((mj_a (mj_a A (o + 1) (va_cpy (A (o2 + 1)) (A (o + 1)) 0 0 8)) (o + 2) (va_cpy ((mj_a A (o + 1) (va_cpy (A (o2 + 1)) (A (o + 1)) 0 0 8)) (o2 + 2)) ((mj_a A (o + 1) (va_cpy (A (o2 + 1)) (A (o + 1)) 0 0 8)) (o + 2)) 0 0 8)) (o2 + 3)) ((mj_a (mj_a A (o + 1) (va_cpy (A (o2 + 1)) (A (o + 1)) 0 0 8)) (o + 2) (va_cpy ((mj_a A (o + 1) (va_cpy (A (o2 + 1)) (A (o + 1)) 0 0 8)) (o2 + 2)) ((mj_a A (o + 1) (va_cpy (A (o2 + 1)) (A (o + 1)) 0 0 8)) (o + 2)) 0 0 8)) (o + 3)) 0 0 8)) (o2 + 4)) ((mj_a (mj_a (mj_a A (o + 1) (va_cpy (A (o2 + 1)) (A (o + 1)) 0 0 8)) (o + 2) (va_cpy ((mj_a A (o + 1) (va_cpy (A (o2 + 1)) (A (o + 1)) 0 0 8)) (o2 + 2)) ((mj_a A (o + 1) (va_cpy (A (o2 + 1)) (A (o + 1)) 0 0 8)) (o + 2)) 0 0 8)) (o + 3) (va_cpy ((mj_a (mj_a A (o + 1) (va_cpy (A (o2 + 1)) (A (o + 1)) 0 0 8)) (o + 2) (va_cpy ((mj_a A (o + 1) (va_cpy (A (o2 + 1)) (A (o + 1)) 0 0 8)) (o2 + 2)) ((mj_a A (o + 1) (va_cpy (A (o2 + 1)) (A (o + 1)) 0 0 8)) (o + 2)) 0 0 8)) (o2 + 3)) ((mj_a (mj_a A (o + 1) (va_cpy (A (o2 + 1)) (A (o + 1)) 0 0 8)) (o + 2) (va_cpy ((mj_a A (o + 1) (va_cpy (A (o2 + 1)) (A (o + 1)) 0 0 8)) (o2 + 2)) ((mj_a A (o + 1) (va_cpy (A (o2 + 1)) (A (o + 1)) 0 0 8)) (o + 2)) 0 0 8)) (o + 3)) 0 0 8)) (o + 4)) 0 0 8)) (o + 5)) 0 0 32)) (o + 6)) 0 0 448)
  exact j_vret dX0_copyFrom_74 rfl ⟨rfl, hC, by rw [en2], rfl⟩
