/-! the class: the reduction's run, the search -/
theorem min_N {a b : Nat} (ha : a < 2147483648) (hb : b < 2147483648) : mj_min (nI a) (nI b) = nI (min a b) := by
  unfold mj_min
  by_cases h : b < a
  · rw [if_pos ((nI_ltI hb ha).mpr h)]; congr 1; omega
  · rw [if_neg (fun e => h ((nI_ltI hb ha).mp e))]; congr 1; omega
theorem c_ntzA (z : mj_B) (d s : Nat) (hs : s < 256) (F A : mj_S) : J (gC z) mJ6_numberOfTrailingZeros_0f7a4 d 0 [(0, .int (nI s))] [] F A (qP F A fun x => 0 < s → ∃ r, r < 8 ∧ x = nI r ∧ s / 2 ^ r % 2 = 1) := by
  rcases Nat.eq_zero_or_pos s with h | h
  · subst h
    exact j_mono (c_ntz0 z d F A) (fun v F' A' ⟨h1, h2, r, h3, _⟩ => ⟨h1, h2, r, h3, fun h => absurd h (by omega)⟩)
  · exact j_mono (c_ntz z d s hs h F A) (fun v F' A' ⟨h1, h2, r, h3, h4⟩ => ⟨h1, h2, _, h3, fun _ => ⟨r, h4.1, rfl, h4.2⟩⟩)
theorem rel_step {A1 A2 : mj_S} {k s u : Nat} {y : Int32} (hrel : ∀ q, q < k → (A1 9 q >>> (A1 6 q &&& 31)) &&& nI 1 = 0) (hfr : FR (mj_u (mj_u (mj_u A1 6 k (nI u)) 9 k (nI s)) 7 k y) A2) (hs : s < 256) (hu : u < 8) (hub : ¬ s / 2 ^ u % 2 = 1) : ∀ q, q < k + 1 → (A2 9 q >>> (A2 6 q &&& 31)) &&& nI 1 = 0 := by
  intro q hq
  rw [hfr 9 (by decide) (by decide), hfr 6 (by decide) (by decide)]
  show (upd (A1 9) k (nI s) q >>> (upd (A1 6) k (nI u) q &&& 31)) &&& nI 1 = 0
  by_cases e : q = k
  · subst e
    simp only [upd, if_true]
    exact no_bit hs hu hub
  · simp only [upd, if_neg e]
    exact hrel q (by omega)

set_option maxHeartbeats 400000 in
set_option maxRecDepth 100000 in
theorem c_runR (z : mj_B) (d : Nat) (T : Tg) (F A : mj_S) (hC : CI T F A) : J (gC z) mX2_run (d + 5) 0 [(0, .ref 5), (1, .ref 33)] [] F A (fun v F' A' => v = none ∧ CI T F' A') := by
  refine j_aload_n dX2_run_0 rfl ?_
  refine j_getR (r := 28) dX2_run_1 flX2_27 (Nat.le_of_ble_eq_true rfl) rfl rfl ?_
  refine j_aload_n dX2_run_4 rfl ?_
  refine j_callV (y' := mX4_weigh) (As := [.ref 33]) (st := []) dX2_run_5 lkX2_31 okX4_weigh imX4_weigh seX4_weigh (Nat.le_of_ble_eq_true rfl) rfl rfl rfl rfl (Nat.le_of_ble_eq_true rfl) (Nat.le_of_ble_eq_true rfl) (c_weigh28 z _ _ F A hC) (fun v5 F5 A5 hq5 => ?_)
  obtain ⟨n, rfl, hn, rfl, hC⟩ := hq5
  refine j_aload_n dX2_run_8 rfl ?_
  refine j_iconst (v := nI 0) dX2_run_9 (by decide +kernel) ?_
  refine j_put dX2_run_10 fpX2_35 (Nat.le_of_ble_eq_true rfl) rfl rfl (by decide +kernel) rfl ?_
  have hC := hC.f (k := 5) (s := 3) rfl (nI 0)
  refine j_aload_n dX2_run_13 rfl ?_
  have hp2 := p2_le hn
  refine j_iconst (v := nI 1) dX2_run_14 (by decide +kernel) ?_
  refine j_aload_n dX2_run_15 rfl ?_
  refine j_getR (r := 28) dX2_run_16 flX2_27 (Nat.le_of_ble_eq_true rfl) rfl rfl ?_
  refine j_getI dX2_run_19 flX2_39 (Nat.le_of_ble_eq_true rfl) rfl rfl ?_
  refine j_top (y0 := nI n) rfl ?_
  refine j_ishl dX2_run_22 ?_
  refine j_top (y0 := nI (2 ^ n)) (shl_1' (by omega)) ?_
  refine j_iconst (v := nI 1) dX2_run_23 (by decide +kernel) ?_
  refine j_isubN dX2_run_24 (by omega) ?_
  refine j_putI dX2_run_25 fpX2_43 (Nat.le_of_ble_eq_true rfl) rfl rfl ?_
  have hC := hC.f (k := 5) (s := 6) rfl (nI ((2 ^ n) - 1))
  have L30 : ∀ (fuel : Nat) (k : Nat) (lf : Nat) (F A : mj_S), (CI T F A) → (F 28 0 = nI n) → (F 5 6 = nI lf) → (lf < 256) → (∀ q, q < k → (A 9 q >>> (A 6 q &&& 31)) &&& nI 1 = 0) → (k ≤ n) → n - k < fuel → J (gC z) mX2_run (d + 5) 30 [(0, .ref 5), (2, .int (nI k))] [] F A (fun v F' A' => v = none ∧ CI T F' A') := by
    intro fuel
    induction fuel with
    | zero => intro k lf F A hC en el hlf hrel h1 hf; exact absurd hf (by omega)
    | succ fuel ih30 =>
      intro k lf F A hC en el hlf hrel h1 hf
      refine j_iload_n dX2_run_30 rfl ?_
      refine j_aload_n dX2_run_31 rfl ?_
      refine j_getR (r := 28) dX2_run_32 flX2_27 (Nat.le_of_ble_eq_true rfl) rfl rfl ?_
      refine j_getI dX2_run_35 flX2_39 (Nat.le_of_ble_eq_true rfl) rfl rfl ?_
      refine j_top (y0 := nI n) en ?_
      refine j_icmp_geN (tgt := 191) dX2_run_38 (by decide) (by omega) (by omega) (fun c38 => ?_) (fun c38 => ?_)
      · refine j_aload_n dX2_run_191 rfl ?_
        refine j_callV (y' := mX2_readOff) (As := []) (st := []) dX2_run_192 lkX2_79 okX2_readOff imX2_readOff seX2_readOff (Nat.le_of_ble_eq_true rfl) rfl rfl rfl rfl (Nat.le_of_ble_eq_true rfl) (Nat.le_of_ble_eq_true rfl) (c_readOff z _ _ n hn F A hC en (fun q hq => hrel q (by omega))) (fun v192 F192 A192 hq192 => ?_)
        obtain ⟨rfl, rfl, hC⟩ := hq192
        exact j_vret dX2_run_195 rfl ⟨rfl, hC⟩
      · refine j_aload_n dX2_run_41 rfl ?_
        refine j_callV (y' := mX2_nextNode) (As := []) (st := []) dX2_run_42 lkX2_46 okX2_nextNode imX2_nextNode seX2_nextNode (Nat.le_of_ble_eq_true rfl) rfl rfl rfl rfl (Nat.le_of_ble_eq_true rfl) (Nat.le_of_ble_eq_true rfl) (c_nextNode z _ _ n lf F A hC en hn el hlf) (fun v42 F42 A42 hq42 => ?_)
        obtain ⟨rfl, rfl, u, rfl, hu⟩ := hq42
        refine j_istore_n (lv' := [(0, .ref 5), (2, .int (nI k)), (3, .int (nI u))]) dX2_run_45 (Nat.le_of_ble_eq_true rfl) rfl rfl ?_
        have L185 : ∀ (F2 A2 : mj_S), (CI T F2 A2) → (F2 28 0 = nI n) → (F2 5 6 = nI (clr lf u)) → (∀ q, q < k + 1 → (A2 9 q >>> (A2 6 q &&& 31)) &&& nI 1 = 0) → J (gC z) mX2_run (d + 5) 185 [(0, .ref 5), (2, .int (nI k))] [] F2 A2 (fun v F' A' => v = none ∧ CI T F' A') := by
          intro F2 A2 hC en2 el2 hrel2
          refine j_iinc (v := nI (k + 1)) (lv' := [(0, .ref 5), (2, .int (nI (k + 1)))]) dX2_run_185 rfl (nI_add _ 1) (Nat.le_of_ble_eq_true rfl) rfl rfl ?_
          refine j_goto (tgt := 30) dX2_run_188 (by decide) ?_
          exact ih30 (k + 1) (clr lf u) F2 A2 (by first | exact hC | omega) en2 el2 (by have := clr_le lf u; omega) hrel2 (by first | exact h1 | omega) (by omega)
        refine j_aload_n dX2_run_46 rfl ?_
        refine j_dup dX2_run_47 rfl ?_
        refine j_getI dX2_run_48 flX2_43 (Nat.le_of_ble_eq_true rfl) rfl rfl ?_
        refine j_top (y0 := nI lf) el ?_
        refine j_iconst (v := nI 1) dX2_run_51 (by decide +kernel) ?_
        refine j_iload_n dX2_run_52 rfl ?_
        refine j_ishl dX2_run_53 ?_
        refine j_top (y0 := nI (2 ^ u)) (shl_1 (by omega)) ?_
        refine j_iconst (v := (-1)) dX2_run_54 (by decide +kernel) ?_
        refine j_ixor dX2_run_55 ?_
        refine j_iand dX2_run_56 ?_
        refine j_top (y0 := nI (clr lf u)) (clr_eq _ (by omega) _ (by omega)) ?_
        refine j_putI dX2_run_57 fpX2_43 (Nat.le_of_ble_eq_true rfl) rfl rfl ?_
        have hC := hC.f (k := 5) (s := 6) rfl (nI (clr lf u))
        have hcl := clr_le lf u
        refine j_aload_n dX2_run_60 rfl ?_
        refine j_getR (r := 6) dX2_run_61 flX2_9 (Nat.le_of_ble_eq_true rfl) rfl rfl ?_
        refine j_iload_n dX2_run_64 rfl ?_
        refine j_iload_n dX2_run_65 rfl ?_
        refine j_iastN dX2_run_66 (Nat.le_of_ble_eq_true rfl) rfl (by omega) (by decide) ?_
        have hC := hC.ord k (t := u) (by omega)
        refine j_aload_n dX2_run_67 rfl ?_
        refine j_getR (r := 9) dX2_run_68 flX2_21 (Nat.le_of_ble_eq_true rfl) rfl rfl ?_
        refine j_iload_n dX2_run_71 rfl ?_
        refine j_aload_n dX2_run_72 rfl ?_
        refine j_iload_n dX2_run_73 rfl ?_
        refine j_callV (y' := mX2_matesLeft) (As := [.int (nI u)]) (st := [.int (nI k), .ref 9]) dX2_run_74 lkX2_50 okX2_matesLeft imX2_matesLeft seX2_matesLeft (Nat.le_of_ble_eq_true rfl) rfl rfl rfl rfl (Nat.le_of_ble_eq_true rfl) (Nat.le_of_ble_eq_true rfl) (c_matesLeft z _ _ n (clr lf u) u (by omega) (mj_u F 5 6 (nI (clr lf u))) (mj_u A 6 k (nI u)) hC en hn rfl (by omega)) (fun v74 F74 A74 hq74 => ?_)
        obtain ⟨rfl, rfl, s74, rfl, hs74, hsub74⟩ := hq74
        have hub : ¬ s74 / 2 ^ u % 2 = 1 := fun h => clr_bit lf (by omega) u hu (hsub74 u h)
        refine j_iastN dX2_run_77 (Nat.le_of_ble_eq_true rfl) rfl (by omega) (by decide) ?_
        have hC := hC.u (k := 9) rfl k (nI s74)
        refine j_aload_n dX2_run_78 rfl ?_
        refine j_getR (r := 7) dX2_run_79 flX2_15 (Nat.le_of_ble_eq_true rfl) rfl rfl ?_
        refine j_iload_n dX2_run_82 rfl ?_
        refine j_aload_n dX2_run_83 rfl ?_
        refine j_getR (r := 9) dX2_run_84 flX2_21 (Nat.le_of_ble_eq_true rfl) rfl rfl ?_
        refine j_iload_n dX2_run_87 rfl ?_
        refine j_ialdN dX2_run_88 (Nat.le_of_ble_eq_true rfl) rfl (by omega) (by decide) ?_
        refine j_top (y0 := nI s74) (mj_u_on (mj_u A 6 k (nI u)) 9 k (nI s74)) ?_
        refine j_callS (y' := mJ6_bitCount_0f7a4) (As := [.int (nI s74)]) (st := [.int (nI k), .ref 7]) dX2_run_89 lkX2_54 okJ6_bitCount_0f7a4 stJ6_bitCount_0f7a4 rfl (Nat.le_of_ble_eq_true rfl) (Nat.le_of_ble_eq_true rfl) (c_bitCount z _ (nI s74) (mj_u F 5 6 (nI (clr lf u))) (mj_u (mj_u A 6 k (nI u)) 9 k (nI s74))) (fun v89 F89 A89 hq89 => ?_)
        obtain ⟨rfl, rfl, r89, rfl, hr89⟩ := hq89
        have hp89 := pc_le (s74)
        refine j_top (y0 := nI (pc s74)) (hr89.trans (bc_pc _ (by omega))) ?_
        refine j_iconst (v := nI 3) dX2_run_92 (by decide +kernel) ?_
        refine j_min dX2_run_93 lkX2_59 mn_st mn_in mn_co (Nat.le_of_ble_eq_true rfl) ?_
        refine j_top (y0 := nI (min (pc s74) 3)) (min_N (by omega) (by omega)) ?_
        refine j_iastN dX2_run_96 (Nat.le_of_ble_eq_true rfl) rfl (by omega) (by decide) ?_
        have hC := hC.u (k := 7) rfl k (nI (min (pc s74) 3))
        refine j_aload_n dX2_run_97 rfl ?_
        refine j_getR (r := 9) dX2_run_98 flX2_21 (Nat.le_of_ble_eq_true rfl) rfl rfl ?_
        refine j_iload_n dX2_run_101 rfl ?_
        refine j_ialdN dX2_run_102 (Nat.le_of_ble_eq_true rfl) rfl (by omega) (by decide) ?_
        refine j_top (y0 := nI s74) (mj_u_on (mj_u A 6 k (nI u)) 9 k (nI s74)) ?_
        refine j_callS (y' := mJ6_numberOfTrailingZeros_0f7a4) (As := [.int (nI s74)]) (st := []) dX2_run_103 lkX2_65 okJ6_numberOfTrailingZeros_0f7a4 stJ6_numberOfTrailingZeros_0f7a4 rfl (Nat.le_of_ble_eq_true rfl) (Nat.le_of_ble_eq_true rfl) (c_ntzA z _ s74 (by omega) (mj_u F 5 6 (nI (clr lf u))) (mj_u (mj_u (mj_u A 6 k (nI u)) 9 k (nI s74)) 7 k (nI (min (pc s74) 3)))) (fun v103 F103 A103 hq103 => ?_)
        obtain ⟨rfl, rfl, r103, rfl, hr103⟩ := hq103
        refine j_istore (lv' := [(0, .ref 5), (2, .int (nI k)), (3, .int (nI u)), (4, .int r103)]) dX2_run_106 (Nat.le_of_ble_eq_true rfl) rfl rfl ?_
        refine j_aload_n dX2_run_108 rfl ?_
        refine j_getR (r := 7) dX2_run_109 flX2_15 (Nat.le_of_ble_eq_true rfl) rfl rfl ?_
        refine j_iload_n dX2_run_112 rfl ?_
        refine j_ialdN dX2_run_113 (Nat.le_of_ble_eq_true rfl) rfl (by omega) (by decide) ?_
        refine j_top (y0 := nI (min (pc s74) 3)) (mj_u_on (mj_u (mj_u A 6 k (nI u)) 9 k (nI s74)) 7 k (nI (min (pc s74) 3))) ?_
        refine j_iconst (v := nI 1) dX2_run_114 (by decide +kernel) ?_
        refine j_icmp_neN (tgt := 128) dX2_run_115 (by decide) (by omega) (by omega) (fun c115 => ?_) (fun c115 => ?_)
        · refine j_aload_n dX2_run_128 rfl ?_
          refine j_getR (r := 7) dX2_run_129 flX2_15 (Nat.le_of_ble_eq_true rfl) rfl rfl ?_
          refine j_iload_n dX2_run_132 rfl ?_
          refine j_ialdN dX2_run_133 (Nat.le_of_ble_eq_true rfl) rfl (by omega) (by decide) ?_
          refine j_top (y0 := nI (min (pc s74) 3)) (mj_u_on (mj_u (mj_u A 6 k (nI u)) 9 k (nI s74)) 7 k (nI (min (pc s74) 3))) ?_
          refine j_iconst (v := nI 2) dX2_run_134 (by decide +kernel) ?_
          refine j_icmp_neN (tgt := 164) dX2_run_135 (by decide) (by omega) (by omega) (fun c135 => ?_) (fun c135 => ?_)
          · refine j_aload_n dX2_run_164 rfl ?_
            refine j_getR (r := 7) dX2_run_165 flX2_15 (Nat.le_of_ble_eq_true rfl) rfl rfl ?_
            refine j_iload_n dX2_run_168 rfl ?_
            refine j_ialdN dX2_run_169 (Nat.le_of_ble_eq_true rfl) rfl (by omega) (by decide) ?_
            refine j_top (y0 := nI (min (pc s74) 3)) (mj_u_on (mj_u (mj_u A 6 k (nI u)) 9 k (nI s74)) 7 k (nI (min (pc s74) 3))) ?_
            refine j_iconst (v := nI 3) dX2_run_170 (by decide +kernel) ?_
            refine j_icmp_neN (tgt := 185) dX2_run_171 (by decide) (by omega) (by omega) (fun c171 => ?_) (fun c171 => ?_)
            · refine j_sub [0, 1] rfl ?_
              exact L185 (mj_u F 5 6 (nI (clr lf u))) (mj_u (mj_u (mj_u A 6 k (nI u)) 9 k (nI s74)) 7 k (nI (min (pc s74) 3))) (by first | exact hC | omega) en rfl (rel_step hrel (FR.rf _) hs74 hu hub)
            · refine j_aload_n dX2_run_174 rfl ?_
              refine j_iload_n dX2_run_175 rfl ?_
              refine j_aload_n dX2_run_176 rfl ?_
              refine j_getR (r := 9) dX2_run_177 flX2_21 (Nat.le_of_ble_eq_true rfl) rfl rfl ?_
              refine j_iload_n dX2_run_180 rfl ?_
              refine j_ialdN dX2_run_181 (Nat.le_of_ble_eq_true rfl) rfl (by omega) (by decide) ?_
              refine j_top (y0 := nI s74) (mj_u_on (mj_u A 6 k (nI u)) 9 k (nI s74)) ?_
              refine j_callV (y' := mX2_guess) (As := [.int (nI u), .int (nI s74)]) (st := []) dX2_run_182 lkX2_76 okX2_guess imX2_guess seX2_guess (Nat.le_of_ble_eq_true rfl) rfl rfl rfl rfl (Nat.le_of_ble_eq_true rfl) (Nat.le_of_ble_eq_true rfl) (c_guess z _ _ u hu s74 (by omega) hub (mj_u F 5 6 (nI (clr lf u))) (mj_u (mj_u (mj_u A 6 k (nI u)) 9 k (nI s74)) 7 k (nI (min (pc s74) 3))) hC) (fun v182 F182 A182 hq182 => ?_)
              obtain ⟨rfl, rfl, hC, hfr⟩ := hq182
              refine j_sub [0, 1] rfl ?_
              exact L185 (mj_u (mj_u F 5 6 (nI (clr lf u))) 5 3 (nI 1)) A182 (by first | exact hC | omega) en rfl (rel_step hrel hfr hs74 hu hub)
          · have hpc2 : pc s74 = 2 := by omega
            have hs0 := pc_pos s74 hs74 (by omega)
            obtain ⟨v, hv8, e103, hbv⟩ := hr103 hs0
            subst e103
            have huv : u ≠ v := fun e => hub (by rw [e]; exact hbv)
            clear hr103
            have hcl2 := clr_le s74 v
            refine j_aload_n dX2_run_138 rfl ?_
            refine j_iload_n dX2_run_139 rfl ?_
            refine j_iload dX2_run_140 rfl ?_
            refine j_aload_n dX2_run_142 rfl ?_
            refine j_getR (r := 9) dX2_run_143 flX2_21 (Nat.le_of_ble_eq_true rfl) rfl rfl ?_
            refine j_iload_n dX2_run_146 rfl ?_
            refine j_ialdN dX2_run_147 (Nat.le_of_ble_eq_true rfl) rfl (by omega) (by decide) ?_
            refine j_top (y0 := nI s74) (mj_u_on (mj_u A 6 k (nI u)) 9 k (nI s74)) ?_
            refine j_iconst (v := nI 1) dX2_run_148 (by decide +kernel) ?_
            refine j_iload dX2_run_149 rfl ?_
            refine j_ishl dX2_run_151 ?_
            refine j_top (y0 := nI (2 ^ v)) (shl_1 (by omega)) ?_
            refine j_iconst (v := (-1)) dX2_run_152 (by decide +kernel) ?_
            refine j_ixor dX2_run_153 ?_
            refine j_iand dX2_run_154 ?_
            refine j_top (y0 := nI (clr s74 v)) (clr_eq _ (by omega) _ (by omega)) ?_
            refine j_callS (y' := mJ6_numberOfTrailingZeros_0f7a4) (As := [.int (nI (clr s74 v))]) (st := [.int (nI v), .int (nI u), .ref 5]) dX2_run_155 lkX2_65 okJ6_numberOfTrailingZeros_0f7a4 stJ6_numberOfTrailingZeros_0f7a4 rfl (Nat.le_of_ble_eq_true rfl) (Nat.le_of_ble_eq_true rfl) (c_ntz z _ (clr s74 v) (by omega) (clr_two s74 hs74 hpc2 v hv8) (mj_u F 5 6 (nI (clr lf u))) (mj_u (mj_u (mj_u A 6 k (nI u)) 9 k (nI s74)) 7 k (nI (min (pc s74) 3)))) (fun v155 F155 A155 hq155 => ?_)
            obtain ⟨rfl, rfl, w, rfl, hw8, hbw⟩ := hq155
            have hcs := clr_sub hs74 hv8 hbw
            have huw : u ≠ w := fun e => hub (by rw [e]; exact hcs.2)
            have hvw : v ≠ w := fun e => hcs.1 e.symm
            refine j_callV (y' := mX2_foldIntoTwo) (As := [.int (nI u), .int (nI v), .int (nI w)]) (st := []) dX2_run_158 lkX2_72 okX2_foldIntoTwo imX2_foldIntoTwo seX2_foldIntoTwo (Nat.le_of_ble_eq_true rfl) rfl rfl rfl rfl (Nat.le_of_ble_eq_true rfl) (Nat.le_of_ble_eq_true rfl) (c_foldIntoTwo z _ _ u v w (by omega) (by omega) (by omega) (by omega) (by omega) (by omega) (mj_u F 5 6 (nI (clr lf u))) (mj_u (mj_u (mj_u A 6 k (nI u)) 9 k (nI s74)) 7 k (nI (min (pc s74) 3))) hC) (fun v158 F158 A158 hq158 => ?_)
            obtain ⟨rfl, rfl, hC, hfr⟩ := hq158
            refine j_goto (tgt := 185) dX2_run_161 (by decide) ?_
            refine j_sub [0, 1] rfl ?_
            exact L185 (mj_u F 5 6 (nI (clr lf u))) A158 (by first | exact hC | omega) en rfl (rel_step hrel hfr hs74 hu hub)
        · have hs0 := pc_pos s74 hs74 (by omega)
          obtain ⟨v, hv8, e103, hbv⟩ := hr103 hs0
          subst e103
          have huv : u ≠ v := fun e => hub (by rw [e]; exact hbv)
          refine j_aload_n dX2_run_118 rfl ?_
          refine j_iload_n dX2_run_119 rfl ?_
          refine j_iload dX2_run_120 rfl ?_
          refine j_callV (y' := mX2_foldIntoOne) (As := [.int (nI u), .int (nI v)]) (st := []) dX2_run_122 lkX2_68 okX2_foldIntoOne imX2_foldIntoOne seX2_foldIntoOne (Nat.le_of_ble_eq_true rfl) rfl rfl rfl rfl (Nat.le_of_ble_eq_true rfl) (Nat.le_of_ble_eq_true rfl) (c_foldIntoOne z _ _ u v (by omega) (by omega) (by omega) (mj_u F 5 6 (nI (clr lf u))) (mj_u (mj_u (mj_u A 6 k (nI u)) 9 k (nI s74)) 7 k (nI (min (pc s74) 3))) hC) (fun v122 F122 A122 hq122 => ?_)
          obtain ⟨rfl, rfl, hC, hfr⟩ := hq122
          refine j_goto (tgt := 185) dX2_run_125 (by decide) ?_
          refine j_sub [0, 1] rfl ?_
          exact L185 (mj_u F 5 6 (nI (clr lf u))) A122 (by first | exact hC | omega) en rfl (rel_step hrel hfr hs74 hu hub)
  refine j_iconst (v := nI 0) dX2_run_28 (by decide +kernel) ?_
  refine j_istore_n (lv' := [(0, .ref 5), (1, .ref 33), (2, .int (nI 0))]) dX2_run_29 (Nat.le_of_ble_eq_true rfl) rfl rfl ?_
  refine j_sub [0, 2] rfl ?_
  exact L30 _ 0 (2 ^ n - 1) (mj_u (mj_u (mj_u F 28 0 (nI n)) 5 3 (nI 0)) 5 6 (nI ((2 ^ n) - 1))) A5 (by first | exact hC | omega) rfl rfl (by first | exact hlf | omega) (fun q hq => absurd hq (by omega)) (by first | exact h1 | omega) (Nat.lt_succ_self _)

set_option maxHeartbeats 400000 in
set_option maxRecDepth 100000 in
theorem c_likeFirst10 (z : mj_B) (d : Nat) (T : Tg) (n : Nat) (F A : mj_S) (hC : CI T F A) (en : F 18 0 = nI n) (hn : n ≤ 8) : J (gC z) mX3_likeFirst d 0 [(0, .ref 10)] [] F A (qP F A fun _ => True) := by
  have L4 : ∀ (fuel : Nat) (bi : Int32) (u : Nat), (u ≤ n) → n - u < fuel → J (gC z) mX3_likeFirst d 4 [(0, .ref 10), (1, .int bi), (2, .int (nI u))] [] F A (qP F A fun _ => True) := by
    intro fuel
    induction fuel with
    | zero => intro bi u h1 hf; exact absurd hf (by omega)
    | succ fuel ih4 =>
      intro bi u h1 hf
      refine j_iload_n dX3_likeFirst_4 rfl ?_
      refine j_aload_n dX3_likeFirst_5 rfl ?_
      refine j_getR (r := 18) dX3_likeFirst_6 flX3_21 (Nat.le_of_ble_eq_true rfl) rfl rfl ?_
      refine j_getI dX3_likeFirst_9 flX3_43 (Nat.le_of_ble_eq_true rfl) rfl rfl ?_
      refine j_top (y0 := nI n) en ?_
      refine j_icmp_geN (tgt := 42) dX3_likeFirst_12 (by decide) (by omega) (by omega) (fun c12 => ?_) (fun c12 => ?_)
      · refine j_iload_n dX3_likeFirst_42 rfl ?_
        exact j_iret dX3_likeFirst_43 rfl rfl ⟨rfl, rfl, _, rfl, trivial⟩
      · refine j_aload_n dX3_likeFirst_15 rfl ?_
        refine j_getR (r := 12) dX3_likeFirst_16 flX3_15 (Nat.le_of_ble_eq_true rfl) rfl rfl ?_
        refine j_iload_n dX3_likeFirst_19 rfl ?_
        refine j_ialdN dX3_likeFirst_20 (Nat.le_of_ble_eq_true rfl) rfl (by omega) (by decide) ?_
        refine j_aload_n dX3_likeFirst_21 rfl ?_
        refine j_getR (r := 11) dX3_likeFirst_22 flX3_9 (Nat.le_of_ble_eq_true rfl) rfl rfl ?_
        refine j_iload_n dX3_likeFirst_25 rfl ?_
        refine j_ialdN dX3_likeFirst_26 (Nat.le_of_ble_eq_true rfl) rfl (by omega) (by decide) ?_
        refine j_icmp_ne (tgt := 36) dX3_likeFirst_27 (by decide) (fun c27 => ?_) (fun c27 => ?_)
        · refine j_iinc (v := nI (u + 1)) (lv' := [(0, .ref 10), (1, .int bi), (2, .int (nI (u + 1)))]) dX3_likeFirst_36 rfl (nI_add _ 1) (Nat.le_of_ble_eq_true rfl) rfl rfl ?_
          refine j_goto (tgt := 4) dX3_likeFirst_39 (by decide) ?_
          exact ih4 bi (u + 1) (by first | exact h1 | omega) (by omega)
        · refine j_iload_n dX3_likeFirst_30 rfl ?_
          refine j_iconst (v := nI 1) dX3_likeFirst_31 (by decide +kernel) ?_
          refine j_iload_n dX3_likeFirst_32 rfl ?_
          refine j_ishl dX3_likeFirst_33 ?_
          refine j_ior dX3_likeFirst_34 ?_
          refine j_istore_n (lv' := [(0, .ref 10), (1, .int (bi ||| ((nI 1) <<< ((nI u) &&& 31)))), (2, .int (nI u))]) dX3_likeFirst_35 (Nat.le_of_ble_eq_true rfl) rfl rfl ?_
          refine j_iinc (v := nI (u + 1)) (lv' := [(0, .ref 10), (1, .int (bi ||| ((nI 1) <<< ((nI u) &&& 31)))), (2, .int (nI (u + 1)))]) dX3_likeFirst_36 rfl (nI_add _ 1) (Nat.le_of_ble_eq_true rfl) rfl rfl ?_
          refine j_goto (tgt := 4) dX3_likeFirst_39 (by decide) ?_
          exact ih4 (bi ||| ((nI 1) <<< ((nI u) &&& 31))) (u + 1) (by first | exact h1 | omega) (by omega)
  refine j_iconst (v := nI 0) dX3_likeFirst_0 (by decide +kernel) ?_
  refine j_istore_n (lv' := [(0, .ref 10), (1, .int (nI 0))]) dX3_likeFirst_1 (Nat.le_of_ble_eq_true rfl) rfl rfl ?_
  refine j_iconst (v := nI 0) dX3_likeFirst_2 (by decide +kernel) ?_
  refine j_istore_n (lv' := [(0, .ref 10), (1, .int (nI 0)), (2, .int (nI 0))]) dX3_likeFirst_3 (Nat.le_of_ble_eq_true rfl) rfl rfl ?_
  exact L4 _ (nI 0) 0 (by first | exact h1 | omega) (Nat.lt_succ_self _)

set_option maxHeartbeats 400000 in
set_option maxRecDepth 100000 in
theorem c_takeIn10 (z : mj_B) (d : Nat) (T : Tg) (n : Nat) (x : Int32) (F A : mj_S) (hC : CI T F A) (en : F 18 0 = nI n) (hn : n ≤ 8) : J (gC z) mX3_takeIn (d + 2) 0 [(0, .ref 10), (1, .int x)] [] F A (fun v F' A' => v = none ∧ CI T F' A' ∧ F' 18 0 = nI n) := by
  refine j_iload_n dX3_takeIn_0 rfl ?_
  refine j_aload_n dX3_takeIn_1 rfl ?_
  refine j_getI dX3_takeIn_2 flX3_30 (Nat.le_of_ble_eq_true rfl) rfl rfl ?_
  refine j_icmp_ge (tgt := 66) dX3_takeIn_5 (by decide) (fun c5 => ?_) (fun c5 => ?_)
  · refine j_iload_n dX3_takeIn_66 rfl ?_
    refine j_aload_n dX3_takeIn_67 rfl ?_
    refine j_getI dX3_takeIn_68 flX3_30 (Nat.le_of_ble_eq_true rfl) rfl rfl ?_
    refine j_icmp_ne (tgt := 100) dX3_takeIn_71 (by decide) (fun c71 => ?_) (fun c71 => ?_)
    · refine j_aload_n dX3_takeIn_100 rfl ?_
      refine j_iload_n dX3_takeIn_101 rfl ?_
      refine j_putI dX3_takeIn_102 fpX3_34 (Nat.le_of_ble_eq_true rfl) rfl rfl ?_
      have hC := hC.f (k := 10) (s := 1) rfl (x)
      exact j_vret dX3_takeIn_105 rfl ⟨rfl, hC, en⟩
    · refine j_aload_n dX3_takeIn_74 rfl ?_
      refine j_dup dX3_takeIn_75 rfl ?_
      refine j_getI dX3_takeIn_76 flX3_37 (Nat.le_of_ble_eq_true rfl) rfl rfl ?_
      refine j_iconst (v := nI 1) dX3_takeIn_79 (by decide +kernel) ?_
      refine j_iadd dX3_takeIn_80 ?_
      refine j_putI dX3_takeIn_81 fpX3_37 (Nat.le_of_ble_eq_true rfl) rfl rfl ?_
      have hC := hC.f (k := 10) (s := 2) rfl ((F 10 2) + (nI 1))
      refine j_aload_n dX3_takeIn_84 rfl ?_
      refine j_dup dX3_takeIn_85 rfl ?_
      refine j_getI dX3_takeIn_86 flX3_40 (Nat.le_of_ble_eq_true rfl) rfl rfl ?_
      refine j_aload_n dX3_takeIn_89 rfl ?_
      refine j_callV (y' := mX3_likeFirst) (As := []) (st := [.int ((mj_u F 10 2 ((F 10 2) + (nI 1))) 10 3), .ref 10]) dX3_takeIn_90 lkX3_77 okX3_likeFirst imX3_likeFirst seX3_likeFirst (Nat.le_of_ble_eq_true rfl) rfl rfl rfl rfl (Nat.le_of_ble_eq_true rfl) (Nat.le_of_ble_eq_true rfl) (c_likeFirst10 z _ _ n (mj_u F 10 2 ((F 10 2) + (nI 1))) A hC en hn) (fun v90 F90 A90 hq90 => ?_)
      obtain ⟨rfl, rfl, r90, rfl, -⟩ := hq90
      refine j_iand dX3_takeIn_93 ?_
      refine j_putI dX3_takeIn_94 fpX3_40 (Nat.le_of_ble_eq_true rfl) rfl rfl ?_
      have hC := hC.f (k := 10) (s := 3) rfl (((mj_u F 10 2 ((F 10 2) + (nI 1))) 10 3) &&& r90)
      refine j_goto (tgt := 105) dX3_takeIn_97 (by decide) ?_
      exact j_vret dX3_takeIn_105 rfl ⟨rfl, hC, en⟩
  · refine j_aload_n dX3_takeIn_8 rfl ?_
    refine j_aload_n dX3_takeIn_9 rfl ?_
    refine j_getI dX3_takeIn_10 flX3_25 (Nat.le_of_ble_eq_true rfl) rfl rfl ?_
    refine j_if_eq (tgt := 20) dX3_takeIn_13 (by decide) (fun c13 => ?_) (fun c13 => ?_)
    · refine j_aload_n dX3_takeIn_20 rfl ?_
      refine j_getI dX3_takeIn_21 flX3_30 (Nat.le_of_ble_eq_true rfl) rfl rfl ?_
      refine j_putI dX3_takeIn_24 fpX3_34 (Nat.le_of_ble_eq_true rfl) rfl rfl ?_
      have hC := hC.f (k := 10) (s := 1) rfl (F 10 0)
      refine j_aload_n dX3_takeIn_27 rfl ?_
      refine j_iload_n dX3_takeIn_28 rfl ?_
      refine j_putI dX3_takeIn_29 fpX3_30 (Nat.le_of_ble_eq_true rfl) rfl rfl ?_
      have hC := hC.f (k := 10) (s := 0) rfl (x)
      refine j_aload_n dX3_takeIn_32 rfl ?_
      refine j_iconst (v := nI 1) dX3_takeIn_33 (by decide +kernel) ?_
      refine j_putI dX3_takeIn_34 fpX3_37 (Nat.le_of_ble_eq_true rfl) rfl rfl ?_
      have hC := hC.f (k := 10) (s := 2) rfl (nI 1)
      refine j_aload_n dX3_takeIn_37 rfl ?_
      refine j_iconst (v := nI 1) dX3_takeIn_38 (by decide +kernel) ?_
      refine j_aload_n dX3_takeIn_39 rfl ?_
      refine j_getR (r := 18) dX3_takeIn_40 flX3_21 (Nat.le_of_ble_eq_true rfl) rfl rfl ?_
      refine j_getI dX3_takeIn_43 flX3_43 (Nat.le_of_ble_eq_true rfl) rfl rfl ?_
      refine j_top (y0 := nI n) en ?_
      refine j_ishl dX3_takeIn_46 ?_
      refine j_iconst (v := nI 1) dX3_takeIn_47 (by decide +kernel) ?_
      refine j_isub dX3_takeIn_48 ?_
      refine j_putI dX3_takeIn_49 fpX3_40 (Nat.le_of_ble_eq_true rfl) rfl rfl ?_
      have hC := hC.f (k := 10) (s := 3) rfl (((nI 1) <<< ((nI n) &&& 31)) - (nI 1))
      refine j_aload_n dX3_takeIn_52 rfl ?_
      refine j_getR (r := 12) dX3_takeIn_53 flX3_15 (Nat.le_of_ble_eq_true rfl) rfl rfl ?_
      refine j_aload_n dX3_takeIn_56 rfl ?_
      refine j_getR (r := 11) dX3_takeIn_57 flX3_9 (Nat.le_of_ble_eq_true rfl) rfl rfl ?_
      refine j_callSN (y' := mX5_copyRow) (As := [.ref 12, .ref 11]) (st := []) dX3_takeIn_60 lnX3_73 okX5_copyRow stX5_copyRow rfl (Nat.le_of_ble_eq_true rfl) (Nat.le_of_ble_eq_true rfl) (c_copyRow z _ 12 11 8 (by decide) (Nat.le_of_ble_eq_true rfl) rfl (Nat.le_of_ble_eq_true rfl) rfl (mj_u (mj_u (mj_u (mj_u F 10 1 (F 10 0)) 10 0 x) 10 2 (nI 1)) 10 3 (((nI 1) <<< ((nI n) &&& 31)) - (nI 1))) A) (fun v60 F60 A60 hq60 => ?_)
      obtain ⟨rfl, rfl, rfl⟩ := hq60
      have hC := hC.a (k := 11) rfl (va_cpy (A 12) (A 11) 0 0 8)
      refine j_goto (tgt := 105) dX3_takeIn_63 (by decide) ?_
      exact j_vret dX3_takeIn_105 rfl ⟨rfl, hC, en⟩
    · refine j_iload_n dX3_takeIn_16 rfl ?_
      refine j_goto (tgt := 24) dX3_takeIn_17 (by decide) ?_
      refine j_putI dX3_takeIn_24 fpX3_34 (Nat.le_of_ble_eq_true rfl) rfl rfl ?_
      have hC := hC.f (k := 10) (s := 1) rfl (x)
      refine j_aload_n dX3_takeIn_27 rfl ?_
      refine j_iload_n dX3_takeIn_28 rfl ?_
      refine j_putI dX3_takeIn_29 fpX3_30 (Nat.le_of_ble_eq_true rfl) rfl rfl ?_
      have hC := hC.f (k := 10) (s := 0) rfl (x)
      refine j_aload_n dX3_takeIn_32 rfl ?_
      refine j_iconst (v := nI 1) dX3_takeIn_33 (by decide +kernel) ?_
      refine j_putI dX3_takeIn_34 fpX3_37 (Nat.le_of_ble_eq_true rfl) rfl rfl ?_
      have hC := hC.f (k := 10) (s := 2) rfl (nI 1)
      refine j_aload_n dX3_takeIn_37 rfl ?_
      refine j_iconst (v := nI 1) dX3_takeIn_38 (by decide +kernel) ?_
      refine j_aload_n dX3_takeIn_39 rfl ?_
      refine j_getR (r := 18) dX3_takeIn_40 flX3_21 (Nat.le_of_ble_eq_true rfl) rfl rfl ?_
      refine j_getI dX3_takeIn_43 flX3_43 (Nat.le_of_ble_eq_true rfl) rfl rfl ?_
      refine j_top (y0 := nI n) en ?_
      refine j_ishl dX3_takeIn_46 ?_
      refine j_iconst (v := nI 1) dX3_takeIn_47 (by decide +kernel) ?_
      refine j_isub dX3_takeIn_48 ?_
      refine j_putI dX3_takeIn_49 fpX3_40 (Nat.le_of_ble_eq_true rfl) rfl rfl ?_
      have hC := hC.f (k := 10) (s := 3) rfl (((nI 1) <<< ((nI n) &&& 31)) - (nI 1))
      refine j_aload_n dX3_takeIn_52 rfl ?_
      refine j_getR (r := 12) dX3_takeIn_53 flX3_15 (Nat.le_of_ble_eq_true rfl) rfl rfl ?_
      refine j_aload_n dX3_takeIn_56 rfl ?_
      refine j_getR (r := 11) dX3_takeIn_57 flX3_9 (Nat.le_of_ble_eq_true rfl) rfl rfl ?_
      refine j_callSN (y' := mX5_copyRow) (As := [.ref 12, .ref 11]) (st := []) dX3_takeIn_60 lnX3_73 okX5_copyRow stX5_copyRow rfl (Nat.le_of_ble_eq_true rfl) (Nat.le_of_ble_eq_true rfl) (c_copyRow z _ 12 11 8 (by decide) (Nat.le_of_ble_eq_true rfl) rfl (Nat.le_of_ble_eq_true rfl) rfl (mj_u (mj_u (mj_u (mj_u F 10 1 x) 10 0 x) 10 2 (nI 1)) 10 3 (((nI 1) <<< ((nI n) &&& 31)) - (nI 1))) A) (fun v60 F60 A60 hq60 => ?_)
      obtain ⟨rfl, rfl, rfl⟩ := hq60
      have hC := hC.a (k := 11) rfl (va_cpy (A 12) (A 11) 0 0 8)
      refine j_goto (tgt := 105) dX3_takeIn_63 (by decide) ?_
      exact j_vret dX3_takeIn_105 rfl ⟨rfl, hC, en⟩

set_option maxHeartbeats 400000 in
set_option maxRecDepth 100000 in
theorem c_tryEnd10 (z : mj_B) (d : Nat) (T : Tg) (n : Nat) (x : Int32) (F A : mj_S) (hC : CI T F A) (en : F 18 0 = nI n) (hn : n ≤ 8) : J (gC z) mX3_tryFrom (d + 3) 0 [(0, .ref 10), (1, .int (nI 8)), (2, .int x)] [] F A (fun v F' A' => v = none ∧ CI T F' A' ∧ F' 18 0 = nI n) := by
  refine j_iload_n dX3_tryFrom_0 rfl ?_
  refine j_aload_n dX3_tryFrom_1 rfl ?_
  refine j_getR (r := 18) dX3_tryFrom_2 flX3_21 (Nat.le_of_ble_eq_true rfl) rfl rfl ?_
  refine j_getI dX3_tryFrom_5 flX3_43 (Nat.le_of_ble_eq_true rfl) rfl rfl ?_
  refine j_top (y0 := nI n) en ?_
  refine j_icmp_geN (tgt := 17) dX3_tryFrom_8 (by decide) (by omega) (by omega) (fun c8 => ?_) (fun c8 => ?_)
  · refine j_aload_n dX3_tryFrom_17 rfl ?_
    refine j_iload_n dX3_tryFrom_18 rfl ?_
    refine j_callV (y' := mX3_takeIn) (As := [.int x]) (st := []) dX3_tryFrom_19 lkX3_59 okX3_takeIn imX3_takeIn seX3_takeIn (Nat.le_of_ble_eq_true rfl) rfl rfl rfl rfl (Nat.le_of_ble_eq_true rfl) (Nat.le_of_ble_eq_true rfl) (c_takeIn10 z _ _ n x F A hC en hn) (fun v19 F19 A19 hq19 => ?_)
    obtain ⟨rfl, hC, en⟩ := hq19
    exact j_vret dX3_tryFrom_22 rfl ⟨rfl, hC, en⟩
  · refine j_iload_n dX3_tryFrom_11 rfl ?_
    refine j_bipush (v := nI 8) dX3_tryFrom_12 (by decide +kernel) ?_
    refine j_icmp_ltN (tgt := 23) dX3_tryFrom_14 (by decide) (by omega) (by omega) (fun c14 => ?_) (fun c14 => ?_)
    · exfalso; omega
    · refine j_aload_n dX3_tryFrom_17 rfl ?_
      refine j_iload_n dX3_tryFrom_18 rfl ?_
      refine j_callV (y' := mX3_takeIn) (As := [.int x]) (st := []) dX3_tryFrom_19 lkX3_59 okX3_takeIn imX3_takeIn seX3_takeIn (Nat.le_of_ble_eq_true rfl) rfl rfl rfl rfl (Nat.le_of_ble_eq_true rfl) (Nat.le_of_ble_eq_true rfl) (c_takeIn10 z _ _ n x F A hC en hn) (fun v19 F19 A19 hq19 => ?_)
      obtain ⟨rfl, hC, en⟩ := hq19
      exact j_vret dX3_tryFrom_22 rfl ⟨rfl, hC, en⟩

set_option maxHeartbeats 400000 in
set_option maxRecDepth 100000 in
theorem c_tryStep10 (z : mj_B) (d : Nat) (T : Tg) (n : Nat) (u : Nat) (hu : u < 8) (x : Int32) (F A : mj_S) (ih : ∀ (x : Int32) (F A : mj_S), CI T F A → F 18 0 = nI n → J (gC z) mX3_tryFrom (d + 2) 0 [(0, .ref 10), (1, .int (nI (u + 1))), (2, .int x)] [] F A (fun v F' A' => v = none ∧ CI T F' A' ∧ F' 18 0 = nI n)) (hC : CI T F A) (en : F 18 0 = nI n) (hn : n ≤ 8) : J (gC z) mX3_tryFrom (d + 3) 0 [(0, .ref 10), (1, .int (nI u)), (2, .int x)] [] F A (fun v F' A' => v = none ∧ CI T F' A' ∧ F' 18 0 = nI n) := by
  refine j_iload_n dX3_tryFrom_0 rfl ?_
  refine j_aload_n dX3_tryFrom_1 rfl ?_
  refine j_getR (r := 18) dX3_tryFrom_2 flX3_21 (Nat.le_of_ble_eq_true rfl) rfl rfl ?_
  refine j_getI dX3_tryFrom_5 flX3_43 (Nat.le_of_ble_eq_true rfl) rfl rfl ?_
  refine j_top (y0 := nI n) en ?_
  refine j_icmp_geN (tgt := 17) dX3_tryFrom_8 (by decide) (by omega) (by omega) (fun c8 => ?_) (fun c8 => ?_)
  · refine j_aload_n dX3_tryFrom_17 rfl ?_
    refine j_iload_n dX3_tryFrom_18 rfl ?_
    refine j_callV (y' := mX3_takeIn) (As := [.int x]) (st := []) dX3_tryFrom_19 lkX3_59 okX3_takeIn imX3_takeIn seX3_takeIn (Nat.le_of_ble_eq_true rfl) rfl rfl rfl rfl (Nat.le_of_ble_eq_true rfl) (Nat.le_of_ble_eq_true rfl) (c_takeIn10 z _ _ n x F A hC en hn) (fun v19 F19 A19 hq19 => ?_)
    obtain ⟨rfl, hC, en⟩ := hq19
    exact j_vret dX3_tryFrom_22 rfl ⟨rfl, hC, en⟩
  · refine j_iload_n dX3_tryFrom_11 rfl ?_
    refine j_bipush (v := nI 8) dX3_tryFrom_12 (by decide +kernel) ?_
    refine j_icmp_ltN (tgt := 23) dX3_tryFrom_14 (by decide) (by omega) (by omega) (fun c14 => ?_) (fun c14 => ?_)
    · refine j_aload_n dX3_tryFrom_23 rfl ?_
      refine j_getR (r := 18) dX3_tryFrom_24 flX3_21 (Nat.le_of_ble_eq_true rfl) rfl rfl ?_
      refine j_iload_n dX3_tryFrom_27 rfl ?_
      refine j_callV (y' := mX4_matesBelow) (As := [.int (nI u)]) (st := []) dX3_tryFrom_28 lkX3_63 okX4_matesBelow imX4_matesBelow seX4_matesBelow (Nat.le_of_ble_eq_true rfl) rfl rfl rfl rfl (Nat.le_of_ble_eq_true rfl) (Nat.le_of_ble_eq_true rfl) (c_matesBelow18 z _ _ u (by omega) F A hC) (fun v28 F28 A28 hq28 => ?_)
      obtain ⟨rfl, rfl, r28, rfl, hr28⟩ := hq28
      refine j_istore_n (lv' := [(0, .ref 10), (1, .int (nI u)), (2, .int x), (3, .int r28)]) dX3_tryFrom_31 (Nat.le_of_ble_eq_true rfl) rfl rfl ?_
      have L35 : ∀ (fuel : Nat) (i : Nat) (F A : mj_S), (CI T F A) → (F 18 0 = nI n) → (i ≤ 4) → 4 - i < fuel → J (gC z) mX3_tryFrom (d + 3) 35 [(0, .ref 10), (1, .int (nI u)), (2, .int x), (3, .int r28), (4, .int (nI i))] [] F A (fun v F' A' => v = none ∧ CI T F' A' ∧ F' 18 0 = nI n) := by
        intro fuel
        induction fuel with
        | zero => intro i F A hC en h1 hf; exact absurd hf (by omega)
        | succ fuel ih35 =>
          intro i F A hC en h1 hf
          refine j_iload dX3_tryFrom_35 rfl ?_
          refine j_aload_n dX3_tryFrom_37 rfl ?_
          refine j_getR (r := 18) dX3_tryFrom_38 flX3_21 (Nat.le_of_ble_eq_true rfl) rfl rfl ?_
          refine j_getR (r := 19) dX3_tryFrom_41 flX3_66 (Nat.le_of_ble_eq_true rfl) rfl rfl ?_
          refine j_iload_n dX3_tryFrom_44 rfl ?_
          refine j_ialdN dX3_tryFrom_45 (Nat.le_of_ble_eq_true rfl) rfl (by omega) (by decide) ?_
          obtain ⟨t1, ht1, et1⟩ := (hC.2.2.2.1 18 n18).2 u (by omega)
          refine j_top (y0 := nI t1) et1 ?_
          refine j_icmp_geN (tgt := 109) dX3_tryFrom_46 (by decide) (by omega) (by omega) (fun c46 => ?_) (fun c46 => ?_)
          · exact j_vret dX3_tryFrom_109 rfl ⟨rfl, hC, en⟩
          · refine j_iload_n dX3_tryFrom_49 rfl ?_
            refine j_aload_n dX3_tryFrom_50 rfl ?_
            refine j_getR (r := 18) dX3_tryFrom_51 flX3_21 (Nat.le_of_ble_eq_true rfl) rfl rfl ?_
            refine j_iload_n dX3_tryFrom_54 rfl ?_
            refine j_iload dX3_tryFrom_55 rfl ?_
            refine j_iload_n dX3_tryFrom_57 rfl ?_
            refine j_aload_n dX3_tryFrom_58 rfl ?_
            refine j_getR (r := 12) dX3_tryFrom_59 flX3_15 (Nat.le_of_ble_eq_true rfl) rfl rfl ?_
            refine j_callV (y' := mX4_costBeside) (As := [.int (nI u), .int (nI i), .int r28, .ref 12]) (st := [.int x]) dX3_tryFrom_62 lkX3_69 okX4_costBeside imX4_costBeside seX4_costBeside (Nat.le_of_ble_eq_true rfl) rfl rfl rfl rfl (Nat.le_of_ble_eq_true rfl) (Nat.le_of_ble_eq_true rfl) (c_costBeside18_12 z _ _ u i (by omega) (by omega) r28 hr28 F A hC) (fun v62 F62 A62 hq62 => ?_)
            obtain ⟨rfl, rfl, r62, rfl, -⟩ := hq62
            refine j_iadd dX3_tryFrom_65 ?_
            refine j_istore (lv' := [(0, .ref 10), (1, .int (nI u)), (2, .int x), (3, .int r28), (4, .int (nI i)), (5, .int (x + r62))]) dX3_tryFrom_66 (Nat.le_of_ble_eq_true rfl) rfl rfl ?_
            refine j_iload dX3_tryFrom_68 rfl ?_
            refine j_aload_n dX3_tryFrom_70 rfl ?_
            refine j_getR (r := 13) dX3_tryFrom_71 flX3_18 (Nat.le_of_ble_eq_true rfl) rfl rfl ?_
            refine j_iload_n dX3_tryFrom_74 rfl ?_
            refine j_iconst (v := nI 1) dX3_tryFrom_75 (by decide +kernel) ?_
            refine j_iaddN dX3_tryFrom_76 ?_
            refine j_ialdN dX3_tryFrom_77 (Nat.le_of_ble_eq_true rfl) rfl (by omega) (by decide) ?_
            refine j_iadd dX3_tryFrom_78 ?_
            refine j_aload_n dX3_tryFrom_79 rfl ?_
            refine j_getI dX3_tryFrom_80 flX3_34 (Nat.le_of_ble_eq_true rfl) rfl rfl ?_
            refine j_icmp_ge (tgt := 103) dX3_tryFrom_83 (by decide) (fun c83 => ?_) (fun c83 => ?_)
            · refine j_iinc (v := nI (i + 1)) (lv' := [(0, .ref 10), (1, .int (nI u)), (2, .int x), (3, .int r28), (4, .int (nI (i + 1))), (5, .int (x + r62))]) dX3_tryFrom_103 rfl (nI_add _ 1) (Nat.le_of_ble_eq_true rfl) rfl rfl ?_
              refine j_goto (tgt := 35) dX3_tryFrom_106 (by decide) ?_
              refine j_sub [0, 1, 2, 3, 4] rfl ?_
              exact ih35 (i + 1) F A (by first | exact hC | omega) (by first | exact en | omega) (by first | exact h1 | omega) (by omega)
            · refine j_aload_n dX3_tryFrom_86 rfl ?_
              refine j_getR (r := 12) dX3_tryFrom_87 flX3_15 (Nat.le_of_ble_eq_true rfl) rfl rfl ?_
              refine j_iload_n dX3_tryFrom_90 rfl ?_
              refine j_iload dX3_tryFrom_91 rfl ?_
              refine j_iastN dX3_tryFrom_93 (Nat.le_of_ble_eq_true rfl) rfl (by omega) (by decide) ?_
              have hC := hC.c12 u (t := i) (by omega)
              refine j_aload_n dX3_tryFrom_94 rfl ?_
              refine j_iload_n dX3_tryFrom_95 rfl ?_
              refine j_iconst (v := nI 1) dX3_tryFrom_96 (by decide +kernel) ?_
              refine j_iaddN dX3_tryFrom_97 ?_
              refine j_iload dX3_tryFrom_98 rfl ?_
              refine j_callV (y' := mX3_tryFrom) (As := [.int (nI (u + 1)), .int (x + r62)]) (st := []) dX3_tryFrom_100 lkX3_55 okX3_tryFrom imX3_tryFrom seX3_tryFrom (Nat.le_of_ble_eq_true rfl) rfl rfl rfl rfl (Nat.le_of_ble_eq_true rfl) (Nat.le_of_ble_eq_true rfl) (ih (x + r62) F (mj_u A 12 u (nI i)) hC en) (fun v100 F100 A100 hq100 => ?_)
              obtain ⟨rfl, hC, en⟩ := hq100
              refine j_iinc (v := nI (i + 1)) (lv' := [(0, .ref 10), (1, .int (nI u)), (2, .int x), (3, .int r28), (4, .int (nI (i + 1))), (5, .int (x + r62))]) dX3_tryFrom_103 rfl (nI_add _ 1) (Nat.le_of_ble_eq_true rfl) rfl rfl ?_
              refine j_goto (tgt := 35) dX3_tryFrom_106 (by decide) ?_
              refine j_sub [0, 1, 2, 3, 4] rfl ?_
              exact ih35 (i + 1) F100 A100 (by first | exact hC | omega) (by first | exact en | omega) (by first | exact h1 | omega) (by omega)
      refine j_iconst (v := nI 0) dX3_tryFrom_32 (by decide +kernel) ?_
      refine j_istore (lv' := [(0, .ref 10), (1, .int (nI u)), (2, .int x), (3, .int r28), (4, .int (nI 0))]) dX3_tryFrom_33 (Nat.le_of_ble_eq_true rfl) rfl rfl ?_
      exact L35 _ 0 F A (by first | exact hC | omega) (by first | exact en | omega) (by first | exact h1 | omega) (Nat.lt_succ_self _)
    · exfalso; omega

theorem c_tryFrom10 (z : mj_B) (T : Tg) (n : Nat) (hn : n ≤ 8) : ∀ (k d u : Nat), u + k = 8 → ∀ (x : Int32) (F A : mj_S), CI T F A → F 18 0 = nI n → J (gC z) mX3_tryFrom (d + k + 3) 0 [(0, .ref 10), (1, .int (nI u)), (2, .int x)] [] F A (fun v F' A' => v = none ∧ CI T F' A' ∧ F' 18 0 = nI n)
  | 0, d, u, h, x, F, A, hC, en => by
    have e : u = 8 := by omega
    subst e
    exact c_tryEnd10 z d T n x F A hC en hn
  | k + 1, d, u, h, x, F, A, hC, en => by
    refine c_tryStep10 z (d + (k + 1)) T n u (by omega) x F A (fun x F A hC en => ?_) hC en hn
    exact c_tryFrom10 z T n hn k d (u + 1) (by omega) x F A hC en

set_option maxHeartbeats 400000 in
set_option maxRecDepth 100000 in
theorem c_runS10 (z : mj_B) (d : Nat) (T : Tg) (F A : mj_S) (hC : CI T F A) : J (gC z) mX3_run (d + 12) 0 [(0, .ref 10)] [] F A (fun v F' A' => v = none ∧ CI T F' A') := by
  obtain ⟨n, hn, en⟩ := (hC.2.2.2.1 18 n18).1
  have L45 : ∀ (fuel : Nat) (x : Int32) (kk : Nat) (F A : mj_S), (CI T F A) → (F 18 0 = nI n) → (x + 1 = nI kk) → (kk ≤ n) → kk < fuel → J (gC z) mX3_run (d + 12) 45 [(0, .ref 10), (1, .int x)] [] F A (fun v F' A' => v = none ∧ CI T F' A') := by
    intro fuel
    induction fuel with
    | zero => intro x kk F A hC en hx h1 hf; exact absurd hf (by omega)
    | succ fuel ih45 =>
      intro x kk F A hC en hx h1 hf
      refine j_iload_n dX3_run_45 rfl ?_
      refine j_if_lt (tgt := 81) dX3_run_46 (by decide) (fun c46 => ?_) (fun c46 => ?_)
      · refine j_aload_n dX3_run_81 rfl ?_
        refine j_iconst (v := nI 0) dX3_run_82 (by decide +kernel) ?_
        refine j_iconst (v := nI 0) dX3_run_83 (by decide +kernel) ?_
        refine j_callV (y' := mX3_tryFrom) (As := [.int (nI 0), .int (nI 0)]) (st := []) dX3_run_84 lkX3_55 okX3_tryFrom imX3_tryFrom seX3_tryFrom (Nat.le_of_ble_eq_true rfl) rfl rfl rfl rfl (Nat.le_of_ble_eq_true rfl) (Nat.le_of_ble_eq_true rfl) (c_tryFrom10 z _ n hn 8 d 0 (by omega) (nI 0) F A hC en) (fun v84 F84 A84 hq84 => ?_)
        obtain ⟨rfl, hC, en⟩ := hq84
        exact j_vret dX3_run_87 rfl ⟨rfl, hC⟩
      · have hk0 : 0 < kk := Nat.pos_of_ne_zero (fun e => by rw [e] at hx; exact c46 (dn0 hx))
        obtain rfl : x = nI (kk - 1) := dn1 hx hk0
        refine j_aload_n dX3_run_49 rfl ?_
        refine j_getR (r := 13) dX3_run_50 flX3_18 (Nat.le_of_ble_eq_true rfl) rfl rfl ?_
        refine j_iload_n dX3_run_53 rfl ?_
        refine j_aload_n dX3_run_54 rfl ?_
        refine j_getR (r := 13) dX3_run_55 flX3_18 (Nat.le_of_ble_eq_true rfl) rfl rfl ?_
        refine j_iload_n dX3_run_58 rfl ?_
        refine j_iconst (v := nI 1) dX3_run_59 (by decide +kernel) ?_
        refine j_iaddN dX3_run_60 ?_
        refine j_ialdN dX3_run_61 (Nat.le_of_ble_eq_true rfl) rfl (by omega) (by decide) ?_
        refine j_aload_n dX3_run_62 rfl ?_
        refine j_getR (r := 18) dX3_run_63 flX3_21 (Nat.le_of_ble_eq_true rfl) rfl rfl ?_
        refine j_iload_n dX3_run_66 rfl ?_
        refine j_callV (y' := mX4_leastCost) (As := [.int (nI (kk - 1))]) (st := [.int (A 13 (kk - 1 + 1)), .int (nI (kk - 1)), .ref 13]) dX3_run_67 lkX3_48 okX4_leastCost imX4_leastCost seX4_leastCost (Nat.le_of_ble_eq_true rfl) rfl rfl rfl rfl (Nat.le_of_ble_eq_true rfl) (Nat.le_of_ble_eq_true rfl) (c_leastCost18 z _ _ (kk - 1) (by omega) F A hC) (fun v67 F67 A67 hq67 => ?_)
        obtain ⟨rfl, rfl, r67, rfl, hr67⟩ := hq67
        refine j_iadd dX3_run_70 ?_
        refine j_callSN (y' := mX5_capped) (As := [.int ((A 13 (kk - 1 + 1)) + r67)]) (st := [.int (nI (kk - 1)), .ref 13]) dX3_run_71 lnX3_52 okX5_capped stX5_capped rfl (Nat.le_of_ble_eq_true rfl) (Nat.le_of_ble_eq_true rfl) (c_capped z _ ((A 13 (kk - 1 + 1)) + r67) F A) (fun v71 F71 A71 hq71 => ?_)
        obtain ⟨rfl, rfl, r71, rfl, hr71⟩ := hq71
        refine j_iastN dX3_run_74 (Nat.le_of_ble_eq_true rfl) rfl (by omega) (by decide) ?_
        have hC := hC.u (k := 13) rfl (kk - 1) r71
        refine j_iinc (v := nI (kk - 1) + Int32.ofInt (-1)) (lv' := [(0, .ref 10), (1, .int (nI (kk - 1) + Int32.ofInt (-1)))]) dX3_run_75 rfl rfl (Nat.le_of_ble_eq_true rfl) rfl rfl ?_
        refine j_goto (tgt := 45) dX3_run_78 (by decide) ?_
        exact ih45 (nI (kk - 1) + Int32.ofInt (-1)) (kk - 1) F (mj_u A 13 (kk - 1) r71) (by first | exact hC | omega) (by first | exact en | omega) (dn2 _) (by first | exact h1 | omega) (by omega)
  refine j_aload_n dX3_run_0 rfl ?_
  refine j_ldc dX3_run_1 kcX3_29 ?_
  refine j_putI dX3_run_3 fpX3_30 (Nat.le_of_ble_eq_true rfl) rfl rfl ?_
  have hC := hC.f (k := 10) (s := 0) rfl (1000000)
  refine j_aload_n dX3_run_6 rfl ?_
  refine j_ldc dX3_run_7 kcX3_29 ?_
  refine j_putI dX3_run_9 fpX3_34 (Nat.le_of_ble_eq_true rfl) rfl rfl ?_
  have hC := hC.f (k := 10) (s := 1) rfl (1000000)
  refine j_aload_n dX3_run_12 rfl ?_
  refine j_iconst (v := nI 0) dX3_run_13 (by decide +kernel) ?_
  refine j_putI dX3_run_14 fpX3_37 (Nat.le_of_ble_eq_true rfl) rfl rfl ?_
  have hC := hC.f (k := 10) (s := 2) rfl (nI 0)
  refine j_aload_n dX3_run_17 rfl ?_
  refine j_iconst (v := nI 0) dX3_run_18 (by decide +kernel) ?_
  refine j_putI dX3_run_19 fpX3_40 (Nat.le_of_ble_eq_true rfl) rfl rfl ?_
  have hC := hC.f (k := 10) (s := 3) rfl (nI 0)
  refine j_aload_n dX3_run_22 rfl ?_
  refine j_getR (r := 13) dX3_run_23 flX3_18 (Nat.le_of_ble_eq_true rfl) rfl rfl ?_
  refine j_aload_n dX3_run_26 rfl ?_
  refine j_getR (r := 18) dX3_run_27 flX3_21 (Nat.le_of_ble_eq_true rfl) rfl rfl ?_
  refine j_getI dX3_run_30 flX3_43 (Nat.le_of_ble_eq_true rfl) rfl rfl ?_
  refine j_top (y0 := nI n) en ?_
  refine j_iconst (v := nI 0) dX3_run_33 (by decide +kernel) ?_
  refine j_iastN dX3_run_34 (Nat.le_of_ble_eq_true rfl) rfl (by omega) (by decide) ?_
  have hC := hC.u (k := 13) rfl n (nI 0)
  refine j_aload_n dX3_run_35 rfl ?_
  refine j_getR (r := 18) dX3_run_36 flX3_21 (Nat.le_of_ble_eq_true rfl) rfl rfl ?_
  refine j_getI dX3_run_39 flX3_43 (Nat.le_of_ble_eq_true rfl) rfl rfl ?_
  refine j_top (y0 := nI n) en ?_
  refine j_iconst (v := nI 1) dX3_run_42 (by decide +kernel) ?_
  refine j_isub dX3_run_43 ?_
  refine j_top (y0 := (nI n) - (nI 1)) rfl ?_
  refine j_istore_n (lv' := [(0, .ref 10), (1, .int ((nI n) - (nI 1)))]) dX3_run_44 (Nat.le_of_ble_eq_true rfl) rfl rfl ?_
  exact L45 _ ((nI n) - (nI 1)) n (mj_u (mj_u (mj_u (mj_u F 10 0 1000000) 10 1 1000000) 10 2 (nI 0)) 10 3 (nI 0)) (mj_u A 13 n (nI 0)) (by first | exact hC | omega) (by first | exact en | omega) (dn4 n) (by first | exact h1 | omega) (Nat.lt_succ_self _)

set_option maxHeartbeats 400000 in
set_option maxRecDepth 100000 in
theorem c_likeFirst14 (z : mj_B) (d : Nat) (T : Tg) (n : Nat) (F A : mj_S) (hC : CI T F A) (en : F 23 0 = nI n) (hn : n ≤ 8) : J (gC z) mX3_likeFirst d 0 [(0, .ref 14)] [] F A (qP F A fun _ => True) := by
  have L4 : ∀ (fuel : Nat) (bi : Int32) (u : Nat), (u ≤ n) → n - u < fuel → J (gC z) mX3_likeFirst d 4 [(0, .ref 14), (1, .int bi), (2, .int (nI u))] [] F A (qP F A fun _ => True) := by
    intro fuel
    induction fuel with
    | zero => intro bi u h1 hf; exact absurd hf (by omega)
    | succ fuel ih4 =>
      intro bi u h1 hf
      refine j_iload_n dX3_likeFirst_4 rfl ?_
      refine j_aload_n dX3_likeFirst_5 rfl ?_
      refine j_getR (r := 23) dX3_likeFirst_6 flX3_21 (Nat.le_of_ble_eq_true rfl) rfl rfl ?_
      refine j_getI dX3_likeFirst_9 flX3_43 (Nat.le_of_ble_eq_true rfl) rfl rfl ?_
      refine j_top (y0 := nI n) en ?_
      refine j_icmp_geN (tgt := 42) dX3_likeFirst_12 (by decide) (by omega) (by omega) (fun c12 => ?_) (fun c12 => ?_)
      · refine j_iload_n dX3_likeFirst_42 rfl ?_
        exact j_iret dX3_likeFirst_43 rfl rfl ⟨rfl, rfl, _, rfl, trivial⟩
      · refine j_aload_n dX3_likeFirst_15 rfl ?_
        refine j_getR (r := 16) dX3_likeFirst_16 flX3_15 (Nat.le_of_ble_eq_true rfl) rfl rfl ?_
        refine j_iload_n dX3_likeFirst_19 rfl ?_
        refine j_ialdN dX3_likeFirst_20 (Nat.le_of_ble_eq_true rfl) rfl (by omega) (by decide) ?_
        refine j_aload_n dX3_likeFirst_21 rfl ?_
        refine j_getR (r := 15) dX3_likeFirst_22 flX3_9 (Nat.le_of_ble_eq_true rfl) rfl rfl ?_
        refine j_iload_n dX3_likeFirst_25 rfl ?_
        refine j_ialdN dX3_likeFirst_26 (Nat.le_of_ble_eq_true rfl) rfl (by omega) (by decide) ?_
        refine j_icmp_ne (tgt := 36) dX3_likeFirst_27 (by decide) (fun c27 => ?_) (fun c27 => ?_)
        · refine j_iinc (v := nI (u + 1)) (lv' := [(0, .ref 14), (1, .int bi), (2, .int (nI (u + 1)))]) dX3_likeFirst_36 rfl (nI_add _ 1) (Nat.le_of_ble_eq_true rfl) rfl rfl ?_
          refine j_goto (tgt := 4) dX3_likeFirst_39 (by decide) ?_
          exact ih4 bi (u + 1) (by first | exact h1 | omega) (by omega)
        · refine j_iload_n dX3_likeFirst_30 rfl ?_
          refine j_iconst (v := nI 1) dX3_likeFirst_31 (by decide +kernel) ?_
          refine j_iload_n dX3_likeFirst_32 rfl ?_
          refine j_ishl dX3_likeFirst_33 ?_
          refine j_ior dX3_likeFirst_34 ?_
          refine j_istore_n (lv' := [(0, .ref 14), (1, .int (bi ||| ((nI 1) <<< ((nI u) &&& 31)))), (2, .int (nI u))]) dX3_likeFirst_35 (Nat.le_of_ble_eq_true rfl) rfl rfl ?_
          refine j_iinc (v := nI (u + 1)) (lv' := [(0, .ref 14), (1, .int (bi ||| ((nI 1) <<< ((nI u) &&& 31)))), (2, .int (nI (u + 1)))]) dX3_likeFirst_36 rfl (nI_add _ 1) (Nat.le_of_ble_eq_true rfl) rfl rfl ?_
          refine j_goto (tgt := 4) dX3_likeFirst_39 (by decide) ?_
          exact ih4 (bi ||| ((nI 1) <<< ((nI u) &&& 31))) (u + 1) (by first | exact h1 | omega) (by omega)
  refine j_iconst (v := nI 0) dX3_likeFirst_0 (by decide +kernel) ?_
  refine j_istore_n (lv' := [(0, .ref 14), (1, .int (nI 0))]) dX3_likeFirst_1 (Nat.le_of_ble_eq_true rfl) rfl rfl ?_
  refine j_iconst (v := nI 0) dX3_likeFirst_2 (by decide +kernel) ?_
  refine j_istore_n (lv' := [(0, .ref 14), (1, .int (nI 0)), (2, .int (nI 0))]) dX3_likeFirst_3 (Nat.le_of_ble_eq_true rfl) rfl rfl ?_
  exact L4 _ (nI 0) 0 (by first | exact h1 | omega) (Nat.lt_succ_self _)

set_option maxHeartbeats 400000 in
set_option maxRecDepth 100000 in
theorem c_takeIn14 (z : mj_B) (d : Nat) (T : Tg) (n : Nat) (x : Int32) (F A : mj_S) (hC : CI T F A) (en : F 23 0 = nI n) (hn : n ≤ 8) : J (gC z) mX3_takeIn (d + 2) 0 [(0, .ref 14), (1, .int x)] [] F A (fun v F' A' => v = none ∧ CI T F' A' ∧ F' 23 0 = nI n) := by
  refine j_iload_n dX3_takeIn_0 rfl ?_
  refine j_aload_n dX3_takeIn_1 rfl ?_
  refine j_getI dX3_takeIn_2 flX3_30 (Nat.le_of_ble_eq_true rfl) rfl rfl ?_
  refine j_icmp_ge (tgt := 66) dX3_takeIn_5 (by decide) (fun c5 => ?_) (fun c5 => ?_)
  · refine j_iload_n dX3_takeIn_66 rfl ?_
    refine j_aload_n dX3_takeIn_67 rfl ?_
    refine j_getI dX3_takeIn_68 flX3_30 (Nat.le_of_ble_eq_true rfl) rfl rfl ?_
    refine j_icmp_ne (tgt := 100) dX3_takeIn_71 (by decide) (fun c71 => ?_) (fun c71 => ?_)
    · refine j_aload_n dX3_takeIn_100 rfl ?_
      refine j_iload_n dX3_takeIn_101 rfl ?_
      refine j_putI dX3_takeIn_102 fpX3_34 (Nat.le_of_ble_eq_true rfl) rfl rfl ?_
      have hC := hC.f (k := 14) (s := 1) rfl (x)
      exact j_vret dX3_takeIn_105 rfl ⟨rfl, hC, en⟩
    · refine j_aload_n dX3_takeIn_74 rfl ?_
      refine j_dup dX3_takeIn_75 rfl ?_
      refine j_getI dX3_takeIn_76 flX3_37 (Nat.le_of_ble_eq_true rfl) rfl rfl ?_
      refine j_iconst (v := nI 1) dX3_takeIn_79 (by decide +kernel) ?_
      refine j_iadd dX3_takeIn_80 ?_
      refine j_putI dX3_takeIn_81 fpX3_37 (Nat.le_of_ble_eq_true rfl) rfl rfl ?_
      have hC := hC.f (k := 14) (s := 2) rfl ((F 14 2) + (nI 1))
      refine j_aload_n dX3_takeIn_84 rfl ?_
      refine j_dup dX3_takeIn_85 rfl ?_
      refine j_getI dX3_takeIn_86 flX3_40 (Nat.le_of_ble_eq_true rfl) rfl rfl ?_
      refine j_aload_n dX3_takeIn_89 rfl ?_
      refine j_callV (y' := mX3_likeFirst) (As := []) (st := [.int ((mj_u F 14 2 ((F 14 2) + (nI 1))) 14 3), .ref 14]) dX3_takeIn_90 lkX3_77 okX3_likeFirst imX3_likeFirst seX3_likeFirst (Nat.le_of_ble_eq_true rfl) rfl rfl rfl rfl (Nat.le_of_ble_eq_true rfl) (Nat.le_of_ble_eq_true rfl) (c_likeFirst14 z _ _ n (mj_u F 14 2 ((F 14 2) + (nI 1))) A hC en hn) (fun v90 F90 A90 hq90 => ?_)
      obtain ⟨rfl, rfl, r90, rfl, -⟩ := hq90
      refine j_iand dX3_takeIn_93 ?_
      refine j_putI dX3_takeIn_94 fpX3_40 (Nat.le_of_ble_eq_true rfl) rfl rfl ?_
      have hC := hC.f (k := 14) (s := 3) rfl (((mj_u F 14 2 ((F 14 2) + (nI 1))) 14 3) &&& r90)
      refine j_goto (tgt := 105) dX3_takeIn_97 (by decide) ?_
      exact j_vret dX3_takeIn_105 rfl ⟨rfl, hC, en⟩
  · refine j_aload_n dX3_takeIn_8 rfl ?_
    refine j_aload_n dX3_takeIn_9 rfl ?_
    refine j_getI dX3_takeIn_10 flX3_25 (Nat.le_of_ble_eq_true rfl) rfl rfl ?_
    refine j_if_eq (tgt := 20) dX3_takeIn_13 (by decide) (fun c13 => ?_) (fun c13 => ?_)
    · refine j_aload_n dX3_takeIn_20 rfl ?_
      refine j_getI dX3_takeIn_21 flX3_30 (Nat.le_of_ble_eq_true rfl) rfl rfl ?_
      refine j_putI dX3_takeIn_24 fpX3_34 (Nat.le_of_ble_eq_true rfl) rfl rfl ?_
      have hC := hC.f (k := 14) (s := 1) rfl (F 14 0)
      refine j_aload_n dX3_takeIn_27 rfl ?_
      refine j_iload_n dX3_takeIn_28 rfl ?_
      refine j_putI dX3_takeIn_29 fpX3_30 (Nat.le_of_ble_eq_true rfl) rfl rfl ?_
      have hC := hC.f (k := 14) (s := 0) rfl (x)
      refine j_aload_n dX3_takeIn_32 rfl ?_
      refine j_iconst (v := nI 1) dX3_takeIn_33 (by decide +kernel) ?_
      refine j_putI dX3_takeIn_34 fpX3_37 (Nat.le_of_ble_eq_true rfl) rfl rfl ?_
      have hC := hC.f (k := 14) (s := 2) rfl (nI 1)
      refine j_aload_n dX3_takeIn_37 rfl ?_
      refine j_iconst (v := nI 1) dX3_takeIn_38 (by decide +kernel) ?_
      refine j_aload_n dX3_takeIn_39 rfl ?_
      refine j_getR (r := 23) dX3_takeIn_40 flX3_21 (Nat.le_of_ble_eq_true rfl) rfl rfl ?_
      refine j_getI dX3_takeIn_43 flX3_43 (Nat.le_of_ble_eq_true rfl) rfl rfl ?_
      refine j_top (y0 := nI n) en ?_
      refine j_ishl dX3_takeIn_46 ?_
      refine j_iconst (v := nI 1) dX3_takeIn_47 (by decide +kernel) ?_
      refine j_isub dX3_takeIn_48 ?_
      refine j_putI dX3_takeIn_49 fpX3_40 (Nat.le_of_ble_eq_true rfl) rfl rfl ?_
      have hC := hC.f (k := 14) (s := 3) rfl (((nI 1) <<< ((nI n) &&& 31)) - (nI 1))
      refine j_aload_n dX3_takeIn_52 rfl ?_
      refine j_getR (r := 16) dX3_takeIn_53 flX3_15 (Nat.le_of_ble_eq_true rfl) rfl rfl ?_
      refine j_aload_n dX3_takeIn_56 rfl ?_
      refine j_getR (r := 15) dX3_takeIn_57 flX3_9 (Nat.le_of_ble_eq_true rfl) rfl rfl ?_
      refine j_callSN (y' := mX5_copyRow) (As := [.ref 16, .ref 15]) (st := []) dX3_takeIn_60 lnX3_73 okX5_copyRow stX5_copyRow rfl (Nat.le_of_ble_eq_true rfl) (Nat.le_of_ble_eq_true rfl) (c_copyRow z _ 16 15 8 (by decide) (Nat.le_of_ble_eq_true rfl) rfl (Nat.le_of_ble_eq_true rfl) rfl (mj_u (mj_u (mj_u (mj_u F 14 1 (F 14 0)) 14 0 x) 14 2 (nI 1)) 14 3 (((nI 1) <<< ((nI n) &&& 31)) - (nI 1))) A) (fun v60 F60 A60 hq60 => ?_)
      obtain ⟨rfl, rfl, rfl⟩ := hq60
      have hC := hC.a (k := 15) rfl (va_cpy (A 16) (A 15) 0 0 8)
      refine j_goto (tgt := 105) dX3_takeIn_63 (by decide) ?_
      exact j_vret dX3_takeIn_105 rfl ⟨rfl, hC, en⟩
    · refine j_iload_n dX3_takeIn_16 rfl ?_
      refine j_goto (tgt := 24) dX3_takeIn_17 (by decide) ?_
      refine j_putI dX3_takeIn_24 fpX3_34 (Nat.le_of_ble_eq_true rfl) rfl rfl ?_
      have hC := hC.f (k := 14) (s := 1) rfl (x)
      refine j_aload_n dX3_takeIn_27 rfl ?_
      refine j_iload_n dX3_takeIn_28 rfl ?_
      refine j_putI dX3_takeIn_29 fpX3_30 (Nat.le_of_ble_eq_true rfl) rfl rfl ?_
      have hC := hC.f (k := 14) (s := 0) rfl (x)
      refine j_aload_n dX3_takeIn_32 rfl ?_
      refine j_iconst (v := nI 1) dX3_takeIn_33 (by decide +kernel) ?_
      refine j_putI dX3_takeIn_34 fpX3_37 (Nat.le_of_ble_eq_true rfl) rfl rfl ?_
      have hC := hC.f (k := 14) (s := 2) rfl (nI 1)
      refine j_aload_n dX3_takeIn_37 rfl ?_
      refine j_iconst (v := nI 1) dX3_takeIn_38 (by decide +kernel) ?_
      refine j_aload_n dX3_takeIn_39 rfl ?_
      refine j_getR (r := 23) dX3_takeIn_40 flX3_21 (Nat.le_of_ble_eq_true rfl) rfl rfl ?_
      refine j_getI dX3_takeIn_43 flX3_43 (Nat.le_of_ble_eq_true rfl) rfl rfl ?_
      refine j_top (y0 := nI n) en ?_
      refine j_ishl dX3_takeIn_46 ?_
      refine j_iconst (v := nI 1) dX3_takeIn_47 (by decide +kernel) ?_
      refine j_isub dX3_takeIn_48 ?_
      refine j_putI dX3_takeIn_49 fpX3_40 (Nat.le_of_ble_eq_true rfl) rfl rfl ?_
      have hC := hC.f (k := 14) (s := 3) rfl (((nI 1) <<< ((nI n) &&& 31)) - (nI 1))
      refine j_aload_n dX3_takeIn_52 rfl ?_
      refine j_getR (r := 16) dX3_takeIn_53 flX3_15 (Nat.le_of_ble_eq_true rfl) rfl rfl ?_
      refine j_aload_n dX3_takeIn_56 rfl ?_
      refine j_getR (r := 15) dX3_takeIn_57 flX3_9 (Nat.le_of_ble_eq_true rfl) rfl rfl ?_
      refine j_callSN (y' := mX5_copyRow) (As := [.ref 16, .ref 15]) (st := []) dX3_takeIn_60 lnX3_73 okX5_copyRow stX5_copyRow rfl (Nat.le_of_ble_eq_true rfl) (Nat.le_of_ble_eq_true rfl) (c_copyRow z _ 16 15 8 (by decide) (Nat.le_of_ble_eq_true rfl) rfl (Nat.le_of_ble_eq_true rfl) rfl (mj_u (mj_u (mj_u (mj_u F 14 1 x) 14 0 x) 14 2 (nI 1)) 14 3 (((nI 1) <<< ((nI n) &&& 31)) - (nI 1))) A) (fun v60 F60 A60 hq60 => ?_)
      obtain ⟨rfl, rfl, rfl⟩ := hq60
      have hC := hC.a (k := 15) rfl (va_cpy (A 16) (A 15) 0 0 8)
      refine j_goto (tgt := 105) dX3_takeIn_63 (by decide) ?_
      exact j_vret dX3_takeIn_105 rfl ⟨rfl, hC, en⟩

set_option maxHeartbeats 400000 in
set_option maxRecDepth 100000 in
theorem c_tryEnd14 (z : mj_B) (d : Nat) (T : Tg) (n : Nat) (x : Int32) (F A : mj_S) (hC : CI T F A) (en : F 23 0 = nI n) (hn : n ≤ 8) : J (gC z) mX3_tryFrom (d + 3) 0 [(0, .ref 14), (1, .int (nI 8)), (2, .int x)] [] F A (fun v F' A' => v = none ∧ CI T F' A' ∧ F' 23 0 = nI n) := by
  refine j_iload_n dX3_tryFrom_0 rfl ?_
  refine j_aload_n dX3_tryFrom_1 rfl ?_
  refine j_getR (r := 23) dX3_tryFrom_2 flX3_21 (Nat.le_of_ble_eq_true rfl) rfl rfl ?_
  refine j_getI dX3_tryFrom_5 flX3_43 (Nat.le_of_ble_eq_true rfl) rfl rfl ?_
  refine j_top (y0 := nI n) en ?_
  refine j_icmp_geN (tgt := 17) dX3_tryFrom_8 (by decide) (by omega) (by omega) (fun c8 => ?_) (fun c8 => ?_)
  · refine j_aload_n dX3_tryFrom_17 rfl ?_
    refine j_iload_n dX3_tryFrom_18 rfl ?_
    refine j_callV (y' := mX3_takeIn) (As := [.int x]) (st := []) dX3_tryFrom_19 lkX3_59 okX3_takeIn imX3_takeIn seX3_takeIn (Nat.le_of_ble_eq_true rfl) rfl rfl rfl rfl (Nat.le_of_ble_eq_true rfl) (Nat.le_of_ble_eq_true rfl) (c_takeIn14 z _ _ n x F A hC en hn) (fun v19 F19 A19 hq19 => ?_)
    obtain ⟨rfl, hC, en⟩ := hq19
    exact j_vret dX3_tryFrom_22 rfl ⟨rfl, hC, en⟩
  · refine j_iload_n dX3_tryFrom_11 rfl ?_
    refine j_bipush (v := nI 8) dX3_tryFrom_12 (by decide +kernel) ?_
    refine j_icmp_ltN (tgt := 23) dX3_tryFrom_14 (by decide) (by omega) (by omega) (fun c14 => ?_) (fun c14 => ?_)
    · exfalso; omega
    · refine j_aload_n dX3_tryFrom_17 rfl ?_
      refine j_iload_n dX3_tryFrom_18 rfl ?_
      refine j_callV (y' := mX3_takeIn) (As := [.int x]) (st := []) dX3_tryFrom_19 lkX3_59 okX3_takeIn imX3_takeIn seX3_takeIn (Nat.le_of_ble_eq_true rfl) rfl rfl rfl rfl (Nat.le_of_ble_eq_true rfl) (Nat.le_of_ble_eq_true rfl) (c_takeIn14 z _ _ n x F A hC en hn) (fun v19 F19 A19 hq19 => ?_)
      obtain ⟨rfl, hC, en⟩ := hq19
      exact j_vret dX3_tryFrom_22 rfl ⟨rfl, hC, en⟩

set_option maxHeartbeats 400000 in
set_option maxRecDepth 100000 in
theorem c_tryStep14 (z : mj_B) (d : Nat) (T : Tg) (n : Nat) (u : Nat) (hu : u < 8) (x : Int32) (F A : mj_S) (ih : ∀ (x : Int32) (F A : mj_S), CI T F A → F 23 0 = nI n → J (gC z) mX3_tryFrom (d + 2) 0 [(0, .ref 14), (1, .int (nI (u + 1))), (2, .int x)] [] F A (fun v F' A' => v = none ∧ CI T F' A' ∧ F' 23 0 = nI n)) (hC : CI T F A) (en : F 23 0 = nI n) (hn : n ≤ 8) : J (gC z) mX3_tryFrom (d + 3) 0 [(0, .ref 14), (1, .int (nI u)), (2, .int x)] [] F A (fun v F' A' => v = none ∧ CI T F' A' ∧ F' 23 0 = nI n) := by
  refine j_iload_n dX3_tryFrom_0 rfl ?_
  refine j_aload_n dX3_tryFrom_1 rfl ?_
  refine j_getR (r := 23) dX3_tryFrom_2 flX3_21 (Nat.le_of_ble_eq_true rfl) rfl rfl ?_
  refine j_getI dX3_tryFrom_5 flX3_43 (Nat.le_of_ble_eq_true rfl) rfl rfl ?_
  refine j_top (y0 := nI n) en ?_
  refine j_icmp_geN (tgt := 17) dX3_tryFrom_8 (by decide) (by omega) (by omega) (fun c8 => ?_) (fun c8 => ?_)
  · refine j_aload_n dX3_tryFrom_17 rfl ?_
    refine j_iload_n dX3_tryFrom_18 rfl ?_
    refine j_callV (y' := mX3_takeIn) (As := [.int x]) (st := []) dX3_tryFrom_19 lkX3_59 okX3_takeIn imX3_takeIn seX3_takeIn (Nat.le_of_ble_eq_true rfl) rfl rfl rfl rfl (Nat.le_of_ble_eq_true rfl) (Nat.le_of_ble_eq_true rfl) (c_takeIn14 z _ _ n x F A hC en hn) (fun v19 F19 A19 hq19 => ?_)
    obtain ⟨rfl, hC, en⟩ := hq19
    exact j_vret dX3_tryFrom_22 rfl ⟨rfl, hC, en⟩
  · refine j_iload_n dX3_tryFrom_11 rfl ?_
    refine j_bipush (v := nI 8) dX3_tryFrom_12 (by decide +kernel) ?_
    refine j_icmp_ltN (tgt := 23) dX3_tryFrom_14 (by decide) (by omega) (by omega) (fun c14 => ?_) (fun c14 => ?_)
    · refine j_aload_n dX3_tryFrom_23 rfl ?_
      refine j_getR (r := 23) dX3_tryFrom_24 flX3_21 (Nat.le_of_ble_eq_true rfl) rfl rfl ?_
      refine j_iload_n dX3_tryFrom_27 rfl ?_
      refine j_callV (y' := mX4_matesBelow) (As := [.int (nI u)]) (st := []) dX3_tryFrom_28 lkX3_63 okX4_matesBelow imX4_matesBelow seX4_matesBelow (Nat.le_of_ble_eq_true rfl) rfl rfl rfl rfl (Nat.le_of_ble_eq_true rfl) (Nat.le_of_ble_eq_true rfl) (c_matesBelow23 z _ _ u (by omega) F A hC) (fun v28 F28 A28 hq28 => ?_)
      obtain ⟨rfl, rfl, r28, rfl, hr28⟩ := hq28
      refine j_istore_n (lv' := [(0, .ref 14), (1, .int (nI u)), (2, .int x), (3, .int r28)]) dX3_tryFrom_31 (Nat.le_of_ble_eq_true rfl) rfl rfl ?_
      have L35 : ∀ (fuel : Nat) (i : Nat) (F A : mj_S), (CI T F A) → (F 23 0 = nI n) → (i ≤ 4) → 4 - i < fuel → J (gC z) mX3_tryFrom (d + 3) 35 [(0, .ref 14), (1, .int (nI u)), (2, .int x), (3, .int r28), (4, .int (nI i))] [] F A (fun v F' A' => v = none ∧ CI T F' A' ∧ F' 23 0 = nI n) := by
        intro fuel
        induction fuel with
        | zero => intro i F A hC en h1 hf; exact absurd hf (by omega)
        | succ fuel ih35 =>
          intro i F A hC en h1 hf
          refine j_iload dX3_tryFrom_35 rfl ?_
          refine j_aload_n dX3_tryFrom_37 rfl ?_
          refine j_getR (r := 23) dX3_tryFrom_38 flX3_21 (Nat.le_of_ble_eq_true rfl) rfl rfl ?_
          refine j_getR (r := 24) dX3_tryFrom_41 flX3_66 (Nat.le_of_ble_eq_true rfl) rfl rfl ?_
          refine j_iload_n dX3_tryFrom_44 rfl ?_
          refine j_ialdN dX3_tryFrom_45 (Nat.le_of_ble_eq_true rfl) rfl (by omega) (by decide) ?_
          obtain ⟨t1, ht1, et1⟩ := (hC.2.2.2.1 23 n23).2 u (by omega)
          refine j_top (y0 := nI t1) et1 ?_
          refine j_icmp_geN (tgt := 109) dX3_tryFrom_46 (by decide) (by omega) (by omega) (fun c46 => ?_) (fun c46 => ?_)
          · exact j_vret dX3_tryFrom_109 rfl ⟨rfl, hC, en⟩
          · refine j_iload_n dX3_tryFrom_49 rfl ?_
            refine j_aload_n dX3_tryFrom_50 rfl ?_
            refine j_getR (r := 23) dX3_tryFrom_51 flX3_21 (Nat.le_of_ble_eq_true rfl) rfl rfl ?_
            refine j_iload_n dX3_tryFrom_54 rfl ?_
            refine j_iload dX3_tryFrom_55 rfl ?_
            refine j_iload_n dX3_tryFrom_57 rfl ?_
            refine j_aload_n dX3_tryFrom_58 rfl ?_
            refine j_getR (r := 16) dX3_tryFrom_59 flX3_15 (Nat.le_of_ble_eq_true rfl) rfl rfl ?_
            refine j_callV (y' := mX4_costBeside) (As := [.int (nI u), .int (nI i), .int r28, .ref 16]) (st := [.int x]) dX3_tryFrom_62 lkX3_69 okX4_costBeside imX4_costBeside seX4_costBeside (Nat.le_of_ble_eq_true rfl) rfl rfl rfl rfl (Nat.le_of_ble_eq_true rfl) (Nat.le_of_ble_eq_true rfl) (c_costBeside23_16 z _ _ u i (by omega) (by omega) r28 hr28 F A hC) (fun v62 F62 A62 hq62 => ?_)
            obtain ⟨rfl, rfl, r62, rfl, -⟩ := hq62
            refine j_iadd dX3_tryFrom_65 ?_
            refine j_istore (lv' := [(0, .ref 14), (1, .int (nI u)), (2, .int x), (3, .int r28), (4, .int (nI i)), (5, .int (x + r62))]) dX3_tryFrom_66 (Nat.le_of_ble_eq_true rfl) rfl rfl ?_
            refine j_iload dX3_tryFrom_68 rfl ?_
            refine j_aload_n dX3_tryFrom_70 rfl ?_
            refine j_getR (r := 17) dX3_tryFrom_71 flX3_18 (Nat.le_of_ble_eq_true rfl) rfl rfl ?_
            refine j_iload_n dX3_tryFrom_74 rfl ?_
            refine j_iconst (v := nI 1) dX3_tryFrom_75 (by decide +kernel) ?_
            refine j_iaddN dX3_tryFrom_76 ?_
            refine j_ialdN dX3_tryFrom_77 (Nat.le_of_ble_eq_true rfl) rfl (by omega) (by decide) ?_
            refine j_iadd dX3_tryFrom_78 ?_
            refine j_aload_n dX3_tryFrom_79 rfl ?_
            refine j_getI dX3_tryFrom_80 flX3_34 (Nat.le_of_ble_eq_true rfl) rfl rfl ?_
            refine j_icmp_ge (tgt := 103) dX3_tryFrom_83 (by decide) (fun c83 => ?_) (fun c83 => ?_)
            · refine j_iinc (v := nI (i + 1)) (lv' := [(0, .ref 14), (1, .int (nI u)), (2, .int x), (3, .int r28), (4, .int (nI (i + 1))), (5, .int (x + r62))]) dX3_tryFrom_103 rfl (nI_add _ 1) (Nat.le_of_ble_eq_true rfl) rfl rfl ?_
              refine j_goto (tgt := 35) dX3_tryFrom_106 (by decide) ?_
              refine j_sub [0, 1, 2, 3, 4] rfl ?_
              exact ih35 (i + 1) F A (by first | exact hC | omega) (by first | exact en | omega) (by first | exact h1 | omega) (by omega)
            · refine j_aload_n dX3_tryFrom_86 rfl ?_
              refine j_getR (r := 16) dX3_tryFrom_87 flX3_15 (Nat.le_of_ble_eq_true rfl) rfl rfl ?_
              refine j_iload_n dX3_tryFrom_90 rfl ?_
              refine j_iload dX3_tryFrom_91 rfl ?_
              refine j_iastN dX3_tryFrom_93 (Nat.le_of_ble_eq_true rfl) rfl (by omega) (by decide) ?_
              have hC := hC.c16 u (t := i) (by omega)
              refine j_aload_n dX3_tryFrom_94 rfl ?_
              refine j_iload_n dX3_tryFrom_95 rfl ?_
              refine j_iconst (v := nI 1) dX3_tryFrom_96 (by decide +kernel) ?_
              refine j_iaddN dX3_tryFrom_97 ?_
              refine j_iload dX3_tryFrom_98 rfl ?_
              refine j_callV (y' := mX3_tryFrom) (As := [.int (nI (u + 1)), .int (x + r62)]) (st := []) dX3_tryFrom_100 lkX3_55 okX3_tryFrom imX3_tryFrom seX3_tryFrom (Nat.le_of_ble_eq_true rfl) rfl rfl rfl rfl (Nat.le_of_ble_eq_true rfl) (Nat.le_of_ble_eq_true rfl) (ih (x + r62) F (mj_u A 16 u (nI i)) hC en) (fun v100 F100 A100 hq100 => ?_)
              obtain ⟨rfl, hC, en⟩ := hq100
              refine j_iinc (v := nI (i + 1)) (lv' := [(0, .ref 14), (1, .int (nI u)), (2, .int x), (3, .int r28), (4, .int (nI (i + 1))), (5, .int (x + r62))]) dX3_tryFrom_103 rfl (nI_add _ 1) (Nat.le_of_ble_eq_true rfl) rfl rfl ?_
              refine j_goto (tgt := 35) dX3_tryFrom_106 (by decide) ?_
              refine j_sub [0, 1, 2, 3, 4] rfl ?_
              exact ih35 (i + 1) F100 A100 (by first | exact hC | omega) (by first | exact en | omega) (by first | exact h1 | omega) (by omega)
      refine j_iconst (v := nI 0) dX3_tryFrom_32 (by decide +kernel) ?_
      refine j_istore (lv' := [(0, .ref 14), (1, .int (nI u)), (2, .int x), (3, .int r28), (4, .int (nI 0))]) dX3_tryFrom_33 (Nat.le_of_ble_eq_true rfl) rfl rfl ?_
      exact L35 _ 0 F A (by first | exact hC | omega) (by first | exact en | omega) (by first | exact h1 | omega) (Nat.lt_succ_self _)
    · exfalso; omega

theorem c_tryFrom14 (z : mj_B) (T : Tg) (n : Nat) (hn : n ≤ 8) : ∀ (k d u : Nat), u + k = 8 → ∀ (x : Int32) (F A : mj_S), CI T F A → F 23 0 = nI n → J (gC z) mX3_tryFrom (d + k + 3) 0 [(0, .ref 14), (1, .int (nI u)), (2, .int x)] [] F A (fun v F' A' => v = none ∧ CI T F' A' ∧ F' 23 0 = nI n)
  | 0, d, u, h, x, F, A, hC, en => by
    have e : u = 8 := by omega
    subst e
    exact c_tryEnd14 z d T n x F A hC en hn
  | k + 1, d, u, h, x, F, A, hC, en => by
    refine c_tryStep14 z (d + (k + 1)) T n u (by omega) x F A (fun x F A hC en => ?_) hC en hn
    exact c_tryFrom14 z T n hn k d (u + 1) (by omega) x F A hC en

set_option maxHeartbeats 400000 in
set_option maxRecDepth 100000 in
theorem c_runS14 (z : mj_B) (d : Nat) (T : Tg) (F A : mj_S) (hC : CI T F A) : J (gC z) mX3_run (d + 12) 0 [(0, .ref 14)] [] F A (fun v F' A' => v = none ∧ CI T F' A') := by
  obtain ⟨n, hn, en⟩ := (hC.2.2.2.1 23 n23).1
  have L45 : ∀ (fuel : Nat) (x : Int32) (kk : Nat) (F A : mj_S), (CI T F A) → (F 23 0 = nI n) → (x + 1 = nI kk) → (kk ≤ n) → kk < fuel → J (gC z) mX3_run (d + 12) 45 [(0, .ref 14), (1, .int x)] [] F A (fun v F' A' => v = none ∧ CI T F' A') := by
    intro fuel
    induction fuel with
    | zero => intro x kk F A hC en hx h1 hf; exact absurd hf (by omega)
    | succ fuel ih45 =>
      intro x kk F A hC en hx h1 hf
      refine j_iload_n dX3_run_45 rfl ?_
      refine j_if_lt (tgt := 81) dX3_run_46 (by decide) (fun c46 => ?_) (fun c46 => ?_)
      · refine j_aload_n dX3_run_81 rfl ?_
        refine j_iconst (v := nI 0) dX3_run_82 (by decide +kernel) ?_
        refine j_iconst (v := nI 0) dX3_run_83 (by decide +kernel) ?_
        refine j_callV (y' := mX3_tryFrom) (As := [.int (nI 0), .int (nI 0)]) (st := []) dX3_run_84 lkX3_55 okX3_tryFrom imX3_tryFrom seX3_tryFrom (Nat.le_of_ble_eq_true rfl) rfl rfl rfl rfl (Nat.le_of_ble_eq_true rfl) (Nat.le_of_ble_eq_true rfl) (c_tryFrom14 z _ n hn 8 d 0 (by omega) (nI 0) F A hC en) (fun v84 F84 A84 hq84 => ?_)
        obtain ⟨rfl, hC, en⟩ := hq84
        exact j_vret dX3_run_87 rfl ⟨rfl, hC⟩
      · have hk0 : 0 < kk := Nat.pos_of_ne_zero (fun e => by rw [e] at hx; exact c46 (dn0 hx))
        obtain rfl : x = nI (kk - 1) := dn1 hx hk0
        refine j_aload_n dX3_run_49 rfl ?_
        refine j_getR (r := 17) dX3_run_50 flX3_18 (Nat.le_of_ble_eq_true rfl) rfl rfl ?_
        refine j_iload_n dX3_run_53 rfl ?_
        refine j_aload_n dX3_run_54 rfl ?_
        refine j_getR (r := 17) dX3_run_55 flX3_18 (Nat.le_of_ble_eq_true rfl) rfl rfl ?_
        refine j_iload_n dX3_run_58 rfl ?_
        refine j_iconst (v := nI 1) dX3_run_59 (by decide +kernel) ?_
        refine j_iaddN dX3_run_60 ?_
        refine j_ialdN dX3_run_61 (Nat.le_of_ble_eq_true rfl) rfl (by omega) (by decide) ?_
        refine j_aload_n dX3_run_62 rfl ?_
        refine j_getR (r := 23) dX3_run_63 flX3_21 (Nat.le_of_ble_eq_true rfl) rfl rfl ?_
        refine j_iload_n dX3_run_66 rfl ?_
        refine j_callV (y' := mX4_leastCost) (As := [.int (nI (kk - 1))]) (st := [.int (A 17 (kk - 1 + 1)), .int (nI (kk - 1)), .ref 17]) dX3_run_67 lkX3_48 okX4_leastCost imX4_leastCost seX4_leastCost (Nat.le_of_ble_eq_true rfl) rfl rfl rfl rfl (Nat.le_of_ble_eq_true rfl) (Nat.le_of_ble_eq_true rfl) (c_leastCost23 z _ _ (kk - 1) (by omega) F A hC) (fun v67 F67 A67 hq67 => ?_)
        obtain ⟨rfl, rfl, r67, rfl, hr67⟩ := hq67
        refine j_iadd dX3_run_70 ?_
        refine j_callSN (y' := mX5_capped) (As := [.int ((A 17 (kk - 1 + 1)) + r67)]) (st := [.int (nI (kk - 1)), .ref 17]) dX3_run_71 lnX3_52 okX5_capped stX5_capped rfl (Nat.le_of_ble_eq_true rfl) (Nat.le_of_ble_eq_true rfl) (c_capped z _ ((A 17 (kk - 1 + 1)) + r67) F A) (fun v71 F71 A71 hq71 => ?_)
        obtain ⟨rfl, rfl, r71, rfl, hr71⟩ := hq71
        refine j_iastN dX3_run_74 (Nat.le_of_ble_eq_true rfl) rfl (by omega) (by decide) ?_
        have hC := hC.u (k := 17) rfl (kk - 1) r71
        refine j_iinc (v := nI (kk - 1) + Int32.ofInt (-1)) (lv' := [(0, .ref 14), (1, .int (nI (kk - 1) + Int32.ofInt (-1)))]) dX3_run_75 rfl rfl (Nat.le_of_ble_eq_true rfl) rfl rfl ?_
        refine j_goto (tgt := 45) dX3_run_78 (by decide) ?_
        exact ih45 (nI (kk - 1) + Int32.ofInt (-1)) (kk - 1) F (mj_u A 17 (kk - 1) r71) (by first | exact hC | omega) (by first | exact en | omega) (dn2 _) (by first | exact h1 | omega) (by omega)
  refine j_aload_n dX3_run_0 rfl ?_
  refine j_ldc dX3_run_1 kcX3_29 ?_
  refine j_putI dX3_run_3 fpX3_30 (Nat.le_of_ble_eq_true rfl) rfl rfl ?_
  have hC := hC.f (k := 14) (s := 0) rfl (1000000)
  refine j_aload_n dX3_run_6 rfl ?_
  refine j_ldc dX3_run_7 kcX3_29 ?_
  refine j_putI dX3_run_9 fpX3_34 (Nat.le_of_ble_eq_true rfl) rfl rfl ?_
  have hC := hC.f (k := 14) (s := 1) rfl (1000000)
  refine j_aload_n dX3_run_12 rfl ?_
  refine j_iconst (v := nI 0) dX3_run_13 (by decide +kernel) ?_
  refine j_putI dX3_run_14 fpX3_37 (Nat.le_of_ble_eq_true rfl) rfl rfl ?_
  have hC := hC.f (k := 14) (s := 2) rfl (nI 0)
  refine j_aload_n dX3_run_17 rfl ?_
  refine j_iconst (v := nI 0) dX3_run_18 (by decide +kernel) ?_
  refine j_putI dX3_run_19 fpX3_40 (Nat.le_of_ble_eq_true rfl) rfl rfl ?_
  have hC := hC.f (k := 14) (s := 3) rfl (nI 0)
  refine j_aload_n dX3_run_22 rfl ?_
  refine j_getR (r := 17) dX3_run_23 flX3_18 (Nat.le_of_ble_eq_true rfl) rfl rfl ?_
  refine j_aload_n dX3_run_26 rfl ?_
  refine j_getR (r := 23) dX3_run_27 flX3_21 (Nat.le_of_ble_eq_true rfl) rfl rfl ?_
  refine j_getI dX3_run_30 flX3_43 (Nat.le_of_ble_eq_true rfl) rfl rfl ?_
  refine j_top (y0 := nI n) en ?_
  refine j_iconst (v := nI 0) dX3_run_33 (by decide +kernel) ?_
  refine j_iastN dX3_run_34 (Nat.le_of_ble_eq_true rfl) rfl (by omega) (by decide) ?_
  have hC := hC.u (k := 17) rfl n (nI 0)
  refine j_aload_n dX3_run_35 rfl ?_
  refine j_getR (r := 23) dX3_run_36 flX3_21 (Nat.le_of_ble_eq_true rfl) rfl rfl ?_
  refine j_getI dX3_run_39 flX3_43 (Nat.le_of_ble_eq_true rfl) rfl rfl ?_
  refine j_top (y0 := nI n) en ?_
  refine j_iconst (v := nI 1) dX3_run_42 (by decide +kernel) ?_
  refine j_isub dX3_run_43 ?_
  refine j_top (y0 := (nI n) - (nI 1)) rfl ?_
  refine j_istore_n (lv' := [(0, .ref 14), (1, .int ((nI n) - (nI 1)))]) dX3_run_44 (Nat.le_of_ble_eq_true rfl) rfl rfl ?_
  exact L45 _ ((nI n) - (nI 1)) n (mj_u (mj_u (mj_u (mj_u F 14 0 1000000) 14 1 1000000) 14 2 (nI 0)) 14 3 (nI 0)) (mj_u A 17 n (nI 0)) (by first | exact hC | omega) (by first | exact en | omega) (dn4 n) (by first | exact h1 | omega) (Nat.lt_succ_self _)
