/-! the reference: reduceAll, goAll, and what asks them -/
theorem dn4 (n : Nat) : nI n - nI 1 + 1 = nI n := by
  rw [show nI 1 = 1 from by decide +kernel, Int32.sub_add_cancel]

set_option maxHeartbeats 400000 in
set_option maxRecDepth 100000 in
theorem m_reduceAll (z : mj_B) (d : Nat) (L : Lg) (n : Nat) (mm : Nat → Nat) (rn : Nat) (rm : Nat → Nat) (un kn : Nat) (F A : mj_S) (hM : MI L n mm rn rm un kn F A) : J (gM z) mX6_reduceAll (d + 3) 0 [(0, .ref 0)] [] F A (fun v F' A' => v = none ∧ F = F' ∧ MI L n mm rn rm un kn F A') := by
  have hM0 := hM.1.2.1
  have hM1 := hM.2.1.2.1
  have hM2 := hM.2.2.1.2.1
  have hM3 := hM.2.2.2.1.2
  have hM4 := hM.2.2.2.2.1.2
  have hp2 := p2_le hM1
  have L200 : ∀ (fuel : Nat) (x : Int32) (kk : Nat) (A : mj_S), (MI L n mm rn rm un kn F A) → (x + 1 = nI kk) → (kk ≤ n) → kk < fuel → J (gM z) mX6_reduceAll (d + 3) 200 [(0, .ref 0), (2, .int x)] [] F A (fun v F' A' => v = none ∧ F = F' ∧ MI L n mm rn rm un kn F A') := by
    intro fuel
    induction fuel with
    | zero => intro x kk A hM hx h6 hf; exact absurd hf (by omega)
    | succ fuel ih200 =>
      intro x kk A hM hx h6 hf
      refine j_iload_n dX6_reduceAll_200 rfl ?_
      refine j_if_lt (tgt := 236) dX6_reduceAll_201 (by decide) (fun c201 => ?_) (fun c201 => ?_)
      · exact j_vret dX6_reduceAll_236 rfl ⟨rfl, rfl, hM⟩
      · have hk0 : 0 < kk := Nat.pos_of_ne_zero (fun e => by rw [e] at hx; exact c201 (dn0 hx))
        obtain rfl : x = nI (kk - 1) := dn1 hx hk0
        refine j_aload_n dX6_reduceAll_204 rfl ?_
        refine j_getR (r := 12) dX6_reduceAll_205 flX6_43 (Nat.le_of_ble_eq_true rfl) rfl rfl ?_
        refine j_iload_n dX6_reduceAll_208 rfl ?_
        refine j_ialdN dX6_reduceAll_209 (Nat.le_of_ble_eq_true rfl) rfl (by omega) (by decide) ?_
        refine j_iconst (v := nI 3) dX6_reduceAll_210 (by decide +kernel) ?_
        refine j_icmp_ge (tgt := 230) dX6_reduceAll_211 (by decide) (fun c211 => ?_) (fun c211 => ?_)
        · refine j_iinc (v := nI (kk - 1) + Int32.ofInt (-1)) (lv' := [(0, .ref 0), (2, .int (nI (kk - 1) + Int32.ofInt (-1)))]) dX6_reduceAll_230 rfl rfl (Nat.le_of_ble_eq_true rfl) rfl rfl ?_
          refine j_goto (tgt := 200) dX6_reduceAll_233 (by decide) ?_
          exact ih200 (nI (kk - 1) + Int32.ofInt (-1)) (kk - 1) A (by first | exact hM | omega) (dn2 _) (by first | exact h6 | omega) (by omega)
        · refine j_aload_n dX6_reduceAll_214 rfl ?_
          refine j_aload_n dX6_reduceAll_215 rfl ?_
          refine j_getR (r := 11) dX6_reduceAll_216 flX6_40 (Nat.le_of_ble_eq_true rfl) rfl rfl ?_
          refine j_iload_n dX6_reduceAll_219 rfl ?_
          refine j_ialdN dX6_reduceAll_220 (Nat.le_of_ble_eq_true rfl) rfl (by omega) (by decide) ?_
          obtain ⟨t1, ht1, et1⟩ := hM.order (kk - 1) (by omega)
          refine j_top (y0 := nI t1) et1 ?_
          refine j_aload_n dX6_reduceAll_221 rfl ?_
          refine j_getR (r := 13) dX6_reduceAll_222 flX6_46 (Nat.le_of_ble_eq_true rfl) rfl rfl ?_
          refine j_iload_n dX6_reduceAll_225 rfl ?_
          refine j_ialdN dX6_reduceAll_226 (Nat.le_of_ble_eq_true rfl) rfl (by omega) (by decide) ?_
          obtain ⟨t2, ht2, et2⟩ := hM.with' (kk - 1) (by omega)
          refine j_top (y0 := nI t2) et2 ?_
          refine j_callV (y' := mX6_takeBest) (As := [.int (nI t1), .int (nI t2)]) (st := []) dX6_reduceAll_227 lkX6_218 okX6_takeBest imX6_takeBest seX6_takeBest (Nat.le_of_ble_eq_true rfl) rfl rfl rfl rfl (Nat.le_of_ble_eq_true rfl) (Nat.le_of_ble_eq_true rfl) (m_takeBest z _ _ _ _ _ _ _ _ t1 t2 (by omega) (by omega) F A hM) (fun v227 F227 A227 hq227 => ?_)
          obtain ⟨rfl, rfl, hM⟩ := hq227
          refine j_iinc (v := nI (kk - 1) + Int32.ofInt (-1)) (lv' := [(0, .ref 0), (2, .int (nI (kk - 1) + Int32.ofInt (-1)))]) dX6_reduceAll_230 rfl rfl (Nat.le_of_ble_eq_true rfl) rfl rfl ?_
          refine j_goto (tgt := 200) dX6_reduceAll_233 (by decide) ?_
          exact ih200 (nI (kk - 1) + Int32.ofInt (-1)) (kk - 1) A227 (by first | exact hM | omega) (dn2 _) (by first | exact h6 | omega) (by omega)
  have L15 : ∀ (fuel : Nat) (s : Nat) (k : Nat) (A : mj_S), (MI L n mm rn rm un kn F A) → (pc s + k = n ∧ s < 2 ^ n ∧ k ≤ n) → n - k < fuel → J (gM z) mX6_reduceAll (d + 3) 15 [(0, .ref 0), (1, .int (nI s)), (2, .int (nI k))] [] F A (fun v F' A' => v = none ∧ F = F' ∧ MI L n mm rn rm un kn F A') := by
    intro fuel
    induction fuel with
    | zero => intro s k A hM h1 hf; exact absurd hf (by omega)
    | succ fuel ih15 =>
      intro s k A hM h1 hf
      refine j_iload_n dX6_reduceAll_15 rfl ?_
      refine j_aload_n dX6_reduceAll_16 rfl ?_
      refine j_getI dX6_reduceAll_17 flX6_132 (Nat.le_of_ble_eq_true rfl) rfl rfl ?_
      refine j_top (y0 := nI n) hM.2.1.1 ?_
      refine j_icmp_geN (tgt := 193) dX6_reduceAll_20 (by decide) (by omega) (by omega) (fun c20 => ?_) (fun c20 => ?_)
      · refine j_aload_n dX6_reduceAll_193 rfl ?_
        refine j_getI dX6_reduceAll_194 flX6_132 (Nat.le_of_ble_eq_true rfl) rfl rfl ?_
        refine j_top (y0 := nI n) hM.2.1.1 ?_
        refine j_iconst (v := nI 1) dX6_reduceAll_197 (by decide +kernel) ?_
        refine j_isub dX6_reduceAll_198 ?_
        refine j_top (y0 := (nI n) - (nI 1)) rfl ?_
        refine j_istore_n (lv' := [(0, .ref 0), (1, .int (nI s)), (2, .int ((nI n) - (nI 1)))]) dX6_reduceAll_199 (Nat.le_of_ble_eq_true rfl) rfl rfl ?_
        refine j_sub [0, 2] rfl ?_
        exact L200 _ ((nI n) - (nI 1)) n A (by first | exact hM | omega) (dn4 n) (by first | exact h6 | omega) (Nat.lt_succ_self _)
      · have hs0 := pc_pos s (by omega) (by omega)
        refine j_aload_n dX6_reduceAll_23 rfl ?_
        refine j_iload_n dX6_reduceAll_24 rfl ?_
        refine j_callV (y' := mX6_nextOf) (As := [.int (nI s)]) (st := []) dX6_reduceAll_25 lkX6_202 okX6_nextOf imX6_nextOf seX6_nextOf (Nat.le_of_ble_eq_true rfl) rfl rfl rfl rfl (Nat.le_of_ble_eq_true rfl) (Nat.le_of_ble_eq_true rfl) (m_nextOf z _ _ _ _ _ _ _ _ s h1.2.1 hs0 F A hM) (fun v25 F25 A25 hq25 => ?_)
        obtain ⟨rfl, rfl, u, rfl, hun, hbu⟩ := hq25
        refine j_istore_n (lv' := [(0, .ref 0), (1, .int (nI s)), (2, .int (nI k)), (3, .int (nI u))]) dX6_reduceAll_28 (Nat.le_of_ble_eq_true rfl) rfl rfl ?_
        have L149 : ∀ (fuel : Nat) (v : Nat) (A : mj_S), (MI L n mm rn rm un kn F A) → (v ≤ n) → n - v < fuel → J (gM z) mX6_reduceAll (d + 3) 149 [(0, .ref 0), (1, .int (nI s)), (2, .int (nI k)), (3, .int (nI u)), (5, .int (nI v))] [] F A (fun v F' A' => v = none ∧ F = F' ∧ MI L n mm rn rm un kn F A') := by
          intro fuel
          induction fuel with
          | zero => intro v A hM h5 hf; exact absurd hf (by omega)
          | succ fuel ih149 =>
            intro v A hM h5 hf
            refine j_iload dX6_reduceAll_149 rfl ?_
            refine j_aload_n dX6_reduceAll_151 rfl ?_
            refine j_getI dX6_reduceAll_152 flX6_132 (Nat.le_of_ble_eq_true rfl) rfl rfl ?_
            refine j_top (y0 := nI n) hM.2.1.1 ?_
            refine j_icmp_geN (tgt := 179) dX6_reduceAll_155 (by decide) (by omega) (by omega) (fun c155 => ?_) (fun c155 => ?_)
            · refine j_iload_n dX6_reduceAll_179 rfl ?_
              refine j_iconst (v := nI 1) dX6_reduceAll_180 (by decide +kernel) ?_
              refine j_iload_n dX6_reduceAll_181 rfl ?_
              refine j_ishl dX6_reduceAll_182 ?_
              refine j_top (y0 := nI (2 ^ u)) (shl_1 (by omega)) ?_
              refine j_iconst (v := (-1)) dX6_reduceAll_183 (by decide +kernel) ?_
              refine j_ixor dX6_reduceAll_184 ?_
              refine j_iand dX6_reduceAll_185 ?_
              refine j_top (y0 := nI (clr s u)) (clr_eq _ (by omega) _ (by omega)) ?_
              refine j_istore_n (lv' := [(0, .ref 0), (1, .int (nI (clr s u))), (2, .int (nI k)), (3, .int (nI u)), (5, .int (nI v))]) dX6_reduceAll_186 (Nat.le_of_ble_eq_true rfl) rfl rfl ?_
              refine j_iinc (v := nI (k + 1)) (lv' := [(0, .ref 0), (1, .int (nI (clr s u))), (2, .int (nI (k + 1))), (3, .int (nI u)), (5, .int (nI v))]) dX6_reduceAll_187 rfl (nI_add _ 1) (Nat.le_of_ble_eq_true rfl) rfl rfl ?_
              refine j_goto (tgt := 15) dX6_reduceAll_190 (by decide) ?_
              refine j_sub [0, 1, 2] rfl ?_
              exact ih15 (clr s u) (k + 1) A (by first | exact hM | omega) ⟨by have := clr_pc s (by omega) u (by omega) hbu; omega, Nat.lt_of_le_of_lt (clr_le _ _) h1.2.1, by omega⟩ (by omega)
            · refine j_aload_n dX6_reduceAll_158 rfl ?_
              refine j_getR (r := 10) dX6_reduceAll_159 flX6_37 (Nat.le_of_ble_eq_true rfl) rfl rfl ?_
              refine j_iload dX6_reduceAll_162 rfl ?_
              refine j_dup2 dX6_reduceAll_164 rfl rfl ?_
              refine j_ialdN dX6_reduceAll_165 (Nat.le_of_ble_eq_true rfl) rfl (by omega) (by decide) ?_
              obtain ⟨t3, ht3, et3⟩ := hM.tied v (by omega)
              refine j_top (y0 := nI t3) et3 ?_
              refine j_iconst (v := nI 1) dX6_reduceAll_166 (by decide +kernel) ?_
              refine j_iload_n dX6_reduceAll_167 rfl ?_
              refine j_ishl dX6_reduceAll_168 ?_
              refine j_top (y0 := nI (2 ^ u)) (shl_1 (by omega)) ?_
              refine j_iconst (v := (-1)) dX6_reduceAll_169 (by decide +kernel) ?_
              refine j_ixor dX6_reduceAll_170 ?_
              refine j_iand dX6_reduceAll_171 ?_
              refine j_top (y0 := nI (clr t3 u)) (clr_eq _ (by omega) _ (by omega)) ?_
              refine j_iastN dX6_reduceAll_172 (Nat.le_of_ble_eq_true rfl) rfl (by omega) (by decide) ?_
              have hM := hM.s10 v (t := clr t3 u) (Nat.le_trans (clr_le _ _) (by omega))
              refine j_iinc (v := nI (v + 1)) (lv' := [(0, .ref 0), (1, .int (nI s)), (2, .int (nI k)), (3, .int (nI u)), (5, .int (nI (v + 1)))]) dX6_reduceAll_173 rfl (nI_add _ 1) (Nat.le_of_ble_eq_true rfl) rfl rfl ?_
              refine j_goto (tgt := 149) dX6_reduceAll_176 (by decide) ?_
              exact ih149 (v + 1) (mj_u A 10 v (nI (clr t3 u))) (by first | exact hM | omega) (by first | exact h5 | omega) (by omega)
        have L146 : ∀ (A : mj_S), (MI L n mm rn rm un kn F A) → J (gM z) mX6_reduceAll (d + 3) 146 [(0, .ref 0), (1, .int (nI s)), (2, .int (nI k)), (3, .int (nI u))] [] F A (fun v F' A' => v = none ∧ F = F' ∧ MI L n mm rn rm un kn F A') := by
          intro A hM
          refine j_iconst (v := nI 0) dX6_reduceAll_146 (by decide +kernel) ?_
          refine j_istore (lv' := [(0, .ref 0), (1, .int (nI s)), (2, .int (nI k)), (3, .int (nI u)), (5, .int (nI 0))]) dX6_reduceAll_147 (Nat.le_of_ble_eq_true rfl) rfl rfl ?_
          exact L149 _ 0 A (by first | exact hM | omega) (by first | exact h5 | omega) (Nat.lt_succ_self _)
        refine j_aload_n dX6_reduceAll_29 rfl ?_
        refine j_getR (r := 10) dX6_reduceAll_30 flX6_37 (Nat.le_of_ble_eq_true rfl) rfl rfl ?_
        refine j_iload_n dX6_reduceAll_33 rfl ?_
        refine j_ialdN dX6_reduceAll_34 (Nat.le_of_ble_eq_true rfl) rfl (by omega) (by decide) ?_
        obtain ⟨t4, ht4, et4⟩ := hM.tied u (by omega)
        refine j_top (y0 := nI t4) et4 ?_
        refine j_callS (y' := mX6_ones) (As := [.int (nI t4)]) (st := []) dX6_reduceAll_35 lkX6_182 okX6_ones stX6_ones rfl (Nat.le_of_ble_eq_true rfl) (Nat.le_of_ble_eq_true rfl) (m_ones z _ t4 (by omega) F A) (fun v35 F35 A35 hq35 => ?_)
        obtain ⟨rfl, rfl, r35, rfl, hr35⟩ := hq35
        have hp35 : r35 ≤ 8 := by rw [hr35]; exact pc_le _
        refine j_istore (lv' := [(0, .ref 0), (1, .int (nI s)), (2, .int (nI k)), (3, .int (nI u)), (4, .int (nI r35))]) dX6_reduceAll_38 (Nat.le_of_ble_eq_true rfl) rfl rfl ?_
        refine j_aload_n dX6_reduceAll_40 rfl ?_
        refine j_getR (r := 11) dX6_reduceAll_41 flX6_40 (Nat.le_of_ble_eq_true rfl) rfl rfl ?_
        refine j_iload_n dX6_reduceAll_44 rfl ?_
        refine j_iload_n dX6_reduceAll_45 rfl ?_
        refine j_iastN dX6_reduceAll_46 (Nat.le_of_ble_eq_true rfl) rfl (by omega) (by decide) ?_
        have hM := hM.s11 k (t := u) (by omega)
        refine j_aload_n dX6_reduceAll_47 rfl ?_
        refine j_getR (r := 12) dX6_reduceAll_48 flX6_43 (Nat.le_of_ble_eq_true rfl) rfl rfl ?_
        refine j_iload_n dX6_reduceAll_51 rfl ?_
        refine j_iload dX6_reduceAll_52 rfl ?_
        refine j_iconst (v := nI 3) dX6_reduceAll_54 (by decide +kernel) ?_
        have L64 : ∀ (rv : Nat), J (gM z) mX6_reduceAll (d + 3) 64 [(0, .ref 0), (1, .int (nI s)), (2, .int (nI k)), (3, .int (nI u)), (4, .int (nI r35))] [.int (nI rv), .int (nI k), .ref 12] F (mj_u A 11 k (nI u)) (fun v F' A' => v = none ∧ F = F' ∧ MI L n mm rn rm un kn F A') := by
          intro rv
          refine j_iastN dX6_reduceAll_64 (Nat.le_of_ble_eq_true rfl) rfl (by omega) (by decide) ?_
          refine j_aload_n dX6_reduceAll_65 rfl ?_
          refine j_getR (r := 13) dX6_reduceAll_66 flX6_46 (Nat.le_of_ble_eq_true rfl) rfl rfl ?_
          refine j_iload_n dX6_reduceAll_69 rfl ?_
          refine j_aload_n dX6_reduceAll_70 rfl ?_
          refine j_getR (r := 10) dX6_reduceAll_71 flX6_37 (Nat.le_of_ble_eq_true rfl) rfl rfl ?_
          refine j_iload_n dX6_reduceAll_74 rfl ?_
          refine j_ialdN dX6_reduceAll_75 (Nat.le_of_ble_eq_true rfl) rfl (by omega) (by decide) ?_
          refine j_top (y0 := nI t4) et4 ?_
          refine j_iastN dX6_reduceAll_76 (Nat.le_of_ble_eq_true rfl) rfl (by omega) (by decide) ?_
          have hM := hM.s13 k (t := t4) (by omega)
          refine j_iload dX6_reduceAll_77 rfl ?_
          refine j_iconst (v := nI 1) dX6_reduceAll_79 (by decide +kernel) ?_
          refine j_icmp_neN (tgt := 101) dX6_reduceAll_80 (by decide) (by omega) (by omega) (fun c80 => ?_) (fun c80 => ?_)
          · refine j_iload dX6_reduceAll_101 rfl ?_
            refine j_iconst (v := nI 2) dX6_reduceAll_103 (by decide +kernel) ?_
            refine j_icmp_neN (tgt := 135) dX6_reduceAll_104 (by decide) (by omega) (by omega) (fun c104 => ?_) (fun c104 => ?_)
            · refine j_iload dX6_reduceAll_135 rfl ?_
              refine j_iconst (v := nI 2) dX6_reduceAll_137 (by decide +kernel) ?_
              refine j_icmp_leN (tgt := 146) dX6_reduceAll_138 (by decide) (by omega) (by omega) (fun c138 => ?_) (fun c138 => ?_)
              · refine j_sub [0, 1, 2, 3] rfl ?_
                exact L146 (mj_u (mj_u (mj_u A 11 k (nI u)) 12 k (nI rv)) 13 k (nI t4)) (by first | exact hM | omega)
              · refine j_aload_n dX6_reduceAll_141 rfl ?_
                refine j_iload_n dX6_reduceAll_142 rfl ?_
                refine j_callV (y' := mX6_ruleThree) (As := [.int (nI u)]) (st := []) dX6_reduceAll_143 lkX6_214 okX6_ruleThree imX6_ruleThree seX6_ruleThree (Nat.le_of_ble_eq_true rfl) rfl rfl rfl rfl (Nat.le_of_ble_eq_true rfl) (Nat.le_of_ble_eq_true rfl) (m_ruleThree z _ _ _ _ _ _ _ _ u (by omega) F (mj_u (mj_u (mj_u A 11 k (nI u)) 12 k (nI rv)) 13 k (nI t4)) hM) (fun v143 F143 A143 hq143 => ?_)
                obtain ⟨rfl, rfl, hM⟩ := hq143
                refine j_sub [0, 1, 2, 3] rfl ?_
                exact L146 A143 (by first | exact hM | omega)
            · refine j_aload_n dX6_reduceAll_107 rfl ?_
              refine j_iload_n dX6_reduceAll_108 rfl ?_
              refine j_aload_n dX6_reduceAll_109 rfl ?_
              refine j_getR (r := 10) dX6_reduceAll_110 flX6_37 (Nat.le_of_ble_eq_true rfl) rfl rfl ?_
              refine j_iload_n dX6_reduceAll_113 rfl ?_
              refine j_ialdN dX6_reduceAll_114 (Nat.le_of_ble_eq_true rfl) rfl (by omega) (by decide) ?_
              refine j_top (y0 := nI t4) et4 ?_
              refine j_iconst (v := nI 0) dX6_reduceAll_115 (by decide +kernel) ?_
              refine j_callS (y' := mX6_nthOf) (As := [.int (nI t4), .int (nI 0)]) (st := [.int (nI u), .ref 0]) dX6_reduceAll_116 lkX6_205 okX6_nthOf stX6_nthOf rfl (Nat.le_of_ble_eq_true rfl) (Nat.le_of_ble_eq_true rfl) (m_nthOf z _ t4 0 (by omega) (by omega) F (mj_u (mj_u (mj_u A 11 k (nI u)) 12 k (nI rv)) 13 k (nI t4))) (fun v116 F116 A116 hq116 => ?_)
              obtain ⟨rfl, rfl, r116, rfl, hr116⟩ := hq116
              refine j_aload_n dX6_reduceAll_119 rfl ?_
              refine j_getR (r := 10) dX6_reduceAll_120 flX6_37 (Nat.le_of_ble_eq_true rfl) rfl rfl ?_
              refine j_iload_n dX6_reduceAll_123 rfl ?_
              refine j_ialdN dX6_reduceAll_124 (Nat.le_of_ble_eq_true rfl) rfl (by omega) (by decide) ?_
              refine j_top (y0 := nI t4) et4 ?_
              refine j_iconst (v := nI 1) dX6_reduceAll_125 (by decide +kernel) ?_
              refine j_callS (y' := mX6_nthOf) (As := [.int (nI t4), .int (nI 1)]) (st := [.int (nI r116), .int (nI u), .ref 0]) dX6_reduceAll_126 lkX6_205 okX6_nthOf stX6_nthOf rfl (Nat.le_of_ble_eq_true rfl) (Nat.le_of_ble_eq_true rfl) (m_nthOf z _ t4 1 (by omega) (by omega) F (mj_u (mj_u (mj_u A 11 k (nI u)) 12 k (nI rv)) 13 k (nI t4))) (fun v126 F126 A126 hq126 => ?_)
              obtain ⟨rfl, rfl, r126, rfl, hr126⟩ := hq126
              refine j_callV (y' := mX6_ruleTwo) (As := [.int (nI u), .int (nI r116), .int (nI r126)]) (st := []) dX6_reduceAll_129 lkX6_211 okX6_ruleTwo imX6_ruleTwo seX6_ruleTwo (Nat.le_of_ble_eq_true rfl) rfl rfl rfl rfl (Nat.le_of_ble_eq_true rfl) (Nat.le_of_ble_eq_true rfl) (m_ruleTwo z _ _ _ _ _ _ _ _ u r116 r126 (by omega) (by omega) (by omega) F (mj_u (mj_u (mj_u A 11 k (nI u)) 12 k (nI rv)) 13 k (nI t4)) hM) (fun v129 F129 A129 hq129 => ?_)
              obtain ⟨rfl, rfl, hM⟩ := hq129
              refine j_goto (tgt := 146) dX6_reduceAll_132 (by decide) ?_
              refine j_sub [0, 1, 2, 3] rfl ?_
              exact L146 A129 (by first | exact hM | omega)
          · refine j_aload_n dX6_reduceAll_83 rfl ?_
            refine j_iload_n dX6_reduceAll_84 rfl ?_
            refine j_aload_n dX6_reduceAll_85 rfl ?_
            refine j_getR (r := 10) dX6_reduceAll_86 flX6_37 (Nat.le_of_ble_eq_true rfl) rfl rfl ?_
            refine j_iload_n dX6_reduceAll_89 rfl ?_
            refine j_ialdN dX6_reduceAll_90 (Nat.le_of_ble_eq_true rfl) rfl (by omega) (by decide) ?_
            refine j_top (y0 := nI t4) et4 ?_
            refine j_iconst (v := nI 0) dX6_reduceAll_91 (by decide +kernel) ?_
            refine j_callS (y' := mX6_nthOf) (As := [.int (nI t4), .int (nI 0)]) (st := [.int (nI u), .ref 0]) dX6_reduceAll_92 lkX6_205 okX6_nthOf stX6_nthOf rfl (Nat.le_of_ble_eq_true rfl) (Nat.le_of_ble_eq_true rfl) (m_nthOf z _ t4 0 (by omega) (by omega) F (mj_u (mj_u (mj_u A 11 k (nI u)) 12 k (nI rv)) 13 k (nI t4))) (fun v92 F92 A92 hq92 => ?_)
            obtain ⟨rfl, rfl, r92, rfl, hr92⟩ := hq92
            refine j_callV (y' := mX6_ruleOne) (As := [.int (nI u), .int (nI r92)]) (st := []) dX6_reduceAll_95 lkX6_208 okX6_ruleOne imX6_ruleOne seX6_ruleOne (Nat.le_of_ble_eq_true rfl) rfl rfl rfl rfl (Nat.le_of_ble_eq_true rfl) (Nat.le_of_ble_eq_true rfl) (m_ruleOne z _ _ _ _ _ _ _ _ u r92 (by omega) (by omega) F (mj_u (mj_u (mj_u A 11 k (nI u)) 12 k (nI rv)) 13 k (nI t4)) hM) (fun v95 F95 A95 hq95 => ?_)
            obtain ⟨rfl, rfl, hM⟩ := hq95
            refine j_goto (tgt := 146) dX6_reduceAll_98 (by decide) ?_
            refine j_sub [0, 1, 2, 3] rfl ?_
            exact L146 A95 (by first | exact hM | omega)
        refine j_icmp_geN (tgt := 63) dX6_reduceAll_55 (by decide) (by omega) (by omega) (fun c55 => ?_) (fun c55 => ?_)
        · refine j_iconst (v := nI 3) dX6_reduceAll_63 (by decide +kernel) ?_
          exact L64 3
        · refine j_iload dX6_reduceAll_58 rfl ?_
          refine j_goto (tgt := 64) dX6_reduceAll_60 (by decide) ?_
          exact L64 r35
  refine j_aload_n dX6_reduceAll_0 rfl ?_
  refine j_callV (y' := mX6_aside) (As := []) (st := []) dX6_reduceAll_1 lkX6_199 okX6_aside imX6_aside seX6_aside (Nat.le_of_ble_eq_true rfl) rfl rfl rfl rfl (Nat.le_of_ble_eq_true rfl) (Nat.le_of_ble_eq_true rfl) (m_aside z _ _ _ _ _ _ _ _  F A hM) (fun v1 F1 A1 hq1 => ?_)
  obtain ⟨rfl, rfl, hM⟩ := hq1
  refine j_iconst (v := nI 1) dX6_reduceAll_4 (by decide +kernel) ?_
  refine j_aload_n dX6_reduceAll_5 rfl ?_
  refine j_getI dX6_reduceAll_6 flX6_132 (Nat.le_of_ble_eq_true rfl) rfl rfl ?_
  refine j_top (y0 := nI n) hM.2.1.1 ?_
  refine j_ishl dX6_reduceAll_9 ?_
  refine j_top (y0 := nI (2 ^ n)) (shl_1' (by omega)) ?_
  refine j_iconst (v := nI 1) dX6_reduceAll_10 (by decide +kernel) ?_
  refine j_isubN dX6_reduceAll_11 (by omega) ?_
  refine j_istore_n (lv' := [(0, .ref 0), (1, .int (nI ((2 ^ n) - 1)))]) dX6_reduceAll_12 (Nat.le_of_ble_eq_true rfl) rfl rfl ?_
  refine j_iconst (v := nI 0) dX6_reduceAll_13 (by decide +kernel) ?_
  refine j_istore_n (lv' := [(0, .ref 0), (1, .int (nI ((2 ^ n) - 1))), (2, .int (nI 0))]) dX6_reduceAll_14 (Nat.le_of_ble_eq_true rfl) rfl rfl ?_
  exact L15 _ ((2 ^ n) - 1) 0 A1 (by first | exact hM | omega) ⟨by have := pc_all n hM1; omega, by omega, by omega⟩ (Nat.lt_succ_self _)

set_option maxHeartbeats 400000 in
set_option maxRecDepth 100000 in
theorem m_planCost (z : mj_B) (d : Nat) (L : Lg) (n : Nat) (mm : Nat → Nat) (rn : Nat) (rm : Nat → Nat) (un kn : Nat) (F A : mj_S) (hM : MI L n mm rn rm un kn F A) : J (gM z) mX6_planCost (d + 2) 0 [(0, .ref 0)] [] F A (qP F A fun _ => True) := by
  have hM0 := hM.1.2.1
  have hM1 := hM.2.1.2.1
  have hM2 := hM.2.2.1.2.1
  have hM3 := hM.2.2.2.1.2
  have hM4 := hM.2.2.2.2.1.2
  have L4 : ∀ (fuel : Nat) (su : Int32) (u : Nat), (u ≤ n) → n - u < fuel → J (gM z) mX6_planCost (d + 2) 4 [(0, .ref 0), (1, .int su), (2, .int (nI u))] [] F A (qP F A fun _ => True) := by
    intro fuel
    induction fuel with
    | zero => intro su u h1 hf; exact absurd hf (by omega)
    | succ fuel ih4 =>
      intro su u h1 hf
      refine j_iload_n dX6_planCost_4 rfl ?_
      refine j_aload_n dX6_planCost_5 rfl ?_
      refine j_getI dX6_planCost_6 flX6_132 (Nat.le_of_ble_eq_true rfl) rfl rfl ?_
      refine j_top (y0 := nI n) hM.2.1.1 ?_
      refine j_icmp_geN (tgt := 85) dX6_planCost_9 (by decide) (by omega) (by omega) (fun c9 => ?_) (fun c9 => ?_)
      · refine j_iload_n dX6_planCost_85 rfl ?_
        exact j_iret dX6_planCost_86 rfl rfl ⟨rfl, rfl, _, rfl, trivial⟩
      · have L31 : ∀ (fuel : Nat) (su : Int32) (v : Nat), (v ≤ u) → u - v < fuel → J (gM z) mX6_planCost (d + 2) 31 [(0, .ref 0), (1, .int su), (2, .int (nI u)), (3, .int (nI v))] [] F A (qP F A fun _ => True) := by
          intro fuel
          induction fuel with
          | zero => intro su v h2 hf; exact absurd hf (by omega)
          | succ fuel ih31 =>
            intro su v h2 hf
            refine j_iload_n dX6_planCost_31 rfl ?_
            refine j_iload_n dX6_planCost_32 rfl ?_
            refine j_icmp_geN (tgt := 79) dX6_planCost_33 (by decide) (by omega) (by omega) (fun c33 => ?_) (fun c33 => ?_)
            · refine j_iinc (v := nI (u + 1)) (lv' := [(0, .ref 0), (1, .int su), (2, .int (nI (u + 1))), (3, .int (nI v))]) dX6_planCost_79 rfl (nI_add _ 1) (Nat.le_of_ble_eq_true rfl) rfl rfl ?_
              refine j_goto (tgt := 4) dX6_planCost_82 (by decide) ?_
              refine j_sub [0, 1, 2] rfl ?_
              exact ih4 su (u + 1) (by first | exact h1 | omega) (by omega)
            · refine j_iload_n dX6_planCost_36 rfl ?_
              refine j_aload_n dX6_planCost_37 rfl ?_
              refine j_iload_n dX6_planCost_38 rfl ?_
              refine j_iload_n dX6_planCost_39 rfl ?_
              refine j_callV (y' := mX6_isTied) (As := [.int (nI u), .int (nI v)]) (st := [.int su]) dX6_planCost_40 lkX6_146 okX6_isTied imX6_isTied seX6_isTied (Nat.le_of_ble_eq_true rfl) rfl rfl rfl rfl (Nat.le_of_ble_eq_true rfl) (Nat.le_of_ble_eq_true rfl) (m_isTied z _ u v (by omega) (by omega) F A) (fun v40 F40 A40 hq40 => ?_)
              obtain ⟨rfl, rfl, r40, rfl, hr40⟩ := hq40
              have hb40 : r40 ≤ 1 := by omega
              refine j_if_eqN (tgt := 67) dX6_planCost_43 (by decide) (by omega) (fun c43 => ?_) (fun c43 => ?_)
              · refine j_iconst (v := nI 0) dX6_planCost_67 (by decide +kernel) ?_
                refine j_iadd dX6_planCost_68 ?_
                refine j_callS (y' := mX6_atMost) (As := [.int (su + (nI 0))]) (st := []) dX6_planCost_69 lkX6_191 okX6_atMost stX6_atMost rfl (Nat.le_of_ble_eq_true rfl) (Nat.le_of_ble_eq_true rfl) (m_atMost z _ (su + (nI 0)) F A) (fun v69 F69 A69 hq69 => ?_)
                obtain ⟨rfl, rfl, r69, rfl, hr69⟩ := hq69
                refine j_istore_n (lv' := [(0, .ref 0), (1, .int r69), (2, .int (nI u)), (3, .int (nI v))]) dX6_planCost_72 (Nat.le_of_ble_eq_true rfl) rfl rfl ?_
                refine j_iinc (v := nI (v + 1)) (lv' := [(0, .ref 0), (1, .int r69), (2, .int (nI u)), (3, .int (nI (v + 1)))]) dX6_planCost_73 rfl (nI_add _ 1) (Nat.le_of_ble_eq_true rfl) rfl rfl ?_
                refine j_goto (tgt := 31) dX6_planCost_76 (by decide) ?_
                exact ih31 r69 (v + 1) (by first | exact h2 | omega) (by omega)
              · refine j_aload_n dX6_planCost_46 rfl ?_
                refine j_iload_n dX6_planCost_47 rfl ?_
                refine j_iload_n dX6_planCost_48 rfl ?_
                refine j_aload_n dX6_planCost_49 rfl ?_
                refine j_getR (r := 14) dX6_planCost_50 flX6_49 (Nat.le_of_ble_eq_true rfl) rfl rfl ?_
                refine j_iload_n dX6_planCost_53 rfl ?_
                refine j_ialdN dX6_planCost_54 (Nat.le_of_ble_eq_true rfl) rfl (by omega) (by decide) ?_
                obtain ⟨t1, ht1, et1⟩ := hM.takes u (by omega)
                refine j_top (y0 := nI t1) et1 ?_
                refine j_aload_n dX6_planCost_55 rfl ?_
                refine j_getR (r := 14) dX6_planCost_56 flX6_49 (Nat.le_of_ble_eq_true rfl) rfl rfl ?_
                refine j_iload_n dX6_planCost_59 rfl ?_
                refine j_ialdN dX6_planCost_60 (Nat.le_of_ble_eq_true rfl) rfl (by omega) (by decide) ?_
                obtain ⟨t2, ht2, et2⟩ := hM.takes v (by omega)
                refine j_top (y0 := nI t2) et2 ?_
                refine j_callV (y' := mX6_tieOf) (As := [.int (nI u), .int (nI v), .int (nI t1), .int (nI t2)]) (st := [.int su]) dX6_planCost_61 lkX6_162 okX6_tieOf imX6_tieOf seX6_tieOf (Nat.le_of_ble_eq_true rfl) rfl rfl rfl rfl (Nat.le_of_ble_eq_true rfl) (Nat.le_of_ble_eq_true rfl) (m_tieOf0 z _ u v t1 t2 (by omega) (by omega) (by omega) (by omega) (by omega) F A) (fun v61 F61 A61 hq61 => ?_)
                obtain ⟨rfl, rfl, r61, rfl, -⟩ := hq61
                refine j_goto (tgt := 68) dX6_planCost_64 (by decide) ?_
                refine j_iadd dX6_planCost_68 ?_
                refine j_callS (y' := mX6_atMost) (As := [.int (su + r61)]) (st := []) dX6_planCost_69 lkX6_191 okX6_atMost stX6_atMost rfl (Nat.le_of_ble_eq_true rfl) (Nat.le_of_ble_eq_true rfl) (m_atMost z _ (su + r61) F A) (fun v69 F69 A69 hq69 => ?_)
                obtain ⟨rfl, rfl, r69, rfl, hr69⟩ := hq69
                refine j_istore_n (lv' := [(0, .ref 0), (1, .int r69), (2, .int (nI u)), (3, .int (nI v))]) dX6_planCost_72 (Nat.le_of_ble_eq_true rfl) rfl rfl ?_
                refine j_iinc (v := nI (v + 1)) (lv' := [(0, .ref 0), (1, .int r69), (2, .int (nI u)), (3, .int (nI (v + 1)))]) dX6_planCost_73 rfl (nI_add _ 1) (Nat.le_of_ble_eq_true rfl) rfl rfl ?_
                refine j_goto (tgt := 31) dX6_planCost_76 (by decide) ?_
                exact ih31 r69 (v + 1) (by first | exact h2 | omega) (by omega)
        refine j_iload_n dX6_planCost_12 rfl ?_
        refine j_aload_n dX6_planCost_13 rfl ?_
        refine j_iload_n dX6_planCost_14 rfl ?_
        refine j_aload_n dX6_planCost_15 rfl ?_
        refine j_getR (r := 14) dX6_planCost_16 flX6_49 (Nat.le_of_ble_eq_true rfl) rfl rfl ?_
        refine j_iload_n dX6_planCost_19 rfl ?_
        refine j_ialdN dX6_planCost_20 (Nat.le_of_ble_eq_true rfl) rfl (by omega) (by decide) ?_
        obtain ⟨t3, ht3, et3⟩ := hM.takes u (by omega)
        refine j_top (y0 := nI t3) et3 ?_
        refine j_callV (y' := mX6_costOf) (As := [.int (nI u), .int (nI t3)]) (st := [.int su]) dX6_planCost_21 lkX6_158 okX6_costOf imX6_costOf seX6_costOf (Nat.le_of_ble_eq_true rfl) rfl rfl rfl rfl (Nat.le_of_ble_eq_true rfl) (Nat.le_of_ble_eq_true rfl) (m_costOf0 z _ u t3 (by omega) (by omega) F A) (fun v21 F21 A21 hq21 => ?_)
        obtain ⟨rfl, rfl, r21, rfl, -⟩ := hq21
        refine j_iadd dX6_planCost_24 ?_
        refine j_callS (y' := mX6_atMost) (As := [.int (su + r21)]) (st := []) dX6_planCost_25 lkX6_191 okX6_atMost stX6_atMost rfl (Nat.le_of_ble_eq_true rfl) (Nat.le_of_ble_eq_true rfl) (m_atMost z _ (su + r21) F A) (fun v25 F25 A25 hq25 => ?_)
        obtain ⟨rfl, rfl, r25, rfl, hr25⟩ := hq25
        refine j_istore_n (lv' := [(0, .ref 0), (1, .int r25), (2, .int (nI u))]) dX6_planCost_28 (Nat.le_of_ble_eq_true rfl) rfl rfl ?_
        refine j_iconst (v := nI 0) dX6_planCost_29 (by decide +kernel) ?_
        refine j_istore_n (lv' := [(0, .ref 0), (1, .int r25), (2, .int (nI u)), (3, .int (nI 0))]) dX6_planCost_30 (Nat.le_of_ble_eq_true rfl) rfl rfl ?_
        exact L31 _ r25 0 (by first | exact h2 | omega) (Nat.lt_succ_self _)
  refine j_iconst (v := nI 0) dX6_planCost_0 (by decide +kernel) ?_
  refine j_istore_n (lv' := [(0, .ref 0), (1, .int (nI 0))]) dX6_planCost_1 (Nat.le_of_ble_eq_true rfl) rfl rfl ?_
  refine j_iconst (v := nI 0) dX6_planCost_2 (by decide +kernel) ?_
  refine j_istore_n (lv' := [(0, .ref 0), (1, .int (nI 0)), (2, .int (nI 0))]) dX6_planCost_3 (Nat.le_of_ble_eq_true rfl) rfl rfl ?_
  exact L4 _ (nI 0) 0 (by first | exact h1 | omega) (Nat.lt_succ_self _)

set_option maxHeartbeats 400000 in
set_option maxRecDepth 100000 in
theorem m_turn (z : mj_B) (d : Nat) (L : Lg) (n : Nat) (mm : Nat → Nat) (rn : Nat) (rm : Nat → Nat) (un kn : Nat) (x1 x2 : Int32) (F A : mj_S) (hM : MI L n mm rn rm un kn F A) : J (gM z) mX6_turn (d + 4) 0 [(0, .ref 0), (1, .int x1), (2, .int x2)] [] F A (fun v F' A' => ∃ (x : Int32), v = some (.int x) ∧ MI L n mm rn rm un kn F' A') := by
  have hM0 := hM.1.2.1
  have hM1 := hM.2.1.2.1
  have hM2 := hM.2.2.1.2.1
  have hM3 := hM.2.2.2.1.2
  have hM4 := hM.2.2.2.2.1.2
  refine j_iload_n dX6_turn_0 rfl ?_
  refine j_i2l dX6_turn_1 rfl ?_
  refine j_lconst (v := 0) dX6_turn_2 rfl ?_
  refine j_aload_n dX6_turn_3 rfl ?_
  refine j_getI dX6_turn_4 flX6_132 (Nat.le_of_ble_eq_true rfl) rfl rfl ?_
  refine j_top (y0 := nI n) hM.2.1.1 ?_
  refine j_iconst (v := nI 1) dX6_turn_7 (by decide +kernel) ?_
  refine j_isub dX6_turn_8 ?_
  refine j_top (y0 := (nI n) - (nI 1)) rfl ?_
  refine j_i2l dX6_turn_9 rfl ?_
  refine j_callS (y' := mX6_in) (As := [.long (x1.toInt64), .long (0), .long (((nI n) - (nI 1)).toInt64)]) (st := []) dX6_turn_10 lkX6_89 okX6_in stX6_in rfl (Nat.le_of_ble_eq_true rfl) (Nat.le_of_ble_eq_true rfl) (m_in z _ x1.toInt64 0 (((nI n) - (nI 1)).toInt64) F A) (fun v10 F10 A10 hq10 => ?_)
  obtain ⟨rfl, rfl, r10, rfl, hr10⟩ := hq10
  have hb10 : r10 ≤ 1 := by omega
  refine j_if_eqN (tgt := 26) dX6_turn_13 (by decide) (by omega) (fun c13 => ?_) (fun c13 => ?_)
  · refine j_iconst (v := (-1)) dX6_turn_26 (by decide +kernel) ?_
    exact j_iret dX6_turn_27 rfl rfl ⟨_, rfl, hM⟩
  · obtain ⟨j, hj, rfl⟩ := (in_lt (by omega)).mp (hr10.resolve_right (fun h => by omega)).2
    refine j_iload_n dX6_turn_16 rfl ?_
    refine j_i2l dX6_turn_17 rfl ?_
    refine j_lconst (v := 0) dX6_turn_18 rfl ?_
    refine j_lconst (v := 1) dX6_turn_19 rfl ?_
    refine j_callS (y' := mX6_in) (As := [.long (x2.toInt64), .long (0), .long (1)]) (st := []) dX6_turn_20 lkX6_89 okX6_in stX6_in rfl (Nat.le_of_ble_eq_true rfl) (Nat.le_of_ble_eq_true rfl) (m_in z _ x2.toInt64 0 1 F A) (fun v20 F20 A20 hq20 => ?_)
    obtain ⟨rfl, rfl, r20, rfl, hr20⟩ := hq20
    have hb20 : r20 ≤ 1 := by omega
    refine j_if_neN (tgt := 28) dX6_turn_23 (by decide) (by omega) (fun c23 => ?_) (fun c23 => ?_)
    · refine j_aload_n dX6_turn_28 rfl ?_
      refine j_callV (y' := mX6_reduceAll) (As := []) (st := []) dX6_turn_29 lkX6_221 okX6_reduceAll imX6_reduceAll seX6_reduceAll (Nat.le_of_ble_eq_true rfl) rfl rfl rfl rfl (Nat.le_of_ble_eq_true rfl) (Nat.le_of_ble_eq_true rfl) (m_reduceAll z _ _ _ _ _ _ _ _  F A hM) (fun v29 F29 A29 hq29 => ?_)
      obtain ⟨rfl, rfl, hM⟩ := hq29
      refine j_iload_n dX6_turn_32 rfl ?_
      refine j_if_ne (tgt := 45) dX6_turn_33 (by decide) (fun c33 => ?_) (fun c33 => ?_)
      · refine j_aload_n dX6_turn_45 rfl ?_
        refine j_getR (r := 12) dX6_turn_46 flX6_43 (Nat.le_of_ble_eq_true rfl) rfl rfl ?_
        refine j_iload_n dX6_turn_49 rfl ?_
        refine j_ialdN dX6_turn_50 (Nat.le_of_ble_eq_true rfl) rfl (by omega) (by decide) ?_
        exact j_iret dX6_turn_51 rfl rfl ⟨_, rfl, hM⟩
      · refine j_aload_n dX6_turn_36 rfl ?_
        refine j_getR (r := 11) dX6_turn_37 flX6_40 (Nat.le_of_ble_eq_true rfl) rfl rfl ?_
        refine j_iload_n dX6_turn_40 rfl ?_
        refine j_ialdN dX6_turn_41 (Nat.le_of_ble_eq_true rfl) rfl (by omega) (by decide) ?_
        refine j_goto (tgt := 51) dX6_turn_42 (by decide) ?_
        exact j_iret dX6_turn_51 rfl rfl ⟨_, rfl, hM⟩
    · refine j_iconst (v := (-1)) dX6_turn_26 (by decide +kernel) ?_
      exact j_iret dX6_turn_27 rfl rfl ⟨_, rfl, hM⟩

set_option maxHeartbeats 400000 in
set_option maxRecDepth 100000 in
theorem m_reduced (z : mj_B) (d : Nat) (L : Lg) (n : Nat) (mm : Nat → Nat) (rn : Nat) (rm : Nat → Nat) (un kn : Nat) (x1 : Int32) (F A : mj_S) (hM : MI L n mm rn rm un kn F A) : J (gM z) mX6_reduced (d + 4) 0 [(0, .ref 0), (1, .int x1)] [] F A (fun v F' A' => ∃ (x : Int32), v = some (.int x) ∧ MI L n mm rn rm un kn F' A') := by
  have hM0 := hM.1.2.1
  have hM1 := hM.2.1.2.1
  have hM2 := hM.2.2.1.2.1
  have hM3 := hM.2.2.2.1.2
  have hM4 := hM.2.2.2.2.1.2
  refine j_aload_n dX6_reduced_0 rfl ?_
  refine j_iload_n dX6_reduced_1 rfl ?_
  refine j_callV (y' := mX6_isNode) (As := [.int x1]) (st := []) dX6_reduced_2 lkX6_141 okX6_isNode imX6_isNode seX6_isNode (Nat.le_of_ble_eq_true rfl) rfl rfl rfl rfl (Nat.le_of_ble_eq_true rfl) (Nat.le_of_ble_eq_true rfl) (m_isNode z _ _ _ _ _ _ _ _ x1 F A hM) (fun v2 F2 A2 hq2 => ?_)
  obtain ⟨rfl, rfl, r2, rfl, hr2⟩ := hq2
  have hb2 : r2 ≤ 1 := by omega
  refine j_if_neN (tgt := 10) dX6_reduced_5 (by decide) (by omega) (fun c5 => ?_) (fun c5 => ?_)
  · obtain ⟨j, hj, rfl⟩ := (hr2.resolve_right (fun h => by omega)).2
    have h8j : j < 8 := by omega
    refine j_aload_n dX6_reduced_10 rfl ?_
    refine j_callV (y' := mX6_reduceAll) (As := []) (st := []) dX6_reduced_11 lkX6_221 okX6_reduceAll imX6_reduceAll seX6_reduceAll (Nat.le_of_ble_eq_true rfl) rfl rfl rfl rfl (Nat.le_of_ble_eq_true rfl) (Nat.le_of_ble_eq_true rfl) (m_reduceAll z _ _ _ _ _ _ _ _  F A hM) (fun v11 F11 A11 hq11 => ?_)
    obtain ⟨rfl, rfl, hM⟩ := hq11
    refine j_aload_n dX6_reduced_14 rfl ?_
    refine j_getR (r := 14) dX6_reduced_15 flX6_49 (Nat.le_of_ble_eq_true rfl) rfl rfl ?_
    refine j_iload_n dX6_reduced_18 rfl ?_
    refine j_ialdN dX6_reduced_19 (Nat.le_of_ble_eq_true rfl) rfl (by omega) (by decide) ?_
    exact j_iret dX6_reduced_20 rfl rfl ⟨_, rfl, hM⟩
  · refine j_iconst (v := (-1)) dX6_reduced_8 (by decide +kernel) ?_
    exact j_iret dX6_reduced_9 rfl rfl ⟨_, rfl, hM⟩

set_option maxHeartbeats 400000 in
set_option maxRecDepth 100000 in
theorem m_plan (z : mj_B) (d : Nat) (L : Lg) (n : Nat) (mm : Nat → Nat) (rn : Nat) (rm : Nat → Nat) (un kn : Nat) (x1 : Int32) (F A : mj_S) (hM : MI L n mm rn rm un kn F A) : J (gM z) mX6_plan (d + 4) 0 [(0, .ref 0), (1, .int x1)] [] F A (fun v F' A' => ∃ (x : Int32), v = some (.int x) ∧ MI L n mm rn rm un kn F' A') := by
  have hM0 := hM.1.2.1
  have hM1 := hM.2.1.2.1
  have hM2 := hM.2.2.1.2.1
  have hM3 := hM.2.2.2.1.2
  have hM4 := hM.2.2.2.2.1.2
  have L29 : ∀ (fuel : Nat) (shn : Int32) (k : Nat) (A : mj_S), (MI L n mm rn rm un kn F A) → (k ≤ n) → n - k < fuel → J (gM z) mX6_plan (d + 4) 29 [(0, .ref 0), (2, .int shn), (3, .int (nI k))] [] F A (fun v F' A' => ∃ (x : Int32), v = some (.int x) ∧ MI L n mm rn rm un kn F' A') := by
    intro fuel
    induction fuel with
    | zero => intro shn k A hM h1 hf; exact absurd hf (by omega)
    | succ fuel ih29 =>
      intro shn k A hM h1 hf
      refine j_iload_n dX6_plan_29 rfl ?_
      refine j_aload_n dX6_plan_30 rfl ?_
      refine j_getI dX6_plan_31 flX6_132 (Nat.le_of_ble_eq_true rfl) rfl rfl ?_
      refine j_top (y0 := nI n) hM.2.1.1 ?_
      refine j_icmp_geN (tgt := 59) dX6_plan_34 (by decide) (by omega) (by omega) (fun c34 => ?_) (fun c34 => ?_)
      · refine j_iload_n dX6_plan_59 rfl ?_
        exact j_iret dX6_plan_60 rfl rfl ⟨_, rfl, hM⟩
      · refine j_aload_n dX6_plan_37 rfl ?_
        refine j_getR (r := 12) dX6_plan_38 flX6_43 (Nat.le_of_ble_eq_true rfl) rfl rfl ?_
        refine j_iload_n dX6_plan_41 rfl ?_
        refine j_ialdN dX6_plan_42 (Nat.le_of_ble_eq_true rfl) rfl (by omega) (by decide) ?_
        refine j_iconst (v := nI 3) dX6_plan_43 (by decide +kernel) ?_
        refine j_icmp_ne (tgt := 51) dX6_plan_44 (by decide) (fun c44 => ?_) (fun c44 => ?_)
        · refine j_iload_n dX6_plan_51 rfl ?_
          refine j_istore_n (lv' := [(0, .ref 0), (2, .int shn), (3, .int (nI k))]) dX6_plan_52 (Nat.le_of_ble_eq_true rfl) rfl rfl ?_
          refine j_iinc (v := nI (k + 1)) (lv' := [(0, .ref 0), (2, .int shn), (3, .int (nI (k + 1)))]) dX6_plan_53 rfl (nI_add _ 1) (Nat.le_of_ble_eq_true rfl) rfl rfl ?_
          refine j_goto (tgt := 29) dX6_plan_56 (by decide) ?_
          exact ih29 shn (k + 1) A (by first | exact hM | omega) (by first | exact h1 | omega) (by omega)
        · refine j_iconst (v := nI 0) dX6_plan_47 (by decide +kernel) ?_
          refine j_goto (tgt := 52) dX6_plan_48 (by decide) ?_
          refine j_istore_n (lv' := [(0, .ref 0), (2, .int (nI 0)), (3, .int (nI k))]) dX6_plan_52 (Nat.le_of_ble_eq_true rfl) rfl rfl ?_
          refine j_iinc (v := nI (k + 1)) (lv' := [(0, .ref 0), (2, .int (nI 0)), (3, .int (nI (k + 1)))]) dX6_plan_53 rfl (nI_add _ 1) (Nat.le_of_ble_eq_true rfl) rfl rfl ?_
          refine j_goto (tgt := 29) dX6_plan_56 (by decide) ?_
          exact ih29 (nI 0) (k + 1) A (by first | exact hM | omega) (by first | exact h1 | omega) (by omega)
  refine j_iload_n dX6_plan_0 rfl ?_
  refine j_i2l dX6_plan_1 rfl ?_
  refine j_lconst (v := 0) dX6_plan_2 rfl ?_
  refine j_lconst (v := 1) dX6_plan_3 rfl ?_
  refine j_callS (y' := mX6_in) (As := [.long (x1.toInt64), .long (0), .long (1)]) (st := []) dX6_plan_4 lkX6_89 okX6_in stX6_in rfl (Nat.le_of_ble_eq_true rfl) (Nat.le_of_ble_eq_true rfl) (m_in z _ x1.toInt64 0 1 F A) (fun v4 F4 A4 hq4 => ?_)
  obtain ⟨rfl, rfl, r4, rfl, hr4⟩ := hq4
  have hb4 : r4 ≤ 1 := by omega
  refine j_if_neN (tgt := 12) dX6_plan_7 (by decide) (by omega) (fun c7 => ?_) (fun c7 => ?_)
  · refine j_aload_n dX6_plan_12 rfl ?_
    refine j_callV (y' := mX6_reduceAll) (As := []) (st := []) dX6_plan_13 lkX6_221 okX6_reduceAll imX6_reduceAll seX6_reduceAll (Nat.le_of_ble_eq_true rfl) rfl rfl rfl rfl (Nat.le_of_ble_eq_true rfl) (Nat.le_of_ble_eq_true rfl) (m_reduceAll z _ _ _ _ _ _ _ _  F A hM) (fun v13 F13 A13 hq13 => ?_)
    obtain ⟨rfl, rfl, hM⟩ := hq13
    refine j_iload_n dX6_plan_16 rfl ?_
    refine j_if_ne (tgt := 25) dX6_plan_17 (by decide) (fun c17 => ?_) (fun c17 => ?_)
    · refine j_iconst (v := nI 1) dX6_plan_25 (by decide +kernel) ?_
      refine j_istore_n (lv' := [(0, .ref 0), (1, .int x1), (2, .int (nI 1))]) dX6_plan_26 (Nat.le_of_ble_eq_true rfl) rfl rfl ?_
      refine j_iconst (v := nI 0) dX6_plan_27 (by decide +kernel) ?_
      refine j_istore_n (lv' := [(0, .ref 0), (1, .int x1), (2, .int (nI 1)), (3, .int (nI 0))]) dX6_plan_28 (Nat.le_of_ble_eq_true rfl) rfl rfl ?_
      refine j_sub [0, 2, 3] rfl ?_
      exact L29 _ (nI 1) 0 A13 (by first | exact hM | omega) (by first | exact h1 | omega) (Nat.lt_succ_self _)
    · refine j_aload_n dX6_plan_20 rfl ?_
      refine j_callV (y' := mX6_planCost) (As := []) (st := []) dX6_plan_21 lkX6_224 okX6_planCost imX6_planCost seX6_planCost (Nat.le_of_ble_eq_true rfl) rfl rfl rfl rfl (Nat.le_of_ble_eq_true rfl) (Nat.le_of_ble_eq_true rfl) (m_planCost z _ _ _ _ _ _ _ _ F A13 hM) (fun v21 F21 A21 hq21 => ?_)
      obtain ⟨rfl, rfl, r21, rfl, hr21⟩ := hq21
      exact j_iret dX6_plan_24 rfl rfl ⟨_, rfl, hM⟩
  · refine j_iconst (v := (-1)) dX6_plan_10 (by decide +kernel) ?_
    exact j_iret dX6_plan_11 rfl rfl ⟨_, rfl, hM⟩

set_option maxHeartbeats 400000 in
set_option maxRecDepth 100000 in
theorem m_meetPlan (z : mj_B) (d : Nat) (L : Lg) (n : Nat) (mm : Nat → Nat) (rn : Nat) (rm : Nat → Nat) (un kn : Nat) (x1 : Int32) (F A : mj_S) (hM : MI L n mm rn rm un kn F A) : J (gM z) mX6_meetPlan d 0 [(0, .ref 0), (1, .int x1)] [] F A (fun v F' A' => v = none ∧ MI L n mm rn rm un kn F' A') := by
  have hM0 := hM.1.2.1
  have hM1 := hM.2.1.2.1
  have hM2 := hM.2.2.1.2.1
  have hM3 := hM.2.2.2.1.2
  have hM4 := hM.2.2.2.2.1.2
  have L111 : ∀ (fuel : Nat) (v : Nat) (F A : mj_S), (MI L n mm rn rm un kn F A) → (v ≤ n) → n - v < fuel → J (gM z) mX6_meetPlan d 111 [(0, .ref 0), (2, .int (nI v))] [] F A (fun v F' A' => v = none ∧ MI L n mm rn rm un kn F' A') := by
    intro fuel
    induction fuel with
    | zero => intro v F A hM h1 hf; exact absurd hf (by omega)
    | succ fuel ih111 =>
      intro v F A hM h1 hf
      refine j_iload_n dX6_meetPlan_111 rfl ?_
      refine j_aload_n dX6_meetPlan_112 rfl ?_
      refine j_getI dX6_meetPlan_113 flX6_132 (Nat.le_of_ble_eq_true rfl) rfl rfl ?_
      refine j_top (y0 := nI n) hM.2.1.1 ?_
      refine j_icmp_geN (tgt := 142) dX6_meetPlan_116 (by decide) (by omega) (by omega) (fun c116 => ?_) (fun c116 => ?_)
      · exact j_vret dX6_meetPlan_142 rfl ⟨rfl, hM⟩
      · refine j_aload_n dX6_meetPlan_119 rfl ?_
        refine j_getR (r := 16) dX6_meetPlan_120 flX6_55 (Nat.le_of_ble_eq_true rfl) rfl rfl ?_
        refine j_iload_n dX6_meetPlan_123 rfl ?_
        refine j_dup2 dX6_meetPlan_124 rfl rfl ?_
        refine j_ialdN dX6_meetPlan_125 (Nat.le_of_ble_eq_true rfl) rfl (by omega) (by decide) ?_
        obtain ⟨t1, ht1, et1⟩ := hM.same v (by omega)
        refine j_top (y0 := nI t1) et1 ?_
        refine j_iconst (v := nI 1) dX6_meetPlan_126 (by decide +kernel) ?_
        refine j_aload_n dX6_meetPlan_127 rfl ?_
        refine j_getR (r := 14) dX6_meetPlan_128 flX6_49 (Nat.le_of_ble_eq_true rfl) rfl rfl ?_
        refine j_iload_n dX6_meetPlan_131 rfl ?_
        refine j_ialdN dX6_meetPlan_132 (Nat.le_of_ble_eq_true rfl) rfl (by omega) (by decide) ?_
        obtain ⟨t2, ht2, et2⟩ := hM.takes v (by omega)
        refine j_top (y0 := nI t2) et2 ?_
        refine j_ishl dX6_meetPlan_133 ?_
        refine j_top (y0 := nI (2 ^ t2)) (shl_1 (by omega)) ?_
        refine j_ior dX6_meetPlan_134 ?_
        refine j_top (y0 := nI (t1 ||| (2 ^ t2))) (fa_or _ _) ?_
        refine j_iastN dX6_meetPlan_135 (Nat.le_of_ble_eq_true rfl) rfl (by omega) (by decide) ?_
        have hM := hM.s16 v (t := t1 ||| (2 ^ t2)) (Nat.le_of_lt_succ (or_16 (by omega) (p2_4 (by omega))))
        refine j_iinc (v := nI (v + 1)) (lv' := [(0, .ref 0), (2, .int (nI (v + 1)))]) dX6_meetPlan_136 rfl (nI_add _ 1) (Nat.le_of_ble_eq_true rfl) rfl rfl ?_
        refine j_goto (tgt := 111) dX6_meetPlan_139 (by decide) ?_
        exact ih111 (v + 1) F (mj_u A 16 v (nI (t1 ||| (2 ^ t2)))) (by first | exact hM | omega) (by first | exact h1 | omega) (by omega)
  have L85 : ∀ (F A : mj_S), (MI L n mm rn rm un kn F A) → J (gM z) mX6_meetPlan d 85 [(0, .ref 0), (1, .int x1)] [] F A (fun v F' A' => v = none ∧ MI L n mm rn rm un kn F' A') := by
    intro F A hM
    refine j_iload_n dX6_meetPlan_85 rfl ?_
    refine j_aload_n dX6_meetPlan_86 rfl ?_
    refine j_getI dX6_meetPlan_87 flX6_227 (Nat.le_of_ble_eq_true rfl) rfl rfl ?_
    refine j_icmp_ne (tgt := 142) dX6_meetPlan_90 (by decide) (fun c90 => ?_) (fun c90 => ?_)
    · exact j_vret dX6_meetPlan_142 rfl ⟨rfl, hM⟩
    · refine j_iload_n dX6_meetPlan_93 rfl ?_
      refine j_ldc dX6_meetPlan_94 kcX6_145 ?_
      refine j_icmp_ge (tgt := 142) dX6_meetPlan_96 (by decide) (fun c96 => ?_) (fun c96 => ?_)
      · exact j_vret dX6_meetPlan_142 rfl ⟨rfl, hM⟩
      · refine j_aload_n dX6_meetPlan_99 rfl ?_
        refine j_dup dX6_meetPlan_100 rfl ?_
        refine j_getI dX6_meetPlan_101 flX6_230 (Nat.le_of_ble_eq_true rfl) rfl rfl ?_
        refine j_iconst (v := nI 1) dX6_meetPlan_104 (by decide +kernel) ?_
        refine j_iadd dX6_meetPlan_105 ?_
        refine j_putI dX6_meetPlan_106 fpX6_230 (Nat.le_of_ble_eq_true rfl) rfl rfl ?_
        refine j_iconst (v := nI 0) dX6_meetPlan_109 (by decide +kernel) ?_
        refine j_istore_n (lv' := [(0, .ref 0), (1, .int x1), (2, .int (nI 0))]) dX6_meetPlan_110 (Nat.le_of_ble_eq_true rfl) rfl rfl ?_
        refine j_sub [0, 2] rfl ?_
        exact L111 _ 0 (mj_u F 0 22 ((F 0 22) + (nI 1))) A (by first | exact hM | omega) (by first | exact h1 | omega) (Nat.lt_succ_self _)
  have L28 : ∀ (fuel : Nat) (v : Nat) (F A : mj_S), (MI L n mm rn rm un kn F A) → (v ≤ n) → n - v < fuel → J (gM z) mX6_meetPlan d 28 [(0, .ref 0), (1, .int x1), (2, .int (nI v))] [] F A (fun v F' A' => v = none ∧ MI L n mm rn rm un kn F' A') := by
    intro fuel
    induction fuel with
    | zero => intro v F A hM h1 hf; exact absurd hf (by omega)
    | succ fuel ih28 =>
      intro v F A hM h1 hf
      refine j_iload_n dX6_meetPlan_28 rfl ?_
      refine j_aload_n dX6_meetPlan_29 rfl ?_
      refine j_getI dX6_meetPlan_30 flX6_132 (Nat.le_of_ble_eq_true rfl) rfl rfl ?_
      refine j_top (y0 := nI n) hM.2.1.1 ?_
      refine j_icmp_geN (tgt := 61) dX6_meetPlan_33 (by decide) (by omega) (by omega) (fun c33 => ?_) (fun c33 => ?_)
      · refine j_goto (tgt := 85) dX6_meetPlan_61 (by decide) ?_
        refine j_sub [0, 1] rfl ?_
        exact L85 F A (by first | exact hM | omega)
      · refine j_aload_n dX6_meetPlan_36 rfl ?_
        refine j_getR (r := 15) dX6_meetPlan_37 flX6_52 (Nat.le_of_ble_eq_true rfl) rfl rfl ?_
        refine j_iload_n dX6_meetPlan_40 rfl ?_
        refine j_aload_n dX6_meetPlan_41 rfl ?_
        refine j_getR (r := 14) dX6_meetPlan_42 flX6_49 (Nat.le_of_ble_eq_true rfl) rfl rfl ?_
        refine j_iload_n dX6_meetPlan_45 rfl ?_
        refine j_ialdN dX6_meetPlan_46 (Nat.le_of_ble_eq_true rfl) rfl (by omega) (by decide) ?_
        obtain ⟨t3, ht3, et3⟩ := hM.takes v (by omega)
        refine j_top (y0 := nI t3) et3 ?_
        refine j_iastN dX6_meetPlan_47 (Nat.le_of_ble_eq_true rfl) rfl (by omega) (by decide) ?_
        refine j_aload_n dX6_meetPlan_48 rfl ?_
        refine j_getR (r := 16) dX6_meetPlan_49 flX6_55 (Nat.le_of_ble_eq_true rfl) rfl rfl ?_
        refine j_iload_n dX6_meetPlan_52 rfl ?_
        refine j_iconst (v := nI 0) dX6_meetPlan_53 (by decide +kernel) ?_
        refine j_iastN dX6_meetPlan_54 (Nat.le_of_ble_eq_true rfl) rfl (by omega) (by decide) ?_
        have hM := hM.s16 v (t := 0) (by omega)
        refine j_iinc (v := nI (v + 1)) (lv' := [(0, .ref 0), (1, .int x1), (2, .int (nI (v + 1)))]) dX6_meetPlan_55 rfl (nI_add _ 1) (Nat.le_of_ble_eq_true rfl) rfl rfl ?_
        refine j_goto (tgt := 28) dX6_meetPlan_58 (by decide) ?_
        exact ih28 (v + 1) F (mj_u (mj_u A 15 v (nI t3)) 16 v (nI 0)) (by first | exact hM | omega) (by first | exact h1 | omega) (by omega)
  refine j_iload_n dX6_meetPlan_0 rfl ?_
  refine j_aload_n dX6_meetPlan_1 rfl ?_
  refine j_getI dX6_meetPlan_2 flX6_227 (Nat.le_of_ble_eq_true rfl) rfl rfl ?_
  refine j_icmp_ge (tgt := 64) dX6_meetPlan_5 (by decide) (fun c5 => ?_) (fun c5 => ?_)
  · refine j_iload_n dX6_meetPlan_64 rfl ?_
    refine j_aload_n dX6_meetPlan_65 rfl ?_
    refine j_getI dX6_meetPlan_66 flX6_227 (Nat.le_of_ble_eq_true rfl) rfl rfl ?_
    refine j_icmp_le (tgt := 85) dX6_meetPlan_69 (by decide) (fun c69 => ?_) (fun c69 => ?_)
    · exact L85 F A (by first | exact hM | omega)
    · refine j_iload_n dX6_meetPlan_72 rfl ?_
      refine j_aload_n dX6_meetPlan_73 rfl ?_
      refine j_getI dX6_meetPlan_74 flX6_233 (Nat.le_of_ble_eq_true rfl) rfl rfl ?_
      refine j_icmp_ge (tgt := 85) dX6_meetPlan_77 (by decide) (fun c77 => ?_) (fun c77 => ?_)
      · exact L85 F A (by first | exact hM | omega)
      · refine j_aload_n dX6_meetPlan_80 rfl ?_
        refine j_iload_n dX6_meetPlan_81 rfl ?_
        refine j_putI dX6_meetPlan_82 fpX6_233 (Nat.le_of_ble_eq_true rfl) rfl rfl ?_
        exact L85 (mj_u F 0 23 x1) A (by first | exact hM | omega)
  · refine j_aload_n dX6_meetPlan_8 rfl ?_
    refine j_aload_n dX6_meetPlan_9 rfl ?_
    refine j_getI dX6_meetPlan_10 flX6_227 (Nat.le_of_ble_eq_true rfl) rfl rfl ?_
    refine j_putI dX6_meetPlan_13 fpX6_233 (Nat.le_of_ble_eq_true rfl) rfl rfl ?_
    refine j_aload_n dX6_meetPlan_16 rfl ?_
    refine j_iload_n dX6_meetPlan_17 rfl ?_
    refine j_putI dX6_meetPlan_18 fpX6_227 (Nat.le_of_ble_eq_true rfl) rfl rfl ?_
    refine j_aload_n dX6_meetPlan_21 rfl ?_
    refine j_iconst (v := nI 0) dX6_meetPlan_22 (by decide +kernel) ?_
    refine j_putI dX6_meetPlan_23 fpX6_230 (Nat.le_of_ble_eq_true rfl) rfl rfl ?_
    refine j_iconst (v := nI 0) dX6_meetPlan_26 (by decide +kernel) ?_
    refine j_istore_n (lv' := [(0, .ref 0), (1, .int x1), (2, .int (nI 0))]) dX6_meetPlan_27 (Nat.le_of_ble_eq_true rfl) rfl rfl ?_
    exact L28 _ 0 (mj_u (mj_u (mj_u F 0 23 (F 0 21)) 0 21 x1) 0 22 (nI 0)) A (by first | exact hM | omega) (by first | exact h1 | omega) (Nat.lt_succ_self _)

set_option maxHeartbeats 400000 in
set_option maxRecDepth 100000 in
theorem m_goAll (z : mj_B) (d : Nat) (L : Lg) (n : Nat) (mm : Nat → Nat) (rn : Nat) (rm : Nat → Nat) (un kn : Nat) (x1 x2 : Int32) (hnode : x1 = (-4) ∨ ∃ j, j < n ∧ x1 = nI j) (F A : mj_S) (hM : MI L n mm rn rm un kn F A) : J (gM z) mX6_goAll (d + 3) 0 [(0, .ref 0), (1, .int x1), (2, .int x2)] [] F A (fun v F' A' => v = none ∧ MI L n mm rn rm un kn F' A') := by
  have hM0 := hM.1.2.1
  have hM1 := hM.2.1.2.1
  have hM2 := hM.2.2.1.2.1
  have hM3 := hM.2.2.2.1.2
  have hM4 := hM.2.2.2.2.1.2
  have L22 : ∀ (fuel : Nat) (p : Nat) (u : Nat) (F A : mj_S), (MI L n mm rn rm un kn F A) → (u ≤ n) → (p ≤ 4 ^ u) → n - u < fuel → J (gM z) mX6_goAll (d + 3) 22 [(0, .ref 0), (1, .int x1), (2, .int x2), (3, .int (nI p)), (4, .int (nI u))] [] F A (fun v F' A' => v = none ∧ MI L n mm rn rm un kn F' A') := by
    intro fuel
    induction fuel with
    | zero => intro p u F A hM h1 hp hf; exact absurd hf (by omega)
    | succ fuel ih22 =>
      intro p u F A hM h1 hp hf
      refine j_iload dX6_goAll_22 rfl ?_
      refine j_aload_n dX6_goAll_24 rfl ?_
      refine j_getI dX6_goAll_25 flX6_132 (Nat.le_of_ble_eq_true rfl) rfl rfl ?_
      refine j_top (y0 := nI n) hM.2.1.1 ?_
      refine j_icmp_geN (tgt := 56) dX6_goAll_28 (by decide) (by omega) (by omega) (fun c28 => ?_) (fun c28 => ?_)
      · have hp6 : p ≤ 65536 := Nat.le_trans hp (Nat.pow_le_pow_right (n := 4) (j := 8) (by decide) (by omega))
        have L59 : ∀ (fuel : Nat) (q : Nat) (F A : mj_S), (MI L n mm rn rm un kn F A) → (q ≤ p) → p - q < fuel → J (gM z) mX6_goAll (d + 3) 59 [(0, .ref 0), (1, .int x1), (2, .int x2), (3, .int (nI p)), (4, .int (nI q))] [] F A (fun v F' A' => v = none ∧ MI L n mm rn rm un kn F' A') := by
          intro fuel
          induction fuel with
          | zero => intro q F A hM h1 hf; exact absurd hf (by omega)
          | succ fuel ih59 =>
            intro q F A hM h1 hf
            refine j_iload dX6_goAll_59 rfl ?_
            refine j_iload_n dX6_goAll_61 rfl ?_
            refine j_icmp_geN (tgt := 147) dX6_goAll_62 (by decide) (by omega) (by omega) (fun c62 => ?_) (fun c62 => ?_)
            · exact j_vret dX6_goAll_147 rfl ⟨rfl, hM⟩
            · have L77 : ∀ (fuel : Nat) (le : Nat) (x : Int32) (kk : Nat) (F A : mj_S), (MI L n mm rn rm un kn F A) → (x + 1 = nI kk) → (kk ≤ n) → (le ≤ 65536) → kk < fuel → J (gM z) mX6_goAll (d + 3) 77 [(0, .ref 0), (1, .int x1), (2, .int x2), (3, .int (nI p)), (4, .int (nI q)), (5, .int (nI le)), (6, .int x)] [] F A (fun v F' A' => v = none ∧ MI L n mm rn rm un kn F' A') := by
                intro fuel
                induction fuel with
                | zero => intro le x kk F A hM hx h6 h7 hf; exact absurd hf (by omega)
                | succ fuel ih77 =>
                  intro le x kk F A hM hx h6 h7 hf
                  refine j_iload dX6_goAll_77 rfl ?_
                  refine j_if_lt (tgt := 117) dX6_goAll_79 (by decide) (fun c79 => ?_) (fun c79 => ?_)
                  · refine j_iload_n dX6_goAll_117 rfl ?_
                    refine j_bipush (v := (-4)) dX6_goAll_118 (by decide +kernel) ?_
                    refine j_icmp_eq (tgt := 133) dX6_goAll_120 (by decide) (fun c120 => ?_) (fun c120 => ?_)
                    · refine j_aload_n dX6_goAll_133 rfl ?_
                      refine j_aload_n dX6_goAll_134 rfl ?_
                      refine j_callV (y' := mX6_planCost) (As := []) (st := [.ref 0]) dX6_goAll_135 lkX6_224 okX6_planCost imX6_planCost seX6_planCost (Nat.le_of_ble_eq_true rfl) rfl rfl rfl rfl (Nat.le_of_ble_eq_true rfl) (Nat.le_of_ble_eq_true rfl) (m_planCost z _ _ _ _ _ _ _ _ F A hM) (fun v135 F135 A135 hq135 => ?_)
                      obtain ⟨rfl, rfl, r135, rfl, hr135⟩ := hq135
                      refine j_callV (y' := mX6_meetPlan) (As := [.int r135]) (st := []) dX6_goAll_138 lkX6_236 okX6_meetPlan imX6_meetPlan seX6_meetPlan (Nat.le_of_ble_eq_true rfl) rfl rfl rfl rfl (Nat.le_of_ble_eq_true rfl) (Nat.le_of_ble_eq_true rfl) (m_meetPlan z _ _ _ _ _ _ _ _ r135 F A hM) (fun v138 F138 A138 hq138 => ?_)
                      obtain ⟨rfl, hM⟩ := hq138
                      refine j_iinc (v := nI (q + 1)) (lv' := [(0, .ref 0), (1, .int x1), (2, .int x2), (3, .int (nI p)), (4, .int (nI (q + 1))), (5, .int (nI le)), (6, .int x)]) dX6_goAll_141 rfl (nI_add _ 1) (Nat.le_of_ble_eq_true rfl) rfl rfl ?_
                      refine j_goto (tgt := 59) dX6_goAll_144 (by decide) ?_
                      refine j_sub [0, 1, 2, 3, 4] rfl ?_
                      exact ih59 (q + 1) F138 A138 (by first | exact hM | omega) (by first | exact h1 | omega) (by omega)
                    · obtain ⟨j, hj, rfl⟩ := hnode.resolve_left c120
                      refine j_aload_n dX6_goAll_123 rfl ?_
                      refine j_getR (r := 14) dX6_goAll_124 flX6_49 (Nat.le_of_ble_eq_true rfl) rfl rfl ?_
                      refine j_iload_n dX6_goAll_127 rfl ?_
                      refine j_ialdN dX6_goAll_128 (Nat.le_of_ble_eq_true rfl) rfl (by omega) (by decide) ?_
                      obtain ⟨t1, ht1, et1⟩ := hM.takes j (by omega)
                      refine j_top (y0 := nI t1) et1 ?_
                      refine j_iload_n dX6_goAll_129 rfl ?_
                      refine j_icmp_ne (tgt := 141) dX6_goAll_130 (by decide) (fun c130 => ?_) (fun c130 => ?_)
                      · refine j_iinc (v := nI (q + 1)) (lv' := [(0, .ref 0), (1, .int (nI j)), (2, .int x2), (3, .int (nI p)), (4, .int (nI (q + 1))), (5, .int (nI le)), (6, .int x)]) dX6_goAll_141 rfl (nI_add _ 1) (Nat.le_of_ble_eq_true rfl) rfl rfl ?_
                        refine j_goto (tgt := 59) dX6_goAll_144 (by decide) ?_
                        refine j_sub [0, 1, 2, 3, 4] rfl ?_
                        exact ih59 (q + 1) F A (by first | exact hM | omega) (by first | exact h1 | omega) (by omega)
                      · refine j_aload_n dX6_goAll_133 rfl ?_
                        refine j_aload_n dX6_goAll_134 rfl ?_
                        refine j_callV (y' := mX6_planCost) (As := []) (st := [.ref 0]) dX6_goAll_135 lkX6_224 okX6_planCost imX6_planCost seX6_planCost (Nat.le_of_ble_eq_true rfl) rfl rfl rfl rfl (Nat.le_of_ble_eq_true rfl) (Nat.le_of_ble_eq_true rfl) (m_planCost z _ _ _ _ _ _ _ _ F A hM) (fun v135 F135 A135 hq135 => ?_)
                        obtain ⟨rfl, rfl, r135, rfl, hr135⟩ := hq135
                        refine j_callV (y' := mX6_meetPlan) (As := [.int r135]) (st := []) dX6_goAll_138 lkX6_236 okX6_meetPlan imX6_meetPlan seX6_meetPlan (Nat.le_of_ble_eq_true rfl) rfl rfl rfl rfl (Nat.le_of_ble_eq_true rfl) (Nat.le_of_ble_eq_true rfl) (m_meetPlan z _ _ _ _ _ _ _ _ r135 F A hM) (fun v138 F138 A138 hq138 => ?_)
                        obtain ⟨rfl, hM⟩ := hq138
                        refine j_iinc (v := nI (q + 1)) (lv' := [(0, .ref 0), (1, .int (nI j)), (2, .int x2), (3, .int (nI p)), (4, .int (nI (q + 1))), (5, .int (nI le)), (6, .int x)]) dX6_goAll_141 rfl (nI_add _ 1) (Nat.le_of_ble_eq_true rfl) rfl rfl ?_
                        refine j_goto (tgt := 59) dX6_goAll_144 (by decide) ?_
                        refine j_sub [0, 1, 2, 3, 4] rfl ?_
                        exact ih59 (q + 1) F138 A138 (by first | exact hM | omega) (by first | exact h1 | omega) (by omega)
                  · have hk0 : 0 < kk := Nat.pos_of_ne_zero (fun e => by rw [e] at hx; exact c79 (dn0 hx))
                    obtain rfl : x = nI (kk - 1) := dn1 hx hk0
                    have h1m := hM.2.1.2.2.2.2 (kk - 1) (by omega)
                    have h4m := hM.2.1.2.2.2.1 (kk - 1)
                    have hmd := Nat.mod_lt le h1m
                    refine j_aload_n dX6_goAll_82 rfl ?_
                    refine j_getR (r := 14) dX6_goAll_83 flX6_49 (Nat.le_of_ble_eq_true rfl) rfl rfl ?_
                    refine j_iload dX6_goAll_86 rfl ?_
                    refine j_iload dX6_goAll_88 rfl ?_
                    refine j_aload_n dX6_goAll_90 rfl ?_
                    refine j_getR (r := 2) dX6_goAll_91 flX6_13 (Nat.le_of_ble_eq_true rfl) rfl rfl ?_
                    refine j_iload dX6_goAll_94 rfl ?_
                    refine j_ialdN dX6_goAll_96 (Nat.le_of_ble_eq_true rfl) rfl (by omega) (by decide) ?_
                    refine j_top (y0 := nI (mm (kk - 1))) (hM.2.1.2.2.1 _ (by omega)) ?_
                    refine j_iremN dX6_goAll_97 (by omega) (by omega) (by omega) ?_
                    refine j_iastN dX6_goAll_98 (Nat.le_of_ble_eq_true rfl) rfl (by omega) (by decide) ?_
                    have hM := hM.s14 (kk - 1) (t := le % (mm (kk - 1))) (by omega)
                    refine j_iload dX6_goAll_99 rfl ?_
                    refine j_aload_n dX6_goAll_101 rfl ?_
                    refine j_getR (r := 2) dX6_goAll_102 flX6_13 (Nat.le_of_ble_eq_true rfl) rfl rfl ?_
                    refine j_iload dX6_goAll_105 rfl ?_
                    refine j_ialdN dX6_goAll_107 (Nat.le_of_ble_eq_true rfl) rfl (by omega) (by decide) ?_
                    refine j_top (y0 := nI (mm (kk - 1))) (hM.2.1.2.2.1 _ (by omega)) ?_
                    refine j_idivN dX6_goAll_108 (by omega) (by omega) (by omega) ?_
                    refine j_istore (lv' := [(0, .ref 0), (1, .int x1), (2, .int x2), (3, .int (nI p)), (4, .int (nI q)), (5, .int (nI (le / (mm (kk - 1))))), (6, .int (nI (kk - 1)))]) dX6_goAll_109 (Nat.le_of_ble_eq_true rfl) rfl rfl ?_
                    refine j_iinc (v := nI (kk - 1) + Int32.ofInt (-1)) (lv' := [(0, .ref 0), (1, .int x1), (2, .int x2), (3, .int (nI p)), (4, .int (nI q)), (5, .int (nI (le / (mm (kk - 1))))), (6, .int (nI (kk - 1) + Int32.ofInt (-1)))]) dX6_goAll_111 rfl rfl (Nat.le_of_ble_eq_true rfl) rfl rfl ?_
                    refine j_goto (tgt := 77) dX6_goAll_114 (by decide) ?_
                    exact ih77 (le / (mm (kk - 1))) (nI (kk - 1) + Int32.ofInt (-1)) (kk - 1) F (mj_u A 14 (kk - 1) (nI (le % (mm (kk - 1))))) (by first | exact hM | omega) (dn2 _) (by first | exact h6 | omega) (Nat.le_trans (Nat.div_le_self _ _) h7) (by omega)
              refine j_iload dX6_goAll_65 rfl ?_
              refine j_istore (lv' := [(0, .ref 0), (1, .int x1), (2, .int x2), (3, .int (nI p)), (4, .int (nI q)), (5, .int (nI q))]) dX6_goAll_67 (Nat.le_of_ble_eq_true rfl) rfl rfl ?_
              refine j_aload_n dX6_goAll_69 rfl ?_
              refine j_getI dX6_goAll_70 flX6_132 (Nat.le_of_ble_eq_true rfl) rfl rfl ?_
              refine j_top (y0 := nI n) hM.2.1.1 ?_
              refine j_iconst (v := nI 1) dX6_goAll_73 (by decide +kernel) ?_
              refine j_isub dX6_goAll_74 ?_
              refine j_top (y0 := (nI n) - (nI 1)) rfl ?_
              refine j_istore (lv' := [(0, .ref 0), (1, .int x1), (2, .int x2), (3, .int (nI p)), (4, .int (nI q)), (5, .int (nI q)), (6, .int ((nI n) - (nI 1)))]) dX6_goAll_75 (Nat.le_of_ble_eq_true rfl) rfl rfl ?_
              exact L77 _ q ((nI n) - (nI 1)) n F A (by first | exact hM | omega) (dn4 n) (by first | exact h6 | omega) (by first | exact h7 | omega) (Nat.lt_succ_self _)
        refine j_iconst (v := nI 0) dX6_goAll_56 (by decide +kernel) ?_
        refine j_istore (lv' := [(0, .ref 0), (1, .int x1), (2, .int x2), (3, .int (nI p)), (4, .int (nI 0))]) dX6_goAll_57 (Nat.le_of_ble_eq_true rfl) rfl rfl ?_
        exact L59 _ 0 F A (by first | exact hM | omega) (by first | exact h1 | omega) (Nat.lt_succ_self _)
      · refine j_iload_n dX6_goAll_31 rfl ?_
        refine j_aload_n dX6_goAll_32 rfl ?_
        refine j_getR (r := 2) dX6_goAll_33 flX6_13 (Nat.le_of_ble_eq_true rfl) rfl rfl ?_
        refine j_iload dX6_goAll_36 rfl ?_
        refine j_ialdN dX6_goAll_38 (Nat.le_of_ble_eq_true rfl) rfl (by omega) (by decide) ?_
        refine j_top (y0 := nI (mm u)) (hM.2.1.2.2.1 _ (by omega)) ?_
        refine j_imulN dX6_goAll_39 ?_
        refine j_istore_n (lv' := [(0, .ref 0), (1, .int x1), (2, .int x2), (3, .int (nI (p * (mm u)))), (4, .int (nI u))]) dX6_goAll_40 (Nat.le_of_ble_eq_true rfl) rfl rfl ?_
        refine j_aload_n dX6_goAll_41 rfl ?_
        refine j_getR (r := 15) dX6_goAll_42 flX6_52 (Nat.le_of_ble_eq_true rfl) rfl rfl ?_
        refine j_iload dX6_goAll_45 rfl ?_
        refine j_bipush (v := (-4)) dX6_goAll_47 (by decide +kernel) ?_
        refine j_iastN dX6_goAll_49 (Nat.le_of_ble_eq_true rfl) rfl (by omega) (by decide) ?_
        refine j_iinc (v := nI (u + 1)) (lv' := [(0, .ref 0), (1, .int x1), (2, .int x2), (3, .int (nI (p * (mm u)))), (4, .int (nI (u + 1)))]) dX6_goAll_50 rfl (nI_add _ 1) (Nat.le_of_ble_eq_true rfl) rfl rfl ?_
        refine j_goto (tgt := 22) dX6_goAll_53 (by decide) ?_
        exact ih22 (p * (mm u)) (u + 1) F (mj_u A 15 u (-4)) (by first | exact hM | omega) (by first | exact h1 | omega) (by rw [Nat.pow_succ]; exact Nat.mul_le_mul hp (hM.2.1.2.2.2.1 u)) (by omega)
  refine j_aload_n dX6_goAll_0 rfl ?_
  refine j_ldc dX6_goAll_1 kcX6_145 ?_
  refine j_putI dX6_goAll_3 fpX6_227 (Nat.le_of_ble_eq_true rfl) rfl rfl ?_
  refine j_aload_n dX6_goAll_6 rfl ?_
  refine j_iconst (v := nI 0) dX6_goAll_7 (by decide +kernel) ?_
  refine j_putI dX6_goAll_8 fpX6_230 (Nat.le_of_ble_eq_true rfl) rfl rfl ?_
  refine j_aload_n dX6_goAll_11 rfl ?_
  refine j_ldc dX6_goAll_12 kcX6_145 ?_
  refine j_putI dX6_goAll_14 fpX6_233 (Nat.le_of_ble_eq_true rfl) rfl rfl ?_
  refine j_iconst (v := nI 1) dX6_goAll_17 (by decide +kernel) ?_
  refine j_istore_n (lv' := [(0, .ref 0), (1, .int x1), (2, .int x2), (3, .int (nI 1))]) dX6_goAll_18 (Nat.le_of_ble_eq_true rfl) rfl rfl ?_
  refine j_iconst (v := nI 0) dX6_goAll_19 (by decide +kernel) ?_
  refine j_istore (lv' := [(0, .ref 0), (1, .int x1), (2, .int x2), (3, .int (nI 1)), (4, .int (nI 0))]) dX6_goAll_20 (Nat.le_of_ble_eq_true rfl) rfl rfl ?_
  exact L22 _ 1 0 (mj_u (mj_u (mj_u F 0 21 1000000) 0 22 (nI 0)) 0 23 1000000) A (by first | exact hM | omega) (by first | exact h1 | omega) (Nat.le_refl 1) (Nat.lt_succ_self _)

set_option maxHeartbeats 400000 in
set_option maxRecDepth 100000 in
theorem m_sameSet (z : mj_B) (d : Nat) (L : Lg) (n : Nat) (mm : Nat → Nat) (rn : Nat) (rm : Nat → Nat) (un kn : Nat) (F A : mj_S) (hM : MI L n mm rn rm un kn F A) : J (gM z) mX6_sameSet (d + 1) 0 [(0, .ref 0)] [] F A (qP F A fun _ => True) := by
  have hM0 := hM.1.2.1
  have hM1 := hM.2.1.2.1
  have hM2 := hM.2.2.1.2.1
  have hM3 := hM.2.2.2.1.2
  have hM4 := hM.2.2.2.2.1.2
  have L4 : ∀ (fuel : Nat) (se : Int32) (v : Nat), (v ≤ n) → n - v < fuel → J (gM z) mX6_sameSet (d + 1) 4 [(0, .ref 0), (1, .int se), (2, .int (nI v))] [] F A (qP F A fun _ => True) := by
    intro fuel
    induction fuel with
    | zero => intro se v h1 hf; exact absurd hf (by omega)
    | succ fuel ih4 =>
      intro se v h1 hf
      refine j_iload_n dX6_sameSet_4 rfl ?_
      refine j_aload_n dX6_sameSet_5 rfl ?_
      refine j_getI dX6_sameSet_6 flX6_132 (Nat.le_of_ble_eq_true rfl) rfl rfl ?_
      refine j_top (y0 := nI n) hM.2.1.1 ?_
      refine j_icmp_geN (tgt := 41) dX6_sameSet_9 (by decide) (by omega) (by omega) (fun c9 => ?_) (fun c9 => ?_)
      · refine j_iload_n dX6_sameSet_41 rfl ?_
        exact j_iret dX6_sameSet_42 rfl rfl ⟨rfl, rfl, _, rfl, trivial⟩
      · refine j_iload_n dX6_sameSet_12 rfl ?_
        refine j_aload_n dX6_sameSet_13 rfl ?_
        refine j_getR (r := 16) dX6_sameSet_14 flX6_55 (Nat.le_of_ble_eq_true rfl) rfl rfl ?_
        refine j_iload_n dX6_sameSet_17 rfl ?_
        refine j_ialdN dX6_sameSet_18 (Nat.le_of_ble_eq_true rfl) rfl (by omega) (by decide) ?_
        obtain ⟨t1, ht1, et1⟩ := hM.same v (by omega)
        refine j_top (y0 := nI t1) et1 ?_
        refine j_callS (y' := mX6_ones) (As := [.int (nI t1)]) (st := [.int se]) dX6_sameSet_19 lkX6_182 okX6_ones stX6_ones rfl (Nat.le_of_ble_eq_true rfl) (Nat.le_of_ble_eq_true rfl) (m_ones z _ t1 (by omega) F A) (fun v19 F19 A19 hq19 => ?_)
        obtain ⟨rfl, rfl, r19, rfl, hr19⟩ := hq19
        have hp19 : r19 ≤ 8 := by rw [hr19]; exact pc_le _
        refine j_iconst (v := nI 1) dX6_sameSet_22 (by decide +kernel) ?_
        refine j_icmp_neN (tgt := 32) dX6_sameSet_23 (by decide) (by omega) (by omega) (fun c23 => ?_) (fun c23 => ?_)
        · refine j_iconst (v := nI 0) dX6_sameSet_32 (by decide +kernel) ?_
          refine j_ior dX6_sameSet_33 ?_
          refine j_istore_n (lv' := [(0, .ref 0), (1, .int (se ||| (nI 0))), (2, .int (nI v))]) dX6_sameSet_34 (Nat.le_of_ble_eq_true rfl) rfl rfl ?_
          refine j_iinc (v := nI (v + 1)) (lv' := [(0, .ref 0), (1, .int (se ||| (nI 0))), (2, .int (nI (v + 1)))]) dX6_sameSet_35 rfl (nI_add _ 1) (Nat.le_of_ble_eq_true rfl) rfl rfl ?_
          refine j_goto (tgt := 4) dX6_sameSet_38 (by decide) ?_
          exact ih4 (se ||| (nI 0)) (v + 1) (by first | exact h1 | omega) (by omega)
        · refine j_iconst (v := nI 1) dX6_sameSet_26 (by decide +kernel) ?_
          refine j_iload_n dX6_sameSet_27 rfl ?_
          refine j_ishl dX6_sameSet_28 ?_
          refine j_goto (tgt := 33) dX6_sameSet_29 (by decide) ?_
          refine j_ior dX6_sameSet_33 ?_
          refine j_istore_n (lv' := [(0, .ref 0), (1, .int (se ||| ((nI 1) <<< ((nI v) &&& 31)))), (2, .int (nI v))]) dX6_sameSet_34 (Nat.le_of_ble_eq_true rfl) rfl rfl ?_
          refine j_iinc (v := nI (v + 1)) (lv' := [(0, .ref 0), (1, .int (se ||| ((nI 1) <<< ((nI v) &&& 31)))), (2, .int (nI (v + 1)))]) dX6_sameSet_35 rfl (nI_add _ 1) (Nat.le_of_ble_eq_true rfl) rfl rfl ?_
          refine j_goto (tgt := 4) dX6_sameSet_38 (by decide) ?_
          exact ih4 (se ||| ((nI 1) <<< ((nI v) &&& 31))) (v + 1) (by first | exact h1 | omega) (by omega)
  refine j_iconst (v := nI 0) dX6_sameSet_0 (by decide +kernel) ?_
  refine j_istore_n (lv' := [(0, .ref 0), (1, .int (nI 0))]) dX6_sameSet_1 (Nat.le_of_ble_eq_true rfl) rfl rfl ?_
  refine j_iconst (v := nI 0) dX6_sameSet_2 (by decide +kernel) ?_
  refine j_istore_n (lv' := [(0, .ref 0), (1, .int (nI 0)), (2, .int (nI 0))]) dX6_sameSet_3 (Nat.le_of_ble_eq_true rfl) rfl rfl ?_
  exact L4 _ (nI 0) 0 (by first | exact h1 | omega) (Nat.lt_succ_self _)

set_option maxHeartbeats 400000 in
set_option maxRecDepth 100000 in
theorem m_bound (z : mj_B) (d : Nat) (L : Lg) (n : Nat) (mm : Nat → Nat) (rn : Nat) (rm : Nat → Nat) (un kn : Nat) (F A : mj_S) (hM : MI L n mm rn rm un kn F A) : J (gM z) mX6_bound (d + 2) 0 [(0, .ref 0)] [] F A (qP F A fun _ => True) := by
  have hM0 := hM.1.2.1
  have hM1 := hM.2.1.2.1
  have hM2 := hM.2.2.1.2.1
  have hM3 := hM.2.2.2.1.2
  have hM4 := hM.2.2.2.2.1.2
  have L4 : ∀ (fuel : Nat) (su : Int32) (u : Nat), (u ≤ n) → n - u < fuel → J (gM z) mX6_bound (d + 2) 4 [(0, .ref 0), (1, .int su), (2, .int (nI u))] [] F A (qP F A fun _ => True) := by
    intro fuel
    induction fuel with
    | zero => intro su u h1 hf; exact absurd hf (by omega)
    | succ fuel ih4 =>
      intro su u h1 hf
      refine j_iload_n dX6_bound_4 rfl ?_
      refine j_aload_n dX6_bound_5 rfl ?_
      refine j_getI dX6_bound_6 flX6_132 (Nat.le_of_ble_eq_true rfl) rfl rfl ?_
      refine j_top (y0 := nI n) hM.2.1.1 ?_
      refine j_icmp_geN (tgt := 190) dX6_bound_9 (by decide) (by omega) (by omega) (fun c9 => ?_) (fun c9 => ?_)
      · refine j_iload_n dX6_bound_190 rfl ?_
        exact j_iret dX6_bound_191 rfl rfl ⟨rfl, rfl, _, rfl, trivial⟩
      · have h4u := hM.2.1.2.2.2.1 u
        have L68 : ∀ (fuel : Nat) (su : Int32) (v : Nat), (v ≤ u) → u - v < fuel → J (gM z) mX6_bound (d + 2) 68 [(0, .ref 0), (1, .int su), (2, .int (nI u)), (4, .int (nI v))] [] F A (qP F A fun _ => True) := by
          intro fuel
          induction fuel with
          | zero => intro su v h2 hf; exact absurd hf (by omega)
          | succ fuel ih68 =>
            intro su v h2 hf
            refine j_iload dX6_bound_68 rfl ?_
            refine j_iload_n dX6_bound_70 rfl ?_
            refine j_icmp_geN (tgt := 184) dX6_bound_71 (by decide) (by omega) (by omega) (fun c71 => ?_) (fun c71 => ?_)
            · refine j_iinc (v := nI (u + 1)) (lv' := [(0, .ref 0), (1, .int su), (2, .int (nI (u + 1))), (4, .int (nI v))]) dX6_bound_184 rfl (nI_add _ 1) (Nat.le_of_ble_eq_true rfl) rfl rfl ?_
              refine j_goto (tgt := 4) dX6_bound_187 (by decide) ?_
              refine j_sub [0, 1, 2] rfl ?_
              exact ih4 su (u + 1) (by first | exact h1 | omega) (by omega)
            · have h4v := hM.2.1.2.2.2.1 v
              have h1v := hM.2.1.2.2.2.2 v (by omega)
              have hp16 : mm u * mm v ≤ 16 := Nat.mul_le_mul h4u h4v
              have L94 : ∀ (fuel : Nat) (le : Int32) (k : Nat), (k ≤ mm u * mm v) → mm u * mm v - k < fuel → J (gM z) mX6_bound (d + 2) 94 [(0, .ref 0), (1, .int su), (2, .int (nI u)), (3, .int le), (4, .int (nI v)), (5, .int (nI k))] [] F A (qP F A fun _ => True) := by
                intro fuel
                induction fuel with
                | zero => intro le k h3 hf; exact absurd hf (by omega)
                | succ fuel ih94 =>
                  intro le k h3 hf
                  refine j_iload dX6_bound_94 rfl ?_
                  refine j_aload_n dX6_bound_96 rfl ?_
                  refine j_getR (r := 2) dX6_bound_97 flX6_13 (Nat.le_of_ble_eq_true rfl) rfl rfl ?_
                  refine j_iload_n dX6_bound_100 rfl ?_
                  refine j_ialdN dX6_bound_101 (Nat.le_of_ble_eq_true rfl) rfl (by omega) (by decide) ?_
                  refine j_top (y0 := nI (mm u)) (hM.2.1.2.2.1 _ (by omega)) ?_
                  refine j_aload_n dX6_bound_102 rfl ?_
                  refine j_getR (r := 2) dX6_bound_103 flX6_13 (Nat.le_of_ble_eq_true rfl) rfl rfl ?_
                  refine j_iload dX6_bound_106 rfl ?_
                  refine j_ialdN dX6_bound_108 (Nat.le_of_ble_eq_true rfl) rfl (by omega) (by decide) ?_
                  refine j_top (y0 := nI (mm v)) (hM.2.1.2.2.1 _ (by omega)) ?_
                  refine j_imulN dX6_bound_109 ?_
                  refine j_icmp_geN (tgt := 171) dX6_bound_110 (by decide) (by omega) (by omega) (fun c110 => ?_) (fun c110 => ?_)
                  · refine j_iload_n dX6_bound_171 rfl ?_
                    refine j_iload_n dX6_bound_172 rfl ?_
                    refine j_iadd dX6_bound_173 ?_
                    refine j_callS (y' := mX6_atMost) (As := [.int (su + le)]) (st := []) dX6_bound_174 lkX6_191 okX6_atMost stX6_atMost rfl (Nat.le_of_ble_eq_true rfl) (Nat.le_of_ble_eq_true rfl) (m_atMost z _ (su + le) F A) (fun v174 F174 A174 hq174 => ?_)
                    obtain ⟨rfl, rfl, r174, rfl, hr174⟩ := hq174
                    refine j_istore_n (lv' := [(0, .ref 0), (1, .int r174), (2, .int (nI u)), (3, .int le), (4, .int (nI v)), (5, .int (nI k))]) dX6_bound_177 (Nat.le_of_ble_eq_true rfl) rfl rfl ?_
                    refine j_iinc (v := nI (v + 1)) (lv' := [(0, .ref 0), (1, .int r174), (2, .int (nI u)), (3, .int le), (4, .int (nI (v + 1))), (5, .int (nI k))]) dX6_bound_178 rfl (nI_add _ 1) (Nat.le_of_ble_eq_true rfl) rfl rfl ?_
                    refine j_goto (tgt := 68) dX6_bound_181 (by decide) ?_
                    refine j_sub [0, 1, 2, 4] rfl ?_
                    exact ih68 r174 (v + 1) (by first | exact h2 | omega) (by omega)
                  · have hd1 : k / mm v < mm u := Nat.div_lt_of_lt_mul (by rw [Nat.mul_comm]; exact c110)
                    have hd2 : k % mm v < mm v := Nat.mod_lt _ (by omega)
                    refine j_aload_n dX6_bound_113 rfl ?_
                    refine j_iload_n dX6_bound_114 rfl ?_
                    refine j_iload dX6_bound_115 rfl ?_
                    refine j_callV (y' := mX6_isTied) (As := [.int (nI u), .int (nI v)]) (st := []) dX6_bound_117 lkX6_146 okX6_isTied imX6_isTied seX6_isTied (Nat.le_of_ble_eq_true rfl) rfl rfl rfl rfl (Nat.le_of_ble_eq_true rfl) (Nat.le_of_ble_eq_true rfl) (m_isTied z _ u v (by omega) (by omega) F A) (fun v117 F117 A117 hq117 => ?_)
                    obtain ⟨rfl, rfl, r117, rfl, hr117⟩ := hq117
                    have hb117 : r117 ≤ 1 := by omega
                    refine j_if_eqN (tgt := 171) dX6_bound_120 (by decide) (by omega) (fun c120 => ?_) (fun c120 => ?_)
                    · refine j_iload_n dX6_bound_171 rfl ?_
                      refine j_iload_n dX6_bound_172 rfl ?_
                      refine j_iadd dX6_bound_173 ?_
                      refine j_callS (y' := mX6_atMost) (As := [.int (su + le)]) (st := []) dX6_bound_174 lkX6_191 okX6_atMost stX6_atMost rfl (Nat.le_of_ble_eq_true rfl) (Nat.le_of_ble_eq_true rfl) (m_atMost z _ (su + le) F A) (fun v174 F174 A174 hq174 => ?_)
                      obtain ⟨rfl, rfl, r174, rfl, hr174⟩ := hq174
                      refine j_istore_n (lv' := [(0, .ref 0), (1, .int r174), (2, .int (nI u)), (3, .int le), (4, .int (nI v)), (5, .int (nI k))]) dX6_bound_177 (Nat.le_of_ble_eq_true rfl) rfl rfl ?_
                      refine j_iinc (v := nI (v + 1)) (lv' := [(0, .ref 0), (1, .int r174), (2, .int (nI u)), (3, .int le), (4, .int (nI (v + 1))), (5, .int (nI k))]) dX6_bound_178 rfl (nI_add _ 1) (Nat.le_of_ble_eq_true rfl) rfl rfl ?_
                      refine j_goto (tgt := 68) dX6_bound_181 (by decide) ?_
                      refine j_sub [0, 1, 2, 4] rfl ?_
                      exact ih68 r174 (v + 1) (by first | exact h2 | omega) (by omega)
                    · refine j_aload_n dX6_bound_123 rfl ?_
                      refine j_iload_n dX6_bound_124 rfl ?_
                      refine j_iload dX6_bound_125 rfl ?_
                      refine j_iload dX6_bound_127 rfl ?_
                      refine j_aload_n dX6_bound_129 rfl ?_
                      refine j_getR (r := 2) dX6_bound_130 flX6_13 (Nat.le_of_ble_eq_true rfl) rfl rfl ?_
                      refine j_iload dX6_bound_133 rfl ?_
                      refine j_ialdN dX6_bound_135 (Nat.le_of_ble_eq_true rfl) rfl (by omega) (by decide) ?_
                      refine j_top (y0 := nI (mm v)) (hM.2.1.2.2.1 _ (by omega)) ?_
                      refine j_idivN dX6_bound_136 (by omega) (by omega) (by omega) ?_
                      refine j_iload dX6_bound_137 rfl ?_
                      refine j_aload_n dX6_bound_139 rfl ?_
                      refine j_getR (r := 2) dX6_bound_140 flX6_13 (Nat.le_of_ble_eq_true rfl) rfl rfl ?_
                      refine j_iload dX6_bound_143 rfl ?_
                      refine j_ialdN dX6_bound_145 (Nat.le_of_ble_eq_true rfl) rfl (by omega) (by decide) ?_
                      refine j_top (y0 := nI (mm v)) (hM.2.1.2.2.1 _ (by omega)) ?_
                      refine j_iremN dX6_bound_146 (by omega) (by omega) (by omega) ?_
                      refine j_callV (y' := mX6_tieOf) (As := [.int (nI u), .int (nI v), .int (nI (k / (mm v))), .int (nI (k % (mm v)))]) (st := []) dX6_bound_147 lkX6_162 okX6_tieOf imX6_tieOf seX6_tieOf (Nat.le_of_ble_eq_true rfl) rfl rfl rfl rfl (Nat.le_of_ble_eq_true rfl) (Nat.le_of_ble_eq_true rfl) (m_tieOf0 z _ u v (k / (mm v)) (k % (mm v)) (by omega) (by omega) (by omega) (by omega) (by omega) F A) (fun v147 F147 A147 hq147 => ?_)
                      obtain ⟨rfl, rfl, r147, rfl, -⟩ := hq147
                      refine j_istore (lv' := [(0, .ref 0), (1, .int su), (2, .int (nI u)), (3, .int le), (4, .int (nI v)), (5, .int (nI k)), (6, .int r147)]) dX6_bound_150 (Nat.le_of_ble_eq_true rfl) rfl rfl ?_
                      refine j_iload dX6_bound_152 rfl ?_
                      refine j_iload_n dX6_bound_154 rfl ?_
                      refine j_icmp_ge (tgt := 163) dX6_bound_155 (by decide) (fun c155 => ?_) (fun c155 => ?_)
                      · refine j_iload_n dX6_bound_163 rfl ?_
                        refine j_istore_n (lv' := [(0, .ref 0), (1, .int su), (2, .int (nI u)), (3, .int le), (4, .int (nI v)), (5, .int (nI k)), (6, .int r147)]) dX6_bound_164 (Nat.le_of_ble_eq_true rfl) rfl rfl ?_
                        refine j_iinc (v := nI (k + 1)) (lv' := [(0, .ref 0), (1, .int su), (2, .int (nI u)), (3, .int le), (4, .int (nI v)), (5, .int (nI (k + 1))), (6, .int r147)]) dX6_bound_165 rfl (nI_add _ 1) (Nat.le_of_ble_eq_true rfl) rfl rfl ?_
                        refine j_goto (tgt := 94) dX6_bound_168 (by decide) ?_
                        refine j_sub [0, 1, 2, 3, 4, 5] rfl ?_
                        exact ih94 le (k + 1) (by first | exact h3 | omega) (by omega)
                      · refine j_iload dX6_bound_158 rfl ?_
                        refine j_goto (tgt := 164) dX6_bound_160 (by decide) ?_
                        refine j_istore_n (lv' := [(0, .ref 0), (1, .int su), (2, .int (nI u)), (3, .int r147), (4, .int (nI v)), (5, .int (nI k)), (6, .int r147)]) dX6_bound_164 (Nat.le_of_ble_eq_true rfl) rfl rfl ?_
                        refine j_iinc (v := nI (k + 1)) (lv' := [(0, .ref 0), (1, .int su), (2, .int (nI u)), (3, .int r147), (4, .int (nI v)), (5, .int (nI (k + 1))), (6, .int r147)]) dX6_bound_165 rfl (nI_add _ 1) (Nat.le_of_ble_eq_true rfl) rfl rfl ?_
                        refine j_goto (tgt := 94) dX6_bound_168 (by decide) ?_
                        refine j_sub [0, 1, 2, 3, 4, 5] rfl ?_
                        exact ih94 r147 (k + 1) (by first | exact h3 | omega) (by omega)
              refine j_aload_n dX6_bound_74 rfl ?_
              refine j_iload_n dX6_bound_75 rfl ?_
              refine j_iload dX6_bound_76 rfl ?_
              refine j_callV (y' := mX6_isTied) (As := [.int (nI u), .int (nI v)]) (st := []) dX6_bound_78 lkX6_146 okX6_isTied imX6_isTied seX6_isTied (Nat.le_of_ble_eq_true rfl) rfl rfl rfl rfl (Nat.le_of_ble_eq_true rfl) (Nat.le_of_ble_eq_true rfl) (m_isTied z _ u v (by omega) (by omega) F A) (fun v78 F78 A78 hq78 => ?_)
              obtain ⟨rfl, rfl, r78, rfl, hr78⟩ := hq78
              have hb78 : r78 ≤ 1 := by omega
              refine j_if_eqN (tgt := 89) dX6_bound_81 (by decide) (by omega) (fun c81 => ?_) (fun c81 => ?_)
              · refine j_iconst (v := nI 0) dX6_bound_89 (by decide +kernel) ?_
                refine j_istore_n (lv' := [(0, .ref 0), (1, .int su), (2, .int (nI u)), (4, .int (nI v)), (3, .int (nI 0))]) dX6_bound_90 (Nat.le_of_ble_eq_true rfl) rfl rfl ?_
                refine j_iconst (v := nI 0) dX6_bound_91 (by decide +kernel) ?_
                refine j_istore (lv' := [(0, .ref 0), (1, .int su), (2, .int (nI u)), (4, .int (nI v)), (3, .int (nI 0)), (5, .int (nI 0))]) dX6_bound_92 (Nat.le_of_ble_eq_true rfl) rfl rfl ?_
                refine j_sub [0, 1, 2, 4, 3, 5] rfl ?_
                exact L94 _ (nI 0) 0 (by first | exact h3 | omega) (Nat.lt_succ_self _)
              · refine j_ldc dX6_bound_84 kcX6_145 ?_
                refine j_goto (tgt := 90) dX6_bound_86 (by decide) ?_
                refine j_istore_n (lv' := [(0, .ref 0), (1, .int su), (2, .int (nI u)), (4, .int (nI v)), (3, .int 1000000)]) dX6_bound_90 (Nat.le_of_ble_eq_true rfl) rfl rfl ?_
                refine j_iconst (v := nI 0) dX6_bound_91 (by decide +kernel) ?_
                refine j_istore (lv' := [(0, .ref 0), (1, .int su), (2, .int (nI u)), (4, .int (nI v)), (3, .int 1000000), (5, .int (nI 0))]) dX6_bound_92 (Nat.le_of_ble_eq_true rfl) rfl rfl ?_
                refine j_sub [0, 1, 2, 4, 3, 5] rfl ?_
                exact L94 _ 1000000 0 (by first | exact h3 | omega) (Nat.lt_succ_self _)
        have L18 : ∀ (fuel : Nat) (le : Int32) (i : Nat), (i ≤ mm u) → mm u - i < fuel → J (gM z) mX6_bound (d + 2) 18 [(0, .ref 0), (1, .int su), (2, .int (nI u)), (3, .int le), (4, .int (nI i))] [] F A (qP F A fun _ => True) := by
          intro fuel
          induction fuel with
          | zero => intro le i h2 hf; exact absurd hf (by omega)
          | succ fuel ih18 =>
            intro le i h2 hf
            refine j_iload dX6_bound_18 rfl ?_
            refine j_aload_n dX6_bound_20 rfl ?_
            refine j_getR (r := 2) dX6_bound_21 flX6_13 (Nat.le_of_ble_eq_true rfl) rfl rfl ?_
            refine j_iload_n dX6_bound_24 rfl ?_
            refine j_ialdN dX6_bound_25 (Nat.le_of_ble_eq_true rfl) rfl (by omega) (by decide) ?_
            refine j_top (y0 := nI (mm u)) (hM.2.1.2.2.1 _ (by omega)) ?_
            refine j_icmp_geN (tgt := 58) dX6_bound_26 (by decide) (by omega) (by omega) (fun c26 => ?_) (fun c26 => ?_)
            · refine j_iload_n dX6_bound_58 rfl ?_
              refine j_iload_n dX6_bound_59 rfl ?_
              refine j_iadd dX6_bound_60 ?_
              refine j_callS (y' := mX6_atMost) (As := [.int (su + le)]) (st := []) dX6_bound_61 lkX6_191 okX6_atMost stX6_atMost rfl (Nat.le_of_ble_eq_true rfl) (Nat.le_of_ble_eq_true rfl) (m_atMost z _ (su + le) F A) (fun v61 F61 A61 hq61 => ?_)
              obtain ⟨rfl, rfl, r61, rfl, hr61⟩ := hq61
              refine j_istore_n (lv' := [(0, .ref 0), (1, .int r61), (2, .int (nI u)), (3, .int le), (4, .int (nI i))]) dX6_bound_64 (Nat.le_of_ble_eq_true rfl) rfl rfl ?_
              refine j_iconst (v := nI 0) dX6_bound_65 (by decide +kernel) ?_
              refine j_istore (lv' := [(0, .ref 0), (1, .int r61), (2, .int (nI u)), (3, .int le), (4, .int (nI 0))]) dX6_bound_66 (Nat.le_of_ble_eq_true rfl) rfl rfl ?_
              refine j_sub [0, 1, 2, 4] rfl ?_
              exact L68 _ r61 0 (by first | exact h2 | omega) (Nat.lt_succ_self _)
            · refine j_aload_n dX6_bound_29 rfl ?_
              refine j_iload_n dX6_bound_30 rfl ?_
              refine j_iload dX6_bound_31 rfl ?_
              refine j_callV (y' := mX6_costOf) (As := [.int (nI u), .int (nI i)]) (st := []) dX6_bound_33 lkX6_158 okX6_costOf imX6_costOf seX6_costOf (Nat.le_of_ble_eq_true rfl) rfl rfl rfl rfl (Nat.le_of_ble_eq_true rfl) (Nat.le_of_ble_eq_true rfl) (m_costOf0 z _ u i (by omega) (by omega) F A) (fun v33 F33 A33 hq33 => ?_)
              obtain ⟨rfl, rfl, r33, rfl, -⟩ := hq33
              refine j_iload_n dX6_bound_36 rfl ?_
              refine j_icmp_ge (tgt := 50) dX6_bound_37 (by decide) (fun c37 => ?_) (fun c37 => ?_)
              · refine j_iload_n dX6_bound_50 rfl ?_
                refine j_istore_n (lv' := [(0, .ref 0), (1, .int su), (2, .int (nI u)), (3, .int le), (4, .int (nI i))]) dX6_bound_51 (Nat.le_of_ble_eq_true rfl) rfl rfl ?_
                refine j_iinc (v := nI (i + 1)) (lv' := [(0, .ref 0), (1, .int su), (2, .int (nI u)), (3, .int le), (4, .int (nI (i + 1)))]) dX6_bound_52 rfl (nI_add _ 1) (Nat.le_of_ble_eq_true rfl) rfl rfl ?_
                refine j_goto (tgt := 18) dX6_bound_55 (by decide) ?_
                exact ih18 le (i + 1) (by first | exact h2 | omega) (by omega)
              · refine j_aload_n dX6_bound_40 rfl ?_
                refine j_iload_n dX6_bound_41 rfl ?_
                refine j_iload dX6_bound_42 rfl ?_
                refine j_callV (y' := mX6_costOf) (As := [.int (nI u), .int (nI i)]) (st := []) dX6_bound_44 lkX6_158 okX6_costOf imX6_costOf seX6_costOf (Nat.le_of_ble_eq_true rfl) rfl rfl rfl rfl (Nat.le_of_ble_eq_true rfl) (Nat.le_of_ble_eq_true rfl) (m_costOf0 z _ u i (by omega) (by omega) F A) (fun v44 F44 A44 hq44 => ?_)
                obtain ⟨rfl, rfl, r44, rfl, -⟩ := hq44
                refine j_goto (tgt := 51) dX6_bound_47 (by decide) ?_
                refine j_istore_n (lv' := [(0, .ref 0), (1, .int su), (2, .int (nI u)), (3, .int r44), (4, .int (nI i))]) dX6_bound_51 (Nat.le_of_ble_eq_true rfl) rfl rfl ?_
                refine j_iinc (v := nI (i + 1)) (lv' := [(0, .ref 0), (1, .int su), (2, .int (nI u)), (3, .int r44), (4, .int (nI (i + 1)))]) dX6_bound_52 rfl (nI_add _ 1) (Nat.le_of_ble_eq_true rfl) rfl rfl ?_
                refine j_goto (tgt := 18) dX6_bound_55 (by decide) ?_
                exact ih18 r44 (i + 1) (by first | exact h2 | omega) (by omega)
        refine j_ldc dX6_bound_12 kcX6_145 ?_
        refine j_istore_n (lv' := [(0, .ref 0), (1, .int su), (2, .int (nI u)), (3, .int 1000000)]) dX6_bound_14 (Nat.le_of_ble_eq_true rfl) rfl rfl ?_
        refine j_iconst (v := nI 0) dX6_bound_15 (by decide +kernel) ?_
        refine j_istore (lv' := [(0, .ref 0), (1, .int su), (2, .int (nI u)), (3, .int 1000000), (4, .int (nI 0))]) dX6_bound_16 (Nat.le_of_ble_eq_true rfl) rfl rfl ?_
        exact L18 _ 1000000 0 (by first | exact h2 | omega) (Nat.lt_succ_self _)
  refine j_iconst (v := nI 0) dX6_bound_0 (by decide +kernel) ?_
  refine j_istore_n (lv' := [(0, .ref 0), (1, .int (nI 0))]) dX6_bound_1 (Nat.le_of_ble_eq_true rfl) rfl rfl ?_
  refine j_iconst (v := nI 0) dX6_bound_2 (by decide +kernel) ?_
  refine j_istore_n (lv' := [(0, .ref 0), (1, .int (nI 0)), (2, .int (nI 0))]) dX6_bound_3 (Nat.le_of_ble_eq_true rfl) rfl rfl ?_
  exact L4 _ (nI 0) 0 (by first | exact h1 | omega) (Nat.lt_succ_self _)

set_option maxHeartbeats 400000 in
set_option maxRecDepth 100000 in
theorem m_least (z : mj_B) (d : Nat) (L : Lg) (n : Nat) (mm : Nat → Nat) (rn : Nat) (rm : Nat → Nat) (un kn : Nat) (x1 : Int32) (F A : mj_S) (hM : MI L n mm rn rm un kn F A) : J (gM z) mX6_least (d + 4) 0 [(0, .ref 0), (1, .int x1)] [] F A (fun v F' A' => ∃ (x : Int32), v = some (.int x) ∧ MI L n mm rn rm un kn F' A') := by
  have hM0 := hM.1.2.1
  have hM1 := hM.2.1.2.1
  have hM2 := hM.2.2.1.2.1
  have hM3 := hM.2.2.2.1.2
  have hM4 := hM.2.2.2.2.1.2
  refine j_iload_n dX6_least_0 rfl ?_
  refine j_i2l dX6_least_1 rfl ?_
  refine j_lconst (v := 0) dX6_least_2 rfl ?_
  refine j_ldc2 dX6_least_3 klX6_239 ?_
  refine j_callS (y' := mX6_in) (As := [.long (x1.toInt64), .long (0), .long ((4))]) (st := []) dX6_least_6 lkX6_89 okX6_in stX6_in rfl (Nat.le_of_ble_eq_true rfl) (Nat.le_of_ble_eq_true rfl) (m_in z _ x1.toInt64 0 (4) F A) (fun v6 F6 A6 hq6 => ?_)
  obtain ⟨rfl, rfl, r6, rfl, hr6⟩ := hq6
  have hb6 : r6 ≤ 1 := by omega
  refine j_if_neN (tgt := 14) dX6_least_9 (by decide) (by omega) (fun c9 => ?_) (fun c9 => ?_)
  · refine j_iload_n dX6_least_14 rfl ?_
    refine j_iconst (v := nI 4) dX6_least_15 (by decide +kernel) ?_
    refine j_icmp_ne (tgt := 24) dX6_least_16 (by decide) (fun c16 => ?_) (fun c16 => ?_)
    · refine j_aload_n dX6_least_24 rfl ?_
      refine j_bipush (v := (-4)) dX6_least_25 (by decide +kernel) ?_
      refine j_iconst (v := nI 0) dX6_least_27 (by decide +kernel) ?_
      refine j_callV (y' := mX6_goAll) (As := [.int ((-4)), .int (nI 0)]) (st := []) dX6_least_28 lkX6_244 okX6_goAll imX6_goAll seX6_goAll (Nat.le_of_ble_eq_true rfl) rfl rfl rfl rfl (Nat.le_of_ble_eq_true rfl) (Nat.le_of_ble_eq_true rfl) (m_goAll z _ _ _ _ _ _ _ _ (-4) (nI 0) (Or.inl rfl) F A hM) (fun v28 F28 A28 hq28 => ?_)
      obtain ⟨rfl, hM⟩ := hq28
      refine j_aload_n dX6_least_31 rfl ?_
      refine j_getI dX6_least_32 flX6_227 (Nat.le_of_ble_eq_true rfl) rfl rfl ?_
      refine j_ldc dX6_least_35 kcX6_145 ?_
      refine j_icmp_ne (tgt := 44) dX6_least_37 (by decide) (fun c37 => ?_) (fun c37 => ?_)
      · refine j_iconst (v := nI 0) dX6_least_44 (by decide +kernel) ?_
        refine j_istore_n (lv' := [(0, .ref 0), (1, .int x1), (2, .int (nI 0))]) dX6_least_45 (Nat.le_of_ble_eq_true rfl) rfl rfl ?_
        refine j_iload_n dX6_least_46 rfl ?_
        refine j_if_ne (tgt := 57) dX6_least_47 (by decide) (fun c47 => ?_) (fun c47 => ?_)
        · refine j_iload_n dX6_least_57 rfl ?_
          refine j_iconst (v := nI 1) dX6_least_58 (by decide +kernel) ?_
          refine j_icmp_ne (tgt := 69) dX6_least_59 (by decide) (fun c59 => ?_) (fun c59 => ?_)
          · refine j_iload_n dX6_least_69 rfl ?_
            refine j_iconst (v := nI 2) dX6_least_70 (by decide +kernel) ?_
            refine j_icmp_ne (tgt := 90) dX6_least_71 (by decide) (fun c71 => ?_) (fun c71 => ?_)
            · refine j_iload_n dX6_least_90 rfl ?_
              refine j_if_neN (tgt := 103) dX6_least_91 (by decide) (by omega) (fun c91 => ?_) (fun c91 => ?_)
              · refine j_bipush (v := (-4)) dX6_least_103 (by decide +kernel) ?_
                refine j_goto (tgt := 112) dX6_least_105 (by decide) ?_
                exact j_iret dX6_least_112 rfl rfl ⟨_, rfl, hM⟩
              · refine j_aload_n dX6_least_94 rfl ?_
                refine j_getI dX6_least_95 flX6_233 (Nat.le_of_ble_eq_true rfl) rfl rfl ?_
                refine j_ldc dX6_least_98 kcX6_145 ?_
                refine j_icmp_ne (tgt := 108) dX6_least_100 (by decide) (fun c100 => ?_) (fun c100 => ?_)
                · refine j_aload_n dX6_least_108 rfl ?_
                  refine j_getI dX6_least_109 flX6_233 (Nat.le_of_ble_eq_true rfl) rfl rfl ?_
                  exact j_iret dX6_least_112 rfl rfl ⟨_, rfl, hM⟩
                · refine j_bipush (v := (-4)) dX6_least_103 (by decide +kernel) ?_
                  refine j_goto (tgt := 112) dX6_least_105 (by decide) ?_
                  exact j_iret dX6_least_112 rfl rfl ⟨_, rfl, hM⟩
            · refine j_iload_n dX6_least_74 rfl ?_
              refine j_if_eqN (tgt := 83) dX6_least_75 (by decide) (by omega) (fun c75 => ?_) (fun c75 => ?_)
              · refine j_aload_n dX6_least_83 rfl ?_
                refine j_callV (y' := mX6_sameSet) (As := []) (st := []) dX6_least_84 lkX6_247 okX6_sameSet imX6_sameSet seX6_sameSet (Nat.le_of_ble_eq_true rfl) rfl rfl rfl rfl (Nat.le_of_ble_eq_true rfl) (Nat.le_of_ble_eq_true rfl) (m_sameSet z _ _ _ _ _ _ _ _ F28 A28 hM) (fun v84 F84 A84 hq84 => ?_)
                obtain ⟨rfl, rfl, r84, rfl, hr84⟩ := hq84
                refine j_goto (tgt := 112) dX6_least_87 (by decide) ?_
                exact j_iret dX6_least_112 rfl rfl ⟨_, rfl, hM⟩
              · refine j_bipush (v := (-4)) dX6_least_78 (by decide +kernel) ?_
                refine j_goto (tgt := 112) dX6_least_80 (by decide) ?_
                exact j_iret dX6_least_112 rfl rfl ⟨_, rfl, hM⟩
          · refine j_aload_n dX6_least_62 rfl ?_
            refine j_getI dX6_least_63 flX6_230 (Nat.le_of_ble_eq_true rfl) rfl rfl ?_
            refine j_goto (tgt := 112) dX6_least_66 (by decide) ?_
            exact j_iret dX6_least_112 rfl rfl ⟨_, rfl, hM⟩
        · refine j_aload_n dX6_least_50 rfl ?_
          refine j_getI dX6_least_51 flX6_227 (Nat.le_of_ble_eq_true rfl) rfl rfl ?_
          refine j_goto (tgt := 112) dX6_least_54 (by decide) ?_
          exact j_iret dX6_least_112 rfl rfl ⟨_, rfl, hM⟩
      · refine j_iconst (v := nI 1) dX6_least_40 (by decide +kernel) ?_
        refine j_goto (tgt := 45) dX6_least_41 (by decide) ?_
        refine j_istore_n (lv' := [(0, .ref 0), (1, .int x1), (2, .int (nI 1))]) dX6_least_45 (Nat.le_of_ble_eq_true rfl) rfl rfl ?_
        refine j_iload_n dX6_least_46 rfl ?_
        refine j_if_ne (tgt := 57) dX6_least_47 (by decide) (fun c47 => ?_) (fun c47 => ?_)
        · refine j_iload_n dX6_least_57 rfl ?_
          refine j_iconst (v := nI 1) dX6_least_58 (by decide +kernel) ?_
          refine j_icmp_ne (tgt := 69) dX6_least_59 (by decide) (fun c59 => ?_) (fun c59 => ?_)
          · refine j_iload_n dX6_least_69 rfl ?_
            refine j_iconst (v := nI 2) dX6_least_70 (by decide +kernel) ?_
            refine j_icmp_ne (tgt := 90) dX6_least_71 (by decide) (fun c71 => ?_) (fun c71 => ?_)
            · refine j_iload_n dX6_least_90 rfl ?_
              refine j_if_neN (tgt := 103) dX6_least_91 (by decide) (by omega) (fun c91 => ?_) (fun c91 => ?_)
              · refine j_bipush (v := (-4)) dX6_least_103 (by decide +kernel) ?_
                refine j_goto (tgt := 112) dX6_least_105 (by decide) ?_
                exact j_iret dX6_least_112 rfl rfl ⟨_, rfl, hM⟩
              · refine j_aload_n dX6_least_94 rfl ?_
                refine j_getI dX6_least_95 flX6_233 (Nat.le_of_ble_eq_true rfl) rfl rfl ?_
                refine j_ldc dX6_least_98 kcX6_145 ?_
                refine j_icmp_ne (tgt := 108) dX6_least_100 (by decide) (fun c100 => ?_) (fun c100 => ?_)
                · refine j_aload_n dX6_least_108 rfl ?_
                  refine j_getI dX6_least_109 flX6_233 (Nat.le_of_ble_eq_true rfl) rfl rfl ?_
                  exact j_iret dX6_least_112 rfl rfl ⟨_, rfl, hM⟩
                · refine j_bipush (v := (-4)) dX6_least_103 (by decide +kernel) ?_
                  refine j_goto (tgt := 112) dX6_least_105 (by decide) ?_
                  exact j_iret dX6_least_112 rfl rfl ⟨_, rfl, hM⟩
            · refine j_iload_n dX6_least_74 rfl ?_
              refine j_if_eqN (tgt := 83) dX6_least_75 (by decide) (by omega) (fun c75 => ?_) (fun c75 => ?_)
              · refine j_aload_n dX6_least_83 rfl ?_
                refine j_callV (y' := mX6_sameSet) (As := []) (st := []) dX6_least_84 lkX6_247 okX6_sameSet imX6_sameSet seX6_sameSet (Nat.le_of_ble_eq_true rfl) rfl rfl rfl rfl (Nat.le_of_ble_eq_true rfl) (Nat.le_of_ble_eq_true rfl) (m_sameSet z _ _ _ _ _ _ _ _ F28 A28 hM) (fun v84 F84 A84 hq84 => ?_)
                obtain ⟨rfl, rfl, r84, rfl, hr84⟩ := hq84
                refine j_goto (tgt := 112) dX6_least_87 (by decide) ?_
                exact j_iret dX6_least_112 rfl rfl ⟨_, rfl, hM⟩
              · refine j_bipush (v := (-4)) dX6_least_78 (by decide +kernel) ?_
                refine j_goto (tgt := 112) dX6_least_80 (by decide) ?_
                exact j_iret dX6_least_112 rfl rfl ⟨_, rfl, hM⟩
          · refine j_aload_n dX6_least_62 rfl ?_
            refine j_getI dX6_least_63 flX6_230 (Nat.le_of_ble_eq_true rfl) rfl rfl ?_
            refine j_goto (tgt := 112) dX6_least_66 (by decide) ?_
            exact j_iret dX6_least_112 rfl rfl ⟨_, rfl, hM⟩
        · refine j_aload_n dX6_least_50 rfl ?_
          refine j_getI dX6_least_51 flX6_227 (Nat.le_of_ble_eq_true rfl) rfl rfl ?_
          refine j_goto (tgt := 112) dX6_least_54 (by decide) ?_
          exact j_iret dX6_least_112 rfl rfl ⟨_, rfl, hM⟩
    · refine j_aload_n dX6_least_19 rfl ?_
      refine j_callV (y' := mX6_bound) (As := []) (st := []) dX6_least_20 lkX6_241 okX6_bound imX6_bound seX6_bound (Nat.le_of_ble_eq_true rfl) rfl rfl rfl rfl (Nat.le_of_ble_eq_true rfl) (Nat.le_of_ble_eq_true rfl) (m_bound z _ _ _ _ _ _ _ _ F A hM) (fun v20 F20 A20 hq20 => ?_)
      obtain ⟨rfl, rfl, r20, rfl, hr20⟩ := hq20
      exact j_iret dX6_least_23 rfl rfl ⟨_, rfl, hM⟩
  · refine j_iconst (v := (-1)) dX6_least_12 (by decide +kernel) ?_
    exact j_iret dX6_least_13 rfl rfl ⟨_, rfl, hM⟩

set_option maxHeartbeats 400000 in
set_option maxRecDepth 100000 in
theorem m_first (z : mj_B) (d : Nat) (L : Lg) (n : Nat) (mm : Nat → Nat) (rn : Nat) (rm : Nat → Nat) (un kn : Nat) (x1 : Int32) (F A : mj_S) (hM : MI L n mm rn rm un kn F A) : J (gM z) mX6_first (d + 4) 0 [(0, .ref 0), (1, .int x1)] [] F A (fun v F' A' => ∃ (x : Int32), v = some (.int x) ∧ MI L n mm rn rm un kn F' A') := by
  have hM0 := hM.1.2.1
  have hM1 := hM.2.1.2.1
  have hM2 := hM.2.2.1.2.1
  have hM3 := hM.2.2.2.1.2
  have hM4 := hM.2.2.2.2.1.2
  refine j_aload_n dX6_first_0 rfl ?_
  refine j_iload_n dX6_first_1 rfl ?_
  refine j_callV (y' := mX6_isNode) (As := [.int x1]) (st := []) dX6_first_2 lkX6_141 okX6_isNode imX6_isNode seX6_isNode (Nat.le_of_ble_eq_true rfl) rfl rfl rfl rfl (Nat.le_of_ble_eq_true rfl) (Nat.le_of_ble_eq_true rfl) (m_isNode z _ _ _ _ _ _ _ _ x1 F A hM) (fun v2 F2 A2 hq2 => ?_)
  obtain ⟨rfl, rfl, r2, rfl, hr2⟩ := hq2
  have hb2 : r2 ≤ 1 := by omega
  refine j_if_neN (tgt := 10) dX6_first_5 (by decide) (by omega) (fun c5 => ?_) (fun c5 => ?_)
  · obtain ⟨j, hj, rfl⟩ := (hr2.resolve_right (fun h => by omega)).2
    have h8j : j < 8 := by omega
    refine j_aload_n dX6_first_10 rfl ?_
    refine j_bipush (v := (-4)) dX6_first_11 (by decide +kernel) ?_
    refine j_iconst (v := nI 0) dX6_first_13 (by decide +kernel) ?_
    refine j_callV (y' := mX6_goAll) (As := [.int ((-4)), .int (nI 0)]) (st := []) dX6_first_14 lkX6_244 okX6_goAll imX6_goAll seX6_goAll (Nat.le_of_ble_eq_true rfl) rfl rfl rfl rfl (Nat.le_of_ble_eq_true rfl) (Nat.le_of_ble_eq_true rfl) (m_goAll z _ _ _ _ _ _ _ _ (-4) (nI 0) (Or.inl rfl) F A hM) (fun v14 F14 A14 hq14 => ?_)
    obtain ⟨rfl, hM⟩ := hq14
    refine j_aload_n dX6_first_17 rfl ?_
    refine j_getR (r := 15) dX6_first_18 flX6_52 (Nat.le_of_ble_eq_true rfl) rfl rfl ?_
    refine j_iload_n dX6_first_21 rfl ?_
    refine j_ialdN dX6_first_22 (Nat.le_of_ble_eq_true rfl) rfl (by omega) (by decide) ?_
    exact j_iret dX6_first_23 rfl rfl ⟨_, rfl, hM⟩
  · refine j_iconst (v := (-1)) dX6_first_8 (by decide +kernel) ?_
    exact j_iret dX6_first_9 rfl rfl ⟨_, rfl, hM⟩

set_option maxHeartbeats 400000 in
set_option maxRecDepth 100000 in
theorem m_with (z : mj_B) (d : Nat) (L : Lg) (n : Nat) (mm : Nat → Nat) (rn : Nat) (rm : Nat → Nat) (un kn : Nat) (x1 x2 : Int32) (F A : mj_S) (hM : MI L n mm rn rm un kn F A) : J (gM z) mX6_with (d + 4) 0 [(0, .ref 0), (1, .int x1), (2, .int x2)] [] F A (fun v F' A' => ∃ (x : Int32), v = some (.int x) ∧ MI L n mm rn rm un kn F' A') := by
  have hM0 := hM.1.2.1
  have hM1 := hM.2.1.2.1
  have hM2 := hM.2.2.1.2.1
  have hM3 := hM.2.2.2.1.2
  have hM4 := hM.2.2.2.2.1.2
  refine j_aload_n dX6_with_0 rfl ?_
  refine j_iload_n dX6_with_1 rfl ?_
  refine j_iload_n dX6_with_2 rfl ?_
  refine j_callV (y' := mX6_isChoice) (As := [.int x1, .int x2]) (st := []) dX6_with_3 lkX6_155 okX6_isChoice imX6_isChoice seX6_isChoice (Nat.le_of_ble_eq_true rfl) rfl rfl rfl rfl (Nat.le_of_ble_eq_true rfl) (Nat.le_of_ble_eq_true rfl) (m_isChoice z _ _ _ _ _ _ _ _ x1 x2 F A hM) (fun v3 F3 A3 hq3 => ?_)
  obtain ⟨rfl, rfl, r3, rfl, hr3⟩ := hq3
  have hb3 : r3 ≤ 1 := by omega
  refine j_if_neN (tgt := 11) dX6_with_6 (by decide) (by omega) (fun c6 => ?_) (fun c6 => ?_)
  · obtain ⟨j, k, hj, hk, rfl, rfl⟩ := (hr3.resolve_right (fun h => by omega)).2
    have h8j : j < 8 := by omega
    have h4k := hM.2.1.2.2.2.1 j
    refine j_aload_n dX6_with_11 rfl ?_
    refine j_iload_n dX6_with_12 rfl ?_
    refine j_iload_n dX6_with_13 rfl ?_
    refine j_callV (y' := mX6_goAll) (As := [.int (nI j), .int (nI k)]) (st := []) dX6_with_14 lkX6_244 okX6_goAll imX6_goAll seX6_goAll (Nat.le_of_ble_eq_true rfl) rfl rfl rfl rfl (Nat.le_of_ble_eq_true rfl) (Nat.le_of_ble_eq_true rfl) (m_goAll z _ _ _ _ _ _ _ _ (nI j) (nI k) (Or.inr ⟨_, hj, rfl⟩) F A hM) (fun v14 F14 A14 hq14 => ?_)
    obtain ⟨rfl, hM⟩ := hq14
    refine j_aload_n dX6_with_17 rfl ?_
    refine j_getI dX6_with_18 flX6_227 (Nat.le_of_ble_eq_true rfl) rfl rfl ?_
    exact j_iret dX6_with_21 rfl rfl ⟨_, rfl, hM⟩
  · refine j_iconst (v := (-1)) dX6_with_9 (by decide +kernel) ?_
    exact j_iret dX6_with_10 rfl rfl ⟨_, rfl, hM⟩

set_option maxHeartbeats 400000 in
set_option maxRecDepth 100000 in
theorem m_without (z : mj_B) (d : Nat) (L : Lg) (n : Nat) (mm : Nat → Nat) (rn : Nat) (rm : Nat → Nat) (un kn : Nat) (x1 x2 : Int32) (F A0 : mj_S) (hM : MI L n mm rn rm un kn F A0) : J (gM z) mX6_without (d + 4) 0 [(0, .ref 0), (1, .int x1), (2, .int x2)] [] F A0 (fun w F' A' => ∃ (x : Int32), w = some (.int x) ∧ MI (L.1, A') n mm rn rm un kn F' A' ∧ A' 1 = A0 1 ∧ A' 5 = A0 5 ∧ A' 6 = A0 6 ∧ A' 7 = A0 7) := by
  have hM0 := hM.1.2.1
  have hM1 := hM.2.1.2.1
  have hM2 := hM.2.2.1.2.1
  have hM3 := hM.2.2.2.1.2
  have hM4 := hM.2.2.2.2.1.2
  refine j_aload_n dX6_without_0 rfl ?_
  refine j_iload_n dX6_without_1 rfl ?_
  refine j_iload_n dX6_without_2 rfl ?_
  refine j_callV (y' := mX6_isPair) (As := [.int x1, .int x2]) (st := []) dX6_without_3 lkX6_170 okX6_isPair imX6_isPair seX6_isPair (Nat.le_of_ble_eq_true rfl) rfl rfl rfl rfl (Nat.le_of_ble_eq_true rfl) (Nat.le_of_ble_eq_true rfl) (m_isPair z _ _ _ _ _ _ _ _ x1 x2 F A0 hM) (fun v3 F3 A3 hq3 => ?_)
  obtain ⟨rfl, rfl, r3, rfl, hr3⟩ := hq3
  have hb3 : r3 ≤ 1 := by omega
  refine j_if_neN (tgt := 11) dX6_without_6 (by decide) (by omega) (fun c6 => ?_) (fun c6 => ?_)
  · obtain ⟨j, k, hj, hk, hne, rfl, rfl⟩ := (hr3.resolve_right (fun h => by omega)).2
    have h8j : j < 8 := by omega
    have h8k : k < 8 := by omega
    refine j_aload_n dX6_without_11 rfl ?_
    refine j_iload_n dX6_without_12 rfl ?_
    refine j_iload_n dX6_without_13 rfl ?_
    refine j_callV (y' := mX6_isTied) (As := [.int (nI j), .int (nI k)]) (st := []) dX6_without_14 lkX6_146 okX6_isTied imX6_isTied seX6_isTied (Nat.le_of_ble_eq_true rfl) rfl rfl rfl rfl (Nat.le_of_ble_eq_true rfl) (Nat.le_of_ble_eq_true rfl) (m_isTied z _ j k (by omega) (by omega) F A0) (fun v14 F14 A14 hq14 => ?_)
    obtain ⟨rfl, rfl, r14, rfl, hr14⟩ := hq14
    have hb14 : r14 ≤ 1 := by omega
    refine j_if_neN (tgt := 23) dX6_without_17 (by decide) (by omega) (fun c17 => ?_) (fun c17 => ?_)
    · have hM := hM.k
      have L25 : ∀ (fuel : Nat) (q : Nat) (A : mj_S), (MK L.1 n mm rn rm un kn F A) → (q ≤ 16) → (A 1 = A0 1 ∧ A 5 = A0 5 ∧ A 6 = A0 6 ∧ A 7 = A0 7) → (∀ w, w < q → A 17 w = A0 5 (eA j k (w / 4) (w % 4))) → 16 - q < fuel → J (gM z) mX6_without (d + 4) 25 [(0, .ref 0), (1, .int (nI j)), (2, .int (nI k)), (3, .int (nI q))] [] F A (fun w F' A' => ∃ (x : Int32), w = some (.int x) ∧ MI (L.1, A') n mm rn rm un kn F' A' ∧ A' 1 = A0 1 ∧ A' 5 = A0 5 ∧ A' 6 = A0 6 ∧ A' 7 = A0 7) := by
        intro fuel
        induction fuel with
        | zero => intro q A hM h2 hfr h17 hf; exact absurd hf (by omega)
        | succ fuel ih25 =>
          intro q A hM h2 hfr h17 hf
          refine j_iload_n dX6_without_25 rfl ?_
          refine j_bipush (v := nI 16) dX6_without_26 (by decide +kernel) ?_
          refine j_icmp_geN (tgt := 59) dX6_without_28 (by decide) (by omega) (by omega) (fun c28 => ?_) (fun c28 => ?_)
          · refine j_aload_n dX6_without_59 rfl ?_
            refine j_iload_n dX6_without_60 rfl ?_
            refine j_iload_n dX6_without_61 rfl ?_
            refine j_callV (y' := mX6_looseNow) (As := [.int (nI j), .int (nI k)]) (st := []) dX6_without_62 lkX6_173 okX6_looseNow imX6_looseNow seX6_looseNow (Nat.le_of_ble_eq_true rfl) rfl rfl rfl rfl (Nat.le_of_ble_eq_true rfl) (Nat.le_of_ble_eq_true rfl) (m_looseNow z _ _ _ _ _ _ _ _ j k (by omega) (by omega) hne F A hM) (fun v62 F62 A62 hq62 => ?_)
            obtain ⟨rfl, rfl, hM, hlf62, hl5_62⟩ := hq62
            refine j_aload_n dX6_without_65 rfl ?_
            refine j_bipush (v := (-4)) dX6_without_66 (by decide +kernel) ?_
            refine j_iconst (v := nI 0) dX6_without_68 (by decide +kernel) ?_
            refine j_callV (y' := mX6_goAll) (As := [.int ((-4)), .int (nI 0)]) (st := []) dX6_without_69 lkX6_244 okX6_goAll imX6_goAll seX6_goAll (Nat.le_of_ble_eq_true rfl) rfl rfl rfl rfl (Nat.le_of_ble_eq_true rfl) (Nat.le_of_ble_eq_true rfl) (m_goAll z _ _ _ _ _ _ _ _ (-4) (nI 0) (Or.inl rfl) F A62 hM.i) (fun v69 F69 A69 hq69 => ?_)
            obtain ⟨rfl, hMg⟩ := hq69
            have hM := hMg.k
            have hl5 : A62 5 = looR (A0 5) (pmin j k) (pmax j k) := by rw [hl5_62, hfr.2.1]
            have hg : A69 1 = A0 1 ∧ A69 6 = A0 6 ∧ A69 7 = A0 7 ∧ ∀ w, w < 16 → A69 17 w = A0 5 (eA j k (w / 4) (w % 4)) := ⟨hMg.1.2.2.1.trans (hlf62.1.trans hfr.1), hMg.1.2.2.2.2.1.trans (hlf62.2.1.trans hfr.2.2.1), hMg.1.2.2.2.2.2.1.trans (hlf62.2.2.1.trans hfr.2.2.2), fun w hw => by rw [hMg.1.2.2.2.2.2.2]; show A62 17 w = _; rw [hlf62.2.2.2]; exact h17 w (by omega)⟩
            have L74 : ∀ (fuel : Nat) (q : Nat) (F A : mj_S), (MK L.1 n mm rn rm un kn F A) → (q ≤ 16) → (A 1 = A0 1 ∧ A 6 = A0 6 ∧ A 7 = A0 7 ∧ ∀ w, w < 16 → A 17 w = A0 5 (eA j k (w / 4) (w % 4))) → (∀ w, w < q → A 5 (eA j k (w / 4) (w % 4)) = A0 5 (eA j k (w / 4) (w % 4))) → (∀ x, (∀ w, w < q → x ≠ eA j k (w / 4) (w % 4)) → A 5 x = A69 5 x) → 16 - q < fuel → J (gM z) mX6_without (d + 4) 74 [(0, .ref 0), (1, .int (nI j)), (2, .int (nI k)), (3, .int (nI q))] [] F A (fun w F' A' => ∃ (x : Int32), w = some (.int x) ∧ MI (L.1, A') n mm rn rm un kn F' A' ∧ A' 1 = A0 1 ∧ A' 5 = A0 5 ∧ A' 6 = A0 6 ∧ A' 7 = A0 7) := by
              intro fuel
              induction fuel with
              | zero => intro q F A hM h2 hfr g5 g5b hf; exact absurd hf (by omega)
              | succ fuel ih74 =>
                intro q F A hM h2 hfr g5 g5b hf
                refine j_iload_n dX6_without_74 rfl ?_
                refine j_bipush (v := nI 16) dX6_without_75 (by decide +kernel) ?_
                refine j_icmp_geN (tgt := 108) dX6_without_77 (by decide) (by omega) (by omega) (fun c77 => ?_) (fun c77 => ?_)
                · refine j_aload_n dX6_without_108 rfl ?_
                  refine j_getI dX6_without_109 flX6_227 (Nat.le_of_ble_eq_true rfl) rfl rfl ?_
                  exact j_iret dX6_without_112 rfl rfl ⟨_, rfl, (MK.i (F := F) (A := A) hM), hfr.1, back_fin hne (fun w hw => g5 w (by omega)) (fun x hx => g5b x (fun w hw => hx w (by omega))) (hMg.1.2.2.2.1.trans hl5), hfr.2.1, hfr.2.2.1⟩
                · refine j_aload_n dX6_without_80 rfl ?_
                  refine j_getR (r := 5) dX6_without_81 flX6_22 (Nat.le_of_ble_eq_true rfl) rfl rfl ?_
                  refine j_iload_n dX6_without_84 rfl ?_
                  refine j_iload_n dX6_without_85 rfl ?_
                  refine j_iload_n dX6_without_86 rfl ?_
                  refine j_iconst (v := nI 4) dX6_without_87 (by decide +kernel) ?_
                  refine j_idivN dX6_without_88 (by omega) (by omega) (by omega) ?_
                  refine j_iload_n dX6_without_89 rfl ?_
                  refine j_iconst (v := nI 4) dX6_without_90 (by decide +kernel) ?_
                  refine j_iremN dX6_without_91 (by omega) (by omega) (by omega) ?_
                  refine j_callS (y' := mX6_entryAt) (As := [.int (nI j), .int (nI k), .int (nI (q / 4)), .int (nI (q % 4))]) (st := [.ref 5]) dX6_without_92 lkX6_81 okX6_entryAt stX6_entryAt rfl (Nat.le_of_ble_eq_true rfl) (Nat.le_of_ble_eq_true rfl) (m_entryAt z _ j k (q / 4) (q % 4) (by omega) (by omega) (by omega) (by omega) (by omega) F A) (fun v92 F92 A92 hq92 => ?_)
                  obtain ⟨rfl, rfl, e92, rfl, he92⟩ := hq92
                  have hl92 : e92 < 500 := by rw [he92]; exact eA_lt (by omega) (by omega) (by omega) (by omega) (by omega)
                  refine j_aload_n dX6_without_95 rfl ?_
                  refine j_getR (r := 17) dX6_without_96 flX6_58 (Nat.le_of_ble_eq_true rfl) rfl rfl ?_
                  refine j_iload_n dX6_without_99 rfl ?_
                  refine j_ialdN dX6_without_100 (Nat.le_of_ble_eq_true rfl) rfl (by omega) (by decide) ?_
                  refine j_iastN dX6_without_101 (Nat.le_of_ble_eq_true rfl) rfl (by omega) (by decide) ?_
                  refine j_iinc (v := nI (q + 1)) (lv' := [(0, .ref 0), (1, .int (nI j)), (2, .int (nI k)), (3, .int (nI (q + 1)))]) dX6_without_102 rfl (nI_add _ 1) (Nat.le_of_ble_eq_true rfl) rfl rfl ?_
                  refine j_goto (tgt := 74) dX6_without_105 (by decide) ?_
                  exact ih74 (q + 1) F (mj_u A 5 e92 (A 17 q)) (by first | exact hM | omega) (by first | exact h2 | omega) (by first | exact hfr | omega) (fun w hw => by rw [he92, mj_u_at]; exact if e : eA j k (w / 4) (w % 4) = eA j k (q / 4) (q % 4) then (by rw [e, pk_us, hfr.2.2.2 q (by omega)]) else (by rw [pk_un e]; exact g5 w (by have : w ≠ q := (fun e2 => e (by rw [e2])); omega))) (fun x hx => by rw [he92, mj_u_at, pk_un (hx q (by omega))]; exact g5b x (fun w hw => hx w (by omega))) (by omega)
            refine j_iconst (v := nI 0) dX6_without_72 (by decide +kernel) ?_
            refine j_istore_n (lv' := [(0, .ref 0), (1, .int (nI j)), (2, .int (nI k)), (3, .int (nI 0))]) dX6_without_73 (Nat.le_of_ble_eq_true rfl) rfl rfl ?_
            exact L74 _ 0 F69 A69 (by first | exact hM | omega) (by first | exact h2 | omega) hg (fun w hw => absurd hw (by omega)) (fun _ _ => rfl) (Nat.lt_succ_self _)
          · refine j_aload_n dX6_without_31 rfl ?_
            refine j_getR (r := 17) dX6_without_32 flX6_58 (Nat.le_of_ble_eq_true rfl) rfl rfl ?_
            refine j_iload_n dX6_without_35 rfl ?_
            refine j_aload_n dX6_without_36 rfl ?_
            refine j_getR (r := 5) dX6_without_37 flX6_22 (Nat.le_of_ble_eq_true rfl) rfl rfl ?_
            refine j_iload_n dX6_without_40 rfl ?_
            refine j_iload_n dX6_without_41 rfl ?_
            refine j_iload_n dX6_without_42 rfl ?_
            refine j_iconst (v := nI 4) dX6_without_43 (by decide +kernel) ?_
            refine j_idivN dX6_without_44 (by omega) (by omega) (by omega) ?_
            refine j_iload_n dX6_without_45 rfl ?_
            refine j_iconst (v := nI 4) dX6_without_46 (by decide +kernel) ?_
            refine j_iremN dX6_without_47 (by omega) (by omega) (by omega) ?_
            refine j_callS (y' := mX6_entryAt) (As := [.int (nI j), .int (nI k), .int (nI (q / 4)), .int (nI (q % 4))]) (st := [.ref 5, .int (nI q), .ref 17]) dX6_without_48 lkX6_81 okX6_entryAt stX6_entryAt rfl (Nat.le_of_ble_eq_true rfl) (Nat.le_of_ble_eq_true rfl) (m_entryAt z _ j k (q / 4) (q % 4) (by omega) (by omega) (by omega) (by omega) (by omega) F A) (fun v48 F48 A48 hq48 => ?_)
            obtain ⟨rfl, rfl, e48, rfl, he48⟩ := hq48
            have hl48 : e48 < 500 := by rw [he48]; exact eA_lt (by omega) (by omega) (by omega) (by omega) (by omega)
            refine j_ialdN dX6_without_51 (Nat.le_of_ble_eq_true rfl) rfl (by omega) (by decide) ?_
            refine j_iastN dX6_without_52 (Nat.le_of_ble_eq_true rfl) rfl (by omega) (by decide) ?_
            refine j_iinc (v := nI (q + 1)) (lv' := [(0, .ref 0), (1, .int (nI j)), (2, .int (nI k)), (3, .int (nI (q + 1)))]) dX6_without_53 rfl (nI_add _ 1) (Nat.le_of_ble_eq_true rfl) rfl rfl ?_
            refine j_goto (tgt := 25) dX6_without_56 (by decide) ?_
            exact ih25 (q + 1) (mj_u A 17 q (A 5 e48)) (by first | exact hM | omega) (by first | exact h2 | omega) (by first | exact hfr | omega) (fun w hw => mj_cp (A := A) (b := 17) (f := fun w => A0 5 (eA j k (w / 4) (w % 4))) h17 (by rw [hfr.2.1, he48]) hw) (by omega)
      refine j_iconst (v := nI 0) dX6_without_23 (by decide +kernel) ?_
      refine j_istore_n (lv' := [(0, .ref 0), (1, .int (nI j)), (2, .int (nI k)), (3, .int (nI 0))]) dX6_without_24 (Nat.le_of_ble_eq_true rfl) rfl rfl ?_
      exact L25 _ 0 A0 (by first | exact hM | omega) (by first | exact h2 | omega) ⟨rfl, rfl, rfl, rfl⟩ (fun w hw => absurd hw (by omega)) (Nat.lt_succ_self _)
    · refine j_bipush (v := (-4)) dX6_without_20 (by decide +kernel) ?_
      exact j_iret dX6_without_22 rfl rfl ⟨_, rfl, hM.k.i, rfl, rfl, rfl, rfl⟩
  · refine j_iconst (v := (-1)) dX6_without_9 (by decide +kernel) ?_
    exact j_iret dX6_without_10 rfl rfl ⟨_, rfl, hM.k.i, rfl, rfl, rfl, rfl⟩
