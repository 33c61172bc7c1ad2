/-! the reference: the reduction -/
theorem MI.takes {L : Lg} {n : Nat} {mm : Nat → Nat} {rn : Nat} {rm : Nat → Nat} {un kn : Nat} {F A : mj_S} (h : MI L n mm rn rm un kn F A) : rg (A 14) 8 3 := h.2.2.2.2.2.1
theorem MI.same {L : Lg} {n : Nat} {mm : Nat → Nat} {rn : Nat} {rm : Nat → Nat} {un kn : Nat} {F A : mj_S} (h : MI L n mm rn rm un kn F A) : rg (A 16) 8 15 := h.2.2.2.2.2.2.1
theorem MI.tied {L : Lg} {n : Nat} {mm : Nat → Nat} {rn : Nat} {rm : Nat → Nat} {un kn : Nat} {F A : mj_S} (h : MI L n mm rn rm un kn F A) : rg (A 10) 8 255 := h.2.2.2.2.2.2.2.1
theorem MI.order {L : Lg} {n : Nat} {mm : Nat → Nat} {rn : Nat} {rm : Nat → Nat} {un kn : Nat} {F A : mj_S} (h : MI L n mm rn rm un kn F A) : rg (A 11) 8 7 := h.2.2.2.2.2.2.2.2.1
theorem MI.with' {L : Lg} {n : Nat} {mm : Nat → Nat} {rn : Nat} {rm : Nat → Nat} {un kn : Nat} {F A : mj_S} (h : MI L n mm rn rm un kn F A) : rg (A 13) 8 255 := h.2.2.2.2.2.2.2.2.2
theorem MI.s14 {L : Lg} {n : Nat} {mm : Nat → Nat} {rn : Nat} {rm : Nat → Nat} {un kn : Nat} {F A : mj_S} (h : MI L n mm rn rm un kn F A) (i : Nat) {t : Nat} (ht : t ≤ 3) : MI L n mm rn rm un kn F (mj_u A 14 i (nI t)) := ⟨h.1, h.2.1, h.2.2.1, h.2.2.2.1, h.2.2.2.2.1, rg_u h.takes ht, h.same, h.tied, h.order, h.with'⟩
theorem MI.s16 {L : Lg} {n : Nat} {mm : Nat → Nat} {rn : Nat} {rm : Nat → Nat} {un kn : Nat} {F A : mj_S} (h : MI L n mm rn rm un kn F A) (i : Nat) {t : Nat} (ht : t ≤ 15) : MI L n mm rn rm un kn F (mj_u A 16 i (nI t)) := ⟨h.1, h.2.1, h.2.2.1, h.2.2.2.1, h.2.2.2.2.1, h.takes, rg_u h.same ht, h.tied, h.order, h.with'⟩
theorem MI.s10 {L : Lg} {n : Nat} {mm : Nat → Nat} {rn : Nat} {rm : Nat → Nat} {un kn : Nat} {F A : mj_S} (h : MI L n mm rn rm un kn F A) (i : Nat) {t : Nat} (ht : t ≤ 255) : MI L n mm rn rm un kn F (mj_u A 10 i (nI t)) := ⟨h.1, h.2.1, h.2.2.1, h.2.2.2.1, h.2.2.2.2.1, h.takes, h.same, rg_u h.tied ht, h.order, h.with'⟩
theorem MI.s11 {L : Lg} {n : Nat} {mm : Nat → Nat} {rn : Nat} {rm : Nat → Nat} {un kn : Nat} {F A : mj_S} (h : MI L n mm rn rm un kn F A) (i : Nat) {t : Nat} (ht : t ≤ 7) : MI L n mm rn rm un kn F (mj_u A 11 i (nI t)) := ⟨h.1, h.2.1, h.2.2.1, h.2.2.2.1, h.2.2.2.2.1, h.takes, h.same, h.tied, rg_u h.order ht, h.with'⟩
theorem MI.s13 {L : Lg} {n : Nat} {mm : Nat → Nat} {rn : Nat} {rm : Nat → Nat} {un kn : Nat} {F A : mj_S} (h : MI L n mm rn rm un kn F A) (i : Nat) {t : Nat} (ht : t ≤ 255) : MI L n mm rn rm un kn F (mj_u A 13 i (nI t)) := ⟨h.1, h.2.1, h.2.2.1, h.2.2.2.1, h.2.2.2.2.1, h.takes, h.same, h.tied, h.order, rg_u h.with' ht⟩

set_option maxHeartbeats 400000 in
set_option maxRecDepth 100000 in
theorem m_ones (z : mj_B) (d s : Nat) (hs : s < 256) (F A : mj_S) : J (gM z) mX6_ones d 0 [(0, .int (nI s))] [] F A (qN F A fun q => q = pc s) := by
  have L4 : ∀ (fuel : Nat) (q : Nat) (k : Nat), (q + pc k = pc s ∧ k < 256 ∧ q ≤ 8) → k < fuel → J (gM z) mX6_ones d 4 [(1, .int (nI q)), (2, .int (nI k))] [] F A (qN F A fun q => q = pc s) := by
    intro fuel
    induction fuel with
    | zero => intro q k h1 hf; exact absurd hf (by omega)
    | succ fuel ih4 =>
      intro q k h1 hf
      refine j_iload_n dX6_ones_4 rfl ?_
      refine j_if_eqN (tgt := 20) dX6_ones_5 (by decide) (by omega) (fun c5 => ?_) (fun c5 => ?_)
      · refine j_iload_n dX6_ones_20 rfl ?_
        exact j_iret dX6_ones_21 rfl rfl ⟨rfl, rfl, _, rfl, by have : pc k = 0 := (by rw [c5]; rfl); omega⟩
      · have hp := pc_step k (by omega) c5
        refine j_iinc (v := nI (q + 1)) (lv' := [(1, .int (nI (q + 1))), (2, .int (nI k))]) dX6_ones_8 rfl (nI_add _ 1) (Nat.le_of_ble_eq_true rfl) rfl rfl ?_
        refine j_iload_n dX6_ones_11 rfl ?_
        refine j_iload_n dX6_ones_12 rfl ?_
        refine j_iconst (v := nI 1) dX6_ones_13 (by decide +kernel) ?_
        refine j_isubN dX6_ones_14 (by omega) ?_
        refine j_iand dX6_ones_15 ?_
        refine j_top (y0 := nI (k &&& (k - 1))) (fa_and _ _) ?_
        refine j_istore_n (lv' := [(1, .int (nI (q + 1))), (2, .int (nI (k &&& (k - 1))))]) dX6_ones_16 (Nat.le_of_ble_eq_true rfl) rfl rfl ?_
        refine j_goto (tgt := 4) dX6_ones_17 (by decide) ?_
        exact ih4 (q + 1) (k &&& (k - 1)) ⟨by omega, by omega, by have := pc_le s; omega⟩ (by omega)
  refine j_iconst (v := nI 0) dX6_ones_0 (by decide +kernel) ?_
  refine j_istore_n (lv' := [(0, .int (nI s)), (1, .int (nI 0))]) dX6_ones_1 (Nat.le_of_ble_eq_true rfl) rfl rfl ?_
  refine j_iload_n dX6_ones_2 rfl ?_
  refine j_istore_n (lv' := [(0, .int (nI s)), (1, .int (nI 0)), (2, .int (nI s))]) dX6_ones_3 (Nat.le_of_ble_eq_true rfl) rfl rfl ?_
  refine j_sub [1, 2] rfl ?_
  exact L4 _ 0 s ⟨by omega, by omega, by omega⟩ (Nat.lt_succ_self _)

set_option maxHeartbeats 400000 in
set_option maxRecDepth 100000 in
theorem m_has (z : mj_B) (d s i : Nat) (hs : s < 2147483648) (hi : i < 32) (F A : mj_S) : J (gM z) mX6_has d 0 [(0, .int (nI s)), (1, .int (nI i))] [] F A (qN F A fun q => q = s / 2 ^ i % 2) := by
  have hm : s / 2 ^ i % 2 < 2 := Nat.mod_lt _ (by decide)
  refine j_iload_n dX6_has_0 rfl ?_
  refine j_iload_n dX6_has_1 rfl ?_
  refine j_ishr dX6_has_2 ?_
  refine j_top (y0 := nI s >>> (nI i &&& 31)) rfl ?_
  refine j_iconst (v := nI 1) dX6_has_3 (by decide +kernel) ?_
  refine j_iand dX6_has_4 ?_
  refine j_top (y0 := nI (s / 2 ^ i % 2)) (bit_of hs hi) ?_
  refine j_iconst (v := nI 1) dX6_has_5 (by decide +kernel) ?_
  refine j_icmp_neN (tgt := 13) dX6_has_6 (by decide) (by omega) (by omega) (fun c6 => ?_) (fun c6 => ?_)
  · refine j_iconst (v := nI 0) dX6_has_13 (by decide +kernel) ?_
    exact j_iret dX6_has_14 rfl (by decide +kernel) ⟨rfl, rfl, _, rfl, by omega⟩
  · refine j_iconst (v := nI 1) dX6_has_9 (by decide +kernel) ?_
    refine j_goto (tgt := 14) dX6_has_10 (by decide) ?_
    exact j_iret dX6_has_14 rfl (by decide +kernel) ⟨rfl, rfl, _, rfl, by omega⟩

set_option maxHeartbeats 400000 in
set_option maxRecDepth 100000 in
theorem m_tableAt (z : mj_B) (d u v i j : Nat) (F A : mj_S) : J (gM z) mX6_tableAt d 0 [(0, .int (nI u)), (1, .int (nI v)), (2, .int (nI i)), (3, .int (nI j))] [] F A (qN F A fun q => q = 128 * u + 16 * v + 4 * i + j) := by
  refine j_sipush (v := nI 128) dX6_tableAt_0 (by decide +kernel) ?_
  refine j_iload_n dX6_tableAt_3 rfl ?_
  refine j_imulN dX6_tableAt_4 ?_
  refine j_bipush (v := nI 16) dX6_tableAt_5 (by decide +kernel) ?_
  refine j_iload_n dX6_tableAt_7 rfl ?_
  refine j_imulN dX6_tableAt_8 ?_
  refine j_iaddN dX6_tableAt_9 ?_
  refine j_iconst (v := nI 4) dX6_tableAt_10 (by decide +kernel) ?_
  refine j_iload_n dX6_tableAt_11 rfl ?_
  refine j_imulN dX6_tableAt_12 ?_
  refine j_iaddN dX6_tableAt_13 ?_
  refine j_iload_n dX6_tableAt_14 rfl ?_
  refine j_iaddN dX6_tableAt_15 ?_
  exact j_iret dX6_tableAt_16 rfl rfl ⟨rfl, rfl, _, rfl, rfl⟩

set_option maxHeartbeats 400000 in
set_option maxRecDepth 100000 in
theorem m_aside (z : mj_B) (d : Nat) (L : Lg) (n : Nat) (mm : Nat → Nat) (rn : Nat) (rm : Nat → Nat) (un kn : Nat) (F A : mj_S) (hM : MI L n mm rn rm un kn F A) : J (gM z) mX6_aside (d + 2) 0 [(0, .ref 0)] [] F A (fun v F' A' => v = none ∧ F = F' ∧ MI L n mm rn rm un kn F A') := by
  have hM0 := hM.1.2.1
  have hM1 := hM.2.1.2.1
  have hM2 := hM.2.2.1.2.1
  have hM3 := hM.2.2.2.1.2
  have hM4 := hM.2.2.2.2.1.2
  have L2 : ∀ (fuel : Nat) (u : Nat) (A : mj_S), (MI L n mm rn rm un kn F A) → (u ≤ n) → n - u < fuel → J (gM z) mX6_aside (d + 2) 2 [(0, .ref 0), (1, .int (nI u))] [] F A (fun v F' A' => v = none ∧ F = F' ∧ MI L n mm rn rm un kn F A') := by
    intro fuel
    induction fuel with
    | zero => intro u A hM h1 hf; exact absurd hf (by omega)
    | succ fuel ih2 =>
      intro u A hM h1 hf
      have h4u := hM.2.1.2.2.2.1 u
      have hn8 := hM.2.1.2.1
      refine j_iload_n dX6_aside_2 rfl ?_
      refine j_aload_n dX6_aside_3 rfl ?_
      refine j_getI dX6_aside_4 flX6_132 (Nat.le_of_ble_eq_true rfl) rfl rfl ?_
      refine j_top (y0 := nI n) hM.2.1.1 ?_
      refine j_icmp_geN (tgt := 180) dX6_aside_7 (by decide) (by omega) (by omega) (fun c7 => ?_) (fun c7 => ?_)
      · exact j_vret dX6_aside_180 rfl ⟨rfl, rfl, hM⟩
      · have L53 : ∀ (fuel : Nat) (v : Nat) (A : mj_S), (MI L n mm rn rm un kn F A) → (v ≤ n) → n - v < fuel → J (gM z) mX6_aside (d + 2) 53 [(0, .ref 0), (1, .int (nI u)), (2, .int (nI v))] [] F A (fun v F' A' => v = none ∧ F = F' ∧ MI L n mm rn rm un kn F A') := by
          intro fuel
          induction fuel with
          | zero => intro v A hM h1 hf; exact absurd hf (by omega)
          | succ fuel ih53 =>
            intro v A hM h1 hf
            have h4u := hM.2.1.2.2.2.1 u
            have hn8 := hM.2.1.2.1
            refine j_iload_n dX6_aside_53 rfl ?_
            refine j_aload_n dX6_aside_54 rfl ?_
            refine j_getI dX6_aside_55 flX6_132 (Nat.le_of_ble_eq_true rfl) rfl rfl ?_
            refine j_top (y0 := nI n) hM.2.1.1 ?_
            refine j_icmp_geN (tgt := 174) dX6_aside_58 (by decide) (by omega) (by omega) (fun c58 => ?_) (fun c58 => ?_)
            · refine j_iinc (v := nI (u + 1)) (lv' := [(0, .ref 0), (1, .int (nI (u + 1))), (2, .int (nI v))]) dX6_aside_174 rfl (nI_add _ 1) (Nat.le_of_ble_eq_true rfl) rfl rfl ?_
              refine j_goto (tgt := 2) dX6_aside_177 (by decide) ?_
              refine j_sub [0, 1] rfl ?_
              exact ih2 (u + 1) A (by first | exact hM | omega) (by first | exact h1 | omega) (by omega)
            · have hv8 : v < 8 := by omega
              have L88 : ∀ (fuel : Nat) (k : Nat) (A : mj_S), (MI L n mm rn rm un kn F A) → (k ≤ mm u * mm v) → mm u * mm v - k < fuel → J (gM z) mX6_aside (d + 2) 88 [(0, .ref 0), (1, .int (nI u)), (2, .int (nI v)), (3, .int (nI k))] [] F A (fun v F' A' => v = none ∧ F = F' ∧ MI L n mm rn rm un kn F A') := by
                intro fuel
                induction fuel with
                | zero => intro k A hM h1 hf; exact absurd hf (by omega)
                | succ fuel ih88 =>
                  intro k A hM h1 hf
                  have h4u := hM.2.1.2.2.2.1 u
                  have hn8 := hM.2.1.2.1
                  have h4v := hM.2.1.2.2.2.1 v
                  have hp16 : mm u * mm v ≤ 16 := Nat.mul_le_mul h4u h4v
                  refine j_iload_n dX6_aside_88 rfl ?_
                  refine j_aload_n dX6_aside_89 rfl ?_
                  refine j_getR (r := 2) dX6_aside_90 flX6_13 (Nat.le_of_ble_eq_true rfl) rfl rfl ?_
                  refine j_iload_n dX6_aside_93 rfl ?_
                  refine j_ialdN dX6_aside_94 (Nat.le_of_ble_eq_true rfl) rfl (by omega) (by decide) ?_
                  refine j_top (y0 := nI (mm u)) (hM.2.1.2.2.1 _ (by omega)) ?_
                  refine j_aload_n dX6_aside_95 rfl ?_
                  refine j_getR (r := 2) dX6_aside_96 flX6_13 (Nat.le_of_ble_eq_true rfl) rfl rfl ?_
                  refine j_iload_n dX6_aside_99 rfl ?_
                  refine j_ialdN dX6_aside_100 (Nat.le_of_ble_eq_true rfl) rfl (by omega) (by decide) ?_
                  refine j_top (y0 := nI (mm v)) (hM.2.1.2.2.1 _ (by omega)) ?_
                  refine j_imulN dX6_aside_101 ?_
                  refine j_icmp_geN (tgt := 168) dX6_aside_102 (by decide) (by omega) (by omega) (fun c102 => ?_) (fun c102 => ?_)
                  · refine j_iinc (v := nI (v + 1)) (lv' := [(0, .ref 0), (1, .int (nI u)), (2, .int (nI (v + 1))), (3, .int (nI k))]) dX6_aside_168 rfl (nI_add _ 1) (Nat.le_of_ble_eq_true rfl) rfl rfl ?_
                    refine j_goto (tgt := 53) dX6_aside_171 (by decide) ?_
                    refine j_sub [0, 1, 2] rfl ?_
                    exact ih53 (v + 1) A (by first | exact hM | omega) (by first | exact h1 | omega) (by omega)
                  · have h1v := hM.2.1.2.2.2.2 v (by omega)
                    have hd1 : k / mm v < mm u := Nat.div_lt_of_lt_mul (by rw [Nat.mul_comm]; exact c102)
                    have hd2 : k % mm v < mm v := Nat.mod_lt _ (by omega)
                    refine j_iload_n dX6_aside_105 rfl ?_
                    refine j_aload_n dX6_aside_106 rfl ?_
                    refine j_getR (r := 2) dX6_aside_107 flX6_13 (Nat.le_of_ble_eq_true rfl) rfl rfl ?_
                    refine j_iload_n dX6_aside_110 rfl ?_
                    refine j_ialdN dX6_aside_111 (Nat.le_of_ble_eq_true rfl) rfl (by omega) (by decide) ?_
                    refine j_top (y0 := nI (mm v)) (hM.2.1.2.2.1 _ (by omega)) ?_
                    refine j_idivN dX6_aside_112 (by omega) (by omega) (by omega) ?_
                    refine j_istore (lv' := [(0, .ref 0), (1, .int (nI u)), (2, .int (nI v)), (3, .int (nI k)), (4, .int (nI (k / (mm v))))]) dX6_aside_113 (Nat.le_of_ble_eq_true rfl) rfl rfl ?_
                    refine j_iload_n dX6_aside_115 rfl ?_
                    refine j_aload_n dX6_aside_116 rfl ?_
                    refine j_getR (r := 2) dX6_aside_117 flX6_13 (Nat.le_of_ble_eq_true rfl) rfl rfl ?_
                    refine j_iload_n dX6_aside_120 rfl ?_
                    refine j_ialdN dX6_aside_121 (Nat.le_of_ble_eq_true rfl) rfl (by omega) (by decide) ?_
                    refine j_top (y0 := nI (mm v)) (hM.2.1.2.2.1 _ (by omega)) ?_
                    refine j_iremN dX6_aside_122 (by omega) (by omega) (by omega) ?_
                    refine j_istore (lv' := [(0, .ref 0), (1, .int (nI u)), (2, .int (nI v)), (3, .int (nI k)), (4, .int (nI (k / (mm v)))), (5, .int (nI (k % (mm v))))]) dX6_aside_123 (Nat.le_of_ble_eq_true rfl) rfl rfl ?_
                    refine j_aload_n dX6_aside_125 rfl ?_
                    refine j_getR (r := 9) dX6_aside_126 flX6_34 (Nat.le_of_ble_eq_true rfl) rfl rfl ?_
                    refine j_iload_n dX6_aside_129 rfl ?_
                    refine j_iload_n dX6_aside_130 rfl ?_
                    refine j_iload dX6_aside_131 rfl ?_
                    refine j_iload dX6_aside_133 rfl ?_
                    refine j_callS (y' := mX6_tableAt) (As := [.int (nI u), .int (nI v), .int (nI (k / (mm v))), .int (nI (k % (mm v)))]) (st := [.ref 9]) dX6_aside_135 lkX6_179 okX6_tableAt stX6_tableAt rfl (Nat.le_of_ble_eq_true rfl) (Nat.le_of_ble_eq_true rfl) (m_tableAt z _ u v (k / (mm v)) (k % (mm v)) F A) (fun v135 F135 A135 hq135 => ?_)
                    obtain ⟨rfl, rfl, r135, rfl, hr135⟩ := hq135
                    refine j_aload_n dX6_aside_138 rfl ?_
                    refine j_iload_n dX6_aside_139 rfl ?_
                    refine j_iload_n dX6_aside_140 rfl ?_
                    refine j_callV (y' := mX6_isTied) (As := [.int (nI u), .int (nI v)]) (st := [.int (nI r135), .ref 9]) dX6_aside_141 lkX6_146 okX6_isTied imX6_isTied seX6_isTied (Nat.le_of_ble_eq_true rfl) rfl rfl rfl rfl (Nat.le_of_ble_eq_true rfl) (Nat.le_of_ble_eq_true rfl) (m_isTied z _ u v (by omega) (by omega) F A) (fun v141 F141 A141 hq141 => ?_)
                    obtain ⟨rfl, rfl, r141, rfl, hr141⟩ := hq141
                    have hb141 : r141 ≤ 1 := by omega
                    refine j_if_eqN (tgt := 160) dX6_aside_144 (by decide) (by omega) (fun c144 => ?_) (fun c144 => ?_)
                    · refine j_iconst (v := nI 0) dX6_aside_160 (by decide +kernel) ?_
                      refine j_iastN dX6_aside_161 (Nat.le_of_ble_eq_true rfl) rfl (by omega) (by decide) ?_
                      refine j_iinc (v := nI (k + 1)) (lv' := [(0, .ref 0), (1, .int (nI u)), (2, .int (nI v)), (3, .int (nI (k + 1))), (4, .int (nI (k / (mm v)))), (5, .int (nI (k % (mm v))))]) dX6_aside_162 rfl (nI_add _ 1) (Nat.le_of_ble_eq_true rfl) rfl rfl ?_
                      refine j_goto (tgt := 88) dX6_aside_165 (by decide) ?_
                      refine j_sub [0, 1, 2, 3] rfl ?_
                      exact ih88 (k + 1) (mj_u A 9 r135 (nI 0)) (by first | exact hM | omega) (by first | exact h1 | omega) (by omega)
                    · have hne := (hr141.resolve_right (fun h => by omega)).2.1
                      refine j_aload_n dX6_aside_147 rfl ?_
                      refine j_iload_n dX6_aside_148 rfl ?_
                      refine j_iload_n dX6_aside_149 rfl ?_
                      refine j_iload dX6_aside_150 rfl ?_
                      refine j_iload dX6_aside_152 rfl ?_
                      refine j_callV (y' := mX6_tieOf) (As := [.int (nI u), .int (nI v), .int (nI (k / (mm v))), .int (nI (k % (mm v)))]) (st := [.int (nI r135), .ref 9]) dX6_aside_154 lkX6_162 okX6_tieOf imX6_tieOf seX6_tieOf (Nat.le_of_ble_eq_true rfl) rfl rfl rfl rfl (Nat.le_of_ble_eq_true rfl) (Nat.le_of_ble_eq_true rfl) (m_tieOf0 z _ u v (k / (mm v)) (k % (mm v)) (by omega) (by omega) (by omega) (by omega) (by omega) F A) (fun v154 F154 A154 hq154 => ?_)
                      obtain ⟨rfl, rfl, r154, rfl, -⟩ := hq154
                      refine j_goto (tgt := 161) dX6_aside_157 (by decide) ?_
                      refine j_iastN dX6_aside_161 (Nat.le_of_ble_eq_true rfl) rfl (by omega) (by decide) ?_
                      refine j_iinc (v := nI (k + 1)) (lv' := [(0, .ref 0), (1, .int (nI u)), (2, .int (nI v)), (3, .int (nI (k + 1))), (4, .int (nI (k / (mm v)))), (5, .int (nI (k % (mm v))))]) dX6_aside_162 rfl (nI_add _ 1) (Nat.le_of_ble_eq_true rfl) rfl rfl ?_
                      refine j_goto (tgt := 88) dX6_aside_165 (by decide) ?_
                      refine j_sub [0, 1, 2, 3] rfl ?_
                      exact ih88 (k + 1) (mj_u A 9 r135 r154) (by first | exact hM | omega) (by first | exact h1 | omega) (by omega)
              refine j_aload_n dX6_aside_61 rfl ?_
              refine j_getR (r := 10) dX6_aside_62 flX6_37 (Nat.le_of_ble_eq_true rfl) rfl rfl ?_
              refine j_iload_n dX6_aside_65 rfl ?_
              refine j_dup2 dX6_aside_66 rfl rfl ?_
              refine j_ialdN dX6_aside_67 (Nat.le_of_ble_eq_true rfl) rfl (by omega) (by decide) ?_
              obtain ⟨t1, ht1, et1⟩ := hM.tied u (by omega)
              refine j_top (y0 := nI t1) et1 ?_
              refine j_aload_n dX6_aside_68 rfl ?_
              refine j_iload_n dX6_aside_69 rfl ?_
              refine j_iload_n dX6_aside_70 rfl ?_
              refine j_callV (y' := mX6_isTied) (As := [.int (nI u), .int (nI v)]) (st := [.int (nI t1), .int (nI u), .ref 10]) dX6_aside_71 lkX6_146 okX6_isTied imX6_isTied seX6_isTied (Nat.le_of_ble_eq_true rfl) rfl rfl rfl rfl (Nat.le_of_ble_eq_true rfl) (Nat.le_of_ble_eq_true rfl) (m_isTied z _ u v (by omega) (by omega) F A) (fun v71 F71 A71 hq71 => ?_)
              obtain ⟨rfl, rfl, r71, rfl, hr71⟩ := hq71
              have hb71 : r71 ≤ 1 := by omega
              refine j_if_eqN (tgt := 83) dX6_aside_74 (by decide) (by omega) (fun c74 => ?_) (fun c74 => ?_)
              · refine j_iconst (v := nI 0) dX6_aside_83 (by decide +kernel) ?_
                refine j_ior dX6_aside_84 ?_
                refine j_top (y0 := nI (t1 ||| 0)) (fa_or _ _) ?_
                refine j_iastN dX6_aside_85 (Nat.le_of_ble_eq_true rfl) rfl (by omega) (by decide) ?_
                have hM := hM.s10 u (t := t1 ||| 0) (Nat.le_of_lt_succ (or_256 (by omega) (by first | exact p2_8 (by omega) | omega)))
                refine j_iconst (v := nI 0) dX6_aside_86 (by decide +kernel) ?_
                refine j_istore_n (lv' := [(0, .ref 0), (1, .int (nI u)), (2, .int (nI v)), (3, .int (nI 0))]) dX6_aside_87 (Nat.le_of_ble_eq_true rfl) rfl rfl ?_
                exact L88 _ 0 (mj_u A 10 u (nI (t1 ||| 0))) (by first | exact hM | omega) (by first | exact h1 | omega) (Nat.lt_succ_self _)
              · refine j_iconst (v := nI 1) dX6_aside_77 (by decide +kernel) ?_
                refine j_iload_n dX6_aside_78 rfl ?_
                refine j_ishl dX6_aside_79 ?_
                refine j_top (y0 := nI (2 ^ v)) (shl_1 (by omega)) ?_
                refine j_goto (tgt := 84) dX6_aside_80 (by decide) ?_
                refine j_ior dX6_aside_84 ?_
                refine j_top (y0 := nI (t1 ||| (2 ^ v))) (fa_or _ _) ?_
                refine j_iastN dX6_aside_85 (Nat.le_of_ble_eq_true rfl) rfl (by omega) (by decide) ?_
                have hM := hM.s10 u (t := t1 ||| (2 ^ v)) (Nat.le_of_lt_succ (or_256 (by omega) (by first | exact p2_8 (by omega) | omega)))
                refine j_iconst (v := nI 0) dX6_aside_86 (by decide +kernel) ?_
                refine j_istore_n (lv' := [(0, .ref 0), (1, .int (nI u)), (2, .int (nI v)), (3, .int (nI 0))]) dX6_aside_87 (Nat.le_of_ble_eq_true rfl) rfl rfl ?_
                exact L88 _ 0 (mj_u A 10 u (nI (t1 ||| (2 ^ v)))) (by first | exact hM | omega) (by first | exact h1 | omega) (Nat.lt_succ_self _)
        have L19 : ∀ (fuel : Nat) (i : Nat) (A : mj_S), (MI L n mm rn rm un kn F A) → (i ≤ mm u) → mm u - i < fuel → J (gM z) mX6_aside (d + 2) 19 [(0, .ref 0), (1, .int (nI u)), (2, .int (nI i))] [] F A (fun v F' A' => v = none ∧ F = F' ∧ MI L n mm rn rm un kn F A') := by
          intro fuel
          induction fuel with
          | zero => intro i A hM h1 hf; exact absurd hf (by omega)
          | succ fuel ih19 =>
            intro i A hM h1 hf
            have h4u := hM.2.1.2.2.2.1 u
            have hn8 := hM.2.1.2.1
            refine j_iload_n dX6_aside_19 rfl ?_
            refine j_aload_n dX6_aside_20 rfl ?_
            refine j_getR (r := 2) dX6_aside_21 flX6_13 (Nat.le_of_ble_eq_true rfl) rfl rfl ?_
            refine j_iload_n dX6_aside_24 rfl ?_
            refine j_ialdN dX6_aside_25 (Nat.le_of_ble_eq_true rfl) rfl (by omega) (by decide) ?_
            refine j_top (y0 := nI (mm u)) (hM.2.1.2.2.1 _ (by omega)) ?_
            refine j_icmp_geN (tgt := 51) dX6_aside_26 (by decide) (by omega) (by omega) (fun c26 => ?_) (fun c26 => ?_)
            · refine j_iconst (v := nI 0) dX6_aside_51 (by decide +kernel) ?_
              refine j_istore_n (lv' := [(0, .ref 0), (1, .int (nI u)), (2, .int (nI 0))]) dX6_aside_52 (Nat.le_of_ble_eq_true rfl) rfl rfl ?_
              exact L53 _ 0 A (by first | exact hM | omega) (by first | exact h1 | omega) (Nat.lt_succ_self _)
            · refine j_aload_n dX6_aside_29 rfl ?_
              refine j_getR (r := 8) dX6_aside_30 flX6_31 (Nat.le_of_ble_eq_true rfl) rfl rfl ?_
              refine j_iconst (v := nI 4) dX6_aside_33 (by decide +kernel) ?_
              refine j_iload_n dX6_aside_34 rfl ?_
              refine j_imulN dX6_aside_35 ?_
              refine j_iload_n dX6_aside_36 rfl ?_
              refine j_iaddN dX6_aside_37 ?_
              refine j_aload_n dX6_aside_38 rfl ?_
              refine j_iload_n dX6_aside_39 rfl ?_
              refine j_iload_n dX6_aside_40 rfl ?_
              refine j_callV (y' := mX6_costOf) (As := [.int (nI u), .int (nI i)]) (st := [.int (nI (4 * u + i)), .ref 8]) dX6_aside_41 lkX6_158 okX6_costOf imX6_costOf seX6_costOf (Nat.le_of_ble_eq_true rfl) rfl rfl rfl rfl (Nat.le_of_ble_eq_true rfl) (Nat.le_of_ble_eq_true rfl) (m_costOf0 z _ u i (by omega) (by omega) F A) (fun v41 F41 A41 hq41 => ?_)
              obtain ⟨rfl, rfl, r41, rfl, -⟩ := hq41
              refine j_iastN dX6_aside_44 (Nat.le_of_ble_eq_true rfl) rfl (by omega) (by decide) ?_
              refine j_iinc (v := nI (i + 1)) (lv' := [(0, .ref 0), (1, .int (nI u)), (2, .int (nI (i + 1)))]) dX6_aside_45 rfl (nI_add _ 1) (Nat.le_of_ble_eq_true rfl) rfl rfl ?_
              refine j_goto (tgt := 19) dX6_aside_48 (by decide) ?_
              exact ih19 (i + 1) (mj_u A 8 (4 * u + i) r41) (by first | exact hM | omega) (by first | exact h1 | omega) (by omega)
        refine j_aload_n dX6_aside_10 rfl ?_
        refine j_getR (r := 10) dX6_aside_11 flX6_37 (Nat.le_of_ble_eq_true rfl) rfl rfl ?_
        refine j_iload_n dX6_aside_14 rfl ?_
        refine j_iconst (v := nI 0) dX6_aside_15 (by decide +kernel) ?_
        refine j_iastN dX6_aside_16 (Nat.le_of_ble_eq_true rfl) rfl (by omega) (by decide) ?_
        have hM := hM.s10 u (t := 0) (by omega)
        refine j_iconst (v := nI 0) dX6_aside_17 (by decide +kernel) ?_
        refine j_istore_n (lv' := [(0, .ref 0), (1, .int (nI u)), (2, .int (nI 0))]) dX6_aside_18 (Nat.le_of_ble_eq_true rfl) rfl rfl ?_
        exact L19 _ 0 (mj_u A 10 u (nI 0)) (by first | exact hM | omega) (by first | exact h1 | omega) (Nat.lt_succ_self _)
  refine j_iconst (v := nI 0) dX6_aside_0 (by decide +kernel) ?_
  refine j_istore_n (lv' := [(0, .ref 0), (1, .int (nI 0))]) dX6_aside_1 (Nat.le_of_ble_eq_true rfl) rfl rfl ?_
  exact L2 _ 0 A (by first | exact hM | omega) (by first | exact h1 | omega) (Nat.lt_succ_self _)
