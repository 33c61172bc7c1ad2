/-! the reference: order and rules -/

set_option maxHeartbeats 400000 in
set_option maxRecDepth 100000 in
theorem m_isAhead (z : mj_B) (d : Nat) (L : Lg) (n : Nat) (mm : Nat → Nat) (rn : Nat) (rm : Nat → Nat) (un kn : Nat) (u v : Nat) (hu : u < 8) (hv : v < 8) (F A : mj_S) (hM : MI L n mm rn rm un kn F A) : J (gM z) mX6_isAhead (d + 1) 0 [(0, .ref 0), (1, .int (nI u)), (2, .int (nI v))] [] F A (qN F A fun q => q ≤ 1) := by
  have hM0 := hM.1.2.1
  have hM1 := hM.2.1.2.1
  have hM2 := hM.2.2.1.2.1
  have hM3 := hM.2.2.2.1.2
  have hM4 := hM.2.2.2.2.1.2
  refine j_bipush (v := nI 100) dX6_isAhead_0 (by decide +kernel) ?_
  refine j_aload_n dX6_isAhead_2 rfl ?_
  refine j_getR (r := 10) dX6_isAhead_3 flX6_37 (Nat.le_of_ble_eq_true rfl) rfl rfl ?_
  refine j_iload_n dX6_isAhead_6 rfl ?_
  refine j_ialdN dX6_isAhead_7 (Nat.le_of_ble_eq_true rfl) rfl (by omega) (by decide) ?_
  obtain ⟨t1, ht1, et1⟩ := hM.tied u (by omega)
  refine j_top (y0 := nI t1) et1 ?_
  refine j_callS (y' := mX6_ones) (As := [.int (nI t1)]) (st := [.int (nI 100)]) dX6_isAhead_8 lkX6_182 okX6_ones stX6_ones rfl (Nat.le_of_ble_eq_true rfl) (Nat.le_of_ble_eq_true rfl) (m_ones z _ t1 (by omega) F A) (fun v8 F8 A8 hq8 => ?_)
  obtain ⟨rfl, rfl, r8, rfl, hr8⟩ := hq8
  have hp8 : r8 ≤ 8 := by rw [hr8]; exact pc_le _
  refine j_imulN dX6_isAhead_11 ?_
  refine j_bipush (v := nI 10) dX6_isAhead_12 (by decide +kernel) ?_
  refine j_aload_n dX6_isAhead_14 rfl ?_
  refine j_getR (r := 2) dX6_isAhead_15 flX6_13 (Nat.le_of_ble_eq_true rfl) rfl rfl ?_
  refine j_iload_n dX6_isAhead_18 rfl ?_
  refine j_ialdN dX6_isAhead_19 (Nat.le_of_ble_eq_true rfl) rfl (by omega) (by decide) ?_
  refine j_top (y0 := nI (mm u)) (hM.2.1.2.2.1 _ (by omega)) ?_
  refine j_imulN dX6_isAhead_20 ?_
  refine j_iaddN dX6_isAhead_21 ?_
  refine j_iload_n dX6_isAhead_22 rfl ?_
  refine j_iaddN dX6_isAhead_23 ?_
  refine j_istore_n (lv' := [(0, .ref 0), (1, .int (nI u)), (2, .int (nI v)), (3, .int (nI (100 * r8 + (10 * (mm u)) + u)))]) dX6_isAhead_24 (Nat.le_of_ble_eq_true rfl) rfl rfl ?_
  refine j_bipush (v := nI 100) dX6_isAhead_25 (by decide +kernel) ?_
  refine j_aload_n dX6_isAhead_27 rfl ?_
  refine j_getR (r := 10) dX6_isAhead_28 flX6_37 (Nat.le_of_ble_eq_true rfl) rfl rfl ?_
  refine j_iload_n dX6_isAhead_31 rfl ?_
  refine j_ialdN dX6_isAhead_32 (Nat.le_of_ble_eq_true rfl) rfl (by omega) (by decide) ?_
  obtain ⟨t2, ht2, et2⟩ := hM.tied v (by omega)
  refine j_top (y0 := nI t2) et2 ?_
  refine j_callS (y' := mX6_ones) (As := [.int (nI t2)]) (st := [.int (nI 100)]) dX6_isAhead_33 lkX6_182 okX6_ones stX6_ones rfl (Nat.le_of_ble_eq_true rfl) (Nat.le_of_ble_eq_true rfl) (m_ones z _ t2 (by omega) F A) (fun v33 F33 A33 hq33 => ?_)
  obtain ⟨rfl, rfl, r33, rfl, hr33⟩ := hq33
  have hp33 : r33 ≤ 8 := by rw [hr33]; exact pc_le _
  refine j_imulN dX6_isAhead_36 ?_
  refine j_bipush (v := nI 10) dX6_isAhead_37 (by decide +kernel) ?_
  refine j_aload_n dX6_isAhead_39 rfl ?_
  refine j_getR (r := 2) dX6_isAhead_40 flX6_13 (Nat.le_of_ble_eq_true rfl) rfl rfl ?_
  refine j_iload_n dX6_isAhead_43 rfl ?_
  refine j_ialdN dX6_isAhead_44 (Nat.le_of_ble_eq_true rfl) rfl (by omega) (by decide) ?_
  refine j_top (y0 := nI (mm v)) (hM.2.1.2.2.1 _ (by omega)) ?_
  refine j_imulN dX6_isAhead_45 ?_
  refine j_iaddN dX6_isAhead_46 ?_
  refine j_iload_n dX6_isAhead_47 rfl ?_
  refine j_iaddN dX6_isAhead_48 ?_
  refine j_istore (lv' := [(0, .ref 0), (1, .int (nI u)), (2, .int (nI v)), (3, .int (nI (100 * r8 + (10 * (mm u)) + u))), (4, .int (nI (100 * r33 + (10 * (mm v)) + v)))]) dX6_isAhead_49 (Nat.le_of_ble_eq_true rfl) rfl rfl ?_
  refine j_iload_n dX6_isAhead_51 rfl ?_
  refine j_iload dX6_isAhead_52 rfl ?_
  have hpa := pc_le t1
  have hpb := pc_le t2
  have h4u := hM.2.1.2.2.2.1 u
  have h4v := hM.2.1.2.2.2.1 v
  refine j_icmp_geN (tgt := 61) dX6_isAhead_54 (by decide) (by omega) (by omega) (fun c54 => ?_) (fun c54 => ?_)
  · refine j_iconst (v := nI 0) dX6_isAhead_61 (by decide +kernel) ?_
    exact j_iret dX6_isAhead_62 rfl (by decide +kernel) ⟨rfl, rfl, _, rfl, by omega⟩
  · refine j_iconst (v := nI 1) dX6_isAhead_57 (by decide +kernel) ?_
    refine j_goto (tgt := 62) dX6_isAhead_58 (by decide) ?_
    exact j_iret dX6_isAhead_62 rfl (by decide +kernel) ⟨rfl, rfl, _, rfl, by omega⟩

/-- what nextOf has found below u: none, or one that is in the set -/
def fnd (s u : Nat) (x : Int32) : Prop := (x = (-4) ∧ ∀ b, b < u → ¬ s / 2 ^ b % 2 = 1) ∨ ∃ a, a < u ∧ x = nI a ∧ s / 2 ^ a % 2 = 1
theorem fnd_0 (s : Nat) : fnd s 0 (-4) := Or.inl ⟨rfl, fun b hb => absurd hb (Nat.not_lt_zero b)⟩
theorem fnd_skip {s u : Nat} {x : Int32} (h : fnd s u x) (hb : ¬ s / 2 ^ u % 2 = 1) : fnd s (u + 1) x := by
  rcases h with ⟨h1, h2⟩ | ⟨a, h1, h2⟩
  · refine Or.inl ⟨h1, fun b hb2 => ?_⟩
    by_cases e : b = u
    · rw [e]; exact hb
    · exact h2 b (by omega)
  · exact Or.inr ⟨a, by omega, h2⟩
theorem fnd_it {s u a : Nat} (ha : a < u + 1) (h : s / 2 ^ a % 2 = 1) : fnd s (u + 1) (nI a) := Or.inr ⟨a, ha, rfl, h⟩
theorem fnd_ne {s u : Nat} {x : Int32} (h : fnd s u x) (hx : ¬ x = (-4)) : ∃ a, a < u ∧ x = nI a ∧ s / 2 ^ a % 2 = 1 := h.resolve_left (fun h => hx h.1)
theorem fnd_end {s n : Nat} {x : Int32} (h : fnd s n x) (hs : s < 2 ^ n) (hn : n ≤ 8) (h0 : 0 < s) : ∃ a, a < n ∧ x = nI a ∧ s / 2 ^ a % 2 = 1 := by
  refine h.resolve_left (fun ⟨_, h2⟩ => ?_)
  obtain ⟨b, h3, h4⟩ := low_bit s (Nat.lt_of_lt_of_le hs (p2_le hn).2) h0
  exact h2 b (bit_lt hs h4) h4

set_option maxHeartbeats 400000 in
set_option maxRecDepth 100000 in
theorem m_nextOf (z : mj_B) (d : Nat) (L : Lg) (n : Nat) (mm : Nat → Nat) (rn : Nat) (rm : Nat → Nat) (un kn : Nat) (s : Nat) (hs : s < 2 ^ n) (h0 : 0 < s) (F A : mj_S) (hM : MI L n mm rn rm un kn F A) : J (gM z) mX6_nextOf (d + 2) 0 [(0, .ref 0), (1, .int (nI s))] [] F A (qN F A fun a => a < n ∧ s / 2 ^ a % 2 = 1) := by
  have hM0 := hM.1.2.1
  have hM1 := hM.2.1.2.1
  have hM2 := hM.2.2.1.2.1
  have hM3 := hM.2.2.2.1.2
  have hM4 := hM.2.2.2.2.1.2
  have hs2 := (p2_le hM1).2
  have L9 : ∀ (fuel : Nat) (x2 : Int32) (x3 : Int32) (u : Nat), (u ≤ n) → (fnd s u x2) → (fnd s u x3) → n - u < fuel → J (gM z) mX6_nextOf (d + 2) 9 [(0, .ref 0), (1, .int (nI s)), (2, .int x2), (3, .int x3), (4, .int (nI u))] [] F A (qN F A fun a => a < n ∧ s / 2 ^ a % 2 = 1) := by
    intro fuel
    induction fuel with
    | zero => intro x2 x3 u h1 h2 h3 hf; exact absurd hf (by omega)
    | succ fuel ih9 =>
      intro x2 x3 u h1 h2 h3 hf
      refine j_iload dX6_nextOf_9 rfl ?_
      refine j_aload_n dX6_nextOf_11 rfl ?_
      refine j_getI dX6_nextOf_12 flX6_132 (Nat.le_of_ble_eq_true rfl) rfl rfl ?_
      refine j_top (y0 := nI n) hM.2.1.1 ?_
      refine j_icmp_geN (tgt := 79) dX6_nextOf_15 (by decide) (by omega) (by omega) (fun c15 => ?_) (fun c15 => ?_)
      · have hun : u = n := by omega
        subst hun
        obtain ⟨a, ha, rfl, hba⟩ := fnd_end h2 hs (by omega) h0
        obtain ⟨b, hb, rfl, hbb⟩ := fnd_end h3 hs (by omega) h0
        refine j_aload_n dX6_nextOf_79 rfl ?_
        refine j_getR (r := 10) dX6_nextOf_80 flX6_37 (Nat.le_of_ble_eq_true rfl) rfl rfl ?_
        refine j_iload_n dX6_nextOf_83 rfl ?_
        refine j_ialdN dX6_nextOf_84 (Nat.le_of_ble_eq_true rfl) rfl (by omega) (by decide) ?_
        obtain ⟨t1, ht1, et1⟩ := hM.tied a (by omega)
        refine j_top (y0 := nI t1) et1 ?_
        refine j_callS (y' := mX6_ones) (As := [.int (nI t1)]) (st := []) dX6_nextOf_85 lkX6_182 okX6_ones stX6_ones rfl (Nat.le_of_ble_eq_true rfl) (Nat.le_of_ble_eq_true rfl) (m_ones z _ t1 (by omega) F A) (fun v85 F85 A85 hq85 => ?_)
        obtain ⟨rfl, rfl, r85, rfl, hr85⟩ := hq85
        have hp85 : r85 ≤ 8 := by rw [hr85]; exact pc_le _
        refine j_iconst (v := nI 3) dX6_nextOf_88 (by decide +kernel) ?_
        refine j_icmp_geN (tgt := 96) dX6_nextOf_89 (by decide) (by omega) (by omega) (fun c89 => ?_) (fun c89 => ?_)
        · refine j_iload_n dX6_nextOf_96 rfl ?_
          exact j_iret dX6_nextOf_97 rfl rfl ⟨rfl, rfl, _, rfl, by omega, by assumption⟩
        · refine j_iload_n dX6_nextOf_92 rfl ?_
          refine j_goto (tgt := 97) dX6_nextOf_93 (by decide) ?_
          exact j_iret dX6_nextOf_97 rfl rfl ⟨rfl, rfl, _, rfl, by omega, by assumption⟩
      · refine j_iload_n dX6_nextOf_18 rfl ?_
        refine j_iload dX6_nextOf_19 rfl ?_
        refine j_callS (y' := mX6_has) (As := [.int (nI s), .int (nI u)]) (st := []) dX6_nextOf_21 lkX6_185 okX6_has stX6_has rfl (Nat.le_of_ble_eq_true rfl) (Nat.le_of_ble_eq_true rfl) (m_has z _ s u (by omega) (by omega) F A) (fun v21 F21 A21 hq21 => ?_)
        obtain ⟨rfl, rfl, r21, rfl, hr21⟩ := hq21
        have hb21 : r21 ≤ 1 := by omega
        refine j_if_eqN (tgt := 73) dX6_nextOf_24 (by decide) (by omega) (fun c24 => ?_) (fun c24 => ?_)
        · have hbn : ¬ s / 2 ^ u % 2 = 1 := by omega
          refine j_iinc (v := nI (u + 1)) (lv' := [(0, .ref 0), (1, .int (nI s)), (2, .int x2), (3, .int x3), (4, .int (nI (u + 1)))]) dX6_nextOf_73 rfl (nI_add _ 1) (Nat.le_of_ble_eq_true rfl) rfl rfl ?_
          refine j_goto (tgt := 9) dX6_nextOf_76 (by decide) ?_
          exact ih9 x2 x3 (u + 1) (by first | exact h1 | omega) (by first | exact fnd_it (by omega) hbu | exact fnd_it (by omega) hba | exact fnd_it (by omega) hbb | exact fnd_skip h2 hbn) (by first | exact fnd_it (by omega) hbu | exact fnd_it (by omega) hba | exact fnd_it (by omega) hbb | exact fnd_skip h3 hbn) (by omega)
        · have hbu : s / 2 ^ u % 2 = 1 := by omega
          refine j_iload_n dX6_nextOf_27 rfl ?_
          refine j_bipush (v := (-4)) dX6_nextOf_28 (by decide +kernel) ?_
          refine j_icmp_eq (tgt := 43) dX6_nextOf_30 (by decide) (fun c30 => ?_) (fun c30 => ?_)
          · refine j_iload dX6_nextOf_43 rfl ?_
            refine j_goto (tgt := 49) dX6_nextOf_45 (by decide) ?_
            refine j_istore_n (lv' := [(0, .ref 0), (1, .int (nI s)), (2, .int (nI u)), (3, .int x3), (4, .int (nI u))]) dX6_nextOf_49 (Nat.le_of_ble_eq_true rfl) rfl rfl ?_
            refine j_iload_n dX6_nextOf_50 rfl ?_
            refine j_bipush (v := (-4)) dX6_nextOf_51 (by decide +kernel) ?_
            refine j_icmp_eq (tgt := 66) dX6_nextOf_53 (by decide) (fun c53 => ?_) (fun c53 => ?_)
            · refine j_iload dX6_nextOf_66 rfl ?_
              refine j_goto (tgt := 72) dX6_nextOf_68 (by decide) ?_
              refine j_istore_n (lv' := [(0, .ref 0), (1, .int (nI s)), (2, .int (nI u)), (3, .int (nI u)), (4, .int (nI u))]) dX6_nextOf_72 (Nat.le_of_ble_eq_true rfl) rfl rfl ?_
              refine j_iinc (v := nI (u + 1)) (lv' := [(0, .ref 0), (1, .int (nI s)), (2, .int (nI u)), (3, .int (nI u)), (4, .int (nI (u + 1)))]) dX6_nextOf_73 rfl (nI_add _ 1) (Nat.le_of_ble_eq_true rfl) rfl rfl ?_
              refine j_goto (tgt := 9) dX6_nextOf_76 (by decide) ?_
              exact ih9 (nI u) (nI u) (u + 1) (by first | exact h1 | omega) (by first | exact fnd_it (by omega) hbu | exact fnd_it (by omega) hba | exact fnd_it (by omega) hbb | exact fnd_skip h2 hbn) (by first | exact fnd_it (by omega) hbu | exact fnd_it (by omega) hba | exact fnd_it (by omega) hbb | exact fnd_skip h3 hbn) (by omega)
            · obtain ⟨b, hb, rfl, hbb⟩ := fnd_ne h3 c53
              refine j_aload_n dX6_nextOf_56 rfl ?_
              refine j_iload_n dX6_nextOf_57 rfl ?_
              refine j_iload dX6_nextOf_58 rfl ?_
              refine j_callV (y' := mX6_isAhead) (As := [.int (nI b), .int (nI u)]) (st := []) dX6_nextOf_60 lkX6_188 okX6_isAhead imX6_isAhead seX6_isAhead (Nat.le_of_ble_eq_true rfl) rfl rfl rfl rfl (Nat.le_of_ble_eq_true rfl) (Nat.le_of_ble_eq_true rfl) (m_isAhead z _ _ _ _ _ _ _ _ b u (by omega) (by omega) F A hM) (fun v60 F60 A60 hq60 => ?_)
              obtain ⟨rfl, rfl, r60, rfl, hr60⟩ := hq60
              refine j_if_eqN (tgt := 71) dX6_nextOf_63 (by decide) (by omega) (fun c63 => ?_) (fun c63 => ?_)
              · refine j_iload_n dX6_nextOf_71 rfl ?_
                refine j_istore_n (lv' := [(0, .ref 0), (1, .int (nI s)), (2, .int (nI u)), (3, .int (nI b)), (4, .int (nI u))]) dX6_nextOf_72 (Nat.le_of_ble_eq_true rfl) rfl rfl ?_
                refine j_iinc (v := nI (u + 1)) (lv' := [(0, .ref 0), (1, .int (nI s)), (2, .int (nI u)), (3, .int (nI b)), (4, .int (nI (u + 1)))]) dX6_nextOf_73 rfl (nI_add _ 1) (Nat.le_of_ble_eq_true rfl) rfl rfl ?_
                refine j_goto (tgt := 9) dX6_nextOf_76 (by decide) ?_
                exact ih9 (nI u) (nI b) (u + 1) (by first | exact h1 | omega) (by first | exact fnd_it (by omega) hbu | exact fnd_it (by omega) hba | exact fnd_it (by omega) hbb | exact fnd_skip h2 hbn) (by first | exact fnd_it (by omega) hbu | exact fnd_it (by omega) hba | exact fnd_it (by omega) hbb | exact fnd_skip h3 hbn) (by omega)
              · refine j_iload dX6_nextOf_66 rfl ?_
                refine j_goto (tgt := 72) dX6_nextOf_68 (by decide) ?_
                refine j_istore_n (lv' := [(0, .ref 0), (1, .int (nI s)), (2, .int (nI u)), (3, .int (nI u)), (4, .int (nI u))]) dX6_nextOf_72 (Nat.le_of_ble_eq_true rfl) rfl rfl ?_
                refine j_iinc (v := nI (u + 1)) (lv' := [(0, .ref 0), (1, .int (nI s)), (2, .int (nI u)), (3, .int (nI u)), (4, .int (nI (u + 1)))]) dX6_nextOf_73 rfl (nI_add _ 1) (Nat.le_of_ble_eq_true rfl) rfl rfl ?_
                refine j_goto (tgt := 9) dX6_nextOf_76 (by decide) ?_
                exact ih9 (nI u) (nI u) (u + 1) (by first | exact h1 | omega) (by first | exact fnd_it (by omega) hbu | exact fnd_it (by omega) hba | exact fnd_it (by omega) hbb | exact fnd_skip h2 hbn) (by first | exact fnd_it (by omega) hbu | exact fnd_it (by omega) hba | exact fnd_it (by omega) hbb | exact fnd_skip h3 hbn) (by omega)
          · obtain ⟨a, ha, rfl, hba⟩ := fnd_ne h2 c30
            refine j_aload_n dX6_nextOf_33 rfl ?_
            refine j_iload dX6_nextOf_34 rfl ?_
            refine j_iload_n dX6_nextOf_36 rfl ?_
            refine j_callV (y' := mX6_isAhead) (As := [.int (nI u), .int (nI a)]) (st := []) dX6_nextOf_37 lkX6_188 okX6_isAhead imX6_isAhead seX6_isAhead (Nat.le_of_ble_eq_true rfl) rfl rfl rfl rfl (Nat.le_of_ble_eq_true rfl) (Nat.le_of_ble_eq_true rfl) (m_isAhead z _ _ _ _ _ _ _ _ u a (by omega) (by omega) F A hM) (fun v37 F37 A37 hq37 => ?_)
            obtain ⟨rfl, rfl, r37, rfl, hr37⟩ := hq37
            refine j_if_eqN (tgt := 48) dX6_nextOf_40 (by decide) (by omega) (fun c40 => ?_) (fun c40 => ?_)
            · refine j_iload_n dX6_nextOf_48 rfl ?_
              refine j_istore_n (lv' := [(0, .ref 0), (1, .int (nI s)), (2, .int (nI a)), (3, .int x3), (4, .int (nI u))]) dX6_nextOf_49 (Nat.le_of_ble_eq_true rfl) rfl rfl ?_
              refine j_iload_n dX6_nextOf_50 rfl ?_
              refine j_bipush (v := (-4)) dX6_nextOf_51 (by decide +kernel) ?_
              refine j_icmp_eq (tgt := 66) dX6_nextOf_53 (by decide) (fun c53 => ?_) (fun c53 => ?_)
              · refine j_iload dX6_nextOf_66 rfl ?_
                refine j_goto (tgt := 72) dX6_nextOf_68 (by decide) ?_
                refine j_istore_n (lv' := [(0, .ref 0), (1, .int (nI s)), (2, .int (nI a)), (3, .int (nI u)), (4, .int (nI u))]) dX6_nextOf_72 (Nat.le_of_ble_eq_true rfl) rfl rfl ?_
                refine j_iinc (v := nI (u + 1)) (lv' := [(0, .ref 0), (1, .int (nI s)), (2, .int (nI a)), (3, .int (nI u)), (4, .int (nI (u + 1)))]) dX6_nextOf_73 rfl (nI_add _ 1) (Nat.le_of_ble_eq_true rfl) rfl rfl ?_
                refine j_goto (tgt := 9) dX6_nextOf_76 (by decide) ?_
                exact ih9 (nI a) (nI u) (u + 1) (by first | exact h1 | omega) (by first | exact fnd_it (by omega) hbu | exact fnd_it (by omega) hba | exact fnd_it (by omega) hbb | exact fnd_skip h2 hbn) (by first | exact fnd_it (by omega) hbu | exact fnd_it (by omega) hba | exact fnd_it (by omega) hbb | exact fnd_skip h3 hbn) (by omega)
              · obtain ⟨b, hb, rfl, hbb⟩ := fnd_ne h3 c53
                refine j_aload_n dX6_nextOf_56 rfl ?_
                refine j_iload_n dX6_nextOf_57 rfl ?_
                refine j_iload dX6_nextOf_58 rfl ?_
                refine j_callV (y' := mX6_isAhead) (As := [.int (nI b), .int (nI u)]) (st := []) dX6_nextOf_60 lkX6_188 okX6_isAhead imX6_isAhead seX6_isAhead (Nat.le_of_ble_eq_true rfl) rfl rfl rfl rfl (Nat.le_of_ble_eq_true rfl) (Nat.le_of_ble_eq_true rfl) (m_isAhead z _ _ _ _ _ _ _ _ b u (by omega) (by omega) F A hM) (fun v60 F60 A60 hq60 => ?_)
                obtain ⟨rfl, rfl, r60, rfl, hr60⟩ := hq60
                refine j_if_eqN (tgt := 71) dX6_nextOf_63 (by decide) (by omega) (fun c63 => ?_) (fun c63 => ?_)
                · refine j_iload_n dX6_nextOf_71 rfl ?_
                  refine j_istore_n (lv' := [(0, .ref 0), (1, .int (nI s)), (2, .int (nI a)), (3, .int (nI b)), (4, .int (nI u))]) dX6_nextOf_72 (Nat.le_of_ble_eq_true rfl) rfl rfl ?_
                  refine j_iinc (v := nI (u + 1)) (lv' := [(0, .ref 0), (1, .int (nI s)), (2, .int (nI a)), (3, .int (nI b)), (4, .int (nI (u + 1)))]) dX6_nextOf_73 rfl (nI_add _ 1) (Nat.le_of_ble_eq_true rfl) rfl rfl ?_
                  refine j_goto (tgt := 9) dX6_nextOf_76 (by decide) ?_
                  exact ih9 (nI a) (nI b) (u + 1) (by first | exact h1 | omega) (by first | exact fnd_it (by omega) hbu | exact fnd_it (by omega) hba | exact fnd_it (by omega) hbb | exact fnd_skip h2 hbn) (by first | exact fnd_it (by omega) hbu | exact fnd_it (by omega) hba | exact fnd_it (by omega) hbb | exact fnd_skip h3 hbn) (by omega)
                · refine j_iload dX6_nextOf_66 rfl ?_
                  refine j_goto (tgt := 72) dX6_nextOf_68 (by decide) ?_
                  refine j_istore_n (lv' := [(0, .ref 0), (1, .int (nI s)), (2, .int (nI a)), (3, .int (nI u)), (4, .int (nI u))]) dX6_nextOf_72 (Nat.le_of_ble_eq_true rfl) rfl rfl ?_
                  refine j_iinc (v := nI (u + 1)) (lv' := [(0, .ref 0), (1, .int (nI s)), (2, .int (nI a)), (3, .int (nI u)), (4, .int (nI (u + 1)))]) dX6_nextOf_73 rfl (nI_add _ 1) (Nat.le_of_ble_eq_true rfl) rfl rfl ?_
                  refine j_goto (tgt := 9) dX6_nextOf_76 (by decide) ?_
                  exact ih9 (nI a) (nI u) (u + 1) (by first | exact h1 | omega) (by first | exact fnd_it (by omega) hbu | exact fnd_it (by omega) hba | exact fnd_it (by omega) hbb | exact fnd_skip h2 hbn) (by first | exact fnd_it (by omega) hbu | exact fnd_it (by omega) hba | exact fnd_it (by omega) hbb | exact fnd_skip h3 hbn) (by omega)
            · refine j_iload dX6_nextOf_43 rfl ?_
              refine j_goto (tgt := 49) dX6_nextOf_45 (by decide) ?_
              refine j_istore_n (lv' := [(0, .ref 0), (1, .int (nI s)), (2, .int (nI u)), (3, .int x3), (4, .int (nI u))]) dX6_nextOf_49 (Nat.le_of_ble_eq_true rfl) rfl rfl ?_
              refine j_iload_n dX6_nextOf_50 rfl ?_
              refine j_bipush (v := (-4)) dX6_nextOf_51 (by decide +kernel) ?_
              refine j_icmp_eq (tgt := 66) dX6_nextOf_53 (by decide) (fun c53 => ?_) (fun c53 => ?_)
              · refine j_iload dX6_nextOf_66 rfl ?_
                refine j_goto (tgt := 72) dX6_nextOf_68 (by decide) ?_
                refine j_istore_n (lv' := [(0, .ref 0), (1, .int (nI s)), (2, .int (nI u)), (3, .int (nI u)), (4, .int (nI u))]) dX6_nextOf_72 (Nat.le_of_ble_eq_true rfl) rfl rfl ?_
                refine j_iinc (v := nI (u + 1)) (lv' := [(0, .ref 0), (1, .int (nI s)), (2, .int (nI u)), (3, .int (nI u)), (4, .int (nI (u + 1)))]) dX6_nextOf_73 rfl (nI_add _ 1) (Nat.le_of_ble_eq_true rfl) rfl rfl ?_
                refine j_goto (tgt := 9) dX6_nextOf_76 (by decide) ?_
                exact ih9 (nI u) (nI u) (u + 1) (by first | exact h1 | omega) (by first | exact fnd_it (by omega) hbu | exact fnd_it (by omega) hba | exact fnd_it (by omega) hbb | exact fnd_skip h2 hbn) (by first | exact fnd_it (by omega) hbu | exact fnd_it (by omega) hba | exact fnd_it (by omega) hbb | exact fnd_skip h3 hbn) (by omega)
              · obtain ⟨b, hb, rfl, hbb⟩ := fnd_ne h3 c53
                refine j_aload_n dX6_nextOf_56 rfl ?_
                refine j_iload_n dX6_nextOf_57 rfl ?_
                refine j_iload dX6_nextOf_58 rfl ?_
                refine j_callV (y' := mX6_isAhead) (As := [.int (nI b), .int (nI u)]) (st := []) dX6_nextOf_60 lkX6_188 okX6_isAhead imX6_isAhead seX6_isAhead (Nat.le_of_ble_eq_true rfl) rfl rfl rfl rfl (Nat.le_of_ble_eq_true rfl) (Nat.le_of_ble_eq_true rfl) (m_isAhead z _ _ _ _ _ _ _ _ b u (by omega) (by omega) F A hM) (fun v60 F60 A60 hq60 => ?_)
                obtain ⟨rfl, rfl, r60, rfl, hr60⟩ := hq60
                refine j_if_eqN (tgt := 71) dX6_nextOf_63 (by decide) (by omega) (fun c63 => ?_) (fun c63 => ?_)
                · refine j_iload_n dX6_nextOf_71 rfl ?_
                  refine j_istore_n (lv' := [(0, .ref 0), (1, .int (nI s)), (2, .int (nI u)), (3, .int (nI b)), (4, .int (nI u))]) dX6_nextOf_72 (Nat.le_of_ble_eq_true rfl) rfl rfl ?_
                  refine j_iinc (v := nI (u + 1)) (lv' := [(0, .ref 0), (1, .int (nI s)), (2, .int (nI u)), (3, .int (nI b)), (4, .int (nI (u + 1)))]) dX6_nextOf_73 rfl (nI_add _ 1) (Nat.le_of_ble_eq_true rfl) rfl rfl ?_
                  refine j_goto (tgt := 9) dX6_nextOf_76 (by decide) ?_
                  exact ih9 (nI u) (nI b) (u + 1) (by first | exact h1 | omega) (by first | exact fnd_it (by omega) hbu | exact fnd_it (by omega) hba | exact fnd_it (by omega) hbb | exact fnd_skip h2 hbn) (by first | exact fnd_it (by omega) hbu | exact fnd_it (by omega) hba | exact fnd_it (by omega) hbb | exact fnd_skip h3 hbn) (by omega)
                · refine j_iload dX6_nextOf_66 rfl ?_
                  refine j_goto (tgt := 72) dX6_nextOf_68 (by decide) ?_
                  refine j_istore_n (lv' := [(0, .ref 0), (1, .int (nI s)), (2, .int (nI u)), (3, .int (nI u)), (4, .int (nI u))]) dX6_nextOf_72 (Nat.le_of_ble_eq_true rfl) rfl rfl ?_
                  refine j_iinc (v := nI (u + 1)) (lv' := [(0, .ref 0), (1, .int (nI s)), (2, .int (nI u)), (3, .int (nI u)), (4, .int (nI (u + 1)))]) dX6_nextOf_73 rfl (nI_add _ 1) (Nat.le_of_ble_eq_true rfl) rfl rfl ?_
                  refine j_goto (tgt := 9) dX6_nextOf_76 (by decide) ?_
                  exact ih9 (nI u) (nI u) (u + 1) (by first | exact h1 | omega) (by first | exact fnd_it (by omega) hbu | exact fnd_it (by omega) hba | exact fnd_it (by omega) hbb | exact fnd_skip h2 hbn) (by first | exact fnd_it (by omega) hbu | exact fnd_it (by omega) hba | exact fnd_it (by omega) hbb | exact fnd_skip h3 hbn) (by omega)
  refine j_bipush (v := (-4)) dX6_nextOf_0 (by decide +kernel) ?_
  refine j_istore_n (lv' := [(0, .ref 0), (1, .int (nI s)), (2, .int ((-4)))]) dX6_nextOf_2 (Nat.le_of_ble_eq_true rfl) rfl rfl ?_
  refine j_bipush (v := (-4)) dX6_nextOf_3 (by decide +kernel) ?_
  refine j_istore_n (lv' := [(0, .ref 0), (1, .int (nI s)), (2, .int ((-4))), (3, .int ((-4)))]) dX6_nextOf_5 (Nat.le_of_ble_eq_true rfl) rfl rfl ?_
  refine j_iconst (v := nI 0) dX6_nextOf_6 (by decide +kernel) ?_
  refine j_istore (lv' := [(0, .ref 0), (1, .int (nI s)), (2, .int ((-4))), (3, .int ((-4))), (4, .int (nI 0))]) dX6_nextOf_7 (Nat.le_of_ble_eq_true rfl) rfl rfl ?_
  exact L9 _ (-4) (-4) 0 (by first | exact h1 | omega) (fnd_0 s) (fnd_0 s) (Nat.lt_succ_self _)

set_option maxHeartbeats 400000 in
set_option maxRecDepth 100000 in
theorem m_nthOf (z : mj_B) (d s k : Nat) (hs : s < 256) (hk : k < pc s) (F A : mj_S) : J (gM z) mX6_nthOf (d + 1) 0 [(0, .int (nI s)), (1, .int (nI k))] [] F A (qN F A fun a => a < 8) := by
  have hp8 := pc_le s
  have L4 : ∀ (fuel : Nat) (r : Nat) (i : Nat), (r < 256 ∧ pc r + i = pc s ∧ i ≤ k) → k - i < fuel → J (gM z) mX6_nthOf (d + 1) 4 [(1, .int (nI k)), (2, .int (nI r)), (3, .int (nI i))] [] F A (qN F A fun a => a < 8) := by
    intro fuel
    induction fuel with
    | zero => intro r i h1 hf; exact absurd hf (by omega)
    | succ fuel ih4 =>
      intro r i h1 hf
      refine j_iload_n dX6_nthOf_4 rfl ?_
      refine j_iload_n dX6_nthOf_5 rfl ?_
      refine j_icmp_geN (tgt := 21) dX6_nthOf_6 (by decide) (by omega) (by omega) (fun c6 => ?_) (fun c6 => ?_)
      · have hr0 := pc_pos r (by omega) (by omega)
        obtain ⟨b, hb8, hbb⟩ := low_bit r (by omega) hr0
        have L23 : ∀ (fuel : Nat) (a : Nat), (a ≤ b) → b - a < fuel → J (gM z) mX6_nthOf (d + 1) 23 [(2, .int (nI r)), (3, .int (nI a))] [] F A (qN F A fun a => a < 8) := by
          intro fuel
          induction fuel with
          | zero => intro a h2 hf; exact absurd hf (by omega)
          | succ fuel ih23 =>
            intro a h2 hf
            refine j_iload_n dX6_nthOf_23 rfl ?_
            refine j_iload_n dX6_nthOf_24 rfl ?_
            refine j_callS (y' := mX6_has) (As := [.int (nI r), .int (nI a)]) (st := []) dX6_nthOf_25 lkX6_185 okX6_has stX6_has rfl (Nat.le_of_ble_eq_true rfl) (Nat.le_of_ble_eq_true rfl) (m_has z _ r a (by omega) (by omega) F A) (fun v25 F25 A25 hq25 => ?_)
            obtain ⟨rfl, rfl, r25, rfl, hr25⟩ := hq25
            have hb25 : r25 ≤ 1 := by omega
            refine j_if_neN (tgt := 37) dX6_nthOf_28 (by decide) (by omega) (fun c28 => ?_) (fun c28 => ?_)
            · refine j_iload_n dX6_nthOf_37 rfl ?_
              exact j_iret dX6_nthOf_38 rfl rfl ⟨rfl, rfl, _, rfl, by omega⟩
            · have hab : a ≠ b := fun e => by rw [e] at hr25; omega
              refine j_iinc (v := nI (a + 1)) (lv' := [(2, .int (nI r)), (3, .int (nI (a + 1)))]) dX6_nthOf_31 rfl (nI_add _ 1) (Nat.le_of_ble_eq_true rfl) rfl rfl ?_
              refine j_goto (tgt := 23) dX6_nthOf_34 (by decide) ?_
              exact ih23 (a + 1) (by first | exact h2 | omega) (by omega)
        refine j_iconst (v := nI 0) dX6_nthOf_21 (by decide +kernel) ?_
        refine j_istore_n (lv' := [(1, .int (nI k)), (2, .int (nI r)), (3, .int (nI 0))]) dX6_nthOf_22 (Nat.le_of_ble_eq_true rfl) rfl rfl ?_
        refine j_sub [1, 2] rfl ?_
        exact L23 _ 0 (by first | exact h2 | omega) (Nat.lt_succ_self _)
      · have hr0 := pc_pos r (by omega) (by omega)
        have hps := pc_step r (by omega) hr0
        refine j_iload_n dX6_nthOf_9 rfl ?_
        refine j_iload_n dX6_nthOf_10 rfl ?_
        refine j_iconst (v := nI 1) dX6_nthOf_11 (by decide +kernel) ?_
        refine j_isubN dX6_nthOf_12 (by omega) ?_
        refine j_iand dX6_nthOf_13 ?_
        refine j_top (y0 := nI (r &&& (r - 1))) (fa_and _ _) ?_
        refine j_istore_n (lv' := [(1, .int (nI k)), (2, .int (nI (r &&& (r - 1)))), (3, .int (nI i))]) dX6_nthOf_14 (Nat.le_of_ble_eq_true rfl) rfl rfl ?_
        refine j_iinc (v := nI (i + 1)) (lv' := [(1, .int (nI k)), (2, .int (nI (r &&& (r - 1)))), (3, .int (nI (i + 1)))]) dX6_nthOf_15 rfl (nI_add _ 1) (Nat.le_of_ble_eq_true rfl) rfl rfl ?_
        refine j_goto (tgt := 4) dX6_nthOf_18 (by decide) ?_
        exact ih4 (r &&& (r - 1)) (i + 1) (by first | exact h1 | omega) (by omega)
  refine j_iload_n dX6_nthOf_0 rfl ?_
  refine j_istore_n (lv' := [(0, .int (nI s)), (1, .int (nI k)), (2, .int (nI s))]) dX6_nthOf_1 (Nat.le_of_ble_eq_true rfl) rfl rfl ?_
  refine j_iconst (v := nI 0) dX6_nthOf_2 (by decide +kernel) ?_
  refine j_istore_n (lv' := [(0, .int (nI s)), (1, .int (nI k)), (2, .int (nI s)), (3, .int (nI 0))]) dX6_nthOf_3 (Nat.le_of_ble_eq_true rfl) rfl rfl ?_
  refine j_sub [1, 2, 3] rfl ?_
  exact L4 _ s 0 (by first | exact h1 | omega) (Nat.lt_succ_self _)

set_option maxHeartbeats 400000 in
set_option maxRecDepth 100000 in
theorem m_ruleOne (z : mj_B) (d : Nat) (L : Lg) (n : Nat) (mm : Nat → Nat) (rn : Nat) (rm : Nat → Nat) (un kn : Nat) (u v : Nat) (hu : u < 8) (hv : v < 8) (F A : mj_S) (hM : MI L n mm rn rm un kn F A) : J (gM z) mX6_ruleOne (d + 1) 0 [(0, .ref 0), (1, .int (nI u)), (2, .int (nI v))] [] F A (fun v F' A' => v = none ∧ F = F' ∧ MI L n mm rn rm un kn F A') := by
  have hM0 := hM.1.2.1
  have hM1 := hM.2.1.2.1
  have hM2 := hM.2.2.1.2.1
  have hM3 := hM.2.2.2.1.2
  have hM4 := hM.2.2.2.2.1.2
  have h4u := hM.2.1.2.2.2.1 u
  have h4v := hM.2.1.2.2.2.1 v
  have L2 : ∀ (fuel : Nat) (j : Nat) (A : mj_S), (MI L n mm rn rm un kn F A) → (j ≤ mm v) → mm v - j < fuel → J (gM z) mX6_ruleOne (d + 1) 2 [(0, .ref 0), (1, .int (nI u)), (2, .int (nI v)), (3, .int (nI j))] [] F A (fun v F' A' => v = none ∧ F = F' ∧ MI L n mm rn rm un kn F A') := by
    intro fuel
    induction fuel with
    | zero => intro j A hM h1 hf; exact absurd hf (by omega)
    | succ fuel ih2 =>
      intro j A hM h1 hf
      refine j_iload_n dX6_ruleOne_2 rfl ?_
      refine j_aload_n dX6_ruleOne_3 rfl ?_
      refine j_getR (r := 2) dX6_ruleOne_4 flX6_13 (Nat.le_of_ble_eq_true rfl) rfl rfl ?_
      refine j_iload_n dX6_ruleOne_7 rfl ?_
      refine j_ialdN dX6_ruleOne_8 (Nat.le_of_ble_eq_true rfl) rfl (by omega) (by decide) ?_
      refine j_top (y0 := nI (mm v)) (hM.2.1.2.2.1 _ (by omega)) ?_
      refine j_icmp_geN (tgt := 111) dX6_ruleOne_9 (by decide) (by omega) (by omega) (fun c9 => ?_) (fun c9 => ?_)
      · exact j_vret dX6_ruleOne_111 rfl ⟨rfl, rfl, hM⟩
      · have L19 : ∀ (fuel : Nat) (le : Int32) (i : Nat), (i ≤ mm u) → mm u - i < fuel → J (gM z) mX6_ruleOne (d + 1) 19 [(0, .ref 0), (1, .int (nI u)), (2, .int (nI v)), (3, .int (nI j)), (4, .int le), (5, .int (nI i))] [] F A (fun v F' A' => v = none ∧ F = F' ∧ MI L n mm rn rm un kn F A') := by
          intro fuel
          induction fuel with
          | zero => intro le i h2 hf; exact absurd hf (by omega)
          | succ fuel ih19 =>
            intro le i h2 hf
            refine j_iload dX6_ruleOne_19 rfl ?_
            refine j_aload_n dX6_ruleOne_21 rfl ?_
            refine j_getR (r := 2) dX6_ruleOne_22 flX6_13 (Nat.le_of_ble_eq_true rfl) rfl rfl ?_
            refine j_iload_n dX6_ruleOne_25 rfl ?_
            refine j_ialdN dX6_ruleOne_26 (Nat.le_of_ble_eq_true rfl) rfl (by omega) (by decide) ?_
            refine j_top (y0 := nI (mm u)) (hM.2.1.2.2.1 _ (by omega)) ?_
            refine j_icmp_geN (tgt := 79) dX6_ruleOne_27 (by decide) (by omega) (by omega) (fun c27 => ?_) (fun c27 => ?_)
            · refine j_aload_n dX6_ruleOne_79 rfl ?_
              refine j_getR (r := 8) dX6_ruleOne_80 flX6_31 (Nat.le_of_ble_eq_true rfl) rfl rfl ?_
              refine j_iconst (v := nI 4) dX6_ruleOne_83 (by decide +kernel) ?_
              refine j_iload_n dX6_ruleOne_84 rfl ?_
              refine j_imulN dX6_ruleOne_85 ?_
              refine j_iload_n dX6_ruleOne_86 rfl ?_
              refine j_iaddN dX6_ruleOne_87 ?_
              refine j_aload_n dX6_ruleOne_88 rfl ?_
              refine j_getR (r := 8) dX6_ruleOne_89 flX6_31 (Nat.le_of_ble_eq_true rfl) rfl rfl ?_
              refine j_iconst (v := nI 4) dX6_ruleOne_92 (by decide +kernel) ?_
              refine j_iload_n dX6_ruleOne_93 rfl ?_
              refine j_imulN dX6_ruleOne_94 ?_
              refine j_iload_n dX6_ruleOne_95 rfl ?_
              refine j_iaddN dX6_ruleOne_96 ?_
              refine j_ialdN dX6_ruleOne_97 (Nat.le_of_ble_eq_true rfl) rfl (by omega) (by decide) ?_
              refine j_iload dX6_ruleOne_98 rfl ?_
              refine j_iadd dX6_ruleOne_100 ?_
              refine j_callS (y' := mX6_atMost) (As := [.int ((A 8 (4 * v + j)) + le)]) (st := [.int (nI (4 * v + j)), .ref 8]) dX6_ruleOne_101 lkX6_191 okX6_atMost stX6_atMost rfl (Nat.le_of_ble_eq_true rfl) (Nat.le_of_ble_eq_true rfl) (m_atMost z _ ((A 8 (4 * v + j)) + le) F A) (fun v101 F101 A101 hq101 => ?_)
              obtain ⟨rfl, rfl, r101, rfl, hr101⟩ := hq101
              refine j_iastN dX6_ruleOne_104 (Nat.le_of_ble_eq_true rfl) rfl (by omega) (by decide) ?_
              refine j_iinc (v := nI (j + 1)) (lv' := [(0, .ref 0), (1, .int (nI u)), (2, .int (nI v)), (3, .int (nI (j + 1))), (4, .int le), (5, .int (nI i))]) dX6_ruleOne_105 rfl (nI_add _ 1) (Nat.le_of_ble_eq_true rfl) rfl rfl ?_
              refine j_goto (tgt := 2) dX6_ruleOne_108 (by decide) ?_
              refine j_sub [0, 1, 2, 3] rfl ?_
              exact ih2 (j + 1) (mj_u A 8 (4 * v + j) r101) (by first | exact hM | omega) (by first | exact h1 | omega) (by omega)
            · refine j_aload_n dX6_ruleOne_30 rfl ?_
              refine j_getR (r := 8) dX6_ruleOne_31 flX6_31 (Nat.le_of_ble_eq_true rfl) rfl rfl ?_
              refine j_iconst (v := nI 4) dX6_ruleOne_34 (by decide +kernel) ?_
              refine j_iload_n dX6_ruleOne_35 rfl ?_
              refine j_imulN dX6_ruleOne_36 ?_
              refine j_iload dX6_ruleOne_37 rfl ?_
              refine j_iaddN dX6_ruleOne_39 ?_
              refine j_ialdN dX6_ruleOne_40 (Nat.le_of_ble_eq_true rfl) rfl (by omega) (by decide) ?_
              refine j_aload_n dX6_ruleOne_41 rfl ?_
              refine j_getR (r := 9) dX6_ruleOne_42 flX6_34 (Nat.le_of_ble_eq_true rfl) rfl rfl ?_
              refine j_iload_n dX6_ruleOne_45 rfl ?_
              refine j_iload_n dX6_ruleOne_46 rfl ?_
              refine j_iload dX6_ruleOne_47 rfl ?_
              refine j_iload_n dX6_ruleOne_49 rfl ?_
              refine j_callS (y' := mX6_tableAt) (As := [.int (nI u), .int (nI v), .int (nI i), .int (nI j)]) (st := [.ref 9, .int (A 8 (4 * u + i))]) dX6_ruleOne_50 lkX6_179 okX6_tableAt stX6_tableAt rfl (Nat.le_of_ble_eq_true rfl) (Nat.le_of_ble_eq_true rfl) (m_tableAt z _ u v i j F A) (fun v50 F50 A50 hq50 => ?_)
              obtain ⟨rfl, rfl, r50, rfl, hr50⟩ := hq50
              refine j_ialdN dX6_ruleOne_53 (Nat.le_of_ble_eq_true rfl) rfl (by omega) (by decide) ?_
              refine j_iadd dX6_ruleOne_54 ?_
              refine j_istore (lv' := [(0, .ref 0), (1, .int (nI u)), (2, .int (nI v)), (3, .int (nI j)), (4, .int le), (5, .int (nI i)), (6, .int ((A 8 (4 * u + i)) + (A 9 r50)))]) dX6_ruleOne_55 (Nat.le_of_ble_eq_true rfl) rfl rfl ?_
              refine j_iload dX6_ruleOne_57 rfl ?_
              refine j_iload dX6_ruleOne_59 rfl ?_
              refine j_icmp_ge (tgt := 69) dX6_ruleOne_61 (by decide) (fun c61 => ?_) (fun c61 => ?_)
              · refine j_iload dX6_ruleOne_69 rfl ?_
                refine j_istore (lv' := [(0, .ref 0), (1, .int (nI u)), (2, .int (nI v)), (3, .int (nI j)), (4, .int le), (5, .int (nI i)), (6, .int ((A 8 (4 * u + i)) + (A 9 r50)))]) dX6_ruleOne_71 (Nat.le_of_ble_eq_true rfl) rfl rfl ?_
                refine j_iinc (v := nI (i + 1)) (lv' := [(0, .ref 0), (1, .int (nI u)), (2, .int (nI v)), (3, .int (nI j)), (4, .int le), (5, .int (nI (i + 1))), (6, .int ((A 8 (4 * u + i)) + (A 9 r50)))]) dX6_ruleOne_73 rfl (nI_add _ 1) (Nat.le_of_ble_eq_true rfl) rfl rfl ?_
                refine j_goto (tgt := 19) dX6_ruleOne_76 (by decide) ?_
                refine j_sub [0, 1, 2, 3, 4, 5] rfl ?_
                exact ih19 le (i + 1) (by first | exact h2 | omega) (by omega)
              · refine j_iload dX6_ruleOne_64 rfl ?_
                refine j_goto (tgt := 71) dX6_ruleOne_66 (by decide) ?_
                refine j_istore (lv' := [(0, .ref 0), (1, .int (nI u)), (2, .int (nI v)), (3, .int (nI j)), (4, .int ((A 8 (4 * u + i)) + (A 9 r50))), (5, .int (nI i)), (6, .int ((A 8 (4 * u + i)) + (A 9 r50)))]) dX6_ruleOne_71 (Nat.le_of_ble_eq_true rfl) rfl rfl ?_
                refine j_iinc (v := nI (i + 1)) (lv' := [(0, .ref 0), (1, .int (nI u)), (2, .int (nI v)), (3, .int (nI j)), (4, .int ((A 8 (4 * u + i)) + (A 9 r50))), (5, .int (nI (i + 1))), (6, .int ((A 8 (4 * u + i)) + (A 9 r50)))]) dX6_ruleOne_73 rfl (nI_add _ 1) (Nat.le_of_ble_eq_true rfl) rfl rfl ?_
                refine j_goto (tgt := 19) dX6_ruleOne_76 (by decide) ?_
                refine j_sub [0, 1, 2, 3, 4, 5] rfl ?_
                exact ih19 ((A 8 (4 * u + i)) + (A 9 r50)) (i + 1) (by first | exact h2 | omega) (by omega)
        refine j_ldc dX6_ruleOne_12 kcX6_145 ?_
        refine j_istore (lv' := [(0, .ref 0), (1, .int (nI u)), (2, .int (nI v)), (3, .int (nI j)), (4, .int 1000000)]) dX6_ruleOne_14 (Nat.le_of_ble_eq_true rfl) rfl rfl ?_
        refine j_iconst (v := nI 0) dX6_ruleOne_16 (by decide +kernel) ?_
        refine j_istore (lv' := [(0, .ref 0), (1, .int (nI u)), (2, .int (nI v)), (3, .int (nI j)), (4, .int 1000000), (5, .int (nI 0))]) dX6_ruleOne_17 (Nat.le_of_ble_eq_true rfl) rfl rfl ?_
        exact L19 _ 1000000 0 (by first | exact h2 | omega) (Nat.lt_succ_self _)
  refine j_iconst (v := nI 0) dX6_ruleOne_0 (by decide +kernel) ?_
  refine j_istore_n (lv' := [(0, .ref 0), (1, .int (nI u)), (2, .int (nI v)), (3, .int (nI 0))]) dX6_ruleOne_1 (Nat.le_of_ble_eq_true rfl) rfl rfl ?_
  exact L2 _ 0 A (by first | exact hM | omega) (by first | exact h1 | omega) (Nat.lt_succ_self _)

set_option maxHeartbeats 400000 in
set_option maxRecDepth 100000 in
theorem m_ruleTwo (z : mj_B) (d : Nat) (L : Lg) (n : Nat) (mm : Nat → Nat) (rn : Nat) (rm : Nat → Nat) (un kn : Nat) (u v w : Nat) (hu : u < 8) (hv : v < 8) (hw : w < 8) (F A : mj_S) (hM : MI L n mm rn rm un kn F A) : J (gM z) mX6_ruleTwo (d + 1) 0 [(0, .ref 0), (1, .int (nI u)), (2, .int (nI v)), (3, .int (nI w))] [] F A (fun v F' A' => v = none ∧ F = F' ∧ MI L n mm rn rm un kn F A') := by
  have hM0 := hM.1.2.1
  have hM1 := hM.2.1.2.1
  have hM2 := hM.2.2.1.2.1
  have hM3 := hM.2.2.2.1.2
  have hM4 := hM.2.2.2.2.1.2
  have h4u := hM.2.1.2.2.2.1 u
  have h4v := hM.2.1.2.2.2.1 v
  have h4w := hM.2.1.2.2.2.1 w
  have hp16 : mm v * mm w ≤ 16 := Nat.mul_le_mul h4v h4w
  have L3 : ∀ (fuel : Nat) (k : Nat) (A : mj_S), (MI L n mm rn rm un kn F A) → (k ≤ mm v * mm w) → mm v * mm w - k < fuel → J (gM z) mX6_ruleTwo (d + 1) 3 [(0, .ref 0), (1, .int (nI u)), (2, .int (nI v)), (3, .int (nI w)), (4, .int (nI k))] [] F A (fun v F' A' => v = none ∧ F = F' ∧ MI L n mm rn rm un kn F A') := by
    intro fuel
    induction fuel with
    | zero => intro k A hM h1 hf; exact absurd hf (by omega)
    | succ fuel ih3 =>
      intro k A hM h1 hf
      refine j_iload dX6_ruleTwo_3 rfl ?_
      refine j_aload_n dX6_ruleTwo_5 rfl ?_
      refine j_getR (r := 2) dX6_ruleTwo_6 flX6_13 (Nat.le_of_ble_eq_true rfl) rfl rfl ?_
      refine j_iload_n dX6_ruleTwo_9 rfl ?_
      refine j_ialdN dX6_ruleTwo_10 (Nat.le_of_ble_eq_true rfl) rfl (by omega) (by decide) ?_
      refine j_top (y0 := nI (mm v)) (hM.2.1.2.2.1 _ (by omega)) ?_
      refine j_aload_n dX6_ruleTwo_11 rfl ?_
      refine j_getR (r := 2) dX6_ruleTwo_12 flX6_13 (Nat.le_of_ble_eq_true rfl) rfl rfl ?_
      refine j_iload_n dX6_ruleTwo_15 rfl ?_
      refine j_ialdN dX6_ruleTwo_16 (Nat.le_of_ble_eq_true rfl) rfl (by omega) (by decide) ?_
      refine j_top (y0 := nI (mm w)) (hM.2.1.2.2.1 _ (by omega)) ?_
      refine j_imulN dX6_ruleTwo_17 ?_
      refine j_icmp_geN (tgt := 186) dX6_ruleTwo_18 (by decide) (by omega) (by omega) (fun c18 => ?_) (fun c18 => ?_)
      · refine j_aload_n dX6_ruleTwo_186 rfl ?_
        refine j_getR (r := 10) dX6_ruleTwo_187 flX6_37 (Nat.le_of_ble_eq_true rfl) rfl rfl ?_
        refine j_iload_n dX6_ruleTwo_190 rfl ?_
        refine j_dup2 dX6_ruleTwo_191 rfl rfl ?_
        refine j_ialdN dX6_ruleTwo_192 (Nat.le_of_ble_eq_true rfl) rfl (by omega) (by decide) ?_
        obtain ⟨t1, ht1, et1⟩ := hM.tied v (by omega)
        refine j_top (y0 := nI t1) et1 ?_
        refine j_iconst (v := nI 1) dX6_ruleTwo_193 (by decide +kernel) ?_
        refine j_iload_n dX6_ruleTwo_194 rfl ?_
        refine j_ishl dX6_ruleTwo_195 ?_
        refine j_top (y0 := nI (2 ^ w)) (shl_1 (by omega)) ?_
        refine j_ior dX6_ruleTwo_196 ?_
        refine j_top (y0 := nI (t1 ||| (2 ^ w))) (fa_or _ _) ?_
        refine j_iastN dX6_ruleTwo_197 (Nat.le_of_ble_eq_true rfl) rfl (by omega) (by decide) ?_
        have hM := hM.s10 v (t := t1 ||| (2 ^ w)) (Nat.le_of_lt_succ (or_256 (by omega) (p2_8 (by omega))))
        refine j_aload_n dX6_ruleTwo_198 rfl ?_
        refine j_getR (r := 10) dX6_ruleTwo_199 flX6_37 (Nat.le_of_ble_eq_true rfl) rfl rfl ?_
        refine j_iload_n dX6_ruleTwo_202 rfl ?_
        refine j_dup2 dX6_ruleTwo_203 rfl rfl ?_
        refine j_ialdN dX6_ruleTwo_204 (Nat.le_of_ble_eq_true rfl) rfl (by omega) (by decide) ?_
        obtain ⟨t2, ht2, et2⟩ := hM.tied w (by omega)
        refine j_top (y0 := nI t2) et2 ?_
        refine j_iconst (v := nI 1) dX6_ruleTwo_205 (by decide +kernel) ?_
        refine j_iload_n dX6_ruleTwo_206 rfl ?_
        refine j_ishl dX6_ruleTwo_207 ?_
        refine j_top (y0 := nI (2 ^ v)) (shl_1 (by omega)) ?_
        refine j_ior dX6_ruleTwo_208 ?_
        refine j_top (y0 := nI (t2 ||| (2 ^ v))) (fa_or _ _) ?_
        refine j_iastN dX6_ruleTwo_209 (Nat.le_of_ble_eq_true rfl) rfl (by omega) (by decide) ?_
        have hM := hM.s10 w (t := t2 ||| (2 ^ v)) (Nat.le_of_lt_succ (or_256 (by omega) (p2_8 (by omega))))
        exact j_vret dX6_ruleTwo_210 rfl ⟨rfl, rfl, hM⟩
      · have hw1 : 0 < mm w := Nat.pos_of_ne_zero (fun e => by rw [e, Nat.mul_zero] at c18; exact absurd c18 (Nat.not_lt_zero _))
        have hd1 : k / mm w < mm v := Nat.div_lt_of_lt_mul (by rw [Nat.mul_comm]; exact c18)
        have hd2 : k % mm w < mm w := Nat.mod_lt _ hw1
        have L50 : ∀ (fuel : Nat) (le : Int32) (i : Nat), (i ≤ mm u) → mm u - i < fuel → J (gM z) mX6_ruleTwo (d + 1) 50 [(0, .ref 0), (1, .int (nI u)), (2, .int (nI v)), (3, .int (nI w)), (4, .int (nI k)), (5, .int (nI (k / (mm w)))), (6, .int (nI (k % (mm w)))), (7, .int le), (8, .int (nI i))] [] F A (fun v F' A' => v = none ∧ F = F' ∧ MI L n mm rn rm un kn F A') := by
          intro fuel
          induction fuel with
          | zero => intro le i h2 hf; exact absurd hf (by omega)
          | succ fuel ih50 =>
            intro le i h2 hf
            refine j_iload dX6_ruleTwo_50 rfl ?_
            refine j_aload_n dX6_ruleTwo_52 rfl ?_
            refine j_getR (r := 2) dX6_ruleTwo_53 flX6_13 (Nat.le_of_ble_eq_true rfl) rfl rfl ?_
            refine j_iload_n dX6_ruleTwo_56 rfl ?_
            refine j_ialdN dX6_ruleTwo_57 (Nat.le_of_ble_eq_true rfl) rfl (by omega) (by decide) ?_
            refine j_top (y0 := nI (mm u)) (hM.2.1.2.2.1 _ (by omega)) ?_
            refine j_icmp_geN (tgt := 126) dX6_ruleTwo_58 (by decide) (by omega) (by omega) (fun c58 => ?_) (fun c58 => ?_)
            · refine j_aload_n dX6_ruleTwo_126 rfl ?_
              refine j_getR (r := 9) dX6_ruleTwo_127 flX6_34 (Nat.le_of_ble_eq_true rfl) rfl rfl ?_
              refine j_iload_n dX6_ruleTwo_130 rfl ?_
              refine j_iload_n dX6_ruleTwo_131 rfl ?_
              refine j_iload dX6_ruleTwo_132 rfl ?_
              refine j_iload dX6_ruleTwo_134 rfl ?_
              refine j_callS (y' := mX6_tableAt) (As := [.int (nI v), .int (nI w), .int (nI (k / (mm w))), .int (nI (k % (mm w)))]) (st := [.ref 9]) dX6_ruleTwo_136 lkX6_179 okX6_tableAt stX6_tableAt rfl (Nat.le_of_ble_eq_true rfl) (Nat.le_of_ble_eq_true rfl) (m_tableAt z _ v w (k / (mm w)) (k % (mm w)) F A) (fun v136 F136 A136 hq136 => ?_)
              obtain ⟨rfl, rfl, r136, rfl, hr136⟩ := hq136
              refine j_ialdN dX6_ruleTwo_139 (Nat.le_of_ble_eq_true rfl) rfl (by omega) (by decide) ?_
              refine j_iload dX6_ruleTwo_140 rfl ?_
              refine j_iadd dX6_ruleTwo_142 ?_
              refine j_callS (y' := mX6_atMost) (As := [.int ((A 9 r136) + le)]) (st := []) dX6_ruleTwo_143 lkX6_191 okX6_atMost stX6_atMost rfl (Nat.le_of_ble_eq_true rfl) (Nat.le_of_ble_eq_true rfl) (m_atMost z _ ((A 9 r136) + le) F A) (fun v143 F143 A143 hq143 => ?_)
              obtain ⟨rfl, rfl, r143, rfl, hr143⟩ := hq143
              refine j_istore (lv' := [(0, .ref 0), (1, .int (nI u)), (2, .int (nI v)), (3, .int (nI w)), (4, .int (nI k)), (5, .int (nI (k / (mm w)))), (6, .int (nI (k % (mm w)))), (7, .int le), (8, .int r143)]) dX6_ruleTwo_146 (Nat.le_of_ble_eq_true rfl) rfl rfl ?_
              refine j_aload_n dX6_ruleTwo_148 rfl ?_
              refine j_getR (r := 9) dX6_ruleTwo_149 flX6_34 (Nat.le_of_ble_eq_true rfl) rfl rfl ?_
              refine j_iload_n dX6_ruleTwo_152 rfl ?_
              refine j_iload_n dX6_ruleTwo_153 rfl ?_
              refine j_iload dX6_ruleTwo_154 rfl ?_
              refine j_iload dX6_ruleTwo_156 rfl ?_
              refine j_callS (y' := mX6_tableAt) (As := [.int (nI v), .int (nI w), .int (nI (k / (mm w))), .int (nI (k % (mm w)))]) (st := [.ref 9]) dX6_ruleTwo_158 lkX6_179 okX6_tableAt stX6_tableAt rfl (Nat.le_of_ble_eq_true rfl) (Nat.le_of_ble_eq_true rfl) (m_tableAt z _ v w (k / (mm w)) (k % (mm w)) F A) (fun v158 F158 A158 hq158 => ?_)
              obtain ⟨rfl, rfl, r158, rfl, hr158⟩ := hq158
              refine j_iload dX6_ruleTwo_161 rfl ?_
              refine j_iastN dX6_ruleTwo_163 (Nat.le_of_ble_eq_true rfl) rfl (by omega) (by decide) ?_
              refine j_aload_n dX6_ruleTwo_164 rfl ?_
              refine j_getR (r := 9) dX6_ruleTwo_165 flX6_34 (Nat.le_of_ble_eq_true rfl) rfl rfl ?_
              refine j_iload_n dX6_ruleTwo_168 rfl ?_
              refine j_iload_n dX6_ruleTwo_169 rfl ?_
              refine j_iload dX6_ruleTwo_170 rfl ?_
              refine j_iload dX6_ruleTwo_172 rfl ?_
              refine j_callS (y' := mX6_tableAt) (As := [.int (nI w), .int (nI v), .int (nI (k % (mm w))), .int (nI (k / (mm w)))]) (st := [.ref 9]) dX6_ruleTwo_174 lkX6_179 okX6_tableAt stX6_tableAt rfl (Nat.le_of_ble_eq_true rfl) (Nat.le_of_ble_eq_true rfl) (m_tableAt z _ w v (k % (mm w)) (k / (mm w)) F (mj_u A 9 r158 r143)) (fun v174 F174 A174 hq174 => ?_)
              obtain ⟨rfl, rfl, r174, rfl, hr174⟩ := hq174
              refine j_iload dX6_ruleTwo_177 rfl ?_
              refine j_iastN dX6_ruleTwo_179 (Nat.le_of_ble_eq_true rfl) rfl (by omega) (by decide) ?_
              refine j_iinc (v := nI (k + 1)) (lv' := [(0, .ref 0), (1, .int (nI u)), (2, .int (nI v)), (3, .int (nI w)), (4, .int (nI (k + 1))), (5, .int (nI (k / (mm w)))), (6, .int (nI (k % (mm w)))), (7, .int le), (8, .int r143)]) dX6_ruleTwo_180 rfl (nI_add _ 1) (Nat.le_of_ble_eq_true rfl) rfl rfl ?_
              refine j_goto (tgt := 3) dX6_ruleTwo_183 (by decide) ?_
              refine j_sub [0, 1, 2, 3, 4] rfl ?_
              exact ih3 (k + 1) (mj_u (mj_u A 9 r158 r143) 9 r174 r143) (by first | exact hM | omega) (by first | exact h1 | omega) (by omega)
            · refine j_aload_n dX6_ruleTwo_61 rfl ?_
              refine j_getR (r := 8) dX6_ruleTwo_62 flX6_31 (Nat.le_of_ble_eq_true rfl) rfl rfl ?_
              refine j_iconst (v := nI 4) dX6_ruleTwo_65 (by decide +kernel) ?_
              refine j_iload_n dX6_ruleTwo_66 rfl ?_
              refine j_imulN dX6_ruleTwo_67 ?_
              refine j_iload dX6_ruleTwo_68 rfl ?_
              refine j_iaddN dX6_ruleTwo_70 ?_
              refine j_ialdN dX6_ruleTwo_71 (Nat.le_of_ble_eq_true rfl) rfl (by omega) (by decide) ?_
              refine j_aload_n dX6_ruleTwo_72 rfl ?_
              refine j_getR (r := 9) dX6_ruleTwo_73 flX6_34 (Nat.le_of_ble_eq_true rfl) rfl rfl ?_
              refine j_iload_n dX6_ruleTwo_76 rfl ?_
              refine j_iload_n dX6_ruleTwo_77 rfl ?_
              refine j_iload dX6_ruleTwo_78 rfl ?_
              refine j_iload dX6_ruleTwo_80 rfl ?_
              refine j_callS (y' := mX6_tableAt) (As := [.int (nI u), .int (nI v), .int (nI i), .int (nI (k / (mm w)))]) (st := [.ref 9, .int (A 8 (4 * u + i))]) dX6_ruleTwo_82 lkX6_179 okX6_tableAt stX6_tableAt rfl (Nat.le_of_ble_eq_true rfl) (Nat.le_of_ble_eq_true rfl) (m_tableAt z _ u v i (k / (mm w)) F A) (fun v82 F82 A82 hq82 => ?_)
              obtain ⟨rfl, rfl, r82, rfl, hr82⟩ := hq82
              refine j_ialdN dX6_ruleTwo_85 (Nat.le_of_ble_eq_true rfl) rfl (by omega) (by decide) ?_
              refine j_iadd dX6_ruleTwo_86 ?_
              refine j_aload_n dX6_ruleTwo_87 rfl ?_
              refine j_getR (r := 9) dX6_ruleTwo_88 flX6_34 (Nat.le_of_ble_eq_true rfl) rfl rfl ?_
              refine j_iload_n dX6_ruleTwo_91 rfl ?_
              refine j_iload_n dX6_ruleTwo_92 rfl ?_
              refine j_iload dX6_ruleTwo_93 rfl ?_
              refine j_iload dX6_ruleTwo_95 rfl ?_
              refine j_callS (y' := mX6_tableAt) (As := [.int (nI u), .int (nI w), .int (nI i), .int (nI (k % (mm w)))]) (st := [.ref 9, .int ((A 8 (4 * u + i)) + (A 9 r82))]) dX6_ruleTwo_97 lkX6_179 okX6_tableAt stX6_tableAt rfl (Nat.le_of_ble_eq_true rfl) (Nat.le_of_ble_eq_true rfl) (m_tableAt z _ u w i (k % (mm w)) F A) (fun v97 F97 A97 hq97 => ?_)
              obtain ⟨rfl, rfl, r97, rfl, hr97⟩ := hq97
              refine j_ialdN dX6_ruleTwo_100 (Nat.le_of_ble_eq_true rfl) rfl (by omega) (by decide) ?_
              refine j_iadd dX6_ruleTwo_101 ?_
              refine j_istore (lv' := [(0, .ref 0), (1, .int (nI u)), (2, .int (nI v)), (3, .int (nI w)), (4, .int (nI k)), (5, .int (nI (k / (mm w)))), (6, .int (nI (k % (mm w)))), (7, .int le), (8, .int (nI i)), (9, .int (((A 8 (4 * u + i)) + (A 9 r82)) + (A 9 r97)))]) dX6_ruleTwo_102 (Nat.le_of_ble_eq_true rfl) rfl rfl ?_
              refine j_iload dX6_ruleTwo_104 rfl ?_
              refine j_iload dX6_ruleTwo_106 rfl ?_
              refine j_icmp_ge (tgt := 116) dX6_ruleTwo_108 (by decide) (fun c108 => ?_) (fun c108 => ?_)
              · refine j_iload dX6_ruleTwo_116 rfl ?_
                refine j_istore (lv' := [(0, .ref 0), (1, .int (nI u)), (2, .int (nI v)), (3, .int (nI w)), (4, .int (nI k)), (5, .int (nI (k / (mm w)))), (6, .int (nI (k % (mm w)))), (7, .int le), (8, .int (nI i)), (9, .int (((A 8 (4 * u + i)) + (A 9 r82)) + (A 9 r97)))]) dX6_ruleTwo_118 (Nat.le_of_ble_eq_true rfl) rfl rfl ?_
                refine j_iinc (v := nI (i + 1)) (lv' := [(0, .ref 0), (1, .int (nI u)), (2, .int (nI v)), (3, .int (nI w)), (4, .int (nI k)), (5, .int (nI (k / (mm w)))), (6, .int (nI (k % (mm w)))), (7, .int le), (8, .int (nI (i + 1))), (9, .int (((A 8 (4 * u + i)) + (A 9 r82)) + (A 9 r97)))]) dX6_ruleTwo_120 rfl (nI_add _ 1) (Nat.le_of_ble_eq_true rfl) rfl rfl ?_
                refine j_goto (tgt := 50) dX6_ruleTwo_123 (by decide) ?_
                refine j_sub [0, 1, 2, 3, 4, 5, 6, 7, 8] rfl ?_
                exact ih50 le (i + 1) (by first | exact h2 | omega) (by omega)
              · refine j_iload dX6_ruleTwo_111 rfl ?_
                refine j_goto (tgt := 118) dX6_ruleTwo_113 (by decide) ?_
                refine j_istore (lv' := [(0, .ref 0), (1, .int (nI u)), (2, .int (nI v)), (3, .int (nI w)), (4, .int (nI k)), (5, .int (nI (k / (mm w)))), (6, .int (nI (k % (mm w)))), (7, .int (((A 8 (4 * u + i)) + (A 9 r82)) + (A 9 r97))), (8, .int (nI i)), (9, .int (((A 8 (4 * u + i)) + (A 9 r82)) + (A 9 r97)))]) dX6_ruleTwo_118 (Nat.le_of_ble_eq_true rfl) rfl rfl ?_
                refine j_iinc (v := nI (i + 1)) (lv' := [(0, .ref 0), (1, .int (nI u)), (2, .int (nI v)), (3, .int (nI w)), (4, .int (nI k)), (5, .int (nI (k / (mm w)))), (6, .int (nI (k % (mm w)))), (7, .int (((A 8 (4 * u + i)) + (A 9 r82)) + (A 9 r97))), (8, .int (nI (i + 1))), (9, .int (((A 8 (4 * u + i)) + (A 9 r82)) + (A 9 r97)))]) dX6_ruleTwo_120 rfl (nI_add _ 1) (Nat.le_of_ble_eq_true rfl) rfl rfl ?_
                refine j_goto (tgt := 50) dX6_ruleTwo_123 (by decide) ?_
                refine j_sub [0, 1, 2, 3, 4, 5, 6, 7, 8] rfl ?_
                exact ih50 (((A 8 (4 * u + i)) + (A 9 r82)) + (A 9 r97)) (i + 1) (by first | exact h2 | omega) (by omega)
        refine j_iload dX6_ruleTwo_21 rfl ?_
        refine j_aload_n dX6_ruleTwo_23 rfl ?_
        refine j_getR (r := 2) dX6_ruleTwo_24 flX6_13 (Nat.le_of_ble_eq_true rfl) rfl rfl ?_
        refine j_iload_n dX6_ruleTwo_27 rfl ?_
        refine j_ialdN dX6_ruleTwo_28 (Nat.le_of_ble_eq_true rfl) rfl (by omega) (by decide) ?_
        refine j_top (y0 := nI (mm w)) (hM.2.1.2.2.1 _ (by omega)) ?_
        refine j_idivN dX6_ruleTwo_29 (by omega) (by omega) (by omega) ?_
        refine j_istore (lv' := [(0, .ref 0), (1, .int (nI u)), (2, .int (nI v)), (3, .int (nI w)), (4, .int (nI k)), (5, .int (nI (k / (mm w))))]) dX6_ruleTwo_30 (Nat.le_of_ble_eq_true rfl) rfl rfl ?_
        refine j_iload dX6_ruleTwo_32 rfl ?_
        refine j_aload_n dX6_ruleTwo_34 rfl ?_
        refine j_getR (r := 2) dX6_ruleTwo_35 flX6_13 (Nat.le_of_ble_eq_true rfl) rfl rfl ?_
        refine j_iload_n dX6_ruleTwo_38 rfl ?_
        refine j_ialdN dX6_ruleTwo_39 (Nat.le_of_ble_eq_true rfl) rfl (by omega) (by decide) ?_
        refine j_top (y0 := nI (mm w)) (hM.2.1.2.2.1 _ (by omega)) ?_
        refine j_iremN dX6_ruleTwo_40 (by omega) (by omega) (by omega) ?_
        refine j_istore (lv' := [(0, .ref 0), (1, .int (nI u)), (2, .int (nI v)), (3, .int (nI w)), (4, .int (nI k)), (5, .int (nI (k / (mm w)))), (6, .int (nI (k % (mm w))))]) dX6_ruleTwo_41 (Nat.le_of_ble_eq_true rfl) rfl rfl ?_
        refine j_ldc dX6_ruleTwo_43 kcX6_145 ?_
        refine j_istore (lv' := [(0, .ref 0), (1, .int (nI u)), (2, .int (nI v)), (3, .int (nI w)), (4, .int (nI k)), (5, .int (nI (k / (mm w)))), (6, .int (nI (k % (mm w)))), (7, .int 1000000)]) dX6_ruleTwo_45 (Nat.le_of_ble_eq_true rfl) rfl rfl ?_
        refine j_iconst (v := nI 0) dX6_ruleTwo_47 (by decide +kernel) ?_
        refine j_istore (lv' := [(0, .ref 0), (1, .int (nI u)), (2, .int (nI v)), (3, .int (nI w)), (4, .int (nI k)), (5, .int (nI (k / (mm w)))), (6, .int (nI (k % (mm w)))), (7, .int 1000000), (8, .int (nI 0))]) dX6_ruleTwo_48 (Nat.le_of_ble_eq_true rfl) rfl rfl ?_
        exact L50 _ 1000000 0 (by first | exact h2 | omega) (Nat.lt_succ_self _)
  refine j_iconst (v := nI 0) dX6_ruleTwo_0 (by decide +kernel) ?_
  refine j_istore (lv' := [(0, .ref 0), (1, .int (nI u)), (2, .int (nI v)), (3, .int (nI w)), (4, .int (nI 0))]) dX6_ruleTwo_1 (Nat.le_of_ble_eq_true rfl) rfl rfl ?_
  exact L3 _ 0 A (by first | exact hM | omega) (by first | exact h1 | omega) (Nat.lt_succ_self _)

set_option maxHeartbeats 400000 in
set_option maxRecDepth 100000 in
theorem m_leastBeside (z : mj_B) (d : Nat) (L : Lg) (n : Nat) (mm : Nat → Nat) (rn : Nat) (rm : Nat → Nat) (un kn : Nat) (u i v : Nat) (hu : u < 8) (hi : i < 4) (hv : v < 8) (F A : mj_S) (hM : MI L n mm rn rm un kn F A) : J (gM z) mX6_leastBeside (d + 1) 0 [(0, .ref 0), (1, .int (nI u)), (2, .int (nI i)), (3, .int (nI v))] [] F A (qP F A fun _ => True) := by
  have hM0 := hM.1.2.1
  have hM1 := hM.2.1.2.1
  have hM2 := hM.2.2.1.2.1
  have hM3 := hM.2.2.2.1.2
  have hM4 := hM.2.2.2.2.1.2
  have h4v := hM.2.1.2.2.2.1 v
  have L7 : ∀ (fuel : Nat) (le : Int32) (j : Nat), (j ≤ mm v) → mm v - j < fuel → J (gM z) mX6_leastBeside (d + 1) 7 [(0, .ref 0), (1, .int (nI u)), (2, .int (nI i)), (3, .int (nI v)), (4, .int le), (5, .int (nI j))] [] F A (qP F A fun _ => True) := by
    intro fuel
    induction fuel with
    | zero => intro le j h2 hf; exact absurd hf (by omega)
    | succ fuel ih7 =>
      intro le j h2 hf
      refine j_iload dX6_leastBeside_7 rfl ?_
      refine j_aload_n dX6_leastBeside_9 rfl ?_
      refine j_getR (r := 2) dX6_leastBeside_10 flX6_13 (Nat.le_of_ble_eq_true rfl) rfl rfl ?_
      refine j_iload_n dX6_leastBeside_13 rfl ?_
      refine j_ialdN dX6_leastBeside_14 (Nat.le_of_ble_eq_true rfl) rfl (by omega) (by decide) ?_
      refine j_top (y0 := nI (mm v)) (hM.2.1.2.2.1 _ (by omega)) ?_
      refine j_icmp_geN (tgt := 67) dX6_leastBeside_15 (by decide) (by omega) (by omega) (fun c15 => ?_) (fun c15 => ?_)
      · refine j_iload dX6_leastBeside_67 rfl ?_
        exact j_iret dX6_leastBeside_69 rfl rfl ⟨rfl, rfl, _, rfl, trivial⟩
      · refine j_aload_n dX6_leastBeside_18 rfl ?_
        refine j_getR (r := 8) dX6_leastBeside_19 flX6_31 (Nat.le_of_ble_eq_true rfl) rfl rfl ?_
        refine j_iconst (v := nI 4) dX6_leastBeside_22 (by decide +kernel) ?_
        refine j_iload_n dX6_leastBeside_23 rfl ?_
        refine j_imulN dX6_leastBeside_24 ?_
        refine j_iload dX6_leastBeside_25 rfl ?_
        refine j_iaddN dX6_leastBeside_27 ?_
        refine j_ialdN dX6_leastBeside_28 (Nat.le_of_ble_eq_true rfl) rfl (by omega) (by decide) ?_
        refine j_aload_n dX6_leastBeside_29 rfl ?_
        refine j_getR (r := 9) dX6_leastBeside_30 flX6_34 (Nat.le_of_ble_eq_true rfl) rfl rfl ?_
        refine j_iload_n dX6_leastBeside_33 rfl ?_
        refine j_iload_n dX6_leastBeside_34 rfl ?_
        refine j_iload_n dX6_leastBeside_35 rfl ?_
        refine j_iload dX6_leastBeside_36 rfl ?_
        refine j_callS (y' := mX6_tableAt) (As := [.int (nI u), .int (nI v), .int (nI i), .int (nI j)]) (st := [.ref 9, .int (A 8 (4 * v + j))]) dX6_leastBeside_38 lkX6_179 okX6_tableAt stX6_tableAt rfl (Nat.le_of_ble_eq_true rfl) (Nat.le_of_ble_eq_true rfl) (m_tableAt z _ u v i j F A) (fun v38 F38 A38 hq38 => ?_)
        obtain ⟨rfl, rfl, r38, rfl, hr38⟩ := hq38
        refine j_ialdN dX6_leastBeside_41 (Nat.le_of_ble_eq_true rfl) rfl (by omega) (by decide) ?_
        refine j_iadd dX6_leastBeside_42 ?_
        refine j_istore (lv' := [(0, .ref 0), (1, .int (nI u)), (2, .int (nI i)), (3, .int (nI v)), (4, .int le), (5, .int (nI j)), (6, .int ((A 8 (4 * v + j)) + (A 9 r38)))]) dX6_leastBeside_43 (Nat.le_of_ble_eq_true rfl) rfl rfl ?_
        refine j_iload dX6_leastBeside_45 rfl ?_
        refine j_iload dX6_leastBeside_47 rfl ?_
        refine j_icmp_ge (tgt := 57) dX6_leastBeside_49 (by decide) (fun c49 => ?_) (fun c49 => ?_)
        · refine j_iload dX6_leastBeside_57 rfl ?_
          refine j_istore (lv' := [(0, .ref 0), (1, .int (nI u)), (2, .int (nI i)), (3, .int (nI v)), (4, .int le), (5, .int (nI j)), (6, .int ((A 8 (4 * v + j)) + (A 9 r38)))]) dX6_leastBeside_59 (Nat.le_of_ble_eq_true rfl) rfl rfl ?_
          refine j_iinc (v := nI (j + 1)) (lv' := [(0, .ref 0), (1, .int (nI u)), (2, .int (nI i)), (3, .int (nI v)), (4, .int le), (5, .int (nI (j + 1))), (6, .int ((A 8 (4 * v + j)) + (A 9 r38)))]) dX6_leastBeside_61 rfl (nI_add _ 1) (Nat.le_of_ble_eq_true rfl) rfl rfl ?_
          refine j_goto (tgt := 7) dX6_leastBeside_64 (by decide) ?_
          refine j_sub [0, 1, 2, 3, 4, 5] rfl ?_
          exact ih7 le (j + 1) (by first | exact h2 | omega) (by omega)
        · refine j_iload dX6_leastBeside_52 rfl ?_
          refine j_goto (tgt := 59) dX6_leastBeside_54 (by decide) ?_
          refine j_istore (lv' := [(0, .ref 0), (1, .int (nI u)), (2, .int (nI i)), (3, .int (nI v)), (4, .int ((A 8 (4 * v + j)) + (A 9 r38))), (5, .int (nI j)), (6, .int ((A 8 (4 * v + j)) + (A 9 r38)))]) dX6_leastBeside_59 (Nat.le_of_ble_eq_true rfl) rfl rfl ?_
          refine j_iinc (v := nI (j + 1)) (lv' := [(0, .ref 0), (1, .int (nI u)), (2, .int (nI i)), (3, .int (nI v)), (4, .int ((A 8 (4 * v + j)) + (A 9 r38))), (5, .int (nI (j + 1))), (6, .int ((A 8 (4 * v + j)) + (A 9 r38)))]) dX6_leastBeside_61 rfl (nI_add _ 1) (Nat.le_of_ble_eq_true rfl) rfl rfl ?_
          refine j_goto (tgt := 7) dX6_leastBeside_64 (by decide) ?_
          refine j_sub [0, 1, 2, 3, 4, 5] rfl ?_
          exact ih7 ((A 8 (4 * v + j)) + (A 9 r38)) (j + 1) (by first | exact h2 | omega) (by omega)
  refine j_ldc dX6_leastBeside_0 kcX6_145 ?_
  refine j_istore (lv' := [(0, .ref 0), (1, .int (nI u)), (2, .int (nI i)), (3, .int (nI v)), (4, .int 1000000)]) dX6_leastBeside_2 (Nat.le_of_ble_eq_true rfl) rfl rfl ?_
  refine j_iconst (v := nI 0) dX6_leastBeside_4 (by decide +kernel) ?_
  refine j_istore (lv' := [(0, .ref 0), (1, .int (nI u)), (2, .int (nI i)), (3, .int (nI v)), (4, .int 1000000), (5, .int (nI 0))]) dX6_leastBeside_5 (Nat.le_of_ble_eq_true rfl) rfl rfl ?_
  exact L7 _ 1000000 0 (by first | exact h2 | omega) (Nat.lt_succ_self _)

set_option maxHeartbeats 400000 in
set_option maxRecDepth 100000 in
theorem m_ruleThree (z : mj_B) (d : Nat) (L : Lg) (n : Nat) (mm : Nat → Nat) (rn : Nat) (rm : Nat → Nat) (un kn : Nat) (u : Nat) (hu : u < 8) (F A : mj_S) (hM : MI L n mm rn rm un kn F A) : J (gM z) mX6_ruleThree (d + 2) 0 [(0, .ref 0), (1, .int (nI u))] [] F A (fun v F' A' => v = none ∧ F = F' ∧ MI L n mm rn rm un kn F A') := by
  have hM0 := hM.1.2.1
  have hM1 := hM.2.1.2.1
  have hM2 := hM.2.2.1.2.1
  have hM3 := hM.2.2.2.1.2
  have hM4 := hM.2.2.2.2.1.2
  have h4u := hM.2.1.2.2.2.1 u
  have L127 : ∀ (fuel : Nat) (b : Nat) (v : Nat) (A : mj_S), (MI L n mm rn rm un kn F A) → (v ≤ n ∧ b ≤ 3) → n - v < fuel → J (gM z) mX6_ruleThree (d + 2) 127 [(0, .ref 0), (1, .int (nI u)), (2, .int (nI b)), (4, .int (nI v))] [] F A (fun v F' A' => v = none ∧ F = F' ∧ MI L n mm rn rm un kn F A') := by
    intro fuel
    induction fuel with
    | zero => intro b v A hM h3 hf; exact absurd hf (by omega)
    | succ fuel ih127 =>
      intro b v A hM h3 hf
      refine j_iload dX6_ruleThree_127 rfl ?_
      refine j_aload_n dX6_ruleThree_129 rfl ?_
      refine j_getI dX6_ruleThree_130 flX6_132 (Nat.le_of_ble_eq_true rfl) rfl rfl ?_
      refine j_top (y0 := nI n) hM.2.1.1 ?_
      refine j_icmp_geN (tgt := 219) dX6_ruleThree_133 (by decide) (by omega) (by omega) (fun c133 => ?_) (fun c133 => ?_)
      · exact j_vret dX6_ruleThree_219 rfl ⟨rfl, rfl, hM⟩
      · have h4v := hM.2.1.2.2.2.1 v
        have L139 : ∀ (fuel : Nat) (j : Nat) (A : mj_S), (MI L n mm rn rm un kn F A) → (j ≤ mm v) → mm v - j < fuel → J (gM z) mX6_ruleThree (d + 2) 139 [(0, .ref 0), (1, .int (nI u)), (2, .int (nI b)), (4, .int (nI v)), (5, .int (nI j))] [] F A (fun v F' A' => v = none ∧ F = F' ∧ MI L n mm rn rm un kn F A') := by
          intro fuel
          induction fuel with
          | zero => intro j A hM h5 hf; exact absurd hf (by omega)
          | succ fuel ih139 =>
            intro j A hM h5 hf
            refine j_iload dX6_ruleThree_139 rfl ?_
            refine j_aload_n dX6_ruleThree_141 rfl ?_
            refine j_getR (r := 2) dX6_ruleThree_142 flX6_13 (Nat.le_of_ble_eq_true rfl) rfl rfl ?_
            refine j_iload dX6_ruleThree_145 rfl ?_
            refine j_ialdN dX6_ruleThree_147 (Nat.le_of_ble_eq_true rfl) rfl (by omega) (by decide) ?_
            refine j_top (y0 := nI (mm v)) (hM.2.1.2.2.1 _ (by omega)) ?_
            refine j_icmp_geN (tgt := 213) dX6_ruleThree_148 (by decide) (by omega) (by omega) (fun c148 => ?_) (fun c148 => ?_)
            · refine j_iinc (v := nI (v + 1)) (lv' := [(0, .ref 0), (1, .int (nI u)), (2, .int (nI b)), (4, .int (nI (v + 1))), (5, .int (nI j))]) dX6_ruleThree_213 rfl (nI_add _ 1) (Nat.le_of_ble_eq_true rfl) rfl rfl ?_
              refine j_goto (tgt := 127) dX6_ruleThree_216 (by decide) ?_
              refine j_sub [0, 1, 2, 3] rfl ?_
              exact ih127 b (v + 1) A (by first | exact hM | omega) (by first | exact h3 | omega) (by omega)
            · refine j_aload_n dX6_ruleThree_151 rfl ?_
              refine j_getR (r := 10) dX6_ruleThree_152 flX6_37 (Nat.le_of_ble_eq_true rfl) rfl rfl ?_
              refine j_iload_n dX6_ruleThree_155 rfl ?_
              refine j_ialdN dX6_ruleThree_156 (Nat.le_of_ble_eq_true rfl) rfl (by omega) (by decide) ?_
              obtain ⟨t1, ht1, et1⟩ := hM.tied u (by omega)
              refine j_top (y0 := nI t1) et1 ?_
              refine j_iload dX6_ruleThree_157 rfl ?_
              refine j_callS (y' := mX6_has) (As := [.int (nI t1), .int (nI v)]) (st := []) dX6_ruleThree_159 lkX6_185 okX6_has stX6_has rfl (Nat.le_of_ble_eq_true rfl) (Nat.le_of_ble_eq_true rfl) (m_has z _ t1 v (by omega) (by omega) F A) (fun v159 F159 A159 hq159 => ?_)
              obtain ⟨rfl, rfl, r159, rfl, hr159⟩ := hq159
              have hb159 : r159 ≤ 1 := by omega
              refine j_if_eqN (tgt := 213) dX6_ruleThree_162 (by decide) (by omega) (fun c162 => ?_) (fun c162 => ?_)
              · refine j_iinc (v := nI (v + 1)) (lv' := [(0, .ref 0), (1, .int (nI u)), (2, .int (nI b)), (4, .int (nI (v + 1))), (5, .int (nI j))]) dX6_ruleThree_213 rfl (nI_add _ 1) (Nat.le_of_ble_eq_true rfl) rfl rfl ?_
                refine j_goto (tgt := 127) dX6_ruleThree_216 (by decide) ?_
                refine j_sub [0, 1, 2, 3] rfl ?_
                exact ih127 b (v + 1) A (by first | exact hM | omega) (by first | exact h3 | omega) (by omega)
              · refine j_aload_n dX6_ruleThree_165 rfl ?_
                refine j_getR (r := 8) dX6_ruleThree_166 flX6_31 (Nat.le_of_ble_eq_true rfl) rfl rfl ?_
                refine j_iconst (v := nI 4) dX6_ruleThree_169 (by decide +kernel) ?_
                refine j_iload dX6_ruleThree_170 rfl ?_
                refine j_imulN dX6_ruleThree_172 ?_
                refine j_iload dX6_ruleThree_173 rfl ?_
                refine j_iaddN dX6_ruleThree_175 ?_
                refine j_aload_n dX6_ruleThree_176 rfl ?_
                refine j_getR (r := 8) dX6_ruleThree_177 flX6_31 (Nat.le_of_ble_eq_true rfl) rfl rfl ?_
                refine j_iconst (v := nI 4) dX6_ruleThree_180 (by decide +kernel) ?_
                refine j_iload dX6_ruleThree_181 rfl ?_
                refine j_imulN dX6_ruleThree_183 ?_
                refine j_iload dX6_ruleThree_184 rfl ?_
                refine j_iaddN dX6_ruleThree_186 ?_
                refine j_ialdN dX6_ruleThree_187 (Nat.le_of_ble_eq_true rfl) rfl (by omega) (by decide) ?_
                refine j_aload_n dX6_ruleThree_188 rfl ?_
                refine j_getR (r := 9) dX6_ruleThree_189 flX6_34 (Nat.le_of_ble_eq_true rfl) rfl rfl ?_
                refine j_iload_n dX6_ruleThree_192 rfl ?_
                refine j_iload dX6_ruleThree_193 rfl ?_
                refine j_iload_n dX6_ruleThree_195 rfl ?_
                refine j_iload dX6_ruleThree_196 rfl ?_
                refine j_callS (y' := mX6_tableAt) (As := [.int (nI u), .int (nI v), .int (nI b), .int (nI j)]) (st := [.ref 9, .int (A 8 (4 * v + j)), .int (nI (4 * v + j)), .ref 8]) dX6_ruleThree_198 lkX6_179 okX6_tableAt stX6_tableAt rfl (Nat.le_of_ble_eq_true rfl) (Nat.le_of_ble_eq_true rfl) (m_tableAt z _ u v b j F A) (fun v198 F198 A198 hq198 => ?_)
                obtain ⟨rfl, rfl, r198, rfl, hr198⟩ := hq198
                refine j_ialdN dX6_ruleThree_201 (Nat.le_of_ble_eq_true rfl) rfl (by omega) (by decide) ?_
                refine j_iadd dX6_ruleThree_202 ?_
                refine j_callS (y' := mX6_atMost) (As := [.int ((A 8 (4 * v + j)) + (A 9 r198))]) (st := [.int (nI (4 * v + j)), .ref 8]) dX6_ruleThree_203 lkX6_191 okX6_atMost stX6_atMost rfl (Nat.le_of_ble_eq_true rfl) (Nat.le_of_ble_eq_true rfl) (m_atMost z _ ((A 8 (4 * v + j)) + (A 9 r198)) F A) (fun v203 F203 A203 hq203 => ?_)
                obtain ⟨rfl, rfl, r203, rfl, hr203⟩ := hq203
                refine j_iastN dX6_ruleThree_206 (Nat.le_of_ble_eq_true rfl) rfl (by omega) (by decide) ?_
                refine j_iinc (v := nI (j + 1)) (lv' := [(0, .ref 0), (1, .int (nI u)), (2, .int (nI b)), (4, .int (nI v)), (5, .int (nI (j + 1)))]) dX6_ruleThree_207 rfl (nI_add _ 1) (Nat.le_of_ble_eq_true rfl) rfl rfl ?_
                refine j_goto (tgt := 139) dX6_ruleThree_210 (by decide) ?_
                exact ih139 (j + 1) (mj_u A 8 (4 * v + j) r203) (by first | exact hM | omega) (by first | exact h5 | omega) (by omega)
        refine j_iconst (v := nI 0) dX6_ruleThree_136 (by decide +kernel) ?_
        refine j_istore (lv' := [(0, .ref 0), (1, .int (nI u)), (2, .int (nI b)), (4, .int (nI v)), (5, .int (nI 0))]) dX6_ruleThree_137 (Nat.le_of_ble_eq_true rfl) rfl rfl ?_
        exact L139 _ 0 A (by first | exact hM | omega) (by first | exact h5 | omega) (Nat.lt_succ_self _)
  have L8 : ∀ (fuel : Nat) (b : Nat) (le : Int32) (i : Nat), (i ≤ mm u ∧ b ≤ 3) → mm u - i < fuel → J (gM z) mX6_ruleThree (d + 2) 8 [(0, .ref 0), (1, .int (nI u)), (2, .int (nI b)), (3, .int le), (4, .int (nI i))] [] F A (fun v F' A' => v = none ∧ F = F' ∧ MI L n mm rn rm un kn F A') := by
    intro fuel
    induction fuel with
    | zero => intro b le i h1 hf; exact absurd hf (by omega)
    | succ fuel ih8 =>
      intro b le i h1 hf
      refine j_iload dX6_ruleThree_8 rfl ?_
      refine j_aload_n dX6_ruleThree_10 rfl ?_
      refine j_getR (r := 2) dX6_ruleThree_11 flX6_13 (Nat.le_of_ble_eq_true rfl) rfl rfl ?_
      refine j_iload_n dX6_ruleThree_14 rfl ?_
      refine j_ialdN dX6_ruleThree_15 (Nat.le_of_ble_eq_true rfl) rfl (by omega) (by decide) ?_
      refine j_top (y0 := nI (mm u)) (hM.2.1.2.2.1 _ (by omega)) ?_
      refine j_icmp_geN (tgt := 117) dX6_ruleThree_16 (by decide) (by omega) (by omega) (fun c16 => ?_) (fun c16 => ?_)
      · refine j_aload_n dX6_ruleThree_117 rfl ?_
        refine j_getR (r := 14) dX6_ruleThree_118 flX6_49 (Nat.le_of_ble_eq_true rfl) rfl rfl ?_
        refine j_iload_n dX6_ruleThree_121 rfl ?_
        refine j_iload_n dX6_ruleThree_122 rfl ?_
        refine j_iastN dX6_ruleThree_123 (Nat.le_of_ble_eq_true rfl) rfl (by omega) (by decide) ?_
        have hM := hM.s14 u (t := b) (by omega)
        refine j_iconst (v := nI 0) dX6_ruleThree_124 (by decide +kernel) ?_
        refine j_istore (lv' := [(0, .ref 0), (1, .int (nI u)), (2, .int (nI b)), (3, .int le), (4, .int (nI 0))]) dX6_ruleThree_125 (Nat.le_of_ble_eq_true rfl) rfl rfl ?_
        refine j_sub [0, 1, 2, 4] rfl ?_
        exact L127 _ b 0 (mj_u A 14 u (nI b)) (by first | exact hM | omega) (by first | exact h3 | omega) (Nat.lt_succ_self _)
      · have L98 : ∀ (b : Nat) (su : Int32), (b ≤ 3) → J (gM z) mX6_ruleThree (d + 2) 98 [(0, .ref 0), (1, .int (nI u)), (2, .int (nI b)), (3, .int le), (4, .int (nI i)), (5, .int su)] [] F A (fun v F' A' => v = none ∧ F = F' ∧ MI L n mm rn rm un kn F A') := by
          intro b su h4
          refine j_iload dX6_ruleThree_98 rfl ?_
          refine j_iload_n dX6_ruleThree_100 rfl ?_
          refine j_icmp_ge (tgt := 109) dX6_ruleThree_101 (by decide) (fun c101 => ?_) (fun c101 => ?_)
          · refine j_iload_n dX6_ruleThree_109 rfl ?_
            refine j_istore_n (lv' := [(0, .ref 0), (1, .int (nI u)), (2, .int (nI b)), (3, .int le), (4, .int (nI i)), (5, .int su)]) dX6_ruleThree_110 (Nat.le_of_ble_eq_true rfl) rfl rfl ?_
            refine j_iinc (v := nI (i + 1)) (lv' := [(0, .ref 0), (1, .int (nI u)), (2, .int (nI b)), (3, .int le), (4, .int (nI (i + 1))), (5, .int su)]) dX6_ruleThree_111 rfl (nI_add _ 1) (Nat.le_of_ble_eq_true rfl) rfl rfl ?_
            refine j_goto (tgt := 8) dX6_ruleThree_114 (by decide) ?_
            refine j_sub [0, 1, 2, 3, 4] rfl ?_
            exact ih8 b le (i + 1) (by first | exact h1 | omega) (by omega)
          · refine j_iload dX6_ruleThree_104 rfl ?_
            refine j_goto (tgt := 110) dX6_ruleThree_106 (by decide) ?_
            refine j_istore_n (lv' := [(0, .ref 0), (1, .int (nI u)), (2, .int (nI b)), (3, .int su), (4, .int (nI i)), (5, .int su)]) dX6_ruleThree_110 (Nat.le_of_ble_eq_true rfl) rfl rfl ?_
            refine j_iinc (v := nI (i + 1)) (lv' := [(0, .ref 0), (1, .int (nI u)), (2, .int (nI b)), (3, .int su), (4, .int (nI (i + 1))), (5, .int su)]) dX6_ruleThree_111 rfl (nI_add _ 1) (Nat.le_of_ble_eq_true rfl) rfl rfl ?_
            refine j_goto (tgt := 8) dX6_ruleThree_114 (by decide) ?_
            refine j_sub [0, 1, 2, 3, 4] rfl ?_
            exact ih8 b su (i + 1) (by first | exact h1 | omega) (by omega)
        have L35 : ∀ (fuel : Nat) (su : Int32) (v : Nat), (v ≤ n) → n - v < fuel → J (gM z) mX6_ruleThree (d + 2) 35 [(0, .ref 0), (1, .int (nI u)), (2, .int (nI b)), (3, .int le), (4, .int (nI i)), (5, .int su), (6, .int (nI v))] [] F A (fun v F' A' => v = none ∧ F = F' ∧ MI L n mm rn rm un kn F A') := by
          intro fuel
          induction fuel with
          | zero => intro su v h3 hf; exact absurd hf (by omega)
          | succ fuel ih35 =>
            intro su v h3 hf
            refine j_iload dX6_ruleThree_35 rfl ?_
            refine j_aload_n dX6_ruleThree_37 rfl ?_
            refine j_getI dX6_ruleThree_38 flX6_132 (Nat.le_of_ble_eq_true rfl) rfl rfl ?_
            refine j_top (y0 := nI n) hM.2.1.1 ?_
            refine j_icmp_geN (tgt := 85) dX6_ruleThree_41 (by decide) (by omega) (by omega) (fun c41 => ?_) (fun c41 => ?_)
            · refine j_iload dX6_ruleThree_85 rfl ?_
              refine j_iload_n dX6_ruleThree_87 rfl ?_
              refine j_icmp_ge (tgt := 96) dX6_ruleThree_88 (by decide) (fun c88 => ?_) (fun c88 => ?_)
              · refine j_iload_n dX6_ruleThree_96 rfl ?_
                refine j_istore_n (lv' := [(0, .ref 0), (1, .int (nI u)), (2, .int (nI b)), (3, .int le), (4, .int (nI i)), (5, .int su), (6, .int (nI v))]) dX6_ruleThree_97 (Nat.le_of_ble_eq_true rfl) rfl rfl ?_
                refine j_sub [0, 1, 2, 3, 4, 5] rfl ?_
                exact L98 b su (by first | exact h4 | omega)
              · refine j_iload dX6_ruleThree_91 rfl ?_
                refine j_goto (tgt := 97) dX6_ruleThree_93 (by decide) ?_
                refine j_istore_n (lv' := [(0, .ref 0), (1, .int (nI u)), (2, .int (nI i)), (3, .int le), (4, .int (nI i)), (5, .int su), (6, .int (nI v))]) dX6_ruleThree_97 (Nat.le_of_ble_eq_true rfl) rfl rfl ?_
                refine j_sub [0, 1, 2, 3, 4, 5] rfl ?_
                exact L98 i su (by first | exact h4 | omega)
            · refine j_iload dX6_ruleThree_44 rfl ?_
              refine j_aload_n dX6_ruleThree_46 rfl ?_
              refine j_getR (r := 10) dX6_ruleThree_47 flX6_37 (Nat.le_of_ble_eq_true rfl) rfl rfl ?_
              refine j_iload_n dX6_ruleThree_50 rfl ?_
              refine j_ialdN dX6_ruleThree_51 (Nat.le_of_ble_eq_true rfl) rfl (by omega) (by decide) ?_
              obtain ⟨t2, ht2, et2⟩ := hM.tied u (by omega)
              refine j_top (y0 := nI t2) et2 ?_
              refine j_iload dX6_ruleThree_52 rfl ?_
              refine j_callS (y' := mX6_has) (As := [.int (nI t2), .int (nI v)]) (st := [.int su]) dX6_ruleThree_54 lkX6_185 okX6_has stX6_has rfl (Nat.le_of_ble_eq_true rfl) (Nat.le_of_ble_eq_true rfl) (m_has z _ t2 v (by omega) (by omega) F A) (fun v54 F54 A54 hq54 => ?_)
              obtain ⟨rfl, rfl, r54, rfl, hr54⟩ := hq54
              have hb54 : r54 ≤ 1 := by omega
              refine j_if_eqN (tgt := 72) dX6_ruleThree_57 (by decide) (by omega) (fun c57 => ?_) (fun c57 => ?_)
              · refine j_iconst (v := nI 0) dX6_ruleThree_72 (by decide +kernel) ?_
                refine j_iadd dX6_ruleThree_73 ?_
                refine j_callS (y' := mX6_atMost) (As := [.int (su + (nI 0))]) (st := []) dX6_ruleThree_74 lkX6_191 okX6_atMost stX6_atMost rfl (Nat.le_of_ble_eq_true rfl) (Nat.le_of_ble_eq_true rfl) (m_atMost z _ (su + (nI 0)) F A) (fun v74 F74 A74 hq74 => ?_)
                obtain ⟨rfl, rfl, r74, rfl, hr74⟩ := hq74
                refine j_istore (lv' := [(0, .ref 0), (1, .int (nI u)), (2, .int (nI b)), (3, .int le), (4, .int (nI i)), (5, .int r74), (6, .int (nI v))]) dX6_ruleThree_77 (Nat.le_of_ble_eq_true rfl) rfl rfl ?_
                refine j_iinc (v := nI (v + 1)) (lv' := [(0, .ref 0), (1, .int (nI u)), (2, .int (nI b)), (3, .int le), (4, .int (nI i)), (5, .int r74), (6, .int (nI (v + 1)))]) dX6_ruleThree_79 rfl (nI_add _ 1) (Nat.le_of_ble_eq_true rfl) rfl rfl ?_
                refine j_goto (tgt := 35) dX6_ruleThree_82 (by decide) ?_
                exact ih35 r74 (v + 1) (by first | exact h3 | omega) (by omega)
              · refine j_aload_n dX6_ruleThree_60 rfl ?_
                refine j_iload_n dX6_ruleThree_61 rfl ?_
                refine j_iload dX6_ruleThree_62 rfl ?_
                refine j_iload dX6_ruleThree_64 rfl ?_
                refine j_callV (y' := mX6_leastBeside) (As := [.int (nI u), .int (nI i), .int (nI v)]) (st := [.int su]) dX6_ruleThree_66 lkX6_195 okX6_leastBeside imX6_leastBeside seX6_leastBeside (Nat.le_of_ble_eq_true rfl) rfl rfl rfl rfl (Nat.le_of_ble_eq_true rfl) (Nat.le_of_ble_eq_true rfl) (m_leastBeside z _ _ _ _ _ _ _ _ u i v (by omega) (by omega) (by omega) F A hM) (fun v66 F66 A66 hq66 => ?_)
                obtain ⟨rfl, rfl, r66, rfl, hr66⟩ := hq66
                refine j_goto (tgt := 73) dX6_ruleThree_69 (by decide) ?_
                refine j_iadd dX6_ruleThree_73 ?_
                refine j_callS (y' := mX6_atMost) (As := [.int (su + r66)]) (st := []) dX6_ruleThree_74 lkX6_191 okX6_atMost stX6_atMost rfl (Nat.le_of_ble_eq_true rfl) (Nat.le_of_ble_eq_true rfl) (m_atMost z _ (su + r66) F A) (fun v74 F74 A74 hq74 => ?_)
                obtain ⟨rfl, rfl, r74, rfl, hr74⟩ := hq74
                refine j_istore (lv' := [(0, .ref 0), (1, .int (nI u)), (2, .int (nI b)), (3, .int le), (4, .int (nI i)), (5, .int r74), (6, .int (nI v))]) dX6_ruleThree_77 (Nat.le_of_ble_eq_true rfl) rfl rfl ?_
                refine j_iinc (v := nI (v + 1)) (lv' := [(0, .ref 0), (1, .int (nI u)), (2, .int (nI b)), (3, .int le), (4, .int (nI i)), (5, .int r74), (6, .int (nI (v + 1)))]) dX6_ruleThree_79 rfl (nI_add _ 1) (Nat.le_of_ble_eq_true rfl) rfl rfl ?_
                refine j_goto (tgt := 35) dX6_ruleThree_82 (by decide) ?_
                exact ih35 r74 (v + 1) (by first | exact h3 | omega) (by omega)
        refine j_aload_n dX6_ruleThree_19 rfl ?_
        refine j_getR (r := 8) dX6_ruleThree_20 flX6_31 (Nat.le_of_ble_eq_true rfl) rfl rfl ?_
        refine j_iconst (v := nI 4) dX6_ruleThree_23 (by decide +kernel) ?_
        refine j_iload_n dX6_ruleThree_24 rfl ?_
        refine j_imulN dX6_ruleThree_25 ?_
        refine j_iload dX6_ruleThree_26 rfl ?_
        refine j_iaddN dX6_ruleThree_28 ?_
        refine j_ialdN dX6_ruleThree_29 (Nat.le_of_ble_eq_true rfl) rfl (by omega) (by decide) ?_
        refine j_istore (lv' := [(0, .ref 0), (1, .int (nI u)), (2, .int (nI b)), (3, .int le), (4, .int (nI i)), (5, .int (A 8 (4 * u + i)))]) dX6_ruleThree_30 (Nat.le_of_ble_eq_true rfl) rfl rfl ?_
        refine j_iconst (v := nI 0) dX6_ruleThree_32 (by decide +kernel) ?_
        refine j_istore (lv' := [(0, .ref 0), (1, .int (nI u)), (2, .int (nI b)), (3, .int le), (4, .int (nI i)), (5, .int (A 8 (4 * u + i))), (6, .int (nI 0))]) dX6_ruleThree_33 (Nat.le_of_ble_eq_true rfl) rfl rfl ?_
        exact L35 _ (A 8 (4 * u + i)) 0 (by first | exact h3 | omega) (Nat.lt_succ_self _)
  refine j_iconst (v := nI 0) dX6_ruleThree_0 (by decide +kernel) ?_
  refine j_istore_n (lv' := [(0, .ref 0), (1, .int (nI u)), (2, .int (nI 0))]) dX6_ruleThree_1 (Nat.le_of_ble_eq_true rfl) rfl rfl ?_
  refine j_ldc dX6_ruleThree_2 kcX6_194 ?_
  refine j_istore_n (lv' := [(0, .ref 0), (1, .int (nI u)), (2, .int (nI 0)), (3, .int 1000001)]) dX6_ruleThree_4 (Nat.le_of_ble_eq_true rfl) rfl rfl ?_
  refine j_iconst (v := nI 0) dX6_ruleThree_5 (by decide +kernel) ?_
  refine j_istore (lv' := [(0, .ref 0), (1, .int (nI u)), (2, .int (nI 0)), (3, .int 1000001), (4, .int (nI 0))]) dX6_ruleThree_6 (Nat.le_of_ble_eq_true rfl) rfl rfl ?_
  exact L8 _ 0 1000001 0 (by first | exact h1 | omega) (Nat.lt_succ_self _)

set_option maxHeartbeats 400000 in
set_option maxRecDepth 100000 in
theorem m_takeBest (z : mj_B) (d : Nat) (L : Lg) (n : Nat) (mm : Nat → Nat) (rn : Nat) (rm : Nat → Nat) (un kn : Nat) (u s : Nat) (hu : u < 8) (hs : s < 256) (F A : mj_S) (hM : MI L n mm rn rm un kn F A) : J (gM z) mX6_takeBest (d + 1) 0 [(0, .ref 0), (1, .int (nI u)), (2, .int (nI s))] [] F A (fun v F' A' => v = none ∧ F = F' ∧ MI L n mm rn rm un kn F A') := by
  have hM0 := hM.1.2.1
  have hM1 := hM.2.1.2.1
  have hM2 := hM.2.2.1.2.1
  have hM3 := hM.2.2.2.1.2
  have hM4 := hM.2.2.2.2.1.2
  have h4u := hM.2.1.2.2.2.1 u
  have L6 : ∀ (fuel : Nat) (le : Int32) (i : Nat) (A : mj_S), (MI L n mm rn rm un kn F A) → (i ≤ mm u) → mm u - i < fuel → J (gM z) mX6_takeBest (d + 1) 6 [(0, .ref 0), (1, .int (nI u)), (2, .int (nI s)), (3, .int le), (4, .int (nI i))] [] F A (fun v F' A' => v = none ∧ F = F' ∧ MI L n mm rn rm un kn F A') := by
    intro fuel
    induction fuel with
    | zero => intro le i A hM h1 hf; exact absurd hf (by omega)
    | succ fuel ih6 =>
      intro le i A hM h1 hf
      refine j_iload dX6_takeBest_6 rfl ?_
      refine j_aload_n dX6_takeBest_8 rfl ?_
      refine j_getR (r := 2) dX6_takeBest_9 flX6_13 (Nat.le_of_ble_eq_true rfl) rfl rfl ?_
      refine j_iload_n dX6_takeBest_12 rfl ?_
      refine j_ialdN dX6_takeBest_13 (Nat.le_of_ble_eq_true rfl) rfl (by omega) (by decide) ?_
      refine j_top (y0 := nI (mm u)) (hM.2.1.2.2.1 _ (by omega)) ?_
      refine j_icmp_geN (tgt := 131) dX6_takeBest_14 (by decide) (by omega) (by omega) (fun c14 => ?_) (fun c14 => ?_)
      · exact j_vret dX6_takeBest_131 rfl ⟨rfl, rfl, hM⟩
      · have L33 : ∀ (fuel : Nat) (su : Int32) (v : Nat), (v ≤ n) → n - v < fuel → J (gM z) mX6_takeBest (d + 1) 33 [(0, .ref 0), (1, .int (nI u)), (2, .int (nI s)), (3, .int le), (4, .int (nI i)), (5, .int su), (6, .int (nI v))] [] F A (fun v F' A' => v = none ∧ F = F' ∧ MI L n mm rn rm un kn F A') := by
          intro fuel
          induction fuel with
          | zero => intro su v h3 hf; exact absurd hf (by omega)
          | succ fuel ih33 =>
            intro su v h3 hf
            refine j_iload dX6_takeBest_33 rfl ?_
            refine j_aload_n dX6_takeBest_35 rfl ?_
            refine j_getI dX6_takeBest_36 flX6_132 (Nat.le_of_ble_eq_true rfl) rfl rfl ?_
            refine j_top (y0 := nI n) hM.2.1.1 ?_
            refine j_icmp_geN (tgt := 89) dX6_takeBest_39 (by decide) (by omega) (by omega) (fun c39 => ?_) (fun c39 => ?_)
            · refine j_aload_n dX6_takeBest_89 rfl ?_
              refine j_getR (r := 14) dX6_takeBest_90 flX6_49 (Nat.le_of_ble_eq_true rfl) rfl rfl ?_
              refine j_iload_n dX6_takeBest_93 rfl ?_
              refine j_iload dX6_takeBest_94 rfl ?_
              refine j_iload_n dX6_takeBest_96 rfl ?_
              refine j_icmp_ge (tgt := 105) dX6_takeBest_97 (by decide) (fun c97 => ?_) (fun c97 => ?_)
              · refine j_aload_n dX6_takeBest_105 rfl ?_
                refine j_getR (r := 14) dX6_takeBest_106 flX6_49 (Nat.le_of_ble_eq_true rfl) rfl rfl ?_
                refine j_iload_n dX6_takeBest_109 rfl ?_
                refine j_ialdN dX6_takeBest_110 (Nat.le_of_ble_eq_true rfl) rfl (by omega) (by decide) ?_
                obtain ⟨t1, ht1, et1⟩ := hM.takes u (by omega)
                refine j_top (y0 := nI t1) et1 ?_
                refine j_iastN dX6_takeBest_111 (Nat.le_of_ble_eq_true rfl) rfl (by omega) (by decide) ?_
                have hM := hM.s14 u (t := t1) (by omega)
                refine j_iload dX6_takeBest_112 rfl ?_
                refine j_iload_n dX6_takeBest_114 rfl ?_
                refine j_icmp_ge (tgt := 123) dX6_takeBest_115 (by decide) (fun c115 => ?_) (fun c115 => ?_)
                · refine j_iload_n dX6_takeBest_123 rfl ?_
                  refine j_istore_n (lv' := [(0, .ref 0), (1, .int (nI u)), (2, .int (nI s)), (3, .int le), (4, .int (nI i)), (5, .int su), (6, .int (nI v))]) dX6_takeBest_124 (Nat.le_of_ble_eq_true rfl) rfl rfl ?_
                  refine j_iinc (v := nI (i + 1)) (lv' := [(0, .ref 0), (1, .int (nI u)), (2, .int (nI s)), (3, .int le), (4, .int (nI (i + 1))), (5, .int su), (6, .int (nI v))]) dX6_takeBest_125 rfl (nI_add _ 1) (Nat.le_of_ble_eq_true rfl) rfl rfl ?_
                  refine j_goto (tgt := 6) dX6_takeBest_128 (by decide) ?_
                  refine j_sub [0, 1, 2, 3, 4] rfl ?_
                  exact ih6 le (i + 1) (mj_u A 14 u (nI t1)) (by first | exact hM | omega) (by first | exact h1 | omega) (by omega)
                · refine j_iload dX6_takeBest_118 rfl ?_
                  refine j_goto (tgt := 124) dX6_takeBest_120 (by decide) ?_
                  refine j_istore_n (lv' := [(0, .ref 0), (1, .int (nI u)), (2, .int (nI s)), (3, .int su), (4, .int (nI i)), (5, .int su), (6, .int (nI v))]) dX6_takeBest_124 (Nat.le_of_ble_eq_true rfl) rfl rfl ?_
                  refine j_iinc (v := nI (i + 1)) (lv' := [(0, .ref 0), (1, .int (nI u)), (2, .int (nI s)), (3, .int su), (4, .int (nI (i + 1))), (5, .int su), (6, .int (nI v))]) dX6_takeBest_125 rfl (nI_add _ 1) (Nat.le_of_ble_eq_true rfl) rfl rfl ?_
                  refine j_goto (tgt := 6) dX6_takeBest_128 (by decide) ?_
                  refine j_sub [0, 1, 2, 3, 4] rfl ?_
                  exact ih6 su (i + 1) (mj_u A 14 u (nI t1)) (by first | exact hM | omega) (by first | exact h1 | omega) (by omega)
              · refine j_iload dX6_takeBest_100 rfl ?_
                refine j_goto (tgt := 111) dX6_takeBest_102 (by decide) ?_
                refine j_iastN dX6_takeBest_111 (Nat.le_of_ble_eq_true rfl) rfl (by omega) (by decide) ?_
                have hM := hM.s14 u (t := i) (by omega)
                refine j_iload dX6_takeBest_112 rfl ?_
                refine j_iload_n dX6_takeBest_114 rfl ?_
                refine j_icmp_ge (tgt := 123) dX6_takeBest_115 (by decide) (fun c115 => ?_) (fun c115 => ?_)
                · refine j_iload_n dX6_takeBest_123 rfl ?_
                  refine j_istore_n (lv' := [(0, .ref 0), (1, .int (nI u)), (2, .int (nI s)), (3, .int le), (4, .int (nI i)), (5, .int su), (6, .int (nI v))]) dX6_takeBest_124 (Nat.le_of_ble_eq_true rfl) rfl rfl ?_
                  refine j_iinc (v := nI (i + 1)) (lv' := [(0, .ref 0), (1, .int (nI u)), (2, .int (nI s)), (3, .int le), (4, .int (nI (i + 1))), (5, .int su), (6, .int (nI v))]) dX6_takeBest_125 rfl (nI_add _ 1) (Nat.le_of_ble_eq_true rfl) rfl rfl ?_
                  refine j_goto (tgt := 6) dX6_takeBest_128 (by decide) ?_
                  refine j_sub [0, 1, 2, 3, 4] rfl ?_
                  exact ih6 le (i + 1) (mj_u A 14 u (nI i)) (by first | exact hM | omega) (by first | exact h1 | omega) (by omega)
                · refine j_iload dX6_takeBest_118 rfl ?_
                  refine j_goto (tgt := 124) dX6_takeBest_120 (by decide) ?_
                  refine j_istore_n (lv' := [(0, .ref 0), (1, .int (nI u)), (2, .int (nI s)), (3, .int su), (4, .int (nI i)), (5, .int su), (6, .int (nI v))]) dX6_takeBest_124 (Nat.le_of_ble_eq_true rfl) rfl rfl ?_
                  refine j_iinc (v := nI (i + 1)) (lv' := [(0, .ref 0), (1, .int (nI u)), (2, .int (nI s)), (3, .int su), (4, .int (nI (i + 1))), (5, .int su), (6, .int (nI v))]) dX6_takeBest_125 rfl (nI_add _ 1) (Nat.le_of_ble_eq_true rfl) rfl rfl ?_
                  refine j_goto (tgt := 6) dX6_takeBest_128 (by decide) ?_
                  refine j_sub [0, 1, 2, 3, 4] rfl ?_
                  exact ih6 su (i + 1) (mj_u A 14 u (nI i)) (by first | exact hM | omega) (by first | exact h1 | omega) (by omega)
            · refine j_iload dX6_takeBest_42 rfl ?_
              refine j_iload_n dX6_takeBest_44 rfl ?_
              refine j_iload dX6_takeBest_45 rfl ?_
              refine j_callS (y' := mX6_has) (As := [.int (nI s), .int (nI v)]) (st := [.int su]) dX6_takeBest_47 lkX6_185 okX6_has stX6_has rfl (Nat.le_of_ble_eq_true rfl) (Nat.le_of_ble_eq_true rfl) (m_has z _ s v (by omega) (by omega) F A) (fun v47 F47 A47 hq47 => ?_)
              obtain ⟨rfl, rfl, r47, rfl, hr47⟩ := hq47
              have hb47 : r47 ≤ 1 := by omega
              refine j_if_eqN (tgt := 76) dX6_takeBest_50 (by decide) (by omega) (fun c50 => ?_) (fun c50 => ?_)
              · refine j_iconst (v := nI 0) dX6_takeBest_76 (by decide +kernel) ?_
                refine j_iadd dX6_takeBest_77 ?_
                refine j_callS (y' := mX6_atMost) (As := [.int (su + (nI 0))]) (st := []) dX6_takeBest_78 lkX6_191 okX6_atMost stX6_atMost rfl (Nat.le_of_ble_eq_true rfl) (Nat.le_of_ble_eq_true rfl) (m_atMost z _ (su + (nI 0)) F A) (fun v78 F78 A78 hq78 => ?_)
                obtain ⟨rfl, rfl, r78, rfl, hr78⟩ := hq78
                refine j_istore (lv' := [(0, .ref 0), (1, .int (nI u)), (2, .int (nI s)), (3, .int le), (4, .int (nI i)), (5, .int r78), (6, .int (nI v))]) dX6_takeBest_81 (Nat.le_of_ble_eq_true rfl) rfl rfl ?_
                refine j_iinc (v := nI (v + 1)) (lv' := [(0, .ref 0), (1, .int (nI u)), (2, .int (nI s)), (3, .int le), (4, .int (nI i)), (5, .int r78), (6, .int (nI (v + 1)))]) dX6_takeBest_83 rfl (nI_add _ 1) (Nat.le_of_ble_eq_true rfl) rfl rfl ?_
                refine j_goto (tgt := 33) dX6_takeBest_86 (by decide) ?_
                exact ih33 r78 (v + 1) (by first | exact h3 | omega) (by omega)
              · refine j_aload_n dX6_takeBest_53 rfl ?_
                refine j_getR (r := 9) dX6_takeBest_54 flX6_34 (Nat.le_of_ble_eq_true rfl) rfl rfl ?_
                refine j_iload_n dX6_takeBest_57 rfl ?_
                refine j_iload dX6_takeBest_58 rfl ?_
                refine j_iload dX6_takeBest_60 rfl ?_
                refine j_aload_n dX6_takeBest_62 rfl ?_
                refine j_getR (r := 14) dX6_takeBest_63 flX6_49 (Nat.le_of_ble_eq_true rfl) rfl rfl ?_
                refine j_iload dX6_takeBest_66 rfl ?_
                refine j_ialdN dX6_takeBest_68 (Nat.le_of_ble_eq_true rfl) rfl (by omega) (by decide) ?_
                obtain ⟨t2, ht2, et2⟩ := hM.takes v (by omega)
                refine j_top (y0 := nI t2) et2 ?_
                refine j_callS (y' := mX6_tableAt) (As := [.int (nI u), .int (nI v), .int (nI i), .int (nI t2)]) (st := [.ref 9, .int su]) dX6_takeBest_69 lkX6_179 okX6_tableAt stX6_tableAt rfl (Nat.le_of_ble_eq_true rfl) (Nat.le_of_ble_eq_true rfl) (m_tableAt z _ u v i t2 F A) (fun v69 F69 A69 hq69 => ?_)
                obtain ⟨rfl, rfl, r69, rfl, hr69⟩ := hq69
                refine j_ialdN dX6_takeBest_72 (Nat.le_of_ble_eq_true rfl) rfl (by omega) (by decide) ?_
                refine j_goto (tgt := 77) dX6_takeBest_73 (by decide) ?_
                refine j_iadd dX6_takeBest_77 ?_
                refine j_callS (y' := mX6_atMost) (As := [.int (su + (A 9 r69))]) (st := []) dX6_takeBest_78 lkX6_191 okX6_atMost stX6_atMost rfl (Nat.le_of_ble_eq_true rfl) (Nat.le_of_ble_eq_true rfl) (m_atMost z _ (su + (A 9 r69)) F A) (fun v78 F78 A78 hq78 => ?_)
                obtain ⟨rfl, rfl, r78, rfl, hr78⟩ := hq78
                refine j_istore (lv' := [(0, .ref 0), (1, .int (nI u)), (2, .int (nI s)), (3, .int le), (4, .int (nI i)), (5, .int r78), (6, .int (nI v))]) dX6_takeBest_81 (Nat.le_of_ble_eq_true rfl) rfl rfl ?_
                refine j_iinc (v := nI (v + 1)) (lv' := [(0, .ref 0), (1, .int (nI u)), (2, .int (nI s)), (3, .int le), (4, .int (nI i)), (5, .int r78), (6, .int (nI (v + 1)))]) dX6_takeBest_83 rfl (nI_add _ 1) (Nat.le_of_ble_eq_true rfl) rfl rfl ?_
                refine j_goto (tgt := 33) dX6_takeBest_86 (by decide) ?_
                exact ih33 r78 (v + 1) (by first | exact h3 | omega) (by omega)
        refine j_aload_n dX6_takeBest_17 rfl ?_
        refine j_getR (r := 8) dX6_takeBest_18 flX6_31 (Nat.le_of_ble_eq_true rfl) rfl rfl ?_
        refine j_iconst (v := nI 4) dX6_takeBest_21 (by decide +kernel) ?_
        refine j_iload_n dX6_takeBest_22 rfl ?_
        refine j_imulN dX6_takeBest_23 ?_
        refine j_iload dX6_takeBest_24 rfl ?_
        refine j_iaddN dX6_takeBest_26 ?_
        refine j_ialdN dX6_takeBest_27 (Nat.le_of_ble_eq_true rfl) rfl (by omega) (by decide) ?_
        refine j_istore (lv' := [(0, .ref 0), (1, .int (nI u)), (2, .int (nI s)), (3, .int le), (4, .int (nI i)), (5, .int (A 8 (4 * u + i)))]) dX6_takeBest_28 (Nat.le_of_ble_eq_true rfl) rfl rfl ?_
        refine j_iconst (v := nI 0) dX6_takeBest_30 (by decide +kernel) ?_
        refine j_istore (lv' := [(0, .ref 0), (1, .int (nI u)), (2, .int (nI s)), (3, .int le), (4, .int (nI i)), (5, .int (A 8 (4 * u + i))), (6, .int (nI 0))]) dX6_takeBest_31 (Nat.le_of_ble_eq_true rfl) rfl rfl ?_
        exact L33 _ (A 8 (4 * u + i)) 0 (by first | exact h3 | omega) (Nat.lt_succ_self _)
  refine j_ldc dX6_takeBest_0 kcX6_194 ?_
  refine j_istore_n (lv' := [(0, .ref 0), (1, .int (nI u)), (2, .int (nI s)), (3, .int 1000001)]) dX6_takeBest_2 (Nat.le_of_ble_eq_true rfl) rfl rfl ?_
  refine j_iconst (v := nI 0) dX6_takeBest_3 (by decide +kernel) ?_
  refine j_istore (lv' := [(0, .ref 0), (1, .int (nI u)), (2, .int (nI s)), (3, .int 1000001), (4, .int (nI 0))]) dX6_takeBest_4 (Nat.le_of_ble_eq_true rfl) rfl rfl ?_
  exact L6 _ 1000001 0 A (by first | exact hM | omega) (by first | exact h1 | omega) (Nat.lt_succ_self _)
