/-! the class: the reader, exactly -/
def RI (ln a : Nat) (F : mj_S) : Prop := F 2 2 = nI ln ∧ F 2 3 = nI a ∧ a ≤ ln ∧ ln ≤ 200
section FG
variable {c : Nat → Int32} {a a' : Nat} {x : Int32}
theorem rd_in {k : Nat} (h1 : ¬ c k < nI 48) (h2 : c k ≤ nI 57) : ∃ b, rd_d c k = some b ∧ b ≤ 9 ∧ c k - nI 48 = nI b := by
  obtain ⟨b, h⟩ : ∃ b, rd_d c k = some b := ⟨_, if_pos ⟨Int32.not_lt.mp h1, h2⟩⟩
  obtain ⟨ha, e⟩ := rd_d_some h
  exact ⟨b, h, ha, by rw [e, pk_sub (by omega)]; congr 1; omega⟩
theorem fg_yes (h : (∃ b, rd_d c a = some b ∧ x = nI b ∧ a' = a + 1) ∨ (rd_d c a = none ∧ x = (-1) ∧ a' = a)) (hx : ¬ x < 0) : ∃ b, rd_d c a = some b ∧ x = nI b ∧ a' = a + 1 := h.resolve_right (fun q => hx (by rw [q.2.1]; decide +kernel))
theorem fg_no (h : (∃ b, rd_d c a = some b ∧ x = nI b ∧ a' = a + 1) ∨ (rd_d c a = none ∧ x = (-1) ∧ a' = a)) (hx : x < 0) : rd_d c a = none ∧ x = (-1) ∧ a' = a := h.resolve_left (fun ⟨b, h1, h2, _⟩ => absurd hx (by rw [h2]; exact Int32.not_lt.mpr (nI_pos' (by have := (rd_d_some h1).1; omega))))
theorem nm_yes (h : (∃ w, rd_n c a = some (w, a') ∧ x = nI w) ∨ (rd_n c a = none ∧ x = (-1))) (hx : ¬ x < 0) : ∃ w, rd_n c a = some (w, a') ∧ x = nI w := h.resolve_right (fun q => hx (by rw [q.2]; decide +kernel))
theorem nm_no (h : (∃ w, rd_n c a = some (w, a') ∧ x = nI w) ∨ (rd_n c a = none ∧ x = (-1))) (hx : x < 0) : rd_n c a = none := (h.resolve_left (fun ⟨w, h1, h2⟩ => absurd hx (by rw [h2]; exact Int32.not_lt.mpr (nI_pos' (by have := (rd_n_some h1).1; omega))))).1
theorem kd_yes (h : (∃ w, rd_n c a = some (w, a') ∧ x = nI w) ∨ (rd_n c a = none ∧ x = (-1))) (hx : nI 0 ≤ x ∧ x ≤ nI 3) : ∃ w, rd_n c a = some (w, a') ∧ x = nI w ∧ w ≤ 3 := by
  obtain ⟨w, h1, h2⟩ := nm_yes h (Int32.not_lt.mpr (by rw [← nI_0]; exact hx.1))
  have := (rd_n_some h1).1
  rw [h2] at hx
  exact ⟨w, h1, h2, (nI_leI (by omega) (by omega)).mp hx.2⟩
theorem kd_no {n : Nat} {mm : Nat → Nat} {row : Nat → Int32} (h : (∃ w, rd_n c a = some (w, a') ∧ x = nI w) ∨ (rd_n c a = none ∧ x = (-1))) (hx : ¬ (nI 0 ≤ x ∧ x ≤ nI 3)) : rd_node c a n mm row = none := by
  rcases h with ⟨w, h1, h2⟩ | ⟨h1, -⟩
  · have := (rd_n_some h1).1
    refine rd_node_no h1 (fun q => hx ?_)
    rw [h2]
    exact ⟨nI_le (by omega) (by omega), nI_le q.1 (by omega)⟩
  · exact rd_node_n h1
theorem rd_node_8 {k n : Nat} {mm : Nat → Nat} {row : Nat → Int32} (h : 8 ≤ n) : rd_node c k n mm row = none := by
  cases h1 : rd_n c k with
  | none => exact rd_node_n h1
  | some p => obtain ⟨w, k1⟩ := p; exact rd_node_no h1 (by omega)
theorem rd_o_x {n k i : Nat} {row : Nat → Int32} (h : i = 4 ∨ c k ≠ nI 44) (h2 : c k ≠ nI 59) (f : Nat) : rd_o c n f k i row = none := by
  by_cases e : c k = nI 44
  · obtain rfl := h.resolve_right (fun q => q e)
    exact rd_o_4 e f
  · exact rd_o_no e (fun q => h2 q.1) f
theorem ho_s {A : mj_S} {row : Nat → Int32} {n i : Nat} {y : Int32} (h : ∀ i', i' < i → A 45 (4 * n + i') = row (4 * n + i')) : ∀ i', i' < i + 1 → mj_u A 45 (4 * n + i) y 45 (4 * n + i') = upd row (4 * n + i) y (4 * n + i') := fun i' hi => by
  rw [mj_u_at]
  by_cases e : i' = i
  · rw [e, pk_us, pk_us]
  · rw [pk_un (by omega), pk_un (by omega)]; exact h i' (by omega)
theorem tie_le {u n k : Nat} {mm : Nat → Nat} {row : Nat → Int32} (hu : rd_n c k = some (u, a)) (h : (∃ w, rd_n c (a + 1) = some (w, a') ∧ x = nI w) ∨ (rd_n c (a + 1) = none ∧ x = (-1))) (hx : x ≤ nI u) : rd_tie c k n mm row = none := by
  have hu9 := (rd_n_some hu).1
  rcases h with ⟨w, h1, h2⟩ | ⟨h1, -⟩
  · have := (rd_n_some h1).1
    rw [h2, nI_leI (by omega) (by omega)] at hx
    exact rd_tie_no hu h1 (fun q => absurd q.2.1 (by omega))
  · exact rd_tie_n2 hu h1
theorem gt_nn {u : Nat} (hu : u < 2147483648) (h : ¬ x ≤ nI u) : ¬ x < 0 := by
  intro h2
  apply h
  rw [Int32.lt_iff_toInt_lt, Int32.toInt_zero] at h2
  rw [Int32.le_iff_toInt_le, nI_toInt hu]
  omega
end FG
theorem dm_of {i j b q : Nat} (hj : j < b) (hq : q = i * b + j) : q / b = i ∧ q % b = j := by
  subst hq
  constructor
  · rw [Nat.mul_comm, Nat.mul_add_div (by omega), Nat.div_eq_of_lt hj, Nat.add_zero]
  · rw [Nat.mul_comm, Nat.mul_add_mod, Nat.mod_eq_of_lt hj]
theorem mm_le {i j a b : Nat} (hi : i < a) (hj : j < b) : i * b + j < a * b := by
  have : (i + 1) * b ≤ a * b := Nat.mul_le_mul_right _ hi
  rw [Nat.add_mul] at this
  omega
theorem GR.join {F A A' : mj_S} {o n : Nat} {mm : Nat → Nat} {row : Nat → Int32} {u v : Nat} (h : GR F A o n mm row) (huv : u < v) (hv : v < n) (h6 : ∀ j, A' (o + 6) j = if eP u v 0 0 ≤ j ∧ j < eP u v 0 0 + 16 then 0 else A (o + 6) j) (hfr : ∀ i, 1 ≤ i → i ≤ 5 → i ≠ 4 → A' (o + i) = A (o + i)) : GT F A' o n mm row u v 0 := by
  have h8 := h.1.1.2
  refine ⟨h.1.same rfl hfr, fun u' v' i j g1 g2 g3 g4 g5 g6 => ?_, fun i j _ _ g => absurd g (by omega)⟩
  have b1 := (h.1.2 u' (by omega)).1
  have b2 := (h.1.2 v' g2).1
  rw [h6, if_neg]
  · exact h.2.2 u' v' i j g1 g2 g3 g4 g6
  · intro q
    have e1 : eP u v 0 0 = (v * (v - 1) / 2 + u) * 16 := by unfold eP; rw [if_pos huv]; omega
    have e2 : eP u' v' i j = (v' * (v' - 1) / 2 + u') * 16 + i * 4 + j := by unfold eP; rw [if_pos g1]
    rw [e1, e2] at q
    have := tri_inj v (by omega) u huv v' (by omega) u' g1 (by omega)
    omega
theorem GR.join2 {F A A' : mj_S} {o n : Nat} {mm : Nat → Nat} {row : Nat → Int32} {u v : Nat} (h : GR F A o n mm row) (huv : u < v) (hv : v < n) (h0 : tdd row u v = 0) (h4 : A' (o + 4) = upd (upd (A (o + 4)) u (A (o + 4) u ||| (nI 1 <<< (nI v &&& 31)))) v (A (o + 4) v ||| (nI 1 <<< (nI u &&& 31)))) : ∀ w, w < n → A' (o + 4) w = nI (mkB row w + (if w = u then 2 ^ v else if w = v then 2 ^ u else 0)) := fun w hw => by
  have h8 := h.1.1.2
  rw [h4]
  by_cases e : w = v
  · subst e
    rw [pk_us, if_neg (by omega), if_pos rfl, h.2.1 w hw]
    exact bit_or _ (mkB_lt _ _) u (by omega) (by rw [mkB_bit _ _ (by omega), tdd_sym]; exact h0)
  · rw [pk_un e]
    by_cases e2 : w = u
    · subst e2
      rw [pk_us, if_pos rfl, h.2.1 w hw]
      exact bit_or _ (mkB_lt _ _) v (by omega) (by rw [mkB_bit _ _ (by omega)]; exact h0)
    · rw [pk_un e2, if_neg e2, if_neg e, Nat.add_zero]
      exact h.2.1 w hw
theorem min_T {T : Nat} (h : T ≤ 200) : mj_min (nI T) (nI 200) = nI T := by
  unfold mj_min
  rw [if_neg (nI_nlt h (by decide))]

set_option maxHeartbeats 400000 in
set_option maxRecDepth 100000 in
theorem c_ntz0 (z : mj_B) (d : Nat) (F A : mj_S) : J (gC z) mJ6_numberOfTrailingZeros_0f7a4 d 0 [(0, .int (nI 0))] [] F A (qP F A fun _ => True) := by
  refine j_iload_n dJ6_numberOfTrailingZeros_0f7a4_0 rfl ?_
  refine j_iconst (v := (-1)) dJ6_numberOfTrailingZeros_0f7a4_1 (by decide +kernel) ?_
  refine j_ixor dJ6_numberOfTrailingZeros_0f7a4_2 ?_
  refine j_iload_n dJ6_numberOfTrailingZeros_0f7a4_3 rfl ?_
  refine j_iconst (v := nI 1) dJ6_numberOfTrailingZeros_0f7a4_4 (by decide +kernel) ?_
  refine j_isub dJ6_numberOfTrailingZeros_0f7a4_5 ?_
  refine j_iand dJ6_numberOfTrailingZeros_0f7a4_6 ?_
  refine j_istore_n (lv' := [(0, .int (((nI 0) ^^^ (-1)) &&& ((nI 0) - (nI 1))))]) dJ6_numberOfTrailingZeros_0f7a4_7 (Nat.le_of_ble_eq_true rfl) rfl rfl ?_
  refine j_iload_n dJ6_numberOfTrailingZeros_0f7a4_8 rfl ?_
  refine j_if_gt (tgt := 17) dJ6_numberOfTrailingZeros_0f7a4_9 (by decide) (fun c9 => ?_) (fun c9 => ?_)
  · exact absurd c9 (by decide +kernel)
  · refine j_iload_n dJ6_numberOfTrailingZeros_0f7a4_12 rfl ?_
    refine j_bipush (v := nI 32) dJ6_numberOfTrailingZeros_0f7a4_13 (by decide +kernel) ?_
    refine j_iand dJ6_numberOfTrailingZeros_0f7a4_15 ?_
    exact j_iret dJ6_numberOfTrailingZeros_0f7a4_16 rfl rfl ⟨rfl, rfl, _, rfl, trivial⟩

set_option maxHeartbeats 400000 in
set_option maxRecDepth 100000 in
theorem c_takes (z : mj_B) (d : Nat) (T : Tg) (a : Nat) (w : Nat) (hw0 : 0 < w) (hw1 : w < 2147483648) (F A : mj_S) (hC : CI T F A) (hR : RI T.1 a F) : J (gC z) mX1_takes d 0 [(0, .ref 2), (1, .int (nI w))] [] F A (fun v F' A' => A = A' ∧ CI T F' A ∧ F' 40 0 = F 40 0 ∧ ∃ a', RI T.1 a' F' ∧ ∃ r, v = some (.int (nI r)) ∧ ((r = 1 ∧ cT T a = nI w ∧ a' = a + 1) ∨ (r = 0 ∧ cT T a ≠ nI w ∧ a' = a))) := by
  have hRa := hR.2.2.1
  have hRl := hR.2.2.2
  refine j_aload_n dX1_takes_0 rfl ?_
  refine j_getI dX1_takes_1 flX1_29 (Nat.le_of_ble_eq_true rfl) rfl rfl ?_
  refine j_top (y0 := nI a) hR.2.1 ?_
  refine j_aload_n dX1_takes_4 rfl ?_
  refine j_getI dX1_takes_5 flX1_25 (Nat.le_of_ble_eq_true rfl) rfl rfl ?_
  refine j_top (y0 := nI (T.1)) hR.1 ?_
  refine j_icmp_geN (tgt := 24) dX1_takes_8 (by decide) (by omega) (by omega) (fun c8 => ?_) (fun c8 => ?_)
  · have hno : cT T a ≠ nI w := by rw [cT_z (by omega)]; exact fun e => nI_ne0 hw0 hw1 e.symm
    refine j_iconst (v := nI 0) dX1_takes_24 (by decide +kernel) ?_
    exact j_iret dX1_takes_25 rfl (by decide +kernel) ⟨rfl, hC, rfl, _, hR, _, rfl, Or.inr ⟨rfl, hno, rfl⟩⟩
  · refine j_aload_n dX1_takes_11 rfl ?_
    refine j_getR (r := 1) dX1_takes_12 flX1_9 (Nat.le_of_ble_eq_true rfl) rfl rfl ?_
    refine j_aload_n dX1_takes_15 rfl ?_
    refine j_getI dX1_takes_16 flX1_29 (Nat.le_of_ble_eq_true rfl) rfl rfl ?_
    refine j_top (y0 := nI a) hR.2.1 ?_
    refine j_caldN dX1_takes_19 (Nat.le_of_ble_eq_true rfl) rfl (by omega) (by decide) ?_
    refine j_top (y0 := cT T a) (hC.ltr (by omega)) ?_
    refine j_iload_n dX1_takes_20 rfl ?_
    refine j_icmp_eq (tgt := 26) dX1_takes_21 (by decide) (fun c21 => ?_) (fun c21 => ?_)
    · refine j_aload_n dX1_takes_26 rfl ?_
      refine j_dup dX1_takes_27 rfl ?_
      refine j_getI dX1_takes_28 flX1_29 (Nat.le_of_ble_eq_true rfl) rfl rfl ?_
      refine j_top (y0 := nI a) hR.2.1 ?_
      refine j_iconst (v := nI 1) dX1_takes_31 (by decide +kernel) ?_
      refine j_iaddN dX1_takes_32 ?_
      refine j_putI dX1_takes_33 fpX1_29 (Nat.le_of_ble_eq_true rfl) rfl rfl ?_
      have hC := hC.f (k := 2) (s := 3) rfl (nI (a + 1))
      refine j_iconst (v := nI 1) dX1_takes_36 (by decide +kernel) ?_
      exact j_iret dX1_takes_37 rfl (by decide +kernel) ⟨rfl, hC, rfl, _, ⟨hR.1, rfl, by omega, hRl⟩, _, rfl, Or.inl ⟨rfl, c21, rfl⟩⟩
    · have hno : cT T a ≠ nI w := c21
      refine j_iconst (v := nI 0) dX1_takes_24 (by decide +kernel) ?_
      exact j_iret dX1_takes_25 rfl (by decide +kernel) ⟨rfl, hC, rfl, _, hR, _, rfl, Or.inr ⟨rfl, hno, rfl⟩⟩

set_option maxHeartbeats 400000 in
set_option maxRecDepth 100000 in
theorem c_readFigure (z : mj_B) (d : Nat) (T : Tg) (a : Nat) (F A : mj_S) (hC : CI T F A) (hR : RI T.1 a F) : J (gC z) mX1_readFigure d 0 [(0, .ref 2)] [] F A (fun v F' A' => A = A' ∧ CI T F' A ∧ F' 40 0 = F 40 0 ∧ ∃ a', RI T.1 a' F' ∧ ∃ x, v = some (.int x) ∧ ((∃ b, rd_d (cT T) a = some b ∧ x = nI b ∧ a' = a + 1) ∨ (rd_d (cT T) a = none ∧ x = (-1) ∧ a' = a))) := by
  have hRa := hR.2.2.1
  have hRl := hR.2.2.2
  refine j_aload_n dX1_readFigure_0 rfl ?_
  refine j_getI dX1_readFigure_1 flX1_29 (Nat.le_of_ble_eq_true rfl) rfl rfl ?_
  refine j_top (y0 := nI a) hR.2.1 ?_
  refine j_aload_n dX1_readFigure_4 rfl ?_
  refine j_getI dX1_readFigure_5 flX1_25 (Nat.le_of_ble_eq_true rfl) rfl rfl ?_
  refine j_top (y0 := nI (T.1)) hR.1 ?_
  refine j_icmp_geN (tgt := 39) dX1_readFigure_8 (by decide) (by omega) (by omega) (fun c8 => ?_) (fun c8 => ?_)
  · have hno : rd_d (cT T) a = none := rd_d_none (by rw [cT_z (by omega)]; decide +kernel)
    refine j_iconst (v := (-1)) dX1_readFigure_39 (by decide +kernel) ?_
    exact j_iret dX1_readFigure_40 rfl rfl ⟨rfl, hC, rfl, _, hR, _, rfl, Or.inr ⟨hno, rfl, rfl⟩⟩
  · refine j_aload_n dX1_readFigure_11 rfl ?_
    refine j_getR (r := 1) dX1_readFigure_12 flX1_9 (Nat.le_of_ble_eq_true rfl) rfl rfl ?_
    refine j_aload_n dX1_readFigure_15 rfl ?_
    refine j_getI dX1_readFigure_16 flX1_29 (Nat.le_of_ble_eq_true rfl) rfl rfl ?_
    refine j_top (y0 := nI a) hR.2.1 ?_
    refine j_caldN dX1_readFigure_19 (Nat.le_of_ble_eq_true rfl) rfl (by omega) (by decide) ?_
    refine j_top (y0 := cT T a) (hC.ltr (by omega)) ?_
    refine j_bipush (v := nI 48) dX1_readFigure_20 (by decide +kernel) ?_
    refine j_icmp_lt (tgt := 39) dX1_readFigure_22 (by decide) (fun c22 => ?_) (fun c22 => ?_)
    · have hno : rd_d (cT T) a = none := rd_d_none (fun h => Int32.not_lt.mpr h.1 c22)
      refine j_iconst (v := (-1)) dX1_readFigure_39 (by decide +kernel) ?_
      exact j_iret dX1_readFigure_40 rfl rfl ⟨rfl, hC, rfl, _, hR, _, rfl, Or.inr ⟨hno, rfl, rfl⟩⟩
    · refine j_aload_n dX1_readFigure_25 rfl ?_
      refine j_getR (r := 1) dX1_readFigure_26 flX1_9 (Nat.le_of_ble_eq_true rfl) rfl rfl ?_
      refine j_aload_n dX1_readFigure_29 rfl ?_
      refine j_getI dX1_readFigure_30 flX1_29 (Nat.le_of_ble_eq_true rfl) rfl rfl ?_
      refine j_top (y0 := nI a) hR.2.1 ?_
      refine j_caldN dX1_readFigure_33 (Nat.le_of_ble_eq_true rfl) rfl (by omega) (by decide) ?_
      refine j_top (y0 := cT T a) (hC.ltr (by omega)) ?_
      refine j_bipush (v := nI 57) dX1_readFigure_34 (by decide +kernel) ?_
      refine j_icmp_le (tgt := 41) dX1_readFigure_36 (by decide) (fun c36 => ?_) (fun c36 => ?_)
      · obtain ⟨b, hb, hb9, hcb⟩ := rd_in c22 c36
        refine j_aload_n dX1_readFigure_41 rfl ?_
        refine j_getR (r := 1) dX1_readFigure_42 flX1_9 (Nat.le_of_ble_eq_true rfl) rfl rfl ?_
        refine j_aload_n dX1_readFigure_45 rfl ?_
        refine j_getI dX1_readFigure_46 flX1_29 (Nat.le_of_ble_eq_true rfl) rfl rfl ?_
        refine j_top (y0 := nI a) hR.2.1 ?_
        refine j_caldN dX1_readFigure_49 (Nat.le_of_ble_eq_true rfl) rfl (by omega) (by decide) ?_
        refine j_top (y0 := cT T a) (hC.ltr (by omega)) ?_
        refine j_bipush (v := nI 48) dX1_readFigure_50 (by decide +kernel) ?_
        refine j_isub dX1_readFigure_52 ?_
        refine j_top (y0 := nI b) hcb ?_
        refine j_istore_n (lv' := [(0, .ref 2), (1, .int (nI b))]) dX1_readFigure_53 (Nat.le_of_ble_eq_true rfl) rfl rfl ?_
        refine j_aload_n dX1_readFigure_54 rfl ?_
        refine j_dup dX1_readFigure_55 rfl ?_
        refine j_getI dX1_readFigure_56 flX1_29 (Nat.le_of_ble_eq_true rfl) rfl rfl ?_
        refine j_top (y0 := nI a) hR.2.1 ?_
        refine j_iconst (v := nI 1) dX1_readFigure_59 (by decide +kernel) ?_
        refine j_iaddN dX1_readFigure_60 ?_
        refine j_putI dX1_readFigure_61 fpX1_29 (Nat.le_of_ble_eq_true rfl) rfl rfl ?_
        have hC := hC.f (k := 2) (s := 3) rfl (nI (a + 1))
        refine j_iload_n dX1_readFigure_64 rfl ?_
        exact j_iret dX1_readFigure_65 rfl rfl ⟨rfl, hC, rfl, _, ⟨hR.1, rfl, by omega, hRl⟩, _, rfl, Or.inl ⟨b, hb, rfl, rfl⟩⟩
      · have hno : rd_d (cT T) a = none := rd_d_none (fun h => c36 h.2)
        refine j_iconst (v := (-1)) dX1_readFigure_39 (by decide +kernel) ?_
        exact j_iret dX1_readFigure_40 rfl rfl ⟨rfl, hC, rfl, _, hR, _, rfl, Or.inr ⟨hno, rfl, rfl⟩⟩

set_option maxHeartbeats 400000 in
set_option maxRecDepth 100000 in
theorem c_readNumber (z : mj_B) (d : Nat) (T : Tg) (a : Nat) (F A : mj_S) (hC : CI T F A) (hR : RI T.1 a F) : J (gC z) mX1_readNumber (d + 1) 0 [(0, .ref 2)] [] F A (fun v F' A' => A = A' ∧ CI T F' A ∧ F' 40 0 = F 40 0 ∧ ∃ a', RI T.1 a' F' ∧ ∃ x, v = some (.int x) ∧ ((∃ w, rd_n (cT T) a = some (w, a') ∧ x = nI w) ∨ (rd_n (cT T) a = none ∧ x = (-1)))) := by
  have hRa := hR.2.2.1
  have hRl := hR.2.2.2
  refine j_aload_n dX1_readNumber_0 rfl ?_
  refine j_callV (y' := mX1_readFigure) (As := []) (st := []) dX1_readNumber_1 lkX1_93 okX1_readFigure imX1_readFigure seX1_readFigure (Nat.le_of_ble_eq_true rfl) rfl rfl rfl rfl (Nat.le_of_ble_eq_true rfl) (Nat.le_of_ble_eq_true rfl) (c_readFigure z _ _ _  F A hC hR) (fun v1 F1 A1 hq1 => ?_)
  obtain ⟨rfl, hC, h40_1, a1, hR, x1, rfl, hE1⟩ := hq1
  have hRa := hR.2.2.1
  refine j_istore_n (lv' := [(0, .ref 2), (1, .int x1)]) dX1_readNumber_4 (Nat.le_of_ble_eq_true rfl) rfl rfl ?_
  refine j_iload_n dX1_readNumber_5 rfl ?_
  refine j_if_ge (tgt := 11) dX1_readNumber_6 (by decide) (fun c6 => ?_) (fun c6 => ?_)
  · obtain ⟨b1, hd1, rfl, ea1⟩ := fg_yes hE1 (Int32.not_lt.mpr c6)
    refine j_aload_n dX1_readNumber_11 rfl ?_
    refine j_callV (y' := mX1_readFigure) (As := []) (st := []) dX1_readNumber_12 lkX1_93 okX1_readFigure imX1_readFigure seX1_readFigure (Nat.le_of_ble_eq_true rfl) rfl rfl rfl rfl (Nat.le_of_ble_eq_true rfl) (Nat.le_of_ble_eq_true rfl) (c_readFigure z _ _ _  F1 A hC hR) (fun v12 F12 A12 hq12 => ?_)
    obtain ⟨rfl, hC, h40_12, a12, hR, x12, rfl, hE12⟩ := hq12
    have hRa := hR.2.2.1
    refine j_istore_n (lv' := [(0, .ref 2), (1, .int (nI b1)), (2, .int x12)]) dX1_readNumber_15 (Nat.le_of_ble_eq_true rfl) rfl rfl ?_
    refine j_iload_n dX1_readNumber_16 rfl ?_
    refine j_if_ge (tgt := 24) dX1_readNumber_17 (by decide) (fun c17 => ?_) (fun c17 => ?_)
    · obtain ⟨b2, hd2, rfl, ea12⟩ := fg_yes hE12 (Int32.not_lt.mpr c17)
      have hnn : rd_n (cT T) a = some (b1 * 10 + b2, a12) := by
        rw [rd_n2 hd1 (by rw [← ea1]; exact hd2)]
        congr 2 <;> omega
      refine j_iload_n dX1_readNumber_24 rfl ?_
      refine j_bipush (v := nI 10) dX1_readNumber_25 (by decide +kernel) ?_
      refine j_imulN dX1_readNumber_27 ?_
      refine j_iload_n dX1_readNumber_28 rfl ?_
      refine j_iaddN dX1_readNumber_29 ?_
      exact j_iret dX1_readNumber_30 rfl rfl ⟨rfl, hC, h40_12.trans h40_1, _, hR, _, rfl, Or.inl ⟨_, hnn, rfl⟩⟩
    · have hq2 := fg_no hE12 (Int32.not_le.mp c17)
      have hnn : rd_n (cT T) a = some (b1, a12) := by
        rw [rd_n1 hd1 (by rw [← ea1]; exact hq2.1)]
        congr 2; omega
      refine j_iload_n dX1_readNumber_20 rfl ?_
      refine j_goto (tgt := 30) dX1_readNumber_21 (by decide) ?_
      exact j_iret dX1_readNumber_30 rfl rfl ⟨rfl, hC, h40_12.trans h40_1, _, hR, _, rfl, Or.inl ⟨_, hnn, rfl⟩⟩
  · have hno := rd_n0 (fg_no hE1 (Int32.not_le.mp c6)).1
    refine j_iconst (v := (-1)) dX1_readNumber_9 (by decide +kernel) ?_
    exact j_iret dX1_readNumber_10 rfl rfl ⟨rfl, hC, h40_1, _, hR, _, rfl, Or.inr ⟨hno, rfl⟩⟩

set_option maxHeartbeats 400000 in
set_option maxRecDepth 100000 in
theorem c_readNode (z : mj_B) (d : Nat) (T : Tg) (a : Nat) (n : Nat) (mm : Nat → Nat) (row : Nat → Int32) (F A : mj_S) (hC : CI T F A) (hR : RI T.1 a F) (hG : GR F A 40 n mm row) (hw : wd n mm row) : J (gC z) mX1_readNode (d + 2) 0 [(0, .ref 2)] [] F A (fun v F' A' => CI T F' A' ∧ ∃ a', RI T.1 a' F' ∧ ∃ r, v = some (.int (nI r)) ∧ r ≤ 1 ∧ ((r = 1 ∧ ∃ n' mm' row', rd_node (cT T) a n mm row = some (a', n', mm', row') ∧ GR F' A' 40 n' mm' row') ∨ (r = 0 ∧ rd_node (cT T) a n mm row = none))) := by
  have hRa := hR.2.2.1
  have hRl := hR.2.2.2
  have hn8 := hG.1.1.2
  refine j_aload_n dX1_readNode_0 rfl ?_
  refine j_getR (r := 40) dX1_readNode_1 flX1_15 (Nat.le_of_ble_eq_true rfl) rfl rfl ?_
  refine j_getI dX1_readNode_4 flX1_32 (Nat.le_of_ble_eq_true rfl) rfl rfl ?_
  refine j_top (y0 := nI n) hG.1.1.1 ?_
  refine j_istore_n (lv' := [(0, .ref 2), (1, .int (nI n))]) dX1_readNode_7 (Nat.le_of_ble_eq_true rfl) rfl rfl ?_
  refine j_aload_n dX1_readNode_8 rfl ?_
  refine j_callV (y' := mX1_readNumber) (As := []) (st := []) dX1_readNode_9 lkX1_51 okX1_readNumber imX1_readNumber seX1_readNumber (Nat.le_of_ble_eq_true rfl) rfl rfl rfl rfl (Nat.le_of_ble_eq_true rfl) (Nat.le_of_ble_eq_true rfl) (c_readNumber z _ _ _  F A hC hR) (fun v9 F9 A9 hq9 => ?_)
  obtain ⟨rfl, hC, h40_9, a9, hR, x9, rfl, hE9⟩ := hq9
  have hRa := hR.2.2.1
  have hG := hG.off (F' := F9) (A' := A) h40_9 (fun _ _ _ => rfl)
  refine j_istore_n (lv' := [(0, .ref 2), (1, .int (nI n)), (2, .int x9)]) dX1_readNode_12 (Nat.le_of_ble_eq_true rfl) rfl rfl ?_
  refine j_iload_n dX1_readNode_13 rfl ?_
  refine j_bipush (v := nI 8) dX1_readNode_14 (by decide +kernel) ?_
  refine j_icmp_geN (tgt := 28) dX1_readNode_16 (by decide) (by omega) (by omega) (fun c16 => ?_) (fun c16 => ?_)
  · have hno : rd_node (cT T) a n mm row = none := rd_node_8 (by omega)
    refine j_iconst (v := nI 0) dX1_readNode_28 (by decide +kernel) ?_
    exact j_iret dX1_readNode_29 rfl (by decide +kernel) ⟨hC, _, hR, _, rfl, by omega, Or.inr ⟨rfl, hno⟩⟩
  · refine j_iload_n dX1_readNode_19 rfl ?_
    refine j_iconst (v := nI 0) dX1_readNode_20 (by decide +kernel) ?_
    refine j_iconst (v := nI 3) dX1_readNode_21 (by decide +kernel) ?_
    refine j_callSN (y' := mX5_isWithin) (As := [.int x9, .int (nI 0), .int (nI 3)]) (st := []) dX1_readNode_22 lnX1_55 okX5_isWithin stX5_isWithin rfl (Nat.le_of_ble_eq_true rfl) (Nat.le_of_ble_eq_true rfl) (c_isWithin z _ x9 (nI 0) (nI 3) F9 A) (fun v22 F22 A22 hq22 => ?_)
    obtain ⟨rfl, rfl, r22, rfl, hr22⟩ := hq22
    have hb22 : r22 ≤ 1 := by omega
    refine j_if_neN (tgt := 30) dX1_readNode_25 (by decide) (by omega) (fun c25 => ?_) (fun c25 => ?_)
    · obtain ⟨w9, hn9, rfl, hw3⟩ := kd_yes hE9 (hr22.resolve_right (fun h => by omega)).2
      have hn7 : n < 8 := by omega
      have hres9 := rd_node_eq (mm := mm) (row := row) hn9 hw3 hn7
      have L35 : ∀ (fuel : Nat) (q : Nat) (i : Nat) (a1 : Nat) (f : Nat) (row1 : Nat → Int32) (res : Option (Nat × Nat × (Nat → Int32))) (F A : mj_S), (CI T F A) → (RI T.1 a1 F) → (GR F A 40 n mm row1) → (q = i ∧ i ≤ 4 ∧ f + i = 6) → (∀ i', i' < i → A 45 (4 * n + i') = row1 (4 * n + i')) → (row1 (32 + n) = nI w9) → (row1 (40 + n) = 0) → (∀ u v, u < 8 → v < 8 → n ≤ u ∨ n ≤ v → tdd row1 u v = 0) → (rd_o (cT T) n f a1 i row1 = res) → (rd_node (cT T) a n mm row = rd_nM n mm res) → 4 - i < fuel → J (gC z) mX1_readNode (d + 2) 35 [(0, .ref 2), (1, .int (nI n)), (2, .int (nI w9)), (3, .int (nI q)), (4, .int (nI i))] [] F A (fun v F' A' => CI T F' A' ∧ ∃ a', RI T.1 a' F' ∧ ∃ r, v = some (.int (nI r)) ∧ r ≤ 1 ∧ ((r = 1 ∧ ∃ n' mm' row', rd_node (cT T) a n mm row = some (a', n', mm', row') ∧ GR F' A' 40 n' mm' row') ∨ (r = 0 ∧ rd_node (cT T) a n mm row = none))) := by
        intro fuel
        induction fuel with
        | zero => intro q i a1 f row1 res F A hC hR hG h1 ho hrk hr40 hz hspec hres hf; exact absurd hf (by omega)
        | succ fuel ih35 =>
          intro q i a1 f row1 res F A hC hR hG h1 ho hrk hr40 hz hspec hres hf
          have hRa := hR.2.2.1
          refine j_iload dX1_readNode_35 rfl ?_
          refine j_iconst (v := nI 4) dX1_readNode_37 (by decide +kernel) ?_
          refine j_icmp_geN (tgt := 88) dX1_readNode_38 (by decide) (by omega) (by omega) (fun c38 => ?_) (fun c38 => ?_)
          · have h44 : i = 4 ∨ cT T a1 ≠ nI 44 := Or.inl (by omega)
            refine j_iload_n dX1_readNode_88 rfl ?_
            refine j_if_eqN (tgt := 101) dX1_readNode_89 (by decide) (by omega) (fun c89 => ?_) (fun c89 => ?_)
            · have hno : rd_node (cT T) a n mm row = none := by rw [hres, ← hspec, rd_o_no (h44.resolve_left (by omega)) (fun q => absurd q.2 (by omega))]; rfl
              refine j_iconst (v := nI 0) dX1_readNode_101 (by decide +kernel) ?_
              exact j_iret dX1_readNode_102 rfl (by decide +kernel) ⟨hC, _, hR, _, rfl, by omega, Or.inr ⟨rfl, hno⟩⟩
            · refine j_aload_n dX1_readNode_92 rfl ?_
              refine j_bipush (v := nI 59) dX1_readNode_93 (by decide +kernel) ?_
              refine j_callV (y' := mX1_takes) (As := [.int (nI 59)]) (st := []) dX1_readNode_95 lkX1_41 okX1_takes imX1_takes seX1_takes (Nat.le_of_ble_eq_true rfl) rfl rfl rfl rfl (Nat.le_of_ble_eq_true rfl) (Nat.le_of_ble_eq_true rfl) (c_takes z _ _ _ 59 (by decide) (by decide) F A hC hR) (fun v95 F95 A95 hq95 => ?_)
              obtain ⟨rfl, hC, h40_95, a95, hR, r95, rfl, hT95⟩ := hq95
              have hRa := hR.2.2.1
              have hb95 : r95 ≤ 1 := by omega
              have hG := hG.off (F' := F95) (A' := A) h40_95 (fun _ _ _ => rfl)
              refine j_if_neN (tgt := 103) dX1_readNode_98 (by decide) (by omega) (fun c98 => ?_) (fun c98 => ?_)
              · obtain ⟨-, hc59, ea95⟩ := hT95.resolve_right (fun h => by omega)
                have hsome : rd_node (cT T) a n mm row = some (a95, n + 1, mmU mm n q, row1) := by
                  obtain ⟨f1, rfl⟩ : ∃ f1, f = f1 + 1 := ⟨f - 1, by omega⟩
                  rw [hres, ← hspec, rd_o_59 f1 hc59 (by omega), ea95, h1.1]
                  rfl
                refine j_aload_n dX1_readNode_103 rfl ?_
                refine j_getR (r := 40) dX1_readNode_104 flX1_15 (Nat.le_of_ble_eq_true rfl) rfl rfl ?_
                refine j_iload_n dX1_readNode_107 rfl ?_
                refine j_iload_n dX1_readNode_108 rfl ?_
                refine j_callV (y' := mX0_addNode) (As := [.int (nI w9), .int (nI q)]) (st := []) dX1_readNode_109 lkX1_66 okX0_addNode imX0_addNode seX0_addNode (Nat.le_of_ble_eq_true rfl) rfl rfl rfl rfl (Nat.le_of_ble_eq_true rfl) (Nat.le_of_ble_eq_true rfl) (c_addNode z _ _ n q (by omega) (by omega) (nI w9) F95 A hC hG.1.1.1) (fun v109 F109 A109 hq109 => ?_)
                obtain ⟨rfl, hC, eF, eA⟩ := hq109
                have hR : RI T.1 a95 F109 := by rw [eF]; exact hR
                have hGn : GR F109 A109 40 (n + 1) (mmU mm n q) row1 := hG.node hn7 (q := q) (by omega) (by rw [eF]; exact mj_u_on _ 40 0 _) (by rw [eA]; rfl) (by rw [eA, hrk]; rfl) (by rw [eA, hr40, show (0 : Int32) - 1 = (-1) from by decide +kernel]; rfl) (by rw [eA]; rfl) (by rw [eA]; rfl) (by rw [eA]; rfl) (fun i' h' => ho i' (by omega)) hz
                refine j_iconst (v := nI 1) dX1_readNode_112 (by decide +kernel) ?_
                exact j_iret dX1_readNode_113 rfl (by decide +kernel) ⟨hC, _, hR, _, rfl, by omega, Or.inl ⟨rfl, _, _, _, hsome, hGn⟩⟩
              · obtain ⟨-, hc59, -⟩ := hT95.resolve_left (fun h => by omega)
                have hno : rd_node (cT T) a n mm row = none := by rw [hres, ← hspec, rd_o_x h44 hc59]; rfl
                refine j_iconst (v := nI 0) dX1_readNode_101 (by decide +kernel) ?_
                exact j_iret dX1_readNode_102 rfl (by decide +kernel) ⟨hC, _, hR, _, rfl, by omega, Or.inr ⟨rfl, hno⟩⟩
          · refine j_aload_n dX1_readNode_41 rfl ?_
            refine j_bipush (v := nI 44) dX1_readNode_42 (by decide +kernel) ?_
            refine j_callV (y' := mX1_takes) (As := [.int (nI 44)]) (st := []) dX1_readNode_44 lkX1_41 okX1_takes imX1_takes seX1_takes (Nat.le_of_ble_eq_true rfl) rfl rfl rfl rfl (Nat.le_of_ble_eq_true rfl) (Nat.le_of_ble_eq_true rfl) (c_takes z _ _ _ 44 (by decide) (by decide) F A hC hR) (fun v44 F44 A44 hq44 => ?_)
            obtain ⟨rfl, hC, h40_44, a44, hR, r44, rfl, hT44⟩ := hq44
            have hRa := hR.2.2.1
            have hb44 : r44 ≤ 1 := by omega
            have hG := hG.off (F' := F44) (A' := A) h40_44 (fun _ _ _ => rfl)
            refine j_if_eqN (tgt := 88) dX1_readNode_47 (by decide) (by omega) (fun c47 => ?_) (fun c47 => ?_)
            · obtain ⟨-, hc44, ea44⟩ := hT44.resolve_left (fun h => by omega)
              rw [ea44] at hR
              have h44 : i = 4 ∨ cT T a1 ≠ nI 44 := Or.inr hc44
              refine j_iload_n dX1_readNode_88 rfl ?_
              refine j_if_eqN (tgt := 101) dX1_readNode_89 (by decide) (by omega) (fun c89 => ?_) (fun c89 => ?_)
              · have hno : rd_node (cT T) a n mm row = none := by rw [hres, ← hspec, rd_o_no (h44.resolve_left (by omega)) (fun q => absurd q.2 (by omega))]; rfl
                refine j_iconst (v := nI 0) dX1_readNode_101 (by decide +kernel) ?_
                exact j_iret dX1_readNode_102 rfl (by decide +kernel) ⟨hC, _, hR, _, rfl, by omega, Or.inr ⟨rfl, hno⟩⟩
              · refine j_aload_n dX1_readNode_92 rfl ?_
                refine j_bipush (v := nI 59) dX1_readNode_93 (by decide +kernel) ?_
                refine j_callV (y' := mX1_takes) (As := [.int (nI 59)]) (st := []) dX1_readNode_95 lkX1_41 okX1_takes imX1_takes seX1_takes (Nat.le_of_ble_eq_true rfl) rfl rfl rfl rfl (Nat.le_of_ble_eq_true rfl) (Nat.le_of_ble_eq_true rfl) (c_takes z _ _ _ 59 (by decide) (by decide) F44 A hC hR) (fun v95 F95 A95 hq95 => ?_)
                obtain ⟨rfl, hC, h40_95, a95, hR, r95, rfl, hT95⟩ := hq95
                have hRa := hR.2.2.1
                have hb95 : r95 ≤ 1 := by omega
                have hG := hG.off (F' := F95) (A' := A) h40_95 (fun _ _ _ => rfl)
                refine j_if_neN (tgt := 103) dX1_readNode_98 (by decide) (by omega) (fun c98 => ?_) (fun c98 => ?_)
                · obtain ⟨-, hc59, ea95⟩ := hT95.resolve_right (fun h => by omega)
                  have hsome : rd_node (cT T) a n mm row = some (a95, n + 1, mmU mm n q, row1) := by
                    obtain ⟨f1, rfl⟩ : ∃ f1, f = f1 + 1 := ⟨f - 1, by omega⟩
                    rw [hres, ← hspec, rd_o_59 f1 hc59 (by omega), ea95, h1.1]
                    rfl
                  refine j_aload_n dX1_readNode_103 rfl ?_
                  refine j_getR (r := 40) dX1_readNode_104 flX1_15 (Nat.le_of_ble_eq_true rfl) rfl rfl ?_
                  refine j_iload_n dX1_readNode_107 rfl ?_
                  refine j_iload_n dX1_readNode_108 rfl ?_
                  refine j_callV (y' := mX0_addNode) (As := [.int (nI w9), .int (nI q)]) (st := []) dX1_readNode_109 lkX1_66 okX0_addNode imX0_addNode seX0_addNode (Nat.le_of_ble_eq_true rfl) rfl rfl rfl rfl (Nat.le_of_ble_eq_true rfl) (Nat.le_of_ble_eq_true rfl) (c_addNode z _ _ n q (by omega) (by omega) (nI w9) F95 A hC hG.1.1.1) (fun v109 F109 A109 hq109 => ?_)
                  obtain ⟨rfl, hC, eF, eA⟩ := hq109
                  have hR : RI T.1 a95 F109 := by rw [eF]; exact hR
                  have hGn : GR F109 A109 40 (n + 1) (mmU mm n q) row1 := hG.node hn7 (q := q) (by omega) (by rw [eF]; exact mj_u_on _ 40 0 _) (by rw [eA]; rfl) (by rw [eA, hrk]; rfl) (by rw [eA, hr40, show (0 : Int32) - 1 = (-1) from by decide +kernel]; rfl) (by rw [eA]; rfl) (by rw [eA]; rfl) (by rw [eA]; rfl) (fun i' h' => ho i' (by omega)) hz
                  refine j_iconst (v := nI 1) dX1_readNode_112 (by decide +kernel) ?_
                  exact j_iret dX1_readNode_113 rfl (by decide +kernel) ⟨hC, _, hR, _, rfl, by omega, Or.inl ⟨rfl, _, _, _, hsome, hGn⟩⟩
                · obtain ⟨-, hc59, -⟩ := hT95.resolve_left (fun h => by omega)
                  have hno : rd_node (cT T) a n mm row = none := by rw [hres, ← hspec, rd_o_x h44 hc59]; rfl
                  refine j_iconst (v := nI 0) dX1_readNode_101 (by decide +kernel) ?_
                  exact j_iret dX1_readNode_102 rfl (by decide +kernel) ⟨hC, _, hR, _, rfl, by omega, Or.inr ⟨rfl, hno⟩⟩
            · obtain ⟨-, hc44, ea44⟩ := hT44.resolve_right (fun h => by omega)
              refine j_aload_n dX1_readNode_50 rfl ?_
              refine j_callV (y' := mX1_readNumber) (As := []) (st := []) dX1_readNode_51 lkX1_51 okX1_readNumber imX1_readNumber seX1_readNumber (Nat.le_of_ble_eq_true rfl) rfl rfl rfl rfl (Nat.le_of_ble_eq_true rfl) (Nat.le_of_ble_eq_true rfl) (c_readNumber z _ _ _  F44 A hC hR) (fun v51 F51 A51 hq51 => ?_)
              obtain ⟨rfl, hC, h40_51, a51, hR, x51, rfl, hE51⟩ := hq51
              have hRa := hR.2.2.1
              have hG := hG.off (F' := F51) (A' := A) h40_51 (fun _ _ _ => rfl)
              refine j_istore (lv' := [(0, .ref 2), (1, .int (nI n)), (2, .int (nI w9)), (3, .int (nI q)), (4, .int (nI i)), (5, .int x51)]) dX1_readNode_54 (Nat.le_of_ble_eq_true rfl) rfl rfl ?_
              refine j_iload dX1_readNode_56 rfl ?_
              refine j_if_ge (tgt := 63) dX1_readNode_58 (by decide) (fun c58 => ?_) (fun c58 => ?_)
              · obtain ⟨w51, hn51, rfl⟩ := nm_yes hE51 (Int32.not_lt.mpr c58)
                rw [ea44] at hn51
                refine j_aload_n dX1_readNode_63 rfl ?_
                refine j_getR (r := 40) dX1_readNode_64 flX1_15 (Nat.le_of_ble_eq_true rfl) rfl rfl ?_
                refine j_getR (r := 45) dX1_readNode_67 flX1_59 (Nat.le_of_ble_eq_true rfl) rfl rfl ?_
                refine j_iload_n dX1_readNode_70 rfl ?_
                refine j_iload dX1_readNode_71 rfl ?_
                refine j_callSN (y' := mX5_choicePlace) (As := [.int (nI n), .int (nI i)]) (st := [.ref 45]) dX1_readNode_73 lnX1_63 okX5_choicePlace stX5_choicePlace rfl (Nat.le_of_ble_eq_true rfl) (Nat.le_of_ble_eq_true rfl) (c_choicePlace z _ n i F51 A) (fun v73 F73 A73 hq73 => ?_)
                obtain ⟨rfl, rfl, r73, rfl, hr73⟩ := hq73
                have hr73b : r73 = 4 * n + i := by omega
                refine j_iload dX1_readNode_76 rfl ?_
                refine j_iastN dX1_readNode_78 (Nat.le_of_ble_eq_true rfl) rfl (by omega) (by decide) ?_
                have hC := hC.u (k := 45) rfl r73 (nI w51)
                refine j_iinc (v := nI (q + 1)) (lv' := [(0, .ref 2), (1, .int (nI n)), (2, .int (nI w9)), (3, .int (nI (q + 1))), (4, .int (nI i)), (5, .int (nI w51))]) dX1_readNode_79 rfl (nI_add _ 1) (Nat.le_of_ble_eq_true rfl) rfl rfl ?_
                refine j_iinc (v := nI (i + 1)) (lv' := [(0, .ref 2), (1, .int (nI n)), (2, .int (nI w9)), (3, .int (nI (q + 1))), (4, .int (nI (i + 1))), (5, .int (nI w51))]) dX1_readNode_82 rfl (nI_add _ 1) (Nat.le_of_ble_eq_true rfl) rfl rfl ?_
                refine j_goto (tgt := 35) dX1_readNode_85 (by decide) ?_
                refine j_sub [0, 1, 2, 3, 4] rfl ?_
                exact ih35 (q + 1) (i + 1) a51 (f - 1) (upd row1 (4 * n + i) (nI w51)) res F51 (mj_u A 45 r73 (nI w51)) hC hR (by rw [hr73b]; exact hG.own (by omega) _) (by first | exact h1 | omega) (by rw [hr73b]; exact ho_s ho) (by rw [pk_un (by omega)]; exact hrk) (by rw [pk_un (by omega)]; exact hr40) (fun u v h1 h2 h3 => by rw [tdd_low (by omega)]; exact hz u v h1 h2 h3) (by rw [← hspec, show f = f - 1 + 1 by omega, rd_o_44 _ hc44 (by omega) hn51]; rfl) hres (by omega)
              · have hno : rd_node (cT T) a n mm row = none := by rw [hres, ← hspec, rd_o_F hc44 (Or.inl (by rw [← ea44]; exact nm_no hE51 (Int32.not_le.mp c58)))]; rfl
                refine j_iconst (v := nI 0) dX1_readNode_61 (by decide +kernel) ?_
                exact j_iret dX1_readNode_62 rfl (by decide +kernel) ⟨hC, _, hR, _, rfl, by omega, Or.inr ⟨rfl, hno⟩⟩
      refine j_iconst (v := nI 0) dX1_readNode_30 (by decide +kernel) ?_
      refine j_istore_n (lv' := [(0, .ref 2), (1, .int (nI n)), (2, .int (nI w9)), (3, .int (nI 0))]) dX1_readNode_31 (Nat.le_of_ble_eq_true rfl) rfl rfl ?_
      refine j_iconst (v := nI 0) dX1_readNode_32 (by decide +kernel) ?_
      refine j_istore (lv' := [(0, .ref 2), (1, .int (nI n)), (2, .int (nI w9)), (3, .int (nI 0)), (4, .int (nI 0))]) dX1_readNode_33 (Nat.le_of_ble_eq_true rfl) rfl rfl ?_
      exact L35 _ 0 0 a9 6 (upd row (32 + n) (nI w9)) _ F9 A hC hR (hG.rowk hn7 (nI w9)) (by first | exact h1 | omega) (fun i' h => absurd h (by omega)) pk_us (by rw [pk_un (by omega)]; exact hw.2 n hn7) (fun u v h1 h2 h3 => by rw [tdd_low (by omega)]; exact hw.1.off h1 h2 h3) rfl hres9 (Nat.lt_succ_self _)
    · have hno : rd_node (cT T) a n mm row = none := kd_no hE9 (hr22.resolve_left (fun h => by omega)).2
      refine j_iconst (v := nI 0) dX1_readNode_28 (by decide +kernel) ?_
      exact j_iret dX1_readNode_29 rfl (by decide +kernel) ⟨hC, _, hR, _, rfl, by omega, Or.inr ⟨rfl, hno⟩⟩

set_option maxHeartbeats 400000 in
set_option maxRecDepth 100000 in
theorem c_readTable (z : mj_B) (d : Nat) (T : Tg) (a : Nat) (n : Nat) (mm : Nat → Nat) (row : Nat → Int32) (u v : Nat) (huv : u < v) (hv : v < n) (h16 : mm u * mm v ≤ 16) (F A0 : mj_S) (hC : CI T F A0) (hR : RI T.1 a F) (hG : GT F A0 40 n mm row u v 0) : J (gC z) mX1_readTable (d + 1) 0 [(0, .ref 2), (1, .int (nI u)), (2, .int (nI v))] [] F A0 (fun w F' A' => CI T F' A' ∧ ∃ a', RI T.1 a' F' ∧ ∃ r, w = some (.int (nI r)) ∧ r ≤ 1 ∧ A' 44 = A0 44 ∧ ((r = 1 ∧ ∃ row' f', 0 < f' ∧ GT F' A' 40 n mm row' u v (mm u * mm v) ∧ rd_tb (cT T) mm u v f' a' (mm u * mm v) row' = rd_tb (cT T) mm u v 17 a 0 row) ∨ (r = 0 ∧ rd_tb (cT T) mm u v 17 a 0 row = none))) := by
  have hRa := hR.2.2.1
  have hRl := hR.2.2.2
  have hn8 := hG.1.1.2
  have hmu := (hG.1.2 u (by omega)).1
  have hmv := (hG.1.2 v hv).1
  have L2 : ∀ (fuel : Nat) (i : Nat) (a1 : Nat) (q : Nat) (f : Nat) (row1 : Nat → Int32) (F A : mj_S), (CI T F A) → (RI T.1 a1 F) → (GT F A 40 n mm row1 u v q) → (A 44 = A0 44) → (rd_tb (cT T) mm u v f a1 q row1 = rd_tb (cT T) mm u v 17 a 0 row) → (f + q = 17) → (i ≤ mm u) → (q = i * mm v) → mm u - i < fuel → J (gC z) mX1_readTable (d + 1) 2 [(0, .ref 2), (1, .int (nI u)), (2, .int (nI v)), (3, .int (nI i))] [] F A (fun w F' A' => CI T F' A' ∧ ∃ a', RI T.1 a' F' ∧ ∃ r, w = some (.int (nI r)) ∧ r ≤ 1 ∧ A' 44 = A0 44 ∧ ((r = 1 ∧ ∃ row' f', 0 < f' ∧ GT F' A' 40 n mm row' u v (mm u * mm v) ∧ rd_tb (cT T) mm u v f' a' (mm u * mm v) row' = rd_tb (cT T) mm u v 17 a 0 row) ∨ (r = 0 ∧ rd_tb (cT T) mm u v 17 a 0 row = none))) := by
    intro fuel
    induction fuel with
    | zero => intro i a1 q f row1 F A hC hR hG h44 hspec hf17 hi hq hf; exact absurd hf (by omega)
    | succ fuel ih2 =>
      intro i a1 q f row1 F A hC hR hG h44 hspec hf17 hi hq hf
      have hRa := hR.2.2.1
      refine j_iload_n dX1_readTable_2 rfl ?_
      refine j_aload_n dX1_readTable_3 rfl ?_
      refine j_getR (r := 40) dX1_readTable_4 flX1_15 (Nat.le_of_ble_eq_true rfl) rfl rfl ?_
      refine j_getR (r := 41) dX1_readTable_7 flX1_90 (Nat.le_of_ble_eq_true rfl) rfl rfl ?_
      refine j_iload_n dX1_readTable_10 rfl ?_
      refine j_ialdN dX1_readTable_11 (Nat.le_of_ble_eq_true rfl) rfl (by omega) (by decide) ?_
      refine j_top (y0 := nI (mm u)) (hG.1.2 u (by omega)).2.1 ?_
      refine j_icmp_geN (tgt := 75) dX1_readTable_12 (by decide) (by omega) (by omega) (fun c12 => ?_) (fun c12 => ?_)
      · have hie : i = mm u := by omega
        have hqe : q = mm u * mm v := by rw [hq, hie]
        have hfp : 0 < f := by omega
        have hGe : GT F A 40 n mm row1 u v (mm u * mm v) := by rw [← hqe]; exact hG
        have hsp : rd_tb (cT T) mm u v f a1 (mm u * mm v) row1 = rd_tb (cT T) mm u v 17 a 0 row := by rw [← hqe]; exact hspec
        refine j_iconst (v := nI 1) dX1_readTable_75 (by decide +kernel) ?_
        exact j_iret dX1_readTable_76 rfl (by decide +kernel) ⟨hC, _, hR, _, rfl, by omega, h44, Or.inl ⟨rfl, row1, f, hfp, hGe, hsp⟩⟩
      · have L18 : ∀ (fuel : Nat) (j : Nat) (a1 : Nat) (q : Nat) (f : Nat) (row1 : Nat → Int32) (F A : mj_S), (CI T F A) → (RI T.1 a1 F) → (GT F A 40 n mm row1 u v q) → (A 44 = A0 44) → (rd_tb (cT T) mm u v f a1 q row1 = rd_tb (cT T) mm u v 17 a 0 row) → (f + q = 17) → (j ≤ mm v) → (q = i * mm v + j) → mm v - j < fuel → J (gC z) mX1_readTable (d + 1) 18 [(0, .ref 2), (1, .int (nI u)), (2, .int (nI v)), (3, .int (nI i)), (4, .int (nI j))] [] F A (fun w F' A' => CI T F' A' ∧ ∃ a', RI T.1 a' F' ∧ ∃ r, w = some (.int (nI r)) ∧ r ≤ 1 ∧ A' 44 = A0 44 ∧ ((r = 1 ∧ ∃ row' f', 0 < f' ∧ GT F' A' 40 n mm row' u v (mm u * mm v) ∧ rd_tb (cT T) mm u v f' a' (mm u * mm v) row' = rd_tb (cT T) mm u v 17 a 0 row) ∨ (r = 0 ∧ rd_tb (cT T) mm u v 17 a 0 row = none))) := by
          intro fuel
          induction fuel with
          | zero => intro j a1 q f row1 F A hC hR hG h44 hspec hf17 hj hq hf; exact absurd hf (by omega)
          | succ fuel ih18 =>
            intro j a1 q f row1 F A hC hR hG h44 hspec hf17 hj hq hf
            have hRa := hR.2.2.1
            refine j_iload dX1_readTable_18 rfl ?_
            refine j_aload_n dX1_readTable_20 rfl ?_
            refine j_getR (r := 40) dX1_readTable_21 flX1_15 (Nat.le_of_ble_eq_true rfl) rfl rfl ?_
            refine j_getR (r := 41) dX1_readTable_24 flX1_90 (Nat.le_of_ble_eq_true rfl) rfl rfl ?_
            refine j_iload_n dX1_readTable_27 rfl ?_
            refine j_ialdN dX1_readTable_28 (Nat.le_of_ble_eq_true rfl) rfl (by omega) (by decide) ?_
            refine j_top (y0 := nI (mm v)) (hG.1.2 v (by omega)).2.1 ?_
            refine j_icmp_geN (tgt := 69) dX1_readTable_29 (by decide) (by omega) (by omega) (fun c29 => ?_) (fun c29 => ?_)
            · refine j_iinc (v := nI (i + 1)) (lv' := [(0, .ref 2), (1, .int (nI u)), (2, .int (nI v)), (3, .int (nI (i + 1))), (4, .int (nI j))]) dX1_readTable_69 rfl (nI_add _ 1) (Nat.le_of_ble_eq_true rfl) rfl rfl ?_
              refine j_goto (tgt := 2) dX1_readTable_72 (by decide) ?_
              refine j_sub [0, 1, 2, 3] rfl ?_
              exact ih2 (i + 1) a1 q f row1 F A (by first | exact hC | omega) (by first | exact hR | omega) (by first | exact hG | omega) (by first | exact h44 | omega) (by first | exact hspec | omega) (by first | exact hf17 | omega) (by omega) (by rw [hq, show j = mm v by omega, Nat.add_mul, Nat.one_mul]) (by omega)
            · have hqlt : q < mm u * mm v := by rw [hq]; exact mm_le (by omega) (by omega)
              have hij : i < mm u ∧ j < mm v := by omega
              refine j_aload_n dX1_readTable_32 rfl ?_
              refine j_callV (y' := mX1_readFigure) (As := []) (st := []) dX1_readTable_33 lkX1_93 okX1_readFigure imX1_readFigure seX1_readFigure (Nat.le_of_ble_eq_true rfl) rfl rfl rfl rfl (Nat.le_of_ble_eq_true rfl) (Nat.le_of_ble_eq_true rfl) (c_readFigure z _ _ _  F A hC hR) (fun v33 F33 A33 hq33 => ?_)
              obtain ⟨rfl, hC, h40_33, a33, hR, x33, rfl, hE33⟩ := hq33
              have hRa := hR.2.2.1
              have hG : GT F33 A 40 n mm row1 u v q := ⟨hG.1.same h40_33 (fun _ _ _ _ => rfl), hG.2⟩
              refine j_istore (lv' := [(0, .ref 2), (1, .int (nI u)), (2, .int (nI v)), (3, .int (nI i)), (4, .int (nI j)), (5, .int x33)]) dX1_readTable_36 (Nat.le_of_ble_eq_true rfl) rfl rfl ?_
              refine j_iload dX1_readTable_38 rfl ?_
              refine j_if_ge (tgt := 45) dX1_readTable_40 (by decide) (fun c40 => ?_) (fun c40 => ?_)
              · obtain ⟨b, hd33, rfl, ea33⟩ := fg_yes hE33 (Int32.not_lt.mpr c40)
                have hdm := dm_of hij.2 hq
                refine j_aload_n dX1_readTable_45 rfl ?_
                refine j_getR (r := 40) dX1_readTable_46 flX1_15 (Nat.le_of_ble_eq_true rfl) rfl rfl ?_
                refine j_getR (r := 46) dX1_readTable_49 flX1_80 (Nat.le_of_ble_eq_true rfl) rfl rfl ?_
                refine j_iload_n dX1_readTable_52 rfl ?_
                refine j_iload_n dX1_readTable_53 rfl ?_
                refine j_iload_n dX1_readTable_54 rfl ?_
                refine j_iload dX1_readTable_55 rfl ?_
                refine j_callSN (y' := mX5_entryPlace) (As := [.int (nI u), .int (nI v), .int (nI i), .int (nI j)]) (st := [.ref 46]) dX1_readTable_57 lnX1_96 okX5_entryPlace stX5_entryPlace rfl (Nat.le_of_ble_eq_true rfl) (Nat.le_of_ble_eq_true rfl) (c_entryPlace z _ u v i j (by omega) (by omega) (by omega) F33 A) (fun v57 F57 A57 hq57 => ?_)
                obtain ⟨rfl, rfl, e57, rfl, he57⟩ := hq57
                have hl57 : e57 < 448 := by rw [he57]; exact eP_lt (by omega) (by omega) (by omega) (by omega) (by omega)
                refine j_iload dX1_readTable_60 rfl ?_
                refine j_iastN dX1_readTable_62 (Nat.le_of_ble_eq_true rfl) rfl (by omega) (by decide) ?_
                have hC := hC.u (k := 46) rfl e57 (nI b)
                refine j_iinc (v := nI (j + 1)) (lv' := [(0, .ref 2), (1, .int (nI u)), (2, .int (nI v)), (3, .int (nI i)), (4, .int (nI (j + 1))), (5, .int (nI b))]) dX1_readTable_63 rfl (nI_add _ 1) (Nat.le_of_ble_eq_true rfl) rfl rfl ?_
                refine j_goto (tgt := 18) dX1_readTable_66 (by decide) ?_
                refine j_sub [0, 1, 2, 3, 4] rfl ?_
                exact ih18 (j + 1) a33 (q + 1) (f - 1) (upd row1 (eA u v i j) (nI (1 + b))) F33 (mj_u A 46 e57 (nI b)) (by first | exact hC | omega) (by first | exact hR | omega) (by rw [he57]; exact hG.step huv hv hij.1 hij.2 hq b) h44 (by rw [← hspec, show f = f - 1 + 1 by omega, rd_tb_d _ hqlt hd33, hdm.1, hdm.2, ea33]; rfl) (by omega) (by omega) (by omega) (by omega)
              · have hno : rd_tb (cT T) mm u v 17 a 0 row = none := by rw [← hspec, rd_tb_no hqlt (fg_no hE33 (Int32.not_le.mp c40)).1]
                refine j_iconst (v := nI 0) dX1_readTable_43 (by decide +kernel) ?_
                exact j_iret dX1_readTable_44 rfl (by decide +kernel) ⟨hC, _, hR, _, rfl, by omega, h44, Or.inr ⟨rfl, hno⟩⟩
        refine j_iconst (v := nI 0) dX1_readTable_15 (by decide +kernel) ?_
        refine j_istore (lv' := [(0, .ref 2), (1, .int (nI u)), (2, .int (nI v)), (3, .int (nI i)), (4, .int (nI 0))]) dX1_readTable_16 (Nat.le_of_ble_eq_true rfl) rfl rfl ?_
        exact L18 _ 0 a1 q f row1 F A (by first | exact hC | omega) (by first | exact hR | omega) (by first | exact hG | omega) (by first | exact h44 | omega) (by first | exact hspec | omega) (by first | exact hf17 | omega) (Nat.zero_le _) (by omega) (Nat.lt_succ_self _)
  refine j_iconst (v := nI 0) dX1_readTable_0 (by decide +kernel) ?_
  refine j_istore_n (lv' := [(0, .ref 2), (1, .int (nI u)), (2, .int (nI v)), (3, .int (nI 0))]) dX1_readTable_1 (Nat.le_of_ble_eq_true rfl) rfl rfl ?_
  exact L2 _ 0 a 0 17 row F A0 (by first | exact hC | omega) (by first | exact hR | omega) hG rfl rfl rfl (Nat.zero_le _) (by omega) (Nat.lt_succ_self _)

set_option maxHeartbeats 400000 in
set_option maxRecDepth 100000 in
theorem c_readTie (z : mj_B) (d : Nat) (T : Tg) (a : Nat) (n : Nat) (mm : Nat → Nat) (row : Nat → Int32) (F A : mj_S) (hC : CI T F A) (hR : RI T.1 a F) (hG : GR F A 40 n mm row) (hw : wd n mm row) : J (gC z) mX1_readTie (d + 2) 0 [(0, .ref 2)] [] F A (fun v F' A' => CI T F' A' ∧ ∃ a', RI T.1 a' F' ∧ ∃ r, v = some (.int (nI r)) ∧ r ≤ 1 ∧ ((r = 1 ∧ ∃ n' mm' row', rd_tie (cT T) a n mm row = some (a', n', mm', row') ∧ GR F' A' 40 n' mm' row') ∨ (r = 0 ∧ rd_tie (cT T) a n mm row = none))) := by
  have hRa := hR.2.2.1
  have hRl := hR.2.2.2
  have hn8 := hG.1.1.2
  refine j_aload_n dX1_readTie_0 rfl ?_
  refine j_callV (y' := mX1_readNumber) (As := []) (st := []) dX1_readTie_1 lkX1_51 okX1_readNumber imX1_readNumber seX1_readNumber (Nat.le_of_ble_eq_true rfl) rfl rfl rfl rfl (Nat.le_of_ble_eq_true rfl) (Nat.le_of_ble_eq_true rfl) (c_readNumber z _ _ _  F A hC hR) (fun v1 F1 A1 hq1 => ?_)
  obtain ⟨rfl, hC, h40_1, a1, hR, x1, rfl, hE1⟩ := hq1
  have hRa := hR.2.2.1
  have hG := hG.off (F' := F1) (A' := A) h40_1 (fun _ _ _ => rfl)
  refine j_istore_n (lv' := [(0, .ref 2), (1, .int x1)]) dX1_readTie_4 (Nat.le_of_ble_eq_true rfl) rfl rfl ?_
  refine j_iload_n dX1_readTie_5 rfl ?_
  refine j_if_lt (tgt := 18) dX1_readTie_6 (by decide) (fun c6 => ?_) (fun c6 => ?_)
  · have hno : rd_tie (cT T) a n mm row = none := rd_tie_n (nm_no hE1 c6)
    refine j_iconst (v := nI 0) dX1_readTie_18 (by decide +kernel) ?_
    exact j_iret dX1_readTie_19 rfl (by decide +kernel) ⟨hC, _, hR, _, rfl, by omega, Or.inr ⟨rfl, hno⟩⟩
  · obtain ⟨u, hn1, rfl⟩ := nm_yes hE1 c6
    have hu99 := (rd_n_some hn1).1
    refine j_aload_n dX1_readTie_9 rfl ?_
    refine j_bipush (v := nI 44) dX1_readTie_10 (by decide +kernel) ?_
    refine j_callV (y' := mX1_takes) (As := [.int (nI 44)]) (st := []) dX1_readTie_12 lkX1_41 okX1_takes imX1_takes seX1_takes (Nat.le_of_ble_eq_true rfl) rfl rfl rfl rfl (Nat.le_of_ble_eq_true rfl) (Nat.le_of_ble_eq_true rfl) (c_takes z _ _ _ 44 (by decide) (by decide) F1 A hC hR) (fun v12 F12 A12 hq12 => ?_)
    obtain ⟨rfl, hC, h40_12, a12, hR, r12, rfl, hT12⟩ := hq12
    have hRa := hR.2.2.1
    have hb12 : r12 ≤ 1 := by omega
    have hG := hG.off (F' := F12) (A' := A) h40_12 (fun _ _ _ => rfl)
    refine j_if_neN (tgt := 20) dX1_readTie_15 (by decide) (by omega) (fun c15 => ?_) (fun c15 => ?_)
    · obtain ⟨-, hc12, ea12⟩ := hT12.resolve_right (fun h => by omega)
      refine j_aload_n dX1_readTie_20 rfl ?_
      refine j_callV (y' := mX1_readNumber) (As := []) (st := []) dX1_readTie_21 lkX1_51 okX1_readNumber imX1_readNumber seX1_readNumber (Nat.le_of_ble_eq_true rfl) rfl rfl rfl rfl (Nat.le_of_ble_eq_true rfl) (Nat.le_of_ble_eq_true rfl) (c_readNumber z _ _ _  F12 A hC hR) (fun v21 F21 A21 hq21 => ?_)
      obtain ⟨rfl, hC, h40_21, a21, hR, x21, rfl, hE21⟩ := hq21
      have hRa := hR.2.2.1
      have hG := hG.off (F' := F21) (A' := A) h40_21 (fun _ _ _ => rfl)
      rw [ea12] at hE21
      refine j_istore_n (lv' := [(0, .ref 2), (1, .int (nI u)), (2, .int x21)]) dX1_readTie_24 (Nat.le_of_ble_eq_true rfl) rfl rfl ?_
      refine j_iload_n dX1_readTie_25 rfl ?_
      refine j_iload_n dX1_readTie_26 rfl ?_
      refine j_icmp_le (tgt := 50) dX1_readTie_27 (by decide) (fun c27 => ?_) (fun c27 => ?_)
      · have hno : rd_tie (cT T) a n mm row = none := tie_le hn1 hE21 c27
        refine j_iconst (v := nI 0) dX1_readTie_50 (by decide +kernel) ?_
        exact j_iret dX1_readTie_51 rfl (by decide +kernel) ⟨hC, _, hR, _, rfl, by omega, Or.inr ⟨rfl, hno⟩⟩
      · obtain ⟨v, hn21, rfl⟩ := nm_yes hE21 (gt_nn (by omega) c27)
        have hv99 := (rd_n_some hn21).1
        have huv : u < v := Nat.not_le.mp (fun h => c27 (nI_le h (by omega)))
        refine j_iload_n dX1_readTie_30 rfl ?_
        refine j_aload_n dX1_readTie_31 rfl ?_
        refine j_getR (r := 40) dX1_readTie_32 flX1_15 (Nat.le_of_ble_eq_true rfl) rfl rfl ?_
        refine j_getI dX1_readTie_35 flX1_32 (Nat.le_of_ble_eq_true rfl) rfl rfl ?_
        refine j_top (y0 := nI n) hG.1.1.1 ?_
        refine j_icmp_geN (tgt := 50) dX1_readTie_38 (by decide) (by omega) (by omega) (fun c38 => ?_) (fun c38 => ?_)
        · have hno : rd_tie (cT T) a n mm row = none := rd_tie_no hn1 hn21 (fun q => absurd q.2.2.1 (by omega))
          refine j_iconst (v := nI 0) dX1_readTie_50 (by decide +kernel) ?_
          exact j_iret dX1_readTie_51 rfl (by decide +kernel) ⟨hC, _, hR, _, rfl, by omega, Or.inr ⟨rfl, hno⟩⟩
        · have hvn : v < n := by omega
          have bu := hw.1.1.2 u (by omega)
          have bv := hw.1.1.2 v hvn
          refine j_aload_n dX1_readTie_41 rfl ?_
          refine j_bipush (v := nI 44) dX1_readTie_42 (by decide +kernel) ?_
          refine j_callV (y' := mX1_takes) (As := [.int (nI 44)]) (st := []) dX1_readTie_44 lkX1_41 okX1_takes imX1_takes seX1_takes (Nat.le_of_ble_eq_true rfl) rfl rfl rfl rfl (Nat.le_of_ble_eq_true rfl) (Nat.le_of_ble_eq_true rfl) (c_takes z _ _ _ 44 (by decide) (by decide) F21 A hC hR) (fun v44 F44 A44 hq44 => ?_)
          obtain ⟨rfl, hC, h40_44, a44, hR, r44, rfl, hT44⟩ := hq44
          have hRa := hR.2.2.1
          have hb44 : r44 ≤ 1 := by omega
          have hG := hG.off (F' := F44) (A' := A) h40_44 (fun _ _ _ => rfl)
          refine j_if_neN (tgt := 52) dX1_readTie_47 (by decide) (by omega) (fun c47 => ?_) (fun c47 => ?_)
          · obtain ⟨-, hc44, ea44⟩ := hT44.resolve_right (fun h => by omega)
            refine j_aload_n dX1_readTie_52 rfl ?_
            refine j_getR (r := 40) dX1_readTie_53 flX1_15 (Nat.le_of_ble_eq_true rfl) rfl rfl ?_
            refine j_iload_n dX1_readTie_56 rfl ?_
            refine j_iload_n dX1_readTie_57 rfl ?_
            refine j_callV (y' := mX0_areTied) (As := [.int (nI u), .int (nI v)]) (st := []) dX1_readTie_58 lkX1_70 okX0_areTied imX0_areTied seX0_areTied (Nat.le_of_ble_eq_true rfl) rfl rfl rfl rfl (Nat.le_of_ble_eq_true rfl) (Nat.le_of_ble_eq_true rfl) (c_areTiedX40 z _ n u v row (by omega) (by omega) (by omega) F44 A hG.2.1) (fun v58 F58 A58 hq58 => ?_)
            obtain ⟨rfl, rfl, r58, rfl, hr58⟩ := hq58
            have hb58 := tdd_le row u v
            refine j_if_neN (tgt := 76) dX1_readTie_61 (by decide) (by omega) (fun c61 => ?_) (fun c61 => ?_)
            · have hno : rd_tie (cT T) a n mm row = none := rd_tie_no hn1 hn21 (fun q => absurd (tdd_0 q.2.2.2.1) (by omega))
              refine j_iconst (v := nI 0) dX1_readTie_76 (by decide +kernel) ?_
              exact j_iret dX1_readTie_77 rfl (by decide +kernel) ⟨hC, _, hR, _, rfl, by omega, Or.inr ⟨rfl, hno⟩⟩
            · have ht0 : tdd row u v = 0 := by omega
              have htn : ¬ 0 < row (eA u v 0 0) := fun q => by have := tdd_1 (by omega) q; omega
              refine j_aload_n dX1_readTie_64 rfl ?_
              refine j_getR (r := 40) dX1_readTie_65 flX1_15 (Nat.le_of_ble_eq_true rfl) rfl rfl ?_
              refine j_callV (y' := mX0_tieCount) (As := []) (st := []) dX1_readTie_68 lkX1_74 okX0_tieCount imX0_tieCount seX0_tieCount (Nat.le_of_ble_eq_true rfl) rfl rfl rfl rfl (Nat.le_of_ble_eq_true rfl) (Nat.le_of_ble_eq_true rfl) (c_tieCountX40 z _ n mm row F44 A hG hw.1) (fun v68 F68 A68 hq68 => ?_)
              obtain ⟨rfl, rfl, r68, rfl, hr68⟩ := hq68
              have hb68 := hw.1.2.2.2.2
              refine j_bipush (v := nI 12) dX1_readTie_71 (by decide +kernel) ?_
              refine j_icmp_ltN (tgt := 78) dX1_readTie_73 (by decide) (by omega) (by omega) (fun c73 => ?_) (fun c73 => ?_)
              · have hres := rd_tie_eq (mm := mm) (row := row) (n := n) hn1 hc12 hn21 ⟨hc44, huv, hvn, htn, by omega⟩
                rw [← ea44] at hres
                refine j_aload_n dX1_readTie_78 rfl ?_
                refine j_getR (r := 40) dX1_readTie_79 flX1_15 (Nat.le_of_ble_eq_true rfl) rfl rfl ?_
                refine j_getR (r := 44) dX1_readTie_82 flX1_77 (Nat.le_of_ble_eq_true rfl) rfl rfl ?_
                refine j_aload_n dX1_readTie_85 rfl ?_
                refine j_getR (r := 40) dX1_readTie_86 flX1_15 (Nat.le_of_ble_eq_true rfl) rfl rfl ?_
                refine j_getR (r := 46) dX1_readTie_89 flX1_80 (Nat.le_of_ble_eq_true rfl) rfl rfl ?_
                refine j_iload_n dX1_readTie_92 rfl ?_
                refine j_iload_n dX1_readTie_93 rfl ?_
                refine j_callSN (y' := mX5_joinByNoughts) (As := [.ref 44, .ref 46, .int (nI u), .int (nI v)]) (st := []) dX1_readTie_94 lnX1_83 okX5_joinByNoughts stX5_joinByNoughts rfl (Nat.le_of_ble_eq_true rfl) (Nat.le_of_ble_eq_true rfl) (c_joinByNoughts z _ 44 46 u v (by omega) (by omega) (by omega) (Nat.le_of_ble_eq_true rfl) rfl (Nat.le_of_ble_eq_true rfl) rfl (by decide) F44 A) (fun v94 F94 A94 hq94 => ?_)
                obtain ⟨rfl, rfl, hj44, hj46, hjf⟩ := hq94
                have hC := hC.ab (a := 44) (b := 46) rfl rfl hjf
                have hGT : GT F44 A94 40 n mm row u v 0 := hG.join huv hvn hj46 (fun i g1 g2 g3 => hjf _ (by omega) (by omega))
                have hmat := hG.join2 (A' := A94) huv hvn ht0 hj44
                refine j_aload_n dX1_readTie_97 rfl ?_
                refine j_iload_n dX1_readTie_98 rfl ?_
                refine j_iload_n dX1_readTie_99 rfl ?_
                refine j_callV (y' := mX1_readTable) (As := [.int (nI u), .int (nI v)]) (st := []) dX1_readTie_100 lkX1_87 okX1_readTable imX1_readTable seX1_readTable (Nat.le_of_ble_eq_true rfl) rfl rfl rfl rfl (Nat.le_of_ble_eq_true rfl) (Nat.le_of_ble_eq_true rfl) (c_readTable z _ _ _ n mm row u v huv hvn (Nat.mul_le_mul bu.2 bv.2) F44 A94 hC hR hGT) (fun v100 F100 A100 hq100 => ?_)
                obtain ⟨hC, a100, hR, r100, rfl, hb100, he44, hE100⟩ := hq100
                have hRa := hR.2.2.1
                refine j_if_eqN (tgt := 119) dX1_readTie_103 (by decide) (by omega) (fun c103 => ?_) (fun c103 => ?_)
                · have hno : rd_tie (cT T) a n mm row = none := by rw [hres, (hE100.resolve_left (fun h => by omega)).2]; rfl
                  refine j_iconst (v := nI 0) dX1_readTie_119 (by decide +kernel) ?_
                  exact j_iret dX1_readTie_120 rfl (by decide +kernel) ⟨hC, _, hR, _, rfl, by omega, Or.inr ⟨rfl, hno⟩⟩
                · obtain ⟨-, row1, f1, hf1, hG1, hsp⟩ := hE100.resolve_right (fun h => by omega)
                  refine j_aload_n dX1_readTie_106 rfl ?_
                  refine j_bipush (v := nI 59) dX1_readTie_107 (by decide +kernel) ?_
                  refine j_callV (y' := mX1_takes) (As := [.int (nI 59)]) (st := []) dX1_readTie_109 lkX1_41 okX1_takes imX1_takes seX1_takes (Nat.le_of_ble_eq_true rfl) rfl rfl rfl rfl (Nat.le_of_ble_eq_true rfl) (Nat.le_of_ble_eq_true rfl) (c_takes z _ _ _ 59 (by decide) (by decide) F100 A100 hC hR) (fun v109 F109 A109 hq109 => ?_)
                  obtain ⟨rfl, hC, h40_109, a109, hR, r109, rfl, hT109⟩ := hq109
                  have hRa := hR.2.2.1
                  have hb109 : r109 ≤ 1 := by omega
                  refine j_if_eqN (tgt := 119) dX1_readTie_112 (by decide) (by omega) (fun c112 => ?_) (fun c112 => ?_)
                  · have hno : rd_tie (cT T) a n mm row = none := by rw [hres, ← hsp, rd_tb_x (Nat.lt_irrefl _) (hT109.resolve_left (fun h => by omega)).2.1]; rfl
                    refine j_iconst (v := nI 0) dX1_readTie_119 (by decide +kernel) ?_
                    exact j_iret dX1_readTie_120 rfl (by decide +kernel) ⟨hC, _, hR, _, rfl, by omega, Or.inr ⟨rfl, hno⟩⟩
                  · obtain ⟨-, hc109, ea109⟩ := hT109.resolve_right (fun h => by omega)
                    have htb : rd_tb (cT T) mm u v 17 a44 0 row = some (a109, row1) := by
                      obtain ⟨f2, rfl⟩ : ∃ f2, f1 = f2 + 1 := ⟨f1 - 1, by omega⟩
                      rw [← hsp, rd_tb_e f2 (Nat.lt_irrefl _) hc109, ea109]
                    have hsome : rd_tie (cT T) a n mm row = some (a109, n, mm, row1) := by rw [hres, htb]; rfl
                    obtain ⟨-, ht2, ht3⟩ := rd_tb_row huv (by omega) bu.2 bv.2 bu.1 bv.1 htb
                    have hGn : GR F109 A100 40 n mm row1 := by
                      obtain ⟨b, hb, eb⟩ := ht2 0 0 (by omega) (by omega)
                      exact GT.fin (row0 := row) ⟨hG1.1.same h40_109 (fun _ _ _ _ => rfl), hG1.2⟩ huv hvn (by rw [eb, ← nI_0]; exact nI_lt (by omega) (by omega)) ht0 (fun u' v' g1 g2 g3 => ht3 u' v' g1 g2 g3 0 0 (by omega) (by omega)) (fun w hw => by have := hmat w hw; rw [show A100 (40 + 4) = A94 (40 + 4) from he44]; exact this)
                    refine j_iconst (v := nI 1) dX1_readTie_115 (by decide +kernel) ?_
                    refine j_goto (tgt := 120) dX1_readTie_116 (by decide) ?_
                    exact j_iret dX1_readTie_120 rfl (by decide +kernel) ⟨hC, _, hR, _, rfl, by omega, Or.inl ⟨rfl, _, _, _, hsome, hGn⟩⟩
              · have hno : rd_tie (cT T) a n mm row = none := rd_tie_no hn1 hn21 (fun q => q.2.2.2.2 (by omega))
                refine j_iconst (v := nI 0) dX1_readTie_76 (by decide +kernel) ?_
                exact j_iret dX1_readTie_77 rfl (by decide +kernel) ⟨hC, _, hR, _, rfl, by omega, Or.inr ⟨rfl, hno⟩⟩
          · have hno : rd_tie (cT T) a n mm row = none := rd_tie_no hn1 hn21 (fun q => (hT44.resolve_left (fun h => by omega)).2.1 q.1)
            refine j_iconst (v := nI 0) dX1_readTie_50 (by decide +kernel) ?_
            exact j_iret dX1_readTie_51 rfl (by decide +kernel) ⟨hC, _, hR, _, rfl, by omega, Or.inr ⟨rfl, hno⟩⟩
    · have hno : rd_tie (cT T) a n mm row = none := rd_tie_c hn1 (hT12.resolve_left (fun h => by omega)).2.1
      refine j_iconst (v := nI 0) dX1_readTie_18 (by decide +kernel) ?_
      exact j_iret dX1_readTie_19 rfl (by decide +kernel) ⟨hC, _, hR, _, rfl, by omega, Or.inr ⟨rfl, hno⟩⟩

set_option maxHeartbeats 400000 in
set_option maxRecDepth 100000 in
theorem c_readItem (z : mj_B) (d : Nat) (T : Tg) (a : Nat) (n : Nat) (mm : Nat → Nat) (row : Nat → Int32) (F A : mj_S) (hC : CI T F A) (hR : RI T.1 a F) (hG : GR F A 40 n mm row) (hw : wd n mm row) : J (gC z) mX1_readItem (d + 3) 0 [(0, .ref 2)] [] F A (fun v F' A' => CI T F' A' ∧ ∃ a', RI T.1 a' F' ∧ ∃ r, v = some (.int (nI r)) ∧ r ≤ 1 ∧ ((r = 1 ∧ ∃ n' mm' row', rd_item (cT T) a n mm row = some (a', n', mm', row') ∧ GR F' A' 40 n' mm' row') ∨ (r = 0 ∧ rd_item (cT T) a n mm row = none))) := by
  have hRa := hR.2.2.1
  have hRl := hR.2.2.2
  refine j_aload_n dX1_readItem_0 rfl ?_
  refine j_bipush (v := nI 110) dX1_readItem_1 (by decide +kernel) ?_
  refine j_callV (y' := mX1_takes) (As := [.int (nI 110)]) (st := []) dX1_readItem_3 lkX1_41 okX1_takes imX1_takes seX1_takes (Nat.le_of_ble_eq_true rfl) rfl rfl rfl rfl (Nat.le_of_ble_eq_true rfl) (Nat.le_of_ble_eq_true rfl) (c_takes z _ _ _ 110 (by decide) (by decide) F A hC hR) (fun v3 F3 A3 hq3 => ?_)
  obtain ⟨rfl, hC, h40_3, a3, hR, r3, rfl, hT3⟩ := hq3
  have hRa := hR.2.2.1
  have hb3 : r3 ≤ 1 := by omega
  have hG := hG.off (F' := F3) (A' := A) h40_3 (fun _ _ _ => rfl)
  refine j_if_eqN (tgt := 14) dX1_readItem_6 (by decide) (by omega) (fun c6 => ?_) (fun c6 => ?_)
  · obtain ⟨-, hc3, ea3⟩ := hT3.resolve_left (fun h => by omega)
    refine j_aload_n dX1_readItem_14 rfl ?_
    refine j_bipush (v := nI 101) dX1_readItem_15 (by decide +kernel) ?_
    refine j_callV (y' := mX1_takes) (As := [.int (nI 101)]) (st := []) dX1_readItem_17 lkX1_41 okX1_takes imX1_takes seX1_takes (Nat.le_of_ble_eq_true rfl) rfl rfl rfl rfl (Nat.le_of_ble_eq_true rfl) (Nat.le_of_ble_eq_true rfl) (c_takes z _ _ _ 101 (by decide) (by decide) F3 A hC hR) (fun v17 F17 A17 hq17 => ?_)
    obtain ⟨rfl, hC, h40_17, a17, hR, r17, rfl, hT17⟩ := hq17
    have hRa := hR.2.2.1
    have hb17 : r17 ≤ 1 := by omega
    have hG := hG.off (F' := F17) (A' := A) h40_17 (fun _ _ _ => rfl)
    rw [ea3] at hT17
    refine j_if_eqN (tgt := 34) dX1_readItem_20 (by decide) (by omega) (fun c20 => ?_) (fun c20 => ?_)
    · have hno : rd_item (cT T) a n mm row = none := rd_item_no hc3 (hT17.resolve_left (fun h => by omega)).2.1
      refine j_iconst (v := nI 0) dX1_readItem_34 (by decide +kernel) ?_
      exact j_iret dX1_readItem_35 rfl (by decide +kernel) ⟨hC, _, hR, _, rfl, by omega, Or.inr ⟨rfl, hno⟩⟩
    · obtain ⟨-, hc17, ea17⟩ := hT17.resolve_right (fun h => by omega)
      refine j_aload_n dX1_readItem_23 rfl ?_
      refine j_callV (y' := mX1_readTie) (As := []) (st := []) dX1_readItem_24 lkX1_48 okX1_readTie imX1_readTie seX1_readTie (Nat.le_of_ble_eq_true rfl) rfl rfl rfl rfl (Nat.le_of_ble_eq_true rfl) (Nat.le_of_ble_eq_true rfl) (c_readTie z _ _ _ n mm row F17 A hC hR hG hw) (fun v24 F24 A24 hq24 => ?_)
      obtain ⟨hC, a24, hR, r24, rfl, hb24, hE24⟩ := hq24
      rw [ea17, ← rd_item_e hc17] at hE24
      refine j_if_eqN (tgt := 34) dX1_readItem_27 (by decide) (by omega) (fun c27 => ?_) (fun c27 => ?_)
      · have hno : rd_item (cT T) a n mm row = none := (hE24.resolve_left (fun h => by omega)).2
        refine j_iconst (v := nI 0) dX1_readItem_34 (by decide +kernel) ?_
        exact j_iret dX1_readItem_35 rfl (by decide +kernel) ⟨hC, _, hR, _, rfl, by omega, Or.inr ⟨rfl, hno⟩⟩
      · refine j_iconst (v := nI 1) dX1_readItem_30 (by decide +kernel) ?_
        refine j_goto (tgt := 35) dX1_readItem_31 (by decide) ?_
        exact j_iret dX1_readItem_35 rfl (by decide +kernel) ⟨hC, _, hR, _, rfl, by omega, Or.inl ⟨rfl, (hE24.resolve_right (fun h => by omega)).2⟩⟩
  · obtain ⟨-, hc3, ea3⟩ := hT3.resolve_right (fun h => by omega)
    refine j_aload_n dX1_readItem_9 rfl ?_
    refine j_callV (y' := mX1_readNode) (As := []) (st := []) dX1_readItem_10 lkX1_45 okX1_readNode imX1_readNode seX1_readNode (Nat.le_of_ble_eq_true rfl) rfl rfl rfl rfl (Nat.le_of_ble_eq_true rfl) (Nat.le_of_ble_eq_true rfl) (c_readNode z _ _ _ n mm row F3 A hC hR hG hw) (fun v10 F10 A10 hq10 => ?_)
    obtain ⟨hC, a10, hR, r10, rfl, hb10, hE10⟩ := hq10
    rw [ea3, ← rd_item_n hc3] at hE10
    exact j_iret dX1_readItem_13 rfl (mj_nz (by omega)) ⟨hC, _, hR, _, rfl, hb10, hE10⟩

set_option maxHeartbeats 400000 in
set_option maxRecDepth 100000 in
theorem c_read (z : mj_B) (d : Nat) (T : Tg) (F A : mj_S) (hC : CI T F A) : J (gC z) mX1_read (d + 4) 0 [(0, .ref 2), (1, .int (nI T.1))] [] F A (fun v F' A' => ∃ x, v = some (.int x) ∧ CI T F' A' ∧ ((∃ b, rd_text (cT T) T.1 = .inl b ∧ x = nI b ∧ b ≤ 200) ∨ (x = (-4) ∧ ∃ n mm row, rd_text (cT T) T.1 = .inr (n, mm, row) ∧ GR F' A' 40 n mm row ∧ wd n mm row))) := by
  have hT := hC.1.2.1
  have L28 : ∀ (fuel : Nat) (k : Nat) (a : Nat) (n : Nat) (mm : Nat → Nat) (row : Nat → Int32) (f : Nat) (F A : mj_S), (CI T F A) → (RI T.1 a F) → (GR F A 40 n mm row) → (wd n mm row) → (k ≤ a ∧ a ≤ T.1 ∧ T.1 < a + f ∧ k ≤ 200) → (rd_all (cT T) T.1 f a n mm row = rd_text (cT T) T.1) → 200 - k < fuel → J (gC z) mX1_read (d + 4) 28 [(0, .ref 2), (2, .int (nI k))] [] F A (fun v F' A' => ∃ x, v = some (.int x) ∧ CI T F' A' ∧ ((∃ b, rd_text (cT T) T.1 = .inl b ∧ x = nI b ∧ b ≤ 200) ∨ (x = (-4) ∧ ∃ n mm row, rd_text (cT T) T.1 = .inr (n, mm, row) ∧ GR F' A' 40 n mm row ∧ wd n mm row))) := by
    intro fuel
    induction fuel with
    | zero => intro k a n mm row f F A hC hR hG hw h1 hspec hf; exact absurd hf (by omega)
    | succ fuel ih28 =>
      intro k a n mm row f F A hC hR hG hw h1 hspec hf
      have hRl := hR.2.2.2
      obtain ⟨f, rfl⟩ : ∃ f1, f = f1 + 1 := ⟨f - 1, by omega⟩
      refine j_iload_n dX1_read_28 rfl ?_
      refine j_sipush (v := nI 200) dX1_read_29 (by decide +kernel) ?_
      refine j_icmp_geN (tgt := 66) dX1_read_32 (by decide) (by omega) (by omega) (fun c32 => ?_) (fun c32 => ?_)
      · have hfin : rd_text (cT T) T.1 = .inr (n, mm, row) := by rw [← hspec, rd_all_end f (by omega)]
        refine j_bipush (v := (-4)) dX1_read_66 (by decide +kernel) ?_
        exact j_iret dX1_read_68 rfl rfl ⟨_, rfl, hC, Or.inr ⟨rfl, n, mm, row, hfin, hG, hw⟩⟩
      · refine j_aload_n dX1_read_35 rfl ?_
        refine j_getI dX1_read_36 flX1_29 (Nat.le_of_ble_eq_true rfl) rfl rfl ?_
        refine j_top (y0 := nI a) hR.2.1 ?_
        refine j_aload_n dX1_read_39 rfl ?_
        refine j_getI dX1_read_40 flX1_25 (Nat.le_of_ble_eq_true rfl) rfl rfl ?_
        refine j_top (y0 := nI (T.1)) hR.1 ?_
        refine j_icmp_geN (tgt := 66) dX1_read_43 (by decide) (by omega) (by omega) (fun c43 => ?_) (fun c43 => ?_)
        · have hfin : rd_text (cT T) T.1 = .inr (n, mm, row) := by rw [← hspec, rd_all_end f (by omega)]
          refine j_bipush (v := (-4)) dX1_read_66 (by decide +kernel) ?_
          exact j_iret dX1_read_68 rfl rfl ⟨_, rfl, hC, Or.inr ⟨rfl, n, mm, row, hfin, hG, hw⟩⟩
        · refine j_aload_n dX1_read_46 rfl ?_
          refine j_getI dX1_read_47 flX1_29 (Nat.le_of_ble_eq_true rfl) rfl rfl ?_
          refine j_top (y0 := nI a) hR.2.1 ?_
          refine j_istore_n (lv' := [(0, .ref 2), (2, .int (nI k)), (3, .int (nI a))]) dX1_read_50 (Nat.le_of_ble_eq_true rfl) rfl rfl ?_
          refine j_aload_n dX1_read_51 rfl ?_
          refine j_callV (y' := mX1_readItem) (As := []) (st := []) dX1_read_52 lkX1_37 okX1_readItem imX1_readItem seX1_readItem (Nat.le_of_ble_eq_true rfl) rfl rfl rfl rfl (Nat.le_of_ble_eq_true rfl) (Nat.le_of_ble_eq_true rfl) (c_readItem z _ _ _ n mm row F A hC hR hG hw) (fun v52 F52 A52 hq52 => ?_)
          obtain ⟨hC, a52, hR, r52, rfl, hb52, hE52⟩ := hq52
          refine j_if_neN (tgt := 60) dX1_read_55 (by decide) (by omega) (fun c55 => ?_) (fun c55 => ?_)
          · obtain ⟨-, n2, mm2, row2, hi2, hG2⟩ := hE52.resolve_right (fun h => by omega)
            obtain ⟨hw2, hlt, -⟩ := rd_item_wd hi2 hw
            have hlt : a < a52 := hlt
            have hRa := hR.2.2.1
            refine j_iinc (v := nI (k + 1)) (lv' := [(0, .ref 2), (2, .int (nI (k + 1))), (3, .int (nI a))]) dX1_read_60 rfl (nI_add _ 1) (Nat.le_of_ble_eq_true rfl) rfl rfl ?_
            refine j_goto (tgt := 28) dX1_read_63 (by decide) ?_
            refine j_sub [0, 1] rfl ?_
            exact ih28 (k + 1) a52 n2 mm2 row2 f F52 A52 (by first | exact hC | omega) (by first | exact hR | omega) hG2 hw2 (by omega) (by rw [← hspec, rd_all_s f (by omega) hi2]) (by omega)
          · have hfin : rd_text (cT T) T.1 = .inl a := by rw [← hspec, rd_all_no f (by omega) (hE52.resolve_left (fun h => by omega)).2]
            refine j_iload_n dX1_read_58 rfl ?_
            exact j_iret dX1_read_59 rfl rfl ⟨_, rfl, hC, Or.inl ⟨a, hfin, rfl, by omega⟩⟩
  refine j_aload_n dX1_read_0 rfl ?_
  refine j_iload_n dX1_read_1 rfl ?_
  refine j_aload_n dX1_read_2 rfl ?_
  refine j_getR (r := 1) dX1_read_3 flX1_9 (Nat.le_of_ble_eq_true rfl) rfl rfl ?_
  refine j_alen (v := nI 200) dX1_read_6 (Nat.le_of_ble_eq_true rfl) rfl (by decide) rfl ?_
  refine j_min dX1_read_7 lkX1_19 mn_st mn_in mn_co (Nat.le_of_ble_eq_true rfl) ?_
  refine j_top (y0 := nI (T.1)) (min_T hC.1.2.1) ?_
  refine j_putI dX1_read_10 fpX1_25 (Nat.le_of_ble_eq_true rfl) rfl rfl ?_
  have hC := hC.f (k := 2) (s := 2) rfl (nI T.1)
  refine j_aload_n dX1_read_13 rfl ?_
  refine j_iconst (v := nI 0) dX1_read_14 (by decide +kernel) ?_
  refine j_putI dX1_read_15 fpX1_29 (Nat.le_of_ble_eq_true rfl) rfl rfl ?_
  have hC := hC.f (k := 2) (s := 3) rfl (nI 0)
  refine j_aload_n dX1_read_18 rfl ?_
  refine j_getR (r := 40) dX1_read_19 flX1_15 (Nat.le_of_ble_eq_true rfl) rfl rfl ?_
  refine j_iconst (v := nI 0) dX1_read_22 (by decide +kernel) ?_
  refine j_putI dX1_read_23 fpX1_32 (Nat.le_of_ble_eq_true rfl) rfl rfl ?_
  have hC := hC.nd n40 (n := 0) (by omega)
  have hR : RI T.1 0 (mj_u (mj_u (mj_u F 2 2 (nI T.1)) 2 3 (nI 0)) 40 0 (nI 0)) := ⟨rfl, rfl, by omega, hC.1.2.1⟩
  have hG : GR (mj_u (mj_u (mj_u F 2 2 (nI T.1)) 2 3 (nI 0)) 40 0 (nI 0)) A 40 0 (fun _ => 0) (fun _ => 0) := ⟨⟨⟨rfl, by omega⟩, fun u hu => absurd hu (by omega)⟩, fun u hu => absurd hu (by omega), fun u v i j _ hv => absurd hv (by omega)⟩
  refine j_iconst (v := nI 0) dX1_read_26 (by decide +kernel) ?_
  refine j_istore_n (lv' := [(0, .ref 2), (1, .int (nI (T.1))), (2, .int (nI 0))]) dX1_read_27 (Nat.le_of_ble_eq_true rfl) rfl rfl ?_
  refine j_sub [0, 2] rfl ?_
  exact L28 _ 0 0 0 (fun _ => 0) (fun _ => 0) 201 (mj_u (mj_u (mj_u F 2 2 (nI (T.1))) 2 3 (nI 0)) 40 0 (nI 0)) A (by first | exact hC | omega) (by first | exact hR | omega) (by first | exact hG | omega) wd0 (by omega) rfl (Nat.lt_succ_self _)
