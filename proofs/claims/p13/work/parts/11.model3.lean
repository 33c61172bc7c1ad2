/-! the reference: nodes, costs, acts -/
/-- the reference's state, its bounds alone -/
def MK (T : Nat) (n : Nat) (mm : Nat → Nat) (rn : Nat) (rm : Nat → Nat) (un kn : Nat) (F A : mj_S) : Prop :=
  (F 0 0 = nI T ∧ T ≤ 200 ∧ True) ∧ (F 0 2 = nI n ∧ n ≤ 8 ∧ (∀ j, j < 8 → A 2 j = nI (mm j)) ∧ (∀ j, mm j ≤ 4) ∧ ∀ j, j < n → 1 ≤ mm j) ∧
  (F 0 4 = nI rn ∧ rn ≤ 8 ∧ (∀ j, j < 8 → A 3 j = nI (rm j)) ∧ (∀ j, rm j ≤ 4) ∧ ∀ j, j < rn → 1 ≤ rm j) ∧ (F 0 9 = nI un ∧ un ≤ 8) ∧ (F 0 11 = nI kn ∧ kn ≤ 2) ∧ rg (A 14) 8 3 ∧ rg (A 16) 8 15 ∧ rg (A 10) 8 255 ∧ rg (A 11) 8 7 ∧ rg (A 13) 8 255
theorem MI.k {L : Lg} {n : Nat} {mm : Nat → Nat} {rn : Nat} {rm : Nat → Nat} {un kn : Nat} {F A : mj_S} (h : MI L n mm rn rm un kn F A) : MK L.1 n mm rn rm un kn F A := ⟨⟨h.1.1, h.1.2.1, trivial⟩, h.2⟩
theorem MK.i {T : Nat} {n : Nat} {mm : Nat → Nat} {rn : Nat} {rm : Nat → Nat} {un kn : Nat} {F A : mj_S} (h : MK T n mm rn rm un kn F A) : MI (T, A) n mm rn rm un kn F A := ⟨⟨h.1.1, h.1.2.1, rfl, rfl, rfl, rfl, rfl⟩, h.2⟩
theorem MK.un' {T : Nat} {n : Nat} {mm : Nat → Nat} {rn : Nat} {rm : Nat → Nat} {un kn : Nat} {F A : mj_S} (h : MK T n mm rn rm un kn F A) {u : Nat} (hu : u ≤ 8) : MK T n mm rn rm u kn (mj_u F 0 9 (nI u)) A := ⟨h.1, h.2.1, h.2.2.1, ⟨rfl, hu⟩, h.2.2.2.2⟩
theorem MK.kn' {T : Nat} {n : Nat} {mm : Nat → Nat} {rn : Nat} {rm : Nat → Nat} {un kn : Nat} {F A : mj_S} (h : MK T n mm rn rm un kn F A) {u : Nat} (hu : u ≤ 2) : MK T n mm rn rm un u (mj_u F 0 11 (nI u)) A := ⟨h.1, h.2.1, h.2.2.1, h.2.2.2.1, ⟨rfl, hu⟩, h.2.2.2.2.2⟩
/-- the state after an act -/
def MSo (T n : Nat) (mm : Nat → Nat) (rn : Nat) (rm : Nat → Nat) (un kn : Nat) (A F' A' : mj_S) : Option (Nat → Int32) → Prop
  | none => MI (T, A') n mm rn rm un kn F' A' ∧ A' 5 = A 5 ∧ A' 6 = A 6
  | some row' => MI (T, A') n mm rn rm (pushN un) kn F' A' ∧ (∀ j, j < 500 → A' 5 j = row' j) ∧ ∀ k j, k < pushN un → j < 500 → A' 6 (500 * k + j) = pushP un (rwK (A 6)) (A 5) k j
theorem MI.un' {L : Lg} {n : Nat} {mm : Nat → Nat} {rn : Nat} {rm : Nat → Nat} {un kn : Nat} {F A : mj_S} (h : MI L n mm rn rm un kn F A) {u : Nat} (hu : u ≤ 8) : MI L n mm rn rm u kn (mj_u F 0 9 (nI u)) A := ⟨h.1, h.2.1, h.2.2.1, ⟨rfl, hu⟩, h.2.2.2.2⟩
theorem MI.kn' {L : Lg} {n : Nat} {mm : Nat → Nat} {rn : Nat} {rm : Nat → Nat} {un kn : Nat} {F A : mj_S} (h : MI L n mm rn rm un kn F A) {u : Nat} (hu : u ≤ 2) : MI L n mm rn rm un u (mj_u F 0 11 (nI u)) A := ⟨h.1, h.2.1, h.2.2.1, h.2.2.2.1, ⟨rfl, hu⟩, h.2.2.2.2.2⟩

set_option maxHeartbeats 400000 in
set_option maxRecDepth 100000 in
theorem m_isNode (z : mj_B) (d : Nat) (L : Lg) (n : Nat) (mm : Nat → Nat) (rn : Nat) (rm : Nat → Nat) (un kn : Nat) (x : Int32) (F A : mj_S) (hM : MI L n mm rn rm un kn F A) : J (gM z) mX6_isNode (d + 1) 0 [(0, .ref 0), (1, .int x)] [] F A (qN F A fun r => (r = 1 ∧ ∃ j, j < n ∧ x = nI j) ∨ (r = 0 ∧ ¬ ∃ j, j < n ∧ x = nI j)) := by
  have hM0 := hM.1.2.1
  have hM1 := hM.2.1.2.1
  have hM2 := hM.2.2.1.2.1
  have hM3 := hM.2.2.2.1.2
  have hM4 := hM.2.2.2.2.1.2
  refine j_iload_n dX6_isNode_0 rfl ?_
  refine j_i2l dX6_isNode_1 rfl ?_
  refine j_lconst (v := 0) dX6_isNode_2 rfl ?_
  refine j_aload_n dX6_isNode_3 rfl ?_
  refine j_getI dX6_isNode_4 flX6_132 (Nat.le_of_ble_eq_true rfl) rfl rfl ?_
  refine j_top (y0 := nI n) hM.2.1.1 ?_
  refine j_iconst (v := nI 1) dX6_isNode_7 (by decide +kernel) ?_
  refine j_isub dX6_isNode_8 ?_
  refine j_top (y0 := (nI n) - (nI 1)) rfl ?_
  refine j_i2l dX6_isNode_9 rfl ?_
  refine j_callS (y' := mX6_in) (As := [.long (x.toInt64), .long (0), .long (((nI n) - (nI 1)).toInt64)]) (st := []) dX6_isNode_10 lkX6_89 okX6_in stX6_in rfl (Nat.le_of_ble_eq_true rfl) (Nat.le_of_ble_eq_true rfl) (m_in z _ x.toInt64 0 (((nI n) - (nI 1)).toInt64) F A) (fun v10 F10 A10 hq10 => ?_)
  obtain ⟨rfl, rfl, r10, rfl, hr10⟩ := hq10
  have hb10 : r10 ≤ 1 := by omega
  exact j_iret dX6_isNode_13 rfl (mj_nz (by omega)) ⟨rfl, rfl, _, rfl, by rw [← in_lt (x := x) (n := n) (by omega)]; exact hr10⟩

set_option maxHeartbeats 400000 in
set_option maxRecDepth 100000 in
theorem m_isChoice (z : mj_B) (d : Nat) (L : Lg) (n : Nat) (mm : Nat → Nat) (rn : Nat) (rm : Nat → Nat) (un kn : Nat) (x y : Int32) (F A : mj_S) (hM : MI L n mm rn rm un kn F A) : J (gM z) mX6_isChoice (d + 2) 0 [(0, .ref 0), (1, .int x), (2, .int y)] [] F A (qN F A fun r => (r = 1 ∧ isC n mm x y) ∨ (r = 0 ∧ ¬ isC n mm x y)) := by
  have hM0 := hM.1.2.1
  have hM1 := hM.2.1.2.1
  have hM2 := hM.2.2.1.2.1
  have hM3 := hM.2.2.2.1.2
  have hM4 := hM.2.2.2.2.1.2
  refine j_aload_n dX6_isChoice_0 rfl ?_
  refine j_iload_n dX6_isChoice_1 rfl ?_
  refine j_callV (y' := mX6_isNode) (As := [.int x]) (st := []) dX6_isChoice_2 lkX6_141 okX6_isNode imX6_isNode seX6_isNode (Nat.le_of_ble_eq_true rfl) rfl rfl rfl rfl (Nat.le_of_ble_eq_true rfl) (Nat.le_of_ble_eq_true rfl) (m_isNode z _ _ _ _ _ _ _ _ x F A hM) (fun v2 F2 A2 hq2 => ?_)
  obtain ⟨rfl, rfl, r2, rfl, hr2⟩ := hq2
  have hb2 : r2 ≤ 1 := by omega
  refine j_if_eqN (tgt := 30) dX6_isChoice_5 (by decide) (by omega) (fun c5 => ?_) (fun c5 => ?_)
  · have hx := (hr2.resolve_left (fun h => by omega)).2
    refine j_iconst (v := nI 0) dX6_isChoice_30 (by decide +kernel) ?_
    exact j_iret dX6_isChoice_31 rfl (by decide +kernel) ⟨rfl, rfl, _, rfl, by first | exact Or.inl ⟨rfl, (isC_iff (by omega) hj).mpr hy⟩ | exact Or.inr ⟨rfl, fun h => hy ((isC_iff (by omega) hj).mp h)⟩ | exact Or.inr ⟨rfl, fun ⟨j, k, h1, _, h3, _⟩ => hx ⟨j, h1, h3⟩⟩⟩
  · obtain ⟨j, hj, rfl⟩ := (hr2.resolve_right (fun h => by omega)).2
    have h8j : j < 8 := by omega
    have h4 := hM.2.1.2.2.2.1 j
    refine j_iload_n dX6_isChoice_8 rfl ?_
    refine j_i2l dX6_isChoice_9 rfl ?_
    refine j_lconst (v := 0) dX6_isChoice_10 rfl ?_
    refine j_aload_n dX6_isChoice_11 rfl ?_
    refine j_getR (r := 2) dX6_isChoice_12 flX6_13 (Nat.le_of_ble_eq_true rfl) rfl rfl ?_
    refine j_iload_n dX6_isChoice_15 rfl ?_
    refine j_ialdN dX6_isChoice_16 (Nat.le_of_ble_eq_true rfl) rfl (by omega) (by decide) ?_
    refine j_top (y0 := nI (mm j)) (hM.2.1.2.2.1 _ (by omega)) ?_
    refine j_iconst (v := nI 1) dX6_isChoice_17 (by decide +kernel) ?_
    refine j_isub dX6_isChoice_18 ?_
    refine j_top (y0 := (nI (mm j)) - (nI 1)) rfl ?_
    refine j_i2l dX6_isChoice_19 rfl ?_
    refine j_callS (y' := mX6_in) (As := [.long (y.toInt64), .long (0), .long (((nI (mm j)) - (nI 1)).toInt64)]) (st := []) dX6_isChoice_20 lkX6_89 okX6_in stX6_in rfl (Nat.le_of_ble_eq_true rfl) (Nat.le_of_ble_eq_true rfl) (m_in z _ y.toInt64 0 (((nI (mm j)) - (nI 1)).toInt64) F A) (fun v20 F20 A20 hq20 => ?_)
    obtain ⟨rfl, rfl, r20, rfl, hr20⟩ := hq20
    have hb20 : r20 ≤ 1 := by omega
    refine j_if_eqN (tgt := 30) dX6_isChoice_23 (by decide) (by omega) (fun c23 => ?_) (fun c23 => ?_)
    · have hy := fun h => (hr20.resolve_left (fun h => by omega)).2 ((in_lt (x := y) (n := mm j) (by omega)).mpr h)
      refine j_iconst (v := nI 0) dX6_isChoice_30 (by decide +kernel) ?_
      exact j_iret dX6_isChoice_31 rfl (by decide +kernel) ⟨rfl, rfl, _, rfl, by first | exact Or.inl ⟨rfl, (isC_iff (by omega) hj).mpr hy⟩ | exact Or.inr ⟨rfl, fun h => hy ((isC_iff (by omega) hj).mp h)⟩ | exact Or.inr ⟨rfl, fun ⟨j, k, h1, _, h3, _⟩ => hx ⟨j, h1, h3⟩⟩⟩
    · have hy := (in_lt (by omega)).mp (hr20.resolve_right (fun h => by omega)).2
      refine j_iconst (v := nI 1) dX6_isChoice_26 (by decide +kernel) ?_
      refine j_goto (tgt := 31) dX6_isChoice_27 (by decide) ?_
      exact j_iret dX6_isChoice_31 rfl (by decide +kernel) ⟨rfl, rfl, _, rfl, by first | exact Or.inl ⟨rfl, (isC_iff (by omega) hj).mpr hy⟩ | exact Or.inr ⟨rfl, fun h => hy ((isC_iff (by omega) hj).mp h)⟩ | exact Or.inr ⟨rfl, fun ⟨j, k, h1, _, h3, _⟩ => hx ⟨j, h1, h3⟩⟩⟩

set_option maxHeartbeats 400000 in
set_option maxRecDepth 100000 in
theorem m_isPair (z : mj_B) (d : Nat) (L : Lg) (n : Nat) (mm : Nat → Nat) (rn : Nat) (rm : Nat → Nat) (un kn : Nat) (x y : Int32) (F A : mj_S) (hM : MI L n mm rn rm un kn F A) : J (gM z) mX6_isPair (d + 2) 0 [(0, .ref 0), (1, .int x), (2, .int y)] [] F A (qN F A fun r => (r = 1 ∧ ∃ j k, j < n ∧ k < n ∧ j ≠ k ∧ x = nI j ∧ y = nI k) ∨ (r = 0 ∧ ¬ ∃ j k, j < n ∧ k < n ∧ j ≠ k ∧ x = nI j ∧ y = nI k)) := by
  have hM0 := hM.1.2.1
  have hM1 := hM.2.1.2.1
  have hM2 := hM.2.2.1.2.1
  have hM3 := hM.2.2.2.1.2
  have hM4 := hM.2.2.2.2.1.2
  refine j_aload_n dX6_isPair_0 rfl ?_
  refine j_iload_n dX6_isPair_1 rfl ?_
  refine j_callV (y' := mX6_isNode) (As := [.int x]) (st := []) dX6_isPair_2 lkX6_141 okX6_isNode imX6_isNode seX6_isNode (Nat.le_of_ble_eq_true rfl) rfl rfl rfl rfl (Nat.le_of_ble_eq_true rfl) (Nat.le_of_ble_eq_true rfl) (m_isNode z _ _ _ _ _ _ _ _ x F A hM) (fun v2 F2 A2 hq2 => ?_)
  obtain ⟨rfl, rfl, r2, rfl, hr2⟩ := hq2
  have hb2 : r2 ≤ 1 := by omega
  refine j_if_eqN (tgt := 25) dX6_isPair_5 (by decide) (by omega) (fun c5 => ?_) (fun c5 => ?_)
  · have hx := (hr2.resolve_left (fun h => by omega)).2
    refine j_iconst (v := nI 0) dX6_isPair_25 (by decide +kernel) ?_
    exact j_iret dX6_isPair_26 rfl (by decide +kernel) ⟨rfl, rfl, _, rfl, by first | exact Or.inl ⟨rfl, j, k, hj, hk, c18, rfl, rfl⟩ | exact Or.inr ⟨rfl, fun ⟨a, b, h1, h2, h3, h4, h5⟩ => hx ⟨a, h1, h4⟩⟩ | exact Or.inr ⟨rfl, fun ⟨a, b, h1, h2, h3, h4, h5⟩ => hx ⟨b, h2, h5⟩⟩ | exact Or.inr ⟨rfl, fun ⟨a, b, h1, h2, h3, h4, h5⟩ => h3 (by rw [← (nI_eq (by omega) (by omega)).mp h4, ← (nI_eq (by omega) (by omega)).mp h5]; exact c18)⟩⟩
  · obtain ⟨j, hj, rfl⟩ := (hr2.resolve_right (fun h => by omega)).2
    have h8j : j < 8 := by omega
    refine j_aload_n dX6_isPair_8 rfl ?_
    refine j_iload_n dX6_isPair_9 rfl ?_
    refine j_callV (y' := mX6_isNode) (As := [.int y]) (st := []) dX6_isPair_10 lkX6_141 okX6_isNode imX6_isNode seX6_isNode (Nat.le_of_ble_eq_true rfl) rfl rfl rfl rfl (Nat.le_of_ble_eq_true rfl) (Nat.le_of_ble_eq_true rfl) (m_isNode z _ _ _ _ _ _ _ _ y F A hM) (fun v10 F10 A10 hq10 => ?_)
    obtain ⟨rfl, rfl, r10, rfl, hr10⟩ := hq10
    have hb10 : r10 ≤ 1 := by omega
    refine j_if_eqN (tgt := 25) dX6_isPair_13 (by decide) (by omega) (fun c13 => ?_) (fun c13 => ?_)
    · have hx := (hr10.resolve_left (fun h => by omega)).2
      refine j_iconst (v := nI 0) dX6_isPair_25 (by decide +kernel) ?_
      exact j_iret dX6_isPair_26 rfl (by decide +kernel) ⟨rfl, rfl, _, rfl, by first | exact Or.inl ⟨rfl, j, k, hj, hk, c18, rfl, rfl⟩ | exact Or.inr ⟨rfl, fun ⟨a, b, h1, h2, h3, h4, h5⟩ => hx ⟨a, h1, h4⟩⟩ | exact Or.inr ⟨rfl, fun ⟨a, b, h1, h2, h3, h4, h5⟩ => hx ⟨b, h2, h5⟩⟩ | exact Or.inr ⟨rfl, fun ⟨a, b, h1, h2, h3, h4, h5⟩ => h3 (by rw [← (nI_eq (by omega) (by omega)).mp h4, ← (nI_eq (by omega) (by omega)).mp h5]; exact c18)⟩⟩
    · obtain ⟨k, hk, rfl⟩ := (hr10.resolve_right (fun h => by omega)).2
      have h8k : k < 8 := by omega
      refine j_iload_n dX6_isPair_16 rfl ?_
      refine j_iload_n dX6_isPair_17 rfl ?_
      refine j_icmp_eqN (tgt := 25) dX6_isPair_18 (by decide) (by omega) (by omega) (fun c18 => ?_) (fun c18 => ?_)
      · refine j_iconst (v := nI 0) dX6_isPair_25 (by decide +kernel) ?_
        exact j_iret dX6_isPair_26 rfl (by decide +kernel) ⟨rfl, rfl, _, rfl, by first | exact Or.inl ⟨rfl, j, k, hj, hk, c18, rfl, rfl⟩ | exact Or.inr ⟨rfl, fun ⟨a, b, h1, h2, h3, h4, h5⟩ => hx ⟨a, h1, h4⟩⟩ | exact Or.inr ⟨rfl, fun ⟨a, b, h1, h2, h3, h4, h5⟩ => hx ⟨b, h2, h5⟩⟩ | exact Or.inr ⟨rfl, fun ⟨a, b, h1, h2, h3, h4, h5⟩ => h3 (by rw [← (nI_eq (by omega) (by omega)).mp h4, ← (nI_eq (by omega) (by omega)).mp h5]; exact c18)⟩⟩
      · refine j_iconst (v := nI 1) dX6_isPair_21 (by decide +kernel) ?_
        refine j_goto (tgt := 26) dX6_isPair_22 (by decide) ?_
        exact j_iret dX6_isPair_26 rfl (by decide +kernel) ⟨rfl, rfl, _, rfl, by first | exact Or.inl ⟨rfl, j, k, hj, hk, c18, rfl, rfl⟩ | exact Or.inr ⟨rfl, fun ⟨a, b, h1, h2, h3, h4, h5⟩ => hx ⟨a, h1, h4⟩⟩ | exact Or.inr ⟨rfl, fun ⟨a, b, h1, h2, h3, h4, h5⟩ => hx ⟨b, h2, h5⟩⟩ | exact Or.inr ⟨rfl, fun ⟨a, b, h1, h2, h3, h4, h5⟩ => h3 (by rw [← (nI_eq (by omega) (by omega)).mp h4, ← (nI_eq (by omega) (by omega)).mp h5]; exact c18)⟩⟩

set_option maxHeartbeats 400000 in
set_option maxRecDepth 100000 in
theorem m_atMost (z : mj_B) (d : Nat) (x : Int32) (F A : mj_S) : J (gM z) mX6_atMost d 0 [(0, .int x)] [] F A (qP F A fun r => r = if x ≤ 1000000 then x else 1000000) := by
  refine j_iload_n dX6_atMost_0 rfl ?_
  refine j_ldc dX6_atMost_1 kcX6_145 ?_
  refine j_icmp_le (tgt := 11) dX6_atMost_3 (by decide) (fun c3 => ?_) (fun c3 => ?_)
  · refine j_iload_n dX6_atMost_11 rfl ?_
    exact j_iret dX6_atMost_12 rfl rfl ⟨rfl, rfl, _, rfl, by first | rw [if_pos c3] | rw [if_neg c3]⟩
  · refine j_ldc dX6_atMost_6 kcX6_145 ?_
    refine j_goto (tgt := 12) dX6_atMost_8 (by decide) ?_
    exact j_iret dX6_atMost_12 rfl rfl ⟨rfl, rfl, _, rfl, by first | rw [if_pos c3] | rw [if_neg c3]⟩

set_option maxHeartbeats 400000 in
set_option maxRecDepth 100000 in
theorem m_costOf (z : mj_B) (d u i : Nat) (F A : mj_S) (n : Nat) (mm : Nat → Nat) (hw : wr n mm (A 5)) (hu : u < n) (hi : i < mm u) : J (gM z) mX6_costOf d 0 [(0, .ref 0), (1, .int (nI u)), (2, .int (nI i))] [] F A (qN F A fun r => r = cst (A 5) u i) := by
  have hn8 := hw.1.1
  have h4u := (hw.1.2 u hu).2
  obtain ⟨p, t, kd, hp4, ht9, hk4, ep, et, ek, ecst⟩ := hw.cstE hu hi
  refine j_aload_n dX6_costOf_0 rfl ?_
  refine j_getR (r := 5) dX6_costOf_1 flX6_22 (Nat.le_of_ble_eq_true rfl) rfl rfl ?_
  refine j_bipush (v := nI 40) dX6_costOf_4 (by decide +kernel) ?_
  refine j_iload_n dX6_costOf_6 rfl ?_
  refine j_iaddN dX6_costOf_7 ?_
  refine j_ialdN dX6_costOf_8 (Nat.le_of_ble_eq_true rfl) rfl (by omega) (by decide) ?_
  refine j_top (y0 := nI p) ep ?_
  refine j_istore_n (lv' := [(0, .ref 0), (1, .int (nI u)), (2, .int (nI i)), (3, .int (nI p))]) dX6_costOf_9 (Nat.le_of_ble_eq_true rfl) rfl rfl ?_
  refine j_aload_n dX6_costOf_10 rfl ?_
  refine j_getR (r := 5) dX6_costOf_11 flX6_22 (Nat.le_of_ble_eq_true rfl) rfl rfl ?_
  refine j_iconst (v := nI 4) dX6_costOf_14 (by decide +kernel) ?_
  refine j_iload_n dX6_costOf_15 rfl ?_
  refine j_imulN dX6_costOf_16 ?_
  refine j_iload_n dX6_costOf_17 rfl ?_
  refine j_iaddN dX6_costOf_18 ?_
  refine j_ialdN dX6_costOf_19 (Nat.le_of_ble_eq_true rfl) rfl (by omega) (by decide) ?_
  refine j_top (y0 := nI t) et ?_
  refine j_istore (lv' := [(0, .ref 0), (1, .int (nI u)), (2, .int (nI i)), (3, .int (nI p)), (4, .int (nI t))]) dX6_costOf_20 (Nat.le_of_ble_eq_true rfl) rfl rfl ?_
  refine j_iload_n dX6_costOf_22 rfl ?_
  refine j_if_leN (tgt := 33) dX6_costOf_23 (by decide) (by omega) (fun c23 => ?_) (fun c23 => ?_)
  · refine j_iload dX6_costOf_33 rfl ?_
    refine j_bipush (v := nI 99) dX6_costOf_35 (by decide +kernel) ?_
    refine j_icmp_neN (tgt := 43) dX6_costOf_37 (by decide) (by omega) (by omega) (fun c37 => ?_) (fun c37 => ?_)
    · refine j_aload_n dX6_costOf_43 rfl ?_
      refine j_getR (r := 5) dX6_costOf_44 flX6_22 (Nat.le_of_ble_eq_true rfl) rfl rfl ?_
      refine j_bipush (v := nI 32) dX6_costOf_47 (by decide +kernel) ?_
      refine j_iload_n dX6_costOf_49 rfl ?_
      refine j_iaddN dX6_costOf_50 ?_
      refine j_ialdN dX6_costOf_51 (Nat.le_of_ble_eq_true rfl) rfl (by omega) (by decide) ?_
      refine j_top (y0 := nI kd) ek ?_
      have hk3 := nI_toInt (n := kd) (by omega)
      by_cases c52 : (nI kd).toInt < 0 ∨ 2 < (nI kd).toInt
      · refine j_tOut (tgt := 93) dX6_costOf_52 c52 (by decide) ?_
        refine j_iload dX6_costOf_93 rfl ?_
        refine j_bipush (v := nI 10) dX6_costOf_95 (by decide +kernel) ?_
        refine j_icmp_leN (tgt := 105) dX6_costOf_97 (by decide) (by omega) (by omega) (fun c97 => ?_) (fun c97 => ?_)
        · refine j_iconst (v := nI 2) dX6_costOf_105 (by decide +kernel) ?_
          refine j_iload dX6_costOf_106 rfl ?_
          refine j_imulN dX6_costOf_108 ?_
          exact j_iret dX6_costOf_109 rfl rfl ⟨rfl, rfl, _, rfl, by rw [ecst]; unfold cstN; (repeat' split) <;> omega⟩
        · refine j_ldc dX6_costOf_100 kcX6_145 ?_
          refine j_top (y0 := nI 1000000) (by decide +kernel) ?_
          refine j_goto (tgt := 109) dX6_costOf_102 (by decide) ?_
          exact j_iret dX6_costOf_109 rfl rfl ⟨rfl, rfl, _, rfl, by rw [ecst]; unfold cstN; (repeat' split) <;> omega⟩
      · obtain ⟨q52, hq52, e52⟩ := mj_sw (n := 3) (nI kd) c52 (by decide)
        match q52, hq52, e52 with
        | 0, _, e52 =>
          refine j_tIn (tgt := 80) dX6_costOf_52 (by rw [e52]; decide) (by rw [e52]; decide) (by rw [e52]; rfl) (by decide) ?_
          refine j_iload dX6_costOf_80 rfl ?_
          exact j_iret dX6_costOf_82 rfl rfl ⟨rfl, rfl, _, rfl, by rw [ecst]; unfold cstN; (repeat' split) <;> omega⟩
        | 1, _, e52 =>
          refine j_tIn (tgt := 83) dX6_costOf_52 (by rw [e52]; decide) (by rw [e52]; decide) (by rw [e52]; rfl) (by decide) ?_
          refine j_iconst (v := nI 2) dX6_costOf_83 (by decide +kernel) ?_
          refine j_iload dX6_costOf_84 rfl ?_
          refine j_imulN dX6_costOf_86 ?_
          exact j_iret dX6_costOf_87 rfl rfl ⟨rfl, rfl, _, rfl, by rw [ecst]; unfold cstN; (repeat' split) <;> omega⟩
        | 2, _, e52 =>
          refine j_tIn (tgt := 88) dX6_costOf_52 (by rw [e52]; decide) (by rw [e52]; decide) (by rw [e52]; rfl) (by decide) ?_
          refine j_iload dX6_costOf_88 rfl ?_
          refine j_iload_n dX6_costOf_90 rfl ?_
          refine j_iaddN dX6_costOf_91 ?_
          exact j_iret dX6_costOf_92 rfl rfl ⟨rfl, rfl, _, rfl, by rw [ecst]; unfold cstN; (repeat' split) <;> omega⟩
        | q + 3, hq, _ => exact absurd hq (by omega)
    · refine j_ldc dX6_costOf_40 kcX6_145 ?_
      refine j_top (y0 := nI 1000000) (by decide +kernel) ?_
      exact j_iret dX6_costOf_42 rfl rfl ⟨rfl, rfl, _, rfl, by rw [ecst]; unfold cstN; (repeat' split) <;> omega⟩
  · refine j_iload_n dX6_costOf_26 rfl ?_
    refine j_iconst (v := nI 1) dX6_costOf_27 (by decide +kernel) ?_
    refine j_isubN dX6_costOf_28 (by omega) ?_
    refine j_iload_n dX6_costOf_29 rfl ?_
    refine j_icmp_neN (tgt := 40) dX6_costOf_30 (by decide) (by omega) (by omega) (fun c30 => ?_) (fun c30 => ?_)
    · refine j_ldc dX6_costOf_40 kcX6_145 ?_
      refine j_top (y0 := nI 1000000) (by decide +kernel) ?_
      exact j_iret dX6_costOf_42 rfl rfl ⟨rfl, rfl, _, rfl, by rw [ecst]; unfold cstN; (repeat' split) <;> omega⟩
    · refine j_iload dX6_costOf_33 rfl ?_
      refine j_bipush (v := nI 99) dX6_costOf_35 (by decide +kernel) ?_
      refine j_icmp_neN (tgt := 43) dX6_costOf_37 (by decide) (by omega) (by omega) (fun c37 => ?_) (fun c37 => ?_)
      · refine j_aload_n dX6_costOf_43 rfl ?_
        refine j_getR (r := 5) dX6_costOf_44 flX6_22 (Nat.le_of_ble_eq_true rfl) rfl rfl ?_
        refine j_bipush (v := nI 32) dX6_costOf_47 (by decide +kernel) ?_
        refine j_iload_n dX6_costOf_49 rfl ?_
        refine j_iaddN dX6_costOf_50 ?_
        refine j_ialdN dX6_costOf_51 (Nat.le_of_ble_eq_true rfl) rfl (by omega) (by decide) ?_
        refine j_top (y0 := nI kd) ek ?_
        have hk3 := nI_toInt (n := kd) (by omega)
        by_cases c52 : (nI kd).toInt < 0 ∨ 2 < (nI kd).toInt
        · refine j_tOut (tgt := 93) dX6_costOf_52 c52 (by decide) ?_
          refine j_iload dX6_costOf_93 rfl ?_
          refine j_bipush (v := nI 10) dX6_costOf_95 (by decide +kernel) ?_
          refine j_icmp_leN (tgt := 105) dX6_costOf_97 (by decide) (by omega) (by omega) (fun c97 => ?_) (fun c97 => ?_)
          · refine j_iconst (v := nI 2) dX6_costOf_105 (by decide +kernel) ?_
            refine j_iload dX6_costOf_106 rfl ?_
            refine j_imulN dX6_costOf_108 ?_
            exact j_iret dX6_costOf_109 rfl rfl ⟨rfl, rfl, _, rfl, by rw [ecst]; unfold cstN; (repeat' split) <;> omega⟩
          · refine j_ldc dX6_costOf_100 kcX6_145 ?_
            refine j_top (y0 := nI 1000000) (by decide +kernel) ?_
            refine j_goto (tgt := 109) dX6_costOf_102 (by decide) ?_
            exact j_iret dX6_costOf_109 rfl rfl ⟨rfl, rfl, _, rfl, by rw [ecst]; unfold cstN; (repeat' split) <;> omega⟩
        · obtain ⟨q52, hq52, e52⟩ := mj_sw (n := 3) (nI kd) c52 (by decide)
          match q52, hq52, e52 with
          | 0, _, e52 =>
            refine j_tIn (tgt := 80) dX6_costOf_52 (by rw [e52]; decide) (by rw [e52]; decide) (by rw [e52]; rfl) (by decide) ?_
            refine j_iload dX6_costOf_80 rfl ?_
            exact j_iret dX6_costOf_82 rfl rfl ⟨rfl, rfl, _, rfl, by rw [ecst]; unfold cstN; (repeat' split) <;> omega⟩
          | 1, _, e52 =>
            refine j_tIn (tgt := 83) dX6_costOf_52 (by rw [e52]; decide) (by rw [e52]; decide) (by rw [e52]; rfl) (by decide) ?_
            refine j_iconst (v := nI 2) dX6_costOf_83 (by decide +kernel) ?_
            refine j_iload dX6_costOf_84 rfl ?_
            refine j_imulN dX6_costOf_86 ?_
            exact j_iret dX6_costOf_87 rfl rfl ⟨rfl, rfl, _, rfl, by rw [ecst]; unfold cstN; (repeat' split) <;> omega⟩
          | 2, _, e52 =>
            refine j_tIn (tgt := 88) dX6_costOf_52 (by rw [e52]; decide) (by rw [e52]; decide) (by rw [e52]; rfl) (by decide) ?_
            refine j_iload dX6_costOf_88 rfl ?_
            refine j_iload_n dX6_costOf_90 rfl ?_
            refine j_iaddN dX6_costOf_91 ?_
            exact j_iret dX6_costOf_92 rfl rfl ⟨rfl, rfl, _, rfl, by rw [ecst]; unfold cstN; (repeat' split) <;> omega⟩
          | q + 3, hq, _ => exact absurd hq (by omega)
      · refine j_ldc dX6_costOf_40 kcX6_145 ?_
        refine j_top (y0 := nI 1000000) (by decide +kernel) ?_
        exact j_iret dX6_costOf_42 rfl rfl ⟨rfl, rfl, _, rfl, by rw [ecst]; unfold cstN; (repeat' split) <;> omega⟩

set_option maxHeartbeats 400000 in
set_option maxRecDepth 100000 in
theorem m_tieOf (z : mj_B) (d u v i j : Nat) (F A : mj_S) (n : Nat) (mm : Nat → Nat) (hw : wr n mm (A 5)) (hu : u < n) (hv : v < n) (huv : u ≠ v) (hi : i < mm u) (hj : j < mm v) (ht : 0 < A 5 (eA u v 0 0)) : J (gM z) mX6_tieOf (d + 1) 0 [(0, .ref 0), (1, .int (nI u)), (2, .int (nI v)), (3, .int (nI i)), (4, .int (nI j))] [] F A (qN F A fun r => r = tcs (A 5) u v i j) := by
  have hn8 := hw.1.1
  have h4u := (hw.1.2 u hu).2
  have h4v := (hw.1.2 v hv).2
  obtain ⟨f, hf, er⟩ := hw.ent hu hv huv hi hj ht
  refine j_aload_n dX6_tieOf_0 rfl ?_
  refine j_getR (r := 5) dX6_tieOf_1 flX6_22 (Nat.le_of_ble_eq_true rfl) rfl rfl ?_
  refine j_iload_n dX6_tieOf_4 rfl ?_
  refine j_iload_n dX6_tieOf_5 rfl ?_
  refine j_iload_n dX6_tieOf_6 rfl ?_
  refine j_iload dX6_tieOf_7 rfl ?_
  refine j_callS (y' := mX6_entryAt) (As := [.int (nI u), .int (nI v), .int (nI i), .int (nI j)]) (st := [.ref 5]) dX6_tieOf_9 lkX6_81 okX6_entryAt stX6_entryAt rfl (Nat.le_of_ble_eq_true rfl) (Nat.le_of_ble_eq_true rfl) (m_entryAt z _ u v i j (by omega) (by omega) (by omega) (by omega) (by omega) F A) (fun v9 F9 A9 hq9 => ?_)
  obtain ⟨rfl, rfl, e9, rfl, he9⟩ := hq9
  have hl9 : e9 < 500 := by rw [he9]; exact eA_lt (by omega) (by omega) (by omega) (by omega) (by omega)
  refine j_ialdN dX6_tieOf_12 (Nat.le_of_ble_eq_true rfl) rfl (by omega) (by decide) ?_
  refine j_top (y0 := nI (f + 1)) (by rw [he9]; exact er) ?_
  refine j_iconst (v := nI 1) dX6_tieOf_13 (by decide +kernel) ?_
  refine j_isubN dX6_tieOf_14 (by omega) ?_
  refine j_istore (lv' := [(0, .ref 0), (1, .int (nI u)), (2, .int (nI v)), (3, .int (nI i)), (4, .int (nI j)), (5, .int (nI ((f + 1) - 1)))]) dX6_tieOf_15 (Nat.le_of_ble_eq_true rfl) rfl rfl ?_
  refine j_iload dX6_tieOf_17 rfl ?_
  refine j_bipush (v := nI 9) dX6_tieOf_19 (by decide +kernel) ?_
  refine j_icmp_neN (tgt := 29) dX6_tieOf_21 (by decide) (by omega) (by omega) (fun c21 => ?_) (fun c21 => ?_)
  · refine j_iload dX6_tieOf_29 rfl ?_
    exact j_iret dX6_tieOf_31 rfl rfl ⟨rfl, rfl, _, rfl, by unfold tcs tcN; rw [er, nI_clamp (by omega)]; split <;> omega⟩
  · refine j_ldc dX6_tieOf_24 kcX6_145 ?_
    refine j_top (y0 := nI 1000000) (by decide +kernel) ?_
    refine j_goto (tgt := 31) dX6_tieOf_26 (by decide) ?_
    exact j_iret dX6_tieOf_31 rfl rfl ⟨rfl, rfl, _, rfl, by unfold tcs tcN; rw [er, nI_clamp (by omega)]; split <;> omega⟩

set_option maxHeartbeats 400000 in
set_option maxRecDepth 100000 in
theorem m_costOf0 (z : mj_B) (d u i : Nat) (hu : u < 8) (hi : i < 4) (F A : mj_S) : J (gM z) mX6_costOf d 0 [(0, .ref 0), (1, .int (nI u)), (2, .int (nI i))] [] F A (qP F A fun _ => True) := by
  refine j_aload_n dX6_costOf_0 rfl ?_
  refine j_getR (r := 5) dX6_costOf_1 flX6_22 (Nat.le_of_ble_eq_true rfl) rfl rfl ?_
  refine j_bipush (v := nI 40) dX6_costOf_4 (by decide +kernel) ?_
  refine j_iload_n dX6_costOf_6 rfl ?_
  refine j_iaddN dX6_costOf_7 ?_
  refine j_ialdN dX6_costOf_8 (Nat.le_of_ble_eq_true rfl) rfl (by omega) (by decide) ?_
  refine j_istore_n (lv' := [(0, .ref 0), (1, .int (nI u)), (2, .int (nI i)), (3, .int (A 5 (40 + u)))]) dX6_costOf_9 (Nat.le_of_ble_eq_true rfl) rfl rfl ?_
  refine j_aload_n dX6_costOf_10 rfl ?_
  refine j_getR (r := 5) dX6_costOf_11 flX6_22 (Nat.le_of_ble_eq_true rfl) rfl rfl ?_
  refine j_iconst (v := nI 4) dX6_costOf_14 (by decide +kernel) ?_
  refine j_iload_n dX6_costOf_15 rfl ?_
  refine j_imulN dX6_costOf_16 ?_
  refine j_iload_n dX6_costOf_17 rfl ?_
  refine j_iaddN dX6_costOf_18 ?_
  refine j_ialdN dX6_costOf_19 (Nat.le_of_ble_eq_true rfl) rfl (by omega) (by decide) ?_
  refine j_istore (lv' := [(0, .ref 0), (1, .int (nI u)), (2, .int (nI i)), (3, .int (A 5 (40 + u))), (4, .int (A 5 (4 * u + i)))]) dX6_costOf_20 (Nat.le_of_ble_eq_true rfl) rfl rfl ?_
  refine j_iload_n dX6_costOf_22 rfl ?_
  refine j_if_le (tgt := 33) dX6_costOf_23 (by decide) (fun c23 => ?_) (fun c23 => ?_)
  · refine j_iload dX6_costOf_33 rfl ?_
    refine j_bipush (v := nI 99) dX6_costOf_35 (by decide +kernel) ?_
    refine j_icmp_ne (tgt := 43) dX6_costOf_37 (by decide) (fun c37 => ?_) (fun c37 => ?_)
    · refine j_aload_n dX6_costOf_43 rfl ?_
      refine j_getR (r := 5) dX6_costOf_44 flX6_22 (Nat.le_of_ble_eq_true rfl) rfl rfl ?_
      refine j_bipush (v := nI 32) dX6_costOf_47 (by decide +kernel) ?_
      refine j_iload_n dX6_costOf_49 rfl ?_
      refine j_iaddN dX6_costOf_50 ?_
      refine j_ialdN dX6_costOf_51 (Nat.le_of_ble_eq_true rfl) rfl (by omega) (by decide) ?_
      by_cases c52 : (A 5 (32 + u)).toInt < 0 ∨ 2 < (A 5 (32 + u)).toInt
      · refine j_tOut (tgt := 93) dX6_costOf_52 c52 (by decide) ?_
        refine j_iload dX6_costOf_93 rfl ?_
        refine j_bipush (v := nI 10) dX6_costOf_95 (by decide +kernel) ?_
        refine j_icmp_le (tgt := 105) dX6_costOf_97 (by decide) (fun c97 => ?_) (fun c97 => ?_)
        · refine j_iconst (v := nI 2) dX6_costOf_105 (by decide +kernel) ?_
          refine j_iload dX6_costOf_106 rfl ?_
          refine j_imul dX6_costOf_108 ?_
          exact j_iret dX6_costOf_109 rfl rfl ⟨rfl, rfl, _, rfl, trivial⟩
        · refine j_ldc dX6_costOf_100 kcX6_145 ?_
          refine j_goto (tgt := 109) dX6_costOf_102 (by decide) ?_
          exact j_iret dX6_costOf_109 rfl rfl ⟨rfl, rfl, _, rfl, trivial⟩
      · obtain ⟨q52, hq52, e52⟩ := mj_sw (n := 3) (A 5 (32 + u)) c52 (by decide)
        match q52, hq52, e52 with
        | 0, _, e52 =>
          refine j_tIn (tgt := 80) dX6_costOf_52 (by rw [e52]; decide) (by rw [e52]; decide) (by rw [e52]; rfl) (by decide) ?_
          refine j_iload dX6_costOf_80 rfl ?_
          exact j_iret dX6_costOf_82 rfl rfl ⟨rfl, rfl, _, rfl, trivial⟩
        | 1, _, e52 =>
          refine j_tIn (tgt := 83) dX6_costOf_52 (by rw [e52]; decide) (by rw [e52]; decide) (by rw [e52]; rfl) (by decide) ?_
          refine j_iconst (v := nI 2) dX6_costOf_83 (by decide +kernel) ?_
          refine j_iload dX6_costOf_84 rfl ?_
          refine j_imul dX6_costOf_86 ?_
          exact j_iret dX6_costOf_87 rfl rfl ⟨rfl, rfl, _, rfl, trivial⟩
        | 2, _, e52 =>
          refine j_tIn (tgt := 88) dX6_costOf_52 (by rw [e52]; decide) (by rw [e52]; decide) (by rw [e52]; rfl) (by decide) ?_
          refine j_iload dX6_costOf_88 rfl ?_
          refine j_iload_n dX6_costOf_90 rfl ?_
          refine j_iadd dX6_costOf_91 ?_
          exact j_iret dX6_costOf_92 rfl rfl ⟨rfl, rfl, _, rfl, trivial⟩
        | q + 3, hq, _ => exact absurd hq (by omega)
    · refine j_ldc dX6_costOf_40 kcX6_145 ?_
      exact j_iret dX6_costOf_42 rfl rfl ⟨rfl, rfl, _, rfl, trivial⟩
  · refine j_iload_n dX6_costOf_26 rfl ?_
    refine j_iconst (v := nI 1) dX6_costOf_27 (by decide +kernel) ?_
    refine j_isub dX6_costOf_28 ?_
    refine j_iload_n dX6_costOf_29 rfl ?_
    refine j_icmp_ne (tgt := 40) dX6_costOf_30 (by decide) (fun c30 => ?_) (fun c30 => ?_)
    · refine j_ldc dX6_costOf_40 kcX6_145 ?_
      exact j_iret dX6_costOf_42 rfl rfl ⟨rfl, rfl, _, rfl, trivial⟩
    · refine j_iload dX6_costOf_33 rfl ?_
      refine j_bipush (v := nI 99) dX6_costOf_35 (by decide +kernel) ?_
      refine j_icmp_ne (tgt := 43) dX6_costOf_37 (by decide) (fun c37 => ?_) (fun c37 => ?_)
      · refine j_aload_n dX6_costOf_43 rfl ?_
        refine j_getR (r := 5) dX6_costOf_44 flX6_22 (Nat.le_of_ble_eq_true rfl) rfl rfl ?_
        refine j_bipush (v := nI 32) dX6_costOf_47 (by decide +kernel) ?_
        refine j_iload_n dX6_costOf_49 rfl ?_
        refine j_iaddN dX6_costOf_50 ?_
        refine j_ialdN dX6_costOf_51 (Nat.le_of_ble_eq_true rfl) rfl (by omega) (by decide) ?_
        by_cases c52 : (A 5 (32 + u)).toInt < 0 ∨ 2 < (A 5 (32 + u)).toInt
        · refine j_tOut (tgt := 93) dX6_costOf_52 c52 (by decide) ?_
          refine j_iload dX6_costOf_93 rfl ?_
          refine j_bipush (v := nI 10) dX6_costOf_95 (by decide +kernel) ?_
          refine j_icmp_le (tgt := 105) dX6_costOf_97 (by decide) (fun c97 => ?_) (fun c97 => ?_)
          · refine j_iconst (v := nI 2) dX6_costOf_105 (by decide +kernel) ?_
            refine j_iload dX6_costOf_106 rfl ?_
            refine j_imul dX6_costOf_108 ?_
            exact j_iret dX6_costOf_109 rfl rfl ⟨rfl, rfl, _, rfl, trivial⟩
          · refine j_ldc dX6_costOf_100 kcX6_145 ?_
            refine j_goto (tgt := 109) dX6_costOf_102 (by decide) ?_
            exact j_iret dX6_costOf_109 rfl rfl ⟨rfl, rfl, _, rfl, trivial⟩
        · obtain ⟨q52, hq52, e52⟩ := mj_sw (n := 3) (A 5 (32 + u)) c52 (by decide)
          match q52, hq52, e52 with
          | 0, _, e52 =>
            refine j_tIn (tgt := 80) dX6_costOf_52 (by rw [e52]; decide) (by rw [e52]; decide) (by rw [e52]; rfl) (by decide) ?_
            refine j_iload dX6_costOf_80 rfl ?_
            exact j_iret dX6_costOf_82 rfl rfl ⟨rfl, rfl, _, rfl, trivial⟩
          | 1, _, e52 =>
            refine j_tIn (tgt := 83) dX6_costOf_52 (by rw [e52]; decide) (by rw [e52]; decide) (by rw [e52]; rfl) (by decide) ?_
            refine j_iconst (v := nI 2) dX6_costOf_83 (by decide +kernel) ?_
            refine j_iload dX6_costOf_84 rfl ?_
            refine j_imul dX6_costOf_86 ?_
            exact j_iret dX6_costOf_87 rfl rfl ⟨rfl, rfl, _, rfl, trivial⟩
          | 2, _, e52 =>
            refine j_tIn (tgt := 88) dX6_costOf_52 (by rw [e52]; decide) (by rw [e52]; decide) (by rw [e52]; rfl) (by decide) ?_
            refine j_iload dX6_costOf_88 rfl ?_
            refine j_iload_n dX6_costOf_90 rfl ?_
            refine j_iadd dX6_costOf_91 ?_
            exact j_iret dX6_costOf_92 rfl rfl ⟨rfl, rfl, _, rfl, trivial⟩
          | q + 3, hq, _ => exact absurd hq (by omega)
      · refine j_ldc dX6_costOf_40 kcX6_145 ?_
        exact j_iret dX6_costOf_42 rfl rfl ⟨rfl, rfl, _, rfl, trivial⟩

set_option maxHeartbeats 400000 in
set_option maxRecDepth 100000 in
theorem m_tieOf0 (z : mj_B) (d u v i j : Nat) (hu : u < 8) (hv : v < 8) (huv : u ≠ v) (hi : i < 4) (hj : j < 4) (F A : mj_S) : J (gM z) mX6_tieOf (d + 1) 0 [(0, .ref 0), (1, .int (nI u)), (2, .int (nI v)), (3, .int (nI i)), (4, .int (nI j))] [] F A (qP F A fun _ => True) := by
  refine j_aload_n dX6_tieOf_0 rfl ?_
  refine j_getR (r := 5) dX6_tieOf_1 flX6_22 (Nat.le_of_ble_eq_true rfl) rfl rfl ?_
  refine j_iload_n dX6_tieOf_4 rfl ?_
  refine j_iload_n dX6_tieOf_5 rfl ?_
  refine j_iload_n dX6_tieOf_6 rfl ?_
  refine j_iload dX6_tieOf_7 rfl ?_
  refine j_callS (y' := mX6_entryAt) (As := [.int (nI u), .int (nI v), .int (nI i), .int (nI j)]) (st := [.ref 5]) dX6_tieOf_9 lkX6_81 okX6_entryAt stX6_entryAt rfl (Nat.le_of_ble_eq_true rfl) (Nat.le_of_ble_eq_true rfl) (m_entryAt z _ u v i j (by omega) (by omega) (by omega) (by omega) (by omega) F A) (fun v9 F9 A9 hq9 => ?_)
  obtain ⟨rfl, rfl, e9, rfl, he9⟩ := hq9
  have hl9 : e9 < 500 := by rw [he9]; exact eA_lt (by omega) (by omega) (by omega) (by omega) (by omega)
  refine j_ialdN dX6_tieOf_12 (Nat.le_of_ble_eq_true rfl) rfl (by omega) (by decide) ?_
  refine j_iconst (v := nI 1) dX6_tieOf_13 (by decide +kernel) ?_
  refine j_isub dX6_tieOf_14 ?_
  refine j_istore (lv' := [(0, .ref 0), (1, .int (nI u)), (2, .int (nI v)), (3, .int (nI i)), (4, .int (nI j)), (5, .int ((A 5 e9) - (nI 1)))]) dX6_tieOf_15 (Nat.le_of_ble_eq_true rfl) rfl rfl ?_
  refine j_iload dX6_tieOf_17 rfl ?_
  refine j_bipush (v := nI 9) dX6_tieOf_19 (by decide +kernel) ?_
  refine j_icmp_ne (tgt := 29) dX6_tieOf_21 (by decide) (fun c21 => ?_) (fun c21 => ?_)
  · refine j_iload dX6_tieOf_29 rfl ?_
    exact j_iret dX6_tieOf_31 rfl rfl ⟨rfl, rfl, _, rfl, trivial⟩
  · refine j_ldc dX6_tieOf_24 kcX6_145 ?_
    refine j_goto (tgt := 31) dX6_tieOf_26 (by decide) ?_
    exact j_iret dX6_tieOf_31 rfl rfl ⟨rfl, rfl, _, rfl, trivial⟩

set_option maxHeartbeats 400000 in
set_option maxRecDepth 100000 in
theorem m_tiedMany (z : mj_B) (d : Nat) (L : Lg) (n : Nat) (mm : Nat → Nat) (rn : Nat) (rm : Nat → Nat) (un kn : Nat) (u : Nat) (hu : u < 8) (F A : mj_S) (hM : MI L n mm rn rm un kn F A) : J (gM z) mX6_tiedMany (d + 2) 0 [(0, .ref 0), (1, .int (nI u))] [] F A (qN F A fun q => q = dgN (A 5) u n) := by
  have hM0 := hM.1.2.1
  have hM1 := hM.2.1.2.1
  have hM2 := hM.2.2.1.2.1
  have hM3 := hM.2.2.2.1.2
  have hM4 := hM.2.2.2.2.1.2
  have L4 : ∀ (fuel : Nat) (q : Nat) (v : Nat), (v ≤ n) → (q = dgN (A 5) u v) → n - v < fuel → J (gM z) mX6_tiedMany (d + 2) 4 [(0, .ref 0), (1, .int (nI u)), (2, .int (nI q)), (3, .int (nI v))] [] F A (qN F A fun q => q = dgN (A 5) u n) := by
    intro fuel
    induction fuel with
    | zero => intro q v h1 hq0 hf; exact absurd hf (by omega)
    | succ fuel ih4 =>
      intro q v h1 hq0 hf
      have hq8 : q ≤ v := by rw [hq0]; exact dgN_le _ _ _
      refine j_iload_n dX6_tiedMany_4 rfl ?_
      refine j_aload_n dX6_tiedMany_5 rfl ?_
      refine j_getI dX6_tiedMany_6 flX6_132 (Nat.le_of_ble_eq_true rfl) rfl rfl ?_
      refine j_top (y0 := nI n) hM.2.1.1 ?_
      refine j_icmp_geN (tgt := 35) dX6_tiedMany_9 (by decide) (by omega) (by omega) (fun c9 => ?_) (fun c9 => ?_)
      · refine j_iload_n dX6_tiedMany_35 rfl ?_
        exact j_iret dX6_tiedMany_36 rfl rfl ⟨rfl, rfl, _, rfl, by rw [hq0, show v = n by omega]⟩
      · refine j_iload_n dX6_tiedMany_12 rfl ?_
        refine j_aload_n dX6_tiedMany_13 rfl ?_
        refine j_iload_n dX6_tiedMany_14 rfl ?_
        refine j_iload_n dX6_tiedMany_15 rfl ?_
        refine j_callV (y' := mX6_isTied) (As := [.int (nI u), .int (nI v)]) (st := [.int (nI q)]) dX6_tiedMany_16 lkX6_146 okX6_isTied imX6_isTied seX6_isTied (Nat.le_of_ble_eq_true rfl) rfl rfl rfl rfl (Nat.le_of_ble_eq_true rfl) (Nat.le_of_ble_eq_true rfl) (m_isTied z _ u v (by omega) (by omega) F A) (fun v16 F16 A16 hq16 => ?_)
        obtain ⟨rfl, rfl, r16, rfl, hr16⟩ := hq16
        have hb16 : r16 ≤ 1 := by omega
        refine j_if_eqN (tgt := 26) dX6_tiedMany_19 (by decide) (by omega) (fun c19 => ?_) (fun c19 => ?_)
        · have htv : tdd (A 5) u v = 0 := if_neg (hr16.resolve_left (fun h => by omega)).2
          refine j_iconst (v := nI 0) dX6_tiedMany_26 (by decide +kernel) ?_
          refine j_iaddN dX6_tiedMany_27 ?_
          refine j_istore_n (lv' := [(0, .ref 0), (1, .int (nI u)), (2, .int (nI (q + 0))), (3, .int (nI v))]) dX6_tiedMany_28 (Nat.le_of_ble_eq_true rfl) rfl rfl ?_
          refine j_iinc (v := nI (v + 1)) (lv' := [(0, .ref 0), (1, .int (nI u)), (2, .int (nI (q + 0))), (3, .int (nI (v + 1)))]) dX6_tiedMany_29 rfl (nI_add _ 1) (Nat.le_of_ble_eq_true rfl) rfl rfl ?_
          refine j_goto (tgt := 4) dX6_tiedMany_32 (by decide) ?_
          exact ih4 (q + 0) (v + 1) (by first | exact h1 | omega) (by rw [hq0]; show _ = dgN (A 5) u v + tdd (A 5) u v; rw [htv]) (by omega)
        · have htv : tdd (A 5) u v = 1 := if_pos (hr16.resolve_right (fun h => by omega)).2
          refine j_iconst (v := nI 1) dX6_tiedMany_22 (by decide +kernel) ?_
          refine j_goto (tgt := 27) dX6_tiedMany_23 (by decide) ?_
          refine j_iaddN dX6_tiedMany_27 ?_
          refine j_istore_n (lv' := [(0, .ref 0), (1, .int (nI u)), (2, .int (nI (q + 1))), (3, .int (nI v))]) dX6_tiedMany_28 (Nat.le_of_ble_eq_true rfl) rfl rfl ?_
          refine j_iinc (v := nI (v + 1)) (lv' := [(0, .ref 0), (1, .int (nI u)), (2, .int (nI (q + 1))), (3, .int (nI (v + 1)))]) dX6_tiedMany_29 rfl (nI_add _ 1) (Nat.le_of_ble_eq_true rfl) rfl rfl ?_
          refine j_goto (tgt := 4) dX6_tiedMany_32 (by decide) ?_
          exact ih4 (q + 1) (v + 1) (by first | exact h1 | omega) (by rw [hq0]; show _ = dgN (A 5) u v + tdd (A 5) u v; rw [htv]) (by omega)
  refine j_iconst (v := nI 0) dX6_tiedMany_0 (by decide +kernel) ?_
  refine j_istore_n (lv' := [(0, .ref 0), (1, .int (nI u)), (2, .int (nI 0))]) dX6_tiedMany_1 (Nat.le_of_ble_eq_true rfl) rfl rfl ?_
  refine j_iconst (v := nI 0) dX6_tiedMany_2 (by decide +kernel) ?_
  refine j_istore_n (lv' := [(0, .ref 0), (1, .int (nI u)), (2, .int (nI 0)), (3, .int (nI 0))]) dX6_tiedMany_3 (Nat.le_of_ble_eq_true rfl) rfl rfl ?_
  exact L4 _ 0 0 (by first | exact h1 | omega) rfl (Nat.lt_succ_self _)

set_option maxHeartbeats 400000 in
set_option maxRecDepth 100000 in
theorem m_node (z : mj_B) (d : Nat) (L : Lg) (n : Nat) (mm : Nat → Nat) (rn : Nat) (rm : Nat → Nat) (un kn : Nat) (x1 x2 : Int32) (F A : mj_S) (hM : MI L n mm rn rm un kn F A) (hw : wr n mm (A 5)) : J (gM z) mX6_node (d + 3) 0 [(0, .ref 0), (1, .int x1), (2, .int x2)] [] F A (qP F A fun r => r = ndAns n mm (A 5) x1 x2) := by
  have hM0 := hM.1.2.1
  have hM1 := hM.2.1.2.1
  have hM2 := hM.2.2.1.2.1
  have hM3 := hM.2.2.2.1.2
  have hM4 := hM.2.2.2.2.1.2
  have hm4 : ∀ u, u < n → mm u ≤ 4 := fun u _ => hM.2.1.2.2.2.1 u
  refine j_aload_n dX6_node_0 rfl ?_
  refine j_iload_n dX6_node_1 rfl ?_
  refine j_callV (y' := mX6_isNode) (As := [.int x1]) (st := []) dX6_node_2 lkX6_141 okX6_isNode imX6_isNode seX6_isNode (Nat.le_of_ble_eq_true rfl) rfl rfl rfl rfl (Nat.le_of_ble_eq_true rfl) (Nat.le_of_ble_eq_true rfl) (m_isNode z _ _ _ _ _ _ _ _ x1 F A hM) (fun v2 F2 A2 hq2 => ?_)
  obtain ⟨rfl, rfl, r2, rfl, hr2⟩ := hq2
  have hb2 : r2 ≤ 1 := by omega
  refine j_if_eqN (tgt := 20) dX6_node_5 (by decide) (by omega) (fun c5 => ?_) (fun c5 => ?_)
  · have hnd := ndO_none hM1 (hr2.resolve_left (fun h => by omega)).2
    have hno := ndAns_n (mm := mm) (row := A 5) (x2 := x2) hnd
    refine j_iconst (v := (-1)) dX6_node_20 (by decide +kernel) ?_
    exact j_iret dX6_node_21 rfl rfl ⟨rfl, rfl, _, rfl, hno.symm⟩
  · obtain ⟨j, hj, rfl⟩ := (hr2.resolve_right (fun h => by omega)).2
    have h8j : j < 8 := by omega
    have hndj := ndO_some hM1 hj
    refine j_iload_n dX6_node_8 rfl ?_
    refine j_i2l dX6_node_9 rfl ?_
    refine j_lconst (v := 0) dX6_node_10 rfl ?_
    refine j_ldc2 dX6_node_11 klX6_150 ?_
    refine j_callS (y' := mX6_in) (As := [.long (x2.toInt64), .long (0), .long ((3))]) (st := []) dX6_node_14 lkX6_89 okX6_in stX6_in rfl (Nat.le_of_ble_eq_true rfl) (Nat.le_of_ble_eq_true rfl) (m_in z _ x2.toInt64 0 (3) F A) (fun v14 F14 A14 hq14 => ?_)
    obtain ⟨rfl, rfl, r14, rfl, hr14⟩ := hq14
    have hb14 : r14 ≤ 1 := by omega
    refine j_if_neN (tgt := 22) dX6_node_17 (by decide) (by omega) (fun c17 => ?_) (fun c17 => ?_)
    · obtain ⟨w, ew, -, hw3⟩ := in_of (hr14.resolve_right (fun h => by omega)).2 0 3 rfl rfl
      have hw31 := nI_toInt (n := w) (by omega)
      rw [← ew] at hw31
      obtain ⟨pt, hpt, ept⟩ := (hw.2.1 j hj).2.1
      refine j_iload_n dX6_node_22 rfl ?_
      by_cases c23 : x2.toInt < 0 ∨ 2 < x2.toInt
      · refine j_tOut (tgt := 71) dX6_node_23 c23 (by decide) ?_
        refine j_aload_n dX6_node_71 rfl ?_
        refine j_getR (r := 5) dX6_node_72 flX6_22 (Nat.le_of_ble_eq_true rfl) rfl rfl ?_
        refine j_bipush (v := nI 40) dX6_node_75 (by decide +kernel) ?_
        refine j_iload_n dX6_node_77 rfl ?_
        refine j_iaddN dX6_node_78 ?_
        refine j_ialdN dX6_node_79 (Nat.le_of_ble_eq_true rfl) rfl (by omega) (by decide) ?_
        refine j_if_ne (tgt := 88) dX6_node_80 (by decide) (fun c80 => ?_) (fun c80 => ?_)
        · have hpz : ¬ A 5 (40 + j) = nI 0 := fun q => c80 (q.trans nI_0)
          refine j_aload_n dX6_node_88 rfl ?_
          refine j_getR (r := 5) dX6_node_89 flX6_22 (Nat.le_of_ble_eq_true rfl) rfl rfl ?_
          refine j_bipush (v := nI 40) dX6_node_92 (by decide +kernel) ?_
          refine j_iload_n dX6_node_94 rfl ?_
          refine j_iaddN dX6_node_95 ?_
          refine j_ialdN dX6_node_96 (Nat.le_of_ble_eq_true rfl) rfl (by omega) (by decide) ?_
          refine j_iconst (v := nI 1) dX6_node_97 (by decide +kernel) ?_
          refine j_isub dX6_node_98 ?_
          exact j_iret dX6_node_99 rfl rfl ⟨rfl, rfl, _, rfl, by rw [ndAns_3 hndj (by rw [ew, show w = 3 by omega])]; first | exact (pinA_z hpz).symm | (rw [pinA_p hpz, n01])⟩
        · have hpz : A 5 (40 + j) = nI 0 := c80.trans nI_0.symm
          refine j_bipush (v := (-4)) dX6_node_83 (by decide +kernel) ?_
          refine j_goto (tgt := 99) dX6_node_85 (by decide) ?_
          exact j_iret dX6_node_99 rfl rfl ⟨rfl, rfl, _, rfl, by rw [ndAns_3 hndj (by rw [ew, show w = 3 by omega])]; first | exact (pinA_z hpz).symm | (rw [pinA_p hpz, n01])⟩
      · obtain ⟨q23, hq23, e23⟩ := mj_sw (n := 3) x2 c23 (by decide)
        match q23, hq23, e23 with
        | 0, _, e23 =>
          refine j_tIn (tgt := 48) dX6_node_23 (by rw [e23]; decide) (by rw [e23]; decide) (by rw [e23]; rfl) (by decide) ?_
          refine j_aload_n dX6_node_48 rfl ?_
          refine j_getR (r := 5) dX6_node_49 flX6_22 (Nat.le_of_ble_eq_true rfl) rfl rfl ?_
          refine j_bipush (v := nI 32) dX6_node_52 (by decide +kernel) ?_
          refine j_iload_n dX6_node_54 rfl ?_
          refine j_iaddN dX6_node_55 ?_
          refine j_ialdN dX6_node_56 (Nat.le_of_ble_eq_true rfl) rfl (by omega) (by decide) ?_
          exact j_iret dX6_node_57 rfl rfl ⟨rfl, rfl, _, rfl, (ndAns_0 hndj (sw_eq (k := 0) e23)).symm⟩
        | 1, _, e23 =>
          refine j_tIn (tgt := 58) dX6_node_23 (by rw [e23]; decide) (by rw [e23]; decide) (by rw [e23]; rfl) (by decide) ?_
          refine j_aload_n dX6_node_58 rfl ?_
          refine j_getR (r := 2) dX6_node_59 flX6_13 (Nat.le_of_ble_eq_true rfl) rfl rfl ?_
          refine j_iload_n dX6_node_62 rfl ?_
          refine j_ialdN dX6_node_63 (Nat.le_of_ble_eq_true rfl) rfl (by omega) (by decide) ?_
          refine j_top (y0 := nI (mm j)) (hM.2.1.2.2.1 _ (by omega)) ?_
          exact j_iret dX6_node_64 rfl rfl ⟨rfl, rfl, _, rfl, (ndAns_1 hndj (sw_eq (k := 1) e23)).symm⟩
        | 2, _, e23 =>
          refine j_tIn (tgt := 65) dX6_node_23 (by rw [e23]; decide) (by rw [e23]; decide) (by rw [e23]; rfl) (by decide) ?_
          refine j_aload_n dX6_node_65 rfl ?_
          refine j_iload_n dX6_node_66 rfl ?_
          refine j_callV (y' := mX6_tiedMany) (As := [.int (nI j)]) (st := []) dX6_node_67 lkX6_152 okX6_tiedMany imX6_tiedMany seX6_tiedMany (Nat.le_of_ble_eq_true rfl) rfl rfl rfl rfl (Nat.le_of_ble_eq_true rfl) (Nat.le_of_ble_eq_true rfl) (m_tiedMany z _ _ _ _ _ _ _ _ j (by omega) F A hM) (fun v67 F67 A67 hq67 => ?_)
          obtain ⟨rfl, rfl, r67, rfl, hr67⟩ := hq67
          exact j_iret dX6_node_70 rfl rfl ⟨rfl, rfl, _, rfl, by rw [ndAns_2 hndj (sw_eq (k := 2) e23), hr67, dgN_n hM1 (fun v h1 h2 => hw.off (by omega) h2 (Or.inr h1))]⟩
        | q + 3, hq, _ => exact absurd hq (by omega)
    · have hx := (hr14.resolve_left (fun h => by omega)).2
      have hno := ndAns_x (n := n) (mm := mm) (row := A 5) (x1 := nI j) (x2 := x2) (fun e => hx (by rw [e]; decide +kernel)) (fun e => hx (by rw [e]; decide +kernel)) (fun e => hx (by rw [e]; decide +kernel)) (fun e => hx (by rw [e]; decide +kernel))
      refine j_iconst (v := (-1)) dX6_node_20 (by decide +kernel) ?_
      exact j_iret dX6_node_21 rfl rfl ⟨rfl, rfl, _, rfl, hno.symm⟩

set_option maxHeartbeats 400000 in
set_option maxRecDepth 100000 in
theorem m_cost (z : mj_B) (d : Nat) (L : Lg) (n : Nat) (mm : Nat → Nat) (rn : Nat) (rm : Nat → Nat) (un kn : Nat) (x1 x2 : Int32) (F A : mj_S) (hM : MI L n mm rn rm un kn F A) (hw : wr n mm (A 5)) : J (gM z) mX6_cost (d + 3) 0 [(0, .ref 0), (1, .int x1), (2, .int x2)] [] F A (qP F A fun r => r = coAns n mm (A 5) x1 x2) := by
  have hM0 := hM.1.2.1
  have hM1 := hM.2.1.2.1
  have hM2 := hM.2.2.1.2.1
  have hM3 := hM.2.2.2.1.2
  have hM4 := hM.2.2.2.2.1.2
  have hm4 : ∀ u, u < n → mm u ≤ 4 := fun u _ => hM.2.1.2.2.2.1 u
  refine j_aload_n dX6_cost_0 rfl ?_
  refine j_iload_n dX6_cost_1 rfl ?_
  refine j_iload_n dX6_cost_2 rfl ?_
  refine j_callV (y' := mX6_isChoice) (As := [.int x1, .int x2]) (st := []) dX6_cost_3 lkX6_155 okX6_isChoice imX6_isChoice seX6_isChoice (Nat.le_of_ble_eq_true rfl) rfl rfl rfl rfl (Nat.le_of_ble_eq_true rfl) (Nat.le_of_ble_eq_true rfl) (m_isChoice z _ _ _ _ _ _ _ _ x1 x2 F A hM) (fun v3 F3 A3 hq3 => ?_)
  obtain ⟨rfl, rfl, r3, rfl, hr3⟩ := hq3
  have hb3 : r3 ≤ 1 := by omega
  refine j_if_eqN (tgt := 18) dX6_cost_6 (by decide) (by omega) (fun c6 => ?_) (fun c6 => ?_)
  · have hch := chO_none hM1 hm4 (hr3.resolve_left (fun h => by omega)).2
    refine j_iconst (v := (-1)) dX6_cost_18 (by decide +kernel) ?_
    exact j_iret dX6_cost_19 rfl rfl ⟨rfl, rfl, _, rfl, by first | exact (coAns_n hch).symm | rw [coAns_s hchj, hr12]⟩
  · obtain ⟨j, k, hj, hk, rfl, rfl⟩ := (hr3.resolve_right (fun h => by omega)).2
    have h8j : j < 8 := by omega
    have h4k := hM.2.1.2.2.2.1 j
    have hchj := chO_some hM1 h4k hj hk
    refine j_aload_n dX6_cost_9 rfl ?_
    refine j_iload_n dX6_cost_10 rfl ?_
    refine j_iload_n dX6_cost_11 rfl ?_
    refine j_callV (y' := mX6_costOf) (As := [.int (nI j), .int (nI k)]) (st := []) dX6_cost_12 lkX6_158 okX6_costOf imX6_costOf seX6_costOf (Nat.le_of_ble_eq_true rfl) rfl rfl rfl rfl (Nat.le_of_ble_eq_true rfl) (Nat.le_of_ble_eq_true rfl) (m_costOf z _ j k F A n mm hw hj hk) (fun v12 F12 A12 hq12 => ?_)
    obtain ⟨rfl, rfl, r12, rfl, hr12⟩ := hq12
    refine j_goto (tgt := 19) dX6_cost_15 (by decide) ?_
    exact j_iret dX6_cost_19 rfl rfl ⟨rfl, rfl, _, rfl, by first | exact (coAns_n hch).symm | rw [coAns_s hchj, hr12]⟩

set_option maxHeartbeats 400000 in
set_option maxRecDepth 100000 in
theorem m_tie (z : mj_B) (d : Nat) (L : Lg) (n : Nat) (mm : Nat → Nat) (rn : Nat) (rm : Nat → Nat) (un kn : Nat) (x1 x2 x3 x4 : Int32) (F A : mj_S) (hM : MI L n mm rn rm un kn F A) (hw : wr n mm (A 5)) : J (gM z) mX6_tie (d + 3) 0 [(0, .ref 0), (1, .int x1), (2, .int x2), (3, .int x3), (4, .int x4)] [] F A (qP F A fun r => r = tiAns n mm (A 5) x1 x2 x3 x4) := by
  have hM0 := hM.1.2.1
  have hM1 := hM.2.1.2.1
  have hM2 := hM.2.2.1.2.1
  have hM3 := hM.2.2.2.1.2
  have hM4 := hM.2.2.2.2.1.2
  have hm4 : ∀ u, u < n → mm u ≤ 4 := fun u _ => hM.2.1.2.2.2.1 u
  refine j_iload_n dX6_tie_0 rfl ?_
  refine j_iload_n dX6_tie_1 rfl ?_
  refine j_icmp_eq (tgt := 24) dX6_tie_2 (by decide) (fun c2 => ?_) (fun c2 => ?_)
  · have hti := tiAns_e (n := n) (mm := mm) (row := A 5) (x3 := x3) (x4 := x4) c2
    refine j_iconst (v := (-1)) dX6_tie_24 (by decide +kernel) ?_
    exact j_iret dX6_tie_25 rfl rfl ⟨rfl, rfl, _, rfl, by first | exact hti.symm | rw [tiAns_t c2 hchj hchj2 htd, hr41]⟩
  · refine j_aload_n dX6_tie_5 rfl ?_
    refine j_iload_n dX6_tie_6 rfl ?_
    refine j_iload_n dX6_tie_7 rfl ?_
    refine j_callV (y' := mX6_isChoice) (As := [.int x1, .int x3]) (st := []) dX6_tie_8 lkX6_155 okX6_isChoice imX6_isChoice seX6_isChoice (Nat.le_of_ble_eq_true rfl) rfl rfl rfl rfl (Nat.le_of_ble_eq_true rfl) (Nat.le_of_ble_eq_true rfl) (m_isChoice z _ _ _ _ _ _ _ _ x1 x3 F A hM) (fun v8 F8 A8 hq8 => ?_)
    obtain ⟨rfl, rfl, r8, rfl, hr8⟩ := hq8
    have hb8 : r8 ≤ 1 := by omega
    refine j_if_eqN (tgt := 24) dX6_tie_11 (by decide) (by omega) (fun c11 => ?_) (fun c11 => ?_)
    · have hch := chO_none hM1 hm4 (hr8.resolve_left (fun h => by omega)).2
      have hti := tiAns_1 (row := A 5) (x4 := x4) c2 hch
      refine j_iconst (v := (-1)) dX6_tie_24 (by decide +kernel) ?_
      exact j_iret dX6_tie_25 rfl rfl ⟨rfl, rfl, _, rfl, by first | exact hti.symm | rw [tiAns_t c2 hchj hchj2 htd, hr41]⟩
    · obtain ⟨j, k, hj, hk, rfl, rfl⟩ := (hr8.resolve_right (fun h => by omega)).2
      have h8j : j < 8 := by omega
      have h4k := hM.2.1.2.2.2.1 j
      have hchj := chO_some hM1 h4k hj hk
      refine j_aload_n dX6_tie_14 rfl ?_
      refine j_iload_n dX6_tie_15 rfl ?_
      refine j_iload dX6_tie_16 rfl ?_
      refine j_callV (y' := mX6_isChoice) (As := [.int x2, .int x4]) (st := []) dX6_tie_18 lkX6_155 okX6_isChoice imX6_isChoice seX6_isChoice (Nat.le_of_ble_eq_true rfl) rfl rfl rfl rfl (Nat.le_of_ble_eq_true rfl) (Nat.le_of_ble_eq_true rfl) (m_isChoice z _ _ _ _ _ _ _ _ x2 x4 F A hM) (fun v18 F18 A18 hq18 => ?_)
      obtain ⟨rfl, rfl, r18, rfl, hr18⟩ := hq18
      have hb18 : r18 ≤ 1 := by omega
      refine j_if_neN (tgt := 26) dX6_tie_21 (by decide) (by omega) (fun c21 => ?_) (fun c21 => ?_)
      · obtain ⟨j2, k2, hj2, hk2, rfl, rfl⟩ := (hr18.resolve_right (fun h => by omega)).2
        have h8j2 : j2 < 8 := by omega
        have h4k2 := hM.2.1.2.2.2.1 j2
        have hchj2 := chO_some hM1 h4k2 hj2 hk2
        have hne : j ≠ j2 := fun e => c2 (by rw [e])
        refine j_aload_n dX6_tie_26 rfl ?_
        refine j_iload_n dX6_tie_27 rfl ?_
        refine j_iload_n dX6_tie_28 rfl ?_
        refine j_callV (y' := mX6_isTied) (As := [.int (nI j), .int (nI j2)]) (st := []) dX6_tie_29 lkX6_146 okX6_isTied imX6_isTied seX6_isTied (Nat.le_of_ble_eq_true rfl) rfl rfl rfl rfl (Nat.le_of_ble_eq_true rfl) (Nat.le_of_ble_eq_true rfl) (m_isTied z _ j j2 (by omega) (by omega) F A) (fun v29 F29 A29 hq29 => ?_)
        obtain ⟨rfl, rfl, r29, rfl, hr29⟩ := hq29
        have hb29 : r29 ≤ 1 := by omega
        refine j_if_eqN (tgt := 47) dX6_tie_32 (by decide) (by omega) (fun c32 => ?_) (fun c32 => ?_)
        · have hti := tiAns_u (row := A 5) c2 hchj hchj2 (fun q => (hr29.resolve_left (fun h => by omega)).2 ⟨hne, q⟩)
          refine j_bipush (v := (-4)) dX6_tie_47 (by decide +kernel) ?_
          exact j_iret dX6_tie_49 rfl rfl ⟨rfl, rfl, _, rfl, by first | exact hti.symm | rw [tiAns_t c2 hchj hchj2 htd, hr41]⟩
        · have htd := (hr29.resolve_right (fun h => by omega)).2.2
          refine j_aload_n dX6_tie_35 rfl ?_
          refine j_iload_n dX6_tie_36 rfl ?_
          refine j_iload_n dX6_tie_37 rfl ?_
          refine j_iload_n dX6_tie_38 rfl ?_
          refine j_iload dX6_tie_39 rfl ?_
          refine j_callV (y' := mX6_tieOf) (As := [.int (nI j), .int (nI j2), .int (nI k), .int (nI k2)]) (st := []) dX6_tie_41 lkX6_162 okX6_tieOf imX6_tieOf seX6_tieOf (Nat.le_of_ble_eq_true rfl) rfl rfl rfl rfl (Nat.le_of_ble_eq_true rfl) (Nat.le_of_ble_eq_true rfl) (m_tieOf z _ j j2 k k2 F A n mm hw hj hj2 hne hk hk2 htd) (fun v41 F41 A41 hq41 => ?_)
          obtain ⟨rfl, rfl, r41, rfl, hr41⟩ := hq41
          refine j_goto (tgt := 49) dX6_tie_44 (by decide) ?_
          exact j_iret dX6_tie_49 rfl rfl ⟨rfl, rfl, _, rfl, by first | exact hti.symm | rw [tiAns_t c2 hchj hchj2 htd, hr41]⟩
      · have hch := chO_none hM1 hm4 (hr18.resolve_left (fun h => by omega)).2
        have hti := tiAns_2 (row := A 5) c2 hchj hch
        refine j_iconst (v := (-1)) dX6_tie_24 (by decide +kernel) ?_
        exact j_iret dX6_tie_25 rfl rfl ⟨rfl, rfl, _, rfl, by first | exact hti.symm | rw [tiAns_t c2 hchj hchj2 htd, hr41]⟩

set_option maxHeartbeats 400000 in
set_option maxRecDepth 100000 in
theorem m_pinned (z : mj_B) (d : Nat) (L : Lg) (n : Nat) (mm : Nat → Nat) (rn : Nat) (rm : Nat → Nat) (un kn : Nat) (F A : mj_S) (hM : MI L n mm rn rm un kn F A) : J (gM z) mX6_pinned d 0 [(0, .ref 0)] [] F A (qN F A fun q => q = pnN (A 5) n) := by
  have hM0 := hM.1.2.1
  have hM1 := hM.2.1.2.1
  have hM2 := hM.2.2.1.2.1
  have hM3 := hM.2.2.2.1.2
  have hM4 := hM.2.2.2.2.1.2
  have L4 : ∀ (fuel : Nat) (q : Nat) (v : Nat), (v ≤ n) → (q = pnN (A 5) v) → n - v < fuel → J (gM z) mX6_pinned d 4 [(0, .ref 0), (1, .int (nI q)), (2, .int (nI v))] [] F A (qN F A fun q => q = pnN (A 5) n) := by
    intro fuel
    induction fuel with
    | zero => intro q v h1 hq0 hf; exact absurd hf (by omega)
    | succ fuel ih4 =>
      intro q v h1 hq0 hf
      have hq8 : q ≤ v := by rw [hq0]; exact pnN_le _ _
      refine j_iload_n dX6_pinned_4 rfl ?_
      refine j_aload_n dX6_pinned_5 rfl ?_
      refine j_getI dX6_pinned_6 flX6_132 (Nat.le_of_ble_eq_true rfl) rfl rfl ?_
      refine j_top (y0 := nI n) hM.2.1.1 ?_
      refine j_icmp_geN (tgt := 38) dX6_pinned_9 (by decide) (by omega) (by omega) (fun c9 => ?_) (fun c9 => ?_)
      · refine j_iload_n dX6_pinned_38 rfl ?_
        exact j_iret dX6_pinned_39 rfl rfl ⟨rfl, rfl, _, rfl, by rw [hq0, show v = n by omega]⟩
      · refine j_iload_n dX6_pinned_12 rfl ?_
        refine j_aload_n dX6_pinned_13 rfl ?_
        refine j_getR (r := 5) dX6_pinned_14 flX6_22 (Nat.le_of_ble_eq_true rfl) rfl rfl ?_
        refine j_bipush (v := nI 40) dX6_pinned_17 (by decide +kernel) ?_
        refine j_iload_n dX6_pinned_19 rfl ?_
        refine j_iaddN dX6_pinned_20 ?_
        refine j_ialdN dX6_pinned_21 (Nat.le_of_ble_eq_true rfl) rfl (by omega) (by decide) ?_
        refine j_if_le (tgt := 29) dX6_pinned_22 (by decide) (fun c22 => ?_) (fun c22 => ?_)
        · refine j_iconst (v := nI 0) dX6_pinned_29 (by decide +kernel) ?_
          refine j_iaddN dX6_pinned_30 ?_
          refine j_istore_n (lv' := [(0, .ref 0), (1, .int (nI (q + 0))), (2, .int (nI v))]) dX6_pinned_31 (Nat.le_of_ble_eq_true rfl) rfl rfl ?_
          refine j_iinc (v := nI (v + 1)) (lv' := [(0, .ref 0), (1, .int (nI (q + 0))), (2, .int (nI (v + 1)))]) dX6_pinned_32 rfl (nI_add _ 1) (Nat.le_of_ble_eq_true rfl) rfl rfl ?_
          refine j_goto (tgt := 4) dX6_pinned_35 (by decide) ?_
          exact ih4 (q + 0) (v + 1) (by first | exact h1 | omega) (by first | exact pnN_t hq0 (Int32.not_le.mp c22) | exact pnN_f hq0 (Int32.not_lt.mpr c22)) (by omega)
        · refine j_iconst (v := nI 1) dX6_pinned_25 (by decide +kernel) ?_
          refine j_goto (tgt := 30) dX6_pinned_26 (by decide) ?_
          refine j_iaddN dX6_pinned_30 ?_
          refine j_istore_n (lv' := [(0, .ref 0), (1, .int (nI (q + 1))), (2, .int (nI v))]) dX6_pinned_31 (Nat.le_of_ble_eq_true rfl) rfl rfl ?_
          refine j_iinc (v := nI (v + 1)) (lv' := [(0, .ref 0), (1, .int (nI (q + 1))), (2, .int (nI (v + 1)))]) dX6_pinned_32 rfl (nI_add _ 1) (Nat.le_of_ble_eq_true rfl) rfl rfl ?_
          refine j_goto (tgt := 4) dX6_pinned_35 (by decide) ?_
          exact ih4 (q + 1) (v + 1) (by first | exact h1 | omega) (by first | exact pnN_t hq0 (Int32.not_le.mp c22) | exact pnN_f hq0 (Int32.not_lt.mpr c22)) (by omega)
  refine j_iconst (v := nI 0) dX6_pinned_0 (by decide +kernel) ?_
  refine j_istore_n (lv' := [(0, .ref 0), (1, .int (nI 0))]) dX6_pinned_1 (Nat.le_of_ble_eq_true rfl) rfl rfl ?_
  refine j_iconst (v := nI 0) dX6_pinned_2 (by decide +kernel) ?_
  refine j_istore_n (lv' := [(0, .ref 0), (1, .int (nI 0)), (2, .int (nI 0))]) dX6_pinned_3 (Nat.le_of_ble_eq_true rfl) rfl rfl ?_
  exact L4 _ 0 0 (by first | exact h1 | omega) rfl (Nat.lt_succ_self _)

set_option maxHeartbeats 400000 in
set_option maxRecDepth 100000 in
theorem m_count (z : mj_B) (d : Nat) (L : Lg) (n : Nat) (mm : Nat → Nat) (rn : Nat) (rm : Nat → Nat) (un kn : Nat) (x1 : Int32) (F A : mj_S) (hM : MI L n mm rn rm un kn F A) : J (gM z) mX6_count (d + 1) 0 [(0, .ref 0), (1, .int x1)] [] F A (qP F A fun r => r = ctAns n (A 5) un kn L.1 x1) := by
  have hM0 := hM.1.2.1
  have hM1 := hM.2.1.2.1
  have hM2 := hM.2.2.1.2.1
  have hM3 := hM.2.2.2.1.2
  have hM4 := hM.2.2.2.2.1.2
  refine j_iload_n dX6_count_0 rfl ?_
  by_cases c1 : x1.toInt < 0 ∨ 5 < x1.toInt
  · refine j_tOut (tgt := 73) dX6_count_1 c1 (by decide) ?_
    refine j_iconst (v := (-1)) dX6_count_73 (by decide +kernel) ?_
    exact j_iret dX6_count_74 rfl rfl ⟨rfl, rfl, _, rfl, (ctAns_x (fun k hk => sw_ne c1 k (by omega) (by omega))).symm⟩
  · obtain ⟨q1, hq1, e1⟩ := mj_sw (n := 6) x1 c1 (by decide)
    match q1, hq1, e1 with
    | 0, _, e1 =>
      refine j_tIn (tgt := 40) dX6_count_1 (by rw [e1]; decide) (by rw [e1]; decide) (by rw [e1]; rfl) (by decide) ?_
      refine j_aload_n dX6_count_40 rfl ?_
      refine j_getI dX6_count_41 flX6_132 (Nat.le_of_ble_eq_true rfl) rfl rfl ?_
      refine j_top (y0 := nI n) hM.2.1.1 ?_
      exact j_iret dX6_count_44 rfl rfl ⟨rfl, rfl, _, rfl, (ctAns_0 (sw_eq (k := 0) e1)).symm⟩
    | 1, _, e1 =>
      refine j_tIn (tgt := 45) dX6_count_1 (by rw [e1]; decide) (by rw [e1]; decide) (by rw [e1]; rfl) (by decide) ?_
      refine j_aload_n dX6_count_45 rfl ?_
      refine j_getR (r := 5) dX6_count_46 flX6_22 (Nat.le_of_ble_eq_true rfl) rfl rfl ?_
      refine j_callS (y' := mX6_tiesIn) (As := [.ref 5]) (st := []) dX6_count_49 lkX6_116 okX6_tiesIn stX6_tiesIn rfl (Nat.le_of_ble_eq_true rfl) (Nat.le_of_ble_eq_true rfl) (m_tiesIn z _ 5 (Nat.le_of_ble_eq_true rfl) rfl F A) (fun v49 F49 A49 hq49 => ?_)
      obtain ⟨rfl, rfl, r49, rfl, hr49⟩ := hq49
      have hl49 : r49 ≤ 28 := by rw [hr49]; exact tsN_le _ 28
      exact j_iret dX6_count_52 rfl rfl ⟨rfl, rfl, _, rfl, by rw [ctAns_1 (sw_eq (k := 1) e1), hr49]⟩
    | 2, _, e1 =>
      refine j_tIn (tgt := 53) dX6_count_1 (by rw [e1]; decide) (by rw [e1]; decide) (by rw [e1]; rfl) (by decide) ?_
      refine j_aload_n dX6_count_53 rfl ?_
      refine j_callV (y' := mX6_pinned) (As := []) (st := []) dX6_count_54 lkX6_250 okX6_pinned imX6_pinned seX6_pinned (Nat.le_of_ble_eq_true rfl) rfl rfl rfl rfl (Nat.le_of_ble_eq_true rfl) (Nat.le_of_ble_eq_true rfl) (m_pinned z _ _ _ _ _ _ _ _ F A hM) (fun v54 F54 A54 hq54 => ?_)
      obtain ⟨rfl, rfl, r54, rfl, hr54⟩ := hq54
      exact j_iret dX6_count_57 rfl rfl ⟨rfl, rfl, _, rfl, by rw [ctAns_2 (sw_eq (k := 2) e1), hr54]⟩
    | 3, _, e1 =>
      refine j_tIn (tgt := 58) dX6_count_1 (by rw [e1]; decide) (by rw [e1]; decide) (by rw [e1]; rfl) (by decide) ?_
      refine j_aload_n dX6_count_58 rfl ?_
      refine j_getI dX6_count_59 flX6_135 (Nat.le_of_ble_eq_true rfl) rfl rfl ?_
      refine j_top (y0 := nI un) hM.2.2.2.1.1 ?_
      exact j_iret dX6_count_62 rfl rfl ⟨rfl, rfl, _, rfl, (ctAns_3 (sw_eq (k := 3) e1)).symm⟩
    | 4, _, e1 =>
      refine j_tIn (tgt := 63) dX6_count_1 (by rw [e1]; decide) (by rw [e1]; decide) (by rw [e1]; rfl) (by decide) ?_
      refine j_aload_n dX6_count_63 rfl ?_
      refine j_getI dX6_count_64 flX6_138 (Nat.le_of_ble_eq_true rfl) rfl rfl ?_
      refine j_top (y0 := nI kn) hM.2.2.2.2.1.1 ?_
      exact j_iret dX6_count_67 rfl rfl ⟨rfl, rfl, _, rfl, (ctAns_4 (sw_eq (k := 4) e1)).symm⟩
    | 5, _, e1 =>
      refine j_tIn (tgt := 68) dX6_count_1 (by rw [e1]; decide) (by rw [e1]; decide) (by rw [e1]; rfl) (by decide) ?_
      refine j_aload_n dX6_count_68 rfl ?_
      refine j_getI dX6_count_69 flX6_93 (Nat.le_of_ble_eq_true rfl) rfl rfl ?_
      refine j_top (y0 := nI (L.1)) hM.1.1 ?_
      exact j_iret dX6_count_72 rfl rfl ⟨rfl, rfl, _, rfl, (ctAns_5 (sw_eq (k := 5) e1)).symm⟩
    | q + 6, hq, _ => exact absurd hq (by omega)

theorem sh_s {A A1 : mj_S} {k : Nat} (h : ∀ i, A1 6 i = if i < k then A 6 (500 + i) else A 6 i) : ∀ i, mj_u A1 6 k (A1 6 (500 + k)) 6 i = if i < k + 1 then A 6 (500 + i) else A 6 i := fun i => by
  rw [mj_u_at]
  by_cases e : i = k
  · rw [e, pk_us, if_pos (by omega), h, if_neg (by omega)]
  · rw [pk_un e, h]
    by_cases e2 : i < k
    · rw [if_pos e2, if_pos (by omega)]
    · rw [if_neg e2, if_neg (by omega)]
theorem note_fin {f : Nat → Int32} {r : Nat → Int32} {P P1 : Nat → Nat → Int32} {un u1 : Nat} (hpp : pushN un = u1 + 1 ∧ pushP un P r = fun k => if k = u1 then r else P1 k) (hb : ∀ k' j, k' < u1 → j < 500 → f (500 * k' + j) = P1 k' j) (hn : ∀ j, j < 500 → f (500 * u1 + j) = r j) : ∀ k j, k < pushN un → j < 500 → f (500 * k + j) = pushP un P r k j := fun k j hk hj => by
  rw [hpp.2]
  rw [hpp.1] at hk
  by_cases e : k = u1
  · simp only [if_pos e]
    rw [e]; exact hn j hj
  · simp only [if_neg e]
    exact hb k j (by omega) hj

set_option maxHeartbeats 400000 in
set_option maxRecDepth 100000 in
theorem m_note (z : mj_B) (d : Nat) (T : Nat) (n : Nat) (mm : Nat → Nat) (rn : Nat) (rm : Nat → Nat) (un kn : Nat) (F A : mj_S) (hM : MK T n mm rn rm un kn F A) : J (gM z) mX6_note d 0 [(0, .ref 0)] [] F A (fun v F' A' => v = none ∧ MK T n mm rn rm (pushN un) kn F' A' ∧ (A' 1 = A 1 ∧ A' 5 = A 5 ∧ A' 7 = A 7) ∧ ∀ k j, k < pushN un → j < 500 → A' 6 (500 * k + j) = pushP un (rwK (A 6)) (A 5) k j) := by
  have hM0 := hM.1.2.1
  have hM1 := hM.2.1.2.1
  have hM2 := hM.2.2.1.2.1
  have hM3 := hM.2.2.2.1.2
  have hM4 := hM.2.2.2.2.1.2
  have L52 : ∀ (fuel : Nat) (k : Nat) (u1 : Nat) (P1 : Nat → Nat → Int32) (F1 A1 : mj_S), (MK T n mm rn rm u1 kn F1 A1) → (A1 1 = A 1 ∧ A1 5 = A 5 ∧ A1 7 = A 7) → (u1 ≤ 7 ∧ k ≤ 500) → (pushN un = u1 + 1 ∧ pushP un (rwK (A 6)) (A 5) = fun k => if k = u1 then A 5 else P1 k) → (∀ k' j, k' < u1 → j < 500 → A1 6 (500 * k' + j) = P1 k' j) → (∀ j, j < k → A1 6 (500 * u1 + j) = A 5 j) → 500 - k < fuel → J (gM z) mX6_note d 52 [(0, .ref 0), (1, .int (nI k))] [] F1 A1 (fun v F' A' => v = none ∧ MK T n mm rn rm (pushN un) kn F' A' ∧ (A' 1 = A 1 ∧ A' 5 = A 5 ∧ A' 7 = A 7) ∧ ∀ k j, k < pushN un → j < 500 → A' 6 (500 * k + j) = pushP un (rwK (A 6)) (A 5) k j) := by
    intro fuel
    induction fuel with
    | zero => intro k u1 P1 F1 A1 hM hfr h1 hpp hb hn hf; exact absurd hf (by omega)
    | succ fuel ih52 =>
      intro k u1 P1 F1 A1 hM hfr h1 hpp hb hn hf
      refine j_iload_n dX6_note_52 rfl ?_
      refine j_sipush (v := nI 500) dX6_note_53 (by decide +kernel) ?_
      refine j_icmp_geN (tgt := 86) dX6_note_56 (by decide) (by omega) (by omega) (fun c56 => ?_) (fun c56 => ?_)
      · refine j_aload_n dX6_note_86 rfl ?_
        refine j_dup dX6_note_87 rfl ?_
        refine j_getI dX6_note_88 flX6_135 (Nat.le_of_ble_eq_true rfl) rfl rfl ?_
        refine j_top (y0 := nI u1) hM.2.2.2.1.1 ?_
        refine j_iconst (v := nI 1) dX6_note_91 (by decide +kernel) ?_
        refine j_iaddN dX6_note_92 ?_
        refine j_putI dX6_note_93 fpX6_135 (Nat.le_of_ble_eq_true rfl) rfl rfl ?_
        have hM := hM.un' (u := u1 + 1) (by omega)
        exact j_vret dX6_note_96 rfl ⟨rfl, by rw [hpp.1]; exact hM, hfr, note_fin hpp hb (fun j hj => hn j (by omega))⟩
      · refine j_aload_n dX6_note_59 rfl ?_
        refine j_getR (r := 6) dX6_note_60 flX6_25 (Nat.le_of_ble_eq_true rfl) rfl rfl ?_
        refine j_sipush (v := nI 500) dX6_note_63 (by decide +kernel) ?_
        refine j_aload_n dX6_note_66 rfl ?_
        refine j_getI dX6_note_67 flX6_135 (Nat.le_of_ble_eq_true rfl) rfl rfl ?_
        refine j_top (y0 := nI u1) hM.2.2.2.1.1 ?_
        refine j_imulN dX6_note_70 ?_
        refine j_iload_n dX6_note_71 rfl ?_
        refine j_iaddN dX6_note_72 ?_
        refine j_aload_n dX6_note_73 rfl ?_
        refine j_getR (r := 5) dX6_note_74 flX6_22 (Nat.le_of_ble_eq_true rfl) rfl rfl ?_
        refine j_iload_n dX6_note_77 rfl ?_
        refine j_ialdN dX6_note_78 (Nat.le_of_ble_eq_true rfl) rfl (by omega) (by decide) ?_
        refine j_iastN dX6_note_79 (Nat.le_of_ble_eq_true rfl) rfl (by omega) (by decide) ?_
        refine j_iinc (v := nI (k + 1)) (lv' := [(0, .ref 0), (1, .int (nI (k + 1)))]) dX6_note_80 rfl (nI_add _ 1) (Nat.le_of_ble_eq_true rfl) rfl rfl ?_
        refine j_goto (tgt := 52) dX6_note_83 (by decide) ?_
        exact ih52 (k + 1) u1 P1 F1 (mj_u A1 6 (500 * u1 + k) (A1 5 k)) (by first | exact hM | omega) (by first | exact hfr | omega) (by first | exact h1 | omega) (by first | exact hpp | omega) (fun k' j h2 h3 => by rw [mj_u_at, pk_un (by omega)]; exact hb k' j h2 h3) (fun j hj => by rw [mj_u_at]; exact if e : j = k then (by rw [e, pk_us, hfr.2.1]) else (by rw [pk_un (by omega)]; exact hn j (by omega))) (by omega)
  have L50 : ∀ (u1 : Nat) (P1 : Nat → Nat → Int32) (F1 A1 : mj_S), (MK T n mm rn rm u1 kn F1 A1) → (A1 1 = A 1 ∧ A1 5 = A 5 ∧ A1 7 = A 7) → (u1 ≤ 7) → (pushN un = u1 + 1 ∧ pushP un (rwK (A 6)) (A 5) = fun k => if k = u1 then A 5 else P1 k) → (∀ k' j, k' < u1 → j < 500 → A1 6 (500 * k' + j) = P1 k' j) → J (gM z) mX6_note d 50 [(0, .ref 0)] [] F1 A1 (fun v F' A' => v = none ∧ MK T n mm rn rm (pushN un) kn F' A' ∧ (A' 1 = A 1 ∧ A' 5 = A 5 ∧ A' 7 = A 7) ∧ ∀ k j, k < pushN un → j < 500 → A' 6 (500 * k + j) = pushP un (rwK (A 6)) (A 5) k j) := by
    intro u1 P1 F1 A1 hM hfr h1 hpp hb
    refine j_iconst (v := nI 0) dX6_note_50 (by decide +kernel) ?_
    refine j_istore_n (lv' := [(0, .ref 0), (1, .int (nI 0))]) dX6_note_51 (Nat.le_of_ble_eq_true rfl) rfl rfl ?_
    exact L52 _ 0 u1 P1 F1 A1 (by first | exact hM | omega) (by first | exact hfr | omega) (by first | exact h1 | omega) (by first | exact hpp | omega) (by first | exact hb | omega) (fun j hj => absurd hj (by omega)) (Nat.lt_succ_self _)
  have L11 : ∀ (fuel : Nat) (k : Nat) (F1 A1 : mj_S), (MK T n mm rn rm 8 kn F1 A1) → (A1 1 = A 1 ∧ A1 5 = A 5 ∧ A1 7 = A 7) → (k ≤ 3500) → (8 = un) → (∀ i, A1 6 i = if i < k then A 6 (500 + i) else A 6 i) → 3500 - k < fuel → J (gM z) mX6_note d 11 [(0, .ref 0), (1, .int (nI k))] [] F1 A1 (fun v F' A' => v = none ∧ MK T n mm rn rm (pushN un) kn F' A' ∧ (A' 1 = A 1 ∧ A' 5 = A 5 ∧ A' 7 = A 7) ∧ ∀ k j, k < pushN un → j < 500 → A' 6 (500 * k + j) = pushP un (rwK (A 6)) (A 5) k j) := by
    intro fuel
    induction fuel with
    | zero => intro k F1 A1 hM hfr h1 hu8 h6 hf; exact absurd hf (by omega)
    | succ fuel ih11 =>
      intro k F1 A1 hM hfr h1 hu8 h6 hf
      refine j_iload_n dX6_note_11 rfl ?_
      refine j_sipush (v := nI 3500) dX6_note_12 (by decide +kernel) ?_
      refine j_icmp_geN (tgt := 40) dX6_note_15 (by decide) (by omega) (by omega) (fun c15 => ?_) (fun c15 => ?_)
      · refine j_aload_n dX6_note_40 rfl ?_
        refine j_dup dX6_note_41 rfl ?_
        refine j_getI dX6_note_42 flX6_135 (Nat.le_of_ble_eq_true rfl) rfl rfl ?_
        refine j_top (y0 := nI 8) hM.2.2.2.1.1 ?_
        refine j_iconst (v := nI 1) dX6_note_45 (by decide +kernel) ?_
        refine j_isubN dX6_note_46 (by omega) ?_
        refine j_putI dX6_note_47 fpX6_135 (Nat.le_of_ble_eq_true rfl) rfl rfl ?_
        have hM := hM.un' (u := 8 - 1) (by omega)
        refine j_sub [0] rfl ?_
        exact L50 7 (fun k => rwK (A 6) (k + 1)) (mj_u F1 0 9 (nI (8 - 1))) A1 (by first | exact hM | omega) (by first | exact hfr | omega) (by first | exact h1 | omega) ⟨by rw [← hu8]; rfl, by rw [← hu8]; exact funext fun k => pushP_8⟩ (fun k' j h2 h3 => by rw [h6, if_pos (by omega)]; unfold rwK; congr 1; omega)
      · refine j_aload_n dX6_note_18 rfl ?_
        refine j_getR (r := 6) dX6_note_19 flX6_25 (Nat.le_of_ble_eq_true rfl) rfl rfl ?_
        refine j_iload_n dX6_note_22 rfl ?_
        refine j_aload_n dX6_note_23 rfl ?_
        refine j_getR (r := 6) dX6_note_24 flX6_25 (Nat.le_of_ble_eq_true rfl) rfl rfl ?_
        refine j_sipush (v := nI 500) dX6_note_27 (by decide +kernel) ?_
        refine j_iload_n dX6_note_30 rfl ?_
        refine j_iaddN dX6_note_31 ?_
        refine j_ialdN dX6_note_32 (Nat.le_of_ble_eq_true rfl) rfl (by omega) (by decide) ?_
        refine j_iastN dX6_note_33 (Nat.le_of_ble_eq_true rfl) rfl (by omega) (by decide) ?_
        refine j_iinc (v := nI (k + 1)) (lv' := [(0, .ref 0), (1, .int (nI (k + 1)))]) dX6_note_34 rfl (nI_add _ 1) (Nat.le_of_ble_eq_true rfl) rfl rfl ?_
        refine j_goto (tgt := 11) dX6_note_37 (by decide) ?_
        exact ih11 (k + 1) F1 (mj_u A1 6 k (A1 6 (500 + k))) (by first | exact hM | omega) (by first | exact hfr | omega) (by first | exact h1 | omega) (by first | exact hu8 | omega) (sh_s h6) (by omega)
  refine j_aload_n dX6_note_0 rfl ?_
  refine j_getI dX6_note_1 flX6_135 (Nat.le_of_ble_eq_true rfl) rfl rfl ?_
  refine j_top (y0 := nI un) hM.2.2.2.1.1 ?_
  refine j_bipush (v := nI 8) dX6_note_4 (by decide +kernel) ?_
  refine j_icmp_neN (tgt := 50) dX6_note_6 (by decide) (by omega) (by omega) (fun c6 => ?_) (fun c6 => ?_)
  · exact L50 un (rwK (A 6)) F A (by first | exact hM | omega) ⟨rfl, rfl, rfl⟩ (by omega) ⟨pushN_s c6, funext fun k => pushP_s c6⟩ (fun _ _ _ _ => rfl)
  · have hu8 : 8 = un := c6.symm
    refine j_iconst (v := nI 0) dX6_note_9 (by decide +kernel) ?_
    refine j_istore_n (lv' := [(0, .ref 0), (1, .int (nI 0))]) dX6_note_10 (Nat.le_of_ble_eq_true rfl) rfl rfl ?_
    exact L11 _ 0 F A (by rw [← hu8] at hM; exact hM) ⟨rfl, rfl, rfl⟩ (by first | exact h1 | omega) (by first | exact hu8 | omega) (fun i => by rw [if_neg (by omega)]) (Nat.lt_succ_self _)
