/-! the constructors -/
theorem k_aload_any {z : mj_B} {y : mj_Y} {d pc : Nat} {st : List Value} {ws : va_W} {ce sl mc ms : Nat} {E : (Nat → Prop) → State → Prop} {Q : va_W → Prop} {lv : List (Nat × Value)} (h : Kj z y d pc lv st ws ce sl mc ms E Q) : Kj z y d pc lv st ws ce sl mc ms E Q := h
theorem arrV_ext {cA : ClassId} {n : Nat} {f g : Nat → Value} (h : ∀ j, j < n → f j = g j) : arrV cA n f = arrV cA n g := by
  unfold arrV
  congr 1
  apply Array.ext
  · simp
  · intro i h1 h2
    simp at h1 ⊢
    exact h i h1
theorem k_eqc {z : mj_B} {y : mj_Y} {d pc : Nat} {lv : List (Nat × Value)} {st : List Value} {ws : va_W} {ce sl mc ms : Nat} {E : (Nat → Prop) → State → Prop} {Q : va_W → Prop} {i a n : Nat} {cA : ClassId} {f : Nat → Option Nat} (g : Nat → Option Nat) (h : ws[i]? = some (a, .inl (cA, n, .inr (.inr (.inr (.inr f)))))) (hfg : ∀ j, j < n → f j = g j) (k : Kj z y d pc lv st (ws.set i (a, .inl (cA, n, .inr (.inr (.inr (.inr g)))))) ce sl mc ms E Q) : Kj z y d pc lv st ws ce sl mc ms E Q := by
  intro p e R s m args below meth c H locs ls A C hin hNW hK hP hD hS hA hl hR
  refine k p e R s m args below meth c H locs ls A C hin hNW hK ?_ (hD.set h) hS hA hl hR
  intro j q hj
  rw [List.getElem?_set] at hj
  by_cases e : i = j
  · rw [if_pos e] at hj
    subst e
    have hli : i < ws.length := (List.getElem?_eq_some_iff.mp h).1
    rw [if_pos hli] at hj
    cases hj
    have h0 := hP i _ h
    show H[a]? = some (vp_cell cA _)
    have h1 : H[a]? = some (vp_cell cA (n, .inr (.inr (.inr (.inr f))))) := h0
    rw [h1]
    congr 1
    show vp_cell cA (n, _) = vp_cell cA (n, _)
    rw [vp_cell_q, vp_cell_q]
    exact arrV_ext (fun j hj => by rw [hfg j hj])
  · rw [if_neg e] at hj
    exact hP j q hj
theorem k_newN {z : mj_B} {y : mj_Y} {d pc : Nat} {lv : List (Nat × Value)} {st : List Value} {ws : va_W} {ce sl mc ms : Nat} {E : (Nat → Prop) → State → Prop} {Q : va_W → Prop} {idx ci N' : Nat} {q : vw_C} {fs : List Value} (hd : decode y.2.1 pc = .ok (.new idx, 3)) (hq : vwCl[ci]? = some q) (hN : q.2.2 = N') (hw : Cond.classLink y.1.cls idx q.1 ∈ mj_TB) (hi : Cond.instantiable q.1 q.2.2 ∈ mj_TB) (hini : Cond.initialized q.1 ∈ mj_TB) (ty0 : Nat → FieldType) (hty : ∀ k, k < q.2.2 → parseFieldDescriptor (q.2.1 k).2.2.1 = some (ty0 k)) (hfs : ∀ j, j < q.2.2 → defaultValue (ty0 j) = vp_V fs j) (hc : ce + 1 ≤ mc) (hs : sl + N' ≤ ms) (k : ∀ a, Kj z y d (pc + 3) lv (.ref a :: st) (ws ++ [(a, .inr (ci, fs))]) (ce + 1) (sl + N') mc ms E Q) : Kj z y d pc lv st ws ce sl mc ms E Q := by
  subst hN
  exact k_new hd hq hw hi hini ty0 hty hfs hc hs k
theorem perm_back {α : Type} (x h : α) (t cs : List α) : (x :: (h :: (t ++ cs))).Perm (h :: (t ++ (x :: cs))) := (List.Perm.swap h x _).trans (List.perm_middle.symm.cons h)

theorem kfX0_9 : kj_FP RX0 9 0 1 (.array .int) := ⟨(RX0, TX0, 7), rfl, by decide, mj_in 95 (by decide +kernel) rfl, rfl, rfl, by decide +kernel⟩
theorem kfX0_15 : kj_FP RX0 15 0 2 (.array .int) := ⟨(RX0, TX0, 7), rfl, by decide, mj_in 99 (by decide +kernel) rfl, rfl, rfl, by decide +kernel⟩
theorem kfX0_18 : kj_FP RX0 18 0 3 (.array .int) := ⟨(RX0, TX0, 7), rfl, by decide, mj_in 101 (by decide +kernel) rfl, rfl, rfl, by decide +kernel⟩
theorem kfX0_21 : kj_FP RX0 21 0 4 (.array .int) := ⟨(RX0, TX0, 7), rfl, by decide, mj_in 103 (by decide +kernel) rfl, rfl, rfl, by decide +kernel⟩
theorem kfX0_24 : kj_FP RX0 24 0 5 (.array .int) := ⟨(RX0, TX0, 7), rfl, by decide, mj_in 107 (by decide +kernel) rfl, rfl, rfl, by decide +kernel⟩
theorem kfX0_27 : kj_FP RX0 27 0 6 (.array .int) := ⟨(RX0, TX0, 7), rfl, by decide, mj_in 110 (by decide +kernel) rfl, rfl, rfl, by decide +kernel⟩
theorem kfX1_9 : kj_FP RX1 9 1 0 (.array .char) := ⟨(RX1, TX1, 4), rfl, by decide, mj_in 136 (by decide +kernel) rfl, rfl, rfl, by decide +kernel⟩
theorem kfX1_15 : kj_FP RX1 15 1 1 (.object "CostChoices$Graph") := ⟨(RX1, TX1, 4), rfl, by decide, mj_in 137 (by decide +kernel) rfl, rfl, rfl, by decide +kernel⟩
theorem kfX2_9 : kj_FP RX2 9 2 0 (.array .int) := ⟨(RX2, TX2, 7), rfl, by decide, mj_in 187 (by decide +kernel) rfl, rfl, rfl, by decide +kernel⟩
theorem kfX2_15 : kj_FP RX2 15 2 1 (.array .int) := ⟨(RX2, TX2, 7), rfl, by decide, mj_in 189 (by decide +kernel) rfl, rfl, rfl, by decide +kernel⟩
theorem kfX2_18 : kj_FP RX2 18 2 2 (.array .int) := ⟨(RX2, TX2, 7), rfl, by decide, mj_in 191 (by decide +kernel) rfl, rfl, rfl, by decide +kernel⟩
theorem kfX2_21 : kj_FP RX2 21 2 4 (.array .int) := ⟨(RX2, TX2, 7), rfl, by decide, mj_in 195 (by decide +kernel) rfl, rfl, rfl, by decide +kernel⟩
theorem kfX2_27 : kj_FP RX2 27 2 5 (.object "CostChoices$Weights") := ⟨(RX2, TX2, 7), rfl, by decide, mj_in 196 (by decide +kernel) rfl, rfl, rfl, by decide +kernel⟩
theorem kfX3_9 : kj_FP RX3 9 3 4 (.array .int) := ⟨(RX3, TX3, 9), rfl, by decide, mj_in 227 (by decide +kernel) rfl, rfl, rfl, by decide +kernel⟩
theorem kfX3_15 : kj_FP RX3 15 3 5 (.array .int) := ⟨(RX3, TX3, 9), rfl, by decide, mj_in 229 (by decide +kernel) rfl, rfl, rfl, by decide +kernel⟩
theorem kfX3_18 : kj_FP RX3 18 3 6 (.array .int) := ⟨(RX3, TX3, 9), rfl, by decide, mj_in 230 (by decide +kernel) rfl, rfl, rfl, by decide +kernel⟩
theorem kfX3_21 : kj_FP RX3 21 3 7 (.object "CostChoices$Weights") := ⟨(RX3, TX3, 9), rfl, by decide, mj_in 231 (by decide +kernel) rfl, rfl, rfl, by decide +kernel⟩
theorem kfX3_25 : kj_FP RX3 25 3 8 (.boolean) := ⟨(RX3, TX3, 9), rfl, by decide, mj_in 232 (by decide +kernel) rfl, rfl, rfl, by decide +kernel⟩
theorem kfX4_9 : kj_FP RX4 9 4 1 (.array .int) := ⟨(RX4, TX4, 5), rfl, by decide, mj_in 159 (by decide +kernel) rfl, rfl, rfl, by decide +kernel⟩
theorem kfX4_15 : kj_FP RX4 15 4 2 (.array .int) := ⟨(RX4, TX4, 5), rfl, by decide, mj_in 162 (by decide +kernel) rfl, rfl, rfl, by decide +kernel⟩
theorem kfX4_18 : kj_FP RX4 18 4 3 (.array .int) := ⟨(RX4, TX4, 5), rfl, by decide, mj_in 165 (by decide +kernel) rfl, rfl, rfl, by decide +kernel⟩
theorem kfX4_21 : kj_FP RX4 21 4 4 (.array .int) := ⟨(RX4, TX4, 5), rfl, by decide, mj_in 166 (by decide +kernel) rfl, rfl, rfl, by decide +kernel⟩
theorem kfX5_9 : kj_FP RX5 9 5 0 (.array .char) := ⟨(RX5, TX5, 17), rfl, by decide, mj_in 398 (by decide +kernel) rfl, rfl, rfl, by decide +kernel⟩
theorem kfX5_16 : kj_FP RX5 16 5 2 (.object "CostChoices$Graph") := ⟨(RX5, TX5, 17), rfl, by decide, mj_in 400 (by decide +kernel) rfl, rfl, rfl, by decide +kernel⟩
theorem kfX5_20 : kj_FP RX5 20 5 3 (.object "CostChoices$Graph") := ⟨(RX5, TX5, 17), rfl, by decide, mj_in 401 (by decide +kernel) rfl, rfl, rfl, by decide +kernel⟩
theorem kfX5_28 : kj_FP RX5 28 5 4 (.object "CostChoices$Reader") := ⟨(RX5, TX5, 17), rfl, by decide, mj_in 402 (by decide +kernel) rfl, rfl, rfl, by decide +kernel⟩
theorem kfX5_32 : kj_FP RX5 32 5 5 (.array (.object "CostChoices$Graph")) := ⟨(RX5, TX5, 17), rfl, by decide, mj_in 403 (by decide +kernel) rfl, rfl, rfl, by decide +kernel⟩
theorem kfX5_36 : kj_FP RX5 36 5 7 (.array (.object "CostChoices$Graph")) := ⟨(RX5, TX5, 17), rfl, by decide, mj_in 405 (by decide +kernel) rfl, rfl, rfl, by decide +kernel⟩
theorem kfX5_42 : kj_FP RX5 42 5 9 (.object "CostChoices$Weights") := ⟨(RX5, TX5, 17), rfl, by decide, mj_in 407 (by decide +kernel) rfl, rfl, rfl, by decide +kernel⟩
theorem kfX5_46 : kj_FP RX5 46 5 10 (.object "CostChoices$Weights") := ⟨(RX5, TX5, 17), rfl, by decide, mj_in 408 (by decide +kernel) rfl, rfl, rfl, by decide +kernel⟩
theorem kfX5_52 : kj_FP RX5 52 5 11 (.object "CostChoices$Reduction") := ⟨(RX5, TX5, 17), rfl, by decide, mj_in 409 (by decide +kernel) rfl, rfl, rfl, by decide +kernel⟩
theorem kfX5_61 : kj_FP RX5 61 5 12 (.object "CostChoices$Search") := ⟨(RX5, TX5, 17), rfl, by decide, mj_in 410 (by decide +kernel) rfl, rfl, rfl, by decide +kernel⟩
theorem kfX5_65 : kj_FP RX5 65 5 13 (.object "CostChoices$Search") := ⟨(RX5, TX5, 17), rfl, by decide, mj_in 411 (by decide +kernel) rfl, rfl, rfl, by decide +kernel⟩
theorem kfX6_7 : kj_FP RX6 7 6 1 (.array .int) := ⟨(RX6, TX6, 27), rfl, by decide, mj_in 767 (by decide +kernel) rfl, rfl, rfl, by decide +kernel⟩
theorem kfX6_13 : kj_FP RX6 13 6 3 (.array .int) := ⟨(RX6, TX6, 27), rfl, by decide, mj_in 769 (by decide +kernel) rfl, rfl, rfl, by decide +kernel⟩
theorem kfX6_16 : kj_FP RX6 16 6 5 (.array .int) := ⟨(RX6, TX6, 27), rfl, by decide, mj_in 771 (by decide +kernel) rfl, rfl, rfl, by decide +kernel⟩
theorem kfX6_19 : kj_FP RX6 19 6 6 (.array .int) := ⟨(RX6, TX6, 27), rfl, by decide, mj_in 772 (by decide +kernel) rfl, rfl, rfl, by decide +kernel⟩
theorem kfX6_22 : kj_FP RX6 22 6 7 (.array .int) := ⟨(RX6, TX6, 27), rfl, by decide, mj_in 773 (by decide +kernel) rfl, rfl, rfl, by decide +kernel⟩
theorem kfX6_25 : kj_FP RX6 25 6 8 (.array .int) := ⟨(RX6, TX6, 27), rfl, by decide, mj_in 774 (by decide +kernel) rfl, rfl, rfl, by decide +kernel⟩
theorem kfX6_28 : kj_FP RX6 28 6 10 (.array .int) := ⟨(RX6, TX6, 27), rfl, by decide, mj_in 776 (by decide +kernel) rfl, rfl, rfl, by decide +kernel⟩
theorem kfX6_31 : kj_FP RX6 31 6 14 (.array .int) := ⟨(RX6, TX6, 27), rfl, by decide, mj_in 780 (by decide +kernel) rfl, rfl, rfl, by decide +kernel⟩
theorem kfX6_34 : kj_FP RX6 34 6 15 (.array .int) := ⟨(RX6, TX6, 27), rfl, by decide, mj_in 781 (by decide +kernel) rfl, rfl, rfl, by decide +kernel⟩
theorem kfX6_37 : kj_FP RX6 37 6 16 (.array .int) := ⟨(RX6, TX6, 27), rfl, by decide, mj_in 782 (by decide +kernel) rfl, rfl, rfl, by decide +kernel⟩
theorem kfX6_40 : kj_FP RX6 40 6 17 (.array .int) := ⟨(RX6, TX6, 27), rfl, by decide, mj_in 783 (by decide +kernel) rfl, rfl, rfl, by decide +kernel⟩
theorem kfX6_43 : kj_FP RX6 43 6 18 (.array .int) := ⟨(RX6, TX6, 27), rfl, by decide, mj_in 784 (by decide +kernel) rfl, rfl, rfl, by decide +kernel⟩
theorem kfX6_46 : kj_FP RX6 46 6 19 (.array .int) := ⟨(RX6, TX6, 27), rfl, by decide, mj_in 785 (by decide +kernel) rfl, rfl, rfl, by decide +kernel⟩
theorem kfX6_49 : kj_FP RX6 49 6 20 (.array .int) := ⟨(RX6, TX6, 27), rfl, by decide, mj_in 786 (by decide +kernel) rfl, rfl, rfl, by decide +kernel⟩
theorem kfX6_52 : kj_FP RX6 52 6 24 (.array .int) := ⟨(RX6, TX6, 27), rfl, by decide, mj_in 790 (by decide +kernel) rfl, rfl, rfl, by decide +kernel⟩
theorem kfX6_55 : kj_FP RX6 55 6 25 (.array .int) := ⟨(RX6, TX6, 27), rfl, by decide, mj_in 791 (by decide +kernel) rfl, rfl, rfl, by decide +kernel⟩
theorem kfX6_58 : kj_FP RX6 58 6 26 (.array .int) := ⟨(RX6, TX6, 27), rfl, by decide, mj_in 792 (by decide +kernel) rfl, rfl, rfl, by decide +kernel⟩
set_option maxHeartbeats 1000000 in
set_option maxRecDepth 100000 in
theorem k_Graph (z : mj_B) (d h0 : Nat) (rest : va_W) : Kj z mX0_init (d + 1) 0 [(0, .ref h0)] [] ((h0, .inr (0, [.int 0, .null, .null, .null, .null, .null, .null])) :: rest) 0 0 6 512 (fun _ _ => True) (fun w => ∃ a1 a2 a3 a4 a5 a6, w = (h0, .inr (0, [.int 0, .ref a1, .ref a2, .ref a3, .ref a4, .ref a5, .ref a6])) :: ((((((rest ++ [(a1, .inl (mj_dA (gC z) 0, 8, .inl (fun _ => 0)))]) ++ [(a2, .inl (mj_dA (gC z) 0, 8, .inl (fun _ => 0)))]) ++ [(a3, .inl (mj_dA (gC z) 0, 8, .inl (fun _ => 0)))]) ++ [(a4, .inl (mj_dA (gC z) 0, 8, .inl (fun _ => 0)))]) ++ [(a5, .inl (mj_dA (gC z) 0, 32, .inl (fun _ => 0)))]) ++ [(a6, .inl (mj_dA (gC z) 0, 448, .inl (fun _ => 0)))])) := by
  refine k_aload_n dX0_init_0 rfl ?_
  refine k_obj dX0_init_1 loX0_3 oi_im oi_co (by omega) (Nat.le_of_ble_eq_true rfl) ?_
  refine k_aload_n dX0_init_4 rfl ?_
  refine k_bipush (v := 8) dX0_init_5 (by decide +kernel) ?_
  refine k_newI (n := 8) (N' := 8) dX0_init_7 ar_i (by decide) (by decide) (by decide) (by omega) (by omega) (fun a1 => ?_)
  refine k_put dX0_init_9 kfX0_9 rfl rfl (Nat.le_of_ble_eq_true rfl) ?_
  refine k_aload_n dX0_init_12 rfl ?_
  refine k_bipush (v := 8) dX0_init_13 (by decide +kernel) ?_
  refine k_newI (n := 8) (N' := 8) dX0_init_15 ar_i (by decide) (by decide) (by decide) (by omega) (by omega) (fun a2 => ?_)
  refine k_put dX0_init_17 kfX0_15 rfl rfl (Nat.le_of_ble_eq_true rfl) ?_
  refine k_aload_n dX0_init_20 rfl ?_
  refine k_bipush (v := 8) dX0_init_21 (by decide +kernel) ?_
  refine k_newI (n := 8) (N' := 8) dX0_init_23 ar_i (by decide) (by decide) (by decide) (by omega) (by omega) (fun a3 => ?_)
  refine k_put dX0_init_25 kfX0_18 rfl rfl (Nat.le_of_ble_eq_true rfl) ?_
  refine k_aload_n dX0_init_28 rfl ?_
  refine k_bipush (v := 8) dX0_init_29 (by decide +kernel) ?_
  refine k_newI (n := 8) (N' := 8) dX0_init_31 ar_i (by decide) (by decide) (by decide) (by omega) (by omega) (fun a4 => ?_)
  refine k_put dX0_init_33 kfX0_21 rfl rfl (Nat.le_of_ble_eq_true rfl) ?_
  refine k_aload_n dX0_init_36 rfl ?_
  refine k_bipush (v := 32) dX0_init_37 (by decide +kernel) ?_
  refine k_newI (n := 32) (N' := 32) dX0_init_39 ar_i (by decide) (by decide) (by decide) (by omega) (by omega) (fun a5 => ?_)
  refine k_put dX0_init_41 kfX0_24 rfl rfl (Nat.le_of_ble_eq_true rfl) ?_
  refine k_aload_n dX0_init_44 rfl ?_
  refine k_sipush (v := 448) dX0_init_45 (by decide +kernel) ?_
  refine k_newI (n := 448) (N' := 448) dX0_init_48 ar_i (by decide) (by decide) (by decide) (by omega) (by omega) (fun a6 => ?_)
  refine k_put dX0_init_50 kfX0_27 rfl rfl (Nat.le_of_ble_eq_true rfl) ?_
  exact k_ret dX0_init_53 rfl (by omega) (by omega) ⟨a1, a2, a3, a4, a5, a6, (by first | rfl | simp)⟩
set_option maxHeartbeats 1000000 in
set_option maxRecDepth 100000 in
theorem k_Weights (z : mj_B) (d h0 : Nat) (rest : va_W) : Kj z mX4_init (d + 1) 0 [(0, .ref h0)] [] ((h0, .inr (4, [.int 0, .null, .null, .null, .null])) :: rest) 0 0 4 496 (fun _ _ => True) (fun w => ∃ a1 a2 a3 a4, w = (h0, .inr (4, [.int 0, .ref a1, .ref a2, .ref a3, .ref a4])) :: ((((rest ++ [(a1, .inl (mj_dA (gC z) 0, 8, .inl (fun _ => 0)))]) ++ [(a2, .inl (mj_dA (gC z) 0, 8, .inl (fun _ => 0)))]) ++ [(a3, .inl (mj_dA (gC z) 0, 32, .inl (fun _ => 0)))]) ++ [(a4, .inl (mj_dA (gC z) 0, 448, .inl (fun _ => 0)))])) := by
  refine k_aload_n dX4_init_0 rfl ?_
  refine k_obj dX4_init_1 loX4_3 oi_im oi_co (by omega) (Nat.le_of_ble_eq_true rfl) ?_
  refine k_aload_n dX4_init_4 rfl ?_
  refine k_bipush (v := 8) dX4_init_5 (by decide +kernel) ?_
  refine k_newI (n := 8) (N' := 8) dX4_init_7 ar_i (by decide) (by decide) (by decide) (by omega) (by omega) (fun a1 => ?_)
  refine k_put dX4_init_9 kfX4_9 rfl rfl (Nat.le_of_ble_eq_true rfl) ?_
  refine k_aload_n dX4_init_12 rfl ?_
  refine k_bipush (v := 8) dX4_init_13 (by decide +kernel) ?_
  refine k_newI (n := 8) (N' := 8) dX4_init_15 ar_i (by decide) (by decide) (by decide) (by omega) (by omega) (fun a2 => ?_)
  refine k_put dX4_init_17 kfX4_15 rfl rfl (Nat.le_of_ble_eq_true rfl) ?_
  refine k_aload_n dX4_init_20 rfl ?_
  refine k_bipush (v := 32) dX4_init_21 (by decide +kernel) ?_
  refine k_newI (n := 32) (N' := 32) dX4_init_23 ar_i (by decide) (by decide) (by decide) (by omega) (by omega) (fun a3 => ?_)
  refine k_put dX4_init_25 kfX4_18 rfl rfl (Nat.le_of_ble_eq_true rfl) ?_
  refine k_aload_n dX4_init_28 rfl ?_
  refine k_sipush (v := 448) dX4_init_29 (by decide +kernel) ?_
  refine k_newI (n := 448) (N' := 448) dX4_init_32 ar_i (by decide) (by decide) (by decide) (by omega) (by omega) (fun a4 => ?_)
  refine k_put dX4_init_34 kfX4_21 rfl rfl (Nat.le_of_ble_eq_true rfl) ?_
  exact k_ret dX4_init_37 rfl (by omega) (by omega) ⟨a1, a2, a3, a4, (by first | rfl | simp)⟩
set_option maxHeartbeats 1000000 in
set_option maxRecDepth 100000 in
theorem k_Reader (z : mj_B) (d h0 : Nat) (tx gr : Nat) (rest : va_W) : Kj z mX1_init (d + 1) 0 [(0, .ref h0), (1, .ref tx), (2, .ref gr)] [] ((h0, .inr (1, [.null, .null, .int 0, .int 0])) :: rest) 0 0 0 0 (fun _ _ => True) (fun w => w = (h0, .inr (1, [.ref tx, .ref gr, .int 0, .int 0])) :: rest) := by
  refine k_aload_n dX1_init_0 rfl ?_
  refine k_obj dX1_init_1 loX1_3 oi_im oi_co (by omega) (Nat.le_of_ble_eq_true rfl) ?_
  refine k_aload_n dX1_init_4 rfl ?_
  refine k_aload_n dX1_init_5 rfl ?_
  refine k_put dX1_init_6 kfX1_9 rfl rfl (Nat.le_of_ble_eq_true rfl) ?_
  refine k_aload_n dX1_init_9 rfl ?_
  refine k_aload_n dX1_init_10 rfl ?_
  refine k_put dX1_init_11 kfX1_15 rfl rfl (Nat.le_of_ble_eq_true rfl) ?_
  exact k_ret dX1_init_14 rfl (by omega) (by omega) rfl
set_option maxHeartbeats 1000000 in
set_option maxRecDepth 100000 in
theorem k_Search (z : mj_B) (d h0 : Nat) (wt : Nat) (b : Int32) (hbz : narrow .boolean (.int b) = .int b) (hbf : fits .boolean (.int b) = true) (rest : va_W) : Kj z mX3_init (d + 1) 0 [(0, .ref h0), (1, .ref wt), (2, .int b)] [] ((h0, .inr (3, [.int 0, .int 0, .int 0, .int 0, .null, .null, .null, .null, .int 0])) :: rest) 0 0 3 25 (fun _ _ => True) (fun w => ∃ a1 a2 a3, w = (h0, .inr (3, [.int 0, .int 0, .int 0, .int 0, .ref a1, .ref a2, .ref a3, .ref wt, .int b])) :: (((rest ++ [(a1, .inl (mj_dA (gC z) 0, 8, .inl (fun _ => 0)))]) ++ [(a2, .inl (mj_dA (gC z) 0, 8, .inl (fun _ => 0)))]) ++ [(a3, .inl (mj_dA (gC z) 0, 9, .inl (fun _ => 0)))])) := by
  refine k_aload_n dX3_init_0 rfl ?_
  refine k_obj dX3_init_1 loX3_3 oi_im oi_co (by omega) (Nat.le_of_ble_eq_true rfl) ?_
  refine k_aload_n dX3_init_4 rfl ?_
  refine k_bipush (v := 8) dX3_init_5 (by decide +kernel) ?_
  refine k_newI (n := 8) (N' := 8) dX3_init_7 ar_i (by decide) (by decide) (by decide) (by omega) (by omega) (fun a1 => ?_)
  refine k_put dX3_init_9 kfX3_9 rfl rfl (Nat.le_of_ble_eq_true rfl) ?_
  refine k_aload_n dX3_init_12 rfl ?_
  refine k_bipush (v := 8) dX3_init_13 (by decide +kernel) ?_
  refine k_newI (n := 8) (N' := 8) dX3_init_15 ar_i (by decide) (by decide) (by decide) (by omega) (by omega) (fun a2 => ?_)
  refine k_put dX3_init_17 kfX3_15 rfl rfl (Nat.le_of_ble_eq_true rfl) ?_
  refine k_aload_n dX3_init_20 rfl ?_
  refine k_bipush (v := 9) dX3_init_21 (by decide +kernel) ?_
  refine k_newI (n := 9) (N' := 9) dX3_init_23 ar_i (by decide) (by decide) (by decide) (by omega) (by omega) (fun a3 => ?_)
  refine k_put dX3_init_25 kfX3_18 rfl rfl (Nat.le_of_ble_eq_true rfl) ?_
  refine k_aload_n dX3_init_28 rfl ?_
  refine k_aload_n dX3_init_29 rfl ?_
  refine k_put dX3_init_30 kfX3_21 rfl rfl (Nat.le_of_ble_eq_true rfl) ?_
  refine k_aload_n dX3_init_33 rfl ?_
  refine k_iload_n dX3_init_34 rfl ?_
  refine k_put dX3_init_35 kfX3_25 hbz hbf (Nat.le_of_ble_eq_true rfl) ?_
  exact k_ret dX3_init_38 rfl (by omega) (by omega) ⟨a1, a2, a3, (by first | rfl | simp)⟩
set_option maxHeartbeats 1000000 in
set_option maxRecDepth 100000 in
theorem k_Reduction (z : mj_B) (d h0 : Nat) (rest : va_W) : Kj z mX2_init (d + 2) 0 [(0, .ref h0)] [] ((h0, .inr (2, [.null, .null, .null, .int 0, .null, .null, .int 0])) :: rest) 0 0 9 533 (fun _ _ => True) (fun w => ∃ a1 a2 a3 a4 a5 a6 a7 a8 a9, w = (h0, .inr (2, [.ref a1, .ref a2, .ref a3, .int 0, .ref a4, .ref a5, .int 0])) :: (((((((((rest ++ [(a1, .inl (mj_dA (gC z) 0, 8, .inl (fun _ => 0)))]) ++ [(a2, .inl (mj_dA (gC z) 0, 8, .inl (fun _ => 0)))]) ++ [(a3, .inl (mj_dA (gC z) 0, 8, .inl (fun _ => 0)))]) ++ [(a4, .inl (mj_dA (gC z) 0, 8, .inl (fun _ => 0)))]) ++ [(a5, .inr (4, [.int 0, .ref a6, .ref a7, .ref a8, .ref a9]))]) ++ [(a6, .inl (mj_dA (gC z) 0, 8, .inl (fun _ => 0)))]) ++ [(a7, .inl (mj_dA (gC z) 0, 8, .inl (fun _ => 0)))]) ++ [(a8, .inl (mj_dA (gC z) 0, 32, .inl (fun _ => 0)))]) ++ [(a9, .inl (mj_dA (gC z) 0, 448, .inl (fun _ => 0)))])) := by
  refine k_aload_n dX2_init_0 rfl ?_
  refine k_obj dX2_init_1 loX2_3 oi_im oi_co (by omega) (Nat.le_of_ble_eq_true rfl) ?_
  refine k_aload_n dX2_init_4 rfl ?_
  refine k_bipush (v := 8) dX2_init_5 (by decide +kernel) ?_
  refine k_newI (n := 8) (N' := 8) dX2_init_7 ar_i (by decide) (by decide) (by decide) (by omega) (by omega) (fun a1 => ?_)
  refine k_put dX2_init_9 kfX2_9 rfl rfl (Nat.le_of_ble_eq_true rfl) ?_
  refine k_aload_n dX2_init_12 rfl ?_
  refine k_bipush (v := 8) dX2_init_13 (by decide +kernel) ?_
  refine k_newI (n := 8) (N' := 8) dX2_init_15 ar_i (by decide) (by decide) (by decide) (by omega) (by omega) (fun a2 => ?_)
  refine k_put dX2_init_17 kfX2_15 rfl rfl (Nat.le_of_ble_eq_true rfl) ?_
  refine k_aload_n dX2_init_20 rfl ?_
  refine k_bipush (v := 8) dX2_init_21 (by decide +kernel) ?_
  refine k_newI (n := 8) (N' := 8) dX2_init_23 ar_i (by decide) (by decide) (by decide) (by omega) (by omega) (fun a3 => ?_)
  refine k_put dX2_init_25 kfX2_18 rfl rfl (Nat.le_of_ble_eq_true rfl) ?_
  refine k_aload_n dX2_init_28 rfl ?_
  refine k_bipush (v := 8) dX2_init_29 (by decide +kernel) ?_
  refine k_newI (n := 8) (N' := 8) dX2_init_31 ar_i (by decide) (by decide) (by decide) (by omega) (by omega) (fun a4 => ?_)
  refine k_put dX2_init_33 kfX2_21 rfl rfl (Nat.le_of_ble_eq_true rfl) ?_
  refine k_aload_n dX2_init_36 rfl ?_
  refine k_newN (ci := 4) (N' := 5) (fs := [.int 0, .null, .null, .null, .null]) dX2_init_37 rfl rfl clX2_24 isX4 iiX4 tyX4 tyX4_ok (fun j hj => by match j, hj with | 0, _ => rfl | 1, _ => rfl | 2, _ => rfl | 3, _ => rfl | 4, _ => rfl | k + 5, h => exact absurd h (by show ¬ k + 5 < 5; omega)) (by omega) (by omega) (fun a5 => ?_)
  refine k_dup dX2_init_40 rfl ?_
  refine k_ws (ws' := ((h0, .inr (2, [.ref a1, .ref a2, .ref a3, .int 0, .ref a4, .null, .int 0])) :: ((((rest ++ [(a1, .inl (mj_dA (gC z) 0, 8, .inl (fun _ => 0)))]) ++ [(a2, .inl (mj_dA (gC z) 0, 8, .inl (fun _ => 0)))]) ++ [(a3, .inl (mj_dA (gC z) 0, 8, .inl (fun _ => 0)))]) ++ [(a4, .inl (mj_dA (gC z) 0, 8, .inl (fun _ => 0)))])) ++ [(a5, .inr (4, [.int 0, .null, .null, .null, .null]))]) rfl ?_
  refine k_callN (y' := mX4_init) (As := []) (st := [.ref a5, .ref h0]) (mc' := 4) (ms' := 496) dX2_init_41 lnX2_26 okX4_init imX4_init rfl rfl rfl (Nat.le_of_ble_eq_true rfl) (Nat.le_of_ble_eq_true rfl) (by omega) (by omega) (k_Weights z _ a5 ((h0, .inr (2, [.ref a1, .ref a2, .ref a3, .int 0, .ref a4, .null, .int 0])) :: ((((rest ++ [(a1, .inl (mj_dA (gC z) 0, 8, .inl (fun _ => 0)))]) ++ [(a2, .inl (mj_dA (gC z) 0, 8, .inl (fun _ => 0)))]) ++ [(a3, .inl (mj_dA (gC z) 0, 8, .inl (fun _ => 0)))]) ++ [(a4, .inl (mj_dA (gC z) 0, 8, .inl (fun _ => 0)))]))) (fun w hw => ?_)
  obtain ⟨a6, a7, a8, a9, rfl⟩ := hw
  refine k_ws (ws' := (a5, .inr (4, [.int 0, .ref a6, .ref a7, .ref a8, .ref a9])) :: ((h0, .inr (2, [.ref a1, .ref a2, .ref a3, .int 0, .ref a4, .null, .int 0])) :: (((((rest ++ [(a1, .inl (mj_dA (gC z) 0, 8, .inl (fun _ => 0)))]) ++ [(a2, .inl (mj_dA (gC z) 0, 8, .inl (fun _ => 0)))]) ++ [(a3, .inl (mj_dA (gC z) 0, 8, .inl (fun _ => 0)))]) ++ [(a4, .inl (mj_dA (gC z) 0, 8, .inl (fun _ => 0)))]) ++ [(a6, .inl (mj_dA (gC z) 0, 8, .inl (fun _ => 0))), (a7, .inl (mj_dA (gC z) 0, 8, .inl (fun _ => 0))), (a8, .inl (mj_dA (gC z) 0, 32, .inl (fun _ => 0))), (a9, .inl (mj_dA (gC z) 0, 448, .inl (fun _ => 0)))]))) (by simp) ?_
  refine k_perm (perm_back _ _ _ _) ?_
  refine k_put dX2_init_44 kfX2_27 rfl rfl (Nat.le_of_ble_eq_true rfl) ?_
  exact k_ret dX2_init_47 rfl (by omega) (by omega) ⟨a1, a2, a3, a4, a5, a6, a7, a8, a9, (by first | rfl | simp)⟩
