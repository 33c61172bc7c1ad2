/-! the start: what the tables and the Statement say; the two constructors; the claim -/
theorem nests_in : ∀ q ∈ mj_nests, Cond.methodLinkNest q.1 q.2.1 q.2.2.1 q.2.2.2 ∈ lw_tbl := by
  have e : mj_nests.map (fun q => Cond.methodLinkNest q.1 q.2.1 q.2.2.1 q.2.2.2) = ([87, 152, 181, 186, 339, 340, 355, 368, 378, 383, 484, 485, 498, 553, 554, 560, 565, 576, 608, 614, 633, 681, 690] : List Nat).filterMap (fun i => lw_tbl[i]?) := by decide +kernel
  intro q hq
  have h : (fun q : String × Nat × MethodName × String => Cond.methodLinkNest q.1 q.2.1 q.2.2.1 q.2.2.2) q ∈ mj_nests.map (fun q => Cond.methodLinkNest q.1 q.2.1 q.2.2.1 q.2.2.2) := List.mem_map_of_mem hq
  rw [e] at h
  obtain ⟨i, -, hi⟩ := List.mem_filterMap.mp h
  exact List.mem_of_getElem? hi
def kjE_P (z : mj_B) (q v : Nat) (av : List Value) (ws : va_W) (sz : Nat) : Array Value → State → Prop := va_Pc av (fun U => U.heap.size = sz ∧ va_P (kD z) vwCl ws U.heap ∧ va_K (kD z) vwCl (kK z) U ∧ mj_NW U ∧ va_D (fun _ => True) ws ∧ kE q v (va_A ws sz) U)
theorem kj_metE {z : mj_B} {y : mj_Y} {d q v : Nat} {ws : va_W} {Q : va_W → Prop} {av : List Value} {mc ms : Nat} (sz : Nat) (hpl : plainName y.1.cls = true) (hnm : y.1.name = "<init>") (hlen : (lg_sl av).length ≤ y.2.2.1) (hJ : Kj z y d 0 (lv_args 0 av) [] ws 0 0 mc ms (kE q v) Q) : Met z.1 y.1 (mj_ws y) (kj_rm d mc ms) (kjE_P z q v av ws sz) (kj_Q z (va_A ws sz) Q) mc ms (va_A ws sz) := by
  refine Met.ofW (cc := y.2.1) (maxL := y.2.2.1) (ret := y.2.2.2) hpl rfl ?_
  intro p e s m args below meth c s₁ B hml hv
  obtain ⟨rfl, hsz, hP, hK, hN, hD, hE⟩ := hv
  subst hsz
  have C : mj_Cx y p s m _ meth c := ⟨B.exec, B.bytes, B.returns, hml, findClass_of_methodNamed B.named, atoms_spec (ws := mj_ws y) B.pre, B.notSynchronized⟩
  rw [lg_entry_eq]
  have hl := lv_entry av (n := y.2.2.1) hlen
  exact hJ p e _ s m _ below meth c s.heap [] _ (va_A ws s.heap.size) C ((name_of_methodNamed B.named B.method).1.trans hnm) ⟨hN, hE⟩ hK hP hD.self va_S.rf (fun q h => Or.inr h) hl ⟨Nat.le_refl _, Nat.le_refl _, Nat.le_refl _, Nat.le_refl _⟩
theorem kE.same {q v : Nat} {A : Nat → Prop} {u U : State} (hv : U.vm = u.vm) (hh : U.heap = u.heap) (h : kE q v A u) : kE q v A U := ⟨va_AO.moved (by rw [hv]; exact Vm.Alike.refl _) h.1, vk_R.same hv h.2.1, by rw [hh]; exact kS.moved (by rw [hv]; exact Vm.Alike.refl _) h.2.2⟩
theorem kjE_blind (z : mj_B) (q v : Nat) (av : List Value) (ws : va_W) (sz : Nat) : FrameBlind (kjE_P z q v av ws sz) := by
  intro a U gg mk h
  obtain ⟨q0, q1, qP, qK, qN, qD, qE⟩ := h
  exact ⟨q0, q1, qP, va_K.moved (u := U) (U := U.calling gg mk a) (Vm.Alike.refl U.vm) qK, mj_NW.same (s := U) (U := U.calling gg mk a) rfl qN, qD, kE.same (u := U) (U := U.calling gg mk a) rfl rfl qE⟩
theorem kj_callF {z : mj_B} {p : Program} {e : Env} {R : Room} {s : State} {m : MethodId} {args : Array Value} {below : List Frame} {meth : Method} {c : Code} {H : Heap} {locs : List Loc} {cells slots mc' ms' : Nat} {Qw : State → Prop} {pc : Nat} {ls : Array Slot} {rest st0 : List Value} {a : Array Value} {H0 : Heap} {A A1 : Nat → Prop} {Q' : va_W → Prop}
    (hr : va_Run p z.1 e R s m args below meth c H locs cells slots mc' ms' (F0 m pc ls st0) rest (kj_Q z A1 Q' a) A1) (hS : va_S A H0 H locs) (hf : ∀ q, A1 q → A q)
    (kk : ∀ (ws : va_W) (H1 : Heap) (locs1 : List Loc), Q' ws → va_P (kD z) vwCl ws H1 → va_D A1 ws → (∀ q, q < H.size → ¬ A1 q → H1[q]? = H[q]?) → va_S A H0 H1 locs1 → W p z.1 e R s m args below meth c H1 locs1 (cells + mc') (slots + ms') Qw (F0 m (pc + 3) ls rest)) : W p z.1 e R s m args below meth c H locs cells slots Qw (F0 m pc ls st0) := by
  intro T hT X
  obtain ⟨v, st₀, t, T', L, h0, X', hL, e1, e2, ⟨⟨ws, hv, hq, hP, hD⟩, hz, hk⟩, st⟩ := hr T hT X
  cases hv
  rw [h0] at hz hk
  obtain ⟨t2, a1, b1⟩ := kk ws T'.heap (locs ++ L) hq (by rw [e1]; exact hP) hD (fun q h1 h2 => by rw [e1]; exact hk q h1 h2)
    ⟨Nat.le_trans hS.1 (by rw [e1]; exact hz), fun q h1 h2 => by rw [e1, hk q (Nat.lt_of_lt_of_le h1 hS.1) (fun h => h2 (hf q h))]; exact hS.2.1 q h1 h2, fun q hq => by
      rcases List.mem_append.mp hq with h | h
      · exact hS.2.2 q h
      · exact hf _ (hL q h)⟩ T' rfl X'
  exact ⟨t2, st t2 a1, b1⟩
def kTm : Term := Term.string "CostChoices" 68
theorem kfl {b : Nat} {s : State} (hgv : (Jvm.Cond.and given_1 narrow_1).before #[Value.ref b] s = true) (i : Nat) {w : Cond} (h : (flatC (Jvm.Cond.and given_1 narrow_1))[i]? = some w) : w.before #[Value.ref b] s = true := flat_of_before _ hgv _ (List.mem_of_getElem? h)
theorem kEl : ∀ j, j < 96 → (flatC (Jvm.Cond.and given_1 narrow_1))[13 + j]? = some (Cond.eq (.elem (.field kTm "java/lang/String" "value" "[B") (.int (Int32.ofNat j))) (.int (kBy.getD j 0))) := by decide +kernel

theorem kS_start {p : Program} {s : State} {m : MethodId} {meth : Method} {c : Code} {b L : Nat} {xs : Nat → Int32} (C0 : lw_At p s m meth c b L xs) : ∃ q v, vk_R RX5 68 kTx q s ∧ kS q v (lB s) s s.heap := by
  obtain ⟨hx, hb, hr, hml, hown, hts, hX, hbl, hlocks, hgv⟩ := C0
  have hA : ∀ a : Nat, a < s.heap.size → ¬ lB s a := fun a h1 h2 => by omega
  obtain ⟨adK, adV, hS, hT⟩ := vk_Sof (args := #[Value.ref b]) (s := s) (N := 1) (tm := fun _ => kTm) (len := [96]) (byt := [kBy]) (A := lB s) (fun i hi => by match i, hi with | 0, _ => decide | k + 1, h => omega)
    (fun i hi => kfl hgv 9 (by decide +kernel)) (fun i hi => kfl hgv 10 (by decide +kernel)) (fun i hi => kfl hgv 11 (by decide +kernel))
    (fun i hi => by match i, hi with | 0, _ => exact kfl hgv 12 (by decide +kernel) | k + 1, h => omega)
    (fun i hi j hj => by match i, hi with | 0, _ => exact kfl hgv (13 + j) (kEl j hj) | k + 1, h => omega)
    (fun i j hi hj hij => absurd (by omega : i = j) hij) hA
  obtain ⟨h1, h2, h3, h4⟩ := hS.1 0 (by omega)
  refine ⟨adK 0, adV 0, vk_R.of (A := #[Value.ref b]) (hts _ (List.mem_of_getElem? (i := 252) (by decide +kernel))) (hT 0 (by omega)), h1, h2, h3, h4, ?_, ?_⟩
  · exact va_Zof (hts _ (List.mem_of_getElem? (i := 262) (by decide +kernel))) (hts _ (List.mem_of_getElem? (i := 69) (by decide +kernel))) (va_eqi (kfl hgv 4 (by decide +kernel))) hA
  · exact va_Zqof (hts _ (List.mem_of_getElem? (i := 278) (by decide +kernel))) (hts _ (List.mem_of_getElem? (i := 71) (by decide +kernel))) (kfl hgv 5 (by decide +kernel)) hA

theorem kK_start {p : Program} {s : State} {m : MethodId} {meth : Method} {c : Code} {b L : Nat} {xs : Nat → Int32} (l : Launch) (C0 : lw_At p s m meth c b L xs) : ∃ z : mj_B, z.1 = l ∧ va_K (kD z) vwCl (kK z) s := by
  have hts := lw_TB C0
  obtain ⟨c0, iS0, hKn0⟩ := u_known (C := RX0) (T := TX0) (N := 7) (n := 7) hts mj_inX0 (hts _ isX0)
  obtain ⟨c1, iS1, hKn1⟩ := u_known (C := RX1) (T := TX1) (N := 4) (n := 4) hts mj_inX1 (hts _ isX1)
  obtain ⟨c2, iS2, hKn2⟩ := u_known (C := RX2) (T := TX2) (N := 7) (n := 7) hts mj_inX2 (hts _ isX2)
  obtain ⟨c3, iS3, hKn3⟩ := u_known (C := RX3) (T := TX3) (N := 9) (n := 9) hts mj_inX3 (hts _ isX3)
  obtain ⟨c4, iS4, hKn4⟩ := u_known (C := RX4) (T := TX4) (N := 5) (n := 5) hts mj_inX4 (hts _ isX4)
  obtain ⟨c5, iS5, hKn5⟩ := u_known (C := RX5) (T := TX5) (N := 17) (n := 17) hts mj_inX5 (hts _ isX5)
  obtain ⟨c6, iS6, hKn6⟩ := u_known (C := RX6) (T := TX6) (N := 27) (n := 27) hts mj_inX6 (hts _ isX6)
  obtain ⟨a0, k0, p0, e0, f0, g0⟩ := Cond.arrayClass_spec (hts _ ar_i)
  obtain ⟨a1, k1, p1, e1, f1, g1⟩ := Cond.arrayClass_spec (hts _ ar_c)
  obtain ⟨p2, a2, k2, e2, i2, f2, g2, j2⟩ := Cond.arrayOver_spec (n := RX0) (C0.2.2.2.2.2.1 (Cond.arrayOver (.object RX0)) (List.mem_of_getElem? (i := 149) (by decide +kernel)))
  refine ⟨(l, fun k => k, (fun k => match k with | 0 => a0 | 1 => a1 | _ => a2), ((fun k => match k with | 0 => c0 | 1 => c1 | 2 => c2 | 3 => c3 | 4 => c4 | 5 => c5 | _ => c6), (fun k => match k with | 0 => iS0 | 1 => iS1 | 2 => iS2 | 3 => iS3 | 4 => iS4 | 5 => iS5 | _ => iS6)), fun _ => True), rfl, ?_, ?_⟩
  · intro k q hq
    match k, hq with
    | 0, hq => cases hq; exact hKn0
    | 1, hq => cases hq; exact hKn1
    | 2, hq => cases hq; exact hKn2
    | 3, hq => cases hq; exact hKn3
    | 4, hq => cases hq; exact hKn4
    | 5, hq => cases hq; exact hKn5
    | 6, hq => cases hq; exact hKn6
    | k + 7, hq => exact absurd hq (by simp [vwCl])
  · intro k q hq
    match k, hq with
    | 0, hq => cases hq; exact ⟨fun n z => ⟨fun k h => (by cases h), k0, f0, p0, g0⟩, e0⟩
    | 1, hq => cases hq; exact ⟨fun n z => ⟨fun k h => (by cases h), k1, f1, p1, g1⟩, e1⟩
    | 2, hq => cases hq; exact ⟨fun n z => ⟨fun k h => (by cases h), k2, f2, p2, g2⟩, k2, p2, f2, g2, e2, j2⟩
    | k + 3, hq => exact absurd hq (by simp [mj_K])
set_option maxHeartbeats 4000000 in
set_option maxRecDepth 100000 in
theorem whole_start {p : Program} {e : Env} {s : State} {m : MethodId} {below : List Frame} {meth : Method} {c : Code} (l : Launch) (hflags : l.flags = flags0) {b L : Nat} {xs : Nat → Int32} (hL : L ≤ 3072) (C0 : lw_At p s m meth c b L xs) : W p l e room_1 s m #[Value.ref b] below meth c s.heap [] 0 0 (lw_Z below #[Value.ref b] s) (entryFrame m ([Value.ref b] : List Value).toArray 4) := by
  obtain ⟨hx, hb, hr, hml, hown, hts, hX, hbl, hlocks, hgv⟩ := id C0
  have hTB := lw_TB C0
  have hA : ∀ q : Nat, s.heap.size ≤ q → lB s q := fun _ h => h
  obtain ⟨z, rfl, hK⟩ := kK_start l C0
  obtain ⟨sq, sv, hR0, hS0⟩ := kS_start C0
  have hN : mj_NW s := fun q hq => mj_nest (args := #[Value.ref b]) rfl (hts _ (nests_in q hq))
  have hAO : va_AO RX0 s := va_AO.of (A := #[Value.ref b]) (hts (Cond.arrayOver (.object RX0)) (List.mem_of_getElem? (i := 149) (by decide +kernel)))
  have hS : va_S (lB s) s.heap s.heap [] := va_S.rf
  have hP : va_P (kD z) vwCl [] s.heap := fun k q h => by simp at h
  have hD : va_D (lB s) [] := ⟨fun i j p q h => by simp at h, fun k q h => by simp at h⟩
  have hl := lv_entry ([.ref b]) (n := 4) (Nat.le_of_ble_eq_true rfl)
  rw [lg_entry_eq]
  generalize (lg_sl ([.ref b]) ++ List.replicate (4 - (lg_sl ([.ref b])).length) Slot.unset).toArray = ls at hl ⊢
  have hl : lv_has ls 4 [(0, .ref b)] := hl
  refine va_new (ci := 5) (fs := [.null, .int 0, .null, .null, .null, .null, .int 0, .null, .int 0, .null, .null, .null, .null, .null, .int 0, .int 0, .int 0]) (C := RX5) (T := TX5) (N := 17) hx hb hTB mj_inX5 tyX5 tyX5_ok hown (hTB _ clL_7) (hTB _ isX5) (hTB _ iiX5) hK hP hD hS hA rfl (fun j hj => by match j, hj with | 0, _ => rfl | 1, _ => rfl | 2, _ => rfl | 3, _ => rfl | 4, _ => rfl | 5, _ => rfl | 6, _ => rfl | 7, _ => rfl | 8, _ => rfl | 9, _ => rfl | 10, _ => rfl | 11, _ => rfl | 12, _ => rfl | 13, _ => rfl | 14, _ => rfl | 15, _ => rfl | 16, _ => rfl | k + 17, h => exact absurd h (by show ¬ k + 17 < 17; omega)) (by show _ ≤ 600000; omega) (by show _ ≤ 7302250; omega) dL_law_0 (fun a0 H hP hD hS => ?_)
  have hP : va_P (kD z) vwCl ((a0, .inr (5, [.null, .int 0, .null, .null, .null, .null, .int 0, .null, .int 0, .null, .null, .null, .null, .null, .int 0, .int 0, .int 0])) :: []) H := hP
  have hD : va_D (lB s) ((a0, .inr (5, [.null, .int 0, .null, .null, .null, .null, .int 0, .null, .int 0, .null, .null, .null, .null, .null, .int 0, .int 0, .int 0])) :: []) := hD
  refine lv_dup hx hb dL_law_3 rfl ?_
  have cb : CallB room_1 s #[Value.ref b] RL 9 yX5_init cX5_init 2 none (mj_ws mX5_init) (kj_rm 6 116 8052) 116 8052 0 := callB_of (R := room_1) (rm := kj_rm 6 116 8052) (mc := 116) (ms := 8052) (y := yX5_init) (bytes := cX5_init) (maxL := 2) (ret := none) 0 hTB (mj_good3 mX5_init okX5_init.1) rfl rfl rfl (hTB _ okX5_init.2.1) (hTB _ lkL_9) okX5_init.2.2.1 ⟨by decide, by decide⟩
  have hf1 := kj_free hD hS hA
  refine kj_callF (z := z) (va_runI (As := []) (rest := [.ref a0]) (b := a0) ⟨hx, hb, hml, hown, hTB⟩ (kj_metE (mc := 116) (ms := 8052) H.size okX5_init.2.2.2.1 rfl (Nat.le_of_ble_eq_true rfl) (k_C z 0 a0 sq sv)) ⟨cb, rfl, hTB _ imX5_init⟩ ⟨kjE_blind z sq sv _ _ _, fun U hU hW => ⟨rfl, by rw [hU], by rw [hU]; exact hP, va_K.moved hW.alike hK, mj_NW.warm hW hN, hD.weaken (fun _ _ _ _ => trivial), va_AO.moved hW.alike hAO, vk_R.warm hW hR0, by rw [hU]; exact ((hS0.kept hS.2.1).narrow hf1).moved hW.alike⟩⟩ rfl rfl hl.1 rfl (lv_room (Nat.le_of_ble_eq_true rfl)) dL_law_4 ⟨by show _ ≤ 600000; omega, by show _ ≤ 7302250; omega⟩) hS hf1 (fun ws H1 locs1 hq1 hP1 hD1 _ hS1 => ?_)
  obtain ⟨adC, F1, A1, hC0, rfl, hCI, hCS, hwr⟩ := hq1
  clear hP hD hS
  have hD1 : va_D (lB s) (mj_w (gK z adC SHC 117) F1 A1) := hD1.weaken (fun _ q _ h => hf1 q.1 h)
  skip
  refine lv_astore_n (lv' := [(1, .ref a0), (0, .ref b)]) hx hb dL_law_7 rfl hl (by decide) rfl (fun ls hl => ?_)
  have hP := hP1
  have hD := hD1
  have hS := hS1
  refine va_new (ci := 6) (fs := [.int 0, .null, .int 0, .null, .int 0, .null, .null, .null, .null, .int 0, .null, .int 0, .int 0, .int 0, .null, .null, .null, .null, .null, .null, .null, .int 0, .int 0, .int 0, .null, .null, .null]) (C := RX6) (T := TX6) (N := 27) hx hb hTB mj_inX6 tyX6 tyX6_ok hown (hTB _ clL_10) (hTB _ isX6) (hTB _ iiX6) hK hP hD hS hA rfl (fun j hj => by match j, hj with | 0, _ => rfl | 1, _ => rfl | 2, _ => rfl | 3, _ => rfl | 4, _ => rfl | 5, _ => rfl | 6, _ => rfl | 7, _ => rfl | 8, _ => rfl | 9, _ => rfl | 10, _ => rfl | 11, _ => rfl | 12, _ => rfl | 13, _ => rfl | 14, _ => rfl | 15, _ => rfl | 16, _ => rfl | 17, _ => rfl | 18, _ => rfl | 19, _ => rfl | 20, _ => rfl | 21, _ => rfl | 22, _ => rfl | 23, _ => rfl | 24, _ => rfl | 25, _ => rfl | 26, _ => rfl | k + 27, h => exact absurd h (by show ¬ k + 27 < 27; omega)) (by show _ ≤ 600000; omega) (by show _ ≤ 7302250; omega) dL_law_8 (fun a1 H hP hD hS => ?_)
  refine lv_dup hx hb dL_law_11 rfl ?_
  have cb : CallB room_1 s #[Value.ref b] RL 12 yX6_init cX6_init 1 none (mj_ws mX6_init) (kj_rm 2 17 7344) 17 7344 0 := callB_of (R := room_1) (rm := kj_rm 2 17 7344) (mc := 17) (ms := 7344) (y := yX6_init) (bytes := cX6_init) (maxL := 1) (ret := none) 0 hTB (mj_good3 mX6_init okX6_init.1) rfl rfl rfl (hTB _ okX6_init.2.1) (hTB _ lkL_12) okX6_init.2.2.1 ⟨by decide, by decide⟩
  have hPc : va_P (kD z) vwCl ((a1, .inr (6, [.int 0, .null, .int 0, .null, .int 0, .null, .null, .null, .null, .int 0, .null, .int 0, .int 0, .int 0, .null, .null, .null, .null, .null, .null, .null, .int 0, .int 0, .int 0, .null, .null, .null])) :: []) H := va_P_mem.mpr (fun q hq => va_P_mem.mp hP q (List.mem_append_right _ hq))
  have hDi := va_D_iff.mp hD
  have hDc : va_D (lB s) ((a1, .inr (6, [.int 0, .null, .int 0, .null, .int 0, .null, .null, .null, .null, .int 0, .null, .int 0, .int 0, .int 0, .null, .null, .null, .null, .null, .null, .null, .int 0, .int 0, .int 0, .null, .null, .null])) :: []) := va_D_iff.mpr ⟨by simp, fun q hq => hDi.2 q (List.mem_append_right _ hq)⟩
  have hPw : va_P (kD z) vwCl (mj_w (gK z adC SHC 117) F1 A1) H := va_P_mem.mpr (fun q hq => va_P_mem.mp hP q (List.mem_append_left _ hq))
  have hne : ∀ i, i < 117 → adC i ≠ a1 := fun i hi he => by
    have hlen : (mj_w (gK z adC SHC 117) F1 A1).length = 117 := by simp [mj_w]
    have h1 := hD.1 i 117 _ _ (by rw [List.getElem?_append_left (by omega)]; exact mj_w_at (gK z adC SHC 117) F1 A1 hi) (by rw [List.getElem?_append_right (by omega), hlen]; rfl) he
    omega
  have hlt : ∀ i, i < 117 → adC i < H.size := fun i hi => (hPw i _ (mj_w_at (gK z adC SHC 117) F1 A1 hi)).lt
  have hf2 := kj_free hDc hS hA
  refine kj_callF (z := z) (va_runI (As := []) (rest := [.ref a1]) (b := a1) ⟨hx, hb, hml, hown, hTB⟩ (kj_met (mc := 17) (ms := 7344) H.size okX6_init.2.2.2.1 rfl (Nat.le_of_ble_eq_true rfl) (k_M z 0 a1)) ⟨cb, rfl, hTB _ imX6_init⟩ ⟨kj_blind z _ _ _, fun U hU hW => ⟨rfl, by rw [hU], by rw [hU]; exact hPc, va_K.moved hW.alike hK, mj_NW.warm hW hN, hDc.weaken (fun _ _ _ _ => trivial)⟩⟩ rfl rfl hl.1 rfl (lv_room (Nat.le_of_ble_eq_true rfl)) dL_law_12 ⟨by show _ ≤ 600000; omega, by show _ ≤ 7302250; omega⟩) hS hf2 (fun ws H2 locs2 hq2 hP2 hD2 hfr hS2 => ?_)
  obtain ⟨adM, F2, A2, rn, rm, hM0, rfl, hMI, hrow⟩ := hq2
  have hnA : ∀ i, i < 117 → ¬ va_A ((a1, .inr (6, [.int 0, .null, .int 0, .null, .int 0, .null, .null, .null, .null, .int 0, .null, .int 0, .int 0, .int 0, .null, .null, .null, .null, .null, .null, .null, .int 0, .int 0, .int 0, .null, .null, .null])) :: []) H.size (adC i) := by
    rintro i hi (⟨k, e, h⟩ | h)
    · match k, h with
      | 0, h => exact hne i hi (congrArg Prod.fst (Option.some.inj h)).symm
      | k + 1, h => simp at h
    · exact absurd (hlt i hi) (by omega)
  have hPC : va_P (kD z) vwCl (mj_w (gK z adC SHC 117) F1 A1) H2 := hPw.kept (fun j r hj => by
    obtain ⟨h1, h2⟩ := mj_in_w hj
    rw [h2]
    exact hfr _ (hlt j h1) (hnA j h1))
  have hLD : LD z adC adM (lB s) := ⟨kz_DD hD1, kz_DD hD2, fun i j hi hj he => hnA i hi (by rw [he]; exact hD2.2 j _ (mj_w_at (gK z adM SHM 18) F2 A2 hj)), fun i hi => hD1.2 i _ (mj_w_at (gK z adC SHC 117) F1 A1 hi), fun j hj => hf2 _ (hD2.2 j _ (mj_w_at (gK z adM SHM 18) F2 A2 hj))⟩
  refine lv_astore_n (lv' := [(2, .ref a1), (1, .ref a0), (0, .ref b)]) hx hb dL_law_15 rfl hl (by decide) rfl (fun ls hl => ?_)
  refine lv_iconst (v := nI 0) hx hb dL_law_16 (by decide +kernel) ?_
  refine lv_istore_n (lv' := [(3, .int (nI 0)), (2, .ref a1), (1, .ref a0), (0, .ref b)]) hx hb dL_law_17 rfl hl (by decide) rfl (fun ls hl => ?_)
  subst hC0
  subst hM0
  exact law_loop z adC adM b L xs hL (L + 6) 0 (by omega) (Nat.zero_le _) F1 A1 F2 A2 ⟨0, 5, kMm, rn, rm, 0, 0, hCI, hMI, hCS.rows (fun _ _ => rfl) hrow (fun k j hk => absurd hk (by omega)) (fun k j hk => absurd hk (by omega)), ⟨hwr.cg (fun _ _ => rfl) hrow, fun k hk => absurd hk (by omega), fun k hk => absurd hk (by omega)⟩, fun j hj => absurd hj (by omega)⟩ p e s m below meth c H2 locs2 ls C0 hN hK hLD hPC hP2 hS2 hl
set_option maxHeartbeats 4000000 in
theorem lw_walk (l : Launch) (hflags : l.flags = flags0) (b : Addr) (xs : List Int32) : MetFree l x (headSpec (Jvm.Cond.code x code maxLocals ret :: tables_1) room_1) (lw_P b xs) (fun _ _ _ _ _ => True) lw_Q := by
  refine MetFree.of_bodyS (code := code) (maxLocals := maxLocals) (ret := ret) (by decide) ?_ ?_
  · intro args s m h hn
    obtain ⟨meth, c, h1, h2, h3, h4, h5, h6, -, -⟩ := Cond.code_spec hn (atoms_spec (ws := Jvm.Cond.code x code maxLocals ret :: tables_1) h _ List.mem_cons_self)
    exact ⟨meth, c, h1, h2, h3, h4, h5, h6⟩
  · intro p e s m args below meth c s₁ B hml0 hP _
    obtain ⟨rfl, hx, hbd, hgv⟩ := hP
    obtain ⟨scr, harrAt, hlist, hof, hsmall⟩ := hx
    obtain ⟨hcb, hkn, -, -⟩ := State.arrayAt?_spec harrAt
    have hown : s.vm.findClass R_law = some m.cls := findClass_of_methodNamed B.named
    have hts0 : ∀ c ∈ (Jvm.Cond.code x code maxLocals ret :: tables_1), c.before #[Value.ref b] s = true := atoms_spec (ws := Jvm.Cond.code x code maxLocals ret :: tables_1) B.pre
    have hts : ∀ w ∈ lw_tbl, w.before #[Value.ref b] s = true := k2_hts_sels lw_privs (fun w hw => hts0 w (List.mem_cons_of_mem _ hw)) lw_privs_ok
    have hml : c.maxLocals = 4 := B.maxLocals_eq (hts0 _ List.mem_cons_self)
    have X₀ : Stand p l e room_1 s m #[Value.ref b] below meth c s₁ [] 0 0 := Stand.of_body B
    have hh0 : s₁.heap = s.heap := by rw [B.state]; rfl
    have hsz : scr.slots.size = xs.length := by rw [← Array.length_toList, hlist, List.length_map]
    have hval : ∀ j : Nat, j < xs.length → scr.slots[j]? = some (.int (xs.getD j 0)) := fun j hj => by
      rw [← Array.getElem?_toList, hlist]
      simp [hj]
    have hbl : b < s.heap.size := (Array.getElem?_eq_some_iff.mp hcb).1
    have hX : va_X b xs.length (fun j => xs.getD j 0) s s.heap := ⟨scr, hcb, hof, hkn, hsz, hval⟩
    have K : W p l e room_1 s m #[Value.ref b] below meth c s₁.heap [] 0 0 (lw_Z below #[Value.ref b] s) (entryFrame m ([Value.ref b] : List Value).toArray 4) := by
      rw [hh0]
      exact whole_start l hflags hbd ⟨B.exec, B.bytes, B.returns, hml, hown, hts, hX, hbl, B.notSynchronized, hgv⟩
    obtain ⟨t, a1, o, b1, b2, b3⟩ := K s₁ rfl X₀
    exact ⟨t, o, a1, b1, b2, b3⟩
theorem lw_pre_spec {args : Array Value} {s : State} (h : (Jvm.Cond.and given_1 narrow_1).before args s = true) (hr : rest_1_c.before args s = true) : ∃ (b : Addr) (xs : List Int32), lw_P b xs args s := by
  have hs := flat_of_before _ h
  have hq := flat_of_before _ hr
  have hc : (Cond.count 1).before args s = true := hs _ (by decide +kernel)
  have harr : (Cond.arrayOf (.arg 0) .int).before args s = true := hs _ (by decide +kernel)
  have hle : (Cond.le (.length (.arg 0)) (.int 3072)).before args s = true := hs _ (by decide +kernel)
  have hlen : (Cond.isInt (.length (.arg 0))).before args s = true := hq _ (by decide +kernel)
  have hall : (Cond.all (.arg 0) (.isInt (.elem (.arg 0) (.index 0)))).before args s = true := hq _ (by decide +kernel)
  obtain ⟨b, xs, hb, hx⟩ := State.ints_of_pre rfl harr hlen hall
  have hsm : xs.length < 2 ^ 31 := hx.choose_spec.2.2.2
  have hev : (Term.length (.arg 0)).eval args s none [] s = some (.int xs.length.toInt32) := hx.length_eval hb
  have hv := Cond.le_ints hev (show (Term.int 3072).eval args s none [] s = some (.int 3072) from rfl)
  have hd : xs.length.toInt32 ≤ 3072 := by
    simpa [Cond.before, Cond.holds, hv] using hle
  have hN : xs.length ≤ 3072 := (Int32.ofNat_le_ofNat hsm (by decide)).mp (show Int32.ofNat xs.length ≤ Int32.ofNat 3072 from hd)
  exact ⟨b, xs, Cond.one_arg hc (show args[0]? = some (.ref b) from hb), hx, hN, h⟩
theorem lw_comes (l : Launch) (hflags : l.flags = flags0) : Comes l x (Jvm.Cond.code x code maxLocals ret :: tables_1) room_1 (fun tb e args s => Calls_1 tb e args s ∧ rest_1 tb e args s ∧ Pre_1 tb e args s)
    (fun _ _ args s o t => lw_Q args s o t) := by
  intro p e ha hc hk s m args below hf hfit hheap happ hpre
  obtain ⟨b, xs, hP⟩ := lw_pre_spec hpre.2.2 hpre.2.1
  obtain ⟨k, o, h1, h2, h3, hQ⟩ := lw_walk l hflags b xs p e ha hc hk s m args below hf ((Spec.applies_iff_loose hf).mp happ).1 hP trivial
  exact ⟨k, o, h1, h2, h3, hQ⟩
theorem lw_frame {s t : State} {o : Outcome} {args : Array Value} (h : Framed s o t [] 600000 7302250) :
    Framed s o t (fieldLocs frame_1_writes args s ++ arrayLocs frame_1_arrays args s ++ staticLocs frame_1_statics s) 600000 7302250 := h
theorem lw_limb (L : Cond) (hL : ∀ (args : Array Value) (s t : State), L.after args s (.returned (some (.int 1))) t = true) :
    ArmFor flags0 classFile x code maxLocals ret World_1 tables_1 room_1 Calls_1 rest_1 Pre_1
      (fun tb e a s o t => postC L tb e a s o t ∧ Framed s o t (fieldLocs frame_1_writes a s ++ arrayLocs frame_1_arrays a s ++ staticLocs frame_1_statics s) 600000 7302250) := by
  intro l hflags _ _ p e ha hc hk s m args below hf hfit hheap happ hpre
  obtain ⟨k, o, h1, h2, h3, rfl, hF⟩ := lw_comes l hflags p e ha hc hk s m args below hf hfit hheap happ hpre
  exact ⟨k, _, h1, h2, h3, hL args s _, lw_frame hF⟩
theorem i_vc : Claimed_1_1 ∧ Claimed_1_2 := ⟨lw_limb limb_1_1 (fun args s t => by simp [limb_1_1, Cond.after, Cond.holds, Cond.value]), lw_limb limb_1_2 (fun args s t => Cond.after_iff.mpr (by
  first | (rw [show limb_1_2 = Cond.eq .result (.int 1) from rfl, Cond.eq_ints (x := 1) (y := 1) rfl rfl]; simp; done) | (simp [limb_1_2, Cond.value, Term.eval]; done)))⟩
