/-! the String constant: what is known of it; String.length and String.charAt -/
abbrev mJ0_length_8abf5 : mj_Y := (yJ0_length_8abf5, cJ0_length_8abf5, 1, (some .int))
set_option maxRecDepth 20000 in
theorem okJ0_length_8abf5 : mj_OK mJ0_length_8abf5 0 := ⟨mj_in 256 rfl rfl, mj_in 69 (by decide +kernel) rfl, by decide +kernel, by decide +kernel, by decide⟩
theorem imJ0_length_8abf5 : Cond.instanceMethod yJ0_length_8abf5 ∈ mj_TB := mj_in 254 (by decide +kernel) rfl
theorem seJ0_length_8abf5 : Cond.selects (yJ0_length_8abf5).cls yJ0_length_8abf5 yJ0_length_8abf5 ∈ mj_TB := mj_in 255 (by decide +kernel) rfl
theorem lkX5_70 : Cond.methodLink RX5 70 yJ0_length_8abf5 ∈ mj_TB := mj_in 253 (by decide +kernel) rfl
abbrev mJ0_coder_7d493 : mj_Y := (yJ0_coder_7d493, cJ0_coder_7d493, 1, (some .byte))
set_option maxRecDepth 20000 in
theorem okJ0_coder_7d493 : mj_OK mJ0_coder_7d493 0 := ⟨mj_in 260 rfl rfl, mj_in 69 (by decide +kernel) rfl, by decide +kernel, by decide +kernel, by decide⟩
theorem imJ0_coder_7d493 : Cond.instanceMethod yJ0_coder_7d493 ∈ mj_TB := mj_in 258 (by decide +kernel) rfl
theorem seJ0_coder_7d493 : Cond.selects (yJ0_coder_7d493).cls yJ0_coder_7d493 yJ0_coder_7d493 ∈ mj_TB := mj_in 259 (by decide +kernel) rfl
theorem lkJ0_335 : Cond.methodLink RJ0 335 yJ0_coder_7d493 ∈ mj_TB := mj_in 257 (by decide +kernel) rfl
abbrev mJ0_charAt_5068e : mj_Y := (yJ0_charAt_5068e, cJ0_charAt_5068e, 2, (some .char))
set_option maxRecDepth 20000 in
theorem okJ0_charAt_5068e : mj_OK mJ0_charAt_5068e 1 := ⟨mj_in 266 rfl rfl, mj_in 69 (by decide +kernel) rfl, by decide +kernel, by decide +kernel, by decide⟩
theorem imJ0_charAt_5068e : Cond.instanceMethod yJ0_charAt_5068e ∈ mj_TB := mj_in 264 (by decide +kernel) rfl
theorem seJ0_charAt_5068e : Cond.selects (yJ0_charAt_5068e).cls yJ0_charAt_5068e yJ0_charAt_5068e ∈ mj_TB := mj_in 265 (by decide +kernel) rfl
theorem lkX5_76 : Cond.methodLink RX5 76 yJ0_charAt_5068e ∈ mj_TB := mj_in 263 (by decide +kernel) rfl
abbrev mJ0_isLatin1_aae02 : mj_Y := (yJ0_isLatin1_aae02, cJ0_isLatin1_aae02, 1, (some .boolean))
set_option maxRecDepth 20000 in
theorem okJ0_isLatin1_aae02 : mj_OK mJ0_isLatin1_aae02 0 := ⟨mj_in 270 rfl rfl, mj_in 69 (by decide +kernel) rfl, by decide +kernel, by decide +kernel, by decide⟩
theorem imJ0_isLatin1_aae02 : Cond.instanceMethod yJ0_isLatin1_aae02 ∈ mj_TB := mj_in 268 (by decide +kernel) rfl
theorem seJ0_isLatin1_aae02 : Cond.selects (yJ0_isLatin1_aae02).cls yJ0_isLatin1_aae02 yJ0_isLatin1_aae02 ∈ mj_TB := mj_in 269 (by decide +kernel) rfl
theorem lkJ0_492 : Cond.methodLink RJ0 492 yJ0_isLatin1_aae02 ∈ mj_TB := mj_in 267 (by decide +kernel) rfl
abbrev mJ1_charAt_3b067 : mj_Y := (yJ1_charAt_3b067, cJ1_charAt_3b067, 2, (some .char))
set_option maxRecDepth 20000 in
theorem okJ1_charAt_3b067 : mj_OK mJ1_charAt_3b067 2 := ⟨mj_in 273 rfl rfl, mj_in 70 (by decide +kernel) rfl, by decide +kernel, by decide +kernel, by decide⟩
theorem stJ1_charAt_3b067 : Cond.static yJ1_charAt_3b067 ∈ mj_TB := mj_in 272 (by decide +kernel) rfl
theorem lkJ0_495 : Cond.methodLink RJ0 495 yJ1_charAt_3b067 ∈ mj_TB := mj_in 271 (by decide +kernel) rfl
abbrev mJ0_checkIndex_df160 : mj_Y := (yJ0_checkIndex_df160, cJ0_checkIndex_df160, 2, none)
set_option maxRecDepth 20000 in
theorem okJ0_checkIndex_df160 : mj_OK mJ0_checkIndex_df160 2 := ⟨mj_in 276 rfl rfl, mj_in 69 (by decide +kernel) rfl, by decide +kernel, by decide +kernel, by decide⟩
theorem stJ0_checkIndex_df160 : Cond.static yJ0_checkIndex_df160 ∈ mj_TB := mj_in 275 (by decide +kernel) rfl
theorem lkJ1_9 : Cond.methodLink RJ1 9 yJ0_checkIndex_df160 ∈ mj_TB := mj_in 274 (by decide +kernel) rfl
abbrev mJ3_checkIndex_8e157 : mj_Y := (yJ3_checkIndex_8e157, cJ3_checkIndex_8e157, 3, (some .int))
set_option maxRecDepth 20000 in
theorem okJ3_checkIndex_8e157 : mj_OK mJ3_checkIndex_8e157 3 := ⟨mj_in 281 rfl rfl, mj_in 71 (by decide +kernel) rfl, by decide +kernel, by decide +kernel, by decide⟩
theorem stJ3_checkIndex_8e157 : Cond.static yJ3_checkIndex_8e157 ∈ mj_TB := mj_in 280 (by decide +kernel) rfl
theorem lkJ0_1059 : Cond.methodLink RJ0 1059 yJ3_checkIndex_8e157 ∈ mj_TB := mj_in 279 (by decide +kernel) rfl
theorem fJ0_38 : Cond.fieldLink RJ0 38 RJ0 "COMPACT_STRINGS" "Z" ∈ mj_TB := mj_in 261 (by decide +kernel) rfl
theorem fJ0_1053 : Cond.fieldLink RJ0 1053 RJ3 "SIOOBE_FORMATTER" "Ljava/util/function/BiFunction;" ∈ mj_TB := mj_in 277 (by decide +kernel) rfl
theorem fJ0_9 : Cond.fieldLink RJ0 9 RJ0 "value" "[B" ∈ mj_TB := mj_in 1089 (by decide +kernel) rfl
theorem fJ0_15 : Cond.fieldLink RJ0 15 RJ0 "coder" "B" ∈ mj_TB := mj_in 1090 (by decide +kernel) rfl
def kBy : List Int32 := [110, 48, 44, 53, 44, 50, 44, 55, 59, 110, 49, 44, 51, 44, 49, 59, 110, 50, 44, 48, 44, 52, 59, 110, 48, 44, 54, 44, 54, 59, 110, 51, 44, 57, 44, 49, 48, 44, 49, 59, 101, 48, 44, 49, 44, 48, 49, 57, 50, 48, 48, 59, 101, 48, 44, 50, 44, 51, 48, 48, 53, 49, 57, 59, 101, 49, 44, 50, 44, 48, 57, 57, 48, 59, 101, 50, 44, 51, 44, 48, 52, 52, 48, 59, 101, 51, 44, 52, 44, 49, 48, 50, 51, 48, 49, 59]
def cvB (x : Int32) : Int32 := ((x &&& 255).toUInt32 % 65536).toInt32
def kS (q v : Nat) (A : Nat → Prop) (U : State) (H : Heap) : Prop :=
  va_O RJ0 q A U H ∧ va_OF RJ0 "coder" "B" (.int 0) q A U H ∧ va_OF RJ0 "value" "[B" (.ref v) q A U H ∧ va_T .byte v 96 (fun j => .int (kBy.getD j 0)) A U H ∧ va_Z RJ0 "COMPACT_STRINGS" "Z" (.int 1) A U H ∧ va_Zq RJ3 "SIOOBE_FORMATTER" "Ljava/util/function/BiFunction;" A U H
theorem kS.moved {q v : Nat} {A : Nat → Prop} {u U : State} {H : Heap} (hvm : u.vm.Alike U.vm) (h : kS q v A u H) : kS q v A U H := ⟨va_O.moved hvm h.1, va_OF.moved hvm h.2.1, va_OF.moved hvm h.2.2.1, va_T.moved hvm h.2.2.2.1, va_Z.moved hvm h.2.2.2.2.1, va_Zq.moved hvm h.2.2.2.2.2⟩
theorem kS.kept {q v : Nat} {A : Nat → Prop} {U : State} {H H1 : Heap} (h : kS q v A U H) (hq : ∀ a : Nat, a < H.size → ¬ A a → H1[a]? = H[a]?) : kS q v A U H1 := ⟨h.1.kept hq, h.2.1.kept hq, h.2.2.1.kept hq, h.2.2.2.1.kept hq, h.2.2.2.2.1.kept hq, h.2.2.2.2.2.kept hq⟩
theorem kS.narrow {q v : Nat} {A B : Nat → Prop} {U : State} {H : Heap} (h : kS q v A U H) (hAB : ∀ a, B a → A a) : kS q v B U H := ⟨h.1.narrow hAB, h.2.1.narrow hAB, h.2.2.1.narrow hAB, h.2.2.2.1.narrow hAB, h.2.2.2.2.1.narrow hAB, h.2.2.2.2.2.narrow hAB⟩
abbrev nA : Nat → Prop := fun _ => False
def sj_Q (Q : Option Value → Prop) : Array Value → State → Outcome → State → Prop := fun _ st oc t => (∃ v, oc = .returned v ∧ Q v) ∧ va_F nA st t
/-- a method that reads the String constant at q, its bytes at v: from pc on it returns, with Q -/
def Sj (l : Launch) (q v : Nat) (y : mj_Y) (d pc : Nat) (lv : List (Nat × Value)) (st : List Value) (Q : Option Value → Prop) : Prop :=
  ∀ (p : Program) (e : Env) (s : State) (m : MethodId) (args : Array Value) (below : List Frame) (meth : Method) (c : Code) (H : Heap) (locs : List Loc) (ls : Array Slot),
    mj_Cx y p s m args meth c → kS q v nA s s.heap → va_S nA s.heap H locs → lv_has ls y.2.2.1 lv →
    W p l e (mj_rm d) s m args below meth c H locs 0 0 (MQ below (sj_Q Q) args s 0 0 nA) (F0 m pc ls st)
def sj_P (q v : Nat) (av : List Value) : Array Value → State → Prop := va_Pc av (fun U => kS q v nA U U.heap)
theorem sj_met {l : Launch} {q v d : Nat} {y : mj_Y} {av : List Value} {Q : Option Value → Prop} (hpl : plainName y.1.cls = true) (hlen : (lg_sl av).length ≤ y.2.2.1) (hJ : Sj l q v y d 0 (lv_args 0 av) [] Q) : Met l y.1 (mj_ws y) (mj_rm d) (sj_P q v av) (sj_Q Q) 0 0 nA := by
  refine Met.ofW (cc := y.2.1) (maxL := y.2.2.1) (ret := y.2.2.2) hpl rfl ?_
  intro p e s m args below meth c s₁ B hml hv
  obtain ⟨rfl, hE⟩ := hv
  have C : mj_Cx y p s m _ meth c := ⟨B.exec, B.bytes, B.returns, hml, findClass_of_methodNamed B.named, atoms_spec (ws := mj_ws y) B.pre, B.notSynchronized⟩
  rw [lg_entry_eq]
  exact hJ p e s m _ below meth c s.heap [] _ C hE va_S.rf (lv_entry av (n := y.2.2.1) hlen)
theorem sj_blind (q v : Nat) (av : List Value) : FrameBlind (sj_P q v av) := by
  intro a U gg mk h
  obtain ⟨q0, qE⟩ := h
  exact ⟨q0, kS.moved (u := U) (U := U.calling gg mk a) (Vm.Alike.refl U.vm) qE⟩
theorem sj_call {p : Program} {l : Launch} {e : Env} {R : Room} {s : State} {m : MethodId} {args : Array Value} {below : List Frame} {meth : Method} {c : Code} {H : Heap} {locs : List Loc} {cells slots : Nat} {Qw : State → Prop} {pc : Nat} {ls : Array Slot} {rest st0 : List Value} {a : Array Value} {H0 : Heap} {A : Nat → Prop} {Q : Option Value → Prop}
    (hr : va_Run p l e R s m args below meth c H locs cells slots 0 0 (F0 m pc ls st0) rest (sj_Q Q a) nA) (hS : va_S A H0 H locs)
    (kk : ∀ (v : Option Value) (H1 : Heap) (locs1 : List Loc), Q v → (∀ q, q < H.size → H1[q]? = H[q]?) → va_S A H0 H1 locs1 → W p l e R s m args below meth c H1 locs1 cells slots Qw (F0 m (pc + 3) ls (v.toList ++ rest))) : W p l e R s m args below meth c H locs cells slots Qw (F0 m pc ls st0) := by
  intro T hT X
  obtain ⟨v, st₀, t, T', L, h0, X', hL, e1, e2, ⟨⟨v', hv, hq⟩, hz, hk⟩, st⟩ := hr T hT X
  cases hv
  rw [h0] at hz hk
  obtain ⟨t2, a1, b1⟩ := kk v T'.heap (locs ++ L) hq (fun q h1 => by rw [e1]; exact hk q h1 (fun h => h))
    ⟨Nat.le_trans hS.1 (by rw [e1]; exact hz), fun q h1 h2 => by rw [e1, hk q (Nat.lt_of_lt_of_le h1 hS.1) (fun h => h)]; exact hS.2.1 q h1 h2, fun q hq => by
      rcases List.mem_append.mp hq with h | h
      · exact hS.2.2 q h
      · exact absurd (hL q h) (fun h => h)⟩ T' rfl X'
  exact ⟨t2, st t2 a1, b1⟩
theorem sj_cb {y y' : mj_Y} {d n idx : Nat} {R : Room} {p : Program} {s : State} {m : MethodId} {args : Array Value} {meth : Method} {c : Code} (C : mj_Cx y p s m args meth c) (ok : mj_OK y' n) (hl : Cond.methodLink y.1.cls idx y'.1 ∈ mj_TB) (hR : d + 1 ≤ R.frames ∧ 64 * (d + 1) ≤ R.locals) : CallB R s args y.1.cls idx y'.1 y'.2.1 y'.2.2.1 y'.2.2.2 (mj_ws y') (mj_rm d) 0 0 n := callB_of (R := R) (rm := mj_rm d) n C.2.2.2.2.2.1 (mj_good2 y y' ok.1) rfl rfl rfl (C.2.2.2.2.2.1 _ (List.mem_cons_of_mem _ ok.2.1)) (C.2.2.2.2.2.1 _ (List.mem_cons_of_mem _ hl)) ok.2.2.1 ⟨hR.1, by have h := ok.2.2.2.2; show 8 + (y'.2.2.1 + 11) + 64 * d ≤ R.locals; omega⟩
section SJ
variable {l : Launch} {q v : Nat} {y : mj_Y} {d pc : Nat} {lv : List (Nat × Value)} {st : List Value} {Q : Option Value → Prop}
theorem s_callV {y' : mj_Y} {idx n : Nat} {As : List Value} {Q' : Option Value → Prop} (hd : decode y.2.1 pc = .ok (.invokevirtual idx, 3)) (hl0 : Cond.methodLink y.1.cls idx y'.1 ∈ mj_TB) (ok : mj_OK y' n) (hi : Cond.instanceMethod y'.1 ∈ mj_TB) (hse : Cond.selects y'.1.cls y'.1 y'.1 ∈ mj_TB) (hcl : y'.1.cls = RJ0) (hn : As.length = n) (hlen : (lg_sl (.ref q :: As)).length ≤ y'.2.2.1) (hr : (st.map fun v => v.category).sum ≤ 8)
    (hM : Sj l q v y' d 0 (lv_args 0 (.ref q :: As)) [] Q') (k : ∀ w, Q' w → Sj l q v y (d + 1) (pc + 3) lv (w.toList ++ st) Q) : Sj l q v y (d + 1) pc lv (As.reverse ++ .ref q :: st) Q := by
  intro p e s m args below meth c H locs ls C hE hS hl
  have hE1 : kS q v nA s H := hE.kept hS.2.1
  have hrecv : ∃ cell : Cell, H[q]? = some cell ∧ cell.vm.isStatics = false ∧ s.vm.findClass y'.1.cls = some cell.cls := by
    obtain ⟨cell, h1, h2, h3, -⟩ := hE1.1
    exact ⟨cell, h1, h2, by rw [hcl]; exact h3⟩
  refine sj_call (va_runV (As := As) (rest := st) (b := q) ⟨C.1, C.2.1, C.2.2.2.1, C.2.2.2.2.1, C.2.2.2.2.2.1⟩ (sj_met ok.2.2.2.1 hlen hM) ⟨sj_cb C ok hl0 ⟨Nat.le_refl _, Nat.le_refl _⟩, C.2.2.2.2.2.1 _ (List.mem_cons_of_mem _ hi), C.2.2.2.2.2.1 _ (List.mem_cons_of_mem _ hse)⟩ ⟨sj_blind q v _, hrecv, fun U hU hW => ⟨rfl, by show kS q v nA U U.heap; rw [hU]; exact kS.moved hW.alike hE1⟩⟩ rfl hn hl.1 rfl (lv_room hr) hd ⟨Nat.le_refl _, Nat.le_refl _⟩) hS (fun w H1 locs1 hq1 _ hS1 => ?_)
  exact k w hq1 p e s m args below meth c H1 locs1 ls C hE hS1 hl
theorem s_callS {y' : mj_Y} {idx n : Nat} {As : List Value} {Q' : Option Value → Prop} (hd : decode y.2.1 pc = .ok (.invokestatic idx, 3)) (hl0 : Cond.methodLink y.1.cls idx y'.1 ∈ mj_TB) (ok : mj_OK y' n) (hi : Cond.static y'.1 ∈ mj_TB) (hn : As.length = n) (hlen : (lg_sl As).length ≤ y'.2.2.1) (hr : (st.map fun v => v.category).sum ≤ 8)
    (hM : Sj l q v y' d 0 (lv_args 0 As) [] Q') (k : ∀ w, Q' w → Sj l q v y (d + 1) (pc + 3) lv (w.toList ++ st) Q) : Sj l q v y (d + 1) pc lv (As.reverse ++ st) Q := by
  intro p e s m args below meth c H locs ls C hE hS hl
  have hE1 : kS q v nA s H := hE.kept hS.2.1
  refine sj_call (va_runS (As := As) (rest := st) ⟨C.1, C.2.1, C.2.2.2.1, C.2.2.2.2.1, C.2.2.2.2.2.1⟩ (sj_met ok.2.2.2.1 hlen hM) ⟨sj_cb C ok hl0 ⟨Nat.le_refl _, Nat.le_refl _⟩, C.2.2.2.2.2.1 _ (List.mem_cons_of_mem _ hi)⟩ ⟨sj_blind q v _, fun U hU hW => ⟨rfl, by show kS q v nA U U.heap; rw [hU]; exact kS.moved hW.alike hE1⟩⟩ rfl hn hl.1 rfl (lv_room hr) hd ⟨Nat.le_refl _, Nat.le_refl _⟩) hS (fun w H1 locs1 hq1 _ hS1 => ?_)
  exact k w hq1 p e s m args below meth c H1 locs1 ls C hE hS1 hl
end SJ

theorem s_coder (l : Launch) (q v d : Nat) : Sj l q v mJ0_coder_7d493 d 0 [(0, .ref q)] [] (fun w => w = some (.int 0)) := by
  intro p e s m args below meth c H locs ls C hE hS hl
  refine va_gets C.1 C.2.1 hE.2.2.2.2.1 hS C.2.2.2.2.1 (C.2.2.2.2.2.1 _ (List.mem_cons_of_mem _ fJ0_38)) (fun _ h => h) dJ0_coder_7d493_0 ?_
  refine lv_if_eq (tgt := 13) C.1 C.2.1 dJ0_coder_7d493_3 (by decide) (fun h => absurd h (by decide)) (fun _ => ?_)
  refine lv_aload_n C.1 C.2.1 dJ0_coder_7d493_6 rfl (lv_at hl 0 rfl) ?_
  refine vk_getf C.1 C.2.1 hE.2.1 hS C.2.2.2.2.1 (C.2.2.2.2.2.1 _ (List.mem_cons_of_mem _ fJ0_15)) (fun _ h => h) dJ0_coder_7d493_7 ?_
  refine lv_goto (tgt := 14) C.1 C.2.1 dJ0_coder_7d493_10 (by decide) ?_
  exact W.zret C.1 C.2.1 C.2.2.1 (by decide +kernel) (fun t ht hW => ⟨⟨some (.int 0), rfl, rfl⟩, hS.F ht⟩) hS.2.2 dJ0_coder_7d493_14 C.2.2.2.2.2.2
theorem s_latin (l : Launch) (q v d : Nat) : Sj l q v mJ0_isLatin1_aae02 d 0 [(0, .ref q)] [] (fun w => w = some (.int 1)) := by
  intro p e s m args below meth c H locs ls C hE hS hl
  refine va_gets C.1 C.2.1 hE.2.2.2.2.1 hS C.2.2.2.2.1 (C.2.2.2.2.2.1 _ (List.mem_cons_of_mem _ fJ0_38)) (fun _ h => h) dJ0_isLatin1_aae02_0 ?_
  refine lv_if_eq (tgt := 17) C.1 C.2.1 dJ0_isLatin1_aae02_3 (by decide) (fun h => absurd h (by decide)) (fun _ => ?_)
  refine lv_aload_n C.1 C.2.1 dJ0_isLatin1_aae02_6 rfl (lv_at hl 0 rfl) ?_
  refine vk_getf C.1 C.2.1 hE.2.1 hS C.2.2.2.2.1 (C.2.2.2.2.2.1 _ (List.mem_cons_of_mem _ fJ0_15)) (fun _ h => h) dJ0_isLatin1_aae02_7 ?_
  refine lv_if_ne (tgt := 17) C.1 C.2.1 dJ0_isLatin1_aae02_10 (by decide) (fun h => absurd rfl h) (fun _ => ?_)
  refine lv_iconst (v := 1) C.1 C.2.1 dJ0_isLatin1_aae02_13 (by decide +kernel) ?_
  refine lv_goto (tgt := 18) C.1 C.2.1 dJ0_isLatin1_aae02_14 (by decide) ?_
  exact W.zret C.1 C.2.1 C.2.2.1 (by decide +kernel) (fun t ht hW => ⟨⟨some (.int 1), rfl, rfl⟩, hS.F ht⟩) hS.2.2 dJ0_isLatin1_aae02_18 C.2.2.2.2.2.2
theorem s_length9 (l : Launch) (q v d : Nat) : Sj l q v mJ0_length_8abf5 d 9 [(0, .ref q)] [.int 0, .int 96] (fun w => w = some (.int 96)) := by
  intro p e s m args below meth c H locs ls C hE hS hl
  refine lv_ishr C.1 C.2.1 dJ0_length_8abf5_9 ?_
  exact W.zret C.1 C.2.1 C.2.2.1 (by decide +kernel) (fun t ht hW => ⟨⟨some (.int _), rfl, (by decide +kernel)⟩, hS.F ht⟩) hS.2.2 dJ0_length_8abf5_10 C.2.2.2.2.2.2
theorem s_length (l : Launch) (q v d : Nat) : Sj l q v mJ0_length_8abf5 (d + 1) 0 [(0, .ref q)] [] (fun w => w = some (.int 96)) := by
  have K : Sj l q v mJ0_length_8abf5 (d + 1) 6 [(0, .ref q)] [.ref q, .int 96] (fun w => w = some (.int 96)) := s_callV (y' := mJ0_coder_7d493) (As := []) (st := [.int 96]) dJ0_length_8abf5_6 lkJ0_335 okJ0_coder_7d493 imJ0_coder_7d493 seJ0_coder_7d493 rfl rfl (Nat.le_of_ble_eq_true rfl) (Nat.le_of_ble_eq_true rfl) (s_coder l q v d) (fun w hw => by subst hw; exact s_length9 l q v (d + 1))
  intro p e s m args below meth c H locs ls C hE hS hl
  refine lv_aload_n C.1 C.2.1 dJ0_length_8abf5_0 rfl (lv_at hl 0 rfl) ?_
  refine vk_getf C.1 C.2.1 hE.2.2.1 hS C.2.2.2.2.1 (C.2.2.2.2.2.1 _ (List.mem_cons_of_mem _ fJ0_9)) (fun _ h => h) dJ0_length_8abf5_1 ?_
  have hf := hE.2.2.2.1
  refine va_tlen C.1 C.2.1 hf hS (v := 96) (by decide) dJ0_length_8abf5_4 ?_
  refine lv_aload_n C.1 C.2.1 dJ0_length_8abf5_5 rfl (lv_at hl 0 rfl) ?_
  exact K p e s m args below meth c H locs ls C hE hS hl
theorem s_check3 (l : Launch) (q v d : Nat) (i : Int32) (r : Value) (h0 : ¬ i < 0) (h1 : i < 96) : Sj l q v mJ3_checkIndex_8e157 d 0 [(0, .int i), (1, .int 96), (2, r)] [] (fun w => w = some (.int i)) := by
  intro p e s m args below meth c H locs ls C hE hS hl
  refine lv_iload_n C.1 C.2.1 dJ3_checkIndex_8e157_0 rfl (lv_at hl 0 rfl) ?_
  refine lv_if_lt (tgt := 9) C.1 C.2.1 dJ3_checkIndex_8e157_1 (by decide) (fun h => absurd h h0) (fun _ => ?_)
  refine lv_iload_n C.1 C.2.1 dJ3_checkIndex_8e157_4 rfl (lv_at hl 0 rfl) ?_
  refine lv_iload_n C.1 C.2.1 dJ3_checkIndex_8e157_5 rfl (lv_at hl 1 rfl) ?_
  refine lv_icmp_lt (tgt := 16) C.1 C.2.1 dJ3_checkIndex_8e157_6 (by decide) (fun _ => ?_) (fun h => absurd h1 h)
  refine lv_iload_n C.1 C.2.1 dJ3_checkIndex_8e157_16 rfl (lv_at hl 0 rfl) ?_
  exact W.zret C.1 C.2.1 C.2.2.1 rfl (fun t ht hW => ⟨⟨some (.int i), rfl, rfl⟩, hS.F ht⟩) hS.2.2 dJ3_checkIndex_8e157_17 C.2.2.2.2.2.2
theorem s_check9 (l : Launch) (q v d : Nat) (i : Int32) : Sj l q v mJ0_checkIndex_df160 d 8 [(0, .int i), (1, .int 96)] [.int i] (fun w => w = none) := by
  intro p e s m args below meth c H locs ls C hE hS hl
  refine lv_pop C.1 C.2.1 dJ0_checkIndex_df160_8 rfl ?_
  exact W.vret C.1 C.2.1 C.2.2.1 (fun t ht hW => ⟨⟨none, rfl, rfl⟩, hS.F ht⟩) hS.2.2 dJ0_checkIndex_df160_9 C.2.2.2.2.2.2
theorem s_check (l : Launch) (q v d : Nat) (i : Int32) (h0 : ¬ i < 0) (h1 : i < 96) : Sj l q v mJ0_checkIndex_df160 (d + 1) 0 [(0, .int i), (1, .int 96)] [] (fun w => w = none) := by
  have K1 : Sj l q v mJ0_checkIndex_df160 (d + 1) 5 [(0, .int i), (1, .int 96)] [.null, .int 96, .int i] (fun w => w = none) := s_callS (y' := mJ3_checkIndex_8e157) (As := [.int i, .int 96, .null]) (st := []) dJ0_checkIndex_df160_5 lkJ0_1059 okJ3_checkIndex_8e157 stJ3_checkIndex_8e157 rfl (Nat.le_of_ble_eq_true rfl) (Nat.le_of_ble_eq_true rfl) (s_check3 l q v d i (.null) h0 h1) (fun w hw => by subst hw; exact s_check9 l q v (d + 1) i)
  have K2 : ∀ t, Sj l q v mJ0_checkIndex_df160 (d + 1) 5 [(0, .int i), (1, .int 96)] [.ref t, .int 96, .int i] (fun w => w = none) := fun t => s_callS (y' := mJ3_checkIndex_8e157) (As := [.int i, .int 96, .ref t]) (st := []) dJ0_checkIndex_df160_5 lkJ0_1059 okJ3_checkIndex_8e157 stJ3_checkIndex_8e157 rfl (Nat.le_of_ble_eq_true rfl) (Nat.le_of_ble_eq_true rfl) (s_check3 l q v d i (.ref t) h0 h1) (fun w hw => by subst hw; exact s_check9 l q v (d + 1) i)
  intro p e s m args below meth c H locs ls C hE hS hl
  refine lv_iload_n C.1 C.2.1 dJ0_checkIndex_df160_0 rfl (lv_at hl 0 rfl) ?_
  refine lv_iload_n C.1 C.2.1 dJ0_checkIndex_df160_1 rfl (lv_at hl 1 rfl) ?_
  rcases hE.2.2.2.2.2 with hz | ⟨t, hz⟩
  · refine va_gets C.1 C.2.1 hz hS C.2.2.2.2.1 (C.2.2.2.2.2.1 _ (List.mem_cons_of_mem _ fJ0_1053)) (fun _ h => h) dJ0_checkIndex_df160_2 ?_
    exact K1 p e s m args below meth c H locs ls C hE hS hl
  · refine va_gets C.1 C.2.1 hz hS C.2.2.2.2.1 (C.2.2.2.2.2.1 _ (List.mem_cons_of_mem _ fJ0_1053)) (fun _ h => h) dJ0_checkIndex_df160_2 ?_
    exact K2 t p e s m args below meth c H locs ls C hE hS hl
theorem s_lat6 (l : Launch) (q v d : Nat) (i : Int32) (hi : vp_in i 96) : Sj l q v mJ1_charAt_3b067 d 6 [(0, .ref v), (1, .int i)] [] (fun w => ∃ x : Int32, w = some (.int x) ∧ narrow .char (.int x) = .int x ∧ x = cvB (kBy.getD i.toNatClampNeg 0)) := by
  intro p e s m args below meth c H locs ls C hE hS hl
  have hf := hE.2.2.2.1
  refine lv_aload_n C.1 C.2.1 dJ1_charAt_3b067_6 rfl (lv_at hl 0 rfl) ?_
  refine lv_iload_n C.1 C.2.1 dJ1_charAt_3b067_7 rfl (lv_at hl 1 rfl) ?_
  refine va_tb C.1 C.2.1 hf hS hi (v := .int (kBy.getD i.toNatClampNeg 0)) rfl dJ1_charAt_3b067_8 ?_
  refine lv_sipush (v := 255) C.1 C.2.1 dJ1_charAt_3b067_9 (by decide +kernel) ?_
  refine lv_iand C.1 C.2.1 dJ1_charAt_3b067_12 ?_
  refine lv_i2c C.1 C.2.1 dJ1_charAt_3b067_13 rfl ?_
  exact W.zret C.1 C.2.1 C.2.2.1 (pk_nc _) (fun t ht hW => ⟨⟨some (.int _), rfl, ⟨_, rfl, pk_nc _, rfl⟩⟩, hS.F ht⟩) hS.2.2 dJ1_charAt_3b067_14 C.2.2.2.2.2.2
theorem s_lat (l : Launch) (q v d : Nat) (i : Int32) (h0 : ¬ i < 0) (h1 : i < 96) (hi : vp_in i 96) : Sj l q v mJ1_charAt_3b067 (d + 2) 0 [(0, .ref v), (1, .int i)] [] (fun w => ∃ x : Int32, w = some (.int x) ∧ narrow .char (.int x) = .int x ∧ x = cvB (kBy.getD i.toNatClampNeg 0)) := by
  have K : Sj l q v mJ1_charAt_3b067 (d + 2) 3 [(0, .ref v), (1, .int i)] [.int 96, .int i] (fun w => ∃ x : Int32, w = some (.int x) ∧ narrow .char (.int x) = .int x ∧ x = cvB (kBy.getD i.toNatClampNeg 0)) := s_callS (y' := mJ0_checkIndex_df160) (As := [.int i, .int 96]) (st := []) dJ1_charAt_3b067_3 lkJ1_9 okJ0_checkIndex_df160 stJ0_checkIndex_df160 rfl (Nat.le_of_ble_eq_true rfl) (Nat.le_of_ble_eq_true rfl) (s_check l q v d i h0 h1) (fun w hw => by subst hw; exact s_lat6 l q v (d + 2) i hi)
  intro p e s m args below meth c H locs ls C hE hS hl
  have hf := hE.2.2.2.1
  refine lv_iload_n C.1 C.2.1 dJ1_charAt_3b067_0 rfl (lv_at hl 1 rfl) ?_
  refine lv_aload_n C.1 C.2.1 dJ1_charAt_3b067_1 rfl (lv_at hl 0 rfl) ?_
  refine va_tlen C.1 C.2.1 hf hS (v := 96) (by decide) dJ1_charAt_3b067_2 ?_
  exact K p e s m args below meth c H locs ls C hE hS hl
theorem s_char15 (l : Launch) (q v d : Nat) (i x : Int32) (hx : narrow .char (.int x) = .int x) (hx2 : x = cvB (kBy.getD i.toNatClampNeg 0)) : Sj l q v mJ0_charAt_5068e d 15 [(0, .ref q), (1, .int i)] [.int x] (fun w => ∃ x : Int32, w = some (.int x) ∧ narrow .char (.int x) = .int x ∧ x = cvB (kBy.getD i.toNatClampNeg 0)) := by
  intro p e s m args below meth c H locs ls C hE hS hl
  exact W.zret C.1 C.2.1 C.2.2.1 hx (fun t ht hW => ⟨⟨some (.int x), rfl, ⟨_, rfl, hx, hx2⟩⟩, hS.F ht⟩) hS.2.2 dJ0_charAt_5068e_15 C.2.2.2.2.2.2
theorem s_char4 (l : Launch) (q v d : Nat) (i : Int32) (h0 : ¬ i < 0) (h1 : i < 96) (hi : vp_in i 96) : Sj l q v mJ0_charAt_5068e (d + 3) 4 [(0, .ref q), (1, .int i)] [.int 1] (fun w => ∃ x : Int32, w = some (.int x) ∧ narrow .char (.int x) = .int x ∧ x = cvB (kBy.getD i.toNatClampNeg 0)) := by
  have K : Sj l q v mJ0_charAt_5068e (d + 3) 12 [(0, .ref q), (1, .int i)] [.int i, .ref v] (fun w => ∃ x : Int32, w = some (.int x) ∧ narrow .char (.int x) = .int x ∧ x = cvB (kBy.getD i.toNatClampNeg 0)) := s_callS (y' := mJ1_charAt_3b067) (As := [.ref v, .int i]) (st := []) dJ0_charAt_5068e_12 lkJ0_495 okJ1_charAt_3b067 stJ1_charAt_3b067 rfl (Nat.le_of_ble_eq_true rfl) (Nat.le_of_ble_eq_true rfl) (s_lat l q v d i h0 h1 hi) (fun w hw => by obtain ⟨x, rfl, hx, hx2⟩ := hw; exact s_char15 l q v (d + 3) i x hx hx2)
  intro p e s m args below meth c H locs ls C hE hS hl
  refine lv_if_eq (tgt := 16) C.1 C.2.1 dJ0_charAt_5068e_4 (by decide) (fun h => absurd h (by decide)) (fun _ => ?_)
  refine lv_aload_n C.1 C.2.1 dJ0_charAt_5068e_7 rfl (lv_at hl 0 rfl) ?_
  refine vk_getf C.1 C.2.1 hE.2.2.1 hS C.2.2.2.2.1 (C.2.2.2.2.2.1 _ (List.mem_cons_of_mem _ fJ0_9)) (fun _ h => h) dJ0_charAt_5068e_8 ?_
  refine lv_iload_n C.1 C.2.1 dJ0_charAt_5068e_11 rfl (lv_at hl 1 rfl) ?_
  exact K p e s m args below meth c H locs ls C hE hS hl
theorem s_char (l : Launch) (q v d : Nat) (i : Int32) (h0 : ¬ i < 0) (h1 : i < 96) (hi : vp_in i 96) : Sj l q v mJ0_charAt_5068e (d + 3) 0 [(0, .ref q), (1, .int i)] [] (fun w => ∃ x : Int32, w = some (.int x) ∧ narrow .char (.int x) = .int x ∧ x = cvB (kBy.getD i.toNatClampNeg 0)) := by
  have K : Sj l q v mJ0_charAt_5068e (d + 3) 1 [(0, .ref q), (1, .int i)] [.ref q] (fun w => ∃ x : Int32, w = some (.int x) ∧ narrow .char (.int x) = .int x ∧ x = cvB (kBy.getD i.toNatClampNeg 0)) := s_callV (y' := mJ0_isLatin1_aae02) (As := []) (st := []) dJ0_charAt_5068e_1 lkJ0_492 okJ0_isLatin1_aae02 imJ0_isLatin1_aae02 seJ0_isLatin1_aae02 rfl rfl (Nat.le_of_ble_eq_true rfl) (Nat.le_of_ble_eq_true rfl) (s_latin l q v (d + 2)) (fun w hw => by subst hw; exact s_char4 l q v d i h0 h1 hi)
  intro p e s m args below meth c H locs ls C hE hS hl
  refine lv_aload_n C.1 C.2.1 dJ0_charAt_5068e_0 rfl (lv_at hl 0 rfl) ?_
  exact K p e s m args below meth c H locs ls C hE hS hl
