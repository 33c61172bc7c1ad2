/-! calls out of a constructor, once its cells stand; the two constructors' ends -/
abbrev kz (z : mj_B) (ad : Nat → Nat) (nn : Nat) : mj_B := (z.1, ad, z.2.2.1, z.2.2.2.1, fun q => ∃ k, k < nn ∧ q = ad k)
abbrev gK (z : mj_B) (ad : Nat → Nat) (sh : Nat → va_E) (nn : Nat) : mj_G := (kz z ad nn, sh, nn)
theorem mj_callA {p : Program} {e : Env} {R : Room} {s : State} {m : MethodId} {args : Array Value} {below : List Frame} {meth : Method} {c : Code} {H : Heap} {locs : List Loc} {cells slots : Nat} {Qw : State → Prop} {g : mj_G} {pc : Nat} {ls : Array Slot} {rest st0 : List Value} {a : Array Value} {H0 : Heap} {B : Nat → Prop} {Q : Option Value → mj_S → mj_S → Prop}
    (hr : va_Run p (mj_l g) e R s m args below meth c H locs cells slots 0 0 (F0 m pc ls st0) rest (mj_Q g Q a) (mj_Z g)) (hS : va_S B H0 H locs) (hf : ∀ q, mj_Z g q → B q)
    (kk : ∀ (v : Option Value) (F A : mj_S) (H1 : Heap) (locs1 : List Loc), Q v F A → va_P (mj_D g) vwCl (mj_w g F A) H1 → (∀ q, q < H.size → ¬ mj_Z g q → H1[q]? = H[q]?) → va_S B H0 H1 locs1 → W p (mj_l g) e R s m args below meth c H1 locs1 cells slots Qw (F0 m (pc + 3) ls ((v.map (mj_v (mj_ad g))).toList ++ rest))) : W p (mj_l g) e R s m args below meth c H locs cells slots Qw (F0 m pc ls st0) := by
  intro T hT X
  obtain ⟨v, st₀, t, T', L, h0, X', hL, e1, e2, ⟨⟨v', F, A, hv, hq, hP⟩, hz, hk⟩, st⟩ := hr T hT X
  cases hv
  rw [h0] at hz hk
  obtain ⟨t2, a1, b1⟩ := kk v' F A T'.heap (locs ++ L) hq (by rw [e1]; exact hP) (fun q h1 h2 => by rw [e1]; exact hk q h1 h2)
    ⟨Nat.le_trans hS.1 (by rw [e1]; exact hz), fun q h1 h2 => by rw [e1, hk q (Nat.lt_of_lt_of_le h1 hS.1) (fun h => h2 (hf q h))]; exact hS.2.1 q h1 h2, fun q hq => by
      rcases List.mem_append.mp hq with h | h
      · exact hS.2.2 q h
      · exact hf _ (hL q h)⟩ T' rfl X'
  exact ⟨t2, st t2 a1, b1⟩
theorem kz_DD {z : mj_B} {ad : Nat → Nat} {sh : Nat → va_E} {nn : Nat} {B : Nat → Prop} {F A : mj_S} (hD : va_D B (mj_w (gK z ad sh nn) F A)) : mj_DD (gK z ad sh nn) :=
  ⟨fun i j hi hj he => hD.1 i j _ _ (mj_w_at (gK z ad sh nn) F A hi) (mj_w_at (gK z ad sh nn) F A hj) he, fun i hi => ⟨i, hi, rfl⟩⟩
theorem kz_sub {z : mj_B} {ad : Nat → Nat} {sh : Nat → va_E} {nn : Nat} {B : Nat → Prop} {F A : mj_S} (hD : va_D B (mj_w (gK z ad sh nn) F A)) : ∀ q, mj_Z (gK z ad sh nn) q → B q := by
  rintro q ⟨k, hk, rfl⟩
  exact hD.2 k _ (mj_w_at (gK z ad sh nn) F A hk)
section KJ2
variable {z : mj_B} {y : mj_Y} {d pc : Nat} {lv : List (Nat × Value)} {st : List Value} {ws : va_W} {ce sl mc ms : Nat} {E : (Nat → Prop) → State → Prop} {Q : va_W → Prop}
theorem k_pop {a : Value} (hd : decode y.2.1 pc = .ok (.pop, 1)) (hc : a.category = 1) (k : Kj z y d (pc + 1) lv st ws ce sl mc ms E Q) : Kj z y d pc lv (a :: st) ws ce sl mc ms E Q := by
  intro p e R s m args below meth c H locs ls A C hin hN hK hP hD hS hA hl hR
  exact lv_pop C.1 C.2.1 hd hc (k p e R s m args below meth c H locs ls A C hin hN hK hP hD hS hA hl hR)
theorem k_ldc {i : Nat} {v : Int32} (hd : decode y.2.1 pc = .ok (.ldc i, 2)) (hw : Cond.constant y.1.cls i v ∈ mj_TB) (k : Kj z y d (pc + 2) lv (.int v :: st) ws ce sl mc ms E Q) : Kj z y d pc lv st ws ce sl mc ms E Q := by
  intro p e R s m args below meth c H locs ls A C hin hN hK hP hD hS hA hl hR
  exact lv_ldc C.1 C.2.1 C.2.2.2.2.1 (C.2.2.2.2.2.1 _ (List.mem_cons_of_mem _ hw)) hd (k p e R s m args below meth c H locs ls A C hin hN hK hP hD hS hA hl hR)
theorem k_ldcS {i q : Nat} {tx : String} (hd : decode y.2.1 pc = .ok (.ldc i, 2)) (hZ : ∀ A s, E A s → vk_R y.1.cls i tx q s) (k : Kj z y d (pc + 2) lv (.ref q :: st) ws ce sl mc ms E Q) : Kj z y d pc lv st ws ce sl mc ms E Q := by
  intro p e R s m args below meth c H locs ls A C hin hN hK hP hD hS hA hl hR
  exact va_ldcS C.1 C.2.1 C.2.2.2.2.1 (hZ A s hN.2) hd (k p e R s m args below meth c H locs ls A C hin hN hK hP hD hS hA hl hR)
theorem k_callStr {q v : Nat} {y' : mj_Y} {idx n : Nat} {As : List Value} {Q' : Option Value → Prop} (hE : ∀ A s, E A s → kS q v A s s.heap) (hd : decode y.2.1 pc = .ok (.invokevirtual idx, 3)) (hl0 : Cond.methodLink y.1.cls idx y'.1 ∈ mj_TB) (ok : mj_OK y' n) (hi : Cond.instanceMethod y'.1 ∈ mj_TB) (hse : Cond.selects y'.1.cls y'.1 y'.1 ∈ mj_TB) (hcl : y'.1.cls = RJ0) (hn : As.length = n) (hlen : (lg_sl (.ref q :: As)).length ≤ y'.2.2.1) (hr : (st.map fun v => v.category).sum ≤ 8) (hc : ce ≤ mc) (hs : sl ≤ ms)
    (hM : Sj z.1 q v y' d 0 (lv_args 0 (.ref q :: As)) [] Q') (k : ∀ w, Q' w → Kj z y (d + 1) (pc + 3) lv (w.toList ++ st) ws ce sl mc ms E Q) : Kj z y (d + 1) pc lv (As.reverse ++ .ref q :: st) ws ce sl mc ms E Q := by
  intro p e R s m args below meth c H locs ls A C hin hN hK hP hD hS hA hl hR
  have hE1 : kS q v nA s H := ((hE A s hN.2).kept hS.2.1).narrow (fun _ h => h.elim)
  have hrecv : ∃ cell : Cell, H[q]? = some cell ∧ cell.vm.isStatics = false ∧ s.vm.findClass y'.1.cls = some cell.cls := by
    obtain ⟨cell, h1, h2, h3, -⟩ := hE1.1
    exact ⟨cell, h1, h2, by rw [hcl]; exact h3⟩
  refine sj_call (va_runV (As := As) (rest := st) (b := q) ⟨C.1, C.2.1, C.2.2.2.1, C.2.2.2.2.1, C.2.2.2.2.2.1⟩ (sj_met ok.2.2.2.1 hlen hM) ⟨sj_cb C ok hl0 ⟨hR.1, hR.2.1⟩, C.2.2.2.2.2.1 _ (List.mem_cons_of_mem _ hi), C.2.2.2.2.2.1 _ (List.mem_cons_of_mem _ hse)⟩ ⟨sj_blind q v _, hrecv, fun U hU hW => ⟨rfl, by show kS q v nA U U.heap; rw [hU]; exact kS.moved hW.alike hE1⟩⟩ rfl hn hl.1 rfl (lv_room hr) hd ⟨by omega, by omega⟩) hS (fun w H1 locs1 hq1 hfr hS1 => ?_)
  exact k w hq1 p e R s m args below meth c H1 locs1 ls A C hin hN hK (hP.kept (fun j r hj => hfr r.1 (hP j r hj).lt)) hD hS1 hA hl hR
theorem k_callJ {ad : Nat → Nat} {sh : Nat → va_E} {nn : Nat} {F A0 : mj_S} {y' : mj_Y} {idx n ci : Nat} {As ts : List Value} {r : vw_C} {Q' : Option Value → mj_S → mj_S → Prop} (hd : decode y.2.1 pc = .ok (.invokevirtual idx, 3)) (hl0 : Cond.methodLink y.1.cls idx y'.1 ∈ mj_TB) (ok : mj_OK y' n) (hi : Cond.instanceMethod y'.1 ∈ mj_TB) (hse : Cond.selects y'.1.cls y'.1 y'.1 ∈ mj_TB) (hb : 0 < nn) (hsh : sh 0 = .inr (ci, ts)) (hcl : vwCl[ci]? = some r) (hq : r.1 = y'.1.cls) (hn : As.length = n) (hAs : As.map (mj_v ad) = As) (hlen : (lg_sl (.ref 0 :: As)).length ≤ y'.2.2.1) (hr : (st.map fun v => v.category).sum ≤ 8) (hc : ce ≤ mc) (hs : sl ≤ ms)
    (hM : J (gK z ad sh nn) y' d 0 (lv_args 0 (.ref 0 :: As)) [] F A0 Q') (k : ∀ v F' A', Q' v F' A' → Kj z y (d + 1) (pc + 3) lv ((v.map (mj_v ad)).toList ++ st) (mj_w (gK z ad sh nn) F' A') ce sl mc ms E Q) : Kj z y (d + 1) pc lv (As.reverse ++ .ref (ad 0) :: st) (mj_w (gK z ad sh nn) F A0) ce sl mc ms E Q := by
  intro p e R s m args below meth c H locs ls A C hin hN hK hP hD hS hA hl hR
  have he : (mj_w (gK z ad sh nn) F A0)[0]? = some (ad 0, mj_c ad z.2.2.1 (F 0) (A0 0) (sh 0)) := mj_w_at (gK z ad sh nn) F A0 hb
  rw [hsh] at he
  have hrecv := va_recv hK hP hcl he
  rw [hq] at hrecv
  have e1 : (Value.ref 0 :: As).map (mj_v ad) = .ref (ad 0) :: As := by rw [List.map_cons, hAs]; rfl
  refine mj_callA (g := gK z ad sh nn) (va_runV (As := As) (rest := st) (b := ad 0) ⟨C.1, C.2.1, C.2.2.2.1, C.2.2.2.2.1, C.2.2.2.2.2.1⟩ (mj_met ok.2.2.2.1 hlen (kz_DD hD) hM) ⟨sj_cb C ok hl0 ⟨hR.1, hR.2.1⟩, C.2.2.2.2.2.1 _ (List.mem_cons_of_mem _ hi), C.2.2.2.2.2.1 _ (List.mem_cons_of_mem _ hse)⟩ ⟨mj_blind _ _ F A0, hrecv, fun U hU hW => ⟨by rw [e1], by show va_P _ _ _ U.heap; rw [hU]; exact hP, va_K.moved hW.alike hK, mj_NW.warm hW hN.1⟩⟩ rfl hn hl.1 rfl (lv_room hr) hd ⟨by omega, by omega⟩) hS (kz_sub hD) (fun v F' A' H1 locs1 hq1 hP1 _ hS1 => ?_)
  exact k v F' A' hq1 p e R s m args below meth c H1 locs1 ls A C hin hN hK hP1 (((kz_DD hD).D F' A').weaken (fun _ q _ h => kz_sub hD q.1 h)) hS1 hA hl hR
end KJ2
theorem kF0_z (o : Nat) : kF0 o 0 = 0 := by unfold kF0; split <;> simp_all
theorem kA0_z {k : Nat} (h3 : k ≠ 3) (h4 : k ≠ 4) : kA0 k = fun _ => 0 := by unfold kA0; split <;> simp_all
theorem kCB : CB 0 kF0 kA0 := by
  have rz : ∀ (n k : Nat), rg (fun _ => (0 : Int32)) n k := fun n k j _ => ⟨0, by omega, rfl⟩
  refine ⟨⟨rfl, by omega⟩, ⟨0, by omega, rfl⟩, ⟨0, by omega, rfl⟩, fun o ho => ⟨⟨0, by omega, kF0_z o⟩, ?_⟩, ⟨?_, ?_, ?_, ?_⟩, ?_, ?_⟩
  · rw [kA0_z (isN_lit ho (by omega)) (isN_lit ho (by omega))]; exact rz 8 4
  · exact rz 8 7
  · exact rz 8 3
  · exact rz 8 3
  · exact rz 8 3
  · intro j hj
    match j, hj with

    | 0, _ => exact ⟨47, ⟨2, by decide, rfl⟩, by decide +kernel⟩
    | 1, _ => exact ⟨54, ⟨3, by decide, rfl⟩, by decide +kernel⟩
    | 2, _ => exact ⟨61, ⟨4, by decide, rfl⟩, by decide +kernel⟩
    | 3, _ => exact ⟨68, ⟨5, by decide, rfl⟩, by decide +kernel⟩
    | 4, _ => exact ⟨75, ⟨6, by decide, rfl⟩, by decide +kernel⟩
    | 5, _ => exact ⟨82, ⟨7, by decide, rfl⟩, by decide +kernel⟩
    | 6, _ => exact ⟨89, ⟨8, by decide, rfl⟩, by decide +kernel⟩
    | 7, _ => exact ⟨96, ⟨9, by decide, rfl⟩, by decide +kernel⟩
    | k + 8, h => exact absurd h (by omega)
  · intro j hj
    match j, hj with
    | 0, _ => exact ⟨103, ⟨10, by decide, rfl⟩, by decide +kernel⟩
    | 1, _ => exact ⟨110, ⟨11, by decide, rfl⟩, by decide +kernel⟩
    | k + 2, h => exact absurd h (by omega)
abbrev zM : Nat → Nat := fun _ => 0
abbrev zR : Nat → Int32 := fun _ => 0
abbrev zP : Nat → Nat → Int32 := fun _ _ => 0
theorem kCS : CS kF0 kA0 0 zM zR 0 zP 0 zP := by
  refine ⟨⟨⟨⟨⟨(kF0_z 33).trans nI_0.symm, by omega⟩, fun u hu => absurd hu (by omega)⟩, fun u hu => absurd hu (by omega), fun u v i j _ hv => absurd hv (by omega)⟩, rfl, by omega, rfl, by omega⟩, ⟨fun k => 47 + 7 * k, fun k hk => ⟨⟨k + 2, by omega, by omega, by show 47 + 7 * k = _; omega⟩, ?_⟩, fun i j _ _ e => by have e2 : 47 + 7 * i = 47 + 7 * j := e; omega, fun k hk => absurd hk (by omega)⟩, ⟨by decide +kernel, by decide +kernel⟩, fun k hk => absurd hk (by omega)⟩
  match k, hk with
  | 0, _ => decide +kernel
  | 1, _ => decide +kernel
  | 2, _ => decide +kernel
  | 3, _ => decide +kernel
  | 4, _ => decide +kernel
  | 5, _ => decide +kernel
  | 6, _ => decide +kernel
  | 7, _ => decide +kernel
  | k + 8, h => exact absurd h (by omega)
def kC (i : Nat) : Int32 := cvB (kBy.getD i 0)
theorem kC_in : ∀ i, i < 96 → nI 32 ≤ kC i ∧ kC i ≤ nI 126 := by decide +kernel
theorem rw_u {f g : Nat → Int32} (h : ∀ j, j < 500 → f j = g j) (k : Nat) (x : Int32) : ∀ j, j < 500 → upd f k x j = upd g k x j := fun j hj => by
  by_cases e : j = k
  · rw [e, pk_us, pk_us]
  · rw [pk_un e, pk_un e]; exact h j hj
theorem tbR_c {rm : Nat → Nat} {u v : Nat} : ∀ {k : Nat} {f : Nat} {r g : Nat → Int32}, (∀ j, j < 500 → r j = g j) → ∀ j, j < 500 → tbR rm u v k f r j = tbR rm u v k f g j
  | 0, _, _, _, h => h
  | k + 1, f, r, g, h => tbR_c (k := k) (rw_u h _ _)
def kR0 : Nat → Int32 := fun _ => 0
def kR1 : Nat → Int32 := upd (upd (upd (upd kR0 (4 * 0) (nI 5)) (4 * 0 + 1) (nI 2)) (4 * 0 + 2) (nI 7)) (32 + 0) (nI 0)
def kR2 : Nat → Int32 := upd (upd (upd (upd kR1 (4 * 1) (nI 3)) (4 * 1 + 1) (nI 1)) (4 * 1 + 2) (nI 0)) (32 + 1) (nI 1)
def kR3 : Nat → Int32 := upd (upd (upd (upd kR2 (4 * 2) (nI 0)) (4 * 2 + 1) (nI 4)) (4 * 2 + 2) (nI 0)) (32 + 2) (nI 2)
def kR4 : Nat → Int32 := upd (upd (upd (upd kR3 (4 * 3) (nI 6)) (4 * 3 + 1) (nI 6)) (4 * 3 + 2) (nI 0)) (32 + 3) (nI 0)
def kR5 : Nat → Int32 := upd (upd (upd (upd kR4 (4 * 4) (nI 9)) (4 * 4 + 1) (nI 10)) (4 * 4 + 2) (nI 1)) (32 + 4) (nI 3)
def kMm : Nat → Nat := (fun j => if j = 4 then 3 else (fun j => if j = 3 then 2 else (fun j => if j = 2 then 2 else (fun j => if j = 1 then 2 else (fun j => if j = 0 then 3 else (fun _ => 0) j) j) j) j) j)
def kR6 : Nat → Int32 := tbR kMm 0 1 (kMm 0 * kMm 1) 19200 kR5
def kR7 : Nat → Int32 := tbR kMm 0 2 (kMm 0 * kMm 2) 300519 kR6
def kR8 : Nat → Int32 := tbR kMm 1 2 (kMm 1 * kMm 2) 990 kR7
def kR9 : Nat → Int32 := tbR kMm 2 3 (kMm 2 * kMm 3) 440 kR8
def kR10 : Nat → Int32 := tbR kMm 3 4 (kMm 3 * kMm 4) 102301 kR9
abbrev kRow : Nat → Int32 := kR10
def kChk : Bool := match rd_text (rd_c kC 96) 96 with
  | .inl _ => false
  | .inr p => p.1 == 5 && (List.range 5).all (fun u => p.2.1 u == kMm u) && (List.range 500).all (fun k => p.2.2 k == kRow k)
set_option maxRecDepth 100000 in
theorem kChk_t : kChk = true := by decide +kernel
theorem kRd : ∃ mm row, rd_text (rd_c kC 96) 96 = .inr (5, mm, row) ∧ (∀ u, u < 5 → kMm u = mm u) ∧ ∀ k, k < 500 → kRow k = row k := by
  have h := kChk_t
  unfold kChk at h
  cases e : rd_text (rd_c kC 96) 96 with
  | inl b => rw [e] at h; cases h
  | inr p =>
    rw [e] at h
    obtain ⟨n, mm, row⟩ := p
    simp only [Bool.and_eq_true, beq_iff_eq, List.all_eq_true, List.mem_range] at h
    obtain ⟨⟨rfl, h1⟩, h2⟩ := h
    exact ⟨mm, row, rfl, fun u hu => (h1 u hu).symm, fun k hk => (h2 k hk).symm⟩
def kTx : String := "n0,5,2,7;n1,3,1;n2,0,4;n0,6,6;n3,9,10,1;e0,1,019200;e0,2,300519;e1,2,0990;e2,3,0440;e3,4,102301;"
def kE (q v : Nat) (A : Nat → Prop) (s : State) : Prop := va_AO RX0 s ∧ vk_R RX5 68 kTx q s ∧ kS q v A s s.heap

set_option maxHeartbeats 1000000 in
theorem k_C2 (z : mj_B) (d mc ms q v : Nat) (hmc : 116 ≤ mc) (hms : 8052 ≤ ms) (Q : va_W → Prop) (ad : Nat → Nat) (kk : ∀ F A, CB 96 F A → CS F A 0 zM zR 0 zP 0 zP → (∀ j, j < 96 → A 1 j = kC j) → Kj z mX5_init (d + 6) 217 [(1, .int (nI 96)), (0, .ref (ad 0))] [] (mj_w (gK z ad SHC 117) F A) 116 8052 mc ms (kE q v) Q) : ∀ n i, i + n = 96 → ∀ F A, CB i F A → CS F A 0 zM zR 0 zP 0 zP → (∀ j, j < i → A 1 j = kC j) → Kj z mX5_init (d + 6) 191 [(1, .int (nI i)), (0, .ref (ad 0))] [] (mj_w (gK z ad SHC 117) F A) 116 8052 mc ms (kE q v) Q := by
  intro n
  induction n with
  | zero =>
    intro i hi F A hC hS hx
    have : i = 96 := by omega
    subst this
    refine k_iload_n dX5_init_191 rfl ?_
    refine k_ldcS (tx := kTx) (q := q) dX5_init_192 (fun _ _ h => h.2.1) ?_
    refine k_callStr (v := v) (y' := mJ0_length_8abf5) (As := []) (fun _ _ h => h.2.2) dX5_init_194 lkX5_70 okJ0_length_8abf5 imJ0_length_8abf5 seJ0_length_8abf5 rfl rfl (Nat.le_of_ble_eq_true rfl) (Nat.le_of_ble_eq_true rfl) hmc hms (s_length z.1 q v (d + 4)) (fun w hw => ?_)
    subst hw
    refine k_ge (tgt := 217) dX5_init_197 (by decide) (fun _ => ?_) (fun h => absurd (by decide) h)
    exact kk F A hC hS hx
  | succ n ih =>
    intro i hi F A hC hS hx
    refine k_iload_n dX5_init_191 rfl ?_
    refine k_ldcS (tx := kTx) (q := q) dX5_init_192 (fun _ _ h => h.2.1) ?_
    refine k_callStr (v := v) (y' := mJ0_length_8abf5) (As := []) (fun _ _ h => h.2.2) dX5_init_194 lkX5_70 okJ0_length_8abf5 imJ0_length_8abf5 seJ0_length_8abf5 rfl rfl (Nat.le_of_ble_eq_true rfl) (Nat.le_of_ble_eq_true rfl) hmc hms (s_length z.1 q v (d + 4)) (fun w hw => ?_)
    subst hw
    refine k_ge (tgt := 217) dX5_init_197 (by decide) (fun h => absurd h (nI_ge (a := i) (b := 96) (by omega) (by omega))) (fun _ => ?_)
    refine k_aload_n dX5_init_200 rfl ?_
    refine k_ldcS (tx := kTx) (q := q) dX5_init_201 (fun _ _ h => h.2.1) ?_
    refine k_iload_n dX5_init_203 rfl ?_
    refine k_callStr (v := v) (y' := mJ0_charAt_5068e) (As := [.int (nI i)]) (st := [.ref (ad 0)]) (fun _ _ h => h.2.2) dX5_init_204 lkX5_76 okJ0_charAt_5068e imJ0_charAt_5068e seJ0_charAt_5068e rfl rfl (Nat.le_of_ble_eq_true rfl) (Nat.le_of_ble_eq_true rfl) hmc hms (s_char z.1 q v (d + 2) (nI i) (nI_pos (by omega)) (nI_lt (a := i) (b := 96) (by omega) (by omega)) (vp_in_nI (by omega) (by omega))) (fun w hw => ?_)
    obtain ⟨x, rfl, hxn, hx2⟩ := hw
    have hxi : x = kC i := by rw [hx2, nI_clamp (by omega)]; rfl
    refine k_callJ (y' := mX5_write) (As := [.int x]) (st := []) dX5_init_207 lkX5_80 okX5_write imX5_write seX5_write (by omega) rfl (r := (RX5, TX5, 17)) rfl rfl rfl rfl (Nat.le_of_ble_eq_true rfl) (Nat.le_of_ble_eq_true rfl) hmc hms (c_write (kz z ad 117) (d + 4) (i, F, A) x F A hC.c) (fun w F' A' hw => ?_)
    have hw2 : ∃ (x' : Int32), w = some (.int x') ∧ CB (i + 1) F' A' ∧ CS F' A' 0 zM zR 0 zP 0 zP ∧ ∀ j, j < i + 1 → A' 1 j = kC j := by
      have hin : nI 32 ≤ x ∧ x ≤ nI 126 := by rw [hxi]; exact kC_in i (by omega)
      rcases hw with ⟨h1, -⟩ | ⟨-, h5, -⟩ | ⟨-, -, h2, h3, h4, h6⟩
      · exact absurd hin h1
      · exact absurd (show i = 200 from h5) (by omega)
      · refine ⟨_, h2, h3, ?_, fun j hj => ?_⟩
        · rw [h4, h6]; exact hS.off rfl rfl rfl rfl (fun o ho _ => mj_u_off _ (Or.inl (Ne.symm (g_ne0 ho)))) (fun k hk _ => mj_u_ne _ _ (by omega))
        · rw [h6, mj_u_at, nar_in hin]
          show upd (A 1) i x j = kC j
          by_cases e : j = i
          · rw [e, pk_us, hxi]
          · rw [pk_un e]; exact hx j (by omega)
    obtain ⟨x', rfl, hC', hS', hx'⟩ := hw2
    refine k_pop dX5_init_210 rfl ?_
    refine k_iinc (v := nI (i + 1)) (j := 0) (lv' := [(1, .int (nI (i + 1))), (0, .ref (ad 0))]) dX5_init_211 rfl (by rw [nI_succ]; rfl) (Nat.le_of_ble_eq_true rfl) rfl ?_
    refine k_goto (tgt := 191) dX5_init_214 (by decide) ?_
    exact ih (i + 1) (by omega) F' A' hC' hS' hx'
set_option maxHeartbeats 1000000 in
theorem k_C (z : mj_B) (d h0 q v : Nat) : Kj z mX5_init (d + 6) 0 [(0, .ref h0)] [] ((h0, .inr (5, [.null, .int 0, .null, .null, .null, .null, .int 0, .null, .int 0, .null, .null, .null, .null, .null, .int 0, .int 0, .int 0])) :: []) 0 0 116 8052 (kE q v) (fun w => ∃ ad F A, ad 0 = h0 ∧ w = mj_w (gK z ad SHC 117) F A ∧ CB 0 F A ∧ CS F A 5 kMm kRow 0 zP 0 zP ∧ wr 5 kMm kRow) := by
  refine k_C1 z (d + 3) h0 116 8052 (Nat.le_of_ble_eq_true rfl) (Nat.le_of_ble_eq_true rfl) (kE q v) (fun _ _ h => h.1) _ (fun ad h => ?_)
  subst h
  refine k_iconst (v := nI 0) dX5_init_189 (by decide +kernel) ?_
  refine k_istore_n (lv' := [(1, .int (nI 0)), (0, .ref (ad 0))]) dX5_init_190 (Nat.le_of_ble_eq_true rfl) rfl ?_
  refine k_C2 z d 116 8052 q v (Nat.le_of_ble_eq_true rfl) (Nat.le_of_ble_eq_true rfl) _ ad (fun F A hC hS hx => ?_) 96 0 rfl kF0 kA0 kCB kCS (fun j hj => absurd hj (by omega))
  refine k_aload_n dX5_init_217 rfl ?_
  refine k_callJ (y' := mX5_lay) (As := []) (st := []) dX5_init_218 lkX5_84 okX5_lay imX5_lay seX5_lay (by omega) rfl (r := (RX5, TX5, 17)) rfl rfl rfl rfl (Nat.le_of_ble_eq_true rfl) (Nat.le_of_ble_eq_true rfl) (Nat.le_of_ble_eq_true rfl) (Nat.le_of_ble_eq_true rfl) (c_lay (kz z ad 117) d 96 F A hC (96, F, A) rfl) (fun w F' A' hw => ?_)
  have hc : cT (96, F, A) = rd_c kC 96 := by
    funext k
    show rd_c (A 1) 96 k = rd_c kC 96 k
    unfold rd_c
    by_cases h : k < 96
    · rw [if_pos h, if_pos h]; exact hx k h
    · rw [if_neg h, if_neg h]
  obtain ⟨mmS, rowS, hrd, hm5, hr5⟩ := kRd
  obtain ⟨x, rfl, hC', -, hcs⟩ := hw
  rw [hc] at hcs
  obtain ⟨hS', hwr⟩ : CS F' A' 5 kMm kRow 0 zP 0 zP ∧ wr 5 kMm kRow := by
    rcases hcs with ⟨-, hno, -⟩ | ⟨n', mm', row', htx, hw', hn', -, hcs⟩
    · exact absurd (rd_no_not hno hrd (by decide)) id
    · have e := htx.symm.trans hrd
      cases e
      exact ⟨(hcs _ _ _ _ _ _ _ hS).rows hm5 hr5 (fun k j hk => absurd hk (by omega)) (fun k j hk => absurd hk (by omega)), hw'.1.cg hm5 hr5⟩
  refine k_pop dX5_init_221 rfl ?_
  refine k_aload_n dX5_init_222 rfl ?_
  refine k_callJ (y' := mX5_wipe) (As := []) (st := []) dX5_init_223 lkX5_87 okX5_wipe imX5_wipe seX5_wipe (by omega) rfl (r := (RX5, TX5, 17)) rfl rfl rfl rfl (Nat.le_of_ble_eq_true rfl) (Nat.le_of_ble_eq_true rfl) (Nat.le_of_ble_eq_true rfl) (Nat.le_of_ble_eq_true rfl) (c_wipe (kz z ad 117) (d + 5) (96, F', A') F' A' hC'.c) (fun w F'' A'' hw => ?_)
  obtain ⟨rfl, hC2, eF2, eA2⟩ := hw
  refine k_pop dX5_init_226 rfl ?_
  exact k_ret dX5_init_227 rfl (Nat.le_of_ble_eq_true rfl) (Nat.le_of_ble_eq_true rfl) ⟨ad, F'', A'', rfl, rfl, hC2, by rw [eF2, eA2]; exact hS'.f (by decide) (by decide) _, hwr⟩
def kZ0 : mj_S := fun _ _ => 0
theorem kMI : MI (0, kZ0) 0 (fun _ => 0) 0 (fun _ => 0) 0 0 kZ0 kZ0 := by
  have rz : ∀ (n k : Nat), rg (fun _ => (0 : Int32)) n k := fun n k j _ => ⟨0, by omega, rfl⟩
  exact ⟨⟨rfl, by omega, rfl, rfl, rfl, rfl, rfl⟩, ⟨rfl, by omega, fun _ _ => rfl, fun _ => Nat.zero_le _, fun j h => by omega⟩, ⟨rfl, by omega, fun _ _ => rfl, fun _ => Nat.zero_le _, fun j h => by omega⟩, ⟨rfl, by omega⟩, ⟨rfl, by omega⟩, rz 8 3, rz 8 15, rz 8 255, rz 8 7, rz 8 255⟩
theorem SHM0_map (ad : Nat → Nat) : ([.int 0, .ref 1, .int 0, .ref 2, .int 0, .ref 3, .ref 4, .ref 5, .ref 6, .int 0, .ref 7, .int 0, .int 0, .int 0, .ref 8, .ref 9, .ref 10, .ref 11, .ref 12, .ref 13, .ref 14, .int 0, .int 0, .int 0, .ref 15, .ref 16, .ref 17] : List Value).mapIdx (mj_f ad (kZ0 0)) = [.int 0, .ref (ad 1), .int 0, .ref (ad 2), .int 0, .ref (ad 3), .ref (ad 4), .ref (ad 5), .ref (ad 6), .int 0, .ref (ad 7), .int 0, .int 0, .int 0, .ref (ad 8), .ref (ad 9), .ref (ad 10), .ref (ad 11), .ref (ad 12), .ref (ad 13), .ref (ad 14), .int 0, .int 0, .int 0, .ref (ad 15), .ref (ad 16), .ref (ad 17)] := by simp [List.mapIdx_cons, mj_f, kZ0]
theorem kM_w (z : mj_B) (ad : Nat → Nat) : mj_w (gK z ad SHM 18) kZ0 kZ0 = (ad 0, .inr (6, [.int 0, .ref (ad 1), .int 0, .ref (ad 2), .int 0, .ref (ad 3), .ref (ad 4), .ref (ad 5), .ref (ad 6), .int 0, .ref (ad 7), .int 0, .int 0, .int 0, .ref (ad 8), .ref (ad 9), .ref (ad 10), .ref (ad 11), .ref (ad 12), .ref (ad 13), .ref (ad 14), .int 0, .int 0, .int 0, .ref (ad 15), .ref (ad 16), .ref (ad 17)])) :: [(ad 1, .inl (mj_dA (gC z) 0, 200, .inl (fun _ => 0))), (ad 2, .inl (mj_dA (gC z) 0, 8, .inl (fun _ => 0))), (ad 3, .inl (mj_dA (gC z) 0, 8, .inl (fun _ => 0))), (ad 4, .inl (mj_dA (gC z) 0, 500, .inl (fun _ => 0))), (ad 5, .inl (mj_dA (gC z) 0, 500, .inl (fun _ => 0))), (ad 6, .inl (mj_dA (gC z) 0, 4000, .inl (fun _ => 0))), (ad 7, .inl (mj_dA (gC z) 0, 1000, .inl (fun _ => 0))), (ad 8, .inl (mj_dA (gC z) 0, 32, .inl (fun _ => 0))), (ad 9, .inl (mj_dA (gC z) 0, 1024, .inl (fun _ => 0))), (ad 10, .inl (mj_dA (gC z) 0, 8, .inl (fun _ => 0))), (ad 11, .inl (mj_dA (gC z) 0, 8, .inl (fun _ => 0))), (ad 12, .inl (mj_dA (gC z) 0, 8, .inl (fun _ => 0))), (ad 13, .inl (mj_dA (gC z) 0, 8, .inl (fun _ => 0))), (ad 14, .inl (mj_dA (gC z) 0, 8, .inl (fun _ => 0))), (ad 15, .inl (mj_dA (gC z) 0, 8, .inl (fun _ => 0))), (ad 16, .inl (mj_dA (gC z) 0, 8, .inl (fun _ => 0))), (ad 17, .inl (mj_dA (gC z) 0, 16, .inl (fun _ => 0)))] := by
  rw [← SHM0_map ad]
  rfl
set_option maxHeartbeats 4000000 in
set_option maxRecDepth 100000 in
theorem k_M1 (z : mj_B) (d h0 : Nat) (Q : va_W → Prop) (k : ∀ ad : Nat → Nat, ad 0 = h0 → Kj z mX6_init (d + 2) 146 [(0, .ref h0)] [] (mj_w (gK z ad SHM 18) kZ0 kZ0) 17 7344 17 7344 (fun _ _ => True) Q) : Kj z mX6_init (d + 2) 0 [(0, .ref h0)] [] ((h0, .inr (6, [.int 0, .null, .int 0, .null, .int 0, .null, .null, .null, .null, .int 0, .null, .int 0, .int 0, .int 0, .null, .null, .null, .null, .null, .null, .null, .int 0, .int 0, .int 0, .null, .null, .null])) :: []) 0 0 17 7344 (fun _ _ => True) Q := by
  refine k_aload_n dX6_init_0 rfl ?_
  refine k_obj dX6_init_1 loX6_1 oi_im oi_co (by omega) (Nat.le_of_ble_eq_true rfl) ?_
  refine k_aload_n dX6_init_4 rfl ?_
  refine k_sipush (v := 200) dX6_init_5 (by decide +kernel) ?_
  refine k_newI (n := 200) (N' := 200) dX6_init_8 ar_i (by decide +kernel) (by decide +kernel) (by decide +kernel) (by omega) (by omega) (fun x1 => ?_)
  refine k_put dX6_init_10 kfX6_7 rfl rfl (Nat.le_of_ble_eq_true rfl) ?_
  refine k_ws (ws' := (h0, .inr (6, [.int 0, .ref x1, .int 0, .null, .int 0, .null, .null, .null, .null, .int 0, .null, .int 0, .int 0, .int 0, .null, .null, .null, .null, .null, .null, .null, .int 0, .int 0, .int 0, .null, .null, .null])) :: [(x1, .inl (mj_dA (gC z) 0, 200, .inl (fun _ => 0)))]) rfl ?_
  refine k_aload_n dX6_init_13 rfl ?_
  refine k_bipush (v := 8) dX6_init_14 (by decide +kernel) ?_
  refine k_newI (n := 8) (N' := 8) dX6_init_16 ar_i (by decide +kernel) (by decide +kernel) (by decide +kernel) (by omega) (by omega) (fun x2 => ?_)
  refine k_put dX6_init_18 kfX6_13 rfl rfl (Nat.le_of_ble_eq_true rfl) ?_
  refine k_ws (ws' := (h0, .inr (6, [.int 0, .ref x1, .int 0, .ref x2, .int 0, .null, .null, .null, .null, .int 0, .null, .int 0, .int 0, .int 0, .null, .null, .null, .null, .null, .null, .null, .int 0, .int 0, .int 0, .null, .null, .null])) :: [(x1, .inl (mj_dA (gC z) 0, 200, .inl (fun _ => 0))), (x2, .inl (mj_dA (gC z) 0, 8, .inl (fun _ => 0)))]) rfl ?_
  refine k_aload_n dX6_init_21 rfl ?_
  refine k_bipush (v := 8) dX6_init_22 (by decide +kernel) ?_
  refine k_newI (n := 8) (N' := 8) dX6_init_24 ar_i (by decide +kernel) (by decide +kernel) (by decide +kernel) (by omega) (by omega) (fun x3 => ?_)
  refine k_put dX6_init_26 kfX6_16 rfl rfl (Nat.le_of_ble_eq_true rfl) ?_
  refine k_ws (ws' := (h0, .inr (6, [.int 0, .ref x1, .int 0, .ref x2, .int 0, .ref x3, .null, .null, .null, .int 0, .null, .int 0, .int 0, .int 0, .null, .null, .null, .null, .null, .null, .null, .int 0, .int 0, .int 0, .null, .null, .null])) :: [(x1, .inl (mj_dA (gC z) 0, 200, .inl (fun _ => 0))), (x2, .inl (mj_dA (gC z) 0, 8, .inl (fun _ => 0))), (x3, .inl (mj_dA (gC z) 0, 8, .inl (fun _ => 0)))]) rfl ?_
  refine k_aload_n dX6_init_29 rfl ?_
  refine k_sipush (v := 500) dX6_init_30 (by decide +kernel) ?_
  refine k_newI (n := 500) (N' := 500) dX6_init_33 ar_i (by decide +kernel) (by decide +kernel) (by decide +kernel) (by omega) (by omega) (fun x4 => ?_)
  refine k_put dX6_init_35 kfX6_19 rfl rfl (Nat.le_of_ble_eq_true rfl) ?_
  refine k_ws (ws' := (h0, .inr (6, [.int 0, .ref x1, .int 0, .ref x2, .int 0, .ref x3, .ref x4, .null, .null, .int 0, .null, .int 0, .int 0, .int 0, .null, .null, .null, .null, .null, .null, .null, .int 0, .int 0, .int 0, .null, .null, .null])) :: [(x1, .inl (mj_dA (gC z) 0, 200, .inl (fun _ => 0))), (x2, .inl (mj_dA (gC z) 0, 8, .inl (fun _ => 0))), (x3, .inl (mj_dA (gC z) 0, 8, .inl (fun _ => 0))), (x4, .inl (mj_dA (gC z) 0, 500, .inl (fun _ => 0)))]) rfl ?_
  refine k_aload_n dX6_init_38 rfl ?_
  refine k_sipush (v := 500) dX6_init_39 (by decide +kernel) ?_
  refine k_newI (n := 500) (N' := 500) dX6_init_42 ar_i (by decide +kernel) (by decide +kernel) (by decide +kernel) (by omega) (by omega) (fun x5 => ?_)
  refine k_put dX6_init_44 kfX6_22 rfl rfl (Nat.le_of_ble_eq_true rfl) ?_
  refine k_ws (ws' := (h0, .inr (6, [.int 0, .ref x1, .int 0, .ref x2, .int 0, .ref x3, .ref x4, .ref x5, .null, .int 0, .null, .int 0, .int 0, .int 0, .null, .null, .null, .null, .null, .null, .null, .int 0, .int 0, .int 0, .null, .null, .null])) :: [(x1, .inl (mj_dA (gC z) 0, 200, .inl (fun _ => 0))), (x2, .inl (mj_dA (gC z) 0, 8, .inl (fun _ => 0))), (x3, .inl (mj_dA (gC z) 0, 8, .inl (fun _ => 0))), (x4, .inl (mj_dA (gC z) 0, 500, .inl (fun _ => 0))), (x5, .inl (mj_dA (gC z) 0, 500, .inl (fun _ => 0)))]) rfl ?_
  refine k_aload_n dX6_init_47 rfl ?_
  refine k_sipush (v := 4000) dX6_init_48 (by decide +kernel) ?_
  refine k_newI (n := 4000) (N' := 4000) dX6_init_51 ar_i (by decide +kernel) (by decide +kernel) (by decide +kernel) (by omega) (by omega) (fun x6 => ?_)
  refine k_put dX6_init_53 kfX6_25 rfl rfl (Nat.le_of_ble_eq_true rfl) ?_
  refine k_ws (ws' := (h0, .inr (6, [.int 0, .ref x1, .int 0, .ref x2, .int 0, .ref x3, .ref x4, .ref x5, .ref x6, .int 0, .null, .int 0, .int 0, .int 0, .null, .null, .null, .null, .null, .null, .null, .int 0, .int 0, .int 0, .null, .null, .null])) :: [(x1, .inl (mj_dA (gC z) 0, 200, .inl (fun _ => 0))), (x2, .inl (mj_dA (gC z) 0, 8, .inl (fun _ => 0))), (x3, .inl (mj_dA (gC z) 0, 8, .inl (fun _ => 0))), (x4, .inl (mj_dA (gC z) 0, 500, .inl (fun _ => 0))), (x5, .inl (mj_dA (gC z) 0, 500, .inl (fun _ => 0))), (x6, .inl (mj_dA (gC z) 0, 4000, .inl (fun _ => 0)))]) rfl ?_
  refine k_aload_n dX6_init_56 rfl ?_
  refine k_sipush (v := 1000) dX6_init_57 (by decide +kernel) ?_
  refine k_newI (n := 1000) (N' := 1000) dX6_init_60 ar_i (by decide +kernel) (by decide +kernel) (by decide +kernel) (by omega) (by omega) (fun x7 => ?_)
  refine k_put dX6_init_62 kfX6_28 rfl rfl (Nat.le_of_ble_eq_true rfl) ?_
  refine k_ws (ws' := (h0, .inr (6, [.int 0, .ref x1, .int 0, .ref x2, .int 0, .ref x3, .ref x4, .ref x5, .ref x6, .int 0, .ref x7, .int 0, .int 0, .int 0, .null, .null, .null, .null, .null, .null, .null, .int 0, .int 0, .int 0, .null, .null, .null])) :: [(x1, .inl (mj_dA (gC z) 0, 200, .inl (fun _ => 0))), (x2, .inl (mj_dA (gC z) 0, 8, .inl (fun _ => 0))), (x3, .inl (mj_dA (gC z) 0, 8, .inl (fun _ => 0))), (x4, .inl (mj_dA (gC z) 0, 500, .inl (fun _ => 0))), (x5, .inl (mj_dA (gC z) 0, 500, .inl (fun _ => 0))), (x6, .inl (mj_dA (gC z) 0, 4000, .inl (fun _ => 0))), (x7, .inl (mj_dA (gC z) 0, 1000, .inl (fun _ => 0)))]) rfl ?_
  refine k_aload_n dX6_init_65 rfl ?_
  refine k_bipush (v := 32) dX6_init_66 (by decide +kernel) ?_
  refine k_newI (n := 32) (N' := 32) dX6_init_68 ar_i (by decide +kernel) (by decide +kernel) (by decide +kernel) (by omega) (by omega) (fun x8 => ?_)
  refine k_put dX6_init_70 kfX6_31 rfl rfl (Nat.le_of_ble_eq_true rfl) ?_
  refine k_ws (ws' := (h0, .inr (6, [.int 0, .ref x1, .int 0, .ref x2, .int 0, .ref x3, .ref x4, .ref x5, .ref x6, .int 0, .ref x7, .int 0, .int 0, .int 0, .ref x8, .null, .null, .null, .null, .null, .null, .int 0, .int 0, .int 0, .null, .null, .null])) :: [(x1, .inl (mj_dA (gC z) 0, 200, .inl (fun _ => 0))), (x2, .inl (mj_dA (gC z) 0, 8, .inl (fun _ => 0))), (x3, .inl (mj_dA (gC z) 0, 8, .inl (fun _ => 0))), (x4, .inl (mj_dA (gC z) 0, 500, .inl (fun _ => 0))), (x5, .inl (mj_dA (gC z) 0, 500, .inl (fun _ => 0))), (x6, .inl (mj_dA (gC z) 0, 4000, .inl (fun _ => 0))), (x7, .inl (mj_dA (gC z) 0, 1000, .inl (fun _ => 0))), (x8, .inl (mj_dA (gC z) 0, 32, .inl (fun _ => 0)))]) rfl ?_
  refine k_aload_n dX6_init_73 rfl ?_
  refine k_sipush (v := 1024) dX6_init_74 (by decide +kernel) ?_
  refine k_newI (n := 1024) (N' := 1024) dX6_init_77 ar_i (by decide +kernel) (by decide +kernel) (by decide +kernel) (by omega) (by omega) (fun x9 => ?_)
  refine k_put dX6_init_79 kfX6_34 rfl rfl (Nat.le_of_ble_eq_true rfl) ?_
  refine k_ws (ws' := (h0, .inr (6, [.int 0, .ref x1, .int 0, .ref x2, .int 0, .ref x3, .ref x4, .ref x5, .ref x6, .int 0, .ref x7, .int 0, .int 0, .int 0, .ref x8, .ref x9, .null, .null, .null, .null, .null, .int 0, .int 0, .int 0, .null, .null, .null])) :: [(x1, .inl (mj_dA (gC z) 0, 200, .inl (fun _ => 0))), (x2, .inl (mj_dA (gC z) 0, 8, .inl (fun _ => 0))), (x3, .inl (mj_dA (gC z) 0, 8, .inl (fun _ => 0))), (x4, .inl (mj_dA (gC z) 0, 500, .inl (fun _ => 0))), (x5, .inl (mj_dA (gC z) 0, 500, .inl (fun _ => 0))), (x6, .inl (mj_dA (gC z) 0, 4000, .inl (fun _ => 0))), (x7, .inl (mj_dA (gC z) 0, 1000, .inl (fun _ => 0))), (x8, .inl (mj_dA (gC z) 0, 32, .inl (fun _ => 0))), (x9, .inl (mj_dA (gC z) 0, 1024, .inl (fun _ => 0)))]) rfl ?_
  refine k_aload_n dX6_init_82 rfl ?_
  refine k_bipush (v := 8) dX6_init_83 (by decide +kernel) ?_
  refine k_newI (n := 8) (N' := 8) dX6_init_85 ar_i (by decide +kernel) (by decide +kernel) (by decide +kernel) (by omega) (by omega) (fun x10 => ?_)
  refine k_put dX6_init_87 kfX6_37 rfl rfl (Nat.le_of_ble_eq_true rfl) ?_
  refine k_ws (ws' := (h0, .inr (6, [.int 0, .ref x1, .int 0, .ref x2, .int 0, .ref x3, .ref x4, .ref x5, .ref x6, .int 0, .ref x7, .int 0, .int 0, .int 0, .ref x8, .ref x9, .ref x10, .null, .null, .null, .null, .int 0, .int 0, .int 0, .null, .null, .null])) :: [(x1, .inl (mj_dA (gC z) 0, 200, .inl (fun _ => 0))), (x2, .inl (mj_dA (gC z) 0, 8, .inl (fun _ => 0))), (x3, .inl (mj_dA (gC z) 0, 8, .inl (fun _ => 0))), (x4, .inl (mj_dA (gC z) 0, 500, .inl (fun _ => 0))), (x5, .inl (mj_dA (gC z) 0, 500, .inl (fun _ => 0))), (x6, .inl (mj_dA (gC z) 0, 4000, .inl (fun _ => 0))), (x7, .inl (mj_dA (gC z) 0, 1000, .inl (fun _ => 0))), (x8, .inl (mj_dA (gC z) 0, 32, .inl (fun _ => 0))), (x9, .inl (mj_dA (gC z) 0, 1024, .inl (fun _ => 0))), (x10, .inl (mj_dA (gC z) 0, 8, .inl (fun _ => 0)))]) rfl ?_
  refine k_aload_n dX6_init_90 rfl ?_
  refine k_bipush (v := 8) dX6_init_91 (by decide +kernel) ?_
  refine k_newI (n := 8) (N' := 8) dX6_init_93 ar_i (by decide +kernel) (by decide +kernel) (by decide +kernel) (by omega) (by omega) (fun x11 => ?_)
  refine k_put dX6_init_95 kfX6_40 rfl rfl (Nat.le_of_ble_eq_true rfl) ?_
  refine k_ws (ws' := (h0, .inr (6, [.int 0, .ref x1, .int 0, .ref x2, .int 0, .ref x3, .ref x4, .ref x5, .ref x6, .int 0, .ref x7, .int 0, .int 0, .int 0, .ref x8, .ref x9, .ref x10, .ref x11, .null, .null, .null, .int 0, .int 0, .int 0, .null, .null, .null])) :: [(x1, .inl (mj_dA (gC z) 0, 200, .inl (fun _ => 0))), (x2, .inl (mj_dA (gC z) 0, 8, .inl (fun _ => 0))), (x3, .inl (mj_dA (gC z) 0, 8, .inl (fun _ => 0))), (x4, .inl (mj_dA (gC z) 0, 500, .inl (fun _ => 0))), (x5, .inl (mj_dA (gC z) 0, 500, .inl (fun _ => 0))), (x6, .inl (mj_dA (gC z) 0, 4000, .inl (fun _ => 0))), (x7, .inl (mj_dA (gC z) 0, 1000, .inl (fun _ => 0))), (x8, .inl (mj_dA (gC z) 0, 32, .inl (fun _ => 0))), (x9, .inl (mj_dA (gC z) 0, 1024, .inl (fun _ => 0))), (x10, .inl (mj_dA (gC z) 0, 8, .inl (fun _ => 0))), (x11, .inl (mj_dA (gC z) 0, 8, .inl (fun _ => 0)))]) rfl ?_
  refine k_aload_n dX6_init_98 rfl ?_
  refine k_bipush (v := 8) dX6_init_99 (by decide +kernel) ?_
  refine k_newI (n := 8) (N' := 8) dX6_init_101 ar_i (by decide +kernel) (by decide +kernel) (by decide +kernel) (by omega) (by omega) (fun x12 => ?_)
  refine k_put dX6_init_103 kfX6_43 rfl rfl (Nat.le_of_ble_eq_true rfl) ?_
  refine k_ws (ws' := (h0, .inr (6, [.int 0, .ref x1, .int 0, .ref x2, .int 0, .ref x3, .ref x4, .ref x5, .ref x6, .int 0, .ref x7, .int 0, .int 0, .int 0, .ref x8, .ref x9, .ref x10, .ref x11, .ref x12, .null, .null, .int 0, .int 0, .int 0, .null, .null, .null])) :: [(x1, .inl (mj_dA (gC z) 0, 200, .inl (fun _ => 0))), (x2, .inl (mj_dA (gC z) 0, 8, .inl (fun _ => 0))), (x3, .inl (mj_dA (gC z) 0, 8, .inl (fun _ => 0))), (x4, .inl (mj_dA (gC z) 0, 500, .inl (fun _ => 0))), (x5, .inl (mj_dA (gC z) 0, 500, .inl (fun _ => 0))), (x6, .inl (mj_dA (gC z) 0, 4000, .inl (fun _ => 0))), (x7, .inl (mj_dA (gC z) 0, 1000, .inl (fun _ => 0))), (x8, .inl (mj_dA (gC z) 0, 32, .inl (fun _ => 0))), (x9, .inl (mj_dA (gC z) 0, 1024, .inl (fun _ => 0))), (x10, .inl (mj_dA (gC z) 0, 8, .inl (fun _ => 0))), (x11, .inl (mj_dA (gC z) 0, 8, .inl (fun _ => 0))), (x12, .inl (mj_dA (gC z) 0, 8, .inl (fun _ => 0)))]) rfl ?_
  refine k_aload_n dX6_init_106 rfl ?_
  refine k_bipush (v := 8) dX6_init_107 (by decide +kernel) ?_
  refine k_newI (n := 8) (N' := 8) dX6_init_109 ar_i (by decide +kernel) (by decide +kernel) (by decide +kernel) (by omega) (by omega) (fun x13 => ?_)
  refine k_put dX6_init_111 kfX6_46 rfl rfl (Nat.le_of_ble_eq_true rfl) ?_
  refine k_ws (ws' := (h0, .inr (6, [.int 0, .ref x1, .int 0, .ref x2, .int 0, .ref x3, .ref x4, .ref x5, .ref x6, .int 0, .ref x7, .int 0, .int 0, .int 0, .ref x8, .ref x9, .ref x10, .ref x11, .ref x12, .ref x13, .null, .int 0, .int 0, .int 0, .null, .null, .null])) :: [(x1, .inl (mj_dA (gC z) 0, 200, .inl (fun _ => 0))), (x2, .inl (mj_dA (gC z) 0, 8, .inl (fun _ => 0))), (x3, .inl (mj_dA (gC z) 0, 8, .inl (fun _ => 0))), (x4, .inl (mj_dA (gC z) 0, 500, .inl (fun _ => 0))), (x5, .inl (mj_dA (gC z) 0, 500, .inl (fun _ => 0))), (x6, .inl (mj_dA (gC z) 0, 4000, .inl (fun _ => 0))), (x7, .inl (mj_dA (gC z) 0, 1000, .inl (fun _ => 0))), (x8, .inl (mj_dA (gC z) 0, 32, .inl (fun _ => 0))), (x9, .inl (mj_dA (gC z) 0, 1024, .inl (fun _ => 0))), (x10, .inl (mj_dA (gC z) 0, 8, .inl (fun _ => 0))), (x11, .inl (mj_dA (gC z) 0, 8, .inl (fun _ => 0))), (x12, .inl (mj_dA (gC z) 0, 8, .inl (fun _ => 0))), (x13, .inl (mj_dA (gC z) 0, 8, .inl (fun _ => 0)))]) rfl ?_
  refine k_aload_n dX6_init_114 rfl ?_
  refine k_bipush (v := 8) dX6_init_115 (by decide +kernel) ?_
  refine k_newI (n := 8) (N' := 8) dX6_init_117 ar_i (by decide +kernel) (by decide +kernel) (by decide +kernel) (by omega) (by omega) (fun x14 => ?_)
  refine k_put dX6_init_119 kfX6_49 rfl rfl (Nat.le_of_ble_eq_true rfl) ?_
  refine k_ws (ws' := (h0, .inr (6, [.int 0, .ref x1, .int 0, .ref x2, .int 0, .ref x3, .ref x4, .ref x5, .ref x6, .int 0, .ref x7, .int 0, .int 0, .int 0, .ref x8, .ref x9, .ref x10, .ref x11, .ref x12, .ref x13, .ref x14, .int 0, .int 0, .int 0, .null, .null, .null])) :: [(x1, .inl (mj_dA (gC z) 0, 200, .inl (fun _ => 0))), (x2, .inl (mj_dA (gC z) 0, 8, .inl (fun _ => 0))), (x3, .inl (mj_dA (gC z) 0, 8, .inl (fun _ => 0))), (x4, .inl (mj_dA (gC z) 0, 500, .inl (fun _ => 0))), (x5, .inl (mj_dA (gC z) 0, 500, .inl (fun _ => 0))), (x6, .inl (mj_dA (gC z) 0, 4000, .inl (fun _ => 0))), (x7, .inl (mj_dA (gC z) 0, 1000, .inl (fun _ => 0))), (x8, .inl (mj_dA (gC z) 0, 32, .inl (fun _ => 0))), (x9, .inl (mj_dA (gC z) 0, 1024, .inl (fun _ => 0))), (x10, .inl (mj_dA (gC z) 0, 8, .inl (fun _ => 0))), (x11, .inl (mj_dA (gC z) 0, 8, .inl (fun _ => 0))), (x12, .inl (mj_dA (gC z) 0, 8, .inl (fun _ => 0))), (x13, .inl (mj_dA (gC z) 0, 8, .inl (fun _ => 0))), (x14, .inl (mj_dA (gC z) 0, 8, .inl (fun _ => 0)))]) rfl ?_
  refine k_aload_n dX6_init_122 rfl ?_
  refine k_bipush (v := 8) dX6_init_123 (by decide +kernel) ?_
  refine k_newI (n := 8) (N' := 8) dX6_init_125 ar_i (by decide +kernel) (by decide +kernel) (by decide +kernel) (by omega) (by omega) (fun x15 => ?_)
  refine k_put dX6_init_127 kfX6_52 rfl rfl (Nat.le_of_ble_eq_true rfl) ?_
  refine k_ws (ws' := (h0, .inr (6, [.int 0, .ref x1, .int 0, .ref x2, .int 0, .ref x3, .ref x4, .ref x5, .ref x6, .int 0, .ref x7, .int 0, .int 0, .int 0, .ref x8, .ref x9, .ref x10, .ref x11, .ref x12, .ref x13, .ref x14, .int 0, .int 0, .int 0, .ref x15, .null, .null])) :: [(x1, .inl (mj_dA (gC z) 0, 200, .inl (fun _ => 0))), (x2, .inl (mj_dA (gC z) 0, 8, .inl (fun _ => 0))), (x3, .inl (mj_dA (gC z) 0, 8, .inl (fun _ => 0))), (x4, .inl (mj_dA (gC z) 0, 500, .inl (fun _ => 0))), (x5, .inl (mj_dA (gC z) 0, 500, .inl (fun _ => 0))), (x6, .inl (mj_dA (gC z) 0, 4000, .inl (fun _ => 0))), (x7, .inl (mj_dA (gC z) 0, 1000, .inl (fun _ => 0))), (x8, .inl (mj_dA (gC z) 0, 32, .inl (fun _ => 0))), (x9, .inl (mj_dA (gC z) 0, 1024, .inl (fun _ => 0))), (x10, .inl (mj_dA (gC z) 0, 8, .inl (fun _ => 0))), (x11, .inl (mj_dA (gC z) 0, 8, .inl (fun _ => 0))), (x12, .inl (mj_dA (gC z) 0, 8, .inl (fun _ => 0))), (x13, .inl (mj_dA (gC z) 0, 8, .inl (fun _ => 0))), (x14, .inl (mj_dA (gC z) 0, 8, .inl (fun _ => 0))), (x15, .inl (mj_dA (gC z) 0, 8, .inl (fun _ => 0)))]) rfl ?_
  refine k_aload_n dX6_init_130 rfl ?_
  refine k_bipush (v := 8) dX6_init_131 (by decide +kernel) ?_
  refine k_newI (n := 8) (N' := 8) dX6_init_133 ar_i (by decide +kernel) (by decide +kernel) (by decide +kernel) (by omega) (by omega) (fun x16 => ?_)
  refine k_put dX6_init_135 kfX6_55 rfl rfl (Nat.le_of_ble_eq_true rfl) ?_
  refine k_ws (ws' := (h0, .inr (6, [.int 0, .ref x1, .int 0, .ref x2, .int 0, .ref x3, .ref x4, .ref x5, .ref x6, .int 0, .ref x7, .int 0, .int 0, .int 0, .ref x8, .ref x9, .ref x10, .ref x11, .ref x12, .ref x13, .ref x14, .int 0, .int 0, .int 0, .ref x15, .ref x16, .null])) :: [(x1, .inl (mj_dA (gC z) 0, 200, .inl (fun _ => 0))), (x2, .inl (mj_dA (gC z) 0, 8, .inl (fun _ => 0))), (x3, .inl (mj_dA (gC z) 0, 8, .inl (fun _ => 0))), (x4, .inl (mj_dA (gC z) 0, 500, .inl (fun _ => 0))), (x5, .inl (mj_dA (gC z) 0, 500, .inl (fun _ => 0))), (x6, .inl (mj_dA (gC z) 0, 4000, .inl (fun _ => 0))), (x7, .inl (mj_dA (gC z) 0, 1000, .inl (fun _ => 0))), (x8, .inl (mj_dA (gC z) 0, 32, .inl (fun _ => 0))), (x9, .inl (mj_dA (gC z) 0, 1024, .inl (fun _ => 0))), (x10, .inl (mj_dA (gC z) 0, 8, .inl (fun _ => 0))), (x11, .inl (mj_dA (gC z) 0, 8, .inl (fun _ => 0))), (x12, .inl (mj_dA (gC z) 0, 8, .inl (fun _ => 0))), (x13, .inl (mj_dA (gC z) 0, 8, .inl (fun _ => 0))), (x14, .inl (mj_dA (gC z) 0, 8, .inl (fun _ => 0))), (x15, .inl (mj_dA (gC z) 0, 8, .inl (fun _ => 0))), (x16, .inl (mj_dA (gC z) 0, 8, .inl (fun _ => 0)))]) rfl ?_
  refine k_aload_n dX6_init_138 rfl ?_
  refine k_bipush (v := 16) dX6_init_139 (by decide +kernel) ?_
  refine k_newI (n := 16) (N' := 16) dX6_init_141 ar_i (by decide +kernel) (by decide +kernel) (by decide +kernel) (by omega) (by omega) (fun x17 => ?_)
  refine k_put dX6_init_143 kfX6_58 rfl rfl (Nat.le_of_ble_eq_true rfl) ?_
  refine k_ws (ws' := (h0, .inr (6, [.int 0, .ref x1, .int 0, .ref x2, .int 0, .ref x3, .ref x4, .ref x5, .ref x6, .int 0, .ref x7, .int 0, .int 0, .int 0, .ref x8, .ref x9, .ref x10, .ref x11, .ref x12, .ref x13, .ref x14, .int 0, .int 0, .int 0, .ref x15, .ref x16, .ref x17])) :: [(x1, .inl (mj_dA (gC z) 0, 200, .inl (fun _ => 0))), (x2, .inl (mj_dA (gC z) 0, 8, .inl (fun _ => 0))), (x3, .inl (mj_dA (gC z) 0, 8, .inl (fun _ => 0))), (x4, .inl (mj_dA (gC z) 0, 500, .inl (fun _ => 0))), (x5, .inl (mj_dA (gC z) 0, 500, .inl (fun _ => 0))), (x6, .inl (mj_dA (gC z) 0, 4000, .inl (fun _ => 0))), (x7, .inl (mj_dA (gC z) 0, 1000, .inl (fun _ => 0))), (x8, .inl (mj_dA (gC z) 0, 32, .inl (fun _ => 0))), (x9, .inl (mj_dA (gC z) 0, 1024, .inl (fun _ => 0))), (x10, .inl (mj_dA (gC z) 0, 8, .inl (fun _ => 0))), (x11, .inl (mj_dA (gC z) 0, 8, .inl (fun _ => 0))), (x12, .inl (mj_dA (gC z) 0, 8, .inl (fun _ => 0))), (x13, .inl (mj_dA (gC z) 0, 8, .inl (fun _ => 0))), (x14, .inl (mj_dA (gC z) 0, 8, .inl (fun _ => 0))), (x15, .inl (mj_dA (gC z) 0, 8, .inl (fun _ => 0))), (x16, .inl (mj_dA (gC z) 0, 8, .inl (fun _ => 0))), (x17, .inl (mj_dA (gC z) 0, 16, .inl (fun _ => 0)))]) rfl ?_
  refine k_ws (ws' := mj_w (gK z (fun k => match k with | 0 => h0 | 1 => x1 | 2 => x2 | 3 => x3 | 4 => x4 | 5 => x5 | 6 => x6 | 7 => x7 | 8 => x8 | 9 => x9 | 10 => x10 | 11 => x11 | 12 => x12 | 13 => x13 | 14 => x14 | 15 => x15 | 16 => x16 | _ => x17) SHM 18) kZ0 kZ0) (kM_w z (fun k => match k with | 0 => h0 | 1 => x1 | 2 => x2 | 3 => x3 | 4 => x4 | 5 => x5 | 6 => x6 | 7 => x7 | 8 => x8 | 9 => x9 | 10 => x10 | 11 => x11 | 12 => x12 | 13 => x13 | 14 => x14 | 15 => x15 | 16 => x16 | _ => x17)).symm ?_
  exact k (fun k => match k with | 0 => h0 | 1 => x1 | 2 => x2 | 3 => x3 | 4 => x4 | 5 => x5 | 6 => x6 | 7 => x7 | 8 => x8 | 9 => x9 | 10 => x10 | 11 => x11 | 12 => x12 | 13 => x13 | 14 => x14 | 15 => x15 | 16 => x16 | _ => x17) rfl
set_option maxHeartbeats 2000000 in
theorem k_M (z : mj_B) (d h0 : Nat) : Kj z mX6_init (d + 2) 0 [(0, .ref h0)] [] ((h0, .inr (6, [.int 0, .null, .int 0, .null, .int 0, .null, .null, .null, .null, .int 0, .null, .int 0, .int 0, .int 0, .null, .null, .null, .null, .null, .null, .null, .int 0, .int 0, .int 0, .null, .null, .null])) :: []) 0 0 17 7344 (fun _ _ => True) (fun w => ∃ ad F A rn rm, ad 0 = h0 ∧ w = mj_w (gK z ad SHM 18) F A ∧ MI (0, A) 5 kMm rn rm 0 0 F A ∧ ∀ j, j < 500 → A 5 j = kRow j) := by
  refine k_M1 z d h0 _ (fun ad h => ?_)
  subst h
  refine k_aload_n dX6_init_146 rfl ?_
  refine k_callJ (y' := mX6_readNone) (As := []) (st := []) dX6_init_147 lkX6_61 okX6_readNone imX6_readNone seX6_readNone (by omega) rfl (r := (RX6, TX6, 27)) rfl rfl rfl rfl (Nat.le_of_ble_eq_true rfl) (Nat.le_of_ble_eq_true rfl) (Nat.le_of_ble_eq_true rfl) (Nat.le_of_ble_eq_true rfl) (m_readNone (kz z ad 18) (d + 1) _ _ _ _ _ _ _ kZ0 kZ0 kMI) (fun w F A hw => ?_)
  obtain ⟨rfl, hM, hr⟩ := hw
  replace hr : ∀ j, j < 500 → A 4 j = kR0 j := hr
  refine k_aload_n dX6_init_150 rfl ?_
  refine k_iconst (v := nI 0) dX6_init_151 (by decide +kernel) ?_
  refine k_iconst (v := nI 3) dX6_init_152 (by decide +kernel) ?_
  refine k_iconst (v := nI 5) dX6_init_153 (by decide +kernel) ?_
  refine k_iconst (v := nI 2) dX6_init_154 (by decide +kernel) ?_
  refine k_bipush (v := nI 7) dX6_init_155 (by decide +kernel) ?_
  refine k_callJ (y' := mX6_nodeIs) (As := [.int (nI 0), .int (nI 3), .int (nI 5), .int (nI 2), .int (nI 7)]) (st := []) dX6_init_157 lkX6_64 okX6_nodeIs imX6_nodeIs seX6_nodeIs (by omega) rfl (r := (RX6, TX6, 27)) rfl rfl rfl rfl (Nat.le_of_ble_eq_true rfl) (Nat.le_of_ble_eq_true rfl) (Nat.le_of_ble_eq_true rfl) (Nat.le_of_ble_eq_true rfl) (m_nodeIs (kz z ad 18) (d + 1) _ _ _ 0 _ _ _ (nI 0) (nI 5) (nI 2) (nI 7) 3 (by omega) (by omega) (by omega) F A hM) (fun w F A hw => ?_)
  obtain ⟨rfl, hM, h4⟩ := hw
  replace hr : ∀ j, j < 500 → A 4 j = kR1 j := fun j hj => by rw [h4]; exact rw_u (rw_u (rw_u (rw_u hr _ _) _ _) _ _) _ _ j hj
  refine k_aload_n dX6_init_160 rfl ?_
  refine k_iconst (v := nI 1) dX6_init_161 (by decide +kernel) ?_
  refine k_iconst (v := nI 2) dX6_init_162 (by decide +kernel) ?_
  refine k_iconst (v := nI 3) dX6_init_163 (by decide +kernel) ?_
  refine k_iconst (v := nI 1) dX6_init_164 (by decide +kernel) ?_
  refine k_iconst (v := nI 0) dX6_init_165 (by decide +kernel) ?_
  refine k_callJ (y' := mX6_nodeIs) (As := [.int (nI 1), .int (nI 2), .int (nI 3), .int (nI 1), .int (nI 0)]) (st := []) dX6_init_166 lkX6_64 okX6_nodeIs imX6_nodeIs seX6_nodeIs (by omega) rfl (r := (RX6, TX6, 27)) rfl rfl rfl rfl (Nat.le_of_ble_eq_true rfl) (Nat.le_of_ble_eq_true rfl) (Nat.le_of_ble_eq_true rfl) (Nat.le_of_ble_eq_true rfl) (m_nodeIs (kz z ad 18) (d + 1) _ _ _ 1 _ _ _ (nI 1) (nI 3) (nI 1) (nI 0) 2 (by omega) (by omega) (by omega) F A hM) (fun w F A hw => ?_)
  obtain ⟨rfl, hM, h4⟩ := hw
  replace hr : ∀ j, j < 500 → A 4 j = kR2 j := fun j hj => by rw [h4]; exact rw_u (rw_u (rw_u (rw_u hr _ _) _ _) _ _) _ _ j hj
  refine k_aload_n dX6_init_169 rfl ?_
  refine k_iconst (v := nI 2) dX6_init_170 (by decide +kernel) ?_
  refine k_iconst (v := nI 2) dX6_init_171 (by decide +kernel) ?_
  refine k_iconst (v := nI 0) dX6_init_172 (by decide +kernel) ?_
  refine k_iconst (v := nI 4) dX6_init_173 (by decide +kernel) ?_
  refine k_iconst (v := nI 0) dX6_init_174 (by decide +kernel) ?_
  refine k_callJ (y' := mX6_nodeIs) (As := [.int (nI 2), .int (nI 2), .int (nI 0), .int (nI 4), .int (nI 0)]) (st := []) dX6_init_175 lkX6_64 okX6_nodeIs imX6_nodeIs seX6_nodeIs (by omega) rfl (r := (RX6, TX6, 27)) rfl rfl rfl rfl (Nat.le_of_ble_eq_true rfl) (Nat.le_of_ble_eq_true rfl) (Nat.le_of_ble_eq_true rfl) (Nat.le_of_ble_eq_true rfl) (m_nodeIs (kz z ad 18) (d + 1) _ _ _ 2 _ _ _ (nI 2) (nI 0) (nI 4) (nI 0) 2 (by omega) (by omega) (by omega) F A hM) (fun w F A hw => ?_)
  obtain ⟨rfl, hM, h4⟩ := hw
  replace hr : ∀ j, j < 500 → A 4 j = kR3 j := fun j hj => by rw [h4]; exact rw_u (rw_u (rw_u (rw_u hr _ _) _ _) _ _) _ _ j hj
  refine k_aload_n dX6_init_178 rfl ?_
  refine k_iconst (v := nI 0) dX6_init_179 (by decide +kernel) ?_
  refine k_iconst (v := nI 2) dX6_init_180 (by decide +kernel) ?_
  refine k_bipush (v := nI 6) dX6_init_181 (by decide +kernel) ?_
  refine k_bipush (v := nI 6) dX6_init_183 (by decide +kernel) ?_
  refine k_iconst (v := nI 0) dX6_init_185 (by decide +kernel) ?_
  refine k_callJ (y' := mX6_nodeIs) (As := [.int (nI 0), .int (nI 2), .int (nI 6), .int (nI 6), .int (nI 0)]) (st := []) dX6_init_186 lkX6_64 okX6_nodeIs imX6_nodeIs seX6_nodeIs (by omega) rfl (r := (RX6, TX6, 27)) rfl rfl rfl rfl (Nat.le_of_ble_eq_true rfl) (Nat.le_of_ble_eq_true rfl) (Nat.le_of_ble_eq_true rfl) (Nat.le_of_ble_eq_true rfl) (m_nodeIs (kz z ad 18) (d + 1) _ _ _ 3 _ _ _ (nI 0) (nI 6) (nI 6) (nI 0) 2 (by omega) (by omega) (by omega) F A hM) (fun w F A hw => ?_)
  obtain ⟨rfl, hM, h4⟩ := hw
  replace hr : ∀ j, j < 500 → A 4 j = kR4 j := fun j hj => by rw [h4]; exact rw_u (rw_u (rw_u (rw_u hr _ _) _ _) _ _) _ _ j hj
  refine k_aload_n dX6_init_189 rfl ?_
  refine k_iconst (v := nI 3) dX6_init_190 (by decide +kernel) ?_
  refine k_iconst (v := nI 3) dX6_init_191 (by decide +kernel) ?_
  refine k_bipush (v := nI 9) dX6_init_192 (by decide +kernel) ?_
  refine k_bipush (v := nI 10) dX6_init_194 (by decide +kernel) ?_
  refine k_iconst (v := nI 1) dX6_init_196 (by decide +kernel) ?_
  refine k_callJ (y' := mX6_nodeIs) (As := [.int (nI 3), .int (nI 3), .int (nI 9), .int (nI 10), .int (nI 1)]) (st := []) dX6_init_197 lkX6_64 okX6_nodeIs imX6_nodeIs seX6_nodeIs (by omega) rfl (r := (RX6, TX6, 27)) rfl rfl rfl rfl (Nat.le_of_ble_eq_true rfl) (Nat.le_of_ble_eq_true rfl) (Nat.le_of_ble_eq_true rfl) (Nat.le_of_ble_eq_true rfl) (m_nodeIs (kz z ad 18) (d + 1) _ _ _ 4 _ _ _ (nI 3) (nI 9) (nI 10) (nI 1) 3 (by omega) (by omega) (by omega) F A hM) (fun w F A hw => ?_)
  obtain ⟨rfl, hM, h4⟩ := hw
  replace hr : ∀ j, j < 500 → A 4 j = kR5 j := fun j hj => by rw [h4]; exact rw_u (rw_u (rw_u (rw_u hr _ _) _ _) _ _) _ _ j hj
  refine k_aload_n dX6_init_200 rfl ?_
  refine k_iconst (v := nI 0) dX6_init_201 (by decide +kernel) ?_
  refine k_iconst (v := nI 1) dX6_init_202 (by decide +kernel) ?_
  refine k_sipush (v := nI 19200) dX6_init_203 (by decide +kernel) ?_
  refine k_callJ (y' := mX6_tableIs) (As := [.int (nI 0), .int (nI 1), .int (nI 19200)]) (st := []) dX6_init_206 lkX6_68 okX6_tableIs imX6_tableIs seX6_tableIs (by omega) rfl (r := (RX6, TX6, 27)) rfl rfl rfl rfl (Nat.le_of_ble_eq_true rfl) (Nat.le_of_ble_eq_true rfl) (Nat.le_of_ble_eq_true rfl) (Nat.le_of_ble_eq_true rfl) (m_tableIs (kz z ad 18) d _ _ _ 5 _ _ _ 0 1 19200 (by decide) (by decide) (by decide) F A hM) (fun w F A hw => ?_)
  obtain ⟨rfl, hM, h4⟩ := hw
  replace hr : ∀ j, j < 500 → A 4 j = kR6 j := fun j hj => by rw [h4]; exact tbR_c hr j hj
  refine k_aload_n dX6_init_209 rfl ?_
  refine k_iconst (v := nI 0) dX6_init_210 (by decide +kernel) ?_
  refine k_iconst (v := nI 2) dX6_init_211 (by decide +kernel) ?_
  refine k_ldc (v := 300519) dX6_init_212 (mj_in 760 (by decide +kernel) rfl) ?_
  refine k_callJ (y' := mX6_tableIs) (As := [.int (nI 0), .int (nI 2), .int (300519)]) (st := []) dX6_init_214 lkX6_68 okX6_tableIs imX6_tableIs seX6_tableIs (by omega) rfl (r := (RX6, TX6, 27)) rfl rfl rfl rfl (Nat.le_of_ble_eq_true rfl) (Nat.le_of_ble_eq_true rfl) (Nat.le_of_ble_eq_true rfl) (Nat.le_of_ble_eq_true rfl) (by have h := m_tableIs (kz z ad 18) d _ _ _ 5 _ _ _ 0 2 300519 (by decide) (by decide) (by decide) F A hM; rw [show nI 300519 = (300519 : Int32) from by decide +kernel] at h; exact h) (fun w F A hw => ?_)
  obtain ⟨rfl, hM, h4⟩ := hw
  replace hr : ∀ j, j < 500 → A 4 j = kR7 j := fun j hj => by rw [h4]; exact tbR_c hr j hj
  refine k_aload_n dX6_init_217 rfl ?_
  refine k_iconst (v := nI 1) dX6_init_218 (by decide +kernel) ?_
  refine k_iconst (v := nI 2) dX6_init_219 (by decide +kernel) ?_
  refine k_sipush (v := nI 990) dX6_init_220 (by decide +kernel) ?_
  refine k_callJ (y' := mX6_tableIs) (As := [.int (nI 1), .int (nI 2), .int (nI 990)]) (st := []) dX6_init_223 lkX6_68 okX6_tableIs imX6_tableIs seX6_tableIs (by omega) rfl (r := (RX6, TX6, 27)) rfl rfl rfl rfl (Nat.le_of_ble_eq_true rfl) (Nat.le_of_ble_eq_true rfl) (Nat.le_of_ble_eq_true rfl) (Nat.le_of_ble_eq_true rfl) (m_tableIs (kz z ad 18) d _ _ _ 5 _ _ _ 1 2 990 (by decide) (by decide) (by decide) F A hM) (fun w F A hw => ?_)
  obtain ⟨rfl, hM, h4⟩ := hw
  replace hr : ∀ j, j < 500 → A 4 j = kR8 j := fun j hj => by rw [h4]; exact tbR_c hr j hj
  refine k_aload_n dX6_init_226 rfl ?_
  refine k_iconst (v := nI 2) dX6_init_227 (by decide +kernel) ?_
  refine k_iconst (v := nI 3) dX6_init_228 (by decide +kernel) ?_
  refine k_sipush (v := nI 440) dX6_init_229 (by decide +kernel) ?_
  refine k_callJ (y' := mX6_tableIs) (As := [.int (nI 2), .int (nI 3), .int (nI 440)]) (st := []) dX6_init_232 lkX6_68 okX6_tableIs imX6_tableIs seX6_tableIs (by omega) rfl (r := (RX6, TX6, 27)) rfl rfl rfl rfl (Nat.le_of_ble_eq_true rfl) (Nat.le_of_ble_eq_true rfl) (Nat.le_of_ble_eq_true rfl) (Nat.le_of_ble_eq_true rfl) (m_tableIs (kz z ad 18) d _ _ _ 5 _ _ _ 2 3 440 (by decide) (by decide) (by decide) F A hM) (fun w F A hw => ?_)
  obtain ⟨rfl, hM, h4⟩ := hw
  replace hr : ∀ j, j < 500 → A 4 j = kR9 j := fun j hj => by rw [h4]; exact tbR_c hr j hj
  refine k_aload_n dX6_init_235 rfl ?_
  refine k_iconst (v := nI 3) dX6_init_236 (by decide +kernel) ?_
  refine k_iconst (v := nI 4) dX6_init_237 (by decide +kernel) ?_
  refine k_ldc (v := 102301) dX6_init_238 (mj_in 761 (by decide +kernel) rfl) ?_
  refine k_callJ (y' := mX6_tableIs) (As := [.int (nI 3), .int (nI 4), .int (102301)]) (st := []) dX6_init_240 lkX6_68 okX6_tableIs imX6_tableIs seX6_tableIs (by omega) rfl (r := (RX6, TX6, 27)) rfl rfl rfl rfl (Nat.le_of_ble_eq_true rfl) (Nat.le_of_ble_eq_true rfl) (Nat.le_of_ble_eq_true rfl) (Nat.le_of_ble_eq_true rfl) (by have h := m_tableIs (kz z ad 18) d _ _ _ 5 _ _ _ 3 4 102301 (by decide) (by decide) (by decide) F A hM; rw [show nI 102301 = (102301 : Int32) from by decide +kernel] at h; exact h) (fun w F A hw => ?_)
  obtain ⟨rfl, hM, h4⟩ := hw
  replace hr : ∀ j, j < 500 → A 4 j = kR10 j := fun j hj => by rw [h4]; exact tbR_c hr j hj
  refine k_aload_n dX6_init_243 rfl ?_
  refine k_callJ (y' := mX6_begin) (As := []) (st := []) dX6_init_244 lkX6_74 okX6_begin imX6_begin seX6_begin (by omega) rfl (r := (RX6, TX6, 27)) rfl rfl rfl rfl (Nat.le_of_ble_eq_true rfl) (Nat.le_of_ble_eq_true rfl) (Nat.le_of_ble_eq_true rfl) (Nat.le_of_ble_eq_true rfl) (m_begin (kz z ad 18) (d + 1) _ _ _ _ _ _ _ F A hM) (fun w F A hw => ?_)
  obtain ⟨rfl, hM, -, -, h5⟩ := hw
  exact k_ret dX6_init_247 rfl (Nat.le_of_ble_eq_true rfl) (Nat.le_of_ble_eq_true rfl) ⟨ad, F, A, _, _, rfl, rfl, hM, fun j hj => (h5 j hj).trans (hr j hj)⟩
