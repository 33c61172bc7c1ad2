/-! constructors: K, a constructor from pc on, over a world of cells that grows; its object stands first -/
theorem va_P_mem {D : va_G} {ws : va_W} {H : Heap} : va_P D vwCl ws H ↔ ∀ q ∈ ws, va_at D vwCl q H := by
  constructor
  · intro h q hq
    obtain ⟨k, hk⟩ := List.getElem?_of_mem hq
    exact h k q hk
  · intro h k q hk
    exact h q (List.mem_of_getElem? hk)
theorem va_D_iff {A : Nat → Prop} {ws : va_W} : va_D A ws ↔ (ws.map (·.1)).Nodup ∧ ∀ q ∈ ws, A q.1 := by
  constructor
  · intro h
    refine ⟨?_, fun q hq => ?_⟩
    · rw [List.Nodup, List.pairwise_iff_getElem]
      intro i j hi hj hij he
      have hi' : i < ws.length := by simpa using hi
      have hj' : j < ws.length := by simpa using hj
      rw [List.getElem_map, List.getElem_map] at he
      have := h.1 i j _ _ (List.getElem?_eq_getElem hi') (List.getElem?_eq_getElem hj') he
      omega
    · obtain ⟨k, hk⟩ := List.getElem?_of_mem hq
      exact h.2 k q hk
  · intro h
    have hn := List.pairwise_iff_getElem.mp h.1
    refine ⟨fun i j p q hi hj he => ?_, fun k q hk => h.2 q (List.mem_of_getElem? hk)⟩
    obtain ⟨hli, hei⟩ := List.getElem?_eq_some_iff.mp hi
    obtain ⟨hlj, hej⟩ := List.getElem?_eq_some_iff.mp hj
    rcases Nat.lt_trichotomy i j with h1 | h1 | h1
    · exact absurd (by rw [List.getElem_map, List.getElem_map, hei, hej]; exact he) (hn i j (by simpa using hli) (by simpa using hlj) h1)
    · exact h1
    · exact absurd (by rw [List.getElem_map, List.getElem_map, hei, hej]; exact he.symm) (hn j i (by simpa using hlj) (by simpa using hli) h1)
theorem va_P.perm {D : va_G} {ws ws' : va_W} {H : Heap} (h : va_P D vwCl ws H) (hp : ws.Perm ws') : va_P D vwCl ws' H := va_P_mem.mpr (fun q hq => va_P_mem.mp h q (hp.mem_iff.mpr hq))
theorem va_D.perm {A : Nat → Prop} {ws ws' : va_W} (h : va_D A ws) (hp : ws.Perm ws') : va_D A ws' := by
  rw [va_D_iff] at h ⊢
  exact ⟨(hp.map _).nodup_iff.mp h.1, fun q hq => h.2 q (hp.mem_iff.mpr hq)⟩
abbrev kD (z : mj_B) : va_G := mj_D (gC z)
abbrev kK (z : mj_B) : List (ClassId × FieldType) := mj_K (gC z)
def kj_Q (z : mj_B) (A : Nat → Prop) (Q : va_W → Prop) : Array Value → State → Outcome → State → Prop := fun _ st oc t =>
  (∃ ws, oc = .returned none ∧ Q ws ∧ va_P (kD z) vwCl ws t.heap ∧ va_D A ws) ∧ va_F A st t
def Kj (z : mj_B) (y : mj_Y) (d pc : Nat) (lv : List (Nat × Value)) (st : List Value) (ws : va_W) (ce sl mc ms : Nat) (E : (Nat → Prop) → State → Prop) (Q : va_W → Prop) : Prop :=
  ∀ (p : Program) (e : Env) (R : Room) (s : State) (m : MethodId) (args : Array Value) (below : List Frame) (meth : Method) (c : Code) (H : Heap) (locs : List Loc) (ls : Array Slot) (A : Nat → Prop),
    mj_Cx y p s m args meth c → meth.name = "<init>" → mj_NW s ∧ E A s → va_K (kD z) vwCl (kK z) s → va_P (kD z) vwCl ws H → va_D A ws → va_S A s.heap H locs → (∀ q, s.heap.size ≤ q → A q) → lv_has ls y.2.2.1 lv → (d ≤ R.frames ∧ 64 * d ≤ R.locals ∧ mc ≤ R.cells ∧ ms ≤ R.slots) →
    W p z.1 e R s m args below meth c H locs ce sl (MQ below (kj_Q z A Q) args s mc ms A) (F0 m pc ls st)
section KJ
variable {z : mj_B} {y : mj_Y} {d pc : Nat} {lv : List (Nat × Value)} {st : List Value} {ws : va_W} {ce sl mc ms : Nat} {E : (Nat → Prop) → State → Prop} {Q : va_W → Prop}
theorem k_ws {ws' : va_W} (h : ws = ws') (k : Kj z y d pc lv st ws' ce sl mc ms E Q) : Kj z y d pc lv st ws ce sl mc ms E Q := h ▸ k
theorem k_aload_n {i : Fin 4} {x : Nat} (hd : decode y.2.1 pc = .ok (.aload_n i, 1)) (hl0 : lv.lookup i.val = some (.ref x)) (k : Kj z y d (pc + 1) lv (.ref x :: st) ws ce sl mc ms E Q) : Kj z y d pc lv st ws ce sl mc ms E Q := by
  intro p e R s m args below meth c H locs ls A C hin hN hK hP hD hS hA hl hR
  have hl' : lv_has ls y.2.2.1 (mj_lv ((z.1, fun k => k, z.2.2), SHC, 117) lv) := by
    have : mj_lv ((z.1, fun k => k, z.2.2), SHC, 117) lv = lv := by
      unfold mj_lv
      conv => rhs; rw [← List.map_id lv]
      apply List.map_congr_left
      intro q _
      obtain ⟨a, b⟩ := q
      cases b <;> rfl
    rw [this]; exact hl
  exact lv_aload_n C.1 C.2.1 hd rfl (mj_lk hl' hl0) (k p e R s m args below meth c H locs ls A C hin hN hK hP hD hS hA hl hR)
theorem k_iload_n {i : Fin 4} {x : Int32} (hd : decode y.2.1 pc = .ok (.iload_n i, 1)) (hl0 : lv.lookup i.val = some (.int x)) (k : Kj z y d (pc + 1) lv (.int x :: st) ws ce sl mc ms E Q) : Kj z y d pc lv st ws ce sl mc ms E Q := by
  intro p e R s m args below meth c H locs ls A C hin hN hK hP hD hS hA hl hR
  have hl' : lv_has ls y.2.2.1 (mj_lv ((z.1, fun k => k, z.2.2), SHC, 117) lv) := by
    have : mj_lv ((z.1, fun k => k, z.2.2), SHC, 117) lv = lv := by
      unfold mj_lv
      conv => rhs; rw [← List.map_id lv]
      apply List.map_congr_left
      intro q _
      obtain ⟨a, b⟩ := q
      cases b <;> rfl
    rw [this]; exact hl
  exact lv_iload_n C.1 C.2.1 hd rfl (mj_lk hl' hl0) (k p e R s m args below meth c H locs ls A C hin hN hK hP hD hS hA hl hR)
theorem k_iconst {n : Int} {v : Int32} (hd : decode y.2.1 pc = .ok (.iconst n, 1)) (hv : Int32.ofInt n = v) (k : Kj z y d (pc + 1) lv (.int v :: st) ws ce sl mc ms E Q) : Kj z y d pc lv st ws ce sl mc ms E Q := by
  intro p e R s m args below meth c H locs ls A C hin hN hK hP hD hS hA hl hR
  exact lv_iconst C.1 C.2.1 hd hv (k p e R s m args below meth c H locs ls A C hin hN hK hP hD hS hA hl hR)
theorem k_bipush {n : Int} {v : Int32} (hd : decode y.2.1 pc = .ok (.bipush n, 2)) (hv : (Int8.ofInt n).toInt32 = v) (k : Kj z y d (pc + 2) lv (.int v :: st) ws ce sl mc ms E Q) : Kj z y d pc lv st ws ce sl mc ms E Q := by
  intro p e R s m args below meth c H locs ls A C hin hN hK hP hD hS hA hl hR
  exact lv_bipush C.1 C.2.1 hd hv (k p e R s m args below meth c H locs ls A C hin hN hK hP hD hS hA hl hR)
theorem k_sipush {n : Int} {v : Int32} (hd : decode y.2.1 pc = .ok (.sipush n, 3)) (hv : (Int16.ofInt n).toInt32 = v) (k : Kj z y d (pc + 3) lv (.int v :: st) ws ce sl mc ms E Q) : Kj z y d pc lv st ws ce sl mc ms E Q := by
  intro p e R s m args below meth c H locs ls A C hin hN hK hP hD hS hA hl hR
  exact lv_sipush C.1 C.2.1 hd hv (k p e R s m args below meth c H locs ls A C hin hN hK hP hD hS hA hl hR)
theorem k_dup {a : Value} (hd : decode y.2.1 pc = .ok (.dup, 1)) (hc : a.category = 1) (k : Kj z y d (pc + 1) lv (a :: a :: st) ws ce sl mc ms E Q) : Kj z y d pc lv (a :: st) ws ce sl mc ms E Q := by
  intro p e R s m args below meth c H locs ls A C hin hN hK hP hD hS hA hl hR
  exact lv_dup C.1 C.2.1 hd hc (k p e R s m args below meth c H locs ls A C hin hN hK hP hD hS hA hl hR)
theorem k_istore_n {i : Fin 4} {x : Int32} {lv' : List (Nat × Value)} (hd : decode y.2.1 pc = .ok (.istore_n i, 1)) (hn : i.val < y.2.2.1) (hl0 : (i.val, Value.int x) :: lv.filter (fun q => !(q.1 == i.val) && !(q.1 + 1 == i.val && q.2.category == 2)) = lv') (k : Kj z y d (pc + 1) lv' st ws ce sl mc ms E Q) : Kj z y d pc lv (.int x :: st) ws ce sl mc ms E Q := by
  intro p e R s m args below meth c H locs ls A C hin hN hK hP hD hS hA hl hR
  exact lv_istore_n C.1 C.2.1 hd rfl hl hn hl0 (fun ls hl => k p e R s m args below meth c H locs ls A C hin hN hK hP hD hS hA hl hR)
theorem k_iinc {i : Nat} {n : Int} {x v : Int32} {j : Nat} {lv' : List (Nat × Value)} (hd : decode y.2.1 pc = .ok (.iinc i n, 3)) (hj : lv[j]? = some (i, .int x)) (hv : x + Int32.ofInt n = v) (hn : i < y.2.2.1) (hl0 : (i, Value.int v) :: lv.filter (fun q => !(q.1 == i) && !(q.1 + 1 == i && q.2.category == 2)) = lv') (k : Kj z y d (pc + 3) lv' st ws ce sl mc ms E Q) : Kj z y d pc lv st ws ce sl mc ms E Q := by
  intro p e R s m args below meth c H locs ls A C hin hN hK hP hD hS hA hl hR
  exact lv_iinc C.1 C.2.1 hd hl hj hv hn hl0 (fun ls hl => k p e R s m args below meth c H locs ls A C hin hN hK hP hD hS hA hl hR)
theorem k_ge {a b : Int32} {off : Int} {tgt : Nat} (hd : decode y.2.1 pc = .ok (.if_icmp .ge off, 3)) (ht : (pc : Int) + off = (tgt : Int)) (kt : b ≤ a → Kj z y d tgt lv st ws ce sl mc ms E Q) (kf : ¬ b ≤ a → Kj z y d (pc + 3) lv st ws ce sl mc ms E Q) : Kj z y d pc lv (.int b :: .int a :: st) ws ce sl mc ms E Q := by
  intro p e R s m args below meth c H locs ls A C hin hN hK hP hD hS hA hl hR
  exact lv_icmp_ge C.1 C.2.1 hd ht (fun h => kt h p e R s m args below meth c H locs ls A C hin hN hK hP hD hS hA hl hR) (fun h => kf h p e R s m args below meth c H locs ls A C hin hN hK hP hD hS hA hl hR)
theorem k_goto {off : Int} {tgt : Nat} (hd : decode y.2.1 pc = .ok (.goto off, 3)) (ht : (pc : Int) + off = (tgt : Int)) (k : Kj z y d tgt lv st ws ce sl mc ms E Q) : Kj z y d pc lv st ws ce sl mc ms E Q := by
  intro p e R s m args below meth c H locs ls A C hin hN hK hP hD hS hA hl hR
  exact lv_goto C.1 C.2.1 hd ht (k p e R s m args below meth c H locs ls A C hin hN hK hP hD hS hA hl hR)
theorem k_obj {idx a : Nat} (hd : decode y.2.1 pc = .ok (.invokespecial idx, 3)) (h1 : Cond.methodLink y.1.cls idx objectInit ∈ mj_TB) (h2 : Cond.instanceMethod objectInit ∈ mj_TB) (h3 : Cond.code objectInit ⟨#[0xb1]⟩ 1 none ∈ mj_TB) (hd1 : 1 ≤ d) (hr : (st.map fun v => v.category).sum ≤ 8) (k : Kj z y d (pc + 3) lv st ws ce sl mc ms E Q) : Kj z y d pc lv (.ref a :: st) ws ce sl mc ms E Q := by
  intro p e R s m args below meth c H locs ls A C hin hN hK hP hD hS hA hl hR
  refine W.objInit C.1 C.2.1 C.2.2.2.2.1 (C.2.2.2.2.2.1 _ (List.mem_cons_of_mem _ h1)) (C.2.2.2.2.2.1 _ (List.mem_cons_of_mem _ h2)) (C.2.2.2.2.2.1 _ (List.mem_cons_of_mem _ h3)) rfl (by rw [C.2.2.2.1]; exact hl.1) rfl hd (by omega) (by show 2 * 0 + _ + 12 ≤ _; omega) ?_
  exact k p e R s m args below meth c H locs ls A C hin hN hK hP hD hS hA hl hR
theorem k_newI {n : Int32} {N' : Nat} (hd : decode y.2.1 pc = .ok (.newarray .int, 2)) (hw : Cond.arrayClass .int ∈ mj_TB) (hn : ¬ n < 0) (hN : n.toNatClampNeg = N') (hb : N' * 4 ≤ 536870912) (hc : ce + 1 ≤ mc) (hs : sl + N' ≤ ms) (k : ∀ q, Kj z y d (pc + 2) lv (.ref q :: st) (ws ++ [(q, .inl (mj_dA (gC z) 0, N', .inl (fun _ => 0)))]) (ce + 1) (sl + N') mc ms E Q) : Kj z y d pc lv (.int n :: st) ws ce sl mc ms E Q := by
  intro p e R s m args below meth c H locs ls A C hin hNW hK hP hD hS hA hl hR
  refine va_newa (atype := .int) (a0 := (N', .inl (fun _ => 0))) C.1 C.2.1 (C.2.2.2.2.2.1 _ (List.mem_cons_of_mem _ hw)) rfl hK hP hD hS hA (fun cA => rfl) hn hN hb (by omega) (by omega) hd (fun q cA H1 hK1 hP1 hD1 hS1 => ?_)
  have e1 : s.vm.findClass "[I" = some cA := va_nm_int (hK1.2 3 (cA, .int) rfl).2
  have e0 : s.vm.findClass "[I" = some (mj_dA (gC z) 0) := va_nm_int (hK.2 0 _ rfl).2
  have ec : cA = mj_dA (gC z) 0 := Option.some.inj (e1.symm.trans e0)
  subst ec
  exact k q p e R s m args below meth c H1 locs ls A C hin hNW hK hP1 hD1 hS1 hA hl hR
theorem k_newC {n : Int32} {N' : Nat} (hd : decode y.2.1 pc = .ok (.newarray .char, 2)) (hw : Cond.arrayClass .char ∈ mj_TB) (hn : ¬ n < 0) (hN : n.toNatClampNeg = N') (hb : N' * 2 ≤ 536870912) (hc : ce + 1 ≤ mc) (hs : sl + N' ≤ ms) (k : ∀ q, Kj z y d (pc + 2) lv (.ref q :: st) (ws ++ [(q, .inl (mj_dA (gC z) 1, N', .inl (fun _ => 0)))]) (ce + 1) (sl + N') mc ms E Q) : Kj z y d pc lv (.int n :: st) ws ce sl mc ms E Q := by
  intro p e R s m args below meth c H locs ls A C hin hNW hK hP hD hS hA hl hR
  refine va_newa (atype := .char) (a0 := (N', .inl (fun _ => 0))) C.1 C.2.1 (C.2.2.2.2.2.1 _ (List.mem_cons_of_mem _ hw)) rfl hK hP hD hS hA (fun cA => rfl) hn hN hb (by omega) (by omega) hd (fun q cA H1 hK1 hP1 hD1 hS1 => ?_)
  have e1 : s.vm.findClass "[C" = some cA := va_nm_char (hK1.2 3 (cA, .char) rfl).2
  have e0 : s.vm.findClass "[C" = some (mj_dA (gC z) 1) := va_nm_char (hK.2 1 _ rfl).2
  have ec : cA = mj_dA (gC z) 1 := Option.some.inj (e1.symm.trans e0)
  subst ec
  exact k q p e R s m args below meth c H1 locs ls A C hin hNW hK hP1 hD1 hS1 hA hl hR
theorem k_newq {n : Int32} {N' idx : Nat} (hd : decode y.2.1 pc = .ok (.anewarray idx, 3)) (hw : Cond.classLink y.1.cls idx RX0 ∈ mj_TB) (hE : ∀ A s, E A s → va_AO RX0 s) (hn : ¬ n < 0) (hN : n.toNatClampNeg = N') (hb : N' * 4 ≤ 536870912) (hc : ce + 1 ≤ mc) (hs : sl + N' ≤ ms) (k : ∀ q, Kj z y d (pc + 3) lv (.ref q :: st) (ws ++ [(q, .inl (mj_dA (gC z) 2, N', .inr (.inr (.inr (.inr (fun _ => none))))))]) (ce + 1) (sl + N') mc ms E Q) : Kj z y d pc lv (.int n :: st) ws ce sl mc ms E Q := by
  intro p e R s m args below meth c H locs ls A C hin hNW hK hP hD hS hA hl hR
  refine va_newq C.1 C.2.1 C.2.2.2.2.1 (C.2.2.2.2.2.1 _ (List.mem_cons_of_mem _ hw)) (hE A s hNW.2) hK hP hD hS hA hn hN hb (by omega) (by omega) hd (fun q cA H1 hK1 hP1 hD1 hS1 => ?_)
  obtain ⟨_, _, _, _, _, e1⟩ := (hK1.2 3 (cA, .object RX0) rfl).2
  obtain ⟨_, _, _, _, _, e0⟩ := (hK.2 2 (mj_dA (gC z) 2, .object RX0) rfl).2
  have ec : cA = mj_dA (gC z) 2 := Option.some.inj (e1.symm.trans e0)
  subst ec
  exact k q p e R s m args below meth c H1 locs ls A C hin hNW hK hP1 hD1 hS1 hA hl hR
theorem k_new {idx ci : Nat} {q : vw_C} {fs : List Value} (hd : decode y.2.1 pc = .ok (.new idx, 3)) (hq : vwCl[ci]? = some q) (hw : Cond.classLink y.1.cls idx q.1 ∈ mj_TB) (hi : Cond.instantiable q.1 q.2.2 ∈ mj_TB) (hini : Cond.initialized q.1 ∈ mj_TB) (ty0 : Nat → FieldType) (hty : ∀ k, k < q.2.2 → parseFieldDescriptor (q.2.1 k).2.2.1 = some (ty0 k)) (hfs : ∀ j, j < q.2.2 → defaultValue (ty0 j) = vp_V fs j) (hc : ce + 1 ≤ mc) (hs : sl + q.2.2 ≤ ms) (k : ∀ a, Kj z y d (pc + 3) lv (.ref a :: st) (ws ++ [(a, .inr (ci, fs))]) (ce + 1) (sl + q.2.2) mc ms E Q) : Kj z y d pc lv st ws ce sl mc ms E Q := by
  intro p e R s m args below meth c H locs ls A C hin hNW hK hP hD hS hA hl hR
  exact va_new (C := q.1) (T := q.2.1) (N := q.2.2) (Ts := mj_ws y) C.1 C.2.1 C.2.2.2.2.2.1 (fun w hw => List.mem_cons_of_mem _ ((mj_cls ci q hq).1 w hw)) ty0 hty C.2.2.2.2.1 (C.2.2.2.2.2.1 _ (List.mem_cons_of_mem _ hw)) (C.2.2.2.2.2.1 _ (List.mem_cons_of_mem _ hi)) (C.2.2.2.2.2.1 _ (List.mem_cons_of_mem _ hini)) hK hP hD hS hA hq hfs (by omega) (by omega) hd (fun a H1 hP1 hD1 hS1 => k a p e R s m args below meth c H1 locs ls A C hin hNW hK hP1 hD1 hS1 hA hl hR)
def kj_FP (own : String) (idx ci s : Nat) (ty : FieldType) : Prop := ∃ q : vw_C, vwCl[ci]? = some q ∧ s < q.2.2 ∧ Cond.fieldLink own idx (q.2.1 s).1 (q.2.1 s).2.1 (q.2.1 s).2.2.1 ∈ mj_TB ∧ (q.2.1 s).2.2.2 = true ∧ (q.2.1 s).1 = own ∧ parseFieldDescriptor (q.2.1 s).2.2.1 = some ty
theorem k_put {idx ci i h0 : Nat} {fs : List Value} {rest : va_W} {v : Value} {ty : FieldType} (hd : decode y.2.1 pc = .ok (.putfield idx, 3)) (fp : kj_FP y.1.cls idx ci i ty) (hn : narrow ty v = v) (hfit : fits ty v = true) (hl0 : i < fs.length) (k : Kj z y d (pc + 3) lv st ((h0, .inr (ci, fs.set i v)) :: rest) ce sl mc ms E Q) : Kj z y d pc lv (v :: .ref h0 :: st) ((h0, .inr (ci, fs)) :: rest) ce sl mc ms E Q := by
  intro p e R s m args below meth c H locs ls A C hin hNW hK hP hD hS hA hl hR
  obtain ⟨q, h1, h2, h3, h4, h5, h6⟩ := fp
  obtain ⟨c1, ⟨ty0, c2⟩, c3⟩ := mj_cls ci q h1
  exact va_putF (D := kD z) (ci := ci) (C := q.1) (T := q.2.1) (N := q.2.2) (Ts := mj_ws y) C.1 C.2.1 C.2.2.2.2.2.1 (fun w hw => List.mem_cons_of_mem _ (c1 w hw)) ty0 c2 c3 C.2.2.2.2.1 hK hP hD hS 0 rfl h1 i h2 (C.2.2.2.2.2.1 _ (List.mem_cons_of_mem _ h3)) (fun _ h9 => h9) h4 hin h5 h6 hn hfit hl0 hd (fun H1 locs1 hP1 hD1 hS1 => k p e R s m args below meth c H1 locs1 ls A C hin hNW hK hP1 hD1 hS1 hA hl hR)
theorem k_get {idx ci i h0 : Nat} {fs : List Value} {rest : va_W} {v : Value} (hd : decode y.2.1 pc = .ok (.getfield idx, 3)) (fl : mj_FL y.1.cls idx ci i) (hv : fs[i]? = some v) (k : Kj z y d (pc + 3) lv (v :: st) ((h0, .inr (ci, fs)) :: rest) ce sl mc ms E Q) : Kj z y d pc lv (.ref h0 :: st) ((h0, .inr (ci, fs)) :: rest) ce sl mc ms E Q := by
  intro p e R s m args below meth c H locs ls A C hin hNW hK hP hD hS hA hl hR
  obtain ⟨q, h1, h2, h3⟩ := fl
  exact va_get (D := kD z) (ci := ci) (C := q.1) (T := q.2.1) (N := q.2.2) (Ts := mj_ws y) C.1 C.2.1 C.2.2.2.2.2.1 (fun w hw => List.mem_cons_of_mem _ ((mj_cls ci q h1).1 w hw)) C.2.2.2.2.1 hK hP 0 rfl h1 i h2 (C.2.2.2.2.2.1 _ (List.mem_cons_of_mem _ h3)) (fun _ h9 => h9) hv hd (k p e R s m args below meth c H locs ls A C hin hNW hK hP hD hS hA hl hR)
theorem k_aast {q0 qk a v n : Nat} {f : Nat → Option Nat} {vs : List Value} {i : Int32} (hd : decode y.2.1 pc = .ok (.aastore, 1)) (ha : ws[q0]? = some (a, .inl (mj_dA (gC z) 2, n, .inr (.inr (.inr (.inr f)))))) (hv : ws[qk]? = some (v, .inr (0, vs))) (hi : vp_in i n) (k : Kj z y d (pc + 1) lv st (ws.set q0 (a, .inl (mj_dA (gC z) 2, n, .inr (.inr (.inr (.inr (va_up f i.toNatClampNeg (some v)))))))) ce sl mc ms E Q) : Kj z y d pc lv (.ref v :: .int i :: .ref a :: st) ws ce sl mc ms E Q := by
  intro p e R s m args below meth c H locs ls A C hin hNW hK hP hD hS hA hl hR
  exact va_astq C.1 C.2.1 hK hP hD hS q0 2 qk 0 (r := (RX0, TX0, 7)) ha rfl hv rfl hi hd (fun H1 locs1 hP1 hD1 hS1 => k p e R s m args below meth c H1 locs1 ls A C hin hNW hK hP1 hD1 hS1 hA hl hR)
theorem k_ret (hd : decode y.2.1 pc = .ok (.return_, 1)) (hr : y.2.2.2 = none) (hc : ce ≤ mc) (hs : sl ≤ ms) (q : Q ws) : Kj z y d pc lv [] ws ce sl mc ms E Q := by
  intro p e R s m args below meth c H locs ls A C hin hNW hK hP hD hS hA hl hR
  refine W.widen hc hs ?_
  exact W.vret C.1 C.2.1 (C.2.2.1.trans hr) (fun t ht hW => ⟨⟨ws, rfl, q, by rw [ht]; exact hP, hD⟩, hS.F ht⟩) hS.2.2 hd C.2.2.2.2.2.2
def kj_rm (d mc ms : Nat) : Room := { frames := d, cells := mc, slots := ms, locals := 64 * d }
def kj_P (z : mj_B) (av : List Value) (ws : va_W) (sz : Nat) : Array Value → State → Prop := va_Pc av (fun U => U.heap.size = sz ∧ va_P (kD z) vwCl ws U.heap ∧ va_K (kD z) vwCl (kK z) U ∧ mj_NW U ∧ va_D (fun _ => True) ws)
theorem kj_met {av : List Value} {mc ms : Nat} (sz : Nat) (hpl : plainName y.1.cls = true) (hnm : y.1.name = "<init>") (hlen : (lg_sl av).length ≤ y.2.2.1) (hJ : Kj z y d 0 (lv_args 0 av) [] ws 0 0 mc ms (fun _ _ => True) Q) : Met z.1 y.1 (mj_ws y) (kj_rm d mc ms) (kj_P z av ws sz) (kj_Q z (va_A ws sz) Q) mc ms (va_A ws sz) := by
  refine Met.ofW (cc := y.2.1) (maxL := y.2.2.1) (ret := y.2.2.2) hpl rfl ?_
  intro p e s m args below meth c s₁ B hml hv
  obtain ⟨rfl, hsz, hP, hK, hN, hD⟩ := hv
  subst hsz
  have C : mj_Cx y p s m _ meth c := ⟨B.exec, B.bytes, B.returns, hml, findClass_of_methodNamed B.named, atoms_spec (ws := mj_ws y) B.pre, B.notSynchronized⟩
  rw [lg_entry_eq]
  have hl := lv_entry av (n := y.2.2.1) hlen
  exact hJ p e _ s m _ below meth c s.heap [] _ (va_A ws s.heap.size) C ((name_of_methodNamed B.named B.method).1.trans hnm) ⟨hN, trivial⟩ hK hP hD.self va_S.rf (fun q h => Or.inr h) hl ⟨Nat.le_refl _, Nat.le_refl _, Nat.le_refl _, Nat.le_refl _⟩
theorem kj_blind (z : mj_B) (av : List Value) (ws : va_W) (sz : Nat) : FrameBlind (kj_P z av ws sz) := by
  intro a U gg mk q
  obtain ⟨q0, q1, qP, qK, qN, qD⟩ := q
  exact ⟨q0, q1, qP, va_K.moved (u := U) (U := U.calling gg mk a) (Vm.Alike.refl U.vm) qK, mj_NW.same (s := U) (U := U.calling gg mk a) rfl qN, qD⟩
theorem kj_call {p : Program} {e : Env} {R : Room} {s : State} {m : MethodId} {args : Array Value} {below : List Frame} {meth : Method} {c : Code} {H : Heap} {locs : List Loc} {cells slots mc' ms' : Nat} {Qw : State → Prop} {pc : Nat} {ls : Array Slot} {rest st0 : List Value} {a : Array Value} {H0 : Heap} {A A1 : Nat → Prop} {Q' : va_W → Prop}
    (hr : va_Run p z.1 e R s m args below meth c H locs cells slots mc' ms' (F0 m pc ls st0) rest (kj_Q z A1 Q' a) A1) (hS : va_S A H0 H locs) (hf : ∀ q, A1 q → A q)
    (kk : ∀ (ws : va_W) (H1 : Heap) (locs1 : List Loc), Q' ws → va_P (kD z) vwCl ws H1 → va_D A ws → va_S A H0 H1 locs1 → W p z.1 e R s m args below meth c H1 locs1 (cells + mc') (slots + ms') Qw (F0 m (pc + 3) ls rest)) : W p z.1 e R s m args below meth c H locs cells slots Qw (F0 m pc ls st0) := by
  intro T hT X
  obtain ⟨v, st₀, t, T', L, h0, X', hL, e1, e2, ⟨⟨ws, hv, hq, hP, hD⟩, hz, hk⟩, st⟩ := hr T hT X
  cases hv
  rw [h0] at hz hk
  obtain ⟨t2, a1, b1⟩ := kk ws T'.heap (locs ++ L) hq (by rw [e1]; exact hP) (hD.weaken (fun k q _ h => hf q.1 h))
    ⟨Nat.le_trans hS.1 (by rw [e1]; exact hz), fun q h1 h2 => by rw [e1, hk q (Nat.lt_of_lt_of_le h1 hS.1) (fun h => h2 (hf q h))]; exact hS.2.1 q h1 h2, fun q hq => by
      rcases List.mem_append.mp hq with h | h
      · exact hS.2.2 q h
      · exact hf _ (hL q h)⟩ T' rfl X'
  exact ⟨t2, st t2 a1, b1⟩
theorem kj_free {A : Nat → Prop} {H0 H : Heap} {locs : List Loc} {w : va_W} (hD : va_D A w) (hS : va_S A H0 H locs) (hA : ∀ q, H0.size ≤ q → A q) : ∀ q, va_A w H.size q → A q := by
  rintro q (⟨k, e, h⟩ | h)
  · exact hD.2 k _ h
  · exact hA q (Nat.le_trans hS.1 h)
/-- a call of a constructor: the new object's cell (the last) goes first, and comes back behind the others -/
theorem k_callI {y' : mj_Y} {idx n b mc' ms' : Nat} {As : List Value} {c0 : va_E} {Q' : va_W → Prop} (hd : decode y.2.1 pc = .ok (.invokespecial idx, 3)) (hl0 : Cond.methodLink y.1.cls idx y'.1 ∈ mj_TB) (ok : mj_OK y' n) (hi : Cond.instanceMethod y'.1 ∈ mj_TB) (hnm : y'.1.name = "<init>") (hret : y'.2.2.2 = none) (hn : As.length = n) (hlen : (lg_sl (.ref b :: As)).length ≤ y'.2.2.1) (hr : (st.map fun v => v.category).sum ≤ 8) (hc : ce + mc' ≤ mc) (hs : sl + ms' ≤ ms)
    (hM : Kj z y' d 0 (lv_args 0 (.ref b :: As)) [] ((b, c0) :: ws) 0 0 mc' ms' (fun _ _ => True) Q') (k : ∀ w, Q' w → Kj z y (d + 1) (pc + 3) lv st w (ce + mc') (sl + ms') mc ms E Q) : Kj z y (d + 1) pc lv (As.reverse ++ .ref b :: st) (ws ++ [(b, c0)]) ce sl mc ms E Q := by
  intro p e R s m args below meth c H locs ls A C hin hNW hK hP hD hS hA hl hR
  have pm : (ws ++ [(b, c0)]).Perm ((b, c0) :: ws) := List.perm_append_singleton _ _
  have hP' := hP.perm pm
  have hD' := hD.perm pm
  have cb : CallB R s args y.1.cls idx y'.1 y'.2.1 y'.2.2.1 none (mj_ws y') (kj_rm d mc' ms') mc' ms' n := by
    have h := callB_of (R := R) (rm := kj_rm d mc' ms') (mc := mc') (ms := ms') (own := y.1.cls) (index := idx) (y := y'.1) (bytes := y'.2.1) (maxL := y'.2.2.1) (ret := y'.2.2.2) n C.2.2.2.2.2.1 (mj_good2 y y' ok.1) rfl rfl rfl (C.2.2.2.2.2.1 _ (List.mem_cons_of_mem _ ok.2.1)) (C.2.2.2.2.2.1 _ (List.mem_cons_of_mem _ hl0)) ok.2.2.1 ⟨hR.1, by have h := ok.2.2.2.2; show 8 + (y'.2.2.1 + 11) + 64 * d ≤ R.locals; omega⟩
    rw [hret] at h; exact h
  refine kj_call (va_runI (As := As) (rest := st) (b := b) ⟨C.1, C.2.1, C.2.2.2.1, C.2.2.2.2.1, C.2.2.2.2.2.1⟩ (kj_met (mc := mc') (ms := ms') H.size ok.2.2.2.1 hnm hlen hM) ⟨cb, hnm, C.2.2.2.2.2.1 _ (List.mem_cons_of_mem _ hi)⟩ ⟨kj_blind z _ _ _, fun U hU hW => ⟨rfl, by rw [hU], by rw [hU]; exact hP', va_K.moved hW.alike hK, mj_NW.warm hW hNW.1, hD'.weaken (fun _ _ _ _ => trivial)⟩⟩ rfl hn hl.1 rfl (lv_room hr) hd ⟨by omega, by omega⟩) hS (kj_free hD' hS hA) (fun w H1 locs1 hq1 hP1 hD1 hS1 => ?_)
  exact k w hq1 p e R s m args below meth c H1 locs1 ls A C hin hNW hK hP1 hD1 hS1 hA hl hR
theorem k_callN {y' : mj_Y} {idx n b mc' ms' : Nat} {host : String} {As : List Value} {c0 : va_E} {Q' : va_W → Prop} (hd : decode y.2.1 pc = .ok (.invokespecial idx, 3)) (hl0 : (y.1.cls, idx, y'.1, host) ∈ mj_nests) (ok : mj_OK y' n) (hi : Cond.instanceMethod y'.1 ∈ mj_TB) (hnm : y'.1.name = "<init>") (hret : y'.2.2.2 = none) (hn : As.length = n) (hlen : (lg_sl (.ref b :: As)).length ≤ y'.2.2.1) (hr : (st.map fun v => v.category).sum ≤ 8) (hc : ce + mc' ≤ mc) (hs : sl + ms' ≤ ms)
    (hM : Kj z y' d 0 (lv_args 0 (.ref b :: As)) [] ((b, c0) :: ws) 0 0 mc' ms' (fun _ _ => True) Q') (k : ∀ w, Q' w → Kj z y (d + 1) (pc + 3) lv st w (ce + mc') (sl + ms') mc ms E Q) : Kj z y (d + 1) pc lv (As.reverse ++ .ref b :: st) (ws ++ [(b, c0)]) ce sl mc ms E Q := by
  intro p e R s m args below meth c H locs ls A C hin hNW hK hP hD hS hA hl hR
  have pm : (ws ++ [(b, c0)]).Perm ((b, c0) :: ws) := List.perm_append_singleton _ _
  have hP' := hP.perm pm
  have hD' := hD.perm pm
  have cn : va_CN R s args y.1.cls idx y'.1 host y'.2.1 y'.2.2.1 none (mj_ws y') (kj_rm d mc' ms') mc' ms' n := by
    have h := va_cnB (R := R) (rm := kj_rm d mc' ms') (mc := mc') (ms := ms') (bytes := y'.2.1) (maxL := y'.2.2.1) (ret := y'.2.2.2) n C.2.2.2.2.2.1 (mj_good2 y y' ok.1) rfl rfl rfl (hNW.1 _ hl0) (C.2.2.2.2.2.1 _ (List.mem_cons_of_mem _ ok.2.1)) ok.2.2.1 ⟨hR.1, by have h := ok.2.2.2.2; show 8 + (y'.2.2.1 + 11) + 64 * d ≤ R.locals; omega⟩
    rw [hret] at h; exact h
  refine kj_call (va_runIN (As := As) (rest := st) (b := b) ⟨C.1, C.2.1, C.2.2.2.1, C.2.2.2.2.1, C.2.2.2.2.2.1⟩ (kj_met (mc := mc') (ms := ms') H.size ok.2.2.2.1 hnm hlen hM) ⟨cn, hnm, C.2.2.2.2.2.1 _ (List.mem_cons_of_mem _ hi)⟩ ⟨kj_blind z _ _ _, fun U hU hW => ⟨rfl, by rw [hU], by rw [hU]; exact hP', va_K.moved hW.alike hK, mj_NW.warm hW hNW.1, hD'.weaken (fun _ _ _ _ => trivial)⟩⟩ rfl hn hl.1 rfl (lv_room hr) hd ⟨by omega, by omega⟩) hS (kj_free hD' hS hA) (fun w H1 locs1 hq1 hP1 hD1 hS1 => ?_)
  exact k w hq1 p e R s m args below meth c H1 locs1 ls A C hin hNW hK hP1 hD1 hS1 hA hl hR
theorem k_perm {ws' : va_W} (h : ws.Perm ws') (k : Kj z y d pc lv st ws' ce sl mc ms E Q) : Kj z y d pc lv st ws ce sl mc ms E Q := by
  intro p e R s m args below meth c H locs ls A C hin hNW hK hP hD hS hA hl hR
  exact k p e R s m args below meth c H locs ls A C hin hNW hK (hP.perm h) (hD.perm h) hS hA hl hR
end KJ
