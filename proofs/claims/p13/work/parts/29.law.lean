/-! THE CLAIM OUT OF ONE WALK OF THE LAW'S BODY. Your part is whole_start (and what it stands on); all else here is the same for every law, but numbers. -/
def R_law : String := "CostChoicesLaw"
def lw_P (b : Addr) (xs : List Int32) (args : Array Value) (s : State) : Prop := args = #[.ref b] ∧ s.IntsAt b xs ∧ xs.length ≤ 3072 ∧ (Jvm.Cond.and given_1 narrow_1).before args s = true
def lw_Q (_ : Array Value) (s : State) (o : Outcome) (t : State) : Prop := o = .returned (some (.int 1)) ∧ Framed s o t [] 600000 7302250
def lw_Z (below : List Frame) (a : Array Value) (s : State) : State → Prop := fun t => ∃ o, t.status = .running ∧ Ended t below o ∧ lw_Q a s o t
/-- the law's own end, with 1 on the stack, nothing written that was there before, its room as the claim has it -/
theorem lw_ret {p : Program} {l : Launch} {e : Env} {s : State} {m : MethodId} {below : List Frame} {meth : Method} {c : Code} {b : Nat} (hx : p.tables.exec = Jvm.exec) (hb : c.code = code) (hr : meth.sig.returnType = ret) (hlocks : meth.locks = false) {pc : Nat} {H : Heap} {ls : Array Slot} (hdg : decode code pc = .ok (.ireturn, 1)) : W p l e room_1 s m #[Value.ref b] below meth c H [] 600000 7302250 (lw_Z below #[Value.ref b] s) (F0 m pc ls [.int 1]) := by
  intro T hT X
  obtain ⟨fs, hret, hrun, hended, hW, hframe⟩ := X.leave (v := some (.int 1)) (hlocks := hlocks) (fun h => by rw [hr] at h; cases h)
  have hmeth' : T.vm.method? m = some meth := X.method'
  refine ⟨T.setFrames fs, ?_, .returned (some (.int 1)), hrun, hended, rfl, ⟨_, rfl⟩, hW, hframe⟩
  jvm_step X.here [X.here.top, hx, hb, hdg, hmeth', hr, ret, narrow_b1]
  (try refine ⟨rfl, ?_⟩); (try refine ⟨rfl, ?_⟩)
  first | (intro acts; rw [hret _ acts rfl rfl rfl]) | rw [hret _ _ rfl rfl rfl]
  exact Steps.refl _
/-- what holds at the law's entry: the machine, the code, the tables' words (any of lw_tbl by 'hts w (by decide +kernel)'), the script of L ints xs at the cell b, what the Statement gives of the start (any of its parts by flat_of_before) -/
def lw_At (p : Program) (s : State) (m : MethodId) (meth : Method) (c : Code) (b L : Nat) (xs : Nat → Int32) : Prop :=
  p.tables.exec = Jvm.exec ∧ c.code = code ∧ meth.sig.returnType = ret ∧ c.maxLocals = 4 ∧ s.vm.findClass R_law = some m.cls ∧ (∀ w ∈ lw_tbl, w.before #[Value.ref b] s = true) ∧ va_X b L xs s s.heap ∧ b < s.heap.size ∧ meth.locks = false ∧ (Jvm.Cond.and given_1 narrow_1).before #[Value.ref b] s = true
/-! the law: L, the law's method from pc on, with both objects standing -/
/-- what the two states have in common: text, graph, past and kept -/
def LR (F1 A1 F2 A2 : mj_S) : Prop := ∃ (t n : Nat) (mm : Nat → Nat) (rn : Nat) (rm : Nat → Nat) (un kn : Nat), CB t F1 A1 ∧ MI (t, A2) n mm rn rm un kn F2 A2 ∧ CS F1 A1 n mm (A2 5) un (rwK (A2 6)) kn (rwK (A2 7)) ∧ (wr n mm (A2 5) ∧ (∀ k, k < un → wr n mm (rwK (A2 6) k)) ∧ ∀ k, k < kn → wr n mm (rwK (A2 7) k)) ∧ ∀ j, j < t → A1 1 j = A2 1 j
section LRS
variable {t n : Nat} {mm : Nat → Nat} {rn : Nat} {rm : Nat → Nat} {un kn : Nat} {F1 A1 A2 F' A' F'' A'' : mj_S}
theorem LR.ro {rn' : Nat} {rm' : Nat → Nat} (hS : CS F1 A1 n mm (A2 5) un (rwK (A2 6)) kn (rwK (A2 7))) (hw : wr n mm (A2 5) ∧ (∀ k, k < un → wr n mm (rwK (A2 6) k)) ∧ ∀ k, k < kn → wr n mm (rwK (A2 7) k)) (hx : ∀ j, j < t → A1 1 j = A2 1 j) (hC : CI (t, F1, A1) F' A') (hM : MI (t, A'') n mm rn' rm' un kn F'' A'') (g1 : A'' 1 = A2 1) (g5 : A'' 5 = A2 5) (g6 : A'' 6 = A2 6) (g7 : A'' 7 = A2 7) : LR F' A' F'' A'' :=
  ⟨t, n, mm, rn', rm', un, kn, hC.b, hM, by rw [g5, g6, g7]; exact hS.pg hC.p, by rw [g5, g6, g7]; exact hw, fun j hj => by rw [hC.tx, g1]; exact hx j hj⟩
theorem LR.ro' {rn' : Nat} {rm' : Nat → Nat} (hS : CS F1 A1 n mm (A2 5) un (rwK (A2 6)) kn (rwK (A2 7))) (hw : wr n mm (A2 5) ∧ (∀ k, k < un → wr n mm (rwK (A2 6) k)) ∧ ∀ k, k < kn → wr n mm (rwK (A2 7) k)) (hx : ∀ j, j < t → A1 1 j = A2 1 j) (hC : CI (t, F1, A1) F' A') (hM : MI (t, A2) n mm rn' rm' un kn F'' A'') : LR F' A' F'' A'' := LR.ro hS hw hx hC hM.k.i hM.1.2.2.1 hM.1.2.2.2.1 hM.1.2.2.2.2.1 hM.1.2.2.2.2.2.1
theorem LR.act {o : Option (Nat → Int32)} (hw : wr n mm (A2 5) ∧ (∀ k, k < un → wr n mm (rwK (A2 6) k)) ∧ ∀ k, k < kn → wr n mm (rwK (A2 7) k)) (hun : un ≤ 8) (hx : ∀ j, j < t → A1 1 j = A2 1 j) (hB : CB t F' A') (h1 : A' 1 = A1 1) (hS : CSo F' A' n mm (A2 5) un (rwK (A2 6)) kn (rwK (A2 7)) o) (g1 : A'' 1 = A2 1) (g7 : A'' 7 = A2 7) (hM : MSo t n mm rn rm un kn A2 F'' A'' o) (hwr : ∀ row', o = some row' → wr n mm row') : LR F' A' F'' A'' := by
  have hx' : ∀ j, j < t → A' 1 j = A'' 1 j := fun j hj => by rw [h1, g1]; exact hx j hj
  cases o with
  | none =>
    obtain ⟨hM, g5, g6⟩ := hM
    exact ⟨t, n, mm, rn, rm, un, kn, hB, hM, by rw [g5, g6, g7]; exact hS, by rw [g5, g6, g7]; exact hw, hx'⟩
  | some row' =>
    obtain ⟨hM, g5, g6⟩ := hM
    have hS : CS F' A' n mm row' (pushN un) (pushP un (rwK (A2 6)) (A2 5)) kn (rwK (A2 7)) := hS
    refine ⟨t, n, mm, rn, rm, pushN un, kn, hB, hM, hS.rows (fun _ _ => rfl) g5 (fun k j hk hj => g6 k j hk hj) (fun k j _ _ => by rw [g7]), ⟨(hwr row' rfl).cg (fun _ _ => rfl) g5, fun k hk => ?_, fun k hk => by rw [g7]; exact hw.2.2 k hk⟩, hx'⟩
    have hp : wr n mm (pushP un (rwK (A2 6)) (A2 5) k) := by
      by_cases e : un = 8
      · subst e
        rw [pushP_8]
        rw [pushN_8] at hk
        by_cases e2 : k = 7
        · rw [if_pos e2]; exact hw.1
        · rw [if_neg e2]; exact hw.2.1 (k + 1) (by omega)
      · rw [pushP_s e]
        rw [pushN_s e] at hk
        by_cases e2 : k = un
        · rw [if_pos e2]; exact hw.1
        · rw [if_neg e2]; exact hw.2.1 k (by omega)
    exact hp.cg (fun _ _ => rfl) (fun j hj => g6 k j hk hj)
end LRS
theorem cTL {t : Nat} {F1 A1 A2 : mj_S} (hx : ∀ j, j < t → A1 1 j = A2 1 j) : cT (t, F1, A1) = cL (t, A2) := by
  funext k
  show rd_c (A1 1) t k = rd_c (A2 1) t k
  unfold rd_c
  by_cases h : k < t
  · rw [if_pos h, if_pos h]; exact hx k h
  · rw [if_neg h, if_neg h]
theorem cmp_fault {α : Type} {R : Nat ⊕ α} {x y : Int32} (h1 : (∃ b, R = .inl b ∧ x = nI b) ∨ (x = (-4) ∧ ∃ a, R = .inr a)) (h2 : (∃ b, R = .inl b ∧ y = nI b) ∨ (y = (-4) ∧ ∃ a, R = .inr a)) : y = x := by
  rcases h1 with ⟨b, e1, e2⟩ | ⟨e1, a, e2⟩ <;> rcases h2 with ⟨b', g1, g2⟩ | ⟨g1, a', g2⟩
  · rw [e1] at g1; rw [e2, g2, Sum.inl.inj g1]
  · rw [e1] at g2; cases g2
  · rw [e2] at g1; cases g1
  · rw [e1, g1]
def LD (z : mj_B) (adC adM : Nat → Nat) (B : Nat → Prop) : Prop := mj_DD (gK z adC SHC 117) ∧ mj_DD (gK z adM SHM 18) ∧ (∀ i j, i < 117 → j < 18 → adC i ≠ adM j) ∧ (∀ i, i < 117 → B (adC i)) ∧ ∀ j, j < 18 → B (adM j)
abbrev lB (s : State) : Nat → Prop := fun q => s.heap.size ≤ q
def Lj (z : mj_B) (adC adM : Nat → Nat) (b L : Nat) (xs : Nat → Int32) (pc : Nat) (lv : List (Nat × Value)) (st : List Value) (F1 A1 F2 A2 : mj_S) : Prop :=
  ∀ (p : Program) (e : Env) (s : State) (m : MethodId) (below : List Frame) (meth : Method) (c : Code) (H : Heap) (locs : List Loc) (ls : Array Slot),
    lw_At p s m meth c b L xs → mj_NW s → va_K (kD z) vwCl (kK z) s → LD z adC adM (lB s) → va_P (kD z) vwCl (mj_w (gK z adC SHC 117) F1 A1) H → va_P (kD z) vwCl (mj_w (gK z adM SHM 18) F2 A2) H → va_S (lB s) s.heap H locs → lv_has ls 4 lv →
    W p z.1 e room_1 s m #[Value.ref b] below meth c H locs 135 15440 (lw_Z below #[Value.ref b] s) (F0 m pc ls st)
theorem mj_good3 (y' : mj_Y) (hc : Cond.code y'.1 y'.2.1 y'.2.2.1 y'.2.2.2 ∈ mj_TB) : GoodIn mj_TB (mj_ws y') := by
  intro w hw
  have h : w ∈ mj_TB := by
    rcases List.mem_cons.mp hw with h | h
    · rw [h]; exact hc
    · exact h
  exact ⟨h, (mj_good w h).2⟩
theorem lw_TB {p : Program} {s : State} {m : MethodId} {meth : Method} {c : Code} {b L : Nat} {xs : Nat → Int32} (C : lw_At p s m meth c b L xs) : ∀ w ∈ mj_TB, w.before #[Value.ref b] s = true := fun w hw => C.2.2.2.2.2.1 w (List.mem_filter.mp hw).1
theorem l_cb {y' : mj_Y} {d n idx : Nat} {p : Program} {s : State} {m : MethodId} {meth : Method} {c : Code} {b L : Nat} {xs : Nat → Int32} (C : lw_At p s m meth c b L xs) (ok : mj_OK y' n) (hl : Cond.methodLink RL idx y'.1 ∈ mj_TB) (hd : d ≤ 1000) : CallB room_1 s #[Value.ref b] RL idx y'.1 y'.2.1 y'.2.2.1 y'.2.2.2 (mj_ws y') (mj_rm d) 0 0 n := callB_of (R := room_1) (rm := mj_rm d) n (lw_TB C) (mj_good3 y' ok.1) rfl rfl rfl (lw_TB C _ ok.2.1) (lw_TB C _ hl) ok.2.2.1 ⟨by show d + 1 ≤ 2048; omega, by have h := ok.2.2.2.2; show 8 + (y'.2.2.1 + 11) + 64 * d ≤ 84000; omega⟩
section LJ
variable {z : mj_B} {adC adM : Nat → Nat} {b L : Nat} {xs : Nat → Int32} {pc : Nat} {lv : List (Nat × Value)} {st : List Value} {F1 A1 F2 A2 : mj_S}
theorem l_aload_n {i : Fin 4} {x j : Nat} (hd : decode code pc = .ok (.aload_n i, 1)) (hj : lv[j]? = some (i.val, .ref x)) (k : Lj z adC adM b L xs (pc + 1) lv (.ref x :: st) F1 A1 F2 A2) : Lj z adC adM b L xs pc lv st F1 A1 F2 A2 := by
  intro p e s m below meth c H locs ls C hN hK hLD hP hQ hS hl
  exact lv_aload_n C.1 C.2.1 hd rfl (lv_at hl j hj) (k p e s m below meth c H locs ls C hN hK hLD hP hQ hS hl)
theorem l_iload_n {i : Fin 4} {x : Int32} {j : Nat} (hd : decode code pc = .ok (.iload_n i, 1)) (hj : lv[j]? = some (i.val, .int x)) (k : Lj z adC adM b L xs (pc + 1) lv (.int x :: st) F1 A1 F2 A2) : Lj z adC adM b L xs pc lv st F1 A1 F2 A2 := by
  intro p e s m below meth c H locs ls C hN hK hLD hP hQ hS hl
  exact lv_iload_n C.1 C.2.1 hd rfl (lv_at hl j hj) (k p e s m below meth c H locs ls C hN hK hLD hP hQ hS hl)
theorem l_iconst {n : Int} {v : Int32} (hd : decode code pc = .ok (.iconst n, 1)) (hv : Int32.ofInt n = v) (k : Lj z adC adM b L xs (pc + 1) lv (.int v :: st) F1 A1 F2 A2) : Lj z adC adM b L xs pc lv st F1 A1 F2 A2 := by
  intro p e s m below meth c H locs ls C hN hK hLD hP hQ hS hl
  exact lv_iconst C.1 C.2.1 hd hv (k p e s m below meth c H locs ls C hN hK hLD hP hQ hS hl)
theorem l_bipush {n : Int} {v : Int32} (hd : decode code pc = .ok (.bipush n, 2)) (hv : (Int8.ofInt n).toInt32 = v) (k : Lj z adC adM b L xs (pc + 2) lv (.int v :: st) F1 A1 F2 A2) : Lj z adC adM b L xs pc lv st F1 A1 F2 A2 := by
  intro p e s m below meth c H locs ls C hN hK hLD hP hQ hS hl
  exact lv_bipush C.1 C.2.1 hd hv (k p e s m below meth c H locs ls C hN hK hLD hP hQ hS hl)
theorem l_iadd {x y : Int32} (hd : decode code pc = .ok (.iadd, 1)) (k : Lj z adC adM b L xs (pc + 1) lv (.int (x + y) :: st) F1 A1 F2 A2) : Lj z adC adM b L xs pc lv (.int y :: .int x :: st) F1 A1 F2 A2 := by
  intro p e s m below meth c H locs ls C hN hK hLD hP hQ hS hl
  exact lv_iadd C.1 C.2.1 hd (k p e s m below meth c H locs ls C hN hK hLD hP hQ hS hl)
theorem l_isub {x y : Int32} (hd : decode code pc = .ok (.isub, 1)) (k : Lj z adC adM b L xs (pc + 1) lv (.int (x - y) :: st) F1 A1 F2 A2) : Lj z adC adM b L xs pc lv (.int y :: .int x :: st) F1 A1 F2 A2 := by
  intro p e s m below meth c H locs ls C hN hK hLD hP hQ hS hl
  exact lv_isub C.1 C.2.1 hd (k p e s m below meth c H locs ls C hN hK hLD hP hQ hS hl)
theorem l_iand {x y : Int32} (hd : decode code pc = .ok (.iand, 1)) (k : Lj z adC adM b L xs (pc + 1) lv (.int (x &&& y) :: st) F1 A1 F2 A2) : Lj z adC adM b L xs pc lv (.int y :: .int x :: st) F1 A1 F2 A2 := by
  intro p e s m below meth c H locs ls C hN hK hLD hP hQ hS hl
  exact lv_iand C.1 C.2.1 hd (k p e s m below meth c H locs ls C hN hK hLD hP hQ hS hl)
theorem l_pop {a : Value} (hd : decode code pc = .ok (.pop, 1)) (hc : a.category = 1) (k : Lj z adC adM b L xs (pc + 1) lv st F1 A1 F2 A2) : Lj z adC adM b L xs pc lv (a :: st) F1 A1 F2 A2 := by
  intro p e s m below meth c H locs ls C hN hK hLD hP hQ hS hl
  exact lv_pop C.1 C.2.1 hd hc (k p e s m below meth c H locs ls C hN hK hLD hP hQ hS hl)
theorem l_goto {off : Int} {tgt : Nat} (hd : decode code pc = .ok (.goto off, 3)) (ht : (pc : Int) + off = (tgt : Int)) (k : Lj z adC adM b L xs tgt lv st F1 A1 F2 A2) : Lj z adC adM b L xs pc lv st F1 A1 F2 A2 := by
  intro p e s m below meth c H locs ls C hN hK hLD hP hQ hS hl
  exact lv_goto C.1 C.2.1 hd ht (k p e s m below meth c H locs ls C hN hK hLD hP hQ hS hl)
theorem l_sld {i : Int32} (hd : decode code pc = .ok (.iaload, 1)) (hi : vp_in i L) (k : Lj z adC adM b L xs (pc + 1) lv (.int (xs i.toNatClampNeg) :: st) F1 A1 F2 A2) : Lj z adC adM b L xs pc lv (.int i :: .ref b :: st) F1 A1 F2 A2 := by
  intro p e s m below meth c H locs ls C hN hK hLD hP hQ hS hl
  exact va_sld (A := lB s) C.1 C.2.1 C.2.2.2.2.2.2.1 C.2.2.2.2.2.2.2.1 (Nat.not_le.mpr C.2.2.2.2.2.2.2.1) hS hi hd (k p e s m below meth c H locs ls C hN hK hLD hP hQ hS hl)
theorem l_slen (hd : decode code pc = .ok (.arraylength, 1)) (k : Lj z adC adM b L xs (pc + 1) lv (.int (nI L) :: st) F1 A1 F2 A2) : Lj z adC adM b L xs pc lv (.ref b :: st) F1 A1 F2 A2 := by
  intro p e s m below meth c H locs ls C hN hK hLD hP hQ hS hl
  exact va_slen (A := lB s) C.1 C.2.1 C.2.2.2.2.2.2.1 C.2.2.2.2.2.2.2.1 (Nat.not_le.mpr C.2.2.2.2.2.2.2.1) hS hd (k p e s m below meth c H locs ls C hN hK hLD hP hQ hS hl)
theorem l_tin {dflt lo hi : Int} {offs : Array Int} {len : Nat} {x : Int32} {off : Int} {tgt : Nat} (hd : decode code pc = .ok (.tableswitch dflt lo hi offs, len)) (h1 : ¬ x.toInt < lo) (h2 : ¬ hi < x.toInt) (ho : offs[(x.toInt - lo).toNat]? = some off) (ht : (pc : Int) + off = (tgt : Int)) (k : Lj z adC adM b L xs tgt lv st F1 A1 F2 A2) : Lj z adC adM b L xs pc lv (.int x :: st) F1 A1 F2 A2 := by
  intro p e s m below meth c H locs ls C hN hK hLD hP hQ hS hl
  exact lv_tableIn C.1 C.2.1 hd h1 h2 ho ht (k p e s m below meth c H locs ls C hN hK hLD hP hQ hS hl)
theorem l_tout {dflt lo hi : Int} {offs : Array Int} {len : Nat} {x : Int32} {tgt : Nat} (hd : decode code pc = .ok (.tableswitch dflt lo hi offs, len)) (h : x.toInt < lo ∨ hi < x.toInt) (ht : (pc : Int) + dflt = (tgt : Int)) (k : Lj z adC adM b L xs tgt lv st F1 A1 F2 A2) : Lj z adC adM b L xs pc lv (.int x :: st) F1 A1 F2 A2 := by
  intro p e s m below meth c H locs ls C hN hK hLD hP hQ hS hl
  exact lv_tableOut C.1 C.2.1 hd h ht (k p e s m below meth c H locs ls C hN hK hLD hP hQ hS hl)
theorem l_gt {x y : Int32} {off : Int} {tgt : Nat} (hd : decode code pc = .ok (.if_icmp .gt off, 3)) (ht : (pc : Int) + off = (tgt : Int)) (kt : y < x → Lj z adC adM b L xs tgt lv st F1 A1 F2 A2) (kf : ¬ y < x → Lj z adC adM b L xs (pc + 3) lv st F1 A1 F2 A2) : Lj z adC adM b L xs pc lv (.int y :: .int x :: st) F1 A1 F2 A2 := by
  intro p e s m below meth c H locs ls C hN hK hLD hP hQ hS hl
  exact lv_icmp_gt C.1 C.2.1 hd ht (fun h => kt h p e s m below meth c H locs ls C hN hK hLD hP hQ hS hl) (fun h => kf h p e s m below meth c H locs ls C hN hK hLD hP hQ hS hl)
theorem l_eq {x : Int32} {off : Int} {tgt : Nat} (hd : decode code pc = .ok (.if_icmp .eq off, 3)) (ht : (pc : Int) + off = (tgt : Int)) (k : Lj z adC adM b L xs tgt lv st F1 A1 F2 A2) : Lj z adC adM b L xs pc lv (.int x :: .int x :: st) F1 A1 F2 A2 := by
  intro p e s m below meth c H locs ls C hN hK hLD hP hQ hS hl
  exact lv_icmp_eq C.1 C.2.1 hd ht (fun _ => k p e s m below meth c H locs ls C hN hK hLD hP hQ hS hl) (fun h => absurd rfl h)
theorem l_iinc {i : Nat} {n : Int} {x v : Int32} {j : Nat} {lv' : List (Nat × Value)} (hd : decode code pc = .ok (.iinc i n, 3)) (hj : lv[j]? = some (i, .int x)) (hv : x + Int32.ofInt n = v) (hn : i < 4) (hl0 : (i, Value.int v) :: lv.filter (fun q => !(q.1 == i) && !(q.1 + 1 == i && q.2.category == 2)) = lv') (k : Lj z adC adM b L xs (pc + 3) lv' st F1 A1 F2 A2) : Lj z adC adM b L xs pc lv st F1 A1 F2 A2 := by
  intro p e s m below meth c H locs ls C hN hK hLD hP hQ hS hl
  exact lv_iinc C.1 C.2.1 hd hl hj hv hn hl0 (fun ls hl => k p e s m below meth c H locs ls C hN hK hLD hP hQ hS hl)
theorem l_callC {y' : mj_Y} {idx n d : Nat} {As : List Value} {Q' : Option Value → mj_S → mj_S → Prop} (hd : decode code pc = .ok (.invokevirtual idx, 3)) (hl0 : Cond.methodLink RL idx y'.1 ∈ mj_TB) (ok : mj_OK y' n) (hi : Cond.instanceMethod y'.1 ∈ mj_TB) (hse : Cond.selects y'.1.cls y'.1 y'.1 ∈ mj_TB) (hq : RX5 = y'.1.cls) (hn : As.length = n) (hAs : As.map (mj_v adC) = As) (hlen : (lg_sl (.ref 0 :: As)).length ≤ y'.2.2.1) (hr : (st.map fun v => v.category).sum ≤ 8) (hdd : d ≤ 1000)
    (hM : J (gK z adC SHC 117) y' d 0 (lv_args 0 (.ref 0 :: As)) [] F1 A1 Q') (k : ∀ v F' A', Q' v F' A' → Lj z adC adM b L xs (pc + 3) lv ((v.map (mj_v adC)).toList ++ st) F' A' F2 A2) : Lj z adC adM b L xs pc lv (As.reverse ++ .ref (adC 0) :: st) F1 A1 F2 A2 := by
  intro p e s m below meth c H locs ls C hN hK hLD hP hQ hS hl
  have he : (mj_w (gK z adC SHC 117) F1 A1)[0]? = some (adC 0, mj_c adC z.2.2.1 (F1 0) (A1 0) (SHC 0)) := mj_w_at (gK z adC SHC 117) F1 A1 (by show 0 < 117; omega)
  have hrecv := va_recv (ci := 5) (q := (RX5, TX5, 17)) hK hP rfl he
  have hrecv : ∃ cell : Cell, H[adC 0]? = some cell ∧ cell.vm.isStatics = false ∧ s.vm.findClass y'.1.cls = some cell.cls := by rw [← hq]; exact hrecv
  have e1 : (Value.ref 0 :: As).map (mj_v adC) = .ref (adC 0) :: As := by rw [List.map_cons, hAs]; rfl
  have hsub : ∀ q, mj_Z (gK z adC SHC 117) q → lB s q := by rintro q ⟨i, hi, rfl⟩; exact hLD.2.2.2.1 i hi
  refine mj_callA (g := gK z adC SHC 117) (va_runV (As := As) (rest := st) (b := adC 0) ⟨C.1, C.2.1, C.2.2.2.1, C.2.2.2.2.1, lw_TB C⟩ (mj_met ok.2.2.2.1 hlen hLD.1 hM) ⟨l_cb C ok hl0 hdd, lw_TB C _ hi, lw_TB C _ hse⟩ ⟨mj_blind _ _ F1 A1, hrecv, fun U hU hW => ⟨by rw [e1], by show va_P _ _ _ U.heap; rw [hU]; exact hP, va_K.moved hW.alike hK, mj_NW.warm hW hN⟩⟩ rfl hn hl.1 rfl (lv_room hr) hd ⟨by show 135 + 0 ≤ 600000; omega, by show 15440 + 0 ≤ 7302250; omega⟩) hS hsub (fun v F' A' H1 locs1 hq1 hP1 hfr hS1 => ?_)
  have hO : va_P (kD z) vwCl (mj_w (gK z adM SHM 18) F2 A2) H1 := hQ.kept (fun j r hj => hfr r.1 (hQ j r hj).lt (fun hz => by
    obtain ⟨i, hi, e⟩ := hz
    obtain ⟨h1, h2⟩ := mj_in_w hj
    exact hLD.2.2.1 i j hi h1 (e.symm.trans h2)))
  exact k v F' A' hq1 p e s m below meth c H1 locs1 ls C hN hK hLD hP1 hO hS1 hl
theorem l_callM {y' : mj_Y} {idx n d : Nat} {As : List Value} {Q' : Option Value → mj_S → mj_S → Prop} (hd : decode code pc = .ok (.invokevirtual idx, 3)) (hl0 : Cond.methodLink RL idx y'.1 ∈ mj_TB) (ok : mj_OK y' n) (hi : Cond.instanceMethod y'.1 ∈ mj_TB) (hse : Cond.selects y'.1.cls y'.1 y'.1 ∈ mj_TB) (hq : RX6 = y'.1.cls) (hn : As.length = n) (hAs : As.map (mj_v adM) = As) (hlen : (lg_sl (.ref 0 :: As)).length ≤ y'.2.2.1) (hr : (st.map fun v => v.category).sum ≤ 8) (hdd : d ≤ 1000)
    (hM : J (gK z adM SHM 18) y' d 0 (lv_args 0 (.ref 0 :: As)) [] F2 A2 Q') (k : ∀ v F' A', Q' v F' A' → Lj z adC adM b L xs (pc + 3) lv ((v.map (mj_v adM)).toList ++ st) F1 A1 F' A') : Lj z adC adM b L xs pc lv (As.reverse ++ .ref (adM 0) :: st) F1 A1 F2 A2 := by
  intro p e s m below meth c H locs ls C hN hK hLD hP hQ hS hl
  have he : (mj_w (gK z adM SHM 18) F2 A2)[0]? = some (adM 0, mj_c adM z.2.2.1 (F2 0) (A2 0) (SHM 0)) := mj_w_at (gK z adM SHM 18) F2 A2 (by show 0 < 18; omega)
  have hrecv := va_recv (ci := 6) (q := (RX6, TX6, 27)) hK hQ rfl he
  have hrecv : ∃ cell : Cell, H[adM 0]? = some cell ∧ cell.vm.isStatics = false ∧ s.vm.findClass y'.1.cls = some cell.cls := by rw [← hq]; exact hrecv
  have e1 : (Value.ref 0 :: As).map (mj_v adM) = .ref (adM 0) :: As := by rw [List.map_cons, hAs]; rfl
  have hsub : ∀ q, mj_Z (gK z adM SHM 18) q → lB s q := by rintro q ⟨i, hi, rfl⟩; exact hLD.2.2.2.2 i hi
  refine mj_callA (g := gK z adM SHM 18) (va_runV (As := As) (rest := st) (b := adM 0) ⟨C.1, C.2.1, C.2.2.2.1, C.2.2.2.2.1, lw_TB C⟩ (mj_met ok.2.2.2.1 hlen hLD.2.1 hM) ⟨l_cb C ok hl0 hdd, lw_TB C _ hi, lw_TB C _ hse⟩ ⟨mj_blind _ _ F2 A2, hrecv, fun U hU hW => ⟨by rw [e1], by show va_P _ _ _ U.heap; rw [hU]; exact hQ, va_K.moved hW.alike hK, mj_NW.warm hW hN⟩⟩ rfl hn hl.1 rfl (lv_room hr) hd ⟨by show 135 + 0 ≤ 600000; omega, by show 15440 + 0 ≤ 7302250; omega⟩) hS hsub (fun v F' A' H1 locs1 hq1 hP1 hfr hS1 => ?_)
  have hO : va_P (kD z) vwCl (mj_w (gK z adC SHC 117) F1 A1) H1 := hP.kept (fun j r hj => hfr r.1 (hP j r hj).lt (fun hz => by
    obtain ⟨i, hi, e⟩ := hz
    obtain ⟨h1, h2⟩ := mj_in_w hj
    exact hLD.2.2.1 j i h1 hi (h2.symm.trans e)))
  exact k v F' A' hq1 p e s m below meth c H1 locs1 ls C hN hK hLD hO hP1 hS1 hl
end LJ
theorem MI.txt {t T' n : Nat} {mm : Nat → Nat} {rn : Nat} {rm : Nat → Nat} {un kn : Nat} {F A : mj_S} (h : MI (t, A) n mm rn rm un kn F A) (hT : T' ≤ 200) (A' : mj_S) (hA : ∀ k, k ≠ 1 → A' k = A k) : MI (T', A') n mm rn rm un kn (mj_u F 0 0 (nI T')) A' := by
  have e0 : mj_u F 0 0 (nI T') 0 0 = nI T' := by simp [mj_u, upd]
  have e : ∀ s, s ≠ 0 → mj_u F 0 0 (nI T') 0 s = F 0 s := fun s hs => by simp [mj_u, upd, hs]
  obtain ⟨h1, h2, h3, h4, h5, h6, h7, h8, h9, h10⟩ := h
  exact ⟨⟨e0, hT, rfl, rfl, rfl, rfl, rfl⟩, ⟨(e 2 (by omega)).trans h2.1, h2.2.1, fun j hj => by rw [hA 2 (by omega)]; exact h2.2.2.1 j hj, h2.2.2.2⟩, ⟨(e 4 (by omega)).trans h3.1, h3.2.1, fun j hj => by rw [hA 3 (by omega)]; exact h3.2.2.1 j hj, h3.2.2.2⟩, ⟨(e 9 (by omega)).trans h4.1, h4.2⟩, ⟨(e 11 (by omega)).trans h5.1, h5.2⟩, by rw [hA 14 (by omega)]; exact h6, by rw [hA 16 (by omega)]; exact h7, by rw [hA 10 (by omega)]; exact h8, by rw [hA 11 (by omega)]; exact h9, by rw [hA 13 (by omega)]; exact h10⟩
theorem ok_wide (x : Int32) : ((32 : Int64) ≤ x.toInt64 ∧ x.toInt64 ≤ 126) ↔ (nI 32 ≤ x ∧ x ≤ nI 126) := by
  have e1 : (32 : Int64) = (nI 32).toInt64 := by decide +kernel
  have e2 : (126 : Int64) = (nI 126).toInt64 := by decide +kernel
  rw [e1, e2, wide_le, wide_le]
abbrev lvL (adC adM : Nat → Nat) (b i : Nat) : List (Nat × Value) := [(3, .int (nI i)), (2, .ref (adM 0)), (1, .ref (adC 0)), (0, .ref b)]

set_option maxHeartbeats 1000000 in
theorem law_c0 (z : mj_B) (adC adM : Nat → Nat) (b L : Nat) (xs : Nat → Int32) (i : Nat) (hv : ∀ k, k < 6 → vp_in (nI i + nI k) L) (hend : ∀ F1 A1 F2 A2, LR F1 A1 F2 A2 → Lj z adC adM b L xs 779 (lvL adC adM b i) [] F1 A1 F2 A2) (F1 A1 F2 A2 : mj_S) (hR : LR F1 A1 F2 A2) : Lj z adC adM b L xs 140 (lvL adC adM b i) [] F1 A1 F2 A2 := by
  obtain ⟨t, n, mm, rn, rm, un, kn, hC, hM0, hS, hw, hx⟩ := hR
  have hT := hC.1.2
  have hkn := hM0.2.2.2.2.1.2
  have hun := hM0.2.2.2.1.2
  refine l_aload_n (j := 2) dL_law_140 rfl ?_
  refine l_aload_n (j := 3) dL_law_141 rfl ?_
  refine l_iload_n (j := 0) dL_law_142 rfl ?_
  refine l_iconst (v := nI 1) dL_law_143 (by decide +kernel) ?_
  refine l_iadd dL_law_144 ?_
  refine l_sld dL_law_145 (hv 1 (by decide)) ?_
  refine l_callC (y' := mX5_write) (As := [.int (xs (nI i + nI 1).toNatClampNeg)]) (st := []) (d := 0 + 1) dL_law_146 lkL_13 okX5_write imX5_write seX5_write rfl rfl rfl (Nat.le_of_ble_eq_true rfl) (Nat.le_of_ble_eq_true rfl) (by omega) (c_write (kz z adC 117) 0 (t, F1, A1) (xs (nI i + nI 1).toNatClampNeg) F1 A1 hC.c) (fun v F' A' hw1 => ?_)
  obtain ⟨x', rfl, hcs⟩ : ∃ (x' : Int32), v = some (.int x') ∧ ((¬ (nI 32 ≤ (xs (nI i + nI 1).toNatClampNeg) ∧ (xs (nI i + nI 1).toNatClampNeg) ≤ nI 126) ∧ x' = -1 ∧ F' = F1 ∧ A' = A1) ∨ ((nI 32 ≤ (xs (nI i + nI 1).toNatClampNeg) ∧ (xs (nI i + nI 1).toNatClampNeg) ≤ nI 126) ∧ t = 200 ∧ x' = -3 ∧ F' = F1 ∧ A' = A1) ∨ ((nI 32 ≤ (xs (nI i + nI 1).toNatClampNeg) ∧ (xs (nI i + nI 1).toNatClampNeg) ≤ nI 126) ∧ t < 200 ∧ x' = nI (t + 1) ∧ CB (t + 1) F' A' ∧ F' = mj_u F1 0 1 (nI (t + 1)) ∧ A' = mj_u A1 1 t (vp_nar .char (((xs (nI i + nI 1).toNatClampNeg).toUInt32 % 65536).toInt32)))) := by
    rcases hw1 with ⟨h1, h2, h3, h4⟩ | ⟨h1, h5, h2, h3, h4⟩ | ⟨h1, h5, h2, h3, h4, h6⟩
    · exact ⟨_, h2, Or.inl ⟨h1, rfl, h3.symm, h4.symm⟩⟩
    · exact ⟨_, h2, Or.inr (Or.inl ⟨h1, h5, rfl, h3.symm, h4.symm⟩)⟩
    · exact ⟨_, h2, Or.inr (Or.inr ⟨h1, h5, rfl, h3, h4, h6⟩)⟩
  refine l_pop dL_law_149 rfl ?_
  refine l_aload_n (j := 1) dL_law_150 rfl ?_
  refine l_aload_n (j := 3) dL_law_151 rfl ?_
  refine l_iload_n (j := 0) dL_law_152 rfl ?_
  refine l_iconst (v := nI 1) dL_law_153 (by decide +kernel) ?_
  refine l_iadd dL_law_154 ?_
  refine l_sld dL_law_155 (hv 1 (by decide)) ?_
  refine l_callM (y' := mX6_write) (As := [.int (xs (nI i + nI 1).toNatClampNeg)]) (st := []) (d := 0 + 1) dL_law_156 lkL_17 okX6_write imX6_write seX6_write rfl rfl rfl (Nat.le_of_ble_eq_true rfl) (Nat.le_of_ble_eq_true rfl) (by omega) (m_write (kz z adM 18) 0 (t, A2) n mm rn rm un kn (xs (nI i + nI 1).toNatClampNeg) F2 A2 hM0) (fun v F'' A'' hw2 => ?_)
  obtain ⟨y', rfl, hxy, hLR⟩ : ∃ y', v = some (.int y') ∧ y' = x' ∧ LR F' A' F'' A'' := by
    rw [ok_wide] at hw2
    rcases hw2 with ⟨h1, h2, h3, h4⟩ | ⟨h1, h5, h2, h3, h4⟩ | ⟨h1, h5, h2, h3, h4⟩ <;> rcases hcs with ⟨g1, g2, g3, g4⟩ | ⟨g1, g5, g2, g3, g4⟩ | ⟨g1, g5, g2, g3, g4, g6⟩ <;> first | exact absurd h1 g1 | exact absurd g1 h1 | (exfalso; have h5 : t = 200 := h5; omega) | (exfalso; have h5 : t < 200 := h5; omega) | skip
    · subst g2; subst g3; subst g4; subst h3; subst h4; exact ⟨_, h2, rfl, t, n, mm, rn, rm, un, kn, hC, hM0, hS, hw, hx⟩
    · subst g2; subst g3; subst g4; subst h3; subst h4; exact ⟨_, h2, rfl, t, n, mm, rn, rm, un, kn, hC, hM0, hS, hw, hx⟩
    · have k5 : A'' 5 = A2 5 := by rw [h4]; rfl
      have k6 : A'' 6 = A2 6 := by rw [h4]; rfl
      have k7 : A'' 7 = A2 7 := by rw [h4]; rfl
      refine ⟨_, h2, g2.symm, t + 1, n, mm, rn, rm, un, kn, g3, ?_, ?_, by rw [k5, k6, k7]; exact hw, fun j hj => ?_⟩
      · rw [h3, h4]; exact hM0.txt (by omega) _ (fun k hk => mj_u_ne A2 _ hk)
      · rw [k5, k6, k7, g4, g6]; exact hS.off rfl rfl rfl rfl (fun o ho _ => mj_u_off _ (Or.inl (Ne.symm (g_ne0 ho)))) (fun k hk _ => mj_u_ne _ _ (by omega))
      · rw [g6, h4, mj_u_at, mj_u_at, nar_in g1]
        by_cases e : j = t
        · rw [e, pk_us, pk_us]
        · rw [pk_un e, pk_un e]; exact hx j (by omega)
  refine l_pop dL_law_159 rfl ?_
  refine l_goto (tgt := 779) dL_law_160 (by decide) ?_
  exact hend _ _ _ _ hLR
set_option maxHeartbeats 1000000 in
theorem law_c1 (z : mj_B) (adC adM : Nat → Nat) (b L : Nat) (xs : Nat → Int32) (i : Nat) (hv : ∀ k, k < 6 → vp_in (nI i + nI k) L) (hend : ∀ F1 A1 F2 A2, LR F1 A1 F2 A2 → Lj z adC adM b L xs 779 (lvL adC adM b i) [] F1 A1 F2 A2) (F1 A1 F2 A2 : mj_S) (hR : LR F1 A1 F2 A2) : Lj z adC adM b L xs 163 (lvL adC adM b i) [] F1 A1 F2 A2 := by
  obtain ⟨t, n, mm, rn, rm, un, kn, hC, hM0, hS, hw, hx⟩ := hR
  have hT := hC.1.2
  have hkn := hM0.2.2.2.2.1.2
  have hun := hM0.2.2.2.1.2
  refine l_aload_n (j := 2) dL_law_163 rfl ?_
  refine l_callC (y' := mX5_wipe) (As := []) (st := []) (d := 0) dL_law_164 lkL_18 okX5_wipe imX5_wipe seX5_wipe rfl rfl rfl (Nat.le_of_ble_eq_true rfl) (Nat.le_of_ble_eq_true rfl) (by omega) (c_wipe (kz z adC 117) 0 (t, F1, A1)  F1 A1 hC.c) (fun v F' A' hw1 => ?_)
  obtain ⟨rfl, hC2, eF, eA⟩ := hw1
  obtain ⟨x', hx'⟩ : ∃ x', x' = nI t := ⟨_, rfl⟩
  rw [show nI (t, F1, A1).1 = x' from hx'.symm]
  refine l_pop dL_law_167 rfl ?_
  refine l_aload_n (j := 1) dL_law_168 rfl ?_
  refine l_callM (y' := mX6_wipe) (As := []) (st := []) (d := 0) dL_law_169 lkL_22 okX6_wipe imX6_wipe seX6_wipe rfl rfl rfl (Nat.le_of_ble_eq_true rfl) (Nat.le_of_ble_eq_true rfl) (by omega) (m_wipe (kz z adM 18) 0 (t, A2) n mm rn rm un kn  F2 A2 hM0) (fun v F'' A'' hw2 => ?_)
  obtain ⟨y', rfl, hxy, hLR⟩ : ∃ y', v = some (.int y') ∧ y' = x' ∧ LR F' A' F'' A'' := by
    obtain ⟨h2, h3, h4⟩ := hw2
    refine ⟨_, h2, hx'.symm, 0, n, mm, rn, rm, un, kn, hC2, ?_, ?_, by rw [h4]; exact hw, fun j hj => absurd hj (by omega)⟩
    · rw [h3, h4]; exact hM0.txt (by omega) _ (fun k hk => rfl)
    · rw [eF, eA, h4]; exact hS.f (by decide) (by decide) _
  refine l_pop dL_law_172 rfl ?_
  refine l_goto (tgt := 779) dL_law_173 (by decide) ?_
  exact hend _ _ _ _ hLR
set_option maxHeartbeats 1000000 in
theorem law_c2 (z : mj_B) (adC adM : Nat → Nat) (b L : Nat) (xs : Nat → Int32) (i : Nat) (hv : ∀ k, k < 6 → vp_in (nI i + nI k) L) (hend : ∀ F1 A1 F2 A2, LR F1 A1 F2 A2 → Lj z adC adM b L xs 779 (lvL adC adM b i) [] F1 A1 F2 A2) (F1 A1 F2 A2 : mj_S) (hR : LR F1 A1 F2 A2) : Lj z adC adM b L xs 176 (lvL adC adM b i) [] F1 A1 F2 A2 := by
  obtain ⟨t, n, mm, rn, rm, un, kn, hC, hM0, hS, hw, hx⟩ := hR
  have hT := hC.1.2
  have hkn := hM0.2.2.2.2.1.2
  have hun := hM0.2.2.2.1.2
  refine l_aload_n (j := 2) dL_law_176 rfl ?_
  refine l_callC (y' := mX5_fault) (As := []) (st := []) (d := 0 + 5) dL_law_177 lkL_23 okX5_fault imX5_fault seX5_fault rfl rfl rfl (Nat.le_of_ble_eq_true rfl) (Nat.le_of_ble_eq_true rfl) (by omega) (c_fault (kz z adC 117) 0 (t, F1, A1)  F1 A1 hC.c) (fun v F' A' hw1 => ?_)
  obtain ⟨x', rfl, hC2, hE⟩ := hw1
  refine l_pop dL_law_180 rfl ?_
  refine l_aload_n (j := 1) dL_law_181 rfl ?_
  refine l_callM (y' := mX6_fault) (As := []) (st := []) (d := 0 + 4) dL_law_182 lkL_26 okX6_fault imX6_fault seX6_fault rfl rfl rfl (Nat.le_of_ble_eq_true rfl) (Nat.le_of_ble_eq_true rfl) (by omega) (m_fault (kz z adM 18) 0 (t, A2) n mm rn rm un kn  F2 A2 hM0) (fun v F'' A'' hw2 => ?_)
  obtain ⟨y', rn', rm', rfl, hM', hE2⟩ := hw2
  have hLR := LR.ro' hS hw hx hC2 hM'
  rw [show cT (t, F1, A1) = cL (t, A2) from cTL hx] at hE
  have hxy : y' = x' := cmp_fault (R := rd_text (cL (t, A2)) t) (hE.imp (fun ⟨b, h1, h2, _⟩ => ⟨b, h1, h2⟩) (fun ⟨h1, n, mm, row, h2, _⟩ => ⟨h1, _, h2⟩)) (hE2.imp (fun ⟨b, h1, h2, _⟩ => ⟨b, h1, h2⟩) (fun ⟨h1, mm, row, h2, _⟩ => ⟨h1, _, h2⟩))
  refine l_pop dL_law_185 rfl ?_
  refine l_goto (tgt := 779) dL_law_186 (by decide) ?_
  exact hend _ _ _ _ hLR
set_option maxHeartbeats 1000000 in
theorem law_c3 (z : mj_B) (adC adM : Nat → Nat) (b L : Nat) (xs : Nat → Int32) (i : Nat) (hv : ∀ k, k < 6 → vp_in (nI i + nI k) L) (hend : ∀ F1 A1 F2 A2, LR F1 A1 F2 A2 → Lj z adC adM b L xs 779 (lvL adC adM b i) [] F1 A1 F2 A2) (F1 A1 F2 A2 : mj_S) (hR : LR F1 A1 F2 A2) : Lj z adC adM b L xs 189 (lvL adC adM b i) [] F1 A1 F2 A2 := by
  obtain ⟨t, n, mm, rn, rm, un, kn, hC, hM0, hS, hw, hx⟩ := hR
  have hT := hC.1.2
  have hkn := hM0.2.2.2.2.1.2
  have hun := hM0.2.2.2.1.2
  refine l_aload_n (j := 2) dL_law_189 rfl ?_
  refine l_callC (y' := mX5_lay) (As := []) (st := []) (d := 0 + 5) dL_law_190 lkL_27 okX5_lay imX5_lay seX5_lay rfl rfl rfl (Nat.le_of_ble_eq_true rfl) (Nat.le_of_ble_eq_true rfl) (by omega) (c_lay (kz z adC 117) 0 t F1 A1 hC (t, F1, A1) rfl) (fun v F' A' hw1 => ?_)
  obtain ⟨x', rfl, hB', e1, hE⟩ := hw1
  refine l_pop dL_law_193 rfl ?_
  refine l_aload_n (j := 1) dL_law_194 rfl ?_
  refine l_callM (y' := mX6_lay) (As := []) (st := []) (d := 0 + 4) dL_law_195 lkL_30 okX6_lay imX6_lay seX6_lay rfl rfl rfl (Nat.le_of_ble_eq_true rfl) (Nat.le_of_ble_eq_true rfl) (by omega) (m_lay (kz z adM 18) 0 (t, A2) n mm rn rm un kn  F2 A2 hM0) (fun v F'' A'' hw2 => ?_)
  obtain ⟨y', L', n', mm', rn', rm', un', kn', rfl, hM', hE2⟩ := hw2
  rw [show cT (t, F1, A1) = cL (t, A2) from cTL hx] at hE
  obtain ⟨hxy, hLR⟩ : y' = x' ∧ LR F' A' F'' A'' := by
    rcases hE with ⟨g1, g3, gP⟩ | ⟨m1, mmr, row, g2, gw, g3, g4, gS⟩
    · rcases hE2 with ⟨k1, rfl, rfl, rfl, rfl, rfl, k3⟩ | ⟨k1, -, -, -, -, mmr, row, k2, k3, -⟩
      · exact ⟨by rw [g1, k1], LR.ro' hS hw hx (hB'.g gP) hM'⟩
      · exact absurd (rd_no_not g3 k2 k3) id
    · rcases hE2 with ⟨k1, rfl, rfl, rfl, rfl, rfl, k3⟩ | ⟨k1, k4, k5, rfl, rfl, mmr2, row2, k2, k3, k6, k7⟩
      · exact absurd (rd_no_not k3 g2 g3) id
      · have e9 := g2.symm.trans k2
        cases e9
        have q5 : ∀ j, j < 500 → A'' 5 j = _ := fun j hj => (congrFun hM'.1.2.2.2.1 j).trans (k6 j hj)
        refine ⟨by rw [g4, k1], t, _, mm', rn', rm', 0, 0, hB', by have := hM'.k.i; rw [k4] at this; exact this, (gS _ _ _ _ _ _ _ hS).rows k7 q5 (fun k j hk => absurd hk (by omega)) (fun k j hk => absurd hk (by omega)), ⟨gw.1.cg k7 q5, fun k hk => absurd hk (by omega), fun k hk => absurd hk (by omega)⟩, fun j hj => ?_⟩
        rw [e1, hM'.1.2.2.1, k5]; exact hx j hj
  refine l_pop dL_law_198 rfl ?_
  refine l_goto (tgt := 779) dL_law_199 (by decide) ?_
  exact hend _ _ _ _ hLR
set_option maxHeartbeats 1000000 in
theorem law_c4 (z : mj_B) (adC adM : Nat → Nat) (b L : Nat) (xs : Nat → Int32) (i : Nat) (hv : ∀ k, k < 6 → vp_in (nI i + nI k) L) (hend : ∀ F1 A1 F2 A2, LR F1 A1 F2 A2 → Lj z adC adM b L xs 779 (lvL adC adM b i) [] F1 A1 F2 A2) (F1 A1 F2 A2 : mj_S) (hR : LR F1 A1 F2 A2) : Lj z adC adM b L xs 202 (lvL adC adM b i) [] F1 A1 F2 A2 := by
  obtain ⟨t, n, mm, rn, rm, un, kn, hC, hM0, hS, hw, hx⟩ := hR
  have hT := hC.1.2
  have hkn := hM0.2.2.2.2.1.2
  have hun := hM0.2.2.2.1.2
  refine l_aload_n (j := 2) dL_law_202 rfl ?_
  refine l_aload_n (j := 3) dL_law_203 rfl ?_
  refine l_iload_n (j := 0) dL_law_204 rfl ?_
  refine l_iconst (v := nI 1) dL_law_205 (by decide +kernel) ?_
  refine l_iadd dL_law_206 ?_
  refine l_sld dL_law_207 (hv 1 (by decide)) ?_
  refine l_aload_n (j := 3) dL_law_208 rfl ?_
  refine l_iload_n (j := 0) dL_law_209 rfl ?_
  refine l_iconst (v := nI 2) dL_law_210 (by decide +kernel) ?_
  refine l_iadd dL_law_211 ?_
  refine l_sld dL_law_212 (hv 2 (by decide)) ?_
  refine l_callC (y' := mX5_node) (As := [.int (xs (nI i + nI 1).toNatClampNeg), .int (xs (nI i + nI 2).toNatClampNeg)]) (st := []) (d := 0 + 2) dL_law_213 lkL_31 okX5_node imX5_node seX5_node rfl rfl rfl (Nat.le_of_ble_eq_true rfl) (Nat.le_of_ble_eq_true rfl) (by omega) (c_node (kz z adC 117) 0 t n mm (A2 5) un (rwK (A2 6)) kn (rwK (A2 7)) (xs (nI i + nI 1).toNatClampNeg) (xs (nI i + nI 2).toNatClampNeg) F1 A1 hC hS hw.1) (fun v F' A' hw1 => ?_)
  obtain ⟨rfl, rfl, x', rfl, hE⟩ := hw1
  refine l_pop dL_law_216 rfl ?_
  refine l_aload_n (j := 1) dL_law_217 rfl ?_
  refine l_aload_n (j := 3) dL_law_218 rfl ?_
  refine l_iload_n (j := 0) dL_law_219 rfl ?_
  refine l_iconst (v := nI 1) dL_law_220 (by decide +kernel) ?_
  refine l_iadd dL_law_221 ?_
  refine l_sld dL_law_222 (hv 1 (by decide)) ?_
  refine l_aload_n (j := 3) dL_law_223 rfl ?_
  refine l_iload_n (j := 0) dL_law_224 rfl ?_
  refine l_iconst (v := nI 2) dL_law_225 (by decide +kernel) ?_
  refine l_iadd dL_law_226 ?_
  refine l_sld dL_law_227 (hv 2 (by decide)) ?_
  refine l_callM (y' := mX6_node) (As := [.int (xs (nI i + nI 1).toNatClampNeg), .int (xs (nI i + nI 2).toNatClampNeg)]) (st := []) (d := 0 + 3) dL_law_228 lkL_35 okX6_node imX6_node seX6_node rfl rfl rfl (Nat.le_of_ble_eq_true rfl) (Nat.le_of_ble_eq_true rfl) (by omega) (m_node (kz z adM 18) 0 (t, A2) n mm rn rm un kn (xs (nI i + nI 1).toNatClampNeg) (xs (nI i + nI 2).toNatClampNeg) F2 A2 hM0 hw.1) (fun v F'' A'' hw2 => ?_)
  obtain ⟨rfl, rfl, y', rfl, hE2⟩ := hw2
  have hLR : LR F1 A1 F2 A2 := ⟨t, n, mm, rn, rm, un, kn, hC, hM0, hS, hw, hx⟩
  have hxy : y' = x' := hE2.trans hE.symm
  refine l_pop dL_law_231 rfl ?_
  refine l_goto (tgt := 779) dL_law_232 (by decide) ?_
  exact hend _ _ _ _ hLR
set_option maxHeartbeats 1000000 in
theorem law_c5 (z : mj_B) (adC adM : Nat → Nat) (b L : Nat) (xs : Nat → Int32) (i : Nat) (hv : ∀ k, k < 6 → vp_in (nI i + nI k) L) (hend : ∀ F1 A1 F2 A2, LR F1 A1 F2 A2 → Lj z adC adM b L xs 779 (lvL adC adM b i) [] F1 A1 F2 A2) (F1 A1 F2 A2 : mj_S) (hR : LR F1 A1 F2 A2) : Lj z adC adM b L xs 235 (lvL adC adM b i) [] F1 A1 F2 A2 := by
  obtain ⟨t, n, mm, rn, rm, un, kn, hC, hM0, hS, hw, hx⟩ := hR
  have hT := hC.1.2
  have hkn := hM0.2.2.2.2.1.2
  have hun := hM0.2.2.2.1.2
  refine l_aload_n (j := 2) dL_law_235 rfl ?_
  refine l_aload_n (j := 3) dL_law_236 rfl ?_
  refine l_iload_n (j := 0) dL_law_237 rfl ?_
  refine l_iconst (v := nI 1) dL_law_238 (by decide +kernel) ?_
  refine l_iadd dL_law_239 ?_
  refine l_sld dL_law_240 (hv 1 (by decide)) ?_
  refine l_aload_n (j := 3) dL_law_241 rfl ?_
  refine l_iload_n (j := 0) dL_law_242 rfl ?_
  refine l_iconst (v := nI 2) dL_law_243 (by decide +kernel) ?_
  refine l_iadd dL_law_244 ?_
  refine l_sld dL_law_245 (hv 2 (by decide)) ?_
  refine l_callC (y' := mX5_cost) (As := [.int (xs (nI i + nI 1).toNatClampNeg), .int (xs (nI i + nI 2).toNatClampNeg)]) (st := []) (d := 0 + 3) dL_law_246 lkL_36 okX5_cost imX5_cost seX5_cost rfl rfl rfl (Nat.le_of_ble_eq_true rfl) (Nat.le_of_ble_eq_true rfl) (by omega) (c_cost (kz z adC 117) 0 t n mm (A2 5) un (rwK (A2 6)) kn (rwK (A2 7)) (xs (nI i + nI 1).toNatClampNeg) (xs (nI i + nI 2).toNatClampNeg) F1 A1 hC hS hw.1) (fun v F' A' hw1 => ?_)
  obtain ⟨rfl, rfl, x', rfl, hE⟩ := hw1
  refine l_pop dL_law_249 rfl ?_
  refine l_aload_n (j := 1) dL_law_250 rfl ?_
  refine l_aload_n (j := 3) dL_law_251 rfl ?_
  refine l_iload_n (j := 0) dL_law_252 rfl ?_
  refine l_iconst (v := nI 1) dL_law_253 (by decide +kernel) ?_
  refine l_iadd dL_law_254 ?_
  refine l_sld dL_law_255 (hv 1 (by decide)) ?_
  refine l_aload_n (j := 3) dL_law_256 rfl ?_
  refine l_iload_n (j := 0) dL_law_257 rfl ?_
  refine l_iconst (v := nI 2) dL_law_258 (by decide +kernel) ?_
  refine l_iadd dL_law_259 ?_
  refine l_sld dL_law_260 (hv 2 (by decide)) ?_
  refine l_callM (y' := mX6_cost) (As := [.int (xs (nI i + nI 1).toNatClampNeg), .int (xs (nI i + nI 2).toNatClampNeg)]) (st := []) (d := 0 + 3) dL_law_261 lkL_39 okX6_cost imX6_cost seX6_cost rfl rfl rfl (Nat.le_of_ble_eq_true rfl) (Nat.le_of_ble_eq_true rfl) (by omega) (m_cost (kz z adM 18) 0 (t, A2) n mm rn rm un kn (xs (nI i + nI 1).toNatClampNeg) (xs (nI i + nI 2).toNatClampNeg) F2 A2 hM0 hw.1) (fun v F'' A'' hw2 => ?_)
  obtain ⟨rfl, rfl, y', rfl, hE2⟩ := hw2
  have hLR : LR F1 A1 F2 A2 := ⟨t, n, mm, rn, rm, un, kn, hC, hM0, hS, hw, hx⟩
  have hxy : y' = x' := hE2.trans hE.symm
  refine l_pop dL_law_264 rfl ?_
  refine l_goto (tgt := 779) dL_law_265 (by decide) ?_
  exact hend _ _ _ _ hLR
set_option maxHeartbeats 1000000 in
theorem law_c6 (z : mj_B) (adC adM : Nat → Nat) (b L : Nat) (xs : Nat → Int32) (i : Nat) (hv : ∀ k, k < 6 → vp_in (nI i + nI k) L) (hend : ∀ F1 A1 F2 A2, LR F1 A1 F2 A2 → Lj z adC adM b L xs 779 (lvL adC adM b i) [] F1 A1 F2 A2) (F1 A1 F2 A2 : mj_S) (hR : LR F1 A1 F2 A2) : Lj z adC adM b L xs 268 (lvL adC adM b i) [] F1 A1 F2 A2 := by
  obtain ⟨t, n, mm, rn, rm, un, kn, hC, hM0, hS, hw, hx⟩ := hR
  have hT := hC.1.2
  have hkn := hM0.2.2.2.2.1.2
  have hun := hM0.2.2.2.1.2
  refine l_aload_n (j := 2) dL_law_268 rfl ?_
  refine l_aload_n (j := 3) dL_law_269 rfl ?_
  refine l_iload_n (j := 0) dL_law_270 rfl ?_
  refine l_iconst (v := nI 1) dL_law_271 (by decide +kernel) ?_
  refine l_iadd dL_law_272 ?_
  refine l_sld dL_law_273 (hv 1 (by decide)) ?_
  refine l_aload_n (j := 3) dL_law_274 rfl ?_
  refine l_iload_n (j := 0) dL_law_275 rfl ?_
  refine l_iconst (v := nI 2) dL_law_276 (by decide +kernel) ?_
  refine l_iadd dL_law_277 ?_
  refine l_sld dL_law_278 (hv 2 (by decide)) ?_
  refine l_aload_n (j := 3) dL_law_279 rfl ?_
  refine l_iload_n (j := 0) dL_law_280 rfl ?_
  refine l_iconst (v := nI 3) dL_law_281 (by decide +kernel) ?_
  refine l_iadd dL_law_282 ?_
  refine l_sld dL_law_283 (hv 3 (by decide)) ?_
  refine l_aload_n (j := 3) dL_law_284 rfl ?_
  refine l_iload_n (j := 0) dL_law_285 rfl ?_
  refine l_iconst (v := nI 4) dL_law_286 (by decide +kernel) ?_
  refine l_iadd dL_law_287 ?_
  refine l_sld dL_law_288 (hv 4 (by decide)) ?_
  refine l_callC (y' := mX5_tie) (As := [.int (xs (nI i + nI 1).toNatClampNeg), .int (xs (nI i + nI 2).toNatClampNeg), .int (xs (nI i + nI 3).toNatClampNeg), .int (xs (nI i + nI 4).toNatClampNeg)]) (st := []) (d := 0 + 3) dL_law_289 lkL_40 okX5_tie imX5_tie seX5_tie rfl rfl rfl (Nat.le_of_ble_eq_true rfl) (Nat.le_of_ble_eq_true rfl) (by omega) (c_tie (kz z adC 117) 0 t n mm (A2 5) un (rwK (A2 6)) kn (rwK (A2 7)) (xs (nI i + nI 1).toNatClampNeg) (xs (nI i + nI 2).toNatClampNeg) (xs (nI i + nI 3).toNatClampNeg) (xs (nI i + nI 4).toNatClampNeg) F1 A1 hC hS hw.1) (fun v F' A' hw1 => ?_)
  obtain ⟨rfl, rfl, x', rfl, hE⟩ := hw1
  refine l_pop dL_law_292 rfl ?_
  refine l_aload_n (j := 1) dL_law_293 rfl ?_
  refine l_aload_n (j := 3) dL_law_294 rfl ?_
  refine l_iload_n (j := 0) dL_law_295 rfl ?_
  refine l_iconst (v := nI 1) dL_law_296 (by decide +kernel) ?_
  refine l_iadd dL_law_297 ?_
  refine l_sld dL_law_298 (hv 1 (by decide)) ?_
  refine l_aload_n (j := 3) dL_law_299 rfl ?_
  refine l_iload_n (j := 0) dL_law_300 rfl ?_
  refine l_iconst (v := nI 2) dL_law_301 (by decide +kernel) ?_
  refine l_iadd dL_law_302 ?_
  refine l_sld dL_law_303 (hv 2 (by decide)) ?_
  refine l_aload_n (j := 3) dL_law_304 rfl ?_
  refine l_iload_n (j := 0) dL_law_305 rfl ?_
  refine l_iconst (v := nI 3) dL_law_306 (by decide +kernel) ?_
  refine l_iadd dL_law_307 ?_
  refine l_sld dL_law_308 (hv 3 (by decide)) ?_
  refine l_aload_n (j := 3) dL_law_309 rfl ?_
  refine l_iload_n (j := 0) dL_law_310 rfl ?_
  refine l_iconst (v := nI 4) dL_law_311 (by decide +kernel) ?_
  refine l_iadd dL_law_312 ?_
  refine l_sld dL_law_313 (hv 4 (by decide)) ?_
  refine l_callM (y' := mX6_tie) (As := [.int (xs (nI i + nI 1).toNatClampNeg), .int (xs (nI i + nI 2).toNatClampNeg), .int (xs (nI i + nI 3).toNatClampNeg), .int (xs (nI i + nI 4).toNatClampNeg)]) (st := []) (d := 0 + 3) dL_law_314 lkL_44 okX6_tie imX6_tie seX6_tie rfl rfl rfl (Nat.le_of_ble_eq_true rfl) (Nat.le_of_ble_eq_true rfl) (by omega) (m_tie (kz z adM 18) 0 (t, A2) n mm rn rm un kn (xs (nI i + nI 1).toNatClampNeg) (xs (nI i + nI 2).toNatClampNeg) (xs (nI i + nI 3).toNatClampNeg) (xs (nI i + nI 4).toNatClampNeg) F2 A2 hM0 hw.1) (fun v F'' A'' hw2 => ?_)
  obtain ⟨rfl, rfl, y', rfl, hE2⟩ := hw2
  have hLR : LR F1 A1 F2 A2 := ⟨t, n, mm, rn, rm, un, kn, hC, hM0, hS, hw, hx⟩
  have hxy : y' = x' := hE2.trans hE.symm
  refine l_pop dL_law_317 rfl ?_
  refine l_goto (tgt := 779) dL_law_318 (by decide) ?_
  exact hend _ _ _ _ hLR
set_option maxHeartbeats 1000000 in
theorem law_c7 (z : mj_B) (adC adM : Nat → Nat) (b L : Nat) (xs : Nat → Int32) (i : Nat) (hv : ∀ k, k < 6 → vp_in (nI i + nI k) L) (hend : ∀ F1 A1 F2 A2, LR F1 A1 F2 A2 → Lj z adC adM b L xs 779 (lvL adC adM b i) [] F1 A1 F2 A2) (F1 A1 F2 A2 : mj_S) (hR : LR F1 A1 F2 A2) : Lj z adC adM b L xs 321 (lvL adC adM b i) [] F1 A1 F2 A2 := by
  obtain ⟨t, n, mm, rn, rm, un, kn, hC, hM0, hS, hw, hx⟩ := hR
  have hT := hC.1.2
  have hkn := hM0.2.2.2.2.1.2
  have hun := hM0.2.2.2.1.2
  refine l_aload_n (j := 2) dL_law_321 rfl ?_
  refine l_aload_n (j := 3) dL_law_322 rfl ?_
  refine l_iload_n (j := 0) dL_law_323 rfl ?_
  refine l_iconst (v := nI 1) dL_law_324 (by decide +kernel) ?_
  refine l_iadd dL_law_325 ?_
  refine l_sld dL_law_326 (hv 1 (by decide)) ?_
  refine l_aload_n (j := 3) dL_law_327 rfl ?_
  refine l_iload_n (j := 0) dL_law_328 rfl ?_
  refine l_iconst (v := nI 2) dL_law_329 (by decide +kernel) ?_
  refine l_iadd dL_law_330 ?_
  refine l_sld dL_law_331 (hv 2 (by decide)) ?_
  refine l_aload_n (j := 3) dL_law_332 rfl ?_
  refine l_iload_n (j := 0) dL_law_333 rfl ?_
  refine l_iconst (v := nI 3) dL_law_334 (by decide +kernel) ?_
  refine l_iadd dL_law_335 ?_
  refine l_sld dL_law_336 (hv 3 (by decide)) ?_
  refine l_callC (y' := mX5_price) (As := [.int (xs (nI i + nI 1).toNatClampNeg), .int (xs (nI i + nI 2).toNatClampNeg), .int (xs (nI i + nI 3).toNatClampNeg)]) (st := []) (d := 0 + 4) dL_law_337 lkL_45 okX5_price imX5_price seX5_price rfl rfl rfl (Nat.le_of_ble_eq_true rfl) (Nat.le_of_ble_eq_true rfl) (by omega) (c_price (kz z adC 117) 0 t n mm (A2 5) un (rwK (A2 6)) kn (rwK (A2 7)) (xs (nI i + nI 1).toNatClampNeg) (xs (nI i + nI 2).toNatClampNeg) (xs (nI i + nI 3).toNatClampNeg) F1 A1 hC hS hw.1) (fun v F' A' hw1 => ?_)
  obtain ⟨x', o, rfl, hac, hB', e1, hSo⟩ := hw1
  refine l_pop dL_law_340 rfl ?_
  refine l_aload_n (j := 1) dL_law_341 rfl ?_
  refine l_aload_n (j := 3) dL_law_342 rfl ?_
  refine l_iload_n (j := 0) dL_law_343 rfl ?_
  refine l_iconst (v := nI 1) dL_law_344 (by decide +kernel) ?_
  refine l_iadd dL_law_345 ?_
  refine l_sld dL_law_346 (hv 1 (by decide)) ?_
  refine l_aload_n (j := 3) dL_law_347 rfl ?_
  refine l_iload_n (j := 0) dL_law_348 rfl ?_
  refine l_iconst (v := nI 2) dL_law_349 (by decide +kernel) ?_
  refine l_iadd dL_law_350 ?_
  refine l_sld dL_law_351 (hv 2 (by decide)) ?_
  refine l_aload_n (j := 3) dL_law_352 rfl ?_
  refine l_iload_n (j := 0) dL_law_353 rfl ?_
  refine l_iconst (v := nI 3) dL_law_354 (by decide +kernel) ?_
  refine l_iadd dL_law_355 ?_
  refine l_sld dL_law_356 (hv 3 (by decide)) ?_
  refine l_callM (y' := mX6_price) (As := [.int (xs (nI i + nI 1).toNatClampNeg), .int (xs (nI i + nI 2).toNatClampNeg), .int (xs (nI i + nI 3).toNatClampNeg)]) (st := []) (d := 0 + 3) dL_law_357 lkL_49 okX6_price imX6_price seX6_price rfl rfl rfl (Nat.le_of_ble_eq_true rfl) (Nat.le_of_ble_eq_true rfl) (by omega) (m_price (kz z adM 18) 0 (t, A2) n mm rn rm un kn (xs (nI i + nI 1).toNatClampNeg) (xs (nI i + nI 2).toNatClampNeg) (xs (nI i + nI 3).toNatClampNeg) F2 A2 hM0) (fun v F'' A'' hw2 => ?_)
  obtain ⟨y', o2, rfl, hac2, g1, g7, hMo⟩ := hw2
  have hoo := hac.symm.trans hac2
  have hxy : y' = x' := (congrArg Prod.fst hoo).symm
  obtain rfl : o = o2 := congrArg Prod.snd hoo
  have hLR := LR.act hw hun hx hB' e1 hSo g1 g7 hMo (fun row' e => acPrice_wr hw.1 (by rw [hac, e]))
  refine l_pop dL_law_360 rfl ?_
  refine l_goto (tgt := 779) dL_law_361 (by decide) ?_
  exact hend _ _ _ _ hLR
set_option maxHeartbeats 1000000 in
theorem law_c8 (z : mj_B) (adC adM : Nat → Nat) (b L : Nat) (xs : Nat → Int32) (i : Nat) (hv : ∀ k, k < 6 → vp_in (nI i + nI k) L) (hend : ∀ F1 A1 F2 A2, LR F1 A1 F2 A2 → Lj z adC adM b L xs 779 (lvL adC adM b i) [] F1 A1 F2 A2) (F1 A1 F2 A2 : mj_S) (hR : LR F1 A1 F2 A2) : Lj z adC adM b L xs 364 (lvL adC adM b i) [] F1 A1 F2 A2 := by
  obtain ⟨t, n, mm, rn, rm, un, kn, hC, hM0, hS, hw, hx⟩ := hR
  have hT := hC.1.2
  have hkn := hM0.2.2.2.2.1.2
  have hun := hM0.2.2.2.1.2
  refine l_aload_n (j := 2) dL_law_364 rfl ?_
  refine l_aload_n (j := 3) dL_law_365 rfl ?_
  refine l_iload_n (j := 0) dL_law_366 rfl ?_
  refine l_iconst (v := nI 1) dL_law_367 (by decide +kernel) ?_
  refine l_iadd dL_law_368 ?_
  refine l_sld dL_law_369 (hv 1 (by decide)) ?_
  refine l_aload_n (j := 3) dL_law_370 rfl ?_
  refine l_iload_n (j := 0) dL_law_371 rfl ?_
  refine l_iconst (v := nI 2) dL_law_372 (by decide +kernel) ?_
  refine l_iadd dL_law_373 ?_
  refine l_sld dL_law_374 (hv 2 (by decide)) ?_
  refine l_aload_n (j := 3) dL_law_375 rfl ?_
  refine l_iload_n (j := 0) dL_law_376 rfl ?_
  refine l_iconst (v := nI 3) dL_law_377 (by decide +kernel) ?_
  refine l_iadd dL_law_378 ?_
  refine l_sld dL_law_379 (hv 3 (by decide)) ?_
  refine l_aload_n (j := 3) dL_law_380 rfl ?_
  refine l_iload_n (j := 0) dL_law_381 rfl ?_
  refine l_iconst (v := nI 4) dL_law_382 (by decide +kernel) ?_
  refine l_iadd dL_law_383 ?_
  refine l_sld dL_law_384 (hv 4 (by decide)) ?_
  refine l_aload_n (j := 3) dL_law_385 rfl ?_
  refine l_iload_n (j := 0) dL_law_386 rfl ?_
  refine l_iconst (v := nI 5) dL_law_387 (by decide +kernel) ?_
  refine l_iadd dL_law_388 ?_
  refine l_sld dL_law_389 (hv 5 (by decide)) ?_
  refine l_callC (y' := mX5_table) (As := [.int (xs (nI i + nI 1).toNatClampNeg), .int (xs (nI i + nI 2).toNatClampNeg), .int (xs (nI i + nI 3).toNatClampNeg), .int (xs (nI i + nI 4).toNatClampNeg), .int (xs (nI i + nI 5).toNatClampNeg)]) (st := []) (d := 0 + 4) dL_law_390 lkL_50 okX5_table imX5_table seX5_table rfl rfl rfl (Nat.le_of_ble_eq_true rfl) (Nat.le_of_ble_eq_true rfl) (by omega) (c_table (kz z adC 117) 0 t n mm (A2 5) un (rwK (A2 6)) kn (rwK (A2 7)) (xs (nI i + nI 1).toNatClampNeg) (xs (nI i + nI 2).toNatClampNeg) (xs (nI i + nI 3).toNatClampNeg) (xs (nI i + nI 4).toNatClampNeg) (xs (nI i + nI 5).toNatClampNeg) F1 A1 hC hS hw.1) (fun v F' A' hw1 => ?_)
  obtain ⟨x', o, rfl, hac, hB', e1, hSo⟩ := hw1
  refine l_pop dL_law_393 rfl ?_
  refine l_aload_n (j := 1) dL_law_394 rfl ?_
  refine l_aload_n (j := 3) dL_law_395 rfl ?_
  refine l_iload_n (j := 0) dL_law_396 rfl ?_
  refine l_iconst (v := nI 1) dL_law_397 (by decide +kernel) ?_
  refine l_iadd dL_law_398 ?_
  refine l_sld dL_law_399 (hv 1 (by decide)) ?_
  refine l_aload_n (j := 3) dL_law_400 rfl ?_
  refine l_iload_n (j := 0) dL_law_401 rfl ?_
  refine l_iconst (v := nI 2) dL_law_402 (by decide +kernel) ?_
  refine l_iadd dL_law_403 ?_
  refine l_sld dL_law_404 (hv 2 (by decide)) ?_
  refine l_aload_n (j := 3) dL_law_405 rfl ?_
  refine l_iload_n (j := 0) dL_law_406 rfl ?_
  refine l_iconst (v := nI 3) dL_law_407 (by decide +kernel) ?_
  refine l_iadd dL_law_408 ?_
  refine l_sld dL_law_409 (hv 3 (by decide)) ?_
  refine l_aload_n (j := 3) dL_law_410 rfl ?_
  refine l_iload_n (j := 0) dL_law_411 rfl ?_
  refine l_iconst (v := nI 4) dL_law_412 (by decide +kernel) ?_
  refine l_iadd dL_law_413 ?_
  refine l_sld dL_law_414 (hv 4 (by decide)) ?_
  refine l_aload_n (j := 3) dL_law_415 rfl ?_
  refine l_iload_n (j := 0) dL_law_416 rfl ?_
  refine l_iconst (v := nI 5) dL_law_417 (by decide +kernel) ?_
  refine l_iadd dL_law_418 ?_
  refine l_sld dL_law_419 (hv 5 (by decide)) ?_
  refine l_callM (y' := mX6_table) (As := [.int (xs (nI i + nI 1).toNatClampNeg), .int (xs (nI i + nI 2).toNatClampNeg), .int (xs (nI i + nI 3).toNatClampNeg), .int (xs (nI i + nI 4).toNatClampNeg), .int (xs (nI i + nI 5).toNatClampNeg)]) (st := []) (d := 0 + 3) dL_law_420 lkL_54 okX6_table imX6_table seX6_table rfl rfl rfl (Nat.le_of_ble_eq_true rfl) (Nat.le_of_ble_eq_true rfl) (by omega) (m_table (kz z adM 18) 0 (t, A2) n mm rn rm un kn (xs (nI i + nI 1).toNatClampNeg) (xs (nI i + nI 2).toNatClampNeg) (xs (nI i + nI 3).toNatClampNeg) (xs (nI i + nI 4).toNatClampNeg) (xs (nI i + nI 5).toNatClampNeg) F2 A2 hM0) (fun v F'' A'' hw2 => ?_)
  obtain ⟨y', o2, rfl, hac2, g1, g7, hMo⟩ := hw2
  have hoo := hac.symm.trans hac2
  have hxy : y' = x' := (congrArg Prod.fst hoo).symm
  obtain rfl : o = o2 := congrArg Prod.snd hoo
  have hLR := LR.act hw hun hx hB' e1 hSo g1 g7 hMo (fun row' e => acTable_wr hw.1 (by rw [hac, e]))
  refine l_pop dL_law_423 rfl ?_
  refine l_goto (tgt := 779) dL_law_424 (by decide) ?_
  exact hend _ _ _ _ hLR
set_option maxHeartbeats 1000000 in
theorem law_c9 (z : mj_B) (adC adM : Nat → Nat) (b L : Nat) (xs : Nat → Int32) (i : Nat) (hv : ∀ k, k < 6 → vp_in (nI i + nI k) L) (hend : ∀ F1 A1 F2 A2, LR F1 A1 F2 A2 → Lj z adC adM b L xs 779 (lvL adC adM b i) [] F1 A1 F2 A2) (F1 A1 F2 A2 : mj_S) (hR : LR F1 A1 F2 A2) : Lj z adC adM b L xs 427 (lvL adC adM b i) [] F1 A1 F2 A2 := by
  obtain ⟨t, n, mm, rn, rm, un, kn, hC, hM0, hS, hw, hx⟩ := hR
  have hT := hC.1.2
  have hkn := hM0.2.2.2.2.1.2
  have hun := hM0.2.2.2.1.2
  refine l_aload_n (j := 2) dL_law_427 rfl ?_
  refine l_aload_n (j := 3) dL_law_428 rfl ?_
  refine l_iload_n (j := 0) dL_law_429 rfl ?_
  refine l_iconst (v := nI 1) dL_law_430 (by decide +kernel) ?_
  refine l_iadd dL_law_431 ?_
  refine l_sld dL_law_432 (hv 1 (by decide)) ?_
  refine l_aload_n (j := 3) dL_law_433 rfl ?_
  refine l_iload_n (j := 0) dL_law_434 rfl ?_
  refine l_iconst (v := nI 2) dL_law_435 (by decide +kernel) ?_
  refine l_iadd dL_law_436 ?_
  refine l_sld dL_law_437 (hv 2 (by decide)) ?_
  refine l_callC (y' := mX5_loose) (As := [.int (xs (nI i + nI 1).toNatClampNeg), .int (xs (nI i + nI 2).toNatClampNeg)]) (st := []) (d := 0 + 4) dL_law_438 lkL_55 okX5_loose imX5_loose seX5_loose rfl rfl rfl (Nat.le_of_ble_eq_true rfl) (Nat.le_of_ble_eq_true rfl) (by omega) (c_loose (kz z adC 117) 0 t n mm (A2 5) un (rwK (A2 6)) kn (rwK (A2 7)) (xs (nI i + nI 1).toNatClampNeg) (xs (nI i + nI 2).toNatClampNeg) F1 A1 hC hS hw.1) (fun v F' A' hw1 => ?_)
  obtain ⟨x', o, rfl, hac, hB', e1, hSo⟩ := hw1
  refine l_pop dL_law_441 rfl ?_
  refine l_aload_n (j := 1) dL_law_442 rfl ?_
  refine l_aload_n (j := 3) dL_law_443 rfl ?_
  refine l_iload_n (j := 0) dL_law_444 rfl ?_
  refine l_iconst (v := nI 1) dL_law_445 (by decide +kernel) ?_
  refine l_iadd dL_law_446 ?_
  refine l_sld dL_law_447 (hv 1 (by decide)) ?_
  refine l_aload_n (j := 3) dL_law_448 rfl ?_
  refine l_iload_n (j := 0) dL_law_449 rfl ?_
  refine l_iconst (v := nI 2) dL_law_450 (by decide +kernel) ?_
  refine l_iadd dL_law_451 ?_
  refine l_sld dL_law_452 (hv 2 (by decide)) ?_
  refine l_callM (y' := mX6_loose) (As := [.int (xs (nI i + nI 1).toNatClampNeg), .int (xs (nI i + nI 2).toNatClampNeg)]) (st := []) (d := 0 + 3) dL_law_453 lkL_58 okX6_loose imX6_loose seX6_loose rfl rfl rfl (Nat.le_of_ble_eq_true rfl) (Nat.le_of_ble_eq_true rfl) (by omega) (m_loose (kz z adM 18) 0 (t, A2) n mm rn rm un kn (xs (nI i + nI 1).toNatClampNeg) (xs (nI i + nI 2).toNatClampNeg) F2 A2 hM0) (fun v F'' A'' hw2 => ?_)
  obtain ⟨y', o2, rfl, hac2, g1, g7, hMo⟩ := hw2
  have hoo := hac.symm.trans hac2
  subst hoo
  have hLR := LR.act hw hun hx hB' e1 hSo g1 g7 hMo (fun row' e => acLoose_wr hw.1 (hac.trans e))
  refine l_pop dL_law_456 rfl ?_
  refine l_goto (tgt := 779) dL_law_457 (by decide) ?_
  exact hend _ _ _ _ hLR
set_option maxHeartbeats 1000000 in
theorem law_c10 (z : mj_B) (adC adM : Nat → Nat) (b L : Nat) (xs : Nat → Int32) (i : Nat) (hv : ∀ k, k < 6 → vp_in (nI i + nI k) L) (hend : ∀ F1 A1 F2 A2, LR F1 A1 F2 A2 → Lj z adC adM b L xs 779 (lvL adC adM b i) [] F1 A1 F2 A2) (F1 A1 F2 A2 : mj_S) (hR : LR F1 A1 F2 A2) : Lj z adC adM b L xs 460 (lvL adC adM b i) [] F1 A1 F2 A2 := by
  obtain ⟨t, n, mm, rn, rm, un, kn, hC, hM0, hS, hw, hx⟩ := hR
  have hT := hC.1.2
  have hkn := hM0.2.2.2.2.1.2
  have hun := hM0.2.2.2.1.2
  refine l_aload_n (j := 2) dL_law_460 rfl ?_
  refine l_aload_n (j := 3) dL_law_461 rfl ?_
  refine l_iload_n (j := 0) dL_law_462 rfl ?_
  refine l_iconst (v := nI 1) dL_law_463 (by decide +kernel) ?_
  refine l_iadd dL_law_464 ?_
  refine l_sld dL_law_465 (hv 1 (by decide)) ?_
  refine l_aload_n (j := 3) dL_law_466 rfl ?_
  refine l_iload_n (j := 0) dL_law_467 rfl ?_
  refine l_iconst (v := nI 2) dL_law_468 (by decide +kernel) ?_
  refine l_iadd dL_law_469 ?_
  refine l_sld dL_law_470 (hv 2 (by decide)) ?_
  refine l_callC (y' := mX5_pin) (As := [.int (xs (nI i + nI 1).toNatClampNeg), .int (xs (nI i + nI 2).toNatClampNeg)]) (st := []) (d := 0 + 4) dL_law_471 lkL_59 okX5_pin imX5_pin seX5_pin rfl rfl rfl (Nat.le_of_ble_eq_true rfl) (Nat.le_of_ble_eq_true rfl) (by omega) (c_pin (kz z adC 117) 0 t n mm (A2 5) un (rwK (A2 6)) kn (rwK (A2 7)) (xs (nI i + nI 1).toNatClampNeg) (xs (nI i + nI 2).toNatClampNeg) F1 A1 hC hS hw.1) (fun v F' A' hw1 => ?_)
  obtain ⟨x', o, rfl, hac, hB', e1, hSo⟩ := hw1
  refine l_pop dL_law_474 rfl ?_
  refine l_aload_n (j := 1) dL_law_475 rfl ?_
  refine l_aload_n (j := 3) dL_law_476 rfl ?_
  refine l_iload_n (j := 0) dL_law_477 rfl ?_
  refine l_iconst (v := nI 1) dL_law_478 (by decide +kernel) ?_
  refine l_iadd dL_law_479 ?_
  refine l_sld dL_law_480 (hv 1 (by decide)) ?_
  refine l_aload_n (j := 3) dL_law_481 rfl ?_
  refine l_iload_n (j := 0) dL_law_482 rfl ?_
  refine l_iconst (v := nI 2) dL_law_483 (by decide +kernel) ?_
  refine l_iadd dL_law_484 ?_
  refine l_sld dL_law_485 (hv 2 (by decide)) ?_
  refine l_callM (y' := mX6_pin) (As := [.int (xs (nI i + nI 1).toNatClampNeg), .int (xs (nI i + nI 2).toNatClampNeg)]) (st := []) (d := 0 + 2) dL_law_486 lkL_62 okX6_pin imX6_pin seX6_pin rfl rfl rfl (Nat.le_of_ble_eq_true rfl) (Nat.le_of_ble_eq_true rfl) (by omega) (m_pin (kz z adM 18) 0 (t, A2) n mm rn rm un kn (xs (nI i + nI 1).toNatClampNeg) (xs (nI i + nI 2).toNatClampNeg) F2 A2 hM0 hw.1) (fun v F'' A'' hw2 => ?_)
  obtain ⟨y', o2, rfl, hac2, g1, g7, hMo⟩ := hw2
  have hoo := hac.symm.trans hac2
  have hxy : y' = x' := (congrArg Prod.fst hoo).symm
  obtain rfl : o = o2 := congrArg Prod.snd hoo
  have hLR := LR.act hw hun hx hB' e1 hSo g1 g7 hMo (fun row' e => acPin_wr hw.1 (by rw [hac, e]))
  refine l_pop dL_law_489 rfl ?_
  refine l_goto (tgt := 779) dL_law_490 (by decide) ?_
  exact hend _ _ _ _ hLR
set_option maxHeartbeats 1000000 in
theorem law_c11 (z : mj_B) (adC adM : Nat → Nat) (b L : Nat) (xs : Nat → Int32) (i : Nat) (hv : ∀ k, k < 6 → vp_in (nI i + nI k) L) (hend : ∀ F1 A1 F2 A2, LR F1 A1 F2 A2 → Lj z adC adM b L xs 779 (lvL adC adM b i) [] F1 A1 F2 A2) (F1 A1 F2 A2 : mj_S) (hR : LR F1 A1 F2 A2) : Lj z adC adM b L xs 493 (lvL adC adM b i) [] F1 A1 F2 A2 := by
  obtain ⟨t, n, mm, rn, rm, un, kn, hC, hM0, hS, hw, hx⟩ := hR
  have hT := hC.1.2
  have hkn := hM0.2.2.2.2.1.2
  have hun := hM0.2.2.2.1.2
  refine l_aload_n (j := 2) dL_law_493 rfl ?_
  refine l_aload_n (j := 3) dL_law_494 rfl ?_
  refine l_iload_n (j := 0) dL_law_495 rfl ?_
  refine l_iconst (v := nI 1) dL_law_496 (by decide +kernel) ?_
  refine l_iadd dL_law_497 ?_
  refine l_sld dL_law_498 (hv 1 (by decide)) ?_
  refine l_aload_n (j := 3) dL_law_499 rfl ?_
  refine l_iload_n (j := 0) dL_law_500 rfl ?_
  refine l_iconst (v := nI 2) dL_law_501 (by decide +kernel) ?_
  refine l_iadd dL_law_502 ?_
  refine l_sld dL_law_503 (hv 2 (by decide)) ?_
  refine l_callC (y' := mX5_rename) (As := [.int (xs (nI i + nI 1).toNatClampNeg), .int (xs (nI i + nI 2).toNatClampNeg)]) (st := []) (d := 0 + 4) dL_law_504 lkL_63 okX5_rename imX5_rename seX5_rename rfl rfl rfl (Nat.le_of_ble_eq_true rfl) (Nat.le_of_ble_eq_true rfl) (by omega) (c_rename (kz z adC 117) 0 t n mm (A2 5) un (rwK (A2 6)) kn (rwK (A2 7)) (xs (nI i + nI 1).toNatClampNeg) (xs (nI i + nI 2).toNatClampNeg) F1 A1 hC hS hw.1) (fun v F' A' hw1 => ?_)
  obtain ⟨x', o, rfl, hac, hB', e1, hSo⟩ := hw1
  refine l_aload_n (j := 1) dL_law_507 rfl ?_
  refine l_aload_n (j := 3) dL_law_508 rfl ?_
  refine l_iload_n (j := 0) dL_law_509 rfl ?_
  refine l_iconst (v := nI 1) dL_law_510 (by decide +kernel) ?_
  refine l_iadd dL_law_511 ?_
  refine l_sld dL_law_512 (hv 1 (by decide)) ?_
  refine l_aload_n (j := 3) dL_law_513 rfl ?_
  refine l_iload_n (j := 0) dL_law_514 rfl ?_
  refine l_iconst (v := nI 2) dL_law_515 (by decide +kernel) ?_
  refine l_iadd dL_law_516 ?_
  refine l_sld dL_law_517 (hv 2 (by decide)) ?_
  refine l_callM (y' := mX6_rename) (As := [.int (xs (nI i + nI 1).toNatClampNeg), .int (xs (nI i + nI 2).toNatClampNeg)]) (st := [.int x']) (d := 0 + 2) dL_law_518 lkL_66 okX6_rename imX6_rename seX6_rename rfl rfl rfl (Nat.le_of_ble_eq_true rfl) (Nat.le_of_ble_eq_true rfl) (by omega) (m_rename (kz z adM 18) 0 (t, A2) n mm rn rm un kn (xs (nI i + nI 1).toNatClampNeg) (xs (nI i + nI 2).toNatClampNeg) F2 A2 hM0) (fun v F'' A'' hw2 => ?_)
  obtain ⟨y', o2, rfl, hac2, g1, g7, hMo⟩ := hw2
  have hoo := hac.symm.trans hac2
  have hxy : y' = x' := (congrArg Prod.fst hoo).symm
  obtain rfl : o = o2 := congrArg Prod.snd hoo
  have hLR := LR.act hw hun hx hB' e1 hSo g1 g7 hMo (fun row' e => acRename_wr hw.1 (by rw [hac, e]))
  subst hxy
  refine l_eq (tgt := 779) dL_law_521 (by decide) ?_
  exact hend _ _ _ _ hLR
set_option maxHeartbeats 1000000 in
theorem law_c12 (z : mj_B) (adC adM : Nat → Nat) (b L : Nat) (xs : Nat → Int32) (i : Nat) (hv : ∀ k, k < 6 → vp_in (nI i + nI k) L) (hend : ∀ F1 A1 F2 A2, LR F1 A1 F2 A2 → Lj z adC adM b L xs 779 (lvL adC adM b i) [] F1 A1 F2 A2) (F1 A1 F2 A2 : mj_S) (hR : LR F1 A1 F2 A2) : Lj z adC adM b L xs 526 (lvL adC adM b i) [] F1 A1 F2 A2 := by
  obtain ⟨t, n, mm, rn, rm, un, kn, hC, hM0, hS, hw, hx⟩ := hR
  have hT := hC.1.2
  have hkn := hM0.2.2.2.2.1.2
  have hun := hM0.2.2.2.1.2
  refine l_aload_n (j := 2) dL_law_526 rfl ?_
  refine l_callC (y' := mX5_undo) (As := []) (st := []) (d := 0 + 3) dL_law_527 lkL_67 okX5_undo imX5_undo seX5_undo rfl rfl rfl (Nat.le_of_ble_eq_true rfl) (Nat.le_of_ble_eq_true rfl) (by omega) (c_undo (kz z adC 117) 0 t n mm (A2 5) un (rwK (A2 6)) kn (rwK (A2 7))  F1 A1 hC hS hw.1) (fun v F' A' hw1 => ?_)
  obtain ⟨x', rfl, hB', e1, hE⟩ := hw1
  refine l_pop dL_law_530 rfl ?_
  refine l_aload_n (j := 1) dL_law_531 rfl ?_
  refine l_callM (y' := mX6_undo) (As := []) (st := []) (d := 0) dL_law_532 lkL_70 okX6_undo imX6_undo seX6_undo rfl rfl rfl (Nat.le_of_ble_eq_true rfl) (Nat.le_of_ble_eq_true rfl) (by omega) (m_undo (kz z adM 18) 0 (t, A2) n mm rn rm un kn  F2 A2 hM0) (fun v F'' A'' hw2 => ?_)
  obtain ⟨y', un', rfl, hM', ⟨k1, k6, k7⟩, hE2⟩ := hw2
  obtain ⟨hxy, hLR⟩ : y' = x' ∧ LR F' A' F'' A'' := by
    have hx2 : ∀ j, j < t → A' 1 j = A'' 1 j := fun j hj => by rw [e1, k1]; exact hx j hj
    rcases hE with ⟨g1, g2, g3⟩ | ⟨g1, g2, g3⟩ <;> rcases hE2 with ⟨q1, q2, q3, q4⟩ | ⟨q1, q2, q3, q4⟩ <;> first | (exfalso; omega) | skip
    · subst q3; exact ⟨by rw [g2, q2], t, n, mm, rn, rm, un', kn, hB', hM', by rw [q4, k6, k7]; exact g3, by rw [q4, k6, k7]; exact hw, hx2⟩
    · subst q3; exact ⟨by rw [g2, q2], t, n, mm, rn, rm, un - 1, kn, hB', hM', g3.rows (fun _ _ => rfl) q4 (fun k j _ _ => by rw [k6]) (fun k j _ _ => by rw [k7]), ⟨(hw.2.1 (un - 1) (by omega)).cg (fun _ _ => rfl) q4, fun k hk => by rw [k6]; exact hw.2.1 k (by omega), fun k hk => by rw [k7]; exact hw.2.2 k hk⟩, hx2⟩
  refine l_pop dL_law_535 rfl ?_
  refine l_goto (tgt := 779) dL_law_536 (by decide) ?_
  exact hend _ _ _ _ hLR
set_option maxHeartbeats 1000000 in
theorem law_c13 (z : mj_B) (adC adM : Nat → Nat) (b L : Nat) (xs : Nat → Int32) (i : Nat) (hv : ∀ k, k < 6 → vp_in (nI i + nI k) L) (hend : ∀ F1 A1 F2 A2, LR F1 A1 F2 A2 → Lj z adC adM b L xs 779 (lvL adC adM b i) [] F1 A1 F2 A2) (F1 A1 F2 A2 : mj_S) (hR : LR F1 A1 F2 A2) : Lj z adC adM b L xs 539 (lvL adC adM b i) [] F1 A1 F2 A2 := by
  obtain ⟨t, n, mm, rn, rm, un, kn, hC, hM0, hS, hw, hx⟩ := hR
  have hT := hC.1.2
  have hkn := hM0.2.2.2.2.1.2
  have hun := hM0.2.2.2.1.2
  refine l_aload_n (j := 2) dL_law_539 rfl ?_
  refine l_aload_n (j := 3) dL_law_540 rfl ?_
  refine l_iload_n (j := 0) dL_law_541 rfl ?_
  refine l_iconst (v := nI 1) dL_law_542 (by decide +kernel) ?_
  refine l_iadd dL_law_543 ?_
  refine l_sld dL_law_544 (hv 1 (by decide)) ?_
  refine l_aload_n (j := 3) dL_law_545 rfl ?_
  refine l_iload_n (j := 0) dL_law_546 rfl ?_
  refine l_iconst (v := nI 2) dL_law_547 (by decide +kernel) ?_
  refine l_iadd dL_law_548 ?_
  refine l_sld dL_law_549 (hv 2 (by decide)) ?_
  refine l_callC (y' := mX5_turn) (As := [.int (xs (nI i + nI 1).toNatClampNeg), .int (xs (nI i + nI 2).toNatClampNeg)]) (st := []) (d := 0 + 7) dL_law_550 lkL_71 okX5_turn imX5_turn seX5_turn rfl rfl rfl (Nat.le_of_ble_eq_true rfl) (Nat.le_of_ble_eq_true rfl) (by omega) (c_turn (kz z adC 117) 0 (t, F1, A1) (xs (nI i + nI 1).toNatClampNeg) (xs (nI i + nI 2).toNatClampNeg) F1 A1 hC.c) (fun v F' A' hw1 => ?_)
  obtain ⟨x', rfl, hC2⟩ := hw1
  refine l_pop dL_law_553 rfl ?_
  refine l_aload_n (j := 1) dL_law_554 rfl ?_
  refine l_aload_n (j := 3) dL_law_555 rfl ?_
  refine l_iload_n (j := 0) dL_law_556 rfl ?_
  refine l_iconst (v := nI 1) dL_law_557 (by decide +kernel) ?_
  refine l_iadd dL_law_558 ?_
  refine l_sld dL_law_559 (hv 1 (by decide)) ?_
  refine l_aload_n (j := 3) dL_law_560 rfl ?_
  refine l_iload_n (j := 0) dL_law_561 rfl ?_
  refine l_iconst (v := nI 2) dL_law_562 (by decide +kernel) ?_
  refine l_iadd dL_law_563 ?_
  refine l_sld dL_law_564 (hv 2 (by decide)) ?_
  refine l_callM (y' := mX6_turn) (As := [.int (xs (nI i + nI 1).toNatClampNeg), .int (xs (nI i + nI 2).toNatClampNeg)]) (st := []) (d := 0 + 4) dL_law_565 lkL_74 okX6_turn imX6_turn seX6_turn rfl rfl rfl (Nat.le_of_ble_eq_true rfl) (Nat.le_of_ble_eq_true rfl) (by omega) (m_turn (kz z adM 18) 0 (t, A2) n mm rn rm un kn (xs (nI i + nI 1).toNatClampNeg) (xs (nI i + nI 2).toNatClampNeg) F2 A2 hM0) (fun v F'' A'' hw2 => ?_)
  obtain ⟨y', rfl, hM'⟩ := hw2
  have hLR := LR.ro' hS hw hx hC2 hM'
  refine l_pop dL_law_568 rfl ?_
  refine l_goto (tgt := 779) dL_law_569 (by decide) ?_
  exact hend _ _ _ _ hLR
set_option maxHeartbeats 1000000 in
theorem law_c14 (z : mj_B) (adC adM : Nat → Nat) (b L : Nat) (xs : Nat → Int32) (i : Nat) (hv : ∀ k, k < 6 → vp_in (nI i + nI k) L) (hend : ∀ F1 A1 F2 A2, LR F1 A1 F2 A2 → Lj z adC adM b L xs 779 (lvL adC adM b i) [] F1 A1 F2 A2) (F1 A1 F2 A2 : mj_S) (hR : LR F1 A1 F2 A2) : Lj z adC adM b L xs 572 (lvL adC adM b i) [] F1 A1 F2 A2 := by
  obtain ⟨t, n, mm, rn, rm, un, kn, hC, hM0, hS, hw, hx⟩ := hR
  have hT := hC.1.2
  have hkn := hM0.2.2.2.2.1.2
  have hun := hM0.2.2.2.1.2
  refine l_aload_n (j := 2) dL_law_572 rfl ?_
  refine l_aload_n (j := 3) dL_law_573 rfl ?_
  refine l_iload_n (j := 0) dL_law_574 rfl ?_
  refine l_iconst (v := nI 1) dL_law_575 (by decide +kernel) ?_
  refine l_iadd dL_law_576 ?_
  refine l_sld dL_law_577 (hv 1 (by decide)) ?_
  refine l_callC (y' := mX5_reduced) (As := [.int (xs (nI i + nI 1).toNatClampNeg)]) (st := []) (d := 0 + 7) dL_law_578 lkL_75 okX5_reduced imX5_reduced seX5_reduced rfl rfl rfl (Nat.le_of_ble_eq_true rfl) (Nat.le_of_ble_eq_true rfl) (by omega) (c_reduced (kz z adC 117) 0 (t, F1, A1) (xs (nI i + nI 1).toNatClampNeg) F1 A1 hC.c) (fun v F' A' hw1 => ?_)
  obtain ⟨x', rfl, hC2⟩ := hw1
  refine l_pop dL_law_581 rfl ?_
  refine l_aload_n (j := 1) dL_law_582 rfl ?_
  refine l_aload_n (j := 3) dL_law_583 rfl ?_
  refine l_iload_n (j := 0) dL_law_584 rfl ?_
  refine l_iconst (v := nI 1) dL_law_585 (by decide +kernel) ?_
  refine l_iadd dL_law_586 ?_
  refine l_sld dL_law_587 (hv 1 (by decide)) ?_
  refine l_callM (y' := mX6_reduced) (As := [.int (xs (nI i + nI 1).toNatClampNeg)]) (st := []) (d := 0 + 4) dL_law_588 lkL_78 okX6_reduced imX6_reduced seX6_reduced rfl rfl rfl (Nat.le_of_ble_eq_true rfl) (Nat.le_of_ble_eq_true rfl) (by omega) (m_reduced (kz z adM 18) 0 (t, A2) n mm rn rm un kn (xs (nI i + nI 1).toNatClampNeg) F2 A2 hM0) (fun v F'' A'' hw2 => ?_)
  obtain ⟨y', rfl, hM'⟩ := hw2
  have hLR := LR.ro' hS hw hx hC2 hM'
  refine l_pop dL_law_591 rfl ?_
  refine l_goto (tgt := 779) dL_law_592 (by decide) ?_
  exact hend _ _ _ _ hLR
set_option maxHeartbeats 1000000 in
theorem law_c15 (z : mj_B) (adC adM : Nat → Nat) (b L : Nat) (xs : Nat → Int32) (i : Nat) (hv : ∀ k, k < 6 → vp_in (nI i + nI k) L) (hend : ∀ F1 A1 F2 A2, LR F1 A1 F2 A2 → Lj z adC adM b L xs 779 (lvL adC adM b i) [] F1 A1 F2 A2) (F1 A1 F2 A2 : mj_S) (hR : LR F1 A1 F2 A2) : Lj z adC adM b L xs 595 (lvL adC adM b i) [] F1 A1 F2 A2 := by
  obtain ⟨t, n, mm, rn, rm, un, kn, hC, hM0, hS, hw, hx⟩ := hR
  have hT := hC.1.2
  have hkn := hM0.2.2.2.2.1.2
  have hun := hM0.2.2.2.1.2
  refine l_aload_n (j := 2) dL_law_595 rfl ?_
  refine l_aload_n (j := 3) dL_law_596 rfl ?_
  refine l_iload_n (j := 0) dL_law_597 rfl ?_
  refine l_iconst (v := nI 1) dL_law_598 (by decide +kernel) ?_
  refine l_iadd dL_law_599 ?_
  refine l_sld dL_law_600 (hv 1 (by decide)) ?_
  refine l_callC (y' := mX5_plan) (As := [.int (xs (nI i + nI 1).toNatClampNeg)]) (st := []) (d := 0 + 7) dL_law_601 lkL_79 okX5_plan imX5_plan seX5_plan rfl rfl rfl (Nat.le_of_ble_eq_true rfl) (Nat.le_of_ble_eq_true rfl) (by omega) (c_plan (kz z adC 117) 0 (t, F1, A1) (xs (nI i + nI 1).toNatClampNeg) F1 A1 hC.c) (fun v F' A' hw1 => ?_)
  obtain ⟨x', rfl, hC2⟩ := hw1
  refine l_pop dL_law_604 rfl ?_
  refine l_aload_n (j := 1) dL_law_605 rfl ?_
  refine l_aload_n (j := 3) dL_law_606 rfl ?_
  refine l_iload_n (j := 0) dL_law_607 rfl ?_
  refine l_iconst (v := nI 1) dL_law_608 (by decide +kernel) ?_
  refine l_iadd dL_law_609 ?_
  refine l_sld dL_law_610 (hv 1 (by decide)) ?_
  refine l_callM (y' := mX6_plan) (As := [.int (xs (nI i + nI 1).toNatClampNeg)]) (st := []) (d := 0 + 4) dL_law_611 lkL_82 okX6_plan imX6_plan seX6_plan rfl rfl rfl (Nat.le_of_ble_eq_true rfl) (Nat.le_of_ble_eq_true rfl) (by omega) (m_plan (kz z adM 18) 0 (t, A2) n mm rn rm un kn (xs (nI i + nI 1).toNatClampNeg) F2 A2 hM0) (fun v F'' A'' hw2 => ?_)
  obtain ⟨y', rfl, hM'⟩ := hw2
  have hLR := LR.ro' hS hw hx hC2 hM'
  refine l_pop dL_law_614 rfl ?_
  refine l_goto (tgt := 779) dL_law_615 (by decide) ?_
  exact hend _ _ _ _ hLR
set_option maxHeartbeats 1000000 in
theorem law_c16 (z : mj_B) (adC adM : Nat → Nat) (b L : Nat) (xs : Nat → Int32) (i : Nat) (hv : ∀ k, k < 6 → vp_in (nI i + nI k) L) (hend : ∀ F1 A1 F2 A2, LR F1 A1 F2 A2 → Lj z adC adM b L xs 779 (lvL adC adM b i) [] F1 A1 F2 A2) (F1 A1 F2 A2 : mj_S) (hR : LR F1 A1 F2 A2) : Lj z adC adM b L xs 618 (lvL adC adM b i) [] F1 A1 F2 A2 := by
  obtain ⟨t, n, mm, rn, rm, un, kn, hC, hM0, hS, hw, hx⟩ := hR
  have hT := hC.1.2
  have hkn := hM0.2.2.2.2.1.2
  have hun := hM0.2.2.2.1.2
  refine l_aload_n (j := 2) dL_law_618 rfl ?_
  refine l_aload_n (j := 3) dL_law_619 rfl ?_
  refine l_iload_n (j := 0) dL_law_620 rfl ?_
  refine l_iconst (v := nI 1) dL_law_621 (by decide +kernel) ?_
  refine l_iadd dL_law_622 ?_
  refine l_sld dL_law_623 (hv 1 (by decide)) ?_
  refine l_callC (y' := mX5_least) (As := [.int (xs (nI i + nI 1).toNatClampNeg)]) (st := []) (d := 0 + 14) dL_law_624 lkL_83 okX5_least imX5_least seX5_least rfl rfl rfl (Nat.le_of_ble_eq_true rfl) (Nat.le_of_ble_eq_true rfl) (by omega) (c_least (kz z adC 117) 0 (t, F1, A1) (xs (nI i + nI 1).toNatClampNeg) F1 A1 hC.c) (fun v F' A' hw1 => ?_)
  obtain ⟨x', rfl, hC2⟩ := hw1
  refine l_pop dL_law_627 rfl ?_
  refine l_aload_n (j := 1) dL_law_628 rfl ?_
  refine l_aload_n (j := 3) dL_law_629 rfl ?_
  refine l_iload_n (j := 0) dL_law_630 rfl ?_
  refine l_iconst (v := nI 1) dL_law_631 (by decide +kernel) ?_
  refine l_iadd dL_law_632 ?_
  refine l_sld dL_law_633 (hv 1 (by decide)) ?_
  refine l_callM (y' := mX6_least) (As := [.int (xs (nI i + nI 1).toNatClampNeg)]) (st := []) (d := 0 + 4) dL_law_634 lkL_86 okX6_least imX6_least seX6_least rfl rfl rfl (Nat.le_of_ble_eq_true rfl) (Nat.le_of_ble_eq_true rfl) (by omega) (m_least (kz z adM 18) 0 (t, A2) n mm rn rm un kn (xs (nI i + nI 1).toNatClampNeg) F2 A2 hM0) (fun v F'' A'' hw2 => ?_)
  obtain ⟨y', rfl, hM'⟩ := hw2
  have hLR := LR.ro' hS hw hx hC2 hM'
  refine l_pop dL_law_637 rfl ?_
  refine l_goto (tgt := 779) dL_law_638 (by decide) ?_
  exact hend _ _ _ _ hLR
set_option maxHeartbeats 1000000 in
theorem law_c17 (z : mj_B) (adC adM : Nat → Nat) (b L : Nat) (xs : Nat → Int32) (i : Nat) (hv : ∀ k, k < 6 → vp_in (nI i + nI k) L) (hend : ∀ F1 A1 F2 A2, LR F1 A1 F2 A2 → Lj z adC adM b L xs 779 (lvL adC adM b i) [] F1 A1 F2 A2) (F1 A1 F2 A2 : mj_S) (hR : LR F1 A1 F2 A2) : Lj z adC adM b L xs 641 (lvL adC adM b i) [] F1 A1 F2 A2 := by
  obtain ⟨t, n, mm, rn, rm, un, kn, hC, hM0, hS, hw, hx⟩ := hR
  have hT := hC.1.2
  have hkn := hM0.2.2.2.2.1.2
  have hun := hM0.2.2.2.1.2
  refine l_aload_n (j := 2) dL_law_641 rfl ?_
  refine l_aload_n (j := 3) dL_law_642 rfl ?_
  refine l_iload_n (j := 0) dL_law_643 rfl ?_
  refine l_iconst (v := nI 1) dL_law_644 (by decide +kernel) ?_
  refine l_iadd dL_law_645 ?_
  refine l_sld dL_law_646 (hv 1 (by decide)) ?_
  refine l_callC (y' := mX5_first) (As := [.int (xs (nI i + nI 1).toNatClampNeg)]) (st := []) (d := 0 + 14) dL_law_647 lkL_87 okX5_first imX5_first seX5_first rfl rfl rfl (Nat.le_of_ble_eq_true rfl) (Nat.le_of_ble_eq_true rfl) (by omega) (c_first (kz z adC 117) 0 (t, F1, A1) (xs (nI i + nI 1).toNatClampNeg) F1 A1 hC.c) (fun v F' A' hw1 => ?_)
  obtain ⟨x', rfl, hC2⟩ := hw1
  refine l_pop dL_law_650 rfl ?_
  refine l_aload_n (j := 1) dL_law_651 rfl ?_
  refine l_aload_n (j := 3) dL_law_652 rfl ?_
  refine l_iload_n (j := 0) dL_law_653 rfl ?_
  refine l_iconst (v := nI 1) dL_law_654 (by decide +kernel) ?_
  refine l_iadd dL_law_655 ?_
  refine l_sld dL_law_656 (hv 1 (by decide)) ?_
  refine l_callM (y' := mX6_first) (As := [.int (xs (nI i + nI 1).toNatClampNeg)]) (st := []) (d := 0 + 4) dL_law_657 lkL_90 okX6_first imX6_first seX6_first rfl rfl rfl (Nat.le_of_ble_eq_true rfl) (Nat.le_of_ble_eq_true rfl) (by omega) (m_first (kz z adM 18) 0 (t, A2) n mm rn rm un kn (xs (nI i + nI 1).toNatClampNeg) F2 A2 hM0) (fun v F'' A'' hw2 => ?_)
  obtain ⟨y', rfl, hM'⟩ := hw2
  have hLR := LR.ro' hS hw hx hC2 hM'
  refine l_pop dL_law_660 rfl ?_
  refine l_goto (tgt := 779) dL_law_661 (by decide) ?_
  exact hend _ _ _ _ hLR
set_option maxHeartbeats 1000000 in
theorem law_c18 (z : mj_B) (adC adM : Nat → Nat) (b L : Nat) (xs : Nat → Int32) (i : Nat) (hv : ∀ k, k < 6 → vp_in (nI i + nI k) L) (hend : ∀ F1 A1 F2 A2, LR F1 A1 F2 A2 → Lj z adC adM b L xs 779 (lvL adC adM b i) [] F1 A1 F2 A2) (F1 A1 F2 A2 : mj_S) (hR : LR F1 A1 F2 A2) : Lj z adC adM b L xs 664 (lvL adC adM b i) [] F1 A1 F2 A2 := by
  obtain ⟨t, n, mm, rn, rm, un, kn, hC, hM0, hS, hw, hx⟩ := hR
  have hT := hC.1.2
  have hkn := hM0.2.2.2.2.1.2
  have hun := hM0.2.2.2.1.2
  refine l_aload_n (j := 2) dL_law_664 rfl ?_
  refine l_aload_n (j := 3) dL_law_665 rfl ?_
  refine l_iload_n (j := 0) dL_law_666 rfl ?_
  refine l_iconst (v := nI 1) dL_law_667 (by decide +kernel) ?_
  refine l_iadd dL_law_668 ?_
  refine l_sld dL_law_669 (hv 1 (by decide)) ?_
  refine l_aload_n (j := 3) dL_law_670 rfl ?_
  refine l_iload_n (j := 0) dL_law_671 rfl ?_
  refine l_iconst (v := nI 2) dL_law_672 (by decide +kernel) ?_
  refine l_iadd dL_law_673 ?_
  refine l_sld dL_law_674 (hv 2 (by decide)) ?_
  refine l_callC (y' := mX5_with) (As := [.int (xs (nI i + nI 1).toNatClampNeg), .int (xs (nI i + nI 2).toNatClampNeg)]) (st := []) (d := 0 + 13) dL_law_675 lkL_91 okX5_with imX5_with seX5_with rfl rfl rfl (Nat.le_of_ble_eq_true rfl) (Nat.le_of_ble_eq_true rfl) (by omega) (c_with (kz z adC 117) 0 (t, F1, A1) (xs (nI i + nI 1).toNatClampNeg) (xs (nI i + nI 2).toNatClampNeg) F1 A1 hC.c) (fun v F' A' hw1 => ?_)
  obtain ⟨x', rfl, hC2⟩ := hw1
  refine l_pop dL_law_678 rfl ?_
  refine l_aload_n (j := 1) dL_law_679 rfl ?_
  refine l_aload_n (j := 3) dL_law_680 rfl ?_
  refine l_iload_n (j := 0) dL_law_681 rfl ?_
  refine l_iconst (v := nI 1) dL_law_682 (by decide +kernel) ?_
  refine l_iadd dL_law_683 ?_
  refine l_sld dL_law_684 (hv 1 (by decide)) ?_
  refine l_aload_n (j := 3) dL_law_685 rfl ?_
  refine l_iload_n (j := 0) dL_law_686 rfl ?_
  refine l_iconst (v := nI 2) dL_law_687 (by decide +kernel) ?_
  refine l_iadd dL_law_688 ?_
  refine l_sld dL_law_689 (hv 2 (by decide)) ?_
  refine l_callM (y' := mX6_with) (As := [.int (xs (nI i + nI 1).toNatClampNeg), .int (xs (nI i + nI 2).toNatClampNeg)]) (st := []) (d := 0 + 4) dL_law_690 lkL_94 okX6_with imX6_with seX6_with rfl rfl rfl (Nat.le_of_ble_eq_true rfl) (Nat.le_of_ble_eq_true rfl) (by omega) (m_with (kz z adM 18) 0 (t, A2) n mm rn rm un kn (xs (nI i + nI 1).toNatClampNeg) (xs (nI i + nI 2).toNatClampNeg) F2 A2 hM0) (fun v F'' A'' hw2 => ?_)
  obtain ⟨y', rfl, hM'⟩ := hw2
  have hLR := LR.ro' hS hw hx hC2 hM'
  refine l_pop dL_law_693 rfl ?_
  refine l_goto (tgt := 779) dL_law_694 (by decide) ?_
  exact hend _ _ _ _ hLR
set_option maxHeartbeats 1000000 in
theorem law_c19 (z : mj_B) (adC adM : Nat → Nat) (b L : Nat) (xs : Nat → Int32) (i : Nat) (hv : ∀ k, k < 6 → vp_in (nI i + nI k) L) (hend : ∀ F1 A1 F2 A2, LR F1 A1 F2 A2 → Lj z adC adM b L xs 779 (lvL adC adM b i) [] F1 A1 F2 A2) (F1 A1 F2 A2 : mj_S) (hR : LR F1 A1 F2 A2) : Lj z adC adM b L xs 697 (lvL adC adM b i) [] F1 A1 F2 A2 := by
  obtain ⟨t, n, mm, rn, rm, un, kn, hC, hM0, hS, hw, hx⟩ := hR
  have hT := hC.1.2
  have hkn := hM0.2.2.2.2.1.2
  have hun := hM0.2.2.2.1.2
  refine l_aload_n (j := 2) dL_law_697 rfl ?_
  refine l_aload_n (j := 3) dL_law_698 rfl ?_
  refine l_iload_n (j := 0) dL_law_699 rfl ?_
  refine l_iconst (v := nI 1) dL_law_700 (by decide +kernel) ?_
  refine l_iadd dL_law_701 ?_
  refine l_sld dL_law_702 (hv 1 (by decide)) ?_
  refine l_aload_n (j := 3) dL_law_703 rfl ?_
  refine l_iload_n (j := 0) dL_law_704 rfl ?_
  refine l_iconst (v := nI 2) dL_law_705 (by decide +kernel) ?_
  refine l_iadd dL_law_706 ?_
  refine l_sld dL_law_707 (hv 2 (by decide)) ?_
  refine l_callC (y' := mX5_without) (As := [.int (xs (nI i + nI 1).toNatClampNeg), .int (xs (nI i + nI 2).toNatClampNeg)]) (st := []) (d := 0 + 13) dL_law_708 lkL_95 okX5_without imX5_without seX5_without rfl rfl rfl (Nat.le_of_ble_eq_true rfl) (Nat.le_of_ble_eq_true rfl) (by omega) (c_without (kz z adC 117) 0 (t, F1, A1) (xs (nI i + nI 1).toNatClampNeg) (xs (nI i + nI 2).toNatClampNeg) F1 A1 hC.c) (fun v F' A' hw1 => ?_)
  obtain ⟨x', rfl, hC2⟩ := hw1
  refine l_pop dL_law_711 rfl ?_
  refine l_aload_n (j := 1) dL_law_712 rfl ?_
  refine l_aload_n (j := 3) dL_law_713 rfl ?_
  refine l_iload_n (j := 0) dL_law_714 rfl ?_
  refine l_iconst (v := nI 1) dL_law_715 (by decide +kernel) ?_
  refine l_iadd dL_law_716 ?_
  refine l_sld dL_law_717 (hv 1 (by decide)) ?_
  refine l_aload_n (j := 3) dL_law_718 rfl ?_
  refine l_iload_n (j := 0) dL_law_719 rfl ?_
  refine l_iconst (v := nI 2) dL_law_720 (by decide +kernel) ?_
  refine l_iadd dL_law_721 ?_
  refine l_sld dL_law_722 (hv 2 (by decide)) ?_
  refine l_callM (y' := mX6_without) (As := [.int (xs (nI i + nI 1).toNatClampNeg), .int (xs (nI i + nI 2).toNatClampNeg)]) (st := []) (d := 0 + 4) dL_law_723 lkL_98 okX6_without imX6_without seX6_without rfl rfl rfl (Nat.le_of_ble_eq_true rfl) (Nat.le_of_ble_eq_true rfl) (by omega) (m_without (kz z adM 18) 0 (t, A2) n mm rn rm un kn (xs (nI i + nI 1).toNatClampNeg) (xs (nI i + nI 2).toNatClampNeg) F2 A2 hM0) (fun v F'' A'' hw2 => ?_)
  obtain ⟨y', rfl, hM', g1, g5, g6, g7⟩ := hw2
  have hLR := LR.ro hS hw hx hC2 hM' g1 g5 g6 g7
  refine l_pop dL_law_726 rfl ?_
  refine l_goto (tgt := 779) dL_law_727 (by decide) ?_
  exact hend _ _ _ _ hLR
set_option maxHeartbeats 1000000 in
theorem law_c20 (z : mj_B) (adC adM : Nat → Nat) (b L : Nat) (xs : Nat → Int32) (i : Nat) (hv : ∀ k, k < 6 → vp_in (nI i + nI k) L) (hend : ∀ F1 A1 F2 A2, LR F1 A1 F2 A2 → Lj z adC adM b L xs 779 (lvL adC adM b i) [] F1 A1 F2 A2) (F1 A1 F2 A2 : mj_S) (hR : LR F1 A1 F2 A2) : Lj z adC adM b L xs 730 (lvL adC adM b i) [] F1 A1 F2 A2 := by
  obtain ⟨t, n, mm, rn, rm, un, kn, hC, hM0, hS, hw, hx⟩ := hR
  have hT := hC.1.2
  have hkn := hM0.2.2.2.2.1.2
  have hun := hM0.2.2.2.1.2
  refine l_aload_n (j := 2) dL_law_730 rfl ?_
  refine l_callC (y' := mX5_keep) (As := []) (st := []) (d := 0 + 3) dL_law_731 lkL_99 okX5_keep imX5_keep seX5_keep rfl rfl rfl (Nat.le_of_ble_eq_true rfl) (Nat.le_of_ble_eq_true rfl) (by omega) (c_keep (kz z adC 117) 0 t n mm (A2 5) un (rwK (A2 6)) kn (rwK (A2 7))  F1 A1 hC hS hw.1) (fun v F' A' hw1 => ?_)
  obtain ⟨x', rfl, hB', e1, hE⟩ := hw1
  refine l_pop dL_law_734 rfl ?_
  refine l_aload_n (j := 1) dL_law_735 rfl ?_
  refine l_callM (y' := mX6_keep) (As := []) (st := []) (d := 0) dL_law_736 lkL_102 okX6_keep imX6_keep seX6_keep rfl rfl rfl (Nat.le_of_ble_eq_true rfl) (Nat.le_of_ble_eq_true rfl) (by omega) (m_keep (kz z adM 18) 0 (t, A2) n mm rn rm un kn  F2 A2 hM0) (fun v F'' A'' hw2 => ?_)
  obtain ⟨y', kn', rfl, hM', ⟨k1, k5, k6⟩, hE2⟩ := hw2
  obtain ⟨hxy, hLR⟩ : y' = x' ∧ LR F' A' F'' A'' := by
    have hx2 : ∀ j, j < t → A' 1 j = A'' 1 j := fun j hj => by rw [e1, k1]; exact hx j hj
    rcases hE with ⟨g1, g2, g3⟩ | ⟨g1, g2, g3⟩ <;> rcases hE2 with ⟨q1, q2, q3, q4⟩ | ⟨q1, q2, q3, q4⟩ <;> first | (exfalso; omega) | skip
    · subst q3; exact ⟨by rw [g2, q2], t, n, mm, rn, rm, un, kn', hB', hM', by rw [k5, k6, q4]; exact g3, by rw [k5, k6, q4]; exact hw, hx2⟩
    · subst q3
      have q5 : ∀ k j, k < kn + 1 → j < 500 → rwK (A'' 7) k j = (fun k => if k = kn then A2 5 else rwK (A2 7) k) k j := fun k j hk hj => by
        show A'' 7 (500 * k + j) = _
        rw [q4 k j hk hj]
        by_cases e : k = kn
        · simp only [if_pos e]
        · simp only [if_neg e]
      refine ⟨by rw [g2, q2], t, n, mm, rn, rm, un, kn + 1, hB', hM', g3.rows (fun _ _ => rfl) (fun j _ => by rw [k5]) (fun k j _ _ => by rw [k6]) q5, ⟨by rw [k5]; exact hw.1, by rw [k6]; exact hw.2.1, fun k hk => ?_⟩, hx2⟩
      by_cases e : k = kn
      · exact hw.1.cg (fun _ _ => rfl) (fun j hj => by rw [q5 k j hk hj]; simp only [if_pos e])
      · exact (hw.2.2 k (by omega)).cg (fun _ _ => rfl) (fun j hj => by rw [q5 k j hk hj]; simp only [if_neg e])
  refine l_pop dL_law_739 rfl ?_
  refine l_goto (tgt := 779) dL_law_740 (by decide) ?_
  exact hend _ _ _ _ hLR
set_option maxHeartbeats 1000000 in
theorem law_c21 (z : mj_B) (adC adM : Nat → Nat) (b L : Nat) (xs : Nat → Int32) (i : Nat) (hv : ∀ k, k < 6 → vp_in (nI i + nI k) L) (hend : ∀ F1 A1 F2 A2, LR F1 A1 F2 A2 → Lj z adC adM b L xs 779 (lvL adC adM b i) [] F1 A1 F2 A2) (F1 A1 F2 A2 : mj_S) (hR : LR F1 A1 F2 A2) : Lj z adC adM b L xs 743 (lvL adC adM b i) [] F1 A1 F2 A2 := by
  obtain ⟨t, n, mm, rn, rm, un, kn, hC, hM0, hS, hw, hx⟩ := hR
  have hT := hC.1.2
  have hkn := hM0.2.2.2.2.1.2
  have hun := hM0.2.2.2.1.2
  refine l_aload_n (j := 2) dL_law_743 rfl ?_
  refine l_callC (y' := mX5_back) (As := []) (st := []) (d := 0 + 3) dL_law_744 lkL_103 okX5_back imX5_back seX5_back rfl rfl rfl (Nat.le_of_ble_eq_true rfl) (Nat.le_of_ble_eq_true rfl) (by omega) (c_back (kz z adC 117) 0 t n mm (A2 5) un (rwK (A2 6)) kn (rwK (A2 7))  F1 A1 hC hS hw.1) (fun v F' A' hw1 => ?_)
  obtain ⟨x', rfl, hB', e1, hE⟩ := hw1
  refine l_pop dL_law_747 rfl ?_
  refine l_aload_n (j := 1) dL_law_748 rfl ?_
  refine l_callM (y' := mX6_back) (As := []) (st := []) (d := 0) dL_law_749 lkL_106 okX6_back imX6_back seX6_back rfl rfl rfl (Nat.le_of_ble_eq_true rfl) (Nat.le_of_ble_eq_true rfl) (by omega) (m_back (kz z adM 18) 0 (t, A2) n mm rn rm un kn  F2 A2 hM0) (fun v F'' A'' hw2 => ?_)
  obtain ⟨y', un', kn', rfl, hM', ⟨k1, k6, k7⟩, hE2⟩ := hw2
  obtain ⟨hxy, hLR⟩ : y' = x' ∧ LR F' A' F'' A'' := by
    have hx2 : ∀ j, j < t → A' 1 j = A'' 1 j := fun j hj => by rw [e1, k1]; exact hx j hj
    rcases hE with ⟨g1, g2, g3⟩ | ⟨g1, g2, g3⟩ <;> rcases hE2 with ⟨q1, q2, q3, q3b, q4⟩ | ⟨q1, q2, q3, q3b, q4⟩ <;> first | (exfalso; omega) | skip
    · subst q3; subst q3b; exact ⟨by rw [g2, q2], t, n, mm, rn, rm, un', kn', hB', hM', by rw [q4, k6, k7]; exact g3, by rw [q4, k6, k7]; exact hw, hx2⟩
    · subst q3; subst q3b; exact ⟨by rw [g2, q2], t, n, mm, rn, rm, 0, kn - 1, hB', hM', g3.rows (fun _ _ => rfl) q4 (fun k j hk => absurd hk (by omega)) (fun k j _ _ => by rw [k7]), ⟨(hw.2.2 (kn - 1) (by omega)).cg (fun _ _ => rfl) q4, fun k hk => absurd hk (by omega), fun k hk => by rw [k7]; exact hw.2.2 k (by omega)⟩, hx2⟩
  refine l_pop dL_law_752 rfl ?_
  refine l_goto (tgt := 779) dL_law_753 (by decide) ?_
  exact hend _ _ _ _ hLR
set_option maxHeartbeats 1000000 in
theorem law_c22 (z : mj_B) (adC adM : Nat → Nat) (b L : Nat) (xs : Nat → Int32) (i : Nat) (hv : ∀ k, k < 6 → vp_in (nI i + nI k) L) (hend : ∀ F1 A1 F2 A2, LR F1 A1 F2 A2 → Lj z adC adM b L xs 779 (lvL adC adM b i) [] F1 A1 F2 A2) (F1 A1 F2 A2 : mj_S) (hR : LR F1 A1 F2 A2) : Lj z adC adM b L xs 756 (lvL adC adM b i) [] F1 A1 F2 A2 := by
  obtain ⟨t, n, mm, rn, rm, un, kn, hC, hM0, hS, hw, hx⟩ := hR
  have hT := hC.1.2
  have hkn := hM0.2.2.2.2.1.2
  have hun := hM0.2.2.2.1.2
  refine l_aload_n (j := 2) dL_law_756 rfl ?_
  refine l_aload_n (j := 3) dL_law_757 rfl ?_
  refine l_iload_n (j := 0) dL_law_758 rfl ?_
  refine l_iconst (v := nI 1) dL_law_759 (by decide +kernel) ?_
  refine l_iadd dL_law_760 ?_
  refine l_sld dL_law_761 (hv 1 (by decide)) ?_
  refine l_callC (y' := mX5_count) (As := [.int (xs (nI i + nI 1).toNatClampNeg)]) (st := []) (d := 0 + 2) dL_law_762 lkL_107 okX5_count imX5_count seX5_count rfl rfl rfl (Nat.le_of_ble_eq_true rfl) (Nat.le_of_ble_eq_true rfl) (by omega) (c_count (kz z adC 117) 0 t n mm (A2 5) un (rwK (A2 6)) kn (rwK (A2 7)) (xs (nI i + nI 1).toNatClampNeg) F1 A1 hC hS hw.1) (fun v F' A' hw1 => ?_)
  obtain ⟨rfl, rfl, x', rfl, hE⟩ := hw1
  refine l_pop dL_law_765 rfl ?_
  refine l_aload_n (j := 1) dL_law_766 rfl ?_
  refine l_aload_n (j := 3) dL_law_767 rfl ?_
  refine l_iload_n (j := 0) dL_law_768 rfl ?_
  refine l_iconst (v := nI 1) dL_law_769 (by decide +kernel) ?_
  refine l_iadd dL_law_770 ?_
  refine l_sld dL_law_771 (hv 1 (by decide)) ?_
  refine l_callM (y' := mX6_count) (As := [.int (xs (nI i + nI 1).toNatClampNeg)]) (st := []) (d := 0 + 1) dL_law_772 lkL_110 okX6_count imX6_count seX6_count rfl rfl rfl (Nat.le_of_ble_eq_true rfl) (Nat.le_of_ble_eq_true rfl) (by omega) (m_count (kz z adM 18) 0 (t, A2) n mm rn rm un kn (xs (nI i + nI 1).toNatClampNeg) F2 A2 hM0) (fun v F'' A'' hw2 => ?_)
  obtain ⟨rfl, rfl, y', rfl, hE2⟩ := hw2
  have hLR : LR F1 A1 F2 A2 := ⟨t, n, mm, rn, rm, un, kn, hC, hM0, hS, hw, hx⟩
  have hxy : y' = x' := hE2.trans hE.symm
  refine l_pop dL_law_775 rfl ?_
  refine l_goto (tgt := 779) dL_law_776 (by decide) ?_
  exact hend _ _ _ _ hLR
set_option maxHeartbeats 2000000 in
theorem law_loop (z : mj_B) (adC adM : Nat → Nat) (b L : Nat) (xs : Nat → Int32) (hL : L ≤ 3072) : ∀ n i, L + 6 ≤ i + n → i ≤ L → ∀ F1 A1 F2 A2, LR F1 A1 F2 A2 → Lj z adC adM b L xs 18 (lvL adC adM b i) [] F1 A1 F2 A2 := by
  intro n
  induction n with
  | zero => intro i h1 h2; omega
  | succ n ih =>
    intro i h1 h2 F1 A1 F2 A2 hR
    refine l_iload_n (j := 0) dL_law_18 rfl ?_
    refine l_aload_n (j := 3) dL_law_19 rfl ?_
    refine l_slen dL_law_20 ?_
    refine l_bipush (v := 6) dL_law_21 (by decide +kernel) ?_
    refine l_isub dL_law_23 ?_
    refine l_gt (tgt := 785) dL_law_24 (by decide) (fun _ => ?_) (fun hg => ?_)
    · intro p e s m below meth c H locs ls C hN hK hLD hP hQ hS hl
      refine lv_iconst (v := 1) C.1 C.2.1 dL_law_785 (by decide +kernel) ?_
      refine va_forget (fun q hq => hS.2.2 q hq) ?_
      refine W.widen (k := 600000) (n := 7302250) (Nat.le_of_ble_eq_true rfl) (Nat.le_of_ble_eq_true rfl) ?_
      exact lw_ret C.1 C.2.1 C.2.2.1 C.2.2.2.2.2.2.2.2.1 dL_law_786
    · have h6 : i + 6 ≤ L := by
        rcases Nat.lt_or_ge L 6 with q | q
        · exfalso
          apply hg
          have h0 : nI L - 6 < 0 := by
            match L, q with
            | 0, _ => decide
            | 1, _ => decide
            | 2, _ => decide
            | 3, _ => decide
            | 4, _ => decide
            | 5, _ => decide
            | k + 6, h => omega
          exact Int32.lt_of_lt_of_le h0 (nI_pos' (by omega))
        · obtain ⟨M, rfl⟩ : ∃ M, L = M + 6 := ⟨L - 6, by omega⟩
          have e : nI (M + 6) - 6 = nI M := by
            rw [← nI_add M 6]; show nI M + nI 6 - nI 6 = nI M; exact Int32.add_sub_cancel _ _
          rw [e] at hg
          rcases Nat.lt_or_ge M i with q2 | q2
          · exact absurd (nI_lt q2 (by omega)) hg
          · omega
      have hv : ∀ k, k < 6 → vp_in (nI i + nI k) L := fun k hk => by rw [nI_add]; exact vp_in_nI (by omega) (by omega)
      have hend : ∀ F1 A1 F2 A2, LR F1 A1 F2 A2 → Lj z adC adM b L xs 779 (lvL adC adM b i) [] F1 A1 F2 A2 := by
        intro F1 A1 F2 A2 hR
        refine l_iinc (v := nI (i + 6)) (j := 0) (lv' := lvL adC adM b (i + 6)) dL_law_779 rfl (by rw [← nI_add]; rfl) (by decide) rfl ?_
        refine l_goto (tgt := 18) dL_law_782 (by decide) ?_
        exact ih (i + 6) (by omega) h6 F1 A1 F2 A2 hR
      refine l_aload_n (j := 3) dL_law_27 rfl ?_
      refine l_iload_n (j := 0) dL_law_28 rfl ?_
      refine l_sld dL_law_29 (vp_in_nI (by omega) (by omega)) ?_
      refine l_bipush (v := 31) dL_law_30 (by decide +kernel) ?_
      refine l_iand dL_law_32 ?_
      obtain ⟨k, hk, ek⟩ := pk_andE (xs (nI i).toNatClampNeg) (m := 31) 5 (by decide)
      rw [ek]
      match k, hk with
      | 0, _ => exact l_tin (tgt := 140) dL_law_33 (by decide +kernel) (by decide +kernel) (off := 107) (by decide +kernel) (by decide) (law_c0 z adC adM b L xs i hv hend F1 A1 F2 A2 hR)
      | 1, _ => exact l_tin (tgt := 163) dL_law_33 (by decide +kernel) (by decide +kernel) (off := 130) (by decide +kernel) (by decide) (law_c1 z adC adM b L xs i hv hend F1 A1 F2 A2 hR)
      | 2, _ => exact l_tin (tgt := 176) dL_law_33 (by decide +kernel) (by decide +kernel) (off := 143) (by decide +kernel) (by decide) (law_c2 z adC adM b L xs i hv hend F1 A1 F2 A2 hR)
      | 3, _ => exact l_tin (tgt := 189) dL_law_33 (by decide +kernel) (by decide +kernel) (off := 156) (by decide +kernel) (by decide) (law_c3 z adC adM b L xs i hv hend F1 A1 F2 A2 hR)
      | 4, _ => exact l_tin (tgt := 202) dL_law_33 (by decide +kernel) (by decide +kernel) (off := 169) (by decide +kernel) (by decide) (law_c4 z adC adM b L xs i hv hend F1 A1 F2 A2 hR)
      | 5, _ => exact l_tin (tgt := 235) dL_law_33 (by decide +kernel) (by decide +kernel) (off := 202) (by decide +kernel) (by decide) (law_c5 z adC adM b L xs i hv hend F1 A1 F2 A2 hR)
      | 6, _ => exact l_tin (tgt := 268) dL_law_33 (by decide +kernel) (by decide +kernel) (off := 235) (by decide +kernel) (by decide) (law_c6 z adC adM b L xs i hv hend F1 A1 F2 A2 hR)
      | 7, _ => exact l_tin (tgt := 321) dL_law_33 (by decide +kernel) (by decide +kernel) (off := 288) (by decide +kernel) (by decide) (law_c7 z adC adM b L xs i hv hend F1 A1 F2 A2 hR)
      | 8, _ => exact l_tin (tgt := 364) dL_law_33 (by decide +kernel) (by decide +kernel) (off := 331) (by decide +kernel) (by decide) (law_c8 z adC adM b L xs i hv hend F1 A1 F2 A2 hR)
      | 9, _ => exact l_tin (tgt := 427) dL_law_33 (by decide +kernel) (by decide +kernel) (off := 394) (by decide +kernel) (by decide) (law_c9 z adC adM b L xs i hv hend F1 A1 F2 A2 hR)
      | 10, _ => exact l_tin (tgt := 460) dL_law_33 (by decide +kernel) (by decide +kernel) (off := 427) (by decide +kernel) (by decide) (law_c10 z adC adM b L xs i hv hend F1 A1 F2 A2 hR)
      | 11, _ => exact l_tin (tgt := 493) dL_law_33 (by decide +kernel) (by decide +kernel) (off := 460) (by decide +kernel) (by decide) (law_c11 z adC adM b L xs i hv hend F1 A1 F2 A2 hR)
      | 12, _ => exact l_tin (tgt := 526) dL_law_33 (by decide +kernel) (by decide +kernel) (off := 493) (by decide +kernel) (by decide) (law_c12 z adC adM b L xs i hv hend F1 A1 F2 A2 hR)
      | 13, _ => exact l_tin (tgt := 539) dL_law_33 (by decide +kernel) (by decide +kernel) (off := 506) (by decide +kernel) (by decide) (law_c13 z adC adM b L xs i hv hend F1 A1 F2 A2 hR)
      | 14, _ => exact l_tin (tgt := 572) dL_law_33 (by decide +kernel) (by decide +kernel) (off := 539) (by decide +kernel) (by decide) (law_c14 z adC adM b L xs i hv hend F1 A1 F2 A2 hR)
      | 15, _ => exact l_tin (tgt := 595) dL_law_33 (by decide +kernel) (by decide +kernel) (off := 562) (by decide +kernel) (by decide) (law_c15 z adC adM b L xs i hv hend F1 A1 F2 A2 hR)
      | 16, _ => exact l_tin (tgt := 618) dL_law_33 (by decide +kernel) (by decide +kernel) (off := 585) (by decide +kernel) (by decide) (law_c16 z adC adM b L xs i hv hend F1 A1 F2 A2 hR)
      | 17, _ => exact l_tin (tgt := 641) dL_law_33 (by decide +kernel) (by decide +kernel) (off := 608) (by decide +kernel) (by decide) (law_c17 z adC adM b L xs i hv hend F1 A1 F2 A2 hR)
      | 18, _ => exact l_tin (tgt := 664) dL_law_33 (by decide +kernel) (by decide +kernel) (off := 631) (by decide +kernel) (by decide) (law_c18 z adC adM b L xs i hv hend F1 A1 F2 A2 hR)
      | 19, _ => exact l_tin (tgt := 697) dL_law_33 (by decide +kernel) (by decide +kernel) (off := 664) (by decide +kernel) (by decide) (law_c19 z adC adM b L xs i hv hend F1 A1 F2 A2 hR)
      | 20, _ => exact l_tin (tgt := 730) dL_law_33 (by decide +kernel) (by decide +kernel) (off := 697) (by decide +kernel) (by decide) (law_c20 z adC adM b L xs i hv hend F1 A1 F2 A2 hR)
      | 21, _ => exact l_tin (tgt := 743) dL_law_33 (by decide +kernel) (by decide +kernel) (off := 710) (by decide +kernel) (by decide) (law_c21 z adC adM b L xs i hv hend F1 A1 F2 A2 hR)
      | 22, _ => exact l_tin (tgt := 756) dL_law_33 (by decide +kernel) (by decide +kernel) (off := 723) (by decide +kernel) (by decide) (law_c22 z adC adM b L xs i hv hend F1 A1 F2 A2 hR)
      | 23, _ => exact l_tout (tgt := 779) dL_law_33 (Or.inr (by decide +kernel)) (by decide) (hend F1 A1 F2 A2 hR)
      | 24, _ => exact l_tout (tgt := 779) dL_law_33 (Or.inr (by decide +kernel)) (by decide) (hend F1 A1 F2 A2 hR)
      | 25, _ => exact l_tout (tgt := 779) dL_law_33 (Or.inr (by decide +kernel)) (by decide) (hend F1 A1 F2 A2 hR)
      | 26, _ => exact l_tout (tgt := 779) dL_law_33 (Or.inr (by decide +kernel)) (by decide) (hend F1 A1 F2 A2 hR)
      | 27, _ => exact l_tout (tgt := 779) dL_law_33 (Or.inr (by decide +kernel)) (by decide) (hend F1 A1 F2 A2 hR)
      | 28, _ => exact l_tout (tgt := 779) dL_law_33 (Or.inr (by decide +kernel)) (by decide) (hend F1 A1 F2 A2 hR)
      | 29, _ => exact l_tout (tgt := 779) dL_law_33 (Or.inr (by decide +kernel)) (by decide) (hend F1 A1 F2 A2 hR)
      | 30, _ => exact l_tout (tgt := 779) dL_law_33 (Or.inr (by decide +kernel)) (by decide) (hend F1 A1 F2 A2 hR)
      | 31, _ => exact l_tout (tgt := 779) dL_law_33 (Or.inr (by decide +kernel)) (by decide) (hend F1 A1 F2 A2 hR)
      | k + 32, h => exact absurd h (by omega)
