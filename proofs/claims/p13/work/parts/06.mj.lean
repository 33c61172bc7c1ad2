/-! the little machine: the cells of both systems by number (SH), their ints (F: object, slot; A: array, place); J: a method from pc on -/
abbrev mj_Y : Type := MethodName × ByteArray × Nat × Option FieldType
abbrev mj_S : Type := Nat → Nat → Int32
abbrev mj_B : Type := Launch × (Nat → Nat) × (Nat → ClassId) × ((Nat → ClassId) × (Nat → Nat → Nat)) × (Nat → Prop)
abbrev mj_G : Type := mj_B × (Nat → va_E) × Nat
abbrev mj_l (g : mj_G) : Launch := g.1.1
abbrev mj_ad (g : mj_G) : Nat → Nat := g.1.2.1
abbrev mj_dA (g : mj_G) : Nat → ClassId := g.1.2.2.1
abbrev mj_D (g : mj_G) : va_G := g.1.2.2.2.1
abbrev mj_Z (g : mj_G) : Nat → Prop := g.1.2.2.2.2
abbrev mj_sh (g : mj_G) : Nat → va_E := g.2.1
abbrev mj_n (g : mj_G) : Nat := g.2.2
def SHC : Nat → va_E := fun k => match k with
  | 0 => .inr (5, [.ref 1, .int 0, .ref 33, .ref 40, .ref 2, .ref 3, .int 0, .ref 4, .int 0, .ref 18, .ref 23, .ref 5, .ref 10, .ref 14, .int 0, .int 0, .int 0])
  | 1 => .inl (1, 200, .inl (fun _ => 0))
  | 2 => .inr (1, [.ref 1, .ref 40, .int 0, .int 0])
  | 3 => .inl (2, 8, .inr (.inr (.inr (.inr (fun _ => none)))))
  | 4 => .inl (2, 2, .inr (.inr (.inr (.inr (fun _ => none)))))
  | 5 => .inr (2, [.ref 6, .ref 7, .ref 8, .int 0, .ref 9, .ref 28, .int 0])
  | 6 => .inl (0, 8, .inl (fun _ => 0))
  | 7 => .inl (0, 8, .inl (fun _ => 0))
  | 8 => .inl (0, 8, .inl (fun _ => 0))
  | 9 => .inl (0, 8, .inl (fun _ => 0))
  | 10 => .inr (3, [.int 0, .int 0, .int 0, .int 0, .ref 11, .ref 12, .ref 13, .ref 18, .int 0])
  | 11 => .inl (0, 8, .inl (fun _ => 0))
  | 12 => .inl (0, 8, .inl (fun _ => 0))
  | 13 => .inl (0, 9, .inl (fun _ => 0))
  | 14 => .inr (3, [.int 0, .int 0, .int 0, .int 0, .ref 15, .ref 16, .ref 17, .ref 23, .int 0])
  | 15 => .inl (0, 8, .inl (fun _ => 0))
  | 16 => .inl (0, 8, .inl (fun _ => 0))
  | 17 => .inl (0, 9, .inl (fun _ => 0))
  | 18 => .inr (4, [.int 0, .ref 19, .ref 20, .ref 21, .ref 22])
  | 19 => .inl (0, 8, .inl (fun _ => 0))
  | 20 => .inl (0, 8, .inl (fun _ => 0))
  | 21 => .inl (0, 32, .inl (fun _ => 0))
  | 22 => .inl (0, 448, .inl (fun _ => 0))
  | 23 => .inr (4, [.int 0, .ref 24, .ref 25, .ref 26, .ref 27])
  | 24 => .inl (0, 8, .inl (fun _ => 0))
  | 25 => .inl (0, 8, .inl (fun _ => 0))
  | 26 => .inl (0, 32, .inl (fun _ => 0))
  | 27 => .inl (0, 448, .inl (fun _ => 0))
  | 28 => .inr (4, [.int 0, .ref 29, .ref 30, .ref 31, .ref 32])
  | 29 => .inl (0, 8, .inl (fun _ => 0))
  | 30 => .inl (0, 8, .inl (fun _ => 0))
  | 31 => .inl (0, 32, .inl (fun _ => 0))
  | 32 => .inl (0, 448, .inl (fun _ => 0))
  | 33 => .inr (0, [.int 0, .ref 34, .ref 35, .ref 36, .ref 37, .ref 38, .ref 39])
  | 34 => .inl (0, 8, .inl (fun _ => 0))
  | 35 => .inl (0, 8, .inl (fun _ => 0))
  | 36 => .inl (0, 8, .inl (fun _ => 0))
  | 37 => .inl (0, 8, .inl (fun _ => 0))
  | 38 => .inl (0, 32, .inl (fun _ => 0))
  | 39 => .inl (0, 448, .inl (fun _ => 0))
  | 40 => .inr (0, [.int 0, .ref 41, .ref 42, .ref 43, .ref 44, .ref 45, .ref 46])
  | 41 => .inl (0, 8, .inl (fun _ => 0))
  | 42 => .inl (0, 8, .inl (fun _ => 0))
  | 43 => .inl (0, 8, .inl (fun _ => 0))
  | 44 => .inl (0, 8, .inl (fun _ => 0))
  | 45 => .inl (0, 32, .inl (fun _ => 0))
  | 46 => .inl (0, 448, .inl (fun _ => 0))
  | 47 => .inr (0, [.int 0, .ref 48, .ref 49, .ref 50, .ref 51, .ref 52, .ref 53])
  | 48 => .inl (0, 8, .inl (fun _ => 0))
  | 49 => .inl (0, 8, .inl (fun _ => 0))
  | 50 => .inl (0, 8, .inl (fun _ => 0))
  | 51 => .inl (0, 8, .inl (fun _ => 0))
  | 52 => .inl (0, 32, .inl (fun _ => 0))
  | 53 => .inl (0, 448, .inl (fun _ => 0))
  | 54 => .inr (0, [.int 0, .ref 55, .ref 56, .ref 57, .ref 58, .ref 59, .ref 60])
  | 55 => .inl (0, 8, .inl (fun _ => 0))
  | 56 => .inl (0, 8, .inl (fun _ => 0))
  | 57 => .inl (0, 8, .inl (fun _ => 0))
  | 58 => .inl (0, 8, .inl (fun _ => 0))
  | 59 => .inl (0, 32, .inl (fun _ => 0))
  | 60 => .inl (0, 448, .inl (fun _ => 0))
  | 61 => .inr (0, [.int 0, .ref 62, .ref 63, .ref 64, .ref 65, .ref 66, .ref 67])
  | 62 => .inl (0, 8, .inl (fun _ => 0))
  | 63 => .inl (0, 8, .inl (fun _ => 0))
  | 64 => .inl (0, 8, .inl (fun _ => 0))
  | 65 => .inl (0, 8, .inl (fun _ => 0))
  | 66 => .inl (0, 32, .inl (fun _ => 0))
  | 67 => .inl (0, 448, .inl (fun _ => 0))
  | 68 => .inr (0, [.int 0, .ref 69, .ref 70, .ref 71, .ref 72, .ref 73, .ref 74])
  | 69 => .inl (0, 8, .inl (fun _ => 0))
  | 70 => .inl (0, 8, .inl (fun _ => 0))
  | 71 => .inl (0, 8, .inl (fun _ => 0))
  | 72 => .inl (0, 8, .inl (fun _ => 0))
  | 73 => .inl (0, 32, .inl (fun _ => 0))
  | 74 => .inl (0, 448, .inl (fun _ => 0))
  | 75 => .inr (0, [.int 0, .ref 76, .ref 77, .ref 78, .ref 79, .ref 80, .ref 81])
  | 76 => .inl (0, 8, .inl (fun _ => 0))
  | 77 => .inl (0, 8, .inl (fun _ => 0))
  | 78 => .inl (0, 8, .inl (fun _ => 0))
  | 79 => .inl (0, 8, .inl (fun _ => 0))
  | 80 => .inl (0, 32, .inl (fun _ => 0))
  | 81 => .inl (0, 448, .inl (fun _ => 0))
  | 82 => .inr (0, [.int 0, .ref 83, .ref 84, .ref 85, .ref 86, .ref 87, .ref 88])
  | 83 => .inl (0, 8, .inl (fun _ => 0))
  | 84 => .inl (0, 8, .inl (fun _ => 0))
  | 85 => .inl (0, 8, .inl (fun _ => 0))
  | 86 => .inl (0, 8, .inl (fun _ => 0))
  | 87 => .inl (0, 32, .inl (fun _ => 0))
  | 88 => .inl (0, 448, .inl (fun _ => 0))
  | 89 => .inr (0, [.int 0, .ref 90, .ref 91, .ref 92, .ref 93, .ref 94, .ref 95])
  | 90 => .inl (0, 8, .inl (fun _ => 0))
  | 91 => .inl (0, 8, .inl (fun _ => 0))
  | 92 => .inl (0, 8, .inl (fun _ => 0))
  | 93 => .inl (0, 8, .inl (fun _ => 0))
  | 94 => .inl (0, 32, .inl (fun _ => 0))
  | 95 => .inl (0, 448, .inl (fun _ => 0))
  | 96 => .inr (0, [.int 0, .ref 97, .ref 98, .ref 99, .ref 100, .ref 101, .ref 102])
  | 97 => .inl (0, 8, .inl (fun _ => 0))
  | 98 => .inl (0, 8, .inl (fun _ => 0))
  | 99 => .inl (0, 8, .inl (fun _ => 0))
  | 100 => .inl (0, 8, .inl (fun _ => 0))
  | 101 => .inl (0, 32, .inl (fun _ => 0))
  | 102 => .inl (0, 448, .inl (fun _ => 0))
  | 103 => .inr (0, [.int 0, .ref 104, .ref 105, .ref 106, .ref 107, .ref 108, .ref 109])
  | 104 => .inl (0, 8, .inl (fun _ => 0))
  | 105 => .inl (0, 8, .inl (fun _ => 0))
  | 106 => .inl (0, 8, .inl (fun _ => 0))
  | 107 => .inl (0, 8, .inl (fun _ => 0))
  | 108 => .inl (0, 32, .inl (fun _ => 0))
  | 109 => .inl (0, 448, .inl (fun _ => 0))
  | 110 => .inr (0, [.int 0, .ref 111, .ref 112, .ref 113, .ref 114, .ref 115, .ref 116])
  | 111 => .inl (0, 8, .inl (fun _ => 0))
  | 112 => .inl (0, 8, .inl (fun _ => 0))
  | 113 => .inl (0, 8, .inl (fun _ => 0))
  | 114 => .inl (0, 8, .inl (fun _ => 0))
  | 115 => .inl (0, 32, .inl (fun _ => 0))
  | _ => .inl (0, 448, .inl (fun _ => 0))
def SHM : Nat → va_E := fun k => match k with
  | 0 => .inr (6, [.int 0, .ref 1, .int 0, .ref 2, .int 0, .ref 3, .ref 4, .ref 5, .ref 6, .int 0, .ref 7, .int 0, .int 0, .int 0, .ref 8, .ref 9, .ref 10, .ref 11, .ref 12, .ref 13, .ref 14, .int 0, .int 0, .int 0, .ref 15, .ref 16, .ref 17])
  | 1 => .inl (0, 200, .inl (fun _ => 0))
  | 2 => .inl (0, 8, .inl (fun _ => 0))
  | 3 => .inl (0, 8, .inl (fun _ => 0))
  | 4 => .inl (0, 500, .inl (fun _ => 0))
  | 5 => .inl (0, 500, .inl (fun _ => 0))
  | 6 => .inl (0, 4000, .inl (fun _ => 0))
  | 7 => .inl (0, 1000, .inl (fun _ => 0))
  | 8 => .inl (0, 32, .inl (fun _ => 0))
  | 9 => .inl (0, 1024, .inl (fun _ => 0))
  | 10 => .inl (0, 8, .inl (fun _ => 0))
  | 11 => .inl (0, 8, .inl (fun _ => 0))
  | 12 => .inl (0, 8, .inl (fun _ => 0))
  | 13 => .inl (0, 8, .inl (fun _ => 0))
  | 14 => .inl (0, 8, .inl (fun _ => 0))
  | 15 => .inl (0, 8, .inl (fun _ => 0))
  | 16 => .inl (0, 8, .inl (fun _ => 0))
  | _ => .inl (0, 16, .inl (fun _ => 0))
abbrev gC (z : mj_B) : mj_G := (z, SHC, 117)
abbrev gM (z : mj_B) : mj_G := (z, SHM, 18)
def mj_v (ad : Nat → Nat) (v : Value) : Value := match v with
  | .ref k => .ref (ad k)
  | v => v
def mj_f (ad : Nat → Nat) (f : Nat → Int32) (s : Nat) (v : Value) : Value := match v with
  | .int _ => .int (f s)
  | .ref r => .ref (ad r)
  | v => v
def mj_x (ad : Nat → Nat) (a : Nat → Int32) (x : vp_A) : vp_A := (x.1, match x.2 with
  | .inl _ => .inl a
  | .inr (.inr (.inr (.inr _))) => .inr (.inr (.inr (.inr (fun j => some (ad (a j).toNatClampNeg)))))
  | o => o)
def mj_c (ad : Nat → Nat) (dA : Nat → ClassId) (f a : Nat → Int32) (t : va_E) : va_E := match t with
  | .inl (t, x) => .inl (dA t, mj_x ad a x)
  | .inr (ci, ts) => .inr (ci, ts.mapIdx (mj_f ad f))
def mj_w (g : mj_G) (F A : mj_S) : va_W := (List.range (mj_n g)).map fun k => (mj_ad g k, mj_c (mj_ad g) (mj_dA g) (F k) (A k) (mj_sh g k))
theorem mj_w_at (g : mj_G) (F A : mj_S) {k : Nat} (hk : k < (mj_n g)) : (mj_w g F A)[k]? = some (mj_ad g k, mj_c (mj_ad g) (mj_dA g) (F k) (A k) (mj_sh g k)) := by
  simp [mj_w, List.getElem?_map, List.getElem?_range hk]
def mj_u (F : mj_S) (k s : Nat) (x : Int32) : mj_S := fun j => if j = k then upd (F j) s x else F j
def mj_a (A : mj_S) (k : Nat) (f : Nat → Int32) : mj_S := fun j => if j = k then f else A j
theorem mj_u_at (F : mj_S) (k s : Nat) (x : Int32) : mj_u F k s x k = upd (F k) s x := by simp [mj_u]
theorem mj_u_ne (F : mj_S) {k j s : Nat} (x : Int32) (h : j ≠ k) : mj_u F k s x j = F j := by simp [mj_u, h]
theorem mj_a_at (A : mj_S) (k : Nat) (f : Nat → Int32) : mj_a A k f k = f := by simp [mj_a]
theorem mj_a_ne (A : mj_S) {k j : Nat} (f : Nat → Int32) (h : j ≠ k) : mj_a A k f j = A j := by simp [mj_a, h]
theorem mj_w_set (g : mj_G) {F A F' A' : mj_S} {k : Nat} {e : va_E} (hk : k < (mj_n g)) (he : e = mj_c (mj_ad g) (mj_dA g) (F' k) (A' k) (mj_sh g k)) (hF : ∀ j, j ≠ k → F j = F' j) (hA : ∀ j, j ≠ k → A j = A' j) : (mj_w g F A).set k (mj_ad g k, e) = mj_w g F' A' := by
  apply List.ext_getElem?
  intro j
  rw [List.getElem?_set]
  by_cases hj : k = j
  · subst hj
    rw [if_pos rfl, if_pos (by simp [mj_w]; exact hk), mj_w_at g F' A' hk, he]
  · rw [if_neg hj]
    by_cases hl : j < (mj_n g)
    · rw [mj_w_at g F A hl, mj_w_at g F' A' hl, hF j (Ne.symm hj), hA j (Ne.symm hj)]
    · simp [mj_w, List.getElem?_eq_none (l := List.range (mj_n g)) (i := j) (by simp; omega)]
def mj_DD (g : mj_G) : Prop := (∀ i j, i < (mj_n g) → j < (mj_n g) → mj_ad g i = mj_ad g j → i = j) ∧ ∀ i, i < (mj_n g) → mj_Z g (mj_ad g i)
theorem mj_in_w {g : mj_G} {F A : mj_S} {i : Nat} {q : Nat × va_E} (h : (mj_w g F A)[i]? = some q) : i < (mj_n g) ∧ q.1 = mj_ad g i := by
  by_cases hl : i < (mj_n g)
  · rw [mj_w_at g F A hl] at h
    cases h
    exact ⟨hl, rfl⟩
  · rw [mj_w, List.getElem?_eq_none (by simp; omega)] at h
    cases h
theorem mj_DD.D {g : mj_G} (h : mj_DD g) (F A : mj_S) : va_D (mj_Z g) (mj_w g F A) := by
  refine ⟨fun i j p q hi hj he => ?_, fun k q hk => ?_⟩
  · obtain ⟨h1, h2⟩ := mj_in_w hi
    obtain ⟨h3, h4⟩ := mj_in_w hj
    exact h.1 i j h1 h3 (by rw [← h2, ← h4, he])
  · obtain ⟨h1, h2⟩ := mj_in_w hk
    rw [h2]
    exact h.2 k h1
def mj_K (g : mj_G) : List (ClassId × FieldType) := [(mj_dA g 0, .int), (mj_dA g 1, .char), (mj_dA g 2, .object RX0)]
def mj_TB : List Cond := lw_tbl.filter goodWord
theorem mj_in {w : Cond} (i : Nat) (h : lw_tbl[i]? = some w) (hg : goodWord w = true) : w ∈ mj_TB := List.mem_filter.mpr ⟨List.mem_of_getElem? h, hg⟩
theorem mj_ins (ws : List Cond) (ps : List Nat) (hp : ws = ps.filterMap (fun i => lw_tbl[i]?)) (hg : ws.all goodWord = true) : ∀ w ∈ ws, w ∈ mj_TB := fun w hw => List.mem_filter.mpr ⟨by
  rw [hp] at hw
  obtain ⟨i, -, hi⟩ := List.mem_filterMap.mp hw
  exact List.mem_of_getElem? hi, List.all_eq_true.mp hg w hw⟩
def mj_nests : List (String × Nat × MethodName × String) := [(RX5, 15, yX0_init, RX5), (RX5, 41, yX4_init, RX5), (RX5, 51, yX2_init, RX5), (RX2, 26, yX4_init, RX5), (RX1, 55, yX5_isWithin, RX5), (RX1, 63, yX5_choicePlace, RX5), (RX0, 38, yX5_hasBit, RX5), (RX1, 83, yX5_joinByNoughts, RX5), (RX1, 96, yX5_entryPlace, RX5), (RX0, 34, yX5_copyRow, RX5), (RX0, 49, yX5_choicePlace, RX5), (RX0, 53, yX5_capped, RX5), (RX0, 56, yX5_entryPlace, RX5), (RX4, 32, yX5_copyRow, RX5), (RX4, 37, yX5_choicePlace, RX5), (RX4, 59, yX5_hasBit, RX5), (RX4, 52, yX5_entryPlace, RX5), (RX2, 85, yX5_hasBit, RX5), (RX4, 62, yX5_capped, RX5), (RX2, 112, yX5_joinByNoughts, RX5), (RX2, 127, yX5_capped, RX5), (RX3, 52, yX5_capped, RX5), (RX3, 73, yX5_copyRow, RX5)]
def mj_NW (s : State) : Prop := ∀ q ∈ mj_nests, va_Nw (.methodLinkNest q.1 q.2.1 q.2.2.1 q.2.2.2) s
theorem mj_NW.warm {s U : State} (hW : s.WarmedH U.vm) (h : mj_NW s) : mj_NW U := fun q hq => va_Nw.warmM hW (h q hq)
theorem mj_NW.same {s U : State} (hv : s.vm = U.vm) (h : mj_NW s) : mj_NW U := fun q hq => va_Nw.same rfl hv (h q hq)
def mj_ws (y : mj_Y) : List Cond := Cond.code y.1 y.2.1 y.2.2.1 y.2.2.2 :: mj_TB
def mj_rm (d : Nat) : Room := { frames := d, cells := 0, slots := 0, locals := 64 * d }
def mj_Cx (y : mj_Y) (p : Program) (s : State) (m : MethodId) (args : Array Value) (meth : Method) (c : Code) : Prop :=
  p.tables.exec = Jvm.exec ∧ c.code = y.2.1 ∧ meth.sig.returnType = y.2.2.2 ∧ c.maxLocals = y.2.2.1 ∧ s.vm.findClass y.1.cls = some m.cls ∧ (∀ w ∈ mj_ws y, w.before args s = true) ∧ meth.locks = false
def mj_Q (g : mj_G) (Q : Option Value → mj_S → mj_S → Prop) : Array Value → State → Outcome → State → Prop := fun _ st oc t =>
  (∃ (v : Option Value) (F A : mj_S), oc = .returned (v.map (mj_v (mj_ad g))) ∧ Q v F A ∧ va_P (mj_D g) vwCl (mj_w g F A) t.heap) ∧ va_F (mj_Z g) st t
def mj_lv (g : mj_G) (lv : List (Nat × Value)) : List (Nat × Value) := lv.map fun q => (q.1, mj_v (mj_ad g) q.2)
/-- method y, from pc on, with the locals lv and the stack st, in the state F, A, d frames deep at most: it returns, with Q -/
def J (g : mj_G) (y : mj_Y) (d pc : Nat) (lv : List (Nat × Value)) (st : List Value) (F A : mj_S) (Q : Option Value → mj_S → mj_S → Prop) : Prop :=
  ∀ (p : Program) (e : Env) (s : State) (m : MethodId) (args : Array Value) (below : List Frame) (meth : Method) (c : Code) (H : Heap) (locs : List Loc) (ls : Array Slot),
    mj_Cx y p s m args meth c → mj_DD g ∧ mj_NW s → va_K (mj_D g) vwCl (mj_K g) s → va_P (mj_D g) vwCl (mj_w g F A) H → va_S (mj_Z g) s.heap H locs → lv_has ls y.2.2.1 (mj_lv g lv) →
    W p (mj_l g) e (mj_rm d) s m args below meth c H locs 0 0 (MQ below (mj_Q g Q) args s 0 0 (mj_Z g)) (F0 m pc ls (st.map (mj_v (mj_ad g))))
theorem mj_good : GoodIn mj_TB mj_TB := fun _ h => ⟨h, good_of_word (List.mem_filter.mp h).2⟩
theorem mj_good2 (y y' : mj_Y) (hc : Cond.code y'.1 y'.2.1 y'.2.2.1 y'.2.2.2 ∈ mj_TB) : GoodIn (mj_ws y) (mj_ws y') := by
  intro w hw
  have h : w ∈ mj_TB := by
    rcases List.mem_cons.mp hw with h | h
    · rw [h]; exact hc
    · exact h
  exact ⟨List.mem_cons_of_mem _ h, (mj_good w h).2⟩
theorem mj_cat (ad : Nat → Nat) (v : Value) : (mj_v ad v).category = v.category := by cases v <;> rfl
theorem mj_args (ad : Nat → Nat) : ∀ (av : List Value) (i : Nat), (lv_args i av).map (fun q => (q.1, mj_v ad q.2)) = lv_args i (av.map (mj_v ad))
  | [], _ => rfl
  | v :: vs, i => by
    simp only [lv_args, List.map_cons, mj_cat]
    rw [mj_args ad vs]
theorem mj_sl (ad : Nat → Nat) : ∀ av : List Value, (lg_sl (av.map (mj_v ad))).length = (lg_sl av).length
  | [] => rfl
  | v :: vs => by
    have ih := mj_sl ad vs
    simp only [lg_sl, List.map_cons, List.flatMap_cons, List.length_append, mj_cat] at ih ⊢
    rw [ih]
    by_cases h : v.category = 2 <;> simp [h]
theorem mj_sum (ad : Nat → Nat) (st : List Value) : ((st.map (mj_v ad)).map fun v => v.category) = st.map fun v => v.category := by
  rw [List.map_map]
  exact List.map_congr_left (fun v _ => mj_cat ad v)
def mj_P (g : mj_G) (av : List Value) (F A : mj_S) : Array Value → State → Prop := va_Pc (av.map (mj_v (mj_ad g))) (fun U => va_P (mj_D g) vwCl (mj_w g F A) U.heap ∧ va_K (mj_D g) vwCl (mj_K g) U ∧ mj_NW U)
theorem mj_met {g : mj_G} {y : mj_Y} {d : Nat} {av : List Value} {F A : mj_S} {Q : Option Value → mj_S → mj_S → Prop} (hpl : plainName y.1.cls = true) (hlen : (lg_sl av).length ≤ y.2.2.1) (hDD : mj_DD g) (hJ : J g y d 0 (lv_args 0 av) [] F A Q) : Met (mj_l g) y.1 (mj_ws y) (mj_rm d) (mj_P g av F A) (mj_Q g Q) 0 0 (mj_Z g) := by
  refine Met.ofW (cc := y.2.1) (maxL := y.2.2.1) (ret := y.2.2.2) hpl rfl ?_
  intro p e s m args below meth c s₁ B hml hv
  obtain ⟨rfl, hP, hK, hN⟩ := hv
  have C : mj_Cx y p s m _ meth c := ⟨B.exec, B.bytes, B.returns, hml, findClass_of_methodNamed B.named, atoms_spec (ws := mj_ws y) B.pre, B.notSynchronized⟩
  rw [lg_entry_eq]
  have hl := lv_entry (av.map (mj_v (mj_ad g))) (n := y.2.2.1) (by rw [mj_sl]; exact hlen)
  rw [← mj_args] at hl
  exact hJ p e s m _ below meth c s.heap [] _ C ⟨hDD, hN⟩ hK hP va_S.rf hl
theorem mj_blind (g : mj_G) (av : List Value) (F A : mj_S) : FrameBlind (mj_P g av F A) := by
  intro a U gg mk q
  obtain ⟨q0, qP, qK, qN⟩ := q
  exact ⟨q0, qP, va_K.moved (u := U) (U := U.calling gg mk a) (Vm.Alike.refl U.vm) qK, mj_NW.same (s := U) (U := U.calling gg mk a) rfl qN⟩
theorem mj_call {p : Program} {e : Env} {R : Room} {s : State} {m : MethodId} {args : Array Value} {below : List Frame} {meth : Method} {c : Code} {H : Heap} {locs : List Loc} {cells slots : Nat} {Qw : State → Prop} {g : mj_G} {pc : Nat} {ls : Array Slot} {rest st0 : List Value} {a : Array Value} {H0 : Heap} {Q : Option Value → mj_S → mj_S → Prop}
    (hr : va_Run p (mj_l g) e R s m args below meth c H locs cells slots 0 0 (F0 m pc ls st0) rest (mj_Q g Q a) (mj_Z g)) (hS : va_S (mj_Z g) H0 H locs)
    (kk : ∀ (v : Option Value) (F A : mj_S) (H1 : Heap) (locs1 : List Loc), Q v F A → va_P (mj_D g) vwCl (mj_w g F A) H1 → va_S (mj_Z g) H0 H1 locs1 → W p (mj_l g) e R s m args below meth c H1 locs1 cells slots Qw (F0 m (pc + 3) ls ((v.map (mj_v (mj_ad g))).toList ++ rest))) : W p (mj_l g) e R s m args below meth c H locs cells slots Qw (F0 m pc ls st0) := by
  intro T hT X
  obtain ⟨v, st₀, t, T', L, h0, X', hL, e1, e2, ⟨⟨v', F, A, hv, hq, hP⟩, hz, hk⟩, st⟩ := hr T hT X
  cases hv
  rw [h0] at hz hk
  obtain ⟨t2, a1, b1⟩ := kk v' F A T'.heap (locs ++ L) hq (by rw [e1]; exact hP)
    ⟨Nat.le_trans hS.1 (by rw [e1]; exact hz), fun q h1 h2 => by rw [e1, hk q (Nat.lt_of_lt_of_le h1 hS.1) h2]; exact hS.2.1 q h1 h2, fun q hq => by
      rcases List.mem_append.mp hq with h | h
      · exact hS.2.2 q h
      · exact hL q h⟩ T' rfl X'
  exact ⟨t2, st t2 a1, b1⟩
def mj_OK (y : mj_Y) (n : Nat) : Prop := Cond.code y.1 y.2.1 y.2.2.1 y.2.2.2 ∈ mj_TB ∧ Cond.initialized y.1.cls ∈ mj_TB ∧ (y.1.cls ≠ "java/lang/invoke/MethodHandle" ∧ y.1.cls ≠ "java/lang/invoke/VarHandle" ∧ (parseMethodDescriptor y.1.desc).map (fun d => d.parameters.length) = some n) ∧ plainName y.1.cls = true ∧ y.2.2.1 ≤ 40
theorem mj_tl (g : mj_G) (v : Option Value) (rest : List Value) : (v.map (mj_v (mj_ad g))).toList ++ rest.map (mj_v (mj_ad g)) = (v.toList ++ rest).map (mj_v (mj_ad g)) := by cases v <;> simp
section MJ
variable {g : mj_G} {y : mj_Y} {d pc : Nat} {lv : List (Nat × Value)} {st : List Value} {F A : mj_S} {Q : Option Value → mj_S → mj_S → Prop}
theorem j_iconst {n : Int} {v : Int32} (hd : decode y.2.1 pc = .ok (.iconst n, 1)) (hv : Int32.ofInt n = v) (k : J g y d (pc + 1) lv (.int v :: st) F A Q) : J g y d pc lv (st) F A Q := by
  intro p e s m args below meth c H locs ls C hDD hK hP hS hl
  exact lv_iconst C.1 C.2.1 hd hv (k p e s m args below meth c H locs ls C hDD hK hP hS hl)
theorem j_bipush {n : Int} {v : Int32} (hd : decode y.2.1 pc = .ok (.bipush n, 2)) (hv : (Int8.ofInt n).toInt32 = v) (k : J g y d (pc + 2) lv (.int v :: st) F A Q) : J g y d pc lv (st) F A Q := by
  intro p e s m args below meth c H locs ls C hDD hK hP hS hl
  exact lv_bipush C.1 C.2.1 hd hv (k p e s m args below meth c H locs ls C hDD hK hP hS hl)
theorem j_sipush {n : Int} {v : Int32} (hd : decode y.2.1 pc = .ok (.sipush n, 3)) (hv : (Int16.ofInt n).toInt32 = v) (k : J g y d (pc + 3) lv (.int v :: st) F A Q) : J g y d pc lv (st) F A Q := by
  intro p e s m args below meth c H locs ls C hDD hK hP hS hl
  exact lv_sipush C.1 C.2.1 hd hv (k p e s m args below meth c H locs ls C hDD hK hP hS hl)
theorem j_lconst {n : Fin 2} {v : Int64} (hd : decode y.2.1 pc = .ok (.lconst n, 1)) (hv : Int64.ofNat (n : Nat) = v) (k : J g y d (pc + 1) lv (.long v :: st) F A Q) : J g y d pc lv (st) F A Q := by
  intro p e s m args below meth c H locs ls C hDD hK hP hS hl
  exact lv_lconst C.1 C.2.1 hd hv (k p e s m args below meth c H locs ls C hDD hK hP hS hl)
theorem j_ldc {i : Nat} {v : Int32} (hd : decode y.2.1 pc = .ok (.ldc i, 2)) (hw : Cond.constant y.1.cls i v ∈ mj_TB) (k : J g y d (pc + 2) lv (.int v :: st) F A Q) : J g y d pc lv (st) F A Q := by
  intro p e s m args below meth c H locs ls C hDD hK hP hS hl
  exact lv_ldc C.1 C.2.1 C.2.2.2.2.1 (C.2.2.2.2.2.1 _ (List.mem_cons_of_mem _ hw)) hd (k p e s m args below meth c H locs ls C hDD hK hP hS hl)
theorem j_ldcw {i : Nat} {v : Int32} (hd : decode y.2.1 pc = .ok (.ldc_w i, 3)) (hw : Cond.constant y.1.cls i v ∈ mj_TB) (k : J g y d (pc + 3) lv (.int v :: st) F A Q) : J g y d pc lv (st) F A Q := by
  intro p e s m args below meth c H locs ls C hDD hK hP hS hl
  exact lv_ldcw C.1 C.2.1 C.2.2.2.2.1 (C.2.2.2.2.2.1 _ (List.mem_cons_of_mem _ hw)) hd (k p e s m args below meth c H locs ls C hDD hK hP hS hl)
theorem j_ldc2 {i : Nat} {v : Int64} (hd : decode y.2.1 pc = .ok (.ldc2_w i, 3)) (hw : Cond.constantLong y.1.cls i v ∈ mj_TB) (k : J g y d (pc + 3) lv (.long v :: st) F A Q) : J g y d pc lv (st) F A Q := by
  intro p e s m args below meth c H locs ls C hDD hK hP hS hl
  exact lv_ldc2 C.1 C.2.1 C.2.2.2.2.1 (C.2.2.2.2.2.1 _ (List.mem_cons_of_mem _ hw)) hd (k p e s m args below meth c H locs ls C hDD hK hP hS hl)
theorem mj_lk {g : mj_G} {lv : List (Nat × Value)} {ls : Array Slot} {n i : Nat} {v : Value} (h : lv_has ls n (mj_lv g lv)) (hl : lv.lookup i = some v) : ls[i]? = some (.val (mj_v (mj_ad g) v)) := by
  have hm : (i, v) ∈ lv := by
    clear h
    induction lv with
    | nil => cases hl
    | cons q t ih =>
      obtain ⟨a, b⟩ := q
      simp only [List.lookup] at hl
      split at hl
      · rename_i he
        cases hl
        rw [beq_iff_eq.mp he]
        exact List.mem_cons_self
      · exact List.mem_cons_of_mem _ (ih hl)
  exact h.2.2 (i, mj_v (mj_ad g) v) (List.mem_map.mpr ⟨(i, v), hm, rfl⟩)
theorem j_iload {i : Nat} {x : Int32} (hd : decode y.2.1 pc = .ok (.iload i, 2)) (hl0 : lv.lookup i = some (.int x)) (k : J g y d (pc + 2) lv (.int x :: st) F A Q) : J g y d pc lv (st) F A Q := by
  intro p e s m args below meth c H locs ls C hDD hK hP hS hl
  exact lv_iload C.1 C.2.1 hd (mj_lk hl hl0) (k p e s m args below meth c H locs ls C hDD hK hP hS hl)
theorem j_iload_n {i : Fin 4} {x : Int32} (hd : decode y.2.1 pc = .ok (.iload_n i, 1)) (hl0 : lv.lookup i.val = some (.int x)) (k : J g y d (pc + 1) lv (.int x :: st) F A Q) : J g y d pc lv (st) F A Q := by
  intro p e s m args below meth c H locs ls C hDD hK hP hS hl
  exact lv_iload_n C.1 C.2.1 hd rfl (mj_lk hl hl0) (k p e s m args below meth c H locs ls C hDD hK hP hS hl)
theorem j_lload {i : Nat} {x : Int64} (hd : decode y.2.1 pc = .ok (.lload i, 2)) (hl0 : lv.lookup i = some (.long x)) (k : J g y d (pc + 2) lv (.long x :: st) F A Q) : J g y d pc lv (st) F A Q := by
  intro p e s m args below meth c H locs ls C hDD hK hP hS hl
  exact lv_lload C.1 C.2.1 hd (mj_lk hl hl0) (k p e s m args below meth c H locs ls C hDD hK hP hS hl)
theorem j_lload_n {i : Fin 4} {x : Int64} (hd : decode y.2.1 pc = .ok (.lload_n i, 1)) (hl0 : lv.lookup i.val = some (.long x)) (k : J g y d (pc + 1) lv (.long x :: st) F A Q) : J g y d pc lv (st) F A Q := by
  intro p e s m args below meth c H locs ls C hDD hK hP hS hl
  exact lv_lload_n C.1 C.2.1 hd rfl (mj_lk hl hl0) (k p e s m args below meth c H locs ls C hDD hK hP hS hl)
theorem j_aload {i : Nat} {x : Nat} (hd : decode y.2.1 pc = .ok (.aload i, 2)) (hl0 : lv.lookup i = some (.ref x)) (k : J g y d (pc + 2) lv (.ref x :: st) F A Q) : J g y d pc lv (st) F A Q := by
  intro p e s m args below meth c H locs ls C hDD hK hP hS hl
  exact lv_aload C.1 C.2.1 hd (mj_lk hl hl0) (k p e s m args below meth c H locs ls C hDD hK hP hS hl)
theorem j_aload_n {i : Fin 4} {x : Nat} (hd : decode y.2.1 pc = .ok (.aload_n i, 1)) (hl0 : lv.lookup i.val = some (.ref x)) (k : J g y d (pc + 1) lv (.ref x :: st) F A Q) : J g y d pc lv (st) F A Q := by
  intro p e s m args below meth c H locs ls C hDD hK hP hS hl
  exact lv_aload_n C.1 C.2.1 hd rfl (mj_lk hl hl0) (k p e s m args below meth c H locs ls C hDD hK hP hS hl)
def mj_st (lv : List (Nat × Value)) (i : Nat) (v : Value) : List (Nat × Value) := match lv with
  | [] => [(i, v)]
  | q :: t => if q.1 == i then (i, v) :: t.filter (fun q => !(q.1 == i)) else q :: mj_st t i v
theorem mj_st_in : ∀ (lv : List (Nat × Value)) (i : Nat) (v : Value) (q : Nat × Value), q ∈ mj_st lv i v → q = (i, v) ∨ (q ∈ lv ∧ q.1 ≠ i)
  | [], i, v, q, h => Or.inl (List.mem_singleton.mp h)
  | a :: t, i, v, q, h => by
    unfold mj_st at h
    by_cases ha : (a.1 == i) = true
    · rw [if_pos ha] at h
      rcases List.mem_cons.mp h with h | h
      · exact Or.inl h
      · obtain ⟨h1, h2⟩ := List.mem_filter.mp h
        exact Or.inr ⟨List.mem_cons_of_mem _ h1, by simpa using h2⟩
    · rw [if_neg ha] at h
      rcases List.mem_cons.mp h with h | h
      · rw [h]; exact Or.inr ⟨List.mem_cons_self, by simpa using ha⟩
      · rcases mj_st_in t i v q h with h | h
        · exact Or.inl h
        · exact Or.inr ⟨List.mem_cons_of_mem _ h.1, h.2⟩
theorem mj_sto {g : mj_G} {lv lv' : List (Nat × Value)} {ls : Array Slot} {n i : Nat} {v : Value} (hc : lv.all (fun q => q.2.category == 1) = true) (hl : mj_st lv i v = lv')
    (h : lv_has ls n ((i, mj_v (mj_ad g) v) :: (mj_lv g lv).filter (fun q => !(q.1 == i) && !(q.1 + 1 == i && q.2.category == 2)))) : lv_has ls n (mj_lv g lv') := by
  refine ⟨h.1, h.2.1, fun q hq => h.2.2 q ?_⟩
  subst hl
  obtain ⟨a, ha, rfl⟩ := List.mem_map.mp hq
  rcases mj_st_in lv i v a ha with rfl | ⟨h1, h2⟩
  · exact List.mem_cons_self
  · refine List.mem_cons_of_mem _ (List.mem_filter.mpr ⟨List.mem_map.mpr ⟨a, h1, rfl⟩, ?_⟩)
    have h3 := List.all_eq_true.mp hc a h1
    simp only [beq_iff_eq] at h3
    simp [h2, mj_cat, h3]
theorem j_istore {i : Nat} {x : Int32} {lv' : List (Nat × Value)} (hd : decode y.2.1 pc = .ok (.istore i, 2)) (hn : i < y.2.2.1) (hc : lv.all (fun q => q.2.category == 1) = true) (hl0 : mj_st lv i (.int x) = lv') (k : J g y d (pc + 2) lv' st F A Q) : J g y d pc lv (.int x :: st) F A Q := by
  intro p e s m args below meth c H locs ls C hDD hK hP hS hl
  exact lv_istore C.1 C.2.1 hd hl hn rfl (fun ls hl => k p e s m args below meth c H locs ls C hDD hK hP hS (mj_sto hc hl0 hl))
theorem j_istore_n {i : Fin 4} {x : Int32} {lv' : List (Nat × Value)} (hd : decode y.2.1 pc = .ok (.istore_n i, 1)) (hn : i.val < y.2.2.1) (hc : lv.all (fun q => q.2.category == 1) = true) (hl0 : mj_st lv i.val (.int x) = lv') (k : J g y d (pc + 1) lv' st F A Q) : J g y d pc lv (.int x :: st) F A Q := by
  intro p e s m args below meth c H locs ls C hDD hK hP hS hl
  exact lv_istore_n C.1 C.2.1 hd rfl hl hn rfl (fun ls hl => k p e s m args below meth c H locs ls C hDD hK hP hS (mj_sto hc hl0 hl))
theorem j_astore_n {i : Fin 4} {x : Nat} {lv' : List (Nat × Value)} (hd : decode y.2.1 pc = .ok (.astore_n i, 1)) (hn : i.val < y.2.2.1) (hc : lv.all (fun q => q.2.category == 1) = true) (hl0 : mj_st lv i.val (.ref x) = lv') (k : J g y d (pc + 1) lv' st F A Q) : J g y d pc lv (.ref x :: st) F A Q := by
  intro p e s m args below meth c H locs ls C hDD hK hP hS hl
  exact lv_astore_n C.1 C.2.1 hd rfl hl hn rfl (fun ls hl => k p e s m args below meth c H locs ls C hDD hK hP hS (mj_sto hc hl0 hl))
theorem j_iinc {i : Nat} {n : Int} {x v : Int32} {lv' : List (Nat × Value)} (hd : decode y.2.1 pc = .ok (.iinc i n, 3)) (hx : lv.lookup i = some (.int x)) (hv : x + Int32.ofInt n = v) (hn : i < y.2.2.1) (hc : lv.all (fun q => q.2.category == 1) = true) (hl0 : mj_st lv i (.int v) = lv') (k : J g y d (pc + 3) lv' st F A Q) : J g y d pc lv st F A Q := by
  intro p e s m args below meth c H locs ls C hDD hK hP hS hl
  obtain ⟨j, hj⟩ : ∃ j : Nat, (mj_lv g lv)[j]? = some (i, .int x) := by
    have hm : (i, Value.int x) ∈ mj_lv g lv := by
      clear hl hc hl0
      induction lv with
      | nil => cases hx
      | cons q t ih =>
        obtain ⟨a, b⟩ := q
        simp only [List.lookup] at hx
        split at hx
        · rename_i he
          cases hx
          rw [beq_iff_eq.mp he]
          exact List.mem_cons_self
        · exact List.mem_cons_of_mem _ (ih hx)
    exact List.getElem?_of_mem hm
  exact lv_iinc C.1 C.2.1 hd hl hj hv hn rfl (fun ls hl => k p e s m args below meth c H locs ls C hDD hK hP hS (mj_sto hc hl0 hl))
theorem j_iadd {a b : Int32} (hd : decode y.2.1 pc = .ok (.iadd, 1)) (k : J g y d (pc + 1) lv (.int (a + b) :: st) F A Q) : J g y d pc lv (.int b :: .int a :: st) F A Q := by
  intro p e s m args below meth c H locs ls C hDD hK hP hS hl
  exact lv_iadd C.1 C.2.1 hd (k p e s m args below meth c H locs ls C hDD hK hP hS hl)
theorem j_isub {a b : Int32} (hd : decode y.2.1 pc = .ok (.isub, 1)) (k : J g y d (pc + 1) lv (.int (a - b) :: st) F A Q) : J g y d pc lv (.int b :: .int a :: st) F A Q := by
  intro p e s m args below meth c H locs ls C hDD hK hP hS hl
  exact lv_isub C.1 C.2.1 hd (k p e s m args below meth c H locs ls C hDD hK hP hS hl)
theorem j_imul {a b : Int32} (hd : decode y.2.1 pc = .ok (.imul, 1)) (k : J g y d (pc + 1) lv (.int (a * b) :: st) F A Q) : J g y d pc lv (.int b :: .int a :: st) F A Q := by
  intro p e s m args below meth c H locs ls C hDD hK hP hS hl
  exact lv_imul C.1 C.2.1 hd (k p e s m args below meth c H locs ls C hDD hK hP hS hl)
theorem j_iand {a b : Int32} (hd : decode y.2.1 pc = .ok (.iand, 1)) (k : J g y d (pc + 1) lv (.int (a &&& b) :: st) F A Q) : J g y d pc lv (.int b :: .int a :: st) F A Q := by
  intro p e s m args below meth c H locs ls C hDD hK hP hS hl
  exact lv_iand C.1 C.2.1 hd (k p e s m args below meth c H locs ls C hDD hK hP hS hl)
theorem j_ior {a b : Int32} (hd : decode y.2.1 pc = .ok (.ior, 1)) (k : J g y d (pc + 1) lv (.int (a ||| b) :: st) F A Q) : J g y d pc lv (.int b :: .int a :: st) F A Q := by
  intro p e s m args below meth c H locs ls C hDD hK hP hS hl
  exact lv_ior C.1 C.2.1 hd (k p e s m args below meth c H locs ls C hDD hK hP hS hl)
theorem j_ixor {a b : Int32} (hd : decode y.2.1 pc = .ok (.ixor, 1)) (k : J g y d (pc + 1) lv (.int (a ^^^ b) :: st) F A Q) : J g y d pc lv (.int b :: .int a :: st) F A Q := by
  intro p e s m args below meth c H locs ls C hDD hK hP hS hl
  exact lv_ixor C.1 C.2.1 hd (k p e s m args below meth c H locs ls C hDD hK hP hS hl)
theorem j_ishl {a b : Int32} (hd : decode y.2.1 pc = .ok (.ishl, 1)) (k : J g y d (pc + 1) lv (.int (a <<< (b &&& 31)) :: st) F A Q) : J g y d pc lv (.int b :: .int a :: st) F A Q := by
  intro p e s m args below meth c H locs ls C hDD hK hP hS hl
  exact lv_ishl C.1 C.2.1 hd (k p e s m args below meth c H locs ls C hDD hK hP hS hl)
theorem j_ishr {a b : Int32} (hd : decode y.2.1 pc = .ok (.ishr, 1)) (k : J g y d (pc + 1) lv (.int (a >>> (b &&& 31)) :: st) F A Q) : J g y d pc lv (.int b :: .int a :: st) F A Q := by
  intro p e s m args below meth c H locs ls C hDD hK hP hS hl
  exact lv_ishr C.1 C.2.1 hd (k p e s m args below meth c H locs ls C hDD hK hP hS hl)
theorem j_idiv {a b : Int32} (hd : decode y.2.1 pc = .ok (.idiv, 1)) (hne : ¬ b = 0) (k : J g y d (pc + 1) lv (.int (a / b) :: st) F A Q) : J g y d pc lv (.int b :: .int a :: st) F A Q := by
  intro p e s m args below meth c H locs ls C hDD hK hP hS hl
  exact lv_idiv C.1 C.2.1 hd hne (k p e s m args below meth c H locs ls C hDD hK hP hS hl)
theorem j_irem {a b : Int32} (hd : decode y.2.1 pc = .ok (.irem, 1)) (hne : ¬ b = 0) (k : J g y d (pc + 1) lv (.int (a - a / b * b) :: st) F A Q) : J g y d pc lv (.int b :: .int a :: st) F A Q := by
  intro p e s m args below meth c H locs ls C hDD hK hP hS hl
  exact lv_irem C.1 C.2.1 hd hne (k p e s m args below meth c H locs ls C hDD hK hP hS hl)
theorem j_iushr {a b v : Int32} (hd : decode y.2.1 pc = .ok (.iushr, 1)) (hv : (a.toUInt32 >>> (b.toUInt32 &&& Int32.toUInt32 31)).toInt32 = v) (k : J g y d (pc + 1) lv (.int v :: st) F A Q) : J g y d pc lv (.int b :: .int a :: st) F A Q := by
  intro p e s m args below meth c H locs ls C hDD hK hP hS hl
  exact lv_iushr C.1 C.2.1 hd hv (k p e s m args below meth c H locs ls C hDD hK hP hS hl)
theorem j_i2l {a : Int32} {v : Int64} (hd : decode y.2.1 pc = .ok (.i2l, 1)) (hv : a.toInt64 = v) (k : J g y d (pc + 1) lv (.long v :: st) F A Q) : J g y d pc lv (.int a :: st) F A Q := by
  intro p e s m args below meth c H locs ls C hDD hK hP hS hl
  exact lv_i2l C.1 C.2.1 hd hv (k p e s m args below meth c H locs ls C hDD hK hP hS hl)
theorem j_i2c {a v : Int32} (hd : decode y.2.1 pc = .ok (.i2c, 1)) (hv : (a.toUInt32 % 65536).toInt32 = v) (k : J g y d (pc + 1) lv (.int v :: st) F A Q) : J g y d pc lv (.int a :: st) F A Q := by
  intro p e s m args below meth c H locs ls C hDD hK hP hS hl
  exact lv_i2c C.1 C.2.1 hd hv (k p e s m args below meth c H locs ls C hDD hK hP hS hl)
theorem j_lcmp {a b : Int64} (hd : decode y.2.1 pc = .ok (.lcmp, 1)) (k : J g y d (pc + 1) lv (.int (lg_cmp a b) :: st) F A Q) : J g y d pc lv (.long b :: .long a :: st) F A Q := by
  intro p e s m args below meth c H locs ls C hDD hK hP hS hl
  exact W.lcmp C.1 C.2.1 hd (k p e s m args below meth c H locs ls C hDD hK hP hS hl)
theorem j_dup {a : Value} (hd : decode y.2.1 pc = .ok (.dup, 1)) (hc : a.category = 1) (k : J g y d (pc + 1) lv (a :: a :: st) F A Q) : J g y d pc lv (a :: st) F A Q := by
  intro p e s m args below meth c H locs ls C hDD hK hP hS hl
  exact lv_dup C.1 C.2.1 hd ((mj_cat _ _).trans hc) (k p e s m args below meth c H locs ls C hDD hK hP hS hl)
theorem j_dup2 {a b : Value} (hd : decode y.2.1 pc = .ok (.dup2, 1)) (hc : a.category = 1) (hc2 : b.category = 1) (k : J g y d (pc + 1) lv (a :: b :: a :: b :: st) F A Q) : J g y d pc lv (a :: b :: st) F A Q := by
  intro p e s m args below meth c H locs ls C hDD hK hP hS hl
  exact lv_dup2_11 C.1 C.2.1 hd ((mj_cat _ _).trans hc) ((mj_cat _ _).trans hc2) (k p e s m args below meth c H locs ls C hDD hK hP hS hl)
theorem j_pop {a : Value} (hd : decode y.2.1 pc = .ok (.pop, 1)) (hc : a.category = 1) (k : J g y d (pc + 1) lv (st) F A Q) : J g y d pc lv (a :: st) F A Q := by
  intro p e s m args below meth c H locs ls C hDD hK hP hS hl
  exact lv_pop C.1 C.2.1 hd ((mj_cat _ _).trans hc) (k p e s m args below meth c H locs ls C hDD hK hP hS hl)
theorem j_goto {off : Int} {tgt : Nat} (hd : decode y.2.1 pc = .ok (.goto off, 3)) (ht : (pc : Int) + off = (tgt : Int)) (k : J g y d tgt lv st F A Q) : J g y d pc lv st F A Q := by
  intro p e s m args below meth c H locs ls C hDD hK hP hS hl
  exact lv_goto C.1 C.2.1 hd ht (k p e s m args below meth c H locs ls C hDD hK hP hS hl)
theorem j_if_eq {a : Int32} {off : Int} {tgt : Nat} (hd : decode y.2.1 pc = .ok (.ifCond .eq off, 3)) (ht : (pc : Int) + off = (tgt : Int)) (kt : a = 0 → J g y d tgt lv st F A Q) (kf : ¬ a = 0 → J g y d (pc + 3) lv st F A Q) : J g y d pc lv (.int a :: st) F A Q := by
  intro p e s m args below meth c H locs ls C hDD hK hP hS hl
  exact lv_if_eq C.1 C.2.1 hd ht (fun h => kt h p e s m args below meth c H locs ls C hDD hK hP hS hl) (fun h => kf h p e s m args below meth c H locs ls C hDD hK hP hS hl)
theorem j_icmp_eq {a b : Int32} {off : Int} {tgt : Nat} (hd : decode y.2.1 pc = .ok (.if_icmp .eq off, 3)) (ht : (pc : Int) + off = (tgt : Int)) (kt : a = b → J g y d tgt lv st F A Q) (kf : ¬ a = b → J g y d (pc + 3) lv st F A Q) : J g y d pc lv (.int b :: .int a :: st) F A Q := by
  intro p e s m args below meth c H locs ls C hDD hK hP hS hl
  exact lv_icmp_eq C.1 C.2.1 hd ht (fun h => kt h p e s m args below meth c H locs ls C hDD hK hP hS hl) (fun h => kf h p e s m args below meth c H locs ls C hDD hK hP hS hl)
theorem j_if_ne {a : Int32} {off : Int} {tgt : Nat} (hd : decode y.2.1 pc = .ok (.ifCond .ne off, 3)) (ht : (pc : Int) + off = (tgt : Int)) (kt : ¬ a = 0 → J g y d tgt lv st F A Q) (kf : a = 0 → J g y d (pc + 3) lv st F A Q) : J g y d pc lv (.int a :: st) F A Q := by
  intro p e s m args below meth c H locs ls C hDD hK hP hS hl
  exact lv_if_ne C.1 C.2.1 hd ht (fun h => kt h p e s m args below meth c H locs ls C hDD hK hP hS hl) (fun h => kf h p e s m args below meth c H locs ls C hDD hK hP hS hl)
theorem j_icmp_ne {a b : Int32} {off : Int} {tgt : Nat} (hd : decode y.2.1 pc = .ok (.if_icmp .ne off, 3)) (ht : (pc : Int) + off = (tgt : Int)) (kt : ¬ a = b → J g y d tgt lv st F A Q) (kf : a = b → J g y d (pc + 3) lv st F A Q) : J g y d pc lv (.int b :: .int a :: st) F A Q := by
  intro p e s m args below meth c H locs ls C hDD hK hP hS hl
  exact lv_icmp_ne C.1 C.2.1 hd ht (fun h => kt h p e s m args below meth c H locs ls C hDD hK hP hS hl) (fun h => kf h p e s m args below meth c H locs ls C hDD hK hP hS hl)
theorem j_if_lt {a : Int32} {off : Int} {tgt : Nat} (hd : decode y.2.1 pc = .ok (.ifCond .lt off, 3)) (ht : (pc : Int) + off = (tgt : Int)) (kt : a < 0 → J g y d tgt lv st F A Q) (kf : ¬ a < 0 → J g y d (pc + 3) lv st F A Q) : J g y d pc lv (.int a :: st) F A Q := by
  intro p e s m args below meth c H locs ls C hDD hK hP hS hl
  exact lv_if_lt C.1 C.2.1 hd ht (fun h => kt h p e s m args below meth c H locs ls C hDD hK hP hS hl) (fun h => kf h p e s m args below meth c H locs ls C hDD hK hP hS hl)
theorem j_icmp_lt {a b : Int32} {off : Int} {tgt : Nat} (hd : decode y.2.1 pc = .ok (.if_icmp .lt off, 3)) (ht : (pc : Int) + off = (tgt : Int)) (kt : a < b → J g y d tgt lv st F A Q) (kf : ¬ a < b → J g y d (pc + 3) lv st F A Q) : J g y d pc lv (.int b :: .int a :: st) F A Q := by
  intro p e s m args below meth c H locs ls C hDD hK hP hS hl
  exact lv_icmp_lt C.1 C.2.1 hd ht (fun h => kt h p e s m args below meth c H locs ls C hDD hK hP hS hl) (fun h => kf h p e s m args below meth c H locs ls C hDD hK hP hS hl)
theorem j_if_ge {a : Int32} {off : Int} {tgt : Nat} (hd : decode y.2.1 pc = .ok (.ifCond .ge off, 3)) (ht : (pc : Int) + off = (tgt : Int)) (kt : 0 ≤ a → J g y d tgt lv st F A Q) (kf : ¬ 0 ≤ a → J g y d (pc + 3) lv st F A Q) : J g y d pc lv (.int a :: st) F A Q := by
  intro p e s m args below meth c H locs ls C hDD hK hP hS hl
  exact lv_if_ge C.1 C.2.1 hd ht (fun h => kt h p e s m args below meth c H locs ls C hDD hK hP hS hl) (fun h => kf h p e s m args below meth c H locs ls C hDD hK hP hS hl)
theorem j_icmp_ge {a b : Int32} {off : Int} {tgt : Nat} (hd : decode y.2.1 pc = .ok (.if_icmp .ge off, 3)) (ht : (pc : Int) + off = (tgt : Int)) (kt : b ≤ a → J g y d tgt lv st F A Q) (kf : ¬ b ≤ a → J g y d (pc + 3) lv st F A Q) : J g y d pc lv (.int b :: .int a :: st) F A Q := by
  intro p e s m args below meth c H locs ls C hDD hK hP hS hl
  exact lv_icmp_ge C.1 C.2.1 hd ht (fun h => kt h p e s m args below meth c H locs ls C hDD hK hP hS hl) (fun h => kf h p e s m args below meth c H locs ls C hDD hK hP hS hl)
theorem j_if_gt {a : Int32} {off : Int} {tgt : Nat} (hd : decode y.2.1 pc = .ok (.ifCond .gt off, 3)) (ht : (pc : Int) + off = (tgt : Int)) (kt : 0 < a → J g y d tgt lv st F A Q) (kf : ¬ 0 < a → J g y d (pc + 3) lv st F A Q) : J g y d pc lv (.int a :: st) F A Q := by
  intro p e s m args below meth c H locs ls C hDD hK hP hS hl
  exact lv_if_gt C.1 C.2.1 hd ht (fun h => kt h p e s m args below meth c H locs ls C hDD hK hP hS hl) (fun h => kf h p e s m args below meth c H locs ls C hDD hK hP hS hl)
theorem j_icmp_gt {a b : Int32} {off : Int} {tgt : Nat} (hd : decode y.2.1 pc = .ok (.if_icmp .gt off, 3)) (ht : (pc : Int) + off = (tgt : Int)) (kt : b < a → J g y d tgt lv st F A Q) (kf : ¬ b < a → J g y d (pc + 3) lv st F A Q) : J g y d pc lv (.int b :: .int a :: st) F A Q := by
  intro p e s m args below meth c H locs ls C hDD hK hP hS hl
  exact lv_icmp_gt C.1 C.2.1 hd ht (fun h => kt h p e s m args below meth c H locs ls C hDD hK hP hS hl) (fun h => kf h p e s m args below meth c H locs ls C hDD hK hP hS hl)
theorem j_if_le {a : Int32} {off : Int} {tgt : Nat} (hd : decode y.2.1 pc = .ok (.ifCond .le off, 3)) (ht : (pc : Int) + off = (tgt : Int)) (kt : a ≤ 0 → J g y d tgt lv st F A Q) (kf : ¬ a ≤ 0 → J g y d (pc + 3) lv st F A Q) : J g y d pc lv (.int a :: st) F A Q := by
  intro p e s m args below meth c H locs ls C hDD hK hP hS hl
  exact lv_if_le C.1 C.2.1 hd ht (fun h => kt h p e s m args below meth c H locs ls C hDD hK hP hS hl) (fun h => kf h p e s m args below meth c H locs ls C hDD hK hP hS hl)
theorem j_icmp_le {a b : Int32} {off : Int} {tgt : Nat} (hd : decode y.2.1 pc = .ok (.if_icmp .le off, 3)) (ht : (pc : Int) + off = (tgt : Int)) (kt : a ≤ b → J g y d tgt lv st F A Q) (kf : ¬ a ≤ b → J g y d (pc + 3) lv st F A Q) : J g y d pc lv (.int b :: .int a :: st) F A Q := by
  intro p e s m args below meth c H locs ls C hDD hK hP hS hl
  exact lv_icmp_le C.1 C.2.1 hd ht (fun h => kt h p e s m args below meth c H locs ls C hDD hK hP hS hl) (fun h => kf h p e s m args below meth c H locs ls C hDD hK hP hS hl)
theorem j_tIn {dflt lo hi : Int} {offs : Array Int} {len : Nat} {x : Int32} {off : Int} {tgt : Nat} (hd : decode y.2.1 pc = .ok (.tableswitch dflt lo hi offs, len)) (h1 : ¬ x.toInt < lo) (h2 : ¬ hi < x.toInt) (ho : offs[(x.toInt - lo).toNat]? = some off) (ht : (pc : Int) + off = (tgt : Int)) (k : J g y d tgt lv st F A Q) : J g y d pc lv (.int x :: st) F A Q := by
  intro p e s m args below meth c H locs ls C hDD hK hP hS hl
  exact lv_tableIn C.1 C.2.1 hd h1 h2 ho ht (k p e s m args below meth c H locs ls C hDD hK hP hS hl)
theorem j_tOut {dflt lo hi : Int} {offs : Array Int} {len : Nat} {x : Int32} {tgt : Nat} (hd : decode y.2.1 pc = .ok (.tableswitch dflt lo hi offs, len)) (h : x.toInt < lo ∨ hi < x.toInt) (ht : (pc : Int) + dflt = (tgt : Int)) (k : J g y d tgt lv st F A Q) : J g y d pc lv (.int x :: st) F A Q := by
  intro p e s m args below meth c H locs ls C hDD hK hP hS hl
  exact lv_tableOut C.1 C.2.1 hd h ht (k p e s m args below meth c H locs ls C hDD hK hP hS hl)
theorem j_iret {x : Int32} {ty : FieldType} (hd : decode y.2.1 pc = .ok (.ireturn, 1)) (hr : y.2.2.2 = some ty) (hn : narrow ty (.int x) = .int x) (q : Q (some (.int x)) F A) : J g y d pc lv [.int x] F A Q := by
  intro p e s m args below meth c H locs ls C hDD hK hP hS hl
  exact W.zret C.1 C.2.1 (C.2.2.1.trans hr) hn (fun t ht hW => ⟨⟨some (.int x), F, A, rfl, q, by rw [ht]; exact hP⟩, hS.F ht⟩) hS.2.2 hd C.2.2.2.2.2.2
theorem j_vret (hd : decode y.2.1 pc = .ok (.return_, 1)) (hr : y.2.2.2 = none) (q : Q none F A) : J g y d pc lv [] F A Q := by
  intro p e s m args below meth c H locs ls C hDD hK hP hS hl
  exact W.vret C.1 C.2.1 (C.2.2.1.trans hr) (fun t ht hW => ⟨⟨none, F, A, rfl, q, by rw [ht]; exact hP⟩, hS.F ht⟩) hS.2.2 hd C.2.2.2.2.2.2
def mj_FL (own : String) (idx ci s : Nat) : Prop := ∃ q : vw_C, vwCl[ci]? = some q ∧ s < q.2.2 ∧ Cond.fieldLink own idx (q.2.1 s).1 (q.2.1 s).2.1 (q.2.1 s).2.2.1 ∈ mj_TB
def mj_FP (own : String) (idx ci s : Nat) (ty : FieldType) : Prop := ∃ q : vw_C, vwCl[ci]? = some q ∧ s < q.2.2 ∧ Cond.fieldLink own idx (q.2.1 s).1 (q.2.1 s).2.1 (q.2.1 s).2.2.1 ∈ mj_TB ∧ (q.2.1 s).2.2.2 = false ∧ parseFieldDescriptor (q.2.1 s).2.2.1 = some ty
theorem mj_inX0 : ∀ w ∈ u_ws RX0 TX0 7, w ∈ mj_TB := mj_ins _ [113, 115, 117, 119, 121, 123, 125] (by decide +kernel) (by decide +kernel)
theorem mj_inX1 : ∀ w ∈ u_ws RX1 TX1 4, w ∈ mj_TB := mj_ins _ [140, 142, 144, 146] (by decide +kernel) (by decide +kernel)
theorem mj_inX2 : ∀ w ∈ u_ws RX2 TX2 7, w ∈ mj_TB := mj_ins _ [198, 200, 202, 204, 206, 208, 210] (by decide +kernel) (by decide +kernel)
theorem mj_inX3 : ∀ w ∈ u_ws RX3 TX3 9, w ∈ mj_TB := mj_ins _ [233, 235, 237, 239, 241, 243, 245, 247, 249] (by decide +kernel) (by decide +kernel)
theorem mj_inX4 : ∀ w ∈ u_ws RX4 TX4 5, w ∈ mj_TB := mj_ins _ [168, 170, 172, 174, 176] (by decide +kernel) (by decide +kernel)
theorem mj_inX5 : ∀ w ∈ u_ws RX5 TX5 17, w ∈ mj_TB := mj_ins _ [415, 417, 419, 421, 423, 425, 427, 429, 431, 433, 435, 437, 439, 441, 443, 445, 447] (by decide +kernel) (by decide +kernel)
theorem mj_inX6 : ∀ w ∈ u_ws RX6 TX6 27, w ∈ mj_TB := mj_ins _ [793, 795, 797, 799, 801, 803, 805, 807, 809, 811, 813, 815, 817, 819, 821, 823, 825, 827, 829, 831, 833, 835, 837, 839, 841, 843, 845] (by decide +kernel) (by decide +kernel)
theorem mj_cls (ci : Nat) (q : vw_C) (h : vwCl[ci]? = some q) : (∀ w ∈ u_ws q.1 q.2.1 q.2.2, w ∈ mj_TB) ∧ (∃ ty0 : Nat → FieldType, ∀ k, k < q.2.2 → parseFieldDescriptor (q.2.1 k).2.2.1 = some (ty0 k)) ∧ ∀ a, a < q.2.2 → ∀ b, b < q.2.2 → a ≠ b → (q.2.1 a).2.1 ≠ (q.2.1 b).2.1 := by
  match ci, h with
  | 0, h => cases h; exact ⟨mj_inX0, ⟨tyX0, tyX0_ok⟩, nmX0⟩
  | 1, h => cases h; exact ⟨mj_inX1, ⟨tyX1, tyX1_ok⟩, nmX1⟩
  | 2, h => cases h; exact ⟨mj_inX2, ⟨tyX2, tyX2_ok⟩, nmX2⟩
  | 3, h => cases h; exact ⟨mj_inX3, ⟨tyX3, tyX3_ok⟩, nmX3⟩
  | 4, h => cases h; exact ⟨mj_inX4, ⟨tyX4, tyX4_ok⟩, nmX4⟩
  | 5, h => cases h; exact ⟨mj_inX5, ⟨tyX5, tyX5_ok⟩, nmX5⟩
  | 6, h => cases h; exact ⟨mj_inX6, ⟨tyX6, tyX6_ok⟩, nmX6⟩
  | k + 7, h => simp [vwCl] at h
theorem j_get {idx b ci i : Nat} {ts : List Value} {v0 v : Value} (hd : decode y.2.1 pc = .ok (.getfield idx, 3)) (fl : mj_FL y.1.cls idx ci i) (hb : b < (mj_n g)) (hsh : mj_sh g b = .inr (ci, ts)) (ht : ts[i]? = some v0) (hv : ∀ ad : Nat → Nat, mj_f ad (F b) i v0 = mj_v ad v) (k : J g y d (pc + 3) lv (v :: st) F A Q) : J g y d pc lv (.ref b :: st) F A Q := by
  intro p e s m args below meth c H locs ls C hDD hK hP hS hl
  obtain ⟨q, h1, h2, h3⟩ := fl
  have he := mj_w_at g F A hb
  rw [hsh] at he
  exact va_get (D := mj_D g) (ci := ci) (C := q.1) (T := q.2.1) (N := q.2.2) (Ts := mj_ws y) C.1 C.2.1 C.2.2.2.2.2.1 (fun w hw => List.mem_cons_of_mem _ ((mj_cls ci q h1).1 w hw)) C.2.2.2.2.1 hK hP b he h1 i h2 (C.2.2.2.2.2.1 _ (List.mem_cons_of_mem _ h3)) (fun _ h9 => h9) (by rw [List.getElem?_mapIdx, ht]; exact congrArg some (hv (mj_ad g))) hd (k p e s m args below meth c H locs ls C hDD hK hP hS hl)
theorem j_getI {idx b ci i : Nat} {ts : List Value} {z : Int32} (hd : decode y.2.1 pc = .ok (.getfield idx, 3)) (fl : mj_FL y.1.cls idx ci i) (hb : b < (mj_n g)) (hsh : mj_sh g b = .inr (ci, ts)) (ht : ts[i]? = some (.int z)) (k : J g y d (pc + 3) lv (.int (F b i) :: st) F A Q) : J g y d pc lv (.ref b :: st) F A Q := j_get hd fl hb hsh ht (fun _ => rfl) k
theorem j_getR {idx b ci i r : Nat} {ts : List Value} (hd : decode y.2.1 pc = .ok (.getfield idx, 3)) (fl : mj_FL y.1.cls idx ci i) (hb : b < (mj_n g)) (hsh : mj_sh g b = .inr (ci, ts)) (ht : ts[i]? = some (.ref r)) (k : J g y d (pc + 3) lv (.ref r :: st) F A Q) : J g y d pc lv (.ref b :: st) F A Q := j_get hd fl hb hsh ht (fun _ => rfl) k
theorem mj_put_eq (ad : Nat → Nat) (f : Nat → Int32) (i : Nat) (x z : Int32) (ts : List Value) (ht : ts[i]? = some (.int z)) : (ts.mapIdx (mj_f ad f)).set i (.int x) = ts.mapIdx (mj_f ad (upd f i x)) := by
  apply List.ext_getElem?
  intro j
  rw [List.getElem?_set, List.getElem?_mapIdx, List.getElem?_mapIdx]
  by_cases hj : i = j
  · subst hj
    have hlt : i < ts.length := (List.getElem?_eq_some_iff.mp ht).1
    rw [if_pos rfl, if_pos (by simpa using hlt), ht]
    simp [mj_f, upd]
  · rw [if_neg hj]
    cases hq : ts[j]? with
    | none => rfl
    | some v =>
      have : j ≠ i := fun h => hj h.symm
      cases v <;> simp [mj_f, upd, this]
theorem j_put {idx b ci i : Nat} {ts : List Value} {z x : Int32} {ty : FieldType} (hd : decode y.2.1 pc = .ok (.putfield idx, 3)) (fp : mj_FP y.1.cls idx ci i ty) (hb : b < (mj_n g)) (hsh : mj_sh g b = .inr (ci, ts)) (ht : ts[i]? = some (.int z)) (hn : narrow ty (.int x) = .int x) (hfit : fits ty (.int x) = true) (k : J g y d (pc + 3) lv st (mj_u F b i x) A Q) : J g y d pc lv (.int x :: .ref b :: st) F A Q := by
  intro p e s m args below meth c H locs ls C hDD hK hP hS hl
  obtain ⟨q, h1, h2, h3, h4, h5⟩ := fp
  obtain ⟨c1, ⟨ty0, c2⟩, c3⟩ := mj_cls ci q h1
  have he := mj_w_at g F A hb
  rw [hsh] at he
  have hlt : i < ts.length := (List.getElem?_eq_some_iff.mp ht).1
  refine va_put (v := .int x) (D := mj_D g) (ci := ci) (C := q.1) (T := q.2.1) (N := q.2.2) (Ts := mj_ws y) C.1 C.2.1 C.2.2.2.2.2.1 (fun w hw => List.mem_cons_of_mem _ (c1 w hw)) ty0 c2 c3 C.2.2.2.2.1 hK hP (hDD.1.D F A) hS b he h1 i h2 (C.2.2.2.2.2.1 _ (List.mem_cons_of_mem _ h3)) (fun _ h9 => h9) h4 h5 hn hfit (by simpa using hlt) hd (fun H1 locs1 hP1 _ hS1 => ?_)
  rw [mj_w_set g (F' := mj_u F b i x) (A' := A) hb (by rw [hsh, mj_u_at]; show _ = Sum.inr _; rw [mj_put_eq _ _ _ _ z _ ht]) (fun j hj => (mj_u_ne F x hj).symm) (fun _ _ => rfl)] at hP1
  exact k p e s m args below meth c H1 locs1 ls C hDD hK hP1 hS1 hl
theorem j_putI {idx b ci i : Nat} {ts : List Value} {z x : Int32} (hd : decode y.2.1 pc = .ok (.putfield idx, 3)) (fp : mj_FP y.1.cls idx ci i .int) (hb : b < (mj_n g)) (hsh : mj_sh g b = .inr (ci, ts)) (ht : ts[i]? = some (.int z)) (k : J g y d (pc + 3) lv st (mj_u F b i x) A Q) : J g y d pc lv (.int x :: .ref b :: st) F A Q := j_put hd fp hb hsh ht rfl rfl k
theorem j_iald {b n : Nat} {z : Nat → Int32} {i : Int32} (hd : decode y.2.1 pc = .ok (.iaload, 1)) (hb : b < (mj_n g)) (hsh : mj_sh g b = .inl (0, n, .inl z)) (hi : vp_in i n) (k : J g y d (pc + 1) lv (.int (A b i.toNatClampNeg) :: st) F A Q) : J g y d pc lv (.int i :: .ref b :: st) F A Q := by
  intro p e s m args below meth c H locs ls C hDD hK hP hS hl
  have he := mj_w_at g F A hb
  rw [hsh] at he
  exact va_iald C.1 C.2.1 hK hP b 0 he rfl hi hd (k p e s m args below meth c H locs ls C hDD hK hP hS hl)
theorem j_cald {b n : Nat} {z : Nat → Int32} {i : Int32} (hd : decode y.2.1 pc = .ok (.caload, 1)) (hb : b < (mj_n g)) (hsh : mj_sh g b = .inl (1, n, .inl z)) (hi : vp_in i n) (k : J g y d (pc + 1) lv (.int (A b i.toNatClampNeg) :: st) F A Q) : J g y d pc lv (.int i :: .ref b :: st) F A Q := by
  intro p e s m args below meth c H locs ls C hDD hK hP hS hl
  have he := mj_w_at g F A hb
  rw [hsh] at he
  exact va_cald C.1 C.2.1 hK hP b 1 he rfl hi hd (k p e s m args below meth c H locs ls C hDD hK hP hS hl)
theorem j_iast {b n : Nat} {z : Nat → Int32} {i x : Int32} (hd : decode y.2.1 pc = .ok (.iastore, 1)) (hb : b < (mj_n g)) (hsh : mj_sh g b = .inl (0, n, .inl z)) (hi : vp_in i n) (k : J g y d (pc + 1) lv st F (mj_u A b i.toNatClampNeg x) Q) : J g y d pc lv (.int x :: .int i :: .ref b :: st) F A Q := by
  intro p e s m args below meth c H locs ls C hDD hK hP hS hl
  have he := mj_w_at g F A hb
  rw [hsh] at he
  refine va_iast C.1 C.2.1 hK hP (hDD.1.D F A) hS b 0 he rfl hi hd (fun H1 locs1 hP1 _ hS1 => ?_)
  rw [mj_w_set g (F' := F) (A' := mj_u A b i.toNatClampNeg x) hb (by rw [hsh, mj_u_at]; rfl) (fun _ _ => rfl) (fun j hj => (mj_u_ne A x hj).symm)] at hP1
  exact k p e s m args below meth c H1 locs1 ls C hDD hK hP1 hS1 hl
theorem j_cast {b n : Nat} {z : Nat → Int32} {i x : Int32} (hd : decode y.2.1 pc = .ok (.castore, 1)) (hb : b < (mj_n g)) (hsh : mj_sh g b = .inl (1, n, .inl z)) (hi : vp_in i n) (k : J g y d (pc + 1) lv st F (mj_u A b i.toNatClampNeg (vp_nar .char x)) Q) : J g y d pc lv (.int x :: .int i :: .ref b :: st) F A Q := by
  intro p e s m args below meth c H locs ls C hDD hK hP hS hl
  have he := mj_w_at g F A hb
  rw [hsh] at he
  refine va_cast C.1 C.2.1 hK hP (hDD.1.D F A) hS b 1 he rfl hi hd (fun H1 locs1 hP1 _ hS1 => ?_)
  rw [mj_w_set g (F' := F) (A' := mj_u A b i.toNatClampNeg (vp_nar .char x)) hb (by rw [hsh, mj_u_at]; rfl) (fun _ _ => rfl) (fun j hj => (mj_u_ne A _ hj).symm)] at hP1
  exact k p e s m args below meth c H1 locs1 ls C hDD hK hP1 hS1 hl
theorem j_alen {b t n : Nat} {x : (Nat → Int32) ⊕ (Nat → Int64) ⊕ (Nat → UInt32) ⊕ (Nat → UInt64) ⊕ (Nat → Option Nat)} {v : Int32} (hd : decode y.2.1 pc = .ok (.arraylength, 1)) (hb : b < (mj_n g)) (hsh : mj_sh g b = .inl (t, n, x)) (ht : t < 3) (hv : Int32.ofNat n = v) (k : J g y d (pc + 1) lv (.int v :: st) F A Q) : J g y d pc lv (.ref b :: st) F A Q := by
  intro p e s m args below meth c H locs ls C hDD hK hP hS hl
  have he := mj_w_at g F A hb
  rw [hsh] at he
  match t, ht with
  | 0, _ => exact va_alen C.1 C.2.1 hK hP b 0 he rfl hv hd (k p e s m args below meth c H locs ls C hDD hK hP hS hl)
  | 1, _ => exact va_alen C.1 C.2.1 hK hP b 1 he rfl hv hd (k p e s m args below meth c H locs ls C hDD hK hP hS hl)
  | 2, _ => exact va_alen C.1 C.2.1 hK hP b 2 he rfl hv hd (k p e s m args below meth c H locs ls C hDD hK hP hS hl)
theorem j_aald {b n : Nat} {z : Nat → Option Nat} {i : Int32} (hd : decode y.2.1 pc = .ok (.aaload, 1)) (hb : b < (mj_n g)) (hsh : mj_sh g b = .inl (2, n, .inr (.inr (.inr (.inr z))))) (hi : vp_in i n) (k : J g y d (pc + 1) lv (.ref (A b i.toNatClampNeg).toNatClampNeg :: st) F A Q) : J g y d pc lv (.int i :: .ref b :: st) F A Q := by
  intro p e s m args below meth c H locs ls C hDD hK hP hS hl
  have he := mj_w_at g F A hb
  rw [hsh] at he
  exact va_aldq C.1 C.2.1 hK hP b 2 he rfl hi hd (k p e s m args below meth c H locs ls C hDD hK hP hS hl)
theorem j_aast {b n r : Nat} {z : Nat → Option Nat} {i : Int32} {ts : List Value} (hd : decode y.2.1 pc = .ok (.aastore, 1)) (hb : b < (mj_n g)) (hsh : mj_sh g b = .inl (2, n, .inr (.inr (.inr (.inr z))))) (hr : r < (mj_n g)) (hr2 : r < 2 ^ 31) (hsr : mj_sh g r = .inr (0, ts)) (hi : vp_in i n) (k : J g y d (pc + 1) lv st F (mj_u A b i.toNatClampNeg (nI r)) Q) : J g y d pc lv (.ref r :: .int i :: .ref b :: st) F A Q := by
  intro p e s m args below meth c H locs ls C hDD hK hP hS hl
  have he := mj_w_at g F A hb
  rw [hsh] at he
  have her := mj_w_at g F A hr
  rw [hsr] at her
  refine va_astq C.1 C.2.1 hK hP (hDD.1.D F A) hS b 2 r 0 (r := (RX0, TX0, 7)) he rfl her rfl hi hd (fun H1 locs1 hP1 _ hS1 => ?_)
  rw [mj_w_set g (F' := F) (A' := mj_u A b i.toNatClampNeg (nI r)) hb (by
    rw [hsh, mj_u_at]
    refine congrArg (fun f => (Sum.inl (mj_dA g 2, n, Sum.inr (Sum.inr (Sum.inr (Sum.inr f)))) : va_E)) (funext fun j => ?_)
    by_cases hj : j = i.toNatClampNeg
    · subst hj
      simp [va_up, upd, nI_clamp (n := r) hr2]
    · simp [va_up, upd, hj]) (fun _ _ => rfl) (fun j hj => (mj_u_ne A _ hj).symm)] at hP1
  exact k p e s m args below meth c H1 locs1 ls C hDD hK hP1 hS1 hl
theorem mj_cb {y y' : mj_Y} {d n idx : Nat} {p : Program} {s : State} {m : MethodId} {args : Array Value} {meth : Method} {c : Code} (C : mj_Cx y p s m args meth c) (ok : mj_OK y' n) (hl : Cond.methodLink y.1.cls idx y'.1 ∈ mj_TB) : CallB (mj_rm (d + 1)) s args y.1.cls idx y'.1 y'.2.1 y'.2.2.1 y'.2.2.2 (mj_ws y') (mj_rm d) 0 0 n :=
  callB_of n C.2.2.2.2.2.1 (mj_good2 y y' ok.1) rfl rfl rfl (C.2.2.2.2.2.1 _ (List.mem_cons_of_mem _ ok.2.1)) (C.2.2.2.2.2.1 _ (List.mem_cons_of_mem _ hl)) ok.2.2.1 ⟨Nat.le_refl _, by have h := ok.2.2.2.2; show 8 + (y'.2.2.1 + 11) + 64 * d ≤ 64 * (d + 1); omega⟩
theorem j_callV {y' : mj_Y} {idx n b ci : Nat} {As : List Value} {Q' : Option Value → mj_S → mj_S → Prop} {ts : List Value} {q : vw_C} (hd : decode y.2.1 pc = .ok (.invokevirtual idx, 3)) (hl0 : Cond.methodLink y.1.cls idx y'.1 ∈ mj_TB) (ok : mj_OK y' n) (hi : Cond.instanceMethod y'.1 ∈ mj_TB) (hse : Cond.selects y'.1.cls y'.1 y'.1 ∈ mj_TB) (hb : b < (mj_n g)) (hsh : mj_sh g b = .inr (ci, ts)) (hc : vwCl[ci]? = some q) (hq : q.1 = y'.1.cls) (hn : As.length = n) (hlen : (lg_sl (.ref b :: As)).length ≤ y'.2.2.1) (hr : (st.map fun v => v.category).sum ≤ 8)
    (hM : J g y' d 0 (lv_args 0 (.ref b :: As)) [] F A Q') (k : ∀ (v : Option Value) (F' A' : mj_S), Q' v F' A' → J g y (d + 1) (pc + 3) lv (v.toList ++ st) F' A' Q) : J g y (d + 1) pc lv (As.reverse ++ .ref b :: st) F A Q := by
  intro p e s m args below meth c H locs ls C hDD hK hP hS hl
  have he := mj_w_at g F A hb
  rw [hsh] at he
  have hrecv := va_recv hK hP hc he
  rw [hq] at hrecv
  refine mj_call (va_runV (As := As.map (mj_v (mj_ad g))) (rest := st.map (mj_v (mj_ad g))) (b := mj_ad g b) ⟨C.1, C.2.1, C.2.2.2.1, C.2.2.2.2.1, C.2.2.2.2.2.1⟩ (mj_met ok.2.2.2.1 hlen hDD.1 hM) ⟨mj_cb C ok hl0, C.2.2.2.2.2.1 _ (List.mem_cons_of_mem _ hi), C.2.2.2.2.2.1 _ (List.mem_cons_of_mem _ hse)⟩ ⟨mj_blind g _ F A, hrecv, fun U hU hW => ⟨rfl, by rw [hU]; exact hP, va_K.moved hW.alike hK, mj_NW.warm hW hDD.2⟩⟩ rfl (by rw [List.length_map]; exact hn) hl.1 (by show List.map _ (As.reverse ++ .ref b :: st) = _; rw [List.map_append, List.map_reverse]; rfl) (lv_room (by rw [mj_sum]; exact hr)) hd ⟨Nat.le_refl _, Nat.le_refl _⟩) hS (fun v F' A' H1 locs1 hq1 hP1 hS1 => ?_)
  rw [mj_tl]
  exact k v F' A' hq1 p e s m args below meth c H1 locs1 ls C hDD hK hP1 hS1 hl
theorem j_callS {y' : mj_Y} {idx n : Nat} {As : List Value} {Q' : Option Value → mj_S → mj_S → Prop} (hd : decode y.2.1 pc = .ok (.invokestatic idx, 3)) (hl0 : Cond.methodLink y.1.cls idx y'.1 ∈ mj_TB) (ok : mj_OK y' n) (hi : Cond.static y'.1 ∈ mj_TB) (hn : As.length = n) (hlen : (lg_sl As).length ≤ y'.2.2.1) (hr : (st.map fun v => v.category).sum ≤ 8)
    (hM : J g y' d 0 (lv_args 0 As) [] F A Q') (k : ∀ (v : Option Value) (F' A' : mj_S), Q' v F' A' → J g y (d + 1) (pc + 3) lv (v.toList ++ st) F' A' Q) : J g y (d + 1) pc lv (As.reverse ++ st) F A Q := by
  intro p e s m args below meth c H locs ls C hDD hK hP hS hl
  refine mj_call (va_runS (As := As.map (mj_v (mj_ad g))) (rest := st.map (mj_v (mj_ad g))) ⟨C.1, C.2.1, C.2.2.2.1, C.2.2.2.2.1, C.2.2.2.2.2.1⟩ (mj_met ok.2.2.2.1 hlen hDD.1 hM) ⟨mj_cb C ok hl0, C.2.2.2.2.2.1 _ (List.mem_cons_of_mem _ hi)⟩ ⟨mj_blind g _ F A, fun U hU hW => ⟨rfl, by rw [hU]; exact hP, va_K.moved hW.alike hK, mj_NW.warm hW hDD.2⟩⟩ rfl (by rw [List.length_map]; exact hn) hl.1 (by show List.map _ (As.reverse ++ st) = _; rw [List.map_append, List.map_reverse]) (lv_room (by rw [mj_sum]; exact hr)) hd ⟨Nat.le_refl _, Nat.le_refl _⟩) hS (fun v F' A' H1 locs1 hq1 hP1 hS1 => ?_)
  rw [mj_tl]
  exact k v F' A' hq1 p e s m args below meth c H1 locs1 ls C hDD hK hP1 hS1 hl
theorem mj_nest {w : Cond} {args : Array Value} {s : State} (hw : w.onTables = true) (h : w.before args s = true) : va_Nw w s := va_Nw.of hw h
theorem j_callSN {y' : mj_Y} {idx n : Nat} {host : String} {As : List Value} {Q' : Option Value → mj_S → mj_S → Prop} (hd : decode y.2.1 pc = .ok (.invokestatic idx, 3)) (hl0 : (y.1.cls, idx, y'.1, host) ∈ mj_nests) (ok : mj_OK y' n) (hi : Cond.static y'.1 ∈ mj_TB) (hn : As.length = n) (hlen : (lg_sl As).length ≤ y'.2.2.1) (hr : (st.map fun v => v.category).sum ≤ 8)
    (hM : J g y' d 0 (lv_args 0 As) [] F A Q') (k : ∀ (v : Option Value) (F' A' : mj_S), Q' v F' A' → J g y (d + 1) (pc + 3) lv (v.toList ++ st) F' A' Q) : J g y (d + 1) pc lv (As.reverse ++ st) F A Q := by
  intro p e s m args below meth c H locs ls C hDD hK hP hS hl
  have cn : va_CN (mj_rm (d + 1)) s args y.1.cls idx y'.1 host y'.2.1 y'.2.2.1 y'.2.2.2 (mj_ws y') (mj_rm d) 0 0 n := va_cnB n C.2.2.2.2.2.1 (mj_good2 y y' ok.1) rfl rfl rfl (hDD.2 _ hl0) (C.2.2.2.2.2.1 _ (List.mem_cons_of_mem _ ok.2.1)) ok.2.2.1 ⟨Nat.le_refl _, by have h := ok.2.2.2.2; show 8 + (y'.2.2.1 + 11) + 64 * d ≤ 64 * (d + 1); omega⟩
  refine mj_call (va_runSN (As := As.map (mj_v (mj_ad g))) (rest := st.map (mj_v (mj_ad g))) ⟨C.1, C.2.1, C.2.2.2.1, C.2.2.2.2.1, C.2.2.2.2.2.1⟩ (mj_met ok.2.2.2.1 hlen hDD.1 hM) ⟨cn, C.2.2.2.2.2.1 _ (List.mem_cons_of_mem _ hi), trivial⟩ ⟨mj_blind g _ F A, fun U hU hW => ⟨rfl, by rw [hU]; exact hP, va_K.moved hW.alike hK, mj_NW.warm hW hDD.2⟩⟩ rfl (by rw [List.length_map]; exact hn) hl.1 (by show List.map _ (As.reverse ++ st) = _; rw [List.map_append, List.map_reverse]) (lv_room (by rw [mj_sum]; exact hr)) hd ⟨Nat.le_refl _, Nat.le_refl _⟩) hS (fun v F' A' H1 locs1 hq1 hP1 hS1 => ?_)
  rw [mj_tl]
  exact k v F' A' hq1 p e s m args below meth c H1 locs1 ls C hDD hK hP1 hS1 hl
def mj_min (x y : Int32) : Int32 := if y < x then y else x
theorem j_min {idx : Nat} {a b : Int32} (hd : decode y.2.1 pc = .ok (.invokestatic idx, 3)) (h1 : Cond.methodLink y.1.cls idx Lib.Math.min.name ∈ mj_TB) (h2 : Cond.static Lib.Math.min.name ∈ mj_TB) (h3 : Cond.initialized "java/lang/Math" ∈ mj_TB) (h4 : Cond.code Lib.Math.min.name Lib.Math.min.code 2 (some .int) ∈ mj_TB) (hr : (st.map fun v => v.category).sum ≤ 8) (k : J g y (d + 1) (pc + 3) lv (.int (mj_min a b) :: st) F A Q) : J g y (d + 1) pc lv (.int b :: .int a :: st) F A Q := by
  intro p e s m args below meth c H locs ls C hDD hK hP hS hl
  exact va_mmin C.1 C.2.1 (C.2.2.2.1.trans hl.1.symm) C.2.2.2.2.1 (C.2.2.2.2.2.1 _ (List.mem_cons_of_mem _ h1)) (C.2.2.2.2.2.1 _ (List.mem_cons_of_mem _ h2)) (C.2.2.2.2.2.1 _ (List.mem_cons_of_mem _ h3)) (C.2.2.2.2.2.1 _ (List.mem_cons_of_mem _ h4)) (Nat.le_add_left 1 d) (by rw [mj_sum]; show _ ≤ 64 * (d + 1); omega) (Nat.le_refl _) (Nat.le_refl _) hd (k p e s m args below meth c H locs ls C hDD hK hP hS hl)
theorem j_copy {idx a b na nb : Nat} {za zb : Nat → Int32} {n : Int32} (hd : decode y.2.1 pc = .ok (.invokestatic idx, 3)) (h1 : Cond.methodLink y.1.cls idx arraycopyName ∈ mj_TB) (h2 : Cond.native arraycopyName ∈ mj_TB) (h3 : Cond.static arraycopyName ∈ mj_TB) (h4 : Cond.initialized "java/lang/System" ∈ mj_TB) (ha : a < (mj_n g)) (hsa : mj_sh g a = .inl (0, na, .inl za)) (hb : b < (mj_n g)) (hsb : mj_sh g b = .inl (0, nb, .inl zb)) (hn : ¬ n < 0) (hna : n.toNatClampNeg ≤ na) (hnb : n.toNatClampNeg ≤ nb) (hr : (st.map fun v => v.category).sum ≤ 8) (k : J g y (d + 1) (pc + 3) lv st F (mj_a A b (va_cpy (A a) (A b) 0 0 n.toNatClampNeg)) Q) : J g y (d + 1) pc lv (.int n :: .int 0 :: .ref b :: .int 0 :: .ref a :: st) F A Q := by
  intro p e s m args below meth c H locs ls C hDD hK hP hS hl
  have hea := mj_w_at g F A ha
  rw [hsa] at hea
  have heb := mj_w_at g F A hb
  rw [hsb] at heb
  refine va_copyi (ty := .int) C.1 C.2.1 (C.2.2.2.1.trans hl.1.symm) C.2.2.2.2.1 (C.2.2.2.2.2.1 _ (List.mem_cons_of_mem _ h1)) (C.2.2.2.2.2.1 _ (List.mem_cons_of_mem _ h2)) (C.2.2.2.2.2.1 _ (List.mem_cons_of_mem _ h3)) (C.2.2.2.2.2.1 _ (List.mem_cons_of_mem _ h4)) hK hP (hDD.1.D F A) hS a b 0 0 hea heb rfl rfl rfl (by decide) (by decide) hn (by show 0 + _ ≤ _; omega) (by show 0 + _ ≤ _; omega) (fun _ _ => rfl) (Nat.le_add_left 1 d) (by rw [mj_sum]; refine Nat.le_trans (Nat.add_le_add_right hr _) ?_; refine Nat.le_trans (show 8 + (nativeFrameWords "java/lang/System" "arraycopy" 5 + 11) ≤ 64 from by decide +kernel) ?_; show 64 ≤ 64 * (d + 1); omega) hd (fun H1 locs1 hP1 _ hS1 => ?_)
  rw [mj_w_set g (F' := F) (A' := mj_a A b (va_cpy (A a) (A b) 0 0 n.toNatClampNeg)) hb (by rw [hsb, mj_a_at]; rfl) (fun _ _ => rfl) (fun j hj => (mj_a_ne A _ hj).symm)] at hP1
  exact k p e s m args below meth c H1 locs1 ls C hDD hK hP1 hS1 hl
theorem j_mono {Q' : Option Value → mj_S → mj_S → Prop} (h : J g y d pc lv st F A Q') (hq : ∀ v F' A', Q' v F' A' → Q v F' A') : J g y d pc lv st F A Q := by
  intro p e s m args below meth c H locs ls C hDD hK hP hS hl
  intro T hT X
  obtain ⟨t, a1, o, b1, b2, ⟨⟨v, F', A', c1, c2, c3⟩, c4⟩, c5⟩ := h p e s m args below meth c H locs ls C hDD hK hP hS hl T hT X
  exact ⟨t, a1, o, b1, b2, ⟨⟨v, F', A', c1, hq v F' A' c2, c3⟩, c4⟩, c5⟩
theorem j_sub {lv' : List (Nat × Value)} (ks : List Nat) (hl0 : lv_pick lv ks = lv') (k : J g y d pc lv' st F A Q) : J g y d pc lv st F A Q := by
  intro p e s m args below meth c H locs ls C hDD hK hP hS hl
  refine k p e s m args below meth c H locs ls C hDD hK hP hS (lv_sub hl ks ?_)
  rw [← hl0]
  simp [lv_pick, mj_lv, List.map_filterMap]
end MJ
