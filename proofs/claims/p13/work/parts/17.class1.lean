/-! the class: its state's words, its static helpers, its graphs -/
def isG (o : Nat) : Prop := ∃ g, g < 12 ∧ o = 33 + 7 * g
theorem gs_lt {o : Nat} (h : isG o) (i : Nat) (hi : i ≤ 6) : o + i < 117 := by obtain ⟨g, hg, rfl⟩ := h; omega
theorem gs_all (P : Nat → Prop) (h0 : P 33) (h1 : P 40) (h2 : P 47) (h3 : P 54) (h4 : P 61) (h5 : P 68) (h6 : P 75) (h7 : P 82) (h8 : P 89) (h9 : P 96) (h10 : P 103) (h11 : P 110) {o : Nat} (h : isG o) : P o := by
  obtain ⟨g, hg, rfl⟩ := h
  match g, hg with
  | 0, _ => exact h0
  | 1, _ => exact h1
  | 2, _ => exact h2
  | 3, _ => exact h3
  | 4, _ => exact h4
  | 5, _ => exact h5
  | 6, _ => exact h6
  | 7, _ => exact h7
  | 8, _ => exact h8
  | 9, _ => exact h9
  | 10, _ => exact h10
  | 11, _ => exact h11
  | k + 12, h => exact absurd h (by omega)
theorem gs_o {o : Nat} (h : isG o) : SHC o = .inr (0, [.int 0, .ref (o + 1), .ref (o + 2), .ref (o + 3), .ref (o + 4), .ref (o + 5), .ref (o + 6)]) := gs_all (fun o => SHC o = .inr (0, [.int 0, .ref (o + 1), .ref (o + 2), .ref (o + 3), .ref (o + 4), .ref (o + 5), .ref (o + 6)])) rfl rfl rfl rfl rfl rfl rfl rfl rfl rfl rfl rfl h
theorem gs_1 {o : Nat} (h : isG o) : SHC (o + 1) = .inl (0, 8, .inl (fun _ => 0)) := gs_all (fun o => SHC (o + 1) = .inl (0, 8, .inl (fun _ => 0))) rfl rfl rfl rfl rfl rfl rfl rfl rfl rfl rfl rfl h
theorem gs_2 {o : Nat} (h : isG o) : SHC (o + 2) = .inl (0, 8, .inl (fun _ => 0)) := gs_all (fun o => SHC (o + 2) = .inl (0, 8, .inl (fun _ => 0))) rfl rfl rfl rfl rfl rfl rfl rfl rfl rfl rfl rfl h
theorem gs_3 {o : Nat} (h : isG o) : SHC (o + 3) = .inl (0, 8, .inl (fun _ => 0)) := gs_all (fun o => SHC (o + 3) = .inl (0, 8, .inl (fun _ => 0))) rfl rfl rfl rfl rfl rfl rfl rfl rfl rfl rfl rfl h
theorem gs_4 {o : Nat} (h : isG o) : SHC (o + 4) = .inl (0, 8, .inl (fun _ => 0)) := gs_all (fun o => SHC (o + 4) = .inl (0, 8, .inl (fun _ => 0))) rfl rfl rfl rfl rfl rfl rfl rfl rfl rfl rfl rfl h
theorem gs_5 {o : Nat} (h : isG o) : SHC (o + 5) = .inl (0, 32, .inl (fun _ => 0)) := gs_all (fun o => SHC (o + 5) = .inl (0, 32, .inl (fun _ => 0))) rfl rfl rfl rfl rfl rfl rfl rfl rfl rfl rfl rfl h
theorem gs_6 {o : Nat} (h : isG o) : SHC (o + 6) = .inl (0, 448, .inl (fun _ => 0)) := gs_all (fun o => SHC (o + 6) = .inl (0, 448, .inl (fun _ => 0))) rfl rfl rfl rfl rfl rfl rfl rfl rfl rfl rfl rfl h
/-- what has nodes and choices: a graph, or weights -/
def isN (o : Nat) : Prop := isG o ∨ o = 18 ∨ o = 23 ∨ o = 28
def GI (F A : mj_S) (o : Nat) : Prop := (∃ n, n ≤ 8 ∧ F o 0 = nI n) ∧ rg (A (o + 1)) 8 4
def gref (f : Nat → Int32) (n : Nat) : Prop := ∀ j, j < n → ∃ o, isG o ∧ f j = nI o
/-- the class's state: a text of T letters; counts, nodes, choices, plans in their bounds; past and kept are graphs -/
def CB (T : Nat) (F A : mj_S) : Prop := (F 0 1 = nI T ∧ T ≤ 200) ∧ (∃ n, n ≤ 8 ∧ F 0 6 = nI n) ∧ (∃ n, n ≤ 2 ∧ F 0 8 = nI n) ∧ (∀ o, isN o → GI F A o) ∧ (rg (A 6) 8 7 ∧ rg (A 8) 8 3 ∧ rg (A 12) 8 3 ∧ rg (A 16) 8 3) ∧ gref (A 3) 8 ∧ gref (A 4) 2
def keyB (k : Nat) : Bool := k == 3 || k == 4 || k == 6 || k == 8 || k == 12 || k == 16 || k == 19 || k == 24 || k == 29 || (decide (33 ≤ k) && (k - 33) % 7 == 1)
theorem keyB_ne {k o : Nat} (hk : keyB k = false) (ho : isN o) : o + 1 ≠ k := by
  intro e
  subst e
  simp only [keyB, Bool.or_eq_false_iff, beq_eq_false_iff_ne, Bool.and_eq_false_iff, decide_eq_false_iff_not] at hk
  rcases ho with ⟨g, hg, rfl⟩ | h | h | h <;> omega
theorem keyB_ne' {k j : Nat} (hk : keyB k = false) (hj : keyB j = true) : j ≠ k := fun e => by rw [e, hk] at hj; cases hj
theorem CB.a {T : Nat} {F A : mj_S} (h : CB T F A) {k : Nat} (hk : keyB k = false) (f : Nat → Int32) : CB T F (mj_a A k f) := by
  refine ⟨h.1, h.2.1, h.2.2.1, fun o ho => ⟨(h.2.2.2.1 o ho).1, ?_⟩, ⟨?_, ?_, ?_, ?_⟩, ?_, ?_⟩
  · rw [mj_a_ne A f (keyB_ne hk ho)]; exact (h.2.2.2.1 o ho).2
  · rw [mj_a_ne A f (keyB_ne' hk rfl)]; exact h.2.2.2.2.1.1
  · rw [mj_a_ne A f (keyB_ne' hk rfl)]; exact h.2.2.2.2.1.2.1
  · rw [mj_a_ne A f (keyB_ne' hk rfl)]; exact h.2.2.2.2.1.2.2.1
  · rw [mj_a_ne A f (keyB_ne' hk rfl)]; exact h.2.2.2.2.1.2.2.2
  · rw [mj_a_ne A f (keyB_ne' hk rfl)]; exact h.2.2.2.2.2.1
  · rw [mj_a_ne A f (keyB_ne' hk rfl)]; exact h.2.2.2.2.2.2
theorem mj_u_a (A : mj_S) (k i : Nat) (x : Int32) : mj_u A k i x = mj_a A k (upd (A k) i x) := by
  funext j
  by_cases e : j = k
  · subst e; simp [mj_u, mj_a]
  · simp [mj_u, mj_a, e]
theorem CB.u {T : Nat} {F A : mj_S} (h : CB T F A) {k : Nat} (hk : keyB k = false) (i : Nat) (x : Int32) : CB T F (mj_u A k i x) := by rw [mj_u_a]; exact h.a hk _
theorem isN_13 {o o' : Nat} (h : isN o) (h' : isN o') (e : o + 1 = o' + 1) : o = o' := by omega
theorem isN_lit {o k : Nat} (h : isN o) (hk : k < 18) : o + 1 ≠ k := by rcases h with ⟨g, hg, rfl⟩ | h | h | h <;> omega
theorem CB.ch {T : Nat} {F A : mj_S} (h : CB T F A) {o : Nat} (ho : isN o) {f : Nat → Int32} (hf : rg f 8 4) : CB T F (mj_a A (o + 1) f) := by
  refine ⟨h.1, h.2.1, h.2.2.1, fun o' ho' => ⟨(h.2.2.2.1 o' ho').1, ?_⟩, ⟨?_, ?_, ?_, ?_⟩, ?_, ?_⟩
  · by_cases e : o' + 1 = o + 1
    · rw [e, mj_a_at]; exact hf
    · rw [mj_a_ne A f e]; exact (h.2.2.2.1 o' ho').2
  · rw [mj_a_ne A f (Ne.symm (isN_lit ho (by omega)))]; exact h.2.2.2.2.1.1
  · rw [mj_a_ne A f (Ne.symm (isN_lit ho (by omega)))]; exact h.2.2.2.2.1.2.1
  · rw [mj_a_ne A f (Ne.symm (isN_lit ho (by omega)))]; exact h.2.2.2.2.1.2.2.1
  · rw [mj_a_ne A f (Ne.symm (isN_lit ho (by omega)))]; exact h.2.2.2.2.1.2.2.2
  · rw [mj_a_ne A f (Ne.symm (isN_lit ho (by omega)))]; exact h.2.2.2.2.2.1
  · rw [mj_a_ne A f (Ne.symm (isN_lit ho (by omega)))]; exact h.2.2.2.2.2.2
theorem CB.chu {T : Nat} {F A : mj_S} (h : CB T F A) {o : Nat} (ho : isN o) (i : Nat) {t : Nat} (ht : t ≤ 4) : CB T F (mj_u A (o + 1) i (nI t)) := by rw [mj_u_a]; exact h.ch ho (rg_upd (h.2.2.2.1 o ho).2 ht)
/-- a field that the words don't speak of -/
def keyF (k s : Nat) : Bool := (k == 0 && (s == 1 || s == 6 || s == 8)) || (s == 0 && (k == 18 || k == 23 || k == 28 || decide (33 ≤ k)))
theorem mj_u_off {F : mj_S} {k s j t : Nat} (x : Int32) (h : j ≠ k ∨ t ≠ s) : mj_u F k s x j t = F j t := by
  by_cases e : j = k
  · subst e
    rw [mj_u_at]
    have : t ≠ s := h.resolve_left (fun h => h rfl)
    simp [upd, this]
  · rw [mj_u_ne F x e]
theorem mj_u_on (F : mj_S) (k s : Nat) (x : Int32) : mj_u F k s x k s = x := by rw [mj_u_at]; simp [upd]
theorem CB.f {T : Nat} {F A : mj_S} (h : CB T F A) {k s : Nat} (hk : keyF k s = false) (x : Int32) : CB T (mj_u F k s x) A := by
  simp only [keyF, Bool.or_eq_false_iff, Bool.and_eq_false_iff, beq_eq_false_iff_ne, decide_eq_false_iff_not] at hk
  refine ⟨⟨?_, h.1.2⟩, ?_, ?_, fun o ho => ⟨?_, (h.2.2.2.1 o ho).2⟩, h.2.2.2.2⟩
  · rw [mj_u_off x (by omega)]; exact h.1.1
  · obtain ⟨n, h1, h2⟩ := h.2.1
    exact ⟨n, h1, by rw [mj_u_off x (by omega)]; exact h2⟩
  · obtain ⟨n, h1, h2⟩ := h.2.2.1
    exact ⟨n, h1, by rw [mj_u_off x (by omega)]; exact h2⟩
  · obtain ⟨n, h1, h2⟩ := (h.2.2.2.1 o ho).1
    refine ⟨n, h1, ?_⟩
    rw [mj_u_off x ?_]
    · exact h2
    · rcases ho with ⟨g, hg, rfl⟩ | h | h | h <;> omega
theorem CB.nd {T : Nat} {F A : mj_S} (h : CB T F A) {o : Nat} (ho : isN o) {n : Nat} (hn : n ≤ 8) : CB T (mj_u F o 0 (nI n)) A := by
  have h0 : o ≠ 0 := by rcases ho with ⟨g, hg, rfl⟩ | h | h | h <;> omega
  refine ⟨⟨?_, h.1.2⟩, ?_, ?_, fun o' ho' => ⟨?_, (h.2.2.2.1 o' ho').2⟩, h.2.2.2.2⟩
  · rw [mj_u_off _ (by omega)]; exact h.1.1
  · obtain ⟨n, h1, h2⟩ := h.2.1
    exact ⟨n, h1, by rw [mj_u_off _ (by omega)]; exact h2⟩
  · obtain ⟨n, h1, h2⟩ := h.2.2.1
    exact ⟨n, h1, by rw [mj_u_off _ (by omega)]; exact h2⟩
  · by_cases e : o' = o
    · subst e; exact ⟨n, hn, mj_u_on F o' 0 _⟩
    · obtain ⟨n', h1, h2⟩ := (h.2.2.2.1 o' ho').1
      exact ⟨n', h1, by rw [mj_u_off _ (Or.inl e)]; exact h2⟩
def pA (k : Nat) : Bool := k == 1 || k == 3 || k == 4 || (decide (33 ≤ k) && !(decide (40 ≤ k) && decide (k ≤ 46)))
def pF (k s : Nat) : Bool := (k == 0 && (s == 1 || s == 6 || s == 8)) || (s == 0 && decide (33 ≤ k) && !(k == 40))
/-- what lasts stands as in the picture T -/
def PG (T : Tg) (F A : mj_S) : Prop := (∀ k s, pF k s = true → F k s = T.2.1 k s) ∧ ∀ k, pA k = true → A k = T.2.2 k
def CI (T : Tg) (F A : mj_S) : Prop := (F 0 1 = nI T.1 ∧ T.1 ≤ 200 ∧ PG T F A) ∧ (∃ n, n ≤ 8 ∧ F 0 6 = nI n) ∧ (∃ n, n ≤ 2 ∧ F 0 8 = nI n) ∧ (∀ o, isN o → GI F A o) ∧ (rg (A 6) 8 7 ∧ rg (A 8) 8 3 ∧ rg (A 12) 8 3 ∧ rg (A 16) 8 3) ∧ gref (A 3) 8 ∧ gref (A 4) 2
def keyA (k : Nat) : Bool := keyB k || pA k
theorem keyA_b {k : Nat} (h : keyA k = false) : keyB k = false := (Bool.or_eq_false_iff.mp h).1
theorem keyA_p {k : Nat} (h : keyA k = false) : pA k = false := (Bool.or_eq_false_iff.mp h).2
theorem PG.a {T : Tg} {F A : mj_S} (h : PG T F A) {k : Nat} (hk : pA k = false) (f : Nat → Int32) : PG T F (mj_a A k f) := ⟨h.1, fun j hj => by rw [mj_a_ne A f (fun e => by rw [e, hk] at hj; cases hj)]; exact h.2 j hj⟩
theorem PG.u {T : Tg} {F A : mj_S} (h : PG T F A) {k : Nat} (hk : pA k = false) (i : Nat) (x : Int32) : PG T F (mj_u A k i x) := by rw [mj_u_a]; exact h.a hk _
theorem PG.f {T : Tg} {F A : mj_S} (h : PG T F A) {k s : Nat} (hk : pF k s = false) (x : Int32) : PG T (mj_u F k s x) A := by
  refine ⟨fun j t hj => ?_, h.2⟩
  rw [mj_u_off x]
  · exact h.1 j t hj
  · by_cases h1 : j = k
    · by_cases h2 : t = s
      · rw [h1, h2, hk] at hj
        cases hj
      · exact Or.inr h2
    · exact Or.inl h1
theorem pF_key {k s : Nat} (h : keyF k s = false) : pF k s = false := by
  simp only [keyF, Bool.or_eq_false_iff, Bool.and_eq_false_iff, beq_eq_false_iff_ne, decide_eq_false_iff_not] at h
  simp only [pF, Bool.or_eq_false_iff, Bool.and_eq_false_iff, beq_eq_false_iff_ne, decide_eq_false_iff_not]
  omega
theorem CI.b {T : Tg} {F A : mj_S} (h : CI T F A) : CB T.1 F A := ⟨⟨h.1.1, h.1.2.1⟩, h.2⟩
theorem CI.p {T : Tg} {F A : mj_S} (h : CI T F A) : PG T F A := h.1.2.2
theorem CB.g {T : Tg} {F A : mj_S} (h : CB T.1 F A) (hp : PG T F A) : CI T F A := ⟨⟨h.1.1, h.1.2, hp⟩, h.2⟩
theorem CB.c {n : Nat} {F A : mj_S} (h : CB n F A) : CI (n, F, A) F A := CB.g (T := (n, F, A)) h ⟨fun _ _ _ => rfl, fun _ _ => rfl⟩
theorem CI.a {T : Tg} {F A : mj_S} (h : CI T F A) {k : Nat} (hk : keyA k = false) (f : Nat → Int32) : CI T F (mj_a A k f) := (h.b.a (keyA_b hk) f).g (h.p.a (keyA_p hk) f)
theorem CI.u {T : Tg} {F A : mj_S} (h : CI T F A) {k : Nat} (hk : keyA k = false) (i : Nat) (x : Int32) : CI T F (mj_u A k i x) := (h.b.u (keyA_b hk) i x).g (h.p.u (keyA_p hk) i x)
theorem CI.ch {T : Tg} {F A : mj_S} (h : CI T F A) {o : Nat} (ho : isN o) {f : Nat → Int32} (hf : rg f 8 4) (hp : pA (o + 1) = false := by rfl) : CI T F (mj_a A (o + 1) f) := (h.b.ch ho hf).g (h.p.a hp f)
theorem CI.chu {T : Tg} {F A : mj_S} (h : CI T F A) {o : Nat} (ho : isN o) (i : Nat) {t : Nat} (ht : t ≤ 4) (hp : pA (o + 1) = false := by rfl) : CI T F (mj_u A (o + 1) i (nI t)) := (h.b.chu ho i ht).g (h.p.u hp i (nI t))
theorem CI.f {T : Tg} {F A : mj_S} (h : CI T F A) {k s : Nat} (hk : keyF k s = false) (x : Int32) : CI T (mj_u F k s x) A := (h.b.f hk x).g (h.p.f (pF_key hk) x)
theorem CI.nd {T : Tg} {F A : mj_S} (h : CI T F A) {o : Nat} (ho : isN o) {n : Nat} (hn : n ≤ 8) (hp : pF o 0 = false := by rfl) : CI T (mj_u F o 0 (nI n)) A := (h.b.nd ho hn).g (h.p.f hp (nI n))
/-- two arrays that are no keys -/
theorem CI.ab {T : Tg} {F A A' : mj_S} (h : CI T F A) {a b : Nat} (ha : keyA a = false) (hb : keyA b = false) (hf : ∀ k, k ≠ a → k ≠ b → A' k = A k) : CI T F A' := by
  have e : A' = mj_a (mj_a A a (A' a)) b (A' b) := by
    funext k
    by_cases e1 : k = b
    · rw [e1, mj_a_at]
    · rw [mj_a_ne _ _ e1]
      by_cases e2 : k = a
      · rw [e2, mj_a_at]
      · rw [mj_a_ne _ _ e2, hf k e2 e1]
  rw [e]
  exact (h.a ha _).a hb _
theorem CB.ab {T : Nat} {F A A' : mj_S} (h : CB T F A) {a b : Nat} (ha : keyB a = false) (hb : keyB b = false) (hf : ∀ k, k ≠ a → k ≠ b → A' k = A k) : CB T F A' := by
  have e : A' = mj_a (mj_a A a (A' a)) b (A' b) := by
    funext k
    by_cases e1 : k = b
    · rw [e1, mj_a_at]
    · rw [mj_a_ne _ _ e1]
      by_cases e2 : k = a
      · rw [e2, mj_a_at]
      · rw [mj_a_ne _ _ e2, hf k e2 e1]
  rw [e]
  exact (h.a ha _).a hb _
theorem CI.tx {T : Tg} {F A : mj_S} (h : CI T F A) : A 1 = T.2.2 1 := h.p.2 1 rfl
theorem CI.ltr {T : Tg} {F A : mj_S} (h : CI T F A) {k : Nat} (hk : k < T.1) : A 1 k = cT T k := by
  unfold cT rd_c
  rw [if_pos hk, h.tx]
theorem cT_z {T : Tg} {k : Nat} (hk : ¬ k < T.1) : cT T k = 0 := if_neg hk
theorem bit_get : ∀ s, s < 256 → ∀ v, v < 8 → (((nI s >>> (nI v &&& 31)) &&& nI 1 = 0) ↔ s / 2 ^ v % 2 = 0) := by decide +kernel
theorem bit_or : ∀ s, s < 256 → ∀ v, v < 8 → s / 2 ^ v % 2 = 0 → nI s ||| (nI 1 <<< (nI v &&& 31)) = nI (s + 2 ^ v) := by decide +kernel
theorem bit_clr : ∀ s, s < 256 → ∀ v, v < 8 → s / 2 ^ v % 2 = 1 → nI s &&& ((nI 1 <<< (nI v &&& 31)) ^^^ (-1)) = nI (s - 2 ^ v) := by decide +kernel
theorem g33 : isG 33 := ⟨0, by omega, rfl⟩
theorem g40 : isG 40 := ⟨1, by omega, rfl⟩
theorem n33 : isN 33 := Or.inl g33
theorem n40 : isN 40 := Or.inl g40
theorem n18 : isN 18 := Or.inr (Or.inl rfl)
theorem n23 : isN 23 := Or.inr (Or.inr (Or.inl rfl))
theorem n28 : isN 28 := Or.inr (Or.inr (Or.inr rfl))

set_option maxHeartbeats 400000 in
set_option maxRecDepth 100000 in
theorem c_isWithin (z : mj_B) (d : Nat) (a b c : Int32) (F A : mj_S) : J (gC z) mX5_isWithin d 0 [(0, .int a), (1, .int b), (2, .int c)] [] F A (qN F A fun r => (r = 1 ∧ b ≤ a ∧ a ≤ c) ∨ (r = 0 ∧ ¬ (b ≤ a ∧ a ≤ c))) := by
  refine j_iload_n dX5_isWithin_0 rfl ?_
  refine j_iload_n dX5_isWithin_1 rfl ?_
  refine j_icmp_gt (tgt := 14) dX5_isWithin_2 (by decide) (fun c2 => ?_) (fun c2 => ?_)
  · refine j_iconst (v := nI 0) dX5_isWithin_14 (by decide +kernel) ?_
    exact j_iret dX5_isWithin_15 rfl (by decide +kernel) ⟨rfl, rfl, _, rfl, by first | exact Or.inl ⟨rfl, Int32.not_lt.mp c2, Int32.not_lt.mp c7⟩ | exact Or.inr ⟨rfl, fun h => Int32.not_lt.mpr h.1 c2⟩ | exact Or.inr ⟨rfl, fun h => Int32.not_lt.mpr h.2 c7⟩⟩
  · refine j_iload_n dX5_isWithin_5 rfl ?_
    refine j_iload_n dX5_isWithin_6 rfl ?_
    refine j_icmp_gt (tgt := 14) dX5_isWithin_7 (by decide) (fun c7 => ?_) (fun c7 => ?_)
    · refine j_iconst (v := nI 0) dX5_isWithin_14 (by decide +kernel) ?_
      exact j_iret dX5_isWithin_15 rfl (by decide +kernel) ⟨rfl, rfl, _, rfl, by first | exact Or.inl ⟨rfl, Int32.not_lt.mp c2, Int32.not_lt.mp c7⟩ | exact Or.inr ⟨rfl, fun h => Int32.not_lt.mpr h.1 c2⟩ | exact Or.inr ⟨rfl, fun h => Int32.not_lt.mpr h.2 c7⟩⟩
    · refine j_iconst (v := nI 1) dX5_isWithin_10 (by decide +kernel) ?_
      refine j_goto (tgt := 15) dX5_isWithin_11 (by decide) ?_
      exact j_iret dX5_isWithin_15 rfl (by decide +kernel) ⟨rfl, rfl, _, rfl, by first | exact Or.inl ⟨rfl, Int32.not_lt.mp c2, Int32.not_lt.mp c7⟩ | exact Or.inr ⟨rfl, fun h => Int32.not_lt.mpr h.1 c2⟩ | exact Or.inr ⟨rfl, fun h => Int32.not_lt.mpr h.2 c7⟩⟩

set_option maxHeartbeats 400000 in
set_option maxRecDepth 100000 in
theorem c_capped (z : mj_B) (d : Nat) (a : Int32) (F A : mj_S) : J (gC z) mX5_capped (d + 1) 0 [(0, .int a)] [] F A (qP F A fun r => r = mj_min a 1000000) := by
  refine j_iload_n dX5_capped_0 rfl ?_
  refine j_ldc dX5_capped_1 kcX5_218 ?_
  refine j_min dX5_capped_3 lkX5_256 mn_st mn_in mn_co (Nat.le_of_ble_eq_true rfl) ?_
  exact j_iret dX5_capped_6 rfl rfl ⟨rfl, rfl, _, rfl, rfl⟩

set_option maxHeartbeats 400000 in
set_option maxRecDepth 100000 in
theorem c_choicePlace (z : mj_B) (d : Nat) (u i : Nat) (F A : mj_S) : J (gC z) mX5_choicePlace d 0 [(0, .int (nI u)), (1, .int (nI i))] [] F A (qN F A fun r => r = u * 4 + i) := by
  refine j_iload_n dX5_choicePlace_0 rfl ?_
  refine j_iconst (v := nI 4) dX5_choicePlace_1 (by decide +kernel) ?_
  refine j_imulN dX5_choicePlace_2 ?_
  refine j_iload_n dX5_choicePlace_3 rfl ?_
  refine j_iaddN dX5_choicePlace_4 ?_
  exact j_iret dX5_choicePlace_5 rfl rfl ⟨rfl, rfl, _, rfl, rfl⟩

set_option maxHeartbeats 400000 in
set_option maxRecDepth 100000 in
theorem c_entryPlace (z : mj_B) (d : Nat) (u v i j : Nat) (hu : u < 8) (hv : v < 8) (huv : u ≠ v) (F A : mj_S) : J (gC z) mX5_entryPlace d 0 [(0, .int (nI u)), (1, .int (nI v)), (2, .int (nI i)), (3, .int (nI j))] [] F A (qN F A fun r => r = eP u v i j) := by
  refine j_iload_n dX5_entryPlace_0 rfl ?_
  refine j_iload_n dX5_entryPlace_1 rfl ?_
  refine j_icmp_geN (tgt := 24) dX5_entryPlace_2 (by decide) (by omega) (by omega) (fun c2 => ?_) (fun c2 => ?_)
  · have ht := tri_lt u hu v (by omega)
    refine j_iload_n dX5_entryPlace_24 rfl ?_
    refine j_iload_n dX5_entryPlace_25 rfl ?_
    refine j_iconst (v := nI 1) dX5_entryPlace_26 (by decide +kernel) ?_
    refine j_isubN dX5_entryPlace_27 (by omega) ?_
    refine j_imulN dX5_entryPlace_28 ?_
    refine j_iconst (v := nI 2) dX5_entryPlace_29 (by decide +kernel) ?_
    refine j_idivN dX5_entryPlace_30 (by omega) (by omega) (by omega) ?_
    refine j_iload_n dX5_entryPlace_31 rfl ?_
    refine j_iaddN dX5_entryPlace_32 ?_
    refine j_bipush (v := nI 16) dX5_entryPlace_33 (by decide +kernel) ?_
    refine j_imulN dX5_entryPlace_35 ?_
    refine j_iload_n dX5_entryPlace_36 rfl ?_
    refine j_iconst (v := nI 4) dX5_entryPlace_37 (by decide +kernel) ?_
    refine j_imulN dX5_entryPlace_38 ?_
    refine j_iaddN dX5_entryPlace_39 ?_
    refine j_iload_n dX5_entryPlace_40 rfl ?_
    refine j_iaddN dX5_entryPlace_41 ?_
    exact j_iret dX5_entryPlace_42 rfl rfl ⟨rfl, rfl, _, rfl, by unfold eP; first | (rw [if_pos (by omega)]) | (rw [if_neg (by omega)])⟩
  · have ht := tri_lt v hv u (by omega)
    refine j_iload_n dX5_entryPlace_5 rfl ?_
    refine j_iload_n dX5_entryPlace_6 rfl ?_
    refine j_iconst (v := nI 1) dX5_entryPlace_7 (by decide +kernel) ?_
    refine j_isubN dX5_entryPlace_8 (by omega) ?_
    refine j_imulN dX5_entryPlace_9 ?_
    refine j_iconst (v := nI 2) dX5_entryPlace_10 (by decide +kernel) ?_
    refine j_idivN dX5_entryPlace_11 (by omega) (by omega) (by omega) ?_
    refine j_iload_n dX5_entryPlace_12 rfl ?_
    refine j_iaddN dX5_entryPlace_13 ?_
    refine j_bipush (v := nI 16) dX5_entryPlace_14 (by decide +kernel) ?_
    refine j_imulN dX5_entryPlace_16 ?_
    refine j_iload_n dX5_entryPlace_17 rfl ?_
    refine j_iconst (v := nI 4) dX5_entryPlace_18 (by decide +kernel) ?_
    refine j_imulN dX5_entryPlace_19 ?_
    refine j_iaddN dX5_entryPlace_20 ?_
    refine j_iload_n dX5_entryPlace_21 rfl ?_
    refine j_iaddN dX5_entryPlace_22 ?_
    exact j_iret dX5_entryPlace_23 rfl rfl ⟨rfl, rfl, _, rfl, by unfold eP; first | (rw [if_pos (by omega)]) | (rw [if_neg (by omega)])⟩

set_option maxHeartbeats 400000 in
set_option maxRecDepth 100000 in
theorem c_hasBit (z : mj_B) (d : Nat) (x y : Int32) (F A : mj_S) : J (gC z) mX5_hasBit d 0 [(0, .int x), (1, .int y)] [] F A (qN F A fun r => r ≤ 1 ∧ (r = 1 ↔ ¬ (x >>> (y &&& 31)) &&& nI 1 = 0)) := by
  refine j_iload_n dX5_hasBit_0 rfl ?_
  refine j_iload_n dX5_hasBit_1 rfl ?_
  refine j_ishr dX5_hasBit_2 ?_
  refine j_iconst (v := nI 1) dX5_hasBit_3 (by decide +kernel) ?_
  refine j_iand dX5_hasBit_4 ?_
  refine j_if_eq (tgt := 12) dX5_hasBit_5 (by decide) (fun c5 => ?_) (fun c5 => ?_)
  · refine j_iconst (v := nI 0) dX5_hasBit_12 (by decide +kernel) ?_
    exact j_iret dX5_hasBit_13 rfl (by decide +kernel) ⟨rfl, rfl, _, rfl, by omega, by simp [c5]⟩
  · refine j_iconst (v := nI 1) dX5_hasBit_8 (by decide +kernel) ?_
    refine j_goto (tgt := 13) dX5_hasBit_9 (by decide) ?_
    exact j_iret dX5_hasBit_13 rfl (by decide +kernel) ⟨rfl, rfl, _, rfl, by omega, by simp [c5]⟩

theorem jn_3 {A : mj_S} {a b u v j p : Nat} (hab : a ≠ b) {x y : Int32} : mj_u (mj_u A a u x) a v y b j = if p ≤ j ∧ j < p + 0 then 0 else A b j := by
  rw [mj_u_ne _ _ (Ne.symm hab), mj_u_ne _ _ (Ne.symm hab), if_neg (by omega)]
theorem jn_4 {A1 A : mj_S} {b p k : Nat} (h : ∀ j, A1 b j = if p ≤ j ∧ j < p + k then 0 else A b j) (j : Nat) : mj_u A1 b (p + k) (nI 0) b j = if p ≤ j ∧ j < p + (k + 1) then 0 else A b j := by
  rw [mj_u_at]
  by_cases e : j = p + k
  · rw [e, pk_us, if_pos (by omega), nI_0]
  · rw [pk_un e, h j]
    by_cases e2 : p ≤ j ∧ j < p + k
    · rw [if_pos e2, if_pos (by omega)]
    · rw [if_neg e2, if_neg (by omega)]

set_option maxHeartbeats 400000 in
set_option maxRecDepth 100000 in
theorem c_joinByNoughts (z : mj_B) (d : Nat) (a b u v : Nat) (hu : u < 8) (hv : v < 8) (huv : u ≠ v) (ha : a < 117) (hsa : SHC a = .inl (0, 8, .inl (fun _ => 0))) (hb : b < 117) (hsb : SHC b = .inl (0, 448, .inl (fun _ => 0))) (hab : a ≠ b) (F A : mj_S) : J (gC z) mX5_joinByNoughts (d + 1) 0 [(0, .ref a), (1, .ref b), (2, .int (nI u)), (3, .int (nI v))] [] F A (fun _w F' A' => _w = none ∧ F = F' ∧ A' a = upd (upd (A a) u (A a u ||| (nI 1 <<< (nI v &&& 31)))) v (A a v ||| (nI 1 <<< (nI u &&& 31))) ∧ (∀ j, A' b j = if eP u v 0 0 ≤ j ∧ j < eP u v 0 0 + 16 then 0 else A b j) ∧ ∀ k, k ≠ a → k ≠ b → A' k = A k) := by
  have L30 : ∀ (fuel : Nat) (p : Nat) (k : Nat) (A1 : mj_S), (p = eP u v 0 0 ∧ k ≤ 16 ∧ p ≤ 432) → (A1 a = upd (upd (A a) u (A a u ||| (nI 1 <<< (nI v &&& 31)))) v (A a v ||| (nI 1 <<< (nI u &&& 31)))) → (∀ j, A1 b j = if eP u v 0 0 ≤ j ∧ j < eP u v 0 0 + k then 0 else A b j) → (∀ k, k ≠ a → k ≠ b → A1 k = A k) → 16 - k < fuel → J (gC z) mX5_joinByNoughts (d + 1) 30 [(1, .ref b), (4, .int (nI p)), (5, .int (nI k))] [] F A1 (fun _w F' A' => _w = none ∧ F = F' ∧ A' a = upd (upd (A a) u (A a u ||| (nI 1 <<< (nI v &&& 31)))) v (A a v ||| (nI 1 <<< (nI u &&& 31))) ∧ (∀ j, A' b j = if eP u v 0 0 ≤ j ∧ j < eP u v 0 0 + 16 then 0 else A b j) ∧ ∀ k, k ≠ a → k ≠ b → A' k = A k) := by
    intro fuel
    induction fuel with
    | zero => intro p k A1 h1 h2 h3 hfr hf; exact absurd hf (by omega)
    | succ fuel ih30 =>
      intro p k A1 h1 h2 h3 hfr hf
      refine j_iload dX5_joinByNoughts_30 rfl ?_
      refine j_bipush (v := nI 16) dX5_joinByNoughts_32 (by decide +kernel) ?_
      refine j_icmp_geN (tgt := 51) dX5_joinByNoughts_34 (by decide) (by omega) (by omega) (fun c34 => ?_) (fun c34 => ?_)
      · exact j_vret dX5_joinByNoughts_51 rfl ⟨rfl, rfl, h2, fun j => by rw [h3 j, show k = 16 by omega], hfr⟩
      · refine j_aload_n dX5_joinByNoughts_37 rfl ?_
        refine j_iload dX5_joinByNoughts_38 rfl ?_
        refine j_iload dX5_joinByNoughts_40 rfl ?_
        refine j_iaddN dX5_joinByNoughts_42 ?_
        refine j_iconst (v := nI 0) dX5_joinByNoughts_43 (by decide +kernel) ?_
        refine j_iastN dX5_joinByNoughts_44 hb hsb (by omega) (by decide) ?_
        refine j_iinc (v := nI (k + 1)) (lv' := [(1, .ref b), (4, .int (nI p)), (5, .int (nI (k + 1)))]) dX5_joinByNoughts_45 rfl (nI_add _ 1) (Nat.le_of_ble_eq_true rfl) rfl rfl ?_
        refine j_goto (tgt := 30) dX5_joinByNoughts_48 (by decide) ?_
        exact ih30 p (k + 1) (mj_u A1 b (p + k) (nI 0)) (by first | exact h1 | omega) (by rw [mj_u_ne _ _ hab]; exact h2) (fun j => by rw [h1.1]; exact jn_4 (fun j => h3 j) j) (fun k h1 h2 => by rw [mj_u_ne _ _ h2]; exact hfr k h1 h2) (by omega)
  refine j_aload_n dX5_joinByNoughts_0 rfl ?_
  refine j_iload_n dX5_joinByNoughts_1 rfl ?_
  refine j_dup2 dX5_joinByNoughts_2 rfl rfl ?_
  refine j_ialdN dX5_joinByNoughts_3 ha hsa (by omega) (by decide) ?_
  refine j_iconst (v := nI 1) dX5_joinByNoughts_4 (by decide +kernel) ?_
  refine j_iload_n dX5_joinByNoughts_5 rfl ?_
  refine j_ishl dX5_joinByNoughts_6 ?_
  refine j_ior dX5_joinByNoughts_7 ?_
  refine j_iastN dX5_joinByNoughts_8 ha hsa (by omega) (by decide) ?_
  refine j_aload_n dX5_joinByNoughts_9 rfl ?_
  refine j_iload_n dX5_joinByNoughts_10 rfl ?_
  refine j_dup2 dX5_joinByNoughts_11 rfl rfl ?_
  refine j_ialdN dX5_joinByNoughts_12 ha hsa (by omega) (by decide) ?_
  refine j_iconst (v := nI 1) dX5_joinByNoughts_13 (by decide +kernel) ?_
  refine j_iload_n dX5_joinByNoughts_14 rfl ?_
  refine j_ishl dX5_joinByNoughts_15 ?_
  refine j_ior dX5_joinByNoughts_16 ?_
  refine j_iastN dX5_joinByNoughts_17 ha hsa (by omega) (by decide) ?_
  refine j_iload_n dX5_joinByNoughts_18 rfl ?_
  refine j_iload_n dX5_joinByNoughts_19 rfl ?_
  refine j_iconst (v := nI 0) dX5_joinByNoughts_20 (by decide +kernel) ?_
  refine j_iconst (v := nI 0) dX5_joinByNoughts_21 (by decide +kernel) ?_
  refine j_callS (y' := mX5_entryPlace) (As := [.int (nI u), .int (nI v), .int (nI 0), .int (nI 0)]) (st := []) dX5_joinByNoughts_22 lkX5_166 okX5_entryPlace stX5_entryPlace rfl (Nat.le_of_ble_eq_true rfl) (Nat.le_of_ble_eq_true rfl) (c_entryPlace z _ u v 0 0 (by omega) (by omega) (by omega) F (mj_u (mj_u A a u ((A a u) ||| ((nI 1) <<< ((nI v) &&& 31)))) a v (((mj_u A a u ((A a u) ||| ((nI 1) <<< ((nI v) &&& 31)))) a v) ||| ((nI 1) <<< ((nI u) &&& 31))))) (fun v22 F22 A22 hq22 => ?_)
  obtain ⟨rfl, rfl, e22, rfl, he22⟩ := hq22
  have hl22 : e22 ≤ 432 := by rw [he22]; exact eP_lt0 (by omega) (by omega) (by omega)
  refine j_istore (lv' := [(0, .ref a), (1, .ref b), (2, .int (nI u)), (3, .int (nI v)), (4, .int (nI e22))]) dX5_joinByNoughts_25 (Nat.le_of_ble_eq_true rfl) rfl rfl ?_
  refine j_iconst (v := nI 0) dX5_joinByNoughts_27 (by decide +kernel) ?_
  refine j_istore (lv' := [(0, .ref a), (1, .ref b), (2, .int (nI u)), (3, .int (nI v)), (4, .int (nI e22)), (5, .int (nI 0))]) dX5_joinByNoughts_28 (Nat.le_of_ble_eq_true rfl) rfl rfl ?_
  refine j_sub [1, 4, 5] rfl ?_
  exact L30 _ e22 0 (mj_u (mj_u A a u ((A a u) ||| ((nI 1) <<< ((nI v) &&& 31)))) a v (((mj_u A a u ((A a u) ||| ((nI 1) <<< ((nI v) &&& 31)))) a v) ||| ((nI 1) <<< ((nI u) &&& 31)))) ⟨he22, by omega, hl22⟩ (by rw [mj_u_at, mj_u_at, pk_un (Ne.symm huv)]) (fun j => jn_3 hab) (fun k h1 h2 => by rw [mj_u_ne _ _ h1, mj_u_ne _ _ h1]) (Nat.lt_succ_self _)

set_option maxHeartbeats 400000 in
set_option maxRecDepth 100000 in
theorem c_part (z : mj_B) (d : Nat) (a u v : Nat) (hu : u < 8) (hv : v < 8) (ha : a < 117) (hsa : SHC a = .inl (0, 8, .inl (fun _ => 0))) (F A : mj_S) : J (gC z) mX5_part d 0 [(0, .ref a), (1, .int (nI u)), (2, .int (nI v))] [] F A (fun _w F' A' => _w = none ∧ F = F' ∧ A' a = upd (upd (A a) u (A a u &&& ((nI 1 <<< (nI v &&& 31)) ^^^ (-1)))) v (upd (A a) u (A a u &&& ((nI 1 <<< (nI v &&& 31)) ^^^ (-1))) v &&& ((nI 1 <<< (nI u &&& 31)) ^^^ (-1))) ∧ ∀ k, k ≠ a → A' k = A k) := by
  refine j_aload_n dX5_part_0 rfl ?_
  refine j_iload_n dX5_part_1 rfl ?_
  refine j_dup2 dX5_part_2 rfl rfl ?_
  refine j_ialdN dX5_part_3 ha hsa (by omega) (by decide) ?_
  refine j_iconst (v := nI 1) dX5_part_4 (by decide +kernel) ?_
  refine j_iload_n dX5_part_5 rfl ?_
  refine j_ishl dX5_part_6 ?_
  refine j_iconst (v := (-1)) dX5_part_7 (by decide +kernel) ?_
  refine j_ixor dX5_part_8 ?_
  refine j_iand dX5_part_9 ?_
  refine j_iastN dX5_part_10 ha hsa (by omega) (by decide) ?_
  refine j_aload_n dX5_part_11 rfl ?_
  refine j_iload_n dX5_part_12 rfl ?_
  refine j_dup2 dX5_part_13 rfl rfl ?_
  refine j_ialdN dX5_part_14 ha hsa (by omega) (by decide) ?_
  refine j_iconst (v := nI 1) dX5_part_15 (by decide +kernel) ?_
  refine j_iload_n dX5_part_16 rfl ?_
  refine j_ishl dX5_part_17 ?_
  refine j_iconst (v := (-1)) dX5_part_18 (by decide +kernel) ?_
  refine j_ixor dX5_part_19 ?_
  refine j_iand dX5_part_20 ?_
  refine j_iastN dX5_part_21 ha hsa (by omega) (by decide) ?_
  exact j_vret dX5_part_22 rfl ⟨rfl, rfl, by rw [mj_u_at, mj_u_at], fun k hk => by rw [mj_u_ne _ _ hk, mj_u_ne _ _ hk]⟩

set_option maxHeartbeats 400000 in
set_option maxRecDepth 100000 in
theorem c_copyRow (z : mj_B) (d : Nat) (a b n : Nat) (hn : n < 2147483648) (ha : a < 117) (hsa : SHC a = .inl (0, n, .inl (fun _ => 0))) (hb : b < 117) (hsb : SHC b = .inl (0, n, .inl (fun _ => 0))) (F A : mj_S) : J (gC z) mX5_copyRow (d + 1) 0 [(0, .ref a), (1, .ref b)] [] F A (fun v F' A' => v = none ∧ F = F' ∧ mj_a A b (va_cpy (A a) (A b) 0 0 n) = A') := by
  refine j_aload_n dX5_copyRow_0 rfl ?_
  refine j_iconst (v := 0) dX5_copyRow_1 (by decide +kernel) ?_
  refine j_aload_n dX5_copyRow_2 rfl ?_
  refine j_iconst (v := 0) dX5_copyRow_3 (by decide +kernel) ?_
  refine j_aload_n dX5_copyRow_4 rfl ?_
  refine j_alen (v := nI n) dX5_copyRow_5 ha hsa (by decide) rfl ?_
  refine j_aload_n dX5_copyRow_6 rfl ?_
  refine j_alen (v := nI n) dX5_copyRow_7 hb hsb (by decide) rfl ?_
  refine j_min dX5_copyRow_8 lkX5_256 mn_st mn_in mn_co (Nat.le_of_ble_eq_true rfl) ?_
  refine j_top (y0 := nI n) (by simp [mj_min]) ?_
  refine j_copy (n := nI n) dX5_copyRow_11 lkX5_261 ac_na ac_st ac_in ha hsa hb hsb (nI_pos hn) (by rw [nI_clamp hn]; exact Nat.le_refl n) (by rw [nI_clamp hn]; exact Nat.le_refl n) (Nat.le_of_ble_eq_true rfl) ?_
  rw [nI_clamp hn]
  exact j_vret dX5_copyRow_14 rfl ⟨rfl, rfl, rfl⟩
