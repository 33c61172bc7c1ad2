/-! a graph of the class (object o) against a row -/
def GR0 (F A : mj_S) (o n : Nat) (mm : Nat → Nat) (row : Nat → Int32) : Prop := (F o 0 = nI n ∧ n ≤ 8) ∧ ∀ u, u < n → mm u ≤ 4 ∧ A (o + 1) u = nI (mm u) ∧ A (o + 2) u = row (32 + u) ∧ A (o + 3) u = row (40 + u) - 1 ∧ ∀ i, i < mm u → A (o + 5) (4 * u + i) = row (4 * u + i)
def GRm (A : mj_S) (o n : Nat) (row : Nat → Int32) : Prop := ∀ u, u < n → A (o + 4) u = nI (mkB row u)
def GRf (A : mj_S) (o n : Nat) (mm : Nat → Nat) (row : Nat → Int32) : Prop := ∀ u v i j, u < v → v < n → i < mm u → j < mm v → 0 < row (eA u v 0 0) → row (eA u v i j) = A (o + 6) (eP u v i j) + 1
def GR (F A : mj_S) (o n : Nat) (mm : Nat → Nat) (row : Nat → Int32) : Prop := GR0 F A o n mm row ∧ GRm A o n row ∧ GRf A o n mm row
/-- a row that tells a graph -/
def wr (n : Nat) (mm : Nat → Nat) (row : Nat → Int32) : Prop := (n ≤ 8 ∧ ∀ u, u < n → 1 ≤ mm u ∧ mm u ≤ 4) ∧ (∀ u, u < n → (∃ t, t ≤ 3 ∧ row (32 + u) = nI t) ∧ (∃ t, t ≤ mm u ∧ row (40 + u) = nI t) ∧ ∀ i, i < mm u → ∃ t, t ≤ 99 ∧ row (4 * u + i) = nI t) ∧ (∀ u v, u < v → v < 8 → n ≤ v → ¬ 0 < row (eA u v 0 0)) ∧ (∀ u v i j, u < v → v < n → i < mm u → j < mm v → 0 < row (eA u v 0 0) → ∃ t, t ≤ 9 ∧ row (eA u v i j) = nI (t + 1)) ∧ tsN row 28 ≤ 12
/-- one that is read: none is pinned -/
def wd (n : Nat) (mm : Nat → Nat) (row : Nat → Int32) : Prop := wr n mm row ∧ ∀ u, u < 8 → row (40 + u) = 0
theorem tsN_congr {row row' : Nat → Int32} : ∀ {p : Nat}, (∀ q, q < p → row (52 + 16 * q) = row' (52 + 16 * q)) → tsN row p = tsN row' p
  | 0, _ => rfl
  | p + 1, h => by
    show tsN row p + _ = tsN row' p + _
    rw [tsN_congr (fun q hq => h q (by omega)), h p (by omega)]
theorem tsN_low {row : Nat → Int32} {k : Nat} {x : Int32} (hk : k < 52) (p : Nat) : tsN (upd row k x) p = tsN row p := tsN_congr (fun q _ => pk_un (by omega))
theorem tdd_low {row : Nat → Int32} {k : Nat} {x : Int32} (hk : k < 52) (u v : Nat) : tdd (upd row k x) u v = tdd row u v := by
  unfold tdd
  rw [pk_un (show eA u v 0 0 ≠ k from fun e => by have := eA_ge u v 0 0; omega)]
theorem mkB_low {row : Nat → Int32} {k : Nat} {x : Int32} (hk : k < 52) (u : Nat) : mkB (upd row k x) u = mkB row u := mkB_congr (fun v _ => tdd_low hk u v)
theorem eA_low {row : Nat → Int32} {k : Nat} {x : Int32} (hk : k < 52) (u v i j : Nat) : upd row k x (eA u v i j) = row (eA u v i j) := pk_un (fun e => by have := eA_ge u v i j; omega)
theorem GRm.low {A : mj_S} {o n : Nat} {row : Nat → Int32} (h : GRm A o n row) {k : Nat} (hk : k < 52) (x : Int32) : GRm A o n (upd row k x) := fun u hu => by rw [mkB_low hk]; exact h u hu
theorem GRf.low {A : mj_S} {o n : Nat} {mm : Nat → Nat} {row : Nat → Int32} (h : GRf A o n mm row) {k : Nat} (hk : k < 52) (x : Int32) : GRf A o n mm (upd row k x) := fun u v i j h1 h2 h3 h4 h5 => by
  rw [eA_low hk] at h5 ⊢
  exact h u v i j h1 h2 h3 h4 h5
/-- another array's cell -/
theorem GR.off {F A : mj_S} {o n : Nat} {mm : Nat → Nat} {row : Nat → Int32} (h : GR F A o n mm row) {F' A' : mj_S} (hF : F' o 0 = F o 0) (hA : ∀ i, 1 ≤ i → i ≤ 6 → A' (o + i) = A (o + i)) : GR F' A' o n mm row := by
  refine ⟨⟨⟨hF.trans h.1.1.1, h.1.1.2⟩, fun u hu => ?_⟩, fun u hu => ?_, fun u v i j h1 h2 h3 h4 h5 => ?_⟩
  · rw [hA 1 (by omega) (by omega), hA 2 (by omega) (by omega), hA 3 (by omega) (by omega), hA 5 (by omega) (by omega)]; exact h.1.2 u hu
  · rw [hA 4 (by omega) (by omega)]; exact h.2.1 u hu
  · rw [hA 6 (by omega) (by omega)]; exact h.2.2 u v i j h1 h2 h3 h4 h5
/-- the row alone matters up to 500 -/
theorem GR.congr {F A : mj_S} {o n : Nat} {mm : Nat → Nat} {row row' : Nat → Int32} (h : GR F A o n mm row) (e : ∀ k, k < 500 → row' k = row k) : GR F A o n mm row' := by
  have h8 := h.1.1.2
  refine ⟨⟨h.1.1, fun u hu => ?_⟩, fun u hu => ?_, fun u v i j h1 h2 h3 h4 h5 => ?_⟩
  · obtain ⟨g0, g1, g2, g3, g4⟩ := h.1.2 u hu
    refine ⟨g0, g1, by rw [e _ (by omega)]; exact g2, by rw [e _ (by omega)]; exact g3, fun i hi => by rw [e _ (by omega)]; exact g4 i hi⟩
  · rw [mkB_congr (row := row') (row' := row) (fun v hv => ?_)]
    · exact h.2.1 u hu
    · unfold tdd
      by_cases hh : u = v
      · rw [if_neg (fun q => q.1 hh), if_neg (fun q => q.1 hh)]
      · rw [e _ (eA_lt (by omega) hv hh (by omega) (by omega))]
  · have b1 := (h.1.2 u (by omega)).1
    have b2 := (h.1.2 v h2).1
    rw [e _ (eA_lt (by omega) (by omega) (by omega) (by omega) (by omega))] at h5 ⊢
    exact h.2.2 u v i j h1 h2 h3 h4 h5
theorem GR.own {F A : mj_S} {o n : Nat} {mm : Nat → Nat} {row : Nat → Int32} (h : GR F A o n mm row) {k : Nat} (hk : k < 32) (x : Int32) : GR F (mj_u A (o + 5) k x) o n mm (upd row k x) := by
  refine ⟨⟨h.1.1, fun u hu => ?_⟩, fun u hu => ?_, fun u v i j h1 h2 h3 h4 h5 => ?_⟩
  · rw [mj_u_ne A x (show o + 1 ≠ o + 5 by omega), mj_u_ne A x (show o + 2 ≠ o + 5 by omega), mj_u_ne A x (show o + 3 ≠ o + 5 by omega), mj_u_at, pk_un (show 32 + u ≠ k by omega), pk_un (show 40 + u ≠ k by omega)]
    obtain ⟨h0, h1, h2, h3, h4⟩ := h.1.2 u hu
    refine ⟨h0, h1, h2, h3, fun i hi => ?_⟩
    by_cases e : 4 * u + i = k
    · rw [e, pk_us, pk_us]
    · rw [pk_un e, pk_un e]; exact h4 i hi
  · rw [mj_u_ne A x (show o + 4 ≠ o + 5 by omega)]; exact h.2.1.low (by omega) x u hu
  · rw [mj_u_ne A x (show o + 6 ≠ o + 5 by omega)]; exact h.2.2.low (by omega) x u v i j h1 h2 h3 h4 h5
theorem GR.kind {F A : mj_S} {o n : Nat} {mm : Nat → Nat} {row : Nat → Int32} (h : GR F A o n mm row) {u0 : Nat} (hk : u0 < 8) (x : Int32) : GR F (mj_u A (o + 2) u0 x) o n mm (upd row (32 + u0) x) := by
  have h8 := h.1.1.2
  refine ⟨⟨h.1.1, fun u hu => ?_⟩, fun u hu => ?_, fun u v i j h1 h2 h3 h4 h5 => ?_⟩
  · rw [mj_u_ne A x (show o + 1 ≠ o + 2 by omega), mj_u_at, mj_u_ne A x (show o + 3 ≠ o + 2 by omega), mj_u_ne A x (show o + 5 ≠ o + 2 by omega), pk_un (show 40 + u ≠ 32 + u0 by omega)]
    obtain ⟨h0, h1, h2, h3, h4⟩ := h.1.2 u hu
    refine ⟨h0, h1, ?_, h3, fun i hi => ?_⟩
    · by_cases e : u = u0
      · rw [e, pk_us, pk_us]
      · rw [pk_un e, pk_un (show 32 + u ≠ 32 + u0 by omega)]; exact h2
    · rw [pk_un (by omega)]; exact h4 i hi
  · rw [mj_u_ne A x (show o + 4 ≠ o + 2 by omega)]; exact h.2.1.low (by omega) x u hu
  · rw [mj_u_ne A x (show o + 6 ≠ o + 2 by omega)]; exact h.2.2.low (by omega) x u v i j h1 h2 h3 h4 h5
theorem GR.pin {F A : mj_S} {o n : Nat} {mm : Nat → Nat} {row : Nat → Int32} (h : GR F A o n mm row) {u0 : Nat} (hk : u0 < 8) {x y : Int32} (hy : y = x - 1) : GR F (mj_u A (o + 3) u0 y) o n mm (upd row (40 + u0) x) := by
  have h8 := h.1.1.2
  refine ⟨⟨h.1.1, fun u hu => ?_⟩, fun u hu => ?_, fun u v i j h1 h2 h3 h4 h5 => ?_⟩
  · rw [mj_u_ne A y (show o + 1 ≠ o + 3 by omega), mj_u_at, mj_u_ne A y (show o + 2 ≠ o + 3 by omega), mj_u_ne A y (show o + 5 ≠ o + 3 by omega), pk_un (show 32 + u ≠ 40 + u0 by omega)]
    obtain ⟨h0, h1, h2, h3, h4⟩ := h.1.2 u hu
    refine ⟨h0, h1, h2, ?_, fun i hi => ?_⟩
    · by_cases e : u = u0
      · rw [e, pk_us, pk_us]; exact hy
      · rw [pk_un e, pk_un (show 40 + u ≠ 40 + u0 by omega)]; exact h3
    · rw [pk_un (by omega)]; exact h4 i hi
  · rw [mj_u_ne A y (show o + 4 ≠ o + 3 by omega)]; exact h.2.1.low (by omega) x u hu
  · rw [mj_u_ne A y (show o + 6 ≠ o + 3 by omega)]; exact h.2.2.low (by omega) x u v i j h1 h2 h3 h4 h5
/-- the kind of a node that is not told yet -/
theorem GR.rowk {F A : mj_S} {o n : Nat} {mm : Nat → Nat} {row : Nat → Int32} (h : GR F A o n mm row) (hn : n < 8) (x : Int32) : GR F A o n mm (upd row (32 + n) x) := by
  refine ⟨⟨h.1.1, fun u hu => ?_⟩, fun u hu => h.2.1.low (by omega) x u hu, fun u v i j h1 h2 h3 h4 h5 => h.2.2.low (by omega) x u v i j h1 h2 h3 h4 h5⟩
  obtain ⟨h0, h1, h2, h3, h4⟩ := h.1.2 u hu
  exact ⟨h0, h1, by rw [pk_un (by omega)]; exact h2, by rw [pk_un (by omega)]; exact h3, fun i hi => by rw [pk_un (by omega)]; exact h4 i hi⟩
theorem mmU_at (mm : Nat → Nat) (n q : Nat) : mmU mm n q n = q := if_pos rfl
theorem mmU_ne {mm : Nat → Nat} {n q j : Nat} (h : j ≠ n) : mmU mm n q j = mm j := if_neg h
theorem mkB_z {row : Nat → Int32} {u : Nat} (h : ∀ v, v < 8 → tdd row u v = 0) : mkB row u = 0 := by
  unfold mkB
  rw [h 0 (by omega), h 1 (by omega), h 2 (by omega), h 3 (by omega), h 4 (by omega), h 5 (by omega), h 6 (by omega), h 7 (by omega)]
theorem wr.off {n : Nat} {mm : Nat → Nat} {row : Nat → Int32} (h : wr n mm row) {u v : Nat} (hu : u < 8) (hv : v < 8) (hn : n ≤ u ∨ n ≤ v) : tdd row u v = 0 := by
  by_cases e : u = v
  · rw [e]; exact tdd_self row v
  · by_cases hl : u < v
    · exact tdd_0 (h.2.2.1 u v hl hv (by omega))
    · rw [tdd_sym]; exact tdd_0 (h.2.2.1 v u (by omega) hu (by omega))
/-- a node comes behind -/
theorem GR.node {F A : mj_S} {o n : Nat} {mm : Nat → Nat} {row : Nat → Int32} (h : GR F A o n mm row) (hn : n < 8) {q : Nat} (hq : q ≤ 4) {F' A' : mj_S} (hF : F' o 0 = nI (n + 1)) (h1 : A' (o + 1) = upd (A (o + 1)) n (nI q)) (h2 : A' (o + 2) = upd (A (o + 2)) n (row (32 + n))) (h3 : A' (o + 3) = upd (A (o + 3)) n (row (40 + n) - 1)) (h4 : A' (o + 4) = upd (A (o + 4)) n (nI 0)) (h5 : A' (o + 5) = A (o + 5)) (h6 : A' (o + 6) = A (o + 6)) (ho : ∀ i, i < q → A (o + 5) (4 * n + i) = row (4 * n + i)) (hz : ∀ u v, u < 8 → v < 8 → n ≤ u ∨ n ≤ v → tdd row u v = 0) : GR F' A' o (n + 1) (mmU mm n q) row := by
  refine ⟨⟨⟨hF, by omega⟩, fun u hu => ?_⟩, fun u hu => ?_, fun u v i j g1 g2 g3 g4 g5 => ?_⟩
  · rw [h1, h2, h3, h5]
    by_cases e : u = n
    · subst e
      rw [pk_us, pk_us, pk_us, mmU_at]
      exact ⟨hq, rfl, rfl, rfl, ho⟩
    · rw [pk_un e, pk_un e, pk_un e, mmU_ne e]
      exact h.1.2 u (by omega)
  · rw [h4]
    by_cases e : u = n
    · subst e
      rw [pk_us, mkB_z (fun v hv => hz u v hn hv (Or.inl (Nat.le_refl _)))]
    · rw [pk_un e]; exact h.2.1 u (by omega)
  · rw [h6]
    by_cases e : v = n
    · subst e
      have := hz u v (by omega) hn (Or.inr (Nat.le_refl _))
      rw [tdd_1 (by omega) g5] at this
      exact absurd this (by omega)
    · rw [mmU_ne (show u ≠ n by omega)] at g3
      rw [mmU_ne e] at g4
      exact h.2.2 u v i j g1 (by omega) g3 g4 g5
/-- a table that is being read, up to its q-th figure -/
def GT (F A : mj_S) (o n : Nat) (mm : Nat → Nat) (row : Nat → Int32) (u v q : Nat) : Prop := GR0 F A o n mm row ∧ (∀ u' v' i j, u' < v' → v' < n → i < mm u' → j < mm v' → (u' ≠ u ∨ v' ≠ v) → 0 < row (eA u' v' 0 0) → row (eA u' v' i j) = A (o + 6) (eP u' v' i j) + 1) ∧ ∀ i j, i < mm u → j < mm v → i * mm v + j < q → row (eA u v i j) = A (o + 6) (eP u v i j) + 1
theorem GR0.high {F A : mj_S} {o n : Nat} {mm : Nat → Nat} {row : Nat → Int32} (h : GR0 F A o n mm row) {k : Nat} (hk : 52 ≤ k) (x : Int32) {A' : mj_S} (hA : ∀ i, 1 ≤ i → i ≤ 5 → i ≠ 4 → A' (o + i) = A (o + i)) : GR0 F A' o n mm (upd row k x) := by
  have h8 := h.1.2
  refine ⟨h.1, fun u hu => ?_⟩
  rw [hA 1 (by omega) (by omega) (by omega), hA 2 (by omega) (by omega) (by omega), hA 3 (by omega) (by omega) (by omega), hA 5 (by omega) (by omega) (by omega), pk_un (by omega), pk_un (by omega)]
  obtain ⟨h0, h1, h2, h3, h4⟩ := h.2 u hu
  exact ⟨h0, h1, h2, h3, fun i hi => by rw [pk_un (by omega)]; exact h4 i hi⟩
theorem GR0.same {F A : mj_S} {o n : Nat} {mm : Nat → Nat} {row : Nat → Int32} (h : GR0 F A o n mm row) {F' A' : mj_S} (hF : F' o 0 = F o 0) (hA : ∀ i, 1 ≤ i → i ≤ 5 → i ≠ 4 → A' (o + i) = A (o + i)) : GR0 F' A' o n mm row := by
  refine ⟨⟨hF.trans h.1.1, h.1.2⟩, fun u hu => ?_⟩
  rw [hA 1 (by omega) (by omega) (by omega), hA 2 (by omega) (by omega) (by omega), hA 3 (by omega) (by omega) (by omega), hA 5 (by omega) (by omega) (by omega)]
  exact h.2 u hu
theorem GT.step {F A : mj_S} {o n : Nat} {mm : Nat → Nat} {row : Nat → Int32} {u v i0 j0 q : Nat} (h : GT F A o n mm row u v q) (huv : u < v) (hv : v < n) (hi : i0 < mm u) (hj : j0 < mm v) (hq : q = i0 * mm v + j0) (a : Nat) : GT F (mj_u A (o + 6) (eP u v i0 j0) (nI a)) o n mm (upd row (eA u v i0 j0) (nI (1 + a))) u v (q + 1) := by
  have h8 := h.1.1.2
  have bu := (h.1.2 u (by omega)).1
  have bv := (h.1.2 v hv).1
  refine ⟨h.1.high (eA_ge _ _ _ _) _ (fun i g1 g2 g3 => mj_u_ne A _ (by omega)), fun u' v' i j g1 g2 g3 g4 g5 g6 => ?_, fun i j g1 g2 g3 => ?_⟩
  · have bu' := (h.1.2 u' (by omega)).1
    have bv' := (h.1.2 v' g2).1
    have e1 : ∀ i j, i < 4 → j < 4 → eA u' v' i j ≠ eA u v i0 j0 := fun i j h1 h2 e => by
      have := eA_inj g1 (by omega) huv (by omega) h1 h2 (by omega) (by omega) e
      omega
    rw [pk_un (e1 0 0 (by omega) (by omega))] at g6
    rw [pk_un (e1 i j (by omega) (by omega)), mj_u_at, pk_un (fun e => e1 i j (by omega) (by omega) (by rw [eA_eP, eA_eP, e]))]
    exact h.2.1 u' v' i j g1 g2 g3 g4 g5 g6
  · by_cases e : i = i0 ∧ j = j0
    · obtain ⟨rfl, rfl⟩ := e
      rw [pk_us, mj_u_at, pk_us, nI_1, Nat.add_comm]
    · have e1 : eP u v i j ≠ eP u v i0 j0 := fun e2 => e (eP_inj huv (by omega) huv (by omega) (by omega) (by omega) (by omega) (by omega) e2).2.2
      rw [mj_u_at, pk_un e1, pk_un (fun e => e1 (by rw [eA_eP, eA_eP] at e; omega))]
      refine h.2.2 i j g1 g2 ?_
      rcases (show i < i0 ∨ i0 < i ∨ i = i0 by omega) with hl | hl | hl
      · have : (i + 1) * mm v ≤ i0 * mm v := Nat.mul_le_mul_right _ hl
        rw [Nat.add_mul] at this
        omega
      · have : (i0 + 1) * mm v ≤ i * mm v := Nat.mul_le_mul_right _ hl
        rw [Nat.add_mul] at this
        omega
      · subst hl
        omega
theorem tdd_hs {row row0 : Nat → Int32} {u v : Nat} (hs : ∀ u' v', u' < v' → v' < 8 → (u' ≠ u ∨ v' ≠ v) → row (eA u' v' 0 0) = row0 (eA u' v' 0 0)) {a b : Nat} (ha : a < 8) (hb : b < 8) (h1 : a ≠ u ∨ b ≠ v) (h2 : a ≠ v ∨ b ≠ u) : tdd row a b = tdd row0 a b := by
  rcases (show a < b ∨ a = b ∨ b < a by omega) with h | h | h
  · unfold tdd; rw [hs a b h hb h1]
  · rw [h, tdd_self, tdd_self]
  · rw [tdd_sym row, tdd_sym row0]; unfold tdd; rw [hs b a h ha (by omega)]
theorem GT.fin {F A : mj_S} {o n : Nat} {mm : Nat → Nat} {row row0 : Nat → Int32} {u v : Nat} (h : GT F A o n mm row u v (mm u * mm v)) (huv : u < v) (hv : v < n) (hp : 0 < row (eA u v 0 0)) (h0 : tdd row0 u v = 0) (hs : ∀ u' v', u' < v' → v' < 8 → (u' ≠ u ∨ v' ≠ v) → row (eA u' v' 0 0) = row0 (eA u' v' 0 0)) (hm : ∀ w, w < n → A (o + 4) w = nI (mkB row0 w + (if w = u then 2 ^ v else if w = v then 2 ^ u else 0))) : GR F A o n mm row := by
  have h8 := h.1.1.2
  refine ⟨h.1, fun w hw => ?_, fun u' v' i j g1 g2 g3 g4 g5 => ?_⟩
  · rw [hm w hw]
    by_cases e : w = u
    · subst e
      rw [if_pos rfl, mkB_add (row := row0) (row' := row) (w := v) (by omega) (fun b hb hne => tdd_hs hs (by omega) hb (Or.inr hne) (by omega)) h0 (tdd_1 (by omega) hp)]
    · rw [if_neg e]
      by_cases e2 : w = v
      · subst e2
        rw [if_pos rfl, mkB_add (row := row0) (row' := row) (w := u) (by omega) (fun b hb hne => tdd_hs hs (by omega) hb (by omega) (Or.inr hne)) (by rw [tdd_sym]; exact h0) (by rw [tdd_sym]; exact tdd_1 (by omega) hp)]
      · rw [if_neg e2, Nat.add_zero, mkB_congr (row := row) (row' := row0) (fun b hb => tdd_hs hs (by omega) hb (Or.inl e) (Or.inl e2))]
  · by_cases e : u' = u ∧ v' = v
    · obtain ⟨rfl, rfl⟩ := e
      refine h.2.2 i j g3 g4 ?_
      have : (i + 1) * mm v' ≤ mm u' * mm v' := Nat.mul_le_mul_right _ g3
      rw [Nat.add_mul] at this
      omega
    · exact h.2.1 u' v' i j g1 g2 g3 g4 (by omega) g5
/-! what the reading keeps -/
theorem rd_o_s (c : Nat → Int32) (n f k i : Nat) (row : Nat → Int32) : rd_o c n (f + 1) k i row = if c k = nI 44 then (if i = 4 then none else match rd_n c (k + 1) with
      | none => none
      | some (w, k1) => rd_o c n f k1 (i + 1) (upd row (4 * n + i) (nI w))) else if c k = nI 59 ∧ 0 < i then some (k + 1, i, row) else none := rfl
theorem rd_o_wd {c : Nat → Int32} {n : Nat} : ∀ {f k i : Nat} {row : Nat → Int32} {k' q : Nat} {row' : Nat → Int32}, rd_o c n f k i row = some (k', q, row') → i ≤ 4 → i ≤ q ∧ q ≤ 4 ∧ 0 < q ∧ k < k' ∧ c (k' - 1) = nI 59 ∧ (∀ j, ¬ (4 * n + i ≤ j ∧ j < 4 * n + q) → row' j = row j) ∧ ∀ i', i ≤ i' → i' < q → ∃ t, t ≤ 99 ∧ row' (4 * n + i') = nI t
  | 0, _, _, _, _, _, _, h, _ => by cases h
  | f + 1, k, i, row, k', q, row', h, hi => by
    rw [rd_o_s] at h
    by_cases h1 : c k = nI 44
    · rw [if_pos h1] at h
      by_cases h2 : i = 4
      · rw [if_pos h2] at h; cases h
      · rw [if_neg h2] at h
        cases h3 : rd_n c (k + 1) with
        | none => rw [h3] at h; cases h
        | some p =>
          obtain ⟨w, k1⟩ := p
          rw [h3] at h
          obtain ⟨b1, b2, b3, -⟩ := rd_n_some h3
          obtain ⟨a1, a2, a3, a4, a5, a6, a7⟩ := rd_o_wd h (by omega)
          refine ⟨by omega, a2, a3, by omega, a5, fun j hj => ?_, fun i' g1 g2 => ?_⟩
          · rw [a6 j (by omega), pk_un (by omega)]
          · by_cases e : i' = i
            · subst e
              refine ⟨w, b1, ?_⟩
              rw [a6 _ (by omega), pk_us]
            · exact a7 i' (by omega) g2
    · rw [if_neg h1] at h
      by_cases h2 : c k = nI 59 ∧ 0 < i
      · rw [if_pos h2] at h
        cases h
        exact ⟨Nat.le_refl _, hi, h2.2, by omega, h2.1, fun j _ => rfl, fun i' g1 g2 => absurd g1 (by omega)⟩
      · rw [if_neg h2] at h; cases h
theorem wr.low {n : Nat} {mm : Nat → Nat} {row row' : Nat → Int32} (h : wr n mm row) (e : ∀ k, 52 ≤ k → row' k = row k) (e1 : ∀ u, u < n → row' (32 + u) = row (32 + u) ∧ row' (40 + u) = row (40 + u) ∧ ∀ i, i < mm u → row' (4 * u + i) = row (4 * u + i)) : wr n mm row' := by
  refine ⟨h.1, fun u hu => ?_, fun u v h1 h2 h3 => ?_, fun u v i j h1 h2 h3 h4 h5 => ?_, ?_⟩
  · obtain ⟨a1, a2, a3⟩ := e1 u hu
    obtain ⟨b1, b2, b3⟩ := h.2.1 u hu
    exact ⟨by rw [a1]; exact b1, by rw [a2]; exact b2, fun i hi => by rw [a3 i hi]; exact b3 i hi⟩
  · rw [e _ (eA_ge _ _ _ _)]; exact h.2.2.1 u v h1 h2 h3
  · rw [e _ (eA_ge _ _ _ _)] at h5 ⊢; exact h.2.2.2.1 u v i j h1 h2 h3 h4 h5
  · rw [tsN_congr (row' := row) (fun q _ => e _ (by omega))]; exact h.2.2.2.2
theorem wr.node {n : Nat} {mm : Nat → Nat} {row : Nat → Int32} (h : wr n mm row) (hn : n < 8) {q : Nat} (h1 : 1 ≤ q) (h4 : q ≤ 4) (hk : ∃ t, t ≤ 3 ∧ row (32 + n) = nI t) (hp : row (40 + n) = 0) (ho : ∀ i, i < q → ∃ t, t ≤ 99 ∧ row (4 * n + i) = nI t) : wr (n + 1) (mmU mm n q) row := by
  refine ⟨⟨by omega, fun u hu => ?_⟩, fun u hu => ?_, fun u v g1 g2 g3 => h.2.2.1 u v g1 g2 (by omega), fun u v i j g1 g2 g3 g4 g5 => ?_, h.2.2.2.2⟩
  · by_cases e : u = n
    · rw [e, mmU_at]; exact ⟨h1, h4⟩
    · rw [mmU_ne e]; exact h.1.2 u (by omega)
  · by_cases e : u = n
    · subst e
      rw [mmU_at]
      exact ⟨hk, ⟨0, by omega, by rw [hp, nI_0]⟩, ho⟩
    · rw [mmU_ne e]; exact h.2.1 u (by omega)
  · by_cases e : v = n
    · subst e
      exact absurd g5 (h.2.2.1 u v g1 hn (Nat.le_refl _))
    · rw [mmU_ne (show u ≠ n by omega)] at g3
      rw [mmU_ne e] at g4
      exact h.2.2.2.1 u v i j g1 (by omega) g3 g4 g5
theorem rd_node_wd {c : Nat → Int32} {k n : Nat} {mm : Nat → Nat} {row : Nat → Int32} {r : rd_R} (h : rd_node c k n mm row = some r) (hw : wd n mm row) : r.2.1 = n + 1 ∧ n < 8 ∧ wd r.2.1 r.2.2.1 r.2.2.2 ∧ k < r.1 ∧ c (r.1 - 1) = nI 59 := by
  unfold rd_node at h
  cases h1 : rd_n c k with
  | none => rw [h1] at h; cases h
  | some p =>
    obtain ⟨w, k1⟩ := p
    rw [h1] at h
    obtain ⟨b1, b2, b3, -⟩ := rd_n_some h1
    by_cases h2 : w ≤ 3 ∧ n < 8
    · have h : (match rd_o c n 6 k1 0 (upd row (32 + n) (nI w)) with
        | none => none
        | some (k', q, row') => some (k', n + 1, mmU mm n q, row')) = some r := by
        have h0 := h
        simp only [if_pos h2] at h0
        exact h0
      cases h3 : rd_o c n 6 k1 0 (upd row (32 + n) (nI w)) with
      | none => rw [h3] at h; cases h
      | some p =>
        obtain ⟨k', q, row'⟩ := p
        rw [h3] at h
        cases h
        obtain ⟨a1, a2, a3, a4, a5, a6, a7⟩ := rd_o_wd h3 (by omega)
        have hw1 : wr n mm row' := hw.1.low (fun k hk => by rw [a6 k (by omega), pk_un (by omega)]) (fun u hu => by
          refine ⟨by rw [a6 _ (by omega), pk_un (by omega)], by rw [a6 _ (by omega), pk_un (by omega)], fun i hi => ?_⟩
          have := (hw.1.1.2 u hu).2
          rw [a6 _ (by omega), pk_un (by omega)])
        refine ⟨rfl, h2.2, ⟨hw1.node h2.2 (by omega) a2 ⟨w, h2.1, by rw [a6 _ (by omega), pk_us]⟩ (by rw [a6 _ (by omega), pk_un (by omega)]; exact hw.2 n h2.2) (fun i hi => a7 i (by omega) hi), fun u hu => ?_⟩, by omega, a5⟩
        show row' (40 + u) = 0
        rw [a6 _ (by omega), pk_un (by omega)]
        exact hw.2 u hu
    · have h0 := h
      simp only [if_neg h2] at h0
      cases h0
theorem rd_tb_s (c : Nat → Int32) (mm : Nat → Nat) (u v f k q : Nat) (row : Nat → Int32) : rd_tb c mm u v (f + 1) k q row = if q < mm u * mm v then (match rd_d c k with
      | none => none
      | some a => rd_tb c mm u v f (k + 1) (q + 1) (upd row (eA u v (q / mm v) (q % mm v)) (nI (1 + a)))) else if c k = nI 59 then some (k + 1, row) else none := rfl
theorem dm_lt {a b q : Nat} (hb : 0 < b) (h : q < a * b) : q / b < a ∧ q % b < b := ⟨Nat.div_lt_of_lt_mul (by rw [Nat.mul_comm]; exact h), Nat.mod_lt _ hb⟩
theorem dm_inj {b q q' : Nat} (h1 : q / b = q' / b) (h2 : q % b = q' % b) : q = q' := by
  have a1 := Nat.div_add_mod q b
  have a2 := Nat.div_add_mod q' b
  rw [h1, h2] at a1
  omega
theorem rd_tb_wd {c : Nat → Int32} {mm : Nat → Nat} {u v : Nat} (huv : u < v) (hv : v < 8) (hu4 : mm u ≤ 4) (hv4 : mm v ≤ 4) (hv1 : 1 ≤ mm v) : ∀ {f k q : Nat} {row : Nat → Int32} {k' : Nat} {row' : Nat → Int32}, rd_tb c mm u v f k q row = some (k', row') → k < k' ∧ c (k' - 1) = nI 59 ∧ (∀ x, (∀ q', q ≤ q' → q' < mm u * mm v → x ≠ eA u v (q' / mm v) (q' % mm v)) → row' x = row x) ∧ ∀ q', q ≤ q' → q' < mm u * mm v → ∃ a, a ≤ 9 ∧ row' (eA u v (q' / mm v) (q' % mm v)) = nI (a + 1)
  | 0, _, _, _, _, _, h => by cases h
  | f + 1, k, q, row, k', row', h => by
    rw [rd_tb_s] at h
    by_cases h1 : q < mm u * mm v
    · rw [if_pos h1] at h
      cases h2 : rd_d c k with
      | none => rw [h2] at h; cases h
      | some a =>
        rw [h2] at h
        have ha := rd_d_some h2
        obtain ⟨a1, a2, a3, a4⟩ := rd_tb_wd huv hv hu4 hv4 hv1 h
        refine ⟨by omega, a2, fun x hx => ?_, fun q' g1 g2 => ?_⟩
        · rw [a3 x (fun q' g1 g2 => hx q' (by omega) g2), pk_un (hx q (Nat.le_refl _) h1)]
        · by_cases e : q' = q
          · subst e
            refine ⟨a, ha.1, ?_⟩
            rw [a3 _ (fun q'' g3 g4 e => ?_), pk_us, Nat.add_comm]
            have m1 := dm_lt hv1 h1
            have m2 := dm_lt hv1 g4
            have := eA_inj huv hv huv hv (by omega) (by omega) (by omega) (by omega) e
            have := dm_inj this.2.2.1 this.2.2.2
            omega
          · exact a4 q' (by omega) g2
    · rw [if_neg h1] at h
      by_cases h2 : c k = nI 59
      · rw [if_pos h2] at h
        cases h
        exact ⟨by omega, h2, fun x _ => rfl, fun q' g1 g2 => absurd g2 (by omega)⟩
      · rw [if_neg h2] at h; cases h
theorem tsN_one {row row' : Nat → Int32} {p0 : Nat} (h : ∀ p, p ≠ p0 → row' (52 + 16 * p) = row (52 + 16 * p)) : ∀ p, tsN row' p ≤ tsN row p + (if p0 < p then 1 else 0)
  | 0 => Nat.zero_le _
  | p + 1 => by
    have ih := tsN_one h p
    show tsN row' p + (if 0 < row' (52 + 16 * p) then 1 else 0) ≤ tsN row p + (if 0 < row (52 + 16 * p) then 1 else 0) + _
    by_cases e : p = p0
    · subst e
      rw [if_neg (Nat.lt_irrefl _)] at ih
      rw [if_pos (show p < p + 1 by omega)]
      have : (if 0 < row' (52 + 16 * p) then 1 else 0) ≤ 1 := by split <;> omega
      omega
    · rw [h p e]
      by_cases hl : p0 < p
      · rw [if_pos hl] at ih; rw [if_pos (show p0 < p + 1 by omega)]; omega
      · rw [if_neg hl] at ih; rw [if_neg (show ¬ p0 < p + 1 by omega)]; omega
theorem eA_pair {u v i j p : Nat} (huv : u < v) (hi : i < 4) (hj : j < 4) (h : p ≠ v * (v - 1) / 2 + u ∨ 0 < i ∨ 0 < j) : 52 + 16 * p ≠ eA u v i j := by
  unfold eA
  rw [if_pos huv]
  omega
theorem rd_tb_row {c : Nat → Int32} {mm : Nat → Nat} {u v : Nat} (huv : u < v) (hv : v < 8) (hu4 : mm u ≤ 4) (hv4 : mm v ≤ 4) (hu1 : 1 ≤ mm u) (hv1 : 1 ≤ mm v) {f k : Nat} {row : Nat → Int32} {k' : Nat} {row' : Nat → Int32} (h : rd_tb c mm u v f k 0 row = some (k', row')) : (∀ x, (∀ i j, i < 4 → j < 4 → x ≠ eA u v i j) → row' x = row x) ∧ (∀ i j, i < mm u → j < mm v → ∃ a, a ≤ 9 ∧ row' (eA u v i j) = nI (a + 1)) ∧ ∀ u' v', u' < v' → v' < 8 → (u' ≠ u ∨ v' ≠ v) → ∀ i j, i < 4 → j < 4 → row' (eA u' v' i j) = row (eA u' v' i j) := by
  obtain ⟨-, -, a3, a4⟩ := rd_tb_wd huv hv hu4 hv4 hv1 h
  have hA : ∀ x, (∀ i j, i < 4 → j < 4 → x ≠ eA u v i j) → row' x = row x := fun x hx => a3 x (fun q' _ g2 => by
    have m := dm_lt hv1 g2
    exact hx _ _ (by omega) (by omega))
  refine ⟨hA, fun i j h1 h2 => ?_, fun u' v' g1 g2 g3 i j g4 g5 => hA _ (fun i' j' g6 g7 e => ?_)⟩
  · have hq : i * mm v + j < mm u * mm v := by
      have : (i + 1) * mm v ≤ mm u * mm v := Nat.mul_le_mul_right _ h1
      rw [Nat.add_mul] at this
      omega
    obtain ⟨a, ha, e⟩ := a4 (i * mm v + j) (Nat.zero_le _) hq
    have e1 : (i * mm v + j) / mm v = i := by
      rw [Nat.mul_comm, Nat.mul_add_div (by omega), Nat.div_eq_of_lt h2, Nat.add_zero]
    have e2 : (i * mm v + j) % mm v = j := by
      rw [Nat.mul_comm, Nat.mul_add_mod, Nat.mod_eq_of_lt h2]
    rw [e1, e2] at e
    exact ⟨a, ha, e⟩
  · have := eA_inj g1 g2 huv hv g4 g5 g6 g7 e
    omega
theorem wr.tie {n : Nat} {mm : Nat → Nat} {row row' : Nat → Int32} (hw : wr n mm row) {u v : Nat} (huv : u < v) (hv : v < n) (h12 : tsN row 28 ≠ 12 ∨ 0 < row (eA u v 0 0)) (h1 : ∀ x, (∀ i j, i < 4 → j < 4 → x ≠ eA u v i j) → row' x = row x) (h2 : ∀ i j, i < mm u → j < mm v → ∃ a, a ≤ 9 ∧ row' (eA u v i j) = nI (a + 1)) : wr n mm row' := by
  have h8 := hw.1.1
  have hA : ∀ u' v', u' < v' → v' < 8 → (u' ≠ u ∨ v' ≠ v) → ∀ i j, i < 4 → j < 4 → row' (eA u' v' i j) = row (eA u' v' i j) := fun u' v' g1 g2 g3 i j g4 g5 => h1 _ (fun i' j' g6 g7 e => by
    have := eA_inj g1 g2 huv (by omega) g4 g5 g6 g7 e
    omega)
  have hlow : ∀ k, k < 52 → row' k = row k := fun k hk => h1 k (fun i j _ _ e => by have := eA_ge u v i j; omega)
  refine ⟨hw.1, fun w hw' => ?_, fun u' v' g1 g2 g3 => ?_, fun u' v' i j g1 g2 g3 g4 g5 => ?_, ?_⟩
  · have := (hw.1.2 w hw').2
    obtain ⟨b1, b2, b3⟩ := hw.2.1 w hw'
    exact ⟨by rw [hlow _ (by omega)]; exact b1, by rw [hlow _ (by omega)]; exact b2, fun i hi => by rw [hlow _ (by omega)]; exact b3 i hi⟩
  · rw [hA u' v' g1 g2 (by omega) 0 0 (by omega) (by omega)]; exact hw.2.2.1 u' v' g1 g2 g3
  · have b1 := (hw.1.2 u' (by omega)).2
    have b2 := (hw.1.2 v' g2).2
    by_cases e : u' = u ∧ v' = v
    · obtain ⟨rfl, rfl⟩ := e
      exact h2 i j g3 g4
    · rw [hA u' v' g1 (by omega) (by omega) 0 0 (by omega) (by omega)] at g5
      rw [hA u' v' g1 (by omega) (by omega) i j (by omega) (by omega)]
      exact hw.2.2.2.1 u' v' i j g1 g2 g3 g4 g5
  · have hp : ∀ p, p ≠ v * (v - 1) / 2 + u → row' (52 + 16 * p) = row (52 + 16 * p) := fun p hp => h1 _ (fun i j g1 g2 => eA_pair huv g1 g2 (Or.inl hp))
    rcases h12 with h | h
    · have := tsN_one hp 28
      have := hw.2.2.2.2
      split at * <;> omega
    · have e0 : eA u v 0 0 = 52 + 16 * (v * (v - 1) / 2 + u) := by unfold eA; rw [if_pos huv]; rfl
      obtain ⟨a, ha, e⟩ := h2 0 0 (by have := (hw.1.2 u (by omega)).1; omega) (by have := (hw.1.2 v hv).1; omega)
      have hpos : 0 < row' (eA u v 0 0) := by rw [e, ← nI_0]; exact nI_lt (by omega) (by omega)
      have : ∀ p, tsN row' p = tsN row p := by
        intro p
        induction p with
        | zero => rfl
        | succ p ih =>
          show tsN row' p + (if 0 < row' (52 + 16 * p) then 1 else 0) = tsN row p + (if 0 < row (52 + 16 * p) then 1 else 0)
          rw [ih]
          by_cases ep : p = v * (v - 1) / 2 + u
          · subst ep
            rw [← e0, if_pos h, if_pos hpos]
          · rw [hp p ep]
      rw [this]; exact hw.2.2.2.2
theorem rd_tie_wd {c : Nat → Int32} {k n : Nat} {mm : Nat → Nat} {row : Nat → Int32} {r : rd_R} (h : rd_tie c k n mm row = some r) (hw : wd n mm row) : r.2.1 = n ∧ r.2.2.1 = mm ∧ wd n mm r.2.2.2 ∧ k < r.1 ∧ c (r.1 - 1) = nI 59 := by
  unfold rd_tie at h
  cases h1 : rd_n c k with
  | none => rw [h1] at h; cases h
  | some p =>
    obtain ⟨u, k1⟩ := p
    rw [h1] at h
    obtain ⟨-, b2, -⟩ := rd_n_some h1
    by_cases h2 : c k1 = nI 44
    · simp only [if_pos h2] at h
      cases h3 : rd_n c (k1 + 1) with
      | none => rw [h3] at h; cases h
      | some p =>
        obtain ⟨v, k2⟩ := p
        rw [h3] at h
        obtain ⟨-, b3, -⟩ := rd_n_some h3
        by_cases h4 : c k2 = nI 44 ∧ u < v ∧ v < n ∧ ¬ 0 < row (eA u v 0 0) ∧ tsN row 28 ≠ 12
        · simp only [if_pos h4] at h
          obtain ⟨-, huv, hv, hnt, h12⟩ := h4
          have bu := hw.1.1.2 u (by omega)
          have bv := hw.1.1.2 v hv
          have h8 := hw.1.1.1
          cases h5 : rd_tb c mm u v 17 (k2 + 1) 0 row with
          | none => rw [h5] at h; cases h
          | some p =>
            obtain ⟨k', row'⟩ := p
            rw [h5] at h
            cases h
            obtain ⟨a1, a2, -⟩ := rd_tb_wd huv (by omega) bu.2 bv.2 bv.1 h5
            obtain ⟨a3, a4, -⟩ := rd_tb_row huv (by omega) bu.2 bv.2 bu.1 bv.1 h5
            exact ⟨rfl, rfl, ⟨hw.1.tie huv hv (Or.inl h12) a3 a4, fun w hw' => by show row' (40 + w) = 0; rw [a3 _ (fun i j _ _ e => by have := eA_ge u v i j; omega)]; exact hw.2 w hw'⟩, by omega, a2⟩
        · simp only [if_neg h4] at h; cases h
    · simp only [if_neg h2] at h; cases h
theorem rd_item_wd {c : Nat → Int32} {k n : Nat} {mm : Nat → Nat} {row : Nat → Int32} {r : rd_R} (h : rd_item c k n mm row = some r) (hw : wd n mm row) : wd r.2.1 r.2.2.1 r.2.2.2 ∧ k < r.1 ∧ c (r.1 - 1) = nI 59 := by
  unfold rd_item at h
  by_cases h1 : c k = nI 110
  · rw [if_pos h1] at h
    obtain ⟨-, -, a3, a4, a5⟩ := rd_node_wd h hw
    exact ⟨a3, by omega, a5⟩
  · rw [if_neg h1] at h
    by_cases h2 : c k = nI 101
    · rw [if_pos h2] at h
      obtain ⟨a1, a2, a3, a4, a5⟩ := rd_tie_wd h hw
      rw [a1, a2]
      exact ⟨a3, by omega, a5⟩
    · rw [if_neg h2] at h; cases h
theorem rd_c_lt {t : Nat → Int32} {L k : Nat} {x : Nat} (h : rd_c t L k = nI x) (h0 : 0 < x) (h1 : x < 2147483648) : k < L := by
  by_cases hl : k < L
  · exact hl
  · unfold rd_c at h
    rw [if_neg hl] at h
    exact absurd h.symm (nI_ne0 h0 h1)
theorem rd_d_lt {t : Nat → Int32} {L k a : Nat} (h : rd_d (rd_c t L) k = some a) : k < L := rd_c_lt (rd_d_some h).2 (by omega) (by have := (rd_d_some h).1; omega)
theorem wd0 : wd 0 (fun _ => 0) (fun _ => 0) := by
  refine ⟨⟨⟨by omega, fun u hu => absurd hu (by omega)⟩, fun u hu => absurd hu (by omega), fun u v _ _ _ h => absurd (show (0 : Int32) < 0 from h) (by decide), fun u v i j _ h => absurd h (by omega), by decide⟩, fun u _ => rfl⟩
