/-! pure words: letters, the reading of a text, the rows of a graph -/
abbrev Tg : Type := Nat × mj_S × mj_S
abbrev Lg : Type := Nat × mj_S
def rd_c (t : Nat → Int32) (L k : Nat) : Int32 := if k < L then t k else 0
def cT (T : Tg) : Nat → Int32 := rd_c (T.2.2 1) T.1
def cL (L : Lg) : Nat → Int32 := rd_c (L.2 1) L.1
def eA (u v i j : Nat) : Nat := if u < v then 52 + 16 * (v * (v - 1) / 2 + u) + 4 * i + j else 52 + 16 * (u * (u - 1) / 2 + v) + 4 * j + i
theorem tri_lt : ∀ v, v < 8 → ∀ u, u < v → v * (v - 1) / 2 + u ≤ 27 ∧ v * (v - 1) ≤ 42 := by decide
theorem eA_lt {u v i j : Nat} (hu : u < 8) (hv : v < 8) (huv : u ≠ v) (hi : i < 4) (hj : j < 4) : eA u v i j < 500 := by
  unfold eA
  by_cases h : u < v
  · rw [if_pos h]; have := tri_lt v hv u h; omega
  · rw [if_neg h]; have := tri_lt u hu v (by omega); omega
theorem eA_ge (u v i j : Nat) : 52 ≤ eA u v i j := by
  unfold eA
  split <;> omega
def eP (u v i j : Nat) : Nat := if u < v then (v * (v - 1) / 2 + u) * 16 + i * 4 + j else (u * (u - 1) / 2 + v) * 16 + j * 4 + i
theorem eP_lt {u v i j : Nat} (hu : u < 8) (hv : v < 8) (huv : u ≠ v) (hi : i < 4) (hj : j < 4) : eP u v i j < 448 := by
  unfold eP
  by_cases h : u < v
  · rw [if_pos h]; have := tri_lt v hv u h; omega
  · rw [if_neg h]; have := tri_lt u hu v (by omega); omega
theorem eP_lt0 {u v : Nat} (hu : u < 8) (hv : v < 8) (huv : u ≠ v) : eP u v 0 0 ≤ 432 := by
  unfold eP
  by_cases h : u < v
  · rw [if_pos h]; have := tri_lt v hv u h; omega
  · rw [if_neg h]; have := tri_lt u hu v (by omega); omega
theorem eA_eP (u v i j : Nat) : eA u v i j = 52 + eP u v i j := by
  unfold eA eP
  split <;> omega
theorem eP_sym {u v : Nat} (i j : Nat) (h : u ≠ v) : eP u v i j = eP v u j i := by
  unfold eP
  by_cases hl : u < v
  · rw [if_pos hl, if_neg (by omega)]
  · rw [if_neg hl, if_pos (by omega)]
theorem eA_sym {u v : Nat} (i j : Nat) (h : u ≠ v) : eA u v i j = eA v u j i := by rw [eA_eP, eA_eP, eP_sym i j h]
theorem tri_inj : ∀ v, v < 8 → ∀ u, u < v → ∀ v', v' < 8 → ∀ u', u' < v' → v * (v - 1) / 2 + u = v' * (v' - 1) / 2 + u' → u = u' ∧ v = v' := by
  intro v hv u hu v' hv' u' hu' e
  have h1 : v = 0 ∨ v = 1 ∨ v = 2 ∨ v = 3 ∨ v = 4 ∨ v = 5 ∨ v = 6 ∨ v = 7 := by omega
  have h2 : v' = 0 ∨ v' = 1 ∨ v' = 2 ∨ v' = 3 ∨ v' = 4 ∨ v' = 5 ∨ v' = 6 ∨ v' = 7 := by omega
  rcases h1 with rfl | rfl | rfl | rfl | rfl | rfl | rfl | rfl <;> rcases h2 with rfl | rfl | rfl | rfl | rfl | rfl | rfl | rfl <;> omega
theorem eP_inj {u v i j u' v' i' j' : Nat} (h : u < v) (hv : v < 8) (h' : u' < v') (hv' : v' < 8) (hi : i < 4) (hj : j < 4) (hi' : i' < 4) (hj' : j' < 4) (e : eP u v i j = eP u' v' i' j') : u = u' ∧ v = v' ∧ i = i' ∧ j = j' := by
  unfold eP at e
  rw [if_pos h, if_pos h'] at e
  obtain ⟨rfl, rfl⟩ := tri_inj v hv u h v' hv' u' h' (by omega)
  omega
theorem eA_inj {u v i j u' v' i' j' : Nat} (h : u < v) (hv : v < 8) (h' : u' < v') (hv' : v' < 8) (hi : i < 4) (hj : j < 4) (hi' : i' < 4) (hj' : j' < 4) (e : eA u v i j = eA u' v' i' j') : u = u' ∧ v = v' ∧ i = i' ∧ j = j' := eP_inj h hv h' hv' hi hj hi' hj' (by rw [eA_eP, eA_eP] at e; omega)
/-- a figure -/
def rd_d (c : Nat → Int32) (k : Nat) : Option Nat := if nI 48 ≤ c k ∧ c k ≤ nI 57 then some ((c k).toNatClampNeg - 48) else none
theorem rd_d_some {c : Nat → Int32} {k a : Nat} (h : rd_d c k = some a) : a ≤ 9 ∧ c k = nI (48 + a) := by
  unfold rd_d at h
  by_cases hc : nI 48 ≤ c k ∧ c k ≤ nI 57
  · rw [if_pos hc] at h
    obtain ⟨j, hj, e⟩ := nI_of (x := c k) (fun h2 => by
      have h3 := hc.1
      rw [Int32.lt_iff_toInt_lt, Int32.toInt_zero] at h2
      rw [Int32.le_iff_toInt_le, nI_toInt (by omega)] at h3
      omega)
    rw [e, nI_clamp hj] at h
    rw [e, nI_leI (by omega) hj, nI_leI hj (by omega)] at hc
    have h := Option.some.inj h
    exact ⟨by omega, by rw [e, show j = 48 + a by omega]⟩
  · rw [if_neg hc] at h
    cases h
theorem rd_d_of {c : Nat → Int32} {k a : Nat} (h : c k = nI (48 + a)) (ha : a ≤ 9) : rd_d c k = some a := by
  unfold rd_d
  rw [h, if_pos ⟨nI_le (by omega) (by omega), nI_le (by omega) (by omega)⟩, nI_clamp (by omega)]
  congr 1
  omega
theorem rd_d_none {c : Nat → Int32} {k : Nat} (h : ¬ (nI 48 ≤ c k ∧ c k ≤ nI 57)) : rd_d c k = none := if_neg h
theorem rd_d_ne {c : Nat → Int32} {k a x : Nat} (h : rd_d c k = some a) (hx : x < 48 ∨ (57 < x ∧ x < 1000)) : c k ≠ nI x := by
  obtain ⟨h1, h2⟩ := rd_d_some h
  rw [h2]
  intro e
  have := (nI_eq (by omega) (by omega)).mp e
  omega
/-- a number of one figure or two (a third one is not looked at): what it is, where it ends -/
def rd_n (c : Nat → Int32) (k : Nat) : Option (Nat × Nat) := match rd_d c k with
  | none => none
  | some a => match rd_d c (k + 1) with
    | none => some (a, k + 1)
    | some b => some (10 * a + b, k + 2)
theorem rd_n_some {c : Nat → Int32} {k w k' : Nat} (h : rd_n c k = some (w, k')) : w ≤ 99 ∧ k < k' ∧ k' ≤ k + 2 ∧ ∃ a, rd_d c (k' - 1) = some a := by
  unfold rd_n at h
  cases h1 : rd_d c k with
  | none => rw [h1] at h; cases h
  | some a =>
    have ha := rd_d_some h1
    rw [h1] at h
    cases h2 : rd_d c (k + 1) with
    | none => rw [h2] at h; cases h; exact ⟨by omega, by omega, by omega, _, h1⟩
    | some b =>
      have hb := rd_d_some h2
      rw [h2] at h; cases h; exact ⟨by omega, by omega, by omega, _, h2⟩
def mmU (mm : Nat → Nat) (n q : Nat) : Nat → Nat := fun j => if j = n then q else mm j
/-- the OWN costs of node n from place k on, i of them read -/
def rd_o (c : Nat → Int32) (n : Nat) : Nat → Nat → Nat → (Nat → Int32) → Option (Nat × Nat × (Nat → Int32))
  | 0, _, _, _ => none
  | f + 1, k, i, row => if c k = nI 44 then (if i = 4 then none else match rd_n c (k + 1) with
      | none => none
      | some (w, k1) => rd_o c n f k1 (i + 1) (upd row (4 * n + i) (nI w))) else if c k = nI 59 ∧ 0 < i then some (k + 1, i, row) else none
abbrev rd_R : Type := Nat × Nat × (Nat → Nat) × (Nat → Int32)
def rd_node (c : Nat → Int32) (k n : Nat) (mm : Nat → Nat) (row : Nat → Int32) : Option rd_R := match rd_n c k with
  | none => none
  | some (w, k1) => if w ≤ 3 ∧ n < 8 then (match rd_o c n 6 k1 0 (upd row (32 + n) (nI w)) with
    | none => none
    | some (k', q, row') => some (k', n + 1, mmU mm n q, row')) else none
/-- the table's figures from the q-th on -/
def rd_tb (c : Nat → Int32) (mm : Nat → Nat) (u v : Nat) : Nat → Nat → Nat → (Nat → Int32) → Option (Nat × (Nat → Int32))
  | 0, _, _, _ => none
  | f + 1, k, q, row => if q < mm u * mm v then (match rd_d c k with
      | none => none
      | some a => rd_tb c mm u v f (k + 1) (q + 1) (upd row (eA u v (q / mm v) (q % mm v)) (nI (1 + a)))) else if c k = nI 59 then some (k + 1, row) else none
def tsN (row : Nat → Int32) : Nat → Nat
  | 0 => 0
  | p + 1 => tsN row p + (if 0 < row (52 + 16 * p) then 1 else 0)
def rd_tie (c : Nat → Int32) (k n : Nat) (mm : Nat → Nat) (row : Nat → Int32) : Option rd_R := match rd_n c k with
  | none => none
  | some (u, k1) => if c k1 = nI 44 then (match rd_n c (k1 + 1) with
    | none => none
    | some (v, k2) => if c k2 = nI 44 ∧ u < v ∧ v < n ∧ ¬ 0 < row (eA u v 0 0) ∧ tsN row 28 ≠ 12 then (match rd_tb c mm u v 17 (k2 + 1) 0 row with
      | none => none
      | some (k', row') => some (k', n, mm, row')) else none) else none
def rd_item (c : Nat → Int32) (k n : Nat) (mm : Nat → Nat) (row : Nat → Int32) : Option rd_R := if c k = nI 110 then rd_node c (k + 1) n mm row else if c k = nI 101 then rd_tie c (k + 1) n mm row else none
/-- the whole text from k on: where the first fault is, or what is read -/
def rd_all (c : Nat → Int32) (L : Nat) : Nat → Nat → Nat → (Nat → Nat) → (Nat → Int32) → Nat ⊕ (Nat × (Nat → Nat) × (Nat → Int32))
  | 0, k, _, _, _ => .inl k
  | f + 1, k, n, mm, row => if k < L then (match rd_item c k n mm row with
      | none => .inl k
      | some (k', n', mm', row') => rd_all c L f k' n' mm' row') else .inr (n, mm, row)
/-- what a text says -/
def rd_text (c : Nat → Int32) (L : Nat) : Nat ⊕ (Nat × (Nat → Nat) × (Nat → Int32)) := rd_all c L 201 0 0 (fun _ => 0) (fun _ => 0)
/-! who is tied to whom, of a row -/
def tdd (row : Nat → Int32) (u v : Nat) : Nat := if u ≠ v ∧ 0 < row (eA u v 0 0) then 1 else 0
def mkB (row : Nat → Int32) (u : Nat) : Nat := tdd row u 0 + 2 * tdd row u 1 + 4 * tdd row u 2 + 8 * tdd row u 3 + 16 * tdd row u 4 + 32 * tdd row u 5 + 64 * tdd row u 6 + 128 * tdd row u 7
theorem tdd_le (row : Nat → Int32) (u v : Nat) : tdd row u v ≤ 1 := by
  unfold tdd
  split <;> omega
theorem tdd_sym (row : Nat → Int32) (u v : Nat) : tdd row u v = tdd row v u := by
  unfold tdd
  by_cases h : u = v
  · rw [h]
  · rw [eA_sym 0 0 h]
    simp only [ne_eq, h, not_false_eq_true, true_and, show ¬ v = u from fun e => h e.symm]
theorem tdd_self (row : Nat → Int32) (u : Nat) : tdd row u u = 0 := if_neg (fun h => h.1 rfl)
theorem tdd_1 {row : Nat → Int32} {u v : Nat} (h : u ≠ v) (ht : 0 < row (eA u v 0 0)) : tdd row u v = 1 := if_pos ⟨h, ht⟩
theorem tdd_0 {row : Nat → Int32} {u v : Nat} (ht : ¬ 0 < row (eA u v 0 0)) : tdd row u v = 0 := if_neg (fun h => ht h.2)
theorem mkB_lt (row : Nat → Int32) (u : Nat) : mkB row u < 256 := by
  unfold mkB
  have h0 := tdd_le row u 0
  have h1 := tdd_le row u 1
  have h2 := tdd_le row u 2
  have h3 := tdd_le row u 3
  have h4 := tdd_le row u 4
  have h5 := tdd_le row u 5
  have h6 := tdd_le row u 6
  have h7 := tdd_le row u 7
  omega
theorem mkB_bit (row : Nat → Int32) (u : Nat) {v : Nat} (hv : v < 8) : mkB row u / 2 ^ v % 2 = tdd row u v := by
  unfold mkB
  have h0 := tdd_le row u 0
  have h1 := tdd_le row u 1
  have h2 := tdd_le row u 2
  have h3 := tdd_le row u 3
  have h4 := tdd_le row u 4
  have h5 := tdd_le row u 5
  have h6 := tdd_le row u 6
  have h7 := tdd_le row u 7
  match v, hv with
  | 0, _ => omega
  | 1, _ => omega
  | 2, _ => omega
  | 3, _ => omega
  | 4, _ => omega
  | 5, _ => omega
  | 6, _ => omega
  | 7, _ => omega
  | k + 8, h => exact absurd h (by omega)
theorem mkB_congr {row row' : Nat → Int32} {u : Nat} (h : ∀ v, v < 8 → tdd row u v = tdd row' u v) : mkB row u = mkB row' u := by
  unfold mkB
  rw [h 0 (by omega), h 1 (by omega), h 2 (by omega), h 3 (by omega), h 4 (by omega), h 5 (by omega), h 6 (by omega), h 7 (by omega)]
theorem mkB_add {row row' : Nat → Int32} {u w : Nat} (hw : w < 8) (h : ∀ v, v < 8 → v ≠ w → tdd row' u v = tdd row u v) (h0 : tdd row u w = 0) (h1 : tdd row' u w = 1) : mkB row' u = mkB row u + 2 ^ w := by
  unfold mkB
  match w, hw with
  | 0, _ =>
    have e1 := h 1 (by omega) (by omega)
    have e2 := h 2 (by omega) (by omega)
    have e3 := h 3 (by omega) (by omega)
    have e4 := h 4 (by omega) (by omega)
    have e5 := h 5 (by omega) (by omega)
    have e6 := h 6 (by omega) (by omega)
    have e7 := h 7 (by omega) (by omega)
    omega
  | 1, _ =>
    have e0 := h 0 (by omega) (by omega)
    have e2 := h 2 (by omega) (by omega)
    have e3 := h 3 (by omega) (by omega)
    have e4 := h 4 (by omega) (by omega)
    have e5 := h 5 (by omega) (by omega)
    have e6 := h 6 (by omega) (by omega)
    have e7 := h 7 (by omega) (by omega)
    omega
  | 2, _ =>
    have e0 := h 0 (by omega) (by omega)
    have e1 := h 1 (by omega) (by omega)
    have e3 := h 3 (by omega) (by omega)
    have e4 := h 4 (by omega) (by omega)
    have e5 := h 5 (by omega) (by omega)
    have e6 := h 6 (by omega) (by omega)
    have e7 := h 7 (by omega) (by omega)
    omega
  | 3, _ =>
    have e0 := h 0 (by omega) (by omega)
    have e1 := h 1 (by omega) (by omega)
    have e2 := h 2 (by omega) (by omega)
    have e4 := h 4 (by omega) (by omega)
    have e5 := h 5 (by omega) (by omega)
    have e6 := h 6 (by omega) (by omega)
    have e7 := h 7 (by omega) (by omega)
    omega
  | 4, _ =>
    have e0 := h 0 (by omega) (by omega)
    have e1 := h 1 (by omega) (by omega)
    have e2 := h 2 (by omega) (by omega)
    have e3 := h 3 (by omega) (by omega)
    have e5 := h 5 (by omega) (by omega)
    have e6 := h 6 (by omega) (by omega)
    have e7 := h 7 (by omega) (by omega)
    omega
  | 5, _ =>
    have e0 := h 0 (by omega) (by omega)
    have e1 := h 1 (by omega) (by omega)
    have e2 := h 2 (by omega) (by omega)
    have e3 := h 3 (by omega) (by omega)
    have e4 := h 4 (by omega) (by omega)
    have e6 := h 6 (by omega) (by omega)
    have e7 := h 7 (by omega) (by omega)
    omega
  | 6, _ =>
    have e0 := h 0 (by omega) (by omega)
    have e1 := h 1 (by omega) (by omega)
    have e2 := h 2 (by omega) (by omega)
    have e3 := h 3 (by omega) (by omega)
    have e4 := h 4 (by omega) (by omega)
    have e5 := h 5 (by omega) (by omega)
    have e7 := h 7 (by omega) (by omega)
    omega
  | 7, _ =>
    have e0 := h 0 (by omega) (by omega)
    have e1 := h 1 (by omega) (by omega)
    have e2 := h 2 (by omega) (by omega)
    have e3 := h 3 (by omega) (by omega)
    have e4 := h 4 (by omega) (by omega)
    have e5 := h 5 (by omega) (by omega)
    have e6 := h 6 (by omega) (by omega)
    omega
  | k + 8, h => exact absurd h (by omega)
/-- how many a node is tied to -/
def deg (row : Nat → Int32) (u : Nat) : Nat := tdd row u 0 + tdd row u 1 + tdd row u 2 + tdd row u 3 + tdd row u 4 + tdd row u 5 + tdd row u 6 + tdd row u 7
def degN (row : Nat → Int32) : Nat → Nat
  | 0 => 0
  | n + 1 => degN row n + deg row n
theorem deg_z {row : Nat → Int32} {u : Nat} (h : ∀ v, v < 8 → tdd row u v = 0) : deg row u = 0 := by
  unfold deg
  rw [h 0 (by omega), h 1 (by omega), h 2 (by omega), h 3 (by omega), h 4 (by omega), h 5 (by omega), h 6 (by omega), h 7 (by omega)]
theorem degN_all {row : Nat → Int32} {n : Nat} (hn : n ≤ 8) (h : ∀ u, n ≤ u → u < 8 → deg row u = 0) : degN row n = degN row 8 := by
  match n, hn with
  | 8, _ => rfl
  | 7, _ => show _ = degN row 7 + deg row 7; rw [h 7 (by omega) (by omega)]; rfl
  | 6, _ => show _ = degN row 6 + deg row 6 + deg row 7; rw [h 6 (by omega) (by omega), h 7 (by omega) (by omega)]; rfl
  | 5, _ => show _ = degN row 5 + deg row 5 + deg row 6 + deg row 7; rw [h 5 (by omega) (by omega), h 6 (by omega) (by omega), h 7 (by omega) (by omega)]; rfl
  | 4, _ => show _ = degN row 4 + deg row 4 + deg row 5 + deg row 6 + deg row 7; rw [h 4 (by omega) (by omega), h 5 (by omega) (by omega), h 6 (by omega) (by omega), h 7 (by omega) (by omega)]; rfl
  | 3, _ => show _ = degN row 3 + deg row 3 + deg row 4 + deg row 5 + deg row 6 + deg row 7; rw [h 3 (by omega) (by omega), h 4 (by omega) (by omega), h 5 (by omega) (by omega), h 6 (by omega) (by omega), h 7 (by omega) (by omega)]; rfl
  | 2, _ => show _ = degN row 2 + deg row 2 + deg row 3 + deg row 4 + deg row 5 + deg row 6 + deg row 7; rw [h 2 (by omega) (by omega), h 3 (by omega) (by omega), h 4 (by omega) (by omega), h 5 (by omega) (by omega), h 6 (by omega) (by omega), h 7 (by omega) (by omega)]; rfl
  | 1, _ => show _ = degN row 1 + deg row 1 + deg row 2 + deg row 3 + deg row 4 + deg row 5 + deg row 6 + deg row 7; rw [h 1 (by omega) (by omega), h 2 (by omega) (by omega), h 3 (by omega) (by omega), h 4 (by omega) (by omega), h 5 (by omega) (by omega), h 6 (by omega) (by omega), h 7 (by omega) (by omega)]; rfl
  | 0, _ => show _ = 0 + deg row 0 + deg row 1 + deg row 2 + deg row 3 + deg row 4 + deg row 5 + deg row 6 + deg row 7; rw [h 0 (by omega) (by omega), h 1 (by omega) (by omega), h 2 (by omega) (by omega), h 3 (by omega) (by omega), h 4 (by omega) (by omega), h 5 (by omega) (by omega), h 6 (by omega) (by omega), h 7 (by omega) (by omega)]; rfl
theorem tdd_p {row : Nat → Int32} {u v p : Nat} (h : u ≠ v) (e : eA u v 0 0 = 52 + 16 * p) : tdd row u v = if 0 < row (52 + 16 * p) then 1 else 0 := by
  unfold tdd
  rw [e]
  simp only [ne_eq, h, not_false_eq_true, true_and]
set_option maxHeartbeats 4000000 in
theorem degN_ts (row : Nat → Int32) : degN row 8 = 2 * tsN row 28 := by
  have e0_1 : tdd row 0 1 = if 0 < row (52 + 16 * 0) then 1 else 0 := tdd_p (by decide) (by decide)
  have e1_0 : tdd row 1 0 = if 0 < row (52 + 16 * 0) then 1 else 0 := tdd_p (by decide) (by decide)
  have e0_2 : tdd row 0 2 = if 0 < row (52 + 16 * 1) then 1 else 0 := tdd_p (by decide) (by decide)
  have e2_0 : tdd row 2 0 = if 0 < row (52 + 16 * 1) then 1 else 0 := tdd_p (by decide) (by decide)
  have e1_2 : tdd row 1 2 = if 0 < row (52 + 16 * 2) then 1 else 0 := tdd_p (by decide) (by decide)
  have e2_1 : tdd row 2 1 = if 0 < row (52 + 16 * 2) then 1 else 0 := tdd_p (by decide) (by decide)
  have e0_3 : tdd row 0 3 = if 0 < row (52 + 16 * 3) then 1 else 0 := tdd_p (by decide) (by decide)
  have e3_0 : tdd row 3 0 = if 0 < row (52 + 16 * 3) then 1 else 0 := tdd_p (by decide) (by decide)
  have e1_3 : tdd row 1 3 = if 0 < row (52 + 16 * 4) then 1 else 0 := tdd_p (by decide) (by decide)
  have e3_1 : tdd row 3 1 = if 0 < row (52 + 16 * 4) then 1 else 0 := tdd_p (by decide) (by decide)
  have e2_3 : tdd row 2 3 = if 0 < row (52 + 16 * 5) then 1 else 0 := tdd_p (by decide) (by decide)
  have e3_2 : tdd row 3 2 = if 0 < row (52 + 16 * 5) then 1 else 0 := tdd_p (by decide) (by decide)
  have e0_4 : tdd row 0 4 = if 0 < row (52 + 16 * 6) then 1 else 0 := tdd_p (by decide) (by decide)
  have e4_0 : tdd row 4 0 = if 0 < row (52 + 16 * 6) then 1 else 0 := tdd_p (by decide) (by decide)
  have e1_4 : tdd row 1 4 = if 0 < row (52 + 16 * 7) then 1 else 0 := tdd_p (by decide) (by decide)
  have e4_1 : tdd row 4 1 = if 0 < row (52 + 16 * 7) then 1 else 0 := tdd_p (by decide) (by decide)
  have e2_4 : tdd row 2 4 = if 0 < row (52 + 16 * 8) then 1 else 0 := tdd_p (by decide) (by decide)
  have e4_2 : tdd row 4 2 = if 0 < row (52 + 16 * 8) then 1 else 0 := tdd_p (by decide) (by decide)
  have e3_4 : tdd row 3 4 = if 0 < row (52 + 16 * 9) then 1 else 0 := tdd_p (by decide) (by decide)
  have e4_3 : tdd row 4 3 = if 0 < row (52 + 16 * 9) then 1 else 0 := tdd_p (by decide) (by decide)
  have e0_5 : tdd row 0 5 = if 0 < row (52 + 16 * 10) then 1 else 0 := tdd_p (by decide) (by decide)
  have e5_0 : tdd row 5 0 = if 0 < row (52 + 16 * 10) then 1 else 0 := tdd_p (by decide) (by decide)
  have e1_5 : tdd row 1 5 = if 0 < row (52 + 16 * 11) then 1 else 0 := tdd_p (by decide) (by decide)
  have e5_1 : tdd row 5 1 = if 0 < row (52 + 16 * 11) then 1 else 0 := tdd_p (by decide) (by decide)
  have e2_5 : tdd row 2 5 = if 0 < row (52 + 16 * 12) then 1 else 0 := tdd_p (by decide) (by decide)
  have e5_2 : tdd row 5 2 = if 0 < row (52 + 16 * 12) then 1 else 0 := tdd_p (by decide) (by decide)
  have e3_5 : tdd row 3 5 = if 0 < row (52 + 16 * 13) then 1 else 0 := tdd_p (by decide) (by decide)
  have e5_3 : tdd row 5 3 = if 0 < row (52 + 16 * 13) then 1 else 0 := tdd_p (by decide) (by decide)
  have e4_5 : tdd row 4 5 = if 0 < row (52 + 16 * 14) then 1 else 0 := tdd_p (by decide) (by decide)
  have e5_4 : tdd row 5 4 = if 0 < row (52 + 16 * 14) then 1 else 0 := tdd_p (by decide) (by decide)
  have e0_6 : tdd row 0 6 = if 0 < row (52 + 16 * 15) then 1 else 0 := tdd_p (by decide) (by decide)
  have e6_0 : tdd row 6 0 = if 0 < row (52 + 16 * 15) then 1 else 0 := tdd_p (by decide) (by decide)
  have e1_6 : tdd row 1 6 = if 0 < row (52 + 16 * 16) then 1 else 0 := tdd_p (by decide) (by decide)
  have e6_1 : tdd row 6 1 = if 0 < row (52 + 16 * 16) then 1 else 0 := tdd_p (by decide) (by decide)
  have e2_6 : tdd row 2 6 = if 0 < row (52 + 16 * 17) then 1 else 0 := tdd_p (by decide) (by decide)
  have e6_2 : tdd row 6 2 = if 0 < row (52 + 16 * 17) then 1 else 0 := tdd_p (by decide) (by decide)
  have e3_6 : tdd row 3 6 = if 0 < row (52 + 16 * 18) then 1 else 0 := tdd_p (by decide) (by decide)
  have e6_3 : tdd row 6 3 = if 0 < row (52 + 16 * 18) then 1 else 0 := tdd_p (by decide) (by decide)
  have e4_6 : tdd row 4 6 = if 0 < row (52 + 16 * 19) then 1 else 0 := tdd_p (by decide) (by decide)
  have e6_4 : tdd row 6 4 = if 0 < row (52 + 16 * 19) then 1 else 0 := tdd_p (by decide) (by decide)
  have e5_6 : tdd row 5 6 = if 0 < row (52 + 16 * 20) then 1 else 0 := tdd_p (by decide) (by decide)
  have e6_5 : tdd row 6 5 = if 0 < row (52 + 16 * 20) then 1 else 0 := tdd_p (by decide) (by decide)
  have e0_7 : tdd row 0 7 = if 0 < row (52 + 16 * 21) then 1 else 0 := tdd_p (by decide) (by decide)
  have e7_0 : tdd row 7 0 = if 0 < row (52 + 16 * 21) then 1 else 0 := tdd_p (by decide) (by decide)
  have e1_7 : tdd row 1 7 = if 0 < row (52 + 16 * 22) then 1 else 0 := tdd_p (by decide) (by decide)
  have e7_1 : tdd row 7 1 = if 0 < row (52 + 16 * 22) then 1 else 0 := tdd_p (by decide) (by decide)
  have e2_7 : tdd row 2 7 = if 0 < row (52 + 16 * 23) then 1 else 0 := tdd_p (by decide) (by decide)
  have e7_2 : tdd row 7 2 = if 0 < row (52 + 16 * 23) then 1 else 0 := tdd_p (by decide) (by decide)
  have e3_7 : tdd row 3 7 = if 0 < row (52 + 16 * 24) then 1 else 0 := tdd_p (by decide) (by decide)
  have e7_3 : tdd row 7 3 = if 0 < row (52 + 16 * 24) then 1 else 0 := tdd_p (by decide) (by decide)
  have e4_7 : tdd row 4 7 = if 0 < row (52 + 16 * 25) then 1 else 0 := tdd_p (by decide) (by decide)
  have e7_4 : tdd row 7 4 = if 0 < row (52 + 16 * 25) then 1 else 0 := tdd_p (by decide) (by decide)
  have e5_7 : tdd row 5 7 = if 0 < row (52 + 16 * 26) then 1 else 0 := tdd_p (by decide) (by decide)
  have e7_5 : tdd row 7 5 = if 0 < row (52 + 16 * 26) then 1 else 0 := tdd_p (by decide) (by decide)
  have e6_7 : tdd row 6 7 = if 0 < row (52 + 16 * 27) then 1 else 0 := tdd_p (by decide) (by decide)
  have e7_6 : tdd row 7 6 = if 0 < row (52 + 16 * 27) then 1 else 0 := tdd_p (by decide) (by decide)
  have hd : degN row 8 = 0 + deg row 0 + deg row 1 + deg row 2 + deg row 3 + deg row 4 + deg row 5 + deg row 6 + deg row 7 := rfl
  have ht : tsN row 28 = 0 + (if 0 < row (52 + 16 * 0) then 1 else 0) + (if 0 < row (52 + 16 * 1) then 1 else 0) + (if 0 < row (52 + 16 * 2) then 1 else 0) + (if 0 < row (52 + 16 * 3) then 1 else 0) + (if 0 < row (52 + 16 * 4) then 1 else 0) + (if 0 < row (52 + 16 * 5) then 1 else 0) + (if 0 < row (52 + 16 * 6) then 1 else 0) + (if 0 < row (52 + 16 * 7) then 1 else 0) + (if 0 < row (52 + 16 * 8) then 1 else 0) + (if 0 < row (52 + 16 * 9) then 1 else 0) + (if 0 < row (52 + 16 * 10) then 1 else 0) + (if 0 < row (52 + 16 * 11) then 1 else 0) + (if 0 < row (52 + 16 * 12) then 1 else 0) + (if 0 < row (52 + 16 * 13) then 1 else 0) + (if 0 < row (52 + 16 * 14) then 1 else 0) + (if 0 < row (52 + 16 * 15) then 1 else 0) + (if 0 < row (52 + 16 * 16) then 1 else 0) + (if 0 < row (52 + 16 * 17) then 1 else 0) + (if 0 < row (52 + 16 * 18) then 1 else 0) + (if 0 < row (52 + 16 * 19) then 1 else 0) + (if 0 < row (52 + 16 * 20) then 1 else 0) + (if 0 < row (52 + 16 * 21) then 1 else 0) + (if 0 < row (52 + 16 * 22) then 1 else 0) + (if 0 < row (52 + 16 * 23) then 1 else 0) + (if 0 < row (52 + 16 * 24) then 1 else 0) + (if 0 < row (52 + 16 * 25) then 1 else 0) + (if 0 < row (52 + 16 * 26) then 1 else 0) + (if 0 < row (52 + 16 * 27) then 1 else 0) := rfl
  rw [hd, ht]
  simp only [deg, tdd_self, e0_1, e0_2, e0_3, e0_4, e0_5, e0_6, e0_7, e1_0, e1_2, e1_3, e1_4, e1_5, e1_6, e1_7, e2_0, e2_1, e2_3, e2_4, e2_5, e2_6, e2_7, e3_0, e3_1, e3_2, e3_4, e3_5, e3_6, e3_7, e4_0, e4_1, e4_2, e4_3, e4_5, e4_6, e4_7, e5_0, e5_1, e5_2, e5_3, e5_4, e5_6, e5_7, e6_0, e6_1, e6_2, e6_3, e6_4, e6_5, e6_7, e7_0, e7_1, e7_2, e7_3, e7_4, e7_5, e7_6]
  generalize (if 0 < row (52 + 16 * 0) then 1 else 0 : Nat) = b0
  generalize (if 0 < row (52 + 16 * 1) then 1 else 0 : Nat) = b1
  generalize (if 0 < row (52 + 16 * 2) then 1 else 0 : Nat) = b2
  generalize (if 0 < row (52 + 16 * 3) then 1 else 0 : Nat) = b3
  generalize (if 0 < row (52 + 16 * 4) then 1 else 0 : Nat) = b4
  generalize (if 0 < row (52 + 16 * 5) then 1 else 0 : Nat) = b5
  generalize (if 0 < row (52 + 16 * 6) then 1 else 0 : Nat) = b6
  generalize (if 0 < row (52 + 16 * 7) then 1 else 0 : Nat) = b7
  generalize (if 0 < row (52 + 16 * 8) then 1 else 0 : Nat) = b8
  generalize (if 0 < row (52 + 16 * 9) then 1 else 0 : Nat) = b9
  generalize (if 0 < row (52 + 16 * 10) then 1 else 0 : Nat) = b10
  generalize (if 0 < row (52 + 16 * 11) then 1 else 0 : Nat) = b11
  generalize (if 0 < row (52 + 16 * 12) then 1 else 0 : Nat) = b12
  generalize (if 0 < row (52 + 16 * 13) then 1 else 0 : Nat) = b13
  generalize (if 0 < row (52 + 16 * 14) then 1 else 0 : Nat) = b14
  generalize (if 0 < row (52 + 16 * 15) then 1 else 0 : Nat) = b15
  generalize (if 0 < row (52 + 16 * 16) then 1 else 0 : Nat) = b16
  generalize (if 0 < row (52 + 16 * 17) then 1 else 0 : Nat) = b17
  generalize (if 0 < row (52 + 16 * 18) then 1 else 0 : Nat) = b18
  generalize (if 0 < row (52 + 16 * 19) then 1 else 0 : Nat) = b19
  generalize (if 0 < row (52 + 16 * 20) then 1 else 0 : Nat) = b20
  generalize (if 0 < row (52 + 16 * 21) then 1 else 0 : Nat) = b21
  generalize (if 0 < row (52 + 16 * 22) then 1 else 0 : Nat) = b22
  generalize (if 0 < row (52 + 16 * 23) then 1 else 0 : Nat) = b23
  generalize (if 0 < row (52 + 16 * 24) then 1 else 0 : Nat) = b24
  generalize (if 0 < row (52 + 16 * 25) then 1 else 0 : Nat) = b25
  generalize (if 0 < row (52 + 16 * 26) then 1 else 0 : Nat) = b26
  generalize (if 0 < row (52 + 16 * 27) then 1 else 0 : Nat) = b27
  omega
