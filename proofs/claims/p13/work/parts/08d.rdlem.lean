/-! the reading's words, case by case -/
/-- no number, or one of three figures and more -/
def nmF (c : Nat → Int32) (k : Nat) : Prop := rd_n c k = none ∨ ∃ w k', rd_n c k = some (w, k') ∧ ∃ a, rd_d c k' = some a
theorem rd_o_d {c : Nat → Int32} {n k i a : Nat} {row : Nat → Int32} (h : rd_d c k = some a) : ∀ f, rd_o c n f k i row = none
  | 0 => rfl
  | f + 1 => by rw [rd_o_s, if_neg (rd_d_ne h (by omega)), if_neg (fun q => rd_d_ne h (by omega) q.1)]
theorem rd_o_F {c : Nat → Int32} {n k i : Nat} {row : Nat → Int32} (h1 : c k = nI 44) (h : nmF c (k + 1)) : ∀ f, rd_o c n f k i row = none
  | 0 => rfl
  | f + 1 => by
    rw [rd_o_s, if_pos h1]
    by_cases h2 : i = 4
    · rw [if_pos h2]
    · rw [if_neg h2]
      rcases h with h | ⟨w, k', h, a, ha⟩
      · rw [h]
      · rw [h]; exact rd_o_d ha f
theorem rd_o_4 {c : Nat → Int32} {n k : Nat} {row : Nat → Int32} (h1 : c k = nI 44) : ∀ f, rd_o c n f k 4 row = none
  | 0 => rfl
  | f + 1 => by rw [rd_o_s, if_pos h1, if_pos rfl]
theorem rd_o_44 {c : Nat → Int32} {n k i w k1 : Nat} {row : Nat → Int32} (f : Nat) (h1 : c k = nI 44) (h2 : i ≠ 4) (h : rd_n c (k + 1) = some (w, k1)) : rd_o c n (f + 1) k i row = rd_o c n f k1 (i + 1) (upd row (4 * n + i) (nI w)) := by rw [rd_o_s, if_pos h1, if_neg h2, h]
theorem rd_o_59 {c : Nat → Int32} {n k i : Nat} {row : Nat → Int32} (f : Nat) (h1 : c k = nI 59) (h2 : 0 < i) : rd_o c n (f + 1) k i row = some (k + 1, i, row) := by rw [rd_o_s, if_neg (by rw [h1]; decide +kernel), if_pos ⟨h1, h2⟩]
theorem rd_o_no {c : Nat → Int32} {n k i : Nat} {row : Nat → Int32} (h1 : c k ≠ nI 44) (h2 : ¬ (c k = nI 59 ∧ 0 < i)) : ∀ f, rd_o c n f k i row = none
  | 0 => rfl
  | f + 1 => by rw [rd_o_s, if_neg h1, if_neg h2]
def rd_nM (n : Nat) (mm : Nat → Nat) (x : Option (Nat × Nat × (Nat → Int32))) : Option rd_R := match x with
  | none => none
  | some p => some (p.1, n + 1, mmU mm n p.2.1, p.2.2)
def rd_tM (n : Nat) (mm : Nat → Nat) (x : Option (Nat × (Nat → Int32))) : Option rd_R := match x with
  | none => none
  | some p => some (p.1, n, mm, p.2)
section RDN
variable {c : Nat → Int32} {k n : Nat} {mm : Nat → Nat} {row : Nat → Int32}
theorem rd_node_eq {w k1 : Nat} (h : rd_n c k = some (w, k1)) (h3 : w ≤ 3) (h8 : n < 8) : rd_node c k n mm row = rd_nM n mm (rd_o c n 6 k1 0 (upd row (32 + n) (nI w))) := by
  unfold rd_node
  rw [h]
  simp only [if_pos (show w ≤ 3 ∧ n < 8 from ⟨h3, h8⟩)]
  generalize rd_o c n 6 k1 0 (upd row (32 + n) (nI w)) = x
  rcases x with _ | ⟨a, b, d⟩ <;> rfl
theorem rd_node_no {w k1 : Nat} (h : rd_n c k = some (w, k1)) (h3 : ¬ (w ≤ 3 ∧ n < 8)) : rd_node c k n mm row = none := by
  unfold rd_node
  rw [h]
  simp only [if_neg h3]
theorem rd_node_z {w k1 : Nat} (h : rd_n c k = some (w, k1)) (h2 : ∀ r, rd_o c n 6 k1 0 r = none) : rd_node c k n mm row = none := by
  by_cases h3 : w ≤ 3 ∧ n < 8
  · rw [rd_node_eq h h3.1 h3.2, h2]; rfl
  · exact rd_node_no h h3
theorem rd_node_n (h : rd_n c k = none) : rd_node c k n mm row = none := by
  unfold rd_node
  rw [h]
theorem rd_node_F (h : nmF c k) : rd_node c k n mm row = none := by
  rcases h with h | ⟨w, k', h, a, ha⟩
  · exact rd_node_n h
  · exact rd_node_z h (fun r => rd_o_d ha 6)
theorem rd_node_c {w k1 : Nat} (h : rd_n c k = some (w, k1)) (h1 : c k1 ≠ nI 44) : rd_node c k n mm row = none := rd_node_z h (fun r => rd_o_no h1 (fun q => absurd q.2 (by omega)) 6)
theorem rd_tie_n (h : rd_n c k = none) : rd_tie c k n mm row = none := by
  unfold rd_tie
  rw [h]
theorem rd_tie_c {u k1 : Nat} (h : rd_n c k = some (u, k1)) (h1 : c k1 ≠ nI 44) : rd_tie c k n mm row = none := by
  unfold rd_tie
  rw [h]
  simp only [if_neg h1]
theorem rd_tie_n2 {u k1 : Nat} (h : rd_n c k = some (u, k1)) (h2 : rd_n c (k1 + 1) = none) : rd_tie c k n mm row = none := by
  by_cases h1 : c k1 = nI 44
  · unfold rd_tie
    rw [h]
    simp only [if_pos h1, h2]
  · exact rd_tie_c h h1
theorem rd_tie_no {u k1 v k2 : Nat} (h : rd_n c k = some (u, k1)) (h2 : rd_n c (k1 + 1) = some (v, k2)) (h3 : ¬ (c k2 = nI 44 ∧ u < v ∧ v < n ∧ ¬ 0 < row (eA u v 0 0) ∧ tsN row 28 ≠ 12)) : rd_tie c k n mm row = none := by
  by_cases h1 : c k1 = nI 44
  · unfold rd_tie
    rw [h]
    simp only [if_pos h1, h2, if_neg h3]
  · exact rd_tie_c h h1
theorem rd_tie_eq {u k1 v k2 : Nat} (h : rd_n c k = some (u, k1)) (h1 : c k1 = nI 44) (h2 : rd_n c (k1 + 1) = some (v, k2)) (h3 : c k2 = nI 44 ∧ u < v ∧ v < n ∧ ¬ 0 < row (eA u v 0 0) ∧ tsN row 28 ≠ 12) : rd_tie c k n mm row = rd_tM n mm (rd_tb c mm u v 17 (k2 + 1) 0 row) := by
  unfold rd_tie
  rw [h]
  simp only [if_pos h1, h2, if_pos h3]
  generalize rd_tb c mm u v 17 (k2 + 1) 0 row = x
  rcases x with _ | ⟨a, b⟩ <;> rfl
theorem rd_d_44 {a : Nat} (h : rd_d c k = some a) : c k ≠ nI 44 := rd_d_ne h (by omega)
theorem rd_tie_F (h : nmF c k) : rd_tie c k n mm row = none := by
  rcases h with h | ⟨w, k', h, a, ha⟩
  · exact rd_tie_n h
  · exact rd_tie_c h (rd_d_44 ha)
theorem rd_tie_F2 {u k1 : Nat} (h : rd_n c k = some (u, k1)) (h2 : nmF c (k1 + 1)) : rd_tie c k n mm row = none := by
  rcases h2 with h2 | ⟨v, k2, h2, a, ha⟩
  · exact rd_tie_n2 h h2
  · exact rd_tie_no h h2 (fun q => rd_d_44 ha q.1)
theorem rd_item_n (h : c k = nI 110) : rd_item c k n mm row = rd_node c (k + 1) n mm row := if_pos h
theorem rd_item_e (h : c k = nI 101) : rd_item c k n mm row = rd_tie c (k + 1) n mm row := by
  unfold rd_item
  rw [if_neg (by rw [h]; decide +kernel), if_pos h]
theorem rd_item_no (h : c k ≠ nI 110) (h2 : c k ≠ nI 101) : rd_item c k n mm row = none := by
  unfold rd_item
  rw [if_neg h, if_neg h2]
theorem rd_all_end {L : Nat} (f : Nat) (h : ¬ k < L) : rd_all c L (f + 1) k n mm row = .inr (n, mm, row) := if_neg h
theorem rd_all_no {L : Nat} (f : Nat) (h : k < L) (h2 : rd_item c k n mm row = none) : rd_all c L (f + 1) k n mm row = .inl k := by
  show (if k < L then _ else _) = _
  rw [if_pos h, h2]
theorem rd_all_s {L : Nat} (f : Nat) (h : k < L) {k' n' : Nat} {mm' : Nat → Nat} {row' : Nat → Int32} (h2 : rd_item c k n mm row = some (k', n', mm', row')) : rd_all c L (f + 1) k n mm row = rd_all c L f k' n' mm' row' := by
  show (if k < L then _ else _) = _
  rw [if_pos h, h2]
end RDN
theorem rd_tb_no {c : Nat → Int32} {mm : Nat → Nat} {u v k q : Nat} {row : Nat → Int32} (h : q < mm u * mm v) (h2 : rd_d c k = none) : ∀ f, rd_tb c mm u v f k q row = none
  | 0 => rfl
  | f + 1 => by rw [rd_tb_s, if_pos h, h2]
theorem rd_tb_d {c : Nat → Int32} {mm : Nat → Nat} {u v k q a : Nat} {row : Nat → Int32} (f : Nat) (h : q < mm u * mm v) (h2 : rd_d c k = some a) : rd_tb c mm u v (f + 1) k q row = rd_tb c mm u v f (k + 1) (q + 1) (upd row (eA u v (q / mm v) (q % mm v)) (nI (1 + a))) := by rw [rd_tb_s, if_pos h, h2]
theorem rd_tb_e {c : Nat → Int32} {mm : Nat → Nat} {u v k q : Nat} {row : Nat → Int32} (f : Nat) (h : ¬ q < mm u * mm v) (h2 : c k = nI 59) : rd_tb c mm u v (f + 1) k q row = some (k + 1, row) := by rw [rd_tb_s, if_neg h, if_pos h2]
theorem rd_tb_x {c : Nat → Int32} {mm : Nat → Nat} {u v k q : Nat} {row : Nat → Int32} (h : ¬ q < mm u * mm v) (h2 : c k ≠ nI 59) : ∀ f, rd_tb c mm u v f k q row = none
  | 0 => rfl
  | f + 1 => by rw [rd_tb_s, if_neg h, if_neg h2]
/-- a number that is being read, f figures of it -/
def nmI (c : Nat → Int32) (k f v : Nat) : Prop := (f = 0 ∧ v = 0) ∨ (f = 1 ∧ rd_d c k = some v) ∨ (f = 2 ∧ ∃ a b, rd_d c k = some a ∧ rd_d c (k + 1) = some b ∧ v = 10 * a + b) ∨ (f = 3 ∧ ∃ a b e, rd_d c k = some a ∧ rd_d c (k + 1) = some b ∧ rd_d c (k + 2) = some e)
theorem nmI.s {c : Nat → Int32} {k f v w : Nat} (h : nmI c k f v) (hf : f < 3) (h1 : c (k + f) = nI w) (h2 : 48 ≤ w) (h3 : w ≤ 57) : nmI c k (f + 1) (10 * v + w - 48) := by
  have hd : rd_d c (k + f) = some (w - 48) := rd_d_of (by rw [h1, show 48 + (w - 48) = w by omega]) (by omega)
  rcases h with ⟨rfl, rfl⟩ | ⟨rfl, h⟩ | ⟨rfl, a, b, h, h', e⟩ | ⟨rfl, -⟩
  · exact Or.inr (Or.inl ⟨rfl, by rw [show 10 * 0 + w - 48 = w - 48 by omega]; exact hd⟩)
  · exact Or.inr (Or.inr (Or.inl ⟨rfl, v, w - 48, h, hd, by omega⟩))
  · exact Or.inr (Or.inr (Or.inr ⟨rfl, a, b, w - 48, h, h', hd⟩))
  · exact absurd hf (by omega)
theorem rd_n1 {c : Nat → Int32} {k a : Nat} (h : rd_d c k = some a) (h2 : rd_d c (k + 1) = none) : rd_n c k = some (a, k + 1) := by
  unfold rd_n
  rw [h]
  simp only [h2]
theorem rd_n2 {c : Nat → Int32} {k a b : Nat} (h : rd_d c k = some a) (h2 : rd_d c (k + 1) = some b) : rd_n c k = some (10 * a + b, k + 2) := by
  unfold rd_n
  rw [h]
  simp only [h2]
theorem rd_n0 {c : Nat → Int32} {k : Nat} (h : rd_d c k = none) : rd_n c k = none := by
  unfold rd_n
  rw [h]
theorem nmI.e {c : Nat → Int32} {k f v : Nat} (h : nmI c k f v) (hx : rd_d c (k + f) = none ∨ f = 3) : ((1 ≤ f ∧ f ≤ 2) ∧ rd_n c k = some (v, k + f) ∧ rd_d c (k + f) = none) ∨ (¬ (1 ≤ f ∧ f ≤ 2) ∧ nmF c k) := by
  rcases h with ⟨rfl, rfl⟩ | ⟨rfl, h⟩ | ⟨rfl, a, b, h, h', e⟩ | ⟨rfl, a, b, e, h, h', h''⟩
  · exact Or.inr ⟨by omega, Or.inl (rd_n0 (hx.resolve_right (by omega)))⟩
  · have h2 := hx.resolve_right (by omega)
    exact Or.inl ⟨by omega, rd_n1 h h2, h2⟩
  · have h2 := hx.resolve_right (by omega)
    exact Or.inl ⟨by omega, by rw [e]; exact rd_n2 h h', h2⟩
  · exact Or.inr ⟨by omega, Or.inr ⟨_, _, rd_n2 h h', e, h''⟩⟩
theorem in_dg {x : Int32} : ((48 : Int64) ≤ x.toInt64 ∧ x.toInt64 ≤ 57) ↔ (nI 48 ≤ x ∧ x ≤ nI 57) := by
  rw [← wide_le, ← wide_le, show (nI 48).toInt64 = 48 from by decide +kernel, show (nI 57).toInt64 = 57 from by decide +kernel]
theorem row_u {A : mj_S} {b : Nat} {row : Nat → Int32} (h : ∀ j, j < 500 → A b j = row j) (k : Nat) (x : Int32) : ∀ j, j < 500 → mj_u A b k x b j = upd row k x j := fun j hj => by
  rw [mj_u_at]
  by_cases e : j = k
  · rw [e, pk_us, pk_us]
  · rw [pk_un e, pk_un e]; exact h j hj
theorem in_natI {k : Nat} (hk : k < 2147483648) {a b : Int64} (lo hi : Nat) (ha : a.toInt = lo) (hb : b.toInt = hi) : (a ≤ (nI k).toInt64 ∧ (nI k).toInt64 ≤ b) ↔ lo ≤ k ∧ k ≤ hi := by
  rw [Int64.le_iff_toInt_le, Int32.toInt_toInt64, ha, nI_toInt hk, Int64.le_iff_toInt_le, Int32.toInt_toInt64, hb, nI_toInt hk]
  omega
theorem mmU_eq {rm mm : Nat → Nat} {n q : Nat} (h : ∀ j, j < n → rm j = mm j) : ∀ j, j < n + 1 → (if j = n then q else rm j) = mmU mm n q j := fun j hj => by
  unfold mmU
  by_cases e : j = n
  · rw [if_pos e, if_pos e]
  · rw [if_neg e, if_neg e]; exact h j (by omega)
