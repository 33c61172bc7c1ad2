/-! the acts, pure: an answer, and the row that comes of it -/
def ndO (n : Nat) (x : Int32) : Option Nat := if nI 0 ≤ x ∧ x < nI n then some x.toNatClampNeg else none
theorem ndO_some {n j : Nat} (hn : n ≤ 8) (hj : j < n) : ndO n (nI j) = some j := by
  unfold ndO
  rw [if_pos ⟨nI_le (by omega) (by omega), nI_lt hj (by omega)⟩, nI_clamp (by omega)]
theorem ndO_inv {n u : Nat} {x : Int32} (hn : n ≤ 8) (h : ndO n x = some u) : u < n ∧ x = nI u := by
  unfold ndO at h
  by_cases hc : nI 0 ≤ x ∧ x < nI n
  · rw [if_pos hc] at h
    obtain ⟨j, hj, rfl⟩ := nI_of (x := x) (Int32.not_lt.mpr (by rw [← nI_0]; exact hc.1))
    rw [nI_clamp hj] at h
    have e := Option.some.inj h
    subst e
    exact ⟨(nI_ltI hj (by omega)).mp hc.2, rfl⟩
  · rw [if_neg hc] at h; cases h
theorem ndO_none {n : Nat} {x : Int32} (hn : n ≤ 8) (h : ¬ ∃ j, j < n ∧ x = nI j) : ndO n x = none := by
  cases h1 : ndO n x with
  | none => rfl
  | some u => exact absurd ⟨u, ndO_inv hn h1⟩ h
def chO (n : Nat) (mm : Nat → Nat) (x y : Int32) : Option (Nat × Nat) := match ndO n x with
  | none => none
  | some u => match ndO (mm u) y with
    | none => none
    | some i => some (u, i)
theorem chO_some {n : Nat} {mm : Nat → Nat} {u i : Nat} (hn : n ≤ 8) (hm : mm u ≤ 4) (hu : u < n) (hi : i < mm u) : chO n mm (nI u) (nI i) = some (u, i) := by
  unfold chO
  rw [ndO_some hn hu]
  simp only
  rw [ndO_some (by omega) hi]
theorem chO_none {n : Nat} {mm : Nat → Nat} {x y : Int32} (hn : n ≤ 8) (hm : ∀ u, u < n → mm u ≤ 4) (h : ¬ isC n mm x y) : chO n mm x y = none := by
  unfold chO
  cases h1 : ndO n x with
  | none => rfl
  | some u =>
    obtain ⟨hu, rfl⟩ := ndO_inv hn h1
    simp only
    cases h2 : ndO (mm u) y with
    | none => rfl
    | some i =>
      obtain ⟨hi, rfl⟩ := ndO_inv (by have := hm u hu; omega) h2
      exact absurd ⟨u, i, hu, hi, rfl, rfl⟩ h
abbrev Act : Type := Int32 × Option (Nat → Int32)
section AC
variable {n : Nat} {mm : Nat → Nat} {row : Nat → Int32} {x1 x2 x3 x4 x5 : Int32} {u v i j : Nat}
def acPrice (n : Nat) (mm : Nat → Nat) (row : Nat → Int32) (x1 x2 x3 : Int32) : Act := match chO n mm x1 x2 with
  | none => (-1, none)
  | some p => if nI 0 ≤ x3 ∧ x3 ≤ nI 99 then (if row (4 * p.1 + p.2) = x3 then (-2, none) else (row (4 * p.1 + p.2), some (upd row (4 * p.1 + p.2) x3))) else (-1, none)
theorem acPrice_n (h : chO n mm x1 x2 = none) : acPrice n mm row x1 x2 x3 = (-1, none) := by unfold acPrice; rw [h]
theorem acPrice_c (h : chO n mm x1 x2 = some (u, i)) (h3 : ¬ (nI 0 ≤ x3 ∧ x3 ≤ nI 99)) : acPrice n mm row x1 x2 x3 = (-1, none) := by unfold acPrice; rw [h]; simp only [if_neg h3]
theorem acPrice_s (h : chO n mm x1 x2 = some (u, i)) (h3 : nI 0 ≤ x3 ∧ x3 ≤ nI 99) (he : row (4 * u + i) = x3) : acPrice n mm row x1 x2 x3 = (-2, none) := by unfold acPrice; rw [h]; simp only [if_pos h3, if_pos he]
theorem acPrice_d (h : chO n mm x1 x2 = some (u, i)) (h3 : nI 0 ≤ x3 ∧ x3 ≤ nI 99) (he : ¬ row (4 * u + i) = x3) : acPrice n mm row x1 x2 x3 = (row (4 * u + i), some (upd row (4 * u + i) x3)) := by unfold acPrice; rw [h]; simp only [if_pos h3, if_neg he]
def acRename (n : Nat) (row : Nat → Int32) (x1 x2 : Int32) : Act := match ndO n x1 with
  | none => (-1, none)
  | some u => if nI 0 ≤ x2 ∧ x2 ≤ nI 3 then (if row (32 + u) = x2 then (-2, none) else (row (32 + u), some (upd row (32 + u) x2))) else (-1, none)
theorem acRename_n (h : ndO n x1 = none) : acRename n row x1 x2 = (-1, none) := by unfold acRename; rw [h]
theorem acRename_c (h : ndO n x1 = some u) (h3 : ¬ (nI 0 ≤ x2 ∧ x2 ≤ nI 3)) : acRename n row x1 x2 = (-1, none) := by unfold acRename; rw [h]; simp only [if_neg h3]
theorem acRename_s (h : ndO n x1 = some u) (h3 : nI 0 ≤ x2 ∧ x2 ≤ nI 3) (he : row (32 + u) = x2) : acRename n row x1 x2 = (-2, none) := by unfold acRename; rw [h]; simp only [if_pos h3, if_pos he]
theorem acRename_d (h : ndO n x1 = some u) (h3 : nI 0 ≤ x2 ∧ x2 ≤ nI 3) (he : ¬ row (32 + u) = x2) : acRename n row x1 x2 = (row (32 + u), some (upd row (32 + u) x2)) := by unfold acRename; rw [h]; simp only [if_pos h3, if_neg he]
/-- what a pin is, as told -/
def pinA (x : Int32) : Int32 := if x = 0 then -4 else x - 1
def pinO (row : Nat → Int32) (u p : Nat) : Act := if row (40 + u) = nI p then (-2, none) else (pinA (row (40 + u)), some (upd row (40 + u) (nI p)))
def acPin (n : Nat) (mm : Nat → Nat) (row : Nat → Int32) (x1 x2 : Int32) : Act := match ndO n x1 with
  | none => (-1, none)
  | some u => if x2 = -1 then pinO row u 0 else match ndO (mm u) x2 with
    | none => (-1, none)
    | some i => pinO row u (i + 1)
theorem acPin_n (h : ndO n x1 = none) : acPin n mm row x1 x2 = (-1, none) := by unfold acPin; rw [h]
theorem acPin_0 (h : ndO n x1 = some u) (h2 : x2 = -1) : acPin n mm row x1 x2 = pinO row u 0 := by unfold acPin; rw [h]; simp only [if_pos h2]
theorem acPin_c (h : ndO n x1 = some u) (h2 : ¬ x2 = -1) (h3 : ndO (mm u) x2 = none) : acPin n mm row x1 x2 = (-1, none) := by unfold acPin; rw [h]; simp only [if_neg h2, h3]
theorem acPin_i (h : ndO n x1 = some u) (h2 : ¬ x2 = -1) (h3 : ndO (mm u) x2 = some i) : acPin n mm row x1 x2 = pinO row u (i + 1) := by unfold acPin; rw [h]; simp only [if_neg h2, h3]
theorem pinO_s {p : Nat} (h : row (40 + u) = nI p) : pinO row u p = (-2, none) := if_pos h
theorem pinO_d {p : Nat} (h : ¬ row (40 + u) = nI p) : pinO row u p = (pinA (row (40 + u)), some (upd row (40 + u) (nI p))) := if_neg h
def bk (a b : Nat) : Nat := 52 + 16 * (b * (b - 1) / 2 + a)
def oneR (mm : Nat → Nat) (row : Nat → Int32) (a b : Nat) : Nat → Int32 := fun x => if bk a b ≤ x ∧ x < bk a b + 16 ∧ (x - bk a b) / 4 < mm a ∧ (x - bk a b) % 4 < mm b then 1 else row x
def looR (row : Nat → Int32) (a b : Nat) : Nat → Int32 := fun x => if bk a b ≤ x ∧ x < bk a b + 16 then 0 else row x
def pmin (u v : Nat) : Nat := if u < v then u else v
def pmax (u v : Nat) : Nat := if u < v then v else u
def tabO (mm : Nat → Nat) (row : Nat → Int32) (u v i j : Nat) (x5 : Int32) : Act := if 0 < row (eA u v 0 0) then (if row (eA u v i j) - 1 = x5 then (-2, none) else (row (eA u v i j) - 1, some (upd row (eA u v i j) (x5 + 1)))) else if tsN row 28 = 12 then (-3, none) else (0, some (upd (oneR mm row (pmin u v) (pmax u v)) (eA u v i j) (x5 + 1)))
def acTable (n : Nat) (mm : Nat → Nat) (row : Nat → Int32) (x1 x2 x3 x4 x5 : Int32) : Act := if x1 = x2 then (-1, none) else match chO n mm x1 x3 with
  | none => (-1, none)
  | some p => match chO n mm x2 x4 with
    | none => (-1, none)
    | some q => if nI 0 ≤ x5 ∧ x5 ≤ nI 9 then tabO mm row p.1 q.1 p.2 q.2 x5 else (-1, none)
theorem acTable_e (h : x1 = x2) : acTable n mm row x1 x2 x3 x4 x5 = (-1, none) := if_pos h
theorem acTable_1 (h : ¬ x1 = x2) (h1 : chO n mm x1 x3 = none) : acTable n mm row x1 x2 x3 x4 x5 = (-1, none) := by unfold acTable; rw [if_neg h, h1]
theorem acTable_2 (h : ¬ x1 = x2) (h1 : chO n mm x1 x3 = some (u, i)) (h2 : chO n mm x2 x4 = none) : acTable n mm row x1 x2 x3 x4 x5 = (-1, none) := by unfold acTable; rw [if_neg h, h1]; simp only [h2]
theorem acTable_5 (h : ¬ x1 = x2) (h1 : chO n mm x1 x3 = some (u, i)) (h2 : chO n mm x2 x4 = some (v, j)) (h5 : ¬ (nI 0 ≤ x5 ∧ x5 ≤ nI 9)) : acTable n mm row x1 x2 x3 x4 x5 = (-1, none) := by unfold acTable; rw [if_neg h, h1]; simp only [h2, if_neg h5]
theorem acTable_o (h : ¬ x1 = x2) (h1 : chO n mm x1 x3 = some (u, i)) (h2 : chO n mm x2 x4 = some (v, j)) (h5 : nI 0 ≤ x5 ∧ x5 ≤ nI 9) : acTable n mm row x1 x2 x3 x4 x5 = tabO mm row u v i j x5 := by unfold acTable; rw [if_neg h, h1]; simp only [h2, if_pos h5]
theorem tabO_s (h : 0 < row (eA u v 0 0)) (he : row (eA u v i j) - 1 = x5) : tabO mm row u v i j x5 = (-2, none) := by unfold tabO; rw [if_pos h, if_pos he]
theorem tabO_d (h : 0 < row (eA u v 0 0)) (he : ¬ row (eA u v i j) - 1 = x5) : tabO mm row u v i j x5 = (row (eA u v i j) - 1, some (upd row (eA u v i j) (x5 + 1))) := by unfold tabO; rw [if_pos h, if_neg he]
theorem tabO_f (h : ¬ 0 < row (eA u v 0 0)) (he : tsN row 28 = 12) : tabO mm row u v i j x5 = (-3, none) := by unfold tabO; rw [if_neg h, if_pos he]
theorem tabO_n (h : ¬ 0 < row (eA u v 0 0)) (he : ¬ tsN row 28 = 12) : tabO mm row u v i j x5 = (0, some (upd (oneR mm row (pmin u v) (pmax u v)) (eA u v i j) (x5 + 1))) := by unfold tabO; rw [if_neg h, if_neg he]
def acLoose (n : Nat) (row : Nat → Int32) (x1 x2 : Int32) : Option (Nat → Int32) := match ndO n x1 with
  | none => none
  | some u => match ndO n x2 with
    | none => none
    | some v => if u ≠ v ∧ 0 < row (eA u v 0 0) then some (looR row (pmin u v) (pmax u v)) else none
theorem acLoose_1 (h : ndO n x1 = none) : acLoose n row x1 x2 = none := by unfold acLoose; rw [h]
theorem acLoose_2 (h : ndO n x2 = none) : acLoose n row x1 x2 = none := by
  unfold acLoose
  cases ndO n x1 with
  | none => rfl
  | some u => simp only [h]
theorem acLoose_n (h : ndO n x1 = some u) (h2 : ndO n x2 = some v) (h3 : ¬ (u ≠ v ∧ 0 < row (eA u v 0 0))) : acLoose n row x1 x2 = none := by unfold acLoose; rw [h]; simp only [h2, if_neg h3]
theorem acLoose_d (h : ndO n x1 = some u) (h2 : ndO n x2 = some v) (h3 : u ≠ v ∧ 0 < row (eA u v 0 0)) : acLoose n row x1 x2 = some (looR row (pmin u v) (pmax u v)) := by unfold acLoose; rw [h]; simp only [h2, if_pos h3]
end AC
theorem eA_bk {a b : Nat} (h : a < b) (i j : Nat) : eA a b i j = bk a b + 4 * i + j := by unfold eA bk; rw [if_pos h]
theorem bk_ge (a b : Nat) : 52 ≤ bk a b := by unfold bk; omega
theorem bk_lt {a b : Nat} (h : a < b) (hb : b < 8) : bk a b + 16 ≤ 500 := by
  have := tri_lt b hb a h
  unfold bk
  omega
theorem bk_ne {a b a' b' i j : Nat} (h : a < b) (hb : b < 8) (h' : a' < b') (hb' : b' < 8) (hne : a' ≠ a ∨ b' ≠ b) (hi : i < 4) (hj : j < 4) : ¬ (bk a b ≤ eA a' b' i j ∧ eA a' b' i j < bk a b + 16) := by
  rintro ⟨h1, h2⟩
  rw [eA_bk h'] at h1 h2
  unfold bk at h1 h2
  have := tri_inj b hb a h b' hb' a' h' (by omega)
  omega
section OR
variable {mm : Nat → Nat} {row : Nat → Int32} {a b : Nat}
theorem oneR_ne (h : a < b) (hb : b < 8) {a' b' i j : Nat} (h' : a' < b') (hb' : b' < 8) (hne : a' ≠ a ∨ b' ≠ b) (hi : i < 4) (hj : j < 4) : oneR mm row a b (eA a' b' i j) = row (eA a' b' i j) := if_neg (fun q => bk_ne h hb h' hb' hne hi hj ⟨q.1, q.2.1⟩)
theorem looR_ne (h : a < b) (hb : b < 8) {a' b' i j : Nat} (h' : a' < b') (hb' : b' < 8) (hne : a' ≠ a ∨ b' ≠ b) (hi : i < 4) (hj : j < 4) : looR row a b (eA a' b' i j) = row (eA a' b' i j) := if_neg (bk_ne h hb h' hb' hne hi hj)
theorem oneR_at (h : a < b) {i j : Nat} (hi : i < mm a) (hj : j < mm b) (hi4 : i < 4) (hj4 : j < 4) : oneR mm row a b (eA a b i j) = 1 := by
  rw [eA_bk h]
  unfold oneR
  rw [if_pos ⟨by omega, by omega, by omega, by omega⟩]
theorem looR_at (h : a < b) {i j : Nat} (hi : i < 4) (hj : j < 4) : looR row a b (eA a b i j) = 0 := by
  rw [eA_bk h]
  unfold looR
  rw [if_pos ⟨by omega, by omega⟩]
theorem oneR_low {k : Nat} (hk : k < 52) : oneR mm row a b k = row k := if_neg (fun q => by have := bk_ge a b; omega)
theorem looR_low {k : Nat} (hk : k < 52) : looR row a b k = row k := if_neg (fun q => by have := bk_ge a b; omega)
end OR
theorem pmm {u v : Nat} (h : u ≠ v) : pmin u v < pmax u v := by unfold pmin pmax; split <;> omega
theorem pmm_or (u v : Nat) : (u < v ∧ pmin u v = u ∧ pmax u v = v) ∨ (¬ u < v ∧ pmin u v = v ∧ pmax u v = u) := by
  unfold pmin pmax
  by_cases h : u < v
  · exact Or.inl ⟨h, if_pos h, if_pos h⟩
  · exact Or.inr ⟨h, if_neg h, if_neg h⟩
/-! rows stay rows -/
section WR
variable {n : Nat} {mm : Nat → Nat} {row : Nat → Int32}
theorem wr.lowU (hw : wr n mm row) {k : Nat} (hk : k < 52) (x : Int32) (h1 : ∀ w, w < n → (∃ t, t ≤ 3 ∧ upd row k x (32 + w) = nI t) ∧ (∃ t, t ≤ mm w ∧ upd row k x (40 + w) = nI t) ∧ ∀ i, i < mm w → ∃ t, t ≤ 99 ∧ upd row k x (4 * w + i) = nI t) : wr n mm (upd row k x) := ⟨hw.1, h1, fun u v a b c => by rw [eA_low hk]; exact hw.2.2.1 u v a b c, fun u v i j a b c d e => by rw [eA_low hk] at e ⊢; exact hw.2.2.2.1 u v i j a b c d e, by rw [tsN_low hk]; exact hw.2.2.2.2⟩
theorem wr.own (hw : wr n mm row) {u i c : Nat} (hu : u < n) (hi : i < mm u) (hc : c ≤ 99) : wr n mm (upd row (4 * u + i) (nI c)) := by
  have h8 := hw.1.1
  have h4 := (hw.1.2 u hu).2
  refine hw.lowU (by omega) _ (fun w hw' => ?_)
  obtain ⟨b1, b2, b3⟩ := hw.2.1 w hw'
  have h4w := (hw.1.2 w hw').2
  refine ⟨by rw [pk_un (by omega)]; exact b1, by rw [pk_un (by omega)]; exact b2, fun i' hi' => ?_⟩
  by_cases e : 4 * w + i' = 4 * u + i
  · rw [e, pk_us]; exact ⟨c, hc, rfl⟩
  · rw [pk_un e]; exact b3 i' hi'
theorem wr.kind (hw : wr n mm row) {u c : Nat} (hu : u < n) (hc : c ≤ 3) : wr n mm (upd row (32 + u) (nI c)) := by
  have h8 := hw.1.1
  refine hw.lowU (by omega) _ (fun w hw' => ?_)
  obtain ⟨b1, b2, b3⟩ := hw.2.1 w hw'
  have h4w := (hw.1.2 w hw').2
  refine ⟨?_, by rw [pk_un (by omega)]; exact b2, fun i' hi' => by rw [pk_un (by omega)]; exact b3 i' hi'⟩
  by_cases e : w = u
  · rw [e, pk_us]; exact ⟨c, hc, rfl⟩
  · rw [pk_un (by omega)]; exact b1
theorem wr.pin (hw : wr n mm row) {u c : Nat} (hu : u < n) (hc : c ≤ mm u) : wr n mm (upd row (40 + u) (nI c)) := by
  have h8 := hw.1.1
  refine hw.lowU (by omega) _ (fun w hw' => ?_)
  obtain ⟨b1, b2, b3⟩ := hw.2.1 w hw'
  have h4w := (hw.1.2 w hw').2
  refine ⟨by rw [pk_un (by omega)]; exact b1, ?_, fun i' hi' => by rw [pk_un (by omega)]; exact b3 i' hi'⟩
  by_cases e : w = u
  · rw [e, pk_us]; exact ⟨c, hc, rfl⟩
  · rw [pk_un (by omega)]; exact b2
/-- an entry of a table that is there -/
theorem wr.entry (hw : wr n mm row) {a b i j c : Nat} (hab : a < b) (hb : b < n) (hi : i < mm a) (hj : j < mm b) (ht : 0 < row (eA a b 0 0)) (hc : c ≤ 9) : wr n mm (upd row (eA a b i j) (nI (c + 1))) := by
  have h8 := hw.1.1
  have ha := (hw.1.2 a (by omega)).2
  have hb4 := (hw.1.2 b hb).2
  refine hw.tie hab hb (Or.inr ht) (fun x hx => pk_un (hx i j (by omega) (by omega))) (fun i' j' h1 h2 => ?_)
  by_cases e : eA a b i' j' = eA a b i j
  · rw [e, pk_us]; exact ⟨c, hc, rfl⟩
  · rw [pk_un e]; exact hw.2.2.2.1 a b i' j' hab hb h1 h2 ht
theorem wr.one (hw : wr n mm row) {a b : Nat} (hab : a < b) (hb : b < n) (h12 : tsN row 28 ≠ 12) : wr n mm (oneR mm row a b) := by
  have h8 := hw.1.1
  have ha := (hw.1.2 a (by omega)).2
  have hb4 := (hw.1.2 b hb).2
  refine hw.tie hab hb (Or.inl h12) (fun x hx => ?_) (fun i j h1 h2 => ?_)
  · refine if_neg (fun q => ?_)
    refine hx ((x - bk a b) / 4) ((x - bk a b) % 4) (by omega) (by omega) ?_
    rw [eA_bk hab]
    omega
  · exact ⟨0, by omega, by rw [oneR_at hab h1 h2 (by omega) (by omega)]; decide +kernel⟩
theorem tsN_le' {row row' : Nat → Int32} (h : ∀ p, 0 < row' (52 + 16 * p) → 0 < row (52 + 16 * p)) : ∀ p, tsN row' p ≤ tsN row p
  | 0 => Nat.le_refl _
  | p + 1 => by
    have ih := tsN_le' h p
    show tsN row' p + (if 0 < row' (52 + 16 * p) then 1 else 0) ≤ tsN row p + (if 0 < row (52 + 16 * p) then 1 else 0)
    by_cases e : 0 < row' (52 + 16 * p)
    · rw [if_pos e, if_pos (h p e)]; omega
    · rw [if_neg e]; omega
theorem wr.loo (hw : wr n mm row) {a b : Nat} (hab : a < b) (hb : b < n) : wr n mm (looR row a b) := by
  have h8 := hw.1.1
  refine ⟨hw.1, fun w hw' => ?_, fun u v g1 g2 g3 => ?_, fun u v i j g1 g2 g3 g4 g5 => ?_, ?_⟩
  · have := (hw.1.2 w hw').2
    obtain ⟨b1, b2, b3⟩ := hw.2.1 w hw'
    exact ⟨by rw [looR_low (by omega)]; exact b1, by rw [looR_low (by omega)]; exact b2, fun i hi => by rw [looR_low (by omega)]; exact b3 i hi⟩
  · rw [looR_ne hab (by omega) g1 g2 (by omega) (by omega) (by omega)]; exact hw.2.2.1 u v g1 g2 g3
  · have b1 := (hw.1.2 u (by omega)).2
    have b2 := (hw.1.2 v g2).2
    by_cases e : u = a ∧ v = b
    · obtain ⟨rfl, rfl⟩ := e
      rw [looR_at hab (by omega) (by omega)] at g5
      exact absurd g5 (by decide)
    · rw [looR_ne hab (by omega) g1 (by omega) (by omega) (by omega) (by omega)] at g5 ⊢
      exact hw.2.2.2.1 u v i j g1 g2 g3 g4 g5
  · refine Nat.le_trans (tsN_le' (row := row) (fun p hp => ?_) 28) hw.2.2.2.2
    unfold looR at hp
    by_cases e : bk a b ≤ 52 + 16 * p ∧ 52 + 16 * p < bk a b + 16
    · rw [if_pos e] at hp; exact absurd hp (by decide)
    · rw [if_neg e] at hp; exact hp
end WR
/-! how many rows of before, and which, when one more is noted -/
def pushN (un : Nat) : Nat := if un = 8 then 8 else un + 1
def pushP (un : Nat) (P : Nat → Nat → Int32) (row : Nat → Int32) : Nat → Nat → Int32 := fun k => if un = 8 then (if k = 7 then row else P (k + 1)) else (if k = un then row else P k)
theorem pushN_le {un : Nat} (h : un ≤ 8) : pushN un ≤ 8 := by unfold pushN; split <;> omega
theorem pushN_8 : pushN 8 = 8 := rfl
theorem pushN_s {un : Nat} (h : un ≠ 8) : pushN un = un + 1 := if_neg h
theorem pushP_8 {P : Nat → Nat → Int32} {row : Nat → Int32} {k : Nat} : pushP 8 P row k = if k = 7 then row else P (k + 1) := if_pos rfl
theorem pushP_s {un : Nat} (h : un ≠ 8) {P : Nat → Nat → Int32} {row : Nat → Int32} {k : Nat} : pushP un P row k = if k = un then row else P k := if_neg h
/-- the k-th row of 500 -/
def rwK (f : Nat → Int32) (k : Nat) : Nat → Int32 := fun j => f (500 * k + j)
