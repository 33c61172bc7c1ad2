/-! the reduction, pure -/
abbrev CF : Type := Nat → Nat → Nat
abbrev TF : Type := Nat → Nat → Nat → Nat → Nat
abbrev VF : Type := Nat → Nat
def cap (x : Nat) : Nat := if x ≤ 1000000 then x else 1000000
theorem cap_le (x : Nat) : cap x ≤ 1000000 := by unfold cap; split <;> omega
theorem cap_id {x : Nat} (h : x ≤ 1000000) : cap x = x := if_pos h
theorem cap_big {x : Nat} (h : ¬ x ≤ 1000000) : cap x = 1000000 := if_neg h
theorem cap_add (a b : Nat) : cap (cap a + b) = cap (a + b) := by
  by_cases h : a ≤ 1000000
  · rw [cap_id h]
  · rw [cap_big h]
    by_cases hb : b = 0
    · subst hb; rw [cap_id (by omega), cap_big (by omega)]
    · rw [cap_big (by omega), cap_big (by omega)]
def ucf (c : CF) (v j x : Nat) : CF := fun a b => if a = v ∧ b = j then x else c a b
def utf (t : TF) (v w j h x : Nat) : TF := fun a b i k => if (a = v ∧ b = w ∧ i = j ∧ k = h) ∨ (a = w ∧ b = v ∧ i = h ∧ k = j) then x else t a b i k
def uvf (f : VF) (k x : Nat) : VF := fun a => if a = k then x else f a
theorem ucf_at (c : CF) (v j x : Nat) : ucf c v j x v j = x := if_pos ⟨rfl, rfl⟩
theorem ucf_ne {c : CF} {v j x a b : Nat} (h : ¬ (a = v ∧ b = j)) : ucf c v j x a b = c a b := if_neg h
theorem uvf_at (f : VF) (k x : Nat) : uvf f k x k = x := if_pos rfl
theorem uvf_ne {f : VF} {k x a : Nat} (h : a ≠ k) : uvf f k x a = f a := if_neg h
theorem ucf_le {c : CF} {v j x : Nat} (h : ∀ a b, c a b ≤ 1000000) (hx : x ≤ 1000000) (a b : Nat) : ucf c v j x a b ≤ 1000000 := by
  unfold ucf
  split
  · exact hx
  · exact h a b
theorem utf_le {t : TF} {v w j h x : Nat} (ht : ∀ a b i k, t a b i k ≤ 1000000) (hx : x ≤ 1000000) (a b i k : Nat) : utf t v w j h x a b i k ≤ 1000000 := by
  unfold utf
  split
  · exact hx
  · exact ht a b i k
theorem utf_sym {t : TF} {v w j h x : Nat} (ht : ∀ a b i k, t a b i k = t b a k i) (a b i k : Nat) : utf t v w j h x a b i k = utf t v w j h x b a k i := by
  unfold utf
  by_cases e : (a = v ∧ b = w ∧ i = j ∧ k = h) ∨ (a = w ∧ b = v ∧ i = h ∧ k = j)
  · rw [if_pos e, if_pos (by omega)]
  · rw [if_neg e, if_neg (by omega)]; exact ht a b i k
theorem utf_off {t : TF} {v w j h x a b i k : Nat} (e : ¬ ((a = v ∧ b = w) ∨ (a = w ∧ b = v))) : utf t v w j h x a b i k = t a b i k := if_neg (by omega)
def mn (f : Nat → Nat) : Nat → Nat
  | 0 => 1000000
  | k + 1 => if f k < mn f k then f k else mn f k
theorem mn_le (f : Nat → Nat) : ∀ k, mn f k ≤ 1000000
  | 0 => Nat.le_refl _
  | k + 1 => by
    have := mn_le f k
    unfold mn
    split <;> omega
theorem mn_t {f : Nat → Nat} {k : Nat} (h : f k < mn f k) : mn f (k + 1) = f k := if_pos h
theorem mn_f {f : Nat → Nat} {k : Nat} (h : ¬ f k < mn f k) : mn f (k + 1) = mn f k := if_neg h
theorem mn_congr {f g : Nat → Nat} : ∀ {k : Nat}, (∀ i, i < k → f i = g i) → mn f k = mn g k
  | 0, _ => rfl
  | k + 1, h => by
    show (if f k < mn f k then f k else mn f k) = if g k < mn g k then g k else mn g k
    rw [mn_congr (fun i hi => h i (by omega)), h k (by omega)]
/-- rule 1, choice by choice -/
def r1 (mu : Nat) (t : TF) (u v : Nat) (c : CF) : Nat → CF
  | 0 => c
  | j + 1 => ucf (r1 mu t u v c j) v j (cap (r1 mu t u v c j v j + mn (fun i => r1 mu t u v c j u i + t u v i j) mu))
theorem r1_le {mu : Nat} {t : TF} {u v : Nat} {c : CF} (h : ∀ a b, c a b ≤ 1000000) : ∀ j a b, r1 mu t u v c j a b ≤ 1000000
  | 0 => h
  | j + 1 => ucf_le (r1_le h j) (cap_le _)
/-- rule 2, entry by entry -/
def r2 (mu mw : Nat) (c : CF) (u v w : Nat) (t : TF) : Nat → TF
  | 0 => t
  | k + 1 => utf (r2 mu mw c u v w t k) v w (k / mw) (k % mw) (cap (r2 mu mw c u v w t k v w (k / mw) (k % mw) + mn (fun i => c u i + r2 mu mw c u v w t k u v i (k / mw) + r2 mu mw c u v w t k u w i (k % mw)) mu))
theorem r2_le {mu mw : Nat} {c : CF} {u v w : Nat} {t : TF} (h : ∀ a b i k, t a b i k ≤ 1000000) : ∀ j a b i k, r2 mu mw c u v w t j a b i k ≤ 1000000
  | 0 => h
  | j + 1 => utf_le (r2_le h j) (cap_le _)
theorem r2_sym {mu mw : Nat} {c : CF} {u v w : Nat} {t : TF} (h : ∀ a b i k, t a b i k = t b a k i) : ∀ j a b i k, r2 mu mw c u v w t j a b i k = r2 mu mw c u v w t j b a k i
  | 0 => h
  | j + 1 => utf_sym (r2_sym h j)
theorem r2_off {mu mw : Nat} {c : CF} {u v w : Nat} {t : TF} {a b : Nat} (e : ¬ ((a = v ∧ b = w) ∨ (a = w ∧ b = v))) : ∀ j i k, r2 mu mw c u v w t j a b i k = t a b i k
  | 0, _, _ => rfl
  | j + 1, i, k => (utf_off e).trans (r2_off e j i k)
/-- rule 3: what a choice looks like -/
def ol (mm : VF) (c : CF) (t : TF) (s u i : Nat) : Nat → Nat
  | 0 => c u i
  | v + 1 => if s / 2 ^ v % 2 = 1 then cap (ol mm c t s u i v + mn (fun j => c v j + t u v i j) (mm v)) else ol mm c t s u i v
theorem ol_le {mm : VF} {c : CF} {t : TF} {s u i : Nat} (h : ∀ a b, c a b ≤ 1000000) : ∀ v, ol mm c t s u i v ≤ 1000000
  | 0 => h u i
  | v + 1 => by
    have := ol_le (mm := mm) (t := t) (s := s) (u := u) (i := i) h v
    unfold ol
    split
    · exact cap_le _
    · exact this
theorem ol_t {mm : VF} {c : CF} {t : TF} {s u i v : Nat} (h : s / 2 ^ v % 2 = 1) : ol mm c t s u i (v + 1) = cap (ol mm c t s u i v + mn (fun j => c v j + t u v i j) (mm v)) := if_pos h
theorem ol_f {mm : VF} {c : CF} {t : TF} {s u i v : Nat} (h : ¬ s / 2 ^ v % 2 = 1) : ol mm c t s u i (v + 1) = ol mm c t s u i v := if_neg h
/-- the first least of some, and what it is -/
def fm (f : Nat → Nat) : Nat → Nat × Nat
  | 0 => (0, 1000001)
  | k + 1 => if f k < (fm f k).2 then (k, f k) else fm f k
theorem fm_t {f : Nat → Nat} {k : Nat} (h : f k < (fm f k).2) : fm f (k + 1) = (k, f k) := if_pos h
theorem fm_f {f : Nat → Nat} {k : Nat} (h : ¬ f k < (fm f k).2) : fm f (k + 1) = fm f k := if_neg h
theorem fm_1 {f : Nat → Nat} (h : f 0 ≤ 1000000) : fm f 1 = (0, f 0) := fm_t (show f 0 < 1000001 by omega)
theorem fm_lt {f : Nat → Nat} (h : f 0 ≤ 1000000) : ∀ k, (fm f (k + 1)).1 < k + 1
  | 0 => by rw [fm_1 h]; exact Nat.zero_lt_one
  | k + 1 => by
    have := fm_lt h k
    by_cases e : f (k + 1) < (fm f (k + 1)).2
    · rw [fm_t e]; exact Nat.lt_succ_self _
    · rw [fm_f e]; omega
theorem fm_lt' {f : Nat → Nat} {m : Nat} (h : f 0 ≤ 1000000) (hm : 1 ≤ m) : (fm f m).1 < m := by
  obtain ⟨k, rfl⟩ : ∃ k, m = k + 1 := ⟨m - 1, by omega⟩
  exact fm_lt h k
theorem fm_le (f : Nat → Nat) : ∀ k, (fm f k).2 ≤ 1000001
  | 0 => Nat.le_refl _
  | k + 1 => by
    have := fm_le f k
    by_cases e : f k < (fm f k).2
    · rw [fm_t e]; show f k ≤ _; omega
    · rw [fm_f e]; exact this
theorem fm_le1 (f : Nat → Nat) : ∀ k, (fm f k).1 ≤ k
  | 0 => Nat.le_refl _
  | k + 1 => by
    have := fm_le1 f k
    by_cases e : f k < (fm f k).2
    · rw [fm_t e]; show k ≤ _; omega
    · rw [fm_f e]; omega
theorem fm_congr {f g : Nat → Nat} : ∀ {k : Nat}, (∀ i, i < k → f i = g i) → fm f k = fm g k
  | 0, _ => rfl
  | k + 1, h => by
    show (if f k < (fm f k).2 then (k, f k) else fm f k) = if g k < (fm g k).2 then (k, g k) else fm g k
    rw [fm_congr (fun i hi => h i (by omega)), h k (by omega)]
def b3 (n : Nat) (mm : VF) (c : CF) (t : TF) (s u : Nat) : Nat := (fm (fun i => ol mm c t s u i n) (mm u)).1
theorem b3_lt {n : Nat} {mm : VF} {c : CF} {t : TF} {s u : Nat} (h : ∀ a b, c a b ≤ 1000000) (hm : 1 ≤ mm u) : b3 n mm c t s u < mm u := fm_lt' (ol_le h n) hm
def r3i (t : TF) (u b v : Nat) (c : CF) : Nat → CF
  | 0 => c
  | j + 1 => ucf (r3i t u b v c j) v j (cap (r3i t u b v c j v j + t u v b j))
def r3 (mm : VF) (t : TF) (s u b : Nat) (c : CF) : Nat → CF
  | 0 => c
  | v + 1 => if s / 2 ^ v % 2 = 1 then r3i t u b v (r3 mm t s u b c v) (mm v) else r3 mm t s u b c v
theorem r3_t {mm : VF} {t : TF} {s u b : Nat} {c : CF} {v : Nat} (h : s / 2 ^ v % 2 = 1) : r3 mm t s u b c (v + 1) = r3i t u b v (r3 mm t s u b c v) (mm v) := if_pos h
theorem r3_f {mm : VF} {t : TF} {s u b : Nat} {c : CF} {v : Nat} (h : ¬ s / 2 ^ v % 2 = 1) : r3 mm t s u b c (v + 1) = r3 mm t s u b c v := if_neg h
theorem r3i_le {t : TF} {u b v : Nat} {c : CF} (h : ∀ x y, c x y ≤ 1000000) : ∀ j x y, r3i t u b v c j x y ≤ 1000000
  | 0 => h
  | j + 1 => ucf_le (r3i_le h j) (cap_le _)
theorem r3_le {mm : VF} {t : TF} {s u b : Nat} {c : CF} (h : ∀ x y, c x y ≤ 1000000) : ∀ v x y, r3 mm t s u b c v x y ≤ 1000000
  | 0 => h
  | v + 1 => by
    have := r3_le (mm := mm) (t := t) (s := s) (u := u) (b := b) h v
    by_cases e : s / 2 ^ v % 2 = 1
    · rw [r3_t e]; exact r3i_le this _
    · rw [r3_f e]; exact this
/-- bits -/
theorem bt_tb {s v : Nat} : s / 2 ^ v % 2 = 1 ↔ s.testBit v = true := by rw [Nat.testBit_eq_decide_div_mod_eq, decide_eq_true_eq]
theorem bt_lt {s v : Nat} (hs : s < 256) (h : s / 2 ^ v % 2 = 1) : v < 8 := bit_lt (n := 8) (Nat.lt_of_lt_of_le hs (by decide)) h
theorem bt_or {s w v : Nat} : (s ||| 2 ^ w) / 2 ^ v % 2 = 1 ↔ (s / 2 ^ v % 2 = 1 ∨ w = v) := by
  rw [bt_tb, bt_tb, Nat.testBit_or, Bool.or_eq_true, Nat.testBit_two_pow, decide_eq_true_eq]
theorem clr_m : ∀ u, u < 8 → ∀ v, v < 8 → (255 - 2 ^ u).testBit v = decide (v ≠ u) := by decide +kernel
theorem bt_clr {s u v : Nat} (hs : s < 256) (hu : u < 8) : clr s u / 2 ^ v % 2 = 1 ↔ (s / 2 ^ v % 2 = 1 ∧ v ≠ u) := by
  by_cases hv : v < 8
  · unfold clr
    rw [bt_tb, bt_tb, Nat.testBit_and, Bool.and_eq_true, clr_m u hu v hv, decide_eq_true_eq]
  · constructor
    · intro h
      exact absurd (bt_lt (Nat.lt_of_le_of_lt (clr_le s u) hs) h) hv
    · rintro ⟨h, -⟩
      exact absurd (bt_lt hs h) hv
theorem bt_ext {s r : Nat} (h : ∀ v, s / 2 ^ v % 2 = 1 ↔ r / 2 ^ v % 2 = 1) : s = r := by
  apply Nat.eq_of_testBit_eq
  intro v
  rw [Bool.eq_iff_iff, ← bt_tb, ← bt_tb]
  exact h v
theorem bt_all : ∀ n, n ≤ 8 → ∀ v, v < 8 → ((2 ^ n - 1) / 2 ^ v % 2 = 1 ↔ v < n) := by decide +kernel
/-- the lowest of some, the next one -/
def lob (s : Nat) : Nat := if s % 2 = 1 then 0 else if s / 2 % 2 = 1 then 1 else if s / 4 % 2 = 1 then 2 else if s / 8 % 2 = 1 then 3 else if s / 16 % 2 = 1 then 4 else if s / 32 % 2 = 1 then 5 else if s / 64 % 2 = 1 then 6 else 7
def lo2 (s : Nat) : Nat := lob (clr s (lob s))
theorem lob_bt : ∀ s, s < 256 → 0 < s → lob s < 8 ∧ s / 2 ^ lob s % 2 = 1 := by decide +kernel
theorem lob_le : ∀ s, s < 256 → ∀ v, v < 8 → s / 2 ^ v % 2 = 1 → lob s ≤ v := by decide +kernel
theorem lob_eq {s a : Nat} (hs : s < 256) (ha : s / 2 ^ a % 2 = 1) (h : ∀ b, b < a → ¬ s / 2 ^ b % 2 = 1) : a = lob s := by
  have h8 := bt_lt hs ha
  have h0 : 0 < s := Nat.pos_of_ne_zero (fun e => by rw [e, Nat.zero_div] at ha; exact absurd ha (by decide))
  have h1 := lob_le s hs a h8 ha
  have h2 := (lob_bt s hs h0).2
  by_cases e : lob s < a
  · exact absurd h2 (h _ e)
  · omega
theorem lo_and : ∀ s, s < 256 → 0 < s → s &&& (s - 1) = clr s (lob s) := by decide +kernel
theorem lo2_bt {s : Nat} (hs : s < 256) (h2 : 1 < pc s) : lo2 s < 8 ∧ s / 2 ^ lo2 s % 2 = 1 ∧ lo2 s ≠ lob s := by
  have h0 := pc_pos s hs (by omega)
  have hl := lob_bt s hs h0
  have hc := clr_pc s hs (lob s) hl.1 hl.2
  have hcl := Nat.lt_of_le_of_lt (clr_le s (lob s)) hs
  have h3 := lob_bt (clr s (lob s)) hcl (pc_pos _ hcl (by omega))
  have h4 := (bt_clr hs hl.1).mp h3.2
  exact ⟨h3.1, h4.1, h4.2⟩
/-- which is next -/
def ahN (mm mk : VF) (u v : Nat) : Prop := 100 * pc (mk u) + 10 * mm u + u < 100 * pc (mk v) + 10 * mm v + v
def nf (mm mk : VF) (lf : Nat) : Nat → Option (Nat × Nat)
  | 0 => none
  | u + 1 => if lf / 2 ^ u % 2 = 1 then (match nf mm mk lf u with
    | none => some (u, u)
    | some p => some (if 100 * pc (mk u) + 10 * mm u + u < 100 * pc (mk p.1) + 10 * mm p.1 + p.1 then u else p.1, if 100 * pc (mk p.2) + 10 * mm p.2 + p.2 < 100 * pc (mk u) + 10 * mm u + u then u else p.2)) else nf mm mk lf u
theorem nf_skip {mm mk : VF} {lf u : Nat} (h : ¬ lf / 2 ^ u % 2 = 1) : nf mm mk lf (u + 1) = nf mm mk lf u := if_neg h
theorem nf_first {mm mk : VF} {lf u : Nat} (h : lf / 2 ^ u % 2 = 1) (e : nf mm mk lf u = none) : nf mm mk lf (u + 1) = some (u, u) := by
  unfold nf
  rw [if_pos h, e]
theorem nf_more {mm mk : VF} {lf u : Nat} (h : lf / 2 ^ u % 2 = 1) {p : Nat × Nat} (e : nf mm mk lf u = some p) {a b : Nat} (ha : (ahN mm mk u p.1 ∧ a = u) ∨ (¬ ahN mm mk u p.1 ∧ a = p.1)) (hb : (ahN mm mk p.2 u ∧ b = u) ∨ (¬ ahN mm mk p.2 u ∧ b = p.2)) : nf mm mk lf (u + 1) = some (a, b) := by
  unfold nf
  rw [if_pos h, e]
  simp only
  unfold ahN at ha hb
  congr 2
  · rcases ha with ⟨h1, h2⟩ | ⟨h1, h2⟩
    · rw [if_pos h1, h2]
    · rw [if_neg h1, h2]
  · rcases hb with ⟨h1, h2⟩ | ⟨h1, h2⟩
    · rw [if_pos h1, h2]
    · rw [if_neg h1, h2]
theorem nf_ok {mm mk : VF} {lf : Nat} : ∀ {k : Nat} {p : Nat × Nat}, nf mm mk lf k = some p → (p.1 < k ∧ lf / 2 ^ p.1 % 2 = 1) ∧ p.2 < k ∧ lf / 2 ^ p.2 % 2 = 1
  | 0, p, h => by cases h
  | k + 1, p, h => by
    by_cases hb : lf / 2 ^ k % 2 = 1
    · cases e : nf mm mk lf k with
      | none =>
        rw [nf_first hb e] at h
        cases h
        exact ⟨⟨Nat.lt_succ_self _, hb⟩, Nat.lt_succ_self _, hb⟩
      | some q =>
        obtain ⟨⟨h1, h2⟩, h3, h4⟩ := nf_ok e
        by_cases ha : ahN mm mk k q.1
        · by_cases hc : ahN mm mk q.2 k
          · rw [nf_more hb e (Or.inl ⟨ha, rfl⟩) (Or.inl ⟨hc, rfl⟩)] at h
            cases h
            exact ⟨⟨Nat.lt_succ_self _, hb⟩, Nat.lt_succ_self _, hb⟩
          · rw [nf_more hb e (Or.inl ⟨ha, rfl⟩) (Or.inr ⟨hc, rfl⟩)] at h
            cases h
            exact ⟨⟨Nat.lt_succ_self _, hb⟩, by omega, h4⟩
        · by_cases hc : ahN mm mk q.2 k
          · rw [nf_more hb e (Or.inr ⟨ha, rfl⟩) (Or.inl ⟨hc, rfl⟩)] at h
            cases h
            exact ⟨⟨by omega, h2⟩, Nat.lt_succ_self _, hb⟩
          · rw [nf_more hb e (Or.inr ⟨ha, rfl⟩) (Or.inr ⟨hc, rfl⟩)] at h
            cases h
            exact ⟨⟨by omega, h2⟩, by omega, h4⟩
    · rw [nf_skip hb] at h
      obtain ⟨⟨h1, h2⟩, h3, h4⟩ := nf_ok h
      exact ⟨⟨by omega, h2⟩, by omega, h4⟩
theorem nf_no {mm mk : VF} {lf : Nat} : ∀ {k : Nat}, nf mm mk lf k = none → ∀ v, v < k → ¬ lf / 2 ^ v % 2 = 1
  | 0, _, v, hv => absurd hv (Nat.not_lt_zero v)
  | k + 1, h, v, hv => by
    by_cases hb : lf / 2 ^ k % 2 = 1
    · cases e : nf mm mk lf k with
      | none => rw [nf_first hb e] at h; cases h
      | some q =>
        by_cases ha : ahN mm mk k q.1
        · by_cases hc : ahN mm mk q.2 k
          · rw [nf_more hb e (Or.inl ⟨ha, rfl⟩) (Or.inl ⟨hc, rfl⟩)] at h; cases h
          · rw [nf_more hb e (Or.inl ⟨ha, rfl⟩) (Or.inr ⟨hc, rfl⟩)] at h; cases h
        · by_cases hc : ahN mm mk q.2 k
          · rw [nf_more hb e (Or.inr ⟨ha, rfl⟩) (Or.inl ⟨hc, rfl⟩)] at h; cases h
          · rw [nf_more hb e (Or.inr ⟨ha, rfl⟩) (Or.inr ⟨hc, rfl⟩)] at h; cases h
    · rw [nf_skip hb] at h
      by_cases e : v = k
      · rw [e]; exact hb
      · exact nf_no h v (by omega)
def nxt (mm mk : VF) (n lf : Nat) : Nat := match nf mm mk lf n with
  | none => 0
  | some p => if pc (mk p.1) < 3 then p.1 else p.2
theorem nxt_e {mm mk : VF} {n lf : Nat} {p : Nat × Nat} (h : nf mm mk lf n = some p) : nxt mm mk n lf = if pc (mk p.1) < 3 then p.1 else p.2 := by
  unfold nxt
  rw [h]
theorem nf_ex {mm mk : VF} {n lf : Nat} (hl : lf < 2 ^ n) (hn : n ≤ 8) (h0 : 0 < lf) : ∃ p, nf mm mk lf n = some p := by
  cases h : nf mm mk lf n with
  | some p => exact ⟨p, rfl⟩
  | none =>
    obtain ⟨b, h3, h4⟩ := low_bit lf (Nat.lt_of_lt_of_le hl (p2_le hn).2) h0
    exact absurd h4 (nf_no h b (bit_lt hl h4))
theorem nxt_ok {mm mk : VF} {n lf : Nat} (hl : lf < 2 ^ n) (hn : n ≤ 8) (h0 : 0 < lf) : nxt mm mk n lf < n ∧ lf / 2 ^ nxt mm mk n lf % 2 = 1 := by
  obtain ⟨p, h⟩ := nf_ex (mm := mm) (mk := mk) hl hn h0
  obtain ⟨h1, h2⟩ := nf_ok h
  rw [nxt_e h]
  split
  · exact h1
  · exact h2
def jn (mk : VF) (v w : Nat) : VF := uvf (uvf mk v (mk v ||| 2 ^ w)) w (mk w ||| 2 ^ v)
/-- what a node that is reduced does to the others: costs, tables, ties; to what is taken -/
def ru (n : Nat) (mm : VF) (c : CF) (t : TF) (mk tk : VF) (u : Nat) : (CF × TF × VF) × VF :=
  if pc (mk u) = 1 then ((r1 (mm u) t u (lob (mk u)) c (mm (lob (mk u))), t, mk), tk)
  else if pc (mk u) = 2 then ((c, r2 (mm u) (mm (lo2 (mk u))) c u (lob (mk u)) (lo2 (mk u)) t (mm (lob (mk u)) * mm (lo2 (mk u))), jn mk (lob (mk u)) (lo2 (mk u))), tk)
  else if 2 < pc (mk u) then ((r3 mm t (mk u) u (b3 n mm c t (mk u) u) c n, t, mk), uvf tk u (b3 n mm c t (mk u) u))
  else ((c, t, mk), tk)
/-- costs, tables, ties; who is left, what is taken; order, rules, ties then -/
abbrev RSt : Type := (CF × TF × VF) × (Nat × VF) × (VF × VF × VF)
def r3n (x : Nat) : Nat := if x < 3 then x else 3
def stU (n : Nat) (mm : VF) (S : RSt) (k u : Nat) : RSt :=
  (((ru n mm S.1.1 S.1.2.1 S.1.2.2 S.2.1.2 u).1.1, (ru n mm S.1.1 S.1.2.1 S.1.2.2 S.2.1.2 u).1.2.1, fun v => clr ((ru n mm S.1.1 S.1.2.1 S.1.2.2 S.2.1.2 u).1.2.2 v) u), (clr S.2.1.1 u, (ru n mm S.1.1 S.1.2.1 S.1.2.2 S.2.1.2 u).2), uvf S.2.2.1 k u, uvf S.2.2.2.1 k (r3n (pc (S.1.2.2 u))), uvf S.2.2.2.2 k (S.1.2.2 u))
def rns (n : Nat) (mm : VF) (S : RSt) : Nat → RSt
  | 0 => S
  | k + 1 => stU n mm (rns n mm S k) k (nxt mm (rns n mm S k).1.2.2 n (rns n mm S k).2.1.1)
def c0 (n : Nat) (mm : VF) (row : Nat → Int32) : CF := fun u i => if u < n ∧ i < mm u then cst row u i else 0
def t0 (n : Nat) (mm : VF) (row : Nat → Int32) : TF := fun u v i j => if u < n ∧ v < n ∧ i < mm u ∧ j < mm v ∧ tdd row u v = 1 then tcs row u v i j else 0
def S0' (n : Nat) (mm : VF) (row : Nat → Int32) : RSt := ((c0 n mm row, t0 n mm row, fun u => if u < n then mkB row u else 0), (2 ^ n - 1, fun _ => 0), (fun _ => 0, fun _ => 0, fun _ => 0))
/-- read off: what a choice costs with what the others took -/
def sm (c : CF) (t : TF) (s : Nat) (tk : VF) (u i : Nat) : Nat → Nat
  | 0 => c u i
  | v + 1 => if s / 2 ^ v % 2 = 1 then cap (sm c t s tk u i v + t u v i (tk v)) else sm c t s tk u i v
theorem sm_t {c : CF} {t : TF} {s : Nat} {tk : VF} {u i v : Nat} (h : s / 2 ^ v % 2 = 1) : sm c t s tk u i (v + 1) = cap (sm c t s tk u i v + t u v i (tk v)) := if_pos h
theorem sm_f {c : CF} {t : TF} {s : Nat} {tk : VF} {u i v : Nat} (h : ¬ s / 2 ^ v % 2 = 1) : sm c t s tk u i (v + 1) = sm c t s tk u i v := if_neg h
theorem sm_le {c : CF} {t : TF} {s : Nat} {tk : VF} {u i : Nat} (h : ∀ a b, c a b ≤ 1000000) : ∀ v, sm c t s tk u i v ≤ 1000000
  | 0 => h u i
  | v + 1 => by
    have := sm_le (t := t) (s := s) (tk := tk) (u := u) (i := i) h v
    by_cases e : s / 2 ^ v % 2 = 1
    · rw [sm_t e]; exact cap_le _
    · rw [sm_f e]; exact this
def tb (n : Nat) (mm : VF) (c : CF) (t : TF) (s : Nat) (tk : VF) (u : Nat) : Nat := (fm (fun i => sm c t s tk u i n) (mm u)).1
def ro (n : Nat) (mm : VF) (S : RSt) : Nat → VF
  | 0 => S.2.1.2
  | m + 1 => if S.2.2.2.1 (n - (m + 1)) < 3 then uvf (ro n mm S m) (S.2.2.1 (n - (m + 1))) (tb n mm S.1.1 S.1.2.1 (S.2.2.2.2 (n - (m + 1))) (ro n mm S m) (S.2.2.1 (n - (m + 1)))) else ro n mm S m
