/-! the search, pure -/
abbrev SSt : Type := (Nat × Nat × Nat) × (VF × VF)
def itr {α : Type} (g : Nat → α → α) : Nat → α → α
  | 0, s => s
  | i + 1, s => g i (itr g i s)
theorem itr_add {α : Type} (g : Nat → α → α) : ∀ (b a : Nat) (s : α), itr g (a + b) s = itr (fun k s => g (a + k) s) b (itr g a s)
  | 0, _, _ => rfl
  | b + 1, a, s => by
    show g (a + b) (itr g (a + b) s) = g (a + b) (itr (fun k s => g (a + k) s) b (itr g a s))
    rw [itr_add g b a s]
theorem itr_congr {α : Type} {g h : Nat → α → α} : ∀ {k : Nat}, (∀ i s, i < k → g i s = h i s) → ∀ s, itr g k s = itr h k s
  | 0, _, _ => rfl
  | k + 1, e, s => by
    show g k (itr g k s) = h k (itr h k s)
    rw [itr_congr (fun i s hi => e i s (by omega)) s, e k _ (by omega)]
theorem itr_mul {α : Type} (g : Nat → α → α) (b : Nat) : ∀ (a : Nat) (s : α), itr g (a * b) s = itr (fun i s => itr (fun k s => g (i * b + k) s) b s) a s
  | 0, s => by rw [Nat.zero_mul]; rfl
  | a + 1, s => by
    rw [Nat.succ_mul, itr_add, itr_mul g b a s]
    rfl
theorem itr_id {α : Type} {g : Nat → α → α} {s : α} : ∀ {k : Nat}, (∀ i, i < k → g i s = s) → itr g k s = s
  | 0, _ => rfl
  | k + 1, e => by
    show g k (itr g k s) = s
    rw [itr_id (fun i hi => e i (by omega)), e k (by omega)]
theorem itr_inv {α : Type} {g : Nat → α → α} (P : α → Prop) : ∀ {k : Nat}, (∀ i s, i < k → P s → P (g i s)) → ∀ s, P s → P (itr g k s)
  | 0, _, _, h => h
  | k + 1, e, s, h => e k _ (by omega) (itr_inv P (fun i s hi => e i s (by omega)) s h)
/-- all plans, node by node -/
def dfs {α : Type} (mm : VF) (f : VF → α → α) : Nat → Nat → VF → α → α
  | 0, _, p, s => f p s
  | j + 1, u, p, s => itr (fun i s => dfs mm f j (u + 1) (uvf p u i) s) (mm u) s
def Wn (mm : VF) : Nat → Nat → Nat
  | 0, _ => 1
  | j + 1, u => mm u * Wn mm j (u + 1)
def pl (mm : VF) : Nat → Nat → VF → Nat → VF
  | 0, _, p, _ => p
  | j + 1, u, p, k => pl mm j (u + 1) (uvf p u (k / Wn mm j (u + 1))) (k % Wn mm j (u + 1))
theorem dm_q {i w k : Nat} (hk : k < w) : (i * w + k) / w = i ∧ (i * w + k) % w = k := ⟨by rw [Nat.mul_comm, Nat.mul_add_div (by omega), Nat.div_eq_of_lt hk, Nat.add_zero], by rw [Nat.mul_comm, Nat.mul_add_mod, Nat.mod_eq_of_lt hk]⟩
theorem dfs_itr {α : Type} (mm : VF) (f : VF → α → α) : ∀ (j u : Nat) (p : VF) (s : α), dfs mm f j u p s = itr (fun k s => f (pl mm j u p k) s) (Wn mm j u) s
  | 0, _, _, _ => rfl
  | j + 1, u, p, s => by
    show itr (fun i s => dfs mm f j (u + 1) (uvf p u i) s) (mm u) s = itr _ (mm u * Wn mm j (u + 1)) s
    rw [itr_mul]
    apply itr_congr
    intro i s hi
    rw [dfs_itr mm f j (u + 1) (uvf p u i) s]
    apply itr_congr
    intro k s hk
    show _ = f (pl mm j (u + 1) (uvf p u ((i * Wn mm j (u + 1) + k) / Wn mm j (u + 1))) ((i * Wn mm j (u + 1) + k) % Wn mm j (u + 1))) s
    rw [(dm_q hk).1, (dm_q hk).2]
theorem pl_low (mm : VF) : ∀ (j u : Nat) (p : VF) (k v : Nat), v < u → pl mm j u p k v = p v
  | 0, _, _, _, _, _ => rfl
  | j + 1, u, p, k, v, h => by
    show pl mm j (u + 1) _ _ v = p v
    rw [pl_low mm j (u + 1) _ _ v (by omega), uvf_ne (by omega)]
theorem Wn_fac (mm : VF) : ∀ (j u v : Nat), u ≤ v → v < u + j → ∃ a, Wn mm j u = Wn mm (u + j - 1 - v) (v + 1) * (mm v * a)
  | 0, u, v, h1, h2 => by omega
  | j + 1, u, v, h1, h2 => by
    by_cases e : v = u
    · subst e
      refine ⟨1, ?_⟩
      rw [show v + (j + 1) - 1 - v = j by omega, Nat.mul_one, Nat.mul_comm]
      rfl
    · obtain ⟨a, ha⟩ := Wn_fac mm j (u + 1) v (by omega) (by omega)
      refine ⟨mm u * a, ?_⟩
      show mm u * Wn mm j (u + 1) = _
      rw [ha, show u + 1 + j - 1 - v = u + (j + 1) - 1 - v by omega, Nat.mul_left_comm, Nat.mul_left_comm (mm u) (mm v) a]
theorem pl_dg (mm : VF) : ∀ (j u : Nat) (p : VF) (k v : Nat), u ≤ v → v < u + j → k < Wn mm j u → pl mm j u p k v = k / Wn mm (u + j - 1 - v) (v + 1) % mm v
  | 0, u, p, k, v, h1, h2, _ => by omega
  | j + 1, u, p, k, v, h1, h2, hk => by
    have hk2 : k < mm u * Wn mm j (u + 1) := hk
    have hW : 0 < Wn mm j (u + 1) := Nat.pos_of_ne_zero (fun e => by rw [e, Nat.mul_zero] at hk2; exact absurd hk2 (Nat.not_lt_zero _))
    show pl mm j (u + 1) (uvf p u (k / Wn mm j (u + 1))) (k % Wn mm j (u + 1)) v = _
    by_cases e : v = u
    · subst e
      rw [pl_low mm j (v + 1) _ _ v (by omega), uvf_at, show v + (j + 1) - 1 - v = j by omega, Nat.mod_eq_of_lt]
      exact Nat.div_lt_of_lt_mul (by rw [Nat.mul_comm]; exact hk2)
    · rw [pl_dg mm j (u + 1) _ _ v (by omega) (by omega) (Nat.mod_lt _ hW)]
      obtain ⟨a, ha⟩ := Wn_fac mm j (u + 1) v (by omega) (by omega)
      rw [show u + (j + 1) - 1 - v = u + 1 + j - 1 - v by omega, ha, Nat.mod_mul_right_div_self, Nat.mod_mul_right_mod]
theorem Wn_pos {mm : VF} : ∀ {j u : Nat}, (∀ v, u ≤ v → v < u + j → 1 ≤ mm v) → 0 < Wn mm j u
  | 0, _, _ => Nat.zero_lt_one
  | j + 1, u, h => Nat.mul_pos (h u (by omega) (by omega)) (Wn_pos (fun v h1 h2 => h v (by omega) (by omega)))
theorem pl_lt {mm : VF} {j u : Nat} {p : VF} {k v : Nat} (h1 : u ≤ v) (h2 : v < u + j) (hk : k < Wn mm j u) (hm : 1 ≤ mm v) : pl mm j u p k v < mm v := by
  rw [pl_dg mm j u p k v h1 h2 hk]
  exact Nat.mod_lt _ hm
theorem Wn_le {mm : VF} : ∀ {j u : Nat}, (∀ v, u ≤ v → v < u + j → mm v ≤ 4) → Wn mm j u ≤ 4 ^ j
  | 0, _, _ => Nat.le_refl 1
  | j + 1, u, h => by
    rw [Nat.pow_succ, Nat.mul_comm]
    exact Nat.mul_le_mul (h u (by omega) (by omega)) (Wn_le (fun v h1 h2 => h v (by omega) (by omega)))
/-- a plan is met -/
def mt (x : Nat) (p : VF) (s : SSt) : SSt :=
  if x < s.1.1 then ((x, s.1.1, 1), (p, fun u => 2 ^ p u))
  else if x = s.1.1 ∧ x < 1000000 then ((s.1.1, s.1.2.1, s.1.2.2 + 1), (s.2.1, fun u => s.2.2 u ||| 2 ^ p u))
  else if s.1.1 < x ∧ x < s.1.2.1 then ((s.1.1, x, s.1.2.2), s.2)
  else s
theorem mt_1 {x : Nat} {p : VF} {s : SSt} (h : x < s.1.1) : mt x p s = ((x, s.1.1, 1), (p, fun u => 2 ^ p u)) := if_pos h
theorem mt_2 {x : Nat} {p : VF} {s : SSt} (h : x = s.1.1) (h2 : x < 1000000) : mt x p s = ((s.1.1, s.1.2.1, s.1.2.2 + 1), (s.2.1, fun u => s.2.2 u ||| 2 ^ p u)) := by
  unfold mt
  rw [if_neg (by omega), if_pos ⟨h, h2⟩]
theorem mt_3 {x : Nat} {p : VF} {s : SSt} (h : s.1.1 < x) (h2 : x < s.1.2.1) : mt x p s = ((s.1.1, x, s.1.2.2), s.2) := by
  unfold mt
  rw [if_neg (by omega), if_neg (by omega), if_pos ⟨h, h2⟩]
theorem mt_0 {x : Nat} {p : VF} {s : SSt} (h1 : ¬ x < s.1.1) (h2 : ¬ (x = s.1.1 ∧ x < 1000000)) (h3 : ¬ (s.1.1 < x ∧ x < s.1.2.1)) : mt x p s = s := by
  unfold mt
  rw [if_neg h1, if_neg h2, if_neg h3]
def s00 : SSt := ((1000000, 1000000, 0), (fun _ => 0, fun _ => 0))
/-- what holds of it -/
def SI (n : Nat) (s : SSt) : Prop := (s.1.2.1 ≤ 1000000 ∧ ((s.1.1 < s.1.2.1 ∧ 1 ≤ s.1.2.2) ∨ (s.1.1 = 1000000 ∧ s.1.2.1 = 1000000 ∧ s.1.2.2 = 0))) ∧ (s.1.1 < 1000000 → ∀ u, u < n → s.2.1 u < 4 ∧ s.2.2 u < 16 ∧ s.2.2 u / 2 ^ s.2.1 u % 2 = 1)
theorem SI_0 (n : Nat) : SI n s00 := ⟨⟨Nat.le_refl _, Or.inr ⟨rfl, rfl, rfl⟩⟩, fun h => absurd h (by decide)⟩
theorem p2_bt (a : Nat) : 2 ^ a / 2 ^ a % 2 = 1 := by rw [Nat.div_self (Nat.two_pow_pos a)]
theorem mt_id {n x : Nat} {p : VF} {s : SSt} (h : SI n s) (hx : s.1.2.1 ≤ x) (hM : x ≤ 1000000) : mt x p s = s := by
  obtain ⟨⟨h1, h2⟩, -⟩ := h
  exact mt_0 (by omega) (by omega) (by omega)
theorem SI_mt {n x : Nat} {p : VF} {s : SSt} (h : SI n s) (hM : x ≤ 1000000) (hp : ∀ u, u < n → p u < 4) : SI n (mt x p s) := by
  have h0 := h
  obtain ⟨⟨h1, h2⟩, h3⟩ := h
  by_cases c1 : x < s.1.1
  · rw [mt_1 c1]
    refine ⟨⟨by show s.1.1 ≤ 1000000; omega, Or.inl ⟨c1, Nat.le_refl 1⟩⟩, fun _ u hu => ⟨hp u hu, p2_4 (by have := hp u hu; omega), p2_bt (p u)⟩⟩
  · by_cases c2 : x = s.1.1 ∧ x < 1000000
    · rw [mt_2 c2.1 c2.2]
      refine ⟨⟨h1, Or.inl ⟨by show s.1.1 < s.1.2.1; omega, by show 1 ≤ s.1.2.2 + 1; omega⟩⟩, fun q u hu => ?_⟩
      obtain ⟨g1, g2, g3⟩ := h3 q u hu
      exact ⟨g1, or_16 g2 (p2_4 (by have := hp u hu; omega)), bt_or.mpr (Or.inl g3)⟩
    · by_cases c3 : s.1.1 < x ∧ x < s.1.2.1
      · rw [mt_3 c3.1 c3.2]
        exact ⟨⟨by show x ≤ 1000000; exact hM, Or.inl ⟨c3.1, by show 1 ≤ s.1.2.2; omega⟩⟩, h3⟩
      · rw [mt_0 c1 c2 c3]; exact h0
theorem mt_ways {x : Nat} {p : VF} {s : SSt} : (mt x p s).1.2.2 ≤ s.1.2.2 + 1 := by
  by_cases c1 : x < s.1.1
  · rw [mt_1 c1]; show 1 ≤ s.1.2.2 + 1; omega
  · by_cases c2 : x = s.1.1 ∧ x < 1000000
    · rw [mt_2 c2.1 c2.2]; exact Nat.le_refl _
    · by_cases c3 : s.1.1 < x ∧ x < s.1.2.1
      · rw [mt_3 c3.1 c3.2]; show s.1.2.2 ≤ s.1.2.2 + 1; omega
      · rw [mt_0 c1 c2 c3]; omega
theorem mt_best {x : Nat} {p : VF} {s : SSt} : (mt x p s).1.1 = if x < s.1.1 then x else s.1.1 := by
  by_cases c1 : x < s.1.1
  · rw [mt_1 c1, if_pos c1]
  · rw [if_neg c1]
    by_cases c2 : x = s.1.1 ∧ x < 1000000
    · rw [mt_2 c2.1 c2.2]
    · by_cases c3 : s.1.1 < x ∧ x < s.1.2.1
      · rw [mt_3 c3.1 c3.2]
      · rw [mt_0 c1 c2 c3]
/-- what a plan costs, by what it takes below -/
theorem pcv_congr {t : TF} {mk p q : VF} {u x : Nat} (hu : p u = q u) : ∀ {v : Nat}, (∀ w, w < v → p w = q w) → pcv t mk p u x v = pcv t mk q u x v
  | 0, _ => rfl
  | v + 1, h => by
    by_cases e : mk u / 2 ^ v % 2 = 1
    · rw [pcv_t e, pcv_t e, pcv_congr hu (fun w hw => h w (by omega)), hu, h v (by omega)]
    · rw [pcv_f e, pcv_f e]; exact pcv_congr hu (fun w hw => h w (by omega))
theorem pcu_congr {c : CF} {t : TF} {mk p q : VF} : ∀ {u : Nat}, (∀ v, v < u → p v = q v) → pcu c t mk p u = pcu c t mk q u
  | 0, _ => rfl
  | u + 1, h => by
    show pcv t mk p u (cap (pcu c t mk p u + c u (p u))) u = pcv t mk q u (cap (pcu c t mk q u + c u (q u))) u
    rw [pcu_congr (fun v hv => h v (by omega)), h u (by omega)]
    exact pcv_congr (h u (by omega)) (fun w hw => h w (by omega))
theorem cap_mono {a b : Nat} (h : a ≤ b) : cap a ≤ cap b := by
  by_cases e : b ≤ 1000000
  · rw [cap_id e, cap_id (by omega)]; exact h
  · rw [cap_big e]; exact cap_le a
theorem pcv_ge {t : TF} {mk p : VF} {u x : Nat} (hx : x ≤ 1000000) : ∀ v, x ≤ pcv t mk p u x v
  | 0 => Nat.le_refl x
  | v + 1 => by
    have ih := pcv_ge (t := t) (mk := mk) (p := p) (u := u) hx v
    by_cases e : mk u / 2 ^ v % 2 = 1
    · rw [pcv_t e]
      have h1 := cap_mono (Nat.le_add_right (pcv t mk p u x v) (t u v (p u) (p v)))
      rw [cap_id (pcv_le hx v)] at h1
      omega
    · rw [pcv_f e]; exact ih
theorem mn_ge {f : Nat → Nat} : ∀ {k i : Nat}, i < k → mn f k ≤ f i
  | 0, i, h => absurd h (Nat.not_lt_zero i)
  | k + 1, i, h => by
    by_cases e : i = k
    · subst e
      by_cases q : f i < mn f i
      · rw [mn_t q]; exact Nat.le_refl _
      · rw [mn_f q]; omega
    · have ih := mn_ge (f := f) (show i < k by omega)
      by_cases q : f k < mn f k
      · rw [mn_t q]; omega
      · rw [mn_f q]; exact ih
/-- the least that the last ones cost -/
def rsN (c : CF) (mm : VF) (n : Nat) : Nat → Nat
  | 0 => 0
  | j + 1 => cap (rsN c mm n j + mn (fun i => c (n - (j + 1)) i) (mm (n - (j + 1))))
theorem rsN_le (c : CF) (mm : VF) (n : Nat) : ∀ j, rsN c mm n j ≤ 1000000
  | 0 => Nat.zero_le _
  | j + 1 => cap_le _
theorem pcu_low {c : CF} {t : TF} {mk : VF} {mm : VF} {n : Nat} {q : VF} (hq : ∀ v, v < n → q v < mm v) : ∀ j, j ≤ n → cap (pcu c t mk q (n - j) + rsN c mm n j) ≤ pcu c t mk q n
  | 0, _ => by rw [Nat.sub_zero]; show cap (pcu c t mk q n + 0) ≤ _; rw [Nat.add_zero, cap_id (pcu_le n)]; exact Nat.le_refl _
  | j + 1, h => by
    have ih := pcu_low (c := c) (t := t) (mk := mk) hq j (by omega)
    have e1 : n - j = (n - (j + 1)) + 1 := by omega
    rw [e1] at ih
    have h1 : cap (pcu c t mk q (n - (j + 1)) + c (n - (j + 1)) (q (n - (j + 1)))) ≤ pcu c t mk q (n - (j + 1) + 1) := pcv_ge (cap_le _) _
    have h2 : mn (fun i => c (n - (j + 1)) i) (mm (n - (j + 1))) ≤ c (n - (j + 1)) (q (n - (j + 1))) := mn_ge (f := fun i => c (n - (j + 1)) i) (hq _ (by omega))
    show cap (pcu c t mk q (n - (j + 1)) + cap (rsN c mm n j + mn (fun i => c (n - (j + 1)) i) (mm (n - (j + 1))))) ≤ _
    refine Nat.le_trans ?_ ih
    have e2 : ∀ a b, cap (a + cap b) = cap (a + b) := fun a b => by rw [Nat.add_comm, cap_add, Nat.add_comm]
    rw [e2]
    have h3 : cap (pcu c t mk q (n - (j + 1)) + (rsN c mm n j + mn (fun i => c (n - (j + 1)) i) (mm (n - (j + 1))))) ≤ cap (cap (pcu c t mk q (n - (j + 1)) + c (n - (j + 1)) (q (n - (j + 1)))) + rsN c mm n j) := by
      rw [cap_add]
      exact cap_mono (by omega)
    exact Nat.le_trans h3 (cap_mono (by omega))
/-- nothing that comes of a beginning is met -/
theorem dfs_id {α : Type} {mm : VF} {f : VF → α → α} {s : α} : ∀ (j u : Nat) (p : VF), (∀ q : VF, (∀ v, v < u → q v = p v) → (∀ v, u ≤ v → v < u + j → q v < mm v) → f q s = s) → dfs mm f j u p s = s
  | 0, u, p, h => h p (fun _ _ => rfl) (fun v h1 h2 => by omega)
  | j + 1, u, p, h => by
    show itr (fun i s => dfs mm f j (u + 1) (uvf p u i) s) (mm u) s = s
    apply itr_id
    intro i hi
    refine dfs_id j (u + 1) (uvf p u i) (fun q h1 h2 => h q (fun v hv => ?_) (fun v g1 g2 => ?_))
    · rw [h1 v (by omega), uvf_ne (by omega)]
    · by_cases e : v = u
      · rw [e, h1 u (by omega), uvf_at]; exact hi
      · exact h2 v (by omega) (by omega)
theorem dfs_inv {α : Type} {mm : VF} {f : VF → α → α} (P : α → Prop) : ∀ (j u : Nat) (p : VF), (∀ (q : VF) (s : α), (∀ v, v < u → q v = p v) → (∀ v, u ≤ v → v < u + j → q v < mm v) → P s → P (f q s)) → ∀ s, P s → P (dfs mm f j u p s)
  | 0, u, p, h, s, hs => h p s (fun _ _ => rfl) (fun v h1 h2 => by omega) hs
  | j + 1, u, p, h, s, hs => by
    show P (itr (fun i s => dfs mm f j (u + 1) (uvf p u i) s) (mm u) s)
    refine itr_inv P (fun i s hi hs => ?_) s hs
    refine dfs_inv P j (u + 1) (uvf p u i) (fun q s h1 h2 hs => h q s (fun v hv => ?_) (fun v g1 g2 => ?_) hs) s hs
    · rw [h1 v (by omega), uvf_ne (by omega)]
    · by_cases e : v = u
      · rw [e, h1 u (by omega), uvf_at]; exact hi
      · exact h2 v (by omega) (by omega)
/-- a beginning that can't be below what is asked -/
theorem prune {c : CF} {t : TF} {mk mm : VF} {n u x nx : Nat} {p q : VF} (hu : u ≤ n) (hx : pcu c t mk p u = cap x) (hn : nx ≤ 1000000) (h : nx ≤ x + rsN c mm n (n - u)) (h1 : ∀ v, v < u → q v = p v) (h2 : ∀ v, v < n → q v < mm v) : nx ≤ pcu c t mk q n := by
  have h3 := pcu_low (c := c) (t := t) (mk := mk) h2 (n - u) (by omega)
  rw [show n - (n - u) = u by omega, pcu_congr h1, hx, cap_add] at h3
  refine Nat.le_trans ?_ h3
  by_cases e : x + rsN c mm n (n - u) ≤ 1000000
  · rw [cap_id e]; exact h
  · rw [cap_big e]; exact hn
/-- all of them, and what is known in the end -/
def fS (c : CF) (t : TF) (mk : VF) (n : Nat) : VF → SSt → SSt := fun p s => mt (pcu c t mk p n) p s
def fB (c : CF) (t : TF) (mk : VF) (n : Nat) : VF → Nat → Nat := fun p b => if pcu c t mk p n < b then pcu c t mk p n else b
def p00 : VF := fun _ => 0
def seaS (c : CF) (t : TF) (mk mm : VF) (n : Nat) : SSt := dfs mm (fS c t mk n) n 0 p00 s00
def seaB (c : CF) (t : TF) (mk mm : VF) (n : Nat) : Nat := dfs mm (fB c t mk n) n 0 p00 1000000
theorem SI_dfs {c : CF} {t : TF} {mk mm : VF} {n : Nat} (h4 : ∀ v, v < n → mm v ≤ 4) {j u : Nat} {p : VF} (hj : u + j = n) (hp : ∀ v, v < u → p v < mm v) {s : SSt} (hs : SI n s) : SI n (dfs mm (fS c t mk n) j u p s) :=
  dfs_inv (SI n) j u p (fun q s h1 h2 hs => SI_mt hs (pcu_le n) (fun v hv => by
    have := h4 v hv
    by_cases e : v < u
    · have := hp v e
      rw [h1 v e]; omega
    · have := h2 v (by omega) (by omega)
      omega)) s hs
theorem SI_sea {c : CF} {t : TF} {mk mm : VF} {n : Nat} (h4 : ∀ v, v < n → mm v ≤ 4) : SI n (seaS c t mk mm n) := SI_dfs h4 (by omega) (fun v hv => absurd hv (Nat.not_lt_zero v)) (SI_0 n)
theorem itr_ways {g : Nat → SSt → SSt} (h : ∀ i s, (g i s).1.2.2 ≤ s.1.2.2 + 1) : ∀ (k : Nat) (s : SSt), (itr g k s).1.2.2 ≤ s.1.2.2 + k
  | 0, _ => Nat.le_refl _
  | k + 1, s => by
    have h1 := h k (itr g k s)
    have h2 := itr_ways h k s
    show (g k (itr g k s)).1.2.2 ≤ _
    omega
theorem sea_itr {c : CF} {t : TF} {mk mm : VF} {n : Nat} : seaS c t mk mm n = itr (fun k s => fS c t mk n (pl mm n 0 p00 k) s) (Wn mm n 0) s00 := dfs_itr mm (fS c t mk n) n 0 p00 s00
theorem sea_ways {c : CF} {t : TF} {mk mm : VF} {n : Nat} (hn : n ≤ 8) (h4 : ∀ v, v < n → mm v ≤ 4) : (seaS c t mk mm n).1.2.2 ≤ 65536 := by
  rw [sea_itr]
  have h1 := itr_ways (g := fun k s => fS c t mk n (pl mm n 0 p00 k) s) (fun i s => mt_ways) (Wn mm n 0) s00
  have h2 : Wn mm n 0 ≤ 4 ^ n := Wn_le (fun v _ h => h4 v (by omega))
  have h3 : 4 ^ n ≤ 4 ^ 8 := Nat.pow_le_pow_right (by decide) hn
  have h5 : (4 : Nat) ^ 8 = 65536 := by decide
  have h6 : s00.1.2.2 = 0 := rfl
  omega
theorem seaB_itr {c : CF} {t : TF} {mk mm : VF} {n : Nat} : seaB c t mk mm n = itr (fun k b => fB c t mk n (pl mm n 0 p00 k) b) (Wn mm n 0) 1000000 := dfs_itr mm (fB c t mk n) n 0 p00 1000000
/-- which of the first n -/
def bsP (P : Nat → Bool) : Nat → Nat
  | 0 => 0
  | u + 1 => if P u = true then bsP P u ||| 2 ^ u else bsP P u
theorem bsP_t {P : Nat → Bool} {u : Nat} (h : P u = true) : bsP P (u + 1) = bsP P u ||| 2 ^ u := if_pos h
theorem bsP_f {P : Nat → Bool} {u : Nat} (h : ¬ P u = true) : bsP P (u + 1) = bsP P u := if_neg h
theorem bsP_bt {P : Nat → Bool} {v : Nat} : ∀ n, bsP P n / 2 ^ v % 2 = 1 ↔ (v < n ∧ P v = true)
  | 0 => by
    show 0 / 2 ^ v % 2 = 1 ↔ _
    rw [Nat.zero_div]
    exact ⟨fun h => absurd h (by decide), fun h => absurd h.1 (Nat.not_lt_zero v)⟩
  | n + 1 => by
    have ih := bsP_bt (P := P) (v := v) n
    by_cases e : P n = true
    · rw [bsP_t e, bt_or, ih]
      constructor
      · rintro (⟨h1, h2⟩ | rfl)
        · exact ⟨by omega, h2⟩
        · exact ⟨Nat.lt_succ_self _, e⟩
      · rintro ⟨h1, h2⟩
        by_cases e2 : n = v
        · exact Or.inr e2
        · exact Or.inl ⟨by omega, h2⟩
    · rw [bsP_f e, ih]
      constructor
      · rintro ⟨h1, h2⟩
        exact ⟨by omega, h2⟩
      · rintro ⟨h1, h2⟩
        refine ⟨?_, h2⟩
        by_cases e2 : v = n
        · rw [e2] at h2; exact absurd h2 e
        · omega
theorem bsP_lt {P : Nat → Bool} : ∀ n, n ≤ 8 → bsP P n < 256
  | 0, _ => by show (0 : Nat) < 256; decide
  | n + 1, h => by
    have := bsP_lt (P := P) n (by omega)
    by_cases e : P n = true
    · rw [bsP_t e]; exact or_256 this (p2_8 (by omega))
    · rw [bsP_f e]; exact this
theorem bsP_congr {P Q : Nat → Bool} {n : Nat} (h : ∀ v, v < n → P v = Q v) : bsP P n = bsP Q n := bt_ext (fun v => by
  rw [bsP_bt, bsP_bt]
  constructor
  · rintro ⟨h1, h2⟩
    exact ⟨h1, by rw [← h v h1]; exact h2⟩
  · rintro ⟨h1, h2⟩
    exact ⟨h1, by rw [h v h1]; exact h2⟩)
theorem bsP_and {P Q : Nat → Bool} {n : Nat} : bsP P n &&& bsP Q n = bsP (fun v => P v && Q v) n := bt_ext (fun v => by
  rw [bt_tb, Nat.testBit_and, Bool.and_eq_true, ← bt_tb, ← bt_tb, bsP_bt, bsP_bt, bsP_bt, Bool.and_eq_true]
  constructor
  · rintro ⟨⟨h1, h2⟩, -, h3⟩
    exact ⟨h1, h2, h3⟩
  · rintro ⟨h1, h2, h3⟩
    exact ⟨⟨h1, h2⟩, h1, h3⟩)
theorem bsP_all {P : Nat → Bool} {n : Nat} (hn : n ≤ 8) (h : ∀ v, v < n → P v = true) : bsP P n = 2 ^ n - 1 := bt_ext (fun v => by
  have hp := p2_le hn
  rw [bsP_bt]
  by_cases hv : v < 8
  · rw [bt_all n hn v hv]
    exact ⟨fun q => q.1, fun q => ⟨q, h v q⟩⟩
  · exact ⟨fun q => by omega, fun q => absurd (bt_lt (by omega) q) hv⟩)
/-- the nodes that have one choice in all of the least -/
def smB (n : Nat) (s : SSt) : Nat := bsP (fun u => s.2.2 u == 2 ^ s.2.1 u) n
theorem or_2 : ∀ a, a < 16 → ∀ f, f < 4 → ∀ p, p < 4 → a / 2 ^ f % 2 = 1 → ((a ||| 2 ^ p) == 2 ^ f) = ((a == 2 ^ f) && (p == f)) := by decide +kernel
theorem one_2 : ∀ a, a < 16 → ∀ f, f < 4 → a / 2 ^ f % 2 = 1 → ((pc a == 1) = (a == 2 ^ f)) := by decide +kernel
theorem smB_1 {n x : Nat} {p : VF} {s : SSt} (hn : n ≤ 8) (h : x < s.1.1) : smB n (mt x p s) = 2 ^ n - 1 := by
  unfold smB
  rw [mt_1 h]
  exact bsP_all hn (fun v _ => by show (2 ^ p v == 2 ^ p v) = true; exact beq_self_eq_true _)
theorem smB_2 {n x : Nat} {p : VF} {s : SSt} (hs : SI n s) (h : x = s.1.1) (h2 : x < 1000000) (hp : ∀ u, u < n → p u < 4) : smB n (mt x p s) = smB n s &&& bsP (fun u => p u == s.2.1 u) n := by
  unfold smB
  rw [mt_2 h h2, bsP_and]
  exact bsP_congr (fun v hv => by
    obtain ⟨g1, g2, g3⟩ := hs.2 (by omega) v hv
    exact or_2 _ g2 _ g1 _ (hp v hv) g3)
theorem smB_3 {n x : Nat} {p : VF} {s : SSt} (h : s.1.1 < x) (h2 : x < s.1.2.1) : smB n (mt x p s) = smB n s := by
  unfold smB
  rw [mt_3 h h2]
/-- the bound from below -/
def bdv (t : TF) (mk mm : VF) (u x : Nat) : Nat → Nat
  | 0 => x
  | v + 1 => if mk u / 2 ^ v % 2 = 1 then cap (bdv t mk mm u x v + mn (fun k => t u v (k / mm v) (k % mm v)) (mm u * mm v)) else bdv t mk mm u x v
def bdu (c : CF) (t : TF) (mk mm : VF) : Nat → Nat
  | 0 => 0
  | u + 1 => bdv t mk mm u (cap (bdu c t mk mm u + mn (fun i => c u i) (mm u))) u
theorem bdv_t {t : TF} {mk mm : VF} {u x v : Nat} (h : mk u / 2 ^ v % 2 = 1) : bdv t mk mm u x (v + 1) = cap (bdv t mk mm u x v + mn (fun k => t u v (k / mm v) (k % mm v)) (mm u * mm v)) := if_pos h
theorem bdv_f {t : TF} {mk mm : VF} {u x v : Nat} (h : ¬ mk u / 2 ^ v % 2 = 1) : bdv t mk mm u x (v + 1) = bdv t mk mm u x v := if_neg h
theorem bdv_le {t : TF} {mk mm : VF} {u x : Nat} (hx : x ≤ 1000000) : ∀ v, bdv t mk mm u x v ≤ 1000000
  | 0 => hx
  | v + 1 => by
    by_cases e : mk u / 2 ^ v % 2 = 1
    · rw [bdv_t e]; exact cap_le _
    · rw [bdv_f e]; exact bdv_le hx v
theorem bdu_le {c : CF} {t : TF} {mk mm : VF} : ∀ u, bdu c t mk mm u ≤ 1000000
  | 0 => Nat.zero_le _
  | u + 1 => bdv_le (cap_le _) u
/-- one choice of one node alone -/
def c1o (c : CF) (u i : Nat) : CF := fun v j => if v = u ∧ ¬ j = i then 1000000 else c v j
theorem c1o_le {c : CF} {u i : Nat} (h : ∀ a b, c a b ≤ 1000000) (a b : Nat) : c1o c u i a b ≤ 1000000 := by
  unfold c1o
  split
  · omega
  · exact h a b
theorem pcu_c1 {c : CF} {t : TF} {mk p : VF} {u i : Nat} (hp : p u = i) : ∀ n, pcu (c1o c u i) t mk p n = pcu c t mk p n
  | 0 => rfl
  | n + 1 => by
    show pcv t mk p n (cap (pcu (c1o c u i) t mk p n + c1o c u i n (p n))) n = pcv t mk p n (cap (pcu c t mk p n + c n (p n))) n
    rw [pcu_c1 hp n, show c1o c u i n (p n) = c n (p n) from if_neg (fun q => q.2 (by rw [q.1]; exact hp))]
theorem pcu_mono {c : CF} {t : TF} {mk p : VF} : ∀ {n u : Nat}, u ≤ n → pcu c t mk p u ≤ pcu c t mk p n
  | 0, u, h => by rw [show u = 0 by omega]; exact Nat.le_refl _
  | n + 1, u, h => by
    by_cases e : u = n + 1
    · rw [e]; exact Nat.le_refl _
    · refine Nat.le_trans (pcu_mono (show u ≤ n by omega)) ?_
      have h1 : cap (pcu c t mk p n + c n (p n)) ≤ pcu c t mk p (n + 1) := pcv_ge (cap_le _) n
      have h2 := cap_mono (Nat.le_add_right (pcu c t mk p n) (c n (p n)))
      rw [cap_id (pcu_le n)] at h2
      omega
theorem pcu_c1n {c : CF} {t : TF} {mk p : VF} {u i n : Nat} (hu : u < n) (hp : ¬ p u = i) : pcu (c1o c u i) t mk p n = 1000000 := by
  have h1 : cap (pcu (c1o c u i) t mk p u + c1o c u i u (p u)) ≤ pcu (c1o c u i) t mk p (u + 1) := pcv_ge (cap_le _) u
  have h2 : c1o c u i u (p u) = 1000000 := if_pos ⟨rfl, hp⟩
  have h3 := pcu_mono (c := c1o c u i) (t := t) (mk := mk) (p := p) (show u + 1 ≤ n by omega)
  have h4 := pcu_le (c := c1o c u i) (t := t) (mk := mk) (tk := p) n
  rw [h2] at h1
  have h5 : cap (pcu (c1o c u i) t mk p u + 1000000) = 1000000 := by
    by_cases e : pcu (c1o c u i) t mk p u + 1000000 ≤ 1000000
    · rw [cap_id e]; omega
    · exact cap_big e
  omega
/-- those alone that take it, by all; and with what else costs too much -/
def fW (c : CF) (t : TF) (mk : VF) (n u i : Nat) : VF → SSt → SSt := fun p s => if p u = i then mt (pcu c t mk p n) p s else s
theorem fW_best {c : CF} {t : TF} {mk : VF} {n u i : Nat} (hu : u < n) (g : Nat → VF) : ∀ (k : Nat) (s : SSt) (b : Nat), b ≤ 1000000 → s.1.1 = b → (itr (fun k s => fW c t mk n u i (g k) s) k s).1.1 = itr (fun k b => fB (c1o c u i) t mk n (g k) b) k b ∧ itr (fun k b => fB (c1o c u i) t mk n (g k) b) k b ≤ 1000000
  | 0, _, _, hb, h => ⟨h, hb⟩
  | k + 1, s, b, hb, h => by
    obtain ⟨ih, ih2⟩ := fW_best hu g k s b hb h
    show (fW c t mk n u i (g k) (itr _ k s)).1.1 = fB (c1o c u i) t mk n (g k) (itr _ k b) ∧ fB (c1o c u i) t mk n (g k) (itr _ k b) ≤ 1000000
    unfold fW
    unfold fB
    by_cases e : g k u = i
    · rw [if_pos e, mt_best, pcu_c1 e]
      unfold fW at ih
      unfold fB at ih ih2
      rw [ih]
      refine ⟨rfl, ?_⟩
      split <;> omega
    · rw [if_neg e, pcu_c1n hu e]
      unfold fW at ih
      unfold fB at ih ih2
      rw [ih, if_neg (by omega)]
      exact ⟨rfl, ih2⟩
def seaW (c : CF) (t : TF) (mk mm : VF) (n u i : Nat) : SSt := itr (fun k s => fW c t mk n u i (pl mm n 0 p00 k) s) (Wn mm n 0) s00
theorem seaW_best {c : CF} {t : TF} {mk mm : VF} {n u i : Nat} (hu : u < n) : (seaW c t mk mm n u i).1.1 = seaB (c1o c u i) t mk mm n := by
  rw [seaB_itr]
  exact (fW_best hu (pl mm n 0 p00) (Wn mm n 0) s00 1000000 (Nat.le_refl _) rfl).1
/-! the answers -/
def srS (n : Nat) (mm : VF) (row : Nat → Int32) : SSt := seaS (c0 n mm row) (t0 n mm row) (mk0 n row) mm n
def lsN (n : Nat) (mm : VF) (row : Nat → Int32) (k : Nat) : Int32 :=
  if k = 0 then nI (srS n mm row).1.1 else if k = 1 then nI (srS n mm row).1.2.2 else if k = 2 then (if (srS n mm row).1.2.2 = 0 then -4 else nI (smB n (srS n mm row))) else if k = 3 then (if (srS n mm row).1.2.1 = 1000000 then -4 else nI (srS n mm row).1.2.1) else nI (bdu (c0 n mm row) (t0 n mm row) (mk0 n row) mm n)
def lsAns (n : Nat) (mm : VF) (row : Nat → Int32) (x : Int32) : Int32 := if nI 0 ≤ x ∧ x ≤ nI 4 then lsN n mm row x.toNatClampNeg else -1
theorem lsAns_n {n : Nat} {mm : VF} {row : Nat → Int32} {x : Int32} (h : ¬ (nI 0 ≤ x ∧ x ≤ nI 4)) : lsAns n mm row x = -1 := if_neg h
theorem lsAns_k {n : Nat} {mm : VF} {row : Nat → Int32} {k : Nat} (h : k ≤ 4) : lsAns n mm row (nI k) = lsN n mm row k := by
  unfold lsAns
  rw [if_pos ⟨nI_le (by omega) (by omega), nI_le (by omega) (by omega)⟩, nI_clamp (by omega)]
theorem in04 {x : Int32} (h : nI 0 ≤ x ∧ x ≤ nI 4) : ∃ k, k ≤ 4 ∧ x = nI k := by
  obtain ⟨h1, h2⟩ := h
  rw [Int32.le_iff_toInt_le, nI_toInt (by decide)] at h1 h2
  obtain ⟨j, hj, e⟩ := nI_of (x := x) (by rw [Int32.lt_iff_toInt_lt, Int32.toInt_zero]; omega)
  refine ⟨j, ?_, e⟩
  rw [e, nI_toInt hj] at h2
  omega
def ftAns (n : Nat) (mm : VF) (row : Nat → Int32) (x1 : Int32) : Int32 := match ndO n x1 with
  | none => -1
  | some u => if (srS n mm row).1.2.2 = 0 then -4 else nI ((srS n mm row).2.1 u)
theorem ftAns_n {n : Nat} {mm : VF} {row : Nat → Int32} {x1 : Int32} (h : ndO n x1 = none) : ftAns n mm row x1 = -1 := by unfold ftAns; rw [h]
theorem ftAns_i {n : Nat} {mm : VF} {row : Nat → Int32} {x1 : Int32} {u : Nat} (h : ndO n x1 = some u) : ftAns n mm row x1 = if (srS n mm row).1.2.2 = 0 then -4 else nI ((srS n mm row).2.1 u) := by unfold ftAns; rw [h]
def wtAns (n : Nat) (mm : VF) (row : Nat → Int32) (x1 x2 : Int32) : Int32 := match chO n mm x1 x2 with
  | none => -1
  | some p => nI (seaB (c1o (c0 n mm row) p.1 p.2) (t0 n mm row) (mk0 n row) mm n)
theorem wtAns_n {n : Nat} {mm : VF} {row : Nat → Int32} {x1 x2 : Int32} (h : chO n mm x1 x2 = none) : wtAns n mm row x1 x2 = -1 := by unfold wtAns; rw [h]
theorem wtAns_s {n : Nat} {mm : VF} {row : Nat → Int32} {x1 x2 : Int32} {u i : Nat} (h : chO n mm x1 x2 = some (u, i)) : wtAns n mm row x1 x2 = nI (seaB (c1o (c0 n mm row) u i) (t0 n mm row) (mk0 n row) mm n) := by unfold wtAns; rw [h]
