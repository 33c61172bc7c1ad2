/-! the class: graphs under acts; graph, past and kept against rows -/
theorem upd_comm {f : Nat → Int32} {u v : Nat} (h : u ≠ v) (x y : Int32) : upd (upd f u x) v y = upd (upd f v y) u x := by
  funext k
  by_cases e1 : k = v
  · subst e1
    rw [pk_us, pk_un (Ne.symm h), pk_us]
  · rw [pk_un e1]
    by_cases e2 : k = u
    · subst e2
      rw [pk_us, pk_us]
    · rw [pk_un e2, pk_un e2, pk_un e1]
section GA
variable {F A : mj_S} {o n : Nat} {mm : Nat → Nat} {row : Nat → Int32}
theorem tdd_set {k : Nat} {y : Int32} (hy : 0 < y) (hr : 0 < row k) (a b : Nat) : tdd (upd row k y) a b = tdd row a b := by
  unfold tdd
  by_cases e : eA a b 0 0 = k
  · rw [e, pk_us]
    simp only [hy, hr]
  · rw [pk_un e]
/-- an entry of a table that is there -/
theorem GR.ent {a b i j : Nat} (h : GR F A o n mm row) (hab : a < b) (hb : b < n) (hi : i < mm a) (hj : j < mm b) (hr : 0 < row (eA a b i j)) {x y : Int32} (hxy : y = x + 1) (hy : 0 < y) : GR F (mj_u A (o + 6) (eP a b i j) x) o n mm (upd row (eA a b i j) y) := by
  have h8 := h.1.1.2
  have ba := (h.1.2 a (by omega)).1
  have bb := (h.1.2 b hb).1
  refine ⟨h.1.high (eA_ge _ _ _ _) _ (fun q g1 g2 g3 => mj_u_ne A _ (by omega)), fun w hw => ?_, fun u v i' j' g1 g2 g3 g4 g5 => ?_⟩
  · rw [mj_u_ne A _ (by omega), mkB_congr (row := upd row (eA a b i j) y) (row' := row) (fun v _ => tdd_set hy hr w v)]
    exact h.2.1 w hw
  · have bu := (h.1.2 u (by omega)).1
    have bv := (h.1.2 v g2).1
    by_cases e : eA u v i' j' = eA a b i j
    · obtain ⟨rfl, rfl, rfl, rfl⟩ := eA_inj g1 (by omega) hab (by omega) (by omega) (by omega) (by omega) (by omega) e
      rw [pk_us, mj_u_at, pk_us]
      exact hxy
    · have e2 : eP u v i' j' ≠ eP a b i j := fun q => e (by rw [eA_eP, eA_eP, q])
      have g5' : 0 < row (eA u v 0 0) := by
        by_cases e3 : eA u v 0 0 = eA a b i j
        · rw [e3]; exact hr
        · rw [pk_un e3] at g5; exact g5
      rw [pk_un e, mj_u_at, pk_un e2]
      exact h.2.2 u v i' j' g1 g2 g3 g4 g5'
/-- the same, told by two nodes in any order -/
theorem GR.ent2 {u v i j : Nat} (h : GR F A o n mm row) (huv : u ≠ v) (hu : u < n) (hv : v < n) (hi : i < mm u) (hj : j < mm v) (hr : 0 < row (eA u v i j)) {x y : Int32} (hxy : y = x + 1) (hy : 0 < y) : GR F (mj_u A (o + 6) (eP u v i j) x) o n mm (upd row (eA u v i j) y) := by
  by_cases hl : u < v
  · exact h.ent hl hv hi hj hr hxy hy
  · rw [eA_sym i j huv] at hr ⊢
    rw [eP_sym i j huv]
    exact h.ent (by omega) hu hj hi hr hxy hy
theorem GR.one {a b : Nat} {A' : mj_S} (h : GR F A o n mm row) (hab : a < b) (hb : b < n) (h1a : 1 ≤ mm a) (h1b : 1 ≤ mm b) (h0 : tdd row a b = 0) (h6 : ∀ j, A' (o + 6) j = if eP a b 0 0 ≤ j ∧ j < eP a b 0 0 + 16 then 0 else A (o + 6) j) (h4 : A' (o + 4) = upd (upd (A (o + 4)) a (A (o + 4) a ||| (nI 1 <<< (nI b &&& 31)))) b (A (o + 4) b ||| (nI 1 <<< (nI a &&& 31)))) (hfr : ∀ i, 1 ≤ i → i ≤ 5 → i ≠ 4 → A' (o + i) = A (o + i)) : GR F A' o n mm (oneR mm row a b) := by
  have h8 := h.1.1.2
  have ba := (h.1.2 a (by omega)).1
  have bb := (h.1.2 b hb).1
  have hT := h.join hab hb h6 hfr
  refine GT.fin (row0 := row) ⟨⟨hT.1.1, fun w hw => ?_⟩, fun u v i j g1 g2 g3 g4 g5 g6 => ?_, fun i j g1 g2 _ => ?_⟩ hab hb ?_ h0 (fun u v g1 g2 g3 => oneR_ne hab (by omega) g1 g2 g3 (by omega) (by omega)) (h.join2 hab hb h0 h4)
  · obtain ⟨k0, k1, k2, k3, k4⟩ := hT.1.2 w hw
    exact ⟨k0, k1, by rw [oneR_low (by omega)]; exact k2, by rw [oneR_low (by omega)]; exact k3, fun i hi => by rw [oneR_low (by omega)]; exact k4 i hi⟩
  · have bu := (h.1.2 u (by omega)).1
    have bv := (h.1.2 v g2).1
    rw [oneR_ne hab (by omega) g1 (by omega) g5 (by omega) (by omega)] at g6
    rw [oneR_ne hab (by omega) g1 (by omega) g5 (by omega) (by omega)]
    exact hT.2.1 u v i j g1 g2 g3 g4 g5 g6
  · rw [oneR_at hab g1 g2 (by omega) (by omega), h6, if_pos]
    · decide
    · unfold eP
      rw [if_pos hab, if_pos hab]
      omega
  · rw [oneR_at hab h1a h1b (by omega) (by omega)]; decide
theorem GR.loo {a b : Nat} {A' : mj_S} (h : GR F A o n mm row) (hab : a < b) (hb : b < n) (ht : 0 < row (eA a b 0 0)) (h4 : A' (o + 4) = upd (upd (A (o + 4)) a (A (o + 4) a &&& ((nI 1 <<< (nI b &&& 31)) ^^^ (-1)))) b (A (o + 4) b &&& ((nI 1 <<< (nI a &&& 31)) ^^^ (-1)))) (hfr : ∀ i, 1 ≤ i → i ≤ 6 → i ≠ 4 → A' (o + i) = A (o + i)) : GR F A' o n mm (looR row a b) := by
  have h8 := h.1.1.2
  have hs : ∀ u v, u < v → v < 8 → (u ≠ a ∨ v ≠ b) → row (eA u v 0 0) = looR row a b (eA u v 0 0) := fun u v g1 g2 g3 => (looR_ne hab (by omega) g1 g2 g3 (by omega) (by omega)).symm
  have t1 : tdd row a b = 1 := tdd_1 (by omega) ht
  have t0 : tdd (looR row a b) a b = 0 := tdd_0 (by rw [looR_at hab (by omega) (by omega)]; decide)
  refine ⟨⟨h.1.1, fun w hw => ?_⟩, fun w hw => ?_, fun u v i j g1 g2 g3 g4 g5 => ?_⟩
  · obtain ⟨k0, k1, k2, k3, k4⟩ := h.1.2 w hw
    rw [hfr 1 (by omega) (by omega) (by omega), hfr 2 (by omega) (by omega) (by omega), hfr 3 (by omega) (by omega) (by omega), hfr 5 (by omega) (by omega) (by omega), looR_low (by omega), looR_low (by omega)]
    exact ⟨k0, k1, k2, k3, fun i hi => by rw [looR_low (by omega)]; exact k4 i hi⟩
  · rw [h4]
    by_cases e : w = b
    · subst e
      have m := mkB_add (row := looR row a w) (row' := row) (u := w) (w := a) (by omega) (fun v hv hne => tdd_hs hs (by omega) hv (by omega) (Or.inr hne)) (by rw [tdd_sym]; exact t0) (by rw [tdd_sym]; exact t1)
      rw [pk_us, h.2.1 w hw, bit_clr _ (mkB_lt _ _) a (by omega) (by rw [mkB_bit _ _ (by omega), tdd_sym]; exact t1), m, Nat.add_sub_cancel]
    · rw [pk_un e]
      by_cases e2 : w = a
      · subst e2
        have m := mkB_add (row := looR row w b) (row' := row) (u := w) (w := b) (by omega) (fun v hv hne => tdd_hs hs (by omega) hv (Or.inr hne) (by omega)) t0 t1
        rw [pk_us, h.2.1 w hw, bit_clr _ (mkB_lt _ _) b (by omega) (by rw [mkB_bit _ _ (by omega)]; exact t1), m, Nat.add_sub_cancel]
      · rw [pk_un e2, h.2.1 w hw, mkB_congr (row := row) (row' := looR row a b) (fun v hv => tdd_hs hs (by omega) hv (Or.inl e2) (Or.inl e))]
  · have bu := (h.1.2 u (by omega)).1
    have bv := (h.1.2 v g2).1
    rw [hfr 6 (by omega) (by omega) (by omega)]
    by_cases e : u = a ∧ v = b
    · obtain ⟨rfl, rfl⟩ := e
      rw [looR_at hab (by omega) (by omega)] at g5
      exact absurd g5 (by decide)
    · rw [looR_ne hab (by omega) g1 (by omega) (by omega) (by omega) (by omega)] at g5
      rw [looR_ne hab (by omega) g1 (by omega) (by omega) (by omega) (by omega)]
      exact h.2.2 u v i j g1 g2 g3 g4 g5
end GA
/-- a graph of the past -/
def isP (o : Nat) : Prop := ∃ g, 2 ≤ g ∧ g ≤ 9 ∧ o = 33 + 7 * g
theorem isP.g {o : Nat} (h : isP o) : isG o := by obtain ⟨g, h1, h2, rfl⟩ := h; exact ⟨g, by omega, rfl⟩
theorem isP.ge {o : Nat} (h : isP o) : 47 ≤ o ∧ o ≤ 96 := by obtain ⟨g, h1, h2, rfl⟩ := h; omega
theorem g103 {k : Nat} (hk : k < 2) : isG (103 + 7 * k) := ⟨10 + k, by omega, by omega⟩
def CS (F A : mj_S) (n : Nat) (mm : Nat → Nat) (row : Nat → Int32) (un : Nat) (P : Nat → Nat → Int32) (kn : Nat) (K : Nat → Nat → Int32) : Prop :=
  (GR F A 33 n mm row ∧ F 0 6 = nI un ∧ un ≤ 8 ∧ F 0 8 = nI kn ∧ kn ≤ 2) ∧ (∃ p : Nat → Nat, (∀ k, k < 8 → isP (p k) ∧ A 3 k = nI (p k)) ∧ (∀ i j, i < 8 → j < 8 → p i = p j → i = j) ∧ ∀ k, k < un → GR F A (p k) n mm (P k)) ∧ (A 4 0 = nI 103 ∧ A 4 1 = nI 110) ∧ ∀ k, k < kn → GR F A (103 + 7 * k) n mm (K k)
theorem pF_G {k : Nat} (h1 : 33 ≤ k) (h2 : k ≠ 40) : pF k 0 = true := by
  have a : decide (33 ≤ k) = true := decide_eq_true h1
  have b : (k == 40) = false := beq_eq_false_iff_ne.mpr h2
  unfold pF
  rw [a, b]
  simp
section CSL
variable {F A : mj_S} {n : Nat} {mm : Nat → Nat} {row : Nat → Int32} {un : Nat} {P : Nat → Nat → Int32} {kn : Nat} {K : Nat → Nat → Int32}
theorem CS.gr (h : CS F A n mm row un P kn K) : GR F A 33 n mm row := h.1.1
/-- what CS looks at stands -/
theorem CS.off (h : CS F A n mm row un P kn K) {F' A' : mj_S} (h6 : F' 0 6 = F 0 6) (h8 : F' 0 8 = F 0 8) (h3 : A' 3 = A 3) (h4 : A' 4 = A 4) (hF : ∀ o, isG o → o ≠ 40 → F' o 0 = F o 0) (hA : ∀ k, 33 ≤ k → ¬ (40 ≤ k ∧ k ≤ 46) → A' k = A k) : CS F' A' n mm row un P kn K := by
  obtain ⟨⟨g, e6, u8, e8, k2⟩, ⟨p, hp, hi, hP⟩, h40, hK⟩ := h
  refine ⟨⟨g.off (hF 33 g33 (by decide)) (fun i h1 h2 => hA _ (by omega) (by omega)), h6.trans e6, u8, h8.trans e8, k2⟩, ⟨p, fun k hk => ⟨(hp k hk).1, by rw [h3]; exact (hp k hk).2⟩, hi, fun k hk => ?_⟩, by rw [h4]; exact h40, fun k hk => ?_⟩
  · have := (hp k (by omega)).1.ge
    exact (hP k hk).off (hF _ (hp k (by omega)).1.g (by omega)) (fun i h1 h2 => hA _ (by omega) (by omega))
  · exact (hK k hk).off (hF _ (g103 (by omega)) (by omega)) (fun i h1 h2 => hA _ (by omega) (by omega))
theorem CS.pg {F0 A0 : mj_S} {t : Nat} (h : CS F0 A0 n mm row un P kn K) (hp : PG (t, F0, A0) F A) : CS F A n mm row un P kn K := h.off (hp.1 0 6 rfl) (hp.1 0 8 rfl) (hp.2 3 rfl) (hp.2 4 rfl) (fun o ho h40 => hp.1 o 0 (pF_G (by obtain ⟨g, hg, rfl⟩ := ho; omega) h40)) (fun k h1 h2 => hp.2 k (by
    simp only [pA, Bool.or_eq_true, Bool.and_eq_true, beq_iff_eq, decide_eq_true_eq, Bool.not_eq_true', Bool.and_eq_false_iff, decide_eq_false_iff_not]
    omega))
theorem CS.f (h : CS F A n mm row un P kn K) {s : Nat} (h6 : s ≠ 6) (h8 : s ≠ 8) (x : Int32) : CS (mj_u F 0 s x) A n mm row un P kn K := h.off (mj_u_off x (by omega)) (mj_u_off x (by omega)) rfl rfl (fun o ho _ => mj_u_off x (Or.inl (Ne.symm (g_ne0 ho)))) (fun _ _ _ => rfl)
/-- the standing graph alone is another -/
theorem CS.set (h : CS F A n mm row un P kn K) {A' : mj_S} {row' : Nat → Int32} (hA : ∀ k, (k < 33 ∨ 39 < k) → A' k = A k) (hG : GR F A' 33 n mm row') : CS F A' n mm row' un P kn K := by
  obtain ⟨⟨g, e6, u8, e8, k2⟩, ⟨p, hp, hi, hP⟩, h40, hK⟩ := h
  refine ⟨⟨hG, e6, u8, e8, k2⟩, ⟨p, fun k hk => ⟨(hp k hk).1, by rw [hA 3 (by omega)]; exact (hp k hk).2⟩, hi, fun k hk => ?_⟩, by rw [hA 4 (by omega)]; exact h40, fun k hk => ?_⟩
  · have := (hp k (by omega)).1.ge
    exact (hP k hk).off rfl (fun i h1 h2 => hA _ (by omega))
  · exact (hK k hk).off rfl (fun i h1 h2 => hA _ (by omega))
theorem cpA_off {A : mj_S} {o o2 k : Nat} (h : ∀ i, i ≤ 6 → k ≠ o + i) : cpA A o o2 k = A k := cpA_ne A (fun i _ h2 => h i h2)
theorem nI_g {o o' : Nat} (h : isG o) (h' : isG o') (e : nI o = nI o') : o = o' := (nI_eq (g_31 h) (g_31 h')).mp e
/-- one more of the past -/
theorem CS.push (h : CS F A n mm row un P kn K) (hu : un < 8) {o : Nat} (ho : isG o) (e : A 3 un = nI o) : CS (mj_u (mj_u F o 0 (F 33 0)) 0 6 (nI (un + 1))) (cpA A o 33) n mm row (un + 1) (fun k => if k = un then row else P k) kn K := by
  obtain ⟨⟨g, e6, u8, e8, k2⟩, ⟨p, hp, hi, hP⟩, h40, hK⟩ := h
  obtain rfl : o = p un := nI_g ho (hp un hu).1.g (e.symm.trans (hp un hu).2)
  have hge := (hp un hu).1.ge
  have hF : ∀ q, isG q → q ≠ p un → mj_u (mj_u F (p un) 0 (F 33 0)) 0 6 (nI (un + 1)) q 0 = F q 0 := fun q hq hne => by
    rw [mj_u_off _ (Or.inl (Ne.symm (g_ne0 hq))), mj_u_off _ (Or.inl hne)]
  have hA : ∀ q, isG q → q ≠ p un → ∀ i, 1 ≤ i → i ≤ 6 → cpA A (p un) 33 (q + i) = A (q + i) := fun q hq hne i h1 h2 => cpA_off (fun j hj => isG_ne ho hq (Ne.symm hne) (by omega) hj)
  have hlow : ∀ k, k < 47 → cpA A (p un) 33 k = A k := fun k hk => cpA_off (fun j hj => by omega)
  refine ⟨⟨g.off (hF 33 g33 (by omega)) (hA 33 g33 (by omega)), by rw [mj_u_on], by omega, ?_, k2⟩, ⟨p, fun k hk => ⟨(hp k hk).1, by rw [hlow 3 (by omega)]; exact (hp k hk).2⟩, hi, fun k hk => ?_⟩, by rw [hlow 4 (by omega)]; exact h40, fun k hk => ?_⟩
  · rw [mj_u_off _ (Or.inr (by decide)), mj_u_off _ (Or.inl (by omega))]; exact e8
  · by_cases ek : k = un
    · subst ek
      simp only [if_true]
      exact (g.copy ho g33 (by omega)).off (mj_u_off _ (Or.inl (Ne.symm (g_ne0 ho)))) (fun _ _ _ => rfl)
    · simp only [if_neg ek]
      have hne : p k ≠ p un := fun q => ek (hi k un (by omega) hu q)
      exact (hP k (by omega)).off (hF _ (hp k (by omega)).1.g hne) (hA _ (hp k (by omega)).1.g hne)
  · exact (hK k hk).off (hF _ (g103 (by omega)) (by omega)) (hA _ (g103 (by omega)) (by omega))
/-- the oldest is dropped -/
theorem CS.drop (h : CS F A n mm row 8 P kn K) {A' : mj_S} (hA : ∀ k, k ≠ 3 → A' k = A k) (h3 : ∀ j, j < 7 → A' 3 j = A 3 (j + 1)) (h7 : A' 3 7 = A 3 0) : CS (mj_u F 0 6 (nI 7)) A' n mm row 7 (fun k => P (k + 1)) kn K := by
  obtain ⟨⟨g, e6, u8, e8, k2⟩, ⟨p, hp, hi, hP⟩, h40, hK⟩ := h
  have hF : ∀ q, isG q → mj_u F 0 6 (nI 7) q 0 = F q 0 := fun q hq => mj_u_off _ (Or.inl (Ne.symm (g_ne0 hq)))
  refine ⟨⟨g.off (hF 33 g33) (fun i _ _ => hA _ (by omega)), mj_u_on _ _ _ _, by omega, ?_, k2⟩, ⟨fun k => if k < 7 then p (k + 1) else p 0, fun k hk => ?_, fun i j hi8 hj8 e => ?_, fun k hk => ?_⟩, by rw [hA 4 (by omega)]; exact h40, fun k hk => ?_⟩
  · rw [mj_u_off _ (Or.inr (by decide))]; exact e8
  · by_cases e : k < 7
    · simp only [if_pos e]
      exact ⟨(hp _ (by omega)).1, by rw [h3 k e]; exact (hp _ (by omega)).2⟩
    · obtain rfl : k = 7 := by omega
      simp only [if_neg e]
      exact ⟨(hp 0 (by omega)).1, by rw [h7]; exact (hp 0 (by omega)).2⟩
  · simp only at e
    by_cases e1 : i < 7
    · rw [if_pos e1] at e
      by_cases e2 : j < 7
      · rw [if_pos e2] at e
        have := hi _ _ (by omega) (by omega) e
        omega
      · rw [if_neg e2] at e
        have := hi _ _ (by omega) (by omega) e
        omega
    · rw [if_neg e1] at e
      by_cases e2 : j < 7
      · rw [if_pos e2] at e
        have := hi _ _ (by omega) (by omega) e
        omega
      · omega
  · simp only [if_pos hk]
    have := (hp (k + 1) (by omega)).1.ge
    exact (hP (k + 1) (by omega)).off (hF _ (hp _ (by omega)).1.g) (fun i _ _ => hA _ (by omega))
  · exact (hK k hk).off (hF _ (g103 (by omega))) (fun i _ _ => hA _ (by omega))
/-- the standing graph is copied from one of the others -/
theorem CS.from (h : CS F A n mm row un P kn K) {o : Nat} (ho : isG o) (h33 : 33 ≠ o) {n' : Nat} {mm' : Nat → Nat} {row' : Nat → Int32} (g : GR F A o n' mm' row') {un' : Nat} (hun : un' ≤ un) {kn' : Nat} (hkn : kn' ≤ kn) (hn : n' = n ∧ mm' = mm ∨ un' = 0 ∧ kn' = 0) {F' : mj_S} (f6 : F' 0 6 = nI un') (f8 : F' 0 8 = nI kn') (hF : ∀ q, isG q → F' q 0 = mj_u F 33 0 (F o 0) q 0) : CS F' (cpA A 33 o) n' mm' row' un' P kn' K := by
  obtain ⟨⟨g0, e6, u8, e8, k2⟩, ⟨p, hp, hi, hP⟩, h40, hK⟩ := h
  have hlow : ∀ k, k < 33 ∨ 39 < k → cpA A 33 o k = A k := fun k hk => cpA_off (fun j hj => by omega)
  refine ⟨⟨(g.copy g33 ho h33).off (hF 33 g33) (fun _ _ _ => rfl), f6, by omega, f8, by omega⟩, ⟨p, fun k hk => ⟨(hp k hk).1, by rw [hlow 3 (by omega)]; exact (hp k hk).2⟩, hi, fun k hk => ?_⟩, by rw [hlow 4 (by omega)]; exact h40, fun k hk => ?_⟩
  · obtain ⟨rfl, rfl⟩ := hn.resolve_right (by omega)
    have := (hp k (by omega)).1.ge
    exact (hP k (by omega)).off (by rw [hF _ (hp k (by omega)).1.g, mj_u_off _ (Or.inl (by omega))]) (fun i _ _ => hlow _ (by omega))
  · obtain ⟨rfl, rfl⟩ := hn.resolve_right (by omega)
    exact (hK k (by omega)).off (by rw [hF _ (g103 (by omega)), mj_u_off _ (Or.inl (by omega))]) (fun i _ _ => hlow _ (by omega))
/-- one more is kept -/
theorem CS.keep (h : CS F A n mm row un P kn K) (hk : kn < 2) : CS (mj_u (mj_u F (103 + 7 * kn) 0 (F 33 0)) 0 8 (nI (kn + 1))) (cpA A (103 + 7 * kn) 33) n mm row un P (kn + 1) (fun k => if k = kn then row else K k) := by
  obtain ⟨⟨g, e6, u8, e8, k2⟩, ⟨p, hp, hi, hP⟩, h40, hK⟩ := h
  have hlow : ∀ k, k < 103 + 7 * kn ∨ 109 + 7 * kn < k → cpA A (103 + 7 * kn) 33 k = A k := fun k hk => cpA_off (fun j hj => by omega)
  have hF : ∀ q, isG q → q ≠ 103 + 7 * kn → mj_u (mj_u F (103 + 7 * kn) 0 (F 33 0)) 0 8 (nI (kn + 1)) q 0 = F q 0 := fun q hq hne => by
    rw [mj_u_off _ (Or.inl (Ne.symm (g_ne0 hq))), mj_u_off _ (Or.inl hne)]
  refine ⟨⟨g.off (hF 33 g33 (by omega)) (fun i _ _ => hlow _ (by omega)), ?_, u8, by rw [mj_u_on], by omega⟩, ⟨p, fun k hk => ⟨(hp k hk).1, by rw [hlow 3 (by omega)]; exact (hp k hk).2⟩, hi, fun k hk => ?_⟩, by rw [hlow 4 (by omega)]; exact h40, fun k hk => ?_⟩
  · rw [mj_u_off _ (Or.inr (by decide)), mj_u_off _ (Or.inl (by omega))]; exact e6
  · have := (hp k (by omega)).1.ge
    exact (hP k hk).off (hF _ (hp k (by omega)).1.g (by omega)) (fun i _ _ => hlow _ (by omega))
  · by_cases e : k = kn
    · subst e
      simp only [if_true]
      exact (g.copy (g103 (by omega)) g33 (by omega)).off (mj_u_off _ (Or.inl (by omega))) (fun _ _ _ => rfl)
    · simp only [if_neg e]
      exact (hK k (by omega)).off (hF _ (g103 (by omega)) (by omega)) (fun i _ _ => hlow _ (by omega))
end CSL
/-- the state after an act -/
def CSo (F A : mj_S) (n : Nat) (mm : Nat → Nat) (row : Nat → Int32) (un : Nat) (P : Nat → Nat → Int32) (kn : Nat) (K : Nat → Nat → Int32) : Option (Nat → Int32) → Prop
  | none => CS F A n mm row un P kn K
  | some row' => CS F A n mm row' (pushN un) (pushP un P row) kn K
section CSM
variable {F A : mj_S} {n : Nat} {mm : Nat → Nat} {row : Nat → Int32} {un : Nat} {P : Nat → Nat → Int32} {kn : Nat} {K : Nat → Nat → Int32}
theorem CS.undo (h : CS F A n mm row un P kn K) (hu : 0 < un) {o : Nat} (ho : isG o) (e : A 3 (un - 1) = nI o) : CS (mj_u (mj_u F 0 6 (nI (un - 1))) 33 0 (mj_u F 0 6 (nI (un - 1)) o 0)) (cpA A 33 o) n mm (P (un - 1)) (un - 1) P kn K := by
  have h0 := h
  obtain ⟨⟨g, e6, u8, e8, k2⟩, ⟨p, hp, hi, hP⟩, h40, hK⟩ := h0
  obtain rfl : o = p (un - 1) := nI_g ho (hp _ (by omega)).1.g (e.symm.trans (hp _ (by omega)).2)
  have hge := (hp (un - 1) (by omega)).1.ge
  refine h.from ho (by omega) (hP (un - 1) (by omega)) (by omega) (Nat.le_refl _) (Or.inl ⟨rfl, rfl⟩) ?_ ?_ (fun q hq => ?_)
  · rw [mj_u_off _ (Or.inl (by decide)), mj_u_on]
  · rw [mj_u_off _ (Or.inl (by decide)), mj_u_off _ (Or.inr (by decide))]; exact e8
  · rw [mj_u_off (F := F) (j := p (un - 1)) _ (Or.inl (by omega))]
    by_cases e2 : q = 33
    · subst e2; rw [mj_u_on, mj_u_on]
    · rw [mj_u_off _ (Or.inl e2), mj_u_off _ (Or.inl e2), mj_u_off _ (Or.inl (Ne.symm (g_ne0 hq)))]
theorem CS.kref (h : CS F A n mm row un P kn K) {k o : Nat} (hk : k < 2) (ho : isG o) (e : A 4 k = nI o) : o = 103 + 7 * k := by
  obtain ⟨-, -, ⟨a, b⟩, -⟩ := h
  match k, hk with
  | 0, _ => exact nI_g ho (g103 (by omega)) (e.symm.trans a)
  | 1, _ => exact nI_g ho (g103 (by omega)) (e.symm.trans b)
  | k + 2, h => exact absurd h (by omega)
theorem CS.back (h : CS F A n mm row un P kn K) (hk : 0 < kn) : CS (mj_u (mj_u (mj_u F 0 8 (nI (kn - 1))) 33 0 (mj_u F 0 8 (nI (kn - 1)) (103 + 7 * (kn - 1)) 0)) 0 6 (nI 0)) (cpA A 33 (103 + 7 * (kn - 1))) n mm (K (kn - 1)) 0 P (kn - 1) K := by
  have h0 := h
  obtain ⟨⟨g, e6, u8, e8, k2⟩, ⟨p, hp, hi, hP⟩, h40, hK⟩ := h0
  refine h.from (g103 (by omega)) (by omega) (hK (kn - 1) (by omega)) (by omega) (by omega) (Or.inl ⟨rfl, rfl⟩) (mj_u_on _ _ _ _) ?_ (fun q hq => ?_)
  · rw [mj_u_off _ (Or.inr (by decide)), mj_u_off _ (Or.inl (by decide)), mj_u_on]
  · rw [mj_u_off _ (Or.inl (Ne.symm (g_ne0 hq))), mj_u_off (F := F) (j := 103 + 7 * (kn - 1)) _ (Or.inl (by omega))]
    by_cases e2 : q = 33
    · subst e2; rw [mj_u_on, mj_u_on]
    · rw [mj_u_off _ (Or.inl e2), mj_u_off _ (Or.inl e2), mj_u_off _ (Or.inl (Ne.symm (g_ne0 hq)))]
theorem CS.lay (h : CS F A n mm row un P kn K) {n' : Nat} {mm' : Nat → Nat} {row' : Nat → Int32} (g : GR F A 40 n' mm' row') : CS (mj_u (mj_u (mj_u F 33 0 (F 40 0)) 0 6 (nI 0)) 0 8 (nI 0)) (cpA A 33 40) n' mm' row' 0 P 0 K := by
  refine h.from g40 (by decide) g (by omega) (by omega) (Or.inr ⟨rfl, rfl⟩) ?_ (mj_u_on _ _ _ _) (fun q hq => ?_)
  · rw [mj_u_off _ (Or.inr (by decide)), mj_u_on]
  · rw [mj_u_off _ (Or.inl (Ne.symm (g_ne0 hq))), mj_u_off _ (Or.inl (Ne.symm (g_ne0 hq)))]
end CSM
theorem GR.mmc {F A : mj_S} {o n : Nat} {mm mm' : Nat → Nat} {row : Nat → Int32} (h : GR F A o n mm row) (hm : ∀ u, u < n → mm' u = mm u) : GR F A o n mm' row := by
  refine ⟨⟨h.1.1, fun u hu => ?_⟩, h.2.1, fun u v i j h1 h2 h3 h4 h5 => ?_⟩
  · rw [hm u hu]; exact h.1.2 u hu
  · rw [hm u (by omega)] at h3
    rw [hm v h2] at h4
    exact h.2.2 u v i j h1 h2 h3 h4 h5
theorem CS.rows {F A : mj_S} {n : Nat} {mm mm' : Nat → Nat} {row row' : Nat → Int32} {un : Nat} {P P' : Nat → Nat → Int32} {kn : Nat} {K K' : Nat → Nat → Int32} (h : CS F A n mm row un P kn K) (hm : ∀ u, u < n → mm' u = mm u) (hr : ∀ j, j < 500 → row' j = row j) (hP : ∀ k j, k < un → j < 500 → P' k j = P k j) (hK : ∀ k j, k < kn → j < 500 → K' k j = K k j) : CS F A n mm' row' un P' kn K' := by
  obtain ⟨⟨g, e6, u8, e8, k2⟩, ⟨p, hp, hi, hP0⟩, h40, hK0⟩ := h
  exact ⟨⟨(g.congr hr).mmc hm, e6, u8, e8, k2⟩, ⟨p, hp, hi, fun k hk => ((hP0 k hk).congr (fun j hj => hP k j hk hj)).mmc hm⟩, h40, fun k hk => ((hK0 k hk).congr (fun j hj => hK k j hk hj)).mmc hm⟩
