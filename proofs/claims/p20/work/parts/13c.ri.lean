/-! the reduction, pure: what holds at each turn -/
def RV (n : Nat) (mm : VF) (K : Nat) (S : RSt) : Prop :=
  ((∀ a b, S.1.1 a b ≤ 1000000) ∧ (∀ a b i j, S.1.2.1 a b i j ≤ 1000000) ∧ ∀ a b i j, S.1.2.1 a b i j = S.1.2.1 b a j i) ∧
  ((∀ u, S.1.2.2 u < 256) ∧ (∀ u v, S.1.2.2 u / 2 ^ v % 2 = 1 → S.2.1.1 / 2 ^ v % 2 = 1 ∧ u ≠ v) ∧ (∀ u v, S.2.1.1 / 2 ^ u % 2 = 1 → S.2.1.1 / 2 ^ v % 2 = 1 → S.1.2.2 u / 2 ^ v % 2 = 1 → S.1.2.2 v / 2 ^ u % 2 = 1) ∧ ∀ u v i j, S.2.1.1 / 2 ^ u % 2 = 1 → S.2.1.1 / 2 ^ v % 2 = 1 → ¬ S.1.2.2 u / 2 ^ v % 2 = 1 → S.1.2.1 u v i j = 0) ∧
  ((S.2.1.1 < 2 ^ n ∧ pc S.2.1.1 + K = n) ∧ ∀ v, v < n → (S.2.1.1 / 2 ^ v % 2 = 1 ↔ ∀ k, k < K → S.2.2.1 k ≠ v)) ∧
  ∀ k, k < K → (S.2.2.1 k < n ∧ S.2.2.2.1 k ≤ 3 ∧ S.2.2.2.2 k < 256) ∧ (∀ v, S.2.2.2.2 k / 2 ^ v % 2 = 1 → v < n ∧ ∀ k', k' ≤ k → S.2.2.1 k' ≠ v) ∧ (S.2.2.2.1 k = 3 → S.2.1.2 (S.2.2.1 k) < mm (S.2.2.1 k)) ∧ ∀ k', k' < k → S.2.2.1 k' ≠ S.2.2.1 k
theorem cst_le {n : Nat} {mm : VF} {row : Nat → Int32} (hw : wr n mm row) {u i : Nat} (hu : u < n) (hi : i < mm u) : cst row u i ≤ 1000000 := by
  obtain ⟨p, t, kd, h1, h2, h3, -, -, -, e⟩ := hw.cstE hu hi
  have := (hw.1.2 u hu).2
  rw [e]
  unfold cstN
  (repeat' split) <;> omega
theorem tcs_le {n : Nat} {mm : VF} {row : Nat → Int32} (hw : wr n mm row) {u v i j : Nat} (hu : u < n) (hv : v < n) (huv : u ≠ v) (hi : i < mm u) (hj : j < mm v) (ht : 0 < row (eA u v 0 0)) : tcs row u v i j ≤ 1000000 := by
  obtain ⟨f, h1, e⟩ := hw.ent hu hv huv hi hj ht
  unfold tcs tcN
  rw [e, nI_clamp (by omega)]
  split <;> omega
theorem tdd_inv {row : Nat → Int32} {u v : Nat} (h : tdd row u v = 1) : u ≠ v ∧ 0 < row (eA u v 0 0) := by
  unfold tdd at h
  by_cases e : u ≠ v ∧ 0 < row (eA u v 0 0)
  · exact e
  · rw [if_neg e] at h
    exact absurd h (by decide)
theorem c0_le {n : Nat} {mm : VF} {row : Nat → Int32} (hw : wr n mm row) (a b : Nat) : c0 n mm row a b ≤ 1000000 := by
  unfold c0
  split
  · rename_i h
    exact cst_le hw h.1 h.2
  · omega
theorem t0_le {n : Nat} {mm : VF} {row : Nat → Int32} (hw : wr n mm row) (a b i j : Nat) : t0 n mm row a b i j ≤ 1000000 := by
  unfold t0
  split
  · rename_i h
    have := tdd_inv h.2.2.2.2
    exact tcs_le hw h.1 h.2.1 this.1 h.2.2.1 h.2.2.2.1 this.2
  · omega
theorem t0_sym {n : Nat} {mm : VF} {row : Nat → Int32} (a b i j : Nat) : t0 n mm row a b i j = t0 n mm row b a j i := by
  unfold t0
  by_cases h : a < n ∧ b < n ∧ i < mm a ∧ j < mm b ∧ tdd row a b = 1
  · have := tdd_inv h.2.2.2.2
    rw [if_pos h, if_pos ⟨h.2.1, h.1, h.2.2.2.1, h.2.2.1, by rw [tdd_sym]; exact h.2.2.2.2⟩]
    unfold tcs
    rw [eA_sym i j this.1]
  · rw [if_neg h, if_neg (fun q => h ⟨q.2.1, q.1, q.2.2.2.1, q.2.2.1, by rw [tdd_sym]; exact q.2.2.2.2⟩)]
theorem mk0_bt {n : Nat} {mm : VF} {row : Nat → Int32} (hw : wr n mm row) {u v : Nat} : (if u < n then mkB row u else 0) / 2 ^ v % 2 = 1 ↔ (u < n ∧ v < n ∧ tdd row u v = 1) := by
  have hn8 := hw.1.1
  by_cases hu : u < n
  · rw [if_pos hu]
    constructor
    · intro h
      have hv := bt_lt (mkB_lt row u) h
      rw [mkB_bit row u hv] at h
      refine ⟨hu, ?_, h⟩
      by_cases hvn : v < n
      · exact hvn
      · rw [hw.off (by omega) hv (Or.inr (by omega))] at h
        exact absurd h (by decide)
    · rintro ⟨-, h2, h3⟩
      rw [mkB_bit row u (by omega)]
      exact h3
  · rw [if_neg hu]
    constructor
    · intro h
      rw [Nat.zero_div] at h
      exact absurd h (by decide)
    · rintro ⟨h, -⟩
      exact absurd h hu
theorem RV_0 {n : Nat} {mm : VF} {row : Nat → Int32} (hw : wr n mm row) : RV n mm 0 (S0' n mm row) := by
  have hn8 := hw.1.1
  have hp := p2_le hn8
  have hlf : ∀ v, (2 ^ n - 1) / 2 ^ v % 2 = 1 ↔ v < n := fun v => by
    by_cases hv : v < 8
    · exact bt_all n hn8 v hv
    · exact ⟨fun h => absurd (bt_lt (by omega) h) hv, fun h => by omega⟩
  refine ⟨⟨c0_le hw, t0_le hw, t0_sym⟩, ⟨fun u => ?_, fun u v h => ?_, fun u v h1 h2 h => ?_, fun u v i j h1 h2 h => ?_⟩, ⟨⟨?_, ?_⟩, fun v hv => ?_⟩, fun k hk => absurd hk (Nat.not_lt_zero k)⟩
  · show (if u < n then mkB row u else 0) < 256
    split
    · exact mkB_lt row u
    · omega
  · obtain ⟨h1, h2, h3⟩ := (mk0_bt hw).mp h
    exact ⟨(hlf v).mpr h2, (tdd_inv h3).1⟩
  · obtain ⟨h1, h2, h3⟩ := (mk0_bt hw).mp h
    exact (mk0_bt hw).mpr ⟨h2, h1, by rw [tdd_sym]; exact h3⟩
  · have h3 : ¬ tdd row u v = 1 := fun q => h ((mk0_bt hw).mpr ⟨(hlf u).mp h1, (hlf v).mp h2, q⟩)
    exact if_neg (fun q => h3 q.2.2.2.2)
  · show 2 ^ n - 1 < 2 ^ n
    omega
  · exact pc_all n hn8
  · exact ⟨fun _ k hk => absurd hk (Nat.not_lt_zero k), fun _ => (hlf v).mpr hv⟩
theorem jn_bt {mk : VF} {v w x y : Nat} (h : v ≠ w) : jn mk v w x / 2 ^ y % 2 = 1 ↔ (mk x / 2 ^ y % 2 = 1 ∨ (x = v ∧ y = w) ∨ (x = w ∧ y = v)) := by
  unfold jn
  by_cases e : x = w
  · subst e
    rw [uvf_at, bt_or]
    constructor
    · rintro (q | q)
      · exact Or.inl q
      · exact Or.inr (Or.inr ⟨rfl, q.symm⟩)
    · rintro (q | q | q)
      · exact Or.inl q
      · exact absurd q.1.symm h
      · exact Or.inr q.2.symm
  · rw [uvf_ne e]
    by_cases e2 : x = v
    · subst e2
      rw [uvf_at, bt_or]
      constructor
      · rintro (q | q)
        · exact Or.inl q
        · exact Or.inr (Or.inl ⟨rfl, q.symm⟩)
      · rintro (q | q | q)
        · exact Or.inl q
        · exact Or.inr q.2.symm
        · exact absurd q.1 e
    · rw [uvf_ne e2]
      constructor
      · intro q
        exact Or.inl q
      · rintro (q | q | q)
        · exact q
        · exact absurd q.1 e2
        · exact absurd q.1 e
theorem jn_lt {mk : VF} {v w : Nat} (hm : ∀ u, mk u < 256) (hv : v < 8) (hw : w < 8) (x : Nat) : jn mk v w x < 256 := by
  unfold jn uvf
  split
  · exact or_256 (hm w) (p2_8 hv)
  · split
    · exact or_256 (hm v) (p2_8 hw)
    · exact hm x
section RU
variable {n : Nat} {mm : VF} {c : CF} {t : TF} {mk tk : VF} {u : Nat}
theorem ru_1 (h : pc (mk u) = 1) : ru n mm c t mk tk u = ((r1 (mm u) t u (lob (mk u)) c (mm (lob (mk u))), t, mk), tk) := if_pos h
theorem ru_2 (h : pc (mk u) = 2) : ru n mm c t mk tk u = ((c, r2 (mm u) (mm (lo2 (mk u))) c u (lob (mk u)) (lo2 (mk u)) t (mm (lob (mk u)) * mm (lo2 (mk u))), jn mk (lob (mk u)) (lo2 (mk u))), tk) := by
  unfold ru
  rw [if_neg (by omega), if_pos h]
theorem ru_3 (h : 2 < pc (mk u)) : ru n mm c t mk tk u = ((r3 mm t (mk u) u (b3 n mm c t (mk u) u) c n, t, mk), uvf tk u (b3 n mm c t (mk u) u)) := by
  unfold ru
  rw [if_neg (by omega), if_neg (by omega), if_pos h]
theorem ru_0 (h : pc (mk u) = 0) : ru n mm c t mk tk u = ((c, t, mk), tk) := by
  unfold ru
  rw [if_neg (by omega), if_neg (by omega), if_neg (by omega)]
/-- what a rule leaves -/
theorem ru_ok {lf : Nat} (hc : ∀ a b, c a b ≤ 1000000) (ht : ∀ a b i j, t a b i j ≤ 1000000) (hs : ∀ a b i j, t a b i j = t b a j i) (hm : ∀ u, mk u < 256) (hb : ∀ u v, mk u / 2 ^ v % 2 = 1 → lf / 2 ^ v % 2 = 1 ∧ u ≠ v) (hy : ∀ u v, lf / 2 ^ u % 2 = 1 → lf / 2 ^ v % 2 = 1 → mk u / 2 ^ v % 2 = 1 → mk v / 2 ^ u % 2 = 1) (hz : ∀ u v i j, lf / 2 ^ u % 2 = 1 → lf / 2 ^ v % 2 = 1 → ¬ mk u / 2 ^ v % 2 = 1 → t u v i j = 0) (h1 : 1 ≤ mm u) :
    ((∀ a b, (ru n mm c t mk tk u).1.1 a b ≤ 1000000) ∧ (∀ a b i j, (ru n mm c t mk tk u).1.2.1 a b i j ≤ 1000000) ∧ ∀ a b i j, (ru n mm c t mk tk u).1.2.1 a b i j = (ru n mm c t mk tk u).1.2.1 b a j i) ∧
    ((∀ x, (ru n mm c t mk tk u).1.2.2 x < 256) ∧ (∀ x v, (ru n mm c t mk tk u).1.2.2 x / 2 ^ v % 2 = 1 → lf / 2 ^ v % 2 = 1 ∧ x ≠ v) ∧ (∀ x v, lf / 2 ^ x % 2 = 1 → lf / 2 ^ v % 2 = 1 → (ru n mm c t mk tk u).1.2.2 x / 2 ^ v % 2 = 1 → (ru n mm c t mk tk u).1.2.2 v / 2 ^ x % 2 = 1) ∧ ∀ x v i j, lf / 2 ^ x % 2 = 1 → lf / 2 ^ v % 2 = 1 → ¬ (ru n mm c t mk tk u).1.2.2 x / 2 ^ v % 2 = 1 → (ru n mm c t mk tk u).1.2.1 x v i j = 0) ∧
    (∀ x, x ≠ u → (ru n mm c t mk tk u).2 x = tk x) ∧ (2 < pc (mk u) → (ru n mm c t mk tk u).2 u < mm u) := by
  have hmu := hm u
  rcases (show pc (mk u) = 0 ∨ pc (mk u) = 1 ∨ pc (mk u) = 2 ∨ 2 < pc (mk u) by omega) with h | h | h | h
  · rw [ru_0 h]
    exact ⟨⟨hc, ht, hs⟩, ⟨hm, hb, hy, hz⟩, fun _ _ => rfl, fun q => by omega⟩
  · rw [ru_1 h]
    exact ⟨⟨r1_le hc _, ht, hs⟩, ⟨hm, hb, hy, hz⟩, fun _ _ => rfl, fun q => by omega⟩
  · have hl := lob_bt (mk u) hmu (pc_pos _ hmu (by omega))
    have hl2 := lo2_bt hmu (by omega : 1 < pc (mk u))
    have hne : lob (mk u) ≠ lo2 (mk u) := Ne.symm hl2.2.2
    have bv := hb u _ hl.2
    have bw := hb u _ hl2.2.1
    rw [ru_2 h]
    refine ⟨⟨hc, r2_le ht _, r2_sym hs _⟩, ⟨jn_lt hm hl.1 hl2.1, fun x v q => ?_, fun x v g1 g2 q => ?_, fun x v i j g1 g2 q => ?_⟩, fun _ _ => rfl, fun q => by omega⟩
    · rcases (jn_bt hne).mp q with q | ⟨rfl, rfl⟩ | ⟨rfl, rfl⟩
      · exact hb x v q
      · exact ⟨bw.1, hne⟩
      · exact ⟨bv.1, Ne.symm hne⟩
    · rcases (jn_bt hne).mp q with q | ⟨rfl, rfl⟩ | ⟨rfl, rfl⟩
      · exact (jn_bt hne).mpr (Or.inl (hy x v g1 g2 q))
      · exact (jn_bt hne).mpr (Or.inr (Or.inr ⟨rfl, rfl⟩))
      · exact (jn_bt hne).mpr (Or.inr (Or.inl ⟨rfl, rfl⟩))
    · have q1 : ¬ mk x / 2 ^ v % 2 = 1 := fun e => q ((jn_bt hne).mpr (Or.inl e))
      show r2 _ _ _ _ _ _ _ _ x v i j = 0
      rw [r2_off (fun e => q ((jn_bt hne).mpr (Or.inr e)))]
      exact hz x v i j g1 g2 q1
  · rw [ru_3 h]
    refine ⟨⟨r3_le hc _, ht, hs⟩, ⟨hm, hb, hy, hz⟩, fun x hx => uvf_ne hx, fun _ => ?_⟩
    show uvf tk u _ u < mm u
    rw [uvf_at]
    exact b3_lt hc h1
end RU
theorem RV_next {n : Nat} {mm : VF} {K : Nat} {S : RSt} (hn : n ≤ 8) (h : RV n mm K S) (hK : K < n) : nxt mm S.1.2.2 n S.2.1.1 < n ∧ S.2.1.1 / 2 ^ nxt mm S.1.2.2 n S.2.1.1 % 2 = 1 := by
  have hp := p2_le hn
  have hl := h.2.2.1.1
  exact nxt_ok hl.1 hn (pc_pos _ (by omega) (by omega))
theorem RV_st {n : Nat} {mm : VF} {K : Nat} {S : RSt} (hn : n ≤ 8) (hmm : ∀ u, u < n → 1 ≤ mm u) (h : RV n mm K S) {u : Nat} (hu : u < n) (hbu : S.2.1.1 / 2 ^ u % 2 = 1) : RV n mm (K + 1) (stU n mm S K u) := by
  have hp := p2_le hn
  obtain ⟨⟨hc, ht, hs⟩, ⟨hm, hb, hy, hz⟩, ⟨⟨hl, hpc⟩, hlo⟩, hlog⟩ := h
  have hl8 : S.2.1.1 < 256 := by omega
  have hu8 : u < 8 := by omega
  obtain ⟨R1, ⟨Rm, Rb, Ry, Rz⟩, Rt, R3⟩ := ru_ok (n := n) (mm := mm) (tk := S.2.1.2) (u := u) hc ht hs hm hb hy hz (hmm u hu)
  have hcl : ∀ v, clr S.2.1.1 u / 2 ^ v % 2 = 1 ↔ (S.2.1.1 / 2 ^ v % 2 = 1 ∧ v ≠ u) := fun v => bt_clr hl8 hu8
  have hcm : ∀ x v, clr ((ru n mm S.1.1 S.1.2.1 S.1.2.2 S.2.1.2 u).1.2.2 x) u / 2 ^ v % 2 = 1 ↔ ((ru n mm S.1.1 S.1.2.1 S.1.2.2 S.2.1.2 u).1.2.2 x / 2 ^ v % 2 = 1 ∧ v ≠ u) := fun x v => bt_clr (Rm x) hu8
  have hou := (hlo u hu).mp hbu
  refine ⟨R1, ⟨fun x => Nat.lt_of_le_of_lt (clr_le _ _) (Rm x), fun x v q => ?_, fun x v g1 g2 q => ?_, fun x v i j g1 g2 q => ?_⟩, ⟨⟨Nat.lt_of_le_of_lt (clr_le _ _) hl, ?_⟩, fun v hv => ?_⟩, fun k hk => ?_⟩
  · obtain ⟨q1, q2⟩ := (hcm x v).mp q
    obtain ⟨q3, q4⟩ := Rb x v q1
    exact ⟨(hcl v).mpr ⟨q3, q2⟩, q4⟩
  · obtain ⟨q1, q2⟩ := (hcm x v).mp q
    obtain ⟨k1, k2⟩ := (hcl x).mp g1
    obtain ⟨k3, k4⟩ := (hcl v).mp g2
    exact (hcm v x).mpr ⟨Ry x v k1 k3 q1, k2⟩
  · obtain ⟨k1, k2⟩ := (hcl x).mp g1
    obtain ⟨k3, k4⟩ := (hcl v).mp g2
    exact Rz x v i j k1 k3 (fun e => q ((hcm x v).mpr ⟨e, k4⟩))
  · have := clr_pc S.2.1.1 hl8 u hu8 hbu
    show pc (clr S.2.1.1 u) + (K + 1) = n
    omega
  · show clr S.2.1.1 u / 2 ^ v % 2 = 1 ↔ ∀ k, k < K + 1 → uvf S.2.2.1 K u k ≠ v
    rw [hcl v, hlo v hv]
    constructor
    · rintro ⟨q1, q2⟩ k hk
      by_cases e : k = K
      · rw [e, uvf_at]; exact Ne.symm q2
      · rw [uvf_ne e]; exact q1 k (by omega)
    · intro q
      refine ⟨fun k hk => ?_, ?_⟩
      · have := q k (by omega)
        rw [uvf_ne (by omega)] at this
        exact this
      · have := q K (by omega)
        rw [uvf_at] at this
        exact Ne.symm this
  · show (uvf S.2.2.1 K u k < n ∧ uvf S.2.2.2.1 K (r3n (pc (S.1.2.2 u))) k ≤ 3 ∧ uvf S.2.2.2.2 K (S.1.2.2 u) k < 256) ∧ (∀ v, uvf S.2.2.2.2 K (S.1.2.2 u) k / 2 ^ v % 2 = 1 → v < n ∧ ∀ k', k' ≤ k → uvf S.2.2.1 K u k' ≠ v) ∧ (uvf S.2.2.2.1 K (r3n (pc (S.1.2.2 u))) k = 3 → (ru n mm S.1.1 S.1.2.1 S.1.2.2 S.2.1.2 u).2 (uvf S.2.2.1 K u k) < mm (uvf S.2.2.1 K u k)) ∧ ∀ k', k' < k → uvf S.2.2.1 K u k' ≠ uvf S.2.2.1 K u k
    by_cases e : k = K
    · subst e
      rw [uvf_at, uvf_at, uvf_at]
      refine ⟨⟨hu, ?_, hm u⟩, fun v q => ?_, fun q => ?_, fun k' hk' => ?_⟩
      · unfold r3n; split <;> omega
      · obtain ⟨q1, q2⟩ := hb u v q
        have hv : v < n := bit_lt hl q1
        refine ⟨hv, fun k' hk' => ?_⟩
        by_cases e : k' = k
        · rw [e, uvf_at]; exact q2
        · rw [uvf_ne e]; exact (hlo v hv).mp q1 k' (by omega)
      · exact R3 (by unfold r3n at q; split at q <;> omega)
      · rw [uvf_ne (by omega)]; exact hou k' hk'
    · obtain ⟨⟨q1, q2, q3⟩, q4, q5, q6⟩ := hlog k (by omega)
      rw [uvf_ne e, uvf_ne e, uvf_ne e]
      refine ⟨⟨q1, q2, q3⟩, fun v q => ?_, fun q => ?_, fun k' hk' => ?_⟩
      · obtain ⟨q7, q8⟩ := q4 v q
        refine ⟨q7, fun k' hk' => ?_⟩
        rw [uvf_ne (by omega)]; exact q8 k' hk'
      · rw [Rt _ (hou k (by omega))]; exact q5 q
      · rw [uvf_ne (by omega)]; exact q6 k' hk'
theorem RV_run {n : Nat} {mm : VF} {row : Nat → Int32} (hw : wr n mm row) : ∀ K, K ≤ n → RV n mm K (rns n mm (S0' n mm row) K)
  | 0, _ => RV_0 hw
  | K + 1, hK => by
    have h := RV_run hw K (by omega)
    have hx := RV_next hw.1.1 h (by omega)
    exact RV_st hw.1.1 (fun u hu => (hw.1.2 u hu).1) h hx.1 hx.2
/-- whom a node was tied to comes behind it -/
theorem RV_wi {n : Nat} {mm : VF} {S : RSt} (hn : n ≤ 8) (h : RV n mm n S) {k v : Nat} (hk : k < n) (hv : S.2.2.2.2 k / 2 ^ v % 2 = 1) : ∃ k', k < k' ∧ k' < n ∧ S.2.2.1 k' = v := by
  have hp := p2_le hn
  obtain ⟨-, -, ⟨⟨hl, hpc⟩, hlo⟩, hlog⟩ := h
  obtain ⟨h1, h2⟩ := (hlog k hk).2.1 v hv
  have h3 : ¬ S.2.1.1 / 2 ^ v % 2 = 1 := fun q => by
    have := clr_pc S.2.1.1 (by omega) v (by omega) q
    omega
  have h4 : ¬ ∀ k, k < n → S.2.2.1 k ≠ v := fun q => h3 ((hlo v h1).mpr q)
  apply Classical.byContradiction
  intro h5
  refine h4 (fun k' hk' e => ?_)
  by_cases e2 : k' ≤ k
  · exact h2 k' e2 e
  · exact h5 ⟨k', by omega, hk', e⟩
/-- what is read off so far is there -/
def RO (n : Nat) (mm : VF) (S : RSt) (m : Nat) (tk : VF) : Prop := ∀ k, k < n → (n - m ≤ k ∨ S.2.2.2.1 k = 3) → tk (S.2.2.1 k) < mm (S.2.2.1 k)
theorem RV_inj {n : Nat} {mm : VF} {K : Nat} {S : RSt} (h : RV n mm K S) {k k' : Nat} (hk : k < K) (hk' : k' < K) (hne : k ≠ k') : S.2.2.1 k ≠ S.2.2.1 k' := by
  by_cases e : k < k'
  · exact (h.2.2.2 k' hk').2.2.2 k e
  · exact Ne.symm ((h.2.2.2 k hk).2.2.2 k' (by omega))
theorem ro_t {n : Nat} {mm : VF} {S : RSt} {m : Nat} (h : S.2.2.2.1 (n - (m + 1)) < 3) : ro n mm S (m + 1) = uvf (ro n mm S m) (S.2.2.1 (n - (m + 1))) (tb n mm S.1.1 S.1.2.1 (S.2.2.2.2 (n - (m + 1))) (ro n mm S m) (S.2.2.1 (n - (m + 1)))) := if_pos h
theorem ro_f {n : Nat} {mm : VF} {S : RSt} {m : Nat} (h : ¬ S.2.2.2.1 (n - (m + 1)) < 3) : ro n mm S (m + 1) = ro n mm S m := if_neg h
theorem RO_run {n : Nat} {mm : VF} {S : RSt} (hmm : ∀ u, u < n → 1 ≤ mm u) (h : RV n mm n S) : ∀ m, m ≤ n → RO n mm S m (ro n mm S m)
  | 0, _ => fun k hk q => (h.2.2.2 k hk).2.2.1 (q.resolve_left (fun q => by omega))
  | m + 1, hm => by
    have ih := RO_run hmm h m (by omega)
    intro k hk q
    by_cases e : S.2.2.2.1 (n - (m + 1)) < 3
    · rw [ro_t e]
      by_cases e2 : k = n - (m + 1)
      · rw [e2, uvf_at]
        exact fm_lt' (sm_le h.1.1 n) (hmm _ (h.2.2.2 _ (by omega)).1.1)
      · rw [uvf_ne (RV_inj h hk (by omega) e2)]
        exact ih k hk (q.imp (fun q => by omega) id)
    · rw [ro_f e]
      refine ih k hk ?_
      by_cases e2 : k = n - (m + 1)
      · have := (h.2.2.2 k hk).1.2.1
        rw [← e2] at e
        exact Or.inr (by omega)
      · exact q.imp (fun q => by omega) id
theorem RV_sur {n : Nat} {mm : VF} {S : RSt} (hn : n ≤ 8) (h : RV n mm n S) {v : Nat} (hv : v < n) : ∃ k, k < n ∧ S.2.2.1 k = v := by
  have hp := p2_le hn
  obtain ⟨-, -, ⟨⟨hl, hpc⟩, hlo⟩, -⟩ := h
  have h3 : ¬ S.2.1.1 / 2 ^ v % 2 = 1 := fun q => by
    have := clr_pc S.2.1.1 (by omega) v (by omega) q
    omega
  apply Classical.byContradiction
  intro h5
  exact h3 ((hlo v hv).mpr (fun k hk e => h5 ⟨k, hk, e⟩))
theorem ro_dn {n kk : Nat} (h0 : 0 < kk) (hk : kk ≤ n) : n - (kk - 1) = (n - kk) + 1 ∧ n - ((n - kk) + 1) = kk - 1 := by omega
theorem ro_sT {n : Nat} {mm : VF} {S : RSt} {kk : Nat} (h0 : 0 < kk) (hk : kk ≤ n) (h : S.2.2.2.1 (kk - 1) < 3) : ro n mm S (n - (kk - 1)) = uvf (ro n mm S (n - kk)) (S.2.2.1 (kk - 1)) (tb n mm S.1.1 S.1.2.1 (S.2.2.2.2 (kk - 1)) (ro n mm S (n - kk)) (S.2.2.1 (kk - 1))) := by
  obtain ⟨e1, e2⟩ := ro_dn h0 hk
  rw [e1, ro_t (by rw [e2]; exact h), e2]
theorem ro_sF {n : Nat} {mm : VF} {S : RSt} {kk : Nat} (h0 : 0 < kk) (hk : kk ≤ n) (h : ¬ S.2.2.2.1 (kk - 1) < 3) : ro n mm S (n - (kk - 1)) = ro n mm S (n - kk) := by
  obtain ⟨e1, e2⟩ := ro_dn h0 hk
  rw [e1, ro_f (by rw [e2]; exact h)]
/-- what comes of it all -/
def redS (n : Nat) (mm : VF) (row : Nat → Int32) : RSt := rns n mm (S0' n mm row) n
theorem RV_red {n : Nat} {mm : VF} {row : Nat → Int32} (hw : wr n mm row) : RV n mm n (redS n mm row) := RV_run hw n (Nat.le_refl n)
def tkF (n : Nat) (mm : VF) (row : Nat → Int32) : VF := ro n mm (redS n mm row) n
theorem tkF_lt {n : Nat} {mm : VF} {row : Nat → Int32} (hw : wr n mm row) {u : Nat} (hu : u < n) : tkF n mm row u < mm u := by
  obtain ⟨k, hk, rfl⟩ := RV_sur hw.1.1 (RV_red hw) hu
  exact RO_run (fun u hu => (hw.1.2 u hu).1) (RV_red hw) n (Nat.le_refl n) k hk (Or.inl (by omega))
/-- what a plan costs -/
def pcv (t : TF) (mk tk : VF) (u x : Nat) : Nat → Nat
  | 0 => x
  | v + 1 => if mk u / 2 ^ v % 2 = 1 then cap (pcv t mk tk u x v + t u v (tk u) (tk v)) else pcv t mk tk u x v
def pcu (c : CF) (t : TF) (mk tk : VF) : Nat → Nat
  | 0 => 0
  | u + 1 => pcv t mk tk u (cap (pcu c t mk tk u + c u (tk u))) u
theorem pcv_t {t : TF} {mk tk : VF} {u x v : Nat} (h : mk u / 2 ^ v % 2 = 1) : pcv t mk tk u x (v + 1) = cap (pcv t mk tk u x v + t u v (tk u) (tk v)) := if_pos h
theorem pcv_f {t : TF} {mk tk : VF} {u x v : Nat} (h : ¬ mk u / 2 ^ v % 2 = 1) : pcv t mk tk u x (v + 1) = pcv t mk tk u x v := if_neg h
theorem pcv_le {t : TF} {mk tk : VF} {u x : Nat} (hx : x ≤ 1000000) : ∀ v, pcv t mk tk u x v ≤ 1000000
  | 0 => hx
  | v + 1 => by
    by_cases e : mk u / 2 ^ v % 2 = 1
    · rw [pcv_t e]; exact cap_le _
    · rw [pcv_f e]; exact pcv_le hx v
theorem pcu_le {c : CF} {t : TF} {mk tk : VF} : ∀ u, pcu c t mk tk u ≤ 1000000
  | 0 => Nat.zero_le _
  | u + 1 => pcv_le (cap_le _) u
def mk0 (n : Nat) (row : Nat → Int32) : VF := fun u => if u < n then mkB row u else 0
def shw (rl : VF) : Nat → Nat
  | 0 => 1
  | k + 1 => if rl k = 3 then 0 else shw rl k
theorem shw_t {rl : VF} {k : Nat} (h : rl k = 3) : shw rl (k + 1) = 0 := if_pos h
theorem shw_f {rl : VF} {k : Nat} (h : ¬ rl k = 3) : shw rl (k + 1) = shw rl k := if_neg h
theorem shw_le (rl : VF) : ∀ k, shw rl k ≤ 1
  | 0 => Nat.le_refl _
  | k + 1 => by
    by_cases e : rl k = 3
    · rw [shw_t e]; exact Nat.zero_le _
    · rw [shw_f e]; exact shw_le rl k
/-! the answers -/
def tnAns (n : Nat) (mm : VF) (row : Nat → Int32) (x1 x2 : Int32) : Int32 := match ndO n x1 with
  | none => -1
  | some k => if x2 = nI 0 then nI ((redS n mm row).2.2.1 k) else if x2 = nI 1 then nI ((redS n mm row).2.2.2.1 k) else -1
theorem tnAns_n {n : Nat} {mm : VF} {row : Nat → Int32} {x1 x2 : Int32} (h : ndO n x1 = none) : tnAns n mm row x1 x2 = -1 := by unfold tnAns; rw [h]
theorem tnAns_i {n : Nat} {mm : VF} {row : Nat → Int32} {x1 x2 : Int32} {k : Nat} (h : ndO n x1 = some k) : tnAns n mm row x1 x2 = if x2 = nI 0 then nI ((redS n mm row).2.2.1 k) else if x2 = nI 1 then nI ((redS n mm row).2.2.2.1 k) else -1 := by unfold tnAns; rw [h]
theorem tnAns_0 {n : Nat} {mm : VF} {row : Nat → Int32} {x1 x2 : Int32} {k : Nat} (h : ndO n x1 = some k) (e : x2 = nI 0) : tnAns n mm row x1 x2 = nI ((redS n mm row).2.2.1 k) := by rw [tnAns_i h, if_pos e]
theorem tnAns_1 {n : Nat} {mm : VF} {row : Nat → Int32} {x1 x2 : Int32} {k : Nat} (h : ndO n x1 = some k) (e : x2 = nI 1) : tnAns n mm row x1 x2 = nI ((redS n mm row).2.2.2.1 k) := by rw [tnAns_i h, e, if_neg (by decide +kernel), if_pos rfl]
theorem tnAns_x {n : Nat} {mm : VF} {row : Nat → Int32} {x1 x2 : Int32} (h0 : ¬ x2 = nI 0) (h1 : ¬ x2 = nI 1) : tnAns n mm row x1 x2 = -1 := by
  cases h : ndO n x1 with
  | none => exact tnAns_n h
  | some k => rw [tnAns_i h, if_neg h0, if_neg h1]
def rdAns (n : Nat) (mm : VF) (row : Nat → Int32) (x1 : Int32) : Int32 := match ndO n x1 with
  | none => -1
  | some u => nI (tkF n mm row u)
theorem rdAns_n {n : Nat} {mm : VF} {row : Nat → Int32} {x1 : Int32} (h : ndO n x1 = none) : rdAns n mm row x1 = -1 := by unfold rdAns; rw [h]
theorem rdAns_i {n : Nat} {mm : VF} {row : Nat → Int32} {x1 : Int32} {k : Nat} (h : ndO n x1 = some k) : rdAns n mm row x1 = nI (tkF n mm row k) := by unfold rdAns; rw [h]
def plC (n : Nat) (mm : VF) (row : Nat → Int32) : Nat := pcu (c0 n mm row) (t0 n mm row) (mk0 n row) (tkF n mm row) n
def plAns (n : Nat) (mm : VF) (row : Nat → Int32) (x1 : Int32) : Int32 := if x1 = nI 0 then nI (plC n mm row) else if x1 = nI 1 then nI (shw (redS n mm row).2.2.2.1 n) else -1
theorem plAns_0 {n : Nat} {mm : VF} {row : Nat → Int32} {x1 : Int32} (e : x1 = nI 0) : plAns n mm row x1 = nI (plC n mm row) := if_pos e
theorem plAns_1 {n : Nat} {mm : VF} {row : Nat → Int32} {x1 : Int32} (e : x1 = nI 1) : plAns n mm row x1 = nI (shw (redS n mm row).2.2.2.1 n) := by unfold plAns; rw [e, if_neg (by decide +kernel), if_pos rfl]
theorem plAns_x {n : Nat} {mm : VF} {row : Nat → Int32} {x1 : Int32} (h0 : ¬ x1 = nI 0) (h1 : ¬ x1 = nI 1) : plAns n mm row x1 = -1 := by unfold plAns; rw [if_neg h0, if_neg h1]
theorem in01 {x : Int32} (h : (0 : Int64) ≤ x.toInt64 ∧ x.toInt64 ≤ 1) : x = nI 0 ∨ x = nI 1 := by
  obtain ⟨h1, h2⟩ := h
  rw [Int64.le_iff_toInt_le, Int32.toInt_toInt64] at h1
  rw [Int64.le_iff_toInt_le, Int32.toInt_toInt64] at h2
  have e0 : (0 : Int64).toInt = 0 := by decide
  have e1 : (1 : Int64).toInt = 1 := by decide
  rw [e0] at h1
  rw [e1] at h2
  obtain ⟨j, hj, e⟩ := nI_of (x := x) (by rw [Int32.lt_iff_toInt_lt, Int32.toInt_zero]; omega)
  rw [e, nI_toInt hj] at h1 h2
  rcases (show j = 0 ∨ j = 1 by omega) with q | q
  · exact Or.inl (by rw [e, q])
  · exact Or.inr (by rw [e, q])
theorem no01 {x : Int32} (h : ¬ ((0 : Int64) ≤ x.toInt64 ∧ x.toInt64 ≤ 1)) : ¬ x = nI 0 ∧ ¬ x = nI 1 := ⟨fun e => h (by rw [e]; decide +kernel), fun e => h (by rw [e]; decide +kernel)⟩
