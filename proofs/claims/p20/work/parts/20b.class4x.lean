/-! the class: weights, exact -/
def WT (F A : mj_S) (w n : Nat) (mm : VF) (c : CF) (t : TF) (mk : VF) : Prop := F w 0 = nI n ∧ (∀ u, u < n → A (w + 1) u = nI (mm u) ∧ A (w + 2) u = nI (mk u)) ∧ (∀ u i, u < n → i < mm u → A (w + 3) (u * 4 + i) = nI (c u i)) ∧ ∀ u v i j, u < n → v < n → u ≠ v → i < mm u → j < mm v → mk u / 2 ^ v % 2 = 1 → A (w + 4) (eP u v i j) = nI (t u v i j)
section WTS
variable {F A F' A' : mj_S} {w n : Nat} {mm : VF} {c : CF} {t : TF} {mk : VF}
theorem WT.off (h : WT F A w n mm c t mk) (hF : F' w 0 = F w 0) (hA : ∀ i, 1 ≤ i → i ≤ 4 → A' (w + i) = A (w + i)) : WT F' A' w n mm c t mk := by
  obtain ⟨h1, h2, h3, h4⟩ := h
  refine ⟨hF.trans h1, fun u hu => ?_, fun u i hu hi => ?_, fun u v i j g1 g2 g3 g4 g5 g6 => ?_⟩
  · rw [hA 1 (by omega) (by omega), hA 2 (by omega) (by omega)]; exact h2 u hu
  · rw [hA 3 (by omega) (by omega)]; exact h3 u i hu hi
  · rw [hA 4 (by omega) (by omega)]; exact h4 u v i j g1 g2 g3 g4 g5 g6
theorem WT.cst (h : WT F A w n mm c t mk) {v j : Nat} (hmm : ∀ u, u < n → 1 ≤ mm u ∧ mm u ≤ 4) (hv : v < n) (hj : j < mm v) (x : Nat) : WT F (mj_u A (w + 3) (v * 4 + j) (nI x)) w n mm (ucf c v j x) t mk := by
  obtain ⟨h1, h2, h3, h4⟩ := h
  refine ⟨h1, fun u hu => ?_, fun u i hu hi => ?_, fun u v i j g1 g2 g3 g4 g5 g6 => ?_⟩
  · rw [mj_u_ne A _ (by omega), mj_u_ne A _ (by omega)]; exact h2 u hu
  · rw [mj_u_at]
    by_cases e : u = v ∧ i = j
    · obtain ⟨rfl, rfl⟩ := e
      rw [pk_us, ucf_at]
    · have := (hmm u hu).2
      have := (hmm v hv).2
      rw [pk_un (by omega), ucf_ne e]
      exact h3 u i hu hi
  · rw [mj_u_ne A _ (by omega)]; exact h4 u v i j g1 g2 g3 g4 g5 g6
theorem eP_inj2 {u v i j a b k l : Nat} (huv : u ≠ v) (hab : a ≠ b) (hu : u < 8) (hv : v < 8) (ha : a < 8) (hb : b < 8) (hi : i < 4) (hj : j < 4) (hk : k < 4) (hl : l < 4) (e : eP u v i j = eP a b k l) : (u = a ∧ v = b ∧ i = k ∧ j = l) ∨ (u = b ∧ v = a ∧ i = l ∧ j = k) := by
  by_cases h1 : u < v <;> by_cases h2 : a < b
  · exact Or.inl (eP_inj h1 hv h2 hb hi hj hk hl e)
  · rw [eP_sym k l hab] at e
    obtain ⟨e1, e2, e3, e4⟩ := eP_inj h1 hv (by omega) ha hi hj hl hk e
    exact Or.inr ⟨e1, e2, e3, e4⟩
  · rw [eP_sym i j huv] at e
    obtain ⟨e1, e2, e3, e4⟩ := eP_inj (by omega) hu h2 hb hj hi hk hl e
    exact Or.inr ⟨e2, e1, e4, e3⟩
  · rw [eP_sym i j huv, eP_sym k l hab] at e
    obtain ⟨e1, e2, e3, e4⟩ := eP_inj (by omega) hu (by omega) ha hj hi hl hk e
    exact Or.inl ⟨e2, e1, e4, e3⟩
theorem WT.ent (h : WT F A w n mm c t mk) {a b k l : Nat} (hn : n ≤ 8) (hmm : ∀ u, u < n → 1 ≤ mm u ∧ mm u ≤ 4) (hab : a ≠ b) (ha : a < n) (hb : b < n) (hk : k < mm a) (hl : l < mm b) (x : Nat) : WT F (mj_u A (w + 4) (eP a b k l) (nI x)) w n mm c (utf t a b k l x) mk := by
  obtain ⟨h1, h2, h3, h4⟩ := h
  have ma := (hmm a ha).2
  have mb := (hmm b hb).2
  refine ⟨h1, fun u hu => ?_, fun u i hu hi => ?_, fun u v i j g1 g2 g3 g4 g5 g6 => ?_⟩
  · rw [mj_u_ne A _ (by omega), mj_u_ne A _ (by omega)]; exact h2 u hu
  · rw [mj_u_ne A _ (by omega)]; exact h3 u i hu hi
  · have mu := (hmm u g1).2
    have mv := (hmm v g2).2
    rw [mj_u_at]
    by_cases e : eP u v i j = eP a b k l
    · rw [e, pk_us]
      unfold utf
      rw [if_pos]
      rcases eP_inj2 g3 hab (by omega) (by omega) (by omega) (by omega) (by omega) (by omega) (by omega) (by omega) e with q | q
      · exact Or.inl q
      · exact Or.inr q
    · rw [pk_un e, h4 u v i j g1 g2 g3 g4 g5 g6]
      unfold utf
      rw [if_neg]
      rintro (⟨rfl, rfl, rfl, rfl⟩ | ⟨rfl, rfl, rfl, rfl⟩)
      · exact e rfl
      · exact e (eP_sym i j g3)
/-- two that are not tied yet are joined by noughts -/
theorem WT.join (h : WT F A w n mm c t mk) {a b : Nat} (hn : n ≤ 8) (hmm : ∀ u, u < n → 1 ≤ mm u ∧ mm u ≤ 4) (hm : ∀ u, mk u < 256) (hab : a ≠ b) (ha : a < n) (hb : b < n) (h0 : ∀ i j, t a b i j = 0) (hs : ∀ a b i j, t a b i j = t b a j i) (h2' : A' (w + 2) = upd (upd (A (w + 2)) a (A (w + 2) a ||| (nI 1 <<< (nI b &&& 31)))) b (A (w + 2) b ||| (nI 1 <<< (nI a &&& 31)))) (h4' : ∀ j, A' (w + 4) j = if eP a b 0 0 ≤ j ∧ j < eP a b 0 0 + 16 then 0 else A (w + 4) j) (hf : ∀ k, k ≠ w + 2 → k ≠ w + 4 → A' k = A k) : WT F A' w n mm c t (jn mk a b) := by
  obtain ⟨h1, h2, h3, h4⟩ := h
  refine ⟨h1, fun u hu => ⟨?_, ?_⟩, fun u i hu hi => ?_, fun u v i j g1 g2 g3 g4 g5 g6 => ?_⟩
  · rw [hf _ (by omega) (by omega)]; exact (h2 u hu).1
  · rw [h2', (h2 a ha).2, (h2 b hb).2, shl_1 (by omega), shl_1 (by omega), fa_or, fa_or]
    unfold jn
    by_cases e : u = b
    · rw [e, pk_us, uvf_at]
    · rw [pk_un e, uvf_ne e]
      by_cases e2 : u = a
      · rw [e2, pk_us, uvf_at]
      · rw [pk_un e2, uvf_ne e2]; exact (h2 u hu).2
  · rw [hf _ (by omega) (by omega)]; exact h3 u i hu hi
  · have mu := (hmm u g1).2
    have mv := (hmm v g2).2
    rw [h4']
    by_cases e : (u = a ∧ v = b) ∨ (u = b ∧ v = a)
    · have hz : t u v i j = 0 := by
        rcases e with ⟨rfl, rfl⟩ | ⟨rfl, rfl⟩
        · exact h0 i j
        · rw [hs]; exact h0 j i
      rw [hz, if_pos]
      · exact nI_0.symm
      · rcases e with ⟨rfl, rfl⟩ | ⟨rfl, rfl⟩
        · unfold eP
          by_cases q : u < v
          · rw [if_pos q, if_pos q]; omega
          · rw [if_neg q, if_neg q]; omega
        · rw [eP_sym i j g3]
          unfold eP
          by_cases q : v < u
          · rw [if_pos q, if_pos q]; omega
          · rw [if_neg q, if_neg q]; omega
    · have hb' : mk u / 2 ^ v % 2 = 1 := ((jn_bt hab).mp g6).resolve_right e
      rw [if_neg]
      · exact h4 u v i j g1 g2 g3 g4 g5 hb'
      · intro q
        have hx : ∃ k l, k < 4 ∧ l < 4 ∧ eP u v i j = eP a b k l := by
          by_cases q2 : a < b
          · refine ⟨(eP u v i j - eP a b 0 0) / 4, (eP u v i j - eP a b 0 0) % 4, by omega, by omega, ?_⟩
            have e0 : ∀ k l, eP a b k l = eP a b 0 0 + k * 4 + l := fun k l => by unfold eP; rw [if_pos q2, if_pos q2]; omega
            rw [e0 ((eP u v i j - eP a b 0 0) / 4)]
            omega
          · refine ⟨(eP u v i j - eP a b 0 0) % 4, (eP u v i j - eP a b 0 0) / 4, by omega, by omega, ?_⟩
            have e0 : ∀ k l, eP a b k l = eP a b 0 0 + l * 4 + k := fun k l => by unfold eP; rw [if_neg q2, if_neg q2]; omega
            rw [e0 ((eP u v i j - eP a b 0 0) % 4)]
            omega
        obtain ⟨k, l, hk, hl, ek⟩ := hx
        rcases eP_inj2 g3 hab (by omega) (by omega) (by omega) (by omega) (by omega) (by omega) hk hl ek with q3 | q3
        · exact e (Or.inl ⟨q3.1, q3.2.1⟩)
        · exact e (Or.inr ⟨q3.1, q3.2.1⟩)
end WTS
theorem mk0_lt (n : Nat) (row : Nat → Int32) (u : Nat) : mk0 n row u < 256 := by
  unfold mk0
  split
  · exact mkB_lt row u
  · omega
theorem mn_min (f : Nat → Nat) (k : Nat) : min (mn f k) (f k) = mn f (k + 1) := by
  by_cases h : f k < mn f k
  · rw [mn_t h]; omega
  · rw [mn_f h]; omega
theorem min_N' {a b : Nat} (ha : a < 2147483648) (hb : b < 2147483648) : mj_min (nI a) (nI b) = nI (min a b) := by
  unfold mj_min
  by_cases h : b < a
  · rw [if_pos ((nI_ltI hb ha).mpr h)]; congr 1; omega
  · rw [if_neg (fun e => h ((nI_ltI hb ha).mp e))]; congr 1; omega
theorem c_cappedN (z : mj_B) (d x : Nat) (hx : x < 2147483648) (F A : mj_S) : J (gC z) mX5_capped (d + 1) 0 [(0, .int (nI x))] [] F A (qN F A fun r => r = cap x) := j_mono (c_capped z d (nI x) F A) (fun v F' A' ⟨h1, h2, r, h3, h4⟩ => ⟨h1, h2, cap x, by
  rw [h3, h4, show (1000000 : Int32) = nI 1000000 from by decide +kernel, min_N' hx (by decide)]
  by_cases e : x ≤ 1000000
  · rw [cap_id e, Nat.min_eq_left e]
  · rw [cap_big e, Nat.min_eq_right (by omega)], rfl⟩)
theorem c_hasBitN (z : mj_B) (d s v : Nat) (hs : s < 256) (hv : v < 8) (F A : mj_S) : J (gC z) mX5_hasBit d 0 [(0, .int (nI s)), (1, .int (nI v))] [] F A (qN F A fun r => (r = 1 ∧ s / 2 ^ v % 2 = 1) ∨ (r = 0 ∧ ¬ s / 2 ^ v % 2 = 1)) := j_mono (c_hasBit z d (nI s) (nI v) F A) (fun w F' A' ⟨h1, h2, r, h3, h4, h5⟩ => ⟨h1, h2, r, h3, by
  rw [bit_get s hs v hv] at h5
  by_cases e : s / 2 ^ v % 2 = 1
  · exact Or.inl ⟨h5.mpr (by omega), e⟩
  · exact Or.inr ⟨by have : ¬ r = 1 := fun q => h5.mp q (by omega); omega, e⟩⟩)
/-- a cost with ties, not bounded yet -/
def bsd (c : CF) (t : TF) (s : Nat) (tk : VF) (u i : Nat) : Nat → Nat
  | 0 => c u i
  | v + 1 => if s / 2 ^ v % 2 = 1 then bsd c t s tk u i v + t u v i (tk v) else bsd c t s tk u i v
theorem bsd_t {c : CF} {t : TF} {s : Nat} {tk : VF} {u i v : Nat} (h : s / 2 ^ v % 2 = 1) : bsd c t s tk u i (v + 1) = bsd c t s tk u i v + t u v i (tk v) := if_pos h
theorem bsd_f {c : CF} {t : TF} {s : Nat} {tk : VF} {u i v : Nat} (h : ¬ s / 2 ^ v % 2 = 1) : bsd c t s tk u i (v + 1) = bsd c t s tk u i v := if_neg h
theorem bsd_cap {c : CF} {t : TF} {s : Nat} {tk : VF} {u i : Nat} (hc : ∀ a b, c a b ≤ 1000000) : ∀ v, cap (bsd c t s tk u i v) = sm c t s tk u i v
  | 0 => cap_id (hc u i)
  | v + 1 => by
    by_cases e : s / 2 ^ v % 2 = 1
    · rw [bsd_t e, sm_t e, ← bsd_cap hc v, cap_add]
    · rw [bsd_f e, sm_f e]; exact bsd_cap hc v
theorem bsd_le {c : CF} {t : TF} {s : Nat} {tk : VF} {u i : Nat} (hc : ∀ a b, c a b ≤ 1000000) (ht : ∀ a b i j, t a b i j ≤ 1000000) : ∀ v, bsd c t s tk u i v ≤ 1000000 * (v + 1)
  | 0 => by have := hc u i; show c u i ≤ _; omega
  | v + 1 => by
    have := bsd_le (s := s) (tk := tk) (u := u) (i := i) hc ht v
    have := ht u v i (tk v)
    by_cases e : s / 2 ^ v % 2 = 1
    · rw [bsd_t e]; omega
    · rw [bsd_f e]; omega
theorem bsd_end {c : CF} {t : TF} {s : Nat} {tk : VF} {u i v : Nat} (h : ∀ b, v ≤ b → ¬ s / 2 ^ b % 2 = 1) : ∀ k, bsd c t s tk u i (v + k) = bsd c t s tk u i v
  | 0 => rfl
  | k + 1 => (bsd_f (h (v + k) (by omega))).trans (bsd_end h k)
theorem bt_hi {s v : Nat} (h : s / 2 ^ v = 0) (b : Nat) (hb : v ≤ b) : ¬ s / 2 ^ b % 2 = 1 := by
  have h1 : s < 2 ^ v := by
    apply Classical.byContradiction
    intro q
    have := Nat.div_pos (a := s) (b := 2 ^ v) (by omega) (Nat.two_pow_pos v)
    omega
  have h2 : 2 ^ v ≤ 2 ^ b := Nat.pow_le_pow_right (by decide) hb
  rw [Nat.div_eq_of_lt (by omega)]
  decide
theorem bsd_n {c : CF} {t : TF} {s : Nat} {tk : VF} {u i v n : Nat} (h : s / 2 ^ v = 0) (hv : v ≤ n) : bsd c t s tk u i n = bsd c t s tk u i v := by
  obtain ⟨k, rfl⟩ : ∃ k, n = v + k := ⟨n - v, by omega⟩
  exact bsd_end (bt_hi h) k
theorem mb_bt {s u v : Nat} : (s % 2 ^ u) / 2 ^ v % 2 = 1 ↔ (v < u ∧ s / 2 ^ v % 2 = 1) := by
  rw [bt_tb, bt_tb, Nat.testBit_mod_two_pow, Bool.and_eq_true, decide_eq_true_eq]
theorem cap_cap (a b : Nat) : cap (a + cap b) = cap (a + b) := by rw [Nat.add_comm, cap_add, Nat.add_comm]
theorem pcv_bsd {c : CF} {t : TF} {mk tk : VF} {u x : Nat} : ∀ v, v ≤ u → pcv t mk tk u (cap (x + c u (tk u))) v = cap (x + bsd c t (mk u % 2 ^ u) tk u (tk u) v)
  | 0, _ => rfl
  | v + 1, h => by
    have ih := pcv_bsd (c := c) (t := t) (mk := mk) (tk := tk) (u := u) (x := x) v (by omega)
    by_cases e : mk u / 2 ^ v % 2 = 1
    · rw [pcv_t e, bsd_t (mb_bt.mpr ⟨by omega, e⟩), ih, cap_add, Nat.add_assoc]
    · rw [pcv_f e, bsd_f (fun q => e (mb_bt.mp q).2)]; exact ih
theorem pcu_sm {c : CF} {t : TF} {mk tk : VF} {u n : Nat} (hc : ∀ a b, c a b ≤ 1000000) (hu : u ≤ n) : pcu c t mk tk (u + 1) = cap (pcu c t mk tk u + sm c t (mk u % 2 ^ u) tk u (tk u) n) := by
  show pcv t mk tk u (cap (pcu c t mk tk u + c u (tk u))) u = _
  rw [pcv_bsd u (Nat.le_refl u), ← bsd_cap hc n, cap_cap]
  obtain ⟨k, rfl⟩ : ∃ k, n = u + k := ⟨n - u, by omega⟩
  rw [bsd_end (fun b hb q => by have := (mb_bt.mp q).1; omega) k]

set_option maxHeartbeats 400000 in
set_option maxRecDepth 100000 in
theorem x_areTied18 (z : mj_B) (d : Nat) (n : Nat) (mm : VF) (c : CF) (t : TF) (mk : VF) (hn : n ≤ 8) (hmm : ∀ u, u < n → 1 ≤ mm u ∧ mm u ≤ 4) (hcb : ∀ a b, c a b ≤ 1000000) (htb : ∀ a b i j, t a b i j ≤ 1000000) (hmk : ∀ u, mk u < 256) (u v : Nat) (hu : u < n) (hv : v < 8) (F A : mj_S) (hW : WT F A 18 n mm c t mk) : J (gC z) mX4_areTied (d + 1) 0 [(0, .ref 18), (1, .int (nI u)), (2, .int (nI v))] [] F A (qN F A fun r => (r = 1 ∧ mk u / 2 ^ v % 2 = 1) ∨ (r = 0 ∧ ¬ mk u / 2 ^ v % 2 = 1)) := by
  refine j_aload_n dX4_areTied_0 rfl ?_
  refine j_getR (r := 20) dX4_areTied_1 flX4_15 (Nat.le_of_ble_eq_true rfl) rfl rfl ?_
  refine j_iload_n dX4_areTied_4 rfl ?_
  refine j_ialdN dX4_areTied_5 (Nat.le_of_ble_eq_true rfl) rfl (by omega) (by decide) ?_
  have hma1 := hmk u
  refine j_top (y0 := nI (mk u)) (hW.2.1 u (by omega)).2 ?_
  refine j_iload_n dX4_areTied_6 rfl ?_
  refine j_callSN (y' := mX5_hasBit) (As := [.int (nI (mk u)), .int (nI v)]) (st := []) dX4_areTied_7 lnX4_59 okX5_hasBit stX5_hasBit rfl (Nat.le_of_ble_eq_true rfl) (Nat.le_of_ble_eq_true rfl) (c_hasBitN z _ (mk u) v (by omega) (by omega) F A) (fun v7 F7 A7 hq7 => ?_)
  obtain ⟨rfl, rfl, r7, rfl, hr7⟩ := hq7
  have hb7 : r7 ≤ 1 := by omega
  exact j_iret dX4_areTied_10 rfl (mj_nz hb7) ⟨rfl, rfl, _, rfl, hr7⟩

set_option maxHeartbeats 400000 in
set_option maxRecDepth 100000 in
theorem x_entryAt18 (z : mj_B) (d : Nat) (n : Nat) (mm : VF) (c : CF) (t : TF) (mk : VF) (hn : n ≤ 8) (hmm : ∀ u, u < n → 1 ≤ mm u ∧ mm u ≤ 4) (hcb : ∀ a b, c a b ≤ 1000000) (htb : ∀ a b i j, t a b i j ≤ 1000000) (hmk : ∀ u, mk u < 256) (u v i j : Nat) (hu : u < n) (hv : v < n) (huv : u ≠ v) (hi : i < mm u) (hj : j < mm v) (hbt : mk u / 2 ^ v % 2 = 1) (F A : mj_S) (hW : WT F A 18 n mm c t mk) : J (gC z) mX4_entryAt (d + 1) 0 [(0, .ref 18), (1, .int (nI u)), (2, .int (nI v)), (3, .int (nI i)), (4, .int (nI j))] [] F A (qN F A fun r => r = t u v i j) := by
  have h4u := (hmm u hu).2
  have h4v := (hmm v hv).2
  refine j_aload_n dX4_entryAt_0 rfl ?_
  refine j_getR (r := 22) dX4_entryAt_1 flX4_21 (Nat.le_of_ble_eq_true rfl) rfl rfl ?_
  refine j_iload_n dX4_entryAt_4 rfl ?_
  refine j_iload_n dX4_entryAt_5 rfl ?_
  refine j_iload_n dX4_entryAt_6 rfl ?_
  refine j_iload dX4_entryAt_7 rfl ?_
  refine j_callSN (y' := mX5_entryPlace) (As := [.int (nI u), .int (nI v), .int (nI i), .int (nI j)]) (st := [.ref 22]) dX4_entryAt_9 lnX4_52 okX5_entryPlace stX5_entryPlace rfl (Nat.le_of_ble_eq_true rfl) (Nat.le_of_ble_eq_true rfl) (c_entryPlace z _ u v i j (by omega) (by omega) (by omega) F A) (fun v9 F9 A9 hq9 => ?_)
  obtain ⟨rfl, rfl, e9, rfl, he9⟩ := hq9
  have hl9 : e9 < 448 := by rw [he9]; exact eP_lt (by omega) (by omega) (by omega) (by omega) (by omega)
  refine j_ialdN dX4_entryAt_12 (Nat.le_of_ble_eq_true rfl) rfl (by omega) (by decide) ?_
  have hen1 : t u v i j ≤ 1000000 := htb u v i j
  refine j_top (y0 := nI (t u v i j)) (by rw [he9]; exact hW.2.2.2 u v i j (by omega) (by omega) (by omega) (by omega) (by omega) hbt) ?_
  exact j_iret dX4_entryAt_13 rfl rfl ⟨rfl, rfl, _, rfl, rfl⟩

set_option maxHeartbeats 400000 in
set_option maxRecDepth 100000 in
theorem x_costAt18 (z : mj_B) (d : Nat) (n : Nat) (mm : VF) (c : CF) (t : TF) (mk : VF) (hn : n ≤ 8) (hmm : ∀ u, u < n → 1 ≤ mm u ∧ mm u ≤ 4) (hcb : ∀ a b, c a b ≤ 1000000) (htb : ∀ a b i j, t a b i j ≤ 1000000) (hmk : ∀ u, mk u < 256) (u i : Nat) (hu : u < n) (hi : i < mm u) (F A : mj_S) (hW : WT F A 18 n mm c t mk) : J (gC z) mX4_costAt (d + 1) 0 [(0, .ref 18), (1, .int (nI u)), (2, .int (nI i))] [] F A (qN F A fun r => r = c u i) := by
  have h4u := (hmm u hu).2
  refine j_aload_n dX4_costAt_0 rfl ?_
  refine j_getR (r := 21) dX4_costAt_1 flX4_18 (Nat.le_of_ble_eq_true rfl) rfl rfl ?_
  refine j_iload_n dX4_costAt_4 rfl ?_
  refine j_iload_n dX4_costAt_5 rfl ?_
  refine j_callSN (y' := mX5_choicePlace) (As := [.int (nI u), .int (nI i)]) (st := [.ref 21]) dX4_costAt_6 lnX4_37 okX5_choicePlace stX5_choicePlace rfl (Nat.le_of_ble_eq_true rfl) (Nat.le_of_ble_eq_true rfl) (c_choicePlace z _ u i F A) (fun v6 F6 A6 hq6 => ?_)
  obtain ⟨rfl, rfl, _, rfl, rfl⟩ := hq6
  refine j_ialdN dX4_costAt_9 (Nat.le_of_ble_eq_true rfl) rfl (by omega) (by decide) ?_
  have hco1 : c u i ≤ 1000000 := hcb u i
  refine j_top (y0 := nI (c u i)) (hW.2.2.1 u i (by omega) (by omega)) ?_
  exact j_iret dX4_costAt_10 rfl rfl ⟨rfl, rfl, _, rfl, rfl⟩

set_option maxHeartbeats 400000 in
set_option maxRecDepth 100000 in
theorem x_matesBelow18 (z : mj_B) (d : Nat) (n : Nat) (mm : VF) (c : CF) (t : TF) (mk : VF) (hn : n ≤ 8) (hmm : ∀ u, u < n → 1 ≤ mm u ∧ mm u ≤ 4) (hcb : ∀ a b, c a b ≤ 1000000) (htb : ∀ a b i j, t a b i j ≤ 1000000) (hmk : ∀ u, mk u < 256) (u : Nat) (hu : u < n) (F A : mj_S) (hW : WT F A 18 n mm c t mk) : J (gC z) mX4_matesBelow d 0 [(0, .ref 18), (1, .int (nI u))] [] F A (qN F A fun r => r = mk u % 2 ^ u) := by
  have h1p : 1 ≤ 2 ^ u := Nat.one_le_two_pow
  refine j_aload_n dX4_matesBelow_0 rfl ?_
  refine j_getR (r := 20) dX4_matesBelow_1 flX4_15 (Nat.le_of_ble_eq_true rfl) rfl rfl ?_
  refine j_iload_n dX4_matesBelow_4 rfl ?_
  refine j_ialdN dX4_matesBelow_5 (Nat.le_of_ble_eq_true rfl) rfl (by omega) (by decide) ?_
  have hma1 := hmk u
  refine j_top (y0 := nI (mk u)) (hW.2.1 u (by omega)).2 ?_
  refine j_iconst (v := nI 1) dX4_matesBelow_6 (by decide +kernel) ?_
  refine j_iload_n dX4_matesBelow_7 rfl ?_
  refine j_ishl dX4_matesBelow_8 ?_
  refine j_top (y0 := nI (2 ^ u)) (shl_1 (by omega)) ?_
  refine j_iconst (v := nI 1) dX4_matesBelow_9 (by decide +kernel) ?_
  refine j_isubN dX4_matesBelow_10 (by omega) ?_
  refine j_iand dX4_matesBelow_11 ?_
  refine j_top (y0 := nI (mk u % 2 ^ u)) (by rw [fa_and, Nat.and_two_pow_sub_one_eq_mod]) ?_
  exact j_iret dX4_matesBelow_12 rfl rfl ⟨rfl, rfl, _, rfl, rfl⟩

set_option maxHeartbeats 400000 in
set_option maxRecDepth 100000 in
theorem x_leastCost18 (z : mj_B) (d : Nat) (n : Nat) (mm : VF) (c : CF) (t : TF) (mk : VF) (hn : n ≤ 8) (hmm : ∀ u, u < n → 1 ≤ mm u ∧ mm u ≤ 4) (hcb : ∀ a b, c a b ≤ 1000000) (htb : ∀ a b i j, t a b i j ≤ 1000000) (hmk : ∀ u, mk u < 256) (u : Nat) (hu : u < n) (F A : mj_S) (hW : WT F A 18 n mm c t mk) : J (gC z) mX4_leastCost (d + 2) 0 [(0, .ref 18), (1, .int (nI u))] [] F A (qN F A fun r => r = mn (fun i => c u i) (mm u)) := by
  have h4u := (hmm u hu).2
  have L5 : ∀ (fuel : Nat) (le : Nat) (i : Nat), (i ≤ mm u) → (le = mn (fun i => c u i) i) → mm u - i < fuel → J (gC z) mX4_leastCost (d + 2) 5 [(0, .ref 18), (1, .int (nI u)), (2, .int (nI le)), (3, .int (nI i))] [] F A (qN F A fun r => r = mn (fun i => c u i) (mm u)) := by
    intro fuel
    induction fuel with
    | zero => intro le i h1 hle hf; exact absurd hf (by omega)
    | succ fuel ih5 =>
      intro le i h1 hle hf
      have hlb : le ≤ 1000000 := by rw [hle]; exact mn_le _ _
      refine j_iload_n dX4_leastCost_5 rfl ?_
      refine j_aload_n dX4_leastCost_6 rfl ?_
      refine j_getR (r := 19) dX4_leastCost_7 flX4_9 (Nat.le_of_ble_eq_true rfl) rfl rfl ?_
      refine j_iload_n dX4_leastCost_10 rfl ?_
      refine j_ialdN dX4_leastCost_11 (Nat.le_of_ble_eq_true rfl) rfl (by omega) (by decide) ?_
      have hch1 := hmm u (by omega)
      refine j_top (y0 := nI (mm u)) (hW.2.1 u (by omega)).1 ?_
      refine j_icmp_geN (tgt := 32) dX4_leastCost_12 (by decide) (by omega) (by omega) (fun c12 => ?_) (fun c12 => ?_)
      · refine j_iload_n dX4_leastCost_32 rfl ?_
        exact j_iret dX4_leastCost_33 rfl rfl ⟨rfl, rfl, _, rfl, by rw [hle, show i = mm u by omega]⟩
      · refine j_iload_n dX4_leastCost_15 rfl ?_
        refine j_aload_n dX4_leastCost_16 rfl ?_
        refine j_iload_n dX4_leastCost_17 rfl ?_
        refine j_iload_n dX4_leastCost_18 rfl ?_
        refine j_callV (y' := mX4_costAt) (As := [.int (nI u), .int (nI i)]) (st := [.int (nI le)]) dX4_leastCost_19 lkX4_79 okX4_costAt imX4_costAt seX4_costAt (Nat.le_of_ble_eq_true rfl) rfl rfl rfl rfl (Nat.le_of_ble_eq_true rfl) (Nat.le_of_ble_eq_true rfl) (x_costAt18 z _ n mm c t mk hn hmm hcb htb hmk u i (by omega) (by omega) F A hW) (fun v19 F19 A19 hq19 => ?_)
        obtain ⟨rfl, rfl, _, rfl, rfl⟩ := hq19
        have hkb2 : c u i ≤ 1000000 := hcb u i
        refine j_min dX4_leastCost_22 lkX4_74 mn_st mn_in mn_co (Nat.le_of_ble_eq_true rfl) ?_
        refine j_top (y0 := nI (min le (c u i))) (min_N' (by omega) (by omega)) ?_
        refine j_istore_n (lv' := [(0, .ref 18), (1, .int (nI u)), (2, .int (nI (min le (c u i)))), (3, .int (nI i))]) dX4_leastCost_25 (Nat.le_of_ble_eq_true rfl) rfl rfl ?_
        refine j_iinc (v := nI (i + 1)) (lv' := [(0, .ref 18), (1, .int (nI u)), (2, .int (nI (min le (c u i)))), (3, .int (nI (i + 1)))]) dX4_leastCost_26 rfl (nI_add _ 1) (Nat.le_of_ble_eq_true rfl) rfl rfl ?_
        refine j_goto (tgt := 5) dX4_leastCost_29 (by decide) ?_
        exact ih5 (min le (c u i)) (i + 1) (by first | exact h1 | omega) (by rw [hle]; exact mn_min (fun i => c u i) i) (by omega)
  refine j_ldc dX4_leastCost_0 kcX4_66 ?_
  refine j_top (y0 := nI 1000000) (by decide +kernel) ?_
  refine j_istore_n (lv' := [(0, .ref 18), (1, .int (nI u)), (2, .int (nI 1000000))]) dX4_leastCost_2 (Nat.le_of_ble_eq_true rfl) rfl rfl ?_
  refine j_iconst (v := nI 0) dX4_leastCost_3 (by decide +kernel) ?_
  refine j_istore_n (lv' := [(0, .ref 18), (1, .int (nI u)), (2, .int (nI 1000000)), (3, .int (nI 0))]) dX4_leastCost_4 (Nat.le_of_ble_eq_true rfl) rfl rfl ?_
  exact L5 _ 1000000 0 (Nat.zero_le _) rfl (Nat.lt_succ_self _)

set_option maxHeartbeats 400000 in
set_option maxRecDepth 100000 in
theorem x_costBeside18_8 (z : mj_B) (d : Nat) (n : Nat) (mm : VF) (c : CF) (t : TF) (mk : VF) (hn : n ≤ 8) (hmm : ∀ u, u < n → 1 ≤ mm u ∧ mm u ≤ 4) (hcb : ∀ a b, c a b ≤ 1000000) (htb : ∀ a b i j, t a b i j ≤ 1000000) (hmk : ∀ u, mk u < 256) (u i s : Nat) (hu : u < n) (hi : i < mm u) (hs : s < 256) (tk : VF) (F A : mj_S) (hW : WT F A 18 n mm c t mk) (htk : ∀ v, s / 2 ^ v % 2 = 1 → v < n ∧ u ≠ v ∧ mk u / 2 ^ v % 2 = 1 ∧ A 8 v = nI (tk v) ∧ tk v < mm v) : J (gC z) mX4_costBeside (d + 2) 0 [(0, .ref 18), (1, .int (nI u)), (2, .int (nI i)), (3, .int (nI s)), (4, .ref 8)] [] F A (qN F A fun r => r = sm c t s tk u i n) := by
  have h4u := (hmm u hu).2
  have L22 : ∀ (fuel : Nat) (su : Nat) (v : Nat), (v ≤ n) → (su = bsd c t s tk u i v) → n - v < fuel → J (gC z) mX4_costBeside (d + 2) 22 [(0, .ref 18), (1, .int (nI u)), (2, .int (nI i)), (3, .int (nI s)), (4, .ref 8), (5, .int (nI su)), (6, .int (nI v))] [] F A (qN F A fun r => r = sm c t s tk u i n) := by
    intro fuel
    induction fuel with
    | zero => intro su v h1 hsu hf; exact absurd hf (by omega)
    | succ fuel ih22 =>
      intro su v h1 hsu hf
      have hsl : su ≤ 1000000 * (v + 1) := by rw [hsu]; exact bsd_le hcb htb v
      refine j_iload dX4_costBeside_22 rfl ?_
      refine j_aload_n dX4_costBeside_24 rfl ?_
      refine j_getI dX4_costBeside_25 flX4_30 (Nat.le_of_ble_eq_true rfl) rfl rfl ?_
      refine j_top (y0 := nI n) hW.1 ?_
      refine j_icmp_geN (tgt := 75) dX4_costBeside_28 (by decide) (by omega) (by omega) (fun c28 => ?_) (fun c28 => ?_)
      · have hend : bsd c t s tk u i n = bsd c t s tk u i v := by rw [show v = n by omega]
        refine j_iload dX4_costBeside_75 rfl ?_
        refine j_callSN (y' := mX5_capped) (As := [.int (nI su)]) (st := []) dX4_costBeside_77 lnX4_62 okX5_capped stX5_capped rfl (Nat.le_of_ble_eq_true rfl) (Nat.le_of_ble_eq_true rfl) (c_cappedN z _ su (by omega) F A) (fun v77 F77 A77 hq77 => ?_)
        obtain ⟨rfl, rfl, _, rfl, rfl⟩ := hq77
        have hcp1 := cap_le su
        exact j_iret dX4_costBeside_80 rfl rfl ⟨rfl, rfl, _, rfl, by rw [← bsd_cap hcb n, hend, hsu]⟩
      · have hdv := Nat.div_le_self s (2 ^ v)
        refine j_iload_n dX4_costBeside_31 rfl ?_
        refine j_iload dX4_costBeside_32 rfl ?_
        refine j_ishr dX4_costBeside_34 ?_
        refine j_top (y0 := nI (s / 2 ^ v)) (pk_shrN (by omega) _ v (s_l v (by omega))) ?_
        refine j_if_eqN (tgt := 75) dX4_costBeside_35 (by decide) (by omega) (fun c35 => ?_) (fun c35 => ?_)
        · have hend : bsd c t s tk u i n = bsd c t s tk u i v := bsd_n c35 h1
          refine j_iload dX4_costBeside_75 rfl ?_
          refine j_callSN (y' := mX5_capped) (As := [.int (nI su)]) (st := []) dX4_costBeside_77 lnX4_62 okX5_capped stX5_capped rfl (Nat.le_of_ble_eq_true rfl) (Nat.le_of_ble_eq_true rfl) (c_cappedN z _ su (by omega) F A) (fun v77 F77 A77 hq77 => ?_)
          obtain ⟨rfl, rfl, _, rfl, rfl⟩ := hq77
          have hcp2 := cap_le su
          exact j_iret dX4_costBeside_80 rfl rfl ⟨rfl, rfl, _, rfl, by rw [← bsd_cap hcb n, hend, hsu]⟩
        · refine j_iload_n dX4_costBeside_38 rfl ?_
          refine j_iload dX4_costBeside_39 rfl ?_
          refine j_callSN (y' := mX5_hasBit) (As := [.int (nI s), .int (nI v)]) (st := []) dX4_costBeside_41 lnX4_59 okX5_hasBit stX5_hasBit rfl (Nat.le_of_ble_eq_true rfl) (Nat.le_of_ble_eq_true rfl) (c_hasBitN z _ s v (by omega) (by omega) F A) (fun v41 F41 A41 hq41 => ?_)
          obtain ⟨rfl, rfl, r41, rfl, hr41⟩ := hq41
          have hb41 : r41 ≤ 1 := by omega
          refine j_if_eqN (tgt := 69) dX4_costBeside_44 (by decide) (by omega) (fun c44 => ?_) (fun c44 => ?_)
          · have hbn : ¬ s / 2 ^ v % 2 = 1 := by omega
            refine j_iinc (v := nI (v + 1)) (lv' := [(0, .ref 18), (1, .int (nI u)), (2, .int (nI i)), (3, .int (nI s)), (4, .ref 8), (5, .int (nI su)), (6, .int (nI (v + 1)))]) dX4_costBeside_69 rfl (nI_add _ 1) (Nat.le_of_ble_eq_true rfl) rfl rfl ?_
            refine j_goto (tgt := 22) dX4_costBeside_72 (by decide) ?_
            exact ih22 su (v + 1) (by first | exact h1 | omega) (by first | rw [bsd_t hbs, ← hsu] | (rw [bsd_f hbn]; exact hsu)) (by omega)
          · have hbs : s / 2 ^ v % 2 = 1 := by omega
            obtain ⟨hv, hne, hbt, htv, htl⟩ := htk v hbs
            have h4v := (hmm v hv).2
            refine j_iload dX4_costBeside_47 rfl ?_
            refine j_aload_n dX4_costBeside_49 rfl ?_
            refine j_getR (r := 22) dX4_costBeside_50 flX4_21 (Nat.le_of_ble_eq_true rfl) rfl rfl ?_
            refine j_iload_n dX4_costBeside_53 rfl ?_
            refine j_iload dX4_costBeside_54 rfl ?_
            refine j_iload_n dX4_costBeside_56 rfl ?_
            refine j_aload dX4_costBeside_57 rfl ?_
            refine j_iload dX4_costBeside_59 rfl ?_
            refine j_ialdN dX4_costBeside_61 (Nat.le_of_ble_eq_true rfl) rfl (by omega) (by decide) ?_
            refine j_top (y0 := nI (tk v)) htv ?_
            refine j_callSN (y' := mX5_entryPlace) (As := [.int (nI u), .int (nI v), .int (nI i), .int (nI (tk v))]) (st := [.ref 22, .int (nI su)]) dX4_costBeside_62 lnX4_52 okX5_entryPlace stX5_entryPlace rfl (Nat.le_of_ble_eq_true rfl) (Nat.le_of_ble_eq_true rfl) (c_entryPlace z _ u v i (tk v) (by omega) (by omega) (by omega) F A) (fun v62 F62 A62 hq62 => ?_)
            obtain ⟨rfl, rfl, e62, rfl, he62⟩ := hq62
            have hl62 : e62 < 448 := by rw [he62]; exact eP_lt (by omega) (by omega) (by omega) (by omega) (by omega)
            refine j_ialdN dX4_costBeside_65 (Nat.le_of_ble_eq_true rfl) rfl (by omega) (by decide) ?_
            have hen3 : t u v i (tk v) ≤ 1000000 := htb u v i (tk v)
            refine j_top (y0 := nI (t u v i (tk v))) (by rw [he62]; exact hW.2.2.2 u v i (tk v) (by omega) (by omega) (by omega) (by omega) (by omega) hbt) ?_
            refine j_iaddN dX4_costBeside_66 ?_
            refine j_istore (lv' := [(0, .ref 18), (1, .int (nI u)), (2, .int (nI i)), (3, .int (nI s)), (4, .ref 8), (5, .int (nI (su + (t u v i (tk v))))), (6, .int (nI v))]) dX4_costBeside_67 (Nat.le_of_ble_eq_true rfl) rfl rfl ?_
            refine j_iinc (v := nI (v + 1)) (lv' := [(0, .ref 18), (1, .int (nI u)), (2, .int (nI i)), (3, .int (nI s)), (4, .ref 8), (5, .int (nI (su + (t u v i (tk v))))), (6, .int (nI (v + 1)))]) dX4_costBeside_69 rfl (nI_add _ 1) (Nat.le_of_ble_eq_true rfl) rfl rfl ?_
            refine j_goto (tgt := 22) dX4_costBeside_72 (by decide) ?_
            exact ih22 (su + (t u v i (tk v))) (v + 1) (by first | exact h1 | omega) (by first | rw [bsd_t hbs, ← hsu] | (rw [bsd_f hbn]; exact hsu)) (by omega)
  refine j_aload_n dX4_costBeside_0 rfl ?_
  refine j_getR (r := 21) dX4_costBeside_1 flX4_18 (Nat.le_of_ble_eq_true rfl) rfl rfl ?_
  refine j_iload_n dX4_costBeside_4 rfl ?_
  refine j_iload_n dX4_costBeside_5 rfl ?_
  refine j_callSN (y' := mX5_choicePlace) (As := [.int (nI u), .int (nI i)]) (st := [.ref 21]) dX4_costBeside_6 lnX4_37 okX5_choicePlace stX5_choicePlace rfl (Nat.le_of_ble_eq_true rfl) (Nat.le_of_ble_eq_true rfl) (c_choicePlace z _ u i F A) (fun v6 F6 A6 hq6 => ?_)
  obtain ⟨rfl, rfl, _, rfl, rfl⟩ := hq6
  refine j_ialdN dX4_costBeside_9 (Nat.le_of_ble_eq_true rfl) rfl (by omega) (by decide) ?_
  have hco4 : c u i ≤ 1000000 := hcb u i
  refine j_top (y0 := nI (c u i)) (hW.2.2.1 u i (by omega) (by omega)) ?_
  refine j_istore (lv' := [(0, .ref 18), (1, .int (nI u)), (2, .int (nI i)), (3, .int (nI s)), (4, .ref 8), (5, .int (nI (c u i)))]) dX4_costBeside_10 (Nat.le_of_ble_eq_true rfl) rfl rfl ?_
  refine j_iload_n dX4_costBeside_12 rfl ?_
  refine j_if_neN (tgt := 19) dX4_costBeside_13 (by decide) (by omega) (fun c13 => ?_) (fun c13 => ?_)
  · refine j_iconst (v := nI 0) dX4_costBeside_19 (by decide +kernel) ?_
    refine j_istore (lv' := [(0, .ref 18), (1, .int (nI u)), (2, .int (nI i)), (3, .int (nI s)), (4, .ref 8), (5, .int (nI (c u i))), (6, .int (nI 0))]) dX4_costBeside_20 (Nat.le_of_ble_eq_true rfl) rfl rfl ?_
    exact L22 _ (c u i) 0 (Nat.zero_le _) rfl (Nat.lt_succ_self _)
  · refine j_iload dX4_costBeside_16 rfl ?_
    exact j_iret dX4_costBeside_18 rfl rfl ⟨rfl, rfl, _, rfl, by rw [c13, ← bsd_cap hcb n, bsd_n (v := 0) (by decide) (Nat.zero_le n)]; exact (cap_id (hcb u i)).symm⟩

set_option maxHeartbeats 400000 in
set_option maxRecDepth 100000 in
theorem x_costBeside18_12 (z : mj_B) (d : Nat) (n : Nat) (mm : VF) (c : CF) (t : TF) (mk : VF) (hn : n ≤ 8) (hmm : ∀ u, u < n → 1 ≤ mm u ∧ mm u ≤ 4) (hcb : ∀ a b, c a b ≤ 1000000) (htb : ∀ a b i j, t a b i j ≤ 1000000) (hmk : ∀ u, mk u < 256) (u i s : Nat) (hu : u < n) (hi : i < mm u) (hs : s < 256) (tk : VF) (F A : mj_S) (hW : WT F A 18 n mm c t mk) (htk : ∀ v, s / 2 ^ v % 2 = 1 → v < n ∧ u ≠ v ∧ mk u / 2 ^ v % 2 = 1 ∧ A 12 v = nI (tk v) ∧ tk v < mm v) : J (gC z) mX4_costBeside (d + 2) 0 [(0, .ref 18), (1, .int (nI u)), (2, .int (nI i)), (3, .int (nI s)), (4, .ref 12)] [] F A (qN F A fun r => r = sm c t s tk u i n) := by
  have h4u := (hmm u hu).2
  have L22 : ∀ (fuel : Nat) (su : Nat) (v : Nat), (v ≤ n) → (su = bsd c t s tk u i v) → n - v < fuel → J (gC z) mX4_costBeside (d + 2) 22 [(0, .ref 18), (1, .int (nI u)), (2, .int (nI i)), (3, .int (nI s)), (4, .ref 12), (5, .int (nI su)), (6, .int (nI v))] [] F A (qN F A fun r => r = sm c t s tk u i n) := by
    intro fuel
    induction fuel with
    | zero => intro su v h1 hsu hf; exact absurd hf (by omega)
    | succ fuel ih22 =>
      intro su v h1 hsu hf
      have hsl : su ≤ 1000000 * (v + 1) := by rw [hsu]; exact bsd_le hcb htb v
      refine j_iload dX4_costBeside_22 rfl ?_
      refine j_aload_n dX4_costBeside_24 rfl ?_
      refine j_getI dX4_costBeside_25 flX4_30 (Nat.le_of_ble_eq_true rfl) rfl rfl ?_
      refine j_top (y0 := nI n) hW.1 ?_
      refine j_icmp_geN (tgt := 75) dX4_costBeside_28 (by decide) (by omega) (by omega) (fun c28 => ?_) (fun c28 => ?_)
      · have hend : bsd c t s tk u i n = bsd c t s tk u i v := by rw [show v = n by omega]
        refine j_iload dX4_costBeside_75 rfl ?_
        refine j_callSN (y' := mX5_capped) (As := [.int (nI su)]) (st := []) dX4_costBeside_77 lnX4_62 okX5_capped stX5_capped rfl (Nat.le_of_ble_eq_true rfl) (Nat.le_of_ble_eq_true rfl) (c_cappedN z _ su (by omega) F A) (fun v77 F77 A77 hq77 => ?_)
        obtain ⟨rfl, rfl, _, rfl, rfl⟩ := hq77
        have hcp1 := cap_le su
        exact j_iret dX4_costBeside_80 rfl rfl ⟨rfl, rfl, _, rfl, by rw [← bsd_cap hcb n, hend, hsu]⟩
      · have hdv := Nat.div_le_self s (2 ^ v)
        refine j_iload_n dX4_costBeside_31 rfl ?_
        refine j_iload dX4_costBeside_32 rfl ?_
        refine j_ishr dX4_costBeside_34 ?_
        refine j_top (y0 := nI (s / 2 ^ v)) (pk_shrN (by omega) _ v (s_l v (by omega))) ?_
        refine j_if_eqN (tgt := 75) dX4_costBeside_35 (by decide) (by omega) (fun c35 => ?_) (fun c35 => ?_)
        · have hend : bsd c t s tk u i n = bsd c t s tk u i v := bsd_n c35 h1
          refine j_iload dX4_costBeside_75 rfl ?_
          refine j_callSN (y' := mX5_capped) (As := [.int (nI su)]) (st := []) dX4_costBeside_77 lnX4_62 okX5_capped stX5_capped rfl (Nat.le_of_ble_eq_true rfl) (Nat.le_of_ble_eq_true rfl) (c_cappedN z _ su (by omega) F A) (fun v77 F77 A77 hq77 => ?_)
          obtain ⟨rfl, rfl, _, rfl, rfl⟩ := hq77
          have hcp2 := cap_le su
          exact j_iret dX4_costBeside_80 rfl rfl ⟨rfl, rfl, _, rfl, by rw [← bsd_cap hcb n, hend, hsu]⟩
        · refine j_iload_n dX4_costBeside_38 rfl ?_
          refine j_iload dX4_costBeside_39 rfl ?_
          refine j_callSN (y' := mX5_hasBit) (As := [.int (nI s), .int (nI v)]) (st := []) dX4_costBeside_41 lnX4_59 okX5_hasBit stX5_hasBit rfl (Nat.le_of_ble_eq_true rfl) (Nat.le_of_ble_eq_true rfl) (c_hasBitN z _ s v (by omega) (by omega) F A) (fun v41 F41 A41 hq41 => ?_)
          obtain ⟨rfl, rfl, r41, rfl, hr41⟩ := hq41
          have hb41 : r41 ≤ 1 := by omega
          refine j_if_eqN (tgt := 69) dX4_costBeside_44 (by decide) (by omega) (fun c44 => ?_) (fun c44 => ?_)
          · have hbn : ¬ s / 2 ^ v % 2 = 1 := by omega
            refine j_iinc (v := nI (v + 1)) (lv' := [(0, .ref 18), (1, .int (nI u)), (2, .int (nI i)), (3, .int (nI s)), (4, .ref 12), (5, .int (nI su)), (6, .int (nI (v + 1)))]) dX4_costBeside_69 rfl (nI_add _ 1) (Nat.le_of_ble_eq_true rfl) rfl rfl ?_
            refine j_goto (tgt := 22) dX4_costBeside_72 (by decide) ?_
            exact ih22 su (v + 1) (by first | exact h1 | omega) (by first | rw [bsd_t hbs, ← hsu] | (rw [bsd_f hbn]; exact hsu)) (by omega)
          · have hbs : s / 2 ^ v % 2 = 1 := by omega
            obtain ⟨hv, hne, hbt, htv, htl⟩ := htk v hbs
            have h4v := (hmm v hv).2
            refine j_iload dX4_costBeside_47 rfl ?_
            refine j_aload_n dX4_costBeside_49 rfl ?_
            refine j_getR (r := 22) dX4_costBeside_50 flX4_21 (Nat.le_of_ble_eq_true rfl) rfl rfl ?_
            refine j_iload_n dX4_costBeside_53 rfl ?_
            refine j_iload dX4_costBeside_54 rfl ?_
            refine j_iload_n dX4_costBeside_56 rfl ?_
            refine j_aload dX4_costBeside_57 rfl ?_
            refine j_iload dX4_costBeside_59 rfl ?_
            refine j_ialdN dX4_costBeside_61 (Nat.le_of_ble_eq_true rfl) rfl (by omega) (by decide) ?_
            refine j_top (y0 := nI (tk v)) htv ?_
            refine j_callSN (y' := mX5_entryPlace) (As := [.int (nI u), .int (nI v), .int (nI i), .int (nI (tk v))]) (st := [.ref 22, .int (nI su)]) dX4_costBeside_62 lnX4_52 okX5_entryPlace stX5_entryPlace rfl (Nat.le_of_ble_eq_true rfl) (Nat.le_of_ble_eq_true rfl) (c_entryPlace z _ u v i (tk v) (by omega) (by omega) (by omega) F A) (fun v62 F62 A62 hq62 => ?_)
            obtain ⟨rfl, rfl, e62, rfl, he62⟩ := hq62
            have hl62 : e62 < 448 := by rw [he62]; exact eP_lt (by omega) (by omega) (by omega) (by omega) (by omega)
            refine j_ialdN dX4_costBeside_65 (Nat.le_of_ble_eq_true rfl) rfl (by omega) (by decide) ?_
            have hen3 : t u v i (tk v) ≤ 1000000 := htb u v i (tk v)
            refine j_top (y0 := nI (t u v i (tk v))) (by rw [he62]; exact hW.2.2.2 u v i (tk v) (by omega) (by omega) (by omega) (by omega) (by omega) hbt) ?_
            refine j_iaddN dX4_costBeside_66 ?_
            refine j_istore (lv' := [(0, .ref 18), (1, .int (nI u)), (2, .int (nI i)), (3, .int (nI s)), (4, .ref 12), (5, .int (nI (su + (t u v i (tk v))))), (6, .int (nI v))]) dX4_costBeside_67 (Nat.le_of_ble_eq_true rfl) rfl rfl ?_
            refine j_iinc (v := nI (v + 1)) (lv' := [(0, .ref 18), (1, .int (nI u)), (2, .int (nI i)), (3, .int (nI s)), (4, .ref 12), (5, .int (nI (su + (t u v i (tk v))))), (6, .int (nI (v + 1)))]) dX4_costBeside_69 rfl (nI_add _ 1) (Nat.le_of_ble_eq_true rfl) rfl rfl ?_
            refine j_goto (tgt := 22) dX4_costBeside_72 (by decide) ?_
            exact ih22 (su + (t u v i (tk v))) (v + 1) (by first | exact h1 | omega) (by first | rw [bsd_t hbs, ← hsu] | (rw [bsd_f hbn]; exact hsu)) (by omega)
  refine j_aload_n dX4_costBeside_0 rfl ?_
  refine j_getR (r := 21) dX4_costBeside_1 flX4_18 (Nat.le_of_ble_eq_true rfl) rfl rfl ?_
  refine j_iload_n dX4_costBeside_4 rfl ?_
  refine j_iload_n dX4_costBeside_5 rfl ?_
  refine j_callSN (y' := mX5_choicePlace) (As := [.int (nI u), .int (nI i)]) (st := [.ref 21]) dX4_costBeside_6 lnX4_37 okX5_choicePlace stX5_choicePlace rfl (Nat.le_of_ble_eq_true rfl) (Nat.le_of_ble_eq_true rfl) (c_choicePlace z _ u i F A) (fun v6 F6 A6 hq6 => ?_)
  obtain ⟨rfl, rfl, _, rfl, rfl⟩ := hq6
  refine j_ialdN dX4_costBeside_9 (Nat.le_of_ble_eq_true rfl) rfl (by omega) (by decide) ?_
  have hco4 : c u i ≤ 1000000 := hcb u i
  refine j_top (y0 := nI (c u i)) (hW.2.2.1 u i (by omega) (by omega)) ?_
  refine j_istore (lv' := [(0, .ref 18), (1, .int (nI u)), (2, .int (nI i)), (3, .int (nI s)), (4, .ref 12), (5, .int (nI (c u i)))]) dX4_costBeside_10 (Nat.le_of_ble_eq_true rfl) rfl rfl ?_
  refine j_iload_n dX4_costBeside_12 rfl ?_
  refine j_if_neN (tgt := 19) dX4_costBeside_13 (by decide) (by omega) (fun c13 => ?_) (fun c13 => ?_)
  · refine j_iconst (v := nI 0) dX4_costBeside_19 (by decide +kernel) ?_
    refine j_istore (lv' := [(0, .ref 18), (1, .int (nI u)), (2, .int (nI i)), (3, .int (nI s)), (4, .ref 12), (5, .int (nI (c u i))), (6, .int (nI 0))]) dX4_costBeside_20 (Nat.le_of_ble_eq_true rfl) rfl rfl ?_
    exact L22 _ (c u i) 0 (Nat.zero_le _) rfl (Nat.lt_succ_self _)
  · refine j_iload dX4_costBeside_16 rfl ?_
    exact j_iret dX4_costBeside_18 rfl rfl ⟨rfl, rfl, _, rfl, by rw [c13, ← bsd_cap hcb n, bsd_n (v := 0) (by decide) (Nat.zero_le n)]; exact (cap_id (hcb u i)).symm⟩

set_option maxHeartbeats 400000 in
set_option maxRecDepth 100000 in
theorem x_costAt23 (z : mj_B) (d : Nat) (n : Nat) (mm : VF) (c : CF) (t : TF) (mk : VF) (hn : n ≤ 8) (hmm : ∀ u, u < n → 1 ≤ mm u ∧ mm u ≤ 4) (hcb : ∀ a b, c a b ≤ 1000000) (htb : ∀ a b i j, t a b i j ≤ 1000000) (hmk : ∀ u, mk u < 256) (u i : Nat) (hu : u < n) (hi : i < mm u) (F A : mj_S) (hW : WT F A 23 n mm c t mk) : J (gC z) mX4_costAt (d + 1) 0 [(0, .ref 23), (1, .int (nI u)), (2, .int (nI i))] [] F A (qN F A fun r => r = c u i) := by
  have h4u := (hmm u hu).2
  refine j_aload_n dX4_costAt_0 rfl ?_
  refine j_getR (r := 26) dX4_costAt_1 flX4_18 (Nat.le_of_ble_eq_true rfl) rfl rfl ?_
  refine j_iload_n dX4_costAt_4 rfl ?_
  refine j_iload_n dX4_costAt_5 rfl ?_
  refine j_callSN (y' := mX5_choicePlace) (As := [.int (nI u), .int (nI i)]) (st := [.ref 26]) dX4_costAt_6 lnX4_37 okX5_choicePlace stX5_choicePlace rfl (Nat.le_of_ble_eq_true rfl) (Nat.le_of_ble_eq_true rfl) (c_choicePlace z _ u i F A) (fun v6 F6 A6 hq6 => ?_)
  obtain ⟨rfl, rfl, _, rfl, rfl⟩ := hq6
  refine j_ialdN dX4_costAt_9 (Nat.le_of_ble_eq_true rfl) rfl (by omega) (by decide) ?_
  have hco1 : c u i ≤ 1000000 := hcb u i
  refine j_top (y0 := nI (c u i)) (hW.2.2.1 u i (by omega) (by omega)) ?_
  exact j_iret dX4_costAt_10 rfl rfl ⟨rfl, rfl, _, rfl, rfl⟩

set_option maxHeartbeats 400000 in
set_option maxRecDepth 100000 in
theorem x_matesBelow23 (z : mj_B) (d : Nat) (n : Nat) (mm : VF) (c : CF) (t : TF) (mk : VF) (hn : n ≤ 8) (hmm : ∀ u, u < n → 1 ≤ mm u ∧ mm u ≤ 4) (hcb : ∀ a b, c a b ≤ 1000000) (htb : ∀ a b i j, t a b i j ≤ 1000000) (hmk : ∀ u, mk u < 256) (u : Nat) (hu : u < n) (F A : mj_S) (hW : WT F A 23 n mm c t mk) : J (gC z) mX4_matesBelow d 0 [(0, .ref 23), (1, .int (nI u))] [] F A (qN F A fun r => r = mk u % 2 ^ u) := by
  have h1p : 1 ≤ 2 ^ u := Nat.one_le_two_pow
  refine j_aload_n dX4_matesBelow_0 rfl ?_
  refine j_getR (r := 25) dX4_matesBelow_1 flX4_15 (Nat.le_of_ble_eq_true rfl) rfl rfl ?_
  refine j_iload_n dX4_matesBelow_4 rfl ?_
  refine j_ialdN dX4_matesBelow_5 (Nat.le_of_ble_eq_true rfl) rfl (by omega) (by decide) ?_
  have hma1 := hmk u
  refine j_top (y0 := nI (mk u)) (hW.2.1 u (by omega)).2 ?_
  refine j_iconst (v := nI 1) dX4_matesBelow_6 (by decide +kernel) ?_
  refine j_iload_n dX4_matesBelow_7 rfl ?_
  refine j_ishl dX4_matesBelow_8 ?_
  refine j_top (y0 := nI (2 ^ u)) (shl_1 (by omega)) ?_
  refine j_iconst (v := nI 1) dX4_matesBelow_9 (by decide +kernel) ?_
  refine j_isubN dX4_matesBelow_10 (by omega) ?_
  refine j_iand dX4_matesBelow_11 ?_
  refine j_top (y0 := nI (mk u % 2 ^ u)) (by rw [fa_and, Nat.and_two_pow_sub_one_eq_mod]) ?_
  exact j_iret dX4_matesBelow_12 rfl rfl ⟨rfl, rfl, _, rfl, rfl⟩

set_option maxHeartbeats 400000 in
set_option maxRecDepth 100000 in
theorem x_leastCost23 (z : mj_B) (d : Nat) (n : Nat) (mm : VF) (c : CF) (t : TF) (mk : VF) (hn : n ≤ 8) (hmm : ∀ u, u < n → 1 ≤ mm u ∧ mm u ≤ 4) (hcb : ∀ a b, c a b ≤ 1000000) (htb : ∀ a b i j, t a b i j ≤ 1000000) (hmk : ∀ u, mk u < 256) (u : Nat) (hu : u < n) (F A : mj_S) (hW : WT F A 23 n mm c t mk) : J (gC z) mX4_leastCost (d + 2) 0 [(0, .ref 23), (1, .int (nI u))] [] F A (qN F A fun r => r = mn (fun i => c u i) (mm u)) := by
  have h4u := (hmm u hu).2
  have L5 : ∀ (fuel : Nat) (le : Nat) (i : Nat), (i ≤ mm u) → (le = mn (fun i => c u i) i) → mm u - i < fuel → J (gC z) mX4_leastCost (d + 2) 5 [(0, .ref 23), (1, .int (nI u)), (2, .int (nI le)), (3, .int (nI i))] [] F A (qN F A fun r => r = mn (fun i => c u i) (mm u)) := by
    intro fuel
    induction fuel with
    | zero => intro le i h1 hle hf; exact absurd hf (by omega)
    | succ fuel ih5 =>
      intro le i h1 hle hf
      have hlb : le ≤ 1000000 := by rw [hle]; exact mn_le _ _
      refine j_iload_n dX4_leastCost_5 rfl ?_
      refine j_aload_n dX4_leastCost_6 rfl ?_
      refine j_getR (r := 24) dX4_leastCost_7 flX4_9 (Nat.le_of_ble_eq_true rfl) rfl rfl ?_
      refine j_iload_n dX4_leastCost_10 rfl ?_
      refine j_ialdN dX4_leastCost_11 (Nat.le_of_ble_eq_true rfl) rfl (by omega) (by decide) ?_
      have hch1 := hmm u (by omega)
      refine j_top (y0 := nI (mm u)) (hW.2.1 u (by omega)).1 ?_
      refine j_icmp_geN (tgt := 32) dX4_leastCost_12 (by decide) (by omega) (by omega) (fun c12 => ?_) (fun c12 => ?_)
      · refine j_iload_n dX4_leastCost_32 rfl ?_
        exact j_iret dX4_leastCost_33 rfl rfl ⟨rfl, rfl, _, rfl, by rw [hle, show i = mm u by omega]⟩
      · refine j_iload_n dX4_leastCost_15 rfl ?_
        refine j_aload_n dX4_leastCost_16 rfl ?_
        refine j_iload_n dX4_leastCost_17 rfl ?_
        refine j_iload_n dX4_leastCost_18 rfl ?_
        refine j_callV (y' := mX4_costAt) (As := [.int (nI u), .int (nI i)]) (st := [.int (nI le)]) dX4_leastCost_19 lkX4_79 okX4_costAt imX4_costAt seX4_costAt (Nat.le_of_ble_eq_true rfl) rfl rfl rfl rfl (Nat.le_of_ble_eq_true rfl) (Nat.le_of_ble_eq_true rfl) (x_costAt23 z _ n mm c t mk hn hmm hcb htb hmk u i (by omega) (by omega) F A hW) (fun v19 F19 A19 hq19 => ?_)
        obtain ⟨rfl, rfl, _, rfl, rfl⟩ := hq19
        have hkb2 : c u i ≤ 1000000 := hcb u i
        refine j_min dX4_leastCost_22 lkX4_74 mn_st mn_in mn_co (Nat.le_of_ble_eq_true rfl) ?_
        refine j_top (y0 := nI (min le (c u i))) (min_N' (by omega) (by omega)) ?_
        refine j_istore_n (lv' := [(0, .ref 23), (1, .int (nI u)), (2, .int (nI (min le (c u i)))), (3, .int (nI i))]) dX4_leastCost_25 (Nat.le_of_ble_eq_true rfl) rfl rfl ?_
        refine j_iinc (v := nI (i + 1)) (lv' := [(0, .ref 23), (1, .int (nI u)), (2, .int (nI (min le (c u i)))), (3, .int (nI (i + 1)))]) dX4_leastCost_26 rfl (nI_add _ 1) (Nat.le_of_ble_eq_true rfl) rfl rfl ?_
        refine j_goto (tgt := 5) dX4_leastCost_29 (by decide) ?_
        exact ih5 (min le (c u i)) (i + 1) (by first | exact h1 | omega) (by rw [hle]; exact mn_min (fun i => c u i) i) (by omega)
  refine j_ldc dX4_leastCost_0 kcX4_66 ?_
  refine j_top (y0 := nI 1000000) (by decide +kernel) ?_
  refine j_istore_n (lv' := [(0, .ref 23), (1, .int (nI u)), (2, .int (nI 1000000))]) dX4_leastCost_2 (Nat.le_of_ble_eq_true rfl) rfl rfl ?_
  refine j_iconst (v := nI 0) dX4_leastCost_3 (by decide +kernel) ?_
  refine j_istore_n (lv' := [(0, .ref 23), (1, .int (nI u)), (2, .int (nI 1000000)), (3, .int (nI 0))]) dX4_leastCost_4 (Nat.le_of_ble_eq_true rfl) rfl rfl ?_
  exact L5 _ 1000000 0 (Nat.zero_le _) rfl (Nat.lt_succ_self _)

theorem WT.cc {F A : mj_S} {w n : Nat} {mm : VF} {c c' : CF} {t : TF} {mk : VF} (h : WT F A w n mm c t mk) (e : ∀ u i, u < n → i < mm u → c' u i = c u i) : WT F A w n mm c' t mk := ⟨h.1, h.2.1, fun u i hu hi => by rw [e u i hu hi]; exact h.2.2.1 u i hu hi, h.2.2.2⟩
theorem WT.part {F A A' : mj_S} {w n : Nat} {mm : VF} {c : CF} {t : TF} {mk mk' : VF} (h : WT F A w n mm c t mk) (hF : ∀ k, k ≠ w + 2 → A' k = A k) (h2 : ∀ u, u < n → A' (w + 2) u = nI (mk' u)) (hs : ∀ u v, u < n → mk' u / 2 ^ v % 2 = 1 → mk u / 2 ^ v % 2 = 1) : WT F A' w n mm c t mk' := ⟨h.1, fun u hu => ⟨by rw [hF _ (by omega)]; exact (h.2.1 u hu).1, h2 u hu⟩, fun u i hu hi => by rw [hF _ (by omega)]; exact h.2.2.1 u i hu hi, fun u v i j g1 g2 g3 g4 g5 g6 => by rw [hF _ (by omega)]; exact h.2.2.2 u v i j g1 g2 g3 g4 g5 (hs u v g1 g6)⟩
/-- one choice alone, so far -/
def c1p (c : CF) (u i j : Nat) : CF := fun v k => if v = u ∧ ¬ k = i ∧ k < j then 1000000 else c v k
theorem c1p_0 {c : CF} {u i a b : Nat} : c1p c u i 0 a b = c a b := if_neg (fun q => absurd q.2.2 (Nat.not_lt_zero b))
theorem c1p_s {c : CF} {u i j a b : Nat} (h : ¬ j = i) : c1p c u i (j + 1) a b = ucf (c1p c u i j) u j 1000000 a b := by
  unfold ucf c1p
  by_cases e : a = u ∧ b = j
  · rw [if_pos e, if_pos (by omega)]
  · rw [if_neg e]
    by_cases e2 : a = u ∧ ¬ b = i ∧ b < j
    · rw [if_pos e2, if_pos (by omega)]
    · rw [if_neg e2, if_neg (by omega)]
theorem c1p_e {c : CF} {u i j a b : Nat} (h : j = i) : c1p c u i (j + 1) a b = c1p c u i j a b := by
  unfold c1p
  by_cases e2 : a = u ∧ ¬ b = i ∧ b < j
  · rw [if_pos e2, if_pos (by omega)]
  · rw [if_neg e2, if_neg (by omega)]
theorem c1o_fin {c : CF} {u i j a b : Nat} {mm : VF} (hj : j = mm u) (hb : b < mm a) : c1o c u i a b = c1p c u i j a b := by
  unfold c1o c1p
  by_cases e : a = u ∧ ¬ b = i
  · rw [if_pos e, if_pos ⟨e.1, e.2, by rw [hj, ← e.1]; exact hb⟩]
  · rw [if_neg e, if_neg (fun q => e ⟨q.1, q.2.1⟩)]

set_option maxHeartbeats 400000 in
set_option maxRecDepth 100000 in
theorem x_allowOnly23 (z : mj_B) (d : Nat) (T : Tg) (n : Nat) (mm : VF) (c : CF) (t : TF) (mk : VF) (hn : n ≤ 8) (hmm : ∀ u, u < n → 1 ≤ mm u ∧ mm u ≤ 4) (hcb : ∀ a b, c a b ≤ 1000000) (htb : ∀ a b i j, t a b i j ≤ 1000000) (hmk : ∀ u, mk u < 256) (u i0 : Nat) (hu : u < n) (hi : i0 < 4) (F A0 : mj_S) (hW : WT F A0 23 n mm c t mk) (hC : CI T F A0) : J (gC z) mX4_allowOnly (d + 1) 0 [(0, .ref 23), (1, .int (nI u)), (2, .int (nI i0))] [] F A0 (fun _v F' A' => _v = none ∧ F = F' ∧ CI T F A' ∧ WT F A' 23 n mm (c1o c u i0) t mk ∧ ∀ k, k ≠ 26 → A' k = A0 k) := by
  have h4u := (hmm u hu).2
  have L2 : ∀ (fuel : Nat) (j : Nat) (A : mj_S), (CI T F A) → (j ≤ mm u) → (WT F A 23 n mm (c1p c u i0 j) t mk) → (∀ k, k ≠ 26 → A k = A0 k) → mm u - j < fuel → J (gC z) mX4_allowOnly (d + 1) 2 [(0, .ref 23), (1, .int (nI u)), (2, .int (nI i0)), (3, .int (nI j))] [] F A (fun _v F' A' => _v = none ∧ F = F' ∧ CI T F A' ∧ WT F A' 23 n mm (c1o c u i0) t mk ∧ ∀ k, k ≠ 26 → A' k = A0 k) := by
    intro fuel
    induction fuel with
    | zero => intro j A hC h1 hW hfr hf; exact absurd hf (by omega)
    | succ fuel ih2 =>
      intro j A hC h1 hW hfr hf
      refine j_iload_n dX4_allowOnly_2 rfl ?_
      refine j_aload_n dX4_allowOnly_3 rfl ?_
      refine j_getR (r := 24) dX4_allowOnly_4 flX4_9 (Nat.le_of_ble_eq_true rfl) rfl rfl ?_
      refine j_iload_n dX4_allowOnly_7 rfl ?_
      refine j_ialdN dX4_allowOnly_8 (Nat.le_of_ble_eq_true rfl) rfl (by omega) (by decide) ?_
      have hch1 := hmm u (by omega)
      refine j_top (y0 := nI (mm u)) (hW.2.1 u (by omega)).1 ?_
      refine j_icmp_geN (tgt := 35) dX4_allowOnly_9 (by decide) (by omega) (by omega) (fun c9 => ?_) (fun c9 => ?_)
      · exact j_vret dX4_allowOnly_35 rfl ⟨rfl, rfl, hC, hW.cc (fun a b ha hb => c1o_fin (by omega) hb), hfr⟩
      · refine j_iload_n dX4_allowOnly_12 rfl ?_
        refine j_iload_n dX4_allowOnly_13 rfl ?_
        refine j_icmp_eqN (tgt := 29) dX4_allowOnly_14 (by decide) (by omega) (by omega) (fun c14 => ?_) (fun c14 => ?_)
        · refine j_iinc (v := nI (j + 1)) (lv' := [(0, .ref 23), (1, .int (nI u)), (2, .int (nI i0)), (3, .int (nI (j + 1)))]) dX4_allowOnly_29 rfl (nI_add _ 1) (Nat.le_of_ble_eq_true rfl) rfl rfl ?_
          refine j_goto (tgt := 2) dX4_allowOnly_32 (by decide) ?_
          exact ih2 (j + 1) A (by first | exact hC | omega) (by first | exact h1 | omega) (by first | exact (hW.cst hmm hu (by omega) 1000000).cc (fun a b _ _ => c1p_s (by omega)) | exact hW.cc (fun a b _ _ => c1p_e (by omega))) (by first | exact hfr | exact fun k hk => by rw [mj_u_ne _ _ hk]; exact hfr k hk) (by omega)
        · refine j_aload_n dX4_allowOnly_17 rfl ?_
          refine j_getR (r := 26) dX4_allowOnly_18 flX4_18 (Nat.le_of_ble_eq_true rfl) rfl rfl ?_
          refine j_iload_n dX4_allowOnly_21 rfl ?_
          refine j_iload_n dX4_allowOnly_22 rfl ?_
          refine j_callSN (y' := mX5_choicePlace) (As := [.int (nI u), .int (nI j)]) (st := [.ref 26]) dX4_allowOnly_23 lnX4_37 okX5_choicePlace stX5_choicePlace rfl (Nat.le_of_ble_eq_true rfl) (Nat.le_of_ble_eq_true rfl) (c_choicePlace z _ u j F A) (fun v23 F23 A23 hq23 => ?_)
          obtain ⟨rfl, rfl, _, rfl, rfl⟩ := hq23
          refine j_ldc dX4_allowOnly_26 kcX4_66 ?_
          refine j_top (y0 := nI 1000000) (by decide +kernel) ?_
          refine j_iastN dX4_allowOnly_28 (Nat.le_of_ble_eq_true rfl) rfl (by omega) (by decide) ?_
          have hC := hC.u (k := 26) rfl (u * 4 + j) (nI 1000000)
          refine j_iinc (v := nI (j + 1)) (lv' := [(0, .ref 23), (1, .int (nI u)), (2, .int (nI i0)), (3, .int (nI (j + 1)))]) dX4_allowOnly_29 rfl (nI_add _ 1) (Nat.le_of_ble_eq_true rfl) rfl rfl ?_
          refine j_goto (tgt := 2) dX4_allowOnly_32 (by decide) ?_
          exact ih2 (j + 1) (mj_u A 26 (u * 4 + j) (nI 1000000)) (by first | exact hC | omega) (by first | exact h1 | omega) (by first | exact (hW.cst hmm hu (by omega) 1000000).cc (fun a b _ _ => c1p_s (by omega)) | exact hW.cc (fun a b _ _ => c1p_e (by omega))) (by first | exact hfr | exact fun k hk => by rw [mj_u_ne _ _ hk]; exact hfr k hk) (by omega)
  refine j_iconst (v := nI 0) dX4_allowOnly_0 (by decide +kernel) ?_
  refine j_istore_n (lv' := [(0, .ref 23), (1, .int (nI u)), (2, .int (nI i0)), (3, .int (nI 0))]) dX4_allowOnly_1 (Nat.le_of_ble_eq_true rfl) rfl rfl ?_
  exact L2 _ 0 A0 (by first | exact hC | omega) (Nat.zero_le _) (hW.cc (fun a b _ _ => c1p_0)) (fun _ _ => rfl) (Nat.lt_succ_self _)

set_option maxHeartbeats 400000 in
set_option maxRecDepth 100000 in
theorem x_costBeside23_16 (z : mj_B) (d : Nat) (n : Nat) (mm : VF) (c : CF) (t : TF) (mk : VF) (hn : n ≤ 8) (hmm : ∀ u, u < n → 1 ≤ mm u ∧ mm u ≤ 4) (hcb : ∀ a b, c a b ≤ 1000000) (htb : ∀ a b i j, t a b i j ≤ 1000000) (hmk : ∀ u, mk u < 256) (u i s : Nat) (hu : u < n) (hi : i < mm u) (hs : s < 256) (tk : VF) (F A : mj_S) (hW : WT F A 23 n mm c t mk) (htk : ∀ v, s / 2 ^ v % 2 = 1 → v < n ∧ u ≠ v ∧ mk u / 2 ^ v % 2 = 1 ∧ A 16 v = nI (tk v) ∧ tk v < mm v) : J (gC z) mX4_costBeside (d + 2) 0 [(0, .ref 23), (1, .int (nI u)), (2, .int (nI i)), (3, .int (nI s)), (4, .ref 16)] [] F A (qN F A fun r => r = sm c t s tk u i n) := by
  have h4u := (hmm u hu).2
  have L22 : ∀ (fuel : Nat) (su : Nat) (v : Nat), (v ≤ n) → (su = bsd c t s tk u i v) → n - v < fuel → J (gC z) mX4_costBeside (d + 2) 22 [(0, .ref 23), (1, .int (nI u)), (2, .int (nI i)), (3, .int (nI s)), (4, .ref 16), (5, .int (nI su)), (6, .int (nI v))] [] F A (qN F A fun r => r = sm c t s tk u i n) := by
    intro fuel
    induction fuel with
    | zero => intro su v h1 hsu hf; exact absurd hf (by omega)
    | succ fuel ih22 =>
      intro su v h1 hsu hf
      have hsl : su ≤ 1000000 * (v + 1) := by rw [hsu]; exact bsd_le hcb htb v
      refine j_iload dX4_costBeside_22 rfl ?_
      refine j_aload_n dX4_costBeside_24 rfl ?_
      refine j_getI dX4_costBeside_25 flX4_30 (Nat.le_of_ble_eq_true rfl) rfl rfl ?_
      refine j_top (y0 := nI n) hW.1 ?_
      refine j_icmp_geN (tgt := 75) dX4_costBeside_28 (by decide) (by omega) (by omega) (fun c28 => ?_) (fun c28 => ?_)
      · have hend : bsd c t s tk u i n = bsd c t s tk u i v := by rw [show v = n by omega]
        refine j_iload dX4_costBeside_75 rfl ?_
        refine j_callSN (y' := mX5_capped) (As := [.int (nI su)]) (st := []) dX4_costBeside_77 lnX4_62 okX5_capped stX5_capped rfl (Nat.le_of_ble_eq_true rfl) (Nat.le_of_ble_eq_true rfl) (c_cappedN z _ su (by omega) F A) (fun v77 F77 A77 hq77 => ?_)
        obtain ⟨rfl, rfl, _, rfl, rfl⟩ := hq77
        have hcp1 := cap_le su
        exact j_iret dX4_costBeside_80 rfl rfl ⟨rfl, rfl, _, rfl, by rw [← bsd_cap hcb n, hend, hsu]⟩
      · have hdv := Nat.div_le_self s (2 ^ v)
        refine j_iload_n dX4_costBeside_31 rfl ?_
        refine j_iload dX4_costBeside_32 rfl ?_
        refine j_ishr dX4_costBeside_34 ?_
        refine j_top (y0 := nI (s / 2 ^ v)) (pk_shrN (by omega) _ v (s_l v (by omega))) ?_
        refine j_if_eqN (tgt := 75) dX4_costBeside_35 (by decide) (by omega) (fun c35 => ?_) (fun c35 => ?_)
        · have hend : bsd c t s tk u i n = bsd c t s tk u i v := bsd_n c35 h1
          refine j_iload dX4_costBeside_75 rfl ?_
          refine j_callSN (y' := mX5_capped) (As := [.int (nI su)]) (st := []) dX4_costBeside_77 lnX4_62 okX5_capped stX5_capped rfl (Nat.le_of_ble_eq_true rfl) (Nat.le_of_ble_eq_true rfl) (c_cappedN z _ su (by omega) F A) (fun v77 F77 A77 hq77 => ?_)
          obtain ⟨rfl, rfl, _, rfl, rfl⟩ := hq77
          have hcp2 := cap_le su
          exact j_iret dX4_costBeside_80 rfl rfl ⟨rfl, rfl, _, rfl, by rw [← bsd_cap hcb n, hend, hsu]⟩
        · refine j_iload_n dX4_costBeside_38 rfl ?_
          refine j_iload dX4_costBeside_39 rfl ?_
          refine j_callSN (y' := mX5_hasBit) (As := [.int (nI s), .int (nI v)]) (st := []) dX4_costBeside_41 lnX4_59 okX5_hasBit stX5_hasBit rfl (Nat.le_of_ble_eq_true rfl) (Nat.le_of_ble_eq_true rfl) (c_hasBitN z _ s v (by omega) (by omega) F A) (fun v41 F41 A41 hq41 => ?_)
          obtain ⟨rfl, rfl, r41, rfl, hr41⟩ := hq41
          have hb41 : r41 ≤ 1 := by omega
          refine j_if_eqN (tgt := 69) dX4_costBeside_44 (by decide) (by omega) (fun c44 => ?_) (fun c44 => ?_)
          · have hbn : ¬ s / 2 ^ v % 2 = 1 := by omega
            refine j_iinc (v := nI (v + 1)) (lv' := [(0, .ref 23), (1, .int (nI u)), (2, .int (nI i)), (3, .int (nI s)), (4, .ref 16), (5, .int (nI su)), (6, .int (nI (v + 1)))]) dX4_costBeside_69 rfl (nI_add _ 1) (Nat.le_of_ble_eq_true rfl) rfl rfl ?_
            refine j_goto (tgt := 22) dX4_costBeside_72 (by decide) ?_
            exact ih22 su (v + 1) (by first | exact h1 | omega) (by first | rw [bsd_t hbs, ← hsu] | (rw [bsd_f hbn]; exact hsu)) (by omega)
          · have hbs : s / 2 ^ v % 2 = 1 := by omega
            obtain ⟨hv, hne, hbt, htv, htl⟩ := htk v hbs
            have h4v := (hmm v hv).2
            refine j_iload dX4_costBeside_47 rfl ?_
            refine j_aload_n dX4_costBeside_49 rfl ?_
            refine j_getR (r := 27) dX4_costBeside_50 flX4_21 (Nat.le_of_ble_eq_true rfl) rfl rfl ?_
            refine j_iload_n dX4_costBeside_53 rfl ?_
            refine j_iload dX4_costBeside_54 rfl ?_
            refine j_iload_n dX4_costBeside_56 rfl ?_
            refine j_aload dX4_costBeside_57 rfl ?_
            refine j_iload dX4_costBeside_59 rfl ?_
            refine j_ialdN dX4_costBeside_61 (Nat.le_of_ble_eq_true rfl) rfl (by omega) (by decide) ?_
            refine j_top (y0 := nI (tk v)) htv ?_
            refine j_callSN (y' := mX5_entryPlace) (As := [.int (nI u), .int (nI v), .int (nI i), .int (nI (tk v))]) (st := [.ref 27, .int (nI su)]) dX4_costBeside_62 lnX4_52 okX5_entryPlace stX5_entryPlace rfl (Nat.le_of_ble_eq_true rfl) (Nat.le_of_ble_eq_true rfl) (c_entryPlace z _ u v i (tk v) (by omega) (by omega) (by omega) F A) (fun v62 F62 A62 hq62 => ?_)
            obtain ⟨rfl, rfl, e62, rfl, he62⟩ := hq62
            have hl62 : e62 < 448 := by rw [he62]; exact eP_lt (by omega) (by omega) (by omega) (by omega) (by omega)
            refine j_ialdN dX4_costBeside_65 (Nat.le_of_ble_eq_true rfl) rfl (by omega) (by decide) ?_
            have hen3 : t u v i (tk v) ≤ 1000000 := htb u v i (tk v)
            refine j_top (y0 := nI (t u v i (tk v))) (by rw [he62]; exact hW.2.2.2 u v i (tk v) (by omega) (by omega) (by omega) (by omega) (by omega) hbt) ?_
            refine j_iaddN dX4_costBeside_66 ?_
            refine j_istore (lv' := [(0, .ref 23), (1, .int (nI u)), (2, .int (nI i)), (3, .int (nI s)), (4, .ref 16), (5, .int (nI (su + (t u v i (tk v))))), (6, .int (nI v))]) dX4_costBeside_67 (Nat.le_of_ble_eq_true rfl) rfl rfl ?_
            refine j_iinc (v := nI (v + 1)) (lv' := [(0, .ref 23), (1, .int (nI u)), (2, .int (nI i)), (3, .int (nI s)), (4, .ref 16), (5, .int (nI (su + (t u v i (tk v))))), (6, .int (nI (v + 1)))]) dX4_costBeside_69 rfl (nI_add _ 1) (Nat.le_of_ble_eq_true rfl) rfl rfl ?_
            refine j_goto (tgt := 22) dX4_costBeside_72 (by decide) ?_
            exact ih22 (su + (t u v i (tk v))) (v + 1) (by first | exact h1 | omega) (by first | rw [bsd_t hbs, ← hsu] | (rw [bsd_f hbn]; exact hsu)) (by omega)
  refine j_aload_n dX4_costBeside_0 rfl ?_
  refine j_getR (r := 26) dX4_costBeside_1 flX4_18 (Nat.le_of_ble_eq_true rfl) rfl rfl ?_
  refine j_iload_n dX4_costBeside_4 rfl ?_
  refine j_iload_n dX4_costBeside_5 rfl ?_
  refine j_callSN (y' := mX5_choicePlace) (As := [.int (nI u), .int (nI i)]) (st := [.ref 26]) dX4_costBeside_6 lnX4_37 okX5_choicePlace stX5_choicePlace rfl (Nat.le_of_ble_eq_true rfl) (Nat.le_of_ble_eq_true rfl) (c_choicePlace z _ u i F A) (fun v6 F6 A6 hq6 => ?_)
  obtain ⟨rfl, rfl, _, rfl, rfl⟩ := hq6
  refine j_ialdN dX4_costBeside_9 (Nat.le_of_ble_eq_true rfl) rfl (by omega) (by decide) ?_
  have hco4 : c u i ≤ 1000000 := hcb u i
  refine j_top (y0 := nI (c u i)) (hW.2.2.1 u i (by omega) (by omega)) ?_
  refine j_istore (lv' := [(0, .ref 23), (1, .int (nI u)), (2, .int (nI i)), (3, .int (nI s)), (4, .ref 16), (5, .int (nI (c u i)))]) dX4_costBeside_10 (Nat.le_of_ble_eq_true rfl) rfl rfl ?_
  refine j_iload_n dX4_costBeside_12 rfl ?_
  refine j_if_neN (tgt := 19) dX4_costBeside_13 (by decide) (by omega) (fun c13 => ?_) (fun c13 => ?_)
  · refine j_iconst (v := nI 0) dX4_costBeside_19 (by decide +kernel) ?_
    refine j_istore (lv' := [(0, .ref 23), (1, .int (nI u)), (2, .int (nI i)), (3, .int (nI s)), (4, .ref 16), (5, .int (nI (c u i))), (6, .int (nI 0))]) dX4_costBeside_20 (Nat.le_of_ble_eq_true rfl) rfl rfl ?_
    exact L22 _ (c u i) 0 (Nat.zero_le _) rfl (Nat.lt_succ_self _)
  · refine j_iload dX4_costBeside_16 rfl ?_
    exact j_iret dX4_costBeside_18 rfl rfl ⟨rfl, rfl, _, rfl, by rw [c13, ← bsd_cap hcb n, bsd_n (v := 0) (by decide) (Nat.zero_le n)]; exact (cap_id (hcb u i)).symm⟩

set_option maxHeartbeats 400000 in
set_option maxRecDepth 100000 in
theorem x_areTied28 (z : mj_B) (d : Nat) (n : Nat) (mm : VF) (c : CF) (t : TF) (mk : VF) (hn : n ≤ 8) (hmm : ∀ u, u < n → 1 ≤ mm u ∧ mm u ≤ 4) (hcb : ∀ a b, c a b ≤ 1000000) (htb : ∀ a b i j, t a b i j ≤ 1000000) (hmk : ∀ u, mk u < 256) (u v : Nat) (hu : u < n) (hv : v < 8) (F A : mj_S) (hW : WT F A 28 n mm c t mk) : J (gC z) mX4_areTied (d + 1) 0 [(0, .ref 28), (1, .int (nI u)), (2, .int (nI v))] [] F A (qN F A fun r => (r = 1 ∧ mk u / 2 ^ v % 2 = 1) ∨ (r = 0 ∧ ¬ mk u / 2 ^ v % 2 = 1)) := by
  refine j_aload_n dX4_areTied_0 rfl ?_
  refine j_getR (r := 30) dX4_areTied_1 flX4_15 (Nat.le_of_ble_eq_true rfl) rfl rfl ?_
  refine j_iload_n dX4_areTied_4 rfl ?_
  refine j_ialdN dX4_areTied_5 (Nat.le_of_ble_eq_true rfl) rfl (by omega) (by decide) ?_
  have hma1 := hmk u
  refine j_top (y0 := nI (mk u)) (hW.2.1 u (by omega)).2 ?_
  refine j_iload_n dX4_areTied_6 rfl ?_
  refine j_callSN (y' := mX5_hasBit) (As := [.int (nI (mk u)), .int (nI v)]) (st := []) dX4_areTied_7 lnX4_59 okX5_hasBit stX5_hasBit rfl (Nat.le_of_ble_eq_true rfl) (Nat.le_of_ble_eq_true rfl) (c_hasBitN z _ (mk u) v (by omega) (by omega) F A) (fun v7 F7 A7 hq7 => ?_)
  obtain ⟨rfl, rfl, r7, rfl, hr7⟩ := hq7
  have hb7 : r7 ≤ 1 := by omega
  exact j_iret dX4_areTied_10 rfl (mj_nz hb7) ⟨rfl, rfl, _, rfl, hr7⟩

set_option maxHeartbeats 400000 in
set_option maxRecDepth 100000 in
theorem x_entryAt28 (z : mj_B) (d : Nat) (n : Nat) (mm : VF) (c : CF) (t : TF) (mk : VF) (hn : n ≤ 8) (hmm : ∀ u, u < n → 1 ≤ mm u ∧ mm u ≤ 4) (hcb : ∀ a b, c a b ≤ 1000000) (htb : ∀ a b i j, t a b i j ≤ 1000000) (hmk : ∀ u, mk u < 256) (u v i j : Nat) (hu : u < n) (hv : v < n) (huv : u ≠ v) (hi : i < mm u) (hj : j < mm v) (hbt : mk u / 2 ^ v % 2 = 1) (F A : mj_S) (hW : WT F A 28 n mm c t mk) : J (gC z) mX4_entryAt (d + 1) 0 [(0, .ref 28), (1, .int (nI u)), (2, .int (nI v)), (3, .int (nI i)), (4, .int (nI j))] [] F A (qN F A fun r => r = t u v i j) := by
  have h4u := (hmm u hu).2
  have h4v := (hmm v hv).2
  refine j_aload_n dX4_entryAt_0 rfl ?_
  refine j_getR (r := 32) dX4_entryAt_1 flX4_21 (Nat.le_of_ble_eq_true rfl) rfl rfl ?_
  refine j_iload_n dX4_entryAt_4 rfl ?_
  refine j_iload_n dX4_entryAt_5 rfl ?_
  refine j_iload_n dX4_entryAt_6 rfl ?_
  refine j_iload dX4_entryAt_7 rfl ?_
  refine j_callSN (y' := mX5_entryPlace) (As := [.int (nI u), .int (nI v), .int (nI i), .int (nI j)]) (st := [.ref 32]) dX4_entryAt_9 lnX4_52 okX5_entryPlace stX5_entryPlace rfl (Nat.le_of_ble_eq_true rfl) (Nat.le_of_ble_eq_true rfl) (c_entryPlace z _ u v i j (by omega) (by omega) (by omega) F A) (fun v9 F9 A9 hq9 => ?_)
  obtain ⟨rfl, rfl, e9, rfl, he9⟩ := hq9
  have hl9 : e9 < 448 := by rw [he9]; exact eP_lt (by omega) (by omega) (by omega) (by omega) (by omega)
  refine j_ialdN dX4_entryAt_12 (Nat.le_of_ble_eq_true rfl) rfl (by omega) (by decide) ?_
  have hen1 : t u v i j ≤ 1000000 := htb u v i j
  refine j_top (y0 := nI (t u v i j)) (by rw [he9]; exact hW.2.2.2 u v i j (by omega) (by omega) (by omega) (by omega) (by omega) hbt) ?_
  exact j_iret dX4_entryAt_13 rfl rfl ⟨rfl, rfl, _, rfl, rfl⟩

set_option maxHeartbeats 400000 in
set_option maxRecDepth 100000 in
theorem x_costAt28 (z : mj_B) (d : Nat) (n : Nat) (mm : VF) (c : CF) (t : TF) (mk : VF) (hn : n ≤ 8) (hmm : ∀ u, u < n → 1 ≤ mm u ∧ mm u ≤ 4) (hcb : ∀ a b, c a b ≤ 1000000) (htb : ∀ a b i j, t a b i j ≤ 1000000) (hmk : ∀ u, mk u < 256) (u i : Nat) (hu : u < n) (hi : i < mm u) (F A : mj_S) (hW : WT F A 28 n mm c t mk) : J (gC z) mX4_costAt (d + 1) 0 [(0, .ref 28), (1, .int (nI u)), (2, .int (nI i))] [] F A (qN F A fun r => r = c u i) := by
  have h4u := (hmm u hu).2
  refine j_aload_n dX4_costAt_0 rfl ?_
  refine j_getR (r := 31) dX4_costAt_1 flX4_18 (Nat.le_of_ble_eq_true rfl) rfl rfl ?_
  refine j_iload_n dX4_costAt_4 rfl ?_
  refine j_iload_n dX4_costAt_5 rfl ?_
  refine j_callSN (y' := mX5_choicePlace) (As := [.int (nI u), .int (nI i)]) (st := [.ref 31]) dX4_costAt_6 lnX4_37 okX5_choicePlace stX5_choicePlace rfl (Nat.le_of_ble_eq_true rfl) (Nat.le_of_ble_eq_true rfl) (c_choicePlace z _ u i F A) (fun v6 F6 A6 hq6 => ?_)
  obtain ⟨rfl, rfl, _, rfl, rfl⟩ := hq6
  refine j_ialdN dX4_costAt_9 (Nat.le_of_ble_eq_true rfl) rfl (by omega) (by decide) ?_
  have hco1 : c u i ≤ 1000000 := hcb u i
  refine j_top (y0 := nI (c u i)) (hW.2.2.1 u i (by omega) (by omega)) ?_
  exact j_iret dX4_costAt_10 rfl rfl ⟨rfl, rfl, _, rfl, rfl⟩

set_option maxHeartbeats 400000 in
set_option maxRecDepth 100000 in
theorem x_leastAcross28 (z : mj_B) (d : Nat) (n : Nat) (mm : VF) (c : CF) (t : TF) (mk : VF) (hn : n ≤ 8) (hmm : ∀ u, u < n → 1 ≤ mm u ∧ mm u ≤ 4) (hcb : ∀ a b, c a b ≤ 1000000) (htb : ∀ a b i j, t a b i j ≤ 1000000) (hmk : ∀ u, mk u < 256) (u i v : Nat) (hu : u < n) (hi : i < mm u) (hv : v < n) (huv : u ≠ v) (hbt : mk u / 2 ^ v % 2 = 1) (F A : mj_S) (hW : WT F A 28 n mm c t mk) : J (gC z) mX4_leastAcross (d + 1) 0 [(0, .ref 28), (1, .int (nI u)), (2, .int (nI i)), (3, .int (nI v))] [] F A (qN F A fun r => r = mn (fun j => c v j + t u v i j) (mm v)) := by
  have h4u := (hmm u hu).2
  have h4v := (hmm v hv).2
  have L7 : ∀ (fuel : Nat) (le : Nat) (j : Nat), (j ≤ mm v) → (le = mn (fun j => c v j + t u v i j) j) → mm v - j < fuel → J (gC z) mX4_leastAcross (d + 1) 7 [(0, .ref 28), (1, .int (nI u)), (2, .int (nI i)), (3, .int (nI v)), (4, .int (nI le)), (5, .int (nI j))] [] F A (qN F A fun r => r = mn (fun j => c v j + t u v i j) (mm v)) := by
    intro fuel
    induction fuel with
    | zero => intro le j h1 hle hf; exact absurd hf (by omega)
    | succ fuel ih7 =>
      intro le j h1 hle hf
      have hlb : le ≤ 1000000 := by rw [hle]; exact mn_le _ _
      refine j_iload dX4_leastAcross_7 rfl ?_
      refine j_aload_n dX4_leastAcross_9 rfl ?_
      refine j_getR (r := 29) dX4_leastAcross_10 flX4_9 (Nat.le_of_ble_eq_true rfl) rfl rfl ?_
      refine j_iload_n dX4_leastAcross_13 rfl ?_
      refine j_ialdN dX4_leastAcross_14 (Nat.le_of_ble_eq_true rfl) rfl (by omega) (by decide) ?_
      have hch1 := hmm v (by omega)
      refine j_top (y0 := nI (mm v)) (hW.2.1 v (by omega)).1 ?_
      refine j_icmp_geN (tgt := 60) dX4_leastAcross_15 (by decide) (by omega) (by omega) (fun c15 => ?_) (fun c15 => ?_)
      · refine j_iload dX4_leastAcross_60 rfl ?_
        exact j_iret dX4_leastAcross_62 rfl rfl ⟨rfl, rfl, _, rfl, by rw [hle, show j = mm v by omega]⟩
      · refine j_aload_n dX4_leastAcross_18 rfl ?_
        refine j_getR (r := 31) dX4_leastAcross_19 flX4_18 (Nat.le_of_ble_eq_true rfl) rfl rfl ?_
        refine j_iload_n dX4_leastAcross_22 rfl ?_
        refine j_iload dX4_leastAcross_23 rfl ?_
        refine j_callSN (y' := mX5_choicePlace) (As := [.int (nI v), .int (nI j)]) (st := [.ref 31]) dX4_leastAcross_25 lnX4_37 okX5_choicePlace stX5_choicePlace rfl (Nat.le_of_ble_eq_true rfl) (Nat.le_of_ble_eq_true rfl) (c_choicePlace z _ v j F A) (fun v25 F25 A25 hq25 => ?_)
        obtain ⟨rfl, rfl, _, rfl, rfl⟩ := hq25
        refine j_ialdN dX4_leastAcross_28 (Nat.le_of_ble_eq_true rfl) rfl (by omega) (by decide) ?_
        have hco2 : c v j ≤ 1000000 := hcb v j
        refine j_top (y0 := nI (c v j)) (hW.2.2.1 v j (by omega) (by omega)) ?_
        refine j_aload_n dX4_leastAcross_29 rfl ?_
        refine j_getR (r := 32) dX4_leastAcross_30 flX4_21 (Nat.le_of_ble_eq_true rfl) rfl rfl ?_
        refine j_iload_n dX4_leastAcross_33 rfl ?_
        refine j_iload_n dX4_leastAcross_34 rfl ?_
        refine j_iload_n dX4_leastAcross_35 rfl ?_
        refine j_iload dX4_leastAcross_36 rfl ?_
        refine j_callSN (y' := mX5_entryPlace) (As := [.int (nI u), .int (nI v), .int (nI i), .int (nI j)]) (st := [.ref 32, .int (nI (c v j))]) dX4_leastAcross_38 lnX4_52 okX5_entryPlace stX5_entryPlace rfl (Nat.le_of_ble_eq_true rfl) (Nat.le_of_ble_eq_true rfl) (c_entryPlace z _ u v i j (by omega) (by omega) (by omega) F A) (fun v38 F38 A38 hq38 => ?_)
        obtain ⟨rfl, rfl, e38, rfl, he38⟩ := hq38
        have hl38 : e38 < 448 := by rw [he38]; exact eP_lt (by omega) (by omega) (by omega) (by omega) (by omega)
        refine j_ialdN dX4_leastAcross_41 (Nat.le_of_ble_eq_true rfl) rfl (by omega) (by decide) ?_
        have hen3 : t u v i j ≤ 1000000 := htb u v i j
        refine j_top (y0 := nI (t u v i j)) (by rw [he38]; exact hW.2.2.2 u v i j (by omega) (by omega) (by omega) (by omega) (by omega) hbt) ?_
        refine j_iaddN dX4_leastAcross_42 ?_
        refine j_istore (lv' := [(0, .ref 28), (1, .int (nI u)), (2, .int (nI i)), (3, .int (nI v)), (4, .int (nI le)), (5, .int (nI j)), (6, .int (nI (c v j + (t u v i j))))]) dX4_leastAcross_43 (Nat.le_of_ble_eq_true rfl) rfl rfl ?_
        refine j_iload dX4_leastAcross_45 rfl ?_
        refine j_iload dX4_leastAcross_47 rfl ?_
        refine j_min dX4_leastAcross_49 lkX4_74 mn_st mn_in mn_co (Nat.le_of_ble_eq_true rfl) ?_
        refine j_top (y0 := nI (min le (c v j + (t u v i j)))) (min_N' (by omega) (by omega)) ?_
        refine j_istore (lv' := [(0, .ref 28), (1, .int (nI u)), (2, .int (nI i)), (3, .int (nI v)), (4, .int (nI (min le (c v j + (t u v i j))))), (5, .int (nI j)), (6, .int (nI (c v j + (t u v i j))))]) dX4_leastAcross_52 (Nat.le_of_ble_eq_true rfl) rfl rfl ?_
        refine j_iinc (v := nI (j + 1)) (lv' := [(0, .ref 28), (1, .int (nI u)), (2, .int (nI i)), (3, .int (nI v)), (4, .int (nI (min le (c v j + (t u v i j))))), (5, .int (nI (j + 1))), (6, .int (nI (c v j + (t u v i j))))]) dX4_leastAcross_54 rfl (nI_add _ 1) (Nat.le_of_ble_eq_true rfl) rfl rfl ?_
        refine j_goto (tgt := 7) dX4_leastAcross_57 (by decide) ?_
        refine j_sub [0, 1, 2, 3, 4, 5] rfl ?_
        exact ih7 (min le (c v j + (t u v i j))) (j + 1) (by first | exact h1 | omega) (by rw [hle]; exact mn_min (fun j => c v j + t u v i j) j) (by omega)
  refine j_ldc dX4_leastAcross_0 kcX4_66 ?_
  refine j_top (y0 := nI 1000000) (by decide +kernel) ?_
  refine j_istore (lv' := [(0, .ref 28), (1, .int (nI u)), (2, .int (nI i)), (3, .int (nI v)), (4, .int (nI 1000000))]) dX4_leastAcross_2 (Nat.le_of_ble_eq_true rfl) rfl rfl ?_
  refine j_iconst (v := nI 0) dX4_leastAcross_4 (by decide +kernel) ?_
  refine j_istore (lv' := [(0, .ref 28), (1, .int (nI u)), (2, .int (nI i)), (3, .int (nI v)), (4, .int (nI 1000000)), (5, .int (nI 0))]) dX4_leastAcross_5 (Nat.le_of_ble_eq_true rfl) rfl rfl ?_
  exact L7 _ 1000000 0 (Nat.zero_le _) rfl (Nat.lt_succ_self _)

set_option maxHeartbeats 400000 in
set_option maxRecDepth 100000 in
theorem x_addCost28 (z : mj_B) (d : Nat) (T : Tg) (n : Nat) (mm : VF) (c : CF) (t : TF) (mk : VF) (hn : n ≤ 8) (hmm : ∀ u, u < n → 1 ≤ mm u ∧ mm u ≤ 4) (hcb : ∀ a b, c a b ≤ 1000000) (htb : ∀ a b i j, t a b i j ≤ 1000000) (hmk : ∀ u, mk u < 256) (u i : Nat) (hu : u < n) (hi : i < mm u) (x : Nat) (hx : x ≤ 1000000) (F A : mj_S) (hW : WT F A 28 n mm c t mk) (hC : CI T F A) : J (gC z) mX4_addCost (d + 2) 0 [(0, .ref 28), (1, .int (nI u)), (2, .int (nI i)), (3, .int (nI x))] [] F A (fun _v F' A' => _v = none ∧ F = F' ∧ CI T F A' ∧ WT F A' 28 n mm (ucf c u i (cap (c u i + x))) t mk ∧ ∀ k, k ≠ 31 → A' k = A k) := by
  have h4u := (hmm u hu).2
  refine j_iload_n dX4_addCost_0 rfl ?_
  refine j_iload_n dX4_addCost_1 rfl ?_
  refine j_callSN (y' := mX5_choicePlace) (As := [.int (nI u), .int (nI i)]) (st := []) dX4_addCost_2 lnX4_37 okX5_choicePlace stX5_choicePlace rfl (Nat.le_of_ble_eq_true rfl) (Nat.le_of_ble_eq_true rfl) (c_choicePlace z _ u i F A) (fun v2 F2 A2 hq2 => ?_)
  obtain ⟨rfl, rfl, _, rfl, rfl⟩ := hq2
  refine j_istore (lv' := [(0, .ref 28), (1, .int (nI u)), (2, .int (nI i)), (3, .int (nI x)), (4, .int (nI (u * 4 + i)))]) dX4_addCost_5 (Nat.le_of_ble_eq_true rfl) rfl rfl ?_
  refine j_aload_n dX4_addCost_7 rfl ?_
  refine j_getR (r := 31) dX4_addCost_8 flX4_18 (Nat.le_of_ble_eq_true rfl) rfl rfl ?_
  refine j_iload dX4_addCost_11 rfl ?_
  refine j_aload_n dX4_addCost_13 rfl ?_
  refine j_getR (r := 31) dX4_addCost_14 flX4_18 (Nat.le_of_ble_eq_true rfl) rfl rfl ?_
  refine j_iload dX4_addCost_17 rfl ?_
  refine j_ialdN dX4_addCost_19 (Nat.le_of_ble_eq_true rfl) rfl (by omega) (by decide) ?_
  have hco1 : c u i ≤ 1000000 := hcb u i
  refine j_top (y0 := nI (c u i)) (hW.2.2.1 u i (by omega) (by omega)) ?_
  refine j_iload_n dX4_addCost_20 rfl ?_
  refine j_iaddN dX4_addCost_21 ?_
  refine j_callSN (y' := mX5_capped) (As := [.int (nI (c u i + x))]) (st := [.int (nI (u * 4 + i)), .ref 31]) dX4_addCost_22 lnX4_62 okX5_capped stX5_capped rfl (Nat.le_of_ble_eq_true rfl) (Nat.le_of_ble_eq_true rfl) (c_cappedN z _ (c u i + x) (by omega) F A) (fun v22 F22 A22 hq22 => ?_)
  obtain ⟨rfl, rfl, _, rfl, rfl⟩ := hq22
  have hcp2 := cap_le (c u i + x)
  refine j_iastN dX4_addCost_25 (Nat.le_of_ble_eq_true rfl) rfl (by omega) (by decide) ?_
  have hC := hC.u (k := 31) rfl (u * 4 + i) (nI (cap (c u i + x)))
  exact j_vret dX4_addCost_26 rfl ⟨rfl, rfl, hC, hW.cst hmm hu hi _, fun k hk => mj_u_ne _ _ hk⟩

set_option maxHeartbeats 400000 in
set_option maxRecDepth 100000 in
theorem x_addEntry28 (z : mj_B) (d : Nat) (T : Tg) (n : Nat) (mm : VF) (c : CF) (t : TF) (mk : VF) (hn : n ≤ 8) (hmm : ∀ u, u < n → 1 ≤ mm u ∧ mm u ≤ 4) (hcb : ∀ a b, c a b ≤ 1000000) (htb : ∀ a b i j, t a b i j ≤ 1000000) (hmk : ∀ u, mk u < 256) (u v i j : Nat) (hu : u < n) (hv : v < n) (huv : u ≠ v) (hi : i < mm u) (hj : j < mm v) (hbt : mk u / 2 ^ v % 2 = 1) (x : Nat) (hx : x ≤ 1000000) (F A : mj_S) (hW : WT F A 28 n mm c t mk) (hC : CI T F A) : J (gC z) mX4_addEntry (d + 2) 0 [(0, .ref 28), (1, .int (nI u)), (2, .int (nI v)), (3, .int (nI i)), (4, .int (nI j)), (5, .int (nI x))] [] F A (fun _v F' A' => _v = none ∧ F = F' ∧ CI T F A' ∧ WT F A' 28 n mm c (utf t u v i j (cap (t u v i j + x))) mk ∧ ∀ k, k ≠ 32 → A' k = A k) := by
  have h4u := (hmm u hu).2
  have h4v := (hmm v hv).2
  refine j_iload_n dX4_addEntry_0 rfl ?_
  refine j_iload_n dX4_addEntry_1 rfl ?_
  refine j_iload_n dX4_addEntry_2 rfl ?_
  refine j_iload dX4_addEntry_3 rfl ?_
  refine j_callSN (y' := mX5_entryPlace) (As := [.int (nI u), .int (nI v), .int (nI i), .int (nI j)]) (st := []) dX4_addEntry_5 lnX4_52 okX5_entryPlace stX5_entryPlace rfl (Nat.le_of_ble_eq_true rfl) (Nat.le_of_ble_eq_true rfl) (c_entryPlace z _ u v i j (by omega) (by omega) (by omega) F A) (fun v5 F5 A5 hq5 => ?_)
  obtain ⟨rfl, rfl, e5, rfl, he5⟩ := hq5
  have hl5 : e5 < 448 := by rw [he5]; exact eP_lt (by omega) (by omega) (by omega) (by omega) (by omega)
  refine j_istore (lv' := [(0, .ref 28), (1, .int (nI u)), (2, .int (nI v)), (3, .int (nI i)), (4, .int (nI j)), (5, .int (nI x)), (6, .int (nI e5))]) dX4_addEntry_8 (Nat.le_of_ble_eq_true rfl) rfl rfl ?_
  refine j_aload_n dX4_addEntry_10 rfl ?_
  refine j_getR (r := 32) dX4_addEntry_11 flX4_21 (Nat.le_of_ble_eq_true rfl) rfl rfl ?_
  refine j_iload dX4_addEntry_14 rfl ?_
  refine j_aload_n dX4_addEntry_16 rfl ?_
  refine j_getR (r := 32) dX4_addEntry_17 flX4_21 (Nat.le_of_ble_eq_true rfl) rfl rfl ?_
  refine j_iload dX4_addEntry_20 rfl ?_
  refine j_ialdN dX4_addEntry_22 (Nat.le_of_ble_eq_true rfl) rfl (by omega) (by decide) ?_
  have hen1 : t u v i j ≤ 1000000 := htb u v i j
  refine j_top (y0 := nI (t u v i j)) (by rw [he5]; exact hW.2.2.2 u v i j (by omega) (by omega) (by omega) (by omega) (by omega) hbt) ?_
  refine j_iload dX4_addEntry_23 rfl ?_
  refine j_iaddN dX4_addEntry_25 ?_
  refine j_callSN (y' := mX5_capped) (As := [.int (nI (t u v i j + x))]) (st := [.int (nI e5), .ref 32]) dX4_addEntry_26 lnX4_62 okX5_capped stX5_capped rfl (Nat.le_of_ble_eq_true rfl) (Nat.le_of_ble_eq_true rfl) (c_cappedN z _ (t u v i j + x) (by omega) F A) (fun v26 F26 A26 hq26 => ?_)
  obtain ⟨rfl, rfl, _, rfl, rfl⟩ := hq26
  have hcp2 := cap_le (t u v i j + x)
  refine j_iastN dX4_addEntry_29 (Nat.le_of_ble_eq_true rfl) rfl (by omega) (by decide) ?_
  have hC := hC.u (k := 32) rfl e5 (nI (cap (t u v i j + x)))
  exact j_vret dX4_addEntry_30 rfl ⟨rfl, rfl, hC, by rw [he5]; exact hW.ent hn hmm huv hu hv hi hj _, fun k hk => mj_u_ne _ _ hk⟩

set_option maxHeartbeats 400000 in
set_option maxRecDepth 100000 in
theorem x_costBeside28_8 (z : mj_B) (d : Nat) (n : Nat) (mm : VF) (c : CF) (t : TF) (mk : VF) (hn : n ≤ 8) (hmm : ∀ u, u < n → 1 ≤ mm u ∧ mm u ≤ 4) (hcb : ∀ a b, c a b ≤ 1000000) (htb : ∀ a b i j, t a b i j ≤ 1000000) (hmk : ∀ u, mk u < 256) (u i s : Nat) (hu : u < n) (hi : i < mm u) (hs : s < 256) (tk : VF) (F A : mj_S) (hW : WT F A 28 n mm c t mk) (htk : ∀ v, s / 2 ^ v % 2 = 1 → v < n ∧ u ≠ v ∧ mk u / 2 ^ v % 2 = 1 ∧ A 8 v = nI (tk v) ∧ tk v < mm v) : J (gC z) mX4_costBeside (d + 2) 0 [(0, .ref 28), (1, .int (nI u)), (2, .int (nI i)), (3, .int (nI s)), (4, .ref 8)] [] F A (qN F A fun r => r = sm c t s tk u i n) := by
  have h4u := (hmm u hu).2
  have L22 : ∀ (fuel : Nat) (su : Nat) (v : Nat), (v ≤ n) → (su = bsd c t s tk u i v) → n - v < fuel → J (gC z) mX4_costBeside (d + 2) 22 [(0, .ref 28), (1, .int (nI u)), (2, .int (nI i)), (3, .int (nI s)), (4, .ref 8), (5, .int (nI su)), (6, .int (nI v))] [] F A (qN F A fun r => r = sm c t s tk u i n) := by
    intro fuel
    induction fuel with
    | zero => intro su v h1 hsu hf; exact absurd hf (by omega)
    | succ fuel ih22 =>
      intro su v h1 hsu hf
      have hsl : su ≤ 1000000 * (v + 1) := by rw [hsu]; exact bsd_le hcb htb v
      refine j_iload dX4_costBeside_22 rfl ?_
      refine j_aload_n dX4_costBeside_24 rfl ?_
      refine j_getI dX4_costBeside_25 flX4_30 (Nat.le_of_ble_eq_true rfl) rfl rfl ?_
      refine j_top (y0 := nI n) hW.1 ?_
      refine j_icmp_geN (tgt := 75) dX4_costBeside_28 (by decide) (by omega) (by omega) (fun c28 => ?_) (fun c28 => ?_)
      · have hend : bsd c t s tk u i n = bsd c t s tk u i v := by rw [show v = n by omega]
        refine j_iload dX4_costBeside_75 rfl ?_
        refine j_callSN (y' := mX5_capped) (As := [.int (nI su)]) (st := []) dX4_costBeside_77 lnX4_62 okX5_capped stX5_capped rfl (Nat.le_of_ble_eq_true rfl) (Nat.le_of_ble_eq_true rfl) (c_cappedN z _ su (by omega) F A) (fun v77 F77 A77 hq77 => ?_)
        obtain ⟨rfl, rfl, _, rfl, rfl⟩ := hq77
        have hcp1 := cap_le su
        exact j_iret dX4_costBeside_80 rfl rfl ⟨rfl, rfl, _, rfl, by rw [← bsd_cap hcb n, hend, hsu]⟩
      · have hdv := Nat.div_le_self s (2 ^ v)
        refine j_iload_n dX4_costBeside_31 rfl ?_
        refine j_iload dX4_costBeside_32 rfl ?_
        refine j_ishr dX4_costBeside_34 ?_
        refine j_top (y0 := nI (s / 2 ^ v)) (pk_shrN (by omega) _ v (s_l v (by omega))) ?_
        refine j_if_eqN (tgt := 75) dX4_costBeside_35 (by decide) (by omega) (fun c35 => ?_) (fun c35 => ?_)
        · have hend : bsd c t s tk u i n = bsd c t s tk u i v := bsd_n c35 h1
          refine j_iload dX4_costBeside_75 rfl ?_
          refine j_callSN (y' := mX5_capped) (As := [.int (nI su)]) (st := []) dX4_costBeside_77 lnX4_62 okX5_capped stX5_capped rfl (Nat.le_of_ble_eq_true rfl) (Nat.le_of_ble_eq_true rfl) (c_cappedN z _ su (by omega) F A) (fun v77 F77 A77 hq77 => ?_)
          obtain ⟨rfl, rfl, _, rfl, rfl⟩ := hq77
          have hcp2 := cap_le su
          exact j_iret dX4_costBeside_80 rfl rfl ⟨rfl, rfl, _, rfl, by rw [← bsd_cap hcb n, hend, hsu]⟩
        · refine j_iload_n dX4_costBeside_38 rfl ?_
          refine j_iload dX4_costBeside_39 rfl ?_
          refine j_callSN (y' := mX5_hasBit) (As := [.int (nI s), .int (nI v)]) (st := []) dX4_costBeside_41 lnX4_59 okX5_hasBit stX5_hasBit rfl (Nat.le_of_ble_eq_true rfl) (Nat.le_of_ble_eq_true rfl) (c_hasBitN z _ s v (by omega) (by omega) F A) (fun v41 F41 A41 hq41 => ?_)
          obtain ⟨rfl, rfl, r41, rfl, hr41⟩ := hq41
          have hb41 : r41 ≤ 1 := by omega
          refine j_if_eqN (tgt := 69) dX4_costBeside_44 (by decide) (by omega) (fun c44 => ?_) (fun c44 => ?_)
          · have hbn : ¬ s / 2 ^ v % 2 = 1 := by omega
            refine j_iinc (v := nI (v + 1)) (lv' := [(0, .ref 28), (1, .int (nI u)), (2, .int (nI i)), (3, .int (nI s)), (4, .ref 8), (5, .int (nI su)), (6, .int (nI (v + 1)))]) dX4_costBeside_69 rfl (nI_add _ 1) (Nat.le_of_ble_eq_true rfl) rfl rfl ?_
            refine j_goto (tgt := 22) dX4_costBeside_72 (by decide) ?_
            exact ih22 su (v + 1) (by first | exact h1 | omega) (by first | rw [bsd_t hbs, ← hsu] | (rw [bsd_f hbn]; exact hsu)) (by omega)
          · have hbs : s / 2 ^ v % 2 = 1 := by omega
            obtain ⟨hv, hne, hbt, htv, htl⟩ := htk v hbs
            have h4v := (hmm v hv).2
            refine j_iload dX4_costBeside_47 rfl ?_
            refine j_aload_n dX4_costBeside_49 rfl ?_
            refine j_getR (r := 32) dX4_costBeside_50 flX4_21 (Nat.le_of_ble_eq_true rfl) rfl rfl ?_
            refine j_iload_n dX4_costBeside_53 rfl ?_
            refine j_iload dX4_costBeside_54 rfl ?_
            refine j_iload_n dX4_costBeside_56 rfl ?_
            refine j_aload dX4_costBeside_57 rfl ?_
            refine j_iload dX4_costBeside_59 rfl ?_
            refine j_ialdN dX4_costBeside_61 (Nat.le_of_ble_eq_true rfl) rfl (by omega) (by decide) ?_
            refine j_top (y0 := nI (tk v)) htv ?_
            refine j_callSN (y' := mX5_entryPlace) (As := [.int (nI u), .int (nI v), .int (nI i), .int (nI (tk v))]) (st := [.ref 32, .int (nI su)]) dX4_costBeside_62 lnX4_52 okX5_entryPlace stX5_entryPlace rfl (Nat.le_of_ble_eq_true rfl) (Nat.le_of_ble_eq_true rfl) (c_entryPlace z _ u v i (tk v) (by omega) (by omega) (by omega) F A) (fun v62 F62 A62 hq62 => ?_)
            obtain ⟨rfl, rfl, e62, rfl, he62⟩ := hq62
            have hl62 : e62 < 448 := by rw [he62]; exact eP_lt (by omega) (by omega) (by omega) (by omega) (by omega)
            refine j_ialdN dX4_costBeside_65 (Nat.le_of_ble_eq_true rfl) rfl (by omega) (by decide) ?_
            have hen3 : t u v i (tk v) ≤ 1000000 := htb u v i (tk v)
            refine j_top (y0 := nI (t u v i (tk v))) (by rw [he62]; exact hW.2.2.2 u v i (tk v) (by omega) (by omega) (by omega) (by omega) (by omega) hbt) ?_
            refine j_iaddN dX4_costBeside_66 ?_
            refine j_istore (lv' := [(0, .ref 28), (1, .int (nI u)), (2, .int (nI i)), (3, .int (nI s)), (4, .ref 8), (5, .int (nI (su + (t u v i (tk v))))), (6, .int (nI v))]) dX4_costBeside_67 (Nat.le_of_ble_eq_true rfl) rfl rfl ?_
            refine j_iinc (v := nI (v + 1)) (lv' := [(0, .ref 28), (1, .int (nI u)), (2, .int (nI i)), (3, .int (nI s)), (4, .ref 8), (5, .int (nI (su + (t u v i (tk v))))), (6, .int (nI (v + 1)))]) dX4_costBeside_69 rfl (nI_add _ 1) (Nat.le_of_ble_eq_true rfl) rfl rfl ?_
            refine j_goto (tgt := 22) dX4_costBeside_72 (by decide) ?_
            exact ih22 (su + (t u v i (tk v))) (v + 1) (by first | exact h1 | omega) (by first | rw [bsd_t hbs, ← hsu] | (rw [bsd_f hbn]; exact hsu)) (by omega)
  refine j_aload_n dX4_costBeside_0 rfl ?_
  refine j_getR (r := 31) dX4_costBeside_1 flX4_18 (Nat.le_of_ble_eq_true rfl) rfl rfl ?_
  refine j_iload_n dX4_costBeside_4 rfl ?_
  refine j_iload_n dX4_costBeside_5 rfl ?_
  refine j_callSN (y' := mX5_choicePlace) (As := [.int (nI u), .int (nI i)]) (st := [.ref 31]) dX4_costBeside_6 lnX4_37 okX5_choicePlace stX5_choicePlace rfl (Nat.le_of_ble_eq_true rfl) (Nat.le_of_ble_eq_true rfl) (c_choicePlace z _ u i F A) (fun v6 F6 A6 hq6 => ?_)
  obtain ⟨rfl, rfl, _, rfl, rfl⟩ := hq6
  refine j_ialdN dX4_costBeside_9 (Nat.le_of_ble_eq_true rfl) rfl (by omega) (by decide) ?_
  have hco4 : c u i ≤ 1000000 := hcb u i
  refine j_top (y0 := nI (c u i)) (hW.2.2.1 u i (by omega) (by omega)) ?_
  refine j_istore (lv' := [(0, .ref 28), (1, .int (nI u)), (2, .int (nI i)), (3, .int (nI s)), (4, .ref 8), (5, .int (nI (c u i)))]) dX4_costBeside_10 (Nat.le_of_ble_eq_true rfl) rfl rfl ?_
  refine j_iload_n dX4_costBeside_12 rfl ?_
  refine j_if_neN (tgt := 19) dX4_costBeside_13 (by decide) (by omega) (fun c13 => ?_) (fun c13 => ?_)
  · refine j_iconst (v := nI 0) dX4_costBeside_19 (by decide +kernel) ?_
    refine j_istore (lv' := [(0, .ref 28), (1, .int (nI u)), (2, .int (nI i)), (3, .int (nI s)), (4, .ref 8), (5, .int (nI (c u i))), (6, .int (nI 0))]) dX4_costBeside_20 (Nat.le_of_ble_eq_true rfl) rfl rfl ?_
    exact L22 _ (c u i) 0 (Nat.zero_le _) rfl (Nat.lt_succ_self _)
  · refine j_iload dX4_costBeside_16 rfl ?_
    exact j_iret dX4_costBeside_18 rfl rfl ⟨rfl, rfl, _, rfl, by rw [c13, ← bsd_cap hcb n, bsd_n (v := 0) (by decide) (Nat.zero_le n)]; exact (cap_id (hcb u i)).symm⟩

set_option maxHeartbeats 400000 in
set_option maxRecDepth 100000 in
theorem x_leastEntry18 (z : mj_B) (d : Nat) (n : Nat) (mm : VF) (c : CF) (t : TF) (mk : VF) (hn : n ≤ 8) (hmm : ∀ u, u < n → 1 ≤ mm u ∧ mm u ≤ 4) (hcb : ∀ a b, c a b ≤ 1000000) (htb : ∀ a b i j, t a b i j ≤ 1000000) (hmk : ∀ u, mk u < 256) (u v : Nat) (hu : u < n) (hv : v < n) (huv : u ≠ v) (hbt : mk u / 2 ^ v % 2 = 1) (F A : mj_S) (hW : WT F A 18 n mm c t mk) : J (gC z) mX4_leastEntry (d + 2) 0 [(0, .ref 18), (1, .int (nI u)), (2, .int (nI v))] [] F A (qN F A fun r => r = mn (fun k => t u v (k / mm v) (k % mm v)) (mm u * mm v)) := by
  have h4u := (hmm u hu).2
  have h4v := (hmm v hv).2
  have L6 : ∀ (fuel : Nat) (le : Nat) (i : Nat), (i ≤ mm u) → (le = mn (fun k => t u v (k / mm v) (k % mm v)) (i * mm v)) → mm u - i < fuel → J (gC z) mX4_leastEntry (d + 2) 6 [(0, .ref 18), (1, .int (nI u)), (2, .int (nI v)), (3, .int (nI le)), (4, .int (nI i))] [] F A (qN F A fun r => r = mn (fun k => t u v (k / mm v) (k % mm v)) (mm u * mm v)) := by
    intro fuel
    induction fuel with
    | zero => intro le i h1 hle hf; exact absurd hf (by omega)
    | succ fuel ih6 =>
      intro le i h1 hle hf
      have hlb : le ≤ 1000000 := by rw [hle]; exact mn_le _ _
      refine j_iload dX4_leastEntry_6 rfl ?_
      refine j_aload_n dX4_leastEntry_8 rfl ?_
      refine j_getR (r := 19) dX4_leastEntry_9 flX4_9 (Nat.le_of_ble_eq_true rfl) rfl rfl ?_
      refine j_iload_n dX4_leastEntry_12 rfl ?_
      refine j_ialdN dX4_leastEntry_13 (Nat.le_of_ble_eq_true rfl) rfl (by omega) (by decide) ?_
      have hch1 := hmm u (by omega)
      refine j_top (y0 := nI (mm u)) (hW.2.1 u (by omega)).1 ?_
      refine j_icmp_geN (tgt := 58) dX4_leastEntry_14 (by decide) (by omega) (by omega) (fun c14 => ?_) (fun c14 => ?_)
      · refine j_iload_n dX4_leastEntry_58 rfl ?_
        exact j_iret dX4_leastEntry_59 rfl rfl ⟨rfl, rfl, _, rfl, by rw [hle, show i = mm u by omega]⟩
      · have L20 : ∀ (fuel : Nat) (le : Nat) (j : Nat), (j ≤ mm v) → (le = mn (fun k => t u v (k / mm v) (k % mm v)) (i * mm v + j)) → mm v - j < fuel → J (gC z) mX4_leastEntry (d + 2) 20 [(0, .ref 18), (1, .int (nI u)), (2, .int (nI v)), (3, .int (nI le)), (4, .int (nI i)), (5, .int (nI j))] [] F A (qN F A fun r => r = mn (fun k => t u v (k / mm v) (k % mm v)) (mm u * mm v)) := by
          intro fuel
          induction fuel with
          | zero => intro le j h2 hle hf; exact absurd hf (by omega)
          | succ fuel ih20 =>
            intro le j h2 hle hf
            have hlb : le ≤ 1000000 := by rw [hle]; exact mn_le _ _
            refine j_iload dX4_leastEntry_20 rfl ?_
            refine j_aload_n dX4_leastEntry_22 rfl ?_
            refine j_getR (r := 19) dX4_leastEntry_23 flX4_9 (Nat.le_of_ble_eq_true rfl) rfl rfl ?_
            refine j_iload_n dX4_leastEntry_26 rfl ?_
            refine j_ialdN dX4_leastEntry_27 (Nat.le_of_ble_eq_true rfl) rfl (by omega) (by decide) ?_
            have hch2 := hmm v (by omega)
            refine j_top (y0 := nI (mm v)) (hW.2.1 v (by omega)).1 ?_
            refine j_icmp_geN (tgt := 52) dX4_leastEntry_28 (by decide) (by omega) (by omega) (fun c28 => ?_) (fun c28 => ?_)
            · refine j_iinc (v := nI (i + 1)) (lv' := [(0, .ref 18), (1, .int (nI u)), (2, .int (nI v)), (3, .int (nI le)), (4, .int (nI (i + 1))), (5, .int (nI j))]) dX4_leastEntry_52 rfl (nI_add _ 1) (Nat.le_of_ble_eq_true rfl) rfl rfl ?_
              refine j_goto (tgt := 6) dX4_leastEntry_55 (by decide) ?_
              refine j_sub [0, 1, 2, 3, 4] rfl ?_
              exact ih6 le (i + 1) (by first | exact h1 | omega) (by rw [Nat.add_mul, Nat.one_mul, hle, show j = mm v by omega]) (by omega)
            · refine j_iload_n dX4_leastEntry_31 rfl ?_
              refine j_aload_n dX4_leastEntry_32 rfl ?_
              refine j_iload_n dX4_leastEntry_33 rfl ?_
              refine j_iload_n dX4_leastEntry_34 rfl ?_
              refine j_iload dX4_leastEntry_35 rfl ?_
              refine j_iload dX4_leastEntry_37 rfl ?_
              refine j_callV (y' := mX4_entryAt) (As := [.int (nI u), .int (nI v), .int (nI i), .int (nI j)]) (st := [.int (nI le)]) dX4_leastEntry_39 lkX4_82 okX4_entryAt imX4_entryAt seX4_entryAt (Nat.le_of_ble_eq_true rfl) rfl rfl rfl rfl (Nat.le_of_ble_eq_true rfl) (Nat.le_of_ble_eq_true rfl) (x_entryAt18 z _ n mm c t mk hn hmm hcb htb hmk u v i j hu hv huv (by omega) (by omega) hbt F A hW) (fun v39 F39 A39 hq39 => ?_)
              obtain ⟨rfl, rfl, _, rfl, rfl⟩ := hq39
              have hkb3 := htb u v i j
              refine j_min dX4_leastEntry_42 lkX4_74 mn_st mn_in mn_co (Nat.le_of_ble_eq_true rfl) ?_
              refine j_top (y0 := nI (min le (t u v i j))) (min_N' (by omega) (by omega)) ?_
              refine j_istore_n (lv' := [(0, .ref 18), (1, .int (nI u)), (2, .int (nI v)), (3, .int (nI (min le (t u v i j)))), (4, .int (nI i)), (5, .int (nI j))]) dX4_leastEntry_45 (Nat.le_of_ble_eq_true rfl) rfl rfl ?_
              refine j_iinc (v := nI (j + 1)) (lv' := [(0, .ref 18), (1, .int (nI u)), (2, .int (nI v)), (3, .int (nI (min le (t u v i j)))), (4, .int (nI i)), (5, .int (nI (j + 1)))]) dX4_leastEntry_46 rfl (nI_add _ 1) (Nat.le_of_ble_eq_true rfl) rfl rfl ?_
              refine j_goto (tgt := 20) dX4_leastEntry_49 (by decide) ?_
              exact ih20 (min le (t u v i j)) (j + 1) (by first | exact h2 | omega) (by rw [hle, ← Nat.add_assoc, ← mn_min]; show _ = min _ (t u v ((i * mm v + j) / mm v) ((i * mm v + j) % mm v)); rw [(dm_q (by omega)).1, (dm_q (by omega)).2]) (by omega)
        refine j_iconst (v := nI 0) dX4_leastEntry_17 (by decide +kernel) ?_
        refine j_istore (lv' := [(0, .ref 18), (1, .int (nI u)), (2, .int (nI v)), (3, .int (nI le)), (4, .int (nI i)), (5, .int (nI 0))]) dX4_leastEntry_18 (Nat.le_of_ble_eq_true rfl) rfl rfl ?_
        exact L20 _ le 0 (Nat.zero_le _) hle (Nat.lt_succ_self _)
  refine j_ldc dX4_leastEntry_0 kcX4_66 ?_
  refine j_top (y0 := nI 1000000) (by decide +kernel) ?_
  refine j_istore_n (lv' := [(0, .ref 18), (1, .int (nI u)), (2, .int (nI v)), (3, .int (nI 1000000))]) dX4_leastEntry_2 (Nat.le_of_ble_eq_true rfl) rfl rfl ?_
  refine j_iconst (v := nI 0) dX4_leastEntry_3 (by decide +kernel) ?_
  refine j_istore (lv' := [(0, .ref 18), (1, .int (nI u)), (2, .int (nI v)), (3, .int (nI 1000000)), (4, .int (nI 0))]) dX4_leastEntry_4 (Nat.le_of_ble_eq_true rfl) rfl rfl ?_
  exact L6 _ 1000000 0 (Nat.zero_le _) (by rw [Nat.zero_mul]; rfl) (Nat.lt_succ_self _)

set_option maxHeartbeats 400000 in
set_option maxRecDepth 100000 in
theorem x_bound18 (z : mj_B) (d : Nat) (n : Nat) (mm : VF) (c : CF) (t : TF) (mk : VF) (hn : n ≤ 8) (hmm : ∀ u, u < n → 1 ≤ mm u ∧ mm u ≤ 4) (hcb : ∀ a b, c a b ≤ 1000000) (htb : ∀ a b i j, t a b i j ≤ 1000000) (hmk : ∀ u, mk u < 256) (F A : mj_S) (hW : WT F A 18 n mm c t mk) : J (gC z) mX4_bound (d + 3) 0 [(0, .ref 18)] [] F A (qN F A fun r => r = bdu c t mk mm n) := by
  have L4 : ∀ (fuel : Nat) (su : Nat) (u : Nat), (u ≤ n) → (su = bdu c t mk mm u) → n - u < fuel → J (gC z) mX4_bound (d + 3) 4 [(0, .ref 18), (1, .int (nI su)), (2, .int (nI u))] [] F A (qN F A fun r => r = bdu c t mk mm n) := by
    intro fuel
    induction fuel with
    | zero => intro su u h1 hsu hf; exact absurd hf (by omega)
    | succ fuel ih4 =>
      intro su u h1 hsu hf
      have hsl0 : su ≤ 1000000 := by rw [hsu]; exact bdu_le _
      refine j_iload_n dX4_bound_4 rfl ?_
      refine j_aload_n dX4_bound_5 rfl ?_
      refine j_getI dX4_bound_6 flX4_30 (Nat.le_of_ble_eq_true rfl) rfl rfl ?_
      refine j_top (y0 := nI n) hW.1 ?_
      refine j_icmp_geN (tgt := 63) dX4_bound_9 (by decide) (by omega) (by omega) (fun c9 => ?_) (fun c9 => ?_)
      · refine j_iload_n dX4_bound_63 rfl ?_
        exact j_iret dX4_bound_64 rfl rfl ⟨rfl, rfl, _, rfl, by rw [hsu, show u = n by omega]⟩
      · have L25 : ∀ (fuel : Nat) (sv : Nat) (v : Nat), (v ≤ u) → (sv = bdv t mk mm u (cap (bdu c t mk mm u + mn (fun i => c u i) (mm u))) v) → u - v < fuel → J (gC z) mX4_bound (d + 3) 25 [(0, .ref 18), (1, .int (nI sv)), (2, .int (nI u)), (3, .int (nI v))] [] F A (qN F A fun r => r = bdu c t mk mm n) := by
          intro fuel
          induction fuel with
          | zero => intro sv v h2 hsv hf; exact absurd hf (by omega)
          | succ fuel ih25 =>
            intro sv v h2 hsv hf
            have hsl : sv ≤ 1000000 := by rw [hsv]; exact bdv_le (cap_le _) _
            refine j_iload_n dX4_bound_25 rfl ?_
            refine j_iload_n dX4_bound_26 rfl ?_
            refine j_icmp_geN (tgt := 57) dX4_bound_27 (by decide) (by omega) (by omega) (fun c27 => ?_) (fun c27 => ?_)
            · refine j_iinc (v := nI (u + 1)) (lv' := [(0, .ref 18), (1, .int (nI sv)), (2, .int (nI (u + 1))), (3, .int (nI v))]) dX4_bound_57 rfl (nI_add _ 1) (Nat.le_of_ble_eq_true rfl) rfl rfl ?_
              refine j_goto (tgt := 4) dX4_bound_60 (by decide) ?_
              refine j_sub [0, 1, 2] rfl ?_
              exact ih4 sv (u + 1) (by first | exact h1 | omega) (by rw [hsv, show v = u by omega]; rfl) (by omega)
            · refine j_aload_n dX4_bound_30 rfl ?_
              refine j_iload_n dX4_bound_31 rfl ?_
              refine j_iload_n dX4_bound_32 rfl ?_
              refine j_callV (y' := mX4_areTied) (As := [.int (nI u), .int (nI v)]) (st := []) dX4_bound_33 lkX4_44 okX4_areTied imX4_areTied seX4_areTied (Nat.le_of_ble_eq_true rfl) rfl rfl rfl rfl (Nat.le_of_ble_eq_true rfl) (Nat.le_of_ble_eq_true rfl) (x_areTied18 z _ n mm c t mk hn hmm hcb htb hmk u v (by omega) (by omega) F A hW) (fun v33 F33 A33 hq33 => ?_)
              obtain ⟨rfl, rfl, r33, rfl, hr33⟩ := hq33
              have hb33 : r33 ≤ 1 := by omega
              refine j_if_eqN (tgt := 51) dX4_bound_36 (by decide) (by omega) (fun c36 => ?_) (fun c36 => ?_)
              · have hbn : ¬ mk u / 2 ^ v % 2 = 1 := (hr33.resolve_left (fun h => by omega)).2
                refine j_iinc (v := nI (v + 1)) (lv' := [(0, .ref 18), (1, .int (nI sv)), (2, .int (nI u)), (3, .int (nI (v + 1)))]) dX4_bound_51 rfl (nI_add _ 1) (Nat.le_of_ble_eq_true rfl) rfl rfl ?_
                refine j_goto (tgt := 25) dX4_bound_54 (by decide) ?_
                exact ih25 sv (v + 1) (by first | exact h2 | omega) (by first | (rw [bdv_f hbn]; exact hsv) | rw [bdv_t hbt, ← hsv]) (by omega)
              · have hbt : mk u / 2 ^ v % 2 = 1 := (hr33.resolve_right (fun h => by omega)).2
                refine j_iload_n dX4_bound_39 rfl ?_
                refine j_aload_n dX4_bound_40 rfl ?_
                refine j_iload_n dX4_bound_41 rfl ?_
                refine j_iload_n dX4_bound_42 rfl ?_
                refine j_callV (y' := mX4_leastEntry) (As := [.int (nI u), .int (nI v)]) (st := [.int (nI sv)]) dX4_bound_43 lkX4_88 okX4_leastEntry imX4_leastEntry seX4_leastEntry (Nat.le_of_ble_eq_true rfl) rfl rfl rfl rfl (Nat.le_of_ble_eq_true rfl) (Nat.le_of_ble_eq_true rfl) (x_leastEntry18 z _ n mm c t mk hn hmm hcb htb hmk u v (by omega) (by omega) (by omega) hbt F A hW) (fun v43 F43 A43 hq43 => ?_)
                obtain ⟨rfl, rfl, _, rfl, rfl⟩ := hq43
                have hkb1 : mn (fun k => t u v (k / mm v) (k % mm v)) (mm u * mm v) ≤ 1000000 := mn_le _ _
                refine j_iaddN dX4_bound_46 ?_
                refine j_callSN (y' := mX5_capped) (As := [.int (nI (sv + (mn (fun k => t u v (k / mm v) (k % mm v)) (mm u * mm v))))]) (st := []) dX4_bound_47 lnX4_62 okX5_capped stX5_capped rfl (Nat.le_of_ble_eq_true rfl) (Nat.le_of_ble_eq_true rfl) (c_cappedN z _ (sv + (mn (fun k => t u v (k / mm v) (k % mm v)) (mm u * mm v))) (by omega) F A) (fun v47 F47 A47 hq47 => ?_)
                obtain ⟨rfl, rfl, _, rfl, rfl⟩ := hq47
                have hcp2 := cap_le (sv + (mn (fun k => t u v (k / mm v) (k % mm v)) (mm u * mm v)))
                refine j_istore_n (lv' := [(0, .ref 18), (1, .int (nI (cap (sv + (mn (fun k => t u v (k / mm v) (k % mm v)) (mm u * mm v)))))), (2, .int (nI u)), (3, .int (nI v))]) dX4_bound_50 (Nat.le_of_ble_eq_true rfl) rfl rfl ?_
                refine j_iinc (v := nI (v + 1)) (lv' := [(0, .ref 18), (1, .int (nI (cap (sv + (mn (fun k => t u v (k / mm v) (k % mm v)) (mm u * mm v)))))), (2, .int (nI u)), (3, .int (nI (v + 1)))]) dX4_bound_51 rfl (nI_add _ 1) (Nat.le_of_ble_eq_true rfl) rfl rfl ?_
                refine j_goto (tgt := 25) dX4_bound_54 (by decide) ?_
                exact ih25 (cap (sv + (mn (fun k => t u v (k / mm v) (k % mm v)) (mm u * mm v)))) (v + 1) (by first | exact h2 | omega) (by first | (rw [bdv_f hbn]; exact hsv) | rw [bdv_t hbt, ← hsv]) (by omega)
        refine j_iload_n dX4_bound_12 rfl ?_
        refine j_aload_n dX4_bound_13 rfl ?_
        refine j_iload_n dX4_bound_14 rfl ?_
        refine j_callV (y' := mX4_leastCost) (As := [.int (nI u)]) (st := [.int (nI su)]) dX4_bound_15 lkX4_85 okX4_leastCost imX4_leastCost seX4_leastCost (Nat.le_of_ble_eq_true rfl) rfl rfl rfl rfl (Nat.le_of_ble_eq_true rfl) (Nat.le_of_ble_eq_true rfl) (x_leastCost18 z _ n mm c t mk hn hmm hcb htb hmk u (by omega) F A hW) (fun v15 F15 A15 hq15 => ?_)
        obtain ⟨rfl, rfl, _, rfl, rfl⟩ := hq15
        have hkb3 : mn (fun i => c u i) (mm u) ≤ 1000000 := mn_le _ _
        refine j_iaddN dX4_bound_18 ?_
        refine j_callSN (y' := mX5_capped) (As := [.int (nI (su + (mn (fun i => c u i) (mm u))))]) (st := []) dX4_bound_19 lnX4_62 okX5_capped stX5_capped rfl (Nat.le_of_ble_eq_true rfl) (Nat.le_of_ble_eq_true rfl) (c_cappedN z _ (su + (mn (fun i => c u i) (mm u))) (by omega) F A) (fun v19 F19 A19 hq19 => ?_)
        obtain ⟨rfl, rfl, _, rfl, rfl⟩ := hq19
        have hcp4 := cap_le (su + (mn (fun i => c u i) (mm u)))
        refine j_istore_n (lv' := [(0, .ref 18), (1, .int (nI (cap (su + (mn (fun i => c u i) (mm u)))))), (2, .int (nI u))]) dX4_bound_22 (Nat.le_of_ble_eq_true rfl) rfl rfl ?_
        refine j_iconst (v := nI 0) dX4_bound_23 (by decide +kernel) ?_
        refine j_istore_n (lv' := [(0, .ref 18), (1, .int (nI (cap (su + (mn (fun i => c u i) (mm u)))))), (2, .int (nI u)), (3, .int (nI 0))]) dX4_bound_24 (Nat.le_of_ble_eq_true rfl) rfl rfl ?_
        exact L25 _ (cap (su + (mn (fun i => c u i) (mm u)))) 0 (Nat.zero_le _) (by rw [hsu]; rfl) (Nat.lt_succ_self _)
  refine j_iconst (v := nI 0) dX4_bound_0 (by decide +kernel) ?_
  refine j_istore_n (lv' := [(0, .ref 18), (1, .int (nI 0))]) dX4_bound_1 (Nat.le_of_ble_eq_true rfl) rfl rfl ?_
  refine j_iconst (v := nI 0) dX4_bound_2 (by decide +kernel) ?_
  refine j_istore_n (lv' := [(0, .ref 18), (1, .int (nI 0)), (2, .int (nI 0))]) dX4_bound_3 (Nat.le_of_ble_eq_true rfl) rfl rfl ?_
  exact L4 _ 0 0 (Nat.zero_le _) rfl (Nat.lt_succ_self _)

set_option maxHeartbeats 400000 in
set_option maxRecDepth 100000 in
theorem x_planCost18 (z : mj_B) (d : Nat) (n : Nat) (mm : VF) (c : CF) (t : TF) (mk : VF) (hn : n ≤ 8) (hmm : ∀ u, u < n → 1 ≤ mm u ∧ mm u ≤ 4) (hcb : ∀ a b, c a b ≤ 1000000) (htb : ∀ a b i j, t a b i j ≤ 1000000) (hmk : ∀ u, mk u < 256) (tk : VF) (F A : mj_S) (hW : WT F A 18 n mm c t mk) (htk : ∀ u, u < n → A 8 u = nI (tk u) ∧ tk u < mm u) : J (gC z) mX4_planCost (d + 3) 0 [(0, .ref 18), (1, .ref 8)] [] F A (qN F A fun r => r = pcu c t mk tk n) := by
  have L4 : ∀ (fuel : Nat) (su : Nat) (u : Nat), (u ≤ n) → (su = pcu c t mk tk u) → n - u < fuel → J (gC z) mX4_planCost (d + 3) 4 [(0, .ref 18), (1, .ref 8), (2, .int (nI su)), (3, .int (nI u))] [] F A (qN F A fun r => r = pcu c t mk tk n) := by
    intro fuel
    induction fuel with
    | zero => intro su u h1 hsu hf; exact absurd hf (by omega)
    | succ fuel ih4 =>
      intro su u h1 hsu hf
      have hsl : su ≤ 1000000 := by rw [hsu]; exact pcu_le _
      refine j_iload_n dX4_planCost_4 rfl ?_
      refine j_aload_n dX4_planCost_5 rfl ?_
      refine j_getI dX4_planCost_6 flX4_30 (Nat.le_of_ble_eq_true rfl) rfl rfl ?_
      refine j_top (y0 := nI n) hW.1 ?_
      refine j_icmp_geN (tgt := 38) dX4_planCost_9 (by decide) (by omega) (by omega) (fun c9 => ?_) (fun c9 => ?_)
      · refine j_iload_n dX4_planCost_38 rfl ?_
        exact j_iret dX4_planCost_39 rfl rfl ⟨rfl, rfl, _, rfl, by rw [hsu, show u = n by omega]⟩
      · have htl := htk u (by omega)
        refine j_iload_n dX4_planCost_12 rfl ?_
        refine j_aload_n dX4_planCost_13 rfl ?_
        refine j_iload_n dX4_planCost_14 rfl ?_
        refine j_aload_n dX4_planCost_15 rfl ?_
        refine j_iload_n dX4_planCost_16 rfl ?_
        refine j_ialdN dX4_planCost_17 (Nat.le_of_ble_eq_true rfl) rfl (by omega) (by decide) ?_
        refine j_top (y0 := nI (tk u)) htl.1 ?_
        refine j_aload_n dX4_planCost_18 rfl ?_
        refine j_iload_n dX4_planCost_19 rfl ?_
        refine j_callV (y' := mX4_matesBelow) (As := [.int (nI u)]) (st := [.int (nI (tk u)), .int (nI u), .ref 18, .int (nI su)]) dX4_planCost_20 lkX4_67 okX4_matesBelow imX4_matesBelow seX4_matesBelow (Nat.le_of_ble_eq_true rfl) rfl rfl rfl rfl (Nat.le_of_ble_eq_true rfl) (Nat.le_of_ble_eq_true rfl) (x_matesBelow18 z _ n mm c t mk hn hmm hcb htb hmk u (by omega) F A hW) (fun v20 F20 A20 hq20 => ?_)
        obtain ⟨rfl, rfl, _, rfl, rfl⟩ := hq20
        have hmb : mk u % 2 ^ u < 256 := Nat.lt_of_le_of_lt (Nat.mod_le _ _) (hmk u)
        refine j_aload_n dX4_planCost_23 rfl ?_
        refine j_callV (y' := mX4_costBeside) (As := [.int (nI u), .int (nI (tk u)), .int (nI (mk u % 2 ^ u)), .ref 8]) (st := [.int (nI su)]) dX4_planCost_24 lkX4_70 okX4_costBeside imX4_costBeside seX4_costBeside (Nat.le_of_ble_eq_true rfl) rfl rfl rfl rfl (Nat.le_of_ble_eq_true rfl) (Nat.le_of_ble_eq_true rfl) (x_costBeside18_8 z _ n mm c t mk hn hmm hcb htb hmk u (tk u) (mk u % 2 ^ u) (by omega) htl.2 hmb tk F A hW (fun v hv => by have q := mb_bt.mp hv; exact ⟨by omega, by omega, q.2, (htk v (by omega)).1, (htk v (by omega)).2⟩)) (fun v24 F24 A24 hq24 => ?_)
        obtain ⟨rfl, rfl, _, rfl, rfl⟩ := hq24
        have hsml : sm c t (mk u % 2 ^ u) tk u (tk u) n ≤ 1000000 := sm_le hcb n
        refine j_iaddN dX4_planCost_27 ?_
        refine j_callSN (y' := mX5_capped) (As := [.int (nI (su + (sm c t (mk u % 2 ^ u) tk u (tk u) n)))]) (st := []) dX4_planCost_28 lnX4_62 okX5_capped stX5_capped rfl (Nat.le_of_ble_eq_true rfl) (Nat.le_of_ble_eq_true rfl) (c_cappedN z _ (su + (sm c t (mk u % 2 ^ u) tk u (tk u) n)) (by omega) F A) (fun v28 F28 A28 hq28 => ?_)
        obtain ⟨rfl, rfl, _, rfl, rfl⟩ := hq28
        have hcp1 := cap_le (su + (sm c t (mk u % 2 ^ u) tk u (tk u) n))
        refine j_istore_n (lv' := [(0, .ref 18), (1, .ref 8), (2, .int (nI (cap (su + (sm c t (mk u % 2 ^ u) tk u (tk u) n))))), (3, .int (nI u))]) dX4_planCost_31 (Nat.le_of_ble_eq_true rfl) rfl rfl ?_
        refine j_iinc (v := nI (u + 1)) (lv' := [(0, .ref 18), (1, .ref 8), (2, .int (nI (cap (su + (sm c t (mk u % 2 ^ u) tk u (tk u) n))))), (3, .int (nI (u + 1)))]) dX4_planCost_32 rfl (nI_add _ 1) (Nat.le_of_ble_eq_true rfl) rfl rfl ?_
        refine j_goto (tgt := 4) dX4_planCost_35 (by decide) ?_
        exact ih4 (cap (su + (sm c t (mk u % 2 ^ u) tk u (tk u) n))) (u + 1) (by first | exact h1 | omega) (by rw [pcu_sm hcb (show u ≤ n by omega), ← hsu]) (by omega)
  refine j_iconst (v := nI 0) dX4_planCost_0 (by decide +kernel) ?_
  refine j_istore_n (lv' := [(0, .ref 18), (1, .ref 8), (2, .int (nI 0))]) dX4_planCost_1 (Nat.le_of_ble_eq_true rfl) rfl rfl ?_
  refine j_iconst (v := nI 0) dX4_planCost_2 (by decide +kernel) ?_
  refine j_istore_n (lv' := [(0, .ref 18), (1, .ref 8), (2, .int (nI 0)), (3, .int (nI 0))]) dX4_planCost_3 (Nat.le_of_ble_eq_true rfl) rfl rfl ?_
  exact L4 _ 0 0 (Nat.zero_le _) rfl (Nat.lt_succ_self _)

theorem va_cpy8 {f g : Nat → Int32} {k : Nat} (hk : k < 8) : va_cpy f g 0 0 8 k = f k := by
  unfold va_cpy
  rw [if_pos ⟨Nat.zero_le _, by omega⟩]
  congr 1
  omega

set_option maxHeartbeats 400000 in
set_option maxRecDepth 100000 in
theorem x_weighTable18 (z : mj_B) (d : Nat) (T : Tg) (n : Nat) (mm : VF) (row : Nat → Int32) (hw : wr n mm row) (u v : Nat) (hu : u < n) (hv : v < n) (huv : u ≠ v) (ht1 : tdd row u v = 1) (F A0 : mj_S) (hC : CI T F A0) (hG : GR F A0 33 n mm row) (hch : ∀ a, a < n → A0 19 a = nI (mm a)) : J (gC z) mX4_weighTable (d + 2) 0 [(0, .ref 18), (1, .ref 33), (2, .int (nI u)), (3, .int (nI v))] [] F A0 (fun _v F' A' => _v = none ∧ F = F' ∧ CI T F A' ∧ (∀ i j, i < mm u → j < mm v → A' 22 (eP u v i j) = nI (t0 n mm row u v i j)) ∧ (∀ x, (∀ i j, i < 4 → j < 4 → x ≠ eP u v i j) → A' 22 x = A0 22 x) ∧ ∀ k, k ≠ 22 → A' k = A0 k) := by
  have hn8 := hw.1.1
  have h4u := (hw.1.2 u hu).2
  have h4v := (hw.1.2 v hv).2
  have htt := tdd_inv ht1
  have L3 : ∀ (fuel : Nat) (i : Nat) (A : mj_S), (CI T F A) → (i ≤ mm u) → (∀ i' j', i' < i → j' < mm v → A 22 (eP u v i' j') = nI (t0 n mm row u v i' j')) → (∀ x, (∀ i j, i < 4 → j < 4 → x ≠ eP u v i j) → A 22 x = A0 22 x) → (∀ k, k ≠ 22 → A k = A0 k) → mm u - i < fuel → J (gC z) mX4_weighTable (d + 2) 3 [(0, .ref 18), (1, .ref 33), (2, .int (nI u)), (3, .int (nI v)), (4, .int (nI i))] [] F A (fun _v F' A' => _v = none ∧ F = F' ∧ CI T F A' ∧ (∀ i j, i < mm u → j < mm v → A' 22 (eP u v i j) = nI (t0 n mm row u v i j)) ∧ (∀ x, (∀ i j, i < 4 → j < 4 → x ≠ eP u v i j) → A' 22 x = A0 22 x) ∧ ∀ k, k ≠ 22 → A' k = A0 k) := by
    intro fuel
    induction fuel with
    | zero => intro i A hC h1 hd hoff hfr hf; exact absurd hf (by omega)
    | succ fuel ih3 =>
      intro i A hC h1 hd hoff hfr hf
      refine j_iload dX4_weighTable_3 rfl ?_
      refine j_aload_n dX4_weighTable_5 rfl ?_
      refine j_getR (r := 19) dX4_weighTable_6 flX4_9 (Nat.le_of_ble_eq_true rfl) rfl rfl ?_
      refine j_iload_n dX4_weighTable_9 rfl ?_
      refine j_ialdN dX4_weighTable_10 (Nat.le_of_ble_eq_true rfl) rfl (by omega) (by decide) ?_
      refine j_top (y0 := nI (mm u)) (by rw [hfr _ (by decide)]; exact hch u (by omega)) ?_
      refine j_icmp_geN (tgt := 64) dX4_weighTable_11 (by decide) (by omega) (by omega) (fun c11 => ?_) (fun c11 => ?_)
      · exact j_vret dX4_weighTable_64 rfl ⟨rfl, rfl, hC, fun i' j' h1' h2' => hd i' j' (by omega) h2', hoff, hfr⟩
      · have L17 : ∀ (fuel : Nat) (j : Nat) (A : mj_S), (CI T F A) → (j ≤ mm v) → (∀ i' j', i' < i → j' < mm v → A 22 (eP u v i' j') = nI (t0 n mm row u v i' j')) → (∀ j', j' < j → A 22 (eP u v i j') = nI (t0 n mm row u v i j')) → (∀ x, (∀ i j, i < 4 → j < 4 → x ≠ eP u v i j) → A 22 x = A0 22 x) → (∀ k, k ≠ 22 → A k = A0 k) → mm v - j < fuel → J (gC z) mX4_weighTable (d + 2) 17 [(0, .ref 18), (1, .ref 33), (2, .int (nI u)), (3, .int (nI v)), (4, .int (nI i)), (5, .int (nI j))] [] F A (fun _v F' A' => _v = none ∧ F = F' ∧ CI T F A' ∧ (∀ i j, i < mm u → j < mm v → A' 22 (eP u v i j) = nI (t0 n mm row u v i j)) ∧ (∀ x, (∀ i j, i < 4 → j < 4 → x ≠ eP u v i j) → A' 22 x = A0 22 x) ∧ ∀ k, k ≠ 22 → A' k = A0 k) := by
          intro fuel
          induction fuel with
          | zero => intro j A hC h2 hd hdi hoff hfr hf; exact absurd hf (by omega)
          | succ fuel ih17 =>
            intro j A hC h2 hd hdi hoff hfr hf
            refine j_iload dX4_weighTable_17 rfl ?_
            refine j_aload_n dX4_weighTable_19 rfl ?_
            refine j_getR (r := 19) dX4_weighTable_20 flX4_9 (Nat.le_of_ble_eq_true rfl) rfl rfl ?_
            refine j_iload_n dX4_weighTable_23 rfl ?_
            refine j_ialdN dX4_weighTable_24 (Nat.le_of_ble_eq_true rfl) rfl (by omega) (by decide) ?_
            refine j_top (y0 := nI (mm v)) (by rw [hfr _ (by decide)]; exact hch v (by omega)) ?_
            refine j_icmp_geN (tgt := 58) dX4_weighTable_25 (by decide) (by omega) (by omega) (fun c25 => ?_) (fun c25 => ?_)
            · refine j_iinc (v := nI (i + 1)) (lv' := [(0, .ref 18), (1, .ref 33), (2, .int (nI u)), (3, .int (nI v)), (4, .int (nI (i + 1))), (5, .int (nI j))]) dX4_weighTable_58 rfl (nI_add _ 1) (Nat.le_of_ble_eq_true rfl) rfl rfl ?_
              refine j_goto (tgt := 3) dX4_weighTable_61 (by decide) ?_
              refine j_sub [0, 1, 2, 3, 4] rfl ?_
              exact ih3 (i + 1) A (by first | exact hC | omega) (by first | exact h1 | omega) (fun i' j' h1 h2 => if e : i' = i then (by rw [e]; exact hdi j' (by omega)) else hd i' j' (by omega) h2) (by first | exact hoff | omega) (by first | exact hfr | omega) (by omega)
            · refine j_aload_n dX4_weighTable_28 rfl ?_
              refine j_getR (r := 22) dX4_weighTable_29 flX4_21 (Nat.le_of_ble_eq_true rfl) rfl rfl ?_
              refine j_iload_n dX4_weighTable_32 rfl ?_
              refine j_iload_n dX4_weighTable_33 rfl ?_
              refine j_iload dX4_weighTable_34 rfl ?_
              refine j_iload dX4_weighTable_36 rfl ?_
              refine j_callSN (y' := mX5_entryPlace) (As := [.int (nI u), .int (nI v), .int (nI i), .int (nI j)]) (st := [.ref 22]) dX4_weighTable_38 lnX4_52 okX5_entryPlace stX5_entryPlace rfl (Nat.le_of_ble_eq_true rfl) (Nat.le_of_ble_eq_true rfl) (c_entryPlace z _ u v i j (by omega) (by omega) (by omega) F A) (fun v38 F38 A38 hq38 => ?_)
              obtain ⟨rfl, rfl, e38, rfl, he38⟩ := hq38
              have hl38 : e38 < 448 := by rw [he38]; exact eP_lt (by omega) (by omega) (by omega) (by omega) (by omega)
              refine j_aload_n dX4_weighTable_41 rfl ?_
              refine j_iload_n dX4_weighTable_42 rfl ?_
              refine j_iload_n dX4_weighTable_43 rfl ?_
              refine j_iload dX4_weighTable_44 rfl ?_
              refine j_iload dX4_weighTable_46 rfl ?_
              refine j_callV (y' := mX0_tieCost) (As := [.int (nI u), .int (nI v), .int (nI i), .int (nI j)]) (st := [.int (nI e38), .ref 22]) dX4_weighTable_48 lkX4_56 okX0_tieCost imX0_tieCost seX0_tieCost (Nat.le_of_ble_eq_true rfl) rfl rfl rfl rfl (Nat.le_of_ble_eq_true rfl) (Nat.le_of_ble_eq_true rfl) (c_tieCostX z _ n mm row u v i j hu hv huv (by omega) (by omega) htt.2 F A (hG.off rfl (fun q h1 h2 => hfr _ (by omega))) hw) (fun v48 F48 A48 hq48 => ?_)
              obtain ⟨rfl, rfl, r48, rfl, hr48⟩ := hq48
              refine j_iastN dX4_weighTable_51 (Nat.le_of_ble_eq_true rfl) rfl (by omega) (by decide) ?_
              have hC := hC.u (k := 22) rfl e38 (nI r48)
              refine j_iinc (v := nI (j + 1)) (lv' := [(0, .ref 18), (1, .ref 33), (2, .int (nI u)), (3, .int (nI v)), (4, .int (nI i)), (5, .int (nI (j + 1)))]) dX4_weighTable_52 rfl (nI_add _ 1) (Nat.le_of_ble_eq_true rfl) rfl rfl ?_
              refine j_goto (tgt := 17) dX4_weighTable_55 (by decide) ?_
              exact ih17 (j + 1) (mj_u A 22 e38 (nI r48)) (by first | exact hC | omega) (by first | exact h2 | omega) (fun i' j' h1 h2 => by rw [he38, mj_u_at, pk_un (fun q => by rcases eP_inj2 huv huv (by omega) (by omega) (by omega) (by omega) (by omega) (by omega) (by omega) (by omega) q with q | q <;> omega)]; exact hd i' j' h1 h2) (fun j' h => by rw [he38, mj_u_at]; exact if e : j' = j then (by rw [e, pk_us, hr48]; congr 1; exact (if_pos ⟨hu, hv, by omega, by omega, ht1⟩).symm) else (by rw [pk_un (fun q => by rcases eP_inj2 huv huv (by omega) (by omega) (by omega) (by omega) (by omega) (by omega) (by omega) (by omega) q with q | q <;> omega)]; exact hdi j' (by omega))) (fun x hx => by rw [he38, mj_u_at, pk_un (hx _ _ (by omega) (by omega))]; exact hoff x hx) (fun k hk => by rw [mj_u_ne _ _ hk]; exact hfr k hk) (by omega)
        refine j_iconst (v := nI 0) dX4_weighTable_14 (by decide +kernel) ?_
        refine j_istore (lv' := [(0, .ref 18), (1, .ref 33), (2, .int (nI u)), (3, .int (nI v)), (4, .int (nI i)), (5, .int (nI 0))]) dX4_weighTable_15 (Nat.le_of_ble_eq_true rfl) rfl rfl ?_
        exact L17 _ 0 A (by first | exact hC | omega) (Nat.zero_le _) (by first | exact hd | omega) (fun j' h => absurd h (Nat.not_lt_zero j')) (by first | exact hoff | omega) (by first | exact hfr | omega) (Nat.lt_succ_self _)
  refine j_iconst (v := nI 0) dX4_weighTable_0 (by decide +kernel) ?_
  refine j_istore (lv' := [(0, .ref 18), (1, .ref 33), (2, .int (nI u)), (3, .int (nI v)), (4, .int (nI 0))]) dX4_weighTable_1 (Nat.le_of_ble_eq_true rfl) rfl rfl ?_
  exact L3 _ 0 A0 (by first | exact hC | omega) (Nat.zero_le _) (fun i' j' h => absurd h (Nat.not_lt_zero i')) (fun _ _ => rfl) (fun _ _ => rfl) (Nat.lt_succ_self _)

set_option maxHeartbeats 400000 in
set_option maxRecDepth 100000 in
theorem x_tiedW18 (z : mj_B) (d u v s : Nat) (hu : u < 8) (hv : v < 8) (hs : s < 256) (F A : mj_S) (hA : A 20 u = nI s) : J (gC z) mX4_areTied (d + 1) 0 [(0, .ref 18), (1, .int (nI u)), (2, .int (nI v))] [] F A (qN F A fun r => (r = 1 ∧ s / 2 ^ v % 2 = 1) ∨ (r = 0 ∧ ¬ s / 2 ^ v % 2 = 1)) := by
  refine j_aload_n dX4_areTied_0 rfl ?_
  refine j_getR (r := 20) dX4_areTied_1 flX4_15 (Nat.le_of_ble_eq_true rfl) rfl rfl ?_
  refine j_iload_n dX4_areTied_4 rfl ?_
  refine j_ialdN dX4_areTied_5 (Nat.le_of_ble_eq_true rfl) rfl (by omega) (by decide) ?_
  refine j_top (y0 := nI s) hA ?_
  refine j_iload_n dX4_areTied_6 rfl ?_
  refine j_callSN (y' := mX5_hasBit) (As := [.int (nI s), .int (nI v)]) (st := []) dX4_areTied_7 lnX4_59 okX5_hasBit stX5_hasBit rfl (Nat.le_of_ble_eq_true rfl) (Nat.le_of_ble_eq_true rfl) (c_hasBitN z _ s v (by omega) (by omega) F A) (fun v7 F7 A7 hq7 => ?_)
  obtain ⟨rfl, rfl, r7, rfl, hr7⟩ := hq7
  have hb7 : r7 ≤ 1 := by omega
  exact j_iret dX4_areTied_10 rfl (mj_nz hb7) ⟨rfl, rfl, _, rfl, hr7⟩

set_option maxHeartbeats 400000 in
set_option maxRecDepth 100000 in
theorem x_weigh18 (z : mj_B) (d : Nat) (T : Tg) (n : Nat) (mm : VF) (row : Nat → Int32) (hw : wr n mm row) (F A0 : mj_S) (hC : CI T F A0) (hG : GR F A0 33 n mm row) : J (gC z) mX4_weigh (d + 3) 0 [(0, .ref 18), (1, .ref 33)] [] F A0 (fun _v F' A' => _v = none ∧ mj_u F 18 0 (nI n) = F' ∧ CI T F' A' ∧ WT F' A' 18 n mm (c0 n mm row) (t0 n mm row) (mk0 n row) ∧ ∀ k, k < 19 ∨ 22 < k → A' k = A0 k) := by
  have hn8 := hw.1.1
  refine j_aload_n dX4_weigh_0 rfl ?_
  refine j_aload_n dX4_weigh_1 rfl ?_
  refine j_getI dX4_weigh_2 flX4_24 (Nat.le_of_ble_eq_true rfl) rfl rfl ?_
  refine j_top (y0 := nI n) hG.1.1.1 ?_
  refine j_putI dX4_weigh_5 fpX4_30 (Nat.le_of_ble_eq_true rfl) rfl rfl ?_
  have hC := hC.nd n18 hn8
  obtain ⟨F1, hF1⟩ : ∃ F1, F1 = mj_u F 18 0 (nI n) := ⟨_, rfl⟩
  rw [← hF1] at hC
  refine j_F hF1.symm ?_
  have en1 : F1 18 0 = nI n := by rw [hF1]; rfl
  have hG1 : GR F1 A0 33 n mm row := hG.off (by rw [hF1]; rfl) (fun _ _ _ => rfl)
  refine j_aload_n dX4_weigh_8 rfl ?_
  refine j_getR (r := 34) dX4_weigh_9 flX4_31 (Nat.le_of_ble_eq_true rfl) rfl rfl ?_
  refine j_aload_n dX4_weigh_12 rfl ?_
  refine j_getR (r := 19) dX4_weigh_13 flX4_9 (Nat.le_of_ble_eq_true rfl) rfl rfl ?_
  refine j_callSN (y' := mX5_copyRow) (As := [.ref 34, .ref 19]) (st := []) dX4_weigh_16 lnX4_32 okX5_copyRow stX5_copyRow rfl (Nat.le_of_ble_eq_true rfl) (Nat.le_of_ble_eq_true rfl) (c_copyRow z _ 34 19 8 (by decide) (Nat.le_of_ble_eq_true rfl) rfl (Nat.le_of_ble_eq_true rfl) rfl F1 A0) (fun v16 F16 A16 hq16 => ?_)
  obtain ⟨rfl, rfl, rfl⟩ := hq16
  have hC := hC.ch n18 (f := va_cpy (A0 34) (A0 19) 0 0 8) (rg_cpy (hC.2.2.2.1 33 n33).2)
  refine j_aload_n dX4_weigh_19 rfl ?_
  refine j_getR (r := 37) dX4_weigh_20 flX4_36 (Nat.le_of_ble_eq_true rfl) rfl rfl ?_
  refine j_aload_n dX4_weigh_23 rfl ?_
  refine j_getR (r := 20) dX4_weigh_24 flX4_15 (Nat.le_of_ble_eq_true rfl) rfl rfl ?_
  refine j_callSN (y' := mX5_copyRow) (As := [.ref 37, .ref 20]) (st := []) dX4_weigh_27 lnX4_32 okX5_copyRow stX5_copyRow rfl (Nat.le_of_ble_eq_true rfl) (Nat.le_of_ble_eq_true rfl) (c_copyRow z _ 37 20 8 (by decide) (Nat.le_of_ble_eq_true rfl) rfl (Nat.le_of_ble_eq_true rfl) rfl F1 (mj_a A0 19 (va_cpy (A0 34) (A0 19) 0 0 8))) (fun v27 F27 A27 hq27 => ?_)
  obtain ⟨rfl, rfl, rfl⟩ := hq27
  have hC := hC.a (k := 20) rfl (va_cpy ((mj_a A0 19 (va_cpy (A0 34) (A0 19) 0 0 8)) 37) ((mj_a A0 19 (va_cpy (A0 34) (A0 19) 0 0 8)) 20) 0 0 8)
  have L32 : ∀ (fuel : Nat) (u : Nat) (A : mj_S), (CI T F1 A) → (u ≤ n) → (∀ a, a < n → A 19 a = nI (mm a)) → (∀ a, a < n → A 20 a = nI (mk0 n row a)) → (∀ a i, a < u → i < mm a → A 21 (a * 4 + i) = nI (c0 n mm row a i)) → (∀ a b i j, a < u → b < a → i < mm a → j < mm b → tdd row a b = 1 → A 22 (eP a b i j) = nI (t0 n mm row a b i j)) → (∀ k, k < 19 ∨ 22 < k → A k = A0 k) → n - u < fuel → J (gC z) mX4_weigh (d + 3) 32 [(0, .ref 18), (1, .ref 33), (2, .int (nI u))] [] F1 A (fun _v F' A' => _v = none ∧ mj_u F 18 0 (nI n) = F' ∧ CI T F' A' ∧ WT F' A' 18 n mm (c0 n mm row) (t0 n mm row) (mk0 n row) ∧ ∀ k, k < 19 ∨ 22 < k → A' k = A0 k) := by
    intro fuel
    induction fuel with
    | zero => intro u A hC h1 hch hma hc ht hfr hf; exact absurd hf (by omega)
    | succ fuel ih32 =>
      intro u A hC h1 hch hma hc ht hfr hf
      refine j_iload_n dX4_weigh_32 rfl ?_
      refine j_aload_n dX4_weigh_33 rfl ?_
      refine j_getI dX4_weigh_34 flX4_30 (Nat.le_of_ble_eq_true rfl) rfl rfl ?_
      refine j_top (y0 := nI n) en1 ?_
      refine j_icmp_geN (tgt := 109) dX4_weigh_37 (by decide) (by omega) (by omega) (fun c37 => ?_) (fun c37 => ?_)
      · exact j_vret dX4_weigh_109 rfl ⟨rfl, hF1.symm, hC, ⟨en1, fun a ha => ⟨hch a ha, hma a ha⟩, fun a i ha hi => hc a i (by omega) hi, fun a b i j ha hb hab hi hj hbt => by
        have hbt' := ((mk0_bt hw).mp hbt).2.2
        by_cases q : b < a
        · exact ht a b i j (by omega) q hi hj hbt'
        · rw [eP_sym i j hab, t0_sym]; exact ht b a j i (by omega) (by omega) hj hi (by rw [tdd_sym]; exact hbt')⟩, hfr⟩
      · have h4u := (hw.1.2 u (by omega)).2
        have hmk1 := mk0_lt n row u
        have L76 : ∀ (fuel : Nat) (v : Nat) (A : mj_S), (CI T F1 A) → (v ≤ u) → (∀ a, a < n → A 19 a = nI (mm a)) → (∀ a, a < n → A 20 a = nI (mk0 n row a)) → (∀ a i, a < u + 1 → i < mm a → A 21 (a * 4 + i) = nI (c0 n mm row a i)) → (∀ a b i j, a < u → b < a → i < mm a → j < mm b → tdd row a b = 1 → A 22 (eP a b i j) = nI (t0 n mm row a b i j)) → (∀ b i j, b < v → i < mm u → j < mm b → tdd row u b = 1 → A 22 (eP u b i j) = nI (t0 n mm row u b i j)) → (∀ k, k < 19 ∨ 22 < k → A k = A0 k) → u - v < fuel → J (gC z) mX4_weigh (d + 3) 76 [(0, .ref 18), (1, .ref 33), (2, .int (nI u)), (3, .int (nI v))] [] F1 A (fun _v F' A' => _v = none ∧ mj_u F 18 0 (nI n) = F' ∧ CI T F' A' ∧ WT F' A' 18 n mm (c0 n mm row) (t0 n mm row) (mk0 n row) ∧ ∀ k, k < 19 ∨ 22 < k → A' k = A0 k) := by
          intro fuel
          induction fuel with
          | zero => intro v A hC h2 hch hma hc ht htv hfr hf; exact absurd hf (by omega)
          | succ fuel ih76 =>
            intro v A hC h2 hch hma hc ht htv hfr hf
            refine j_iload_n dX4_weigh_76 rfl ?_
            refine j_iload_n dX4_weigh_77 rfl ?_
            refine j_icmp_geN (tgt := 103) dX4_weigh_78 (by decide) (by omega) (by omega) (fun c78 => ?_) (fun c78 => ?_)
            · refine j_iinc (v := nI (u + 1)) (lv' := [(0, .ref 18), (1, .ref 33), (2, .int (nI (u + 1))), (3, .int (nI v))]) dX4_weigh_103 rfl (nI_add _ 1) (Nat.le_of_ble_eq_true rfl) rfl rfl ?_
              refine j_goto (tgt := 32) dX4_weigh_106 (by decide) ?_
              refine j_sub [0, 1, 2] rfl ?_
              exact ih32 (u + 1) A (by first | exact hC | omega) (by first | exact h1 | omega) (by first | exact hch | omega) (by first | exact hma | omega) (by first | exact hc | omega) (fun a b i j h1 h2 h3 h4 h5 => if e : a = u then (by rw [e] at h2 h3 h5 ⊢; exact htv b i j (by omega) h3 h4 h5) else ht a b i j (by omega) h2 h3 h4 h5) (by first | exact hfr | omega) (by omega)
            · refine j_aload_n dX4_weigh_81 rfl ?_
              refine j_iload_n dX4_weigh_82 rfl ?_
              refine j_iload_n dX4_weigh_83 rfl ?_
              refine j_callV (y' := mX4_areTied) (As := [.int (nI u), .int (nI v)]) (st := []) dX4_weigh_84 lkX4_44 okX4_areTied imX4_areTied seX4_areTied (Nat.le_of_ble_eq_true rfl) rfl rfl rfl rfl (Nat.le_of_ble_eq_true rfl) (Nat.le_of_ble_eq_true rfl) (x_tiedW18 z _ u v (mk0 n row u) (by omega) (by omega) hmk1 F1 A (hma u (by omega))) (fun v84 F84 A84 hq84 => ?_)
              obtain ⟨rfl, rfl, r84, rfl, hr84⟩ := hq84
              have hb84 : r84 ≤ 1 := by omega
              refine j_if_eqN (tgt := 97) dX4_weigh_87 (by decide) (by omega) (fun c87 => ?_) (fun c87 => ?_)
              · have hnt : ¬ tdd row u v = 1 := fun q => (hr84.resolve_left (fun h => by omega)).2 ((mk0_bt hw).mpr ⟨by omega, by omega, q⟩)
                refine j_iinc (v := nI (v + 1)) (lv' := [(0, .ref 18), (1, .ref 33), (2, .int (nI u)), (3, .int (nI (v + 1)))]) dX4_weigh_97 rfl (nI_add _ 1) (Nat.le_of_ble_eq_true rfl) rfl rfl ?_
                refine j_goto (tgt := 76) dX4_weigh_100 (by decide) ?_
                exact ih76 (v + 1) A (by first | exact hC | omega) (by first | exact h2 | omega) (by first | exact hch | exact fun a ha => by rw [hwf _ (by decide)]; exact hch a ha) (by first | exact hma | exact fun a ha => by rw [hwf _ (by decide)]; exact hma a ha) (by first | exact hc | exact fun a i h1 h2 => by rw [hwf _ (by decide)]; exact hc a i h1 h2) (by first | exact ht | exact fun a b i j h1 h2 h3 h4 h5 => by rw [hwo _ (fun i' j' hi' hj' q => by have := (hw.1.2 a (by omega)).2; have := (hw.1.2 b (by omega)).2; rcases eP_inj2 (by omega) (by omega) (by omega) (by omega) (by omega) (by omega) (by omega) (by omega) hi' hj' q with q | q <;> omega)]; exact ht a b i j h1 h2 h3 h4 h5) (fun b i j h1 h2 h3 h4 => if e : b = v then (by first | (rw [e] at h4; exact absurd h4 hnt) | (rw [e] at h3 ⊢; exact hwd i j h2 h3)) else (by first | exact htv b i j (by omega) h2 h3 h4 | (rw [hwo _ (fun i' j' hi' hj' q => by have := (hw.1.2 u (by omega)).2; have := (hw.1.2 b (by omega)).2; rcases eP_inj2 (by omega) (by omega) (by omega) (by omega) (by omega) (by omega) (by omega) (by omega) hi' hj' q with q | q <;> omega)]; exact htv b i j (by omega) h2 h3 h4))) (by first | exact hfr | exact fun k hk => by rw [hwf k (by omega)]; exact hfr k hk) (by omega)
              · have ht1 : tdd row u v = 1 := ((mk0_bt hw).mp ((hr84.resolve_right (fun h => by omega)).2)).2.2
                refine j_aload_n dX4_weigh_90 rfl ?_
                refine j_aload_n dX4_weigh_91 rfl ?_
                refine j_iload_n dX4_weigh_92 rfl ?_
                refine j_iload_n dX4_weigh_93 rfl ?_
                refine j_callV (y' := mX4_weighTable) (As := [.ref 33, .int (nI u), .int (nI v)]) (st := []) dX4_weigh_94 lkX4_48 okX4_weighTable imX4_weighTable seX4_weighTable (Nat.le_of_ble_eq_true rfl) rfl rfl rfl rfl (Nat.le_of_ble_eq_true rfl) (Nat.le_of_ble_eq_true rfl) (x_weighTable18 z _ _ n mm row hw u v (by omega) (by omega) (by omega) ht1 F1 A hC (hG1.off rfl (fun q h1 h2 => hfr _ (by omega))) hch) (fun v94 F94 A94 hq94 => ?_)
                obtain ⟨rfl, rfl, hC, hwd, hwo, hwf⟩ := hq94
                refine j_iinc (v := nI (v + 1)) (lv' := [(0, .ref 18), (1, .ref 33), (2, .int (nI u)), (3, .int (nI (v + 1)))]) dX4_weigh_97 rfl (nI_add _ 1) (Nat.le_of_ble_eq_true rfl) rfl rfl ?_
                refine j_goto (tgt := 76) dX4_weigh_100 (by decide) ?_
                exact ih76 (v + 1) A94 (by first | exact hC | omega) (by first | exact h2 | omega) (by first | exact hch | exact fun a ha => by rw [hwf _ (by decide)]; exact hch a ha) (by first | exact hma | exact fun a ha => by rw [hwf _ (by decide)]; exact hma a ha) (by first | exact hc | exact fun a i h1 h2 => by rw [hwf _ (by decide)]; exact hc a i h1 h2) (by first | exact ht | exact fun a b i j h1 h2 h3 h4 h5 => by rw [hwo _ (fun i' j' hi' hj' q => by have := (hw.1.2 a (by omega)).2; have := (hw.1.2 b (by omega)).2; rcases eP_inj2 (by omega) (by omega) (by omega) (by omega) (by omega) (by omega) (by omega) (by omega) hi' hj' q with q | q <;> omega)]; exact ht a b i j h1 h2 h3 h4 h5) (fun b i j h1 h2 h3 h4 => if e : b = v then (by first | (rw [e] at h4; exact absurd h4 hnt) | (rw [e] at h3 ⊢; exact hwd i j h2 h3)) else (by first | exact htv b i j (by omega) h2 h3 h4 | (rw [hwo _ (fun i' j' hi' hj' q => by have := (hw.1.2 u (by omega)).2; have := (hw.1.2 b (by omega)).2; rcases eP_inj2 (by omega) (by omega) (by omega) (by omega) (by omega) (by omega) (by omega) (by omega) hi' hj' q with q | q <;> omega)]; exact htv b i j (by omega) h2 h3 h4))) (by first | exact hfr | exact fun k hk => by rw [hwf k (by omega)]; exact hfr k hk) (by omega)
        have L42 : ∀ (fuel : Nat) (i : Nat) (A : mj_S), (CI T F1 A) → (i ≤ mm u) → (∀ a, a < n → A 19 a = nI (mm a)) → (∀ a, a < n → A 20 a = nI (mk0 n row a)) → (∀ a i, a < u → i < mm a → A 21 (a * 4 + i) = nI (c0 n mm row a i)) → (∀ q, q < i → A 21 (u * 4 + q) = nI (c0 n mm row u q)) → (∀ a b i j, a < u → b < a → i < mm a → j < mm b → tdd row a b = 1 → A 22 (eP a b i j) = nI (t0 n mm row a b i j)) → (∀ k, k < 19 ∨ 22 < k → A k = A0 k) → mm u - i < fuel → J (gC z) mX4_weigh (d + 3) 42 [(0, .ref 18), (1, .ref 33), (2, .int (nI u)), (3, .int (nI i))] [] F1 A (fun _v F' A' => _v = none ∧ mj_u F 18 0 (nI n) = F' ∧ CI T F' A' ∧ WT F' A' 18 n mm (c0 n mm row) (t0 n mm row) (mk0 n row) ∧ ∀ k, k < 19 ∨ 22 < k → A' k = A0 k) := by
          intro fuel
          induction fuel with
          | zero => intro i A hC h2 hch hma hc hcu ht hfr hf; exact absurd hf (by omega)
          | succ fuel ih42 =>
            intro i A hC h2 hch hma hc hcu ht hfr hf
            refine j_iload_n dX4_weigh_42 rfl ?_
            refine j_aload_n dX4_weigh_43 rfl ?_
            refine j_getR (r := 19) dX4_weigh_44 flX4_9 (Nat.le_of_ble_eq_true rfl) rfl rfl ?_
            refine j_iload_n dX4_weigh_47 rfl ?_
            refine j_ialdN dX4_weigh_48 (Nat.le_of_ble_eq_true rfl) rfl (by omega) (by decide) ?_
            refine j_top (y0 := nI (mm u)) (hch u (by omega)) ?_
            refine j_icmp_geN (tgt := 74) dX4_weigh_49 (by decide) (by omega) (by omega) (fun c49 => ?_) (fun c49 => ?_)
            · refine j_iconst (v := nI 0) dX4_weigh_74 (by decide +kernel) ?_
              refine j_istore_n (lv' := [(0, .ref 18), (1, .ref 33), (2, .int (nI u)), (3, .int (nI 0))]) dX4_weigh_75 (Nat.le_of_ble_eq_true rfl) rfl rfl ?_
              exact L76 _ 0 A (by first | exact hC | omega) (Nat.zero_le _) (by first | exact hch | omega) (by first | exact hma | omega) (fun a q h1 h2 => if e : a = u then (by rw [e] at h2 ⊢; exact hcu q (by omega)) else hc a q (by omega) h2) (by first | exact ht | omega) (fun b i j h => absurd h (Nat.not_lt_zero b)) (by first | exact hfr | omega) (Nat.lt_succ_self _)
            · refine j_aload_n dX4_weigh_52 rfl ?_
              refine j_getR (r := 21) dX4_weigh_53 flX4_18 (Nat.le_of_ble_eq_true rfl) rfl rfl ?_
              refine j_iload_n dX4_weigh_56 rfl ?_
              refine j_iload_n dX4_weigh_57 rfl ?_
              refine j_callSN (y' := mX5_choicePlace) (As := [.int (nI u), .int (nI i)]) (st := [.ref 21]) dX4_weigh_58 lnX4_37 okX5_choicePlace stX5_choicePlace rfl (Nat.le_of_ble_eq_true rfl) (Nat.le_of_ble_eq_true rfl) (c_choicePlace z _ u i F1 A) (fun v58 F58 A58 hq58 => ?_)
              obtain ⟨rfl, rfl, _, rfl, rfl⟩ := hq58
              refine j_aload_n dX4_weigh_61 rfl ?_
              refine j_iload_n dX4_weigh_62 rfl ?_
              refine j_iload_n dX4_weigh_63 rfl ?_
              refine j_callV (y' := mX0_choiceCost) (As := [.int (nI u), .int (nI i)]) (st := [.int (nI (u * 4 + i)), .ref 21]) dX4_weigh_64 lkX4_41 okX0_choiceCost imX0_choiceCost seX0_choiceCost (Nat.le_of_ble_eq_true rfl) rfl rfl rfl rfl (Nat.le_of_ble_eq_true rfl) (Nat.le_of_ble_eq_true rfl) (c_choiceCostX z _ n mm row u i (by omega) (by omega) F1 A (hG1.off rfl (fun q h1 h2 => hfr _ (by omega))) hw) (fun v64 F64 A64 hq64 => ?_)
              obtain ⟨rfl, rfl, r64, rfl, hr64⟩ := hq64
              refine j_iastN dX4_weigh_67 (Nat.le_of_ble_eq_true rfl) rfl (by omega) (by decide) ?_
              have hC := hC.u (k := 21) rfl (u * 4 + i) (nI r64)
              refine j_iinc (v := nI (i + 1)) (lv' := [(0, .ref 18), (1, .ref 33), (2, .int (nI u)), (3, .int (nI (i + 1)))]) dX4_weigh_68 rfl (nI_add _ 1) (Nat.le_of_ble_eq_true rfl) rfl rfl ?_
              refine j_goto (tgt := 42) dX4_weigh_71 (by decide) ?_
              exact ih42 (i + 1) (mj_u A 21 (u * 4 + i) (nI r64)) (by first | exact hC | omega) (by first | exact h2 | omega) (by first | exact hch | omega) (by first | exact hma | omega) (fun a q h1 h2 => by have := (hw.1.2 a (by omega)).2; rw [mj_u_at, pk_un (by omega)]; exact hc a q h1 h2) (fun q h => by rw [mj_u_at]; exact if e : q = i then (by rw [e, pk_us, hr64]; congr 1; exact (if_pos ⟨by omega, by omega⟩).symm) else (by rw [pk_un (by omega)]; exact hcu q (by omega))) (by first | exact ht | omega) (fun k hk => by rw [mj_u_ne _ _ (by omega)]; exact hfr k hk) (by omega)
        refine j_iconst (v := nI 0) dX4_weigh_40 (by decide +kernel) ?_
        refine j_istore_n (lv' := [(0, .ref 18), (1, .ref 33), (2, .int (nI u)), (3, .int (nI 0))]) dX4_weigh_41 (Nat.le_of_ble_eq_true rfl) rfl rfl ?_
        exact L42 _ 0 A (by first | exact hC | omega) (Nat.zero_le _) (by first | exact hch | omega) (by first | exact hma | omega) (by first | exact hc | omega) (fun q h => absurd h (Nat.not_lt_zero q)) (by first | exact ht | omega) (by first | exact hfr | omega) (Nat.lt_succ_self _)
  refine j_iconst (v := nI 0) dX4_weigh_30 (by decide +kernel) ?_
  refine j_istore_n (lv' := [(0, .ref 18), (1, .ref 33), (2, .int (nI 0))]) dX4_weigh_31 (Nat.le_of_ble_eq_true rfl) rfl rfl ?_
  exact L32 _ 0 (mj_a (mj_a A0 19 (va_cpy (A0 34) (A0 19) 0 0 8)) 20 (va_cpy ((mj_a A0 19 (va_cpy (A0 34) (A0 19) 0 0 8)) 37) ((mj_a A0 19 (va_cpy (A0 34) (A0 19) 0 0 8)) 20) 0 0 8)) (by first | exact hC | omega) (Nat.zero_le _) (fun a ha => (congrFun (mj_a_ne _ _ (by decide)) a).trans (by rw [mj_a_at, va_cpy8 (by omega)]; exact (hG.1.2 a ha).2.1)) (fun a ha => by rw [mj_a_at, va_cpy8 (by omega), mj_a_ne _ _ (by decide)]; exact (hG.2.1 a ha).trans (by unfold mk0; rw [if_pos ha])) (fun a i h => absurd h (Nat.not_lt_zero a)) (fun a b i j h => absurd h (Nat.not_lt_zero a)) (fun k hk => by rw [mj_a_ne _ _ (by omega), mj_a_ne _ _ (by omega)]) (Nat.lt_succ_self _)

set_option maxHeartbeats 400000 in
set_option maxRecDepth 100000 in
theorem x_weighTable23 (z : mj_B) (d : Nat) (T : Tg) (n : Nat) (mm : VF) (row : Nat → Int32) (hw : wr n mm row) (u v : Nat) (hu : u < n) (hv : v < n) (huv : u ≠ v) (ht1 : tdd row u v = 1) (F A0 : mj_S) (hC : CI T F A0) (hG : GR F A0 33 n mm row) (hch : ∀ a, a < n → A0 24 a = nI (mm a)) : J (gC z) mX4_weighTable (d + 2) 0 [(0, .ref 23), (1, .ref 33), (2, .int (nI u)), (3, .int (nI v))] [] F A0 (fun _v F' A' => _v = none ∧ F = F' ∧ CI T F A' ∧ (∀ i j, i < mm u → j < mm v → A' 27 (eP u v i j) = nI (t0 n mm row u v i j)) ∧ (∀ x, (∀ i j, i < 4 → j < 4 → x ≠ eP u v i j) → A' 27 x = A0 27 x) ∧ ∀ k, k ≠ 27 → A' k = A0 k) := by
  have hn8 := hw.1.1
  have h4u := (hw.1.2 u hu).2
  have h4v := (hw.1.2 v hv).2
  have htt := tdd_inv ht1
  have L3 : ∀ (fuel : Nat) (i : Nat) (A : mj_S), (CI T F A) → (i ≤ mm u) → (∀ i' j', i' < i → j' < mm v → A 27 (eP u v i' j') = nI (t0 n mm row u v i' j')) → (∀ x, (∀ i j, i < 4 → j < 4 → x ≠ eP u v i j) → A 27 x = A0 27 x) → (∀ k, k ≠ 27 → A k = A0 k) → mm u - i < fuel → J (gC z) mX4_weighTable (d + 2) 3 [(0, .ref 23), (1, .ref 33), (2, .int (nI u)), (3, .int (nI v)), (4, .int (nI i))] [] F A (fun _v F' A' => _v = none ∧ F = F' ∧ CI T F A' ∧ (∀ i j, i < mm u → j < mm v → A' 27 (eP u v i j) = nI (t0 n mm row u v i j)) ∧ (∀ x, (∀ i j, i < 4 → j < 4 → x ≠ eP u v i j) → A' 27 x = A0 27 x) ∧ ∀ k, k ≠ 27 → A' k = A0 k) := by
    intro fuel
    induction fuel with
    | zero => intro i A hC h1 hd hoff hfr hf; exact absurd hf (by omega)
    | succ fuel ih3 =>
      intro i A hC h1 hd hoff hfr hf
      refine j_iload dX4_weighTable_3 rfl ?_
      refine j_aload_n dX4_weighTable_5 rfl ?_
      refine j_getR (r := 24) dX4_weighTable_6 flX4_9 (Nat.le_of_ble_eq_true rfl) rfl rfl ?_
      refine j_iload_n dX4_weighTable_9 rfl ?_
      refine j_ialdN dX4_weighTable_10 (Nat.le_of_ble_eq_true rfl) rfl (by omega) (by decide) ?_
      refine j_top (y0 := nI (mm u)) (by rw [hfr _ (by decide)]; exact hch u (by omega)) ?_
      refine j_icmp_geN (tgt := 64) dX4_weighTable_11 (by decide) (by omega) (by omega) (fun c11 => ?_) (fun c11 => ?_)
      · exact j_vret dX4_weighTable_64 rfl ⟨rfl, rfl, hC, fun i' j' h1' h2' => hd i' j' (by omega) h2', hoff, hfr⟩
      · have L17 : ∀ (fuel : Nat) (j : Nat) (A : mj_S), (CI T F A) → (j ≤ mm v) → (∀ i' j', i' < i → j' < mm v → A 27 (eP u v i' j') = nI (t0 n mm row u v i' j')) → (∀ j', j' < j → A 27 (eP u v i j') = nI (t0 n mm row u v i j')) → (∀ x, (∀ i j, i < 4 → j < 4 → x ≠ eP u v i j) → A 27 x = A0 27 x) → (∀ k, k ≠ 27 → A k = A0 k) → mm v - j < fuel → J (gC z) mX4_weighTable (d + 2) 17 [(0, .ref 23), (1, .ref 33), (2, .int (nI u)), (3, .int (nI v)), (4, .int (nI i)), (5, .int (nI j))] [] F A (fun _v F' A' => _v = none ∧ F = F' ∧ CI T F A' ∧ (∀ i j, i < mm u → j < mm v → A' 27 (eP u v i j) = nI (t0 n mm row u v i j)) ∧ (∀ x, (∀ i j, i < 4 → j < 4 → x ≠ eP u v i j) → A' 27 x = A0 27 x) ∧ ∀ k, k ≠ 27 → A' k = A0 k) := by
          intro fuel
          induction fuel with
          | zero => intro j A hC h2 hd hdi hoff hfr hf; exact absurd hf (by omega)
          | succ fuel ih17 =>
            intro j A hC h2 hd hdi hoff hfr hf
            refine j_iload dX4_weighTable_17 rfl ?_
            refine j_aload_n dX4_weighTable_19 rfl ?_
            refine j_getR (r := 24) dX4_weighTable_20 flX4_9 (Nat.le_of_ble_eq_true rfl) rfl rfl ?_
            refine j_iload_n dX4_weighTable_23 rfl ?_
            refine j_ialdN dX4_weighTable_24 (Nat.le_of_ble_eq_true rfl) rfl (by omega) (by decide) ?_
            refine j_top (y0 := nI (mm v)) (by rw [hfr _ (by decide)]; exact hch v (by omega)) ?_
            refine j_icmp_geN (tgt := 58) dX4_weighTable_25 (by decide) (by omega) (by omega) (fun c25 => ?_) (fun c25 => ?_)
            · refine j_iinc (v := nI (i + 1)) (lv' := [(0, .ref 23), (1, .ref 33), (2, .int (nI u)), (3, .int (nI v)), (4, .int (nI (i + 1))), (5, .int (nI j))]) dX4_weighTable_58 rfl (nI_add _ 1) (Nat.le_of_ble_eq_true rfl) rfl rfl ?_
              refine j_goto (tgt := 3) dX4_weighTable_61 (by decide) ?_
              refine j_sub [0, 1, 2, 3, 4] rfl ?_
              exact ih3 (i + 1) A (by first | exact hC | omega) (by first | exact h1 | omega) (fun i' j' h1 h2 => if e : i' = i then (by rw [e]; exact hdi j' (by omega)) else hd i' j' (by omega) h2) (by first | exact hoff | omega) (by first | exact hfr | omega) (by omega)
            · refine j_aload_n dX4_weighTable_28 rfl ?_
              refine j_getR (r := 27) dX4_weighTable_29 flX4_21 (Nat.le_of_ble_eq_true rfl) rfl rfl ?_
              refine j_iload_n dX4_weighTable_32 rfl ?_
              refine j_iload_n dX4_weighTable_33 rfl ?_
              refine j_iload dX4_weighTable_34 rfl ?_
              refine j_iload dX4_weighTable_36 rfl ?_
              refine j_callSN (y' := mX5_entryPlace) (As := [.int (nI u), .int (nI v), .int (nI i), .int (nI j)]) (st := [.ref 27]) dX4_weighTable_38 lnX4_52 okX5_entryPlace stX5_entryPlace rfl (Nat.le_of_ble_eq_true rfl) (Nat.le_of_ble_eq_true rfl) (c_entryPlace z _ u v i j (by omega) (by omega) (by omega) F A) (fun v38 F38 A38 hq38 => ?_)
              obtain ⟨rfl, rfl, e38, rfl, he38⟩ := hq38
              have hl38 : e38 < 448 := by rw [he38]; exact eP_lt (by omega) (by omega) (by omega) (by omega) (by omega)
              refine j_aload_n dX4_weighTable_41 rfl ?_
              refine j_iload_n dX4_weighTable_42 rfl ?_
              refine j_iload_n dX4_weighTable_43 rfl ?_
              refine j_iload dX4_weighTable_44 rfl ?_
              refine j_iload dX4_weighTable_46 rfl ?_
              refine j_callV (y' := mX0_tieCost) (As := [.int (nI u), .int (nI v), .int (nI i), .int (nI j)]) (st := [.int (nI e38), .ref 27]) dX4_weighTable_48 lkX4_56 okX0_tieCost imX0_tieCost seX0_tieCost (Nat.le_of_ble_eq_true rfl) rfl rfl rfl rfl (Nat.le_of_ble_eq_true rfl) (Nat.le_of_ble_eq_true rfl) (c_tieCostX z _ n mm row u v i j hu hv huv (by omega) (by omega) htt.2 F A (hG.off rfl (fun q h1 h2 => hfr _ (by omega))) hw) (fun v48 F48 A48 hq48 => ?_)
              obtain ⟨rfl, rfl, r48, rfl, hr48⟩ := hq48
              refine j_iastN dX4_weighTable_51 (Nat.le_of_ble_eq_true rfl) rfl (by omega) (by decide) ?_
              have hC := hC.u (k := 27) rfl e38 (nI r48)
              refine j_iinc (v := nI (j + 1)) (lv' := [(0, .ref 23), (1, .ref 33), (2, .int (nI u)), (3, .int (nI v)), (4, .int (nI i)), (5, .int (nI (j + 1)))]) dX4_weighTable_52 rfl (nI_add _ 1) (Nat.le_of_ble_eq_true rfl) rfl rfl ?_
              refine j_goto (tgt := 17) dX4_weighTable_55 (by decide) ?_
              exact ih17 (j + 1) (mj_u A 27 e38 (nI r48)) (by first | exact hC | omega) (by first | exact h2 | omega) (fun i' j' h1 h2 => by rw [he38, mj_u_at, pk_un (fun q => by rcases eP_inj2 huv huv (by omega) (by omega) (by omega) (by omega) (by omega) (by omega) (by omega) (by omega) q with q | q <;> omega)]; exact hd i' j' h1 h2) (fun j' h => by rw [he38, mj_u_at]; exact if e : j' = j then (by rw [e, pk_us, hr48]; congr 1; exact (if_pos ⟨hu, hv, by omega, by omega, ht1⟩).symm) else (by rw [pk_un (fun q => by rcases eP_inj2 huv huv (by omega) (by omega) (by omega) (by omega) (by omega) (by omega) (by omega) (by omega) q with q | q <;> omega)]; exact hdi j' (by omega))) (fun x hx => by rw [he38, mj_u_at, pk_un (hx _ _ (by omega) (by omega))]; exact hoff x hx) (fun k hk => by rw [mj_u_ne _ _ hk]; exact hfr k hk) (by omega)
        refine j_iconst (v := nI 0) dX4_weighTable_14 (by decide +kernel) ?_
        refine j_istore (lv' := [(0, .ref 23), (1, .ref 33), (2, .int (nI u)), (3, .int (nI v)), (4, .int (nI i)), (5, .int (nI 0))]) dX4_weighTable_15 (Nat.le_of_ble_eq_true rfl) rfl rfl ?_
        exact L17 _ 0 A (by first | exact hC | omega) (Nat.zero_le _) (by first | exact hd | omega) (fun j' h => absurd h (Nat.not_lt_zero j')) (by first | exact hoff | omega) (by first | exact hfr | omega) (Nat.lt_succ_self _)
  refine j_iconst (v := nI 0) dX4_weighTable_0 (by decide +kernel) ?_
  refine j_istore (lv' := [(0, .ref 23), (1, .ref 33), (2, .int (nI u)), (3, .int (nI v)), (4, .int (nI 0))]) dX4_weighTable_1 (Nat.le_of_ble_eq_true rfl) rfl rfl ?_
  exact L3 _ 0 A0 (by first | exact hC | omega) (Nat.zero_le _) (fun i' j' h => absurd h (Nat.not_lt_zero i')) (fun _ _ => rfl) (fun _ _ => rfl) (Nat.lt_succ_self _)

set_option maxHeartbeats 400000 in
set_option maxRecDepth 100000 in
theorem x_tiedW23 (z : mj_B) (d u v s : Nat) (hu : u < 8) (hv : v < 8) (hs : s < 256) (F A : mj_S) (hA : A 25 u = nI s) : J (gC z) mX4_areTied (d + 1) 0 [(0, .ref 23), (1, .int (nI u)), (2, .int (nI v))] [] F A (qN F A fun r => (r = 1 ∧ s / 2 ^ v % 2 = 1) ∨ (r = 0 ∧ ¬ s / 2 ^ v % 2 = 1)) := by
  refine j_aload_n dX4_areTied_0 rfl ?_
  refine j_getR (r := 25) dX4_areTied_1 flX4_15 (Nat.le_of_ble_eq_true rfl) rfl rfl ?_
  refine j_iload_n dX4_areTied_4 rfl ?_
  refine j_ialdN dX4_areTied_5 (Nat.le_of_ble_eq_true rfl) rfl (by omega) (by decide) ?_
  refine j_top (y0 := nI s) hA ?_
  refine j_iload_n dX4_areTied_6 rfl ?_
  refine j_callSN (y' := mX5_hasBit) (As := [.int (nI s), .int (nI v)]) (st := []) dX4_areTied_7 lnX4_59 okX5_hasBit stX5_hasBit rfl (Nat.le_of_ble_eq_true rfl) (Nat.le_of_ble_eq_true rfl) (c_hasBitN z _ s v (by omega) (by omega) F A) (fun v7 F7 A7 hq7 => ?_)
  obtain ⟨rfl, rfl, r7, rfl, hr7⟩ := hq7
  have hb7 : r7 ≤ 1 := by omega
  exact j_iret dX4_areTied_10 rfl (mj_nz hb7) ⟨rfl, rfl, _, rfl, hr7⟩

set_option maxHeartbeats 400000 in
set_option maxRecDepth 100000 in
theorem x_weigh23 (z : mj_B) (d : Nat) (T : Tg) (n : Nat) (mm : VF) (row : Nat → Int32) (hw : wr n mm row) (F A0 : mj_S) (hC : CI T F A0) (hG : GR F A0 33 n mm row) : J (gC z) mX4_weigh (d + 3) 0 [(0, .ref 23), (1, .ref 33)] [] F A0 (fun _v F' A' => _v = none ∧ mj_u F 23 0 (nI n) = F' ∧ CI T F' A' ∧ WT F' A' 23 n mm (c0 n mm row) (t0 n mm row) (mk0 n row) ∧ ∀ k, k < 24 ∨ 27 < k → A' k = A0 k) := by
  have hn8 := hw.1.1
  refine j_aload_n dX4_weigh_0 rfl ?_
  refine j_aload_n dX4_weigh_1 rfl ?_
  refine j_getI dX4_weigh_2 flX4_24 (Nat.le_of_ble_eq_true rfl) rfl rfl ?_
  refine j_top (y0 := nI n) hG.1.1.1 ?_
  refine j_putI dX4_weigh_5 fpX4_30 (Nat.le_of_ble_eq_true rfl) rfl rfl ?_
  have hC := hC.nd n23 hn8
  obtain ⟨F1, hF1⟩ : ∃ F1, F1 = mj_u F 23 0 (nI n) := ⟨_, rfl⟩
  rw [← hF1] at hC
  refine j_F hF1.symm ?_
  have en1 : F1 23 0 = nI n := by rw [hF1]; rfl
  have hG1 : GR F1 A0 33 n mm row := hG.off (by rw [hF1]; rfl) (fun _ _ _ => rfl)
  refine j_aload_n dX4_weigh_8 rfl ?_
  refine j_getR (r := 34) dX4_weigh_9 flX4_31 (Nat.le_of_ble_eq_true rfl) rfl rfl ?_
  refine j_aload_n dX4_weigh_12 rfl ?_
  refine j_getR (r := 24) dX4_weigh_13 flX4_9 (Nat.le_of_ble_eq_true rfl) rfl rfl ?_
  refine j_callSN (y' := mX5_copyRow) (As := [.ref 34, .ref 24]) (st := []) dX4_weigh_16 lnX4_32 okX5_copyRow stX5_copyRow rfl (Nat.le_of_ble_eq_true rfl) (Nat.le_of_ble_eq_true rfl) (c_copyRow z _ 34 24 8 (by decide) (Nat.le_of_ble_eq_true rfl) rfl (Nat.le_of_ble_eq_true rfl) rfl F1 A0) (fun v16 F16 A16 hq16 => ?_)
  obtain ⟨rfl, rfl, rfl⟩ := hq16
  have hC := hC.ch n23 (f := va_cpy (A0 34) (A0 24) 0 0 8) (rg_cpy (hC.2.2.2.1 33 n33).2)
  refine j_aload_n dX4_weigh_19 rfl ?_
  refine j_getR (r := 37) dX4_weigh_20 flX4_36 (Nat.le_of_ble_eq_true rfl) rfl rfl ?_
  refine j_aload_n dX4_weigh_23 rfl ?_
  refine j_getR (r := 25) dX4_weigh_24 flX4_15 (Nat.le_of_ble_eq_true rfl) rfl rfl ?_
  refine j_callSN (y' := mX5_copyRow) (As := [.ref 37, .ref 25]) (st := []) dX4_weigh_27 lnX4_32 okX5_copyRow stX5_copyRow rfl (Nat.le_of_ble_eq_true rfl) (Nat.le_of_ble_eq_true rfl) (c_copyRow z _ 37 25 8 (by decide) (Nat.le_of_ble_eq_true rfl) rfl (Nat.le_of_ble_eq_true rfl) rfl F1 (mj_a A0 24 (va_cpy (A0 34) (A0 24) 0 0 8))) (fun v27 F27 A27 hq27 => ?_)
  obtain ⟨rfl, rfl, rfl⟩ := hq27
  have hC := hC.a (k := 25) rfl (va_cpy ((mj_a A0 24 (va_cpy (A0 34) (A0 24) 0 0 8)) 37) ((mj_a A0 24 (va_cpy (A0 34) (A0 24) 0 0 8)) 25) 0 0 8)
  have L32 : ∀ (fuel : Nat) (u : Nat) (A : mj_S), (CI T F1 A) → (u ≤ n) → (∀ a, a < n → A 24 a = nI (mm a)) → (∀ a, a < n → A 25 a = nI (mk0 n row a)) → (∀ a i, a < u → i < mm a → A 26 (a * 4 + i) = nI (c0 n mm row a i)) → (∀ a b i j, a < u → b < a → i < mm a → j < mm b → tdd row a b = 1 → A 27 (eP a b i j) = nI (t0 n mm row a b i j)) → (∀ k, k < 24 ∨ 27 < k → A k = A0 k) → n - u < fuel → J (gC z) mX4_weigh (d + 3) 32 [(0, .ref 23), (1, .ref 33), (2, .int (nI u))] [] F1 A (fun _v F' A' => _v = none ∧ mj_u F 23 0 (nI n) = F' ∧ CI T F' A' ∧ WT F' A' 23 n mm (c0 n mm row) (t0 n mm row) (mk0 n row) ∧ ∀ k, k < 24 ∨ 27 < k → A' k = A0 k) := by
    intro fuel
    induction fuel with
    | zero => intro u A hC h1 hch hma hc ht hfr hf; exact absurd hf (by omega)
    | succ fuel ih32 =>
      intro u A hC h1 hch hma hc ht hfr hf
      refine j_iload_n dX4_weigh_32 rfl ?_
      refine j_aload_n dX4_weigh_33 rfl ?_
      refine j_getI dX4_weigh_34 flX4_30 (Nat.le_of_ble_eq_true rfl) rfl rfl ?_
      refine j_top (y0 := nI n) en1 ?_
      refine j_icmp_geN (tgt := 109) dX4_weigh_37 (by decide) (by omega) (by omega) (fun c37 => ?_) (fun c37 => ?_)
      · exact j_vret dX4_weigh_109 rfl ⟨rfl, hF1.symm, hC, ⟨en1, fun a ha => ⟨hch a ha, hma a ha⟩, fun a i ha hi => hc a i (by omega) hi, fun a b i j ha hb hab hi hj hbt => by
        have hbt' := ((mk0_bt hw).mp hbt).2.2
        by_cases q : b < a
        · exact ht a b i j (by omega) q hi hj hbt'
        · rw [eP_sym i j hab, t0_sym]; exact ht b a j i (by omega) (by omega) hj hi (by rw [tdd_sym]; exact hbt')⟩, hfr⟩
      · have h4u := (hw.1.2 u (by omega)).2
        have hmk1 := mk0_lt n row u
        have L76 : ∀ (fuel : Nat) (v : Nat) (A : mj_S), (CI T F1 A) → (v ≤ u) → (∀ a, a < n → A 24 a = nI (mm a)) → (∀ a, a < n → A 25 a = nI (mk0 n row a)) → (∀ a i, a < u + 1 → i < mm a → A 26 (a * 4 + i) = nI (c0 n mm row a i)) → (∀ a b i j, a < u → b < a → i < mm a → j < mm b → tdd row a b = 1 → A 27 (eP a b i j) = nI (t0 n mm row a b i j)) → (∀ b i j, b < v → i < mm u → j < mm b → tdd row u b = 1 → A 27 (eP u b i j) = nI (t0 n mm row u b i j)) → (∀ k, k < 24 ∨ 27 < k → A k = A0 k) → u - v < fuel → J (gC z) mX4_weigh (d + 3) 76 [(0, .ref 23), (1, .ref 33), (2, .int (nI u)), (3, .int (nI v))] [] F1 A (fun _v F' A' => _v = none ∧ mj_u F 23 0 (nI n) = F' ∧ CI T F' A' ∧ WT F' A' 23 n mm (c0 n mm row) (t0 n mm row) (mk0 n row) ∧ ∀ k, k < 24 ∨ 27 < k → A' k = A0 k) := by
          intro fuel
          induction fuel with
          | zero => intro v A hC h2 hch hma hc ht htv hfr hf; exact absurd hf (by omega)
          | succ fuel ih76 =>
            intro v A hC h2 hch hma hc ht htv hfr hf
            refine j_iload_n dX4_weigh_76 rfl ?_
            refine j_iload_n dX4_weigh_77 rfl ?_
            refine j_icmp_geN (tgt := 103) dX4_weigh_78 (by decide) (by omega) (by omega) (fun c78 => ?_) (fun c78 => ?_)
            · refine j_iinc (v := nI (u + 1)) (lv' := [(0, .ref 23), (1, .ref 33), (2, .int (nI (u + 1))), (3, .int (nI v))]) dX4_weigh_103 rfl (nI_add _ 1) (Nat.le_of_ble_eq_true rfl) rfl rfl ?_
              refine j_goto (tgt := 32) dX4_weigh_106 (by decide) ?_
              refine j_sub [0, 1, 2] rfl ?_
              exact ih32 (u + 1) A (by first | exact hC | omega) (by first | exact h1 | omega) (by first | exact hch | omega) (by first | exact hma | omega) (by first | exact hc | omega) (fun a b i j h1 h2 h3 h4 h5 => if e : a = u then (by rw [e] at h2 h3 h5 ⊢; exact htv b i j (by omega) h3 h4 h5) else ht a b i j (by omega) h2 h3 h4 h5) (by first | exact hfr | omega) (by omega)
            · refine j_aload_n dX4_weigh_81 rfl ?_
              refine j_iload_n dX4_weigh_82 rfl ?_
              refine j_iload_n dX4_weigh_83 rfl ?_
              refine j_callV (y' := mX4_areTied) (As := [.int (nI u), .int (nI v)]) (st := []) dX4_weigh_84 lkX4_44 okX4_areTied imX4_areTied seX4_areTied (Nat.le_of_ble_eq_true rfl) rfl rfl rfl rfl (Nat.le_of_ble_eq_true rfl) (Nat.le_of_ble_eq_true rfl) (x_tiedW23 z _ u v (mk0 n row u) (by omega) (by omega) hmk1 F1 A (hma u (by omega))) (fun v84 F84 A84 hq84 => ?_)
              obtain ⟨rfl, rfl, r84, rfl, hr84⟩ := hq84
              have hb84 : r84 ≤ 1 := by omega
              refine j_if_eqN (tgt := 97) dX4_weigh_87 (by decide) (by omega) (fun c87 => ?_) (fun c87 => ?_)
              · have hnt : ¬ tdd row u v = 1 := fun q => (hr84.resolve_left (fun h => by omega)).2 ((mk0_bt hw).mpr ⟨by omega, by omega, q⟩)
                refine j_iinc (v := nI (v + 1)) (lv' := [(0, .ref 23), (1, .ref 33), (2, .int (nI u)), (3, .int (nI (v + 1)))]) dX4_weigh_97 rfl (nI_add _ 1) (Nat.le_of_ble_eq_true rfl) rfl rfl ?_
                refine j_goto (tgt := 76) dX4_weigh_100 (by decide) ?_
                exact ih76 (v + 1) A (by first | exact hC | omega) (by first | exact h2 | omega) (by first | exact hch | exact fun a ha => by rw [hwf _ (by decide)]; exact hch a ha) (by first | exact hma | exact fun a ha => by rw [hwf _ (by decide)]; exact hma a ha) (by first | exact hc | exact fun a i h1 h2 => by rw [hwf _ (by decide)]; exact hc a i h1 h2) (by first | exact ht | exact fun a b i j h1 h2 h3 h4 h5 => by rw [hwo _ (fun i' j' hi' hj' q => by have := (hw.1.2 a (by omega)).2; have := (hw.1.2 b (by omega)).2; rcases eP_inj2 (by omega) (by omega) (by omega) (by omega) (by omega) (by omega) (by omega) (by omega) hi' hj' q with q | q <;> omega)]; exact ht a b i j h1 h2 h3 h4 h5) (fun b i j h1 h2 h3 h4 => if e : b = v then (by first | (rw [e] at h4; exact absurd h4 hnt) | (rw [e] at h3 ⊢; exact hwd i j h2 h3)) else (by first | exact htv b i j (by omega) h2 h3 h4 | (rw [hwo _ (fun i' j' hi' hj' q => by have := (hw.1.2 u (by omega)).2; have := (hw.1.2 b (by omega)).2; rcases eP_inj2 (by omega) (by omega) (by omega) (by omega) (by omega) (by omega) (by omega) (by omega) hi' hj' q with q | q <;> omega)]; exact htv b i j (by omega) h2 h3 h4))) (by first | exact hfr | exact fun k hk => by rw [hwf k (by omega)]; exact hfr k hk) (by omega)
              · have ht1 : tdd row u v = 1 := ((mk0_bt hw).mp ((hr84.resolve_right (fun h => by omega)).2)).2.2
                refine j_aload_n dX4_weigh_90 rfl ?_
                refine j_aload_n dX4_weigh_91 rfl ?_
                refine j_iload_n dX4_weigh_92 rfl ?_
                refine j_iload_n dX4_weigh_93 rfl ?_
                refine j_callV (y' := mX4_weighTable) (As := [.ref 33, .int (nI u), .int (nI v)]) (st := []) dX4_weigh_94 lkX4_48 okX4_weighTable imX4_weighTable seX4_weighTable (Nat.le_of_ble_eq_true rfl) rfl rfl rfl rfl (Nat.le_of_ble_eq_true rfl) (Nat.le_of_ble_eq_true rfl) (x_weighTable23 z _ _ n mm row hw u v (by omega) (by omega) (by omega) ht1 F1 A hC (hG1.off rfl (fun q h1 h2 => hfr _ (by omega))) hch) (fun v94 F94 A94 hq94 => ?_)
                obtain ⟨rfl, rfl, hC, hwd, hwo, hwf⟩ := hq94
                refine j_iinc (v := nI (v + 1)) (lv' := [(0, .ref 23), (1, .ref 33), (2, .int (nI u)), (3, .int (nI (v + 1)))]) dX4_weigh_97 rfl (nI_add _ 1) (Nat.le_of_ble_eq_true rfl) rfl rfl ?_
                refine j_goto (tgt := 76) dX4_weigh_100 (by decide) ?_
                exact ih76 (v + 1) A94 (by first | exact hC | omega) (by first | exact h2 | omega) (by first | exact hch | exact fun a ha => by rw [hwf _ (by decide)]; exact hch a ha) (by first | exact hma | exact fun a ha => by rw [hwf _ (by decide)]; exact hma a ha) (by first | exact hc | exact fun a i h1 h2 => by rw [hwf _ (by decide)]; exact hc a i h1 h2) (by first | exact ht | exact fun a b i j h1 h2 h3 h4 h5 => by rw [hwo _ (fun i' j' hi' hj' q => by have := (hw.1.2 a (by omega)).2; have := (hw.1.2 b (by omega)).2; rcases eP_inj2 (by omega) (by omega) (by omega) (by omega) (by omega) (by omega) (by omega) (by omega) hi' hj' q with q | q <;> omega)]; exact ht a b i j h1 h2 h3 h4 h5) (fun b i j h1 h2 h3 h4 => if e : b = v then (by first | (rw [e] at h4; exact absurd h4 hnt) | (rw [e] at h3 ⊢; exact hwd i j h2 h3)) else (by first | exact htv b i j (by omega) h2 h3 h4 | (rw [hwo _ (fun i' j' hi' hj' q => by have := (hw.1.2 u (by omega)).2; have := (hw.1.2 b (by omega)).2; rcases eP_inj2 (by omega) (by omega) (by omega) (by omega) (by omega) (by omega) (by omega) (by omega) hi' hj' q with q | q <;> omega)]; exact htv b i j (by omega) h2 h3 h4))) (by first | exact hfr | exact fun k hk => by rw [hwf k (by omega)]; exact hfr k hk) (by omega)
        have L42 : ∀ (fuel : Nat) (i : Nat) (A : mj_S), (CI T F1 A) → (i ≤ mm u) → (∀ a, a < n → A 24 a = nI (mm a)) → (∀ a, a < n → A 25 a = nI (mk0 n row a)) → (∀ a i, a < u → i < mm a → A 26 (a * 4 + i) = nI (c0 n mm row a i)) → (∀ q, q < i → A 26 (u * 4 + q) = nI (c0 n mm row u q)) → (∀ a b i j, a < u → b < a → i < mm a → j < mm b → tdd row a b = 1 → A 27 (eP a b i j) = nI (t0 n mm row a b i j)) → (∀ k, k < 24 ∨ 27 < k → A k = A0 k) → mm u - i < fuel → J (gC z) mX4_weigh (d + 3) 42 [(0, .ref 23), (1, .ref 33), (2, .int (nI u)), (3, .int (nI i))] [] F1 A (fun _v F' A' => _v = none ∧ mj_u F 23 0 (nI n) = F' ∧ CI T F' A' ∧ WT F' A' 23 n mm (c0 n mm row) (t0 n mm row) (mk0 n row) ∧ ∀ k, k < 24 ∨ 27 < k → A' k = A0 k) := by
          intro fuel
          induction fuel with
          | zero => intro i A hC h2 hch hma hc hcu ht hfr hf; exact absurd hf (by omega)
          | succ fuel ih42 =>
            intro i A hC h2 hch hma hc hcu ht hfr hf
            refine j_iload_n dX4_weigh_42 rfl ?_
            refine j_aload_n dX4_weigh_43 rfl ?_
            refine j_getR (r := 24) dX4_weigh_44 flX4_9 (Nat.le_of_ble_eq_true rfl) rfl rfl ?_
            refine j_iload_n dX4_weigh_47 rfl ?_
            refine j_ialdN dX4_weigh_48 (Nat.le_of_ble_eq_true rfl) rfl (by omega) (by decide) ?_
            refine j_top (y0 := nI (mm u)) (hch u (by omega)) ?_
            refine j_icmp_geN (tgt := 74) dX4_weigh_49 (by decide) (by omega) (by omega) (fun c49 => ?_) (fun c49 => ?_)
            · refine j_iconst (v := nI 0) dX4_weigh_74 (by decide +kernel) ?_
              refine j_istore_n (lv' := [(0, .ref 23), (1, .ref 33), (2, .int (nI u)), (3, .int (nI 0))]) dX4_weigh_75 (Nat.le_of_ble_eq_true rfl) rfl rfl ?_
              exact L76 _ 0 A (by first | exact hC | omega) (Nat.zero_le _) (by first | exact hch | omega) (by first | exact hma | omega) (fun a q h1 h2 => if e : a = u then (by rw [e] at h2 ⊢; exact hcu q (by omega)) else hc a q (by omega) h2) (by first | exact ht | omega) (fun b i j h => absurd h (Nat.not_lt_zero b)) (by first | exact hfr | omega) (Nat.lt_succ_self _)
            · refine j_aload_n dX4_weigh_52 rfl ?_
              refine j_getR (r := 26) dX4_weigh_53 flX4_18 (Nat.le_of_ble_eq_true rfl) rfl rfl ?_
              refine j_iload_n dX4_weigh_56 rfl ?_
              refine j_iload_n dX4_weigh_57 rfl ?_
              refine j_callSN (y' := mX5_choicePlace) (As := [.int (nI u), .int (nI i)]) (st := [.ref 26]) dX4_weigh_58 lnX4_37 okX5_choicePlace stX5_choicePlace rfl (Nat.le_of_ble_eq_true rfl) (Nat.le_of_ble_eq_true rfl) (c_choicePlace z _ u i F1 A) (fun v58 F58 A58 hq58 => ?_)
              obtain ⟨rfl, rfl, _, rfl, rfl⟩ := hq58
              refine j_aload_n dX4_weigh_61 rfl ?_
              refine j_iload_n dX4_weigh_62 rfl ?_
              refine j_iload_n dX4_weigh_63 rfl ?_
              refine j_callV (y' := mX0_choiceCost) (As := [.int (nI u), .int (nI i)]) (st := [.int (nI (u * 4 + i)), .ref 26]) dX4_weigh_64 lkX4_41 okX0_choiceCost imX0_choiceCost seX0_choiceCost (Nat.le_of_ble_eq_true rfl) rfl rfl rfl rfl (Nat.le_of_ble_eq_true rfl) (Nat.le_of_ble_eq_true rfl) (c_choiceCostX z _ n mm row u i (by omega) (by omega) F1 A (hG1.off rfl (fun q h1 h2 => hfr _ (by omega))) hw) (fun v64 F64 A64 hq64 => ?_)
              obtain ⟨rfl, rfl, r64, rfl, hr64⟩ := hq64
              refine j_iastN dX4_weigh_67 (Nat.le_of_ble_eq_true rfl) rfl (by omega) (by decide) ?_
              have hC := hC.u (k := 26) rfl (u * 4 + i) (nI r64)
              refine j_iinc (v := nI (i + 1)) (lv' := [(0, .ref 23), (1, .ref 33), (2, .int (nI u)), (3, .int (nI (i + 1)))]) dX4_weigh_68 rfl (nI_add _ 1) (Nat.le_of_ble_eq_true rfl) rfl rfl ?_
              refine j_goto (tgt := 42) dX4_weigh_71 (by decide) ?_
              exact ih42 (i + 1) (mj_u A 26 (u * 4 + i) (nI r64)) (by first | exact hC | omega) (by first | exact h2 | omega) (by first | exact hch | omega) (by first | exact hma | omega) (fun a q h1 h2 => by have := (hw.1.2 a (by omega)).2; rw [mj_u_at, pk_un (by omega)]; exact hc a q h1 h2) (fun q h => by rw [mj_u_at]; exact if e : q = i then (by rw [e, pk_us, hr64]; congr 1; exact (if_pos ⟨by omega, by omega⟩).symm) else (by rw [pk_un (by omega)]; exact hcu q (by omega))) (by first | exact ht | omega) (fun k hk => by rw [mj_u_ne _ _ (by omega)]; exact hfr k hk) (by omega)
        refine j_iconst (v := nI 0) dX4_weigh_40 (by decide +kernel) ?_
        refine j_istore_n (lv' := [(0, .ref 23), (1, .ref 33), (2, .int (nI u)), (3, .int (nI 0))]) dX4_weigh_41 (Nat.le_of_ble_eq_true rfl) rfl rfl ?_
        exact L42 _ 0 A (by first | exact hC | omega) (Nat.zero_le _) (by first | exact hch | omega) (by first | exact hma | omega) (by first | exact hc | omega) (fun q h => absurd h (Nat.not_lt_zero q)) (by first | exact ht | omega) (by first | exact hfr | omega) (Nat.lt_succ_self _)
  refine j_iconst (v := nI 0) dX4_weigh_30 (by decide +kernel) ?_
  refine j_istore_n (lv' := [(0, .ref 23), (1, .ref 33), (2, .int (nI 0))]) dX4_weigh_31 (Nat.le_of_ble_eq_true rfl) rfl rfl ?_
  exact L32 _ 0 (mj_a (mj_a A0 24 (va_cpy (A0 34) (A0 24) 0 0 8)) 25 (va_cpy ((mj_a A0 24 (va_cpy (A0 34) (A0 24) 0 0 8)) 37) ((mj_a A0 24 (va_cpy (A0 34) (A0 24) 0 0 8)) 25) 0 0 8)) (by first | exact hC | omega) (Nat.zero_le _) (fun a ha => (congrFun (mj_a_ne _ _ (by decide)) a).trans (by rw [mj_a_at, va_cpy8 (by omega)]; exact (hG.1.2 a ha).2.1)) (fun a ha => by rw [mj_a_at, va_cpy8 (by omega), mj_a_ne _ _ (by decide)]; exact (hG.2.1 a ha).trans (by unfold mk0; rw [if_pos ha])) (fun a i h => absurd h (Nat.not_lt_zero a)) (fun a b i j h => absurd h (Nat.not_lt_zero a)) (fun k hk => by rw [mj_a_ne _ _ (by omega), mj_a_ne _ _ (by omega)]) (Nat.lt_succ_self _)

set_option maxHeartbeats 400000 in
set_option maxRecDepth 100000 in
theorem x_weighTable28 (z : mj_B) (d : Nat) (T : Tg) (n : Nat) (mm : VF) (row : Nat → Int32) (hw : wr n mm row) (u v : Nat) (hu : u < n) (hv : v < n) (huv : u ≠ v) (ht1 : tdd row u v = 1) (F A0 : mj_S) (hC : CI T F A0) (hG : GR F A0 33 n mm row) (hch : ∀ a, a < n → A0 29 a = nI (mm a)) : J (gC z) mX4_weighTable (d + 2) 0 [(0, .ref 28), (1, .ref 33), (2, .int (nI u)), (3, .int (nI v))] [] F A0 (fun _v F' A' => _v = none ∧ F = F' ∧ CI T F A' ∧ (∀ i j, i < mm u → j < mm v → A' 32 (eP u v i j) = nI (t0 n mm row u v i j)) ∧ (∀ x, (∀ i j, i < 4 → j < 4 → x ≠ eP u v i j) → A' 32 x = A0 32 x) ∧ ∀ k, k ≠ 32 → A' k = A0 k) := by
  have hn8 := hw.1.1
  have h4u := (hw.1.2 u hu).2
  have h4v := (hw.1.2 v hv).2
  have htt := tdd_inv ht1
  have L3 : ∀ (fuel : Nat) (i : Nat) (A : mj_S), (CI T F A) → (i ≤ mm u) → (∀ i' j', i' < i → j' < mm v → A 32 (eP u v i' j') = nI (t0 n mm row u v i' j')) → (∀ x, (∀ i j, i < 4 → j < 4 → x ≠ eP u v i j) → A 32 x = A0 32 x) → (∀ k, k ≠ 32 → A k = A0 k) → mm u - i < fuel → J (gC z) mX4_weighTable (d + 2) 3 [(0, .ref 28), (1, .ref 33), (2, .int (nI u)), (3, .int (nI v)), (4, .int (nI i))] [] F A (fun _v F' A' => _v = none ∧ F = F' ∧ CI T F A' ∧ (∀ i j, i < mm u → j < mm v → A' 32 (eP u v i j) = nI (t0 n mm row u v i j)) ∧ (∀ x, (∀ i j, i < 4 → j < 4 → x ≠ eP u v i j) → A' 32 x = A0 32 x) ∧ ∀ k, k ≠ 32 → A' k = A0 k) := by
    intro fuel
    induction fuel with
    | zero => intro i A hC h1 hd hoff hfr hf; exact absurd hf (by omega)
    | succ fuel ih3 =>
      intro i A hC h1 hd hoff hfr hf
      refine j_iload dX4_weighTable_3 rfl ?_
      refine j_aload_n dX4_weighTable_5 rfl ?_
      refine j_getR (r := 29) dX4_weighTable_6 flX4_9 (Nat.le_of_ble_eq_true rfl) rfl rfl ?_
      refine j_iload_n dX4_weighTable_9 rfl ?_
      refine j_ialdN dX4_weighTable_10 (Nat.le_of_ble_eq_true rfl) rfl (by omega) (by decide) ?_
      refine j_top (y0 := nI (mm u)) (by rw [hfr _ (by decide)]; exact hch u (by omega)) ?_
      refine j_icmp_geN (tgt := 64) dX4_weighTable_11 (by decide) (by omega) (by omega) (fun c11 => ?_) (fun c11 => ?_)
      · exact j_vret dX4_weighTable_64 rfl ⟨rfl, rfl, hC, fun i' j' h1' h2' => hd i' j' (by omega) h2', hoff, hfr⟩
      · have L17 : ∀ (fuel : Nat) (j : Nat) (A : mj_S), (CI T F A) → (j ≤ mm v) → (∀ i' j', i' < i → j' < mm v → A 32 (eP u v i' j') = nI (t0 n mm row u v i' j')) → (∀ j', j' < j → A 32 (eP u v i j') = nI (t0 n mm row u v i j')) → (∀ x, (∀ i j, i < 4 → j < 4 → x ≠ eP u v i j) → A 32 x = A0 32 x) → (∀ k, k ≠ 32 → A k = A0 k) → mm v - j < fuel → J (gC z) mX4_weighTable (d + 2) 17 [(0, .ref 28), (1, .ref 33), (2, .int (nI u)), (3, .int (nI v)), (4, .int (nI i)), (5, .int (nI j))] [] F A (fun _v F' A' => _v = none ∧ F = F' ∧ CI T F A' ∧ (∀ i j, i < mm u → j < mm v → A' 32 (eP u v i j) = nI (t0 n mm row u v i j)) ∧ (∀ x, (∀ i j, i < 4 → j < 4 → x ≠ eP u v i j) → A' 32 x = A0 32 x) ∧ ∀ k, k ≠ 32 → A' k = A0 k) := by
          intro fuel
          induction fuel with
          | zero => intro j A hC h2 hd hdi hoff hfr hf; exact absurd hf (by omega)
          | succ fuel ih17 =>
            intro j A hC h2 hd hdi hoff hfr hf
            refine j_iload dX4_weighTable_17 rfl ?_
            refine j_aload_n dX4_weighTable_19 rfl ?_
            refine j_getR (r := 29) dX4_weighTable_20 flX4_9 (Nat.le_of_ble_eq_true rfl) rfl rfl ?_
            refine j_iload_n dX4_weighTable_23 rfl ?_
            refine j_ialdN dX4_weighTable_24 (Nat.le_of_ble_eq_true rfl) rfl (by omega) (by decide) ?_
            refine j_top (y0 := nI (mm v)) (by rw [hfr _ (by decide)]; exact hch v (by omega)) ?_
            refine j_icmp_geN (tgt := 58) dX4_weighTable_25 (by decide) (by omega) (by omega) (fun c25 => ?_) (fun c25 => ?_)
            · refine j_iinc (v := nI (i + 1)) (lv' := [(0, .ref 28), (1, .ref 33), (2, .int (nI u)), (3, .int (nI v)), (4, .int (nI (i + 1))), (5, .int (nI j))]) dX4_weighTable_58 rfl (nI_add _ 1) (Nat.le_of_ble_eq_true rfl) rfl rfl ?_
              refine j_goto (tgt := 3) dX4_weighTable_61 (by decide) ?_
              refine j_sub [0, 1, 2, 3, 4] rfl ?_
              exact ih3 (i + 1) A (by first | exact hC | omega) (by first | exact h1 | omega) (fun i' j' h1 h2 => if e : i' = i then (by rw [e]; exact hdi j' (by omega)) else hd i' j' (by omega) h2) (by first | exact hoff | omega) (by first | exact hfr | omega) (by omega)
            · refine j_aload_n dX4_weighTable_28 rfl ?_
              refine j_getR (r := 32) dX4_weighTable_29 flX4_21 (Nat.le_of_ble_eq_true rfl) rfl rfl ?_
              refine j_iload_n dX4_weighTable_32 rfl ?_
              refine j_iload_n dX4_weighTable_33 rfl ?_
              refine j_iload dX4_weighTable_34 rfl ?_
              refine j_iload dX4_weighTable_36 rfl ?_
              refine j_callSN (y' := mX5_entryPlace) (As := [.int (nI u), .int (nI v), .int (nI i), .int (nI j)]) (st := [.ref 32]) dX4_weighTable_38 lnX4_52 okX5_entryPlace stX5_entryPlace rfl (Nat.le_of_ble_eq_true rfl) (Nat.le_of_ble_eq_true rfl) (c_entryPlace z _ u v i j (by omega) (by omega) (by omega) F A) (fun v38 F38 A38 hq38 => ?_)
              obtain ⟨rfl, rfl, e38, rfl, he38⟩ := hq38
              have hl38 : e38 < 448 := by rw [he38]; exact eP_lt (by omega) (by omega) (by omega) (by omega) (by omega)
              refine j_aload_n dX4_weighTable_41 rfl ?_
              refine j_iload_n dX4_weighTable_42 rfl ?_
              refine j_iload_n dX4_weighTable_43 rfl ?_
              refine j_iload dX4_weighTable_44 rfl ?_
              refine j_iload dX4_weighTable_46 rfl ?_
              refine j_callV (y' := mX0_tieCost) (As := [.int (nI u), .int (nI v), .int (nI i), .int (nI j)]) (st := [.int (nI e38), .ref 32]) dX4_weighTable_48 lkX4_56 okX0_tieCost imX0_tieCost seX0_tieCost (Nat.le_of_ble_eq_true rfl) rfl rfl rfl rfl (Nat.le_of_ble_eq_true rfl) (Nat.le_of_ble_eq_true rfl) (c_tieCostX z _ n mm row u v i j hu hv huv (by omega) (by omega) htt.2 F A (hG.off rfl (fun q h1 h2 => hfr _ (by omega))) hw) (fun v48 F48 A48 hq48 => ?_)
              obtain ⟨rfl, rfl, r48, rfl, hr48⟩ := hq48
              refine j_iastN dX4_weighTable_51 (Nat.le_of_ble_eq_true rfl) rfl (by omega) (by decide) ?_
              have hC := hC.u (k := 32) rfl e38 (nI r48)
              refine j_iinc (v := nI (j + 1)) (lv' := [(0, .ref 28), (1, .ref 33), (2, .int (nI u)), (3, .int (nI v)), (4, .int (nI i)), (5, .int (nI (j + 1)))]) dX4_weighTable_52 rfl (nI_add _ 1) (Nat.le_of_ble_eq_true rfl) rfl rfl ?_
              refine j_goto (tgt := 17) dX4_weighTable_55 (by decide) ?_
              exact ih17 (j + 1) (mj_u A 32 e38 (nI r48)) (by first | exact hC | omega) (by first | exact h2 | omega) (fun i' j' h1 h2 => by rw [he38, mj_u_at, pk_un (fun q => by rcases eP_inj2 huv huv (by omega) (by omega) (by omega) (by omega) (by omega) (by omega) (by omega) (by omega) q with q | q <;> omega)]; exact hd i' j' h1 h2) (fun j' h => by rw [he38, mj_u_at]; exact if e : j' = j then (by rw [e, pk_us, hr48]; congr 1; exact (if_pos ⟨hu, hv, by omega, by omega, ht1⟩).symm) else (by rw [pk_un (fun q => by rcases eP_inj2 huv huv (by omega) (by omega) (by omega) (by omega) (by omega) (by omega) (by omega) (by omega) q with q | q <;> omega)]; exact hdi j' (by omega))) (fun x hx => by rw [he38, mj_u_at, pk_un (hx _ _ (by omega) (by omega))]; exact hoff x hx) (fun k hk => by rw [mj_u_ne _ _ hk]; exact hfr k hk) (by omega)
        refine j_iconst (v := nI 0) dX4_weighTable_14 (by decide +kernel) ?_
        refine j_istore (lv' := [(0, .ref 28), (1, .ref 33), (2, .int (nI u)), (3, .int (nI v)), (4, .int (nI i)), (5, .int (nI 0))]) dX4_weighTable_15 (Nat.le_of_ble_eq_true rfl) rfl rfl ?_
        exact L17 _ 0 A (by first | exact hC | omega) (Nat.zero_le _) (by first | exact hd | omega) (fun j' h => absurd h (Nat.not_lt_zero j')) (by first | exact hoff | omega) (by first | exact hfr | omega) (Nat.lt_succ_self _)
  refine j_iconst (v := nI 0) dX4_weighTable_0 (by decide +kernel) ?_
  refine j_istore (lv' := [(0, .ref 28), (1, .ref 33), (2, .int (nI u)), (3, .int (nI v)), (4, .int (nI 0))]) dX4_weighTable_1 (Nat.le_of_ble_eq_true rfl) rfl rfl ?_
  exact L3 _ 0 A0 (by first | exact hC | omega) (Nat.zero_le _) (fun i' j' h => absurd h (Nat.not_lt_zero i')) (fun _ _ => rfl) (fun _ _ => rfl) (Nat.lt_succ_self _)

set_option maxHeartbeats 400000 in
set_option maxRecDepth 100000 in
theorem x_tiedW28 (z : mj_B) (d u v s : Nat) (hu : u < 8) (hv : v < 8) (hs : s < 256) (F A : mj_S) (hA : A 30 u = nI s) : J (gC z) mX4_areTied (d + 1) 0 [(0, .ref 28), (1, .int (nI u)), (2, .int (nI v))] [] F A (qN F A fun r => (r = 1 ∧ s / 2 ^ v % 2 = 1) ∨ (r = 0 ∧ ¬ s / 2 ^ v % 2 = 1)) := by
  refine j_aload_n dX4_areTied_0 rfl ?_
  refine j_getR (r := 30) dX4_areTied_1 flX4_15 (Nat.le_of_ble_eq_true rfl) rfl rfl ?_
  refine j_iload_n dX4_areTied_4 rfl ?_
  refine j_ialdN dX4_areTied_5 (Nat.le_of_ble_eq_true rfl) rfl (by omega) (by decide) ?_
  refine j_top (y0 := nI s) hA ?_
  refine j_iload_n dX4_areTied_6 rfl ?_
  refine j_callSN (y' := mX5_hasBit) (As := [.int (nI s), .int (nI v)]) (st := []) dX4_areTied_7 lnX4_59 okX5_hasBit stX5_hasBit rfl (Nat.le_of_ble_eq_true rfl) (Nat.le_of_ble_eq_true rfl) (c_hasBitN z _ s v (by omega) (by omega) F A) (fun v7 F7 A7 hq7 => ?_)
  obtain ⟨rfl, rfl, r7, rfl, hr7⟩ := hq7
  have hb7 : r7 ≤ 1 := by omega
  exact j_iret dX4_areTied_10 rfl (mj_nz hb7) ⟨rfl, rfl, _, rfl, hr7⟩

set_option maxHeartbeats 400000 in
set_option maxRecDepth 100000 in
theorem x_weigh28 (z : mj_B) (d : Nat) (T : Tg) (n : Nat) (mm : VF) (row : Nat → Int32) (hw : wr n mm row) (F A0 : mj_S) (hC : CI T F A0) (hG : GR F A0 33 n mm row) : J (gC z) mX4_weigh (d + 3) 0 [(0, .ref 28), (1, .ref 33)] [] F A0 (fun _v F' A' => _v = none ∧ mj_u F 28 0 (nI n) = F' ∧ CI T F' A' ∧ WT F' A' 28 n mm (c0 n mm row) (t0 n mm row) (mk0 n row) ∧ ∀ k, k < 29 ∨ 32 < k → A' k = A0 k) := by
  have hn8 := hw.1.1
  refine j_aload_n dX4_weigh_0 rfl ?_
  refine j_aload_n dX4_weigh_1 rfl ?_
  refine j_getI dX4_weigh_2 flX4_24 (Nat.le_of_ble_eq_true rfl) rfl rfl ?_
  refine j_top (y0 := nI n) hG.1.1.1 ?_
  refine j_putI dX4_weigh_5 fpX4_30 (Nat.le_of_ble_eq_true rfl) rfl rfl ?_
  have hC := hC.nd n28 hn8
  obtain ⟨F1, hF1⟩ : ∃ F1, F1 = mj_u F 28 0 (nI n) := ⟨_, rfl⟩
  rw [← hF1] at hC
  refine j_F hF1.symm ?_
  have en1 : F1 28 0 = nI n := by rw [hF1]; rfl
  have hG1 : GR F1 A0 33 n mm row := hG.off (by rw [hF1]; rfl) (fun _ _ _ => rfl)
  refine j_aload_n dX4_weigh_8 rfl ?_
  refine j_getR (r := 34) dX4_weigh_9 flX4_31 (Nat.le_of_ble_eq_true rfl) rfl rfl ?_
  refine j_aload_n dX4_weigh_12 rfl ?_
  refine j_getR (r := 29) dX4_weigh_13 flX4_9 (Nat.le_of_ble_eq_true rfl) rfl rfl ?_
  refine j_callSN (y' := mX5_copyRow) (As := [.ref 34, .ref 29]) (st := []) dX4_weigh_16 lnX4_32 okX5_copyRow stX5_copyRow rfl (Nat.le_of_ble_eq_true rfl) (Nat.le_of_ble_eq_true rfl) (c_copyRow z _ 34 29 8 (by decide) (Nat.le_of_ble_eq_true rfl) rfl (Nat.le_of_ble_eq_true rfl) rfl F1 A0) (fun v16 F16 A16 hq16 => ?_)
  obtain ⟨rfl, rfl, rfl⟩ := hq16
  have hC := hC.ch n28 (f := va_cpy (A0 34) (A0 29) 0 0 8) (rg_cpy (hC.2.2.2.1 33 n33).2)
  refine j_aload_n dX4_weigh_19 rfl ?_
  refine j_getR (r := 37) dX4_weigh_20 flX4_36 (Nat.le_of_ble_eq_true rfl) rfl rfl ?_
  refine j_aload_n dX4_weigh_23 rfl ?_
  refine j_getR (r := 30) dX4_weigh_24 flX4_15 (Nat.le_of_ble_eq_true rfl) rfl rfl ?_
  refine j_callSN (y' := mX5_copyRow) (As := [.ref 37, .ref 30]) (st := []) dX4_weigh_27 lnX4_32 okX5_copyRow stX5_copyRow rfl (Nat.le_of_ble_eq_true rfl) (Nat.le_of_ble_eq_true rfl) (c_copyRow z _ 37 30 8 (by decide) (Nat.le_of_ble_eq_true rfl) rfl (Nat.le_of_ble_eq_true rfl) rfl F1 (mj_a A0 29 (va_cpy (A0 34) (A0 29) 0 0 8))) (fun v27 F27 A27 hq27 => ?_)
  obtain ⟨rfl, rfl, rfl⟩ := hq27
  have hC := hC.a (k := 30) rfl (va_cpy ((mj_a A0 29 (va_cpy (A0 34) (A0 29) 0 0 8)) 37) ((mj_a A0 29 (va_cpy (A0 34) (A0 29) 0 0 8)) 30) 0 0 8)
  have L32 : ∀ (fuel : Nat) (u : Nat) (A : mj_S), (CI T F1 A) → (u ≤ n) → (∀ a, a < n → A 29 a = nI (mm a)) → (∀ a, a < n → A 30 a = nI (mk0 n row a)) → (∀ a i, a < u → i < mm a → A 31 (a * 4 + i) = nI (c0 n mm row a i)) → (∀ a b i j, a < u → b < a → i < mm a → j < mm b → tdd row a b = 1 → A 32 (eP a b i j) = nI (t0 n mm row a b i j)) → (∀ k, k < 29 ∨ 32 < k → A k = A0 k) → n - u < fuel → J (gC z) mX4_weigh (d + 3) 32 [(0, .ref 28), (1, .ref 33), (2, .int (nI u))] [] F1 A (fun _v F' A' => _v = none ∧ mj_u F 28 0 (nI n) = F' ∧ CI T F' A' ∧ WT F' A' 28 n mm (c0 n mm row) (t0 n mm row) (mk0 n row) ∧ ∀ k, k < 29 ∨ 32 < k → A' k = A0 k) := by
    intro fuel
    induction fuel with
    | zero => intro u A hC h1 hch hma hc ht hfr hf; exact absurd hf (by omega)
    | succ fuel ih32 =>
      intro u A hC h1 hch hma hc ht hfr hf
      refine j_iload_n dX4_weigh_32 rfl ?_
      refine j_aload_n dX4_weigh_33 rfl ?_
      refine j_getI dX4_weigh_34 flX4_30 (Nat.le_of_ble_eq_true rfl) rfl rfl ?_
      refine j_top (y0 := nI n) en1 ?_
      refine j_icmp_geN (tgt := 109) dX4_weigh_37 (by decide) (by omega) (by omega) (fun c37 => ?_) (fun c37 => ?_)
      · exact j_vret dX4_weigh_109 rfl ⟨rfl, hF1.symm, hC, ⟨en1, fun a ha => ⟨hch a ha, hma a ha⟩, fun a i ha hi => hc a i (by omega) hi, fun a b i j ha hb hab hi hj hbt => by
        have hbt' := ((mk0_bt hw).mp hbt).2.2
        by_cases q : b < a
        · exact ht a b i j (by omega) q hi hj hbt'
        · rw [eP_sym i j hab, t0_sym]; exact ht b a j i (by omega) (by omega) hj hi (by rw [tdd_sym]; exact hbt')⟩, hfr⟩
      · have h4u := (hw.1.2 u (by omega)).2
        have hmk1 := mk0_lt n row u
        have L76 : ∀ (fuel : Nat) (v : Nat) (A : mj_S), (CI T F1 A) → (v ≤ u) → (∀ a, a < n → A 29 a = nI (mm a)) → (∀ a, a < n → A 30 a = nI (mk0 n row a)) → (∀ a i, a < u + 1 → i < mm a → A 31 (a * 4 + i) = nI (c0 n mm row a i)) → (∀ a b i j, a < u → b < a → i < mm a → j < mm b → tdd row a b = 1 → A 32 (eP a b i j) = nI (t0 n mm row a b i j)) → (∀ b i j, b < v → i < mm u → j < mm b → tdd row u b = 1 → A 32 (eP u b i j) = nI (t0 n mm row u b i j)) → (∀ k, k < 29 ∨ 32 < k → A k = A0 k) → u - v < fuel → J (gC z) mX4_weigh (d + 3) 76 [(0, .ref 28), (1, .ref 33), (2, .int (nI u)), (3, .int (nI v))] [] F1 A (fun _v F' A' => _v = none ∧ mj_u F 28 0 (nI n) = F' ∧ CI T F' A' ∧ WT F' A' 28 n mm (c0 n mm row) (t0 n mm row) (mk0 n row) ∧ ∀ k, k < 29 ∨ 32 < k → A' k = A0 k) := by
          intro fuel
          induction fuel with
          | zero => intro v A hC h2 hch hma hc ht htv hfr hf; exact absurd hf (by omega)
          | succ fuel ih76 =>
            intro v A hC h2 hch hma hc ht htv hfr hf
            refine j_iload_n dX4_weigh_76 rfl ?_
            refine j_iload_n dX4_weigh_77 rfl ?_
            refine j_icmp_geN (tgt := 103) dX4_weigh_78 (by decide) (by omega) (by omega) (fun c78 => ?_) (fun c78 => ?_)
            · refine j_iinc (v := nI (u + 1)) (lv' := [(0, .ref 28), (1, .ref 33), (2, .int (nI (u + 1))), (3, .int (nI v))]) dX4_weigh_103 rfl (nI_add _ 1) (Nat.le_of_ble_eq_true rfl) rfl rfl ?_
              refine j_goto (tgt := 32) dX4_weigh_106 (by decide) ?_
              refine j_sub [0, 1, 2] rfl ?_
              exact ih32 (u + 1) A (by first | exact hC | omega) (by first | exact h1 | omega) (by first | exact hch | omega) (by first | exact hma | omega) (by first | exact hc | omega) (fun a b i j h1 h2 h3 h4 h5 => if e : a = u then (by rw [e] at h2 h3 h5 ⊢; exact htv b i j (by omega) h3 h4 h5) else ht a b i j (by omega) h2 h3 h4 h5) (by first | exact hfr | omega) (by omega)
            · refine j_aload_n dX4_weigh_81 rfl ?_
              refine j_iload_n dX4_weigh_82 rfl ?_
              refine j_iload_n dX4_weigh_83 rfl ?_
              refine j_callV (y' := mX4_areTied) (As := [.int (nI u), .int (nI v)]) (st := []) dX4_weigh_84 lkX4_44 okX4_areTied imX4_areTied seX4_areTied (Nat.le_of_ble_eq_true rfl) rfl rfl rfl rfl (Nat.le_of_ble_eq_true rfl) (Nat.le_of_ble_eq_true rfl) (x_tiedW28 z _ u v (mk0 n row u) (by omega) (by omega) hmk1 F1 A (hma u (by omega))) (fun v84 F84 A84 hq84 => ?_)
              obtain ⟨rfl, rfl, r84, rfl, hr84⟩ := hq84
              have hb84 : r84 ≤ 1 := by omega
              refine j_if_eqN (tgt := 97) dX4_weigh_87 (by decide) (by omega) (fun c87 => ?_) (fun c87 => ?_)
              · have hnt : ¬ tdd row u v = 1 := fun q => (hr84.resolve_left (fun h => by omega)).2 ((mk0_bt hw).mpr ⟨by omega, by omega, q⟩)
                refine j_iinc (v := nI (v + 1)) (lv' := [(0, .ref 28), (1, .ref 33), (2, .int (nI u)), (3, .int (nI (v + 1)))]) dX4_weigh_97 rfl (nI_add _ 1) (Nat.le_of_ble_eq_true rfl) rfl rfl ?_
                refine j_goto (tgt := 76) dX4_weigh_100 (by decide) ?_
                exact ih76 (v + 1) A (by first | exact hC | omega) (by first | exact h2 | omega) (by first | exact hch | exact fun a ha => by rw [hwf _ (by decide)]; exact hch a ha) (by first | exact hma | exact fun a ha => by rw [hwf _ (by decide)]; exact hma a ha) (by first | exact hc | exact fun a i h1 h2 => by rw [hwf _ (by decide)]; exact hc a i h1 h2) (by first | exact ht | exact fun a b i j h1 h2 h3 h4 h5 => by rw [hwo _ (fun i' j' hi' hj' q => by have := (hw.1.2 a (by omega)).2; have := (hw.1.2 b (by omega)).2; rcases eP_inj2 (by omega) (by omega) (by omega) (by omega) (by omega) (by omega) (by omega) (by omega) hi' hj' q with q | q <;> omega)]; exact ht a b i j h1 h2 h3 h4 h5) (fun b i j h1 h2 h3 h4 => if e : b = v then (by first | (rw [e] at h4; exact absurd h4 hnt) | (rw [e] at h3 ⊢; exact hwd i j h2 h3)) else (by first | exact htv b i j (by omega) h2 h3 h4 | (rw [hwo _ (fun i' j' hi' hj' q => by have := (hw.1.2 u (by omega)).2; have := (hw.1.2 b (by omega)).2; rcases eP_inj2 (by omega) (by omega) (by omega) (by omega) (by omega) (by omega) (by omega) (by omega) hi' hj' q with q | q <;> omega)]; exact htv b i j (by omega) h2 h3 h4))) (by first | exact hfr | exact fun k hk => by rw [hwf k (by omega)]; exact hfr k hk) (by omega)
              · have ht1 : tdd row u v = 1 := ((mk0_bt hw).mp ((hr84.resolve_right (fun h => by omega)).2)).2.2
                refine j_aload_n dX4_weigh_90 rfl ?_
                refine j_aload_n dX4_weigh_91 rfl ?_
                refine j_iload_n dX4_weigh_92 rfl ?_
                refine j_iload_n dX4_weigh_93 rfl ?_
                refine j_callV (y' := mX4_weighTable) (As := [.ref 33, .int (nI u), .int (nI v)]) (st := []) dX4_weigh_94 lkX4_48 okX4_weighTable imX4_weighTable seX4_weighTable (Nat.le_of_ble_eq_true rfl) rfl rfl rfl rfl (Nat.le_of_ble_eq_true rfl) (Nat.le_of_ble_eq_true rfl) (x_weighTable28 z _ _ n mm row hw u v (by omega) (by omega) (by omega) ht1 F1 A hC (hG1.off rfl (fun q h1 h2 => hfr _ (by omega))) hch) (fun v94 F94 A94 hq94 => ?_)
                obtain ⟨rfl, rfl, hC, hwd, hwo, hwf⟩ := hq94
                refine j_iinc (v := nI (v + 1)) (lv' := [(0, .ref 28), (1, .ref 33), (2, .int (nI u)), (3, .int (nI (v + 1)))]) dX4_weigh_97 rfl (nI_add _ 1) (Nat.le_of_ble_eq_true rfl) rfl rfl ?_
                refine j_goto (tgt := 76) dX4_weigh_100 (by decide) ?_
                exact ih76 (v + 1) A94 (by first | exact hC | omega) (by first | exact h2 | omega) (by first | exact hch | exact fun a ha => by rw [hwf _ (by decide)]; exact hch a ha) (by first | exact hma | exact fun a ha => by rw [hwf _ (by decide)]; exact hma a ha) (by first | exact hc | exact fun a i h1 h2 => by rw [hwf _ (by decide)]; exact hc a i h1 h2) (by first | exact ht | exact fun a b i j h1 h2 h3 h4 h5 => by rw [hwo _ (fun i' j' hi' hj' q => by have := (hw.1.2 a (by omega)).2; have := (hw.1.2 b (by omega)).2; rcases eP_inj2 (by omega) (by omega) (by omega) (by omega) (by omega) (by omega) (by omega) (by omega) hi' hj' q with q | q <;> omega)]; exact ht a b i j h1 h2 h3 h4 h5) (fun b i j h1 h2 h3 h4 => if e : b = v then (by first | (rw [e] at h4; exact absurd h4 hnt) | (rw [e] at h3 ⊢; exact hwd i j h2 h3)) else (by first | exact htv b i j (by omega) h2 h3 h4 | (rw [hwo _ (fun i' j' hi' hj' q => by have := (hw.1.2 u (by omega)).2; have := (hw.1.2 b (by omega)).2; rcases eP_inj2 (by omega) (by omega) (by omega) (by omega) (by omega) (by omega) (by omega) (by omega) hi' hj' q with q | q <;> omega)]; exact htv b i j (by omega) h2 h3 h4))) (by first | exact hfr | exact fun k hk => by rw [hwf k (by omega)]; exact hfr k hk) (by omega)
        have L42 : ∀ (fuel : Nat) (i : Nat) (A : mj_S), (CI T F1 A) → (i ≤ mm u) → (∀ a, a < n → A 29 a = nI (mm a)) → (∀ a, a < n → A 30 a = nI (mk0 n row a)) → (∀ a i, a < u → i < mm a → A 31 (a * 4 + i) = nI (c0 n mm row a i)) → (∀ q, q < i → A 31 (u * 4 + q) = nI (c0 n mm row u q)) → (∀ a b i j, a < u → b < a → i < mm a → j < mm b → tdd row a b = 1 → A 32 (eP a b i j) = nI (t0 n mm row a b i j)) → (∀ k, k < 29 ∨ 32 < k → A k = A0 k) → mm u - i < fuel → J (gC z) mX4_weigh (d + 3) 42 [(0, .ref 28), (1, .ref 33), (2, .int (nI u)), (3, .int (nI i))] [] F1 A (fun _v F' A' => _v = none ∧ mj_u F 28 0 (nI n) = F' ∧ CI T F' A' ∧ WT F' A' 28 n mm (c0 n mm row) (t0 n mm row) (mk0 n row) ∧ ∀ k, k < 29 ∨ 32 < k → A' k = A0 k) := by
          intro fuel
          induction fuel with
          | zero => intro i A hC h2 hch hma hc hcu ht hfr hf; exact absurd hf (by omega)
          | succ fuel ih42 =>
            intro i A hC h2 hch hma hc hcu ht hfr hf
            refine j_iload_n dX4_weigh_42 rfl ?_
            refine j_aload_n dX4_weigh_43 rfl ?_
            refine j_getR (r := 29) dX4_weigh_44 flX4_9 (Nat.le_of_ble_eq_true rfl) rfl rfl ?_
            refine j_iload_n dX4_weigh_47 rfl ?_
            refine j_ialdN dX4_weigh_48 (Nat.le_of_ble_eq_true rfl) rfl (by omega) (by decide) ?_
            refine j_top (y0 := nI (mm u)) (hch u (by omega)) ?_
            refine j_icmp_geN (tgt := 74) dX4_weigh_49 (by decide) (by omega) (by omega) (fun c49 => ?_) (fun c49 => ?_)
            · refine j_iconst (v := nI 0) dX4_weigh_74 (by decide +kernel) ?_
              refine j_istore_n (lv' := [(0, .ref 28), (1, .ref 33), (2, .int (nI u)), (3, .int (nI 0))]) dX4_weigh_75 (Nat.le_of_ble_eq_true rfl) rfl rfl ?_
              exact L76 _ 0 A (by first | exact hC | omega) (Nat.zero_le _) (by first | exact hch | omega) (by first | exact hma | omega) (fun a q h1 h2 => if e : a = u then (by rw [e] at h2 ⊢; exact hcu q (by omega)) else hc a q (by omega) h2) (by first | exact ht | omega) (fun b i j h => absurd h (Nat.not_lt_zero b)) (by first | exact hfr | omega) (Nat.lt_succ_self _)
            · refine j_aload_n dX4_weigh_52 rfl ?_
              refine j_getR (r := 31) dX4_weigh_53 flX4_18 (Nat.le_of_ble_eq_true rfl) rfl rfl ?_
              refine j_iload_n dX4_weigh_56 rfl ?_
              refine j_iload_n dX4_weigh_57 rfl ?_
              refine j_callSN (y' := mX5_choicePlace) (As := [.int (nI u), .int (nI i)]) (st := [.ref 31]) dX4_weigh_58 lnX4_37 okX5_choicePlace stX5_choicePlace rfl (Nat.le_of_ble_eq_true rfl) (Nat.le_of_ble_eq_true rfl) (c_choicePlace z _ u i F1 A) (fun v58 F58 A58 hq58 => ?_)
              obtain ⟨rfl, rfl, _, rfl, rfl⟩ := hq58
              refine j_aload_n dX4_weigh_61 rfl ?_
              refine j_iload_n dX4_weigh_62 rfl ?_
              refine j_iload_n dX4_weigh_63 rfl ?_
              refine j_callV (y' := mX0_choiceCost) (As := [.int (nI u), .int (nI i)]) (st := [.int (nI (u * 4 + i)), .ref 31]) dX4_weigh_64 lkX4_41 okX0_choiceCost imX0_choiceCost seX0_choiceCost (Nat.le_of_ble_eq_true rfl) rfl rfl rfl rfl (Nat.le_of_ble_eq_true rfl) (Nat.le_of_ble_eq_true rfl) (c_choiceCostX z _ n mm row u i (by omega) (by omega) F1 A (hG1.off rfl (fun q h1 h2 => hfr _ (by omega))) hw) (fun v64 F64 A64 hq64 => ?_)
              obtain ⟨rfl, rfl, r64, rfl, hr64⟩ := hq64
              refine j_iastN dX4_weigh_67 (Nat.le_of_ble_eq_true rfl) rfl (by omega) (by decide) ?_
              have hC := hC.u (k := 31) rfl (u * 4 + i) (nI r64)
              refine j_iinc (v := nI (i + 1)) (lv' := [(0, .ref 28), (1, .ref 33), (2, .int (nI u)), (3, .int (nI (i + 1)))]) dX4_weigh_68 rfl (nI_add _ 1) (Nat.le_of_ble_eq_true rfl) rfl rfl ?_
              refine j_goto (tgt := 42) dX4_weigh_71 (by decide) ?_
              exact ih42 (i + 1) (mj_u A 31 (u * 4 + i) (nI r64)) (by first | exact hC | omega) (by first | exact h2 | omega) (by first | exact hch | omega) (by first | exact hma | omega) (fun a q h1 h2 => by have := (hw.1.2 a (by omega)).2; rw [mj_u_at, pk_un (by omega)]; exact hc a q h1 h2) (fun q h => by rw [mj_u_at]; exact if e : q = i then (by rw [e, pk_us, hr64]; congr 1; exact (if_pos ⟨by omega, by omega⟩).symm) else (by rw [pk_un (by omega)]; exact hcu q (by omega))) (by first | exact ht | omega) (fun k hk => by rw [mj_u_ne _ _ (by omega)]; exact hfr k hk) (by omega)
        refine j_iconst (v := nI 0) dX4_weigh_40 (by decide +kernel) ?_
        refine j_istore_n (lv' := [(0, .ref 28), (1, .ref 33), (2, .int (nI u)), (3, .int (nI 0))]) dX4_weigh_41 (Nat.le_of_ble_eq_true rfl) rfl rfl ?_
        exact L42 _ 0 A (by first | exact hC | omega) (Nat.zero_le _) (by first | exact hch | omega) (by first | exact hma | omega) (by first | exact hc | omega) (fun q h => absurd h (Nat.not_lt_zero q)) (by first | exact ht | omega) (by first | exact hfr | omega) (Nat.lt_succ_self _)
  refine j_iconst (v := nI 0) dX4_weigh_30 (by decide +kernel) ?_
  refine j_istore_n (lv' := [(0, .ref 28), (1, .ref 33), (2, .int (nI 0))]) dX4_weigh_31 (Nat.le_of_ble_eq_true rfl) rfl rfl ?_
  exact L32 _ 0 (mj_a (mj_a A0 29 (va_cpy (A0 34) (A0 29) 0 0 8)) 30 (va_cpy ((mj_a A0 29 (va_cpy (A0 34) (A0 29) 0 0 8)) 37) ((mj_a A0 29 (va_cpy (A0 34) (A0 29) 0 0 8)) 30) 0 0 8)) (by first | exact hC | omega) (Nat.zero_le _) (fun a ha => (congrFun (mj_a_ne _ _ (by decide)) a).trans (by rw [mj_a_at, va_cpy8 (by omega)]; exact (hG.1.2 a ha).2.1)) (fun a ha => by rw [mj_a_at, va_cpy8 (by omega), mj_a_ne _ _ (by decide)]; exact (hG.2.1 a ha).trans (by unfold mk0; rw [if_pos ha])) (fun a i h => absurd h (Nat.not_lt_zero a)) (fun a b i j h => absurd h (Nat.not_lt_zero a)) (fun k hk => by rw [mj_a_ne _ _ (by omega), mj_a_ne _ _ (by omega)]) (Nat.lt_succ_self _)
