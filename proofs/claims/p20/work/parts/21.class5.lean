/-! the class: the reduction -/
def FR (A A1 : mj_S) : Prop := ∀ k, k < 28 → k ≠ 8 → A1 k = A k
theorem FR.rf (A : mj_S) : FR A A := fun _ _ _ => rfl
theorem FR.u {A A1 : mj_S} (h : FR A A1) {k0 : Nat} (hk : 28 ≤ k0 ∨ k0 = 8) (i : Nat) (x : Int32) : FR A (mj_u A1 k0 i x) := fun k h1 h2 => by
  rw [mj_u_ne A1 x (by omega)]; exact h k h1 h2
theorem FR.k {A A1 A2 : mj_S} (h : FR A A1) {k0 : Nat} (h2 : ∀ k, k ≠ k0 → A2 k = A1 k) (hk : 28 ≤ k0) : FR A A2 := fun k h1 h3 => by
  rw [h2 k (by omega)]; exact h k h1 h3
theorem FR.k2 {A A1 A2 : mj_S} (h : FR A A1) {k0 k1 : Nat} (h2 : ∀ k, k ≠ k0 → k ≠ k1 → A2 k = A1 k) (hk : 28 ≤ k0) (hk1 : 28 ≤ k1) : FR A A2 := fun k h1 h3 => by
  rw [h2 k (by omega) (by omega)]; exact h k h1 h3
theorem FR.tr {A A1 A2 : mj_S} (h : FR A A1) (h2 : FR A1 A2) : FR A A2 := fun k h1 h3 => (h2 k h1 h3).trans (h k h1 h3)
theorem i_of32 (x : Int32) : ∃ n, n < 4294967296 ∧ x = nI n := ⟨x.toBitVec.toNat, x.toBitVec.isLt, by
  apply Int32.toBitVec_inj.1
  show x.toBitVec = BitVec.ofNat 32 x.toBitVec.toNat
  rw [BitVec.ofNat_toNat, BitVec.setWidth_eq]⟩
theorem sub_and (x : Int32) {lf : Nat} (h : lf < 256) : ∃ s, s < 256 ∧ x &&& nI lf = nI s ∧ ∀ b, s / 2 ^ b % 2 = 1 → lf / 2 ^ b % 2 = 1 := by
  obtain ⟨t, ht, rfl⟩ := i_of32 x
  refine ⟨t &&& lf, Nat.lt_of_le_of_lt Nat.and_le_right h, fa_and t lf, fun b hb => ?_⟩
  have h1 : (t &&& lf).testBit b = true := by rw [Nat.testBit_eq_decide_div_mod_eq]; simp [hb]
  rw [Nat.testBit_and, Bool.and_eq_true] at h1
  have h2 := h1.2
  rw [Nat.testBit_eq_decide_div_mod_eq] at h2
  simpa using h2
theorem clr_bit : ∀ s, s < 256 → ∀ u, u < 8 → ¬ clr s u / 2 ^ u % 2 = 1 := by decide +kernel
theorem clr_sub {s v r : Nat} (hs : s < 256) (hv : v < 8) (h : clr s v / 2 ^ r % 2 = 1) : r ≠ v ∧ s / 2 ^ r % 2 = 1 := by
  refine ⟨fun e => clr_bit s hs v hv (by rw [← e]; rw [e] at h ⊢; exact h), ?_⟩
  have h1 : (clr s v).testBit r = true := by rw [Nat.testBit_eq_decide_div_mod_eq]; simp [h]
  unfold clr at h1
  rw [Nat.testBit_and, Bool.and_eq_true] at h1
  have h2 := h1.1
  rw [Nat.testBit_eq_decide_div_mod_eq] at h2
  simpa using h2
theorem clr_two : ∀ s, s < 256 → pc s = 2 → ∀ v, v < 8 → 0 < clr s v := by decide +kernel
theorem no_bit {s u : Nat} (hs : s < 256) (hu : u < 8) (h : ¬ s / 2 ^ u % 2 = 1) : (nI s >>> (nI u &&& 31)) &&& nI 1 = 0 := by
  rw [bit_of (by omega) (by omega)]
  have h2 : s / 2 ^ u % 2 = 0 := by omega
  rw [h2]; exact nI_0
theorem is_bit {s v : Nat} (hs : s < 256) (hv : v < 8) (h : ¬ (nI s >>> (nI v &&& 31)) &&& nI 1 = 0) : s / 2 ^ v % 2 = 1 := by
  rw [bit_of (by omega) (by omega)] at h
  have h2 : s / 2 ^ v % 2 < 2 := Nat.mod_lt _ (by decide)
  by_cases e : s / 2 ^ v % 2 = 0
  · rw [e] at h; exact absurd nI_0 h
  · omega
def ahd (x : Int32) : Prop := x = (-1) ∨ ∃ a, a < 8 ∧ x = nI a
theorem ahd_ne {x : Int32} (h : ahd x) (hx : ¬ x < 0) : ∃ a, a < 8 ∧ x = nI a := h.resolve_left (fun e => hx (by rw [e]; decide +kernel))

theorem CB.tk {T : Nat} {F A : mj_S} (h : CB T F A) (i : Nat) {t : Nat} (ht : t ≤ 3) : CB T F (mj_u A 8 i (nI t)) := ⟨h.1, h.2.1, h.2.2.1, fun o ho => ⟨(h.2.2.2.1 o ho).1, by rw [mj_u_ne A _ (isN_lit ho (by omega))]; exact (h.2.2.2.1 o ho).2⟩, ⟨h.2.2.2.2.1.1, rg_u h.2.2.2.2.1.2.1 ht, h.2.2.2.2.1.2.2⟩, h.2.2.2.2.2⟩
theorem CB.ord {T : Nat} {F A : mj_S} (h : CB T F A) (i : Nat) {t : Nat} (ht : t ≤ 7) : CB T F (mj_u A 6 i (nI t)) := ⟨h.1, h.2.1, h.2.2.1, fun o ho => ⟨(h.2.2.2.1 o ho).1, by rw [mj_u_ne A _ (isN_lit ho (by omega))]; exact (h.2.2.2.1 o ho).2⟩, ⟨rg_u h.2.2.2.2.1.1 ht, h.2.2.2.2.1.2⟩, h.2.2.2.2.2⟩
theorem CB.c12 {T : Nat} {F A : mj_S} (h : CB T F A) (i : Nat) {t : Nat} (ht : t ≤ 3) : CB T F (mj_u A 12 i (nI t)) := ⟨h.1, h.2.1, h.2.2.1, fun o ho => ⟨(h.2.2.2.1 o ho).1, by rw [mj_u_ne A _ (isN_lit ho (by omega))]; exact (h.2.2.2.1 o ho).2⟩, ⟨h.2.2.2.2.1.1, h.2.2.2.2.1.2.1, rg_u h.2.2.2.2.1.2.2.1 ht, h.2.2.2.2.1.2.2.2⟩, h.2.2.2.2.2⟩
theorem CB.c16 {T : Nat} {F A : mj_S} (h : CB T F A) (i : Nat) {t : Nat} (ht : t ≤ 3) : CB T F (mj_u A 16 i (nI t)) := ⟨h.1, h.2.1, h.2.2.1, fun o ho => ⟨(h.2.2.2.1 o ho).1, by rw [mj_u_ne A _ (isN_lit ho (by omega))]; exact (h.2.2.2.1 o ho).2⟩, ⟨h.2.2.2.2.1.1, h.2.2.2.2.1.2.1, h.2.2.2.2.1.2.2.1, rg_u h.2.2.2.2.1.2.2.2 ht⟩, h.2.2.2.2.2⟩
theorem CI.tk {T : Tg} {F A : mj_S} (h : CI T F A) (i : Nat) {t : Nat} (ht : t ≤ 3) : CI T F (mj_u A 8 i (nI t)) := (h.b.tk i ht).g (h.p.u rfl i (nI t))
theorem CI.ord {T : Tg} {F A : mj_S} (h : CI T F A) (i : Nat) {t : Nat} (ht : t ≤ 7) : CI T F (mj_u A 6 i (nI t)) := (h.b.ord i ht).g (h.p.u rfl i (nI t))
theorem CI.c12 {T : Tg} {F A : mj_S} (h : CI T F A) (i : Nat) {t : Nat} (ht : t ≤ 3) : CI T F (mj_u A 12 i (nI t)) := (h.b.c12 i ht).g (h.p.u rfl i (nI t))
theorem CI.c16 {T : Tg} {F A : mj_S} (h : CI T F A) (i : Nat) {t : Nat} (ht : t ≤ 3) : CI T F (mj_u A 16 i (nI t)) := (h.b.c16 i ht).g (h.p.u rfl i (nI t))

/-! the reduction, exact -/
theorem bt_and {a b v : Nat} : (a &&& b) / 2 ^ v % 2 = 1 ↔ (a / 2 ^ v % 2 = 1 ∧ b / 2 ^ v % 2 = 1) := by
  rw [bt_tb, bt_tb, bt_tb, Nat.testBit_and, Bool.and_eq_true]
theorem jn_mono2 {mk mk1 : VF} {v w : Nat} (hvw : v ≠ w) (hq : mk1 = jn mk v w ∨ (mk1 = mk ∧ mk v / 2 ^ w % 2 = 1)) (x y : Nat) (h : mk x / 2 ^ y % 2 = 1) : mk1 x / 2 ^ y % 2 = 1 := by
  rcases hq with q | ⟨q, -⟩
  · rw [q]; exact (jn_bt hvw).mpr (Or.inl h)
  · rw [q]; exact h
theorem jn_vw {mk mk1 : VF} {v w : Nat} (hvw : v ≠ w) (hq : mk1 = jn mk v w ∨ (mk1 = mk ∧ mk v / 2 ^ w % 2 = 1)) : mk1 v / 2 ^ w % 2 = 1 := by
  rcases hq with q | ⟨q, q2⟩
  · rw [q]; exact (jn_bt hvw).mpr (Or.inr (Or.inl ⟨rfl, rfl⟩))
  · rw [q]; exact q2
theorem ni_m1n : ¬ ((-1 : Int32) = 0) := by decide
theorem nfR_n1 {o : Option (Nat × Nat)} {x y : Int32} (h : nfR o (-1) x y) (hx : x < 0) (h8 : ∀ a b, o = some (a, b) → a < 8) : o = none ∧ x = -1 ∧ y = -1 := by
  rcases h with h | ⟨a, b, h1, h2, h3⟩
  · exact h
  · rw [h2] at hx
    exact absurd hx (ni_m1 a (h8 a b h1))
theorem nfR_s1 {o : Option (Nat × Nat)} {x y : Int32} (h : nfR o (-1) x y) (hx : ¬ x < 0) : ∃ a b, o = some (a, b) ∧ x = nI a ∧ y = nI b := h.resolve_left (fun q => hx (by rw [q.2.1]; decide))
theorem r2_s {mu mw : Nat} {c : CF} {u v w : Nat} {t : TF} {j k : Nat} (hk : k < mw) : r2 mu mw c u v w t (j * mw + k + 1) = utf (r2 mu mw c u v w t (j * mw + k)) v w j k (cap (r2 mu mw c u v w t (j * mw + k) v w j k + mn (fun i => c u i + r2 mu mw c u v w t (j * mw + k) u v i j + r2 mu mw c u v w t (j * mw + k) u w i k) mu)) := by
  have e1 : (j * mw + k) / mw = j := by rw [Nat.mul_comm, Nat.mul_add_div (by omega), Nat.div_eq_of_lt hk, Nat.add_zero]
  have e2 : (j * mw + k) % mw = k := by rw [Nat.mul_comm, Nat.mul_add_mod, Nat.mod_eq_of_lt hk]
  show utf (r2 mu mw c u v w t (j * mw + k)) v w ((j * mw + k) / mw) ((j * mw + k) % mw) (cap (r2 mu mw c u v w t (j * mw + k) v w ((j * mw + k) / mw) ((j * mw + k) % mw) + mn (fun i => c u i + r2 mu mw c u v w t (j * mw + k) u v i ((j * mw + k) / mw) + r2 mu mw c u v w t (j * mw + k) u w i ((j * mw + k) % mw)) mu)) = _
  rw [e1, e2]

set_option maxHeartbeats 400000 in
set_option maxRecDepth 100000 in
theorem x_matesLeft (z : mj_B) (d : Nat) (n : Nat) (mm : VF) (c : CF) (t : TF) (mk : VF) (hn : n ≤ 8) (hmm : ∀ u, u < n → 1 ≤ mm u ∧ mm u ≤ 4) (hcb : ∀ a b, c a b ≤ 1000000) (htb : ∀ a b i j, t a b i j ≤ 1000000) (hmk : ∀ u, mk u < 256) (u lf s : Nat) (hu : u < n) (F A : mj_S) (hW : WT F A 28 n mm c t mk) (el : F 5 6 = nI lf) (hs : ∀ v, (mk u / 2 ^ v % 2 = 1 ∧ lf / 2 ^ v % 2 = 1) ↔ s / 2 ^ v % 2 = 1) : J (gC z) mX2_matesLeft d 0 [(0, .ref 5), (1, .int (nI u))] [] F A (qN F A fun r => r = s) := by
  refine j_aload_n dX2_matesLeft_0 rfl ?_
  refine j_getR (r := 28) dX2_matesLeft_1 flX2_27 (Nat.le_of_ble_eq_true rfl) rfl rfl ?_
  refine j_getR (r := 30) dX2_matesLeft_4 flX2_82 (Nat.le_of_ble_eq_true rfl) rfl rfl ?_
  refine j_iload_n dX2_matesLeft_7 rfl ?_
  refine j_ialdN dX2_matesLeft_8 (Nat.le_of_ble_eq_true rfl) rfl (by omega) (by decide) ?_
  have hma1 := hmk u
  refine j_top (y0 := nI (mk u)) (hW.2.1 u (by omega)).2 ?_
  refine j_aload_n dX2_matesLeft_9 rfl ?_
  refine j_getI dX2_matesLeft_10 flX2_43 (Nat.le_of_ble_eq_true rfl) rfl rfl ?_
  refine j_top (y0 := nI lf) el ?_
  refine j_iand dX2_matesLeft_13 ?_
  refine j_top (y0 := nI ((mk u) &&& lf)) (fa_and _ _) ?_
  exact j_iret dX2_matesLeft_14 rfl rfl ⟨rfl, rfl, _, rfl, bt_ext (fun v => bt_and.trans (hs v))⟩

set_option maxHeartbeats 400000 in
set_option maxRecDepth 100000 in
theorem x_comesAhead (z : mj_B) (d : Nat) (n : Nat) (mm : VF) (c : CF) (t : TF) (mk : VF) (hn : n ≤ 8) (hmm : ∀ u, u < n → 1 ≤ mm u ∧ mm u ≤ 4) (hcb : ∀ a b, c a b ≤ 1000000) (htb : ∀ a b i j, t a b i j ≤ 1000000) (hmk : ∀ u, mk u < 256) (mr : VF) (lf : Nat) (hmr : ∀ u, mr u < 256) (u v : Nat) (hu : u < n) (hv : v < n) (hbu : lf / 2 ^ u % 2 = 1) (hbv : lf / 2 ^ v % 2 = 1) (F A : mj_S) (hW : WT F A 28 n mm c t mk) (el : F 5 6 = nI lf) (hrl : ∀ u, u < n → lf / 2 ^ u % 2 = 1 → ∀ v, (mk u / 2 ^ v % 2 = 1 ∧ lf / 2 ^ v % 2 = 1) ↔ mr u / 2 ^ v % 2 = 1) : J (gC z) mX2_comesAhead (d + 1) 0 [(0, .ref 5), (1, .int (nI u)), (2, .int (nI v))] [] F A (qN F A fun q => (q = 1 ∧ ahN mm mr u v) ∨ (q = 0 ∧ ¬ ahN mm mr u v)) := by
  have h4u := hmm u hu
  have h4v := hmm v hv
  refine j_aload_n dX2_comesAhead_0 rfl ?_
  refine j_iload_n dX2_comesAhead_1 rfl ?_
  refine j_callV (y' := mX2_matesLeft) (As := [.int (nI u)]) (st := []) dX2_comesAhead_2 lkX2_50 okX2_matesLeft imX2_matesLeft seX2_matesLeft (Nat.le_of_ble_eq_true rfl) rfl rfl rfl rfl (Nat.le_of_ble_eq_true rfl) (Nat.le_of_ble_eq_true rfl) (x_matesLeft z _ n mm c t mk hn hmm hcb htb hmk u lf (mr u) (by omega) F A hW el (hrl u (by omega) hbu)) (fun v2 F2 A2 hq2 => ?_)
  obtain ⟨rfl, rfl, _, rfl, rfl⟩ := hq2
  have hml1 := hmr u
  refine j_callS (y' := mJ6_bitCount_0f7a4) (As := [.int (nI (mr u))]) (st := []) dX2_comesAhead_5 lkX2_54 okJ6_bitCount_0f7a4 stJ6_bitCount_0f7a4 rfl (Nat.le_of_ble_eq_true rfl) (Nat.le_of_ble_eq_true rfl) (c_bitCount z _ (nI (mr u)) F A) (fun v5 F5 A5 hq5 => ?_)
  obtain ⟨rfl, rfl, r5, rfl, hr5⟩ := hq5
  have hp5 := pc_le (mr u)
  refine j_top (y0 := nI (pc (mr u))) (hr5.trans (bc_pc _ (by omega))) ?_
  refine j_istore_n (lv' := [(0, .ref 5), (1, .int (nI u)), (2, .int (nI v)), (3, .int (nI (pc (mr u))))]) dX2_comesAhead_8 (Nat.le_of_ble_eq_true rfl) rfl rfl ?_
  refine j_aload_n dX2_comesAhead_9 rfl ?_
  refine j_iload_n dX2_comesAhead_10 rfl ?_
  refine j_callV (y' := mX2_matesLeft) (As := [.int (nI v)]) (st := []) dX2_comesAhead_11 lkX2_50 okX2_matesLeft imX2_matesLeft seX2_matesLeft (Nat.le_of_ble_eq_true rfl) rfl rfl rfl rfl (Nat.le_of_ble_eq_true rfl) (Nat.le_of_ble_eq_true rfl) (x_matesLeft z _ n mm c t mk hn hmm hcb htb hmk v lf (mr v) (by omega) F A hW el (hrl v (by omega) hbv)) (fun v11 F11 A11 hq11 => ?_)
  obtain ⟨rfl, rfl, _, rfl, rfl⟩ := hq11
  have hml2 := hmr v
  refine j_callS (y' := mJ6_bitCount_0f7a4) (As := [.int (nI (mr v))]) (st := []) dX2_comesAhead_14 lkX2_54 okJ6_bitCount_0f7a4 stJ6_bitCount_0f7a4 rfl (Nat.le_of_ble_eq_true rfl) (Nat.le_of_ble_eq_true rfl) (c_bitCount z _ (nI (mr v)) F A) (fun v14 F14 A14 hq14 => ?_)
  obtain ⟨rfl, rfl, r14, rfl, hr14⟩ := hq14
  have hp14 := pc_le (mr v)
  refine j_top (y0 := nI (pc (mr v))) (hr14.trans (bc_pc _ (by omega))) ?_
  refine j_istore (lv' := [(0, .ref 5), (1, .int (nI u)), (2, .int (nI v)), (3, .int (nI (pc (mr u)))), (4, .int (nI (pc (mr v))))]) dX2_comesAhead_17 (Nat.le_of_ble_eq_true rfl) rfl rfl ?_
  refine j_iload_n dX2_comesAhead_19 rfl ?_
  refine j_iload dX2_comesAhead_20 rfl ?_
  refine j_icmp_eqN (tgt := 37) dX2_comesAhead_22 (by decide) (by omega) (by omega) (fun c22 => ?_) (fun c22 => ?_)
  · refine j_aload_n dX2_comesAhead_37 rfl ?_
    refine j_getR (r := 28) dX2_comesAhead_38 flX2_27 (Nat.le_of_ble_eq_true rfl) rfl rfl ?_
    refine j_getR (r := 29) dX2_comesAhead_41 flX2_92 (Nat.le_of_ble_eq_true rfl) rfl rfl ?_
    refine j_iload_n dX2_comesAhead_44 rfl ?_
    refine j_ialdN dX2_comesAhead_45 (Nat.le_of_ble_eq_true rfl) rfl (by omega) (by decide) ?_
    have hch3 := hmm u (by omega)
    refine j_top (y0 := nI (mm u)) (hW.2.1 u (by omega)).1 ?_
    refine j_aload_n dX2_comesAhead_46 rfl ?_
    refine j_getR (r := 28) dX2_comesAhead_47 flX2_27 (Nat.le_of_ble_eq_true rfl) rfl rfl ?_
    refine j_getR (r := 29) dX2_comesAhead_50 flX2_92 (Nat.le_of_ble_eq_true rfl) rfl rfl ?_
    refine j_iload_n dX2_comesAhead_53 rfl ?_
    refine j_ialdN dX2_comesAhead_54 (Nat.le_of_ble_eq_true rfl) rfl (by omega) (by decide) ?_
    have hch4 := hmm v (by omega)
    refine j_top (y0 := nI (mm v)) (hW.2.1 v (by omega)).1 ?_
    refine j_icmp_eqN (tgt := 85) dX2_comesAhead_55 (by decide) (by omega) (by omega) (fun c55 => ?_) (fun c55 => ?_)
    · refine j_iload_n dX2_comesAhead_85 rfl ?_
      refine j_iload_n dX2_comesAhead_86 rfl ?_
      refine j_icmp_geN (tgt := 94) dX2_comesAhead_87 (by decide) (by omega) (by omega) (fun c87 => ?_) (fun c87 => ?_)
      · refine j_iconst (v := nI 0) dX2_comesAhead_94 (by decide +kernel) ?_
        exact j_iret dX2_comesAhead_95 rfl (by decide +kernel) ⟨rfl, rfl, _, rfl, by unfold ahN; omega⟩
      · refine j_iconst (v := nI 1) dX2_comesAhead_90 (by decide +kernel) ?_
        refine j_goto (tgt := 95) dX2_comesAhead_91 (by decide) ?_
        exact j_iret dX2_comesAhead_95 rfl (by decide +kernel) ⟨rfl, rfl, _, rfl, by unfold ahN; omega⟩
    · refine j_aload_n dX2_comesAhead_58 rfl ?_
      refine j_getR (r := 28) dX2_comesAhead_59 flX2_27 (Nat.le_of_ble_eq_true rfl) rfl rfl ?_
      refine j_getR (r := 29) dX2_comesAhead_62 flX2_92 (Nat.le_of_ble_eq_true rfl) rfl rfl ?_
      refine j_iload_n dX2_comesAhead_65 rfl ?_
      refine j_ialdN dX2_comesAhead_66 (Nat.le_of_ble_eq_true rfl) rfl (by omega) (by decide) ?_
      have hch5 := hmm u (by omega)
      refine j_top (y0 := nI (mm u)) (hW.2.1 u (by omega)).1 ?_
      refine j_aload_n dX2_comesAhead_67 rfl ?_
      refine j_getR (r := 28) dX2_comesAhead_68 flX2_27 (Nat.le_of_ble_eq_true rfl) rfl rfl ?_
      refine j_getR (r := 29) dX2_comesAhead_71 flX2_92 (Nat.le_of_ble_eq_true rfl) rfl rfl ?_
      refine j_iload_n dX2_comesAhead_74 rfl ?_
      refine j_ialdN dX2_comesAhead_75 (Nat.le_of_ble_eq_true rfl) rfl (by omega) (by decide) ?_
      have hch6 := hmm v (by omega)
      refine j_top (y0 := nI (mm v)) (hW.2.1 v (by omega)).1 ?_
      refine j_icmp_geN (tgt := 83) dX2_comesAhead_76 (by decide) (by omega) (by omega) (fun c76 => ?_) (fun c76 => ?_)
      · refine j_iconst (v := nI 0) dX2_comesAhead_83 (by decide +kernel) ?_
        exact j_iret dX2_comesAhead_84 rfl (by decide +kernel) ⟨rfl, rfl, _, rfl, by unfold ahN; omega⟩
      · refine j_iconst (v := nI 1) dX2_comesAhead_79 (by decide +kernel) ?_
        refine j_goto (tgt := 84) dX2_comesAhead_80 (by decide) ?_
        exact j_iret dX2_comesAhead_84 rfl (by decide +kernel) ⟨rfl, rfl, _, rfl, by unfold ahN; omega⟩
  · refine j_iload_n dX2_comesAhead_25 rfl ?_
    refine j_iload dX2_comesAhead_26 rfl ?_
    refine j_icmp_geN (tgt := 35) dX2_comesAhead_28 (by decide) (by omega) (by omega) (fun c28 => ?_) (fun c28 => ?_)
    · refine j_iconst (v := nI 0) dX2_comesAhead_35 (by decide +kernel) ?_
      exact j_iret dX2_comesAhead_36 rfl (by decide +kernel) ⟨rfl, rfl, _, rfl, by unfold ahN; omega⟩
    · refine j_iconst (v := nI 1) dX2_comesAhead_31 (by decide +kernel) ?_
      refine j_goto (tgt := 36) dX2_comesAhead_32 (by decide) ?_
      exact j_iret dX2_comesAhead_36 rfl (by decide +kernel) ⟨rfl, rfl, _, rfl, by unfold ahN; omega⟩

set_option maxHeartbeats 400000 in
set_option maxRecDepth 100000 in
theorem x_nextNode (z : mj_B) (d : Nat) (n : Nat) (mm : VF) (c : CF) (t : TF) (mk : VF) (hn : n ≤ 8) (hmm : ∀ u, u < n → 1 ≤ mm u ∧ mm u ≤ 4) (hcb : ∀ a b, c a b ≤ 1000000) (htb : ∀ a b i j, t a b i j ≤ 1000000) (hmk : ∀ u, mk u < 256) (mr : VF) (lf : Nat) (hmr : ∀ u, mr u < 256) (hs : lf < 2 ^ n) (h0 : 0 < lf) (F A : mj_S) (hW : WT F A 28 n mm c t mk) (el : F 5 6 = nI lf) (hrl : ∀ u, u < n → lf / 2 ^ u % 2 = 1 → ∀ v, (mk u / 2 ^ v % 2 = 1 ∧ lf / 2 ^ v % 2 = 1) ↔ mr u / 2 ^ v % 2 = 1) : J (gC z) mX2_nextNode (d + 2) 0 [(0, .ref 5)] [] F A (qN F A fun q => q = nxt mm mr n lf) := by
  have hs2 := (p2_le hn).2
  have L6 : ∀ (fuel : Nat) (x1 : Int32) (x2 : Int32) (u : Nat), (u ≤ n) → (nfR (nf mm mr lf u) (-1) x1 x2) → n - u < fuel → J (gC z) mX2_nextNode (d + 2) 6 [(0, .ref 5), (1, .int x1), (2, .int x2), (3, .int (nI u))] [] F A (qN F A fun q => q = nxt mm mr n lf) := by
    intro fuel
    induction fuel with
    | zero => intro x1 x2 u h1 h2 hf; exact absurd hf (by omega)
    | succ fuel ih6 =>
      intro x1 x2 u h1 h2 hf
      refine j_iload_n dX2_nextNode_6 rfl ?_
      refine j_aload_n dX2_nextNode_7 rfl ?_
      refine j_getR (r := 28) dX2_nextNode_8 flX2_27 (Nat.le_of_ble_eq_true rfl) rfl rfl ?_
      refine j_getI dX2_nextNode_11 flX2_39 (Nat.le_of_ble_eq_true rfl) rfl rfl ?_
      refine j_top (y0 := nI n) hW.1 ?_
      refine j_icmp_geN (tgt := 72) dX2_nextNode_14 (by decide) (by omega) (by omega) (fun c14 => ?_) (fun c14 => ?_)
      · obtain ⟨a, b, hso, rfl, rfl⟩ := nfR_end h2 (by omega) hs (by omega) h0
        have ha : a < n := (nf_ok hso).1.1
        have hb : b < n := (nf_ok hso).2.1
        have hb_a : lf / 2 ^ a % 2 = 1 := (nf_ok hso).1.2
        refine j_iload_n dX2_nextNode_72 rfl ?_
        refine j_if_ltN (tgt := 80) dX2_nextNode_73 (by decide) (by omega) (fun c73 => ?_) (fun c73 => ?_)
        · exact c73.elim
        · refine j_iload_n dX2_nextNode_76 rfl ?_
          refine j_if_geN (tgt := 82) dX2_nextNode_77 (by decide) (by omega) (fun c77 => ?_) (fun c77 => ?_)
          · refine j_aload_n dX2_nextNode_82 rfl ?_
            refine j_iload_n dX2_nextNode_83 rfl ?_
            refine j_callV (y' := mX2_matesLeft) (As := [.int (nI a)]) (st := []) dX2_nextNode_84 lkX2_50 okX2_matesLeft imX2_matesLeft seX2_matesLeft (Nat.le_of_ble_eq_true rfl) rfl rfl rfl rfl (Nat.le_of_ble_eq_true rfl) (Nat.le_of_ble_eq_true rfl) (x_matesLeft z _ n mm c t mk hn hmm hcb htb hmk a lf (mr a) (by omega) F A hW el (hrl a (by omega) hb_a)) (fun v84 F84 A84 hq84 => ?_)
            obtain ⟨rfl, rfl, _, rfl, rfl⟩ := hq84
            have hml1 := hmr a
            refine j_callS (y' := mJ6_bitCount_0f7a4) (As := [.int (nI (mr a))]) (st := []) dX2_nextNode_87 lkX2_54 okJ6_bitCount_0f7a4 stJ6_bitCount_0f7a4 rfl (Nat.le_of_ble_eq_true rfl) (Nat.le_of_ble_eq_true rfl) (c_bitCount z _ (nI (mr a)) F A) (fun v87 F87 A87 hq87 => ?_)
            obtain ⟨rfl, rfl, r87, rfl, hr87⟩ := hq87
            have hp87 := pc_le (mr a)
            refine j_top (y0 := nI (pc (mr a))) (hr87.trans (bc_pc _ (by omega))) ?_
            refine j_iconst (v := nI 2) dX2_nextNode_90 (by decide +kernel) ?_
            refine j_icmp_gtN (tgt := 98) dX2_nextNode_91 (by decide) (by omega) (by omega) (fun c91 => ?_) (fun c91 => ?_)
            · refine j_iload_n dX2_nextNode_98 rfl ?_
              exact j_iret dX2_nextNode_99 rfl rfl ⟨rfl, rfl, _, rfl, by rw [nxt_e hso]; first | exact (if_pos (show pc (mr a) < 3 by omega)).symm | exact (if_neg (show ¬ pc (mr a) < 3 by omega)).symm⟩
            · refine j_iload_n dX2_nextNode_94 rfl ?_
              refine j_goto (tgt := 99) dX2_nextNode_95 (by decide) ?_
              exact j_iret dX2_nextNode_99 rfl rfl ⟨rfl, rfl, _, rfl, by rw [nxt_e hso]; first | exact (if_pos (show pc (mr a) < 3 by omega)).symm | exact (if_neg (show ¬ pc (mr a) < 3 by omega)).symm⟩
          · exact c77.elim
      · refine j_aload_n dX2_nextNode_17 rfl ?_
        refine j_getI dX2_nextNode_18 flX2_43 (Nat.le_of_ble_eq_true rfl) rfl rfl ?_
        refine j_top (y0 := nI lf) el ?_
        refine j_iload_n dX2_nextNode_21 rfl ?_
        refine j_callSN (y' := mX5_hasBit) (As := [.int (nI lf), .int (nI u)]) (st := []) dX2_nextNode_22 lnX2_85 okX5_hasBit stX5_hasBit rfl (Nat.le_of_ble_eq_true rfl) (Nat.le_of_ble_eq_true rfl) (c_hasBitN z _ lf u (by omega) (by omega) F A) (fun v22 F22 A22 hq22 => ?_)
        obtain ⟨rfl, rfl, r22, rfl, hr22⟩ := hq22
        have hb22 : r22 ≤ 1 := by omega
        refine j_if_eqN (tgt := 66) dX2_nextNode_25 (by decide) (by omega) (fun c25 => ?_) (fun c25 => ?_)
        · have hbn : ¬ lf / 2 ^ u % 2 = 1 := by omega
          refine j_iinc (v := nI (u + 1)) (lv' := [(0, .ref 5), (1, .int x1), (2, .int x2), (3, .int (nI (u + 1)))]) dX2_nextNode_66 rfl (nI_add _ 1) (Nat.le_of_ble_eq_true rfl) rfl rfl ?_
          refine j_goto (tgt := 6) dX2_nextNode_69 (by decide) ?_
          exact ih6 x1 x2 (u + 1) (by first | exact h1 | omega) (by first | exact Or.inr ⟨_, _, nf_first hb_u hno, rfl, rfl⟩ | exact Or.inr ⟨_, _, nf_more hb_u hso (by first | exact Or.inl ⟨ha1, rfl⟩ | exact Or.inr ⟨hna, rfl⟩) (by first | exact Or.inl ⟨hb1, rfl⟩ | exact Or.inr ⟨hnb, rfl⟩), rfl, rfl⟩ | (rw [nf_skip hbn]; exact h2)) (by omega)
        · have hb_u : lf / 2 ^ u % 2 = 1 := by omega
          refine j_iload_n dX2_nextNode_28 rfl ?_
          refine j_if_lt (tgt := 41) dX2_nextNode_29 (by decide) (fun c29 => ?_) (fun c29 => ?_)
          · obtain ⟨hno, rfl, rfl⟩ := nfR_n1 h2 c29 (fun a b q => by have := (nf_ok q).1.1; simp only at this; omega)
            refine j_iload_n dX2_nextNode_41 rfl ?_
            refine j_goto (tgt := 46) dX2_nextNode_42 (by decide) ?_
            refine j_istore_n (lv' := [(0, .ref 5), (1, .int (nI u)), (2, .int ((-1))), (3, .int (nI u))]) dX2_nextNode_46 (Nat.le_of_ble_eq_true rfl) rfl rfl ?_
            refine j_iload_n dX2_nextNode_47 rfl ?_
            refine j_if_lt (tgt := 60) dX2_nextNode_48 (by decide) (fun c48 => ?_) (fun c48 => ?_)
            · refine j_iload_n dX2_nextNode_60 rfl ?_
              refine j_goto (tgt := 65) dX2_nextNode_61 (by decide) ?_
              refine j_istore_n (lv' := [(0, .ref 5), (1, .int (nI u)), (2, .int (nI u)), (3, .int (nI u))]) dX2_nextNode_65 (Nat.le_of_ble_eq_true rfl) rfl rfl ?_
              refine j_iinc (v := nI (u + 1)) (lv' := [(0, .ref 5), (1, .int (nI u)), (2, .int (nI u)), (3, .int (nI (u + 1)))]) dX2_nextNode_66 rfl (nI_add _ 1) (Nat.le_of_ble_eq_true rfl) rfl rfl ?_
              refine j_goto (tgt := 6) dX2_nextNode_69 (by decide) ?_
              exact ih6 (nI u) (nI u) (u + 1) (by first | exact h1 | omega) (by first | exact Or.inr ⟨_, _, nf_first hb_u hno, rfl, rfl⟩ | exact Or.inr ⟨_, _, nf_more hb_u hso (by first | exact Or.inl ⟨ha1, rfl⟩ | exact Or.inr ⟨hna, rfl⟩) (by first | exact Or.inl ⟨hb1, rfl⟩ | exact Or.inr ⟨hnb, rfl⟩), rfl, rfl⟩ | (rw [nf_skip hbn]; exact h2)) (by omega)
            · exact absurd (by decide) c48
          · obtain ⟨a, b, hso, rfl, rfl⟩ := nfR_s1 h2 c29
            have ha : a < u := (nf_ok hso).1.1
            have hb : b < u := (nf_ok hso).2.1
            have hb_a : lf / 2 ^ a % 2 = 1 := (nf_ok hso).1.2
            have hb_b : lf / 2 ^ b % 2 = 1 := (nf_ok hso).2.2
            refine j_aload_n dX2_nextNode_32 rfl ?_
            refine j_iload_n dX2_nextNode_33 rfl ?_
            refine j_iload_n dX2_nextNode_34 rfl ?_
            refine j_callV (y' := mX2_comesAhead) (As := [.int (nI u), .int (nI a)]) (st := []) dX2_nextNode_35 lkX2_89 okX2_comesAhead imX2_comesAhead seX2_comesAhead (Nat.le_of_ble_eq_true rfl) rfl rfl rfl rfl (Nat.le_of_ble_eq_true rfl) (Nat.le_of_ble_eq_true rfl) (x_comesAhead z _ n mm c t mk hn hmm hcb htb hmk mr lf hmr u a (by omega) (by omega) hb_u hb_a F A hW el hrl) (fun v35 F35 A35 hq35 => ?_)
            obtain ⟨rfl, rfl, r35, rfl, hr35⟩ := hq35
            have hb35 : r35 ≤ 1 := by omega
            refine j_if_eqN (tgt := 45) dX2_nextNode_38 (by decide) (by omega) (fun c38 => ?_) (fun c38 => ?_)
            · have hna := (hr35.resolve_left (fun h => by omega)).2
              refine j_iload_n dX2_nextNode_45 rfl ?_
              refine j_istore_n (lv' := [(0, .ref 5), (1, .int (nI a)), (2, .int (nI b)), (3, .int (nI u))]) dX2_nextNode_46 (Nat.le_of_ble_eq_true rfl) rfl rfl ?_
              refine j_iload_n dX2_nextNode_47 rfl ?_
              refine j_if_ltN (tgt := 60) dX2_nextNode_48 (by decide) (by omega) (fun c48 => ?_) (fun c48 => ?_)
              · exact c48.elim
              · refine j_aload_n dX2_nextNode_51 rfl ?_
                refine j_iload_n dX2_nextNode_52 rfl ?_
                refine j_iload_n dX2_nextNode_53 rfl ?_
                refine j_callV (y' := mX2_comesAhead) (As := [.int (nI b), .int (nI u)]) (st := []) dX2_nextNode_54 lkX2_89 okX2_comesAhead imX2_comesAhead seX2_comesAhead (Nat.le_of_ble_eq_true rfl) rfl rfl rfl rfl (Nat.le_of_ble_eq_true rfl) (Nat.le_of_ble_eq_true rfl) (x_comesAhead z _ n mm c t mk hn hmm hcb htb hmk mr lf hmr b u (by omega) (by omega) hb_b hb_u F A hW el hrl) (fun v54 F54 A54 hq54 => ?_)
                obtain ⟨rfl, rfl, r54, rfl, hr54⟩ := hq54
                have hb54 : r54 ≤ 1 := by omega
                refine j_if_eqN (tgt := 64) dX2_nextNode_57 (by decide) (by omega) (fun c57 => ?_) (fun c57 => ?_)
                · have hnb := (hr54.resolve_left (fun h => by omega)).2
                  refine j_iload_n dX2_nextNode_64 rfl ?_
                  refine j_istore_n (lv' := [(0, .ref 5), (1, .int (nI a)), (2, .int (nI b)), (3, .int (nI u))]) dX2_nextNode_65 (Nat.le_of_ble_eq_true rfl) rfl rfl ?_
                  refine j_iinc (v := nI (u + 1)) (lv' := [(0, .ref 5), (1, .int (nI a)), (2, .int (nI b)), (3, .int (nI (u + 1)))]) dX2_nextNode_66 rfl (nI_add _ 1) (Nat.le_of_ble_eq_true rfl) rfl rfl ?_
                  refine j_goto (tgt := 6) dX2_nextNode_69 (by decide) ?_
                  exact ih6 (nI a) (nI b) (u + 1) (by first | exact h1 | omega) (by first | exact Or.inr ⟨_, _, nf_first hb_u hno, rfl, rfl⟩ | exact Or.inr ⟨_, _, nf_more hb_u hso (by first | exact Or.inl ⟨ha1, rfl⟩ | exact Or.inr ⟨hna, rfl⟩) (by first | exact Or.inl ⟨hb1, rfl⟩ | exact Or.inr ⟨hnb, rfl⟩), rfl, rfl⟩ | (rw [nf_skip hbn]; exact h2)) (by omega)
                · have hb1 := (hr54.resolve_right (fun h => by omega)).2
                  refine j_iload_n dX2_nextNode_60 rfl ?_
                  refine j_goto (tgt := 65) dX2_nextNode_61 (by decide) ?_
                  refine j_istore_n (lv' := [(0, .ref 5), (1, .int (nI a)), (2, .int (nI u)), (3, .int (nI u))]) dX2_nextNode_65 (Nat.le_of_ble_eq_true rfl) rfl rfl ?_
                  refine j_iinc (v := nI (u + 1)) (lv' := [(0, .ref 5), (1, .int (nI a)), (2, .int (nI u)), (3, .int (nI (u + 1)))]) dX2_nextNode_66 rfl (nI_add _ 1) (Nat.le_of_ble_eq_true rfl) rfl rfl ?_
                  refine j_goto (tgt := 6) dX2_nextNode_69 (by decide) ?_
                  exact ih6 (nI a) (nI u) (u + 1) (by first | exact h1 | omega) (by first | exact Or.inr ⟨_, _, nf_first hb_u hno, rfl, rfl⟩ | exact Or.inr ⟨_, _, nf_more hb_u hso (by first | exact Or.inl ⟨ha1, rfl⟩ | exact Or.inr ⟨hna, rfl⟩) (by first | exact Or.inl ⟨hb1, rfl⟩ | exact Or.inr ⟨hnb, rfl⟩), rfl, rfl⟩ | (rw [nf_skip hbn]; exact h2)) (by omega)
            · have ha1 := (hr35.resolve_right (fun h => by omega)).2
              refine j_iload_n dX2_nextNode_41 rfl ?_
              refine j_goto (tgt := 46) dX2_nextNode_42 (by decide) ?_
              refine j_istore_n (lv' := [(0, .ref 5), (1, .int (nI u)), (2, .int (nI b)), (3, .int (nI u))]) dX2_nextNode_46 (Nat.le_of_ble_eq_true rfl) rfl rfl ?_
              refine j_iload_n dX2_nextNode_47 rfl ?_
              refine j_if_ltN (tgt := 60) dX2_nextNode_48 (by decide) (by omega) (fun c48 => ?_) (fun c48 => ?_)
              · exact c48.elim
              · refine j_aload_n dX2_nextNode_51 rfl ?_
                refine j_iload_n dX2_nextNode_52 rfl ?_
                refine j_iload_n dX2_nextNode_53 rfl ?_
                refine j_callV (y' := mX2_comesAhead) (As := [.int (nI b), .int (nI u)]) (st := []) dX2_nextNode_54 lkX2_89 okX2_comesAhead imX2_comesAhead seX2_comesAhead (Nat.le_of_ble_eq_true rfl) rfl rfl rfl rfl (Nat.le_of_ble_eq_true rfl) (Nat.le_of_ble_eq_true rfl) (x_comesAhead z _ n mm c t mk hn hmm hcb htb hmk mr lf hmr b u (by omega) (by omega) hb_b hb_u F A hW el hrl) (fun v54 F54 A54 hq54 => ?_)
                obtain ⟨rfl, rfl, r54, rfl, hr54⟩ := hq54
                have hb54 : r54 ≤ 1 := by omega
                refine j_if_eqN (tgt := 64) dX2_nextNode_57 (by decide) (by omega) (fun c57 => ?_) (fun c57 => ?_)
                · have hnb := (hr54.resolve_left (fun h => by omega)).2
                  refine j_iload_n dX2_nextNode_64 rfl ?_
                  refine j_istore_n (lv' := [(0, .ref 5), (1, .int (nI u)), (2, .int (nI b)), (3, .int (nI u))]) dX2_nextNode_65 (Nat.le_of_ble_eq_true rfl) rfl rfl ?_
                  refine j_iinc (v := nI (u + 1)) (lv' := [(0, .ref 5), (1, .int (nI u)), (2, .int (nI b)), (3, .int (nI (u + 1)))]) dX2_nextNode_66 rfl (nI_add _ 1) (Nat.le_of_ble_eq_true rfl) rfl rfl ?_
                  refine j_goto (tgt := 6) dX2_nextNode_69 (by decide) ?_
                  exact ih6 (nI u) (nI b) (u + 1) (by first | exact h1 | omega) (by first | exact Or.inr ⟨_, _, nf_first hb_u hno, rfl, rfl⟩ | exact Or.inr ⟨_, _, nf_more hb_u hso (by first | exact Or.inl ⟨ha1, rfl⟩ | exact Or.inr ⟨hna, rfl⟩) (by first | exact Or.inl ⟨hb1, rfl⟩ | exact Or.inr ⟨hnb, rfl⟩), rfl, rfl⟩ | (rw [nf_skip hbn]; exact h2)) (by omega)
                · have hb1 := (hr54.resolve_right (fun h => by omega)).2
                  refine j_iload_n dX2_nextNode_60 rfl ?_
                  refine j_goto (tgt := 65) dX2_nextNode_61 (by decide) ?_
                  refine j_istore_n (lv' := [(0, .ref 5), (1, .int (nI u)), (2, .int (nI u)), (3, .int (nI u))]) dX2_nextNode_65 (Nat.le_of_ble_eq_true rfl) rfl rfl ?_
                  refine j_iinc (v := nI (u + 1)) (lv' := [(0, .ref 5), (1, .int (nI u)), (2, .int (nI u)), (3, .int (nI (u + 1)))]) dX2_nextNode_66 rfl (nI_add _ 1) (Nat.le_of_ble_eq_true rfl) rfl rfl ?_
                  refine j_goto (tgt := 6) dX2_nextNode_69 (by decide) ?_
                  exact ih6 (nI u) (nI u) (u + 1) (by first | exact h1 | omega) (by first | exact Or.inr ⟨_, _, nf_first hb_u hno, rfl, rfl⟩ | exact Or.inr ⟨_, _, nf_more hb_u hso (by first | exact Or.inl ⟨ha1, rfl⟩ | exact Or.inr ⟨hna, rfl⟩) (by first | exact Or.inl ⟨hb1, rfl⟩ | exact Or.inr ⟨hnb, rfl⟩), rfl, rfl⟩ | (rw [nf_skip hbn]; exact h2)) (by omega)
  refine j_iconst (v := (-1)) dX2_nextNode_0 (by decide +kernel) ?_
  refine j_istore_n (lv' := [(0, .ref 5), (1, .int ((-1)))]) dX2_nextNode_1 (Nat.le_of_ble_eq_true rfl) rfl rfl ?_
  refine j_iconst (v := (-1)) dX2_nextNode_2 (by decide +kernel) ?_
  refine j_istore_n (lv' := [(0, .ref 5), (1, .int ((-1))), (2, .int ((-1)))]) dX2_nextNode_3 (Nat.le_of_ble_eq_true rfl) rfl rfl ?_
  refine j_iconst (v := nI 0) dX2_nextNode_4 (by decide +kernel) ?_
  refine j_istore_n (lv' := [(0, .ref 5), (1, .int ((-1))), (2, .int ((-1))), (3, .int (nI 0))]) dX2_nextNode_5 (Nat.le_of_ble_eq_true rfl) rfl rfl ?_
  exact L6 _ (-1) (-1) 0 (Nat.zero_le _) (Or.inl ⟨rfl, rfl, rfl⟩) (Nat.lt_succ_self _)

set_option maxHeartbeats 400000 in
set_option maxRecDepth 100000 in
theorem x_foldIntoOne (z : mj_B) (d : Nat) (T : Tg) (n : Nat) (mm : VF) (c : CF) (t : TF) (mk : VF) (hn : n ≤ 8) (hmm : ∀ u, u < n → 1 ≤ mm u ∧ mm u ≤ 4) (hcb : ∀ a b, c a b ≤ 1000000) (htb : ∀ a b i j, t a b i j ≤ 1000000) (hmk : ∀ u, mk u < 256) (u v : Nat) (hu : u < n) (hv : v < n) (huv : u ≠ v) (hbt : mk u / 2 ^ v % 2 = 1) (F A0 : mj_S) (hW : WT F A0 28 n mm c t mk) (hC : CI T F A0) : J (gC z) mX2_foldIntoOne (d + 3) 0 [(0, .ref 5), (1, .int (nI u)), (2, .int (nI v))] [] F A0 (fun _v F' A' => _v = none ∧ F = F' ∧ CI T F A' ∧ WT F A' 28 n mm (r1 (mm u) t u v c (mm v)) t mk ∧ ∀ k, k ≠ 31 → A' k = A0 k) := by
  have h4u := hmm u hu
  have h4v := hmm v hv
  have L2 : ∀ (fuel : Nat) (j : Nat) (A : mj_S), (CI T F A) → (WT F A 28 n mm (r1 (mm u) t u v c j) t mk) → (∀ k, k ≠ 31 → A k = A0 k) → (j ≤ mm v) → mm v - j < fuel → J (gC z) mX2_foldIntoOne (d + 3) 2 [(0, .ref 5), (1, .int (nI u)), (2, .int (nI v)), (3, .int (nI j))] [] F A (fun _v F' A' => _v = none ∧ F = F' ∧ CI T F A' ∧ WT F A' 28 n mm (r1 (mm u) t u v c (mm v)) t mk ∧ ∀ k, k ≠ 31 → A' k = A0 k) := by
    intro fuel
    induction fuel with
    | zero => intro j A hC hW hfr h1 hf; exact absurd hf (by omega)
    | succ fuel ih2 =>
      intro j A hC hW hfr h1 hf
      refine j_iload_n dX2_foldIntoOne_2 rfl ?_
      refine j_aload_n dX2_foldIntoOne_3 rfl ?_
      refine j_getR (r := 28) dX2_foldIntoOne_4 flX2_27 (Nat.le_of_ble_eq_true rfl) rfl rfl ?_
      refine j_getR (r := 29) dX2_foldIntoOne_7 flX2_92 (Nat.le_of_ble_eq_true rfl) rfl rfl ?_
      refine j_iload_n dX2_foldIntoOne_10 rfl ?_
      refine j_ialdN dX2_foldIntoOne_11 (Nat.le_of_ble_eq_true rfl) rfl (by omega) (by decide) ?_
      have hch1 := hmm v (by omega)
      refine j_top (y0 := nI (mm v)) (hW.2.1 v (by omega)).1 ?_
      refine j_icmp_geN (tgt := 89) dX2_foldIntoOne_12 (by decide) (by omega) (by omega) (fun c12 => ?_) (fun c12 => ?_)
      · exact j_vret dX2_foldIntoOne_89 rfl ⟨rfl, rfl, hC, by rw [show mm v = j by omega]; exact hW, hfr⟩
      · have L22 : ∀ (fuel : Nat) (le : Nat) (i : Nat), (i ≤ mm u) → (le = mn (fun i => r1 (mm u) t u v c j u i + t u v i j) i) → mm u - i < fuel → J (gC z) mX2_foldIntoOne (d + 3) 22 [(0, .ref 5), (1, .int (nI u)), (2, .int (nI v)), (3, .int (nI j)), (4, .int (nI le)), (5, .int (nI i))] [] F A (fun _v F' A' => _v = none ∧ F = F' ∧ CI T F A' ∧ WT F A' 28 n mm (r1 (mm u) t u v c (mm v)) t mk ∧ ∀ k, k ≠ 31 → A' k = A0 k) := by
          intro fuel
          induction fuel with
          | zero => intro le i h2 hle hf; exact absurd hf (by omega)
          | succ fuel ih22 =>
            intro le i h2 hle hf
            have hlb : le ≤ 1000000 := by rw [hle]; exact mn_le _ _
            refine j_iload dX2_foldIntoOne_22 rfl ?_
            refine j_aload_n dX2_foldIntoOne_24 rfl ?_
            refine j_getR (r := 28) dX2_foldIntoOne_25 flX2_27 (Nat.le_of_ble_eq_true rfl) rfl rfl ?_
            refine j_getR (r := 29) dX2_foldIntoOne_28 flX2_92 (Nat.le_of_ble_eq_true rfl) rfl rfl ?_
            refine j_iload_n dX2_foldIntoOne_31 rfl ?_
            refine j_ialdN dX2_foldIntoOne_32 (Nat.le_of_ble_eq_true rfl) rfl (by omega) (by decide) ?_
            have hch2 := hmm u (by omega)
            refine j_top (y0 := nI (mm u)) (hW.2.1 u (by omega)).1 ?_
            refine j_icmp_geN (tgt := 72) dX2_foldIntoOne_33 (by decide) (by omega) (by omega) (fun c33 => ?_) (fun c33 => ?_)
            · refine j_aload_n dX2_foldIntoOne_72 rfl ?_
              refine j_getR (r := 28) dX2_foldIntoOne_73 flX2_27 (Nat.le_of_ble_eq_true rfl) rfl rfl ?_
              refine j_iload_n dX2_foldIntoOne_76 rfl ?_
              refine j_iload_n dX2_foldIntoOne_77 rfl ?_
              refine j_iload dX2_foldIntoOne_78 rfl ?_
              refine j_callV (y' := mX4_addCost) (As := [.int (nI v), .int (nI j), .int (nI le)]) (st := []) dX2_foldIntoOne_80 lkX2_103 okX4_addCost imX4_addCost seX4_addCost (Nat.le_of_ble_eq_true rfl) rfl rfl rfl rfl (Nat.le_of_ble_eq_true rfl) (Nat.le_of_ble_eq_true rfl) (x_addCost28 z _ T n mm (r1 (mm u) t u v c j) t mk hn hmm (r1_le hcb j) htb hmk v j (by omega) (by omega) le (by omega) F A hW hC) (fun v80 F80 A80 hq80 => ?_)
              obtain ⟨rfl, rfl, hC, hW, hk80⟩ := hq80
              refine j_iinc (v := nI (j + 1)) (lv' := [(0, .ref 5), (1, .int (nI u)), (2, .int (nI v)), (3, .int (nI (j + 1))), (4, .int (nI le)), (5, .int (nI i))]) dX2_foldIntoOne_83 rfl (nI_add _ 1) (Nat.le_of_ble_eq_true rfl) rfl rfl ?_
              refine j_goto (tgt := 2) dX2_foldIntoOne_86 (by decide) ?_
              refine j_sub [0, 1, 2, 3] rfl ?_
              exact ih2 (j + 1) A80 (by first | exact hC | omega) (by rw [hle, show i = mm u by omega] at hW; exact hW) (fun k hk => (hk80 k hk).trans (hfr k hk)) (by first | exact h1 | omega) (by omega)
            · refine j_iload dX2_foldIntoOne_36 rfl ?_
              refine j_aload_n dX2_foldIntoOne_38 rfl ?_
              refine j_getR (r := 28) dX2_foldIntoOne_39 flX2_27 (Nat.le_of_ble_eq_true rfl) rfl rfl ?_
              refine j_iload_n dX2_foldIntoOne_42 rfl ?_
              refine j_iload dX2_foldIntoOne_43 rfl ?_
              refine j_callV (y' := mX4_costAt) (As := [.int (nI u), .int (nI i)]) (st := [.int (nI le)]) dX2_foldIntoOne_45 lkX2_96 okX4_costAt imX4_costAt seX4_costAt (Nat.le_of_ble_eq_true rfl) rfl rfl rfl rfl (Nat.le_of_ble_eq_true rfl) (Nat.le_of_ble_eq_true rfl) (x_costAt28 z _ n mm (r1 (mm u) t u v c j) t mk hn hmm (r1_le hcb j) htb hmk u i (by omega) (by omega) F A hW) (fun v45 F45 A45 hq45 => ?_)
              obtain ⟨rfl, rfl, _, rfl, rfl⟩ := hq45
              have hkb3 : r1 (mm u) t u v c j u i ≤ 1000000 := r1_le hcb j u i
              refine j_aload_n dX2_foldIntoOne_48 rfl ?_
              refine j_getR (r := 28) dX2_foldIntoOne_49 flX2_27 (Nat.le_of_ble_eq_true rfl) rfl rfl ?_
              refine j_iload_n dX2_foldIntoOne_52 rfl ?_
              refine j_iload_n dX2_foldIntoOne_53 rfl ?_
              refine j_iload dX2_foldIntoOne_54 rfl ?_
              refine j_iload_n dX2_foldIntoOne_56 rfl ?_
              refine j_callV (y' := mX4_entryAt) (As := [.int (nI u), .int (nI v), .int (nI i), .int (nI j)]) (st := [.int (nI (r1 (mm u) t u v c j u i)), .int (nI le)]) dX2_foldIntoOne_57 lkX2_99 okX4_entryAt imX4_entryAt seX4_entryAt (Nat.le_of_ble_eq_true rfl) rfl rfl rfl rfl (Nat.le_of_ble_eq_true rfl) (Nat.le_of_ble_eq_true rfl) (x_entryAt28 z _ n mm (r1 (mm u) t u v c j) t mk hn hmm (r1_le hcb j) htb hmk u v i j (by omega) (by omega) (by omega) (by omega) (by omega) hbt F A hW) (fun v57 F57 A57 hq57 => ?_)
              obtain ⟨rfl, rfl, _, rfl, rfl⟩ := hq57
              have hkb4 : t u v i j ≤ 1000000 := htb u v i j
              refine j_iaddN dX2_foldIntoOne_60 ?_
              refine j_min dX2_foldIntoOne_61 lkX2_59 mn_st mn_in mn_co (Nat.le_of_ble_eq_true rfl) ?_
              refine j_top (y0 := nI (min le (r1 (mm u) t u v c j u i + (t u v i j)))) (min_N' (by omega) (by omega)) ?_
              refine j_istore (lv' := [(0, .ref 5), (1, .int (nI u)), (2, .int (nI v)), (3, .int (nI j)), (4, .int (nI (min le (r1 (mm u) t u v c j u i + (t u v i j))))), (5, .int (nI i))]) dX2_foldIntoOne_64 (Nat.le_of_ble_eq_true rfl) rfl rfl ?_
              refine j_iinc (v := nI (i + 1)) (lv' := [(0, .ref 5), (1, .int (nI u)), (2, .int (nI v)), (3, .int (nI j)), (4, .int (nI (min le (r1 (mm u) t u v c j u i + (t u v i j))))), (5, .int (nI (i + 1)))]) dX2_foldIntoOne_66 rfl (nI_add _ 1) (Nat.le_of_ble_eq_true rfl) rfl rfl ?_
              refine j_goto (tgt := 22) dX2_foldIntoOne_69 (by decide) ?_
              exact ih22 (min le (r1 (mm u) t u v c j u i + (t u v i j))) (i + 1) (by first | exact h2 | omega) (by rw [hle]; exact mn_min (fun i => r1 (mm u) t u v c j u i + t u v i j) i) (by omega)
        refine j_ldc dX2_foldIntoOne_15 kcX2_95 ?_
        refine j_top (y0 := nI 1000000) (by decide +kernel) ?_
        refine j_istore (lv' := [(0, .ref 5), (1, .int (nI u)), (2, .int (nI v)), (3, .int (nI j)), (4, .int (nI 1000000))]) dX2_foldIntoOne_17 (Nat.le_of_ble_eq_true rfl) rfl rfl ?_
        refine j_iconst (v := nI 0) dX2_foldIntoOne_19 (by decide +kernel) ?_
        refine j_istore (lv' := [(0, .ref 5), (1, .int (nI u)), (2, .int (nI v)), (3, .int (nI j)), (4, .int (nI 1000000)), (5, .int (nI 0))]) dX2_foldIntoOne_20 (Nat.le_of_ble_eq_true rfl) rfl rfl ?_
        exact L22 _ 1000000 0 (Nat.zero_le _) rfl (Nat.lt_succ_self _)
  refine j_iconst (v := nI 0) dX2_foldIntoOne_0 (by decide +kernel) ?_
  refine j_istore_n (lv' := [(0, .ref 5), (1, .int (nI u)), (2, .int (nI v)), (3, .int (nI 0))]) dX2_foldIntoOne_1 (Nat.le_of_ble_eq_true rfl) rfl rfl ?_
  exact L2 _ 0 A0 (by first | exact hC | omega) (by first | exact hW | omega) (fun _ _ => rfl) (Nat.zero_le _) (Nat.lt_succ_self _)

set_option maxHeartbeats 400000 in
set_option maxRecDepth 100000 in
theorem x_foldIntoTwo (z : mj_B) (d : Nat) (T : Tg) (n : Nat) (mm : VF) (c : CF) (t : TF) (mk : VF) (hn : n ≤ 8) (hmm : ∀ u, u < n → 1 ≤ mm u ∧ mm u ≤ 4) (hcb : ∀ a b, c a b ≤ 1000000) (htb : ∀ a b i j, t a b i j ≤ 1000000) (hmk : ∀ u, mk u < 256) (u v w : Nat) (hu : u < n) (hv : v < n) (hw : w < n) (huv : u ≠ v) (huw : u ≠ w) (hvw : v ≠ w) (hbv : mk u / 2 ^ v % 2 = 1) (hbw : mk u / 2 ^ w % 2 = 1) (h0 : ¬ mk v / 2 ^ w % 2 = 1 → ∀ i j, t v w i j = 0) (hsy : ∀ a b i j, t a b i j = t b a j i) (F A0 : mj_S) (hW : WT F A0 28 n mm c t mk) (hC : CI T F A0) : J (gC z) mX2_foldIntoTwo (d + 3) 0 [(0, .ref 5), (1, .int (nI u)), (2, .int (nI v)), (3, .int (nI w))] [] F A0 (fun _v F' A' => _v = none ∧ F = F' ∧ CI T F A' ∧ (∃ mk', WT F A' 28 n mm c (r2 (mm u) (mm w) c u v w t (mm v * mm w)) mk' ∧ (∀ x, mk' x < 256) ∧ (mk' = jn mk v w ∨ (mk' = mk ∧ mk v / 2 ^ w % 2 = 1))) ∧ ∀ k, k ≠ 30 → k ≠ 32 → A' k = A0 k) := by
  have h4u := hmm u hu
  have h4v := hmm v hv
  have h4w := hmm w hw
  have L31 : ∀ (mk1 : VF) (A : mj_S), (CI T F A) → (WT F A 28 n mm c t mk1) → (∀ k, k ≠ 30 → k ≠ 32 → A k = A0 k) → (∀ x, mk1 x < 256) → (mk1 = jn mk v w ∨ (mk1 = mk ∧ mk v / 2 ^ w % 2 = 1)) → J (gC z) mX2_foldIntoTwo (d + 3) 31 [(0, .ref 5), (1, .int (nI u)), (2, .int (nI v)), (3, .int (nI w))] [] F A (fun _v F' A' => _v = none ∧ F = F' ∧ CI T F A' ∧ (∃ mk', WT F A' 28 n mm c (r2 (mm u) (mm w) c u v w t (mm v * mm w)) mk' ∧ (∀ x, mk' x < 256) ∧ (mk' = jn mk v w ∨ (mk' = mk ∧ mk v / 2 ^ w % 2 = 1))) ∧ ∀ k, k ≠ 30 → k ≠ 32 → A' k = A0 k) := by
    intro mk1 A hC hW hfr hmk1 hmq
    have hb1 : mk1 u / 2 ^ v % 2 = 1 := jn_mono2 hvw hmq _ _ hbv
    have hb2 : mk1 u / 2 ^ w % 2 = 1 := jn_mono2 hvw hmq _ _ hbw
    have hb3 : mk1 v / 2 ^ w % 2 = 1 := jn_vw hvw hmq
    have L34 : ∀ (fuel : Nat) (j : Nat) (A : mj_S), (CI T F A) → (WT F A 28 n mm c (r2 (mm u) (mm w) c u v w t (j * mm w)) mk1) → (∀ k, k ≠ 30 → k ≠ 32 → A k = A0 k) → (j ≤ mm v) → mm v - j < fuel → J (gC z) mX2_foldIntoTwo (d + 3) 34 [(0, .ref 5), (1, .int (nI u)), (2, .int (nI v)), (3, .int (nI w)), (4, .int (nI j))] [] F A (fun _v F' A' => _v = none ∧ F = F' ∧ CI T F A' ∧ (∃ mk', WT F A' 28 n mm c (r2 (mm u) (mm w) c u v w t (mm v * mm w)) mk' ∧ (∀ x, mk' x < 256) ∧ (mk' = jn mk v w ∨ (mk' = mk ∧ mk v / 2 ^ w % 2 = 1))) ∧ ∀ k, k ≠ 30 → k ≠ 32 → A' k = A0 k) := by
      intro fuel
      induction fuel with
      | zero => intro j A hC hW hfr h1 hf; exact absurd hf (by omega)
      | succ fuel ih34 =>
        intro j A hC hW hfr h1 hf
        refine j_iload dX2_foldIntoTwo_34 rfl ?_
        refine j_aload_n dX2_foldIntoTwo_36 rfl ?_
        refine j_getR (r := 28) dX2_foldIntoTwo_37 flX2_27 (Nat.le_of_ble_eq_true rfl) rfl rfl ?_
        refine j_getR (r := 29) dX2_foldIntoTwo_40 flX2_92 (Nat.le_of_ble_eq_true rfl) rfl rfl ?_
        refine j_iload_n dX2_foldIntoTwo_43 rfl ?_
        refine j_ialdN dX2_foldIntoTwo_44 (Nat.le_of_ble_eq_true rfl) rfl (by omega) (by decide) ?_
        have hch1 := hmm v (by omega)
        refine j_top (y0 := nI (mm v)) (hW.2.1 v (by omega)).1 ?_
        refine j_icmp_geN (tgt := 168) dX2_foldIntoTwo_45 (by decide) (by omega) (by omega) (fun c45 => ?_) (fun c45 => ?_)
        · exact j_vret dX2_foldIntoTwo_168 rfl ⟨rfl, rfl, hC, ⟨_, by rw [show mm v = j by omega]; exact hW, hmk1, hmq⟩, hfr⟩
        · have L51 : ∀ (fuel : Nat) (k : Nat) (A : mj_S), (CI T F A) → (WT F A 28 n mm c (r2 (mm u) (mm w) c u v w t (j * mm w + k)) mk1) → (∀ k, k ≠ 30 → k ≠ 32 → A k = A0 k) → (k ≤ mm w) → mm w - k < fuel → J (gC z) mX2_foldIntoTwo (d + 3) 51 [(0, .ref 5), (1, .int (nI u)), (2, .int (nI v)), (3, .int (nI w)), (4, .int (nI j)), (5, .int (nI k))] [] F A (fun _v F' A' => _v = none ∧ F = F' ∧ CI T F A' ∧ (∃ mk', WT F A' 28 n mm c (r2 (mm u) (mm w) c u v w t (mm v * mm w)) mk' ∧ (∀ x, mk' x < 256) ∧ (mk' = jn mk v w ∨ (mk' = mk ∧ mk v / 2 ^ w % 2 = 1))) ∧ ∀ k, k ≠ 30 → k ≠ 32 → A' k = A0 k) := by
            intro fuel
            induction fuel with
            | zero => intro k A hC hW hfr h2 hf; exact absurd hf (by omega)
            | succ fuel ih51 =>
              intro k A hC hW hfr h2 hf
              refine j_iload dX2_foldIntoTwo_51 rfl ?_
              refine j_aload_n dX2_foldIntoTwo_53 rfl ?_
              refine j_getR (r := 28) dX2_foldIntoTwo_54 flX2_27 (Nat.le_of_ble_eq_true rfl) rfl rfl ?_
              refine j_getR (r := 29) dX2_foldIntoTwo_57 flX2_92 (Nat.le_of_ble_eq_true rfl) rfl rfl ?_
              refine j_iload_n dX2_foldIntoTwo_60 rfl ?_
              refine j_ialdN dX2_foldIntoTwo_61 (Nat.le_of_ble_eq_true rfl) rfl (by omega) (by decide) ?_
              have hch2 := hmm w (by omega)
              refine j_top (y0 := nI (mm w)) (hW.2.1 w (by omega)).1 ?_
              refine j_icmp_geN (tgt := 162) dX2_foldIntoTwo_62 (by decide) (by omega) (by omega) (fun c62 => ?_) (fun c62 => ?_)
              · refine j_iinc (v := nI (j + 1)) (lv' := [(0, .ref 5), (1, .int (nI u)), (2, .int (nI v)), (3, .int (nI w)), (4, .int (nI (j + 1))), (5, .int (nI k))]) dX2_foldIntoTwo_162 rfl (nI_add _ 1) (Nat.le_of_ble_eq_true rfl) rfl rfl ?_
                refine j_goto (tgt := 34) dX2_foldIntoTwo_165 (by decide) ?_
                refine j_sub [0, 1, 2, 3, 4] rfl ?_
                exact ih34 (j + 1) A (by first | exact hC | omega) (by rw [Nat.add_mul, Nat.one_mul]; rw [show k = mm w by omega] at hW; exact hW) (by first | exact hfr | omega) (by first | exact h1 | omega) (by omega)
              · have L72 : ∀ (fuel : Nat) (le : Nat) (i : Nat), (i ≤ mm u) → (le = mn (fun i => c u i + r2 (mm u) (mm w) c u v w t (j * mm w + k) u v i j + r2 (mm u) (mm w) c u v w t (j * mm w + k) u w i k) i) → mm u - i < fuel → J (gC z) mX2_foldIntoTwo (d + 3) 72 [(0, .ref 5), (1, .int (nI u)), (2, .int (nI v)), (3, .int (nI w)), (4, .int (nI j)), (5, .int (nI k)), (6, .int (nI le)), (7, .int (nI i))] [] F A (fun _v F' A' => _v = none ∧ F = F' ∧ CI T F A' ∧ (∃ mk', WT F A' 28 n mm c (r2 (mm u) (mm w) c u v w t (mm v * mm w)) mk' ∧ (∀ x, mk' x < 256) ∧ (mk' = jn mk v w ∨ (mk' = mk ∧ mk v / 2 ^ w % 2 = 1))) ∧ ∀ k, k ≠ 30 → k ≠ 32 → A' k = A0 k) := by
                  intro fuel
                  induction fuel with
                  | zero => intro le i h3 hle hf; exact absurd hf (by omega)
                  | succ fuel ih72 =>
                    intro le i h3 hle hf
                    have hlb : le ≤ 1000000 := by rw [hle]; exact mn_le _ _
                    refine j_iload dX2_foldIntoTwo_72 rfl ?_
                    refine j_aload_n dX2_foldIntoTwo_74 rfl ?_
                    refine j_getR (r := 28) dX2_foldIntoTwo_75 flX2_27 (Nat.le_of_ble_eq_true rfl) rfl rfl ?_
                    refine j_getR (r := 29) dX2_foldIntoTwo_78 flX2_92 (Nat.le_of_ble_eq_true rfl) rfl rfl ?_
                    refine j_iload_n dX2_foldIntoTwo_81 rfl ?_
                    refine j_ialdN dX2_foldIntoTwo_82 (Nat.le_of_ble_eq_true rfl) rfl (by omega) (by decide) ?_
                    have hch3 := hmm u (by omega)
                    refine j_top (y0 := nI (mm u)) (hW.2.1 u (by omega)).1 ?_
                    refine j_icmp_geN (tgt := 141) dX2_foldIntoTwo_83 (by decide) (by omega) (by omega) (fun c83 => ?_) (fun c83 => ?_)
                    · refine j_aload_n dX2_foldIntoTwo_141 rfl ?_
                      refine j_getR (r := 28) dX2_foldIntoTwo_142 flX2_27 (Nat.le_of_ble_eq_true rfl) rfl rfl ?_
                      refine j_iload_n dX2_foldIntoTwo_145 rfl ?_
                      refine j_iload_n dX2_foldIntoTwo_146 rfl ?_
                      refine j_iload dX2_foldIntoTwo_147 rfl ?_
                      refine j_iload dX2_foldIntoTwo_149 rfl ?_
                      refine j_iload dX2_foldIntoTwo_151 rfl ?_
                      refine j_callV (y' := mX4_addEntry) (As := [.int (nI v), .int (nI w), .int (nI j), .int (nI k), .int (nI le)]) (st := []) dX2_foldIntoTwo_153 lkX2_116 okX4_addEntry imX4_addEntry seX4_addEntry (Nat.le_of_ble_eq_true rfl) rfl rfl rfl rfl (Nat.le_of_ble_eq_true rfl) (Nat.le_of_ble_eq_true rfl) (x_addEntry28 z _ T n mm c (r2 (mm u) (mm w) c u v w t (j * mm w + k)) mk1 hn hmm hcb (r2_le htb (j * mm w + k)) hmk1 v w j k (by omega) (by omega) (by omega) (by omega) (by omega) hb3 le (by omega) F A hW hC) (fun v153 F153 A153 hq153 => ?_)
                      obtain ⟨rfl, rfl, hC, hW, hk153⟩ := hq153
                      refine j_iinc (v := nI (k + 1)) (lv' := [(0, .ref 5), (1, .int (nI u)), (2, .int (nI v)), (3, .int (nI w)), (4, .int (nI j)), (5, .int (nI (k + 1))), (6, .int (nI le)), (7, .int (nI i))]) dX2_foldIntoTwo_156 rfl (nI_add _ 1) (Nat.le_of_ble_eq_true rfl) rfl rfl ?_
                      refine j_goto (tgt := 51) dX2_foldIntoTwo_159 (by decide) ?_
                      refine j_sub [0, 1, 2, 3, 4, 5] rfl ?_
                      exact ih51 (k + 1) A153 (by first | exact hC | omega) (by rw [hle, show i = mm u by omega] at hW; rw [← Nat.add_assoc, r2_s (by omega)]; exact hW) (fun k h1 h2 => (hk153 k h2).trans (hfr k h1 h2)) (by first | exact h2 | omega) (by omega)
                    · refine j_aload_n dX2_foldIntoTwo_86 rfl ?_
                      refine j_getR (r := 28) dX2_foldIntoTwo_87 flX2_27 (Nat.le_of_ble_eq_true rfl) rfl rfl ?_
                      refine j_iload_n dX2_foldIntoTwo_90 rfl ?_
                      refine j_iload_n dX2_foldIntoTwo_91 rfl ?_
                      refine j_iload dX2_foldIntoTwo_92 rfl ?_
                      refine j_iload dX2_foldIntoTwo_94 rfl ?_
                      refine j_callV (y' := mX4_entryAt) (As := [.int (nI u), .int (nI v), .int (nI i), .int (nI j)]) (st := []) dX2_foldIntoTwo_96 lkX2_99 okX4_entryAt imX4_entryAt seX4_entryAt (Nat.le_of_ble_eq_true rfl) rfl rfl rfl rfl (Nat.le_of_ble_eq_true rfl) (Nat.le_of_ble_eq_true rfl) (x_entryAt28 z _ n mm c (r2 (mm u) (mm w) c u v w t (j * mm w + k)) mk1 hn hmm hcb (r2_le htb (j * mm w + k)) hmk1 u v i j (by omega) (by omega) (by omega) (by omega) (by omega) hb1 F A hW) (fun v96 F96 A96 hq96 => ?_)
                      obtain ⟨rfl, rfl, _, rfl, rfl⟩ := hq96
                      have hkb4 : (r2 (mm u) (mm w) c u v w t (j * mm w + k)) u v i j ≤ 1000000 := r2_le htb (j * mm w + k) u v i j
                      refine j_aload_n dX2_foldIntoTwo_99 rfl ?_
                      refine j_getR (r := 28) dX2_foldIntoTwo_100 flX2_27 (Nat.le_of_ble_eq_true rfl) rfl rfl ?_
                      refine j_iload_n dX2_foldIntoTwo_103 rfl ?_
                      refine j_iload_n dX2_foldIntoTwo_104 rfl ?_
                      refine j_iload dX2_foldIntoTwo_105 rfl ?_
                      refine j_iload dX2_foldIntoTwo_107 rfl ?_
                      refine j_callV (y' := mX4_entryAt) (As := [.int (nI u), .int (nI w), .int (nI i), .int (nI k)]) (st := [.int (nI ((r2 (mm u) (mm w) c u v w t (j * mm w + k)) u v i j))]) dX2_foldIntoTwo_109 lkX2_99 okX4_entryAt imX4_entryAt seX4_entryAt (Nat.le_of_ble_eq_true rfl) rfl rfl rfl rfl (Nat.le_of_ble_eq_true rfl) (Nat.le_of_ble_eq_true rfl) (x_entryAt28 z _ n mm c (r2 (mm u) (mm w) c u v w t (j * mm w + k)) mk1 hn hmm hcb (r2_le htb (j * mm w + k)) hmk1 u w i k (by omega) (by omega) (by omega) (by omega) (by omega) hb2 F A hW) (fun v109 F109 A109 hq109 => ?_)
                      obtain ⟨rfl, rfl, _, rfl, rfl⟩ := hq109
                      have hkb5 : (r2 (mm u) (mm w) c u v w t (j * mm w + k)) u w i k ≤ 1000000 := r2_le htb (j * mm w + k) u w i k
                      refine j_iaddN dX2_foldIntoTwo_112 ?_
                      refine j_istore (lv' := [(0, .ref 5), (1, .int (nI u)), (2, .int (nI v)), (3, .int (nI w)), (4, .int (nI j)), (5, .int (nI k)), (6, .int (nI le)), (7, .int (nI i)), (8, .int (nI ((r2 (mm u) (mm w) c u v w t (j * mm w + k)) u v i j + ((r2 (mm u) (mm w) c u v w t (j * mm w + k)) u w i k))))]) dX2_foldIntoTwo_113 (Nat.le_of_ble_eq_true rfl) rfl rfl ?_
                      refine j_iload dX2_foldIntoTwo_115 rfl ?_
                      refine j_aload_n dX2_foldIntoTwo_117 rfl ?_
                      refine j_getR (r := 28) dX2_foldIntoTwo_118 flX2_27 (Nat.le_of_ble_eq_true rfl) rfl rfl ?_
                      refine j_iload_n dX2_foldIntoTwo_121 rfl ?_
                      refine j_iload dX2_foldIntoTwo_122 rfl ?_
                      refine j_callV (y' := mX4_costAt) (As := [.int (nI u), .int (nI i)]) (st := [.int (nI le)]) dX2_foldIntoTwo_124 lkX2_96 okX4_costAt imX4_costAt seX4_costAt (Nat.le_of_ble_eq_true rfl) rfl rfl rfl rfl (Nat.le_of_ble_eq_true rfl) (Nat.le_of_ble_eq_true rfl) (x_costAt28 z _ n mm c (r2 (mm u) (mm w) c u v w t (j * mm w + k)) mk1 hn hmm hcb (r2_le htb (j * mm w + k)) hmk1 u i (by omega) (by omega) F A hW) (fun v124 F124 A124 hq124 => ?_)
                      obtain ⟨rfl, rfl, _, rfl, rfl⟩ := hq124
                      have hkb6 : c u i ≤ 1000000 := hcb u i
                      refine j_iload dX2_foldIntoTwo_127 rfl ?_
                      refine j_iaddN dX2_foldIntoTwo_129 ?_
                      refine j_min dX2_foldIntoTwo_130 lkX2_59 mn_st mn_in mn_co (Nat.le_of_ble_eq_true rfl) ?_
                      refine j_top (y0 := nI (min le (c u i + ((r2 (mm u) (mm w) c u v w t (j * mm w + k)) u v i j + ((r2 (mm u) (mm w) c u v w t (j * mm w + k)) u w i k))))) (min_N' (by omega) (by omega)) ?_
                      refine j_istore (lv' := [(0, .ref 5), (1, .int (nI u)), (2, .int (nI v)), (3, .int (nI w)), (4, .int (nI j)), (5, .int (nI k)), (6, .int (nI (min le (c u i + ((r2 (mm u) (mm w) c u v w t (j * mm w + k)) u v i j + ((r2 (mm u) (mm w) c u v w t (j * mm w + k)) u w i k)))))), (7, .int (nI i)), (8, .int (nI ((r2 (mm u) (mm w) c u v w t (j * mm w + k)) u v i j + ((r2 (mm u) (mm w) c u v w t (j * mm w + k)) u w i k))))]) dX2_foldIntoTwo_133 (Nat.le_of_ble_eq_true rfl) rfl rfl ?_
                      refine j_iinc (v := nI (i + 1)) (lv' := [(0, .ref 5), (1, .int (nI u)), (2, .int (nI v)), (3, .int (nI w)), (4, .int (nI j)), (5, .int (nI k)), (6, .int (nI (min le (c u i + ((r2 (mm u) (mm w) c u v w t (j * mm w + k)) u v i j + ((r2 (mm u) (mm w) c u v w t (j * mm w + k)) u w i k)))))), (7, .int (nI (i + 1))), (8, .int (nI ((r2 (mm u) (mm w) c u v w t (j * mm w + k)) u v i j + ((r2 (mm u) (mm w) c u v w t (j * mm w + k)) u w i k))))]) dX2_foldIntoTwo_135 rfl (nI_add _ 1) (Nat.le_of_ble_eq_true rfl) rfl rfl ?_
                      refine j_goto (tgt := 72) dX2_foldIntoTwo_138 (by decide) ?_
                      refine j_sub [0, 1, 2, 3, 4, 5, 6, 7] rfl ?_
                      exact ih72 (min le (c u i + ((r2 (mm u) (mm w) c u v w t (j * mm w + k)) u v i j + ((r2 (mm u) (mm w) c u v w t (j * mm w + k)) u w i k)))) (i + 1) (by first | exact h3 | omega) (by rw [hle, ← Nat.add_assoc]; exact mn_min (fun i => c u i + r2 (mm u) (mm w) c u v w t (j * mm w + k) u v i j + r2 (mm u) (mm w) c u v w t (j * mm w + k) u w i k) i) (by omega)
                refine j_ldc dX2_foldIntoTwo_65 kcX2_95 ?_
                refine j_top (y0 := nI 1000000) (by decide +kernel) ?_
                refine j_istore (lv' := [(0, .ref 5), (1, .int (nI u)), (2, .int (nI v)), (3, .int (nI w)), (4, .int (nI j)), (5, .int (nI k)), (6, .int (nI 1000000))]) dX2_foldIntoTwo_67 (Nat.le_of_ble_eq_true rfl) rfl rfl ?_
                refine j_iconst (v := nI 0) dX2_foldIntoTwo_69 (by decide +kernel) ?_
                refine j_istore (lv' := [(0, .ref 5), (1, .int (nI u)), (2, .int (nI v)), (3, .int (nI w)), (4, .int (nI j)), (5, .int (nI k)), (6, .int (nI 1000000)), (7, .int (nI 0))]) dX2_foldIntoTwo_70 (Nat.le_of_ble_eq_true rfl) rfl rfl ?_
                exact L72 _ 1000000 0 (Nat.zero_le _) rfl (Nat.lt_succ_self _)
          refine j_iconst (v := nI 0) dX2_foldIntoTwo_48 (by decide +kernel) ?_
          refine j_istore (lv' := [(0, .ref 5), (1, .int (nI u)), (2, .int (nI v)), (3, .int (nI w)), (4, .int (nI j)), (5, .int (nI 0))]) dX2_foldIntoTwo_49 (Nat.le_of_ble_eq_true rfl) rfl rfl ?_
          exact L51 _ 0 A (by first | exact hC | omega) (by rw [Nat.add_zero]; exact hW) (by first | exact hfr | omega) (Nat.zero_le _) (Nat.lt_succ_self _)
    refine j_iconst (v := nI 0) dX2_foldIntoTwo_31 (by decide +kernel) ?_
    refine j_istore (lv' := [(0, .ref 5), (1, .int (nI u)), (2, .int (nI v)), (3, .int (nI w)), (4, .int (nI 0))]) dX2_foldIntoTwo_32 (Nat.le_of_ble_eq_true rfl) rfl rfl ?_
    exact L34 _ 0 A (by first | exact hC | omega) (by rw [Nat.zero_mul]; exact hW) (by first | exact hfr | omega) (Nat.zero_le _) (Nat.lt_succ_self _)
  refine j_aload_n dX2_foldIntoTwo_0 rfl ?_
  refine j_getR (r := 28) dX2_foldIntoTwo_1 flX2_27 (Nat.le_of_ble_eq_true rfl) rfl rfl ?_
  refine j_iload_n dX2_foldIntoTwo_4 rfl ?_
  refine j_iload_n dX2_foldIntoTwo_5 rfl ?_
  refine j_callV (y' := mX4_areTied) (As := [.int (nI v), .int (nI w)]) (st := []) dX2_foldIntoTwo_6 lkX2_106 okX4_areTied imX4_areTied seX4_areTied (Nat.le_of_ble_eq_true rfl) rfl rfl rfl rfl (Nat.le_of_ble_eq_true rfl) (Nat.le_of_ble_eq_true rfl) (x_areTied28 z _ n mm c t mk hn hmm hcb htb hmk v w (by omega) (by omega) F A0 hW) (fun v6 F6 A6 hq6 => ?_)
  obtain ⟨rfl, rfl, r6, rfl, hr6⟩ := hq6
  have hb6 : r6 ≤ 1 := by omega
  refine j_if_neN (tgt := 31) dX2_foldIntoTwo_9 (by decide) (by omega) (fun c9 => ?_) (fun c9 => ?_)
  · have hb3 : mk v / 2 ^ w % 2 = 1 := (hr6.resolve_right (fun h => by omega)).2
    exact L31 mk A0 (by first | exact hC | omega) (by first | exact hW | omega) (fun _ _ _ => rfl) hmk (Or.inr ⟨rfl, hb3⟩)
  · have hnb : ¬ mk v / 2 ^ w % 2 = 1 := (hr6.resolve_left (fun h => by omega)).2
    refine j_aload_n dX2_foldIntoTwo_12 rfl ?_
    refine j_getR (r := 28) dX2_foldIntoTwo_13 flX2_27 (Nat.le_of_ble_eq_true rfl) rfl rfl ?_
    refine j_getR (r := 30) dX2_foldIntoTwo_16 flX2_82 (Nat.le_of_ble_eq_true rfl) rfl rfl ?_
    refine j_aload_n dX2_foldIntoTwo_19 rfl ?_
    refine j_getR (r := 28) dX2_foldIntoTwo_20 flX2_27 (Nat.le_of_ble_eq_true rfl) rfl rfl ?_
    refine j_getR (r := 32) dX2_foldIntoTwo_23 flX2_109 (Nat.le_of_ble_eq_true rfl) rfl rfl ?_
    refine j_iload_n dX2_foldIntoTwo_26 rfl ?_
    refine j_iload_n dX2_foldIntoTwo_27 rfl ?_
    refine j_callSN (y' := mX5_joinByNoughts) (As := [.ref 30, .ref 32, .int (nI v), .int (nI w)]) (st := []) dX2_foldIntoTwo_28 lnX2_112 okX5_joinByNoughts stX5_joinByNoughts rfl (Nat.le_of_ble_eq_true rfl) (Nat.le_of_ble_eq_true rfl) (c_joinByNoughts z _ 30 32 v w (by omega) (by omega) hvw (Nat.le_of_ble_eq_true rfl) rfl (Nat.le_of_ble_eq_true rfl) rfl (by decide) F A0) (fun v28 F28 A28 hq28 => ?_)
    obtain ⟨rfl, rfl, hj2, hj4, hjf⟩ := hq28
    have hC := hC.ab (a := 30) (b := 32) rfl rfl hjf
    have hW := hW.join hn hmm hmk hvw hv hw (h0 hnb) hsy hj2 hj4 hjf
    exact L31 (jn mk v w) A28 (by first | exact hC | omega) (by first | exact hW | omega) (fun k h1 h2 => hjf k h1 h2) (jn_lt hmk (by omega) (by omega)) (Or.inl rfl)

set_option maxHeartbeats 400000 in
set_option maxRecDepth 100000 in
theorem x_outlook (z : mj_B) (d : Nat) (n : Nat) (mm : VF) (c : CF) (t : TF) (mk : VF) (hn : n ≤ 8) (hmm : ∀ u, u < n → 1 ≤ mm u ∧ mm u ≤ 4) (hcb : ∀ a b, c a b ≤ 1000000) (htb : ∀ a b i j, t a b i j ≤ 1000000) (hmk : ∀ u, mk u < 256) (u i s : Nat) (hu : u < n) (hi : i < mm u) (hs : s < 256) (hsb : ∀ v, s / 2 ^ v % 2 = 1 → v < n ∧ u ≠ v ∧ mk u / 2 ^ v % 2 = 1) (F A : mj_S) (hW : WT F A 28 n mm c t mk) : J (gC z) mX2_outlook (d + 2) 0 [(0, .ref 5), (1, .int (nI u)), (2, .int (nI i)), (3, .int (nI s))] [] F A (qN F A fun r => r = ol mm c t s u i n) := by
  have h4u := hmm u hu
  have L14 : ∀ (fuel : Nat) (su : Nat) (v : Nat), (v ≤ n) → (su = ol mm c t s u i v) → n - v < fuel → J (gC z) mX2_outlook (d + 2) 14 [(0, .ref 5), (1, .int (nI u)), (2, .int (nI i)), (3, .int (nI s)), (4, .int (nI su)), (5, .int (nI v))] [] F A (qN F A fun r => r = ol mm c t s u i n) := by
    intro fuel
    induction fuel with
    | zero => intro su v h1 hsu hf; exact absurd hf (by omega)
    | succ fuel ih14 =>
      intro su v h1 hsu hf
      have hsl : su ≤ 1000000 := by rw [hsu]; exact ol_le hcb _
      refine j_iload dX2_outlook_14 rfl ?_
      refine j_aload_n dX2_outlook_16 rfl ?_
      refine j_getR (r := 28) dX2_outlook_17 flX2_27 (Nat.le_of_ble_eq_true rfl) rfl rfl ?_
      refine j_getI dX2_outlook_20 flX2_39 (Nat.le_of_ble_eq_true rfl) rfl rfl ?_
      refine j_top (y0 := nI n) hW.1 ?_
      refine j_icmp_geN (tgt := 60) dX2_outlook_23 (by decide) (by omega) (by omega) (fun c23 => ?_) (fun c23 => ?_)
      · refine j_iload dX2_outlook_60 rfl ?_
        exact j_iret dX2_outlook_62 rfl rfl ⟨rfl, rfl, _, rfl, by rw [hsu, show v = n by omega]⟩
      · refine j_iload_n dX2_outlook_26 rfl ?_
        refine j_iload dX2_outlook_27 rfl ?_
        refine j_callSN (y' := mX5_hasBit) (As := [.int (nI s), .int (nI v)]) (st := []) dX2_outlook_29 lnX2_85 okX5_hasBit stX5_hasBit rfl (Nat.le_of_ble_eq_true rfl) (Nat.le_of_ble_eq_true rfl) (c_hasBitN z _ s v (by omega) (by omega) F A) (fun v29 F29 A29 hq29 => ?_)
        obtain ⟨rfl, rfl, r29, rfl, hr29⟩ := hq29
        have hb29 : r29 ≤ 1 := by omega
        refine j_if_eqN (tgt := 54) dX2_outlook_32 (by decide) (by omega) (fun c32 => ?_) (fun c32 => ?_)
        · have hbn : ¬ s / 2 ^ v % 2 = 1 := by omega
          refine j_iinc (v := nI (v + 1)) (lv' := [(0, .ref 5), (1, .int (nI u)), (2, .int (nI i)), (3, .int (nI s)), (4, .int (nI su)), (5, .int (nI (v + 1)))]) dX2_outlook_54 rfl (nI_add _ 1) (Nat.le_of_ble_eq_true rfl) rfl rfl ?_
          refine j_goto (tgt := 14) dX2_outlook_57 (by decide) ?_
          exact ih14 su (v + 1) (by first | exact h1 | omega) (by first | rw [ol_t hbs, ← hsu] | (rw [ol_f hbn]; exact hsu)) (by omega)
        · have hbs : s / 2 ^ v % 2 = 1 := by omega
          obtain ⟨hv, huv, hbt⟩ := hsb v hbs
          refine j_iload dX2_outlook_35 rfl ?_
          refine j_aload_n dX2_outlook_37 rfl ?_
          refine j_getR (r := 28) dX2_outlook_38 flX2_27 (Nat.le_of_ble_eq_true rfl) rfl rfl ?_
          refine j_iload_n dX2_outlook_41 rfl ?_
          refine j_iload_n dX2_outlook_42 rfl ?_
          refine j_iload dX2_outlook_43 rfl ?_
          refine j_callV (y' := mX4_leastAcross) (As := [.int (nI u), .int (nI i), .int (nI v)]) (st := [.int (nI su)]) dX2_outlook_45 lkX2_124 okX4_leastAcross imX4_leastAcross seX4_leastAcross (Nat.le_of_ble_eq_true rfl) rfl rfl rfl rfl (Nat.le_of_ble_eq_true rfl) (Nat.le_of_ble_eq_true rfl) (x_leastAcross28 z _ n mm c t mk hn hmm hcb htb hmk u i v (by omega) (by omega) (by omega) (by omega) hbt F A hW) (fun v45 F45 A45 hq45 => ?_)
          obtain ⟨rfl, rfl, _, rfl, rfl⟩ := hq45
          have hkb1 : mn (fun j => c v j + t u v i j) (mm v) ≤ 1000000 := mn_le _ _
          refine j_iaddN dX2_outlook_48 ?_
          refine j_callSN (y' := mX5_capped) (As := [.int (nI (su + (mn (fun j => c v j + t u v i j) (mm v))))]) (st := []) dX2_outlook_49 lnX2_127 okX5_capped stX5_capped rfl (Nat.le_of_ble_eq_true rfl) (Nat.le_of_ble_eq_true rfl) (c_cappedN z _ (su + (mn (fun j => c v j + t u v i j) (mm v))) (by omega) F A) (fun v49 F49 A49 hq49 => ?_)
          obtain ⟨rfl, rfl, _, rfl, rfl⟩ := hq49
          have hcp2 := cap_le (su + (mn (fun j => c v j + t u v i j) (mm v)))
          refine j_istore (lv' := [(0, .ref 5), (1, .int (nI u)), (2, .int (nI i)), (3, .int (nI s)), (4, .int (nI (cap (su + (mn (fun j => c v j + t u v i j) (mm v)))))), (5, .int (nI v))]) dX2_outlook_52 (Nat.le_of_ble_eq_true rfl) rfl rfl ?_
          refine j_iinc (v := nI (v + 1)) (lv' := [(0, .ref 5), (1, .int (nI u)), (2, .int (nI i)), (3, .int (nI s)), (4, .int (nI (cap (su + (mn (fun j => c v j + t u v i j) (mm v)))))), (5, .int (nI (v + 1)))]) dX2_outlook_54 rfl (nI_add _ 1) (Nat.le_of_ble_eq_true rfl) rfl rfl ?_
          refine j_goto (tgt := 14) dX2_outlook_57 (by decide) ?_
          exact ih14 (cap (su + (mn (fun j => c v j + t u v i j) (mm v)))) (v + 1) (by first | exact h1 | omega) (by first | rw [ol_t hbs, ← hsu] | (rw [ol_f hbn]; exact hsu)) (by omega)
  refine j_aload_n dX2_outlook_0 rfl ?_
  refine j_getR (r := 28) dX2_outlook_1 flX2_27 (Nat.le_of_ble_eq_true rfl) rfl rfl ?_
  refine j_iload_n dX2_outlook_4 rfl ?_
  refine j_iload_n dX2_outlook_5 rfl ?_
  refine j_callV (y' := mX4_costAt) (As := [.int (nI u), .int (nI i)]) (st := []) dX2_outlook_6 lkX2_96 okX4_costAt imX4_costAt seX4_costAt (Nat.le_of_ble_eq_true rfl) rfl rfl rfl rfl (Nat.le_of_ble_eq_true rfl) (Nat.le_of_ble_eq_true rfl) (x_costAt28 z _ n mm c t mk hn hmm hcb htb hmk u i (by omega) (by omega) F A hW) (fun v6 F6 A6 hq6 => ?_)
  obtain ⟨rfl, rfl, _, rfl, rfl⟩ := hq6
  have hkb3 : c u i ≤ 1000000 := hcb u i
  refine j_istore (lv' := [(0, .ref 5), (1, .int (nI u)), (2, .int (nI i)), (3, .int (nI s)), (4, .int (nI (c u i)))]) dX2_outlook_9 (Nat.le_of_ble_eq_true rfl) rfl rfl ?_
  refine j_iconst (v := nI 0) dX2_outlook_11 (by decide +kernel) ?_
  refine j_istore (lv' := [(0, .ref 5), (1, .int (nI u)), (2, .int (nI i)), (3, .int (nI s)), (4, .int (nI (c u i))), (5, .int (nI 0))]) dX2_outlook_12 (Nat.le_of_ble_eq_true rfl) rfl rfl ?_
  exact L14 _ (c u i) 0 (Nat.zero_le _) rfl (Nat.lt_succ_self _)

set_option maxHeartbeats 400000 in
set_option maxRecDepth 100000 in
theorem x_guess (z : mj_B) (d : Nat) (T : Tg) (n : Nat) (mm : VF) (c : CF) (t : TF) (mk : VF) (hn : n ≤ 8) (hmm : ∀ u, u < n → 1 ≤ mm u ∧ mm u ≤ 4) (hcb : ∀ a b, c a b ≤ 1000000) (htb : ∀ a b i j, t a b i j ≤ 1000000) (hmk : ∀ u, mk u < 256) (u s : Nat) (hu : u < n) (hs : s < 256) (hsb : ∀ v, s / 2 ^ v % 2 = 1 → v < n ∧ u ≠ v ∧ mk u / 2 ^ v % 2 = 1) (F A0 : mj_S) (hW : WT F A0 28 n mm c t mk) (hC : CI T F A0) : J (gC z) mX2_guess (d + 3) 0 [(0, .ref 5), (1, .int (nI u)), (2, .int (nI s))] [] F A0 (fun _v F' A' => _v = none ∧ mj_u F 5 3 (nI 1) = F' ∧ CI T F' A' ∧ WT F' A' 28 n mm (r3 mm t s u (b3 n mm c t s u) c n) t mk ∧ A' 8 = upd (A0 8) u (nI (b3 n mm c t s u)) ∧ ∀ k, k ≠ 8 → k ≠ 31 → A' k = A0 k) := by
  have h4u := hmm u hu
  refine j_aload_n dX2_guess_0 rfl ?_
  refine j_iconst (v := nI 1) dX2_guess_1 (by decide +kernel) ?_
  refine j_put dX2_guess_2 fpX2_35 (Nat.le_of_ble_eq_true rfl) rfl rfl (by decide +kernel) rfl ?_
  have hC := hC.f (k := 5) (s := 3) rfl (nI 1)
  obtain ⟨F1, hF1⟩ : ∃ F1, F1 = mj_u F 5 3 (nI 1) := ⟨_, rfl⟩
  rw [← hF1] at hC
  refine j_F hF1.symm ?_
  have hW : WT F1 A0 28 n mm c t mk := hW.off (by rw [hF1]; rfl) (fun _ _ _ => rfl)
  have L19 : ∀ (fuel : Nat) (ch : Nat) (le : Nat) (i : Nat), (1 ≤ i ∧ i ≤ mm u) → (ch = (fm (fun i => ol mm c t s u i n) i).1) → (le = (fm (fun i => ol mm c t s u i n) i).2) → mm u - i < fuel → J (gC z) mX2_guess (d + 3) 19 [(0, .ref 5), (1, .int (nI u)), (2, .int (nI s)), (3, .int (nI ch)), (4, .int (nI le)), (5, .int (nI i))] [] F1 A0 (fun _v F' A' => _v = none ∧ mj_u F 5 3 (nI 1) = F' ∧ CI T F' A' ∧ WT F' A' 28 n mm (r3 mm t s u (b3 n mm c t s u) c n) t mk ∧ A' 8 = upd (A0 8) u (nI (b3 n mm c t s u)) ∧ ∀ k, k ≠ 8 → k ≠ 31 → A' k = A0 k) := by
    intro fuel
    induction fuel with
    | zero => intro ch le i h1 hb hl hf; exact absurd hf (by omega)
    | succ fuel ih19 =>
      intro ch le i h1 hb hl hf
      have hll : le ≤ 1000001 := by rw [hl]; exact fm_le _ _
      refine j_iload dX2_guess_19 rfl ?_
      refine j_aload_n dX2_guess_21 rfl ?_
      refine j_getR (r := 28) dX2_guess_22 flX2_27 (Nat.le_of_ble_eq_true rfl) rfl rfl ?_
      refine j_getR (r := 29) dX2_guess_25 flX2_92 (Nat.le_of_ble_eq_true rfl) rfl rfl ?_
      refine j_iload_n dX2_guess_28 rfl ?_
      refine j_ialdN dX2_guess_29 (Nat.le_of_ble_eq_true rfl) rfl (by omega) (by decide) ?_
      have hch1 := hmm u (by omega)
      refine j_top (y0 := nI (mm u)) (hW.2.1 u (by omega)).1 ?_
      refine j_icmp_geN (tgt := 63) dX2_guess_30 (by decide) (by omega) (by omega) (fun c30 => ?_) (fun c30 => ?_)
      · have hb3 : ch = b3 n mm c t s u := by rw [hb, show i = mm u by omega]; rfl
        have hbl : ch < mm u := by rw [hb3]; exact b3_lt hcb (by omega)
        refine j_aload_n dX2_guess_63 rfl ?_
        refine j_getR (r := 8) dX2_guess_64 flX2_18 (Nat.le_of_ble_eq_true rfl) rfl rfl ?_
        refine j_iload_n dX2_guess_67 rfl ?_
        refine j_iload_n dX2_guess_68 rfl ?_
        refine j_iastN dX2_guess_69 (Nat.le_of_ble_eq_true rfl) rfl (by omega) (by decide) ?_
        have hC := hC.tk u (t := ch) (by omega)
        have L73 : ∀ (fuel : Nat) (v : Nat) (A : mj_S), (CI T F1 A) → (WT F1 A 28 n mm (r3 mm t s u ch c v) t mk) → (A 8 = upd (A0 8) u (nI ch)) → (∀ k, k ≠ 8 → k ≠ 31 → A k = A0 k) → (v ≤ n) → n - v < fuel → J (gC z) mX2_guess (d + 3) 73 [(0, .ref 5), (1, .int (nI u)), (2, .int (nI s)), (3, .int (nI ch)), (5, .int (nI v))] [] F1 A (fun _v F' A' => _v = none ∧ mj_u F 5 3 (nI 1) = F' ∧ CI T F' A' ∧ WT F' A' 28 n mm (r3 mm t s u (b3 n mm c t s u) c n) t mk ∧ A' 8 = upd (A0 8) u (nI (b3 n mm c t s u)) ∧ ∀ k, k ≠ 8 → k ≠ 31 → A' k = A0 k) := by
          intro fuel
          induction fuel with
          | zero => intro v A hC hW h8 hfr h2 hf; exact absurd hf (by omega)
          | succ fuel ih73 =>
            intro v A hC hW h8 hfr h2 hf
            refine j_iload dX2_guess_73 rfl ?_
            refine j_aload_n dX2_guess_75 rfl ?_
            refine j_getR (r := 28) dX2_guess_76 flX2_27 (Nat.le_of_ble_eq_true rfl) rfl rfl ?_
            refine j_getI dX2_guess_79 flX2_39 (Nat.le_of_ble_eq_true rfl) rfl rfl ?_
            refine j_top (y0 := nI n) hW.1 ?_
            refine j_icmp_geN (tgt := 148) dX2_guess_82 (by decide) (by omega) (by omega) (fun c82 => ?_) (fun c82 => ?_)
            · exact j_vret dX2_guess_148 rfl ⟨rfl, hF1.symm, hC, by rw [show r3 mm t s u (b3 n mm c t s u) c n = r3 mm t s u ch c v by rw [← hb3, show n = v by omega]]; exact hW, by rw [← hb3]; exact h8, hfr⟩
            · refine j_iload_n dX2_guess_85 rfl ?_
              refine j_iload dX2_guess_86 rfl ?_
              refine j_callSN (y' := mX5_hasBit) (As := [.int (nI s), .int (nI v)]) (st := []) dX2_guess_88 lnX2_85 okX5_hasBit stX5_hasBit rfl (Nat.le_of_ble_eq_true rfl) (Nat.le_of_ble_eq_true rfl) (c_hasBitN z _ s v (by omega) (by omega) F1 A) (fun v88 F88 A88 hq88 => ?_)
              obtain ⟨rfl, rfl, r88, rfl, hr88⟩ := hq88
              have hb88 : r88 ≤ 1 := by omega
              refine j_if_eqN (tgt := 142) dX2_guess_91 (by decide) (by omega) (fun c91 => ?_) (fun c91 => ?_)
              · have hbn : ¬ s / 2 ^ v % 2 = 1 := by omega
                refine j_iinc (v := nI (v + 1)) (lv' := [(0, .ref 5), (1, .int (nI u)), (2, .int (nI s)), (3, .int (nI ch)), (5, .int (nI (v + 1)))]) dX2_guess_142 rfl (nI_add _ 1) (Nat.le_of_ble_eq_true rfl) rfl rfl ?_
                refine j_goto (tgt := 73) dX2_guess_145 (by decide) ?_
                exact ih73 (v + 1) A (by first | exact hC | omega) (by first | (rw [r3_t hbs, show mm v = j by omega]; exact hW) | (rw [r3_f hbn]; exact hW)) (by first | exact h8 | omega) (by first | exact hfr | omega) (by first | exact h2 | omega) (by omega)
              · have hbs : s / 2 ^ v % 2 = 1 := by omega
                obtain ⟨hv, huv, hbt⟩ := hsb v hbs
                have h4v := hmm v hv
                have L97 : ∀ (fuel : Nat) (j : Nat) (A : mj_S), (CI T F1 A) → (WT F1 A 28 n mm (r3i t u ch v (r3 mm t s u ch c v) j) t mk) → (A 8 = upd (A0 8) u (nI ch)) → (∀ k, k ≠ 8 → k ≠ 31 → A k = A0 k) → (j ≤ mm v) → mm v - j < fuel → J (gC z) mX2_guess (d + 3) 97 [(0, .ref 5), (1, .int (nI u)), (2, .int (nI s)), (3, .int (nI ch)), (5, .int (nI v)), (6, .int (nI j))] [] F1 A (fun _v F' A' => _v = none ∧ mj_u F 5 3 (nI 1) = F' ∧ CI T F' A' ∧ WT F' A' 28 n mm (r3 mm t s u (b3 n mm c t s u) c n) t mk ∧ A' 8 = upd (A0 8) u (nI (b3 n mm c t s u)) ∧ ∀ k, k ≠ 8 → k ≠ 31 → A' k = A0 k) := by
                  intro fuel
                  induction fuel with
                  | zero => intro j A hC hW h8 hfr h3 hf; exact absurd hf (by omega)
                  | succ fuel ih97 =>
                    intro j A hC hW h8 hfr h3 hf
                    refine j_iload dX2_guess_97 rfl ?_
                    refine j_aload_n dX2_guess_99 rfl ?_
                    refine j_getR (r := 28) dX2_guess_100 flX2_27 (Nat.le_of_ble_eq_true rfl) rfl rfl ?_
                    refine j_getR (r := 29) dX2_guess_103 flX2_92 (Nat.le_of_ble_eq_true rfl) rfl rfl ?_
                    refine j_iload dX2_guess_106 rfl ?_
                    refine j_ialdN dX2_guess_108 (Nat.le_of_ble_eq_true rfl) rfl (by omega) (by decide) ?_
                    have hch2 := hmm v (by omega)
                    refine j_top (y0 := nI (mm v)) (hW.2.1 v (by omega)).1 ?_
                    refine j_icmp_geN (tgt := 142) dX2_guess_109 (by decide) (by omega) (by omega) (fun c109 => ?_) (fun c109 => ?_)
                    · refine j_iinc (v := nI (v + 1)) (lv' := [(0, .ref 5), (1, .int (nI u)), (2, .int (nI s)), (3, .int (nI ch)), (5, .int (nI (v + 1))), (6, .int (nI j))]) dX2_guess_142 rfl (nI_add _ 1) (Nat.le_of_ble_eq_true rfl) rfl rfl ?_
                      refine j_goto (tgt := 73) dX2_guess_145 (by decide) ?_
                      refine j_sub [0, 1, 2, 3, 4] rfl ?_
                      exact ih73 (v + 1) A (by first | exact hC | omega) (by first | (rw [r3_t hbs, show mm v = j by omega]; exact hW) | (rw [r3_f hbn]; exact hW)) (by first | exact h8 | omega) (by first | exact hfr | omega) (by first | exact h2 | omega) (by omega)
                    · refine j_aload_n dX2_guess_112 rfl ?_
                      refine j_getR (r := 28) dX2_guess_113 flX2_27 (Nat.le_of_ble_eq_true rfl) rfl rfl ?_
                      refine j_iload dX2_guess_116 rfl ?_
                      refine j_iload dX2_guess_118 rfl ?_
                      refine j_aload_n dX2_guess_120 rfl ?_
                      refine j_getR (r := 28) dX2_guess_121 flX2_27 (Nat.le_of_ble_eq_true rfl) rfl rfl ?_
                      refine j_iload_n dX2_guess_124 rfl ?_
                      refine j_iload dX2_guess_125 rfl ?_
                      refine j_iload_n dX2_guess_127 rfl ?_
                      refine j_iload dX2_guess_128 rfl ?_
                      refine j_callV (y' := mX4_entryAt) (As := [.int (nI u), .int (nI v), .int (nI ch), .int (nI j)]) (st := [.int (nI j), .int (nI v), .ref 28]) dX2_guess_130 lkX2_99 okX4_entryAt imX4_entryAt seX4_entryAt (Nat.le_of_ble_eq_true rfl) rfl rfl rfl rfl (Nat.le_of_ble_eq_true rfl) (Nat.le_of_ble_eq_true rfl) (x_entryAt28 z _ n mm (r3i t u ch v (r3 mm t s u ch c v) j) t mk hn hmm (r3i_le (r3_le hcb v) j) htb hmk u v ch j (by omega) (by omega) (by omega) (by omega) (by omega) hbt F1 A hW) (fun v130 F130 A130 hq130 => ?_)
                      obtain ⟨rfl, rfl, _, rfl, rfl⟩ := hq130
                      have hkb3 : t u v ch j ≤ 1000000 := htb u v ch j
                      refine j_callV (y' := mX4_addCost) (As := [.int (nI v), .int (nI j), .int (nI (t u v ch j))]) (st := []) dX2_guess_133 lkX2_103 okX4_addCost imX4_addCost seX4_addCost (Nat.le_of_ble_eq_true rfl) rfl rfl rfl rfl (Nat.le_of_ble_eq_true rfl) (Nat.le_of_ble_eq_true rfl) (x_addCost28 z _ T n mm (r3i t u ch v (r3 mm t s u ch c v) j) t mk hn hmm (r3i_le (r3_le hcb v) j) htb hmk v j (by omega) (by omega) (t u v ch j) (by omega) F1 A hW hC) (fun v133 F133 A133 hq133 => ?_)
                      obtain ⟨rfl, rfl, hC, hW, hk133⟩ := hq133
                      refine j_iinc (v := nI (j + 1)) (lv' := [(0, .ref 5), (1, .int (nI u)), (2, .int (nI s)), (3, .int (nI ch)), (5, .int (nI v)), (6, .int (nI (j + 1)))]) dX2_guess_136 rfl (nI_add _ 1) (Nat.le_of_ble_eq_true rfl) rfl rfl ?_
                      refine j_goto (tgt := 97) dX2_guess_139 (by decide) ?_
                      exact ih97 (j + 1) A133 (by first | exact hC | omega) hW ((hk133 8 (by decide)).trans h8) (fun k h1 h2 => (hk133 k h2).trans (hfr k h1 h2)) (by first | exact h3 | omega) (by omega)
                refine j_iconst (v := nI 0) dX2_guess_94 (by decide +kernel) ?_
                refine j_istore (lv' := [(0, .ref 5), (1, .int (nI u)), (2, .int (nI s)), (3, .int (nI ch)), (5, .int (nI v)), (6, .int (nI 0))]) dX2_guess_95 (Nat.le_of_ble_eq_true rfl) rfl rfl ?_
                exact L97 _ 0 A (by first | exact hC | omega) (by first | exact hW | omega) (by first | exact h8 | omega) (by first | exact hfr | omega) (Nat.zero_le _) (Nat.lt_succ_self _)
        refine j_iconst (v := nI 0) dX2_guess_70 (by decide +kernel) ?_
        refine j_istore (lv' := [(0, .ref 5), (1, .int (nI u)), (2, .int (nI s)), (3, .int (nI ch)), (4, .int (nI le)), (5, .int (nI 0))]) dX2_guess_71 (Nat.le_of_ble_eq_true rfl) rfl rfl ?_
        refine j_sub [0, 1, 2, 3, 5] rfl ?_
        exact L73 _ 0 (mj_u A0 8 u (nI ch)) (by first | exact hC | omega) (hW.off rfl (fun i h1 h2 => mj_u_ne _ _ (by omega))) (mj_u_at _ _ _ _) (fun k h1 h2 => mj_u_ne _ _ h1) (Nat.zero_le _) (Nat.lt_succ_self _)
      · refine j_aload_n dX2_guess_33 rfl ?_
        refine j_iload_n dX2_guess_34 rfl ?_
        refine j_iload dX2_guess_35 rfl ?_
        refine j_iload_n dX2_guess_37 rfl ?_
        refine j_callV (y' := mX2_outlook) (As := [.int (nI u), .int (nI i), .int (nI s)]) (st := []) dX2_guess_38 lkX2_120 okX2_outlook imX2_outlook seX2_outlook (Nat.le_of_ble_eq_true rfl) rfl rfl rfl rfl (Nat.le_of_ble_eq_true rfl) (Nat.le_of_ble_eq_true rfl) (x_outlook z _ n mm c t mk hn hmm hcb htb hmk u i s hu (by omega) hs hsb F1 A0 hW) (fun v38 F38 A38 hq38 => ?_)
        obtain ⟨rfl, rfl, _, rfl, rfl⟩ := hq38
        have hol38 : ol mm c t s u i n ≤ 1000000 := ol_le hcb n
        refine j_istore (lv' := [(0, .ref 5), (1, .int (nI u)), (2, .int (nI s)), (3, .int (nI ch)), (4, .int (nI le)), (5, .int (nI i)), (6, .int (nI (ol mm c t s u i n)))]) dX2_guess_41 (Nat.le_of_ble_eq_true rfl) rfl rfl ?_
        refine j_iload dX2_guess_43 rfl ?_
        refine j_iload dX2_guess_45 rfl ?_
        refine j_icmp_geN (tgt := 57) dX2_guess_47 (by decide) (by omega) (by omega) (fun c47 => ?_) (fun c47 => ?_)
        · have hfm := fm_f (f := (fun i => ol mm c t s u i n)) (k := i) (by rw [← hl]; show ¬ ol mm c t s u i n < le; omega)
          refine j_iinc (v := nI (i + 1)) (lv' := [(0, .ref 5), (1, .int (nI u)), (2, .int (nI s)), (3, .int (nI ch)), (4, .int (nI le)), (5, .int (nI (i + 1))), (6, .int (nI (ol mm c t s u i n)))]) dX2_guess_57 rfl (nI_add _ 1) (Nat.le_of_ble_eq_true rfl) rfl rfl ?_
          refine j_goto (tgt := 19) dX2_guess_60 (by decide) ?_
          refine j_sub [0, 1, 2, 3, 4, 5] rfl ?_
          exact ih19 ch le (i + 1) (by first | exact h1 | omega) (by rw [hfm]; first | done | exact hb) (by rw [hfm]; first | done | exact hl) (by omega)
        · have hfm := fm_t (f := (fun i => ol mm c t s u i n)) (k := i) (by rw [← hl]; show ol mm c t s u i n < le; omega)
          refine j_iload dX2_guess_50 rfl ?_
          refine j_istore (lv' := [(0, .ref 5), (1, .int (nI u)), (2, .int (nI s)), (3, .int (nI ch)), (4, .int (nI (ol mm c t s u i n))), (5, .int (nI i)), (6, .int (nI (ol mm c t s u i n)))]) dX2_guess_52 (Nat.le_of_ble_eq_true rfl) rfl rfl ?_
          refine j_iload dX2_guess_54 rfl ?_
          refine j_istore_n (lv' := [(0, .ref 5), (1, .int (nI u)), (2, .int (nI s)), (3, .int (nI i)), (4, .int (nI (ol mm c t s u i n))), (5, .int (nI i)), (6, .int (nI (ol mm c t s u i n)))]) dX2_guess_56 (Nat.le_of_ble_eq_true rfl) rfl rfl ?_
          refine j_iinc (v := nI (i + 1)) (lv' := [(0, .ref 5), (1, .int (nI u)), (2, .int (nI s)), (3, .int (nI i)), (4, .int (nI (ol mm c t s u i n))), (5, .int (nI (i + 1))), (6, .int (nI (ol mm c t s u i n)))]) dX2_guess_57 rfl (nI_add _ 1) (Nat.le_of_ble_eq_true rfl) rfl rfl ?_
          refine j_goto (tgt := 19) dX2_guess_60 (by decide) ?_
          refine j_sub [0, 1, 2, 3, 4, 5] rfl ?_
          exact ih19 i (ol mm c t s u i n) (i + 1) (by first | exact h1 | omega) (by rw [hfm]; first | done | exact hb) (by rw [hfm]; first | done | exact hl) (by omega)
  refine j_iconst (v := nI 0) dX2_guess_5 (by decide +kernel) ?_
  refine j_istore_n (lv' := [(0, .ref 5), (1, .int (nI u)), (2, .int (nI s)), (3, .int (nI 0))]) dX2_guess_6 (Nat.le_of_ble_eq_true rfl) rfl rfl ?_
  refine j_aload_n dX2_guess_7 rfl ?_
  refine j_iload_n dX2_guess_8 rfl ?_
  refine j_iconst (v := nI 0) dX2_guess_9 (by decide +kernel) ?_
  refine j_iload_n dX2_guess_10 rfl ?_
  refine j_callV (y' := mX2_outlook) (As := [.int (nI u), .int (nI 0), .int (nI s)]) (st := []) dX2_guess_11 lkX2_120 okX2_outlook imX2_outlook seX2_outlook (Nat.le_of_ble_eq_true rfl) rfl rfl rfl rfl (Nat.le_of_ble_eq_true rfl) (Nat.le_of_ble_eq_true rfl) (x_outlook z _ n mm c t mk hn hmm hcb htb hmk u 0 s hu (by omega) hs hsb F1 A0 hW) (fun v11 F11 A11 hq11 => ?_)
  obtain ⟨rfl, rfl, _, rfl, rfl⟩ := hq11
  have hol11 : ol mm c t s u 0 n ≤ 1000000 := ol_le hcb n
  refine j_istore (lv' := [(0, .ref 5), (1, .int (nI u)), (2, .int (nI s)), (3, .int (nI 0)), (4, .int (nI (ol mm c t s u 0 n)))]) dX2_guess_14 (Nat.le_of_ble_eq_true rfl) rfl rfl ?_
  refine j_iconst (v := nI 1) dX2_guess_16 (by decide +kernel) ?_
  refine j_istore (lv' := [(0, .ref 5), (1, .int (nI u)), (2, .int (nI s)), (3, .int (nI 0)), (4, .int (nI (ol mm c t s u 0 n))), (5, .int (nI 1))]) dX2_guess_17 (Nat.le_of_ble_eq_true rfl) rfl rfl ?_
  exact L19 _ 0 (ol mm c t s u 0 n) 1 ⟨by omega, by omega⟩ (by rw [fm_1 (f := (fun i => ol mm c t s u i n)) hol11]) (by rw [fm_1 (f := (fun i => ol mm c t s u i n)) hol11]) (Nat.lt_succ_self _)

set_option maxHeartbeats 400000 in
set_option maxRecDepth 100000 in
theorem x_firstLeast (z : mj_B) (d : Nat) (n : Nat) (mm : VF) (c : CF) (t : TF) (mk : VF) (hn : n ≤ 8) (hmm : ∀ u, u < n → 1 ≤ mm u ∧ mm u ≤ 4) (hcb : ∀ a b, c a b ≤ 1000000) (htb : ∀ a b i j, t a b i j ≤ 1000000) (hmk : ∀ u, mk u < 256) (u s : Nat) (hu : u < n) (hs : s < 256) (tk : VF) (F A : mj_S) (hW : WT F A 28 n mm c t mk) (htk : ∀ v, s / 2 ^ v % 2 = 1 → v < n ∧ u ≠ v ∧ mk u / 2 ^ v % 2 = 1 ∧ A 8 v = nI (tk v) ∧ tk v < mm v) : J (gC z) mX2_firstLeast (d + 3) 0 [(0, .ref 5), (1, .int (nI u)), (2, .int (nI s))] [] F A (qN F A fun r => r = tb n mm c t s tk u) := by
  have h4u := hmm u hu
  have L21 : ∀ (fuel : Nat) (ch : Nat) (le : Nat) (i : Nat), (1 ≤ i ∧ i ≤ mm u) → (ch = (fm (fun i => sm c t s tk u i n) i).1) → (le = (fm (fun i => sm c t s tk u i n) i).2) → mm u - i < fuel → J (gC z) mX2_firstLeast (d + 3) 21 [(0, .ref 5), (1, .int (nI u)), (2, .int (nI s)), (3, .int (nI ch)), (4, .int (nI le)), (5, .int (nI i))] [] F A (qN F A fun r => r = tb n mm c t s tk u) := by
    intro fuel
    induction fuel with
    | zero => intro ch le i h1 hb hl hf; exact absurd hf (by omega)
    | succ fuel ih21 =>
      intro ch le i h1 hb hl hf
      have hll : le ≤ 1000001 := by rw [hl]; exact fm_le _ _
      refine j_iload dX2_firstLeast_21 rfl ?_
      refine j_aload_n dX2_firstLeast_23 rfl ?_
      refine j_getR (r := 28) dX2_firstLeast_24 flX2_27 (Nat.le_of_ble_eq_true rfl) rfl rfl ?_
      refine j_getR (r := 29) dX2_firstLeast_27 flX2_92 (Nat.le_of_ble_eq_true rfl) rfl rfl ?_
      refine j_iload_n dX2_firstLeast_30 rfl ?_
      refine j_ialdN dX2_firstLeast_31 (Nat.le_of_ble_eq_true rfl) rfl (by omega) (by decide) ?_
      have hch1 := hmm u (by omega)
      refine j_top (y0 := nI (mm u)) (hW.2.1 u (by omega)).1 ?_
      refine j_icmp_geN (tgt := 72) dX2_firstLeast_32 (by decide) (by omega) (by omega) (fun c32 => ?_) (fun c32 => ?_)
      · refine j_iload_n dX2_firstLeast_72 rfl ?_
        exact j_iret dX2_firstLeast_73 rfl rfl ⟨rfl, rfl, _, rfl, by rw [hb, show i = mm u by omega]; rfl⟩
      · refine j_aload_n dX2_firstLeast_35 rfl ?_
        refine j_getR (r := 28) dX2_firstLeast_36 flX2_27 (Nat.le_of_ble_eq_true rfl) rfl rfl ?_
        refine j_iload_n dX2_firstLeast_39 rfl ?_
        refine j_iload dX2_firstLeast_40 rfl ?_
        refine j_iload_n dX2_firstLeast_42 rfl ?_
        refine j_aload_n dX2_firstLeast_43 rfl ?_
        refine j_getR (r := 8) dX2_firstLeast_44 flX2_18 (Nat.le_of_ble_eq_true rfl) rfl rfl ?_
        refine j_callV (y' := mX4_costBeside) (As := [.int (nI u), .int (nI i), .int (nI s), .ref 8]) (st := []) dX2_firstLeast_47 lkX2_133 okX4_costBeside imX4_costBeside seX4_costBeside (Nat.le_of_ble_eq_true rfl) rfl rfl rfl rfl (Nat.le_of_ble_eq_true rfl) (Nat.le_of_ble_eq_true rfl) (x_costBeside28_8 z _ n mm c t mk hn hmm hcb htb hmk u i s hu (by omega) hs tk F A hW htk) (fun v47 F47 A47 hq47 => ?_)
        obtain ⟨rfl, rfl, _, rfl, rfl⟩ := hq47
        have hsm47 : sm c t s tk u i n ≤ 1000000 := sm_le hcb n
        refine j_istore (lv' := [(0, .ref 5), (1, .int (nI u)), (2, .int (nI s)), (3, .int (nI ch)), (4, .int (nI le)), (5, .int (nI i)), (6, .int (nI (sm c t s tk u i n)))]) dX2_firstLeast_50 (Nat.le_of_ble_eq_true rfl) rfl rfl ?_
        refine j_iload dX2_firstLeast_52 rfl ?_
        refine j_iload dX2_firstLeast_54 rfl ?_
        refine j_icmp_geN (tgt := 66) dX2_firstLeast_56 (by decide) (by omega) (by omega) (fun c56 => ?_) (fun c56 => ?_)
        · have hfm := fm_f (f := (fun i => sm c t s tk u i n)) (k := i) (by rw [← hl]; show ¬ sm c t s tk u i n < le; omega)
          refine j_iinc (v := nI (i + 1)) (lv' := [(0, .ref 5), (1, .int (nI u)), (2, .int (nI s)), (3, .int (nI ch)), (4, .int (nI le)), (5, .int (nI (i + 1))), (6, .int (nI (sm c t s tk u i n)))]) dX2_firstLeast_66 rfl (nI_add _ 1) (Nat.le_of_ble_eq_true rfl) rfl rfl ?_
          refine j_goto (tgt := 21) dX2_firstLeast_69 (by decide) ?_
          refine j_sub [0, 1, 2, 3, 4, 5] rfl ?_
          exact ih21 ch le (i + 1) (by first | exact h1 | omega) (by rw [hfm]; first | done | exact hb) (by rw [hfm]; first | done | exact hl) (by omega)
        · have hfm := fm_t (f := (fun i => sm c t s tk u i n)) (k := i) (by rw [← hl]; show sm c t s tk u i n < le; omega)
          refine j_iload dX2_firstLeast_59 rfl ?_
          refine j_istore (lv' := [(0, .ref 5), (1, .int (nI u)), (2, .int (nI s)), (3, .int (nI ch)), (4, .int (nI (sm c t s tk u i n))), (5, .int (nI i)), (6, .int (nI (sm c t s tk u i n)))]) dX2_firstLeast_61 (Nat.le_of_ble_eq_true rfl) rfl rfl ?_
          refine j_iload dX2_firstLeast_63 rfl ?_
          refine j_istore_n (lv' := [(0, .ref 5), (1, .int (nI u)), (2, .int (nI s)), (3, .int (nI i)), (4, .int (nI (sm c t s tk u i n))), (5, .int (nI i)), (6, .int (nI (sm c t s tk u i n)))]) dX2_firstLeast_65 (Nat.le_of_ble_eq_true rfl) rfl rfl ?_
          refine j_iinc (v := nI (i + 1)) (lv' := [(0, .ref 5), (1, .int (nI u)), (2, .int (nI s)), (3, .int (nI i)), (4, .int (nI (sm c t s tk u i n))), (5, .int (nI (i + 1))), (6, .int (nI (sm c t s tk u i n)))]) dX2_firstLeast_66 rfl (nI_add _ 1) (Nat.le_of_ble_eq_true rfl) rfl rfl ?_
          refine j_goto (tgt := 21) dX2_firstLeast_69 (by decide) ?_
          refine j_sub [0, 1, 2, 3, 4, 5] rfl ?_
          exact ih21 i (sm c t s tk u i n) (i + 1) (by first | exact h1 | omega) (by rw [hfm]; first | done | exact hb) (by rw [hfm]; first | done | exact hl) (by omega)
  refine j_iconst (v := nI 0) dX2_firstLeast_0 (by decide +kernel) ?_
  refine j_istore_n (lv' := [(0, .ref 5), (1, .int (nI u)), (2, .int (nI s)), (3, .int (nI 0))]) dX2_firstLeast_1 (Nat.le_of_ble_eq_true rfl) rfl rfl ?_
  refine j_aload_n dX2_firstLeast_2 rfl ?_
  refine j_getR (r := 28) dX2_firstLeast_3 flX2_27 (Nat.le_of_ble_eq_true rfl) rfl rfl ?_
  refine j_iload_n dX2_firstLeast_6 rfl ?_
  refine j_iconst (v := nI 0) dX2_firstLeast_7 (by decide +kernel) ?_
  refine j_iload_n dX2_firstLeast_8 rfl ?_
  refine j_aload_n dX2_firstLeast_9 rfl ?_
  refine j_getR (r := 8) dX2_firstLeast_10 flX2_18 (Nat.le_of_ble_eq_true rfl) rfl rfl ?_
  refine j_callV (y' := mX4_costBeside) (As := [.int (nI u), .int (nI 0), .int (nI s), .ref 8]) (st := []) dX2_firstLeast_13 lkX2_133 okX4_costBeside imX4_costBeside seX4_costBeside (Nat.le_of_ble_eq_true rfl) rfl rfl rfl rfl (Nat.le_of_ble_eq_true rfl) (Nat.le_of_ble_eq_true rfl) (x_costBeside28_8 z _ n mm c t mk hn hmm hcb htb hmk u 0 s hu (by omega) hs tk F A hW htk) (fun v13 F13 A13 hq13 => ?_)
  obtain ⟨rfl, rfl, _, rfl, rfl⟩ := hq13
  have hsm13 : sm c t s tk u 0 n ≤ 1000000 := sm_le hcb n
  refine j_istore (lv' := [(0, .ref 5), (1, .int (nI u)), (2, .int (nI s)), (3, .int (nI 0)), (4, .int (nI (sm c t s tk u 0 n)))]) dX2_firstLeast_16 (Nat.le_of_ble_eq_true rfl) rfl rfl ?_
  refine j_iconst (v := nI 1) dX2_firstLeast_18 (by decide +kernel) ?_
  refine j_istore (lv' := [(0, .ref 5), (1, .int (nI u)), (2, .int (nI s)), (3, .int (nI 0)), (4, .int (nI (sm c t s tk u 0 n))), (5, .int (nI 1))]) dX2_firstLeast_19 (Nat.le_of_ble_eq_true rfl) rfl rfl ?_
  exact L21 _ 0 (sm c t s tk u 0 n) 1 ⟨by omega, by omega⟩ (by rw [fm_1 (f := (fun i => sm c t s tk u i n)) hsm13]) (by rw [fm_1 (f := (fun i => sm c t s tk u i n)) hsm13]) (Nat.lt_succ_self _)

/-- the class's rows of the turns -/
def CL3 (A : mj_S) (K : Nat) (S : RSt) (mk : VF) : Prop := ∀ q, q < K → A 6 q = nI (S.2.2.1 q) ∧ A 7 q = nI (S.2.2.2.1 q) ∧ A 9 q = nI (S.2.2.2.2 q) ∧ ∀ v, S.2.2.2.2 q / 2 ^ v % 2 = 1 → mk (S.2.2.1 q) / 2 ^ v % 2 = 1
def CRO (A : mj_S) (n : Nat) (mm : VF) (S : RSt) (kk : Nat) : Prop := ∀ q, q < n → (kk ≤ q ∨ S.2.2.2.1 q = 3) → A 8 (S.2.2.1 q) = nI (ro n mm S (n - kk) (S.2.2.1 q))
theorem CRO_T {A : mj_S} {n : Nat} {mm : VF} {S : RSt} {kk : Nat} (hI : RV n mm n S) (h0 : 0 < kk) (hk : kk ≤ n) (h3 : S.2.2.2.1 (kk - 1) < 3) (hro : CRO A n mm S kk) : CRO (mj_u A 8 (S.2.2.1 (kk - 1)) (nI (tb n mm S.1.1 S.1.2.1 (S.2.2.2.2 (kk - 1)) (ro n mm S (n - kk)) (S.2.2.1 (kk - 1))))) n mm S (kk - 1) := by
  intro q hq h
  rw [ro_sT h0 hk h3, mj_u_at]
  by_cases e : q = kk - 1
  · rw [e, uvf_at, pk_us]
  · have hne := RV_inj hI hq (show kk - 1 < n by omega) e
    rw [uvf_ne hne, pk_un hne]
    exact hro q hq (h.imp (fun h => by omega) id)
theorem CRO_F {A : mj_S} {n : Nat} {mm : VF} {S : RSt} {kk : Nat} (hI : RV n mm n S) (h0 : 0 < kk) (hk : kk ≤ n) (h3 : ¬ S.2.2.2.1 (kk - 1) < 3) (hro : CRO A n mm S kk) : CRO A n mm S (kk - 1) := by
  intro q hq h
  rw [ro_sF h0 hk h3]
  refine hro q hq ?_
  by_cases e : q = kk - 1
  · have := (hI.2.2.2 q hq).1.2.1
    rw [← e] at h3
    exact Or.inr (by omega)
  · exact h.imp (fun h => by omega) id

set_option maxHeartbeats 400000 in
set_option maxRecDepth 100000 in
theorem x_readOff (z : mj_B) (d : Nat) (T : Tg) (n : Nat) (mm : VF) (c : CF) (t : TF) (mk : VF) (hn : n ≤ 8) (hmm : ∀ u, u < n → 1 ≤ mm u ∧ mm u ≤ 4) (hcb : ∀ a b, c a b ≤ 1000000) (htb : ∀ a b i j, t a b i j ≤ 1000000) (hmk : ∀ u, mk u < 256) (S : RSt) (hI : RV n mm n S) (hcS : S.1.1 = c) (htS : S.1.2.1 = t) (F A0 : mj_S) (hW : WT F A0 28 n mm c t mk) (hC : CI T F A0) (hL : CL3 A0 n S mk) (hro : CRO A0 n mm S n) : J (gC z) mX2_readOff (d + 4) 0 [(0, .ref 5)] [] F A0 (fun _v F' A' => _v = none ∧ F = F' ∧ CI T F A' ∧ (∀ k, k ≠ 8 → A' k = A0 k) ∧ ∀ u, u < n → A' 8 u = nI (ro n mm S n u)) := by
  have L10 : ∀ (fuel : Nat) (x : Int32) (kk : Nat) (A : mj_S), (CI T F A) → (x + 1 = nI kk) → (kk ≤ n) → (CRO A n mm S kk) → (∀ k, k ≠ 8 → A k = A0 k) → kk < fuel → J (gC z) mX2_readOff (d + 4) 10 [(0, .ref 5), (1, .int x)] [] F A (fun _v F' A' => _v = none ∧ F = F' ∧ CI T F A' ∧ (∀ k, k ≠ 8 → A' k = A0 k) ∧ ∀ u, u < n → A' 8 u = nI (ro n mm S n u)) := by
    intro fuel
    induction fuel with
    | zero => intro x kk A hC hx h1 hro hfr hf; exact absurd hf (by omega)
    | succ fuel ih10 =>
      intro x kk A hC hx h1 hro hfr hf
      refine j_iload_n dX2_readOff_10 rfl ?_
      refine j_if_lt (tgt := 57) dX2_readOff_11 (by decide) (fun c11 => ?_) (fun c11 => ?_)
      · exact j_vret dX2_readOff_57 rfl ⟨rfl, rfl, hC, hfr, fun u hu => by
        obtain ⟨q, hq, rfl⟩ := RV_sur hn hI hu
        have hk0 := rd_end (by omega) hx c11
        rw [hk0] at hro
        exact hro q hq (Or.inl (Nat.zero_le _))⟩
      · have hk0 : 0 < kk := Nat.pos_of_ne_zero (fun e => by rw [e] at hx; exact c11 (dn0 hx))
        obtain rfl : x = nI (kk - 1) := dn1 hx hk0
        have hlg0 := hL (kk - 1) (by omega)
        have hlg : A 6 (kk - 1) = nI (S.2.2.1 (kk - 1)) ∧ A 7 (kk - 1) = nI (S.2.2.2.1 (kk - 1)) ∧ A 9 (kk - 1) = nI (S.2.2.2.2 (kk - 1)) ∧ ∀ v, S.2.2.2.2 (kk - 1) / 2 ^ v % 2 = 1 → mk (S.2.2.1 (kk - 1)) / 2 ^ v % 2 = 1 := by rw [hfr 6 (by decide), hfr 7 (by decide), hfr 9 (by decide)]; exact hlg0
        have hig := (hI.2.2.2 (kk - 1) (by omega)).1
        refine j_aload_n dX2_readOff_14 rfl ?_
        refine j_getR (r := 7) dX2_readOff_15 flX2_15 (Nat.le_of_ble_eq_true rfl) rfl rfl ?_
        refine j_iload_n dX2_readOff_18 rfl ?_
        refine j_ialdN dX2_readOff_19 (Nat.le_of_ble_eq_true rfl) rfl (by omega) (by decide) ?_
        refine j_top (y0 := nI (S.2.2.2.1 (kk - 1))) hlg.2.1 ?_
        refine j_iconst (v := nI 3) dX2_readOff_20 (by decide +kernel) ?_
        refine j_icmp_eqN (tgt := 51) dX2_readOff_21 (by decide) (by omega) (by omega) (fun c21 => ?_) (fun c21 => ?_)
        · refine j_iinc (v := nI (kk - 1) + Int32.ofInt (-1)) (lv' := [(0, .ref 5), (1, .int (nI (kk - 1) + Int32.ofInt (-1)))]) dX2_readOff_51 rfl rfl (Nat.le_of_ble_eq_true rfl) rfl rfl ?_
          refine j_goto (tgt := 10) dX2_readOff_54 (by decide) ?_
          exact ih10 (nI (kk - 1) + Int32.ofInt (-1)) (kk - 1) A (by first | exact hC | omega) (dn2 _) (by first | exact h1 | omega) (by first | exact CRO_F hI hk0 (by omega) (by omega) hro | (have := CRO_T hI hk0 (by omega) (by omega) hro; rw [hcS, htS] at this; exact this)) (by first | exact hfr | exact fun k hk => by rw [mj_u_ne _ _ hk]; exact hfr k hk) (by omega)
        · refine j_aload_n dX2_readOff_24 rfl ?_
          refine j_getR (r := 8) dX2_readOff_25 flX2_18 (Nat.le_of_ble_eq_true rfl) rfl rfl ?_
          refine j_aload_n dX2_readOff_28 rfl ?_
          refine j_getR (r := 6) dX2_readOff_29 flX2_9 (Nat.le_of_ble_eq_true rfl) rfl rfl ?_
          refine j_iload_n dX2_readOff_32 rfl ?_
          refine j_ialdN dX2_readOff_33 (Nat.le_of_ble_eq_true rfl) rfl (by omega) (by decide) ?_
          refine j_top (y0 := nI (S.2.2.1 (kk - 1))) hlg.1 ?_
          refine j_aload_n dX2_readOff_34 rfl ?_
          refine j_aload_n dX2_readOff_35 rfl ?_
          refine j_getR (r := 6) dX2_readOff_36 flX2_9 (Nat.le_of_ble_eq_true rfl) rfl rfl ?_
          refine j_iload_n dX2_readOff_39 rfl ?_
          refine j_ialdN dX2_readOff_40 (Nat.le_of_ble_eq_true rfl) rfl (by omega) (by decide) ?_
          refine j_top (y0 := nI (S.2.2.1 (kk - 1))) hlg.1 ?_
          refine j_aload_n dX2_readOff_41 rfl ?_
          refine j_getR (r := 9) dX2_readOff_42 flX2_21 (Nat.le_of_ble_eq_true rfl) rfl rfl ?_
          refine j_iload_n dX2_readOff_45 rfl ?_
          refine j_ialdN dX2_readOff_46 (Nat.le_of_ble_eq_true rfl) rfl (by omega) (by decide) ?_
          refine j_top (y0 := nI (S.2.2.2.2 (kk - 1))) hlg.2.2.1 ?_
          refine j_callV (y' := mX2_firstLeast) (As := [.int (nI (S.2.2.1 (kk - 1))), .int (nI (S.2.2.2.2 (kk - 1)))]) (st := [.int (nI (S.2.2.1 (kk - 1))), .ref 8]) dX2_readOff_47 lkX2_130 okX2_firstLeast imX2_firstLeast seX2_firstLeast (Nat.le_of_ble_eq_true rfl) rfl rfl rfl rfl (Nat.le_of_ble_eq_true rfl) (Nat.le_of_ble_eq_true rfl) (x_firstLeast z _ n mm c t mk hn hmm hcb htb hmk (S.2.2.1 (kk - 1)) (S.2.2.2.2 (kk - 1)) hig.1 hig.2.2 (ro n mm S (n - kk)) F A (hW.off rfl (fun i h1 h2 => hfr _ (by omega))) (fun v hv => by obtain ⟨q, h1, h2, e⟩ := RV_wi hn hI (k := kk - 1) (by omega) hv; have hmv := hlg.2.2.2 v hv; rw [← e] at hmv ⊢; exact ⟨(hI.2.2.2 q h2).1.1, RV_inj hI (show kk - 1 < n by omega) h2 (by omega), hmv, hro q h2 (Or.inl (by omega)), RO_run (fun u hu => (hmm u hu).1) hI (n - kk) (by omega) q h2 (Or.inl (by omega))⟩)) (fun v47 F47 A47 hq47 => ?_)
          obtain ⟨rfl, rfl, _, rfl, rfl⟩ := hq47
          refine j_iastN dX2_readOff_50 (Nat.le_of_ble_eq_true rfl) rfl (by omega) (by decide) ?_
          have htl : tb n mm c t (S.2.2.2.2 (kk - 1)) (ro n mm S (n - kk)) (S.2.2.1 (kk - 1)) < mm (S.2.2.1 (kk - 1)) := fm_lt' (sm_le hcb n) (hmm _ hig.1).1
          have h4o := (hmm _ hig.1).2
          have hC := hC.tk (S.2.2.1 (kk - 1)) (t := tb n mm c t (S.2.2.2.2 (kk - 1)) (ro n mm S (n - kk)) (S.2.2.1 (kk - 1))) (by omega)
          refine j_iinc (v := nI (kk - 1) + Int32.ofInt (-1)) (lv' := [(0, .ref 5), (1, .int (nI (kk - 1) + Int32.ofInt (-1)))]) dX2_readOff_51 rfl rfl (Nat.le_of_ble_eq_true rfl) rfl rfl ?_
          refine j_goto (tgt := 10) dX2_readOff_54 (by decide) ?_
          exact ih10 (nI (kk - 1) + Int32.ofInt (-1)) (kk - 1) (mj_u A 8 (S.2.2.1 (kk - 1)) (nI (tb n mm c t (S.2.2.2.2 (kk - 1)) (ro n mm S (n - kk)) (S.2.2.1 (kk - 1))))) (by first | exact hC | omega) (dn2 _) (by first | exact h1 | omega) (by first | exact CRO_F hI hk0 (by omega) (by omega) hro | (have := CRO_T hI hk0 (by omega) (by omega) hro; rw [hcS, htS] at this; exact this)) (by first | exact hfr | exact fun k hk => by rw [mj_u_ne _ _ hk]; exact hfr k hk) (by omega)
  refine j_aload_n dX2_readOff_0 rfl ?_
  refine j_getR (r := 28) dX2_readOff_1 flX2_27 (Nat.le_of_ble_eq_true rfl) rfl rfl ?_
  refine j_getI dX2_readOff_4 flX2_39 (Nat.le_of_ble_eq_true rfl) rfl rfl ?_
  refine j_top (y0 := nI n) hW.1 ?_
  refine j_iconst (v := nI 1) dX2_readOff_7 (by decide +kernel) ?_
  refine j_isub dX2_readOff_8 ?_
  refine j_top (y0 := (nI n) - (nI 1)) rfl ?_
  refine j_istore_n (lv' := [(0, .ref 5), (1, .int ((nI n) - (nI 1)))]) dX2_readOff_9 (Nat.le_of_ble_eq_true rfl) rfl rfl ?_
  exact L10 _ ((nI n) - (nI 1)) n A0 (by first | exact hC | omega) (dn4 n) (by first | exact h1 | omega) (by first | exact hro | omega) (fun _ _ => rfl) (Nat.lt_succ_self _)
