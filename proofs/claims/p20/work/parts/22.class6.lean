/-! the class: the reduction's run, exact; the search -/
theorem r3n_min (x : Nat) : min x 3 = r3n x := by
  unfold r3n
  split <;> omega
theorem c_ntzA (z : mj_B) (d s : Nat) (hs : s < 256) (F A : mj_S) : J (gC z) mJ6_numberOfTrailingZeros_0f7a4 d 0 [(0, .int (nI s))] [] F A (qP F A fun x => 0 < s → x = nI (lob s)) := by
  rcases Nat.eq_zero_or_pos s with h | h
  · subst h
    exact j_mono (c_ntz0 z d F A) (fun v F' A' ⟨h1, h2, r, h3, _⟩ => ⟨h1, h2, r, h3, fun h => absurd h (by omega)⟩)
  · exact j_mono (c_ntz z d s hs h F A) (fun v F' A' ⟨h1, h2, r, h3, h4⟩ => ⟨h1, h2, _, h3, fun _ => by rw [h4]⟩)
def C8 (A : mj_S) (K : Nat) (S : RSt) : Prop := ∀ q, q < K → S.2.2.2.1 q = 3 → A 8 (S.2.2.1 q) = nI (S.2.1.2 (S.2.2.1 q))
def CRes (F A : mj_S) (n : Nat) (mm : VF) (row : Nat → Int32) : Prop := (∀ q, q < n → A 6 q = nI ((redS n mm row).2.2.1 q) ∧ A 7 q = nI ((redS n mm row).2.2.2.1 q)) ∧ (∀ u, u < n → A 8 u = nI (tkF n mm row u)) ∧ F 5 3 = nI (1 - shw (redS n mm row).2.2.2.1 n)
theorem shw_congr {rl rl' : VF} : ∀ {k : Nat}, (∀ q, q < k → rl q = rl' q) → shw rl k = shw rl' k
  | 0, _ => rfl
  | k + 1, h => by
    by_cases e : rl k = 3
    · rw [shw_t e, shw_t ((h k (by omega)).symm.trans e)]
    · rw [shw_f e, shw_f (fun q => e ((h k (by omega)).trans q))]; exact shw_congr (fun q hq => h q (by omega))
theorem shw_u {rl : VF} {k x : Nat} (h : ¬ x = 3) : shw (uvf rl k x) (k + 1) = shw rl k := by
  rw [shw_f (by rw [uvf_at]; exact h)]
  exact shw_congr (fun q hq => uvf_ne (by omega))
theorem shw_u3 {rl : VF} {k x : Nat} (h : x = 3) : shw (uvf rl k x) (k + 1) = 0 := shw_t (by rw [uvf_at]; exact h)
section RL
variable {lf u : Nat} {mk mC : VF}
theorem rl_same (hl : lf < 256) (hu : u < 8) (hm : ∀ x, mk x < 256) (h : ∀ x y, lf / 2 ^ x % 2 = 1 → lf / 2 ^ y % 2 = 1 → (mC x / 2 ^ y % 2 = 1 ↔ mk x / 2 ^ y % 2 = 1)) : ∀ x y, clr lf u / 2 ^ x % 2 = 1 → clr lf u / 2 ^ y % 2 = 1 → (mC x / 2 ^ y % 2 = 1 ↔ clr (mk x) u / 2 ^ y % 2 = 1) := by
  intro x y hx hy
  obtain ⟨x1, x2⟩ := (bt_clr hl hu).mp hx
  obtain ⟨y1, y2⟩ := (bt_clr hl hu).mp hy
  rw [bt_clr (hm x) hu, h x y x1 y1]
  exact ⟨fun q => ⟨q, y2⟩, fun q => q.1⟩
theorem rl_jn {v w : Nat} (hvw : v ≠ w) (hv : lf / 2 ^ v % 2 = 1) (hw : lf / 2 ^ w % 2 = 1) (hsy : ∀ x y, lf / 2 ^ x % 2 = 1 → lf / 2 ^ y % 2 = 1 → mk x / 2 ^ y % 2 = 1 → mk y / 2 ^ x % 2 = 1) (h : ∀ x y, lf / 2 ^ x % 2 = 1 → lf / 2 ^ y % 2 = 1 → (mC x / 2 ^ y % 2 = 1 ↔ mk x / 2 ^ y % 2 = 1)) {mC' : VF} (hq : mC' = jn mC v w ∨ (mC' = mC ∧ mC v / 2 ^ w % 2 = 1)) : ∀ x y, lf / 2 ^ x % 2 = 1 → lf / 2 ^ y % 2 = 1 → (mC' x / 2 ^ y % 2 = 1 ↔ jn mk v w x / 2 ^ y % 2 = 1) := by
  intro x y hx hy
  rw [jn_bt hvw]
  rcases hq with q | ⟨q, q2⟩
  · rw [q, jn_bt hvw, h x y hx hy]
  · rw [q, h x y hx hy]
    refine ⟨Or.inl, ?_⟩
    rintro (e | ⟨rfl, rfl⟩ | ⟨rfl, rfl⟩)
    · exact e
    · exact (h x y hx hy).mp q2
    · exact hsy y x hy hx ((h y x hy hx).mp q2)
theorem jn_mono {v w : Nat} (hvw : v ≠ w) {mC' : VF} (hq : mC' = jn mC v w ∨ (mC' = mC ∧ mC v / 2 ^ w % 2 = 1)) (x y : Nat) (h : mC x / 2 ^ y % 2 = 1) : mC' x / 2 ^ y % 2 = 1 := by
  rcases hq with q | ⟨q, -⟩
  · rw [q]; exact (jn_bt hvw).mpr (Or.inl h)
  · rw [q]; exact h
end RL
theorem CL3_step {A A' : mj_S} {n : Nat} {mm : VF} {k u : Nat} {S : RSt} {mC mC' : VF} (h : CL3 A k S mC) (h6 : A' 6 = upd (A 6) k (nI u)) (h7 : A' 7 = upd (A 7) k (nI (r3n (pc (S.1.2.2 u))))) (h9 : A' 9 = upd (A 9) k (nI (S.1.2.2 u))) (hmo : ∀ x y, mC x / 2 ^ y % 2 = 1 → mC' x / 2 ^ y % 2 = 1) (hub : ∀ v, S.1.2.2 u / 2 ^ v % 2 = 1 → mC u / 2 ^ v % 2 = 1) : CL3 A' (k + 1) (stU n mm S k u) mC' := by
  intro q hq
  show A' 6 q = nI (uvf S.2.2.1 k u q) ∧ A' 7 q = nI (uvf S.2.2.2.1 k (r3n (pc (S.1.2.2 u))) q) ∧ A' 9 q = nI (uvf S.2.2.2.2 k (S.1.2.2 u) q) ∧ ∀ v, uvf S.2.2.2.2 k (S.1.2.2 u) q / 2 ^ v % 2 = 1 → mC' (uvf S.2.2.1 k u q) / 2 ^ v % 2 = 1
  rw [h6, h7, h9]
  by_cases e : q = k
  · subst e
    rw [pk_us, pk_us, pk_us, uvf_at, uvf_at, uvf_at]
    exact ⟨rfl, rfl, rfl, fun v hv => hmo _ _ (hub v hv)⟩
  · rw [pk_un e, pk_un e, pk_un e, uvf_ne e, uvf_ne e, uvf_ne e]
    obtain ⟨g1, g2, g3, g4⟩ := h q (by omega)
    exact ⟨g1, g2, g3, fun v hv => hmo _ _ (g4 v hv)⟩
theorem C8_step {A A' : mj_S} {n : Nat} {mm : VF} {k u : Nat} {S : RSt} (hI : RV n mm k S) (hu : u < n) (hbu : S.2.1.1 / 2 ^ u % 2 = 1) (h : C8 A k S) (h8 : ∀ x, x ≠ u → A' 8 x = A 8 x) (h3 : 2 < pc (S.1.2.2 u) → A' 8 u = nI ((ru n mm S.1.1 S.1.2.1 S.1.2.2 S.2.1.2 u).2 u)) (ht : ∀ x, x ≠ u → (ru n mm S.1.1 S.1.2.1 S.1.2.2 S.2.1.2 u).2 x = S.2.1.2 x) : C8 A' (k + 1) (stU n mm S k u) := by
  intro q hq
  show uvf S.2.2.2.1 k (r3n (pc (S.1.2.2 u))) q = 3 → A' 8 (uvf S.2.2.1 k u q) = nI ((ru n mm S.1.1 S.1.2.1 S.1.2.2 S.2.1.2 u).2 (uvf S.2.2.1 k u q))
  by_cases e : q = k
  · subst e
    rw [uvf_at, uvf_at]
    intro e3
    refine h3 ?_
    unfold r3n at e3
    split at e3 <;> omega
  · rw [uvf_ne e, uvf_ne e]
    have hne : S.2.2.1 q ≠ u := (hI.2.2.1.2 u hu).mp hbu q (by omega)
    intro e3
    rw [h8 _ hne, ht _ hne]
    exact h q (by omega) e3

set_option maxHeartbeats 400000 in
set_option maxRecDepth 100000 in
theorem x_runR (z : mj_B) (d : Nat) (T : Tg) (n : Nat) (mm : VF) (row : Nat → Int32) (hw : wr n mm row) (F0 A0 : mj_S) (hC : CI T F0 A0) (hG : GR F0 A0 33 n mm row) : J (gC z) mX2_run (d + 5) 0 [(0, .ref 5), (1, .ref 33)] [] F0 A0 (fun v F' A' => v = none ∧ CI T F' A' ∧ CRes F' A' n mm row ∧ (∀ k s, k ≠ 5 → k ≠ 28 → F' k s = F0 k s) ∧ ∀ k, (k < 6 ∨ 9 < k) → (k < 28 ∨ 32 < k) → A' k = A0 k) := by
  have hn8 := hw.1.1
  have hmm : ∀ u, u < n → 1 ≤ mm u ∧ mm u ≤ 4 := fun u hu => hw.1.2 u hu
  refine j_aload_n dX2_run_0 rfl ?_
  refine j_getR (r := 28) dX2_run_1 flX2_27 (Nat.le_of_ble_eq_true rfl) rfl rfl ?_
  refine j_aload_n dX2_run_4 rfl ?_
  refine j_callV (y' := mX4_weigh) (As := [.ref 33]) (st := []) dX2_run_5 lkX2_31 okX4_weigh imX4_weigh seX4_weigh (Nat.le_of_ble_eq_true rfl) rfl rfl rfl rfl (Nat.le_of_ble_eq_true rfl) (Nat.le_of_ble_eq_true rfl) (x_weigh28 z _ T n mm row hw F0 A0 hC hG) (fun v5 F5 A5 hq5 => ?_)
  obtain ⟨rfl, rfl, hC, hW, hwf⟩ := hq5
  refine j_aload_n dX2_run_8 rfl ?_
  refine j_iconst (v := nI 0) dX2_run_9 (by decide +kernel) ?_
  refine j_put dX2_run_10 fpX2_35 (Nat.le_of_ble_eq_true rfl) rfl rfl (by decide +kernel) rfl ?_
  have hC := hC.f (k := 5) (s := 3) rfl (nI 0)
  refine j_aload_n dX2_run_13 rfl ?_
  have hp2 := p2_le hn8
  refine j_iconst (v := nI 1) dX2_run_14 (by decide +kernel) ?_
  refine j_aload_n dX2_run_15 rfl ?_
  refine j_getR (r := 28) dX2_run_16 flX2_27 (Nat.le_of_ble_eq_true rfl) rfl rfl ?_
  refine j_getI dX2_run_19 flX2_39 (Nat.le_of_ble_eq_true rfl) rfl rfl ?_
  refine j_top (y0 := nI n) rfl ?_
  refine j_ishl dX2_run_22 ?_
  refine j_top (y0 := nI (2 ^ n)) (shl_1' (by omega)) ?_
  refine j_iconst (v := nI 1) dX2_run_23 (by decide +kernel) ?_
  refine j_isubN dX2_run_24 (by omega) ?_
  refine j_putI dX2_run_25 fpX2_43 (Nat.le_of_ble_eq_true rfl) rfl rfl ?_
  have hC := hC.f (k := 5) (s := 6) rfl (nI ((2 ^ n) - 1))
  have L30 : ∀ (fuel : Nat) (k : Nat) (lf : Nat) (mC : VF) (F A : mj_S), (CI T F A) → (k ≤ n) → (F 5 6 = nI lf) → (lf = (rns n mm (S0' n mm row) k).2.1.1) → (WT F A 28 n mm (rns n mm (S0' n mm row) k).1.1 (rns n mm (S0' n mm row) k).1.2.1 mC) → (∀ x, mC x < 256) → (∀ x y, lf / 2 ^ x % 2 = 1 → lf / 2 ^ y % 2 = 1 → (mC x / 2 ^ y % 2 = 1 ↔ (rns n mm (S0' n mm row) k).1.2.2 x / 2 ^ y % 2 = 1)) → (CL3 A k (rns n mm (S0' n mm row) k) mC) → (C8 A k (rns n mm (S0' n mm row) k)) → (F 5 3 = nI (1 - shw (rns n mm (S0' n mm row) k).2.2.2.1 k)) → (∀ k s, k ≠ 5 → k ≠ 28 → F k s = F0 k s) → (∀ k, (k < 6 ∨ 9 < k) → (k < 28 ∨ 32 < k) → A k = A0 k) → n - k < fuel → J (gC z) mX2_run (d + 5) 30 [(0, .ref 5), (2, .int (nI k))] [] F A (fun v F' A' => v = none ∧ CI T F' A' ∧ CRes F' A' n mm row ∧ (∀ k s, k ≠ 5 → k ≠ 28 → F' k s = F0 k s) ∧ ∀ k, (k < 6 ∨ 9 < k) → (k < 28 ∨ 32 < k) → A' k = A0 k) := by
    intro fuel
    induction fuel with
    | zero => intro k lf mC F A hC h1 el hlf hW hmC hrl hL h8 hg hfF hfA hf; exact absurd hf (by omega)
    | succ fuel ih30 =>
      intro k lf mC F A hC h1 el hlf hW hmC hrl hL h8 hg hfF hfA hf
      have hI := RV_run hw k (by omega)
      obtain ⟨S, hS⟩ : ∃ S, S = rns n mm (S0' n mm row) k := ⟨_, rfl⟩
      rw [← hS] at hI hlf hW hrl hL h8 hg
      have hcb := hI.1.1
      have htb := hI.1.2.1
      have hlf2 : lf < 2 ^ n := by rw [hlf]; exact hI.2.2.1.1.1
      have hlf8 : lf < 256 := by omega
      have hrl2 : ∀ u, u < n → lf / 2 ^ u % 2 = 1 → ∀ v, (mC u / 2 ^ v % 2 = 1 ∧ lf / 2 ^ v % 2 = 1) ↔ S.1.2.2 u / 2 ^ v % 2 = 1 := fun u _ hu v => ⟨fun q => (hrl u v hu q.2).mp q.1, fun q => ⟨(hrl u v hu (by rw [hlf]; exact (hI.2.1.2.1 u v q).1)).mpr q, by rw [hlf]; exact (hI.2.1.2.1 u v q).1⟩⟩
      refine j_iload_n dX2_run_30 rfl ?_
      refine j_aload_n dX2_run_31 rfl ?_
      refine j_getR (r := 28) dX2_run_32 flX2_27 (Nat.le_of_ble_eq_true rfl) rfl rfl ?_
      refine j_getI dX2_run_35 flX2_39 (Nat.le_of_ble_eq_true rfl) rfl rfl ?_
      refine j_top (y0 := nI n) hW.1 ?_
      refine j_icmp_geN (tgt := 191) dX2_run_38 (by decide) (by omega) (by omega) (fun c38 => ?_) (fun c38 => ?_)
      · have hkn : k = n := by omega
        have hSN : redS n mm row = S := by
          rw [hS]
          show rns n mm (S0' n mm row) n = rns n mm (S0' n mm row) k
          rw [hkn]
        have hIn : RV n mm n S := by rw [hkn] at hI; exact hI
        refine j_aload_n dX2_run_191 rfl ?_
        refine j_callV (y' := mX2_readOff) (As := []) (st := []) dX2_run_192 lkX2_79 okX2_readOff imX2_readOff seX2_readOff (Nat.le_of_ble_eq_true rfl) rfl rfl rfl rfl (Nat.le_of_ble_eq_true rfl) (Nat.le_of_ble_eq_true rfl) (x_readOff z _ T n mm S.1.1 S.1.2.1 mC hn8 hmm hcb htb hmC S hIn rfl rfl F A hW hC (fun q hq => hL q (by omega)) (fun q hq h => by rw [Nat.sub_self]; exact h8 q (by omega) (h.resolve_left (by omega)))) (fun v192 F192 A192 hq192 => ?_)
        obtain ⟨rfl, rfl, hC, hrf, hro⟩ := hq192
        exact j_vret dX2_run_195 rfl ⟨rfl, hC, ⟨fun q hq => by rw [hSN]; have := hL q (by omega); rw [hrf 6 (by decide), hrf 7 (by decide)]; exact ⟨this.1, this.2.1⟩, fun u hu => by unfold tkF; rw [hSN]; exact hro u hu, by rw [hSN]; have hg2 := hg; rw [hkn] at hg2; exact hg2⟩, hfF, fun k h1 h2 => by rw [hrf k (by omega)]; exact hfA k h1 h2⟩
      · have hlf0 : 0 < lf := pc_pos lf hlf8 (by have := hI.2.2.1.1.2; rw [← hlf] at this; omega)
        refine j_aload_n dX2_run_41 rfl ?_
        refine j_callV (y' := mX2_nextNode) (As := []) (st := []) dX2_run_42 lkX2_46 okX2_nextNode imX2_nextNode seX2_nextNode (Nat.le_of_ble_eq_true rfl) rfl rfl rfl rfl (Nat.le_of_ble_eq_true rfl) (Nat.le_of_ble_eq_true rfl) (x_nextNode z _ n mm S.1.1 S.1.2.1 mC hn8 hmm hcb htb hmC S.1.2.2 lf hI.2.1.1 hlf2 hlf0 F A hW el hrl2) (fun v42 F42 A42 hq42 => ?_)
        obtain ⟨rfl, rfl, u, rfl, hun⟩ := hq42
        have hnx := RV_next hn8 hI (by omega)
        rw [← hlf, ← hun] at hnx
        obtain ⟨hu, hbu⟩ := hnx
        have hbu' : S.2.1.1 / 2 ^ u % 2 = 1 := by rw [← hlf]; exact hbu
        have hstep : rns n mm (S0' n mm row) (k + 1) = stU n mm S k u := by
          show stU n mm (rns n mm (S0' n mm row) k) k (nxt mm (rns n mm (S0' n mm row) k).1.2.2 n (rns n mm (S0' n mm row) k).2.1.1) = stU n mm S k u
          rw [← hS, hun, hlf]
        have hok := ru_ok (n := n) (mm := mm) (tk := S.2.1.2) (u := u) hI.1.1 hI.1.2.1 hI.1.2.2 hI.2.1.1 hI.2.1.2.1 hI.2.1.2.2.1 hI.2.1.2.2.2 (hmm u hu).1
        have hmu := hI.2.1.1 u
        have hcl8 := Nat.lt_of_le_of_lt (clr_le lf u) hlf8
        have hsub : ∀ v, S.1.2.2 u / 2 ^ v % 2 = 1 → lf / 2 ^ v % 2 = 1 ∧ u ≠ v := fun v hv => by rw [hlf]; exact hI.2.1.2.1 u v hv
        have hbs : ∀ v, (mC u / 2 ^ v % 2 = 1 ∧ clr lf u / 2 ^ v % 2 = 1) ↔ S.1.2.2 u / 2 ^ v % 2 = 1 := fun v => ⟨fun q => (hrl u v hbu ((bt_clr hlf8 (by omega)).mp q.2).1).mp q.1, fun q => ⟨(hrl u v hbu (hsub v q).1).mpr q, (bt_clr hlf8 (by omega)).mpr ⟨(hsub v q).1, Ne.symm (hsub v q).2⟩⟩⟩
        have hmb : ∀ v, S.1.2.2 u / 2 ^ v % 2 = 1 → v < n ∧ u ≠ v ∧ mC u / 2 ^ v % 2 = 1 := fun v q => ⟨bit_lt hlf2 (hsub v q).1, (hsub v q).2, ((hbs v).mpr q).1⟩
        refine j_istore_n (lv' := [(0, .ref 5), (2, .int (nI k)), (3, .int (nI u))]) dX2_run_45 (Nat.le_of_ble_eq_true rfl) rfl rfl ?_
        obtain ⟨R, hRU⟩ : ∃ R, R = ru n mm S.1.1 S.1.2.1 S.1.2.2 S.2.1.2 u := ⟨_, rfl⟩
        have L185 : ∀ (mC2 : VF) (F2 A2 : mj_S), (CI T F2 A2) → (F2 5 6 = nI (clr lf u)) → (WT F2 A2 28 n mm R.1.1 R.1.2.1 mC2) → (∀ x, mC2 x < 256) → (∀ x y, clr lf u / 2 ^ x % 2 = 1 → clr lf u / 2 ^ y % 2 = 1 → (mC2 x / 2 ^ y % 2 = 1 ↔ clr (R.1.2.2 x) u / 2 ^ y % 2 = 1)) → (CL3 A2 (k + 1) (stU n mm S k u) mC2) → (C8 A2 (k + 1) (stU n mm S k u)) → (F2 5 3 = nI (1 - shw (stU n mm S k u).2.2.2.1 (k + 1))) → (∀ k s, k ≠ 5 → k ≠ 28 → F2 k s = F0 k s) → (∀ k, (k < 6 ∨ 9 < k) → (k < 28 ∨ 32 < k) → A2 k = A0 k) → J (gC z) mX2_run (d + 5) 185 [(0, .ref 5), (2, .int (nI k))] [] F2 A2 (fun v F' A' => v = none ∧ CI T F' A' ∧ CRes F' A' n mm row ∧ (∀ k s, k ≠ 5 → k ≠ 28 → F' k s = F0 k s) ∧ ∀ k, (k < 6 ∨ 9 < k) → (k < 28 ∨ 32 < k) → A' k = A0 k) := by
          intro mC2 F2 A2 hC el2 hW hmC2 hrl hL h8 hg hfF hfA
          refine j_iinc (v := nI (k + 1)) (lv' := [(0, .ref 5), (2, .int (nI (k + 1)))]) dX2_run_185 rfl (nI_add _ 1) (Nat.le_of_ble_eq_true rfl) rfl rfl ?_
          refine j_goto (tgt := 30) dX2_run_188 (by decide) ?_
          exact ih30 (k + 1) (clr lf u) mC2 F2 A2 (by first | exact hC | omega) (by first | exact h1 | omega) el2 (by rw [hstep, hlf]; rfl) (by rw [hstep]; unfold stU; rw [← hRU]; exact hW) hmC2 (by rw [hstep]; unfold stU; rw [← hRU]; exact hrl) (by rw [hstep]; exact hL) (by rw [hstep]; exact h8) (by rw [hstep]; exact hg) (by first | exact hfF | omega) (by first | exact hfA | omega) (by omega)
        refine j_aload_n dX2_run_46 rfl ?_
        refine j_dup dX2_run_47 rfl ?_
        refine j_getI dX2_run_48 flX2_43 (Nat.le_of_ble_eq_true rfl) rfl rfl ?_
        refine j_top (y0 := nI lf) el ?_
        refine j_iconst (v := nI 1) dX2_run_51 (by decide +kernel) ?_
        refine j_iload_n dX2_run_52 rfl ?_
        refine j_ishl dX2_run_53 ?_
        refine j_top (y0 := nI (2 ^ u)) (shl_1 (by omega)) ?_
        refine j_iconst (v := (-1)) dX2_run_54 (by decide +kernel) ?_
        refine j_ixor dX2_run_55 ?_
        refine j_iand dX2_run_56 ?_
        refine j_top (y0 := nI (clr lf u)) (clr_eq _ (by omega) _ (by omega)) ?_
        refine j_putI dX2_run_57 fpX2_43 (Nat.le_of_ble_eq_true rfl) rfl rfl ?_
        have hC := hC.f (k := 5) (s := 6) rfl (nI (clr lf u))
        refine j_aload_n dX2_run_60 rfl ?_
        refine j_getR (r := 6) dX2_run_61 flX2_9 (Nat.le_of_ble_eq_true rfl) rfl rfl ?_
        refine j_iload_n dX2_run_64 rfl ?_
        refine j_iload_n dX2_run_65 rfl ?_
        refine j_iastN dX2_run_66 (Nat.le_of_ble_eq_true rfl) rfl (by omega) (by decide) ?_
        have hC := hC.ord k (t := u) (by omega)
        refine j_aload_n dX2_run_67 rfl ?_
        refine j_getR (r := 9) dX2_run_68 flX2_21 (Nat.le_of_ble_eq_true rfl) rfl rfl ?_
        refine j_iload_n dX2_run_71 rfl ?_
        refine j_aload_n dX2_run_72 rfl ?_
        refine j_iload_n dX2_run_73 rfl ?_
        refine j_callV (y' := mX2_matesLeft) (As := [.int (nI u)]) (st := [.int (nI k), .ref 9]) dX2_run_74 lkX2_50 okX2_matesLeft imX2_matesLeft seX2_matesLeft (Nat.le_of_ble_eq_true rfl) rfl rfl rfl rfl (Nat.le_of_ble_eq_true rfl) (Nat.le_of_ble_eq_true rfl) (x_matesLeft z _ n mm S.1.1 S.1.2.1 mC hn8 hmm hcb htb hmC u (clr lf u) (S.1.2.2 u) hu (mj_u F 5 6 (nI (clr lf u))) (mj_u A 6 k (nI u)) (hW.off (by rfl) (fun i h1 h2 => mj_u_ne _ _ (by omega))) (by rfl) hbs) (fun v74 F74 A74 hq74 => ?_)
        obtain ⟨rfl, rfl, _, rfl, rfl⟩ := hq74
        refine j_iastN dX2_run_77 (Nat.le_of_ble_eq_true rfl) rfl (by omega) (by decide) ?_
        have hC := hC.u (k := 9) rfl k (nI (S.1.2.2 u))
        refine j_aload_n dX2_run_78 rfl ?_
        refine j_getR (r := 7) dX2_run_79 flX2_15 (Nat.le_of_ble_eq_true rfl) rfl rfl ?_
        refine j_iload_n dX2_run_82 rfl ?_
        refine j_aload_n dX2_run_83 rfl ?_
        refine j_getR (r := 9) dX2_run_84 flX2_21 (Nat.le_of_ble_eq_true rfl) rfl rfl ?_
        refine j_iload_n dX2_run_87 rfl ?_
        refine j_ialdN dX2_run_88 (Nat.le_of_ble_eq_true rfl) rfl (by omega) (by decide) ?_
        refine j_top (y0 := nI (S.1.2.2 u)) (mj_u_on (mj_u A 6 k (nI u)) 9 k (nI (S.1.2.2 u))) ?_
        refine j_callS (y' := mJ6_bitCount_0f7a4) (As := [.int (nI (S.1.2.2 u))]) (st := [.int (nI k), .ref 7]) dX2_run_89 lkX2_54 okJ6_bitCount_0f7a4 stJ6_bitCount_0f7a4 rfl (Nat.le_of_ble_eq_true rfl) (Nat.le_of_ble_eq_true rfl) (c_bitCount z _ (nI (S.1.2.2 u)) (mj_u F 5 6 (nI (clr lf u))) (mj_u (mj_u A 6 k (nI u)) 9 k (nI (S.1.2.2 u)))) (fun v89 F89 A89 hq89 => ?_)
        obtain ⟨rfl, rfl, r89, rfl, hr89⟩ := hq89
        have hp89 := pc_le (S.1.2.2 u)
        refine j_top (y0 := nI (pc (S.1.2.2 u))) (hr89.trans (bc_pc _ (by omega))) ?_
        refine j_iconst (v := nI 3) dX2_run_92 (by decide +kernel) ?_
        refine j_min dX2_run_93 lkX2_59 mn_st mn_in mn_co (Nat.le_of_ble_eq_true rfl) ?_
        refine j_top (y0 := nI (r3n (pc (S.1.2.2 u)))) ((min_N' (by omega) (by omega)).trans (by rw [r3n_min])) ?_
        refine j_iastN dX2_run_96 (Nat.le_of_ble_eq_true rfl) rfl (by omega) (by decide) ?_
        have hC := hC.u (k := 7) rfl k (nI (r3n (pc (S.1.2.2 u))))
        have hr3 : (r3n (pc (S.1.2.2 u)) = pc (S.1.2.2 u) ∧ pc (S.1.2.2 u) < 3) ∨ (r3n (pc (S.1.2.2 u)) = 3 ∧ 3 ≤ pc (S.1.2.2 u)) := by unfold r3n; split <;> omega
        refine j_aload_n dX2_run_97 rfl ?_
        refine j_getR (r := 9) dX2_run_98 flX2_21 (Nat.le_of_ble_eq_true rfl) rfl rfl ?_
        refine j_iload_n dX2_run_101 rfl ?_
        refine j_ialdN dX2_run_102 (Nat.le_of_ble_eq_true rfl) rfl (by omega) (by decide) ?_
        refine j_top (y0 := nI (S.1.2.2 u)) (mj_u_on (mj_u A 6 k (nI u)) 9 k (nI (S.1.2.2 u))) ?_
        refine j_callS (y' := mJ6_numberOfTrailingZeros_0f7a4) (As := [.int (nI (S.1.2.2 u))]) (st := []) dX2_run_103 lkX2_65 okJ6_numberOfTrailingZeros_0f7a4 stJ6_numberOfTrailingZeros_0f7a4 rfl (Nat.le_of_ble_eq_true rfl) (Nat.le_of_ble_eq_true rfl) (c_ntzA z _ (S.1.2.2 u) (by omega) (mj_u F 5 6 (nI (clr lf u))) (mj_u (mj_u (mj_u A 6 k (nI u)) 9 k (nI (S.1.2.2 u))) 7 k (nI (r3n (pc (S.1.2.2 u)))))) (fun v103 F103 A103 hq103 => ?_)
        obtain ⟨rfl, rfl, r103, rfl, hr103⟩ := hq103
        refine j_istore (lv' := [(0, .ref 5), (2, .int (nI k)), (3, .int (nI u)), (4, .int r103)]) dX2_run_106 (Nat.le_of_ble_eq_true rfl) rfl rfl ?_
        refine j_aload_n dX2_run_108 rfl ?_
        refine j_getR (r := 7) dX2_run_109 flX2_15 (Nat.le_of_ble_eq_true rfl) rfl rfl ?_
        refine j_iload_n dX2_run_112 rfl ?_
        refine j_ialdN dX2_run_113 (Nat.le_of_ble_eq_true rfl) rfl (by omega) (by decide) ?_
        refine j_top (y0 := nI (r3n (pc (S.1.2.2 u)))) (mj_u_on (mj_u (mj_u A 6 k (nI u)) 9 k (nI (S.1.2.2 u))) 7 k (nI (r3n (pc (S.1.2.2 u))))) ?_
        refine j_iconst (v := nI 1) dX2_run_114 (by decide +kernel) ?_
        refine j_icmp_neN (tgt := 128) dX2_run_115 (by decide) (by omega) (by omega) (fun c115 => ?_) (fun c115 => ?_)
        · refine j_aload_n dX2_run_128 rfl ?_
          refine j_getR (r := 7) dX2_run_129 flX2_15 (Nat.le_of_ble_eq_true rfl) rfl rfl ?_
          refine j_iload_n dX2_run_132 rfl ?_
          refine j_ialdN dX2_run_133 (Nat.le_of_ble_eq_true rfl) rfl (by omega) (by decide) ?_
          refine j_top (y0 := nI (r3n (pc (S.1.2.2 u)))) (mj_u_on (mj_u (mj_u A 6 k (nI u)) 9 k (nI (S.1.2.2 u))) 7 k (nI (r3n (pc (S.1.2.2 u))))) ?_
          refine j_iconst (v := nI 2) dX2_run_134 (by decide +kernel) ?_
          refine j_icmp_neN (tgt := 164) dX2_run_135 (by decide) (by omega) (by omega) (fun c135 => ?_) (fun c135 => ?_)
          · refine j_aload_n dX2_run_164 rfl ?_
            refine j_getR (r := 7) dX2_run_165 flX2_15 (Nat.le_of_ble_eq_true rfl) rfl rfl ?_
            refine j_iload_n dX2_run_168 rfl ?_
            refine j_ialdN dX2_run_169 (Nat.le_of_ble_eq_true rfl) rfl (by omega) (by decide) ?_
            refine j_top (y0 := nI (r3n (pc (S.1.2.2 u)))) (mj_u_on (mj_u (mj_u A 6 k (nI u)) 9 k (nI (S.1.2.2 u))) 7 k (nI (r3n (pc (S.1.2.2 u))))) ?_
            refine j_iconst (v := nI 3) dX2_run_170 (by decide +kernel) ?_
            refine j_icmp_neN (tgt := 185) dX2_run_171 (by decide) (by omega) (by omega) (fun c171 => ?_) (fun c171 => ?_)
            · have hp0 : pc (S.1.2.2 u) = 0 := by omega
              refine j_sub [0, 1] rfl ?_
              exact L185 mC (mj_u F 5 6 (nI (clr lf u))) (mj_u (mj_u (mj_u A 6 k (nI u)) 9 k (nI (S.1.2.2 u))) 7 k (nI (r3n (pc (S.1.2.2 u))))) (by first | exact hC | omega) rfl (by rw [hRU, ru_0 hp0]; exact (hW.off (by rfl) (fun i h1 h2 => by rw [mj_u_ne _ _ (by omega), mj_u_ne _ _ (by omega), mj_u_ne _ _ (by omega)]))) hmC (by rw [hRU, ru_0 hp0]; exact rl_same hlf8 (by omega) hI.2.1.1 hrl) (CL3_step hL rfl rfl rfl (fun _ _ h => h) (fun v hv => (hmb v hv).2.2)) (C8_step hI hu hbu' h8 (fun x hx => rfl) (fun q => by omega) hok.2.2.1) (by show F 5 3 = nI (1 - shw (uvf S.2.2.2.1 k (r3n (pc (S.1.2.2 u)))) (k + 1)); rw [shw_u (by omega)]; exact hg) (fun k s h1 h2 => by rw [mj_u_ne _ _ h1]; exact hfF k s h1 h2) (fun k h1 h2 => by rw [mj_u_ne _ _ (by omega), mj_u_ne _ _ (by omega), mj_u_ne _ _ (by omega)]; exact hfA k h1 h2)
            · have hp3 : 2 < pc (S.1.2.2 u) := by omega
              refine j_aload_n dX2_run_174 rfl ?_
              refine j_iload_n dX2_run_175 rfl ?_
              refine j_aload_n dX2_run_176 rfl ?_
              refine j_getR (r := 9) dX2_run_177 flX2_21 (Nat.le_of_ble_eq_true rfl) rfl rfl ?_
              refine j_iload_n dX2_run_180 rfl ?_
              refine j_ialdN dX2_run_181 (Nat.le_of_ble_eq_true rfl) rfl (by omega) (by decide) ?_
              refine j_top (y0 := nI (S.1.2.2 u)) (mj_u_on (mj_u A 6 k (nI u)) 9 k (nI (S.1.2.2 u))) ?_
              refine j_callV (y' := mX2_guess) (As := [.int (nI u), .int (nI (S.1.2.2 u))]) (st := []) dX2_run_182 lkX2_76 okX2_guess imX2_guess seX2_guess (Nat.le_of_ble_eq_true rfl) rfl rfl rfl rfl (Nat.le_of_ble_eq_true rfl) (Nat.le_of_ble_eq_true rfl) (x_guess z _ T n mm S.1.1 S.1.2.1 mC hn8 hmm hcb htb hmC u (S.1.2.2 u) hu hmu hmb (mj_u F 5 6 (nI (clr lf u))) (mj_u (mj_u (mj_u A 6 k (nI u)) 9 k (nI (S.1.2.2 u))) 7 k (nI (r3n (pc (S.1.2.2 u))))) (hW.off (by rfl) (fun i h1 h2 => by rw [mj_u_ne _ _ (by omega), mj_u_ne _ _ (by omega), mj_u_ne _ _ (by omega)])) hC) (fun v182 F182 A182 hq182 => ?_)
              obtain ⟨rfl, rfl, hC, hW, h8g, hfr⟩ := hq182
              have hru := ru_3 (n := n) (mm := mm) (c := S.1.1) (t := S.1.2.1) (mk := S.1.2.2) (tk := S.2.1.2) (u := u) hp3
              refine j_sub [0, 1] rfl ?_
              exact L185 mC (mj_u (mj_u F 5 6 (nI (clr lf u))) 5 3 (nI 1)) A182 (by first | exact hC | omega) rfl (by rw [hRU, hru]; exact hW) hmC (by rw [hRU, hru]; exact rl_same hlf8 (by omega) hI.2.1.1 hrl) (CL3_step hL (hfr 6 (by decide) (by decide)) (hfr 7 (by decide) (by decide)) (hfr 9 (by decide) (by decide)) (fun _ _ h => h) (fun v hv => (hmb v hv).2.2)) (C8_step hI hu hbu' h8 (fun x hx => by rw [h8g, pk_un hx]; rfl) (fun q => by rw [h8g, pk_us, hru]; show _ = nI (uvf _ u _ u); rw [uvf_at]) hok.2.2.1) (by show nI 1 = nI (1 - shw (uvf S.2.2.2.1 k (r3n (pc (S.1.2.2 u)))) (k + 1)); rw [shw_u3 (by omega)]) (fun k s h1 h2 => by rw [mj_u_ne _ _ h1, mj_u_ne _ _ h1]; exact hfF k s h1 h2) (fun k h1 h2 => by rw [hfr k (by omega) (by omega), mj_u_ne _ _ (by omega), mj_u_ne _ _ (by omega), mj_u_ne _ _ (by omega)]; exact hfA k h1 h2)
          · have hp2 : pc (S.1.2.2 u) = 2 := by omega
            have hs0 := pc_pos (S.1.2.2 u) hmu (by omega)
            have hlb := lob_bt (S.1.2.2 u) hmu hs0
            obtain rfl := hr103 hs0
            have hv_ := hmb _ hlb.2
            have hcpc := clr_pc (S.1.2.2 u) hmu _ hlb.1 hlb.2
            have hcl9 := Nat.lt_of_le_of_lt (clr_le (S.1.2.2 u) (lob (S.1.2.2 u))) hmu
            have hcl0 := pc_pos (clr (S.1.2.2 u) (lob (S.1.2.2 u))) hcl9 (by omega)
            refine j_aload_n dX2_run_138 rfl ?_
            refine j_iload_n dX2_run_139 rfl ?_
            refine j_iload dX2_run_140 rfl ?_
            refine j_aload_n dX2_run_142 rfl ?_
            refine j_getR (r := 9) dX2_run_143 flX2_21 (Nat.le_of_ble_eq_true rfl) rfl rfl ?_
            refine j_iload_n dX2_run_146 rfl ?_
            refine j_ialdN dX2_run_147 (Nat.le_of_ble_eq_true rfl) rfl (by omega) (by decide) ?_
            refine j_top (y0 := nI (S.1.2.2 u)) (mj_u_on (mj_u A 6 k (nI u)) 9 k (nI (S.1.2.2 u))) ?_
            refine j_iconst (v := nI 1) dX2_run_148 (by decide +kernel) ?_
            refine j_iload dX2_run_149 rfl ?_
            refine j_ishl dX2_run_151 ?_
            refine j_top (y0 := nI (2 ^ lob (S.1.2.2 u))) (shl_1 hlb.1) ?_
            refine j_iconst (v := (-1)) dX2_run_152 (by decide +kernel) ?_
            refine j_ixor dX2_run_153 ?_
            refine j_iand dX2_run_154 ?_
            refine j_top (y0 := nI (clr (S.1.2.2 u) (lob (S.1.2.2 u)))) (clr_eq _ hmu _ hlb.1) ?_
            refine j_callS (y' := mJ6_numberOfTrailingZeros_0f7a4) (As := [.int (nI (clr (S.1.2.2 u) (lob (S.1.2.2 u))))]) (st := [.int (nI (lob (S.1.2.2 u))), .int (nI u), .ref 5]) dX2_run_155 lkX2_65 okJ6_numberOfTrailingZeros_0f7a4 stJ6_numberOfTrailingZeros_0f7a4 rfl (Nat.le_of_ble_eq_true rfl) (Nat.le_of_ble_eq_true rfl) (c_ntz z _ (clr (S.1.2.2 u) (lob (S.1.2.2 u))) (by omega) hcl0 (mj_u F 5 6 (nI (clr lf u))) (mj_u (mj_u (mj_u A 6 k (nI u)) 9 k (nI (S.1.2.2 u))) 7 k (nI (r3n (pc (S.1.2.2 u)))))) (fun v155 F155 A155 hq155 => ?_)
            obtain ⟨rfl, rfl, _, rfl, rfl⟩ := hq155
            have hl2 := lo2_bt hmu (show 1 < pc (S.1.2.2 u) by omega)
            have hw_ := hmb _ hl2.2.1
            refine j_callV (y' := mX2_foldIntoTwo) (As := [.int (nI u), .int (nI (lob (S.1.2.2 u))), .int (nI (lo2 (S.1.2.2 u)))]) (st := []) dX2_run_158 lkX2_72 okX2_foldIntoTwo imX2_foldIntoTwo seX2_foldIntoTwo (Nat.le_of_ble_eq_true rfl) rfl rfl rfl rfl (Nat.le_of_ble_eq_true rfl) (Nat.le_of_ble_eq_true rfl) (x_foldIntoTwo z _ T n mm S.1.1 S.1.2.1 mC hn8 hmm hcb htb hmC u (lob (S.1.2.2 u)) (lo2 (S.1.2.2 u)) hu hv_.1 hw_.1 hv_.2.1 hw_.2.1 (Ne.symm hl2.2.2) hv_.2.2 hw_.2.2 (fun q i j => hI.2.1.2.2.2 _ _ i j (by rw [← hlf]; exact (hsub _ hlb.2).1) (by rw [← hlf]; exact (hsub _ hl2.2.1).1) (fun q2 => q ((hrl _ _ (hsub _ hlb.2).1 (hsub _ hl2.2.1).1).mpr q2))) hI.1.2.2 (mj_u F 5 6 (nI (clr lf u))) (mj_u (mj_u (mj_u A 6 k (nI u)) 9 k (nI (S.1.2.2 u))) 7 k (nI (r3n (pc (S.1.2.2 u))))) (hW.off (by rfl) (fun i h1 h2 => by rw [mj_u_ne _ _ (by omega), mj_u_ne _ _ (by omega), mj_u_ne _ _ (by omega)])) hC) (fun v158 F158 A158 hq158 => ?_)
            obtain ⟨rfl, rfl, hC, ⟨mC2, hW, hmC2, hmq⟩, hfr⟩ := hq158
            have hru := ru_2 (n := n) (mm := mm) (c := S.1.1) (t := S.1.2.1) (mk := S.1.2.2) (tk := S.2.1.2) (u := u) hp2
            refine j_goto (tgt := 185) dX2_run_161 (by decide) ?_
            refine j_sub [0, 1] rfl ?_
            exact L185 mC2 (mj_u F 5 6 (nI (clr lf u))) A158 (by first | exact hC | omega) rfl (by rw [hRU, hru]; exact hW) hmC2 (by rw [hRU, hru]; exact rl_same hlf8 (by omega) (jn_lt hI.2.1.1 hlb.1 hl2.1) (rl_jn (Ne.symm hl2.2.2) (hsub _ hlb.2).1 (hsub _ hl2.2.1).1 (by rw [hlf]; exact hI.2.1.2.2.1) hrl hmq)) (CL3_step hL (hfr 6 (by decide) (by decide)) (hfr 7 (by decide) (by decide)) (hfr 9 (by decide) (by decide)) (jn_mono (Ne.symm hl2.2.2) hmq) (fun v hv => (hmb v hv).2.2)) (C8_step hI hu hbu' h8 (fun x hx => congrFun (hfr 8 (by decide) (by decide)) x) (fun q => by omega) hok.2.2.1) (by show F 5 3 = nI (1 - shw (uvf S.2.2.2.1 k (r3n (pc (S.1.2.2 u)))) (k + 1)); rw [shw_u (by omega)]; exact hg) (fun k s h1 h2 => by rw [mj_u_ne _ _ h1]; exact hfF k s h1 h2) (fun k h1 h2 => by rw [hfr k (by omega) (by omega), mj_u_ne _ _ (by omega), mj_u_ne _ _ (by omega), mj_u_ne _ _ (by omega)]; exact hfA k h1 h2)
        · have hp1 : pc (S.1.2.2 u) = 1 := by omega
          have hs0 := pc_pos (S.1.2.2 u) hmu (by omega)
          have hlb := lob_bt (S.1.2.2 u) hmu hs0
          obtain rfl := hr103 hs0
          have hv_ := hmb _ hlb.2
          refine j_aload_n dX2_run_118 rfl ?_
          refine j_iload_n dX2_run_119 rfl ?_
          refine j_iload dX2_run_120 rfl ?_
          refine j_callV (y' := mX2_foldIntoOne) (As := [.int (nI u), .int (nI (lob (S.1.2.2 u)))]) (st := []) dX2_run_122 lkX2_68 okX2_foldIntoOne imX2_foldIntoOne seX2_foldIntoOne (Nat.le_of_ble_eq_true rfl) rfl rfl rfl rfl (Nat.le_of_ble_eq_true rfl) (Nat.le_of_ble_eq_true rfl) (x_foldIntoOne z _ T n mm S.1.1 S.1.2.1 mC hn8 hmm hcb htb hmC u (lob (S.1.2.2 u)) hu hv_.1 hv_.2.1 hv_.2.2 (mj_u F 5 6 (nI (clr lf u))) (mj_u (mj_u (mj_u A 6 k (nI u)) 9 k (nI (S.1.2.2 u))) 7 k (nI (r3n (pc (S.1.2.2 u))))) (hW.off (by rfl) (fun i h1 h2 => by rw [mj_u_ne _ _ (by omega), mj_u_ne _ _ (by omega), mj_u_ne _ _ (by omega)])) hC) (fun v122 F122 A122 hq122 => ?_)
          obtain ⟨rfl, rfl, hC, hW, hfr⟩ := hq122
          have hru := ru_1 (n := n) (mm := mm) (c := S.1.1) (t := S.1.2.1) (mk := S.1.2.2) (tk := S.2.1.2) (u := u) hp1
          refine j_goto (tgt := 185) dX2_run_125 (by decide) ?_
          refine j_sub [0, 1] rfl ?_
          exact L185 mC (mj_u F 5 6 (nI (clr lf u))) A122 (by first | exact hC | omega) rfl (by rw [hRU, hru]; exact hW) hmC (by rw [hRU, hru]; exact rl_same hlf8 (by omega) hI.2.1.1 hrl) (CL3_step hL (hfr 6 (by decide)) (hfr 7 (by decide)) (hfr 9 (by decide)) (fun _ _ h => h) (fun v hv => (hmb v hv).2.2)) (C8_step hI hu hbu' h8 (fun x hx => congrFun (hfr 8 (by decide)) x) (fun q => by omega) hok.2.2.1) (by show F 5 3 = nI (1 - shw (uvf S.2.2.2.1 k (r3n (pc (S.1.2.2 u)))) (k + 1)); rw [shw_u (by omega)]; exact hg) (fun k s h1 h2 => by rw [mj_u_ne _ _ h1]; exact hfF k s h1 h2) (fun k h1 h2 => by rw [hfr k (by omega), mj_u_ne _ _ (by omega), mj_u_ne _ _ (by omega), mj_u_ne _ _ (by omega)]; exact hfA k h1 h2)
  refine j_iconst (v := nI 0) dX2_run_28 (by decide +kernel) ?_
  refine j_istore_n (lv' := [(0, .ref 5), (1, .ref 33), (2, .int (nI 0))]) dX2_run_29 (Nat.le_of_ble_eq_true rfl) rfl rfl ?_
  refine j_sub [0, 2] rfl ?_
  exact L30 _ 0 (2 ^ n - 1) (mk0 n row) (mj_u (mj_u (mj_u F0 28 0 (nI n)) 5 3 (nI 0)) 5 6 (nI ((2 ^ n) - 1))) A5 (by first | exact hC | omega) (Nat.zero_le _) rfl rfl (hW.off (by rfl) (fun _ _ _ => rfl)) (mk0_lt n row) (fun _ _ _ _ => Iff.rfl) (fun q hq => absurd hq (Nat.not_lt_zero q)) (fun q hq => absurd hq (Nat.not_lt_zero q)) rfl (fun k s h1 h2 => by rw [mj_u_ne _ _ h1, mj_u_ne _ _ h1, mj_u_ne _ _ h2]) (fun k h1 h2 => hwf k (by omega)) (Nat.lt_succ_self _)

/-! the search, exact -/
theorem sm_congr {c : CF} {t : TF} {s : Nat} {p q : VF} {u i : Nat} (h : ∀ v, s / 2 ^ v % 2 = 1 → p v = q v) : ∀ v, sm c t s p u i v = sm c t s q u i v
  | 0 => rfl
  | v + 1 => by
    by_cases e : s / 2 ^ v % 2 = 1
    · rw [sm_t e, sm_t e, sm_congr h v, h v e]
    · rw [sm_f e, sm_f e]; exact sm_congr h v
/-- what the search knows -/
def SRL (F A : mj_S) (n : Nat) (s : SSt) : Prop := (F 10 0 = nI s.1.1 ∧ F 10 1 = nI s.1.2.1 ∧ F 10 2 = nI s.1.2.2) ∧ (s.1.1 < 1000000 → F 10 3 = nI (smB n s) ∧ ∀ u, u < n → A 11 u = nI (s.2.1 u))
def SRB (F : mj_S) (b : Nat) : Prop := F 14 0 = nI b ∧ F 14 1 = nI b
theorem SRL.off {F A F' A' : mj_S} {n : Nat} {s : SSt} (h : SRL F A n s) (hF : ∀ k, k < 4 → F' 10 k = F 10 k) (hA : A' 11 = A 11) : SRL F' A' n s := ⟨⟨(hF 0 (by omega)).trans h.1.1, (hF 1 (by omega)).trans h.1.2.1, (hF 2 (by omega)).trans h.1.2.2⟩, fun q => ⟨(hF 3 (by omega)).trans (h.2 q).1, fun u hu => by rw [hA]; exact (h.2 q).2 u hu⟩⟩
/-- before a node is tried; and behind it -/
def TP (T : Tg) (n : Nat) (mm : VF) (c : CF) (t : TF) (mk : VF) (u : Nat) (p : VF) (s : SSt) (x : Nat) (F A : mj_S) : Prop := CI T F A ∧ WT F A 18 n mm c t mk ∧ (∀ v, v ≤ n → A 13 v = nI (rsN c mm n (n - v))) ∧ SRL F A n s ∧ SI n s ∧ (∀ v, v < u → A 12 v = nI (p v) ∧ p v < mm v) ∧ x = pcu c t mk p u ∧ x < s.1.2.1 ∧ F 10 8 = nI 0
def TQ (T : Tg) (n : Nat) (mm : VF) (c : CF) (t : TF) (mk : VF) (u : Nat) (p : VF) (s : SSt) (F A : mj_S) : Option Value → mj_S → mj_S → Prop := fun v F' A' => v = none ∧ CI T F' A' ∧ SRL F' A' n (dfs mm (fS c t mk n) (n - u) u p s) ∧ (∀ k s, k ≠ 10 → F' k s = F k s) ∧ F' 10 8 = F 10 8 ∧ (∀ k, k ≠ 11 → k ≠ 12 → A' k = A k) ∧ ∀ v, v < u → A' 12 v = A 12 v
def TPB (T : Tg) (n : Nat) (mm : VF) (c : CF) (t : TF) (mk : VF) (u : Nat) (p : VF) (b : Nat) (x : Nat) (F A : mj_S) : Prop := CI T F A ∧ WT F A 23 n mm c t mk ∧ (∀ v, v ≤ n → A 17 v = nI (rsN c mm n (n - v))) ∧ SRB F b ∧ b ≤ 1000000 ∧ (∀ v, v < u → A 16 v = nI (p v) ∧ p v < mm v) ∧ x = pcu c t mk p u ∧ x < b ∧ F 14 8 = nI 1
def TQB (T : Tg) (n : Nat) (mm : VF) (c : CF) (t : TF) (mk : VF) (u : Nat) (p : VF) (b : Nat) (F A : mj_S) : Option Value → mj_S → mj_S → Prop := fun v F' A' => v = none ∧ CI T F' A' ∧ SRB F' (dfs mm (fB c t mk n) (n - u) u p b) ∧ (∀ k s, k ≠ 14 → F' k s = F k s) ∧ F' 14 8 = F 14 8 ∧ (∀ k, k ≠ 15 → k ≠ 16 → A' k = A k) ∧ ∀ v, v < u → A' 16 v = A 16 v
theorem dfs_u {α : Type} {mm : VF} {f : VF → α → α} {n u : Nat} {p : VF} {s : α} (hu : u < n) : dfs mm f (n - u) u p s = itr (fun i s => dfs mm f (n - (u + 1)) (u + 1) (uvf p u i) s) (mm u) s := by
  rw [show n - u = (n - (u + 1)) + 1 by omega]
  rfl
theorem dfs_n {α : Type} {mm : VF} {f : VF → α → α} {n : Nat} {p : VF} {s : α} : dfs mm f (n - n) n p s = f p s := by
  rw [Nat.sub_self]
  rfl
theorem fB_le {c : CF} {t : TF} {mk : VF} {n : Nat} {p : VF} {b : Nat} (h : b ≤ 1000000) : fB c t mk n p b ≤ 1000000 := by
  unfold fB
  split <;> omega
/-- the next node's part of a beginning -/
theorem more_e {c : CF} {t : TF} {mk p : VF} {n u i x : Nat} (hc : ∀ a b, c a b ≤ 1000000) (hu : u < n) (hx : x = pcu c t mk p u) : pcu c t mk (uvf p u i) (u + 1) = cap (x + sm c t (mk u % 2 ^ u) p u i n) := by
  rw [pcu_sm hc (show u ≤ n by omega), uvf_at, pcu_congr (q := p) (fun v hv => uvf_ne (by omega)), ← hx]
  congr 2
  exact sm_congr (fun v hv => uvf_ne (by have := (mb_bt.mp hv).1; omega)) n
theorem uv_lt {p mm : VF} {u i : Nat} (hp : ∀ v, v < u → p v < mm v) (hi : i < mm u) : ∀ v, v < u + 1 → uvf p u i v < mm v := fun v hv => by
  by_cases e : v = u
  · rw [e, uvf_at]; exact hi
  · rw [uvf_ne e]; exact hp v (by omega)
theorem skip_S {c : CF} {t : TF} {mk mm p : VF} {n u i x : Nat} {s : SSt} (hc : ∀ a b, c a b ≤ 1000000) (hu : u < n) (hp : ∀ v, v < u → p v < mm v) (hi : i < mm u) (hx : x = pcu c t mk p u) (hs : SI n s) (h : s.1.2.1 ≤ x + sm c t (mk u % 2 ^ u) p u i n + rsN c mm n (n - (u + 1))) : dfs mm (fS c t mk n) (n - (u + 1)) (u + 1) (uvf p u i) s = s := by
  refine dfs_id _ _ _ (fun q h1 h2 => ?_)
  exact mt_id hs (prune (mm := mm) (u := u + 1) (p := uvf p u i) (by omega) (more_e hc hu hx) hs.bn.2 h h1 (fun v hv => by
    by_cases e : v < u + 1
    · rw [h1 v e]; exact uv_lt hp hi v e
    · exact h2 v (by omega) (by omega))) (pcu_le n)
theorem skip_B {c : CF} {t : TF} {mk mm p : VF} {n u i x b : Nat} (hc : ∀ a b, c a b ≤ 1000000) (hu : u < n) (hp : ∀ v, v < u → p v < mm v) (hi : i < mm u) (hx : x = pcu c t mk p u) (hb : b ≤ 1000000) (h : b ≤ x + sm c t (mk u % 2 ^ u) p u i n + rsN c mm n (n - (u + 1))) : dfs mm (fB c t mk n) (n - (u + 1)) (u + 1) (uvf p u i) b = b := by
  refine dfs_id _ _ _ (fun q h1 h2 => ?_)
  have h3 := prune (mm := mm) (u := u + 1) (p := uvf p u i) (by omega) (more_e hc hu hx) hb h h1 (fun v hv => by
    by_cases e : v < u + 1
    · rw [h1 v e]; exact uv_lt hp hi v e
    · exact h2 v (by omega) (by omega))
  exact if_neg (by omega)
theorem SI_it {c : CF} {t : TF} {mk mm p : VF} {n u : Nat} {s : SSt} (h4 : ∀ v, v < n → mm v ≤ 4) (hu : u < n) (hp : ∀ v, v < u → p v < mm v) (hs : SI n s) {i : Nat} (hi : i ≤ mm u) : SI n (itr (fun i s => dfs mm (fS c t mk n) (n - (u + 1)) (u + 1) (uvf p u i) s) i s) :=
  itr_inv (SI n) (fun k s hk hs => SI_dfs h4 (by omega) (uv_lt hp (by omega)) hs) s hs
theorem B_it {c : CF} {t : TF} {mk mm p : VF} {n u : Nat} {b : Nat} (hb : b ≤ 1000000) (i : Nat) : itr (fun i b => dfs mm (fB c t mk n) (n - (u + 1)) (u + 1) (uvf p u i) b) i b ≤ 1000000 :=
  itr_inv (fun b => b ≤ 1000000) (fun k s hk hs => dfs_inv (fun b => b ≤ 1000000) _ _ _ (fun q s _ _ hs => fB_le hs) s hs) b hb

set_option maxHeartbeats 400000 in
set_option maxRecDepth 100000 in
theorem x_likeFirst (z : mj_B) (d n : Nat) (hn : n ≤ 8) (p f : VF) (F A : mj_S) (en : F 18 0 = nI n) (hp : ∀ u, u < n → A 12 u = nI (p u) ∧ p u < 4) (hfs : ∀ u, u < n → A 11 u = nI (f u) ∧ f u < 4) : J (gC z) mX3_likeFirst d 0 [(0, .ref 10)] [] F A (qN F A fun r => r = bsP (fun u => p u == f u) n) := by
  have L4 : ∀ (fuel : Nat) (bi : Nat) (u : Nat), (u ≤ n) → (bi = bsP (fun u => p u == f u) u) → n - u < fuel → J (gC z) mX3_likeFirst d 4 [(0, .ref 10), (1, .int (nI bi)), (2, .int (nI u))] [] F A (qN F A fun r => r = bsP (fun u => p u == f u) n) := by
    intro fuel
    induction fuel with
    | zero => intro bi u h1 hbi hf; exact absurd hf (by omega)
    | succ fuel ih4 =>
      intro bi u h1 hbi hf
      refine j_iload_n dX3_likeFirst_4 rfl ?_
      refine j_aload_n dX3_likeFirst_5 rfl ?_
      refine j_getR (r := 18) dX3_likeFirst_6 flX3_21 (Nat.le_of_ble_eq_true rfl) rfl rfl ?_
      refine j_getI dX3_likeFirst_9 flX3_43 (Nat.le_of_ble_eq_true rfl) rfl rfl ?_
      refine j_top (y0 := nI n) en ?_
      refine j_icmp_geN (tgt := 42) dX3_likeFirst_12 (by decide) (by omega) (by omega) (fun c12 => ?_) (fun c12 => ?_)
      · refine j_iload_n dX3_likeFirst_42 rfl ?_
        exact j_iret dX3_likeFirst_43 rfl rfl ⟨rfl, rfl, _, rfl, by rw [hbi, show u = n by omega]⟩
      · refine j_aload_n dX3_likeFirst_15 rfl ?_
        refine j_getR (r := 12) dX3_likeFirst_16 flX3_15 (Nat.le_of_ble_eq_true rfl) rfl rfl ?_
        refine j_iload_n dX3_likeFirst_19 rfl ?_
        refine j_ialdN dX3_likeFirst_20 (Nat.le_of_ble_eq_true rfl) rfl (by omega) (by decide) ?_
        have hpu := hp u (by omega)
        refine j_top (y0 := nI (p u)) hpu.1 ?_
        refine j_aload_n dX3_likeFirst_21 rfl ?_
        refine j_getR (r := 11) dX3_likeFirst_22 flX3_9 (Nat.le_of_ble_eq_true rfl) rfl rfl ?_
        refine j_iload_n dX3_likeFirst_25 rfl ?_
        refine j_ialdN dX3_likeFirst_26 (Nat.le_of_ble_eq_true rfl) rfl (by omega) (by decide) ?_
        have hfu := hfs u (by omega)
        refine j_top (y0 := nI (f u)) hfu.1 ?_
        refine j_icmp_neN (tgt := 36) dX3_likeFirst_27 (by decide) (by omega) (by omega) (fun c27 => ?_) (fun c27 => ?_)
        · have hno : ¬ (p u == f u) = true := by rw [beq_iff_eq]; exact c27
          refine j_iinc (v := nI (u + 1)) (lv' := [(0, .ref 10), (1, .int (nI bi)), (2, .int (nI (u + 1)))]) dX3_likeFirst_36 rfl (nI_add _ 1) (Nat.le_of_ble_eq_true rfl) rfl rfl ?_
          refine j_goto (tgt := 4) dX3_likeFirst_39 (by decide) ?_
          exact ih4 bi (u + 1) (by first | exact h1 | omega) (by first | (rw [bsP_f (P := fun u => p u == f u) hno]; exact hbi) | rw [bsP_t (P := fun u => p u == f u) hye, ← hbi]) (by omega)
        · have hye : (p u == f u) = true := by rw [beq_iff_eq]; exact c27
          refine j_iload_n dX3_likeFirst_30 rfl ?_
          refine j_iconst (v := nI 1) dX3_likeFirst_31 (by decide +kernel) ?_
          refine j_iload_n dX3_likeFirst_32 rfl ?_
          refine j_ishl dX3_likeFirst_33 ?_
          refine j_top (y0 := nI (2 ^ u)) (shl_1 (by omega)) ?_
          refine j_ior dX3_likeFirst_34 ?_
          refine j_top (y0 := nI (bi ||| (2 ^ u))) (fa_or _ _) ?_
          refine j_istore_n (lv' := [(0, .ref 10), (1, .int (nI (bi ||| (2 ^ u)))), (2, .int (nI u))]) dX3_likeFirst_35 (Nat.le_of_ble_eq_true rfl) rfl rfl ?_
          refine j_iinc (v := nI (u + 1)) (lv' := [(0, .ref 10), (1, .int (nI (bi ||| (2 ^ u)))), (2, .int (nI (u + 1)))]) dX3_likeFirst_36 rfl (nI_add _ 1) (Nat.le_of_ble_eq_true rfl) rfl rfl ?_
          refine j_goto (tgt := 4) dX3_likeFirst_39 (by decide) ?_
          exact ih4 (bi ||| (2 ^ u)) (u + 1) (by first | exact h1 | omega) (by first | (rw [bsP_f (P := fun u => p u == f u) hno]; exact hbi) | rw [bsP_t (P := fun u => p u == f u) hye, ← hbi]) (by omega)
  refine j_iconst (v := nI 0) dX3_likeFirst_0 (by decide +kernel) ?_
  refine j_istore_n (lv' := [(0, .ref 10), (1, .int (nI 0))]) dX3_likeFirst_1 (Nat.le_of_ble_eq_true rfl) rfl rfl ?_
  refine j_iconst (v := nI 0) dX3_likeFirst_2 (by decide +kernel) ?_
  refine j_istore_n (lv' := [(0, .ref 10), (1, .int (nI 0)), (2, .int (nI 0))]) dX3_likeFirst_3 (Nat.le_of_ble_eq_true rfl) rfl rfl ?_
  exact L4 _ 0 0 (Nat.zero_le _) rfl (Nat.lt_succ_self _)

set_option maxHeartbeats 400000 in
set_option maxRecDepth 100000 in
theorem x_takeIn10 (z : mj_B) (d : Nat) (T : Tg) (n : Nat) (hn : n ≤ 8) (x : Nat) (p : VF) (s : SSt) (hI : SI n s) (hx : x < s.1.2.1) (F0 A0 : mj_S) (hC : CI T F0 A0) (en : F0 18 0 = nI n) (hSR : SRL F0 A0 n s) (hb8 : F0 10 8 = nI 0) (hp : ∀ u, u < n → A0 12 u = nI (p u) ∧ p u < 4) : J (gC z) mX3_takeIn (d + 2) 0 [(0, .ref 10), (1, .int (nI x))] [] F0 A0 (fun _v F' A' => _v = none ∧ CI T F' A' ∧ SRL F' A' n (mt x p s) ∧ (∀ k s, k ≠ 10 → F' k s = F0 k s) ∧ F' 10 8 = F0 10 8 ∧ ∀ k, k ≠ 11 → A' k = A0 k) := by
  have hbn := hI.bn
  have hp2 := p2_le hn
  refine j_iload_n dX3_takeIn_0 rfl ?_
  refine j_aload_n dX3_takeIn_1 rfl ?_
  refine j_getI dX3_takeIn_2 flX3_30 (Nat.le_of_ble_eq_true rfl) rfl rfl ?_
  refine j_top (y0 := nI (s.1.1)) hSR.1.1 ?_
  refine j_icmp_geN (tgt := 66) dX3_takeIn_5 (by decide) (by omega) (by omega) (fun c5 => ?_) (fun c5 => ?_)
  · refine j_iload_n dX3_takeIn_66 rfl ?_
    refine j_aload_n dX3_takeIn_67 rfl ?_
    refine j_getI dX3_takeIn_68 flX3_30 (Nat.le_of_ble_eq_true rfl) rfl rfl ?_
    refine j_top (y0 := nI (s.1.1)) hSR.1.1 ?_
    refine j_icmp_neN (tgt := 100) dX3_takeIn_71 (by decide) (by omega) (by omega) (fun c71 => ?_) (fun c71 => ?_)
    · refine j_aload_n dX3_takeIn_100 rfl ?_
      refine j_iload_n dX3_takeIn_101 rfl ?_
      refine j_putI dX3_takeIn_102 fpX3_34 (Nat.le_of_ble_eq_true rfl) rfl rfl ?_
      have hC := hC.f (k := 10) (s := 1) rfl (nI x)
      exact j_vret dX3_takeIn_105 rfl ⟨rfl, hC, ⟨by rw [mt_3 (by omega) hx]; exact ⟨hSR.1.1, rfl, hSR.1.2.2⟩, fun q => by rw [mt_3 (show s.1.1 < x by omega) hx] at q; rw [smB_3 (by omega) hx, mt_3 (show s.1.1 < x by omega) hx]; exact hSR.2 q⟩, (fun k s hk => by rw [mj_u_ne _ _ hk]), rfl, fun k hk => rfl⟩
    · have hb6 : s.1.1 < 1000000 := by omega
      have h3s := (hSR.2 hb6).1
      refine j_aload_n dX3_takeIn_74 rfl ?_
      refine j_dup dX3_takeIn_75 rfl ?_
      refine j_getI dX3_takeIn_76 flX3_37 (Nat.le_of_ble_eq_true rfl) rfl rfl ?_
      refine j_top (y0 := nI (s.1.2.2)) hSR.1.2.2 ?_
      refine j_iconst (v := nI 1) dX3_takeIn_79 (by decide +kernel) ?_
      refine j_iaddN dX3_takeIn_80 ?_
      refine j_putI dX3_takeIn_81 fpX3_37 (Nat.le_of_ble_eq_true rfl) rfl rfl ?_
      have hC := hC.f (k := 10) (s := 2) rfl (nI (s.1.2.2 + 1))
      refine j_aload_n dX3_takeIn_84 rfl ?_
      refine j_dup dX3_takeIn_85 rfl ?_
      refine j_getI dX3_takeIn_86 flX3_40 (Nat.le_of_ble_eq_true rfl) rfl rfl ?_
      refine j_top (y0 := nI (smB n s)) h3s ?_
      refine j_aload_n dX3_takeIn_89 rfl ?_
      refine j_callV (y' := mX3_likeFirst) (As := []) (st := [.int (nI (smB n s)), .ref 10]) dX3_takeIn_90 lkX3_77 okX3_likeFirst imX3_likeFirst seX3_likeFirst (Nat.le_of_ble_eq_true rfl) rfl rfl rfl rfl (Nat.le_of_ble_eq_true rfl) (Nat.le_of_ble_eq_true rfl) (x_likeFirst z _ n hn p s.2.1 (mj_u F0 10 2 (nI (s.1.2.2 + 1))) A0 en hp (fun u hu => ⟨(hSR.2 hb6).2 u hu, (hI.2 hb6 u hu).1⟩)) (fun v90 F90 A90 hq90 => ?_)
      obtain ⟨rfl, rfl, _, rfl, rfl⟩ := hq90
      refine j_iand dX3_takeIn_93 ?_
      refine j_top (y0 := nI ((smB n s) &&& (bsP (fun u => p u == s.2.1 u) n))) (fa_and _ _) ?_
      refine j_putI dX3_takeIn_94 fpX3_40 (Nat.le_of_ble_eq_true rfl) rfl rfl ?_
      have hC := hC.f (k := 10) (s := 3) rfl (nI ((smB n s) &&& (bsP (fun u => p u == s.2.1 u) n)))
      refine j_goto (tgt := 105) dX3_takeIn_97 (by decide) ?_
      exact j_vret dX3_takeIn_105 rfl ⟨rfl, hC, ⟨by rw [mt_2 c71 (by omega)]; exact ⟨hSR.1.1, hSR.1.2.1, rfl⟩, fun _ => ⟨(congrArg nI (smB_2 hI c71 (by omega) (fun u hu => (hp u hu).2))).symm, fun u hu => by rw [mt_2 c71 (by omega)]; exact (hSR.2 hb6).2 u hu⟩⟩, (fun k s hk => by rw [mj_u_ne _ _ hk, mj_u_ne _ _ hk]), rfl, fun k hk => rfl⟩
  · refine j_aload_n dX3_takeIn_8 rfl ?_
    refine j_aload_n dX3_takeIn_9 rfl ?_
    refine j_getI dX3_takeIn_10 flX3_25 (Nat.le_of_ble_eq_true rfl) rfl rfl ?_
    refine j_top (y0 := nI 0) hb8 ?_
    refine j_if_eqN (tgt := 20) dX3_takeIn_13 (by decide) (by omega) (fun c13 => ?_) (fun c13 => ?_)
    · refine j_aload_n dX3_takeIn_20 rfl ?_
      refine j_getI dX3_takeIn_21 flX3_30 (Nat.le_of_ble_eq_true rfl) rfl rfl ?_
      refine j_top (y0 := nI (s.1.1)) hSR.1.1 ?_
      refine j_putI dX3_takeIn_24 fpX3_34 (Nat.le_of_ble_eq_true rfl) rfl rfl ?_
      have hC := hC.f (k := 10) (s := 1) rfl (nI (s.1.1))
      refine j_aload_n dX3_takeIn_27 rfl ?_
      refine j_iload_n dX3_takeIn_28 rfl ?_
      refine j_putI dX3_takeIn_29 fpX3_30 (Nat.le_of_ble_eq_true rfl) rfl rfl ?_
      have hC := hC.f (k := 10) (s := 0) rfl (nI x)
      refine j_aload_n dX3_takeIn_32 rfl ?_
      refine j_iconst (v := nI 1) dX3_takeIn_33 (by decide +kernel) ?_
      refine j_putI dX3_takeIn_34 fpX3_37 (Nat.le_of_ble_eq_true rfl) rfl rfl ?_
      have hC := hC.f (k := 10) (s := 2) rfl (nI 1)
      refine j_aload_n dX3_takeIn_37 rfl ?_
      refine j_iconst (v := nI 1) dX3_takeIn_38 (by decide +kernel) ?_
      refine j_aload_n dX3_takeIn_39 rfl ?_
      refine j_getR (r := 18) dX3_takeIn_40 flX3_21 (Nat.le_of_ble_eq_true rfl) rfl rfl ?_
      refine j_getI dX3_takeIn_43 flX3_43 (Nat.le_of_ble_eq_true rfl) rfl rfl ?_
      refine j_top (y0 := nI n) en ?_
      refine j_ishl dX3_takeIn_46 ?_
      refine j_top (y0 := nI (2 ^ n)) (shl_1' (by omega)) ?_
      refine j_iconst (v := nI 1) dX3_takeIn_47 (by decide +kernel) ?_
      refine j_isubN dX3_takeIn_48 (by omega) ?_
      refine j_putI dX3_takeIn_49 fpX3_40 (Nat.le_of_ble_eq_true rfl) rfl rfl ?_
      have hC := hC.f (k := 10) (s := 3) rfl (nI ((2 ^ n) - 1))
      refine j_aload_n dX3_takeIn_52 rfl ?_
      refine j_getR (r := 12) dX3_takeIn_53 flX3_15 (Nat.le_of_ble_eq_true rfl) rfl rfl ?_
      refine j_aload_n dX3_takeIn_56 rfl ?_
      refine j_getR (r := 11) dX3_takeIn_57 flX3_9 (Nat.le_of_ble_eq_true rfl) rfl rfl ?_
      refine j_callSN (y' := mX5_copyRow) (As := [.ref 12, .ref 11]) (st := []) dX3_takeIn_60 lnX3_73 okX5_copyRow stX5_copyRow rfl (Nat.le_of_ble_eq_true rfl) (Nat.le_of_ble_eq_true rfl) (c_copyRow z _ 12 11 8 (by decide) (Nat.le_of_ble_eq_true rfl) rfl (Nat.le_of_ble_eq_true rfl) rfl (mj_u (mj_u (mj_u (mj_u F0 10 1 (nI (s.1.1))) 10 0 (nI x)) 10 2 (nI 1)) 10 3 (nI ((2 ^ n) - 1))) A0) (fun v60 F60 A60 hq60 => ?_)
      obtain ⟨rfl, rfl, rfl⟩ := hq60
      have hC := hC.a (k := 11) rfl (va_cpy (A0 12) (A0 11) 0 0 8)
      refine j_goto (tgt := 105) dX3_takeIn_63 (by decide) ?_
      exact j_vret dX3_takeIn_105 rfl ⟨rfl, hC, by rw [mt_1 c5]; exact ⟨⟨rfl, rfl, rfl⟩, fun _ => ⟨(congrArg nI (by rw [← mt_1 (p := p) c5]; exact smB_1 hn c5)).symm, fun u hu => by rw [mj_a_at, va_cpy8 (by omega)]; exact (hp u hu).1⟩⟩, (fun k s hk => by rw [mj_u_ne _ _ hk, mj_u_ne _ _ hk, mj_u_ne _ _ hk, mj_u_ne _ _ hk]), rfl, fun k hk => mj_a_ne _ _ hk⟩
    · exfalso; omega

set_option maxHeartbeats 400000 in
set_option maxRecDepth 100000 in
theorem x_tryEnd10 (z : mj_B) (d : Nat) (T : Tg) (n : Nat) (mm : VF) (c : CF) (t : TF) (mk : VF) (hn : n ≤ 8) (hmm : ∀ u, u < n → 1 ≤ mm u ∧ mm u ≤ 4) (hcb : ∀ a b, c a b ≤ 1000000) (htb : ∀ a b i j, t a b i j ≤ 1000000) (hmk : ∀ u, mk u < 256) (p : VF) (s : SSt) (x : Nat) (F0 A0 : mj_S) (hP : TP T n mm c t mk n p s x F0 A0) : J (gC z) mX3_tryFrom (d + 3) 0 [(0, .ref 10), (1, .int (nI n)), (2, .int (nI x))] [] F0 A0 (TQ T n mm c t mk n p s F0 A0) := by
  obtain ⟨hC, hW, hrs, hSR, hI, hp, hxe, hx, hb8⟩ := hP
  have hbn := hI.bn
  refine j_iload_n dX3_tryFrom_0 rfl ?_
  refine j_aload_n dX3_tryFrom_1 rfl ?_
  refine j_getR (r := 18) dX3_tryFrom_2 flX3_21 (Nat.le_of_ble_eq_true rfl) rfl rfl ?_
  refine j_getI dX3_tryFrom_5 flX3_43 (Nat.le_of_ble_eq_true rfl) rfl rfl ?_
  refine j_top (y0 := nI n) hW.1 ?_
  refine j_icmp_geN (tgt := 17) dX3_tryFrom_8 (by decide) (by omega) (by omega) (fun c8 => ?_) (fun c8 => ?_)
  · refine j_aload_n dX3_tryFrom_17 rfl ?_
    refine j_iload_n dX3_tryFrom_18 rfl ?_
    refine j_callV (y' := mX3_takeIn) (As := [.int (nI x)]) (st := []) dX3_tryFrom_19 lkX3_59 okX3_takeIn imX3_takeIn seX3_takeIn (Nat.le_of_ble_eq_true rfl) rfl rfl rfl rfl (Nat.le_of_ble_eq_true rfl) (Nat.le_of_ble_eq_true rfl) (x_takeIn10 z _ T n hn x p s hI hx F0 A0 hC hW.1 hSR hb8 (fun u hu => ⟨(hp u hu).1, by have := (hp u hu).2; have := (hmm u hu).2; omega⟩)) (fun v19 F19 A19 hq19 => ?_)
    obtain ⟨rfl, hC, hSR2, hfF, hb82, hfA⟩ := hq19
    exact j_vret dX3_tryFrom_22 rfl ⟨rfl, hC, by rw [dfs_n]; show SRL _ _ n (mt (pcu c t mk p n) p s); rw [← hxe]; exact hSR2, hfF, hb82, fun k h1 _ => hfA k h1, fun v _ => congrFun (hfA 12 (by decide)) v⟩
  · exfalso; omega

set_option maxHeartbeats 400000 in
set_option maxRecDepth 100000 in
theorem x_tryStep10 (z : mj_B) (d : Nat) (T : Tg) (n : Nat) (mm : VF) (c : CF) (t : TF) (mk : VF) (hn : n ≤ 8) (hmm : ∀ u, u < n → 1 ≤ mm u ∧ mm u ≤ 4) (hcb : ∀ a b, c a b ≤ 1000000) (htb : ∀ a b i j, t a b i j ≤ 1000000) (hmk : ∀ u, mk u < 256) (u : Nat) (hu : u < n) (ih : ∀ (p : VF) (s : SSt) (x : Nat) (F A : mj_S), TP T n mm c t mk (u + 1) p s x F A → J (gC z) mX3_tryFrom (d + 2) 0 [(0, .ref 10), (1, .int (nI (u + 1))), (2, .int (nI x))] [] F A (TQ T n mm c t mk (u + 1) p s F A)) (p : VF) (s : SSt) (x : Nat) (F0 A0 : mj_S) (hP : TP T n mm c t mk u p s x F0 A0) : J (gC z) mX3_tryFrom (d + 3) 0 [(0, .ref 10), (1, .int (nI u)), (2, .int (nI x))] [] F0 A0 (TQ T n mm c t mk u p s F0 A0) := by
  obtain ⟨hC, hW, hrs, hSR, hI, hp, hxe, hx, hb8⟩ := hP
  have hbn := hI.bn
  have h4u := (hmm u hu).2
  refine j_iload_n dX3_tryFrom_0 rfl ?_
  refine j_aload_n dX3_tryFrom_1 rfl ?_
  refine j_getR (r := 18) dX3_tryFrom_2 flX3_21 (Nat.le_of_ble_eq_true rfl) rfl rfl ?_
  refine j_getI dX3_tryFrom_5 flX3_43 (Nat.le_of_ble_eq_true rfl) rfl rfl ?_
  refine j_top (y0 := nI n) hW.1 ?_
  refine j_icmp_geN (tgt := 17) dX3_tryFrom_8 (by decide) (by omega) (by omega) (fun c8 => ?_) (fun c8 => ?_)
  · exfalso; omega
  · refine j_iload_n dX3_tryFrom_11 rfl ?_
    refine j_bipush (v := nI 8) dX3_tryFrom_12 (by decide +kernel) ?_
    refine j_icmp_ltN (tgt := 23) dX3_tryFrom_14 (by decide) (by omega) (by omega) (fun c14 => ?_) (fun c14 => ?_)
    · refine j_aload_n dX3_tryFrom_23 rfl ?_
      refine j_getR (r := 18) dX3_tryFrom_24 flX3_21 (Nat.le_of_ble_eq_true rfl) rfl rfl ?_
      refine j_iload_n dX3_tryFrom_27 rfl ?_
      refine j_callV (y' := mX4_matesBelow) (As := [.int (nI u)]) (st := []) dX3_tryFrom_28 lkX3_63 okX4_matesBelow imX4_matesBelow seX4_matesBelow (Nat.le_of_ble_eq_true rfl) rfl rfl rfl rfl (Nat.le_of_ble_eq_true rfl) (Nat.le_of_ble_eq_true rfl) (x_matesBelow18 z _ n mm c t mk hn hmm hcb htb hmk u hu F0 A0 hW) (fun v28 F28 A28 hq28 => ?_)
      obtain ⟨rfl, rfl, _, rfl, rfl⟩ := hq28
      have hmb : mk u % 2 ^ u < 256 := Nat.lt_of_le_of_lt (Nat.mod_le _ _) (hmk u)
      refine j_istore_n (lv' := [(0, .ref 10), (1, .int (nI u)), (2, .int (nI x)), (3, .int (nI (mk u % 2 ^ u)))]) dX3_tryFrom_31 (Nat.le_of_ble_eq_true rfl) rfl rfl ?_
      have L35 : ∀ (fuel : Nat) (i : Nat) (F A : mj_S), (CI T F A) → (i ≤ mm u) → (SRL F A n (itr (fun i s => dfs mm (fS c t mk n) (n - (u + 1)) (u + 1) (uvf p u i) s) i s)) → (∀ k s, k ≠ 10 → F k s = F0 k s) → (F 10 8 = nI 0) → (∀ k, k ≠ 11 → k ≠ 12 → A k = A0 k) → (∀ v, v < u → A 12 v = A0 12 v) → mm u - i < fuel → J (gC z) mX3_tryFrom (d + 3) 35 [(0, .ref 10), (1, .int (nI u)), (2, .int (nI x)), (3, .int (nI (mk u % 2 ^ u))), (4, .int (nI i))] [] F A (TQ T n mm c t mk u p s F0 A0) := by
        intro fuel
        induction fuel with
        | zero => intro i F A hC h1 hSR hfF hb10 hfA h12 hf; exact absurd hf (by omega)
        | succ fuel ih35 =>
          intro i F A hC h1 hSR hfF hb10 hfA h12 hf
          have hWi : WT F A 18 n mm c t mk := hW.off (hfF 18 0 (by decide)) (fun q h1 h2 => hfA _ (by omega) (by omega))
          have hIi : SI n (itr (fun i s => dfs mm (fS c t mk n) (n - (u + 1)) (u + 1) (uvf p u i) s) i s) := SI_it (fun v hv => (hmm v hv).2) hu (fun v hv => (hp v hv).2) hI h1
          have hbn2 := hIi.bn
          refine j_iload dX3_tryFrom_35 rfl ?_
          refine j_aload_n dX3_tryFrom_37 rfl ?_
          refine j_getR (r := 18) dX3_tryFrom_38 flX3_21 (Nat.le_of_ble_eq_true rfl) rfl rfl ?_
          refine j_getR (r := 19) dX3_tryFrom_41 flX3_66 (Nat.le_of_ble_eq_true rfl) rfl rfl ?_
          refine j_iload_n dX3_tryFrom_44 rfl ?_
          refine j_ialdN dX3_tryFrom_45 (Nat.le_of_ble_eq_true rfl) rfl (by omega) (by decide) ?_
          refine j_top (y0 := nI (mm u)) (hWi.2.1 u hu).1 ?_
          refine j_icmp_geN (tgt := 109) dX3_tryFrom_46 (by decide) (by omega) (by omega) (fun c46 => ?_) (fun c46 => ?_)
          · exact j_vret dX3_tryFrom_109 rfl ⟨rfl, hC, by rw [dfs_u hu, show mm u = i by omega]; exact hSR, hfF, hb10.trans hb8.symm, hfA, h12⟩
          · refine j_iload_n dX3_tryFrom_49 rfl ?_
            refine j_aload_n dX3_tryFrom_50 rfl ?_
            refine j_getR (r := 18) dX3_tryFrom_51 flX3_21 (Nat.le_of_ble_eq_true rfl) rfl rfl ?_
            refine j_iload_n dX3_tryFrom_54 rfl ?_
            refine j_iload dX3_tryFrom_55 rfl ?_
            refine j_iload_n dX3_tryFrom_57 rfl ?_
            refine j_aload_n dX3_tryFrom_58 rfl ?_
            refine j_getR (r := 12) dX3_tryFrom_59 flX3_15 (Nat.le_of_ble_eq_true rfl) rfl rfl ?_
            refine j_callV (y' := mX4_costBeside) (As := [.int (nI u), .int (nI i), .int (nI (mk u % 2 ^ u)), .ref 12]) (st := [.int (nI x)]) dX3_tryFrom_62 lkX3_69 okX4_costBeside imX4_costBeside seX4_costBeside (Nat.le_of_ble_eq_true rfl) rfl rfl rfl rfl (Nat.le_of_ble_eq_true rfl) (Nat.le_of_ble_eq_true rfl) (x_costBeside18_12 z _ n mm c t mk hn hmm hcb htb hmk u i (mk u % 2 ^ u) hu (by omega) hmb p F A hWi (fun v hv => by have q := mb_bt.mp hv; exact ⟨by omega, by omega, q.2, (h12 v q.1).trans (hp v q.1).1, (hp v q.1).2⟩)) (fun v62 F62 A62 hq62 => ?_)
            obtain ⟨rfl, rfl, _, rfl, rfl⟩ := hq62
            have hsml : sm c t (mk u % 2 ^ u) p u i n ≤ 1000000 := sm_le hcb n
            refine j_iaddN dX3_tryFrom_65 ?_
            refine j_istore (lv' := [(0, .ref 10), (1, .int (nI u)), (2, .int (nI x)), (3, .int (nI (mk u % 2 ^ u))), (4, .int (nI i)), (5, .int (nI (x + (sm c t (mk u % 2 ^ u) p u i n))))]) dX3_tryFrom_66 (Nat.le_of_ble_eq_true rfl) rfl rfl ?_
            refine j_iload dX3_tryFrom_68 rfl ?_
            refine j_aload_n dX3_tryFrom_70 rfl ?_
            refine j_getR (r := 13) dX3_tryFrom_71 flX3_18 (Nat.le_of_ble_eq_true rfl) rfl rfl ?_
            refine j_iload_n dX3_tryFrom_74 rfl ?_
            refine j_iconst (v := nI 1) dX3_tryFrom_75 (by decide +kernel) ?_
            refine j_iaddN dX3_tryFrom_76 ?_
            refine j_ialdN dX3_tryFrom_77 (Nat.le_of_ble_eq_true rfl) rfl (by omega) (by decide) ?_
            have hrl := rsN_le c mm n (n - (u + 1))
            refine j_top (y0 := nI (rsN c mm n (n - (u + 1)))) ((congrFun (hfA 13 (by decide) (by decide)) _).trans (hrs (u + 1) (by omega))) ?_
            refine j_iaddN dX3_tryFrom_78 ?_
            refine j_aload_n dX3_tryFrom_79 rfl ?_
            refine j_getI dX3_tryFrom_80 flX3_34 (Nat.le_of_ble_eq_true rfl) rfl rfl ?_
            refine j_top (y0 := nI ((itr (fun i s => dfs mm (fS c t mk n) (n - (u + 1)) (u + 1) (uvf p u i) s) i s).1.2.1)) hSR.1.2.1 ?_
            refine j_icmp_geN (tgt := 103) dX3_tryFrom_83 (by decide) (by omega) (by omega) (fun c83 => ?_) (fun c83 => ?_)
            · have hsk : dfs mm (fS c t mk n) (n - (u + 1)) (u + 1) (uvf p u i) (itr (fun i s => dfs mm (fS c t mk n) (n - (u + 1)) (u + 1) (uvf p u i) s) i s) = (itr (fun i s => dfs mm (fS c t mk n) (n - (u + 1)) (u + 1) (uvf p u i) s) i s) := skip_S hcb hu (fun v hv => (hp v hv).2) (by omega) hxe hIi (by omega)
              refine j_iinc (v := nI (i + 1)) (lv' := [(0, .ref 10), (1, .int (nI u)), (2, .int (nI x)), (3, .int (nI (mk u % 2 ^ u))), (4, .int (nI (i + 1))), (5, .int (nI (x + (sm c t (mk u % 2 ^ u) p u i n))))]) dX3_tryFrom_103 rfl (nI_add _ 1) (Nat.le_of_ble_eq_true rfl) rfl rfl ?_
              refine j_goto (tgt := 35) dX3_tryFrom_106 (by decide) ?_
              refine j_sub [0, 1, 2, 3, 4] rfl ?_
              exact ih35 (i + 1) F A (by first | exact hC | omega) (by first | exact h1 | omega) (by first | exact hSR | (show SRL _ _ n (dfs mm (fS c t mk n) (n - (u + 1)) (u + 1) (uvf p u i) (itr (fun i s => dfs mm (fS c t mk n) (n - (u + 1)) (u + 1) (uvf p u i) s) i s)); rw [hsk]; exact hSR)) (by first | exact hfF | exact fun k s hk => (hgF k s hk).trans (hfF k s hk)) (by first | exact hb10 | exact hg8.trans hb10) (by first | exact hfA | exact fun k g1 g2 => (hgA k g1 g2).trans ((mj_u_ne _ _ g2).trans (hfA k g1 g2))) (by first | exact h12 | exact fun v hv => (hg12 v (by omega)).trans (by rw [mj_u_at, pk_un (by omega)]; exact h12 v hv)) (by omega)
            · refine j_aload_n dX3_tryFrom_86 rfl ?_
              refine j_getR (r := 12) dX3_tryFrom_87 flX3_15 (Nat.le_of_ble_eq_true rfl) rfl rfl ?_
              refine j_iload_n dX3_tryFrom_90 rfl ?_
              refine j_iload dX3_tryFrom_91 rfl ?_
              refine j_iastN dX3_tryFrom_93 (Nat.le_of_ble_eq_true rfl) rfl (by omega) (by decide) ?_
              have hC := hC.c12 u (t := i) (by omega)
              refine j_aload_n dX3_tryFrom_94 rfl ?_
              refine j_iload_n dX3_tryFrom_95 rfl ?_
              refine j_iconst (v := nI 1) dX3_tryFrom_96 (by decide +kernel) ?_
              refine j_iaddN dX3_tryFrom_97 ?_
              refine j_iload dX3_tryFrom_98 rfl ?_
              refine j_callV (y' := mX3_tryFrom) (As := [.int (nI (u + 1)), .int (nI (x + (sm c t (mk u % 2 ^ u) p u i n)))]) (st := []) dX3_tryFrom_100 lkX3_55 okX3_tryFrom imX3_tryFrom seX3_tryFrom (Nat.le_of_ble_eq_true rfl) rfl rfl rfl rfl (Nat.le_of_ble_eq_true rfl) (Nat.le_of_ble_eq_true rfl) (ih (uvf p u i) (itr (fun i s => dfs mm (fS c t mk n) (n - (u + 1)) (u + 1) (uvf p u i) s) i s) (x + sm c t (mk u % 2 ^ u) p u i n) F (mj_u A 12 u (nI i)) ⟨hC, hWi.off rfl (fun q h1 h2 => mj_u_ne _ _ (by omega)), fun v hv => by rw [mj_u_ne _ _ (by decide), hfA 13 (by decide) (by decide)]; exact hrs v hv, hSR.off (fun _ _ => rfl) (mj_u_ne _ _ (by decide)), hIi, fun v hv => ⟨by rw [mj_u_at]; exact if e : v = u then (by rw [e, pk_us, uvf_at]) else (by rw [pk_un e, uvf_ne e, h12 v (by omega)]; exact (hp v (by omega)).1), uv_lt (fun v hv => (hp v hv).2) (by omega) v hv⟩, by rw [more_e hcb hu hxe, cap_id (by omega)], by omega, hb10⟩) (fun v100 F100 A100 hq100 => ?_)
              obtain ⟨rfl, hC, hSR, hgF, hg8, hgA, hg12⟩ := hq100
              refine j_iinc (v := nI (i + 1)) (lv' := [(0, .ref 10), (1, .int (nI u)), (2, .int (nI x)), (3, .int (nI (mk u % 2 ^ u))), (4, .int (nI (i + 1))), (5, .int (nI (x + (sm c t (mk u % 2 ^ u) p u i n))))]) dX3_tryFrom_103 rfl (nI_add _ 1) (Nat.le_of_ble_eq_true rfl) rfl rfl ?_
              refine j_goto (tgt := 35) dX3_tryFrom_106 (by decide) ?_
              refine j_sub [0, 1, 2, 3, 4] rfl ?_
              exact ih35 (i + 1) F100 A100 (by first | exact hC | omega) (by first | exact h1 | omega) (by first | exact hSR | (show SRL _ _ n (dfs mm (fS c t mk n) (n - (u + 1)) (u + 1) (uvf p u i) (itr (fun i s => dfs mm (fS c t mk n) (n - (u + 1)) (u + 1) (uvf p u i) s) i s)); rw [hsk]; exact hSR)) (by first | exact hfF | exact fun k s hk => (hgF k s hk).trans (hfF k s hk)) (by first | exact hb10 | exact hg8.trans hb10) (by first | exact hfA | exact fun k g1 g2 => (hgA k g1 g2).trans ((mj_u_ne _ _ g2).trans (hfA k g1 g2))) (by first | exact h12 | exact fun v hv => (hg12 v (by omega)).trans (by rw [mj_u_at, pk_un (by omega)]; exact h12 v hv)) (by omega)
      refine j_iconst (v := nI 0) dX3_tryFrom_32 (by decide +kernel) ?_
      refine j_istore (lv' := [(0, .ref 10), (1, .int (nI u)), (2, .int (nI x)), (3, .int (nI (mk u % 2 ^ u))), (4, .int (nI 0))]) dX3_tryFrom_33 (Nat.le_of_ble_eq_true rfl) rfl rfl ?_
      exact L35 _ 0 F0 A0 (by first | exact hC | omega) (Nat.zero_le _) hSR (fun _ _ _ => rfl) hb8 (fun _ _ _ => rfl) (fun _ _ => rfl) (Nat.lt_succ_self _)
    · exfalso; omega

theorem x_tryFrom10 (z : mj_B) (T : Tg) (n : Nat) (mm : VF) (c : CF) (t : TF) (mk : VF) (hn : n ≤ 8) (hmm : ∀ u, u < n → 1 ≤ mm u ∧ mm u ≤ 4) (hcb : ∀ a b, c a b ≤ 1000000) (htb : ∀ a b i j, t a b i j ≤ 1000000) (hmk : ∀ u, mk u < 256) : ∀ (k d u : Nat), u + k = 8 → u ≤ n → ∀ (p : VF) (s : SSt) (x : Nat) (F A : mj_S), TP T n mm c t mk u p s x F A → J (gC z) mX3_tryFrom (d + k + 3) 0 [(0, .ref 10), (1, .int (nI u)), (2, .int (nI x))] [] F A (TQ T n mm c t mk u p s F A)
  | 0, d, u, h, hu, p, s, x, F, A, hP => by
    obtain rfl : u = n := by omega
    exact x_tryEnd10 z d T u mm c t mk hn hmm hcb htb hmk p s x F A hP
  | k + 1, d, u, h, hu, p, s, x, F, A, hP => by
    by_cases e : u = n
    · subst e
      exact x_tryEnd10 z (d + (k + 1)) T u mm c t mk hn hmm hcb htb hmk p s x F A hP
    · exact x_tryStep10 z (d + (k + 1)) T n mm c t mk hn hmm hcb htb hmk u (by omega) (fun p s x F A hP => x_tryFrom10 z T n mm c t mk hn hmm hcb htb hmk k d (u + 1) (by omega) (by omega) p s x F A hP) p s x F A hP

theorem rs_st {c : CF} {mm : VF} {n kk : Nat} (h0 : 0 < kk) (hk : kk ≤ n) : rsN c mm n (n - (kk - 1)) = cap (rsN c mm n (n - kk) + mn (fun i => c (kk - 1) i) (mm (kk - 1))) := by
  rw [show n - (kk - 1) = (n - kk) + 1 by omega]
  show cap (rsN c mm n (n - kk) + mn (fun i => c (n - (n - kk + 1)) i) (mm (n - (n - kk + 1)))) = _
  rw [show n - (n - kk + 1) = kk - 1 by omega]

set_option maxHeartbeats 400000 in
set_option maxRecDepth 100000 in
theorem x_runS10 (z : mj_B) (d : Nat) (T : Tg) (n : Nat) (mm : VF) (c : CF) (t : TF) (mk : VF) (hn : n ≤ 8) (hmm : ∀ u, u < n → 1 ≤ mm u ∧ mm u ≤ 4) (hcb : ∀ a b, c a b ≤ 1000000) (htb : ∀ a b i j, t a b i j ≤ 1000000) (hmk : ∀ u, mk u < 256) (F0 A0 : mj_S) (hW : WT F0 A0 18 n mm c t mk) (hC : CI T F0 A0) (hb8 : F0 10 8 = nI 0) : J (gC z) mX3_run (d + 12) 0 [(0, .ref 10)] [] F0 A0 (fun _v F' A' => _v = none ∧ CI T F' A' ∧ SRL F' A' n (seaS c t mk mm n) ∧ (∀ k s, k ≠ 10 → F' k s = F0 k s) ∧ F' 10 8 = F0 10 8 ∧ ∀ k, k ≠ 11 → k ≠ 12 → k ≠ 13 → A' k = A0 k) := by
  refine j_aload_n dX3_run_0 rfl ?_
  refine j_ldc dX3_run_1 kcX3_29 ?_
  refine j_top (y0 := nI 1000000) (by decide +kernel) ?_
  refine j_putI dX3_run_3 fpX3_30 (Nat.le_of_ble_eq_true rfl) rfl rfl ?_
  have hC := hC.f (k := 10) (s := 0) rfl (nI 1000000)
  refine j_aload_n dX3_run_6 rfl ?_
  refine j_ldc dX3_run_7 kcX3_29 ?_
  refine j_top (y0 := nI 1000000) (by decide +kernel) ?_
  refine j_putI dX3_run_9 fpX3_34 (Nat.le_of_ble_eq_true rfl) rfl rfl ?_
  have hC := hC.f (k := 10) (s := 1) rfl (nI 1000000)
  refine j_aload_n dX3_run_12 rfl ?_
  refine j_iconst (v := nI 0) dX3_run_13 (by decide +kernel) ?_
  refine j_putI dX3_run_14 fpX3_37 (Nat.le_of_ble_eq_true rfl) rfl rfl ?_
  have hC := hC.f (k := 10) (s := 2) rfl (nI 0)
  refine j_aload_n dX3_run_17 rfl ?_
  refine j_iconst (v := nI 0) dX3_run_18 (by decide +kernel) ?_
  refine j_putI dX3_run_19 fpX3_40 (Nat.le_of_ble_eq_true rfl) rfl rfl ?_
  have hC := hC.f (k := 10) (s := 3) rfl (nI 0)
  obtain ⟨F1, hF1⟩ : ∃ F1, F1 = mj_u (mj_u (mj_u (mj_u F0 10 0 (nI 1000000)) 10 1 (nI 1000000)) 10 2 (nI 0)) 10 3 (nI 0) := ⟨_, rfl⟩
  rw [← hF1] at hC
  refine j_F hF1.symm ?_
  have hW : WT F1 A0 18 n mm c t mk := hW.off (by rw [hF1]; rfl) (fun _ _ _ => rfl)
  have hfF : ∀ k s, k ≠ 10 → F1 k s = F0 k s := fun k s hk => by rw [hF1, mj_u_ne _ _ hk, mj_u_ne _ _ hk, mj_u_ne _ _ hk, mj_u_ne _ _ hk]
  have hf0 : F1 10 0 = nI 1000000 ∧ F1 10 1 = nI 1000000 ∧ F1 10 2 = nI 0 ∧ F1 10 8 = F0 10 8 := by rw [hF1]; exact ⟨rfl, rfl, rfl, rfl⟩
  have L45 : ∀ (fuel : Nat) (x : Int32) (kk : Nat) (A : mj_S), (CI T F1 A) → (x + 1 = nI kk) → (kk ≤ n) → (∀ v, kk ≤ v → v ≤ n → A 13 v = nI (rsN c mm n (n - v))) → (∀ k, k ≠ 13 → A k = A0 k) → kk < fuel → J (gC z) mX3_run (d + 12) 45 [(0, .ref 10), (1, .int x)] [] F1 A (fun _v F' A' => _v = none ∧ CI T F' A' ∧ SRL F' A' n (seaS c t mk mm n) ∧ (∀ k s, k ≠ 10 → F' k s = F0 k s) ∧ F' 10 8 = F0 10 8 ∧ ∀ k, k ≠ 11 → k ≠ 12 → k ≠ 13 → A' k = A0 k) := by
    intro fuel
    induction fuel with
    | zero => intro x kk A hC hx h1 hrs hfA hf; exact absurd hf (by omega)
    | succ fuel ih45 =>
      intro x kk A hC hx h1 hrs hfA hf
      refine j_iload_n dX3_run_45 rfl ?_
      refine j_if_lt (tgt := 81) dX3_run_46 (by decide) (fun c46 => ?_) (fun c46 => ?_)
      · have hk0 := rd_end (by omega) hx c46
        refine j_aload_n dX3_run_81 rfl ?_
        refine j_iconst (v := nI 0) dX3_run_82 (by decide +kernel) ?_
        refine j_iconst (v := nI 0) dX3_run_83 (by decide +kernel) ?_
        refine j_callV (y' := mX3_tryFrom) (As := [.int (nI 0), .int (nI 0)]) (st := []) dX3_run_84 lkX3_55 okX3_tryFrom imX3_tryFrom seX3_tryFrom (Nat.le_of_ble_eq_true rfl) rfl rfl rfl rfl (Nat.le_of_ble_eq_true rfl) (Nat.le_of_ble_eq_true rfl) (x_tryFrom10 z T n mm c t mk hn hmm hcb htb hmk 8 d 0 (by omega) (Nat.zero_le _) p00 s00 0 F1 A ⟨hC, hW.off rfl (fun q h1 h2 => hfA _ (by omega)), fun v hv => hrs v (by omega) hv, ⟨⟨hf0.1, hf0.2.1, hf0.2.2.1⟩, fun q => absurd q (by decide)⟩, SI_0 n, fun v hv => absurd hv (Nat.not_lt_zero v), rfl, by decide, hf0.2.2.2.trans hb8⟩) (fun v84 F84 A84 hq84 => ?_)
        obtain ⟨rfl, hC, hSR, hgF, hg8, hgA, -⟩ := hq84
        exact j_vret dX3_run_87 rfl ⟨rfl, hC, hSR, fun k s hk => (hgF k s hk).trans (hfF k s hk), hg8.trans hf0.2.2.2, fun k h1 h2 h3 => (hgA k h1 h2).trans (hfA k h3)⟩
      · have hk0 : 0 < kk := Nat.pos_of_ne_zero (fun e => by rw [e] at hx; exact c46 (dn0 hx))
        obtain rfl : x = nI (kk - 1) := dn1 hx hk0
        have hkk : kk - 1 + 1 = kk := by omega
        refine j_aload_n dX3_run_49 rfl ?_
        refine j_getR (r := 13) dX3_run_50 flX3_18 (Nat.le_of_ble_eq_true rfl) rfl rfl ?_
        refine j_iload_n dX3_run_53 rfl ?_
        refine j_aload_n dX3_run_54 rfl ?_
        refine j_getR (r := 13) dX3_run_55 flX3_18 (Nat.le_of_ble_eq_true rfl) rfl rfl ?_
        refine j_iload_n dX3_run_58 rfl ?_
        refine j_iconst (v := nI 1) dX3_run_59 (by decide +kernel) ?_
        refine j_iaddN dX3_run_60 ?_
        refine j_ialdN dX3_run_61 (Nat.le_of_ble_eq_true rfl) rfl (by omega) (by decide) ?_
        have hrl := rsN_le c mm n (n - kk)
        refine j_top (y0 := nI (rsN c mm n (n - kk))) (by rw [hkk]; exact hrs kk (Nat.le_refl _) h1) ?_
        refine j_aload_n dX3_run_62 rfl ?_
        refine j_getR (r := 18) dX3_run_63 flX3_21 (Nat.le_of_ble_eq_true rfl) rfl rfl ?_
        refine j_iload_n dX3_run_66 rfl ?_
        refine j_callV (y' := mX4_leastCost) (As := [.int (nI (kk - 1))]) (st := [.int (nI (rsN c mm n (n - kk))), .int (nI (kk - 1)), .ref 13]) dX3_run_67 lkX3_48 okX4_leastCost imX4_leastCost seX4_leastCost (Nat.le_of_ble_eq_true rfl) rfl rfl rfl rfl (Nat.le_of_ble_eq_true rfl) (Nat.le_of_ble_eq_true rfl) (x_leastCost18 z _ n mm c t mk hn hmm hcb htb hmk (kk - 1) (by omega) F1 A (hW.off rfl (fun q h1 h2 => hfA _ (by omega)))) (fun v67 F67 A67 hq67 => ?_)
        obtain ⟨rfl, rfl, _, rfl, rfl⟩ := hq67
        have hlc : mn (fun i => c (kk - 1) i) (mm (kk - 1)) ≤ 1000000 := mn_le _ _
        refine j_iaddN dX3_run_70 ?_
        refine j_callSN (y' := mX5_capped) (As := [.int (nI (rsN c mm n (n - kk) + (mn (fun i => c (kk - 1) i) (mm (kk - 1)))))]) (st := [.int (nI (kk - 1)), .ref 13]) dX3_run_71 lnX3_52 okX5_capped stX5_capped rfl (Nat.le_of_ble_eq_true rfl) (Nat.le_of_ble_eq_true rfl) (c_cappedN z _ (rsN c mm n (n - kk) + (mn (fun i => c (kk - 1) i) (mm (kk - 1)))) (by omega) F1 A) (fun v71 F71 A71 hq71 => ?_)
        obtain ⟨rfl, rfl, _, rfl, rfl⟩ := hq71
        have hcp1 := cap_le (rsN c mm n (n - kk) + (mn (fun i => c (kk - 1) i) (mm (kk - 1))))
        refine j_iastN dX3_run_74 (Nat.le_of_ble_eq_true rfl) rfl (by omega) (by decide) ?_
        have hC := hC.u (k := 13) rfl (kk - 1) (nI (cap (rsN c mm n (n - kk) + (mn (fun i => c (kk - 1) i) (mm (kk - 1))))))
        refine j_iinc (v := nI (kk - 1) + Int32.ofInt (-1)) (lv' := [(0, .ref 10), (1, .int (nI (kk - 1) + Int32.ofInt (-1)))]) dX3_run_75 rfl rfl (Nat.le_of_ble_eq_true rfl) rfl rfl ?_
        refine j_goto (tgt := 45) dX3_run_78 (by decide) ?_
        exact ih45 (nI (kk - 1) + Int32.ofInt (-1)) (kk - 1) (mj_u A 13 (kk - 1) (nI (cap (rsN c mm n (n - kk) + (mn (fun i => c (kk - 1) i) (mm (kk - 1))))))) (by first | exact hC | omega) (dn2 _) (by first | exact h1 | omega) (fun v h1 h2 => by rw [mj_u_at]; exact if e : v = kk - 1 then (by rw [e, pk_us]; exact congrArg nI (rs_st hk0 (by omega)).symm) else (by rw [pk_un e]; exact hrs v (by omega) h2)) (fun k hk => by rw [mj_u_ne _ _ hk]; exact hfA k hk) (by omega)
  refine j_aload_n dX3_run_22 rfl ?_
  refine j_getR (r := 13) dX3_run_23 flX3_18 (Nat.le_of_ble_eq_true rfl) rfl rfl ?_
  refine j_aload_n dX3_run_26 rfl ?_
  refine j_getR (r := 18) dX3_run_27 flX3_21 (Nat.le_of_ble_eq_true rfl) rfl rfl ?_
  refine j_getI dX3_run_30 flX3_43 (Nat.le_of_ble_eq_true rfl) rfl rfl ?_
  refine j_top (y0 := nI n) hW.1 ?_
  refine j_iconst (v := nI 0) dX3_run_33 (by decide +kernel) ?_
  refine j_iastN dX3_run_34 (Nat.le_of_ble_eq_true rfl) rfl (by omega) (by decide) ?_
  have hC := hC.u (k := 13) rfl n (nI 0)
  refine j_aload_n dX3_run_35 rfl ?_
  refine j_getR (r := 18) dX3_run_36 flX3_21 (Nat.le_of_ble_eq_true rfl) rfl rfl ?_
  refine j_getI dX3_run_39 flX3_43 (Nat.le_of_ble_eq_true rfl) rfl rfl ?_
  refine j_top (y0 := nI n) hW.1 ?_
  refine j_iconst (v := nI 1) dX3_run_42 (by decide +kernel) ?_
  refine j_isub dX3_run_43 ?_
  refine j_top (y0 := (nI n) - (nI 1)) rfl ?_
  refine j_istore_n (lv' := [(0, .ref 10), (1, .int ((nI n) - (nI 1)))]) dX3_run_44 (Nat.le_of_ble_eq_true rfl) rfl rfl ?_
  exact L45 _ ((nI n) - (nI 1)) n (mj_u A0 13 n (nI 0)) (by first | exact hC | omega) (dn4 n) (by first | exact h1 | omega) (fun v h1 h2 => by rw [show v = n by omega, mj_u_at, pk_us, Nat.sub_self]; rfl) (fun k hk => mj_u_ne _ _ hk) (Nat.lt_succ_self _)

set_option maxHeartbeats 400000 in
set_option maxRecDepth 100000 in
theorem x_takeIn14 (z : mj_B) (d : Nat) (T : Tg) (n : Nat) (hn : n ≤ 8) (x b : Nat) (hb : b ≤ 1000000) (hx : x < b) (F0 A0 : mj_S) (hC : CI T F0 A0) (en : F0 23 0 = nI n) (hSR : SRB F0 b) (hb8 : F0 14 8 = nI 1) : J (gC z) mX3_takeIn (d + 2) 0 [(0, .ref 14), (1, .int (nI x))] [] F0 A0 (fun _v F' A' => _v = none ∧ CI T F' A' ∧ SRB F' x ∧ (∀ k s, k ≠ 14 → F' k s = F0 k s) ∧ F' 14 8 = F0 14 8 ∧ ∀ k, k ≠ 15 → A' k = A0 k) := by
  have hp2 := p2_le hn
  refine j_iload_n dX3_takeIn_0 rfl ?_
  refine j_aload_n dX3_takeIn_1 rfl ?_
  refine j_getI dX3_takeIn_2 flX3_30 (Nat.le_of_ble_eq_true rfl) rfl rfl ?_
  refine j_top (y0 := nI b) hSR.1 ?_
  refine j_icmp_geN (tgt := 66) dX3_takeIn_5 (by decide) (by omega) (by omega) (fun c5 => ?_) (fun c5 => ?_)
  · exfalso; omega
  · refine j_aload_n dX3_takeIn_8 rfl ?_
    refine j_aload_n dX3_takeIn_9 rfl ?_
    refine j_getI dX3_takeIn_10 flX3_25 (Nat.le_of_ble_eq_true rfl) rfl rfl ?_
    refine j_top (y0 := nI 1) hb8 ?_
    refine j_if_eqN (tgt := 20) dX3_takeIn_13 (by decide) (by omega) (fun c13 => ?_) (fun c13 => ?_)
    · exfalso; omega
    · refine j_iload_n dX3_takeIn_16 rfl ?_
      refine j_goto (tgt := 24) dX3_takeIn_17 (by decide) ?_
      refine j_putI dX3_takeIn_24 fpX3_34 (Nat.le_of_ble_eq_true rfl) rfl rfl ?_
      have hC := hC.f (k := 14) (s := 1) rfl (nI x)
      refine j_aload_n dX3_takeIn_27 rfl ?_
      refine j_iload_n dX3_takeIn_28 rfl ?_
      refine j_putI dX3_takeIn_29 fpX3_30 (Nat.le_of_ble_eq_true rfl) rfl rfl ?_
      have hC := hC.f (k := 14) (s := 0) rfl (nI x)
      refine j_aload_n dX3_takeIn_32 rfl ?_
      refine j_iconst (v := nI 1) dX3_takeIn_33 (by decide +kernel) ?_
      refine j_putI dX3_takeIn_34 fpX3_37 (Nat.le_of_ble_eq_true rfl) rfl rfl ?_
      have hC := hC.f (k := 14) (s := 2) rfl (nI 1)
      refine j_aload_n dX3_takeIn_37 rfl ?_
      refine j_iconst (v := nI 1) dX3_takeIn_38 (by decide +kernel) ?_
      refine j_aload_n dX3_takeIn_39 rfl ?_
      refine j_getR (r := 23) dX3_takeIn_40 flX3_21 (Nat.le_of_ble_eq_true rfl) rfl rfl ?_
      refine j_getI dX3_takeIn_43 flX3_43 (Nat.le_of_ble_eq_true rfl) rfl rfl ?_
      refine j_top (y0 := nI n) en ?_
      refine j_ishl dX3_takeIn_46 ?_
      refine j_top (y0 := nI (2 ^ n)) (shl_1' (by omega)) ?_
      refine j_iconst (v := nI 1) dX3_takeIn_47 (by decide +kernel) ?_
      refine j_isubN dX3_takeIn_48 (by omega) ?_
      refine j_putI dX3_takeIn_49 fpX3_40 (Nat.le_of_ble_eq_true rfl) rfl rfl ?_
      have hC := hC.f (k := 14) (s := 3) rfl (nI ((2 ^ n) - 1))
      refine j_aload_n dX3_takeIn_52 rfl ?_
      refine j_getR (r := 16) dX3_takeIn_53 flX3_15 (Nat.le_of_ble_eq_true rfl) rfl rfl ?_
      refine j_aload_n dX3_takeIn_56 rfl ?_
      refine j_getR (r := 15) dX3_takeIn_57 flX3_9 (Nat.le_of_ble_eq_true rfl) rfl rfl ?_
      refine j_callSN (y' := mX5_copyRow) (As := [.ref 16, .ref 15]) (st := []) dX3_takeIn_60 lnX3_73 okX5_copyRow stX5_copyRow rfl (Nat.le_of_ble_eq_true rfl) (Nat.le_of_ble_eq_true rfl) (c_copyRow z _ 16 15 8 (by decide) (Nat.le_of_ble_eq_true rfl) rfl (Nat.le_of_ble_eq_true rfl) rfl (mj_u (mj_u (mj_u (mj_u F0 14 1 (nI x)) 14 0 (nI x)) 14 2 (nI 1)) 14 3 (nI ((2 ^ n) - 1))) A0) (fun v60 F60 A60 hq60 => ?_)
      obtain ⟨rfl, rfl, rfl⟩ := hq60
      have hC := hC.a (k := 15) rfl (va_cpy (A0 16) (A0 15) 0 0 8)
      refine j_goto (tgt := 105) dX3_takeIn_63 (by decide) ?_
      exact j_vret dX3_takeIn_105 rfl ⟨rfl, hC, ⟨rfl, rfl⟩, (fun k s hk => by rw [mj_u_ne _ _ hk, mj_u_ne _ _ hk, mj_u_ne _ _ hk, mj_u_ne _ _ hk]), rfl, fun k hk => mj_a_ne _ _ hk⟩

set_option maxHeartbeats 400000 in
set_option maxRecDepth 100000 in
theorem x_tryEnd14 (z : mj_B) (d : Nat) (T : Tg) (n : Nat) (mm : VF) (c : CF) (t : TF) (mk : VF) (hn : n ≤ 8) (hmm : ∀ u, u < n → 1 ≤ mm u ∧ mm u ≤ 4) (hcb : ∀ a b, c a b ≤ 1000000) (htb : ∀ a b i j, t a b i j ≤ 1000000) (hmk : ∀ u, mk u < 256) (p : VF) (b : Nat) (x : Nat) (F0 A0 : mj_S) (hP : TPB T n mm c t mk n p b x F0 A0) : J (gC z) mX3_tryFrom (d + 3) 0 [(0, .ref 14), (1, .int (nI n)), (2, .int (nI x))] [] F0 A0 (TQB T n mm c t mk n p b F0 A0) := by
  obtain ⟨hC, hW, hrs, hSR, hbm, hp, hxe, hx, hb8⟩ := hP
  have hbn := hbm
  refine j_iload_n dX3_tryFrom_0 rfl ?_
  refine j_aload_n dX3_tryFrom_1 rfl ?_
  refine j_getR (r := 23) dX3_tryFrom_2 flX3_21 (Nat.le_of_ble_eq_true rfl) rfl rfl ?_
  refine j_getI dX3_tryFrom_5 flX3_43 (Nat.le_of_ble_eq_true rfl) rfl rfl ?_
  refine j_top (y0 := nI n) hW.1 ?_
  refine j_icmp_geN (tgt := 17) dX3_tryFrom_8 (by decide) (by omega) (by omega) (fun c8 => ?_) (fun c8 => ?_)
  · refine j_aload_n dX3_tryFrom_17 rfl ?_
    refine j_iload_n dX3_tryFrom_18 rfl ?_
    refine j_callV (y' := mX3_takeIn) (As := [.int (nI x)]) (st := []) dX3_tryFrom_19 lkX3_59 okX3_takeIn imX3_takeIn seX3_takeIn (Nat.le_of_ble_eq_true rfl) rfl rfl rfl rfl (Nat.le_of_ble_eq_true rfl) (Nat.le_of_ble_eq_true rfl) (x_takeIn14 z _ T n hn x b hbm hx F0 A0 hC hW.1 hSR hb8) (fun v19 F19 A19 hq19 => ?_)
    obtain ⟨rfl, hC, hSR2, hfF, hb82, hfA⟩ := hq19
    exact j_vret dX3_tryFrom_22 rfl ⟨rfl, hC, by rw [dfs_n]; show SRB _ (if pcu c t mk p n < b then pcu c t mk p n else b); rw [← hxe, if_pos hx]; exact hSR2, hfF, hb82, fun k h1 _ => hfA k h1, fun v _ => congrFun (hfA 16 (by decide)) v⟩
  · exfalso; omega

set_option maxHeartbeats 400000 in
set_option maxRecDepth 100000 in
theorem x_tryStep14 (z : mj_B) (d : Nat) (T : Tg) (n : Nat) (mm : VF) (c : CF) (t : TF) (mk : VF) (hn : n ≤ 8) (hmm : ∀ u, u < n → 1 ≤ mm u ∧ mm u ≤ 4) (hcb : ∀ a b, c a b ≤ 1000000) (htb : ∀ a b i j, t a b i j ≤ 1000000) (hmk : ∀ u, mk u < 256) (u : Nat) (hu : u < n) (ih : ∀ (p : VF) (b : Nat) (x : Nat) (F A : mj_S), TPB T n mm c t mk (u + 1) p b x F A → J (gC z) mX3_tryFrom (d + 2) 0 [(0, .ref 14), (1, .int (nI (u + 1))), (2, .int (nI x))] [] F A (TQB T n mm c t mk (u + 1) p b F A)) (p : VF) (b : Nat) (x : Nat) (F0 A0 : mj_S) (hP : TPB T n mm c t mk u p b x F0 A0) : J (gC z) mX3_tryFrom (d + 3) 0 [(0, .ref 14), (1, .int (nI u)), (2, .int (nI x))] [] F0 A0 (TQB T n mm c t mk u p b F0 A0) := by
  obtain ⟨hC, hW, hrs, hSR, hbm, hp, hxe, hx, hb8⟩ := hP
  have hbn := hbm
  have h4u := (hmm u hu).2
  refine j_iload_n dX3_tryFrom_0 rfl ?_
  refine j_aload_n dX3_tryFrom_1 rfl ?_
  refine j_getR (r := 23) dX3_tryFrom_2 flX3_21 (Nat.le_of_ble_eq_true rfl) rfl rfl ?_
  refine j_getI dX3_tryFrom_5 flX3_43 (Nat.le_of_ble_eq_true rfl) rfl rfl ?_
  refine j_top (y0 := nI n) hW.1 ?_
  refine j_icmp_geN (tgt := 17) dX3_tryFrom_8 (by decide) (by omega) (by omega) (fun c8 => ?_) (fun c8 => ?_)
  · exfalso; omega
  · refine j_iload_n dX3_tryFrom_11 rfl ?_
    refine j_bipush (v := nI 8) dX3_tryFrom_12 (by decide +kernel) ?_
    refine j_icmp_ltN (tgt := 23) dX3_tryFrom_14 (by decide) (by omega) (by omega) (fun c14 => ?_) (fun c14 => ?_)
    · refine j_aload_n dX3_tryFrom_23 rfl ?_
      refine j_getR (r := 23) dX3_tryFrom_24 flX3_21 (Nat.le_of_ble_eq_true rfl) rfl rfl ?_
      refine j_iload_n dX3_tryFrom_27 rfl ?_
      refine j_callV (y' := mX4_matesBelow) (As := [.int (nI u)]) (st := []) dX3_tryFrom_28 lkX3_63 okX4_matesBelow imX4_matesBelow seX4_matesBelow (Nat.le_of_ble_eq_true rfl) rfl rfl rfl rfl (Nat.le_of_ble_eq_true rfl) (Nat.le_of_ble_eq_true rfl) (x_matesBelow23 z _ n mm c t mk hn hmm hcb htb hmk u hu F0 A0 hW) (fun v28 F28 A28 hq28 => ?_)
      obtain ⟨rfl, rfl, _, rfl, rfl⟩ := hq28
      have hmb : mk u % 2 ^ u < 256 := Nat.lt_of_le_of_lt (Nat.mod_le _ _) (hmk u)
      refine j_istore_n (lv' := [(0, .ref 14), (1, .int (nI u)), (2, .int (nI x)), (3, .int (nI (mk u % 2 ^ u)))]) dX3_tryFrom_31 (Nat.le_of_ble_eq_true rfl) rfl rfl ?_
      have L35 : ∀ (fuel : Nat) (i : Nat) (F A : mj_S), (CI T F A) → (i ≤ mm u) → (SRB F (itr (fun i s => dfs mm (fB c t mk n) (n - (u + 1)) (u + 1) (uvf p u i) s) i b)) → (∀ k s, k ≠ 14 → F k s = F0 k s) → (F 14 8 = nI 1) → (∀ k, k ≠ 15 → k ≠ 16 → A k = A0 k) → (∀ v, v < u → A 16 v = A0 16 v) → mm u - i < fuel → J (gC z) mX3_tryFrom (d + 3) 35 [(0, .ref 14), (1, .int (nI u)), (2, .int (nI x)), (3, .int (nI (mk u % 2 ^ u))), (4, .int (nI i))] [] F A (TQB T n mm c t mk u p b F0 A0) := by
        intro fuel
        induction fuel with
        | zero => intro i F A hC h1 hSR hfF hb14 hfA h12 hf; exact absurd hf (by omega)
        | succ fuel ih35 =>
          intro i F A hC h1 hSR hfF hb14 hfA h12 hf
          have hWi : WT F A 23 n mm c t mk := hW.off (hfF 23 0 (by decide)) (fun q h1 h2 => hfA _ (by omega) (by omega))
          have hbi : (itr (fun i s => dfs mm (fB c t mk n) (n - (u + 1)) (u + 1) (uvf p u i) s) i b) ≤ 1000000 := B_it hbm i
          refine j_iload dX3_tryFrom_35 rfl ?_
          refine j_aload_n dX3_tryFrom_37 rfl ?_
          refine j_getR (r := 23) dX3_tryFrom_38 flX3_21 (Nat.le_of_ble_eq_true rfl) rfl rfl ?_
          refine j_getR (r := 24) dX3_tryFrom_41 flX3_66 (Nat.le_of_ble_eq_true rfl) rfl rfl ?_
          refine j_iload_n dX3_tryFrom_44 rfl ?_
          refine j_ialdN dX3_tryFrom_45 (Nat.le_of_ble_eq_true rfl) rfl (by omega) (by decide) ?_
          refine j_top (y0 := nI (mm u)) (hWi.2.1 u hu).1 ?_
          refine j_icmp_geN (tgt := 109) dX3_tryFrom_46 (by decide) (by omega) (by omega) (fun c46 => ?_) (fun c46 => ?_)
          · exact j_vret dX3_tryFrom_109 rfl ⟨rfl, hC, by rw [dfs_u hu, show mm u = i by omega]; exact hSR, hfF, hb14.trans hb8.symm, hfA, h12⟩
          · refine j_iload_n dX3_tryFrom_49 rfl ?_
            refine j_aload_n dX3_tryFrom_50 rfl ?_
            refine j_getR (r := 23) dX3_tryFrom_51 flX3_21 (Nat.le_of_ble_eq_true rfl) rfl rfl ?_
            refine j_iload_n dX3_tryFrom_54 rfl ?_
            refine j_iload dX3_tryFrom_55 rfl ?_
            refine j_iload_n dX3_tryFrom_57 rfl ?_
            refine j_aload_n dX3_tryFrom_58 rfl ?_
            refine j_getR (r := 16) dX3_tryFrom_59 flX3_15 (Nat.le_of_ble_eq_true rfl) rfl rfl ?_
            refine j_callV (y' := mX4_costBeside) (As := [.int (nI u), .int (nI i), .int (nI (mk u % 2 ^ u)), .ref 16]) (st := [.int (nI x)]) dX3_tryFrom_62 lkX3_69 okX4_costBeside imX4_costBeside seX4_costBeside (Nat.le_of_ble_eq_true rfl) rfl rfl rfl rfl (Nat.le_of_ble_eq_true rfl) (Nat.le_of_ble_eq_true rfl) (x_costBeside23_16 z _ n mm c t mk hn hmm hcb htb hmk u i (mk u % 2 ^ u) hu (by omega) hmb p F A hWi (fun v hv => by have q := mb_bt.mp hv; exact ⟨by omega, by omega, q.2, (h12 v q.1).trans (hp v q.1).1, (hp v q.1).2⟩)) (fun v62 F62 A62 hq62 => ?_)
            obtain ⟨rfl, rfl, _, rfl, rfl⟩ := hq62
            have hsml : sm c t (mk u % 2 ^ u) p u i n ≤ 1000000 := sm_le hcb n
            refine j_iaddN dX3_tryFrom_65 ?_
            refine j_istore (lv' := [(0, .ref 14), (1, .int (nI u)), (2, .int (nI x)), (3, .int (nI (mk u % 2 ^ u))), (4, .int (nI i)), (5, .int (nI (x + (sm c t (mk u % 2 ^ u) p u i n))))]) dX3_tryFrom_66 (Nat.le_of_ble_eq_true rfl) rfl rfl ?_
            refine j_iload dX3_tryFrom_68 rfl ?_
            refine j_aload_n dX3_tryFrom_70 rfl ?_
            refine j_getR (r := 17) dX3_tryFrom_71 flX3_18 (Nat.le_of_ble_eq_true rfl) rfl rfl ?_
            refine j_iload_n dX3_tryFrom_74 rfl ?_
            refine j_iconst (v := nI 1) dX3_tryFrom_75 (by decide +kernel) ?_
            refine j_iaddN dX3_tryFrom_76 ?_
            refine j_ialdN dX3_tryFrom_77 (Nat.le_of_ble_eq_true rfl) rfl (by omega) (by decide) ?_
            have hrl := rsN_le c mm n (n - (u + 1))
            refine j_top (y0 := nI (rsN c mm n (n - (u + 1)))) ((congrFun (hfA 17 (by decide) (by decide)) _).trans (hrs (u + 1) (by omega))) ?_
            refine j_iaddN dX3_tryFrom_78 ?_
            refine j_aload_n dX3_tryFrom_79 rfl ?_
            refine j_getI dX3_tryFrom_80 flX3_34 (Nat.le_of_ble_eq_true rfl) rfl rfl ?_
            refine j_top (y0 := nI ((itr (fun i s => dfs mm (fB c t mk n) (n - (u + 1)) (u + 1) (uvf p u i) s) i b))) hSR.2 ?_
            refine j_icmp_geN (tgt := 103) dX3_tryFrom_83 (by decide) (by omega) (by omega) (fun c83 => ?_) (fun c83 => ?_)
            · have hsk : dfs mm (fB c t mk n) (n - (u + 1)) (u + 1) (uvf p u i) (itr (fun i s => dfs mm (fB c t mk n) (n - (u + 1)) (u + 1) (uvf p u i) s) i b) = (itr (fun i s => dfs mm (fB c t mk n) (n - (u + 1)) (u + 1) (uvf p u i) s) i b) := skip_B hcb hu (fun v hv => (hp v hv).2) (by omega) hxe hbi (by omega)
              refine j_iinc (v := nI (i + 1)) (lv' := [(0, .ref 14), (1, .int (nI u)), (2, .int (nI x)), (3, .int (nI (mk u % 2 ^ u))), (4, .int (nI (i + 1))), (5, .int (nI (x + (sm c t (mk u % 2 ^ u) p u i n))))]) dX3_tryFrom_103 rfl (nI_add _ 1) (Nat.le_of_ble_eq_true rfl) rfl rfl ?_
              refine j_goto (tgt := 35) dX3_tryFrom_106 (by decide) ?_
              refine j_sub [0, 1, 2, 3, 4] rfl ?_
              exact ih35 (i + 1) F A (by first | exact hC | omega) (by first | exact h1 | omega) (by first | exact hSR | (show SRB _ (dfs mm (fB c t mk n) (n - (u + 1)) (u + 1) (uvf p u i) (itr (fun i s => dfs mm (fB c t mk n) (n - (u + 1)) (u + 1) (uvf p u i) s) i b)); rw [hsk]; exact hSR)) (by first | exact hfF | exact fun k s hk => (hgF k s hk).trans (hfF k s hk)) (by first | exact hb14 | exact hg8.trans hb14) (by first | exact hfA | exact fun k g1 g2 => (hgA k g1 g2).trans ((mj_u_ne _ _ g2).trans (hfA k g1 g2))) (by first | exact h12 | exact fun v hv => (hg12 v (by omega)).trans (by rw [mj_u_at, pk_un (by omega)]; exact h12 v hv)) (by omega)
            · refine j_aload_n dX3_tryFrom_86 rfl ?_
              refine j_getR (r := 16) dX3_tryFrom_87 flX3_15 (Nat.le_of_ble_eq_true rfl) rfl rfl ?_
              refine j_iload_n dX3_tryFrom_90 rfl ?_
              refine j_iload dX3_tryFrom_91 rfl ?_
              refine j_iastN dX3_tryFrom_93 (Nat.le_of_ble_eq_true rfl) rfl (by omega) (by decide) ?_
              have hC := hC.c16 u (t := i) (by omega)
              refine j_aload_n dX3_tryFrom_94 rfl ?_
              refine j_iload_n dX3_tryFrom_95 rfl ?_
              refine j_iconst (v := nI 1) dX3_tryFrom_96 (by decide +kernel) ?_
              refine j_iaddN dX3_tryFrom_97 ?_
              refine j_iload dX3_tryFrom_98 rfl ?_
              refine j_callV (y' := mX3_tryFrom) (As := [.int (nI (u + 1)), .int (nI (x + (sm c t (mk u % 2 ^ u) p u i n)))]) (st := []) dX3_tryFrom_100 lkX3_55 okX3_tryFrom imX3_tryFrom seX3_tryFrom (Nat.le_of_ble_eq_true rfl) rfl rfl rfl rfl (Nat.le_of_ble_eq_true rfl) (Nat.le_of_ble_eq_true rfl) (ih (uvf p u i) (itr (fun i s => dfs mm (fB c t mk n) (n - (u + 1)) (u + 1) (uvf p u i) s) i b) (x + sm c t (mk u % 2 ^ u) p u i n) F (mj_u A 16 u (nI i)) ⟨hC, hWi.off rfl (fun q h1 h2 => mj_u_ne _ _ (by omega)), fun v hv => by rw [mj_u_ne _ _ (by decide), hfA 17 (by decide) (by decide)]; exact hrs v hv, hSR, hbi, fun v hv => ⟨by rw [mj_u_at]; exact if e : v = u then (by rw [e, pk_us, uvf_at]) else (by rw [pk_un e, uvf_ne e, h12 v (by omega)]; exact (hp v (by omega)).1), uv_lt (fun v hv => (hp v hv).2) (by omega) v hv⟩, by rw [more_e hcb hu hxe, cap_id (by omega)], by omega, hb14⟩) (fun v100 F100 A100 hq100 => ?_)
              obtain ⟨rfl, hC, hSR, hgF, hg8, hgA, hg12⟩ := hq100
              refine j_iinc (v := nI (i + 1)) (lv' := [(0, .ref 14), (1, .int (nI u)), (2, .int (nI x)), (3, .int (nI (mk u % 2 ^ u))), (4, .int (nI (i + 1))), (5, .int (nI (x + (sm c t (mk u % 2 ^ u) p u i n))))]) dX3_tryFrom_103 rfl (nI_add _ 1) (Nat.le_of_ble_eq_true rfl) rfl rfl ?_
              refine j_goto (tgt := 35) dX3_tryFrom_106 (by decide) ?_
              refine j_sub [0, 1, 2, 3, 4] rfl ?_
              exact ih35 (i + 1) F100 A100 (by first | exact hC | omega) (by first | exact h1 | omega) (by first | exact hSR | (show SRB _ (dfs mm (fB c t mk n) (n - (u + 1)) (u + 1) (uvf p u i) (itr (fun i s => dfs mm (fB c t mk n) (n - (u + 1)) (u + 1) (uvf p u i) s) i b)); rw [hsk]; exact hSR)) (by first | exact hfF | exact fun k s hk => (hgF k s hk).trans (hfF k s hk)) (by first | exact hb14 | exact hg8.trans hb14) (by first | exact hfA | exact fun k g1 g2 => (hgA k g1 g2).trans ((mj_u_ne _ _ g2).trans (hfA k g1 g2))) (by first | exact h12 | exact fun v hv => (hg12 v (by omega)).trans (by rw [mj_u_at, pk_un (by omega)]; exact h12 v hv)) (by omega)
      refine j_iconst (v := nI 0) dX3_tryFrom_32 (by decide +kernel) ?_
      refine j_istore (lv' := [(0, .ref 14), (1, .int (nI u)), (2, .int (nI x)), (3, .int (nI (mk u % 2 ^ u))), (4, .int (nI 0))]) dX3_tryFrom_33 (Nat.le_of_ble_eq_true rfl) rfl rfl ?_
      exact L35 _ 0 F0 A0 (by first | exact hC | omega) (Nat.zero_le _) hSR (fun _ _ _ => rfl) hb8 (fun _ _ _ => rfl) (fun _ _ => rfl) (Nat.lt_succ_self _)
    · exfalso; omega

theorem x_tryFrom14 (z : mj_B) (T : Tg) (n : Nat) (mm : VF) (c : CF) (t : TF) (mk : VF) (hn : n ≤ 8) (hmm : ∀ u, u < n → 1 ≤ mm u ∧ mm u ≤ 4) (hcb : ∀ a b, c a b ≤ 1000000) (htb : ∀ a b i j, t a b i j ≤ 1000000) (hmk : ∀ u, mk u < 256) : ∀ (k d u : Nat), u + k = 8 → u ≤ n → ∀ (p : VF) (b : Nat) (x : Nat) (F A : mj_S), TPB T n mm c t mk u p b x F A → J (gC z) mX3_tryFrom (d + k + 3) 0 [(0, .ref 14), (1, .int (nI u)), (2, .int (nI x))] [] F A (TQB T n mm c t mk u p b F A)
  | 0, d, u, h, hu, p, s, x, F, A, hP => by
    obtain rfl : u = n := by omega
    exact x_tryEnd14 z d T u mm c t mk hn hmm hcb htb hmk p s x F A hP
  | k + 1, d, u, h, hu, p, s, x, F, A, hP => by
    by_cases e : u = n
    · subst e
      exact x_tryEnd14 z (d + (k + 1)) T u mm c t mk hn hmm hcb htb hmk p s x F A hP
    · exact x_tryStep14 z (d + (k + 1)) T n mm c t mk hn hmm hcb htb hmk u (by omega) (fun p s x F A hP => x_tryFrom14 z T n mm c t mk hn hmm hcb htb hmk k d (u + 1) (by omega) (by omega) p s x F A hP) p s x F A hP

set_option maxHeartbeats 400000 in
set_option maxRecDepth 100000 in
theorem x_runS14 (z : mj_B) (d : Nat) (T : Tg) (n : Nat) (mm : VF) (c : CF) (t : TF) (mk : VF) (hn : n ≤ 8) (hmm : ∀ u, u < n → 1 ≤ mm u ∧ mm u ≤ 4) (hcb : ∀ a b, c a b ≤ 1000000) (htb : ∀ a b i j, t a b i j ≤ 1000000) (hmk : ∀ u, mk u < 256) (F0 A0 : mj_S) (hW : WT F0 A0 23 n mm c t mk) (hC : CI T F0 A0) (hb8 : F0 14 8 = nI 1) : J (gC z) mX3_run (d + 12) 0 [(0, .ref 14)] [] F0 A0 (fun _v F' A' => _v = none ∧ CI T F' A' ∧ SRB F' (seaB c t mk mm n) ∧ (∀ k s, k ≠ 14 → F' k s = F0 k s) ∧ F' 14 8 = F0 14 8 ∧ ∀ k, k ≠ 15 → k ≠ 16 → k ≠ 17 → A' k = A0 k) := by
  refine j_aload_n dX3_run_0 rfl ?_
  refine j_ldc dX3_run_1 kcX3_29 ?_
  refine j_top (y0 := nI 1000000) (by decide +kernel) ?_
  refine j_putI dX3_run_3 fpX3_30 (Nat.le_of_ble_eq_true rfl) rfl rfl ?_
  have hC := hC.f (k := 14) (s := 0) rfl (nI 1000000)
  refine j_aload_n dX3_run_6 rfl ?_
  refine j_ldc dX3_run_7 kcX3_29 ?_
  refine j_top (y0 := nI 1000000) (by decide +kernel) ?_
  refine j_putI dX3_run_9 fpX3_34 (Nat.le_of_ble_eq_true rfl) rfl rfl ?_
  have hC := hC.f (k := 14) (s := 1) rfl (nI 1000000)
  refine j_aload_n dX3_run_12 rfl ?_
  refine j_iconst (v := nI 0) dX3_run_13 (by decide +kernel) ?_
  refine j_putI dX3_run_14 fpX3_37 (Nat.le_of_ble_eq_true rfl) rfl rfl ?_
  have hC := hC.f (k := 14) (s := 2) rfl (nI 0)
  refine j_aload_n dX3_run_17 rfl ?_
  refine j_iconst (v := nI 0) dX3_run_18 (by decide +kernel) ?_
  refine j_putI dX3_run_19 fpX3_40 (Nat.le_of_ble_eq_true rfl) rfl rfl ?_
  have hC := hC.f (k := 14) (s := 3) rfl (nI 0)
  obtain ⟨F1, hF1⟩ : ∃ F1, F1 = mj_u (mj_u (mj_u (mj_u F0 14 0 (nI 1000000)) 14 1 (nI 1000000)) 14 2 (nI 0)) 14 3 (nI 0) := ⟨_, rfl⟩
  rw [← hF1] at hC
  refine j_F hF1.symm ?_
  have hW : WT F1 A0 23 n mm c t mk := hW.off (by rw [hF1]; rfl) (fun _ _ _ => rfl)
  have hfF : ∀ k s, k ≠ 14 → F1 k s = F0 k s := fun k s hk => by rw [hF1, mj_u_ne _ _ hk, mj_u_ne _ _ hk, mj_u_ne _ _ hk, mj_u_ne _ _ hk]
  have hf0 : F1 14 0 = nI 1000000 ∧ F1 14 1 = nI 1000000 ∧ F1 14 2 = nI 0 ∧ F1 14 8 = F0 14 8 := by rw [hF1]; exact ⟨rfl, rfl, rfl, rfl⟩
  have L45 : ∀ (fuel : Nat) (x : Int32) (kk : Nat) (A : mj_S), (CI T F1 A) → (x + 1 = nI kk) → (kk ≤ n) → (∀ v, kk ≤ v → v ≤ n → A 17 v = nI (rsN c mm n (n - v))) → (∀ k, k ≠ 17 → A k = A0 k) → kk < fuel → J (gC z) mX3_run (d + 12) 45 [(0, .ref 14), (1, .int x)] [] F1 A (fun _v F' A' => _v = none ∧ CI T F' A' ∧ SRB F' (seaB c t mk mm n) ∧ (∀ k s, k ≠ 14 → F' k s = F0 k s) ∧ F' 14 8 = F0 14 8 ∧ ∀ k, k ≠ 15 → k ≠ 16 → k ≠ 17 → A' k = A0 k) := by
    intro fuel
    induction fuel with
    | zero => intro x kk A hC hx h1 hrs hfA hf; exact absurd hf (by omega)
    | succ fuel ih45 =>
      intro x kk A hC hx h1 hrs hfA hf
      refine j_iload_n dX3_run_45 rfl ?_
      refine j_if_lt (tgt := 81) dX3_run_46 (by decide) (fun c46 => ?_) (fun c46 => ?_)
      · have hk0 := rd_end (by omega) hx c46
        refine j_aload_n dX3_run_81 rfl ?_
        refine j_iconst (v := nI 0) dX3_run_82 (by decide +kernel) ?_
        refine j_iconst (v := nI 0) dX3_run_83 (by decide +kernel) ?_
        refine j_callV (y' := mX3_tryFrom) (As := [.int (nI 0), .int (nI 0)]) (st := []) dX3_run_84 lkX3_55 okX3_tryFrom imX3_tryFrom seX3_tryFrom (Nat.le_of_ble_eq_true rfl) rfl rfl rfl rfl (Nat.le_of_ble_eq_true rfl) (Nat.le_of_ble_eq_true rfl) (x_tryFrom14 z T n mm c t mk hn hmm hcb htb hmk 8 d 0 (by omega) (Nat.zero_le _) p00 1000000 0 F1 A ⟨hC, hW.off rfl (fun q h1 h2 => hfA _ (by omega)), fun v hv => hrs v (by omega) hv, ⟨hf0.1, hf0.2.1⟩, Nat.le_refl _, fun v hv => absurd hv (Nat.not_lt_zero v), rfl, by decide, hf0.2.2.2.trans hb8⟩) (fun v84 F84 A84 hq84 => ?_)
        obtain ⟨rfl, hC, hSR, hgF, hg8, hgA, -⟩ := hq84
        exact j_vret dX3_run_87 rfl ⟨rfl, hC, hSR, fun k s hk => (hgF k s hk).trans (hfF k s hk), hg8.trans hf0.2.2.2, fun k h1 h2 h3 => (hgA k h1 h2).trans (hfA k h3)⟩
      · have hk0 : 0 < kk := Nat.pos_of_ne_zero (fun e => by rw [e] at hx; exact c46 (dn0 hx))
        obtain rfl : x = nI (kk - 1) := dn1 hx hk0
        have hkk : kk - 1 + 1 = kk := by omega
        refine j_aload_n dX3_run_49 rfl ?_
        refine j_getR (r := 17) dX3_run_50 flX3_18 (Nat.le_of_ble_eq_true rfl) rfl rfl ?_
        refine j_iload_n dX3_run_53 rfl ?_
        refine j_aload_n dX3_run_54 rfl ?_
        refine j_getR (r := 17) dX3_run_55 flX3_18 (Nat.le_of_ble_eq_true rfl) rfl rfl ?_
        refine j_iload_n dX3_run_58 rfl ?_
        refine j_iconst (v := nI 1) dX3_run_59 (by decide +kernel) ?_
        refine j_iaddN dX3_run_60 ?_
        refine j_ialdN dX3_run_61 (Nat.le_of_ble_eq_true rfl) rfl (by omega) (by decide) ?_
        have hrl := rsN_le c mm n (n - kk)
        refine j_top (y0 := nI (rsN c mm n (n - kk))) (by rw [hkk]; exact hrs kk (Nat.le_refl _) h1) ?_
        refine j_aload_n dX3_run_62 rfl ?_
        refine j_getR (r := 23) dX3_run_63 flX3_21 (Nat.le_of_ble_eq_true rfl) rfl rfl ?_
        refine j_iload_n dX3_run_66 rfl ?_
        refine j_callV (y' := mX4_leastCost) (As := [.int (nI (kk - 1))]) (st := [.int (nI (rsN c mm n (n - kk))), .int (nI (kk - 1)), .ref 17]) dX3_run_67 lkX3_48 okX4_leastCost imX4_leastCost seX4_leastCost (Nat.le_of_ble_eq_true rfl) rfl rfl rfl rfl (Nat.le_of_ble_eq_true rfl) (Nat.le_of_ble_eq_true rfl) (x_leastCost23 z _ n mm c t mk hn hmm hcb htb hmk (kk - 1) (by omega) F1 A (hW.off rfl (fun q h1 h2 => hfA _ (by omega)))) (fun v67 F67 A67 hq67 => ?_)
        obtain ⟨rfl, rfl, _, rfl, rfl⟩ := hq67
        have hlc : mn (fun i => c (kk - 1) i) (mm (kk - 1)) ≤ 1000000 := mn_le _ _
        refine j_iaddN dX3_run_70 ?_
        refine j_callSN (y' := mX5_capped) (As := [.int (nI (rsN c mm n (n - kk) + (mn (fun i => c (kk - 1) i) (mm (kk - 1)))))]) (st := [.int (nI (kk - 1)), .ref 17]) dX3_run_71 lnX3_52 okX5_capped stX5_capped rfl (Nat.le_of_ble_eq_true rfl) (Nat.le_of_ble_eq_true rfl) (c_cappedN z _ (rsN c mm n (n - kk) + (mn (fun i => c (kk - 1) i) (mm (kk - 1)))) (by omega) F1 A) (fun v71 F71 A71 hq71 => ?_)
        obtain ⟨rfl, rfl, _, rfl, rfl⟩ := hq71
        have hcp1 := cap_le (rsN c mm n (n - kk) + (mn (fun i => c (kk - 1) i) (mm (kk - 1))))
        refine j_iastN dX3_run_74 (Nat.le_of_ble_eq_true rfl) rfl (by omega) (by decide) ?_
        have hC := hC.u (k := 17) rfl (kk - 1) (nI (cap (rsN c mm n (n - kk) + (mn (fun i => c (kk - 1) i) (mm (kk - 1))))))
        refine j_iinc (v := nI (kk - 1) + Int32.ofInt (-1)) (lv' := [(0, .ref 14), (1, .int (nI (kk - 1) + Int32.ofInt (-1)))]) dX3_run_75 rfl rfl (Nat.le_of_ble_eq_true rfl) rfl rfl ?_
        refine j_goto (tgt := 45) dX3_run_78 (by decide) ?_
        exact ih45 (nI (kk - 1) + Int32.ofInt (-1)) (kk - 1) (mj_u A 17 (kk - 1) (nI (cap (rsN c mm n (n - kk) + (mn (fun i => c (kk - 1) i) (mm (kk - 1))))))) (by first | exact hC | omega) (dn2 _) (by first | exact h1 | omega) (fun v h1 h2 => by rw [mj_u_at]; exact if e : v = kk - 1 then (by rw [e, pk_us]; exact congrArg nI (rs_st hk0 (by omega)).symm) else (by rw [pk_un e]; exact hrs v (by omega) h2)) (fun k hk => by rw [mj_u_ne _ _ hk]; exact hfA k hk) (by omega)
  refine j_aload_n dX3_run_22 rfl ?_
  refine j_getR (r := 17) dX3_run_23 flX3_18 (Nat.le_of_ble_eq_true rfl) rfl rfl ?_
  refine j_aload_n dX3_run_26 rfl ?_
  refine j_getR (r := 23) dX3_run_27 flX3_21 (Nat.le_of_ble_eq_true rfl) rfl rfl ?_
  refine j_getI dX3_run_30 flX3_43 (Nat.le_of_ble_eq_true rfl) rfl rfl ?_
  refine j_top (y0 := nI n) hW.1 ?_
  refine j_iconst (v := nI 0) dX3_run_33 (by decide +kernel) ?_
  refine j_iastN dX3_run_34 (Nat.le_of_ble_eq_true rfl) rfl (by omega) (by decide) ?_
  have hC := hC.u (k := 17) rfl n (nI 0)
  refine j_aload_n dX3_run_35 rfl ?_
  refine j_getR (r := 23) dX3_run_36 flX3_21 (Nat.le_of_ble_eq_true rfl) rfl rfl ?_
  refine j_getI dX3_run_39 flX3_43 (Nat.le_of_ble_eq_true rfl) rfl rfl ?_
  refine j_top (y0 := nI n) hW.1 ?_
  refine j_iconst (v := nI 1) dX3_run_42 (by decide +kernel) ?_
  refine j_isub dX3_run_43 ?_
  refine j_top (y0 := (nI n) - (nI 1)) rfl ?_
  refine j_istore_n (lv' := [(0, .ref 14), (1, .int ((nI n) - (nI 1)))]) dX3_run_44 (Nat.le_of_ble_eq_true rfl) rfl rfl ?_
  exact L45 _ ((nI n) - (nI 1)) n (mj_u A0 17 n (nI 0)) (by first | exact hC | omega) (dn4 n) (by first | exact h1 | omega) (fun v h1 h2 => by rw [show v = n by omega, mj_u_at, pk_us, Nat.sub_self]; rfl) (fun k hk => mj_u_ne _ _ hk) (Nat.lt_succ_self _)
