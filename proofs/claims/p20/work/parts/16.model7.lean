/-! the reference: reduceAll, goAll, and what asks them -/
theorem dn4 (n : Nat) : nI n - nI 1 + 1 = nI n := by
  rw [show nI 1 = 1 from by decide +kernel, Int32.sub_add_cancel]

def ML (A : mj_S) (K : Nat) (S : RSt) : Prop := ∀ q, q < K → A 11 q = nI (S.2.2.1 q) ∧ A 12 q = nI (S.2.2.2.1 q) ∧ A 13 q = nI (S.2.2.2.2 q) ∧ (S.2.2.2.1 q = 3 → A 14 (S.2.2.1 q) = nI (S.2.1.2 (S.2.2.1 q)))
def ML3 (A : mj_S) (K : Nat) (S : RSt) : Prop := ∀ q, q < K → A 11 q = nI (S.2.2.1 q) ∧ A 12 q = nI (S.2.2.2.1 q) ∧ A 13 q = nI (S.2.2.2.2 q)
def MRes (A : mj_S) (n : Nat) (mm : VF) (row : Nat → Int32) : Prop := (∀ q, q < n → A 11 q = nI ((redS n mm row).2.2.1 q) ∧ A 12 q = nI ((redS n mm row).2.2.2.1 q)) ∧ ∀ u, u < n → A 14 u = nI (tkF n mm row u)
theorem MR.mc {A : mj_S} {n : Nat} {mm : VF} {c : CF} {t : TF} {mk mk' : VF} (h : MR A n mm c t mk) (e : ∀ u, u < n → mk' u = mk u) : MR A n mm c t mk' := ⟨h.1, h.2.1, fun u hu => by rw [e u hu]; exact h.2.2 u hu⟩
theorem clr_part {f : VF} {u v x : Nat} : (if x < v + 1 then clr (f x) u else f x) = uvf (fun x => if x < v then clr (f x) u else f x) v (clr (f v) u) x := by
  unfold uvf
  by_cases e : x = v
  · rw [if_pos e, if_pos (by omega), e]
  · rw [if_neg e]
    show _ = if x < v then clr (f x) u else f x
    by_cases e2 : x < v
    · rw [if_pos e2, if_pos (by omega)]
    · rw [if_neg e2, if_neg (by omega)]
theorem ML_step {A A' : mj_S} {n : Nat} {mm : VF} {k u : Nat} {S : RSt} (hI : RV n mm k S) (hu : u < n) (hbu : S.2.1.1 / 2 ^ u % 2 = 1) (h : ML A k S) (h11 : A' 11 = upd (A 11) k (nI u)) (h12 : A' 12 = upd (A 12) k (nI (r3n (pc (S.1.2.2 u))))) (h13 : A' 13 = upd (A 13) k (nI (S.1.2.2 u))) (h14 : ∀ x, x ≠ u → A' 14 x = A 14 x) (h3 : 2 < pc (S.1.2.2 u) → A' 14 u = nI ((ru n mm S.1.1 S.1.2.1 S.1.2.2 S.2.1.2 u).2 u)) (ht : ∀ x, x ≠ u → (ru n mm S.1.1 S.1.2.1 S.1.2.2 S.2.1.2 u).2 x = S.2.1.2 x) : ML A' (k + 1) (stU n mm S k u) := by
  intro q hq
  show A' 11 q = nI (uvf S.2.2.1 k u q) ∧ A' 12 q = nI (uvf S.2.2.2.1 k (r3n (pc (S.1.2.2 u))) q) ∧ A' 13 q = nI (uvf S.2.2.2.2 k (S.1.2.2 u) q) ∧ (uvf S.2.2.2.1 k (r3n (pc (S.1.2.2 u))) q = 3 → A' 14 (uvf S.2.2.1 k u q) = nI ((ru n mm S.1.1 S.1.2.1 S.1.2.2 S.2.1.2 u).2 (uvf S.2.2.1 k u q)))
  rw [h11, h12, h13]
  by_cases e : q = k
  · subst e
    rw [pk_us, pk_us, pk_us, uvf_at, uvf_at, uvf_at]
    refine ⟨rfl, rfl, rfl, fun e3 => h3 ?_⟩
    unfold r3n at e3
    split at e3 <;> omega
  · rw [pk_un e, pk_un e, pk_un e, uvf_ne e, uvf_ne e, uvf_ne e]
    obtain ⟨g1, g2, g3, g4⟩ := h q (by omega)
    have hne : S.2.2.1 q ≠ u := (hI.2.2.1.2 u hu).mp hbu q (by omega)
    exact ⟨g1, g2, g3, fun e3 => by rw [h14 _ hne, ht _ hne]; exact g4 e3⟩
theorem rd_end {x : Int32} {kk : Nat} (hk : kk ≤ 8) (hx : x + 1 = nI kk) (h : x < 0) : kk = 0 := by
  apply Classical.byContradiction
  intro q
  rw [dn1 hx (by omega)] at h
  exact ni_m1 (kk - 1) (by omega) h
theorem ro_hT {A A' : mj_S} {n : Nat} {mm : VF} {S : RSt} {kk : Nat} (hI : RV n mm n S) (h0 : 0 < kk) (hk : kk ≤ n) (h3 : S.2.2.2.1 (kk - 1) < 3) (hro : ∀ q, q < n → (kk ≤ q ∨ S.2.2.2.1 q = 3) → A 14 (S.2.2.1 q) = nI (ro n mm S (n - kk) (S.2.2.1 q))) (h14 : ∀ x, x ≠ S.2.2.1 (kk - 1) → A' 14 x = A 14 x) (ht : A' 14 (S.2.2.1 (kk - 1)) = nI (tb n mm S.1.1 S.1.2.1 (S.2.2.2.2 (kk - 1)) (ro n mm S (n - kk)) (S.2.2.1 (kk - 1)))) : ∀ q, q < n → (kk - 1 ≤ q ∨ S.2.2.2.1 q = 3) → A' 14 (S.2.2.1 q) = nI (ro n mm S (n - (kk - 1)) (S.2.2.1 q)) := by
  intro q hq h
  rw [ro_sT h0 hk h3]
  by_cases e : q = kk - 1
  · rw [e, uvf_at]; exact ht
  · have hne := RV_inj hI hq (show kk - 1 < n by omega) e
    rw [uvf_ne hne, h14 _ hne]
    exact hro q hq (h.imp (fun h => by omega) id)
theorem ro_hF {A : mj_S} {n : Nat} {mm : VF} {S : RSt} {kk : Nat} (hI : RV n mm n S) (h0 : 0 < kk) (hk : kk ≤ n) (h3 : ¬ S.2.2.2.1 (kk - 1) < 3) (hro : ∀ q, q < n → (kk ≤ q ∨ S.2.2.2.1 q = 3) → A 14 (S.2.2.1 q) = nI (ro n mm S (n - kk) (S.2.2.1 q))) : ∀ q, q < n → (kk - 1 ≤ q ∨ S.2.2.2.1 q = 3) → A 14 (S.2.2.1 q) = nI (ro n mm S (n - (kk - 1)) (S.2.2.1 q)) := by
  intro q hq h
  rw [ro_sF h0 hk h3]
  refine hro q hq ?_
  by_cases e : q = kk - 1
  · have := (hI.2.2.2 q hq).1.2.1
    rw [← e] at h3
    exact Or.inr (by omega)
  · exact h.imp (fun h => by omega) id

set_option maxHeartbeats 400000 in
set_option maxRecDepth 100000 in
theorem m_reduceAll (z : mj_B) (d : Nat) (L : Lg) (n : Nat) (mm : Nat → Nat) (rn : Nat) (rm : Nat → Nat) (un kn : Nat) (F A : mj_S) (hM : MI L n mm rn rm un kn F A) (hw : wr n mm (L.2 5)) : J (gM z) mX6_reduceAll (d + 3) 0 [(0, .ref 0)] [] F A (fun v F' A' => v = none ∧ F = F' ∧ MI L n mm rn rm un kn F A' ∧ MRes A' n mm (L.2 5)) := by
  have hM0 := hM.1.2.1
  have hM1 := hM.2.1.2.1
  have hM2 := hM.2.2.1.2.1
  have hM3 := hM.2.2.2.1.2
  have hM4 := hM.2.2.2.2.1.2
  have hp2 := p2_le hM1
  have L200 : ∀ (fuel : Nat) (x : Int32) (kk : Nat) (A : mj_S), (MI L n mm rn rm un kn F A) → (x + 1 = nI kk) → (kk ≤ n) → (MR A n mm (redS n mm (L.2 5)).1.1 (redS n mm (L.2 5)).1.2.1 (redS n mm (L.2 5)).1.2.2) → (ML3 A n (redS n mm (L.2 5))) → (∀ q, q < n → (kk ≤ q ∨ (redS n mm (L.2 5)).2.2.2.1 q = 3) → A 14 ((redS n mm (L.2 5)).2.2.1 q) = nI (ro n mm (redS n mm (L.2 5)) (n - kk) ((redS n mm (L.2 5)).2.2.1 q))) → kk < fuel → J (gM z) mX6_reduceAll (d + 3) 200 [(0, .ref 0), (2, .int x)] [] F A (fun v F' A' => v = none ∧ F = F' ∧ MI L n mm rn rm un kn F A' ∧ MRes A' n mm (L.2 5)) := by
    intro fuel
    induction fuel with
    | zero => intro x kk A hM hx h6 hR hML hro hf; exact absurd hf (by omega)
    | succ fuel ih200 =>
      intro x kk A hM hx h6 hR hML hro hf
      have hI := RV_red hw
      obtain ⟨S, hS⟩ : ∃ S, S = redS n mm (L.2 5) := ⟨_, rfl⟩
      rw [← hS] at hI hR hML hro
      have hcb := hI.1.1
      have htb := hI.1.2.1
      have hmk := hI.2.1.1
      refine j_iload_n dX6_reduceAll_200 rfl ?_
      refine j_if_lt (tgt := 236) dX6_reduceAll_201 (by decide) (fun c201 => ?_) (fun c201 => ?_)
      · exact j_vret dX6_reduceAll_236 rfl ⟨rfl, rfl, hM, ⟨fun q hq => by rw [← hS]; exact ⟨(hML q hq).1, (hML q hq).2.1⟩, fun u hu => by
        obtain ⟨q, hq, rfl⟩ := RV_sur hM1 hI hu
        have hk0 := rd_end (by omega) hx c201
        rw [hk0] at hro
        unfold tkF
        rw [← hS]
        exact hro q hq (Or.inl (Nat.zero_le _))⟩⟩
      · have hk0 : 0 < kk := Nat.pos_of_ne_zero (fun e => by rw [e] at hx; exact c201 (dn0 hx))
        obtain rfl : x = nI (kk - 1) := dn1 hx hk0
        have hlg := hML (kk - 1) (by omega)
        have hig := (hI.2.2.2 (kk - 1) (by omega)).1
        refine j_aload_n dX6_reduceAll_204 rfl ?_
        refine j_getR (r := 12) dX6_reduceAll_205 flX6_43 (Nat.le_of_ble_eq_true rfl) rfl rfl ?_
        refine j_iload_n dX6_reduceAll_208 rfl ?_
        refine j_ialdN dX6_reduceAll_209 (Nat.le_of_ble_eq_true rfl) rfl (by omega) (by decide) ?_
        refine j_top (y0 := nI (S.2.2.2.1 (kk - 1))) hlg.2.1 ?_
        refine j_iconst (v := nI 3) dX6_reduceAll_210 (by decide +kernel) ?_
        refine j_icmp_geN (tgt := 230) dX6_reduceAll_211 (by decide) (by omega) (by omega) (fun c211 => ?_) (fun c211 => ?_)
        · refine j_iinc (v := nI (kk - 1) + Int32.ofInt (-1)) (lv' := [(0, .ref 0), (2, .int (nI (kk - 1) + Int32.ofInt (-1)))]) dX6_reduceAll_230 rfl rfl (Nat.le_of_ble_eq_true rfl) rfl rfl ?_
          refine j_goto (tgt := 200) dX6_reduceAll_233 (by decide) ?_
          exact ih200 (nI (kk - 1) + Int32.ofInt (-1)) (kk - 1) A (by first | exact hM | omega) (dn2 _) (by first | exact h6 | omega) (by rw [← hS]; first | exact hR | exact hR.off (hfr 8 (by decide)) (hfr 9 (by decide)) (hfr 10 (by decide))) (by rw [← hS]; first | exact hML | exact fun q hq => by rw [hfr 11 (by decide), hfr 12 (by decide), hfr 13 (by decide)]; exact hML q hq) (by rw [← hS]; first | exact ro_hT hI hk0 (by omega) (by omega) hro h14 htk | exact ro_hF hI hk0 (by omega) (by omega) hro) (by omega)
        · refine j_aload_n dX6_reduceAll_214 rfl ?_
          refine j_aload_n dX6_reduceAll_215 rfl ?_
          refine j_getR (r := 11) dX6_reduceAll_216 flX6_40 (Nat.le_of_ble_eq_true rfl) rfl rfl ?_
          refine j_iload_n dX6_reduceAll_219 rfl ?_
          refine j_ialdN dX6_reduceAll_220 (Nat.le_of_ble_eq_true rfl) rfl (by omega) (by decide) ?_
          refine j_top (y0 := nI (S.2.2.1 (kk - 1))) hlg.1 ?_
          refine j_aload_n dX6_reduceAll_221 rfl ?_
          refine j_getR (r := 13) dX6_reduceAll_222 flX6_46 (Nat.le_of_ble_eq_true rfl) rfl rfl ?_
          refine j_iload_n dX6_reduceAll_225 rfl ?_
          refine j_ialdN dX6_reduceAll_226 (Nat.le_of_ble_eq_true rfl) rfl (by omega) (by decide) ?_
          refine j_top (y0 := nI (S.2.2.2.2 (kk - 1))) hlg.2.2 ?_
          refine j_callV (y' := mX6_takeBest) (As := [.int (nI (S.2.2.1 (kk - 1))), .int (nI (S.2.2.2.2 (kk - 1)))]) (st := []) dX6_reduceAll_227 lkX6_218 okX6_takeBest imX6_takeBest seX6_takeBest (Nat.le_of_ble_eq_true rfl) rfl rfl rfl rfl (Nat.le_of_ble_eq_true rfl) (Nat.le_of_ble_eq_true rfl) (m_takeBest z _ _ _ _ _ _ _ _ S.1.1 S.1.2.1 S.1.2.2 hcb htb hmk (S.2.2.1 (kk - 1)) (S.2.2.2.2 (kk - 1)) hig.1 hig.2.2 (fun h => by obtain ⟨q, h1, h2, e⟩ := RV_wi hM1 hI (k := kk - 1) (by omega) h; exact RV_inj hI h2 (show kk - 1 < n by omega) (by omega) e) (ro n mm S (n - kk)) F A hM hR (fun v hv => by obtain ⟨q, h1, h2, e⟩ := RV_wi hM1 hI (k := kk - 1) (by omega) hv; rw [← e]; exact ⟨hro q h2 (Or.inl (by omega)), RO_run (fun u hu => hM.2.1.2.2.2.2 u hu) hI (n - kk) (by omega) q h2 (Or.inl (by omega))⟩)) (fun v227 F227 A227 hq227 => ?_)
          obtain ⟨rfl, rfl, hM, hfr, h14, htk⟩ := hq227
          refine j_iinc (v := nI (kk - 1) + Int32.ofInt (-1)) (lv' := [(0, .ref 0), (2, .int (nI (kk - 1) + Int32.ofInt (-1)))]) dX6_reduceAll_230 rfl rfl (Nat.le_of_ble_eq_true rfl) rfl rfl ?_
          refine j_goto (tgt := 200) dX6_reduceAll_233 (by decide) ?_
          exact ih200 (nI (kk - 1) + Int32.ofInt (-1)) (kk - 1) A227 (by first | exact hM | omega) (dn2 _) (by first | exact h6 | omega) (by rw [← hS]; first | exact hR | exact hR.off (hfr 8 (by decide)) (hfr 9 (by decide)) (hfr 10 (by decide))) (by rw [← hS]; first | exact hML | exact fun q hq => by rw [hfr 11 (by decide), hfr 12 (by decide), hfr 13 (by decide)]; exact hML q hq) (by rw [← hS]; first | exact ro_hT hI hk0 (by omega) (by omega) hro h14 htk | exact ro_hF hI hk0 (by omega) (by omega) hro) (by omega)
  have L15 : ∀ (fuel : Nat) (s : Nat) (k : Nat) (A : mj_S), (MI L n mm rn rm un kn F A) → (pc s + k = n ∧ s < 2 ^ n ∧ k ≤ n) → (s = (rns n mm (S0' n mm (L.2 5)) k).2.1.1) → (MR A n mm (rns n mm (S0' n mm (L.2 5)) k).1.1 (rns n mm (S0' n mm (L.2 5)) k).1.2.1 (rns n mm (S0' n mm (L.2 5)) k).1.2.2) → (ML A k (rns n mm (S0' n mm (L.2 5)) k)) → n - k < fuel → J (gM z) mX6_reduceAll (d + 3) 15 [(0, .ref 0), (1, .int (nI s)), (2, .int (nI k))] [] F A (fun v F' A' => v = none ∧ F = F' ∧ MI L n mm rn rm un kn F A' ∧ MRes A' n mm (L.2 5)) := by
    intro fuel
    induction fuel with
    | zero => intro s k A hM h1 hs hR hML hf; exact absurd hf (by omega)
    | succ fuel ih15 =>
      intro s k A hM h1 hs hR hML hf
      have hI := RV_run hw k (by omega)
      obtain ⟨S, hS⟩ : ∃ S, S = rns n mm (S0' n mm (L.2 5)) k := ⟨_, rfl⟩
      rw [← hS] at hI hs hR hML
      have hcb := hI.1.1
      have htb := hI.1.2.1
      have hmk := hI.2.1.1
      have hs2 := h1.2.1
      refine j_iload_n dX6_reduceAll_15 rfl ?_
      refine j_aload_n dX6_reduceAll_16 rfl ?_
      refine j_getI dX6_reduceAll_17 flX6_132 (Nat.le_of_ble_eq_true rfl) rfl rfl ?_
      refine j_top (y0 := nI n) hM.2.1.1 ?_
      refine j_icmp_geN (tgt := 193) dX6_reduceAll_20 (by decide) (by omega) (by omega) (fun c20 => ?_) (fun c20 => ?_)
      · have hkn : k = n := by omega
        have hSN : redS n mm (L.2 5) = S := by
          rw [hS]
          show rns n mm (S0' n mm (L.2 5)) n = rns n mm (S0' n mm (L.2 5)) k
          rw [hkn]
        refine j_aload_n dX6_reduceAll_193 rfl ?_
        refine j_getI dX6_reduceAll_194 flX6_132 (Nat.le_of_ble_eq_true rfl) rfl rfl ?_
        refine j_top (y0 := nI n) hM.2.1.1 ?_
        refine j_iconst (v := nI 1) dX6_reduceAll_197 (by decide +kernel) ?_
        refine j_isub dX6_reduceAll_198 ?_
        refine j_top (y0 := (nI n) - (nI 1)) rfl ?_
        refine j_istore_n (lv' := [(0, .ref 0), (1, .int (nI s)), (2, .int ((nI n) - (nI 1)))]) dX6_reduceAll_199 (Nat.le_of_ble_eq_true rfl) rfl rfl ?_
        refine j_sub [0, 2] rfl ?_
        exact L200 _ ((nI n) - (nI 1)) n A (by first | exact hM | omega) (dn4 n) (by first | exact h6 | omega) (by rw [hSN]; exact hR) (by rw [hSN]; exact fun q hq => ⟨(hML q (by omega)).1, (hML q (by omega)).2.1, (hML q (by omega)).2.2.1⟩) (by rw [hSN, Nat.sub_self]; exact fun q hq h => (hML q (by omega)).2.2.2 (h.resolve_left (by omega))) (Nat.lt_succ_self _)
      · have hs0 := pc_pos s (by omega) (by omega)
        refine j_aload_n dX6_reduceAll_23 rfl ?_
        refine j_iload_n dX6_reduceAll_24 rfl ?_
        refine j_callV (y' := mX6_nextOf) (As := [.int (nI s)]) (st := []) dX6_reduceAll_25 lkX6_202 okX6_nextOf imX6_nextOf seX6_nextOf (Nat.le_of_ble_eq_true rfl) rfl rfl rfl rfl (Nat.le_of_ble_eq_true rfl) (Nat.le_of_ble_eq_true rfl) (m_nextOf z _ _ _ _ _ _ _ _ S.1.1 S.1.2.1 S.1.2.2 hcb htb hmk s (by rw [hs]; exact hI.2.2.1.1.1) hs0 F A hM hR) (fun v25 F25 A25 hq25 => ?_)
        obtain ⟨rfl, rfl, u, rfl, hun⟩ := hq25
        have hnx := RV_next hM1 hI (by omega)
        rw [← hs, ← hun] at hnx
        obtain ⟨hu, hbu⟩ := hnx
        have hbu' : S.2.1.1 / 2 ^ u % 2 = 1 := by rw [← hs]; exact hbu
        have hstep : rns n mm (S0' n mm (L.2 5)) (k + 1) = stU n mm S k u := by
          show stU n mm (rns n mm (S0' n mm (L.2 5)) k) k (nxt mm (rns n mm (S0' n mm (L.2 5)) k).1.2.2 n (rns n mm (S0' n mm (L.2 5)) k).2.1.1) = stU n mm S k u
          rw [← hS, hun, hs]
        have hok := ru_ok (n := n) (mm := mm) (tk := S.2.1.2) (u := u) hI.1.1 hI.1.2.1 hI.1.2.2 hI.2.1.1 hI.2.1.2.1 hI.2.1.2.2.1 hI.2.1.2.2.2 (hM.2.1.2.2.2.2 u hu)
        refine j_istore_n (lv' := [(0, .ref 0), (1, .int (nI s)), (2, .int (nI k)), (3, .int (nI u))]) dX6_reduceAll_28 (Nat.le_of_ble_eq_true rfl) rfl rfl ?_
        obtain ⟨R, hRU⟩ : ∃ R, R = ru n mm S.1.1 S.1.2.1 S.1.2.2 S.2.1.2 u := ⟨_, rfl⟩
        have hrm : ∀ x, R.1.2.2 x < 256 := by rw [hRU]; exact hok.2.1.1
        have L149 : ∀ (fuel : Nat) (v : Nat) (A : mj_S), (MI L n mm rn rm un kn F A) → (v ≤ n) → (MR A n mm R.1.1 R.1.2.1 (fun x => if x < v then clr (R.1.2.2 x) u else R.1.2.2 x)) → (ML A (k + 1) (stU n mm S k u)) → n - v < fuel → J (gM z) mX6_reduceAll (d + 3) 149 [(0, .ref 0), (1, .int (nI s)), (2, .int (nI k)), (3, .int (nI u)), (5, .int (nI v))] [] F A (fun v F' A' => v = none ∧ F = F' ∧ MI L n mm rn rm un kn F A' ∧ MRes A' n mm (L.2 5)) := by
          intro fuel
          induction fuel with
          | zero => intro v A hM h5 hR hML hf; exact absurd hf (by omega)
          | succ fuel ih149 =>
            intro v A hM h5 hR hML hf
            refine j_iload dX6_reduceAll_149 rfl ?_
            refine j_aload_n dX6_reduceAll_151 rfl ?_
            refine j_getI dX6_reduceAll_152 flX6_132 (Nat.le_of_ble_eq_true rfl) rfl rfl ?_
            refine j_top (y0 := nI n) hM.2.1.1 ?_
            refine j_icmp_geN (tgt := 179) dX6_reduceAll_155 (by decide) (by omega) (by omega) (fun c155 => ?_) (fun c155 => ?_)
            · refine j_iload_n dX6_reduceAll_179 rfl ?_
              refine j_iconst (v := nI 1) dX6_reduceAll_180 (by decide +kernel) ?_
              refine j_iload_n dX6_reduceAll_181 rfl ?_
              refine j_ishl dX6_reduceAll_182 ?_
              refine j_top (y0 := nI (2 ^ u)) (shl_1 (by omega)) ?_
              refine j_iconst (v := (-1)) dX6_reduceAll_183 (by decide +kernel) ?_
              refine j_ixor dX6_reduceAll_184 ?_
              refine j_iand dX6_reduceAll_185 ?_
              refine j_top (y0 := nI (clr s u)) (clr_eq _ (by omega) _ (by omega)) ?_
              refine j_istore_n (lv' := [(0, .ref 0), (1, .int (nI (clr s u))), (2, .int (nI k)), (3, .int (nI u)), (5, .int (nI v))]) dX6_reduceAll_186 (Nat.le_of_ble_eq_true rfl) rfl rfl ?_
              refine j_iinc (v := nI (k + 1)) (lv' := [(0, .ref 0), (1, .int (nI (clr s u))), (2, .int (nI (k + 1))), (3, .int (nI u)), (5, .int (nI v))]) dX6_reduceAll_187 rfl (nI_add _ 1) (Nat.le_of_ble_eq_true rfl) rfl rfl ?_
              refine j_goto (tgt := 15) dX6_reduceAll_190 (by decide) ?_
              refine j_sub [0, 1, 2] rfl ?_
              exact ih15 (clr s u) (k + 1) A (by first | exact hM | omega) ⟨by have := clr_pc s (by omega) u (by omega) hbu; omega, Nat.lt_of_le_of_lt (clr_le _ _) h1.2.1, by omega⟩ (by rw [hstep, hs]; rfl) (by rw [hstep]; unfold stU; rw [← hRU]; exact hR.mc (fun x hx => (if_pos (by omega)).symm)) (by rw [hstep]; exact hML) (by omega)
            · refine j_aload_n dX6_reduceAll_158 rfl ?_
              refine j_getR (r := 10) dX6_reduceAll_159 flX6_37 (Nat.le_of_ble_eq_true rfl) rfl rfl ?_
              refine j_iload dX6_reduceAll_162 rfl ?_
              refine j_dup2 dX6_reduceAll_164 rfl rfl ?_
              refine j_ialdN dX6_reduceAll_165 (Nat.le_of_ble_eq_true rfl) rfl (by omega) (by decide) ?_
              have hrv2 := hrm v
              refine j_top (y0 := nI (R.1.2.2 v)) ((hR.2.2 v (by omega)).trans (congrArg nI (if_neg (Nat.lt_irrefl v)))) ?_
              refine j_iconst (v := nI 1) dX6_reduceAll_166 (by decide +kernel) ?_
              refine j_iload_n dX6_reduceAll_167 rfl ?_
              refine j_ishl dX6_reduceAll_168 ?_
              refine j_top (y0 := nI (2 ^ u)) (shl_1 (by omega)) ?_
              refine j_iconst (v := (-1)) dX6_reduceAll_169 (by decide +kernel) ?_
              refine j_ixor dX6_reduceAll_170 ?_
              refine j_iand dX6_reduceAll_171 ?_
              refine j_top (y0 := nI (clr (R.1.2.2 v) u)) (clr_eq _ (by omega) _ (by omega)) ?_
              refine j_iastN dX6_reduceAll_172 (Nat.le_of_ble_eq_true rfl) rfl (by omega) (by decide) ?_
              have hM := hM.s10 v (t := clr (R.1.2.2 v) u) (Nat.le_trans (clr_le _ _) (by omega))
              refine j_iinc (v := nI (v + 1)) (lv' := [(0, .ref 0), (1, .int (nI s)), (2, .int (nI k)), (3, .int (nI u)), (5, .int (nI (v + 1)))]) dX6_reduceAll_173 rfl (nI_add _ 1) (Nat.le_of_ble_eq_true rfl) rfl rfl ?_
              refine j_goto (tgt := 149) dX6_reduceAll_176 (by decide) ?_
              exact ih149 (v + 1) (mj_u A 10 v (nI (clr (R.1.2.2 v) u))) (by first | exact hM | omega) (by first | exact h5 | omega) ((hR.m v (clr (R.1.2.2 v) u)).mc (fun x hx => clr_part)) hML (by omega)
        have L146 : ∀ (A : mj_S), (MI L n mm rn rm un kn F A) → (MR A n mm R.1.1 R.1.2.1 R.1.2.2) → (ML A (k + 1) (stU n mm S k u)) → J (gM z) mX6_reduceAll (d + 3) 146 [(0, .ref 0), (1, .int (nI s)), (2, .int (nI k)), (3, .int (nI u))] [] F A (fun v F' A' => v = none ∧ F = F' ∧ MI L n mm rn rm un kn F A' ∧ MRes A' n mm (L.2 5)) := by
          intro A hM hR hML
          refine j_iconst (v := nI 0) dX6_reduceAll_146 (by decide +kernel) ?_
          refine j_istore (lv' := [(0, .ref 0), (1, .int (nI s)), (2, .int (nI k)), (3, .int (nI u)), (5, .int (nI 0))]) dX6_reduceAll_147 (Nat.le_of_ble_eq_true rfl) rfl rfl ?_
          exact L149 _ 0 A (by first | exact hM | omega) (by first | exact h5 | omega) (hR.mc (fun x hx => if_neg (Nat.not_lt_zero x))) (by first | exact hML | omega) (Nat.lt_succ_self _)
        refine j_aload_n dX6_reduceAll_29 rfl ?_
        refine j_getR (r := 10) dX6_reduceAll_30 flX6_37 (Nat.le_of_ble_eq_true rfl) rfl rfl ?_
        refine j_iload_n dX6_reduceAll_33 rfl ?_
        refine j_ialdN dX6_reduceAll_34 (Nat.le_of_ble_eq_true rfl) rfl (by omega) (by decide) ?_
        have hbm1 := hmk u
        refine j_top (y0 := nI (S.1.2.2 u)) (hR.2.2 u (by omega)) ?_
        refine j_callS (y' := mX6_ones) (As := [.int (nI (S.1.2.2 u))]) (st := []) dX6_reduceAll_35 lkX6_182 okX6_ones stX6_ones rfl (Nat.le_of_ble_eq_true rfl) (Nat.le_of_ble_eq_true rfl) (m_ones z _ (S.1.2.2 u) (by omega) F A) (fun v35 F35 A35 hq35 => ?_)
        obtain ⟨rfl, rfl, _, rfl, rfl⟩ := hq35
        have hpl35 := pc_le (S.1.2.2 u)
        refine j_istore (lv' := [(0, .ref 0), (1, .int (nI s)), (2, .int (nI k)), (3, .int (nI u)), (4, .int (nI (pc (S.1.2.2 u))))]) dX6_reduceAll_38 (Nat.le_of_ble_eq_true rfl) rfl rfl ?_
        refine j_aload_n dX6_reduceAll_40 rfl ?_
        refine j_getR (r := 11) dX6_reduceAll_41 flX6_40 (Nat.le_of_ble_eq_true rfl) rfl rfl ?_
        refine j_iload_n dX6_reduceAll_44 rfl ?_
        refine j_iload_n dX6_reduceAll_45 rfl ?_
        refine j_iastN dX6_reduceAll_46 (Nat.le_of_ble_eq_true rfl) rfl (by omega) (by decide) ?_
        have hM := hM.s11 k (t := u) (by omega)
        refine j_aload_n dX6_reduceAll_47 rfl ?_
        refine j_getR (r := 12) dX6_reduceAll_48 flX6_43 (Nat.le_of_ble_eq_true rfl) rfl rfl ?_
        refine j_iload_n dX6_reduceAll_51 rfl ?_
        refine j_iload dX6_reduceAll_52 rfl ?_
        refine j_iconst (v := nI 3) dX6_reduceAll_54 (by decide +kernel) ?_
        refine j_icmp_geN (tgt := 63) dX6_reduceAll_55 (by decide) (by omega) (by omega) (fun c55 => ?_) (fun c55 => ?_)
        · have hrv : (3 : Nat) = r3n (pc (S.1.2.2 u)) := (if_neg (by omega)).symm
          refine j_iconst (v := nI 3) dX6_reduceAll_63 (by decide +kernel) ?_
          refine j_iastN dX6_reduceAll_64 (Nat.le_of_ble_eq_true rfl) rfl (by omega) (by decide) ?_
          refine j_aload_n dX6_reduceAll_65 rfl ?_
          refine j_getR (r := 13) dX6_reduceAll_66 flX6_46 (Nat.le_of_ble_eq_true rfl) rfl rfl ?_
          refine j_iload_n dX6_reduceAll_69 rfl ?_
          refine j_aload_n dX6_reduceAll_70 rfl ?_
          refine j_getR (r := 10) dX6_reduceAll_71 flX6_37 (Nat.le_of_ble_eq_true rfl) rfl rfl ?_
          refine j_iload_n dX6_reduceAll_74 rfl ?_
          refine j_ialdN dX6_reduceAll_75 (Nat.le_of_ble_eq_true rfl) rfl (by omega) (by decide) ?_
          have hbm2 := hmk u
          refine j_top (y0 := nI (S.1.2.2 u)) (hR.2.2 u (by omega)) ?_
          refine j_iastN dX6_reduceAll_76 (Nat.le_of_ble_eq_true rfl) rfl (by omega) (by decide) ?_
          have hM := hM.s13 k (t := S.1.2.2 u) (by omega)
          refine j_iload dX6_reduceAll_77 rfl ?_
          refine j_iconst (v := nI 1) dX6_reduceAll_79 (by decide +kernel) ?_
          refine j_icmp_neN (tgt := 101) dX6_reduceAll_80 (by decide) (by omega) (by omega) (fun c80 => ?_) (fun c80 => ?_)
          · refine j_iload dX6_reduceAll_101 rfl ?_
            refine j_iconst (v := nI 2) dX6_reduceAll_103 (by decide +kernel) ?_
            refine j_icmp_neN (tgt := 135) dX6_reduceAll_104 (by decide) (by omega) (by omega) (fun c104 => ?_) (fun c104 => ?_)
            · refine j_iload dX6_reduceAll_135 rfl ?_
              refine j_iconst (v := nI 2) dX6_reduceAll_137 (by decide +kernel) ?_
              refine j_icmp_leN (tgt := 146) dX6_reduceAll_138 (by decide) (by omega) (by omega) (fun c138 => ?_) (fun c138 => ?_)
              · exfalso; omega
              · refine j_aload_n dX6_reduceAll_141 rfl ?_
                refine j_iload_n dX6_reduceAll_142 rfl ?_
                refine j_callV (y' := mX6_ruleThree) (As := [.int (nI u)]) (st := []) dX6_reduceAll_143 lkX6_214 okX6_ruleThree imX6_ruleThree seX6_ruleThree (Nat.le_of_ble_eq_true rfl) rfl rfl rfl rfl (Nat.le_of_ble_eq_true rfl) (Nat.le_of_ble_eq_true rfl) (m_ruleThree z _ _ _ _ _ _ _ _ S.1.1 S.1.2.1 S.1.2.2 hcb htb hmk u hu F (mj_u (mj_u (mj_u A 11 k (nI u)) 12 k (nI 3)) 13 k (nI (S.1.2.2 u))) hM (hR.off rfl rfl rfl)) (fun v143 F143 A143 hq143 => ?_)
                obtain ⟨rfl, rfl, hM, hR, hfr⟩ := hq143
                have hru := ru_3 (n := n) (mm := mm) (c := S.1.1) (t := S.1.2.1) (mk := S.1.2.2) (tk := S.2.1.2) (u := u) (by omega)
                refine j_sub [0, 1, 2, 3] rfl ?_
                exact L146 A143 (by first | exact hM | omega) (by rw [hRU, hru]; exact hR) (ML_step hI hu hbu' hML (hfr 11 (by decide) (by decide) (by decide)) ((hfr 12 (by decide) (by decide) (by decide)).trans (by rw [← hrv]; rfl)) (hfr 13 (by decide) (by decide) (by decide)) (fun x hx => by rw [hfr 14 (by decide) (by decide) (by decide), mj_u_at, pk_un hx]; rfl) (fun q => by rw [hfr 14 (by decide) (by decide) (by decide), mj_u_at, pk_us, hru]; show _ = nI (uvf _ u _ u); rw [uvf_at]) hok.2.2.1)
            · exfalso; omega
          · exfalso; omega
        · have hrv : pc (S.1.2.2 u) = r3n (pc (S.1.2.2 u)) := (if_pos (by omega)).symm
          refine j_iload dX6_reduceAll_58 rfl ?_
          refine j_goto (tgt := 64) dX6_reduceAll_60 (by decide) ?_
          refine j_iastN dX6_reduceAll_64 (Nat.le_of_ble_eq_true rfl) rfl (by omega) (by decide) ?_
          refine j_aload_n dX6_reduceAll_65 rfl ?_
          refine j_getR (r := 13) dX6_reduceAll_66 flX6_46 (Nat.le_of_ble_eq_true rfl) rfl rfl ?_
          refine j_iload_n dX6_reduceAll_69 rfl ?_
          refine j_aload_n dX6_reduceAll_70 rfl ?_
          refine j_getR (r := 10) dX6_reduceAll_71 flX6_37 (Nat.le_of_ble_eq_true rfl) rfl rfl ?_
          refine j_iload_n dX6_reduceAll_74 rfl ?_
          refine j_ialdN dX6_reduceAll_75 (Nat.le_of_ble_eq_true rfl) rfl (by omega) (by decide) ?_
          have hbm3 := hmk u
          refine j_top (y0 := nI (S.1.2.2 u)) (hR.2.2 u (by omega)) ?_
          refine j_iastN dX6_reduceAll_76 (Nat.le_of_ble_eq_true rfl) rfl (by omega) (by decide) ?_
          have hM := hM.s13 k (t := S.1.2.2 u) (by omega)
          refine j_iload dX6_reduceAll_77 rfl ?_
          refine j_iconst (v := nI 1) dX6_reduceAll_79 (by decide +kernel) ?_
          refine j_icmp_neN (tgt := 101) dX6_reduceAll_80 (by decide) (by omega) (by omega) (fun c80 => ?_) (fun c80 => ?_)
          · refine j_iload dX6_reduceAll_101 rfl ?_
            refine j_iconst (v := nI 2) dX6_reduceAll_103 (by decide +kernel) ?_
            refine j_icmp_neN (tgt := 135) dX6_reduceAll_104 (by decide) (by omega) (by omega) (fun c104 => ?_) (fun c104 => ?_)
            · refine j_iload dX6_reduceAll_135 rfl ?_
              refine j_iconst (v := nI 2) dX6_reduceAll_137 (by decide +kernel) ?_
              refine j_icmp_leN (tgt := 146) dX6_reduceAll_138 (by decide) (by omega) (by omega) (fun c138 => ?_) (fun c138 => ?_)
              · refine j_sub [0, 1, 2, 3] rfl ?_
                exact L146 (mj_u (mj_u (mj_u A 11 k (nI u)) 12 k (nI (pc (S.1.2.2 u)))) 13 k (nI (S.1.2.2 u))) (by first | exact hM | omega) (by rw [hRU, ru_0 (by omega)]; exact hR.off rfl rfl rfl) (ML_step hI hu hbu' hML rfl (by rw [← hrv]; rfl) rfl (fun x hx => rfl) (fun q => by omega) hok.2.2.1)
              · exfalso; omega
            · have hlb := lob_bt (S.1.2.2 u) (by omega) (pc_pos _ (by omega) (by omega))
              have hv : lob (S.1.2.2 u) < n := bit_lt (by rw [hs] at hs2; exact hs2) (hI.2.1.2.1 u _ hlb.2).1
              have hl2 := lo2_bt (hmk u) (by omega)
              have hw2 : lo2 (S.1.2.2 u) < n := bit_lt (by rw [hs] at hs2; exact hs2) (hI.2.1.2.1 u _ hl2.2.1).1
              have hvw := Ne.symm hl2.2.2
              refine j_aload_n dX6_reduceAll_107 rfl ?_
              refine j_iload_n dX6_reduceAll_108 rfl ?_
              refine j_aload_n dX6_reduceAll_109 rfl ?_
              refine j_getR (r := 10) dX6_reduceAll_110 flX6_37 (Nat.le_of_ble_eq_true rfl) rfl rfl ?_
              refine j_iload_n dX6_reduceAll_113 rfl ?_
              refine j_ialdN dX6_reduceAll_114 (Nat.le_of_ble_eq_true rfl) rfl (by omega) (by decide) ?_
              have hbm4 := hmk u
              refine j_top (y0 := nI (S.1.2.2 u)) (hR.2.2 u (by omega)) ?_
              refine j_iconst (v := nI 0) dX6_reduceAll_115 (by decide +kernel) ?_
              refine j_callS (y' := mX6_nthOf) (As := [.int (nI (S.1.2.2 u)), .int (nI 0)]) (st := [.int (nI u), .ref 0]) dX6_reduceAll_116 lkX6_205 okX6_nthOf stX6_nthOf rfl (Nat.le_of_ble_eq_true rfl) (Nat.le_of_ble_eq_true rfl) (m_nthOf z _ (S.1.2.2 u) 0 (by omega) (by omega) F (mj_u (mj_u (mj_u A 11 k (nI u)) 12 k (nI (pc (S.1.2.2 u)))) 13 k (nI (S.1.2.2 u)))) (fun v116 F116 A116 hq116 => ?_)
              obtain ⟨rfl, rfl, r116, rfl, hr116⟩ := hq116
              obtain rfl := hr116.1 rfl
              refine j_aload_n dX6_reduceAll_119 rfl ?_
              refine j_getR (r := 10) dX6_reduceAll_120 flX6_37 (Nat.le_of_ble_eq_true rfl) rfl rfl ?_
              refine j_iload_n dX6_reduceAll_123 rfl ?_
              refine j_ialdN dX6_reduceAll_124 (Nat.le_of_ble_eq_true rfl) rfl (by omega) (by decide) ?_
              have hbm5 := hmk u
              refine j_top (y0 := nI (S.1.2.2 u)) (hR.2.2 u (by omega)) ?_
              refine j_iconst (v := nI 1) dX6_reduceAll_125 (by decide +kernel) ?_
              refine j_callS (y' := mX6_nthOf) (As := [.int (nI (S.1.2.2 u)), .int (nI 1)]) (st := [.int (nI (lob (S.1.2.2 u))), .int (nI u), .ref 0]) dX6_reduceAll_126 lkX6_205 okX6_nthOf stX6_nthOf rfl (Nat.le_of_ble_eq_true rfl) (Nat.le_of_ble_eq_true rfl) (m_nthOf z _ (S.1.2.2 u) 1 (by omega) (by omega) F (mj_u (mj_u (mj_u A 11 k (nI u)) 12 k (nI (pc (S.1.2.2 u)))) 13 k (nI (S.1.2.2 u)))) (fun v126 F126 A126 hq126 => ?_)
              obtain ⟨rfl, rfl, r126, rfl, hr126⟩ := hq126
              obtain rfl := hr126.2 rfl
              refine j_callV (y' := mX6_ruleTwo) (As := [.int (nI u), .int (nI (lob (S.1.2.2 u))), .int (nI (lo2 (S.1.2.2 u)))]) (st := []) dX6_reduceAll_129 lkX6_211 okX6_ruleTwo imX6_ruleTwo seX6_ruleTwo (Nat.le_of_ble_eq_true rfl) rfl rfl rfl rfl (Nat.le_of_ble_eq_true rfl) (Nat.le_of_ble_eq_true rfl) (m_ruleTwo z _ _ _ _ _ _ _ _ S.1.1 S.1.2.1 S.1.2.2 hcb htb hmk u (lob (S.1.2.2 u)) (lo2 (S.1.2.2 u)) hu hv hw2 hvw F (mj_u (mj_u (mj_u A 11 k (nI u)) 12 k (nI (pc (S.1.2.2 u)))) 13 k (nI (S.1.2.2 u))) hM (hR.off rfl rfl rfl)) (fun v129 F129 A129 hq129 => ?_)
              obtain ⟨rfl, rfl, hM, hR, hfr⟩ := hq129
              have hru := ru_2 (n := n) (mm := mm) (c := S.1.1) (t := S.1.2.1) (mk := S.1.2.2) (tk := S.2.1.2) (u := u) (by omega)
              refine j_goto (tgt := 146) dX6_reduceAll_132 (by decide) ?_
              refine j_sub [0, 1, 2, 3] rfl ?_
              exact L146 A129 (by first | exact hM | omega) (by rw [hRU, hru]; exact hR) (ML_step hI hu hbu' hML (hfr 11 (by decide) (by decide) (by decide)) ((hfr 12 (by decide) (by decide) (by decide)).trans (by rw [← hrv]; rfl)) (hfr 13 (by decide) (by decide) (by decide)) (fun x hx => congrFun (hfr 14 (by decide) (by decide) (by decide)) x) (fun q => by omega) hok.2.2.1)
          · have hlb := lob_bt (S.1.2.2 u) (by omega) (pc_pos _ (by omega) (by omega))
            have hv : lob (S.1.2.2 u) < n := bit_lt (by rw [hs] at hs2; exact hs2) (hI.2.1.2.1 u _ hlb.2).1
            refine j_aload_n dX6_reduceAll_83 rfl ?_
            refine j_iload_n dX6_reduceAll_84 rfl ?_
            refine j_aload_n dX6_reduceAll_85 rfl ?_
            refine j_getR (r := 10) dX6_reduceAll_86 flX6_37 (Nat.le_of_ble_eq_true rfl) rfl rfl ?_
            refine j_iload_n dX6_reduceAll_89 rfl ?_
            refine j_ialdN dX6_reduceAll_90 (Nat.le_of_ble_eq_true rfl) rfl (by omega) (by decide) ?_
            have hbm6 := hmk u
            refine j_top (y0 := nI (S.1.2.2 u)) (hR.2.2 u (by omega)) ?_
            refine j_iconst (v := nI 0) dX6_reduceAll_91 (by decide +kernel) ?_
            refine j_callS (y' := mX6_nthOf) (As := [.int (nI (S.1.2.2 u)), .int (nI 0)]) (st := [.int (nI u), .ref 0]) dX6_reduceAll_92 lkX6_205 okX6_nthOf stX6_nthOf rfl (Nat.le_of_ble_eq_true rfl) (Nat.le_of_ble_eq_true rfl) (m_nthOf z _ (S.1.2.2 u) 0 (by omega) (by omega) F (mj_u (mj_u (mj_u A 11 k (nI u)) 12 k (nI (pc (S.1.2.2 u)))) 13 k (nI (S.1.2.2 u)))) (fun v92 F92 A92 hq92 => ?_)
            obtain ⟨rfl, rfl, r92, rfl, hr92⟩ := hq92
            obtain rfl := hr92.1 rfl
            refine j_callV (y' := mX6_ruleOne) (As := [.int (nI u), .int (nI (lob (S.1.2.2 u)))]) (st := []) dX6_reduceAll_95 lkX6_208 okX6_ruleOne imX6_ruleOne seX6_ruleOne (Nat.le_of_ble_eq_true rfl) rfl rfl rfl rfl (Nat.le_of_ble_eq_true rfl) (Nat.le_of_ble_eq_true rfl) (m_ruleOne z _ _ _ _ _ _ _ _ S.1.1 S.1.2.1 S.1.2.2 hcb htb hmk u (lob (S.1.2.2 u)) hu hv F (mj_u (mj_u (mj_u A 11 k (nI u)) 12 k (nI (pc (S.1.2.2 u)))) 13 k (nI (S.1.2.2 u))) hM (hR.off rfl rfl rfl)) (fun v95 F95 A95 hq95 => ?_)
            obtain ⟨rfl, rfl, hM, hR, hfr⟩ := hq95
            have hru := ru_1 (n := n) (mm := mm) (c := S.1.1) (t := S.1.2.1) (mk := S.1.2.2) (tk := S.2.1.2) (u := u) (by omega)
            refine j_goto (tgt := 146) dX6_reduceAll_98 (by decide) ?_
            refine j_sub [0, 1, 2, 3] rfl ?_
            exact L146 A95 (by first | exact hM | omega) (by rw [hRU, hru]; exact hR) (ML_step hI hu hbu' hML (hfr 11 (by decide) (by decide) (by decide)) ((hfr 12 (by decide) (by decide) (by decide)).trans (by rw [← hrv]; rfl)) (hfr 13 (by decide) (by decide) (by decide)) (fun x hx => congrFun (hfr 14 (by decide) (by decide) (by decide)) x) (fun q => by omega) hok.2.2.1)
  refine j_aload_n dX6_reduceAll_0 rfl ?_
  refine j_callV (y' := mX6_aside) (As := []) (st := []) dX6_reduceAll_1 lkX6_199 okX6_aside imX6_aside seX6_aside (Nat.le_of_ble_eq_true rfl) rfl rfl rfl rfl (Nat.le_of_ble_eq_true rfl) (Nat.le_of_ble_eq_true rfl) (m_aside z _ _ _ _ _ _ _ _ F A hM hw) (fun v1 F1 A1 hq1 => ?_)
  obtain ⟨rfl, rfl, hM, hR, -⟩ := hq1
  refine j_iconst (v := nI 1) dX6_reduceAll_4 (by decide +kernel) ?_
  refine j_aload_n dX6_reduceAll_5 rfl ?_
  refine j_getI dX6_reduceAll_6 flX6_132 (Nat.le_of_ble_eq_true rfl) rfl rfl ?_
  refine j_top (y0 := nI n) hM.2.1.1 ?_
  refine j_ishl dX6_reduceAll_9 ?_
  refine j_top (y0 := nI (2 ^ n)) (shl_1' (by omega)) ?_
  refine j_iconst (v := nI 1) dX6_reduceAll_10 (by decide +kernel) ?_
  refine j_isubN dX6_reduceAll_11 (by omega) ?_
  refine j_istore_n (lv' := [(0, .ref 0), (1, .int (nI ((2 ^ n) - 1)))]) dX6_reduceAll_12 (Nat.le_of_ble_eq_true rfl) rfl rfl ?_
  refine j_iconst (v := nI 0) dX6_reduceAll_13 (by decide +kernel) ?_
  refine j_istore_n (lv' := [(0, .ref 0), (1, .int (nI ((2 ^ n) - 1))), (2, .int (nI 0))]) dX6_reduceAll_14 (Nat.le_of_ble_eq_true rfl) rfl rfl ?_
  exact L15 _ ((2 ^ n) - 1) 0 A1 (by first | exact hM | omega) ⟨by have := pc_all n hM1; omega, by omega, by omega⟩ rfl hR (fun q hq => absurd hq (Nat.not_lt_zero q)) (Nat.lt_succ_self _)

set_option maxHeartbeats 400000 in
set_option maxRecDepth 100000 in
theorem m_planCost (z : mj_B) (d : Nat) (L : Lg) (n : Nat) (mm : Nat → Nat) (rn : Nat) (rm : Nat → Nat) (un kn : Nat) (tk : VF) (F A : mj_S) (hM : MI L n mm rn rm un kn F A) (hw : wr n mm (L.2 5)) (htk : ∀ u, u < n → A 14 u = nI (tk u) ∧ tk u < mm u) : J (gM z) mX6_planCost (d + 2) 0 [(0, .ref 0)] [] F A (qN F A fun r => r = pcu (c0 n mm (L.2 5)) (t0 n mm (L.2 5)) (mk0 n (L.2 5)) tk n) := by
  have hM0 := hM.1.2.1
  have hM1 := hM.2.1.2.1
  have hM2 := hM.2.2.1.2.1
  have hM3 := hM.2.2.2.1.2
  have hM4 := hM.2.2.2.2.1.2
  have L4 : ∀ (fuel : Nat) (su : Nat) (u : Nat), (u ≤ n) → (su = pcu (c0 n mm (L.2 5)) (t0 n mm (L.2 5)) (mk0 n (L.2 5)) tk u) → n - u < fuel → J (gM z) mX6_planCost (d + 2) 4 [(0, .ref 0), (1, .int (nI su)), (2, .int (nI u))] [] F A (qN F A fun r => r = pcu (c0 n mm (L.2 5)) (t0 n mm (L.2 5)) (mk0 n (L.2 5)) tk n) := by
    intro fuel
    induction fuel with
    | zero => intro su u h1 hsu hf; exact absurd hf (by omega)
    | succ fuel ih4 =>
      intro su u h1 hsu hf
      have hsl0 : su ≤ 1000000 := by rw [hsu]; exact pcu_le _
      refine j_iload_n dX6_planCost_4 rfl ?_
      refine j_aload_n dX6_planCost_5 rfl ?_
      refine j_getI dX6_planCost_6 flX6_132 (Nat.le_of_ble_eq_true rfl) rfl rfl ?_
      refine j_top (y0 := nI n) hM.2.1.1 ?_
      refine j_icmp_geN (tgt := 85) dX6_planCost_9 (by decide) (by omega) (by omega) (fun c9 => ?_) (fun c9 => ?_)
      · refine j_iload_n dX6_planCost_85 rfl ?_
        exact j_iret dX6_planCost_86 rfl rfl ⟨rfl, rfl, _, rfl, by rw [hsu, show u = n by omega]⟩
      · have htu := (htk u (by omega)).2
        have h4u := hM.2.1.2.2.2.1 u
        have L31 : ∀ (fuel : Nat) (sv : Nat) (v : Nat), (v ≤ u) → (sv = pcv (t0 n mm (L.2 5)) (mk0 n (L.2 5)) tk u (cap (pcu (c0 n mm (L.2 5)) (t0 n mm (L.2 5)) (mk0 n (L.2 5)) tk u + c0 n mm (L.2 5) u (tk u))) v) → u - v < fuel → J (gM z) mX6_planCost (d + 2) 31 [(0, .ref 0), (1, .int (nI sv)), (2, .int (nI u)), (3, .int (nI v))] [] F A (qN F A fun r => r = pcu (c0 n mm (L.2 5)) (t0 n mm (L.2 5)) (mk0 n (L.2 5)) tk n) := by
          intro fuel
          induction fuel with
          | zero => intro sv v h2 hsv hf; exact absurd hf (by omega)
          | succ fuel ih31 =>
            intro sv v h2 hsv hf
            have hsl : sv ≤ 1000000 := by rw [hsv]; exact pcv_le (cap_le _) _
            refine j_iload_n dX6_planCost_31 rfl ?_
            refine j_iload_n dX6_planCost_32 rfl ?_
            refine j_icmp_geN (tgt := 79) dX6_planCost_33 (by decide) (by omega) (by omega) (fun c33 => ?_) (fun c33 => ?_)
            · refine j_iinc (v := nI (u + 1)) (lv' := [(0, .ref 0), (1, .int (nI sv)), (2, .int (nI (u + 1))), (3, .int (nI v))]) dX6_planCost_79 rfl (nI_add _ 1) (Nat.le_of_ble_eq_true rfl) rfl rfl ?_
              refine j_goto (tgt := 4) dX6_planCost_82 (by decide) ?_
              refine j_sub [0, 1, 2] rfl ?_
              exact ih4 sv (u + 1) (by first | exact h1 | omega) (by rw [hsv, show v = u by omega]; rfl) (by omega)
            · have htv := (htk v (by omega)).2
              have h4v := hM.2.1.2.2.2.1 v
              refine j_iload_n dX6_planCost_36 rfl ?_
              refine j_aload_n dX6_planCost_37 rfl ?_
              refine j_iload_n dX6_planCost_38 rfl ?_
              refine j_iload_n dX6_planCost_39 rfl ?_
              refine j_callV (y' := mX6_isTied) (As := [.int (nI u), .int (nI v)]) (st := [.int (nI sv)]) dX6_planCost_40 lkX6_146 okX6_isTied imX6_isTied seX6_isTied (Nat.le_of_ble_eq_true rfl) rfl rfl rfl rfl (Nat.le_of_ble_eq_true rfl) (Nat.le_of_ble_eq_true rfl) (m_isTied z _ u v (by omega) (by omega) F A) (fun v40 F40 A40 hq40 => ?_)
              obtain ⟨rfl, rfl, r40, rfl, hr40⟩ := hq40
              have hb40 : r40 ≤ 1 := by omega
              refine j_if_eqN (tgt := 67) dX6_planCost_43 (by decide) (by omega) (fun c43 => ?_) (fun c43 => ?_)
              · have hnt : ¬ mk0 n (L.2 5) u / 2 ^ v % 2 = 1 := fun q => (hr40.resolve_left (fun h => by omega)).2 (by have q2 := tdd_inv ((mk0_bt hw).mp q).2.2; rw [hM.1.2.2.2.1]; exact q2)
                refine j_iconst (v := nI 0) dX6_planCost_67 (by decide +kernel) ?_
                refine j_iaddN dX6_planCost_68 ?_
                refine j_callS (y' := mX6_atMost) (As := [.int (nI (sv + 0))]) (st := []) dX6_planCost_69 lkX6_191 okX6_atMost stX6_atMost rfl (Nat.le_of_ble_eq_true rfl) (Nat.le_of_ble_eq_true rfl) (m_capN z _ (sv + 0) (by omega) F A) (fun v69 F69 A69 hq69 => ?_)
                obtain ⟨rfl, rfl, _, rfl, rfl⟩ := hq69
                have hcp1 := cap_le (sv + 0)
                refine j_istore_n (lv' := [(0, .ref 0), (1, .int (nI (cap (sv + 0)))), (2, .int (nI u)), (3, .int (nI v))]) dX6_planCost_72 (Nat.le_of_ble_eq_true rfl) rfl rfl ?_
                refine j_iinc (v := nI (v + 1)) (lv' := [(0, .ref 0), (1, .int (nI (cap (sv + 0)))), (2, .int (nI u)), (3, .int (nI (v + 1)))]) dX6_planCost_73 rfl (nI_add _ 1) (Nat.le_of_ble_eq_true rfl) rfl rfl ?_
                refine j_goto (tgt := 31) dX6_planCost_76 (by decide) ?_
                exact ih31 (cap (sv + 0)) (v + 1) (by first | exact h2 | omega) (by first | (rw [pcv_t hbt, ← hsv, ht0]) | (rw [pcv_f hnt, Nat.add_zero, cap_id hsl]; exact hsv)) (by omega)
              · have htd := (hr40.resolve_right (fun h => by omega)).2
                rw [hM.1.2.2.2.1] at htd
                have htt : tdd (L.2 5) u v = 1 := tdd_1 htd.1 htd.2
                have hbt : mk0 n (L.2 5) u / 2 ^ v % 2 = 1 := (mk0_bt hw).mpr ⟨by omega, by omega, htt⟩
                refine j_aload_n dX6_planCost_46 rfl ?_
                refine j_iload_n dX6_planCost_47 rfl ?_
                refine j_iload_n dX6_planCost_48 rfl ?_
                refine j_aload_n dX6_planCost_49 rfl ?_
                refine j_getR (r := 14) dX6_planCost_50 flX6_49 (Nat.le_of_ble_eq_true rfl) rfl rfl ?_
                refine j_iload_n dX6_planCost_53 rfl ?_
                refine j_ialdN dX6_planCost_54 (Nat.le_of_ble_eq_true rfl) rfl (by omega) (by decide) ?_
                refine j_top (y0 := nI (tk u)) (htk u (by omega)).1 ?_
                refine j_aload_n dX6_planCost_55 rfl ?_
                refine j_getR (r := 14) dX6_planCost_56 flX6_49 (Nat.le_of_ble_eq_true rfl) rfl rfl ?_
                refine j_iload_n dX6_planCost_59 rfl ?_
                refine j_ialdN dX6_planCost_60 (Nat.le_of_ble_eq_true rfl) rfl (by omega) (by decide) ?_
                refine j_top (y0 := nI (tk v)) (htk v (by omega)).1 ?_
                refine j_callV (y' := mX6_tieOf) (As := [.int (nI u), .int (nI v), .int (nI (tk u)), .int (nI (tk v))]) (st := [.int (nI sv)]) dX6_planCost_61 lkX6_162 okX6_tieOf imX6_tieOf seX6_tieOf (Nat.le_of_ble_eq_true rfl) rfl rfl rfl rfl (Nat.le_of_ble_eq_true rfl) (Nat.le_of_ble_eq_true rfl) (m_tieOf z _ u v (tk u) (tk v) F A n mm (by rw [hM.1.2.2.2.1]; exact hw) (by omega) (by omega) htd.1 (by omega) (by omega) (by rw [hM.1.2.2.2.1]; exact htd.2)) (fun v61 F61 A61 hq61 => ?_)
                obtain ⟨rfl, rfl, r61, rfl, hr61⟩ := hq61
                rw [hM.1.2.2.2.1] at hr61
                have hb61 : r61 ≤ 1000000 := by rw [hr61]; exact tcs_le hw (by omega) (by omega) htd.1 (by omega) (by omega) htd.2
                have ht0 : t0 n mm (L.2 5) u v (tk u) (tk v) = r61 := (if_pos ⟨by omega, by omega, by omega, by omega, htt⟩).trans hr61.symm
                refine j_goto (tgt := 68) dX6_planCost_64 (by decide) ?_
                refine j_iaddN dX6_planCost_68 ?_
                refine j_callS (y' := mX6_atMost) (As := [.int (nI (sv + r61))]) (st := []) dX6_planCost_69 lkX6_191 okX6_atMost stX6_atMost rfl (Nat.le_of_ble_eq_true rfl) (Nat.le_of_ble_eq_true rfl) (m_capN z _ (sv + r61) (by omega) F A) (fun v69 F69 A69 hq69 => ?_)
                obtain ⟨rfl, rfl, _, rfl, rfl⟩ := hq69
                have hcp2 := cap_le (sv + r61)
                refine j_istore_n (lv' := [(0, .ref 0), (1, .int (nI (cap (sv + r61)))), (2, .int (nI u)), (3, .int (nI v))]) dX6_planCost_72 (Nat.le_of_ble_eq_true rfl) rfl rfl ?_
                refine j_iinc (v := nI (v + 1)) (lv' := [(0, .ref 0), (1, .int (nI (cap (sv + r61)))), (2, .int (nI u)), (3, .int (nI (v + 1)))]) dX6_planCost_73 rfl (nI_add _ 1) (Nat.le_of_ble_eq_true rfl) rfl rfl ?_
                refine j_goto (tgt := 31) dX6_planCost_76 (by decide) ?_
                exact ih31 (cap (sv + r61)) (v + 1) (by first | exact h2 | omega) (by first | (rw [pcv_t hbt, ← hsv, ht0]) | (rw [pcv_f hnt, Nat.add_zero, cap_id hsl]; exact hsv)) (by omega)
        refine j_iload_n dX6_planCost_12 rfl ?_
        refine j_aload_n dX6_planCost_13 rfl ?_
        refine j_iload_n dX6_planCost_14 rfl ?_
        refine j_aload_n dX6_planCost_15 rfl ?_
        refine j_getR (r := 14) dX6_planCost_16 flX6_49 (Nat.le_of_ble_eq_true rfl) rfl rfl ?_
        refine j_iload_n dX6_planCost_19 rfl ?_
        refine j_ialdN dX6_planCost_20 (Nat.le_of_ble_eq_true rfl) rfl (by omega) (by decide) ?_
        refine j_top (y0 := nI (tk u)) (htk u (by omega)).1 ?_
        refine j_callV (y' := mX6_costOf) (As := [.int (nI u), .int (nI (tk u))]) (st := [.int (nI su)]) dX6_planCost_21 lkX6_158 okX6_costOf imX6_costOf seX6_costOf (Nat.le_of_ble_eq_true rfl) rfl rfl rfl rfl (Nat.le_of_ble_eq_true rfl) (Nat.le_of_ble_eq_true rfl) (m_costOf z _ u (tk u) F A n mm (by rw [hM.1.2.2.2.1]; exact hw) (by omega) (by omega)) (fun v21 F21 A21 hq21 => ?_)
        obtain ⟨rfl, rfl, r21, rfl, hr21⟩ := hq21
        rw [hM.1.2.2.2.1] at hr21
        have hb21 : r21 ≤ 1000000 := by rw [hr21]; exact cst_le hw (by omega) (by omega)
        have hc0 : c0 n mm (L.2 5) u (tk u) = r21 := (if_pos ⟨by omega, by omega⟩).trans hr21.symm
        refine j_iaddN dX6_planCost_24 ?_
        refine j_callS (y' := mX6_atMost) (As := [.int (nI (su + r21))]) (st := []) dX6_planCost_25 lkX6_191 okX6_atMost stX6_atMost rfl (Nat.le_of_ble_eq_true rfl) (Nat.le_of_ble_eq_true rfl) (m_capN z _ (su + r21) (by omega) F A) (fun v25 F25 A25 hq25 => ?_)
        obtain ⟨rfl, rfl, _, rfl, rfl⟩ := hq25
        have hcp3 := cap_le (su + r21)
        refine j_istore_n (lv' := [(0, .ref 0), (1, .int (nI (cap (su + r21)))), (2, .int (nI u))]) dX6_planCost_28 (Nat.le_of_ble_eq_true rfl) rfl rfl ?_
        refine j_iconst (v := nI 0) dX6_planCost_29 (by decide +kernel) ?_
        refine j_istore_n (lv' := [(0, .ref 0), (1, .int (nI (cap (su + r21)))), (2, .int (nI u)), (3, .int (nI 0))]) dX6_planCost_30 (Nat.le_of_ble_eq_true rfl) rfl rfl ?_
        exact L31 _ (cap (su + r21)) 0 (Nat.zero_le _) (by rw [← hc0, hsu]; rfl) (Nat.lt_succ_self _)
  refine j_iconst (v := nI 0) dX6_planCost_0 (by decide +kernel) ?_
  refine j_istore_n (lv' := [(0, .ref 0), (1, .int (nI 0))]) dX6_planCost_1 (Nat.le_of_ble_eq_true rfl) rfl rfl ?_
  refine j_iconst (v := nI 0) dX6_planCost_2 (by decide +kernel) ?_
  refine j_istore_n (lv' := [(0, .ref 0), (1, .int (nI 0)), (2, .int (nI 0))]) dX6_planCost_3 (Nat.le_of_ble_eq_true rfl) rfl rfl ?_
  exact L4 _ 0 0 (Nat.zero_le _) rfl (Nat.lt_succ_self _)

set_option maxHeartbeats 400000 in
set_option maxRecDepth 100000 in
theorem m_turn (z : mj_B) (d : Nat) (L : Lg) (n : Nat) (mm : Nat → Nat) (rn : Nat) (rm : Nat → Nat) (un kn : Nat) (x1 x2 : Int32) (F A : mj_S) (hM : MI L n mm rn rm un kn F A) (hw : wr n mm (L.2 5)) : J (gM z) mX6_turn (d + 4) 0 [(0, .ref 0), (1, .int x1), (2, .int x2)] [] F A (fun v F' A' => v = some (.int (tnAns n mm (L.2 5) x1 x2)) ∧ MI L n mm rn rm un kn F' A') := by
  have hM0 := hM.1.2.1
  have hM1 := hM.2.1.2.1
  have hM2 := hM.2.2.1.2.1
  have hM3 := hM.2.2.2.1.2
  have hM4 := hM.2.2.2.2.1.2
  refine j_iload_n dX6_turn_0 rfl ?_
  refine j_i2l dX6_turn_1 rfl ?_
  refine j_lconst (v := 0) dX6_turn_2 rfl ?_
  refine j_aload_n dX6_turn_3 rfl ?_
  refine j_getI dX6_turn_4 flX6_132 (Nat.le_of_ble_eq_true rfl) rfl rfl ?_
  refine j_top (y0 := nI n) hM.2.1.1 ?_
  refine j_iconst (v := nI 1) dX6_turn_7 (by decide +kernel) ?_
  refine j_isub dX6_turn_8 ?_
  refine j_top (y0 := (nI n) - (nI 1)) rfl ?_
  refine j_i2l dX6_turn_9 rfl ?_
  refine j_callS (y' := mX6_in) (As := [.long (x1.toInt64), .long (0), .long (((nI n) - (nI 1)).toInt64)]) (st := []) dX6_turn_10 lkX6_89 okX6_in stX6_in rfl (Nat.le_of_ble_eq_true rfl) (Nat.le_of_ble_eq_true rfl) (m_in z _ x1.toInt64 0 (((nI n) - (nI 1)).toInt64) F A) (fun v10 F10 A10 hq10 => ?_)
  obtain ⟨rfl, rfl, r10, rfl, hr10⟩ := hq10
  have hb10 : r10 ≤ 1 := by omega
  refine j_if_eqN (tgt := 26) dX6_turn_13 (by decide) (by omega) (fun c13 => ?_) (fun c13 => ?_)
  · have hans : tnAns n mm (L.2 5) x1 x2 = -1 := tnAns_n (ndO_none hM1 (fun h => (hr10.resolve_left (fun h => by omega)).2 ((in_lt (by omega)).mpr h)))
    refine j_iconst (v := (-1)) dX6_turn_26 (by decide +kernel) ?_
    exact j_iret dX6_turn_27 rfl rfl ⟨by rw [hans], hM⟩
  · obtain ⟨j, hj, rfl⟩ := (in_lt (by omega)).mp (hr10.resolve_right (fun h => by omega)).2
    have hnd := ndO_some hM1 hj
    refine j_iload_n dX6_turn_16 rfl ?_
    refine j_i2l dX6_turn_17 rfl ?_
    refine j_lconst (v := 0) dX6_turn_18 rfl ?_
    refine j_lconst (v := 1) dX6_turn_19 rfl ?_
    refine j_callS (y' := mX6_in) (As := [.long (x2.toInt64), .long (0), .long (1)]) (st := []) dX6_turn_20 lkX6_89 okX6_in stX6_in rfl (Nat.le_of_ble_eq_true rfl) (Nat.le_of_ble_eq_true rfl) (m_in z _ x2.toInt64 0 1 F A) (fun v20 F20 A20 hq20 => ?_)
    obtain ⟨rfl, rfl, r20, rfl, hr20⟩ := hq20
    have hb20 : r20 ≤ 1 := by omega
    refine j_if_neN (tgt := 28) dX6_turn_23 (by decide) (by omega) (fun c23 => ?_) (fun c23 => ?_)
    · have h01 := in01 (hr20.resolve_right (fun h => by omega)).2
      refine j_aload_n dX6_turn_28 rfl ?_
      refine j_callV (y' := mX6_reduceAll) (As := []) (st := []) dX6_turn_29 lkX6_221 okX6_reduceAll imX6_reduceAll seX6_reduceAll (Nat.le_of_ble_eq_true rfl) rfl rfl rfl rfl (Nat.le_of_ble_eq_true rfl) (Nat.le_of_ble_eq_true rfl) (m_reduceAll z _ _ _ _ _ _ _ _ F A hM hw) (fun v29 F29 A29 hq29 => ?_)
      obtain ⟨rfl, rfl, hM, hRes⟩ := hq29
      refine j_iload_n dX6_turn_32 rfl ?_
      refine j_if_ne (tgt := 45) dX6_turn_33 (by decide) (fun c33 => ?_) (fun c33 => ?_)
      · have hans := tnAns_1 (mm := mm) (row := L.2 5) (x2 := x2) hnd (h01.resolve_left (fun e => c33 (by rw [e, nI_0])))
        refine j_aload_n dX6_turn_45 rfl ?_
        refine j_getR (r := 12) dX6_turn_46 flX6_43 (Nat.le_of_ble_eq_true rfl) rfl rfl ?_
        refine j_iload_n dX6_turn_49 rfl ?_
        refine j_ialdN dX6_turn_50 (Nat.le_of_ble_eq_true rfl) rfl (by omega) (by decide) ?_
        refine j_top (y0 := nI ((redS n mm (L.2 5)).2.2.2.1 j)) ((hRes.1 j hj).2) ?_
        exact j_iret dX6_turn_51 rfl rfl ⟨by rw [hans], hM⟩
      · have hans := tnAns_0 (mm := mm) (row := L.2 5) (x2 := x2) hnd (c33.trans nI_0.symm)
        refine j_aload_n dX6_turn_36 rfl ?_
        refine j_getR (r := 11) dX6_turn_37 flX6_40 (Nat.le_of_ble_eq_true rfl) rfl rfl ?_
        refine j_iload_n dX6_turn_40 rfl ?_
        refine j_ialdN dX6_turn_41 (Nat.le_of_ble_eq_true rfl) rfl (by omega) (by decide) ?_
        refine j_top (y0 := nI ((redS n mm (L.2 5)).2.2.1 j)) ((hRes.1 j hj).1) ?_
        refine j_goto (tgt := 51) dX6_turn_42 (by decide) ?_
        exact j_iret dX6_turn_51 rfl rfl ⟨by rw [hans], hM⟩
    · have h01 := no01 (hr20.resolve_left (fun h => by omega)).2
      have hans : tnAns n mm (L.2 5) (nI j) x2 = -1 := tnAns_x h01.1 h01.2
      refine j_iconst (v := (-1)) dX6_turn_26 (by decide +kernel) ?_
      exact j_iret dX6_turn_27 rfl rfl ⟨by rw [hans], hM⟩

set_option maxHeartbeats 400000 in
set_option maxRecDepth 100000 in
theorem m_reduced (z : mj_B) (d : Nat) (L : Lg) (n : Nat) (mm : Nat → Nat) (rn : Nat) (rm : Nat → Nat) (un kn : Nat) (x1 : Int32) (F A : mj_S) (hM : MI L n mm rn rm un kn F A) (hw : wr n mm (L.2 5)) : J (gM z) mX6_reduced (d + 4) 0 [(0, .ref 0), (1, .int x1)] [] F A (fun v F' A' => v = some (.int (rdAns n mm (L.2 5) x1)) ∧ MI L n mm rn rm un kn F' A') := by
  have hM0 := hM.1.2.1
  have hM1 := hM.2.1.2.1
  have hM2 := hM.2.2.1.2.1
  have hM3 := hM.2.2.2.1.2
  have hM4 := hM.2.2.2.2.1.2
  refine j_aload_n dX6_reduced_0 rfl ?_
  refine j_iload_n dX6_reduced_1 rfl ?_
  refine j_callV (y' := mX6_isNode) (As := [.int x1]) (st := []) dX6_reduced_2 lkX6_141 okX6_isNode imX6_isNode seX6_isNode (Nat.le_of_ble_eq_true rfl) rfl rfl rfl rfl (Nat.le_of_ble_eq_true rfl) (Nat.le_of_ble_eq_true rfl) (m_isNode z _ _ _ _ _ _ _ _ x1 F A hM) (fun v2 F2 A2 hq2 => ?_)
  obtain ⟨rfl, rfl, r2, rfl, hr2⟩ := hq2
  have hb2 : r2 ≤ 1 := by omega
  refine j_if_neN (tgt := 10) dX6_reduced_5 (by decide) (by omega) (fun c5 => ?_) (fun c5 => ?_)
  · obtain ⟨j, hj, rfl⟩ := (hr2.resolve_right (fun h => by omega)).2
    have h8j : j < 8 := by omega
    have hans := rdAns_i (mm := mm) (row := L.2 5) (ndO_some hM1 hj)
    refine j_aload_n dX6_reduced_10 rfl ?_
    refine j_callV (y' := mX6_reduceAll) (As := []) (st := []) dX6_reduced_11 lkX6_221 okX6_reduceAll imX6_reduceAll seX6_reduceAll (Nat.le_of_ble_eq_true rfl) rfl rfl rfl rfl (Nat.le_of_ble_eq_true rfl) (Nat.le_of_ble_eq_true rfl) (m_reduceAll z _ _ _ _ _ _ _ _ F A hM hw) (fun v11 F11 A11 hq11 => ?_)
    obtain ⟨rfl, rfl, hM, hRes⟩ := hq11
    refine j_aload_n dX6_reduced_14 rfl ?_
    refine j_getR (r := 14) dX6_reduced_15 flX6_49 (Nat.le_of_ble_eq_true rfl) rfl rfl ?_
    refine j_iload_n dX6_reduced_18 rfl ?_
    refine j_ialdN dX6_reduced_19 (Nat.le_of_ble_eq_true rfl) rfl (by omega) (by decide) ?_
    refine j_top (y0 := nI (tkF n mm (L.2 5) j)) (hRes.2 j hj) ?_
    exact j_iret dX6_reduced_20 rfl rfl ⟨by rw [hans], hM⟩
  · have hans := rdAns_n (mm := mm) (row := L.2 5) (ndO_none hM1 (hr2.resolve_left (fun h => by omega)).2)
    refine j_iconst (v := (-1)) dX6_reduced_8 (by decide +kernel) ?_
    exact j_iret dX6_reduced_9 rfl rfl ⟨by rw [hans], hM⟩

set_option maxHeartbeats 400000 in
set_option maxRecDepth 100000 in
theorem m_plan (z : mj_B) (d : Nat) (L : Lg) (n : Nat) (mm : Nat → Nat) (rn : Nat) (rm : Nat → Nat) (un kn : Nat) (x1 : Int32) (F A : mj_S) (hM : MI L n mm rn rm un kn F A) (hw : wr n mm (L.2 5)) : J (gM z) mX6_plan (d + 4) 0 [(0, .ref 0), (1, .int x1)] [] F A (fun v F' A' => v = some (.int (plAns n mm (L.2 5) x1)) ∧ MI L n mm rn rm un kn F' A') := by
  have hM0 := hM.1.2.1
  have hM1 := hM.2.1.2.1
  have hM2 := hM.2.2.1.2.1
  have hM3 := hM.2.2.2.1.2
  have hM4 := hM.2.2.2.2.1.2
  have L29 : ∀ (fuel : Nat) (shn : Nat) (k : Nat) (A : mj_S), (MI L n mm rn rm un kn F A) → (k ≤ n) → (MRes A n mm (L.2 5)) → (shn = shw (redS n mm (L.2 5)).2.2.2.1 k) → (x1 = nI 1) → n - k < fuel → J (gM z) mX6_plan (d + 4) 29 [(0, .ref 0), (2, .int (nI shn)), (3, .int (nI k))] [] F A (fun v F' A' => v = some (.int (plAns n mm (L.2 5) x1)) ∧ MI L n mm rn rm un kn F' A') := by
    intro fuel
    induction fuel with
    | zero => intro shn k A hM h1 hRes hsh hx1 hf; exact absurd hf (by omega)
    | succ fuel ih29 =>
      intro shn k A hM h1 hRes hsh hx1 hf
      have hshl : shn ≤ 1 := by rw [hsh]; exact shw_le _ _
      refine j_iload_n dX6_plan_29 rfl ?_
      refine j_aload_n dX6_plan_30 rfl ?_
      refine j_getI dX6_plan_31 flX6_132 (Nat.le_of_ble_eq_true rfl) rfl rfl ?_
      refine j_top (y0 := nI n) hM.2.1.1 ?_
      refine j_icmp_geN (tgt := 59) dX6_plan_34 (by decide) (by omega) (by omega) (fun c34 => ?_) (fun c34 => ?_)
      · have hans : plAns n mm (L.2 5) x1 = nI shn := by rw [plAns_1 hx1, hsh, show k = n by omega]
        refine j_iload_n dX6_plan_59 rfl ?_
        exact j_iret dX6_plan_60 rfl rfl ⟨by rw [hans], hM⟩
      · refine j_aload_n dX6_plan_37 rfl ?_
        refine j_getR (r := 12) dX6_plan_38 flX6_43 (Nat.le_of_ble_eq_true rfl) rfl rfl ?_
        refine j_iload_n dX6_plan_41 rfl ?_
        refine j_ialdN dX6_plan_42 (Nat.le_of_ble_eq_true rfl) rfl (by omega) (by decide) ?_
        have hrl3 := ((RV_red hw).2.2.2 k (by omega)).1.2.1
        refine j_top (y0 := nI ((redS n mm (L.2 5)).2.2.2.1 k)) ((hRes.1 k (by omega)).2) ?_
        refine j_iconst (v := nI 3) dX6_plan_43 (by decide +kernel) ?_
        refine j_icmp_neN (tgt := 51) dX6_plan_44 (by decide) (by omega) (by omega) (fun c44 => ?_) (fun c44 => ?_)
        · refine j_iload_n dX6_plan_51 rfl ?_
          refine j_istore_n (lv' := [(0, .ref 0), (2, .int (nI shn)), (3, .int (nI k))]) dX6_plan_52 (Nat.le_of_ble_eq_true rfl) rfl rfl ?_
          refine j_iinc (v := nI (k + 1)) (lv' := [(0, .ref 0), (2, .int (nI shn)), (3, .int (nI (k + 1)))]) dX6_plan_53 rfl (nI_add _ 1) (Nat.le_of_ble_eq_true rfl) rfl rfl ?_
          refine j_goto (tgt := 29) dX6_plan_56 (by decide) ?_
          exact ih29 shn (k + 1) A (by first | exact hM | omega) (by first | exact h1 | omega) (by first | exact hRes | omega) (by first | (rw [shw_f c44]; exact hsh) | (rw [shw_t c44])) (by first | exact hx1 | omega) (by omega)
        · refine j_iconst (v := nI 0) dX6_plan_47 (by decide +kernel) ?_
          refine j_goto (tgt := 52) dX6_plan_48 (by decide) ?_
          refine j_istore_n (lv' := [(0, .ref 0), (2, .int (nI 0)), (3, .int (nI k))]) dX6_plan_52 (Nat.le_of_ble_eq_true rfl) rfl rfl ?_
          refine j_iinc (v := nI (k + 1)) (lv' := [(0, .ref 0), (2, .int (nI 0)), (3, .int (nI (k + 1)))]) dX6_plan_53 rfl (nI_add _ 1) (Nat.le_of_ble_eq_true rfl) rfl rfl ?_
          refine j_goto (tgt := 29) dX6_plan_56 (by decide) ?_
          exact ih29 0 (k + 1) A (by first | exact hM | omega) (by first | exact h1 | omega) (by first | exact hRes | omega) (by first | (rw [shw_f c44]; exact hsh) | (rw [shw_t c44])) (by first | exact hx1 | omega) (by omega)
  refine j_iload_n dX6_plan_0 rfl ?_
  refine j_i2l dX6_plan_1 rfl ?_
  refine j_lconst (v := 0) dX6_plan_2 rfl ?_
  refine j_lconst (v := 1) dX6_plan_3 rfl ?_
  refine j_callS (y' := mX6_in) (As := [.long (x1.toInt64), .long (0), .long (1)]) (st := []) dX6_plan_4 lkX6_89 okX6_in stX6_in rfl (Nat.le_of_ble_eq_true rfl) (Nat.le_of_ble_eq_true rfl) (m_in z _ x1.toInt64 0 1 F A) (fun v4 F4 A4 hq4 => ?_)
  obtain ⟨rfl, rfl, r4, rfl, hr4⟩ := hq4
  have hb4 : r4 ≤ 1 := by omega
  refine j_if_neN (tgt := 12) dX6_plan_7 (by decide) (by omega) (fun c7 => ?_) (fun c7 => ?_)
  · have h01 := in01 (hr4.resolve_right (fun h => by omega)).2
    refine j_aload_n dX6_plan_12 rfl ?_
    refine j_callV (y' := mX6_reduceAll) (As := []) (st := []) dX6_plan_13 lkX6_221 okX6_reduceAll imX6_reduceAll seX6_reduceAll (Nat.le_of_ble_eq_true rfl) rfl rfl rfl rfl (Nat.le_of_ble_eq_true rfl) (Nat.le_of_ble_eq_true rfl) (m_reduceAll z _ _ _ _ _ _ _ _ F A hM hw) (fun v13 F13 A13 hq13 => ?_)
    obtain ⟨rfl, rfl, hM, hRes⟩ := hq13
    refine j_iload_n dX6_plan_16 rfl ?_
    refine j_if_ne (tgt := 25) dX6_plan_17 (by decide) (fun c17 => ?_) (fun c17 => ?_)
    · have hx1 : x1 = nI 1 := h01.resolve_left (fun e => c17 (by rw [e, nI_0]))
      refine j_iconst (v := nI 1) dX6_plan_25 (by decide +kernel) ?_
      refine j_istore_n (lv' := [(0, .ref 0), (1, .int x1), (2, .int (nI 1))]) dX6_plan_26 (Nat.le_of_ble_eq_true rfl) rfl rfl ?_
      refine j_iconst (v := nI 0) dX6_plan_27 (by decide +kernel) ?_
      refine j_istore_n (lv' := [(0, .ref 0), (1, .int x1), (2, .int (nI 1)), (3, .int (nI 0))]) dX6_plan_28 (Nat.le_of_ble_eq_true rfl) rfl rfl ?_
      refine j_sub [0, 2, 3] rfl ?_
      exact L29 _ 1 0 A13 (by first | exact hM | omega) (Nat.zero_le _) (by first | exact hRes | omega) rfl (by first | exact hx1 | omega) (Nat.lt_succ_self _)
    · refine j_aload_n dX6_plan_20 rfl ?_
      refine j_callV (y' := mX6_planCost) (As := []) (st := []) dX6_plan_21 lkX6_224 okX6_planCost imX6_planCost seX6_planCost (Nat.le_of_ble_eq_true rfl) rfl rfl rfl rfl (Nat.le_of_ble_eq_true rfl) (Nat.le_of_ble_eq_true rfl) (m_planCost z _ _ _ _ _ _ _ _ (tkF n mm (L.2 5)) F A13 hM hw (fun u hu => ⟨hRes.2 u hu, tkF_lt hw hu⟩)) (fun v21 F21 A21 hq21 => ?_)
      obtain ⟨rfl, rfl, r21, rfl, hr21⟩ := hq21
      have hans : plAns n mm (L.2 5) x1 = nI r21 := by rw [hr21]; exact plAns_0 (c17.trans nI_0.symm)
      exact j_iret dX6_plan_24 rfl rfl ⟨by rw [hans], hM⟩
  · have h01 := no01 (hr4.resolve_left (fun h => by omega)).2
    have hans : plAns n mm (L.2 5) x1 = -1 := plAns_x h01.1 h01.2
    refine j_iconst (v := (-1)) dX6_plan_10 (by decide +kernel) ?_
    exact j_iret dX6_plan_11 rfl rfl ⟨by rw [hans], hM⟩

/-! the reference: all plans, exact -/
def MS (F A : mj_S) (n : Nat) (s : SSt) : Prop := (F 0 21 = nI s.1.1 ∧ F 0 23 = nI s.1.2.1 ∧ F 0 22 = nI s.1.2.2) ∧ (s.1.1 < 1000000 → ∀ u, u < n → A 15 u = nI (s.2.1 u) ∧ A 16 u = nI (s.2.2 u)) ∧ (¬ s.1.1 < 1000000 → ∀ u, u < n → A 15 u = -4)
theorem MS.off {F A F' A' : mj_S} {n : Nat} {s : SSt} (h : MS F A n s) (h1 : F' 0 21 = F 0 21) (h2 : F' 0 22 = F 0 22) (h3 : F' 0 23 = F 0 23) (h15 : A' 15 = A 15) (h16 : A' 16 = A 16) : MS F' A' n s := by
  refine ⟨⟨h1.trans h.1.1, h3.trans h.1.2.1, h2.trans h.1.2.2⟩, fun q u hu => ?_, fun q u hu => ?_⟩
  · rw [h15, h16]; exact h.2.1 q u hu
  · rw [h15]; exact h.2.2 q u hu
theorem MI.fx {L : Lg} {n : Nat} {mm : Nat → Nat} {rn : Nat} {rm : Nat → Nat} {un kn : Nat} {F A : mj_S} (h : MI L n mm rn rm un kn F A) {s : Nat} (hs : 21 ≤ s) (x : Int32) : MI L n mm rn rm un kn (mj_u F 0 s x) A := by
  have e : ∀ k, k < 21 → mj_u F 0 s x 0 k = F 0 k := fun k hk => by rw [mj_u_at, pk_un (by omega)]
  obtain ⟨h1, h2, h3, h4, h5, h6⟩ := h
  exact ⟨⟨(e 0 (by omega)).trans h1.1, h1.2⟩, ⟨(e 2 (by omega)).trans h2.1, h2.2⟩, ⟨(e 4 (by omega)).trans h3.1, h3.2⟩, ⟨(e 9 (by omega)).trans h4.1, h4.2⟩, ⟨(e 11 (by omega)).trans h5.1, h5.2⟩, h6⟩
theorem SI.bn {n : Nat} {s : SSt} (h : SI n s) : s.1.1 ≤ s.1.2.1 ∧ s.1.2.1 ≤ 1000000 := by
  obtain ⟨⟨h1, h2⟩, -⟩ := h
  omega
theorem pr_W {mm : VF} {n u p : Nat} (hu : u < n) (h : p * Wn mm (n - u) u = Wn mm n 0) : p * mm u * Wn mm (n - (u + 1)) (u + 1) = Wn mm n 0 := by
  rw [Nat.mul_assoc, ← h]
  congr 1
  rw [show n - u = (n - (u + 1)) + 1 by omega]
  rfl
theorem dv_W {mm : VF} {n k q : Nat} (h0 : 0 < k) (hk : k ≤ n) : q / Wn mm (n - k) k / mm (k - 1) = q / Wn mm (n - (k - 1)) (k - 1) := by
  rw [Nat.div_div_eq_div_mul]
  congr 1
  rw [show n - (k - 1) = (n - k) + 1 by omega, Nat.mul_comm]
  show _ = mm (k - 1) * Wn mm (n - k) (k - 1 + 1)
  rw [show k - 1 + 1 = k by omega]
theorem dg_W {mm : VF} {n q v : Nat} (hv : v < n) (hq : q < Wn mm n 0) : pl mm n 0 p00 q v = q / Wn mm (n - 1 - v) (v + 1) % mm v := by
  rw [pl_dg mm n 0 p00 q v (by omega) (by omega) hq, show 0 + n - 1 - v = n - 1 - v by omega]
theorem dg_K {mm : VF} {n q k : Nat} (h0 : 0 < k) (hk : k ≤ n) : q / Wn mm (n - 1 - (k - 1)) (k - 1 + 1) % mm (k - 1) = q / Wn mm (n - k) k % mm (k - 1) := by
  rw [show n - 1 - (k - 1) = n - k by omega, show k - 1 + 1 = k by omega]

theorem if_s {a b q v : Nat} (e : ¬ q = v) : (if q < v then a else b) = if q < v + 1 then a else b := by
  by_cases e2 : q < v
  · rw [if_pos e2, if_pos (by omega)]
  · rw [if_neg e2, if_neg (by omega)]

set_option maxHeartbeats 400000 in
set_option maxRecDepth 100000 in
theorem m_meetPlan (z : mj_B) (d : Nat) (L : Lg) (n : Nat) (mm : Nat → Nat) (rn : Nat) (rm : Nat → Nat) (un kn : Nat) (x : Nat) (p : VF) (s : SSt) (hI : SI n s) (hx : x ≤ 1000000) (hp : ∀ u, u < n → p u < 4) (F0 A0 : mj_S) (hM : MI L n mm rn rm un kn F0 A0) (hS : MS F0 A0 n s) (htk : ∀ u, u < n → A0 14 u = nI (p u)) : J (gM z) mX6_meetPlan d 0 [(0, .ref 0), (1, .int (nI x))] [] F0 A0 (fun _w F' A' => _w = none ∧ MI L n mm rn rm un kn F' A' ∧ MS F' A' n (mt x p s) ∧ A' 14 = A0 14 ∧ ∀ k, k < 21 → F' 0 k = F0 0 k) := by
  have hM0 := hM.1.2.1
  have hM1 := hM.2.1.2.1
  have hM2 := hM.2.2.1.2.1
  have hM3 := hM.2.2.2.1.2
  have hM4 := hM.2.2.2.2.1.2
  have hbn := hI.bn
  have L111 : ∀ (fuel : Nat) (v : Nat) (s1 : SSt) (g : VF) (F A : mj_S), (MI L n mm rn rm un kn F A) → (v ≤ n) → (F 0 21 = nI s1.1.1 ∧ F 0 23 = nI s1.1.2.1 ∧ F 0 22 = nI s1.1.2.2) → (∀ q, q < n → A 15 q = nI (s1.2.1 q)) → (∀ q, q < n → s1.2.2 q = g q ||| 2 ^ p q ∧ g q < 16) → (∀ q, q < n → A 16 q = nI (if q < v then s1.2.2 q else g q)) → (s1 = mt x p s) → (s1.1.1 < 1000000) → (A 14 = A0 14) → (∀ k, k < 21 → F 0 k = F0 0 k) → n - v < fuel → J (gM z) mX6_meetPlan d 111 [(0, .ref 0), (2, .int (nI v))] [] F A (fun _w F' A' => _w = none ∧ MI L n mm rn rm un kn F' A' ∧ MS F' A' n (mt x p s) ∧ A' 14 = A0 14 ∧ ∀ k, k < 21 → F' 0 k = F0 0 k) := by
    intro fuel
    induction fuel with
    | zero => intro v s1 g F A hM h1 hF h15 hg h16 hfin hb1 h14 hff hf; exact absurd hf (by omega)
    | succ fuel ih111 =>
      intro v s1 g F A hM h1 hF h15 hg h16 hfin hb1 h14 hff hf
      refine j_iload_n dX6_meetPlan_111 rfl ?_
      refine j_aload_n dX6_meetPlan_112 rfl ?_
      refine j_getI dX6_meetPlan_113 flX6_132 (Nat.le_of_ble_eq_true rfl) rfl rfl ?_
      refine j_top (y0 := nI n) hM.2.1.1 ?_
      refine j_icmp_geN (tgt := 142) dX6_meetPlan_116 (by decide) (by omega) (by omega) (fun c116 => ?_) (fun c116 => ?_)
      · have hMS : MS F A n (mt x p s) := by
          rw [← hfin]
          exact ⟨hF, fun _ q hq => ⟨h15 q hq, (h16 q hq).trans (congrArg nI (if_pos (by omega)))⟩, fun q => absurd hb1 q⟩
        exact j_vret dX6_meetPlan_142 rfl ⟨rfl, hM, hMS, h14, hff⟩
      · refine j_aload_n dX6_meetPlan_119 rfl ?_
        refine j_getR (r := 16) dX6_meetPlan_120 flX6_55 (Nat.le_of_ble_eq_true rfl) rfl rfl ?_
        refine j_iload_n dX6_meetPlan_123 rfl ?_
        refine j_dup2 dX6_meetPlan_124 rfl rfl ?_
        refine j_ialdN dX6_meetPlan_125 (Nat.le_of_ble_eq_true rfl) rfl (by omega) (by decide) ?_
        have hgv := hg v (by omega)
        refine j_top (y0 := nI (g v)) ((h16 v (by omega)).trans (congrArg nI (if_neg (Nat.lt_irrefl v)))) ?_
        refine j_iconst (v := nI 1) dX6_meetPlan_126 (by decide +kernel) ?_
        refine j_aload_n dX6_meetPlan_127 rfl ?_
        refine j_getR (r := 14) dX6_meetPlan_128 flX6_49 (Nat.le_of_ble_eq_true rfl) rfl rfl ?_
        refine j_iload_n dX6_meetPlan_131 rfl ?_
        refine j_ialdN dX6_meetPlan_132 (Nat.le_of_ble_eq_true rfl) rfl (by omega) (by decide) ?_
        have hp4 := hp v (by omega)
        refine j_top (y0 := nI (p v)) ((congrFun h14 v).trans (htk v (by omega))) ?_
        refine j_ishl dX6_meetPlan_133 ?_
        refine j_top (y0 := nI (2 ^ (p v))) (shl_1 (by omega)) ?_
        refine j_ior dX6_meetPlan_134 ?_
        refine j_top (y0 := nI ((g v) ||| (2 ^ (p v)))) (fa_or _ _) ?_
        refine j_iastN dX6_meetPlan_135 (Nat.le_of_ble_eq_true rfl) rfl (by omega) (by decide) ?_
        have hM := hM.s16 v (t := g v ||| 2 ^ p v) (Nat.le_of_lt_succ (or_16 hgv.2 (p2_4 (by omega))))
        refine j_iinc (v := nI (v + 1)) (lv' := [(0, .ref 0), (2, .int (nI (v + 1)))]) dX6_meetPlan_136 rfl (nI_add _ 1) (Nat.le_of_ble_eq_true rfl) rfl rfl ?_
        refine j_goto (tgt := 111) dX6_meetPlan_139 (by decide) ?_
        exact ih111 (v + 1) s1 g F (mj_u A 16 v (nI ((g v) ||| (2 ^ (p v))))) (by first | exact hM | omega) (by first | exact h1 | omega) (by first | exact hF | omega) (by first | exact h15 | omega) (by first | exact hg | omega) (fun q hq => by rw [mj_u_at]; exact if e : q = v then (by rw [e, pk_us, if_pos (Nat.lt_succ_self v), hgv.1]) else (by rw [pk_un e, h16 q hq]; exact congrArg nI (if_s e))) (by first | exact hfin | omega) (by first | exact hb1 | omega) (by first | exact h14 | omega) (by first | exact hff | omega) (by omega)
  refine j_iload_n dX6_meetPlan_0 rfl ?_
  refine j_aload_n dX6_meetPlan_1 rfl ?_
  refine j_getI dX6_meetPlan_2 flX6_227 (Nat.le_of_ble_eq_true rfl) rfl rfl ?_
  refine j_top (y0 := nI (s.1.1)) hS.1.1 ?_
  refine j_icmp_geN (tgt := 64) dX6_meetPlan_5 (by decide) (by omega) (by omega) (fun c5 => ?_) (fun c5 => ?_)
  · refine j_iload_n dX6_meetPlan_64 rfl ?_
    refine j_aload_n dX6_meetPlan_65 rfl ?_
    refine j_getI dX6_meetPlan_66 flX6_227 (Nat.le_of_ble_eq_true rfl) rfl rfl ?_
    refine j_top (y0 := nI (s.1.1)) hS.1.1 ?_
    refine j_icmp_leN (tgt := 85) dX6_meetPlan_69 (by decide) (by omega) (by omega) (fun c69 => ?_) (fun c69 => ?_)
    · refine j_iload_n dX6_meetPlan_85 rfl ?_
      refine j_aload_n dX6_meetPlan_86 rfl ?_
      refine j_getI dX6_meetPlan_87 flX6_227 (Nat.le_of_ble_eq_true rfl) rfl rfl ?_
      refine j_top (y0 := nI (s.1.1)) hS.1.1 ?_
      refine j_icmp_neN (tgt := 142) dX6_meetPlan_90 (by decide) (by omega) (by omega) (fun c90 => ?_) (fun c90 => ?_)
      · have hMS : MS F0 A0 n (mt x p s) := by rw [mt_0 (by omega) (by omega) (by omega)]; exact hS
        have h14 : A0 14 = A0 14 := rfl
        have hff : ∀ k, k < 21 → F0 0 k = F0 0 k := fun k hk => by rfl
        exact j_vret dX6_meetPlan_142 rfl ⟨rfl, hM, hMS, h14, hff⟩
      · refine j_iload_n dX6_meetPlan_93 rfl ?_
        refine j_ldc dX6_meetPlan_94 kcX6_145 ?_
        refine j_top (y0 := nI 1000000) (by decide +kernel) ?_
        refine j_icmp_geN (tgt := 142) dX6_meetPlan_96 (by decide) (by omega) (by omega) (fun c96 => ?_) (fun c96 => ?_)
        · have hMS : MS F0 A0 n (mt x p s) := by rw [mt_0 (by omega) (by omega) (by omega)]; exact hS
          have h14 : A0 14 = A0 14 := rfl
          have hff : ∀ k, k < 21 → F0 0 k = F0 0 k := fun k hk => by rfl
          exact j_vret dX6_meetPlan_142 rfl ⟨rfl, hM, hMS, h14, hff⟩
        · refine j_aload_n dX6_meetPlan_99 rfl ?_
          refine j_dup dX6_meetPlan_100 rfl ?_
          refine j_getI dX6_meetPlan_101 flX6_230 (Nat.le_of_ble_eq_true rfl) rfl rfl ?_
          refine j_top (y0 := nI (s.1.2.2)) hS.1.2.2 ?_
          refine j_iconst (v := nI 1) dX6_meetPlan_104 (by decide +kernel) ?_
          refine j_iaddN dX6_meetPlan_105 ?_
          refine j_putI dX6_meetPlan_106 fpX6_230 (Nat.le_of_ble_eq_true rfl) rfl rfl ?_
          have hM := hM.fx (s := 22) (by omega) (nI (s.1.2.2 + 1))
          refine j_iconst (v := nI 0) dX6_meetPlan_109 (by decide +kernel) ?_
          refine j_istore_n (lv' := [(0, .ref 0), (1, .int (nI x)), (2, .int (nI 0))]) dX6_meetPlan_110 (Nat.le_of_ble_eq_true rfl) rfl rfl ?_
          refine j_sub [0, 2] rfl ?_
          exact L111 _ 0 ((s.1.1, s.1.2.1, s.1.2.2 + 1), (s.2.1, fun u => s.2.2 u ||| 2 ^ p u)) s.2.2 (mj_u F0 0 22 (nI (s.1.2.2 + 1))) A0 (by first | exact hM | omega) (Nat.zero_le _) ⟨hS.1.1, hS.1.2.1, rfl⟩ (fun q hq => (hS.2.1 (by omega) q hq).1) (fun q hq => ⟨rfl, (hI.2 (by omega) q hq).2.1⟩) (fun q hq => (hS.2.1 (by omega) q hq).2.trans (congrArg nI (if_neg (Nat.not_lt_zero q)).symm)) (mt_2 (by omega) (by omega)).symm (show s.1.1 < 1000000 by omega) rfl (fun k hk => by rw [mj_u_at, pk_un (by omega)]) (Nat.lt_succ_self _)
    · refine j_iload_n dX6_meetPlan_72 rfl ?_
      refine j_aload_n dX6_meetPlan_73 rfl ?_
      refine j_getI dX6_meetPlan_74 flX6_233 (Nat.le_of_ble_eq_true rfl) rfl rfl ?_
      refine j_top (y0 := nI (s.1.2.1)) hS.1.2.1 ?_
      refine j_icmp_geN (tgt := 85) dX6_meetPlan_77 (by decide) (by omega) (by omega) (fun c77 => ?_) (fun c77 => ?_)
      · refine j_iload_n dX6_meetPlan_85 rfl ?_
        refine j_aload_n dX6_meetPlan_86 rfl ?_
        refine j_getI dX6_meetPlan_87 flX6_227 (Nat.le_of_ble_eq_true rfl) rfl rfl ?_
        refine j_top (y0 := nI (s.1.1)) hS.1.1 ?_
        refine j_icmp_neN (tgt := 142) dX6_meetPlan_90 (by decide) (by omega) (by omega) (fun c90 => ?_) (fun c90 => ?_)
        · have hMS : MS F0 A0 n (mt x p s) := by rw [mt_0 (by omega) (by omega) (by omega)]; exact hS
          have h14 : A0 14 = A0 14 := rfl
          have hff : ∀ k, k < 21 → F0 0 k = F0 0 k := fun k hk => by rfl
          exact j_vret dX6_meetPlan_142 rfl ⟨rfl, hM, hMS, h14, hff⟩
        · refine j_iload_n dX6_meetPlan_93 rfl ?_
          refine j_ldc dX6_meetPlan_94 kcX6_145 ?_
          refine j_top (y0 := nI 1000000) (by decide +kernel) ?_
          refine j_icmp_geN (tgt := 142) dX6_meetPlan_96 (by decide) (by omega) (by omega) (fun c96 => ?_) (fun c96 => ?_)
          · have hMS : MS F0 A0 n (mt x p s) := by rw [mt_0 (by omega) (by omega) (by omega)]; exact hS
            have h14 : A0 14 = A0 14 := rfl
            have hff : ∀ k, k < 21 → F0 0 k = F0 0 k := fun k hk => by rfl
            exact j_vret dX6_meetPlan_142 rfl ⟨rfl, hM, hMS, h14, hff⟩
          · refine j_aload_n dX6_meetPlan_99 rfl ?_
            refine j_dup dX6_meetPlan_100 rfl ?_
            refine j_getI dX6_meetPlan_101 flX6_230 (Nat.le_of_ble_eq_true rfl) rfl rfl ?_
            refine j_top (y0 := nI (s.1.2.2)) hS.1.2.2 ?_
            refine j_iconst (v := nI 1) dX6_meetPlan_104 (by decide +kernel) ?_
            refine j_iaddN dX6_meetPlan_105 ?_
            refine j_putI dX6_meetPlan_106 fpX6_230 (Nat.le_of_ble_eq_true rfl) rfl rfl ?_
            have hM := hM.fx (s := 22) (by omega) (nI (s.1.2.2 + 1))
            refine j_iconst (v := nI 0) dX6_meetPlan_109 (by decide +kernel) ?_
            refine j_istore_n (lv' := [(0, .ref 0), (1, .int (nI x)), (2, .int (nI 0))]) dX6_meetPlan_110 (Nat.le_of_ble_eq_true rfl) rfl rfl ?_
            refine j_sub [0, 2] rfl ?_
            exact L111 _ 0 ((s.1.1, s.1.2.1, s.1.2.2 + 1), (s.2.1, fun u => s.2.2 u ||| 2 ^ p u)) s.2.2 (mj_u F0 0 22 (nI (s.1.2.2 + 1))) A0 (by first | exact hM | omega) (Nat.zero_le _) ⟨hS.1.1, hS.1.2.1, rfl⟩ (fun q hq => (hS.2.1 (by omega) q hq).1) (fun q hq => ⟨rfl, (hI.2 (by omega) q hq).2.1⟩) (fun q hq => (hS.2.1 (by omega) q hq).2.trans (congrArg nI (if_neg (Nat.not_lt_zero q)).symm)) (mt_2 (by omega) (by omega)).symm (show s.1.1 < 1000000 by omega) rfl (fun k hk => by rw [mj_u_at, pk_un (by omega)]) (Nat.lt_succ_self _)
      · refine j_aload_n dX6_meetPlan_80 rfl ?_
        refine j_iload_n dX6_meetPlan_81 rfl ?_
        refine j_putI dX6_meetPlan_82 fpX6_233 (Nat.le_of_ble_eq_true rfl) rfl rfl ?_
        have hM := hM.fx (s := 23) (by omega) (nI x)
        refine j_iload_n dX6_meetPlan_85 rfl ?_
        refine j_aload_n dX6_meetPlan_86 rfl ?_
        refine j_getI dX6_meetPlan_87 flX6_227 (Nat.le_of_ble_eq_true rfl) rfl rfl ?_
        refine j_top (y0 := nI (s.1.1)) hS.1.1 ?_
        refine j_icmp_neN (tgt := 142) dX6_meetPlan_90 (by decide) (by omega) (by omega) (fun c90 => ?_) (fun c90 => ?_)
        · have hMS : MS (mj_u F0 0 23 (nI x)) A0 n (mt x p s) := by
            rw [mt_3 (by omega) (by omega)]
            exact ⟨⟨hS.1.1, rfl, hS.1.2.2⟩, hS.2⟩
          have h14 : A0 14 = A0 14 := rfl
          have hff : ∀ k, k < 21 → (mj_u F0 0 23 (nI x)) 0 k = F0 0 k := fun k hk => by rw [mj_u_at, pk_un (by omega)]
          exact j_vret dX6_meetPlan_142 rfl ⟨rfl, hM, hMS, h14, hff⟩
        · exfalso; omega
  · refine j_aload_n dX6_meetPlan_8 rfl ?_
    refine j_aload_n dX6_meetPlan_9 rfl ?_
    refine j_getI dX6_meetPlan_10 flX6_227 (Nat.le_of_ble_eq_true rfl) rfl rfl ?_
    refine j_top (y0 := nI (s.1.1)) hS.1.1 ?_
    refine j_putI dX6_meetPlan_13 fpX6_233 (Nat.le_of_ble_eq_true rfl) rfl rfl ?_
    have hM := hM.fx (s := 23) (by omega) (nI (s.1.1))
    refine j_aload_n dX6_meetPlan_16 rfl ?_
    refine j_iload_n dX6_meetPlan_17 rfl ?_
    refine j_putI dX6_meetPlan_18 fpX6_227 (Nat.le_of_ble_eq_true rfl) rfl rfl ?_
    have hM := hM.fx (s := 21) (by omega) (nI x)
    refine j_aload_n dX6_meetPlan_21 rfl ?_
    refine j_iconst (v := nI 0) dX6_meetPlan_22 (by decide +kernel) ?_
    refine j_putI dX6_meetPlan_23 fpX6_230 (Nat.le_of_ble_eq_true rfl) rfl rfl ?_
    have hM := hM.fx (s := 22) (by omega) (nI 0)
    have hlt : x < s.1.1 := c5
    have L28 : ∀ (fuel : Nat) (v : Nat) (A : mj_S), (MI L n mm rn rm un kn (mj_u (mj_u (mj_u F0 0 23 (nI s.1.1)) 0 21 (nI x)) 0 22 (nI 0)) A) → (v ≤ n) → (∀ q, q < v → A 15 q = nI (p q) ∧ A 16 q = nI 0) → (A 14 = A0 14) → n - v < fuel → J (gM z) mX6_meetPlan d 28 [(0, .ref 0), (1, .int (nI x)), (2, .int (nI v))] [] (mj_u (mj_u (mj_u F0 0 23 (nI s.1.1)) 0 21 (nI x)) 0 22 (nI 0)) A (fun _w F' A' => _w = none ∧ MI L n mm rn rm un kn F' A' ∧ MS F' A' n (mt x p s) ∧ A' 14 = A0 14 ∧ ∀ k, k < 21 → F' 0 k = F0 0 k) := by
      intro fuel
      induction fuel with
      | zero => intro v A hM h1 h15 h14 hf; exact absurd hf (by omega)
      | succ fuel ih28 =>
        intro v A hM h1 h15 h14 hf
        refine j_iload_n dX6_meetPlan_28 rfl ?_
        refine j_aload_n dX6_meetPlan_29 rfl ?_
        refine j_getI dX6_meetPlan_30 flX6_132 (Nat.le_of_ble_eq_true rfl) rfl rfl ?_
        refine j_top (y0 := nI n) hM.2.1.1 ?_
        refine j_icmp_geN (tgt := 61) dX6_meetPlan_33 (by decide) (by omega) (by omega) (fun c33 => ?_) (fun c33 => ?_)
        · have hff : ∀ k, k < 21 → (mj_u (mj_u (mj_u F0 0 23 (nI s.1.1)) 0 21 (nI x)) 0 22 (nI 0)) 0 k = F0 0 k := fun k hk => by rw [mj_u_at, pk_un (by omega), mj_u_at, pk_un (by omega), mj_u_at, pk_un (by omega)]
          refine j_goto (tgt := 85) dX6_meetPlan_61 (by decide) ?_
          refine j_iload_n dX6_meetPlan_85 rfl ?_
          refine j_aload_n dX6_meetPlan_86 rfl ?_
          refine j_getI dX6_meetPlan_87 flX6_227 (Nat.le_of_ble_eq_true rfl) rfl rfl ?_
          refine j_top (y0 := nI x) rfl ?_
          refine j_icmp_neN (tgt := 142) dX6_meetPlan_90 (by decide) (by omega) (by omega) (fun c90 => ?_) (fun c90 => ?_)
          · exact absurd rfl c90
          · refine j_iload_n dX6_meetPlan_93 rfl ?_
            refine j_ldc dX6_meetPlan_94 kcX6_145 ?_
            refine j_top (y0 := nI 1000000) (by decide +kernel) ?_
            refine j_icmp_geN (tgt := 142) dX6_meetPlan_96 (by decide) (by omega) (by omega) (fun c96 => ?_) (fun c96 => ?_)
            · exfalso; omega
            · refine j_aload_n dX6_meetPlan_99 rfl ?_
              refine j_dup dX6_meetPlan_100 rfl ?_
              refine j_getI dX6_meetPlan_101 flX6_230 (Nat.le_of_ble_eq_true rfl) rfl rfl ?_
              refine j_top (y0 := nI 0) rfl ?_
              refine j_iconst (v := nI 1) dX6_meetPlan_104 (by decide +kernel) ?_
              refine j_iaddN dX6_meetPlan_105 ?_
              refine j_putI dX6_meetPlan_106 fpX6_230 (Nat.le_of_ble_eq_true rfl) rfl rfl ?_
              have hM := hM.fx (s := 22) (by omega) (nI (0 + 1))
              refine j_iconst (v := nI 0) dX6_meetPlan_109 (by decide +kernel) ?_
              refine j_istore_n (lv' := [(0, .ref 0), (1, .int (nI x)), (2, .int (nI 0))]) dX6_meetPlan_110 (Nat.le_of_ble_eq_true rfl) rfl rfl ?_
              refine j_sub [0, 2] rfl ?_
              exact L111 _ 0 ((x, s.1.1, 1), (p, fun u => 2 ^ p u)) (fun _ => 0) (mj_u (mj_u (mj_u (mj_u F0 0 23 (nI s.1.1)) 0 21 (nI x)) 0 22 (nI 0)) 0 22 (nI (0 + 1))) A (by first | exact hM | omega) (Nat.zero_le _) ⟨rfl, rfl, rfl⟩ (fun q hq => (h15 q (by omega)).1) (fun q hq => ⟨by show 2 ^ p q = 0 ||| 2 ^ p q; rw [Nat.zero_or], by decide⟩) (fun q hq => (h15 q (by omega)).2.trans (congrArg nI (if_neg (Nat.not_lt_zero q)).symm)) (mt_1 hlt).symm (show x < 1000000 by omega) h14 (fun k hk => by rw [mj_u_at, pk_un (by omega)]; exact hff k hk) (Nat.lt_succ_self _)
        · refine j_aload_n dX6_meetPlan_36 rfl ?_
          refine j_getR (r := 15) dX6_meetPlan_37 flX6_52 (Nat.le_of_ble_eq_true rfl) rfl rfl ?_
          refine j_iload_n dX6_meetPlan_40 rfl ?_
          refine j_aload_n dX6_meetPlan_41 rfl ?_
          refine j_getR (r := 14) dX6_meetPlan_42 flX6_49 (Nat.le_of_ble_eq_true rfl) rfl rfl ?_
          refine j_iload_n dX6_meetPlan_45 rfl ?_
          refine j_ialdN dX6_meetPlan_46 (Nat.le_of_ble_eq_true rfl) rfl (by omega) (by decide) ?_
          have hp4 := hp v (by omega)
          refine j_top (y0 := nI (p v)) ((congrFun h14 v).trans (htk v (by omega))) ?_
          refine j_iastN dX6_meetPlan_47 (Nat.le_of_ble_eq_true rfl) rfl (by omega) (by decide) ?_
          refine j_aload_n dX6_meetPlan_48 rfl ?_
          refine j_getR (r := 16) dX6_meetPlan_49 flX6_55 (Nat.le_of_ble_eq_true rfl) rfl rfl ?_
          refine j_iload_n dX6_meetPlan_52 rfl ?_
          refine j_iconst (v := nI 0) dX6_meetPlan_53 (by decide +kernel) ?_
          refine j_iastN dX6_meetPlan_54 (Nat.le_of_ble_eq_true rfl) rfl (by omega) (by decide) ?_
          have hM := hM.s16 v (t := 0) (by omega)
          refine j_iinc (v := nI (v + 1)) (lv' := [(0, .ref 0), (1, .int (nI x)), (2, .int (nI (v + 1)))]) dX6_meetPlan_55 rfl (nI_add _ 1) (Nat.le_of_ble_eq_true rfl) rfl rfl ?_
          refine j_goto (tgt := 28) dX6_meetPlan_58 (by decide) ?_
          exact ih28 (v + 1) (mj_u (mj_u A 15 v (nI (p v))) 16 v (nI 0)) (by first | exact hM | omega) (by first | exact h1 | omega) (fun q hq => if e : q = v then (by rw [e]; exact ⟨by show (mj_u A 15 v (nI (p v))) 15 v = _; rw [mj_u_at, pk_us], by rw [mj_u_at, pk_us]⟩) else ⟨by show (mj_u A 15 v (nI (p v))) 15 q = _; rw [mj_u_at, pk_un e]; exact (h15 q (by omega)).1, by rw [mj_u_at, pk_un e]; exact (h15 q (by omega)).2⟩) (by first | exact h14 | omega) (by omega)
    refine j_iconst (v := nI 0) dX6_meetPlan_26 (by decide +kernel) ?_
    refine j_istore_n (lv' := [(0, .ref 0), (1, .int (nI x)), (2, .int (nI 0))]) dX6_meetPlan_27 (Nat.le_of_ble_eq_true rfl) rfl rfl ?_
    exact L28 _ 0 A0 (by first | exact hM | omega) (Nat.zero_le _) (fun q hq => absurd hq (Nat.not_lt_zero q)) rfl (Nat.lt_succ_self _)

set_option maxHeartbeats 400000 in
set_option maxRecDepth 100000 in
theorem m_goAll (z : mj_B) (d : Nat) (L : Lg) (n : Nat) (mm : Nat → Nat) (rn : Nat) (rm : Nat → Nat) (un kn : Nat) (x1 x2 : Int32) (f : VF → SSt → SSt) (hfi : ∀ p s, SI n s → (∀ u, u < n → p u < 4) → SI n (f p s)) (hnode : (x1 = (-4) ∧ f = fS (c0 n mm (L.2 5)) (t0 n mm (L.2 5)) (mk0 n (L.2 5)) n) ∨ ∃ j i, j < n ∧ x1 = nI j ∧ x2 = nI i ∧ i < 4 ∧ f = fW (c0 n mm (L.2 5)) (t0 n mm (L.2 5)) (mk0 n (L.2 5)) n j i) (F A : mj_S) (hM : MI L n mm rn rm un kn F A) (hw : wr n mm (L.2 5)) : J (gM z) mX6_goAll (d + 3) 0 [(0, .ref 0), (1, .int x1), (2, .int x2)] [] F A (fun _w F' A' => _w = none ∧ MI L n mm rn rm un kn F' A' ∧ MS F' A' n (itr (fun k s => f (pl mm n 0 p00 k) s) (Wn mm n 0) s00)) := by
  have hM0 := hM.1.2.1
  have hM1 := hM.2.1.2.1
  have hM2 := hM.2.2.1.2.1
  have hM3 := hM.2.2.2.1.2
  have hM4 := hM.2.2.2.2.1.2
  have L22 : ∀ (fuel : Nat) (p : Nat) (u : Nat) (F A : mj_S), (MI L n mm rn rm un kn F A) → (u ≤ n) → (p ≤ 4 ^ u) → (p * Wn mm (n - u) u = Wn mm n 0) → (∀ q, q < u → A 15 q = -4) → (F 0 21 = nI 1000000 ∧ F 0 23 = nI 1000000 ∧ F 0 22 = nI 0) → n - u < fuel → J (gM z) mX6_goAll (d + 3) 22 [(0, .ref 0), (1, .int x1), (2, .int x2), (3, .int (nI p)), (4, .int (nI u))] [] F A (fun _w F' A' => _w = none ∧ MI L n mm rn rm un kn F' A' ∧ MS F' A' n (itr (fun k s => f (pl mm n 0 p00 k) s) (Wn mm n 0) s00)) := by
    intro fuel
    induction fuel with
    | zero => intro p u F A hM h1 hp hpr h15 hF3 hf; exact absurd hf (by omega)
    | succ fuel ih22 =>
      intro p u F A hM h1 hp hpr h15 hF3 hf
      refine j_iload dX6_goAll_22 rfl ?_
      refine j_aload_n dX6_goAll_24 rfl ?_
      refine j_getI dX6_goAll_25 flX6_132 (Nat.le_of_ble_eq_true rfl) rfl rfl ?_
      refine j_top (y0 := nI n) hM.2.1.1 ?_
      refine j_icmp_geN (tgt := 56) dX6_goAll_28 (by decide) (by omega) (by omega) (fun c28 => ?_) (fun c28 => ?_)
      · have hp6 : p ≤ 65536 := Nat.le_trans hp (Nat.pow_le_pow_right (n := 4) (j := 8) (by decide) (by omega))
        have hpW : p = Wn mm n 0 := by have h := hpr; rw [show u = n by omega, Nat.sub_self] at h; rw [← h]; exact (Nat.mul_one p).symm
        have L59 : ∀ (fuel : Nat) (q : Nat) (F A : mj_S), (MI L n mm rn rm un kn F A) → (q ≤ p) → (MS F A n (itr (fun k s => f (pl mm n 0 p00 k) s) q s00)) → p - q < fuel → J (gM z) mX6_goAll (d + 3) 59 [(0, .ref 0), (1, .int x1), (2, .int x2), (3, .int (nI p)), (4, .int (nI q))] [] F A (fun _w F' A' => _w = none ∧ MI L n mm rn rm un kn F' A' ∧ MS F' A' n (itr (fun k s => f (pl mm n 0 p00 k) s) (Wn mm n 0) s00)) := by
          intro fuel
          induction fuel with
          | zero => intro q F A hM h1 hMS hf; exact absurd hf (by omega)
          | succ fuel ih59 =>
            intro q F A hM h1 hMS hf
            refine j_iload dX6_goAll_59 rfl ?_
            refine j_iload_n dX6_goAll_61 rfl ?_
            refine j_icmp_geN (tgt := 147) dX6_goAll_62 (by decide) (by omega) (by omega) (fun c62 => ?_) (fun c62 => ?_)
            · exact j_vret dX6_goAll_147 rfl ⟨rfl, hM, by rw [show Wn mm n 0 = q by omega]; exact hMS⟩
            · have hSI : SI n (itr (fun k s => f (pl mm n 0 p00 k) s) q s00) := itr_inv (SI n) (fun k s hk hs => hfi (pl mm n 0 p00 k) s hs (fun u hu => by have h1 := pl_lt (p := p00) (Nat.zero_le u) (show u < 0 + n by omega) (show k < Wn mm n 0 by omega) (hM.2.1.2.2.2.2 u hu); have h2 := hM.2.1.2.2.2.1 u; omega)) s00 (SI_0 n)
              have L77 : ∀ (fuel : Nat) (le : Nat) (x : Int32) (kk : Nat) (F A : mj_S), (MI L n mm rn rm un kn F A) → (x + 1 = nI kk) → (kk ≤ n) → (le ≤ 65536) → (le = q / Wn mm (n - kk) kk) → (∀ v, kk ≤ v → v < n → A 14 v = nI (q / Wn mm (n - 1 - v) (v + 1) % mm v)) → (MS F A n (itr (fun k s => f (pl mm n 0 p00 k) s) q s00)) → kk < fuel → J (gM z) mX6_goAll (d + 3) 77 [(0, .ref 0), (1, .int x1), (2, .int x2), (3, .int (nI p)), (4, .int (nI q)), (5, .int (nI le)), (6, .int x)] [] F A (fun _w F' A' => _w = none ∧ MI L n mm rn rm un kn F' A' ∧ MS F' A' n (itr (fun k s => f (pl mm n 0 p00 k) s) (Wn mm n 0) s00)) := by
                intro fuel
                induction fuel with
                | zero => intro le x kk F A hM hx h6 h7 hle hdg hMS hf; exact absurd hf (by omega)
                | succ fuel ih77 =>
                  intro le x kk F A hM hx h6 h7 hle hdg hMS hf
                  refine j_iload dX6_goAll_77 rfl ?_
                  refine j_if_lt (tgt := 117) dX6_goAll_79 (by decide) (fun c79 => ?_) (fun c79 => ?_)
                  · have hk0 := rd_end (by omega) hx c79
                    have htk : ∀ u, u < n → A 14 u = nI (pl mm n 0 p00 q u) := fun u hu => (hdg u (by omega) hu).trans (congrArg nI (dg_W hu (by omega)).symm)
                    have hp4 : ∀ u, u < n → pl mm n 0 p00 q u < 4 := fun u hu => by have h1 := pl_lt (p := p00) (Nat.zero_le u) (show u < 0 + n by omega) (show q < Wn mm n 0 by omega) (hM.2.1.2.2.2.2 u hu); have h2 := hM.2.1.2.2.2.1 u; omega
                    refine j_iload_n dX6_goAll_117 rfl ?_
                    refine j_bipush (v := (-4)) dX6_goAll_118 (by decide +kernel) ?_
                    refine j_icmp_eq (tgt := 133) dX6_goAll_120 (by decide) (fun c120 => ?_) (fun c120 => ?_)
                    · have hfe : f = fS (c0 n mm (L.2 5)) (t0 n mm (L.2 5)) (mk0 n (L.2 5)) n := hnode.elim (fun h => h.2) (fun ⟨j, i, h1, h2, _⟩ => absurd (h2.symm.trans c120) (ni_m4 j (by omega)))
                      refine j_aload_n dX6_goAll_133 rfl ?_
                      refine j_aload_n dX6_goAll_134 rfl ?_
                      refine j_callV (y' := mX6_planCost) (As := []) (st := [.ref 0]) dX6_goAll_135 lkX6_224 okX6_planCost imX6_planCost seX6_planCost (Nat.le_of_ble_eq_true rfl) rfl rfl rfl rfl (Nat.le_of_ble_eq_true rfl) (Nat.le_of_ble_eq_true rfl) (m_planCost z _ _ _ _ _ _ _ _ (pl mm n 0 p00 q) F A hM hw (fun u hu => ⟨htk u hu, pl_lt (by omega) (by omega) (by omega) (hM.2.1.2.2.2.2 u hu)⟩)) (fun v135 F135 A135 hq135 => ?_)
                      obtain ⟨rfl, rfl, _, rfl, rfl⟩ := hq135
                      have hpq : pcu (c0 n mm (L.2 5)) (t0 n mm (L.2 5)) (mk0 n (L.2 5)) (pl mm n 0 p00 q) n ≤ 1000000 := pcu_le n
                      refine j_callV (y' := mX6_meetPlan) (As := [.int (nI (pcu (c0 n mm (L.2 5)) (t0 n mm (L.2 5)) (mk0 n (L.2 5)) (pl mm n 0 p00 q) n))]) (st := []) dX6_goAll_138 lkX6_236 okX6_meetPlan imX6_meetPlan seX6_meetPlan (Nat.le_of_ble_eq_true rfl) rfl rfl rfl rfl (Nat.le_of_ble_eq_true rfl) (Nat.le_of_ble_eq_true rfl) (m_meetPlan z _ _ _ _ _ _ _ _ (pcu (c0 n mm (L.2 5)) (t0 n mm (L.2 5)) (mk0 n (L.2 5)) (pl mm n 0 p00 q) n) (pl mm n 0 p00 q) (itr (fun k s => f (pl mm n 0 p00 k) s) q s00) hSI hpq hp4 F A hM hMS htk) (fun v138 F138 A138 hq138 => ?_)
                      obtain ⟨rfl, hM, hMS, -, -⟩ := hq138
                      refine j_iinc (v := nI (q + 1)) (lv' := [(0, .ref 0), (1, .int x1), (2, .int x2), (3, .int (nI p)), (4, .int (nI (q + 1))), (5, .int (nI le)), (6, .int x)]) dX6_goAll_141 rfl (nI_add _ 1) (Nat.le_of_ble_eq_true rfl) rfl rfl ?_
                      refine j_goto (tgt := 59) dX6_goAll_144 (by decide) ?_
                      refine j_sub [0, 1, 2, 3, 4] rfl ?_
                      exact ih59 (q + 1) F138 A138 (by first | exact hM | omega) (by first | exact h1 | omega) (by show MS _ _ n (f (pl mm n 0 p00 q) (itr (fun k s => f (pl mm n 0 p00 k) s) q s00)); rw [hfe] at hMS ⊢; first | exact hMS | (unfold fW at hMS ⊢; first | (rw [if_pos heq]; exact hMS) | (rw [if_neg hne]; exact hMS))) (by omega)
                    · obtain ⟨j, i, hj, rfl, rfl, hi4, hfe⟩ := hnode.resolve_left (fun h => c120 h.1)
                      have hpj := hp4 j hj
                      refine j_aload_n dX6_goAll_123 rfl ?_
                      refine j_getR (r := 14) dX6_goAll_124 flX6_49 (Nat.le_of_ble_eq_true rfl) rfl rfl ?_
                      refine j_iload_n dX6_goAll_127 rfl ?_
                      refine j_ialdN dX6_goAll_128 (Nat.le_of_ble_eq_true rfl) rfl (by omega) (by decide) ?_
                      refine j_top (y0 := nI (pl mm n 0 p00 q j)) (htk j hj) ?_
                      refine j_iload_n dX6_goAll_129 rfl ?_
                      refine j_icmp_neN (tgt := 141) dX6_goAll_130 (by decide) (by omega) (by omega) (fun c130 => ?_) (fun c130 => ?_)
                      · have hne : ¬ pl mm n 0 p00 q j = i := c130
                        refine j_iinc (v := nI (q + 1)) (lv' := [(0, .ref 0), (1, .int (nI j)), (2, .int (nI i)), (3, .int (nI p)), (4, .int (nI (q + 1))), (5, .int (nI le)), (6, .int x)]) dX6_goAll_141 rfl (nI_add _ 1) (Nat.le_of_ble_eq_true rfl) rfl rfl ?_
                        refine j_goto (tgt := 59) dX6_goAll_144 (by decide) ?_
                        refine j_sub [0, 1, 2, 3, 4] rfl ?_
                        exact ih59 (q + 1) F A (by first | exact hM | omega) (by first | exact h1 | omega) (by show MS _ _ n (f (pl mm n 0 p00 q) (itr (fun k s => f (pl mm n 0 p00 k) s) q s00)); rw [hfe] at hMS ⊢; first | exact hMS | (unfold fW at hMS ⊢; first | (rw [if_pos heq]; exact hMS) | (rw [if_neg hne]; exact hMS))) (by omega)
                      · have heq : pl mm n 0 p00 q j = i := c130
                        refine j_aload_n dX6_goAll_133 rfl ?_
                        refine j_aload_n dX6_goAll_134 rfl ?_
                        refine j_callV (y' := mX6_planCost) (As := []) (st := [.ref 0]) dX6_goAll_135 lkX6_224 okX6_planCost imX6_planCost seX6_planCost (Nat.le_of_ble_eq_true rfl) rfl rfl rfl rfl (Nat.le_of_ble_eq_true rfl) (Nat.le_of_ble_eq_true rfl) (m_planCost z _ _ _ _ _ _ _ _ (pl mm n 0 p00 q) F A hM hw (fun u hu => ⟨htk u hu, pl_lt (by omega) (by omega) (by omega) (hM.2.1.2.2.2.2 u hu)⟩)) (fun v135 F135 A135 hq135 => ?_)
                        obtain ⟨rfl, rfl, _, rfl, rfl⟩ := hq135
                        have hpq : pcu (c0 n mm (L.2 5)) (t0 n mm (L.2 5)) (mk0 n (L.2 5)) (pl mm n 0 p00 q) n ≤ 1000000 := pcu_le n
                        refine j_callV (y' := mX6_meetPlan) (As := [.int (nI (pcu (c0 n mm (L.2 5)) (t0 n mm (L.2 5)) (mk0 n (L.2 5)) (pl mm n 0 p00 q) n))]) (st := []) dX6_goAll_138 lkX6_236 okX6_meetPlan imX6_meetPlan seX6_meetPlan (Nat.le_of_ble_eq_true rfl) rfl rfl rfl rfl (Nat.le_of_ble_eq_true rfl) (Nat.le_of_ble_eq_true rfl) (m_meetPlan z _ _ _ _ _ _ _ _ (pcu (c0 n mm (L.2 5)) (t0 n mm (L.2 5)) (mk0 n (L.2 5)) (pl mm n 0 p00 q) n) (pl mm n 0 p00 q) (itr (fun k s => f (pl mm n 0 p00 k) s) q s00) hSI hpq hp4 F A hM hMS htk) (fun v138 F138 A138 hq138 => ?_)
                        obtain ⟨rfl, hM, hMS, -, -⟩ := hq138
                        refine j_iinc (v := nI (q + 1)) (lv' := [(0, .ref 0), (1, .int (nI j)), (2, .int (nI i)), (3, .int (nI p)), (4, .int (nI (q + 1))), (5, .int (nI le)), (6, .int x)]) dX6_goAll_141 rfl (nI_add _ 1) (Nat.le_of_ble_eq_true rfl) rfl rfl ?_
                        refine j_goto (tgt := 59) dX6_goAll_144 (by decide) ?_
                        refine j_sub [0, 1, 2, 3, 4] rfl ?_
                        exact ih59 (q + 1) F138 A138 (by first | exact hM | omega) (by first | exact h1 | omega) (by show MS _ _ n (f (pl mm n 0 p00 q) (itr (fun k s => f (pl mm n 0 p00 k) s) q s00)); rw [hfe] at hMS ⊢; first | exact hMS | (unfold fW at hMS ⊢; first | (rw [if_pos heq]; exact hMS) | (rw [if_neg hne]; exact hMS))) (by omega)
                  · have hk0 : 0 < kk := Nat.pos_of_ne_zero (fun e => by rw [e] at hx; exact c79 (dn0 hx))
                    obtain rfl : x = nI (kk - 1) := dn1 hx hk0
                    have h1m := hM.2.1.2.2.2.2 (kk - 1) (by omega)
                    have h4m := hM.2.1.2.2.2.1 (kk - 1)
                    have hmd := Nat.mod_lt le h1m
                    refine j_aload_n dX6_goAll_82 rfl ?_
                    refine j_getR (r := 14) dX6_goAll_83 flX6_49 (Nat.le_of_ble_eq_true rfl) rfl rfl ?_
                    refine j_iload dX6_goAll_86 rfl ?_
                    refine j_iload dX6_goAll_88 rfl ?_
                    refine j_aload_n dX6_goAll_90 rfl ?_
                    refine j_getR (r := 2) dX6_goAll_91 flX6_13 (Nat.le_of_ble_eq_true rfl) rfl rfl ?_
                    refine j_iload dX6_goAll_94 rfl ?_
                    refine j_ialdN dX6_goAll_96 (Nat.le_of_ble_eq_true rfl) rfl (by omega) (by decide) ?_
                    refine j_top (y0 := nI (mm (kk - 1))) (hM.2.1.2.2.1 _ (by omega)) ?_
                    refine j_iremN dX6_goAll_97 (by omega) (by omega) (by omega) ?_
                    refine j_iastN dX6_goAll_98 (Nat.le_of_ble_eq_true rfl) rfl (by omega) (by decide) ?_
                    have hM := hM.s14 (kk - 1) (t := le % mm (kk - 1)) (by omega)
                    refine j_iload dX6_goAll_99 rfl ?_
                    refine j_aload_n dX6_goAll_101 rfl ?_
                    refine j_getR (r := 2) dX6_goAll_102 flX6_13 (Nat.le_of_ble_eq_true rfl) rfl rfl ?_
                    refine j_iload dX6_goAll_105 rfl ?_
                    refine j_ialdN dX6_goAll_107 (Nat.le_of_ble_eq_true rfl) rfl (by omega) (by decide) ?_
                    refine j_top (y0 := nI (mm (kk - 1))) (hM.2.1.2.2.1 _ (by omega)) ?_
                    refine j_idivN dX6_goAll_108 (by omega) (by omega) (by omega) ?_
                    refine j_istore (lv' := [(0, .ref 0), (1, .int x1), (2, .int x2), (3, .int (nI p)), (4, .int (nI q)), (5, .int (nI (le / (mm (kk - 1))))), (6, .int (nI (kk - 1)))]) dX6_goAll_109 (Nat.le_of_ble_eq_true rfl) rfl rfl ?_
                    refine j_iinc (v := nI (kk - 1) + Int32.ofInt (-1)) (lv' := [(0, .ref 0), (1, .int x1), (2, .int x2), (3, .int (nI p)), (4, .int (nI q)), (5, .int (nI (le / (mm (kk - 1))))), (6, .int (nI (kk - 1) + Int32.ofInt (-1)))]) dX6_goAll_111 rfl rfl (Nat.le_of_ble_eq_true rfl) rfl rfl ?_
                    refine j_goto (tgt := 77) dX6_goAll_114 (by decide) ?_
                    exact ih77 (le / (mm (kk - 1))) (nI (kk - 1) + Int32.ofInt (-1)) (kk - 1) F (mj_u A 14 (kk - 1) (nI (le % (mm (kk - 1))))) (by first | exact hM | omega) (dn2 _) (by first | exact h6 | omega) (Nat.le_trans (Nat.div_le_self _ _) h7) (by rw [hle]; exact dv_W hk0 h6) (fun v h1 h2 => by rw [mj_u_at]; exact if e : v = kk - 1 then (by rw [e, pk_us, hle, dg_K hk0 h6]) else (by rw [pk_un e]; exact hdg v (by omega) h2)) (hMS.off rfl rfl rfl rfl rfl) (by omega)
              refine j_iload dX6_goAll_65 rfl ?_
              refine j_istore (lv' := [(0, .ref 0), (1, .int x1), (2, .int x2), (3, .int (nI p)), (4, .int (nI q)), (5, .int (nI q))]) dX6_goAll_67 (Nat.le_of_ble_eq_true rfl) rfl rfl ?_
              refine j_aload_n dX6_goAll_69 rfl ?_
              refine j_getI dX6_goAll_70 flX6_132 (Nat.le_of_ble_eq_true rfl) rfl rfl ?_
              refine j_top (y0 := nI n) hM.2.1.1 ?_
              refine j_iconst (v := nI 1) dX6_goAll_73 (by decide +kernel) ?_
              refine j_isub dX6_goAll_74 ?_
              refine j_top (y0 := (nI n) - (nI 1)) rfl ?_
              refine j_istore (lv' := [(0, .ref 0), (1, .int x1), (2, .int x2), (3, .int (nI p)), (4, .int (nI q)), (5, .int (nI q)), (6, .int ((nI n) - (nI 1)))]) dX6_goAll_75 (Nat.le_of_ble_eq_true rfl) rfl rfl ?_
              exact L77 _ q ((nI n) - (nI 1)) n F A (by first | exact hM | omega) (dn4 n) (by first | exact h6 | omega) (by first | exact h7 | omega) (by rw [Nat.sub_self]; exact (Nat.div_one q).symm) (fun v h1 h2 => by omega) (by first | exact hMS | omega) (Nat.lt_succ_self _)
        refine j_iconst (v := nI 0) dX6_goAll_56 (by decide +kernel) ?_
        refine j_istore (lv' := [(0, .ref 0), (1, .int x1), (2, .int x2), (3, .int (nI p)), (4, .int (nI 0))]) dX6_goAll_57 (Nat.le_of_ble_eq_true rfl) rfl rfl ?_
        exact L59 _ 0 F A (by first | exact hM | omega) (Nat.zero_le _) ⟨hF3, fun q => absurd q (Nat.lt_irrefl _), fun _ u hu => h15 u (by omega)⟩ (Nat.lt_succ_self _)
      · refine j_iload_n dX6_goAll_31 rfl ?_
        refine j_aload_n dX6_goAll_32 rfl ?_
        refine j_getR (r := 2) dX6_goAll_33 flX6_13 (Nat.le_of_ble_eq_true rfl) rfl rfl ?_
        refine j_iload dX6_goAll_36 rfl ?_
        refine j_ialdN dX6_goAll_38 (Nat.le_of_ble_eq_true rfl) rfl (by omega) (by decide) ?_
        refine j_top (y0 := nI (mm u)) (hM.2.1.2.2.1 _ (by omega)) ?_
        refine j_imulN dX6_goAll_39 ?_
        refine j_istore_n (lv' := [(0, .ref 0), (1, .int x1), (2, .int x2), (3, .int (nI (p * (mm u)))), (4, .int (nI u))]) dX6_goAll_40 (Nat.le_of_ble_eq_true rfl) rfl rfl ?_
        refine j_aload_n dX6_goAll_41 rfl ?_
        refine j_getR (r := 15) dX6_goAll_42 flX6_52 (Nat.le_of_ble_eq_true rfl) rfl rfl ?_
        refine j_iload dX6_goAll_45 rfl ?_
        refine j_bipush (v := (-4)) dX6_goAll_47 (by decide +kernel) ?_
        refine j_iastN dX6_goAll_49 (Nat.le_of_ble_eq_true rfl) rfl (by omega) (by decide) ?_
        refine j_iinc (v := nI (u + 1)) (lv' := [(0, .ref 0), (1, .int x1), (2, .int x2), (3, .int (nI (p * (mm u)))), (4, .int (nI (u + 1)))]) dX6_goAll_50 rfl (nI_add _ 1) (Nat.le_of_ble_eq_true rfl) rfl rfl ?_
        refine j_goto (tgt := 22) dX6_goAll_53 (by decide) ?_
        exact ih22 (p * (mm u)) (u + 1) F (mj_u A 15 u (-4)) (by first | exact hM | omega) (by first | exact h1 | omega) (by rw [Nat.pow_succ]; exact Nat.mul_le_mul hp (hM.2.1.2.2.2.1 u)) (pr_W (by omega) hpr) (fun q hq => by rw [mj_u_at]; exact if e : q = u then (by rw [e, pk_us]) else (by rw [pk_un e]; exact h15 q (by omega))) (by first | exact hF3 | omega) (by omega)
  refine j_aload_n dX6_goAll_0 rfl ?_
  refine j_ldc dX6_goAll_1 kcX6_145 ?_
  refine j_top (y0 := nI 1000000) (by decide +kernel) ?_
  refine j_putI dX6_goAll_3 fpX6_227 (Nat.le_of_ble_eq_true rfl) rfl rfl ?_
  have hM := hM.fx (s := 21) (by omega) (nI 1000000)
  refine j_aload_n dX6_goAll_6 rfl ?_
  refine j_iconst (v := nI 0) dX6_goAll_7 (by decide +kernel) ?_
  refine j_putI dX6_goAll_8 fpX6_230 (Nat.le_of_ble_eq_true rfl) rfl rfl ?_
  have hM := hM.fx (s := 22) (by omega) (nI 0)
  refine j_aload_n dX6_goAll_11 rfl ?_
  refine j_ldc dX6_goAll_12 kcX6_145 ?_
  refine j_top (y0 := nI 1000000) (by decide +kernel) ?_
  refine j_putI dX6_goAll_14 fpX6_233 (Nat.le_of_ble_eq_true rfl) rfl rfl ?_
  have hM := hM.fx (s := 23) (by omega) (nI 1000000)
  refine j_iconst (v := nI 1) dX6_goAll_17 (by decide +kernel) ?_
  refine j_istore_n (lv' := [(0, .ref 0), (1, .int x1), (2, .int x2), (3, .int (nI 1))]) dX6_goAll_18 (Nat.le_of_ble_eq_true rfl) rfl rfl ?_
  refine j_iconst (v := nI 0) dX6_goAll_19 (by decide +kernel) ?_
  refine j_istore (lv' := [(0, .ref 0), (1, .int x1), (2, .int x2), (3, .int (nI 1)), (4, .int (nI 0))]) dX6_goAll_20 (Nat.le_of_ble_eq_true rfl) rfl rfl ?_
  exact L22 _ 1 0 (mj_u (mj_u (mj_u F 0 21 (nI 1000000)) 0 22 (nI 0)) 0 23 (nI 1000000)) A (by first | exact hM | omega) (Nat.zero_le _) (Nat.le_refl 1) (by rw [Nat.one_mul, Nat.sub_zero]) (fun q hq => absurd hq (Nat.not_lt_zero q)) ⟨rfl, rfl, rfl⟩ (Nat.lt_succ_self _)

theorem fS_ok {c : CF} {t : TF} {mk : VF} {n : Nat} (p : VF) (s : SSt) (h : SI n s) (hp : ∀ u, u < n → p u < 4) : SI n (fS c t mk n p s) := SI_mt h (pcu_le n) hp
theorem fW_ok {c : CF} {t : TF} {mk : VF} {n j i : Nat} (p : VF) (s : SSt) (h : SI n s) (hp : ∀ u, u < n → p u < 4) : SI n (fW c t mk n j i p s) := by
  unfold fW
  split
  · exact SI_mt h (pcu_le n) hp
  · exact h

set_option maxHeartbeats 400000 in
set_option maxRecDepth 100000 in
theorem m_sameSet (z : mj_B) (d : Nat) (L : Lg) (n : Nat) (mm : Nat → Nat) (rn : Nat) (rm : Nat → Nat) (un kn : Nat) (s : SSt) (hI : SI n s) (hb : s.1.1 < 1000000) (F A : mj_S) (hM : MI L n mm rn rm un kn F A) (hS : MS F A n s) : J (gM z) mX6_sameSet (d + 1) 0 [(0, .ref 0)] [] F A (qN F A fun r => r = smB n s) := by
  have hM0 := hM.1.2.1
  have hM1 := hM.2.1.2.1
  have hM2 := hM.2.2.1.2.1
  have hM3 := hM.2.2.2.1.2
  have hM4 := hM.2.2.2.2.1.2
  have L4 : ∀ (fuel : Nat) (se : Nat) (v : Nat), (v ≤ n) → (se = bsP (fun u => s.2.2 u == 2 ^ s.2.1 u) v) → n - v < fuel → J (gM z) mX6_sameSet (d + 1) 4 [(0, .ref 0), (1, .int (nI se)), (2, .int (nI v))] [] F A (qN F A fun r => r = smB n s) := by
    intro fuel
    induction fuel with
    | zero => intro se v h1 hse hf; exact absurd hf (by omega)
    | succ fuel ih4 =>
      intro se v h1 hse hf
      refine j_iload_n dX6_sameSet_4 rfl ?_
      refine j_aload_n dX6_sameSet_5 rfl ?_
      refine j_getI dX6_sameSet_6 flX6_132 (Nat.le_of_ble_eq_true rfl) rfl rfl ?_
      refine j_top (y0 := nI n) hM.2.1.1 ?_
      refine j_icmp_geN (tgt := 41) dX6_sameSet_9 (by decide) (by omega) (by omega) (fun c9 => ?_) (fun c9 => ?_)
      · refine j_iload_n dX6_sameSet_41 rfl ?_
        exact j_iret dX6_sameSet_42 rfl rfl ⟨rfl, rfl, _, rfl, by rw [hse, show v = n by omega]; rfl⟩
      · refine j_iload_n dX6_sameSet_12 rfl ?_
        refine j_aload_n dX6_sameSet_13 rfl ?_
        refine j_getR (r := 16) dX6_sameSet_14 flX6_55 (Nat.le_of_ble_eq_true rfl) rfl rfl ?_
        refine j_iload_n dX6_sameSet_17 rfl ?_
        refine j_ialdN dX6_sameSet_18 (Nat.le_of_ble_eq_true rfl) rfl (by omega) (by decide) ?_
        have hsv := hI.2 hb v (by omega)
        refine j_top (y0 := nI (s.2.2 v)) (hS.2.1 hb v (by omega)).2 ?_
        refine j_callS (y' := mX6_ones) (As := [.int (nI (s.2.2 v))]) (st := [.int (nI se)]) dX6_sameSet_19 lkX6_182 okX6_ones stX6_ones rfl (Nat.le_of_ble_eq_true rfl) (Nat.le_of_ble_eq_true rfl) (m_ones z _ (s.2.2 v) (by omega) F A) (fun v19 F19 A19 hq19 => ?_)
        obtain ⟨rfl, rfl, _, rfl, rfl⟩ := hq19
        have hpl19 := pc_le (s.2.2 v)
        refine j_iconst (v := nI 1) dX6_sameSet_22 (by decide +kernel) ?_
        refine j_icmp_neN (tgt := 32) dX6_sameSet_23 (by decide) (by omega) (by omega) (fun c23 => ?_) (fun c23 => ?_)
        · have hno : ¬ (s.2.2 v == 2 ^ s.2.1 v) = true := by rw [← one_2 _ hsv.2.1 _ hsv.1 hsv.2.2, beq_iff_eq]; exact c23
          refine j_iconst (v := nI 0) dX6_sameSet_32 (by decide +kernel) ?_
          refine j_ior dX6_sameSet_33 ?_
          refine j_top (y0 := nI (se ||| 0)) (fa_or _ _) ?_
          refine j_istore_n (lv' := [(0, .ref 0), (1, .int (nI (se ||| 0))), (2, .int (nI v))]) dX6_sameSet_34 (Nat.le_of_ble_eq_true rfl) rfl rfl ?_
          refine j_iinc (v := nI (v + 1)) (lv' := [(0, .ref 0), (1, .int (nI (se ||| 0))), (2, .int (nI (v + 1)))]) dX6_sameSet_35 rfl (nI_add _ 1) (Nat.le_of_ble_eq_true rfl) rfl rfl ?_
          refine j_goto (tgt := 4) dX6_sameSet_38 (by decide) ?_
          exact ih4 (se ||| 0) (v + 1) (by first | exact h1 | omega) (by first | (rw [Nat.or_zero, bsP_f (P := fun u => s.2.2 u == 2 ^ s.2.1 u) hno]; exact hse) | rw [bsP_t (P := fun u => s.2.2 u == 2 ^ s.2.1 u) hye, ← hse]) (by omega)
        · have hye : (s.2.2 v == 2 ^ s.2.1 v) = true := by rw [← one_2 _ hsv.2.1 _ hsv.1 hsv.2.2, beq_iff_eq]; exact c23
          refine j_iconst (v := nI 1) dX6_sameSet_26 (by decide +kernel) ?_
          refine j_iload_n dX6_sameSet_27 rfl ?_
          refine j_ishl dX6_sameSet_28 ?_
          refine j_top (y0 := nI (2 ^ v)) (shl_1 (by omega)) ?_
          refine j_goto (tgt := 33) dX6_sameSet_29 (by decide) ?_
          refine j_ior dX6_sameSet_33 ?_
          refine j_top (y0 := nI (se ||| (2 ^ v))) (fa_or _ _) ?_
          refine j_istore_n (lv' := [(0, .ref 0), (1, .int (nI (se ||| (2 ^ v)))), (2, .int (nI v))]) dX6_sameSet_34 (Nat.le_of_ble_eq_true rfl) rfl rfl ?_
          refine j_iinc (v := nI (v + 1)) (lv' := [(0, .ref 0), (1, .int (nI (se ||| (2 ^ v)))), (2, .int (nI (v + 1)))]) dX6_sameSet_35 rfl (nI_add _ 1) (Nat.le_of_ble_eq_true rfl) rfl rfl ?_
          refine j_goto (tgt := 4) dX6_sameSet_38 (by decide) ?_
          exact ih4 (se ||| (2 ^ v)) (v + 1) (by first | exact h1 | omega) (by first | (rw [Nat.or_zero, bsP_f (P := fun u => s.2.2 u == 2 ^ s.2.1 u) hno]; exact hse) | rw [bsP_t (P := fun u => s.2.2 u == 2 ^ s.2.1 u) hye, ← hse]) (by omega)
  refine j_iconst (v := nI 0) dX6_sameSet_0 (by decide +kernel) ?_
  refine j_istore_n (lv' := [(0, .ref 0), (1, .int (nI 0))]) dX6_sameSet_1 (Nat.le_of_ble_eq_true rfl) rfl rfl ?_
  refine j_iconst (v := nI 0) dX6_sameSet_2 (by decide +kernel) ?_
  refine j_istore_n (lv' := [(0, .ref 0), (1, .int (nI 0)), (2, .int (nI 0))]) dX6_sameSet_3 (Nat.le_of_ble_eq_true rfl) rfl rfl ?_
  exact L4 _ 0 0 (Nat.zero_le _) rfl (Nat.lt_succ_self _)

set_option maxHeartbeats 400000 in
set_option maxRecDepth 100000 in
theorem m_bound (z : mj_B) (d : Nat) (L : Lg) (n : Nat) (mm : Nat → Nat) (rn : Nat) (rm : Nat → Nat) (un kn : Nat) (F A : mj_S) (hM : MI L n mm rn rm un kn F A) (hw : wr n mm (L.2 5)) : J (gM z) mX6_bound (d + 2) 0 [(0, .ref 0)] [] F A (qN F A fun r => r = bdu (c0 n mm (L.2 5)) (t0 n mm (L.2 5)) (mk0 n (L.2 5)) mm n) := by
  have hM0 := hM.1.2.1
  have hM1 := hM.2.1.2.1
  have hM2 := hM.2.2.1.2.1
  have hM3 := hM.2.2.2.1.2
  have hM4 := hM.2.2.2.2.1.2
  have L4 : ∀ (fuel : Nat) (su : Nat) (u : Nat), (u ≤ n) → (su = bdu (c0 n mm (L.2 5)) (t0 n mm (L.2 5)) (mk0 n (L.2 5)) mm u) → n - u < fuel → J (gM z) mX6_bound (d + 2) 4 [(0, .ref 0), (1, .int (nI su)), (2, .int (nI u))] [] F A (qN F A fun r => r = bdu (c0 n mm (L.2 5)) (t0 n mm (L.2 5)) (mk0 n (L.2 5)) mm n) := by
    intro fuel
    induction fuel with
    | zero => intro su u h1 hsu hf; exact absurd hf (by omega)
    | succ fuel ih4 =>
      intro su u h1 hsu hf
      have hsl0 : su ≤ 1000000 := by rw [hsu]; exact bdu_le _
      refine j_iload_n dX6_bound_4 rfl ?_
      refine j_aload_n dX6_bound_5 rfl ?_
      refine j_getI dX6_bound_6 flX6_132 (Nat.le_of_ble_eq_true rfl) rfl rfl ?_
      refine j_top (y0 := nI n) hM.2.1.1 ?_
      refine j_icmp_geN (tgt := 190) dX6_bound_9 (by decide) (by omega) (by omega) (fun c9 => ?_) (fun c9 => ?_)
      · refine j_iload_n dX6_bound_190 rfl ?_
        exact j_iret dX6_bound_191 rfl rfl ⟨rfl, rfl, _, rfl, by rw [hsu, show u = n by omega]⟩
      · have h4u := hM.2.1.2.2.2.1 u
        have L68 : ∀ (fuel : Nat) (sv : Nat) (v : Nat), (v ≤ u) → (sv = bdv (t0 n mm (L.2 5)) (mk0 n (L.2 5)) mm u (cap (bdu (c0 n mm (L.2 5)) (t0 n mm (L.2 5)) (mk0 n (L.2 5)) mm u + mn (fun i => c0 n mm (L.2 5) u i) (mm u))) v) → u - v < fuel → J (gM z) mX6_bound (d + 2) 68 [(0, .ref 0), (1, .int (nI sv)), (2, .int (nI u)), (4, .int (nI v))] [] F A (qN F A fun r => r = bdu (c0 n mm (L.2 5)) (t0 n mm (L.2 5)) (mk0 n (L.2 5)) mm n) := by
          intro fuel
          induction fuel with
          | zero => intro sv v h2 hsv hf; exact absurd hf (by omega)
          | succ fuel ih68 =>
            intro sv v h2 hsv hf
            have hsl : sv ≤ 1000000 := by rw [hsv]; exact bdv_le (cap_le _) _
            refine j_iload dX6_bound_68 rfl ?_
            refine j_iload_n dX6_bound_70 rfl ?_
            refine j_icmp_geN (tgt := 184) dX6_bound_71 (by decide) (by omega) (by omega) (fun c71 => ?_) (fun c71 => ?_)
            · refine j_iinc (v := nI (u + 1)) (lv' := [(0, .ref 0), (1, .int (nI sv)), (2, .int (nI (u + 1))), (4, .int (nI v))]) dX6_bound_184 rfl (nI_add _ 1) (Nat.le_of_ble_eq_true rfl) rfl rfl ?_
              refine j_goto (tgt := 4) dX6_bound_187 (by decide) ?_
              refine j_sub [0, 1, 2] rfl ?_
              exact ih4 sv (u + 1) (by first | exact h1 | omega) (by rw [hsv, show v = u by omega]; rfl) (by omega)
            · have h4v := hM.2.1.2.2.2.1 v
              have h1v := hM.2.1.2.2.2.2 v (by omega)
              have hp16 : mm u * mm v ≤ 16 := Nat.mul_le_mul h4u h4v
              have L94 : ∀ (fuel : Nat) (le : Nat) (k : Nat), (k ≤ mm u * mm v) → ((mk0 n (L.2 5) u / 2 ^ v % 2 = 1 ∧ le = mn (fun k => t0 n mm (L.2 5) u v (k / mm v) (k % mm v)) k) ∨ (¬ mk0 n (L.2 5) u / 2 ^ v % 2 = 1 ∧ le = 0)) → mm u * mm v - k < fuel → J (gM z) mX6_bound (d + 2) 94 [(0, .ref 0), (1, .int (nI sv)), (2, .int (nI u)), (3, .int (nI le)), (4, .int (nI v)), (5, .int (nI k))] [] F A (qN F A fun r => r = bdu (c0 n mm (L.2 5)) (t0 n mm (L.2 5)) (mk0 n (L.2 5)) mm n) := by
                intro fuel
                induction fuel with
                | zero => intro le k h3 hle hf; exact absurd hf (by omega)
                | succ fuel ih94 =>
                  intro le k h3 hle hf
                  have hlb : le ≤ 1000000 := by exact hle.elim (fun q => by rw [q.2]; exact mn_le _ _) (fun q => by omega)
                  refine j_iload dX6_bound_94 rfl ?_
                  refine j_aload_n dX6_bound_96 rfl ?_
                  refine j_getR (r := 2) dX6_bound_97 flX6_13 (Nat.le_of_ble_eq_true rfl) rfl rfl ?_
                  refine j_iload_n dX6_bound_100 rfl ?_
                  refine j_ialdN dX6_bound_101 (Nat.le_of_ble_eq_true rfl) rfl (by omega) (by decide) ?_
                  refine j_top (y0 := nI (mm u)) (hM.2.1.2.2.1 _ (by omega)) ?_
                  refine j_aload_n dX6_bound_102 rfl ?_
                  refine j_getR (r := 2) dX6_bound_103 flX6_13 (Nat.le_of_ble_eq_true rfl) rfl rfl ?_
                  refine j_iload dX6_bound_106 rfl ?_
                  refine j_ialdN dX6_bound_108 (Nat.le_of_ble_eq_true rfl) rfl (by omega) (by decide) ?_
                  refine j_top (y0 := nI (mm v)) (hM.2.1.2.2.1 _ (by omega)) ?_
                  refine j_imulN dX6_bound_109 ?_
                  refine j_icmp_geN (tgt := 171) dX6_bound_110 (by decide) (by omega) (by omega) (fun c110 => ?_) (fun c110 => ?_)
                  · have hsv2 : cap (sv + le) = bdv (t0 n mm (L.2 5)) (mk0 n (L.2 5)) mm u (cap (bdu (c0 n mm (L.2 5)) (t0 n mm (L.2 5)) (mk0 n (L.2 5)) mm u + mn (fun i => c0 n mm (L.2 5) u i) (mm u))) (v + 1) := by
                      rcases hle with ⟨q1, q2⟩ | ⟨q1, q2⟩
                      · rw [bdv_t q1, ← hsv, q2, show k = mm u * mm v by omega]
                      · rw [bdv_f q1, q2, Nat.add_zero, cap_id hsl]; exact hsv
                    refine j_iload_n dX6_bound_171 rfl ?_
                    refine j_iload_n dX6_bound_172 rfl ?_
                    refine j_iaddN dX6_bound_173 ?_
                    refine j_callS (y' := mX6_atMost) (As := [.int (nI (sv + le))]) (st := []) dX6_bound_174 lkX6_191 okX6_atMost stX6_atMost rfl (Nat.le_of_ble_eq_true rfl) (Nat.le_of_ble_eq_true rfl) (m_capN z _ (sv + le) (by omega) F A) (fun v174 F174 A174 hq174 => ?_)
                    obtain ⟨rfl, rfl, _, rfl, rfl⟩ := hq174
                    have hcp1 := cap_le (sv + le)
                    refine j_istore_n (lv' := [(0, .ref 0), (1, .int (nI (cap (sv + le)))), (2, .int (nI u)), (3, .int (nI le)), (4, .int (nI v)), (5, .int (nI k))]) dX6_bound_177 (Nat.le_of_ble_eq_true rfl) rfl rfl ?_
                    refine j_iinc (v := nI (v + 1)) (lv' := [(0, .ref 0), (1, .int (nI (cap (sv + le)))), (2, .int (nI u)), (3, .int (nI le)), (4, .int (nI (v + 1))), (5, .int (nI k))]) dX6_bound_178 rfl (nI_add _ 1) (Nat.le_of_ble_eq_true rfl) rfl rfl ?_
                    refine j_goto (tgt := 68) dX6_bound_181 (by decide) ?_
                    refine j_sub [0, 1, 2, 4] rfl ?_
                    exact ih68 (cap (sv + le)) (v + 1) (by first | exact h2 | omega) hsv2 (by omega)
                  · have hd1 : k / mm v < mm u := Nat.div_lt_of_lt_mul (by rw [Nat.mul_comm]; exact c110)
                    have hd2 : k % mm v < mm v := Nat.mod_lt _ (by omega)
                    refine j_aload_n dX6_bound_113 rfl ?_
                    refine j_iload_n dX6_bound_114 rfl ?_
                    refine j_iload dX6_bound_115 rfl ?_
                    refine j_callV (y' := mX6_isTied) (As := [.int (nI u), .int (nI v)]) (st := []) dX6_bound_117 lkX6_146 okX6_isTied imX6_isTied seX6_isTied (Nat.le_of_ble_eq_true rfl) rfl rfl rfl rfl (Nat.le_of_ble_eq_true rfl) (Nat.le_of_ble_eq_true rfl) (m_isTied z _ u v (by omega) (by omega) F A) (fun v117 F117 A117 hq117 => ?_)
                    obtain ⟨rfl, rfl, r117, rfl, hr117⟩ := hq117
                    have hb117 : r117 ≤ 1 := by omega
                    refine j_if_eqN (tgt := 171) dX6_bound_120 (by decide) (by omega) (fun c120 => ?_) (fun c120 => ?_)
                    · have hnt : ¬ mk0 n (L.2 5) u / 2 ^ v % 2 = 1 := fun q => (hr117.resolve_left (fun h => by omega)).2 (by have q2 := tdd_inv ((mk0_bt hw).mp q).2.2; rw [hM.1.2.2.2.1]; exact q2)
                      have hsv2 : cap (sv + le) = bdv (t0 n mm (L.2 5)) (mk0 n (L.2 5)) mm u (cap (bdu (c0 n mm (L.2 5)) (t0 n mm (L.2 5)) (mk0 n (L.2 5)) mm u + mn (fun i => c0 n mm (L.2 5) u i) (mm u))) (v + 1) := by rw [bdv_f hnt, (hle.resolve_left (fun q => hnt q.1)).2, Nat.add_zero, cap_id hsl]; exact hsv
                      refine j_iload_n dX6_bound_171 rfl ?_
                      refine j_iload_n dX6_bound_172 rfl ?_
                      refine j_iaddN dX6_bound_173 ?_
                      refine j_callS (y' := mX6_atMost) (As := [.int (nI (sv + le))]) (st := []) dX6_bound_174 lkX6_191 okX6_atMost stX6_atMost rfl (Nat.le_of_ble_eq_true rfl) (Nat.le_of_ble_eq_true rfl) (m_capN z _ (sv + le) (by omega) F A) (fun v174 F174 A174 hq174 => ?_)
                      obtain ⟨rfl, rfl, _, rfl, rfl⟩ := hq174
                      have hcp2 := cap_le (sv + le)
                      refine j_istore_n (lv' := [(0, .ref 0), (1, .int (nI (cap (sv + le)))), (2, .int (nI u)), (3, .int (nI le)), (4, .int (nI v)), (5, .int (nI k))]) dX6_bound_177 (Nat.le_of_ble_eq_true rfl) rfl rfl ?_
                      refine j_iinc (v := nI (v + 1)) (lv' := [(0, .ref 0), (1, .int (nI (cap (sv + le)))), (2, .int (nI u)), (3, .int (nI le)), (4, .int (nI (v + 1))), (5, .int (nI k))]) dX6_bound_178 rfl (nI_add _ 1) (Nat.le_of_ble_eq_true rfl) rfl rfl ?_
                      refine j_goto (tgt := 68) dX6_bound_181 (by decide) ?_
                      refine j_sub [0, 1, 2, 4] rfl ?_
                      exact ih68 (cap (sv + le)) (v + 1) (by first | exact h2 | omega) hsv2 (by omega)
                    · have htd := (hr117.resolve_right (fun h => by omega)).2
                      rw [hM.1.2.2.2.1] at htd
                      have htt : tdd (L.2 5) u v = 1 := tdd_1 htd.1 htd.2
                      have hbt : mk0 n (L.2 5) u / 2 ^ v % 2 = 1 := (mk0_bt hw).mpr ⟨by omega, by omega, htt⟩
                      refine j_aload_n dX6_bound_123 rfl ?_
                      refine j_iload_n dX6_bound_124 rfl ?_
                      refine j_iload dX6_bound_125 rfl ?_
                      refine j_iload dX6_bound_127 rfl ?_
                      refine j_aload_n dX6_bound_129 rfl ?_
                      refine j_getR (r := 2) dX6_bound_130 flX6_13 (Nat.le_of_ble_eq_true rfl) rfl rfl ?_
                      refine j_iload dX6_bound_133 rfl ?_
                      refine j_ialdN dX6_bound_135 (Nat.le_of_ble_eq_true rfl) rfl (by omega) (by decide) ?_
                      refine j_top (y0 := nI (mm v)) (hM.2.1.2.2.1 _ (by omega)) ?_
                      refine j_idivN dX6_bound_136 (by omega) (by omega) (by omega) ?_
                      refine j_iload dX6_bound_137 rfl ?_
                      refine j_aload_n dX6_bound_139 rfl ?_
                      refine j_getR (r := 2) dX6_bound_140 flX6_13 (Nat.le_of_ble_eq_true rfl) rfl rfl ?_
                      refine j_iload dX6_bound_143 rfl ?_
                      refine j_ialdN dX6_bound_145 (Nat.le_of_ble_eq_true rfl) rfl (by omega) (by decide) ?_
                      refine j_top (y0 := nI (mm v)) (hM.2.1.2.2.1 _ (by omega)) ?_
                      refine j_iremN dX6_bound_146 (by omega) (by omega) (by omega) ?_
                      refine j_callV (y' := mX6_tieOf) (As := [.int (nI u), .int (nI v), .int (nI (k / (mm v))), .int (nI (k % (mm v)))]) (st := []) dX6_bound_147 lkX6_162 okX6_tieOf imX6_tieOf seX6_tieOf (Nat.le_of_ble_eq_true rfl) rfl rfl rfl rfl (Nat.le_of_ble_eq_true rfl) (Nat.le_of_ble_eq_true rfl) (m_tieOf z _ u v (k / (mm v)) (k % (mm v)) F A n mm (by rw [hM.1.2.2.2.1]; exact hw) (by omega) (by omega) htd.1 (by omega) (by omega) (by rw [hM.1.2.2.2.1]; exact htd.2)) (fun v147 F147 A147 hq147 => ?_)
                      obtain ⟨rfl, rfl, r147, rfl, hr147⟩ := hq147
                      rw [hM.1.2.2.2.1] at hr147
                      have hb147 : r147 ≤ 1000000 := by rw [hr147]; exact tcs_le hw (by omega) (by omega) htd.1 (by omega) (by omega) htd.2
                      have ht0 : t0 n mm (L.2 5) u v (k / mm v) (k % mm v) = r147 := (if_pos ⟨by omega, by omega, hd1, hd2, htt⟩).trans hr147.symm
                      refine j_istore (lv' := [(0, .ref 0), (1, .int (nI sv)), (2, .int (nI u)), (3, .int (nI le)), (4, .int (nI v)), (5, .int (nI k)), (6, .int (nI r147))]) dX6_bound_150 (Nat.le_of_ble_eq_true rfl) rfl rfl ?_
                      refine j_iload dX6_bound_152 rfl ?_
                      refine j_iload_n dX6_bound_154 rfl ?_
                      refine j_icmp_geN (tgt := 163) dX6_bound_155 (by decide) (by omega) (by omega) (fun c155 => ?_) (fun c155 => ?_)
                      · have hle2 := (hle.resolve_right (fun q => q.1 hbt)).2
                        have hst := mn_f (f := (fun k => t0 n mm (L.2 5) u v (k / mm v) (k % mm v))) (k := k) (by show ¬ t0 n mm (L.2 5) u v (k / mm v) (k % mm v) < _; rw [← hle2, ht0]; omega)
                        refine j_iload_n dX6_bound_163 rfl ?_
                        refine j_istore_n (lv' := [(0, .ref 0), (1, .int (nI sv)), (2, .int (nI u)), (3, .int (nI le)), (4, .int (nI v)), (5, .int (nI k)), (6, .int (nI r147))]) dX6_bound_164 (Nat.le_of_ble_eq_true rfl) rfl rfl ?_
                        refine j_iinc (v := nI (k + 1)) (lv' := [(0, .ref 0), (1, .int (nI sv)), (2, .int (nI u)), (3, .int (nI le)), (4, .int (nI v)), (5, .int (nI (k + 1))), (6, .int (nI r147))]) dX6_bound_165 rfl (nI_add _ 1) (Nat.le_of_ble_eq_true rfl) rfl rfl ?_
                        refine j_goto (tgt := 94) dX6_bound_168 (by decide) ?_
                        refine j_sub [0, 1, 2, 3, 4, 5] rfl ?_
                        exact ih94 le (k + 1) (by first | exact h3 | omega) (Or.inl ⟨hbt, by rw [hst]; first | exact hle2 | exact ht0.symm⟩) (by omega)
                      · have hle2 := (hle.resolve_right (fun q => q.1 hbt)).2
                        have hst := mn_t (f := (fun k => t0 n mm (L.2 5) u v (k / mm v) (k % mm v))) (k := k) (by show t0 n mm (L.2 5) u v (k / mm v) (k % mm v) < _; rw [← hle2, ht0]; omega)
                        refine j_iload dX6_bound_158 rfl ?_
                        refine j_goto (tgt := 164) dX6_bound_160 (by decide) ?_
                        refine j_istore_n (lv' := [(0, .ref 0), (1, .int (nI sv)), (2, .int (nI u)), (3, .int (nI r147)), (4, .int (nI v)), (5, .int (nI k)), (6, .int (nI r147))]) dX6_bound_164 (Nat.le_of_ble_eq_true rfl) rfl rfl ?_
                        refine j_iinc (v := nI (k + 1)) (lv' := [(0, .ref 0), (1, .int (nI sv)), (2, .int (nI u)), (3, .int (nI r147)), (4, .int (nI v)), (5, .int (nI (k + 1))), (6, .int (nI r147))]) dX6_bound_165 rfl (nI_add _ 1) (Nat.le_of_ble_eq_true rfl) rfl rfl ?_
                        refine j_goto (tgt := 94) dX6_bound_168 (by decide) ?_
                        refine j_sub [0, 1, 2, 3, 4, 5] rfl ?_
                        exact ih94 r147 (k + 1) (by first | exact h3 | omega) (Or.inl ⟨hbt, by rw [hst]; first | exact hle2 | exact ht0.symm⟩) (by omega)
              refine j_aload_n dX6_bound_74 rfl ?_
              refine j_iload_n dX6_bound_75 rfl ?_
              refine j_iload dX6_bound_76 rfl ?_
              refine j_callV (y' := mX6_isTied) (As := [.int (nI u), .int (nI v)]) (st := []) dX6_bound_78 lkX6_146 okX6_isTied imX6_isTied seX6_isTied (Nat.le_of_ble_eq_true rfl) rfl rfl rfl rfl (Nat.le_of_ble_eq_true rfl) (Nat.le_of_ble_eq_true rfl) (m_isTied z _ u v (by omega) (by omega) F A) (fun v78 F78 A78 hq78 => ?_)
              obtain ⟨rfl, rfl, r78, rfl, hr78⟩ := hq78
              have hb78 : r78 ≤ 1 := by omega
              refine j_if_eqN (tgt := 89) dX6_bound_81 (by decide) (by omega) (fun c81 => ?_) (fun c81 => ?_)
              · have hnt : ¬ mk0 n (L.2 5) u / 2 ^ v % 2 = 1 := fun q => (hr78.resolve_left (fun h => by omega)).2 (by have q2 := tdd_inv ((mk0_bt hw).mp q).2.2; rw [hM.1.2.2.2.1]; exact q2)
                refine j_iconst (v := nI 0) dX6_bound_89 (by decide +kernel) ?_
                refine j_istore_n (lv' := [(0, .ref 0), (1, .int (nI sv)), (2, .int (nI u)), (4, .int (nI v)), (3, .int (nI 0))]) dX6_bound_90 (Nat.le_of_ble_eq_true rfl) rfl rfl ?_
                refine j_iconst (v := nI 0) dX6_bound_91 (by decide +kernel) ?_
                refine j_istore (lv' := [(0, .ref 0), (1, .int (nI sv)), (2, .int (nI u)), (4, .int (nI v)), (3, .int (nI 0)), (5, .int (nI 0))]) dX6_bound_92 (Nat.le_of_ble_eq_true rfl) rfl rfl ?_
                refine j_sub [0, 1, 2, 4, 3, 5] rfl ?_
                exact L94 _ 0 0 (Nat.zero_le _) (by first | exact Or.inl ⟨hbt, rfl⟩ | exact Or.inr ⟨hnt, rfl⟩) (Nat.lt_succ_self _)
              · have htd := (hr78.resolve_right (fun h => by omega)).2
                rw [hM.1.2.2.2.1] at htd
                have htt : tdd (L.2 5) u v = 1 := tdd_1 htd.1 htd.2
                have hbt : mk0 n (L.2 5) u / 2 ^ v % 2 = 1 := (mk0_bt hw).mpr ⟨by omega, by omega, htt⟩
                refine j_ldc dX6_bound_84 kcX6_145 ?_
                refine j_top (y0 := nI 1000000) (by decide +kernel) ?_
                refine j_goto (tgt := 90) dX6_bound_86 (by decide) ?_
                refine j_istore_n (lv' := [(0, .ref 0), (1, .int (nI sv)), (2, .int (nI u)), (4, .int (nI v)), (3, .int (nI 1000000))]) dX6_bound_90 (Nat.le_of_ble_eq_true rfl) rfl rfl ?_
                refine j_iconst (v := nI 0) dX6_bound_91 (by decide +kernel) ?_
                refine j_istore (lv' := [(0, .ref 0), (1, .int (nI sv)), (2, .int (nI u)), (4, .int (nI v)), (3, .int (nI 1000000)), (5, .int (nI 0))]) dX6_bound_92 (Nat.le_of_ble_eq_true rfl) rfl rfl ?_
                refine j_sub [0, 1, 2, 4, 3, 5] rfl ?_
                exact L94 _ 1000000 0 (Nat.zero_le _) (by first | exact Or.inl ⟨hbt, rfl⟩ | exact Or.inr ⟨hnt, rfl⟩) (Nat.lt_succ_self _)
        have L18 : ∀ (fuel : Nat) (le : Nat) (i : Nat), (i ≤ mm u) → (le = mn (fun i => c0 n mm (L.2 5) u i) i) → mm u - i < fuel → J (gM z) mX6_bound (d + 2) 18 [(0, .ref 0), (1, .int (nI su)), (2, .int (nI u)), (3, .int (nI le)), (4, .int (nI i))] [] F A (qN F A fun r => r = bdu (c0 n mm (L.2 5)) (t0 n mm (L.2 5)) (mk0 n (L.2 5)) mm n) := by
          intro fuel
          induction fuel with
          | zero => intro le i h2 hle hf; exact absurd hf (by omega)
          | succ fuel ih18 =>
            intro le i h2 hle hf
            have hlb : le ≤ 1000000 := by rw [hle]; exact mn_le _ _
            refine j_iload dX6_bound_18 rfl ?_
            refine j_aload_n dX6_bound_20 rfl ?_
            refine j_getR (r := 2) dX6_bound_21 flX6_13 (Nat.le_of_ble_eq_true rfl) rfl rfl ?_
            refine j_iload_n dX6_bound_24 rfl ?_
            refine j_ialdN dX6_bound_25 (Nat.le_of_ble_eq_true rfl) rfl (by omega) (by decide) ?_
            refine j_top (y0 := nI (mm u)) (hM.2.1.2.2.1 _ (by omega)) ?_
            refine j_icmp_geN (tgt := 58) dX6_bound_26 (by decide) (by omega) (by omega) (fun c26 => ?_) (fun c26 => ?_)
            · refine j_iload_n dX6_bound_58 rfl ?_
              refine j_iload_n dX6_bound_59 rfl ?_
              refine j_iaddN dX6_bound_60 ?_
              refine j_callS (y' := mX6_atMost) (As := [.int (nI (su + le))]) (st := []) dX6_bound_61 lkX6_191 okX6_atMost stX6_atMost rfl (Nat.le_of_ble_eq_true rfl) (Nat.le_of_ble_eq_true rfl) (m_capN z _ (su + le) (by omega) F A) (fun v61 F61 A61 hq61 => ?_)
              obtain ⟨rfl, rfl, _, rfl, rfl⟩ := hq61
              have hcp3 := cap_le (su + le)
              refine j_istore_n (lv' := [(0, .ref 0), (1, .int (nI (cap (su + le)))), (2, .int (nI u)), (3, .int (nI le)), (4, .int (nI i))]) dX6_bound_64 (Nat.le_of_ble_eq_true rfl) rfl rfl ?_
              refine j_iconst (v := nI 0) dX6_bound_65 (by decide +kernel) ?_
              refine j_istore (lv' := [(0, .ref 0), (1, .int (nI (cap (su + le)))), (2, .int (nI u)), (3, .int (nI le)), (4, .int (nI 0))]) dX6_bound_66 (Nat.le_of_ble_eq_true rfl) rfl rfl ?_
              refine j_sub [0, 1, 2, 4] rfl ?_
              exact L68 _ (cap (su + le)) 0 (Nat.zero_le _) (by rw [hle, hsu, show i = mm u by omega]; rfl) (Nat.lt_succ_self _)
            · refine j_aload_n dX6_bound_29 rfl ?_
              refine j_iload_n dX6_bound_30 rfl ?_
              refine j_iload dX6_bound_31 rfl ?_
              refine j_callV (y' := mX6_costOf) (As := [.int (nI u), .int (nI i)]) (st := []) dX6_bound_33 lkX6_158 okX6_costOf imX6_costOf seX6_costOf (Nat.le_of_ble_eq_true rfl) rfl rfl rfl rfl (Nat.le_of_ble_eq_true rfl) (Nat.le_of_ble_eq_true rfl) (m_costOf z _ u i F A n mm (by rw [hM.1.2.2.2.1]; exact hw) (by omega) (by omega)) (fun v33 F33 A33 hq33 => ?_)
              obtain ⟨rfl, rfl, r33, rfl, hr33⟩ := hq33
              rw [hM.1.2.2.2.1] at hr33
              have hb33 : r33 ≤ 1000000 := by rw [hr33]; exact cst_le hw (by omega) (by omega)
              have hc33 : c0 n mm (L.2 5) u i = r33 := (if_pos ⟨by omega, by omega⟩).trans hr33.symm
              refine j_iload_n dX6_bound_36 rfl ?_
              refine j_icmp_geN (tgt := 50) dX6_bound_37 (by decide) (by omega) (by omega) (fun c37 => ?_) (fun c37 => ?_)
              · refine j_iload_n dX6_bound_50 rfl ?_
                refine j_istore_n (lv' := [(0, .ref 0), (1, .int (nI su)), (2, .int (nI u)), (3, .int (nI le)), (4, .int (nI i))]) dX6_bound_51 (Nat.le_of_ble_eq_true rfl) rfl rfl ?_
                refine j_iinc (v := nI (i + 1)) (lv' := [(0, .ref 0), (1, .int (nI su)), (2, .int (nI u)), (3, .int (nI le)), (4, .int (nI (i + 1)))]) dX6_bound_52 rfl (nI_add _ 1) (Nat.le_of_ble_eq_true rfl) rfl rfl ?_
                refine j_goto (tgt := 18) dX6_bound_55 (by decide) ?_
                exact ih18 le (i + 1) (by first | exact h2 | omega) (by first | exact hle.trans (mn_f (f := (fun i => c0 n mm (L.2 5) u i)) (by show ¬ c0 n mm (L.2 5) u i < _; rw [← hle, hc33]; omega)).symm | (rw [mn_t (f := (fun i => c0 n mm (L.2 5) u i)) (by show c0 n mm (L.2 5) u i < _; rw [← hle, hc33]; omega)]; exact hc44.symm)) (by omega)
              · refine j_aload_n dX6_bound_40 rfl ?_
                refine j_iload_n dX6_bound_41 rfl ?_
                refine j_iload dX6_bound_42 rfl ?_
                refine j_callV (y' := mX6_costOf) (As := [.int (nI u), .int (nI i)]) (st := []) dX6_bound_44 lkX6_158 okX6_costOf imX6_costOf seX6_costOf (Nat.le_of_ble_eq_true rfl) rfl rfl rfl rfl (Nat.le_of_ble_eq_true rfl) (Nat.le_of_ble_eq_true rfl) (m_costOf z _ u i F A n mm (by rw [hM.1.2.2.2.1]; exact hw) (by omega) (by omega)) (fun v44 F44 A44 hq44 => ?_)
                obtain ⟨rfl, rfl, r44, rfl, hr44⟩ := hq44
                rw [hM.1.2.2.2.1] at hr44
                have hb44 : r44 ≤ 1000000 := by rw [hr44]; exact cst_le hw (by omega) (by omega)
                have hc44 : c0 n mm (L.2 5) u i = r44 := (if_pos ⟨by omega, by omega⟩).trans hr44.symm
                refine j_goto (tgt := 51) dX6_bound_47 (by decide) ?_
                refine j_istore_n (lv' := [(0, .ref 0), (1, .int (nI su)), (2, .int (nI u)), (3, .int (nI r44)), (4, .int (nI i))]) dX6_bound_51 (Nat.le_of_ble_eq_true rfl) rfl rfl ?_
                refine j_iinc (v := nI (i + 1)) (lv' := [(0, .ref 0), (1, .int (nI su)), (2, .int (nI u)), (3, .int (nI r44)), (4, .int (nI (i + 1)))]) dX6_bound_52 rfl (nI_add _ 1) (Nat.le_of_ble_eq_true rfl) rfl rfl ?_
                refine j_goto (tgt := 18) dX6_bound_55 (by decide) ?_
                exact ih18 r44 (i + 1) (by first | exact h2 | omega) (by first | exact hle.trans (mn_f (f := (fun i => c0 n mm (L.2 5) u i)) (by show ¬ c0 n mm (L.2 5) u i < _; rw [← hle, hc33]; omega)).symm | (rw [mn_t (f := (fun i => c0 n mm (L.2 5) u i)) (by show c0 n mm (L.2 5) u i < _; rw [← hle, hc33]; omega)]; exact hc44.symm)) (by omega)
        refine j_ldc dX6_bound_12 kcX6_145 ?_
        refine j_top (y0 := nI 1000000) (by decide +kernel) ?_
        refine j_istore_n (lv' := [(0, .ref 0), (1, .int (nI su)), (2, .int (nI u)), (3, .int (nI 1000000))]) dX6_bound_14 (Nat.le_of_ble_eq_true rfl) rfl rfl ?_
        refine j_iconst (v := nI 0) dX6_bound_15 (by decide +kernel) ?_
        refine j_istore (lv' := [(0, .ref 0), (1, .int (nI su)), (2, .int (nI u)), (3, .int (nI 1000000)), (4, .int (nI 0))]) dX6_bound_16 (Nat.le_of_ble_eq_true rfl) rfl rfl ?_
        exact L18 _ 1000000 0 (Nat.zero_le _) rfl (Nat.lt_succ_self _)
  refine j_iconst (v := nI 0) dX6_bound_0 (by decide +kernel) ?_
  refine j_istore_n (lv' := [(0, .ref 0), (1, .int (nI 0))]) dX6_bound_1 (Nat.le_of_ble_eq_true rfl) rfl rfl ?_
  refine j_iconst (v := nI 0) dX6_bound_2 (by decide +kernel) ?_
  refine j_istore_n (lv' := [(0, .ref 0), (1, .int (nI 0)), (2, .int (nI 0))]) dX6_bound_3 (Nat.le_of_ble_eq_true rfl) rfl rfl ?_
  exact L4 _ 0 0 (Nat.zero_le _) rfl (Nat.lt_succ_self _)

set_option maxHeartbeats 400000 in
set_option maxRecDepth 100000 in
theorem m_least (z : mj_B) (d : Nat) (L : Lg) (n : Nat) (mm : Nat → Nat) (rn : Nat) (rm : Nat → Nat) (un kn : Nat) (x1 : Int32) (F A : mj_S) (hM : MI L n mm rn rm un kn F A) (hw : wr n mm (L.2 5)) : J (gM z) mX6_least (d + 4) 0 [(0, .ref 0), (1, .int x1)] [] F A (fun v F' A' => v = some (.int (lsAns n mm (L.2 5) x1)) ∧ MI L n mm rn rm un kn F' A') := by
  have hM0 := hM.1.2.1
  have hM1 := hM.2.1.2.1
  have hM2 := hM.2.2.1.2.1
  have hM3 := hM.2.2.2.1.2
  have hM4 := hM.2.2.2.2.1.2
  refine j_iload_n dX6_least_0 rfl ?_
  refine j_i2l dX6_least_1 rfl ?_
  refine j_lconst (v := 0) dX6_least_2 rfl ?_
  refine j_ldc2 dX6_least_3 klX6_239 ?_
  refine j_callS (y' := mX6_in) (As := [.long (x1.toInt64), .long (0), .long ((4))]) (st := []) dX6_least_6 lkX6_89 okX6_in stX6_in rfl (Nat.le_of_ble_eq_true rfl) (Nat.le_of_ble_eq_true rfl) (m_in z _ x1.toInt64 0 (4) F A) (fun v6 F6 A6 hq6 => ?_)
  obtain ⟨rfl, rfl, r6, rfl, hr6⟩ := hq6
  have hb6 : r6 ≤ 1 := by omega
  rw [in64 0 4 (by decide +kernel) (by decide +kernel)] at hr6
  refine j_if_neN (tgt := 14) dX6_least_9 (by decide) (by omega) (fun c9 => ?_) (fun c9 => ?_)
  · obtain ⟨k, hk4, rfl⟩ := in04 (hr6.resolve_right (fun h => by omega)).2
    refine j_iload_n dX6_least_14 rfl ?_
    refine j_iconst (v := nI 4) dX6_least_15 (by decide +kernel) ?_
    refine j_icmp_neN (tgt := 24) dX6_least_16 (by decide) (by omega) (by omega) (fun c16 => ?_) (fun c16 => ?_)
    · refine j_aload_n dX6_least_24 rfl ?_
      refine j_bipush (v := (-4)) dX6_least_25 (by decide +kernel) ?_
      refine j_iconst (v := nI 0) dX6_least_27 (by decide +kernel) ?_
      refine j_callV (y' := mX6_goAll) (As := [.int ((-4)), .int (nI 0)]) (st := []) dX6_least_28 lkX6_244 okX6_goAll imX6_goAll seX6_goAll (Nat.le_of_ble_eq_true rfl) rfl rfl rfl rfl (Nat.le_of_ble_eq_true rfl) (Nat.le_of_ble_eq_true rfl) (m_goAll z _ _ _ _ _ _ _ _ (-4) (nI 0) (fS (c0 n mm (L.2 5)) (t0 n mm (L.2 5)) (mk0 n (L.2 5)) n) fS_ok (Or.inl ⟨rfl, rfl⟩) F A hM hw) (fun v28 F28 A28 hq28 => ?_)
      obtain ⟨rfl, hM, hMS⟩ := hq28
      rw [← sea_itr] at hMS
      have hSI : SI n (srS n mm (L.2 5)) := SI_sea (fun v _ => hM.2.1.2.2.2.1 v)
      have hWy : (srS n mm (L.2 5)).1.2.2 ≤ 65536 := sea_ways hM1 (fun v _ => hM.2.1.2.2.2.1 v)
      have hMS : MS F28 A28 n (srS n mm (L.2 5)) := hMS
      have hbn := hSI.bn
      refine j_aload_n dX6_least_31 rfl ?_
      refine j_getI dX6_least_32 flX6_227 (Nat.le_of_ble_eq_true rfl) rfl rfl ?_
      refine j_top (y0 := nI ((srS n mm (L.2 5)).1.1)) hMS.1.1 ?_
      refine j_ldc dX6_least_35 kcX6_145 ?_
      refine j_top (y0 := nI 1000000) (by decide +kernel) ?_
      refine j_icmp_neN (tgt := 44) dX6_least_37 (by decide) (by omega) (by omega) (fun c37 => ?_) (fun c37 => ?_)
      · have hb6 : (srS n mm (L.2 5)).1.1 < 1000000 := by omega
        have hSw : 1 ≤ (srS n mm (L.2 5)).1.2.2 := by have := hSI.1.2; omega
        refine j_iconst (v := nI 0) dX6_least_44 (by decide +kernel) ?_
        refine j_istore_n (lv' := [(0, .ref 0), (1, .int (nI k)), (2, .int (nI 0))]) dX6_least_45 (Nat.le_of_ble_eq_true rfl) rfl rfl ?_
        refine j_iload_n dX6_least_46 rfl ?_
        refine j_if_neN (tgt := 57) dX6_least_47 (by decide) (by omega) (fun c47 => ?_) (fun c47 => ?_)
        · refine j_iload_n dX6_least_57 rfl ?_
          refine j_iconst (v := nI 1) dX6_least_58 (by decide +kernel) ?_
          refine j_icmp_neN (tgt := 69) dX6_least_59 (by decide) (by omega) (by omega) (fun c59 => ?_) (fun c59 => ?_)
          · refine j_iload_n dX6_least_69 rfl ?_
            refine j_iconst (v := nI 2) dX6_least_70 (by decide +kernel) ?_
            refine j_icmp_neN (tgt := 90) dX6_least_71 (by decide) (by omega) (by omega) (fun c71 => ?_) (fun c71 => ?_)
            · refine j_iload_n dX6_least_90 rfl ?_
              refine j_if_neN (tgt := 103) dX6_least_91 (by decide) (by omega) (fun c91 => ?_) (fun c91 => ?_)
              · exfalso; omega
              · refine j_aload_n dX6_least_94 rfl ?_
                refine j_getI dX6_least_95 flX6_233 (Nat.le_of_ble_eq_true rfl) rfl rfl ?_
                refine j_top (y0 := nI ((srS n mm (L.2 5)).1.2.1)) hMS.1.2.1 ?_
                refine j_ldc dX6_least_98 kcX6_145 ?_
                refine j_top (y0 := nI 1000000) (by decide +kernel) ?_
                refine j_icmp_neN (tgt := 108) dX6_least_100 (by decide) (by omega) (by omega) (fun c100 => ?_) (fun c100 => ?_)
                · have hans : lsAns n mm (L.2 5) (nI k) = nI (srS n mm (L.2 5)).1.2.1 := by rw [lsAns_k hk4, show k = 3 by omega]; exact if_neg c100
                  refine j_aload_n dX6_least_108 rfl ?_
                  refine j_getI dX6_least_109 flX6_233 (Nat.le_of_ble_eq_true rfl) rfl rfl ?_
                  refine j_top (y0 := nI ((srS n mm (L.2 5)).1.2.1)) hMS.1.2.1 ?_
                  exact j_iret dX6_least_112 rfl rfl ⟨by rw [hans], hM⟩
                · have hans : lsAns n mm (L.2 5) (nI k) = -4 := by rw [lsAns_k hk4, show k = 3 by omega]; exact if_pos c100
                  refine j_bipush (v := (-4)) dX6_least_103 (by decide +kernel) ?_
                  refine j_goto (tgt := 112) dX6_least_105 (by decide) ?_
                  exact j_iret dX6_least_112 rfl rfl ⟨by rw [hans], hM⟩
            · refine j_iload_n dX6_least_74 rfl ?_
              refine j_if_eqN (tgt := 83) dX6_least_75 (by decide) (by omega) (fun c75 => ?_) (fun c75 => ?_)
              · refine j_aload_n dX6_least_83 rfl ?_
                refine j_callV (y' := mX6_sameSet) (As := []) (st := []) dX6_least_84 lkX6_247 okX6_sameSet imX6_sameSet seX6_sameSet (Nat.le_of_ble_eq_true rfl) rfl rfl rfl rfl (Nat.le_of_ble_eq_true rfl) (Nat.le_of_ble_eq_true rfl) (m_sameSet z _ _ _ _ _ _ _ _ (srS n mm (L.2 5)) hSI (by omega) F28 A28 hM hMS) (fun v84 F84 A84 hq84 => ?_)
                obtain ⟨rfl, rfl, r84, rfl, hr84⟩ := hq84
                have hans : lsAns n mm (L.2 5) (nI k) = nI r84 := by rw [lsAns_k hk4, hr84, show k = 2 by omega]; exact if_neg (show ¬ (srS n mm (L.2 5)).1.2.2 = 0 by omega)
                refine j_goto (tgt := 112) dX6_least_87 (by decide) ?_
                exact j_iret dX6_least_112 rfl rfl ⟨by rw [hans], hM⟩
              · exfalso; omega
          · have hans : lsAns n mm (L.2 5) (nI k) = nI (srS n mm (L.2 5)).1.2.2 := by rw [lsAns_k hk4, show k = 1 by omega]; rfl
            refine j_aload_n dX6_least_62 rfl ?_
            refine j_getI dX6_least_63 flX6_230 (Nat.le_of_ble_eq_true rfl) rfl rfl ?_
            refine j_top (y0 := nI ((srS n mm (L.2 5)).1.2.2)) hMS.1.2.2 ?_
            refine j_goto (tgt := 112) dX6_least_66 (by decide) ?_
            exact j_iret dX6_least_112 rfl rfl ⟨by rw [hans], hM⟩
        · have hans : lsAns n mm (L.2 5) (nI k) = nI (srS n mm (L.2 5)).1.1 := by rw [lsAns_k hk4, show k = 0 by omega]; rfl
          refine j_aload_n dX6_least_50 rfl ?_
          refine j_getI dX6_least_51 flX6_227 (Nat.le_of_ble_eq_true rfl) rfl rfl ?_
          refine j_top (y0 := nI ((srS n mm (L.2 5)).1.1)) hMS.1.1 ?_
          refine j_goto (tgt := 112) dX6_least_54 (by decide) ?_
          exact j_iret dX6_least_112 rfl rfl ⟨by rw [hans], hM⟩
      · have hSz : (srS n mm (L.2 5)).1.2.2 = 0 ∧ (srS n mm (L.2 5)).1.2.1 = 1000000 := by have := hSI.1.2; omega
        refine j_iconst (v := nI 1) dX6_least_40 (by decide +kernel) ?_
        refine j_goto (tgt := 45) dX6_least_41 (by decide) ?_
        refine j_istore_n (lv' := [(0, .ref 0), (1, .int (nI k)), (2, .int (nI 1))]) dX6_least_45 (Nat.le_of_ble_eq_true rfl) rfl rfl ?_
        refine j_iload_n dX6_least_46 rfl ?_
        refine j_if_neN (tgt := 57) dX6_least_47 (by decide) (by omega) (fun c47 => ?_) (fun c47 => ?_)
        · refine j_iload_n dX6_least_57 rfl ?_
          refine j_iconst (v := nI 1) dX6_least_58 (by decide +kernel) ?_
          refine j_icmp_neN (tgt := 69) dX6_least_59 (by decide) (by omega) (by omega) (fun c59 => ?_) (fun c59 => ?_)
          · refine j_iload_n dX6_least_69 rfl ?_
            refine j_iconst (v := nI 2) dX6_least_70 (by decide +kernel) ?_
            refine j_icmp_neN (tgt := 90) dX6_least_71 (by decide) (by omega) (by omega) (fun c71 => ?_) (fun c71 => ?_)
            · refine j_iload_n dX6_least_90 rfl ?_
              refine j_if_neN (tgt := 103) dX6_least_91 (by decide) (by omega) (fun c91 => ?_) (fun c91 => ?_)
              · have hans : lsAns n mm (L.2 5) (nI k) = -4 := by rw [lsAns_k hk4, show k = 3 by omega]; exact if_pos hSz.2
                refine j_bipush (v := (-4)) dX6_least_103 (by decide +kernel) ?_
                refine j_goto (tgt := 112) dX6_least_105 (by decide) ?_
                exact j_iret dX6_least_112 rfl rfl ⟨by rw [hans], hM⟩
              · exfalso; omega
            · refine j_iload_n dX6_least_74 rfl ?_
              refine j_if_eqN (tgt := 83) dX6_least_75 (by decide) (by omega) (fun c75 => ?_) (fun c75 => ?_)
              · exfalso; omega
              · have hans : lsAns n mm (L.2 5) (nI k) = -4 := by rw [lsAns_k hk4, show k = 2 by omega]; exact if_pos hSz.1
                refine j_bipush (v := (-4)) dX6_least_78 (by decide +kernel) ?_
                refine j_goto (tgt := 112) dX6_least_80 (by decide) ?_
                exact j_iret dX6_least_112 rfl rfl ⟨by rw [hans], hM⟩
          · have hans : lsAns n mm (L.2 5) (nI k) = nI (srS n mm (L.2 5)).1.2.2 := by rw [lsAns_k hk4, show k = 1 by omega]; rfl
            refine j_aload_n dX6_least_62 rfl ?_
            refine j_getI dX6_least_63 flX6_230 (Nat.le_of_ble_eq_true rfl) rfl rfl ?_
            refine j_top (y0 := nI ((srS n mm (L.2 5)).1.2.2)) hMS.1.2.2 ?_
            refine j_goto (tgt := 112) dX6_least_66 (by decide) ?_
            exact j_iret dX6_least_112 rfl rfl ⟨by rw [hans], hM⟩
        · have hans : lsAns n mm (L.2 5) (nI k) = nI (srS n mm (L.2 5)).1.1 := by rw [lsAns_k hk4, show k = 0 by omega]; rfl
          refine j_aload_n dX6_least_50 rfl ?_
          refine j_getI dX6_least_51 flX6_227 (Nat.le_of_ble_eq_true rfl) rfl rfl ?_
          refine j_top (y0 := nI ((srS n mm (L.2 5)).1.1)) hMS.1.1 ?_
          refine j_goto (tgt := 112) dX6_least_54 (by decide) ?_
          exact j_iret dX6_least_112 rfl rfl ⟨by rw [hans], hM⟩
    · refine j_aload_n dX6_least_19 rfl ?_
      refine j_callV (y' := mX6_bound) (As := []) (st := []) dX6_least_20 lkX6_241 okX6_bound imX6_bound seX6_bound (Nat.le_of_ble_eq_true rfl) rfl rfl rfl rfl (Nat.le_of_ble_eq_true rfl) (Nat.le_of_ble_eq_true rfl) (m_bound z _ _ _ _ _ _ _ _ F A hM hw) (fun v20 F20 A20 hq20 => ?_)
      obtain ⟨rfl, rfl, r20, rfl, hr20⟩ := hq20
      have hans : lsAns n mm (L.2 5) (nI k) = nI r20 := by rw [lsAns_k hk4, hr20, show k = 4 by omega]; rfl
      exact j_iret dX6_least_23 rfl rfl ⟨by rw [hans], hM⟩
  · have hans : lsAns n mm (L.2 5) x1 = -1 := lsAns_n (hr6.resolve_left (fun h => by omega)).2
    refine j_iconst (v := (-1)) dX6_least_12 (by decide +kernel) ?_
    exact j_iret dX6_least_13 rfl rfl ⟨by rw [hans], hM⟩

set_option maxHeartbeats 400000 in
set_option maxRecDepth 100000 in
theorem m_first (z : mj_B) (d : Nat) (L : Lg) (n : Nat) (mm : Nat → Nat) (rn : Nat) (rm : Nat → Nat) (un kn : Nat) (x1 : Int32) (F A : mj_S) (hM : MI L n mm rn rm un kn F A) (hw : wr n mm (L.2 5)) : J (gM z) mX6_first (d + 4) 0 [(0, .ref 0), (1, .int x1)] [] F A (fun v F' A' => v = some (.int (ftAns n mm (L.2 5) x1)) ∧ MI L n mm rn rm un kn F' A') := by
  have hM0 := hM.1.2.1
  have hM1 := hM.2.1.2.1
  have hM2 := hM.2.2.1.2.1
  have hM3 := hM.2.2.2.1.2
  have hM4 := hM.2.2.2.2.1.2
  refine j_aload_n dX6_first_0 rfl ?_
  refine j_iload_n dX6_first_1 rfl ?_
  refine j_callV (y' := mX6_isNode) (As := [.int x1]) (st := []) dX6_first_2 lkX6_141 okX6_isNode imX6_isNode seX6_isNode (Nat.le_of_ble_eq_true rfl) rfl rfl rfl rfl (Nat.le_of_ble_eq_true rfl) (Nat.le_of_ble_eq_true rfl) (m_isNode z _ _ _ _ _ _ _ _ x1 F A hM) (fun v2 F2 A2 hq2 => ?_)
  obtain ⟨rfl, rfl, r2, rfl, hr2⟩ := hq2
  have hb2 : r2 ≤ 1 := by omega
  refine j_if_neN (tgt := 10) dX6_first_5 (by decide) (by omega) (fun c5 => ?_) (fun c5 => ?_)
  · obtain ⟨j, hj, rfl⟩ := (hr2.resolve_right (fun h => by omega)).2
    have h8j : j < 8 := by omega
    have hans0 := ftAns_i (mm := mm) (row := L.2 5) (ndO_some hM1 hj)
    refine j_aload_n dX6_first_10 rfl ?_
    refine j_bipush (v := (-4)) dX6_first_11 (by decide +kernel) ?_
    refine j_iconst (v := nI 0) dX6_first_13 (by decide +kernel) ?_
    refine j_callV (y' := mX6_goAll) (As := [.int ((-4)), .int (nI 0)]) (st := []) dX6_first_14 lkX6_244 okX6_goAll imX6_goAll seX6_goAll (Nat.le_of_ble_eq_true rfl) rfl rfl rfl rfl (Nat.le_of_ble_eq_true rfl) (Nat.le_of_ble_eq_true rfl) (m_goAll z _ _ _ _ _ _ _ _ (-4) (nI 0) (fS (c0 n mm (L.2 5)) (t0 n mm (L.2 5)) (mk0 n (L.2 5)) n) fS_ok (Or.inl ⟨rfl, rfl⟩) F A hM hw) (fun v14 F14 A14 hq14 => ?_)
    obtain ⟨rfl, hM, hMS⟩ := hq14
    rw [← sea_itr] at hMS
    have hSI : SI n (srS n mm (L.2 5)) := SI_sea (fun v _ => hM.2.1.2.2.2.1 v)
    have hWy : (srS n mm (L.2 5)).1.2.2 ≤ 65536 := sea_ways hM1 (fun v _ => hM.2.1.2.2.2.1 v)
    have hMS : MS F14 A14 n (srS n mm (L.2 5)) := hMS
    have hbn := hSI.bn
    refine j_aload_n dX6_first_17 rfl ?_
    refine j_getR (r := 15) dX6_first_18 flX6_52 (Nat.le_of_ble_eq_true rfl) rfl rfl ?_
    refine j_iload_n dX6_first_21 rfl ?_
    refine j_ialdN dX6_first_22 (Nat.le_of_ble_eq_true rfl) rfl (by omega) (by decide) ?_
    have hans : ftAns n mm (L.2 5) (nI j) = A14 15 j := by
      rw [hans0]
      have h0 := hSI.1.2
      by_cases e : (srS n mm (L.2 5)).1.2.2 = 0
      · rw [if_pos e, hMS.2.2 (by omega) j hj]
      · rw [if_neg e, (hMS.2.1 (by omega) j hj).1]
    refine j_top (y0 := A14 15 j) rfl ?_
    exact j_iret dX6_first_23 rfl rfl ⟨by rw [hans], hM⟩
  · have hans := ftAns_n (mm := mm) (row := L.2 5) (ndO_none hM1 (hr2.resolve_left (fun h => by omega)).2)
    refine j_iconst (v := (-1)) dX6_first_8 (by decide +kernel) ?_
    exact j_iret dX6_first_9 rfl rfl ⟨by rw [hans], hM⟩

set_option maxHeartbeats 400000 in
set_option maxRecDepth 100000 in
theorem m_with (z : mj_B) (d : Nat) (L : Lg) (n : Nat) (mm : Nat → Nat) (rn : Nat) (rm : Nat → Nat) (un kn : Nat) (x1 x2 : Int32) (F A : mj_S) (hM : MI L n mm rn rm un kn F A) (hw : wr n mm (L.2 5)) : J (gM z) mX6_with (d + 4) 0 [(0, .ref 0), (1, .int x1), (2, .int x2)] [] F A (fun v F' A' => v = some (.int (wtAns n mm (L.2 5) x1 x2)) ∧ MI L n mm rn rm un kn F' A') := by
  have hM0 := hM.1.2.1
  have hM1 := hM.2.1.2.1
  have hM2 := hM.2.2.1.2.1
  have hM3 := hM.2.2.2.1.2
  have hM4 := hM.2.2.2.2.1.2
  refine j_aload_n dX6_with_0 rfl ?_
  refine j_iload_n dX6_with_1 rfl ?_
  refine j_iload_n dX6_with_2 rfl ?_
  refine j_callV (y' := mX6_isChoice) (As := [.int x1, .int x2]) (st := []) dX6_with_3 lkX6_155 okX6_isChoice imX6_isChoice seX6_isChoice (Nat.le_of_ble_eq_true rfl) rfl rfl rfl rfl (Nat.le_of_ble_eq_true rfl) (Nat.le_of_ble_eq_true rfl) (m_isChoice z _ _ _ _ _ _ _ _ x1 x2 F A hM) (fun v3 F3 A3 hq3 => ?_)
  obtain ⟨rfl, rfl, r3, rfl, hr3⟩ := hq3
  have hb3 : r3 ≤ 1 := by omega
  refine j_if_neN (tgt := 11) dX6_with_6 (by decide) (by omega) (fun c6 => ?_) (fun c6 => ?_)
  · obtain ⟨j, k, hj, hk, rfl, rfl⟩ := (hr3.resolve_right (fun h => by omega)).2
    have h8j : j < 8 := by omega
    have h4k := hM.2.1.2.2.2.1 j
    have hch := chO_some hM1 h4k hj hk
    refine j_aload_n dX6_with_11 rfl ?_
    refine j_iload_n dX6_with_12 rfl ?_
    refine j_iload_n dX6_with_13 rfl ?_
    refine j_callV (y' := mX6_goAll) (As := [.int (nI j), .int (nI k)]) (st := []) dX6_with_14 lkX6_244 okX6_goAll imX6_goAll seX6_goAll (Nat.le_of_ble_eq_true rfl) rfl rfl rfl rfl (Nat.le_of_ble_eq_true rfl) (Nat.le_of_ble_eq_true rfl) (m_goAll z _ _ _ _ _ _ _ _ (nI j) (nI k) (fW (c0 n mm (L.2 5)) (t0 n mm (L.2 5)) (mk0 n (L.2 5)) n j k) fW_ok (Or.inr ⟨j, k, hj, rfl, rfl, by omega, rfl⟩) F A hM hw) (fun v14 F14 A14 hq14 => ?_)
    obtain ⟨rfl, hM, hMS⟩ := hq14
    have hans : wtAns n mm (L.2 5) (nI j) (nI k) = F14 0 21 := by rw [wtAns_s hch, hMS.1.1]; exact congrArg nI (seaW_best hj).symm
    refine j_aload_n dX6_with_17 rfl ?_
    refine j_getI dX6_with_18 flX6_227 (Nat.le_of_ble_eq_true rfl) rfl rfl ?_
    exact j_iret dX6_with_21 rfl rfl ⟨by rw [hans], hM⟩
  · have hans := wtAns_n (row := L.2 5) (chO_none hM1 (fun u hu => hM.2.1.2.2.2.1 u) (hr3.resolve_left (fun h => by omega)).2)
    refine j_iconst (v := (-1)) dX6_with_9 (by decide +kernel) ?_
    exact j_iret dX6_with_10 rfl rfl ⟨by rw [hans], hM⟩

theorem wr.lo2 {n : Nat} {mm : Nat → Nat} {row : Nat → Int32} (hw : wr n mm row) {j k : Nat} (hj : j < n) (hk : k < n) (hne : j ≠ k) : wr n mm (looR row (pmin j k) (pmax j k)) := by
  rcases pmm_or j k with ⟨hl, e1, e2⟩ | ⟨hl, e1, e2⟩
  · rw [e1, e2]; exact hw.loo hl hk
  · rw [e1, e2]; exact hw.loo (by omega) hj

set_option maxHeartbeats 400000 in
set_option maxRecDepth 100000 in
theorem m_without (z : mj_B) (d : Nat) (L : Lg) (n : Nat) (mm : Nat → Nat) (rn : Nat) (rm : Nat → Nat) (un kn : Nat) (x1 x2 : Int32) (F A0 : mj_S) (hM : MI L n mm rn rm un kn F A0) (hw : wr n mm (A0 5)) : J (gM z) mX6_without (d + 4) 0 [(0, .ref 0), (1, .int x1), (2, .int x2)] [] F A0 (fun w F' A' => ∃ (x : Int32), w = some (.int x) ∧ MI (L.1, A') n mm rn rm un kn F' A' ∧ A' 1 = A0 1 ∧ A' 5 = A0 5 ∧ A' 6 = A0 6 ∧ A' 7 = A0 7) := by
  have hM0 := hM.1.2.1
  have hM1 := hM.2.1.2.1
  have hM2 := hM.2.2.1.2.1
  have hM3 := hM.2.2.2.1.2
  have hM4 := hM.2.2.2.2.1.2
  refine j_aload_n dX6_without_0 rfl ?_
  refine j_iload_n dX6_without_1 rfl ?_
  refine j_iload_n dX6_without_2 rfl ?_
  refine j_callV (y' := mX6_isPair) (As := [.int x1, .int x2]) (st := []) dX6_without_3 lkX6_170 okX6_isPair imX6_isPair seX6_isPair (Nat.le_of_ble_eq_true rfl) rfl rfl rfl rfl (Nat.le_of_ble_eq_true rfl) (Nat.le_of_ble_eq_true rfl) (m_isPair z _ _ _ _ _ _ _ _ x1 x2 F A0 hM) (fun v3 F3 A3 hq3 => ?_)
  obtain ⟨rfl, rfl, r3, rfl, hr3⟩ := hq3
  have hb3 : r3 ≤ 1 := by omega
  refine j_if_neN (tgt := 11) dX6_without_6 (by decide) (by omega) (fun c6 => ?_) (fun c6 => ?_)
  · obtain ⟨j, k, hj, hk, hne, rfl, rfl⟩ := (hr3.resolve_right (fun h => by omega)).2
    have h8j : j < 8 := by omega
    have h8k : k < 8 := by omega
    refine j_aload_n dX6_without_11 rfl ?_
    refine j_iload_n dX6_without_12 rfl ?_
    refine j_iload_n dX6_without_13 rfl ?_
    refine j_callV (y' := mX6_isTied) (As := [.int (nI j), .int (nI k)]) (st := []) dX6_without_14 lkX6_146 okX6_isTied imX6_isTied seX6_isTied (Nat.le_of_ble_eq_true rfl) rfl rfl rfl rfl (Nat.le_of_ble_eq_true rfl) (Nat.le_of_ble_eq_true rfl) (m_isTied z _ j k (by omega) (by omega) F A0) (fun v14 F14 A14 hq14 => ?_)
    obtain ⟨rfl, rfl, r14, rfl, hr14⟩ := hq14
    have hb14 : r14 ≤ 1 := by omega
    refine j_if_neN (tgt := 23) dX6_without_17 (by decide) (by omega) (fun c17 => ?_) (fun c17 => ?_)
    · have hM := hM.k
      have L25 : ∀ (fuel : Nat) (q : Nat) (A : mj_S), (MK L.1 n mm rn rm un kn F A) → (q ≤ 16) → (A 1 = A0 1 ∧ A 5 = A0 5 ∧ A 6 = A0 6 ∧ A 7 = A0 7) → (∀ w, w < q → A 17 w = A0 5 (eA j k (w / 4) (w % 4))) → 16 - q < fuel → J (gM z) mX6_without (d + 4) 25 [(0, .ref 0), (1, .int (nI j)), (2, .int (nI k)), (3, .int (nI q))] [] F A (fun w F' A' => ∃ (x : Int32), w = some (.int x) ∧ MI (L.1, A') n mm rn rm un kn F' A' ∧ A' 1 = A0 1 ∧ A' 5 = A0 5 ∧ A' 6 = A0 6 ∧ A' 7 = A0 7) := by
        intro fuel
        induction fuel with
        | zero => intro q A hM h2 hfr h17 hf; exact absurd hf (by omega)
        | succ fuel ih25 =>
          intro q A hM h2 hfr h17 hf
          refine j_iload_n dX6_without_25 rfl ?_
          refine j_bipush (v := nI 16) dX6_without_26 (by decide +kernel) ?_
          refine j_icmp_geN (tgt := 59) dX6_without_28 (by decide) (by omega) (by omega) (fun c28 => ?_) (fun c28 => ?_)
          · refine j_aload_n dX6_without_59 rfl ?_
            refine j_iload_n dX6_without_60 rfl ?_
            refine j_iload_n dX6_without_61 rfl ?_
            refine j_callV (y' := mX6_looseNow) (As := [.int (nI j), .int (nI k)]) (st := []) dX6_without_62 lkX6_173 okX6_looseNow imX6_looseNow seX6_looseNow (Nat.le_of_ble_eq_true rfl) rfl rfl rfl rfl (Nat.le_of_ble_eq_true rfl) (Nat.le_of_ble_eq_true rfl) (m_looseNow z _ _ _ _ _ _ _ _ j k (by omega) (by omega) hne F A hM) (fun v62 F62 A62 hq62 => ?_)
            obtain ⟨rfl, rfl, hM, hlf62, hl5_62⟩ := hq62
            refine j_aload_n dX6_without_65 rfl ?_
            refine j_bipush (v := (-4)) dX6_without_66 (by decide +kernel) ?_
            refine j_iconst (v := nI 0) dX6_without_68 (by decide +kernel) ?_
            refine j_callV (y' := mX6_goAll) (As := [.int ((-4)), .int (nI 0)]) (st := []) dX6_without_69 lkX6_244 okX6_goAll imX6_goAll seX6_goAll (Nat.le_of_ble_eq_true rfl) rfl rfl rfl rfl (Nat.le_of_ble_eq_true rfl) (Nat.le_of_ble_eq_true rfl) (m_goAll z _ (L.1, A62) n mm rn rm un kn (-4) (nI 0) (fS (c0 n mm (A62 5)) (t0 n mm (A62 5)) (mk0 n (A62 5)) n) fS_ok (Or.inl ⟨rfl, rfl⟩) F A62 hM.i (by show wr n mm (A62 5); rw [hl5_62, hfr.2.1]; exact hw.lo2 hj hk hne)) (fun v69 F69 A69 hq69 => ?_)
            obtain ⟨rfl, hMg, -⟩ := hq69
            have hM := hMg.k
            have hl5 : A62 5 = looR (A0 5) (pmin j k) (pmax j k) := by rw [hl5_62, hfr.2.1]
            have hg : A69 1 = A0 1 ∧ A69 6 = A0 6 ∧ A69 7 = A0 7 ∧ ∀ w, w < 16 → A69 17 w = A0 5 (eA j k (w / 4) (w % 4)) := ⟨hMg.1.2.2.1.trans (hlf62.1.trans hfr.1), hMg.1.2.2.2.2.1.trans (hlf62.2.1.trans hfr.2.2.1), hMg.1.2.2.2.2.2.1.trans (hlf62.2.2.1.trans hfr.2.2.2), fun w hw => by rw [hMg.1.2.2.2.2.2.2]; show A62 17 w = _; rw [hlf62.2.2.2]; exact h17 w (by omega)⟩
            have L74 : ∀ (fuel : Nat) (q : Nat) (F A : mj_S), (MK L.1 n mm rn rm un kn F A) → (q ≤ 16) → (A 1 = A0 1 ∧ A 6 = A0 6 ∧ A 7 = A0 7 ∧ ∀ w, w < 16 → A 17 w = A0 5 (eA j k (w / 4) (w % 4))) → (∀ w, w < q → A 5 (eA j k (w / 4) (w % 4)) = A0 5 (eA j k (w / 4) (w % 4))) → (∀ x, (∀ w, w < q → x ≠ eA j k (w / 4) (w % 4)) → A 5 x = A69 5 x) → 16 - q < fuel → J (gM z) mX6_without (d + 4) 74 [(0, .ref 0), (1, .int (nI j)), (2, .int (nI k)), (3, .int (nI q))] [] F A (fun w F' A' => ∃ (x : Int32), w = some (.int x) ∧ MI (L.1, A') n mm rn rm un kn F' A' ∧ A' 1 = A0 1 ∧ A' 5 = A0 5 ∧ A' 6 = A0 6 ∧ A' 7 = A0 7) := by
              intro fuel
              induction fuel with
              | zero => intro q F A hM h2 hfr g5 g5b hf; exact absurd hf (by omega)
              | succ fuel ih74 =>
                intro q F A hM h2 hfr g5 g5b hf
                refine j_iload_n dX6_without_74 rfl ?_
                refine j_bipush (v := nI 16) dX6_without_75 (by decide +kernel) ?_
                refine j_icmp_geN (tgt := 108) dX6_without_77 (by decide) (by omega) (by omega) (fun c77 => ?_) (fun c77 => ?_)
                · refine j_aload_n dX6_without_108 rfl ?_
                  refine j_getI dX6_without_109 flX6_227 (Nat.le_of_ble_eq_true rfl) rfl rfl ?_
                  exact j_iret dX6_without_112 rfl rfl ⟨_, rfl, (MK.i (F := F) (A := A) hM), hfr.1, back_fin hne (fun w hw => g5 w (by omega)) (fun x hx => g5b x (fun w hw => hx w (by omega))) (hMg.1.2.2.2.1.trans hl5), hfr.2.1, hfr.2.2.1⟩
                · refine j_aload_n dX6_without_80 rfl ?_
                  refine j_getR (r := 5) dX6_without_81 flX6_22 (Nat.le_of_ble_eq_true rfl) rfl rfl ?_
                  refine j_iload_n dX6_without_84 rfl ?_
                  refine j_iload_n dX6_without_85 rfl ?_
                  refine j_iload_n dX6_without_86 rfl ?_
                  refine j_iconst (v := nI 4) dX6_without_87 (by decide +kernel) ?_
                  refine j_idivN dX6_without_88 (by omega) (by omega) (by omega) ?_
                  refine j_iload_n dX6_without_89 rfl ?_
                  refine j_iconst (v := nI 4) dX6_without_90 (by decide +kernel) ?_
                  refine j_iremN dX6_without_91 (by omega) (by omega) (by omega) ?_
                  refine j_callS (y' := mX6_entryAt) (As := [.int (nI j), .int (nI k), .int (nI (q / 4)), .int (nI (q % 4))]) (st := [.ref 5]) dX6_without_92 lkX6_81 okX6_entryAt stX6_entryAt rfl (Nat.le_of_ble_eq_true rfl) (Nat.le_of_ble_eq_true rfl) (m_entryAt z _ j k (q / 4) (q % 4) (by omega) (by omega) (by omega) (by omega) (by omega) F A) (fun v92 F92 A92 hq92 => ?_)
                  obtain ⟨rfl, rfl, e92, rfl, he92⟩ := hq92
                  have hl92 : e92 < 500 := by rw [he92]; exact eA_lt (by omega) (by omega) (by omega) (by omega) (by omega)
                  refine j_aload_n dX6_without_95 rfl ?_
                  refine j_getR (r := 17) dX6_without_96 flX6_58 (Nat.le_of_ble_eq_true rfl) rfl rfl ?_
                  refine j_iload_n dX6_without_99 rfl ?_
                  refine j_ialdN dX6_without_100 (Nat.le_of_ble_eq_true rfl) rfl (by omega) (by decide) ?_
                  refine j_iastN dX6_without_101 (Nat.le_of_ble_eq_true rfl) rfl (by omega) (by decide) ?_
                  refine j_iinc (v := nI (q + 1)) (lv' := [(0, .ref 0), (1, .int (nI j)), (2, .int (nI k)), (3, .int (nI (q + 1)))]) dX6_without_102 rfl (nI_add _ 1) (Nat.le_of_ble_eq_true rfl) rfl rfl ?_
                  refine j_goto (tgt := 74) dX6_without_105 (by decide) ?_
                  exact ih74 (q + 1) F (mj_u A 5 e92 (A 17 q)) (by first | exact hM | omega) (by first | exact h2 | omega) (by first | exact hfr | omega) (fun w hw => by rw [he92, mj_u_at]; exact if e : eA j k (w / 4) (w % 4) = eA j k (q / 4) (q % 4) then (by rw [e, pk_us, hfr.2.2.2 q (by omega)]) else (by rw [pk_un e]; exact g5 w (by have : w ≠ q := (fun e2 => e (by rw [e2])); omega))) (fun x hx => by rw [he92, mj_u_at, pk_un (hx q (by omega))]; exact g5b x (fun w hw => hx w (by omega))) (by omega)
            refine j_iconst (v := nI 0) dX6_without_72 (by decide +kernel) ?_
            refine j_istore_n (lv' := [(0, .ref 0), (1, .int (nI j)), (2, .int (nI k)), (3, .int (nI 0))]) dX6_without_73 (Nat.le_of_ble_eq_true rfl) rfl rfl ?_
            exact L74 _ 0 F69 A69 (by first | exact hM | omega) (by first | exact h2 | omega) hg (fun w hw => absurd hw (by omega)) (fun _ _ => rfl) (Nat.lt_succ_self _)
          · refine j_aload_n dX6_without_31 rfl ?_
            refine j_getR (r := 17) dX6_without_32 flX6_58 (Nat.le_of_ble_eq_true rfl) rfl rfl ?_
            refine j_iload_n dX6_without_35 rfl ?_
            refine j_aload_n dX6_without_36 rfl ?_
            refine j_getR (r := 5) dX6_without_37 flX6_22 (Nat.le_of_ble_eq_true rfl) rfl rfl ?_
            refine j_iload_n dX6_without_40 rfl ?_
            refine j_iload_n dX6_without_41 rfl ?_
            refine j_iload_n dX6_without_42 rfl ?_
            refine j_iconst (v := nI 4) dX6_without_43 (by decide +kernel) ?_
            refine j_idivN dX6_without_44 (by omega) (by omega) (by omega) ?_
            refine j_iload_n dX6_without_45 rfl ?_
            refine j_iconst (v := nI 4) dX6_without_46 (by decide +kernel) ?_
            refine j_iremN dX6_without_47 (by omega) (by omega) (by omega) ?_
            refine j_callS (y' := mX6_entryAt) (As := [.int (nI j), .int (nI k), .int (nI (q / 4)), .int (nI (q % 4))]) (st := [.ref 5, .int (nI q), .ref 17]) dX6_without_48 lkX6_81 okX6_entryAt stX6_entryAt rfl (Nat.le_of_ble_eq_true rfl) (Nat.le_of_ble_eq_true rfl) (m_entryAt z _ j k (q / 4) (q % 4) (by omega) (by omega) (by omega) (by omega) (by omega) F A) (fun v48 F48 A48 hq48 => ?_)
            obtain ⟨rfl, rfl, e48, rfl, he48⟩ := hq48
            have hl48 : e48 < 500 := by rw [he48]; exact eA_lt (by omega) (by omega) (by omega) (by omega) (by omega)
            refine j_ialdN dX6_without_51 (Nat.le_of_ble_eq_true rfl) rfl (by omega) (by decide) ?_
            refine j_iastN dX6_without_52 (Nat.le_of_ble_eq_true rfl) rfl (by omega) (by decide) ?_
            refine j_iinc (v := nI (q + 1)) (lv' := [(0, .ref 0), (1, .int (nI j)), (2, .int (nI k)), (3, .int (nI (q + 1)))]) dX6_without_53 rfl (nI_add _ 1) (Nat.le_of_ble_eq_true rfl) rfl rfl ?_
            refine j_goto (tgt := 25) dX6_without_56 (by decide) ?_
            exact ih25 (q + 1) (mj_u A 17 q (A 5 e48)) (by first | exact hM | omega) (by first | exact h2 | omega) (by first | exact hfr | omega) (fun w hw => mj_cp (A := A) (b := 17) (f := fun w => A0 5 (eA j k (w / 4) (w % 4))) h17 (by rw [hfr.2.1, he48]) hw) (by omega)
      refine j_iconst (v := nI 0) dX6_without_23 (by decide +kernel) ?_
      refine j_istore_n (lv' := [(0, .ref 0), (1, .int (nI j)), (2, .int (nI k)), (3, .int (nI 0))]) dX6_without_24 (Nat.le_of_ble_eq_true rfl) rfl rfl ?_
      exact L25 _ 0 A0 (by first | exact hM | omega) (by first | exact h2 | omega) ⟨rfl, rfl, rfl, rfl⟩ (fun w hw => absurd hw (by omega)) (Nat.lt_succ_self _)
    · refine j_bipush (v := (-4)) dX6_without_20 (by decide +kernel) ?_
      exact j_iret dX6_without_22 rfl rfl ⟨_, rfl, hM.k.i, rfl, rfl, rfl, rfl⟩
  · refine j_iconst (v := (-1)) dX6_without_9 (by decide +kernel) ?_
    exact j_iret dX6_without_10 rfl rfl ⟨_, rfl, hM.k.i, rfl, rfl, rfl, rfl⟩
