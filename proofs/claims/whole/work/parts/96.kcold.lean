section KCOLD
variable {m : Nat → Nat → Nat} {u w : Nat → Int32} {L L0 : List Nat} {σ σ' σ0 s s2 σ1 : St} {N kk n q p d ban t c k a x i j place v told F key p3 p4 r e s_ y B : Nat} {g o ways : Nat → Nat} {p2 : Int32} {rs rs' fin : RSt} {vf : (Nat → Nat) → Int32}
def vf0 (m : Nat → Nat → Nat) (u : Nat → Int32) (q : Nat) (g : Nat → Nat) : Int32 := vl u (tq m q 0) (g 0) 0
/-- what a run through an empty cache of its own counts -/
def rsC (m : Nat → Nat → Nat) (u : Nat → Int32) (q ban d : Nat) (L : List Nat) : RSt := (evR m u q ban d).foldl (stEv (some 0) (m 19 0) mI 0 (vf0 m u q)) (r0 L)
theorem rsC_x (x : Nat) : (evR m u q ban d).foldl (stEv (some x) (m 19 0) mI 0 (vf0 m u q)) (r0 L) = rsC m u q ban d L := by
  unfold rsC
  rw [stEv_x (x := x) (y := 0)]
theorem rsC_le (W : WQ m) (Wt : WT m u) (Wx : WX m) (hq : q < m 24 0) : (rsC m u q ban d L).1 ≤ 200000 ∧ (rsC m u q ban d L).2.1 ≤ (rsC m u q ban d L).1 := by
  obtain ⟨h1, h2⟩ := st_cnt (es := evR m u q ban d) (x := 0) (F := m 19 0) (p2 := mI) (p3 := 0) (vf := vf0 m u q) (r0 L)
  have h3 := evR_len (ban := ban) (d := d) W Wt Wx hq
  have e1 : (r0 L).1 = 0 := rfl
  have e2 : (r0 L).2.1 = 0 := rfl
  unfold rsC
  omega
theorem KFo.kt (h : KFo 1 σ s) : KT σ s := ⟨fun k i f j h0 _ _ h8 => h.1 k i f j (fun e => h8 e.1) (fun e => by rcases h0 with h0 | h0 <;> omega), fun k i f j h8 => h.2.2.1 k i f j (fun e => h8 e.1), fun i => h.2.2.1 8 i 0 0 (fun e => by have := e.2.2; omega), h.2.2.2.2⟩
theorem KFo.km (h : KFo c σ s) : KM σ s := fun i f j => h.1 12 i f j (fun e => absurd e.1 (by decide)) (fun e => absurd e.1 (by decide))
theorem c_trial (hC : C0 σ) (CC' : CC m L σ) (h12 : m 19 0 ≤ 12) {K : Option Nat → St → Prop} (h : ∀ s, CO s 1 (m 19 0) [] → (∀ k i f j, ¬ (k = 0 ∧ i = 1) → sP s k i f j = sP σ k i f j) → sL_ s = sL_ σ → sQ s = sQ σ → sD_ s = sD_ σ → sV s = sV σ → K (some 1) s) : z_X11_emptyTrial N 0 σ K := by
  unfold C0 at hC
  have e1 := CC'.1
  have em : (if nI (m 19 0) < nI 0 then nI (m 19 0) else nI 0) = nI 0 := by
    rw [if_neg (by rw [u_n_lt (by omega) (by omega)]; omega)]
  simp (disch := omega) only [z_X11_emptyTrial, hC, z_X0_clear, z_X0_frameCount, z_X0_setFrames, u_br_True, u_br_False, u_jn_u, u_lt_u, u_nn_s, u_brn_s, u_brn_n, nI_add, u_n_mul, u_n_lt, u_n_le, u_n_eq, u_n_sub, u_n_div, u_n_mod, nI_clamp, u_m1, u_m1q, u_wI_n, u_wA_n, u_br_t, u_br_f, ↓li_m1, li_0, li_1, li_2, li_3, li_4, li_5, li_6, li_7, li_8, li_9, li_10, li_12, li_13, li_26, li_40, li_60, li_61, li_62, li_99, li_100, li_102, li_106, li_114, li_112, li_117, li_108, li_103, li_120, li_300, li_360, li_512, li_1000, sP_stP, sQ_stP, Nat.reduceEqDiff, true_and, and_true, false_and, and_false, if_true, if_false, eq_self, and_self, Nat.reduceLT, Nat.reduceLeDiff, Nat.reduceAdd, Nat.reduceMul, Nat.reduceDiv, Nat.one_ne_zero, e1, em]
  refine h _ ⟨by simp only [sP_stP, Nat.reduceEqDiff, true_and, and_true, false_and, and_false, if_true, if_false, eq_self, and_self, Nat.reduceLT, Nat.reduceLeDiff, Nat.reduceAdd, Nat.reduceMul, Nat.reduceDiv, Nat.one_ne_zero], by simp only [sP_stP, Nat.reduceEqDiff, true_and, and_true, false_and, and_false, if_true, if_false, eq_self, and_self, Nat.reduceLT, Nat.reduceLeDiff, Nat.reduceAdd, Nat.reduceMul, Nat.reduceDiv, Nat.one_ne_zero]; rfl, fun j hj => by simp at hj⟩ (fun k i f j hn => ?_) rfl rfl rfl rfl
  rw [sP_stP, if_neg (fun e => hn ⟨e.1, e.2.1⟩), sP_stP, if_neg (fun e => hn ⟨e.1, e.2.1⟩), sP_stP, if_neg (fun e => hn ⟨e.1, e.2.1⟩)]
theorem CK0 (h : F ≤ 12) : CK F [] := ⟨h, Nat.zero_le _, List.nodup_nil, fun x hx => by simp at hx⟩
theorem PL.of5 (h : PL m q ban d σ i) (e : ∀ f j, sP s 5 i f j = sP σ 5 i f j) : PL m q ban d s i := by
  unfold PL PH at h ⊢
  simp only [e]
  exact h
theorem c_runCold (hN : 1000000 ≤ N) (C : CA m u w L σ) (W : WA m u L0 kk) (hd : d < 2) (hq : q < m 24 0) (h0 : 0 < m 25 q) {K : St → Prop} (h : ∀ s, KT σ s → KM σ s → RVs s (some 1) (m 19 0) mI 0 0 (rsC m u q (m 46 d) d []) → K s) : z_X11_runCold N 0 (nI d) (some q) σ K := by
  have C' := C
  obtain ⟨C0', CT', CX', CC', CQ', CD', CP'⟩ := C
  obtain ⟨WT', WX', WC', WQ', WD'⟩ := W
  have hC := C0'
  unfold C0 at hC
  have e2 := CD'.2.1 d hd
  have hb := (WD'.1 d hd).1
  simp (disch := omega) only [z_X11_runCold, z_X2_bansFor, u_br_True, u_br_False, u_jn_u, u_lt_u, u_nn_s, u_brn_s, u_brn_n, nI_add, u_n_mul, u_n_lt, u_n_le, u_n_eq, u_n_sub, u_n_div, u_n_mod, nI_clamp, u_m1, u_m1q, u_wI_n, u_wA_n, u_br_t, u_br_f, ↓li_m1, li_0, li_1, li_2, li_3, li_4, li_5, li_6, li_7, li_8, li_9, li_10, li_12, li_13, li_26, li_40, li_60, li_61, li_62, li_99, li_100, li_102, li_106, li_114, li_112, li_117, li_108, li_103, li_120, li_300, li_360, li_512, li_1000, e2, hC]
  refine c_draw hN ⟨C0', CT', CX', CQ'⟩ WQ' WX' WT' hq hb hd (by decide) (fun s1 k1 P1 _ => ?_)
  have C1 : CA m u w L s1 := C'.kt k1.kt
  have h6 : sQ s1 11 0 6 0 = some 0 := by rw [k1.2.2.1]; exact hC.2.2.2.2.1
  have h7 : sQ s1 11 0 7 0 = some 2 := by rw [k1.2.2.1]; exact hC.2.2.2.2.2.1
  have h00 : sQ s1 11 0 0 0 = some 0 := by rw [k1.2.2.1]; exact hC.1
  simp only [h6, h7, h00, u_br_True, u_br_False, u_jn_u, u_lt_u, u_nn_s, u_brn_s, u_brn_n]
  refine c_trial C1.1 C1.2.2.2.1 WC'.1 (fun s2 X2 e2 l2 q2 d2 v2 => ?_)
  have kt2 : KT s1 s2 := ⟨fun k i f j h0 _ _ _ => e2 k i f j (fun e => by rcases h0 with h0 | h0 <;> omega), fun k i f j _ => by rw [q2], fun i => by rw [q2], v2⟩
  have km2 : KM s1 s2 := fun i f j => e2 12 i f j (fun e => absurd e.1 (by decide))
  have C2 : CA m u w L s2 := C1.kt kt2
  refine c_follow (ban := m 46 d) (d := d) (L := []) hN ⟨C2.1, C2.2.1, C2.2.2.1, C2.2.2.2.2.1⟩ WQ' WT' WX' hq h0 (P1.of5 (fun f j => e2 5 2 f j (fun e => absurd e.1 (by decide)))) X2 (CK0 WC'.1) (vf0 m u q) (fun g => rfl) (fun s3 R3 k3 => ?_)
  rw [rsC_x] at R3
  exact h s3 ((k1.kt.trans kt2).trans k3.kt) ((k1.km.trans km2).trans k3.km) R3
theorem RI.t1 (R : RI m u w L σ) {v : Int32} : RI m u w L (stP σ 12 0 21 1 v) := by
  obtain ⟨r1, r2, r3, r4, r5⟩ := R
  refine ⟨fun f j hf => ?_, fun j => ?_, fun j => ?_, ?_, fun j hj => ?_⟩
  · rw [sP_stP, if_neg (fun e => by rw [e.2.2.1] at hf; revert hf; decide)]
    exact r1 f j hf
  · rw [sP_stP, if_neg (fun e => absurd e.2.2.1 (by decide))]
    exact r2 j
  · rw [sP_stP, if_neg (fun e => absurd e.2.2.1 (by decide))]
    exact r3 j
  · rw [sP_stP, if_neg (fun e => absurd e.2.2.2 (by decide))]
    exact r4
  · rw [sP_stP, if_neg (fun e => absurd e.2.2.1 (by decide))]
    exact r5 j hj
theorem r_cold (hN : 1000000 ≤ N) (R : RI m u w L σ) (W : WA m u L0 kk) (hL : L.length ≤ 12) (hq : q < m 24 0) (h0 : 0 < m 25 q) (hb : ban < 64) (hd : d < 2) {K : St → Prop} (h : ∀ s, KC σ s → RI m u w L s → sP s 12 0 22 0 = nI (rsC m u q ban d []).2.1 → sP s 12 0 23 0 = nI (rsC m u q ban d []).1 → sP s 12 0 0 0 = sP σ 12 0 0 0 → K s) : z_X12_triesCold N 0 (nI d) (nI q) (nI ban) σ K := by
  obtain ⟨WT', WX', WC', WQ', WD'⟩ := W
  simp (disch := omega) only [z_X12_triesCold, u_br_True, u_br_False, u_jn_u, u_lt_u, u_nn_s, u_brn_s, u_brn_n, nI_add, u_n_mul, u_n_lt, u_n_le, u_n_eq, u_n_sub, u_n_div, u_n_mod, nI_clamp, u_m1, u_m1q, u_wI_n, u_wA_n, u_br_t, u_br_f, ↓li_m1, li_0, li_1, li_2, li_3, li_4, li_5, li_6, li_7, li_8, li_9, li_10, li_12, li_13, li_26, li_40, li_60, li_61, li_62, li_99, li_100, li_102, li_106, li_114, li_112, li_117, li_108, li_103, li_120, li_300, li_360, li_512, li_1000]
  have R1 : RI m u w L (stP σ 12 0 21 1 (nI 0)) := R.t1
  refine r_runs (c := 1) (L := []) (p2 := mI) (p3 := 0) (vf := vf0 m u q) hN R1 hL WQ' WX' WT' hq h0 hb hd (by decide) ⟨by simp only [sP_stP, Nat.reduceEqDiff, true_and, and_true, false_and, and_false, if_true, if_false, eq_self, and_self, Nat.reduceLT, Nat.reduceLeDiff, Nat.reduceAdd, Nat.reduceMul, Nat.reduceDiv, Nat.one_ne_zero]; rfl, fun j hj => by simp at hj⟩ (CK0 WC'.1) (fun s k X Ck => ?_)
  have R2 := R1.ky k (by decide) X.1 hL
  rw [if_neg (by decide)] at R2
  refine h s (KC.st.trans k.kc) R2 X.2.1 X.2.2 ?_
  rw [k.ff (by unfold fY; omega)]
  simp only [sP_stP, Nat.reduceEqDiff, true_and, and_true, false_and, and_false, if_true, if_false, eq_self, and_self, Nat.reduceLT, Nat.reduceLeDiff, Nat.reduceAdd, Nat.reduceMul, Nat.reduceDiv, Nat.one_ne_zero]
theorem finC (C : CA m u w L σ) (W : WA m u L kk) (hk : kk < 512) (k : KT σ s) (kc : KC s s2) (R2 : RI m u w L s2) : Inv (kk + 1) s2 :=
  Inv.mk R2 ((C.kt k).km kc) ⟨W.1, W.2.1, W.2.2.1, W.2.2.2.1, WD_up W.2.2.2.2 hk⟩
theorem k_cold (hN : 1000000 ≤ N) (I : Inv kk σ) (hk : kk < 512) (p1 p2 : Int32) {T : Int32 → Int32 → St → Prop} (hT : ∀ code b σ2, G (kk + 1) code b σ2 → T code b σ2) : z_L_cold N (some 0) p1 p2 σ (fun code σ1 => z_X12_cold N 0 p1 p2 σ1 (fun b σ2 => T code b σ2)) := by
  have I0 := I
  obtain ⟨m, u, w, L, R, C, W⟩ := I
  have CQ' := C.2.2.2.2.1
  have WQ' := W.2.2.2.1
  have hC := C.1
  unfold C0 at hC
  have R0 : RI m u w L (stP σ 12 0 0 0 (nI 0)) := R.tmp rfl
  have hL : L.length ≤ 12 := by have := W.2.2.1.1; have := W.2.2.1.2.1; omega
  rcases u_io p1 2 with ⟨d, hd, _, rfl⟩ | hp1
  · rcases u_io p2 (m 24 0) with ⟨q, hq, _, rfl⟩ | hp2
    · by_cases h0 : 0 < m 25 q
      · have hb := (W.2.2.2.2.1 d hd).1
        simp (disch := omega) only [z_L_cold, z_X11_cold, c_D hd, c_needPosT CQ' WQ' hq h0, u_br_True, u_br_False, u_jn_u, u_lt_u, u_nn_s, u_brn_s, u_brn_n]
        refine c_runCold hN C W hd hq h0 (fun s k1 km R1 => ?_)
        have e6 : sQ s 11 0 6 0 = some 0 := by rw [k1.2.1 11 _ _ _ (by decide)]; exact hC.2.2.2.2.1
        have e8 := R1.2.2.1
        simp (disch := omega) only [e6, z_X8_missCount, e8, u_br_True, u_br_False, u_jn_u, u_lt_u, u_nn_s, u_brn_s, u_brn_n, nI_add, u_n_mul, u_n_lt, u_n_le, u_n_eq, u_n_sub, u_n_div, u_n_mod, nI_clamp, u_m1, u_m1q, u_wI_n, u_wA_n, u_br_t, u_br_f, ↓li_m1, li_0, li_1, li_2, li_3, li_4, li_5, li_6, li_7, li_8, li_9, li_10, li_12, li_13, li_26, li_40, li_60, li_61, li_62, li_99, li_100, li_102, li_106, li_114, li_112, li_117, li_108, li_103, li_120, li_300, li_360, li_512, li_1000, wA_l, l0c, z_X12_cold]
        have R2 : RI m u w L (stP (stL s 13 0 0 0 (nI (rsC m u q (m 46 d) d []).2.1).toInt64) 12 0 0 0 (nI 0)) := ((R.km km).km KM.stL).tmp rfl
        simp (disch := omega) only [r_noPlanT R2 WQ' hd hq h0, u_br_True, u_br_False, u_jn_u, u_lt_u, u_nn_s, u_brn_s, u_brn_n, nI_add, u_n_mul, u_n_lt, u_n_le, u_n_eq, u_n_sub, u_n_div, u_n_mod, nI_clamp, u_m1, u_m1q, u_wI_n, u_wA_n, u_br_t, u_br_f, ↓li_m1, li_0, li_1, li_2, li_3, li_4, li_5, li_6, li_7, li_8, li_9, li_10, li_12, li_13, li_26, li_40, li_60, li_61, li_62, li_99, li_100, li_102, li_106, li_114, li_112, li_117, li_108, li_103, li_120, li_300, li_360, li_512, li_1000, b10, b00, f_0, f_1, u_okT, u_nb_0, u_nb_1, R2.r 46 d rfl]
        refine r_cold hN R2 W hL hq h0 hb hd (fun s2 kc R3 e22 e23 e0 => ?_)
        rw [e22]
        refine hT _ _ _ (G_ok (finC C W hk (s := stL s 13 0 0 0 (nI (rsC m u q (m 46 d) d []).2.1).toInt64) k1 (KC.st.trans kc) R3) (e0.trans (by simp only [sP_stP, Nat.reduceEqDiff, true_and, and_true, false_and, and_false, if_true, if_false, eq_self, and_self, Nat.reduceLT, Nat.reduceLeDiff, Nat.reduceAdd, Nat.reduceMul, Nat.reduceDiv, Nat.one_ne_zero])) ?_)
        rw [kc.2.1]
        simp only [sL_stP, sL_stL, Nat.reduceEqDiff, true_and, and_true, false_and, and_false, if_true, if_false, eq_self, and_self, Nat.reduceLT, Nat.reduceLeDiff, Nat.reduceAdd, Nat.reduceMul, Nat.reduceDiv, Nat.one_ne_zero]
      · simp (disch := omega) only [z_L_cold, z_X11_cold, z_X12_cold, c_D hd, c_needPos3 CQ' WQ' hq (by omega : m 25 q = 0), r_noPlan3 R0 WQ' hd hq (by omega : m 25 q = 0), u_br_True, u_br_False, u_jn_u, u_lt_u, u_nn_s, u_brn_s, u_brn_n, ↓li_m1, li_0, li_1, li_2, li_3, li_4, li_5, li_6, li_7, li_8, li_9, li_10, li_12, li_13, li_26, li_40, li_60, li_61, li_62, li_99, li_100, li_102, li_106, li_114, li_112, li_117, li_108, li_103, li_120, li_300, li_360, li_512, li_1000, b10, b00, f_0, f_1, u_okT, u_nb_0, u_nb_1, Nat.reduceEqDiff, true_and, and_true, false_and, and_false, if_true, if_false, eq_self, and_self, Nat.reduceLT, Nat.reduceLeDiff, Nat.reduceAdd, Nat.reduceMul, Nat.reduceDiv, Nat.one_ne_zero]
        exact Or.inr (Or.inr (hT _ _ _ (G_exc (c := 3) I0 hk (by decide) (by decide))))
    · simp (disch := omega) only [z_L_cold, z_X11_cold, z_X12_cold, c_D hd, c_needPos2 CQ' WQ' hp2, r_noPlan2 R0 WQ' hd hp2, u_br_True, u_br_False, u_jn_u, u_lt_u, u_nn_s, u_brn_s, u_brn_n, ↓li_m1, li_0, li_1, li_2, li_3, li_4, li_5, li_6, li_7, li_8, li_9, li_10, li_12, li_13, li_26, li_40, li_60, li_61, li_62, li_99, li_100, li_102, li_106, li_114, li_112, li_117, li_108, li_103, li_120, li_300, li_360, li_512, li_1000, b10, b00, f_0, f_1, u_okT, u_nb_0, u_nb_1, Nat.reduceEqDiff, true_and, and_true, false_and, and_false, if_true, if_false, eq_self, and_self, Nat.reduceLT, Nat.reduceLeDiff, Nat.reduceAdd, Nat.reduceMul, Nat.reduceDiv, Nat.one_ne_zero]
      exact Or.inr (Or.inl (hT _ _ _ (G_exc (c := 2) I0 hk (by decide) (by decide))))
  · simp (disch := omega) only [z_L_cold, z_X11_cold, z_X12_cold, c_DO hp1, r_noPlan1 hp1, u_br_True, u_br_False, u_jn_u, u_lt_u, u_nn_s, u_brn_s, u_brn_n, ↓li_m1, li_0, li_1, li_2, li_3, li_4, li_5, li_6, li_7, li_8, li_9, li_10, li_12, li_13, li_26, li_40, li_60, li_61, li_62, li_99, li_100, li_102, li_106, li_114, li_112, li_117, li_108, li_103, li_120, li_300, li_360, li_512, li_1000, b10, b00, f_0, f_1, u_okT, u_nb_0, u_nb_1, Nat.reduceEqDiff, true_and, and_true, false_and, and_false, if_true, if_false, eq_self, and_self, Nat.reduceLT, Nat.reduceLeDiff, Nat.reduceAdd, Nat.reduceMul, Nat.reduceDiv, Nat.one_ne_zero]
    exact Or.inl (hT _ _ _ (G_exc (c := 1) I0 hk (by decide) (by decide)))
theorem k_reads (hN : 1000000 ≤ N) (I : Inv kk σ) (hk : kk < 512) (p1 p2 : Int32) {T : Int32 → Int32 → St → Prop} (hT : ∀ code b σ2, G (kk + 1) code b σ2 → T code b σ2) : z_L_reads N (some 0) p1 p2 σ (fun code σ1 => z_X12_reads N 0 p1 p2 σ1 (fun b σ2 => T code b σ2)) := by
  have I0 := I
  obtain ⟨m, u, w, L, R, C, W⟩ := I
  have CQ' := C.2.2.2.2.1
  have WQ' := W.2.2.2.1
  have hC := C.1
  unfold C0 at hC
  have R0 : RI m u w L (stP σ 12 0 0 0 (nI 0)) := R.tmp rfl
  have hL : L.length ≤ 12 := by have := W.2.2.1.1; have := W.2.2.1.2.1; omega
  rcases u_io p1 2 with ⟨d, hd, _, rfl⟩ | hp1
  · rcases u_io p2 (m 24 0) with ⟨q, hq, _, rfl⟩ | hp2
    · by_cases h0 : 0 < m 25 q
      · have hb := (W.2.2.2.2.1 d hd).1
        simp (disch := omega) only [z_L_reads, z_X11_reads, c_D hd, c_needPosT CQ' WQ' hq h0, u_br_True, u_br_False, u_jn_u, u_lt_u, u_nn_s, u_brn_s, u_brn_n]
        refine c_runCold hN C W hd hq h0 (fun s k1 km R1 => ?_)
        have e6 : sQ s 11 0 6 0 = some 0 := by rw [k1.2.1 11 _ _ _ (by decide)]; exact hC.2.2.2.2.1
        have e8 := R1.2.1
        simp (disch := omega) only [e6, z_X8_readCount, e8, u_br_True, u_br_False, u_jn_u, u_lt_u, u_nn_s, u_brn_s, u_brn_n, nI_add, u_n_mul, u_n_lt, u_n_le, u_n_eq, u_n_sub, u_n_div, u_n_mod, nI_clamp, u_m1, u_m1q, u_wI_n, u_wA_n, u_br_t, u_br_f, ↓li_m1, li_0, li_1, li_2, li_3, li_4, li_5, li_6, li_7, li_8, li_9, li_10, li_12, li_13, li_26, li_40, li_60, li_61, li_62, li_99, li_100, li_102, li_106, li_114, li_112, li_117, li_108, li_103, li_120, li_300, li_360, li_512, li_1000, wA_l, l0c, z_X12_reads]
        have R2 : RI m u w L (stP (stL s 13 0 0 0 (nI (rsC m u q (m 46 d) d []).1).toInt64) 12 0 0 0 (nI 0)) := ((R.km km).km KM.stL).tmp rfl
        simp (disch := omega) only [r_noPlanT R2 WQ' hd hq h0, u_br_True, u_br_False, u_jn_u, u_lt_u, u_nn_s, u_brn_s, u_brn_n, nI_add, u_n_mul, u_n_lt, u_n_le, u_n_eq, u_n_sub, u_n_div, u_n_mod, nI_clamp, u_m1, u_m1q, u_wI_n, u_wA_n, u_br_t, u_br_f, ↓li_m1, li_0, li_1, li_2, li_3, li_4, li_5, li_6, li_7, li_8, li_9, li_10, li_12, li_13, li_26, li_40, li_60, li_61, li_62, li_99, li_100, li_102, li_106, li_114, li_112, li_117, li_108, li_103, li_120, li_300, li_360, li_512, li_1000, b10, b00, f_0, f_1, u_okT, u_nb_0, u_nb_1, R2.r 46 d rfl]
        refine r_cold hN R2 W hL hq h0 hb hd (fun s2 kc R3 e22 e23 e0 => ?_)
        rw [e23]
        refine hT _ _ _ (G_ok (finC C W hk (s := stL s 13 0 0 0 (nI (rsC m u q (m 46 d) d []).1).toInt64) k1 (KC.st.trans kc) R3) (e0.trans (by simp only [sP_stP, Nat.reduceEqDiff, true_and, and_true, false_and, and_false, if_true, if_false, eq_self, and_self, Nat.reduceLT, Nat.reduceLeDiff, Nat.reduceAdd, Nat.reduceMul, Nat.reduceDiv, Nat.one_ne_zero])) ?_)
        rw [kc.2.1]
        simp only [sL_stP, sL_stL, Nat.reduceEqDiff, true_and, and_true, false_and, and_false, if_true, if_false, eq_self, and_self, Nat.reduceLT, Nat.reduceLeDiff, Nat.reduceAdd, Nat.reduceMul, Nat.reduceDiv, Nat.one_ne_zero]
      · simp (disch := omega) only [z_L_reads, z_X11_reads, z_X12_reads, c_D hd, c_needPos3 CQ' WQ' hq (by omega : m 25 q = 0), r_noPlan3 R0 WQ' hd hq (by omega : m 25 q = 0), u_br_True, u_br_False, u_jn_u, u_lt_u, u_nn_s, u_brn_s, u_brn_n, ↓li_m1, li_0, li_1, li_2, li_3, li_4, li_5, li_6, li_7, li_8, li_9, li_10, li_12, li_13, li_26, li_40, li_60, li_61, li_62, li_99, li_100, li_102, li_106, li_114, li_112, li_117, li_108, li_103, li_120, li_300, li_360, li_512, li_1000, b10, b00, f_0, f_1, u_okT, u_nb_0, u_nb_1, Nat.reduceEqDiff, true_and, and_true, false_and, and_false, if_true, if_false, eq_self, and_self, Nat.reduceLT, Nat.reduceLeDiff, Nat.reduceAdd, Nat.reduceMul, Nat.reduceDiv, Nat.one_ne_zero]
        exact Or.inr (Or.inr (hT _ _ _ (G_exc (c := 3) I0 hk (by decide) (by decide))))
    · simp (disch := omega) only [z_L_reads, z_X11_reads, z_X12_reads, c_D hd, c_needPos2 CQ' WQ' hp2, r_noPlan2 R0 WQ' hd hp2, u_br_True, u_br_False, u_jn_u, u_lt_u, u_nn_s, u_brn_s, u_brn_n, ↓li_m1, li_0, li_1, li_2, li_3, li_4, li_5, li_6, li_7, li_8, li_9, li_10, li_12, li_13, li_26, li_40, li_60, li_61, li_62, li_99, li_100, li_102, li_106, li_114, li_112, li_117, li_108, li_103, li_120, li_300, li_360, li_512, li_1000, b10, b00, f_0, f_1, u_okT, u_nb_0, u_nb_1, Nat.reduceEqDiff, true_and, and_true, false_and, and_false, if_true, if_false, eq_self, and_self, Nat.reduceLT, Nat.reduceLeDiff, Nat.reduceAdd, Nat.reduceMul, Nat.reduceDiv, Nat.one_ne_zero]
      exact Or.inr (Or.inl (hT _ _ _ (G_exc (c := 2) I0 hk (by decide) (by decide))))
  · simp (disch := omega) only [z_L_reads, z_X11_reads, z_X12_reads, c_DO hp1, r_noPlan1 hp1, u_br_True, u_br_False, u_jn_u, u_lt_u, u_nn_s, u_brn_s, u_brn_n, ↓li_m1, li_0, li_1, li_2, li_3, li_4, li_5, li_6, li_7, li_8, li_9, li_10, li_12, li_13, li_26, li_40, li_60, li_61, li_62, li_99, li_100, li_102, li_106, li_114, li_112, li_117, li_108, li_103, li_120, li_300, li_360, li_512, li_1000, b10, b00, f_0, f_1, u_okT, u_nb_0, u_nb_1, Nat.reduceEqDiff, true_and, and_true, false_and, and_false, if_true, if_false, eq_self, and_self, Nat.reduceLT, Nat.reduceLeDiff, Nat.reduceAdd, Nat.reduceMul, Nat.reduceDiv, Nat.one_ne_zero]
    exact Or.inl (hT _ _ _ (G_exc (c := 1) I0 hk (by decide) (by decide)))
end KCOLD
