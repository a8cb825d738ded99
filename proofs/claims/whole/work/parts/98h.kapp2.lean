section KAPP2
variable {m m' : Nat → Nat → Nat} {u w w' : Nat → Int32} {L L0 L2 : List Nat} {σ σ' σ0 s s2 σ1 : St} {N kk n q p d ban t c k a x i j f b y key F p3 a0 b0 : Nat} {v wi was win p2 : Int32}
theorem ap_fin (W : WA m u L kk) (hk : kk < 512) (hd : d < 2) (C : CA m u w L σ) (e : ∀ k i f j, k ≠ 2 → sP s k i f j = sP σ k i f j) (eq : sQ s = sQ σ) (ev : sV s = sV σ) (D : CD (mAp m d was win) w' s) : CA (mAp m d was win) u w' L s ∧ WA (mAp m d was win) u L (kk + 1) := by
  obtain ⟨WT', WX', WC', WQ', WD'⟩ := W
  obtain ⟨C1, C2, C3, C4, C5, C6, C7⟩ := C
  obtain ⟨S1, S2, S3, S4⟩ := SS.of2 ⟨C1, C2, C3, C5⟩ e eq ev
  have hn := WD'.2.1
  refine ⟨⟨S1, ?_, ?_, ?_, ?_, D, CP_0 mAp16⟩, ?_, ?_, ?_, ?_, ?_⟩
  · unfold mAp; simp (disch := decide) only [CT_mu]; exact S2
  · unfold mAp; simp (disch := decide) only [CX_mu]; exact S3
  · unfold mAp; simp (disch := decide) only [CC_mu]
    unfold CC at C4 ⊢
    simp only [e 0 _ _ _ (by decide)]
    exact C4
  · unfold mAp; simp (disch := decide) only [CQ_mu]; exact S4
  · unfold mAp; simp (disch := decide) only [WT_mu]; exact WT'
  · unfold mAp; simp (disch := decide) only [WX_mu]; exact WX'
  · unfold mAp; simp (disch := decide) only [WC_mu]; exact WC'
  · unfold mAp; simp (disch := decide) only [WQ_mu]; exact WQ'
  · refine ⟨fun x hx => ?_, by rw [mAp_f (by decide) (by decide)]; omega, by rw [mAp16]; exact Nat.zero_le _, by omega⟩
    obtain ⟨v1, v2, v3, v4⟩ := WD'.1 x hx
    have := cAp_le (m := m) (d := d) (was := was) (win := win) (x := x)
    rw [mAp_f (f := 46) (by decide) (by decide), mAp_f (f := 54) (by decide) (by decide), mAp51 hd hx]
    exact ⟨v1, v2, by omega, v4⟩
theorem k_appealT (hN : 1000000 ≤ N) (C : CA m u w L σ) (R : RI m u w L σ) (W : WA m u L kk) (hk : kk < 512) (hd : d < 2) (h16 : m 16 0 = 1) (hc : m 51 d ≠ 0) {T : Int32 → Int32 → St → Prop} (hT : ∀ code b σ2, G (kk + 1) code b σ2 → T code b σ2) : z_L_appeal N (some 0) (nI d) σ (fun code σ1 => z_X12_appeal N 0 (nI d) σ1 (fun b σ2 => T code b σ2)) := by
  have C' := C
  have W' := W
  obtain ⟨C0', CT', CX', CC', CQ', CD', CP'⟩ := C
  obtain ⟨WT', WX', WC', WQ', WD'⟩ := W
  have hC := C0'
  unfold C0 at hC
  obtain ⟨g0, g3, g4, g5, g6, g7, g8, g9, g11, g60, g80⟩ := hC
  obtain ⟨hq, h0, hn, e10, _, _⟩ := CP' h16
  have hn5 : m 52 0 ≤ 512 := by have := WD'.2.1; have := WD'.2.2.2; omega
  have hcd := (WD'.1 d hd).2.2.1
  have hkk := WD'.2.2.2
  have e5 : sP σ 2 0 5 0 = nI 1 := CD'.2.2.2.2.2.1.trans (by rw [h16])
  have e51 := CD'.1 d hd
  have M0 := AM_lt (d := 0) WQ' WT' WX' hq
  have M1 := AM_lt (d := 1) WQ' WT' WX' hq
  obtain ⟨a0, ha, wa⟩ := CD'.2.2.2.2.2.2 (2 * m 52 0 - 2) (by omega)
  obtain ⟨b0, hb, wb⟩ := CD'.2.2.2.2.2.2 (2 * m 52 0 - 1) (by omega)
  simp (disch := omega) only [z_L_appeal, z_X11_appeal, c_D hd, g11, z_X2_isOpenToAppeals, e5, e10, z_X2_purseOf, e51, u_br_True, u_br_False, u_jn_u, u_lt_u, u_nn_s, u_brn_s, u_brn_n, nI_add, u_n_mul, u_n_lt, u_n_le, u_n_eq, u_n_sub, u_n_div, u_n_mod, nI_clamp, u_m1, u_m1q, u_wI_n, u_wA_n, u_br_t, u_br_f, ↓li_m1, li_0, li_1, li_2, li_3, li_4, li_5, li_6, li_7, li_8, li_9, li_10, li_12, li_13, li_26, li_40, li_60, li_61, li_62, li_99, li_100, li_102, li_106, li_114, li_112, li_117, li_108, li_103, li_120, li_300, li_360, li_512, li_1000, b10, b00, f_0, f_1, u_okT, u_nb_0, u_nb_1, eq_self, g6, g0, g8]
  -- the first run
  refine c_trial C0' CC' WC'.1 (fun s1 X1 e1 l1 q1 d1 v1 => ?_)
  have kt1 : KT σ s1 := ⟨fun k i f j h0 _ _ _ => e1 k i f j (fun e => by rcases h0 with h0 | h0 <;> omega), fun k i f j _ => by rw [q1], fun i => by rw [q1], v1⟩
  have km1 : KM σ s1 := fun i f j => e1 12 i f j (fun e => absurd e.1 (by decide))
  have C1 : CA m u w L s1 := C'.kt kt1
  refine c_follow (ban := m 54 0) (d := 0) (L := []) hN ⟨C1.1, C1.2.1, C1.2.2.1, C1.2.2.2.2.1⟩ WQ' WT' WX' hq h0 (C1.2.2.2.2.2.2 h16).2.2.2.2.1 X1 (CK0 WC'.1) (vf0 m u (m 55 0)) (fun g => rfl) (fun s2 R2 k2 => ?_)
  rw [rsC_x] at R2
  have a2 : sP s2 8 0 8 0 = nI (AM m u 0) := R2.2.2.1
  have C2 : CA m u w L s2 := C1.kt k2.kt
  have q2 : ∀ f, sQ s2 11 0 f 0 = sQ σ 11 0 f 0 := fun f => (k2.2.2.1 11 0 f 0 (fun e => absurd e.1 (by decide))).trans (by rw [q1])
  simp only [q2, g6, g0, g9, u_br_True, u_br_False, u_jn_u, u_lt_u, u_nn_s, u_brn_s, u_brn_n, e10]
  -- the second run
  refine c_trial C2.1 C2.2.2.2.1 WC'.1 (fun s3 X3 e3 l3 q3 d3 v3 => ?_)
  have kt3 : KT s2 s3 := ⟨fun k i f j h0 _ _ _ => e3 k i f j (fun e => by rcases h0 with h0 | h0 <;> omega), fun k i f j _ => by rw [q3], fun i => by rw [q3], v3⟩
  have km3 : KM s2 s3 := fun i f j => e3 12 i f j (fun e => absurd e.1 (by decide))
  have C3 : CA m u w L s3 := C2.kt kt3
  refine c_follow (ban := m 54 1) (d := 1) (L := []) hN ⟨C3.1, C3.2.1, C3.2.2.1, C3.2.2.2.2.1⟩ WQ' WT' WX' hq h0 (C3.2.2.2.2.2.2 h16).2.2.2.2.2 X3 (CK0 WC'.1) (vf0 m u (m 55 0)) (fun g => rfl) (fun s4 R4 k4 => ?_)
  rw [rsC_x] at R4
  have a4 : sP s4 8 0 8 0 = nI (AM m u 1) := R4.2.2.1
  have C4 : CA m u w L s4 := C3.kt k4.kt
  have q4 : ∀ f, sQ s4 11 0 f 0 = sQ σ 11 0 f 0 := fun f => (k4.2.2.1 11 0 f 0 (fun e => absurd e.1 (by decide))).trans ((by rw [q3] : sQ s3 11 0 f 0 = sQ s2 11 0 f 0).trans (q2 f))
  have D4 := C4.2.2.2.2.2.1
  have h44 : sP s4 2 0 4 0 = wn (nI a0) (nI b0) := (D4.2.2.2.2.1 hn).trans (by rw [wa, wb])
  simp only [q4, g11, u_br_True, u_br_False, u_jn_u, u_lt_u, u_nn_s, u_brn_s, u_brn_n, a2, a4]
  refine c_endAppeal (m' := mAp m d (wn (nI a0) (nI b0)) (wn (nI (AM m u 0)) (nI (AM m u 1)))) (w' := upd (upd w (2 * m 52 0 - 2) (nI (AM m u 0))) (2 * m 52 0 - 1) (nI (AM m u 1))) D4 hn hn5 hd M0 M1 (fun x hx => by have := (WD'.1 x hx).2.2.1; omega) wn_is h44 (fun x hx => mAp51 hd hx) (fun x hx => mAp_f (by decide) (by decide)) (mAp_f (by decide) (by decide)) mAp16 (fun j hj => by unfold upd; rw [if_neg (by omega), if_neg (by omega)]) (by unfold upd; rw [if_neg (by omega), if_pos rfl]) (by unfold upd; rw [if_pos rfl]) (fun s5 D5 w5 e5' l5 Q5 d5 v5 => ?_)
  simp (disch := omega) only [Q5, q4, g11, z_X2_winner, w5, wA_l, l0c, u_br_True, u_br_False, u_jn_u, u_lt_u, u_nn_s, u_brn_s, u_brn_n]
  have R5 : RI m u w L (stL s5 13 0 0 0 (wn (nI (AM m u 0)) (nI (AM m u 1))).toInt64) := (R.km (((((km1.trans k2.km).trans km3).trans k4.km)).trans (fun i f j => e5' 12 i f j (by decide)))).km KM.stL
  obtain ⟨CAf, WAf⟩ := ap_fin W' hk hd C4 e5' Q5 v5 D5
  refine r_appeal hN R5 W' hd h16 hq h0 hn hc wa wb ha hb (fun s7 R7 kc z0 => ?_)
  exact hT _ _ _ (fin CAf R7 kc WAf z0)
theorem k_appeal (hN : 1000000 ≤ N) (I : Inv kk σ) (hk : kk < 512) (p1 : Int32) {T : Int32 → Int32 → St → Prop} (hT : ∀ code b σ2, G (kk + 1) code b σ2 → T code b σ2) : z_L_appeal N (some 0) p1 σ (fun code σ1 => z_X12_appeal N 0 p1 σ1 (fun b σ2 => T code b σ2)) := by
  have I0 := I
  obtain ⟨m, u, w, L, R, C, W⟩ := I
  have CD' := C.2.2.2.2.2.1
  have hC := C.1
  unfold C0 at hC
  have WD' := W.2.2.2.2
  have R0 : RI m u w L (stP σ 12 0 0 0 (nI 0)) := R.tmp rfl
  rcases u_io p1 2 with ⟨d, hd, _, rfl⟩ | hp1
  · by_cases h16 : m 16 0 = 1
    · by_cases hc : m 51 d = 0
      · have e5 : sP σ 2 0 5 0 = nI 1 := CD'.2.2.2.2.2.1.trans (by rw [h16])
        have e51 : sP σ 2 0 0 d = nI 0 := (CD'.1 d hd).trans (by rw [hc])
        have e10 := (C.2.2.2.2.2.2 h16).2.2.2.1
        simp (disch := omega) only [z_L_appeal, z_X11_appeal, c_D hd, hC, z_X2_isOpenToAppeals, e5, e10, z_X2_purseOf, e51, u_br_True, u_br_False, u_jn_u, u_lt_u, u_nn_s, u_brn_s, u_brn_n, nI_add, u_n_mul, u_n_lt, u_n_le, u_n_eq, u_n_sub, u_n_div, u_n_mod, nI_clamp, u_m1, u_m1q, u_wI_n, u_wA_n, u_br_t, u_br_f, ↓li_m1, li_0, li_1, li_2, li_3, li_4, li_5, li_6, li_7, li_8, li_9, li_10, li_12, li_13, li_26, li_40, li_60, li_61, li_62, li_99, li_100, li_102, li_106, li_114, li_112, li_117, li_108, li_103, li_120, li_300, li_360, li_512, li_1000, b10, b00, f_0, f_1, u_okT, u_nb_0, u_nb_1, Nat.reduceEqDiff, true_and, and_true, false_and, and_false, if_true, if_false, eq_self, and_self, Nat.reduceLT, Nat.reduceLeDiff, Nat.reduceAdd, Nat.reduceMul, Nat.reduceDiv, Nat.one_ne_zero]
        refine Or.inr (Or.inr ?_)
        have r16 : sP (stP σ 12 0 0 0 (nI 0)) 12 0 16 0 = nI 1 := by rw [R0.r 16 0 rfl, h16]
        have r51 : sP (stP σ 12 0 0 0 (nI 0)) 12 0 51 d = nI 0 := by rw [R0.r 51 d rfl, hc]
        simp (disch := omega) only [z_X12_appeal, u_br_True, u_br_False, u_jn_u, u_lt_u, u_nn_s, u_brn_s, u_brn_n, nI_add, u_n_mul, u_n_lt, u_n_le, u_n_eq, u_n_sub, u_n_div, u_n_mod, nI_clamp, u_m1, u_m1q, u_wI_n, u_wA_n, u_br_t, u_br_f, ↓li_m1, li_0, li_1, li_2, li_3, li_4, li_5, li_6, li_7, li_8, li_9, li_10, li_12, li_13, li_26, li_40, li_60, li_61, li_62, li_99, li_100, li_102, li_106, li_114, li_112, li_117, li_108, li_103, li_120, li_300, li_360, li_512, li_1000, r_inT, r_inL, r_inH, r_inPT, r_inPF, b10, b00, f_0, f_1, u_okT, u_nb_0, u_nb_1, r16, r51]
        exact hT _ _ _ (G_exc (c := 3) I0 hk (by decide) (by decide))
      · exact k_appealT hN C R W hk hd h16 hc hT
    · have h160 : m 16 0 = 0 := by have := WD'.2.2.1; omega
      have e5 : sP σ 2 0 5 0 = nI 0 := CD'.2.2.2.2.2.1.trans (by rw [h160])
      simp (disch := omega) only [z_L_appeal, z_X11_appeal, c_D hd, hC, z_X2_isOpenToAppeals, e5, u_br_True, u_br_False, u_jn_u, u_lt_u, u_nn_s, u_brn_s, u_brn_n, nI_add, u_n_mul, u_n_lt, u_n_le, u_n_eq, u_n_sub, u_n_div, u_n_mod, nI_clamp, u_m1, u_m1q, u_wI_n, u_wA_n, u_br_t, u_br_f, ↓li_m1, li_0, li_1, li_2, li_3, li_4, li_5, li_6, li_7, li_8, li_9, li_10, li_12, li_13, li_26, li_40, li_60, li_61, li_62, li_99, li_100, li_102, li_106, li_114, li_112, li_117, li_108, li_103, li_120, li_300, li_360, li_512, li_1000, b10, b00, f_0, f_1, u_okT, u_nb_0, u_nb_1, Nat.reduceEqDiff, true_and, and_true, false_and, and_false, if_true, if_false, eq_self, and_self, Nat.reduceLT, Nat.reduceLeDiff, Nat.reduceAdd, Nat.reduceMul, Nat.reduceDiv, Nat.one_ne_zero]
      refine Or.inr (Or.inl ?_)
      have r16 : sP (stP σ 12 0 0 0 (nI 0)) 12 0 16 0 = nI 0 := by rw [R0.r 16 0 rfl, h160]
      simp (disch := omega) only [z_X12_appeal, u_br_True, u_br_False, u_jn_u, u_lt_u, u_nn_s, u_brn_s, u_brn_n, nI_add, u_n_mul, u_n_lt, u_n_le, u_n_eq, u_n_sub, u_n_div, u_n_mod, nI_clamp, u_m1, u_m1q, u_wI_n, u_wA_n, u_br_t, u_br_f, ↓li_m1, li_0, li_1, li_2, li_3, li_4, li_5, li_6, li_7, li_8, li_9, li_10, li_12, li_13, li_26, li_40, li_60, li_61, li_62, li_99, li_100, li_102, li_106, li_114, li_112, li_117, li_108, li_103, li_120, li_300, li_360, li_512, li_1000, r_inT, r_inL, r_inH, r_inPT, r_inPF, b10, b00, f_0, f_1, u_okT, u_nb_0, u_nb_1, r16]
      exact hT _ _ _ (G_exc (c := 2) I0 hk (by decide) (by decide))
  · simp only [z_L_appeal, z_X11_appeal, c_DO hp1, u_br_True, u_br_False, u_jn_u, u_lt_u, u_nn_s, u_brn_s, u_brn_n, ↓li_m1, li_0, li_1, li_2, li_3, li_4, li_5, li_6, li_7, li_8, li_9, li_10, li_12, li_13, li_26, li_40, li_60, li_61, li_62, li_99, li_100, li_102, li_106, li_114, li_112, li_117, li_108, li_103, li_120, li_300, li_360, li_512, li_1000, Nat.reduceEqDiff, true_and, and_true, false_and, and_false, if_true, if_false, eq_self, and_self, Nat.reduceLT, Nat.reduceLeDiff, Nat.reduceAdd, Nat.reduceMul, Nat.reduceDiv, Nat.one_ne_zero]
    refine Or.inl ?_
    simp (disch := omega) only [z_X12_appeal, r_inO2 hp1, u_br_True, u_br_False, u_jn_u, u_lt_u, u_nn_s, u_brn_s, u_brn_n, nI_add, u_n_mul, u_n_lt, u_n_le, u_n_eq, u_n_sub, u_n_div, u_n_mod, nI_clamp, u_m1, u_m1q, u_wI_n, u_wA_n, u_br_t, u_br_f, ↓li_m1, li_0, li_1, li_2, li_3, li_4, li_5, li_6, li_7, li_8, li_9, li_10, li_12, li_13, li_26, li_40, li_60, li_61, li_62, li_99, li_100, li_102, li_106, li_114, li_112, li_117, li_108, li_103, li_120, li_300, li_360, li_512, li_1000, b10, b00, f_0, f_1, u_okT, u_nb_0, u_nb_1, Nat.reduceEqDiff, true_and, and_true, false_and, and_false, if_true, if_false, eq_self, and_self, Nat.reduceLT, Nat.reduceLeDiff, Nat.reduceAdd, Nat.reduceMul, Nat.reduceDiv, Nat.one_ne_zero]
    exact hT _ _ _ (G_exc (c := 1) I0 hk (by decide) (by decide))
end KAPP2
