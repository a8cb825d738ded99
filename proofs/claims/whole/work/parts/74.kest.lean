section KEST
variable {m : Nat → Nat → Nat} {u w : Nat → Int32} {L : List Nat} {σ σ' s s2 : St} {N kk n q p d ban : Nat}
/-- a call's long answer agrees, and the invariant holds on -/
def GL (kk : Nat) (code : Int32) (b : Int64) (σ : St) : Prop := sP σ 12 0 0 0 = code ∧ (code = nI 0 → sL_ σ 13 0 0 0 = b) ∧ Inv kk σ
theorem GL_exc {c : Nat} {b : Int64} (I : Inv kk σ) (h : kk < 512) (h0 : 0 < c) (h1 : c < 100) : GL (kk + 1) (nI c) b (stP σ 12 0 0 0 (nI c)) := by
  refine ⟨by simp [sP_stP], fun e => ?_, Inv_up (Inv_tmp I rfl) h⟩
  rw [u_n_eq (by omega) (by omega)] at e
  omega
theorem plO_lt (hn : m 25 q ≤ 3) (hp : p < m 25 q) : plO m q ban d p < m 25 q := by
  unfold plO
  split
  · exact hp
  · obtain ⟨b1, b2, _⟩ := best_spec (m := m) (q := q) (ban := ban)
    exact ((cO_1 _ (by omega) _ b1 b2).2.2 p hp).2
theorem plW_ok (hn : m 25 q ≤ 3) (hp : p < m 25 q) : okW m q ban (plO m q ban d) p (plW m q ban d p) := by
  unfold plO plW
  by_cases h : d = 0
  · rw [if_pos h, if_pos h]; exact bway_ok (by omega)
  · rw [if_neg h, if_neg h]; exact gway_spec.1
theorem c_needPosT (CQ' : CQ m σ) (WQ' : WQ m) (hq : q < m 24 0) (h0 : 0 < m 25 q) {K : Option Nat → St → Prop} {KX : String → St → Prop} : z_X11_needPositions N 0 (nI q) σ K KX = K (some q) σ := by
  have w3 := (WQ'.2.2 q hq).1
  have e1 := (CQ'.2.2.2 q hq).1
  simp (disch := omega) only [z_X11_needPositions, c_needQ CQ' WQ' hq, z_X7_size, u_br_True, u_br_False, u_jn_u, u_lt_u, u_nn_s, u_brn_s, u_brn_n, nI_add, u_n_mul, u_n_lt, u_n_le, u_n_eq, u_n_sub, u_n_div, u_n_mod, nI_clamp, u_m1, u_m1q, u_wI_n, u_wA_n, u_br_t, u_br_f, ↓li_m1, li_0, li_1, li_2, li_3, li_4, li_5, li_6, li_7, li_8, li_9, li_10, li_12, li_13, li_26, li_40, li_60, li_61, li_62, li_99, li_100, li_102, li_106, li_114, li_112, li_117, li_108, li_103, li_120, li_300, li_360, li_512, li_1000, e1, b10, b00, f_0, f_1, u_okT, u_nb_0, u_nb_1]
theorem c_needPos2 {p2 : Int32} (CQ' : CQ m σ) (WQ' : WQ m) (h : Out p2 (m 24 0)) {K : Option Nat → St → Prop} {KX : String → St → Prop} : z_X11_needPositions N 0 p2 σ K KX = KX "java/lang/IndexOutOfBoundsException" σ := by
  simp only [z_X11_needPositions, c_needQO CQ' WQ' h]
theorem c_needPos3 (CQ' : CQ m σ) (WQ' : WQ m) (hq : q < m 24 0) (h0 : m 25 q = 0) {K : Option Nat → St → Prop} {KX : String → St → Prop} : z_X11_needPositions N 0 (nI q) σ K KX = KX "java/lang/UnsupportedOperationException" σ := by
  have e1 := (CQ'.2.2.2 q hq).1
  rw [h0] at e1
  simp (disch := omega) only [z_X11_needPositions, c_needQ CQ' WQ' hq, z_X7_size, u_br_True, u_br_False, u_jn_u, u_lt_u, u_nn_s, u_brn_s, u_brn_n, nI_add, u_n_mul, u_n_lt, u_n_le, u_n_eq, u_n_sub, u_n_div, u_n_mod, nI_clamp, u_m1, u_m1q, u_wI_n, u_wA_n, u_br_t, u_br_f, ↓li_m1, li_0, li_1, li_2, li_3, li_4, li_5, li_6, li_7, li_8, li_9, li_10, li_12, li_13, li_26, li_40, li_60, li_61, li_62, li_99, li_100, li_102, li_106, li_114, li_112, li_117, li_108, li_103, li_120, li_300, li_360, li_512, li_1000, e1, b10, b00, f_0, f_1, u_okT, u_nb_0, u_nb_1]
theorem r_noPlanT (R : RI m u w L (stP σ 12 0 0 0 (nI 0))) (W : WQ m) (hd : d < 2) (hq : q < m 24 0) (h0 : 0 < m 25 q) {K : Int32 → St → Prop} : z_X12_noPlan N 0 (nI d) (nI q) (stP σ 12 0 0 0 (nI 0)) K = K (nI 0) (stP σ 12 0 0 0 (nI 0)) := by
  have w1 := W.1
  have w3 := (W.2.2 q hq).1
  simp (disch := omega) only [z_X12_noPlan, u_br_True, u_br_False, u_jn_u, u_lt_u, u_nn_s, u_brn_s, u_brn_n, nI_add, u_n_mul, u_n_lt, u_n_le, u_n_eq, u_n_sub, u_n_div, u_n_mod, nI_clamp, u_m1, u_m1q, u_wI_n, u_wA_n, u_br_t, u_br_f, ↓li_m1, li_0, li_1, li_2, li_3, li_4, li_5, li_6, li_7, li_8, li_9, li_10, li_12, li_13, li_26, li_40, li_60, li_61, li_62, li_99, li_100, li_102, li_106, li_114, li_112, li_117, li_108, li_103, li_120, li_300, li_360, li_512, li_1000, r_inT, r_inL, r_inH, r_inPT, r_inPF, b10, b00, f_0, f_1, u_okT, u_nb_0, u_nb_1, r_isQ R W hq, (fun j => R.r 25 j rfl)]
theorem r_noPlan1 {p1 p2 : Int32} (h : Out p1 2) {K : Int32 → St → Prop} : z_X12_noPlan N 0 p1 p2 (stP σ 12 0 0 0 (nI 0)) K = K (nI 1) (stP σ 12 0 0 0 (nI 1)) := by
  simp (disch := omega) only [z_X12_noPlan, u_br_True, u_br_False, u_jn_u, u_lt_u, u_nn_s, u_brn_s, u_brn_n, nI_add, u_n_mul, u_n_lt, u_n_le, u_n_eq, u_n_sub, u_n_div, u_n_mod, nI_clamp, u_m1, u_m1q, u_wI_n, u_wA_n, u_br_t, u_br_f, ↓li_m1, li_0, li_1, li_2, li_3, li_4, li_5, li_6, li_7, li_8, li_9, li_10, li_12, li_13, li_26, li_40, li_60, li_61, li_62, li_99, li_100, li_102, li_106, li_114, li_112, li_117, li_108, li_103, li_120, li_300, li_360, li_512, li_1000, r_inO2 h, b10, b00, f_0, f_1, u_okT, u_nb_0, u_nb_1]
theorem r_noPlan2 {p2 : Int32} (R : RI m u w L (stP σ 12 0 0 0 (nI 0))) (W : WQ m) (hd : d < 2) (h : Out p2 (m 24 0)) {K : Int32 → St → Prop} : z_X12_noPlan N 0 (nI d) p2 (stP σ 12 0 0 0 (nI 0)) K = K (nI 1) (stP σ 12 0 0 0 (nI 2)) := by
  simp (disch := omega) only [z_X12_noPlan, u_br_True, u_br_False, u_jn_u, u_lt_u, u_nn_s, u_brn_s, u_brn_n, nI_add, u_n_mul, u_n_lt, u_n_le, u_n_eq, u_n_sub, u_n_div, u_n_mod, nI_clamp, u_m1, u_m1q, u_wI_n, u_wA_n, u_br_t, u_br_f, ↓li_m1, li_0, li_1, li_2, li_3, li_4, li_5, li_6, li_7, li_8, li_9, li_10, li_12, li_13, li_26, li_40, li_60, li_61, li_62, li_99, li_100, li_102, li_106, li_114, li_112, li_117, li_108, li_103, li_120, li_300, li_360, li_512, li_1000, r_inT, r_inL, r_inH, r_inPT, r_inPF, r_isQO R W h, b10, b00, f_0, f_1, u_okT, u_nb_0, u_nb_1]
theorem r_noPlan3 (R : RI m u w L (stP σ 12 0 0 0 (nI 0))) (W : WQ m) (hd : d < 2) (hq : q < m 24 0) (h : m 25 q = 0) {K : Int32 → St → Prop} : z_X12_noPlan N 0 (nI d) (nI q) (stP σ 12 0 0 0 (nI 0)) K = K (nI 1) (stP σ 12 0 0 0 (nI 3)) := by
  have w1 := W.1
  have e25 := R.r 25 q rfl
  rw [h] at e25
  simp (disch := omega) only [z_X12_noPlan, u_br_True, u_br_False, u_jn_u, u_lt_u, u_nn_s, u_brn_s, u_brn_n, nI_add, u_n_mul, u_n_lt, u_n_le, u_n_eq, u_n_sub, u_n_div, u_n_mod, nI_clamp, u_m1, u_m1q, u_wI_n, u_wA_n, u_br_t, u_br_f, ↓li_m1, li_0, li_1, li_2, li_3, li_4, li_5, li_6, li_7, li_8, li_9, li_10, li_12, li_13, li_26, li_40, li_60, li_61, li_62, li_99, li_100, li_102, li_106, li_114, li_112, li_117, li_108, li_103, li_120, li_300, li_360, li_512, li_1000, r_inT, r_inL, r_inH, r_inPT, r_inPF, b10, b00, f_0, f_1, u_okT, u_nb_0, u_nb_1, r_isQ R W hq, e25]
theorem k_estimate (hN : 1000000 ≤ N) (I : Inv kk σ) (hk : kk < 512) (p1 p2 : Int32) {T : Int32 → Int64 → St → Prop} (hT : ∀ code b σ2, GL (kk + 1) code b σ2 → T code b σ2) : z_L_estimate N (some 0) p1 p2 σ (fun code σ1 => z_X12_estimate N 0 p1 p2 σ1 (fun b σ2 => T code b σ2)) := by
  have I0 := I
  obtain ⟨m, u, w, L, R, C, W⟩ := I
  have CQ' := C.2.2.2.2.1
  have CD' := C.2.2.2.2.2.1
  have WQ' := W.2.2.2.1
  have hC := C.1
  unfold C0 at hC
  have R0 : RI m u w L (stP σ 12 0 0 0 (nI 0)) := R.tmp rfl
  rcases u_io p1 2 with ⟨d, hd, _, rfl⟩ | hp1
  · rcases u_io p2 (m 24 0) with ⟨q, hq, _, rfl⟩ | hp2
    · have w3 := (WQ'.2.2 q hq).1
      by_cases h0 : 0 < m 25 q
      · have hb := (W.2.2.2.2.1 d hd).1
        simp (disch := omega) only [z_L_estimate, z_X11_estimate, c_D hd, c_needPosT CQ' WQ' hq h0, z_X2_bansFor, CD'.2.1 d hd, hC, u_br_True, u_br_False, u_jn_u, u_lt_u, u_nn_s, u_brn_s, u_brn_n, nI_add, u_n_mul, u_n_lt, u_n_le, u_n_eq, u_n_sub, u_n_div, u_n_mod, nI_clamp, u_m1, u_m1q, u_wI_n, u_wA_n, u_br_t, u_br_f, ↓li_m1, li_0, li_1, li_2, li_3, li_4, li_5, li_6, li_7, li_8, li_9, li_10, li_12, li_13, li_26, li_40, li_60, li_61, li_62, li_99, li_100, li_102, li_106, li_114, li_112, li_117, li_108, li_103, li_120, li_300, li_360, li_512, li_1000]
        refine c_draw hN ⟨C.1, C.2.1, C.2.2.1, CQ'⟩ WQ' W.2.1 W.1 hq hb hd (by decide) (fun s k1 P1 l1 => ?_)
        have e7 : sQ s 11 0 7 0 = some 2 := by rw [k1.2.2.1]; exact hC.2.2.2.2.2.1
        simp (disch := omega) only [e7, z_X5_guess, l1, u_br_True, u_br_False, u_jn_u, u_lt_u, u_nn_s, u_brn_s, u_brn_n, nI_add, u_n_mul, u_n_lt, u_n_le, u_n_eq, u_n_sub, u_n_div, u_n_mod, nI_clamp, u_m1, u_m1q, u_wI_n, u_wA_n, u_br_t, u_br_f, ↓li_m1, li_0, li_1, li_2, li_3, li_4, li_5, li_6, li_7, li_8, li_9, li_10, li_12, li_13, li_26, li_40, li_60, li_61, li_62, li_99, li_100, li_102, li_106, li_114, li_112, li_117, li_108, li_103, li_120, li_300, li_360, li_512, li_1000, wA_l, l0c, z_X12_estimate]
        have R2 : RI m u w L (stP (stL s 13 0 0 0 (lN (est m q (plO m q (m 46 d) d) (plW m q (m 46 d) d) (m 25 q)))) 12 0 0 0 (nI 0)) := ((R.km k1.km).km KM.stL).tmp rfl
        simp (disch := omega) only [r_noPlanT R2 WQ' hd hq h0, u_br_True, u_br_False, u_jn_u, u_lt_u, u_nn_s, u_brn_s, u_brn_n, nI_add, u_n_mul, u_n_lt, u_n_le, u_n_eq, u_n_sub, u_n_div, u_n_mod, nI_clamp, u_m1, u_m1q, u_wI_n, u_wA_n, u_br_t, u_br_f, ↓li_m1, li_0, li_1, li_2, li_3, li_4, li_5, li_6, li_7, li_8, li_9, li_10, li_12, li_13, li_26, li_40, li_60, li_61, li_62, li_99, li_100, li_102, li_106, li_114, li_112, li_117, li_108, li_103, li_120, li_300, li_360, li_512, li_1000, b10, b00, f_0, f_1, u_okT, u_nb_0, u_nb_1, R2.r 46 d rfl]
        refine r_plans hN R2 WQ' W.2.1 W.1 hq h0 hb hd (fun s2 kf pr => ?_)
        obtain ⟨f1, f2, f3⟩ := finPl C R W hk k1 kf
        have R3 : RI m u w L s2 := R2.kf kf (fun f hf => by
          obtain ⟨h1, h2⟩ := hf
          have : f = 39 ∨ f = 40 ∨ f = 41 ∨ f = 42 ∨ f = 43 ∨ f = 44 ∨ f = 45 := by omega
          rcases this with rfl | rfl | rfl | rfl | rfl | rfl | rfl <;> rfl)
        refine r_est hN R3 WQ' W.1 hq (fun p hp => (pr p hp).1) (fun p hp => plO_lt w3 hp) (fun p hp => (pr p hp).2.1) (fun p hp => plW_ok w3 hp) ?_
        exact hT _ _ _ ⟨f2, fun _ => f3, f1⟩
      · simp (disch := omega) only [z_L_estimate, z_X11_estimate, z_X12_estimate, c_D hd, c_needPos3 CQ' WQ' hq (by omega : m 25 q = 0), r_noPlan3 R0 WQ' hd hq (by omega : m 25 q = 0), hC, u_br_True, u_br_False, u_jn_u, u_lt_u, u_nn_s, u_brn_s, u_brn_n, ↓li_m1, li_0, li_1, li_2, li_3, li_4, li_5, li_6, li_7, li_8, li_9, li_10, li_12, li_13, li_26, li_40, li_60, li_61, li_62, li_99, li_100, li_102, li_106, li_114, li_112, li_117, li_108, li_103, li_120, li_300, li_360, li_512, li_1000, b10, b00, f_0, f_1, u_okT, u_nb_0, u_nb_1, Nat.reduceEqDiff, true_and, and_true, false_and, and_false, if_true, if_false, eq_self, and_self, Nat.reduceLT, Nat.reduceLeDiff, Nat.reduceAdd, Nat.reduceMul, Nat.reduceDiv, Nat.one_ne_zero]
        exact Or.inr (Or.inr (hT _ _ _ (GL_exc (c := 3) I0 hk (by decide) (by decide))))
    · simp (disch := omega) only [z_L_estimate, z_X11_estimate, z_X12_estimate, c_D hd, c_needPos2 CQ' WQ' hp2, r_noPlan2 R0 WQ' hd hp2, hC, u_br_True, u_br_False, u_jn_u, u_lt_u, u_nn_s, u_brn_s, u_brn_n, ↓li_m1, li_0, li_1, li_2, li_3, li_4, li_5, li_6, li_7, li_8, li_9, li_10, li_12, li_13, li_26, li_40, li_60, li_61, li_62, li_99, li_100, li_102, li_106, li_114, li_112, li_117, li_108, li_103, li_120, li_300, li_360, li_512, li_1000, b10, b00, f_0, f_1, u_okT, u_nb_0, u_nb_1, Nat.reduceEqDiff, true_and, and_true, false_and, and_false, if_true, if_false, eq_self, and_self, Nat.reduceLT, Nat.reduceLeDiff, Nat.reduceAdd, Nat.reduceMul, Nat.reduceDiv, Nat.one_ne_zero]
      exact Or.inr (Or.inl (hT _ _ _ (GL_exc (c := 2) I0 hk (by decide) (by decide))))
  · simp (disch := omega) only [z_L_estimate, z_X11_estimate, z_X12_estimate, c_DO hp1, r_noPlan1 hp1, hC, u_br_True, u_br_False, u_jn_u, u_lt_u, u_nn_s, u_brn_s, u_brn_n, ↓li_m1, li_0, li_1, li_2, li_3, li_4, li_5, li_6, li_7, li_8, li_9, li_10, li_12, li_13, li_26, li_40, li_60, li_61, li_62, li_99, li_100, li_102, li_106, li_114, li_112, li_117, li_108, li_103, li_120, li_300, li_360, li_512, li_1000, b10, b00, f_0, f_1, u_okT, u_nb_0, u_nb_1, Nat.reduceEqDiff, true_and, and_true, false_and, and_false, if_true, if_false, eq_self, and_self, Nat.reduceLT, Nat.reduceLeDiff, Nat.reduceAdd, Nat.reduceMul, Nat.reduceDiv, Nat.one_ne_zero]
    exact Or.inl (hT _ _ _ (GL_exc (c := 1) I0 hk (by decide) (by decide)))
end KEST
