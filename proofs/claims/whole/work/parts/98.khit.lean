section KHIT
variable {m : Nat → Nat → Nat} {u w : Nat → Int32} {L L0 : List Nat} {σ σ' σ0 s s2 σ1 : St} {N kk n q p d ban t c k a x i j : Nat}
/-- a call's answer agrees, a double; the invariant holds on -/
def GD (kk : Nat) (code : Int32) (b : UInt64) (σ : St) : Prop := sP σ 12 0 0 0 = code ∧ (code = nI 0 → sD_ σ 0 = b ∧ vf_n64 b) ∧ Inv kk σ
theorem GD_exc {c : Nat} {b : UInt64} (I : Inv kk σ) (h : kk < 512) (h0 : 0 < c) (h1 : c < 100) : GD (kk + 1) (nI c) b (stP σ 12 0 0 0 (nI c)) := by
  refine ⟨by simp [sP_stP], fun e => ?_, Inv_up (Inv_tmp I rfl) h⟩
  rw [u_n_eq (by omega) (by omega)] at e
  omega
theorem GDx_exc {c : Nat} {b : UInt64} (I : Inv kk s) (h0 : 0 < c) (h1 : c < 100) : GD kk (nI c) b (stP s 12 0 0 0 (nI c)) := by
  refine ⟨by simp [sP_stP], fun e => ?_, Inv_tmp I rfl⟩
  rw [u_n_eq (by omega) (by omega)] at e
  omega
theorem k_hitShare (hN : 1000000 ≤ N) (I : Inv kk σ) (hk : kk < 512) (p1 p2 : Int32) {T : Int32 → UInt32 → St → Prop} (hT : ∀ code b σ2, GD (kk + 1) code (FP.f2d b) σ2 → T code b σ2) : z_L_hitShare N (some 0) p1 p2 σ (fun code σ1 => z_X12_hitShare N 0 p1 p2 σ1 (fun b σ2 => T code b σ2)) := by
  have I0 := I
  obtain ⟨m, u, w, L, R, C, W⟩ := I
  have CQ' := C.2.2.2.2.1
  have WQ' := W.2.2.2.1
  have hC := C.1
  unfold C0 at hC
  have R0 : RI m u w L (stP σ 12 0 0 0 (nI 0)) := R.tmp rfl
  have hL : L.length ≤ 12 := by have := W.2.2.1.1; have := W.2.2.1.2.1; omega
  rcases u_io p1 2 with ⟨d, hd, _, rfl⟩ | hp1
  · rcases u_io p2 (m 24 0) with ⟨q, hq, _, rfl⟩ | hp2
    · by_cases h0 : 0 < m 25 q
      · have hb := (W.2.2.2.2.1 d hd).1
        obtain ⟨le1, le2⟩ := rsC_le (ban := m 46 d) (d := d) (L := []) WQ' W.1 W.2.1 hq
        simp (disch := omega) only [z_L_hitShare, z_X11_hitShare, c_D hd, c_needPosT CQ' WQ' hq h0, u_br_True, u_br_False, u_jn_u, u_lt_u, u_nn_s, u_brn_s, u_brn_n]
        refine c_runCold hN C W hd hq h0 (fun s k1 km R1 => ?_)
        have e6 : sQ s 11 0 6 0 = some 0 := by rw [k1.2.1 11 _ _ _ (by decide)]; exact hC.2.2.2.2.1
        have e7 := R1.2.1
        have e8 := R1.2.2.1
        by_cases hr : (rsC m u q (m 46 d) d []).1 = 0
        · rw [hr] at e7
          simp (disch := omega) only [e6, z_X8_readCount, e7, u_br_True, u_br_False, u_jn_u, u_lt_u, u_nn_s, u_brn_s, u_brn_n, nI_add, u_n_mul, u_n_lt, u_n_le, u_n_eq, u_n_sub, u_n_div, u_n_mod, nI_clamp, u_m1, u_m1q, u_wI_n, u_wA_n, u_br_t, u_br_f, ↓li_m1, li_0, li_1, li_2, li_3, li_4, li_5, li_6, li_7, li_8, li_9, li_10, li_12, li_13, li_26, li_40, li_60, li_61, li_62, li_99, li_100, li_102, li_106, li_114, li_112, li_117, li_108, li_103, li_120, li_300, li_360, li_512, li_1000, z_X12_hitShare, Nat.reduceEqDiff, true_and, and_true, false_and, and_false, if_true, if_false, eq_self, and_self, Nat.reduceLT, Nat.reduceLeDiff, Nat.reduceAdd, Nat.reduceMul, Nat.reduceDiv, Nat.one_ne_zero]
          refine Or.inr (Or.inr (Or.inr ?_))
          have R2 : RI m u w L (stP s 12 0 0 0 (nI 0)) := (R.km km).tmp rfl
          simp (disch := omega) only [r_noPlanT R2 WQ' hd hq h0, u_br_True, u_br_False, u_jn_u, u_lt_u, u_nn_s, u_brn_s, u_brn_n, nI_add, u_n_mul, u_n_lt, u_n_le, u_n_eq, u_n_sub, u_n_div, u_n_mod, nI_clamp, u_m1, u_m1q, u_wI_n, u_wA_n, u_br_t, u_br_f, ↓li_m1, li_0, li_1, li_2, li_3, li_4, li_5, li_6, li_7, li_8, li_9, li_10, li_12, li_13, li_26, li_40, li_60, li_61, li_62, li_99, li_100, li_102, li_106, li_114, li_112, li_117, li_108, li_103, li_120, li_300, li_360, li_512, li_1000, b10, b00, f_0, f_1, u_okT, u_nb_0, u_nb_1, R2.r 46 d rfl]
          refine r_cold hN R2 W hL hq h0 hb hd (fun s2 kc R3 e22 e23 e0 => ?_)
          have e0' : sP s2 12 0 0 0 = nI 0 := e0.trans (by simp only [sP_stP, Nat.reduceEqDiff, true_and, and_true, false_and, and_false, if_true, if_false, eq_self, and_self, Nat.reduceLT, Nat.reduceLeDiff, Nat.reduceAdd, Nat.reduceMul, Nat.reduceDiv, Nat.one_ne_zero])
          rw [hr] at e23
          simp (disch := omega) only [e23, f_1s e0', u_br_True, u_br_False, u_jn_u, u_lt_u, u_nn_s, u_brn_s, u_brn_n, nI_add, u_n_mul, u_n_lt, u_n_le, u_n_eq, u_n_sub, u_n_div, u_n_mod, nI_clamp, u_m1, u_m1q, u_wI_n, u_wA_n, u_br_t, u_br_f, ↓li_m1, li_0, li_1, li_2, li_3, li_4, li_5, li_6, li_7, li_8, li_9, li_10, li_12, li_13, li_26, li_40, li_60, li_61, li_62, li_99, li_100, li_102, li_106, li_114, li_112, li_117, li_108, li_103, li_120, li_300, li_360, li_512, li_1000, b10, b00, f_0, f_1, u_okT, u_nb_0, u_nb_1]
          exact hT _ _ _ (GDx_exc (finC C W hk (s := s) k1 (KC.st.trans kc) R3) (by decide) (by decide))
        · have nf := fdiv_nf (a := (rsC m u q (m 46 d) d []).1 - (rsC m u q (m 46 d) d []).2.1) (b := (rsC m u q (m 46 d) d []).1) (by omega) (by omega) hr
          have nd := f2d_nf nf
          simp (disch := omega) only [e6, z_X8_readCount, z_X8_missCount, e7, e8, u_br_True, u_br_False, u_jn_u, u_lt_u, u_nn_s, u_brn_s, u_brn_n, nI_add, u_n_mul, u_n_lt, u_n_le, u_n_eq, u_n_sub, u_n_div, u_n_mod, nI_clamp, u_m1, u_m1q, u_wI_n, u_wA_n, u_br_t, u_br_f, ↓li_m1, li_0, li_1, li_2, li_3, li_4, li_5, li_6, li_7, li_8, li_9, li_10, li_12, li_13, li_26, li_40, li_60, li_61, li_62, li_99, li_100, li_102, li_106, li_114, li_112, li_117, li_108, li_103, li_120, li_300, li_360, li_512, li_1000, wA_l, l0c, z_X12_hitShare, u_ok_t nf, u_ok_t nd]
          have R2 : RI m u w L (stP (stD s 0 (FP.f2d (FP.fdiv (FP.i2f (nI ((rsC m u q (m 46 d) d []).1 - (rsC m u q (m 46 d) d []).2.1))) (FP.i2f (nI (rsC m u q (m 46 d) d []).1))))) 12 0 0 0 (nI 0)) := ((R.km km).km KM.stD).tmp rfl
          simp (disch := omega) only [r_noPlanT R2 WQ' hd hq h0, u_br_True, u_br_False, u_jn_u, u_lt_u, u_nn_s, u_brn_s, u_brn_n, nI_add, u_n_mul, u_n_lt, u_n_le, u_n_eq, u_n_sub, u_n_div, u_n_mod, nI_clamp, u_m1, u_m1q, u_wI_n, u_wA_n, u_br_t, u_br_f, ↓li_m1, li_0, li_1, li_2, li_3, li_4, li_5, li_6, li_7, li_8, li_9, li_10, li_12, li_13, li_26, li_40, li_60, li_61, li_62, li_99, li_100, li_102, li_106, li_114, li_112, li_117, li_108, li_103, li_120, li_300, li_360, li_512, li_1000, b10, b00, f_0, f_1, u_okT, u_nb_0, u_nb_1, R2.r 46 d rfl]
          refine r_cold hN R2 W hL hq h0 hb hd (fun s2 kc R3 e22 e23 e0 => ?_)
          have e0' : sP s2 12 0 0 0 = nI 0 := e0.trans (by simp only [sP_stP, Nat.reduceEqDiff, true_and, and_true, false_and, and_false, if_true, if_false, eq_self, and_self, Nat.reduceLT, Nat.reduceLeDiff, Nat.reduceAdd, Nat.reduceMul, Nat.reduceDiv, Nat.one_ne_zero])
          simp (disch := omega) only [e22, e23, f_0s e0', u_br_True, u_br_False, u_jn_u, u_lt_u, u_nn_s, u_brn_s, u_brn_n, nI_add, u_n_mul, u_n_lt, u_n_le, u_n_eq, u_n_sub, u_n_div, u_n_mod, nI_clamp, u_m1, u_m1q, u_wI_n, u_wA_n, u_br_t, u_br_f, ↓li_m1, li_0, li_1, li_2, li_3, li_4, li_5, li_6, li_7, li_8, li_9, li_10, li_12, li_13, li_26, li_40, li_60, li_61, li_62, li_99, li_100, li_102, li_106, li_114, li_112, li_117, li_108, li_103, li_120, li_300, li_360, li_512, li_1000, b10, b00, f_0, f_1, u_okT, u_nb_0, u_nb_1, u_ok_t nf]
          refine hT _ _ _ ⟨e0', fun _ => ⟨?_, nd⟩, finC C W hk (s := stD s 0 (FP.f2d (FP.fdiv (FP.i2f (nI ((rsC m u q (m 46 d) d []).1 - (rsC m u q (m 46 d) d []).2.1))) (FP.i2f (nI (rsC m u q (m 46 d) d []).1))))) k1 (KC.st.trans kc) R3⟩
          rw [kc.2.2.2.1]
          simp [sD_stP, sD_stD]
      · simp (disch := omega) only [z_L_hitShare, z_X11_hitShare, z_X12_hitShare, c_D hd, c_needPos3 CQ' WQ' hq (by omega : m 25 q = 0), r_noPlan3 R0 WQ' hd hq (by omega : m 25 q = 0), u_br_True, u_br_False, u_jn_u, u_lt_u, u_nn_s, u_brn_s, u_brn_n, ↓li_m1, li_0, li_1, li_2, li_3, li_4, li_5, li_6, li_7, li_8, li_9, li_10, li_12, li_13, li_26, li_40, li_60, li_61, li_62, li_99, li_100, li_102, li_106, li_114, li_112, li_117, li_108, li_103, li_120, li_300, li_360, li_512, li_1000, b10, b00, f_0, f_1, u_okT, u_nb_0, u_nb_1, Nat.reduceEqDiff, true_and, and_true, false_and, and_false, if_true, if_false, eq_self, and_self, Nat.reduceLT, Nat.reduceLeDiff, Nat.reduceAdd, Nat.reduceMul, Nat.reduceDiv, Nat.one_ne_zero]
        exact Or.inr (Or.inr (Or.inl (hT _ _ _ (GD_exc (c := 3) I0 hk (by decide) (by decide)))))
    · simp (disch := omega) only [z_L_hitShare, z_X11_hitShare, z_X12_hitShare, c_D hd, c_needPos2 CQ' WQ' hp2, r_noPlan2 R0 WQ' hd hp2, u_br_True, u_br_False, u_jn_u, u_lt_u, u_nn_s, u_brn_s, u_brn_n, ↓li_m1, li_0, li_1, li_2, li_3, li_4, li_5, li_6, li_7, li_8, li_9, li_10, li_12, li_13, li_26, li_40, li_60, li_61, li_62, li_99, li_100, li_102, li_106, li_114, li_112, li_117, li_108, li_103, li_120, li_300, li_360, li_512, li_1000, b10, b00, f_0, f_1, u_okT, u_nb_0, u_nb_1, Nat.reduceEqDiff, true_and, and_true, false_and, and_false, if_true, if_false, eq_self, and_self, Nat.reduceLT, Nat.reduceLeDiff, Nat.reduceAdd, Nat.reduceMul, Nat.reduceDiv, Nat.one_ne_zero]
      exact Or.inr (Or.inl (hT _ _ _ (GD_exc (c := 2) I0 hk (by decide) (by decide))))
  · simp (disch := omega) only [z_L_hitShare, z_X11_hitShare, z_X12_hitShare, c_DO hp1, r_noPlan1 hp1, u_br_True, u_br_False, u_jn_u, u_lt_u, u_nn_s, u_brn_s, u_brn_n, ↓li_m1, li_0, li_1, li_2, li_3, li_4, li_5, li_6, li_7, li_8, li_9, li_10, li_12, li_13, li_26, li_40, li_60, li_61, li_62, li_99, li_100, li_102, li_106, li_114, li_112, li_117, li_108, li_103, li_120, li_300, li_360, li_512, li_1000, b10, b00, f_0, f_1, u_okT, u_nb_0, u_nb_1, Nat.reduceEqDiff, true_and, and_true, false_and, and_false, if_true, if_false, eq_self, and_self, Nat.reduceLT, Nat.reduceLeDiff, Nat.reduceAdd, Nat.reduceMul, Nat.reduceDiv, Nat.one_ne_zero]
    exact Or.inl (hT _ _ _ (GD_exc (c := 1) I0 hk (by decide) (by decide)))
def totA (w : Nat → Int32) (n : Nat) : Int32 := it_ (fun j a => a + w j) (nI 0) n
theorem totA_s : totA w (n + 1) = totA w n + w n := rfl
theorem tot_s : tot w d (n + 1) = tot w d n + w (2 * n + d) := rfl
theorem tot_A : ∀ n, tot w 0 n + tot w 1 n = totA w (2 * n)
  | 0 => by
    show nI 0 + nI 0 = nI 0
    decide
  | n + 1 => by
    rw [tot_s, tot_s, show 2 * (n + 1) = 2 * n + 1 + 1 by omega, totA_s, totA_s, ← tot_A n, Nat.add_zero]
    rw [Int32.add_assoc, Int32.add_assoc, Int32.add_assoc, ← Int32.add_assoc (w (2 * n)), Int32.add_comm (w (2 * n)) (tot w 1 n), Int32.add_assoc]
theorem totA_n (hw : ∀ j, j < n → ∃ x, x < 2 ^ 20 ∧ w j = nI x) : ∀ k, k ≤ n → ∃ x, x ≤ k * 2 ^ 20 ∧ totA w k = nI x
  | 0, _ => ⟨0, Nat.zero_le _, rfl⟩
  | k + 1, h => by
    obtain ⟨x, h1, h2⟩ := totA_n hw k (by omega)
    obtain ⟨y, h3, h4⟩ := hw k (by omega)
    refine ⟨x + y, by omega, ?_⟩
    rw [totA_s, h2, h4, nI_add]
theorem k_meanMisses (hN : 1000000 ≤ N) (I : Inv kk σ) (hk : kk < 512) {T : Int32 → UInt64 → St → Prop} (hT : ∀ code b σ2, GD (kk + 1) code b σ2 → T code b σ2) : z_L_meanMisses N (some 0) σ (fun code σ1 => z_X12_meanMisses N 0 σ1 (fun b σ2 => T code b σ2)) := by
  have I0 := I
  obtain ⟨m, u, w, L, R, C, W⟩ := I
  have CD' := C.2.2.2.2.2.1
  have WD' := W.2.2.2.2
  have hC := C.1
  unfold C0 at hC
  have h52 : m 52 0 ≤ 512 := by have := WD'.2.1; omega
  have e3 := CD'.2.2.2.1
  obtain ⟨x, hx1, hx2⟩ := totA_n (w := w) (n := 2 * m 52 0) CD'.2.2.2.2.2.2 (2 * m 52 0) (Nat.le_refl _)
  have loop : ∀ (s1 : St) (K : Int32 → Prop), RI m u w L s1 → K (nI x) → fx2 (fun (w9 : Int32 → Int32 → Prop) (x2 : Int32) (x3 : Int32) => br (nI (2 * m 52 0) ≤ x3) (K x2) (wI 1200 x3 (w9 (x2 + (sP s1 12 0 53 (x3).toNatClampNeg)) (x3 + nI 1)))) N (nI 0) (nI 0) := by
    intro s1 K R1 hK
    refine for_v (2 * m 52 0) (by omega) (by omega) (fun j a => a = totA w j) 0 (by omega) (fun self j a hj ha hs => ?_) rfl
    subst ha
    by_cases hl : j < 2 * m 52 0
    · simp (disch := omega) only [u_br_True, u_br_False, u_jn_u, u_lt_u, u_nn_s, u_brn_s, u_brn_n, nI_add, u_n_mul, u_n_lt, u_n_le, u_n_eq, u_n_sub, u_n_div, u_n_mod, nI_clamp, u_m1, u_m1q, u_wI_n, u_wA_n, u_br_t, u_br_f, R1.2.2.1 j]
      exact hs _ hl rfl
    · have hj2 : j = 2 * m 52 0 := by omega
      subst hj2
      simp (disch := omega) only [u_br_True, u_br_False, u_jn_u, u_lt_u, u_nn_s, u_brn_s, u_brn_n, nI_add, u_n_mul, u_n_lt, u_n_le, u_n_eq, u_n_sub, u_n_div, u_n_mod, nI_clamp, u_m1, u_m1q, u_wI_n, u_wA_n, u_br_t, u_br_f, hx2]
      exact hK
  by_cases hr : m 52 0 = 0
  · rw [hr] at e3
    simp (disch := omega) only [z_L_meanMisses, z_X11_meanMisses, z_X2_roundCount, hC, e3, u_br_True, u_br_False, u_jn_u, u_lt_u, u_nn_s, u_brn_s, u_brn_n, nI_add, u_n_mul, u_n_lt, u_n_le, u_n_eq, u_n_sub, u_n_div, u_n_mod, nI_clamp, u_m1, u_m1q, u_wI_n, u_wA_n, u_br_t, u_br_f, ↓li_m1, li_0, li_1, li_2, li_3, li_4, li_5, li_6, li_7, li_8, li_9, li_10, li_12, li_13, li_26, li_40, li_60, li_61, li_62, li_99, li_100, li_102, li_106, li_114, li_112, li_117, li_108, li_103, li_120, li_300, li_360, li_512, li_1000, z_X12_meanMisses, Nat.reduceEqDiff, true_and, and_true, false_and, and_false, if_true, if_false, eq_self, and_self, Nat.reduceLT, Nat.reduceLeDiff, Nat.reduceAdd, Nat.reduceMul, Nat.reduceDiv, Nat.one_ne_zero]
    have R2 : RI m u w L (stP σ 12 0 0 0 (nI 0)) := R.tmp rfl
    have e52 : sP (stP σ 12 0 0 0 (nI 0)) 12 0 52 0 = nI 0 := by rw [R2.r 52 0 rfl, hr]
    simp (disch := omega) only [e52, nI_add, u_n_mul, u_n_lt, u_n_le, u_n_eq, u_n_sub, u_n_div, u_n_mod, nI_clamp, u_m1, u_m1q, u_wI_n, u_wA_n, u_br_t, u_br_f]
    have lp := fun K => loop (stP σ 12 0 0 0 (nI 0)) K R2
    rw [hr] at lp
    refine lp _ ?_
    simp (disch := omega) only [f_1, u_br_True, u_br_False, u_jn_u, u_lt_u, u_nn_s, u_brn_s, u_brn_n, nI_add, u_n_mul, u_n_lt, u_n_le, u_n_eq, u_n_sub, u_n_div, u_n_mod, nI_clamp, u_m1, u_m1q, u_wI_n, u_wA_n, u_br_t, u_br_f, ↓li_m1, li_0, li_1, li_2, li_3, li_4, li_5, li_6, li_7, li_8, li_9, li_10, li_12, li_13, li_26, li_40, li_60, li_61, li_62, li_99, li_100, li_102, li_106, li_114, li_112, li_117, li_108, li_103, li_120, li_300, li_360, li_512, li_1000, b10, b00, f_0, f_1, u_okT, u_nb_0, u_nb_1]
    exact hT _ _ _ (GD_exc (c := 1) I0 hk (by decide) (by decide))
  · have nd := ddiv_nf (a := x) (b := 2 * m 52 0) (by omega) (by omega) (by omega)
    simp (disch := omega) only [z_L_meanMisses, z_X11_meanMisses, z_X2_roundCount, hC, e3, u_br_True, u_br_False, u_jn_u, u_lt_u, u_nn_s, u_brn_s, u_brn_n, nI_add, u_n_mul, u_n_lt, u_n_le, u_n_eq, u_n_sub, u_n_div, u_n_mod, nI_clamp, u_m1, u_m1q, u_wI_n, u_wA_n, u_br_t, u_br_f, ↓li_m1, li_0, li_1, li_2, li_3, li_4, li_5, li_6, li_7, li_8, li_9, li_10, li_12, li_13, li_26, li_40, li_60, li_61, li_62, li_99, li_100, li_102, li_106, li_114, li_112, li_117, li_108, li_103, li_120, li_300, li_360, li_512, li_1000]
    refine c_missAll (d := 0) hN CD' (by decide) h52 ?_
    refine c_missAll (d := 1) hN CD' (by decide) h52 ?_
    rw [tot_A, hx2]
    simp (disch := omega) only [u_ok_t nd, wA_l, l0c, z_X12_meanMisses, u_br_True, u_br_False, u_jn_u, u_lt_u, u_nn_s, u_brn_s, u_brn_n, ↓li_m1, li_0, li_1, li_2, li_3, li_4, li_5, li_6, li_7, li_8, li_9, li_10, li_12, li_13, li_26, li_40, li_60, li_61, li_62, li_99, li_100, li_102, li_106, li_114, li_112, li_117, li_108, li_103, li_120, li_300, li_360, li_512, li_1000]
    have R2 : RI m u w L (stP (stD σ 0 (FP.ddiv (FP.i2d (nI x)) (FP.i2d (nI (2 * m 52 0))))) 12 0 0 0 (nI 0)) := (R.km KM.stD).tmp rfl
    have e52 : sP (stP (stD σ 0 (FP.ddiv (FP.i2d (nI x)) (FP.i2d (nI (2 * m 52 0))))) 12 0 0 0 (nI 0)) 12 0 52 0 = nI (m 52 0) := R2.r 52 0 rfl
    simp (disch := omega) only [e52, nI_add, u_n_mul, u_n_lt, u_n_le, u_n_eq, u_n_sub, u_n_div, u_n_mod, nI_clamp, u_m1, u_m1q, u_wI_n, u_wA_n, u_br_t, u_br_f]
    refine loop _ _ R2 ?_
    simp (disch := omega) only [u_br_True, u_br_False, u_jn_u, u_lt_u, u_nn_s, u_brn_s, u_brn_n, nI_add, u_n_mul, u_n_lt, u_n_le, u_n_eq, u_n_sub, u_n_div, u_n_mod, nI_clamp, u_m1, u_m1q, u_wI_n, u_wA_n, u_br_t, u_br_f, ↓li_m1, li_0, li_1, li_2, li_3, li_4, li_5, li_6, li_7, li_8, li_9, li_10, li_12, li_13, li_26, li_40, li_60, li_61, li_62, li_99, li_100, li_102, li_106, li_114, li_112, li_117, li_108, li_103, li_120, li_300, li_360, li_512, li_1000, b10, b00, f_0, f_1, u_okT, u_nb_0, u_nb_1, e52, u_ok_t nd]
    refine hT _ _ _ ⟨by simp only [sP_stP, Nat.reduceEqDiff, true_and, and_true, false_and, and_false, if_true, if_false, eq_self, and_self, Nat.reduceLT, Nat.reduceLeDiff, Nat.reduceAdd, Nat.reduceMul, Nat.reduceDiv, Nat.one_ne_zero], fun _ => ⟨by simp [sD_stP, sD_stD], nd⟩, Inv_up (Inv_tmp (Inv_stD I0) rfl) hk⟩
end KHIT
