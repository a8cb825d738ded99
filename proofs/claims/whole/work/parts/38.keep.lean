/-! LEVEL 2b: what a step leaves untouched; the form of a call's answer. -/
section KEEP
variable {m : Nat → Nat → Nat} {u w : Nat → Int32} {L : List Nat} {σ σ' : St} {N kk f j x k i : Nat} {v : Int32}
theorem mu_ne {m : Nat → Nat → Nat} {f j x f' j' : Nat} (h : f' ≠ f) : mu m f j x f' j' = m f' j' := by simp [mu, h]
theorem mu_eq {m : Nat → Nat → Nat} {f j x : Nat} : mu m f j x f j = x := by simp [mu]
theorem mu_nj {m : Nat → Nat → Nat} {f j x f' j' : Nat} (h : j' ≠ j) : mu m f j x f' j' = m f' j' := by simp [mu, h]
def nin (l : List Nat) (f : Nat) : Bool := !(l.contains f)
theorem nin_ne {l : List Nat} {f : Nat} (h : nin l f = true) : ∀ g ∈ l, g ≠ f := by
  intro g hg e
  subst e
  simp [nin, hg] at h
theorem th_mu (h : nin [4] f = true) : th (mu m f j x) = th m := by
  have h1 := nin_ne h 4 (by decide)
  funext t r
  simp only [th, mu_ne h1]
theorem liv_mu (h : nin [4] f = true) : liv (mu m f j x) = liv m := by
  funext t
  simp only [liv, th_mu h]
theorem ent_mu (h : nin [4] f = true) : ent (mu m f j x) = ent m := by
  funext u t c
  simp only [ent, th_mu h]
theorem CT_mu (h : nin [1, 2, 3, 4, 6, 7, 8, 9, 10, 11, 12] f = true) : CT (mu m f j x) u σ = CT m u σ := by
  have n := nin_ne h
  have h4 : nin [4] f = true := by
    have := n 4 (by decide)
    simp [nin]; omega
  simp only [CT, CT1, liv_mu h4, mu_ne (n 1 (by decide)), mu_ne (n 2 (by decide)), mu_ne (n 3 (by decide)), mu_ne (n 4 (by decide)), mu_ne (n 6 (by decide)), mu_ne (n 7 (by decide)), mu_ne (n 8 (by decide)), mu_ne (n 9 (by decide)), mu_ne (n 10 (by decide)), mu_ne (n 11 (by decide)), mu_ne (n 12 (by decide))]
theorem CX_mu (h : nin [4, 13, 14, 15] f = true) : CX (mu m f j x) u σ = CX m u σ := by
  have n := nin_ne h
  have h4 : nin [4] f = true := by
    have := n 4 (by decide)
    simp [nin]; omega
  simp only [CX, CX1, ent_mu h4, mu_ne (n 13 (by decide)), mu_ne (n 14 (by decide)), mu_ne (n 15 (by decide))]
theorem CC_mu (h : nin [19] f = true) : CC (mu m f j x) L σ = CC m L σ := by
  have n := nin_ne h
  simp only [CC, mu_ne (n 19 (by decide))]
theorem CQ_mu (h : nin [24, 25, 26, 27, 28, 29, 30, 31, 32, 33, 34, 35, 36] f = true) : CQ (mu m f j x) σ = CQ m σ := by
  have n := nin_ne h
  simp only [CQ, CQ1, CN, CJ, mu_ne (n 24 (by decide)), mu_ne (n 25 (by decide)), mu_ne (n 26 (by decide)), mu_ne (n 27 (by decide)), mu_ne (n 28 (by decide)), mu_ne (n 29 (by decide)), mu_ne (n 30 (by decide)), mu_ne (n 31 (by decide)), mu_ne (n 32 (by decide)), mu_ne (n 33 (by decide)), mu_ne (n 34 (by decide)), mu_ne (n 35 (by decide)), mu_ne (n 36 (by decide))]
theorem CD_mu (h : nin [16, 46, 51, 52] f = true) : CD (mu m f j x) w σ = CD m w σ := by
  have n := nin_ne h
  simp only [CD, mu_ne (n 16 (by decide)), mu_ne (n 46 (by decide)), mu_ne (n 51 (by decide)), mu_ne (n 52 (by decide))]
theorem WT_mu (h : nin [1, 2, 3, 4, 6, 7, 8, 9, 10, 11, 12] f = true) : WT (mu m f j x) u = WT m u := by
  have n := nin_ne h
  simp only [WT, mu_ne (n 1 (by decide)), mu_ne (n 2 (by decide)), mu_ne (n 3 (by decide)), mu_ne (n 4 (by decide)), mu_ne (n 6 (by decide)), mu_ne (n 7 (by decide)), mu_ne (n 8 (by decide)), mu_ne (n 9 (by decide)), mu_ne (n 10 (by decide)), mu_ne (n 11 (by decide)), mu_ne (n 12 (by decide))]
theorem WX_mu (h : nin [1, 2, 13, 14, 15] f = true) : WX (mu m f j x) = WX m := by
  have n := nin_ne h
  simp only [WX, mu_ne (n 1 (by decide)), mu_ne (n 2 (by decide)), mu_ne (n 13 (by decide)), mu_ne (n 14 (by decide)), mu_ne (n 15 (by decide))]
theorem WC_mu (h : nin [13, 19] f = true) : WC (mu m f j x) L = WC m L := by
  have n := nin_ne h
  simp only [WC, mu_ne (n 13 (by decide)), mu_ne (n 19 (by decide))]
theorem WQ_mu (h : nin [1, 2, 24, 25, 26, 27, 28, 29, 30, 31, 32, 33, 34, 35, 36] f = true) : WQ (mu m f j x) = WQ m := by
  have n := nin_ne h
  simp only [WQ, tq, mu_ne (n 1 (by decide)), mu_ne (n 2 (by decide)), mu_ne (n 24 (by decide)), mu_ne (n 25 (by decide)), mu_ne (n 26 (by decide)), mu_ne (n 27 (by decide)), mu_ne (n 28 (by decide)), mu_ne (n 29 (by decide)), mu_ne (n 30 (by decide)), mu_ne (n 31 (by decide)), mu_ne (n 32 (by decide)), mu_ne (n 33 (by decide)), mu_ne (n 34 (by decide)), mu_ne (n 35 (by decide)), mu_ne (n 36 (by decide))]
theorem WD_mu (h : nin [16, 46, 51, 52, 54] f = true) : WD (mu m f j x) kk = WD m kk := by
  have n := nin_ne h
  simp only [WD, mu_ne (n 16 (by decide)), mu_ne (n 46 (by decide)), mu_ne (n 51 (by decide)), mu_ne (n 52 (by decide)), mu_ne (n 54 (by decide))]
theorem C0_st : C0 (stP σ k i f j v) = C0 σ := rfl
theorem CT_st (h : nin [9, 10] k = true) : CT m u (stP σ k i f j v) = CT m u σ := by
  have n := nin_ne h
  have e : ∀ g, g ≠ k → ∀ i' f' j', sP (stP σ k i f j v) g i' f' j' = sP σ g i' f' j' := fun g hg i' f' j' => by rw [sP_stP, if_neg (fun e => hg e.1)]
  simp only [CT, CT1, e 9 (n 9 (by decide)), e 10 (n 10 (by decide)), sQ_stP, sV_stP]
theorem CX_st (h : nin [9, 3] k = true) : CX m u (stP σ k i f j v) = CX m u σ := by
  have n := nin_ne h
  have e : ∀ g, g ≠ k → ∀ i' f' j', sP (stP σ k i f j v) g i' f' j' = sP σ g i' f' j' := fun g hg i' f' j' => by rw [sP_stP, if_neg (fun e => hg e.1)]
  simp only [CX, CX1, e 9 (n 9 (by decide)), e 3 (n 3 (by decide)), sQ_stP, sV_stP]
theorem CC_st (h : nin [0] k = true) : CC m L (stP σ k i f j v) = CC m L σ := by
  have n := nin_ne h
  have e : ∀ g, g ≠ k → ∀ i' f' j', sP (stP σ k i f j v) g i' f' j' = sP σ g i' f' j' := fun g hg i' f' j' => by rw [sP_stP, if_neg (fun e => hg e.1)]
  simp only [CC, e 0 (n 0 (by decide))]
theorem CQ_st (h : nin [1, 4, 7, 11] k = true) : CQ m (stP σ k i f j v) = CQ m σ := by
  have n := nin_ne h
  have e : ∀ g, g ≠ k → ∀ i' f' j', sP (stP σ k i f j v) g i' f' j' = sP σ g i' f' j' := fun g hg i' f' j' => by rw [sP_stP, if_neg (fun e => hg e.1)]
  simp only [CQ, CQ1, CN, CJ, e 1 (n 1 (by decide)), e 4 (n 4 (by decide)), e 7 (n 7 (by decide)), e 11 (n 11 (by decide)), sQ_stP, sV_stP]
theorem CD_st (h : nin [2] k = true) : CD m w (stP σ k i f j v) = CD m w σ := by
  have n := nin_ne h
  have e : ∀ g, g ≠ k → ∀ i' f' j', sP (stP σ k i f j v) g i' f' j' = sP σ g i' f' j' := fun g hg i' f' j' => by rw [sP_stP, if_neg (fun e => hg e.1)]
  simp only [CD, e 2 (n 2 (by decide))]
theorem CP_0 (h : m 16 0 = 0) : CP m σ := fun h1 => by rw [h] at h1; cases h1
/-- closing the appeals, on both sides -/
theorem CD_close (C : CD m w σ) : CD (mu m 16 0 0) w (stP σ 2 0 5 0 (nI 0)) := by
  obtain ⟨c1, c2, c3, c4, c5, c6, c7⟩ := C
  refine ⟨?_, ?_, ?_, ?_, ?_, ?_, ?_⟩
  · intro d hd; simp [sP_stP, mu]; exact c1 d hd
  · intro d hd; simp [sP_stP, mu]; exact c2 d hd
  · intro d hd
    rw [mu_ne (by decide)] at hd
    simp [sP_stP]; exact c3 d hd
  · simp [sP_stP, mu]; exact c4
  · rw [mu_ne (by decide)]
    simp [sP_stP]; exact c5
  · simp [sP_stP, mu]
  · rw [mu_ne (by decide)]
    exact c7
theorem WD_up (W : WD m kk) (h : kk < 512) : WD m (kk + 1) := by
  obtain ⟨w1, w2, w3, w4⟩ := W
  refine ⟨fun d hd => ?_, by omega, w3, by omega⟩
  have := w1 d hd
  omega
theorem WD_close (W : WD m kk) : WD (mu m 16 0 0) kk := by
  obtain ⟨w1, w2, w3, w4⟩ := W
  refine ⟨fun d hd => ?_, ?_, ?_, w4⟩
  · simp [mu]; exact w1 d hd
  · simp [mu]; exact w2
  · simp [mu]
/-- a call's answer agrees, and the invariant holds on -/
def G (kk : Nat) (code b : Int32) (σ : St) : Prop := sP σ 12 0 0 0 = code ∧ (code = nI 0 → sL_ σ 13 0 0 0 = b.toInt64) ∧ Inv kk σ
theorem Inv_up (I : Inv kk σ) (h : kk < 512) : Inv (kk + 1) σ := by
  obtain ⟨m, u, w, L, R, C, W1, W2, W3, W4, W5⟩ := I
  exact ⟨m, u, w, L, R, C, W1, W2, W3, W4, WD_up W5 h⟩
theorem Inv_tmp (I : Inv kk σ) (h : tmp_ f = true) : Inv kk (stP σ 12 0 f j v) := by
  obtain ⟨m, u, w, L, R, C, W⟩ := I
  exact ⟨m, u, w, L, R.tmp h, CA.km C KC.st, W⟩
theorem Inv_stL {y : Int64} (I : Inv kk σ) : Inv kk (stL σ k i f j y) := by
  obtain ⟨m, u, w, L, R, C, W⟩ := I
  exact ⟨m, u, w, L, R, C, W⟩
theorem Inv_stD {y : UInt64} (I : Inv kk σ) : Inv kk (stD σ j y) := by
  obtain ⟨m, u, w, L, R, C, W⟩ := I
  exact ⟨m, u, w, L, R, C, W⟩
theorem G_exc {c : Nat} {b : Int32} (I : Inv kk σ) (h : kk < 512) (h0 : 0 < c) (h1 : c < 100) : G (kk + 1) (nI c) b (stP σ 12 0 0 0 (nI c)) := by
  refine ⟨by simp [sP_stP], fun e => ?_, Inv_up (Inv_tmp I rfl) h⟩
  rw [u_n_eq (by omega) (by omega)] at e
  omega
theorem G_ok {b : Int32} {σ : St} (I : Inv (kk + 1) σ) (h1 : sP σ 12 0 0 0 = nI 0) (h2 : sL_ σ 13 0 0 0 = b.toInt64) : G (kk + 1) (nI 0) b σ := ⟨h1, fun _ => h2, I⟩
theorem wA_l {n : Nat} (h : 0 < n) {K : St → Prop} : wA n (nI 0) σ K = K σ := by
  apply propext
  refine ⟨fun x => x.2, fun x => ⟨?_, x⟩⟩
  unfold vp_in
  rw [l0c]
  intro h9
  rcases h9 with h9 | h9
  · revert h9; decide
  · omega
theorem wI_l {n : Nat} (h : 0 < n) {T : Prop} : wI n (nI 0) T = T := by
  apply propext
  refine ⟨fun x => x.2, fun x => ⟨?_, x⟩⟩
  unfold vp_in
  rw [l0c]
  intro h9
  rcases h9 with h9 | h9
  · revert h9; decide
  · omega
theorem RI.cut (R : RI m u w L σ) {a : Nat} : RI m u w (L.take a) (stP σ 12 0 21 0 (nI (min L.length a))) := by
  obtain ⟨r1, r2, r3, r4, r5⟩ := R
  refine ⟨?_, ?_, ?_, ?_, ?_⟩
  · intro f' j' hf
    rw [sP_stP, if_neg (fun e => by rw [e.2.2.1] at hf; revert hf; decide)]
    exact r1 f' j' hf
  · intro j'
    rw [sP_stP, if_neg (fun e => absurd e.2.2.1 (by decide))]
    exact r2 j'
  · intro j'
    rw [sP_stP, if_neg (fun e => absurd e.2.2.1 (by decide))]
    exact r3 j'
  · rw [sP_stP, if_pos ⟨rfl, rfl, rfl, rfl⟩, List.length_take, Nat.min_comm]
  · intro j' hj
    rw [sP_stP, if_neg (fun e => absurd e.2.2.1 (by decide)), List.getElem_take]
    exact r5 j' (by rw [List.length_take] at hj; omega)
theorem fin {b : Int32} {σc σ2 : St} (hC : CA m u w L σc) (hR : RI m u w L σ2) (hK : KC (stL σc 13 0 0 0 b.toInt64) σ2) (hW : WA m u L (kk + 1)) (ht : sP σ2 12 0 0 0 = nI 0) : G (kk + 1) (nI 0) b σ2 := by
  refine G_ok (Inv.mk hR (CA.km (σ := stL σc 13 0 0 0 b.toInt64) hC hK) hW) ht ?_
  rw [hK.2.1]
  simp [sL_stL]
/-! frames, cached, cachedAt, flush, rounds -/
theorem k_frames (I : Inv kk σ) (hk : kk < 512) (p : Int32) {T : Int32 → Int32 → St → Prop} (hT : ∀ code b σ2, G (kk + 1) code b σ2 → T code b σ2) : z_L_frames N (some 0) p σ (fun code σ1 => z_X12_frames N 0 p σ1 (fun b σ2 => T code b σ2)) := by
  have I0 := I
  obtain ⟨m, u, w, L, R, ⟨C0', CT', CX', CC', CQ', CD', CP'⟩, WT', WX', WC', WQ', WD'⟩ := I
  rcases u_or p with hn | ⟨a, ha, rfl⟩
  · simp only [z_L_frames, u_br_True, u_br_False, u_jn_u, u_lt_u, u_nn_s, u_brn_s, u_brn_n, c_frames_n hn, r_frames_n hn, true_and, li_1]
    exact hT _ _ _ (G_exc (c := 1) I0 hk (by decide) (by decide))
  · by_cases h : a ≤ 12
    · have e1 := R.2.2.2.1
      have e2 := R.r 19 0 rfl
      have hL : L.length < 100 := by have := WC'.1; have := WC'.2.1; omega
      simp only [z_L_frames, u_br_True, u_br_False, u_jn_u, u_lt_u, u_nn_s, u_brn_s, u_brn_n, c_frames_g C0' h CC'.1 CC'.2.1 hL, li_0, wA_l (by decide : 0 < 1), l0c]
      rw [r_frames_g h (by simp only [sP_stL, sP_stP, Nat.reduceEqDiff, true_and, and_true, false_and, and_false, if_true, if_false, eq_self, and_self, Nat.reduceLT, Nat.reduceLeDiff, Nat.reduceAdd, Nat.reduceMul, Nat.reduceDiv, Nat.one_ne_zero]; exact e1) (by simp only [sP_stL, sP_stP, Nat.reduceEqDiff, true_and, and_true, false_and, and_false, if_true, if_false, eq_self, and_self, Nat.reduceLT, Nat.reduceLeDiff, Nat.reduceAdd, Nat.reduceMul, Nat.reduceDiv, Nat.one_ne_zero]; exact e2) hL]
      refine hT _ _ _ (fin (m := mu (mu m 16 0 0) 19 0 a) (u := u) (w := w) (L := L.take a) ?_ ?_ ((((KC.st).trans KC.st).trans KC.st).trans KC.st) ?_ (by simp [sP_stP]))
      · refine ⟨C0', ?_, ?_, ?_, ?_, ?_, CP_0 (by simp [mu])⟩
        · simp (disch := decide) only [CT_mu, CT_st]; exact CT'
        · simp (disch := decide) only [CX_mu, CX_st]; exact CX'
        · rw [CC_st (by decide)]
          refine ⟨by simp [sP_stP, mu], by simp [sP_stP, List.length_take, Nat.min_comm], ?_⟩
          intro j hj
          rw [List.length_take] at hj
          simp only [sP_stP, List.getElem_take, Nat.reduceEqDiff, true_and, and_true, false_and, and_false, if_true, if_false, eq_self, and_self, Nat.reduceLT, Nat.reduceLeDiff, Nat.reduceAdd, Nat.reduceMul, Nat.reduceDiv, Nat.one_ne_zero]
          exact CC'.2.2 j (by omega)
        · simp (disch := decide) only [CQ_mu, CQ_st]; exact CQ'
        · rw [CD_mu (by decide)]
          refine CD_close ?_
          simp (disch := decide) only [CD_st]; exact CD'
      · exact ((((R.km ((((KM.st (by decide)).trans (KM.st (by decide))).trans (KM.st (by decide))).trans KM.stL)).tmp rfl).set rfl).set rfl).cut
      · refine ⟨?_, ?_, ?_, ?_, ?_⟩
        · simp (disch := decide) only [WT_mu]; exact WT'
        · simp (disch := decide) only [WX_mu]; exact WX'
        · obtain ⟨w1, w2, w3, w4⟩ := WC'
          refine ⟨by simp [mu, h], by simp [mu, List.length_take]; omega, w3.sublist (List.take_sublist _ _), ?_⟩
          intro x hx
          have := w4 x (List.mem_of_mem_take hx)
          simpa [mu] using this
        · simp (disch := decide) only [WQ_mu]; exact WQ'
        · rw [WD_mu (by decide)]; exact WD_close (WD_up WD' hk)
    · simp only [z_L_frames, u_br_True, u_br_False, u_jn_u, u_lt_u, u_nn_s, u_brn_s, u_brn_n, c_frames_b ha (by omega : 12 < a), r_frames_b ha (by omega : 12 < a), true_and, li_1]
      exact hT _ _ _ (G_exc (c := 1) I0 hk (by decide) (by decide))
theorem c_keyAt_n {p : Int32} (h : p < nI 0) {K : Int32 → Prop} : z_X0_keyAt N 0 p σ K = K mI := by
  simp (disch := omega) only [z_X0_keyAt, u_br_True, u_br_False, u_jn_u, u_lt_u, u_nn_s, u_brn_s, u_brn_n, nI_add, u_n_mul, u_n_lt, u_n_le, u_n_eq, u_n_sub, u_n_div, u_n_mod, nI_clamp, u_m1, u_m1q, u_wI_n, u_wA_n, u_br_t, u_br_f, ↓li_m1, li_0, li_1, li_2, li_3, li_4, li_5, li_6, li_7, li_8, li_9, li_10, li_12, li_13, li_26, li_40, li_60, li_61, li_62, li_99, li_100, li_102, li_106, li_114, li_112, li_117, li_108, li_103, li_120, li_300, li_360, li_512, li_1000, h]
theorem c_keyAt {a : Nat} (CC' : CC m L σ) (hL : L.length ≤ 12) (ha : a < 2 ^ 31) {K : Int32 → Prop} : z_X0_keyAt N 0 (nI a) σ K = K (if h : a < L.length then nI L[a] else mI) := by
  by_cases h : a < L.length
  · rw [dif_pos h]
    simp (disch := omega) only [z_X0_keyAt, u_br_True, u_br_False, u_jn_u, u_lt_u, u_nn_s, u_brn_s, u_brn_n, nI_add, u_n_mul, u_n_lt, u_n_le, u_n_eq, u_n_sub, u_n_div, u_n_mod, nI_clamp, u_m1, u_m1q, u_wI_n, u_wA_n, u_br_t, u_br_f, ↓li_m1, li_0, li_1, li_2, li_3, li_4, li_5, li_6, li_7, li_8, li_9, li_10, li_12, li_13, li_26, li_40, li_60, li_61, li_62, li_99, li_100, li_102, li_106, li_114, li_112, li_117, li_108, li_103, li_120, li_300, li_360, li_512, li_1000, CC'.2.1, CC'.2.2 a h]
  · rw [dif_neg h]
    simp (disch := omega) only [z_X0_keyAt, u_br_True, u_br_False, u_jn_u, u_lt_u, u_nn_s, u_brn_s, u_brn_n, nI_add, u_n_mul, u_n_lt, u_n_le, u_n_eq, u_n_sub, u_n_div, u_n_mod, nI_clamp, u_m1, u_m1q, u_wI_n, u_wA_n, u_br_t, u_br_f, ↓li_m1, li_0, li_1, li_2, li_3, li_4, li_5, li_6, li_7, li_8, li_9, li_10, li_12, li_13, li_26, li_40, li_60, li_61, li_62, li_99, li_100, li_102, li_106, li_114, li_112, li_117, li_108, li_103, li_120, li_300, li_360, li_512, li_1000, CC'.2.1]
theorem Inv_ans (I : Inv kk σ) (hk : kk < 512) {b : Int32} : G (kk + 1) (nI 0) b (stP (stL σ 13 0 0 0 b.toInt64) 12 0 0 0 (nI 0)) :=
  G_ok (Inv_up (Inv_tmp (Inv_stL I) rfl) hk) (by simp [sP_stP]) (by simp [sL_stP, sL_stL])
theorem k_cachedAt (I : Inv kk σ) (hk : kk < 512) (p : Int32) {T : Int32 → Int32 → St → Prop} (hT : ∀ code b σ2, G (kk + 1) code b σ2 → T code b σ2) : z_L_cachedAt N (some 0) p σ (fun code σ1 => z_X12_cachedAt N 0 p σ1 (fun b σ2 => T code b σ2)) := by
  have I0 := I
  obtain ⟨m, u, w, L, R, ⟨C0', CT', CX', CC', CQ', CD', CP'⟩, WT', WX', WC', WQ', WD'⟩ := I
  have e1 := R.2.2.2.1
  have hL : L.length ≤ 12 := by have := WC'.1; have := WC'.2.1; omega
  unfold C0 at C0'
  rcases u_or p with hn | ⟨a, ha, rfl⟩
  · simp (disch := omega) only [z_L_cachedAt, z_X11_cachedAt, z_X12_cachedAt, u_br_True, u_br_False, u_jn_u, u_lt_u, u_nn_s, u_brn_s, u_brn_n, nI_add, u_n_mul, u_n_lt, u_n_le, u_n_eq, u_n_sub, u_n_div, u_n_mod, nI_clamp, u_m1, u_m1q, u_wI_n, u_wA_n, u_br_t, u_br_f, ↓li_m1, li_0, li_1, li_2, li_3, li_4, li_5, li_6, li_7, li_8, li_9, li_10, li_12, li_13, li_26, li_40, li_60, li_61, li_62, li_99, li_100, li_102, li_106, li_114, li_112, li_117, li_108, li_103, li_120, li_300, li_360, li_512, li_1000, b10, b00, f_0, f_1, u_okT, u_nb_0, u_nb_1, C0', c_keyAt_n hn, sP_stP, Nat.reduceEqDiff, true_and, and_true, false_and, and_false, if_true, if_false, eq_self, and_self, Nat.reduceLT, Nat.reduceLeDiff, Nat.reduceAdd, Nat.reduceMul, Nat.reduceDiv, Nat.one_ne_zero, l0c, wA_l, e1, r_inN hn]
    exact hT _ _ _ (G_exc (c := 1) I0 hk (by decide) (by decide))
  · by_cases h : a < L.length
    · have hx : L[a] < 2 ^ 31 := by
        rcases WC'.2.2.2 L[a] (List.getElem_mem h) with h9 | ⟨k, hk, h9, h8⟩
        · omega
        · have := WX'.1; omega
      simp (disch := omega) only [z_L_cachedAt, z_X11_cachedAt, z_X12_cachedAt, u_br_True, u_br_False, u_jn_u, u_lt_u, u_nn_s, u_brn_s, u_brn_n, nI_add, u_n_mul, u_n_lt, u_n_le, u_n_eq, u_n_sub, u_n_div, u_n_mod, nI_clamp, u_m1, u_m1q, u_wI_n, u_wA_n, u_br_t, u_br_f, ↓li_m1, li_0, li_1, li_2, li_3, li_4, li_5, li_6, li_7, li_8, li_9, li_10, li_12, li_13, li_26, li_40, li_60, li_61, li_62, li_99, li_100, li_102, li_106, li_114, li_112, li_117, li_108, li_103, li_120, li_300, li_360, li_512, li_1000, b10, b00, f_0, f_1, u_okT, u_nb_0, u_nb_1, C0', c_keyAt CC' hL ha, dif_pos h, sP_stP, sP_stL, Nat.reduceEqDiff, true_and, and_true, false_and, and_false, if_true, if_false, eq_self, and_self, Nat.reduceLT, Nat.reduceLeDiff, Nat.reduceAdd, Nat.reduceMul, Nat.reduceDiv, Nat.one_ne_zero, l0c, wA_l, e1, r_inT, r_inL, r_inH, r_inPT, r_inPF, R.2.2.2.2 a h]
      exact hT _ _ _ (Inv_ans I0 hk)
    · simp (disch := omega) only [z_L_cachedAt, z_X11_cachedAt, z_X12_cachedAt, u_br_True, u_br_False, u_jn_u, u_lt_u, u_nn_s, u_brn_s, u_brn_n, nI_add, u_n_mul, u_n_lt, u_n_le, u_n_eq, u_n_sub, u_n_div, u_n_mod, nI_clamp, u_m1, u_m1q, u_wI_n, u_wA_n, u_br_t, u_br_f, ↓li_m1, li_0, li_1, li_2, li_3, li_4, li_5, li_6, li_7, li_8, li_9, li_10, li_12, li_13, li_26, li_40, li_60, li_61, li_62, li_99, li_100, li_102, li_106, li_114, li_112, li_117, li_108, li_103, li_120, li_300, li_360, li_512, li_1000, b10, b00, f_0, f_1, u_okT, u_nb_0, u_nb_1, C0', c_keyAt CC' hL ha, dif_neg h, sP_stP, sP_stL, Nat.reduceEqDiff, true_and, and_true, false_and, and_false, if_true, if_false, eq_self, and_self, Nat.reduceLT, Nat.reduceLeDiff, Nat.reduceAdd, Nat.reduceMul, Nat.reduceDiv, Nat.one_ne_zero, l0c, wA_l, e1, r_inT, r_inL, r_inH, r_inPT, r_inPF]
      exact hT _ _ _ (G_exc (c := 1) I0 hk (by decide) (by decide))
theorem k_cached (I : Inv kk σ) (hk : kk < 512) {T : Int32 → Int32 → St → Prop} (hT : ∀ b σ2, Inv (kk + 1) σ2 → T b b σ2) : z_X11_cached N 0 σ (fun a => z_X12_cached N 0 σ (fun b σ2 => T a b σ2)) := by
  have I0 := I
  obtain ⟨m, u, w, L, R, ⟨C0', CT', CX', CC', CQ', CD', CP'⟩, WT', WX', WC', WQ', WD'⟩ := I
  unfold C0 at C0'
  simp (disch := omega) only [z_X11_cached, z_X12_cached, z_X0_size, u_br_True, u_br_False, u_jn_u, u_lt_u, u_nn_s, u_brn_s, u_brn_n, nI_add, u_n_mul, u_n_lt, u_n_le, u_n_eq, u_n_sub, u_n_div, u_n_mod, nI_clamp, u_m1, u_m1q, u_wI_n, u_wA_n, u_br_t, u_br_f, ↓li_m1, li_0, li_1, li_2, li_3, li_4, li_5, li_6, li_7, li_8, li_9, li_10, li_12, li_13, li_26, li_40, li_60, li_61, li_62, li_99, li_100, li_102, li_106, li_114, li_112, li_117, li_108, li_103, li_120, li_300, li_360, li_512, li_1000, C0', sP_stP, Nat.reduceEqDiff, true_and, and_true, false_and, and_false, if_true, if_false, eq_self, and_self, Nat.reduceLT, Nat.reduceLeDiff, Nat.reduceAdd, Nat.reduceMul, Nat.reduceDiv, Nat.one_ne_zero, l0c, R.2.2.2.1, CC'.2.1]
  exact hT _ _ (Inv_up (Inv_tmp I0 rfl) hk)
theorem k_rounds (I : Inv kk σ) (hk : kk < 512) {T : Int32 → Int32 → St → Prop} (hT : ∀ b σ2, Inv (kk + 1) σ2 → T b b σ2) : z_X11_rounds N 0 σ (fun a => z_X12_rounds N 0 σ (fun b σ2 => T a b σ2)) := by
  have I0 := I
  obtain ⟨m, u, w, L, R, ⟨C0', CT', CX', CC', CQ', CD', CP'⟩, WT', WX', WC', WQ', WD'⟩ := I
  unfold C0 at C0'
  simp (disch := omega) only [z_X11_rounds, z_X12_rounds, z_X2_roundCount, u_br_True, u_br_False, u_jn_u, u_lt_u, u_nn_s, u_brn_s, u_brn_n, nI_add, u_n_mul, u_n_lt, u_n_le, u_n_eq, u_n_sub, u_n_div, u_n_mod, nI_clamp, u_m1, u_m1q, u_wI_n, u_wA_n, u_br_t, u_br_f, ↓li_m1, li_0, li_1, li_2, li_3, li_4, li_5, li_6, li_7, li_8, li_9, li_10, li_12, li_13, li_26, li_40, li_60, li_61, li_62, li_99, li_100, li_102, li_106, li_114, li_112, li_117, li_108, li_103, li_120, li_300, li_360, li_512, li_1000, C0', sP_stP, Nat.reduceEqDiff, true_and, and_true, false_and, and_false, if_true, if_false, eq_self, and_self, Nat.reduceLT, Nat.reduceLeDiff, Nat.reduceAdd, Nat.reduceMul, Nat.reduceDiv, Nat.one_ne_zero, R.r 52 0 rfl, CD'.2.2.2.1]
  exact hT _ _ (Inv_up (Inv_tmp I0 rfl) hk)
theorem k_flush (I : Inv kk σ) (hk : kk < 512) {T : Int32 → Int32 → St → Prop} (hT : ∀ b σ2, Inv (kk + 1) σ2 → T b b σ2) : z_X11_flush N 0 σ (fun a σ1 => z_X12_flush N 0 σ1 (fun b σ2 => T a b σ2)) := by
  obtain ⟨m, u, w, L, R, ⟨C0', CT', CX', CC', CQ', CD', CP'⟩, WT', WX', WC', WQ', WD'⟩ := I
  have C1 := C0'
  unfold C0 at C0'
  have e1 := R.2.2.2.1
  simp (disch := omega) only [z_X11_flush, z_X12_flush, z_X0_size, z_X0_clear, z_X2_closeAppeals, u_br_True, u_br_False, u_jn_u, u_lt_u, u_nn_s, u_brn_s, u_brn_n, nI_add, u_n_mul, u_n_lt, u_n_le, u_n_eq, u_n_sub, u_n_div, u_n_mod, nI_clamp, u_m1, u_m1q, u_wI_n, u_wA_n, u_br_t, u_br_f, ↓li_m1, li_0, li_1, li_2, li_3, li_4, li_5, li_6, li_7, li_8, li_9, li_10, li_12, li_13, li_26, li_40, li_60, li_61, li_62, li_99, li_100, li_102, li_106, li_114, li_112, li_117, li_108, li_103, li_120, li_300, li_360, li_512, li_1000, C0', sP_stP, sQ_stP, Nat.reduceEqDiff, true_and, and_true, false_and, and_false, if_true, if_false, eq_self, and_self, Nat.reduceLT, Nat.reduceLeDiff, Nat.reduceAdd, Nat.reduceMul, Nat.reduceDiv, Nat.one_ne_zero, l0c, wA_l, e1, CC'.2.1]
  refine hT _ _ (Inv.mk (m := mu m 16 0 0) (u := u) (w := w) (L := L.take 0) ?_ (CA.km (σ := stP (stP σ 0 0 2 0 (nI 0)) 2 0 5 0 (nI 0)) ?_ (((KC.st).trans KC.st).trans KC.st)) ?_)
  · have := (((R.km ((KM.st (σ := σ) (k := 0) (i := 0) (f := 2) (j := 0) (v := nI 0) (by decide)).trans (KM.st (k := 2) (i := 0) (f := 5) (j := 0) (v := nI 0) (by decide)))).tmp (f := 0) (j := 0) (v := nI 0) rfl).set (f := 16) (j := 0) (x := 0) rfl).cut (a := 0)
    simpa using this
  · refine ⟨C1, ?_, ?_, ?_, ?_, ?_, CP_0 (by simp [mu])⟩
    · simp (disch := decide) only [CT_mu, CT_st]; exact CT'
    · simp (disch := decide) only [CX_mu, CX_st]; exact CX'
    · rw [CC_st (by decide), CC_mu (by decide)]
      refine ⟨by simp [sP_stP]; exact CC'.1, by simp [sP_stP], ?_⟩
      intro j hj
      simp at hj
    · simp (disch := decide) only [CQ_mu, CQ_st]; exact CQ'
    · refine CD_close ?_
      simp (disch := decide) only [CD_st]; exact CD'
  · refine ⟨?_, ?_, ?_, ?_, ?_⟩
    · simp (disch := decide) only [WT_mu]; exact WT'
    · simp (disch := decide) only [WX_mu]; exact WX'
    · rw [WC_mu (by decide)]
      obtain ⟨w1, w2, w3, w4⟩ := WC'
      exact ⟨w1, by simp, by simp, by simp⟩
    · simp (disch := decide) only [WQ_mu]; exact WQ'
    · exact WD_close (WD_up WD' hk)
end KEEP
