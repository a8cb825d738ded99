section QUERY
variable {m : Nat → Nat → Nat} {u w : Nat → Int32} {L : List Nat} {σ σ' : St} {N kk f j x k i : Nat} {v : Int32} {o : Option Nat} {p : Nat → Nat → Int32} {l : Nat → Int64} {q : Nat → Nat → Option Nat}
theorem CT_stQ (h : nin [9] k = true) : CT m u (stQ σ k i f j o) = CT m u σ := by
  have n := nin_ne h
  have e : ∀ i' f' j', sQ (stQ σ k i f j o) 9 i' f' j' = sQ σ 9 i' f' j' := fun i' f' j' => by rw [sQ_stQ, if_neg (fun e => n 9 (by decide) e.1)]
  simp only [CT, CT1, e, sP_stQ, sV_stQ]
theorem CX_stQ (h : nin [9, 3] k = true) : CX m u (stQ σ k i f j o) = CX m u σ := by
  have n := nin_ne h
  have e : ∀ g, g ≠ k → ∀ i' f' j', sQ (stQ σ k i f j o) g i' f' j' = sQ σ g i' f' j' := fun g hg i' f' j' => by rw [sQ_stQ, if_neg (fun e => hg e.1)]
  simp only [CX, CX1, e 9 (n 9 (by decide)), e 3 (n 3 (by decide)), sP_stQ, sV_stQ]
theorem CC_stQ : CC m L (stQ σ k i f j o) = CC m L σ := rfl
theorem CD_stQ : CD m w (stQ σ k i f j o) = CD m w σ := rfl
theorem CQ_stQ (h : nin [7, 11] k = true) : CQ m (stQ σ k i f j o) = CQ m σ := by
  have n := nin_ne h
  have e : ∀ g, g ≠ k → ∀ i' f' j', sQ (stQ σ k i f j o) g i' f' j' = sQ σ g i' f' j' := fun g hg i' f' j' => by rw [sQ_stQ, if_neg (fun e => hg e.1)]
  simp only [CQ, CQ1, CN, CJ, e 7 (n 7 (by decide)), e 11 (n 11 (by decide)), sP_stQ, sV_stQ]
theorem C0_stQ (h : nin [11, 6, 8] k = true) : C0 (stQ σ k i f j o) = C0 σ := by
  have n := nin_ne h
  have e : ∀ g, g ≠ k → ∀ i' f' j', sQ (stQ σ k i f j o) g i' f' j' = sQ σ g i' f' j' := fun g hg i' f' j' => by rw [sQ_stQ, if_neg (fun e => hg e.1)]
  simp only [C0, e 11 (n 11 (by decide)), e 6 (n 6 (by decide)), e 8 (n 8 (by decide))]
theorem C0_stQ1 (h : nin [0, 3, 4, 5, 6, 7, 8, 9, 11] f = true) : C0 (stQ σ 11 i f j o) = C0 σ := by
  have n := nin_ne h
  have e : ∀ g, g ≠ f → ∀ i' j', sQ (stQ σ 11 i f j o) 11 i' g j' = sQ σ 11 i' g j' := fun g hg i' j' => by rw [sQ_stQ, if_neg (fun e => hg e.2.2.1)]
  have e6 : ∀ i' f' j', sQ (stQ σ 11 i f j o) 6 i' f' j' = sQ σ 6 i' f' j' := fun i' f' j' => by rw [sQ_stQ, if_neg (fun e => absurd e.1 (by decide))]
  have e8 : ∀ i' f' j', sQ (stQ σ 11 i f j o) 8 i' f' j' = sQ σ 8 i' f' j' := fun i' f' j' => by rw [sQ_stQ, if_neg (fun e => absurd e.1 (by decide))]
  simp only [C0, e6, e8, e 0 (n 0 (by decide)), e 3 (n 3 (by decide)), e 4 (n 4 (by decide)), e 5 (n 5 (by decide)), e 6 (n 6 (by decide)), e 7 (n 7 (by decide)), e 8 (n 8 (by decide)), e 9 (n 9 (by decide)), e 11 (n 11 (by decide))]
theorem n_P {g : Nat} (h : g ≠ k) (i' f' j' : Nat) : sP (stN σ k p l q) g i' f' j' = sP σ g i' f' j' := by rw [sP_stN, if_neg (fun e => h e.1)]
theorem n_Q {g : Nat} (h : g ≠ k) (i' f' j' : Nat) : sQ (stN σ k p l q) g i' f' j' = sQ σ g i' f' j' := by rw [sQ_stN, if_neg (fun e => h e.1)]
theorem n_V {g : Nat} (h : g ≠ k) : sV (stN σ k p l q) g = sV σ g := by rw [sV_stN, if_neg h]
theorem C0_stN (h : nin [11, 6, 8] k = true) : C0 (stN σ k p l q) = C0 σ := by
  have n := nin_ne h
  simp only [C0, n_Q (n 11 (by decide)), n_Q (n 6 (by decide)), n_Q (n 8 (by decide))]
theorem CT_stN (h : nin [9, 10] k = true) : CT m u (stN σ k p l q) = CT m u σ := by
  have n := nin_ne h
  simp only [CT, CT1, n_P (n 9 (by decide)), n_P (n 10 (by decide)), n_Q (n 9 (by decide)), n_V (n 10 (by decide))]
theorem CX_stN (h : nin [9, 3] k = true) : CX m u (stN σ k p l q) = CX m u σ := by
  have n := nin_ne h
  simp only [CX, CX1, n_P (n 9 (by decide)), n_P (n 3 (by decide)), n_Q (n 9 (by decide)), n_Q (n 3 (by decide)), n_V (n 3 (by decide))]
theorem CC_stN (h : nin [0] k = true) : CC m L (stN σ k p l q) = CC m L σ := by
  have n := nin_ne h
  simp only [CC, n_P (n 0 (by decide))]
theorem CD_stN (h : nin [2] k = true) : CD m w (stN σ k p l q) = CD m w σ := by
  have n := nin_ne h
  simp only [CD, n_P (n 2 (by decide))]
theorem CQ_stN (h : nin [1, 4, 7, 11] k = true) : CQ m (stN σ k p l q) = CQ m σ := by
  have n := nin_ne h
  simp only [CQ, CQ1, CN, CJ, n_P (n 1 (by decide)), n_P (n 4 (by decide)), n_P (n 7 (by decide)), n_P (n 11 (by decide)), n_Q (n 7 (by decide)), n_Q (n 11 (by decide)), n_V (n 1 (by decide)), n_V (n 4 (by decide)), n_V (n 7 (by decide))]
theorem KM.stN (h : k ≠ 12) : KM σ (stN σ k p l q) := fun i' f' j' => by rw [sP_stN, if_neg (fun e => h e.1.symm)]
theorem CA_stL {y : Int64} (C : CA m u w L σ) : CA m u w L (stL σ k i f j y) := C
/-! a new query -/
theorem k_query (I : Inv kk σ) (hk : kk < 512) {T : Int32 → Int32 → St → Prop} (hT : ∀ code b σ2, G (kk + 1) code b σ2 → T code b σ2) : z_L_query N (some 0) σ (fun code σ1 => z_X12_query N 0 σ1 (fun b σ2 => T code b σ2)) := by
  have I0 := I
  obtain ⟨m, u, w, L, R, ⟨C0', CT', CX', CC', CQ', CD', CP'⟩, WT', WX', WC', WQ', WD'⟩ := I
  have hC := C0'
  unfold C0 at hC
  have b8 := WQ'.1
  have e1 := CQ'.1
  by_cases h : m 24 0 = 8
  · simp (disch := omega) only [z_L_query, z_X11_query, z_X12_query, u_br_True, u_br_False, u_jn_u, u_lt_u, u_nn_s, u_brn_s, u_brn_n, nI_add, u_n_mul, u_n_lt, u_n_le, u_n_eq, u_n_sub, u_n_div, u_n_mod, nI_clamp, u_m1, u_m1q, u_wI_n, u_wA_n, u_br_t, u_br_f, ↓li_m1, li_0, li_1, li_2, li_3, li_4, li_5, li_6, li_7, li_8, li_9, li_10, li_12, li_13, li_26, li_40, li_60, li_61, li_62, li_99, li_100, li_102, li_106, li_114, li_112, li_117, li_108, li_103, li_120, li_300, li_360, li_512, li_1000, b10, b00, f_0, f_1, u_okT, u_nb_0, u_nb_1, e1, h, sP_stP, Nat.reduceEqDiff, true_and, and_true, false_and, and_false, if_true, if_false, eq_self, and_self, Nat.reduceLT, Nat.reduceLeDiff, Nat.reduceAdd, Nat.reduceMul, Nat.reduceDiv, Nat.one_ne_zero, (fun j => R.r 24 j rfl), true_and]
    exact hT _ _ _ (G_exc (c := 1) I0 hk (by decide) (by decide))
  · have hlt : m 24 0 < 8 := by omega
    simp (disch := omega) only [z_L_query, z_X11_query, z_X12_query, z_X2_closeAppeals, u_br_True, u_br_False, u_jn_u, u_lt_u, u_nn_s, u_brn_s, u_brn_n, nI_add, u_n_mul, u_n_lt, u_n_le, u_n_eq, u_n_sub, u_n_div, u_n_mod, nI_clamp, u_m1, u_m1q, u_wI_n, u_wA_n, u_br_t, u_br_f, ↓li_m1, li_0, li_1, li_2, li_3, li_4, li_5, li_6, li_7, li_8, li_9, li_10, li_12, li_13, li_26, li_40, li_60, li_61, li_62, li_99, li_100, li_102, li_106, li_114, li_112, li_117, li_108, li_103, li_120, li_300, li_360, li_512, li_1000, b10, b00, f_0, f_1, u_okT, u_nb_0, u_nb_1, e1, sP_stP, sP_stL, sP_stQ, sN7, n_P, n_Q, n_V, sQ_stQ, sQ_stP, hC, sP_stN, Nat.reduceEqDiff, true_and, and_true, false_and, and_false, if_true, if_false, eq_self, and_self, Nat.reduceLT, Nat.reduceLeDiff, Nat.reduceAdd, Nat.reduceMul, Nat.reduceDiv, Nat.one_ne_zero, (fun j => R.r 24 j rfl), wA_l, l0c, CQ'.2.1]
    refine hT _ _ _ (fin (m := mu (mu m 16 0 0) 24 0 (m 24 0 + 1)) (u := u) (w := w) (L := L) ?_ ?_ (((KC.st).trans KC.st).trans KC.st) ?_ (by simp [sP_stP]))
    · refine ⟨?_, ?_, ?_, ?_, ?_, ?_, CP_0 (by simp [mu])⟩
      · rw [C0_st, C0_st, C0_stQ1 (by decide), C0_stN (by decide)]; exact C0'
      · simp (disch := decide) only [CT_mu, CT_st, CT_stQ, CT_stN]; exact CT'
      · simp (disch := decide) only [CX_mu, CX_st, CX_stQ, CX_stN]; exact CX'
      · simp (disch := decide) only [CC_mu, CC_st, CC_stQ, CC_stN]; exact CC'
      · rw [CQ_st (by decide)]
        obtain ⟨q1, q2, q3, q4⟩ := CQ'
        refine ⟨by simp [sP_stP, mu], by simp [sV_stP, sV_stQ, sV_stN, mu, q2], ?_, ?_⟩
        · intro y hy
          simp only [sQ_stP, sQ_stQ, sQ_stN, mu, Nat.reduceEqDiff, true_and, and_true, false_and, and_false, if_true, if_false, eq_self, and_self, Nat.reduceLT, Nat.reduceLeDiff, Nat.reduceAdd, Nat.reduceMul, Nat.reduceDiv, Nat.one_ne_zero]
          have := q3 y hy
          by_cases hy2 : y = m 24 0
          · simp [hy2]
          · simp [hy2, this]
            split <;> split <;> first | rfl | omega
        · intro y hy
          simp only [mu, Nat.reduceEqDiff, true_and, and_true, false_and, and_false, if_true, if_false, eq_self, and_self, Nat.reduceLT, Nat.reduceLeDiff, Nat.reduceAdd, Nat.reduceMul, Nat.reduceDiv, Nat.one_ne_zero] at hy
          by_cases hy2 : y = m 24 0
          · subst hy2
            have z := WQ'.2.1 (m 24 0) (Nat.le_refl _) hlt
            refine ⟨?_, ?_, ?_, ?_, ?_, ?_, ?_, ?_⟩
            · simp [sP_stP, sP_stQ, sP_stN, q2, mu, z, li_0]
            · simp [sP_stP, sP_stQ, sP_stN, q2, mu, z, li_0]
            · simp [sP_stP, sP_stQ, sP_stN, q2, mu, z, li_0]
            · intro y hy; simp [sQ_stP, sQ_stQ, sQ_stN, q2, mu, z]
            · intro y hy; simp [mu, z] at hy
            · intro y hy hy2; simp [sQ_stP, sQ_stQ, sQ_stN, q2]
            · intro y hy; simp [mu, z] at hy
            · intro y hy hy2; simp [sQ_stP, sQ_stQ, sQ_stN, q2]
          · have := q4 y (by omega)
            have hne : ¬ y = sV σ 7 := by rw [q2]; exact hy2
            simpa [CQ1, CN, CJ, sP_stP, sP_stQ, sP_stN, sQ_stP, sQ_stQ, sQ_stN, sV_stP, sV_stQ, sV_stN, hne, mu] using this
      · simp (disch := decide) only [CD_mu, CD_stQ, CD_stN]
        refine CD_close ?_
        simp (disch := decide) only [CD_st, CD_stQ, CD_stN]; exact CD'
    · have Rc : RI m u w L (stP (stP (stQ (stN σ 7 (fun _ _ => nI 0) (fun _ => 0) (fun _ _ => none)) 11 0 1 (m 24 0) (some (m 24 0))) 11 0 2 0 (nI (m 24 0 + 1))) 2 0 5 0 (nI 0)) := R.km ((((KM.stN (by decide)).trans KM.stQ).trans (KM.st (by decide))).trans (KM.st (by decide)))
      exact (((Rc.km KM.stL).tmp rfl).set rfl).set rfl
    · refine ⟨?_, ?_, ?_, ?_, ?_⟩
      · simp (disch := decide) only [WT_mu]; exact WT'
      · simp (disch := decide) only [WX_mu]; exact WX'
      · simp (disch := decide) only [WC_mu]; exact WC'
      · obtain ⟨w1, w2, w3⟩ := WQ'
        refine ⟨by simp [mu]; omega, ?_, ?_⟩
        · intro y hy hy2
          simp [mu] at hy ⊢
          exact w2 y (by omega) hy2
        · intro y hy
          simp only [mu, Nat.reduceEqDiff, true_and, and_true, false_and, and_false, if_true, if_false, eq_self, and_self, Nat.reduceLT, Nat.reduceLeDiff, Nat.reduceAdd, Nat.reduceMul, Nat.reduceDiv, Nat.one_ne_zero] at hy
          by_cases hy2 : y = m 24 0
          · subst hy2
            have z := w2 (m 24 0) (Nat.le_refl _) hlt
            simp [mu, tq, z]
          · have := w3 y (by omega)
            simpa [mu, tq] using this
      · simp (disch := decide) only [WD_mu]; exact WD_close (WD_up WD' hk)
end QUERY
