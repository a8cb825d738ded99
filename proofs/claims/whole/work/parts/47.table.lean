section TABLE
variable {m : Nat → Nat → Nat} {u w : Nat → Int32} {L : List Nat} {σ σ' : St} {N kk t c : Nat}
theorem fx1_s {α : Type} {F : (α → Prop) → α → Prop} {N : Nat} {x : α} (h : 0 < N) : fx1 F N x = F (fx1 F (N - 1)) x := by
  obtain ⟨M, rfl⟩ : ∃ M, N = M + 1 := ⟨N - 1, by omega⟩
  rfl
theorem fx2_s {α β : Type} {F : (α → β → Prop) → α → β → Prop} {N : Nat} {x : α} {y : β} (h : 0 < N) : fx2 F N x y = F (fx2 F (N - 1)) x y := by
  obtain ⟨M, rfl⟩ : ∃ M, N = M + 1 := ⟨N - 1, by omega⟩
  rfl
theorem fx3_s {α β γ : Type} {F : (α → β → γ → Prop) → α → β → γ → Prop} {N : Nat} {x : α} {y : β} {z : γ} (h : 0 < N) : fx3 F N x y z = F (fx3 F (N - 1)) x y z := by
  obtain ⟨M, rfl⟩ : ∃ M, N = M + 1 := ⟨N - 1, by omega⟩
  rfl
def mT (m : Nat → Nat → Nat) (c : Nat) : Nat → Nat → Nat := mu (mu (mu (mu (mu (mu m 16 0 0) 2 (m 1 0) c) 7 (3 * m 1 0 + 0) 99) 7 (3 * m 1 0 + 1) 99) 7 (3 * m 1 0 + 2) 99) 1 0 (m 1 0 + 1)
theorem r_table (hN : 1000000 ≤ N) (R : RI m u w L σ) (h : m 1 0 < 3) (hc : 1 ≤ c ∧ c ≤ 3) {K : Int32 → St → Prop} :
    z_X12_table N 0 (nI c) σ K = K (nI (m 1 0)) (stP (stP (stP (stP (stP (stP (stP σ 12 0 0 0 (nI 0)) 12 0 16 0 (nI 0)) 12 0 2 (m 1 0) (nI c)) 12 0 7 (3 * m 1 0 + 0) (nI 99)) 12 0 7 (3 * m 1 0 + 1) (nI 99)) 12 0 7 (3 * m 1 0 + 2) (nI 99)) 12 0 1 0 (nI (m 1 0 + 1))) := by
  simp (disch := omega) only [z_X12_table, u_br_True, u_br_False, u_jn_u, u_lt_u, u_nn_s, u_brn_s, u_brn_n, nI_add, u_n_mul, u_n_lt, u_n_le, u_n_eq, u_n_sub, u_n_div, u_n_mod, nI_clamp, u_m1, u_m1q, u_wI_n, u_wA_n, u_br_t, u_br_f, ↓li_m1, li_0, li_1, li_2, li_3, li_4, li_5, li_6, li_7, li_8, li_9, li_10, li_12, li_13, li_26, li_40, li_60, li_61, li_62, li_99, li_100, li_102, li_106, li_114, li_112, li_117, li_108, li_103, li_120, li_300, li_360, li_512, li_1000, r_inT, r_inL, r_inH, r_inPT, r_inPF, b10, b00, f_0, f_1, u_okT, u_nb_0, u_nb_1, sP_stP, Nat.reduceEqDiff, true_and, and_true, false_and, and_false, if_true, if_false, eq_self, and_self, Nat.reduceLT, Nat.reduceLeDiff, Nat.reduceAdd, Nat.reduceMul, Nat.reduceDiv, Nat.one_ne_zero, (fun j => R.r 1 j rfl)]
  rw [fx2_s (by omega)]
  simp (disch := omega) only [u_br_True, u_br_False, u_jn_u, u_lt_u, u_nn_s, u_brn_s, u_brn_n, nI_add, u_n_mul, u_n_lt, u_n_le, u_n_eq, u_n_sub, u_n_div, u_n_mod, nI_clamp, u_m1, u_m1q, u_wI_n, u_wA_n, u_br_t, u_br_f, ↓li_m1, li_0, li_1, li_2, li_3, li_4, li_5, li_6, li_7, li_8, li_9, li_10, li_12, li_13, li_26, li_40, li_60, li_61, li_62, li_99, li_100, li_102, li_106, li_114, li_112, li_117, li_108, li_103, li_120, li_300, li_360, li_512, li_1000, sP_stP, Nat.reduceEqDiff, true_and, and_true, false_and, and_false, if_true, if_false, eq_self, and_self, Nat.reduceLT, Nat.reduceLeDiff, Nat.reduceAdd, Nat.reduceMul, Nat.reduceDiv, Nat.one_ne_zero, (fun j => R.r 1 j rfl)]
  rw [fx2_s (by omega)]
  simp (disch := omega) only [u_br_True, u_br_False, u_jn_u, u_lt_u, u_nn_s, u_brn_s, u_brn_n, nI_add, u_n_mul, u_n_lt, u_n_le, u_n_eq, u_n_sub, u_n_div, u_n_mod, nI_clamp, u_m1, u_m1q, u_wI_n, u_wA_n, u_br_t, u_br_f, ↓li_m1, li_0, li_1, li_2, li_3, li_4, li_5, li_6, li_7, li_8, li_9, li_10, li_12, li_13, li_26, li_40, li_60, li_61, li_62, li_99, li_100, li_102, li_106, li_114, li_112, li_117, li_108, li_103, li_120, li_300, li_360, li_512, li_1000, sP_stP, Nat.reduceEqDiff, true_and, and_true, false_and, and_false, if_true, if_false, eq_self, and_self, Nat.reduceLT, Nat.reduceLeDiff, Nat.reduceAdd, Nat.reduceMul, Nat.reduceDiv, Nat.one_ne_zero, (fun j => R.r 1 j rfl)]
  rw [fx2_s (by omega)]
  simp (disch := omega) only [u_br_True, u_br_False, u_jn_u, u_lt_u, u_nn_s, u_brn_s, u_brn_n, nI_add, u_n_mul, u_n_lt, u_n_le, u_n_eq, u_n_sub, u_n_div, u_n_mod, nI_clamp, u_m1, u_m1q, u_wI_n, u_wA_n, u_br_t, u_br_f, ↓li_m1, li_0, li_1, li_2, li_3, li_4, li_5, li_6, li_7, li_8, li_9, li_10, li_12, li_13, li_26, li_40, li_60, li_61, li_62, li_99, li_100, li_102, li_106, li_114, li_112, li_117, li_108, li_103, li_120, li_300, li_360, li_512, li_1000, sP_stP, Nat.reduceEqDiff, true_and, and_true, false_and, and_false, if_true, if_false, eq_self, and_self, Nat.reduceLT, Nat.reduceLeDiff, Nat.reduceAdd, Nat.reduceMul, Nat.reduceDiv, Nat.one_ne_zero, (fun j => R.r 1 j rfl)]
  rw [fx2_s (by omega)]
  simp (disch := omega) only [u_br_True, u_br_False, u_jn_u, u_lt_u, u_nn_s, u_brn_s, u_brn_n, nI_add, u_n_mul, u_n_lt, u_n_le, u_n_eq, u_n_sub, u_n_div, u_n_mod, nI_clamp, u_m1, u_m1q, u_wI_n, u_wA_n, u_br_t, u_br_f, ↓li_m1, li_0, li_1, li_2, li_3, li_4, li_5, li_6, li_7, li_8, li_9, li_10, li_12, li_13, li_26, li_40, li_60, li_61, li_62, li_99, li_100, li_102, li_106, li_114, li_112, li_117, li_108, li_103, li_120, li_300, li_360, li_512, li_1000, sP_stP, Nat.reduceEqDiff, true_and, and_true, false_and, and_false, if_true, if_false, eq_self, and_self, Nat.reduceLT, Nat.reduceLeDiff, Nat.reduceAdd, Nat.reduceMul, Nat.reduceDiv, Nat.one_ne_zero, (fun j => R.r 1 j rfl)]
  rw [show m 1 0 + 1 - 1 = m 1 0 by omega]
theorem r_table2 (R : RI m u w L σ) (h : m 1 0 = 3) (hc : 1 ≤ c ∧ c ≤ 3) {K : Int32 → St → Prop} :
    z_X12_table N 0 (nI c) σ K = K mI (stP σ 12 0 0 0 (nI 2)) := by
  simp (disch := omega) only [z_X12_table, u_br_True, u_br_False, u_jn_u, u_lt_u, u_nn_s, u_brn_s, u_brn_n, nI_add, u_n_mul, u_n_lt, u_n_le, u_n_eq, u_n_sub, u_n_div, u_n_mod, nI_clamp, u_m1, u_m1q, u_wI_n, u_wA_n, u_br_t, u_br_f, ↓li_m1, li_0, li_1, li_2, li_3, li_4, li_5, li_6, li_7, li_8, li_9, li_10, li_12, li_13, li_26, li_40, li_60, li_61, li_62, li_99, li_100, li_102, li_106, li_114, li_112, li_117, li_108, li_103, li_120, li_300, li_360, li_512, li_1000, r_inT, r_inL, r_inH, r_inPT, r_inPF, b10, b00, f_0, f_1, u_okT, u_nb_0, u_nb_1, sP_stP, Nat.reduceEqDiff, true_and, and_true, false_and, and_false, if_true, if_false, eq_self, and_self, Nat.reduceLT, Nat.reduceLeDiff, Nat.reduceAdd, Nat.reduceMul, Nat.reduceDiv, Nat.one_ne_zero, (fun j => R.r 1 j rfl), h]
/-- no number of columns -/
def BadC (p : Int32) : Prop := p < nI 0 ∨ ∃ a, a < 2 ^ 31 ∧ (a = 0 ∨ 3 < a) ∧ p = nI a
theorem badC_or (p : Int32) : (∃ c, 1 ≤ c ∧ c ≤ 3 ∧ p = nI c) ∨ BadC p := by
  rcases u_or p with h | ⟨a, ha, rfl⟩
  · exact Or.inr (Or.inl h)
  · by_cases h : 1 ≤ a ∧ a ≤ 3
    · exact Or.inl ⟨a, h.1, h.2, rfl⟩
    · exact Or.inr (Or.inr ⟨a, ha, by omega, rfl⟩)
theorem r_table1 {p : Int32} (h : BadC p) {K : Int32 → St → Prop} : z_X12_table N 0 p σ K = K mI (stP σ 12 0 0 0 (nI 1)) := by
  rcases h with h | ⟨a, ha, h2, rfl⟩
  · simp (disch := omega) only [z_X12_table, u_br_True, u_br_False, u_jn_u, u_lt_u, u_nn_s, u_brn_s, u_brn_n, ↓li_m1, li_0, li_1, li_2, li_3, li_4, li_5, li_6, li_7, li_8, li_9, li_10, li_12, li_13, li_26, li_40, li_60, li_61, li_62, li_99, li_100, li_102, li_106, li_114, li_112, li_117, li_108, li_103, li_120, li_300, li_360, li_512, li_1000, r_inN (u_neg_lt h (by decide : 1 < 2 ^ 31)), b10, b00, f_0, f_1, u_okT, u_nb_0, u_nb_1]
  · rcases h2 with rfl | h2
    · simp (disch := omega) only [z_X12_table, u_br_True, u_br_False, u_jn_u, u_lt_u, u_nn_s, u_brn_s, u_brn_n, ↓li_m1, li_0, li_1, li_2, li_3, li_4, li_5, li_6, li_7, li_8, li_9, li_10, li_12, li_13, li_26, li_40, li_60, li_61, li_62, li_99, li_100, li_102, li_106, li_114, li_112, li_117, li_108, li_103, li_120, li_300, li_360, li_512, li_1000, r_inT, r_inL, r_inH, r_inPT, r_inPF, b10, b00, f_0, f_1, u_okT, u_nb_0, u_nb_1]
    · simp (disch := omega) only [z_X12_table, u_br_True, u_br_False, u_jn_u, u_lt_u, u_nn_s, u_brn_s, u_brn_n, ↓li_m1, li_0, li_1, li_2, li_3, li_4, li_5, li_6, li_7, li_8, li_9, li_10, li_12, li_13, li_26, li_40, li_60, li_61, li_62, li_99, li_100, li_102, li_106, li_114, li_112, li_117, li_108, li_103, li_120, li_300, li_360, li_512, li_1000, r_inT, r_inL, r_inH, r_inPT, r_inPF, b10, b00, f_0, f_1, u_okT, u_nb_0, u_nb_1]
theorem c_table (C : C0 σ) (T : CT m u σ) (h : m 1 0 < 3) (hc : 1 ≤ c ∧ c ≤ 3) {K : Int32 → St → Prop} {KX : String → St → Prop} :
    z_X11_table N 0 (nI c) σ K KX = K (nI (m 1 0)) (stP (stP (stQ (sN10 σ (nI (m 1 0)) (nI c)) 9 0 0 (m 1 0) (some (sV σ 10))) 9 0 1 0 (nI (m 1 0 + 1))) 2 0 5 0 (nI 0)) := by
  unfold C0 at C
  simp (disch := omega) only [z_X11_table, z_X9_addTable, z_X2_closeAppeals, u_br_True, u_br_False, u_jn_u, u_lt_u, u_nn_s, u_brn_s, u_brn_n, nI_add, u_n_mul, u_n_lt, u_n_le, u_n_eq, u_n_sub, u_n_div, u_n_mod, nI_clamp, u_m1, u_m1q, u_wI_n, u_wA_n, u_br_t, u_br_f, ↓li_m1, li_0, li_1, li_2, li_3, li_4, li_5, li_6, li_7, li_8, li_9, li_10, li_12, li_13, li_26, li_40, li_60, li_61, li_62, li_99, li_100, li_102, li_106, li_114, li_112, li_117, li_108, li_103, li_120, li_300, li_360, li_512, li_1000, T.1, sN10, n_P, n_Q, C, sQ_stP, sQ_stQ, sP_stP, sP_stQ, b10, b00, f_0, f_1, u_okT, u_nb_0, u_nb_1, Nat.reduceEqDiff, true_and, and_true, false_and, and_false, if_true, if_false, eq_self, and_self, Nat.reduceLT, Nat.reduceLeDiff, Nat.reduceAdd, Nat.reduceMul, Nat.reduceDiv, Nat.one_ne_zero]
theorem c_table2 (C : C0 σ) (T : CT m u σ) (h : m 1 0 = 3) (hc : 1 ≤ c ∧ c ≤ 3) {K : Int32 → St → Prop} {KX : String → St → Prop} :
    z_X11_table N 0 (nI c) σ K KX = KX "java/lang/IllegalStateException" σ := by
  unfold C0 at C
  simp (disch := omega) only [z_X11_table, z_X9_addTable, u_br_True, u_br_False, u_jn_u, u_lt_u, u_nn_s, u_brn_s, u_brn_n, nI_add, u_n_mul, u_n_lt, u_n_le, u_n_eq, u_n_sub, u_n_div, u_n_mod, nI_clamp, u_m1, u_m1q, u_wI_n, u_wA_n, u_br_t, u_br_f, ↓li_m1, li_0, li_1, li_2, li_3, li_4, li_5, li_6, li_7, li_8, li_9, li_10, li_12, li_13, li_26, li_40, li_60, li_61, li_62, li_99, li_100, li_102, li_106, li_114, li_112, li_117, li_108, li_103, li_120, li_300, li_360, li_512, li_1000, T.1, h, C, b10, b00, f_0, f_1, u_okT, u_nb_0, u_nb_1, Nat.reduceEqDiff, true_and, and_true, false_and, and_false, if_true, if_false, eq_self, and_self, Nat.reduceLT, Nat.reduceLeDiff, Nat.reduceAdd, Nat.reduceMul, Nat.reduceDiv, Nat.one_ne_zero]
theorem c_table1 {p : Int32} (h : BadC p) {K : Int32 → St → Prop} {KX : String → St → Prop} : z_X11_table N 0 p σ K KX = KX "java/lang/IllegalArgumentException" σ := by
  rcases h with h | ⟨a, ha, h2, rfl⟩
  · simp (disch := omega) only [z_X11_table, u_br_True, u_br_False, u_jn_u, u_lt_u, u_nn_s, u_brn_s, u_brn_n, ↓li_m1, li_0, li_1, li_2, li_3, li_4, li_5, li_6, li_7, li_8, li_9, li_10, li_12, li_13, li_26, li_40, li_60, li_61, li_62, li_99, li_100, li_102, li_106, li_114, li_112, li_117, li_108, li_103, li_120, li_300, li_360, li_512, li_1000, u_neg_t h]
  · rcases h2 with rfl | h2
    · simp (disch := omega) only [z_X11_table, u_br_True, u_br_False, u_jn_u, u_lt_u, u_nn_s, u_brn_s, u_brn_n, nI_add, u_n_mul, u_n_lt, u_n_le, u_n_eq, u_n_sub, u_n_div, u_n_mod, nI_clamp, u_m1, u_m1q, u_wI_n, u_wA_n, u_br_t, u_br_f, ↓li_m1, li_0, li_1, li_2, li_3, li_4, li_5, li_6, li_7, li_8, li_9, li_10, li_12, li_13, li_26, li_40, li_60, li_61, li_62, li_99, li_100, li_102, li_106, li_114, li_112, li_117, li_108, li_103, li_120, li_300, li_360, li_512, li_1000]
    · simp (disch := omega) only [z_X11_table, u_br_True, u_br_False, u_jn_u, u_lt_u, u_nn_s, u_brn_s, u_brn_n, nI_add, u_n_mul, u_n_lt, u_n_le, u_n_eq, u_n_sub, u_n_div, u_n_mod, nI_clamp, u_m1, u_m1q, u_wI_n, u_wA_n, u_br_t, u_br_f, ↓li_m1, li_0, li_1, li_2, li_3, li_4, li_5, li_6, li_7, li_8, li_9, li_10, li_12, li_13, li_26, li_40, li_60, li_61, li_62, li_99, li_100, li_102, li_106, li_114, li_112, li_117, li_108, li_103, li_120, li_300, li_360, li_512, li_1000]
theorem mT_o {f j : Nat} (h1 : f ≠ 1) (h2 : f ≠ 2) (h3 : f ≠ 7) (h4 : f ≠ 16) : mT m c f j = m f j := by
  simp [mT, mu, h1, h2, h3, h4]
theorem mT_2 : mT m c 2 t = if t = m 1 0 then c else m 2 t := by simp [mT, mu]
theorem mT_2n (h : t ≠ m 1 0) : mT m c 2 t = m 2 t := by rw [mT_2, if_neg h]
theorem mT_1 : mT m c 1 0 = m 1 0 + 1 := by simp [mT, mu]
theorem mT_7 {j : Nat} (hj : j < 3) : mT m c 7 (3 * t + j) = if t = m 1 0 then 99 else m 7 (3 * t + j) := by
  simp only [mT, mu, Nat.reduceEqDiff, true_and, and_true, false_and, and_false, if_true, if_false, eq_self, and_self, Nat.reduceLT, Nat.reduceLeDiff, Nat.reduceAdd, Nat.reduceMul, Nat.reduceDiv, Nat.one_ne_zero]
  by_cases h : t = m 1 0
  · subst h
    rw [if_pos rfl]
    by_cases h2 : j = 2
    · simp [h2]
    · by_cases h1 : j = 1
      · simp [h1]
      · simp [show j = 0 by omega]
  · rw [if_neg h, if_neg (by omega), if_neg (by omega), if_neg (by omega)]
theorem th_mT : th (mT m c) = th m := by
  funext t r
  simp only [th, mT_o (c := c) (by decide : 4 ≠ 1) (by decide) (by decide) (by decide)]
theorem liv_mT : liv (mT m c) = liv m := by
  funext t
  simp only [liv, th_mT]
theorem ent_mT : ent (mT m c) = ent m := by
  funext u t c'
  simp only [ent, th_mT]
theorem WT_mT (W : WT m u) (h : m 1 0 < 3) (hc : 1 ≤ c ∧ c ≤ 3) : WT (mT m c) u := by
  obtain ⟨w1, w2, w3, w4, w5, w6, w7, w8, w9, w10, w11⟩ := W
  have o : ∀ f j, f ≠ 1 → f ≠ 2 → f ≠ 7 → f ≠ 16 → mT m c f j = m f j := fun f j a b c d => mT_o a b c d
  have z := w11 (m 1 0) (Nat.le_refl _) h
  refine ⟨by rw [mT_1]; omega, ?_, ?_, ?_, ?_, ?_, ?_, ?_, ?_, ?_, ?_⟩
  · intro t ht
    rw [mT_1, mT_2]
    by_cases e : t = m 1 0
    · rw [if_pos e]; omega
    · rw [if_neg e]
      have := w2 t ht
      omega
  · intro t ht
    rw [mT_1] at ht
    rw [mT_2]
    by_cases e : t = m 1 0
    · rw [if_pos e]; omega
    · rw [if_neg e]; exact w3 t (by omega)
  · intro t ht; rw [o 3 t (by decide) (by decide) (by decide) (by decide)]; exact w4 t ht
  · intro t r ht hr; rw [o 4 _ (by decide) (by decide) (by decide) (by decide)]; exact w5 t r ht hr
  · intro t r ht hr; rw [o 4 _ (by decide) (by decide) (by decide) (by decide), o 3 _ (by decide) (by decide) (by decide) (by decide)]; exact w6 t r ht hr
  · intro j hj
    rw [o 6 _ (by decide) (by decide) (by decide) (by decide)]
    refine ⟨(w7 j hj).1, ?_⟩
    have e := mT_7 (m := m) (c := c) (t := j / 3) (j := j % 3) (Nat.mod_lt _ (by decide))
    rw [show 3 * (j / 3) + j % 3 = j by omega] at e
    rw [e]
    split
    · omega
    · exact (w7 j hj).2
  · intro t ht; rw [o 8 t (by decide) (by decide) (by decide) (by decide), o 9 t (by decide) (by decide) (by decide) (by decide)]; exact w8 t ht
  · intro j hj; rw [o 10 j (by decide) (by decide) (by decide) (by decide), o 11 j (by decide) (by decide) (by decide) (by decide), o 12 j (by decide) (by decide) (by decide) (by decide)]; exact w9 j hj
  · intro t r c' ht hr hc'
    rw [mT_1] at ht
    rw [o 3 t (by decide) (by decide) (by decide) (by decide)] at hr
    by_cases e : t = m 1 0
    · subst e; omega
    · rw [mT_2n e] at hc'
      exact w10 t r c' (by omega) hr hc'
  · intro t ht ht3
    rw [mT_1] at ht
    rw [o 3 t (by decide) (by decide) (by decide) (by decide), o 8 t (by decide) (by decide) (by decide) (by decide), o 9 t (by decide) (by decide) (by decide) (by decide)]
    refine ⟨(w11 t (by omega) ht3).1, (w11 t (by omega) ht3).2.1, (w11 t (by omega) ht3).2.2.1, ?_⟩
    intro c' hc'
    rw [o 6 _ (by decide) (by decide) (by decide) (by decide), o 10 _ (by decide) (by decide) (by decide) (by decide), o 11 _ (by decide) (by decide) (by decide) (by decide), o 12 _ (by decide) (by decide) (by decide) (by decide)]
    exact (w11 t (by omega) ht3).2.2.2 c' hc'
theorem WX_mT (W : WX m) (h : m 1 0 < 3) : WX (mT m c) := by
  obtain ⟨w1, w2⟩ := W
  refine ⟨by rw [mT_o (by decide) (by decide) (by decide) (by decide)]; exact w1, ?_⟩
  intro k hk
  rw [mT_o (by decide) (by decide) (by decide) (by decide)] at hk
  obtain ⟨a, b⟩ := w2 k hk
  rw [mT_o (f := 14) (by decide) (by decide) (by decide) (by decide), mT_o (f := 15) (by decide) (by decide) (by decide) (by decide), mT_1, mT_2n (by omega)]
  exact ⟨by omega, b⟩
theorem WQ_mT (W : WQ m) (h : m 1 0 < 3) : WQ (mT m c) := by
  obtain ⟨w1, w2, w3⟩ := W
  have o : ∀ f j, f ≠ 1 → f ≠ 2 → f ≠ 7 → f ≠ 16 → mT m c f j = m f j := fun f j a b c d => mT_o a b c d
  simp (disch := decide) only [WQ, tq, o]
  refine ⟨w1, w2, fun q hq => ?_⟩
  obtain ⟨a1, a2, a3, a4, a5, a6⟩ := w3 q hq
  refine ⟨a1, a2, a3, ?_, ?_, ?_⟩
  · intro p hp; rw [mT_1]; have := a4 p hp; omega
  · intro k hk
    obtain ⟨b1, b2, b3⟩ := a5 k hk
    have := a4 _ b1
    refine ⟨b1, ?_, b3⟩
    rw [mT_2n (by omega)]; exact b2
  · intro k hk
    obtain ⟨b1, b2, b3, b4, b5⟩ := a6 k hk
    have h1 := a4 _ b1
    have h2 := a4 _ b3
    refine ⟨b1, ?_, b3, ?_, b5⟩
    · rw [mT_2n (by omega)]; exact b2
    · rw [mT_2n (by omega)]; exact b4
theorem CT_mT (T : CT m u σ) (W : WT m u) (h : m 1 0 < 3) : CT (mT m c) u (stP (stQ (sN10 σ (nI (m 1 0)) (nI c)) 9 0 0 (m 1 0) (some (sV σ 10))) 9 0 1 0 (nI (m 1 0 + 1))) := by
  obtain ⟨t1, t2, t3, t4⟩ := T
  have o : ∀ f j, f ≠ 1 → f ≠ 2 → f ≠ 7 → f ≠ 16 → mT m c f j = m f j := fun f j a b c d => mT_o a b c d
  have z := W.2.2.2.2.2.2.2.2.2.2 (m 1 0) (Nat.le_refl _) h
  refine ⟨by simp [sP_stP, mT_1], by simp [sV_stP, sV_stQ, sN10, sV_stN, mT_1, t2], ?_, ?_⟩
  · intro t ht
    simp only [sQ_stP, sQ_stQ, sN10, sQ_stN, mT_1, Nat.reduceEqDiff, true_and, and_true, false_and, and_false, if_true, if_false, eq_self, and_self, Nat.reduceLT, Nat.reduceLeDiff, Nat.reduceAdd, Nat.reduceMul, Nat.reduceDiv, Nat.one_ne_zero]
    by_cases e : t = m 1 0
    · rw [if_pos e, if_pos (by omega), t2, e]
    · rw [if_neg e, t3 t ht]
      split <;> split <;> first | rfl | omega
  · intro t ht
    rw [mT_1] at ht
    by_cases e : t = m 1 0
    · subst e
      have hl : liv m (m 1 0) = 0 := by
        simp only [liv, List.length_eq_zero_iff, List.filter_eq_nil_iff, List.mem_range]
        intro r hr h9
        have := W.th_lt h hr h9
        omega
      have h40 : ∀ r, r < 40 → m 4 (40 * m 1 0 + r) = 0 := fun r hr => W.2.2.2.2.2.1 (m 1 0) r h hr (by omega)
      unfold CT1
      rw [liv_mT]
      simp (disch := decide) only [o, mT_2, mT_1, if_pos rfl]
      refine ⟨?_, ?_, ?_, ?_, ?_, ?_, ?_, ?_, ?_, ?_, ?_, ?_, ?_⟩
      · simp [sP_stP, sP_stQ, sN10, sP_stN, t2]
      · simp [sP_stP, sP_stQ, sN10, sP_stN, t2]
      · simp [sP_stP, sP_stQ, sN10, sP_stN, t2, z.1, li_0]
      · simp [sP_stP, sP_stQ, sN10, sP_stN, t2, hl, li_0]
      · intro r hr; simp [sP_stP, sP_stQ, sN10, sP_stN, t2, h40 r hr, li_0]
      · intro r c' hr; omega
      · intro c' hc'; simp [sP_stP, sP_stQ, sN10, sP_stN, t2, (z.2.2.2 c' hc').1, li_0]
      · intro c' hc'
        rw [mT_7 hc', if_pos rfl]
        have : c' = 0 ∨ c' = 1 ∨ c' = 2 := by omega
        rcases this with rfl | rfl | rfl <;> simp [sP_stP, sP_stQ, sN10, sP_stN, t2, li_99]
      · simp [sP_stP, sP_stQ, sN10, sP_stN, t2, z.2.1, li_0]
      · simp [sP_stP, sP_stQ, sN10, sP_stN, t2, z.2.2.1, li_0]
      · intro c' hc'; simp [sP_stP, sP_stQ, sN10, sP_stN, t2, (z.2.2.2 c' hc').2.1, li_0]
      · intro c' hc'; simp [sP_stP, sP_stQ, sN10, sP_stN, t2, (z.2.2.2 c' hc').2.2.1, li_0]
      · intro c' hc'; simp [sP_stP, sP_stQ, sN10, sP_stN, t2, (z.2.2.2 c' hc').2.2.2, li_0]
    · have T1 := t4 t (by omega)
      unfold CT1 at T1 ⊢
      have hne : ¬ t = sV σ 10 := by rw [t2]; exact e
      obtain ⟨a1, a2, a3, a4, a5, a6, a7, a8, a9, a10, a11, a12, a13⟩ := T1
      rw [liv_mT]
      simp (disch := decide) only [o, mT_2n e]
      refine ⟨?_, ?_, ?_, ?_, ?_, ?_, ?_, ?_, ?_, ?_, ?_, ?_, ?_⟩
      · simp [sP_stP, sP_stQ, sN10, sP_stN, hne, a1]
      · simp [sP_stP, sP_stQ, sN10, sP_stN, hne, a2]
      · simp [sP_stP, sP_stQ, sN10, sP_stN, hne, a3]
      · simp [sP_stP, sP_stQ, sN10, sP_stN, hne, a4]
      · intro r hr; simp [sP_stP, sP_stQ, sN10, sP_stN, hne, a5 r hr]
      · intro r c' hr hc'; simp [sP_stP, sP_stQ, sN10, sP_stN, hne, a6 r c' hr hc']
      · intro c' hc'; simp [sP_stP, sP_stQ, sN10, sP_stN, hne, a7 c' hc']
      · intro c' hc'; rw [mT_7 hc', if_neg e]; simp [sP_stP, sP_stQ, sN10, sP_stN, hne, a8 c' hc']
      · simp [sP_stP, sP_stQ, sN10, sP_stN, hne, a9]
      · simp [sP_stP, sP_stQ, sN10, sP_stN, hne, a10]
      · intro c' hc'; simp [sP_stP, sP_stQ, sN10, sP_stN, hne, a11 c' hc']
      · intro c' hc'; simp [sP_stP, sP_stQ, sN10, sP_stN, hne, a12 c' hc']
      · intro c' hc'; simp [sP_stP, sP_stQ, sN10, sP_stN, hne, a13 c' hc']
theorem CX_mT (T : CX m u σ) : CX (mT m c) u (stP (stQ (sN10 σ (nI (m 1 0)) (nI c)) 9 0 0 (m 1 0) (some (sV σ 10))) 9 0 1 0 (nI (m 1 0 + 1))) := by
  have o : ∀ f j, f ≠ 1 → f ≠ 2 → f ≠ 7 → f ≠ 16 → mT m c f j = m f j := fun f j a b c d => mT_o a b c d
  obtain ⟨t1, t2, t3, t4⟩ := T
  unfold CX
  rw [o 13 0 (by decide) (by decide) (by decide) (by decide)]
  refine ⟨by simp [sP_stP, sP_stQ, sN10, sP_stN, t1], by simp [sV_stP, sV_stQ, sN10, sV_stN, t2], ?_, ?_⟩
  · intro k hk; simp [sQ_stP, sQ_stQ, sN10, sQ_stN, t3 k hk]
  · intro k hk
    obtain ⟨a1, a2, a3, a4, a5⟩ := t4 k hk
    unfold CX1
    simp (disch := decide) only [o, ent_mT]
    refine ⟨?_, ?_, ?_, ?_, ?_⟩
    · simp [sP_stP, sP_stQ, sN10, sP_stN, a1]
    · simp [sQ_stP, sQ_stQ, sN10, sQ_stN, a2]
    · simp [sP_stP, sP_stQ, sN10, sP_stN, a3]
    · simp [sP_stP, sP_stQ, sN10, sP_stN, a4]
    · intro j hj; simp [sP_stP, sP_stQ, sN10, sP_stN, a5 j hj]
theorem k_table (hN : 1000000 ≤ N) (I : Inv kk σ) (hk : kk < 512) (p : Int32) {T : Int32 → Int32 → St → Prop} (hT : ∀ code b σ2, G (kk + 1) code b σ2 → T code b σ2) : z_L_table N (some 0) p σ (fun code σ1 => z_X12_table N 0 p σ1 (fun b σ2 => T code b σ2)) := by
  have I0 := I
  obtain ⟨m, u, w, L, R, ⟨C0', CT', CX', CC', CQ', CD', CP'⟩, WT', WX', WC', WQ', WD'⟩ := I
  have h1 := WT'.nt
  rcases badC_or p with ⟨c, hc1, hc3, rfl⟩ | hp
  · by_cases h3 : m 1 0 = 3
    · simp only [z_L_table, u_br_True, u_br_False, u_jn_u, u_lt_u, u_nn_s, u_brn_s, u_brn_n, c_table2 C0' CT' h3 ⟨hc1, hc3⟩, r_table2 R h3 ⟨hc1, hc3⟩, li_1, li_2]
      exact Or.inr ⟨trivial, hT _ _ _ (G_exc (c := 2) I0 hk (by decide) (by decide))⟩
    · have h : m 1 0 < 3 := by omega
      simp only [z_L_table, u_br_True, u_br_False, u_jn_u, u_lt_u, u_nn_s, u_brn_s, u_brn_n, c_table C0' CT' h ⟨hc1, hc3⟩, li_0, wA_l (by decide : 0 < 1), l0c]
      have Rc : RI m u w L (stP (stP (stQ (sN10 σ (nI (m 1 0)) (nI c)) 9 0 0 (m 1 0) (some (sV σ 10))) 9 0 1 0 (nI (m 1 0 + 1))) 2 0 5 0 (nI 0)) := R.km ((((KM.stN (by decide)).trans KM.stQ).trans (KM.st (by decide))).trans (KM.st (by decide)))
      rw [r_table hN (Rc.km KM.stL) h ⟨hc1, hc3⟩]
      refine hT _ _ _ (fin (m := mT m c) (u := u) (w := w) (L := L) (σc := stP (stP (stQ (sN10 σ (nI (m 1 0)) (nI c)) 9 0 0 (m 1 0) (some (sV σ 10))) 9 0 1 0 (nI (m 1 0 + 1))) 2 0 5 0 (nI 0)) ?_ ?_ (((((((KC.st).trans KC.st).trans KC.st).trans KC.st).trans KC.st).trans KC.st).trans KC.st) ?_ (by simp (disch := decide) only [sP_o, sP_e]))
      · refine ⟨?_, ?_, ?_, ?_, ?_, ?_, CP_0 (by simp [mT, mu])⟩
        · rw [C0_st, C0_st, C0_stQ (by decide), sN10, C0_stN (by decide)]; exact C0'
        · rw [CT_st (by decide)]; exact CT_mT CT' WT' h
        · rw [CX_st (by decide)]; exact CX_mT CX'
        · simp (disch := decide) only [mT, sN10, CC_mu, CC_st, CC_stQ, CC_stN]; exact CC'
        · simp (disch := decide) only [mT, sN10, CQ_mu, CQ_st, CQ_stQ, CQ_stN]; exact CQ'
        · simp (disch := decide) only [mT, CD_mu]
          refine CD_close ?_
          simp (disch := decide) only [sN10, CD_st, CD_stQ, CD_stN]; exact CD'
      · exact (((((((Rc.km KM.stL).tmp rfl).set rfl).set rfl).set rfl).set rfl).set rfl).set rfl
      · refine ⟨?_, ?_, ?_, ?_, ?_⟩
        · exact WT_mT WT' h ⟨hc1, hc3⟩
        · exact WX_mT WX' h
        · simp (disch := decide) only [mT, WC_mu]; exact WC'
        · exact WQ_mT WQ' h
        · simp (disch := decide) only [mT, WD_mu]; exact WD_close (WD_up WD' hk)
  · simp only [z_L_table, u_br_True, u_br_False, u_jn_u, u_lt_u, u_nn_s, u_brn_s, u_brn_n, c_table1 hp, r_table1 hp, li_1]
    exact Or.inl ⟨trivial, hT _ _ _ (G_exc (c := 1) I0 hk (by decide) (by decide))⟩
end TABLE
