section WHERE
variable {m : Nat → Nat → Nat} {u w : Nat → Int32} {L : List Nat} {σ σ' : St} {N kk q a b s v : Nat}
theorem c_isV (h : v ≤ 99) {K : Int32 → Prop} : z_X11_isValue N (nI v) σ K = K (nI 1) := by
  simp (disch := omega) only [z_X11_isValue, u_br_True, u_br_False, u_jn_u, u_lt_u, u_nn_s, u_brn_s, u_brn_n, nI_add, u_n_mul, u_n_lt, u_n_le, u_n_eq, u_n_sub, u_n_div, u_n_mod, nI_clamp, u_m1, u_m1q, u_wI_n, u_wA_n, u_br_t, u_br_f, ↓li_m1, li_0, li_1, li_2, li_3, li_4, li_5, li_6, li_7, li_8, li_9, li_10, li_12, li_13, li_26, li_40, li_60, li_61, li_62, li_99, li_100, li_102, li_106, li_114, li_112, li_117, li_108, li_103, li_120, li_300, li_360, li_512, li_1000]
theorem c_isVO {p : Int32} (h : Out p 100) {K : Int32 → Prop} : z_X11_isValue N p σ K = K (nI 0) := by
  rcases h with h | ⟨a, ha, h2, rfl⟩
  · simp (disch := omega) only [z_X11_isValue, u_br_True, u_br_False, u_jn_u, u_lt_u, u_nn_s, u_brn_s, u_brn_n, nI_add, u_n_mul, u_n_lt, u_n_le, u_n_eq, u_n_sub, u_n_div, u_n_mod, nI_clamp, u_m1, u_m1q, u_wI_n, u_wA_n, u_br_t, u_br_f, ↓li_m1, li_0, li_1, li_2, li_3, li_4, li_5, li_6, li_7, li_8, li_9, li_10, li_12, li_13, li_26, li_40, li_60, li_61, li_62, li_99, li_100, li_102, li_106, li_114, li_112, li_117, li_108, li_103, li_120, li_300, li_360, li_512, li_1000, h]
  · simp (disch := omega) only [z_X11_isValue, u_br_True, u_br_False, u_jn_u, u_lt_u, u_nn_s, u_brn_s, u_brn_n, nI_add, u_n_mul, u_n_lt, u_n_le, u_n_eq, u_n_sub, u_n_div, u_n_mod, nI_clamp, u_m1, u_m1q, u_wI_n, u_wA_n, u_br_t, u_br_f, ↓li_m1, li_0, li_1, li_2, li_3, li_4, li_5, li_6, li_7, li_8, li_9, li_10, li_12, li_13, li_26, li_40, li_60, li_61, li_62, li_99, li_100, li_102, li_106, li_114, li_112, li_117, li_108, li_103, li_120, li_300, li_360, li_512, li_1000]
def sg (s : Nat) : Prop := s = 61 ∨ s = 60 ∨ s = 62
theorem nc_sg (h : sg s) : (narrow .char (.int (nI s)) = .int (nI s) ∧ fits .char (.int (nI s)) = true) := by
  rcases h with rfl | rfl | rfl <;> decide
theorem c_where (C : C0 σ) (Cq : CQ m σ) (Ct : CT m u σ) (W : WQ m) (Wt : WT m u) (hq : q < m 24 0) (ha : a < m 25 q) (hb : b < m 2 (tq m q a)) (hs : sg s) (hv : v ≤ 99) (hn : m 27 q < 4) {K : Int32 → St → Prop} {KX : String → St → Prop} :
    z_X11_where N 0 (nI q) (nI a) (nI b) (nI s) (nI v) σ K KX = K (nI (m 27 q + 1)) (stP (stP (stQ (sN1 σ (nI a) (nI b) (nI s) (nI v)) 7 q 2 (m 27 q) (some (sV σ 1))) 7 q 3 0 (nI (m 27 q + 1))) 2 0 5 0 (nI 0)) := by
  have hpl : Pl m q (nI a) (nI b) := ⟨a, b, ha, hb, rfl, rfl⟩
  have hnc := nc_sg hs
  unfold C0 at C
  have e := (Cq.2.2.2 q hq).2.1
  rcases hs with rfl | rfl | rfl <;>
  simp (disch := omega) only [z_X11_where, c_needQ Cq W hq, c_place (Cq.2.2.2 q hq) Ct W Wt hq hpl, c_isV hv, z_X7_conditionCount, z_X7_addCondition, z_X2_closeAppeals, e, u_ok_t hnc, sN1, n_P, n_Q, C, sQ_stP, sQ_stQ, sP_stP, sP_stQ, u_br_True, u_br_False, u_jn_u, u_lt_u, u_nn_s, u_brn_s, u_brn_n, nI_add, u_n_mul, u_n_lt, u_n_le, u_n_eq, u_n_sub, u_n_div, u_n_mod, nI_clamp, u_m1, u_m1q, u_wI_n, u_wA_n, u_br_t, u_br_f, ↓li_m1, li_0, li_1, li_2, li_3, li_4, li_5, li_6, li_7, li_8, li_9, li_10, li_12, li_13, li_26, li_40, li_60, li_61, li_62, li_99, li_100, li_102, li_106, li_114, li_112, li_117, li_108, li_103, li_120, li_300, li_360, li_512, li_1000, b10, b00, f_0, f_1, u_okT, u_nb_0, u_nb_1, Nat.reduceEqDiff, true_and, and_true, false_and, and_false, if_true, if_false, eq_self, and_self, Nat.reduceLT, Nat.reduceLeDiff, Nat.reduceAdd, Nat.reduceMul, Nat.reduceDiv, Nat.one_ne_zero, Nat.reduceEqDiff]
theorem c_where3 (Cq : CQ m σ) (Ct : CT m u σ) (W : WQ m) (Wt : WT m u) (hq : q < m 24 0) (ha : a < m 25 q) (hb : b < m 2 (tq m q a)) (hs : sg s) (hv : v ≤ 99) (hn : m 27 q = 4) {K : Int32 → St → Prop} {KX : String → St → Prop} :
    z_X11_where N 0 (nI q) (nI a) (nI b) (nI s) (nI v) σ K KX = KX "java/lang/IllegalStateException" σ := by
  have hpl : Pl m q (nI a) (nI b) := ⟨a, b, ha, hb, rfl, rfl⟩
  have e := (Cq.2.2.2 q hq).2.1
  rcases hs with rfl | rfl | rfl <;>
  simp (disch := omega) only [z_X11_where, c_needQ Cq W hq, c_place (Cq.2.2.2 q hq) Ct W Wt hq hpl, c_isV hv, z_X7_conditionCount, e, hn, u_br_True, u_br_False, u_jn_u, u_lt_u, u_nn_s, u_brn_s, u_brn_n, nI_add, u_n_mul, u_n_lt, u_n_le, u_n_eq, u_n_sub, u_n_div, u_n_mod, nI_clamp, u_m1, u_m1q, u_wI_n, u_wA_n, u_br_t, u_br_f, ↓li_m1, li_0, li_1, li_2, li_3, li_4, li_5, li_6, li_7, li_8, li_9, li_10, li_12, li_13, li_26, li_40, li_60, li_61, li_62, li_99, li_100, li_102, li_106, li_114, li_112, li_117, li_108, li_103, li_120, li_300, li_360, li_512, li_1000, b10, b00, f_0, f_1, u_okT, u_nb_0, u_nb_1, Nat.reduceEqDiff, true_and, and_true, false_and, and_false, if_true, if_false, eq_self, and_self, Nat.reduceLT, Nat.reduceLeDiff, Nat.reduceAdd, Nat.reduceMul, Nat.reduceDiv, Nat.one_ne_zero, Nat.reduceEqDiff]
/-- all that refuses with the second exception -/
def Bad2 (m : Nat → Nat → Nat) (q : Nat) (p c s v : Int32) : Prop := ¬ Pl m q p c ∨ (¬ s = nI 61 ∧ ¬ s = nI 60 ∧ ¬ s = nI 62) ∨ Out v 100
theorem c_where2 (Cq : CQ m σ) (Ct : CT m u σ) (W : WQ m) (Wt : WT m u) (hq : q < m 24 0) {p c s v : Int32} (h : Bad2 m q p c s v) {K : Int32 → St → Prop} {KX : String → St → Prop} :
    z_X11_where N 0 (nI q) p c s v σ K KX = KX "java/lang/IllegalArgumentException" σ := by
  have c1 := Cq.2.2.2 q hq
  by_cases h1 : Pl m q p c
  · by_cases h2 : ¬ s = nI 61 ∧ ¬ s = nI 60 ∧ ¬ s = nI 62
    · simp (disch := omega) only [z_X11_where, c_needQ Cq W hq, c_place c1 Ct W Wt hq h1, u_br_True, u_br_False, u_jn_u, u_lt_u, u_nn_s, u_brn_s, u_brn_n, ↓li_m1, li_0, li_1, li_2, li_3, li_4, li_5, li_6, li_7, li_8, li_9, li_10, li_12, li_13, li_26, li_40, li_60, li_61, li_62, li_99, li_100, li_102, li_106, li_114, li_112, li_117, li_108, li_103, li_120, li_300, li_360, li_512, li_1000, u_br_f h2.1, u_br_f h2.2.1, u_br_f h2.2.2, b10, b00, f_0, f_1, u_okT, u_nb_0, u_nb_1]
    · have h3 : Out v 100 := by
        rcases h with h | h | h
        · exact absurd h1 h
        · exact absurd h h2
        · exact h
      have h4 : s = nI 61 ∨ s = nI 60 ∨ s = nI 62 := by
        by_cases a1 : s = nI 61
        · exact Or.inl a1
        · by_cases a2 : s = nI 60
          · exact Or.inr (Or.inl a2)
          · by_cases a3 : s = nI 62
            · exact Or.inr (Or.inr a3)
            · exact absurd ⟨a1, a2, a3⟩ h2
      rcases h4 with rfl | rfl | rfl <;>
      simp (disch := omega) only [z_X11_where, c_needQ Cq W hq, c_place c1 Ct W Wt hq h1, c_isVO h3, u_br_True, u_br_False, u_jn_u, u_lt_u, u_nn_s, u_brn_s, u_brn_n, nI_add, u_n_mul, u_n_lt, u_n_le, u_n_eq, u_n_sub, u_n_div, u_n_mod, nI_clamp, u_m1, u_m1q, u_wI_n, u_wA_n, u_br_t, u_br_f, ↓li_m1, li_0, li_1, li_2, li_3, li_4, li_5, li_6, li_7, li_8, li_9, li_10, li_12, li_13, li_26, li_40, li_60, li_61, li_62, li_99, li_100, li_102, li_106, li_114, li_112, li_117, li_108, li_103, li_120, li_300, li_360, li_512, li_1000, b10, b00, f_0, f_1, u_okT, u_nb_0, u_nb_1, Nat.reduceEqDiff]
  · simp (disch := omega) only [z_X11_where, c_needQ Cq W hq, c_placeO c1 Ct W Wt hq h1, u_br_True, u_br_False, u_jn_u, u_lt_u, u_nn_s, u_brn_s, u_brn_n, ↓li_m1, li_0, li_1, li_2, li_3, li_4, li_5, li_6, li_7, li_8, li_9, li_10, li_12, li_13, li_26, li_40, li_60, li_61, li_62, li_99, li_100, li_102, li_106, li_114, li_112, li_117, li_108, li_103, li_120, li_300, li_360, li_512, li_1000, b10, b00, f_0, f_1, u_okT, u_nb_0, u_nb_1]
    simp [br]
theorem r_where (R : RI m u w L σ) (W : WQ m) (Wt : WT m u) (hq : q < m 24 0) (ha : a < m 25 q) (hb : b < m 2 (tq m q a)) (hs : sg s) (hv : v ≤ 99) (hn : m 27 q < 4) {K : Int32 → St → Prop} :
    z_X12_where N 0 (nI q) (nI a) (nI b) (nI s) (nI v) σ K = K (nI (m 27 q + 1)) (stP (stP (stP (stP (stP (stP (stP σ 12 0 0 0 (nI 0)) 12 0 16 0 (nI 0)) 12 0 28 (4 * q + m 27 q) (nI a)) 12 0 29 (4 * q + m 27 q) (nI b)) 12 0 30 (4 * q + m 27 q) (nI s)) 12 0 31 (4 * q + m 27 q) (nI v)) 12 0 27 q (nI (m 27 q + 1))) := by
  have hpl : Pl m q (nI a) (nI b) := ⟨a, b, ha, hb, rfl, rfl⟩
  have R0 : RI m u w L (stP σ 12 0 0 0 (nI 0)) := R.tmp rfl
  have w1 := W.1
  rcases hs with rfl | rfl | rfl <;>
  simp (disch := omega) only [z_X12_where, r_isQ R0 W hq, r_place R0 W Wt hq hpl, r_inT, r_inL, r_inH, r_inPT, r_inPF, sP_stP, u_br_True, u_br_False, u_jn_u, u_lt_u, u_nn_s, u_brn_s, u_brn_n, nI_add, u_n_mul, u_n_lt, u_n_le, u_n_eq, u_n_sub, u_n_div, u_n_mod, nI_clamp, u_m1, u_m1q, u_wI_n, u_wA_n, u_br_t, u_br_f, ↓li_m1, li_0, li_1, li_2, li_3, li_4, li_5, li_6, li_7, li_8, li_9, li_10, li_12, li_13, li_26, li_40, li_60, li_61, li_62, li_99, li_100, li_102, li_106, li_114, li_112, li_117, li_108, li_103, li_120, li_300, li_360, li_512, li_1000, b10, b00, f_0, f_1, u_okT, u_nb_0, u_nb_1, Nat.reduceEqDiff, true_and, and_true, false_and, and_false, if_true, if_false, eq_self, and_self, Nat.reduceLT, Nat.reduceLeDiff, Nat.reduceAdd, Nat.reduceMul, Nat.reduceDiv, Nat.one_ne_zero, Nat.reduceEqDiff, (fun j => R.r 27 j rfl)]
theorem r_where3 (R : RI m u w L σ) (W : WQ m) (Wt : WT m u) (hq : q < m 24 0) (ha : a < m 25 q) (hb : b < m 2 (tq m q a)) (hs : sg s) (hv : v ≤ 99) (hn : m 27 q = 4) {K : Int32 → St → Prop} :
    z_X12_where N 0 (nI q) (nI a) (nI b) (nI s) (nI v) σ K = K mI (stP σ 12 0 0 0 (nI 3)) := by
  have hpl : Pl m q (nI a) (nI b) := ⟨a, b, ha, hb, rfl, rfl⟩
  have R0 : RI m u w L (stP σ 12 0 0 0 (nI 0)) := R.tmp rfl
  have w1 := W.1
  rcases hs with rfl | rfl | rfl <;>
  simp (disch := omega) only [z_X12_where, r_isQ R0 W hq, r_place R0 W Wt hq hpl, r_inT, r_inL, r_inH, r_inPT, r_inPF, sP_stP, u_br_True, u_br_False, u_jn_u, u_lt_u, u_nn_s, u_brn_s, u_brn_n, nI_add, u_n_mul, u_n_lt, u_n_le, u_n_eq, u_n_sub, u_n_div, u_n_mod, nI_clamp, u_m1, u_m1q, u_wI_n, u_wA_n, u_br_t, u_br_f, ↓li_m1, li_0, li_1, li_2, li_3, li_4, li_5, li_6, li_7, li_8, li_9, li_10, li_12, li_13, li_26, li_40, li_60, li_61, li_62, li_99, li_100, li_102, li_106, li_114, li_112, li_117, li_108, li_103, li_120, li_300, li_360, li_512, li_1000, b10, b00, f_0, f_1, u_okT, u_nb_0, u_nb_1, Nat.reduceEqDiff, true_and, and_true, false_and, and_false, if_true, if_false, eq_self, and_self, Nat.reduceLT, Nat.reduceLeDiff, Nat.reduceAdd, Nat.reduceMul, Nat.reduceDiv, Nat.one_ne_zero, Nat.reduceEqDiff, (fun j => R.r 27 j rfl), hn]
theorem r_where2 (R : RI m u w L σ) (W : WQ m) (Wt : WT m u) (hq : q < m 24 0) {p c s v : Int32} (h : Bad2 m q p c s v) {K : Int32 → St → Prop} :
    z_X12_where N 0 (nI q) p c s v σ K = K mI (stP σ 12 0 0 0 (nI 2)) := by
  have R0 : RI m u w L (stP σ 12 0 0 0 (nI 0)) := R.tmp rfl
  have w1 := W.1
  by_cases h2 : ¬ s = nI 61 ∧ ¬ s = nI 60 ∧ ¬ s = nI 62
  · by_cases h1 : Pl m q p c
    · simp (disch := omega) only [z_X12_where, r_isQ R0 W hq, r_place R0 W Wt hq h1, u_br_True, u_br_False, u_jn_u, u_lt_u, u_nn_s, u_brn_s, u_brn_n, ↓li_m1, li_0, li_1, li_2, li_3, li_4, li_5, li_6, li_7, li_8, li_9, li_10, li_12, li_13, li_26, li_40, li_60, li_61, li_62, li_99, li_100, li_102, li_106, li_114, li_112, li_117, li_108, li_103, li_120, li_300, li_360, li_512, li_1000, u_br_f h2.1, u_br_f h2.2.1, u_br_f h2.2.2, b10, b00, f_0, f_1, u_okT, u_nb_0, u_nb_1]
    · simp (disch := omega) only [z_X12_where, r_isQ R0 W hq, r_placeO R0 W Wt hq h1, u_br_True, u_br_False, u_jn_u, u_lt_u, u_nn_s, u_brn_s, u_brn_n, ↓li_m1, li_0, li_1, li_2, li_3, li_4, li_5, li_6, li_7, li_8, li_9, li_10, li_12, li_13, li_26, li_40, li_60, li_61, li_62, li_99, li_100, li_102, li_106, li_114, li_112, li_117, li_108, li_103, li_120, li_300, li_360, li_512, li_1000, u_br_f h2.1, u_br_f h2.2.1, u_br_f h2.2.2, b10, b00, f_0, f_1, u_okT, u_nb_0, u_nb_1]
  · have h4 : s = nI 61 ∨ s = nI 60 ∨ s = nI 62 := by
      by_cases a1 : s = nI 61
      · exact Or.inl a1
      · by_cases a2 : s = nI 60
        · exact Or.inr (Or.inl a2)
        · by_cases a3 : s = nI 62
          · exact Or.inr (Or.inr a3)
          · exact absurd ⟨a1, a2, a3⟩ h2
    by_cases h1 : Pl m q p c
    · have h3 : Out v 100 := by
        rcases h with h | h | h
        · exact absurd h1 h
        · exact absurd h h2
        · exact h
      rcases h4 with rfl | rfl | rfl <;>
      simp (disch := omega) only [z_X12_where, r_isQ R0 W hq, r_place R0 W Wt hq h1, r_inO2 h3, u_br_True, u_br_False, u_jn_u, u_lt_u, u_nn_s, u_brn_s, u_brn_n, nI_add, u_n_mul, u_n_lt, u_n_le, u_n_eq, u_n_sub, u_n_div, u_n_mod, nI_clamp, u_m1, u_m1q, u_wI_n, u_wA_n, u_br_t, u_br_f, ↓li_m1, li_0, li_1, li_2, li_3, li_4, li_5, li_6, li_7, li_8, li_9, li_10, li_12, li_13, li_26, li_40, li_60, li_61, li_62, li_99, li_100, li_102, li_106, li_114, li_112, li_117, li_108, li_103, li_120, li_300, li_360, li_512, li_1000, b10, b00, f_0, f_1, u_okT, u_nb_0, u_nb_1, Nat.reduceEqDiff]
    · rcases h4 with rfl | rfl | rfl <;>
      simp (disch := omega) only [z_X12_where, r_isQ R0 W hq, r_placeO R0 W Wt hq h1, u_br_True, u_br_False, u_jn_u, u_lt_u, u_nn_s, u_brn_s, u_brn_n, nI_add, u_n_mul, u_n_lt, u_n_le, u_n_eq, u_n_sub, u_n_div, u_n_mod, nI_clamp, u_m1, u_m1q, u_wI_n, u_wA_n, u_br_t, u_br_f, ↓li_m1, li_0, li_1, li_2, li_3, li_4, li_5, li_6, li_7, li_8, li_9, li_10, li_12, li_13, li_26, li_40, li_60, li_61, li_62, li_99, li_100, li_102, li_106, li_114, li_112, li_117, li_108, li_103, li_120, li_300, li_360, li_512, li_1000, b10, b00, f_0, f_1, u_okT, u_nb_0, u_nb_1, Nat.reduceEqDiff]
theorem r_where1 (R : RI m u w L σ) (W : WQ m) {p0 p c s v : Int32} (h : Out p0 (m 24 0)) {K : Int32 → St → Prop} :
    z_X12_where N 0 p0 p c s v σ K = K mI (stP σ 12 0 0 0 (nI 1)) := by
  have R0 : RI m u w L (stP σ 12 0 0 0 (nI 0)) := R.tmp rfl
  by_cases h2 : ¬ s = nI 61 ∧ ¬ s = nI 60 ∧ ¬ s = nI 62
  · simp (disch := omega) only [z_X12_where, r_isQO R0 W h, u_br_True, u_br_False, u_jn_u, u_lt_u, u_nn_s, u_brn_s, u_brn_n, ↓li_m1, li_0, li_1, li_2, li_3, li_4, li_5, li_6, li_7, li_8, li_9, li_10, li_12, li_13, li_26, li_40, li_60, li_61, li_62, li_99, li_100, li_102, li_106, li_114, li_112, li_117, li_108, li_103, li_120, li_300, li_360, li_512, li_1000, u_br_f h2.1, u_br_f h2.2.1, u_br_f h2.2.2, b10, b00, f_0, f_1, u_okT, u_nb_0, u_nb_1]
  · have h4 : s = nI 61 ∨ s = nI 60 ∨ s = nI 62 := by
      by_cases a1 : s = nI 61
      · exact Or.inl a1
      · by_cases a2 : s = nI 60
        · exact Or.inr (Or.inl a2)
        · by_cases a3 : s = nI 62
          · exact Or.inr (Or.inr a3)
          · exact absurd ⟨a1, a2, a3⟩ h2
    rcases h4 with rfl | rfl | rfl <;>
    simp (disch := omega) only [z_X12_where, r_isQO R0 W h, u_br_True, u_br_False, u_jn_u, u_lt_u, u_nn_s, u_brn_s, u_brn_n, nI_add, u_n_mul, u_n_lt, u_n_le, u_n_eq, u_n_sub, u_n_div, u_n_mod, nI_clamp, u_m1, u_m1q, u_wI_n, u_wA_n, u_br_t, u_br_f, ↓li_m1, li_0, li_1, li_2, li_3, li_4, li_5, li_6, li_7, li_8, li_9, li_10, li_12, li_13, li_26, li_40, li_60, li_61, li_62, li_99, li_100, li_102, li_106, li_114, li_112, li_117, li_108, li_103, li_120, li_300, li_360, li_512, li_1000, b10, b00, f_0, f_1, u_okT, u_nb_0, u_nb_1, Nat.reduceEqDiff]
def wh (m : Nat → Nat → Nat) (q a b s v : Nat) : Nat → Nat → Nat := mu (mu (mu (mu (mu (mu m 16 0 0) 28 (4 * q + m 27 q) a) 29 (4 * q + m 27 q) b) 30 (4 * q + m 27 q) s) 31 (4 * q + m 27 q) v) 27 q (m 27 q + 1)
theorem CQ_wh (Cq : CQ m σ) (W : WQ m) (hq : q < m 24 0) (hn : m 27 q < 4) : CQ (wh m q a b s v) (stP (stP (stQ (sN1 σ (nI a) (nI b) (nI s) (nI v)) 7 q 2 (m 27 q) (some (sV σ 1))) 7 q 3 0 (nI (m 27 q + 1))) 2 0 5 0 (nI 0)) := by
  rw [CQ_st (by decide)]
  obtain ⟨q1, q2, q3, q4⟩ := Cq
  have hw8 := W.1
  refine ⟨by simp [sP_stP, sP_stQ, sN1, sP_stN, wh, mu, q1], by simp [sV_stP, sV_stQ, sN1, sV_stN, wh, mu, q2], ?_, ?_⟩
  · intro y hy
    simp [sQ_stP, sQ_stQ, sN1, sQ_stN, wh, mu, q3 y hy]
  · intro y hy
    simp only [wh, mu, Nat.reduceEqDiff, true_and, and_true, false_and, and_false, if_true, if_false, eq_self, and_self, Nat.reduceLT, Nat.reduceLeDiff, Nat.reduceAdd, Nat.reduceMul, Nat.reduceDiv, Nat.one_ne_zero] at hy
    obtain ⟨a1, a2, a3, a4, a5, a6, a7, a8⟩ := q4 y hy
    have w5 := (W.2.2 y hy).2.1
    refine ⟨?_, ?_, ?_, ?_, ?_, ?_, ?_, ?_⟩
    · simp [sP_stP, sP_stQ, sN1, sP_stN, wh, mu, a1]
    · by_cases hy2 : y = q
      · simp [sP_stP, sP_stQ, sN1, sP_stN, wh, mu, hy2]
      · simp [sP_stP, sP_stQ, sN1, sP_stN, wh, mu, hy2, a2]
    · simp [sP_stP, sP_stQ, sN1, sP_stN, wh, mu, a3]
    · intro z hz
      simp [sQ_stP, sQ_stQ, sN1, sQ_stN, wh, mu, a4 z hz]
    · intro z hz
      by_cases hj : 4 * y + z = 4 * q + m 27 q
      · have hz4 : z < 4 := by
          simp only [wh, mu, Nat.reduceEqDiff, true_and, and_true, false_and, and_false, if_true, if_false, eq_self, and_self, Nat.reduceLT, Nat.reduceLeDiff, Nat.reduceAdd, Nat.reduceMul, Nat.reduceDiv, Nat.one_ne_zero] at hz
          by_cases hy2 : y = q
          · rw [if_pos hy2] at hz; omega
          · rw [if_neg hy2] at hz; omega
        have e1 : y = q := by omega
        have e2 : z = m 27 q := by omega
        subst e1 e2
        exact ⟨sV σ 1, by simp [sQ_stP, sQ_stQ], by simp [sV_stP, sV_stQ, sN1, sV_stN], by simp [sP_stP, sP_stQ, sN1, sP_stN, wh, mu], by simp [sP_stP, sP_stQ, sN1, sP_stN, wh, mu], by simp [sP_stP, sP_stQ, sN1, sP_stN, wh, mu], by simp [sP_stP, sP_stQ, sN1, sP_stN, wh, mu]⟩
      · have hz2 : z < m 27 y := by
          simp only [wh, mu, Nat.reduceEqDiff, true_and, and_true, false_and, and_false, if_true, if_false, eq_self, and_self, Nat.reduceLT, Nat.reduceLeDiff, Nat.reduceAdd, Nat.reduceMul, Nat.reduceDiv, Nat.one_ne_zero] at hz
          by_cases hy2 : y = q
          · subst hy2
            rw [if_pos rfl] at hz; omega
          · rw [if_neg hy2] at hz; exact hz
        obtain ⟨c, d1, d2, d3, d4, d5, d6⟩ := a5 z hz2
        have hc : ¬ c = sV σ 1 := by omega
        have hj2 : ¬ (y = q ∧ z = m 27 q) := by omega
        refine ⟨c, ?_, ?_, ?_, ?_, ?_, ?_⟩
        · simp only [sQ_stP, sQ_stQ, sN1, sQ_stN, Nat.reduceEqDiff, true_and, and_true, false_and, and_false, if_true, if_false, eq_self, and_self, Nat.reduceLT, Nat.reduceLeDiff, Nat.reduceAdd, Nat.reduceMul, Nat.reduceDiv, Nat.one_ne_zero]
          rw [if_neg hj2]; exact d1
        · simp [sV_stP, sV_stQ, sN1, sV_stN]; omega
        · simp [sP_stP, sP_stQ, sN1, sP_stN, wh, mu, hc, hj, d3]
        · simp [sP_stP, sP_stQ, sN1, sP_stN, wh, mu, hc, hj, d4]
        · simp [sP_stP, sP_stQ, sN1, sP_stN, wh, mu, hc, hj, d5]
        · simp [sP_stP, sP_stQ, sN1, sP_stN, wh, mu, hc, hj, d6]
    · intro z hz hz4
      simp only [wh, mu, Nat.reduceEqDiff, true_and, and_true, false_and, and_false, if_true, if_false, eq_self, and_self, Nat.reduceLT, Nat.reduceLeDiff, Nat.reduceAdd, Nat.reduceMul, Nat.reduceDiv, Nat.one_ne_zero] at hz
      have hj2 : ¬ (y = q ∧ z = m 27 q) := by
        rintro ⟨rfl, rfl⟩
        rw [if_pos rfl] at hz; omega
      have hz2 : m 27 y ≤ z := by
        by_cases hy2 : y = q
        · subst hy2
          rw [if_pos rfl] at hz; omega
        · rw [if_neg hy2] at hz; exact hz
      simp only [sQ_stP, sQ_stQ, sN1, sQ_stN, Nat.reduceEqDiff, true_and, and_true, false_and, and_false, if_true, if_false, eq_self, and_self, Nat.reduceLT, Nat.reduceLeDiff, Nat.reduceAdd, Nat.reduceMul, Nat.reduceDiv, Nat.one_ne_zero]
      rw [if_neg hj2]; exact a6 z hz2 hz4
    · simpa [CJ, sP_stP, sP_stQ, sN1, sP_stN, sQ_stP, sQ_stQ, sQ_stN, sV_stP, sV_stQ, sV_stN, wh, mu] using a7
    · simpa [sQ_stP, sQ_stQ, sN1, sQ_stN, wh, mu] using a8
theorem WQ_wh (W : WQ m) (hq : q < m 24 0) (hn : m 27 q < 4) (ha : a < m 25 q) (hb : b < m 2 (tq m q a)) (hs : sg s) (hv : v ≤ 99) : WQ (wh m q a b s v) := by
  obtain ⟨w1, w2, w4⟩ := W
  refine ⟨by simpa [wh, mu] using w1, ?_, ?_⟩
  · intro y hy hy2
    simp [wh, mu] at hy ⊢
    have : ¬ y = q := by omega
    simp [this]
    exact w2 y (by omega) hy2
  · intro y hy
    simp only [wh, mu, Nat.reduceEqDiff, true_and, and_true, false_and, and_false, if_true, if_false, eq_self, and_self, Nat.reduceLT, Nat.reduceLeDiff, Nat.reduceAdd, Nat.reduceMul, Nat.reduceDiv, Nat.one_ne_zero] at hy
    obtain ⟨a1, a2, a3, a4, a5, a6⟩ := w4 y hy
    refine ⟨by simp [wh, mu]; omega, ?_, by simp [wh, mu]; omega, ?_, ?_, ?_⟩
    · simp only [wh, mu, Nat.reduceEqDiff, true_and, and_true, false_and, and_false, if_true, if_false, eq_self, and_self, Nat.reduceLT, Nat.reduceLeDiff, Nat.reduceAdd, Nat.reduceMul, Nat.reduceDiv, Nat.one_ne_zero]
      split
      · omega
      · exact a2
    · intro z hz
      simp only [wh, mu, Nat.reduceEqDiff, true_and, and_true, false_and, and_false, if_true, if_false, eq_self, and_self, Nat.reduceLT, Nat.reduceLeDiff, Nat.reduceAdd, Nat.reduceMul, Nat.reduceDiv, Nat.one_ne_zero] at hz ⊢
      exact a4 z hz
    · intro z hz
      by_cases hj : 4 * y + z = 4 * q + m 27 q
      · have hz4 : z < 4 := by
          simp only [wh, mu, Nat.reduceEqDiff, true_and, and_true, false_and, and_false, if_true, if_false, eq_self, and_self, Nat.reduceLT, Nat.reduceLeDiff, Nat.reduceAdd, Nat.reduceMul, Nat.reduceDiv, Nat.one_ne_zero] at hz
          by_cases hy2 : y = q
          · rw [if_pos hy2] at hz; omega
          · rw [if_neg hy2] at hz; omega
        have e1 : y = q := by omega
        have e2 : z = m 27 q := by omega
        subst e1 e2
        refine ⟨by simp [wh, mu]; exact ha, by simp [wh, mu, tq]; exact hb, by simp [wh, mu]; exact hs, by simp [wh, mu]; exact hv⟩
      · have hz2 : z < m 27 y := by
          simp only [wh, mu, Nat.reduceEqDiff, true_and, and_true, false_and, and_false, if_true, if_false, eq_self, and_self, Nat.reduceLT, Nat.reduceLeDiff, Nat.reduceAdd, Nat.reduceMul, Nat.reduceDiv, Nat.one_ne_zero] at hz
          by_cases hy2 : y = q
          · subst hy2
            rw [if_pos rfl] at hz; omega
          · rw [if_neg hy2] at hz; exact hz
        obtain ⟨b1, b2, b3, b4⟩ := a5 z hz2
        refine ⟨by simp [wh, mu, hj]; exact b1, by simp [wh, mu, tq, hj]; exact b2, by simp [wh, mu, hj]; exact b3, by simp [wh, mu, hj]; exact b4⟩
    · intro z hz
      simp only [wh, mu, tq, Nat.reduceEqDiff, true_and, and_true, false_and, and_false, if_true, if_false, eq_self, and_self, Nat.reduceLT, Nat.reduceLeDiff, Nat.reduceAdd, Nat.reduceMul, Nat.reduceDiv, Nat.one_ne_zero] at hz ⊢
      exact a6 z hz
end WHERE
