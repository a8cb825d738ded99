section JOIN
variable {m : Nat → Nat → Nat} {u w : Nat → Int32} {L : List Nat} {σ σ' : St} {N kk q a b c d : Nat}
theorem c_join (C : C0 σ) (Cq : CQ m σ) (Ct : CT m u σ) (W : WQ m) (Wt : WT m u) (hq : q < m 24 0) (ha : a < m 25 q) (hb : b < m 2 (tq m q a)) (hc : c < m 25 q) (hd : d < m 2 (tq m q c)) (hac : ¬ a = c) (hn : m 32 q < 3) {K : Int32 → St → Prop} {KX : String → St → Prop} :
    z_X11_join N 0 (nI q) (nI a) (nI b) (nI c) (nI d) σ K KX = K (nI (m 32 q + 1)) (stP (stP (stQ (sN4 σ (nI a) (nI b) (nI c) (nI d)) 7 q 4 (m 32 q) (some (sV σ 4))) 7 q 5 0 (nI (m 32 q + 1))) 2 0 5 0 (nI 0)) := by
  have hpl : Pl m q (nI a) (nI b) := ⟨a, b, ha, hb, rfl, rfl⟩
  have hpl2 : Pl m q (nI c) (nI d) := ⟨c, d, hc, hd, rfl, rfl⟩
  have w3 := (W.2.2 q hq).1
  unfold C0 at C
  have e := (Cq.2.2.2 q hq).2.2.1
  simp (disch := omega) only [z_X11_join, c_needQ Cq W hq, c_place (Cq.2.2.2 q hq) Ct W Wt hq hpl, c_place (Cq.2.2.2 q hq) Ct W Wt hq hpl2, z_X7_joinCount, z_X7_addJoin, z_X2_closeAppeals, e, sN4, n_P, n_Q, C, sQ_stP, sQ_stQ, sP_stP, sP_stQ, u_br_True, u_br_False, u_jn_u, u_lt_u, u_nn_s, u_brn_s, u_brn_n, nI_add, u_n_mul, u_n_lt, u_n_le, u_n_eq, u_n_sub, u_n_div, u_n_mod, nI_clamp, u_m1, u_m1q, u_wI_n, u_wA_n, u_br_t, u_br_f, ↓li_m1, li_0, li_1, li_2, li_3, li_4, li_5, li_6, li_7, li_8, li_9, li_10, li_12, li_13, li_26, li_40, li_60, li_61, li_62, li_99, li_100, li_102, li_106, li_114, li_112, li_117, li_108, li_103, li_120, li_300, li_360, li_512, li_1000, b10, b00, f_0, f_1, u_okT, u_nb_0, u_nb_1, Nat.reduceEqDiff, true_and, and_true, false_and, and_false, if_true, if_false, eq_self, and_self, Nat.reduceLT, Nat.reduceLeDiff, Nat.reduceAdd, Nat.reduceMul, Nat.reduceDiv, Nat.one_ne_zero]
theorem c_join3 (Cq : CQ m σ) (Ct : CT m u σ) (W : WQ m) (Wt : WT m u) (hq : q < m 24 0) (ha : a < m 25 q) (hb : b < m 2 (tq m q a)) (hc : c < m 25 q) (hd : d < m 2 (tq m q c)) (hac : ¬ a = c) (hn : m 32 q = 3) {K : Int32 → St → Prop} {KX : String → St → Prop} :
    z_X11_join N 0 (nI q) (nI a) (nI b) (nI c) (nI d) σ K KX = KX "java/lang/IllegalStateException" σ := by
  have hpl : Pl m q (nI a) (nI b) := ⟨a, b, ha, hb, rfl, rfl⟩
  have hpl2 : Pl m q (nI c) (nI d) := ⟨c, d, hc, hd, rfl, rfl⟩
  have w3 := (W.2.2 q hq).1
  have e := (Cq.2.2.2 q hq).2.2.1
  simp (disch := omega) only [z_X11_join, c_needQ Cq W hq, c_place (Cq.2.2.2 q hq) Ct W Wt hq hpl, c_place (Cq.2.2.2 q hq) Ct W Wt hq hpl2, z_X7_joinCount, e, hn, u_br_True, u_br_False, u_jn_u, u_lt_u, u_nn_s, u_brn_s, u_brn_n, nI_add, u_n_mul, u_n_lt, u_n_le, u_n_eq, u_n_sub, u_n_div, u_n_mod, nI_clamp, u_m1, u_m1q, u_wI_n, u_wA_n, u_br_t, u_br_f, ↓li_m1, li_0, li_1, li_2, li_3, li_4, li_5, li_6, li_7, li_8, li_9, li_10, li_12, li_13, li_26, li_40, li_60, li_61, li_62, li_99, li_100, li_102, li_106, li_114, li_112, li_117, li_108, li_103, li_120, li_300, li_360, li_512, li_1000, b10, b00, f_0, f_1, u_okT, u_nb_0, u_nb_1, Nat.reduceEqDiff, true_and, and_true, false_and, and_false, if_true, if_false, eq_self, and_self, Nat.reduceLT, Nat.reduceLeDiff, Nat.reduceAdd, Nat.reduceMul, Nat.reduceDiv, Nat.one_ne_zero]
def Bad3 (m : Nat → Nat → Nat) (q : Nat) (p c p2 c2 : Int32) : Prop := ¬ Pl m q p c ∨ ¬ Pl m q p2 c2 ∨ p = p2
theorem c_join2 (Cq : CQ m σ) (Ct : CT m u σ) (W : WQ m) (Wt : WT m u) (hq : q < m 24 0) {p c s v : Int32} (h : Bad3 m q p c s v) {K : Int32 → St → Prop} {KX : String → St → Prop} :
    z_X11_join N 0 (nI q) p c s v σ K KX = KX "java/lang/IllegalArgumentException" σ := by
  have c1 := Cq.2.2.2 q hq
  by_cases h1 : Pl m q p c
  · by_cases h2 : Pl m q s v
    · have h3 : p = s := by
        rcases h with h | h | h
        · exact absurd h1 h
        · exact absurd h2 h
        · exact h
      simp (disch := omega) only [z_X11_join, c_needQ Cq W hq, c_place c1 Ct W Wt hq h1, c_place c1 Ct W Wt hq h2, u_br_True, u_br_False, u_jn_u, u_lt_u, u_nn_s, u_brn_s, u_brn_n, ↓li_m1, li_0, li_1, li_2, li_3, li_4, li_5, li_6, li_7, li_8, li_9, li_10, li_12, li_13, li_26, li_40, li_60, li_61, li_62, li_99, li_100, li_102, li_106, li_114, li_112, li_117, li_108, li_103, li_120, li_300, li_360, li_512, li_1000, u_br_t h3, b10, b00, f_0, f_1, u_okT, u_nb_0, u_nb_1]
    · simp (disch := omega) only [z_X11_join, c_needQ Cq W hq, c_place c1 Ct W Wt hq h1, c_placeO c1 Ct W Wt hq h2, u_br_True, u_br_False, u_jn_u, u_lt_u, u_nn_s, u_brn_s, u_brn_n, ↓li_m1, li_0, li_1, li_2, li_3, li_4, li_5, li_6, li_7, li_8, li_9, li_10, li_12, li_13, li_26, li_40, li_60, li_61, li_62, li_99, li_100, li_102, li_106, li_114, li_112, li_117, li_108, li_103, li_120, li_300, li_360, li_512, li_1000, b10, b00, f_0, f_1, u_okT, u_nb_0, u_nb_1]
  · simp (disch := omega) only [z_X11_join, c_needQ Cq W hq, c_placeO c1 Ct W Wt hq h1, u_br_True, u_br_False, u_jn_u, u_lt_u, u_nn_s, u_brn_s, u_brn_n, ↓li_m1, li_0, li_1, li_2, li_3, li_4, li_5, li_6, li_7, li_8, li_9, li_10, li_12, li_13, li_26, li_40, li_60, li_61, li_62, li_99, li_100, li_102, li_106, li_114, li_112, li_117, li_108, li_103, li_120, li_300, li_360, li_512, li_1000, b10, b00, f_0, f_1, u_okT, u_nb_0, u_nb_1]
theorem r_join (R : RI m u w L σ) (W : WQ m) (Wt : WT m u) (hq : q < m 24 0) (ha : a < m 25 q) (hb : b < m 2 (tq m q a)) (hc : c < m 25 q) (hd : d < m 2 (tq m q c)) (hac : ¬ a = c) (hn : m 32 q < 3) {K : Int32 → St → Prop} :
    z_X12_join N 0 (nI q) (nI a) (nI b) (nI c) (nI d) σ K = K (nI (m 32 q + 1)) (stP (stP (stP (stP (stP (stP (stP σ 12 0 0 0 (nI 0)) 12 0 16 0 (nI 0)) 12 0 33 (3 * q + m 32 q) (nI a)) 12 0 34 (3 * q + m 32 q) (nI b)) 12 0 35 (3 * q + m 32 q) (nI c)) 12 0 36 (3 * q + m 32 q) (nI d)) 12 0 32 q (nI (m 32 q + 1))) := by
  have hpl : Pl m q (nI a) (nI b) := ⟨a, b, ha, hb, rfl, rfl⟩
  have hpl2 : Pl m q (nI c) (nI d) := ⟨c, d, hc, hd, rfl, rfl⟩
  have R0 : RI m u w L (stP σ 12 0 0 0 (nI 0)) := R.tmp rfl
  have w1 := W.1
  have w3 := (W.2.2 q hq).1
  simp (disch := omega) only [z_X12_join, r_isQ R0 W hq, r_place R0 W Wt hq hpl, r_place R0 W Wt hq hpl2, sP_stP, u_br_True, u_br_False, u_jn_u, u_lt_u, u_nn_s, u_brn_s, u_brn_n, nI_add, u_n_mul, u_n_lt, u_n_le, u_n_eq, u_n_sub, u_n_div, u_n_mod, nI_clamp, u_m1, u_m1q, u_wI_n, u_wA_n, u_br_t, u_br_f, ↓li_m1, li_0, li_1, li_2, li_3, li_4, li_5, li_6, li_7, li_8, li_9, li_10, li_12, li_13, li_26, li_40, li_60, li_61, li_62, li_99, li_100, li_102, li_106, li_114, li_112, li_117, li_108, li_103, li_120, li_300, li_360, li_512, li_1000, b10, b00, f_0, f_1, u_okT, u_nb_0, u_nb_1, Nat.reduceEqDiff, true_and, and_true, false_and, and_false, if_true, if_false, eq_self, and_self, Nat.reduceLT, Nat.reduceLeDiff, Nat.reduceAdd, Nat.reduceMul, Nat.reduceDiv, Nat.one_ne_zero, (fun j => R.r 32 j rfl)]
theorem r_join3 (R : RI m u w L σ) (W : WQ m) (Wt : WT m u) (hq : q < m 24 0) (ha : a < m 25 q) (hb : b < m 2 (tq m q a)) (hc : c < m 25 q) (hd : d < m 2 (tq m q c)) (hac : ¬ a = c) (hn : m 32 q = 3) {K : Int32 → St → Prop} :
    z_X12_join N 0 (nI q) (nI a) (nI b) (nI c) (nI d) σ K = K mI (stP σ 12 0 0 0 (nI 3)) := by
  have hpl : Pl m q (nI a) (nI b) := ⟨a, b, ha, hb, rfl, rfl⟩
  have hpl2 : Pl m q (nI c) (nI d) := ⟨c, d, hc, hd, rfl, rfl⟩
  have R0 : RI m u w L (stP σ 12 0 0 0 (nI 0)) := R.tmp rfl
  have w1 := W.1
  have w3 := (W.2.2 q hq).1
  simp (disch := omega) only [z_X12_join, r_isQ R0 W hq, r_place R0 W Wt hq hpl, r_place R0 W Wt hq hpl2, sP_stP, u_br_True, u_br_False, u_jn_u, u_lt_u, u_nn_s, u_brn_s, u_brn_n, nI_add, u_n_mul, u_n_lt, u_n_le, u_n_eq, u_n_sub, u_n_div, u_n_mod, nI_clamp, u_m1, u_m1q, u_wI_n, u_wA_n, u_br_t, u_br_f, ↓li_m1, li_0, li_1, li_2, li_3, li_4, li_5, li_6, li_7, li_8, li_9, li_10, li_12, li_13, li_26, li_40, li_60, li_61, li_62, li_99, li_100, li_102, li_106, li_114, li_112, li_117, li_108, li_103, li_120, li_300, li_360, li_512, li_1000, b10, b00, f_0, f_1, u_okT, u_nb_0, u_nb_1, Nat.reduceEqDiff, true_and, and_true, false_and, and_false, if_true, if_false, eq_self, and_self, Nat.reduceLT, Nat.reduceLeDiff, Nat.reduceAdd, Nat.reduceMul, Nat.reduceDiv, Nat.one_ne_zero, (fun j => R.r 32 j rfl), hn]
theorem r_join2 (R : RI m u w L σ) (W : WQ m) (Wt : WT m u) (hq : q < m 24 0) {p c s v : Int32} (h : Bad3 m q p c s v) {K : Int32 → St → Prop} :
    z_X12_join N 0 (nI q) p c s v σ K = K mI (stP σ 12 0 0 0 (nI 2)) := by
  have R0 : RI m u w L (stP σ 12 0 0 0 (nI 0)) := R.tmp rfl
  have w1 := W.1
  by_cases h1 : Pl m q p c
  · by_cases h2 : Pl m q s v
    · have h3 : p = s := by
        rcases h with h | h | h
        · exact absurd h1 h
        · exact absurd h2 h
        · exact h
      simp (disch := omega) only [z_X12_join, r_isQ R0 W hq, r_place R0 W Wt hq h1, r_place R0 W Wt hq h2, u_br_True, u_br_False, u_jn_u, u_lt_u, u_nn_s, u_brn_s, u_brn_n, ↓li_m1, li_0, li_1, li_2, li_3, li_4, li_5, li_6, li_7, li_8, li_9, li_10, li_12, li_13, li_26, li_40, li_60, li_61, li_62, li_99, li_100, li_102, li_106, li_114, li_112, li_117, li_108, li_103, li_120, li_300, li_360, li_512, li_1000, u_br_t h3, b10, b00, f_0, f_1, u_okT, u_nb_0, u_nb_1]
    · simp (disch := omega) only [z_X12_join, r_isQ R0 W hq, r_place R0 W Wt hq h1, r_placeO R0 W Wt hq h2, u_br_True, u_br_False, u_jn_u, u_lt_u, u_nn_s, u_brn_s, u_brn_n, ↓li_m1, li_0, li_1, li_2, li_3, li_4, li_5, li_6, li_7, li_8, li_9, li_10, li_12, li_13, li_26, li_40, li_60, li_61, li_62, li_99, li_100, li_102, li_106, li_114, li_112, li_117, li_108, li_103, li_120, li_300, li_360, li_512, li_1000, b10, b00, f_0, f_1, u_okT, u_nb_0, u_nb_1]
  · simp (disch := omega) only [z_X12_join, r_isQ R0 W hq, r_placeO R0 W Wt hq h1, u_br_True, u_br_False, u_jn_u, u_lt_u, u_nn_s, u_brn_s, u_brn_n, ↓li_m1, li_0, li_1, li_2, li_3, li_4, li_5, li_6, li_7, li_8, li_9, li_10, li_12, li_13, li_26, li_40, li_60, li_61, li_62, li_99, li_100, li_102, li_106, li_114, li_112, li_117, li_108, li_103, li_120, li_300, li_360, li_512, li_1000, b10, b00, f_0, f_1, u_okT, u_nb_0, u_nb_1]
theorem r_join1 (R : RI m u w L σ) (W : WQ m) {p0 p c s v : Int32} (h : Out p0 (m 24 0)) {K : Int32 → St → Prop} :
    z_X12_join N 0 p0 p c s v σ K = K mI (stP σ 12 0 0 0 (nI 1)) := by
  have R0 : RI m u w L (stP σ 12 0 0 0 (nI 0)) := R.tmp rfl
  simp (disch := omega) only [z_X12_join, r_isQO R0 W h, u_br_True, u_br_False, u_jn_u, u_lt_u, u_nn_s, u_brn_s, u_brn_n, ↓li_m1, li_0, li_1, li_2, li_3, li_4, li_5, li_6, li_7, li_8, li_9, li_10, li_12, li_13, li_26, li_40, li_60, li_61, li_62, li_99, li_100, li_102, li_106, li_114, li_112, li_117, li_108, li_103, li_120, li_300, li_360, li_512, li_1000, b10, b00, f_0, f_1, u_okT, u_nb_0, u_nb_1]
def jo (m : Nat → Nat → Nat) (q a b c d : Nat) : Nat → Nat → Nat := mu (mu (mu (mu (mu (mu m 16 0 0) 33 (3 * q + m 32 q) a) 34 (3 * q + m 32 q) b) 35 (3 * q + m 32 q) c) 36 (3 * q + m 32 q) d) 32 q (m 32 q + 1)
theorem CQ_jo (Cq : CQ m σ) (W : WQ m) (hq : q < m 24 0) (hn : m 32 q < 3) : CQ (jo m q a b c d) (stP (stP (stQ (sN4 σ (nI a) (nI b) (nI c) (nI d)) 7 q 4 (m 32 q) (some (sV σ 4))) 7 q 5 0 (nI (m 32 q + 1))) 2 0 5 0 (nI 0)) := by
  rw [CQ_st (by decide)]
  obtain ⟨q1, q2, q3, q4⟩ := Cq
  have hw8 := W.1
  refine ⟨by simp [sP_stP, sP_stQ, sN4, sP_stN, jo, mu, q1], by simp [sV_stP, sV_stQ, sN4, sV_stN, jo, mu, q2], ?_, ?_⟩
  · intro y hy
    simp [sQ_stP, sQ_stQ, sN4, sQ_stN, jo, mu, q3 y hy]
  · intro y hy
    simp only [jo, mu, Nat.reduceEqDiff, true_and, and_true, false_and, and_false, if_true, if_false, eq_self, and_self, Nat.reduceLT, Nat.reduceLeDiff, Nat.reduceAdd, Nat.reduceMul, Nat.reduceDiv, Nat.one_ne_zero] at hy
    obtain ⟨a1, a2, a3, a4, a5, a6, a7, a8⟩ := q4 y hy
    have w5 := (W.2.2 y hy).2.2.1
    refine ⟨?_, ?_, ?_, ?_, ?_, ?_, ?_, ?_⟩
    · simp [sP_stP, sP_stQ, sN4, sP_stN, jo, mu, a1]
    · simp [sP_stP, sP_stQ, sN4, sP_stN, jo, mu, a2]
    · by_cases hy2 : y = q
      · simp [sP_stP, sP_stQ, sN4, sP_stN, jo, mu, hy2]
      · simp [sP_stP, sP_stQ, sN4, sP_stN, jo, mu, hy2, a3]
    · intro z hz
      simp [sQ_stP, sQ_stQ, sN4, sQ_stN, jo, mu, a4 z hz]
    · simpa [CN, sP_stP, sP_stQ, sN4, sP_stN, sQ_stP, sQ_stQ, sQ_stN, sV_stP, sV_stQ, sV_stN, jo, mu] using a5
    · simpa [sQ_stP, sQ_stQ, sN4, sQ_stN, jo, mu] using a6
    · intro z hz
      by_cases hj : 3 * y + z = 3 * q + m 32 q
      · have hz4 : z < 3 := by
          simp only [jo, mu, Nat.reduceEqDiff, true_and, and_true, false_and, and_false, if_true, if_false, eq_self, and_self, Nat.reduceLT, Nat.reduceLeDiff, Nat.reduceAdd, Nat.reduceMul, Nat.reduceDiv, Nat.one_ne_zero] at hz
          by_cases hy2 : y = q
          · rw [if_pos hy2] at hz; omega
          · rw [if_neg hy2] at hz; omega
        have e1 : y = q := by omega
        have e2 : z = m 32 q := by omega
        subst e1 e2
        exact ⟨sV σ 4, by simp [sQ_stP, sQ_stQ], by simp [sV_stP, sV_stQ, sN4, sV_stN], by simp [sP_stP, sP_stQ, sN4, sP_stN, jo, mu], by simp [sP_stP, sP_stQ, sN4, sP_stN, jo, mu], by simp [sP_stP, sP_stQ, sN4, sP_stN, jo, mu], by simp [sP_stP, sP_stQ, sN4, sP_stN, jo, mu]⟩
      · have hz2 : z < m 32 y := by
          simp only [jo, mu, Nat.reduceEqDiff, true_and, and_true, false_and, and_false, if_true, if_false, eq_self, and_self, Nat.reduceLT, Nat.reduceLeDiff, Nat.reduceAdd, Nat.reduceMul, Nat.reduceDiv, Nat.one_ne_zero] at hz
          by_cases hy2 : y = q
          · subst hy2
            rw [if_pos rfl] at hz; omega
          · rw [if_neg hy2] at hz; exact hz
        obtain ⟨c, d1, d2, d3, d4, d5, d6⟩ := a7 z hz2
        have hc : ¬ c = sV σ 4 := by omega
        have hj2 : ¬ (y = q ∧ z = m 32 q) := by omega
        refine ⟨c, ?_, ?_, ?_, ?_, ?_, ?_⟩
        · simp only [sQ_stP, sQ_stQ, sN4, sQ_stN, Nat.reduceEqDiff, true_and, and_true, false_and, and_false, if_true, if_false, eq_self, and_self, Nat.reduceLT, Nat.reduceLeDiff, Nat.reduceAdd, Nat.reduceMul, Nat.reduceDiv, Nat.one_ne_zero]
          rw [if_neg hj2]; exact d1
        · simp [sV_stP, sV_stQ, sN4, sV_stN]; omega
        · simp [sP_stP, sP_stQ, sN4, sP_stN, jo, mu, hc, hj, d3]
        · simp [sP_stP, sP_stQ, sN4, sP_stN, jo, mu, hc, hj, d4]
        · simp [sP_stP, sP_stQ, sN4, sP_stN, jo, mu, hc, hj, d5]
        · simp [sP_stP, sP_stQ, sN4, sP_stN, jo, mu, hc, hj, d6]
    · intro z hz hz4
      simp only [jo, mu, Nat.reduceEqDiff, true_and, and_true, false_and, and_false, if_true, if_false, eq_self, and_self, Nat.reduceLT, Nat.reduceLeDiff, Nat.reduceAdd, Nat.reduceMul, Nat.reduceDiv, Nat.one_ne_zero] at hz
      have hj2 : ¬ (y = q ∧ z = m 32 q) := by
        rintro ⟨rfl, rfl⟩
        rw [if_pos rfl] at hz; omega
      have hz2 : m 32 y ≤ z := by
        by_cases hy2 : y = q
        · subst hy2
          rw [if_pos rfl] at hz; omega
        · rw [if_neg hy2] at hz; exact hz
      simp only [sQ_stP, sQ_stQ, sN4, sQ_stN, Nat.reduceEqDiff, true_and, and_true, false_and, and_false, if_true, if_false, eq_self, and_self, Nat.reduceLT, Nat.reduceLeDiff, Nat.reduceAdd, Nat.reduceMul, Nat.reduceDiv, Nat.one_ne_zero]
      rw [if_neg hj2]; exact a8 z hz2 hz4
theorem WQ_jo (W : WQ m) (hq : q < m 24 0) (hn : m 32 q < 3) (ha : a < m 25 q) (hb : b < m 2 (tq m q a)) (hc : c < m 25 q) (hd : d < m 2 (tq m q c)) (hac : ¬ a = c) : WQ (jo m q a b c d) := by
  obtain ⟨w1, w2, w4⟩ := W
  refine ⟨by simpa [jo, mu] using w1, ?_, ?_⟩
  · intro y hy hy2
    simp [jo, mu] at hy ⊢
    have : ¬ y = q := by omega
    simp [this]
    exact w2 y (by omega) hy2
  · intro y hy
    simp only [jo, mu, Nat.reduceEqDiff, true_and, and_true, false_and, and_false, if_true, if_false, eq_self, and_self, Nat.reduceLT, Nat.reduceLeDiff, Nat.reduceAdd, Nat.reduceMul, Nat.reduceDiv, Nat.one_ne_zero] at hy
    obtain ⟨a1, a2, a3, a4, a5, a6⟩ := w4 y hy
    refine ⟨by simp [jo, mu]; omega, by simp [jo, mu]; omega, ?_, ?_, ?_, ?_⟩
    · simp only [jo, mu, Nat.reduceEqDiff, true_and, and_true, false_and, and_false, if_true, if_false, eq_self, and_self, Nat.reduceLT, Nat.reduceLeDiff, Nat.reduceAdd, Nat.reduceMul, Nat.reduceDiv, Nat.one_ne_zero]
      split
      · omega
      · exact a3
    · intro z hz
      simp only [jo, mu, Nat.reduceEqDiff, true_and, and_true, false_and, and_false, if_true, if_false, eq_self, and_self, Nat.reduceLT, Nat.reduceLeDiff, Nat.reduceAdd, Nat.reduceMul, Nat.reduceDiv, Nat.one_ne_zero] at hz ⊢
      exact a4 z hz
    · intro z hz
      simp only [jo, mu, tq, Nat.reduceEqDiff, true_and, and_true, false_and, and_false, if_true, if_false, eq_self, and_self, Nat.reduceLT, Nat.reduceLeDiff, Nat.reduceAdd, Nat.reduceMul, Nat.reduceDiv, Nat.one_ne_zero] at hz ⊢
      exact a5 z hz
    · intro z hz
      by_cases hj : 3 * y + z = 3 * q + m 32 q
      · have hz4 : z < 3 := by
          simp only [jo, mu, Nat.reduceEqDiff, true_and, and_true, false_and, and_false, if_true, if_false, eq_self, and_self, Nat.reduceLT, Nat.reduceLeDiff, Nat.reduceAdd, Nat.reduceMul, Nat.reduceDiv, Nat.one_ne_zero] at hz
          by_cases hy2 : y = q
          · rw [if_pos hy2] at hz; omega
          · rw [if_neg hy2] at hz; omega
        have e1 : y = q := by omega
        have e2 : z = m 32 q := by omega
        subst e1 e2
        refine ⟨by simp [jo, mu]; exact ha, by simp [jo, mu, tq]; exact hb, by simp [jo, mu]; exact hc, by simp [jo, mu, tq]; exact hd, by simp [jo, mu]; exact hac⟩
      · have hz2 : z < m 32 y := by
          simp only [jo, mu, Nat.reduceEqDiff, true_and, and_true, false_and, and_false, if_true, if_false, eq_self, and_self, Nat.reduceLT, Nat.reduceLeDiff, Nat.reduceAdd, Nat.reduceMul, Nat.reduceDiv, Nat.one_ne_zero] at hz
          by_cases hy2 : y = q
          · subst hy2
            rw [if_pos rfl] at hz; omega
          · rw [if_neg hy2] at hz; exact hz
        obtain ⟨b1, b2, b3, b4, b5⟩ := a6 z hz2
        refine ⟨by simp [jo, mu, hj]; exact b1, by simp [jo, mu, tq, hj]; exact b2, by simp [jo, mu, hj]; exact b3, by simp [jo, mu, tq, hj]; exact b4, by simp [jo, mu, hj]; exact b5⟩
theorem k_join (I : Inv kk σ) (hk : kk < 512) (p p2 p3 p4 p5 : Int32) {T : Int32 → Int32 → St → Prop} (hT : ∀ code b σ2, G (kk + 1) code b σ2 → T code b σ2) : z_L_join N (some 0) p p2 p3 p4 p5 σ (fun code σ1 => z_X12_join N 0 p p2 p3 p4 p5 σ1 (fun b σ2 => T code b σ2)) := by
  have I0 := I
  obtain ⟨m, u, w, L, R, ⟨C0', CT', CX', CC', CQ', CD', CP'⟩, WT', WX', WC', WQ', WD'⟩ := I
  rcases u_io p (m 24 0) with ⟨q, hq, _, rfl⟩ | hp
  · by_cases hbad : Bad3 m q p2 p3 p4 p5
    · simp only [z_L_join, u_br_True, u_br_False, u_jn_u, u_lt_u, u_nn_s, u_brn_s, u_brn_n, c_join2 CQ' CT' WQ' WT' hq hbad, r_join2 R WQ' WT' hq hbad, li_1, li_2, li_3]
      exact Or.inr (Or.inl ⟨trivial, hT _ _ _ (G_exc (c := 2) I0 hk (by decide) (by decide))⟩)
    · simp only [Bad3, not_or] at hbad
      obtain ⟨h1, h2, h3⟩ := hbad
      obtain ⟨a, b, ha, hb, rfl, rfl⟩ := Classical.byContradiction (fun h => h1 h)
      obtain ⟨c, d, hc, hd, rfl, rfl⟩ := Classical.byContradiction (fun h => h2 h)
      have hac : ¬ a = c := fun e => h3 (by rw [e])
      have w3 := WQ'.2.2 q hq
      by_cases hn : m 32 q = 3
      · simp only [z_L_join, u_br_True, u_br_False, u_jn_u, u_lt_u, u_nn_s, u_brn_s, u_brn_n, c_join3 CQ' CT' WQ' WT' hq ha hb hc hd hac hn, r_join3 R WQ' WT' hq ha hb hc hd hac hn, li_1, li_2, li_3]
        exact Or.inr (Or.inr ⟨trivial, hT _ _ _ (G_exc (c := 3) I0 hk (by decide) (by decide))⟩)
      · have hn4 : m 32 q < 3 := by omega
        simp only [z_L_join, u_br_True, u_br_False, u_jn_u, u_lt_u, u_nn_s, u_brn_s, u_brn_n, c_join C0' CQ' CT' WQ' WT' hq ha hb hc hd hac hn4, li_0, wA_l (by decide : 0 < 1), l0c]
        have Rc : RI m u w L (stP (stP (stQ (sN4 σ (nI a) (nI b) (nI c) (nI d)) 7 q 4 (m 32 q) (some (sV σ 4))) 7 q 5 0 (nI (m 32 q + 1))) 2 0 5 0 (nI 0)) := R.km ((((KM.stN (by decide)).trans KM.stQ).trans (KM.st (by decide))).trans (KM.st (by decide)))
        rw [r_join (Rc.km KM.stL) WQ' WT' hq ha hb hc hd hac hn4]
        refine hT _ _ _ (fin (m := jo m q a b c d) (u := u) (w := w) (L := L) (σc := stP (stP (stQ (sN4 σ (nI a) (nI b) (nI c) (nI d)) 7 q 4 (m 32 q) (some (sV σ 4))) 7 q 5 0 (nI (m 32 q + 1))) 2 0 5 0 (nI 0)) ?_ ?_ (((((((KC.st).trans KC.st).trans KC.st).trans KC.st).trans KC.st).trans KC.st).trans KC.st) ?_ (by simp (disch := decide) only [sP_o, sP_e]))
        · refine ⟨?_, ?_, ?_, ?_, ?_, ?_, CP_0 (by simp [jo, mu])⟩
          · rw [C0_st, C0_st, C0_stQ (by decide), sN4, C0_stN (by decide)]; exact C0'
          · simp (disch := decide) only [jo, sN4, CT_mu, CT_st, CT_stQ, CT_stN]; exact CT'
          · simp (disch := decide) only [jo, sN4, CX_mu, CX_st, CX_stQ, CX_stN]; exact CX'
          · simp (disch := decide) only [jo, sN4, CC_mu, CC_st, CC_stQ, CC_stN]; exact CC'
          · exact CQ_jo CQ' WQ' hq hn4
          · simp (disch := decide) only [jo, CD_mu]
            refine CD_close ?_
            simp (disch := decide) only [sN4, CD_st, CD_stQ, CD_stN]; exact CD'
        · exact (((((((Rc.km KM.stL).tmp rfl).set rfl).set rfl).set rfl).set rfl).set rfl).set rfl
        · refine ⟨?_, ?_, ?_, ?_, ?_⟩
          · simp (disch := decide) only [jo, WT_mu]; exact WT'
          · simp (disch := decide) only [jo, WX_mu]; exact WX'
          · simp (disch := decide) only [jo, WC_mu]; exact WC'
          · exact WQ_jo WQ' hq hn4 ha hb hc hd hac
          · simp (disch := decide) only [jo, WD_mu]; exact WD_close (WD_up WD' hk)
  · simp only [z_L_join, z_X11_join, u_br_True, u_br_False, u_jn_u, u_lt_u, u_nn_s, u_brn_s, u_brn_n, c_needQO CQ' WQ' hp, r_join1 R WQ' hp, li_1, li_2, li_3]
    exact Or.inl ⟨trivial, hT _ _ _ (G_exc (c := 1) I0 hk (by decide) (by decide))⟩
end JOIN
