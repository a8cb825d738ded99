section BASIC
variable {m : Nat → Nat → Nat} {u w : Nat → Int32} {L : List Nat} {σ σ' : St} {N : Nat}
theorem u_pred_lt {n a : Nat} (hn : n < 2 ^ 31) (ha : a < 2 ^ 31) : (nI n - nI 1 < nI a) = (n ≤ a) := by
  by_cases h : n = 0
  · subst h
    have : nI 0 - nI 1 < nI a := by
      rw [show nI 0 - nI 1 = -1 by decide]
      exact u_neg_lt (by decide) ha
    simp [this]
  · rw [u_n_sub (by omega), u_n_lt (by omega) ha]
    apply propext
    omega
theorem u_neg_t {x : Int32} (h : x < nI 0) {n : Nat} (hn : n < 2 ^ 31) : (x < nI n) = True := eq_true (u_neg_lt h hn)
theorem u_neg_f {x : Int32} (h : x < nI 0) {n : Nat} (hn : n < 2 ^ 31) : (nI n ≤ x) = False := eq_false (u_neg_nle h hn)
theorem u_neg_le {x : Int32} (h : x < nI 0) {n : Nat} (hn : n < 2 ^ 31) : (x ≤ nI n) = True := by
  have := u_neg_lt h hn
  rw [Int32.lt_iff_toInt_lt] at this
  apply eq_true
  rw [Int32.le_iff_toInt_le]
  omega
theorem u_neg_gt {x : Int32} (h : x < nI 0) {n : Nat} (hn : n < 2 ^ 31) : (nI n < x) = False := by
  apply eq_false
  intro h2
  exact u_neg_nle h hn (by rw [Int32.lt_iff_toInt_lt] at h2; rw [Int32.le_iff_toInt_le]; omega)
theorem u_neg_eq {x : Int32} (h : x < nI 0) {n : Nat} (hn : n < 2 ^ 31) : (x = nI n) = False := by
  apply eq_false
  intro h2
  subst h2
  rw [u_n_lt hn (by decide)] at h
  omega
theorem u_okT {T : Prop} : ok True T = T := u_ok_t trivial
theorem u_or (x : Int32) : x < nI 0 ∨ ∃ j : Nat, j < 2 ^ 31 ∧ x = nI j := u_nI_or x
theorem i01 {c : Prop} [Decidable c] : ((if c then nI 0 else nI 1) = nI 0) = c := by
  by_cases h : c
  · simp [h]
  · simp only [h, if_false, eq_iff_iff, iff_false]
    decide
theorem i10 {c : Prop} [Decidable c] : ((if c then nI 1 else nI 0) = nI 0) = ¬ c := by
  by_cases h : c
  · simp only [h, if_true, not_true, eq_iff_iff, iff_false]
    decide
  · simp [h]
theorem b10 : (nI 1 = nI 0) = False := eq_false (by decide)
theorem b00 : (nI 0 = nI 0) = True := eq_true rfl
/-! the reference's small methods -/
theorem f_0 {c : Int32} {K : Int32 → St → Prop} : z_X12_fails N 0 (nI 0) c (stP σ 12 0 0 0 (nI 0)) K = K (nI 0) (stP σ 12 0 0 0 (nI 0)) := by
  simp (disch := omega) only [z_X12_fails, u_br_True, u_br_False, u_jn_u, u_lt_u, u_nn_s, u_brn_s, u_brn_n, nI_add, u_n_mul, u_n_lt, u_n_le, u_n_eq, u_n_sub, u_n_div, u_n_mod, nI_clamp, u_m1, u_m1q, u_wI_n, u_wA_n, u_br_t, u_br_f, ↓li_m1, li_0, li_1, li_2, li_3, li_4, li_5, li_6, li_7, li_8, li_9, li_10, li_12, li_13, li_26, li_40, li_60, li_61, li_62, li_99, li_100, li_102, li_106, li_114, li_112, li_117, li_108, li_103, li_120, li_300, li_360, li_512, li_1000, b10, b00, sP_stP, Nat.reduceEqDiff, true_and, and_true, false_and, and_false, if_true, if_false, eq_self, and_self, Nat.reduceLT, Nat.reduceLeDiff, Nat.reduceAdd, Nat.reduceMul, Nat.reduceDiv, Nat.one_ne_zero, Nat.le_refl]
theorem f_1 {c : Nat} {K : Int32 → St → Prop} (hc : 0 < c) (hc2 : c < 100) : z_X12_fails N 0 (nI 1) (nI c) (stP σ 12 0 0 0 (nI 0)) K = K (nI 1) (stP σ 12 0 0 0 (nI c)) := by
  simp (disch := omega) only [z_X12_fails, u_br_True, u_br_False, u_jn_u, u_lt_u, u_nn_s, u_brn_s, u_brn_n, nI_add, u_n_mul, u_n_lt, u_n_le, u_n_eq, u_n_sub, u_n_div, u_n_mod, nI_clamp, u_m1, u_m1q, u_wI_n, u_wA_n, u_br_t, u_br_f, ↓li_m1, li_0, li_1, li_2, li_3, li_4, li_5, li_6, li_7, li_8, li_9, li_10, li_12, li_13, li_26, li_40, li_60, li_61, li_62, li_99, li_100, li_102, li_106, li_114, li_112, li_117, li_108, li_103, li_120, li_300, li_360, li_512, li_1000, b10, b00, sP_stP, Nat.reduceEqDiff, true_and, and_true, false_and, and_false, if_true, if_false, eq_self, and_self, Nat.reduceLT, Nat.reduceLeDiff, Nat.reduceAdd, Nat.reduceMul, Nat.reduceDiv, Nat.one_ne_zero, st_st]
theorem r_in {a lo hi : Nat} (ha : a < 2 ^ 31) (hl : lo < 2 ^ 31) (hh : hi < 2 ^ 31) {K : Int32 → Prop} : z_X12_in N (nI a) (nI lo) (nI hi) σ K = K (if lo ≤ a ∧ a ≤ hi then nI 1 else nI 0) := by
  simp (disch := omega) only [z_X12_in, u_br_True, u_br_False, u_jn_u, u_lt_u, u_nn_s, u_brn_s, u_brn_n, nI_add, u_n_mul, u_n_lt, u_n_le, u_n_eq, u_n_sub, u_n_div, u_n_mod, nI_clamp, u_m1, u_m1q, u_wI_n, u_wA_n, u_br_t, u_br_f, ↓li_m1, li_0, li_1, li_2, li_3, li_4, li_5, li_6, li_7, li_8, li_9, li_10, li_12, li_13, li_26, li_40, li_60, li_61, li_62, li_99, li_100, li_102, li_106, li_114, li_112, li_117, li_108, li_103, li_120, li_300, li_360, li_512, li_1000]
  by_cases h1 : a < lo
  · rw [u_br_t h1, if_neg (by omega)]
  · rw [u_br_f h1]
    by_cases h2 : hi < a
    · rw [u_br_t h2, if_neg (by omega)]
    · rw [u_br_f h2, if_pos (by omega)]
theorem r_inP {a n : Nat} (ha : a < 2 ^ 31) (hn : n < 2 ^ 31) {K : Int32 → Prop} : z_X12_in N (nI a) (nI 0) (nI n - nI 1) σ K = K (if a < n then nI 1 else nI 0) := by
  simp (disch := omega) only [z_X12_in, u_br_True, u_br_False, u_jn_u, u_lt_u, u_nn_s, u_brn_s, u_brn_n, nI_add, u_n_mul, u_n_lt, u_n_le, u_n_eq, u_n_sub, u_n_div, u_n_mod, nI_clamp, u_m1, u_m1q, u_wI_n, u_wA_n, u_br_t, u_br_f, ↓li_m1, li_0, li_1, li_2, li_3, li_4, li_5, li_6, li_7, li_8, li_9, li_10, li_12, li_13, li_26, li_40, li_60, li_61, li_62, li_99, li_100, li_102, li_106, li_114, li_112, li_117, li_108, li_103, li_120, li_300, li_360, li_512, li_1000, u_pred_lt]
  by_cases h2 : n ≤ a
  · rw [u_br_t h2, if_neg (by omega)]
  · rw [u_br_f h2, if_pos (by omega)]
theorem r_inT {a lo hi : Nat} (ha : a < 2 ^ 31) (hh : hi < 2 ^ 31) (h : lo ≤ a ∧ a ≤ hi) {K : Int32 → Prop} : z_X12_in N (nI a) (nI lo) (nI hi) σ K = K (nI 1) := by rw [r_in ha (by omega) hh, if_pos h]
theorem r_inL {a lo : Nat} {hi : Int32} (hl : lo < 2 ^ 31) (h : a < lo) {K : Int32 → Prop} : z_X12_in N (nI a) (nI lo) hi σ K = K (nI 0) := by
  simp (disch := omega) only [z_X12_in, nI_add, u_n_mul, u_n_lt, u_n_le, u_n_eq, u_n_sub, u_n_div, u_n_mod, nI_clamp, u_m1, u_m1q, u_wI_n, u_wA_n, u_br_t, u_br_f, ↓li_m1, li_0, li_1, li_2, li_3, li_4, li_5, li_6, li_7, li_8, li_9, li_10, li_12, li_13, li_26, li_40, li_60, li_61, li_62, li_99, li_100, li_102, li_106, li_114, li_112, li_117, li_108, li_103, li_120, li_300, li_360, li_512, li_1000]
theorem r_inH {a lo hi : Nat} (ha : a < 2 ^ 31) (hl : lo < 2 ^ 31) (h : hi < a) {K : Int32 → Prop} : z_X12_in N (nI a) (nI lo) (nI hi) σ K = K (nI 0) := by rw [r_in ha hl (by omega), if_neg (by omega)]
theorem r_inPT {a n : Nat} (hn : n < 2 ^ 31) (h : a < n) {K : Int32 → Prop} : z_X12_in N (nI a) (nI 0) (nI n - nI 1) σ K = K (nI 1) := by rw [r_inP (by omega) hn, if_pos h]
theorem r_inPF {a n : Nat} (ha : a < 2 ^ 31) (hn : n < 2 ^ 31) (h : n ≤ a) {K : Int32 → Prop} : z_X12_in N (nI a) (nI 0) (nI n - nI 1) σ K = K (nI 0) := by rw [r_inP ha hn, if_neg (by omega)]
theorem r_inN {x y z : Int32} (h : x < y) {K : Int32 → Prop} : z_X12_in N x y z σ K = K (nI 0) := by
  simp only [z_X12_in, u_br_t h, li_0]
theorem l0c : (Int32.toNatClampNeg (nI 0)) = 0 := by decide
theorem r_frames_n {p : Int32} (h : p < nI 0) {K : Int32 → St → Prop} : z_X12_frames N 0 p σ K = K mI (stP σ 12 0 0 0 (nI 1)) := by
  simp (disch := omega) only [z_X12_frames, u_br_True, u_br_False, u_jn_u, u_lt_u, u_nn_s, u_brn_s, u_brn_n, nI_add, u_n_mul, u_n_lt, u_n_le, u_n_eq, u_n_sub, u_n_div, u_n_mod, nI_clamp, u_m1, u_m1q, u_wI_n, u_wA_n, u_br_t, u_br_f, ↓li_m1, li_0, li_1, li_2, li_3, li_4, li_5, li_6, li_7, li_8, li_9, li_10, li_12, li_13, li_26, li_40, li_60, li_61, li_62, li_99, li_100, li_102, li_106, li_114, li_112, li_117, li_108, li_103, li_120, li_300, li_360, li_512, li_1000, b10, b00, f_0, f_1, u_okT, u_nb_0, u_nb_1, r_inN h]
theorem r_frames_b {a : Nat} (ha : a < 2 ^ 31) (h : 12 < a) {K : Int32 → St → Prop} : z_X12_frames N 0 (nI a) σ K = K mI (stP σ 12 0 0 0 (nI 1)) := by
  have h1 : ¬ (0 ≤ a ∧ a ≤ 12) := by omega
  simp (disch := omega) only [z_X12_frames, u_br_True, u_br_False, u_jn_u, u_lt_u, u_nn_s, u_brn_s, u_brn_n, nI_add, u_n_mul, u_n_lt, u_n_le, u_n_eq, u_n_sub, u_n_div, u_n_mod, nI_clamp, u_m1, u_m1q, u_wI_n, u_wA_n, u_br_t, u_br_f, ↓li_m1, li_0, li_1, li_2, li_3, li_4, li_5, li_6, li_7, li_8, li_9, li_10, li_12, li_13, li_26, li_40, li_60, li_61, li_62, li_99, li_100, li_102, li_106, li_114, li_112, li_117, li_108, li_103, li_120, li_300, li_360, li_512, li_1000, b10, b00, f_0, f_1, u_okT, u_nb_0, u_nb_1, r_in, if_neg h1]
theorem r_fewest {a b : Nat} (ha : a < 2 ^ 31) (hb : b < 2 ^ 31) {K : Int32 → Prop} : z_X12_fewest N (nI a) (nI b) σ K = K (nI (min a b)) := by
  simp (disch := omega) only [z_X12_fewest, nI_add, u_n_mul, u_n_lt, u_n_le, u_n_eq, u_n_sub, u_n_div, u_n_mod, nI_clamp, u_m1, u_m1q, u_wI_n, u_wA_n, u_br_t, u_br_f]
  by_cases h : b ≤ a
  · rw [u_br_t h, Nat.min_eq_right h]
  · rw [u_br_f h, Nat.min_eq_left (by omega)]
theorem r_most {a b : Nat} (ha : a < 2 ^ 31) (hb : b < 2 ^ 31) {K : Int32 → Prop} : z_X12_most N (nI a) (nI b) σ K = K (nI (max a b)) := by
  simp (disch := omega) only [z_X12_most, nI_add, u_n_mul, u_n_lt, u_n_le, u_n_eq, u_n_sub, u_n_div, u_n_mod, nI_clamp, u_m1, u_m1q, u_wI_n, u_wA_n, u_br_t, u_br_f]
  by_cases h : a ≤ b
  · rw [u_br_t h, Nat.max_eq_right h]
  · rw [u_br_f h, Nat.max_eq_left (by omega)]
theorem r_frames_g {a : Nat} (h : a ≤ 12) {K : Int32 → St → Prop} {l f : Nat} (hl : sP σ 12 0 21 0 = nI l) (hf : sP σ 12 0 19 0 = nI f) (hl2 : l < 100) :
    z_X12_frames N 0 (nI a) σ K = K (nI f) (stP (stP (stP (stP σ 12 0 0 0 (nI 0)) 12 0 16 0 (nI 0)) 12 0 19 0 (nI a)) 12 0 21 0 (nI (min l a))) := by
  have h1 : (0 ≤ a ∧ a ≤ 12) := by omega
  simp (disch := omega) only [z_X12_frames, u_br_True, u_br_False, u_jn_u, u_lt_u, u_nn_s, u_brn_s, u_brn_n, nI_add, u_n_mul, u_n_lt, u_n_le, u_n_eq, u_n_sub, u_n_div, u_n_mod, nI_clamp, u_m1, u_m1q, u_wI_n, u_wA_n, u_br_t, u_br_f, ↓li_m1, li_0, li_1, li_2, li_3, li_4, li_5, li_6, li_7, li_8, li_9, li_10, li_12, li_13, li_26, li_40, li_60, li_61, li_62, li_99, li_100, li_102, li_106, li_114, li_112, li_117, li_108, li_103, li_120, li_300, li_360, li_512, li_1000, b10, b00, f_0, f_1, u_okT, u_nb_0, u_nb_1, r_in, if_pos h1, sP_stP, Nat.reduceEqDiff, true_and, and_true, false_and, and_false, if_true, if_false, eq_self, and_self, Nat.reduceLT, Nat.reduceLeDiff, Nat.reduceAdd, Nat.reduceMul, Nat.reduceDiv, Nat.one_ne_zero, l0c, hl, hf, r_fewest]
/-! the class's small methods -/
theorem c_setFrames {a l : Nat} (ha : a ≤ 12) (hl : sP σ 0 0 2 0 = nI l) (hl2 : l < 100) {K : St → Prop} : z_X0_setFrames N 0 (nI a) σ K = K (stP (stP σ 0 0 1 0 (nI a)) 0 0 2 0 (nI (min l a))) := by
  have h2 : (if a < l then nI a else nI l) = nI (min l a) := by
    split
    · rw [Nat.min_eq_right (by omega)]
    · rw [Nat.min_eq_left (by omega)]
  simp (disch := omega) only [z_X0_setFrames, u_br_True, u_br_False, u_jn_u, u_lt_u, u_nn_s, u_brn_s, u_brn_n, nI_add, u_n_mul, u_n_lt, u_n_le, u_n_eq, u_n_sub, u_n_div, u_n_mod, nI_clamp, u_m1, u_m1q, u_wI_n, u_wA_n, u_br_t, u_br_f, sP_stP, Nat.reduceEqDiff, true_and, and_true, false_and, and_false, if_true, if_false, eq_self, and_self, Nat.reduceLT, Nat.reduceLeDiff, Nat.reduceAdd, Nat.reduceMul, Nat.reduceDiv, Nat.one_ne_zero, hl, h2]
theorem c_frames_n {p : Int32} (h : p < nI 0) {K : Int32 → St → Prop} {KX : String → St → Prop} : z_X11_frames N 0 p σ K KX = KX "java/lang/IllegalArgumentException" σ := by
  simp (disch := omega) only [z_X11_frames, u_br_True, u_br_False, u_jn_u, u_lt_u, u_nn_s, u_brn_s, u_brn_n, nI_add, u_n_mul, u_n_lt, u_n_le, u_n_eq, u_n_sub, u_n_div, u_n_mod, nI_clamp, u_m1, u_m1q, u_wI_n, u_wA_n, u_br_t, u_br_f, ↓li_m1, li_0, li_1, li_2, li_3, li_4, li_5, li_6, li_7, li_8, li_9, li_10, li_12, li_13, li_26, li_40, li_60, li_61, li_62, li_99, li_100, li_102, li_106, li_114, li_112, li_117, li_108, li_103, li_120, li_300, li_360, li_512, li_1000, h]
theorem c_frames_b {a : Nat} (ha : a < 2 ^ 31) (h : 12 < a) {K : Int32 → St → Prop} {KX : String → St → Prop} : z_X11_frames N 0 (nI a) σ K KX = KX "java/lang/IllegalArgumentException" σ := by
  simp (disch := omega) only [z_X11_frames, u_br_True, u_br_False, u_jn_u, u_lt_u, u_nn_s, u_brn_s, u_brn_n, nI_add, u_n_mul, u_n_lt, u_n_le, u_n_eq, u_n_sub, u_n_div, u_n_mod, nI_clamp, u_m1, u_m1q, u_wI_n, u_wA_n, u_br_t, u_br_f, ↓li_m1, li_0, li_1, li_2, li_3, li_4, li_5, li_6, li_7, li_8, li_9, li_10, li_12, li_13, li_26, li_40, li_60, li_61, li_62, li_99, li_100, li_102, li_106, li_114, li_112, li_117, li_108, li_103, li_120, li_300, li_360, li_512, li_1000]
theorem c_frames_g {a l f : Nat} (C : C0 σ) (ha : a ≤ 12) (hf : sP σ 0 0 1 0 = nI f) (hl : sP σ 0 0 2 0 = nI l) (hl2 : l < 100) {K : Int32 → St → Prop} {KX : String → St → Prop} : z_X11_frames N 0 (nI a) σ K KX = K (nI f) (stP (stP (stP σ 0 0 1 0 (nI a)) 0 0 2 0 (nI (min l a))) 2 0 5 0 (nI 0)) := by
  unfold C0 at C
  simp (disch := omega) only [z_X11_frames, u_br_True, u_br_False, u_jn_u, u_lt_u, u_nn_s, u_brn_s, u_brn_n, nI_add, u_n_mul, u_n_lt, u_n_le, u_n_eq, u_n_sub, u_n_div, u_n_mod, nI_clamp, u_m1, u_m1q, u_wI_n, u_wA_n, u_br_t, u_br_f, ↓li_m1, li_0, li_1, li_2, li_3, li_4, li_5, li_6, li_7, li_8, li_9, li_10, li_12, li_13, li_26, li_40, li_60, li_61, li_62, li_99, li_100, li_102, li_106, li_114, li_112, li_117, li_108, li_103, li_120, li_300, li_360, li_512, li_1000, C, z_X0_frameCount, hf, c_setFrames ha hl hl2, sQ_stP, z_X2_closeAppeals]
end BASIC
