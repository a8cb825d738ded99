section READ
variable {m : Nat → Nat → Nat} {u w : Nat → Int32} {L : List Nat} {σ σ' : St} {N kk : Nat}
theorem c_D {d : Nat} (h : d < 2) {K : St → Prop} {KX : String → St → Prop} : z_X11_checkDuellist N (nI d) σ K KX = K σ := by
  simp (disch := omega) only [z_X11_checkDuellist, u_br_True, u_br_False, u_jn_u, u_lt_u, u_nn_s, u_brn_s, u_brn_n, nI_add, u_n_mul, u_n_lt, u_n_le, u_n_eq, u_n_sub, u_n_div, u_n_mod, nI_clamp, u_m1, u_m1q, u_wI_n, u_wA_n, u_br_t, u_br_f, ↓li_m1, li_0, li_1, li_2, li_3, li_4, li_5, li_6, li_7, li_8, li_9, li_10, li_12, li_13, li_26, li_40, li_60, li_61, li_62, li_99, li_100, li_102, li_106, li_114, li_112, li_117, li_108, li_103, li_120, li_300, li_360, li_512, li_1000]
theorem c_DO {p : Int32} (h : Out p 2) {K : St → Prop} {KX : String → St → Prop} : z_X11_checkDuellist N p σ K KX = KX "java/lang/IllegalArgumentException" σ := by
  rcases h with h | ⟨a, ha, h2, rfl⟩
  · simp (disch := omega) only [z_X11_checkDuellist, u_br_True, u_br_False, u_jn_u, u_lt_u, u_nn_s, u_brn_s, u_brn_n, nI_add, u_n_mul, u_n_lt, u_n_le, u_n_eq, u_n_sub, u_n_div, u_n_mod, nI_clamp, u_m1, u_m1q, u_wI_n, u_wA_n, u_br_t, u_br_f, ↓li_m1, li_0, li_1, li_2, li_3, li_4, li_5, li_6, li_7, li_8, li_9, li_10, li_12, li_13, li_26, li_40, li_60, li_61, li_62, li_99, li_100, li_102, li_106, li_114, li_112, li_117, li_108, li_103, li_120, li_300, li_360, li_512, li_1000, h]
  · simp (disch := omega) only [z_X11_checkDuellist, u_br_True, u_br_False, u_jn_u, u_lt_u, u_nn_s, u_brn_s, u_brn_n, nI_add, u_n_mul, u_n_lt, u_n_le, u_n_eq, u_n_sub, u_n_div, u_n_mod, nI_clamp, u_m1, u_m1q, u_wI_n, u_wA_n, u_br_t, u_br_f, ↓li_m1, li_0, li_1, li_2, li_3, li_4, li_5, li_6, li_7, li_8, li_9, li_10, li_12, li_13, li_26, li_40, li_60, li_61, li_62, li_99, li_100, li_102, li_106, li_114, li_112, li_117, li_108, li_103, li_120, li_300, li_360, li_512, li_1000]
theorem k_coins (I : Inv kk σ) (hk : kk < 512) (p : Int32) {T : Int32 → Int32 → St → Prop} (hT : ∀ code b σ2, G (kk + 1) code b σ2 → T code b σ2) : z_L_coins N (some 0) p σ (fun code σ1 => z_X12_coins N 0 p σ1 (fun b σ2 => T code b σ2)) := by
  have I0 := I
  obtain ⟨m, u, w, L, R, ⟨C0', CT', CX', CC', CQ', CD', CP'⟩, WT', WX', WC', WQ', WD'⟩ := I
  have hC := C0'
  unfold C0 at hC
  rcases u_io p 2 with ⟨d, hd, _, rfl⟩ | hp
  · have e := CD'.1 d hd
    simp (disch := omega) only [z_L_coins, z_X11_coins, z_X2_purseOf, z_X12_coins, c_D hd, hC, e, u_br_True, u_br_False, u_jn_u, u_lt_u, u_nn_s, u_brn_s, u_brn_n, nI_add, u_n_mul, u_n_lt, u_n_le, u_n_eq, u_n_sub, u_n_div, u_n_mod, nI_clamp, u_m1, u_m1q, u_wI_n, u_wA_n, u_br_t, u_br_f, ↓li_m1, li_0, li_1, li_2, li_3, li_4, li_5, li_6, li_7, li_8, li_9, li_10, li_12, li_13, li_26, li_40, li_60, li_61, li_62, li_99, li_100, li_102, li_106, li_114, li_112, li_117, li_108, li_103, li_120, li_300, li_360, li_512, li_1000, r_inT, r_inL, r_inH, r_inPT, r_inPF, b10, b00, f_0, f_1, u_okT, u_nb_0, u_nb_1, sP_stP, sP_stL, Nat.reduceEqDiff, true_and, and_true, false_and, and_false, if_true, if_false, eq_self, and_self, Nat.reduceLT, Nat.reduceLeDiff, Nat.reduceAdd, Nat.reduceMul, Nat.reduceDiv, Nat.one_ne_zero, wA_l, l0c, (fun j => R.r 51 j rfl)]
    exact hT _ _ _ (Inv_ans I0 hk)
  · simp (disch := omega) only [z_L_coins, z_X11_coins, z_X12_coins, c_DO hp, r_inO2 hp, u_br_True, u_br_False, u_jn_u, u_lt_u, u_nn_s, u_brn_s, u_brn_n, nI_add, u_n_mul, u_n_lt, u_n_le, u_n_eq, u_n_sub, u_n_div, u_n_mod, nI_clamp, u_m1, u_m1q, u_wI_n, u_wA_n, u_br_t, u_br_f, ↓li_m1, li_0, li_1, li_2, li_3, li_4, li_5, li_6, li_7, li_8, li_9, li_10, li_12, li_13, li_26, li_40, li_60, li_61, li_62, li_99, li_100, li_102, li_106, li_114, li_112, li_117, li_108, li_103, li_120, li_300, li_360, li_512, li_1000, b10, b00, f_0, f_1, u_okT, u_nb_0, u_nb_1, true_and]
    exact hT _ _ _ (G_exc (c := 1) I0 hk (by decide) (by decide))
theorem li_1024 : (1024 : Int32) = nI 1024 := rfl
theorem c_missedIn {d r : Nat} (C : CD m w σ) (hd : d < 2) (hr : r < m 52 0) (hm : m 52 0 ≤ 512) {K : Int32 → Prop} : z_X2_missedIn N 0 (nI d) (nI r) σ K = K (w (2 * r + d)) := by
  have e := C.2.2.1 (r * 2 + d) (by omega)
  have e2 := C.2.2.2.1
  simp (disch := omega) only [z_X2_missedIn, u_br_True, u_br_False, u_jn_u, u_lt_u, u_nn_s, u_brn_s, u_brn_n, nI_add, u_n_mul, u_n_lt, u_n_le, u_n_eq, u_n_sub, u_n_div, u_n_mod, nI_clamp, u_m1, u_m1q, u_wI_n, u_wA_n, u_br_t, u_br_f, ↓li_m1, li_0, li_1, li_2, li_3, li_4, li_5, li_6, li_7, li_8, li_9, li_10, li_12, li_13, li_26, li_40, li_60, li_61, li_62, li_99, li_100, li_102, li_106, li_114, li_112, li_117, li_108, li_103, li_120, li_300, li_360, li_512, li_1000, b10, b00, f_0, f_1, u_okT, u_nb_0, u_nb_1, li_1024, e, e2]
  rw [show r * 2 + d = 2 * r + d by omega]
theorem c_missedInO {d : Nat} {p : Int32} (C : CD m w σ) (hp : Out p (m 52 0)) (hm : m 52 0 ≤ 512) {K : Int32 → Prop} : z_X2_missedIn N 0 (nI d) p σ K = K mI := by
  have e2 := C.2.2.2.1
  rcases hp with h | ⟨a, ha, h2, rfl⟩
  · simp (disch := omega) only [z_X2_missedIn, u_br_True, u_br_False, u_jn_u, u_lt_u, u_nn_s, u_brn_s, u_brn_n, nI_add, u_n_mul, u_n_lt, u_n_le, u_n_eq, u_n_sub, u_n_div, u_n_mod, nI_clamp, u_m1, u_m1q, u_wI_n, u_wA_n, u_br_t, u_br_f, ↓li_m1, li_0, li_1, li_2, li_3, li_4, li_5, li_6, li_7, li_8, li_9, li_10, li_12, li_13, li_26, li_40, li_60, li_61, li_62, li_99, li_100, li_102, li_106, li_114, li_112, li_117, li_108, li_103, li_120, li_300, li_360, li_512, li_1000, b10, b00, f_0, f_1, u_okT, u_nb_0, u_nb_1, h]
  · simp (disch := omega) only [z_X2_missedIn, u_br_True, u_br_False, u_jn_u, u_lt_u, u_nn_s, u_brn_s, u_brn_n, nI_add, u_n_mul, u_n_lt, u_n_le, u_n_eq, u_n_sub, u_n_div, u_n_mod, nI_clamp, u_m1, u_m1q, u_wI_n, u_wA_n, u_br_t, u_br_f, ↓li_m1, li_0, li_1, li_2, li_3, li_4, li_5, li_6, li_7, li_8, li_9, li_10, li_12, li_13, li_26, li_40, li_60, li_61, li_62, li_99, li_100, li_102, li_106, li_114, li_112, li_117, li_108, li_103, li_120, li_300, li_360, li_512, li_1000, b10, b00, f_0, f_1, u_okT, u_nb_0, u_nb_1, e2]
theorem k_misses (I : Inv kk σ) (hk : kk < 512) (p p2 : Int32) {T : Int32 → Int32 → St → Prop} (hT : ∀ code b σ2, G (kk + 1) code b σ2 → T code b σ2) : z_L_misses N (some 0) p p2 σ (fun code σ1 => z_X12_misses N 0 p p2 σ1 (fun b σ2 => T code b σ2)) := by
  have I0 := I
  obtain ⟨m, u, w, L, R, ⟨C0', CT', CX', CC', CQ', CD', CP'⟩, WT', WX', WC', WQ', WD'⟩ := I
  have hC := C0'
  unfold C0 at hC
  have hm := WD'.2.1
  rcases u_io p 2 with ⟨d, hd, _, rfl⟩ | hp
  · rcases u_io p2 (m 52 0) with ⟨r, hr, _, rfl⟩ | hp2
    · obtain ⟨x, hx, e⟩ := CD'.2.2.2.2.2.2 (2 * r + d) (by omega)
      simp (disch := omega) only [z_L_misses, z_X11_misses, z_X12_misses, c_D hd, hC, c_missedIn CD' hd hr (by omega : m 52 0 ≤ 512), e, u_br_True, u_br_False, u_jn_u, u_lt_u, u_nn_s, u_brn_s, u_brn_n, nI_add, u_n_mul, u_n_lt, u_n_le, u_n_eq, u_n_sub, u_n_div, u_n_mod, nI_clamp, u_m1, u_m1q, u_wI_n, u_wA_n, u_br_t, u_br_f, ↓li_m1, li_0, li_1, li_2, li_3, li_4, li_5, li_6, li_7, li_8, li_9, li_10, li_12, li_13, li_26, li_40, li_60, li_61, li_62, li_99, li_100, li_102, li_106, li_114, li_112, li_117, li_108, li_103, li_120, li_300, li_360, li_512, li_1000, r_inT, r_inL, r_inH, r_inPT, r_inPF, b10, b00, f_0, f_1, u_okT, u_nb_0, u_nb_1, sP_stP, sP_stL, Nat.reduceEqDiff, true_and, and_true, false_and, and_false, if_true, if_false, eq_self, and_self, Nat.reduceLT, Nat.reduceLeDiff, Nat.reduceAdd, Nat.reduceMul, Nat.reduceDiv, Nat.one_ne_zero, wA_l, l0c, (fun j => R.r 52 j rfl), R.2.2.1]
      exact hT _ _ _ (Inv_ans I0 hk)
    · simp (disch := omega) only [z_L_misses, z_X11_misses, z_X12_misses, c_D hd, hC, c_missedInO CD' hp2 (by omega : m 52 0 ≤ 512), u_br_True, u_br_False, u_jn_u, u_lt_u, u_nn_s, u_brn_s, u_brn_n, u_br_t, u_br_f, u_n_lt, u_n_le, ↓li_m1, li_0, li_1, li_2, li_3, li_4, li_5, li_6, li_7, li_8, li_9, li_10, li_12, li_13, li_26, li_40, li_60, li_61, li_62, li_99, li_100, li_102, li_106, li_114, li_112, li_117, li_108, li_103, li_120, li_300, li_360, li_512, li_1000, r_inT, r_inL, r_inH, r_inPT, r_inPF, r_inO hp2, b10, b00, f_0, f_1, u_okT, u_nb_0, u_nb_1, sP_stP, sP_stL, Nat.reduceEqDiff, true_and, and_true, false_and, and_false, if_true, if_false, eq_self, and_self, Nat.reduceLT, Nat.reduceLeDiff, Nat.reduceAdd, Nat.reduceMul, Nat.reduceDiv, Nat.one_ne_zero, wA_l, l0c, (fun j => R.r 52 j rfl), R.2.2.1]
      exact Or.inr (hT _ _ _ (G_exc (c := 2) I0 hk (by decide) (by decide)))
  · simp (disch := omega) only [z_L_misses, z_X11_misses, z_X12_misses, c_DO hp, r_inO2 hp, u_br_True, u_br_False, u_jn_u, u_lt_u, u_nn_s, u_brn_s, u_brn_n, nI_add, u_n_mul, u_n_lt, u_n_le, u_n_eq, u_n_sub, u_n_div, u_n_mod, nI_clamp, u_m1, u_m1q, u_wI_n, u_wA_n, u_br_t, u_br_f, ↓li_m1, li_0, li_1, li_2, li_3, li_4, li_5, li_6, li_7, li_8, li_9, li_10, li_12, li_13, li_26, li_40, li_60, li_61, li_62, li_99, li_100, li_102, li_106, li_114, li_112, li_117, li_108, li_103, li_120, li_300, li_360, li_512, li_1000, b10, b00, f_0, f_1, u_okT, u_nb_0, u_nb_1, true_and]
    exact Or.inl (hT _ _ _ (G_exc (c := 1) I0 hk (by decide) (by decide)))
def tot (w : Nat → Int32) (d n : Nat) : Int32 := it_ (fun j a => a + w (2 * j + d)) (nI 0) n
theorem c_missAll (hN : 1000000 ≤ N) {d : Nat} (C : CD m w σ) (hd : d < 2) (hm : m 52 0 ≤ 512) {K : Int32 → Prop} (h : K (tot w d (m 52 0))) : z_X2_missedInAll N 0 (nI d) σ K := by
  unfold z_X2_missedInAll
  refine for_v (m 52 0) (by omega) (by omega) (fun j a => a = tot w d j) 0 (by omega) (fun self i a hi ha hs => ?_) rfl
  subst ha
  have e2 := C.2.2.2.1
  by_cases hl : i < m 52 0
  · simp (disch := omega) only [u_br_True, u_br_False, u_jn_u, u_lt_u, u_nn_s, u_brn_s, u_brn_n, nI_add, u_n_mul, u_n_lt, u_n_le, u_n_eq, u_n_sub, u_n_div, u_n_mod, nI_clamp, u_m1, u_m1q, u_wI_n, u_wA_n, u_br_t, u_br_f, ↓li_m1, li_0, li_1, li_2, li_3, li_4, li_5, li_6, li_7, li_8, li_9, li_10, li_12, li_13, li_26, li_40, li_60, li_61, li_62, li_99, li_100, li_102, li_106, li_114, li_112, li_117, li_108, li_103, li_120, li_300, li_360, li_512, li_1000, e2, c_missedIn C hd hl hm]
    exact hs _ hl rfl
  · simp (disch := omega) only [u_br_True, u_br_False, u_jn_u, u_lt_u, u_nn_s, u_brn_s, u_brn_n, nI_add, u_n_mul, u_n_lt, u_n_le, u_n_eq, u_n_sub, u_n_div, u_n_mod, nI_clamp, u_m1, u_m1q, u_wI_n, u_wA_n, u_br_t, u_br_f, ↓li_m1, li_0, li_1, li_2, li_3, li_4, li_5, li_6, li_7, li_8, li_9, li_10, li_12, li_13, li_26, li_40, li_60, li_61, li_62, li_99, li_100, li_102, li_106, li_114, li_112, li_117, li_108, li_103, li_120, li_300, li_360, li_512, li_1000, e2]
    rw [show i = m 52 0 by omega]
    exact h
theorem r_total (hN : 1000000 ≤ N) (R : RI m u w L σ) {d : Nat} (hd : d < 2) (hm : m 52 0 ≤ 512) {K : Int32 → St → Prop} (h : K (tot w d (m 52 0)) (stP σ 12 0 0 0 (nI 0))) : z_X12_total N 0 (nI d) σ K := by
  have R0 : RI m u w L (stP σ 12 0 0 0 (nI 0)) := R.tmp rfl
  simp (disch := omega) only [z_X12_total, u_br_True, u_br_False, u_jn_u, u_lt_u, u_nn_s, u_brn_s, u_brn_n, nI_add, u_n_mul, u_n_lt, u_n_le, u_n_eq, u_n_sub, u_n_div, u_n_mod, nI_clamp, u_m1, u_m1q, u_wI_n, u_wA_n, u_br_t, u_br_f, ↓li_m1, li_0, li_1, li_2, li_3, li_4, li_5, li_6, li_7, li_8, li_9, li_10, li_12, li_13, li_26, li_40, li_60, li_61, li_62, li_99, li_100, li_102, li_106, li_114, li_112, li_117, li_108, li_103, li_120, li_300, li_360, li_512, li_1000, r_inT, r_inL, r_inH, r_inPT, r_inPF, b10, b00, f_0, f_1, u_okT, u_nb_0, u_nb_1]
  refine for_v (m 52 0) (by omega) (by omega) (fun j a => a = tot w d j) 0 (by omega) (fun self i a hi ha hs => ?_) rfl
  subst ha
  have e2 := R0.r 52 0 rfl
  by_cases hl : i < m 52 0
  · simp (disch := omega) only [u_br_True, u_br_False, u_jn_u, u_lt_u, u_nn_s, u_brn_s, u_brn_n, nI_add, u_n_mul, u_n_lt, u_n_le, u_n_eq, u_n_sub, u_n_div, u_n_mod, nI_clamp, u_m1, u_m1q, u_wI_n, u_wA_n, u_br_t, u_br_f, e2, R0.2.2.1]
    exact hs _ hl rfl
  · simp (disch := omega) only [u_br_True, u_br_False, u_jn_u, u_lt_u, u_nn_s, u_brn_s, u_brn_n, nI_add, u_n_mul, u_n_lt, u_n_le, u_n_eq, u_n_sub, u_n_div, u_n_mod, nI_clamp, u_m1, u_m1q, u_wI_n, u_wA_n, u_br_t, u_br_f, e2]
    rw [show i = m 52 0 by omega]
    exact h
theorem k_total (hN : 1000000 ≤ N) (I : Inv kk σ) (hk : kk < 512) (p : Int32) {T : Int32 → Int32 → St → Prop} (hT : ∀ code b σ2, G (kk + 1) code b σ2 → T code b σ2) : z_L_total N (some 0) p σ (fun code σ1 => z_X12_total N 0 p σ1 (fun b σ2 => T code b σ2)) := by
  have I0 := I
  obtain ⟨m, u, w, L, R, ⟨C0', CT', CX', CC', CQ', CD', CP'⟩, WT', WX', WC', WQ', WD'⟩ := I
  have hC := C0'
  unfold C0 at hC
  have hm := WD'.2.1
  have hm4 := WD'.2.2.2
  rcases u_io p 2 with ⟨d, hd, _, rfl⟩ | hp
  · simp (disch := omega) only [z_L_total, z_X11_total, c_D hd, hC, u_br_True, u_br_False, u_jn_u, u_lt_u, u_nn_s, u_brn_s, u_brn_n]
    refine c_missAll hN CD' hd (by omega) ?_
    simp (disch := omega) only [u_br_True, u_br_False, u_jn_u, u_lt_u, u_nn_s, u_brn_s, u_brn_n, ↓li_m1, li_0, li_1, li_2, li_3, li_4, li_5, li_6, li_7, li_8, li_9, li_10, li_12, li_13, li_26, li_40, li_60, li_61, li_62, li_99, li_100, li_102, li_106, li_114, li_112, li_117, li_108, li_103, li_120, li_300, li_360, li_512, li_1000, wA_l, l0c]
    refine r_total hN (R.km KM.stL) hd (by omega) ?_
    exact hT _ _ _ (Inv_ans I0 hk)
  · simp (disch := omega) only [z_L_total, z_X11_total, z_X12_total, c_DO hp, r_inO2 hp, u_br_True, u_br_False, u_jn_u, u_lt_u, u_nn_s, u_brn_s, u_brn_n, nI_add, u_n_mul, u_n_lt, u_n_le, u_n_eq, u_n_sub, u_n_div, u_n_mod, nI_clamp, u_m1, u_m1q, u_wI_n, u_wA_n, u_br_t, u_br_f, ↓li_m1, li_0, li_1, li_2, li_3, li_4, li_5, li_6, li_7, li_8, li_9, li_10, li_12, li_13, li_26, li_40, li_60, li_61, li_62, li_99, li_100, li_102, li_106, li_114, li_112, li_117, li_108, li_103, li_120, li_300, li_360, li_512, li_1000, b10, b00, f_0, f_1, u_okT, u_nb_0, u_nb_1, true_and]
    exact hT _ _ _ (G_exc (c := 1) I0 hk (by decide) (by decide))
theorem c_taken {t : Nat} (T : CT1 m u σ t) {c : Nat} (hk : m 2 t ≤ 3) (hc : c < m 2 t) {p : Int32} {K : Int32 → Prop} : z_X10_takenCount N t (nI c) p σ K = K (if p = nI 114 then nI (m 8 t) else if p = nI 112 then nI (m 9 t) else if p = nI 117 then nI (m 10 (3 * t + c)) else if p = nI 108 then nI (m 11 (3 * t + c)) else if p = nI 103 then nI (m 12 (3 * t + c)) else mI) := by
  obtain ⟨t1, t2, t3, t4, t5, t6, t7, t8, t9, t10, t11, t12, t13⟩ := T
  simp (disch := omega) only [z_X10_takenCount, c_hasC t2 hc hk, u_br_True, u_br_False, u_jn_u, u_lt_u, u_nn_s, u_brn_s, u_brn_n, ↓li_m1, li_0, li_1, li_2, li_3, li_4, li_5, li_6, li_7, li_8, li_9, li_10, li_12, li_13, li_26, li_40, li_60, li_61, li_62, li_99, li_100, li_102, li_106, li_114, li_112, li_117, li_108, li_103, li_120, li_300, li_360, li_512, li_1000, nI_add, u_n_mul, u_n_lt, u_n_le, u_n_eq, u_n_sub, u_n_div, u_n_mod, nI_clamp, u_m1, u_m1q, u_wI_n, u_wA_n, u_br_t, u_br_f, b10, b00, f_0, f_1, u_okT, u_nb_0, u_nb_1, t9, t10, t11 c (by omega), t12 c (by omega), t13 c (by omega), u_br_K, Nat.one_ne_zero, if_false]
def isW (p : Int32) : Prop := p = nI 114 ∨ p = nI 112 ∨ p = nI 117 ∨ p = nI 108 ∨ p = nI 103
theorem r_counted (R : RI m u w L σ) (W : WT m u) {t c : Nat} {p : Int32} (ht : t < m 1 0) (hc : c < m 2 t) (hp : isW p) {K : Int32 → St → Prop} : z_X12_counted N 0 (nI t) (nI c) p σ K = K (if p = nI 114 then nI (m 8 t) else if p = nI 112 then nI (m 9 t) else if p = nI 117 then nI (m 10 (3 * t + c)) else if p = nI 108 then nI (m 11 (3 * t + c)) else if p = nI 103 then nI (m 12 (3 * t + c)) else mI) (stP σ 12 0 0 0 (nI 0)) := by
  have R0 : RI m u w L (stP σ 12 0 0 0 (nI 0)) := R.tmp rfl
  have := W.nt
  have := W.cl ht
  rcases hp with rfl | rfl | rfl | rfl | rfl <;>
  simp (disch := omega) only [z_X12_counted, r_isT R0 W ht, r_isC R0 W ht hc, u_br_True, u_br_False, u_jn_u, u_lt_u, u_nn_s, u_brn_s, u_brn_n, ↓li_m1, li_0, li_1, li_2, li_3, li_4, li_5, li_6, li_7, li_8, li_9, li_10, li_12, li_13, li_26, li_40, li_60, li_61, li_62, li_99, li_100, li_102, li_106, li_114, li_112, li_117, li_108, li_103, li_120, li_300, li_360, li_512, li_1000, nI_add, u_n_mul, u_n_lt, u_n_le, u_n_eq, u_n_sub, u_n_div, u_n_mod, nI_clamp, u_m1, u_m1q, u_wI_n, u_wA_n, u_br_t, u_br_f, b10, b00, f_0, f_1, u_okT, u_nb_0, u_nb_1, sP_stP, Nat.reduceEqDiff, true_and, and_true, false_and, and_false, if_true, if_false, eq_self, and_self, Nat.reduceLT, Nat.reduceLeDiff, Nat.reduceAdd, Nat.reduceMul, Nat.reduceDiv, Nat.one_ne_zero, (fun j => R.r 8 j rfl), (fun j => R.r 9 j rfl), (fun j => R.r 10 j rfl), (fun j => R.r 11 j rfl), (fun j => R.r 12 j rfl), Nat.reduceEqDiff]
theorem r_counted1 (R : RI m u w L σ) (W : WT m u) {p p2 p3 : Int32} (h : Out p (m 1 0)) {K : Int32 → St → Prop} : z_X12_counted N 0 p p2 p3 σ K = K mI (stP σ 12 0 0 0 (nI 1)) := by
  have R0 : RI m u w L (stP σ 12 0 0 0 (nI 0)) := R.tmp rfl
  by_cases hp : isW p3
  · rcases hp with rfl | rfl | rfl | rfl | rfl <;>
    simp (disch := omega) only [z_X12_counted, r_isTO R0 W h, u_br_True, u_br_False, u_jn_u, u_lt_u, u_nn_s, u_brn_s, u_brn_n, nI_add, u_n_mul, u_n_lt, u_n_le, u_n_eq, u_n_sub, u_n_div, u_n_mod, nI_clamp, u_m1, u_m1q, u_wI_n, u_wA_n, u_br_t, u_br_f, ↓li_m1, li_0, li_1, li_2, li_3, li_4, li_5, li_6, li_7, li_8, li_9, li_10, li_12, li_13, li_26, li_40, li_60, li_61, li_62, li_99, li_100, li_102, li_106, li_114, li_112, li_117, li_108, li_103, li_120, li_300, li_360, li_512, li_1000, b10, b00, f_0, f_1, u_okT, u_nb_0, u_nb_1]
  · simp only [isW, not_or] at hp
    obtain ⟨a1, a2, a3, a4, a5⟩ := hp
    simp (disch := omega) only [z_X12_counted, r_isTO R0 W h, u_br_True, u_br_False, u_jn_u, u_lt_u, u_nn_s, u_brn_s, u_brn_n, ↓li_m1, li_0, li_1, li_2, li_3, li_4, li_5, li_6, li_7, li_8, li_9, li_10, li_12, li_13, li_26, li_40, li_60, li_61, li_62, li_99, li_100, li_102, li_106, li_114, li_112, li_117, li_108, li_103, li_120, li_300, li_360, li_512, li_1000, b10, b00, f_0, f_1, u_okT, u_nb_0, u_nb_1, u_br_f a1, u_br_f a2, u_br_f a3, u_br_f a4, u_br_f a5]
theorem r_counted2 (R : RI m u w L σ) (W : WT m u) {t : Nat} {p p2 : Int32} (ht : t < m 1 0) (h : Out p2 (m 2 t)) {K : Int32 → St → Prop} : z_X12_counted N 0 (nI t) p2 p σ K = K mI (stP σ 12 0 0 0 (nI 2)) := by
  have R0 : RI m u w L (stP σ 12 0 0 0 (nI 0)) := R.tmp rfl
  by_cases hp : isW p
  · rcases hp with rfl | rfl | rfl | rfl | rfl <;>
    simp (disch := omega) only [z_X12_counted, r_isT R0 W ht, r_isCO R0 W ht h, u_br_True, u_br_False, u_jn_u, u_lt_u, u_nn_s, u_brn_s, u_brn_n, nI_add, u_n_mul, u_n_lt, u_n_le, u_n_eq, u_n_sub, u_n_div, u_n_mod, nI_clamp, u_m1, u_m1q, u_wI_n, u_wA_n, u_br_t, u_br_f, ↓li_m1, li_0, li_1, li_2, li_3, li_4, li_5, li_6, li_7, li_8, li_9, li_10, li_12, li_13, li_26, li_40, li_60, li_61, li_62, li_99, li_100, li_102, li_106, li_114, li_112, li_117, li_108, li_103, li_120, li_300, li_360, li_512, li_1000, b10, b00, f_0, f_1, u_okT, u_nb_0, u_nb_1]
  · simp only [isW, not_or] at hp
    obtain ⟨a1, a2, a3, a4, a5⟩ := hp
    simp (disch := omega) only [z_X12_counted, r_isT R0 W ht, r_isCO R0 W ht h, u_br_True, u_br_False, u_jn_u, u_lt_u, u_nn_s, u_brn_s, u_brn_n, ↓li_m1, li_0, li_1, li_2, li_3, li_4, li_5, li_6, li_7, li_8, li_9, li_10, li_12, li_13, li_26, li_40, li_60, li_61, li_62, li_99, li_100, li_102, li_106, li_114, li_112, li_117, li_108, li_103, li_120, li_300, li_360, li_512, li_1000, b10, b00, f_0, f_1, u_okT, u_nb_0, u_nb_1, u_br_f a1, u_br_f a2, u_br_f a3, u_br_f a4, u_br_f a5]
theorem r_counted3 (R : RI m u w L σ) (W : WT m u) {t c : Nat} {p : Int32} (ht : t < m 1 0) (h : c < m 2 t) (hp : ¬ isW p) {K : Int32 → St → Prop} : z_X12_counted N 0 (nI t) (nI c) p σ K = K mI (stP σ 12 0 0 0 (nI 2)) := by
  have R0 : RI m u w L (stP σ 12 0 0 0 (nI 0)) := R.tmp rfl
  simp only [isW, not_or] at hp
  obtain ⟨a1, a2, a3, a4, a5⟩ := hp
  simp (disch := omega) only [z_X12_counted, r_isT R0 W ht, r_isC R0 W ht h, u_br_True, u_br_False, u_jn_u, u_lt_u, u_nn_s, u_brn_s, u_brn_n, ↓li_m1, li_0, li_1, li_2, li_3, li_4, li_5, li_6, li_7, li_8, li_9, li_10, li_12, li_13, li_26, li_40, li_60, li_61, li_62, li_99, li_100, li_102, li_106, li_114, li_112, li_117, li_108, li_103, li_120, li_300, li_360, li_512, li_1000, b10, b00, f_0, f_1, u_okT, u_nb_0, u_nb_1, u_br_f a1, u_br_f a2, u_br_f a3, u_br_f a4, u_br_f a5]
theorem k_counted (I : Inv kk σ) (hk : kk < 512) (p p2 p3 : Int32) {T : Int32 → Int32 → St → Prop} (hT : ∀ code b σ2, G (kk + 1) code b σ2 → T code b σ2) : z_L_counted N (some 0) p p2 p3 σ (fun code σ1 => z_X12_counted N 0 p p2 p3 σ1 (fun b σ2 => T code b σ2)) := by
  have I0 := I
  obtain ⟨m, u, w, L, R, ⟨C0', CT', CX', CC', CQ', CD', CP'⟩, WT', WX', WC', WQ', WD'⟩ := I
  have h1 := WT'.nt
  rcases u_io p (m 1 0) with ⟨t, ht, _, rfl⟩ | hp
  · have hc := WT'.cl ht
    have hT1 := CT'.2.2.2 t ht
    have b8 := WT'.2.2.2.2.2.2.2.1 t (by omega)
    rcases u_io p2 (m 2 t) with ⟨c, hc2, _, rfl⟩ | hp2
    · have b9 := WT'.2.2.2.2.2.2.2.2.1 (3 * t + c) (by omega)
      by_cases hw : isW p3
      · rcases hw with rfl | rfl | rfl | rfl | rfl <;>
        · simp (disch := omega) only [z_L_counted, z_X11_counted, c_needT C0' CT' WT' ht, c_taken hT1 hc.2 hc2, u_br_True, u_br_False, u_jn_u, u_lt_u, u_nn_s, u_brn_s, u_brn_n, nI_add, u_n_mul, u_n_lt, u_n_le, u_n_eq, u_n_sub, u_n_div, u_n_mod, nI_clamp, u_m1, u_m1q, u_wI_n, u_wA_n, u_br_t, u_br_f, ↓li_m1, li_0, li_1, li_2, li_3, li_4, li_5, li_6, li_7, li_8, li_9, li_10, li_12, li_13, li_26, li_40, li_60, li_61, li_62, li_99, li_100, li_102, li_106, li_114, li_112, li_117, li_108, li_103, li_120, li_300, li_360, li_512, li_1000, b10, b00, f_0, f_1, u_okT, u_nb_0, u_nb_1, Nat.reduceEqDiff, true_and, and_true, false_and, and_false, if_true, if_false, eq_self, and_self, Nat.reduceLT, Nat.reduceLeDiff, Nat.reduceAdd, Nat.reduceMul, Nat.reduceDiv, Nat.one_ne_zero, wA_l, l0c, Nat.reduceEqDiff]
          rw [r_counted (R.km KM.stL) WT' ht hc2 (by simp [isW])]
          simp (disch := omega) only [nI_add, u_n_mul, u_n_lt, u_n_le, u_n_eq, u_n_sub, u_n_div, u_n_mod, nI_clamp, u_m1, u_m1q, u_wI_n, u_wA_n, u_br_t, u_br_f, Nat.reduceEqDiff, true_and, and_true, false_and, and_false, if_true, if_false, eq_self, and_self, Nat.reduceLT, Nat.reduceLeDiff, Nat.reduceAdd, Nat.reduceMul, Nat.reduceDiv, Nat.one_ne_zero, Nat.reduceEqDiff]
          exact hT _ _ _ (Inv_ans I0 hk)
      · have hw2 := hw
        simp only [isW, not_or] at hw
        obtain ⟨a1, a2, a3, a4, a5⟩ := hw
        simp (disch := omega) only [z_L_counted, z_X11_counted, c_needT C0' CT' WT' ht, c_taken hT1 hc.2 hc2, if_neg a1, if_neg a2, if_neg a3, if_neg a4, if_neg a5, r_counted3 R WT' ht hc2 hw2, u_br_True, u_br_False, u_jn_u, u_lt_u, u_nn_s, u_brn_s, u_brn_n, ↓li_m1, li_0, li_1, li_2, li_3, li_4, li_5, li_6, li_7, li_8, li_9, li_10, li_12, li_13, li_26, li_40, li_60, li_61, li_62, li_99, li_100, li_102, li_106, li_114, li_112, li_117, li_108, li_103, li_120, li_300, li_360, li_512, li_1000, b10, b00, f_0, f_1, u_okT, u_nb_0, u_nb_1, Nat.reduceEqDiff, true_and, and_true, false_and, and_false, if_true, if_false, eq_self, and_self, Nat.reduceLT, Nat.reduceLeDiff, Nat.reduceAdd, Nat.reduceMul, Nat.reduceDiv, Nat.one_ne_zero]
        exact Or.inr (hT _ _ _ (G_exc (c := 2) I0 hk (by decide) (by decide)))
    · simp (disch := omega) only [z_L_counted, z_X11_counted, z_X10_takenCount, c_needT C0' CT' WT' ht, c_hasCO hT1.2.1 hp2 hc.2, r_counted2 R WT' ht hp2, u_br_True, u_br_False, u_jn_u, u_lt_u, u_nn_s, u_brn_s, u_brn_n, ↓li_m1, li_0, li_1, li_2, li_3, li_4, li_5, li_6, li_7, li_8, li_9, li_10, li_12, li_13, li_26, li_40, li_60, li_61, li_62, li_99, li_100, li_102, li_106, li_114, li_112, li_117, li_108, li_103, li_120, li_300, li_360, li_512, li_1000, b10, b00, f_0, f_1, u_okT, u_nb_0, u_nb_1, Nat.reduceEqDiff, true_and, and_true, false_and, and_false, if_true, if_false, eq_self, and_self, Nat.reduceLT, Nat.reduceLeDiff, Nat.reduceAdd, Nat.reduceMul, Nat.reduceDiv, Nat.one_ne_zero]
      exact Or.inr (hT _ _ _ (G_exc (c := 2) I0 hk (by decide) (by decide)))
  · simp only [z_L_counted, z_X11_counted, c_needTO C0' CT' WT' hp, r_counted1 R WT' hp, u_br_True, u_br_False, u_jn_u, u_lt_u, u_nn_s, u_brn_s, u_brn_n, li_1, true_and]
    exact Or.inl (hT _ _ _ (G_exc (c := 1) I0 hk (by decide) (by decide)))
end READ
