section FROM
variable {m : Nat → Nat → Nat} {u w : Nat → Int32} {L : List Nat} {σ σ' : St} {N kk q : Nat}
theorem c_needQ (C : CQ m σ) (W : WQ m) {t : Nat} (h : t < m 24 0) {K : Option Nat → St → Prop} {KX : String → St → Prop} : z_X11_needQuery N 0 (nI t) σ K KX = K (some t) σ := by
  have := W.1
  have e := C.2.2.1 t (by omega)
  rw [if_pos h] at e
  simp (disch := omega) only [z_X11_needQuery, u_br_True, u_br_False, u_jn_u, u_lt_u, u_nn_s, u_brn_s, u_brn_n, ↓li_m1, li_0, li_1, li_2, li_3, li_4, li_5, li_6, li_7, li_8, li_9, li_10, li_12, li_13, li_26, li_40, li_60, li_61, li_62, li_99, li_100, li_102, li_106, li_114, li_112, li_117, li_108, li_103, li_120, li_300, li_360, li_512, li_1000, nI_add, u_n_mul, u_n_lt, u_n_le, u_n_eq, u_n_sub, u_n_div, u_n_mod, nI_clamp, u_m1, u_m1q, u_wI_n, u_wA_n, u_br_t, u_br_f, e]
theorem c_needQO (C : CQ m σ) (W : WQ m) {p : Int32} (h : Out p (m 24 0)) {K : Option Nat → St → Prop} {KX : String → St → Prop} : z_X11_needQuery N 0 p σ K KX = KX "java/lang/IndexOutOfBoundsException" σ := by
  have := W.1
  rcases h with h | ⟨a, ha, h2, rfl⟩
  · simp (disch := omega) only [z_X11_needQuery, u_br_True, u_br_False, u_jn_u, u_lt_u, u_nn_s, u_brn_s, u_brn_n, ↓li_m1, li_0, li_1, li_2, li_3, li_4, li_5, li_6, li_7, li_8, li_9, li_10, li_12, li_13, li_26, li_40, li_60, li_61, li_62, li_99, li_100, li_102, li_106, li_114, li_112, li_117, li_108, li_103, li_120, li_300, li_360, li_512, li_1000, nI_add, u_n_mul, u_n_lt, u_n_le, u_n_eq, u_n_sub, u_n_div, u_n_mod, nI_clamp, u_m1, u_m1q, u_wI_n, u_wA_n, u_br_t, u_br_f, h]
  · by_cases h3 : 8 ≤ a
    · simp (disch := omega) only [z_X11_needQuery, u_br_True, u_br_False, u_jn_u, u_lt_u, u_nn_s, u_brn_s, u_brn_n, ↓li_m1, li_0, li_1, li_2, li_3, li_4, li_5, li_6, li_7, li_8, li_9, li_10, li_12, li_13, li_26, li_40, li_60, li_61, li_62, li_99, li_100, li_102, li_106, li_114, li_112, li_117, li_108, li_103, li_120, li_300, li_360, li_512, li_1000, nI_add, u_n_mul, u_n_lt, u_n_le, u_n_eq, u_n_sub, u_n_div, u_n_mod, nI_clamp, u_m1, u_m1q, u_wI_n, u_wA_n, u_br_t, u_br_f]
    · have e := C.2.2.1 a (by omega)
      rw [if_neg (by omega)] at e
      simp (disch := omega) only [z_X11_needQuery, u_br_True, u_br_False, u_jn_u, u_lt_u, u_nn_s, u_brn_s, u_brn_n, ↓li_m1, li_0, li_1, li_2, li_3, li_4, li_5, li_6, li_7, li_8, li_9, li_10, li_12, li_13, li_26, li_40, li_60, li_61, li_62, li_99, li_100, li_102, li_106, li_114, li_112, li_117, li_108, li_103, li_120, li_300, li_360, li_512, li_1000, nI_add, u_n_mul, u_n_lt, u_n_le, u_n_eq, u_n_sub, u_n_div, u_n_mod, nI_clamp, u_m1, u_m1q, u_wI_n, u_wA_n, u_br_t, u_br_f, e]
theorem r_isQ (R : RI m u w L σ) (W : WQ m) {t : Nat} (h : t < m 24 0) {K : Int32 → Prop} : z_X12_isQuery N 0 (nI t) σ K = K (nI 1) := by
  have := W.1
  simp (disch := omega) only [z_X12_isQuery, (fun j => R.r 24 j rfl), ↓li_m1, li_0, li_1, li_2, li_3, li_4, li_5, li_6, li_7, li_8, li_9, li_10, li_12, li_13, li_26, li_40, li_60, li_61, li_62, li_99, li_100, li_102, li_106, li_114, li_112, li_117, li_108, li_103, li_120, li_300, li_360, li_512, li_1000, nI_add, u_n_mul, u_n_lt, u_n_le, u_n_eq, u_n_sub, u_n_div, u_n_mod, nI_clamp, u_m1, u_m1q, u_wI_n, u_wA_n, u_br_t, u_br_f, r_inT, r_inL, r_inH, r_inPT, r_inPF, b10, b00, f_0, f_1, u_okT, u_nb_0, u_nb_1]
theorem r_isQO (R : RI m u w L σ) (W : WQ m) {p : Int32} (h : Out p (m 24 0)) {K : Int32 → Prop} : z_X12_isQuery N 0 p σ K = K (nI 0) := by
  have := W.1
  simp (disch := omega) only [z_X12_isQuery, (fun j => R.r 24 j rfl), ↓li_m1, li_0, li_1, li_2, li_3, li_4, li_5, li_6, li_7, li_8, li_9, li_10, li_12, li_13, li_26, li_40, li_60, li_61, li_62, li_99, li_100, li_102, li_106, li_114, li_112, li_117, li_108, li_103, li_120, li_300, li_360, li_512, li_1000, r_inO h, b10, b00, f_0, f_1, u_okT, u_nb_0, u_nb_1]
/-- a position and a column of a query, or none -/
def Pl (m : Nat → Nat → Nat) (q : Nat) (p c : Int32) : Prop := ∃ a b, a < m 25 q ∧ b < m 2 (tq m q a) ∧ p = nI a ∧ c = nI b
theorem c_place (Cq : CQ1 m σ q) (Ct : CT m u σ) (W : WQ m) (Wt : WT m u) (hq : q < m 24 0) {p c : Int32} (h : Pl m q p c) {K : Int32 → Prop} : z_X7_hasColumn N q p c σ K = K (nI 1) := by
  obtain ⟨a, b, ha, hb, rfl, rfl⟩ := h
  have w3 := W.2.2 q hq
  have ht := w3.2.2.2.1 a ha
  have hc := Wt.cl ht
  have e := Cq.2.2.2.1 a (by omega)
  rw [if_pos ha] at e
  simp (disch := omega) only [z_X7_hasColumn, z_X7_tableOf, u_br_True, u_br_False, u_jn_u, u_lt_u, u_nn_s, u_brn_s, u_brn_n, ↓li_m1, li_0, li_1, li_2, li_3, li_4, li_5, li_6, li_7, li_8, li_9, li_10, li_12, li_13, li_26, li_40, li_60, li_61, li_62, li_99, li_100, li_102, li_106, li_114, li_112, li_117, li_108, li_103, li_120, li_300, li_360, li_512, li_1000, nI_add, u_n_mul, u_n_lt, u_n_le, u_n_eq, u_n_sub, u_n_div, u_n_mod, nI_clamp, u_m1, u_m1q, u_wI_n, u_wA_n, u_br_t, u_br_f, e, c_hasC (Ct.2.2.2 _ ht).2.1 hb hc.2, b10, b00, f_0, f_1, u_okT, u_nb_0, u_nb_1]
theorem c_placeO (Cq : CQ1 m σ q) (Ct : CT m u σ) (W : WQ m) (Wt : WT m u) (hq : q < m 24 0) {p c : Int32} (h : ¬ Pl m q p c) {K : Int32 → Prop} : z_X7_hasColumn N q p c σ K = K (nI 0) := by
  have w3 := W.2.2 q hq
  rcases u_io p 3 with ⟨a, ha, _, rfl⟩ | hp
  · have e := Cq.2.2.2.1 a ha
    by_cases ha2 : a < m 25 q
    · rw [if_pos ha2] at e
      have ht := w3.2.2.2.1 a ha2
      have hc := Wt.cl ht
      rcases u_io c (m 2 (tq m q a)) with ⟨b, hb, _, rfl⟩ | hc2
      · exact absurd ⟨a, b, ha2, hb, rfl, rfl⟩ h
      · simp (disch := omega) only [z_X7_hasColumn, z_X7_tableOf, u_br_True, u_br_False, u_jn_u, u_lt_u, u_nn_s, u_brn_s, u_brn_n, ↓li_m1, li_0, li_1, li_2, li_3, li_4, li_5, li_6, li_7, li_8, li_9, li_10, li_12, li_13, li_26, li_40, li_60, li_61, li_62, li_99, li_100, li_102, li_106, li_114, li_112, li_117, li_108, li_103, li_120, li_300, li_360, li_512, li_1000, nI_add, u_n_mul, u_n_lt, u_n_le, u_n_eq, u_n_sub, u_n_div, u_n_mod, nI_clamp, u_m1, u_m1q, u_wI_n, u_wA_n, u_br_t, u_br_f, e, c_hasCO (Ct.2.2.2 _ ht).2.1 hc2 hc.2, b10, b00, f_0, f_1, u_okT, u_nb_0, u_nb_1]
    · rw [if_neg ha2] at e
      simp (disch := omega) only [z_X7_hasColumn, z_X7_tableOf, u_br_True, u_br_False, u_jn_u, u_lt_u, u_nn_s, u_brn_s, u_brn_n, ↓li_m1, li_0, li_1, li_2, li_3, li_4, li_5, li_6, li_7, li_8, li_9, li_10, li_12, li_13, li_26, li_40, li_60, li_61, li_62, li_99, li_100, li_102, li_106, li_114, li_112, li_117, li_108, li_103, li_120, li_300, li_360, li_512, li_1000, nI_add, u_n_mul, u_n_lt, u_n_le, u_n_eq, u_n_sub, u_n_div, u_n_mod, nI_clamp, u_m1, u_m1q, u_wI_n, u_wA_n, u_br_t, u_br_f, e, b10, b00, f_0, f_1, u_okT, u_nb_0, u_nb_1]
  · rcases hp with hp | ⟨a, ha, h2, rfl⟩
    · simp (disch := omega) only [z_X7_hasColumn, z_X7_tableOf, u_br_True, u_br_False, u_jn_u, u_lt_u, u_nn_s, u_brn_s, u_brn_n, ↓li_m1, li_0, li_1, li_2, li_3, li_4, li_5, li_6, li_7, li_8, li_9, li_10, li_12, li_13, li_26, li_40, li_60, li_61, li_62, li_99, li_100, li_102, li_106, li_114, li_112, li_117, li_108, li_103, li_120, li_300, li_360, li_512, li_1000, nI_add, u_n_mul, u_n_lt, u_n_le, u_n_eq, u_n_sub, u_n_div, u_n_mod, nI_clamp, u_m1, u_m1q, u_wI_n, u_wA_n, u_br_t, u_br_f, hp, b10, b00, f_0, f_1, u_okT, u_nb_0, u_nb_1]
    · simp (disch := omega) only [z_X7_hasColumn, z_X7_tableOf, u_br_True, u_br_False, u_jn_u, u_lt_u, u_nn_s, u_brn_s, u_brn_n, ↓li_m1, li_0, li_1, li_2, li_3, li_4, li_5, li_6, li_7, li_8, li_9, li_10, li_12, li_13, li_26, li_40, li_60, li_61, li_62, li_99, li_100, li_102, li_106, li_114, li_112, li_117, li_108, li_103, li_120, li_300, li_360, li_512, li_1000, nI_add, u_n_mul, u_n_lt, u_n_le, u_n_eq, u_n_sub, u_n_div, u_n_mod, nI_clamp, u_m1, u_m1q, u_wI_n, u_wA_n, u_br_t, u_br_f, b10, b00, f_0, f_1, u_okT, u_nb_0, u_nb_1]
theorem r_place (R : RI m u w L σ) (W : WQ m) (Wt : WT m u) (hq : q < m 24 0) {p c : Int32} (h : Pl m q p c) {K : Int32 → Prop} : z_X12_isPlace N 0 (nI q) p c σ K = K (nI 1) := by
  obtain ⟨a, b, ha, hb, rfl, rfl⟩ := h
  have w1 := W.1
  have w3 := W.2.2 q hq
  have ht : tq m q a < m 1 0 := w3.2.2.2.1 a ha
  have e : sP σ 12 0 26 (3 * q + a) = nI (tq m q a) := R.r 26 _ rfl
  simp (disch := omega) only [z_X12_isPlace, u_br_True, u_br_False, u_jn_u, u_lt_u, u_nn_s, u_brn_s, u_brn_n, ↓li_m1, li_0, li_1, li_2, li_3, li_4, li_5, li_6, li_7, li_8, li_9, li_10, li_12, li_13, li_26, li_40, li_60, li_61, li_62, li_99, li_100, li_102, li_106, li_114, li_112, li_117, li_108, li_103, li_120, li_300, li_360, li_512, li_1000, nI_add, u_n_mul, u_n_lt, u_n_le, u_n_eq, u_n_sub, u_n_div, u_n_mod, nI_clamp, u_m1, u_m1q, u_wI_n, u_wA_n, u_br_t, u_br_f, r_inT, r_inL, r_inH, r_inPT, r_inPF, b10, b00, f_0, f_1, u_okT, u_nb_0, u_nb_1, e, (fun j => R.r 25 j rfl), r_isC R Wt ht hb]
theorem r_placeO (R : RI m u w L σ) (W : WQ m) (Wt : WT m u) (hq : q < m 24 0) {p c : Int32} (h : ¬ Pl m q p c) {K : Int32 → Prop} : z_X12_isPlace N 0 (nI q) p c σ K = K (nI 0) := by
  have w1 := W.1
  have w3 := W.2.2 q hq
  rcases u_io p (m 25 q) with ⟨a, ha, _, rfl⟩ | hp
  · have ht : tq m q a < m 1 0 := w3.2.2.2.1 a ha
    have e : sP σ 12 0 26 (3 * q + a) = nI (tq m q a) := R.r 26 _ rfl
    rcases u_io c (m 2 (tq m q a)) with ⟨b, hb, _, rfl⟩ | hc2
    · exact absurd ⟨a, b, ha, hb, rfl, rfl⟩ h
    · simp (disch := omega) only [z_X12_isPlace, u_br_True, u_br_False, u_jn_u, u_lt_u, u_nn_s, u_brn_s, u_brn_n, ↓li_m1, li_0, li_1, li_2, li_3, li_4, li_5, li_6, li_7, li_8, li_9, li_10, li_12, li_13, li_26, li_40, li_60, li_61, li_62, li_99, li_100, li_102, li_106, li_114, li_112, li_117, li_108, li_103, li_120, li_300, li_360, li_512, li_1000, nI_add, u_n_mul, u_n_lt, u_n_le, u_n_eq, u_n_sub, u_n_div, u_n_mod, nI_clamp, u_m1, u_m1q, u_wI_n, u_wA_n, u_br_t, u_br_f, r_inT, r_inL, r_inH, r_inPT, r_inPF, b10, b00, f_0, f_1, u_okT, u_nb_0, u_nb_1, e, (fun j => R.r 25 j rfl), r_isCO R Wt ht hc2]
  · simp (disch := omega) only [z_X12_isPlace, u_br_True, u_br_False, u_jn_u, u_lt_u, u_nn_s, u_brn_s, u_brn_n, ↓li_m1, li_0, li_1, li_2, li_3, li_4, li_5, li_6, li_7, li_8, li_9, li_10, li_12, li_13, li_26, li_40, li_60, li_61, li_62, li_99, li_100, li_102, li_106, li_114, li_112, li_117, li_108, li_103, li_120, li_300, li_360, li_512, li_1000, u_wI_n, nI_clamp, r_inO hp, b10, b00, f_0, f_1, u_okT, u_nb_0, u_nb_1, (fun j => R.r 25 j rfl)]
theorem k_from (I : Inv kk σ) (hk : kk < 512) (p p2 : Int32) {T : Int32 → Int32 → St → Prop} (hT : ∀ code b σ2, G (kk + 1) code b σ2 → T code b σ2) : z_L_from N (some 0) p p2 σ (fun code σ1 => z_X12_from N 0 p p2 σ1 (fun b σ2 => T code b σ2)) := by
  have I0 := I
  obtain ⟨m, u, w, L, R, ⟨C0', CT', CX', CC', CQ', CD', CP'⟩, WT', WX', WC', WQ', WD'⟩ := I
  have hC := C0'
  unfold C0 at hC
  have R0 : RI m u w L (stP σ 12 0 0 0 (nI 0)) := R.tmp rfl
  have b8 := WQ'.1
  have h1 := WT'.nt
  rcases u_io p (m 24 0) with ⟨q, hq, _, rfl⟩ | hp
  · rcases u_io p2 (m 1 0) with ⟨t, ht, _, rfl⟩ | hp2
    · have w3 := WQ'.2.2 q hq
      have cq := CQ'.2.2.2 q hq
      by_cases h3 : m 25 q = 3
      · simp (disch := omega) only [z_L_from, z_X11_from, z_X7_addPosition, z_X12_from, c_needQ CQ' WQ' hq, c_needT C0' CT' WT' ht, r_isQ R0 WQ' hq, r_isT R0 WT' ht, cq.1, h3, u_br_True, u_br_False, u_jn_u, u_lt_u, u_nn_s, u_brn_s, u_brn_n, nI_add, u_n_mul, u_n_lt, u_n_le, u_n_eq, u_n_sub, u_n_div, u_n_mod, nI_clamp, u_m1, u_m1q, u_wI_n, u_wA_n, u_br_t, u_br_f, ↓li_m1, li_0, li_1, li_2, li_3, li_4, li_5, li_6, li_7, li_8, li_9, li_10, li_12, li_13, li_26, li_40, li_60, li_61, li_62, li_99, li_100, li_102, li_106, li_114, li_112, li_117, li_108, li_103, li_120, li_300, li_360, li_512, li_1000, b10, b00, f_0, f_1, u_okT, u_nb_0, u_nb_1, sP_stP, Nat.reduceEqDiff, true_and, and_true, false_and, and_false, if_true, if_false, eq_self, and_self, Nat.reduceLT, Nat.reduceLeDiff, Nat.reduceAdd, Nat.reduceMul, Nat.reduceDiv, Nat.one_ne_zero, (fun j => R.r 25 j rfl)]
        exact Or.inr (hT _ _ _ (G_exc (c := 2) I0 hk (by decide) (by decide)))
      · have Rc : ∀ y, RI m u w L (stP (stL (stP (stP (stQ σ 7 q 0 (m 25 q) (some t)) 7 q 1 0 (nI (m 25 q + 1))) 2 0 5 0 (nI 0)) 13 0 0 0 y) 12 0 0 0 (nI 0)) := fun y => (R.km (((KM.stQ.trans (KM.st (by decide))).trans (KM.st (by decide))).trans KM.stL)).tmp rfl
        simp (disch := omega) only [z_L_from, z_X11_from, z_X7_addPosition, z_X7_size, z_X2_closeAppeals, c_needQ CQ' WQ' hq, c_needT C0' CT' WT' ht, cq.1, u_br_True, u_br_False, u_jn_u, u_lt_u, u_nn_s, u_brn_s, u_brn_n, nI_add, u_n_mul, u_n_lt, u_n_le, u_n_eq, u_n_sub, u_n_div, u_n_mod, nI_clamp, u_m1, u_m1q, u_wI_n, u_wA_n, u_br_t, u_br_f, ↓li_m1, li_0, li_1, li_2, li_3, li_4, li_5, li_6, li_7, li_8, li_9, li_10, li_12, li_13, li_26, li_40, li_60, li_61, li_62, li_99, li_100, li_102, li_106, li_114, li_112, li_117, li_108, li_103, li_120, li_300, li_360, li_512, li_1000, b10, b00, f_0, f_1, u_okT, u_nb_0, u_nb_1, sP_stP, sP_stQ, sQ_stP, sQ_stQ, hC, Nat.reduceEqDiff, true_and, and_true, false_and, and_false, if_true, if_false, eq_self, and_self, Nat.reduceLT, Nat.reduceLeDiff, Nat.reduceAdd, Nat.reduceMul, Nat.reduceDiv, Nat.one_ne_zero, wA_l, l0c]
        simp (disch := omega) only [z_X12_from, r_isQ (Rc _) WQ' hq, r_isT (Rc _) WT' ht, u_br_True, u_br_False, u_jn_u, u_lt_u, u_nn_s, u_brn_s, u_brn_n, nI_add, u_n_mul, u_n_lt, u_n_le, u_n_eq, u_n_sub, u_n_div, u_n_mod, nI_clamp, u_m1, u_m1q, u_wI_n, u_wA_n, u_br_t, u_br_f, ↓li_m1, li_0, li_1, li_2, li_3, li_4, li_5, li_6, li_7, li_8, li_9, li_10, li_12, li_13, li_26, li_40, li_60, li_61, li_62, li_99, li_100, li_102, li_106, li_114, li_112, li_117, li_108, li_103, li_120, li_300, li_360, li_512, li_1000, b10, b00, f_0, f_1, u_okT, u_nb_0, u_nb_1, sP_stP, sP_stL, sP_stQ, Nat.reduceEqDiff, true_and, and_true, false_and, and_false, if_true, if_false, eq_self, and_self, Nat.reduceLT, Nat.reduceLeDiff, Nat.reduceAdd, Nat.reduceMul, Nat.reduceDiv, Nat.one_ne_zero, (fun j => R.r 25 j rfl)]
        refine hT _ _ _ (fin (m := mu (mu (mu m 16 0 0) 26 (3 * q + m 25 q) t) 25 q (m 25 q + 1)) (u := u) (w := w) (L := L) ?_ ?_ ((((KC.st).trans KC.st).trans KC.st).trans KC.st) ?_ (by simp [sP_stP]))
        · refine ⟨?_, ?_, ?_, ?_, ?_, ?_, CP_0 (by simp [mu])⟩
          · rw [C0_st, C0_st, C0_stQ (by decide)]; exact C0'
          · simp (disch := decide) only [CT_mu, CT_st, CT_stQ]; exact CT'
          · simp (disch := decide) only [CX_mu, CX_st, CX_stQ]; exact CX'
          · simp (disch := decide) only [CC_mu, CC_st, CC_stQ]; exact CC'
          · rw [CQ_st (by decide)]
            obtain ⟨q1, q2, q3, q4⟩ := CQ'
            refine ⟨by simp [sP_stP, sP_stQ, mu, q1], by simp [sV_stP, sV_stQ, mu, q2], ?_, ?_⟩
            · intro y hy
              simp [sQ_stP, sQ_stQ, mu, q3 y hy]
            · intro y hy
              simp only [mu, Nat.reduceEqDiff, true_and, and_true, false_and, and_false, if_true, if_false, eq_self, and_self, Nat.reduceLT, Nat.reduceLeDiff, Nat.reduceAdd, Nat.reduceMul, Nat.reduceDiv, Nat.one_ne_zero] at hy
              by_cases hy2 : y = q
              · subst hy2
                obtain ⟨a1, a2, a3, a4, a5, a6, a7, a8⟩ := cq
                refine ⟨?_, ?_, ?_, ?_, ?_, ?_, ?_, ?_⟩
                · simp [sP_stP, sP_stQ, mu]
                · simp [sP_stP, sP_stQ, mu, a2]
                · simp [sP_stP, sP_stQ, mu, a3]
                · intro z hz
                  have := a4 z hz
                  simp only [sQ_stP, sQ_stQ, mu, Nat.reduceEqDiff, true_and, and_true, false_and, and_false, if_true, if_false, eq_self, and_self, Nat.reduceLT, Nat.reduceLeDiff, Nat.reduceAdd, Nat.reduceMul, Nat.reduceDiv, Nat.one_ne_zero]
                  by_cases hz2 : z = m 25 y
                  · subst hz2; simp
                  · have e1 : ¬ 3 * y + z = 3 * y + m 25 y := by omega
                    simp [hz2, e1, this]
                    split <;> split <;> first | rfl | omega
                · simpa [CN, sP_stP, sP_stQ, sQ_stP, sQ_stQ, sV_stP, sV_stQ, mu] using a5
                · simpa [sQ_stP, sQ_stQ, mu] using a6
                · simpa [CJ, sP_stP, sP_stQ, sQ_stP, sQ_stQ, sV_stP, sV_stQ, mu] using a7
                · simpa [sQ_stP, sQ_stQ, mu] using a8
              · obtain ⟨a1, a2, a3, a4, a5, a6, a7, a8⟩ := q4 y hy
                refine ⟨?_, ?_, ?_, ?_, ?_, ?_, ?_, ?_⟩
                · simp [sP_stP, sP_stQ, mu, a1, hy2]
                · simp [sP_stP, sP_stQ, mu, a2]
                · simp [sP_stP, sP_stQ, mu, a3]
                · intro z hz
                  have := a4 z hz
                  have e1 : ¬ 3 * y + z = 3 * q + m 25 q := by omega
                  simp [sQ_stP, sQ_stQ, mu, hy2, e1, this]
                · simpa [CN, sP_stP, sP_stQ, sQ_stP, sQ_stQ, sV_stP, sV_stQ, mu] using a5
                · simpa [sQ_stP, sQ_stQ, mu] using a6
                · simpa [CJ, sP_stP, sP_stQ, sQ_stP, sQ_stQ, sV_stP, sV_stQ, mu] using a7
                · simpa [sQ_stP, sQ_stQ, mu] using a8
          · simp (disch := decide) only [CD_mu, CD_stQ]
            refine CD_close ?_
            simp (disch := decide) only [CD_st, CD_stQ]; exact CD'
        · exact (((Rc _).set rfl).set rfl).set rfl
        · refine ⟨?_, ?_, ?_, ?_, ?_⟩
          · simp (disch := decide) only [WT_mu]; exact WT'
          · simp (disch := decide) only [WX_mu]; exact WX'
          · simp (disch := decide) only [WC_mu]; exact WC'
          · obtain ⟨w1, w2, w4⟩ := WQ'
            refine ⟨by simpa [mu] using w1, ?_, ?_⟩
            · intro y hy hy2
              simp [mu] at hy ⊢
              have : ¬ y = q := by omega
              simp [this]
              exact w2 y (by omega) hy2
            · intro y hy
              simp only [mu, Nat.reduceEqDiff, true_and, and_true, false_and, and_false, if_true, if_false, eq_self, and_self, Nat.reduceLT, Nat.reduceLeDiff, Nat.reduceAdd, Nat.reduceMul, Nat.reduceDiv, Nat.one_ne_zero] at hy
              obtain ⟨a1, a2, a3, a4, a5, a6⟩ := w4 y hy
              by_cases hy2 : y = q
              · subst hy2
                have e1 : ∀ z, z < m 25 y → ¬ 3 * y + z = 3 * y + m 25 y := by omega
                refine ⟨by simp [mu]; omega, by simp [mu]; omega, by simp [mu]; omega, ?_, ?_, ?_⟩
                · intro z hz
                  simp [mu] at hz ⊢
                  by_cases hz2 : z = m 25 y
                  · simp [hz2]; exact ht
                  · have : ¬ 3 * y + z = 3 * y + m 25 y := by omega
                    simp [hz2]; exact a4 z (by omega)
                · intro z hz
                  simp only [mu, Nat.reduceEqDiff, true_and, and_true, false_and, and_false, if_true, if_false, eq_self, and_self, Nat.reduceLT, Nat.reduceLeDiff, Nat.reduceAdd, Nat.reduceMul, Nat.reduceDiv, Nat.one_ne_zero] at hz
                  obtain ⟨b1, b2, b3⟩ := a5 z hz
                  have hne := e1 _ b1
                  refine ⟨by simp [mu]; omega, ?_, by simpa [mu] using b3.1, by simpa [mu] using b3.2⟩
                  have hne2 : ¬ m 28 (4 * y + z) = m 25 y := by omega
                  simpa [mu, tq, hne2] using b2
                · intro z hz
                  simp only [mu, Nat.reduceEqDiff, true_and, and_true, false_and, and_false, if_true, if_false, eq_self, and_self, Nat.reduceLT, Nat.reduceLeDiff, Nat.reduceAdd, Nat.reduceMul, Nat.reduceDiv, Nat.one_ne_zero] at hz
                  obtain ⟨b1, b2, b3, b4, b5⟩ := a6 z hz
                  have hne1 : ¬ m 33 (3 * y + z) = m 25 y := by omega
                  have hne2 : ¬ m 35 (3 * y + z) = m 25 y := by omega
                  refine ⟨by simp [mu]; omega, ?_, by simp [mu]; omega, ?_, by simpa [mu] using b5⟩
                  · simpa [mu, tq, hne1] using b2
                  · simpa [mu, tq, hne2] using b4
              · have e1 : ∀ z, z < 3 → ¬ 3 * y + z = 3 * q + m 25 q := by omega
                refine ⟨by simp [mu, hy2]; omega, by simp [mu]; omega, by simp [mu]; omega, ?_, ?_, ?_⟩
                · intro z hz
                  simp [mu, hy2] at hz ⊢
                  simp [e1 z (by omega)]
                  exact a4 z hz
                · intro z hz
                  simp only [mu, Nat.reduceEqDiff, true_and, and_true, false_and, and_false, if_true, if_false, eq_self, and_self, Nat.reduceLT, Nat.reduceLeDiff, Nat.reduceAdd, Nat.reduceMul, Nat.reduceDiv, Nat.one_ne_zero] at hz
                  obtain ⟨b1, b2, b3⟩ := a5 z hz
                  have hne := e1 _ (by omega : m 28 (4 * y + z) < 3)
                  refine ⟨by simp [mu, hy2]; omega, ?_, by simpa [mu] using b3.1, by simpa [mu] using b3.2⟩
                  simpa [mu, tq, hne] using b2
                · intro z hz
                  simp only [mu, Nat.reduceEqDiff, true_and, and_true, false_and, and_false, if_true, if_false, eq_self, and_self, Nat.reduceLT, Nat.reduceLeDiff, Nat.reduceAdd, Nat.reduceMul, Nat.reduceDiv, Nat.one_ne_zero] at hz
                  obtain ⟨b1, b2, b3, b4, b5⟩ := a6 z hz
                  have hne1 := e1 _ (by omega : m 33 (3 * y + z) < 3)
                  have hne2 := e1 _ (by omega : m 35 (3 * y + z) < 3)
                  refine ⟨by simp [mu, hy2]; omega, ?_, by simp [mu, hy2]; omega, ?_, by simpa [mu] using b5⟩
                  · simpa [mu, tq, hne1] using b2
                  · simpa [mu, tq, hne2] using b4
          · simp (disch := decide) only [WD_mu]; exact WD_close (WD_up WD' hk)
    · simp (disch := omega) only [z_L_from, z_X11_from, z_X12_from, c_needQ CQ' WQ' hq, c_needTO C0' CT' WT' hp2, r_isQ R0 WQ' hq, r_isTO R0 WT' hp2, u_br_True, u_br_False, u_jn_u, u_lt_u, u_nn_s, u_brn_s, u_brn_n, nI_add, u_n_mul, u_n_lt, u_n_le, u_n_eq, u_n_sub, u_n_div, u_n_mod, nI_clamp, u_m1, u_m1q, u_wI_n, u_wA_n, u_br_t, u_br_f, ↓li_m1, li_0, li_1, li_2, li_3, li_4, li_5, li_6, li_7, li_8, li_9, li_10, li_12, li_13, li_26, li_40, li_60, li_61, li_62, li_99, li_100, li_102, li_106, li_114, li_112, li_117, li_108, li_103, li_120, li_300, li_360, li_512, li_1000, b10, b00, f_0, f_1, u_okT, u_nb_0, u_nb_1, Nat.reduceEqDiff, true_and, and_true, false_and, and_false, if_true, if_false, eq_self, and_self, Nat.reduceLT, Nat.reduceLeDiff, Nat.reduceAdd, Nat.reduceMul, Nat.reduceDiv, Nat.one_ne_zero]
      exact Or.inl (hT _ _ _ (G_exc (c := 1) I0 hk (by decide) (by decide)))
  · simp (disch := omega) only [z_L_from, z_X11_from, z_X12_from, c_needQO CQ' WQ' hp, r_isQO R0 WQ' hp, u_br_True, u_br_False, u_jn_u, u_lt_u, u_nn_s, u_brn_s, u_brn_n, nI_add, u_n_mul, u_n_lt, u_n_le, u_n_eq, u_n_sub, u_n_div, u_n_mod, nI_clamp, u_m1, u_m1q, u_wI_n, u_wA_n, u_br_t, u_br_f, ↓li_m1, li_0, li_1, li_2, li_3, li_4, li_5, li_6, li_7, li_8, li_9, li_10, li_12, li_13, li_26, li_40, li_60, li_61, li_62, li_99, li_100, li_102, li_106, li_114, li_112, li_117, li_108, li_103, li_120, li_300, li_360, li_512, li_1000, b10, b00, f_0, f_1, u_okT, u_nb_0, u_nb_1, Nat.reduceEqDiff, true_and, and_true, false_and, and_false, if_true, if_false, eq_self, and_self, Nat.reduceLT, Nat.reduceLeDiff, Nat.reduceAdd, Nat.reduceMul, Nat.reduceDiv, Nat.one_ne_zero]
    exact Or.inl (hT _ _ _ (G_exc (c := 1) I0 hk (by decide) (by decide)))
end FROM
