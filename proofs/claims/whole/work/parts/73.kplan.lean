section KPLAN
variable {m : Nat → Nat → Nat} {u w : Nat → Int32} {L : List Nat} {σ σ' s s2 : St} {N kk n q p d ban : Nat}
theorem KPl.kt (h : KPl 2 σ s) : KT σ s := ⟨fun k i f j _ h2 h3 _ => h.1 k i f j h3 (fun e => by rcases h2 with h2 | h2 | h2 <;> omega), fun k i f j _ => by rw [h.2.2.1], fun i => by rw [h.2.2.1], h.2.2.2.2⟩
theorem KPl.km (h : KPl 2 σ s) : KM σ s := fun i f j => h.1 12 i f j (by decide) (fun e => absurd e.1 (by decide))
theorem finPl (C : CA m u w L σ) (R : RI m u w L σ) (W : WA m u L kk) (hk : kk < 512) (k : KPl 2 σ s) {x : Int64} (kf : KF fall (stP (stL s 13 0 0 0 x) 12 0 0 0 (nI 0)) s2) : Inv (kk + 1) s2 ∧ sP s2 12 0 0 0 = nI 0 ∧ sL_ s2 13 0 0 0 = x := by
  have C1 : CA m u w L s := C.kt k.kt
  have C2 : CA m u w L (stL s 13 0 0 0 x) := C1
  have R1 : RI m u w L (stL s 13 0 0 0 x) := (R.km k.km).km KM.stL
  refine ⟨Inv.mk ((R1.tmp rfl).kf kf (fun f hf => ?_)) ((C2.km KC.st).km kf.kc) ⟨W.1, W.2.1, W.2.2.1, W.2.2.2.1, WD_up W.2.2.2.2 hk⟩, ?_, ?_⟩
  · obtain ⟨h1, h2⟩ := hf
    have : f = 39 ∨ f = 40 ∨ f = 41 ∨ f = 42 ∨ f = 43 ∨ f = 44 ∨ f = 45 := by omega
    rcases this with rfl | rfl | rfl | rfl | rfl | rfl | rfl <;> rfl
  · rw [kf.ff (fun h => by have := h.1; omega)]
    simp only [sP_stP, Nat.reduceEqDiff, true_and, and_true, false_and, and_false, if_true, if_false, eq_self, and_self, Nat.reduceLT, Nat.reduceLeDiff, Nat.reduceAdd, Nat.reduceMul, Nat.reduceDiv, Nat.one_ne_zero]
  · rw [kf.2.1]
    simp only [sL_stP, sL_stL, Nat.reduceEqDiff, true_and, and_true, false_and, and_false, if_true, if_false, eq_self, and_self, Nat.reduceLT, Nat.reduceLeDiff, Nat.reduceAdd, Nat.reduceMul, Nat.reduceDiv, Nat.one_ne_zero]
theorem c_needPlaceT (hN : 1000000 ≤ N) (C : CA m u w L σ) (W : WA m u L kk) (hd : d < 2) (hq : q < m 24 0) (hp : p < m 25 q) {K : Option Nat → St → Prop} {KX : String → St → Prop}
    (h : ∀ s, KPl 2 σ s → PL m q (m 46 d) d s 2 → K (some 2) s) : z_X11_needPlace N 0 (nI d) (nI q) (nI p) σ K KX := by
  obtain ⟨C0', CT', CX', CC', CQ', CD', CP'⟩ := C
  obtain ⟨WT', WX', WC', WQ', WD'⟩ := W
  have hC := C0'
  unfold C0 at hC
  have w3 := (WQ'.2.2 q hq).1
  have e1 := (CQ'.2.2.2 q hq).1
  have e2 := CD'.2.1 d hd
  have hb := (WD'.1 d hd).1
  simp (disch := omega) only [z_X11_needPlace, c_D hd, c_needQ CQ' WQ' hq, z_X7_hasPosition, z_X2_bansFor, u_br_True, u_br_False, u_jn_u, u_lt_u, u_nn_s, u_brn_s, u_brn_n, nI_add, u_n_mul, u_n_lt, u_n_le, u_n_eq, u_n_sub, u_n_div, u_n_mod, nI_clamp, u_m1, u_m1q, u_wI_n, u_wA_n, u_br_t, u_br_f, ↓li_m1, li_0, li_1, li_2, li_3, li_4, li_5, li_6, li_7, li_8, li_9, li_10, li_12, li_13, li_26, li_40, li_60, li_61, li_62, li_99, li_100, li_102, li_106, li_114, li_112, li_117, li_108, li_103, li_120, li_300, li_360, li_512, li_1000, e1, e2, hC, b10, b00, f_0, f_1, u_okT, u_nb_0, u_nb_1]
  refine c_draw hN ⟨C0', CT', CX', CQ'⟩ WQ' WX' WT' hq hb hd (by decide) (fun s k1 p1 _ => ?_)
  have e7 : sQ s 11 0 7 0 = some 2 := by rw [k1.2.2.1]; exact hC.2.2.2.2.2.1
  simp only [e7, u_br_True, u_br_False, u_jn_u, u_lt_u, u_nn_s, u_brn_s, u_brn_n]
  exact h s k1 p1
theorem c_needPlace1 {p1 p2 p3 : Int32} (h : Out p1 2) {K : Option Nat → St → Prop} {KX : String → St → Prop} : z_X11_needPlace N 0 p1 p2 p3 σ K KX = KX "java/lang/IllegalArgumentException" σ := by
  simp only [z_X11_needPlace, c_DO h]
theorem c_needPlace2 {p2 p3 : Int32} (CQ' : CQ m σ) (WQ' : WQ m) (hd : d < 2) (h : Out p2 (m 24 0)) {K : Option Nat → St → Prop} {KX : String → St → Prop} : z_X11_needPlace N 0 (nI d) p2 p3 σ K KX = KX "java/lang/IndexOutOfBoundsException" σ := by
  simp only [z_X11_needPlace, c_D hd, c_needQO CQ' WQ' h]
theorem c_needPlace3 {p3 : Int32} (CQ' : CQ m σ) (WQ' : WQ m) (hd : d < 2) (hq : q < m 24 0) (h : Out p3 (m 25 q)) {K : Option Nat → St → Prop} {KX : String → St → Prop} : z_X11_needPlace N 0 (nI d) (nI q) p3 σ K KX = KX "java/util/NoSuchElementException" σ := by
  have w3 := (WQ'.2.2 q hq).1
  have e1 := (CQ'.2.2.2 q hq).1
  rcases h with h | ⟨a, ha, h2, rfl⟩
  · simp (disch := omega) only [z_X11_needPlace, c_D hd, c_needQ CQ' WQ' hq, z_X7_hasPosition, u_br_True, u_br_False, u_jn_u, u_lt_u, u_nn_s, u_brn_s, u_brn_n, nI_add, u_n_mul, u_n_lt, u_n_le, u_n_eq, u_n_sub, u_n_div, u_n_mod, nI_clamp, u_m1, u_m1q, u_wI_n, u_wA_n, u_br_t, u_br_f, ↓li_m1, li_0, li_1, li_2, li_3, li_4, li_5, li_6, li_7, li_8, li_9, li_10, li_12, li_13, li_26, li_40, li_60, li_61, li_62, li_99, li_100, li_102, li_106, li_114, li_112, li_117, li_108, li_103, li_120, li_300, li_360, li_512, li_1000, e1, h, b10, b00, f_0, f_1, u_okT, u_nb_0, u_nb_1]
  · simp (disch := omega) only [z_X11_needPlace, c_D hd, c_needQ CQ' WQ' hq, z_X7_hasPosition, u_br_True, u_br_False, u_jn_u, u_lt_u, u_nn_s, u_brn_s, u_brn_n, nI_add, u_n_mul, u_n_lt, u_n_le, u_n_eq, u_n_sub, u_n_div, u_n_mod, nI_clamp, u_m1, u_m1q, u_wI_n, u_wA_n, u_br_t, u_br_f, ↓li_m1, li_0, li_1, li_2, li_3, li_4, li_5, li_6, li_7, li_8, li_9, li_10, li_12, li_13, li_26, li_40, li_60, li_61, li_62, li_99, li_100, li_102, li_106, li_114, li_112, li_117, li_108, li_103, li_120, li_300, li_360, li_512, li_1000, e1, b10, b00, f_0, f_1, u_okT, u_nb_0, u_nb_1]
theorem r_noPlaceT (R : RI m u w L (stP σ 12 0 0 0 (nI 0))) (W : WQ m) (hd : d < 2) (hq : q < m 24 0) (hp : p < m 25 q) {K : Int32 → St → Prop} : z_X12_noPlace N 0 (nI d) (nI q) (nI p) (stP σ 12 0 0 0 (nI 0)) K = K (nI 0) (stP σ 12 0 0 0 (nI 0)) := by
  have w1 := W.1
  have w3 := (W.2.2 q hq).1
  simp (disch := omega) only [z_X12_noPlace, u_br_True, u_br_False, u_jn_u, u_lt_u, u_nn_s, u_brn_s, u_brn_n, nI_add, u_n_mul, u_n_lt, u_n_le, u_n_eq, u_n_sub, u_n_div, u_n_mod, nI_clamp, u_m1, u_m1q, u_wI_n, u_wA_n, u_br_t, u_br_f, ↓li_m1, li_0, li_1, li_2, li_3, li_4, li_5, li_6, li_7, li_8, li_9, li_10, li_12, li_13, li_26, li_40, li_60, li_61, li_62, li_99, li_100, li_102, li_106, li_114, li_112, li_117, li_108, li_103, li_120, li_300, li_360, li_512, li_1000, r_inT, r_inL, r_inH, r_inPT, r_inPF, b10, b00, f_0, f_1, u_okT, u_nb_0, u_nb_1, r_isQ R W hq, (fun j => R.r 25 j rfl)]
theorem r_noPlace1 {p1 p2 p3 : Int32} (h : Out p1 2) {K : Int32 → St → Prop} : z_X12_noPlace N 0 p1 p2 p3 (stP σ 12 0 0 0 (nI 0)) K = K (nI 1) (stP σ 12 0 0 0 (nI 1)) := by
  simp (disch := omega) only [z_X12_noPlace, u_br_True, u_br_False, u_jn_u, u_lt_u, u_nn_s, u_brn_s, u_brn_n, nI_add, u_n_mul, u_n_lt, u_n_le, u_n_eq, u_n_sub, u_n_div, u_n_mod, nI_clamp, u_m1, u_m1q, u_wI_n, u_wA_n, u_br_t, u_br_f, ↓li_m1, li_0, li_1, li_2, li_3, li_4, li_5, li_6, li_7, li_8, li_9, li_10, li_12, li_13, li_26, li_40, li_60, li_61, li_62, li_99, li_100, li_102, li_106, li_114, li_112, li_117, li_108, li_103, li_120, li_300, li_360, li_512, li_1000, r_inO2 h, b10, b00, f_0, f_1, u_okT, u_nb_0, u_nb_1]
theorem r_noPlace2 {p2 p3 : Int32} (R : RI m u w L (stP σ 12 0 0 0 (nI 0))) (W : WQ m) (hd : d < 2) (h : Out p2 (m 24 0)) {K : Int32 → St → Prop} : z_X12_noPlace N 0 (nI d) p2 p3 (stP σ 12 0 0 0 (nI 0)) K = K (nI 1) (stP σ 12 0 0 0 (nI 2)) := by
  simp (disch := omega) only [z_X12_noPlace, u_br_True, u_br_False, u_jn_u, u_lt_u, u_nn_s, u_brn_s, u_brn_n, nI_add, u_n_mul, u_n_lt, u_n_le, u_n_eq, u_n_sub, u_n_div, u_n_mod, nI_clamp, u_m1, u_m1q, u_wI_n, u_wA_n, u_br_t, u_br_f, ↓li_m1, li_0, li_1, li_2, li_3, li_4, li_5, li_6, li_7, li_8, li_9, li_10, li_12, li_13, li_26, li_40, li_60, li_61, li_62, li_99, li_100, li_102, li_106, li_114, li_112, li_117, li_108, li_103, li_120, li_300, li_360, li_512, li_1000, r_inT, r_inL, r_inH, r_inPT, r_inPF, r_isQO R W h, b10, b00, f_0, f_1, u_okT, u_nb_0, u_nb_1]
theorem r_noPlace3 {p3 : Int32} (R : RI m u w L (stP σ 12 0 0 0 (nI 0))) (W : WQ m) (hd : d < 2) (hq : q < m 24 0) (h : Out p3 (m 25 q)) {K : Int32 → St → Prop} : z_X12_noPlace N 0 (nI d) (nI q) p3 (stP σ 12 0 0 0 (nI 0)) K = K (nI 1) (stP σ 12 0 0 0 (nI 3)) := by
  have w1 := W.1
  have w3 := (W.2.2 q hq).1
  simp (disch := omega) only [z_X12_noPlace, u_br_True, u_br_False, u_jn_u, u_lt_u, u_nn_s, u_brn_s, u_brn_n, nI_add, u_n_mul, u_n_lt, u_n_le, u_n_eq, u_n_sub, u_n_div, u_n_mod, nI_clamp, u_m1, u_m1q, u_wI_n, u_wA_n, u_br_t, u_br_f, ↓li_m1, li_0, li_1, li_2, li_3, li_4, li_5, li_6, li_7, li_8, li_9, li_10, li_12, li_13, li_26, li_40, li_60, li_61, li_62, li_99, li_100, li_102, li_106, li_114, li_112, li_117, li_108, li_103, li_120, li_300, li_360, li_512, li_1000, r_inT, r_inL, r_inH, r_inPT, r_inPF, b10, b00, f_0, f_1, u_okT, u_nb_0, u_nb_1, r_isQ R W hq, (fun j => R.r 25 j rfl), r_inO h]
theorem k_planned (hN : 1000000 ≤ N) (I : Inv kk σ) (hk : kk < 512) (p1 p2 p3 : Int32) {T : Int32 → Int32 → St → Prop} (hT : ∀ code b σ2, G (kk + 1) code b σ2 → T code b σ2) : z_L_planned N (some 0) p1 p2 p3 σ (fun code σ1 => z_X12_planned N 0 p1 p2 p3 σ1 (fun b σ2 => T code b σ2)) := by
  have I0 := I
  obtain ⟨m, u, w, L, R, C, W⟩ := I
  have CQ' := C.2.2.2.2.1
  have WQ' := W.2.2.2.1
  have R0 : RI m u w L (stP σ 12 0 0 0 (nI 0)) := R.tmp rfl
  rcases u_io p1 2 with ⟨d, hd, _, rfl⟩ | hp1
  · rcases u_io p2 (m 24 0) with ⟨q, hq, _, rfl⟩ | hp2
    · have w3 := (WQ'.2.2 q hq).1
      rcases u_io p3 (m 25 q) with ⟨p, hp, _, rfl⟩ | hp3
      · simp only [z_L_planned, z_X11_planned, u_br_True, u_br_False, u_jn_u, u_lt_u, u_nn_s, u_brn_s, u_brn_n]
        refine c_needPlaceT hN C W hd hq hp (fun s k1 P1 => ?_)
        simp (disch := omega) only [z_X5_positionAt, u_br_True, u_br_False, u_jn_u, u_lt_u, u_nn_s, u_brn_s, u_brn_n, nI_add, u_n_mul, u_n_lt, u_n_le, u_n_eq, u_n_sub, u_n_div, u_n_mod, nI_clamp, u_m1, u_m1q, u_wI_n, u_wA_n, u_br_t, u_br_f, ↓li_m1, li_0, li_1, li_2, li_3, li_4, li_5, li_6, li_7, li_8, li_9, li_10, li_12, li_13, li_26, li_40, li_60, li_61, li_62, li_99, li_100, li_102, li_106, li_114, li_112, li_117, li_108, li_103, li_120, li_300, li_360, li_512, li_1000, (P1.2 p hp).1, wA_l, l0c, z_X12_planned]
        have R2 : RI m u w L (stP (stL s 13 0 0 0 (nI (plO m q (m 46 d) d p)).toInt64) 12 0 0 0 (nI 0)) := ((R.km k1.km).km KM.stL).tmp rfl
        simp (disch := omega) only [r_noPlaceT R2 WQ' hd hq hp, u_br_True, u_br_False, u_jn_u, u_lt_u, u_nn_s, u_brn_s, u_brn_n, nI_add, u_n_mul, u_n_lt, u_n_le, u_n_eq, u_n_sub, u_n_div, u_n_mod, nI_clamp, u_m1, u_m1q, u_wI_n, u_wA_n, u_br_t, u_br_f, ↓li_m1, li_0, li_1, li_2, li_3, li_4, li_5, li_6, li_7, li_8, li_9, li_10, li_12, li_13, li_26, li_40, li_60, li_61, li_62, li_99, li_100, li_102, li_106, li_114, li_112, li_117, li_108, li_103, li_120, li_300, li_360, li_512, li_1000, b10, b00, f_0, f_1, u_okT, u_nb_0, u_nb_1, R2.r 46 d rfl]
        refine r_plans hN R2 WQ' W.2.1 W.1 hq (by omega) (W.2.2.2.2.1 d hd).1 hd (fun s2 kf pr => ?_)
        simp (disch := omega) only [nI_add, u_n_mul, u_n_lt, u_n_le, u_n_eq, u_n_sub, u_n_div, u_n_mod, nI_clamp, u_m1, u_m1q, u_wI_n, u_wA_n, u_br_t, u_br_f, u_br_True, u_br_False, u_jn_u, u_lt_u, u_nn_s, u_brn_s, u_brn_n, (pr p hp).1]
        obtain ⟨f1, f2, f3⟩ := finPl C R W hk k1 kf
        exact hT _ _ _ (G_ok f1 f2 f3)
      · simp (disch := omega) only [z_L_planned, z_X11_planned, z_X12_planned, c_needPlace3 CQ' WQ' hd hq hp3, r_noPlace3 R0 WQ' hd hq hp3, u_br_True, u_br_False, u_jn_u, u_lt_u, u_nn_s, u_brn_s, u_brn_n, ↓li_m1, li_0, li_1, li_2, li_3, li_4, li_5, li_6, li_7, li_8, li_9, li_10, li_12, li_13, li_26, li_40, li_60, li_61, li_62, li_99, li_100, li_102, li_106, li_114, li_112, li_117, li_108, li_103, li_120, li_300, li_360, li_512, li_1000, b10, b00, f_0, f_1, u_okT, u_nb_0, u_nb_1, Nat.reduceEqDiff, true_and, and_true, false_and, and_false, if_true, if_false, eq_self, and_self, Nat.reduceLT, Nat.reduceLeDiff, Nat.reduceAdd, Nat.reduceMul, Nat.reduceDiv, Nat.one_ne_zero]
        exact Or.inr (Or.inr (hT _ _ _ (G_exc (c := 3) I0 hk (by decide) (by decide))))
    · simp (disch := omega) only [z_L_planned, z_X11_planned, z_X12_planned, c_needPlace2 CQ' WQ' hd hp2, r_noPlace2 R0 WQ' hd hp2, u_br_True, u_br_False, u_jn_u, u_lt_u, u_nn_s, u_brn_s, u_brn_n, ↓li_m1, li_0, li_1, li_2, li_3, li_4, li_5, li_6, li_7, li_8, li_9, li_10, li_12, li_13, li_26, li_40, li_60, li_61, li_62, li_99, li_100, li_102, li_106, li_114, li_112, li_117, li_108, li_103, li_120, li_300, li_360, li_512, li_1000, b10, b00, f_0, f_1, u_okT, u_nb_0, u_nb_1, Nat.reduceEqDiff, true_and, and_true, false_and, and_false, if_true, if_false, eq_self, and_self, Nat.reduceLT, Nat.reduceLeDiff, Nat.reduceAdd, Nat.reduceMul, Nat.reduceDiv, Nat.one_ne_zero]
      exact Or.inr (Or.inl (hT _ _ _ (G_exc (c := 2) I0 hk (by decide) (by decide))))
  · simp (disch := omega) only [z_L_planned, z_X11_planned, z_X12_planned, c_needPlace1 hp1, r_noPlace1 hp1, u_br_True, u_br_False, u_jn_u, u_lt_u, u_nn_s, u_brn_s, u_brn_n, ↓li_m1, li_0, li_1, li_2, li_3, li_4, li_5, li_6, li_7, li_8, li_9, li_10, li_12, li_13, li_26, li_40, li_60, li_61, li_62, li_99, li_100, li_102, li_106, li_114, li_112, li_117, li_108, li_103, li_120, li_300, li_360, li_512, li_1000, b10, b00, f_0, f_1, u_okT, u_nb_0, u_nb_1, Nat.reduceEqDiff, true_and, and_true, false_and, and_false, if_true, if_false, eq_self, and_self, Nat.reduceLT, Nat.reduceLeDiff, Nat.reduceAdd, Nat.reduceMul, Nat.reduceDiv, Nat.one_ne_zero]
    exact Or.inl (hT _ _ _ (G_exc (c := 1) I0 hk (by decide) (by decide)))
theorem k_usedIndex (hN : 1000000 ≤ N) (I : Inv kk σ) (hk : kk < 512) (p1 p2 p3 : Int32) {T : Int32 → Int32 → St → Prop} (hT : ∀ code b σ2, G (kk + 1) code b σ2 → T code b σ2) : z_L_usedIndex N (some 0) p1 p2 p3 σ (fun code σ1 => z_X12_usedIndex N 0 p1 p2 p3 σ1 (fun b σ2 => T code b σ2)) := by
  have I0 := I
  obtain ⟨m, u, w, L, R, C, W⟩ := I
  have CQ' := C.2.2.2.2.1
  have WQ' := W.2.2.2.1
  have R0 : RI m u w L (stP σ 12 0 0 0 (nI 0)) := R.tmp rfl
  rcases u_io p1 2 with ⟨d, hd, _, rfl⟩ | hp1
  · rcases u_io p2 (m 24 0) with ⟨q, hq, _, rfl⟩ | hp2
    · have w3 := (WQ'.2.2 q hq).1
      rcases u_io p3 (m 25 q) with ⟨p, hp, _, rfl⟩ | hp3
      · simp only [z_L_usedIndex, z_X11_usedIndex, u_br_True, u_br_False, u_jn_u, u_lt_u, u_nn_s, u_brn_s, u_brn_n]
        refine c_needPlaceT hN C W hd hq hp (fun s k1 P1 => ?_)
        simp (disch := omega) only [z_X5_indexAt, u_br_True, u_br_False, u_jn_u, u_lt_u, u_nn_s, u_brn_s, u_brn_n, nI_add, u_n_mul, u_n_lt, u_n_le, u_n_eq, u_n_sub, u_n_div, u_n_mod, nI_clamp, u_m1, u_m1q, u_wI_n, u_wA_n, u_br_t, u_br_f, ↓li_m1, li_0, li_1, li_2, li_3, li_4, li_5, li_6, li_7, li_8, li_9, li_10, li_12, li_13, li_26, li_40, li_60, li_61, li_62, li_99, li_100, li_102, li_106, li_114, li_112, li_117, li_108, li_103, li_120, li_300, li_360, li_512, li_1000, (P1.2 p hp).2.2.2.2, wA_l, l0c, z_X12_usedIndex]
        have R2 : RI m u w L (stP (stL s 13 0 0 0 (oI (plI m q (m 46 d) d p)).toInt64) 12 0 0 0 (nI 0)) := ((R.km k1.km).km KM.stL).tmp rfl
        simp (disch := omega) only [r_noPlaceT R2 WQ' hd hq hp, u_br_True, u_br_False, u_jn_u, u_lt_u, u_nn_s, u_brn_s, u_brn_n, nI_add, u_n_mul, u_n_lt, u_n_le, u_n_eq, u_n_sub, u_n_div, u_n_mod, nI_clamp, u_m1, u_m1q, u_wI_n, u_wA_n, u_br_t, u_br_f, ↓li_m1, li_0, li_1, li_2, li_3, li_4, li_5, li_6, li_7, li_8, li_9, li_10, li_12, li_13, li_26, li_40, li_60, li_61, li_62, li_99, li_100, li_102, li_106, li_114, li_112, li_117, li_108, li_103, li_120, li_300, li_360, li_512, li_1000, b10, b00, f_0, f_1, u_okT, u_nb_0, u_nb_1, R2.r 46 d rfl]
        refine r_plans hN R2 WQ' W.2.1 W.1 hq (by omega) (W.2.2.2.2.1 d hd).1 hd (fun s2 kf pr => ?_)
        simp (disch := omega) only [nI_add, u_n_mul, u_n_lt, u_n_le, u_n_eq, u_n_sub, u_n_div, u_n_mod, nI_clamp, u_m1, u_m1q, u_wI_n, u_wA_n, u_br_t, u_br_f, u_br_True, u_br_False, u_jn_u, u_lt_u, u_nn_s, u_brn_s, u_brn_n, (pr p hp).2.2]
        obtain ⟨f1, f2, f3⟩ := finPl C R W hk k1 kf
        exact hT _ _ _ (G_ok f1 f2 f3)
      · simp (disch := omega) only [z_L_usedIndex, z_X11_usedIndex, z_X12_usedIndex, c_needPlace3 CQ' WQ' hd hq hp3, r_noPlace3 R0 WQ' hd hq hp3, u_br_True, u_br_False, u_jn_u, u_lt_u, u_nn_s, u_brn_s, u_brn_n, ↓li_m1, li_0, li_1, li_2, li_3, li_4, li_5, li_6, li_7, li_8, li_9, li_10, li_12, li_13, li_26, li_40, li_60, li_61, li_62, li_99, li_100, li_102, li_106, li_114, li_112, li_117, li_108, li_103, li_120, li_300, li_360, li_512, li_1000, b10, b00, f_0, f_1, u_okT, u_nb_0, u_nb_1, Nat.reduceEqDiff, true_and, and_true, false_and, and_false, if_true, if_false, eq_self, and_self, Nat.reduceLT, Nat.reduceLeDiff, Nat.reduceAdd, Nat.reduceMul, Nat.reduceDiv, Nat.one_ne_zero]
        exact Or.inr (Or.inr (hT _ _ _ (G_exc (c := 3) I0 hk (by decide) (by decide))))
    · simp (disch := omega) only [z_L_usedIndex, z_X11_usedIndex, z_X12_usedIndex, c_needPlace2 CQ' WQ' hd hp2, r_noPlace2 R0 WQ' hd hp2, u_br_True, u_br_False, u_jn_u, u_lt_u, u_nn_s, u_brn_s, u_brn_n, ↓li_m1, li_0, li_1, li_2, li_3, li_4, li_5, li_6, li_7, li_8, li_9, li_10, li_12, li_13, li_26, li_40, li_60, li_61, li_62, li_99, li_100, li_102, li_106, li_114, li_112, li_117, li_108, li_103, li_120, li_300, li_360, li_512, li_1000, b10, b00, f_0, f_1, u_okT, u_nb_0, u_nb_1, Nat.reduceEqDiff, true_and, and_true, false_and, and_false, if_true, if_false, eq_self, and_self, Nat.reduceLT, Nat.reduceLeDiff, Nat.reduceAdd, Nat.reduceMul, Nat.reduceDiv, Nat.one_ne_zero]
      exact Or.inr (Or.inl (hT _ _ _ (G_exc (c := 2) I0 hk (by decide) (by decide))))
  · simp (disch := omega) only [z_L_usedIndex, z_X11_usedIndex, z_X12_usedIndex, c_needPlace1 hp1, r_noPlace1 hp1, u_br_True, u_br_False, u_jn_u, u_lt_u, u_nn_s, u_brn_s, u_brn_n, ↓li_m1, li_0, li_1, li_2, li_3, li_4, li_5, li_6, li_7, li_8, li_9, li_10, li_12, li_13, li_26, li_40, li_60, li_61, li_62, li_99, li_100, li_102, li_106, li_114, li_112, li_117, li_108, li_103, li_120, li_300, li_360, li_512, li_1000, b10, b00, f_0, f_1, u_okT, u_nb_0, u_nb_1, Nat.reduceEqDiff, true_and, and_true, false_and, and_false, if_true, if_false, eq_self, and_self, Nat.reduceLT, Nat.reduceLeDiff, Nat.reduceAdd, Nat.reduceMul, Nat.reduceDiv, Nat.one_ne_zero]
    exact Or.inl (hT _ _ _ (G_exc (c := 1) I0 hk (by decide) (by decide)))
theorem k_way (hN : 1000000 ≤ N) (I : Inv kk σ) (hk : kk < 512) (p1 p2 p3 : Int32) {T : Int32 → Int32 → St → Prop} (hT : ∀ code b σ2, G (kk + 1) code b σ2 → T code b σ2) : z_L_way N (some 0) p1 p2 p3 σ (fun code σ1 => z_X12_way N 0 p1 p2 p3 σ1 (fun b σ2 => T code b σ2)) := by
  have I0 := I
  obtain ⟨m, u, w, L, R, C, W⟩ := I
  have CQ' := C.2.2.2.2.1
  have WQ' := W.2.2.2.1
  have R0 : RI m u w L (stP σ 12 0 0 0 (nI 0)) := R.tmp rfl
  have n32 : (narrow .char (.int 32) = .int 32) = True := eq_true rfl
  have n102 : (narrow .char (.int (nI 102)) = .int (nI 102)) = True := eq_true rfl
  have n106 : (narrow .char (.int (nI 106)) = .int (nI 106)) = True := eq_true rfl
  have n99 : (narrow .char (.int (nI 99)) = .int (nI 99)) = True := eq_true rfl
  have n32' : (narrow .char (.int (nI 32)) = .int (nI 32)) = True := eq_true rfl
  have li_5' : (5 : Int32) = nI 5 := rfl
  rcases u_io p1 2 with ⟨d, hd, _, rfl⟩ | hp1
  · rcases u_io p2 (m 24 0) with ⟨q, hq, _, rfl⟩ | hp2
    · have w3 := (WQ'.2.2 q hq).1
      rcases u_io p3 (m 25 q) with ⟨p, hp, _, rfl⟩ | hp3
      · simp only [z_L_way, z_X11_way, u_br_True, u_br_False, u_jn_u, u_lt_u, u_nn_s, u_brn_s, u_brn_n]
        refine c_needPlaceT hN C W hd hq hp (fun s k1 P1 => ?_)
        have hw8 : plW m q (m 46 d) d p < 8 := by
          unfold plW
          split
          · exact (bway_ok (by omega)).1
          · exact gway_spec.1.1
        simp (disch := omega) only [z_X5_wayAt, u_br_True, u_br_False, u_jn_u, u_lt_u, u_nn_s, u_brn_s, u_brn_n, nI_add, u_n_mul, u_n_lt, u_n_le, u_n_eq, u_n_sub, u_n_div, u_n_mod, nI_clamp, u_m1, u_m1q, u_wI_n, u_wA_n, u_br_t, u_br_f, ↓li_m1, li_0, li_1, li_2, li_3, li_4, li_5, li_6, li_7, li_8, li_9, li_10, li_12, li_13, li_26, li_40, li_60, li_61, li_62, li_99, li_100, li_102, li_106, li_114, li_112, li_117, li_108, li_103, li_120, li_300, li_360, li_512, li_1000, (P1.2 p hp).2.2.1, wA_l, l0c, z_X12_way, nc_wCh, eq_self, u_okT]
        have R2 : RI m u w L (stP (stL s 13 0 0 0 (nI (wCh (plW m q (m 46 d) d p))).toInt64) 12 0 0 0 (nI 0)) := ((R.km k1.km).km KM.stL).tmp rfl
        simp (disch := omega) only [r_noPlaceT R2 WQ' hd hq hp, u_br_True, u_br_False, u_jn_u, u_lt_u, u_nn_s, u_brn_s, u_brn_n, nI_add, u_n_mul, u_n_lt, u_n_le, u_n_eq, u_n_sub, u_n_div, u_n_mod, nI_clamp, u_m1, u_m1q, u_wI_n, u_wA_n, u_br_t, u_br_f, ↓li_m1, li_0, li_1, li_2, li_3, li_4, li_5, li_6, li_7, li_8, li_9, li_10, li_12, li_13, li_26, li_40, li_60, li_61, li_62, li_99, li_100, li_102, li_106, li_114, li_112, li_117, li_108, li_103, li_120, li_300, li_360, li_512, li_1000, b10, b00, f_0, f_1, u_okT, u_nb_0, u_nb_1, R2.r 46 d rfl]
        refine r_plans hN R2 WQ' W.2.1 W.1 hq (by omega) (W.2.2.2.2.1 d hd).1 hd (fun s2 kf pr => ?_)
        obtain ⟨f1, f2, f3⟩ := finPl C R W hk k1 kf
        simp (disch := omega) only [nI_add, u_n_mul, u_n_lt, u_n_le, u_n_eq, u_n_sub, u_n_div, u_n_mod, nI_clamp, u_m1, u_m1q, u_wI_n, u_wA_n, u_br_t, u_br_f, u_br_True, u_br_False, u_jn_u, u_lt_u, u_nn_s, u_brn_s, u_brn_n, (pr p hp).2.1, n102, n106, n99, u_okT, li_5']
        by_cases h0 : plW m q (m 46 d) d p = 0
        · rw [u_br_t h0]
          refine hT _ _ _ (G_ok f1 f2 (f3.trans ?_))
          rw [h0]; rfl
        · rw [u_br_f h0]
          by_cases h5 : 5 ≤ plW m q (m 46 d) d p
          · rw [u_br_t h5]
            refine hT _ _ _ (G_ok f1 f2 (f3.trans ?_))
            unfold wCh
            rw [if_neg h0, if_neg (by omega)]
          · rw [u_br_f h5]
            refine hT _ _ _ (G_ok f1 f2 (f3.trans ?_))
            unfold wCh
            rw [if_neg h0, if_pos (by omega)]
      · simp (disch := omega) only [z_L_way, z_X11_way, z_X12_way, c_needPlace3 CQ' WQ' hd hq hp3, r_noPlace3 R0 WQ' hd hq hp3, u_br_True, u_br_False, u_jn_u, u_lt_u, u_nn_s, u_brn_s, u_brn_n, ↓li_m1, li_0, li_1, li_2, li_3, li_4, li_5, li_6, li_7, li_8, li_9, li_10, li_12, li_13, li_26, li_40, li_60, li_61, li_62, li_99, li_100, li_102, li_106, li_114, li_112, li_117, li_108, li_103, li_120, li_300, li_360, li_512, li_1000, n32, n32', u_okT, b10, b00, f_0, f_1, u_okT, u_nb_0, u_nb_1, Nat.reduceEqDiff, true_and, and_true, false_and, and_false, if_true, if_false, eq_self, and_self, Nat.reduceLT, Nat.reduceLeDiff, Nat.reduceAdd, Nat.reduceMul, Nat.reduceDiv, Nat.one_ne_zero]
        exact Or.inr (Or.inr (hT _ _ _ (G_exc (c := 3) I0 hk (by decide) (by decide))))
    · simp (disch := omega) only [z_L_way, z_X11_way, z_X12_way, c_needPlace2 CQ' WQ' hd hp2, r_noPlace2 R0 WQ' hd hp2, u_br_True, u_br_False, u_jn_u, u_lt_u, u_nn_s, u_brn_s, u_brn_n, ↓li_m1, li_0, li_1, li_2, li_3, li_4, li_5, li_6, li_7, li_8, li_9, li_10, li_12, li_13, li_26, li_40, li_60, li_61, li_62, li_99, li_100, li_102, li_106, li_114, li_112, li_117, li_108, li_103, li_120, li_300, li_360, li_512, li_1000, n32, n32', u_okT, b10, b00, f_0, f_1, u_okT, u_nb_0, u_nb_1, Nat.reduceEqDiff, true_and, and_true, false_and, and_false, if_true, if_false, eq_self, and_self, Nat.reduceLT, Nat.reduceLeDiff, Nat.reduceAdd, Nat.reduceMul, Nat.reduceDiv, Nat.one_ne_zero]
      exact Or.inr (Or.inl (hT _ _ _ (G_exc (c := 2) I0 hk (by decide) (by decide))))
  · simp (disch := omega) only [z_L_way, z_X11_way, z_X12_way, c_needPlace1 hp1, r_noPlace1 hp1, u_br_True, u_br_False, u_jn_u, u_lt_u, u_nn_s, u_brn_s, u_brn_n, ↓li_m1, li_0, li_1, li_2, li_3, li_4, li_5, li_6, li_7, li_8, li_9, li_10, li_12, li_13, li_26, li_40, li_60, li_61, li_62, li_99, li_100, li_102, li_106, li_114, li_112, li_117, li_108, li_103, li_120, li_300, li_360, li_512, li_1000, n32, n32', u_okT, b10, b00, f_0, f_1, u_okT, u_nb_0, u_nb_1, Nat.reduceEqDiff, true_and, and_true, false_and, and_false, if_true, if_false, eq_self, and_self, Nat.reduceLT, Nat.reduceLeDiff, Nat.reduceAdd, Nat.reduceMul, Nat.reduceDiv, Nat.one_ne_zero]
    exact Or.inl (hT _ _ _ (G_exc (c := 1) I0 hk (by decide) (by decide)))
end KPLAN
