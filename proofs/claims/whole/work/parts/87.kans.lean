section KANS
variable {m : Nat → Nat → Nat} {u w : Nat → Int32} {L : List Nat} {σ s s0 s2 : St} {N kk n q p t x place r e p3 : Nat} {g o nx : Nat → Nat} {p1 p2 : Int32} {l l' : List (Nat → Nat)} {P : Nat → Prop}
theorem sum_le (c : Nat) (f : Nat → Nat) : ∀ n, (∀ r, r < n → f r ≤ c) → ((List.range n).map f).sum ≤ n * c
  | 0, _ => by simp
  | n + 1, h => by
    have h1 := sum_le c f n (fun r hr => h r (by omega))
    have h2 := h n (by omega)
    rw [List.range_succ, List.map_append, List.sum_append, Nat.succ_mul]
    simp only [List.map_cons, List.map_nil, List.sum_cons, List.sum_nil]
    omega
theorem anA_len (hm : ∀ p, p < m 25 q → m 3 (tq m q p) ≤ 40) : ∀ e place g, place + e ≤ m 25 q → (anA m u q e place g).length ≤ 40 ^ e
  | 0, place, g, _ => Nat.le_refl _
  | e + 1, place, g, h => by
    have ih := fun g => anA_len hm e (place + 1) g (by omega)
    have h1 := hm place (by omega)
    simp only [anA, List.length_flatMap]
    refine Nat.le_trans (sum_le (40 ^ e) _ _ (fun r _ => ?_)) ?_
    · split
      · exact ih _
      · exact Nat.zero_le _
    · rw [Nat.pow_succ, Nat.mul_comm]
      exact Nat.mul_le_mul_left _ h1
theorem an_len (W : WQ m) (Wt : WT m u) (hq : q < m 24 0) : (anA m u q (m 25 q) 0 (fun _ => 0)).length ≤ 64000 := by
  have w3 := W.2.2 q hq
  have h1 := Wt.nt
  refine Nat.le_trans (anA_len (fun p hp => Wt.2.2.2.1 _ (by have : tq m q p < m 1 0 := w3.2.2.2.1 p hp; omega)) (m 25 q) 0 _ (by omega)) (pow40 w3.1)
theorem finIv (C : CA m u w L σ) (R : RI m u w L σ) (W : WA m u L kk) (hk : kk < 512) (k : KT σ s) (km : KM σ s) (hP : tmpP P) (kf : KF P (stP s 12 0 0 0 (nI 0)) s2) : Inv (kk + 1) s2 := by
  have C1 : CA m u w L s := C.kt k
  have R1 : RI m u w L s := R.km km
  exact Inv.mk ((R1.tmp rfl).kf kf hP) ((C1.km KC.st).km kf.kc) ⟨W.1, W.2.1, W.2.2.1, W.2.2.2.1, WD_up W.2.2.2.2 hk⟩
theorem finKT (C : CA m u w L σ) (R : RI m u w L σ) (W : WA m u L kk) (hk : kk < 512) (k : KT σ s) (km : KM σ s) {x : Int64} (hP : tmpP P) (hP0 : ¬ P 0) (kf : KF P (stP (stL s 13 0 0 0 x) 12 0 0 0 (nI 0)) s2) : Inv (kk + 1) s2 ∧ sP s2 12 0 0 0 = nI 0 ∧ sL_ s2 13 0 0 0 = x := by
  refine ⟨finIv (s := stL s 13 0 0 0 x) C R W hk k km hP kf, ?_, ?_⟩
  · rw [kf.ff hP0]
    simp only [sP_stP, Nat.reduceEqDiff, true_and, and_true, false_and, and_false, if_true, if_false, eq_self, and_self, Nat.reduceLT, Nat.reduceLeDiff, Nat.reduceAdd, Nat.reduceMul, Nat.reduceDiv, Nat.one_ne_zero]
  · rw [kf.2.1]
    simp only [sL_stP, sL_stL, Nat.reduceEqDiff, true_and, and_true, false_and, and_false, if_true, if_false, eq_self, and_self, Nat.reduceLT, Nat.reduceLeDiff, Nat.reduceAdd, Nat.reduceMul, Nat.reduceDiv, Nat.one_ne_zero]
theorem f_0s (h : sP s 12 0 0 0 = nI 0) {c : Int32} {K : Int32 → St → Prop} : z_X12_fails N 0 (nI 0) c s K = K (nI 0) s := by
  simp (disch := omega) only [z_X12_fails, h, u_br_True, u_br_False, u_jn_u, u_lt_u, u_nn_s, u_brn_s, u_brn_n, nI_add, u_n_mul, u_n_lt, u_n_le, u_n_eq, u_n_sub, u_n_div, u_n_mod, nI_clamp, u_m1, u_m1q, u_wI_n, u_wA_n, u_br_t, u_br_f, ↓li_m1, li_0, li_1, li_2, li_3, li_4, li_5, li_6, li_7, li_8, li_9, li_10, li_12, li_13, li_26, li_40, li_60, li_61, li_62, li_99, li_100, li_102, li_106, li_114, li_112, li_117, li_108, li_103, li_120, li_300, li_360, li_512, li_1000, b10, b00, Nat.reduceEqDiff, true_and, and_true, false_and, and_false, if_true, if_false, eq_self, and_self, Nat.reduceLT, Nat.reduceLeDiff, Nat.reduceAdd, Nat.reduceMul, Nat.reduceDiv, Nat.one_ne_zero, Nat.le_refl]
theorem f_1s {c : Nat} (h : sP s 12 0 0 0 = nI 0) (hc : 0 < c) (hc2 : c < 100) {K : Int32 → St → Prop} : z_X12_fails N 0 (nI 1) (nI c) s K = K (nI 1) (stP s 12 0 0 0 (nI c)) := by
  simp (disch := omega) only [z_X12_fails, h, u_br_True, u_br_False, u_jn_u, u_lt_u, u_nn_s, u_brn_s, u_brn_n, nI_add, u_n_mul, u_n_lt, u_n_le, u_n_eq, u_n_sub, u_n_div, u_n_mod, nI_clamp, u_m1, u_m1q, u_wI_n, u_wA_n, u_br_t, u_br_f, ↓li_m1, li_0, li_1, li_2, li_3, li_4, li_5, li_6, li_7, li_8, li_9, li_10, li_12, li_13, li_26, li_40, li_60, li_61, li_62, li_99, li_100, li_102, li_106, li_114, li_112, li_117, li_108, li_103, li_120, li_300, li_360, li_512, li_1000, b10, b00, Nat.reduceEqDiff, true_and, and_true, false_and, and_false, if_true, if_false, eq_self, and_self, Nat.reduceLT, Nat.reduceLeDiff, Nat.reduceAdd, Nat.reduceMul, Nat.reduceDiv, Nat.one_ne_zero, sP_stP]
theorem Gx_exc {c : Nat} {b : Int32} (I : Inv kk s) (h0 : 0 < c) (h1 : c < 100) : G kk (nI c) b (stP s 12 0 0 0 (nI c)) := by
  refine ⟨by simp [sP_stP], fun e => ?_, Inv_tmp I rfl⟩
  rw [u_n_eq (by omega) (by omega)] at e
  omega
theorem wk0 : ¬ fwk 0 := by rintro (h | h) <;> cases h
theorem NA.ri (h : NA m u w L q l s) : RI m u w L s := by
  obtain ⟨nx, p, _, h, _⟩ := h
  exact h.1
theorem k_answers (hN : 1000000 ≤ N) (I : Inv kk σ) (hk : kk < 512) (p1 : Int32) {T : Int32 → Int32 → St → Prop} (hT : ∀ code b σ2, G (kk + 1) code b σ2 → T code b σ2) : z_L_answers N (some 0) p1 σ (fun code σ1 => z_X12_answers N 0 p1 σ1 (fun b σ2 => T code b σ2)) := by
  have I0 := I
  obtain ⟨m, u, w, L, R, C, W⟩ := I
  have CQ' := C.2.2.2.2.1
  have WQ' := W.2.2.2.1
  have hC := C.1
  unfold C0 at hC
  have R0 : RI m u w L (stP σ 12 0 0 0 (nI 0)) := R.tmp rfl
  rcases u_io p1 (m 24 0) with ⟨q, hq, _, rfl⟩ | hp2
  · have w3 := (WQ'.2.2 q hq).1
    have w1 := WQ'.1
    have hlen := an_len (u := u) WQ' W.1 hq
    by_cases h0 : 0 < m 25 q
    · simp (disch := omega) only [z_L_answers, z_X11_answers, c_needPosT CQ' WQ' hq h0, hC, u_br_True, u_br_False, u_jn_u, u_lt_u, u_nn_s, u_brn_s, u_brn_n, nI_add, u_n_mul, u_n_lt, u_n_le, u_n_eq, u_n_sub, u_n_div, u_n_mod, nI_clamp, u_m1, u_m1q, u_wI_n, u_wA_n, u_br_t, u_br_f, ↓li_m1, li_0, li_1, li_2, li_3, li_4, li_5, li_6, li_7, li_8, li_9, li_10, li_12, li_13, li_26, li_40, li_60, li_61, li_62, li_99, li_100, li_102, li_106, li_114, li_112, li_117, li_108, li_103, li_120, li_300, li_360, li_512, li_1000]
      refine c_tryAll hN ⟨C.1, C.2.1, C.2.2.1, CQ'⟩ WQ' W.1 hq (p3 := 0) (p4 := 0) h0 (by omega) (fun s R1 k1 km => ?_)
      have e6 : sQ s 11 0 6 0 = some 0 := by rw [k1.2.1 11 _ _ _ (by decide)]; exact hC.2.2.2.2.1
      have r4 := R1.2.2.2.1
      rw [fd_fold, getR_evT] at r4
      have r4' : sP s 8 0 9 0 = nI (anA m u q (m 25 q) 0 (fun _ => 0)).length := by
        rw [r4]
        congr 1
        exact Nat.zero_add _
      simp (disch := omega) only [e6, z_X8_foundCount, r4', u_br_True, u_br_False, u_jn_u, u_lt_u, u_nn_s, u_brn_s, u_brn_n, nI_add, u_n_mul, u_n_lt, u_n_le, u_n_eq, u_n_sub, u_n_div, u_n_mod, nI_clamp, u_m1, u_m1q, u_wI_n, u_wA_n, u_br_t, u_br_f, ↓li_m1, li_0, li_1, li_2, li_3, li_4, li_5, li_6, li_7, li_8, li_9, li_10, li_12, li_13, li_26, li_40, li_60, li_61, li_62, li_99, li_100, li_102, li_106, li_114, li_112, li_117, li_108, li_103, li_120, li_300, li_360, li_512, li_1000, wA_l, l0c, z_X12_answers]
      have R2 : RI m u w L (stP (stL s 13 0 0 0 (nI (anA m u q (m 25 q) 0 (fun _ => 0)).length).toInt64) 12 0 0 0 (nI 0)) := ((R.km km).km KM.stL).tmp rfl
      simp (disch := omega) only [r_isQ R2 WQ' hq, u_br_True, u_br_False, u_jn_u, u_lt_u, u_nn_s, u_brn_s, u_brn_n, nI_add, u_n_mul, u_n_lt, u_n_le, u_n_eq, u_n_sub, u_n_div, u_n_mod, nI_clamp, u_m1, u_m1q, u_wI_n, u_wA_n, u_br_t, u_br_f, ↓li_m1, li_0, li_1, li_2, li_3, li_4, li_5, li_6, li_7, li_8, li_9, li_10, li_12, li_13, li_26, li_40, li_60, li_61, li_62, li_99, li_100, li_102, li_106, li_114, li_112, li_117, li_108, li_103, li_120, li_300, li_360, li_512, li_1000, b10, b00, f_0, f_1, u_okT, u_nb_0, u_nb_1, R2.r 25 q rfl]
      refine r_begins R2 h0 (fun s1 NA1 k2 => ?_)
      refine fx2_g (γ := List (Nat → Nat)) (fun l x s' => ∃ l0, l0 ++ l = anA m u q (m 25 q) 0 (fun _ => 0) ∧ x = nI l0.length ∧ NA m u w L q l s' ∧ KF fwk s1 s') (fun l => l.length) (fun self l x s' hI hs => ?_) N (anA m u q (m 25 q) 0 (fun _ => 0)) (nI 0) s1 ⟨[], rfl, rfl, NA1, KF.refl⟩ (by omega)
      obtain ⟨l0, e1, rfl, NA', k'⟩ := hI
      refine r_next hN WQ' W.1 hq NA' (fun he s3 R3 k3 => ?_) (fun a l' he s3 NA3 _ _ k3 => ?_)
      · rw [u_br_t rfl]
        obtain ⟨f1, f2, f3⟩ := finKT C R W hk k1 km t_wk wk0 ((k2.trans k').trans k3)
        rw [he, List.append_nil] at e1
        rw [← e1] at f3
        exact hT _ _ _ (G_ok f1 f2 f3)
      · rw [u_br_f (by rw [b10]; exact fun h => h), nI_add]
        refine hs l' _ _ ⟨l0 ++ [a], ?_, ?_, NA3, k'.trans k3⟩ (by rw [he]; simp)
        · rw [← e1, he]; simp
        · simp
    · simp (disch := omega) only [z_L_answers, z_X11_answers, z_X12_answers, c_needPos3 CQ' WQ' hq (by omega : m 25 q = 0), hC, u_br_True, u_br_False, u_jn_u, u_lt_u, u_nn_s, u_brn_s, u_brn_n, ↓li_m1, li_0, li_1, li_2, li_3, li_4, li_5, li_6, li_7, li_8, li_9, li_10, li_12, li_13, li_26, li_40, li_60, li_61, li_62, li_99, li_100, li_102, li_106, li_114, li_112, li_117, li_108, li_103, li_120, li_300, li_360, li_512, li_1000, b10, b00, f_0, f_1, u_okT, u_nb_0, u_nb_1, Nat.reduceEqDiff, true_and, and_true, false_and, and_false, if_true, if_false, eq_self, and_self, Nat.reduceLT, Nat.reduceLeDiff, Nat.reduceAdd, Nat.reduceMul, Nat.reduceDiv, Nat.one_ne_zero]
      refine Or.inr ?_
      have e25 := R0.r 25 q rfl
      rw [show m 25 q = 0 by omega] at e25
      simp (disch := omega) only [r_isQ R0 WQ' hq, u_br_True, u_br_False, u_jn_u, u_lt_u, u_nn_s, u_brn_s, u_brn_n, nI_add, u_n_mul, u_n_lt, u_n_le, u_n_eq, u_n_sub, u_n_div, u_n_mod, nI_clamp, u_m1, u_m1q, u_wI_n, u_wA_n, u_br_t, u_br_f, ↓li_m1, li_0, li_1, li_2, li_3, li_4, li_5, li_6, li_7, li_8, li_9, li_10, li_12, li_13, li_26, li_40, li_60, li_61, li_62, li_99, li_100, li_102, li_106, li_114, li_112, li_117, li_108, li_103, li_120, li_300, li_360, li_512, li_1000, b10, b00, f_0, f_1, u_okT, u_nb_0, u_nb_1, e25]
      exact hT _ _ _ (G_exc (c := 2) I0 hk (by decide) (by decide))
  · simp (disch := omega) only [z_L_answers, z_X11_answers, z_X12_answers, c_needPos2 CQ' WQ' hp2, r_isQO R0 WQ' hp2, hC, u_br_True, u_br_False, u_jn_u, u_lt_u, u_nn_s, u_brn_s, u_brn_n, ↓li_m1, li_0, li_1, li_2, li_3, li_4, li_5, li_6, li_7, li_8, li_9, li_10, li_12, li_13, li_26, li_40, li_60, li_61, li_62, li_99, li_100, li_102, li_106, li_114, li_112, li_117, li_108, li_103, li_120, li_300, li_360, li_512, li_1000, b10, b00, f_0, f_1, u_okT, u_nb_0, u_nb_1, Nat.reduceEqDiff, true_and, and_true, false_and, and_false, if_true, if_false, eq_self, and_self, Nat.reduceLT, Nat.reduceLeDiff, Nat.reduceAdd, Nat.reduceMul, Nat.reduceDiv, Nat.one_ne_zero]
    exact Or.inl (hT _ _ _ (G_exc (c := 1) I0 hk (by decide) (by decide)))
/-! the wanted answer's row -/
def wtF (p2 : Int32) (p3 : Nat) (a : Nat × Int32) (g : Nat → Nat) : Nat × Int32 := (a.1 + 1, if nI a.1 = p2 then nI (g p3) else a.2)
theorem wt_1 : ∀ (l : List (Nat → Nat)) a, (l.foldl (wtF p2 p3) a).1 = a.1 + l.length
  | [], a => rfl
  | g :: l, a => by
    rw [List.foldl_cons, wt_1 l]
    simp only [wtF, List.length_cons]
    omega
theorem wt_out : ∀ (l : List (Nat → Nat)) a, (∀ k, a.1 ≤ k → k < a.1 + l.length → nI k ≠ p2) → (l.foldl (wtF p2 p3) a).2 = a.2
  | [], a, _ => rfl
  | g :: l, a, h => by
    rw [List.foldl_cons, wt_out l]
    · simp only [wtF]
      rw [if_neg (h a.1 (Nat.le_refl _) (by simp))]
    · intro k h1 h2
      simp only [wtF] at h1 h2
      exact h k (by omega) (by simp only [List.length_cons]; omega)
theorem wt_in {k : Nat} (hk : k < 2 ^ 31) : ∀ (l : List (Nat → Nat)) a, a.1 ≤ k → k < a.1 + l.length → a.1 + l.length < 2 ^ 31 → ∃ g, g ∈ l ∧ (l.foldl (wtF (nI k) p3) a).2 = nI (g p3)
  | [], a, h1, h2, _ => by simp only [List.length_nil] at h2; omega
  | g :: l, a, h1, h2, h3 => by
    simp only [List.length_cons] at h2 h3
    rw [List.foldl_cons]
    by_cases e : a.1 = k
    · refine ⟨g, List.mem_cons_self, ?_⟩
      rw [wt_out l]
      · simp only [wtF]
        rw [if_pos (by rw [e])]
      · intro k' h4 h5 h6
        simp only [wtF] at h4 h5
        rw [u_n_eq (by omega) hk] at h6
        omega
    · obtain ⟨g', m1, m2⟩ := wt_in hk l (wtF (nI k) p3 a g) (by simp only [wtF]; omega) (by simp only [wtF]; omega) (by simp only [wtF]; omega)
      exact ⟨g', List.mem_cons_of_mem _ m1, m2⟩
theorem anA_lt (W : WQ m) (Wt : WT m u) (hq : q < m 24 0) : ∀ e place g, place + e ≤ m 25 q → (∀ x, x < place → g x < 40) → ∀ a ∈ anA m u q e place g, ∀ x, x < place + e → a x < 40
  | 0, place, g, _, hg, a, ha, x, hx => by
    simp only [anA, List.mem_singleton] at ha
    subst ha
    exact hg x hx
  | e + 1, place, g, hp, hg, a, ha, x, hx => by
    have w3 := W.2.2 q hq
    have h1 := Wt.nt
    simp only [anA, List.mem_flatMap, List.mem_range] at ha
    obtain ⟨r, hr, ha⟩ := ha
    have ht : tq m q place < m 1 0 := w3.2.2.2.1 place (by omega)
    have h3 := Wt.2.2.2.1 (tq m q place) (by omega)
    split at ha
    · refine anA_lt W Wt hq e (place + 1) _ (by omega) (fun y hy => ?_) a ha x (by omega)
      unfold gU
      split
      · omega
      · exact hg y (by omega)
    · cases ha
theorem an_lt (W : WQ m) (Wt : WT m u) (hq : q < m 24 0) {a : Nat → Nat} (ha : a ∈ anA m u q (m 25 q) 0 (fun _ => 0)) (hx : x < m 25 q) : a x < 40 :=
  anA_lt W Wt hq (m 25 q) 0 _ (by omega) (fun y hy => by omega) a ha x (by omega)
theorem k_answerAt (hN : 1000000 ≤ N) (I : Inv kk σ) (hk : kk < 512) (p1 p2 p3 : Int32) {T : Int32 → Int32 → St → Prop} (hT : ∀ code b σ2, G (kk + 1) code b σ2 → T code b σ2) : z_L_answerAt N (some 0) p1 p2 p3 σ (fun code σ1 => z_X12_answerAt N 0 p1 p2 p3 σ1 (fun b σ2 => T code b σ2)) := by
  have I0 := I
  obtain ⟨m, u, w, L, R, C, W⟩ := I
  have CQ' := C.2.2.2.2.1
  have WQ' := W.2.2.2.1
  have hC := C.1
  unfold C0 at hC
  have R0 : RI m u w L (stP σ 12 0 0 0 (nI 0)) := R.tmp rfl
  rcases u_io p1 (m 24 0) with ⟨q, hq, _, rfl⟩ | hp2
  · have w3 := (WQ'.2.2 q hq).1
    have w1 := WQ'.1
    have e1 := (CQ'.2.2.2 q hq).1
    have hlen := an_len (u := u) WQ' W.1 hq
    rcases u_io p3 (m 25 q) with ⟨p, hp, _, rfl⟩ | hp3
    · have h0 : 0 < m 25 q := by omega
      simp (disch := omega) only [z_L_answerAt, z_X11_answerAt, c_needQ CQ' WQ' hq, z_X7_hasPosition, e1, hC, u_br_True, u_br_False, u_jn_u, u_lt_u, u_nn_s, u_brn_s, u_brn_n, nI_add, u_n_mul, u_n_lt, u_n_le, u_n_eq, u_n_sub, u_n_div, u_n_mod, nI_clamp, u_m1, u_m1q, u_wI_n, u_wA_n, u_br_t, u_br_f, ↓li_m1, li_0, li_1, li_2, li_3, li_4, li_5, li_6, li_7, li_8, li_9, li_10, li_12, li_13, li_26, li_40, li_60, li_61, li_62, li_99, li_100, li_102, li_106, li_114, li_112, li_117, li_108, li_103, li_120, li_300, li_360, li_512, li_1000, b10, b00, f_0, f_1, u_okT, u_nb_0, u_nb_1]
      refine c_tryAll hN ⟨C.1, C.2.1, C.2.2.1, CQ'⟩ WQ' W.1 hq (p3 := p) (p4 := 0) hp (by omega) (fun s R1 k1 km => ?_)
      have e6 : sQ s 11 0 6 0 = some 0 := by rw [k1.2.1 11 _ _ _ (by decide)]; exact hC.2.2.2.2.1
      have r4 := R1.2.2.2.2.2.2.2.2.1
      rw [wt_fold, getR_evT] at r4
      have r4' : sP s 8 0 14 0 = ((anA m u q (m 25 q) 0 (fun _ => 0)).foldl (wtF p2 p) (0, mI)).2 := r4
      have loop : ∀ (s1 : St) (K : Int32 → Int32 → St → Prop), NA m u w L q (anA m u q (m 25 q) 0 (fun _ => 0)) s1 → (∀ s3, KF fwk s1 s3 → K (nI (anA m u q (m 25 q) 0 (fun _ => 0)).length) (((anA m u q (m 25 q) 0 (fun _ => 0)).foldl (wtF p2 p) (0, mI)).2) s3) →
          fx3 (fun (w67 : Int32 → Int32 → St → Prop) (x14 : Int32) (x15 : Int32) (h13 : St) => z_X12_nextAnswer N 0 (nI q) h13 fun v16 h17 => br (v16 = nI 0) (K x14 x15 h17) (br (x14 = p2) (w67 (x14 + nI 1) (sP h17 12 0 37 p) h17) (w67 (x14 + nI 1) x15 h17))) N (nI 0) mI s1 := by
        intro s1 K NA1 hK
        refine fx3_g (γ := List (Nat → Nat)) (fun l x y s' => ∃ l0, l0 ++ l = anA m u q (m 25 q) 0 (fun _ => 0) ∧ x = nI l0.length ∧ y = (l0.foldl (wtF p2 p) (0, mI)).2 ∧ NA m u w L q l s' ∧ KF fwk s1 s') (fun l => l.length) (fun self l x y s' hI hs => ?_) N (anA m u q (m 25 q) 0 (fun _ => 0)) (nI 0) mI s1 ⟨[], rfl, rfl, rfl, NA1, KF.refl⟩ (by omega)
        obtain ⟨l0, e1, rfl, rfl, NA', k'⟩ := hI
        refine r_next hN WQ' W.1 hq NA' (fun he s3 R3 k3 => ?_) (fun a l' he s3 NA3 ha hc k3 => ?_)
        · rw [u_br_t rfl]
          rw [he, List.append_nil] at e1
          rw [e1]
          exact hK s3 (k'.trans k3)
        · rw [u_br_f (by rw [b10]; exact fun h => h), nI_add]
          have e37 := hc p (by omega)
          rw [if_pos (decide_eq_true hp)] at e37
          have e2 : (l0.foldl (wtF p2 p) (0, mI)).1 = l0.length := by rw [wt_1]; exact Nat.zero_add _
          have e3 : ((l0 ++ [a]).foldl (wtF p2 p) (0, mI)).2 = if nI l0.length = p2 then nI (a p) else (l0.foldl (wtF p2 p) (0, mI)).2 := by
            rw [List.foldl_append]
            simp only [List.foldl_cons, List.foldl_nil]
            rw [wtF, e2]
          by_cases hm : nI l0.length = p2
          · rw [u_br_t hm, e37]
            rw [if_pos hm] at e3
            refine hs l' _ _ _ ⟨l0 ++ [a], by rw [← e1, he]; simp, by simp, e3.symm, NA3, k'.trans k3⟩ (by rw [he]; simp)
          · rw [u_br_f hm]
            rw [if_neg hm] at e3
            refine hs l' _ _ _ ⟨l0 ++ [a], by rw [← e1, he]; simp, by simp, e3.symm, NA3, k'.trans k3⟩ (by rw [he]; simp)
      rcases u_io p2 (anA m u q (m 25 q) 0 (fun _ => 0)).length with ⟨k, hk2, _, rfl⟩ | hp2
      · obtain ⟨g, m1, m2⟩ := wt_in (k := k) (p3 := p) (by omega) (anA m u q (m 25 q) 0 (fun _ => 0)) (0, mI) (Nat.zero_le _) (by simp only; omega) (by simp only; omega)
        have hg := an_lt WQ' W.1 hq m1 hp
        rw [m2] at r4' loop
        simp (disch := omega) only [e6, z_X8_wantedRow, r4', u_br_True, u_br_False, u_jn_u, u_lt_u, u_nn_s, u_brn_s, u_brn_n, nI_add, u_n_mul, u_n_lt, u_n_le, u_n_eq, u_n_sub, u_n_div, u_n_mod, nI_clamp, u_m1, u_m1q, u_wI_n, u_wA_n, u_br_t, u_br_f, ↓li_m1, li_0, li_1, li_2, li_3, li_4, li_5, li_6, li_7, li_8, li_9, li_10, li_12, li_13, li_26, li_40, li_60, li_61, li_62, li_99, li_100, li_102, li_106, li_114, li_112, li_117, li_108, li_103, li_120, li_300, li_360, li_512, li_1000, wA_l, l0c, z_X12_answerAt]
        have R2 : RI m u w L (stP (stL s 13 0 0 0 (nI (g p)).toInt64) 12 0 0 0 (nI 0)) := ((R.km km).km KM.stL).tmp rfl
        simp (disch := omega) only [r_isQ R2 WQ' hq, u_br_True, u_br_False, u_jn_u, u_lt_u, u_nn_s, u_brn_s, u_brn_n, nI_add, u_n_mul, u_n_lt, u_n_le, u_n_eq, u_n_sub, u_n_div, u_n_mod, nI_clamp, u_m1, u_m1q, u_wI_n, u_wA_n, u_br_t, u_br_f, ↓li_m1, li_0, li_1, li_2, li_3, li_4, li_5, li_6, li_7, li_8, li_9, li_10, li_12, li_13, li_26, li_40, li_60, li_61, li_62, li_99, li_100, li_102, li_106, li_114, li_112, li_117, li_108, li_103, li_120, li_300, li_360, li_512, li_1000, b10, b00, f_0, f_1, u_okT, u_nb_0, u_nb_1, R2.r 25 q rfl, r_inT, r_inL, r_inH, r_inPT, r_inPF]
        refine r_begins R2 h0 (fun s1 NA1 k2 => ?_)
        refine loop s1 _ NA1 (fun s3 k3 => ?_)
        obtain ⟨f1, f2, f3⟩ := finKT C R W hk k1 km t_wk wk0 (k2.trans k3)
        simp (disch := omega) only [r_inT, r_inL, r_inH, r_inPT, r_inPF, f_0s f2, u_br_True, u_br_False, u_jn_u, u_lt_u, u_nn_s, u_brn_s, u_brn_n, nI_add, u_n_mul, u_n_lt, u_n_le, u_n_eq, u_n_sub, u_n_div, u_n_mod, nI_clamp, u_m1, u_m1q, u_wI_n, u_wA_n, u_br_t, u_br_f, ↓li_m1, li_0, li_1, li_2, li_3, li_4, li_5, li_6, li_7, li_8, li_9, li_10, li_12, li_13, li_26, li_40, li_60, li_61, li_62, li_99, li_100, li_102, li_106, li_114, li_112, li_117, li_108, li_103, li_120, li_300, li_360, li_512, li_1000, b10, b00, f_0, f_1, u_okT, u_nb_0, u_nb_1]
        exact hT _ _ _ (G_ok f1 f2 f3)
      · have hp2' : (((anA m u q (m 25 q) 0 (fun _ => 0)).foldl (wtF p2 p) (0, mI)).2) = mI := by
          refine wt_out _ _ (fun k _ h2 h3 => ?_)
          simp only at h2
          rcases hp2 with h | ⟨a, h4, h5, h6⟩
          · rw [← h3, u_n_lt (by omega) (by omega)] at h
            omega
          · rw [h6, u_n_eq (by omega) (by omega)] at h3
            omega
        rw [hp2'] at r4' loop
        simp (disch := omega) only [z_L_answerAt, z_X8_wantedRow, e6, r4', u_br_True, u_br_False, u_jn_u, u_lt_u, u_nn_s, u_brn_s, u_brn_n, nI_add, u_n_mul, u_n_lt, u_n_le, u_n_eq, u_n_sub, u_n_div, u_n_mod, nI_clamp, u_m1, u_m1q, u_wI_n, u_wA_n, u_br_t, u_br_f, ↓li_m1, li_0, li_1, li_2, li_3, li_4, li_5, li_6, li_7, li_8, li_9, li_10, li_12, li_13, li_26, li_40, li_60, li_61, li_62, li_99, li_100, li_102, li_106, li_114, li_112, li_117, li_108, li_103, li_120, li_300, li_360, li_512, li_1000, Nat.reduceEqDiff, true_and, and_true, false_and, and_false, if_true, if_false, eq_self, and_self, Nat.reduceLT, Nat.reduceLeDiff, Nat.reduceAdd, Nat.reduceMul, Nat.reduceDiv, Nat.one_ne_zero, u_br_True, z_X12_answerAt]
        refine Or.inr (Or.inr ?_)
        have R2 : RI m u w L (stP s 12 0 0 0 (nI 0)) := (R.km km).tmp rfl
        simp (disch := omega) only [r_isQ R2 WQ' hq, u_br_True, u_br_False, u_jn_u, u_lt_u, u_nn_s, u_brn_s, u_brn_n, nI_add, u_n_mul, u_n_lt, u_n_le, u_n_eq, u_n_sub, u_n_div, u_n_mod, nI_clamp, u_m1, u_m1q, u_wI_n, u_wA_n, u_br_t, u_br_f, ↓li_m1, li_0, li_1, li_2, li_3, li_4, li_5, li_6, li_7, li_8, li_9, li_10, li_12, li_13, li_26, li_40, li_60, li_61, li_62, li_99, li_100, li_102, li_106, li_114, li_112, li_117, li_108, li_103, li_120, li_300, li_360, li_512, li_1000, b10, b00, f_0, f_1, u_okT, u_nb_0, u_nb_1, R2.r 25 q rfl, r_inT, r_inL, r_inH, r_inPT, r_inPF]
        refine r_begins R2 h0 (fun s1 NA1 k2 => ?_)
        refine loop s1 _ NA1 (fun s3 k3 => ?_)
        have f1 := finIv C R W hk k1 km t_wk (k2.trans k3)
        have f2 : sP s3 12 0 0 0 = nI 0 := by rw [(k2.trans k3).ff wk0]; simp only [sP_stP, Nat.reduceEqDiff, true_and, and_true, false_and, and_false, if_true, if_false, eq_self, and_self, Nat.reduceLT, Nat.reduceLeDiff, Nat.reduceAdd, Nat.reduceMul, Nat.reduceDiv, Nat.one_ne_zero]
        simp only [r_inO hp2 (by omega)]
        simp (disch := omega) only [f_1s f2, u_br_True, u_br_False, u_jn_u, u_lt_u, u_nn_s, u_brn_s, u_brn_n, nI_add, u_n_mul, u_n_lt, u_n_le, u_n_eq, u_n_sub, u_n_div, u_n_mod, nI_clamp, u_m1, u_m1q, u_wI_n, u_wA_n, u_br_t, u_br_f, ↓li_m1, li_0, li_1, li_2, li_3, li_4, li_5, li_6, li_7, li_8, li_9, li_10, li_12, li_13, li_26, li_40, li_60, li_61, li_62, li_99, li_100, li_102, li_106, li_114, li_112, li_117, li_108, li_103, li_120, li_300, li_360, li_512, li_1000, b10, b00, f_0, f_1, u_okT, u_nb_0, u_nb_1]
        exact hT _ _ _ (Gx_exc f1 (by decide) (by decide))
    · have e25 := R0.r 25 q rfl
      rcases hp3 with h | ⟨a, ha, h2, rfl⟩
      · simp (disch := omega) only [z_L_answerAt, z_X11_answerAt, z_X12_answerAt, c_needQ CQ' WQ' hq, z_X7_hasPosition, e1, h, r_isQ R0 WQ' hq, hC, u_br_True, u_br_False, u_jn_u, u_lt_u, u_nn_s, u_brn_s, u_brn_n, nI_add, u_n_mul, u_n_lt, u_n_le, u_n_eq, u_n_sub, u_n_div, u_n_mod, nI_clamp, u_m1, u_m1q, u_wI_n, u_wA_n, u_br_t, u_br_f, ↓li_m1, li_0, li_1, li_2, li_3, li_4, li_5, li_6, li_7, li_8, li_9, li_10, li_12, li_13, li_26, li_40, li_60, li_61, li_62, li_99, li_100, li_102, li_106, li_114, li_112, li_117, li_108, li_103, li_120, li_300, li_360, li_512, li_1000, b10, b00, f_0, f_1, u_okT, u_nb_0, u_nb_1, Nat.reduceEqDiff, true_and, and_true, false_and, and_false, if_true, if_false, eq_self, and_self, Nat.reduceLT, Nat.reduceLeDiff, Nat.reduceAdd, Nat.reduceMul, Nat.reduceDiv, Nat.one_ne_zero, e25, r_inN]
        exact Or.inr (Or.inl (hT _ _ _ (G_exc (c := 2) I0 hk (by decide) (by decide))))
      · simp (disch := omega) only [z_L_answerAt, z_X11_answerAt, z_X12_answerAt, c_needQ CQ' WQ' hq, z_X7_hasPosition, e1, r_isQ R0 WQ' hq, hC, u_br_True, u_br_False, u_jn_u, u_lt_u, u_nn_s, u_brn_s, u_brn_n, nI_add, u_n_mul, u_n_lt, u_n_le, u_n_eq, u_n_sub, u_n_div, u_n_mod, nI_clamp, u_m1, u_m1q, u_wI_n, u_wA_n, u_br_t, u_br_f, ↓li_m1, li_0, li_1, li_2, li_3, li_4, li_5, li_6, li_7, li_8, li_9, li_10, li_12, li_13, li_26, li_40, li_60, li_61, li_62, li_99, li_100, li_102, li_106, li_114, li_112, li_117, li_108, li_103, li_120, li_300, li_360, li_512, li_1000, b10, b00, f_0, f_1, u_okT, u_nb_0, u_nb_1, Nat.reduceEqDiff, true_and, and_true, false_and, and_false, if_true, if_false, eq_self, and_self, Nat.reduceLT, Nat.reduceLeDiff, Nat.reduceAdd, Nat.reduceMul, Nat.reduceDiv, Nat.one_ne_zero, e25, r_inT, r_inL, r_inH, r_inPT, r_inPF]
        exact Or.inr (Or.inl (hT _ _ _ (G_exc (c := 2) I0 hk (by decide) (by decide))))
  · simp (disch := omega) only [z_L_answerAt, z_X11_answerAt, z_X12_answerAt, c_needQO CQ' WQ' hp2, r_isQO R0 WQ' hp2, hC, u_br_True, u_br_False, u_jn_u, u_lt_u, u_nn_s, u_brn_s, u_brn_n, ↓li_m1, li_0, li_1, li_2, li_3, li_4, li_5, li_6, li_7, li_8, li_9, li_10, li_12, li_13, li_26, li_40, li_60, li_61, li_62, li_99, li_100, li_102, li_106, li_114, li_112, li_117, li_108, li_103, li_120, li_300, li_360, li_512, li_1000, b10, b00, f_0, f_1, u_okT, u_nb_0, u_nb_1, Nat.reduceEqDiff, true_and, and_true, false_and, and_false, if_true, if_false, eq_self, and_self, Nat.reduceLT, Nat.reduceLeDiff, Nat.reduceAdd, Nat.reduceMul, Nat.reduceDiv, Nat.one_ne_zero]
    exact Or.inl (hT _ _ _ (G_exc (c := 1) I0 hk (by decide) (by decide)))
theorem k_sum (hN : 1000000 ≤ N) (I : Inv kk σ) (hk : kk < 512) (p1 p2 p3 : Int32) {T : Int32 → Int64 → St → Prop} (hT : ∀ code b σ2, GL (kk + 1) code b σ2 → T code b σ2) : z_L_sum N (some 0) p1 p2 p3 σ (fun code σ1 => z_X12_sum N 0 p1 p2 p3 σ1 (fun b σ2 => T code b σ2)) := by
  have I0 := I
  obtain ⟨m, u, w, L, R, C, W⟩ := I
  have CQ' := C.2.2.2.2.1
  have WQ' := W.2.2.2.1
  have hC := C.1
  unfold C0 at hC
  have R0 : RI m u w L (stP σ 12 0 0 0 (nI 0)) := R.tmp rfl
  rcases u_io p1 (m 24 0) with ⟨q, hq, _, rfl⟩ | hp2
  · have w3 := (WQ'.2.2 q hq).1
    have w1 := WQ'.1
    have Cq := CQ'.2.2.2 q hq
    have hlen := an_len (u := u) WQ' W.1 hq
    by_cases hpl : Pl m q p2 p3
    · have hpl' := hpl
      obtain ⟨p, c, hp, hc, rfl, rfl⟩ := hpl'
      have ht : tq m q p < m 1 0 := (WQ'.2.2 q hq).2.2.2.1 p hp
      have hcl := W.1.cl ht
      have h0 : 0 < m 25 q := by omega
      simp (disch := omega) only [z_L_sum, z_X11_sum, c_needQ CQ' WQ' hq, c_place Cq C.2.1 WQ' W.1 hq hpl, hC, u_br_True, u_br_False, u_jn_u, u_lt_u, u_nn_s, u_brn_s, u_brn_n, nI_add, u_n_mul, u_n_lt, u_n_le, u_n_eq, u_n_sub, u_n_div, u_n_mod, nI_clamp, u_m1, u_m1q, u_wI_n, u_wA_n, u_br_t, u_br_f, ↓li_m1, li_0, li_1, li_2, li_3, li_4, li_5, li_6, li_7, li_8, li_9, li_10, li_12, li_13, li_26, li_40, li_60, li_61, li_62, li_99, li_100, li_102, li_106, li_114, li_112, li_117, li_108, li_103, li_120, li_300, li_360, li_512, li_1000, b10, b00, f_0, f_1, u_okT, u_nb_0, u_nb_1]
      refine c_tryAll hN ⟨C.1, C.2.1, C.2.2.1, CQ'⟩ WQ' W.1 hq (p3 := p) (p4 := c) hp (by omega) (fun s R1 k1 km => ?_)
      have e6 : sQ s 11 0 6 0 = some 0 := by rw [k1.2.1 11 _ _ _ (by decide)]; exact hC.2.2.2.2.1
      have r4 := R1.2.2.2.2.2.2.2.2.2.1
      rw [sm_fold, getR_evT] at r4
      have r4' : sL_ s 8 0 15 0 = (anA m u q (m 25 q) 0 (fun _ => 0)).foldl (fun a g => a + (vl u (tq m q p) (g p) c).toInt64) 0 := r4
      simp (disch := omega) only [e6, z_X8_columnSum, r4', u_br_True, u_br_False, u_jn_u, u_lt_u, u_nn_s, u_brn_s, u_brn_n, nI_add, u_n_mul, u_n_lt, u_n_le, u_n_eq, u_n_sub, u_n_div, u_n_mod, nI_clamp, u_m1, u_m1q, u_wI_n, u_wA_n, u_br_t, u_br_f, ↓li_m1, li_0, li_1, li_2, li_3, li_4, li_5, li_6, li_7, li_8, li_9, li_10, li_12, li_13, li_26, li_40, li_60, li_61, li_62, li_99, li_100, li_102, li_106, li_114, li_112, li_117, li_108, li_103, li_120, li_300, li_360, li_512, li_1000, wA_l, l0c, z_X12_sum]
      have R2 : RI m u w L (stP (stL s 13 0 0 0 ((anA m u q (m 25 q) 0 (fun _ => 0)).foldl (fun a g => a + (vl u (tq m q p) (g p) c).toInt64) 0)) 12 0 0 0 (nI 0)) := ((R.km km).km KM.stL).tmp rfl
      simp (disch := omega) only [r_isQ R2 WQ' hq, r_place R2 WQ' W.1 hq hpl, u_br_True, u_br_False, u_jn_u, u_lt_u, u_nn_s, u_brn_s, u_brn_n, nI_add, u_n_mul, u_n_lt, u_n_le, u_n_eq, u_n_sub, u_n_div, u_n_mod, nI_clamp, u_m1, u_m1q, u_wI_n, u_wA_n, u_br_t, u_br_f, ↓li_m1, li_0, li_1, li_2, li_3, li_4, li_5, li_6, li_7, li_8, li_9, li_10, li_12, li_13, li_26, li_40, li_60, li_61, li_62, li_99, li_100, li_102, li_106, li_114, li_112, li_117, li_108, li_103, li_120, li_300, li_360, li_512, li_1000, b10, b00, f_0, f_1, u_okT, u_nb_0, u_nb_1]
      refine r_begins R2 h0 (fun s1 NA1 k2 => ?_)
      refine fx2_g (γ := List (Nat → Nat)) (fun l x s' => ∃ l0, l0 ++ l = anA m u q (m 25 q) 0 (fun _ => 0) ∧ x = l0.foldl (fun a g => a + (vl u (tq m q p) (g p) c).toInt64) 0 ∧ NA m u w L q l s' ∧ KF fwk s1 s') (fun l => l.length) (fun self l x s' hI hs => ?_) N (anA m u q (m 25 q) 0 (fun _ => 0)) 0 s1 ⟨[], rfl, rfl, NA1, KF.refl⟩ (by omega)
      obtain ⟨l0, e1, rfl, NA', k'⟩ := hI
      refine r_next hN WQ' W.1 hq NA' (fun he s3 R3 k3 => ?_) (fun a l' he s3 NA3 ha hc3 k3 => ?_)
      · rw [u_br_t rfl]
        obtain ⟨f1, f2, f3⟩ := finKT C R W hk k1 km t_wk wk0 ((k2.trans k').trans k3)
        rw [he, List.append_nil] at e1
        rw [← e1] at f3
        exact hT _ _ _ ⟨f2, fun _ => f3, f1⟩
      · rw [u_br_f (by rw [b10]; exact fun h => h), r_chosen (A := fun x => decide (x < m 25 q)) NA3.ri WQ' W.1 hq hp (decide_eq_true hp) (ha p hp) hc3 (by omega)]
        refine hs l' _ _ ⟨l0 ++ [a], ?_, ?_, NA3, k'.trans k3⟩ (by rw [he]; simp)
        · rw [← e1, he]; simp
        · rw [List.foldl_append]; rfl
    · simp (disch := omega) only [z_L_sum, z_X11_sum, z_X12_sum, c_needQ CQ' WQ' hq, c_placeO Cq C.2.1 WQ' W.1 hq hpl, r_isQ R0 WQ' hq, r_placeO R0 WQ' W.1 hq hpl, hC, u_br_True, u_br_False, u_jn_u, u_lt_u, u_nn_s, u_brn_s, u_brn_n, nI_add, u_n_mul, u_n_lt, u_n_le, u_n_eq, u_n_sub, u_n_div, u_n_mod, nI_clamp, u_m1, u_m1q, u_wI_n, u_wA_n, u_br_t, u_br_f, ↓li_m1, li_0, li_1, li_2, li_3, li_4, li_5, li_6, li_7, li_8, li_9, li_10, li_12, li_13, li_26, li_40, li_60, li_61, li_62, li_99, li_100, li_102, li_106, li_114, li_112, li_117, li_108, li_103, li_120, li_300, li_360, li_512, li_1000, b10, b00, f_0, f_1, u_okT, u_nb_0, u_nb_1, Nat.reduceEqDiff, true_and, and_true, false_and, and_false, if_true, if_false, eq_self, and_self, Nat.reduceLT, Nat.reduceLeDiff, Nat.reduceAdd, Nat.reduceMul, Nat.reduceDiv, Nat.one_ne_zero]
      exact Or.inr (hT _ _ _ (GL_exc (c := 2) I0 hk (by decide) (by decide)))
  · simp (disch := omega) only [z_L_sum, z_X11_sum, z_X12_sum, c_needQO CQ' WQ' hp2, r_isQO R0 WQ' hp2, hC, u_br_True, u_br_False, u_jn_u, u_lt_u, u_nn_s, u_brn_s, u_brn_n, ↓li_m1, li_0, li_1, li_2, li_3, li_4, li_5, li_6, li_7, li_8, li_9, li_10, li_12, li_13, li_26, li_40, li_60, li_61, li_62, li_99, li_100, li_102, li_106, li_114, li_112, li_117, li_108, li_103, li_120, li_300, li_360, li_512, li_1000, b10, b00, f_0, f_1, u_okT, u_nb_0, u_nb_1, Nat.reduceEqDiff, true_and, and_true, false_and, and_false, if_true, if_false, eq_self, and_self, Nat.reduceLT, Nat.reduceLeDiff, Nat.reduceAdd, Nat.reduceMul, Nat.reduceDiv, Nat.one_ne_zero]
    exact Or.inl (hT _ _ _ (GL_exc (c := 1) I0 hk (by decide) (by decide)))
end KANS
