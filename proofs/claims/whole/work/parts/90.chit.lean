section CHIT
variable {m : Nat → Nat → Nat} {u w : Nat → Int32} {L : List Nat} {σ σ' s s2 σ1 : St} {N kk n q p d ban t c k a x i place v told F key p3 p4 r e s_ y b dd : Nat} {g o ways : Nat → Nat} {ix : Nat → Option Nat} {A : Nat → Bool} {cc : Option Nat} {p2 : Int32} {rs : RSt} {vf : (Nat → Nat) → Int32} {zv : Nat → Int32 → St → (St → Prop) → Prop} {lf : Option Nat}
theorem ordN_in : ∀ n, n < 4 → ∀ b, b < 6 → okO n b = true → ∀ p, p < n → ordN b p < n := by decide +kernel
theorem ordN_inj : ∀ b, b < 6 → ∀ p, p < 3 → ∀ x, x < 3 → p = x ∨ ¬ ordN b p = ordN b x := by decide +kernel
theorem ordN_sur : ∀ n, n < 4 → ∀ b, b < 6 → okO n b = true → ∀ a, a < n → ∃ p, p < n ∧ ordN b p = a := by decide +kernel
theorem PN_pl (hn : m 25 q ≤ 3) : PN (m 25 q) (plO m q ban d) := by
  unfold plO
  by_cases h : d = 0
  · rw [if_pos h]; exact PN_id
  · rw [if_neg h]
    obtain ⟨b1, b2, _⟩ := best_spec (m := m) (q := q) (ban := ban)
    exact ⟨ordN_in _ (by omega) _ b1 b2, fun p hp p' hp' h => (ordN_inj _ b1 p (by omega) p' (by omega)).resolve_right (fun h9 => h9 h), ordN_sur _ (by omega) _ b1 b2⟩
theorem wIdx_k (h : okW m q ban o place y) (h0 : ¬ y = 0) : ∃ k, wIdx m q ban o place y = some k ∧ k < m 13 0 ∧ m 14 k = tq m q (o place) := by
  obtain ⟨h8, h1⟩ := h
  have h2 : (wIdx m q ban o place y).isSome = true := by
    rcases h1 with h1 | h1
    · exact absurd h1 h0
    · exact h1
  obtain ⟨k, hk⟩ := Option.isSome_iff_exists.mp h2
  refine ⟨k, hk, ?_⟩
  have fin : ∀ c, iOn m ban (tq m q (o place)) c = some k → k < m 13 0 ∧ m 14 k = tq m q (o place) := fun c h => ⟨(iOn_lt h).1, (iOn_lt h).2.1⟩
  unfold wIdx at hk
  rw [if_neg h0] at hk
  split at hk
  · split at hk
    · exact fin _ hk
    · cases hk
  · split at hk
    · cases e : own m q o place (y - 5) with
      | none => rw [e] at hk; cases hk
      | some c => rw [e] at hk; exact fin c hk
    · cases hk
/-- what is wanted of the index of a place -/
theorem c_want (W : WQ m) (Wt : WT m u) (hq : q < m 24 0) (ho : PN (m 25 q) o) (hpl : place < m 25 q) (V : VS m u q i o σ place g) (hw : okW m q ban o place y) (h0 : ¬ y = 0) (h3 : sP σ 5 i 3 place = nI (wCh y)) (h4 : sP σ 5 i 4 place = wRe y) :
    sg (wSg m q y) ∧ wTo m u q o place y g ≤ 99 ∧ (∀ {K : Int32 → Prop}, z_X8_greatestWanted N 0 (nI place) σ K = K (gMx (wSg m q y) (wTo m u q o place y g))) ∧ ∀ {K : Int32 → Prop}, z_X8_leastWanted N 0 (nI place) σ K = K (nI (lsM (wSg m q y) (wTo m u q o place y g))) := by
  have w3 := W.2.2 q hq
  have h1 := Wt.nt
  have hop := ho.1 place hpl
  obtain ⟨v1, v2, v3, v4, v5, v6, v7⟩ := V
  by_cases h5 : y < 5
  · obtain ⟨y1, y2⟩ := okW_c hw h0 h5
    obtain ⟨c1, c2, c3, c4⟩ := w3.2.2.2.2.1 (y - 1) (by omega)
    obtain ⟨cc, d1, d2, d3, d4, d5⟩ := (c_cond (N := N) v1.2.2.2 W hq (by omega : y - 1 < 4)).1 (by omega)
    have ew : wCh y = 99 := by unfold wCh; rw [if_neg h0, if_pos h5]
    have er : wRe y = nI (y - 1) := by unfold wRe; rw [if_neg h0, if_pos h5]
    rw [ew] at h3
    rw [er] at h4
    have n99 : (narrow .char (.int (nI 99)) = .int (nI 99)) = True := eq_true rfl
    have e1 : wSg m q y = m 30 (4 * q + (y - 1)) := by unfold wSg; rw [if_pos h5]
    have e2 : wTo m u q o place y g = m 31 (4 * q + (y - 1)) := by unfold wTo; rw [if_pos h5]
    rw [e1, e2]
    refine ⟨c3, c4, fun {K} => ?_, fun {K} => ?_⟩
    · simp (disch := omega) only [z_X8_greatestWanted, z_X8_conditionOf, v2, v3, z_X5_wayAt, z_X5_reasonAt, h3, h4, n99, u_okT, u_br_True, u_br_False, u_jn_u, u_lt_u, u_nn_s, u_brn_s, u_brn_n, nI_add, u_n_mul, u_n_lt, u_n_le, u_n_eq, u_n_sub, u_n_div, u_n_mod, nI_clamp, u_m1, u_m1q, u_wI_n, u_wA_n, u_br_t, u_br_f, ↓li_m1, li_0, li_1, li_2, li_3, li_4, li_5, li_6, li_7, li_8, li_9, li_10, li_12, li_13, li_26, li_40, li_60, li_61, li_62, li_99, li_100, li_102, li_106, li_114, li_112, li_117, li_108, li_103, li_120, li_300, li_360, li_512, li_1000, b10, b00, f_0, f_1, u_okT, u_nb_0, u_nb_1, d1, z_X1_greatest, d4, d5]
      rcases c3 with e | e | e
      · rw [e]
        simp (disch := omega) only [gMx, nI_add, u_n_mul, u_n_lt, u_n_le, u_n_eq, u_n_sub, u_n_div, u_n_mod, nI_clamp, u_m1, u_m1q, u_wI_n, u_wA_n, u_br_t, u_br_f, Nat.reduceEqDiff, true_and, and_true, false_and, and_false, if_true, if_false, eq_self, and_self, Nat.reduceLT, Nat.reduceLeDiff, Nat.reduceAdd, Nat.reduceMul, Nat.reduceDiv, Nat.one_ne_zero, u_br_True, u_br_False, u_jn_u, u_lt_u, u_nn_s, u_brn_s, u_brn_n]
      · rw [e]
        simp (disch := omega) only [gMx, nI_add, u_n_mul, u_n_lt, u_n_le, u_n_eq, u_n_sub, u_n_div, u_n_mod, nI_clamp, u_m1, u_m1q, u_wI_n, u_wA_n, u_br_t, u_br_f, Nat.reduceEqDiff, true_and, and_true, false_and, and_false, if_true, if_false, eq_self, and_self, Nat.reduceLT, Nat.reduceLeDiff, Nat.reduceAdd, Nat.reduceMul, Nat.reduceDiv, Nat.one_ne_zero, u_br_True, u_br_False, u_jn_u, u_lt_u, u_nn_s, u_brn_s, u_brn_n]
      · rw [e]
        simp (disch := omega) only [gMx, nI_add, u_n_mul, u_n_lt, u_n_le, u_n_eq, u_n_sub, u_n_div, u_n_mod, nI_clamp, u_m1, u_m1q, u_wI_n, u_wA_n, u_br_t, u_br_f, Nat.reduceEqDiff, true_and, and_true, false_and, and_false, if_true, if_false, eq_self, and_self, Nat.reduceLT, Nat.reduceLeDiff, Nat.reduceAdd, Nat.reduceMul, Nat.reduceDiv, Nat.one_ne_zero, u_br_True, u_br_False, u_jn_u, u_lt_u, u_nn_s, u_brn_s, u_brn_n]
    · simp (disch := omega) only [z_X8_leastWanted, z_X8_conditionOf, v2, v3, z_X5_wayAt, z_X5_reasonAt, h3, h4, n99, u_okT, u_br_True, u_br_False, u_jn_u, u_lt_u, u_nn_s, u_brn_s, u_brn_n, nI_add, u_n_mul, u_n_lt, u_n_le, u_n_eq, u_n_sub, u_n_div, u_n_mod, nI_clamp, u_m1, u_m1q, u_wI_n, u_wA_n, u_br_t, u_br_f, ↓li_m1, li_0, li_1, li_2, li_3, li_4, li_5, li_6, li_7, li_8, li_9, li_10, li_12, li_13, li_26, li_40, li_60, li_61, li_62, li_99, li_100, li_102, li_106, li_114, li_112, li_117, li_108, li_103, li_120, li_300, li_360, li_512, li_1000, b10, b00, f_0, f_1, u_okT, u_nb_0, u_nb_1, d1, z_X1_least, d4, d5]
      rcases c3 with e | e | e
      · rw [e]
        simp (disch := omega) only [lsM, nI_add, u_n_mul, u_n_lt, u_n_le, u_n_eq, u_n_sub, u_n_div, u_n_mod, nI_clamp, u_m1, u_m1q, u_wI_n, u_wA_n, u_br_t, u_br_f, Nat.reduceEqDiff, true_and, and_true, false_and, and_false, if_true, if_false, eq_self, and_self, Nat.reduceLT, Nat.reduceLeDiff, Nat.reduceAdd, Nat.reduceMul, Nat.reduceDiv, Nat.one_ne_zero, u_br_True, u_br_False, u_jn_u, u_lt_u, u_nn_s, u_brn_s, u_brn_n]
      · rw [e]
        simp (disch := omega) only [lsM, nI_add, u_n_mul, u_n_lt, u_n_le, u_n_eq, u_n_sub, u_n_div, u_n_mod, nI_clamp, u_m1, u_m1q, u_wI_n, u_wA_n, u_br_t, u_br_f, Nat.reduceEqDiff, true_and, and_true, false_and, and_false, if_true, if_false, eq_self, and_self, Nat.reduceLT, Nat.reduceLeDiff, Nat.reduceAdd, Nat.reduceMul, Nat.reduceDiv, Nat.one_ne_zero, u_br_True, u_br_False, u_jn_u, u_lt_u, u_nn_s, u_brn_s, u_brn_n]
      · rw [e]
        simp (disch := omega) only [lsM, nI_add, u_n_mul, u_n_lt, u_n_le, u_n_eq, u_n_sub, u_n_div, u_n_mod, nI_clamp, u_m1, u_m1q, u_wI_n, u_wA_n, u_br_t, u_br_f, Nat.reduceEqDiff, true_and, and_true, false_and, and_false, if_true, if_false, eq_self, and_self, Nat.reduceLT, Nat.reduceLeDiff, Nat.reduceAdd, Nat.reduceMul, Nat.reduceDiv, Nat.one_ne_zero, u_br_True, u_br_False, u_jn_u, u_lt_u, u_nn_s, u_brn_s, u_brn_n]
  · obtain ⟨y1, c9, y2⟩ := okW_j hw h5
    have y8 := hw.1
    obtain ⟨c1, c2, c3, c4, c5⟩ := w3.2.2.2.2.2 (y - 5) y1
    obtain ⟨cc, d1, d2, d3, d4, d5⟩ := (c_joinA (N := N) v1.2.2.2 W hq (by omega : y - 5 < 3)).1 y1
    have t1 : tq m q (m 33 (3 * q + (y - 5))) < m 1 0 := w3.2.2.2.1 _ c1
    have t2 : tq m q (m 35 (3 * q + (y - 5))) < m 1 0 := w3.2.2.2.1 _ c3
    have cl1 := Wt.cl t1
    have cl2 := Wt.cl t2
    have ew : wCh y = 106 := by unfold wCh; rw [if_neg h0, if_neg h5]
    have er : wRe y = nI (y - 5) := by unfold wRe; rw [if_neg h0, if_neg h5]
    rw [ew] at h3
    rw [er] at h4
    have n106 : (narrow .char (.int (nI 106)) = .int (nI 106)) = True := eq_true rfl
    have e1 : wSg m q y = 61 := by unfold wSg; rw [if_neg h5]
    rw [e1]
    have jv : wTo m u q o place y g ≤ 99 ∧ ∀ {K : Int32 → Prop}, z_X8_joinedValue N 0 (nI place) σ K = K (nI (wTo m u q o place y g)) := by
      unfold own at y2
      by_cases hA : m 33 (3 * q + (y - 5)) = o place ∧ ahead o place (m 35 (3 * q + (y - 5))) = true
      · have n35 : ¬ m 35 (3 * q + (y - 5)) = m 33 (3 * q + (y - 5)) := fun e => c5 e.symm
        obtain ⟨g1, g2⟩ := v7 _ c3 hA.2
        obtain ⟨vv1, vv2⟩ := cvl_n Wt t2 c4 g1 g2
        have e2 : wTo m u q o place y g = cvl u (tq m q (m 35 (3 * q + (y - 5)))) (g (m 35 (3 * q + (y - 5)))) (m 36 (3 * q + (y - 5))) := by unfold wTo; rw [if_neg h5, if_pos hA.1]
        rw [e2]
        refine ⟨vv2, fun {K} => ?_⟩
        simp (disch := omega) only [z_X8_joinedValue, v2, v3, z_X5_reasonAt, h4, u_br_True, u_br_False, u_jn_u, u_lt_u, u_nn_s, u_brn_s, u_brn_n, nI_add, u_n_mul, u_n_lt, u_n_le, u_n_eq, u_n_sub, u_n_div, u_n_mod, nI_clamp, u_m1, u_m1q, u_wI_n, u_wA_n, u_br_t, u_br_f, ↓li_m1, li_0, li_1, li_2, li_3, li_4, li_5, li_6, li_7, li_8, li_9, li_10, li_12, li_13, li_26, li_40, li_60, li_61, li_62, li_99, li_100, li_102, li_106, li_114, li_112, li_117, li_108, li_103, li_120, li_300, li_360, li_512, li_1000, b10, b00, f_0, f_1, u_okT, u_nb_0, u_nb_1, d1, c_posQ v4 w3.1 hpl, c_partner d2 d4 (by omega : m 33 (3 * q + (y - 5)) < 3) (by omega : m 35 (3 * q + (y - 5)) < 3) (by omega : o place < 3), if_pos hA.1.symm, c_colOf d2 d4 d3 d5 (by omega : m 33 (3 * q + (y - 5)) < 3) (by omega : m 35 (3 * q + (y - 5)) < 3) (by omega : m 35 (3 * q + (y - 5)) < 3), if_neg n35, if_true, eq_self, c_held v5 (by omega : m 35 (3 * q + (y - 5)) < 3) hA.2 (by omega : m 36 (3 * q + (y - 5)) < 3), vv1]
      · rw [if_neg hA] at y2
        by_cases hB : m 35 (3 * q + (y - 5)) = o place ∧ ahead o place (m 33 (3 * q + (y - 5))) = true
        · have n33 : ¬ m 33 (3 * q + (y - 5)) = o place := fun e => c5 (e.trans hB.1.symm)
          have n33' : ¬ o place = m 33 (3 * q + (y - 5)) := fun e => n33 e.symm
          obtain ⟨g1, g2⟩ := v7 _ c1 hB.2
          obtain ⟨vv1, vv2⟩ := cvl_n Wt t1 c2 g1 g2
          have e2 : wTo m u q o place y g = cvl u (tq m q (m 33 (3 * q + (y - 5)))) (g (m 33 (3 * q + (y - 5)))) (m 34 (3 * q + (y - 5))) := by unfold wTo; rw [if_neg h5, if_neg n33]
          rw [e2]
          refine ⟨vv2, fun {K} => ?_⟩
          simp (disch := omega) only [z_X8_joinedValue, v2, v3, z_X5_reasonAt, h4, u_br_True, u_br_False, u_jn_u, u_lt_u, u_nn_s, u_brn_s, u_brn_n, nI_add, u_n_mul, u_n_lt, u_n_le, u_n_eq, u_n_sub, u_n_div, u_n_mod, nI_clamp, u_m1, u_m1q, u_wI_n, u_wA_n, u_br_t, u_br_f, ↓li_m1, li_0, li_1, li_2, li_3, li_4, li_5, li_6, li_7, li_8, li_9, li_10, li_12, li_13, li_26, li_40, li_60, li_61, li_62, li_99, li_100, li_102, li_106, li_114, li_112, li_117, li_108, li_103, li_120, li_300, li_360, li_512, li_1000, b10, b00, f_0, f_1, u_okT, u_nb_0, u_nb_1, d1, c_posQ v4 w3.1 hpl, c_partner d2 d4 (by omega : m 33 (3 * q + (y - 5)) < 3) (by omega : m 35 (3 * q + (y - 5)) < 3) (by omega : o place < 3), if_neg n33', if_pos hB.1.symm, c_colOf d2 d4 d3 d5 (by omega : m 33 (3 * q + (y - 5)) < 3) (by omega : m 35 (3 * q + (y - 5)) < 3) (by omega : m 33 (3 * q + (y - 5)) < 3), if_true, eq_self, c_held v5 (by omega : m 33 (3 * q + (y - 5)) < 3) hB.2 (by omega : m 34 (3 * q + (y - 5)) < 3), vv1]
        · rw [if_neg hB] at y2
          cases y2
    obtain ⟨j1, j2⟩ := jv
    refine ⟨Or.inl rfl, j1, fun {K} => ?_, fun {K} => ?_⟩
    · simp (disch := omega) only [z_X8_greatestWanted, z_X8_conditionOf, v2, v3, z_X5_wayAt, h3, n106, u_okT, u_br_True, u_br_False, u_jn_u, u_lt_u, u_nn_s, u_brn_s, u_brn_n, nI_add, u_n_mul, u_n_lt, u_n_le, u_n_eq, u_n_sub, u_n_div, u_n_mod, nI_clamp, u_m1, u_m1q, u_wI_n, u_wA_n, u_br_t, u_br_f, ↓li_m1, li_0, li_1, li_2, li_3, li_4, li_5, li_6, li_7, li_8, li_9, li_10, li_12, li_13, li_26, li_40, li_60, li_61, li_62, li_99, li_100, li_102, li_106, li_114, li_112, li_117, li_108, li_103, li_120, li_300, li_360, li_512, li_1000, b10, b00, f_0, f_1, u_okT, u_nb_0, u_nb_1, j2, gMx, Nat.reduceEqDiff, true_and, and_true, false_and, and_false, if_true, if_false, eq_self, and_self, Nat.reduceLT, Nat.reduceLeDiff, Nat.reduceAdd, Nat.reduceMul, Nat.reduceDiv, Nat.one_ne_zero]
    · simp (disch := omega) only [z_X8_leastWanted, z_X8_conditionOf, v2, v3, z_X5_wayAt, h3, n106, u_okT, u_br_True, u_br_False, u_jn_u, u_lt_u, u_nn_s, u_brn_s, u_brn_n, nI_add, u_n_mul, u_n_lt, u_n_le, u_n_eq, u_n_sub, u_n_div, u_n_mod, nI_clamp, u_m1, u_m1q, u_wI_n, u_wA_n, u_br_t, u_br_f, ↓li_m1, li_0, li_1, li_2, li_3, li_4, li_5, li_6, li_7, li_8, li_9, li_10, li_12, li_13, li_26, li_40, li_60, li_61, li_62, li_99, li_100, li_102, li_106, li_114, li_112, li_117, li_108, li_103, li_120, li_300, li_360, li_512, li_1000, b10, b00, f_0, f_1, u_okT, u_nb_0, u_nb_1, j2, lsM, Nat.reduceEqDiff, true_and, and_true, false_and, and_false, if_true, if_false, eq_self, and_self, Nat.reduceLT, Nat.reduceLeDiff, Nat.reduceAdd, Nat.reduceMul, Nat.reduceDiv, Nat.one_ne_zero]
def itm_ (m : Nat → Nat → Nat) (u : Nat → Int32) (q ban d place : Nat) (g : Nat → Nat) (E : Nat → List (Nat ⊕ (Nat → Nat))) : List (Nat ⊕ (Nat → Nat)) := itR m u q (plO m q ban d) (plW m q ban d) (plI m q ban d) place g E 0 none
def QP (m : Nat → Nat → Nat) (q ban d i : Nat) (s : St) : Prop := PL m q ban d s i ∧ sQ s 8 0 1 0 = some 0
theorem QP.kv (h : QP m q ban d i σ) (k : KV cc σ s) : QP m q ban d i s := by
  obtain ⟨h1, h2⟩ := h
  have e : ∀ f j, sP s 5 i f j = sP σ 5 i f j := fun f j => k.1 5 i f j (fun e => absurd e.1 (by decide)) (fun e => absurd e.1 (by decide))
  refine ⟨?_, by rw [k.2.2.1]; exact h2⟩
  unfold PL PH at h1 ⊢
  simp only [e]
  exact h1
/-- a place of a plan -/
theorem c_hit (hN : 1000000 ≤ N) (W : WQ m) (Wt : WT m u) (Wx : WX m) (hq : q < m 24 0) (hpl : place < m 25 q) (R : RVs σ cc F p2 p3 p4 rs) (V : VS m u q i (plO m q ban d) σ place g) (hQ : QP m q ban d i σ) (E : Nat → List (Nat ⊕ (Nat → Nat)))
    (hrow : ∀ r, r < 40 → ∀ s rs', RVs s cc F p2 p3 p4 rs' → VS m u q i (plO m q ban d) s place g → QP m q ban d i s → ∀ {K : St → Prop}, (∀ s2, RVs s2 cc F p2 p3 p4 ((E r).foldl (stEv cc F p2 p3 vf) rs') → KV cc s s2 → KH (Apl (plO m q ban d) (m 25 q) place) s s2 → K s2) → z_X8_visitRow (z_X8_visit N dd) N 0 (nI place) (some (tq m q (plO m q ban d place))) (nI r) s K)
    {K : St → Prop} (h : ∀ s, RVs s cc F p2 p3 p4 ((itm_ m u q ban d place g E).foldl (stEv cc F p2 p3 vf) rs) → KV cc σ s → KH (Apl (plO m q ban d) (m 25 q) place) σ s → K s) : z_X8_visit N (dd + 1) 0 (nI place) σ K := by
  have w3 := W.2.2 q hq
  have h1 := Wt.nt
  have hx6 := Wx.1
  have ho : PN (m 25 q) (plO m q ban d) := PN_pl w3.1
  have hop := ho.1 place hpl
  have ht : tq m q (plO m q ban d place) < m 1 0 := w3.2.2.2.1 _ hop
  have h40 := Wt.2.2.2.1 (tq m q (plO m q ban d place)) (by omega)
  obtain ⟨P1, P2, P3, P4, P5⟩ := hQ.1.2 place hpl
  have hok := plW_ok (ban := ban) (d := d) w3.1 hpl
  by_cases hy : plW m q ban d place = 0
  · have e5 : plI m q ban d place = none := by unfold plI wIdx; rw [if_pos hy]
    rw [e5] at P5
    rw [hy] at P3
    have ei : itm_ m u q ban d place g E = pgE (tq m q (plO m q ban d place)) E (m 3 (tq m q (plO m q ban d place))) := by
      unfold itm_ itR
      rw [if_pos hy, pgR_0]
    rw [ei] at h
    exact c_visP hN W Wt hq ho hpl R V P3 (Or.inr ⟨hQ.2, P5⟩) (fun r hr s rs' R' k' V' {K} hK => hrow r (by omega) s rs' R' V' (hQ.kv k') hK) h
  · obtain ⟨k, k1, k2, k3⟩ := wIdx_k hok hy
    have e5 : plI m q ban d place = some k := k1
    rw [e5] at P5
    have P5' : sP σ 5 i 5 place = nI k := P5
    obtain ⟨a1, a2, a3, a4⟩ := c_want (N := N) W Wt hq ho hpl V hok hy P3 P4
    have ei : itm_ m u q ban d place g E = ixE m u (tq m q (plO m q ban d place)) k (wSg m q (plW m q ban d place)) (wTo m u q (plO m q ban d) place (plW m q ban d place) g) E 0 none := by
      unfold itm_ itR
      rw [if_neg hy, e5]
      rfl
    rw [ei] at h
    have ce := fun (hlen : 0 < (ent m u (tq m q (plO m q ban d place)) (m 15 k)).length) {K : St → Prop} => c_entries (K := K) (zv := z_X8_visit N dd) hN W Wt Wx k2 k3 a1 a2 hlen R V a3 a4 (fun r hr s rs' R' k' V' {K} hK => hrow r (by omega) s rs' R' V' (hQ.kv k') hK)
    have V0 := V
    obtain ⟨v1, v2, v3, v4, v5, v6, v7⟩ := V
    obtain ⟨x1, x2, x3, x4, x5⟩ := v1.2.2.1.2.2.2 k k2
    rw [k3] at x4
    obtain ⟨ht', hc'⟩ := Wx.2 k k2
    rw [k3] at ht' hc'
    have hl40 := ent_len40 Wt ht' hc'
    have x9 := v1.2.2.1.2.2.1 k (by omega)
    rw [if_pos k2] at x9
    have ncw := nc_wCh (plW m q ban d place)
    have nw : ¬ wCh (plW m q ban d place) = 102 := by
      unfold wCh
      rw [if_neg hy]
      split <;> decide
    have wb : wCh (plW m q ban d place) < 1000 := by
      unfold wCh
      split
      · decide
      · split <;> decide
    have e102 : (nI (wCh (plW m q ban d place)) = nI 102) = False := by
      rw [u_n_eq (by omega) (by omega)]
      exact eq_false nw
    simp (disch := omega) only [z_X8_visit, v2, v3, u_br_True, u_br_False, u_jn_u, u_lt_u, u_nn_s, u_brn_s, u_brn_n, nI_add, u_n_mul, u_n_lt, u_n_le, u_n_eq, u_n_sub, u_n_div, u_n_mod, nI_clamp, u_m1, u_m1q, u_wI_n, u_wA_n, u_br_t, u_br_f, ↓li_m1, li_0, li_1, li_2, li_3, li_4, li_5, li_6, li_7, li_8, li_9, li_10, li_12, li_13, li_26, li_40, li_60, li_61, li_62, li_99, li_100, li_102, li_106, li_114, li_112, li_117, li_108, li_103, li_120, li_300, li_360, li_512, li_1000, z_X5_size, v4.1, c_posQ v4 w3.1 hpl, c_tabOf v1.2.2.2 hq (by omega : plO m q ban d place < 3), if_pos hop, hQ.2, z_X5_wayAt, z_X5_indexAt, P3, P5', ncw, eq_self, u_okT, e102, z_X9_indexAt, x9, z_X3_size, x4]
    by_cases hlen : (ent m u (tq m q (plO m q ban d place)) (m 15 k)).length ≤ 0
    · rw [u_br_t hlen]
      have e0 : ixE m u (tq m q (plO m q ban d place)) k (wSg m q (plW m q ban d place)) (wTo m u q (plO m q ban d) place (plW m q ban d place) g) E 0 none = [] := by
        unfold ixE
        rw [show (ent m u (tq m q (plO m q ban d place)) (m 15 k)).length = 0 by omega]
        rw [Nat.sub_zero, ixR_0, if_neg (by omega)]
      rw [e0] at h
      exact h σ R KV.refl KH.refl
    · rw [u_br_f hlen]
      exact ce (by omega) h
/-- a plan is followed through a cache -/
def evR (m : Nat → Nat → Nat) (u : Nat → Int32) (q ban d : Nat) : List (Nat ⊕ (Nat → Nat)) := evG m u q (plO m q ban d) (itm_ m u q ban d) (m 25 q) 0 (fun _ => 0)
def KFo (c : Nat) (σ σ' : St) : Prop := (∀ k i f j, ¬ (k = 8 ∧ i = 0) → ¬ (k = 0 ∧ i = c ∧ (f = 0 ∨ f = 2)) → sP σ' k i f j = sP σ k i f j) ∧ (∀ k i f j, ¬ (k = 8 ∧ i = 0) → sL_ σ' k i f j = sL_ σ k i f j) ∧ (∀ k i f j, ¬ (k = 8 ∧ i = 0 ∧ (f = 1 ∨ f = 2 ∨ f = 3 ∨ f = 4)) → sQ σ' k i f j = sQ σ k i f j) ∧ sD_ σ' = sD_ σ ∧ sV σ' = sV σ
theorem c_follow (hN : 1000000 ≤ N) (S : SS m u σ) (W : WQ m) (Wt : WT m u) (Wx : WX m) (hq : q < m 24 0) (h0 : 0 < m 25 q) (P : PL m q ban d σ i) (X : CO σ c F L) (Ck : CK F L) (vf : (Nat → Nat) → Int32) (hvf : ∀ g, vf g = vl u (tq m q 0) (g 0) 0) {K : Int32 → St → Prop}
    (h : ∀ s, RVs s (some c) F mI 0 0 ((evR m u q ban d).foldl (stEv (some c) F mI 0 vf) (r0 L)) → KFo c σ s → K (sP s 8 0 8 0) s) : z_X8_follow N 0 (some 0) (some q) (some i) (some c) σ K := by
  have w3 := W.2.2 q hq
  have ho : PN (m 25 q) (plO m q ban d) := PN_pl w3.1
  simp only [z_X8_follow, u_br_True, u_br_False, u_jn_u, u_lt_u, u_nn_s, u_brn_s, u_brn_n, li_0]
  refine c_begin hN (fun s a0 a1 a2 a3 a4 a5 a6 a7 a8 a9 b1 b2 b3 b4 b5 => ?_)
  have S2 : SS m u (stQ (stQ s 8 0 1 0 (some 0)) 8 0 4 0 (some c)) := S.kx ⟨fun k i f j h0 h5 h6 h8 => by simp only [sP_stQ]; exact a0.1 k i f j (fun e => h8 e.1), fun k i f j h8 => by
    rw [sQ_stQ, if_neg (fun e => h8 e.1), sQ_stQ, if_neg (fun e => h8 e.1)]; exact a0.2.2.1 k i f j (fun e => h8 e.1), fun i => by
    rw [sQ_stQ, if_neg (fun e => by have := e.2.2; omega), sQ_stQ, if_neg (fun e => by have := e.2.2; omega)]; exact a0.2.2.1 8 i 0 0 (fun e => by have := e.2.2; omega), a0.2.2.2.2⟩
  have e5 : ∀ f j, sP s 5 i f j = sP σ 5 i f j := fun f j => a0.1 5 i f j (fun e => absurd e.1 (by decide))
  have P2 : PL m q ban d (stQ (stQ s 8 0 1 0 (some 0)) 8 0 4 0 (some c)) i := by
    unfold PL PH at P ⊢
    simp only [sP_stQ, e5]
    exact P
  have X2 : CO (stQ (stQ s 8 0 1 0 (some 0)) 8 0 4 0 (some c)) c F L := by
    have e0 : ∀ f j, sP s 0 c f j = sP σ 0 c f j := fun f j => a0.1 0 c f j (fun e => absurd e.1 (by decide))
    unfold CO at X ⊢
    simp only [sP_stQ, e0]
    exact X
  have R : RVs (stQ (stQ s 8 0 1 0 (some 0)) 8 0 4 0 (some c)) (some c) F mI 0 0 (r0 L) := by
    unfold RVs
    refine ⟨by simp only [sQ_stQ, Nat.reduceEqDiff, true_and, and_true, false_and, and_false, if_true, if_false, eq_self, and_self, Nat.reduceLT, Nat.reduceLeDiff, Nat.reduceAdd, Nat.reduceMul, Nat.reduceDiv, Nat.one_ne_zero], a5, a6, a7, a8, a9, b1, b2, b3, b4, fun c' hc => by cases hc; exact ⟨X2, Ck⟩⟩
  have V : VS m u q i (plO m q ban d) (stQ (stQ s 8 0 1 0 (some 0)) 8 0 4 0 (some c)) 0 (fun _ => 0) := by
    refine ⟨S2, by simp only [sQ_stQ, Nat.reduceEqDiff, true_and, and_true, false_and, and_false, if_true, if_false, eq_self, and_self, Nat.reduceLT, Nat.reduceLeDiff, Nat.reduceAdd, Nat.reduceMul, Nat.reduceDiv, Nat.one_ne_zero]; exact a2, by simp only [sQ_stQ, Nat.reduceEqDiff, true_and, and_true, false_and, and_false, if_true, if_false, eq_self, and_self, Nat.reduceLT, Nat.reduceLeDiff, Nat.reduceAdd, Nat.reduceMul, Nat.reduceDiv, Nat.one_ne_zero]; exact a3, ⟨P2.1, fun p hp => ⟨(P2.2 p hp).1, (P2.2 p hp).2.1⟩⟩, fun x hx ha => by simp [ahead] at ha, fun x hx _ => b5 x hx, fun x hx ha => by simp [ahead] at ha⟩
  have Q : QP m q ban d i (stQ (stQ s 8 0 1 0 (some 0)) 8 0 4 0 (some c)) := ⟨P2, by simp only [sQ_stQ, Nat.reduceEqDiff, true_and, and_true, false_and, and_false, if_true, if_false, eq_self, and_self, Nat.reduceLT, Nat.reduceLeDiff, Nat.reduceAdd, Nat.reduceMul, Nat.reduceDiv, Nat.one_ne_zero]⟩
  refine c_visG (cc := some c) (F := F) (p2 := mI) (p3 := 0) (p4 := 0) (itm := itm_ m u q ban d) (Q := QP m q ban d i) (fun s s' hQ kv => hQ.kv kv) hN W Wt hq ho h0 (by omega) (vf := vf) hvf (fun dd place g σ rs hpl R V hQ E hrow {K} hK => c_hit hN W Wt Wx hq hpl R V hQ E hrow hK) (m 25 q - 1) 0 (fun _ => 0) (by omega) 4 (by omega) _ _ R V Q (fun s3 R3 k3 _ => ?_)
  rw [show m 25 q - 1 + 1 = m 25 q by omega] at R3
  refine h s3 R3 ⟨fun k i f j n1 n2 => ?_, fun k i f j n1 => ?_, fun k i f j n1 => ?_, ?_, ?_⟩
  · rw [k3.1 k i f j (fun e => n1 ⟨e.1, e.2.1⟩) (fun e => n2 ⟨e.1, by have := e.2.1; cases this; rfl, e.2.2⟩)]
    simp only [sP_stQ]
    exact a0.1 k i f j n1
  · rw [k3.2.1 k i f j (fun e => n1 ⟨e.1, e.2.1⟩)]
    exact a0.2.1 k i f j n1
  · rw [k3.2.2.1, sQ_stQ, if_neg (fun e => n1 ⟨e.1, e.2.1, by omega⟩), sQ_stQ, if_neg (fun e => n1 ⟨e.1, e.2.1, by omega⟩)]
    exact a0.2.2.1 k i f j n1
  · rw [k3.2.2.2.1]
    exact a0.2.2.2.1
  · rw [k3.2.2.2.2]
    exact a0.2.2.2.2
end CHIT
