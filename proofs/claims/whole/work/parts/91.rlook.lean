section RLOOK
variable {m : Nat → Nat → Nat} {u w : Nat → Int32} {L L0 : List Nat} {σ σ' s s2 σ1 : St} {N kk n q p d ban t c k a x i j place v told F key p3 r e : Nat} {g o : Nat → Nat} {p2 : Int32} {rs : RSt} {vf : (Nat → Nat) → Int32}
theorem idx_nd (hn : L.Nodup) (hj : j < L.length) (h : L.getD j 0 = key) : L.idxOf key = j := by
  have hm : key ∈ L := h ▸ getD_mem hj
  have hi := List.idxOf_lt_length_of_mem hm
  have e1 : L[L.idxOf key] = key := List.getElem_idxOf hi
  rw [getD_e hj] at h
  have hp := List.pairwise_iff_getElem.mp hn
  rcases Nat.lt_trichotomy (L.idxOf key) j with h1 | h1 | h1
  · exact absurd (e1.trans h.symm) (hp _ _ hi hj h1)
  · exact h1
  · exact absurd (h.trans e1.symm) (hp _ _ hj hi h1)
theorem idx_at (hm : key ∈ L) : L.getD (L.idxOf key) 0 = key := by
  rw [getD_e (List.idxOf_lt_length_of_mem hm)]
  exact List.getElem_idxOf _
/-- the reference's run: its cache, misses and reads -/
def RW (c : Nat) (s : St) (rs : RSt) : Prop := RO s c rs.2.2.2.1 ∧ sP s 12 0 22 0 = nI rs.2.1 ∧ sP s 12 0 23 0 = nI rs.1
def puF (N : Nat) (p1 p2 : Int32) (K : St → Prop) (w91 : Int32 → St → Prop) (x14 : Int32) (h13 : St) : Prop :=
  br (x14 ≤ 0) (
    wA 26 (13 * p1) (stP h13 12 0 20 ((13 * p1)).toNatClampNeg p2) fun h16 =>
    wI 2 p1 <|
    wA 2 p1 (stP h16 12 0 21 (p1).toNatClampNeg ((sP h16 12 0 21 (p1).toNatClampNeg) + 1)) fun h19 =>
    wI 2 p1 <|
    z_X12_fewest N (sP h19 12 0 21 (p1).toNatClampNeg) (sP h19 12 0 19 0) h19 fun v24 =>
    wA 2 p1 (stP h19 12 0 21 (p1).toNatClampNeg v24) fun h25 =>
    K h25) (
    wI 26 (((13 * p1) + x14) - 1) <|
    wA 26 ((13 * p1) + x14) (stP h13 12 0 20 (((13 * p1) + x14)).toNatClampNeg (sP h13 12 0 20 ((((13 * p1) + x14) - 1)).toNatClampNeg)) fun h29 =>
    w91 (x14 + (-1)) h29)
theorem look_eq {p1 : Int32} {K : St → Prop} : z_X12_looksUp N 0 p1 p2 σ K = (
  lt_ (stP σ 12 0 23 0 ((sP σ 12 0 23 0) + 1)) fun h2 =>
  fx2 (fun (w15 : Int32 → Int32 → Prop) (x3 : Int32) (x4 : Int32) =>
    wI 2 p1 <|
    br ((sP h2 12 0 21 (p1).toNatClampNeg) ≤ x4) (
      jn (fun (v8 : Int32) =>
        lt_ (stP h2 12 0 22 0 ((sP h2 12 0 22 0) + v8)) fun h9 =>
        jn (fun (h10 : St) =>
          wI 2 p1 <|
          fx2 (puF N p1 p2 K) N (sP h10 12 0 21 (p1).toNatClampNeg) h10) (fun j83 =>
          br (x3 < 0) (
            j83 h9) (
            z_X12_takesOut N 0 p1 x3 h9 fun h30 =>
            j83 h30))) (fun j69 =>
        br (0 ≤ x3) (
          j69 0) (
          j69 1))) (
      wI 26 ((13 * p1) + x4) <|
      jn (fun (v33 : Int32) =>
        w15 v33 (x4 + 1)) (fun j48 =>
        br ((sP h2 12 0 20 (((13 * p1) + x4)).toNatClampNeg) = p2) (
          j48 x4) (
          j48 x3)))) N (-1) 0) := rfl
/-- the key comes first, the others behind it -/
theorem r_push (hN : 1000000 ≤ N) (X : RO σ c L) (hc : c < 2) (hL : L.length ≤ 12) (hF : sP σ 12 0 19 0 = nI F) (hF12 : F ≤ 12) {K : St → Prop} (h : ∀ s, RO s c ((key :: L).take F) → KR c σ s → sP s 12 0 22 0 = sP σ 12 0 22 0 → sP s 12 0 23 0 = sP σ 12 0 23 0 → K s) : fx2 (puF N (nI c) (nI key) K) N (nI L.length) σ := by
  refine down_u 0 L.length (Nat.zero_le _) (by omega) (by omega) (fun i s => KR c σ s ∧ sP s 12 0 21 c = nI L.length ∧ sP s 12 0 22 0 = sP σ 12 0 22 0 ∧ sP s 12 0 23 0 = sP σ 12 0 23 0 ∧ ∀ j, j ≤ L.length → sP s 12 0 20 (13 * c + j) = if i < j then nI (L.getD (j - 1) 0) else sP σ 12 0 20 (13 * c + j)) (fun self i s h1 h2 hI hs => ?_) ⟨KR.refl, X.1, rfl, rfl, fun j hj => by rw [if_neg (by omega)]⟩
  obtain ⟨i1, i2, i3, i4, i5⟩ := hI
  by_cases hi0 : i = 0
  · subst hi0
    have e19 : sP s 12 0 19 0 = nI F := by rw [i1.f (by decide)]; exact hF
    simp (disch := omega) only [puF, u_br_True, u_br_False, u_jn_u, u_lt_u, u_nn_s, u_brn_s, u_brn_n, nI_add, u_n_mul, u_n_lt, u_n_le, u_n_eq, u_n_sub, u_n_div, u_n_mod, nI_clamp, u_m1, u_m1q, u_wI_n, u_wA_n, u_br_t, u_br_f, ↓li_m1, li_0, li_1, li_2, li_3, li_4, li_5, li_6, li_7, li_8, li_9, li_10, li_12, li_13, li_26, li_40, li_60, li_61, li_62, li_99, li_100, li_102, li_106, li_114, li_112, li_117, li_108, li_103, li_120, li_300, li_360, li_512, li_1000, sP_stP, Nat.reduceEqDiff, true_and, and_true, false_and, and_false, if_true, if_false, eq_self, and_self, Nat.reduceLT, Nat.reduceLeDiff, Nat.reduceAdd, Nat.reduceMul, Nat.reduceDiv, Nat.one_ne_zero, i2, e19, r_fewest]
    refine h _ ⟨?_, fun j hj => ?_⟩ (((i1.st (Or.inl ⟨rfl, by omega, by omega⟩)).st (Or.inr (Or.inl ⟨rfl, rfl⟩))).st (Or.inr (Or.inl ⟨rfl, rfl⟩))) (by simp only [sP_stP, Nat.reduceEqDiff, true_and, and_true, false_and, and_false, if_true, if_false, eq_self, and_self, Nat.reduceLT, Nat.reduceLeDiff, Nat.reduceAdd, Nat.reduceMul, Nat.reduceDiv, Nat.one_ne_zero]; exact i3) (by simp only [sP_stP, Nat.reduceEqDiff, true_and, and_true, false_and, and_false, if_true, if_false, eq_self, and_self, Nat.reduceLT, Nat.reduceLeDiff, Nat.reduceAdd, Nat.reduceMul, Nat.reduceDiv, Nat.one_ne_zero]; exact i4)
    · simp only [sP_stP, Nat.reduceEqDiff, true_and, and_true, false_and, and_false, if_true, if_false, eq_self, and_self, Nat.reduceLT, Nat.reduceLeDiff, Nat.reduceAdd, Nat.reduceMul, Nat.reduceDiv, Nat.one_ne_zero]
      rw [List.length_take, List.length_cons, Nat.min_comm]
    · rw [List.length_take, List.length_cons] at hj
      rw [getD_take (by omega)]
      simp only [sP_stP, Nat.reduceEqDiff, true_and, and_true, false_and, and_false, if_true, if_false, eq_self, and_self, Nat.reduceLT, Nat.reduceLeDiff, Nat.reduceAdd, Nat.reduceMul, Nat.reduceDiv, Nat.one_ne_zero]
      by_cases hj0 : j = 0
      · subst hj0
        rw [if_pos (by omega)]
        rfl
      · rw [if_neg (by omega), i5 j (by omega), if_pos (by omega)]
        obtain ⟨j', rfl⟩ : ∃ j', j = j' + 1 := ⟨j - 1, by omega⟩
        rw [List.getD_cons_succ, Nat.add_sub_cancel]
  · have e2 : sP s 12 0 20 (13 * c + i - 1) = nI (L.getD (i - 1) 0) := by
      have := i5 (i - 1) (by omega)
      rw [if_neg (by omega), X.2 (i - 1) (by omega)] at this
      rw [show 13 * c + i - 1 = 13 * c + (i - 1) by omega]
      exact this
    simp (disch := omega) only [puF, u_br_True, u_br_False, u_jn_u, u_lt_u, u_nn_s, u_brn_s, u_brn_n, nI_add, u_n_mul, u_n_lt, u_n_le, u_n_eq, u_n_sub, u_n_div, u_n_mod, nI_clamp, u_m1, u_m1q, u_wI_n, u_wA_n, u_br_t, u_br_f, ↓li_m1, li_0, li_1, li_2, li_3, li_4, li_5, li_6, li_7, li_8, li_9, li_10, li_12, li_13, li_26, li_40, li_60, li_61, li_62, li_99, li_100, li_102, li_106, li_114, li_112, li_117, li_108, li_103, li_120, li_300, li_360, li_512, li_1000, e2, u_addm]
    refine hs _ (by omega) ⟨i1.st (Or.inl ⟨rfl, by omega, by omega⟩), by simp only [sP_stP, Nat.reduceEqDiff, true_and, and_true, false_and, and_false, if_true, if_false, eq_self, and_self, Nat.reduceLT, Nat.reduceLeDiff, Nat.reduceAdd, Nat.reduceMul, Nat.reduceDiv, Nat.one_ne_zero]; exact i2, by simp only [sP_stP, Nat.reduceEqDiff, true_and, and_true, false_and, and_false, if_true, if_false, eq_self, and_self, Nat.reduceLT, Nat.reduceLeDiff, Nat.reduceAdd, Nat.reduceMul, Nat.reduceDiv, Nat.one_ne_zero]; exact i3, by simp only [sP_stP, Nat.reduceEqDiff, true_and, and_true, false_and, and_false, if_true, if_false, eq_self, and_self, Nat.reduceLT, Nat.reduceLeDiff, Nat.reduceAdd, Nat.reduceMul, Nat.reduceDiv, Nat.one_ne_zero]; exact i4, fun j hj => ?_⟩
    simp only [sP_stP, Nat.reduceEqDiff, true_and, and_true, false_and, and_false, if_true, if_false, eq_self, and_self, Nat.reduceLT, Nat.reduceLeDiff, Nat.reduceAdd, Nat.reduceMul, Nat.reduceDiv, Nat.one_ne_zero]
    by_cases hj2 : j = i
    · rw [if_pos (by omega), if_pos (by omega), hj2]
    · rw [if_neg (by omega), i5 j hj]
      by_cases h9 : i < j
      · rw [if_pos h9, if_pos (by omega)]
      · rw [if_neg h9, if_neg (by omega)]
theorem r_look (hN : 1000000 ≤ N) (X : RW c s rs) (hc : c < 2) (hF : sP s 12 0 19 0 = nI F) (Ck : CK F rs.2.2.2.1) (hk : key < 1000) {K : St → Prop} (h : ∀ s', RW c s' (stEv (some x) F p2 p3 vf rs (.inl key)) → KR c s s' → K s') : z_X12_looksUp N 0 (nI c) (nI key) s K := by
  obtain ⟨X1, X2, X3⟩ := X
  obtain ⟨c1, c2, c3, c4⟩ := Ck
  have k1 : KR c s (stP s 12 0 23 0 (nI (rs.1 + 1))) := KR.refl.st (Or.inr (Or.inr (Or.inr rfl)))
  simp (disch := omega) only [look_eq, X3, u_br_True, u_br_False, u_jn_u, u_lt_u, u_nn_s, u_brn_s, u_brn_n, nI_add, u_n_mul, u_n_lt, u_n_le, u_n_eq, u_n_sub, u_n_div, u_n_mod, nI_clamp, u_m1, u_m1q, u_wI_n, u_wA_n, u_br_t, u_br_f, ↓li_m1, li_0, li_1, li_2, li_3, li_4, li_5, li_6, li_7, li_8, li_9, li_10, li_12, li_13, li_26, li_40, li_60, li_61, li_62, li_99, li_100, li_102, li_106, li_114, li_112, li_117, li_108, li_103, li_120, li_300, li_360, li_512, li_1000]
  refine for_v rs.2.2.2.1.length (by omega) (by omega) (fun j a => a = if rs.2.2.2.1.idxOf key < j then nI (rs.2.2.2.1.idxOf key) else mI) 0 (by omega) (fun self j a hj ha hs => ?_) (by rw [if_neg (by omega)])
  subst ha
  have e21 : sP (stP s 12 0 23 0 (nI (rs.1 + 1))) 12 0 21 c = nI rs.2.2.2.1.length := by simp only [sP_stP, Nat.reduceEqDiff, true_and, and_true, false_and, and_false, if_true, if_false, eq_self, and_self, Nat.reduceLT, Nat.reduceLeDiff, Nat.reduceAdd, Nat.reduceMul, Nat.reduceDiv, Nat.one_ne_zero]; exact X1.1
  by_cases hl : j < rs.2.2.2.1.length
  · have e20 : sP (stP s 12 0 23 0 (nI (rs.1 + 1))) 12 0 20 (13 * c + j) = nI (rs.2.2.2.1.getD j 0) := by simp only [sP_stP, Nat.reduceEqDiff, true_and, and_true, false_and, and_false, if_true, if_false, eq_self, and_self, Nat.reduceLT, Nat.reduceLeDiff, Nat.reduceAdd, Nat.reduceMul, Nat.reduceDiv, Nat.one_ne_zero]; exact X1.2 j hl
    have hx := c4 _ (getD_mem hl)
    simp (disch := omega) only [u_br_True, u_br_False, u_jn_u, u_lt_u, u_nn_s, u_brn_s, u_brn_n, nI_add, u_n_mul, u_n_lt, u_n_le, u_n_eq, u_n_sub, u_n_div, u_n_mod, nI_clamp, u_m1, u_m1q, u_wI_n, u_wA_n, u_br_t, u_br_f, ↓li_m1, li_0, li_1, li_2, li_3, li_4, li_5, li_6, li_7, li_8, li_9, li_10, li_12, li_13, li_26, li_40, li_60, li_61, li_62, li_99, li_100, li_102, li_106, li_114, li_112, li_117, li_108, li_103, li_120, li_300, li_360, li_512, li_1000, e21, e20]
    by_cases he : rs.2.2.2.1.getD j 0 = key
    · rw [u_br_t he]
      have := idx_nd c3 hl he
      refine hs _ hl ?_
      rw [if_pos (by omega), this]
    · rw [u_br_f he]
      refine hs _ hl ?_
      have : rs.2.2.2.1.idxOf key ≠ j := fun e => by
        have hm : key ∈ rs.2.2.2.1 := by
          refine Decidable.byContradiction (fun hn => ?_)
          have := List.idxOf_eq_length hn
          omega
        have := idx_at hm
        rw [e] at this
        exact he this
      by_cases h9 : rs.2.2.2.1.idxOf key < j
      · rw [if_pos h9, if_pos (by omega)]
      · rw [if_neg h9, if_neg (by omega)]
  · have hj2 : j = rs.2.2.2.1.length := by omega
    subst hj2
    have hle : rs.2.2.2.1.idxOf key ≤ rs.2.2.2.1.length := List.idxOf_le_length
    by_cases hin : key ∈ rs.2.2.2.1
    · have hlt := List.idxOf_lt_length_of_mem hin
      have e22 : sP (stP s 12 0 23 0 (nI (rs.1 + 1))) 12 0 22 0 = nI rs.2.1 := by simp only [sP_stP, Nat.reduceEqDiff, true_and, and_true, false_and, and_false, if_true, if_false, eq_self, and_self, Nat.reduceLT, Nat.reduceLeDiff, Nat.reduceAdd, Nat.reduceMul, Nat.reduceDiv, Nat.one_ne_zero]; exact X2
      simp (disch := omega) only [if_pos hlt, u_br_True, u_br_False, u_jn_u, u_lt_u, u_nn_s, u_brn_s, u_brn_n, nI_add, u_n_mul, u_n_lt, u_n_le, u_n_eq, u_n_sub, u_n_div, u_n_mod, nI_clamp, u_m1, u_m1q, u_wI_n, u_wA_n, u_br_t, u_br_f, ↓li_m1, li_0, li_1, li_2, li_3, li_4, li_5, li_6, li_7, li_8, li_9, li_10, li_12, li_13, li_26, li_40, li_60, li_61, li_62, li_99, li_100, li_102, li_106, li_114, li_112, li_117, li_108, li_103, li_120, li_300, li_360, li_512, li_1000, e21, e22]
      have k2 : KR c s (stP (stP s 12 0 23 0 (nI (rs.1 + 1))) 12 0 22 0 (nI (rs.2.1 + 0))) := k1.st (Or.inr (Or.inr (Or.inl rfl)))
      refine r_takesOut hN (L := rs.2.2.2.1) ⟨by simp only [sP_stP, Nat.reduceEqDiff, true_and, and_true, false_and, and_false, if_true, if_false, eq_self, and_self, Nat.reduceLT, Nat.reduceLeDiff, Nat.reduceAdd, Nat.reduceMul, Nat.reduceDiv, Nat.one_ne_zero]; exact X1.1, fun j hj => by simp only [sP_stP, Nat.reduceEqDiff, true_and, and_true, false_and, and_false, if_true, if_false, eq_self, and_self, Nat.reduceLT, Nat.reduceLeDiff, Nat.reduceAdd, Nat.reduceMul, Nat.reduceDiv, Nat.one_ne_zero]; exact X1.2 j hj⟩ hc (by omega) hlt (fun s3 Y1 Y2 Y3 Y4 => ?_)
      have hl2 : (rs.2.2.2.1.eraseIdx (rs.2.2.2.1.idxOf key)).length = rs.2.2.2.1.length - 1 := by rw [List.length_eraseIdx, if_pos hlt]
      have e19 : sP s3 12 0 19 0 = nI F := by rw [Y2.f (by decide)]; simp only [sP_stP, Nat.reduceEqDiff, true_and, and_true, false_and, and_false, if_true, if_false, eq_self, and_self, Nat.reduceLT, Nat.reduceLeDiff, Nat.reduceAdd, Nat.reduceMul, Nat.reduceDiv, Nat.one_ne_zero]; exact hF
      simp (disch := omega) only [u_br_True, u_br_False, u_jn_u, u_lt_u, u_nn_s, u_brn_s, u_brn_n, nI_add, u_n_mul, u_n_lt, u_n_le, u_n_eq, u_n_sub, u_n_div, u_n_mod, nI_clamp, u_m1, u_m1q, u_wI_n, u_wA_n, u_br_t, u_br_f, ↓li_m1, li_0, li_1, li_2, li_3, li_4, li_5, li_6, li_7, li_8, li_9, li_10, li_12, li_13, li_26, li_40, li_60, li_61, li_62, li_99, li_100, li_102, li_106, li_114, li_112, li_117, li_108, li_103, li_120, li_300, li_360, li_512, li_1000, Y1.1]
      refine r_push hN Y1 hc (by omega) e19 c1 (fun s4 Z1 Z2 Z3 Z4 => ?_)
      refine h s4 ⟨?_, ?_, ?_⟩ ((k2.trans Y2).trans Z2)
      · simp only [stEv, lkL, if_pos hin]
        have : ((key :: rs.2.2.2.1.eraseIdx (rs.2.2.2.1.idxOf key)).take F) = key :: rs.2.2.2.1.eraseIdx (rs.2.2.2.1.idxOf key) := List.take_of_length_le (by simp only [List.length_cons]; omega)
        rw [← this]
        exact Z1
      · simp only [stEv, if_pos hin]
        rw [Z3, Y3]
        simp only [sP_stP, Nat.reduceEqDiff, true_and, and_true, false_and, and_false, if_true, if_false, eq_self, and_self, Nat.reduceLT, Nat.reduceLeDiff, Nat.reduceAdd, Nat.reduceMul, Nat.reduceDiv, Nat.one_ne_zero]
        rfl
      · simp only [stEv]
        rw [Z4, Y4]
        simp only [sP_stP, Nat.reduceEqDiff, true_and, and_true, false_and, and_false, if_true, if_false, eq_self, and_self, Nat.reduceLT, Nat.reduceLeDiff, Nat.reduceAdd, Nat.reduceMul, Nat.reduceDiv, Nat.one_ne_zero]
    · have hlt : ¬ rs.2.2.2.1.idxOf key < rs.2.2.2.1.length := by
        rw [List.idxOf_eq_length hin]
        omega
      have e22 : sP (stP s 12 0 23 0 (nI (rs.1 + 1))) 12 0 22 0 = nI rs.2.1 := by simp only [sP_stP, Nat.reduceEqDiff, true_and, and_true, false_and, and_false, if_true, if_false, eq_self, and_self, Nat.reduceLT, Nat.reduceLeDiff, Nat.reduceAdd, Nat.reduceMul, Nat.reduceDiv, Nat.one_ne_zero]; exact X2
      have k2 : KR c s (stP (stP s 12 0 23 0 (nI (rs.1 + 1))) 12 0 22 0 (nI (rs.2.1 + 1))) := k1.st (Or.inr (Or.inr (Or.inl rfl)))
      have m0 : (nI 0 ≤ mI) = False := eq_false (by decide)
      have e21' : sP (stP (stP s 12 0 23 0 (nI (rs.1 + 1))) 12 0 22 0 (nI (rs.2.1 + 1))) 12 0 21 c = nI rs.2.2.2.1.length := by simp only [sP_stP, Nat.reduceEqDiff, true_and, and_true, false_and, and_false, if_true, if_false, eq_self, and_self, Nat.reduceLT, Nat.reduceLeDiff, Nat.reduceAdd, Nat.reduceMul, Nat.reduceDiv, Nat.one_ne_zero]; exact X1.1
      simp (disch := omega) only [if_neg hlt, u_br_True, u_br_False, u_jn_u, u_lt_u, u_nn_s, u_brn_s, u_brn_n, nI_add, u_n_mul, u_n_lt, u_n_le, u_n_eq, u_n_sub, u_n_div, u_n_mod, nI_clamp, u_m1, u_m1q, u_wI_n, u_wA_n, u_br_t, u_br_f, ↓li_m1, li_0, li_1, li_2, li_3, li_4, li_5, li_6, li_7, li_8, li_9, li_10, li_12, li_13, li_26, li_40, li_60, li_61, li_62, li_99, li_100, li_102, li_106, li_114, li_112, li_117, li_108, li_103, li_120, li_300, li_360, li_512, li_1000, e21, e22, e21', m0, mlt0]
      refine r_push hN (L := rs.2.2.2.1) ⟨e21', fun j hj => by simp only [sP_stP, Nat.reduceEqDiff, true_and, and_true, false_and, and_false, if_true, if_false, eq_self, and_self, Nat.reduceLT, Nat.reduceLeDiff, Nat.reduceAdd, Nat.reduceMul, Nat.reduceDiv, Nat.one_ne_zero]; exact X1.2 j hj⟩ hc (by omega) (by simp only [sP_stP, Nat.reduceEqDiff, true_and, and_true, false_and, and_false, if_true, if_false, eq_self, and_self, Nat.reduceLT, Nat.reduceLeDiff, Nat.reduceAdd, Nat.reduceMul, Nat.reduceDiv, Nat.one_ne_zero]; exact hF) c1 (fun s4 Z1 Z2 Z3 Z4 => ?_)
      refine h s4 ⟨?_, ?_, ?_⟩ (k2.trans Z2)
      · simp only [stEv, lkL, if_neg hin]
        exact Z1
      · simp only [stEv, if_neg hin]
        rw [Z3]
        simp only [sP_stP, Nat.reduceEqDiff, true_and, and_true, false_and, and_false, if_true, if_false, eq_self, and_self, Nat.reduceLT, Nat.reduceLeDiff, Nat.reduceAdd, Nat.reduceMul, Nat.reduceDiv, Nat.one_ne_zero]
      · simp only [stEv]
        rw [Z4]
        simp only [sP_stP, Nat.reduceEqDiff, true_and, and_true, false_and, and_false, if_true, if_false, eq_self, and_self, Nat.reduceLT, Nat.reduceLeDiff, Nat.reduceAdd, Nat.reduceMul, Nat.reduceDiv, Nat.one_ne_zero]
end RLOOK
