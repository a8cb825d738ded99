section CCOUNTS
variable {m m' mm : Nat → Nat → Nat} {u u' w : Nat → Int32} {L L' E : List Nat} {σ σ' σ1 σ2 : St} {N kk t c k n q ban place p way x y b a i s v told f j cc d lo hi : Nat} {o o' ways g : Nat → Nat} {P Q : Nat → Prop}  {ix : Nat → Option Nat}
theorem cC_eq (hT : TCo m q ban σ) (hk : k < 4) (h : (wIdx m q ban o place (k + 1)).isSome = true) : sP σ 6 0 2 k = nI (wCost m q o place (k + 1)) := by
  obtain ⟨c1, c2⟩ := okW_c (m := m) (q := q) (ban := ban) (o := o) (place := place) (y := k + 1) ⟨by omega, Or.inr h⟩ (by omega) (by omega)
  have e := (hT.1 k (by omega)).2.1
  rw [Nat.add_sub_cancel] at c2
  rw [e]
  unfold wCost
  rw [if_neg (by omega), if_pos (by omega), Nat.add_sub_cancel, c2]
theorem cJ_eq (W : WQ m) (hq : q < m 24 0) (hT : TJ m q ban σ) (hk : k < 3) (h : (wIdx m q ban o place (k + 5)).isSome = true) : sP σ 6 0 5 (k * 3 + o place) = nI (wCost m q o place (k + 5)) := by
  obtain ⟨c1, c, hown⟩ := okW_j (m := m) (q := q) (ban := ban) (o := o) (place := place) (y := k + 5) ⟨by omega, Or.inr h⟩ (by omega)
  rw [Nat.add_sub_cancel] at c1 hown
  obtain ⟨e1, e3⟩ := own_v W hq c1 (by rw [hown]; rfl)
  rw [((hT k c1).2 (o place) e3).1]
  unfold wCost jun
  rw [if_neg (by omega), if_neg (by omega), Nat.add_sub_cancel, e1]
  rfl
theorem c_cheap (hN : 1000000 ≤ N) (S : SS m u σ) (W : WQ m) (Wx : WX m) (Wt : WT m u) (hq : q < m 24 0) (hC : TCo m q ban σ) (hT : TJ m q ban σ) (hP : PO σ 0 (m 25 q) o) (ho : Pm o) (hpl : place < m 25 q) (hon : o place < m 25 q) (hW : PW σ 0 place 0 none) {K : St → Prop}
    (h : ∀ s, K5 0 σ s → PO s 0 (m 25 q) o → PW s 0 place (gway m q ban o place) (wIdx m q ban o place (gway m q ban o place)) → (∀ p y ix, p ≠ place → PW σ 0 p y ix → PW s 0 p y ix) → K s) : z_X6_takeCheapestWay N 0 (some q) (nI place) σ K := by
  have w3 := (W.2.2 q hq).1
  have hx6 := Wx.1
  have ho3 := ho.1 place (by omega)
  have cle : ∀ y, okW m q ban o place y → wCost m q o place y < 2 ^ 31 := fun y hy => by have := wCost_le W Wt hq hon hy; omega
  have hc0 : ∀ s : St, C0 s → sQ s 6 0 0 0 = some 0 := fun s C => C.2.2.2.2.2.2.2.2.2.1
  simp (disch := omega) only [z_X6_takeCheapestWay, u_br_True, u_br_False, u_jn_u, u_lt_u, u_nn_s, u_brn_s, u_brn_n, ↓li_m1, li_0, li_1, li_2, li_3, li_4, li_5, li_6, li_7, li_8, li_9, li_10, li_12, li_13, li_26, li_40, li_60, li_61, li_62, li_99, li_100, li_102, li_106, li_114, li_112, li_117, li_108, li_103, li_120, li_300, li_360, li_512, li_1000, hc0 σ S.1, c_cost S W Wt hq hC hT hP ho hpl hon hW ⟨by omega, Or.inl rfl⟩]
  have e0 : wIdx m q ban o place 0 = none := rfl
  refine for_m 4 (by omega) (by omega) (fun k a s => a = nI (wCost m q o place (gwN m q ban o place k)) ∧ K5 0 σ s ∧ PO s 0 (m 25 q) o ∧ PW s 0 place (gwN m q ban o place k) (wIdx m q ban o place (gwN m q ban o place k)) ∧ ∀ p y ix, p ≠ place → PW σ 0 p y ix → PW s 0 p y ix) 0 (by omega) (fun self k a s hk hI hs => ?_) ⟨rfl, K5.refl, hP, hW, fun p y ix _ h => h⟩
  obtain ⟨rfl, i1, i2, i3, i4⟩ := hI
  have Ss := S.kx i1.kpl.kx
  have Cs := hC.k5 i1
  have Ts := hT.k5 i1
  have gs := gwN_spec (m := m) (q := q) (ban := ban) (o := o) (place := place) k
  have gc := cle _ ⟨by omega, gs.2.1⟩
  by_cases hl : k < 4
  · have hb : ∀ z, wIdx m q ban o place (k + 1) = some z → z < 2 ^ 31 := fun z hz => by have := wIdx_lt hz; omega
    have g1 := gwN_s (m := m) (q := q) (ban := ban) (o := o) (place := place) (n := k)
    simp (disch := omega) only [u_br_True, u_br_False, u_jn_u, u_lt_u, u_nn_s, u_brn_s, u_brn_n, nI_add, u_n_mul, u_n_lt, u_n_le, u_n_eq, u_n_sub, u_n_div, u_n_mod, nI_clamp, u_m1, u_m1q, u_wI_n, u_wA_n, u_br_t, u_br_f, hc0 s Ss.1, c_iC Ss.2.2.2 W hq Cs i2 ho hpl hl]
    by_cases hv : (wIdx m q ban o place (k + 1)).isSome = true
    · have hne : ¬ oI (wIdx m q ban o place (k + 1)) = mI := fun e => by
        have := (oI_m1 hb).mp e
        rw [this] at hv; cases hv
      have hcc := cle (k + 1) ⟨by omega, Or.inr hv⟩
      rw [u_br_f hne]
      simp (disch := omega) only [cC_eq Cs hl hv, nI_add, u_n_mul, u_n_lt, u_n_le, u_n_eq, u_n_sub, u_n_div, u_n_mod, nI_clamp, u_m1, u_m1q, u_wI_n, u_wA_n, u_br_t, u_br_f]
      by_cases hlt : wCost m q o place (k + 1) < wCost m q o place (gwN m q ban o place k)
      · rw [if_pos ⟨hv, hlt⟩] at g1
        have er : wRe (k + 1) = nI k := by unfold wRe; rw [if_neg (by omega), if_pos (by omega), Nat.add_sub_cancel]
        have ew : nI (wCh (k + 1)) = nI 99 := by unfold wCh; rw [if_neg (by omega), if_pos (by omega)]
        rw [u_br_f (by omega), ← ew, ← er, c_setWay (by omega)]
        refine hs _ _ hl ⟨by rw [g1], ((i1.st (Or.inl rfl)).st (Or.inl rfl)).st (Or.inl rfl), i2.set, by rw [g1]; exact PW.set, fun p y ix hne2 hp => (i4 p y ix hne2 hp).ne hne2⟩
      · rw [if_neg (fun h => hlt h.2)] at g1
        rw [u_br_t (by omega)]
        exact hs _ _ hl ⟨by rw [g1], i1, i2, by rw [g1]; exact i3, i4⟩
    · rw [if_neg (fun h => hv h.1)] at g1
      rw [u_br_t ((oI_m1 hb).mpr (by simpa using hv))]
      exact hs _ _ hl ⟨by rw [g1], i1, i2, by rw [g1]; exact i3, i4⟩
  · have hk4 : k = 4 := by omega
    subst hk4
    simp (disch := omega) only [u_br_True, u_br_False, u_jn_u, u_lt_u, u_nn_s, u_brn_s, u_brn_n, nI_add, u_n_mul, u_n_lt, u_n_le, u_n_eq, u_n_sub, u_n_div, u_n_mod, nI_clamp, u_m1, u_m1q, u_wI_n, u_wA_n, u_br_t, u_br_f]
    refine for_m 3 (by omega) (by omega) (fun k a s => a = nI (wCost m q o place (gwN m q ban o place (4 + k))) ∧ K5 0 σ s ∧ PO s 0 (m 25 q) o ∧ PW s 0 place (gwN m q ban o place (4 + k)) (wIdx m q ban o place (gwN m q ban o place (4 + k))) ∧ ∀ p y ix, p ≠ place → PW σ 0 p y ix → PW s 0 p y ix) 0 (by omega) (fun self2 k a s hk hI hs2 => ?_) ⟨rfl, i1, i2, i3, i4⟩
    obtain ⟨rfl, j1, j2, j3, j4⟩ := hI
    have Ss := S.kx j1.kpl.kx
    have Ts := hT.k5 j1
    have gs := gwN_spec (m := m) (q := q) (ban := ban) (o := o) (place := place) (4 + k)
    have gc := cle _ ⟨by omega, gs.2.1⟩
    by_cases hl2 : k < 3
    · have hb : ∀ z, wIdx m q ban o place (k + 5) = some z → z < 2 ^ 31 := fun z hz => by have := wIdx_lt hz; omega
      have g1 := gwN_s (m := m) (q := q) (ban := ban) (o := o) (place := place) (n := 4 + k)
      rw [show 4 + k + 1 = k + 5 by omega] at g1
      simp (disch := omega) only [u_br_True, u_br_False, u_jn_u, u_lt_u, u_nn_s, u_brn_s, u_brn_n, nI_add, u_n_mul, u_n_lt, u_n_le, u_n_eq, u_n_sub, u_n_div, u_n_mod, nI_clamp, u_m1, u_m1q, u_wI_n, u_wA_n, u_br_t, u_br_f, hc0 s Ss.1, c_iJ Ss.2.2.2 W hq Ts j2 ho hpl hl2, c_posAt j2 (by omega : place < 3), c_jCost hl2 ho3]
      by_cases hv : (wIdx m q ban o place (k + 5)).isSome = true
      · have hne : ¬ oI (wIdx m q ban o place (k + 5)) = mI := fun e => by
          have := (oI_m1 hb).mp e
          rw [this] at hv; cases hv
        have hcc := cle (k + 5) ⟨by omega, Or.inr hv⟩
        rw [u_br_f hne]
        simp (disch := omega) only [cJ_eq W hq Ts hl2 hv, nI_add, u_n_mul, u_n_lt, u_n_le, u_n_eq, u_n_sub, u_n_div, u_n_mod, nI_clamp, u_m1, u_m1q, u_wI_n, u_wA_n, u_br_t, u_br_f]
        by_cases hlt : wCost m q o place (k + 5) < wCost m q o place (gwN m q ban o place (4 + k))
        · rw [if_pos ⟨hv, hlt⟩] at g1
          have er : wRe (k + 5) = nI k := by unfold wRe; rw [if_neg (by omega), if_neg (by omega), Nat.add_sub_cancel]
          have ew : nI (wCh (k + 5)) = nI 106 := by unfold wCh; rw [if_neg (by omega), if_neg (by omega)]
          rw [u_br_f (by omega), ← ew, ← er, c_setWay (by omega)]
          refine hs2 _ _ hl2 ⟨by rw [← Nat.add_assoc, show 4 + k + 1 = k + 5 by omega, g1], ((j1.st (Or.inl rfl)).st (Or.inl rfl)).st (Or.inl rfl), j2.set, by rw [← Nat.add_assoc, show 4 + k + 1 = k + 5 by omega, g1]; exact PW.set, fun p y ix hne2 hp => (j4 p y ix hne2 hp).ne hne2⟩
        · rw [if_neg (fun h => hlt h.2)] at g1
          rw [u_br_t (by omega)]
          exact hs2 _ _ hl2 ⟨by rw [← Nat.add_assoc, show 4 + k + 1 = k + 5 by omega, g1], j1, j2, by rw [← Nat.add_assoc, show 4 + k + 1 = k + 5 by omega, g1]; exact j3, j4⟩
      · rw [if_neg (fun h => hv h.1)] at g1
        rw [u_br_t ((oI_m1 hb).mpr (by simpa using hv))]
        exact hs2 _ _ hl2 ⟨by rw [← Nat.add_assoc, show 4 + k + 1 = k + 5 by omega, g1], j1, j2, by rw [← Nat.add_assoc, show 4 + k + 1 = k + 5 by omega, g1]; exact j3, j4⟩
    · have hk3 : k = 3 := by omega
      subst hk3
      simp (disch := omega) only [u_br_True, u_br_False, u_jn_u, u_lt_u, u_nn_s, u_brn_s, u_brn_n, nI_add, u_n_mul, u_n_lt, u_n_le, u_n_eq, u_n_sub, u_n_div, u_n_mod, nI_clamp, u_m1, u_m1q, u_wI_n, u_wA_n, u_br_t, u_br_f]
      exact h s j1 j2 j3 j4
/-- one plan is copied into another -/
theorem c_copy (hN : 1000000 ≤ N) (hi : i ≠ 0) (hP : PO σ 0 n o) (hn : n < 2 ^ 31) (ho : Pm o) (hW : ∀ p, p < 3 → PW σ 0 p (ways p) (ix p)) {K : St → Prop} (h : ∀ s, K5 i σ s → PO s i n o → (∀ p, p < 3 → PW s i p (ways p) (ix p)) → sL_ s 5 i 6 0 = sL_ σ 5 0 6 0 → K s) : z_X5_copyFrom N i (some 0) σ K := by
  simp only [z_X5_copyFrom, z_X5_size, z_X5_guess, hP.1, sL_stP, u_br_True, u_br_False, u_jn_u, u_lt_u, u_nn_s, u_brn_s, u_brn_n, ↓li_m1, li_0, li_1, li_2, li_3, li_4, li_5, li_6, li_7, li_8, li_9, li_10, li_12, li_13, li_26, li_40, li_60, li_61, li_62, li_99, li_100, li_102, li_106, li_114, li_112, li_117, li_108, li_103, li_120, li_300, li_360, li_512, li_1000]
  have k0 : K5 i σ (stL (stP σ 5 i 0 0 (nI n)) 5 i 6 0 (sL_ σ 5 0 6 0)) := (K5.refl.st (Or.inr rfl)).stl (Or.inr rfl)
  refine for_u 3 (by omega) (by omega) (fun p s => K5 i σ s ∧ (∀ f z, sP s 5 0 f z = sP σ 5 0 f z) ∧ sP s 5 i 0 0 = nI n ∧ sL_ s 5 i 6 0 = sL_ σ 5 0 6 0 ∧ ∀ z, z < p → sP s 5 i 1 z = nI (o z) ∧ sP s 5 i 2 (o z) = nI z ∧ PW s i z (ways z) (ix z)) 0 (by omega) (fun self p s hp hI hs => ?_) ⟨k0, fun f z => by rw [sP_stL, sP_stP, if_neg (by omega)], by simp only [sP_stL, sP_stP, Nat.reduceEqDiff, true_and, and_true, false_and, and_false, if_true, if_false, eq_self, and_self, Nat.reduceLT, Nat.reduceLeDiff, Nat.reduceAdd, Nat.reduceMul, Nat.reduceDiv, Nat.one_ne_zero], by simp only [sL_stL, Nat.reduceEqDiff, true_and, and_true, false_and, and_false, if_true, if_false, eq_self, and_self, Nat.reduceLT, Nat.reduceLeDiff, Nat.reduceAdd, Nat.reduceMul, Nat.reduceDiv, Nat.one_ne_zero], fun z hz => by omega⟩
  obtain ⟨i1, i2, i3, i4, i5⟩ := hI
  by_cases hl : p < 3
  · have hP0 : PO s 0 n o := by
      unfold PO at hP ⊢
      simp only [i2]
      exact hP
    have ho3 := ho.1 p hl
    have hne0 : ¬ (0 = i) := fun e => hi e.symm
    have hW0 : PW (stP (stP s 5 i 1 p (nI (o p))) 5 i 2 (o p) (nI p)) 0 p (ways p) (ix p) := by
      have := hW p hl
      unfold PW at this ⊢
      simp only [sP_stP, hne0, i2, Nat.reduceEqDiff, true_and, and_true, false_and, and_false, if_true, if_false, eq_self, and_self, Nat.reduceLT, Nat.reduceLeDiff, Nat.reduceAdd, Nat.reduceMul, Nat.reduceDiv, Nat.one_ne_zero]
      exact this
    simp (disch := omega) only [u_br_True, u_br_False, u_jn_u, u_lt_u, u_nn_s, u_brn_s, u_brn_n, nI_add, u_n_mul, u_n_lt, u_n_le, u_n_eq, u_n_sub, u_n_div, u_n_mod, nI_clamp, u_m1, u_m1q, u_wI_n, u_wA_n, u_br_t, u_br_f, c_posAt hP0 hl]
    simp (disch := omega) only [c_wayAt hW0 hl, c_reaAt hW0 hl, c_idxAt hW0 hl, c_setWay hl]
    refine hs _ hl ⟨((((i1.st (Or.inr rfl)).st (Or.inr rfl)).st (Or.inr rfl)).st (Or.inr rfl)).st (Or.inr rfl), fun f z => ?_, by simp only [sP_stP, Nat.reduceEqDiff, true_and, and_true, false_and, and_false, if_true, if_false, eq_self, and_self, Nat.reduceLT, Nat.reduceLeDiff, Nat.reduceAdd, Nat.reduceMul, Nat.reduceDiv, Nat.one_ne_zero]; exact i3, by simp only [sL_stP]; exact i4, fun z hz => ?_⟩
    · simp only [sP_stP, hne0, Nat.reduceEqDiff, true_and, and_true, false_and, and_false, if_true, if_false, eq_self, and_self, Nat.reduceLT, Nat.reduceLeDiff, Nat.reduceAdd, Nat.reduceMul, Nat.reduceDiv, Nat.one_ne_zero]
      exact i2 f z
    · by_cases e : z = p
      · subst e
        exact ⟨by simp only [sP_stP, Nat.reduceEqDiff, true_and, and_true, false_and, and_false, if_true, if_false, eq_self, and_self, Nat.reduceLT, Nat.reduceLeDiff, Nat.reduceAdd, Nat.reduceMul, Nat.reduceDiv, Nat.one_ne_zero], by simp only [sP_stP, Nat.reduceEqDiff, true_and, and_true, false_and, and_false, if_true, if_false, eq_self, and_self, Nat.reduceLT, Nat.reduceLeDiff, Nat.reduceAdd, Nat.reduceMul, Nat.reduceDiv, Nat.one_ne_zero], PW.set⟩
      · obtain ⟨a1, a2, a3⟩ := i5 z (by omega)
        have hne : ¬ o z = o p := fun h9 => e (ho.2.1 z (by omega) p hl h9)
        refine ⟨by simp only [sP_stP, Nat.reduceEqDiff, true_and, and_true, false_and, and_false, if_true, if_false, eq_self, and_self, Nat.reduceLT, Nat.reduceLeDiff, Nat.reduceAdd, Nat.reduceMul, Nat.reduceDiv, Nat.one_ne_zero]; rw [if_neg e]; exact a1, by simp only [sP_stP, Nat.reduceEqDiff, true_and, and_true, false_and, and_false, if_true, if_false, eq_self, and_self, Nat.reduceLT, Nat.reduceLeDiff, Nat.reduceAdd, Nat.reduceMul, Nat.reduceDiv, Nat.one_ne_zero]; rw [if_neg hne]; exact a2, PW.ne ?_ e⟩
        unfold PW at a3 ⊢
        simp only [sP_stP, Nat.reduceEqDiff, true_and, and_true, false_and, and_false, if_true, if_false, eq_self, and_self, Nat.reduceLT, Nat.reduceLeDiff, Nat.reduceAdd, Nat.reduceMul, Nat.reduceDiv, Nat.one_ne_zero]
        exact a3
  · have hp3 : p = 3 := by omega
    subst hp3
    simp (disch := omega) only [u_br_True, u_br_False, u_jn_u, u_lt_u, u_nn_s, u_brn_s, u_brn_n, nI_add, u_n_mul, u_n_lt, u_n_le, u_n_eq, u_n_sub, u_n_div, u_n_mod, nI_clamp, u_m1, u_m1q, u_wI_n, u_wA_n, u_br_t, u_br_f]
    exact h s i1 ⟨i3, fun z hz => ⟨(i5 z hz).1, (i5 z hz).2.1⟩⟩ (fun z hz => (i5 z hz).2.2) i4
end CCOUNTS
