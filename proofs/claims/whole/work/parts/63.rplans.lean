section RPLANS
variable {m m' mm : Nat → Nat → Nat} {u u' w : Nat → Int32} {L L' E : List Nat} {σ σ' σ1 σ2 : St} {N kk t c k n q ban place p way x y b a i s v told f j : Nat} {o o' ways : Nat → Nat} {P Q : Nat → Prop}
/-! the book -/
def rkL (e1 e2 e3 e4 : Bool) (y : Nat) : Nat := if y == 0 then 3 else if Nat.blt y 5 then (if [false, e1, e2, e3, e4].getD y false then 1 else 2) else 0
def vbL (v1 v2 v3 v4 v5 v6 v7 : Bool) (y : Nat) : Bool := [true, v1, v2, v3, v4, v5, v6, v7].getD y false
def bkL (vb : Nat → Bool) (rk : Nat → Nat) : Nat → Nat × Nat := it_ (fun y (s : Nat × Nat) => if (vb y && Nat.blt (rk y) s.1) = true then (rk y, y) else s) (9, 0)
def bwL (v1 v2 v3 v4 v5 v6 v7 e1 e2 e3 e4 : Bool) : Nat :=
  if v5 then 5 else if v6 then 6 else if v7 then 7 else if v1 && e1 then 1 else if v2 && e2 then 2 else if v3 && e3 then 3 else if v4 && e4 then 4 else
  if v1 && !e1 then 1 else if v2 && !e2 then 2 else if v3 && !e3 then 3 else if v4 && !e4 then 4 else 0
theorem bk_bw : ∀ v1 v2 v3 v4 v5 v6 v7 e1 e2 e3 e4 : Bool, (bkL (vbL v1 v2 v3 v4 v5 v6 v7) (rkL e1 e2 e3 e4) 8).2 = bwL v1 v2 v3 v4 v5 v6 v7 e1 e2 e3 e4 := by decide +kernel
def vbM (m : Nat → Nat → Nat) (q ban : Nat) (o : Nat → Nat) (place y : Nat) : Bool := y == 0 || (wIdx m q ban o place y).isSome
def rkM (m : Nat → Nat → Nat) (q y : Nat) : Nat := if y == 0 then 3 else if Nat.blt y 5 then (if m 30 (4 * q + (y - 1)) == 61 then 1 else 2) else 0
theorem bk_cong {vb vb' : Nat → Bool} {rk rk' : Nat → Nat} (h : ∀ y, y < n → vb y = vb' y ∧ rk y = rk' y) : bkL vb rk n = bkL vb' rk' n := by
  unfold bkL
  refine u_it_cong (fun y hy x => ?_)
  rw [(h y hy).1, (h y hy).2]
theorem bway_eq : bway m q ban place = (bkL (vbM m q ban idO place) (rkM m q) 8).2 := by
  have e : bkL (vbM m q ban idO place) (rkM m q) 8 = bkL (vbL (wIdx m q ban idO place 1).isSome (wIdx m q ban idO place 2).isSome (wIdx m q ban idO place 3).isSome (wIdx m q ban idO place 4).isSome (wIdx m q ban idO place 5).isSome (wIdx m q ban idO place 6).isSome (wIdx m q ban idO place 7).isSome) (rkL (m 30 (4 * q + 0) == 61) (m 30 (4 * q + 1) == 61) (m 30 (4 * q + 2) == 61) (m 30 (4 * q + 3) == 61)) 8 := by
    refine bk_cong (fun y hy => ?_)
    match y, hy with
    | 0, _ => exact ⟨rfl, rfl⟩
    | 1, _ => exact ⟨rfl, rfl⟩
    | 2, _ => exact ⟨rfl, rfl⟩
    | 3, _ => exact ⟨rfl, rfl⟩
    | 4, _ => exact ⟨rfl, rfl⟩
    | 5, _ => exact ⟨rfl, rfl⟩
    | 6, _ => exact ⟨rfl, rfl⟩
    | 7, _ => exact ⟨rfl, rfl⟩
    | k + 8, hk => exact absurd hk (by omega)
  rw [e, bk_bw]
  unfold bway bwL
  simp only [List.find?_cons, List.find?_nil]
  show _ = _
  generalize (wIdx m q ban idO place 1).isSome = v1
  generalize (wIdx m q ban idO place 2).isSome = v2
  generalize (wIdx m q ban idO place 3).isSome = v3
  generalize (wIdx m q ban idO place 4).isSome = v4
  generalize (wIdx m q ban idO place 5).isSome = v5
  generalize (wIdx m q ban idO place 6).isSome = v6
  generalize (wIdx m q ban idO place 7).isSome = v7
  cases v5
  · cases v6
    · cases v7
      · cases v1 <;> cases v2 <;> cases v3 <;> cases v4 <;> cases (m 30 (4 * q + 0) == 61) <;> cases (m 30 (4 * q + 1) == 61) <;> cases (m 30 (4 * q + 2) == 61) <;> cases (m 30 (4 * q + 3) == 61) <;> rfl
      · rfl
    · rfl
  · rfl
/-- a plan in the reference's registers -/
def PR (s : St) (n : Nat) (o ways : Nat → Nat) (ix : Nat → Option Nat) : Prop := ∀ p, p < n → sP s 12 0 39 p = nI (o p) ∧ sP s 12 0 40 p = nI (ways p) ∧ sP s 12 0 41 p = oI (ix p)
theorem r_rank (R : RI m u w L σ) (W : WQ m) (hq : q < m 24 0) (hy : y < 8) (hv : vbM m q ban o place y = true) {K : Int32 → Prop} : z_X12_rankOf N 0 (nI q) (nI y) σ K = K (nI (rkM m q y)) := by
  have w1 := W.1
  by_cases h0 : y = 0
  · subst h0
    simp (disch := omega) only [z_X12_rankOf, u_br_True, u_br_False, u_jn_u, u_lt_u, u_nn_s, u_brn_s, u_brn_n, nI_add, u_n_mul, u_n_lt, u_n_le, u_n_eq, u_n_sub, u_n_div, u_n_mod, nI_clamp, u_m1, u_m1q, u_wI_n, u_wA_n, u_br_t, u_br_f, ↓li_m1, li_0, li_1, li_2, li_3, li_4, li_5, li_6, li_7, li_8, li_9, li_10, li_12, li_13, li_26, li_40, li_60, li_61, li_62, li_99, li_100, li_102, li_106, li_114, li_112, li_117, li_108, li_103, li_120, li_300, li_360, li_512, li_1000, b00]
    rfl
  · by_cases h5 : y < 5
    · have hc : y ≤ m 27 q := by
        simp only [vbM, Bool.or_eq_true, beq_iff_eq] at hv
        rcases hv with hv | hv
        · exact absurd hv h0
        · exact (okW_c (o := o) (place := place) (ban := ban) ⟨hy, Or.inr hv⟩ h0 h5).1
      obtain ⟨b1, b2, b3, b4⟩ := (W.2.2 q hq).2.2.2.2.1 (y - 1) (by omega)
      have ej : 4 * q + y - 1 = 4 * q + (y - 1) := by omega
      have e1 : (y == 0) = false := beq_eq_false_iff_ne.mpr h0
      have e2 : Nat.blt y 5 = true := by rw [Nat.blt_eq]; exact h5
      have hb : m 30 (4 * q + (y - 1)) < 2 ^ 31 := by rcases b3 with h | h | h <;> omega
      simp (disch := omega) only [z_X12_rankOf, u_br_True, u_br_False, u_jn_u, u_lt_u, u_nn_s, u_brn_s, u_brn_n, nI_add, u_n_mul, u_n_lt, u_n_le, u_n_eq, u_n_sub, u_n_div, u_n_mod, nI_clamp, u_m1, u_m1q, u_wI_n, u_wA_n, u_br_t, u_br_f, ↓li_m1, li_0, li_1, li_2, li_3, li_4, li_5, li_6, li_7, li_8, li_9, li_10, li_12, li_13, li_26, li_40, li_60, li_61, li_62, li_99, li_100, li_102, li_106, li_114, li_112, li_117, li_108, li_103, li_120, li_300, li_360, li_512, li_1000, ej, (fun j => R.r 30 j rfl)]
      by_cases hs : m 30 (4 * q + (y - 1)) = 61
      · rw [u_br_t hs]
        simp [rkM, e1, e2, hs]
      · rw [u_br_f hs]
        simp [rkM, e1, e2, hs]
    · have e1 : (y == 0) = false := beq_eq_false_iff_ne.mpr h0
      have e2 : Nat.blt y 5 = false := by
        cases h9 : Nat.blt y 5 with
        | false => rfl
        | true => rw [Nat.blt_eq] at h9; exact absurd h9 h5
      simp (disch := omega) only [z_X12_rankOf, u_br_True, u_br_False, u_jn_u, u_lt_u, u_nn_s, u_brn_s, u_brn_n, nI_add, u_n_mul, u_n_lt, u_n_le, u_n_eq, u_n_sub, u_n_div, u_n_mod, nI_clamp, u_m1, u_m1q, u_wI_n, u_wA_n, u_br_t, u_br_f, ↓li_m1, li_0, li_1, li_2, li_3, li_4, li_5, li_6, li_7, li_8, li_9, li_10, li_12, li_13, li_26, li_40, li_60, li_61, li_62, li_99, li_100, li_102, li_106, li_114, li_112, li_117, li_108, li_103, li_120, li_300, li_360, li_512, li_1000]
      simp [rkM, e1, e2]
theorem bk_s {vb : Nat → Bool} {rk : Nat → Nat} : bkL vb rk (n + 1) = if (vb n && Nat.blt (rk n) (bkL vb rk n).1) = true then (rk n, n) else bkL vb rk n := rfl
theorem bk_b {vb : Nat → Bool} {rk : Nat → Nat} : (bkL vb rk n).1 ≤ 9 := by
  induction n with
  | zero => exact Nat.le_refl _
  | succ n ih =>
    rw [bk_s]
    split
    · rename_i h
      simp only [Bool.and_eq_true, Nat.blt_eq] at h
      have := h.2
      show rk n ≤ 9
      omega
    · exact ih
theorem bk_v {vb : Nat → Bool} {rk : Nat → Nat} (h0 : vb 0 = true) (hr : rk 0 < 9) : ∀ n, 0 < n → vb (bkL vb rk n).2 = true ∧ (bkL vb rk n).2 < n
  | 0, h => absurd h (by omega)
  | 1, _ => by
    rw [bk_s]
    have : (vb 0 && Nat.blt (rk 0) (bkL vb rk 0).1) = true := by
      rw [h0, Bool.true_and, Nat.blt_eq]; exact hr
    rw [if_pos this]
    exact ⟨h0, Nat.zero_lt_one⟩
  | n + 2, _ => by
    have ih := bk_v h0 hr (n + 1) (by omega)
    rw [bk_s]
    split
    · rename_i h
      simp only [Bool.and_eq_true] at h
      exact ⟨h.1, by show n + 1 < n + 2; omega⟩
    · exact ⟨ih.1, by omega⟩
theorem wI_oI (hv : vbM m q ban o place y = true) : wI_ y (wIdx m q ban o place y) = oI (wIdx m q ban o place y) := by
  unfold wI_
  by_cases h0 : y = 0
  · subst h0
    rw [if_pos rfl]
    rfl
  · rw [if_neg h0]
    simp only [vbM, Bool.or_eq_true, beq_iff_eq] at hv
    rcases hv with hv | hv
    · exact absurd hv h0
    · cases hw : wIdx m q ban o place y with
      | none => rw [hw] at hv; cases hv
      | some k => rfl
theorem wIdx_lt (h : wIdx m q ban o place y = some k) : k < m 13 0 := by
  unfold wIdx at h
  split at h
  · cases h
  · split at h
    · split at h
      · exact (iOn_lt h).1
      · cases h
    · split at h
      · obtain ⟨c, _, hw2⟩ := Option.bind_eq_some_iff.mp h
        exact (iOn_lt hw2).1
      · cases h
theorem r_book (hN : 1000000 ≤ N) (R : RI m u w L σ) (W : WQ m) (Wx : WX m) (Wt : WT m u) (hq : q < m 24 0) (h45 : sP σ 12 0 45 0 = nI ban) (hb : ban < 64) {K : St → Prop}
    (h : ∀ s, KF fplan σ s → PR s (m 25 q) idO (bway m q ban) (fun p => wIdx m q ban idO p (bway m q ban p)) → K s) : z_X12_plansByBook N 0 (nI q) σ K := by
  have w1 := W.1
  have w3 := (W.2.2 q hq).1
  have hx6 := Wx.1
  simp (disch := omega) only [z_X12_plansByBook, u_br_True, u_br_False, u_jn_u, u_lt_u, u_nn_s, u_brn_s, u_brn_n, ↓li_m1, li_0, li_1, li_2, li_3, li_4, li_5, li_6, li_7, li_8, li_9, li_10, li_12, li_13, li_26, li_40, li_60, li_61, li_62, li_99, li_100, li_102, li_106, li_114, li_112, li_117, li_108, li_103, li_120, li_300, li_360, li_512, li_1000, nI_add, u_n_mul, u_n_lt, u_n_le, u_n_eq, u_n_sub, u_n_div, u_n_mod, nI_clamp, u_m1, u_m1q, u_wI_n, u_wA_n, u_br_t, u_br_f, li_m2]
  refine for_u (m 25 q) (by omega) (by omega) (fun i s => KF fplan σ s ∧ PR s i idO (bway m q ban) (fun p => wIdx m q ban idO p (bway m q ban p))) 0 (by omega) (fun self i s hi hI hs => ?_) ⟨KF.refl, fun p hp => by omega⟩
  obtain ⟨i1, i2⟩ := hI
  have Rs := R.kf i1 t_plan
  by_cases hl : i < m 25 q
  · simp (disch := omega) only [u_br_True, u_br_False, u_jn_u, u_lt_u, u_nn_s, u_brn_s, u_brn_n, nI_add, u_n_mul, u_n_lt, u_n_le, u_n_eq, u_n_sub, u_n_div, u_n_mod, nI_clamp, u_m1, u_m1q, u_wI_n, u_wA_n, u_br_t, u_br_f, (fun j => Rs.r 25 j rfl)]
    refine for_m 8 (by omega) (by omega) (fun y a s => KF fplan σ s ∧ a = nI (bkL (vbM m q ban idO i) (rkM m q) y).1 ∧ PR s i idO (bway m q ban) (fun p => wIdx m q ban idO p (bway m q ban p)) ∧ sP s 12 0 39 i = nI i ∧ (0 < y → sP s 12 0 40 i = nI (bkL (vbM m q ban idO i) (rkM m q) y).2 ∧ sP s 12 0 41 i = oI (wIdx m q ban idO i (bkL (vbM m q ban idO i) (rkM m q) y).2))) 0 (by omega) (fun self2 y a s2 hy hI2 hs2 => ?_) ⟨i1.st ⟨by omega, by omega⟩, rfl, fun p hp => ?_, by simp only [sP_stP, Nat.reduceEqDiff, true_and, and_true, false_and, and_false, if_true, if_false, eq_self, and_self, Nat.reduceLT, Nat.reduceLeDiff, Nat.reduceAdd, Nat.reduceMul, Nat.reduceDiv, Nat.one_ne_zero], fun h => by omega⟩
    · obtain ⟨j1, rfl, j2, j3, j4⟩ := hI2
      have Rs2 := R.kf j1 t_plan
      have hbk := bk_b (vb := vbM m q ban idO i) (rk := rkM m q) (n := y)
      by_cases hly : y < 8
      · simp (disch := omega) only [u_br_True, u_br_False, u_jn_u, u_lt_u, u_nn_s, u_brn_s, u_brn_n, nI_add, u_n_mul, u_n_lt, u_n_le, u_n_eq, u_n_sub, u_n_div, u_n_mod, nI_clamp, u_m1, u_m1q, u_wI_n, u_wA_n, u_br_t, u_br_f]
        refine r_idx hN Rs2 W Wx Wt hq (o := idO) (fun p hp => ?_) (fun p hp => by show p < m 25 q; omega) (by rw [j1.ff (by simp only [f39, f401, fbest, fplan]; decide)]; exact h45) hb hl hly ?_
        · by_cases e : p = i
          · subst e; exact j3
          · exact (j2 p (by omega)).1
        · have es := bk_s (vb := vbM m q ban idO i) (rk := rkM m q) (n := y)
          by_cases hv : vbM m q ban idO i y = true
          · rw [wI_oI hv]
            have hnle : ¬ oI (wIdx m q ban idO i y) ≤ m2I := by
              cases hw : wIdx m q ban idO i y with
              | none => show ¬ mI ≤ m2I; rw [m2_m1]; exact fun h => h
              | some k => have := wIdx_lt hw; show ¬ nI k ≤ m2I; rw [m2_le (by omega)]; exact fun h => h
            have hrk : rkM m q y ≤ 3 := by
              unfold rkM
              split
              · omega
              · split
                · split <;> omega
                · omega
            rw [u_br_f hnle]
            simp (disch := omega) only [r_rank Rs2 W hq hly hv, u_br_True, u_br_False, u_jn_u, u_lt_u, u_nn_s, u_brn_s, u_brn_n, nI_add, u_n_mul, u_n_lt, u_n_le, u_n_eq, u_n_sub, u_n_div, u_n_mod, nI_clamp, u_m1, u_m1q, u_wI_n, u_wA_n, u_br_t, u_br_f]
            by_cases hlt : rkM m q y < (bkL (vbM m q ban idO i) (rkM m q) y).1
            · have hc : (vbM m q ban idO i y && Nat.blt (rkM m q y) (bkL (vbM m q ban idO i) (rkM m q) y).1) = true := by
                rw [hv, Bool.true_and, Nat.blt_eq]; exact hlt
              rw [if_pos hc] at es
              rw [u_br_f (by omega)]
              refine hs2 _ _ hly ⟨(j1.st ⟨by omega, by omega⟩).st ⟨by omega, by omega⟩, by rw [es], fun p hp => ?_, by simp only [sP_stP, Nat.reduceEqDiff, true_and, and_true, false_and, and_false, if_true, if_false, eq_self, and_self, Nat.reduceLT, Nat.reduceLeDiff, Nat.reduceAdd, Nat.reduceMul, Nat.reduceDiv, Nat.one_ne_zero]; exact j3, fun _ => ?_⟩
              · obtain ⟨a1, a2, a3⟩ := j2 p hp
                simp only [sP_stP, Nat.reduceEqDiff, true_and, and_true, false_and, and_false, if_true, if_false, eq_self, and_self, Nat.reduceLT, Nat.reduceLeDiff, Nat.reduceAdd, Nat.reduceMul, Nat.reduceDiv, Nat.one_ne_zero]
                rw [if_neg (by omega), if_neg (by omega)]
                exact ⟨a1, a2, a3⟩
              · rw [es]
                simp only [sP_stP, Nat.reduceEqDiff, true_and, and_true, false_and, and_false, if_true, if_false, eq_self, and_self, Nat.reduceLT, Nat.reduceLeDiff, Nat.reduceAdd, Nat.reduceMul, Nat.reduceDiv, Nat.one_ne_zero]
            · have hc : ¬ (vbM m q ban idO i y && Nat.blt (rkM m q y) (bkL (vbM m q ban idO i) (rkM m q) y).1) = true := by
                rw [hv, Bool.true_and, Nat.blt_eq]; exact hlt
              rw [if_neg hc] at es
              rw [u_br_t (by omega)]
              refine hs2 _ _ hly ⟨j1, by rw [es], j2, j3, fun _ => ?_⟩
              rw [es]
              refine j4 ?_
              by_cases hy0 : y = 0
              · subst hy0
                exact absurd (show 3 < 9 by decide) hlt
              · omega
          · have hc : ¬ (vbM m q ban idO i y && Nat.blt (rkM m q y) (bkL (vbM m q ban idO i) (rkM m q) y).1) = true := by
              rw [Bool.and_eq_true]; exact fun h => hv h.1
            rw [if_neg hc] at es
            have hy0 : ¬ y = 0 := fun e => hv (by subst e; rfl)
            have hw : wIdx m q ban idO i y = none := by
              cases hw : wIdx m q ban idO i y with
              | none => rfl
              | some k => exact absurd (by simp [vbM, hw]) hv
            rw [u_br_t (by rw [hw, wI_n hy0, m2_m2]; trivial)]
            refine hs2 _ _ hly ⟨j1, by rw [es], j2, j3, fun _ => ?_⟩
            rw [es]
            exact j4 (by omega)
      · have hy8 : y = 8 := by omega
        subst hy8
        simp (disch := omega) only [u_br_True, u_br_False, u_jn_u, u_lt_u, u_nn_s, u_brn_s, u_brn_n, nI_add, u_n_mul, u_n_lt, u_n_le, u_n_eq, u_n_sub, u_n_div, u_n_mod, nI_clamp, u_m1, u_m1q, u_wI_n, u_wA_n, u_br_t, u_br_f]
        refine hs _ hl ⟨j1, fun p hp => ?_⟩
        by_cases e : p = i
        · subst e
          obtain ⟨a1, a2⟩ := j4 (by omega)
          rw [← bway_eq] at a1 a2
          exact ⟨j3, a1, a2⟩
        · exact j2 p (by omega)
    · obtain ⟨a1, a2, a3⟩ := i2 p hp
      simp only [sP_stP, Nat.reduceEqDiff, true_and, and_true, false_and, and_false, if_true, if_false, eq_self, and_self, Nat.reduceLT, Nat.reduceLeDiff, Nat.reduceAdd, Nat.reduceMul, Nat.reduceDiv, Nat.one_ne_zero]
      rw [if_neg (by omega)]
      exact ⟨a1, a2, a3⟩
  · simp (disch := omega) only [u_br_True, u_br_False, u_jn_u, u_lt_u, u_nn_s, u_brn_s, u_brn_n, nI_add, u_n_mul, u_n_lt, u_n_le, u_n_eq, u_n_sub, u_n_div, u_n_mod, nI_clamp, u_m1, u_m1q, u_wI_n, u_wA_n, u_br_t, u_br_f, (fun j => Rs.r 25 j rfl)]
    rw [show i = m 25 q by omega] at i2
    exact h s i1 i2
end RPLANS
