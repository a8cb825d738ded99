section CPLAN
variable {m m' mm : Nat → Nat → Nat} {u u' w : Nat → Int32} {L L' E : List Nat} {σ σ' σ1 σ2 : St} {N kk t c k n q ban place p way x y b a i s v told f j cc d lo hi : Nat} {o o' ways g : Nat → Nat} {P Q : Nat → Prop}
def PO (σ : St) (i n : Nat) (o : Nat → Nat) : Prop := sP σ 5 i 0 0 = nI n ∧ ∀ p, p < 3 → sP σ 5 i 1 p = nI (o p) ∧ sP σ 5 i 2 (o p) = nI p
def PW (σ : St) (i p y : Nat) (ix : Option Nat) : Prop := sP σ 5 i 3 p = nI (wCh y) ∧ sP σ 5 i 4 p = wRe y ∧ sP σ 5 i 5 p = oI ix
def Pm (o : Nat → Nat) : Prop := (∀ p, p < 3 → o p < 3) ∧ (∀ p, p < 3 → ∀ p', p' < 3 → o p = o p' → p = p') ∧ ∀ a, a < 3 → ∃ p, p < 3 ∧ o p = a
theorem ord_A : ∀ x, x < 6 → ∀ p, p < 3 → ordA (x * 3 + p) = nI (ordN x p) := by decide +kernel
theorem ord_1 : ∀ x, x < 6 → ∀ p, p < 3 → ordN x p < 3 := by decide +kernel
theorem ord_2 : ∀ x, x < 6 → ∀ p, p < 3 → ∀ p', p' < 3 → (!(ordN x p == ordN x p') || p == p') = true := by decide +kernel
theorem ord_3 : ∀ x, x < 6 → ∀ a, a < 3 → (List.range 3).any (fun p => ordN x p == a) = true := by decide +kernel
theorem ord_P (h : x < 6) : Pm (ordN x) := by
  refine ⟨ord_1 x h, fun p hp p' hp' e => ?_, fun a ha => ?_⟩
  · have := ord_2 x h p hp p' hp'
    rw [e, beq_self_eq_true] at this
    simpa using this
  · have := ord_3 x h a ha
    simp only [List.any_eq_true, List.mem_range, beq_iff_eq] at this
    exact this
theorem nc_wCh (y : Nat) : narrow .char (.int (nI (wCh y))) = .int (nI (wCh y)) := by
  unfold wCh
  split
  · decide
  · split <;> decide
theorem vn_wCh (y : Nat) : vp_nar .char (nI (wCh y)) = nI (wCh y) := by
  unfold wCh
  split
  · decide
  · split <;> decide
theorem ahead_o (ho : Pm o) (hp : p < 3) (hpl : place ≤ 3) : ahead o place (o p) = true ↔ p < place := by
  simp only [ahead, List.any_eq_true, List.mem_range, beq_iff_eq]
  constructor
  · rintro ⟨k, hk, e⟩
    have := ho.2.1 k (by omega) p hp e
    omega
  · exact fun h => ⟨p, h, rfl⟩
theorem c_posAt (hP : PO σ i n o) (hp : p < 3) {K : Int32 → Prop} : z_X5_positionAt N i (nI p) σ K = K (nI (o p)) := by
  simp (disch := omega) only [z_X5_positionAt, u_br_True, u_br_False, u_jn_u, u_lt_u, u_nn_s, u_brn_s, u_brn_n, nI_add, u_n_mul, u_n_lt, u_n_le, u_n_eq, u_n_sub, u_n_div, u_n_mod, nI_clamp, u_m1, u_m1q, u_wI_n, u_wA_n, u_br_t, u_br_f, ↓li_m1, li_0, li_1, li_2, li_3, li_4, li_5, li_6, li_7, li_8, li_9, li_10, li_12, li_13, li_26, li_40, li_60, li_61, li_62, li_99, li_100, li_102, li_106, li_114, li_112, li_117, li_108, li_103, li_120, li_300, li_360, li_512, li_1000, (hP.2 p hp).1]
theorem c_wayAt {ix : Option Nat} (hW : PW σ i p y ix) (hp : p < 3) {K : Int32 → Prop} : z_X5_wayAt N i (nI p) σ K = K (nI (wCh y)) := by
  simp (disch := omega) only [z_X5_wayAt, u_br_True, u_br_False, u_jn_u, u_lt_u, u_nn_s, u_brn_s, u_brn_n, nI_add, u_n_mul, u_n_lt, u_n_le, u_n_eq, u_n_sub, u_n_div, u_n_mod, nI_clamp, u_m1, u_m1q, u_wI_n, u_wA_n, u_br_t, u_br_f, ↓li_m1, li_0, li_1, li_2, li_3, li_4, li_5, li_6, li_7, li_8, li_9, li_10, li_12, li_13, li_26, li_40, li_60, li_61, li_62, li_99, li_100, li_102, li_106, li_114, li_112, li_117, li_108, li_103, li_120, li_300, li_360, li_512, li_1000, hW.1]
  rw [u_ok_t (nc_wCh y)]
theorem c_reaAt {ix : Option Nat} (hW : PW σ i p y ix) (hp : p < 3) {K : Int32 → Prop} : z_X5_reasonAt N i (nI p) σ K = K (wRe y) := by
  simp (disch := omega) only [z_X5_reasonAt, u_br_True, u_br_False, u_jn_u, u_lt_u, u_nn_s, u_brn_s, u_brn_n, nI_add, u_n_mul, u_n_lt, u_n_le, u_n_eq, u_n_sub, u_n_div, u_n_mod, nI_clamp, u_m1, u_m1q, u_wI_n, u_wA_n, u_br_t, u_br_f, ↓li_m1, li_0, li_1, li_2, li_3, li_4, li_5, li_6, li_7, li_8, li_9, li_10, li_12, li_13, li_26, li_40, li_60, li_61, li_62, li_99, li_100, li_102, li_106, li_114, li_112, li_117, li_108, li_103, li_120, li_300, li_360, li_512, li_1000, hW.2.1]
theorem c_idxAt {ix : Option Nat} (hW : PW σ i p y ix) (hp : p < 3) {K : Int32 → Prop} : z_X5_indexAt N i (nI p) σ K = K (oI ix) := by
  simp (disch := omega) only [z_X5_indexAt, u_br_True, u_br_False, u_jn_u, u_lt_u, u_nn_s, u_brn_s, u_brn_n, nI_add, u_n_mul, u_n_lt, u_n_le, u_n_eq, u_n_sub, u_n_div, u_n_mod, nI_clamp, u_m1, u_m1q, u_wI_n, u_wA_n, u_br_t, u_br_f, ↓li_m1, li_0, li_1, li_2, li_3, li_4, li_5, li_6, li_7, li_8, li_9, li_10, li_12, li_13, li_26, li_40, li_60, li_61, li_62, li_99, li_100, li_102, li_106, li_114, li_112, li_117, li_108, li_103, li_120, li_300, li_360, li_512, li_1000, hW.2.2]
theorem c_ahead (hP : PO σ i n o) (ho : Pm o) (hn : n ≤ 3) (ha : a < n) (hpl : place ≤ 3) {K : Int32 → Prop} : z_X5_isAhead N i (nI a) (nI place) σ K = K (if ahead o place a = true then nI 1 else nI 0) := by
  obtain ⟨p, hp, e⟩ := ho.2.2 a (by omega)
  subst e
  have e2 := (hP.2 p hp).2
  have h3 := ahead_o ho hp hpl
  by_cases h : p < place
  · rw [if_pos (h3.mpr h)]
    simp (disch := omega) only [z_X5_isAhead, u_br_True, u_br_False, u_jn_u, u_lt_u, u_nn_s, u_brn_s, u_brn_n, nI_add, u_n_mul, u_n_lt, u_n_le, u_n_eq, u_n_sub, u_n_div, u_n_mod, nI_clamp, u_m1, u_m1q, u_wI_n, u_wA_n, u_br_t, u_br_f, ↓li_m1, li_0, li_1, li_2, li_3, li_4, li_5, li_6, li_7, li_8, li_9, li_10, li_12, li_13, li_26, li_40, li_60, li_61, li_62, li_99, li_100, li_102, li_106, li_114, li_112, li_117, li_108, li_103, li_120, li_300, li_360, li_512, li_1000, hP.1, e2]
  · rw [if_neg (fun e => h (h3.mp e))]
    simp (disch := omega) only [z_X5_isAhead, u_br_True, u_br_False, u_jn_u, u_lt_u, u_nn_s, u_brn_s, u_brn_n, nI_add, u_n_mul, u_n_lt, u_n_le, u_n_eq, u_n_sub, u_n_div, u_n_mod, nI_clamp, u_m1, u_m1q, u_wI_n, u_wA_n, u_br_t, u_br_f, ↓li_m1, li_0, li_1, li_2, li_3, li_4, li_5, li_6, li_7, li_8, li_9, li_10, li_12, li_13, li_26, li_40, li_60, li_61, li_62, li_99, li_100, li_102, li_106, li_114, li_112, li_117, li_108, li_103, li_120, li_300, li_360, li_512, li_1000, hP.1, e2]
theorem c_aheadN {K : Int32 → Prop} {x : Int32} : z_X5_isAhead N i mI x σ K = K (nI 0) := by
  have h : mI < nI 0 := by decide
  simp only [z_X5_isAhead, u_br_True, u_br_False, u_jn_u, u_lt_u, u_nn_s, u_brn_s, u_brn_n, ↓li_m1, li_0, li_1, li_2, li_3, li_4, li_5, li_6, li_7, li_8, li_9, li_10, li_12, li_13, li_26, li_40, li_60, li_61, li_62, li_99, li_100, li_102, li_106, li_114, li_112, li_117, li_108, li_103, li_120, li_300, li_360, li_512, li_1000, u_br_t h]
theorem c_setWay {r z : Int32} (hp : p < 3) {K : St → Prop} : z_X5_setWay N i (nI p) (nI (wCh y)) r z σ K = K (stP (stP (stP σ 5 i 3 p (nI (wCh y))) 5 i 4 p r) 5 i 5 p z) := by
  simp (disch := omega) only [z_X5_setWay, u_br_True, u_br_False, u_jn_u, u_lt_u, u_nn_s, u_brn_s, u_brn_n, nI_add, u_n_mul, u_n_lt, u_n_le, u_n_eq, u_n_sub, u_n_div, u_n_mod, nI_clamp, u_m1, u_m1q, u_wI_n, u_wA_n, u_br_t, u_br_f, ↓li_m1, li_0, li_1, li_2, li_3, li_4, li_5, li_6, li_7, li_8, li_9, li_10, li_12, li_13, li_26, li_40, li_60, li_61, li_62, li_99, li_100, li_102, li_106, li_114, li_112, li_117, li_108, li_103, li_120, li_300, li_360, li_512, li_1000, vn_wCh]
theorem PW.set {ix : Option Nat} : PW (stP (stP (stP σ 5 i 3 p (nI (wCh y))) 5 i 4 p (wRe y)) 5 i 5 p (oI ix)) i p y ix := by
  unfold PW
  simp only [sP_stP, Nat.reduceEqDiff, true_and, and_true, false_and, and_false, if_true, if_false, eq_self, and_self, Nat.reduceLT, Nat.reduceLeDiff, Nat.reduceAdd, Nat.reduceMul, Nat.reduceDiv, Nat.one_ne_zero]
theorem PW.ne {ix : Option Nat} {r z v1 : Int32} {p' : Nat} (h : PW σ i p' y ix) (hne : p' ≠ p) : PW (stP (stP (stP σ 5 i 3 p v1) 5 i 4 p r) 5 i 5 p z) i p' y ix := by
  unfold PW at *
  simp only [sP_stP, Nat.reduceEqDiff, true_and, and_true, false_and, and_false, if_true, if_false, eq_self, and_self, Nat.reduceLT, Nat.reduceLeDiff, Nat.reduceAdd, Nat.reduceMul, Nat.reduceDiv, Nat.one_ne_zero]
  rw [if_neg hne, if_neg hne, if_neg hne]
  exact h
theorem PO.set {r z v1 : Int32} (h : PO σ i n o) : PO (stP (stP (stP σ 5 i 3 p v1) 5 i 4 p r) 5 i 5 p z) i n o := by
  unfold PO at *
  simp only [sP_stP, Nat.reduceEqDiff, true_and, and_true, false_and, and_false, if_true, if_false, eq_self, and_self, Nat.reduceLT, Nat.reduceLeDiff, Nat.reduceAdd, Nat.reduceMul, Nat.reduceDiv, Nat.one_ne_zero]
  exact h
/-- only two plans changed -/
def K5 (j : Nat) (σ σ' : St) : Prop := (∀ k i' f z, ¬ (k = 5 ∧ (i' = 0 ∨ i' = j)) → sP σ' k i' f z = sP σ k i' f z) ∧ (∀ k i' f z, ¬ (k = 5 ∧ (i' = 0 ∨ i' = j)) → sL_ σ' k i' f z = sL_ σ k i' f z) ∧ sQ σ' = sQ σ ∧ sD_ σ' = sD_ σ ∧ sV σ' = sV σ
theorem K5.refl : K5 j σ σ := ⟨fun _ _ _ _ _ => rfl, fun _ _ _ _ _ => rfl, rfl, rfl, rfl⟩
theorem K5.trans (h : K5 j σ σ') (g : K5 j σ' σ1) : K5 j σ σ1 := ⟨fun k i' f z a => (g.1 k i' f z a).trans (h.1 k i' f z a), fun k i' f z a => (g.2.1 k i' f z a).trans (h.2.1 k i' f z a), g.2.2.1.trans h.2.2.1, g.2.2.2.1.trans h.2.2.2.1, g.2.2.2.2.trans h.2.2.2.2⟩
theorem K5.st {i' f z : Nat} {v : Int32} (h : K5 j σ σ') (hk : i' = 0 ∨ i' = j) : K5 j σ (stP σ' 5 i' f z v) := by
  refine ⟨fun k' i2 f' z' h1 => ?_, h.2.1, h.2.2.1, h.2.2.2.1, h.2.2.2.2⟩
  rw [sP_stP, if_neg (fun e => h1 ⟨e.1, by rw [e.2.1]; exact hk⟩)]
  exact h.1 k' i2 f' z' h1
theorem K5.stl {i' f z : Nat} {v : Int64} (h : K5 j σ σ') (hk : i' = 0 ∨ i' = j) : K5 j σ (stL σ' 5 i' f z v) := by
  refine ⟨h.1, fun k' i2 f' z' h1 => ?_, h.2.2.1, h.2.2.2.1, h.2.2.2.2⟩
  rw [sL_stL, if_neg (fun e => h1 ⟨e.1, by rw [e.2.1]; exact hk⟩)]
  exact h.2.1 k' i2 f' z' h1
theorem K5.kpl (h : K5 j σ σ') : KPl j σ σ' := ⟨fun k i' f z _ h2 => h.1 k i' f z h2, h.2⟩
theorem K5.up (h : K5 0 σ σ') : K5 j σ σ' := ⟨fun k i' f z h2 => h.1 k i' f z (fun e => h2 ⟨e.1, by omega⟩), fun k i' f z h2 => h.2.1 k i' f z (fun e => h2 ⟨e.1, by omega⟩), h.2.2⟩
theorem TCo.k5 (T : TCo m q ban σ) (h : K5 j σ σ') : TCo m q ban σ' := by
  unfold TCo at *
  simp only [h.1 6 _ _ _ (fun e => absurd e.1 (by decide))]
  exact T
theorem TJ.k5 (T : TJ m q ban σ) (h : K5 j σ σ') : TJ m q ban σ' := by
  unfold TJ at *
  simp only [h.1 6 _ _ _ (fun e => absurd e.1 (by decide))]
  exact T
theorem PO.k50 (T : PO σ i n o) (h : K5 0 σ σ') (hi : i ≠ 0) : PO σ' i n o := by
  unfold PO at *
  simp only [h.1 5 i _ _ (fun e => by omega)]
  exact T
theorem PW.k50 {ix : Option Nat} (T : PW σ i p y ix) (h : K5 0 σ σ') (hi : i ≠ 0) : PW σ' i p y ix := by
  unfold PW at *
  simp only [h.1 5 i _ _ (fun e => by omega)]
  exact T
theorem li_18 : (18 : Int32) = nI 18 := rfl
theorem c_order (hN : 1000000 ≤ N) (hij : i = 0 ∨ i = j) (hx : x < 6) (hn : n ≤ 3) {K : Int32 → St → Prop} (h : ∀ s, K5 j σ s → (okO n x = true → PO s i n (ordN x) ∧ ∀ p, p < 3 → PW s i p 0 none) → K (if okO n x = true then nI 1 else nI 0) s) : z_X5_takeOrder N i (nI x) (nI n) σ K := by
  have hp3 := ord_P hx
  simp only [z_X5_takeOrder, u_br_True, u_br_False, u_jn_u, u_lt_u, u_nn_s, u_brn_s, u_brn_n, ↓li_m1, li_0, li_1, li_2, li_3, li_4, li_5, li_6, li_7, li_8, li_9, li_10, li_12, li_13, li_26, li_40, li_60, li_61, li_62, li_99, li_100, li_102, li_106, li_114, li_112, li_117, li_108, li_103, li_120, li_300, li_360, li_512, li_1000, li_18]
  refine for_u 3 (by omega) (by omega) (fun p s => K5 j σ s ∧ sP s 5 i 0 0 = nI n ∧ ∀ z, z < p → (z < n ∨ ordN x z = z) ∧ sP s 5 i 1 z = nI (ordN x z) ∧ sP s 5 i 2 (ordN x z) = nI z ∧ PW s i z 0 none) 0 (by omega) (fun self p s hp hI hs => ?_) ⟨K5.refl.st hij, by simp only [sP_stP, Nat.reduceEqDiff, true_and, and_true, false_and, and_false, if_true, if_false, eq_self, and_self, Nat.reduceLT, Nat.reduceLeDiff, Nat.reduceAdd, Nat.reduceMul, Nat.reduceDiv, Nat.one_ne_zero], fun z hz => by omega⟩
  obtain ⟨i1, i2, i3⟩ := hI
  by_cases hl : p < 3
  · have hA := ord_A x hx p hl
    have h1 := ord_1 x hx p hl
    have e0 : nI 102 = nI (wCh 0) := rfl
    have good : (p < n ∨ ordN x p = p) → self (nI (p + 1)) (stP (stP (stP (stP (stP s 5 i 1 p (nI (ordN x p))) 5 i 2 (ordN x p) (nI p)) 5 i 3 p (nI (wCh 0))) 5 i 4 p mI) 5 i 5 p mI) := by
      intro hc
      refine hs _ hl ⟨((((i1.st hij).st hij).st hij).st hij).st hij, by simp only [sP_stP, Nat.reduceEqDiff, true_and, and_true, false_and, and_false, if_true, if_false, eq_self, and_self, Nat.reduceLT, Nat.reduceLeDiff, Nat.reduceAdd, Nat.reduceMul, Nat.reduceDiv, Nat.one_ne_zero]; exact i2, fun z hz => ?_⟩
      by_cases e : z = p
      · subst e
        refine ⟨hc, by simp only [sP_stP, Nat.reduceEqDiff, true_and, and_true, false_and, and_false, if_true, if_false, eq_self, and_self, Nat.reduceLT, Nat.reduceLeDiff, Nat.reduceAdd, Nat.reduceMul, Nat.reduceDiv, Nat.one_ne_zero], by simp only [sP_stP, Nat.reduceEqDiff, true_and, and_true, false_and, and_false, if_true, if_false, eq_self, and_self, Nat.reduceLT, Nat.reduceLeDiff, Nat.reduceAdd, Nat.reduceMul, Nat.reduceDiv, Nat.one_ne_zero], PW.set (y := 0) (ix := none)⟩
      · obtain ⟨a1, a2, a3, a4⟩ := i3 z (by omega)
        have hne : ¬ ordN x z = ordN x p := fun h9 => e (hp3.2.1 z (by omega) p hl h9)
        refine ⟨a1, by simp only [sP_stP, Nat.reduceEqDiff, true_and, and_true, false_and, and_false, if_true, if_false, eq_self, and_self, Nat.reduceLT, Nat.reduceLeDiff, Nat.reduceAdd, Nat.reduceMul, Nat.reduceDiv, Nat.one_ne_zero]; rw [if_neg e]; exact a2, by simp only [sP_stP, Nat.reduceEqDiff, true_and, and_true, false_and, and_false, if_true, if_false, eq_self, and_self, Nat.reduceLT, Nat.reduceLeDiff, Nat.reduceAdd, Nat.reduceMul, Nat.reduceDiv, Nat.one_ne_zero]; rw [if_neg hne]; exact a3, PW.ne ?_ e⟩
        unfold PW at a4 ⊢
        simp only [sP_stP, Nat.reduceEqDiff, true_and, and_true, false_and, and_false, if_true, if_false, eq_self, and_self, Nat.reduceLT, Nat.reduceLeDiff, Nat.reduceAdd, Nat.reduceMul, Nat.reduceDiv, Nat.one_ne_zero]
        exact a4
    have hin : aO (nI (x * 3 + p)) = fun K => K (nI (ordN x p)) := by
      funext K
      apply propext
      unfold aO
      rw [nI_clamp (by omega), hA]
      exact ⟨fun h => h.2, fun h => ⟨nI_in (by omega) (by omega), h⟩⟩
    by_cases hc : p < n
    · simp (disch := omega) only [u_br_True, u_br_False, u_jn_u, u_lt_u, u_nn_s, u_brn_s, u_brn_n, nI_add, u_n_mul, u_n_lt, u_n_le, u_n_eq, u_n_sub, u_n_div, u_n_mod, nI_clamp, u_m1, u_m1q, u_wI_n, u_wA_n, u_br_t, u_br_f, hin]
      rw [e0, c_setWay hl]
      exact good (Or.inl hc)
    · by_cases he : ordN x p = p
      · simp (disch := omega) only [u_br_True, u_br_False, u_jn_u, u_lt_u, u_nn_s, u_brn_s, u_brn_n, nI_add, u_n_mul, u_n_lt, u_n_le, u_n_eq, u_n_sub, u_n_div, u_n_mod, nI_clamp, u_m1, u_m1q, u_wI_n, u_wA_n, u_br_t, u_br_f, hin]
        rw [e0, c_setWay hl]
        exact good (Or.inr he)
      · have hf : ¬ okO n x = true := by
          simp only [okO, List.all_eq_true, List.mem_range, Bool.or_eq_true, decide_eq_true_eq, beq_iff_eq]
          intro h9
          rcases h9 p hl with h8 | h8
          · exact hc h8
          · exact he h8
        have := h s i1 (fun h9 => absurd h9 hf)
        rw [if_neg hf] at this
        simp (disch := omega) only [u_br_True, u_br_False, u_jn_u, u_lt_u, u_nn_s, u_brn_s, u_brn_n, nI_add, u_n_mul, u_n_lt, u_n_le, u_n_eq, u_n_sub, u_n_div, u_n_mod, nI_clamp, u_m1, u_m1q, u_wI_n, u_wA_n, u_br_t, u_br_f, hin]
        exact this
  · have hp4 : p = 3 := by omega
    subst hp4
    have hf : okO n x = true := by
      simp only [okO, List.all_eq_true, List.mem_range, Bool.or_eq_true, decide_eq_true_eq, beq_iff_eq]
      exact fun z hz => (i3 z hz).1
    have := h s i1 (fun _ => ⟨⟨i2, fun z hz => ⟨(i3 z hz).2.1, (i3 z hz).2.2.1⟩⟩, fun z hz => (i3 z hz).2.2.2⟩)
    rw [if_pos hf] at this
    simp (disch := omega) only [u_br_True, u_br_False, u_jn_u, u_lt_u, u_nn_s, u_brn_s, u_brn_n, nI_add, u_n_mul, u_n_lt, u_n_le, u_n_eq, u_n_sub, u_n_div, u_n_mod, nI_clamp, u_m1, u_m1q, u_wI_n, u_wA_n, u_br_t, u_br_f]
    exact this
/-! indexes, costs and choices of a plan's place -/
theorem c_iC (Cq : CQ m σ) (W : WQ m) (hq : q < m 24 0) (hT : TCo m q ban σ) (hP : PO σ i (m 25 q) o) (ho : Pm o) (hpl : place < m 25 q) (hk : k < 4) {K : Int32 → Prop} : z_X6_indexOfCondition N 0 (some i) (some q) (nI place) (nI k) σ K = K (oI (wIdx m q ban o place (k + 1))) := by
  have w3 := (W.2.2 q hq)
  have ho3 := ho.1 place (by omega)
  have hw : wIdx m q ban o place (k + 1) = if k + 1 ≤ m 27 q ∧ m 28 (4 * q + k) = o place then iOn m ban (tq m q (o place)) (m 29 (4 * q + k)) else none := by
    unfold wIdx
    rw [if_neg (by omega), if_pos (by omega), Nat.add_sub_cancel]
  obtain ⟨c1, c2⟩ := c_cond (N := N) Cq W hq hk
  by_cases h : k < m 27 q
  · obtain ⟨c, d1, d2, d3, d4, d5⟩ := c1 h
    obtain ⟨b1, b2, b3, b4⟩ := w3.2.2.2.2.1 k h
    have e3 := (hT.1 k h).2.2
    by_cases hp : m 28 (4 * q + k) = o place
    · rw [if_pos ⟨by omega, hp⟩, ← hp] at hw
      rw [hw, ← e3]
      simp (disch := omega) only [z_X6_indexOfCondition, u_br_True, u_br_False, u_jn_u, u_lt_u, u_nn_s, u_brn_s, u_brn_n, nI_add, u_n_mul, u_n_lt, u_n_le, u_n_eq, u_n_sub, u_n_div, u_n_mod, nI_clamp, u_m1, u_m1q, u_wI_n, u_wA_n, u_br_t, u_br_f, ↓li_m1, li_0, li_1, li_2, li_3, li_4, li_5, li_6, li_7, li_8, li_9, li_10, li_12, li_13, li_26, li_40, li_60, li_61, li_62, li_99, li_100, li_102, li_106, li_114, li_112, li_117, li_108, li_103, li_120, li_300, li_360, li_512, li_1000, b10, b00, f_0, f_1, u_okT, u_nb_0, u_nb_1, d1, z_X1_position, d2, c_posAt hP (by omega : place < 3)]
    · rw [if_neg (fun h9 => hp h9.2)] at hw
      rw [hw]
      simp (disch := omega) only [z_X6_indexOfCondition, u_br_True, u_br_False, u_jn_u, u_lt_u, u_nn_s, u_brn_s, u_brn_n, nI_add, u_n_mul, u_n_lt, u_n_le, u_n_eq, u_n_sub, u_n_div, u_n_mod, nI_clamp, u_m1, u_m1q, u_wI_n, u_wA_n, u_br_t, u_br_f, ↓li_m1, li_0, li_1, li_2, li_3, li_4, li_5, li_6, li_7, li_8, li_9, li_10, li_12, li_13, li_26, li_40, li_60, li_61, li_62, li_99, li_100, li_102, li_106, li_114, li_112, li_117, li_108, li_103, li_120, li_300, li_360, li_512, li_1000, b10, b00, f_0, f_1, u_okT, u_nb_0, u_nb_1, d1, z_X1_position, d2, c_posAt hP (by omega : place < 3)]
      rfl
  · have c3 : ∀ {K : Option Nat → Prop}, z_X7_conditionAt N q (nI k) σ K = K none := c2 (by omega)
    rw [if_neg (by omega)] at hw
    rw [hw]
    simp (disch := omega) only [z_X6_indexOfCondition, u_br_True, u_br_False, u_jn_u, u_lt_u, u_nn_s, u_brn_s, u_brn_n, nI_add, u_n_mul, u_n_lt, u_n_le, u_n_eq, u_n_sub, u_n_div, u_n_mod, nI_clamp, u_m1, u_m1q, u_wI_n, u_wA_n, u_br_t, u_br_f, ↓li_m1, li_0, li_1, li_2, li_3, li_4, li_5, li_6, li_7, li_8, li_9, li_10, li_12, li_13, li_26, li_40, li_60, li_61, li_62, li_99, li_100, li_102, li_106, li_114, li_112, li_117, li_108, li_103, li_120, li_300, li_360, li_512, li_1000, b10, b00, f_0, f_1, u_okT, u_nb_0, u_nb_1, c3]
    rfl
theorem own_jc (W : WQ m) (hq : q < m 24 0) (hk : k < m 32 q) : (o place = m 33 (3 * q + k) → own m q o place k = if ahead o place (m 35 (3 * q + k)) = true then some (jc m q k (o place)) else none) ∧ (o place = m 35 (3 * q + k) → own m q o place k = if ahead o place (m 33 (3 * q + k)) = true then some (jc m q k (o place)) else none) ∧ (¬ o place = m 33 (3 * q + k) → ¬ o place = m 35 (3 * q + k) → own m q o place k = none) := by
  obtain ⟨j1, j2, j3, j4, j5⟩ := (W.2.2 q hq).2.2.2.2.2 k hk
  refine ⟨fun e => ?_, fun e => ?_, fun e1 e2 => ?_⟩
  · have ejc : jc m q k (o place) = m 34 (3 * q + k) := by unfold jc; rw [if_pos e]
    rw [ejc]
    unfold own
    by_cases a : ahead o place (m 35 (3 * q + k)) = true
    · rw [if_pos ⟨e.symm, a⟩, if_pos a]
    · rw [if_neg (fun h => a h.2), if_neg a, if_neg (fun h => j5 (e.symm.trans h.1.symm))]
  · have ejc : jc m q k (o place) = m 36 (3 * q + k) := by unfold jc; rw [if_neg (fun h => j5 (h.symm.trans e))]
    rw [ejc]
    unfold own
    rw [if_neg (fun h => j5 (h.1.trans e))]
    by_cases a : ahead o place (m 33 (3 * q + k)) = true
    · rw [if_pos ⟨e.symm, a⟩, if_pos a]
    · rw [if_neg (fun h => a h.2), if_neg a]
  · unfold own
    rw [if_neg (fun h => e1 h.1.symm), if_neg (fun h => e2 h.1.symm)]
theorem c_own (W : WQ m) (hq : q < m 24 0) (hk : k < m 32 q) (hP : PO σ i (m 25 q) o) (ho : Pm o) (hpl : place < m 25 q) (d2 : sP σ 4 c 0 0 = nI (m 33 (3 * q + k))) (d4 : sP σ 4 c 2 0 = nI (m 35 (3 * q + k))) {K : Int32 → Prop} : z_X4_partnerOf N c (nI (o place)) σ (fun v => z_X5_isAhead N i v (nI place) σ K) = K (if (own m q o place k).isSome = true then nI 1 else nI 0) := by
  have w3 := (W.2.2 q hq)
  have ho3 := ho.1 place (by omega)
  obtain ⟨j1, j2, j3, j4, j5⟩ := w3.2.2.2.2.2 k hk
  obtain ⟨o1, o2, o3⟩ := own_jc (o := o) (place := place) W hq hk
  rw [c_partner d2 d4 (by omega) (by omega) ho3]
  by_cases e1 : o place = m 33 (3 * q + k)
  · rw [if_pos e1, c_ahead hP ho w3.1 j3 (by omega), o1 e1]
    by_cases a : ahead o place (m 35 (3 * q + k)) = true
    · rw [if_pos a, if_pos a, if_pos (by rfl)]
    · rw [if_neg a, if_neg a, if_neg (by decide)]
  · rw [if_neg e1]
    by_cases e2 : o place = m 35 (3 * q + k)
    · rw [if_pos e2, c_ahead hP ho w3.1 j1 (by omega), o2 e2]
      by_cases a : ahead o place (m 33 (3 * q + k)) = true
      · rw [if_pos a, if_pos a, if_pos (by rfl)]
      · rw [if_neg a, if_neg a, if_neg (by decide)]
    · rw [if_neg e2, c_aheadN, o3 e1 e2, if_neg (by decide)]
theorem own_v (W : WQ m) (hq : q < m 24 0) (hk : k < m 32 q) (h : (own m q o place k).isSome = true) : own m q o place k = some (jc m q k (o place)) ∧ (o place = m 33 (3 * q + k) ∨ o place = m 35 (3 * q + k)) := by
  obtain ⟨o1, o2, o3⟩ := own_jc (o := o) (place := place) W hq hk
  by_cases e1 : o place = m 33 (3 * q + k)
  · have := o1 e1
    split at this
    · exact ⟨this, Or.inl e1⟩
    · rw [this] at h; cases h
  · by_cases e2 : o place = m 35 (3 * q + k)
    · have := o2 e2
      split at this
      · exact ⟨this, Or.inr e2⟩
      · rw [this] at h; cases h
    · rw [o3 e1 e2] at h; cases h
theorem c_iJ (Cq : CQ m σ) (W : WQ m) (hq : q < m 24 0) (hT : TJ m q ban σ) (hP : PO σ i (m 25 q) o) (ho : Pm o) (hpl : place < m 25 q) (hk : k < 3) {K : Int32 → Prop} : z_X6_indexOfJoin N 0 (some i) (some q) (nI place) (nI k) σ K = K (oI (wIdx m q ban o place (k + 5))) := by
  have w3 := (W.2.2 q hq)
  have ho3 := ho.1 place (by omega)
  have hw : wIdx m q ban o place (k + 5) = if k < m 32 q then (own m q o place k).bind (iOn m ban (tq m q (o place))) else none := by
    unfold wIdx
    rw [if_neg (by omega), if_neg (by omega), Nat.add_sub_cancel]
  obtain ⟨c1, c2⟩ := c_joinA (N := N) Cq W hq hk
  by_cases h : k < m 32 q
  · obtain ⟨c, d1, d2, d3, d4, d5⟩ := c1 h
    rw [if_pos h] at hw
    simp (disch := omega) only [z_X6_indexOfJoin, u_br_True, u_br_False, u_jn_u, u_lt_u, u_nn_s, u_brn_s, u_brn_n, nI_add, u_n_mul, u_n_lt, u_n_le, u_n_eq, u_n_sub, u_n_div, u_n_mod, nI_clamp, u_m1, u_m1q, u_wI_n, u_wA_n, u_br_t, u_br_f, ↓li_m1, li_0, li_1, li_2, li_3, li_4, li_5, li_6, li_7, li_8, li_9, li_10, li_12, li_13, li_26, li_40, li_60, li_61, li_62, li_99, li_100, li_102, li_106, li_114, li_112, li_117, li_108, li_103, li_120, li_300, li_360, li_512, li_1000, d1, c_posAt hP (by omega : place < 3)]
    rw [c_own W hq h hP ho hpl d2 d4]
    by_cases hs : (own m q o place k).isSome = true
    · obtain ⟨e1, e2⟩ := own_v W hq h hs
      have e6 := ((hT k h).2 (o place) e2).2
      rw [e1] at hw
      rw [if_pos hs, hw]
      simp (disch := omega) only [u_br_True, u_br_False, u_jn_u, u_lt_u, u_nn_s, u_brn_s, u_brn_n, nI_add, u_n_mul, u_n_lt, u_n_le, u_n_eq, u_n_sub, u_n_div, u_n_mod, nI_clamp, u_m1, u_m1q, u_wI_n, u_wA_n, u_br_t, u_br_f, b10, b00, f_0, f_1, u_okT, u_nb_0, u_nb_1, e6]
      rfl
    · have e1 : own m q o place k = none := by
        cases h9 : own m q o place k with
        | none => rfl
        | some z => rw [h9] at hs; exact absurd rfl hs
      rw [e1] at hw
      rw [if_neg hs, hw, u_br_t rfl]
      rfl
  · have c3 : ∀ {K : Option Nat → Prop}, z_X7_joinAt N q (nI k) σ K = K none := c2 (by omega)
    rw [if_neg h] at hw
    rw [hw]
    simp (disch := omega) only [z_X6_indexOfJoin, u_br_True, u_br_False, u_jn_u, u_lt_u, u_nn_s, u_brn_s, u_brn_n, nI_add, u_n_mul, u_n_lt, u_n_le, u_n_eq, u_n_sub, u_n_div, u_n_mod, nI_clamp, u_m1, u_m1q, u_wI_n, u_wA_n, u_br_t, u_br_f, ↓li_m1, li_0, li_1, li_2, li_3, li_4, li_5, li_6, li_7, li_8, li_9, li_10, li_12, li_13, li_26, li_40, li_60, li_61, li_62, li_99, li_100, li_102, li_106, li_114, li_112, li_117, li_108, li_103, li_120, li_300, li_360, li_512, li_1000, b10, b00, f_0, f_1, u_okT, u_nb_0, u_nb_1, c3, c_posAt hP (by omega : place < 3)]
    rfl
theorem c_jCost (hk : k < 3) (hp : p < 3) {K : Int32 → Prop} : z_X6_joinCost N 0 (nI k) (nI p) σ K = K (sP σ 6 0 5 (k * 3 + p)) := by
  simp (disch := omega) only [z_X6_joinCost, u_br_True, u_br_False, u_jn_u, u_lt_u, u_nn_s, u_brn_s, u_brn_n, nI_add, u_n_mul, u_n_lt, u_n_le, u_n_eq, u_n_sub, u_n_div, u_n_mod, nI_clamp, u_m1, u_m1q, u_wI_n, u_wA_n, u_br_t, u_br_f, ↓li_m1, li_0, li_1, li_2, li_3, li_4, li_5, li_6, li_7, li_8, li_9, li_10, li_12, li_13, li_26, li_40, li_60, li_61, li_62, li_99, li_100, li_102, li_106, li_114, li_112, li_117, li_108, li_103, li_120, li_300, li_360, li_512, li_1000]
theorem c_cost {ix : Option Nat} (S : SS m u σ) (W : WQ m) (Wt : WT m u) (hq : q < m 24 0) (hC : TCo m q ban σ) (hT : TJ m q ban σ) (hP : PO σ i (m 25 q) o) (ho : Pm o) (hpl : place < m 25 q) (hon : o place < m 25 q) (hW : PW σ i place y ix) (hok : okW m q ban o place y) {K : Int32 → Prop} : z_X6_costOf N 0 (some i) (some q) (nI place) σ K = K (nI (wCost m q o place y)) := by
  have w3 := (W.2.2 q hq)
  have ho3 := ho.1 place (by omega)
  have p3 : place < 3 := by omega
  have ht : tq m q (o place) < m 1 0 := w3.2.2.2.1 _ hon
  by_cases h0 : y = 0
  · subst h0
    have t10 := (S.2.1.2.2.2 _ ht).2.2.2.2.2.2.2.2.2.1
    simp (disch := omega) only [z_X6_costOf, u_br_True, u_br_False, u_jn_u, u_lt_u, u_nn_s, u_brn_s, u_brn_n, ↓li_m1, li_0, li_1, li_2, li_3, li_4, li_5, li_6, li_7, li_8, li_9, li_10, li_12, li_13, li_26, li_40, li_60, li_61, li_62, li_99, li_100, li_102, li_106, li_114, li_112, li_117, li_108, li_103, li_120, li_300, li_360, li_512, li_1000, c_reaAt hW p3, c_wayAt hW p3, c_posAt hP p3, c_tabOf S.2.2.2 hq ho3, if_pos hon, z_X10_takenPages, t10]
    rw [show nI (wCh 0) = nI 102 from rfl]
    simp (disch := omega) only [nI_add, u_n_mul, u_n_lt, u_n_le, u_n_eq, u_n_sub, u_n_div, u_n_mod, nI_clamp, u_m1, u_m1q, u_wI_n, u_wA_n, u_br_t, u_br_f]
    rfl
  · by_cases h5 : y < 5
    · obtain ⟨c1, c2⟩ := okW_c hok h0 h5
      have e2 := (hC.1 (y - 1) (by omega)).2.1
      rw [c2] at e2
      have er : wRe y = nI (y - 1) := by unfold wRe; rw [if_neg h0, if_pos h5]
      have ew : nI (wCh y) = nI 99 := by unfold wCh; rw [if_neg h0, if_pos h5]
      have ec : wCost m q o place y = 1 + m 8 (tq m q (o place)) * share m q (y - 1) / 1000 := by unfold wCost; rw [if_neg h0, if_pos h5]
      simp (disch := omega) only [z_X6_costOf, u_br_True, u_br_False, u_jn_u, u_lt_u, u_nn_s, u_brn_s, u_brn_n, ↓li_m1, li_0, li_1, li_2, li_3, li_4, li_5, li_6, li_7, li_8, li_9, li_10, li_12, li_13, li_26, li_40, li_60, li_61, li_62, li_99, li_100, li_102, li_106, li_114, li_112, li_117, li_108, li_103, li_120, li_300, li_360, li_512, li_1000, c_reaAt hW p3, c_wayAt hW p3, er, ew, nI_add, u_n_mul, u_n_lt, u_n_le, u_n_eq, u_n_sub, u_n_div, u_n_mod, nI_clamp, u_m1, u_m1q, u_wI_n, u_wA_n, u_br_t, u_br_f, e2]
      rw [ec]
    · obtain ⟨c1, c, hown⟩ := okW_j hok h5
      have hy := hok.1
      obtain ⟨e1, e3⟩ := own_v W hq c1 (by rw [hown]; rfl)
      have e5 := ((hT (y - 5) c1).2 (o place) e3).1
      have er : wRe y = nI (y - 5) := by unfold wRe; rw [if_neg h0, if_neg h5]
      have ew : nI (wCh y) = nI 106 := by unfold wCh; rw [if_neg h0, if_neg h5]
      have ec : wCost m q o place y = 1 + m 8 (tq m q (o place)) / max 1 (jun m q (y - 5) (o place)) := by
        unfold wCost jun
        rw [if_neg h0, if_neg h5, e1]
        rfl
      simp (disch := omega) only [z_X6_costOf, u_br_True, u_br_False, u_jn_u, u_lt_u, u_nn_s, u_brn_s, u_brn_n, ↓li_m1, li_0, li_1, li_2, li_3, li_4, li_5, li_6, li_7, li_8, li_9, li_10, li_12, li_13, li_26, li_40, li_60, li_61, li_62, li_99, li_100, li_102, li_106, li_114, li_112, li_117, li_108, li_103, li_120, li_300, li_360, li_512, li_1000, c_reaAt hW p3, c_wayAt hW p3, er, ew, nI_add, u_n_mul, u_n_lt, u_n_le, u_n_eq, u_n_sub, u_n_div, u_n_mod, nI_clamp, u_m1, u_m1q, u_wI_n, u_wA_n, u_br_t, u_br_f, c_posAt hP p3, c_jCost (by omega : y - 5 < 3) ho3, e5]
      rw [ec]
end CPLAN
