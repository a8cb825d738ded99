section CJOINS
variable {m m' mm : Nat → Nat → Nat} {u u' w : Nat → Int32} {L L' E : List Nat} {σ σ' σ1 σ2 : St} {N kk t c k n q ban place p way x y b a i s v told f j cc d lo hi : Nat} {o o' ways g : Nat → Nat} {P Q : Nat → Prop}
theorem c_partner (h0 : sP σ 4 c 0 0 = nI a) (h2 : sP σ 4 c 2 0 = nI b) (ha : a < 3) (hb : b < 3) (hp : p < 3) {K : Int32 → Prop} : z_X4_partnerOf N c (nI p) σ K = K (if p = a then nI b else if p = b then nI a else mI) := by
  by_cases h1 : p = a
  · rw [if_pos h1]
    simp (disch := omega) only [z_X4_partnerOf, u_br_True, u_br_False, u_jn_u, u_lt_u, u_nn_s, u_brn_s, u_brn_n, nI_add, u_n_mul, u_n_lt, u_n_le, u_n_eq, u_n_sub, u_n_div, u_n_mod, nI_clamp, u_m1, u_m1q, u_wI_n, u_wA_n, u_br_t, u_br_f, ↓li_m1, li_0, li_1, li_2, li_3, li_4, li_5, li_6, li_7, li_8, li_9, li_10, li_12, li_13, li_26, li_40, li_60, li_61, li_62, li_99, li_100, li_102, li_106, li_114, li_112, li_117, li_108, li_103, li_120, li_300, li_360, li_512, li_1000, h0, h2]
  · rw [if_neg h1]
    by_cases h3 : p = b
    · rw [if_pos h3]
      simp (disch := omega) only [z_X4_partnerOf, u_br_True, u_br_False, u_jn_u, u_lt_u, u_nn_s, u_brn_s, u_brn_n, nI_add, u_n_mul, u_n_lt, u_n_le, u_n_eq, u_n_sub, u_n_div, u_n_mod, nI_clamp, u_m1, u_m1q, u_wI_n, u_wA_n, u_br_t, u_br_f, ↓li_m1, li_0, li_1, li_2, li_3, li_4, li_5, li_6, li_7, li_8, li_9, li_10, li_12, li_13, li_26, li_40, li_60, li_61, li_62, li_99, li_100, li_102, li_106, li_114, li_112, li_117, li_108, li_103, li_120, li_300, li_360, li_512, li_1000, h0, h2]
    · rw [if_neg h3]
      simp (disch := omega) only [z_X4_partnerOf, u_br_True, u_br_False, u_jn_u, u_lt_u, u_nn_s, u_brn_s, u_brn_n, nI_add, u_n_mul, u_n_lt, u_n_le, u_n_eq, u_n_sub, u_n_div, u_n_mod, nI_clamp, u_m1, u_m1q, u_wI_n, u_wA_n, u_br_t, u_br_f, ↓li_m1, li_0, li_1, li_2, li_3, li_4, li_5, li_6, li_7, li_8, li_9, li_10, li_12, li_13, li_26, li_40, li_60, li_61, li_62, li_99, li_100, li_102, li_106, li_114, li_112, li_117, li_108, li_103, li_120, li_300, li_360, li_512, li_1000, h0, h2]
theorem c_colOf {x y : Int32} (h0 : sP σ 4 c 0 0 = nI a) (h2 : sP σ 4 c 2 0 = nI b) (h1 : sP σ 4 c 1 0 = x) (h3 : sP σ 4 c 3 0 = y) (ha : a < 3) (hb : b < 3) (hp : p < 3) {K : Int32 → Prop} : z_X4_columnOf N c (nI p) σ K = K (if p = a then x else if p = b then y else mI) := by
  by_cases e1 : p = a
  · rw [if_pos e1]
    simp (disch := omega) only [z_X4_columnOf, u_br_True, u_br_False, u_jn_u, u_lt_u, u_nn_s, u_brn_s, u_brn_n, nI_add, u_n_mul, u_n_lt, u_n_le, u_n_eq, u_n_sub, u_n_div, u_n_mod, nI_clamp, u_m1, u_m1q, u_wI_n, u_wA_n, u_br_t, u_br_f, ↓li_m1, li_0, li_1, li_2, li_3, li_4, li_5, li_6, li_7, li_8, li_9, li_10, li_12, li_13, li_26, li_40, li_60, li_61, li_62, li_99, li_100, li_102, li_106, li_114, li_112, li_117, li_108, li_103, li_120, li_300, li_360, li_512, li_1000, h0, h1, h2, h3]
  · rw [if_neg e1]
    by_cases e3 : p = b
    · rw [if_pos e3]
      simp (disch := omega) only [z_X4_columnOf, u_br_True, u_br_False, u_jn_u, u_lt_u, u_nn_s, u_brn_s, u_brn_n, nI_add, u_n_mul, u_n_lt, u_n_le, u_n_eq, u_n_sub, u_n_div, u_n_mod, nI_clamp, u_m1, u_m1q, u_wI_n, u_wA_n, u_br_t, u_br_f, ↓li_m1, li_0, li_1, li_2, li_3, li_4, li_5, li_6, li_7, li_8, li_9, li_10, li_12, li_13, li_26, li_40, li_60, li_61, li_62, li_99, li_100, li_102, li_106, li_114, li_112, li_117, li_108, li_103, li_120, li_300, li_360, li_512, li_1000, h0, h1, h2, h3]
    · rw [if_neg e3]
      simp (disch := omega) only [z_X4_columnOf, u_br_True, u_br_False, u_jn_u, u_lt_u, u_nn_s, u_brn_s, u_brn_n, nI_add, u_n_mul, u_n_lt, u_n_le, u_n_eq, u_n_sub, u_n_div, u_n_mod, nI_clamp, u_m1, u_m1q, u_wI_n, u_wA_n, u_br_t, u_br_f, ↓li_m1, li_0, li_1, li_2, li_3, li_4, li_5, li_6, li_7, li_8, li_9, li_10, li_12, li_13, li_26, li_40, li_60, li_61, li_62, li_99, li_100, li_102, li_106, li_114, li_112, li_117, li_108, li_103, li_120, li_300, li_360, li_512, li_1000, h0, h1, h2, h3]
/-- the column of a join at one of its positions -/
def jc (m : Nat → Nat → Nat) (q k p : Nat) : Nat := if p = m 33 (3 * q + k) then m 34 (3 * q + k) else m 36 (3 * q + k)
def jun (m : Nat → Nat → Nat) (q k p : Nat) : Nat := m 10 (3 * tq m q p + jc m q k p)
def TJ (m : Nat → Nat → Nat) (q ban : Nat) (σ : St) : Prop := ∀ k, k < m 32 q → sP σ 6 0 4 k = nI (jsh m q k) ∧ ∀ p, p = m 33 (3 * q + k) ∨ p = m 35 (3 * q + k) → sP σ 6 0 5 (k * 3 + p) = nI (1 + m 8 (tq m q p) / max 1 (jun m q k p)) ∧ sP σ 6 0 6 (k * 3 + p) = oI (iOn m ban (tq m q p) (jc m q k p))
def mU (m : Nat → Nat → Nat) (q k n : Nat) : Nat := it_ (fun p x => if p = m 33 (3 * q + k) ∨ p = m 35 (3 * q + k) then max x (jun m q k p) else x) 0 n
theorem mU_s : mU m q k (n + 1) = if n = m 33 (3 * q + k) ∨ n = m 35 (3 * q + k) then max (mU m q k n) (jun m q k n) else mU m q k n := rfl
theorem mU_3 (h1 : m 33 (3 * q + k) < 3) (h2 : m 35 (3 * q + k) < 3) : mU m q k 3 = max (jun m q k (m 33 (3 * q + k))) (jun m q k (m 35 (3 * q + k))) := by
  have key : ∀ n, (∀ p, p < n → p = m 33 (3 * q + k) ∨ p = m 35 (3 * q + k) → jun m q k p ≤ mU m q k n) ∧ (∀ B, (∀ p, p < n → p = m 33 (3 * q + k) ∨ p = m 35 (3 * q + k) → jun m q k p ≤ B) → mU m q k n ≤ B) := by
    intro n
    induction n with
    | zero => exact ⟨fun p hp => by omega, fun B _ => Nat.zero_le _⟩
    | succ n ih =>
      obtain ⟨i1, i2⟩ := ih
      rw [mU_s]
      split
      · rename_i h
        refine ⟨fun p hp hp2 => ?_, fun B hB => ?_⟩
        · by_cases e : p = n
          · subst e; omega
          · have := i1 p (by omega) hp2; omega
        · have a1 := i2 B (fun p hp hp2 => hB p (by omega) hp2)
          have a2 := hB n (by omega) h
          omega
      · rename_i h
        refine ⟨fun p hp hp2 => ?_, fun B hB => i2 B (fun p hp hp2 => hB p (by omega) hp2)⟩
        by_cases e : p = n
        · subst e; exact absurd hp2 h
        · exact i1 p (by omega) hp2
  obtain ⟨k1, k2⟩ := key 3
  have a1 := k1 _ h1 (Or.inl rfl)
  have a2 := k1 _ h2 (Or.inr rfl)
  have a3 := k2 (max (jun m q k (m 33 (3 * q + k))) (jun m q k (m 35 (3 * q + k)))) (fun p hp hp2 => by
    rcases hp2 with rfl | rfl
    · exact Nat.le_max_left _ _
    · exact Nat.le_max_right _ _)
  omega
theorem jsh_mU (hne : m 33 (3 * q + k) ≠ m 35 (3 * q + k)) (h1 : m 33 (3 * q + k) < 3) (h2 : m 35 (3 * q + k) < 3) : 1000 / max 1 (mU m q k 3) = jsh m q k := by
  rw [mU_3 h1 h2]
  unfold jun jc jsh
  rw [if_pos rfl, if_neg (fun e => hne e.symm)]
theorem c_takeJ (hN : 1000000 ≤ N) (S : SS m u σ) (W : WQ m) (Wx : WX m) (Wt : WT m u) (hq : q < m 24 0) (hb : ban < 64) (TC0 : TCo m q ban σ) {K : St → Prop} (h : ∀ s, KPl i σ s → TCo m q ban s → TJ m q ban s → K s) : z_X6_takeJoins N 0 (some 0) (some q) (nI ban) σ K := by
  have w3 := W.2.2 q hq
  have hn := Wt.nt
  unfold z_X6_takeJoins
  refine for_u 3 (by omega) (by omega) (fun j s => KPl i σ s ∧ TCo m q ban s ∧ ∀ k, k < j → k < m 32 q → sP s 6 0 4 k = nI (jsh m q k) ∧ ∀ p, p = m 33 (3 * q + k) ∨ p = m 35 (3 * q + k) → sP s 6 0 5 (k * 3 + p) = nI (1 + m 8 (tq m q p) / max 1 (jun m q k p)) ∧ sP s 6 0 6 (k * 3 + p) = oI (iOn m ban (tq m q p) (jc m q k p))) 0 (by omega) (fun self j s hj hI hs => ?_) ⟨KPl.refl, TC0, fun k hk => by omega⟩
  obtain ⟨i1, i2, i3⟩ := hI
  have Ss := S.kx i1.kx
  have tco : ∀ (s : St) (f j : Nat) (v : Int32), (f = 4 ∨ f = 5 ∨ f = 6) → TCo m q ban s → TCo m q ban (stP s 6 0 f j v) := by
    intro s f j v hf T
    unfold TCo at *
    have e : ∀ g z, (g = 1 ∨ g = 2 ∨ g = 3) → sP (stP s 6 0 f j v) 6 0 g z = sP s 6 0 g z := fun g z hg => by rw [sP_stP, if_neg (by omega)]
    simp only [e 1 _ (by decide), e 2 _ (by decide), e 3 _ (by decide)]
    exact T
  by_cases hl : j < 3
  · obtain ⟨cc1, cc2⟩ := c_joinA (N := N) Ss.2.2.2 W hq hl
    by_cases hk : j < m 32 q
    · obtain ⟨c, d1, d2, d3, d4, d5⟩ := cc1 hk
      obtain ⟨j1, j2, j3, j4, j5⟩ := w3.2.2.2.2.2 j hk
      have t1 : tq m q (m 33 (3 * q + j)) < m 1 0 := w3.2.2.2.1 _ j1
      have t2 : tq m q (m 35 (3 * q + j)) < m 1 0 := w3.2.2.2.1 _ j3
      simp (disch := omega) only [u_br_True, u_br_False, u_jn_u, u_lt_u, u_nn_s, u_brn_s, u_brn_n, nI_add, u_n_mul, u_n_lt, u_n_le, u_n_eq, u_n_sub, u_n_div, u_n_mod, nI_clamp, u_m1, u_m1q, u_wI_n, u_wA_n, u_br_t, u_br_f, ↓li_m1, li_0, li_1, li_2, li_3, li_4, li_5, li_6, li_7, li_8, li_9, li_10, li_12, li_13, li_26, li_40, li_60, li_61, li_62, li_99, li_100, li_102, li_106, li_114, li_112, li_117, li_108, li_103, li_120, li_300, li_360, li_512, li_1000, d1]
      refine for_m 3 (by omega) (by omega) (fun p a s' => a = nI (mU m q j p) ∧ mU m q j p ≤ 40 ∧ KPl i σ s' ∧ TCo m q ban s' ∧ (∀ k, k < j → k < m 32 q → sP s' 6 0 4 k = nI (jsh m q k) ∧ ∀ p, p = m 33 (3 * q + k) ∨ p = m 35 (3 * q + k) → sP s' 6 0 5 (k * 3 + p) = nI (1 + m 8 (tq m q p) / max 1 (jun m q k p)) ∧ sP s' 6 0 6 (k * 3 + p) = oI (iOn m ban (tq m q p) (jc m q k p))) ∧ ∀ z, z < p → z = m 33 (3 * q + j) ∨ z = m 35 (3 * q + j) → sP s' 6 0 5 (j * 3 + z) = nI (1 + m 8 (tq m q z) / max 1 (jun m q j z)) ∧ sP s' 6 0 6 (j * 3 + z) = oI (iOn m ban (tq m q z) (jc m q j z))) 0 (by omega) (fun self2 p a s' hp hI2 hs2 => ?_) ⟨rfl, Nat.zero_le _, i1, i2, i3, fun z hz => by omega⟩
      obtain ⟨rfl, m1, m2, m3, m4, m5⟩ := hI2
      have Ss' := S.kx m2.kx
      have e4 : ∀ f, sP s' 4 c f 0 = sP s 4 c f 0 := fun f => by rw [m2.1 4 _ _ _ (by decide) (by omega), i1.1 4 _ _ _ (by decide) (by omega)]
      by_cases hlp : p < 3
      · by_cases hpn : p < m 25 q
        · by_cases hpp : p = m 33 (3 * q + j) ∨ p = m 35 (3 * q + j)
          · have ht : tq m q p < m 1 0 := w3.2.2.2.1 _ hpn
            have hcl := Wt.cl ht
            have w8 := Wt.2.2.2.2.2.2.2.1 (tq m q p) (by omega)
            have hjc : jc m q j p < m 2 (tq m q p) := by
              unfold jc
              rcases hpp with e | e
              · rw [if_pos e, e]; exact j2
              · rw [if_neg (by omega), e]; exact j4
            have v9 := Wt.2.2.2.2.2.2.2.2.1 (3 * tq m q p + jc m q j p) (by omega)
            obtain ⟨t1', t2', t3', t4', t5', t6', t7', t8', t9', t10', t11', t12', t13'⟩ := Ss'.2.1.2.2.2 _ ht
            have hcol : (if p = m 33 (3 * q + j) then nI (m 34 (3 * q + j)) else if p = m 35 (3 * q + j) then nI (m 36 (3 * q + j)) else mI) = nI (jc m q j p) := by
              unfold jc
              rcases hpp with e | e
              · rw [if_pos e, if_pos e]
              · rw [if_neg (by omega), if_pos e, if_neg (by omega)]
            have hpar : ∃ z, z < 3 ∧ (if p = m 33 (3 * q + j) then nI (m 35 (3 * q + j)) else if p = m 35 (3 * q + j) then nI (m 33 (3 * q + j)) else mI) = nI z := by
              rcases hpp with e | e
              · exact ⟨m 35 (3 * q + j), by omega, by rw [if_pos e]⟩
              · exact ⟨m 33 (3 * q + j), by omega, by rw [if_neg (by omega), if_pos e]⟩
            obtain ⟨z, hz, hpar⟩ := hpar
            have hpa : ∀ {K : Int32 → Prop}, z_X4_partnerOf N c (nI p) s' K = K (nI z) := fun {K} => by
              rw [c_partner (a := m 33 (3 * q + j)) (b := m 35 (3 * q + j)) (by rw [e4]; exact d2) (by rw [e4]; exact d4) (by omega) (by omega) hlp, hpar]
            have hco : ∀ {K : Int32 → Prop}, z_X4_columnOf N c (nI p) s' K = K (nI (jc m q j p)) := fun {K} => by
              rw [c_colOf (a := m 33 (3 * q + j)) (b := m 35 (3 * q + j)) (x := nI (m 34 (3 * q + j))) (y := nI (m 36 (3 * q + j))) (by rw [e4]; exact d2) (by rw [e4]; exact d4) (by rw [e4]; exact d3) (by rw [e4]; exact d5) (by omega) (by omega) hlp, hcol]
            have hju : jun m q j p ≤ 40 := v9.1
            have hdiv := Nat.div_le_self (m 8 (tq m q p)) (max 1 (jun m q j p))
            have e11 := t11' (jc m q j p) (by omega)
            have e11b : sP s' 10 (tq m q p) 10 (jc m q j p) = nI (jun m q j p) := e11
            simp (disch := omega) only [u_br_True, u_br_False, u_jn_u, u_lt_u, u_nn_s, u_brn_s, u_brn_n, nI_add, u_n_mul, u_n_lt, u_n_le, u_n_eq, u_n_sub, u_n_div, u_n_mod, nI_clamp, u_m1, u_m1q, u_wI_n, u_wA_n, u_br_t, u_br_f, ↓li_m1, li_0, li_1, li_2, li_3, li_4, li_5, li_6, li_7, li_8, li_9, li_10, li_12, li_13, li_26, li_40, li_60, li_61, li_62, li_99, li_100, li_102, li_106, li_114, li_112, li_117, li_108, li_103, li_120, li_300, li_360, li_512, li_1000, c_tabOf Ss'.2.2.2 hq hlp, if_pos hpn, hpa, hco, z_X10_takenUnlike, z_X10_takenRows, e11b, t9', c_div]
            refine c_lowest hN Ss'.2.2.1 Wx Wt hb ht (by omega) ?_
            simp (disch := omega) only [z_X6_takeJoinFrom, u_br_True, u_br_False, u_jn_u, u_lt_u, u_nn_s, u_brn_s, u_brn_n, nI_add, u_n_mul, u_n_lt, u_n_le, u_n_eq, u_n_sub, u_n_div, u_n_mod, nI_clamp, u_m1, u_m1q, u_wI_n, u_wA_n, u_br_t, u_br_f, ↓li_m1, li_0, li_1, li_2, li_3, li_4, li_5, li_6, li_7, li_8, li_9, li_10, li_12, li_13, li_26, li_40, li_60, li_61, li_62, li_99, li_100, li_102, li_106, li_114, li_112, li_117, li_108, li_103, li_120, li_300, li_360, li_512, li_1000]
            have emx : (if mU m q j p < jun m q j p then nI (jun m q j p) else nI (mU m q j p)) = nI (max (mU m q j p) (jun m q j p)) := by
              split
              · rw [Nat.max_eq_right (by omega)]
              · rw [Nat.max_eq_left (by omega)]
            rw [emx]
            refine hs2 _ _ hlp ⟨by rw [mU_s, if_pos hpp], by rw [mU_s, if_pos hpp]; omega, (m2.st (Or.inl rfl)).st (Or.inl rfl), tco _ _ _ _ (by omega) (tco _ _ _ _ (by omega) m3), fun k hk1 hk2 => ?_, fun z2 hz2 hz3 => ?_⟩
            · obtain ⟨x1, x2⟩ := m4 k hk1 hk2
              obtain ⟨k1, k2, k3, k4, k5⟩ := w3.2.2.2.2.2 k hk2
              refine ⟨by simp only [sP_stP, Nat.reduceEqDiff, true_and, and_true, false_and, and_false, if_true, if_false, eq_self, and_self, Nat.reduceLT, Nat.reduceLeDiff, Nat.reduceAdd, Nat.reduceMul, Nat.reduceDiv, Nat.one_ne_zero]; exact x1, fun z2 hz2 => ?_⟩
              simp only [sP_stP, Nat.reduceEqDiff, true_and, and_true, false_and, and_false, if_true, if_false, eq_self, and_self, Nat.reduceLT, Nat.reduceLeDiff, Nat.reduceAdd, Nat.reduceMul, Nat.reduceDiv, Nat.one_ne_zero]
              rw [if_neg (by omega), if_neg (by omega)]
              exact x2 z2 hz2
            · simp only [sP_stP, Nat.reduceEqDiff, true_and, and_true, false_and, and_false, if_true, if_false, eq_self, and_self, Nat.reduceLT, Nat.reduceLeDiff, Nat.reduceAdd, Nat.reduceMul, Nat.reduceDiv, Nat.one_ne_zero]
              by_cases e : z2 = p
              · subst e
                rw [if_pos rfl, if_pos rfl]
                exact ⟨rfl, rfl⟩
              · rw [if_neg (by omega), if_neg (by omega)]
                exact m5 z2 (by omega) hz3
          · have hpar : (if p = m 33 (3 * q + j) then nI (m 35 (3 * q + j)) else if p = m 35 (3 * q + j) then nI (m 33 (3 * q + j)) else mI) = mI := by
              rw [if_neg (fun e => hpp (Or.inl e)), if_neg (fun e => hpp (Or.inr e))]
            simp (disch := omega) only [u_br_True, u_br_False, u_jn_u, u_lt_u, u_nn_s, u_brn_s, u_brn_n, nI_add, u_n_mul, u_n_lt, u_n_le, u_n_eq, u_n_sub, u_n_div, u_n_mod, nI_clamp, u_m1, u_m1q, u_wI_n, u_wA_n, u_br_t, u_br_f, ↓li_m1, li_0, li_1, li_2, li_3, li_4, li_5, li_6, li_7, li_8, li_9, li_10, li_12, li_13, li_26, li_40, li_60, li_61, li_62, li_99, li_100, li_102, li_106, li_114, li_112, li_117, li_108, li_103, li_120, li_300, li_360, li_512, li_1000, c_tabOf Ss'.2.2.2 hq hlp, if_pos hpn, c_partner (by rw [e4]; exact d2) (by rw [e4]; exact d4) (by omega : m 33 (3 * q + j) < 3) (by omega : m 35 (3 * q + j) < 3) hlp, hpar]
            refine hs2 _ _ hlp ⟨by rw [mU_s, if_neg hpp], by rw [mU_s, if_neg hpp]; exact m1, m2, m3, m4, fun z2 hz2 hz3 => ?_⟩
            by_cases e : z2 = p
            · subst e; exact absurd hz3 hpp
            · exact m5 z2 (by omega) hz3
        · have hpp : ¬ (p = m 33 (3 * q + j) ∨ p = m 35 (3 * q + j)) := by omega
          simp (disch := omega) only [u_br_True, u_br_False, u_jn_u, u_lt_u, u_nn_s, u_brn_s, u_brn_n, nI_add, u_n_mul, u_n_lt, u_n_le, u_n_eq, u_n_sub, u_n_div, u_n_mod, nI_clamp, u_m1, u_m1q, u_wI_n, u_wA_n, u_br_t, u_br_f, ↓li_m1, li_0, li_1, li_2, li_3, li_4, li_5, li_6, li_7, li_8, li_9, li_10, li_12, li_13, li_26, li_40, li_60, li_61, li_62, li_99, li_100, li_102, li_106, li_114, li_112, li_117, li_108, li_103, li_120, li_300, li_360, li_512, li_1000, c_tabOf Ss'.2.2.2 hq hlp, if_neg hpn]
          refine hs2 _ _ hlp ⟨by rw [mU_s, if_neg hpp], by rw [mU_s, if_neg hpp]; exact m1, m2, m3, m4, fun z2 hz2 hz3 => ?_⟩
          by_cases e : z2 = p
          · subst e; exact absurd hz3 hpp
          · exact m5 z2 (by omega) hz3
      · have hp3 : p = 3 := by omega
        subst hp3
        simp (disch := omega) only [u_br_True, u_br_False, u_jn_u, u_lt_u, u_nn_s, u_brn_s, u_brn_n, nI_add, u_n_mul, u_n_lt, u_n_le, u_n_eq, u_n_sub, u_n_div, u_n_mod, nI_clamp, u_m1, u_m1q, u_wI_n, u_wA_n, u_br_t, u_br_f, ↓li_m1, li_0, li_1, li_2, li_3, li_4, li_5, li_6, li_7, li_8, li_9, li_10, li_12, li_13, li_26, li_40, li_60, li_61, li_62, li_99, li_100, li_102, li_106, li_114, li_112, li_117, li_108, li_103, li_120, li_300, li_360, li_512, li_1000, c_div]
        rw [jsh_mU j5 (by omega) (by omega)]
        refine hs _ hl ⟨m2.st (Or.inl rfl), tco _ _ _ _ (by omega) m3, fun k hk1 hk2 => ?_⟩
        by_cases e : k = j
        · subst e
          refine ⟨by simp only [sP_stP, Nat.reduceEqDiff, true_and, and_true, false_and, and_false, if_true, if_false, eq_self, and_self, Nat.reduceLT, Nat.reduceLeDiff, Nat.reduceAdd, Nat.reduceMul, Nat.reduceDiv, Nat.one_ne_zero], fun z hz => ?_⟩
          simp only [sP_stP, Nat.reduceEqDiff, true_and, and_true, false_and, and_false, if_true, if_false, eq_self, and_self, Nat.reduceLT, Nat.reduceLeDiff, Nat.reduceAdd, Nat.reduceMul, Nat.reduceDiv, Nat.one_ne_zero]
          exact m5 z (by omega) hz
        · obtain ⟨x1, x2⟩ := m4 k (by omega) hk2
          refine ⟨by simp only [sP_stP, Nat.reduceEqDiff, true_and, and_true, false_and, and_false, if_true, if_false, eq_self, and_self, Nat.reduceLT, Nat.reduceLeDiff, Nat.reduceAdd, Nat.reduceMul, Nat.reduceDiv, Nat.one_ne_zero]; rw [if_neg e]; exact x1, fun z hz => ?_⟩
          simp only [sP_stP, Nat.reduceEqDiff, true_and, and_true, false_and, and_false, if_true, if_false, eq_self, and_self, Nat.reduceLT, Nat.reduceLeDiff, Nat.reduceAdd, Nat.reduceMul, Nat.reduceDiv, Nat.one_ne_zero]
          exact x2 z hz
    · have cc3 : ∀ {K : Option Nat → Prop}, z_X7_joinAt N q (nI j) s K = K none := cc2 (by omega)
      simp (disch := omega) only [u_br_True, u_br_False, u_jn_u, u_lt_u, u_nn_s, u_brn_s, u_brn_n, nI_add, u_n_mul, u_n_lt, u_n_le, u_n_eq, u_n_sub, u_n_div, u_n_mod, nI_clamp, u_m1, u_m1q, u_wI_n, u_wA_n, u_br_t, u_br_f, ↓li_m1, li_0, li_1, li_2, li_3, li_4, li_5, li_6, li_7, li_8, li_9, li_10, li_12, li_13, li_26, li_40, li_60, li_61, li_62, li_99, li_100, li_102, li_106, li_114, li_112, li_117, li_108, li_103, li_120, li_300, li_360, li_512, li_1000, cc3]
      rw [fx3_s (by omega)]
      simp (disch := omega) only [u_br_True, u_br_False, u_jn_u, u_lt_u, u_nn_s, u_brn_s, u_brn_n, nI_add, u_n_mul, u_n_lt, u_n_le, u_n_eq, u_n_sub, u_n_div, u_n_mod, nI_clamp, u_m1, u_m1q, u_wI_n, u_wA_n, u_br_t, u_br_f, ↓li_m1, li_0, li_1, li_2, li_3, li_4, li_5, li_6, li_7, li_8, li_9, li_10, li_12, li_13, li_26, li_40, li_60, li_61, li_62, li_99, li_100, li_102, li_106, li_114, li_112, li_117, li_108, li_103, li_120, li_300, li_360, li_512, li_1000, c_div]
      refine hs _ hl ⟨i1.st (Or.inl rfl), tco _ _ _ _ (by omega) i2, fun k hk1 hk2 => ?_⟩
      obtain ⟨x1, x2⟩ := i3 k (by omega) hk2
      refine ⟨by simp only [sP_stP, Nat.reduceEqDiff, true_and, and_true, false_and, and_false, if_true, if_false, eq_self, and_self, Nat.reduceLT, Nat.reduceLeDiff, Nat.reduceAdd, Nat.reduceMul, Nat.reduceDiv, Nat.one_ne_zero]; rw [if_neg (by omega)]; exact x1, fun z hz => ?_⟩
      simp only [sP_stP, Nat.reduceEqDiff, true_and, and_true, false_and, and_false, if_true, if_false, eq_self, and_self, Nat.reduceLT, Nat.reduceLeDiff, Nat.reduceAdd, Nat.reduceMul, Nat.reduceDiv, Nat.one_ne_zero]
      exact x2 z hz
  · rw [u_br_t (by rw [li_3, u_n_le (by omega) (by omega)]; omega)]
    exact h s i1 i2 (fun k hk => i3 k (by omega) hk)
end CJOINS
