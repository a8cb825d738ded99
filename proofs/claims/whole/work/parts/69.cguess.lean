section CGUESS
variable {m m' mm : Nat → Nat → Nat} {u u' w : Nat → Int32} {L L' E : List Nat} {σ σ' σ1 σ2 : St} {N kk t c k n q ban place p way x y b a i s v told f j cc d lo hi : Nat} {o o' ways g : Nat → Nat} {P Q : Nat → Prop}
theorem min_s (h : k < n) : min (k + 1) n = min k n + 1 := by omega
theorem max1 (hx : x < 2 ^ 62) : (if lN x < (1 : Int64) then (1 : Int64) else lN x) = lN (max 1 x) := by
  by_cases h : x < 1
  · rw [if_pos (by rw [ll_1, l_lt (by omega) (by omega)]; exact h), Nat.max_eq_left (by omega)]; rfl
  · rw [if_neg (by rw [ll_1, l_lt (by omega) (by omega)]; exact h), Nat.max_eq_right (by omega)]
theorem c_choices (hN : 1000000 ≤ N) (S : SS m u σ) (W : WQ m) (Wt : WT m u) (hq : q < m 24 0) (hC : TCo m q ban σ) (hT : TJ m q ban σ) (hP : PO σ i (m 25 q) o) (ho : Pm o) (hpl : place < m 25 q) (hon : o place < m 25 q) (hb : b ≤ 64000) {K : Int64 → Prop} (h : K (lN (max 1 (chJ m q o place (chC m q (o place) (b * m 8 (tq m q (o place))) (m 27 q)) (m 32 q))))) : z_X6_choicesBehind N 0 (some i) (some q) (nI place) (lN b) σ K := by
  have w3 := (W.2.2 q hq)
  have hn := Wt.nt
  have ho3 := ho.1 place (by omega)
  have p3 : place < 3 := by omega
  have ht : tq m q (o place) < m 1 0 := w3.2.2.2.1 _ hon
  have w8 := Wt.2.2.2.2.2.2.2.1 (tq m q (o place)) (by omega)
  have t9 := (S.2.1.2.2.2 _ ht).2.2.2.2.2.2.2.2.1
  have hB : b * m 8 (tq m q (o place)) ≤ 64000 * 40 := Nat.mul_le_mul hb w8.1
  simp (disch := omega) only [z_X6_choicesBehind, u_br_True, u_br_False, u_jn_u, u_lt_u, u_nn_s, u_brn_s, u_brn_n, ↓li_m1, li_0, li_1, li_2, li_3, li_4, li_5, li_6, li_7, li_8, li_9, li_10, li_12, li_13, li_26, li_40, li_60, li_61, li_62, li_99, li_100, li_102, li_106, li_114, li_112, li_117, li_108, li_103, li_120, li_300, li_360, li_512, li_1000, nI_add, u_n_mul, u_n_lt, u_n_le, u_n_eq, u_n_sub, u_n_div, u_n_mod, nI_clamp, u_m1, u_m1q, u_wI_n, u_wA_n, u_br_t, u_br_f, c_posAt hP p3, c_tabOf S.2.2.2 hq ho3, if_pos hon, z_X10_takenRows, t9, nI_l, lN_mul]
  refine for_v 4 (by omega) (by omega) (fun k a => a = lN (chC m q (o place) (b * m 8 (tq m q (o place))) (min k (m 27 q)))) 0 (by omega) (fun self k a hk ha hs => ?_) (by rw [Nat.min_eq_left (Nat.zero_le _)]; rfl)
  subst ha
  have bC := chC_le W Wt hq (p := o place) (b := b * m 8 (tq m q (o place))) (min k (m 27 q)) (by omega)
  by_cases hl : k < 4
  · obtain ⟨c1, c2⟩ := c_cond (N := N) S.2.2.2 W hq hl
    by_cases hk2 : k < m 27 q
    · obtain ⟨c, d1, d2, d3, d4, d5⟩ := c1 hk2
      obtain ⟨b1, b2, b3, b4⟩ := w3.2.2.2.2.1 k hk2
      have hsh := share_le W Wt hq hk2
      have e1 := (hC.1 k hk2).1
      have goalS := fun a' (hx : a' = lN (chC m q (o place) (b * m 8 (tq m q (o place))) (min (k + 1) (m 27 q)))) => hs a' hl hx
      rw [min_s hk2, Nat.min_eq_left (by omega)] at goalS
      have eC : chC m q (o place) (b * m 8 (tq m q (o place))) (k + 1) = if m 28 (4 * q + k) = o place then chC m q (o place) (b * m 8 (tq m q (o place))) k * share m q k / 1000 else chC m q (o place) (b * m 8 (tq m q (o place))) k := rfl
      rw [eC] at goalS
      rw [Nat.min_eq_left (by omega)] at bC ⊢
      simp (disch := omega) only [u_br_True, u_br_False, u_jn_u, u_lt_u, u_nn_s, u_brn_s, u_brn_n, nI_add, u_n_mul, u_n_lt, u_n_le, u_n_eq, u_n_sub, u_n_div, u_n_mod, nI_clamp, u_m1, u_m1q, u_wI_n, u_wA_n, u_br_t, u_br_f, d1, z_X1_position, d2]
      by_cases hp : m 28 (4 * q + k) = o place
      · rw [if_pos hp] at goalS
        have bb : chC m q (o place) (b * m 8 (tq m q (o place))) k * share m q k ≤ 64000 * 40 * 1000 := Nat.mul_le_mul (by omega) hsh
        rw [u_br_t hp]
        simp (disch := omega) only [e1, nI_l, lN_mul, ll_1000, l_div]
        exact goalS _ rfl
      · rw [if_neg hp] at goalS
        rw [u_br_f hp]
        exact goalS _ rfl
    · have c3 : ∀ {K : Option Nat → Prop}, z_X7_conditionAt N q (nI k) σ K = K none := c2 (by omega)
      simp (disch := omega) only [u_br_True, u_br_False, u_jn_u, u_lt_u, u_nn_s, u_brn_s, u_brn_n, nI_add, u_n_mul, u_n_lt, u_n_le, u_n_eq, u_n_sub, u_n_div, u_n_mod, nI_clamp, u_m1, u_m1q, u_wI_n, u_wA_n, u_br_t, u_br_f, c3]
      refine hs _ hl ?_
      rw [Nat.min_eq_right (by omega), Nat.min_eq_right (by omega)]
  · have hk4 : k = 4 := by omega
    subst hk4
    rw [Nat.min_eq_right (by omega)] at bC ⊢
    simp (disch := omega) only [u_br_True, u_br_False, u_jn_u, u_lt_u, u_nn_s, u_brn_s, u_brn_n, nI_add, u_n_mul, u_n_lt, u_n_le, u_n_eq, u_n_sub, u_n_div, u_n_mod, nI_clamp, u_m1, u_m1q, u_wI_n, u_wA_n, u_br_t, u_br_f]
    refine for_v 3 (by omega) (by omega) (fun k a => a = lN (chJ m q o place (chC m q (o place) (b * m 8 (tq m q (o place))) (m 27 q)) (min k (m 32 q)))) 0 (by omega) (fun self2 k a hk ha hs2 => ?_) (by rw [Nat.min_eq_left (Nat.zero_le _)]; rfl)
    subst ha
    have bJ := chJ_le (m := m) (q := q) (o := o) (place := place) (b := chC m q (o place) (b * m 8 (tq m q (o place))) (m 27 q)) (min k (m 32 q))
    by_cases hl2 : k < 3
    · obtain ⟨c1, c2⟩ := c_joinA (N := N) S.2.2.2 W hq hl2
      by_cases hk2 : k < m 32 q
      · obtain ⟨c, d1, d2, d3, d4, d5⟩ := c1 hk2
        have hsh := jsh_le (m := m) (q := q) (k := k)
        have e1 := (hT k hk2).1
        have goalS := fun a' (hx : a' = lN (chJ m q o place (chC m q (o place) (b * m 8 (tq m q (o place))) (m 27 q)) (min (k + 1) (m 32 q)))) => hs2 a' hl2 hx
        rw [min_s hk2, Nat.min_eq_left (by omega)] at goalS
        have eJ : chJ m q o place (chC m q (o place) (b * m 8 (tq m q (o place))) (m 27 q)) (k + 1) = if (own m q o place k).isSome = true then chJ m q o place (chC m q (o place) (b * m 8 (tq m q (o place))) (m 27 q)) k * jsh m q k / 1000 else chJ m q o place (chC m q (o place) (b * m 8 (tq m q (o place))) (m 27 q)) k := rfl
        rw [eJ] at goalS
        rw [Nat.min_eq_left (by omega)] at bJ ⊢
        simp (disch := omega) only [u_br_True, u_br_False, u_jn_u, u_lt_u, u_nn_s, u_brn_s, u_brn_n, nI_add, u_n_mul, u_n_lt, u_n_le, u_n_eq, u_n_sub, u_n_div, u_n_mod, nI_clamp, u_m1, u_m1q, u_wI_n, u_wA_n, u_br_t, u_br_f, d1]
        rw [c_own W hq hk2 hP ho hpl d2 d4]
        by_cases hp : (own m q o place k).isSome = true
        · rw [if_pos hp] at goalS
          have bb : chJ m q o place (chC m q (o place) (b * m 8 (tq m q (o place))) (m 27 q)) k * jsh m q k ≤ 64000 * 40 * 1000 := Nat.mul_le_mul (by omega) hsh
          rw [if_pos hp, u_br_f (by rw [b10]; exact fun h => h)]
          simp (disch := omega) only [e1, nI_l, lN_mul, ll_1000, l_div]
          exact goalS _ rfl
        · rw [if_neg hp] at goalS
          rw [if_neg hp, u_br_t rfl]
          exact goalS _ rfl
      · have c3 : ∀ {K : Option Nat → Prop}, z_X7_joinAt N q (nI k) σ K = K none := c2 (by omega)
        simp (disch := omega) only [u_br_True, u_br_False, u_jn_u, u_lt_u, u_nn_s, u_brn_s, u_brn_n, nI_add, u_n_mul, u_n_lt, u_n_le, u_n_eq, u_n_sub, u_n_div, u_n_mod, nI_clamp, u_m1, u_m1q, u_wI_n, u_wA_n, u_br_t, u_br_f, c3]
        refine hs2 _ hl2 ?_
        rw [Nat.min_eq_right (by omega), Nat.min_eq_right (by omega)]
    · have hk3 : k = 3 := by omega
      subst hk3
      rw [Nat.min_eq_right (by omega)] at bJ ⊢
      simp (disch := omega) only [u_br_True, u_br_False, u_jn_u, u_lt_u, u_nn_s, u_brn_s, u_brn_n, nI_add, u_n_mul, u_n_lt, u_n_le, u_n_eq, u_n_sub, u_n_div, u_n_mod, nI_clamp, u_m1, u_m1q, u_wI_n, u_wA_n, u_br_t, u_br_f]
      rw [max1 (by omega)]
      exact h
theorem c_guess (hN : 1000000 ≤ N) (S : SS m u σ) (W : WQ m) (Wt : WT m u) (hq : q < m 24 0) (hC : TCo m q ban σ) (hT : TJ m q ban σ) (hP : PO σ i (m 25 q) o) (ho : Pm o) (hon : ∀ p, p < m 25 q → o p < m 25 q) (hW : ∀ p, p < m 25 q → ∃ ix, PW σ i p (ways p) ix) (hok : ∀ p, p < m 25 q → okW m q ban o p (ways p)) {K : Int64 → Prop} (h : K (lN (est m q o ways (m 25 q)))) : z_X6_guessOf N 0 (some i) (some q) σ K := by
  have w3 := (W.2.2 q hq).1
  simp only [z_X6_guessOf, u_br_True, u_br_False, u_jn_u, u_lt_u, u_nn_s, u_brn_s, u_brn_n, ↓li_m1, li_0, li_1, li_2, li_3, li_4, li_5, li_6, li_7, li_8, li_9, li_10, li_12, li_13, li_26, li_40, li_60, li_61, li_62, li_99, li_100, li_102, li_106, li_114, li_112, li_117, li_108, li_103, li_120, li_300, li_360, li_512, li_1000, ll_0, ll_1]
  refine for_2 (m 25 q) (by omega) (by omega) (fun p a b => a = lN (est m q o ways p) ∧ b = lN (chs m q o p)) 0 (by omega) (fun self p a b hp hI hs => ?_) ⟨rfl, rfl⟩
  obtain ⟨rfl, rfl⟩ := hI
  by_cases hl : p < m 25 q
  · obtain ⟨ix, hW'⟩ := hW p hl
    have b1 := chs_le W Wt hq hon p (by omega)
    have b2 := pow40 (n := p) (by omega)
    have b3 := wCost_le W Wt hq (hon p hl) (hok p hl)
    simp (disch := omega) only [z_X5_size, hP.1, u_br_True, u_br_False, u_jn_u, u_lt_u, u_nn_s, u_brn_s, u_brn_n, nI_add, u_n_mul, u_n_lt, u_n_le, u_n_eq, u_n_sub, u_n_div, u_n_mod, nI_clamp, u_m1, u_m1q, u_wI_n, u_wA_n, u_br_t, u_br_f, c_cost S W Wt hq hC hT hP ho hl (hon p hl) hW' (hok p hl), nI_l, lN_mul, lN_add]
    refine c_choices hN S W Wt hq hC hT hP ho hl (hon p hl) (by omega) ?_
    exact hs _ _ hl ⟨rfl, rfl⟩
  · simp (disch := omega) only [z_X5_size, hP.1, u_br_True, u_br_False, u_jn_u, u_lt_u, u_nn_s, u_brn_s, u_brn_n, nI_add, u_n_mul, u_n_lt, u_n_le, u_n_eq, u_n_sub, u_n_div, u_n_mod, nI_clamp, u_m1, u_m1q, u_wI_n, u_wA_n, u_br_t, u_br_f]
    rw [show p = m 25 q by omega]
    exact h
end CGUESS
