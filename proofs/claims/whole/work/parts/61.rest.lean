section REST
variable {m m' mm : Nat → Nat → Nat} {u u' w : Nat → Int32} {L L' E : List Nat} {σ σ' σ1 σ2 : St} {N kk t c k n q ban place p way x y b a i s v told : Nat} {o o' ways : Nat → Nat}
theorem r_holds (hs : sg s) (hv : v < 2 ^ 31) (ht : told < 2 ^ 31) {K : Int32 → Prop} : z_X12_holds N (nI s) (nI told) (nI v) σ K = K (if hold s told v = true then nI 1 else nI 0) := by
  rcases hs with rfl | rfl | rfl
  · by_cases h : v = told
    · rw [if_pos (by simp [hold, h])]
      simp (disch := omega) only [z_X12_holds, u_br_True, u_br_False, u_jn_u, u_lt_u, u_nn_s, u_brn_s, u_brn_n, nI_add, u_n_mul, u_n_lt, u_n_le, u_n_eq, u_n_sub, u_n_div, u_n_mod, nI_clamp, u_m1, u_m1q, u_wI_n, u_wA_n, u_br_t, u_br_f, ↓li_m1, li_0, li_1, li_2, li_3, li_4, li_5, li_6, li_7, li_8, li_9, li_10, li_12, li_13, li_26, li_40, li_60, li_61, li_62, li_99, li_100, li_102, li_106, li_114, li_112, li_117, li_108, li_103, li_120, li_300, li_360, li_512, li_1000]
    · rw [if_neg (by simp [hold, h])]
      simp (disch := omega) only [z_X12_holds, u_br_True, u_br_False, u_jn_u, u_lt_u, u_nn_s, u_brn_s, u_brn_n, nI_add, u_n_mul, u_n_lt, u_n_le, u_n_eq, u_n_sub, u_n_div, u_n_mod, nI_clamp, u_m1, u_m1q, u_wI_n, u_wA_n, u_br_t, u_br_f, ↓li_m1, li_0, li_1, li_2, li_3, li_4, li_5, li_6, li_7, li_8, li_9, li_10, li_12, li_13, li_26, li_40, li_60, li_61, li_62, li_99, li_100, li_102, li_106, li_114, li_112, li_117, li_108, li_103, li_120, li_300, li_360, li_512, li_1000]
  · by_cases h : v < told
    · rw [if_pos (by simp [hold, h])]
      simp (disch := omega) only [z_X12_holds, u_br_True, u_br_False, u_jn_u, u_lt_u, u_nn_s, u_brn_s, u_brn_n, nI_add, u_n_mul, u_n_lt, u_n_le, u_n_eq, u_n_sub, u_n_div, u_n_mod, nI_clamp, u_m1, u_m1q, u_wI_n, u_wA_n, u_br_t, u_br_f, ↓li_m1, li_0, li_1, li_2, li_3, li_4, li_5, li_6, li_7, li_8, li_9, li_10, li_12, li_13, li_26, li_40, li_60, li_61, li_62, li_99, li_100, li_102, li_106, li_114, li_112, li_117, li_108, li_103, li_120, li_300, li_360, li_512, li_1000]
    · rw [if_neg (by simp [hold]; omega)]
      simp (disch := omega) only [z_X12_holds, u_br_True, u_br_False, u_jn_u, u_lt_u, u_nn_s, u_brn_s, u_brn_n, nI_add, u_n_mul, u_n_lt, u_n_le, u_n_eq, u_n_sub, u_n_div, u_n_mod, nI_clamp, u_m1, u_m1q, u_wI_n, u_wA_n, u_br_t, u_br_f, ↓li_m1, li_0, li_1, li_2, li_3, li_4, li_5, li_6, li_7, li_8, li_9, li_10, li_12, li_13, li_26, li_40, li_60, li_61, li_62, li_99, li_100, li_102, li_106, li_114, li_112, li_117, li_108, li_103, li_120, li_300, li_360, li_512, li_1000]
  · by_cases h : told < v
    · rw [if_pos (by simp [hold, h])]
      simp (disch := omega) only [z_X12_holds, u_br_True, u_br_False, u_jn_u, u_lt_u, u_nn_s, u_brn_s, u_brn_n, nI_add, u_n_mul, u_n_lt, u_n_le, u_n_eq, u_n_sub, u_n_div, u_n_mod, nI_clamp, u_m1, u_m1q, u_wI_n, u_wA_n, u_br_t, u_br_f, ↓li_m1, li_0, li_1, li_2, li_3, li_4, li_5, li_6, li_7, li_8, li_9, li_10, li_12, li_13, li_26, li_40, li_60, li_61, li_62, li_99, li_100, li_102, li_106, li_114, li_112, li_117, li_108, li_103, li_120, li_300, li_360, li_512, li_1000]
    · rw [if_neg (by simp [hold]; omega)]
      simp (disch := omega) only [z_X12_holds, u_br_True, u_br_False, u_jn_u, u_lt_u, u_nn_s, u_brn_s, u_brn_n, nI_add, u_n_mul, u_n_lt, u_n_le, u_n_eq, u_n_sub, u_n_div, u_n_mod, nI_clamp, u_m1, u_m1q, u_wI_n, u_wA_n, u_br_t, u_br_f, ↓li_m1, li_0, li_1, li_2, li_3, li_4, li_5, li_6, li_7, li_8, li_9, li_10, li_12, li_13, li_26, li_40, li_60, li_61, li_62, li_99, li_100, li_102, li_106, li_114, li_112, li_117, li_108, li_103, li_120, li_300, li_360, li_512, li_1000]
/-- values of a range that are such, below a number -/
def suC (lo hi sg told n : Nat) : Nat := ((List.range n).filter (fun v => decide (lo ≤ v) && (decide (v ≤ hi) && hold sg told v))).length
theorem suC_s {lo hi sg told n : Nat} : suC lo hi sg told (n + 1) = suC lo hi sg told n + (if lo ≤ n ∧ n ≤ hi ∧ hold sg told n = true then 1 else 0) := by
  simp only [suC, List.range_succ, List.filter_append, List.length_append]
  by_cases h : lo ≤ n ∧ n ≤ hi ∧ hold sg told n = true
  · rw [if_pos h]; simp [h.1, h.2.1, h.2.2]
  · rw [if_neg h]
    have : (decide (lo ≤ n) && (decide (n ≤ hi) && hold sg told n)) = false := by
      cases h9 : (decide (lo ≤ n) && (decide (n ≤ hi) && hold sg told n)) with
      | false => rfl
      | true => simp only [Bool.and_eq_true, decide_eq_true_eq] at h9; exact absurd h9 h
    simp [this]
theorem suC_lo {lo hi sg told : Nat} : ∀ n, n ≤ lo → suC lo hi sg told n = 0
  | 0, _ => rfl
  | n + 1, h => by rw [suC_s, suC_lo n (by omega), if_neg (by omega)]
theorem suC_hi {lo hi sg told : Nat} : ∀ d, suC lo hi sg told (hi + 1 + d) = suC lo hi sg told (hi + 1)
  | 0 => rfl
  | d + 1 => by rw [← Nat.add_assoc, suC_s, suC_hi d, if_neg (by omega), Nat.add_zero]
theorem suC_le {lo hi sg told : Nat} : ∀ n, suC lo hi sg told n ≤ n - lo
  | 0 => Nat.zero_le _
  | n + 1 => by
    have := suC_le (lo := lo) (hi := hi) (sg := sg) (told := told) n
    rw [suC_s]
    split <;> omega
theorem share_n {lo hi sg told : Nat} (h : hi ≤ 99) : ((List.range 100).filter (fun v => decide (lo ≤ v) && (decide (v ≤ hi) && hold sg told v))).length = suC lo hi sg told (hi + 1) := by
  have := suC_hi (lo := lo) (hi := hi) (sg := sg) (told := told) (99 - hi)
  rw [show hi + 1 + (99 - hi) = 100 by omega] at this
  exact this
theorem share_le (W : WQ m) (Wt : WT m u) (hq : q < m 24 0) (hk : k < m 27 q) : share m q k ≤ 1000 := by
  have h1 := Wt.nt
  obtain ⟨b1, b2, b3, b4⟩ := (W.2.2 q hq).2.2.2.2.1 k hk
  have ht := (W.2.2 q hq).2.2.2.1 _ b1
  have ht' : tq m q (m 28 (4 * q + k)) < m 1 0 := ht
  have hcl := Wt.cl ht'
  have w9 := Wt.2.2.2.2.2.2.2.2.1 (3 * tq m q (m 28 (4 * q + k)) + m 29 (4 * q + k)) (by omega)
  unfold share
  split
  · exact Nat.div_le_self _ _
  · rw [share_n w9.2.2.1]
    have := suC_le (lo := m 11 (3 * tq m q (m 28 (4 * q + k)) + m 29 (4 * q + k))) (hi := m 12 (3 * tq m q (m 28 (4 * q + k)) + m 29 (4 * q + k))) (sg := m 30 (4 * q + k)) (told := m 31 (4 * q + k)) (m 12 (3 * tq m q (m 28 (4 * q + k)) + m 29 (4 * q + k)) + 1)
    refine Nat.div_le_of_le_mul ?_
    rw [Nat.mul_comm]
    exact Nat.mul_le_mul_right _ this
theorem jsh_le : jsh m q k ≤ 1000 := Nat.div_le_self _ _
theorem r_share (hN : 1000000 ≤ N) (R : RI m u w L σ) (W : WQ m) (Wt : WT m u) (hq : q < m 24 0) (hk : k < m 27 q) {K : Int64 → Prop} (h : K (lN (share m q k))) : z_X12_share N 0 (nI q) (nI (4 * q + k)) σ K := by
  have w1 := W.1
  have w3 := W.2.2 q hq
  have h1 := Wt.nt
  obtain ⟨b1, b2, b3, b4⟩ := w3.2.2.2.2.1 k hk
  have ht := w3.2.2.2.1 _ b1
  have ht' : tq m q (m 28 (4 * q + k)) < m 1 0 := ht
  have hcl := Wt.cl ht'
  have w9 := Wt.2.2.2.2.2.2.2.2.1 (3 * tq m q (m 28 (4 * q + k)) + m 29 (4 * q + k)) (by omega)
  have e26 : sP σ 12 0 26 (3 * q + m 28 (4 * q + k)) = nI (tq m q (m 28 (4 * q + k))) := R.r 26 _ rfl
  by_cases hs : m 30 (4 * q + k) = 61
  · have e : share m q k = 1000 / max 1 (m 10 (3 * tq m q (m 28 (4 * q + k)) + m 29 (4 * q + k))) := by unfold share; rw [if_pos hs]
    rw [e] at h
    simp (disch := omega) only [z_X12_share, u_br_True, u_br_False, u_jn_u, u_lt_u, u_nn_s, u_brn_s, u_brn_n, nI_add, u_n_mul, u_n_lt, u_n_le, u_n_eq, u_n_sub, u_n_div, u_n_mod, nI_clamp, u_m1, u_m1q, u_wI_n, u_wA_n, u_br_t, u_br_f, ↓li_m1, li_0, li_1, li_2, li_3, li_4, li_5, li_6, li_7, li_8, li_9, li_10, li_12, li_13, li_26, li_40, li_60, li_61, li_62, li_99, li_100, li_102, li_106, li_114, li_112, li_117, li_108, li_103, li_120, li_300, li_360, li_512, li_1000, (fun j => R.r 10 j rfl), (fun j => R.r 28 j rfl), (fun j => R.r 29 j rfl), (fun j => R.r 30 j rfl), e26, hs, r_most, nI_l, u_dzL, ll_1000, l_div]
    exact h
  · have e : share m q k = 1000 * suC (m 11 (3 * tq m q (m 28 (4 * q + k)) + m 29 (4 * q + k))) (m 12 (3 * tq m q (m 28 (4 * q + k)) + m 29 (4 * q + k))) (m 30 (4 * q + k)) (m 31 (4 * q + k)) (m 12 (3 * tq m q (m 28 (4 * q + k)) + m 29 (4 * q + k)) + 1) / (m 12 (3 * tq m q (m 28 (4 * q + k)) + m 29 (4 * q + k)) + 1 - m 11 (3 * tq m q (m 28 (4 * q + k)) + m 29 (4 * q + k))) := by
      unfold share
      rw [if_neg hs, share_n w9.2.2.1]
    rw [e] at h
    simp (disch := omega) only [z_X12_share, u_br_True, u_br_False, u_jn_u, u_lt_u, u_nn_s, u_brn_s, u_brn_n, nI_add, u_n_mul, u_n_lt, u_n_le, u_n_eq, u_n_sub, u_n_div, u_n_mod, nI_clamp, u_m1, u_m1q, u_wI_n, u_wA_n, u_br_t, u_br_f, ↓li_m1, li_0, li_1, li_2, li_3, li_4, li_5, li_6, li_7, li_8, li_9, li_10, li_12, li_13, li_26, li_40, li_60, li_61, li_62, li_99, li_100, li_102, li_106, li_114, li_112, li_117, li_108, li_103, li_120, li_300, li_360, li_512, li_1000, (fun j => R.r 11 j rfl), (fun j => R.r 12 j rfl), (fun j => R.r 28 j rfl), (fun j => R.r 29 j rfl), (fun j => R.r 30 j rfl), (fun j => R.r 31 j rfl), e26]
    refine for_v (m 12 (3 * tq m q (m 28 (4 * q + k)) + m 29 (4 * q + k)) + 1) (by omega) (by omega) (fun i a => a = nI (suC (m 11 (3 * tq m q (m 28 (4 * q + k)) + m 29 (4 * q + k))) (m 12 (3 * tq m q (m 28 (4 * q + k)) + m 29 (4 * q + k))) (m 30 (4 * q + k)) (m 31 (4 * q + k)) i) ∧ m 11 (3 * tq m q (m 28 (4 * q + k)) + m 29 (4 * q + k)) ≤ i) (m 11 (3 * tq m q (m 28 (4 * q + k)) + m 29 (4 * q + k))) (by omega) (fun self i a hi ha hs2 => ?_) ⟨by rw [suC_lo _ (Nat.le_refl _)], Nat.le_refl _⟩
    obtain ⟨rfl, hlo⟩ := ha
    have hsu := suC_le (lo := m 11 (3 * tq m q (m 28 (4 * q + k)) + m 29 (4 * q + k))) (hi := m 12 (3 * tq m q (m 28 (4 * q + k)) + m 29 (4 * q + k))) (sg := m 30 (4 * q + k)) (told := m 31 (4 * q + k)) i
    by_cases hl : i < m 12 (3 * tq m q (m 28 (4 * q + k)) + m 29 (4 * q + k)) + 1
    · have goalS := fun a hx => hs2 a hl ⟨hx, by omega⟩
      rw [suC_s] at goalS
      simp (disch := omega) only [u_br_True, u_br_False, u_jn_u, u_lt_u, u_nn_s, u_brn_s, u_brn_n, nI_add, u_n_mul, u_n_lt, u_n_le, u_n_eq, u_n_sub, u_n_div, u_n_mod, nI_clamp, u_m1, u_m1q, u_wI_n, u_wA_n, u_br_t, u_br_f, r_holds b3 (by omega : i < 2 ^ 31) (by omega : m 31 (4 * q + k) < 2 ^ 31)]
      by_cases hh : hold (m 30 (4 * q + k)) (m 31 (4 * q + k)) i = true
      · rw [if_pos ⟨by omega, by omega, hh⟩] at goalS
        rw [if_pos hh, u_br_f (by rw [b10]; exact fun h => h)]
        exact goalS _ rfl
      · rw [if_neg (fun h9 => hh h9.2.2)] at goalS
        rw [if_neg hh, u_br_t rfl]
        exact goalS _ rfl
    · have hi2 : i = m 12 (3 * tq m q (m 28 (4 * q + k)) + m 29 (4 * q + k)) + 1 := by omega
      rw [hi2] at hsu ⊢
      simp (disch := omega) only [u_br_True, u_br_False, u_jn_u, u_lt_u, u_nn_s, u_brn_s, u_brn_n, nI_add, u_n_mul, u_n_lt, u_n_le, u_n_eq, u_n_sub, u_n_div, u_n_mod, nI_clamp, u_m1, u_m1q, u_wI_n, u_wA_n, u_br_t, u_br_f, nI_l, u_dzL, ll_1000, lN_mul, l_div]
      rw [show m 12 (3 * tq m q (m 28 (4 * q + k)) + m 29 (4 * q + k)) - m 11 (3 * tq m q (m 28 (4 * q + k)) + m 29 (4 * q + k)) + 1 = m 12 (3 * tq m q (m 28 (4 * q + k)) + m 29 (4 * q + k)) + 1 - m 11 (3 * tq m q (m 28 (4 * q + k)) + m 29 (4 * q + k)) by omega]
      exact h
theorem r_jshare (R : RI m u w L σ) (W : WQ m) (Wt : WT m u) (hq : q < m 24 0) (hk : k < m 32 q) {K : Int64 → Prop} : z_X12_joinShare N 0 (nI q) (nI (3 * q + k)) σ K = K (lN (jsh m q k)) := by
  have w1 := W.1
  have w3 := W.2.2 q hq
  have h1 := Wt.nt
  obtain ⟨j1, j2, j3, j4, j5⟩ := w3.2.2.2.2.2 k hk
  have t1 : tq m q (m 33 (3 * q + k)) < m 1 0 := w3.2.2.2.1 _ j1
  have t2 : tq m q (m 35 (3 * q + k)) < m 1 0 := w3.2.2.2.1 _ j3
  have c1 := Wt.cl t1
  have c2 := Wt.cl t2
  have v1 := Wt.2.2.2.2.2.2.2.2.1 (3 * tq m q (m 33 (3 * q + k)) + m 34 (3 * q + k)) (by omega)
  have v2 := Wt.2.2.2.2.2.2.2.2.1 (3 * tq m q (m 35 (3 * q + k)) + m 36 (3 * q + k)) (by omega)
  have e1 : sP σ 12 0 26 (3 * q + m 33 (3 * q + k)) = nI (tq m q (m 33 (3 * q + k))) := R.r 26 _ rfl
  have e2 : sP σ 12 0 26 (3 * q + m 35 (3 * q + k)) = nI (tq m q (m 35 (3 * q + k))) := R.r 26 _ rfl
  simp (disch := omega) only [z_X12_joinShare, u_br_True, u_br_False, u_jn_u, u_lt_u, u_nn_s, u_brn_s, u_brn_n, nI_add, u_n_mul, u_n_lt, u_n_le, u_n_eq, u_n_sub, u_n_div, u_n_mod, nI_clamp, u_m1, u_m1q, u_wI_n, u_wA_n, u_br_t, u_br_f, ↓li_m1, li_0, li_1, li_2, li_3, li_4, li_5, li_6, li_7, li_8, li_9, li_10, li_12, li_13, li_26, li_40, li_60, li_61, li_62, li_99, li_100, li_102, li_106, li_114, li_112, li_117, li_108, li_103, li_120, li_300, li_360, li_512, li_1000, (fun j => R.r 10 j rfl), (fun j => R.r 33 j rfl), (fun j => R.r 34 j rfl), (fun j => R.r 35 j rfl), (fun j => R.r 36 j rfl), e1, e2, r_most, nI_l, u_dzL, ll_1000, l_div]
  rfl
/-- a way that can be -/
def okW (m : Nat → Nat → Nat) (q ban : Nat) (o : Nat → Nat) (place y : Nat) : Prop := y < 8 ∧ (y = 0 ∨ (wIdx m q ban o place y).isSome = true)
theorem okW_c (h : okW m q ban o place y) (h0 : ¬ y = 0) (h5 : y < 5) : y ≤ m 27 q ∧ m 28 (4 * q + (y - 1)) = o place := by
  have h := h.2
  unfold wIdx at h
  rw [if_neg h0, if_pos h5] at h
  rcases h with h | h
  · exact absurd h h0
  · split at h
    · rename_i e; exact e
    · cases h
theorem okW_j (h : okW m q ban o place y) (h5 : ¬ y < 5) : y - 5 < m 32 q ∧ ∃ c, own m q o place (y - 5) = some c := by
  have h := h.2
  unfold wIdx at h
  rw [if_neg (by omega), if_neg h5] at h
  rcases h with h | h
  · omega
  · split at h
    · rename_i e
      refine ⟨e, ?_⟩
      cases hown : own m q o place (y - 5) with
      | none => rw [hown] at h; cases h
      | some c => exact ⟨c, rfl⟩
    · cases h
theorem wCost_le (W : WQ m) (Wt : WT m u) (hq : q < m 24 0) (ho : o place < m 25 q) (hw : okW m q ban o place y) : wCost m q o place y ≤ 41 := by
  have h1 := Wt.nt
  have ht : tq m q (o place) < m 1 0 := (W.2.2 q hq).2.2.2.1 _ ho
  have w8 := Wt.2.2.2.2.2.2.2.1 (tq m q (o place)) (by omega)
  unfold wCost
  split
  · omega
  · split
    · rename_i h0 h5
      have hc := okW_c hw h0 h5
      have hsh := share_le W Wt hq (show y - 1 < m 27 q by omega)
      have : m 8 (tq m q (o place)) * share m q (y - 1) ≤ 40 * 1000 := Nat.mul_le_mul w8.1 hsh
      have := Nat.div_le_div_right (c := 1000) this
      omega
    · have := Nat.div_le_self (m 8 (tq m q (o place))) (max 1 (m 10 (3 * tq m q (o place) + (own m q o place (y - 5)).getD 0)))
      omega
theorem r_cost (hN : 1000000 ≤ N) (R : RI m u w L σ) (W : WQ m) (Wt : WT m u) (hq : q < m 24 0) (Ho : OR σ (place + 1) o) (ho : ∀ p, p ≤ place → o p < m 25 q) (hpl : place < m 25 q) (h40 : sP σ 12 0 40 place = nI y) (hw : okW m q ban o place y) {K : Int64 → Prop} (h : K (lN (wCost m q o place y))) : z_X12_costAt N 0 (nI q) (nI place) σ K := by
  have w1 := W.1
  have w3 := W.2.2 q hq
  have h1 := Wt.nt
  have hbo := ho place (Nat.le_refl _)
  have e39 := Ho place (by omega)
  have ht : tq m q (o place) < m 1 0 := w3.2.2.2.1 _ hbo
  have e26 : sP σ 12 0 26 (3 * q + o place) = nI (tq m q (o place)) := R.r 26 _ rfl
  have w8 := Wt.2.2.2.2.2.2.2.1 (tq m q (o place)) (by omega)
  have hcl := Wt.cl ht
  by_cases h0 : y = 0
  · subst h0
    simp (disch := omega) only [z_X12_costAt, u_br_True, u_br_False, u_jn_u, u_lt_u, u_nn_s, u_brn_s, u_brn_n, nI_add, u_n_mul, u_n_lt, u_n_le, u_n_eq, u_n_sub, u_n_div, u_n_mod, nI_clamp, u_m1, u_m1q, u_wI_n, u_wA_n, u_br_t, u_br_f, ↓li_m1, li_0, li_1, li_2, li_3, li_4, li_5, li_6, li_7, li_8, li_9, li_10, li_12, li_13, li_26, li_40, li_60, li_61, li_62, li_99, li_100, li_102, li_106, li_114, li_112, li_117, li_108, li_103, li_120, li_300, li_360, li_512, li_1000, e39, h40, e26, (fun j => R.r 9 j rfl), nI_l]
    exact h
  · have hy := hw.1
    by_cases h5 : y < 5
    · obtain ⟨c1, c2⟩ := okW_c hw h0 h5
      have hsh := share_le W Wt hq (show y - 1 < m 27 q by omega)
      have hm : m 8 (tq m q (o place)) * share m q (y - 1) ≤ 40 * 1000 := Nat.mul_le_mul w8.1 hsh
      have e : wCost m q o place y = 1 + m 8 (tq m q (o place)) * share m q (y - 1) / 1000 := by
        unfold wCost; rw [if_neg h0, if_pos h5]
      rw [e] at h
      simp (disch := omega) only [z_X12_costAt, u_br_True, u_br_False, u_jn_u, u_lt_u, u_nn_s, u_brn_s, u_brn_n, nI_add, u_n_mul, u_n_lt, u_n_le, u_n_eq, u_n_sub, u_n_div, u_n_mod, nI_clamp, u_m1, u_m1q, u_wI_n, u_wA_n, u_br_t, u_br_f, ↓li_m1, li_0, li_1, li_2, li_3, li_4, li_5, li_6, li_7, li_8, li_9, li_10, li_12, li_13, li_26, li_40, li_60, li_61, li_62, li_99, li_100, li_102, li_106, li_114, li_112, li_117, li_108, li_103, li_120, li_300, li_360, li_512, li_1000, e39, h40, e26]
      rw [show 4 * q + y - 1 = 4 * q + (y - 1) by omega]
      refine r_share hN R W Wt hq (by omega) ?_
      simp (disch := omega) only [nI_add, u_n_mul, u_n_lt, u_n_le, u_n_eq, u_n_sub, u_n_div, u_n_mod, nI_clamp, u_m1, u_m1q, u_wI_n, u_wA_n, u_br_t, u_br_f, (fun j => R.r 8 j rfl), nI_l, ll_1, ll_1000, lN_mul, l_div, lN_add]
      exact h
    · obtain ⟨c1, c, hown⟩ := okW_j hw h5
      have hlt := own_lt W hq c1 hown
      have v1 := Wt.2.2.2.2.2.2.2.2.1 (3 * tq m q (o place) + c) (by omega)
      have e : wCost m q o place y = 1 + m 8 (tq m q (o place)) / max 1 (m 10 (3 * tq m q (o place) + c)) := by
        unfold wCost; rw [if_neg h0, if_neg h5, hown]; rfl
      rw [e] at h
      have hd := Nat.div_le_self (m 8 (tq m q (o place))) (max 1 (m 10 (3 * tq m q (o place) + c)))
      simp (disch := omega) only [z_X12_costAt, u_br_True, u_br_False, u_jn_u, u_lt_u, u_nn_s, u_brn_s, u_brn_n, nI_add, u_n_mul, u_n_lt, u_n_le, u_n_eq, u_n_sub, u_n_div, u_n_mod, nI_clamp, u_m1, u_m1q, u_wI_n, u_wA_n, u_br_t, u_br_f, ↓li_m1, li_0, li_1, li_2, li_3, li_4, li_5, li_6, li_7, li_8, li_9, li_10, li_12, li_13, li_26, li_40, li_60, li_61, li_62, li_99, li_100, li_102, li_106, li_114, li_112, li_117, li_108, li_103, li_120, li_300, li_360, li_512, li_1000, e39, h40, e26]
      rw [show 3 * q + y - 5 = 3 * q + (y - 5) by omega]
      refine r_own hN R W Wt hq c1 Ho ho hpl ?_
      rw [hown]
      simp (disch := omega) only [oI, u_br_True, u_br_False, u_jn_u, u_lt_u, u_nn_s, u_brn_s, u_brn_n, nI_add, u_n_mul, u_n_lt, u_n_le, u_n_eq, u_n_sub, u_n_div, u_n_mod, nI_clamp, u_m1, u_m1q, u_wI_n, u_wA_n, u_br_t, u_br_f, (fun j => R.r 8 j rfl), (fun j => R.r 10 j rfl), r_most, u_dzI, nI_l, ll_1, lN_add]
      exact h
theorem chC_le (W : WQ m) (Wt : WT m u) (hq : q < m 24 0) : ∀ k, k ≤ m 27 q → chC m q p b k ≤ b
  | 0, _ => Nat.le_refl _
  | k + 1, hk => by
    have ih := chC_le W Wt hq k (by omega)
    show (if m 28 (4 * q + k) = p then chC m q p b k * share m q k / 1000 else chC m q p b k) ≤ b
    split
    · have hs := share_le W Wt hq (show k < m 27 q by omega)
      have : chC m q p b k * share m q k ≤ b * 1000 := Nat.mul_le_mul ih hs
      have := Nat.div_le_div_right (c := 1000) this
      rw [Nat.mul_div_cancel _ (by decide : 0 < 1000)] at this
      exact this
    · exact ih
theorem chJ_le : ∀ k, chJ m q o place b k ≤ b
  | 0 => Nat.le_refl _
  | k + 1 => by
    have ih := chJ_le k
    show (if (own m q o place k).isSome = true then chJ m q o place b k * jsh m q k / 1000 else chJ m q o place b k) ≤ b
    split
    · have : chJ m q o place b k * jsh m q k ≤ b * 1000 := Nat.mul_le_mul ih jsh_le
      have := Nat.div_le_div_right (c := 1000) this
      rw [Nat.mul_div_cancel _ (by decide : 0 < 1000)] at this
      exact this
    · exact ih
theorem chs_s : chs m q o (n + 1) = max 1 (chJ m q o n (chC m q (o n) (chs m q o n * m 8 (tq m q (o n))) (m 27 q)) (m 32 q)) := rfl
theorem chs_pos : 1 ≤ chs m q o n := by
  cases n with
  | zero => exact Nat.le_refl _
  | succ n => rw [chs_s]; omega
theorem chs_le (W : WQ m) (Wt : WT m u) (hq : q < m 24 0) (ho : ∀ p, p < m 25 q → o p < m 25 q) : ∀ n, n ≤ m 25 q → chs m q o n ≤ 40 ^ n
  | 0, _ => by show 1 ≤ 40 ^ 0; decide
  | n + 1, hn => by
    have h1 := Wt.nt
    have ih := chs_le W Wt hq ho n (by omega)
    have ht : tq m q (o n) < m 1 0 := (W.2.2 q hq).2.2.2.1 _ (ho n (by omega))
    have w8 := Wt.2.2.2.2.2.2.2.1 (tq m q (o n)) (by omega)
    have a1 := chC_le W Wt hq (p := o n) (b := chs m q o n * m 8 (tq m q (o n))) (m 27 q) (Nat.le_refl _)
    have a2 := chJ_le (m := m) (q := q) (o := o) (place := n) (b := chC m q (o n) (chs m q o n * m 8 (tq m q (o n))) (m 27 q)) (m 32 q)
    have a3 : chs m q o n * m 8 (tq m q (o n)) ≤ 40 ^ n * 40 := Nat.mul_le_mul ih w8.1
    have a4 : 1 ≤ 40 ^ n := Nat.one_le_pow _ _ (by decide)
    rw [chs_s, Nat.pow_succ]
    omega
theorem pow40 {n : Nat} (h : n ≤ 3) : 40 ^ n ≤ 64000 := by
  have : n = 0 ∨ n = 1 ∨ n = 2 ∨ n = 3 := by omega
  rcases this with rfl | rfl | rfl | rfl <;> decide
theorem est_0 : est m q o ways 0 = 0 := rfl
theorem est_s : est m q o ways (n + 1) = est m q o ways n + chs m q o n * wCost m q o n (ways n) := rfl
theorem est_le (W : WQ m) (Wt : WT m u) (hq : q < m 24 0) (ho : ∀ p, p < m 25 q → o p < m 25 q) (hw : ∀ p, p < m 25 q → okW m q ban o p (ways p)) : ∀ n, n ≤ m 25 q → est m q o ways n ≤ n * 2624000
  | 0, _ => by rw [est_0]; exact Nat.zero_le _
  | n + 1, hn => by
    have w3 := (W.2.2 q hq).1
    have ih := est_le W Wt hq ho hw n (by omega)
    have a1 := chs_le W Wt hq ho n (by omega)
    have a2 := pow40 (n := n) (by omega)
    have a3 := wCost_le W Wt hq (ho n (by omega)) (hw n (by omega))
    have a4 : chs m q o n * wCost m q o n (ways n) ≤ 64000 * 41 := Nat.mul_le_mul (by omega) a3
    rw [est_s]
    omega
theorem r_est (hN : 1000000 ≤ N) (R : RI m u w L σ) (W : WQ m) (Wt : WT m u) (hq : q < m 24 0) (Ho : OR σ (m 25 q) o) (ho : ∀ p, p < m 25 q → o p < m 25 q) (h40 : ∀ p, p < m 25 q → sP σ 12 0 40 p = nI (ways p)) (hw : ∀ p, p < m 25 q → okW m q ban o p (ways p)) {K : Int64 → Prop} (h : K (lN (est m q o ways (m 25 q)))) : z_X12_estimateOfPlan N 0 (nI q) σ K := by
  have w1 := W.1
  have w3 := W.2.2 q hq
  have h1 := Wt.nt
  unfold z_X12_estimateOfPlan
  refine for_2 (m 25 q) (by omega) (by omega) (fun i a b => a = lN (est m q o ways i) ∧ b = lN (chs m q o i)) 0 (by omega) (fun self i a b hi hI hs => ?_) ⟨rfl, rfl⟩
  obtain ⟨rfl, rfl⟩ := hI
  by_cases hl : i < m 25 q
  · have goalS := fun a' b' hx => hs a' b' hl hx
    have e39 := Ho i hl
    have hbo := ho i hl
    have ht : tq m q (o i) < m 1 0 := w3.2.2.2.1 _ hbo
    have e26 : sP σ 12 0 26 (3 * q + o i) = nI (tq m q (o i)) := R.r 26 _ rfl
    have w8 := Wt.2.2.2.2.2.2.2.1 (tq m q (o i)) (by omega)
    have b1 := chs_le W Wt hq ho i (by omega)
    have b2 := pow40 (n := i) (by omega)
    have b3 := wCost_le W Wt hq hbo (hw i hl)
    have b4 : chs m q o i * wCost m q o i (ways i) ≤ 64000 * 41 := Nat.mul_le_mul (by omega) b3
    have b5 : chs m q o i * m 8 (tq m q (o i)) ≤ 64000 * 40 := Nat.mul_le_mul (by omega) w8.1
    simp (disch := omega) only [u_br_True, u_br_False, u_jn_u, u_lt_u, u_nn_s, u_brn_s, u_brn_n, nI_add, u_n_mul, u_n_lt, u_n_le, u_n_eq, u_n_sub, u_n_div, u_n_mod, nI_clamp, u_m1, u_m1q, u_wI_n, u_wA_n, u_br_t, u_br_f, (fun j => R.r 25 j rfl)]
    refine r_cost hN R W Wt hq (fun p hp => Ho p (by omega)) (fun p hp => ho p (by omega)) hl (h40 i hl) (hw i hl) ?_
    simp (disch := omega) only [u_br_True, u_br_False, u_jn_u, u_lt_u, u_nn_s, u_brn_s, u_brn_n, nI_add, u_n_mul, u_n_lt, u_n_le, u_n_eq, u_n_sub, u_n_div, u_n_mod, nI_clamp, u_m1, u_m1q, u_wI_n, u_wA_n, u_br_t, u_br_f, ↓li_m1, li_0, li_1, li_2, li_3, li_4, li_5, li_6, li_7, li_8, li_9, li_10, li_12, li_13, li_26, li_40, li_60, li_61, li_62, li_99, li_100, li_102, li_106, li_114, li_112, li_117, li_108, li_103, li_120, li_300, li_360, li_512, li_1000, (fun j => R.r 8 j rfl), e39, e26, nI_l, lN_mul]
    refine for_v (4 * q + m 27 q) (by omega) (by omega) (fun j a => 4 * q ≤ j ∧ a = lN (chC m q (o i) (chs m q o i * m 8 (tq m q (o i))) (j - 4 * q))) (4 * q) (by omega) (fun self2 j a hj ha hs2 => ?_) ⟨Nat.le_refl _, by rw [Nat.sub_self]; rfl⟩
    obtain ⟨hj4, rfl⟩ := ha
    have bC := chC_le W Wt hq (p := o i) (b := chs m q o i * m 8 (tq m q (o i))) (j - 4 * q) (by omega)
    by_cases hl2 : j < 4 * q + m 27 q
    · have goal2 := fun a' hx => hs2 a' hl2 ⟨by omega, hx⟩
      have ej : j = 4 * q + (j - 4 * q) := by omega
      have es : j + 1 - 4 * q = (j - 4 * q) + 1 := by omega
      rw [es] at goal2
      have hk : j - 4 * q < m 27 q := by omega
      have eC : chC m q (o i) (chs m q o i * m 8 (tq m q (o i))) (j - 4 * q + 1) = if m 28 (4 * q + (j - 4 * q)) = o i then chC m q (o i) (chs m q o i * m 8 (tq m q (o i))) (j - 4 * q) * share m q (j - 4 * q) / 1000 else chC m q (o i) (chs m q o i * m 8 (tq m q (o i))) (j - 4 * q) := rfl
      rw [eC] at goal2
      obtain ⟨c1, c2, c3, c4⟩ := w3.2.2.2.2.1 (j - 4 * q) hk
      have hshare := share_le W Wt hq hk
      generalize j - 4 * q = k at *
      subst ej
      simp (disch := omega) only [u_br_True, u_br_False, u_jn_u, u_lt_u, u_nn_s, u_brn_s, u_brn_n, nI_add, u_n_mul, u_n_lt, u_n_le, u_n_eq, u_n_sub, u_n_div, u_n_mod, nI_clamp, u_m1, u_m1q, u_wI_n, u_wA_n, u_br_t, u_br_f, ↓li_m1, li_0, li_1, li_2, li_3, li_4, li_5, li_6, li_7, li_8, li_9, li_10, li_12, li_13, li_26, li_40, li_60, li_61, li_62, li_99, li_100, li_102, li_106, li_114, li_112, li_117, li_108, li_103, li_120, li_300, li_360, li_512, li_1000, (fun j => R.r 27 j rfl), (fun j => R.r 28 j rfl)]
      by_cases hp : m 28 (4 * q + k) = o i
      · rw [if_pos hp] at goal2
        rw [u_br_t hp]
        refine r_share hN R W Wt hq hk ?_
        have bb : chC m q (o i) (chs m q o i * m 8 (tq m q (o i))) k * share m q k ≤ 64000 * 40 * 1000 := Nat.mul_le_mul (by omega) hshare
        simp (disch := omega) only [lN_mul, ll_1000, l_div]
        exact goal2 _ rfl
      · rw [if_neg hp] at goal2
        rw [u_br_f hp]
        exact goal2 _ rfl
    · have hj2 : j = 4 * q + m 27 q := by omega
      subst hj2
      rw [show 4 * q + m 27 q - 4 * q = m 27 q by omega] at bC ⊢
      simp (disch := omega) only [u_br_True, u_br_False, u_jn_u, u_lt_u, u_nn_s, u_brn_s, u_brn_n, nI_add, u_n_mul, u_n_lt, u_n_le, u_n_eq, u_n_sub, u_n_div, u_n_mod, nI_clamp, u_m1, u_m1q, u_wI_n, u_wA_n, u_br_t, u_br_f, ↓li_m1, li_0, li_1, li_2, li_3, li_4, li_5, li_6, li_7, li_8, li_9, li_10, li_12, li_13, li_26, li_40, li_60, li_61, li_62, li_99, li_100, li_102, li_106, li_114, li_112, li_117, li_108, li_103, li_120, li_300, li_360, li_512, li_1000, (fun j => R.r 27 j rfl)]
      refine for_v (3 * q + m 32 q) (by omega) (by omega) (fun j a => 3 * q ≤ j ∧ a = lN (chJ m q o i (chC m q (o i) (chs m q o i * m 8 (tq m q (o i))) (m 27 q)) (j - 3 * q))) (3 * q) (by omega) (fun self3 j a hj3 ha hs3 => ?_) ⟨Nat.le_refl _, by rw [Nat.sub_self]; rfl⟩
      obtain ⟨hj4, rfl⟩ := ha
      have bJ := chJ_le (m := m) (q := q) (o := o) (place := i) (b := chC m q (o i) (chs m q o i * m 8 (tq m q (o i))) (m 27 q)) (j - 3 * q)
      by_cases hl3 : j < 3 * q + m 32 q
      · have goal3 := fun a' hx => hs3 a' hl3 ⟨by omega, hx⟩
        have ej : j = 3 * q + (j - 3 * q) := by omega
        have es : j + 1 - 3 * q = (j - 3 * q) + 1 := by omega
        rw [es] at goal3
        have hk : j - 3 * q < m 32 q := by omega
        have eJ : chJ m q o i (chC m q (o i) (chs m q o i * m 8 (tq m q (o i))) (m 27 q)) (j - 3 * q + 1) = if (own m q o i (j - 3 * q)).isSome = true then chJ m q o i (chC m q (o i) (chs m q o i * m 8 (tq m q (o i))) (m 27 q)) (j - 3 * q) * jsh m q (j - 3 * q) / 1000 else chJ m q o i (chC m q (o i) (chs m q o i * m 8 (tq m q (o i))) (m 27 q)) (j - 3 * q) := rfl
        rw [eJ] at goal3
        generalize j - 3 * q = k at *
        subst ej
        simp (disch := omega) only [u_br_True, u_br_False, u_jn_u, u_lt_u, u_nn_s, u_brn_s, u_brn_n, nI_add, u_n_mul, u_n_lt, u_n_le, u_n_eq, u_n_sub, u_n_div, u_n_mod, nI_clamp, u_m1, u_m1q, u_wI_n, u_wA_n, u_br_t, u_br_f, ↓li_m1, li_0, li_1, li_2, li_3, li_4, li_5, li_6, li_7, li_8, li_9, li_10, li_12, li_13, li_26, li_40, li_60, li_61, li_62, li_99, li_100, li_102, li_106, li_114, li_112, li_117, li_108, li_103, li_120, li_300, li_360, li_512, li_1000, (fun j => R.r 32 j rfl)]
        refine r_own hN R W Wt hq hk (fun p hp => Ho p (by omega)) (fun p hp => ho p (by omega)) hl ?_
        have hjs := jsh_le (m := m) (q := q) (k := k)
        cases hown : own m q o i k with
        | none =>
          rw [hown] at goal3
          rw [u_br_t (by decide)]
          exact goal3 _ rfl
        | some c =>
          have hlt := own_lt W hq hk hown
          have hcl := Wt.cl ht
          rw [hown] at goal3
          have bb : chJ m q o i (chC m q (o i) (chs m q o i * m 8 (tq m q (o i))) (m 27 q)) k * jsh m q k ≤ 64000 * 40 * 1000 := Nat.mul_le_mul (by omega) hjs
          rw [u_br_f (by show ¬ nI c < nI 0; rw [u_n_lt (by omega) (by omega)]; omega), r_jshare R W Wt hq hk]
          simp (disch := omega) only [lN_mul, ll_1000, l_div]
          exact goal3 _ rfl
      · have hj2 : j = 3 * q + m 32 q := by omega
        subst hj2
        rw [show 3 * q + m 32 q - 3 * q = m 32 q by omega] at bJ ⊢
        simp (disch := omega) only [u_br_True, u_br_False, u_jn_u, u_lt_u, u_nn_s, u_brn_s, u_brn_n, nI_add, u_n_mul, u_n_lt, u_n_le, u_n_eq, u_n_sub, u_n_div, u_n_mod, nI_clamp, u_m1, u_m1q, u_wI_n, u_wA_n, u_br_t, u_br_f, ↓li_m1, li_0, li_1, li_2, li_3, li_4, li_5, li_6, li_7, li_8, li_9, li_10, li_12, li_13, li_26, li_40, li_60, li_61, li_62, li_99, li_100, li_102, li_106, li_114, li_112, li_117, li_108, li_103, li_120, li_300, li_360, li_512, li_1000, (fun j => R.r 32 j rfl), ll_1, cmp_ge, lN_mul, lN_add]
        by_cases h1c : 1 ≤ chJ m q o i (chC m q (o i) (chs m q o i * m 8 (tq m q (o i))) (m 27 q)) (m 32 q)
        · rw [u_br_t h1c]
          refine goalS _ _ ⟨rfl, ?_⟩
          rw [chs_s, Nat.max_eq_right h1c]
        · rw [u_br_f h1c]
          refine goalS _ _ ⟨rfl, ?_⟩
          rw [chs_s, Nat.max_eq_left (by omega)]
  · have hi2 : i = m 25 q := by omega
    subst hi2
    simp (disch := omega) only [u_br_True, u_br_False, u_jn_u, u_lt_u, u_nn_s, u_brn_s, u_brn_n, nI_add, u_n_mul, u_n_lt, u_n_le, u_n_eq, u_n_sub, u_n_div, u_n_mod, nI_clamp, u_m1, u_m1q, u_wI_n, u_wA_n, u_br_t, u_br_f, (fun j => R.r 25 j rfl)]
    exact h
end REST
