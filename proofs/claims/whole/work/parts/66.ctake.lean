section CTAKE
variable {m m' mm : Nat → Nat → Nat} {u u' w : Nat → Int32} {L L' E : List Nat} {σ σ' σ1 σ2 : St} {N kk t c k n q ban place p way x y b a i s v told f j cc d lo hi : Nat} {o o' ways g : Nat → Nat} {P Q : Nat → Prop}
theorem int_sub (ha : a < 2 ^ 30) (hb : b < 2 ^ 30) : (nI a - nI b).toInt = (a : Int) - b := by
  rw [Int32.toInt_sub, nI_toInt (by omega), nI_toInt (by omega), Int.bmod_eq_of_le] <;> omega
theorem posI (ha : a < 2 ^ 29) (hb : b < 2 ^ 29) : (if nI 0 < nI a - nI b + nI 1 then nI a - nI b + nI 1 else nI 0) = nI (a + 1 - b) := by
  have e : nI a - nI b + nI 1 = nI (a + 1) - nI b := by
    rw [← nI_add a 1, Int32.sub_eq_add_neg, Int32.sub_eq_add_neg, Int32.add_assoc, Int32.add_assoc, Int32.add_comm (-nI b)]
  rw [e]
  by_cases h : b ≤ a + 1
  · rw [u_n_sub h]
    by_cases h0 : 0 < a + 1 - b
    · rw [if_pos (by rw [u_n_lt (by omega) (by omega)]; exact h0)]
    · rw [if_neg (by rw [u_n_lt (by omega) (by omega)]; exact h0), show a + 1 - b = 0 by omega]
  · rw [if_neg, show a + 1 - b = 0 by omega]
    intro h9
    rw [Int32.lt_iff_toInt_lt, int_sub (by omega) (by omega), nI_toInt (by omega)] at h9
    omega
theorem suC_60 : ∀ n, n ≤ hi + 1 → suC lo hi 60 told n = min n told - lo
  | 0, _ => by simp [suC]
  | n + 1, h => by
    rw [suC_s, suC_60 n (by omega)]
    have e : hold 60 told n = decide (n < told) := rfl
    simp only [e, decide_eq_true_eq]
    by_cases h1 : lo ≤ n ∧ n ≤ hi ∧ n < told
    · rw [if_pos h1]; omega
    · rw [if_neg h1]; omega
theorem suC_62 : ∀ n, n ≤ hi + 1 → suC lo hi 62 told n = n - max lo (told + 1)
  | 0, _ => by simp [suC]
  | n + 1, h => by
    rw [suC_s, suC_62 n (by omega)]
    have e : hold 62 told n = decide (told < n) := rfl
    simp only [e, decide_eq_true_eq]
    by_cases h1 : lo ≤ n ∧ n ≤ hi ∧ told < n
    · rw [if_pos h1]; omega
    · rw [if_neg h1]; omega
theorem ibit : ∀ b, b < 64 → ∀ k, k < 6 → (((nI b &&& (nI 1 <<< (nI k &&& 31))) = nI 0) ↔ b.testBit k = false) := by decide +kernel
theorem c_isIn (hb : b < 64) (hk : k < 6) {K : Int32 → Prop} : z_X11_isIn N (nI b) (nI k) σ K = K (if b.testBit k = true then nI 1 else nI 0) := by
  cases h : b.testBit k with
  | false =>
    have h1 := (ibit b hb k hk).mpr h
    simp (disch := omega) only [z_X11_isIn, u_br_True, u_br_False, u_jn_u, u_lt_u, u_nn_s, u_brn_s, u_brn_n, nI_add, u_n_mul, u_n_lt, u_n_le, u_n_eq, u_n_sub, u_n_div, u_n_mod, nI_clamp, u_m1, u_m1q, u_wI_n, u_wA_n, u_br_t, u_br_f, ↓li_m1, li_0, li_1, li_2, li_3, li_4, li_5, li_6, li_7, li_8, li_9, li_10, li_12, li_13, li_26, li_40, li_60, li_61, li_62, li_99, li_100, li_102, li_106, li_114, li_112, li_117, li_108, li_103, li_120, li_300, li_360, li_512, li_1000]
    rfl
  | true =>
    have h1 : ¬ ((nI b &&& (nI 1 <<< (nI k &&& 31))) = nI 0) := fun e => by have := (ibit b hb k hk).mp e; rw [h] at this; cases this
    simp (disch := omega) only [z_X11_isIn, u_br_True, u_br_False, u_jn_u, u_lt_u, u_nn_s, u_brn_s, u_brn_n, nI_add, u_n_mul, u_n_lt, u_n_le, u_n_eq, u_n_sub, u_n_div, u_n_mod, nI_clamp, u_m1, u_m1q, u_wI_n, u_wA_n, u_br_t, u_br_f, ↓li_m1, li_0, li_1, li_2, li_3, li_4, li_5, li_6, li_7, li_8, li_9, li_10, li_12, li_13, li_26, li_40, li_60, li_61, li_62, li_99, li_100, li_102, li_106, li_114, li_112, li_117, li_108, li_103, li_120, li_300, li_360, li_512, li_1000]
    rfl
theorem c_isInO {pp : Int32} (h : Out pp 6) {K : Int32 → Prop} : z_X11_isIn N (nI b) pp σ K = K (nI 0) := by
  rcases h with h | ⟨a, ha, h2, rfl⟩
  · simp (disch := omega) only [z_X11_isIn, u_br_True, u_br_False, u_jn_u, u_lt_u, u_nn_s, u_brn_s, u_brn_n, nI_add, u_n_mul, u_n_lt, u_n_le, u_n_eq, u_n_sub, u_n_div, u_n_mod, nI_clamp, u_m1, u_m1q, u_wI_n, u_wA_n, u_br_t, u_br_f, ↓li_m1, li_0, li_1, li_2, li_3, li_4, li_5, li_6, li_7, li_8, li_9, li_10, li_12, li_13, li_26, li_40, li_60, li_61, li_62, li_99, li_100, li_102, li_106, li_114, li_112, li_117, li_108, li_103, li_120, li_300, li_360, li_512, li_1000, h]
  · simp (disch := omega) only [z_X11_isIn, u_br_True, u_br_False, u_jn_u, u_lt_u, u_nn_s, u_brn_s, u_brn_n, nI_add, u_n_mul, u_n_lt, u_n_le, u_n_eq, u_n_sub, u_n_div, u_n_mod, nI_clamp, u_m1, u_m1q, u_wI_n, u_wA_n, u_br_t, u_br_f, ↓li_m1, li_0, li_1, li_2, li_3, li_4, li_5, li_6, li_7, li_8, li_9, li_10, li_12, li_13, li_26, li_40, li_60, li_61, li_62, li_99, li_100, li_102, li_106, li_114, li_112, li_117, li_108, li_103, li_120, li_300, li_360, li_512, li_1000]
/-- the class's static side -/
def SS (m : Nat → Nat → Nat) (u : Nat → Int32) (σ : St) : Prop := C0 σ ∧ CT m u σ ∧ CX m u σ ∧ CQ m σ
def KX_ (σ σ' : St) : Prop := (∀ k i f j, k ≠ 0 → k ≠ 5 → k ≠ 6 → k ≠ 8 → sP σ' k i f j = sP σ k i f j) ∧ (∀ k i f j, k ≠ 8 → sQ σ' k i f j = sQ σ k i f j) ∧ (∀ i, sQ σ' 8 i 0 0 = sQ σ 8 i 0 0) ∧ sV σ' = sV σ
theorem SS.kx (S : SS m u σ) (h : KX_ σ σ') : SS m u σ' := by
  obtain ⟨h1, h2, h3, h4⟩ := h
  unfold SS C0 CT CT1 CX CX1 CQ CQ1 CN CJ at *
  simp only [h1 1 _ _ _ (by decide) (by decide) (by decide) (by decide), h1 3 _ _ _ (by decide) (by decide) (by decide) (by decide), h1 4 _ _ _ (by decide) (by decide) (by decide) (by decide),
    h1 7 _ _ _ (by decide) (by decide) (by decide) (by decide), h1 9 _ _ _ (by decide) (by decide) (by decide) (by decide), h1 10 _ _ _ (by decide) (by decide) (by decide) (by decide), h1 11 _ _ _ (by decide) (by decide) (by decide) (by decide),
    h2 11 _ _ _ (by decide), h2 6 _ _ _ (by decide), h2 9 _ _ _ (by decide), h2 3 _ _ _ (by decide), h2 7 _ _ _ (by decide), h3, h4]
  exact S
/-- only the planner and two plans changed -/
def KPl (i : Nat) (σ σ' : St) : Prop := (∀ k i' f j, k ≠ 6 → ¬ (k = 5 ∧ (i' = 0 ∨ i' = i)) → sP σ' k i' f j = sP σ k i' f j) ∧ (∀ k i' f j, ¬ (k = 5 ∧ (i' = 0 ∨ i' = i)) → sL_ σ' k i' f j = sL_ σ k i' f j) ∧ sQ σ' = sQ σ ∧ sD_ σ' = sD_ σ ∧ sV σ' = sV σ
theorem KPl.refl : KPl i σ σ := ⟨fun _ _ _ _ _ _ => rfl, fun _ _ _ _ _ => rfl, rfl, rfl, rfl⟩
theorem KPl.trans (h : KPl i σ σ') (g : KPl i σ' σ1) : KPl i σ σ1 := ⟨fun k i' f j a b => (g.1 k i' f j a b).trans (h.1 k i' f j a b), fun k i' f j a => (g.2.1 k i' f j a).trans (h.2.1 k i' f j a), g.2.2.1.trans h.2.2.1, g.2.2.2.1.trans h.2.2.2.1, g.2.2.2.2.trans h.2.2.2.2⟩
theorem KPl.st {k i' f j : Nat} {v : Int32} (h : KPl i σ σ') (hk : k = 6 ∨ (k = 5 ∧ (i' = 0 ∨ i' = i))) : KPl i σ (stP σ' k i' f j v) := by
  refine ⟨fun k' i2 f' j' h1 h2 => ?_, h.2.1, h.2.2.1, h.2.2.2.1, h.2.2.2.2⟩
  rw [sP_stP, if_neg (fun e => by
    obtain ⟨e1, e2, _, _⟩ := e
    rcases hk with hk | ⟨hk, hk2⟩
    · exact h1 (e1.trans hk)
    · exact h2 ⟨e1.trans hk, by rw [e2]; exact hk2⟩)]
  exact h.1 k' i2 f' j' h1 h2
theorem KPl.stl {i' f j : Nat} {v : Int64} (h : KPl i σ σ') (hk : i' = 0 ∨ i' = i) : KPl i σ (stL σ' 5 i' f j v) := by
  refine ⟨h.1, fun k' i2 f' j' h1 => ?_, h.2.2.1, h.2.2.2.1, h.2.2.2.2⟩
  rw [sL_stL, if_neg (fun e => h1 ⟨e.1, by rw [e.2.1]; exact hk⟩)]
  exact h.2.1 k' i2 f' j' h1
theorem KPl.kx (h : KPl i σ σ') : KX_ σ σ' := ⟨fun k i' f j h0 h5 h6 h8 => h.1 k i' f j h6 (fun e => h5 e.1), fun k i' f j _ => by rw [h.2.2.1], fun i' => by rw [h.2.2.1], h.2.2.2.2⟩
/-- a condition of a query -/
theorem c_cond (Cq : CQ m σ) (W : WQ m) (hq : q < m 24 0) (hk : k < 4) : (k < m 27 q → ∃ c, (∀ {K : Option Nat → Prop}, z_X7_conditionAt N q (nI k) σ K = K (some c)) ∧ sP σ 1 c 0 0 = nI (m 28 (4 * q + k)) ∧ sP σ 1 c 1 0 = nI (m 29 (4 * q + k)) ∧ sP σ 1 c 2 0 = nI (m 30 (4 * q + k)) ∧ sP σ 1 c 3 0 = nI (m 31 (4 * q + k))) ∧ (m 27 q ≤ k → ∀ {K : Option Nat → Prop}, z_X7_conditionAt N q (nI k) σ K = K none) := by
  obtain ⟨a1, a2, a3, a4, a5, a6, a7, a8⟩ := Cq.2.2.2 q hq
  refine ⟨fun h => ?_, fun h => ?_⟩
  · obtain ⟨c, c1, c2, c3, c4, c5, c6⟩ := a5 k h
    refine ⟨c, fun {K} => ?_, c3, c4, c5, c6⟩
    simp (disch := omega) only [z_X7_conditionAt, u_br_True, u_br_False, u_jn_u, u_lt_u, u_nn_s, u_brn_s, u_brn_n, nI_add, u_n_mul, u_n_lt, u_n_le, u_n_eq, u_n_sub, u_n_div, u_n_mod, nI_clamp, u_m1, u_m1q, u_wI_n, u_wA_n, u_br_t, u_br_f, ↓li_m1, li_0, li_1, li_2, li_3, li_4, li_5, li_6, li_7, li_8, li_9, li_10, li_12, li_13, li_26, li_40, li_60, li_61, li_62, li_99, li_100, li_102, li_106, li_114, li_112, li_117, li_108, li_103, li_120, li_300, li_360, li_512, li_1000, c1]
  · intro K
    simp (disch := omega) only [z_X7_conditionAt, u_br_True, u_br_False, u_jn_u, u_lt_u, u_nn_s, u_brn_s, u_brn_n, nI_add, u_n_mul, u_n_lt, u_n_le, u_n_eq, u_n_sub, u_n_div, u_n_mod, nI_clamp, u_m1, u_m1q, u_wI_n, u_wA_n, u_br_t, u_br_f, ↓li_m1, li_0, li_1, li_2, li_3, li_4, li_5, li_6, li_7, li_8, li_9, li_10, li_12, li_13, li_26, li_40, li_60, li_61, li_62, li_99, li_100, li_102, li_106, li_114, li_112, li_117, li_108, li_103, li_120, li_300, li_360, li_512, li_1000, a6 k h hk]
theorem c_joinA (Cq : CQ m σ) (W : WQ m) (hq : q < m 24 0) (hk : k < 3) : (k < m 32 q → ∃ c, (∀ {K : Option Nat → Prop}, z_X7_joinAt N q (nI k) σ K = K (some c)) ∧ sP σ 4 c 0 0 = nI (m 33 (3 * q + k)) ∧ sP σ 4 c 1 0 = nI (m 34 (3 * q + k)) ∧ sP σ 4 c 2 0 = nI (m 35 (3 * q + k)) ∧ sP σ 4 c 3 0 = nI (m 36 (3 * q + k))) ∧ (m 32 q ≤ k → ∀ {K : Option Nat → Prop}, z_X7_joinAt N q (nI k) σ K = K none) := by
  obtain ⟨a1, a2, a3, a4, a5, a6, a7, a8⟩ := Cq.2.2.2 q hq
  refine ⟨fun h => ?_, fun h => ?_⟩
  · obtain ⟨c, c1, c2, c3, c4, c5, c6⟩ := a7 k h
    refine ⟨c, fun {K} => ?_, c3, c4, c5, c6⟩
    simp (disch := omega) only [z_X7_joinAt, u_br_True, u_br_False, u_jn_u, u_lt_u, u_nn_s, u_brn_s, u_brn_n, nI_add, u_n_mul, u_n_lt, u_n_le, u_n_eq, u_n_sub, u_n_div, u_n_mod, nI_clamp, u_m1, u_m1q, u_wI_n, u_wA_n, u_br_t, u_br_f, ↓li_m1, li_0, li_1, li_2, li_3, li_4, li_5, li_6, li_7, li_8, li_9, li_10, li_12, li_13, li_26, li_40, li_60, li_61, li_62, li_99, li_100, li_102, li_106, li_114, li_112, li_117, li_108, li_103, li_120, li_300, li_360, li_512, li_1000, c1]
  · intro K
    simp (disch := omega) only [z_X7_joinAt, u_br_True, u_br_False, u_jn_u, u_lt_u, u_nn_s, u_brn_s, u_brn_n, nI_add, u_n_mul, u_n_lt, u_n_le, u_n_eq, u_n_sub, u_n_div, u_n_mod, nI_clamp, u_m1, u_m1q, u_wI_n, u_wA_n, u_br_t, u_br_f, ↓li_m1, li_0, li_1, li_2, li_3, li_4, li_5, li_6, li_7, li_8, li_9, li_10, li_12, li_13, li_26, li_40, li_60, li_61, li_62, li_99, li_100, li_102, li_106, li_114, li_112, li_117, li_108, li_103, li_120, li_300, li_360, li_512, li_1000, a8 k h hk]
theorem c_tabOf (Cq : CQ m σ) (hq : q < m 24 0) (hp : p < 3) {K : Option Nat → Prop} : z_X7_tableOf N q (nI p) σ K = K (if p < m 25 q then some (tq m q p) else none) := by
  have e := (Cq.2.2.2 q hq).2.2.2.1 p hp
  simp (disch := omega) only [z_X7_tableOf, u_br_True, u_br_False, u_jn_u, u_lt_u, u_nn_s, u_brn_s, u_brn_n, nI_add, u_n_mul, u_n_lt, u_n_le, u_n_eq, u_n_sub, u_n_div, u_n_mod, nI_clamp, u_m1, u_m1q, u_wI_n, u_wA_n, u_br_t, u_br_f, ↓li_m1, li_0, li_1, li_2, li_3, li_4, li_5, li_6, li_7, li_8, li_9, li_10, li_12, li_13, li_26, li_40, li_60, li_61, li_62, li_99, li_100, li_102, li_106, li_114, li_112, li_117, li_108, li_103, li_120, li_300, li_360, li_512, li_1000, e]
  rfl
theorem c_lowest (hN : 1000000 ≤ N) (X : CX m u σ) (Wx : WX m) (Wt : WT m u) (hb : ban < 64) (ht : t < m 1 0) (hc : c < 3) {K : Int32 → Prop} (h : K (oI (iOn m ban t c))) : z_X9_lowestIndexOn N 0 (some t) (nI c) (nI ban) σ K := by
  have hx6 := Wx.1
  have h1 := Wt.nt
  unfold z_X9_lowestIndexOn
  refine for_1 6 (by omega) (by omega) (fun i => ∀ j, j < i → j < m 13 0 → ¬ (m 14 j == t && (m 15 j == c && !ban.testBit j)) = true) 0 (by omega) (fun self i hi hI hs => ?_) (fun j hj => by omega)
  by_cases hl : i < 6
  · have q9 := X.2.2.1 i hl
    by_cases hi3 : i < m 13 0
    · rw [if_pos hi3] at q9
      obtain ⟨x1, x2, x3, x4, x5⟩ := X.2.2.2 i hi3
      obtain ⟨hx1, hx2⟩ := Wx.2 i hi3
      have hcl := Wt.cl hx1
      have goalS : ¬ (m 14 i == t && (m 15 i == c && !ban.testBit i)) = true → self (nI (i + 1)) := fun hn => hs hl (fun j hj hj2 => by
        by_cases e : j = i
        · rw [e]; exact hn
        · exact hI j (by omega) hj2)
      by_cases h14 : m 14 i = t
      · by_cases h15 : m 15 i = c
        · cases hbit : ban.testBit i with
          | false =>
            have hP : (m 14 i == t && (m 15 i == c && !ban.testBit i)) = true := by simp [h14, h15, hbit]
            have e : iOn m ban t c = some i := by
              unfold iOn
              rw [List.find?_range_eq_some]
              refine ⟨hP, List.mem_range.mpr hi3, fun j hj => ?_⟩
              have := hI j hj (by omega)
              show (!(m 14 j == t && (m 15 j == c && !ban.testBit j))) = true
              cases h9 : (m 14 j == t && (m 15 j == c && !ban.testBit j)) with
              | true => exact absurd h9 this
              | false => rfl
            rw [e] at h
            simp (disch := omega) only [z_X3_isOn, u_br_True, u_br_False, u_jn_u, u_lt_u, u_nn_s, u_brn_s, u_brn_n, nI_add, u_n_mul, u_n_lt, u_n_le, u_n_eq, u_n_sub, u_n_div, u_n_mod, nI_clamp, u_m1, u_m1q, u_wI_n, u_wA_n, u_br_t, u_br_f, ↓li_m1, li_0, li_1, li_2, li_3, li_4, li_5, li_6, li_7, li_8, li_9, li_10, li_12, li_13, li_26, li_40, li_60, li_61, li_62, li_99, li_100, li_102, li_106, li_114, li_112, li_117, li_108, li_103, li_120, li_300, li_360, li_512, li_1000, b10, b00, f_0, f_1, u_okT, u_nb_0, u_nb_1, q9, x2, x3, h14, h15, c_isIn hb hl, hbit]
            rw [if_neg (by decide), u_br_t rfl]
            exact h
          | true =>
            simp (disch := omega) only [z_X3_isOn, u_br_True, u_br_False, u_jn_u, u_lt_u, u_nn_s, u_brn_s, u_brn_n, nI_add, u_n_mul, u_n_lt, u_n_le, u_n_eq, u_n_sub, u_n_div, u_n_mod, nI_clamp, u_m1, u_m1q, u_wI_n, u_wA_n, u_br_t, u_br_f, ↓li_m1, li_0, li_1, li_2, li_3, li_4, li_5, li_6, li_7, li_8, li_9, li_10, li_12, li_13, li_26, li_40, li_60, li_61, li_62, li_99, li_100, li_102, li_106, li_114, li_112, li_117, li_108, li_103, li_120, li_300, li_360, li_512, li_1000, b10, b00, f_0, f_1, u_okT, u_nb_0, u_nb_1, q9, x2, x3, h14, h15, c_isIn hb hl, hbit, Nat.reduceEqDiff, true_and, and_true, false_and, and_false, if_true, if_false, eq_self, and_self, Nat.reduceLT, Nat.reduceLeDiff, Nat.reduceAdd, Nat.reduceMul, Nat.reduceDiv, Nat.one_ne_zero]
            exact goalS (by simp [hbit])
        · simp (disch := omega) only [z_X3_isOn, u_br_True, u_br_False, u_jn_u, u_lt_u, u_nn_s, u_brn_s, u_brn_n, nI_add, u_n_mul, u_n_lt, u_n_le, u_n_eq, u_n_sub, u_n_div, u_n_mod, nI_clamp, u_m1, u_m1q, u_wI_n, u_wA_n, u_br_t, u_br_f, ↓li_m1, li_0, li_1, li_2, li_3, li_4, li_5, li_6, li_7, li_8, li_9, li_10, li_12, li_13, li_26, li_40, li_60, li_61, li_62, li_99, li_100, li_102, li_106, li_114, li_112, li_117, li_108, li_103, li_120, li_300, li_360, li_512, li_1000, b10, b00, f_0, f_1, u_okT, u_nb_0, u_nb_1, q9, x2, x3, h14]
          exact goalS (by simp [h15])
      · simp (disch := omega) only [z_X3_isOn, u_br_True, u_br_False, u_jn_u, u_lt_u, u_nn_s, u_brn_s, u_brn_n, nI_add, u_n_mul, u_n_lt, u_n_le, u_n_eq, u_n_sub, u_n_div, u_n_mod, nI_clamp, u_m1, u_m1q, u_wI_n, u_wA_n, u_br_t, u_br_f, ↓li_m1, li_0, li_1, li_2, li_3, li_4, li_5, li_6, li_7, li_8, li_9, li_10, li_12, li_13, li_26, li_40, li_60, li_61, li_62, li_99, li_100, li_102, li_106, li_114, li_112, li_117, li_108, li_103, li_120, li_300, li_360, li_512, li_1000, b10, b00, f_0, f_1, u_okT, u_nb_0, u_nb_1, q9, x2, x3, Option.some.injEq, u_br_f h14]
        exact goalS (by simp [h14])
    · rw [if_neg hi3] at q9
      simp (disch := omega) only [u_br_True, u_br_False, u_jn_u, u_lt_u, u_nn_s, u_brn_s, u_brn_n, nI_add, u_n_mul, u_n_lt, u_n_le, u_n_eq, u_n_sub, u_n_div, u_n_mod, nI_clamp, u_m1, u_m1q, u_wI_n, u_wA_n, u_br_t, u_br_f, ↓li_m1, li_0, li_1, li_2, li_3, li_4, li_5, li_6, li_7, li_8, li_9, li_10, li_12, li_13, li_26, li_40, li_60, li_61, li_62, li_99, li_100, li_102, li_106, li_114, li_112, li_117, li_108, li_103, li_120, li_300, li_360, li_512, li_1000, q9]
      exact hs hl (fun j hj hj2 => hI j (by omega) hj2)
  · have e : iOn m ban t c = none := by
      unfold iOn
      rw [List.find?_eq_none]
      intro j hj
      exact hI j (by rw [List.mem_range] at hj; omega) (List.mem_range.mp hj)
    rw [e] at h
    simp (disch := omega) only [u_br_True, u_br_False, u_jn_u, u_lt_u, u_nn_s, u_brn_s, u_brn_n, nI_add, u_n_mul, u_n_lt, u_n_le, u_n_eq, u_n_sub, u_n_div, u_n_mod, nI_clamp, u_m1, u_m1q, u_wI_n, u_wA_n, u_br_t, u_br_f, ↓li_m1, li_0, li_1, li_2, li_3, li_4, li_5, li_6, li_7, li_8, li_9, li_10, li_12, li_13, li_26, li_40, li_60, li_61, li_62, li_99, li_100, li_102, li_106, li_114, li_112, li_117, li_108, li_103, li_120, li_300, li_360, li_512, li_1000]
    exact h
theorem c_div (ha : a < 2 ^ 31) (hb : b < 2 ^ 31) {K : Int32 → Prop} : z_X11_divided N (nI a) (nI b) σ K = K (nI (a / max 1 b)) := by
  by_cases h : b = 0
  · subst h
    simp (disch := omega) only [z_X11_divided, u_br_True, u_br_False, u_jn_u, u_lt_u, u_nn_s, u_brn_s, u_brn_n, nI_add, u_n_mul, u_n_lt, u_n_le, u_n_eq, u_n_sub, u_n_div, u_n_mod, nI_clamp, u_m1, u_m1q, u_wI_n, u_wA_n, u_br_t, u_br_f, ↓li_m1, li_0, li_1, li_2, li_3, li_4, li_5, li_6, li_7, li_8, li_9, li_10, li_12, li_13, li_26, li_40, li_60, li_61, li_62, li_99, li_100, li_102, li_106, li_114, li_112, li_117, li_108, li_103, li_120, li_300, li_360, li_512, li_1000]
    rw [show max 1 0 = 1 by decide, Nat.div_one]
  · simp (disch := omega) only [z_X11_divided, u_br_True, u_br_False, u_jn_u, u_lt_u, u_nn_s, u_brn_s, u_brn_n, nI_add, u_n_mul, u_n_lt, u_n_le, u_n_eq, u_n_sub, u_n_div, u_n_mod, nI_clamp, u_m1, u_m1q, u_wI_n, u_wA_n, u_br_t, u_br_f, ↓li_m1, li_0, li_1, li_2, li_3, li_4, li_5, li_6, li_7, li_8, li_9, li_10, li_12, li_13, li_26, li_40, li_60, li_61, li_62, li_99, li_100, li_102, li_106, li_114, li_112, li_117, li_108, li_103, li_120, li_300, li_360, li_512, li_1000, u_dzI]
    rw [Nat.max_eq_right (by omega)]
theorem c_share (T : CT m u σ) (Wt : WT m u) (W : WQ m) (hq : q < m 24 0) (hk : k < m 27 q) (h1 : sP σ 1 c 1 0 = nI (m 29 (4 * q + k))) (h2 : sP σ 1 c 2 0 = nI (m 30 (4 * q + k))) (h3 : sP σ 1 c 3 0 = nI (m 31 (4 * q + k))) {K : Int32 → Prop} (h : K (nI (share m q k))) : z_X10_shareOf N (tq m q (m 28 (4 * q + k))) (some c) σ K := by
  have w3 := W.2.2 q hq
  have hn := Wt.nt
  obtain ⟨b1, b2, b3, b4⟩ := w3.2.2.2.2.1 k hk
  have ht : tq m q (m 28 (4 * q + k)) < m 1 0 := w3.2.2.2.1 _ b1
  have hcl := Wt.cl ht
  have v9 := Wt.2.2.2.2.2.2.2.2.1 (3 * tq m q (m 28 (4 * q + k)) + m 29 (4 * q + k)) (by omega)
  obtain ⟨t1, t2, t3, t4, t5, t6, t7, t8, t9, t10, t11, t12, t13⟩ := T.2.2.2 _ ht
  have t11 := t11 (m 29 (4 * q + k)) (by omega)
  have t12 := t12 (m 29 (4 * q + k)) (by omega)
  have t13 := t13 (m 29 (4 * q + k)) (by omega)
  generalize hJ : 3 * tq m q (m 28 (4 * q + k)) + m 29 (4 * q + k) = J at *
  by_cases hs : m 30 (4 * q + k) = 61
  · have e : share m q k = 1000 / max 1 (m 10 J) := by unfold share; rw [if_pos hs, hJ]
    rw [e] at h
    simp (disch := omega) only [z_X10_shareOf, z_X1_column, z_X1_isEqual, u_br_True, u_br_False, u_jn_u, u_lt_u, u_nn_s, u_brn_s, u_brn_n, nI_add, u_n_mul, u_n_lt, u_n_le, u_n_eq, u_n_sub, u_n_div, u_n_mod, nI_clamp, u_m1, u_m1q, u_wI_n, u_wA_n, u_br_t, u_br_f, ↓li_m1, li_0, li_1, li_2, li_3, li_4, li_5, li_6, li_7, li_8, li_9, li_10, li_12, li_13, li_26, li_40, li_60, li_61, li_62, li_99, li_100, li_102, li_106, li_114, li_112, li_117, li_108, li_103, li_120, li_300, li_360, li_512, li_1000, b10, b00, f_0, f_1, u_okT, u_nb_0, u_nb_1, h1, h2, hs, c_hasC t2 b2 hcl.2, t11, c_div]
    exact h
  · have e : share m q k = 1000 * suC (m 11 J) (m 12 J) (m 30 (4 * q + k)) (m 31 (4 * q + k)) (m 12 J + 1) / (m 12 J + 1 - m 11 J) := by
      unfold share
      rw [if_neg hs, hJ, share_n v9.2.2.1]
    rw [e] at h
    have hsu := suC_le (lo := m 11 J) (hi := m 12 J) (sg := m 30 (4 * q + k)) (told := m 31 (4 * q + k)) (m 12 J + 1)
    have fin : ∀ X, X = suC (m 11 J) (m 12 J) (m 30 (4 * q + k)) (m 31 (4 * q + k)) (m 12 J + 1) → K (nI (1000 * X / max 1 (m 12 J - m 11 J + 1))) := by
      intro X hX
      rw [hX, Nat.max_eq_right (by omega), show m 12 J - m 11 J + 1 = m 12 J + 1 - m 11 J by omega]
      exact h
    rcases b3 with h61 | h60 | h62
    · exact absurd h61 hs
    · rw [h60] at h2 hsu fin
      by_cases h0 : m 31 (4 * q + k) = 0
      · have e1 : nI 0 - nI 1 = mI := by decide
        have e2 : (if mI < nI (m 12 J) then mI else nI (m 12 J)) = mI := if_pos (u_neg_lt (by decide) (by omega))
        have e3 : (if m 11 J < 0 then nI 0 else nI (m 11 J)) = nI (m 11 J) := if_neg (by omega)
        have e4 : (if nI 0 < mI - nI (m 11 J) + nI 1 then mI - nI (m 11 J) + nI 1 else nI 0) = nI 0 := by
          have e5 : mI - nI (m 11 J) + nI 1 = nI 0 - nI (m 11 J) := by
            rw [show mI = nI 0 - nI 1 by decide, Int32.sub_eq_add_neg, Int32.sub_eq_add_neg, Int32.sub_eq_add_neg, Int32.add_assoc, Int32.add_assoc, Int32.add_comm (-nI (m 11 J)), ← Int32.add_assoc (-nI 1), show -nI 1 + nI 1 = 0 by decide, Int32.zero_add]
          rw [e5, if_neg]
          intro h9
          rw [Int32.lt_iff_toInt_lt, int_sub (by omega) (by omega), nI_toInt (by omega)] at h9
          omega
        simp (disch := omega) only [z_X10_shareOf, z_X1_column, z_X1_isEqual, z_X1_least, z_X1_greatest, u_br_True, u_br_False, u_jn_u, u_lt_u, u_nn_s, u_brn_s, u_brn_n, nI_add, u_n_mul, u_n_lt, u_n_le, u_n_eq, u_n_sub, u_n_div, u_n_mod, nI_clamp, u_m1, u_m1q, u_wI_n, u_wA_n, u_br_t, u_br_f, ↓li_m1, li_0, li_1, li_2, li_3, li_4, li_5, li_6, li_7, li_8, li_9, li_10, li_12, li_13, li_26, li_40, li_60, li_61, li_62, li_99, li_100, li_102, li_106, li_114, li_112, li_117, li_108, li_103, li_120, li_300, li_360, li_512, li_1000, b10, b00, f_0, f_1, u_okT, u_nb_0, u_nb_1, h1, h2, h3, h0, c_hasC t2 b2 hcl.2, t12, t13, e1, e2, e3, e4, c_div]
        have := fin 0 (by rw [suC_60 _ (Nat.le_refl _), h0]; omega)
        exact this
      · have e2 : (if m 31 (4 * q + k) - 1 < m 12 J then nI (m 31 (4 * q + k) - 1) else nI (m 12 J)) = nI (min (m 31 (4 * q + k) - 1) (m 12 J)) := by
          split
          · rw [Nat.min_eq_left (by omega)]
          · rw [Nat.min_eq_right (by omega)]
        have e3 : (if m 11 J < 0 then nI 0 else nI (m 11 J)) = nI (m 11 J) := if_neg (by omega)
        simp (disch := omega) only [z_X10_shareOf, z_X1_column, z_X1_isEqual, z_X1_least, z_X1_greatest, u_br_True, u_br_False, u_jn_u, u_lt_u, u_nn_s, u_brn_s, u_brn_n, u_n_mul, u_n_lt, u_n_le, u_n_eq, u_n_sub, nI_clamp, u_wI_n, u_br_t, u_br_f, ↓li_m1, li_0, li_1, li_2, li_3, li_4, li_5, li_6, li_7, li_8, li_9, li_10, li_12, li_13, li_26, li_40, li_60, li_61, li_62, li_99, li_100, li_102, li_106, li_114, li_112, li_117, li_108, li_103, li_120, li_300, li_360, li_512, li_1000, b10, b00, f_0, f_1, u_okT, u_nb_0, u_nb_1, h1, h2, h3, c_hasC t2 b2 hcl.2, t12, t13, e2, e3]
        have hc := fin (min (m 31 (4 * q + k) - 1) (m 12 J) + 1 - m 11 J) (by rw [suC_60 _ (Nat.le_refl _)]; omega)
        rw [posI (by omega) (by omega), u_n_mul, nI_add, c_div (by omega) (by omega)]
        exact hc
    · rw [h62] at h2 hsu fin
      have e2 : (if 99 < m 12 J then nI 99 else nI (m 12 J)) = nI (m 12 J) := if_neg (by omega)
      have e3 : (if m 11 J < m 31 (4 * q + k) + 1 then nI (m 31 (4 * q + k) + 1) else nI (m 11 J)) = nI (max (m 11 J) (m 31 (4 * q + k) + 1)) := by
        split
        · rw [Nat.max_eq_right (by omega)]
        · rw [Nat.max_eq_left (by omega)]
      have e4 : nI (m 31 (4 * q + k)) + nI 1 = nI (m 31 (4 * q + k) + 1) := nI_add _ _
      simp (disch := omega) only [z_X10_shareOf, z_X1_column, z_X1_isEqual, z_X1_least, z_X1_greatest, u_br_True, u_br_False, u_jn_u, u_lt_u, u_nn_s, u_brn_s, u_brn_n, u_n_mul, u_n_lt, u_n_le, u_n_eq, u_n_sub, nI_clamp, u_wI_n, u_br_t, u_br_f, ↓li_m1, li_0, li_1, li_2, li_3, li_4, li_5, li_6, li_7, li_8, li_9, li_10, li_12, li_13, li_26, li_40, li_60, li_61, li_62, li_99, li_100, li_102, li_106, li_114, li_112, li_117, li_108, li_103, li_120, li_300, li_360, li_512, li_1000, b10, b00, f_0, f_1, u_okT, u_nb_0, u_nb_1, h1, h2, h3, c_hasC t2 b2 hcl.2, t12, t13, e4, e2, e3]
      have hc := fin (m 12 J + 1 - max (m 11 J) (m 31 (4 * q + k) + 1)) (by rw [suC_62 _ (Nat.le_refl _)])
      rw [posI (by omega) (by omega), u_n_mul, nI_add, c_div (by omega) (by omega)]
      exact hc
/-! the class takes shares, costs, indexes -/
def TCo (m : Nat → Nat → Nat) (q ban : Nat) (σ : St) : Prop := (∀ k, k < m 27 q → sP σ 6 0 1 k = nI (share m q k) ∧ sP σ 6 0 2 k = nI (1 + m 8 (tq m q (m 28 (4 * q + k))) * share m q k / 1000) ∧ sP σ 6 0 3 k = oI (iOn m ban (tq m q (m 28 (4 * q + k))) (m 29 (4 * q + k)))) ∧ ∀ k, m 27 q ≤ k → k < 4 → sP σ 6 0 3 k = mI
theorem c_takeC (hN : 1000000 ≤ N) (S : SS m u σ) (W : WQ m) (Wx : WX m) (Wt : WT m u) (hq : q < m 24 0) (hb : ban < 64) {K : St → Prop} (h : ∀ s, KPl i σ s → TCo m q ban s → K s) : z_X6_takeConditions N 0 (some 0) (some q) (nI ban) σ K := by
  have w3 := W.2.2 q hq
  have hn := Wt.nt
  unfold z_X6_takeConditions
  refine for_u 4 (by omega) (by omega) (fun j s => KPl i σ s ∧ (∀ k, k < j → k < m 27 q → sP s 6 0 1 k = nI (share m q k) ∧ sP s 6 0 2 k = nI (1 + m 8 (tq m q (m 28 (4 * q + k))) * share m q k / 1000) ∧ sP s 6 0 3 k = oI (iOn m ban (tq m q (m 28 (4 * q + k))) (m 29 (4 * q + k)))) ∧ ∀ k, m 27 q ≤ k → k < j → sP s 6 0 3 k = mI) 0 (by omega) (fun self j s hj hI hs => ?_) ⟨KPl.refl, fun k hk => by omega, fun k hk hk2 => by omega⟩
  obtain ⟨i1, i2, i3⟩ := hI
  have Ss := S.kx i1.kx
  by_cases hl : j < 4
  · obtain ⟨cc1, cc2⟩ := c_cond (N := N) Ss.2.2.2 W hq hl
    by_cases hk : j < m 27 q
    · obtain ⟨c, d1, d2, d3, d4, d5⟩ := cc1 hk
      obtain ⟨b1, b2, b3, b4⟩ := w3.2.2.2.2.1 j hk
      have ht : tq m q (m 28 (4 * q + j)) < m 1 0 := w3.2.2.2.1 _ b1
      have hcl := Wt.cl ht
      have w8 := Wt.2.2.2.2.2.2.2.1 (tq m q (m 28 (4 * q + j))) (by omega)
      have hsh := share_le W Wt hq hk
      have hmul : m 8 (tq m q (m 28 (4 * q + j))) * share m q j ≤ 40 * 1000 := Nat.mul_le_mul w8.1 hsh
      simp (disch := omega) only [u_br_True, u_br_False, u_jn_u, u_lt_u, u_nn_s, u_brn_s, u_brn_n, nI_add, u_n_mul, u_n_lt, u_n_le, u_n_eq, u_n_sub, u_n_div, u_n_mod, nI_clamp, u_m1, u_m1q, u_wI_n, u_wA_n, u_br_t, u_br_f, ↓li_m1, li_0, li_1, li_2, li_3, li_4, li_5, li_6, li_7, li_8, li_9, li_10, li_12, li_13, li_26, li_40, li_60, li_61, li_62, li_99, li_100, li_102, li_106, li_114, li_112, li_117, li_108, li_103, li_120, li_300, li_360, li_512, li_1000, d1, z_X1_position, d2, c_tabOf Ss.2.2.2 hq (by omega : m 28 (4 * q + j) < 3), if_pos b1]
      have S2 : SS m u (stP s 6 0 3 j mI) := S.kx (i1.st (Or.inl rfl)).kx
      refine c_share S2.2.1 Wt W hq hk (by simp only [sP_stP, Nat.reduceEqDiff, true_and, and_true, false_and, and_false, if_true, if_false, eq_self, and_self, Nat.reduceLT, Nat.reduceLeDiff, Nat.reduceAdd, Nat.reduceMul, Nat.reduceDiv, Nat.one_ne_zero]; exact d3) (by simp only [sP_stP, Nat.reduceEqDiff, true_and, and_true, false_and, and_false, if_true, if_false, eq_self, and_self, Nat.reduceLT, Nat.reduceLeDiff, Nat.reduceAdd, Nat.reduceMul, Nat.reduceDiv, Nat.one_ne_zero]; exact d4) (by simp only [sP_stP, Nat.reduceEqDiff, true_and, and_true, false_and, and_false, if_true, if_false, eq_self, and_self, Nat.reduceLT, Nat.reduceLeDiff, Nat.reduceAdd, Nat.reduceMul, Nat.reduceDiv, Nat.one_ne_zero]; exact d5) ?_
      have k3 : KPl i σ (stP (stP (stP s 6 0 3 j mI) 6 0 1 j (nI (share m q j))) 6 0 2 j (nI (1 + m 8 (tq m q (m 28 (4 * q + j))) * share m q j / 1000))) := ((i1.st (Or.inl rfl)).st (Or.inl rfl)).st (Or.inl rfl)
      have S3 := S.kx k3.kx
      have e8 := (Ss.2.1.2.2.2 _ ht).2.2.2.2.2.2.2.2.1
      simp (disch := omega) only [z_X10_takenRows, z_X1_column, u_br_True, u_br_False, u_jn_u, u_lt_u, u_nn_s, u_brn_s, u_brn_n, nI_add, u_n_mul, u_n_lt, u_n_le, u_n_eq, u_n_sub, u_n_div, u_n_mod, nI_clamp, u_m1, u_m1q, u_wI_n, u_wA_n, u_br_t, u_br_f, ↓li_m1, li_0, li_1, li_2, li_3, li_4, li_5, li_6, li_7, li_8, li_9, li_10, li_12, li_13, li_26, li_40, li_60, li_61, li_62, li_99, li_100, li_102, li_106, li_114, li_112, li_117, li_108, li_103, li_120, li_300, li_360, li_512, li_1000, sP_stP, Nat.reduceEqDiff, true_and, and_true, false_and, and_false, if_true, if_false, eq_self, and_self, Nat.reduceLT, Nat.reduceLeDiff, Nat.reduceAdd, Nat.reduceMul, Nat.reduceDiv, Nat.one_ne_zero, e8, d3]
      refine c_lowest hN S3.2.2.1 Wx Wt hb ht (by omega) ?_
      refine hs _ hl ⟨k3.st (Or.inl rfl), fun k hk1 hk2 => ?_, fun k hk1 hk2 => ?_⟩
      · simp only [sP_stP, Nat.reduceEqDiff, true_and, and_true, false_and, and_false, if_true, if_false, eq_self, and_self, Nat.reduceLT, Nat.reduceLeDiff, Nat.reduceAdd, Nat.reduceMul, Nat.reduceDiv, Nat.one_ne_zero]
        by_cases e : k = j
        · subst e
          rw [if_pos rfl, if_pos rfl, if_pos rfl]
          exact ⟨rfl, rfl, rfl⟩
        · rw [if_neg e, if_neg e, if_neg e]
          rw [if_neg e]
          exact i2 k (by omega) hk2
      · simp only [sP_stP, Nat.reduceEqDiff, true_and, and_true, false_and, and_false, if_true, if_false, eq_self, and_self, Nat.reduceLT, Nat.reduceLeDiff, Nat.reduceAdd, Nat.reduceMul, Nat.reduceDiv, Nat.one_ne_zero]
        rw [if_neg (by omega), if_neg (by omega)]
        exact i3 k hk1 (by omega)
    · have cc3 : ∀ {K : Option Nat → Prop}, z_X7_conditionAt N q (nI j) s K = K none := cc2 (by omega)
      simp (disch := omega) only [u_br_True, u_br_False, u_jn_u, u_lt_u, u_nn_s, u_brn_s, u_brn_n, nI_add, u_n_mul, u_n_lt, u_n_le, u_n_eq, u_n_sub, u_n_div, u_n_mod, nI_clamp, u_m1, u_m1q, u_wI_n, u_wA_n, u_br_t, u_br_f, ↓li_m1, li_0, li_1, li_2, li_3, li_4, li_5, li_6, li_7, li_8, li_9, li_10, li_12, li_13, li_26, li_40, li_60, li_61, li_62, li_99, li_100, li_102, li_106, li_114, li_112, li_117, li_108, li_103, li_120, li_300, li_360, li_512, li_1000, cc3]
      refine hs _ hl ⟨i1.st (Or.inl rfl), fun k hk1 hk2 => ?_, fun k hk1 hk2 => ?_⟩
      · simp only [sP_stP, Nat.reduceEqDiff, true_and, and_true, false_and, and_false, if_true, if_false, eq_self, and_self, Nat.reduceLT, Nat.reduceLeDiff, Nat.reduceAdd, Nat.reduceMul, Nat.reduceDiv, Nat.one_ne_zero]
        rw [if_neg (by omega)]
        exact i2 k (by omega) hk2
      · simp only [sP_stP, Nat.reduceEqDiff, true_and, and_true, false_and, and_false, if_true, if_false, eq_self, and_self, Nat.reduceLT, Nat.reduceLeDiff, Nat.reduceAdd, Nat.reduceMul, Nat.reduceDiv, Nat.one_ne_zero]
        by_cases e : k = j
        · rw [if_pos e]
        · rw [if_neg e]; exact i3 k hk1 (by omega)
  · rw [u_br_t (by rw [li_4, u_n_le (by omega) (by omega)]; omega)]
    rw [show j = 4 by omega] at i2 i3
    exact h s i1 ⟨fun k hk => i2 k (by omega) hk, i3⟩
end CTAKE
