section RLAYS
variable {m m' mm : Nat → Nat → Nat} {u u' w : Nat → Int32} {L L' E : List Nat} {σ σ' σ1 σ2 : St} {N kk t c k n q ban place p way x y b a i s v told f j : Nat} {o o' ways : Nat → Nat} {P Q : Nat → Prop}
theorem wI_0 {z : Option Nat} (h : y = 0) : wI_ y z = mI := by unfold wI_; rw [if_pos h]
theorem wI_n (h : ¬ y = 0) : wI_ y none = m2I := by unfold wI_; rw [if_neg h]
theorem wI_s (h : ¬ y = 0) : wI_ y (some k) = nI k := by unfold wI_; rw [if_neg h]
/-- only some of the reference's temporary registers changed -/
def KF (P : Nat → Prop) (σ σ' : St) : Prop := (∀ k i f j, ¬ (k = 12 ∧ i = 0 ∧ P f) → sP σ' k i f j = sP σ k i f j) ∧ sL_ σ' = sL_ σ ∧ sQ σ' = sQ σ ∧ sD_ σ' = sD_ σ ∧ sV σ' = sV σ
theorem KF.refl : KF P σ σ := ⟨fun _ _ _ _ _ => rfl, rfl, rfl, rfl, rfl⟩
theorem KF.trans (h : KF P σ σ') (g : KF P σ' σ1) : KF P σ σ1 := ⟨fun k i f j hn => (g.1 k i f j hn).trans (h.1 k i f j hn), g.2.1.trans h.2.1, g.2.2.1.trans h.2.2.1, g.2.2.2.1.trans h.2.2.2.1, g.2.2.2.2.trans h.2.2.2.2⟩
theorem KF.mono (h : KF P σ σ') (g : ∀ f, P f → Q f) : KF Q σ σ' := ⟨fun k i f j hn => h.1 k i f j (fun e => hn ⟨e.1, e.2.1, g f e.2.2⟩), h.2⟩
theorem KF.st {v : Int32} (h : KF P σ σ') (hf : P f) : KF P σ (stP σ' 12 0 f j v) := by
  refine ⟨fun k' i' f' j' hn => ?_, h.2.1, h.2.2.1, h.2.2.2.1, h.2.2.2.2⟩
  rw [sP_stP, if_neg (fun e => hn ⟨e.1, e.2.1, by rw [e.2.2.1]; exact hf⟩)]
  exact h.1 k' i' f' j' hn
theorem KF.kc (h : KF P σ σ') : KC σ σ' := ⟨fun k' i f j hn => h.1 k' i f j (fun e => hn e.1), h.2.1, h.2.2.1, h.2.2.2.1, h.2.2.2.2⟩
theorem KF.ff (h : KF P σ σ') (hf : ¬ P f) : sP σ' 12 0 f j = sP σ 12 0 f j := h.1 12 0 f j (fun e => hf e.2.2)
def tmpP (P : Nat → Prop) : Prop := ∀ f, P f → tmp_ f = true
theorem tmp_pf (h : tmp_ f = true) : pf f = false ∧ f ≠ 5 ∧ f ≠ 53 ∧ f ≠ 21 ∧ f ≠ 20 := by
  simp only [tmp_, List.contains_eq_mem, List.mem_cons, List.not_mem_nil, or_false, decide_eq_true_eq] at h
  rcases h with rfl | rfl | rfl | rfl | rfl | rfl | rfl | rfl | rfl | rfl | rfl | rfl | rfl | rfl | rfl | rfl | rfl | rfl <;> decide
theorem RI.kf (R : RI m u w L σ) (h : KF P σ σ') (hP : tmpP P) : RI m u w L σ' := by
  obtain ⟨r1, r2, r3, r4, r5⟩ := R
  refine ⟨fun f j hf => ?_, fun j => ?_, fun j => ?_, ?_, fun j hj => ?_⟩
  · rw [h.ff (fun e => by have := (tmp_pf (hP f e)).1; rw [hf] at this; cases this)]; exact r1 f j hf
  · rw [h.ff (fun e => (tmp_pf (hP 5 e)).2.1 rfl)]; exact r2 j
  · rw [h.ff (fun e => (tmp_pf (hP 53 e)).2.2.1 rfl)]; exact r3 j
  · rw [h.ff (fun e => (tmp_pf (hP 21 e)).2.2.2.1 rfl)]; exact r4
  · rw [h.ff (fun e => (tmp_pf (hP 20 e)).2.2.2.2 rfl)]; exact r5 j hj
def f39 (f : Nat) : Prop := f = 39
def f401 (f : Nat) : Prop := f = 40 ∨ f = 41
def fbest (f : Nat) : Prop := f = 42 ∨ f = 43 ∨ f = 44
def fplan (f : Nat) : Prop := 39 ≤ f ∧ f ≤ 44
theorem t_39 : tmpP f39 := by rintro f rfl; rfl
theorem t_401 : tmpP f401 := by rintro f (rfl | rfl) <;> rfl
theorem t_best : tmpP fbest := by rintro f (rfl | rfl | rfl) <;> rfl
theorem t_plan : tmpP fplan := by
  rintro f ⟨h1, h2⟩
  have : f = 39 ∨ f = 40 ∨ f = 41 ∨ f = 42 ∨ f = 43 ∨ f = 44 := by omega
  rcases this with rfl | rfl | rfl | rfl | rfl | rfl <;> rfl
/-! digits -/
def dg (b x p : Nat) : Nat := if p = 0 then x / b / b % b else if p = 1 then x / b % b else x % b
theorem dg_lt (hb : 0 < b) : dg b x p < b := by
  unfold dg
  split
  · exact Nat.mod_lt _ hb
  · split <;> exact Nat.mod_lt _ hb
theorem r_digit3 (hN : 1000000 ≤ N) (hx : x < 2 ^ 31) (hp : p < 3) {K : Int32 → Prop} : z_X12_digit N (nI x) (nI p) (nI 3) σ K = K (nI (dg 3 x p)) := by
  have hd1 := Nat.div_le_self x 3
  have hd2 := Nat.div_le_self (x / 3) 3
  have : p = 0 ∨ p = 1 ∨ p = 2 := by omega
  rcases this with rfl | rfl | rfl
  · unfold z_X12_digit
    rw [fx2_s (by omega)]
    simp (disch := omega) only [u_br_True, u_br_False, u_jn_u, u_lt_u, u_nn_s, u_brn_s, u_brn_n, nI_add, u_n_mul, u_n_lt, u_n_le, u_n_eq, u_n_sub, u_n_div, u_n_mod, nI_clamp, u_m1, u_m1q, u_wI_n, u_wA_n, u_br_t, u_br_f, ↓li_m1, li_0, li_1, li_2, li_3, li_4, li_5, li_6, li_7, li_8, li_9, li_10, li_12, li_13, li_26, li_40, li_60, li_61, li_62, li_99, li_100, li_102, li_106, li_114, li_112, li_117, li_108, li_103, li_120, li_300, li_360, li_512, li_1000, u_dzI]
    rw [fx2_s (by omega)]
    simp (disch := omega) only [u_br_True, u_br_False, u_jn_u, u_lt_u, u_nn_s, u_brn_s, u_brn_n, nI_add, u_n_mul, u_n_lt, u_n_le, u_n_eq, u_n_sub, u_n_div, u_n_mod, nI_clamp, u_m1, u_m1q, u_wI_n, u_wA_n, u_br_t, u_br_f, ↓li_m1, li_0, li_1, li_2, li_3, li_4, li_5, li_6, li_7, li_8, li_9, li_10, li_12, li_13, li_26, li_40, li_60, li_61, li_62, li_99, li_100, li_102, li_106, li_114, li_112, li_117, li_108, li_103, li_120, li_300, li_360, li_512, li_1000, u_dzI]
    rw [fx2_s (by omega)]
    simp (disch := omega) only [u_br_True, u_br_False, u_jn_u, u_lt_u, u_nn_s, u_brn_s, u_brn_n, nI_add, u_n_mul, u_n_lt, u_n_le, u_n_eq, u_n_sub, u_n_div, u_n_mod, nI_clamp, u_m1, u_m1q, u_wI_n, u_wA_n, u_br_t, u_br_f, ↓li_m1, li_0, li_1, li_2, li_3, li_4, li_5, li_6, li_7, li_8, li_9, li_10, li_12, li_13, li_26, li_40, li_60, li_61, li_62, li_99, li_100, li_102, li_106, li_114, li_112, li_117, li_108, li_103, li_120, li_300, li_360, li_512, li_1000, u_dzI]
    rw [show x / 3 / 3 - x / 3 / 3 / 3 * 3 = dg 3 x 0 by unfold dg; rw [if_pos rfl]; omega]
  · unfold z_X12_digit
    rw [fx2_s (by omega)]
    simp (disch := omega) only [u_br_True, u_br_False, u_jn_u, u_lt_u, u_nn_s, u_brn_s, u_brn_n, nI_add, u_n_mul, u_n_lt, u_n_le, u_n_eq, u_n_sub, u_n_div, u_n_mod, nI_clamp, u_m1, u_m1q, u_wI_n, u_wA_n, u_br_t, u_br_f, ↓li_m1, li_0, li_1, li_2, li_3, li_4, li_5, li_6, li_7, li_8, li_9, li_10, li_12, li_13, li_26, li_40, li_60, li_61, li_62, li_99, li_100, li_102, li_106, li_114, li_112, li_117, li_108, li_103, li_120, li_300, li_360, li_512, li_1000, u_dzI]
    rw [fx2_s (by omega)]
    simp (disch := omega) only [u_br_True, u_br_False, u_jn_u, u_lt_u, u_nn_s, u_brn_s, u_brn_n, nI_add, u_n_mul, u_n_lt, u_n_le, u_n_eq, u_n_sub, u_n_div, u_n_mod, nI_clamp, u_m1, u_m1q, u_wI_n, u_wA_n, u_br_t, u_br_f, ↓li_m1, li_0, li_1, li_2, li_3, li_4, li_5, li_6, li_7, li_8, li_9, li_10, li_12, li_13, li_26, li_40, li_60, li_61, li_62, li_99, li_100, li_102, li_106, li_114, li_112, li_117, li_108, li_103, li_120, li_300, li_360, li_512, li_1000, u_dzI]
    rw [show x / 3 - x / 3 / 3 * 3 = dg 3 x 1 by unfold dg; rw [if_neg (by decide), if_pos rfl]; omega]
  · unfold z_X12_digit
    rw [fx2_s (by omega)]
    simp (disch := omega) only [u_br_True, u_br_False, u_jn_u, u_lt_u, u_nn_s, u_brn_s, u_brn_n, nI_add, u_n_mul, u_n_lt, u_n_le, u_n_eq, u_n_sub, u_n_div, u_n_mod, nI_clamp, u_m1, u_m1q, u_wI_n, u_wA_n, u_br_t, u_br_f, ↓li_m1, li_0, li_1, li_2, li_3, li_4, li_5, li_6, li_7, li_8, li_9, li_10, li_12, li_13, li_26, li_40, li_60, li_61, li_62, li_99, li_100, li_102, li_106, li_114, li_112, li_117, li_108, li_103, li_120, li_300, li_360, li_512, li_1000, u_dzI]
    rw [show x - x / 3 * 3 = dg 3 x 2 by unfold dg; rw [if_neg (by decide), if_neg (by decide)]; omega]
theorem r_digit8 (hN : 1000000 ≤ N) (hx : x < 2 ^ 31) (hp : p < 3) {K : Int32 → Prop} : z_X12_digit N (nI x) (nI p) (nI 8) σ K = K (nI (dg 8 x p)) := by
  have hd1 := Nat.div_le_self x 8
  have hd2 := Nat.div_le_self (x / 8) 8
  have : p = 0 ∨ p = 1 ∨ p = 2 := by omega
  rcases this with rfl | rfl | rfl
  · unfold z_X12_digit
    rw [fx2_s (by omega)]
    simp (disch := omega) only [u_br_True, u_br_False, u_jn_u, u_lt_u, u_nn_s, u_brn_s, u_brn_n, nI_add, u_n_mul, u_n_lt, u_n_le, u_n_eq, u_n_sub, u_n_div, u_n_mod, nI_clamp, u_m1, u_m1q, u_wI_n, u_wA_n, u_br_t, u_br_f, ↓li_m1, li_0, li_1, li_2, li_3, li_4, li_5, li_6, li_7, li_8, li_9, li_10, li_12, li_13, li_26, li_40, li_60, li_61, li_62, li_99, li_100, li_102, li_106, li_114, li_112, li_117, li_108, li_103, li_120, li_300, li_360, li_512, li_1000, u_dzI]
    rw [fx2_s (by omega)]
    simp (disch := omega) only [u_br_True, u_br_False, u_jn_u, u_lt_u, u_nn_s, u_brn_s, u_brn_n, nI_add, u_n_mul, u_n_lt, u_n_le, u_n_eq, u_n_sub, u_n_div, u_n_mod, nI_clamp, u_m1, u_m1q, u_wI_n, u_wA_n, u_br_t, u_br_f, ↓li_m1, li_0, li_1, li_2, li_3, li_4, li_5, li_6, li_7, li_8, li_9, li_10, li_12, li_13, li_26, li_40, li_60, li_61, li_62, li_99, li_100, li_102, li_106, li_114, li_112, li_117, li_108, li_103, li_120, li_300, li_360, li_512, li_1000, u_dzI]
    rw [fx2_s (by omega)]
    simp (disch := omega) only [u_br_True, u_br_False, u_jn_u, u_lt_u, u_nn_s, u_brn_s, u_brn_n, nI_add, u_n_mul, u_n_lt, u_n_le, u_n_eq, u_n_sub, u_n_div, u_n_mod, nI_clamp, u_m1, u_m1q, u_wI_n, u_wA_n, u_br_t, u_br_f, ↓li_m1, li_0, li_1, li_2, li_3, li_4, li_5, li_6, li_7, li_8, li_9, li_10, li_12, li_13, li_26, li_40, li_60, li_61, li_62, li_99, li_100, li_102, li_106, li_114, li_112, li_117, li_108, li_103, li_120, li_300, li_360, li_512, li_1000, u_dzI]
    rw [show x / 8 / 8 - x / 8 / 8 / 8 * 8 = dg 8 x 0 by unfold dg; rw [if_pos rfl]; omega]
  · unfold z_X12_digit
    rw [fx2_s (by omega)]
    simp (disch := omega) only [u_br_True, u_br_False, u_jn_u, u_lt_u, u_nn_s, u_brn_s, u_brn_n, nI_add, u_n_mul, u_n_lt, u_n_le, u_n_eq, u_n_sub, u_n_div, u_n_mod, nI_clamp, u_m1, u_m1q, u_wI_n, u_wA_n, u_br_t, u_br_f, ↓li_m1, li_0, li_1, li_2, li_3, li_4, li_5, li_6, li_7, li_8, li_9, li_10, li_12, li_13, li_26, li_40, li_60, li_61, li_62, li_99, li_100, li_102, li_106, li_114, li_112, li_117, li_108, li_103, li_120, li_300, li_360, li_512, li_1000, u_dzI]
    rw [fx2_s (by omega)]
    simp (disch := omega) only [u_br_True, u_br_False, u_jn_u, u_lt_u, u_nn_s, u_brn_s, u_brn_n, nI_add, u_n_mul, u_n_lt, u_n_le, u_n_eq, u_n_sub, u_n_div, u_n_mod, nI_clamp, u_m1, u_m1q, u_wI_n, u_wA_n, u_br_t, u_br_f, ↓li_m1, li_0, li_1, li_2, li_3, li_4, li_5, li_6, li_7, li_8, li_9, li_10, li_12, li_13, li_26, li_40, li_60, li_61, li_62, li_99, li_100, li_102, li_106, li_114, li_112, li_117, li_108, li_103, li_120, li_300, li_360, li_512, li_1000, u_dzI]
    rw [show x / 8 - x / 8 / 8 * 8 = dg 8 x 1 by unfold dg; rw [if_neg (by decide), if_pos rfl]; omega]
  · unfold z_X12_digit
    rw [fx2_s (by omega)]
    simp (disch := omega) only [u_br_True, u_br_False, u_jn_u, u_lt_u, u_nn_s, u_brn_s, u_brn_n, nI_add, u_n_mul, u_n_lt, u_n_le, u_n_eq, u_n_sub, u_n_div, u_n_mod, nI_clamp, u_m1, u_m1q, u_wI_n, u_wA_n, u_br_t, u_br_f, ↓li_m1, li_0, li_1, li_2, li_3, li_4, li_5, li_6, li_7, li_8, li_9, li_10, li_12, li_13, li_26, li_40, li_60, li_61, li_62, li_99, li_100, li_102, li_106, li_114, li_112, li_117, li_108, li_103, li_120, li_300, li_360, li_512, li_1000, u_dzI]
    rw [show x - x / 8 * 8 = dg 8 x 2 by unfold dg; rw [if_neg (by decide), if_neg (by decide)]; omega]
/-! orders by codes -/
def seC (n x i : Nat) : Nat := it_ (fun p a => if p < n then a ||| (1 <<< dg 3 x p) else a) 0 i
def zeC (n x i : Nat) : Bool := (List.range i).all (fun p => decide (p < n) || dg 3 x p == 0)
def okC (n x : Nat) : Bool := zeC n x 3 && (seC n x 3 == 2 ^ n - 1)
theorem orb : ∀ s, s < 8 → ∀ d, d < 3 → nI s ||| (nI 1 <<< (nI d &&& 31)) = nI (s ||| (1 <<< d)) ∧ s ||| (1 <<< d) < 8 := by decide +kernel
theorem shb : ∀ n, n < 4 → (nI 1 <<< (nI n &&& 31)) - nI 1 = nI (2 ^ n - 1) ∧ 2 ^ n - 1 < 8 := by decide +kernel
theorem seC_lt : ∀ i, seC n x i < 8
  | 0 => by show 0 < 8; decide
  | i + 1 => by
    show (if i < n then seC n x i ||| (1 <<< dg 3 x i) else seC n x i) < 8
    split
    · exact (orb _ (seC_lt i) _ (dg_lt (by decide))).2
    · exact seC_lt i
theorem zeC_s : zeC n x (i + 1) = (zeC n x i && (decide (i < n) || dg 3 x i == 0)) := by simp [zeC, List.range_succ, List.all_append]
theorem for_m2 {σ1 σ2 σ3 : Type} {F : (σ1 → σ2 → Int32 → σ3 → Prop) → σ1 → σ2 → Int32 → σ3 → Prop} {N : Nat} (n : Nat) (hn : n < 2 ^ 31 - 1) (hN : n < N) (I : Nat → σ1 → σ2 → σ3 → Prop) (m : Nat) (hm : m ≤ n)
    (step : ∀ (self : σ1 → σ2 → Int32 → σ3 → Prop) (i : Nat) (a : σ1) (b : σ2) (c : σ3), i ≤ n → I i a b c → (∀ a' b' c', i < n → I (i + 1) a' b' c' → self a' b' (nI (i + 1)) c') → F self a b (nI i) c) {a0 : σ1} {b0 : σ2} {c0 : σ3} (h0 : I m a0 b0 c0) : fx4 F N a0 b0 (nI m) c0 := by
  refine fx4_wp (I := fun a b x c => ∃ i, i ≤ n ∧ x = nI i ∧ I i a b c) (μ := fun _ _ x _ => n - tN x) ?_ N a0 b0 (nI m) c0 ⟨m, hm, rfl, h0⟩ (by rw [u_tN_nI (by omega)]; omega)
  rintro self a b x c ⟨i, hi, rfl, hI⟩ hs
  refine step self i a b c hi hI (fun a' b' c' hlt hI' => hs _ _ _ _ ⟨i + 1, hlt, rfl, hI'⟩ ?_)
  rw [u_tN_nI (by omega), u_tN_nI (by omega)]
  omega
theorem r_laysO (hN : 1000000 ≤ N) (R : RI m u w L σ) (W : WQ m) (hq : q < m 24 0) (hx : x < 27) {K : Int32 → St → Prop} (h : ∀ s, KF f39 σ s → OR s (m 25 q) (dg 3 x) → K (if okC (m 25 q) x = true then nI 1 else nI 0) s) : z_X12_laysOrder N 0 (nI q) (nI x) σ K := by
  have w1 := W.1
  have w3 := (W.2.2 q hq).1
  simp only [z_X12_laysOrder, u_br_True, u_br_False, u_jn_u, u_lt_u, u_nn_s, u_brn_s, u_brn_n, ↓li_m1, li_0, li_1, li_2, li_3, li_4, li_5, li_6, li_7, li_8, li_9, li_10, li_12, li_13, li_26, li_40, li_60, li_61, li_62, li_99, li_100, li_102, li_106, li_114, li_112, li_117, li_108, li_103, li_120, li_300, li_360, li_512, li_1000]
  refine for_m2 3 (by omega) (by omega) (fun i a b s => a = nI (seC (m 25 q) x i) ∧ b = (if zeC (m 25 q) x i = true then nI 1 else nI 0) ∧ KF f39 σ s ∧ ∀ p, p < i → p < m 25 q → sP s 12 0 39 p = nI (dg 3 x p)) 0 (by omega) (fun self i a b s hi hI hs => ?_) ⟨rfl, rfl, KF.refl, fun p hp => by omega⟩
  obtain ⟨rfl, rfl, i1, i2⟩ := hI
  have Rs := R.kf i1 t_39
  have hse := seC_lt (n := m 25 q) (x := x) i
  by_cases hl : i < 3
  · have hdg := dg_lt (b := 3) (x := x) (p := i) (by decide)
    simp (disch := omega) only [u_br_True, u_br_False, u_jn_u, u_lt_u, u_nn_s, u_brn_s, u_brn_n, nI_add, u_n_mul, u_n_lt, u_n_le, u_n_eq, u_n_sub, u_n_div, u_n_mod, nI_clamp, u_m1, u_m1q, u_wI_n, u_wA_n, u_br_t, u_br_f, r_digit3 hN (by omega : x < 2 ^ 31) hl, (fun j => Rs.r 25 j rfl)]
    by_cases hin : i < m 25 q
    · simp (disch := omega) only [u_br_True, u_br_False, u_jn_u, u_lt_u, u_nn_s, u_brn_s, u_brn_n, nI_add, u_n_mul, u_n_lt, u_n_le, u_n_eq, u_n_sub, u_n_div, u_n_mod, nI_clamp, u_m1, u_m1q, u_wI_n, u_wA_n, u_br_t, u_br_f]
      rw [(orb _ hse _ hdg).1]
      refine hs _ _ _ hl ⟨?_, ?_, i1.st rfl, fun p hp hp2 => ?_⟩
      · show _ = nI (if i < m 25 q then _ else _)
        rw [if_pos hin]; rfl
      · rw [zeC_s, decide_eq_true hin, Bool.true_or, Bool.and_true]
      · simp only [sP_stP, Nat.reduceEqDiff, true_and, and_true, false_and, and_false, if_true, if_false, eq_self, and_self, Nat.reduceLT, Nat.reduceLeDiff, Nat.reduceAdd, Nat.reduceMul, Nat.reduceDiv, Nat.one_ne_zero]
        by_cases e : p = i
        · rw [if_pos e, e]
        · rw [if_neg e]; exact i2 p (by omega) hp2
    · have hse2 : seC (m 25 q) x (i + 1) = seC (m 25 q) x i := by
        show (if i < m 25 q then _ else _) = _
        rw [if_neg hin]
        rfl
      have hze2 : zeC (m 25 q) x (i + 1) = (zeC (m 25 q) x i && (dg 3 x i == 0)) := by rw [zeC_s, decide_eq_false hin, Bool.false_or]
      have goalS := fun b hb => hs (nI (seC (m 25 q) x i)) b s hl ⟨by rw [hse2], hb, i1, fun p hp hp2 => i2 p (by omega) hp2⟩
      rw [hze2] at goalS
      simp (disch := omega) only [u_br_True, u_br_False, u_jn_u, u_lt_u, u_nn_s, u_brn_s, u_brn_n, nI_add, u_n_mul, u_n_lt, u_n_le, u_n_eq, u_n_sub, u_n_div, u_n_mod, nI_clamp, u_m1, u_m1q, u_wI_n, u_wA_n, u_br_t, u_br_f]
      by_cases hz : zeC (m 25 q) x i = true
      · rw [if_pos hz, u_br_f (by rw [b10]; exact fun h => h)]
        rw [hz, Bool.true_and] at goalS
        by_cases hd : dg 3 x i = 0
        · rw [u_br_t hd]
          exact goalS _ (by rw [if_pos (by rw [hd]; rfl)])
        · rw [u_br_f hd]
          exact goalS _ (by rw [if_neg (by simpa using hd)])
      · rw [if_neg hz, u_br_t rfl]
        have hz2 : zeC (m 25 q) x i = false := by simpa using hz
        rw [hz2, Bool.false_and] at goalS
        exact goalS _ rfl
  · have hi3 : i = 3 := by omega
    subst hi3
    have fin := h s i1 (fun p hp => i2 p (by omega) hp)
    simp (disch := omega) only [u_br_True, u_br_False, u_jn_u, u_lt_u, u_nn_s, u_brn_s, u_brn_n, nI_add, u_n_mul, u_n_lt, u_n_le, u_n_eq, u_n_sub, u_n_div, u_n_mod, nI_clamp, u_m1, u_m1q, u_wI_n, u_wA_n, u_br_t, u_br_f, (fun j => Rs.r 25 j rfl)]
    by_cases hz : zeC (m 25 q) x 3 = true
    · rw [if_pos hz, u_br_f (by rw [b10]; exact fun h => h), (shb _ (by omega)).1]
      have h2 := (shb (m 25 q) (by omega)).2
      by_cases he : seC (m 25 q) x 3 = 2 ^ m 25 q - 1
      · rw [if_pos (by simp [okC, hz, he])] at fin
        rw [u_br_t (by rw [he])]
        exact fin
      · rw [if_neg (by simp [okC, he])] at fin
        rw [u_br_f (by rw [u_n_eq (by omega) (by omega)]; exact he)]
        exact fin
    · rw [if_neg hz, u_br_t rfl]
      rw [if_neg (by simp [okC, hz])] at fin
      exact fin
/-! ways by codes -/
def vW (m : Nat → Nat → Nat) (q ban : Nat) (o : Nat → Nat) (y i : Nat) : Bool := (List.range i).all (fun p => if p < m 25 q then (dg 8 y p == 0 || (wIdx m q ban o p (dg 8 y p)).isSome) else dg 8 y p == 0)
theorem vW_s : vW m q ban o y (i + 1) = (vW m q ban o y i && (if i < m 25 q then (dg 8 y i == 0 || (wIdx m q ban o i (dg 8 y i)).isSome) else dg 8 y i == 0)) := by
  simp [vW, List.range_succ, List.all_append]
theorem r_laysW (hN : 1000000 ≤ N) (R : RI m u w L σ) (W : WQ m) (Wx : WX m) (Wt : WT m u) (hq : q < m 24 0) (Ho : OR σ (m 25 q) o) (ho : ∀ p, p < m 25 q → o p < m 25 q) (h45 : sP σ 12 0 45 0 = nI ban) (hb : ban < 64) (hy : y < 512) {K : Int32 → St → Prop}
    (h : ∀ s, KF f401 σ s → (vW m q ban o y 3 = true → ∀ p, p < m 25 q → sP s 12 0 40 p = nI (dg 8 y p) ∧ sP s 12 0 41 p = wI_ (dg 8 y p) (wIdx m q ban o p (dg 8 y p))) → K (if vW m q ban o y 3 = true then nI 1 else nI 0) s) : z_X12_laysWays N 0 (nI q) (nI y) σ K := by
  have w1 := W.1
  have w3 := (W.2.2 q hq).1
  have hx6 := Wx.1
  simp only [z_X12_laysWays, u_br_True, u_br_False, u_jn_u, u_lt_u, u_nn_s, u_brn_s, u_brn_n, ↓li_m1, li_0, li_1, li_2, li_3, li_4, li_5, li_6, li_7, li_8, li_9, li_10, li_12, li_13, li_26, li_40, li_60, li_61, li_62, li_99, li_100, li_102, li_106, li_114, li_112, li_117, li_108, li_103, li_120, li_300, li_360, li_512, li_1000, li_m2]
  refine for_m 3 (by omega) (by omega) (fun i a s => a = (if vW m q ban o y i = true then nI 1 else nI 0) ∧ KF f401 σ s ∧ (vW m q ban o y i = true → ∀ p, p < i → p < m 25 q → sP s 12 0 40 p = nI (dg 8 y p) ∧ sP s 12 0 41 p = wI_ (dg 8 y p) (wIdx m q ban o p (dg 8 y p)))) 0 (by omega) (fun self i a s hi hI hs => ?_) ⟨rfl, KF.refl, fun _ p hp => by omega⟩
  obtain ⟨rfl, i1, i2⟩ := hI
  have Rs := R.kf i1 t_401
  by_cases hl : i < 3
  · have hdg := dg_lt (b := 8) (x := y) (p := i) (by decide)
    simp (disch := omega) only [u_br_True, u_br_False, u_jn_u, u_lt_u, u_nn_s, u_brn_s, u_brn_n, nI_add, u_n_mul, u_n_lt, u_n_le, u_n_eq, u_n_sub, u_n_div, u_n_mod, nI_clamp, u_m1, u_m1q, u_wI_n, u_wA_n, u_br_t, u_br_f, r_digit8 hN (by omega : y < 2 ^ 31) hl, (fun j => Rs.r 25 j rfl)]
    by_cases hin : i < m 25 q
    · have hv2 : vW m q ban o y (i + 1) = (vW m q ban o y i && (dg 8 y i == 0 || (wIdx m q ban o i (dg 8 y i)).isSome)) := by rw [vW_s, if_pos hin]
      simp (disch := omega) only [u_br_True, u_br_False, u_jn_u, u_lt_u, u_nn_s, u_brn_s, u_brn_n, nI_add, u_n_mul, u_n_lt, u_n_le, u_n_eq, u_n_sub, u_n_div, u_n_mod, nI_clamp, u_m1, u_m1q, u_wI_n, u_wA_n, u_br_t, u_br_f]
      by_cases hz : vW m q ban o y i = true
      · rw [if_pos hz, u_br_f (by rw [b10]; exact fun h => h)]
        rw [hz, Bool.true_and] at hv2
        refine r_idx hN Rs W Wx Wt hq (fun p hp => by rw [i1.ff (by simp only [f39, f401, fbest, fplan]; decide)]; exact Ho p (by omega)) (fun p hp => ho p (by omega)) (by rw [i1.ff (by simp only [f39, f401, fbest, fplan]; decide)]; exact h45) hb hin hdg ?_
        have regs : ∀ p, p < i + 1 → p < m 25 q → sP (stP (stP s 12 0 40 i (nI (dg 8 y i))) 12 0 41 i (wI_ (dg 8 y i) (wIdx m q ban o i (dg 8 y i)))) 12 0 40 p = nI (dg 8 y p) ∧ sP (stP (stP s 12 0 40 i (nI (dg 8 y i))) 12 0 41 i (wI_ (dg 8 y i) (wIdx m q ban o i (dg 8 y i)))) 12 0 41 p = wI_ (dg 8 y p) (wIdx m q ban o p (dg 8 y p)) := by
          intro p hp hp2
          simp only [sP_stP, Nat.reduceEqDiff, true_and, and_true, false_and, and_false, if_true, if_false, eq_self, and_self, Nat.reduceLT, Nat.reduceLeDiff, Nat.reduceAdd, Nat.reduceMul, Nat.reduceDiv, Nat.one_ne_zero]
          by_cases e : p = i
          · subst e; rw [if_pos rfl, if_pos rfl]; exact ⟨rfl, rfl⟩
          · rw [if_neg e, if_neg e]; exact i2 hz p (by omega) hp2
        have kk := (i1.st (f := 40) (j := i) (v := nI (dg 8 y i)) (Or.inl rfl)).st (f := 41) (j := i) (v := wI_ (dg 8 y i) (wIdx m q ban o i (dg 8 y i))) (Or.inr rfl)
        by_cases h0 : dg 8 y i = 0
        · have e9 : vW m q ban o y (i + 1) = true := by rw [hv2, h0]; rfl
          rw [u_br_f (by rw [wI_0 h0, m2_m1]; exact fun h => h)]
          exact hs _ _ hl ⟨by rw [if_pos e9], kk, fun _ => regs⟩
        · cases hw : wIdx m q ban o i (dg 8 y i) with
          | none =>
            have e9 : ¬ vW m q ban o y (i + 1) = true := by rw [hv2, hw]; simp [h0]
            rw [hw] at kk
            rw [u_br_t (by rw [wI_n h0, m2_m2]; trivial)]
            exact hs _ _ hl ⟨by rw [if_neg e9], kk, fun h9 => absurd h9 e9⟩
          | some k =>
            have e9 : vW m q ban o y (i + 1) = true := by rw [hv2, hw]; simp
            have hk6 : k < 6 := by
              unfold wIdx at hw
              rw [if_neg h0] at hw
              split at hw
              · split at hw
                · have := (iOn_lt hw).1; omega
                · cases hw
              · split at hw
                · obtain ⟨c, _, hw2⟩ := Option.bind_eq_some_iff.mp hw
                  have := (iOn_lt hw2).1; omega
                · cases hw
            rw [hw] at kk regs
            rw [u_br_f (by rw [wI_s h0, m2_le (by omega)]; exact fun h => h)]
            exact hs _ _ hl ⟨by rw [if_pos e9], kk, fun _ p hp hp2 => by
              have := regs p hp hp2
              exact this⟩
      · rw [if_neg hz, u_br_t rfl]
        have hz2 : vW m q ban o y i = false := by simpa using hz
        rw [hz2, Bool.false_and] at hv2
        refine hs _ _ hl ⟨by rw [hv2]; rfl, i1, fun h9 => by rw [hv2] at h9; cases h9⟩
    · have hv2 : vW m q ban o y (i + 1) = (vW m q ban o y i && (dg 8 y i == 0)) := by rw [vW_s, if_neg hin]
      simp (disch := omega) only [u_br_True, u_br_False, u_jn_u, u_lt_u, u_nn_s, u_brn_s, u_brn_n, nI_add, u_n_mul, u_n_lt, u_n_le, u_n_eq, u_n_sub, u_n_div, u_n_mod, nI_clamp, u_m1, u_m1q, u_wI_n, u_wA_n, u_br_t, u_br_f]
      have keep : vW m q ban o y (i + 1) = true → ∀ p, p < i + 1 → p < m 25 q → sP s 12 0 40 p = nI (dg 8 y p) ∧ sP s 12 0 41 p = wI_ (dg 8 y p) (wIdx m q ban o p (dg 8 y p)) := by
        intro h9 p hp hp2
        rw [hv2, Bool.and_eq_true] at h9
        exact i2 h9.1 p (by omega) hp2
      by_cases hz : vW m q ban o y i = true
      · rw [if_pos hz, u_br_f (by rw [b10]; exact fun h => h)]
        rw [hz, Bool.true_and] at hv2
        by_cases hd : dg 8 y i = 0
        · rw [u_br_t hd]
          exact hs _ _ hl ⟨by rw [hv2, hd]; rfl, i1, keep⟩
        · rw [u_br_f hd]
          exact hs _ _ hl ⟨by rw [hv2, if_neg (by simpa using hd)], i1, keep⟩
      · rw [if_neg hz, u_br_t rfl]
        have hz2 : vW m q ban o y i = false := by simpa using hz
        rw [hz2, Bool.false_and] at hv2
        exact hs _ _ hl ⟨by rw [hv2]; rfl, i1, keep⟩
  · have hi3 : i = 3 := by omega
    subst hi3
    simp (disch := omega) only [u_br_True, u_br_False, u_jn_u, u_lt_u, u_nn_s, u_brn_s, u_brn_n, nI_add, u_n_mul, u_n_lt, u_n_le, u_n_eq, u_n_sub, u_n_div, u_n_mod, nI_clamp, u_m1, u_m1q, u_wI_n, u_wA_n, u_br_t, u_br_f]
    rw [u_nb_if, u_ok_t rfl]
    exact h s i1 (fun h9 p hp => i2 h9 p (by omega) hp)
theorem r_keeps (hN : 1000000 ≤ N) {K : St → Prop} (h : ∀ s, KF fbest σ s → (∀ p, p < 3 → sP s 12 0 42 p = sP σ 12 0 39 p ∧ sP s 12 0 43 p = sP σ 12 0 40 p ∧ sP s 12 0 44 p = sP σ 12 0 41 p) → K s) : z_X12_keepsPlan N 0 σ K := by
  unfold z_X12_keepsPlan
  refine for_u 3 (by omega) (by omega) (fun i s => KF fbest σ s ∧ ∀ p, p < i → sP s 12 0 42 p = sP σ 12 0 39 p ∧ sP s 12 0 43 p = sP σ 12 0 40 p ∧ sP s 12 0 44 p = sP σ 12 0 41 p) 0 (by omega) (fun self i s hi hI hs => ?_) ⟨KF.refl, fun p hp => by omega⟩
  obtain ⟨i1, i2⟩ := hI
  by_cases hl : i < 3
  · simp (disch := omega) only [u_br_True, u_br_False, u_jn_u, u_lt_u, u_nn_s, u_brn_s, u_brn_n, nI_add, u_n_mul, u_n_lt, u_n_le, u_n_eq, u_n_sub, u_n_div, u_n_mod, nI_clamp, u_m1, u_m1q, u_wI_n, u_wA_n, u_br_t, u_br_f, ↓li_m1, li_0, li_1, li_2, li_3, li_4, li_5, li_6, li_7, li_8, li_9, li_10, li_12, li_13, li_26, li_40, li_60, li_61, li_62, li_99, li_100, li_102, li_106, li_114, li_112, li_117, li_108, li_103, li_120, li_300, li_360, li_512, li_1000, sP_stP, Nat.reduceEqDiff, true_and, and_true, false_and, and_false, if_true, if_false, eq_self, and_self, Nat.reduceLT, Nat.reduceLeDiff, Nat.reduceAdd, Nat.reduceMul, Nat.reduceDiv, Nat.one_ne_zero]
    refine hs _ hl ⟨((i1.st (Or.inl rfl)).st (Or.inr (Or.inl rfl))).st (Or.inr (Or.inr rfl)), fun p hp => ?_⟩
    simp only [sP_stP, Nat.reduceEqDiff, true_and, and_true, false_and, and_false, if_true, if_false, eq_self, and_self, Nat.reduceLT, Nat.reduceLeDiff, Nat.reduceAdd, Nat.reduceMul, Nat.reduceDiv, Nat.one_ne_zero]
    by_cases e : p = i
    · subst e
      rw [if_pos rfl, if_pos rfl, if_pos rfl, i1.ff (by simp only [f39, f401, fbest, fplan]; decide), i1.ff (by simp only [f39, f401, fbest, fplan]; decide), i1.ff (by simp only [f39, f401, fbest, fplan]; decide)]
      exact ⟨rfl, rfl, rfl⟩
    · rw [if_neg e, if_neg e, if_neg e]
      exact i2 p (by omega)
  · have hi3 : i = 3 := by omega
    subst hi3
    simp (disch := omega) only [u_br_True, u_br_False, u_jn_u, u_lt_u, u_nn_s, u_brn_s, u_brn_n, nI_add, u_n_mul, u_n_lt, u_n_le, u_n_eq, u_n_sub, u_n_div, u_n_mod, nI_clamp, u_m1, u_m1q, u_wI_n, u_wA_n, u_br_t, u_br_f, ↓li_m1, li_0, li_1, li_2, li_3, li_4, li_5, li_6, li_7, li_8, li_9, li_10, li_12, li_13, li_26, li_40, li_60, li_61, li_62, li_99, li_100, li_102, li_106, li_114, li_112, li_117, li_108, li_103, li_120, li_300, li_360, li_512, li_1000]
    exact h s i1 i2
end RLAYS
