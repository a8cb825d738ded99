section RPLAN
variable {m m' mm : Nat → Nat → Nat} {u u' w : Nat → Int32} {L L' E : List Nat} {σ σ' σ1 σ2 : St} {N kk t c k n q ban place p way x y b a : Nat} {o o' ways : Nat → Nat}
/-! numbers of 64 bits -/
theorem ll_0 : (0 : Int64) = lN 0 := rfl
theorem ll_1 : (1 : Int64) = lN 1 := rfl
theorem ll_1000 : (1000 : Int64) = lN 1000 := rfl
theorem l_lt (ha : a < 2 ^ 63) (hb : b < 2 ^ 63) : (lN a < lN b) = (a < b) := propext (pk_lLT ha hb)
theorem l_le (ha : a < 2 ^ 63) (hb : b < 2 ^ 63) : (lN a ≤ lN b) = (a ≤ b) := propext (pk_lLE ha hb)
theorem l_div (ha : a < 2 ^ 63) (h0 : 0 < b) (hb : b < 2 ^ 63) : lN a / lN b = lN (a / b) := pk_lDiv ha h0 hb
theorem u_dzL {v : Nat} (h : 0 < v) (h2 : v < 2 ^ 31) {T : Prop} : dz (lN v) T = T := by
  refine u_dz_t (fun e => ?_)
  rw [ll_0, lN_eq h2 (by omega)] at e
  omega
theorem u_dzI {v : Nat} (h : 0 < v) (h2 : v < 2 ^ 31) {T : Prop} : dz (nI v) T = T := by
  refine u_dz_t (fun e => ?_)
  have := congrArg tN e
  rw [u_tN_nI h2] at this
  have h0 : tN 0 = 0 := by decide
  omega
theorem cmp_ge (ha : a < 2 ^ 63) (hb : b < 2 ^ 63) : (nI 0 ≤ lg_cmp (lN a) (lN b)) = (b ≤ a) := by
  apply propext
  rw [show nI 0 = (0 : Int32) from rfl, lg_cmp_ge, pk_lLE hb ha]
def m2I : Int32 := -nI 2
theorem li_m2 : -nI 2 = m2I := rfl
theorem m2_le (h : a < 2 ^ 31) : (nI a ≤ m2I) = False := by
  apply eq_false
  intro h9
  rw [Int32.le_iff_toInt_le, nI_toInt h] at h9
  have : m2I.toInt = -2 := by decide
  omega
theorem m2_m1 : (mI ≤ m2I) = False := eq_false (by decide)
theorem m2_m2 : (m2I ≤ m2I) = True := eq_true (by decide)
theorem m1_m1 : (mI = mI) = True := eq_true rfl
theorem sbit : ∀ b, b < 64 → ∀ k, k < 6 → ((((nI b >>> (nI k &&& 31)) &&& nI 1) = nI 0) ↔ b.testBit k = false) := by decide +kernel
theorem sbit_t (hb : b < 64) (hk : k < 6) (h : b.testBit k = false) : (((nI b >>> (nI k &&& 31)) &&& nI 1) = nI 0) := (sbit b hb k hk).mpr h
theorem sbit_f (hb : b < 64) (hk : k < 6) (h : b.testBit k = true) : ¬ (((nI b >>> (nI k &&& 31)) &&& nI 1) = nI 0) := fun e => by
  have := (sbit b hb k hk).mp e
  rw [h] at this
  cases this
/-! the reference's planner -/
theorem r_iOn (hN : 1000000 ≤ N) (R : RI m u w L σ) (Wx : WX m) (Wt : WT m u) (h45 : sP σ 12 0 45 0 = nI ban) (hb : ban < 64) (ht : t < 3) (hc : c < 3) {K : Int32 → Prop} (h : K (oI (iOn m ban t c))) : z_X12_indexOn N 0 (nI t) (nI c) σ K := by
  have hx6 := Wx.1
  have h1 := Wt.nt
  simp (disch := omega) only [z_X12_indexOn, u_br_True, u_br_False, u_jn_u, u_lt_u, u_nn_s, u_brn_s, u_brn_n, nI_add, u_n_mul, u_n_lt, u_n_le, u_n_eq, u_n_sub, u_n_div, u_n_mod, nI_clamp, u_m1, u_m1q, u_wI_n, u_wA_n, u_br_t, u_br_f, ↓li_m1, li_0, li_1, li_2, li_3, li_4, li_5, li_6, li_7, li_8, li_9, li_10, li_12, li_13, li_26, li_40, li_60, li_61, li_62, li_99, li_100, li_102, li_106, li_114, li_112, li_117, li_108, li_103, li_120, li_300, li_360, li_512, li_1000, (fun j => R.r 13 j rfl)]
  have e0 : ∀ {F : (Int32 → Int32 → Prop) → Int32 → Int32 → Prop}, fx2 F N mI (nI (m 13 0) - nI 1) → fx2 F N mI (nI (m 13 0) - nI 1) := fun h => h
  refine e0 (dn_v (m 13 0) (by omega) (by omega) (fun i a => a = oI ((List.range' i (m 13 0 - i)).find? (fun k => m 14 k == t && (m 15 k == c && !ban.testBit k)))) (fun self i a hi ha hs => ?_) (by rw [Nat.sub_self]; rfl))
  subst ha
  by_cases h0 : i = 0
  · subst h0
    rw [u_br_t (by decide), Nat.sub_zero, ← List.range_eq_range']
    exact h
  · obtain ⟨i, rfl⟩ : ∃ i', i = i' + 1 := ⟨i - 1, by omega⟩
    have goalS := hs _ (by omega) rfl
    rw [show i + 1 - 1 = i by omega, show m 13 0 - i = (m 13 0 - (i + 1)) + 1 by omega, List.range'_succ, List.find?_cons] at goalS
    obtain ⟨hx1, hx2⟩ := Wx.2 i (by omega)
    have hcl := Wt.cl hx1
    rw [u_n_sub (by omega), show i + 1 - 1 = i by omega]
    by_cases h14 : m 14 i = t
    · by_cases h15 : m 15 i = c
      · cases hbit : ban.testBit i with
        | false =>
          have hP : (m 14 i == t && (m 15 i == c && !ban.testBit i)) = true := by simp [h14, h15, hbit]
          rw [hP] at goalS
          simp (disch := omega) only [u_br_True, u_br_False, u_jn_u, u_lt_u, u_nn_s, u_brn_s, u_brn_n, nI_add, u_n_mul, u_n_lt, u_n_le, u_n_eq, u_n_sub, u_n_div, u_n_mod, nI_clamp, u_m1, u_m1q, u_wI_n, u_wA_n, u_br_t, u_br_f, ↓li_m1, li_0, li_1, li_2, li_3, li_4, li_5, li_6, li_7, li_8, li_9, li_10, li_12, li_13, li_26, li_40, li_60, li_61, li_62, li_99, li_100, li_102, li_106, li_114, li_112, li_117, li_108, li_103, li_120, li_300, li_360, li_512, li_1000, (fun j => R.r 14 j rfl), (fun j => R.r 15 j rfl), h45]
          rw [u_br_t (sbit_t hb (by omega) hbit)]
          exact goalS
        | true =>
          have hP : (m 14 i == t && (m 15 i == c && !ban.testBit i)) = false := by simp [hbit]
          rw [hP] at goalS
          simp (disch := omega) only [u_br_True, u_br_False, u_jn_u, u_lt_u, u_nn_s, u_brn_s, u_brn_n, nI_add, u_n_mul, u_n_lt, u_n_le, u_n_eq, u_n_sub, u_n_div, u_n_mod, nI_clamp, u_m1, u_m1q, u_wI_n, u_wA_n, u_br_t, u_br_f, ↓li_m1, li_0, li_1, li_2, li_3, li_4, li_5, li_6, li_7, li_8, li_9, li_10, li_12, li_13, li_26, li_40, li_60, li_61, li_62, li_99, li_100, li_102, li_106, li_114, li_112, li_117, li_108, li_103, li_120, li_300, li_360, li_512, li_1000, (fun j => R.r 14 j rfl), (fun j => R.r 15 j rfl), h45]
          rw [u_br_f (sbit_f hb (by omega) hbit)]
          exact goalS
      · have hP : (m 14 i == t && (m 15 i == c && !ban.testBit i)) = false := by simp [h15]
        rw [hP] at goalS
        simp (disch := omega) only [u_br_True, u_br_False, u_jn_u, u_lt_u, u_nn_s, u_brn_s, u_brn_n, nI_add, u_n_mul, u_n_lt, u_n_le, u_n_eq, u_n_sub, u_n_div, u_n_mod, nI_clamp, u_m1, u_m1q, u_wI_n, u_wA_n, u_br_t, u_br_f, ↓li_m1, li_0, li_1, li_2, li_3, li_4, li_5, li_6, li_7, li_8, li_9, li_10, li_12, li_13, li_26, li_40, li_60, li_61, li_62, li_99, li_100, li_102, li_106, li_114, li_112, li_117, li_108, li_103, li_120, li_300, li_360, li_512, li_1000, (fun j => R.r 14 j rfl), (fun j => R.r 15 j rfl)]
        exact goalS
    · have hP : (m 14 i == t && (m 15 i == c && !ban.testBit i)) = false := by simp [h14]
      rw [hP] at goalS
      simp (disch := omega) only [u_br_True, u_br_False, u_jn_u, u_lt_u, u_nn_s, u_brn_s, u_brn_n, nI_add, u_n_mul, u_n_lt, u_n_le, u_n_eq, u_n_sub, u_n_div, u_n_mod, nI_clamp, u_m1, u_m1q, u_wI_n, u_wA_n, u_br_t, u_br_f, ↓li_m1, li_0, li_1, li_2, li_3, li_4, li_5, li_6, li_7, li_8, li_9, li_10, li_12, li_13, li_26, li_40, li_60, li_61, li_62, li_99, li_100, li_102, li_106, li_114, li_112, li_117, li_108, li_103, li_120, li_300, li_360, li_512, li_1000, (fun j => R.r 14 j rfl), (fun j => R.r 15 j rfl)]
      exact goalS
theorem ahead_s : ahead o (n + 1) p = (ahead o n p || (o n == p)) := by
  simp [ahead, List.range_succ, List.any_append]
/-- the order that the reference tries -/
def OR (σ : St) (n : Nat) (o : Nat → Nat) : Prop := ∀ p, p < n → sP σ 12 0 39 p = nI (o p)
theorem r_ahead (hN : 1000000 ≤ N) (Ho : OR σ n o) (hn : n ≤ 3) (ho : ∀ p, p < n → o p < 3) (hpl : place ≤ n) (hp : p < 3) {K : Int32 → Prop} (h : K (if ahead o place p = true then nI 1 else nI 0)) : z_X12_isAhead N 0 (nI p) (nI place) σ K := by
  unfold z_X12_isAhead
  refine for_v place (by omega) (by omega) (fun i a => a = if ahead o i p = true then nI 1 else nI 0) 0 (by omega) (fun self i a hi ha hs => ?_) (by simp [ahead, li_0])
  subst ha
  by_cases hl : i < place
  · have goalS := hs _ hl rfl
    rw [ahead_s] at goalS
    by_cases hf : ahead o i p = true
    · rw [if_pos hf]
      rw [hf, Bool.true_or, if_pos rfl] at goalS
      simp (disch := omega) only [u_br_True, u_br_False, u_jn_u, u_lt_u, u_nn_s, u_brn_s, u_brn_n, nI_add, u_n_mul, u_n_lt, u_n_le, u_n_eq, u_n_sub, u_n_div, u_n_mod, nI_clamp, u_m1, u_m1q, u_wI_n, u_wA_n, u_br_t, u_br_f, ↓li_m1, li_0, li_1, li_2, li_3, li_4, li_5, li_6, li_7, li_8, li_9, li_10, li_12, li_13, li_26, li_40, li_60, li_61, li_62, li_99, li_100, li_102, li_106, li_114, li_112, li_117, li_108, li_103, li_120, li_300, li_360, li_512, li_1000]
      exact goalS
    · rw [if_neg hf]
      have hf2 : ahead o i p = false := by simpa using hf
      rw [hf2, Bool.false_or] at goalS
      have e := Ho i (by omega)
      have b1 := ho i (by omega)
      by_cases he : o i = p
      · rw [if_pos (by simpa using he)] at goalS
        simp (disch := omega) only [u_br_True, u_br_False, u_jn_u, u_lt_u, u_nn_s, u_brn_s, u_brn_n, nI_add, u_n_mul, u_n_lt, u_n_le, u_n_eq, u_n_sub, u_n_div, u_n_mod, nI_clamp, u_m1, u_m1q, u_wI_n, u_wA_n, u_br_t, u_br_f, ↓li_m1, li_0, li_1, li_2, li_3, li_4, li_5, li_6, li_7, li_8, li_9, li_10, li_12, li_13, li_26, li_40, li_60, li_61, li_62, li_99, li_100, li_102, li_106, li_114, li_112, li_117, li_108, li_103, li_120, li_300, li_360, li_512, li_1000, e]
        exact goalS
      · rw [if_neg (by simpa using he)] at goalS
        simp (disch := omega) only [u_br_True, u_br_False, u_jn_u, u_lt_u, u_nn_s, u_brn_s, u_brn_n, nI_add, u_n_mul, u_n_lt, u_n_le, u_n_eq, u_n_sub, u_n_div, u_n_mod, nI_clamp, u_m1, u_m1q, u_wI_n, u_wA_n, u_br_t, u_br_f, ↓li_m1, li_0, li_1, li_2, li_3, li_4, li_5, li_6, li_7, li_8, li_9, li_10, li_12, li_13, li_26, li_40, li_60, li_61, li_62, li_99, li_100, li_102, li_106, li_114, li_112, li_117, li_108, li_103, li_120, li_300, li_360, li_512, li_1000, e]
        exact goalS
  · have hi2 : i = place := by omega
    subst hi2
    simp (disch := omega) only [u_br_True, u_br_False, u_jn_u, u_lt_u, u_nn_s, u_brn_s, u_brn_n, nI_add, u_n_mul, u_n_lt, u_n_le, u_n_eq, u_n_sub, u_n_div, u_n_mod, nI_clamp, u_m1, u_m1q, u_wI_n, u_wA_n, u_br_t, u_br_f, ↓li_m1, li_0, li_1, li_2, li_3, li_4, li_5, li_6, li_7, li_8, li_9, li_10, li_12, li_13, li_26, li_40, li_60, li_61, li_62, li_99, li_100, li_102, li_106, li_114, li_112, li_117, li_108, li_103, li_120, li_300, li_360, li_512, li_1000]
    rw [u_nb_if, u_ok_t rfl]
    exact h
theorem r_own (hN : 1000000 ≤ N) (R : RI m u w L σ) (W : WQ m) (Wt : WT m u) (hq : q < m 24 0) (hk : k < m 32 q) (Ho : OR σ (place + 1) o) (ho : ∀ p, p ≤ place → o p < m 25 q) (hpl : place < m 25 q) {K : Int32 → Prop} (h : K (oI (own m q o place k))) : z_X12_ownColumn N 0 (nI (3 * q + k)) (nI place) σ K := by
  have w1 := W.1
  have w3 := W.2.2 q hq
  have h1 := Wt.nt
  obtain ⟨j1, j2, j3, j4, j5⟩ := w3.2.2.2.2.2 k hk
  have c1 := Wt.cl (w3.2.2.2.1 _ j1)
  have c2 := Wt.cl (w3.2.2.2.1 _ j3)
  have hb := ho place (Nat.le_refl _)
  have e39 := Ho place (by omega)
  have k2 : ∀ {K : Int32 → Prop}, (K (if ahead o place (m 33 (3 * q + k)) = true then nI 1 else nI 0)) → z_X12_isAhead N 0 (nI (m 33 (3 * q + k))) (nI place) σ K := fun h => r_ahead (n := place) hN (fun p hp => Ho p (by omega)) (by omega) (fun p hp => by have := ho p (by omega); omega) (Nat.le_refl _) (by omega) h
  have k1 : ∀ {K : Int32 → Prop}, (K (if ahead o place (m 35 (3 * q + k)) = true then nI 1 else nI 0)) → z_X12_isAhead N 0 (nI (m 35 (3 * q + k))) (nI place) σ K := fun h => r_ahead (n := place) hN (fun p hp => Ho p (by omega)) (by omega) (fun p hp => by have := ho p (by omega); omega) (Nat.le_refl _) (by omega) h
  simp (disch := omega) only [z_X12_ownColumn, u_br_True, u_br_False, u_jn_u, u_lt_u, u_nn_s, u_brn_s, u_brn_n, nI_add, u_n_mul, u_n_lt, u_n_le, u_n_eq, u_n_sub, u_n_div, u_n_mod, nI_clamp, u_m1, u_m1q, u_wI_n, u_wA_n, u_br_t, u_br_f, ↓li_m1, li_0, li_1, li_2, li_3, li_4, li_5, li_6, li_7, li_8, li_9, li_10, li_12, li_13, li_26, li_40, li_60, li_61, li_62, li_99, li_100, li_102, li_106, li_114, li_112, li_117, li_108, li_103, li_120, li_300, li_360, li_512, li_1000, (fun j => R.r 33 j rfl), (fun j => R.r 34 j rfl), (fun j => R.r 35 j rfl), (fun j => R.r 36 j rfl), e39]
  have second : ¬ (m 33 (3 * q + k) = o place ∧ ahead o place (m 35 (3 * q + k)) = true) → br (m 35 (3 * q + k) = o place) (z_X12_isAhead N 0 (nI (m 33 (3 * q + k))) (nI place) σ fun v9 => br (v9 = nI 0) (K mI) (K (nI (m 36 (3 * q + k))))) (K mI) := by
    intro hno
    unfold own at h
    rw [if_neg hno] at h
    by_cases e2 : m 35 (3 * q + k) = o place
    · rw [u_br_t e2]
      refine k2 ?_
      by_cases a2 : ahead o place (m 33 (3 * q + k)) = true
      · rw [if_pos ⟨e2, a2⟩] at h
        rw [if_pos a2, u_br_f (by rw [b10]; exact fun h => h)]
        exact h
      · rw [if_neg (fun h9 => a2 h9.2)] at h
        rw [if_neg a2, u_br_t rfl]
        exact h
    · rw [if_neg (fun h9 => e2 h9.1)] at h
      rw [u_br_f e2]
      exact h
  by_cases e1 : m 33 (3 * q + k) = o place
  · rw [u_br_t e1]
    refine k1 ?_
    by_cases a1 : ahead o place (m 35 (3 * q + k)) = true
    · unfold own at h
      rw [if_pos ⟨e1, a1⟩] at h
      rw [if_pos a1, u_br_f (by rw [b10]; exact fun h => h)]
      exact h
    · rw [if_neg a1, u_br_t rfl]
      exact second (fun h9 => a1 h9.2)
  · rw [u_br_f e1]
    exact second (fun h9 => e1 h9.1)
theorem own_lt (W : WQ m) (hq : q < m 24 0) (hk : k < m 32 q) (h : own m q o place k = some c) : c < m 2 (tq m q (o place)) := by
  obtain ⟨j1, j2, j3, j4, j5⟩ := (W.2.2 q hq).2.2.2.2.2 k hk
  unfold own at h
  split at h
  · rename_i e
    cases h
    rw [← e.1]; exact j2
  · split at h
    · rename_i e
      cases h
      rw [← e.1]; exact j4
    · cases h
def wI_ (way : Nat) (x : Option Nat) : Int32 := if way = 0 then mI else match x with | some k => nI k | none => m2I
theorem iOn_lt (h : iOn m ban t c = some k) : k < m 13 0 ∧ m 14 k = t ∧ m 15 k = c ∧ ban.testBit k = false := by
  have h1 := List.find?_some h
  have h2 := List.mem_of_find?_eq_some h
  rw [List.mem_range] at h2
  simp only [Bool.and_eq_true, beq_iff_eq, Bool.not_eq_true'] at h1
  exact ⟨h2, h1.1, h1.2.1, h1.2.2⟩
theorem r_idx (hN : 1000000 ≤ N) (R : RI m u w L σ) (W : WQ m) (Wx : WX m) (Wt : WT m u) (hq : q < m 24 0) (Ho : OR σ (place + 1) o) (ho : ∀ p, p ≤ place → o p < m 25 q) (h45 : sP σ 12 0 45 0 = nI ban) (hb : ban < 64) (hpl : place < m 25 q) (hw : way < 8) {K : Int32 → Prop} (h : K (wI_ way (wIdx m q ban o place way))) : z_X12_indexOf N 0 (nI q) (nI place) (nI way) σ K := by
  have w1 := W.1
  have w3 := W.2.2 q hq
  have h1 := Wt.nt
  have hx6 := Wx.1
  have hbo := ho place (Nat.le_refl _)
  have e39 := Ho place (by omega)
  have ht := w3.2.2.2.1 _ hbo
  have e26 : sP σ 12 0 26 (3 * q + o place) = nI (tq m q (o place)) := R.r 26 _ rfl
  have ht' : tq m q (o place) < m 1 0 := ht
  have hcl := Wt.cl ht'
  have fin2 : ∀ x : Option Nat, (∀ k, x = some k → k < 6) → wIdx m q ban o place way = x → ¬ way = 0 → br (oI x = mI) (K m2I) (K (oI x)) := by
    intro x hx e hw0
    rw [e] at h
    unfold wI_ at h
    rw [if_neg hw0] at h
    cases x with
    | none => exact (by rw [u_br_t (show oI none = mI from rfl)]; exact h)
    | some k =>
      have := hx k rfl
      rw [u_br_f (by show ¬ nI k = mI; rw [u_m1 (by omega)]; exact fun h => h)]
      exact h
  have i6 : ∀ t c k, iOn m ban t c = some k → k < 6 := fun t c k h => by have := (iOn_lt h).1; omega
  by_cases h0 : way = 0
  · subst h0
    simp (disch := omega) only [z_X12_indexOf, u_br_True, u_br_False, u_jn_u, u_lt_u, u_nn_s, u_brn_s, u_brn_n, nI_add, u_n_mul, u_n_lt, u_n_le, u_n_eq, u_n_sub, u_n_div, u_n_mod, nI_clamp, u_m1, u_m1q, u_wI_n, u_wA_n, u_br_t, u_br_f, ↓li_m1, li_0, li_1, li_2, li_3, li_4, li_5, li_6, li_7, li_8, li_9, li_10, li_12, li_13, li_26, li_40, li_60, li_61, li_62, li_99, li_100, li_102, li_106, li_114, li_112, li_117, li_108, li_103, li_120, li_300, li_360, li_512, li_1000, e39, b00]
    exact h
  · by_cases h5 : way < 5
    · have hwx : wIdx m q ban o place way = if way ≤ m 27 q ∧ m 28 (4 * q + (way - 1)) = o place then iOn m ban (tq m q (o place)) (m 29 (4 * q + (way - 1))) else none := by
        unfold wIdx; rw [if_neg h0, if_pos h5]
      simp (disch := omega) only [z_X12_indexOf, u_br_True, u_br_False, u_jn_u, u_lt_u, u_nn_s, u_brn_s, u_brn_n, nI_add, u_n_mul, u_n_lt, u_n_le, u_n_eq, u_n_sub, u_n_div, u_n_mod, nI_clamp, u_m1, u_m1q, u_wI_n, u_wA_n, u_br_t, u_br_f, ↓li_m1, li_0, li_1, li_2, li_3, li_4, li_5, li_6, li_7, li_8, li_9, li_10, li_12, li_13, li_26, li_40, li_60, li_61, li_62, li_99, li_100, li_102, li_106, li_114, li_112, li_117, li_108, li_103, li_120, li_300, li_360, li_512, li_1000, (fun j => R.r 27 j rfl), e39]
      by_cases hc : way ≤ m 27 q
      · have ej : 4 * q + way - 1 = 4 * q + (way - 1) := by omega
        obtain ⟨b1, b2, b3, b4⟩ := w3.2.2.2.2.1 (way - 1) (by omega)
        have c1 := Wt.cl (w3.2.2.2.1 _ b1)
        by_cases hp : m 28 (4 * q + (way - 1)) = o place
        · rw [if_pos ⟨hc, hp⟩] at hwx
          rw [hp] at b2
          simp (disch := omega) only [u_br_True, u_br_False, u_jn_u, u_lt_u, u_nn_s, u_brn_s, u_brn_n, nI_add, u_n_mul, u_n_lt, u_n_le, u_n_eq, u_n_sub, u_n_div, u_n_mod, nI_clamp, u_m1, u_m1q, u_wI_n, u_wA_n, u_br_t, u_br_f, ↓li_m1, li_0, li_1, li_2, li_3, li_4, li_5, li_6, li_7, li_8, li_9, li_10, li_12, li_13, li_26, li_40, li_60, li_61, li_62, li_99, li_100, li_102, li_106, li_114, li_112, li_117, li_108, li_103, li_120, li_300, li_360, li_512, li_1000, (fun j => R.r 28 j rfl), (fun j => R.r 29 j rfl), ej, e26, (show tq m q (o place) < 2 ^ 31 by omega)]
          refine r_iOn hN R Wx Wt h45 hb (by omega) (by omega) ?_
          exact fin2 _ (fun k hk => i6 _ _ k hk) hwx h0
        · rw [if_neg (fun h9 => hp h9.2)] at hwx
          simp (disch := omega) only [u_br_True, u_br_False, u_jn_u, u_lt_u, u_nn_s, u_brn_s, u_brn_n, nI_add, u_n_mul, u_n_lt, u_n_le, u_n_eq, u_n_sub, u_n_div, u_n_mod, nI_clamp, u_m1, u_m1q, u_wI_n, u_wA_n, u_br_t, u_br_f, ↓li_m1, li_0, li_1, li_2, li_3, li_4, li_5, li_6, li_7, li_8, li_9, li_10, li_12, li_13, li_26, li_40, li_60, li_61, li_62, li_99, li_100, li_102, li_106, li_114, li_112, li_117, li_108, li_103, li_120, li_300, li_360, li_512, li_1000, (fun j => R.r 28 j rfl), (fun j => R.r 29 j rfl), ej, m1_m1]
          have := fin2 none (fun k hk => by cases hk) hwx h0
          rw [u_br_t (show oI none = mI from rfl)] at this
          exact this
      · rw [if_neg (fun h9 => hc h9.1)] at hwx
        simp (disch := omega) only [u_br_True, u_br_False, u_jn_u, u_lt_u, u_nn_s, u_brn_s, u_brn_n, nI_add, u_n_mul, u_n_lt, u_n_le, u_n_eq, u_n_sub, u_n_div, u_n_mod, nI_clamp, u_m1, u_m1q, u_wI_n, u_wA_n, u_br_t, u_br_f, ↓li_m1, li_0, li_1, li_2, li_3, li_4, li_5, li_6, li_7, li_8, li_9, li_10, li_12, li_13, li_26, li_40, li_60, li_61, li_62, li_99, li_100, li_102, li_106, li_114, li_112, li_117, li_108, li_103, li_120, li_300, li_360, li_512, li_1000, m1_m1]
        have := fin2 none (fun k hk => by cases hk) hwx h0
        rw [u_br_t (show oI none = mI from rfl)] at this
        exact this
    · have hwx : wIdx m q ban o place way = if way - 5 < m 32 q then (own m q o place (way - 5)).bind (iOn m ban (tq m q (o place))) else none := by
        unfold wIdx; rw [if_neg h0, if_neg h5]
      simp (disch := omega) only [z_X12_indexOf, u_br_True, u_br_False, u_jn_u, u_lt_u, u_nn_s, u_brn_s, u_brn_n, nI_add, u_n_mul, u_n_lt, u_n_le, u_n_eq, u_n_sub, u_n_div, u_n_mod, nI_clamp, u_m1, u_m1q, u_wI_n, u_wA_n, u_br_t, u_br_f, ↓li_m1, li_0, li_1, li_2, li_3, li_4, li_5, li_6, li_7, li_8, li_9, li_10, li_12, li_13, li_26, li_40, li_60, li_61, li_62, li_99, li_100, li_102, li_106, li_114, li_112, li_117, li_108, li_103, li_120, li_300, li_360, li_512, li_1000, (fun j => R.r 32 j rfl), e39]
      by_cases hc : way - 5 < m 32 q
      · rw [if_pos hc] at hwx
        rw [u_br_f (by omega), show 3 * q + way - 5 = 3 * q + (way - 5) by omega]
        refine r_own hN R W Wt hq hc Ho ho hpl ?_
        cases hown : own m q o place (way - 5) with
        | none =>
          rw [hown] at hwx
          rw [u_br_t (show oI none = mI from rfl)]
          have := fin2 none (fun k hk => by cases hk) hwx h0
          rw [u_br_t (show oI none = mI from rfl)] at this
          exact this
        | some c =>
          rw [hown] at hwx
          have hlt := own_lt W hq hc hown
          rw [u_br_f (by show ¬ nI c = mI; rw [u_m1 (by omega)]; exact fun h => h), e26]
          refine r_iOn hN R Wx Wt h45 hb (by omega) (by omega) ?_
          exact fin2 _ (fun k hk => i6 _ _ k hk) hwx h0
      · rw [if_neg hc] at hwx
        rw [u_br_t (by omega)]
        have := fin2 none (fun k hk => by cases hk) hwx h0
        rw [u_br_t (show oI none = mI from rfl)] at this
        exact this
end RPLAN
