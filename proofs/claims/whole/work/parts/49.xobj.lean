section XOBJ
variable {m m' : Nat → Nat → Nat} {u u' w : Nat → Int32} {L E : List Nat} {σ σ' σ1 : St} {N kk t c k n : Nat}
/-! loops that run down -/
theorem u_addm {i : Nat} (h : 1 ≤ i) : nI i + mI = nI (i - 1) := by
  have e : nI i = nI (i - 1) + nI 1 := by rw [nI_add]; congr 1; omega
  rw [e, Int32.add_assoc, show nI 1 + mI = 0 by decide, Int32.add_zero]
theorem u_addm0 {i : Nat} : nI i + mI = nI i - nI 1 := by
  rw [Int32.sub_eq_add_neg]
  rfl
theorem down_u {σ1 : Type} {F : (Int32 → σ1 → Prop) → Int32 → σ1 → Prop} {N : Nat} (p n : Nat) (hp : p ≤ n) (hn : n < 2 ^ 31 - 1) (hN : n < N) (I : Nat → σ1 → Prop)
    (step : ∀ (self : Int32 → σ1 → Prop) (i : Nat) (a : σ1), p ≤ i → i ≤ n → I i a → (∀ a', p < i → I (i - 1) a' → self (nI (i - 1)) a') → F self (nI i) a) {a0 : σ1} (h0 : I n a0) : fx2 F N (nI n) a0 := by
  refine fx2_wp (I := fun x a => ∃ i, p ≤ i ∧ i ≤ n ∧ x = nI i ∧ I i a) (μ := fun x _ => tN x) ?_ N (nI n) a0 ⟨n, hp, Nat.le_refl _, rfl, h0⟩ (by rw [u_tN_nI (by omega)]; omega)
  rintro self x a ⟨i, hi1, hi2, rfl, hI⟩ hs
  refine step self i a hi1 hi2 hI (fun a' hlt hI' => hs _ _ ⟨i - 1, by omega, by omega, rfl, hI'⟩ ?_)
  rw [u_tN_nI (by omega), u_tN_nI (by omega)]
  omega
theorem dn_u {σ1 : Type} {F : (Int32 → σ1 → Prop) → Int32 → σ1 → Prop} {N : Nat} (n : Nat) (hn : n < 2 ^ 31 - 1) (hN : n < N) (I : Nat → σ1 → Prop)
    (step : ∀ (self : Int32 → σ1 → Prop) (i : Nat) (a : σ1), i ≤ n → I i a → (∀ a', 0 < i → I (i - 1) a' → self (nI (i - 1) + mI) a') → F self (nI i - nI 1) a) {a0 : σ1} (h0 : I n a0) : fx2 F N (nI n - nI 1) a0 := by
  refine fx2_wp (I := fun x a => ∃ i, i ≤ n ∧ x = nI i - nI 1 ∧ I i a) (μ := fun x _ => tN (x + nI 1)) ?_ N (nI n - nI 1) a0 ⟨n, Nat.le_refl _, rfl, h0⟩ (by rw [Int32.sub_add_cancel, u_tN_nI (by omega)]; omega)
  rintro self x a ⟨i, hi2, rfl, hI⟩ hs
  refine step self i a hi2 hI (fun a' hlt hI' => hs _ _ ⟨i - 1, by omega, u_addm0, hI'⟩ ?_)
  rw [u_addm0, Int32.sub_add_cancel, Int32.sub_add_cancel, u_tN_nI (by omega), u_tN_nI (by omega)]
  omega
theorem dn_v {σ1 : Type} {F : (σ1 → Int32 → Prop) → σ1 → Int32 → Prop} {N : Nat} (n : Nat) (hn : n < 2 ^ 31 - 1) (hN : n < N) (I : Nat → σ1 → Prop)
    (step : ∀ (self : σ1 → Int32 → Prop) (i : Nat) (a : σ1), i ≤ n → I i a → (∀ a', 0 < i → I (i - 1) a' → self a' (nI (i - 1) + mI)) → F self a (nI i - nI 1)) {a0 : σ1} (h0 : I n a0) : fx2 F N a0 (nI n - nI 1) := by
  refine fx2_wp (I := fun a x => ∃ i, i ≤ n ∧ x = nI i - nI 1 ∧ I i a) (μ := fun _ x => tN (x + nI 1)) ?_ N a0 (nI n - nI 1) ⟨n, Nat.le_refl _, rfl, h0⟩ (by rw [Int32.sub_add_cancel, u_tN_nI (by omega)]; omega)
  rintro self a x ⟨i, hi2, rfl, hI⟩ hs
  refine step self i a hi2 hI (fun a' hlt hI' => hs _ _ ⟨i - 1, by omega, u_addm0, hI'⟩ ?_)
  rw [u_addm0, Int32.sub_add_cancel, Int32.sub_add_cancel, u_tN_nI (by omega), u_tN_nI (by omega)]
  omega
theorem for_2 {σ1 σ2 : Type} {F : (σ1 → σ2 → Int32 → Prop) → σ1 → σ2 → Int32 → Prop} {N : Nat} (n : Nat) (hn : n < 2 ^ 31 - 1) (hN : n < N) (I : Nat → σ1 → σ2 → Prop) (m : Nat) (hm : m ≤ n)
    (step : ∀ (self : σ1 → σ2 → Int32 → Prop) (i : Nat) (a : σ1) (b : σ2), i ≤ n → I i a b → (∀ a' b', i < n → I (i + 1) a' b' → self a' b' (nI (i + 1))) → F self a b (nI i)) {a0 : σ1} {b0 : σ2} (h0 : I m a0 b0) : fx3 F N a0 b0 (nI m) := by
  refine fx3_wp (I := fun a b x => ∃ i, i ≤ n ∧ x = nI i ∧ I i a b) (μ := fun _ _ x => n - tN x) ?_ N a0 b0 (nI m) ⟨m, hm, rfl, h0⟩ (by rw [u_tN_nI (by omega)]; omega)
  rintro self a b x ⟨i, hi, rfl, hI⟩ hs
  refine step self i a b hi hI (fun a' b' hlt hI' => hs _ _ _ ⟨i + 1, hlt, rfl, hI'⟩ ?_)
  rw [u_tN_nI (by omega), u_tN_nI (by omega)]
  omega
theorem for_m {σ1 σ2 : Type} {F : (σ1 → Int32 → σ2 → Prop) → σ1 → Int32 → σ2 → Prop} {N : Nat} (n : Nat) (hn : n < 2 ^ 31 - 1) (hN : n < N) (I : Nat → σ1 → σ2 → Prop) (m : Nat) (hm : m ≤ n)
    (step : ∀ (self : σ1 → Int32 → σ2 → Prop) (i : Nat) (a : σ1) (b : σ2), i ≤ n → I i a b → (∀ a' b', i < n → I (i + 1) a' b' → self a' (nI (i + 1)) b') → F self a (nI i) b) {a0 : σ1} {b0 : σ2} (h0 : I m a0 b0) : fx3 F N a0 (nI m) b0 := by
  refine fx3_wp (I := fun a x b => ∃ i, i ≤ n ∧ x = nI i ∧ I i a b) (μ := fun _ x _ => n - tN x) ?_ N a0 (nI m) b0 ⟨m, hm, rfl, h0⟩ (by rw [u_tN_nI (by omega)]; omega)
  rintro self a x b ⟨i, hi, rfl, hI⟩ hs
  refine step self i a b hi hI (fun a' b' hlt hI' => hs _ _ _ ⟨i + 1, hlt, rfl, hI'⟩ ?_)
  rw [u_tN_nI (by omega), u_tN_nI (by omega)]
  omega
/-! lists -/
theorem ins_get : ∀ (E : List Nat) (p j row : Nat), p ≤ E.length → (E.take p ++ row :: E.drop p).getD j 0 = if j < p then E.getD j 0 else if j = p then row else E.getD (j - 1) 0
  | E, 0, 0, row, _ => by simp
  | E, 0, j + 1, row, _ => by simp
  | [], p + 1, j, row, h => by simp at h
  | a :: E, p + 1, 0, row, h => by simp
  | a :: E, p + 1, j + 1, row, h => by
    have := ins_get E p j row (by simpa using h)
    simp only [List.take_succ_cons, List.drop_succ_cons, List.cons_append, List.getD_cons_succ]
    rw [this]
    by_cases h1 : j < p
    · rw [if_pos h1, if_pos (by omega)]
    · rw [if_neg h1]
      by_cases h2 : j = p
      · rw [if_pos h2, if_neg (by omega), if_pos (by omega)]
      · rw [if_neg h2, if_neg (by omega), if_neg (by omega)]
        obtain ⟨i, rfl⟩ : ∃ i, j = i + 1 := ⟨j - 1, by omega⟩
        simp
theorem ins_len {p row : Nat} (h : p ≤ E.length) : (E.take p ++ row :: E.drop p).length = E.length + 1 := by
  simp only [List.length_append, List.length_take, List.length_cons, List.length_drop]
  omega
theorem getD_e {j : Nat} (h : j < E.length) : E.getD j 0 = E[j] := by simp [List.getD_eq_getElem?_getD, h]
theorem getD_mem {j : Nat} (h : j < E.length) : E.getD j 0 ∈ E := by rw [getD_e h]; exact List.getElem_mem h
theorem bne_t {a b : Nat} (h : ¬ a = b) : (!(a == b)) = true := by simp [h]
theorem bne_f {a b : Nat} (h : a = b) : ¬ (!(a == b)) = true := by simp [h]
def cpI (arr : Nat → Int32) (E : List Nat) (keep : Nat → Bool) (i kept : Nat) : Prop :=
  kept = ((E.take i).filter keep).length ∧ (∀ j, j < kept → arr j = nI (((E.take i).filter keep).getD j 0)) ∧ ∀ j, i ≤ j → j < E.length → arr j = nI (E.getD j 0)
theorem cp_0 {arr : Nat → Int32} {keep : Nat → Bool} (h : ∀ j, j < E.length → arr j = nI (E.getD j 0)) : cpI arr E keep 0 0 := ⟨rfl, fun j hj => absurd hj (by omega), fun j _ hj => h j hj⟩
theorem cp_le {arr : Nat → Int32} {keep : Nat → Bool} {i kept : Nat} (h : cpI arr E keep i kept) : kept ≤ i ∧ kept ≤ E.length := by
  have h1 := List.length_filter_le keep (E.take i)
  rw [List.length_take, ← h.1] at h1
  omega
theorem take_s {i : Nat} (h : i < E.length) : E.take (i + 1) = E.take i ++ [E.getD i 0] := by
  rw [List.take_succ, List.getElem?_eq_getElem h, getD_e h]
  rfl
theorem cp_keep {arr arr' : Nat → Int32} {keep : Nat → Bool} {i kept : Nat} (h : cpI arr E keep i kept) (hi : i < E.length) (hk : keep (E.getD i 0) = true) (ha : ∀ j, arr' j = if j = kept then arr i else arr j) : cpI arr' E keep (i + 1) (kept + 1) := by
  have hle := cp_le h
  obtain ⟨h1, h2, h3⟩ := h
  have e : (E.take (i + 1)).filter keep = (E.take i).filter keep ++ [E.getD i 0] := by rw [take_s hi, List.filter_append, List.filter_cons, if_pos hk, List.filter_nil]
  refine ⟨by rw [e, List.length_append, ← h1]; rfl, ?_, ?_⟩
  · intro j hj
    rw [e, ha j, List.getD_eq_getElem?_getD, List.getElem?_append]
    by_cases hjk : j = kept
    · rw [if_pos hjk, ← h1, if_neg (by omega), hjk, h3 i (Nat.le_refl _) hi]
      simp
    · rw [if_neg hjk, ← h1, if_pos (by omega), h2 j (by omega), List.getD_eq_getElem?_getD]
  · intro j hj hj2
    rw [ha j, if_neg (by omega)]
    exact h3 j (by omega) hj2
theorem cp_skip {arr : Nat → Int32} {keep : Nat → Bool} {i kept : Nat} (h : cpI arr E keep i kept) (hi : i < E.length) (hk : ¬ keep (E.getD i 0) = true) : cpI arr E keep (i + 1) kept := by
  obtain ⟨h1, h2, h3⟩ := h
  have e : (E.take (i + 1)).filter keep = (E.take i).filter keep := by rw [take_s hi, List.filter_append, List.filter_cons, if_neg hk, List.filter_nil, List.append_nil]
  refine ⟨by rw [e]; exact h1, ?_, fun j hj hj2 => h3 j (by omega) hj2⟩
  intro j hj
  rw [e]
  exact h2 j hj
theorem cp_end {arr : Nat → Int32} {keep : Nat → Bool} {kept : Nat} (h : cpI arr E keep E.length kept) : kept = (E.filter keep).length ∧ ∀ j, j < kept → arr j = nI ((E.filter keep).getD j 0) := by
  obtain ⟨h1, h2, h3⟩ := h
  rw [List.take_length] at h1 h2
  exact ⟨h1, h2⟩
/-! the class's index objects -/
def XO (σ : St) (k t c : Nat) (E : List Nat) : Prop := sQ σ 3 k 1 0 = some t ∧ sP σ 3 k 2 0 = nI c ∧ sP σ 3 k 4 0 = nI E.length ∧ ∀ j, j < E.length → sP σ 3 k 3 j = nI (E.getD j 0)
def TC (σ : St) (u : Nat → Int32) (t n : Nat) : Prop := ∀ r c, r < n → c < 3 → sP σ 10 t 5 (r * 3 + c) = u (3 * (40 * t + r) + c)
/-- only the list of one index changed -/
def K3 (k : Nat) (σ σ' : St) : Prop := (∀ k' i f j, ¬ (k' = 3 ∧ i = k ∧ (f = 3 ∨ f = 4)) → sP σ' k' i f j = sP σ k' i f j) ∧ sL_ σ' = sL_ σ ∧ sQ σ' = sQ σ ∧ sD_ σ' = sD_ σ ∧ sV σ' = sV σ
theorem CX1.xo (C : CX1 m u σ k) : XO σ k (m 14 k) (m 15 k) (ent m u (m 14 k) (m 15 k)) := ⟨C.2.1, C.2.2.1, C.2.2.2.1, fun j hj => by rw [getD_e hj]; exact C.2.2.2.2 j hj⟩
theorem CX1.of (X : XO σ k (m 14 k) (m 15 k) (ent m u (m 14 k) (m 15 k))) (h : sP σ 3 k 0 0 = nI k) : CX1 m u σ k := ⟨h, X.1, X.2.1, X.2.2.1, fun j hj => by rw [X.2.2.2 j hj, getD_e hj]⟩
theorem CT1.tc (T : CT1 m u σ t) : TC σ u t (m 3 t) := T.2.2.2.2.2.1
theorem K3.refl : K3 k σ σ := ⟨fun _ _ _ _ _ => rfl, rfl, rfl, rfl, rfl⟩
theorem K3.st {f j : Nat} {v : Int32} (h : K3 k σ σ') (hf : f = 3 ∨ f = 4) : K3 k σ (stP σ' 3 k f j v) := by
  refine ⟨fun k' i f' j' hn => ?_, h.2.1, h.2.2.1, h.2.2.2.1, h.2.2.2.2⟩
  rw [sP_stP, if_neg (fun e => hn ⟨e.1, e.2.1, by rw [e.2.2.1]; exact hf⟩)]
  exact h.1 k' i f' j' hn
theorem c_rowAt (X : XO σ k t c E) (hE : E.length ≤ 40) {i : Nat} (hi : i < E.length) {K : Int32 → Prop} : z_X3_rowAt N k (nI i) σ K = K (nI (E.getD i 0)) := by
  simp (disch := omega) only [z_X3_rowAt, u_br_True, u_br_False, u_jn_u, u_lt_u, u_nn_s, u_brn_s, u_brn_n, nI_add, u_n_mul, u_n_lt, u_n_le, u_n_eq, u_n_sub, u_n_div, u_n_mod, nI_clamp, u_m1, u_m1q, u_wI_n, u_wA_n, u_br_t, u_br_f, ↓li_m1, li_0, li_1, li_2, li_3, li_4, li_5, li_6, li_7, li_8, li_9, li_10, li_12, li_13, li_26, li_40, li_60, li_61, li_62, li_99, li_100, li_102, li_106, li_114, li_112, li_117, li_108, li_103, li_120, li_300, li_360, li_512, li_1000, X.2.2.1, X.2.2.2 i hi]
theorem c_rowAtO (X : XO σ k t c E) (hE : E.length ≤ 40) {p : Int32} (hp : Out p E.length) {K : Int32 → Prop} : z_X3_rowAt N k p σ K = K mI := by
  rcases hp with h | ⟨a, ha, h2, rfl⟩
  · simp (disch := omega) only [z_X3_rowAt, u_br_True, u_br_False, u_jn_u, u_lt_u, u_nn_s, u_brn_s, u_brn_n, nI_add, u_n_mul, u_n_lt, u_n_le, u_n_eq, u_n_sub, u_n_div, u_n_mod, nI_clamp, u_m1, u_m1q, u_wI_n, u_wA_n, u_br_t, u_br_f, ↓li_m1, li_0, li_1, li_2, li_3, li_4, li_5, li_6, li_7, li_8, li_9, li_10, li_12, li_13, li_26, li_40, li_60, li_61, li_62, li_99, li_100, li_102, li_106, li_114, li_112, li_117, li_108, li_103, li_120, li_300, li_360, li_512, li_1000, h]
  · simp (disch := omega) only [z_X3_rowAt, u_br_True, u_br_False, u_jn_u, u_lt_u, u_nn_s, u_brn_s, u_brn_n, nI_add, u_n_mul, u_n_lt, u_n_le, u_n_eq, u_n_sub, u_n_div, u_n_mod, nI_clamp, u_m1, u_m1q, u_wI_n, u_wA_n, u_br_t, u_br_f, ↓li_m1, li_0, li_1, li_2, li_3, li_4, li_5, li_6, li_7, li_8, li_9, li_10, li_12, li_13, li_26, li_40, li_60, li_61, li_62, li_99, li_100, li_102, li_106, li_114, li_112, li_117, li_108, li_103, li_120, li_300, li_360, li_512, li_1000, X.2.2.1]
theorem c_cellT (T : TC σ u t n) (hn : n ≤ 40) {r : Nat} (hr : r < n) (hc : c < 3) {K : Int32 → Prop} : z_X10_cell N t (nI r) (nI c) σ K = K (vl u t r c) := by
  simp (disch := omega) only [z_X10_cell, u_br_True, u_br_False, u_jn_u, u_lt_u, u_nn_s, u_brn_s, u_brn_n, ↓li_m1, li_0, li_1, li_2, li_3, li_4, li_5, li_6, li_7, li_8, li_9, li_10, li_12, li_13, li_26, li_40, li_60, li_61, li_62, li_99, li_100, li_102, li_106, li_114, li_112, li_117, li_108, li_103, li_120, li_300, li_360, li_512, li_1000, nI_add, u_n_mul, u_n_lt, u_n_le, u_n_eq, u_n_sub, u_n_div, u_n_mod, nI_clamp, u_m1, u_m1q, u_wI_n, u_wA_n, u_br_t, u_br_f, T r c hr hc, vl]
theorem c_valAt (X : XO σ k t c E) (T : TC σ u t n) (hn : n ≤ 40) (hE : E.length ≤ 40) (hc : c < 3) {i : Nat} (hi : i < E.length) (hr : E.getD i 0 < n) {K : Int32 → Prop} : z_X3_valueAt N k (nI i) σ K = K (vl u t (E.getD i 0) c) := by
  simp (disch := omega) only [z_X3_valueAt, c_rowAt X hE hi, u_br_True, u_br_False, u_jn_u, u_lt_u, u_nn_s, u_brn_s, u_brn_n, nI_add, u_n_mul, u_n_lt, u_n_le, u_n_eq, u_n_sub, u_n_div, u_n_mod, nI_clamp, u_m1, u_m1q, u_wI_n, u_wA_n, u_br_t, u_br_f, ↓li_m1, li_0, li_1, li_2, li_3, li_4, li_5, li_6, li_7, li_8, li_9, li_10, li_12, li_13, li_26, li_40, li_60, li_61, li_62, li_99, li_100, li_102, li_106, li_114, li_112, li_117, li_108, li_103, li_120, li_300, li_360, li_512, li_1000, X.1, X.2.1, c_cellT T hn hr hc]
theorem c_first (hN : 1000000 ≤ N) (X : XO σ k t c E) (T : TC σ u t n) (hn : n ≤ 40) (hE : E.length ≤ 40) (hc : c < 3) (hr : ∀ r ∈ E, r < n) (hV : ∀ r ∈ E, ∃ v, v < 100 ∧ vl u t r c = nI v) {l : Nat} (hl : l < 2 ^ 31) {K : Int32 → Prop} (h : K (nI (ff u t c E l))) : z_X3_firstFrom N k (nI l) σ K := by
  have hle := ff_le (u := u) (t := t) (c := c) (E := E) (l := l)
  unfold z_X3_firstFrom
  refine for_1 (ff u t c E l) (by omega) (by omega) (fun _ => True) 0 (by omega) (fun self i hi _ hs => ?_) trivial
  by_cases hl : i < E.length
  · obtain ⟨v, hv, e⟩ := hV _ (getD_mem hl)
    have h1 := tw_step (p := fun r => decide (tN (vl u t r c) < l)) E i hi hl
    have e2 : tN (vl u t E[i] c) = v := by rw [← getD_e hl, e, u_tN_nI (by omega)]
    simp only [e2, decide_eq_true_eq] at h1
    by_cases hp : v < l
    · rw [if_pos hp] at h1
      simp (disch := omega) only [u_br_True, u_br_False, u_jn_u, u_lt_u, u_nn_s, u_brn_s, u_brn_n, nI_add, u_n_mul, u_n_lt, u_n_le, u_n_eq, u_n_sub, u_n_div, u_n_mod, nI_clamp, u_m1, u_m1q, u_wI_n, u_wA_n, u_br_t, u_br_f, ↓li_m1, li_0, li_1, li_2, li_3, li_4, li_5, li_6, li_7, li_8, li_9, li_10, li_12, li_13, li_26, li_40, li_60, li_61, li_62, li_99, li_100, li_102, li_106, li_114, li_112, li_117, li_108, li_103, li_120, li_300, li_360, li_512, li_1000, X.2.2.1, c_valAt X T hn hE hc hl (hr _ (getD_mem hl)), e]
      exact hs h1 trivial
    · rw [if_neg hp] at h1
      simp (disch := omega) only [u_br_True, u_br_False, u_jn_u, u_lt_u, u_nn_s, u_brn_s, u_brn_n, nI_add, u_n_mul, u_n_lt, u_n_le, u_n_eq, u_n_sub, u_n_div, u_n_mod, nI_clamp, u_m1, u_m1q, u_wI_n, u_wA_n, u_br_t, u_br_f, ↓li_m1, li_0, li_1, li_2, li_3, li_4, li_5, li_6, li_7, li_8, li_9, li_10, li_12, li_13, li_26, li_40, li_60, li_61, li_62, li_99, li_100, li_102, li_106, li_114, li_112, li_117, li_108, li_103, li_120, li_300, li_360, li_512, li_1000, X.2.2.1, c_valAt X T hn hE hc hl (hr _ (getD_mem hl)), e]
      rw [h1]
      exact h
  · simp (disch := omega) only [u_br_True, u_br_False, u_jn_u, u_lt_u, u_nn_s, u_brn_s, u_brn_n, nI_add, u_n_mul, u_n_lt, u_n_le, u_n_eq, u_n_sub, u_n_div, u_n_mod, nI_clamp, u_m1, u_m1q, u_wI_n, u_wA_n, u_br_t, u_br_f, ↓li_m1, li_0, li_1, li_2, li_3, li_4, li_5, li_6, li_7, li_8, li_9, li_10, li_12, li_13, li_26, li_40, li_60, li_61, li_62, li_99, li_100, li_102, li_106, li_114, li_112, li_117, li_108, li_103, li_120, li_300, li_360, li_512, li_1000, X.2.2.1]
    rw [show i = ff u t c E l by omega]
    exact h
theorem XO.k3 {k' : Nat} (X : XO σ k t c E) (h : K3 k' σ σ') (hne : k ≠ k') : XO σ' k t c E := by
  obtain ⟨x1, x2, x3, x4⟩ := X
  refine ⟨by rw [h.2.2.1]; exact x1, ?_, ?_, fun j hj => ?_⟩
  · rw [h.1 3 k 2 0 (fun e => hne e.2.1)]; exact x2
  · rw [h.1 3 k 4 0 (fun e => hne e.2.1)]; exact x3
  · rw [h.1 3 k 3 j (fun e => hne e.2.1)]; exact x4 j hj
theorem TC.k3 {k' : Nat} (T : TC σ u t n) (h : K3 k' σ σ') : TC σ' u t n := fun r c hr hc => by rw [h.1 10 t 5 _ (fun e => absurd e.1 (by decide))]; exact T r c hr hc
/-- a row comes into an index -/
theorem c_addX (hN : 1000000 ≤ N) (X : XO σ k t c E) (T : TC σ u t n) (hn : n ≤ 40) (hE : E.length < 40) (hc : c < 3) (hr : ∀ r ∈ E, r < n) (hV : ∀ r ∈ E, ∃ v, v < 100 ∧ vl u t r c = nI v) {row v : Nat} (hrow : row < n) (hv : v < 100) (ev : vl u t row c = nI v) {K : St → Prop}
    (h : ∀ σ', XO σ' k t c (E.take (ff u t c E (v + 1)) ++ row :: E.drop (ff u t c E (v + 1))) → K3 k σ σ' → K σ') : z_X3_addRow N k (nI row) σ K := by
  have hle := ff_le (u := u) (t := t) (c := c) (E := E) (l := v + 1)
  simp (disch := omega) only [z_X3_addRow, u_br_True, u_br_False, u_jn_u, u_lt_u, u_nn_s, u_brn_s, u_brn_n, nI_add, u_n_mul, u_n_lt, u_n_le, u_n_eq, u_n_sub, u_n_div, u_n_mod, nI_clamp, u_m1, u_m1q, u_wI_n, u_wA_n, u_br_t, u_br_f, ↓li_m1, li_0, li_1, li_2, li_3, li_4, li_5, li_6, li_7, li_8, li_9, li_10, li_12, li_13, li_26, li_40, li_60, li_61, li_62, li_99, li_100, li_102, li_106, li_114, li_112, li_117, li_108, li_103, li_120, li_300, li_360, li_512, li_1000, X.1, X.2.1, X.2.2.1, c_cellT T hn hrow hc, ev]
  refine c_first hN X T hn (by omega) hc hr hV (by omega) ?_
  refine down_u (ff u t c E (v + 1)) E.length hle (by omega) (by omega) (fun i s => K3 k σ s ∧ sP s 3 k 4 0 = nI E.length ∧ ∀ j, sP s 3 k 3 j = if i < j ∧ j ≤ E.length then sP σ 3 k 3 (j - 1) else sP σ 3 k 3 j) (fun self i s h1 h2 hI hs => ?_) ⟨K3.refl, X.2.2.1, fun j => by rw [if_neg (by omega)]⟩
  obtain ⟨i1, i2, i3⟩ := hI
  by_cases hl : i = ff u t c E (v + 1)
  · subst hl
    simp (disch := omega) only [u_br_True, u_br_False, u_jn_u, u_lt_u, u_nn_s, u_brn_s, u_brn_n, nI_add, u_n_mul, u_n_lt, u_n_le, u_n_eq, u_n_sub, u_n_div, u_n_mod, nI_clamp, u_m1, u_m1q, u_wI_n, u_wA_n, u_br_t, u_br_f, ↓li_m1, li_0, li_1, li_2, li_3, li_4, li_5, li_6, li_7, li_8, li_9, li_10, li_12, li_13, li_26, li_40, li_60, li_61, li_62, li_99, li_100, li_102, li_106, li_114, li_112, li_117, li_108, li_103, li_120, li_300, li_360, li_512, li_1000, sP_stP, Nat.reduceEqDiff, true_and, and_true, false_and, and_false, if_true, if_false, eq_self, and_self, Nat.reduceLT, Nat.reduceLeDiff, Nat.reduceAdd, Nat.reduceMul, Nat.reduceDiv, Nat.one_ne_zero, i2]
    refine h _ ?_ ((i1.st (Or.inl rfl)).st (Or.inr rfl))
    refine ⟨?_, ?_, ?_, ?_⟩
    · simp only [sQ_stP]; rw [i1.2.2.1]; exact X.1
    · simp only [sP_stP, Nat.reduceEqDiff, true_and, and_true, false_and, and_false, if_true, if_false, eq_self, and_self, Nat.reduceLT, Nat.reduceLeDiff, Nat.reduceAdd, Nat.reduceMul, Nat.reduceDiv, Nat.one_ne_zero]; rw [i1.1 3 k 2 0 (by omega)]; exact X.2.1
    · rw [ins_len hle]; simp only [sP_stP, Nat.reduceEqDiff, true_and, and_true, false_and, and_false, if_true, if_false, eq_self, and_self, Nat.reduceLT, Nat.reduceLeDiff, Nat.reduceAdd, Nat.reduceMul, Nat.reduceDiv, Nat.one_ne_zero]
    · intro j hj
      rw [ins_len hle] at hj
      rw [ins_get E _ j row hle]
      simp only [sP_stP, Nat.reduceEqDiff, true_and, and_true, false_and, and_false, if_true, if_false, eq_self, and_self, Nat.reduceLT, Nat.reduceLeDiff, Nat.reduceAdd, Nat.reduceMul, Nat.reduceDiv, Nat.one_ne_zero]
      by_cases h3 : j = ff u t c E (v + 1)
      · rw [if_pos h3, if_neg (by omega), if_pos h3]
      · rw [if_neg h3, i3 j, if_neg h3]
        by_cases h4 : j < ff u t c E (v + 1)
        · rw [if_pos h4, if_neg (by omega)]
          exact X.2.2.2 j (by omega)
        · rw [if_neg h4, if_pos (by omega)]
          exact X.2.2.2 (j - 1) (by omega)
  · simp (disch := omega) only [u_br_True, u_br_False, u_jn_u, u_lt_u, u_nn_s, u_brn_s, u_brn_n, nI_add, u_n_mul, u_n_lt, u_n_le, u_n_eq, u_n_sub, u_n_div, u_n_mod, nI_clamp, u_m1, u_m1q, u_wI_n, u_wA_n, u_br_t, u_br_f, ↓li_m1, li_0, li_1, li_2, li_3, li_4, li_5, li_6, li_7, li_8, li_9, li_10, li_12, li_13, li_26, li_40, li_60, li_61, li_62, li_99, li_100, li_102, li_106, li_114, li_112, li_117, li_108, li_103, li_120, li_300, li_360, li_512, li_1000, u_addm]
    refine hs _ (by omega) ⟨i1.st (Or.inl rfl), by simp only [sP_stP, Nat.reduceEqDiff, true_and, and_true, false_and, and_false, if_true, if_false, eq_self, and_self, Nat.reduceLT, Nat.reduceLeDiff, Nat.reduceAdd, Nat.reduceMul, Nat.reduceDiv, Nat.one_ne_zero]; exact i2, fun j => ?_⟩
    simp only [sP_stP, Nat.reduceEqDiff, true_and, and_true, false_and, and_false, if_true, if_false, eq_self, and_self, Nat.reduceLT, Nat.reduceLeDiff, Nat.reduceAdd, Nat.reduceMul, Nat.reduceDiv, Nat.one_ne_zero]
    by_cases hj : j = i
    · rw [if_pos hj, i3, if_neg (by omega), if_pos (by omega), hj]
    · rw [if_neg hj, i3]
      by_cases h4 : i < j ∧ j ≤ E.length
      · rw [if_pos h4, if_pos (by omega)]
      · rw [if_neg h4, if_neg (by omega)]
/-- a row leaves an index -/
theorem c_dropX (hN : 1000000 ≤ N) (X : XO σ k t c E) (hE : E.length ≤ 40) (hr : ∀ r ∈ E, r < 40) {row : Nat} (hrow : row < 40) {K : St → Prop}
    (h : ∀ σ', XO σ' k t c (E.filter (fun r => !(r == row))) → K3 k σ σ' → K σ') : z_X3_dropRow N k (nI row) σ K := by
  unfold z_X3_dropRow
  refine for_m E.length (by omega) (by omega) (fun i x s => K3 k σ s ∧ sP s 3 k 4 0 = nI E.length ∧ ∃ kept, x = nI kept ∧ cpI (fun j => sP s 3 k 3 j) E (fun r => !(r == row)) i kept) 0 (by omega) (fun self i x s hi hI hs => ?_) ⟨K3.refl, X.2.2.1, 0, rfl, cp_0 X.2.2.2⟩
  obtain ⟨i1, i2, kept, rfl, i3⟩ := hI
  have hle := cp_le i3
  by_cases hl : i < E.length
  · have e := i3.2.2 i (Nat.le_refl _) hl
    have hr40 := hr _ (getD_mem hl)
    simp only at e
    by_cases hd : E.getD i 0 = row
    · simp (disch := omega) only [u_br_True, u_br_False, u_jn_u, u_lt_u, u_nn_s, u_brn_s, u_brn_n, nI_add, u_n_mul, u_n_lt, u_n_le, u_n_eq, u_n_sub, u_n_div, u_n_mod, nI_clamp, u_m1, u_m1q, u_wI_n, u_wA_n, u_br_t, u_br_f, ↓li_m1, li_0, li_1, li_2, li_3, li_4, li_5, li_6, li_7, li_8, li_9, li_10, li_12, li_13, li_26, li_40, li_60, li_61, li_62, li_99, li_100, li_102, li_106, li_114, li_112, li_117, li_108, li_103, li_120, li_300, li_360, li_512, li_1000, i2, e]
      exact hs _ _ hl ⟨i1, i2, kept, rfl, cp_skip i3 hl (bne_f hd)⟩
    · simp (disch := omega) only [u_br_True, u_br_False, u_jn_u, u_lt_u, u_nn_s, u_brn_s, u_brn_n, nI_add, u_n_mul, u_n_lt, u_n_le, u_n_eq, u_n_sub, u_n_div, u_n_mod, nI_clamp, u_m1, u_m1q, u_wI_n, u_wA_n, u_br_t, u_br_f, ↓li_m1, li_0, li_1, li_2, li_3, li_4, li_5, li_6, li_7, li_8, li_9, li_10, li_12, li_13, li_26, li_40, li_60, li_61, li_62, li_99, li_100, li_102, li_106, li_114, li_112, li_117, li_108, li_103, li_120, li_300, li_360, li_512, li_1000, i2, e]
      refine hs _ _ hl ⟨i1.st (Or.inl rfl), by simp only [sP_stP, Nat.reduceEqDiff, true_and, and_true, false_and, and_false, if_true, if_false, eq_self, and_self, Nat.reduceLT, Nat.reduceLeDiff, Nat.reduceAdd, Nat.reduceMul, Nat.reduceDiv, Nat.one_ne_zero]; exact i2, kept + 1, rfl, cp_keep i3 hl (bne_t hd) (fun j => ?_)⟩
      simp only [sP_stP, Nat.reduceEqDiff, true_and, and_true, false_and, and_false, if_true, if_false, eq_self, and_self, Nat.reduceLT, Nat.reduceLeDiff, Nat.reduceAdd, Nat.reduceMul, Nat.reduceDiv, Nat.one_ne_zero]
      split
      · exact e.symm
      · rfl
  · have hi2 : i = E.length := by omega
    subst hi2
    obtain ⟨e1, e2⟩ := cp_end i3
    simp (disch := omega) only [u_br_True, u_br_False, u_jn_u, u_lt_u, u_nn_s, u_brn_s, u_brn_n, nI_add, u_n_mul, u_n_lt, u_n_le, u_n_eq, u_n_sub, u_n_div, u_n_mod, nI_clamp, u_m1, u_m1q, u_wI_n, u_wA_n, u_br_t, u_br_f, ↓li_m1, li_0, li_1, li_2, li_3, li_4, li_5, li_6, li_7, li_8, li_9, li_10, li_12, li_13, li_26, li_40, li_60, li_61, li_62, li_99, li_100, li_102, li_106, li_114, li_112, li_117, li_108, li_103, li_120, li_300, li_360, li_512, li_1000, i2]
    refine h _ ⟨?_, ?_, ?_, ?_⟩ (i1.st (Or.inr rfl))
    · simp only [sQ_stP]; rw [i1.2.2.1]; exact X.1
    · simp only [sP_stP, Nat.reduceEqDiff, true_and, and_true, false_and, and_false, if_true, if_false, eq_self, and_self, Nat.reduceLT, Nat.reduceLeDiff, Nat.reduceAdd, Nat.reduceMul, Nat.reduceDiv, Nat.one_ne_zero]; rw [i1.1 3 k 2 0 (by omega)]; exact X.2.1
    · simp only [sP_stP, Nat.reduceEqDiff, true_and, and_true, false_and, and_false, if_true, if_false, eq_self, and_self, Nat.reduceLT, Nat.reduceLeDiff, Nat.reduceAdd, Nat.reduceMul, Nat.reduceDiv, Nat.one_ne_zero]; rw [e1]
    · intro j hj
      simp only [sP_stP, Nat.reduceEqDiff, true_and, and_true, false_and, and_false, if_true, if_false, eq_self, and_self, Nat.reduceLT, Nat.reduceLeDiff, Nat.reduceAdd, Nat.reduceMul, Nat.reduceDiv, Nat.one_ne_zero]
      exact e2 j (by omega)
end XOBJ
