/-! LEVEL 2b: tables, read only calls -/
section TAB
variable {m : Nat → Nat → Nat} {u w : Nat → Int32} {L : List Nat} {σ σ' : St} {N kk : Nat}
def Out (p : Int32) (n : Nat) : Prop := p < nI 0 ∨ ∃ a, a < 2 ^ 31 ∧ n ≤ a ∧ p = nI a
theorem u_io (p : Int32) (n : Nat) : (∃ a, a < n ∧ a < 2 ^ 31 ∧ p = nI a) ∨ Out p n := by
  rcases u_or p with h | ⟨a, ha, rfl⟩
  · exact Or.inr (Or.inl h)
  · by_cases h : a < n
    · exact Or.inl ⟨a, h, ha, rfl⟩
    · exact Or.inr (Or.inr ⟨a, ha, by omega, rfl⟩)
theorem r_inO {p : Int32} {n : Nat} (h : Out p n) (hn : n < 2 ^ 31) {K : Int32 → Prop} : z_X12_in N p (nI 0) (nI n - nI 1) σ K = K (nI 0) := by
  rcases h with h | ⟨a, ha, h2, rfl⟩
  · exact r_inN h
  · exact r_inPF ha hn h2
theorem r_inO2 {p : Int32} {n : Nat} (h : Out p (n + 1)) (hn : n < 1000) {K : Int32 → Prop} : z_X12_in N p (nI 0) (nI n) σ K = K (nI 0) := by
  rcases h with h | ⟨a, ha, h2, rfl⟩
  · exact r_inN h
  · exact r_inH ha (by omega) (by omega)
theorem WT.nt (W : WT m u) : m 1 0 ≤ 3 := W.1
theorem WT.cl (W : WT m u) {t : Nat} (h : t < m 1 0) : 1 ≤ m 2 t ∧ m 2 t ≤ 3 := W.2.2.1 t h
theorem r_isTO (R : RI m u w L σ) (W : WT m u) {p : Int32} (h : Out p (m 1 0)) {K : Int32 → Prop} : z_X12_isTable N 0 p σ K = K (nI 0) := by
  have := W.nt
  simp (disch := omega) only [z_X12_isTable, (fun j => R.r 1 j rfl), ↓li_m1, li_0, li_1, li_2, li_3, li_4, li_5, li_6, li_7, li_8, li_9, li_10, li_12, li_13, li_26, li_40, li_60, li_61, li_62, li_99, li_100, li_102, li_106, li_114, li_112, li_117, li_108, li_103, li_120, li_300, li_360, li_512, li_1000, r_inO h, b10, b00, f_0, f_1, u_okT, u_nb_0, u_nb_1]
theorem r_isT (R : RI m u w L σ) (W : WT m u) {t : Nat} (h : t < m 1 0) {K : Int32 → Prop} : z_X12_isTable N 0 (nI t) σ K = K (nI 1) := by
  have := W.nt
  simp (disch := omega) only [z_X12_isTable, (fun j => R.r 1 j rfl), ↓li_m1, li_0, li_1, li_2, li_3, li_4, li_5, li_6, li_7, li_8, li_9, li_10, li_12, li_13, li_26, li_40, li_60, li_61, li_62, li_99, li_100, li_102, li_106, li_114, li_112, li_117, li_108, li_103, li_120, li_300, li_360, li_512, li_1000, nI_add, u_n_mul, u_n_lt, u_n_le, u_n_eq, u_n_sub, u_n_div, u_n_mod, nI_clamp, u_m1, u_m1q, u_wI_n, u_wA_n, u_br_t, u_br_f, r_inT, r_inL, r_inH, r_inPT, r_inPF, b10, b00, f_0, f_1, u_okT, u_nb_0, u_nb_1]
theorem r_isXO (R : RI m u w L σ) (W : WX m) {p : Int32} (h : Out p (m 13 0)) {K : Int32 → Prop} : z_X12_isIndex N 0 p σ K = K (nI 0) := by
  have := W.1
  simp (disch := omega) only [z_X12_isIndex, (fun j => R.r 13 j rfl), ↓li_m1, li_0, li_1, li_2, li_3, li_4, li_5, li_6, li_7, li_8, li_9, li_10, li_12, li_13, li_26, li_40, li_60, li_61, li_62, li_99, li_100, li_102, li_106, li_114, li_112, li_117, li_108, li_103, li_120, li_300, li_360, li_512, li_1000, r_inO h, b10, b00, f_0, f_1, u_okT, u_nb_0, u_nb_1]
theorem r_isX (R : RI m u w L σ) (W : WX m) {t : Nat} (h : t < m 13 0) {K : Int32 → Prop} : z_X12_isIndex N 0 (nI t) σ K = K (nI 1) := by
  have := W.1
  simp (disch := omega) only [z_X12_isIndex, (fun j => R.r 13 j rfl), ↓li_m1, li_0, li_1, li_2, li_3, li_4, li_5, li_6, li_7, li_8, li_9, li_10, li_12, li_13, li_26, li_40, li_60, li_61, li_62, li_99, li_100, li_102, li_106, li_114, li_112, li_117, li_108, li_103, li_120, li_300, li_360, li_512, li_1000, nI_add, u_n_mul, u_n_lt, u_n_le, u_n_eq, u_n_sub, u_n_div, u_n_mod, nI_clamp, u_m1, u_m1q, u_wI_n, u_wA_n, u_br_t, u_br_f, r_inT, r_inL, r_inH, r_inPT, r_inPF, b10, b00, f_0, f_1, u_okT, u_nb_0, u_nb_1]
theorem r_isC (R : RI m u w L σ) (W : WT m u) {t c : Nat} (h : t < m 1 0) (hc : c < m 2 t) {K : Int32 → Prop} : z_X12_isColumn N 0 (nI t) (nI c) σ K = K (nI 1) := by
  have := W.nt
  have := W.cl h
  simp (disch := omega) only [z_X12_isColumn, u_br_True, u_br_False, u_jn_u, u_lt_u, u_nn_s, u_brn_s, u_brn_n, r_isT R W h, (fun j => R.r 2 j rfl), ↓li_m1, li_0, li_1, li_2, li_3, li_4, li_5, li_6, li_7, li_8, li_9, li_10, li_12, li_13, li_26, li_40, li_60, li_61, li_62, li_99, li_100, li_102, li_106, li_114, li_112, li_117, li_108, li_103, li_120, li_300, li_360, li_512, li_1000, nI_add, u_n_mul, u_n_lt, u_n_le, u_n_eq, u_n_sub, u_n_div, u_n_mod, nI_clamp, u_m1, u_m1q, u_wI_n, u_wA_n, u_br_t, u_br_f, r_inT, r_inL, r_inH, r_inPT, r_inPF, b10, b00, f_0, f_1, u_okT, u_nb_0, u_nb_1]
theorem r_isCO (R : RI m u w L σ) (W : WT m u) {t : Nat} {p : Int32} (h : t < m 1 0) (hc : Out p (m 2 t)) {K : Int32 → Prop} : z_X12_isColumn N 0 (nI t) p σ K = K (nI 0) := by
  have := W.nt
  have := W.cl h
  rcases hc with hc | ⟨a, ha, h2, rfl⟩
  · simp (disch := omega) only [z_X12_isColumn, u_br_True, u_br_False, u_jn_u, u_lt_u, u_nn_s, u_brn_s, u_brn_n, r_isT R W h, (fun j => R.r 2 j rfl), ↓li_m1, li_0, li_1, li_2, li_3, li_4, li_5, li_6, li_7, li_8, li_9, li_10, li_12, li_13, li_26, li_40, li_60, li_61, li_62, li_99, li_100, li_102, li_106, li_114, li_112, li_117, li_108, li_103, li_120, li_300, li_360, li_512, li_1000, r_inN hc, nI_add, u_n_mul, u_n_lt, u_n_le, u_n_eq, u_n_sub, u_n_div, u_n_mod, nI_clamp, u_m1, u_m1q, u_wI_n, u_wA_n, u_br_t, u_br_f, b10, b00, f_0, f_1, u_okT, u_nb_0, u_nb_1]
  · simp (disch := omega) only [z_X12_isColumn, u_br_True, u_br_False, u_jn_u, u_lt_u, u_nn_s, u_brn_s, u_brn_n, r_isT R W h, (fun j => R.r 2 j rfl), ↓li_m1, li_0, li_1, li_2, li_3, li_4, li_5, li_6, li_7, li_8, li_9, li_10, li_12, li_13, li_26, li_40, li_60, li_61, li_62, li_99, li_100, li_102, li_106, li_114, li_112, li_117, li_108, li_103, li_120, li_300, li_360, li_512, li_1000, nI_add, u_n_mul, u_n_lt, u_n_le, u_n_eq, u_n_sub, u_n_div, u_n_mod, nI_clamp, u_m1, u_m1q, u_wI_n, u_wA_n, u_br_t, u_br_f, r_inT, r_inL, r_inH, r_inPT, r_inPF, b10, b00, f_0, f_1, u_okT, u_nb_0, u_nb_1]
theorem r_hasRow (R : RI m u w L σ) {t r : Nat} (ht : t < 3) (hr : r < 40) (h3 : m 3 t ≤ 40) (h4 : m 4 (40 * t + r) ≤ 1) (h5 : m 3 t ≤ r → m 4 (40 * t + r) = 0) {K : Int32 → Prop} : z_X12_hasRow N 0 (nI t) (nI r) σ K = K (if th m t r = true then nI 1 else nI 0) := by
  by_cases h : r < m 3 t
  · by_cases h6 : m 4 (40 * t + r) = 0
    · have : ¬ th m t r = true := by simp [th, h6]
      rw [if_neg this]
      simp (disch := omega) only [z_X12_hasRow, u_br_True, u_br_False, u_jn_u, u_lt_u, u_nn_s, u_brn_s, u_brn_n, ↓li_m1, li_0, li_1, li_2, li_3, li_4, li_5, li_6, li_7, li_8, li_9, li_10, li_12, li_13, li_26, li_40, li_60, li_61, li_62, li_99, li_100, li_102, li_106, li_114, li_112, li_117, li_108, li_103, li_120, li_300, li_360, li_512, li_1000, nI_add, u_n_mul, u_n_lt, u_n_le, u_n_eq, u_n_sub, u_n_div, u_n_mod, nI_clamp, u_m1, u_m1q, u_wI_n, u_wA_n, u_br_t, u_br_f, r_inT, r_inL, r_inH, r_inPT, r_inPF, b10, b00, f_0, f_1, u_okT, u_nb_0, u_nb_1, (fun j => R.r 3 j rfl), (fun j => R.r 4 j rfl)]
    · have : th m t r = true := by simp [th, h6]
      rw [if_pos this]
      simp (disch := omega) only [z_X12_hasRow, u_br_True, u_br_False, u_jn_u, u_lt_u, u_nn_s, u_brn_s, u_brn_n, ↓li_m1, li_0, li_1, li_2, li_3, li_4, li_5, li_6, li_7, li_8, li_9, li_10, li_12, li_13, li_26, li_40, li_60, li_61, li_62, li_99, li_100, li_102, li_106, li_114, li_112, li_117, li_108, li_103, li_120, li_300, li_360, li_512, li_1000, nI_add, u_n_mul, u_n_lt, u_n_le, u_n_eq, u_n_sub, u_n_div, u_n_mod, nI_clamp, u_m1, u_m1q, u_wI_n, u_wA_n, u_br_t, u_br_f, r_inT, r_inL, r_inH, r_inPT, r_inPF, b10, b00, f_0, f_1, u_okT, u_nb_0, u_nb_1, (fun j => R.r 3 j rfl), (fun j => R.r 4 j rfl)]
  · have : ¬ th m t r = true := by simp [th, h5 (by omega)]
    rw [if_neg this]
    by_cases h0 : m 3 t = 0
    · have h9 : z_X12_in N (nI r) (nI 0) (nI 0 - nI 1) σ (fun v3 => br (v3 = nI 0) (K (nI 0)) (wI 120 (nI (40 * t + r)) <| br (nI (m 4 (40 * t + r)) = nI 0) (K (nI 0)) (K (nI 1)))) = _ := r_inPF (by omega) (by omega) (by omega)
      simp (disch := omega) only [z_X12_hasRow, u_br_True, u_br_False, u_jn_u, u_lt_u, u_nn_s, u_brn_s, u_brn_n, ↓li_m1, li_0, li_1, li_2, li_3, li_4, li_5, li_6, li_7, li_8, li_9, li_10, li_12, li_13, li_26, li_40, li_60, li_61, li_62, li_99, li_100, li_102, li_106, li_114, li_112, li_117, li_108, li_103, li_120, li_300, li_360, li_512, li_1000, u_wI_n, nI_clamp, u_n_mul, nI_add, h0, (fun j => R.r 3 j rfl), (fun j => R.r 4 j rfl)]
      simp (disch := omega) only [u_wI_n, nI_clamp, u_n_mul, nI_add, (fun j => R.r 3 j rfl), (fun j => R.r 4 j rfl)] at h9
      rw [h9, u_br_True]
    · simp (disch := omega) only [z_X12_hasRow, u_br_True, u_br_False, u_jn_u, u_lt_u, u_nn_s, u_brn_s, u_brn_n, ↓li_m1, li_0, li_1, li_2, li_3, li_4, li_5, li_6, li_7, li_8, li_9, li_10, li_12, li_13, li_26, li_40, li_60, li_61, li_62, li_99, li_100, li_102, li_106, li_114, li_112, li_117, li_108, li_103, li_120, li_300, li_360, li_512, li_1000, nI_add, u_n_mul, u_n_lt, u_n_le, u_n_eq, u_n_sub, u_n_div, u_n_mod, nI_clamp, u_m1, u_m1q, u_wI_n, u_wA_n, u_br_t, u_br_f, r_inT, r_inL, r_inH, r_inPT, r_inPF, b10, b00, f_0, f_1, u_okT, u_nb_0, u_nb_1, (fun j => R.r 3 j rfl), (fun j => R.r 4 j rfl)]
/-- the facts of one table's row -/
theorem WT.row (W : WT m u) {t r : Nat} (ht : t < 3) (hr : r < 40) : m 3 t ≤ 40 ∧ m 4 (40 * t + r) ≤ 1 ∧ (m 3 t ≤ r → m 4 (40 * t + r) = 0) := ⟨W.2.2.2.1 t ht, W.2.2.2.2.1 t r ht hr, W.2.2.2.2.2.1 t r ht hr⟩
theorem WT.th_lt (W : WT m u) {t r : Nat} (ht : t < 3) (hr : r < 40) (h : th m t r = true) : r < m 3 t := by
  apply Nat.lt_of_not_le
  intro h2
  have := (W.row ht hr).2.2 h2
  simp [th, this] at h
theorem r_hasR (R : RI m u w L σ) (W : WT m u) {t r : Nat} (ht : t < 3) (hr : r < 40) {K : Int32 → Prop} : z_X12_hasRow N 0 (nI t) (nI r) σ K = K (if th m t r = true then nI 1 else nI 0) := r_hasRow R ht hr (W.row ht hr).1 (W.row ht hr).2.1 (W.row ht hr).2.2
theorem r_hasRO (R : RI m u w L σ) (W : WT m u) {t : Nat} {p : Int32} (ht : t < 3) (hp : Out p 40) {K : Int32 → Prop} : z_X12_hasRow N 0 (nI t) p σ K = K (nI 0) := by
  have h3 := W.2.2.2.1 t ht
  have hO : Out p (m 3 t) := by
    rcases hp with hp | ⟨a, ha, h2, rfl⟩
    · exact Or.inl hp
    · exact Or.inr ⟨a, ha, by omega, rfl⟩
  simp (disch := omega) only [z_X12_hasRow, u_br_True, u_br_False, u_jn_u, u_lt_u, u_nn_s, u_brn_s, u_brn_n, ↓li_m1, li_0, li_1, li_2, li_3, li_4, li_5, li_6, li_7, li_8, li_9, li_10, li_12, li_13, li_26, li_40, li_60, li_61, li_62, li_99, li_100, li_102, li_106, li_114, li_112, li_117, li_108, li_103, li_120, li_300, li_360, li_512, li_1000, u_wI_n, nI_clamp, r_inO hO, b00, (fun j => R.r 3 j rfl)]
theorem r_at (R : RI m u w L σ) {t r c : Nat} (ht : t < 3) (hr : r < 40) (hc : c < 3) {K : Int32 → Prop} : z_X12_at N 0 (nI t) (nI r) (nI c) σ K = K (vl u t r c) := by
  simp (disch := omega) only [z_X12_at, ↓li_m1, li_0, li_1, li_2, li_3, li_4, li_5, li_6, li_7, li_8, li_9, li_10, li_12, li_13, li_26, li_40, li_60, li_61, li_62, li_99, li_100, li_102, li_106, li_114, li_112, li_117, li_108, li_103, li_120, li_300, li_360, li_512, li_1000, nI_add, u_n_mul, u_n_lt, u_n_le, u_n_eq, u_n_sub, u_n_div, u_n_mod, nI_clamp, u_m1, u_m1q, u_wI_n, u_wA_n, u_br_t, u_br_f, R.2.1, vl]
/-! the class -/
theorem c_needT (C : C0 σ) (T : CT m u σ) (W : WT m u) {t : Nat} (h : t < m 1 0) {K : Option Nat → St → Prop} {KX : String → St → Prop} : z_X11_needTable N 0 (nI t) σ K KX = K (some t) σ := by
  unfold C0 at C
  have := W.nt
  have e := T.2.2.1 t (by omega)
  rw [if_pos h] at e
  simp (disch := omega) only [z_X11_needTable, z_X9_tableAt, u_br_True, u_br_False, u_jn_u, u_lt_u, u_nn_s, u_brn_s, u_brn_n, ↓li_m1, li_0, li_1, li_2, li_3, li_4, li_5, li_6, li_7, li_8, li_9, li_10, li_12, li_13, li_26, li_40, li_60, li_61, li_62, li_99, li_100, li_102, li_106, li_114, li_112, li_117, li_108, li_103, li_120, li_300, li_360, li_512, li_1000, nI_add, u_n_mul, u_n_lt, u_n_le, u_n_eq, u_n_sub, u_n_div, u_n_mod, nI_clamp, u_m1, u_m1q, u_wI_n, u_wA_n, u_br_t, u_br_f, C, e]
theorem c_needTO (C : C0 σ) (T : CT m u σ) (W : WT m u) {p : Int32} (h : Out p (m 1 0)) {K : Option Nat → St → Prop} {KX : String → St → Prop} : z_X11_needTable N 0 p σ K KX = KX "java/lang/IndexOutOfBoundsException" σ := by
  unfold C0 at C
  have := W.nt
  rcases h with h | ⟨a, ha, h2, rfl⟩
  · simp (disch := omega) only [z_X11_needTable, z_X9_tableAt, u_br_True, u_br_False, u_jn_u, u_lt_u, u_nn_s, u_brn_s, u_brn_n, ↓li_m1, li_0, li_1, li_2, li_3, li_4, li_5, li_6, li_7, li_8, li_9, li_10, li_12, li_13, li_26, li_40, li_60, li_61, li_62, li_99, li_100, li_102, li_106, li_114, li_112, li_117, li_108, li_103, li_120, li_300, li_360, li_512, li_1000, nI_add, u_n_mul, u_n_lt, u_n_le, u_n_eq, u_n_sub, u_n_div, u_n_mod, nI_clamp, u_m1, u_m1q, u_wI_n, u_wA_n, u_br_t, u_br_f, C, h]
  · by_cases h3 : 3 ≤ a
    · simp (disch := omega) only [z_X11_needTable, z_X9_tableAt, u_br_True, u_br_False, u_jn_u, u_lt_u, u_nn_s, u_brn_s, u_brn_n, ↓li_m1, li_0, li_1, li_2, li_3, li_4, li_5, li_6, li_7, li_8, li_9, li_10, li_12, li_13, li_26, li_40, li_60, li_61, li_62, li_99, li_100, li_102, li_106, li_114, li_112, li_117, li_108, li_103, li_120, li_300, li_360, li_512, li_1000, nI_add, u_n_mul, u_n_lt, u_n_le, u_n_eq, u_n_sub, u_n_div, u_n_mod, nI_clamp, u_m1, u_m1q, u_wI_n, u_wA_n, u_br_t, u_br_f, C]
    · have e := T.2.2.1 a (by omega)
      rw [if_neg (by omega)] at e
      simp (disch := omega) only [z_X11_needTable, z_X9_tableAt, u_br_True, u_br_False, u_jn_u, u_lt_u, u_nn_s, u_brn_s, u_brn_n, ↓li_m1, li_0, li_1, li_2, li_3, li_4, li_5, li_6, li_7, li_8, li_9, li_10, li_12, li_13, li_26, li_40, li_60, li_61, li_62, li_99, li_100, li_102, li_106, li_114, li_112, li_117, li_108, li_103, li_120, li_300, li_360, li_512, li_1000, nI_add, u_n_mul, u_n_lt, u_n_le, u_n_eq, u_n_sub, u_n_div, u_n_mod, nI_clamp, u_m1, u_m1q, u_wI_n, u_wA_n, u_br_t, u_br_f, C, e]
theorem c_needX (C : C0 σ) (T : CX m u σ) (W : WX m) {t : Nat} (h : t < m 13 0) {K : Option Nat → St → Prop} {KX : String → St → Prop} : z_X11_needIndex N 0 (nI t) σ K KX = K (some t) σ := by
  unfold C0 at C
  have := W.1
  have e := T.2.2.1 t (by omega)
  rw [if_pos h] at e
  simp (disch := omega) only [z_X11_needIndex, z_X9_indexAt, u_br_True, u_br_False, u_jn_u, u_lt_u, u_nn_s, u_brn_s, u_brn_n, ↓li_m1, li_0, li_1, li_2, li_3, li_4, li_5, li_6, li_7, li_8, li_9, li_10, li_12, li_13, li_26, li_40, li_60, li_61, li_62, li_99, li_100, li_102, li_106, li_114, li_112, li_117, li_108, li_103, li_120, li_300, li_360, li_512, li_1000, nI_add, u_n_mul, u_n_lt, u_n_le, u_n_eq, u_n_sub, u_n_div, u_n_mod, nI_clamp, u_m1, u_m1q, u_wI_n, u_wA_n, u_br_t, u_br_f, C, e]
theorem c_needXO (C : C0 σ) (T : CX m u σ) (W : WX m) {p : Int32} (h : Out p (m 13 0)) {K : Option Nat → St → Prop} {KX : String → St → Prop} : z_X11_needIndex N 0 p σ K KX = KX "java/lang/IndexOutOfBoundsException" σ := by
  unfold C0 at C
  have := W.1
  rcases h with h | ⟨a, ha, h2, rfl⟩
  · simp (disch := omega) only [z_X11_needIndex, z_X9_indexAt, u_br_True, u_br_False, u_jn_u, u_lt_u, u_nn_s, u_brn_s, u_brn_n, ↓li_m1, li_0, li_1, li_2, li_3, li_4, li_5, li_6, li_7, li_8, li_9, li_10, li_12, li_13, li_26, li_40, li_60, li_61, li_62, li_99, li_100, li_102, li_106, li_114, li_112, li_117, li_108, li_103, li_120, li_300, li_360, li_512, li_1000, nI_add, u_n_mul, u_n_lt, u_n_le, u_n_eq, u_n_sub, u_n_div, u_n_mod, nI_clamp, u_m1, u_m1q, u_wI_n, u_wA_n, u_br_t, u_br_f, C, h]
  · by_cases h3 : 6 ≤ a
    · simp (disch := omega) only [z_X11_needIndex, z_X9_indexAt, u_br_True, u_br_False, u_jn_u, u_lt_u, u_nn_s, u_brn_s, u_brn_n, ↓li_m1, li_0, li_1, li_2, li_3, li_4, li_5, li_6, li_7, li_8, li_9, li_10, li_12, li_13, li_26, li_40, li_60, li_61, li_62, li_99, li_100, li_102, li_106, li_114, li_112, li_117, li_108, li_103, li_120, li_300, li_360, li_512, li_1000, nI_add, u_n_mul, u_n_lt, u_n_le, u_n_eq, u_n_sub, u_n_div, u_n_mod, nI_clamp, u_m1, u_m1q, u_wI_n, u_wA_n, u_br_t, u_br_f, C]
    · have e := T.2.2.1 a (by omega)
      rw [if_neg (by omega)] at e
      simp (disch := omega) only [z_X11_needIndex, z_X9_indexAt, u_br_True, u_br_False, u_jn_u, u_lt_u, u_nn_s, u_brn_s, u_brn_n, ↓li_m1, li_0, li_1, li_2, li_3, li_4, li_5, li_6, li_7, li_8, li_9, li_10, li_12, li_13, li_26, li_40, li_60, li_61, li_62, li_99, li_100, li_102, li_106, li_114, li_112, li_117, li_108, li_103, li_120, li_300, li_360, li_512, li_1000, nI_add, u_n_mul, u_n_lt, u_n_le, u_n_eq, u_n_sub, u_n_div, u_n_mod, nI_clamp, u_m1, u_m1q, u_wI_n, u_wA_n, u_br_t, u_br_f, C, e]
theorem c_hasC {t c k : Nat} (e : sP σ 10 t 1 0 = nI k) (hc : c < k) (hk : k ≤ 3) {K : Int32 → Prop} : z_X10_hasColumn N t (nI c) σ K = K (nI 1) := by
  simp (disch := omega) only [z_X10_hasColumn, u_br_True, u_br_False, u_jn_u, u_lt_u, u_nn_s, u_brn_s, u_brn_n, ↓li_m1, li_0, li_1, li_2, li_3, li_4, li_5, li_6, li_7, li_8, li_9, li_10, li_12, li_13, li_26, li_40, li_60, li_61, li_62, li_99, li_100, li_102, li_106, li_114, li_112, li_117, li_108, li_103, li_120, li_300, li_360, li_512, li_1000, nI_add, u_n_mul, u_n_lt, u_n_le, u_n_eq, u_n_sub, u_n_div, u_n_mod, nI_clamp, u_m1, u_m1q, u_wI_n, u_wA_n, u_br_t, u_br_f, e]
theorem c_hasCO {t k : Nat} {p : Int32} (e : sP σ 10 t 1 0 = nI k) (hc : Out p k) (hk : k ≤ 3) {K : Int32 → Prop} : z_X10_hasColumn N t p σ K = K (nI 0) := by
  rcases hc with hc | ⟨a, ha, h2, rfl⟩
  · simp (disch := omega) only [z_X10_hasColumn, u_br_True, u_br_False, u_jn_u, u_lt_u, u_nn_s, u_brn_s, u_brn_n, ↓li_m1, li_0, li_1, li_2, li_3, li_4, li_5, li_6, li_7, li_8, li_9, li_10, li_12, li_13, li_26, li_40, li_60, li_61, li_62, li_99, li_100, li_102, li_106, li_114, li_112, li_117, li_108, li_103, li_120, li_300, li_360, li_512, li_1000, nI_add, u_n_mul, u_n_lt, u_n_le, u_n_eq, u_n_sub, u_n_div, u_n_mod, nI_clamp, u_m1, u_m1q, u_wI_n, u_wA_n, u_br_t, u_br_f, hc]
  · simp (disch := omega) only [z_X10_hasColumn, u_br_True, u_br_False, u_jn_u, u_lt_u, u_nn_s, u_brn_s, u_brn_n, ↓li_m1, li_0, li_1, li_2, li_3, li_4, li_5, li_6, li_7, li_8, li_9, li_10, li_12, li_13, li_26, li_40, li_60, li_61, li_62, li_99, li_100, li_102, li_106, li_114, li_112, li_117, li_108, li_103, li_120, li_300, li_360, li_512, li_1000, nI_add, u_n_mul, u_n_lt, u_n_le, u_n_eq, u_n_sub, u_n_div, u_n_mod, nI_clamp, u_m1, u_m1q, u_wI_n, u_wA_n, u_br_t, u_br_f, e]
theorem c_hasR {t r : Nat} (T : CT1 m u σ t) (W : WT m u) (ht : t < 3) (hr : r < 40) {K : Int32 → Prop} : z_X10_hasRow N t (nI r) σ K = K (if th m t r = true then nI 1 else nI 0) := by
  have e := T.2.2.2.2.1 r hr
  have h4 := (W.row ht hr).2.1
  by_cases h6 : m 4 (40 * t + r) = 0
  · have : ¬ th m t r = true := by simp [th, h6]
    rw [if_neg this]
    simp (disch := omega) only [z_X10_hasRow, u_br_True, u_br_False, u_jn_u, u_lt_u, u_nn_s, u_brn_s, u_brn_n, ↓li_m1, li_0, li_1, li_2, li_3, li_4, li_5, li_6, li_7, li_8, li_9, li_10, li_12, li_13, li_26, li_40, li_60, li_61, li_62, li_99, li_100, li_102, li_106, li_114, li_112, li_117, li_108, li_103, li_120, li_300, li_360, li_512, li_1000, nI_add, u_n_mul, u_n_lt, u_n_le, u_n_eq, u_n_sub, u_n_div, u_n_mod, nI_clamp, u_m1, u_m1q, u_wI_n, u_wA_n, u_br_t, u_br_f, e]
  · have : th m t r = true := by simp [th, h6]
    rw [if_pos this]
    simp (disch := omega) only [z_X10_hasRow, u_br_True, u_br_False, u_jn_u, u_lt_u, u_nn_s, u_brn_s, u_brn_n, ↓li_m1, li_0, li_1, li_2, li_3, li_4, li_5, li_6, li_7, li_8, li_9, li_10, li_12, li_13, li_26, li_40, li_60, li_61, li_62, li_99, li_100, li_102, li_106, li_114, li_112, li_117, li_108, li_103, li_120, li_300, li_360, li_512, li_1000, nI_add, u_n_mul, u_n_lt, u_n_le, u_n_eq, u_n_sub, u_n_div, u_n_mod, nI_clamp, u_m1, u_m1q, u_wI_n, u_wA_n, u_br_t, u_br_f, e]
theorem c_hasRO {t : Nat} {p : Int32} (hp : Out p 40) {K : Int32 → Prop} : z_X10_hasRow N t p σ K = K (nI 0) := by
  rcases hp with hp | ⟨a, ha, h2, rfl⟩
  · simp (disch := omega) only [z_X10_hasRow, u_br_True, u_br_False, u_jn_u, u_lt_u, u_nn_s, u_brn_s, u_brn_n, ↓li_m1, li_0, li_1, li_2, li_3, li_4, li_5, li_6, li_7, li_8, li_9, li_10, li_12, li_13, li_26, li_40, li_60, li_61, li_62, li_99, li_100, li_102, li_106, li_114, li_112, li_117, li_108, li_103, li_120, li_300, li_360, li_512, li_1000, nI_add, u_n_mul, u_n_lt, u_n_le, u_n_eq, u_n_sub, u_n_div, u_n_mod, nI_clamp, u_m1, u_m1q, u_wI_n, u_wA_n, u_br_t, u_br_f, hp]
  · simp (disch := omega) only [z_X10_hasRow, u_br_True, u_br_False, u_jn_u, u_lt_u, u_nn_s, u_brn_s, u_brn_n, ↓li_m1, li_0, li_1, li_2, li_3, li_4, li_5, li_6, li_7, li_8, li_9, li_10, li_12, li_13, li_26, li_40, li_60, li_61, li_62, li_99, li_100, li_102, li_106, li_114, li_112, li_117, li_108, li_103, li_120, li_300, li_360, li_512, li_1000, nI_add, u_n_mul, u_n_lt, u_n_le, u_n_eq, u_n_sub, u_n_div, u_n_mod, nI_clamp, u_m1, u_m1q, u_wI_n, u_wA_n, u_br_t, u_br_f]
theorem c_cell {t r c : Nat} (T : CT1 m u σ t) (hr : r < m 3 t) (hr2 : r < 40) (hc : c < 3) {K : Int32 → Prop} : z_X10_cell N t (nI r) (nI c) σ K = K (vl u t r c) := by
  simp (disch := omega) only [z_X10_cell, u_br_True, u_br_False, u_jn_u, u_lt_u, u_nn_s, u_brn_s, u_brn_n, ↓li_m1, li_0, li_1, li_2, li_3, li_4, li_5, li_6, li_7, li_8, li_9, li_10, li_12, li_13, li_26, li_40, li_60, li_61, li_62, li_99, li_100, li_102, li_106, li_114, li_112, li_117, li_108, li_103, li_120, li_300, li_360, li_512, li_1000, nI_add, u_n_mul, u_n_lt, u_n_le, u_n_eq, u_n_sub, u_n_div, u_n_mod, nI_clamp, u_m1, u_m1q, u_wI_n, u_wA_n, u_br_t, u_br_f, T.2.2.2.2.2.1 r c hr hc, vl]
/-! the calls -/
theorem r_pages (R : RI m u w L σ) (W : WT m u) {t : Nat} (ht : t < m 1 0) {K : Int32 → St → Prop} : z_X12_pages N 0 (nI t) σ K = K (nI ((m 3 t + 3) / 4)) (stP σ 12 0 0 0 (nI 0)) := by
  have R0 : RI m u w L (stP σ 12 0 0 0 (nI 0)) := R.tmp rfl
  have := W.nt
  have := W.2.2.2.1 t (by omega)
  simp (disch := omega) only [z_X12_pages, z_X12_pagesOf, r_isT R0 W ht, u_br_True, u_br_False, u_jn_u, u_lt_u, u_nn_s, u_brn_s, u_brn_n, nI_add, u_n_mul, u_n_lt, u_n_le, u_n_eq, u_n_sub, u_n_div, u_n_mod, nI_clamp, u_m1, u_m1q, u_wI_n, u_wA_n, u_br_t, u_br_f, ↓li_m1, li_0, li_1, li_2, li_3, li_4, li_5, li_6, li_7, li_8, li_9, li_10, li_12, li_13, li_26, li_40, li_60, li_61, li_62, li_99, li_100, li_102, li_106, li_114, li_112, li_117, li_108, li_103, li_120, li_300, li_360, li_512, li_1000, b10, b00, f_0, f_1, u_okT, u_nb_0, u_nb_1, sP_stP, Nat.reduceEqDiff, true_and, and_true, false_and, and_false, if_true, if_false, eq_self, and_self, Nat.reduceLT, Nat.reduceLeDiff, Nat.reduceAdd, Nat.reduceMul, Nat.reduceDiv, Nat.one_ne_zero, (fun j => R.r 3 j rfl)]
theorem r_pages1 (R : RI m u w L σ) (W : WT m u) {p : Int32} (h : Out p (m 1 0)) {K : Int32 → St → Prop} : z_X12_pages N 0 p σ K = K mI (stP σ 12 0 0 0 (nI 1)) := by
  have R0 : RI m u w L (stP σ 12 0 0 0 (nI 0)) := R.tmp rfl
  simp (disch := omega) only [z_X12_pages, r_isTO R0 W h, u_br_True, u_br_False, u_jn_u, u_lt_u, u_nn_s, u_brn_s, u_brn_n, nI_add, u_n_mul, u_n_lt, u_n_le, u_n_eq, u_n_sub, u_n_div, u_n_mod, nI_clamp, u_m1, u_m1q, u_wI_n, u_wA_n, u_br_t, u_br_f, ↓li_m1, li_0, li_1, li_2, li_3, li_4, li_5, li_6, li_7, li_8, li_9, li_10, li_12, li_13, li_26, li_40, li_60, li_61, li_62, li_99, li_100, li_102, li_106, li_114, li_112, li_117, li_108, li_103, li_120, li_300, li_360, li_512, li_1000, b10, b00, f_0, f_1, u_okT, u_nb_0, u_nb_1]
theorem k_pages (I : Inv kk σ) (hk : kk < 512) (p : Int32) {T : Int32 → Int32 → St → Prop} (hT : ∀ code b σ2, G (kk + 1) code b σ2 → T code b σ2) : z_L_pages N (some 0) p σ (fun code σ1 => z_X12_pages N 0 p σ1 (fun b σ2 => T code b σ2)) := by
  have I0 := I
  obtain ⟨m, u, w, L, R, ⟨C0', CT', CX', CC', CQ', CD', CP'⟩, WT', WX', WC', WQ', WD'⟩ := I
  have h1 := WT'.nt
  rcases u_io p (m 1 0) with ⟨t, ht, _, rfl⟩ | hp
  · have h3 := WT'.2.2.2.1 t (by omega)
    simp (disch := omega) only [z_L_pages, z_X11_pages, z_X10_pageCount, c_needT C0' CT' WT' ht, u_br_True, u_br_False, u_jn_u, u_lt_u, u_nn_s, u_brn_s, u_brn_n, nI_add, u_n_mul, u_n_lt, u_n_le, u_n_eq, u_n_sub, u_n_div, u_n_mod, nI_clamp, u_m1, u_m1q, u_wI_n, u_wA_n, u_br_t, u_br_f, ↓li_m1, li_0, li_1, li_2, li_3, li_4, li_5, li_6, li_7, li_8, li_9, li_10, li_12, li_13, li_26, li_40, li_60, li_61, li_62, li_99, li_100, li_102, li_106, li_114, li_112, li_117, li_108, li_103, li_120, li_300, li_360, li_512, li_1000, wA_l, l0c, (CT'.2.2.2 t ht).2.2.1]
    rw [show (m 3 t + 4 - 1) / 4 = (m 3 t + 3) / 4 by omega, r_pages (R.km KM.stL) WT' ht]
    exact hT _ _ _ (Inv_ans I0 hk)
  · simp only [z_L_pages, z_X11_pages, c_needTO C0' CT' WT' hp, r_pages1 R WT' hp, u_br_True, u_br_False, u_jn_u, u_lt_u, u_nn_s, u_brn_s, u_brn_n, li_1, true_and]
    exact hT _ _ _ (G_exc (c := 1) I0 hk (by decide) (by decide))
theorem r_value (R : RI m u w L σ) (W : WT m u) {t r c : Nat} (ht : t < m 1 0) (hc : c < m 2 t) (hr : r < 40) (h : th m t r = true) {K : Int32 → St → Prop} : z_X12_value N 0 (nI t) (nI r) (nI c) σ K = K (vl u t r c) (stP σ 12 0 0 0 (nI 0)) := by
  have R0 : RI m u w L (stP σ 12 0 0 0 (nI 0)) := R.tmp rfl
  have := W.nt
  have := W.cl ht
  simp (disch := omega) only [z_X12_value, r_isT R0 W ht, r_isC R0 W ht hc, r_hasR R0 W (by omega : t < 3) hr, h, r_at R0 (by omega : t < 3) hr (by omega : c < 3), u_br_True, u_br_False, u_jn_u, u_lt_u, u_nn_s, u_brn_s, u_brn_n, ↓li_m1, li_0, li_1, li_2, li_3, li_4, li_5, li_6, li_7, li_8, li_9, li_10, li_12, li_13, li_26, li_40, li_60, li_61, li_62, li_99, li_100, li_102, li_106, li_114, li_112, li_117, li_108, li_103, li_120, li_300, li_360, li_512, li_1000, b10, b00, f_0, f_1, u_okT, u_nb_0, u_nb_1, Nat.reduceEqDiff, true_and, and_true, false_and, and_false, if_true, if_false, eq_self, and_self, Nat.reduceLT, Nat.reduceLeDiff, Nat.reduceAdd, Nat.reduceMul, Nat.reduceDiv, Nat.one_ne_zero]
theorem r_value1 (R : RI m u w L σ) (W : WT m u) {p p2 p3 : Int32} (h : Out p (m 1 0)) {K : Int32 → St → Prop} : z_X12_value N 0 p p2 p3 σ K = K mI (stP σ 12 0 0 0 (nI 1)) := by
  have R0 : RI m u w L (stP σ 12 0 0 0 (nI 0)) := R.tmp rfl
  simp (disch := omega) only [z_X12_value, r_isTO R0 W h, u_br_True, u_br_False, u_jn_u, u_lt_u, u_nn_s, u_brn_s, u_brn_n, nI_add, u_n_mul, u_n_lt, u_n_le, u_n_eq, u_n_sub, u_n_div, u_n_mod, nI_clamp, u_m1, u_m1q, u_wI_n, u_wA_n, u_br_t, u_br_f, ↓li_m1, li_0, li_1, li_2, li_3, li_4, li_5, li_6, li_7, li_8, li_9, li_10, li_12, li_13, li_26, li_40, li_60, li_61, li_62, li_99, li_100, li_102, li_106, li_114, li_112, li_117, li_108, li_103, li_120, li_300, li_360, li_512, li_1000, b10, b00, f_0, f_1, u_okT, u_nb_0, u_nb_1]
theorem r_value2 (R : RI m u w L σ) (W : WT m u) {t : Nat} {p2 p3 : Int32} (ht : t < m 1 0) (h : Out p3 (m 2 t)) {K : Int32 → St → Prop} : z_X12_value N 0 (nI t) p2 p3 σ K = K mI (stP σ 12 0 0 0 (nI 2)) := by
  have R0 : RI m u w L (stP σ 12 0 0 0 (nI 0)) := R.tmp rfl
  simp (disch := omega) only [z_X12_value, r_isT R0 W ht, r_isCO R0 W ht h, u_br_True, u_br_False, u_jn_u, u_lt_u, u_nn_s, u_brn_s, u_brn_n, nI_add, u_n_mul, u_n_lt, u_n_le, u_n_eq, u_n_sub, u_n_div, u_n_mod, nI_clamp, u_m1, u_m1q, u_wI_n, u_wA_n, u_br_t, u_br_f, ↓li_m1, li_0, li_1, li_2, li_3, li_4, li_5, li_6, li_7, li_8, li_9, li_10, li_12, li_13, li_26, li_40, li_60, li_61, li_62, li_99, li_100, li_102, li_106, li_114, li_112, li_117, li_108, li_103, li_120, li_300, li_360, li_512, li_1000, b10, b00, f_0, f_1, u_okT, u_nb_0, u_nb_1]
/-- no such row -/
def NoR (m : Nat → Nat → Nat) (t : Nat) (p : Int32) : Prop := Out p 40 ∨ ∃ r, r < 40 ∧ p = nI r ∧ ¬ th m t r = true
theorem r_noR (R : RI m u w L σ) (W : WT m u) {t : Nat} {p : Int32} (ht : t < 3) (h : NoR m t p) {K : Int32 → Prop} : z_X12_hasRow N 0 (nI t) p σ K = K (nI 0) := by
  rcases h with h | ⟨r, hr, rfl, h⟩
  · exact r_hasRO R W ht h
  · rw [r_hasR R W ht hr, if_neg h]
theorem c_noR {t : Nat} {p : Int32} (T : CT1 m u σ t) (W : WT m u) (ht : t < 3) (h : NoR m t p) {K : Int32 → Prop} : z_X10_hasRow N t p σ K = K (nI 0) := by
  rcases h with h | ⟨r, hr, rfl, h⟩
  · exact c_hasRO h
  · rw [c_hasR T W ht hr, if_neg h]
theorem row_cases (m : Nat → Nat → Nat) (t : Nat) (p : Int32) : (∃ r, r < 40 ∧ p = nI r ∧ th m t r = true) ∨ NoR m t p := by
  rcases u_io p 40 with ⟨r, hr, _, rfl⟩ | h
  · by_cases h : th m t r = true
    · exact Or.inl ⟨r, hr, rfl, h⟩
    · exact Or.inr (Or.inr ⟨r, hr, rfl, h⟩)
  · exact Or.inr (Or.inl h)
theorem r_value3 (R : RI m u w L σ) (W : WT m u) {t c : Nat} {p2 : Int32} (ht : t < m 1 0) (hc : c < m 2 t) (h : NoR m t p2) {K : Int32 → St → Prop} : z_X12_value N 0 (nI t) p2 (nI c) σ K = K mI (stP σ 12 0 0 0 (nI 3)) := by
  have R0 : RI m u w L (stP σ 12 0 0 0 (nI 0)) := R.tmp rfl
  have := W.nt
  simp (disch := omega) only [z_X12_value, r_isT R0 W ht, r_isC R0 W ht hc, r_noR R0 W (by omega : t < 3) h, u_br_True, u_br_False, u_jn_u, u_lt_u, u_nn_s, u_brn_s, u_brn_n, nI_add, u_n_mul, u_n_lt, u_n_le, u_n_eq, u_n_sub, u_n_div, u_n_mod, nI_clamp, u_m1, u_m1q, u_wI_n, u_wA_n, u_br_t, u_br_f, ↓li_m1, li_0, li_1, li_2, li_3, li_4, li_5, li_6, li_7, li_8, li_9, li_10, li_12, li_13, li_26, li_40, li_60, li_61, li_62, li_99, li_100, li_102, li_106, li_114, li_112, li_117, li_108, li_103, li_120, li_300, li_360, li_512, li_1000, b10, b00, f_0, f_1, u_okT, u_nb_0, u_nb_1]
theorem k_value (I : Inv kk σ) (hk : kk < 512) (p p2 p3 : Int32) {T : Int32 → Int32 → St → Prop} (hT : ∀ code b σ2, G (kk + 1) code b σ2 → T code b σ2) : z_L_value N (some 0) p p2 p3 σ (fun code σ1 => z_X12_value N 0 p p2 p3 σ1 (fun b σ2 => T code b σ2)) := by
  have I0 := I
  obtain ⟨m, u, w, L, R, ⟨C0', CT', CX', CC', CQ', CD', CP'⟩, WT', WX', WC', WQ', WD'⟩ := I
  have h1 := WT'.nt
  rcases u_io p (m 1 0) with ⟨t, ht, _, rfl⟩ | hp
  · have hc := WT'.cl ht
    have hT1 := CT'.2.2.2 t ht
    rcases u_io p3 (m 2 t) with ⟨c, hc2, _, rfl⟩ | hp3
    · rcases row_cases m t p2 with ⟨r, hr, rfl, hth⟩ | hn
      · have hrm := WT'.th_lt (by omega) hr hth
        simp (disch := omega) only [z_L_value, z_X11_value, c_needT C0' CT' WT' ht, c_hasC hT1.2.1 hc2 hc.2, c_hasR hT1 WT' (by omega : t < 3) hr, hth, c_cell hT1 hrm hr (by omega : c < 3), u_br_True, u_br_False, u_jn_u, u_lt_u, u_nn_s, u_brn_s, u_brn_n, ↓li_m1, li_0, li_1, li_2, li_3, li_4, li_5, li_6, li_7, li_8, li_9, li_10, li_12, li_13, li_26, li_40, li_60, li_61, li_62, li_99, li_100, li_102, li_106, li_114, li_112, li_117, li_108, li_103, li_120, li_300, li_360, li_512, li_1000, b10, b00, f_0, f_1, u_okT, u_nb_0, u_nb_1, Nat.reduceEqDiff, true_and, and_true, false_and, and_false, if_true, if_false, eq_self, and_self, Nat.reduceLT, Nat.reduceLeDiff, Nat.reduceAdd, Nat.reduceMul, Nat.reduceDiv, Nat.one_ne_zero, wA_l, l0c]
        rw [r_value (R.km KM.stL) WT' ht hc2 hr hth]
        exact hT _ _ _ (Inv_ans I0 hk)
      · simp (disch := omega) only [z_L_value, z_X11_value, c_needT C0' CT' WT' ht, c_hasC hT1.2.1 hc2 hc.2, c_noR hT1 WT' (by omega : t < 3) hn, r_value3 R WT' ht hc2 hn, u_br_True, u_br_False, u_jn_u, u_lt_u, u_nn_s, u_brn_s, u_brn_n, ↓li_m1, li_0, li_1, li_2, li_3, li_4, li_5, li_6, li_7, li_8, li_9, li_10, li_12, li_13, li_26, li_40, li_60, li_61, li_62, li_99, li_100, li_102, li_106, li_114, li_112, li_117, li_108, li_103, li_120, li_300, li_360, li_512, li_1000, b10, b00, f_0, f_1, u_okT, u_nb_0, u_nb_1, Nat.reduceEqDiff, true_and, and_true, false_and, and_false, if_true, if_false, eq_self, and_self, Nat.reduceLT, Nat.reduceLeDiff, Nat.reduceAdd, Nat.reduceMul, Nat.reduceDiv, Nat.one_ne_zero]
        exact Or.inr (Or.inr (hT _ _ _ (G_exc (c := 3) I0 hk (by decide) (by decide))))
    · simp (disch := omega) only [z_L_value, z_X11_value, c_needT C0' CT' WT' ht, c_hasCO hT1.2.1 hp3 hc.2, r_value2 R WT' ht hp3, u_br_True, u_br_False, u_jn_u, u_lt_u, u_nn_s, u_brn_s, u_brn_n, ↓li_m1, li_0, li_1, li_2, li_3, li_4, li_5, li_6, li_7, li_8, li_9, li_10, li_12, li_13, li_26, li_40, li_60, li_61, li_62, li_99, li_100, li_102, li_106, li_114, li_112, li_117, li_108, li_103, li_120, li_300, li_360, li_512, li_1000, b10, b00, f_0, f_1, u_okT, u_nb_0, u_nb_1, Nat.reduceEqDiff, true_and, and_true, false_and, and_false, if_true, if_false, eq_self, and_self, Nat.reduceLT, Nat.reduceLeDiff, Nat.reduceAdd, Nat.reduceMul, Nat.reduceDiv, Nat.one_ne_zero]
      exact Or.inr (Or.inl (hT _ _ _ (G_exc (c := 2) I0 hk (by decide) (by decide))))
  · simp only [z_L_value, z_X11_value, c_needTO C0' CT' WT' hp, r_value1 R WT' hp, u_br_True, u_br_False, u_jn_u, u_lt_u, u_nn_s, u_brn_s, u_brn_n, li_1, true_and]
    exact Or.inl (hT _ _ _ (G_exc (c := 1) I0 hk (by decide) (by decide)))
end TAB
