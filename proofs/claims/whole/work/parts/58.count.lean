section COUNT
variable {m m' : Nat → Nat → Nat} {u u' w : Nat → Int32} {L L' E : List Nat} {σ σ' σ1 σ2 : St} {N kk t c k n F key row lo hi v d : Nat} {p p' : Nat → Bool}
def cntP (p : Nat → Bool) (d : Nat) : Nat := it_ (fun d a => if p (99 - d) = true then a + 1 else a) 0 d
def minP (p : Nat → Bool) (d : Nat) : Nat := it_ (fun d a => if p (99 - d) = true then 99 - d else a) 0 d
def maxP (p : Nat → Bool) (d : Nat) : Nat := it_ (fun d a => if p (99 - d) = true ∧ cntP p d = 0 then 99 - d else a) 0 d
theorem cntP_s : cntP p (d + 1) = if p (99 - d) = true then cntP p d + 1 else cntP p d := rfl
theorem minP_s : minP p (d + 1) = if p (99 - d) = true then 99 - d else minP p d := rfl
theorem maxP_s : maxP p (d + 1) = if p (99 - d) = true ∧ cntP p d = 0 then 99 - d else maxP p d := rfl
theorem cntP_le : cntP p d ≤ d := by
  induction d with
  | zero => exact Nat.le_refl _
  | succ d ih => rw [cntP_s]; split <;> omega
theorem cnt0 (hd : d ≤ 100) : cntP p d = 0 ↔ ∀ x, 100 - d ≤ x → x < 100 → ¬ p x = true := by
  induction d with
  | zero => exact ⟨fun _ x h1 h2 => by omega, fun _ => rfl⟩
  | succ d ih =>
    rw [cntP_s]
    have ih := ih (by omega)
    by_cases h : p (99 - d) = true
    · rw [if_pos h]
      exact ⟨fun h9 => by omega, fun h9 => absurd h (h9 (99 - d) (by omega) (by omega))⟩
    · rw [if_neg h, ih]
      refine ⟨fun h9 x h1 h2 => ?_, fun h9 x h1 h2 => h9 x (by omega) h2⟩
      by_cases e : x = 99 - d
      · rw [e]; exact h
      · exact h9 x (by omega) h2
theorem min_spec (hd : d ≤ 100) : (cntP p d ≠ 0 → p (minP p d) = true ∧ 100 - d ≤ minP p d ∧ minP p d < 100 ∧ ∀ x, 100 - d ≤ x → x < 100 → p x = true → minP p d ≤ x) ∧ (cntP p d = 0 → minP p d = 0) := by
  induction d with
  | zero => exact ⟨fun h => absurd rfl h, fun _ => rfl⟩
  | succ d ih =>
    obtain ⟨i1, i2⟩ := ih (by omega)
    rw [cntP_s, minP_s]
    by_cases h : p (99 - d) = true
    · rw [if_pos h, if_pos h]
      exact ⟨fun _ => ⟨h, by omega, by omega, fun x h1 h2 h3 => by omega⟩, fun h9 => by omega⟩
    · rw [if_neg h, if_neg h]
      refine ⟨fun h9 => ?_, i2⟩
      obtain ⟨a1, a2, a3, a4⟩ := i1 h9
      refine ⟨a1, by omega, a3, fun x h1 h2 h3 => ?_⟩
      by_cases e : x = 99 - d
      · rw [e] at h3; exact absurd h3 h
      · exact a4 x (by omega) h2 h3
theorem max_spec (hd : d ≤ 100) : (cntP p d ≠ 0 → p (maxP p d) = true ∧ maxP p d < 100 ∧ ∀ x, 100 - d ≤ x → x < 100 → p x = true → x ≤ maxP p d) ∧ (cntP p d = 0 → maxP p d = 0) := by
  induction d with
  | zero => exact ⟨fun h => absurd rfl h, fun _ => rfl⟩
  | succ d ih =>
    obtain ⟨i1, i2⟩ := ih (by omega)
    rw [cntP_s, maxP_s]
    by_cases h : p (99 - d) = true
    · rw [if_pos h]
      by_cases h0 : cntP p d = 0
      · rw [if_pos ⟨h, h0⟩]
        have hz := (cnt0 (by omega)).mp h0
        refine ⟨fun _ => ⟨h, by omega, fun x h1 h2 h3 => ?_⟩, fun h9 => by omega⟩
        by_cases e : x = 99 - d
        · omega
        · exact absurd h3 (hz x (by omega) h2)
      · rw [if_neg (fun h9 => h0 h9.2)]
        obtain ⟨a1, a2, a3⟩ := i1 h0
        refine ⟨fun _ => ⟨a1, a2, fun x h1 h2 h3 => ?_⟩, fun h9 => by omega⟩
        by_cases e : x = 99 - d
        · by_cases h4 : 99 - d ≤ maxP p d
          · omega
          · have : ∃ y, 100 - d ≤ y ∧ y < 100 ∧ p y = true := Classical.byContradiction (fun h9 => h0 ((cnt0 (by omega)).mpr (fun y y1 y2 y3 => h9 ⟨y, y1, y2, y3⟩)))
            obtain ⟨y, y1, y2, y3⟩ := this
            have := a3 y y1 y2 y3
            omega
        · exact a3 x (by omega) h2 h3
    · rw [if_neg h, if_neg (fun h9 => h h9.1)]
      refine ⟨fun h9 => ?_, i2⟩
      obtain ⟨a1, a2, a3⟩ := i1 h9
      refine ⟨a1, a2, fun x h1 h2 h3 => ?_⟩
      by_cases e : x = 99 - d
      · rw [e] at h3; exact absurd h3 h
      · exact a3 x (by omega) h2 h3
theorem cnt_cong (h : ∀ x, x < 100 → p x = p' x) : cntP p d = cntP p' d := by
  induction d with
  | zero => rfl
  | succ d ih => rw [cntP_s, cntP_s, ih, h (99 - d) (by omega)]
theorem cnt_add (hv : v < 100) (hd : d ≤ 100) (hp : p v = false) (h : ∀ x, p' x = (p x || x == v)) : cntP p' d = cntP p d + (if 100 - d ≤ v then 1 else 0) := by
  induction d with
  | zero => simp [cntP, it_]; omega
  | succ d ih =>
    rw [cntP_s, cntP_s, ih (by omega), h (99 - d)]
    by_cases e : 99 - d = v
    · have a1 : (if 100 - d ≤ v then 1 else 0 : Nat) = 0 := if_neg (by omega)
      have a2 : (if 100 - (d + 1) ≤ v then 1 else 0 : Nat) = 1 := if_pos (by omega)
      rw [a1, a2, e, hp]
      simp
    · have e1 : (99 - d == v) = false := beq_eq_false_iff_ne.mpr e
      rw [e1, Bool.or_false]
      by_cases e3 : 100 - d ≤ v
      · have a1 : (if 100 - d ≤ v then 1 else 0 : Nat) = 1 := if_pos e3
        have a2 : (if 100 - (d + 1) ≤ v then 1 else 0 : Nat) = 1 := if_pos (by omega)
        rw [a1, a2]; split <;> omega
      · have a1 : (if 100 - d ≤ v then 1 else 0 : Nat) = 0 := if_neg e3
        have a2 : (if 100 - (d + 1) ≤ v then 1 else 0 : Nat) = 0 := if_neg (by omega)
        rw [a1, a2]; split <;> omega
/-- a value stands in one of the first rows -/
def hasV (m : Nat → Nat → Nat) (u : Nat → Int32) (t c n v : Nat) : Bool := (List.range n).any (pv m u t c v)
theorem hasV_s : hasV m u t c (n + 1) v = (hasV m u t c n v || pv m u t c v n) := by
  simp [hasV, List.range_succ, List.any_append]
theorem hasV_stop (W : WT m u) (ht : t < 3) : hasV m u t c (m 3 t) v = hasV m u t c 40 v := by
  have h : ∀ e, m 3 t + e ≤ 40 → hasV m u t c (m 3 t + e) v = hasV m u t c (m 3 t) v := by
    intro e
    induction e with
    | zero => intro _; rfl
    | succ e ih =>
      intro he
      rw [← Nat.add_assoc, hasV_s, ih (by omega)]
      have : pv m u t c v (m 3 t + e) = false := by
        cases h9 : pv m u t c v (m 3 t + e) with
        | false => rfl
        | true =>
          simp only [pv, Bool.and_eq_true] at h9
          have := W.th_lt ht (by omega) h9.1
          omega
      rw [this, Bool.or_false]
  have h3 := W.2.2.2.1 t ht
  have := h (40 - m 3 t) (by omega)
  rw [show m 3 t + (40 - m 3 t) = 40 by omega] at this
  exact this.symm
theorem cnt_hasV_le : cntP (hasV m u t c n) 100 ≤ n := by
  induction n with
  | zero =>
    have : cntP (hasV m u t c 0) 100 = 0 := (cnt0 (by omega)).mpr (fun x _ _ => by simp [hasV])
    omega
  | succ n ih =>
    by_cases h : ∃ v, v < 100 ∧ pv m u t c v n = true
    · obtain ⟨v, hv, h⟩ := h
      have huniq : ∀ x, x < 100 → pv m u t c x n = (x == v) := by
        intro x hx
        simp only [pv, Bool.and_eq_true, decide_eq_true_eq] at h
        rw [Bool.eq_iff_iff]
        simp only [pv, Bool.and_eq_true, decide_eq_true_eq, beq_iff_eq]
        constructor
        · rintro ⟨_, h2⟩
          rw [h.2] at h2
          have := congrArg tN h2
          rw [u_tN_nI (by omega), u_tN_nI (by omega)] at this
          omega
        · rintro rfl; exact h
      by_cases hv2 : hasV m u t c n v = true
      · have : cntP (hasV m u t c (n + 1)) 100 = cntP (hasV m u t c n) 100 := cnt_cong (fun x hx => by
          rw [hasV_s, huniq x hx]
          by_cases e : x = v
          · subst e; rw [hv2]; rfl
          · rw [beq_eq_false_iff_ne.mpr e, Bool.or_false])
        omega
      · have h2 : hasV m u t c n v = false := by simpa using hv2
        have e1 := cnt_add (d := 100) (p' := fun x => hasV m u t c n x || x == v) hv (by omega) h2 (fun x => rfl)
        have e2 : cntP (hasV m u t c (n + 1)) 100 = cntP (fun x => hasV m u t c n x || x == v) 100 := cnt_cong (fun x hx => by rw [hasV_s, huniq x hx])
        rw [if_pos (by omega)] at e1
        omega
    · have : cntP (hasV m u t c (n + 1)) 100 = cntP (hasV m u t c n) 100 := cnt_cong (fun x hx => by
        rw [hasV_s]
        have : pv m u t c x n = false := by
          cases h9 : pv m u t c x n with
          | false => rfl
          | true => exact absurd ⟨x, hx, h9⟩ h
        rw [this, Bool.or_false])
      omega
/-! the class takes a column's counts -/
theorem c_isFirst (hN : 1000000 ≤ N) (T : CT1 m u σ t) (W : WT m u) (ht : t < m 1 0) (hc : c < m 2 t) (hrow : row < 40) (hv : v < 100) {K : Int32 → Prop} (h : K (if hasV m u t c row v = true then nI 0 else nI 1)) : z_X10_isFirstWith N t (nI row) (nI c) (nI v) σ K := by
  have h1 := W.nt
  have hcl := W.cl ht
  have V := W.vg ht hc
  have key : ∀ i, i ≤ row → hasV m u t c i v = false ∨ hasV m u t c row v = true := by
    intro i hi
    by_cases h9 : hasV m u t c i v = true
    · right
      simp only [hasV, List.any_eq_true, List.mem_range] at h9 ⊢
      obtain ⟨x, hx, hx2⟩ := h9
      exact ⟨x, by omega, hx2⟩
    · left; simpa using h9
  unfold z_X10_isFirstWith
  refine for_1 row (by omega) (by omega) (fun i => hasV m u t c i v = false) 0 (by omega) (fun self i hi hI hs => ?_) (by simp [hasV])
  by_cases hl : i < row
  · by_cases hth : th m t i = true
    · have him := W.th_lt (by omega) (by omega : i < 40) hth
      obtain ⟨x, hx, ex⟩ := V i (by omega) hth
      simp (disch := omega) only [u_br_True, u_br_False, u_jn_u, u_lt_u, u_nn_s, u_brn_s, u_brn_n, nI_add, u_n_mul, u_n_lt, u_n_le, u_n_eq, u_n_sub, u_n_div, u_n_mod, nI_clamp, u_m1, u_m1q, u_wI_n, u_wA_n, u_br_t, u_br_f, ↓li_m1, li_0, li_1, li_2, li_3, li_4, li_5, li_6, li_7, li_8, li_9, li_10, li_12, li_13, li_26, li_40, li_60, li_61, li_62, li_99, li_100, li_102, li_106, li_114, li_112, li_117, li_108, li_103, li_120, li_300, li_360, li_512, li_1000, c_hasR T W (by omega : t < 3) (by omega : i < 40), hth, Nat.reduceEqDiff, true_and, and_true, false_and, and_false, if_true, if_false, eq_self, and_self, Nat.reduceLT, Nat.reduceLeDiff, Nat.reduceAdd, Nat.reduceMul, Nat.reduceDiv, Nat.one_ne_zero, b10, b00, f_0, f_1, u_okT, u_nb_0, u_nb_1, c_cell T him (by omega) (by omega : c < 3), ex]
      by_cases hxv : x = v
      · rw [u_br_t hxv]
        have : hasV m u t c row v = true := by
          simp only [hasV, List.any_eq_true, List.mem_range]
          refine ⟨i, hl, ?_⟩
          simp [pv, hth, ex, hxv]
        rw [if_pos this] at h
        exact h
      · rw [u_br_f hxv]
        refine hs hl ?_
        rw [hasV_s, hI, Bool.false_or]
        have : ¬ nI x = nI v := by
          rw [u_n_eq (by omega) (by omega)]; exact hxv
        simp [pv, ex, this]
    · simp (disch := omega) only [u_br_True, u_br_False, u_jn_u, u_lt_u, u_nn_s, u_brn_s, u_brn_n, nI_add, u_n_mul, u_n_lt, u_n_le, u_n_eq, u_n_sub, u_n_div, u_n_mod, nI_clamp, u_m1, u_m1q, u_wI_n, u_wA_n, u_br_t, u_br_f, ↓li_m1, li_0, li_1, li_2, li_3, li_4, li_5, li_6, li_7, li_8, li_9, li_10, li_12, li_13, li_26, li_40, li_60, li_61, li_62, li_99, li_100, li_102, li_106, li_114, li_112, li_117, li_108, li_103, li_120, li_300, li_360, li_512, li_1000, c_hasR T W (by omega : t < 3) (by omega : i < 40), if_neg hth, b10, b00, f_0, f_1, u_okT, u_nb_0, u_nb_1]
      refine hs hl ?_
      rw [hasV_s, hI, Bool.false_or]
      simp [pv, hth]
  · have hi2 : i = row := by omega
    subst hi2
    simp (disch := omega) only [u_br_True, u_br_False, u_jn_u, u_lt_u, u_nn_s, u_brn_s, u_brn_n, nI_add, u_n_mul, u_n_lt, u_n_le, u_n_eq, u_n_sub, u_n_div, u_n_mod, nI_clamp, u_m1, u_m1q, u_wI_n, u_wA_n, u_br_t, u_br_f, ↓li_m1, li_0, li_1, li_2, li_3, li_4, li_5, li_6, li_7, li_8, li_9, li_10, li_12, li_13, li_26, li_40, li_60, li_61, li_62, li_99, li_100, li_102, li_106, li_114, li_112, li_117, li_108, li_103, li_120, li_300, li_360, li_512, li_1000]
    rw [if_neg (by rw [hI]; decide)] at h
    exact h
theorem for_3 {σ1 σ2 σ3 : Type} {F : (σ1 → σ2 → σ3 → Int32 → Prop) → σ1 → σ2 → σ3 → Int32 → Prop} {N : Nat} (n : Nat) (hn : n < 2 ^ 31 - 1) (hN : n < N) (I : Nat → σ1 → σ2 → σ3 → Prop) (m : Nat) (hm : m ≤ n)
    (step : ∀ (self : σ1 → σ2 → σ3 → Int32 → Prop) (i : Nat) (a : σ1) (b : σ2) (c : σ3), i ≤ n → I i a b c → (∀ a' b' c', i < n → I (i + 1) a' b' c' → self a' b' c' (nI (i + 1))) → F self a b c (nI i)) {a0 : σ1} {b0 : σ2} {c0 : σ3} (h0 : I m a0 b0 c0) : fx4 F N a0 b0 c0 (nI m) := by
  refine fx4_wp (I := fun a b c x => ∃ i, i ≤ n ∧ x = nI i ∧ I i a b c) (μ := fun _ _ _ x => n - tN x) ?_ N a0 b0 c0 (nI m) ⟨m, hm, rfl, h0⟩ (by rw [u_tN_nI (by omega)]; omega)
  rintro self a b c x ⟨i, hi, rfl, hI⟩ hs
  refine step self i a b c hi hI (fun a' b' c' hlt hI' => hs _ _ _ _ ⟨i + 1, hlt, rfl, hI'⟩ ?_)
  rw [u_tN_nI (by omega), u_tN_nI (by omega)]
  omega
theorem c_takeCol (hN : 1000000 ≤ N) (T : CT1 m u σ t) (W : WT m u) (ht : t < m 1 0) (hc : c < m 2 t) {K : St → Prop}
    (h : K (stP (stP (stP σ 10 t 10 c (nI (cntP (hasV m u t c 40) 100))) 10 t 11 c (nI (minP (hasV m u t c 40) 100))) 10 t 12 c (nI (maxP (hasV m u t c 40) 100)))) : z_X10_takeColumn N t (nI c) σ K := by
  have h1 := W.nt
  have hcl := W.cl ht
  have V := W.vg ht hc
  have ms := min_spec (p := hasV m u t c 40) (d := 100) (by omega)
  have xs := max_spec (p := hasV m u t c 40) (d := 100) (by omega)
  have cs := cnt0 (p := hasV m u t c 40) (d := 100) (by omega)
  unfold z_X10_takeColumn
  refine for_3 40 (by omega) (by omega) (fun r a b e => a = nI (cntP (hasV m u t c r) 100) ∧ (∃ l, b = nI l ∧ l ≤ 99 ∧ (l = 99 ∨ hasV m u t c r l = true) ∧ ∀ v, v < 100 → hasV m u t c r v = true → l ≤ v) ∧ ∃ g, e = nI g ∧ g ≤ 99 ∧ (g = 0 ∨ hasV m u t c r g = true) ∧ ∀ v, v < 100 → hasV m u t c r v = true → v ≤ g) 0 (by omega) (fun self r a b e hr hI hs => ?_) ⟨?_, ⟨99, rfl, by omega, Or.inl rfl, fun v _ h => by simp [hasV] at h⟩, ⟨0, rfl, by omega, Or.inl rfl, fun v _ h => by simp [hasV] at h⟩⟩
  · obtain ⟨rfl, ⟨l, rfl, l1, l2, l3⟩, ⟨g, rfl, g1, g2, g3⟩⟩ := hI
    have hcnt := cnt_hasV_le (m := m) (u := u) (t := t) (c := c) (n := r)
    by_cases hl : r < 40
    · have e4 := T.2.2.2.2.1 r hl
      have b4 := (W.row (by omega : t < 3) hl).2.1
      by_cases hth : th m t r = true
      · have hrm := W.th_lt (by omega) hl hth
        have hne : ¬ m 4 (40 * t + r) = 0 := by simpa [th] using hth
        obtain ⟨v, hv, ev⟩ := V r hl hth
        have hpv : ∀ x, x < 100 → pv m u t c x r = (x == v) := by
          intro x hx
          rw [Bool.eq_iff_iff]
          simp only [pv, hth, ev, Bool.true_and, decide_eq_true_eq, beq_iff_eq]
          rw [u_n_eq (by omega) (by omega)]
          exact eq_comm
        have hnew : hasV m u t c (r + 1) v = true := by rw [hasV_s, hpv v hv]; simp
        have hmono : ∀ x, x < 100 → hasV m u t c r x = true → hasV m u t c (r + 1) x = true := fun x _ h9 => by rw [hasV_s, h9]; rfl
        have hback : ∀ x, x < 100 → hasV m u t c (r + 1) x = true → hasV m u t c r x = true ∨ x = v := fun x hx h9 => by
          rw [hasV_s, hpv x hx, Bool.or_eq_true, beq_iff_eq] at h9
          exact h9
        simp (disch := omega) only [u_br_True, u_br_False, u_jn_u, u_lt_u, u_nn_s, u_brn_s, u_brn_n, nI_add, u_n_mul, u_n_lt, u_n_le, u_n_eq, u_n_sub, u_n_div, u_n_mod, nI_clamp, u_m1, u_m1q, u_wI_n, u_wA_n, u_br_t, u_br_f, ↓li_m1, li_0, li_1, li_2, li_3, li_4, li_5, li_6, li_7, li_8, li_9, li_10, li_12, li_13, li_26, li_40, li_60, li_61, li_62, li_99, li_100, li_102, li_106, li_114, li_112, li_117, li_108, li_103, li_120, li_300, li_360, li_512, li_1000, e4, c_cell T hrm hl (by omega : c < 3), ev]
        refine c_isFirst hN T W ht hc hl hv ?_
        have nb : (∃ l', (if v < l then nI v else nI l) = nI l' ∧ l' ≤ 99 ∧ (l' = 99 ∨ hasV m u t c (r + 1) l' = true) ∧ ∀ x, x < 100 → hasV m u t c (r + 1) x = true → l' ≤ x) := by
          by_cases hvl : v < l
          · refine ⟨v, by rw [if_pos hvl], by omega, Or.inr hnew, fun x hx hx2 => ?_⟩
            rcases hback x hx hx2 with h9 | h9
            · have := l3 x hx h9; omega
            · omega
          · refine ⟨l, by rw [if_neg hvl], l1, ?_, fun x hx hx2 => ?_⟩
            · rcases l2 with h9 | h9
              · exact Or.inl h9
              · exact Or.inr (hmono l (by omega) h9)
            · rcases hback x hx hx2 with h9 | h9
              · exact l3 x hx h9
              · omega
        have ng : (∃ g', (if g < v then nI v else nI g) = nI g' ∧ g' ≤ 99 ∧ (g' = 0 ∨ hasV m u t c (r + 1) g' = true) ∧ ∀ x, x < 100 → hasV m u t c (r + 1) x = true → x ≤ g') := by
          by_cases hvl : g < v
          · refine ⟨v, by rw [if_pos hvl], by omega, Or.inr hnew, fun x hx hx2 => ?_⟩
            rcases hback x hx hx2 with h9 | h9
            · have := g3 x hx h9; omega
            · omega
          · refine ⟨g, by rw [if_neg hvl], g1, ?_, fun x hx hx2 => ?_⟩
            · rcases g2 with h9 | h9
              · exact Or.inl h9
              · exact Or.inr (hmono g (by omega) h9)
            · rcases hback x hx hx2 with h9 | h9
              · exact g3 x hx h9
              · omega
        by_cases hf : hasV m u t c r v = true
        · have e9 : cntP (hasV m u t c (r + 1)) 100 = cntP (hasV m u t c r) 100 := cnt_cong (fun x hx => by
            rw [hasV_s, hpv x hx]
            by_cases e : x = v
            · subst e; rw [hf]; rfl
            · rw [beq_eq_false_iff_ne.mpr e, Bool.or_false])
          rw [if_pos hf, u_br_t rfl]
          refine hs _ _ _ hl ⟨?_, ?_, ?_⟩
          · rw [e9, Nat.add_zero]
          · exact nb
          · exact ng
        · have h2 : hasV m u t c r v = false := by simpa using hf
          have e1 := cnt_add (d := 100) (p' := fun x => hasV m u t c r x || x == v) hv (by omega) h2 (fun x => rfl)
          have e2 : cntP (hasV m u t c (r + 1)) 100 = cntP (fun x => hasV m u t c r x || x == v) 100 := cnt_cong (fun x hx => by rw [hasV_s, hpv x hx])
          rw [if_pos (by omega)] at e1
          rw [if_neg hf, u_br_f (by rw [b10]; exact fun h => h)]
          refine hs _ _ _ hl ⟨?_, ?_, ?_⟩
          · rw [e2, e1]
          · exact nb
          · exact ng
      · have heq : m 4 (40 * t + r) = 0 := by simpa [th] using hth
        have e9 : ∀ x, hasV m u t c (r + 1) x = hasV m u t c r x := fun x => by
          rw [hasV_s]
          have : pv m u t c x r = false := by simp [pv, hth]
          rw [this, Bool.or_false]
        have e8 : hasV m u t c (r + 1) = hasV m u t c r := funext e9
        simp (disch := omega) only [u_br_True, u_br_False, u_jn_u, u_lt_u, u_nn_s, u_brn_s, u_brn_n, nI_add, u_n_mul, u_n_lt, u_n_le, u_n_eq, u_n_sub, u_n_div, u_n_mod, nI_clamp, u_m1, u_m1q, u_wI_n, u_wA_n, u_br_t, u_br_f, ↓li_m1, li_0, li_1, li_2, li_3, li_4, li_5, li_6, li_7, li_8, li_9, li_10, li_12, li_13, li_26, li_40, li_60, li_61, li_62, li_99, li_100, li_102, li_106, li_114, li_112, li_117, li_108, li_103, li_120, li_300, li_360, li_512, li_1000, e4, heq, b10, b00, f_0, f_1, u_okT, u_nb_0, u_nb_1]
        refine hs _ _ _ hl ?_
        rw [e8]
        exact ⟨rfl, ⟨l, rfl, l1, l2, l3⟩, ⟨g, rfl, g1, g2, g3⟩⟩
    · have hr2 : r = 40 := by omega
      subst hr2
      have e3 := T.2.2.2.1
      have hlv := livN_le (m := m) (t := t) (n := 40)
      have hlv2 : liv m t ≤ 40 := hlv
      have hz : liv m t = 0 ↔ cntP (hasV m u t c 40) 100 = 0 := by
        rw [cs]
        simp only [liv, List.length_eq_zero_iff, List.filter_eq_nil_iff, List.mem_range]
        constructor
        · intro h9 x _ hx hx2
          simp only [hasV, List.any_eq_true, List.mem_range, pv, Bool.and_eq_true] at hx2
          obtain ⟨y, hy, hy2, _⟩ := hx2
          exact h9 y hy hy2
        · intro h9 y hy hy2
          obtain ⟨v, hv, ev⟩ := V y hy hy2
          refine h9 v (by omega) hv ?_
          simp only [hasV, List.any_eq_true, List.mem_range]
          exact ⟨y, hy, by simp [pv, hy2, ev]⟩
      have eg : g = maxP (hasV m u t c 40) 100 := by
        by_cases h0 : cntP (hasV m u t c 40) 100 = 0
        · rw [xs.2 h0]
          rcases g2 with h9 | h9
          · exact h9
          · exact absurd h9 (cs.mp h0 g (by omega) (by omega))
        · obtain ⟨a1, a2, a3⟩ := xs.1 h0
          have b1 := g3 _ a2 a1
          rcases g2 with h9 | h9
          · omega
          · have := a3 g (by omega) (by omega) h9
            omega
      by_cases h0 : cntP (hasV m u t c 40) 100 = 0
      · have hl0 := hz.mpr h0
        simp (disch := omega) only [u_br_True, u_br_False, u_jn_u, u_lt_u, u_nn_s, u_brn_s, u_brn_n, nI_add, u_n_mul, u_n_lt, u_n_le, u_n_eq, u_n_sub, u_n_div, u_n_mod, nI_clamp, u_m1, u_m1q, u_wI_n, u_wA_n, u_br_t, u_br_f, ↓li_m1, li_0, li_1, li_2, li_3, li_4, li_5, li_6, li_7, li_8, li_9, li_10, li_12, li_13, li_26, li_40, li_60, li_61, li_62, li_99, li_100, li_102, li_106, li_114, li_112, li_117, li_108, li_103, li_120, li_300, li_360, li_512, li_1000, sP_stP, Nat.reduceEqDiff, true_and, and_true, false_and, and_false, if_true, if_false, eq_self, and_self, Nat.reduceLT, Nat.reduceLeDiff, Nat.reduceAdd, Nat.reduceMul, Nat.reduceDiv, Nat.one_ne_zero, e3, hl0]
        rw [eg]
        rw [ms.2 h0] at h
        exact h
      · have hl0 : ¬ liv m t = 0 := fun h9 => h0 (hz.mp h9)
        have el : l = minP (hasV m u t c 40) 100 := by
          obtain ⟨a1, a2, a3, a4⟩ := ms.1 h0
          have b1 := l3 _ a3 a1
          rcases l2 with h9 | h9
          · omega
          · have := a4 l (by omega) (by omega) h9
            omega
        simp (disch := omega) only [u_br_True, u_br_False, u_jn_u, u_lt_u, u_nn_s, u_brn_s, u_brn_n, nI_add, u_n_mul, u_n_lt, u_n_le, u_n_eq, u_n_sub, u_n_div, u_n_mod, nI_clamp, u_m1, u_m1q, u_wI_n, u_wA_n, u_br_t, u_br_f, ↓li_m1, li_0, li_1, li_2, li_3, li_4, li_5, li_6, li_7, li_8, li_9, li_10, li_12, li_13, li_26, li_40, li_60, li_61, li_62, li_99, li_100, li_102, li_106, li_114, li_112, li_117, li_108, li_103, li_120, li_300, li_360, li_512, li_1000, sP_stP, Nat.reduceEqDiff, true_and, and_true, false_and, and_false, if_true, if_false, eq_self, and_self, Nat.reduceLT, Nat.reduceLeDiff, Nat.reduceAdd, Nat.reduceMul, Nat.reduceDiv, Nat.one_ne_zero, e3]
        rw [eg, el]
        exact h
  · have : cntP (hasV m u t c 0) 100 = 0 := (cnt0 (by omega)).mpr (fun x _ _ => by simp [hasV])
    rw [this]
    rfl
end COUNT
