section CBOOK
variable {m m' mm : Nat → Nat → Nat} {u u' w : Nat → Int32} {L L' E : List Nat} {σ σ' σ1 σ2 : St} {N kk t c k n q ban place p way x y b a i s v told f j cc d lo hi : Nat} {o o' ways g : Nat → Nat} {P Q : Nat → Prop}
/-- whether a way by an index can be -/
def wv (m : Nat → Nat → Nat) (q ban : Nat) (o : Nat → Nat) (place y : Nat) : Bool := (wIdx m q ban o place y).isSome
def eqc (m : Nat → Nat → Nat) (q k : Nat) : Bool := m 30 (4 * q + k) == 61
theorem setSt (σ : St) (i place y : Nat) (ix : Option Nat) : stP (stP (stP σ 5 i 3 place (nI (wCh y))) 5 i 4 place (wRe y)) 5 i 5 place (oI ix) = stP (stP (stP σ 5 i 3 place (nI (wCh y))) 5 i 4 place (wRe y)) 5 i 5 place (oI ix) := rfl
theorem oI_m1 {z : Option Nat} (h : ∀ k, z = some k → k < 2 ^ 31) : (oI z = mI) ↔ z.isSome = false := by
  cases z with
  | none => exact ⟨fun _ => rfl, fun _ => rfl⟩
  | some k =>
    have := h k rfl
    constructor
    · intro h9
      have h8 : nI k = mI := h9
      rw [u_m1 this] at h8
      exact h8.elim
    · intro h9; cases h9
theorem c_jBook (hN : 1000000 ≤ N) (Cq : CQ m σ) (W : WQ m) (Wx : WX m) (hq : q < m 24 0) (hT : TJ m q ban σ) (hP : PO σ i (m 25 q) o) (ho : Pm o) (hpl : place < m 25 q) {K : Int32 → St → Prop}
    (h1 : ∀ k, k < 3 → wv m q ban o place (k + 5) = true → (∀ z, z < k → wv m q ban o place (z + 5) = false) → K (nI 1) (stP (stP (stP σ 5 i 3 place (nI (wCh (k + 5)))) 5 i 4 place (wRe (k + 5))) 5 i 5 place (oI (wIdx m q ban o place (k + 5)))))
    (h2 : (∀ z, z < 3 → wv m q ban o place (z + 5) = false) → K (nI 0) σ) : z_X6_joinByBook N 0 (some i) (some q) (nI place) σ K := by
  have w3 := (W.2.2 q hq).1
  have hx6 := Wx.1
  unfold z_X6_joinByBook
  refine for_1 3 (by omega) (by omega) (fun k => ∀ z, z < k → wv m q ban o place (z + 5) = false) 0 (by omega) (fun self k hk hI hs => ?_) (fun z hz => by omega)
  by_cases hl : k < 3
  · have hb : ∀ z, wIdx m q ban o place (k + 5) = some z → z < 2 ^ 31 := fun z hz => by have := wIdx_lt hz; omega
    have er : wRe (k + 5) = nI k := by unfold wRe; rw [if_neg (by omega), if_neg (by omega), Nat.add_sub_cancel]
    have ew : nI (wCh (k + 5)) = nI 106 := by unfold wCh; rw [if_neg (by omega), if_neg (by omega)]
    simp (disch := omega) only [u_br_True, u_br_False, u_jn_u, u_lt_u, u_nn_s, u_brn_s, u_brn_n, nI_add, u_n_mul, u_n_lt, u_n_le, u_n_eq, u_n_sub, u_n_div, u_n_mod, nI_clamp, u_m1, u_m1q, u_wI_n, u_wA_n, u_br_t, u_br_f, ↓li_m1, li_0, li_1, li_2, li_3, li_4, li_5, li_6, li_7, li_8, li_9, li_10, li_12, li_13, li_26, li_40, li_60, li_61, li_62, li_99, li_100, li_102, li_106, li_114, li_112, li_117, li_108, li_103, li_120, li_300, li_360, li_512, li_1000, c_iJ Cq W hq hT hP ho hpl hl]
    cases hv : wv m q ban o place (k + 5) with
    | true =>
      have hne : ¬ oI (wIdx m q ban o place (k + 5)) = mI := fun e => by
        have := (oI_m1 hb).mp e
        unfold wv at hv
        rw [this] at hv; cases hv
      have := h1 k hl hv hI
      rw [u_br_f hne, ← ew, c_setWay (by omega)]
      rw [er] at this
      exact this
    | false =>
      rw [u_br_t ((oI_m1 hb).mpr hv)]
      refine hs hl (fun z hz => ?_)
      by_cases e : z = k
      · subst e; exact hv
      · exact hI z (by omega)
  · rw [show k = 3 by omega] at hI ⊢
    simp (disch := omega) only [u_br_True, u_br_False, u_jn_u, u_lt_u, u_nn_s, u_brn_s, u_brn_n, nI_add, u_n_mul, u_n_lt, u_n_le, u_n_eq, u_n_sub, u_n_div, u_n_mod, nI_clamp, u_m1, u_m1q, u_wI_n, u_wA_n, u_br_t, u_br_f, ↓li_m1, li_0, li_1, li_2, li_3, li_4, li_5, li_6, li_7, li_8, li_9, li_10, li_12, li_13, li_26, li_40, li_60, li_61, li_62, li_99, li_100, li_102, li_106, li_114, li_112, li_117, li_108, li_103, li_120, li_300, li_360, li_512, li_1000]
    exact h2 hI
theorem c_cBook (hN : 1000000 ≤ N) (S : SS m u σ) (W : WQ m) (Wx : WX m) (hq : q < m 24 0) (hT : TCo m q ban σ) (hP : PO σ i (m 25 q) o) (ho : Pm o) (hpl : place < m 25 q) (eq : Bool) {K : Int32 → St → Prop}
    (h1 : ∀ k, k < 4 → (wv m q ban o place (k + 1) && (eqc m q k == eq)) = true → (∀ z, z < k → (wv m q ban o place (z + 1) && (eqc m q z == eq)) = false) → K (nI 1) (stP (stP (stP σ 5 i 3 place (nI (wCh (k + 1)))) 5 i 4 place (wRe (k + 1))) 5 i 5 place (oI (wIdx m q ban o place (k + 1)))))
    (h2 : (∀ z, z < 4 → (wv m q ban o place (z + 1) && (eqc m q z == eq)) = false) → K (nI 0) σ) : z_X6_conditionByBook N 0 (some i) (some q) (nI place) (if eq = true then nI 1 else nI 0) σ K := by
  have w3 := (W.2.2 q hq).1
  have hx6 := Wx.1
  unfold z_X6_conditionByBook
  refine for_1 4 (by omega) (by omega) (fun k => ∀ z, z < k → (wv m q ban o place (z + 1) && (eqc m q z == eq)) = false) 0 (by omega) (fun self k hk hI hs => ?_) (fun z hz => by omega)
  by_cases hl : k < 4
  · have hb : ∀ z, wIdx m q ban o place (k + 1) = some z → z < 2 ^ 31 := fun z hz => by have := wIdx_lt hz; omega
    have er : wRe (k + 1) = nI k := by unfold wRe; rw [if_neg (by omega), if_pos (by omega), Nat.add_sub_cancel]
    have ew : nI (wCh (k + 1)) = nI 99 := by unfold wCh; rw [if_neg (by omega), if_pos (by omega)]
    have next : (wv m q ban o place (k + 1) && (eqc m q k == eq)) = false → self (nI (k + 1)) := fun hf => hs hl (fun z hz => by
      by_cases e : z = k
      · subst e; exact hf
      · exact hI z (by omega))
    obtain ⟨c1, c2⟩ := c_cond (N := N) S.2.2.2 W hq hl
    by_cases hk2 : k < m 27 q
    · obtain ⟨c, d1, d2, d3, d4, d5⟩ := c1 hk2
      obtain ⟨b1, b2, b3, b4⟩ := (W.2.2 q hq).2.2.2.2.1 k hk2
      have hsg : m 30 (4 * q + k) < 2 ^ 31 := by rcases b3 with h | h | h <;> omega
      simp (disch := omega) only [u_br_True, u_br_False, u_jn_u, u_lt_u, u_nn_s, u_brn_s, u_brn_n, nI_add, u_n_mul, u_n_lt, u_n_le, u_n_eq, u_n_sub, u_n_div, u_n_mod, nI_clamp, u_m1, u_m1q, u_wI_n, u_wA_n, u_br_t, u_br_f, ↓li_m1, li_0, li_1, li_2, li_3, li_4, li_5, li_6, li_7, li_8, li_9, li_10, li_12, li_13, li_26, li_40, li_60, li_61, li_62, li_99, li_100, li_102, li_106, li_114, li_112, li_117, li_108, li_103, li_120, li_300, li_360, li_512, li_1000, d1, c_iC S.2.2.2 W hq hT hP ho hpl hl]
      cases hv : wv m q ban o place (k + 1) with
      | true =>
        have hne : ¬ oI (wIdx m q ban o place (k + 1)) = mI := fun e => by
          have := (oI_m1 hb).mp e
          unfold wv at hv
          rw [this] at hv; cases hv
        rw [u_br_f hne]
        have hh := h1 k hl
        rw [hv] at hh next
        have eE : ∀ {K : Int32 → Prop}, z_X1_isEqual N c σ K = K (if eqc m q k = true then nI 1 else nI 0) := by
          intro K
          unfold eqc
          by_cases h61 : m 30 (4 * q + k) = 61
          · simp (disch := omega) only [z_X1_isEqual, u_br_True, u_br_False, u_jn_u, u_lt_u, u_nn_s, u_brn_s, u_brn_n, nI_add, u_n_mul, u_n_lt, u_n_le, u_n_eq, u_n_sub, u_n_div, u_n_mod, nI_clamp, u_m1, u_m1q, u_wI_n, u_wA_n, u_br_t, u_br_f, ↓li_m1, li_0, li_1, li_2, li_3, li_4, li_5, li_6, li_7, li_8, li_9, li_10, li_12, li_13, li_26, li_40, li_60, li_61, li_62, li_99, li_100, li_102, li_106, li_114, li_112, li_117, li_108, li_103, li_120, li_300, li_360, li_512, li_1000, d4, h61]
            rfl
          · simp (disch := omega) only [z_X1_isEqual, u_br_True, u_br_False, u_jn_u, u_lt_u, u_nn_s, u_brn_s, u_brn_n, nI_add, u_n_mul, u_n_lt, u_n_le, u_n_eq, u_n_sub, u_n_div, u_n_mod, nI_clamp, u_m1, u_m1q, u_wI_n, u_wA_n, u_br_t, u_br_f, ↓li_m1, li_0, li_1, li_2, li_3, li_4, li_5, li_6, li_7, li_8, li_9, li_10, li_12, li_13, li_26, li_40, li_60, li_61, li_62, li_99, li_100, li_102, li_106, li_114, li_112, li_117, li_108, li_103, li_120, li_300, li_360, li_512, li_1000, d4]
            rw [if_neg (by simpa using h61)]
        rw [eE]
        cases he : eqc m q k with
        | true =>
          rw [he] at hh next
          cases eq with
          | true =>
            have := hh rfl hI
            rw [u_br_t rfl, ← ew, c_setWay (by omega)]
            rw [er] at this
            exact this
          | false =>
            rw [u_br_f (by decide)]
            exact next rfl
        | false =>
          rw [he] at hh next
          cases eq with
          | true =>
            rw [u_br_f (by decide)]
            exact next rfl
          | false =>
            have := hh rfl hI
            rw [u_br_t rfl, ← ew, c_setWay (by omega)]
            rw [er] at this
            exact this
      | false =>
        rw [u_br_t ((oI_m1 hb).mpr hv)]
        exact next (by rw [hv]; rfl)
    · have c3 : ∀ {K : Option Nat → Prop}, z_X7_conditionAt N q (nI k) σ K = K none := c2 (by omega)
      have hv : wv m q ban o place (k + 1) = false := by
        unfold wv wIdx
        rw [if_neg (by omega), if_pos (by omega), if_neg (fun h => by omega)]
        rfl
      simp (disch := omega) only [u_br_True, u_br_False, u_jn_u, u_lt_u, u_nn_s, u_brn_s, u_brn_n, nI_add, u_n_mul, u_n_lt, u_n_le, u_n_eq, u_n_sub, u_n_div, u_n_mod, nI_clamp, u_m1, u_m1q, u_wI_n, u_wA_n, u_br_t, u_br_f, ↓li_m1, li_0, li_1, li_2, li_3, li_4, li_5, li_6, li_7, li_8, li_9, li_10, li_12, li_13, li_26, li_40, li_60, li_61, li_62, li_99, li_100, li_102, li_106, li_114, li_112, li_117, li_108, li_103, li_120, li_300, li_360, li_512, li_1000, c3, c_iC S.2.2.2 W hq hT hP ho hpl hl]
      rw [u_br_t ((oI_m1 hb).mpr hv)]
      exact next (by rw [hv]; rfl)
  · rw [show k = 4 by omega] at hI ⊢
    simp (disch := omega) only [u_br_True, u_br_False, u_jn_u, u_lt_u, u_nn_s, u_brn_s, u_brn_n, nI_add, u_n_mul, u_n_lt, u_n_le, u_n_eq, u_n_sub, u_n_div, u_n_mod, nI_clamp, u_m1, u_m1q, u_wI_n, u_wA_n, u_br_t, u_br_f, ↓li_m1, li_0, li_1, li_2, li_3, li_4, li_5, li_6, li_7, li_8, li_9, li_10, li_12, li_13, li_26, li_40, li_60, li_61, li_62, li_99, li_100, li_102, li_106, li_114, li_112, li_117, li_108, li_103, li_120, li_300, li_360, li_512, li_1000]
    exact h2 hI
/-! the way by the book -/
theorem bw_j (hk : k < 3) (h : wv m q ban idO place (k + 5) = true) (hz : ∀ z, z < k → wv m q ban idO place (z + 5) = false) : bway m q ban place = k + 5 := by
  unfold bway
  have : k = 0 ∨ k = 1 ∨ k = 2 := by omega
  rcases this with rfl | rfl | rfl
  · have e : (wIdx m q ban idO place 5).isSome = true := h
    simp only [List.find?_cons, e]
  · have e0 : (wIdx m q ban idO place 5).isSome = false := hz 0 (by omega)
    have e : (wIdx m q ban idO place 6).isSome = true := h
    simp only [List.find?_cons, e0, e]
  · have e0 : (wIdx m q ban idO place 5).isSome = false := hz 0 (by omega)
    have e1 : (wIdx m q ban idO place 6).isSome = false := hz 1 (by omega)
    have e : (wIdx m q ban idO place 7).isSome = true := h
    simp only [List.find?_cons, e0, e1, e]
theorem bw_n (hz : ∀ z, z < 3 → wv m q ban idO place (z + 5) = false) : bway m q ban place = match [1, 2, 3, 4].find? (fun y => (wIdx m q ban idO place y).isSome && m 30 (4 * q + (y - 1)) == 61) with
    | some y => y
    | none => match [1, 2, 3, 4].find? (fun y => (wIdx m q ban idO place y).isSome && !(m 30 (4 * q + (y - 1)) == 61)) with
      | some y => y
      | none => 0 := by
  unfold bway
  have e0 : (wIdx m q ban idO place 5).isSome = false := hz 0 (by omega)
  have e1 : (wIdx m q ban idO place 6).isSome = false := hz 1 (by omega)
  have e2 : (wIdx m q ban idO place 7).isSome = false := hz 2 (by omega)
  have e : [5, 6, 7].find? (fun y => (wIdx m q ban idO place y).isSome) = none := by simp only [List.find?_cons, List.find?_nil, e0, e1, e2]
  rw [e]
  rfl
theorem fd4 {p : Nat → Bool} (hk : k < 4) (h : p (k + 1) = true) (hz : ∀ z, z < k → p (z + 1) = false) : [1, 2, 3, 4].find? p = some (k + 1) := by
  have : k = 0 ∨ k = 1 ∨ k = 2 ∨ k = 3 := by omega
  rcases this with rfl | rfl | rfl | rfl
  · have e : p 1 = true := h
    simp only [List.find?_cons, e]
  · have e0 : p 1 = false := hz 0 (by omega)
    have e : p 2 = true := h
    simp only [List.find?_cons, e0, e]
  · have e0 : p 1 = false := hz 0 (by omega)
    have e1 : p 2 = false := hz 1 (by omega)
    have e : p 3 = true := h
    simp only [List.find?_cons, e0, e1, e]
  · have e0 : p 1 = false := hz 0 (by omega)
    have e1 : p 2 = false := hz 1 (by omega)
    have e2 : p 3 = false := hz 2 (by omega)
    have e : p 4 = true := h
    simp only [List.find?_cons, e0, e1, e2, e]
theorem fd4n {p : Nat → Bool} (hz : ∀ z, z < 4 → p (z + 1) = false) : [1, 2, 3, 4].find? p = none := by
  have e0 : p 1 = false := hz 0 (by omega)
  have e1 : p 2 = false := hz 1 (by omega)
  have e2 : p 3 = false := hz 2 (by omega)
  have e3 : p 4 = false := hz 3 (by omega)
  simp only [List.find?_cons, List.find?_nil, e0, e1, e2, e3]
theorem bw_e (hz : ∀ z, z < 3 → wv m q ban idO place (z + 5) = false) (hk : k < 4) (h : (wv m q ban idO place (k + 1) && (eqc m q k == true)) = true) (hz2 : ∀ z, z < k → (wv m q ban idO place (z + 1) && (eqc m q z == true)) = false) : bway m q ban place = k + 1 := by
  rw [bw_n hz, fd4 (p := fun y => (wIdx m q ban idO place y).isSome && m 30 (4 * q + (y - 1)) == 61) hk (by simpa [wv, eqc] using h) (fun z hz3 => by have := hz2 z hz3; simpa [wv, eqc] using this)]
theorem bw_o (hz : ∀ z, z < 3 → wv m q ban idO place (z + 5) = false) (hz1 : ∀ z, z < 4 → (wv m q ban idO place (z + 1) && (eqc m q z == true)) = false) (hk : k < 4) (h : (wv m q ban idO place (k + 1) && (eqc m q k == false)) = true) (hz2 : ∀ z, z < k → (wv m q ban idO place (z + 1) && (eqc m q z == false)) = false) : bway m q ban place = k + 1 := by
  rw [bw_n hz, fd4n (p := fun y => (wIdx m q ban idO place y).isSome && m 30 (4 * q + (y - 1)) == 61) (fun z hz3 => by have := hz1 z hz3; simpa [wv, eqc] using this)]
  simp only
  rw [fd4 (p := fun y => (wIdx m q ban idO place y).isSome && !(m 30 (4 * q + (y - 1)) == 61)) hk (by simpa [wv, eqc] using h) (fun z hz3 => by have := hz2 z hz3; simpa [wv, eqc] using this)]
theorem bw_z (hz : ∀ z, z < 3 → wv m q ban idO place (z + 5) = false) (hz1 : ∀ z, z < 4 → (wv m q ban idO place (z + 1) && (eqc m q z == true)) = false) (hz2 : ∀ z, z < 4 → (wv m q ban idO place (z + 1) && (eqc m q z == false)) = false) : bway m q ban place = 0 := by
  rw [bw_n hz, fd4n (p := fun y => (wIdx m q ban idO place y).isSome && m 30 (4 * q + (y - 1)) == 61) (fun z hz3 => by have := hz1 z hz3; simpa [wv, eqc] using this)]
  simp only
  rw [fd4n (p := fun y => (wIdx m q ban idO place y).isSome && !(m 30 (4 * q + (y - 1)) == 61)) (fun z hz3 => by have := hz2 z hz3; simpa [wv, eqc] using this)]
theorem ord0 (h : p < 3) : ordN 0 p = p := by
  have : p = 0 ∨ p = 1 ∨ p = 2 := by omega
  rcases this with rfl | rfl | rfl <;> rfl
theorem w_id (hp : place < 3) : wIdx m q ban (ordN 0) place y = wIdx m q ban idO place y := wIdx_cong (fun k hk => ord0 (by omega))
theorem wv_id (hp : place < 3) : wv m q ban (ordN 0) place y = wv m q ban idO place y := by unfold wv; rw [w_id hp]
theorem bway_ok (hp : place < 3) : okW m q ban idO place (bway m q ban place) := by
  rw [bway_eq]
  have h1 := bk_v (vb := vbM m q ban idO place) (rk := rkM m q) rfl (by show 3 < 9; decide) 8 (by omega)
  refine ⟨h1.2, ?_⟩
  have := h1.1
  simp only [vbM, Bool.or_eq_true, beq_iff_eq] at this
  exact this
theorem c_drawB (hN : 1000000 ≤ N) (S : SS m u σ) (W : WQ m) (Wx : WX m) (Wt : WT m u) (hq : q < m 24 0) (hC : TCo m q ban σ) (hT : TJ m q ban σ) {K : St → Prop}
    (h : ∀ s, K5 i σ s → PL m q ban 0 s i → sL_ s 5 i 6 0 = lN (est m q idO (bway m q ban) (m 25 q)) → K s) : z_X6_drawByBook N 0 (some i) (some q) σ K := by
  have w3 := (W.2.2 q hq).1
  have e1 := (S.2.2.2.2.2.2 q hq).1
  have hp0 := ord_P (show 0 < 6 by decide)
  simp only [z_X6_drawByBook, z_X7_size, e1, u_br_True, u_br_False, u_jn_u, u_lt_u, u_nn_s, u_brn_s, u_brn_n, ↓li_m1, li_0, li_1, li_2, li_3, li_4, li_5, li_6, li_7, li_8, li_9, li_10, li_12, li_13, li_26, li_40, li_60, li_61, li_62, li_99, li_100, li_102, li_106, li_114, li_112, li_117, li_108, li_103, li_120, li_300, li_360, li_512, li_1000]
  refine c_order hN (j := i) (Or.inr rfl) (by decide) w3 (fun s1 k1 h1 => ?_)
  obtain ⟨hP1, hW1⟩ := h1 okO_0
  refine for_u (m 25 q) (by omega) (by omega) (fun pl s => K5 i σ s ∧ PO s i (m 25 q) (ordN 0) ∧ (∀ p, p < pl → PW s i p (bway m q ban p) (wIdx m q ban idO p (bway m q ban p))) ∧ ∀ p, pl ≤ p → p < 3 → PW s i p 0 none) 0 (by omega) (fun self pl s hpl hI hs => ?_) ⟨k1, hP1, fun p hp => by omega, fun p _ hp => hW1 p hp⟩
  obtain ⟨i1, i2, i3, i4⟩ := hI
  have Ss := S.kx i1.kpl.kx
  have Cs := hC.k5 i1
  have Ts := hT.k5 i1
  by_cases hl : pl < m 25 q
  · simp (disch := omega) only [z_X5_size, i2.1, u_br_True, u_br_False, u_jn_u, u_lt_u, u_nn_s, u_brn_s, u_brn_n, nI_add, u_n_mul, u_n_lt, u_n_le, u_n_eq, u_n_sub, u_n_div, u_n_mod, nI_clamp, u_m1, u_m1q, u_wI_n, u_wA_n, u_br_t, u_br_f]
    have done : ∀ y, y = bway m q ban pl → self (nI (pl + 1)) (stP (stP (stP s 5 i 3 pl (nI (wCh y))) 5 i 4 pl (wRe y)) 5 i 5 pl (oI (wIdx m q ban (ordN 0) pl y))) := by
      intro y hy
      rw [w_id (by omega)]
      subst hy
      refine hs _ hl ⟨((i1.st (Or.inr rfl)).st (Or.inr rfl)).st (Or.inr rfl), i2.set, fun p hp => ?_, fun p hp hp2 => (i4 p (by omega) hp2).ne (by omega)⟩
      by_cases e : p = pl
      · subst e; exact PW.set
      · exact (i3 p (by omega)).ne e
    refine c_jBook hN Ss.2.2.2 W Wx hq Ts i2 hp0 hl (fun k hk hv hz => ?_) (fun hz => ?_)
    · simp (disch := omega) only [u_br_True, u_br_False, u_jn_u, u_lt_u, u_nn_s, u_brn_s, u_brn_n, nI_add, u_n_mul, u_n_lt, u_n_le, u_n_eq, u_n_sub, u_n_div, u_n_mod, nI_clamp, u_m1, u_m1q, u_wI_n, u_wA_n, u_br_t, u_br_f]
      refine done _ (bw_j hk (by rw [← wv_id (by omega)]; exact hv) (fun z hz2 => by rw [← wv_id (by omega)]; exact hz z hz2)).symm
    · have hz' : ∀ z, z < 3 → wv m q ban idO pl (z + 5) = false := fun z hz2 => by rw [← wv_id (by omega)]; exact hz z hz2
      simp (disch := omega) only [u_br_True, u_br_False, u_jn_u, u_lt_u, u_nn_s, u_brn_s, u_brn_n, nI_add, u_n_mul, u_n_lt, u_n_le, u_n_eq, u_n_sub, u_n_div, u_n_mod, nI_clamp, u_m1, u_m1q, u_wI_n, u_wA_n, u_br_t, u_br_f]
      refine c_cBook hN Ss W Wx hq Cs i2 hp0 hl true (fun k hk hv hz2 => ?_) (fun hz2 => ?_)
      · simp (disch := omega) only [u_br_True, u_br_False, u_jn_u, u_lt_u, u_nn_s, u_brn_s, u_brn_n, nI_add, u_n_mul, u_n_lt, u_n_le, u_n_eq, u_n_sub, u_n_div, u_n_mod, nI_clamp, u_m1, u_m1q, u_wI_n, u_wA_n, u_br_t, u_br_f]
        refine done _ (bw_e hz' hk (by rw [← wv_id (by omega)]; exact hv) (fun z hz3 => by rw [← wv_id (by omega)]; exact hz2 z hz3)).symm
      · have hz2' : ∀ z, z < 4 → (wv m q ban idO pl (z + 1) && (eqc m q z == true)) = false := fun z hz3 => by rw [← wv_id (by omega)]; exact hz2 z hz3
        simp (disch := omega) only [u_br_True, u_br_False, u_jn_u, u_lt_u, u_nn_s, u_brn_s, u_brn_n, nI_add, u_n_mul, u_n_lt, u_n_le, u_n_eq, u_n_sub, u_n_div, u_n_mod, nI_clamp, u_m1, u_m1q, u_wI_n, u_wA_n, u_br_t, u_br_f]
        refine c_cBook hN Ss W Wx hq Cs i2 hp0 hl false (fun k hk hv hz3 => ?_) (fun hz3 => ?_)
        · refine done _ (bw_o hz' hz2' hk (by rw [← wv_id (by omega)]; exact hv) (fun z hz4 => by rw [← wv_id (by omega)]; exact hz3 z hz4)).symm
        · have hz3' : ∀ z, z < 4 → (wv m q ban idO pl (z + 1) && (eqc m q z == false)) = false := fun z hz4 => by rw [← wv_id (by omega)]; exact hz3 z hz4
          have e0 := bw_z hz' hz2' hz3'
          refine hs _ hl ⟨i1, i2, fun p hp => ?_, fun p hp hp2 => i4 p (by omega) hp2⟩
          by_cases e : p = pl
          · subst e
            rw [e0]
            exact i4 p (Nat.le_refl _) (by omega)
          · exact i3 p (by omega)
  · have hpl2 : pl = m 25 q := by omega
    subst hpl2
    simp (disch := omega) only [z_X5_size, i2.1, u_br_True, u_br_False, u_jn_u, u_lt_u, u_nn_s, u_brn_s, u_brn_n, nI_add, u_n_mul, u_n_lt, u_n_le, u_n_eq, u_n_sub, u_n_div, u_n_mod, nI_clamp, u_m1, u_m1q, u_wI_n, u_wA_n, u_br_t, u_br_f]
    refine c_guess hN Ss W Wt hq Cs Ts i2 hp0 (fun p hp => by rw [ord0 (by omega)]; exact hp) (fun p hp => ⟨_, i3 p hp⟩) (fun p hp => ?_) ?_
    · have := bway_ok (m := m) (q := q) (ban := ban) (show p < 3 by omega)
      unfold okW at this ⊢
      rw [w_id (by omega)]
      exact this
    · have ee : est m q (ordN 0) (bway m q ban) (m 25 q) = est m q idO (bway m q ban) (m 25 q) := est_cong (fun p hp => ord0 (by omega)) (fun p _ => rfl)
      rw [ee]
      simp only [z_X5_setGuess, u_br_True, u_br_False, u_jn_u, u_lt_u, u_nn_s, u_brn_s, u_brn_n]
      refine h _ (i1.stl (Or.inr rfl)) ?_ (by simp only [sL_stL, Nat.reduceEqDiff, true_and, and_true, false_and, and_false, if_true, if_false, eq_self, and_self, Nat.reduceLT, Nat.reduceLeDiff, Nat.reduceAdd, Nat.reduceMul, Nat.reduceDiv, Nat.one_ne_zero])
      refine ⟨i2.1, fun p hp => ?_⟩
      obtain ⟨a1, a2⟩ := i2.2 p (by omega)
      obtain ⟨a3, a4, a5⟩ := i3 p hp
      rw [ord0 (by omega)] at a1 a2
      exact ⟨a1, a2, a3, a4, a5⟩
end CBOOK
