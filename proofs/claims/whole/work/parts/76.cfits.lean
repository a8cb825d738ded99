section CFITS
variable {m : Nat → Nat → Nat} {u w : Nat → Int32} {L : List Nat} {σ σ' s s2 : St} {N kk n q p d ban t r c k a x i place v told : Nat} {g o : Nat → Nat} {A : Nat → Bool}
/-- plan i holds an order of the positions -/
def PQ (σ : St) (i n : Nat) (o : Nat → Nat) : Prop := sP σ 5 i 0 0 = nI n ∧ ∀ p, p < n → sP σ 5 i 1 p = nI (o p) ∧ sP σ 5 i 2 (o p) = nI p
def PN (n : Nat) (o : Nat → Nat) : Prop := (∀ p, p < n → o p < n) ∧ (∀ p, p < n → ∀ p', p' < n → o p = o p' → p = p') ∧ ∀ a, a < n → ∃ p, p < n ∧ o p = a
theorem PN_id : PN n idO := ⟨fun _ h => h, fun _ _ _ _ h => h, fun a h => ⟨a, h, rfl⟩⟩
theorem aheadN_o (ho : PN n o) (hp : p < n) (hpl : place ≤ n) : ahead o place (o p) = true ↔ p < place := by
  unfold ahead
  rw [List.any_eq_true]
  refine ⟨fun h => ?_, fun h => ⟨p, List.mem_range.mpr h, by simp⟩⟩
  obtain ⟨k, hk, e⟩ := h
  have hk' := List.mem_range.mp hk
  have e' := of_decide_eq_true e
  have := ho.2.1 k (by omega) p hp e'
  omega
theorem c_posQ (hP : PQ σ i n o) (hn : n ≤ 3) (hp : p < n) {K : Int32 → Prop} : z_X5_positionAt N i (nI p) σ K = K (nI (o p)) := by
  simp (disch := omega) only [z_X5_positionAt, u_br_True, u_br_False, u_jn_u, u_lt_u, u_nn_s, u_brn_s, u_brn_n, nI_add, u_n_mul, u_n_lt, u_n_le, u_n_eq, u_n_sub, u_n_div, u_n_mod, nI_clamp, u_m1, u_m1q, u_wI_n, u_wA_n, u_br_t, u_br_f, ↓li_m1, li_0, li_1, li_2, li_3, li_4, li_5, li_6, li_7, li_8, li_9, li_10, li_12, li_13, li_26, li_40, li_60, li_61, li_62, li_99, li_100, li_102, li_106, li_114, li_112, li_117, li_108, li_103, li_120, li_300, li_360, li_512, li_1000, (hP.2 p hp).1]
theorem c_aheadQ (hP : PQ σ i n o) (ho : PN n o) (hn : n ≤ 3) (ha : a < n) (hpl : place ≤ n) {K : Int32 → Prop} : z_X5_isAhead N i (nI a) (nI place) σ K = K (bI (ahead o place a)) := by
  obtain ⟨p, hp, rfl⟩ := ho.2.2 a ha
  have e := (hP.2 p hp).2
  have := ho.1 p hp
  have ha := aheadN_o ho hp hpl
  simp (disch := omega) only [z_X5_isAhead, u_br_True, u_br_False, u_jn_u, u_lt_u, u_nn_s, u_brn_s, u_brn_n, nI_add, u_n_mul, u_n_lt, u_n_le, u_n_eq, u_n_sub, u_n_div, u_n_mod, nI_clamp, u_m1, u_m1q, u_wI_n, u_wA_n, u_br_t, u_br_f, ↓li_m1, li_0, li_1, li_2, li_3, li_4, li_5, li_6, li_7, li_8, li_9, li_10, li_12, li_13, li_26, li_40, li_60, li_61, li_62, li_99, li_100, li_102, li_106, li_114, li_112, li_117, li_108, li_103, li_120, li_300, li_360, li_512, li_1000, hP.1, e]
  by_cases hl : place ≤ p
  · rw [u_br_t hl]
    have : ahead o place (o p) = false := by
      cases h : ahead o place (o p) with
      | false => rfl
      | true => have := ha.mp h; omega
    rw [this, bI_f]
  · rw [u_br_f hl, ha.mpr (by omega), bI_t]
theorem c_allows {s_ : Nat} (hs : sg s_) (h2 : sP σ 1 c 2 0 = nI s_) (h3 : sP σ 1 c 3 0 = nI told) (hv : v < 2 ^ 31) (ht : told < 2 ^ 31) {K : Int32 → Prop} : z_X1_allows N c (nI v) σ K = K (bI (hold s_ told v)) := by
  rcases hs with rfl | rfl | rfl
  · by_cases h : v = told
    · simp (disch := omega) only [z_X1_allows, u_br_True, u_br_False, u_jn_u, u_lt_u, u_nn_s, u_brn_s, u_brn_n, nI_add, u_n_mul, u_n_lt, u_n_le, u_n_eq, u_n_sub, u_n_div, u_n_mod, nI_clamp, u_m1, u_m1q, u_wI_n, u_wA_n, u_br_t, u_br_f, ↓li_m1, li_0, li_1, li_2, li_3, li_4, li_5, li_6, li_7, li_8, li_9, li_10, li_12, li_13, li_26, li_40, li_60, li_61, li_62, li_99, li_100, li_102, li_106, li_114, li_112, li_117, li_108, li_103, li_120, li_300, li_360, li_512, li_1000, h2, h3]
      simp [hold, h, bI]
    · simp (disch := omega) only [z_X1_allows, u_br_True, u_br_False, u_jn_u, u_lt_u, u_nn_s, u_brn_s, u_brn_n, nI_add, u_n_mul, u_n_lt, u_n_le, u_n_eq, u_n_sub, u_n_div, u_n_mod, nI_clamp, u_m1, u_m1q, u_wI_n, u_wA_n, u_br_t, u_br_f, ↓li_m1, li_0, li_1, li_2, li_3, li_4, li_5, li_6, li_7, li_8, li_9, li_10, li_12, li_13, li_26, li_40, li_60, li_61, li_62, li_99, li_100, li_102, li_106, li_114, li_112, li_117, li_108, li_103, li_120, li_300, li_360, li_512, li_1000, h2, h3]
      simp [hold, h, bI]
  · by_cases h : v < told
    · simp (disch := omega) only [z_X1_allows, u_br_True, u_br_False, u_jn_u, u_lt_u, u_nn_s, u_brn_s, u_brn_n, nI_add, u_n_mul, u_n_lt, u_n_le, u_n_eq, u_n_sub, u_n_div, u_n_mod, nI_clamp, u_m1, u_m1q, u_wI_n, u_wA_n, u_br_t, u_br_f, ↓li_m1, li_0, li_1, li_2, li_3, li_4, li_5, li_6, li_7, li_8, li_9, li_10, li_12, li_13, li_26, li_40, li_60, li_61, li_62, li_99, li_100, li_102, li_106, li_114, li_112, li_117, li_108, li_103, li_120, li_300, li_360, li_512, li_1000, h2, h3]
      simp [hold, h, bI]
    · simp (disch := omega) only [z_X1_allows, u_br_True, u_br_False, u_jn_u, u_lt_u, u_nn_s, u_brn_s, u_brn_n, nI_add, u_n_mul, u_n_lt, u_n_le, u_n_eq, u_n_sub, u_n_div, u_n_mod, nI_clamp, u_m1, u_m1q, u_wI_n, u_wA_n, u_br_t, u_br_f, ↓li_m1, li_0, li_1, li_2, li_3, li_4, li_5, li_6, li_7, li_8, li_9, li_10, li_12, li_13, li_26, li_40, li_60, li_61, li_62, li_99, li_100, li_102, li_106, li_114, li_112, li_117, li_108, li_103, li_120, li_300, li_360, li_512, li_1000, h2, h3]
      simp [hold, h, bI]
  · by_cases h : told < v
    · simp (disch := omega) only [z_X1_allows, u_br_True, u_br_False, u_jn_u, u_lt_u, u_nn_s, u_brn_s, u_brn_n, nI_add, u_n_mul, u_n_lt, u_n_le, u_n_eq, u_n_sub, u_n_div, u_n_mod, nI_clamp, u_m1, u_m1q, u_wI_n, u_wA_n, u_br_t, u_br_f, ↓li_m1, li_0, li_1, li_2, li_3, li_4, li_5, li_6, li_7, li_8, li_9, li_10, li_12, li_13, li_26, li_40, li_60, li_61, li_62, li_99, li_100, li_102, li_106, li_114, li_112, li_117, li_108, li_103, li_120, li_300, li_360, li_512, li_1000, h2, h3]
      simp [hold, h, bI]
    · simp (disch := omega) only [z_X1_allows, u_br_True, u_br_False, u_jn_u, u_lt_u, u_nn_s, u_brn_s, u_brn_n, nI_add, u_n_mul, u_n_lt, u_n_le, u_n_eq, u_n_sub, u_n_div, u_n_mod, nI_clamp, u_m1, u_m1q, u_wI_n, u_wA_n, u_br_t, u_br_f, ↓li_m1, li_0, li_1, li_2, li_3, li_4, li_5, li_6, li_7, li_8, li_9, li_10, li_12, li_13, li_26, li_40, li_60, li_61, li_62, li_99, li_100, li_102, li_106, li_114, li_112, li_117, li_108, li_103, li_120, li_300, li_360, li_512, li_1000, h2, h3]
      simp [hold, h, bI]
/-- the cells held by the runner of the rows chosen -/
def HE (m : Nat → Nat → Nat) (u : Nat → Int32) (q : Nat) (σ : St) (A : Nat → Bool) (g : Nat → Nat) : Prop := ∀ x, x < 3 → A x = true → ∀ c, c < 3 → sP σ 8 0 6 (3 * x + c) = vl u (tq m q x) (g x) c
theorem c_held (H : HE m u q σ A g) (hx : x < 3) (ha : A x = true) (hc : c < 3) {K : Int32 → Prop} : z_X8_heldAt N 0 (nI x) (nI c) σ K = K (vl u (tq m q x) (g x) c) := by
  have e := H x hx ha c hc
  rw [show 3 * x + c = x * 3 + c by omega] at e
  simp (disch := omega) only [z_X8_heldAt, u_br_True, u_br_False, u_jn_u, u_lt_u, u_nn_s, u_brn_s, u_brn_n, nI_add, u_n_mul, u_n_lt, u_n_le, u_n_eq, u_n_sub, u_n_div, u_n_mod, nI_clamp, u_m1, u_m1q, u_wI_n, u_wA_n, u_br_t, u_br_f, ↓li_m1, li_0, li_1, li_2, li_3, li_4, li_5, li_6, li_7, li_8, li_9, li_10, li_12, li_13, li_26, li_40, li_60, li_61, li_62, li_99, li_100, li_102, li_106, li_114, li_112, li_117, li_108, li_103, li_120, li_300, li_360, li_512, li_1000, e]
theorem allN_f {f : Nat → Bool} (h : k < n) (hf : f k = false) : allN f n = false := by
  unfold allN
  cases e : (List.range n).all f with
  | false => rfl
  | true =>
    rw [List.all_eq_true] at e
    rw [e k (List.mem_range.mpr h)] at hf
    cases hf
def withP (o : Nat → Nat) (place x : Nat) : Bool := ahead o place x || x == o place
theorem c_fits (hN : 1000000 ≤ N) (S : SS m u σ) (W : WQ m) (Wt : WT m u) (hq : q < m 24 0) (hQ : sQ σ 8 0 2 0 = some q) (hI : sQ σ 8 0 3 0 = some i) (hP : PQ σ i (m 25 q) o) (ho : PN (m 25 q) o) (hpl : place < m 25 q) (hr : g (o place) < 40)
    (hg : ∀ x, x < m 25 q → ahead o place x = true → g x < 40 ∧ th m (tq m q x) (g x) = true) (H : HE m u q σ (ahead o place) g) {K : Int32 → Prop} (h : K (bI (fitM m u q g (withP o place) (o place)))) : z_X8_fits N 0 (nI place) (some (tq m q (o place))) (nI (g (o place))) σ K := by
  have w1 := W.1
  have w3 := W.2.2 q hq
  have h1 := Wt.nt
  have hop := ho.1 place hpl
  have ht : tq m q (o place) < m 1 0 := w3.2.2.2.1 _ hop
  have hcl := Wt.cl ht
  have T := S.2.1.2.2.2 _ ht
  have Cq := S.2.2.2.2.2.2 q hq
  have e27 := Cq.2.1
  have e32 := Cq.2.2.1
  have cr : ∀ {K : Int32 → Prop}, z_X10_hasRow N (tq m q (o place)) (nI (g (o place))) σ K = K (bI (th m (tq m q (o place)) (g (o place)))) := fun {K} => c_hasR T Wt (by omega) hr
  simp only [z_X8_fits, u_br_True, u_br_False, u_jn_u, u_lt_u, u_nn_s, u_brn_s, u_brn_n, cr]
  cases hth : th m (tq m q (o place)) (g (o place)) with
  | false =>
    rw [bI_f, li_0, u_br_t rfl]
    have : fitM m u q g (withP o place) (o place) = false := by simp [fitM, hth]
    rw [this] at h
    exact h
  | true =>
    have hr3 : g (o place) < m 3 (tq m q (o place)) := by
      refine Nat.lt_of_not_le (fun h9 => ?_)
      have := Wt.2.2.2.2.2.1 _ _ (by omega) hr h9
      simp [th, this] at hth
    simp (disch := omega) only [bI_t, ↓li_m1, li_0, li_1, li_2, li_3, li_4, li_5, li_6, li_7, li_8, li_9, li_10, li_12, li_13, li_26, li_40, li_60, li_61, li_62, li_99, li_100, li_102, li_106, li_114, li_112, li_117, li_108, li_103, li_120, li_300, li_360, li_512, li_1000, b10, hQ, hI, u_br_True, u_br_False, u_jn_u, u_lt_u, u_nn_s, u_brn_s, u_brn_n, c_posQ hP w3.1 hpl]
    refine for_1 (m 27 q) (by omega) (by omega) (fun j => allN (cOk m u q g (o place)) j = true) 0 (by omega) (fun self j hj hI2 hs => ?_) rfl
    by_cases hl : j < m 27 q
    · obtain ⟨c1, c2, c3, c4⟩ := w3.2.2.2.2.1 j hl
      obtain ⟨cc, d1, d2, d3, d4, d5⟩ := (c_cond (N := N) S.2.2.2 W hq (by omega : j < 4)).1 hl
      simp (disch := omega) only [z_X7_conditionCount, e27, nI_add, u_n_mul, u_n_lt, u_n_le, u_n_eq, u_n_sub, u_n_div, u_n_mod, nI_clamp, u_m1, u_m1q, u_wI_n, u_wA_n, u_br_t, u_br_f, u_br_True, u_br_False, u_jn_u, u_lt_u, u_nn_s, u_brn_s, u_brn_n, d1, z_X1_position, z_X1_column, d2, d3]
      by_cases he : m 28 (4 * q + j) = o place
      · rw [he] at c2
        obtain ⟨v1, v2⟩ := cvl_n Wt ht c2 hr hth
        rw [u_br_t he]
        simp (disch := omega) only [c_cell T hr3 hr (by omega : m 29 (4 * q + j) < 3), v1, c_allows c3 d4 d5 (by omega : cvl u (tq m q (o place)) (g (o place)) (m 29 (4 * q + j)) < 2 ^ 31) (by omega : m 31 (4 * q + j) < 2 ^ 31)]
        cases hh : hold (m 30 (4 * q + j)) (m 31 (4 * q + j)) (cvl u (tq m q (o place)) (g (o place)) (m 29 (4 * q + j))) with
        | true =>
          rw [bI_t, u_br_f (by rw [b10]; exact fun h => h)]
          refine hs hl ?_
          rw [allN_s, hI2]
          simp [cOk, hh]
        | false =>
          rw [bI_f, u_br_t rfl]
          have : fitM m u q g (withP o place) (o place) = false := by
            have e1 : cOk m u q g (o place) j = false := by simp [cOk, he, hh]
            simp only [fitM, allN_f hl e1, Bool.and_false, Bool.false_and]
          rw [this] at h
          exact h
      · rw [u_br_f he]
        refine hs hl ?_
        rw [allN_s, hI2]
        simp [cOk, he]
    · have hj2 : j = m 27 q := by omega
      subst hj2
      simp (disch := omega) only [z_X7_conditionCount, e27, nI_add, u_n_mul, u_n_lt, u_n_le, u_n_eq, u_n_sub, u_n_div, u_n_mod, nI_clamp, u_m1, u_m1q, u_wI_n, u_wA_n, u_br_t, u_br_f, u_br_True, u_br_False, u_jn_u, u_lt_u, u_nn_s, u_brn_s, u_brn_n]
      refine for_1 (m 32 q) (by omega) (by omega) (fun j => allN (jOk m u q g (withP o place) (o place)) j = true) 0 (by omega) (fun self j hj hI3 hs => ?_) rfl
      by_cases hl : j < m 32 q
      · obtain ⟨c1, c2, c3, c4, c5⟩ := w3.2.2.2.2.2 j hl
        obtain ⟨cc, d1, d2, d3, d4, d5⟩ := (c_joinA (N := N) S.2.2.2 W hq (by omega : j < 3)).1 hl
        have t1 : tq m q (m 33 (3 * q + j)) < m 1 0 := w3.2.2.2.1 _ c1
        have t2 : tq m q (m 35 (3 * q + j)) < m 1 0 := w3.2.2.2.1 _ c3
        have cl1 := Wt.cl t1
        have cl2 := Wt.cl t2
        have gd : jOk m u q g (withP o place) (o place) j = true → self (nI (j + 1)) := fun e => hs hl (by rw [allN_s, hI3, e]; rfl)
        have bd : jOk m u q g (withP o place) (o place) j = false → K (nI 0) := fun e => by
          have : fitM m u q g (withP o place) (o place) = false := by simp only [fitM, allN_f hl e, Bool.and_false]
          rw [this] at h
          exact h
        have wO : withP o place (o place) = true := by simp [withP]
        simp (disch := omega) only [z_X7_joinCount, e32, nI_add, u_n_mul, u_n_lt, u_n_le, u_n_eq, u_n_sub, u_n_div, u_n_mod, nI_clamp, u_m1, u_m1q, u_wI_n, u_wA_n, u_br_t, u_br_f, u_br_True, u_br_False, u_jn_u, u_lt_u, u_nn_s, u_brn_s, u_brn_n, d1, c_partner d2 d4 (by omega : m 33 (3 * q + j) < 3) (by omega : m 35 (3 * q + j) < 3) (by omega : o place < 3)]
        by_cases e33 : o place = m 33 (3 * q + j)
        · have n35 : ¬ m 35 (3 * q + j) = o place := by omega
          rw [if_pos e33, c_aheadQ hP ho w3.1 c3 (by omega)]
          cases ha : ahead o place (m 35 (3 * q + j)) with
          | false =>
            rw [bI_f, u_br_t rfl]
            refine gd ?_
            have : withP o place (m 35 (3 * q + j)) = false := by simp [withP, ha, n35]
            simp [jOk, this]
          | true =>
            have wA : withP o place (m 35 (3 * q + j)) = true := by simp [withP, ha]
            obtain ⟨g1, g2⟩ := hg _ c3 ha
            rw [e33] at hth hr hr3 T wO
            obtain ⟨v1, v2⟩ := cvl_n Wt t1 c2 hr hth
            obtain ⟨v3, v4⟩ := cvl_n Wt t2 c4 g1 g2
            rw [bI_t, u_br_f (by rw [b10]; exact fun h => h)]
            simp (disch := omega) only [c_colOf d2 d4 d3 d5 (by omega : m 33 (3 * q + j) < 3) (by omega : m 35 (3 * q + j) < 3) (by omega : m 35 (3 * q + j) < 3), c_colOf d2 d4 d3 d5 (by omega : m 33 (3 * q + j) < 3) (by omega : m 35 (3 * q + j) < 3) (by omega : o place < 3), if_pos e33, if_neg (fun e : m 35 (3 * q + j) = m 33 (3 * q + j) => c5 e.symm), if_true, eq_self, c_held H (by omega : m 35 (3 * q + j) < 3) ha (by omega : m 36 (3 * q + j) < 3)]
            rw [e33]
            simp (disch := omega) only [c_cell T hr3 hr (by omega : m 34 (3 * q + j) < 3), v1, v3, nI_add, u_n_mul, u_n_lt, u_n_le, u_n_eq, u_n_sub, u_n_div, u_n_mod, nI_clamp, u_m1, u_m1q, u_wI_n, u_wA_n, u_br_t, u_br_f]
            by_cases hv : cvl u (tq m q (m 35 (3 * q + j))) (g (m 35 (3 * q + j))) (m 36 (3 * q + j)) = cvl u (tq m q (m 33 (3 * q + j))) (g (m 33 (3 * q + j))) (m 34 (3 * q + j))
            · rw [u_br_t hv]
              exact gd (by simp [jOk, hv])
            · rw [u_br_f hv]
              refine bd ?_
              simp only [jOk, wO, wA, beq_eq_false_iff_ne.mpr (fun e => hv e.symm)]
              simp [e33]
        · rw [if_neg e33]
          by_cases e35 : o place = m 35 (3 * q + j)
          · have n33 : ¬ m 33 (3 * q + j) = o place := by omega
            rw [if_pos e35, c_aheadQ hP ho w3.1 c1 (by omega)]
            cases ha : ahead o place (m 33 (3 * q + j)) with
            | false =>
              rw [bI_f, u_br_t rfl]
              refine gd ?_
              have : withP o place (m 33 (3 * q + j)) = false := by simp [withP, ha, n33]
              simp [jOk, this]
            | true =>
              have wA : withP o place (m 33 (3 * q + j)) = true := by simp [withP, ha]
              obtain ⟨g1, g2⟩ := hg _ c1 ha
              rw [e35] at hth hr hr3 T wO
              obtain ⟨v1, v2⟩ := cvl_n Wt t2 c4 hr hth
              obtain ⟨v3, v4⟩ := cvl_n Wt t1 c2 g1 g2
              rw [bI_t, u_br_f (by rw [b10]; exact fun h => h)]
              simp (disch := omega) only [c_colOf d2 d4 d3 d5 (by omega : m 33 (3 * q + j) < 3) (by omega : m 35 (3 * q + j) < 3) (by omega : m 33 (3 * q + j) < 3), c_colOf d2 d4 d3 d5 (by omega : m 33 (3 * q + j) < 3) (by omega : m 35 (3 * q + j) < 3) (by omega : o place < 3), if_pos e35, if_neg e33, if_true, eq_self, c_held H (by omega : m 33 (3 * q + j) < 3) ha (by omega : m 34 (3 * q + j) < 3)]
              rw [e35]
              simp (disch := omega) only [c_cell T hr3 hr (by omega : m 36 (3 * q + j) < 3), v1, v3, nI_add, u_n_mul, u_n_lt, u_n_le, u_n_eq, u_n_sub, u_n_div, u_n_mod, nI_clamp, u_m1, u_m1q, u_wI_n, u_wA_n, u_br_t, u_br_f]
              by_cases hv : cvl u (tq m q (m 33 (3 * q + j))) (g (m 33 (3 * q + j))) (m 34 (3 * q + j)) = cvl u (tq m q (m 35 (3 * q + j))) (g (m 35 (3 * q + j))) (m 36 (3 * q + j))
              · rw [u_br_t hv]
                exact gd (by simp [jOk, hv])
              · rw [u_br_f hv]
                refine bd ?_
                simp only [jOk, wO, wA, beq_eq_false_iff_ne.mpr hv]
                simp [e35]
          · rw [if_neg e35, c_aheadN, u_br_t rfl]
            refine gd ?_
            have e1 : (m 33 (3 * q + j) == o place) = false := beq_eq_false_iff_ne.mpr (fun e => e33 e.symm)
            have e2 : (m 35 (3 * q + j) == o place) = false := beq_eq_false_iff_ne.mpr (fun e => e35 e.symm)
            simp [jOk, e1, e2]
      · have hj2 : j = m 32 q := by omega
        subst hj2
        simp (disch := omega) only [z_X7_joinCount, e32, nI_add, u_n_mul, u_n_lt, u_n_le, u_n_eq, u_n_sub, u_n_div, u_n_mod, nI_clamp, u_m1, u_m1q, u_wI_n, u_wA_n, u_br_t, u_br_f, u_br_True, u_br_False, u_jn_u, u_lt_u, u_nn_s, u_brn_s, u_brn_n, ↓li_m1, li_0, li_1, li_2, li_3, li_4, li_5, li_6, li_7, li_8, li_9, li_10, li_12, li_13, li_26, li_40, li_60, li_61, li_62, li_99, li_100, li_102, li_106, li_114, li_112, li_117, li_108, li_103, li_120, li_300, li_360, li_512, li_1000]
        have : fitM m u q g (withP o place) (o place) = true := by simp only [fitM, hth, hI2, hI3, Bool.and_true]
        rw [this] at h
        exact h
end CFITS
