section FORGET
variable {m m' : Nat → Nat → Nat} {u u' w : Nat → Int32} {L E : List Nat} {σ σ' σ1 : St} {N kk t c k n F key row : Nat}
/-! the reference's caches -/
def RO (σ : St) (c : Nat) (L : List Nat) : Prop := sP σ 12 0 21 c = nI L.length ∧ ∀ j, j < L.length → sP σ 12 0 20 (13 * c + j) = nI (L.getD j 0)
def KR (c : Nat) (σ σ' : St) : Prop := (∀ k' i f j, ¬ (k' = 12 ∧ i = 0 ∧ ((f = 20 ∧ 13 * c ≤ j ∧ j < 13 * c + 13) ∨ (f = 21 ∧ j = c) ∨ f = 22 ∨ f = 23)) → sP σ' k' i f j = sP σ k' i f j) ∧ sL_ σ' = sL_ σ ∧ sQ σ' = sQ σ ∧ sD_ σ' = sD_ σ ∧ sV σ' = sV σ
theorem KR.refl : KR c σ σ := ⟨fun _ _ _ _ _ => rfl, rfl, rfl, rfl, rfl⟩
theorem KR.trans {σ2 : St} (a : KR c σ σ') (b : KR c σ' σ2) : KR c σ σ2 := ⟨fun k' i f j h => (b.1 k' i f j h).trans (a.1 k' i f j h), b.2.1.trans a.2.1, b.2.2.1.trans a.2.2.1, b.2.2.2.1.trans a.2.2.2.1, b.2.2.2.2.trans a.2.2.2.2⟩
theorem KR.st {f j : Nat} {v : Int32} (h : KR c σ σ') (hf : (f = 20 ∧ 13 * c ≤ j ∧ j < 13 * c + 13) ∨ (f = 21 ∧ j = c) ∨ f = 22 ∨ f = 23) : KR c σ (stP σ' 12 0 f j v) := by
  refine ⟨fun k' i f' j' hn => ?_, h.2.1, h.2.2.1, h.2.2.2.1, h.2.2.2.2⟩
  rw [sP_stP, if_neg (fun e => hn ⟨e.1, e.2.1, by rw [e.2.2.1, e.2.2.2]; exact hf⟩)]
  exact h.1 k' i f' j' hn
theorem KR.kc (h : KR c σ σ') : KC σ σ' := ⟨fun k' i f j hn => h.1 k' i f j (fun e => hn e.1), h.2.1, h.2.2.1, h.2.2.2.1, h.2.2.2.2⟩
theorem KR.f (h : KR c σ σ') {f j : Nat} (hf : f ≠ 20 ∧ f ≠ 21 ∧ f ≠ 22 ∧ f ≠ 23) : sP σ' 12 0 f j = sP σ 12 0 f j := h.1 12 0 f j (fun e => by rcases e.2.2 with h9 | h9 | h9 | h9 <;> omega)
theorem RI.ro (R : RI m u w L σ) : RO σ 0 L := ⟨R.2.2.2.1, fun j hj => by rw [show 13 * 0 + j = j by omega, R.2.2.2.2 j hj, getD_e hj]⟩
theorem RI.kr0 {L' : List Nat} (R : RI m u w L σ) (h : KR 0 σ σ') (X : RO σ' 0 L') : RI m u w L' σ' := by
  have e : ∀ f j, (f ≠ 20 ∧ f ≠ 21 ∧ f ≠ 22 ∧ f ≠ 23) → sP σ' 12 0 f j = sP σ 12 0 f j := fun f j hf => h.f hf
  obtain ⟨r1, r2, r3, r4, r5⟩ := R
  refine ⟨fun f j hf => ?_, fun j => ?_, fun j => ?_, X.1, fun j hj => ?_⟩
  · rw [e f j (by refine ⟨?_, ?_, ?_, ?_⟩ <;> (intro h9; subst h9; revert hf; decide))]; exact r1 f j hf
  · rw [e 5 j (by decide)]; exact r2 j
  · rw [e 53 j (by decide)]; exact r3 j
  · have := X.2 j hj
    rw [show 13 * 0 + j = j by omega, getD_e hj] at this
    exact this
theorem RI.kr1 (R : RI m u w L σ) (h : KR 1 σ σ') (hL : L.length ≤ 12) : RI m u w L σ' := by
  have e : ∀ f j, (f ≠ 20 ∧ f ≠ 21 ∧ f ≠ 22 ∧ f ≠ 23) → sP σ' 12 0 f j = sP σ 12 0 f j := fun f j hf => h.f hf
  obtain ⟨r1, r2, r3, r4, r5⟩ := R
  refine ⟨fun f j hf => ?_, fun j => ?_, fun j => ?_, ?_, fun j hj => ?_⟩
  · rw [e f j (by refine ⟨?_, ?_, ?_, ?_⟩ <;> (intro h9; subst h9; revert hf; decide))]; exact r1 f j hf
  · rw [e 5 j (by decide)]; exact r2 j
  · rw [e 53 j (by decide)]; exact r3 j
  · rw [h.1 12 0 21 0 (by omega)]; exact r4
  · rw [h.1 12 0 20 j (by omega)]; exact r5 j hj
theorem r_takesOut (hN : 1000000 ≤ N) (X : RO σ c L) (hc : c < 2) (hL : L.length ≤ 12) (hk : k < L.length) {K : St → Prop} (h : ∀ σ', RO σ' c (L.eraseIdx k) → KR c σ σ' → sP σ' 12 0 22 0 = sP σ 12 0 22 0 → sP σ' 12 0 23 0 = sP σ 12 0 23 0 → K σ') : z_X12_takesOut N 0 (nI c) (nI k) σ K := by
  unfold z_X12_takesOut
  refine for_u (L.length - 1) (by omega) (by omega) (fun i s => k ≤ i ∧ KR c σ s ∧ sP s 12 0 21 c = nI L.length ∧ sP s 12 0 22 0 = sP σ 12 0 22 0 ∧ sP s 12 0 23 0 = sP σ 12 0 23 0 ∧ ∀ j, j < L.length → sP s 12 0 20 (13 * c + j) = if k ≤ j ∧ j < i then nI (L.getD (j + 1) 0) else nI (L.getD j 0)) k (by omega) (fun self i s hi hI hs => ?_) ⟨Nat.le_refl _, KR.refl, X.1, rfl, rfl, fun j hj => by rw [if_neg (by omega)]; exact X.2 j hj⟩
  obtain ⟨i0, i1, i2, i3, i4, i5⟩ := hI
  by_cases hl : i < L.length - 1
  · have e1 := i5 (i + 1) (by omega)
    rw [if_neg (by omega)] at e1
    simp (disch := omega) only [u_br_True, u_br_False, u_jn_u, u_lt_u, u_nn_s, u_brn_s, u_brn_n, nI_add, u_n_mul, u_n_lt, u_n_le, u_n_eq, u_n_sub, u_n_div, u_n_mod, nI_clamp, u_m1, u_m1q, u_wI_n, u_wA_n, u_br_t, u_br_f, ↓li_m1, li_0, li_1, li_2, li_3, li_4, li_5, li_6, li_7, li_8, li_9, li_10, li_12, li_13, li_26, li_40, li_60, li_61, li_62, li_99, li_100, li_102, li_106, li_114, li_112, li_117, li_108, li_103, li_120, li_300, li_360, li_512, li_1000, i2, ← Nat.add_assoc] at e1 ⊢
    simp (disch := omega) only [u_br_True, u_br_False, u_jn_u, u_lt_u, u_nn_s, u_brn_s, u_brn_n, nI_add, u_n_mul, u_n_lt, u_n_le, u_n_eq, u_n_sub, u_n_div, u_n_mod, nI_clamp, u_m1, u_m1q, u_wI_n, u_wA_n, u_br_t, u_br_f, ↓li_m1, li_0, li_1, li_2, li_3, li_4, li_5, li_6, li_7, li_8, li_9, li_10, li_12, li_13, li_26, li_40, li_60, li_61, li_62, li_99, li_100, li_102, li_106, li_114, li_112, li_117, li_108, li_103, li_120, li_300, li_360, li_512, li_1000, e1]
    refine hs _ hl ⟨by omega, i1.st (Or.inl ⟨rfl, by omega, by omega⟩), by simp only [sP_stP, Nat.reduceEqDiff, true_and, and_true, false_and, and_false, if_true, if_false, eq_self, and_self, Nat.reduceLT, Nat.reduceLeDiff, Nat.reduceAdd, Nat.reduceMul, Nat.reduceDiv, Nat.one_ne_zero]; exact i2, by simp only [sP_stP, Nat.reduceEqDiff, true_and, and_true, false_and, and_false, if_true, if_false, eq_self, and_self, Nat.reduceLT, Nat.reduceLeDiff, Nat.reduceAdd, Nat.reduceMul, Nat.reduceDiv, Nat.one_ne_zero]; exact i3, by simp only [sP_stP, Nat.reduceEqDiff, true_and, and_true, false_and, and_false, if_true, if_false, eq_self, and_self, Nat.reduceLT, Nat.reduceLeDiff, Nat.reduceAdd, Nat.reduceMul, Nat.reduceDiv, Nat.one_ne_zero]; exact i4, fun j hj => ?_⟩
    simp only [sP_stP, Nat.reduceEqDiff, true_and, and_true, false_and, and_false, if_true, if_false, eq_self, and_self, Nat.reduceLT, Nat.reduceLeDiff, Nat.reduceAdd, Nat.reduceMul, Nat.reduceDiv, Nat.one_ne_zero]
    by_cases hj2 : j = i
    · subst hj2
      by_cases hk2 : k ≤ j
      · rw [if_pos rfl, if_pos ⟨hk2, by omega⟩]
      · rw [if_pos rfl, if_neg (by omega)]
        omega
    · rw [if_neg (by omega), i5 j hj]
      by_cases h9 : k ≤ j ∧ j < i
      · rw [if_pos h9, if_pos (by omega)]
      · rw [if_neg h9, if_neg (by omega)]
  · have hi2 : i = L.length - 1 := by omega
    subst hi2
    simp (disch := omega) only [u_br_True, u_br_False, u_jn_u, u_lt_u, u_nn_s, u_brn_s, u_brn_n, nI_add, u_n_mul, u_n_lt, u_n_le, u_n_eq, u_n_sub, u_n_div, u_n_mod, nI_clamp, u_m1, u_m1q, u_wI_n, u_wA_n, u_br_t, u_br_f, ↓li_m1, li_0, li_1, li_2, li_3, li_4, li_5, li_6, li_7, li_8, li_9, li_10, li_12, li_13, li_26, li_40, li_60, li_61, li_62, li_99, li_100, li_102, li_106, li_114, li_112, li_117, li_108, li_103, li_120, li_300, li_360, li_512, li_1000, i2]
    refine h _ ⟨?_, fun j hj => ?_⟩ (i1.st (Or.inr (Or.inl ⟨rfl, rfl⟩))) (by simp only [sP_stP, Nat.reduceEqDiff, true_and, and_true, false_and, and_false, if_true, if_false, eq_self, and_self, Nat.reduceLT, Nat.reduceLeDiff, Nat.reduceAdd, Nat.reduceMul, Nat.reduceDiv, Nat.one_ne_zero]; exact i3) (by simp only [sP_stP, Nat.reduceEqDiff, true_and, and_true, false_and, and_false, if_true, if_false, eq_self, and_self, Nat.reduceLT, Nat.reduceLeDiff, Nat.reduceAdd, Nat.reduceMul, Nat.reduceDiv, Nat.one_ne_zero]; exact i4)
    · simp only [sP_stP, Nat.reduceEqDiff, true_and, and_true, false_and, and_false, if_true, if_false, eq_self, and_self, Nat.reduceLT, Nat.reduceLeDiff, Nat.reduceAdd, Nat.reduceMul, Nat.reduceDiv, Nat.one_ne_zero]
      rw [List.length_eraseIdx, if_pos hk]
    · rw [List.length_eraseIdx, if_pos hk] at hj
      simp only [sP_stP, Nat.reduceEqDiff, true_and, and_true, false_and, and_false, if_true, if_false, eq_self, and_self, Nat.reduceLT, Nat.reduceLeDiff, Nat.reduceAdd, Nat.reduceMul, Nat.reduceDiv, Nat.one_ne_zero]
      rw [i5 j (by omega), era_get]
      by_cases h9 : j < k
      · rw [if_neg (by omega), if_pos h9]
      · rw [if_pos (by omega), if_neg h9]
/-- what stays in the cache when a row changes -/
def gd (m : Nat → Nat → Nat) (t row x : Nat) : Bool := if 300 ≤ x then !(m 14 (x / 100 - 3) == t) else !(x == 100 * t + row / 4)
theorem era_at {p : Nat → Bool} : ∀ (L : List Nat) (i : Nat), i < L.length → (L.take (i + 1) ++ (L.drop (i + 1)).filter p).eraseIdx i = L.take i ++ (L.drop (i + 1)).filter p
  | [], i, h => absurd h (by simp)
  | a :: L, 0, _ => by simp
  | a :: L, i + 1, h => by
    have := era_at (p := p) L i (by simpa using h)
    simpa using this
theorem r_forgets (hN : 1000000 ≤ N) (R : RI m u w L σ) (W : WC m L) (WX' : WX m) (hm1 : m 1 0 ≤ 3) (ht : t < 3) (hrow : row < 40) {K : St → Prop} (h : ∀ σ', RI m u w (L.filter (gd m t row)) σ' → KR 0 σ σ' → K σ') : z_X12_forgets N 0 (nI t) (nI row) σ K := by
  have hx6 := WX'.1
  obtain ⟨w1, w2, w3, w4⟩ := W
  have e21 := R.2.2.2.1
  simp (disch := omega) only [z_X12_forgets, u_br_True, u_br_False, u_jn_u, u_lt_u, u_nn_s, u_brn_s, u_brn_n, nI_add, u_n_mul, u_n_lt, u_n_le, u_n_eq, u_n_sub, u_n_div, u_n_mod, nI_clamp, u_m1, u_m1q, u_wI_n, u_wA_n, u_br_t, u_br_f, ↓li_m1, li_0, li_1, li_2, li_3, li_4, li_5, li_6, li_7, li_8, li_9, li_10, li_12, li_13, li_26, li_40, li_60, li_61, li_62, li_99, li_100, li_102, li_106, li_114, li_112, li_117, li_108, li_103, li_120, li_300, li_360, li_512, li_1000, l0c, wI_l, e21]
  have key : ∀ (F : (Int32 → St → Prop) → Int32 → St → Prop), (∀ (self : Int32 → St → Prop) (i : Nat) (s : St), i ≤ L.length → (∃ L', L' = L.take i ++ (L.drop i).filter (gd m t row) ∧ RI m u w L' s ∧ KR 0 σ s) → (∀ a', 0 < i → (∃ L', L' = L.take (i - 1) ++ (L.drop (i - 1)).filter (gd m t row) ∧ RI m u w L' a' ∧ KR 0 σ a') → self (nI (i - 1) + mI) a') → F self (nI i - nI 1) s) → fx2 F N (nI L.length - nI 1) σ := by
    intro F hF
    exact dn_u L.length (by omega) (by omega) (fun i s => ∃ L', L' = L.take i ++ (L.drop i).filter (gd m t row) ∧ RI m u w L' s ∧ KR 0 σ s) hF ⟨L, by simp, R, KR.refl⟩
  refine key _ ?_
  intro self i s hi hI hs
  obtain ⟨L', rfl, Rs, hK⟩ := hI
  by_cases h0 : i = 0
  · subst h0
    rw [u_br_t (by decide)]
    exact h _ (by simpa using Rs) hK
  · obtain ⟨i, rfl⟩ : ∃ i', i = i' + 1 := ⟨i - 1, by omega⟩
    have hi2 : i < L.length := by omega
    have hfl : ((L.drop (i + 1)).filter (gd m t row)).length ≤ L.length - (i + 1) := by
      have := List.length_filter_le (gd m t row) (L.drop (i + 1))
      rw [List.length_drop] at this
      exact this
    have hlen : (L.take (i + 1) ++ (L.drop (i + 1)).filter (gd m t row)).length ≤ 12 := by
      rw [List.length_append, List.length_take]; omega
    have hlen2 : i < (L.take (i + 1) ++ (L.drop (i + 1)).filter (gd m t row)).length := by
      rw [List.length_append, List.length_take]; omega
    have hx := w4 _ (getD_mem hi2)
    have e := Rs.ro.2 i hlen2
    rw [show 13 * 0 + i = i by omega, List.getD_eq_getElem?_getD, List.getElem?_append, List.length_take, if_pos (by omega), List.getElem?_take, if_pos (by omega), ← List.getD_eq_getElem?_getD] at e
    have hdrop : L.drop i = L.getD i 0 :: L.drop (i + 1) := by rw [getD_e hi2]; exact (List.drop_eq_getElem_cons hi2)
    have keep : gd m t row (L.getD i 0) = true → ∃ L', L' = L.take (i + 1 - 1) ++ (L.drop (i + 1 - 1)).filter (gd m t row) ∧ RI m u w L' s ∧ KR 0 σ s := by
      intro hg
      refine ⟨_, rfl, ?_, hK⟩
      rw [show i + 1 - 1 = i by omega, hdrop, List.filter_cons, if_pos hg]
      rw [take_s hi2, List.append_assoc] at Rs
      exact Rs
    have out : ¬ gd m t row (L.getD i 0) = true → ∀ s', RO s' 0 ((L.take (i + 1) ++ (L.drop (i + 1)).filter (gd m t row)).eraseIdx i) → KR 0 s s' → ∃ L', L' = L.take (i + 1 - 1) ++ (L.drop (i + 1 - 1)).filter (gd m t row) ∧ RI m u w L' s' ∧ KR 0 σ s' := by
      intro hg s' X' hK'
      rw [era_at L i hi2] at X'
      refine ⟨_, rfl, ?_, hK.trans hK'⟩
      rw [show i + 1 - 1 = i by omega, hdrop, List.filter_cons, if_neg hg]
      exact Rs.kr0 hK' X'
    have b1000 : L.getD i 0 < 1000 := by
      rcases hx with hx | ⟨k, hk, hx1, hx2⟩ <;> omega
    rw [u_n_sub (by omega), show i + 1 - 1 = i by omega]
    by_cases h3 : 300 ≤ L.getD i 0
    · obtain ⟨k, hk, hx1, hx2⟩ : ∃ k, k < m 13 0 ∧ 300 + 100 * k ≤ L.getD i 0 ∧ L.getD i 0 < 400 + 100 * k := by
        rcases hx with hx | hx
        · omega
        · exact hx
      have hdiv : L.getD i 0 / 100 - 3 = k := by omega
      have h14 := (WX'.2 k hk).1
      have hgd : gd m t row (L.getD i 0) = !(m 14 k == t) := by rw [gd, if_pos h3, hdiv]
      simp (disch := omega) only [u_br_True, u_br_False, u_jn_u, u_lt_u, u_nn_s, u_brn_s, u_brn_n, nI_add, u_n_mul, u_n_lt, u_n_le, u_n_eq, u_n_sub, u_n_div, u_n_mod, nI_clamp, u_m1, u_m1q, u_wI_n, u_wA_n, u_br_t, u_br_f, ↓li_m1, li_0, li_1, li_2, li_3, li_4, li_5, li_6, li_7, li_8, li_9, li_10, li_12, li_13, li_26, li_40, li_60, li_61, li_62, li_99, li_100, li_102, li_106, li_114, li_112, li_117, li_108, li_103, li_120, li_300, li_360, li_512, li_1000, e, b10, b00, f_0, f_1, u_okT, u_nb_0, u_nb_1, hdiv, (fun j => Rs.r 14 j rfl)]
      by_cases hkt : m 14 k = t
      · rw [u_br_t hkt]
        refine r_takesOut hN Rs.ro (by omega) hlen hlen2 (fun s' X' hK' _ _ => ?_)
        exact hs _ (by omega) (out (by rw [hgd]; exact bne_f hkt) s' X' hK')
      · rw [u_br_f hkt]
        exact hs _ (by omega) (keep (by rw [hgd]; exact bne_t hkt))
    · have hgd : gd m t row (L.getD i 0) = !(L.getD i 0 == 100 * t + row / 4) := by rw [gd, if_neg h3]
      simp (disch := omega) only [u_br_True, u_br_False, u_jn_u, u_lt_u, u_nn_s, u_brn_s, u_brn_n, nI_add, u_n_mul, u_n_lt, u_n_le, u_n_eq, u_n_sub, u_n_div, u_n_mod, nI_clamp, u_m1, u_m1q, u_wI_n, u_wA_n, u_br_t, u_br_f, ↓li_m1, li_0, li_1, li_2, li_3, li_4, li_5, li_6, li_7, li_8, li_9, li_10, li_12, li_13, li_26, li_40, li_60, li_61, li_62, li_99, li_100, li_102, li_106, li_114, li_112, li_117, li_108, li_103, li_120, li_300, li_360, li_512, li_1000, e, b10, b00, f_0, f_1, u_okT, u_nb_0, u_nb_1]
      by_cases hkt : L.getD i 0 = 100 * t + row / 4
      · rw [u_br_t hkt]
        refine r_takesOut hN Rs.ro (by omega) hlen hlen2 (fun s' X' hK' _ _ => ?_)
        exact hs _ (by omega) (out (by rw [hgd]; exact bne_f hkt) s' X' hK')
      · rw [u_br_f hkt]
        exact hs _ (by omega) (keep (by rw [hgd]; exact bne_t hkt))
theorem CC.co (C : CC m L σ) : CO σ 0 (m 19 0) L := ⟨C.1, C.2.1, fun j hj => by rw [getD_e hj]; exact C.2.2 j hj⟩
theorem CC.of (X : CO σ 0 (m 19 0) L) : CC m L σ := ⟨X.1, X.2.1, fun j hj => by rw [X.2.2 j hj, getD_e hj]⟩
theorem WC.ck (W : WC m L) (WX' : WX m) : CK (m 19 0) L := by
  obtain ⟨w1, w2, w3, w4⟩ := W
  refine ⟨w1, w2, w3, fun x hx => ?_⟩
  have := WX'.1
  rcases w4 x hx with h | ⟨k, hk, h1, h2⟩ <;> omega
def gi (m : Nat → Nat → Nat) (t row i x : Nat) : Bool := !(x == 100 * t + row / 4) && (List.range i).all (fun k => !(decide (k < m 13 0) && (m 14 k == t) && decide (300 + 100 * k ≤ x) && decide (x ≤ 399 + 100 * k)))
theorem gi_s {i : Nat} : gi m t row (i + 1) = fun x => (!(decide (i < m 13 0) && (m 14 i == t) && decide (300 + 100 * i ≤ x) && decide (x ≤ 399 + 100 * i))) && gi m t row i x := by
  funext x
  simp only [gi, List.range_succ, List.all_append, List.all_cons, List.all_nil, Bool.and_true]
  rw [← Bool.and_assoc, Bool.and_comm]
theorem gi_gd (W : WC m L) (WX' : WX m) (ht : t < 3) (hrow : row < 40) : L.filter (gi m t row 6) = L.filter (gd m t row) := by
  have hx6 := WX'.1
  refine List.filter_congr (fun x hx => ?_)
  have hx := W.2.2.2 x hx
  have e : (gi m t row 6 x = true) ↔ (gd m t row x = true) := by
    simp only [gi, gd, Bool.and_eq_true, List.all_eq_true, List.mem_range, Bool.not_eq_true', Bool.and_eq_false_iff, decide_eq_false_iff_not, beq_eq_false_iff_ne]
    by_cases h3 : 300 ≤ x
    · obtain ⟨k, hk, hx1, hx2⟩ : ∃ k, k < m 13 0 ∧ 300 + 100 * k ≤ x ∧ x < 400 + 100 * k := by
        rcases hx with hx | hx
        · omega
        · exact hx
      have hdiv : x / 100 - 3 = k := by omega
      rw [if_pos h3, hdiv]
      simp only [Bool.not_eq_true', beq_eq_false_iff_ne]
      constructor
      · rintro ⟨h1, h2⟩
        have := h2 k (by omega)
        omega
      · intro h1
        refine ⟨by omega, fun k' hk' => ?_⟩
        by_cases h9 : k' = k
        · subst h9; exact Or.inl (Or.inl (Or.inr h1))
        · omega
    · rw [if_neg h3]
      simp only [Bool.not_eq_true', beq_eq_false_iff_ne]
      constructor
      · exact fun h => h.1
      · exact fun h => ⟨h, fun k' hk' => by omega⟩
  cases h1 : gi m t row 6 x <;> cases h2 : gd m t row x <;> simp_all
/-- the class forgets a row: number of table t, indexes' tables as told -/
theorem c_forget (hN : 1000000 ≤ N) (C : C0 σ) (X : CO σ 0 F L) (hL : L.length ≤ 12) (hx : ∀ x ∈ L, x < 1000) (WX' : WX m) (ht : t < 3) (hrow : row < 40) (hnum : sP σ 10 t 0 0 = nI t)
    (h9 : ∀ k, k < 6 → sQ σ 9 0 2 k = if k < m 13 0 then some k else none) (h3 : ∀ k, k < m 13 0 → sQ σ 3 k 1 0 = some (m 14 k) ∧ sP σ 3 k 0 0 = nI k) {K : St → Prop}
    (h : ∀ σ', CO σ' 0 F (L.filter (gi m t row 6)) → K0 0 σ σ' → K σ') : z_X11_forgetRow N 0 (some t) (nI row) σ K := by
  have hx6 := WX'.1
  unfold C0 at C
  simp (disch := omega) only [z_X11_forgetRow, z_X11_pageKey, z_X10_number, u_br_True, u_br_False, u_jn_u, u_lt_u, u_nn_s, u_brn_s, u_brn_n, nI_add, u_n_mul, u_n_lt, u_n_le, u_n_eq, u_n_sub, u_n_div, u_n_mod, nI_clamp, u_m1, u_m1q, u_wI_n, u_wA_n, u_br_t, u_br_f, ↓li_m1, li_0, li_1, li_2, li_3, li_4, li_5, li_6, li_7, li_8, li_9, li_10, li_12, li_13, li_26, li_40, li_60, li_61, li_62, li_99, li_100, li_102, li_106, li_114, li_112, li_117, li_108, li_103, li_120, li_300, li_360, li_512, li_1000, hnum, C]
  refine c_drop hN X hL hx (by omega) (by omega) (fun σ1 X1 hK1 => ?_)
  refine for_u 6 (by omega) (by omega) (fun i s => K0 0 σ s ∧ CO s 0 F (L.filter (gi m t row i))) 0 (by omega) (fun self i s hi hI hs => ?_) ⟨hK1, ?_⟩
  · obtain ⟨i1, i2⟩ := hI
    have q0 : sQ s 11 0 0 0 = some 0 := by rw [i1.2.2.1]; exact C.1
    have q3 : sQ s 11 0 3 0 = some 0 := by rw [i1.2.2.1]; exact C.2.1
    by_cases hl : i < 6
    · have q9 : sQ s 9 0 2 i = if i < m 13 0 then some i else none := by rw [i1.2.2.1]; exact h9 i hl
      by_cases hi3 : i < m 13 0
      · rw [if_pos hi3] at q9
        have q1 : sQ s 3 i 1 0 = some (m 14 i) := by rw [i1.2.2.1]; exact (h3 i hi3).1
        have p0 : sP s 3 i 0 0 = nI i := by rw [i1.1 3 i 0 0 (by omega)]; exact (h3 i hi3).2
        by_cases hkt : m 14 i = t
        · simp (disch := omega) only [z_X9_indexAt, z_X3_isOf, z_X11_leafKey, z_X3_number, u_br_True, u_br_False, u_jn_u, u_lt_u, u_nn_s, u_brn_s, u_brn_n, nI_add, u_n_mul, u_n_lt, u_n_le, u_n_eq, u_n_sub, u_n_div, u_n_mod, nI_clamp, u_m1, u_m1q, u_wI_n, u_wA_n, u_br_t, u_br_f, ↓li_m1, li_0, li_1, li_2, li_3, li_4, li_5, li_6, li_7, li_8, li_9, li_10, li_12, li_13, li_26, li_40, li_60, li_61, li_62, li_99, li_100, li_102, li_106, li_114, li_112, li_117, li_108, li_103, li_120, li_300, li_360, li_512, li_1000, b10, b00, f_0, f_1, u_okT, u_nb_0, u_nb_1, q0, q3, q9, q1, p0, hkt]
          have hfl : (L.filter (gi m t row i)).length ≤ 12 := Nat.le_trans (List.length_filter_le _ _) hL
          refine c_drop hN i2 hfl (fun x hx' => hx x (List.mem_filter.mp hx').1) (by omega) (by omega) (fun s' X' hK' => ?_)
          refine hs _ hl ⟨i1.trans hK', ?_⟩
          rw [List.filter_filter] at X'
          rw [gi_s]
          have e : (fun x => (!(decide (i < m 13 0) && (m 14 i == t) && decide (300 + 100 * i ≤ x) && decide (x ≤ 399 + 100 * i))) && gi m t row i x) = (fun x => (!(decide (100 * (3 + i) + 0 / 8 ≤ x) && decide (x ≤ 100 * (3 + i) + 0 / 8 + 100 - 1))) && gi m t row i x) := by
            funext x
            congr 2
            rw [decide_eq_true hi3, Bool.true_and, hkt, beq_self_eq_true, Bool.true_and]
            congr 1
            · exact decide_eq_decide.mpr (by omega)
            · exact decide_eq_decide.mpr (by omega)
          rw [e]
          exact X'
        · simp (disch := omega) only [z_X9_indexAt, z_X3_isOf, z_X11_leafKey, z_X3_number, u_br_True, u_br_False, u_jn_u, u_lt_u, u_nn_s, u_brn_s, u_brn_n, nI_add, u_n_mul, u_n_lt, u_n_le, u_n_eq, u_n_sub, u_n_div, u_n_mod, nI_clamp, u_m1, u_m1q, u_wI_n, u_wA_n, u_br_t, u_br_f, ↓li_m1, li_0, li_1, li_2, li_3, li_4, li_5, li_6, li_7, li_8, li_9, li_10, li_12, li_13, li_26, li_40, li_60, li_61, li_62, li_99, li_100, li_102, li_106, li_114, li_112, li_117, li_108, li_103, li_120, li_300, li_360, li_512, li_1000, b10, b00, f_0, f_1, u_okT, u_nb_0, u_nb_1, q0, q3, q9, q1, p0, Option.some.injEq, u_br_f hkt]
          refine hs _ hl ⟨i1, ?_⟩
          rw [gi_s]
          have e : (fun x => (!(decide (i < m 13 0) && (m 14 i == t) && decide (300 + 100 * i ≤ x) && decide (x ≤ 399 + 100 * i))) && gi m t row i x) = gi m t row i := by
            funext x
            have : (m 14 i == t) = false := beq_eq_false_iff_ne.mpr hkt
            simp [this]
          rw [e]
          exact i2
      · rw [if_neg hi3] at q9
        simp (disch := omega) only [z_X9_indexAt, u_br_True, u_br_False, u_jn_u, u_lt_u, u_nn_s, u_brn_s, u_brn_n, nI_add, u_n_mul, u_n_lt, u_n_le, u_n_eq, u_n_sub, u_n_div, u_n_mod, nI_clamp, u_m1, u_m1q, u_wI_n, u_wA_n, u_br_t, u_br_f, ↓li_m1, li_0, li_1, li_2, li_3, li_4, li_5, li_6, li_7, li_8, li_9, li_10, li_12, li_13, li_26, li_40, li_60, li_61, li_62, li_99, li_100, li_102, li_106, li_114, li_112, li_117, li_108, li_103, li_120, li_300, li_360, li_512, li_1000, q0, q9]
        refine hs _ hl ⟨i1, ?_⟩
        rw [gi_s]
        have e : (fun x => (!(decide (i < m 13 0) && (m 14 i == t) && decide (300 + 100 * i ≤ x) && decide (x ≤ 399 + 100 * i))) && gi m t row i x) = gi m t row i := by
          funext x
          simp [hi3]
        rw [e]
        exact i2
    · have hi6 : i = 6 := by omega
      subst hi6
      simp (disch := omega) only [u_br_True, u_br_False, u_jn_u, u_lt_u, u_nn_s, u_brn_s, u_brn_n, nI_add, u_n_mul, u_n_lt, u_n_le, u_n_eq, u_n_sub, u_n_div, u_n_mod, nI_clamp, u_m1, u_m1q, u_wI_n, u_wA_n, u_br_t, u_br_f, ↓li_m1, li_0, li_1, li_2, li_3, li_4, li_5, li_6, li_7, li_8, li_9, li_10, li_12, li_13, li_26, li_40, li_60, li_61, li_62, li_99, li_100, li_102, li_106, li_114, li_112, li_117, li_108, li_103, li_120, li_300, li_360, li_512, li_1000]
      exact h _ i2 i1
  · have e : (fun x => !(decide (100 * t + row / 4 ≤ x) && decide (x ≤ 100 * t + row / 4))) = gi m t row 0 := by
      funext x
      simp only [gi, List.range_zero, List.all_nil, Bool.and_true]
      congr 1
      rw [Bool.eq_iff_iff]
      simp only [Bool.and_eq_true, decide_eq_true_eq, beq_iff_eq]
      omega
    rw [e] at X1
    exact X1
end FORGET
