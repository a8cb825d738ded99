section KCOUNT
variable {m m' mm : Nat → Nat → Nat} {u u' w : Nat → Int32} {L L' E : List Nat} {σ σ' σ1 σ2 : St} {N kk t c k n F key row lo hi v d J a b e f : Nat}
def mC (m : Nat → Nat → Nat) (u : Nat → Int32) (t : Nat) : Nat → Nat → Nat → Nat
  | 0 => mu (mu (mu m 16 0 0) 8 t (liv m t)) 9 t ((m 3 t + 3) / 4)
  | n + 1 => mu (mu (mu (mC m u t n) 10 (3 * t + n) (cntP (hasV m u t n 40) 100)) 11 (3 * t + n) (minP (hasV m u t n 40) 100)) 12 (3 * t + n) (maxP (hasV m u t n 40) 100)
def cntF (f : Nat) : Bool := [8, 9, 10, 11, 12, 16].contains f
theorem mC_o (h : cntF f = false) : ∀ n j, mC m u t n f j = m f j := by
  have h1 : f ≠ 8 ∧ f ≠ 9 ∧ f ≠ 10 ∧ f ≠ 11 ∧ f ≠ 12 ∧ f ≠ 16 := by
    refine ⟨?_, ?_, ?_, ?_, ?_, ?_⟩ <;> (intro e; subst e; revert h; decide)
  obtain ⟨a1, a2, a3, a4, a5, a6⟩ := h1
  intro n
  induction n with
  | zero => intro j; simp [mC, mu, a1, a2, a6]
  | succ n ih => intro j; simp only [mC]; rw [mu_ne a5, mu_ne a4, mu_ne a3, ih j]
theorem SameX_C : SameX m (mC m u t n) := fun f hf j => by
  refine mC_o ?_ n j
  cases h : cntF f with
  | false => rfl
  | true =>
    simp only [cntF, List.contains_eq_mem, List.mem_cons, List.not_mem_nil, or_false, decide_eq_true_eq] at h
    rcases h with rfl | rfl | rfl | rfl | rfl | rfl <;> (revert hf; decide)
theorem th_C : th (mC m u t n) = th m := by
  funext t' r
  simp only [th, mC_o (f := 4) rfl]
theorem liv_C : liv (mC m u t n) = liv m := by
  funext t'
  simp only [liv, th_C]
theorem ent_C : ent (mC m u t n) = ent m := by
  funext u t' c
  simp only [ent, th_C]
theorem hasV_C {t' c' r : Nat} : hasV (mC m u t n) u t' c' r = hasV m u t' c' r := by
  funext v
  simp only [hasV]
  congr 1
  funext r
  simp only [pv, th_C]
theorem mC_16 : mC m u t n 16 0 = 0 := by
  induction n with
  | zero => simp [mC, mu]
  | succ n ih => simp only [mC]; rw [mu_ne (by decide), mu_ne (by decide), mu_ne (by decide), ih]
theorem WT_C (W : WT m u) (ht : t < m 1 0) : n ≤ 3 → WT (mC m u t n) u := by
  have h1 := W.nt
  have h3 := W.2.2.2.1 t (by omega)
  have hl : liv m t ≤ 40 := livN_le (m := m) (t := t) (n := 40)
  intro hn
  obtain ⟨w1, w2, w3, w4, w5, w6, w7, w8, w9, w10, w11⟩ := W
  have o : ∀ f, cntF f = false → ∀ j, mC m u t n f j = m f j := fun f h j => mC_o h n j
  have b : (∀ t', t' < 3 → mC m u t n 8 t' ≤ 40 ∧ mC m u t n 9 t' ≤ 10) ∧ (∀ j, j < 9 → mC m u t n 10 j ≤ 40 ∧ mC m u t n 11 j ≤ 99 ∧ mC m u t n 12 j ≤ 99 ∧ mC m u t n 11 j ≤ mC m u t n 12 j) ∧ (∀ t', m 1 0 ≤ t' → t' < 3 → mC m u t n 8 t' = 0 ∧ mC m u t n 9 t' = 0 ∧ ∀ c, c < 3 → mC m u t n 10 (3 * t' + c) = 0 ∧ mC m u t n 11 (3 * t' + c) = 0 ∧ mC m u t n 12 (3 * t' + c) = 0) := by
    induction n with
    | zero =>
      refine ⟨fun t' ht' => ?_, fun j hj => ?_, fun t' ht' ht3 => ?_⟩
      · have := w8 t' ht'
        simp only [mC, mu, Nat.reduceEqDiff, true_and, and_true, false_and, and_false, if_true, if_false, eq_self, and_self, Nat.reduceLT, Nat.reduceLeDiff, Nat.reduceAdd, Nat.reduceMul, Nat.reduceDiv, Nat.one_ne_zero]
        constructor
        · split <;> omega
        · split <;> omega
      · have := w9 j hj
        simp only [mC, mu, Nat.reduceEqDiff, true_and, and_true, false_and, and_false, if_true, if_false, eq_self, and_self, Nat.reduceLT, Nat.reduceLeDiff, Nat.reduceAdd, Nat.reduceMul, Nat.reduceDiv, Nat.one_ne_zero]
        exact this
      · have := w11 t' ht' ht3
        simp only [mC, mu, Nat.reduceEqDiff, true_and, and_true, false_and, and_false, if_true, if_false, eq_self, and_self, Nat.reduceLT, Nat.reduceLeDiff, Nat.reduceAdd, Nat.reduceMul, Nat.reduceDiv, Nat.one_ne_zero]
        rw [if_neg (by omega), if_neg (by omega)]
        exact ⟨this.2.1, this.2.2.1, fun c hc => (this.2.2.2 c hc).2⟩
    | succ n ih =>
      obtain ⟨i1, i2, i3⟩ := ih (by omega) (fun f h j => mC_o h n j)
      have hle := cnt_hasV_le (m := m) (u := u) (t := t) (c := n) (n := 40)
      have ms := min_spec (p := hasV m u t n 40) (d := 100) (by omega)
      have xs := max_spec (p := hasV m u t n 40) (d := 100) (by omega)
      have hb : minP (hasV m u t n 40) 100 ≤ 99 ∧ maxP (hasV m u t n 40) 100 ≤ 99 ∧ minP (hasV m u t n 40) 100 ≤ maxP (hasV m u t n 40) 100 := by
        by_cases h0 : cntP (hasV m u t n 40) 100 = 0
        · rw [ms.2 h0, xs.2 h0]; omega
        · obtain ⟨a1, a2, a3, a4⟩ := ms.1 h0
          obtain ⟨b1, b2, b3⟩ := xs.1 h0
          have := b3 _ a2 a3 a1
          omega
      refine ⟨fun t' ht' => ?_, fun j hj => ?_, fun t' ht' ht3 => ?_⟩
      · simp only [mC, mu, Nat.reduceEqDiff, true_and, and_true, false_and, and_false, if_true, if_false, eq_self, and_self, Nat.reduceLT, Nat.reduceLeDiff, Nat.reduceAdd, Nat.reduceMul, Nat.reduceDiv, Nat.one_ne_zero]
        exact i1 t' ht'
      · have := i2 j hj
        simp only [mC, mu, Nat.reduceEqDiff, true_and, and_true, false_and, and_false, if_true, if_false, eq_self, and_self, Nat.reduceLT, Nat.reduceLeDiff, Nat.reduceAdd, Nat.reduceMul, Nat.reduceDiv, Nat.one_ne_zero]
        by_cases e : j = 3 * t + n
        · rw [if_pos e, if_pos e, if_pos e]; omega
        · rw [if_neg e, if_neg e, if_neg e]; exact this
      · have := i3 t' ht' ht3
        simp only [mC, mu, Nat.reduceEqDiff, true_and, and_true, false_and, and_false, if_true, if_false, eq_self, and_self, Nat.reduceLT, Nat.reduceLeDiff, Nat.reduceAdd, Nat.reduceMul, Nat.reduceDiv, Nat.one_ne_zero]
        refine ⟨this.1, this.2.1, fun c hc => ?_⟩
        rw [if_neg (by omega), if_neg (by omega), if_neg (by omega)]
        exact this.2.2 c hc
  obtain ⟨b1, b2, b3⟩ := b
  unfold WT
  simp only [o 1 rfl, o 2 rfl, o 3 rfl, o 4 rfl, o 6 rfl, o 7 rfl]
  refine ⟨w1, w2, w3, w4, w5, w6, w7, b1, b2, w10, fun t' ht' ht3 => ?_⟩
  have z := w11 t' ht' ht3
  have y := b3 t' ht' ht3
  exact ⟨z.1, y.1, y.2.1, fun c hc => ⟨(z.2.2.2 c hc).1, y.2.2 c hc⟩⟩
theorem CT_cs (T : CT mm u σ) (hc : c < 3) : CT (mu (mu (mu mm 10 (3 * t + c) a) 11 (3 * t + c) b) 12 (3 * t + c) e) u (stP (stP (stP σ 10 t 10 c (nI a)) 10 t 11 c (nI b)) 10 t 12 c (nI e)) := by
  obtain ⟨a1, a2, a3, a4⟩ := T
  have eth : th (mu (mu (mu mm 10 (3 * t + c) a) 11 (3 * t + c) b) 12 (3 * t + c) e) = th mm := by
    rw [th_mu (by decide), th_mu (by decide), th_mu (by decide)]
  have eliv : liv (mu (mu (mu mm 10 (3 * t + c) a) 11 (3 * t + c) b) 12 (3 * t + c) e) = liv mm := by
    rw [liv_mu (by decide), liv_mu (by decide), liv_mu (by decide)]
  have o : ∀ f j, f ≠ 10 → f ≠ 11 → f ≠ 12 → mu (mu (mu mm 10 (3 * t + c) a) 11 (3 * t + c) b) 12 (3 * t + c) e f j = mm f j := fun f j h1 h2 h3 => by rw [mu_ne h3, mu_ne h2, mu_ne h1]
  unfold CT
  rw [o 1 0 (by decide) (by decide) (by decide)]
  refine ⟨by simp [sP_stP, a1], by simp [sV_stP, a2], fun t' ht' => by simp [sQ_stP, a3 t' ht'], fun t' ht' => ?_⟩
  obtain ⟨s1, s2, s3, s4, s5, s6, s7, s8, s9, s10, s11, s12, s13⟩ := a4 t' ht'
  unfold CT1
  rw [eliv]
  simp (disch := decide) only [o]
  refine ⟨by simp [sP_stP, s1], by simp [sP_stP, s2], by simp [sP_stP, s3], by simp [sP_stP, s4], fun r hr => by simp [sP_stP, s5 r hr], fun r c' hr hc' => by simp [sP_stP, s6 r c' hr hc'], fun c' hc' => by simp [sP_stP, s7 c' hc'], fun c' hc' => by simp [sP_stP, s8 c' hc'], by simp [sP_stP, s9], by simp [sP_stP, s10], fun c' hc' => ?_, fun c' hc' => ?_, fun c' hc' => ?_⟩
  · simp only [sP_stP, mu, Nat.reduceEqDiff, true_and, and_true, false_and, and_false, if_true, if_false, eq_self, and_self, Nat.reduceLT, Nat.reduceLeDiff, Nat.reduceAdd, Nat.reduceMul, Nat.reduceDiv, Nat.one_ne_zero]
    by_cases h : t' = t ∧ c' = c
    · rw [if_pos h, if_pos (by omega)]
    · rw [if_neg h, if_neg (by omega)]; exact s11 c' hc'
  · simp only [sP_stP, mu, Nat.reduceEqDiff, true_and, and_true, false_and, and_false, if_true, if_false, eq_self, and_self, Nat.reduceLT, Nat.reduceLeDiff, Nat.reduceAdd, Nat.reduceMul, Nat.reduceDiv, Nat.one_ne_zero]
    by_cases h : t' = t ∧ c' = c
    · rw [if_pos h, if_pos (by omega)]
    · rw [if_neg h, if_neg (by omega)]; exact s12 c' hc'
  · simp only [sP_stP, mu, Nat.reduceEqDiff, true_and, and_true, false_and, and_false, if_true, if_false, eq_self, and_self, Nat.reduceLT, Nat.reduceLeDiff, Nat.reduceAdd, Nat.reduceMul, Nat.reduceDiv, Nat.one_ne_zero]
    by_cases h : t' = t ∧ c' = c
    · rw [if_pos h, if_pos (by omega)]
    · rw [if_neg h, if_neg (by omega)]; exact s13 c' hc'
theorem CT_c0 (T : CT m u σ) (ht : t < 3) : CT (mC m u t 0) u (stP (stP σ 10 t 8 0 (nI (liv m t))) 10 t 9 0 (nI ((m 3 t + 3) / 4))) := by
  obtain ⟨a1, a2, a3, a4⟩ := T
  have o : ∀ f, cntF f = false → ∀ j, mC m u t 0 f j = m f j := fun f h j => mC_o h 0 j
  unfold CT
  rw [o 1 rfl]
  refine ⟨by simp [sP_stP, a1], by simp [sV_stP, a2], fun t' ht' => by simp [sQ_stP, a3 t' ht'], fun t' ht' => ?_⟩
  obtain ⟨s1, s2, s3, s4, s5, s6, s7, s8, s9, s10, s11, s12, s13⟩ := a4 t' ht'
  unfold CT1
  rw [liv_C]
  simp only [o 2 rfl, o 3 rfl, o 4 rfl, o 6 rfl, o 7 rfl]
  refine ⟨by simp [sP_stP, s1], by simp [sP_stP, s2], by simp [sP_stP, s3], by simp [sP_stP, s4], fun r hr => by simp [sP_stP, s5 r hr], fun r c' hr hc' => by simp [sP_stP, s6 r c' hr hc'], fun c' hc' => by simp [sP_stP, s7 c' hc'], fun c' hc' => by simp [sP_stP, s8 c' hc'], ?_, ?_, fun c' hc' => by simp [sP_stP, mC, mu, s11 c' hc'], fun c' hc' => by simp [sP_stP, mC, mu, s12 c' hc'], fun c' hc' => by simp [sP_stP, mC, mu, s13 c' hc']⟩
  · simp only [sP_stP, mC, mu, Nat.reduceEqDiff, true_and, and_true, false_and, and_false, if_true, if_false, eq_self, and_self, Nat.reduceLT, Nat.reduceLeDiff, Nat.reduceAdd, Nat.reduceMul, Nat.reduceDiv, Nat.one_ne_zero]
    by_cases h : t' = t
    · rw [if_pos h, if_pos h]
    · rw [if_neg h, if_neg h]; exact s9
  · simp only [sP_stP, mC, mu, Nat.reduceEqDiff, true_and, and_true, false_and, and_false, if_true, if_false, eq_self, and_self, Nat.reduceLT, Nat.reduceLeDiff, Nat.reduceAdd, Nat.reduceMul, Nat.reduceDiv, Nat.one_ne_zero]
    by_cases h : t' = t
    · rw [if_pos h, if_pos h]
    · rw [if_neg h, if_neg h]; exact s10
theorem c_counts (hN : 1000000 ≤ N) (T : CT m u σ) (W : WT m u) (ht : t < m 1 0) {K : St → Prop} (h : ∀ s, CT (mC m u t (m 2 t)) u s → K10 σ s → K s) : z_X10_takeCounts N t σ K := by
  have h1 := W.nt
  have hcl := W.cl ht
  have h3 := W.2.2.2.1 t (by omega)
  have T1 := T.2.2.2 t ht
  simp (disch := omega) only [z_X10_takeCounts, z_X10_pageCount, u_br_True, u_br_False, u_jn_u, u_lt_u, u_nn_s, u_brn_s, u_brn_n, nI_add, u_n_mul, u_n_lt, u_n_le, u_n_eq, u_n_sub, u_n_div, u_n_mod, nI_clamp, u_m1, u_m1q, u_wI_n, u_wA_n, u_br_t, u_br_f, ↓li_m1, li_0, li_1, li_2, li_3, li_4, li_5, li_6, li_7, li_8, li_9, li_10, li_12, li_13, li_26, li_40, li_60, li_61, li_62, li_99, li_100, li_102, li_106, li_114, li_112, li_117, li_108, li_103, li_120, li_300, li_360, li_512, li_1000, sP_stP, Nat.reduceEqDiff, true_and, and_true, false_and, and_false, if_true, if_false, eq_self, and_self, Nat.reduceLT, Nat.reduceLeDiff, Nat.reduceAdd, Nat.reduceMul, Nat.reduceDiv, Nat.one_ne_zero, T1.2.2.2.1, T1.2.2.1]
  rw [show (m 3 t + 4 - 1) / 4 = (m 3 t + 3) / 4 by omega]
  refine for_u (m 2 t) (by omega) (by omega) (fun i s => CT (mC m u t i) u s ∧ K10 σ s) 0 (by omega) (fun self i s hi hI hs => ?_) ⟨CT_c0 T (by omega), (K10.refl.st).st⟩
  obtain ⟨i1, i2⟩ := hI
  have ht' : t < mC m u t i 1 0 := by rw [mC_o rfl]; exact ht
  have Ti := i1.2.2.2 t ht'
  have e2 := Ti.2.1
  rw [mC_o rfl] at e2
  by_cases hl : i < m 2 t
  · simp (disch := omega) only [u_br_True, u_br_False, u_jn_u, u_lt_u, u_nn_s, u_brn_s, u_brn_n, nI_add, u_n_mul, u_n_lt, u_n_le, u_n_eq, u_n_sub, u_n_div, u_n_mod, nI_clamp, u_m1, u_m1q, u_wI_n, u_wA_n, u_br_t, u_br_f, ↓li_m1, li_0, li_1, li_2, li_3, li_4, li_5, li_6, li_7, li_8, li_9, li_10, li_12, li_13, li_26, li_40, li_60, li_61, li_62, li_99, li_100, li_102, li_106, li_114, li_112, li_117, li_108, li_103, li_120, li_300, li_360, li_512, li_1000, e2]
    refine c_takeCol hN Ti (WT_C W ht (by omega)) ht' (by rw [mC_o rfl]; exact hl) ?_
    rw [hasV_C]
    refine hs _ hl ⟨CT_cs i1 (by omega), ((i2.st).st).st⟩
  · simp (disch := omega) only [u_br_True, u_br_False, u_jn_u, u_lt_u, u_nn_s, u_brn_s, u_brn_n, nI_add, u_n_mul, u_n_lt, u_n_le, u_n_eq, u_n_sub, u_n_div, u_n_mod, nI_clamp, u_m1, u_m1q, u_wI_n, u_wA_n, u_br_t, u_br_f, ↓li_m1, li_0, li_1, li_2, li_3, li_4, li_5, li_6, li_7, li_8, li_9, li_10, li_12, li_13, li_26, li_40, li_60, li_61, li_62, li_99, li_100, li_102, li_106, li_114, li_112, li_117, li_108, li_103, li_120, li_300, li_360, li_512, li_1000, e2]
    rw [show i = m 2 t by omega] at i1
    exact h _ i1 i2
/-! the reference -/
def KJ (J : Nat) (σ σ' : St) : Prop := (∀ k' i f j, ¬ (k' = 12 ∧ i = 0 ∧ (f = 10 ∨ f = 11 ∨ f = 12) ∧ j = J) → sP σ' k' i f j = sP σ k' i f j) ∧ sL_ σ' = sL_ σ ∧ sQ σ' = sQ σ ∧ sD_ σ' = sD_ σ ∧ sV σ' = sV σ
theorem KJ.refl : KJ J σ σ := ⟨fun _ _ _ _ _ => rfl, rfl, rfl, rfl, rfl⟩
theorem KJ.st {f : Nat} {v : Int32} (h : KJ J σ σ') (hf : f = 10 ∨ f = 11 ∨ f = 12) : KJ J σ (stP σ' 12 0 f J v) := by
  refine ⟨fun k' i f' j' hn => ?_, h.2.1, h.2.2.1, h.2.2.2.1, h.2.2.2.2⟩
  rw [sP_stP, if_neg (fun e => hn ⟨e.1, e.2.1, by rw [e.2.2.1]; exact hf, e.2.2.2⟩)]
  exact h.1 k' i f' j' hn
theorem KJ.kc (h : KJ J σ σ') : KC σ σ' := ⟨fun k' i f j hn => h.1 k' i f j (fun e => hn e.1), h.2.1, h.2.2.1, h.2.2.2.1, h.2.2.2.2⟩
theorem RI.kj (R : RI m u w L σ) (h : KJ J σ σ') (h10 : sP σ' 12 0 10 J = nI a) (h11 : sP σ' 12 0 11 J = nI b) (h12 : sP σ' 12 0 12 J = nI e) : RI (mu (mu (mu m 10 J a) 11 J b) 12 J e) u w L σ' := by
  obtain ⟨r1, r2, r3, r4, r5⟩ := R
  refine ⟨fun f j hf => ?_, fun j => ?_, fun j => ?_, ?_, fun j hj => ?_⟩
  · by_cases e1 : f = 12 ∧ j = J
    · obtain ⟨rfl, rfl⟩ := e1; rw [h12, mu_eq]
    · by_cases e2 : f = 11 ∧ j = J
      · obtain ⟨rfl, rfl⟩ := e2; rw [h11, mu_ne (by decide), mu_eq]
      · by_cases e3 : f = 10 ∧ j = J
        · obtain ⟨rfl, rfl⟩ := e3; rw [h10, mu_ne (by decide), mu_ne (by decide), mu_eq]
        · rw [h.1 12 0 f j (by omega), r1 f j hf]
          simp only [mu]
          rw [if_neg e1, if_neg e2, if_neg e3]
  · rw [h.1 12 0 5 j (by omega)]; exact r2 j
  · rw [h.1 12 0 53 j (by omega)]; exact r3 j
  · rw [h.1 12 0 21 0 (by omega)]; exact r4
  · rw [h.1 12 0 20 j (by omega)]; exact r5 j hj
theorem r_hasV (hN : 1000000 ≤ N) (R : RI m u w L σ) (W : WT m u) (ht : t < m 1 0) (hc : c < m 2 t) (hv : v < 100) (h3 : sP σ' 12 0 3 t = nI (m 3 t)) (hrow : ∀ r, r < 40 → ∀ {K : Int32 → Prop}, z_X12_hasRow N 0 (nI t) (nI r) σ' K = K (if th m t r = true then nI 1 else nI 0)) (hat : ∀ r, r < 40 → ∀ {K : Int32 → Prop}, z_X12_at N 0 (nI t) (nI r) (nI c) σ' K = K (vl u t r c)) {K : Int32 → Prop} (h : K (if hasV m u t c 40 v = true then nI 1 else nI 0)) :
    fx2 (fun (w42 : Int32 → Int32 → Prop) (x9 : Int32) (x10 : Int32) => br (sP σ' 12 0 3 t ≤ x10) (K x9) (jn (fun (v29 : Int32) => w42 v29 (x10 + nI 1)) (fun j86 => jn (j86 (nI 1)) (fun j81 => br (x9 = nI 0) (z_X12_hasRow N 0 (nI t) x10 σ' fun v30 => jn (j86 (nI 0)) (fun j85 => br (v30 = nI 0) j85 (z_X12_at N 0 (nI t) x10 (nI c) σ' fun v31 => br (v31 = nI v) j81 j85))) j81)))) N (nI 0) (nI 0) := by
  have h1 := W.nt
  have hcl := W.cl ht
  have hm3 := W.2.2.2.1 t (by omega)
  have V := W.vg ht hc
  refine for_v (m 3 t) (by omega) (by omega) (fun r a => a = if hasV m u t c r v = true then nI 1 else nI 0) 0 (by omega) (fun self r a hr ha hs => ?_) (by simp [hasV])
  subst ha
  by_cases hl : r < m 3 t
  · have goalS : self (if hasV m u t c (r + 1) v = true then nI 1 else nI 0) (nI (r + 1)) := hs _ hl rfl
    rw [hasV_s] at goalS
    by_cases hf : hasV m u t c r v = true
    · rw [if_pos hf]
      rw [hf, Bool.true_or, if_pos rfl] at goalS
      simp (disch := omega) only [u_br_True, u_br_False, u_jn_u, u_lt_u, u_nn_s, u_brn_s, u_brn_n, nI_add, u_n_mul, u_n_lt, u_n_le, u_n_eq, u_n_sub, u_n_div, u_n_mod, nI_clamp, u_m1, u_m1q, u_wI_n, u_wA_n, u_br_t, u_br_f, h3]
      exact goalS
    · rw [if_neg hf]
      have hf2 : hasV m u t c r v = false := by simpa using hf
      rw [hf2, Bool.false_or] at goalS
      by_cases hth : th m t r = true
      · obtain ⟨x, hx, ex⟩ := V r (by omega) hth
        simp (disch := omega) only [u_br_True, u_br_False, u_jn_u, u_lt_u, u_nn_s, u_brn_s, u_brn_n, nI_add, u_n_mul, u_n_lt, u_n_le, u_n_eq, u_n_sub, u_n_div, u_n_mod, nI_clamp, u_m1, u_m1q, u_wI_n, u_wA_n, u_br_t, u_br_f, h3, hrow r (by omega), hth, Nat.reduceEqDiff, true_and, and_true, false_and, and_false, if_true, if_false, eq_self, and_self, Nat.reduceLT, Nat.reduceLeDiff, Nat.reduceAdd, Nat.reduceMul, Nat.reduceDiv, Nat.one_ne_zero, hat r (by omega), ex]
        by_cases hxv : x = v
        · have : pv m u t c v r = true := by simp [pv, hth, ex, hxv]
          rw [if_pos this] at goalS
          rw [u_br_t hxv]
          exact goalS
        · have hne : ¬ nI x = nI v := by rw [u_n_eq (by omega) (by omega)]; exact hxv
          have : ¬ pv m u t c v r = true := by simp [pv, ex, hne]
          rw [if_neg this] at goalS
          rw [u_br_f hxv]
          exact goalS
      · have : ¬ pv m u t c v r = true := by simp [pv, hth]
        rw [if_neg this] at goalS
        simp (disch := omega) only [u_br_True, u_br_False, u_jn_u, u_lt_u, u_nn_s, u_brn_s, u_brn_n, nI_add, u_n_mul, u_n_lt, u_n_le, u_n_eq, u_n_sub, u_n_div, u_n_mod, nI_clamp, u_m1, u_m1q, u_wI_n, u_wA_n, u_br_t, u_br_f, h3, hrow r (by omega), if_neg hth]
        exact goalS
  · rw [u_br_t (by rw [h3, u_n_le (by omega) (by omega)]; omega)]
    rw [show r = m 3 t by omega, hasV_stop W (by omega)]
    exact h
theorem r_countCol (hN : 1000000 ≤ N) (R : RI m u w L σ) (W : WT m u) (ht : t < m 1 0) (hc : c < m 2 t) {K : St → Prop}
    (h : ∀ σ', RI (mu (mu (mu m 10 (3 * t + c) (cntP (hasV m u t c 40) 100)) 11 (3 * t + c) (minP (hasV m u t c 40) 100)) 12 (3 * t + c) (maxP (hasV m u t c 40) 100)) u w L σ' → KJ (3 * t + c) σ σ' → K σ') : z_X12_countsColumn N 0 (nI t) (nI c) σ K := by
  have h1 := W.nt
  have hcl := W.cl ht
  have hm3 := W.2.2.2.1 t (by omega)
  simp (disch := omega) only [z_X12_countsColumn, u_br_True, u_br_False, u_jn_u, u_lt_u, u_nn_s, u_brn_s, u_brn_n, nI_add, u_n_mul, u_n_lt, u_n_le, u_n_eq, u_n_sub, u_n_div, u_n_mod, nI_clamp, u_m1, u_m1q, u_wI_n, u_wA_n, u_br_t, u_br_f, ↓li_m1, li_0, li_1, li_2, li_3, li_4, li_5, li_6, li_7, li_8, li_9, li_10, li_12, li_13, li_26, li_40, li_60, li_61, li_62, li_99, li_100, li_102, li_106, li_114, li_112, li_117, li_108, li_103, li_120, li_300, li_360, li_512, li_1000]
  rw [show nI 99 = nI 100 - nI 1 by decide]
  refine dn_u 100 (by omega) (by omega) (fun i s => KJ (3 * t + c) σ s ∧ sP s 12 0 10 (3 * t + c) = nI (cntP (hasV m u t c 40) (100 - i)) ∧ sP s 12 0 11 (3 * t + c) = nI (minP (hasV m u t c 40) (100 - i)) ∧ sP s 12 0 12 (3 * t + c) = nI (maxP (hasV m u t c 40) (100 - i))) (fun self i s hi hI hs => ?_) ⟨((KJ.refl.st (Or.inl rfl)).st (Or.inr (Or.inl rfl))).st (Or.inr (Or.inr rfl)), by simp only [sP_stP, Nat.reduceEqDiff, true_and, and_true, false_and, and_false, if_true, if_false, eq_self, and_self, Nat.reduceLT, Nat.reduceLeDiff, Nat.reduceAdd, Nat.reduceMul, Nat.reduceDiv, Nat.one_ne_zero]; rfl, by simp only [sP_stP, Nat.reduceEqDiff, true_and, and_true, false_and, and_false, if_true, if_false, eq_self, and_self, Nat.reduceLT, Nat.reduceLeDiff, Nat.reduceAdd, Nat.reduceMul, Nat.reduceDiv, Nat.one_ne_zero]; rfl, by simp only [sP_stP, Nat.reduceEqDiff, true_and, and_true, false_and, and_false, if_true, if_false, eq_self, and_self, Nat.reduceLT, Nat.reduceLeDiff, Nat.reduceAdd, Nat.reduceMul, Nat.reduceDiv, Nat.one_ne_zero]; rfl⟩
  obtain ⟨i1, i2, i3, i4⟩ := hI
  by_cases h0 : i = 0
  · subst h0
    rw [u_br_t (by decide)]
    exact h _ (R.kj i1 i2 i3 i4) i1
  · obtain ⟨i, rfl⟩ : ∃ i', i = i' + 1 := ⟨i - 1, by omega⟩
    rw [u_n_sub (by omega), show i + 1 - 1 = i by omega]
    have e3 : sP s 12 0 3 t = nI (m 3 t) := by rw [i1.1 12 0 3 t (by omega)]; exact R.r 3 t rfl
    have Rk := R.kj i1 i2 i3 i4
    have hrow : ∀ r, r < 40 → ∀ {K : Int32 → Prop}, z_X12_hasRow N 0 (nI t) (nI r) s K = K (if th m t r = true then nI 1 else nI 0) := by
      intro r hr K
      have := r_hasRow (N := N) (K := K) Rk (by omega : t < 3) hr (by rw [mu_ne (by decide), mu_ne (by decide), mu_ne (by decide)]; exact hm3) (by rw [mu_ne (by decide), mu_ne (by decide), mu_ne (by decide)]; exact (W.row (by omega) hr).2.1) (by rw [mu_ne (by decide), mu_ne (by decide), mu_ne (by decide), mu_ne (by decide), mu_ne (by decide), mu_ne (by decide)]; exact (W.row (by omega) hr).2.2)
      rw [th_mu (by decide), th_mu (by decide), th_mu (by decide)] at this
      exact this
    have hat : ∀ r, r < 40 → ∀ {K : Int32 → Prop}, z_X12_at N 0 (nI t) (nI r) (nI c) s K = K (vl u t r c) := fun r hr K => r_at Rk (by omega) hr (by omega)
    rw [u_br_f (by rw [u_n_lt (by omega) (by omega)]; omega)]
    refine r_hasV hN R W ht hc (by omega : i < 100) e3 hrow hat ?_
    have ec := cntP_s (p := hasV m u t c 40) (d := 99 - i)
    have en := minP_s (p := hasV m u t c 40) (d := 99 - i)
    have ex := maxP_s (p := hasV m u t c 40) (d := 99 - i)
    rw [show 99 - i + 1 = 100 - i by omega, show 99 - (99 - i) = i by omega] at ec en ex
    rw [show 100 - (i + 1) = 99 - i by omega] at i2 i3 i4
    have hcl9 := cntP_le (p := hasV m u t c 40) (d := 99 - i)
    by_cases hf : hasV m u t c 40 i = true
    · rw [if_pos hf] at ec en
      rw [if_pos hf]
      by_cases hz : cntP (hasV m u t c 40) (99 - i) = 0
      · rw [if_pos ⟨hf, hz⟩] at ex
        simp (disch := omega) only [u_br_True, u_br_False, u_jn_u, u_lt_u, u_nn_s, u_brn_s, u_brn_n, nI_add, u_n_mul, u_n_lt, u_n_le, u_n_eq, u_n_sub, u_n_div, u_n_mod, nI_clamp, u_m1, u_m1q, u_wI_n, u_wA_n, u_br_t, u_br_f, sP_stP, Nat.reduceEqDiff, true_and, and_true, false_and, and_false, if_true, if_false, eq_self, and_self, Nat.reduceLT, Nat.reduceLeDiff, Nat.reduceAdd, Nat.reduceMul, Nat.reduceDiv, Nat.one_ne_zero, i2, hz]
        refine hs _ (by omega) ⟨((i1.st (Or.inr (Or.inr rfl))).st (Or.inr (Or.inl rfl))).st (Or.inl rfl), ?_, ?_, ?_⟩
        · simp only [sP_stP, Nat.reduceEqDiff, true_and, and_true, false_and, and_false, if_true, if_false, eq_self, and_self, Nat.reduceLT, Nat.reduceLeDiff, Nat.reduceAdd, Nat.reduceMul, Nat.reduceDiv, Nat.one_ne_zero]; rw [show 100 - (i + 1 - 1) = 100 - i by omega, ec, hz]
        · simp only [sP_stP, Nat.reduceEqDiff, true_and, and_true, false_and, and_false, if_true, if_false, eq_self, and_self, Nat.reduceLT, Nat.reduceLeDiff, Nat.reduceAdd, Nat.reduceMul, Nat.reduceDiv, Nat.one_ne_zero]; rw [show 100 - (i + 1 - 1) = 100 - i by omega, en]
        · simp only [sP_stP, Nat.reduceEqDiff, true_and, and_true, false_and, and_false, if_true, if_false, eq_self, and_self, Nat.reduceLT, Nat.reduceLeDiff, Nat.reduceAdd, Nat.reduceMul, Nat.reduceDiv, Nat.one_ne_zero]; rw [show 100 - (i + 1 - 1) = 100 - i by omega, ex]
      · rw [if_neg (fun h9 => hz h9.2)] at ex
        simp (disch := omega) only [u_br_True, u_br_False, u_jn_u, u_lt_u, u_nn_s, u_brn_s, u_brn_n, nI_add, u_n_mul, u_n_lt, u_n_le, u_n_eq, u_n_sub, u_n_div, u_n_mod, nI_clamp, u_m1, u_m1q, u_wI_n, u_wA_n, u_br_t, u_br_f, sP_stP, Nat.reduceEqDiff, true_and, and_true, false_and, and_false, if_true, if_false, eq_self, and_self, Nat.reduceLT, Nat.reduceLeDiff, Nat.reduceAdd, Nat.reduceMul, Nat.reduceDiv, Nat.one_ne_zero, i2, i4]
        refine hs _ (by omega) ⟨((i1.st (Or.inr (Or.inr rfl))).st (Or.inr (Or.inl rfl))).st (Or.inl rfl), ?_, ?_, ?_⟩
        · simp only [sP_stP, Nat.reduceEqDiff, true_and, and_true, false_and, and_false, if_true, if_false, eq_self, and_self, Nat.reduceLT, Nat.reduceLeDiff, Nat.reduceAdd, Nat.reduceMul, Nat.reduceDiv, Nat.one_ne_zero]; rw [show 100 - (i + 1 - 1) = 100 - i by omega, ec]
        · simp only [sP_stP, Nat.reduceEqDiff, true_and, and_true, false_and, and_false, if_true, if_false, eq_self, and_self, Nat.reduceLT, Nat.reduceLeDiff, Nat.reduceAdd, Nat.reduceMul, Nat.reduceDiv, Nat.one_ne_zero]; rw [show 100 - (i + 1 - 1) = 100 - i by omega, en]
        · simp only [sP_stP, Nat.reduceEqDiff, true_and, and_true, false_and, and_false, if_true, if_false, eq_self, and_self, Nat.reduceLT, Nat.reduceLeDiff, Nat.reduceAdd, Nat.reduceMul, Nat.reduceDiv, Nat.one_ne_zero]; rw [show 100 - (i + 1 - 1) = 100 - i by omega, ex]
    · rw [if_neg hf] at ec en
      rw [if_neg (fun h9 => hf h9.1)] at ex
      rw [if_neg hf]
      simp (disch := omega) only [u_br_True, u_br_False, u_jn_u, u_lt_u, u_nn_s, u_brn_s, u_brn_n, nI_add, u_n_mul, u_n_lt, u_n_le, u_n_eq, u_n_sub, u_n_div, u_n_mod, nI_clamp, u_m1, u_m1q, u_wI_n, u_wA_n, u_br_t, u_br_f, sP_stP, Nat.reduceEqDiff, true_and, and_true, false_and, and_false, if_true, if_false, eq_self, and_self, Nat.reduceLT, Nat.reduceLeDiff, Nat.reduceAdd, Nat.reduceMul, Nat.reduceDiv, Nat.one_ne_zero, i2, i3, i4]
      refine hs _ (by omega) ⟨((i1.st (Or.inr (Or.inr rfl))).st (Or.inr (Or.inl rfl))).st (Or.inl rfl), ?_, ?_, ?_⟩
      · simp only [sP_stP, Nat.reduceEqDiff, true_and, and_true, false_and, and_false, if_true, if_false, eq_self, and_self, Nat.reduceLT, Nat.reduceLeDiff, Nat.reduceAdd, Nat.reduceMul, Nat.reduceDiv, Nat.one_ne_zero]; rw [show 100 - (i + 1 - 1) = 100 - i by omega, ec, Nat.add_zero]
      · simp only [sP_stP, Nat.reduceEqDiff, true_and, and_true, false_and, and_false, if_true, if_false, eq_self, and_self, Nat.reduceLT, Nat.reduceLeDiff, Nat.reduceAdd, Nat.reduceMul, Nat.reduceDiv, Nat.one_ne_zero]; rw [show 100 - (i + 1 - 1) = 100 - i by omega, en]
      · simp only [sP_stP, Nat.reduceEqDiff, true_and, and_true, false_and, and_false, if_true, if_false, eq_self, and_self, Nat.reduceLT, Nat.reduceLeDiff, Nat.reduceAdd, Nat.reduceMul, Nat.reduceDiv, Nat.one_ne_zero]; rw [show 100 - (i + 1 - 1) = 100 - i by omega, ex]
theorem r_count (hN : 1000000 ≤ N) (R : RI m u w L σ) (W : WT m u) (ht : t < m 1 0) {K : Int32 → St → Prop}
    (h : ∀ σ', RI (mC m u t (m 2 t)) u w L σ' → KC σ σ' → sP σ' 12 0 0 0 = nI 0 → K (nI (liv m t)) σ') : z_X12_count N 0 (nI t) σ K := by
  have R0 : RI m u w L (stP σ 12 0 0 0 (nI 0)) := R.tmp rfl
  have R1 : RI (mu m 16 0 0) u w L (stP (stP σ 12 0 0 0 (nI 0)) 12 0 16 0 (nI 0)) := R0.set rfl
  have h1 := W.nt
  have hcl := W.cl ht
  have h3 := W.2.2.2.1 t (by omega)
  have W1 : WT (mu m 16 0 0) u := by rw [WT_mu (by decide)]; exact W
  simp (disch := omega) only [z_X12_count, r_isT R0 W ht, u_br_True, u_br_False, u_jn_u, u_lt_u, u_nn_s, u_brn_s, u_brn_n, nI_add, u_n_mul, u_n_lt, u_n_le, u_n_eq, u_n_sub, u_n_div, u_n_mod, nI_clamp, u_m1, u_m1q, u_wI_n, u_wA_n, u_br_t, u_br_f, ↓li_m1, li_0, li_1, li_2, li_3, li_4, li_5, li_6, li_7, li_8, li_9, li_10, li_12, li_13, li_26, li_40, li_60, li_61, li_62, li_99, li_100, li_102, li_106, li_114, li_112, li_117, li_108, li_103, li_120, li_300, li_360, li_512, li_1000, b10, b00, f_0, f_1, u_okT, u_nb_0, u_nb_1]
  refine r_there hN R1 W1 (by omega) ?_
  rw [liv_mu (by decide)]
  simp (disch := omega) only [z_X12_pagesOf, u_br_True, u_br_False, u_jn_u, u_lt_u, u_nn_s, u_brn_s, u_brn_n, nI_add, u_n_mul, u_n_lt, u_n_le, u_n_eq, u_n_sub, u_n_div, u_n_mod, nI_clamp, u_m1, u_m1q, u_wI_n, u_wA_n, u_br_t, u_br_f, ↓li_m1, li_0, li_1, li_2, li_3, li_4, li_5, li_6, li_7, li_8, li_9, li_10, li_12, li_13, li_26, li_40, li_60, li_61, li_62, li_99, li_100, li_102, li_106, li_114, li_112, li_117, li_108, li_103, li_120, li_300, li_360, li_512, li_1000, sP_stP, Nat.reduceEqDiff, true_and, and_true, false_and, and_false, if_true, if_false, eq_self, and_self, Nat.reduceLT, Nat.reduceLeDiff, Nat.reduceAdd, Nat.reduceMul, Nat.reduceDiv, Nat.one_ne_zero, (fun j => R.r 3 j rfl)]
  refine for_u (m 2 t) (by omega) (by omega) (fun i s => RI (mC m u t i) u w L s ∧ KC σ s ∧ sP s 12 0 0 0 = nI 0) 0 (by omega) (fun self i s hi hI hs => ?_) ⟨(R1.set rfl).set rfl, ((KC.st.trans KC.st).trans KC.st).trans KC.st, by simp (disch := decide) only [sP_o, sP_e]⟩
  obtain ⟨i1, i2, i3⟩ := hI
  have e2 := i1.r 2 t rfl
  rw [mC_o rfl] at e2
  by_cases hl : i < m 2 t
  · simp (disch := omega) only [u_br_True, u_br_False, u_jn_u, u_lt_u, u_nn_s, u_brn_s, u_brn_n, nI_add, u_n_mul, u_n_lt, u_n_le, u_n_eq, u_n_sub, u_n_div, u_n_mod, nI_clamp, u_m1, u_m1q, u_wI_n, u_wA_n, u_br_t, u_br_f, ↓li_m1, li_0, li_1, li_2, li_3, li_4, li_5, li_6, li_7, li_8, li_9, li_10, li_12, li_13, li_26, li_40, li_60, li_61, li_62, li_99, li_100, li_102, li_106, li_114, li_112, li_117, li_108, li_103, li_120, li_300, li_360, li_512, li_1000, e2]
    refine r_countCol hN i1 (WT_C W ht (by omega)) (by rw [mC_o rfl]; exact ht) (by rw [mC_o rfl]; exact hl) (fun σ' R' k' => ?_)
    rw [hasV_C] at R'
    exact hs _ hl ⟨R', i2.trans k'.kc, by rw [k'.1 12 0 0 0 (by omega)]; exact i3⟩
  · have hi2 : i = m 2 t := by omega
    subst hi2
    have e8 : mC m u t (m 2 t) 8 t = liv m t := by
      have : ∀ n, mC m u t n 8 t = liv m t := by
        intro n
        induction n with
        | zero => simp [mC, mu]
        | succ n ih => simp only [mC]; rw [mu_ne (by decide), mu_ne (by decide), mu_ne (by decide), ih]
      exact this _
    have e9 := i1.r 8 t rfl
    rw [e8] at e9
    simp (disch := omega) only [u_br_True, u_br_False, u_jn_u, u_lt_u, u_nn_s, u_brn_s, u_brn_n, nI_add, u_n_mul, u_n_lt, u_n_le, u_n_eq, u_n_sub, u_n_div, u_n_mod, nI_clamp, u_m1, u_m1q, u_wI_n, u_wA_n, u_br_t, u_br_f, ↓li_m1, li_0, li_1, li_2, li_3, li_4, li_5, li_6, li_7, li_8, li_9, li_10, li_12, li_13, li_26, li_40, li_60, li_61, li_62, li_99, li_100, li_102, li_106, li_114, li_112, li_117, li_108, li_103, li_120, li_300, li_360, li_512, li_1000, e2, e9]
    exact h _ i1 i2 i3
theorem r_count1 (R : RI m u w L σ) (W : WT m u) {p : Int32} (hp : Out p (m 1 0)) {K : Int32 → St → Prop} : z_X12_count N 0 p σ K = K mI (stP σ 12 0 0 0 (nI 1)) := by
  have R0 : RI m u w L (stP σ 12 0 0 0 (nI 0)) := R.tmp rfl
  simp (disch := omega) only [z_X12_count, r_isTO R0 W hp, u_br_True, u_br_False, u_jn_u, u_lt_u, u_nn_s, u_brn_s, u_brn_n, ↓li_m1, li_0, li_1, li_2, li_3, li_4, li_5, li_6, li_7, li_8, li_9, li_10, li_12, li_13, li_26, li_40, li_60, li_61, li_62, li_99, li_100, li_102, li_106, li_114, li_112, li_117, li_108, li_103, li_120, li_300, li_360, li_512, li_1000, b10, b00, f_0, f_1, u_okT, u_nb_0, u_nb_1]
theorem k_count (hN : 1000000 ≤ N) (I : Inv kk σ) (hk : kk < 512) (p : Int32) {T : Int32 → Int32 → St → Prop} (hT : ∀ code b σ2, G (kk + 1) code b σ2 → T code b σ2) : z_L_count N (some 0) p σ (fun code σ1 => z_X12_count N 0 p σ1 (fun b σ2 => T code b σ2)) := by
  have I0 := I
  obtain ⟨m, u, w, L, R, C, W⟩ := I
  have C1 := C
  have W1 := W
  obtain ⟨C0', CT', CX', CC', CQ', CD', CP'⟩ := C
  obtain ⟨WT', WX', WC', WQ', WD'⟩ := W
  have hn := WT'.nt
  rcases u_io p (m 1 0) with ⟨t, ht, _, rfl⟩ | hp
  · have hcl := WT'.cl ht
    simp only [z_L_count, z_X11_count, u_br_True, u_br_False, u_jn_u, u_lt_u, u_nn_s, u_brn_s, u_brn_n, c_needT C0' CT' WT' ht]
    refine c_counts hN CT' WT' ht (fun s Ts k10 => ?_)
    have Cs := k10.fi.c0 C0'
    unfold C0 at Cs
    have e8 := (Ts.2.2.2 t (by rw [mC_o rfl]; exact ht)).2.2.2.2.2.2.2.2.1
    have e8b : mC m u t (m 2 t) 8 t = liv m t := by
      have : ∀ n, mC m u t n 8 t = liv m t := by
        intro n
        induction n with
        | zero => simp [mC, mu]
        | succ n ih => simp only [mC]; rw [mu_ne (by decide), mu_ne (by decide), mu_ne (by decide), ih]
      exact this _
    rw [e8b] at e8
    simp (disch := omega) only [z_X2_closeAppeals, z_X10_takenRows, Cs, u_br_True, u_br_False, u_jn_u, u_lt_u, u_nn_s, u_brn_s, u_brn_n, ↓li_m1, li_0, li_1, li_2, li_3, li_4, li_5, li_6, li_7, li_8, li_9, li_10, li_12, li_13, li_26, li_40, li_60, li_61, li_62, li_99, li_100, li_102, li_106, li_114, li_112, li_117, li_108, li_103, li_120, li_300, li_360, li_512, li_1000, sP_stP, Nat.reduceEqDiff, true_and, and_true, false_and, and_false, if_true, if_false, eq_self, and_self, Nat.reduceLT, Nat.reduceLeDiff, Nat.reduceAdd, Nat.reduceMul, Nat.reduceDiv, Nat.one_ne_zero, e8, wA_l, l0c]
    refine r_count hN ((R.km (k10.fi.km.trans (KM.st (by decide)))).km KM.stL) WT' ht (fun σ2 R2 k2 e0 => ?_)
    refine hT _ _ _ (finI k10.fi SameX_C mC_16 C1 W1 hk Ts ?_ (SameX_C.cc ?_) R2 k2 (WT_C WT' ht hcl.2) (SameX_C.wc WC') e0)
    · have X1 := CX'.fr (σ' := s) (fun i f j => k10.1 3 i f j (by decide)) (fun i f j => k10.1 9 i f j (by decide)) k10.2.2.1 k10.2.2.2.2
      have e13 : ∀ j, mC m u t (m 2 t) 13 j = m 13 j := fun j => mC_o rfl _ j
      have e14 : ∀ j, mC m u t (m 2 t) 14 j = m 14 j := fun j => mC_o rfl _ j
      have e15 : ∀ j, mC m u t (m 2 t) 15 j = m 15 j := fun j => mC_o rfl _ j
      unfold CX CX1 at X1 ⊢
      simp only [e13, e14, e15, ent_C]
      exact X1
    · unfold CC at CC' ⊢
      simp only [k10.1 0 _ _ _ (by decide)]
      exact CC'
  · simp only [z_L_count, z_X11_count, u_br_True, u_br_False, u_jn_u, u_lt_u, u_nn_s, u_brn_s, u_brn_n, c_needTO C0' CT' WT' hp, r_count1 R WT' hp, li_1, li_2, li_3, true_and]
    exact hT _ _ _ (G_exc (c := 1) I0 hk (by decide) (by decide))
end KCOUNT
