section KPAY
variable {m : Nat → Nat → Nat} {u w : Nat → Int32} {L L0 : List Nat} {σ σ' σ0 s s2 σ1 : St} {N kk n q p d ban t c k a x i j f b y : Nat} {v wi : Int32} {cs : Nat → Nat} {up : Bool}
def sgU (up : Bool) : Int32 := if up = true then nI 1 else mI
def udN (up : Bool) (c a : Nat) : Nat := if up = true then c + a else c - a
def pkA (wi : Int32) (d : Nat) : Nat := if wi = mI then 1 else if wi = nI d then 3 else 0
def pkN (wi : Int32) (up : Bool) (d c : Nat) : Nat := udN up c (pkA wi d)
def isWi (wi : Int32) : Prop := wi = mI ∨ wi = nI 0 ∨ wi = nI 1
theorem wn_is {a b : Int32} : isWi (wn a b) := by
  unfold wn isWi
  split
  · exact Or.inr (Or.inl rfl)
  · split
    · exact Or.inr (Or.inr rfl)
    · exact Or.inl rfl
theorem mI_mul {y : Int32} : mI * y = -y := by
  show (-1 : Int32) * y = -y
  rw [Int32.neg_mul, Int32.one_mul]
theorem lowM : ∀ c, c < 4 → ∀ a, a < 4 → c < a → ¬ (nI 0 < nI c - nI a) ∧ ¬ (nI 0 ≤ nI c - nI a) := by decide +kernel
theorem gvD (hc : c < 100000) (ha : a < 4) : (if nI 0 < nI c - nI a then nI c - nI a else nI 0) = nI (c - a) := by
  by_cases h : c < a
  · rw [if_neg (lowM c (by omega) a ha h).1, show c - a = 0 by omega]
  · rw [u_n_sub (by omega)]
    by_cases h2 : c - a = 0
    · rw [h2, if_neg (by decide)]
    · rw [if_pos (by rw [u_n_lt (by omega) (by omega)]; omega)]
theorem gvU (hc : c < 100000) (ha : a < 4) : (if nI 0 < nI (c + a) then nI (c + a) else nI 0) = nI (c + a) := by
  by_cases h2 : c + a = 0
  · rw [h2, if_neg (by decide)]
  · rw [if_pos (by rw [u_n_lt (by omega) (by omega)]; omega)]
/-- the class's give -/
theorem c_give (hd : d < 2) (hc : sP σ 2 0 0 d = nI c) (hc9 : c < 100000) (ha : a < 4) (hv : v = if up = true then nI a else - nI a) {K : St → Prop} : z_X2_give N 0 (nI d) v σ K = K (stP σ 2 0 0 d (nI (udN up c a))) := by
  subst hv
  cases up with
  | true =>
    simp (disch := omega) only [z_X2_give, nI_clamp, hc, Nat.reduceEqDiff, true_and, and_true, false_and, and_false, if_true, if_false, eq_self, and_self, Nat.reduceLT, Nat.reduceLeDiff, Nat.reduceAdd, Nat.reduceMul, Nat.reduceDiv, Nat.one_ne_zero, ↓li_m1, li_0, li_1, li_2, li_3, li_4, li_5, li_6, li_7, li_8, li_9, li_10, li_12, li_13, li_26, li_40, li_60, li_61, li_62, li_99, li_100, li_102, li_106, li_114, li_112, li_117, li_108, li_103, li_120, li_300, li_360, li_512, li_1000, nI_add, gvU hc9 ha]
    simp (disch := omega) only [u_br_True, u_br_False, u_jn_u, u_lt_u, u_nn_s, u_brn_s, u_brn_n, nI_add, u_n_mul, u_n_lt, u_n_le, u_n_eq, u_n_sub, u_n_div, u_n_mod, nI_clamp, u_m1, u_m1q, u_wI_n, u_wA_n, u_br_t, u_br_f]
    rfl
  | false =>
    have e : (if false = true then nI a else - nI a) = - nI a := rfl
    have e2 : nI c + - nI a = nI c - nI a := (Int32.sub_eq_add_neg _ _).symm
    simp (disch := omega) only [z_X2_give, nI_clamp, hc, e, e2, ↓li_m1, li_0, li_1, li_2, li_3, li_4, li_5, li_6, li_7, li_8, li_9, li_10, li_12, li_13, li_26, li_40, li_60, li_61, li_62, li_99, li_100, li_102, li_106, li_114, li_112, li_117, li_108, li_103, li_120, li_300, li_360, li_512, li_1000, gvD hc9 ha]
    simp (disch := omega) only [u_br_True, u_br_False, u_jn_u, u_lt_u, u_nn_s, u_brn_s, u_brn_n, nI_add, u_n_mul, u_n_lt, u_n_le, u_n_eq, u_n_sub, u_n_div, u_n_mod, nI_clamp, u_m1, u_m1q, u_wI_n, u_wA_n, u_br_t, u_br_f]
    rfl
def KD0 (σ s : St) : Prop := (∀ k i f j, ¬ (k = 2 ∧ i = 0 ∧ f = 0 ∧ j < 2) → sP s k i f j = sP σ k i f j) ∧ sL_ s = sL_ σ ∧ sQ s = sQ σ ∧ sD_ s = sD_ σ ∧ sV s = sV σ
theorem KD0.st (hj : j < 2) : KD0 σ (stP σ 2 0 0 j v) := ⟨fun k i f j' hn => by rw [sP_stP, if_neg (fun e => hn ⟨e.1, e.2.1, e.2.2.1, by rw [e.2.2.2]; exact hj⟩)], rfl, rfl, rfl, rfl⟩
theorem KD0.trans (h : KD0 σ σ') (g : KD0 σ' σ1) : KD0 σ σ1 := ⟨fun k i f j a => (g.1 k i f j a).trans (h.1 k i f j a), g.2.1.trans h.2.1, g.2.2.1.trans h.2.2.1, g.2.2.2.1.trans h.2.2.2.1, g.2.2.2.2.trans h.2.2.2.2⟩
theorem sg1 : sgU up = if up = true then nI 1 else - nI 1 := by
  cases up <;> rfl
theorem sg3 : nI 3 * sgU up = if up = true then nI 3 else - nI 3 := by
  cases up <;> decide
theorem ud0 : udN up c 0 = c := by cases up <;> rfl
theorem c_pay (hw : sP σ 2 0 4 0 = wi) (hwi : isWi wi) (hc : ∀ d, d < 2 → sP σ 2 0 0 d = nI (cs d) ∧ cs d < 100000) {K : St → Prop} (h : ∀ s, (∀ d, d < 2 → sP s 2 0 0 d = nI (pkN wi up d (cs d))) → KD0 σ s → K s) : z_X2_pay N 0 (sgU up) σ K := by
  obtain ⟨c0, c0'⟩ := hc 0 (by decide)
  obtain ⟨c1, c1'⟩ := hc 1 (by decide)
  rcases hwi with rfl | rfl | rfl
  · simp only [z_X2_pay, hw, ↓li_m1, li_0, li_1, li_2, li_3, li_4, li_5, li_6, li_7, li_8, li_9, li_10, li_12, li_13, li_26, li_40, li_60, li_61, li_62, li_99, li_100, li_102, li_106, li_114, li_112, li_117, li_108, li_103, li_120, li_300, li_360, li_512, li_1000]
    rw [u_br_True, c_give (up := up) (a := 1) (by decide) c0 c0' (by decide) sg1, c_give (up := up) (a := 1) (c := cs 1) (by decide) (by simp only [sP_stP, Nat.reduceEqDiff, true_and, and_true, false_and, and_false, if_true, if_false, eq_self, and_self, Nat.reduceLT, Nat.reduceLeDiff, Nat.reduceAdd, Nat.reduceMul, Nat.reduceDiv, Nat.one_ne_zero]; exact c1) c1' (by decide) sg1]
    refine h _ (fun d hd => ?_) ((KD0.st (by decide)).trans (KD0.st (by decide)))
    have e : d = 0 ∨ d = 1 := by omega
    rcases e with rfl | rfl <;> simp only [sP_stP, Nat.reduceEqDiff, true_and, and_true, false_and, and_false, if_true, if_false, eq_self, and_self, Nat.reduceLT, Nat.reduceLeDiff, Nat.reduceAdd, Nat.reduceMul, Nat.reduceDiv, Nat.one_ne_zero] <;> rfl
  · have m0 : ¬ nI 0 = mI := by decide
    simp only [z_X2_pay, hw, ↓li_m1, li_0, li_1, li_2, li_3, li_4, li_5, li_6, li_7, li_8, li_9, li_10, li_12, li_13, li_26, li_40, li_60, li_61, li_62, li_99, li_100, li_102, li_106, li_114, li_112, li_117, li_108, li_103, li_120, li_300, li_360, li_512, li_1000]
    rw [u_br_f m0, c_give (up := up) (a := 3) (by decide) c0 c0' (by decide) sg3]
    refine h _ (fun d hd => ?_) (KD0.st (by decide))
    have e : d = 0 ∨ d = 1 := by omega
    rcases e with rfl | rfl
    · simp only [sP_stP, Nat.reduceEqDiff, true_and, and_true, false_and, and_false, if_true, if_false, eq_self, and_self, Nat.reduceLT, Nat.reduceLeDiff, Nat.reduceAdd, Nat.reduceMul, Nat.reduceDiv, Nat.one_ne_zero]
      rfl
    · simp only [sP_stP, Nat.reduceEqDiff, true_and, and_true, false_and, and_false, if_true, if_false, eq_self, and_self, Nat.reduceLT, Nat.reduceLeDiff, Nat.reduceAdd, Nat.reduceMul, Nat.reduceDiv, Nat.one_ne_zero]
      have e9 : pkA (nI 0) 1 = 0 := by decide
      rw [c1, pkN, e9, ud0]
  · have m0 : ¬ nI 1 = mI := by decide
    simp only [z_X2_pay, hw, ↓li_m1, li_0, li_1, li_2, li_3, li_4, li_5, li_6, li_7, li_8, li_9, li_10, li_12, li_13, li_26, li_40, li_60, li_61, li_62, li_99, li_100, li_102, li_106, li_114, li_112, li_117, li_108, li_103, li_120, li_300, li_360, li_512, li_1000]
    rw [u_br_f m0, c_give (up := up) (a := 3) (by decide) c1 c1' (by decide) sg3]
    refine h _ (fun d hd => ?_) (KD0.st (by decide))
    have e : d = 0 ∨ d = 1 := by omega
    rcases e with rfl | rfl
    · simp only [sP_stP, Nat.reduceEqDiff, true_and, and_true, false_and, and_false, if_true, if_false, eq_self, and_self, Nat.reduceLT, Nat.reduceLeDiff, Nat.reduceAdd, Nat.reduceMul, Nat.reduceDiv, Nat.one_ne_zero]
      have e9 : pkA (nI 1) 0 = 0 := by decide
      rw [c0, pkN, e9, ud0]
    · simp only [sP_stP, Nat.reduceEqDiff, true_and, and_true, false_and, and_false, if_true, if_false, eq_self, and_self, Nat.reduceLT, Nat.reduceLeDiff, Nat.reduceAdd, Nat.reduceMul, Nat.reduceDiv, Nat.one_ne_zero]
      rfl
theorem wn_n (ha : a < 2 ^ 31) (hb : b < 2 ^ 31) : wn (nI a) (nI b) = if a < b then nI 0 else if b < a then nI 1 else mI := by
  unfold wn
  simp only [u_n_lt ha hb, u_n_lt hb ha]
  rfl
theorem wn_br (ha : a < 2 ^ 31) (hb : b < 2 ^ 31) {K : Int32 → Prop} : br (nI b ≤ nI a) (br (nI a ≤ nI b) (K mI) (K (nI 1))) (K (nI 0)) = K (wn (nI a) (nI b)) := by
  rw [wn_n ha hb]
  by_cases h1 : a < b
  · rw [u_br_f (by rw [u_n_le hb ha]; omega), if_pos h1]
  · rw [u_br_t (by rw [u_n_le hb ha]; omega), if_neg h1]
    by_cases h2 : b < a
    · rw [u_br_f (by rw [u_n_le ha hb]; omega), if_pos h2]
    · rw [u_br_t (by rw [u_n_le ha hb]; omega), if_neg h2]
theorem c_setRes (h3 : sP σ 2 0 3 0 = nI n) (hn : 0 < n) (hn2 : n ≤ 512) (ha : a < 2 ^ 20) (hb : b < 2 ^ 20) {K : St → Prop} : z_X2_setResult N 0 (nI a) (nI b) σ K = K (stP (stP (stP σ 2 0 2 (2 * n - 2) (nI a)) 2 0 2 (2 * n - 1) (nI b)) 2 0 4 0 (wn (nI a) (nI b))) := by
  have e1 : (n - 1) * 2 = 2 * n - 2 := by omega
  have e2 : 2 * n - 2 + 1 = 2 * n - 1 := by omega
  have wb := wn_br (K := fun v => K (stP (stP (stP σ 2 0 2 (2 * n - 2) (nI a)) 2 0 2 (2 * n - 1) (nI b)) 2 0 4 0 v)) (a := a) (b := b) (by omega) (by omega)
  simp (disch := omega) only [z_X2_setResult, h3, u_br_True, u_br_False, u_jn_u, u_lt_u, u_nn_s, u_brn_s, u_brn_n, u_n_sub, u_n_mul, ↓li_m1, li_0, li_1, li_2, li_3, li_4, li_5, li_6, li_7, li_8, li_9, li_10, li_12, li_13, li_26, li_40, li_60, li_61, li_62, li_99, li_100, li_102, li_106, li_114, li_112, li_117, li_108, li_103, li_120, li_300, li_360, li_512, li_1000, li_1024, e1, nI_add, e2, u_n_lt, u_n_le, u_br_f, u_wA_n, nI_clamp] at wb ⊢
  exact wb
theorem r_win (R : RI m u w L σ) (hn : n < 600) (ha : w (2 * n) = nI a) (hb : w (2 * n + 1) = nI b) (ha2 : a < 2 ^ 20) (hb2 : b < 2 ^ 20) {K : Int32 → Prop} : z_X12_winnerOf N 0 (nI n) σ K = K (wn (nI a) (nI b)) := by
  have e1 : sP σ 12 0 53 (2 * n) = nI a := (R.2.2.1 _).trans ha
  have e2 : sP σ 12 0 53 (2 * n + 1) = nI b := (R.2.2.1 _).trans hb
  have wb := wn_br (K := K) (a := a) (b := b) (by omega) (by omega)
  simp (disch := omega) only [z_X12_winnerOf, u_br_True, u_br_False, u_jn_u, u_lt_u, u_nn_s, u_brn_s, u_brn_n, u_n_mul, nI_add, u_wI_n, nI_clamp, ↓li_m1, li_0, li_1, li_2, li_3, li_4, li_5, li_6, li_7, li_8, li_9, li_10, li_12, li_13, li_26, li_40, li_60, li_61, li_62, li_99, li_100, li_102, li_106, li_114, li_112, li_117, li_108, li_103, li_120, li_300, li_360, li_512, li_1000, e1, e2]
  exact wb
theorem r_mostP (hc : c < 100000) (ha : a < 4) {K : Int32 → Prop} : z_X12_most N (nI 0) (nI c + sgU up * nI a) σ K = K (nI (udN up c a)) := by
  cases up with
  | true =>
    have e : sgU true = nI 1 := rfl
    simp (disch := omega) only [e, nI_add, u_n_mul, u_n_lt, u_n_le, u_n_eq, u_n_sub, u_n_div, u_n_mod, nI_clamp, u_m1, u_m1q, u_wI_n, u_wA_n, u_br_t, u_br_f, r_most]
    rw [Nat.max_eq_right (Nat.zero_le _)]
    show K (nI (c + 1 * a)) = K (nI (c + a))
    rw [Nat.one_mul]
  | false =>
    have e : sgU false = mI := rfl
    have e2 : nI c + mI * nI a = nI c - nI a := by rw [mI_mul, Int32.sub_eq_add_neg]
    rw [e, e2]
    unfold z_X12_most
    by_cases h : c < a
    · rw [u_br_f (lowM c (by omega) a ha h).2]
      show K (nI 0) = K (nI (c - a))
      rw [show c - a = 0 by omega]
    · rw [u_n_sub (by omega), u_br_t (by rw [u_n_le (by omega) (by omega)]; omega)]
      rfl
theorem r_pays (hN : 1000000 ≤ N) (R : RI m u w L σ) (hwi : isWi wi) (h0 : m 51 0 < 100000) (h1 : m 51 1 < 100000) {K : St → Prop} (h : K (stP (stP σ 12 0 51 0 (nI (pkN wi up 0 (m 51 0)))) 12 0 51 1 (nI (pkN wi up 1 (m 51 1))))) : z_X12_pays N 0 wi (sgU up) σ K := by
  have r0 : sP σ 12 0 51 0 = nI (m 51 0) := R.r 51 0 rfl
  have r1 : sP σ 12 0 51 1 = nI (m 51 1) := R.r 51 1 rfl
  have jb : ∀ (k : Nat) (T : Int32 → Prop), k < 2 → T (nI (pkA wi k)) → br (wi = mI) (T (nI 1)) (br (wi = nI k) (T (nI 3)) (T (nI 0))) := by
    intro k T hk hT
    unfold pkA at hT
    by_cases e1 : wi = mI
    · rw [if_pos e1] at hT
      rw [u_br_t e1]; exact hT
    · rw [if_neg e1] at hT
      rw [u_br_f e1]
      by_cases e2 : wi = nI k
      · rw [if_pos e2] at hT
        rw [u_br_t e2]; exact hT
      · rw [if_neg e2] at hT
        rw [u_br_f e2]; exact hT
  have pa : ∀ k, pkA wi k < 4 := fun k => by
    unfold pkA
    split
    · decide
    · split <;> decide
  unfold z_X12_pays
  simp only [↓li_m1, li_0, li_1, li_2, li_3, li_4, li_5, li_6, li_7, li_8, li_9, li_10, li_12, li_13, li_26, li_40, li_60, li_61, li_62, li_99, li_100, li_102, li_106, li_114, li_112, li_117, li_108, li_103, li_120, li_300, li_360, li_512, li_1000]
  refine for_u 2 (by omega) (by omega) (fun j s => (j = 0 → s = σ) ∧ (j = 1 → s = stP σ 12 0 51 0 (nI (pkN wi up 0 (m 51 0)))) ∧ (j = 2 → s = stP (stP σ 12 0 51 0 (nI (pkN wi up 0 (m 51 0)))) 12 0 51 1 (nI (pkN wi up 1 (m 51 1))))) 0 (by omega) (fun self j s hj hI hs => ?_) ⟨fun _ => rfl, fun h => by omega, fun h => by omega⟩
  obtain ⟨i1, i2, i3⟩ := hI
  have e : j = 0 ∨ j = 1 ∨ j = 2 := by omega
  rcases e with rfl | rfl | rfl
  · have es := i1 rfl
    subst es
    simp (disch := omega) only [u_br_True, u_br_False, u_jn_u, u_lt_u, u_nn_s, u_brn_s, u_brn_n, nI_add, u_n_mul, u_n_lt, u_n_le, u_n_eq, u_n_sub, u_n_div, u_n_mod, nI_clamp, u_m1, u_m1q, u_wI_n, u_wA_n, u_br_t, u_br_f, r0]
    refine jb 0 (fun v6 => z_X12_most N (nI 0) (nI (m 51 0) + sgU up * v6) s fun v7 => self (nI (0 + 1)) (stP s 12 0 51 0 v7)) (by decide) ?_
    rw [r_mostP h0 (pa 0)]
    exact hs _ (by decide) ⟨fun h => by omega, fun _ => rfl, fun h => by omega⟩
  · have es := i2 rfl
    subst es
    have r1' : sP (stP σ 12 0 51 0 (nI (pkN wi up 0 (m 51 0)))) 12 0 51 1 = nI (m 51 1) := by simp only [sP_stP, Nat.reduceEqDiff, true_and, and_true, false_and, and_false, if_true, if_false, eq_self, and_self, Nat.reduceLT, Nat.reduceLeDiff, Nat.reduceAdd, Nat.reduceMul, Nat.reduceDiv, Nat.one_ne_zero]; exact r1
    simp (disch := omega) only [u_br_True, u_br_False, u_jn_u, u_lt_u, u_nn_s, u_brn_s, u_brn_n, nI_add, u_n_mul, u_n_lt, u_n_le, u_n_eq, u_n_sub, u_n_div, u_n_mod, nI_clamp, u_m1, u_m1q, u_wI_n, u_wA_n, u_br_t, u_br_f, r1']
    refine jb 1 (fun v6 => z_X12_most N (nI 0) (nI (m 51 1) + sgU up * v6) (stP σ 12 0 51 0 (nI (pkN wi up 0 (m 51 0)))) fun v7 => self (nI (1 + 1)) (stP (stP σ 12 0 51 0 (nI (pkN wi up 0 (m 51 0)))) 12 0 51 1 v7)) (by decide) ?_
    rw [r_mostP h1 (pa 1)]
    exact hs _ (by decide) ⟨fun h => by omega, fun h => by omega, fun _ => rfl⟩
  · have es := i3 rfl
    subst es
    simp (disch := omega) only [u_br_True, u_br_False, u_jn_u, u_lt_u, u_nn_s, u_brn_s, u_brn_n, nI_add, u_n_mul, u_n_lt, u_n_le, u_n_eq, u_n_sub, u_n_div, u_n_mod, nI_clamp, u_m1, u_m1q, u_wI_n, u_wA_n, u_br_t, u_br_f]
    exact h
end KPAY
