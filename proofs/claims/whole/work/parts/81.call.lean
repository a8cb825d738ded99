section CALL
variable {m : Nat → Nat → Nat} {u w : Nat → Int32} {L : List Nat} {σ σ' s s2 σ1 : St} {N kk n q p d ban t c k a x i place v told F key p3 p4 r e : Nat} {g o : Nat → Nat} {A : Nat → Bool} {cc : Option Nat} {p2 : Int32} {rs : RSt} {vf : (Nat → Nat) → Int32}
def r0 (L : List Nat) : RSt := (0, 0, 0, L, 0, 0, mI)
/-- what the beginning of a run leaves -/
def KB (σ σ' : St) : Prop := (∀ k i f j, ¬ (k = 8 ∧ i = 0) → sP σ' k i f j = sP σ k i f j) ∧ (∀ k i f j, ¬ (k = 8 ∧ i = 0) → sL_ σ' k i f j = sL_ σ k i f j) ∧ (∀ k i f j, ¬ (k = 8 ∧ i = 0 ∧ (f = 1 ∨ f = 2 ∨ f = 3 ∨ f = 4)) → sQ σ' k i f j = sQ σ k i f j) ∧ sD_ σ' = sD_ σ ∧ sV σ' = sV σ
theorem KB.kx (h : KB σ σ') : KX_ σ σ' := ⟨fun k i f j _ _ _ h8 => h.1 k i f j (fun e => h8 e.1), fun k i f j h8 => h.2.2.1 k i f j (fun e => h8 e.1), fun i => h.2.2.1 8 i 0 0 (fun e => by have := e.2.2; omega), h.2.2.2.2⟩
theorem c_begin (hN : 1000000 ≤ N) {K : St → Prop} (h : ∀ s, KB σ s → sQ s 8 0 1 0 = none → sQ s 8 0 2 0 = some q → sQ s 8 0 3 0 = some i → sQ s 8 0 4 0 = none → sP s 8 0 7 0 = nI 0 → sP s 8 0 8 0 = nI 0 → sP s 8 0 9 0 = nI 0 → sL_ s 8 0 10 0 = 0 → sP s 8 0 11 0 = mI → sP s 8 0 12 0 = nI 0 → sP s 8 0 13 0 = nI 0 → sP s 8 0 14 0 = mI → sL_ s 8 0 15 0 = 0 → (∀ x, x < 3 → sP s 8 0 5 x = nI 0) → K s) : z_X8_begin N 0 (some q) (some i) σ K := by
  simp only [z_X8_begin, u_br_True, u_br_False, u_jn_u, u_lt_u, u_nn_s, u_brn_s, u_brn_n, ↓li_m1, li_0, li_1, li_2, li_3, li_4, li_5, li_6, li_7, li_8, li_9, li_10, li_12, li_13, li_26, li_40, li_60, li_61, li_62, li_99, li_100, li_102, li_106, li_114, li_112, li_117, li_108, li_103, li_120, li_300, li_360, li_512, li_1000]
  refine for_u 3 (by omega) (by omega) (fun j s => KB σ s ∧ sQ s 8 0 1 0 = none ∧ sQ s 8 0 2 0 = some q ∧ sQ s 8 0 3 0 = some i ∧ sQ s 8 0 4 0 = none ∧ sP s 8 0 7 0 = nI 0 ∧ sP s 8 0 8 0 = nI 0 ∧ sP s 8 0 9 0 = nI 0 ∧ sL_ s 8 0 10 0 = 0 ∧ sP s 8 0 11 0 = mI ∧ sP s 8 0 12 0 = nI 0 ∧ sP s 8 0 13 0 = nI 0 ∧ sP s 8 0 14 0 = mI ∧ sL_ s 8 0 15 0 = 0 ∧ ∀ x, x < j → sP s 8 0 5 x = nI 0) 0 (by omega) (fun self j s hj hI hs => ?_) ?_
  · obtain ⟨a0, a1, a2, a3, a4, a5, a6, a7, a8, a9, b1, b2, b3, b4, b5⟩ := hI
    by_cases hl : j < 3
    · simp (disch := omega) only [u_br_True, u_br_False, u_jn_u, u_lt_u, u_nn_s, u_brn_s, u_brn_n, nI_add, u_n_mul, u_n_lt, u_n_le, u_n_eq, u_n_sub, u_n_div, u_n_mod, nI_clamp, u_m1, u_m1q, u_wI_n, u_wA_n, u_br_t, u_br_f, ↓li_m1, li_0, li_1, li_2, li_3, li_4, li_5, li_6, li_7, li_8, li_9, li_10, li_12, li_13, li_26, li_40, li_60, li_61, li_62, li_99, li_100, li_102, li_106, li_114, li_112, li_117, li_108, li_103, li_120, li_300, li_360, li_512, li_1000]
      have ne : ∀ f, f ≠ 5 → sP (stP s 8 0 5 j (nI 0)) 8 0 f 0 = sP s 8 0 f 0 := fun f hf => by rw [sP_stP, if_neg (fun e => hf e.2.2.1)]
      refine hs _ hl ⟨⟨fun k i f j h1 => ?_, a0.2.1, a0.2.2.1, a0.2.2.2.1, a0.2.2.2.2⟩, a1, a2, a3, a4, ?_, ?_, ?_, a8, ?_, ?_, ?_, ?_, b4, fun x hx => ?_⟩
      · rw [sP_stP, if_neg (fun e => h1 ⟨e.1, e.2.1⟩)]; exact a0.1 k i f j h1
      · rw [ne 7 (by decide)]; exact a5
      · rw [ne 8 (by decide)]; exact a6
      · rw [ne 9 (by decide)]; exact a7
      · rw [ne 11 (by decide)]; exact a9
      · rw [ne 12 (by decide)]; exact b1
      · rw [ne 13 (by decide)]; exact b2
      · rw [ne 14 (by decide)]; exact b3
      · rw [sP_stP]
        by_cases e : x = j
        · subst e; rw [if_pos ⟨rfl, rfl, rfl, rfl⟩]
        · rw [if_neg (fun h => e h.2.2.2)]; exact b5 x (by omega)
    · have hj3 : j = 3 := by omega
      subst hj3
      simp (disch := omega) only [u_br_True, u_br_False, u_jn_u, u_lt_u, u_nn_s, u_brn_s, u_brn_n, nI_add, u_n_mul, u_n_lt, u_n_le, u_n_eq, u_n_sub, u_n_div, u_n_mod, nI_clamp, u_m1, u_m1q, u_wI_n, u_wA_n, u_br_t, u_br_f, ↓li_m1, li_0, li_1, li_2, li_3, li_4, li_5, li_6, li_7, li_8, li_9, li_10, li_12, li_13, li_26, li_40, li_60, li_61, li_62, li_99, li_100, li_102, li_106, li_114, li_112, li_117, li_108, li_103, li_120, li_300, li_360, li_512, li_1000]
      exact h s a0 a1 a2 a3 a4 a5 a6 a7 a8 a9 b1 b2 b3 b4 b5
  · refine ⟨⟨fun k i f j h1 => ?_, fun k i f j h1 => ?_, fun k i f j h1 => ?_, rfl, rfl⟩, ?_, ?_, ?_, ?_, ?_, ?_, ?_, ?_, ?_, ?_, ?_, ?_, ?_, fun x hx => by omega⟩
    · simp only [sP_stP, sP_stQ, sP_stL]
      repeat rw [if_neg (fun e => h1 ⟨e.1, e.2.1⟩)]
    · simp only [sL_stP, sL_stQ, sL_stL]
      repeat rw [if_neg (fun e => h1 ⟨e.1, e.2.1⟩)]
    · simp only [sQ_stP, sQ_stQ, sQ_stL]
      repeat rw [if_neg (fun e => h1 ⟨e.1, e.2.1, by omega⟩)]
    all_goals simp only [sP_stP, sP_stL, sP_stQ, sP_stD, sP_stN, sL_stP, sL_stL, sL_stQ, sL_stD, sL_stN, sQ_stP, sQ_stL, sQ_stQ, sQ_stD, sQ_stN, sD_stP, sD_stL, sD_stQ, sD_stD, sD_stN, sV_stP, sV_stL, sV_stQ, sV_stD, sV_stN, Nat.reduceEqDiff, true_and, and_true, false_and, and_false, if_true, if_false, eq_self, and_self, Nat.reduceLT, Nat.reduceLeDiff, Nat.reduceAdd, Nat.reduceMul, Nat.reduceDiv, Nat.one_ne_zero]
end CALL
