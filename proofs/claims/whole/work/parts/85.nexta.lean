section NEXTA
variable {m : Nat → Nat → Nat} {u w : Nat → Int32} {L : List Nat} {σ s : St} {N n q p t x place r e : Nat} {g o nx : Nat → Nat} {p1 : Int32}
/-- one turn of the loop of nextAnswer -/
def nF (N : Nat) (p1 : Int32) (K : Int32 → St → Prop) (w0 : St → Prop) (h78 : St) : Prop :=
  br ((sP h78 12 0 38 0) < 0) (
    K 0 h78) (
    wI 3 (sP h78 12 0 38 0) <|
    wA 3 (sP h78 12 0 38 0) (stP h78 12 0 37 ((sP h78 12 0 38 0)).toNatClampNeg ((sP h78 12 0 37 ((sP h78 12 0 38 0)).toNatClampNeg) + 1)) fun h83 =>
    wI 3 (sP h83 12 0 38 0) <|
    wI 24 ((3 * p1) + (sP h83 12 0 38 0)) <|
    wI 3 (sP h83 12 0 26 (((3 * p1) + (sP h83 12 0 38 0))).toNatClampNeg) <|
    br ((sP h83 12 0 37 ((sP h83 12 0 38 0)).toNatClampNeg) = (sP h83 12 0 3 ((sP h83 12 0 26 (((3 * p1) + (sP h83 12 0 38 0))).toNatClampNeg)).toNatClampNeg)) (
      wA 3 (sP h83 12 0 38 0) (stP h83 12 0 37 ((sP h83 12 0 38 0)).toNatClampNeg (-1)) fun h101 =>
      lt_ (stP h101 12 0 38 0 ((sP h101 12 0 38 0) - 1)) fun h103 =>
      w0 h103) (
      z_X12_fits N 0 p1 (sP h83 12 0 38 0) h83 fun v93 =>
      br (v93 = 0) (
        w0 h83) (
        wI 8 p1 <|
        br ((sP h83 12 0 38 0) = ((sP h83 12 0 25 (p1).toNatClampNeg) - 1)) (
          K 1 h83) (
          lt_ (stP h83 12 0 38 0 ((sP h83 12 0 38 0) + 1)) fun h98 =>
          w0 h98))))
theorem nextA_eq {K : Int32 → St → Prop} : z_X12_nextAnswer N 0 p1 σ K = nF N p1 K (fx1 (nF N p1 K) N) σ := rfl
/-- the reference's walk stands at place p, nx x the next row at x -/
def NS (m : Nat → Nat → Nat) (u w : Nat → Int32) (L : List Nat) (q : Nat) (s : St) (p : Nat) (nx : Nat → Nat) : Prop :=
  RI m u w L s ∧ sP s 12 0 38 0 = nI p ∧ (∀ x, x < 3 → sP s 12 0 37 x = if nx x = 0 then mI else nI (nx x - 1)) ∧ (∀ x, x < p → 1 ≤ nx x ∧ nx x - 1 < 40 ∧ th m (tq m q x) (nx x - 1) = true) ∧ nx p ≤ m 3 (tq m q p) ∧ ∀ x, p < x → nx x = 0
theorem ahead_id : ahead idO p x = decide (x < p) := by
  unfold ahead
  cases h : decide (x < p) with
  | true =>
    rw [List.any_eq_true]
    exact ⟨x, List.mem_range.mpr (of_decide_eq_true h), by simp [idO]⟩
  | false =>
    rw [List.any_eq_false]
    intro k hk e
    have h1 := List.mem_range.mp hk
    have h2 : k = x := by simpa [idO] using e
    have := of_decide_eq_false h
    omega
theorem mI_s : mI + nI 1 = nI 0 := by decide
def fwk (f : Nat) : Prop := f = 37 ∨ f = 38
theorem t_wk : tmpP fwk := by rintro f (rfl | rfl) <;> rfl
theorem n_step (hN : 1000000 ≤ N) (W : WQ m) (Wt : WT m u) (hq : q < m 24 0) (hp : p < m 25 q) (H : NS m u w L q s p nx) {K : Int32 → St → Prop} {w0 : St → Prop}
    (ha : nx p = m 3 (tq m q p) → p = 0 → ∀ s', RI m u w L s' → sP s' 12 0 38 0 = mI → KF fwk s s' → w0 s')
    (hb : nx p < m 3 (tq m q p) → fitM m u q (gU (Gx nx p) p (nx p)) (withP idO p) p = true → NS m u w L q (stP s 12 0 37 p (nI (nx p))) p (gU nx p (nx p + 1)) → br (nI p = nI (m 25 q) - nI 1) (K (nI 1) (stP s 12 0 37 p (nI (nx p)))) (w0 (stP (stP s 12 0 37 p (nI (nx p))) 12 0 38 0 (nI (p + 1)))))
    (hc : nx p < m 3 (tq m q p) → fitM m u q (gU (Gx nx p) p (nx p)) (withP idO p) p = false → NS m u w L q (stP s 12 0 37 p (nI (nx p))) p (gU nx p (nx p + 1)) → w0 (stP s 12 0 37 p (nI (nx p))))
    (hd : nx p = m 3 (tq m q p) → 0 < p → NS m u w L q (stP (stP (stP s 12 0 37 p (nI (nx p))) 12 0 37 p mI) 12 0 38 0 (nI (p - 1))) (p - 1) (gU nx p 0) → w0 (stP (stP (stP s 12 0 37 p (nI (nx p))) 12 0 37 p mI) 12 0 38 0 (nI (p - 1)))) : nF N (nI q) K w0 s := by
  obtain ⟨R, h38, h37, hx, hle, h0⟩ := H
  have w1 := W.1
  have w3 := W.2.2 q hq
  have h1 := Wt.nt
  have ht : tq m q p < m 1 0 := w3.2.2.2.1 p hp
  have hm3 := Wt.2.2.2.1 (tq m q p) (by omega)
  have R1 : RI m u w L (stP s 12 0 37 p (nI (nx p))) := R.tmp rfl
  have e26 : sP (stP s 12 0 37 p (nI (nx p))) 12 0 26 (3 * q + p) = nI (tq m q p) := R1.r 26 _ rfl
  have e3 : sP (stP s 12 0 37 p (nI (nx p))) 12 0 3 (tq m q p) = nI (m 3 (tq m q p)) := R1.r 3 _ rfl
  have e25 : sP (stP s 12 0 37 p (nI (nx p))) 12 0 25 q = nI (m 25 q) := R1.r 25 _ rfl
  have e38 : sP (stP s 12 0 37 p (nI (nx p))) 12 0 38 0 = nI p := by rw [sP_stP, if_neg (fun e => by have := e.2.2.1; omega)]; exact h38
  have e37 : sP (stP s 12 0 37 p (nI (nx p))) 12 0 37 p = nI (nx p) := by simp only [sP_stP, Nat.reduceEqDiff, true_and, and_true, false_and, and_false, if_true, if_false, eq_self, and_self, Nat.reduceLT, Nat.reduceLeDiff, Nat.reduceAdd, Nat.reduceMul, Nat.reduceDiv, Nat.one_ne_zero]
  have ev : sP s 12 0 37 p + nI 1 = nI (nx p) := by
    rw [h37 p (by omega)]
    by_cases e : nx p = 0
    · rw [if_pos e, mI_s, e]
    · rw [if_neg e, nI_add, show nx p - 1 + 1 = nx p by omega]
  simp (disch := omega) only [nF, u_br_True, u_br_False, u_jn_u, u_lt_u, u_nn_s, u_brn_s, u_brn_n, nI_add, u_n_mul, u_n_lt, u_n_le, u_n_eq, u_n_sub, u_n_div, u_n_mod, nI_clamp, u_m1, u_m1q, u_wI_n, u_wA_n, u_br_t, u_br_f, ↓li_m1, li_0, li_1, li_2, li_3, li_4, li_5, li_6, li_7, li_8, li_9, li_10, li_12, li_13, li_26, li_40, li_60, li_61, li_62, li_99, li_100, li_102, li_106, li_114, li_112, li_117, li_108, li_103, li_120, li_300, li_360, li_512, li_1000, h38, ev, e38, e26, e37, e3, e25]
  have gxx : ∀ x, x < p → gU (Gx nx p) p (nx p) x = nx x - 1 := fun x hxp => by
    unfold gU
    rw [if_neg (by omega), Gx_at p x hxp]
  have gpp : gU (Gx nx p) p (nx p) p = nx p := by simp [gU]
  have wA : ∀ x, withP idO p x = true ↔ x ≤ p := fun x => by
    unfold withP
    rw [ahead_id]
    simp only [idO, Bool.or_eq_true, decide_eq_true_eq, beq_iff_eq]
    omega
  by_cases hm : nx p = m 3 (tq m q p)
  · have e38' : sP (stP (stP s 12 0 37 p (nI (nx p))) 12 0 37 p mI) 12 0 38 0 = nI p := by rw [sP_stP, if_neg (fun e => by have := e.2.2.1; omega)]; exact e38
    rw [u_br_t hm]
    simp only [e38']
    by_cases hp0 : p = 0
    · refine ha hm hp0 _ ((R1.tmp rfl).tmp rfl) ?_ (((KF.refl.st (Or.inl rfl)).st (Or.inl rfl)).st (Or.inr rfl))
      subst hp0
      simp only [sP_stP, Nat.reduceEqDiff, true_and, and_true, false_and, and_false, if_true, if_false, eq_self, and_self, Nat.reduceLT, Nat.reduceLeDiff, Nat.reduceAdd, Nat.reduceMul, Nat.reduceDiv, Nat.one_ne_zero]
      decide
    · have ep : nI p - nI 1 = nI (p - 1) := by simp (disch := omega) only [nI_add, u_n_mul, u_n_lt, u_n_le, u_n_eq, u_n_sub, u_n_div, u_n_mod, nI_clamp, u_m1, u_m1q, u_wI_n, u_wA_n, u_br_t, u_br_f]
      rw [ep]
      have hxp := hx (p - 1) (by omega)
      refine hd hm (by omega) ⟨(R1.tmp rfl).tmp rfl, by simp only [sP_stP, Nat.reduceEqDiff, true_and, and_true, false_and, and_false, if_true, if_false, eq_self, and_self, Nat.reduceLT, Nat.reduceLeDiff, Nat.reduceAdd, Nat.reduceMul, Nat.reduceDiv, Nat.one_ne_zero], fun x hx3 => ?_, fun x hxl => ?_, ?_, fun x hxl => ?_⟩
      · rw [sP_stP, if_neg (fun e => by have := e.2.2.1; omega), sP_stP]
        by_cases e : x = p
        · subst e
          rw [if_pos ⟨rfl, rfl, rfl, rfl⟩]
          simp [gU]
        · rw [if_neg (fun h => e h.2.2.2), sP_stP, if_neg (fun h => e h.2.2.2), h37 x hx3]
          unfold gU
          rw [if_neg e]
      · unfold gU
        rw [if_neg (by omega)]
        exact hx x (by omega)
      · unfold gU
        rw [if_neg (by omega)]
        have hth := hxp.2.2
        refine Nat.le_of_not_lt (fun h9 => ?_)
        have ht' : tq m q (p - 1) < m 1 0 := w3.2.2.2.1 (p - 1) (by omega)
        have := Wt.2.2.2.2.2.1 (tq m q (p - 1)) (nx (p - 1) - 1) (by omega) hxp.2.1 (by omega)
        simp [th, this] at hth
      · unfold gU
        by_cases e : x = p
        · rw [if_pos e]
        · rw [if_neg e]; exact h0 x (by omega)
  · rw [u_br_f hm]
    have hCH : CHo (stP s 12 0 37 p (nI (nx p))) (withP idO p) (gU (Gx nx p) p (nx p)) := fun x hx3 => by
      rw [sP_stP]
      by_cases e : x = p
      · subst e
        rw [if_pos ⟨rfl, rfl, rfl, rfl⟩, if_pos ((wA x).mpr (Nat.le_refl _)), gpp]
      · rw [if_neg (fun h => e h.2.2.2), h37 x hx3]
        by_cases hl : x < p
        · rw [if_pos ((wA x).mpr (by omega)), gxx x hl, if_neg (by have := (hx x hl).1; omega)]
        · rw [if_pos (h0 x (by omega)), if_neg (fun h => by have := (wA x).mp h; omega)]
    have NS1 : th m (tq m q p) (nx p) = true ∨ True → NS m u w L q (stP s 12 0 37 p (nI (nx p))) p (gU nx p (nx p + 1)) := fun _ => by
      refine ⟨R1, e38, fun x hx3 => ?_, fun x hxl => ?_, ?_, fun x hxl => ?_⟩
      · rw [sP_stP]
        by_cases e : x = p
        · subst e
          rw [if_pos ⟨rfl, rfl, rfl, rfl⟩]
          simp [gU]
        · rw [if_neg (fun h => e h.2.2.2), h37 x hx3]
          unfold gU
          rw [if_neg e]
      · unfold gU
        rw [if_neg (by omega)]
        exact hx x hxl
      · unfold gU
        rw [if_pos rfl]
        omega
      · unfold gU
        rw [if_neg (by omega)]
        exact h0 x hxl
    refine r_fits hN R1 W Wt hq hp ((wA p).mpr (Nat.le_refl _)) (g := gU (Gx nx p) p (nx p)) (fun x hxn hxa => ?_) hCH ?_
    · have hxp := (wA x).mp hxa
      by_cases e : x = p
      · subst e
        rw [gpp]
        exact ⟨by omega, fun h => absurd rfl h⟩
      · rw [gxx x (by omega)]
        exact ⟨(hx x (by omega)).2.1, fun _ => (hx x (by omega)).2.2⟩
    · cases hf : fitM m u q (gU (Gx nx p) p (nx p)) (withP idO p) p with
      | false =>
        rw [bI_f, u_br_t rfl]
        exact hc (by omega) hf (NS1 (Or.inr trivial))
      | true =>
        rw [bI_t, u_br_f (by rw [b10]; exact fun h => h)]
        have hb' := hb (by omega) hf (NS1 (Or.inr trivial))
        simp (disch := omega) only [nI_add, u_n_mul, u_n_lt, u_n_le, u_n_eq, u_n_sub, u_n_div, u_n_mod, nI_clamp, u_m1, u_m1q, u_wI_n, u_wA_n, u_br_t, u_br_f] at hb' ⊢
        exact hb'
end NEXTA
