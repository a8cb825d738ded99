section RCOUNTS
variable {m m' mm : Nat → Nat → Nat} {u u' w : Nat → Int32} {L L' E : List Nat} {σ σ' σ1 σ2 : St} {N kk t c k n q ban place p way x y b a i s v told f j cc : Nat} {o o' ways : Nat → Nat} {P Q : Nat → Prop}
/-! the least estimate of all orders and ways, by their codes -/
def vC (m : Nat → Nat → Nat) (q ban c : Nat) : Bool := okC (m 25 q) (c / 512) && vW m q ban (dg 3 (c / 512)) (c % 512) 3
def eC (m : Nat → Nat → Nat) (q c : Nat) : Nat := est m q (dg 3 (c / 512)) (dg 8 (c % 512)) (m 25 q)
def rB (m : Nat → Nat → Nat) (q ban b : Nat) (s : St) : Prop := ∀ p, p < m 25 q → sP s 12 0 42 p = nI (dg 3 (b / 512) p) ∧ sP s 12 0 43 p = nI (dg 8 (b % 512) p) ∧ sP s 12 0 44 p = wI_ (dg 8 (b % 512) p) (wIdx m q ban (dg 3 (b / 512)) p (dg 8 (b % 512) p))
def BG (m : Nat → Nat → Nat) (q ban : Nat) (s : St) (c : Nat) (B : Int64) : Prop :=
  (B = lN 9000000000000000000 ∧ ∀ c', c' < c → ¬ vC m q ban c' = true) ∨
  ∃ b, b < c ∧ vC m q ban b = true ∧ B = lN (eC m q b) ∧ rB m q ban b s ∧ ∀ c', c' < c → vC m q ban c' = true → eC m q b ≤ eC m q c' ∧ (c' < b → eC m q b < eC m q c')
def FMin (m : Nat → Nat → Nat) (q ban cc : Nat) : Prop := cc < 13824 ∧ vC m q ban cc = true ∧ ∀ c', c' < 13824 → vC m q ban c' = true → eC m q cc ≤ eC m q c' ∧ (c' < cc → eC m q cc < eC m q c')
theorem BG.kf {B : Int64} (h : BG m q ban σ c B) (k : KF P σ σ') (h42 : ¬ P 42) (h43 : ¬ P 43) (h44 : ¬ P 44) : BG m q ban σ' c B := by
  rcases h with h | ⟨b, b1, b2, b3, b4, b5⟩
  · exact Or.inl h
  · refine Or.inr ⟨b, b1, b2, b3, fun p hp => ?_, b5⟩
    rw [k.ff h42, k.ff h43, k.ff h44]
    exact b4 p hp
theorem BG.skip {B : Int64} (h : BG m q ban σ c B) : ∀ d, (∀ e, e < d → ¬ vC m q ban (c + e) = true) → BG m q ban σ (c + d) B := by
  intro d hd
  rcases h with ⟨h1, h2⟩ | ⟨b, b1, b2, b3, b4, b5⟩
  · refine Or.inl ⟨h1, fun c' hc' => ?_⟩
    by_cases h : c' < c
    · exact h2 c' h
    · have := hd (c' - c) (by omega)
      rwa [show c + (c' - c) = c' by omega] at this
  · refine Or.inr ⟨b, by omega, b2, b3, b4, fun c' hc' hv => ?_⟩
    by_cases h : c' < c
    · exact b5 c' h hv
    · have := hd (c' - c) (by omega)
      rw [show c + (c' - c) = c' by omega] at this
      exact absurd hv this
theorem BG.uniq {B : Int64} (h : BG m q ban σ 13824 B) (hf : FMin m q ban cc) : rB m q ban cc σ := by
  obtain ⟨f1, f2, f3⟩ := hf
  rcases h with ⟨h1, h2⟩ | ⟨b, b1, b2, b3, b4, b5⟩
  · exact absurd f2 (h2 cc f1)
  · have e : b = cc := by
      obtain ⟨x1, x2⟩ := b5 cc f1 f2
      obtain ⟨y1, y2⟩ := f3 b b1 b2
      by_cases h1 : b < cc
      · have := y2 h1; omega
      · by_cases h2 : cc < b
        · have := x2 h2; omega
        · omega
    rw [← e]
    exact b4
theorem li_27 : (27 : Int32) = nI 27 := rfl
theorem r_counts (hN : 1000000 ≤ N) (R : RI m u w L σ) (W : WQ m) (Wx : WX m) (Wt : WT m u) (hq : q < m 24 0) (h45 : sP σ 12 0 45 0 = nI ban) (hb : ban < 64) (hf : FMin m q ban cc) {K : St → Prop}
    (h : ∀ s, KF fplan σ s → (∀ p, p < m 25 q → sP s 12 0 39 p = nI (dg 3 (cc / 512) p) ∧ sP s 12 0 40 p = nI (dg 8 (cc % 512) p) ∧ sP s 12 0 41 p = wI_ (dg 8 (cc % 512) p) (wIdx m q ban (dg 3 (cc / 512)) p (dg 8 (cc % 512) p))) → K s) : z_X12_plansByCounts N 0 (nI q) σ K := by
  have w1 := W.1
  have w3 := (W.2.2 q hq).1
  simp only [z_X12_plansByCounts, u_br_True, u_br_False, u_jn_u, u_lt_u, u_nn_s, u_brn_s, u_brn_n, ↓li_m1, li_0, li_1, li_2, li_3, li_4, li_5, li_6, li_7, li_8, li_9, li_10, li_12, li_13, li_26, li_40, li_60, li_61, li_62, li_99, li_100, li_102, li_106, li_114, li_112, li_117, li_108, li_103, li_120, li_300, li_360, li_512, li_1000, li_27]
  refine for_m 27 (by omega) (by omega) (fun x B s => KF fplan σ s ∧ BG m q ban s (512 * x) B) 0 (by omega) (fun self x B s hx hI hs => ?_) ⟨KF.refl, Or.inl ⟨rfl, fun c' hc' => by omega⟩⟩
  obtain ⟨i1, i2⟩ := hI
  have Rs := R.kf i1 t_plan
  by_cases hl : x < 27
  · simp (disch := omega) only [u_br_True, u_br_False, u_jn_u, u_lt_u, u_nn_s, u_brn_s, u_brn_n, nI_add, u_n_mul, u_n_lt, u_n_le, u_n_eq, u_n_sub, u_n_div, u_n_mod, nI_clamp, u_m1, u_m1q, u_wI_n, u_wA_n, u_br_t, u_br_f]
    refine r_laysO hN Rs W hq hl (fun s1 k1 o1 => ?_)
    have i3 : KF fplan σ s1 := i1.trans (k1.mono (fun f hf => by rw [f39] at hf; subst hf; exact ⟨by omega, by omega⟩))
    have i4 := i2.kf k1 (by simp only [f39, f401, fbest, fplan]; decide) (by simp only [f39, f401, fbest, fplan]; decide) (by simp only [f39, f401, fbest, fplan]; decide)
    by_cases hok : okC (m 25 q) x = true
    · rw [if_pos hok]
      have hod : ∀ p, p < m 25 q → dg 3 x p < m 25 q := by
        have hdec : ∀ n, n < 4 → ∀ x, x < 27 → okC n x = true → ∀ p, p < n → dg 3 x p < n := by decide +kernel
        exact hdec _ (by omega) x hl hok
      refine for_m 512 (by omega) (by omega) (fun y B s => KF fplan σ s ∧ OR s (m 25 q) (dg 3 x) ∧ BG m q ban s (512 * x + y) B) 0 (by omega) (fun self2 y B2 s2 hy hI2 hs2 => ?_) ⟨i3, o1, i4⟩
      obtain ⟨j1, j2, j3⟩ := hI2
      have Rs2 := R.kf j1 t_plan
      by_cases hly : y < 512
      · simp (disch := omega) only [u_br_True, u_br_False, u_jn_u, u_lt_u, u_nn_s, u_brn_s, u_brn_n, nI_add, u_n_mul, u_n_lt, u_n_le, u_n_eq, u_n_sub, u_n_div, u_n_mod, nI_clamp, u_m1, u_m1q, u_wI_n, u_wA_n, u_br_t, u_br_f]
        have ed : (512 * x + y) / 512 = x := by omega
        have em : (512 * x + y) % 512 = y := by omega
        refine r_laysW hN Rs2 W Wx Wt hq j2 hod (by rw [j1.ff (by simp only [f39, f401, fbest, fplan]; decide)]; exact h45) hb hly (fun s3 k3 r3 => ?_)
        have j4 : KF fplan σ s3 := j1.trans (k3.mono (fun f hf => by rcases hf with hf | hf <;> (subst hf; exact ⟨by omega, by omega⟩)))
        have j5 := j3.kf k3 (by simp only [f39, f401, fbest, fplan]; decide) (by simp only [f39, f401, fbest, fplan]; decide) (by simp only [f39, f401, fbest, fplan]; decide)
        have j6 : OR s3 (m 25 q) (dg 3 x) := fun p hp => by rw [k3.ff (by simp only [f39, f401, fbest, fplan]; decide)]; exact j2 p hp
        have Rs3 := R.kf j4 t_plan
        by_cases hv : vW m q ban (dg 3 x) y 3 = true
        · have r3 := r3 hv
          have hvc : vC m q ban (512 * x + y) = true := by
            unfold vC
            rw [ed, em, hok, hv]; rfl
          have hec : eC m q (512 * x + y) = est m q (dg 3 x) (dg 8 y) (m 25 q) := by unfold eC; rw [ed, em]
          have hokw : ∀ p, p < m 25 q → okW m q ban (dg 3 x) p (dg 8 y p) := by
            intro p hp
            refine ⟨dg_lt (by decide), ?_⟩
            simp only [vW, List.all_eq_true, List.mem_range] at hv
            have := hv p (by omega)
            rw [if_pos hp, Bool.or_eq_true, beq_iff_eq] at this
            exact this
          have hle := est_le W Wt hq hod hokw (m 25 q) (Nat.le_refl _)
          rw [if_pos hv, u_br_f (by rw [b10]; exact fun h => h)]
          refine r_est hN Rs3 W Wt hq j6 hod (fun p hp => (r3 p hp).1) hokw ?_
          have take : ∀ s4, KF fbest s3 s4 → (∀ p, p < 3 → sP s4 12 0 42 p = sP s3 12 0 39 p ∧ sP s4 12 0 43 p = sP s3 12 0 40 p ∧ sP s4 12 0 44 p = sP s3 12 0 41 p) → (∀ c', c' < 512 * x + y → vC m q ban c' = true → eC m q (512 * x + y) < eC m q c') → self2 (lN (est m q (dg 3 x) (dg 8 y) (m 25 q))) (nI (y + 1)) s4 := by
            intro s4 k4 r4 hmin
            refine hs2 _ _ hly ⟨j4.trans (k4.mono (fun f hf => by rcases hf with hf | hf | hf <;> (subst hf; exact ⟨by omega, by omega⟩))), fun p hp => by rw [k4.ff (by simp only [f39, f401, fbest, fplan]; decide)]; exact j6 p hp, Or.inr ⟨512 * x + y, by omega, hvc, by rw [hec], fun p hp => ?_, fun c' hc' hvc' => ?_⟩⟩
            · obtain ⟨a1, a2, a3⟩ := r4 p (by omega)
              obtain ⟨c1, c2⟩ := r3 p hp
              rw [a1, a2, a3, ed, em, j6 p hp, c1, c2]
              exact ⟨rfl, rfl, rfl⟩
            · by_cases e : c' = 512 * x + y
              · subst e; exact ⟨Nat.le_refl _, fun h => by omega⟩
              · have := hmin c' (by omega) hvc'
                exact ⟨by omega, fun _ => this⟩
          rcases j5 with ⟨rfl, h2⟩ | ⟨b, b1, b2, rfl, b4, b5⟩
          · rw [u_br_f (by rw [cmp_ge (by omega) (by omega)]; omega)]
            refine r_keeps hN (fun s4 k4 r4 => take s4 k4 r4 (fun c' hc' hvc' => absurd hvc' (h2 c' hc')))
          · have hleb : eC m q b ≤ 3 * 2624000 ∨ True := Or.inr trivial
            have heb : eC m q b < 2 ^ 63 := by
              have hbv := b2
              simp only [vC, Bool.and_eq_true] at hbv
              have hdec : ∀ n, n < 4 → ∀ x, x < 27 → okC n x = true → ∀ p, p < n → dg 3 x p < n := by decide +kernel
              have := est_le (ban := ban) (ways := dg 8 (b % 512)) W Wt hq (hdec _ (by omega) (b / 512) (by omega) hbv.1) (fun p hp => by
                refine ⟨dg_lt (by decide), ?_⟩
                have h9 := hbv.2
                simp only [vW, List.all_eq_true, List.mem_range] at h9
                have := h9 p (by omega)
                rw [if_pos hp, Bool.or_eq_true, beq_iff_eq] at this
                exact this) (m 25 q) (Nat.le_refl _)
              unfold eC
              omega
            by_cases hcmp : eC m q b ≤ eC m q (512 * x + y)
            · rw [u_br_t (by rw [cmp_ge (by omega) heb, ← hec]; exact hcmp)]
              refine hs2 _ _ hly ⟨j4, j6, Or.inr ⟨b, by omega, b2, rfl, b4, fun c' hc' hvc' => ?_⟩⟩
              by_cases e : c' = 512 * x + y
              · subst e; exact ⟨hcmp, fun h => by omega⟩
              · exact b5 c' (by omega) hvc'
            · rw [u_br_f (by rw [cmp_ge (by omega) heb, ← hec]; exact hcmp)]
              refine r_keeps hN (fun s4 k4 r4 => take s4 k4 r4 (fun c' hc' hvc' => by have := (b5 c' hc' hvc').1; omega))
        · rw [if_neg hv, u_br_t rfl]
          refine hs2 _ _ hly ⟨j4, j6, ?_⟩
          have := j5.skip 1 (fun e he => by
            rw [show e = 0 by omega, Nat.add_zero]
            unfold vC
            rw [ed, em, Bool.and_eq_true]
            exact fun h => hv h.2)
          exact this
      · have hy5 : y = 512 := by omega
        subst hy5
        simp (disch := omega) only [u_br_True, u_br_False, u_jn_u, u_lt_u, u_nn_s, u_brn_s, u_brn_n, nI_add, u_n_mul, u_n_lt, u_n_le, u_n_eq, u_n_sub, u_n_div, u_n_mod, nI_clamp, u_m1, u_m1q, u_wI_n, u_wA_n, u_br_t, u_br_f]
        exact hs _ _ hl ⟨j1, j3⟩
    · rw [if_neg hok, fx3_s (by omega)]
      simp (disch := omega) only [u_br_True, u_br_False, u_jn_u, u_lt_u, u_nn_s, u_brn_s, u_brn_n, nI_add, u_n_mul, u_n_lt, u_n_le, u_n_eq, u_n_sub, u_n_div, u_n_mod, nI_clamp, u_m1, u_m1q, u_wI_n, u_wA_n, u_br_t, u_br_f]
      refine hs _ _ hl ⟨i3, ?_⟩
      have := i4.skip 512 (fun e he => by
        unfold vC
        rw [show (512 * x + e) / 512 = x by omega, Bool.and_eq_true]
        exact fun h => hok h.1)
      exact this
  · have hx27 : x = 27 := by omega
    subst hx27
    rw [u_br_t (by decide)]
    have rb := i2.uniq hf
    refine for_u 3 (by omega) (by omega) (fun i s' => KF fplan σ s' ∧ (∀ p, sP s' 12 0 42 p = sP s 12 0 42 p ∧ sP s' 12 0 43 p = sP s 12 0 43 p ∧ sP s' 12 0 44 p = sP s 12 0 44 p) ∧ ∀ p, p < i → sP s' 12 0 39 p = sP s 12 0 42 p ∧ sP s' 12 0 40 p = sP s 12 0 43 p ∧ sP s' 12 0 41 p = sP s 12 0 44 p) 0 (by omega) (fun self2 i s' hi hI2 hs2 => ?_) ⟨i1, fun p => ⟨rfl, rfl, rfl⟩, fun p hp => by omega⟩
    obtain ⟨j1, j2, j3⟩ := hI2
    by_cases hl2 : i < 3
    · simp (disch := omega) only [u_br_True, u_br_False, u_jn_u, u_lt_u, u_nn_s, u_brn_s, u_brn_n, nI_add, u_n_mul, u_n_lt, u_n_le, u_n_eq, u_n_sub, u_n_div, u_n_mod, nI_clamp, u_m1, u_m1q, u_wI_n, u_wA_n, u_br_t, u_br_f, ↓li_m1, li_0, li_1, li_2, li_3, li_4, li_5, li_6, li_7, li_8, li_9, li_10, li_12, li_13, li_26, li_40, li_60, li_61, li_62, li_99, li_100, li_102, li_106, li_114, li_112, li_117, li_108, li_103, li_120, li_300, li_360, li_512, li_1000, sP_stP, Nat.reduceEqDiff, true_and, and_true, false_and, and_false, if_true, if_false, eq_self, and_self, Nat.reduceLT, Nat.reduceLeDiff, Nat.reduceAdd, Nat.reduceMul, Nat.reduceDiv, Nat.one_ne_zero]
      refine hs2 _ hl2 ⟨((j1.st ⟨by omega, by omega⟩).st ⟨by omega, by omega⟩).st ⟨by omega, by omega⟩, fun p => ?_, fun p hp => ?_⟩
      · simp only [sP_stP, Nat.reduceEqDiff, true_and, and_true, false_and, and_false, if_true, if_false, eq_self, and_self, Nat.reduceLT, Nat.reduceLeDiff, Nat.reduceAdd, Nat.reduceMul, Nat.reduceDiv, Nat.one_ne_zero]
        exact j2 p
      · simp only [sP_stP, Nat.reduceEqDiff, true_and, and_true, false_and, and_false, if_true, if_false, eq_self, and_self, Nat.reduceLT, Nat.reduceLeDiff, Nat.reduceAdd, Nat.reduceMul, Nat.reduceDiv, Nat.one_ne_zero]
        by_cases e : p = i
        · subst e
          rw [if_pos rfl, if_pos rfl, if_pos rfl]
          exact j2 p
        · rw [if_neg e, if_neg e, if_neg e]
          exact j3 p (by omega)
    · have hi3 : i = 3 := by omega
      subst hi3
      simp (disch := omega) only [u_br_True, u_br_False, u_jn_u, u_lt_u, u_nn_s, u_brn_s, u_brn_n, nI_add, u_n_mul, u_n_lt, u_n_le, u_n_eq, u_n_sub, u_n_div, u_n_mod, nI_clamp, u_m1, u_m1q, u_wI_n, u_wA_n, u_br_t, u_br_f, ↓li_m1, li_0, li_1, li_2, li_3, li_4, li_5, li_6, li_7, li_8, li_9, li_10, li_12, li_13, li_26, li_40, li_60, li_61, li_62, li_99, li_100, li_102, li_106, li_114, li_112, li_117, li_108, li_103, li_120, li_300, li_360, li_512, li_1000]
      refine h s' j1 (fun p hp => ?_)
      obtain ⟨a1, a2, a3⟩ := j3 p (by omega)
      obtain ⟨c1, c2, c3⟩ := rb p hp
      rw [a1, a2, a3]
      exact ⟨c1, c2, c3⟩
end RCOUNTS
