section NEXT
variable {m : Nat → Nat → Nat} {u w : Nat → Int32} {L : List Nat} {σ s s0 : St} {N kk n q p t x place r e : Nat} {g o nx : Nat → Nat} {p1 : Int32} {l l' : List (Nat → Nat)}
/-- loops with a measure of their own -/
theorem fx1_g {α γ : Type} {F : (α → Prop) → α → Prop} (I : γ → α → Prop) (μ : γ → Nat) (hs : ∀ (self : α → Prop) g v, I g v → (∀ g' v', I g' v' → μ g' < μ g → self v') → F self v) : ∀ (N : Nat) g v, I g v → μ g < N → fx1 F N v
  | 0, _, _, _, h => absurd h (Nat.not_lt_zero _)
  | n + 1, g, v, hI, h => hs (fx1 F n) g v hI (fun g' v' h9 h8 => fx1_g I μ hs n g' v' h9 (by omega))
theorem fx2_g {α β γ : Type} {F : (α → β → Prop) → α → β → Prop} (I : γ → α → β → Prop) (μ : γ → Nat) (hs : ∀ (self : α → β → Prop) g v v2, I g v v2 → (∀ g' v' v2', I g' v' v2' → μ g' < μ g → self v' v2') → F self v v2) : ∀ (N : Nat) g v v2, I g v v2 → μ g < N → fx2 F N v v2
  | 0, _, _, _, _, h => absurd h (Nat.not_lt_zero _)
  | n + 1, g, v, v2, hI, h => hs (fx2 F n) g v v2 hI (fun g' v' v2' h9 h8 => fx2_g I μ hs n g' v' v2' h9 (by omega))
theorem fx3_g {α β δ γ : Type} {F : (α → β → δ → Prop) → α → β → δ → Prop} (I : γ → α → β → δ → Prop) (μ : γ → Nat) (hs : ∀ (self : α → β → δ → Prop) g v v2 v3, I g v v2 v3 → (∀ g' v' v2' v3', I g' v' v2' v3' → μ g' < μ g → self v' v2' v3') → F self v v2 v3) : ∀ (N : Nat) g v v2 v3, I g v v2 v3 → μ g < N → fx3 F N v v2 v3
  | 0, _, _, _, _, _, h => absurd h (Nat.not_lt_zero _)
  | n + 1, g, v, v2, v3, hI, h => hs (fx3 F n) g v v2 v3 hI (fun g' v' v2' v3' h9 h8 => fx3_g I μ hs n g' v' v2' v3' h9 (by omega))
def mV (nx : Nat → Nat) : Nat → Nat := it_ (fun x a => a + (41 - nx x) * 42 ^ (2 - x)) 0
theorem mV_s : mV nx (p + 1) = mV nx p + (41 - nx p) * 42 ^ (2 - p) := rfl
theorem mV_cong {ny : Nat → Nat} : ∀ p, (∀ x, x < p → nx x = ny x) → mV nx p = mV ny p
  | 0, _ => rfl
  | p + 1, h => by rw [mV_s, mV_s, mV_cong p (fun x hx => h x (by omega)), h p (by omega)]
theorem mV_le : ∀ p, p ≤ 3 → mV nx p ≤ 100000 := by
  intro p hp
  have e : p = 0 ∨ p = 1 ∨ p = 2 ∨ p = 3 := by omega
  rcases e with rfl | rfl | rfl | rfl
  · exact Nat.zero_le _
  · simp only [mV, it_, Nat.reducePow, Nat.reduceSub]
    omega
  · simp only [mV, it_, Nat.reducePow, Nat.reduceSub]
    omega
  · simp only [mV, it_, Nat.reducePow, Nat.reduceSub]
    omega
theorem mV_row (hp : p < 3) (h : nx p ≤ 40) : mV (gU nx p (nx p + 1)) (p + 1) < mV nx (p + 1) := by
  rw [mV_s, mV_s, mV_cong (nx := gU nx p (nx p + 1)) (ny := nx) p (fun x hx => by unfold gU; rw [if_neg (by omega)])]
  have e : gU nx p (nx p + 1) p = nx p + 1 := by simp [gU]
  rw [e]
  have : (41 - (nx p + 1)) * 42 ^ (2 - p) < (41 - nx p) * 42 ^ (2 - p) := Nat.mul_lt_mul_of_pos_right (by omega) (Nat.pow_pos (by decide))
  omega
theorem mV_in (hp : p < 2) (h : nx p ≤ 40) (h0 : nx (p + 1) = 0) : mV (gU nx p (nx p + 1)) (p + 2) < mV nx (p + 1) := by
  rw [mV_s, mV_s, mV_s, mV_cong (nx := gU nx p (nx p + 1)) (ny := nx) p (fun x hx => by unfold gU; rw [if_neg (by omega)])]
  have e : gU nx p (nx p + 1) p = nx p + 1 := by simp [gU]
  have e1 : gU nx p (nx p + 1) (p + 1) = nx (p + 1) := by simp [gU]
  rw [e, e1, h0]
  have e2 : p = 0 ∨ p = 1 := by omega
  rcases e2 with rfl | rfl
  · simp only [Nat.reducePow, Nat.reduceSub, Nat.reduceAdd, Nat.sub_zero]
    omega
  · simp only [Nat.reducePow, Nat.reduceSub, Nat.reduceAdd, Nat.sub_zero]
    omega
theorem mV_out (hp : p < 3) (h : nx p ≤ 40) : mV (gU nx p 0) p < mV nx (p + 1) := by
  rw [mV_s, mV_cong (nx := gU nx p 0) (ny := nx) p (fun x hx => by unfold gU; rw [if_neg (by omega)])]
  have : 0 < (41 - nx p) * 42 ^ (2 - p) := Nat.mul_pos (by omega) (Nat.pow_pos (by decide))
  omega
/-- the reference stands between answers; l: the answers to come -/
def NA (m : Nat → Nat → Nat) (u w : Nat → Int32) (L : List Nat) (q : Nat) (l : List (Nat → Nat)) (s : St) : Prop := ∃ nx p, p < m 25 q ∧ NS m u w L q s p nx ∧ rem_ m u q (m 25 q) nx (p + 1) = l
theorem NS.l40 (W : WQ m) (Wt : WT m u) (hq : q < m 24 0) (hp : p < m 25 q) (H : NS m u w L q s p nx) : nx p ≤ 40 := by
  have w3 := W.2.2 q hq
  have h1 := Wt.nt
  have ht : tq m q p < m 1 0 := w3.2.2.2.1 p hp
  have := Wt.2.2.2.1 (tq m q p) (by omega)
  have := H.2.2.2.2.1
  omega
theorem fit_th (h : fitM m u q (gU (Gx nx p) p (nx p)) (withP idO p) p = true) : th m (tq m q p) (nx p) = true := by
  unfold fitM at h
  have : gU (Gx nx p) p (nx p) p = nx p := by simp [gU]
  rw [this] at h
  cases e : th m (tq m q p) (nx p) with
  | true => rfl
  | false => rw [e] at h; simp at h
theorem r_next (hN : 1000000 ≤ N) (W : WQ m) (Wt : WT m u) (hq : q < m 24 0) (H : NA m u w L q l s0) {K : Int32 → St → Prop}
    (he : l = [] → ∀ s, RI m u w L s → KF fwk s0 s → K (nI 0) s)
    (ha : ∀ a l', l = a :: l' → ∀ s, NA m u w L q l' s → (∀ x, x < m 25 q → a x < 40) → CHo s (fun x => decide (x < m 25 q)) a → KF fwk s0 s → K (nI 1) s) : z_X12_nextAnswer N 0 (nI q) s0 K := by
  have w3 := W.2.2 q hq
  have h1 := Wt.nt
  obtain ⟨nx0, p0, hp0, H0, hl0⟩ := H
  have lt0 : (0 : Int32) = nI 0 := rfl
  show fx1 (nF N (nI q) K) (N + 1) s0
  refine fx1_g (γ := Option ((Nat → Nat) × Nat)) (fun g s => KF fwk s0 s ∧ (match g with
    | none => l = [] ∧ RI m u w L s ∧ sP s 12 0 38 0 = mI
    | some (nx, p) => p < m 25 q ∧ NS m u w L q s p nx ∧ rem_ m u q (m 25 q) nx (p + 1) = l)) (fun g => match g with
    | none => 0
    | some (nx, p) => mV nx (p + 1)) (fun self g s hI hs => ?_) (N + 1) (some (nx0, p0)) s0 ⟨KF.refl, hp0, H0, hl0⟩ ?_
  · obtain ⟨hk, hI⟩ := hI
    cases g with
    | none =>
      obtain ⟨i1, i2, i3⟩ := hI
      simp only [nF, i3, li_0, mlt0, u_br_True, u_br_False, u_jn_u, u_lt_u, u_nn_s, u_brn_s, u_brn_n]
      exact he i1 s i2 hk
    | some np =>
      obtain ⟨nx, p⟩ := np
      obtain ⟨i1, i2, i3⟩ := hI
      have ht3 := Wt.2.2.2.1 (tq m q p) (by have : tq m q p < m 1 0 := w3.2.2.2.1 p i1; omega)
      have l40 := i2.l40 W Wt hq i1
      have hz := i2.2.2.2.2.2
      have hxx := i2.2.2.2.1
      refine n_step hN W Wt hq i1 i2 (fun hm hp s' R' h38 hk' => ?_) (fun hm hf NS' => ?_) (fun hm hf NS' => ?_) (fun hm hp NS' => ?_)
      · subst hp
        refine hs none s' ⟨?_, ?_, R', h38⟩ ?_
        · exact hk.trans hk'
        · rw [← i3, rem_end (by omega)]; rfl
        · exact Nat.lt_of_le_of_lt (Nat.zero_le _) (mV_out (by omega) l40)
      · by_cases hn : p + 1 = m 25 q
        · have e1 : nI p = nI (m 25 q) - nI 1 := by
            rw [u_n_sub (by omega)]
            congr 1
            omega
          rw [u_br_t e1]
          refine ha _ _ ((i3.symm.trans (rem_ans hm hn hf))) _ ⟨_, p, i1, NS', rfl⟩ (fun x hx => ?_) (fun x hx3 => ?_) (hk.st (Or.inl rfl))
          · rw [Gx_at (p + 1) x (by omega)]
            unfold gU
            split
            · omega
            · exact (hxx x (by omega)).2.1
          · rw [NS'.2.2.1 x hx3]
            by_cases hxn : x < m 25 q
            · rw [if_pos (decide_eq_true hxn), Gx_at (p + 1) x (by omega), if_neg]
              unfold gU
              split
              · omega
              · have := (hxx x (by omega)).1; omega
            · have e9 : ¬ decide (x < m 25 q) = true := by simpa using hxn
              rw [if_neg e9, if_pos]
              unfold gU
              rw [if_neg (by omega)]
              exact hz x (by omega)
        · have e1 : ¬ nI p = nI (m 25 q) - nI 1 := by
            rw [u_n_sub (by omega), u_n_eq (by omega) (by omega)]
            omega
          rw [u_br_f e1]
          have h0 := hz (p + 1) (by omega)
          refine hs (some (gU nx p (nx p + 1), p + 1)) _ ⟨(hk.st (Or.inl rfl)).st (Or.inr rfl), by omega, ?_, ?_⟩ (mV_in (by omega) l40 h0)
          · obtain ⟨a1, a2, a3, a4, a5, a6⟩ := NS'
            refine ⟨a1.tmp rfl, by simp only [sP_stP, Nat.reduceEqDiff, true_and, and_true, false_and, and_false, if_true, if_false, eq_self, and_self, Nat.reduceLT, Nat.reduceLeDiff, Nat.reduceAdd, Nat.reduceMul, Nat.reduceDiv, Nat.one_ne_zero], fun x hx3 => ?_, fun x hx => ?_, ?_, fun x hx => ?_⟩
            · rw [sP_stP, if_neg (fun e => by have := e.2.2.1; omega)]
              exact a3 x hx3
            · by_cases e : x = p
              · subst e
                have e2 : gU nx x (nx x + 1) x = nx x + 1 := by simp [gU]
                rw [e2]
                exact ⟨by omega, by omega, fit_th hf⟩
              · exact a4 x (by omega)
            · have e2 : gU nx p (nx p + 1) (p + 1) = 0 := by
                unfold gU
                rw [if_neg (by omega)]
                exact h0
              rw [e2]
              exact Nat.zero_le _
            · unfold gU
              rw [if_neg (by omega)]
              exact hz x (by omega)
          · rw [← i3, rem_in hm (by omega) h0 hf]
      · refine hs (some (gU nx p (nx p + 1), p)) _ ⟨hk.st (Or.inl rfl), i1, NS', ?_⟩ (mV_row (by omega) l40)
        rw [← i3, rem_no hm hf]
      · refine hs (some (gU nx p 0, p - 1)) _ ⟨((hk.st (Or.inl rfl)).st (Or.inl rfl)).st (Or.inr rfl), by omega, NS', ?_⟩ ?_
        · rw [← i3, rem_end (p := p) (nx := nx) (by omega)]
          simp only [show p - 1 + 1 = p by omega]
          exact rem_cong p (fun x hx => by unfold gU; rw [if_neg (by omega)])
        · have := mV_out (nx := nx) (p := p) (by omega) l40
          simp only [show p - 1 + 1 = p by omega]
          exact this
  · have := mV_le (nx := nx0) (p0 + 1) (by omega)
    simp only
    omega
theorem r_begins (R : RI m u w L σ) (h0 : 0 < m 25 q) {K : St → Prop} (h : ∀ s, NA m u w L q (anA m u q (m 25 q) 0 (fun _ => 0)) s → KF fwk σ s → K s) : z_X12_beginsAnswers N 0 σ K := by
  simp (disch := omega) only [z_X12_beginsAnswers, z_X12_choosesNone, u_br_True, u_br_False, u_jn_u, u_lt_u, u_nn_s, u_brn_s, u_brn_n, nI_add, u_n_mul, u_n_lt, u_n_le, u_n_eq, u_n_sub, u_n_div, u_n_mod, nI_clamp, u_m1, u_m1q, u_wI_n, u_wA_n, u_br_t, u_br_f, ↓li_m1, li_0, li_1, li_2, li_3, li_4, li_5, li_6, li_7, li_8, li_9, li_10, li_12, li_13, li_26, li_40, li_60, li_61, li_62, li_99, li_100, li_102, li_106, li_114, li_112, li_117, li_108, li_103, li_120, li_300, li_360, li_512, li_1000, l0c, wA_l]
  refine h _ ⟨fun _ => 0, 0, h0, ⟨(((R.tmp rfl).tmp rfl).tmp rfl).tmp rfl, by simp only [sP_stP, Nat.reduceEqDiff, true_and, and_true, false_and, and_false, if_true, if_false, eq_self, and_self, Nat.reduceLT, Nat.reduceLeDiff, Nat.reduceAdd, Nat.reduceMul, Nat.reduceDiv, Nat.one_ne_zero], fun x hx => ?_, fun x hx => by omega, Nat.zero_le _, fun x _ => rfl⟩, ?_⟩ ((((KF.refl.st (Or.inl rfl)).st (Or.inl rfl)).st (Or.inl rfl)).st (Or.inr rfl))
  · have e : x = 0 ∨ x = 1 ∨ x = 2 := by omega
    rcases e with rfl | rfl | rfl <;> simp only [sP_stP, Nat.reduceEqDiff, true_and, and_true, false_and, and_false, if_true, if_false, eq_self, and_self, Nat.reduceLT, Nat.reduceLeDiff, Nat.reduceAdd, Nat.reduceMul, Nat.reduceDiv, Nat.one_ne_zero]
  · simp only [rem_, List.append_nil, anF_0]
    rw [show m 25 q - 1 - 0 + 1 = m 25 q by omega]
    rfl
end NEXT
