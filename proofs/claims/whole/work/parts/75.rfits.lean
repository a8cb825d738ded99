section RFITS
variable {m : Nat → Nat → Nat} {u w : Nat → Int32} {L : List Nat} {σ σ' s s2 : St} {N kk n q p d ban t r c k a x : Nat} {g : Nat → Nat} {A : Nat → Bool}
def cvl (u : Nat → Int32) (t r c : Nat) : Nat := (vl u t r c).toNatClampNeg
def bI (b : Bool) : Int32 := if b = true then nI 1 else nI 0
theorem mlt0 : (mI < nI 0) = True := eq_true (by decide)
theorem bI_t : bI true = nI 1 := rfl
theorem bI_f : bI false = nI 0 := rfl
theorem cvl_n (W : WT m u) (ht : t < m 1 0) (hc : c < m 2 t) (hr : r < 40) (h : th m t r = true) : vl u t r c = nI (cvl u t r c) ∧ cvl u t r c ≤ 99 := by
  have h1 := W.nt
  have hr3 : r < m 3 t := by
    refine Nat.lt_of_not_le (fun h9 => ?_)
    have := W.2.2.2.2.2.1 t r (by omega) hr h9
    simp [th, this] at h
  obtain ⟨v, hv, e⟩ := W.2.2.2.2.2.2.2.2.2.1 t r c ht hr3 hc
  have e' : vl u t r c = nI v := e
  unfold cvl
  rw [e', nI_clamp (by omega)]
  exact ⟨rfl, hv⟩
def allN (f : Nat → Bool) (n : Nat) : Bool := (List.range n).all f
theorem allN_s {f : Nat → Bool} : allN f (n + 1) = (allN f n && f n) := by
  simp [allN, List.range_succ, List.all_append]
theorem allN_0 {f : Nat → Bool} : allN f 0 = true := rfl
def cOk (m : Nat → Nat → Nat) (u : Nat → Int32) (q : Nat) (g : Nat → Nat) (p k : Nat) : Bool := !(m 28 (4 * q + k) == p) || hold (m 30 (4 * q + k)) (m 31 (4 * q + k)) (cvl u (tq m q p) (g p) (m 29 (4 * q + k)))
def jOk (m : Nat → Nat → Nat) (u : Nat → Int32) (q : Nat) (g : Nat → Nat) (A : Nat → Bool) (p k : Nat) : Bool :=
  !(m 33 (3 * q + k) == p || m 35 (3 * q + k) == p) || (!(A (m 33 (3 * q + k)) && A (m 35 (3 * q + k))) || cvl u (tq m q (m 33 (3 * q + k))) (g (m 33 (3 * q + k))) (m 34 (3 * q + k)) == cvl u (tq m q (m 35 (3 * q + k))) (g (m 35 (3 * q + k))) (m 36 (3 * q + k)))
def fitM (m : Nat → Nat → Nat) (u : Nat → Int32) (q : Nat) (g : Nat → Nat) (A : Nat → Bool) (p : Nat) : Bool := (th m (tq m q p) (g p) && allN (cOk m u q g p) (m 27 q)) && allN (jOk m u q g A p) (m 32 q)
/-- the rows chosen, on the reference's side -/
def CHo (σ : St) (A : Nat → Bool) (g : Nat → Nat) : Prop := ∀ p, p < 3 → sP σ 12 0 37 p = if A p = true then nI (g p) else mI
theorem r_chosen (R : RI m u w L σ) (W : WQ m) (Wt : WT m u) (hq : q < m 24 0) (hp : p < m 25 q) (hA : A p = true) (hg : g p < 40) (Hc : CHo σ A g) (hc : c < 3) {K : Int32 → Prop} : z_X12_chosenAt N 0 (nI q) (nI p) (nI c) σ K = K (vl u (tq m q p) (g p) c) := by
  have w1 := W.1
  have w3 := W.2.2 q hq
  have h1 := Wt.nt
  have ht : tq m q p < m 1 0 := w3.2.2.2.1 p hp
  have e26 : sP σ 12 0 26 (3 * q + p) = nI (tq m q p) := R.r 26 _ rfl
  have e37 := Hc p (by omega)
  rw [if_pos hA] at e37
  simp (disch := omega) only [z_X12_chosenAt, u_br_True, u_br_False, u_jn_u, u_lt_u, u_nn_s, u_brn_s, u_brn_n, nI_add, u_n_mul, u_n_lt, u_n_le, u_n_eq, u_n_sub, u_n_div, u_n_mod, nI_clamp, u_m1, u_m1q, u_wI_n, u_wA_n, u_br_t, u_br_f, ↓li_m1, li_0, li_1, li_2, li_3, li_4, li_5, li_6, li_7, li_8, li_9, li_10, li_12, li_13, li_26, li_40, li_60, li_61, li_62, li_99, li_100, li_102, li_106, li_114, li_112, li_117, li_108, li_103, li_120, li_300, li_360, li_512, li_1000, e26, e37, r_at R (by omega : tq m q p < 3) hg hc]
theorem r_fits (hN : 1000000 ≤ N) (R : RI m u w L σ) (W : WQ m) (Wt : WT m u) (hq : q < m 24 0) (hp : p < m 25 q) (hA : A p = true) (hg : ∀ x, x < m 25 q → A x = true → g x < 40 ∧ (x ≠ p → th m (tq m q x) (g x) = true)) (Hc : CHo σ A g) {K : Int32 → Prop} (h : K (bI (fitM m u q g A p))) : z_X12_fits N 0 (nI q) (nI p) σ K := by
  have w1 := W.1
  have w3 := W.2.2 q hq
  have h1 := Wt.nt
  have ht : tq m q p < m 1 0 := w3.2.2.2.1 p hp
  have hcl := Wt.cl ht
  have e26 : sP σ 12 0 26 (3 * q + p) = nI (tq m q p) := R.r 26 _ rfl
  have e37 := Hc p (by omega)
  rw [if_pos hA] at e37
  have hgp := (hg p hp hA).1
  have cr' : ∀ {K : Int32 → Prop}, z_X12_hasRow N 0 (nI (tq m q p)) (nI (g p)) σ K = K (bI (th m (tq m q p) (g p))) := fun {K} => r_hasR R Wt (by omega : tq m q p < 3) hgp
  simp (disch := omega) only [z_X12_fits, u_br_True, u_br_False, u_jn_u, u_lt_u, u_nn_s, u_brn_s, u_brn_n, nI_add, u_n_mul, u_n_lt, u_n_le, u_n_eq, u_n_sub, u_n_div, u_n_mod, nI_clamp, u_m1, u_m1q, u_wI_n, u_wA_n, u_br_t, u_br_f, ↓li_m1, li_0, li_1, li_2, li_3, li_4, li_5, li_6, li_7, li_8, li_9, li_10, li_12, li_13, li_26, li_40, li_60, li_61, li_62, li_99, li_100, li_102, li_106, li_114, li_112, li_117, li_108, li_103, li_120, li_300, li_360, li_512, li_1000, e26, e37, cr']
  refine for_v (4 * q + m 27 q) (by omega) (by omega) (fun j a => 4 * q ≤ j ∧ a = bI (th m (tq m q p) (g p) && allN (cOk m u q g p) (j - 4 * q))) (4 * q) (by omega) (fun self j a hj ha hs => ?_) ⟨Nat.le_refl _, by rw [Nat.sub_self, allN_0, Bool.and_true]⟩
  obtain ⟨hj4, rfl⟩ := ha
  by_cases hl : j < 4 * q + m 27 q
  · have goal2 := fun a' hx => hs a' hl ⟨by omega, hx⟩
    have ej : j = 4 * q + (j - 4 * q) := by omega
    have es : j + 1 - 4 * q = (j - 4 * q) + 1 := by omega
    rw [es, allN_s] at goal2
    have hk : j - 4 * q < m 27 q := by omega
    obtain ⟨c1, c2, c3, c4⟩ := w3.2.2.2.2.1 (j - 4 * q) hk
    generalize j - 4 * q = k at *
    subst ej
    simp (disch := omega) only [u_br_True, u_br_False, u_jn_u, u_lt_u, u_nn_s, u_brn_s, u_brn_n, nI_add, u_n_mul, u_n_lt, u_n_le, u_n_eq, u_n_sub, u_n_div, u_n_mod, nI_clamp, u_m1, u_m1q, u_wI_n, u_wA_n, u_br_t, u_br_f, ↓li_m1, li_0, li_1, li_2, li_3, li_4, li_5, li_6, li_7, li_8, li_9, li_10, li_12, li_13, li_26, li_40, li_60, li_61, li_62, li_99, li_100, li_102, li_106, li_114, li_112, li_117, li_108, li_103, li_120, li_300, li_360, li_512, li_1000, (fun j => R.r 27 j rfl), (fun j => R.r 28 j rfl), (fun j => R.r 29 j rfl), (fun j => R.r 30 j rfl), (fun j => R.r 31 j rfl)]
    cases hacc : (th m (tq m q p) (g p) && allN (cOk m u q g p) k) with
    | false =>
      simp (disch := omega) only [bI_f, nI_add, u_n_mul, u_n_lt, u_n_le, u_n_eq, u_n_sub, u_n_div, u_n_mod, nI_clamp, u_m1, u_m1q, u_wI_n, u_wA_n, u_br_t, u_br_f, u_br_True, u_br_False, u_jn_u, u_lt_u, u_nn_s, u_brn_s, u_brn_n, b10, b00, f_0, f_1, u_okT, u_nb_0, u_nb_1]
      refine goal2 _ ?_
      rw [← Bool.and_assoc, hacc]; rfl
    | true =>
      have hth : th m (tq m q p) (g p) = true := by
        cases hh : th m (tq m q p) (g p) with
        | true => rfl
        | false => rw [hh] at hacc; cases hacc
      simp (disch := omega) only [bI_t, b10, u_br_True, u_br_False, u_jn_u, u_lt_u, u_nn_s, u_brn_s, u_brn_n]
      by_cases he : m 28 (4 * q + k) = p
      · rw [he] at c2
        obtain ⟨v1, v2⟩ := cvl_n Wt ht c2 hgp hth
        rw [u_br_t he]
        simp (disch := omega) only [r_chosen R W Wt hq hp hA hgp Hc (by omega : m 29 (4 * q + k) < 3), v1, r_holds c3 (by omega : cvl u (tq m q p) (g p) (m 29 (4 * q + k)) < 2 ^ 31) (by omega : m 31 (4 * q + k) < 2 ^ 31)]
        cases hh : hold (m 30 (4 * q + k)) (m 31 (4 * q + k)) (cvl u (tq m q p) (g p) (m 29 (4 * q + k))) with
        | true =>
          rw [if_pos rfl, u_br_f (by rw [b10]; exact fun h => h)]
          refine goal2 _ ?_
          rw [← Bool.and_assoc, hacc]
          simp [cOk, hh, bI]
        | false =>
          rw [if_neg (by decide), u_br_t rfl]
          refine goal2 _ ?_
          rw [← Bool.and_assoc, hacc]
          simp [cOk, hh, he, bI]
      · rw [u_br_f he]
        refine goal2 _ ?_
        rw [← Bool.and_assoc, hacc]
        simp [cOk, he, bI]
  · have hj2 : j = 4 * q + m 27 q := by omega
    subst hj2
    rw [show 4 * q + m 27 q - 4 * q = m 27 q by omega]
    simp (disch := omega) only [u_br_True, u_br_False, u_jn_u, u_lt_u, u_nn_s, u_brn_s, u_brn_n, nI_add, u_n_mul, u_n_lt, u_n_le, u_n_eq, u_n_sub, u_n_div, u_n_mod, nI_clamp, u_m1, u_m1q, u_wI_n, u_wA_n, u_br_t, u_br_f, ↓li_m1, li_0, li_1, li_2, li_3, li_4, li_5, li_6, li_7, li_8, li_9, li_10, li_12, li_13, li_26, li_40, li_60, li_61, li_62, li_99, li_100, li_102, li_106, li_114, li_112, li_117, li_108, li_103, li_120, li_300, li_360, li_512, li_1000, (fun j => R.r 27 j rfl)]
    refine for_v (3 * q + m 32 q) (by omega) (by omega) (fun j a => 3 * q ≤ j ∧ a = bI ((th m (tq m q p) (g p) && allN (cOk m u q g p) (m 27 q)) && allN (jOk m u q g A p) (j - 3 * q))) (3 * q) (by omega) (fun self j a hj ha hs => ?_) ⟨Nat.le_refl _, by rw [Nat.sub_self, allN_0, Bool.and_true]⟩
    obtain ⟨hj4, rfl⟩ := ha
    by_cases hl : j < 3 * q + m 32 q
    · have goal2 := fun a' hx => hs a' hl ⟨by omega, hx⟩
      have ej : j = 3 * q + (j - 3 * q) := by omega
      have es : j + 1 - 3 * q = (j - 3 * q) + 1 := by omega
      rw [es, allN_s] at goal2
      have hk : j - 3 * q < m 32 q := by omega
      obtain ⟨c1, c2, c3, c4, c5⟩ := w3.2.2.2.2.2 (j - 3 * q) hk
      generalize j - 3 * q = k at *
      subst ej
      have t1 : tq m q (m 33 (3 * q + k)) < m 1 0 := w3.2.2.2.1 _ c1
      have t2 : tq m q (m 35 (3 * q + k)) < m 1 0 := w3.2.2.2.1 _ c3
      have cl1 := Wt.cl t1
      have cl2 := Wt.cl t2
      cases hacc : ((th m (tq m q p) (g p) && allN (cOk m u q g p) (m 27 q)) && allN (jOk m u q g A p) k) with
      | false =>
        have gg := goal2 _ (show nI 0 = _ by rw [← Bool.and_assoc, hacc]; rfl)
        by_cases e33 : m 33 (3 * q + k) = p
        · simp (disch := omega) only [bI_f, nI_add, u_n_mul, u_n_lt, u_n_le, u_n_eq, u_n_sub, u_n_div, u_n_mod, nI_clamp, u_m1, u_m1q, u_wI_n, u_wA_n, u_br_t, u_br_f, u_br_True, u_br_False, u_jn_u, u_lt_u, u_nn_s, u_brn_s, u_brn_n, ↓li_m1, li_0, li_1, li_2, li_3, li_4, li_5, li_6, li_7, li_8, li_9, li_10, li_12, li_13, li_26, li_40, li_60, li_61, li_62, li_99, li_100, li_102, li_106, li_114, li_112, li_117, li_108, li_103, li_120, li_300, li_360, li_512, li_1000, b10, b00, f_0, f_1, u_okT, u_nb_0, u_nb_1, (fun j => R.r 32 j rfl), (fun j => R.r 33 j rfl)]
          exact gg
        · by_cases e35 : m 35 (3 * q + k) = p
          · simp (disch := omega) only [bI_f, nI_add, u_n_mul, u_n_lt, u_n_le, u_n_eq, u_n_sub, u_n_div, u_n_mod, nI_clamp, u_m1, u_m1q, u_wI_n, u_wA_n, u_br_t, u_br_f, u_br_True, u_br_False, u_jn_u, u_lt_u, u_nn_s, u_brn_s, u_brn_n, ↓li_m1, li_0, li_1, li_2, li_3, li_4, li_5, li_6, li_7, li_8, li_9, li_10, li_12, li_13, li_26, li_40, li_60, li_61, li_62, li_99, li_100, li_102, li_106, li_114, li_112, li_117, li_108, li_103, li_120, li_300, li_360, li_512, li_1000, b10, b00, f_0, f_1, u_okT, u_nb_0, u_nb_1, (fun j => R.r 32 j rfl), (fun j => R.r 33 j rfl), (fun j => R.r 35 j rfl)]
            exact gg
          · simp (disch := omega) only [bI_f, nI_add, u_n_mul, u_n_lt, u_n_le, u_n_eq, u_n_sub, u_n_div, u_n_mod, nI_clamp, u_m1, u_m1q, u_wI_n, u_wA_n, u_br_t, u_br_f, u_br_True, u_br_False, u_jn_u, u_lt_u, u_nn_s, u_brn_s, u_brn_n, ↓li_m1, li_0, li_1, li_2, li_3, li_4, li_5, li_6, li_7, li_8, li_9, li_10, li_12, li_13, li_26, li_40, li_60, li_61, li_62, li_99, li_100, li_102, li_106, li_114, li_112, li_117, li_108, li_103, li_120, li_300, li_360, li_512, li_1000, b10, b00, f_0, f_1, u_okT, u_nb_0, u_nb_1, (fun j => R.r 32 j rfl), (fun j => R.r 33 j rfl), (fun j => R.r 35 j rfl)]
            exact gg
      | true =>
        have hth : th m (tq m q p) (g p) = true := by
          cases hh : th m (tq m q p) (g p) with
          | true => rfl
          | false => rw [hh] at hacc; cases hacc
        have hthx : ∀ x, x < m 25 q → A x = true → th m (tq m q x) (g x) = true := fun x hx ha => by
          by_cases e : x = p
          · rw [e]; exact hth
          · exact (hg x hx ha).2 e
        have gg := fun a' (hx : a' = bI (jOk m u q g A p k)) => goal2 a' (by rw [← Bool.and_assoc, hacc, Bool.true_and]; exact hx)
        have a33 := Hc (m 33 (3 * q + k)) (by omega)
        have a35 := Hc (m 35 (3 * q + k)) (by omega)
        by_cases hin : m 33 (3 * q + k) = p ∨ m 35 (3 * q + k) = p
        · have val : (br (sP σ 12 0 37 (m 33 (3 * q + k)) < nI 0) (self (nI 1) (nI (3 * q + k + 1))) (br (sP σ 12 0 37 (m 35 (3 * q + k)) < nI 0) (self (nI 1) (nI (3 * q + k + 1))) (z_X12_chosenAt N 0 (nI q) (nI (m 33 (3 * q + k))) (nI (m 34 (3 * q + k))) σ fun v30 => z_X12_chosenAt N 0 (nI q) (nI (m 35 (3 * q + k))) (nI (m 36 (3 * q + k))) σ fun v35 => br (v30 = v35) (self (nI 1) (nI (3 * q + k + 1))) (self (nI 0) (nI (3 * q + k + 1)))))) := by
            by_cases h33 : A (m 33 (3 * q + k)) = true
            · rw [if_pos h33] at a33
              have g33 := (hg _ c1 h33).1
              by_cases h35 : A (m 35 (3 * q + k)) = true
              · rw [if_pos h35] at a35
                have g35 := (hg _ c3 h35).1
                obtain ⟨v1, v2⟩ := cvl_n Wt t1 c2 g33 (hthx _ c1 h33)
                obtain ⟨v3, v4⟩ := cvl_n Wt t2 c4 g35 (hthx _ c3 h35)
                simp (disch := omega) only [a33, a35, nI_add, u_n_mul, u_n_lt, u_n_le, u_n_eq, u_n_sub, u_n_div, u_n_mod, nI_clamp, u_m1, u_m1q, u_wI_n, u_wA_n, u_br_t, u_br_f, r_chosen R W Wt hq c1 h33 g33 Hc (by omega : m 34 (3 * q + k) < 3), r_chosen R W Wt hq c3 h35 g35 Hc (by omega : m 36 (3 * q + k) < 3), v1, v3]
                by_cases hv : cvl u (tq m q (m 33 (3 * q + k))) (g (m 33 (3 * q + k))) (m 34 (3 * q + k)) = cvl u (tq m q (m 35 (3 * q + k))) (g (m 35 (3 * q + k))) (m 36 (3 * q + k))
                · rw [u_br_t hv]
                  exact gg (nI 1) (by simp [jOk, hv, bI])
                · rw [u_br_f hv]
                  refine gg _ ?_
                  have : jOk m u q g A p k = false := by
                    simp only [jOk, h33, h35, beq_eq_false_iff_ne.mpr hv]
                    rcases hin with e | e <;> simp [e]
                  rw [this]; rfl
              · rw [if_neg h35] at a35
                simp (disch := omega) only [a33, a35, mlt0, nI_add, u_n_mul, u_n_lt, u_n_le, u_n_eq, u_n_sub, u_n_div, u_n_mod, nI_clamp, u_m1, u_m1q, u_wI_n, u_wA_n, u_br_t, u_br_f, u_br_True, u_br_False, u_jn_u, u_lt_u, u_nn_s, u_brn_s, u_brn_n]
                exact gg (nI 1) (by simp [jOk, h35, bI])
            · rw [if_neg h33] at a33
              simp (disch := omega) only [a33, mlt0, nI_add, u_n_mul, u_n_lt, u_n_le, u_n_eq, u_n_sub, u_n_div, u_n_mod, nI_clamp, u_m1, u_m1q, u_wI_n, u_wA_n, u_br_t, u_br_f, u_br_True, u_br_False, u_jn_u, u_lt_u, u_nn_s, u_brn_s, u_brn_n]
              exact gg (nI 1) (by simp [jOk, h33, bI])
          by_cases e33 : m 33 (3 * q + k) = p
          · simp (disch := omega) only [bI_t, nI_add, u_n_mul, u_n_lt, u_n_le, u_n_eq, u_n_sub, u_n_div, u_n_mod, nI_clamp, u_m1, u_m1q, u_wI_n, u_wA_n, u_br_t, u_br_f, u_br_True, u_br_False, u_jn_u, u_lt_u, u_nn_s, u_brn_s, u_brn_n, ↓li_m1, li_0, li_1, li_2, li_3, li_4, li_5, li_6, li_7, li_8, li_9, li_10, li_12, li_13, li_26, li_40, li_60, li_61, li_62, li_99, li_100, li_102, li_106, li_114, li_112, li_117, li_108, li_103, li_120, li_300, li_360, li_512, li_1000, b10, b00, f_0, f_1, u_okT, u_nb_0, u_nb_1, (fun j => R.r 32 j rfl), (fun j => R.r 33 j rfl), (fun j => R.r 34 j rfl), (fun j => R.r 35 j rfl), (fun j => R.r 36 j rfl)]
            exact val
          · simp (disch := omega) only [bI_t, nI_add, u_n_mul, u_n_lt, u_n_le, u_n_eq, u_n_sub, u_n_div, u_n_mod, nI_clamp, u_m1, u_m1q, u_wI_n, u_wA_n, u_br_t, u_br_f, u_br_True, u_br_False, u_jn_u, u_lt_u, u_nn_s, u_brn_s, u_brn_n, ↓li_m1, li_0, li_1, li_2, li_3, li_4, li_5, li_6, li_7, li_8, li_9, li_10, li_12, li_13, li_26, li_40, li_60, li_61, li_62, li_99, li_100, li_102, li_106, li_114, li_112, li_117, li_108, li_103, li_120, li_300, li_360, li_512, li_1000, b10, b00, f_0, f_1, u_okT, u_nb_0, u_nb_1, (fun j => R.r 32 j rfl), (fun j => R.r 33 j rfl), (fun j => R.r 34 j rfl), (fun j => R.r 35 j rfl), (fun j => R.r 36 j rfl)]
            exact val
        · simp (disch := omega) only [bI_t, nI_add, u_n_mul, u_n_lt, u_n_le, u_n_eq, u_n_sub, u_n_div, u_n_mod, nI_clamp, u_m1, u_m1q, u_wI_n, u_wA_n, u_br_t, u_br_f, u_br_True, u_br_False, u_jn_u, u_lt_u, u_nn_s, u_brn_s, u_brn_n, ↓li_m1, li_0, li_1, li_2, li_3, li_4, li_5, li_6, li_7, li_8, li_9, li_10, li_12, li_13, li_26, li_40, li_60, li_61, li_62, li_99, li_100, li_102, li_106, li_114, li_112, li_117, li_108, li_103, li_120, li_300, li_360, li_512, li_1000, b10, b00, f_0, f_1, u_okT, u_nb_0, u_nb_1, (fun j => R.r 32 j rfl), (fun j => R.r 33 j rfl), (fun j => R.r 35 j rfl)]
          refine gg _ ?_
          have e1 : (m 33 (3 * q + k) == p) = false := beq_eq_false_iff_ne.mpr (fun e => hin (Or.inl e))
          have e2 : (m 35 (3 * q + k) == p) = false := beq_eq_false_iff_ne.mpr (fun e => hin (Or.inr e))
          simp [jOk, e1, e2, bI]
    · have hj2 : j = 3 * q + m 32 q := by omega
      subst hj2
      rw [show 3 * q + m 32 q - 3 * q = m 32 q by omega]
      have nb : ∀ b, (narrow .boolean (.int (bI b)) = .int (bI b)) = True := fun b => by cases b <;> exact eq_true rfl
      simp (disch := omega) only [u_br_True, u_br_False, u_jn_u, u_lt_u, u_nn_s, u_brn_s, u_brn_n, nI_add, u_n_mul, u_n_lt, u_n_le, u_n_eq, u_n_sub, u_n_div, u_n_mod, nI_clamp, u_m1, u_m1q, u_wI_n, u_wA_n, u_br_t, u_br_f, ↓li_m1, li_0, li_1, li_2, li_3, li_4, li_5, li_6, li_7, li_8, li_9, li_10, li_12, li_13, li_26, li_40, li_60, li_61, li_62, li_99, li_100, li_102, li_106, li_114, li_112, li_117, li_108, li_103, li_120, li_300, li_360, li_512, li_1000, (fun j => R.r 32 j rfl), nb, u_okT]
      exact h
end RFITS
