section CDRAW
variable {m m' mm : Nat → Nat → Nat} {u u' w : Nat → Int32} {L L' E : List Nat} {σ σ' σ1 σ2 : St} {N kk t c k n q ban place p way x y b a i s v told f j cc d lo hi : Nat} {o o' ways g : Nat → Nat} {P Q : Nat → Prop}
def gW (m : Nat → Nat → Nat) (q ban b p : Nat) : Nat := if p < m 25 q then gway m q ban (ordN b) p else 0
def gIx (m : Nat → Nat → Nat) (q ban b p : Nat) : Option Nat := if p < m 25 q then wIdx m q ban (ordN b) p (gway m q ban (ordN b) p) else none
/-- plan i holds the best of the orders tried -/
def BP (m : Nat → Nat → Nat) (q ban : Nat) (s : St) (i b : Nat) : Prop := PO s i (m 25 q) (ordN b) ∧ (∀ p, p < 3 → PW s i p (gW m q ban b p) (gIx m q ban b p)) ∧ sL_ s 5 i 6 0 = lN (eO m q ban b)
theorem BP.k50 (h : BP m q ban σ i b) (k : K5 0 σ σ') (hi : i ≠ 0) : BP m q ban σ' i b := by
  refine ⟨h.1.k50 k hi, fun p hp => (h.2.1 p hp).k50 k hi, ?_⟩
  rw [k.2.1 5 i 6 0 (fun e => by omega)]
  exact h.2.2
theorem eO_lt (W : WQ m) (Wt : WT m u) (hq : q < m 24 0) (hb : b < 6) (hok : okO (m 25 q) b = true) : eO m q ban b < 2 ^ 62 := by
  have w3 := (W.2.2 q hq).1
  have := est_le (ban := ban) (ways := gway m q ban (ordN b)) W Wt hq (fun p hp => ((cO_1 _ (by omega) b hb hok).2.2 p hp).2) (fun p hp => gway_spec.1) (m 25 q) (Nat.le_refl _)
  unfold eO
  omega
theorem c_drawC (hN : 1000000 ≤ N) (S : SS m u σ) (W : WQ m) (Wx : WX m) (Wt : WT m u) (hq : q < m 24 0) (hC : TCo m q ban σ) (hT : TJ m q ban σ) (hi : i ≠ 0) {K : St → Prop}
    (h : ∀ s, K5 i σ s → BP m q ban s i (best m q ban) → K s) : z_X6_drawByCounts N 0 (some i) (some q) σ K := by
  have w3 := (W.2.2 q hq).1
  have hc0 : ∀ s : St, C0 s → sQ s 6 0 0 0 = some 0 := fun s C => C.2.2.2.2.2.2.2.2.2.1
  have e1 : ∀ s, SS m u s → sP s 7 q 1 0 = nI (m 25 q) := fun s S => (S.2.2.2.2.2.2 q hq).1
  simp only [z_X6_drawByCounts, z_X7_size, u_br_True, u_br_False, u_jn_u, u_lt_u, u_nn_s, u_brn_s, u_brn_n, ↓li_m1, li_0, li_1, li_2, li_3, li_4, li_5, li_6, li_7, li_8, li_9, li_10, li_12, li_13, li_26, li_40, li_60, li_61, li_62, li_99, li_100, li_102, li_106, li_114, li_112, li_117, li_108, li_103, li_120, li_300, li_360, li_512, li_1000, li_18]
  refine for_m 6 (by omega) (by omega) (fun x a s => K5 i σ s ∧ (x = 0 → a = nI 1) ∧ (0 < x → a = nI 0 ∧ BP m q ban s i (beN m q ban x))) 0 (by omega) (fun self x a s hx hI hs => ?_) ⟨K5.refl, fun _ => rfl, fun h => by omega⟩
  obtain ⟨i1, i2, i3⟩ := hI
  have Ss := S.kx i1.kpl.kx
  by_cases hl : x < 6
  · simp (disch := omega) only [u_br_True, u_br_False, u_jn_u, u_lt_u, u_nn_s, u_brn_s, u_brn_n, nI_add, u_n_mul, u_n_lt, u_n_le, u_n_eq, u_n_sub, u_n_div, u_n_mod, nI_clamp, u_m1, u_m1q, u_wI_n, u_wA_n, u_br_t, u_br_f, hc0 s Ss.1, e1 s Ss]
    refine c_order hN (j := 0) (Or.inl rfl) hl w3 (fun s1 k1 h1 => ?_)
    have hbe := beN_s (m := m) (q := q) (ban := ban) (n := x)
    have kk1 : K5 i σ s1 := i1.trans k1.up
    by_cases hok : okO (m 25 q) x = true
    · obtain ⟨hP1, hW1⟩ := h1 hok
      have hpm := ord_P hl
      have hon : ∀ p, p < m 25 q → ordN x p < m 25 q := fun p hp => ((cO_1 _ (by omega) x hl hok).2.2 p hp).2
      rw [if_pos hok, u_br_f (by rw [b10]; exact fun h => h)]
      refine for_u (m 25 q) (by omega) (by omega) (fun pl s => K5 0 s1 s ∧ PO s 0 (m 25 q) (ordN x) ∧ (∀ p, p < pl → PW s 0 p (gway m q ban (ordN x) p) (wIdx m q ban (ordN x) p (gway m q ban (ordN x) p))) ∧ ∀ p, pl ≤ p → p < 3 → PW s 0 p 0 none) 0 (by omega) (fun self2 pl s2 hpl hI2 hs2 => ?_) ⟨K5.refl, hP1, fun p hp => by omega, fun p _ hp => hW1 p hp⟩
      obtain ⟨j1, j2, j3, j4⟩ := hI2
      have kk2 : K5 i σ s2 := kk1.trans j1.up
      have Ss2 := S.kx kk2.kpl.kx
      have Cs2 := hC.k5 kk2
      have Ts2 := hT.k5 kk2
      by_cases hl2 : pl < m 25 q
      · simp (disch := omega) only [u_br_True, u_br_False, u_jn_u, u_lt_u, u_nn_s, u_brn_s, u_brn_n, nI_add, u_n_mul, u_n_lt, u_n_le, u_n_eq, u_n_sub, u_n_div, u_n_mod, nI_clamp, u_m1, u_m1q, u_wI_n, u_wA_n, u_br_t, u_br_f, hc0 s2 Ss2.1, z_X5_size, j2.1]
        refine c_cheap hN Ss2 W Wx Wt hq Cs2 Ts2 j2 hpm hl2 (hon pl hl2) (j4 pl (Nat.le_refl _) (by omega)) (fun s3 k3 p3 g3 r3 => ?_)
        refine hs2 _ hl2 ⟨j1.trans k3, p3, fun p hp => ?_, fun p hp hp2 => r3 p _ _ (by omega) (j4 p (by omega) hp2)⟩
        by_cases e : p = pl
        · subst e; exact g3
        · exact r3 p _ _ e (j3 p (by omega))
      · have hpl2 : pl = m 25 q := by omega
        subst hpl2
        simp (disch := omega) only [u_br_True, u_br_False, u_jn_u, u_lt_u, u_nn_s, u_brn_s, u_brn_n, nI_add, u_n_mul, u_n_lt, u_n_le, u_n_eq, u_n_sub, u_n_div, u_n_mod, nI_clamp, u_m1, u_m1q, u_wI_n, u_wA_n, u_br_t, u_br_f, hc0 s2 Ss2.1, z_X5_size, j2.1]
        refine c_guess hN Ss2 W Wt hq Cs2 Ts2 j2 hpm hon (fun p hp => ⟨_, j3 p hp⟩) (fun p hp => gway_spec.1) ?_
        have eg : est m q (ordN x) (gway m q ban (ordN x)) (m 25 q) = eO m q ban x := rfl
        rw [eg]
        have k4 : K5 0 s1 (stL s2 5 0 6 0 (lN (eO m q ban x))) := j1.stl (Or.inl rfl)
        have kk4 : K5 i σ (stL s2 5 0 6 0 (lN (eO m q ban x))) := kk1.trans k4.up
        have P4 : PO (stL s2 5 0 6 0 (lN (eO m q ban x))) 0 (m 25 q) (ordN x) := j2
        have W4 : ∀ p, p < 3 → PW (stL s2 5 0 6 0 (lN (eO m q ban x))) 0 p (gW m q ban x p) (gIx m q ban x p) := by
          intro p hp
          unfold gW gIx
          by_cases hpn : p < m 25 q
          · rw [if_pos hpn, if_pos hpn]; exact j3 p hpn
          · rw [if_neg hpn, if_neg hpn]; exact j4 p (by omega) hp
        have take : ∀ (T : Int32 → Int32 → St → Prop), (∀ s', K5 i σ s' → BP m q ban s' i x → T (nI 0) (nI (x + 1)) s') → z_X5_copyFrom N i (some 0) (stL s2 5 0 6 0 (lN (eO m q ban x))) (fun h21 => T (nI 0) (nI (x + 1)) h21) := by
          intro T hTT
          refine c_copy hN hi P4 (by omega) hpm W4 (fun s5 k5 p5 w5 l5 => hTT s5 (kk4.trans k5) ⟨p5, w5, ?_⟩)
          rw [l5]
          simp only [sL_stL, Nat.reduceEqDiff, true_and, and_true, false_and, and_false, if_true, if_false, eq_self, and_self, Nat.reduceLT, Nat.reduceLeDiff, Nat.reduceAdd, Nat.reduceMul, Nat.reduceDiv, Nat.one_ne_zero]
        by_cases hx0 : x = 0
        · subst hx0
          have ea := i2 rfl
          subst ea
          simp (disch := omega) only [z_X5_setGuess, z_X5_guess, sQ_stL, hc0 s2 Ss2.1, u_br_True, u_br_False, u_jn_u, u_lt_u, u_nn_s, u_brn_s, u_brn_n, nI_add, u_n_mul, u_n_lt, u_n_le, u_n_eq, u_n_sub, u_n_div, u_n_mod, nI_clamp, u_m1, u_m1q, u_wI_n, u_wA_n, u_br_t, u_br_f]
          refine take self (fun s' ks hB => hs _ _ hl ⟨ks, fun h => by omega, fun _ => ⟨rfl, ?_⟩⟩)
          have : beN m q ban 1 = 0 := by
            rw [beN_s]
            split <;> rfl
          rw [this]
          exact hB
        · obtain ⟨ea, hB⟩ := i3 (by omega)
          subst ea
          have hB4 := (hB.k50 k1 hi).k50 k4 hi
          obtain ⟨b1, b2, b3⟩ := beN_spec (m := m) (q := q) (ban := ban) x (by omega)
          have lt1 := eO_lt (ban := ban) W Wt hq hl hok
          have lt2 := eO_lt (ban := ban) W Wt hq (by omega : beN m q ban x < 6) b2
          have el : sL_ (stL s2 5 0 6 0 (lN (eO m q ban x))) 5 0 6 0 = lN (eO m q ban x) := by simp only [sL_stL, Nat.reduceEqDiff, true_and, and_true, false_and, and_false, if_true, if_false, eq_self, and_self, Nat.reduceLT, Nat.reduceLeDiff, Nat.reduceAdd, Nat.reduceMul, Nat.reduceDiv, Nat.one_ne_zero]
          simp (disch := omega) only [z_X5_setGuess, z_X5_guess, sQ_stL, hc0 s2 Ss2.1, u_br_True, u_br_False, u_jn_u, u_lt_u, u_nn_s, u_brn_s, u_brn_n, nI_add, u_n_mul, u_n_lt, u_n_le, u_n_eq, u_n_sub, u_n_div, u_n_mod, nI_clamp, u_m1, u_m1q, u_wI_n, u_wA_n, u_br_t, u_br_f, el, hB4.2.2, cmp_ge]
          by_cases hle : eO m q ban (beN m q ban x) ≤ eO m q ban x
          · rw [u_br_t hle]
            rw [if_neg (fun h => by omega)] at hbe
            refine hs _ _ hl ⟨kk4, fun h => by omega, fun _ => ⟨rfl, ?_⟩⟩
            rw [hbe]
            exact hB4
          · rw [u_br_f hle]
            rw [if_pos ⟨hok, by omega⟩] at hbe
            refine take self (fun s' ks hB' => hs _ _ hl ⟨ks, fun h => by omega, fun _ => ⟨rfl, ?_⟩⟩)
            rw [hbe]
            exact hB'
    · rw [if_neg hok, u_br_t rfl]
      rw [if_neg (fun h => hok h.1)] at hbe
      have hx0 : x ≠ 0 := fun e => hok (by rw [e]; exact okO_0)
      obtain ⟨ea, hB⟩ := i3 (by omega)
      refine hs _ _ hl ⟨kk1, fun h => by omega, fun _ => ⟨ea, ?_⟩⟩
      rw [hbe]
      exact hB.k50 k1 hi
  · have hx6 : x = 6 := by omega
    subst hx6
    simp (disch := omega) only [u_br_True, u_br_False, u_jn_u, u_lt_u, u_nn_s, u_brn_s, u_brn_n, nI_add, u_n_mul, u_n_lt, u_n_le, u_n_eq, u_n_sub, u_n_div, u_n_mod, nI_clamp, u_m1, u_m1q, u_wI_n, u_wA_n, u_br_t, u_br_f]
    exact h s i1 (i3 (by omega)).2
theorem c_draw (hN : 1000000 ≤ N) (S : SS m u σ) (W : WQ m) (Wx : WX m) (Wt : WT m u) (hq : q < m 24 0) (hb : ban < 64) (hd : d < 2) (hi : i ≠ 0) {K : St → Prop}
    (h : ∀ s, KPl i σ s → PL m q ban d s i → sL_ s 5 i 6 0 = lN (est m q (plO m q ban d) (plW m q ban d) (m 25 q)) → K s) : z_X6_draw N 0 (some i) (nI d) (some 0) (some q) (nI ban) σ K := by
  have w3 := (W.2.2 q hq).1
  unfold z_X6_draw
  refine c_takeC (i := i) hN S W Wx Wt hq hb (fun s1 k1 C1 => ?_)
  refine c_takeJ (i := i) hN (S.kx k1.kx) W Wx Wt hq hb C1 (fun s2 k2 C2 T2 => ?_)
  have S2 := (S.kx k1.kx).kx k2.kx
  by_cases hd0 : d = 0
  · subst hd0
    simp (disch := omega) only [u_br_True, u_br_False, u_jn_u, u_lt_u, u_nn_s, u_brn_s, u_brn_n, nI_add, u_n_mul, u_n_lt, u_n_le, u_n_eq, u_n_sub, u_n_div, u_n_mod, nI_clamp, u_m1, u_m1q, u_wI_n, u_wA_n, u_br_t, u_br_f, ↓li_m1, li_0, li_1, li_2, li_3, li_4, li_5, li_6, li_7, li_8, li_9, li_10, li_12, li_13, li_26, li_40, li_60, li_61, li_62, li_99, li_100, li_102, li_106, li_114, li_112, li_117, li_108, li_103, li_120, li_300, li_360, li_512, li_1000]
    refine c_drawB hN S2 W Wx Wt hq C2 T2 (fun s3 k3 p3 l3 => h s3 ((k1.trans k2).trans k3.kpl) p3 ?_)
    rw [l3]
    rfl
  · have hd1 : d = 1 := by omega
    subst hd1
    simp (disch := omega) only [u_br_True, u_br_False, u_jn_u, u_lt_u, u_nn_s, u_brn_s, u_brn_n, nI_add, u_n_mul, u_n_lt, u_n_le, u_n_eq, u_n_sub, u_n_div, u_n_mod, nI_clamp, u_m1, u_m1q, u_wI_n, u_wA_n, u_br_t, u_br_f, ↓li_m1, li_0, li_1, li_2, li_3, li_4, li_5, li_6, li_7, li_8, li_9, li_10, li_12, li_13, li_26, li_40, li_60, li_61, li_62, li_99, li_100, li_102, li_106, li_114, li_112, li_117, li_108, li_103, li_120, li_300, li_360, li_512, li_1000]
    refine c_drawC hN S2 W Wx Wt hq C2 T2 hi (fun s3 k3 B3 => h s3 ((k1.trans k2).trans k3.kpl) ⟨B3.1.1, fun p hp => ?_⟩ ?_)
    · obtain ⟨a1, a2⟩ := B3.1.2 p (by omega)
      have hw := B3.2.1 p (by omega)
      unfold gW gIx at hw
      rw [if_pos hp, if_pos hp] at hw
      exact ⟨a1, a2, hw.1, hw.2.1, hw.2.2⟩
    · rw [B3.2.2]
      rfl
end CDRAW
