section KROUND
variable {m m' : Nat → Nat → Nat} {u w w' : Nat → Int32} {L L0 : List Nat} {σ σ' σ0 s s2 σ1 : St} {N kk n q p d ban t c k a x i j f b y key F p3 : Nat} {v wi p2 : Int32}
/-- the cache and the misses behind a duellist's run -/
def LL (m : Nat → Nat → Nat) (u : Nat → Int32) (q d : Nat) (L : List Nat) : List Nat := (rsC m u q (m 46 d) d L).2.2.2.1
def MM (m : Nat → Nat → Nat) (u : Nat → Int32) (q d : Nat) (L : List Nat) : Nat := (rsC m u q (m 46 d) d L).2.1
theorem MM_lt (W : WQ m) (Wt : WT m u) (Wx : WX m) (hq : q < m 24 0) : MM m u q d L < 2 ^ 20 := by
  obtain ⟨h1, h2⟩ := rsC_le (ban := m 46 d) (d := d) (L := L) W Wt Wx hq
  unfold MM
  omega
/-- the class's two runs: the first duellist's, then the other's -/
theorem c_two (hN : 1000000 ≤ N) (S : SS m u σ) (W : WQ m) (Wt : WT m u) (Wx : WX m) (hq : q < m 24 0) (h0 : 0 < m 25 q) (hd : d < 2) (P : PL m q (m 46 d) d σ i) (X : CO σ 0 (m 19 0) L) (Ck : CK (m 19 0) L) {K : Int32 → St → Prop}
    (h : ∀ s, KFo 0 σ s → CO s 0 (m 19 0) (LL m u q d L) → CK (m 19 0) (LL m u q d L) → K (nI (MM m u q d L)) s) : z_X8_follow N 0 (some 0) (some q) (some i) (some 0) σ K := by
  refine c_follow (ban := m 46 d) (d := d) (L := L) hN S W Wt Wx hq h0 P X Ck (vf0 m u q) (fun g => rfl) (fun s3 R3 k3 => ?_)
  rw [rsC_x] at R3
  rw [R3.2.2.1]
  obtain ⟨x1, x2⟩ := R3.2.2.2.2.2.2.2.2.2.2 0 rfl
  exact h s3 k3 x1 x2
def mRd (m : Nat → Nat → Nat) (q : Nat) (wi : Int32) : Nat → Nat → Nat := mu (mu (mu (mu (mu (mu (mu (mu (mu m 52 0 (m 52 0 + 1)) 51 0 (pkN wi true 0 (m 51 0))) 51 1 (pkN wi true 1 (m 51 1))) 55 0 q) 54 0 (m 46 0)) 46 0 0) 54 1 (m 46 1)) 46 1 0) 16 0 1
theorem pkN_le : pkN wi true d c ≤ c + 3 := by
  unfold pkN udN pkA
  split <;> split <;> (try split) <;> omega
def rdT (N : Nat) (p1 : Int32) (K : Int32 → St → Prop) (h25 : St) : Prop :=
  lt_ (stP h25 12 0 52 0 ((sP h25 12 0 52 0) + 1)) fun h27 =>
  z_X12_winnerOf N 0 ((sP h27 12 0 52 0) - 1) h27 fun v29 =>
  z_X12_pays N 0 v29 1 h27 fun h30 =>
  lt_ (stP h30 12 0 55 0 p1) fun h31 =>
  fx2 (fun (w155 : Int32 → St → Prop) (x33 : Int32) (h32 : St) =>
    br (2 ≤ x33) (
      lt_ (stP h32 12 0 16 0 1) fun h34 =>
      z_X12_winnerOf N 0 ((sP h34 12 0 52 0) - 1) h34 fun v36 =>
      K v36 h34) (
      wI 2 x33 <|
      wA 2 x33 (stP h32 12 0 54 (x33).toNatClampNeg (sP h32 12 0 46 (x33).toNatClampNeg)) fun h40 =>
      wA 2 x33 (stP h40 12 0 46 (x33).toNatClampNeg 0) fun h42 =>
      w155 (x33 + 1) h42)) N 0 h31
theorem round_eq {p1 : Int32} {K : Int32 → St → Prop} : z_X12_round N 0 p1 σ K = (
  lt_ (stP σ 12 0 0 0 0) fun h1 =>
  z_X12_isQuery N 0 p1 h1 fun v2 =>
  jn (fun (v3 : Int32) =>
    z_X12_fails N 0 v3 1 h1 fun v4 h5 =>
    br (v4 = 0) (
      wI 8 p1 <|
      jn (fun (v8 : Int32) =>
        z_X12_fails N 0 v8 2 h5 fun v9 h10 =>
        br (v9 = 0) (
          wI 2 ((sP h10 12 0 52 0) - (sP h10 12 0 52 0) / 2 * 2) <|
          z_X12_runs N 0 ((sP h10 12 0 52 0) - (sP h10 12 0 52 0) / 2 * 2) p1 (sP h10 12 0 46 (((sP h10 12 0 52 0) - (sP h10 12 0 52 0) / 2 * 2)).toNatClampNeg) 0 h10 fun h14 =>
          wA 1200 ((2 * (sP h14 12 0 52 0)) + ((sP h10 12 0 52 0) - (sP h10 12 0 52 0) / 2 * 2)) (stP h14 12 0 53 (((2 * (sP h14 12 0 52 0)) + ((sP h10 12 0 52 0) - (sP h10 12 0 52 0) / 2 * 2))).toNatClampNeg (sP h14 12 0 22 0)) fun h18 =>
          wI 2 (1 - ((sP h10 12 0 52 0) - (sP h10 12 0 52 0) / 2 * 2)) <|
          z_X12_runs N 0 (1 - ((sP h10 12 0 52 0) - (sP h10 12 0 52 0) / 2 * 2)) p1 (sP h18 12 0 46 ((1 - ((sP h10 12 0 52 0) - (sP h10 12 0 52 0) / 2 * 2))).toNatClampNeg) 0 h18 fun h21 =>
          wA 1200 (((2 * (sP h21 12 0 52 0)) + 1) - ((sP h10 12 0 52 0) - (sP h10 12 0 52 0) / 2 * 2)) (stP h21 12 0 53 ((((2 * (sP h21 12 0 52 0)) + 1) - ((sP h10 12 0 52 0) - (sP h10 12 0 52 0) / 2 * 2))).toNatClampNeg (sP h21 12 0 22 0)) fun h25 =>
          rdT N p1 K h25) (
          K (-1) h10)) (fun j41 =>
        br ((sP h5 12 0 25 (p1).toNatClampNeg) = 0) (
          j41 1) (
          j41 0))) (
      K (-1) h5)) (fun j19 =>
    br (v2 = 0) (
      j19 1) (
      j19 0))) := rfl
/-- the reference's round behind its two runs -/
theorem r_tail (hN : 1000000 ≤ N) (R : RI m u w L σ) (hn : m 52 0 < 512) (h0 : m 51 0 < 100000) (h1 : m 51 1 < 100000) (hq : q < 8) (hwa : w (2 * m 52 0) = nI a) (hwb : w (2 * m 52 0 + 1) = nI b) (ha : a < 2 ^ 20) (hb : b < 2 ^ 20) {K : Int32 → St → Prop}
    (h : ∀ s, RI (mRd m q (wn (nI a) (nI b))) u w L s → KC σ s → sP s 12 0 0 0 = sP σ 12 0 0 0 → K (wn (nI a) (nI b)) s) : rdT N (nI q) K σ := by
  have e52 : sP σ 12 0 52 0 = nI (m 52 0) := R.r 52 0 rfl
  have R1 : RI (mu m 52 0 (m 52 0 + 1)) u w L (stP σ 12 0 52 0 (nI (m 52 0 + 1))) := R.set rfl
  have e52' : sP (stP σ 12 0 52 0 (nI (m 52 0 + 1))) 12 0 52 0 = nI (m 52 0 + 1) := by simp only [sP_stP, Nat.reduceEqDiff, true_and, and_true, false_and, and_false, if_true, if_false, eq_self, and_self, Nat.reduceLT, Nat.reduceLeDiff, Nat.reduceAdd, Nat.reduceMul, Nat.reduceDiv, Nat.one_ne_zero]
  simp (disch := omega) only [rdT, u_br_True, u_br_False, u_jn_u, u_lt_u, u_nn_s, u_brn_s, u_brn_n, ↓li_m1, li_0, li_1, li_2, li_3, li_4, li_5, li_6, li_7, li_8, li_9, li_10, li_12, li_13, li_26, li_40, li_60, li_61, li_62, li_99, li_100, li_102, li_106, li_114, li_112, li_117, li_108, li_103, li_120, li_300, li_360, li_512, li_1000, e52, nI_add, e52', u_n_sub, Nat.add_sub_cancel]
  rw [r_win R1 (by omega) hwa hwb ha hb]
  refine r_pays (up := true) hN R1 wn_is (by rw [mu_ne (by decide)]; exact h0) (by rw [mu_ne (by decide)]; exact h1) ?_
  rw [mu_ne (by decide : 51 ≠ 52), mu_ne (by decide : 51 ≠ 52)]
  have R2 : RI (mu (mu (mu (mu m 52 0 (m 52 0 + 1)) 51 0 (pkN (wn (nI a) (nI b)) true 0 (m 51 0))) 51 1 (pkN (wn (nI a) (nI b)) true 1 (m 51 1))) 55 0 q) u w L (stP (stP (stP (stP σ 12 0 52 0 (nI (m 52 0 + 1))) 12 0 51 0 (nI (pkN (wn (nI a) (nI b)) true 0 (m 51 0)))) 12 0 51 1 (nI (pkN (wn (nI a) (nI b)) true 1 (m 51 1)))) 12 0 55 0 (nI q)) := ((R1.set rfl).set rfl).set rfl
  generalize ea : pkN (wn (nI a) (nI b)) true 0 (m 51 0) = x0 at *
  generalize eb : pkN (wn (nI a) (nI b)) true 1 (m 51 1) = x1 at *
  refine for_u 2 (by omega) (by omega) (fun j s => (j = 0 → s = stP (stP (stP (stP σ 12 0 52 0 (nI (m 52 0 + 1))) 12 0 51 0 (nI x0)) 12 0 51 1 (nI x1)) 12 0 55 0 (nI q)) ∧ (j = 1 → s = stP (stP (stP (stP (stP (stP σ 12 0 52 0 (nI (m 52 0 + 1))) 12 0 51 0 (nI x0)) 12 0 51 1 (nI x1)) 12 0 55 0 (nI q)) 12 0 54 0 (nI (m 46 0))) 12 0 46 0 (nI 0)) ∧ (j = 2 → s = stP (stP (stP (stP (stP (stP (stP (stP σ 12 0 52 0 (nI (m 52 0 + 1))) 12 0 51 0 (nI x0)) 12 0 51 1 (nI x1)) 12 0 55 0 (nI q)) 12 0 54 0 (nI (m 46 0))) 12 0 46 0 (nI 0)) 12 0 54 1 (nI (m 46 1))) 12 0 46 1 (nI 0))) 0 (by omega) (fun self j s hj hI hs => ?_) ⟨fun _ => rfl, fun h => by omega, fun h => by omega⟩
  obtain ⟨i1, i2, i3⟩ := hI
  have r46 : ∀ j, sP σ 12 0 46 j = nI (m 46 j) := fun j => R.r 46 j rfl
  have e : j = 0 ∨ j = 1 ∨ j = 2 := by omega
  rcases e with rfl | rfl | rfl
  · have es := i1 rfl
    subst es
    simp (disch := omega) only [u_br_True, u_br_False, u_jn_u, u_lt_u, u_nn_s, u_brn_s, u_brn_n, nI_add, u_n_mul, u_n_lt, u_n_le, u_n_eq, u_n_sub, u_n_div, u_n_mod, nI_clamp, u_m1, u_m1q, u_wI_n, u_wA_n, u_br_t, u_br_f, sP_stP, Nat.reduceEqDiff, true_and, and_true, false_and, and_false, if_true, if_false, eq_self, and_self, Nat.reduceLT, Nat.reduceLeDiff, Nat.reduceAdd, Nat.reduceMul, Nat.reduceDiv, Nat.one_ne_zero, r46]
    exact hs _ (by decide) ⟨fun h => by omega, fun _ => rfl, fun h => by omega⟩
  · have es := i2 rfl
    subst es
    simp (disch := omega) only [u_br_True, u_br_False, u_jn_u, u_lt_u, u_nn_s, u_brn_s, u_brn_n, nI_add, u_n_mul, u_n_lt, u_n_le, u_n_eq, u_n_sub, u_n_div, u_n_mod, nI_clamp, u_m1, u_m1q, u_wI_n, u_wA_n, u_br_t, u_br_f, sP_stP, Nat.reduceEqDiff, true_and, and_true, false_and, and_false, if_true, if_false, eq_self, and_self, Nat.reduceLT, Nat.reduceLeDiff, Nat.reduceAdd, Nat.reduceMul, Nat.reduceDiv, Nat.one_ne_zero, r46]
    exact hs _ (by decide) ⟨fun h => by omega, fun h => by omega, fun _ => rfl⟩
  · have es := i3 rfl
    subst es
    have R3 : RI (mRd m q (wn (nI a) (nI b))) u w L (stP (stP (stP (stP (stP (stP (stP (stP (stP σ 12 0 52 0 (nI (m 52 0 + 1))) 12 0 51 0 (nI x0)) 12 0 51 1 (nI x1)) 12 0 55 0 (nI q)) 12 0 54 0 (nI (m 46 0))) 12 0 46 0 (nI 0)) 12 0 54 1 (nI (m 46 1))) 12 0 46 1 (nI 0)) 12 0 16 0 (nI 1)) := by
      unfold mRd
      rw [ea, eb]
      exact ((((R2.set rfl).set rfl).set rfl).set rfl).set rfl
    have e9 : sP (stP (stP (stP (stP (stP (stP (stP (stP (stP σ 12 0 52 0 (nI (m 52 0 + 1))) 12 0 51 0 (nI x0)) 12 0 51 1 (nI x1)) 12 0 55 0 (nI q)) 12 0 54 0 (nI (m 46 0))) 12 0 46 0 (nI 0)) 12 0 54 1 (nI (m 46 1))) 12 0 46 1 (nI 0)) 12 0 16 0 (nI 1)) 12 0 52 0 = nI (m 52 0 + 1) := by simp only [sP_stP, Nat.reduceEqDiff, true_and, and_true, false_and, and_false, if_true, if_false, eq_self, and_self, Nat.reduceLT, Nat.reduceLeDiff, Nat.reduceAdd, Nat.reduceMul, Nat.reduceDiv, Nat.one_ne_zero]
    simp (disch := omega) only [u_br_True, u_br_False, u_jn_u, u_lt_u, u_nn_s, u_brn_s, u_brn_n, nI_add, u_n_mul, u_n_lt, u_n_le, u_n_eq, u_n_sub, u_n_div, u_n_mod, nI_clamp, u_m1, u_m1q, u_wI_n, u_wA_n, u_br_t, u_br_f, e9, Nat.add_sub_cancel]
    rw [r_win R3 (by omega) hwa hwb ha hb]
    refine h _ R3 ((((((((((KC.st).trans KC.st).trans KC.st).trans KC.st).trans KC.st).trans KC.st).trans KC.st).trans KC.st)).trans KC.st) ?_
    simp only [sP_stP, Nat.reduceEqDiff, true_and, and_true, false_and, and_false, if_true, if_false, eq_self, and_self, Nat.reduceLT, Nat.reduceLeDiff, Nat.reduceAdd, Nat.reduceMul, Nat.reduceDiv, Nat.one_ne_zero]
end KROUND
