section KAPPEAL
variable {m m' : Nat → Nat → Nat} {u w w' : Nat → Int32} {L L0 L2 : List Nat} {σ σ' σ0 s s2 σ1 : St} {N kk n q p d ban t c k a x i j f b y key F p3 a0 b0 : Nat} {v wi was win p2 : Int32}
theorem cOk_16 : cOk (mu m 16 j x) = cOk m := by
  funext u q g p k
  simp only [cOk, tq_mu (f := 16) (by decide), mu_ne (by decide : 28 ≠ 16), mu_ne (by decide : 29 ≠ 16), mu_ne (by decide : 30 ≠ 16), mu_ne (by decide : 31 ≠ 16)]
theorem jOk_16 : jOk (mu m 16 j x) = jOk m := by
  funext u q g A p k
  simp only [jOk, tq_mu (f := 16) (by decide), mu_ne (by decide : 33 ≠ 16), mu_ne (by decide : 34 ≠ 16), mu_ne (by decide : 35 ≠ 16), mu_ne (by decide : 36 ≠ 16)]
theorem fitM_16 : fitM (mu m 16 j x) = fitM m := by
  funext u q g A p
  simp only [fitM, cOk_16, jOk_16, th_mu (f := 16) (by decide), tq_mu (f := 16) (by decide), mu_ne (by decide : 27 ≠ 16), mu_ne (by decide : 32 ≠ 16)]
theorem wSg_16 : wSg (mu m 16 j x) = wSg m := by
  funext q y
  simp only [wSg, mu_ne (by decide : 30 ≠ 16)]
theorem wTo_16 : wTo (mu m 16 j x) = wTo m := by
  funext u q o place y g
  simp only [wTo, tq_mu (f := 16) (by decide), mu_ne (by decide : 31 ≠ 16), mu_ne (by decide : 33 ≠ 16), mu_ne (by decide : 34 ≠ 16), mu_ne (by decide : 35 ≠ 16), mu_ne (by decide : 36 ≠ 16)]
theorem ixE_16 : ixE (mu m 16 j x) = ixE m := by
  funext u t k s_ told E gn lf
  simp only [ixE, ent_mu (f := 16) (by decide), mu_ne (by decide : 15 ≠ 16)]
theorem itR_16 : itR (mu m 16 j x) = itR m := by
  funext u q o ways ix place g E gn lf
  simp only [itR, ixE_16, wSg_16, wTo_16, tq_mu (f := 16) (by decide), mu_ne (by decide : 3 ≠ 16)]
theorem itm_16 : itm_ (mu m 16 j x) = itm_ m := by
  funext u q ban d place g E
  simp only [itm_, itR_16, plO_mu (f := 16) (by decide), plW_mu (f := 16) (by decide), plI_mu (f := 16) (by decide)]
theorem evG_16 {o : Nat → Nat} {itm : Nat → (Nat → Nat) → (Nat → List (Nat ⊕ (Nat → Nat))) → List (Nat ⊕ (Nat → Nat))} : ∀ e place g, evG (mu m 16 j x) u q o itm e place g = evG m u q o itm e place g
  | 0, _, _ => rfl
  | e + 1, place, g => by
    simp only [evG, fitM_16]
    congr 1
    funext r
    rw [evG_16 e]
theorem evR_16 : evR (mu m 16 j x) u q ban d = evR m u q ban d := by
  simp only [evR, evG_16, itm_16, plO_mu (f := 16) (by decide), mu_ne (by decide : 25 ≠ 16)]
theorem rsC_16 : rsC (mu m 16 j x) u q ban d L = rsC m u q ban d L := by
  have e : vf0 (mu m 16 j x) u q = vf0 m u q := by
    funext g
    simp only [vf0, tq_mu (f := 16) (by decide)]
  simp only [rsC, evR_16, mu_ne (by decide : 19 ≠ 16), e]
def apF (N : Nat) (p1 v17 : Int32) (K : Int32 → St → Prop) (w89 : Int32 → St → Prop) (x19 : Int32) (h18 : St) : Prop :=
  br (2 ≤ x19) (
    z_X12_winnerOf N 0 ((sP h18 12 0 52 0) - 1) h18 fun v21 =>
    z_X12_pays N 0 v17 (-1) h18 fun h22 =>
    z_X12_pays N 0 v21 1 h22 fun h23 =>
    br (v17 = v21) (
      wI 2 p1 <|
      z_X12_most N 0 ((sP h23 12 0 51 (p1).toNatClampNeg) - 1) h23 fun v30 =>
      wA 2 p1 (stP h23 12 0 51 (p1).toNatClampNeg v30) fun h31 =>
      K v21 h31) (
      wI 2 p1 <|
      wA 2 p1 (stP h23 12 0 51 (p1).toNatClampNeg (sP h23 12 0 51 (p1).toNatClampNeg)) fun h27 =>
      K v21 h27)) (
    wI 2 x19 <|
    z_X12_triesCold N 0 x19 (sP h18 12 0 55 0) (sP h18 12 0 54 (x19).toNatClampNeg) h18 fun h35 =>
    wA 1200 ((2 * ((sP h35 12 0 52 0) - 1)) + x19) (stP h35 12 0 53 (((2 * ((sP h35 12 0 52 0) - 1)) + x19)).toNatClampNeg (sP h35 12 0 22 0)) fun h39 =>
    w89 (x19 + 1) h39)
theorem app_eq {p1 : Int32} {K : Int32 → St → Prop} : z_X12_appeal N 0 p1 σ K = (
  lt_ (stP σ 12 0 0 0 0) fun h1 =>
  z_X12_in N p1 0 1 h1 fun v2 =>
  jn (fun (v3 : Int32) =>
    z_X12_fails N 0 v3 1 h1 fun v4 h5 =>
    br (v4 = 0) (
      jn (fun (v7 : Int32) =>
        z_X12_fails N 0 v7 2 h5 fun v8 h9 =>
        br (v8 = 0) (
          wI 2 p1 <|
          jn (fun (v12 : Int32) =>
            z_X12_fails N 0 v12 3 h9 fun v13 h14 =>
            br (v13 = 0) (
              lt_ (stP h14 12 0 16 0 0) fun h15 =>
              z_X12_winnerOf N 0 ((sP h15 12 0 52 0) - 1) h15 fun v17 =>
              fx2 (apF N p1 v17 K) N 0 h15) (
              K (-1) h14)) (fun j62 =>
            br ((sP h9 12 0 51 (p1).toNatClampNeg) = 0) (
              j62 1) (
              j62 0))) (
          K (-1) h9)) (fun j40 =>
        br ((sP h5 12 0 16 0) = 0) (
          j40 1) (
          j40 0))) (
      K (-1) h5)) (fun j20 =>
    br (v2 = 0) (
      j20 1) (
      j20 0))) := rfl
/-- the misses of an appeal's runs -/
def AM (m : Nat → Nat → Nat) (u : Nat → Int32) (d : Nat) : Nat := (rsC m u (m 55 0) (m 54 d) d []).2.1
theorem AM_lt (W : WQ m) (Wt : WT m u) (Wx : WX m) (hq : m 55 0 < m 24 0) : AM m u d < 2 ^ 20 := by
  obtain ⟨h1, h2⟩ := rsC_le (ban := m 54 d) (d := d) (L := []) W Wt Wx hq
  unfold AM
  omega
theorem r_paysA (hN : 1000000 ≤ N) (R : RI m u w L σ) {up : Bool} (hwi : isWi wi) (h0 : m 51 0 < 100000) (h1 : m 51 1 < 100000) {K : St → Prop} (h : ∀ s, RI (mu (mu m 51 0 (pkN wi up 0 (m 51 0))) 51 1 (pkN wi up 1 (m 51 1))) u w L s → KC σ s → sP s 12 0 0 0 = sP σ 12 0 0 0 → K s) : z_X12_pays N 0 wi (sgU up) σ K :=
  r_pays hN R hwi h0 h1 (h _ ((R.set rfl).set rfl) (KC.st.trans KC.st) (by rw [sP_stP, if_neg (fun e => absurd e.2.2.1 (by decide)), sP_stP, if_neg (fun e => absurd e.2.2.1 (by decide))]))
theorem r_appeal (hN : 1000000 ≤ N) (R : RI m u w L σ) (W : WA m u L kk) (hd : d < 2) (h16 : m 16 0 = 1) (hq : m 55 0 < m 24 0) (h0 : 0 < m 25 (m 55 0)) (hn : 0 < m 52 0) (hc : m 51 d ≠ 0) (wa : w (2 * m 52 0 - 2) = nI a0) (wb : w (2 * m 52 0 - 1) = nI b0) (ha : a0 < 2 ^ 20) (hb : b0 < 2 ^ 20) {K : Int32 → St → Prop}
    (h : ∀ s, RI (mAp m d (wn (nI a0) (nI b0)) (wn (nI (AM m u 0)) (nI (AM m u 1)))) u (upd (upd w (2 * m 52 0 - 2) (nI (AM m u 0))) (2 * m 52 0 - 1) (nI (AM m u 1))) L s → KC σ s → sP s 12 0 0 0 = nI 0 → K (wn (nI (AM m u 0)) (nI (AM m u 1))) s) : z_X12_appeal N 0 (nI d) σ K := by
  obtain ⟨WT', WX', WC', WQ', WD'⟩ := W
  have hL : L.length ≤ 12 := by have := WC'.1; have := WC'.2.1; omega
  have hn5 : m 52 0 ≤ 512 := by have := WD'.2.1; have := WD'.2.2.2; omega
  obtain ⟨_, hb0, hc0, _⟩ := WD'.1 0 (by decide)
  obtain ⟨_, hb1, hc1, _⟩ := WD'.1 1 (by decide)
  have hcd := (WD'.1 d hd).2.2.1
  have hkk := WD'.2.2.2
  have M0 := AM_lt (d := 0) WQ' WT' WX' hq
  have M1 := AM_lt (d := 1) WQ' WT' WX' hq
  have w1 := WQ'.1
  have R0 : RI m u w L (stP σ 12 0 0 0 (nI 0)) := R.tmp rfl
  have e16 : sP (stP σ 12 0 0 0 (nI 0)) 12 0 16 0 = nI 1 := by rw [R0.r 16 0 rfl, h16]
  have e51 : sP (stP σ 12 0 0 0 (nI 0)) 12 0 51 d = nI (m 51 d) := R0.r 51 d rfl
  obtain ⟨s1, es1⟩ : ∃ s1, s1 = stP (stP σ 12 0 0 0 (nI 0)) 12 0 16 0 (nI 0) := ⟨_, rfl⟩
  have R1 : RI (mu m 16 0 0) u w L s1 := by rw [es1]; exact R0.set rfl
  have W1 : WA (mu m 16 0 0) u L kk := ⟨by simp (disch := decide) only [WT_mu]; exact WT', by simp (disch := decide) only [WX_mu]; exact WX', by simp (disch := decide) only [WC_mu]; exact WC', by simp (disch := decide) only [WQ_mu]; exact WQ', WD_close WD'⟩
  have f55 : mu m 16 0 0 55 0 = m 55 0 := mu_ne (by decide)
  have f24 : mu m 16 0 0 24 0 = m 24 0 := mu_ne (by decide)
  have f25 : ∀ j, mu m 16 0 0 25 j = m 25 j := fun j => mu_ne (by decide)
  have f54 : ∀ j, mu m 16 0 0 54 j = m 54 j := fun j => mu_ne (by decide)
  have f52 : mu m 16 0 0 52 0 = m 52 0 := mu_ne (by decide)
  have f51 : ∀ j, mu m 16 0 0 51 j = m 51 j := fun j => mu_ne (by decide)
  have e152 : sP s1 12 0 52 0 = nI (m 52 0) := (R1.r 52 0 rfl).trans (by rw [f52])
  have i1 : 2 * (m 52 0 - 1) = 2 * m 52 0 - 2 := by omega
  have i2 : 2 * (m 52 0 - 1) + 1 = 2 * m 52 0 - 1 := by omega
  have rw0 : ∀ {K : Int32 → Prop}, z_X12_winnerOf N 0 (nI (m 52 0 - 1)) s1 K = K (wn (nI a0) (nI b0)) := fun {K} => r_win R1 (by omega) (by rw [i1]; exact wa) (by rw [i2]; exact wb) ha hb
  have k1 : KC σ s1 := by rw [es1]; exact KC.st.trans KC.st
  have z1 : sP s1 12 0 0 0 = nI 0 := by rw [es1]; simp only [sP_stP, Nat.reduceEqDiff, true_and, and_true, false_and, and_false, if_true, if_false, eq_self, and_self, Nat.reduceLT, Nat.reduceLeDiff, Nat.reduceAdd, Nat.reduceMul, Nat.reduceDiv, Nat.one_ne_zero]
  simp (disch := omega) only [app_eq, u_br_True, u_br_False, u_jn_u, u_lt_u, u_nn_s, u_brn_s, u_brn_n, nI_add, u_n_mul, u_n_lt, u_n_le, u_n_eq, u_n_sub, u_n_div, u_n_mod, nI_clamp, u_m1, u_m1q, u_wI_n, u_wA_n, u_br_t, u_br_f, ↓li_m1, li_0, li_1, li_2, li_3, li_4, li_5, li_6, li_7, li_8, li_9, li_10, li_12, li_13, li_26, li_40, li_60, li_61, li_62, li_99, li_100, li_102, li_106, li_114, li_112, li_117, li_108, li_103, li_120, li_300, li_360, li_512, li_1000, r_inT, r_inL, r_inH, r_inPT, r_inPF, b10, b00, f_0, f_1, u_okT, u_nb_0, u_nb_1, e16, e51]
  rw [← es1]
  simp (disch := omega) only [e152, nI_add, u_n_mul, u_n_lt, u_n_le, u_n_eq, u_n_sub, u_n_div, u_n_mod, nI_clamp, u_m1, u_m1q, u_wI_n, u_wA_n, u_br_t, u_br_f, rw0]
  refine for_u 2 (by omega) (by omega) (fun j s => KC σ s ∧ sP s 12 0 0 0 = nI 0 ∧ (j = 0 → RI (mu m 16 0 0) u w L s) ∧ (j = 1 → RI (mu m 16 0 0) u (upd w (2 * m 52 0 - 2) (nI (AM m u 0))) L s) ∧ (j = 2 → RI (mu m 16 0 0) u (upd (upd w (2 * m 52 0 - 2) (nI (AM m u 0))) (2 * m 52 0 - 1) (nI (AM m u 1))) L s)) 0 (by omega) (fun self j s hj hI hs => ?_) ⟨k1, z1, fun _ => R1, fun h => by omega, fun h => by omega⟩
  obtain ⟨j1, j2, j3, j4, j5⟩ := hI
  have cold : ∀ (w9 : Nat → Int32) (x : Nat), x < 2 → RI (mu m 16 0 0) u w9 L s → ∀ {K : St → Prop}, (∀ s2, KC s s2 → RI (mu m 16 0 0) u w9 L s2 → sP s2 12 0 22 0 = nI (AM m u x) → sP s2 12 0 0 0 = sP s 12 0 0 0 → K s2) → z_X12_triesCold N 0 (nI x) (nI (m 55 0)) (nI (m 54 x)) s K := by
    intro w9 x hx Rx K hK
    refine r_cold hN Rx W1 hL (by rw [f24]; exact hq) (by rw [f25]; exact h0) (WD'.1 x hx).2.1 hx (fun s2 a1 a2 a3 a4 a5 => hK s2 a1 a2 ?_ a5)
    rw [a3, rsC_16]
    unfold AM
    rfl
  have e : j = 0 ∨ j = 1 ∨ j = 2 := by omega
  rcases e with rfl | rfl | rfl
  · have Rj := j3 rfl
    have e55 : sP s 12 0 55 0 = nI (m 55 0) := (Rj.r 55 0 rfl).trans (by rw [f55])
    have e54 : sP s 12 0 54 0 = nI (m 54 0) := (Rj.r 54 0 rfl).trans (by rw [f54])
    simp (disch := omega) only [apF, u_br_True, u_br_False, u_jn_u, u_lt_u, u_nn_s, u_brn_s, u_brn_n, nI_add, u_n_mul, u_n_lt, u_n_le, u_n_eq, u_n_sub, u_n_div, u_n_mod, nI_clamp, u_m1, u_m1q, u_wI_n, u_wA_n, u_br_t, u_br_f, ↓li_m1, li_0, li_1, li_2, li_3, li_4, li_5, li_6, li_7, li_8, li_9, li_10, li_12, li_13, li_26, li_40, li_60, li_61, li_62, li_99, li_100, li_102, li_106, li_114, li_112, li_117, li_108, li_103, li_120, li_300, li_360, li_512, li_1000, e55, l0c, e54]
    refine cold w 0 (by decide) Rj (fun s2 a1 a2 a3 a4 => ?_)
    have e52 : sP s2 12 0 52 0 = nI (m 52 0) := (a2.r 52 0 rfl).trans (by rw [f52])
    simp (disch := omega) only [u_br_True, u_br_False, u_jn_u, u_lt_u, u_nn_s, u_brn_s, u_brn_n, nI_add, u_n_mul, u_n_lt, u_n_le, u_n_eq, u_n_sub, u_n_div, u_n_mod, nI_clamp, u_m1, u_m1q, u_wI_n, u_wA_n, u_br_t, u_br_f, ↓li_m1, li_0, li_1, li_2, li_3, li_4, li_5, li_6, li_7, li_8, li_9, li_10, li_12, li_13, li_26, li_40, li_60, li_61, li_62, li_99, li_100, li_102, li_106, li_114, li_112, li_117, li_108, li_103, li_120, li_300, li_360, li_512, li_1000, e52, a3, Nat.add_zero, i1]
    exact hs _ (by decide) ⟨(j1.trans a1).trans KC.st, by rw [sP_stP, if_neg (fun e => absurd e.2.2.1 (by decide))]; exact a4.trans j2, fun h => by omega, fun _ => a2.miss, fun h => by omega⟩
  · have Rj := j4 rfl
    have e55 : sP s 12 0 55 0 = nI (m 55 0) := (Rj.r 55 0 rfl).trans (by rw [f55])
    have e54 : sP s 12 0 54 1 = nI (m 54 1) := (Rj.r 54 1 rfl).trans (by rw [f54])
    simp (disch := omega) only [apF, u_br_True, u_br_False, u_jn_u, u_lt_u, u_nn_s, u_brn_s, u_brn_n, nI_add, u_n_mul, u_n_lt, u_n_le, u_n_eq, u_n_sub, u_n_div, u_n_mod, nI_clamp, u_m1, u_m1q, u_wI_n, u_wA_n, u_br_t, u_br_f, ↓li_m1, li_0, li_1, li_2, li_3, li_4, li_5, li_6, li_7, li_8, li_9, li_10, li_12, li_13, li_26, li_40, li_60, li_61, li_62, li_99, li_100, li_102, li_106, li_114, li_112, li_117, li_108, li_103, li_120, li_300, li_360, li_512, li_1000, e55, e54]
    refine cold _ 1 (by decide) Rj (fun s2 a1 a2 a3 a4 => ?_)
    have e52 : sP s2 12 0 52 0 = nI (m 52 0) := (a2.r 52 0 rfl).trans (by rw [f52])
    simp (disch := omega) only [u_br_True, u_br_False, u_jn_u, u_lt_u, u_nn_s, u_brn_s, u_brn_n, nI_add, u_n_mul, u_n_lt, u_n_le, u_n_eq, u_n_sub, u_n_div, u_n_mod, nI_clamp, u_m1, u_m1q, u_wI_n, u_wA_n, u_br_t, u_br_f, ↓li_m1, li_0, li_1, li_2, li_3, li_4, li_5, li_6, li_7, li_8, li_9, li_10, li_12, li_13, li_26, li_40, li_60, li_61, li_62, li_99, li_100, li_102, li_106, li_114, li_112, li_117, li_108, li_103, li_120, li_300, li_360, li_512, li_1000, e52, a3, i2]
    exact hs _ (by decide) ⟨(j1.trans a1).trans KC.st, by rw [sP_stP, if_neg (fun e => absurd e.2.2.1 (by decide))]; exact a4.trans j2, fun h => by omega, fun h => by omega, fun _ => a2.miss⟩
  · have Rj := j5 rfl
    have e52 : sP s 12 0 52 0 = nI (m 52 0) := (Rj.r 52 0 rfl).trans (by rw [f52])
    have rw9 : ∀ {K : Int32 → Prop}, z_X12_winnerOf N 0 (nI (m 52 0 - 1)) s K = K (wn (nI (AM m u 0)) (nI (AM m u 1))) := fun {K} => r_win Rj (by omega) (by rw [i1]; unfold upd; rw [if_neg (by omega), if_pos rfl]) (by rw [i2]; unfold upd; rw [if_pos rfl]) M0 M1
    simp (disch := omega) only [apF, u_br_True, u_br_False, u_jn_u, u_lt_u, u_nn_s, u_brn_s, u_brn_n, nI_add, u_n_mul, u_n_lt, u_n_le, u_n_eq, u_n_sub, u_n_div, u_n_mod, nI_clamp, u_m1, u_m1q, u_wI_n, u_wA_n, u_br_t, u_br_f, ↓li_m1, li_0, li_1, li_2, li_3, li_4, li_5, li_6, li_7, li_8, li_9, li_10, li_12, li_13, li_26, li_40, li_60, li_61, li_62, li_99, li_100, li_102, li_106, li_114, li_112, li_117, li_108, li_103, li_120, li_300, li_360, li_512, li_1000, e52, rw9]
    refine r_paysA (up := false) hN Rj wn_is (by rw [f51]; omega) (by rw [f51]; omega) (fun s3 R3 k3 z3 => ?_)
    rw [f51, f51] at R3
    have g0 : mu (mu (mu m 16 0 0) 51 0 (pkN (wn (nI a0) (nI b0)) false 0 (m 51 0))) 51 1 (pkN (wn (nI a0) (nI b0)) false 1 (m 51 1)) 51 0 = pkN (wn (nI a0) (nI b0)) false 0 (m 51 0) := by rw [mu_nj (by decide), mu_eq]
    have g1 : mu (mu (mu m 16 0 0) 51 0 (pkN (wn (nI a0) (nI b0)) false 0 (m 51 0))) 51 1 (pkN (wn (nI a0) (nI b0)) false 1 (m 51 1)) 51 1 = pkN (wn (nI a0) (nI b0)) false 1 (m 51 1) := mu_eq
    have p0 := pkD_le (wi := wn (nI a0) (nI b0)) (d := 0) (c := m 51 0)
    have p1 := pkD_le (wi := wn (nI a0) (nI b0)) (d := 1) (c := m 51 1)
    refine r_paysA (up := true) hN R3 wn_is (by rw [g0]; omega) (by rw [g1]; omega) (fun s4 R4 k4' z4' => ?_)
    rw [g0, g1] at R4
    have k4 : KC σ s4 := (j1.trans k3).trans k4'
    have z4 : sP s4 12 0 0 0 = nI 0 := (z4'.trans z3).trans j2
    have v4 : sP s4 12 0 51 d = nI (pkN (wn (nI (AM m u 0)) (nI (AM m u 1))) true d (pkN (wn (nI a0) (nI b0)) false d (m 51 d))) := by
      rw [R4.r 51 d rfl]
      have e : d = 0 ∨ d = 1 := by omega
      rcases e with rfl | rfl
      · rw [mu_nj (by decide), mu_eq]
      · rw [mu_eq]
    have ple := pkN_le (wi := wn (nI (AM m u 0)) (nI (AM m u 1))) (d := d) (c := pkN (wn (nI a0) (nI b0)) false d (m 51 d))
    have ple2 := pkD_le (wi := wn (nI a0) (nI b0)) (d := d) (c := m 51 d)
    have fin_ : ∀ x, x = cAp m d (wn (nI a0) (nI b0)) (wn (nI (AM m u 0)) (nI (AM m u 1))) d → K (wn (nI (AM m u 0)) (nI (AM m u 1))) (stP s4 12 0 51 d (nI x)) := by
      intro x hx
      subst hx
      refine h _ (R4.set rfl) (k4.trans KC.st) ?_
      rw [sP_stP, if_neg (fun e => absurd e.2.2.1 (by decide))]
      exact z4
    by_cases he : wn (nI a0) (nI b0) = wn (nI (AM m u 0)) (nI (AM m u 1))
    · rw [u_br_t he]
      simp (disch := omega) only [u_br_True, u_br_False, u_jn_u, u_lt_u, u_nn_s, u_brn_s, u_brn_n, u_wI_n, nI_clamp, v4, r_mostM, u_wA_n]
      refine fin_ _ ?_
      unfold cAp
      rw [if_pos ⟨rfl, he.symm⟩]
    · rw [u_br_f he]
      simp (disch := omega) only [u_br_True, u_br_False, u_jn_u, u_lt_u, u_nn_s, u_brn_s, u_brn_n, u_wI_n, nI_clamp, v4, u_wA_n]
      refine fin_ _ ?_
      unfold cAp
      rw [if_neg (fun h => he h.2.symm)]
end KAPPEAL
