section REMOVE
variable {m m' : Nat → Nat → Nat} {u u' w : Nat → Int32} {L L' E : List Nat} {σ σ' σ1 σ2 : St} {N kk t c k n F key row lo hi : Nat} {a b d v : Int32}
def mRe (m : Nat → Nat → Nat) (t row : Nat) : Nat → Nat → Nat := mu (mu m 16 0 0) 4 (40 * t + row) 0
theorem mRe_o {f j : Nat} (h2 : f ≠ 4) (h4 : f ≠ 16) : mRe m t row f j = m f j := by
  simp [mRe, mu, h2, h4]
theorem mRe_4 {j : Nat} : mRe m t row 4 j = if j = 40 * t + row then 0 else m 4 j := by simp [mRe, mu]
theorem th_re {t' r : Nat} (hr : r < 40) (hrow : row < 40) : th (mRe m t row) t' r = (th m t' r && !(t' == t && r == row)) := by
  simp only [th, mRe_4]
  by_cases e : t' = t ∧ r = row
  · obtain ⟨rfl, rfl⟩ := e
    simp
  · rw [if_neg (by omega)]
    have : (t' == t && r == row) = false := by
      rw [Bool.and_eq_false_iff, beq_eq_false_iff_ne, beq_eq_false_iff_ne]
      omega
    rw [this]
    simp
theorem WT_re (W : WT m u) (hrow : row < 40) : WT (mRe m t row) u := by
  obtain ⟨w1, w2, w3, w4, w5, w6, w7, w8, w9, w10, w11⟩ := W
  have o : ∀ f j, f ≠ 4 → f ≠ 16 → mRe m t row f j = m f j := fun f j a b => mRe_o a b
  unfold WT
  simp (disch := decide) only [o]
  refine ⟨w1, w2, w3, w4, ?_, ?_, w7, w8, w9, w10, w11⟩
  · intro t' r ht' hr
    rw [mRe_4]
    have := w5 t' r ht' hr
    split <;> omega
  · intro t' r ht' hr hle
    rw [mRe_4]
    have := w6 t' r ht' hr hle
    split <;> omega
theorem SameX_re : SameX m (mRe m t row) := fun f hf j => by
  refine mRe_o ?_ ?_ <;> (intro h9; subst h9; revert hf; decide)
theorem liv_re (hrow : row < 40) (h : th m t row = true) {t' : Nat} : (t' ≠ t → liv (mRe m t row) t' = liv m t') ∧ liv (mRe m t row) t + 1 = liv m t := by
  refine ⟨fun e => ?_, ?_⟩
  · simp only [liv]
    congr 1
    refine List.filter_congr (fun r hr => ?_)
    rw [th_re (List.mem_range.mp hr) hrow]
    simp [e]
  · have h : ∀ n, n ≤ 40 → livN (mRe m t row) t n + (if row < n then 1 else 0) = livN m t n := by
      intro n
      induction n with
      | zero => intro _; simp [livN]
      | succ n ih =>
        intro hn
        rw [livN_s, livN_s, ← ih (by omega), th_re (by omega) hrow]
        by_cases e2 : n = row
        · have a1 : (if row < n then 1 else 0 : Nat) = 0 := if_neg (by omega)
          have a2 : (if row < n + 1 then 1 else 0 : Nat) = 1 := if_pos (by omega)
          have a3 : (t == t && n == row) = true := by simp [e2]
          have a4 : th m t n = true := by rw [e2]; exact h
          rw [a1, a2, a3, a4]
          simp
        · have : (t == t && n == row) = false := by simp [e2]
          rw [this]
          simp only [Bool.not_false, Bool.and_true]
          by_cases e3 : row < n
          · have a1 : (if row < n then 1 else 0 : Nat) = 1 := if_pos e3
            have a2 : (if row < n + 1 then 1 else 0 : Nat) = 1 := if_pos (by omega)
            rw [a1, a2]; omega
          · have a1 : (if row < n then 1 else 0 : Nat) = 0 := if_neg e3
            have a2 : (if row < n + 1 then 1 else 0 : Nat) = 0 := if_neg (by omega)
            rw [a1, a2]; omega
    have := h 40 (Nat.le_refl _)
    rw [if_pos hrow] at this
    exact this
theorem ent_re (W : WT m u) (hrow : row < 40) {t' : Nat} (hc2 : c < m 2 t') (ht' : t' < m 1 0) :
    (t' ≠ t → ent (mRe m t row) u t' c = ent m u t' c) ∧ (t' = t → ent (mRe m t row) u t c = (ent m u t c).filter (fun r => !(r == row))) := by
  refine ⟨fun e => ?_, fun e => ?_⟩
  · refine eN_same (fun r hr => ⟨?_, fun _ => rfl⟩)
    rw [th_re hr hrow]; simp [e]
  · subst e
    refine eN_del (W.vg ht' hc2) (fun r hr => ?_)
    rw [th_re hr hrow]
    simp
theorem c_remove (hN : 1000000 ≤ N) (C : C0 σ) (T : CT m u σ) (X : CX m u σ) (Cc : CC m L σ) (W : WT m u) (Wx : WX m) (Wc : WC m L) (ht : t < m 1 0) (hrow : row < 40) (hth : th m t row = true) {K : Int32 → St → Prop} {KX : String → St → Prop}
    (h : ∀ σ', CT (mRe m t row) u σ' → CX (mRe m t row) u σ' → CC (mRe m t row) (L.filter (gd m t row)) σ' → FI σ σ' → K (nI (liv (mRe m t row) t)) (stP σ' 2 0 5 0 (nI 0))) : z_X11_remove N 0 (nI t) (nI row) σ K KX := by
  have hn := W.nt
  have hx6 := Wx.1
  have W' := WT_re (t := t) W hrow
  have T1 := T.2.2.2 t ht
  have hC := C
  unfold C0 at hC
  have hl := liv_re (t' := t) hrow hth
  have hl2 := livN_le (m := m) (t := t) (n := 40)
  have hl3 : liv m t ≤ 40 := hl2
  have k1 : K10 σ (stP (stP σ 10 t 4 row (nI 0)) 10 t 3 0 (nI (liv m t - 1))) := (K10.refl.st).st
  have T' : CT (mRe m t row) u (stP (stP σ 10 t 4 row (nI 0)) 10 t 3 0 (nI (liv m t - 1))) := by
    obtain ⟨a1, a2, a3, a4⟩ := T
    unfold CT
    rw [mRe_o (by decide) (by decide)]
    refine ⟨by simp [sP_stP, a1], by simp [sV_stP, a2], fun t' ht' => by simp [sQ_stP, a3 t' ht'], fun t' ht' => ?_⟩
    have o : ∀ f j, f ≠ 4 → f ≠ 16 → mRe m t row f j = m f j := fun f j a b => mRe_o a b
    obtain ⟨s1, s2, s3, s4, s5, s6, s7, s8, s9, s10, s11, s12, s13⟩ := a4 t' ht'
    unfold CT1
    simp (disch := decide) only [o]
    refine ⟨by simp [sP_stP, s1], by simp [sP_stP, s2], by simp [sP_stP, s3], ?_, ?_, fun r c' hr hc' => by simp [sP_stP, s6 r c' hr hc'], fun c' hc' => by simp [sP_stP, s7 c' hc'], fun c' hc' => by simp [sP_stP, s8 c' hc'], by simp [sP_stP, s9], by simp [sP_stP, s10], fun c' hc' => by simp [sP_stP, s11 c' hc'], fun c' hc' => by simp [sP_stP, s12 c' hc'], fun c' hc' => by simp [sP_stP, s13 c' hc']⟩
    · by_cases e : t' = t
      · subst e
        rw [show liv (mRe m t' row) t' = liv m t' - 1 by omega]
        simp [sP_stP]
      · rw [(liv_re hrow hth).1 e]
        simp [sP_stP, e, s4]
    · intro r hr
      rw [mRe_4]
      simp only [sP_stP, Nat.reduceEqDiff, true_and, and_true, false_and, and_false, if_true, if_false, eq_self, and_self, Nat.reduceLT, Nat.reduceLeDiff, Nat.reduceAdd, Nat.reduceMul, Nat.reduceDiv, Nat.one_ne_zero]
      by_cases e : t' = t ∧ r = row
      · rw [if_pos e, if_pos (by omega)]
      · rw [if_neg e, if_neg (by omega)]
        exact s5 r hr
  have X1 : ∀ k, k < m 13 0 → XO (stP (stP σ 10 t 4 row (nI 0)) 10 t 3 0 (nI (liv m t - 1))) k (m 14 k) (m 15 k) (ent m u (m 14 k) (m 15 k)) ∧ sP (stP (stP σ 10 t 4 row (nI 0)) 10 t 3 0 (nI (liv m t - 1))) 3 k 0 0 = nI k := fun k hk => by
    obtain ⟨x1, x2, x3, x4⟩ := (X.2.2.2 k hk).xo
    refine ⟨⟨by rw [k1.2.2.1]; exact x1, by rw [k1.1 3 _ _ _ (by decide)]; exact x2, by rw [k1.1 3 _ _ _ (by decide)]; exact x3, fun j hj => by rw [k1.1 3 _ _ _ (by decide)]; exact x4 j hj⟩, ?_⟩
    rw [k1.1 3 _ _ _ (by decide)]
    exact (X.2.2.2 k hk).1
  have q9 : ∀ k, k < 6 → sQ (stP (stP σ 10 t 4 row (nI 0)) 10 t 3 0 (nI (liv m t - 1))) 9 0 2 k = if k < m 13 0 then some k else none := fun k hk => by rw [k1.2.2.1]; exact X.2.2.1 k hk
  simp (disch := omega) only [z_X11_remove, c_needT C T W ht, u_br_True, u_br_False, u_jn_u, u_lt_u, u_nn_s, u_brn_s, u_brn_n, nI_add, u_n_mul, u_n_lt, u_n_le, u_n_eq, u_n_sub, u_n_div, u_n_mod, nI_clamp, u_m1, u_m1q, u_wI_n, u_wA_n, u_br_t, u_br_f, ↓li_m1, li_0, li_1, li_2, li_3, li_4, li_5, li_6, li_7, li_8, li_9, li_10, li_12, li_13, li_26, li_40, li_60, li_61, li_62, li_99, li_100, li_102, li_106, li_114, li_112, li_117, li_108, li_103, li_120, li_300, li_360, li_512, li_1000, c_hasR T1 W (by omega : t < 3) hrow, hth, Nat.reduceEqDiff, true_and, and_true, false_and, and_false, if_true, if_false, eq_self, and_self, Nat.reduceLT, Nat.reduceLeDiff, Nat.reduceAdd, Nat.reduceMul, Nat.reduceDiv, Nat.one_ne_zero, b10, b00, f_0, f_1, u_okT, u_nb_0, u_nb_1, hC, z_X9_dropRow, z_X10_dropRow, sP_stP, T1.2.2.2.1, u_vn_0]
  generalize hg : stP (stP σ 10 t 4 row (nI 0)) 10 t 3 0 (nI (liv m t - 1)) = s1 at k1 T' X1 q9 ⊢
  clear hg
  refine for_u 6 (by omega) (by omega) (fun i s => K3a s1 s ∧ ∀ k, k < m 13 0 → XO s k (m 14 k) (m 15 k) (if k < i then ent (mRe m t row) u (m 14 k) (m 15 k) else ent m u (m 14 k) (m 15 k))) 0 (by omega) (fun self i s hi hI hs => ?_) ⟨K3a.refl, fun k hk => by rw [if_neg (by omega)]; exact (X1 k hk).1⟩
  obtain ⟨i1, i2⟩ := hI
  by_cases hl9 : i < 6
  · have q := q9 i hl9
    rw [← i1.2.2.1] at q
    by_cases hi3 : i < m 13 0
    · rw [if_pos hi3] at q
      obtain ⟨hx1, hx2⟩ := Wx.2 i hi3
      have Xi := i2 i hi3
      rw [if_neg (by omega)] at Xi
      obtain ⟨en, ee⟩ := ent_re (t := t) W hrow hx2 hx1
      by_cases hkt : m 14 i = t
      · have ee := ee hkt
        simp (disch := omega) only [z_X3_isOf, u_br_True, u_br_False, u_jn_u, u_lt_u, u_nn_s, u_brn_s, u_brn_n, nI_add, u_n_mul, u_n_lt, u_n_le, u_n_eq, u_n_sub, u_n_div, u_n_mod, nI_clamp, u_m1, u_m1q, u_wI_n, u_wA_n, u_br_t, u_br_f, ↓li_m1, li_0, li_1, li_2, li_3, li_4, li_5, li_6, li_7, li_8, li_9, li_10, li_12, li_13, li_26, li_40, li_60, li_61, li_62, li_99, li_100, li_102, li_106, li_114, li_112, li_117, li_108, li_103, li_120, li_300, li_360, li_512, li_1000, b10, b00, f_0, f_1, u_okT, u_nb_0, u_nb_1, q, Xi.1, hkt]
        rw [hkt] at Xi hx2
        have V := W.vg ht hx2
        refine c_dropX hN Xi (ent_len40 W ht hx2) (fun r hr => ((mem_eN V (Nat.le_refl _)).mp hr).1) hrow (fun s' X' hK' => ?_)
        refine hs _ hl9 ⟨i1.of hK', fun k hk => ?_⟩
        by_cases hki : k = i
        · subst hki
          rw [if_pos (by omega), hkt, ee]
          exact X'
        · have := i2 k hk
          have e5 : (k < i + 1) = (k < i) := by apply propext; omega
          simp only [e5]
          exact this.k3 hK' hki
      · simp (disch := omega) only [z_X3_isOf, u_br_True, u_br_False, u_jn_u, u_lt_u, u_nn_s, u_brn_s, u_brn_n, nI_add, u_n_mul, u_n_lt, u_n_le, u_n_eq, u_n_sub, u_n_div, u_n_mod, nI_clamp, u_m1, u_m1q, u_wI_n, u_wA_n, u_br_t, u_br_f, ↓li_m1, li_0, li_1, li_2, li_3, li_4, li_5, li_6, li_7, li_8, li_9, li_10, li_12, li_13, li_26, li_40, li_60, li_61, li_62, li_99, li_100, li_102, li_106, li_114, li_112, li_117, li_108, li_103, li_120, li_300, li_360, li_512, li_1000, b10, b00, f_0, f_1, u_okT, u_nb_0, u_nb_1, q, Xi.1, Option.some.injEq, u_br_f hkt]
        refine hs _ hl9 ⟨i1, fun k hk => ?_⟩
        by_cases hki : k = i
        · subst hki
          rw [if_pos (by omega), en hkt]
          exact Xi
        · have e5 : (k < i + 1) = (k < i) := by apply propext; omega
          simp only [e5]
          exact i2 k hk
    · rw [if_neg hi3] at q
      simp (disch := omega) only [u_br_True, u_br_False, u_jn_u, u_lt_u, u_nn_s, u_brn_s, u_brn_n, nI_add, u_n_mul, u_n_lt, u_n_le, u_n_eq, u_n_sub, u_n_div, u_n_mod, nI_clamp, u_m1, u_m1q, u_wI_n, u_wA_n, u_br_t, u_br_f, ↓li_m1, li_0, li_1, li_2, li_3, li_4, li_5, li_6, li_7, li_8, li_9, li_10, li_12, li_13, li_26, li_40, li_60, li_61, li_62, li_99, li_100, li_102, li_106, li_114, li_112, li_117, li_108, li_103, li_120, li_300, li_360, li_512, li_1000, q]
      refine hs _ hl9 ⟨i1, fun k hk => ?_⟩
      have := i2 k hk
      rw [if_pos (by omega)] at this
      rw [if_pos (by omega)]
      exact this
  · have hi6 : i = 6 := by omega
    subst hi6
    have f1 : FI σ s := k1.fi.trans i1.fi
    have Cs := f1.c0 C
    have sx : ∀ k' i' f j, k' ≠ 3 → k' ≠ 10 → sP s k' i' f j = sP σ k' i' f j := fun k' i' f j h3 h10 => (i1.1 k' i' f j (fun e => h3 e.1)).trans (k1.1 k' i' f j h10)
    simp (disch := omega) only [u_br_True, u_br_False, u_jn_u, u_lt_u, u_nn_s, u_brn_s, u_brn_n, nI_add, u_n_mul, u_n_lt, u_n_le, u_n_eq, u_n_sub, u_n_div, u_n_mod, nI_clamp, u_m1, u_m1q, u_wI_n, u_wA_n, u_br_t, u_br_f, ↓li_m1, li_0, li_1, li_2, li_3, li_4, li_5, li_6, li_7, li_8, li_9, li_10, li_12, li_13, li_26, li_40, li_60, li_61, li_62, li_99, li_100, li_102, li_106, li_114, li_112, li_117, li_108, li_103, li_120, li_300, li_360, li_512, li_1000]
    have hck := Wc.ck Wx
    have hnum : sP s 10 t 0 0 = nI t := by
      rw [i1.1 10 _ _ _ (fun e => absurd e.1 (by decide))]
      exact (T'.2.2.2 t (by rw [mRe_o (by decide) (by decide)]; exact ht)).1
    refine c_forget (m := m) hN Cs (Cc.co.fr (fun i f j => sx 0 i f j (by decide) (by decide))) (by have := hck.1; have := hck.2.1; omega) hck.2.2.2 Wx (by omega) hrow hnum (fun k hk => by rw [i1.2.2.1]; exact q9 k hk) (fun k hk => ⟨(i2 k hk).1, by rw [i1.1 3 _ _ _ (by omega)]; exact (X1 k hk).2⟩) (fun s' X' hK' => ?_)
    have f2 : FI σ s' := f1.trans (FI.of0 hK')
    have Cs2 := f2.c0 C
    unfold C0 at Cs2
    have z0 : ∀ k' i f j, k' ≠ 0 → sP s' k' i f j = sP s k' i f j := fun k' i f j hne => hK'.1 k' i f j (fun e => hne e.1)
    have Ts' : CT (mRe m t row) u s' := T'.fr (fun i f j => (z0 10 i f j (by decide)).trans (i1.1 10 i f j (fun e => absurd e.1 (by decide)))) (fun i f j => (z0 9 i f j (by decide)).trans (i1.1 9 i f j (fun e => absurd e.1 (by decide)))) (hK'.2.2.1.trans i1.2.2.1) (hK'.2.2.2.2.trans i1.2.2.2.2)
    have e3 := (Ts'.2.2.2 t (by rw [mRe_o (by decide) (by decide)]; exact ht)).2.2.2.1
    simp (disch := omega) only [z_X2_closeAppeals, z_X10_rowCount, Cs2, u_br_True, u_br_False, u_jn_u, u_lt_u, u_nn_s, u_brn_s, u_brn_n, ↓li_m1, li_0, li_1, li_2, li_3, li_4, li_5, li_6, li_7, li_8, li_9, li_10, li_12, li_13, li_26, li_40, li_60, li_61, li_62, li_99, li_100, li_102, li_106, li_114, li_112, li_117, li_108, li_103, li_120, li_300, li_360, li_512, li_1000, sP_stP, Nat.reduceEqDiff, true_and, and_true, false_and, and_false, if_true, if_false, eq_self, and_self, Nat.reduceLT, Nat.reduceLeDiff, Nat.reduceAdd, Nat.reduceMul, Nat.reduceDiv, Nat.one_ne_zero, e3]
    have CXs : CX (mRe m t row) u s := by
      unfold CX
      rw [mRe_o (by decide) (by decide)]
      refine ⟨by rw [sx 9 _ _ _ (by decide) (by decide)]; exact X.1, by rw [i1.2.2.2.2, k1.2.2.2.2]; exact X.2.1, fun k hk => by rw [i1.2.2.1]; exact q9 k hk, fun k hk => ?_⟩
      refine CX1.of ?_ ?_
      · have := i2 k hk
        rw [if_pos (by omega)] at this
        rw [mRe_o (f := 14) (by decide) (by decide), mRe_o (f := 15) (by decide) (by decide)]
        exact this
      · rw [i1.1 3 _ _ _ (by omega)]; exact (X1 k hk).2
    refine h s' Ts' ?_ ?_ f2
    · exact CXs.fr (fun i f j => z0 3 i f j (by decide)) (fun i f j => z0 9 i f j (by decide)) hK'.2.2.1 hK'.2.2.2.2
    · refine CC.of ?_
      rw [mRe_o (by decide) (by decide), ← gi_gd Wc Wx (by omega) hrow]
      exact X'
theorem gd_re {r : Nat} : gd (mRe m t r) k row = gd m k row := by
  funext x
  simp only [gd, mRe_o (m := m) (t := t) (f := 14) (by decide) (by decide)]
theorem r_remove (hN : 1000000 ≤ N) (R : RI m u w L σ) (W : WT m u) (Wx : WX m) (Wc : WC m L) (ht : t < m 1 0) (hrow : row < 40) (hth : th m t row = true) {K : Int32 → St → Prop}
    (h : ∀ σ', RI (mRe m t row) u w (L.filter (gd m t row)) σ' → KC σ σ' → sP σ' 12 0 0 0 = nI 0 → K (nI (liv (mRe m t row) t)) σ') : z_X12_remove N 0 (nI t) (nI row) σ K := by
  have hn := W.nt
  have R0 : RI m u w L (stP σ 12 0 0 0 (nI 0)) := R.tmp rfl
  simp (disch := omega) only [z_X12_remove, r_isT R0 W ht, r_hasR R0 W (by omega : t < 3) hrow, hth, u_br_True, u_br_False, u_jn_u, u_lt_u, u_nn_s, u_brn_s, u_brn_n, nI_add, u_n_mul, u_n_lt, u_n_le, u_n_eq, u_n_sub, u_n_div, u_n_mod, nI_clamp, u_m1, u_m1q, u_wI_n, u_wA_n, u_br_t, u_br_f, ↓li_m1, li_0, li_1, li_2, li_3, li_4, li_5, li_6, li_7, li_8, li_9, li_10, li_12, li_13, li_26, li_40, li_60, li_61, li_62, li_99, li_100, li_102, li_106, li_114, li_112, li_117, li_108, li_103, li_120, li_300, li_360, li_512, li_1000, b10, b00, f_0, f_1, u_okT, u_nb_0, u_nb_1, Nat.reduceEqDiff, true_and, and_true, false_and, and_false, if_true, if_false, eq_self, and_self, Nat.reduceLT, Nat.reduceLeDiff, Nat.reduceAdd, Nat.reduceMul, Nat.reduceDiv, Nat.one_ne_zero, u_vn_0]
  have Rm : RI (mRe m t row) u w L (stP (stP (stP σ 12 0 0 0 (nI 0)) 12 0 16 0 (nI 0)) 12 0 4 (40 * t + row) (nI 0)) := ((R0).set (f := 16) rfl).set (f := 4) rfl
  refine r_forgets hN Rm (SameX_re.wc Wc) (SameX_re.wx Wx) (by rw [mRe_o (by decide) (by decide)]; exact hn) (by omega) hrow (fun σ' R' k' => ?_)
  rw [gd_re] at R'
  refine r_there hN R' (WT_re W hrow) (by omega) ?_
  refine h σ' R' (((KC.st.trans KC.st).trans KC.st).trans k'.kc) ?_
  rw [k'.f (by decide)]
  simp (disch := decide) only [sP_o, sP_e]
theorem r_remove2 (R : RI m u w L σ) (W : WT m u) {p2 : Int32} (ht : t < m 1 0) (h : NoR m t p2) {K : Int32 → St → Prop} : z_X12_remove N 0 (nI t) p2 σ K = K mI (stP σ 12 0 0 0 (nI 2)) := by
  have R0 : RI m u w L (stP σ 12 0 0 0 (nI 0)) := R.tmp rfl
  have := W.nt
  simp (disch := omega) only [z_X12_remove, r_isT R0 W ht, r_noR R0 W (by omega : t < 3) h, u_br_True, u_br_False, u_jn_u, u_lt_u, u_nn_s, u_brn_s, u_brn_n, ↓li_m1, li_0, li_1, li_2, li_3, li_4, li_5, li_6, li_7, li_8, li_9, li_10, li_12, li_13, li_26, li_40, li_60, li_61, li_62, li_99, li_100, li_102, li_106, li_114, li_112, li_117, li_108, li_103, li_120, li_300, li_360, li_512, li_1000, b10, b00, f_0, f_1, u_okT, u_nb_0, u_nb_1]
theorem r_remove1 (R : RI m u w L σ) (W : WT m u) {p p2 : Int32} (hp : Out p (m 1 0)) {K : Int32 → St → Prop} : z_X12_remove N 0 p p2 σ K = K mI (stP σ 12 0 0 0 (nI 1)) := by
  have R0 : RI m u w L (stP σ 12 0 0 0 (nI 0)) := R.tmp rfl
  simp (disch := omega) only [z_X12_remove, r_isTO R0 W hp, u_br_True, u_br_False, u_jn_u, u_lt_u, u_nn_s, u_brn_s, u_brn_n, ↓li_m1, li_0, li_1, li_2, li_3, li_4, li_5, li_6, li_7, li_8, li_9, li_10, li_12, li_13, li_26, li_40, li_60, li_61, li_62, li_99, li_100, li_102, li_106, li_114, li_112, li_117, li_108, li_103, li_120, li_300, li_360, li_512, li_1000, b10, b00, f_0, f_1, u_okT, u_nb_0, u_nb_1]
theorem k_remove (hN : 1000000 ≤ N) (I : Inv kk σ) (hk : kk < 512) (p p2 : Int32) {T : Int32 → Int32 → St → Prop} (hT : ∀ code b σ2, G (kk + 1) code b σ2 → T code b σ2) : z_L_remove N (some 0) p p2 σ (fun code σ1 => z_X12_remove N 0 p p2 σ1 (fun b σ2 => T code b σ2)) := by
  have I0 := I
  obtain ⟨m, u, w, L, R, C, W⟩ := I
  have C1 := C
  have W1 := W
  obtain ⟨C0', CT', CX', CC', CQ', CD', CP'⟩ := C
  obtain ⟨WT', WX', WC', WQ', WD'⟩ := W
  have hn := WT'.nt
  rcases u_io p (m 1 0) with ⟨t, ht, _, rfl⟩ | hp
  · have hT1 := CT'.2.2.2 t ht
    rcases row_cases m t p2 with ⟨row, hrow, rfl, hth⟩ | hno
    · simp only [z_L_remove, u_br_True, u_br_False, u_jn_u, u_lt_u, u_nn_s, u_brn_s, u_brn_n]
      refine c_remove hN C0' CT' CX' CC' WT' WX' WC' ht hrow hth (fun σ' T' X' Cc' hF => ?_)
      simp (disch := omega) only [u_br_True, u_br_False, u_jn_u, u_lt_u, u_nn_s, u_brn_s, u_brn_n, ↓li_m1, li_0, li_1, li_2, li_3, li_4, li_5, li_6, li_7, li_8, li_9, li_10, li_12, li_13, li_26, li_40, li_60, li_61, li_62, li_99, li_100, li_102, li_106, li_114, li_112, li_117, li_108, li_103, li_120, li_300, li_360, li_512, li_1000, wA_l, l0c]
      refine r_remove hN ((R.km (hF.km.trans (KM.st (by decide)))).km KM.stL) WT' WX' WC' ht hrow hth (fun σ2 R2 k2 e0 => ?_)
      exact hT _ _ _ (finI hF SameX_re (by simp [mRe, mu]) C1 W1 hk T' X' Cc' R2 k2 (WT_re WT' hrow) (SameX_re.wc (gd_wc WC')) e0)
    · simp (disch := omega) only [z_L_remove, z_X11_remove, u_br_True, u_br_False, u_jn_u, u_lt_u, u_nn_s, u_brn_s, u_brn_n, ↓li_m1, li_0, li_1, li_2, li_3, li_4, li_5, li_6, li_7, li_8, li_9, li_10, li_12, li_13, li_26, li_40, li_60, li_61, li_62, li_99, li_100, li_102, li_106, li_114, li_112, li_117, li_108, li_103, li_120, li_300, li_360, li_512, li_1000, b10, b00, f_0, f_1, u_okT, u_nb_0, u_nb_1, c_needT C0' CT' WT' ht, c_noR hT1 WT' (by omega : t < 3) hno, r_remove2 R WT' ht hno]
      exact Or.inr ⟨trivial, hT _ _ _ (G_exc (c := 2) I0 hk (by decide) (by decide))⟩
  · simp only [z_L_remove, z_X11_remove, u_br_True, u_br_False, u_jn_u, u_lt_u, u_nn_s, u_brn_s, u_brn_n, c_needTO C0' CT' WT' hp, r_remove1 R WT' hp, li_1, li_2, li_3]
    exact Or.inl ⟨trivial, hT _ _ _ (G_exc (c := 1) I0 hk (by decide) (by decide))⟩
end REMOVE
