section KINSERT
variable {m m' : Nat → Nat → Nat} {u u' w : Nat → Int32} {L L' E : List Nat} {σ σ' σ1 σ2 : St} {N kk t c k n F key row lo hi : Nat} {a b d v : Int32}
theorem c_addT (T : CT m u σ) (W : WT m u) (ht : t < m 1 0) (h3 : m 3 t < 40) {K : Int32 → St → Prop} (h : ∀ σ1, K10 σ σ1 → CT (mIn m t) (uIn u (3 * (40 * t + m 3 t)) a b d) σ1 → K (nI (m 3 t)) σ1) : z_X10_addRow N t a b d σ K := by
  have h1 := W.nt
  have T1 := T.2.2.2 t ht
  have hl := livN_le (m := m) (t := t) (n := 40)
  have hl2 : liv m t ≤ 40 := hl
  obtain ⟨t1, t2, t3, t4, t5, t6, t7, t8, t9, t10, t11, t12, t13⟩ := T1
  simp (disch := omega) only [z_X10_addRow, u_br_True, u_br_False, u_jn_u, u_lt_u, u_nn_s, u_brn_s, u_brn_n, nI_add, u_n_mul, u_n_lt, u_n_le, u_n_eq, u_n_sub, u_n_div, u_n_mod, nI_clamp, u_m1, u_m1q, u_wI_n, u_wA_n, u_br_t, u_br_f, ↓li_m1, li_0, li_1, li_2, li_3, li_4, li_5, li_6, li_7, li_8, li_9, li_10, li_12, li_13, li_26, li_40, li_60, li_61, li_62, li_99, li_100, li_102, li_106, li_114, li_112, li_117, li_108, li_103, li_120, li_300, li_360, li_512, li_1000, t3, t4, sP_stP, Nat.reduceEqDiff, true_and, and_true, false_and, and_false, if_true, if_false, eq_self, and_self, Nat.reduceLT, Nat.reduceLeDiff, Nat.reduceAdd, Nat.reduceMul, Nat.reduceDiv, Nat.one_ne_zero, u_vn_1]
  refine h _ (((((K10.refl.st).st).st).st).st).st ?_
  obtain ⟨a1, a2, a3, a4⟩ := T
  unfold CT
  rw [mIn_o (by decide) (by decide) (by decide)]
  refine ⟨by simp [sP_stP, a1], by simp [sV_stP, a2], fun t' ht' => by simp [sQ_stP, a3 t' ht'], fun t' ht' => ?_⟩
  have o : ∀ f j, f ≠ 3 → f ≠ 4 → f ≠ 16 → mIn m t f j = m f j := fun f j a b d => mIn_o a b d
  obtain ⟨s1, s2, s3, s4, s5, s6, s7, s8, s9, s10, s11, s12, s13⟩ := a4 t' ht'
  unfold CT1
  simp (disch := decide) only [o]
  refine ⟨by simp [sP_stP, s1], by simp [sP_stP, s2], ?_, ?_, ?_, ?_, fun c' hc' => by simp [sP_stP, s7 c' hc'], fun c' hc' => by simp [sP_stP, s8 c' hc'], by simp [sP_stP, s9], by simp [sP_stP, s10], fun c' hc' => by simp [sP_stP, s11 c' hc'], fun c' hc' => by simp [sP_stP, s12 c' hc'], fun c' hc' => by simp [sP_stP, s13 c' hc']⟩
  · rw [mIn_3]
    by_cases e : t' = t
    · subst e; simp [sP_stP]
    · simp [sP_stP, e, s3]
  · rw [liv_in W (by omega) h3]
    by_cases e : t' = t
    · subst e; simp [sP_stP]
    · simp [sP_stP, e, s4]
  · intro r hr
    rw [mIn_4]
    simp only [sP_stP, Nat.reduceEqDiff, true_and, and_true, false_and, and_false, if_true, if_false, eq_self, and_self, Nat.reduceLT, Nat.reduceLeDiff, Nat.reduceAdd, Nat.reduceMul, Nat.reduceDiv, Nat.one_ne_zero]
    by_cases e : t' = t ∧ r = m 3 t
    · rw [if_pos e, if_pos (by omega)]
    · rw [if_neg e, if_neg (by omega)]
      exact s5 r hr
  · intro r c hr hc
    have hr40 : r < 40 := by
      have := W.2.2.2.1 t' (by omega)
      rw [mIn_3] at hr
      split at hr <;> omega
    have e9 := vl_in (u := u) (m := m) (t := t) (t' := t') (a := a) (b := b) (d := d) hr40 hc h3 rfl
    simp only [vl] at e9
    rw [e9]
    simp only [sP_stP, Nat.reduceEqDiff, true_and, and_true, false_and, and_false, if_true, if_false, eq_self, and_self, Nat.reduceLT, Nat.reduceLeDiff, Nat.reduceAdd, Nat.reduceMul, Nat.reduceDiv, Nat.one_ne_zero]
    by_cases e : t' = t ∧ r = m 3 t
    · rw [if_pos e]
      obtain ⟨e1, e2⟩ := e
      by_cases h2 : c = 2
      · rw [if_pos ⟨e1, by omega⟩, if_neg (by omega), if_neg (by omega)]
      · rw [if_neg (by omega)]
        by_cases h1 : c = 1
        · rw [if_pos ⟨e1, by omega⟩, if_neg (by omega), if_pos h1]
        · rw [if_neg (by omega), if_pos ⟨e1, by omega⟩, if_pos (by omega)]
    · rw [if_neg e, if_neg (by omega), if_neg (by omega), if_neg (by omega)]
      refine s6 r c ?_ hc
      rw [mIn_3] at hr
      by_cases e5 : t' = t
      · subst e5; rw [if_pos rfl] at hr; omega
      · rw [if_neg e5] at hr; exact hr
theorem c_insert (hN : 1000000 ≤ N) (C : C0 σ) (T : CT m u σ) (X : CX m u σ) (Cc : CC m L σ) (W : WT m u) (Wx : WX m) (Wc : WC m L) (ht : t < m 1 0) (h3 : m 3 t < 40) (h0 : Wi m t 0 a) (h1 : Wi m t 1 b) (h2 : Wi m t 2 d) {K : Int32 → St → Prop} {KX : String → St → Prop}
    (h : ∀ σ', CT (mIn m t) (uIn u (3 * (40 * t + m 3 t)) a b d) σ' → CX (mIn m t) (uIn u (3 * (40 * t + m 3 t)) a b d) σ' → CC (mIn m t) (L.filter (gd m t (m 3 t))) σ' → FI σ σ' → K (nI (m 3 t)) (stP σ' 2 0 5 0 (nI 0))) : z_X11_insert N 0 (nI t) a b d σ K KX := by
  have hn := W.nt
  have hx6 := Wx.1
  have W' := WT_in W ht h3 h0 h1 h2
  have T1 := T.2.2.2 t ht
  have hC := C
  unfold C0 at hC
  simp (disch := omega) only [z_X11_insert, z_X10_admits, c_needT C T W ht, u_br_True, u_br_False, u_jn_u, u_lt_u, u_nn_s, u_brn_s, u_brn_n, ↓li_m1, li_0, li_1, li_2, li_3, li_4, li_5, li_6, li_7, li_8, li_9, li_10, li_12, li_13, li_26, li_40, li_60, li_61, li_62, li_99, li_100, li_102, li_106, li_114, li_112, li_117, li_108, li_103, li_120, li_300, li_360, li_512, li_1000, c_wi T1 W ht (by decide : 0 < 3) h0, c_wi T1 W ht (by decide : 1 < 3) h1, c_wi T1 W ht (by decide : 2 < 3) h2, b10, b00, f_0, f_1, u_okT, u_nb_0, u_nb_1, hC, z_X9_addRow]
  refine c_addT T W ht h3 (fun σ1 k1 T' => ?_)
  simp (disch := omega) only [u_br_True, u_br_False, u_jn_u, u_lt_u, u_nn_s, u_brn_s, u_brn_n, u_m1]
  have X1 : ∀ k, k < m 13 0 → XO σ1 k (m 14 k) (m 15 k) (ent m u (m 14 k) (m 15 k)) ∧ sP σ1 3 k 0 0 = nI k := fun k hk => by
    obtain ⟨x1, x2, x3, x4⟩ := (X.2.2.2 k hk).xo
    refine ⟨⟨by rw [k1.2.2.1]; exact x1, by rw [k1.1 3 _ _ _ (by decide)]; exact x2, by rw [k1.1 3 _ _ _ (by decide)]; exact x3, fun j hj => by rw [k1.1 3 _ _ _ (by decide)]; exact x4 j hj⟩, ?_⟩
    rw [k1.1 3 _ _ _ (by decide)]
    exact (X.2.2.2 k hk).1
  have q9 : ∀ k, k < 6 → sQ σ1 9 0 2 k = if k < m 13 0 then some k else none := fun k hk => by rw [k1.2.2.1]; exact X.2.2.1 k hk
  refine for_u 6 (by omega) (by omega) (fun i s => K3a σ1 s ∧ ∀ k, k < m 13 0 → XO s k (m 14 k) (m 15 k) (if k < i then ent (mIn m t) (uIn u (3 * (40 * t + m 3 t)) a b d) (m 14 k) (m 15 k) else ent m u (m 14 k) (m 15 k))) 0 (by omega) (fun self i s hi hI hs => ?_) ⟨K3a.refl, fun k hk => by rw [if_neg (by omega)]; exact (X1 k hk).1⟩
  obtain ⟨i1, i2⟩ := hI
  by_cases hl : i < 6
  · have q := q9 i hl
    rw [← i1.2.2.1] at q
    by_cases hi3 : i < m 13 0
    · rw [if_pos hi3] at q
      obtain ⟨hx1, hx2⟩ := Wx.2 i hi3
      have hcl := W.cl hx1
      have hm15 : m 15 i < 3 := by omega
      have Xi := i2 i hi3
      rw [if_neg (by omega)] at Xi
      obtain ⟨en, ee⟩ := ent_in (a := a) (b := b) (d := d) W W' ht h3 (by omega : m 15 i < 3) hx2 hx1
      by_cases hkt : m 14 i = t
      · obtain ⟨v, hv, ev, ee⟩ := ee hkt
        simp (disch := omega) only [z_X3_isOf, u_br_True, u_br_False, u_jn_u, u_lt_u, u_nn_s, u_brn_s, u_brn_n, nI_add, u_n_mul, u_n_lt, u_n_le, u_n_eq, u_n_sub, u_n_div, u_n_mod, nI_clamp, u_m1, u_m1q, u_wI_n, u_wA_n, u_br_t, u_br_f, ↓li_m1, li_0, li_1, li_2, li_3, li_4, li_5, li_6, li_7, li_8, li_9, li_10, li_12, li_13, li_26, li_40, li_60, li_61, li_62, li_99, li_100, li_102, li_106, li_114, li_112, li_117, li_108, li_103, li_120, li_300, li_360, li_512, li_1000, b10, b00, f_0, f_1, u_okT, u_nb_0, u_nb_1, q, Xi.1, hkt]
        rw [hkt] at Xi hx2
        have TC1 : TC s (uIn u (3 * (40 * t + m 3 t)) a b d) t (m 3 t + 1) := by
          have := (T'.2.2.2 t (by rw [mIn_o (by decide) (by decide) (by decide)]; exact ht)).tc
          rw [mIn_3, if_pos rfl] at this
          intro r c hr hc
          rw [i1.1 10 _ _ _ (fun e => absurd e.1 (by decide))]
          exact this r c hr hc
        have hE : (ent m u t (m 15 i)).length < 40 := by
          rw [ent_len W ht hx2, livN_stop W (by omega)]
          have := livN_le (m := m) (t := t) (n := m 3 t)
          omega
        have V := W.vg ht hx2
        have hrr : ∀ r ∈ ent m u t (m 15 i), r < m 3 t := fun r hr => by
          have := (mem_eN V (Nat.le_refl _)).mp hr
          exact W.th_lt (by omega) this.1 this.2
        refine c_addX hN Xi TC1 (by omega) hE (by omega) (fun r hr => by have := hrr r hr; omega) (fun r hr => ?_) (by omega : m 3 t < m 3 t + 1) hv ev (fun s' X' hK' => ?_)
        · have h40 := (mem_eN V (Nat.le_refl _)).mp hr
          obtain ⟨v2, hv2, ev2⟩ := V r h40.1 h40.2
          refine ⟨v2, hv2, ?_⟩
          rw [vl_in h40.1 (by omega) h3 rfl, if_neg (fun e => by have := hrr r hr; omega)]
          exact ev2
        · refine hs _ hl ⟨i1.of hK', fun k hk => ?_⟩
          by_cases hki : k = i
          · subst hki
            rw [if_pos (by omega), hkt, ee]
            exact X'
          · have := i2 k hk
            have e5 : (k < i + 1) = (k < i) := by apply propext; omega
            simp only [e5]
            exact this.k3 hK' hki
      · simp (disch := omega) only [z_X3_isOf, u_br_True, u_br_False, u_jn_u, u_lt_u, u_nn_s, u_brn_s, u_brn_n, nI_add, u_n_mul, u_n_lt, u_n_le, u_n_eq, u_n_sub, u_n_div, u_n_mod, nI_clamp, u_m1, u_m1q, u_wI_n, u_wA_n, u_br_t, u_br_f, ↓li_m1, li_0, li_1, li_2, li_3, li_4, li_5, li_6, li_7, li_8, li_9, li_10, li_12, li_13, li_26, li_40, li_60, li_61, li_62, li_99, li_100, li_102, li_106, li_114, li_112, li_117, li_108, li_103, li_120, li_300, li_360, li_512, li_1000, b10, b00, f_0, f_1, u_okT, u_nb_0, u_nb_1, q, Xi.1, Option.some.injEq, u_br_f hkt]
        refine hs _ hl ⟨i1, fun k hk => ?_⟩
        by_cases hki : k = i
        · subst hki
          rw [if_pos (by omega), en hkt]
          exact Xi
        · have e5 : (k < i + 1) = (k < i) := by apply propext; omega
          simp only [e5]
          exact i2 k hk
    · rw [if_neg hi3] at q
      simp (disch := omega) only [u_br_True, u_br_False, u_jn_u, u_lt_u, u_nn_s, u_brn_s, u_brn_n, nI_add, u_n_mul, u_n_lt, u_n_le, u_n_eq, u_n_sub, u_n_div, u_n_mod, nI_clamp, u_m1, u_m1q, u_wI_n, u_wA_n, u_br_t, u_br_f, ↓li_m1, li_0, li_1, li_2, li_3, li_4, li_5, li_6, li_7, li_8, li_9, li_10, li_12, li_13, li_26, li_40, li_60, li_61, li_62, li_99, li_100, li_102, li_106, li_114, li_112, li_117, li_108, li_103, li_120, li_300, li_360, li_512, li_1000, q]
      refine hs _ hl ⟨i1, fun k hk => ?_⟩
      have := i2 k hk
      rw [if_pos (by omega)] at this
      rw [if_pos (by omega)]
      exact this
  · have hi6 : i = 6 := by omega
    subst hi6
    have f1 : FI σ s := k1.fi.trans i1.fi
    have Cs := f1.c0 C
    have hCs := Cs
    unfold C0 at hCs
    have sx : ∀ k' i' f j, k' ≠ 3 → k' ≠ 10 → sP s k' i' f j = sP σ k' i' f j := fun k' i' f j h3 h10 => (i1.1 k' i' f j (fun e => h3 e.1)).trans (k1.1 k' i' f j h10)
    simp (disch := omega) only [u_br_True, u_br_False, u_jn_u, u_lt_u, u_nn_s, u_brn_s, u_brn_n, nI_add, u_n_mul, u_n_lt, u_n_le, u_n_eq, u_n_sub, u_n_div, u_n_mod, nI_clamp, u_m1, u_m1q, u_wI_n, u_wA_n, u_br_t, u_br_f, ↓li_m1, li_0, li_1, li_2, li_3, li_4, li_5, li_6, li_7, li_8, li_9, li_10, li_12, li_13, li_26, li_40, li_60, li_61, li_62, li_99, li_100, li_102, li_106, li_114, li_112, li_117, li_108, li_103, li_120, li_300, li_360, li_512, li_1000]
    have hck := Wc.ck Wx
    have hnum : sP s 10 t 0 0 = nI t := by
      rw [i1.1 10 _ _ _ (fun e => absurd e.1 (by decide))]
      exact (T'.2.2.2 t (by rw [mIn_o (by decide) (by decide) (by decide)]; exact ht)).1
    refine c_forget (m := m) hN Cs (Cc.co.fr (fun i f j => sx 0 i f j (by decide) (by decide))) (by have := hck.1; have := hck.2.1; omega) hck.2.2.2 Wx (by omega) h3 hnum (fun k hk => by rw [i1.2.2.1]; exact q9 k hk) (fun k hk => ⟨(i2 k hk).1, by rw [i1.1 3 _ _ _ (by omega)]; exact (X1 k hk).2⟩) (fun s' X' hK' => ?_)
    have f2 : FI σ s' := f1.trans (FI.of0 hK')
    have Cs2 := f2.c0 C
    unfold C0 at Cs2
    simp (disch := omega) only [z_X2_closeAppeals, Cs2, u_br_True, u_br_False, u_jn_u, u_lt_u, u_nn_s, u_brn_s, u_brn_n, ↓li_m1, li_0, li_1, li_2, li_3, li_4, li_5, li_6, li_7, li_8, li_9, li_10, li_12, li_13, li_26, li_40, li_60, li_61, li_62, li_99, li_100, li_102, li_106, li_114, li_112, li_117, li_108, li_103, li_120, li_300, li_360, li_512, li_1000]
    have CXs : CX (mIn m t) (uIn u (3 * (40 * t + m 3 t)) a b d) s := by
      unfold CX
      rw [mIn_o (by decide) (by decide) (by decide)]
      refine ⟨by rw [sx 9 _ _ _ (by decide) (by decide)]; exact X.1, by rw [i1.2.2.2.2, k1.2.2.2.2]; exact X.2.1, fun k hk => by rw [i1.2.2.1]; exact q9 k hk, fun k hk => ?_⟩
      refine CX1.of ?_ ?_
      · have := i2 k hk
        rw [if_pos (by omega)] at this
        rw [mIn_o (f := 14) (by decide) (by decide) (by decide), mIn_o (f := 15) (by decide) (by decide) (by decide)]
        exact this
      · rw [i1.1 3 _ _ _ (by omega)]; exact (X1 k hk).2
    have z0 : ∀ k' i f j, k' ≠ 0 → sP s' k' i f j = sP s k' i f j := fun k' i f j hne => hK'.1 k' i f j (fun e => hne e.1)
    refine h s' ?_ ?_ ?_ f2
    · exact T'.fr (fun i f j => (z0 10 i f j (by decide)).trans (i1.1 10 i f j (fun e => absurd e.1 (by decide)))) (fun i f j => (z0 9 i f j (by decide)).trans (i1.1 9 i f j (fun e => absurd e.1 (by decide)))) (hK'.2.2.1.trans i1.2.2.1) (hK'.2.2.2.2.trans i1.2.2.2.2)
    · exact CXs.fr (fun i f j => z0 3 i f j (by decide)) (fun i f j => z0 9 i f j (by decide)) hK'.2.2.1 hK'.2.2.2.2
    · refine CC.of ?_
      rw [mIn_o (by decide) (by decide) (by decide), ← gi_gd Wc Wx (by omega) h3]
      exact X'
theorem gd_in : gd (mIn m t) k row = gd m k row := by
  funext x
  simp only [gd, mIn_o (m := m) (t := t) (f := 14) (by decide) (by decide) (by decide)]
theorem r_insert (hN : 1000000 ≤ N) (R : RI m u w L σ) (W : WT m u) (Wx : WX m) (Wc : WC m L) (ht : t < m 1 0) (h3 : m 3 t < 40) (h0 : Wi m t 0 a) (h1 : Wi m t 1 b) (h2 : Wi m t 2 d) {K : Int32 → St → Prop}
    (h : ∀ σ', RI (mIn m t) (uIn u (3 * (40 * t + m 3 t)) a b d) w (L.filter (gd m t (m 3 t))) σ' → KC σ σ' → sP σ' 12 0 0 0 = nI 0 → K (nI (m 3 t)) σ') : z_X12_insert N 0 (nI t) a b d σ K := by
  have hn := W.nt
  have R0 : RI m u w L (stP σ 12 0 0 0 (nI 0)) := R.tmp rfl
  simp (disch := omega) only [z_X12_insert, r_isT R0 W ht, u_br_True, u_br_False, u_jn_u, u_lt_u, u_nn_s, u_brn_s, u_brn_n, nI_add, u_n_mul, u_n_lt, u_n_le, u_n_eq, u_n_sub, u_n_div, u_n_mod, nI_clamp, u_m1, u_m1q, u_wI_n, u_wA_n, u_br_t, u_br_f, ↓li_m1, li_0, li_1, li_2, li_3, li_4, li_5, li_6, li_7, li_8, li_9, li_10, li_12, li_13, li_26, li_40, li_60, li_61, li_62, li_99, li_100, li_102, li_106, li_114, li_112, li_117, li_108, li_103, li_120, li_300, li_360, li_512, li_1000, b10, b00, f_0, f_1, u_okT, u_nb_0, u_nb_1, r_wi R0 W ht (by decide : 0 < 3) h0, r_wi R0 W ht (by decide : 1 < 3) h1, r_wi R0 W ht (by decide : 2 < 3) h2, sP_stP, Nat.reduceEqDiff, true_and, and_true, false_and, and_false, if_true, if_false, eq_self, and_self, Nat.reduceLT, Nat.reduceLeDiff, Nat.reduceAdd, Nat.reduceMul, Nat.reduceDiv, Nat.one_ne_zero, (fun j => R.r 3 j rfl), u_vn_1]
  rw [show m 3 t + 1 - 1 = m 3 t by omega]
  have Rm : RI (mIn m t) (uIn u (3 * (40 * t + m 3 t)) a b d) w L (stP (stP (stP (stP (stP (stP (stP σ 12 0 0 0 (nI 0)) 12 0 16 0 (nI 0)) 12 0 4 (40 * t + m 3 t) (nI 1)) 12 0 5 (3 * (40 * t + m 3 t)) a) 12 0 5 (3 * (40 * t + m 3 t) + 1) b) 12 0 5 (3 * (40 * t + m 3 t) + 2) d) 12 0 3 t (nI (m 3 t + 1))) :=
    ((((((R0).set (f := 16) rfl).set (f := 4) rfl).cell).cell).cell).set (f := 3) rfl
  refine r_forgets hN Rm (SameX_in.wc Wc) (SameX_in.wx Wx) (by rw [mIn_o (by decide) (by decide) (by decide)]; exact hn) (by omega) h3 (fun σ' R' k' => ?_)
  rw [gd_in] at R'
  have e3 := R'.r 3 t rfl
  rw [mIn_3, if_pos rfl] at e3
  simp (disch := omega) only [u_br_True, u_br_False, u_jn_u, u_lt_u, u_nn_s, u_brn_s, u_brn_n, nI_add, u_n_mul, u_n_lt, u_n_le, u_n_eq, u_n_sub, u_n_div, u_n_mod, nI_clamp, u_m1, u_m1q, u_wI_n, u_wA_n, u_br_t, u_br_f, e3]
  rw [show m 3 t + 1 - 1 = m 3 t by omega]
  refine h σ' R' (((((((KC.st.trans KC.st).trans KC.st).trans KC.st).trans KC.st).trans KC.st).trans KC.st).trans k'.kc) ?_
  rw [k'.f (by decide)]
  simp (disch := decide) only [sP_o, sP_e]
def BadI (m : Nat → Nat → Nat) (t : Nat) (a b d : Int32) : Prop := ¬ Wi m t 0 a ∨ ¬ Wi m t 1 b ∨ ¬ Wi m t 2 d
theorem c_insert2 (C : C0 σ) (T : CT m u σ) (W : WT m u) (ht : t < m 1 0) (hb : BadI m t a b d) {K : Int32 → St → Prop} {KX : String → St → Prop} : z_X11_insert N 0 (nI t) a b d σ K KX = KX "java/lang/IllegalArgumentException" σ := by
  have T1 := T.2.2.2 t ht
  by_cases h0 : Wi m t 0 a
  · by_cases h1 : Wi m t 1 b
    · have h2 : ¬ Wi m t 2 d := by
        rcases hb with h | h | h
        · exact absurd h0 h
        · exact absurd h1 h
        · exact h
      simp (disch := omega) only [z_X11_insert, z_X10_admits, c_needT C T W ht, u_br_True, u_br_False, u_jn_u, u_lt_u, u_nn_s, u_brn_s, u_brn_n, ↓li_m1, li_0, li_1, li_2, li_3, li_4, li_5, li_6, li_7, li_8, li_9, li_10, li_12, li_13, li_26, li_40, li_60, li_61, li_62, li_99, li_100, li_102, li_106, li_114, li_112, li_117, li_108, li_103, li_120, li_300, li_360, li_512, li_1000, c_wi T1 W ht (by decide : 0 < 3) h0, c_wi T1 W ht (by decide : 1 < 3) h1, c_wiO T1 W ht (by decide : 2 < 3) h2, b10, b00, f_0, f_1, u_okT, u_nb_0, u_nb_1]
    · simp (disch := omega) only [z_X11_insert, z_X10_admits, c_needT C T W ht, u_br_True, u_br_False, u_jn_u, u_lt_u, u_nn_s, u_brn_s, u_brn_n, ↓li_m1, li_0, li_1, li_2, li_3, li_4, li_5, li_6, li_7, li_8, li_9, li_10, li_12, li_13, li_26, li_40, li_60, li_61, li_62, li_99, li_100, li_102, li_106, li_114, li_112, li_117, li_108, li_103, li_120, li_300, li_360, li_512, li_1000, c_wi T1 W ht (by decide : 0 < 3) h0, c_wiO T1 W ht (by decide : 1 < 3) h1, b10, b00, f_0, f_1, u_okT, u_nb_0, u_nb_1]
  · simp (disch := omega) only [z_X11_insert, z_X10_admits, c_needT C T W ht, u_br_True, u_br_False, u_jn_u, u_lt_u, u_nn_s, u_brn_s, u_brn_n, ↓li_m1, li_0, li_1, li_2, li_3, li_4, li_5, li_6, li_7, li_8, li_9, li_10, li_12, li_13, li_26, li_40, li_60, li_61, li_62, li_99, li_100, li_102, li_106, li_114, li_112, li_117, li_108, li_103, li_120, li_300, li_360, li_512, li_1000, c_wiO T1 W ht (by decide : 0 < 3) h0, b10, b00, f_0, f_1, u_okT, u_nb_0, u_nb_1]
theorem r_insert2 (R : RI m u w L σ) (W : WT m u) (ht : t < m 1 0) (hb : BadI m t a b d) {K : Int32 → St → Prop} : z_X12_insert N 0 (nI t) a b d σ K = K mI (stP σ 12 0 0 0 (nI 2)) := by
  have R0 : RI m u w L (stP σ 12 0 0 0 (nI 0)) := R.tmp rfl
  by_cases h0 : Wi m t 0 a
  · by_cases h1 : Wi m t 1 b
    · have h2 : ¬ Wi m t 2 d := by
        rcases hb with h | h | h
        · exact absurd h0 h
        · exact absurd h1 h
        · exact h
      simp (disch := omega) only [z_X12_insert, r_isT R0 W ht, u_br_True, u_br_False, u_jn_u, u_lt_u, u_nn_s, u_brn_s, u_brn_n, ↓li_m1, li_0, li_1, li_2, li_3, li_4, li_5, li_6, li_7, li_8, li_9, li_10, li_12, li_13, li_26, li_40, li_60, li_61, li_62, li_99, li_100, li_102, li_106, li_114, li_112, li_117, li_108, li_103, li_120, li_300, li_360, li_512, li_1000, b10, b00, f_0, f_1, u_okT, u_nb_0, u_nb_1, r_wi R0 W ht (by decide : 0 < 3) h0, r_wi R0 W ht (by decide : 1 < 3) h1, r_wiO R0 W ht (by decide : 2 < 3) h2]
    · simp (disch := omega) only [z_X12_insert, r_isT R0 W ht, u_br_True, u_br_False, u_jn_u, u_lt_u, u_nn_s, u_brn_s, u_brn_n, ↓li_m1, li_0, li_1, li_2, li_3, li_4, li_5, li_6, li_7, li_8, li_9, li_10, li_12, li_13, li_26, li_40, li_60, li_61, li_62, li_99, li_100, li_102, li_106, li_114, li_112, li_117, li_108, li_103, li_120, li_300, li_360, li_512, li_1000, b10, b00, f_0, f_1, u_okT, u_nb_0, u_nb_1, r_wi R0 W ht (by decide : 0 < 3) h0, r_wiO R0 W ht (by decide : 1 < 3) h1]
  · simp (disch := omega) only [z_X12_insert, r_isT R0 W ht, u_br_True, u_br_False, u_jn_u, u_lt_u, u_nn_s, u_brn_s, u_brn_n, ↓li_m1, li_0, li_1, li_2, li_3, li_4, li_5, li_6, li_7, li_8, li_9, li_10, li_12, li_13, li_26, li_40, li_60, li_61, li_62, li_99, li_100, li_102, li_106, li_114, li_112, li_117, li_108, li_103, li_120, li_300, li_360, li_512, li_1000, b10, b00, f_0, f_1, u_okT, u_nb_0, u_nb_1, r_wiO R0 W ht (by decide : 0 < 3) h0]
theorem c_insert3 (hN : 1000000 ≤ N) (C : C0 σ) (T : CT m u σ) (W : WT m u) (ht : t < m 1 0) (h3 : m 3 t = 40) (h0 : Wi m t 0 a) (h1 : Wi m t 1 b) (h2 : Wi m t 2 d) {K : Int32 → St → Prop} {KX : String → St → Prop} : z_X11_insert N 0 (nI t) a b d σ K KX = KX "java/lang/IllegalStateException" σ := by
  have T1 := T.2.2.2 t ht
  have hC := C
  unfold C0 at hC
  simp (disch := omega) only [z_X11_insert, z_X10_admits, c_needT C T W ht, u_br_True, u_br_False, u_jn_u, u_lt_u, u_nn_s, u_brn_s, u_brn_n, ↓li_m1, li_0, li_1, li_2, li_3, li_4, li_5, li_6, li_7, li_8, li_9, li_10, li_12, li_13, li_26, li_40, li_60, li_61, li_62, li_99, li_100, li_102, li_106, li_114, li_112, li_117, li_108, li_103, li_120, li_300, li_360, li_512, li_1000, c_wi T1 W ht (by decide : 0 < 3) h0, c_wi T1 W ht (by decide : 1 < 3) h1, c_wi T1 W ht (by decide : 2 < 3) h2, b10, b00, f_0, f_1, u_okT, u_nb_0, u_nb_1, hC, z_X9_addRow, z_X10_addRow, nI_add, u_n_mul, u_n_lt, u_n_le, u_n_eq, u_n_sub, u_n_div, u_n_mod, nI_clamp, u_m1, u_m1q, u_wI_n, u_wA_n, u_br_t, u_br_f, T1.2.2.1, h3]
  rw [fx2_s (by omega)]
theorem r_insert3 (R : RI m u w L σ) (W : WT m u) (ht : t < m 1 0) (h3 : m 3 t = 40) (h0 : Wi m t 0 a) (h1 : Wi m t 1 b) (h2 : Wi m t 2 d) {K : Int32 → St → Prop} : z_X12_insert N 0 (nI t) a b d σ K = K mI (stP σ 12 0 0 0 (nI 3)) := by
  have hn := W.nt
  have R0 : RI m u w L (stP σ 12 0 0 0 (nI 0)) := R.tmp rfl
  simp (disch := omega) only [z_X12_insert, r_isT R0 W ht, u_br_True, u_br_False, u_jn_u, u_lt_u, u_nn_s, u_brn_s, u_brn_n, nI_add, u_n_mul, u_n_lt, u_n_le, u_n_eq, u_n_sub, u_n_div, u_n_mod, nI_clamp, u_m1, u_m1q, u_wI_n, u_wA_n, u_br_t, u_br_f, ↓li_m1, li_0, li_1, li_2, li_3, li_4, li_5, li_6, li_7, li_8, li_9, li_10, li_12, li_13, li_26, li_40, li_60, li_61, li_62, li_99, li_100, li_102, li_106, li_114, li_112, li_117, li_108, li_103, li_120, li_300, li_360, li_512, li_1000, b10, b00, f_0, f_1, u_okT, u_nb_0, u_nb_1, r_wi R0 W ht (by decide : 0 < 3) h0, r_wi R0 W ht (by decide : 1 < 3) h1, r_wi R0 W ht (by decide : 2 < 3) h2, sP_stP, Nat.reduceEqDiff, true_and, and_true, false_and, and_false, if_true, if_false, eq_self, and_self, Nat.reduceLT, Nat.reduceLeDiff, Nat.reduceAdd, Nat.reduceMul, Nat.reduceDiv, Nat.one_ne_zero, (fun j => R.r 3 j rfl), h3]
theorem r_insert1 (R : RI m u w L σ) (W : WT m u) {p : Int32} (hp : Out p (m 1 0)) {K : Int32 → St → Prop} : z_X12_insert N 0 p a b d σ K = K mI (stP σ 12 0 0 0 (nI 1)) := by
  have R0 : RI m u w L (stP σ 12 0 0 0 (nI 0)) := R.tmp rfl
  simp (disch := omega) only [z_X12_insert, r_isTO R0 W hp, u_br_True, u_br_False, u_jn_u, u_lt_u, u_nn_s, u_brn_s, u_brn_n, ↓li_m1, li_0, li_1, li_2, li_3, li_4, li_5, li_6, li_7, li_8, li_9, li_10, li_12, li_13, li_26, li_40, li_60, li_61, li_62, li_99, li_100, li_102, li_106, li_114, li_112, li_117, li_108, li_103, li_120, li_300, li_360, li_512, li_1000, b10, b00, f_0, f_1, u_okT, u_nb_0, u_nb_1]
theorem gd_wc (Wc : WC m L) : WC m (L.filter (gd m t row)) := by
  obtain ⟨w1, w2, w3, w4⟩ := Wc
  exact ⟨w1, Nat.le_trans (List.length_filter_le _ _) w2, w3.sublist List.filter_sublist, fun x hx => w4 x (List.mem_filter.mp hx).1⟩
theorem k_insert (hN : 1000000 ≤ N) (I : Inv kk σ) (hk : kk < 512) (p a b d : Int32) {T : Int32 → Int32 → St → Prop} (hT : ∀ code b σ2, G (kk + 1) code b σ2 → T code b σ2) : z_L_insert N (some 0) p a b d σ (fun code σ1 => z_X12_insert N 0 p a b d σ1 (fun b σ2 => T code b σ2)) := by
  have I0 := I
  obtain ⟨m, u, w, L, R, C, W⟩ := I
  have C1 := C
  have W1 := W
  obtain ⟨C0', CT', CX', CC', CQ', CD', CP'⟩ := C
  obtain ⟨WT', WX', WC', WQ', WD'⟩ := W
  have R0 : RI m u w L (stP σ 12 0 0 0 (nI 0)) := R.tmp rfl
  rcases u_io p (m 1 0) with ⟨t, ht, _, rfl⟩ | hp
  · by_cases hb : BadI m t a b d
    · simp only [z_L_insert, u_br_True, u_br_False, u_jn_u, u_lt_u, u_nn_s, u_brn_s, u_brn_n, c_insert2 C0' CT' WT' ht hb, r_insert2 R WT' ht hb, li_1, li_2, li_3]
      exact Or.inr (Or.inl ⟨trivial, hT _ _ _ (G_exc (c := 2) I0 hk (by decide) (by decide))⟩)
    · simp only [BadI, not_or] at hb
      have h0 := Classical.byContradiction (fun h => hb.1 h)
      have h1 := Classical.byContradiction (fun h => hb.2.1 h)
      have h2 := Classical.byContradiction (fun h => hb.2.2 h)
      have hn := WT'.nt
      have h40 := WT'.2.2.2.1 t (by omega)
      by_cases h3 : m 3 t = 40
      · simp only [z_L_insert, u_br_True, u_br_False, u_jn_u, u_lt_u, u_nn_s, u_brn_s, u_brn_n, c_insert3 hN C0' CT' WT' ht h3 h0 h1 h2, r_insert3 R WT' ht h3 h0 h1 h2, li_1, li_2, li_3]
        exact Or.inr (Or.inr ⟨trivial, hT _ _ _ (G_exc (c := 3) I0 hk (by decide) (by decide))⟩)
      · have h3 : m 3 t < 40 := by omega
        simp only [z_L_insert, u_br_True, u_br_False, u_jn_u, u_lt_u, u_nn_s, u_brn_s, u_brn_n]
        refine c_insert hN C0' CT' CX' CC' WT' WX' WC' ht h3 h0 h1 h2 (fun σ' T' X' Cc' hF => ?_)
        simp (disch := omega) only [u_br_True, u_br_False, u_jn_u, u_lt_u, u_nn_s, u_brn_s, u_brn_n, ↓li_m1, li_0, li_1, li_2, li_3, li_4, li_5, li_6, li_7, li_8, li_9, li_10, li_12, li_13, li_26, li_40, li_60, li_61, li_62, li_99, li_100, li_102, li_106, li_114, li_112, li_117, li_108, li_103, li_120, li_300, li_360, li_512, li_1000, wA_l, l0c]
        refine r_insert hN ((R.km (hF.km.trans (KM.st (by decide)))).km KM.stL) WT' WX' WC' ht h3 h0 h1 h2 (fun σ2 R2 k2 e0 => ?_)
        exact hT _ _ _ (finI hF SameX_in (by simp [mIn, mu]) C1 W1 hk T' X' Cc' R2 k2 (WT_in WT' ht h3 h0 h1 h2) (SameX_in.wc (gd_wc WC')) e0)
  · simp only [z_L_insert, z_X11_insert, u_br_True, u_br_False, u_jn_u, u_lt_u, u_nn_s, u_brn_s, u_brn_n, c_needTO C0' CT' WT' hp, r_insert1 R WT' hp, li_1, li_2, li_3]
    exact Or.inl ⟨trivial, hT _ _ _ (G_exc (c := 1) I0 hk (by decide) (by decide))⟩
end KINSERT
