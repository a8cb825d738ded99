section KSOUND
variable {m m' : Nat → Nat → Nat} {u w w' : Nat → Int32} {L L0 L2 : List Nat} {σ σ' σ0 s s2 σ1 : St} {N kk n q p d ban t c k a x i j f b y key F p3 : Nat} {v wi p2 : Int32}
theorem nb1 : (narrow .boolean (.int (nI 1)) = .int (nI 1)) = True := eq_true rfl
theorem nb0 : (narrow .boolean (.int (nI 0)) = .int (nI 0)) = True := eq_true rfl
theorem c_tidy (hN : 1000000 ≤ N) (C : CC m L σ) (W : WC m L) (Wx : WX m) {K : Int32 → Prop} (h : K (nI 1)) : z_X0_isTidy N 0 σ K := by
  have Ck := W.ck Wx
  obtain ⟨c1, c2, c3, c4⟩ := Ck
  obtain ⟨d1, d2, d3⟩ := C
  have X := CC.co ⟨d1, d2, d3⟩
  have hL : L.length ≤ 12 := by omega
  have e0 : (nI (m 19 0) < nI L.length) = False := by rw [u_n_lt (by omega) (by omega)]; exact eq_false (by omega)
  simp only [z_X0_isTidy, d1, d2, e0, u_br_True, u_br_False, u_jn_u, u_lt_u, u_nn_s, u_brn_s, u_brn_n, ↓li_m1, li_0, li_1, li_2, li_3, li_4, li_5, li_6, li_7, li_8, li_9, li_10, li_12, li_13, li_26, li_40, li_60, li_61, li_62, li_99, li_100, li_102, li_106, li_114, li_112, li_117, li_108, li_103, li_120, li_300, li_360, li_512, li_1000]
  refine for_v L.length (by omega) (by omega) (fun j a => a = nI 1) 0 (by omega) (fun self j a hj ha hs => ?_) rfl
  subst ha
  by_cases hl : j < L.length
  · have hx := c4 _ (getD_mem hl)
    have kx : ∀ {K : Int32 → Prop}, z_X0_keyAt N 0 (nI j) σ K = K (nI (L.getD j 0)) := fun {K} => by
      rw [c_keyAt ⟨d1, d2, d3⟩ hL (by omega), dif_pos hl, getD_e hl]
    simp (disch := omega) only [u_br_True, u_br_False, u_jn_u, u_lt_u, u_nn_s, u_brn_s, u_brn_n, nI_add, u_n_mul, u_n_lt, u_n_le, u_n_eq, u_n_sub, u_n_div, u_n_mod, nI_clamp, u_m1, u_m1q, u_wI_n, u_wA_n, u_br_t, u_br_f, ↓li_m1, li_0, li_1, li_2, li_3, li_4, li_5, li_6, li_7, li_8, li_9, li_10, li_12, li_13, li_26, li_40, li_60, li_61, li_62, li_99, li_100, li_102, li_106, li_114, li_112, li_117, li_108, li_103, li_120, li_300, li_360, li_512, li_1000, kx, b10]
    refine c_placeOf hN X ⟨c1, c2, c3, c4⟩ hx ?_
    rw [idx_nd c3 hl rfl, u_br_t rfl]
    exact hs _ hl rfl
  · have hj2 : j = L.length := by omega
    subst hj2
    simp (disch := omega) only [u_br_True, u_br_False, u_jn_u, u_lt_u, u_nn_s, u_brn_s, u_brn_n, nI_add, u_n_mul, u_n_lt, u_n_le, u_n_eq, u_n_sub, u_n_div, u_n_mod, nI_clamp, u_m1, u_m1q, u_wI_n, u_wA_n, u_br_t, u_br_f, ↓li_m1, li_0, li_1, li_2, li_3, li_4, li_5, li_6, li_7, li_8, li_9, li_10, li_12, li_13, li_26, li_40, li_60, li_61, li_62, li_99, li_100, li_102, li_106, li_114, li_112, li_117, li_108, li_103, li_120, li_300, li_360, li_512, li_1000, b10, nb1, u_okT]
    exact h
theorem c_valAtO {E : List Nat} (X : XO σ k t c E) (hE : E.length ≤ 40) {p : Int32} (hp : Out p E.length) {K : Int32 → Prop} : z_X3_valueAt N k p σ K = K mI := by
  simp only [z_X3_valueAt, c_rowAtO X hE hp, ↓li_m1, li_0, li_1, li_2, li_3, li_4, li_5, li_6, li_7, li_8, li_9, li_10, li_12, li_13, li_26, li_40, li_60, li_61, li_62, li_99, li_100, li_102, li_106, li_114, li_112, li_117, li_108, li_103, li_120, li_300, li_360, li_512, li_1000, u_br_True, u_br_False, u_jn_u, u_lt_u, u_nn_s, u_brn_s, u_brn_n]
theorem c_rises (hN : 1000000 ≤ N) (S : SS m u σ) (Wt : WT m u) (Wx : WX m) (hk : k < m 13 0) {K : Int32 → Prop} (h : K (nI 1)) : z_X3_rises N k σ K := by
  have h1 := Wt.nt
  obtain ⟨ht', hc'⟩ := Wx.2 k hk
  have hcl := Wt.cl ht'
  have h3 := Wt.2.2.2.1 (m 14 k) (by omega)
  have hlen := ent_len Wt ht' hc'
  have h40 := ent_len40 Wt ht' hc'
  have X := (S.2.2.1.2.2.2 k hk).xo
  have T := S.2.1.2.2.2 (m 14 k) ht'
  have eL := T.2.2.2.1
  rw [← hlen] at eL
  have hp := eN_p (m := m) (u := u) (t := m 14 k) (c := m 15 k) (Nat.le_refl 40)
  rw [← ent_eN] at hp
  simp only [z_X3_rises, X.1, z_X10_rowCount, eL, X.2.2.1, u_br_True, u_br_False, u_jn_u, u_lt_u, u_nn_s, u_brn_s, u_brn_n, ↓li_m1, li_0, li_1, li_2, li_3, li_4, li_5, li_6, li_7, li_8, li_9, li_10, li_12, li_13, li_26, li_40, li_60, li_61, li_62, li_99, li_100, li_102, li_106, li_114, li_112, li_117, li_108, li_103, li_120, li_300, li_360, li_512, li_1000, eq_self]
  refine for_v (ent m u (m 14 k) (m 15 k)).length (by omega) (by omega) (fun j a => a = nI 1) 0 (by omega) (fun self j a hj ha hs => ?_) rfl
  subst ha
  by_cases hl : j < (ent m u (m 14 k) (m 15 k)).length
  · obtain ⟨ev, ev99⟩ := ent_v Wt ht' hc' hl
    obtain ⟨er3, erth, er40⟩ := ent_m Wt ht' hc' hl
    have va : ∀ {K : Int32 → Prop}, z_X3_valueAt N k (nI j) σ K = K (vl u (m 14 k) ((ent m u (m 14 k) (m 15 k)).getD j 0) (m 15 k)) := fun {K} => c_valAt X T.tc h3 h40 (by omega) hl er3
    have hr : ∀ {K : Int32 → Prop}, z_X10_hasRow N (m 14 k) (nI ((ent m u (m 14 k) (m 15 k)).getD j 0)) σ K = K (nI 1) := fun {K} => by rw [c_hasR T Wt (by omega) er40, if_pos erth]
    by_cases hj0 : j = 0
    · subst hj0
      have hO : Out (nI 0 - nI 1) (ent m u (m 14 k) (m 15 k)).length := Or.inl (by decide)
      have em : nI (vE m u (m 14 k) (m 15 k) 0) - mI = nI (vE m u (m 14 k) (m 15 k) 0 + 1) := by
        rw [← nI_add, Int32.sub_eq_add_neg]
        rfl
      rw [u_br_f (by rw [b10]; exact fun h => h), u_br_f (by rw [u_n_le (by omega) (by omega)]; omega), va, ev, c_valAtO X h40 hO, em]
      simp (disch := omega) only [u_br_True, u_br_False, u_jn_u, u_lt_u, u_nn_s, u_brn_s, u_brn_n, nI_add, u_n_mul, u_n_lt, u_n_le, u_n_eq, u_n_sub, u_n_div, u_n_mod, nI_clamp, u_m1, u_m1q, u_wI_n, u_wA_n, u_br_t, u_br_f, ↓li_m1, li_0, li_1, li_2, li_3, li_4, li_5, li_6, li_7, li_8, li_9, li_10, li_12, li_13, li_26, li_40, li_60, li_61, li_62, li_99, li_100, li_102, li_106, li_114, li_112, li_117, li_108, li_103, li_120, li_300, li_360, li_512, li_1000, c_rowAt X h40 hl, hr, b10]
      exact hs _ hl rfl
    · have hl1 : j - 1 < (ent m u (m 14 k) (m 15 k)).length := by omega
      obtain ⟨ew, ew99⟩ := ent_v Wt ht' hc' hl1
      obtain ⟨fr3, frth, fr40⟩ := ent_m Wt ht' hc' hl1
      have va1 : ∀ {K : Int32 → Prop}, z_X3_valueAt N k (nI (j - 1)) σ K = K (vl u (m 14 k) ((ent m u (m 14 k) (m 15 k)).getD (j - 1) 0) (m 15 k)) := fun {K} => c_valAt X T.tc h3 h40 (by omega) hl1 fr3
      have hup := ent_up Wt ht' hc' (show j - 1 ≤ j by omega) hl
      have ej : nI j - nI 1 = nI (j - 1) := u_n_sub (by omega)
      have ed : nI (vE m u (m 14 k) (m 15 k) j) - nI (vE m u (m 14 k) (m 15 k) (j - 1)) = nI (vE m u (m 14 k) (m 15 k) j - vE m u (m 14 k) (m 15 k) (j - 1)) := u_n_sub hup
      rw [u_br_f (by rw [b10]; exact fun h => h), u_br_f (by rw [u_n_le (by omega) (by omega)]; omega), va, ev, ej, va1, ew, ed]
      by_cases hgt : 0 < vE m u (m 14 k) (m 15 k) j - vE m u (m 14 k) (m 15 k) (j - 1)
      · simp (disch := omega) only [u_br_True, u_br_False, u_jn_u, u_lt_u, u_nn_s, u_brn_s, u_brn_n, nI_add, u_n_mul, u_n_lt, u_n_le, u_n_eq, u_n_sub, u_n_div, u_n_mod, nI_clamp, u_m1, u_m1q, u_wI_n, u_wA_n, u_br_t, u_br_f, ↓li_m1, li_0, li_1, li_2, li_3, li_4, li_5, li_6, li_7, li_8, li_9, li_10, li_12, li_13, li_26, li_40, li_60, li_61, li_62, li_99, li_100, li_102, li_106, li_114, li_112, li_117, li_108, li_103, li_120, li_300, li_360, li_512, li_1000, c_rowAt X h40 hl, hr, b10]
        exact hs _ hl rfl
      · have heq : vE m u (m 14 k) (m 15 k) j = vE m u (m 14 k) (m 15 k) (j - 1) := by omega
        have h9 := List.pairwise_iff_getElem.mp hp (j - 1) j hl1 hl (by omega)
        rw [← getD_e hl1, ← getD_e hl] at h9
        have hlt : (ent m u (m 14 k) (m 15 k)).getD (j - 1) 0 < (ent m u (m 14 k) (m 15 k)).getD j 0 := by
          simp only [kv] at h9
          have e1 : vE m u (m 14 k) (m 15 k) j = tN (vl u (m 14 k) ((ent m u (m 14 k) (m 15 k)).getD j 0) (m 15 k)) := rfl
          have e2 : vE m u (m 14 k) (m 15 k) (j - 1) = tN (vl u (m 14 k) ((ent m u (m 14 k) (m 15 k)).getD (j - 1) 0) (m 15 k)) := rfl
          omega
        simp (disch := omega) only [u_br_True, u_br_False, u_jn_u, u_lt_u, u_nn_s, u_brn_s, u_brn_n, nI_add, u_n_mul, u_n_lt, u_n_le, u_n_eq, u_n_sub, u_n_div, u_n_mod, nI_clamp, u_m1, u_m1q, u_wI_n, u_wA_n, u_br_t, u_br_f, ↓li_m1, li_0, li_1, li_2, li_3, li_4, li_5, li_6, li_7, li_8, li_9, li_10, li_12, li_13, li_26, li_40, li_60, li_61, li_62, li_99, li_100, li_102, li_106, li_114, li_112, li_117, li_108, li_103, li_120, li_300, li_360, li_512, li_1000, c_rowAt X h40 hl, c_rowAt X h40 hl1, hr, b10]
        exact hs _ hl rfl
  · have hj2 : j = (ent m u (m 14 k) (m 15 k)).length := by omega
    subst hj2
    simp (disch := omega) only [u_br_True, u_br_False, u_jn_u, u_lt_u, u_nn_s, u_brn_s, u_brn_n, nI_add, u_n_mul, u_n_lt, u_n_le, u_n_eq, u_n_sub, u_n_div, u_n_mod, nI_clamp, u_m1, u_m1q, u_wI_n, u_wA_n, u_br_t, u_br_f, ↓li_m1, li_0, li_1, li_2, li_3, li_4, li_5, li_6, li_7, li_8, li_9, li_10, li_12, li_13, li_26, li_40, li_60, li_61, li_62, li_99, li_100, li_102, li_106, li_114, li_112, li_117, li_108, li_103, li_120, li_300, li_360, li_512, li_1000, b10, nb1, u_okT]
    exact h
theorem c_rise (hN : 1000000 ≤ N) (S : SS m u σ) (Wt : WT m u) (Wx : WX m) {K : Int32 → Prop} (h : K (nI 1)) : z_X9_indexesRise N 0 σ K := by
  have hx6 := Wx.1
  unfold z_X9_indexesRise
  simp only [↓li_m1, li_0, li_1, li_2, li_3, li_4, li_5, li_6, li_7, li_8, li_9, li_10, li_12, li_13, li_26, li_40, li_60, li_61, li_62, li_99, li_100, li_102, li_106, li_114, li_112, li_117, li_108, li_103, li_120, li_300, li_360, li_512, li_1000]
  refine for_1 6 (by omega) (by omega) (fun _ => True) 0 (by omega) (fun self j hj _ hs => ?_) trivial
  by_cases hl : j < 6
  · have q9 := S.2.2.1.2.2.1 j hl
    by_cases hj3 : j < m 13 0
    · rw [if_pos hj3] at q9
      simp (disch := omega) only [u_br_True, u_br_False, u_jn_u, u_lt_u, u_nn_s, u_brn_s, u_brn_n, nI_add, u_n_mul, u_n_lt, u_n_le, u_n_eq, u_n_sub, u_n_div, u_n_mod, nI_clamp, u_m1, u_m1q, u_wI_n, u_wA_n, u_br_t, u_br_f, ↓li_m1, li_0, li_1, li_2, li_3, li_4, li_5, li_6, li_7, li_8, li_9, li_10, li_12, li_13, li_26, li_40, li_60, li_61, li_62, li_99, li_100, li_102, li_106, li_114, li_112, li_117, li_108, li_103, li_120, li_300, li_360, li_512, li_1000, q9]
      refine c_rises hN S Wt Wx hj3 ?_
      rw [u_br_f (by rw [b10]; exact fun h => h)]
      exact hs hl trivial
    · rw [if_neg hj3] at q9
      simp (disch := omega) only [u_br_True, u_br_False, u_jn_u, u_lt_u, u_nn_s, u_brn_s, u_brn_n, nI_add, u_n_mul, u_n_lt, u_n_le, u_n_eq, u_n_sub, u_n_div, u_n_mod, nI_clamp, u_m1, u_m1q, u_wI_n, u_wA_n, u_br_t, u_br_f, ↓li_m1, li_0, li_1, li_2, li_3, li_4, li_5, li_6, li_7, li_8, li_9, li_10, li_12, li_13, li_26, li_40, li_60, li_61, li_62, li_99, li_100, li_102, li_106, li_114, li_112, li_117, li_108, li_103, li_120, li_300, li_360, li_512, li_1000, q9]
      exact hs hl trivial
  · have hj2 : j = 6 := by omega
    subst hj2
    simp (disch := omega) only [u_br_True, u_br_False, u_jn_u, u_lt_u, u_nn_s, u_brn_s, u_brn_n, nI_add, u_n_mul, u_n_lt, u_n_le, u_n_eq, u_n_sub, u_n_div, u_n_mod, nI_clamp, u_m1, u_m1q, u_wI_n, u_wA_n, u_br_t, u_br_f, ↓li_m1, li_0, li_1, li_2, li_3, li_4, li_5, li_6, li_7, li_8, li_9, li_10, li_12, li_13, li_26, li_40, li_60, li_61, li_62, li_99, li_100, li_102, li_106, li_114, li_112, li_117, li_108, li_103, li_120, li_300, li_360, li_512, li_1000]
    exact h
theorem c_uses (hN : 1000000 ≤ N) (hn : m 25 q ≤ 3) (P : PL m q ban d σ i) (hb : ban < 64) (hx6 : m 13 0 ≤ 6) {K : Int32 → Prop} (h : K (nI 0)) : z_X5_usesAnyOf N i (nI ban) σ K := by
  unfold z_X5_usesAnyOf
  simp only [↓li_m1, li_0, li_1, li_2, li_3, li_4, li_5, li_6, li_7, li_8, li_9, li_10, li_12, li_13, li_26, li_40, li_60, li_61, li_62, li_99, li_100, li_102, li_106, li_114, li_112, li_117, li_108, li_103, li_120, li_300, li_360, li_512, li_1000, P.1]
  refine for_1 (m 25 q) (by omega) (by omega) (fun _ => True) 0 (by omega) (fun self j hj _ hs => ?_) trivial
  by_cases hl : j < m 25 q
  · obtain ⟨P1, P2, P3, P4, P5⟩ := P.2 j hl
    have ii : ∀ {K : Int32 → Prop}, K (nI 0) → z_X11_isIn N (nI ban) (oI (plI m q ban d j)) σ K := by
      intro K hK
      by_cases hy : plW m q ban d j = 0
      · have e5 : plI m q ban d j = none := by unfold plI wIdx; rw [if_pos hy]
        rw [e5]
        show z_X11_isIn N (nI ban) mI σ K
        rw [c_isInO (Or.inl (by decide))]
        exact hK
      · obtain ⟨k, k1, k2, k3⟩ := wIdx_k (plW_ok (ban := ban) (d := d) hn hl) hy
        have e5 : plI m q ban d j = some k := k1
        rw [e5]
        show z_X11_isIn N (nI ban) (nI k) σ K
        have ht : ban.testBit k = false := by
          unfold wIdx at k1
          rw [if_neg hy] at k1
          split at k1
          · split at k1
            · exact (iOn_lt k1).2.2.2
            · cases k1
          · split at k1
            · cases e : own m q (plO m q ban d) j (plW m q ban d j - 5) with
              | none => rw [e] at k1; cases k1
              | some c => rw [e] at k1; exact (iOn_lt k1).2.2.2
            · cases k1
        rw [c_isIn hb (by omega), if_neg (by rw [ht]; decide)]
        exact hK
    simp (disch := omega) only [z_X5_indexAt, u_br_True, u_br_False, u_jn_u, u_lt_u, u_nn_s, u_brn_s, u_brn_n, nI_add, u_n_mul, u_n_lt, u_n_le, u_n_eq, u_n_sub, u_n_div, u_n_mod, nI_clamp, u_m1, u_m1q, u_wI_n, u_wA_n, u_br_t, u_br_f, ↓li_m1, li_0, li_1, li_2, li_3, li_4, li_5, li_6, li_7, li_8, li_9, li_10, li_12, li_13, li_26, li_40, li_60, li_61, li_62, li_99, li_100, li_102, li_106, li_114, li_112, li_117, li_108, li_103, li_120, li_300, li_360, li_512, li_1000, P5]
    refine ii ?_
    rw [u_br_t rfl]
    exact hs hl trivial
  · have hj2 : j = m 25 q := by omega
    subst hj2
    simp (disch := omega) only [u_br_True, u_br_False, u_jn_u, u_lt_u, u_nn_s, u_brn_s, u_brn_n, nI_add, u_n_mul, u_n_lt, u_n_le, u_n_eq, u_n_sub, u_n_div, u_n_mod, nI_clamp, u_m1, u_m1q, u_wI_n, u_wA_n, u_br_t, u_br_f, ↓li_m1, li_0, li_1, li_2, li_3, li_4, li_5, li_6, li_7, li_8, li_9, li_10, li_12, li_13, li_26, li_40, li_60, li_61, li_62, li_99, li_100, li_102, li_106, li_114, li_112, li_117, li_108, li_103, li_120, li_300, li_360, li_512, li_1000]
    exact h
end KSOUND
