section KSOUND2
variable {m m' : Nat → Nat → Nat} {u w w' : Nat → Int32} {L L0 L2 : List Nat} {σ σ' σ0 s s2 σ1 : St} {N kk n q p d ban t c k a x i j f b y key F p3 : Nat} {v wi p2 : Int32}
theorem c_runColdP (hN : 1000000 ≤ N) (C : CA m u w L σ) (W : WA m u L0 kk) (hd : d < 2) (hq : q < m 24 0) (h0 : 0 < m 25 q) {K : St → Prop} (h : ∀ s, KT σ s → KM σ s → RVs s (some 1) (m 19 0) mI 0 0 (rsC m u q (m 46 d) d []) → PL m q (m 46 d) d s 2 → K s) : z_X11_runCold N 0 (nI d) (some q) σ K := by
  have C' := C
  obtain ⟨C0', CT', CX', CC', CQ', CD', CP'⟩ := C
  obtain ⟨WT', WX', WC', WQ', WD'⟩ := W
  have hC := C0'
  unfold C0 at hC
  have e2 := CD'.2.1 d hd
  have hb := (WD'.1 d hd).1
  simp (disch := omega) only [z_X11_runCold, z_X2_bansFor, u_br_True, u_br_False, u_jn_u, u_lt_u, u_nn_s, u_brn_s, u_brn_n, nI_add, u_n_mul, u_n_lt, u_n_le, u_n_eq, u_n_sub, u_n_div, u_n_mod, nI_clamp, u_m1, u_m1q, u_wI_n, u_wA_n, u_br_t, u_br_f, ↓li_m1, li_0, li_1, li_2, li_3, li_4, li_5, li_6, li_7, li_8, li_9, li_10, li_12, li_13, li_26, li_40, li_60, li_61, li_62, li_99, li_100, li_102, li_106, li_114, li_112, li_117, li_108, li_103, li_120, li_300, li_360, li_512, li_1000, e2, hC]
  refine c_draw hN ⟨C0', CT', CX', CQ'⟩ WQ' WX' WT' hq hb hd (by decide) (fun s1 k1 P1 _ => ?_)
  have C1 : CA m u w L s1 := C'.kt k1.kt
  have h6 : sQ s1 11 0 6 0 = some 0 := by rw [k1.2.2.1]; exact hC.2.2.2.2.1
  have h7 : sQ s1 11 0 7 0 = some 2 := by rw [k1.2.2.1]; exact hC.2.2.2.2.2.1
  have h00 : sQ s1 11 0 0 0 = some 0 := by rw [k1.2.2.1]; exact hC.1
  simp only [h6, h7, h00, u_br_True, u_br_False, u_jn_u, u_lt_u, u_nn_s, u_brn_s, u_brn_n]
  refine c_trial C1.1 C1.2.2.2.1 WC'.1 (fun s2 X2 e2 l2 q2 d2 v2 => ?_)
  have kt2 : KT s1 s2 := ⟨fun k i f j h0 _ _ _ => e2 k i f j (fun e => by rcases h0 with h0 | h0 <;> omega), fun k i f j _ => by rw [q2], fun i => by rw [q2], v2⟩
  have km2 : KM s1 s2 := fun i f j => e2 12 i f j (fun e => absurd e.1 (by decide))
  have C2 : CA m u w L s2 := C1.kt kt2
  have P2 := P1.of5 (fun f j => e2 5 2 f j (fun e => absurd e.1 (by decide)))
  refine c_follow (ban := m 46 d) (d := d) (L := []) hN ⟨C2.1, C2.2.1, C2.2.2.1, C2.2.2.2.2.1⟩ WQ' WT' WX' hq h0 P2 X2 (CK0 WC'.1) (vf0 m u q) (fun g => rfl) (fun s3 R3 k3 => ?_)
  rw [rsC_x] at R3
  exact h s3 ((k1.kt.trans kt2).trans k3.kt) ((k1.km.trans km2).trans k3.km) R3 (P2.of5 (fun f j => k3.1 5 2 f j (fun e => absurd e.1 (by decide)) (fun e => absurd e.1 (by decide))))
theorem c_both (hN : 1000000 ≤ N) (C : CA m u w L σ) (W : WA m u L kk) (hq : q < m 24 0) (h0 : 0 < m 25 q) {K : Int32 → St → Prop} (h : ∀ s, KT σ s → KM σ s → K (nI 1) s) : z_X11_bothPlansFind N 0 (some q) σ K := by
  have W' := W
  obtain ⟨WT', WX', WC', WQ', WD'⟩ := W
  have hC := C.1
  unfold C0 at hC
  obtain ⟨g0, g3, g4, g5, g6, g7, g8, g9, g11, g60, g80⟩ := hC
  have w3 := (WQ'.2.2 q hq).1
  have hlen := an_len (u := u) WQ' WT' hq
  simp only [z_X11_bothPlansFind, g6, u_br_True, u_br_False, u_jn_u, u_lt_u, u_nn_s, u_brn_s, u_brn_n, ↓li_m1, li_0, li_1, li_2, li_3, li_4, li_5, li_6, li_7, li_8, li_9, li_10, li_12, li_13, li_26, li_40, li_60, li_61, li_62, li_99, li_100, li_102, li_106, li_114, li_112, li_117, li_108, li_103, li_120, li_300, li_360, li_512, li_1000]
  refine c_tryAll hN ⟨C.1, C.2.1, C.2.2.1, C.2.2.2.2.1⟩ WQ' WT' hq (p3 := 0) (p4 := 0) h0 (by omega) (fun s1 R1 k1 km1 => ?_)
  have e6 : sQ s1 11 0 6 0 = some 0 := by rw [k1.2.1 11 _ _ _ (by decide)]; exact g6
  have f9 := R1.2.2.2.1
  rw [fd_fold, getR_evT] at f9
  have f9' : sP s1 8 0 9 0 = nI (anA m u q (m 25 q) 0 (fun _ => 0)).length := by
    rw [f9]
    congr 1
    exact Nat.zero_add _
  have f10 := R1.2.2.2.2.1
  rw [mk_fold, getR_evT] at f10
  simp only [e6, z_X8_foundCount, z_X8_foundMark, f9', f10, u_br_True, u_br_False, u_jn_u, u_lt_u, u_nn_s, u_brn_s, u_brn_n]
  refine for_u 2 (by omega) (by omega) (fun j s => KT σ s ∧ KM σ s) 0 (by omega) (fun self j s hj hI hs => ?_) ⟨k1, km1⟩
  obtain ⟨i1, i2⟩ := hI
  have Cs := C.kt i1
  by_cases hl : j < 2
  · have hb := (WD'.1 j hl).1
    rw [u_br_f (by rw [u_n_le (by omega) (by omega)]; omega)]
    refine c_runColdP (d := j) hN Cs W' hl hq h0 (fun s3 k3 km3 R3 P3 => ?_)
    have q3 : ∀ f, sQ s3 11 0 f 0 = sQ σ 11 0 f 0 := fun f => (k3.2.1 11 0 f 0 (by decide)).trans (i1.2.1 11 0 f 0 (by decide))
    have e46 : sP s3 2 0 1 j = nI (m 46 j) := ((Cs.kt k3).2.2.2.2.2.1.2.1 j hl)
    have pm := evR_an (ban := m 46 j) (d := j) WQ' WT' WX' hq
    have g9' : sP s3 8 0 9 0 = nI (anA m u q (m 25 q) 0 (fun _ => 0)).length := by
      rw [R3.2.2.2.1]
      unfold rsC
      rw [fd_fold, pm.length_eq]
      congr 1
      exact Nat.zero_add _
    have g10' : sL_ s3 8 0 10 0 = (anA m u q (m 25 q) 0 (fun _ => 0)).foldl (fun a g => a + (enc g + 1) * (enc g + 31)) (r0 []).2.2.2.2.1 := by
      rw [R3.2.2.2.2.1]
      unfold rsC
      rw [mk_fold, mark_perm pm]
    have rM := R3.2.2.1
    have rR := R3.2.1
    obtain ⟨le1, le2⟩ := rsC_le (ban := m 46 j) (d := j) (L := []) WQ' WT' WX' hq
    have lgz : ∀ x : Int64, lg_cmp x x = nI 0 := fun x => (lg_cmp_eq x x).mpr rfl
    have lgz' : ∀ x : Int64, lg_cmp x x = 0 := fun x => (lg_cmp_eq x x).mpr rfl
    simp (disch := omega) only [q3, g6, g7, g11, z_X8_foundCount, z_X8_foundMark, z_X8_missCount, z_X8_readCount, g9', g10', rM, rR, u_br_True, u_br_False, u_jn_u, u_lt_u, u_nn_s, u_brn_s, u_brn_n, nI_add, u_n_mul, u_n_lt, u_n_le, u_n_eq, u_n_sub, u_n_div, u_n_mod, nI_clamp, u_m1, u_m1q, u_wI_n, u_wA_n, u_br_t, u_br_f, ↓li_m1, li_0, li_1, li_2, li_3, li_4, li_5, li_6, li_7, li_8, li_9, li_10, li_12, li_13, li_26, li_40, li_60, li_61, li_62, li_99, li_100, li_102, li_106, li_114, li_112, li_117, li_108, li_103, li_120, li_300, li_360, li_512, li_1000, lgz, b10, z_X2_bansFor, e46]
    refine c_uses hN w3 P3 hb WX'.1 ?_
    rw [u_br_t rfl]
    exact hs _ hl ⟨i1.trans k3, i2.trans km3⟩
  · have hj2 : j = 2 := by omega
    subst hj2
    simp (disch := omega) only [u_br_True, u_br_False, u_jn_u, u_lt_u, u_nn_s, u_brn_s, u_brn_n, nI_add, u_n_mul, u_n_lt, u_n_le, u_n_eq, u_n_sub, u_n_div, u_n_mod, nI_clamp, u_m1, u_m1q, u_wI_n, u_wA_n, u_br_t, u_br_f]
    exact h s i1 i2
theorem k_isSound (hN : 1000000 ≤ N) (I : Inv kk σ) (hk : kk < 512) {T : Int32 → Int32 → St → Prop} (hT : ∀ b σ2, Inv (kk + 1) σ2 → T b b σ2) : z_X11_isSound N 0 σ (fun a σ1 => z_X12_isSound N 0 σ1 (fun b σ2 => T a b σ2)) := by
  have I0 := I
  obtain ⟨m, u, w, L, R, C, W⟩ := I
  have W' := W
  obtain ⟨WT', WX', WC', WQ', WD'⟩ := W
  have hC := C.1
  unfold C0 at hC
  obtain ⟨g0, g3, g4, g5, g6, g7, g8, g9, g11, g60, g80⟩ := hC
  have S : SS m u σ := ⟨C.1, C.2.1, C.2.2.1, C.2.2.2.2.1⟩
  have w1 := WQ'.1
  simp only [z_X11_isSound, g3, g0, u_br_True, u_br_False, u_jn_u, u_lt_u, u_nn_s, u_brn_s, u_brn_n, ↓li_m1, li_0, li_1, li_2, li_3, li_4, li_5, li_6, li_7, li_8, li_9, li_10, li_12, li_13, li_26, li_40, li_60, li_61, li_62, li_99, li_100, li_102, li_106, li_114, li_112, li_117, li_108, li_103, li_120, li_300, li_360, li_512, li_1000]
  refine c_tidy hN C.2.2.2.1 WC' WX' ?_
  rw [u_br_f (by rw [b10]; exact fun h => h)]
  refine c_rise hN S WT' WX' ?_
  rw [u_br_f (by rw [b10]; exact fun h => h)]
  have fin_ : ∀ s, KT σ s → KM σ s → z_X12_isSound N 0 s (fun b σ2 => T (nI 1) b σ2) := by
    intro s k km
    simp only [z_X12_isSound, u_br_True, u_br_False, u_jn_u, u_lt_u, u_nn_s, u_brn_s, u_brn_n, ↓li_m1, li_0, li_1, li_2, li_3, li_4, li_5, li_6, li_7, li_8, li_9, li_10, li_12, li_13, li_26, li_40, li_60, li_61, li_62, li_99, li_100, li_102, li_106, li_114, li_112, li_117, li_108, li_103, li_120, li_300, li_360, li_512, li_1000]
    exact hT _ _ (finIv C R W' hk k km t_wk (KF.refl (P := fwk)))
  refine fx3_g (γ := Nat) (fun j x5 x6 s => j ≤ 8 ∧ x5 = nI 1 ∧ x6 = nI j ∧ KT σ s ∧ KM σ s) (fun j => 8 - j) (fun self j x5 x6 s hI hs => ?_) N 0 _ _ σ ⟨by omega, rfl, rfl, KT.refl, KM.refl⟩ (by omega)
  obtain ⟨i1, rfl, rfl, i4, i5⟩ := hI
  have Cs : CA m u w L s := CA.kt C i4
  rw [u_br_f (by rw [b10]; exact fun h => h)]
  by_cases hl : j < 8
  · have q1 := Cs.2.2.2.2.1.2.2.1 j hl
    by_cases hj : j < m 24 0
    · rw [if_pos hj] at q1
      have e1 := (Cs.2.2.2.2.1.2.2.2 j hj).1
      have w3 := (WQ'.2.2 j hj).1
      by_cases h0 : 0 < m 25 j
      · simp (disch := omega) only [q1, z_X7_size, e1, u_br_True, u_br_False, u_jn_u, u_lt_u, u_nn_s, u_brn_s, u_brn_n, nI_add, u_n_mul, u_n_lt, u_n_le, u_n_eq, u_n_sub, u_n_div, u_n_mod, nI_clamp, u_m1, u_m1q, u_wI_n, u_wA_n, u_br_t, u_br_f, ↓li_m1, li_0, li_1, li_2, li_3, li_4, li_5, li_6, li_7, li_8, li_9, li_10, li_12, li_13, li_26, li_40, li_60, li_61, li_62, li_99, li_100, li_102, li_106, li_114, li_112, li_117, li_108, li_103, li_120, li_300, li_360, li_512, li_1000]
        refine c_both hN Cs W' hj h0 (fun s2 k2 km2 => ?_)
        exact hs (j + 1) _ _ s2 ⟨by omega, rfl, rfl, i4.trans k2, i5.trans km2⟩ (by omega)
      · simp (disch := omega) only [q1, z_X7_size, e1, u_br_True, u_br_False, u_jn_u, u_lt_u, u_nn_s, u_brn_s, u_brn_n, nI_add, u_n_mul, u_n_lt, u_n_le, u_n_eq, u_n_sub, u_n_div, u_n_mod, nI_clamp, u_m1, u_m1q, u_wI_n, u_wA_n, u_br_t, u_br_f, ↓li_m1, li_0, li_1, li_2, li_3, li_4, li_5, li_6, li_7, li_8, li_9, li_10, li_12, li_13, li_26, li_40, li_60, li_61, li_62, li_99, li_100, li_102, li_106, li_114, li_112, li_117, li_108, li_103, li_120, li_300, li_360, li_512, li_1000]
        exact hs (j + 1) _ _ s ⟨by omega, rfl, rfl, i4, i5⟩ (by omega)
    · rw [if_neg hj] at q1
      simp (disch := omega) only [q1, u_br_True, u_br_False, u_jn_u, u_lt_u, u_nn_s, u_brn_s, u_brn_n, nI_add, u_n_mul, u_n_lt, u_n_le, u_n_eq, u_n_sub, u_n_div, u_n_mod, nI_clamp, u_m1, u_m1q, u_wI_n, u_wA_n, u_br_t, u_br_f, ↓li_m1, li_0, li_1, li_2, li_3, li_4, li_5, li_6, li_7, li_8, li_9, li_10, li_12, li_13, li_26, li_40, li_60, li_61, li_62, li_99, li_100, li_102, li_106, li_114, li_112, li_117, li_108, li_103, li_120, li_300, li_360, li_512, li_1000]
      exact hs (j + 1) _ _ s ⟨by omega, rfl, rfl, i4, i5⟩ (by omega)
  · have hj2 : j = 8 := by omega
    subst hj2
    simp (disch := omega) only [u_br_True, u_br_False, u_jn_u, u_lt_u, u_nn_s, u_brn_s, u_brn_n, nI_add, u_n_mul, u_n_lt, u_n_le, u_n_eq, u_n_sub, u_n_div, u_n_mod, nI_clamp, u_m1, u_m1q, u_wI_n, u_wA_n, u_br_t, u_br_f, ↓li_m1, li_0, li_1, li_2, li_3, li_4, li_5, li_6, li_7, li_8, li_9, li_10, li_12, li_13, li_26, li_40, li_60, li_61, li_62, li_99, li_100, li_102, li_106, li_114, li_112, li_117, li_108, li_103, li_120, li_300, li_360, li_512, li_1000, nb1, u_okT]
    exact fin_ s i4 i5
end KSOUND2
