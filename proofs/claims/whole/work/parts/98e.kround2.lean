section KROUND2
variable {m m' : Nat → Nat → Nat} {u w w' : Nat → Int32} {L L0 L2 : List Nat} {σ σ' σ0 s s2 σ1 : St} {N kk n q p d ban t c k a x i j f b y key F p3 : Nat} {v wi p2 : Int32}
theorem rd_fin (W : WA m u L kk) (hk : kk < 512) (hq : q < m 24 0) (h0 : 0 < m 25 q) (S : SS m u s) (X : CO s 0 (m 19 0) L2) (Ck : CK (m 19 0) L2) (hky : ∀ y ∈ L2, okKey m y) (D : CD (mRd m q wi) w' s) (e10 : sQ s 11 0 10 0 = some q) (P3 : PL m q (m 46 0) 0 s 3) (P4 : PL m q (m 46 1) 1 s 4) :
    CA (mRd m q wi) u w' L2 s ∧ WA (mRd m q wi) u L2 (kk + 1) := by
  obtain ⟨WT', WX', WC', WQ', WD'⟩ := W
  obtain ⟨S1, S2, S3, S4⟩ := S
  have hn := WD'.2.1
  refine ⟨⟨S1, ?_, ?_, ?_, ?_, D, fun _ => ?_⟩, ?_, ?_, ?_, ?_, ?_⟩
  · unfold mRd; simp (disch := decide) only [CT_mu]; exact S2
  · unfold mRd; simp (disch := decide) only [CX_mu]; exact S3
  · unfold mRd; simp (disch := decide) only [CC_mu]; exact CC.of X
  · unfold mRd; simp (disch := decide) only [CQ_mu]; exact S4
  · have e55 : mRd m q wi 55 0 = q := by simp [mRd, mu]
    have e24 : mRd m q wi 24 0 = m 24 0 := by simp [mRd, mu]
    have e25 : mRd m q wi 25 q = m 25 q := by simp [mRd, mu]
    have e52 : mRd m q wi 52 0 = m 52 0 + 1 := by simp [mRd, mu]
    have e540 : mRd m q wi 54 0 = m 46 0 := by simp [mRd, mu]
    have e541 : mRd m q wi 54 1 = m 46 1 := by simp [mRd, mu]
    rw [e55, e24, e25, e52, e540, e541]
    refine ⟨hq, h0, by omega, e10, ?_, ?_⟩
    · unfold mRd; simp (disch := decide) only [PL_mu]; exact P3
    · unfold mRd; simp (disch := decide) only [PL_mu]; exact P4
  · unfold mRd; simp (disch := decide) only [WT_mu]; exact WT'
  · unfold mRd; simp (disch := decide) only [WX_mu]; exact WX'
  · unfold mRd; simp (disch := decide) only [WC_mu]
    exact ⟨Ck.1, Ck.2.1, Ck.2.2.1, fun x hx => hky x hx⟩
  · unfold mRd; simp (disch := decide) only [WQ_mu]; exact WQ'
  · have e52 : mRd m q wi 52 0 = m 52 0 + 1 := by simp [mRd, mu]
    have e16 : mRd m q wi 16 0 = 1 := by simp [mRd, mu]
    refine ⟨fun d hd => ?_, by rw [e52]; omega, by rw [e16]; exact Nat.le_refl _, by omega⟩
    obtain ⟨v1, v2, v3, v4⟩ := WD'.1 d hd
    have e46 : mRd m q wi 46 d = 0 := by
      have e : d = 0 ∨ d = 1 := by omega
      rcases e with rfl | rfl <;> simp [mRd, mu]
    have e54 : mRd m q wi 54 d = m 46 d := by
      have e : d = 0 ∨ d = 1 := by omega
      rcases e with rfl | rfl <;> simp [mRd, mu]
    have e51 : mRd m q wi 51 d = pkN wi true d (m 51 d) := by
      have e : d = 0 ∨ d = 1 := by omega
      rcases e with rfl | rfl <;> simp [mRd, mu]
    have := pkN_le (wi := wi) (d := d) (c := m 51 d)
    rw [e46, e54, e51]
    exact ⟨by decide, v1, by omega, by decide⟩
theorem KFo.kx (h : KFo c σ s) : KX_ σ s := ⟨fun k i f j h0 _ _ h8 => h.1 k i f j (fun e => h8 e.1) (fun e => h0 e.1), fun k i f j h8 => h.2.2.1 k i f j (fun e => h8 e.1), fun i => h.2.2.1 8 i 0 0 (fun e => by have := e.2.2; omega), h.2.2.2.2⟩
theorem KPl.km' (h : KPl i σ s) : KM σ s := fun i' f j => h.1 12 i' f j (by decide) (fun e => absurd e.1 (by decide))
theorem CD.of2 (C : CD m w σ) (e : ∀ f j, sP s 2 0 f j = sP σ 2 0 f j) : CD m w s := by
  unfold CD at *
  simp only [e]
  exact C
theorem SS.of2 (S : SS m u σ) (e : ∀ k i f j, k ≠ 2 → sP s k i f j = sP σ k i f j) (eq : sQ s = sQ σ) (ev : sV s = sV σ) : SS m u s := by
  unfold SS C0 CT CT1 CX CX1 CQ CQ1 CN CJ at *
  simp only [e 1 _ _ _ (by decide), e 3 _ _ _ (by decide), e 4 _ _ _ (by decide), e 7 _ _ _ (by decide), e 9 _ _ _ (by decide), e 10 _ _ _ (by decide), e 11 _ _ _ (by decide), eq, ev]
  exact S
theorem mRd51 (hd : d < 2) : mRd m q wi 51 d = pkN wi true d (m 51 d) := by
  have e : d = 0 ∨ d = 1 := by omega
  rcases e with rfl | rfl <;> simp [mRd, mu]
theorem mRd46 (hd : d < 2) : mRd m q wi 46 d = 0 := by
  have e : d = 0 ∨ d = 1 := by omega
  rcases e with rfl | rfl <;> simp [mRd, mu]
theorem mRd52 : mRd m q wi 52 0 = m 52 0 + 1 := by simp [mRd, mu]
theorem mRd16 : mRd m q wi 16 0 = 1 := by simp [mRd, mu]
theorem r_round0 (hN : 1000000 ≤ N) (R : RI m u w L σ) (W : WA m u L kk) (hq : q < m 24 0) (h0 : 0 < m 25 q) (hn : m 52 0 < 512) (hf : m 52 0 - m 52 0 / 2 * 2 = 0) {K : Int32 → St → Prop}
    (h : ∀ s, RI (mRd m q (wn (nI (MM m u q 0 L)) (nI (MM m u q 1 (LL m u q 0 L))))) u (upd (upd w (2 * m 52 0) (nI (MM m u q 0 L))) (2 * m 52 0 + 1) (nI (MM m u q 1 (LL m u q 0 L)))) (LL m u q 1 (LL m u q 0 L)) s → KC σ s → sP s 12 0 0 0 = nI 0 → K (wn (nI (MM m u q 0 L)) (nI (MM m u q 1 (LL m u q 0 L)))) s) : z_X12_round N 0 (nI q) σ K := by
  obtain ⟨WT', WX', WC', WQ', WD'⟩ := W
  have hL : L.length ≤ 12 := by have := WC'.1; have := WC'.2.1; omega
  have w1 := WQ'.1
  have w3 := (WQ'.2.2 q hq).1
  obtain ⟨hb0, _, hc0, _⟩ := WD'.1 0 (by decide)
  obtain ⟨hb1, _, hc1, _⟩ := WD'.1 1 (by decide)
  have hkk := WD'.2.2.2
  have Ck : CK (m 19 0) L := WC'.ck WX'
  have R0 : RI m u w L (stP σ 12 0 0 0 (nI 0)) := R.tmp rfl
  have M1 := MM_lt (d := 0) (L := L) WQ' WT' WX' hq
  have M2 := MM_lt (d := 1) (L := (LL m u q 0 L)) WQ' WT' WX' hq
  have e52 : sP (stP σ 12 0 0 0 (nI 0)) 12 0 52 0 = nI (m 52 0) := R0.r 52 0 rfl
  have e46 : sP (stP σ 12 0 0 0 (nI 0)) 12 0 46 0 = nI (m 46 0) := R0.r 46 0 rfl
  simp (disch := omega) only [round_eq, r_isQ R0 WQ' hq, R0.r 25 q rfl, u_br_True, u_br_False, u_jn_u, u_lt_u, u_nn_s, u_brn_s, u_brn_n, nI_add, u_n_mul, u_n_lt, u_n_le, u_n_eq, u_n_sub, u_n_div, u_n_mod, nI_clamp, u_m1, u_m1q, u_wI_n, u_wA_n, u_br_t, u_br_f, ↓li_m1, li_0, li_1, li_2, li_3, li_4, li_5, li_6, li_7, li_8, li_9, li_10, li_12, li_13, li_26, li_40, li_60, li_61, li_62, li_99, li_100, li_102, li_106, li_114, li_112, li_117, li_108, li_103, li_120, li_300, li_360, li_512, li_1000, b10, b00, f_0, f_1, u_okT, u_nb_0, u_nb_1, e52, hf, l0c, e46, Nat.reduceSub]
  refine r_runs (d := 0) (c := 0) (L := L) (p2 := mI) (p3 := 0) (vf := vf0 m u q) hN R0 hL WQ' WX' WT' hq h0 hb0 (by decide) (by decide) R0.ro Ck (fun s7 k7 X7 Ck7 => ?_)
  have R7 : RI m u w (LL m u q 0 L) s7 := by
    have := R0.ky k7 (by decide) X7.1 hL
    rw [if_pos rfl] at this
    exact this
  have e22 : sP s7 12 0 22 0 = nI (MM m u q 0 L) := X7.2.1
  have e527 : sP s7 12 0 52 0 = nI (m 52 0) := R7.r 52 0 rfl
  have L7 : (LL m u q 0 L).length ≤ 12 := by have := Ck7.1; have := Ck7.2.1; unfold LL rsC; omega
  have R8 : RI m u (upd w (2 * m 52 0) (nI (MM m u q 0 L))) (LL m u q 0 L) (stP s7 12 0 53 (2 * m 52 0) (nI (MM m u q 0 L))) := R7.miss
  have e468 : sP (stP s7 12 0 53 (2 * m 52 0) (nI (MM m u q 0 L))) 12 0 46 1 = nI (m 46 1) := R8.r 46 1 rfl
  simp (disch := omega) only [u_br_True, u_br_False, u_jn_u, u_lt_u, u_nn_s, u_brn_s, u_brn_n, nI_add, u_n_mul, u_n_lt, u_n_le, u_n_eq, u_n_sub, u_n_div, u_n_mod, nI_clamp, u_m1, u_m1q, u_wI_n, u_wA_n, u_br_t, u_br_f, ↓li_m1, li_0, li_1, li_2, li_3, li_4, li_5, li_6, li_7, li_8, li_9, li_10, li_12, li_13, li_26, li_40, li_60, li_61, li_62, li_99, li_100, li_102, li_106, li_114, li_112, li_117, li_108, li_103, li_120, li_300, li_360, li_512, li_1000, e22, e527, Nat.add_zero, l0c, e468, Nat.reduceSub]
  refine r_runs (d := 1) (c := 0) (L := (LL m u q 0 L)) (p2 := mI) (p3 := 0) (vf := vf0 m u q) hN R8 L7 WQ' WX' WT' hq h0 hb1 (by decide) (by decide) R8.ro Ck7 (fun s9 k9 X9 Ck9 => ?_)
  have R9 : RI m u (upd w (2 * m 52 0) (nI (MM m u q 0 L))) (LL m u q 1 (LL m u q 0 L)) s9 := by
    have := R8.ky k9 (by decide) X9.1 L7
    rw [if_pos rfl] at this
    exact this
  have e229 : sP s9 12 0 22 0 = nI (MM m u q 1 (LL m u q 0 L)) := X9.2.1
  have e529 : sP s9 12 0 52 0 = nI (m 52 0) := R9.r 52 0 rfl
  have R10 : RI m u (upd (upd w (2 * m 52 0) (nI (MM m u q 0 L))) (2 * m 52 0 + 1) (nI (MM m u q 1 (LL m u q 0 L)))) (LL m u q 1 (LL m u q 0 L)) (stP s9 12 0 53 (2 * m 52 0 + 1) (nI (MM m u q 1 (LL m u q 0 L)))) := R9.miss
  simp (disch := omega) only [u_br_True, u_br_False, u_jn_u, u_lt_u, u_nn_s, u_brn_s, u_brn_n, nI_add, u_n_mul, u_n_lt, u_n_le, u_n_eq, u_n_sub, u_n_div, u_n_mod, nI_clamp, u_m1, u_m1q, u_wI_n, u_wA_n, u_br_t, u_br_f, ↓li_m1, li_0, li_1, li_2, li_3, li_4, li_5, li_6, li_7, li_8, li_9, li_10, li_12, li_13, li_26, li_40, li_60, li_61, li_62, li_99, li_100, li_102, li_106, li_114, li_112, li_117, li_108, li_103, li_120, li_300, li_360, li_512, li_1000, e229, e529, Nat.sub_zero, Nat.add_sub_cancel]
  refine r_tail hN R10 hn (by omega) (by omega) (by omega) (a := (MM m u q 0 L)) (b := (MM m u q 1 (LL m u q 0 L))) ?_ ?_ (by omega) (by omega) (fun s R11 kc e0 => ?_)
  · simp [upd]
  · simp [upd]
  · refine h s R11 (((((KC.st.trans k7.kc).trans KC.st).trans k9.kc).trans KC.st).trans kc) (e0.trans ?_)
    rw [sP_stP, if_neg (fun e => absurd e.2.2.1 (by decide)), k9.ff (by unfold fY; omega), sP_stP, if_neg (fun e => absurd e.2.2.1 (by decide)), k7.ff (by unfold fY; omega)]
    simp only [sP_stP, Nat.reduceEqDiff, true_and, and_true, false_and, and_false, if_true, if_false, eq_self, and_self, Nat.reduceLT, Nat.reduceLeDiff, Nat.reduceAdd, Nat.reduceMul, Nat.reduceDiv, Nat.one_ne_zero]
theorem r_round1 (hN : 1000000 ≤ N) (R : RI m u w L σ) (W : WA m u L kk) (hq : q < m 24 0) (h0 : 0 < m 25 q) (hn : m 52 0 < 512) (hf : m 52 0 - m 52 0 / 2 * 2 = 1) {K : Int32 → St → Prop}
    (h : ∀ s, RI (mRd m q (wn (nI (MM m u q 0 (LL m u q 1 L))) (nI (MM m u q 1 L)))) u (upd (upd w (2 * m 52 0 + 1) (nI (MM m u q 1 L))) (2 * m 52 0) (nI (MM m u q 0 (LL m u q 1 L)))) (LL m u q 0 (LL m u q 1 L)) s → KC σ s → sP s 12 0 0 0 = nI 0 → K (wn (nI (MM m u q 0 (LL m u q 1 L))) (nI (MM m u q 1 L))) s) : z_X12_round N 0 (nI q) σ K := by
  obtain ⟨WT', WX', WC', WQ', WD'⟩ := W
  have hL : L.length ≤ 12 := by have := WC'.1; have := WC'.2.1; omega
  have w1 := WQ'.1
  have w3 := (WQ'.2.2 q hq).1
  obtain ⟨hb0, _, hc0, _⟩ := WD'.1 0 (by decide)
  obtain ⟨hb1, _, hc1, _⟩ := WD'.1 1 (by decide)
  have hkk := WD'.2.2.2
  have Ck : CK (m 19 0) L := WC'.ck WX'
  have R0 : RI m u w L (stP σ 12 0 0 0 (nI 0)) := R.tmp rfl
  have M1 := MM_lt (d := 1) (L := L) WQ' WT' WX' hq
  have M2 := MM_lt (d := 0) (L := (LL m u q 1 L)) WQ' WT' WX' hq
  have e52 : sP (stP σ 12 0 0 0 (nI 0)) 12 0 52 0 = nI (m 52 0) := R0.r 52 0 rfl
  have e46 : sP (stP σ 12 0 0 0 (nI 0)) 12 0 46 1 = nI (m 46 1) := R0.r 46 1 rfl
  simp (disch := omega) only [round_eq, r_isQ R0 WQ' hq, R0.r 25 q rfl, u_br_True, u_br_False, u_jn_u, u_lt_u, u_nn_s, u_brn_s, u_brn_n, nI_add, u_n_mul, u_n_lt, u_n_le, u_n_eq, u_n_sub, u_n_div, u_n_mod, nI_clamp, u_m1, u_m1q, u_wI_n, u_wA_n, u_br_t, u_br_f, ↓li_m1, li_0, li_1, li_2, li_3, li_4, li_5, li_6, li_7, li_8, li_9, li_10, li_12, li_13, li_26, li_40, li_60, li_61, li_62, li_99, li_100, li_102, li_106, li_114, li_112, li_117, li_108, li_103, li_120, li_300, li_360, li_512, li_1000, b10, b00, f_0, f_1, u_okT, u_nb_0, u_nb_1, e52, hf, l0c, e46, Nat.reduceSub]
  refine r_runs (d := 1) (c := 0) (L := L) (p2 := mI) (p3 := 0) (vf := vf0 m u q) hN R0 hL WQ' WX' WT' hq h0 hb1 (by decide) (by decide) R0.ro Ck (fun s7 k7 X7 Ck7 => ?_)
  have R7 : RI m u w (LL m u q 1 L) s7 := by
    have := R0.ky k7 (by decide) X7.1 hL
    rw [if_pos rfl] at this
    exact this
  have e22 : sP s7 12 0 22 0 = nI (MM m u q 1 L) := X7.2.1
  have e527 : sP s7 12 0 52 0 = nI (m 52 0) := R7.r 52 0 rfl
  have L7 : (LL m u q 1 L).length ≤ 12 := by have := Ck7.1; have := Ck7.2.1; unfold LL rsC; omega
  have R8 : RI m u (upd w (2 * m 52 0 + 1) (nI (MM m u q 1 L))) (LL m u q 1 L) (stP s7 12 0 53 (2 * m 52 0 + 1) (nI (MM m u q 1 L))) := R7.miss
  have e468 : sP (stP s7 12 0 53 (2 * m 52 0 + 1) (nI (MM m u q 1 L))) 12 0 46 0 = nI (m 46 0) := R8.r 46 0 rfl
  simp (disch := omega) only [u_br_True, u_br_False, u_jn_u, u_lt_u, u_nn_s, u_brn_s, u_brn_n, nI_add, u_n_mul, u_n_lt, u_n_le, u_n_eq, u_n_sub, u_n_div, u_n_mod, nI_clamp, u_m1, u_m1q, u_wI_n, u_wA_n, u_br_t, u_br_f, ↓li_m1, li_0, li_1, li_2, li_3, li_4, li_5, li_6, li_7, li_8, li_9, li_10, li_12, li_13, li_26, li_40, li_60, li_61, li_62, li_99, li_100, li_102, li_106, li_114, li_112, li_117, li_108, li_103, li_120, li_300, li_360, li_512, li_1000, e22, e527, Nat.add_zero, l0c, e468, Nat.reduceSub]
  refine r_runs (d := 0) (c := 0) (L := (LL m u q 1 L)) (p2 := mI) (p3 := 0) (vf := vf0 m u q) hN R8 L7 WQ' WX' WT' hq h0 hb0 (by decide) (by decide) R8.ro Ck7 (fun s9 k9 X9 Ck9 => ?_)
  have R9 : RI m u (upd w (2 * m 52 0 + 1) (nI (MM m u q 1 L))) (LL m u q 0 (LL m u q 1 L)) s9 := by
    have := R8.ky k9 (by decide) X9.1 L7
    rw [if_pos rfl] at this
    exact this
  have e229 : sP s9 12 0 22 0 = nI (MM m u q 0 (LL m u q 1 L)) := X9.2.1
  have e529 : sP s9 12 0 52 0 = nI (m 52 0) := R9.r 52 0 rfl
  have R10 : RI m u (upd (upd w (2 * m 52 0 + 1) (nI (MM m u q 1 L))) (2 * m 52 0) (nI (MM m u q 0 (LL m u q 1 L)))) (LL m u q 0 (LL m u q 1 L)) (stP s9 12 0 53 (2 * m 52 0) (nI (MM m u q 0 (LL m u q 1 L)))) := R9.miss
  simp (disch := omega) only [u_br_True, u_br_False, u_jn_u, u_lt_u, u_nn_s, u_brn_s, u_brn_n, nI_add, u_n_mul, u_n_lt, u_n_le, u_n_eq, u_n_sub, u_n_div, u_n_mod, nI_clamp, u_m1, u_m1q, u_wI_n, u_wA_n, u_br_t, u_br_f, ↓li_m1, li_0, li_1, li_2, li_3, li_4, li_5, li_6, li_7, li_8, li_9, li_10, li_12, li_13, li_26, li_40, li_60, li_61, li_62, li_99, li_100, li_102, li_106, li_114, li_112, li_117, li_108, li_103, li_120, li_300, li_360, li_512, li_1000, e229, e529, Nat.sub_zero, Nat.add_sub_cancel]
  refine r_tail hN R10 hn (by omega) (by omega) (by omega) (a := (MM m u q 0 (LL m u q 1 L))) (b := (MM m u q 1 L)) ?_ ?_ (by omega) (by omega) (fun s R11 kc e0 => ?_)
  · simp [upd]
  · simp [upd]
  · refine h s R11 (((((KC.st.trans k7.kc).trans KC.st).trans k9.kc).trans KC.st).trans kc) (e0.trans ?_)
    rw [sP_stP, if_neg (fun e => absurd e.2.2.1 (by decide)), k9.ff (by unfold fY; omega), sP_stP, if_neg (fun e => absurd e.2.2.1 (by decide)), k7.ff (by unfold fY; omega)]
    simp only [sP_stP, Nat.reduceEqDiff, true_and, and_true, false_and, and_false, if_true, if_false, eq_self, and_self, Nat.reduceLT, Nat.reduceLeDiff, Nat.reduceAdd, Nat.reduceMul, Nat.reduceDiv, Nat.one_ne_zero]
theorem k_roundT (hN : 1000000 ≤ N) (C : CA m u w L σ) (R : RI m u w L σ) (W : WA m u L kk) (hk : kk < 512) (hq : q < m 24 0) (h0 : 0 < m 25 q) {T : Int32 → Int32 → St → Prop} (hT : ∀ code b σ2, G (kk + 1) code b σ2 → T code b σ2) : z_L_round N (some 0) (nI q) σ (fun code σ1 => z_X12_round N 0 (nI q) σ1 (fun b σ2 => T code b σ2)) := by
  have C' := C
  have W' := W
  obtain ⟨C0', CT', CX', CC', CQ', CD', CP'⟩ := C
  obtain ⟨WT', WX', WC', WQ', WD'⟩ := W
  have hC := C0'
  unfold C0 at hC
  obtain ⟨g0, g3, g4, g5, g6, g7, g8, g9, g11, g60, g80⟩ := hC
  have hL : L.length ≤ 12 := by have := WC'.1; have := WC'.2.1; omega
  have hn : m 52 0 < 512 := by have := WD'.2.1; omega
  have w1 := WQ'.1
  have w3 := (WQ'.2.2 q hq).1
  obtain ⟨hb0, _, hc0, _⟩ := WD'.1 0 (by decide)
  obtain ⟨hb1, _, hc1, _⟩ := WD'.1 1 (by decide)
  have e460 := CD'.2.1 0 (by decide)
  have e461 := CD'.2.1 1 (by decide)
  have e3 := CD'.2.2.2.1
  have Ck : CK (m 19 0) L := WC'.ck WX'
  have ky0 : ∀ y ∈ L, okKey m y := fun y hy => WC'.2.2.2 y hy
  simp (disch := omega) only [z_L_round, z_X11_round, c_needPosT CQ' WQ' hq h0, g5, g8, g0, g11, z_X2_bansFor, e460, u_br_True, u_br_False, u_jn_u, u_lt_u, u_nn_s, u_brn_s, u_brn_n, nI_add, u_n_mul, u_n_lt, u_n_le, u_n_eq, u_n_sub, u_n_div, u_n_mod, nI_clamp, u_m1, u_m1q, u_wI_n, u_wA_n, u_br_t, u_br_f, ↓li_m1, li_0, li_1, li_2, li_3, li_4, li_5, li_6, li_7, li_8, li_9, li_10, li_12, li_13, li_26, li_40, li_60, li_61, li_62, li_99, li_100, li_102, li_106, li_114, li_112, li_117, li_108, li_103, li_120, li_300, li_360, li_512, li_1000, l0c]
  refine c_draw hN ⟨C0', CT', CX', CQ'⟩ WQ' WX' WT' hq hb0 (d := 0) (by decide) (i := 3) (by decide) (fun s1 k1 P1 _ => ?_)
  have q1 := k1.2.2.1
  have S1 : SS m u s1 := SS.kx ⟨C0', CT', CX', CQ'⟩ k1.kx
  have e1 : sP s1 2 0 1 1 = nI (m 46 1) := (k1.1 2 0 1 1 (by decide) (fun e => absurd e.1 (by decide))).trans e461
  simp (disch := omega) only [q1, g5, g9, g0, g11, z_X2_bansFor, e1, u_br_True, u_br_False, u_jn_u, u_lt_u, u_nn_s, u_brn_s, u_brn_n, nI_add, u_n_mul, u_n_lt, u_n_le, u_n_eq, u_n_sub, u_n_div, u_n_mod, nI_clamp, u_m1, u_m1q, u_wI_n, u_wA_n, u_br_t, u_br_f, ↓li_m1, li_0, li_1, li_2, li_3, li_4, li_5, li_6, li_7, li_8, li_9, li_10, li_12, li_13, li_26, li_40, li_60, li_61, li_62, li_99, li_100, li_102, li_106, li_114, li_112, li_117, li_108, li_103, li_120, li_300, li_360, li_512, li_1000]
  refine c_draw hN S1 WQ' WX' WT' hq hb1 (d := 1) (by decide) (i := 4) (by decide) (fun s2 k2 P2 _ => ?_)
  have q2 := k2.2.2.1.trans q1
  have S2 : SS m u s2 := S1.kx k2.kx
  have e2 : ∀ f j, sP s2 2 0 f j = sP σ 2 0 f j := fun f j => (k2.1 2 0 f j (by decide) (fun e => absurd e.1 (by decide))).trans (k1.1 2 0 f j (by decide) (fun e => absurd e.1 (by decide)))
  have e2c : ∀ f j, sP s2 0 0 f j = sP σ 0 0 f j := fun f j => (k2.1 0 0 f j (by decide) (fun e => absurd e.1 (by decide))).trans (k1.1 0 0 f j (by decide) (fun e => absurd e.1 (by decide)))
  have P1' : PL m q (m 46 0) 0 s2 3 := P1.of5 (fun f j => k2.1 5 3 f j (by decide) (fun e => by have := e.2; omega))
  have hkm2 : KM σ s2 := k1.km'.trans k2.km'
  obtain ⟨s3, es3⟩ : ∃ s3, s3 = stQ s2 11 0 10 0 (some q) := ⟨_, rfl⟩
  have S3 : SS m u s3 := by
    rw [es3]
    obtain ⟨x1, x2, x3, x4⟩ := S2
    exact ⟨by rw [C0_stQ1 (by decide)]; exact x1, by rw [CT_stQ (by decide)]; exact x2, by rw [CX_stQ (by decide)]; exact x3, by
      unfold CQ CQ1 CN CJ at *
      simp only [sP_stQ, sQ_stQ, sV_stQ, Nat.reduceEqDiff, true_and, and_true, false_and, and_false, if_true, if_false, eq_self, and_self, Nat.reduceLT, Nat.reduceLeDiff, Nat.reduceAdd, Nat.reduceMul, Nat.reduceDiv, Nat.one_ne_zero]
      exact x4⟩
  have q3 : ∀ f, f ≠ 10 → sQ s3 11 0 f 0 = sQ σ 11 0 f 0 := fun f hf => by rw [es3, sQ_stQ, if_neg (fun e => hf e.2.2.1), q2]
  have q10 : sQ s3 11 0 10 0 = some q := by rw [es3]; simp only [sQ_stQ, Nat.reduceEqDiff, true_and, and_true, false_and, and_false, if_true, if_false, eq_self, and_self, Nat.reduceLT, Nat.reduceLeDiff, Nat.reduceAdd, Nat.reduceMul, Nat.reduceDiv, Nat.one_ne_zero]
  have p3 : ∀ k i f j, sP s3 k i f j = sP s2 k i f j := fun k i f j => by rw [es3]; rfl
  have X3 : CO s3 0 (m 19 0) L := by
    have := CC'.co
    unfold CO at this ⊢
    simp only [p3, e2c]
    exact this
  have P13 : PL m q (m 46 0) 0 s3 3 := P1'.of5 (fun f j => p3 5 3 f j)
  have P23 : PL m q (m 46 1) 1 s3 4 := P2.of5 (fun f j => p3 5 4 f j)
  have CD3 : CD m w s3 := CD'.of2 (fun f j => (p3 2 0 f j).trans (e2 f j))
  have hkm3 : KM σ s3 := hkm2.trans (fun i f j => p3 12 i f j)
  have e33 := CD3.2.2.2.1
  simp only [u_br_True, u_br_False, u_jn_u, u_lt_u, u_nn_s, u_brn_s, u_brn_n, ← es3]
  simp (disch := omega) only [z_X2_roundCount, q3, ne_eq, g11, g6, g0, g3, g8, g9, u_br_True, u_br_False, u_jn_u, u_lt_u, u_nn_s, u_brn_s, u_brn_n, nI_add, u_n_mul, u_n_lt, u_n_le, u_n_eq, u_n_sub, u_n_div, u_n_mod, nI_clamp, u_m1, u_m1q, u_wI_n, u_wA_n, u_br_t, u_br_f, ↓li_m1, li_0, li_1, li_2, li_3, li_4, li_5, li_6, li_7, li_8, li_9, li_10, li_12, li_13, li_26, li_40, li_60, li_61, li_62, li_99, li_100, li_102, li_106, li_114, li_112, li_117, li_108, li_103, li_120, li_300, li_360, li_512, li_1000, Nat.reduceEqDiff, true_and, and_true, false_and, and_false, if_true, if_false, eq_self, and_self, Nat.reduceLT, Nat.reduceLeDiff, Nat.reduceAdd, Nat.reduceMul, Nat.reduceDiv, Nat.one_ne_zero, e33, not_false_eq_true, b10, b00]
  by_cases he : m 52 0 - m 52 0 / 2 * 2 = 0
  · rw [u_br_t he]
    have M1 := MM_lt (d := 0) (L := L) WQ' WT' WX' hq
    have M2 := MM_lt (d := 1) (L := (LL m u q 0 L)) WQ' WT' WX' hq
    refine c_two hN S3 WQ' WT' WX' hq h0 (d := 0) (by decide) P13 X3 Ck (fun s4 k4 X4 Ck4 => ?_)
    have S4 := S3.kx k4.kx
    have q4 : ∀ f, f ≠ 10 → sQ s4 11 0 f 0 = sQ σ 11 0 f 0 := fun f hf => (k4.2.2.1 11 0 f 0 (fun e => absurd e.1 (by decide))).trans (q3 f hf)
    simp only [q4, ne_eq, Nat.reduceEqDiff, not_false_eq_true, g11, g6, g0, g3, g8, g9, u_br_True, u_br_False, u_jn_u, u_lt_u, u_nn_s, u_brn_s, u_brn_n]
    refine c_two hN S4 WQ' WT' WX' hq h0 (d := 1) (by decide) (P23.of5 (fun f j => k4.1 5 4 f j (fun e => absurd e.1 (by decide)) (fun e => absurd e.1 (by decide)))) X4 Ck4 (fun s5 k5 X5 Ck5 => ?_)
    have S5 := S4.kx k5.kx
    have q5 : ∀ f, f ≠ 10 → sQ s5 11 0 f 0 = sQ σ 11 0 f 0 := fun f hf => (k5.2.2.1 11 0 f 0 (fun e => absurd e.1 (by decide))).trans (q4 f hf)
    have q510 : sQ s5 11 0 10 0 = some q := ((k5.2.2.1 11 0 10 0 (fun e => absurd e.1 (by decide))).trans (k4.2.2.1 11 0 10 0 (fun e => absurd e.1 (by decide)))).trans q10
    have e5 : ∀ k i f j, k ≠ 8 → k ≠ 0 → sP s5 k i f j = sP s3 k i f j := fun k i f j h8 hk0 => (k5.1 k i f j (fun e => h8 e.1) (fun e => hk0 e.1)).trans (k4.1 k i f j (fun e => h8 e.1) (fun e => hk0 e.1))
    simp only [q5, ne_eq, Nat.reduceEqDiff, not_false_eq_true, g11, u_br_True, u_br_False, u_jn_u, u_lt_u, u_nn_s, u_brn_s, u_brn_n]
    refine c_endRound (m' := mRd m q (wn (nI (MM m u q 0 L)) (nI (MM m u q 1 (LL m u q 0 L))))) (w' := (upd (upd w (2 * m 52 0) (nI (MM m u q 0 L))) (2 * m 52 0 + 1) (nI (MM m u q 1 (LL m u q 0 L))))) hN (CD3.of2 (fun f j => e5 2 0 f j (by decide) (by decide))) hn (by omega) (by omega) (fun d hd => by have := (WD'.1 d hd).2.2.1; have := WD'.2.2.2; omega) (fun d hd => mRd51 hd) (fun d hd => mRd46 hd) mRd52 mRd16 (fun j hj => by unfold upd; rw [if_neg (by omega), if_neg (by omega)]) (by simp [upd]) (by simp [upd]) (fun s6 D6 w6 e6 l6 Q6 d6 v6 => ?_)
    simp only [Q6, q5, ne_eq, Nat.reduceEqDiff, not_false_eq_true, g11, z_X2_winner, w6, u_br_True, u_br_False, u_jn_u, u_lt_u, u_nn_s, u_brn_s, u_brn_n]
    have R6 : RI m u w L (stL s6 13 0 0 0 (wn (nI (MM m u q 0 L)) (nI (MM m u q 1 (LL m u q 0 L)))).toInt64) := (R.km (hkm3.trans (fun i f j => (e6 12 i f j (by decide)).trans (e5 12 i f j (by decide) (by decide))))).km KM.stL
    refine r_round0 hN R6 W' hq h0 hn he (fun s7 R7 kc e0 => ?_)
    obtain ⟨CAf, WAf⟩ := rd_fin W' hk hq h0 (S5.of2 e6 Q6 v6) (by
      unfold CO at X5 ⊢
      simp only [e6 0 _ _ _ (by decide)]
      exact X5) Ck5 (rsC_keys WQ' WT' WX' hq (rsC_keys WQ' WT' WX' hq ky0)) D6 (by rw [Q6]; exact q510) (P13.of5 (fun f j => (e6 5 3 f j (by decide)).trans (e5 5 3 f j (by decide) (by decide)))) (P23.of5 (fun f j => (e6 5 4 f j (by decide)).trans (e5 5 4 f j (by decide) (by decide))))
    exact hT _ _ _ (fin CAf R7 kc WAf e0)
  · rw [u_br_f he]
    have M1 := MM_lt (d := 1) (L := L) WQ' WT' WX' hq
    have M2 := MM_lt (d := 0) (L := (LL m u q 1 L)) WQ' WT' WX' hq
    refine c_two hN S3 WQ' WT' WX' hq h0 (d := 1) (by decide) P23 X3 Ck (fun s4 k4 X4 Ck4 => ?_)
    have S4 := S3.kx k4.kx
    have q4 : ∀ f, f ≠ 10 → sQ s4 11 0 f 0 = sQ σ 11 0 f 0 := fun f hf => (k4.2.2.1 11 0 f 0 (fun e => absurd e.1 (by decide))).trans (q3 f hf)
    simp only [q4, ne_eq, Nat.reduceEqDiff, not_false_eq_true, g11, g6, g0, g3, g8, g9, u_br_True, u_br_False, u_jn_u, u_lt_u, u_nn_s, u_brn_s, u_brn_n]
    refine c_two hN S4 WQ' WT' WX' hq h0 (d := 0) (by decide) (P13.of5 (fun f j => k4.1 5 3 f j (fun e => absurd e.1 (by decide)) (fun e => absurd e.1 (by decide)))) X4 Ck4 (fun s5 k5 X5 Ck5 => ?_)
    have S5 := S4.kx k5.kx
    have q5 : ∀ f, f ≠ 10 → sQ s5 11 0 f 0 = sQ σ 11 0 f 0 := fun f hf => (k5.2.2.1 11 0 f 0 (fun e => absurd e.1 (by decide))).trans (q4 f hf)
    have q510 : sQ s5 11 0 10 0 = some q := ((k5.2.2.1 11 0 10 0 (fun e => absurd e.1 (by decide))).trans (k4.2.2.1 11 0 10 0 (fun e => absurd e.1 (by decide)))).trans q10
    have e5 : ∀ k i f j, k ≠ 8 → k ≠ 0 → sP s5 k i f j = sP s3 k i f j := fun k i f j h8 hk0 => (k5.1 k i f j (fun e => h8 e.1) (fun e => hk0 e.1)).trans (k4.1 k i f j (fun e => h8 e.1) (fun e => hk0 e.1))
    simp only [q5, ne_eq, Nat.reduceEqDiff, not_false_eq_true, g11, u_br_True, u_br_False, u_jn_u, u_lt_u, u_nn_s, u_brn_s, u_brn_n]
    refine c_endRound (m' := mRd m q (wn (nI (MM m u q 0 (LL m u q 1 L))) (nI (MM m u q 1 L)))) (w' := (upd (upd w (2 * m 52 0 + 1) (nI (MM m u q 1 L))) (2 * m 52 0) (nI (MM m u q 0 (LL m u q 1 L))))) hN (CD3.of2 (fun f j => e5 2 0 f j (by decide) (by decide))) hn (by omega) (by omega) (fun d hd => by have := (WD'.1 d hd).2.2.1; have := WD'.2.2.2; omega) (fun d hd => mRd51 hd) (fun d hd => mRd46 hd) mRd52 mRd16 (fun j hj => by unfold upd; rw [if_neg (by omega), if_neg (by omega)]) (by simp [upd]) (by simp [upd]) (fun s6 D6 w6 e6 l6 Q6 d6 v6 => ?_)
    simp only [Q6, q5, ne_eq, Nat.reduceEqDiff, not_false_eq_true, g11, z_X2_winner, w6, u_br_True, u_br_False, u_jn_u, u_lt_u, u_nn_s, u_brn_s, u_brn_n]
    have R6 : RI m u w L (stL s6 13 0 0 0 (wn (nI (MM m u q 0 (LL m u q 1 L))) (nI (MM m u q 1 L))).toInt64) := (R.km (hkm3.trans (fun i f j => (e6 12 i f j (by decide)).trans (e5 12 i f j (by decide) (by decide))))).km KM.stL
    refine r_round1 hN R6 W' hq h0 hn (by omega) (fun s7 R7 kc e0 => ?_)
    obtain ⟨CAf, WAf⟩ := rd_fin W' hk hq h0 (S5.of2 e6 Q6 v6) (by
      unfold CO at X5 ⊢
      simp only [e6 0 _ _ _ (by decide)]
      exact X5) Ck5 (rsC_keys WQ' WT' WX' hq (rsC_keys WQ' WT' WX' hq ky0)) D6 (by rw [Q6]; exact q510) (P13.of5 (fun f j => (e6 5 3 f j (by decide)).trans (e5 5 3 f j (by decide) (by decide)))) (P23.of5 (fun f j => (e6 5 4 f j (by decide)).trans (e5 5 4 f j (by decide) (by decide))))
    exact hT _ _ _ (fin CAf R7 kc WAf e0)
theorem k_round (hN : 1000000 ≤ N) (I : Inv kk σ) (hk : kk < 512) (p1 : Int32) {T : Int32 → Int32 → St → Prop} (hT : ∀ code b σ2, G (kk + 1) code b σ2 → T code b σ2) : z_L_round N (some 0) p1 σ (fun code σ1 => z_X12_round N 0 p1 σ1 (fun b σ2 => T code b σ2)) := by
  have I0 := I
  obtain ⟨m, u, w, L, R, C, W⟩ := I
  have CQ' := C.2.2.2.2.1
  have WQ' := W.2.2.2.1
  have R0 : RI m u w L (stP σ 12 0 0 0 (nI 0)) := R.tmp rfl
  rcases u_io p1 (m 24 0) with ⟨q, hq, _, rfl⟩ | hp2
  · have w1 := WQ'.1
    by_cases h0 : 0 < m 25 q
    · exact k_roundT hN C R W hk hq h0 hT
    · simp (disch := omega) only [z_L_round, z_X11_round, c_needPos3 CQ' WQ' hq (by omega : m 25 q = 0), u_br_True, u_br_False, u_jn_u, u_lt_u, u_nn_s, u_brn_s, u_brn_n, ↓li_m1, li_0, li_1, li_2, li_3, li_4, li_5, li_6, li_7, li_8, li_9, li_10, li_12, li_13, li_26, li_40, li_60, li_61, li_62, li_99, li_100, li_102, li_106, li_114, li_112, li_117, li_108, li_103, li_120, li_300, li_360, li_512, li_1000, b10, b00, f_0, f_1, u_okT, u_nb_0, u_nb_1, Nat.reduceEqDiff, true_and, and_true, false_and, and_false, if_true, if_false, eq_self, and_self, Nat.reduceLT, Nat.reduceLeDiff, Nat.reduceAdd, Nat.reduceMul, Nat.reduceDiv, Nat.one_ne_zero]
      refine Or.inr ?_
      have e25 := R0.r 25 q rfl
      rw [show m 25 q = 0 by omega] at e25
      simp (disch := omega) only [z_X12_round, r_isQ R0 WQ' hq, u_br_True, u_br_False, u_jn_u, u_lt_u, u_nn_s, u_brn_s, u_brn_n, nI_add, u_n_mul, u_n_lt, u_n_le, u_n_eq, u_n_sub, u_n_div, u_n_mod, nI_clamp, u_m1, u_m1q, u_wI_n, u_wA_n, u_br_t, u_br_f, ↓li_m1, li_0, li_1, li_2, li_3, li_4, li_5, li_6, li_7, li_8, li_9, li_10, li_12, li_13, li_26, li_40, li_60, li_61, li_62, li_99, li_100, li_102, li_106, li_114, li_112, li_117, li_108, li_103, li_120, li_300, li_360, li_512, li_1000, b10, b00, f_0, f_1, u_okT, u_nb_0, u_nb_1, e25]
      exact hT _ _ _ (G_exc (c := 2) I0 hk (by decide) (by decide))
  · simp (disch := omega) only [z_L_round, z_X11_round, c_needPos2 CQ' WQ' hp2, u_br_True, u_br_False, u_jn_u, u_lt_u, u_nn_s, u_brn_s, u_brn_n, ↓li_m1, li_0, li_1, li_2, li_3, li_4, li_5, li_6, li_7, li_8, li_9, li_10, li_12, li_13, li_26, li_40, li_60, li_61, li_62, li_99, li_100, li_102, li_106, li_114, li_112, li_117, li_108, li_103, li_120, li_300, li_360, li_512, li_1000, b10, b00, f_0, f_1, u_okT, u_nb_0, u_nb_1, Nat.reduceEqDiff, true_and, and_true, false_and, and_false, if_true, if_false, eq_self, and_self, Nat.reduceLT, Nat.reduceLeDiff, Nat.reduceAdd, Nat.reduceMul, Nat.reduceDiv, Nat.one_ne_zero]
    refine Or.inl ?_
    simp (disch := omega) only [z_X12_round, r_isQO R0 WQ' hp2, u_br_True, u_br_False, u_jn_u, u_lt_u, u_nn_s, u_brn_s, u_brn_n, ↓li_m1, li_0, li_1, li_2, li_3, li_4, li_5, li_6, li_7, li_8, li_9, li_10, li_12, li_13, li_26, li_40, li_60, li_61, li_62, li_99, li_100, li_102, li_106, li_114, li_112, li_117, li_108, li_103, li_120, li_300, li_360, li_512, li_1000, b10, b00, f_0, f_1, u_okT, u_nb_0, u_nb_1, Nat.reduceEqDiff, true_and, and_true, false_and, and_false, if_true, if_false, eq_self, and_self, Nat.reduceLT, Nat.reduceLeDiff, Nat.reduceAdd, Nat.reduceMul, Nat.reduceDiv, Nat.one_ne_zero]
    exact hT _ _ _ (G_exc (c := 1) I0 hk (by decide) (by decide))
end KROUND2
