section INDEX
variable {m m' : Nat → Nat → Nat} {u u' w : Nat → Int32} {L L' E : List Nat} {σ σ' σ1 σ2 : St} {N kk t c k n F key row lo hi : Nat}
theorem CT1.k3 (C : CT1 m u σ t) (h : K3 k σ σ') : CT1 m u σ' t := by
  unfold CT1 at *
  simp only [h.1 10 _ _ _ (fun e => absurd e.1 (by decide))]
  exact C
theorem CT.k3 (C : CT m u σ) (h : K3 k σ σ') : CT m u σ' := by
  obtain ⟨a1, a2, a3, a4⟩ := C
  exact ⟨by rw [h.1 9 _ _ _ (fun e => absurd e.1 (by decide))]; exact a1, by rw [h.2.2.2.2]; exact a2, by rw [h.2.2.1]; exact a3, fun t ht => (a4 t ht).k3 h⟩
theorem CC.k3 (C : CC m L σ) (h : K3 k σ σ') : CC m L σ' := by
  unfold CC at *
  simp only [h.1 0 _ _ _ (fun e => absurd e.1 (by decide))]
  exact C
/-- the rows that are there come into a new index, one by one -/
theorem c_fill (hN : 1000000 ≤ N) (T : CT1 m u σ t) (W : WT m u) (ht : t < m 1 0) (hc : c < m 2 t) (X : XO σ n t c []) {K : St → Prop}
    (h : ∀ s, XO s n t c (ent m u t c) → K3 n σ s → K s) :
    fx2 (fun (w35 : Int32 → St → Prop) (x8 : Int32) (h7 : St) => br (nI 40 ≤ x8) (K h7) (z_X10_hasRow N t x8 h7 fun v13 => jn (fun (h14 : St) => w35 (x8 + nI 1) h14) (fun j58 => br (v13 = nI 0) (j58 h7) (z_X3_addRow N n x8 h7 fun h15 => j58 h15)))) N (nI 0) σ := by
  have h1 := W.nt
  have hcl := W.cl ht
  have V := W.vg ht hc
  have h3 := W.2.2.2.1 t (by omega)
  refine for_u 40 (by omega) (by omega) (fun i s => K3 n σ s ∧ XO s n t c (eN m u t c i)) 0 (by omega) (fun self i s hi hI hs => ?_) ⟨K3.refl, ?_⟩
  · obtain ⟨i1, i2⟩ := hI
    by_cases hl : i < 40
    · have Ts := T.k3 i1
      by_cases hth : th m t i = true
      · have him := W.th_lt (by omega) hl hth
        have hE := eN_len V (by omega : i ≤ 40)
        have hle := livN_le (m := m) (t := t) (n := i)
        obtain ⟨v, hv, ev⟩ := V i hl hth
        have hr : ∀ r ∈ eN m u t c i, r < m 3 t := fun r hr => by
          have := (mem_eN V (by omega)).mp hr
          exact W.th_lt (by omega) (by omega) this.2
        have hV : ∀ r ∈ eN m u t c i, ∃ v, v < 100 ∧ vl u t r c = nI v := fun r hr => by
          have := (mem_eN V (by omega)).mp hr
          exact V r (by omega) this.2
        simp (disch := omega) only [u_br_True, u_br_False, u_jn_u, u_lt_u, u_nn_s, u_brn_s, u_brn_n, nI_add, u_n_mul, u_n_lt, u_n_le, u_n_eq, u_n_sub, u_n_div, u_n_mod, nI_clamp, u_m1, u_m1q, u_wI_n, u_wA_n, u_br_t, u_br_f, c_hasR Ts W (by omega : t < 3) hl, hth, Nat.reduceEqDiff, true_and, and_true, false_and, and_false, if_true, if_false, eq_self, and_self, Nat.reduceLT, Nat.reduceLeDiff, Nat.reduceAdd, Nat.reduceMul, Nat.reduceDiv, Nat.one_ne_zero, b10, b00, f_0, f_1, u_okT, u_nb_0, u_nb_1]
        refine c_addX hN i2 (Ts.tc) h3 (by omega) (by omega) hr hV him hv ev (fun s' X' hK' => ?_)
        refine hs _ hl ⟨⟨fun k' i' f j hn => (hK'.1 k' i' f j hn).trans (i1.1 k' i' f j hn), hK'.2.1.trans i1.2.1, hK'.2.2.1.trans i1.2.2.1, hK'.2.2.2.1.trans i1.2.2.2.1, hK'.2.2.2.2.trans i1.2.2.2.2⟩, ?_⟩
        rw [eN_ins V hl hth, ev, u_tN_nI (by omega)]
        exact X'
      · simp (disch := omega) only [u_br_True, u_br_False, u_jn_u, u_lt_u, u_nn_s, u_brn_s, u_brn_n, nI_add, u_n_mul, u_n_lt, u_n_le, u_n_eq, u_n_sub, u_n_div, u_n_mod, nI_clamp, u_m1, u_m1q, u_wI_n, u_wA_n, u_br_t, u_br_f, c_hasR Ts W (by omega : t < 3) hl, if_neg hth, b10, b00, f_0, f_1, u_okT, u_nb_0, u_nb_1]
        refine hs _ hl ⟨i1, ?_⟩
        rw [eN_skip hth]
        exact i2
    · simp (disch := omega) only [u_br_True, u_br_False, u_jn_u, u_lt_u, u_nn_s, u_brn_s, u_brn_n, nI_add, u_n_mul, u_n_lt, u_n_le, u_n_eq, u_n_sub, u_n_div, u_n_mod, nI_clamp, u_m1, u_m1q, u_wI_n, u_wA_n, u_br_t, u_br_f]
      rw [show i = 40 by omega] at i2
      exact h _ i2 i1
  · have e : eN m u t c 0 = [] := by simp [eN]
    rw [e]
    exact X
theorem r_index (R : RI m u w L σ) (W : WT m u) (ht : t < m 1 0) (hc : c < m 2 t) (h : m 13 0 < 6) {K : Int32 → St → Prop} :
    z_X12_index N 0 (nI t) (nI c) σ K = K (nI (m 13 0)) (stP (stP (stP (stP (stP σ 12 0 0 0 (nI 0)) 12 0 16 0 (nI 0)) 12 0 14 (m 13 0) (nI t)) 12 0 15 (m 13 0) (nI c)) 12 0 13 0 (nI (m 13 0 + 1))) := by
  have R0 : RI m u w L (stP σ 12 0 0 0 (nI 0)) := R.tmp rfl
  have h1 := W.nt
  have hcl := W.cl ht
  simp (disch := omega) only [z_X12_index, r_isT R0 W ht, r_isC R0 W ht hc, u_br_True, u_br_False, u_jn_u, u_lt_u, u_nn_s, u_brn_s, u_brn_n, nI_add, u_n_mul, u_n_lt, u_n_le, u_n_eq, u_n_sub, u_n_div, u_n_mod, nI_clamp, u_m1, u_m1q, u_wI_n, u_wA_n, u_br_t, u_br_f, ↓li_m1, li_0, li_1, li_2, li_3, li_4, li_5, li_6, li_7, li_8, li_9, li_10, li_12, li_13, li_26, li_40, li_60, li_61, li_62, li_99, li_100, li_102, li_106, li_114, li_112, li_117, li_108, li_103, li_120, li_300, li_360, li_512, li_1000, b10, b00, f_0, f_1, u_okT, u_nb_0, u_nb_1, sP_stP, Nat.reduceEqDiff, true_and, and_true, false_and, and_false, if_true, if_false, eq_self, and_self, Nat.reduceLT, Nat.reduceLeDiff, Nat.reduceAdd, Nat.reduceMul, Nat.reduceDiv, Nat.one_ne_zero, (fun j => R.r 13 j rfl)]
  rw [show m 13 0 + 1 - 1 = m 13 0 by omega]
theorem r_index3 (R : RI m u w L σ) (W : WT m u) (ht : t < m 1 0) (hc : c < m 2 t) (h : m 13 0 = 6) {K : Int32 → St → Prop} :
    z_X12_index N 0 (nI t) (nI c) σ K = K mI (stP σ 12 0 0 0 (nI 3)) := by
  have R0 : RI m u w L (stP σ 12 0 0 0 (nI 0)) := R.tmp rfl
  simp (disch := omega) only [z_X12_index, r_isT R0 W ht, r_isC R0 W ht hc, u_br_True, u_br_False, u_jn_u, u_lt_u, u_nn_s, u_brn_s, u_brn_n, nI_add, u_n_mul, u_n_lt, u_n_le, u_n_eq, u_n_sub, u_n_div, u_n_mod, nI_clamp, u_m1, u_m1q, u_wI_n, u_wA_n, u_br_t, u_br_f, ↓li_m1, li_0, li_1, li_2, li_3, li_4, li_5, li_6, li_7, li_8, li_9, li_10, li_12, li_13, li_26, li_40, li_60, li_61, li_62, li_99, li_100, li_102, li_106, li_114, li_112, li_117, li_108, li_103, li_120, li_300, li_360, li_512, li_1000, b10, b00, f_0, f_1, u_okT, u_nb_0, u_nb_1, sP_stP, Nat.reduceEqDiff, true_and, and_true, false_and, and_false, if_true, if_false, eq_self, and_self, Nat.reduceLT, Nat.reduceLeDiff, Nat.reduceAdd, Nat.reduceMul, Nat.reduceDiv, Nat.one_ne_zero, (fun j => R.r 13 j rfl), h]
def mX (m : Nat → Nat → Nat) (t c : Nat) : Nat → Nat → Nat := mu (mu (mu (mu m 16 0 0) 14 (m 13 0) t) 15 (m 13 0) c) 13 0 (m 13 0 + 1)
theorem k_index (hN : 1000000 ≤ N) (I : Inv kk σ) (hk : kk < 512) (p p2 : Int32) {T : Int32 → Int32 → St → Prop} (hT : ∀ code b σ2, G (kk + 1) code b σ2 → T code b σ2) : z_L_index N (some 0) p p2 σ (fun code σ1 => z_X12_index N 0 p p2 σ1 (fun b σ2 => T code b σ2)) := by
  have I0 := I
  obtain ⟨m, u, w, L, R, ⟨C0', CT', CX', CC', CQ', CD', CP'⟩, WT', WX', WC', WQ', WD'⟩ := I
  have hC := C0'
  unfold C0 at hC
  have R0 : RI m u w L (stP σ 12 0 0 0 (nI 0)) := R.tmp rfl
  have h1 := WT'.nt
  have hx6 := WX'.1
  rcases u_io p (m 1 0) with ⟨t, ht, _, rfl⟩ | hp
  · have hcl := WT'.cl ht
    have hT1 := CT'.2.2.2 t ht
    rcases u_io p2 (m 2 t) with ⟨c, hc, _, rfl⟩ | hp2
    · by_cases h6 : m 13 0 = 6
      · simp (disch := omega) only [z_L_index, z_X11_index, z_X9_addIndex, c_needT C0' CT' WT' ht, c_hasC hT1.2.1 hc hcl.2, hC, CX'.1, h6, r_index3 R WT' ht hc h6, u_br_True, u_br_False, u_jn_u, u_lt_u, u_nn_s, u_brn_s, u_brn_n, nI_add, u_n_mul, u_n_lt, u_n_le, u_n_eq, u_n_sub, u_n_div, u_n_mod, nI_clamp, u_m1, u_m1q, u_wI_n, u_wA_n, u_br_t, u_br_f, ↓li_m1, li_0, li_1, li_2, li_3, li_4, li_5, li_6, li_7, li_8, li_9, li_10, li_12, li_13, li_26, li_40, li_60, li_61, li_62, li_99, li_100, li_102, li_106, li_114, li_112, li_117, li_108, li_103, li_120, li_300, li_360, li_512, li_1000, b10, b00, f_0, f_1, u_okT, u_nb_0, u_nb_1]
        exact Or.inr (Or.inr ⟨trivial, hT _ _ _ (G_exc (c := 3) I0 hk (by decide) (by decide))⟩)
      · have h : m 13 0 < 6 := by omega
        have hV3 := CX'.2.1
        have hT2 : CT1 m u (sN3 σ (nI (m 13 0)) (some t) (nI c)) t := by
          unfold CT1 at hT1 ⊢
          simp only [sN3, n_P (by decide : 10 ≠ 3)]
          exact hT1
        have hXO : XO (sN3 σ (nI (m 13 0)) (some t) (nI c)) (m 13 0) t c [] := by
          refine ⟨?_, ?_, ?_, fun j hj => absurd hj (by simp)⟩
          · simp [sN3, sQ_stN, hV3]
          · simp [sN3, sP_stN, hV3]
          · simp [sN3, sP_stN, hV3, li_0]
        simp (disch := omega) only [z_L_index, z_X11_index, z_X9_addIndex, c_needT C0' CT' WT' ht, c_hasC hT1.2.1 hc hcl.2, hC, CX'.1, hV3, u_br_True, u_br_False, u_jn_u, u_lt_u, u_nn_s, u_brn_s, u_brn_n, nI_add, u_n_mul, u_n_lt, u_n_le, u_n_eq, u_n_sub, u_n_div, u_n_mod, nI_clamp, u_m1, u_m1q, u_wI_n, u_wA_n, u_br_t, u_br_f, ↓li_m1, li_0, li_1, li_2, li_3, li_4, li_5, li_6, li_7, li_8, li_9, li_10, li_12, li_13, li_26, li_40, li_60, li_61, li_62, li_99, li_100, li_102, li_106, li_114, li_112, li_117, li_108, li_103, li_120, li_300, li_360, li_512, li_1000, b10, b00, f_0, f_1, u_okT, u_nb_0, u_nb_1]
        refine c_fill hN hT2 WT' ht hc hXO (fun s hX hK => ?_)
        have C0s : C0 s := (FI.of3 hK).c0 (by rw [sN3, C0_stN (by decide)]; exact C0')
        have hCs := C0s
        unfold C0 at hCs
        simp (disch := omega) only [z_X2_closeAppeals, sQ_stP, sQ_stQ, hCs, u_br_True, u_br_False, u_jn_u, u_lt_u, u_nn_s, u_brn_s, u_brn_n, nI_add, u_n_mul, u_n_lt, u_n_le, u_n_eq, u_n_sub, u_n_div, u_n_mod, nI_clamp, u_m1, u_m1q, u_wI_n, u_wA_n, u_br_t, u_br_f, ↓li_m1, li_0, li_1, li_2, li_3, li_4, li_5, li_6, li_7, li_8, li_9, li_10, li_12, li_13, li_26, li_40, li_60, li_61, li_62, li_99, li_100, li_102, li_106, li_114, li_112, li_117, li_108, li_103, li_120, li_300, li_360, li_512, li_1000, b10, b00, f_0, f_1, u_okT, u_nb_0, u_nb_1, Nat.reduceEqDiff, true_and, and_true, false_and, and_false, if_true, if_false, eq_self, and_self, Nat.reduceLT, Nat.reduceLeDiff, Nat.reduceAdd, Nat.reduceMul, Nat.reduceDiv, Nat.one_ne_zero, wA_l, l0c]
        have KM1 : KM σ s := fun i f j => by rw [hK.1 12 i f j (fun e => absurd e.1 (by decide)), sN3, n_P (by decide)]
        have Rc : RI m u w L (stP (stP (stQ s 9 0 2 (m 13 0) (some (m 13 0))) 9 0 3 0 (nI (m 13 0 + 1))) 2 0 5 0 (nI 0)) := R.km (((KM1.trans KM.stQ).trans (KM.st (by decide))).trans (KM.st (by decide)))
        rw [r_index (Rc.km KM.stL) WT' ht hc h]
        refine hT _ _ _ (fin (m := mX m t c) (u := u) (w := w) (L := L) (σc := stP (stP (stQ s 9 0 2 (m 13 0) (some (m 13 0))) 9 0 3 0 (nI (m 13 0 + 1))) 2 0 5 0 (nI 0)) ?_ ?_ (((((KC.st).trans KC.st).trans KC.st).trans KC.st).trans KC.st) ?_ (by simp (disch := decide) only [sP_o, sP_e]))
        · refine ⟨?_, ?_, ?_, ?_, ?_, ?_, CP_0 (by simp [mX, mu])⟩
          · rw [C0_st, C0_st, C0_stQ (by decide)]; exact C0s
          · rw [CT_st (by decide)]
            have hTs : CT m u s := CT.k3 (by rw [sN3, CT_stN (by decide)]; exact CT') hK
            simp (disch := decide) only [mX, CT_mu]
            obtain ⟨a1, a2, a3, a4⟩ := hTs
            refine ⟨by simp [sP_stP, sP_stQ, a1], by simp [sV_stP, sV_stQ, a2], fun t ht => by simp [sQ_stP, sQ_stQ, a3 t ht], fun t ht => ?_⟩
            have := a4 t ht
            unfold CT1 at this ⊢
            simpa [sP_stP, sP_stQ] using this
          · rw [CX_st (by decide)]
            have e13 : mX m t c 13 0 = m 13 0 + 1 := by simp [mX, mu]
            obtain ⟨b1, b2, b3, b4⟩ := CX'
            have eent : ent (mX m t c) = ent m := by
              simp (disch := decide) only [mX, ent_mu]
            refine ⟨by simp [sP_stP, e13], by rw [sV_stP, sV_stQ, hK.2.2.2.2, sN3, sV_stN, if_pos rfl, b2, e13], fun k hk => ?_, fun k hk => ?_⟩
            · rw [e13]
              simp only [sQ_stP, sQ_stQ, hK.2.2.1, sN3, n_Q (by decide : 9 ≠ 3), Nat.reduceEqDiff, true_and, and_true, false_and, and_false, if_true, if_false, eq_self, and_self, Nat.reduceLT, Nat.reduceLeDiff, Nat.reduceAdd, Nat.reduceMul, Nat.reduceDiv, Nat.one_ne_zero]
              by_cases e : k = m 13 0
              · rw [if_pos e, if_pos (by omega), e]
              · rw [if_neg e, b3 k hk]
                split <;> split <;> first | rfl | omega
            · rw [e13] at hk
              by_cases e : k = m 13 0
              · subst e
                have e14 : mX m t c 14 (m 13 0) = t := by simp [mX, mu]
                have e15 : mX m t c 15 (m 13 0) = c := by simp [mX, mu]
                refine CX1.of ?_ ?_
                · rw [e14, e15, eent]
                  obtain ⟨x1, x2, x3, x4⟩ := hX
                  exact ⟨by simp [sQ_stP, sQ_stQ, x1], by simp [sP_stP, sP_stQ, x2], by simp [sP_stP, sP_stQ, x3], fun j hj => by simp only [sP_stP, sP_stQ, Nat.reduceEqDiff, true_and, and_true, false_and, and_false, if_true, if_false, eq_self, and_self, Nat.reduceLT, Nat.reduceLeDiff, Nat.reduceAdd, Nat.reduceMul, Nat.reduceDiv, Nat.one_ne_zero]; exact x4 j hj⟩
                · simp only [sP_stP, sP_stQ, Nat.reduceEqDiff, true_and, and_true, false_and, and_false, if_true, if_false, eq_self, and_self, Nat.reduceLT, Nat.reduceLeDiff, Nat.reduceAdd, Nat.reduceMul, Nat.reduceDiv, Nat.one_ne_zero]
                  rw [hK.1 3 (m 13 0) 0 0 (by omega), sN3, sP_stN, if_pos ⟨rfl, hV3.symm⟩, if_pos rfl]
              · have e14 : mX m t c 14 k = m 14 k := by simp [mX, mu, e]
                have e15 : mX m t c 15 k = m 15 k := by simp [mX, mu, e]
                have X0 := (b4 k (by omega)).xo
                have h0 := (b4 k (by omega)).1
                have hne : ¬ (3 = 3 ∧ k = sV σ 3) := by rw [hV3]; exact fun h => e h.2
                refine CX1.of ?_ ?_
                · rw [e14, e15, eent]
                  have X1 : XO (sN3 σ (nI (m 13 0)) (some t) (nI c)) k (m 14 k) (m 15 k) (ent m u (m 14 k) (m 15 k)) := by
                    obtain ⟨x1, x2, x3, x4⟩ := X0
                    exact ⟨by rw [sN3, sQ_stN, if_neg hne]; exact x1, by rw [sN3, sP_stN, if_neg hne]; exact x2, by rw [sN3, sP_stN, if_neg hne]; exact x3, fun j hj => by rw [sN3, sP_stN, if_neg hne]; exact x4 j hj⟩
                  obtain ⟨x1, x2, x3, x4⟩ := X1.k3 hK e
                  exact ⟨by simp [sQ_stP, sQ_stQ, x1], by simp [sP_stP, sP_stQ, x2], by simp [sP_stP, sP_stQ, x3], fun j hj => by simp only [sP_stP, sP_stQ, Nat.reduceEqDiff, true_and, and_true, false_and, and_false, if_true, if_false, eq_self, and_self, Nat.reduceLT, Nat.reduceLeDiff, Nat.reduceAdd, Nat.reduceMul, Nat.reduceDiv, Nat.one_ne_zero]; exact x4 j hj⟩
                · simp only [sP_stP, sP_stQ, Nat.reduceEqDiff, true_and, and_true, false_and, and_false, if_true, if_false, eq_self, and_self, Nat.reduceLT, Nat.reduceLeDiff, Nat.reduceAdd, Nat.reduceMul, Nat.reduceDiv, Nat.one_ne_zero]
                  rw [hK.1 3 k 0 0 (by omega), sN3, sP_stN, if_neg hne]
                  exact h0
          · simp (disch := decide) only [mX, CC_mu, CC_st, CC_stQ]
            exact CC.k3 (by rw [sN3, CC_stN (by decide)]; exact CC') hK
          · simp (disch := decide) only [mX, CQ_mu, CQ_st, CQ_stQ]
            exact (FI.of3 hK).cq (by rw [sN3, CQ_stN (by decide)]; exact CQ')
          · simp (disch := decide) only [mX, CD_mu]
            refine CD_close ?_
            simp (disch := decide) only [CD_st, CD_stQ]
            exact (FI.of3 hK).cd (by rw [sN3, CD_stN (by decide)]; exact CD')
        · exact (((((Rc.km KM.stL).tmp rfl).set rfl).set rfl).set rfl).set rfl
        · refine ⟨?_, ?_, ?_, ?_, ?_⟩
          · simp (disch := decide) only [mX, WT_mu]; exact WT'
          · obtain ⟨w1, w2⟩ := WX'
            refine ⟨by simp [mX, mu]; omega, fun k hk => ?_⟩
            have hk2 : k < m 13 0 + 1 := by simpa [mX, mu] using hk
            by_cases e : k = m 13 0
            · subst e
              simp [mX, mu]
              exact ⟨ht, hc⟩
            · have := w2 k (by omega)
              simpa [mX, mu, e] using this
          · obtain ⟨w1, w2, w3, w4⟩ := WC'
            have e13 : mX m t c 13 0 = m 13 0 + 1 := by simp [mX, mu]
            have e19 : mX m t c 19 0 = m 19 0 := by simp [mX, mu]
            refine ⟨by rw [e19]; exact w1, by rw [e19]; exact w2, w3, fun x hx => ?_⟩
            rw [e13]
            rcases w4 x hx with h9 | ⟨k, h9, h8⟩
            · exact Or.inl h9
            · exact Or.inr ⟨k, by omega, h8⟩
          · simp (disch := decide) only [mX, WQ_mu]; exact WQ'
          · simp (disch := decide) only [mX, WD_mu]; exact WD_close (WD_up WD' hk)
    · simp (disch := omega) only [z_L_index, z_X11_index, z_X12_index, c_needT C0' CT' WT' ht, c_hasCO hT1.2.1 hp2 hcl.2, r_isT R0 WT' ht, r_isCO R0 WT' ht hp2, u_br_True, u_br_False, u_jn_u, u_lt_u, u_nn_s, u_brn_s, u_brn_n, ↓li_m1, li_0, li_1, li_2, li_3, li_4, li_5, li_6, li_7, li_8, li_9, li_10, li_12, li_13, li_26, li_40, li_60, li_61, li_62, li_99, li_100, li_102, li_106, li_114, li_112, li_117, li_108, li_103, li_120, li_300, li_360, li_512, li_1000, b10, b00, f_0, f_1, u_okT, u_nb_0, u_nb_1]
      exact Or.inr (Or.inl ⟨trivial, hT _ _ _ (G_exc (c := 2) I0 hk (by decide) (by decide))⟩)
  · simp (disch := omega) only [z_L_index, z_X11_index, z_X12_index, c_needTO C0' CT' WT' hp, r_isTO R0 WT' hp, u_br_True, u_br_False, u_jn_u, u_lt_u, u_nn_s, u_brn_s, u_brn_n, ↓li_m1, li_0, li_1, li_2, li_3, li_4, li_5, li_6, li_7, li_8, li_9, li_10, li_12, li_13, li_26, li_40, li_60, li_61, li_62, li_99, li_100, li_102, li_106, li_114, li_112, li_117, li_108, li_103, li_120, li_300, li_360, li_512, li_1000, b10, b00, f_0, f_1, u_okT, u_nb_0, u_nb_1]
    exact Or.inl ⟨trivial, hT _ _ _ (G_exc (c := 1) I0 hk (by decide) (by decide))⟩
end INDEX
