section LISTS
variable {m m' : Nat → Nat → Nat} {u u' w : Nat → Int32} {L E : List Nat} {σ σ' σ1 : St} {N kk t c k n : Nat}
/-- only the list of one index's entries changed (the reference) -/
def KL (k : Nat) (σ σ' : St) : Prop := (∀ k' i f j, ¬ (k' = 12 ∧ i = 0 ∧ ((f = 17 ∧ 40 * k ≤ j ∧ j < 40 * k + 40) ∨ (f = 18 ∧ j = k))) → sP σ' k' i f j = sP σ k' i f j) ∧ sL_ σ' = sL_ σ ∧ sQ σ' = sQ σ ∧ sD_ σ' = sD_ σ ∧ sV σ' = sV σ
def LST (σ : St) (k : Nat) (E : List Nat) : Prop := sP σ 12 0 18 k = nI E.length ∧ ∀ j, j < E.length → sP σ 12 0 17 (40 * k + j) = nI (E.getD j 0)
theorem KL.refl : KL k σ σ := ⟨fun _ _ _ _ _ => rfl, rfl, rfl, rfl, rfl⟩
theorem KL.st {f j : Nat} {v : Int32} (h : KL k σ σ') (hf : (f = 17 ∧ 40 * k ≤ j ∧ j < 40 * k + 40) ∨ (f = 18 ∧ j = k)) : KL k σ (stP σ' 12 0 f j v) := by
  refine ⟨fun k' i f' j' hn => ?_, h.2.1, h.2.2.1, h.2.2.2.1, h.2.2.2.2⟩
  rw [sP_stP, if_neg (fun e => hn ⟨e.1, e.2.1, by rw [e.2.2.1, e.2.2.2]; exact hf⟩)]
  exact h.1 k' i f' j' hn
theorem KL.kc (h : KL k σ σ') : KC σ σ' := ⟨fun k' i f j hn => h.1 k' i f j (fun e => hn e.1), h.2.1, h.2.2.1, h.2.2.2.1, h.2.2.2.2⟩
theorem RI.kl (R : RI m u w L σ) (h : KL k σ σ') : RI m u w L σ' := by
  have e : ∀ f j, f ≠ 17 → f ≠ 18 → sP σ' 12 0 f j = sP σ 12 0 f j := fun f j h1 h2 => h.1 12 0 f j (fun e => by rcases e.2.2 with h9 | h9 <;> omega)
  obtain ⟨r1, r2, r3, r4, r5⟩ := R
  refine ⟨fun f j hf => ?_, fun j => ?_, fun j => ?_, ?_, fun j hj => ?_⟩
  · rw [e f j (by intro h9; subst h9; revert hf; decide) (by intro h9; subst h9; revert hf; decide)]; exact r1 f j hf
  · rw [e 5 j (by decide) (by decide)]; exact r2 j
  · rw [e 53 j (by decide) (by decide)]; exact r3 j
  · rw [e 21 0 (by decide) (by decide)]; exact r4
  · rw [e 20 j (by decide) (by decide)]; exact r5 j hj
theorem LST.kl {k' : Nat} (X : LST σ k E) (hE : E.length ≤ 40) (h : KL k' σ σ') (hne : k ≠ k') : LST σ' k E := by
  refine ⟨?_, fun j hj => ?_⟩
  · rw [h.1 12 0 18 k (fun e => by rcases e.2.2 with h9 | h9 <;> omega)]; exact X.1
  · rw [h.1 12 0 17 _ (fun e => by rcases e.2.2 with h9 | h9 <;> omega)]; exact X.2 j hj
theorem r_lists (hN : 1000000 ≤ N) (R : RI m u w L σ) (W : WT m u) (WX' : WX m) (hk : k < m 13 0) {K : St → Prop}
    (h : ∀ σ', LST σ' k (ent m u (m 14 k) (m 15 k)) → KL k σ σ' → K σ') : z_X12_lists N 0 (nI k) σ K := by
  have hx6 := WX'.1
  obtain ⟨ht, hc⟩ := WX'.2 k hk
  have h1 := W.nt
  have h3 := W.2.2.2.1 (m 14 k) (by omega)
  have hcl := W.cl ht
  have h40 := ent_len40 W ht hc
  simp (disch := omega) only [z_X12_lists, u_br_True, u_br_False, u_jn_u, u_lt_u, u_nn_s, u_brn_s, u_brn_n, nI_add, u_n_mul, u_n_lt, u_n_le, u_n_eq, u_n_sub, u_n_div, u_n_mod, nI_clamp, u_m1, u_m1q, u_wI_n, u_wA_n, u_br_t, u_br_f, ↓li_m1, li_0, li_1, li_2, li_3, li_4, li_5, li_6, li_7, li_8, li_9, li_10, li_12, li_13, li_26, li_40, li_60, li_61, li_62, li_99, li_100, li_102, li_106, li_114, li_112, li_117, li_108, li_103, li_120, li_300, li_360, li_512, li_1000, (fun j => R.r 14 j rfl)]
  refine for_m 100 (by omega) (by omega) (fun v a s => a = nI (eV m u (m 14 k) (m 15 k) v).length ∧ KL k σ s ∧ ∀ j, j < (eV m u (m 14 k) (m 15 k) v).length → sP s 12 0 17 (40 * k + j) = nI ((eV m u (m 14 k) (m 15 k) v).getD j 0)) 0 (by omega) (fun self v a s hv hI hs => ?_) ⟨rfl, KL.refl, fun j hj => absurd hj (by simp [eV])⟩
  obtain ⟨rfl, i2, i3⟩ := hI
  by_cases hlv : v < 100
  · rw [u_br_f (by rw [u_n_lt (by omega) (by omega)]; omega)]
    refine for_m (m 3 (m 14 k)) (by omega) (by omega) (fun r a s => a = nI (eR m u (m 14 k) (m 15 k) v r).length ∧ KL k σ s ∧ ∀ j, j < (eR m u (m 14 k) (m 15 k) v r).length → sP s 12 0 17 (40 * k + j) = nI ((eR m u (m 14 k) (m 15 k) v r).getD j 0)) 0 (by omega) (fun self2 r a s2 hr hI2 hs2 => ?_) ⟨by rw [eR_0], i2, by rw [eR_0]; exact i3⟩
    obtain ⟨rfl, p2, p3⟩ := hI2
    have Rs := R.kl p2
    by_cases hlr : r < m 3 (m 14 k)
    · have hle := eR_len W ht hc hlv (by omega : r + 1 ≤ 40)
      have hle0 := eR_len W ht hc hlv (by omega : r ≤ 40)
      by_cases hth : th m (m 14 k) r = true
      · by_cases hval : vl u (m 14 k) r (m 15 k) = nI v
        · have hpv : pv m u (m 14 k) (m 15 k) v r = true := by simp [pv, hth, hval]
          have e9 := eR_s (m := m) (u := u) (t := m 14 k) (c := m 15 k) (v := v) (r := r)
          rw [if_pos hpv] at e9
          have e8 : (eR m u (m 14 k) (m 15 k) v (r + 1)).length = (eR m u (m 14 k) (m 15 k) v r).length + 1 := by rw [e9]; simp
          simp (disch := omega) only [u_br_True, u_br_False, u_jn_u, u_lt_u, u_nn_s, u_brn_s, u_brn_n, u_wI_n, u_wA_n, nI_clamp, u_n_mul, nI_add, u_n_le, u_br_f, (fun j => Rs.r 3 j rfl), (fun j => Rs.r 15 j rfl), r_hasR Rs W (by omega : m 14 k < 3) (by omega : r < 40), hth, Nat.reduceEqDiff, true_and, and_true, false_and, and_false, if_true, if_false, eq_self, and_self, Nat.reduceLT, Nat.reduceLeDiff, Nat.reduceAdd, Nat.reduceMul, Nat.reduceDiv, Nat.one_ne_zero, b10, b00, f_0, f_1, u_okT, u_nb_0, u_nb_1, ↓li_m1, li_0, li_1, li_2, li_3, li_4, li_5, li_6, li_7, li_8, li_9, li_10, li_12, li_13, li_26, li_40, li_60, li_61, li_62, li_99, li_100, li_102, li_106, li_114, li_112, li_117, li_108, li_103, li_120, li_300, li_360, li_512, li_1000, r_at Rs (by omega : m 14 k < 3) (by omega : r < 40) (by omega : m 15 k < 3), hval]
          refine hs2 _ _ hlr ⟨by rw [e8], p2.st (Or.inl ⟨rfl, by omega, by omega⟩), fun j hj => ?_⟩
          rw [e9, List.getD_eq_getElem?_getD, List.getElem?_append]
          simp only [sP_stP, Nat.reduceEqDiff, true_and, and_true, false_and, and_false, if_true, if_false, eq_self, and_self, Nat.reduceLT, Nat.reduceLeDiff, Nat.reduceAdd, Nat.reduceMul, Nat.reduceDiv, Nat.one_ne_zero]
          by_cases hj2 : j < (eR m u (m 14 k) (m 15 k) v r).length
          · rw [if_neg (by omega), if_pos hj2, p3 j hj2, List.getD_eq_getElem?_getD]
          · rw [if_pos (by omega), if_neg hj2, show j - (eR m u (m 14 k) (m 15 k) v r).length = 0 by omega]
            rfl
        · have hpv : ¬ pv m u (m 14 k) (m 15 k) v r = true := by simp [pv, hval]
          have e9 := eR_s (m := m) (u := u) (t := m 14 k) (c := m 15 k) (v := v) (r := r)
          rw [if_neg hpv] at e9
          simp (disch := omega) only [u_br_True, u_br_False, u_jn_u, u_lt_u, u_nn_s, u_brn_s, u_brn_n, u_wI_n, u_wA_n, nI_clamp, u_n_mul, nI_add, u_n_le, u_br_f, (fun j => Rs.r 3 j rfl), (fun j => Rs.r 15 j rfl), r_hasR Rs W (by omega : m 14 k < 3) (by omega : r < 40), hth, Nat.reduceEqDiff, true_and, and_true, false_and, and_false, if_true, if_false, eq_self, and_self, Nat.reduceLT, Nat.reduceLeDiff, Nat.reduceAdd, Nat.reduceMul, Nat.reduceDiv, Nat.one_ne_zero, b10, b00, f_0, f_1, u_okT, u_nb_0, u_nb_1, ↓li_m1, li_0, li_1, li_2, li_3, li_4, li_5, li_6, li_7, li_8, li_9, li_10, li_12, li_13, li_26, li_40, li_60, li_61, li_62, li_99, li_100, li_102, li_106, li_114, li_112, li_117, li_108, li_103, li_120, li_300, li_360, li_512, li_1000, r_at Rs (by omega : m 14 k < 3) (by omega : r < 40) (by omega : m 15 k < 3)]
          refine hs2 _ _ hlr ?_
          rw [e9]
          exact ⟨rfl, p2, p3⟩
      · have hpv : ¬ pv m u (m 14 k) (m 15 k) v r = true := by simp [pv, hth]
        have e9 := eR_s (m := m) (u := u) (t := m 14 k) (c := m 15 k) (v := v) (r := r)
        rw [if_neg hpv] at e9
        simp (disch := omega) only [u_br_True, u_br_False, u_jn_u, u_lt_u, u_nn_s, u_brn_s, u_brn_n, u_wI_n, u_wA_n, nI_clamp, u_n_mul, nI_add, u_n_le, u_br_f, (fun j => Rs.r 3 j rfl), r_hasR Rs W (by omega : m 14 k < 3) (by omega : r < 40), if_neg hth, b10, b00, f_0, f_1, u_okT, u_nb_0, u_nb_1, ↓li_m1, li_0, li_1, li_2, li_3, li_4, li_5, li_6, li_7, li_8, li_9, li_10, li_12, li_13, li_26, li_40, li_60, li_61, li_62, li_99, li_100, li_102, li_106, li_114, li_112, li_117, li_108, li_103, li_120, li_300, li_360, li_512, li_1000]
        refine hs2 _ _ hlr ?_
        rw [e9]
        exact ⟨rfl, p2, p3⟩
    · have hr2 : r = m 3 (m 14 k) := by omega
      subst hr2
      simp (disch := omega) only [u_br_True, u_br_False, u_jn_u, u_lt_u, u_nn_s, u_brn_s, u_brn_n, u_wI_n, nI_clamp, u_n_le, u_br_t, (fun j => Rs.r 3 j rfl), nI_add, ↓li_m1, li_0, li_1, li_2, li_3, li_4, li_5, li_6, li_7, li_8, li_9, li_10, li_12, li_13, li_26, li_40, li_60, li_61, li_62, li_99, li_100, li_102, li_106, li_114, li_112, li_117, li_108, li_103, li_120, li_300, li_360, li_512, li_1000]
      refine hs _ _ hlv ?_
      rw [eV_s, ← eR_stop W (by omega)]
      exact ⟨rfl, p2, p3⟩
  · have hv2 : v = 100 := by omega
    subst hv2
    simp (disch := omega) only [u_br_True, u_br_False, u_jn_u, u_lt_u, u_nn_s, u_brn_s, u_brn_n, nI_add, u_n_mul, u_n_lt, u_n_le, u_n_eq, u_n_sub, u_n_div, u_n_mod, nI_clamp, u_m1, u_m1q, u_wI_n, u_wA_n, u_br_t, u_br_f]
    rw [eV_100] at i3 ⊢
    refine h _ ⟨by simp [sP_stP], fun j hj => ?_⟩ (i2.st (Or.inr ⟨rfl, rfl⟩))
    simp only [sP_stP, Nat.reduceEqDiff, true_and, and_true, false_and, and_false, if_true, if_false, eq_self, and_self, Nat.reduceLT, Nat.reduceLeDiff, Nat.reduceAdd, Nat.reduceMul, Nat.reduceDiv, Nat.one_ne_zero]
    exact i3 j hj
theorem k_entries (hN : 1000000 ≤ N) (I : Inv kk σ) (hk : kk < 512) (p : Int32) {T : Int32 → Int32 → St → Prop} (hT : ∀ code b σ2, G (kk + 1) code b σ2 → T code b σ2) : z_L_entries N (some 0) p σ (fun code σ1 => z_X12_entries N 0 p σ1 (fun b σ2 => T code b σ2)) := by
  have I0 := I
  obtain ⟨m, u, w, L, R, ⟨C0', CT', CX', CC', CQ', CD', CP'⟩, WT', WX', WC', WQ', WD'⟩ := I
  have h1 := WT'.nt
  have hx6 := WX'.1
  rcases u_io p (m 13 0) with ⟨k, hkx, _, rfl⟩ | hp
  · obtain ⟨ht, hc⟩ := WX'.2 k hkx
    have X := (CX'.2.2.2 k hkx).xo
    simp (disch := omega) only [z_L_entries, z_X11_entries, z_X3_size, c_needX C0' CX' WX' hkx, X.2.2.1, ent_len WT' ht hc, u_br_True, u_br_False, u_jn_u, u_lt_u, u_nn_s, u_brn_s, u_brn_n, ↓li_m1, li_0, li_1, li_2, li_3, li_4, li_5, li_6, li_7, li_8, li_9, li_10, li_12, li_13, li_26, li_40, li_60, li_61, li_62, li_99, li_100, li_102, li_106, li_114, li_112, li_117, li_108, li_103, li_120, li_300, li_360, li_512, li_1000, wA_l, l0c]
    have R1 : ∀ y : Int64, RI m u w L (stP (stL σ 13 0 0 0 y) 12 0 0 0 (nI 0)) := fun y => (R.km KM.stL).tmp rfl
    simp (disch := omega) only [z_X12_entries, r_isX (R1 _) WX' hkx, u_br_True, u_br_False, u_jn_u, u_lt_u, u_nn_s, u_brn_s, u_brn_n, nI_add, u_n_mul, u_n_lt, u_n_le, u_n_eq, u_n_sub, u_n_div, u_n_mod, nI_clamp, u_m1, u_m1q, u_wI_n, u_wA_n, u_br_t, u_br_f, ↓li_m1, li_0, li_1, li_2, li_3, li_4, li_5, li_6, li_7, li_8, li_9, li_10, li_12, li_13, li_26, li_40, li_60, li_61, li_62, li_99, li_100, li_102, li_106, li_114, li_112, li_117, li_108, li_103, li_120, li_300, li_360, li_512, li_1000, b10, b00, f_0, f_1, u_okT, u_nb_0, u_nb_1, (fun y j => (R1 y).r 14 j rfl)]
    refine r_there hN (R1 _) WT' (by omega) ?_
    exact hT _ _ _ (Inv_ans I0 hk)
  · have R0 : RI m u w L (stP σ 12 0 0 0 (nI 0)) := R.tmp rfl
    simp (disch := omega) only [z_L_entries, z_X11_entries, c_needXO C0' CX' WX' hp, z_X12_entries, r_isXO R0 WX' hp, u_br_True, u_br_False, u_jn_u, u_lt_u, u_nn_s, u_brn_s, u_brn_n, ↓li_m1, li_0, li_1, li_2, li_3, li_4, li_5, li_6, li_7, li_8, li_9, li_10, li_12, li_13, li_26, li_40, li_60, li_61, li_62, li_99, li_100, li_102, li_106, li_114, li_112, li_117, li_108, li_103, li_120, li_300, li_360, li_512, li_1000, b10, b00, f_0, f_1, u_okT, u_nb_0, u_nb_1, true_and]
    exact hT _ _ _ (G_exc (c := 1) I0 hk (by decide) (by decide))
theorem k_entryAt (hN : 1000000 ≤ N) (I : Inv kk σ) (hk : kk < 512) (p p2 : Int32) {T : Int32 → Int32 → St → Prop} (hT : ∀ code b σ2, G (kk + 1) code b σ2 → T code b σ2) : z_L_entryAt N (some 0) p p2 σ (fun code σ1 => z_X12_entryAt N 0 p p2 σ1 (fun b σ2 => T code b σ2)) := by
  have I0 := I
  obtain ⟨m, u, w, L, R, ⟨C0', CT', CX', CC', CQ', CD', CP'⟩, WT', WX', WC', WQ', WD'⟩ := I
  have h1 := WT'.nt
  have hx6 := WX'.1
  rcases u_io p (m 13 0) with ⟨k, hkx, _, rfl⟩ | hp
  · obtain ⟨ht, hc⟩ := WX'.2 k hkx
    have X := (CX'.2.2.2 k hkx).xo
    have h40 := ent_len40 WT' ht hc
    have hlen := ent_len WT' ht hc
    rcases u_io p2 (ent m u (m 14 k) (m 15 k)).length with ⟨i, hi, _, rfl⟩ | hp2
    · have hi40 : (ent m u (m 14 k) (m 15 k)).getD i 0 < 40 := ((mem_eN (WT'.vg ht hc) (Nat.le_refl _)).mp (getD_mem hi)).1
      simp (disch := omega) only [z_L_entryAt, z_X11_entryAt, c_needX C0' CX' WX' hkx, c_rowAt X h40 hi, u_br_True, u_br_False, u_jn_u, u_lt_u, u_nn_s, u_brn_s, u_brn_n, nI_add, u_n_mul, u_n_lt, u_n_le, u_n_eq, u_n_sub, u_n_div, u_n_mod, nI_clamp, u_m1, u_m1q, u_wI_n, u_wA_n, u_br_t, u_br_f, ↓li_m1, li_0, li_1, li_2, li_3, li_4, li_5, li_6, li_7, li_8, li_9, li_10, li_12, li_13, li_26, li_40, li_60, li_61, li_62, li_99, li_100, li_102, li_106, li_114, li_112, li_117, li_108, li_103, li_120, li_300, li_360, li_512, li_1000, wA_l, l0c]
      have R1 : ∀ y : Int64, RI m u w L (stP (stL σ 13 0 0 0 y) 12 0 0 0 (nI 0)) := fun y => (R.km KM.stL).tmp rfl
      simp (disch := omega) only [z_X12_entryAt, r_isX (R1 _) WX' hkx, u_br_True, u_br_False, u_jn_u, u_lt_u, u_nn_s, u_brn_s, u_brn_n, nI_add, u_n_mul, u_n_lt, u_n_le, u_n_eq, u_n_sub, u_n_div, u_n_mod, nI_clamp, u_m1, u_m1q, u_wI_n, u_wA_n, u_br_t, u_br_f, ↓li_m1, li_0, li_1, li_2, li_3, li_4, li_5, li_6, li_7, li_8, li_9, li_10, li_12, li_13, li_26, li_40, li_60, li_61, li_62, li_99, li_100, li_102, li_106, li_114, li_112, li_117, li_108, li_103, li_120, li_300, li_360, li_512, li_1000, b10, b00, f_0, f_1, u_okT, u_nb_0, u_nb_1, (fun y j => (R1 y).r 14 j rfl)]
      refine r_there hN (R1 _) WT' (by omega) ?_
      rw [r_inPT (by omega) (by omega)]
      simp (disch := omega) only [u_br_True, u_br_False, u_jn_u, u_lt_u, u_nn_s, u_brn_s, u_brn_n, nI_add, u_n_mul, u_n_lt, u_n_le, u_n_eq, u_n_sub, u_n_div, u_n_mod, nI_clamp, u_m1, u_m1q, u_wI_n, u_wA_n, u_br_t, u_br_f, ↓li_m1, li_0, li_1, li_2, li_3, li_4, li_5, li_6, li_7, li_8, li_9, li_10, li_12, li_13, li_26, li_40, li_60, li_61, li_62, li_99, li_100, li_102, li_106, li_114, li_112, li_117, li_108, li_103, li_120, li_300, li_360, li_512, li_1000, b10, b00, f_0, f_1, u_okT, u_nb_0, u_nb_1]
      refine r_lists hN (R1 _) WT' WX' hkx (fun σ' hl hK => ?_)
      simp (disch := omega) only [u_br_True, u_br_False, u_jn_u, u_lt_u, u_nn_s, u_brn_s, u_brn_n, nI_add, u_n_mul, u_n_lt, u_n_le, u_n_eq, u_n_sub, u_n_div, u_n_mod, nI_clamp, u_m1, u_m1q, u_wI_n, u_wA_n, u_br_t, u_br_f, hl.2 i hi]
      refine hT _ _ _ (fin (σc := σ) ⟨C0', CT', CX', CC', CQ', CD', CP'⟩ ((R1 _).kl hK) (KC.st.trans hK.kc) ⟨WT', WX', WC', WQ', WD_up WD' hk⟩ ?_)
      rw [hK.1 12 0 0 0 (by omega)]
      simp only [sP_stP, Nat.reduceEqDiff, true_and, and_true, false_and, and_false, if_true, if_false, eq_self, and_self, Nat.reduceLT, Nat.reduceLeDiff, Nat.reduceAdd, Nat.reduceMul, Nat.reduceDiv, Nat.one_ne_zero]
    · simp (disch := omega) only [z_L_entryAt, z_X11_entryAt, c_needX C0' CX' WX' hkx, c_rowAtO X h40 hp2, u_br_True, u_br_False, u_jn_u, u_lt_u, u_nn_s, u_brn_s, u_brn_n, nI_add, u_n_mul, u_n_lt, u_n_le, u_n_eq, u_n_sub, u_n_div, u_n_mod, nI_clamp, u_m1, u_m1q, u_wI_n, u_wA_n, u_br_t, u_br_f, ↓li_m1, li_0, li_1, li_2, li_3, li_4, li_5, li_6, li_7, li_8, li_9, li_10, li_12, li_13, li_26, li_40, li_60, li_61, li_62, li_99, li_100, li_102, li_106, li_114, li_112, li_117, li_108, li_103, li_120, li_300, li_360, li_512, li_1000, wA_l, l0c]
      have R1 : RI m u w L (stP σ 12 0 0 0 (nI 0)) := R.tmp rfl
      simp (disch := omega) only [z_X12_entryAt, r_isX R1 WX' hkx, u_br_True, u_br_False, u_jn_u, u_lt_u, u_nn_s, u_brn_s, u_brn_n, nI_add, u_n_mul, u_n_lt, u_n_le, u_n_eq, u_n_sub, u_n_div, u_n_mod, nI_clamp, u_m1, u_m1q, u_wI_n, u_wA_n, u_br_t, u_br_f, ↓li_m1, li_0, li_1, li_2, li_3, li_4, li_5, li_6, li_7, li_8, li_9, li_10, li_12, li_13, li_26, li_40, li_60, li_61, li_62, li_99, li_100, li_102, li_106, li_114, li_112, li_117, li_108, li_103, li_120, li_300, li_360, li_512, li_1000, b10, b00, f_0, f_1, u_okT, u_nb_0, u_nb_1, (fun j => R1.r 14 j rfl)]
      refine Or.inr ⟨trivial, r_there hN R1 WT' (by omega) ?_⟩
      rw [hlen] at hp2
      rw [r_inO hp2 (by omega)]
      simp (disch := omega) only [u_br_True, u_br_False, u_jn_u, u_lt_u, u_nn_s, u_brn_s, u_brn_n, nI_add, u_n_mul, u_n_lt, u_n_le, u_n_eq, u_n_sub, u_n_div, u_n_mod, nI_clamp, u_m1, u_m1q, u_wI_n, u_wA_n, u_br_t, u_br_f, ↓li_m1, li_0, li_1, li_2, li_3, li_4, li_5, li_6, li_7, li_8, li_9, li_10, li_12, li_13, li_26, li_40, li_60, li_61, li_62, li_99, li_100, li_102, li_106, li_114, li_112, li_117, li_108, li_103, li_120, li_300, li_360, li_512, li_1000, b10, b00, f_0, f_1, u_okT, u_nb_0, u_nb_1]
      exact hT _ _ _ (G_exc (c := 2) I0 hk (by decide) (by decide))
  · have R0 : RI m u w L (stP σ 12 0 0 0 (nI 0)) := R.tmp rfl
    simp (disch := omega) only [z_L_entryAt, z_X11_entryAt, c_needXO C0' CX' WX' hp, z_X12_entryAt, r_isXO R0 WX' hp, u_br_True, u_br_False, u_jn_u, u_lt_u, u_nn_s, u_brn_s, u_brn_n, ↓li_m1, li_0, li_1, li_2, li_3, li_4, li_5, li_6, li_7, li_8, li_9, li_10, li_12, li_13, li_26, li_40, li_60, li_61, li_62, li_99, li_100, li_102, li_106, li_114, li_112, li_117, li_108, li_103, li_120, li_300, li_360, li_512, li_1000, b10, b00, f_0, f_1, u_okT, u_nb_0, u_nb_1]
    exact Or.inl ⟨trivial, hT _ _ _ (G_exc (c := 1) I0 hk (by decide) (by decide))⟩
end LISTS
