section PRINT
variable {m : Nat → Nat → Nat} {u w : Nat → Int32} {L : List Nat} {σ σ' : St} {N kk : Nat}
def pC (u : Nat → Int32) (t r : Nat) (g : Int64) (n : Nat) : Int64 := it_ (fun c a => 31 * a + (vl u t r c).toInt64) g n
def pT (m : Nat → Nat → Nat) (u : Nat → Int32) (t : Nat) (g : Int64) (n : Nat) : Int64 := it_ (fun r a => if th m t r = true then pC u t r a (m 2 t) else a) g n
def pS (m : Nat → Nat → Nat) (u : Nat → Int32) (g : Int64) (n : Nat) : Int64 := it_ (fun t a => pT m u t a 40) g n
theorem pT_stop (W : WT m u) {t : Nat} (ht : t < 3) {g : Int64} : pT m u t g 40 = pT m u t g (m 3 t) := by
  refine u_it_stop (W.2.2.2.1 t ht) (fun i h1 h2 x => ?_)
  have : ¬ th m t i = true := fun h => by have := W.th_lt ht h2 h; omega
  rw [if_neg this]
theorem c_printT (hN : 1000000 ≤ N) (W : WT m u) {t : Nat} (ht : t < m 1 0) (T : CT1 m u σ t) {g : Int64} {K : Int64 → Prop} (h : K (pT m u t g 40)) : z_X10_printFrom N t g σ K := by
  have := W.nt
  have hc := W.cl ht
  unfold z_X10_printFrom
  refine for_v 40 (by omega) (by omega) (fun r a => a = pT m u t g r) 0 (by omega) (fun self r a hr ha hs => ?_) rfl
  subst ha
  by_cases hl : r < 40
  · have e := T.2.2.2.2.1 r hl
    have b := (W.row (by omega : t < 3) hl).2.1
    rw [u_br_f (by rw [li_40, u_n_le (by omega) (by omega)]; omega)]
    by_cases hth : th m t r = true
    · have hrm := W.th_lt (by omega) hl hth
      have hne : ¬ m 4 (40 * t + r) = 0 := by simpa [th] using hth
      refine for_v (m 2 t) (by omega) (by omega) (fun c a => a = pC u t r (pT m u t g r) c) 0 (by omega) (fun self2 c a hc2 ha hs2 => ?_) rfl
      subst ha
      by_cases hcl : c < m 2 t
      · simp (disch := omega) only [u_br_True, u_br_False, u_jn_u, u_lt_u, u_nn_s, u_brn_s, u_brn_n, nI_add, u_n_mul, u_n_lt, u_n_le, u_n_eq, u_n_sub, u_n_div, u_n_mod, nI_clamp, u_m1, u_m1q, u_wI_n, u_wA_n, u_br_t, u_br_f, ↓li_m1, li_0, li_1, li_2, li_3, li_4, li_5, li_6, li_7, li_8, li_9, li_10, li_12, li_13, li_26, li_40, li_60, li_61, li_62, li_99, li_100, li_102, li_106, li_114, li_112, li_117, li_108, li_103, li_120, li_300, li_360, li_512, li_1000, e, T.2.1, c_cell T hrm hl (by omega : c < 3)]
        exact hs2 _ hcl rfl
      · simp (disch := omega) only [u_br_True, u_br_False, u_jn_u, u_lt_u, u_nn_s, u_brn_s, u_brn_n, nI_add, u_n_mul, u_n_lt, u_n_le, u_n_eq, u_n_sub, u_n_div, u_n_mod, nI_clamp, u_m1, u_m1q, u_wI_n, u_wA_n, u_br_t, u_br_f, ↓li_m1, li_0, li_1, li_2, li_3, li_4, li_5, li_6, li_7, li_8, li_9, li_10, li_12, li_13, li_26, li_40, li_60, li_61, li_62, li_99, li_100, li_102, li_106, li_114, li_112, li_117, li_108, li_103, li_120, li_300, li_360, li_512, li_1000, e, T.2.1]
        refine hs _ hl ?_
        show _ = (if th m t r = true then pC u t r (pT m u t g r) (m 2 t) else _)
        rw [if_pos hth, show c = m 2 t by omega]
    · have heq : m 4 (40 * t + r) = 0 := by simpa [th] using hth
      refine for_v 1 (by omega) (by omega) (fun c a => c = 0 ∧ a = pT m u t g r) 0 (by omega) (fun self2 c a hc2 ha hs2 => ?_) ⟨rfl, rfl⟩
      obtain ⟨rfl, rfl⟩ := ha
      simp (disch := omega) only [u_br_True, u_br_False, u_jn_u, u_lt_u, u_nn_s, u_brn_s, u_brn_n, nI_add, u_n_mul, u_n_lt, u_n_le, u_n_eq, u_n_sub, u_n_div, u_n_mod, nI_clamp, u_m1, u_m1q, u_wI_n, u_wA_n, u_br_t, u_br_f, ↓li_m1, li_0, li_1, li_2, li_3, li_4, li_5, li_6, li_7, li_8, li_9, li_10, li_12, li_13, li_26, li_40, li_60, li_61, li_62, li_99, li_100, li_102, li_106, li_114, li_112, li_117, li_108, li_103, li_120, li_300, li_360, li_512, li_1000, e, heq]
      refine hs _ hl ?_
      show _ = (if th m t r = true then _ else pT m u t g r)
      rw [if_neg hth]
  · rw [u_br_t (by rw [li_40, u_n_le (by omega) (by omega)]; omega)]
    rw [show r = 40 by omega]
    exact h
theorem c_printS (hN : 1000000 ≤ N) (W : WT m u) (T : CT m u σ) {g : Int64} {K : Int64 → Prop} (h : K (pS m u g (m 1 0))) : z_X9_printFrom N 0 g σ K := by
  have h1 := W.nt
  unfold z_X9_printFrom
  refine for_v 3 (by omega) (by omega) (fun t a => a = pS m u g (min t (m 1 0))) 0 (by omega) (fun self t a ht ha hs => ?_) (by simp [pS, it_])
  subst ha
  by_cases hl : t < 3
  · have e := T.2.2.1 t hl
    by_cases ht : t < m 1 0
    · rw [if_pos ht] at e
      simp (disch := omega) only [u_br_True, u_br_False, u_jn_u, u_lt_u, u_nn_s, u_brn_s, u_brn_n, nI_add, u_n_mul, u_n_lt, u_n_le, u_n_eq, u_n_sub, u_n_div, u_n_mod, nI_clamp, u_m1, u_m1q, u_wI_n, u_wA_n, u_br_t, u_br_f, ↓li_m1, li_0, li_1, li_2, li_3, li_4, li_5, li_6, li_7, li_8, li_9, li_10, li_12, li_13, li_26, li_40, li_60, li_61, li_62, li_99, li_100, li_102, li_106, li_114, li_112, li_117, li_108, li_103, li_120, li_300, li_360, li_512, li_1000, e]
      refine c_printT hN W ht (T.2.2.2 t ht) ?_
      refine hs _ hl ?_
      rw [Nat.min_eq_left (by omega), Nat.min_eq_left (by omega)]
      rfl
    · rw [if_neg ht] at e
      simp (disch := omega) only [u_br_True, u_br_False, u_jn_u, u_lt_u, u_nn_s, u_brn_s, u_brn_n, nI_add, u_n_mul, u_n_lt, u_n_le, u_n_eq, u_n_sub, u_n_div, u_n_mod, nI_clamp, u_m1, u_m1q, u_wI_n, u_wA_n, u_br_t, u_br_f, ↓li_m1, li_0, li_1, li_2, li_3, li_4, li_5, li_6, li_7, li_8, li_9, li_10, li_12, li_13, li_26, li_40, li_60, li_61, li_62, li_99, li_100, li_102, li_106, li_114, li_112, li_117, li_108, li_103, li_120, li_300, li_360, li_512, li_1000, e]
      refine hs _ hl ?_
      rw [Nat.min_eq_right (by omega), Nat.min_eq_right (by omega)]
  · simp (disch := omega) only [u_br_True, u_br_False, u_jn_u, u_lt_u, u_nn_s, u_brn_s, u_brn_n, nI_add, u_n_mul, u_n_lt, u_n_le, u_n_eq, u_n_sub, u_n_div, u_n_mod, nI_clamp, u_m1, u_m1q, u_wI_n, u_wA_n, u_br_t, u_br_f, ↓li_m1, li_0, li_1, li_2, li_3, li_4, li_5, li_6, li_7, li_8, li_9, li_10, li_12, li_13, li_26, li_40, li_60, li_61, li_62, li_99, li_100, li_102, li_106, li_114, li_112, li_117, li_108, li_103, li_120, li_300, li_360, li_512, li_1000]
    rw [Nat.min_eq_right (by omega)]
    exact h
theorem k_print (hN : 1000000 ≤ N) (I : Inv kk σ) (hk : kk < 512) {T : Int64 → Int64 → St → Prop} (hT : ∀ b σ2, Inv (kk + 1) σ2 → T b b σ2) : z_X11_print N 0 σ (fun a => z_X12_print N 0 σ (fun b σ2 => T a b σ2)) := by
  have I0 := I
  obtain ⟨m, u, w, L, R, ⟨C0', CT', CX', CC', CQ', CD', CP'⟩, WT', WX', WC', WQ', WD'⟩ := I
  have hC := C0'
  unfold C0 at hC
  have R0 : RI m u w L (stP σ 12 0 0 0 (nI 0)) := R.tmp rfl
  have h1 := WT'.nt
  have hW := WT'
  simp only [z_X11_print, hC, u_br_True, u_br_False, u_jn_u, u_lt_u, u_nn_s, u_brn_s, u_brn_n]
  refine c_printS hN WT' CT' ?_
  have e0 := CD'.1 0 (by omega)
  have e1 := CD'.1 1 (by omega)
  simp (disch := omega) only [z_X2_purseOf, u_br_True, u_br_False, u_jn_u, u_lt_u, u_nn_s, u_brn_s, u_brn_n, nI_add, u_n_mul, u_n_lt, u_n_le, u_n_eq, u_n_sub, u_n_div, u_n_mod, nI_clamp, u_m1, u_m1q, u_wI_n, u_wA_n, u_br_t, u_br_f, ↓li_m1, li_0, li_1, li_2, li_3, li_4, li_5, li_6, li_7, li_8, li_9, li_10, li_12, li_13, li_26, li_40, li_60, li_61, li_62, li_99, li_100, li_102, li_106, li_114, li_112, li_117, li_108, li_103, li_120, li_300, li_360, li_512, li_1000, e0, e1]
  simp only [z_X12_print, u_br_True, u_br_False, u_jn_u, u_lt_u, u_nn_s, u_brn_s, u_brn_n, li_0]
  refine for_v (m 1 0) (by omega) (by omega) (fun t a => a = pS m u 7 t) 0 (by omega) (fun self t a ht ha hs => ?_) rfl
  subst ha
  by_cases hl : t < m 1 0
  · have h3 := WT'.2.2.2.1 t (by omega)
    have hc := WT'.cl hl
    rw [R0.r 1 0 rfl, u_br_f (by rw [u_n_le (by omega) (by omega)]; omega)]
    refine for_v (m 3 t) (by omega) (by omega) (fun r a => a = pT m u t (pS m u 7 t) r) 0 (by omega) (fun self2 r a hr ha hs2 => ?_) rfl
    subst ha
    by_cases hrl : r < m 3 t
    · rw [u_wI_n (by omega) (by omega), nI_clamp (by omega), R0.r 3 t rfl, u_br_f (by rw [u_n_le (by omega) (by omega)]; omega)]
      by_cases hth : th m t r = true
      · refine for_v (m 2 t) (by omega) (by omega) (fun c a => a = pC u t r (pT m u t (pS m u 7 t) r) c) 0 (by omega) (fun self3 c a hc2 ha hs3 => ?_) rfl
        subst ha
        by_cases hcl : c < m 2 t
        · simp (disch := omega) only [u_br_True, u_br_False, u_jn_u, u_lt_u, u_nn_s, u_brn_s, u_brn_n, nI_add, u_n_mul, u_n_lt, u_n_le, u_n_eq, u_n_sub, u_n_div, u_n_mod, nI_clamp, u_m1, u_m1q, u_wI_n, u_wA_n, u_br_t, u_br_f, ↓li_m1, li_0, li_1, li_2, li_3, li_4, li_5, li_6, li_7, li_8, li_9, li_10, li_12, li_13, li_26, li_40, li_60, li_61, li_62, li_99, li_100, li_102, li_106, li_114, li_112, li_117, li_108, li_103, li_120, li_300, li_360, li_512, li_1000, R0.r 2 _ rfl, r_hasR R0 hW (by omega : t < 3) (by omega : r < 40), hth, Nat.reduceEqDiff, true_and, and_true, false_and, and_false, if_true, if_false, eq_self, and_self, Nat.reduceLT, Nat.reduceLeDiff, Nat.reduceAdd, Nat.reduceMul, Nat.reduceDiv, Nat.one_ne_zero, b10, b00, f_0, f_1, u_okT, u_nb_0, u_nb_1, r_at R0 (by omega : t < 3) (by omega : r < 40) (by omega : c < 3)]
          exact hs3 _ hcl rfl
        · simp (disch := omega) only [u_br_True, u_br_False, u_jn_u, u_lt_u, u_nn_s, u_brn_s, u_brn_n, nI_add, u_n_mul, u_n_lt, u_n_le, u_n_eq, u_n_sub, u_n_div, u_n_mod, nI_clamp, u_m1, u_m1q, u_wI_n, u_wA_n, u_br_t, u_br_f, ↓li_m1, li_0, li_1, li_2, li_3, li_4, li_5, li_6, li_7, li_8, li_9, li_10, li_12, li_13, li_26, li_40, li_60, li_61, li_62, li_99, li_100, li_102, li_106, li_114, li_112, li_117, li_108, li_103, li_120, li_300, li_360, li_512, li_1000, R0.r 2 _ rfl]
          refine hs2 _ hrl ?_
          show _ = (if th m t r = true then pC u t r (pT m u t (pS m u 7 t) r) (m 2 t) else _)
          rw [if_pos hth, show c = m 2 t by omega]
      · refine for_v 1 (by omega) (by omega) (fun c a => c = 0 ∧ a = pT m u t (pS m u 7 t) r) 0 (by omega) (fun self3 c a hc2 ha hs3 => ?_) ⟨rfl, rfl⟩
        obtain ⟨rfl, rfl⟩ := ha
        simp (disch := omega) only [u_br_True, u_br_False, u_jn_u, u_lt_u, u_nn_s, u_brn_s, u_brn_n, nI_add, u_n_mul, u_n_lt, u_n_le, u_n_eq, u_n_sub, u_n_div, u_n_mod, nI_clamp, u_m1, u_m1q, u_wI_n, u_wA_n, u_br_t, u_br_f, ↓li_m1, li_0, li_1, li_2, li_3, li_4, li_5, li_6, li_7, li_8, li_9, li_10, li_12, li_13, li_26, li_40, li_60, li_61, li_62, li_99, li_100, li_102, li_106, li_114, li_112, li_117, li_108, li_103, li_120, li_300, li_360, li_512, li_1000, R0.r 2 _ rfl, r_hasR R0 hW (by omega : t < 3) (by omega : r < 40), if_neg hth, b10, b00, f_0, f_1, u_okT, u_nb_0, u_nb_1]
        refine hs2 _ hrl ?_
        show _ = (if th m t r = true then _ else pT m u t (pS m u 7 t) r)
        rw [if_neg hth]
    · simp (disch := omega) only [u_br_True, u_br_False, u_jn_u, u_lt_u, u_nn_s, u_brn_s, u_brn_n, nI_add, u_n_mul, u_n_lt, u_n_le, u_n_eq, u_n_sub, u_n_div, u_n_mod, nI_clamp, u_m1, u_m1q, u_wI_n, u_wA_n, u_br_t, u_br_f, ↓li_m1, li_0, li_1, li_2, li_3, li_4, li_5, li_6, li_7, li_8, li_9, li_10, li_12, li_13, li_26, li_40, li_60, li_61, li_62, li_99, li_100, li_102, li_106, li_114, li_112, li_117, li_108, li_103, li_120, li_300, li_360, li_512, li_1000, R0.r 3 _ rfl]
      refine hs _ hl ?_
      show _ = pT m u t (pS m u 7 t) 40
      rw [pT_stop WT' (by omega), show r = m 3 t by omega]
  · simp (disch := omega) only [u_br_True, u_br_False, u_jn_u, u_lt_u, u_nn_s, u_brn_s, u_brn_n, nI_add, u_n_mul, u_n_lt, u_n_le, u_n_eq, u_n_sub, u_n_div, u_n_mod, nI_clamp, u_m1, u_m1q, u_wI_n, u_wA_n, u_br_t, u_br_f, ↓li_m1, li_0, li_1, li_2, li_3, li_4, li_5, li_6, li_7, li_8, li_9, li_10, li_12, li_13, li_26, li_40, li_60, li_61, li_62, li_99, li_100, li_102, li_106, li_114, li_112, li_117, li_108, li_103, li_120, li_300, li_360, li_512, li_1000, R0.r 1 _ rfl, R0.r 51 _ rfl, l0c, wA_l, wI_l]
    rw [show t = m 1 0 by omega]
    exact hT _ _ (Inv_up (Inv_tmp I0 rfl) hk)
end PRINT
