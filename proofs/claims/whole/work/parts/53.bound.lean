section BOUND
variable {m m' : Nat → Nat → Nat} {u u' w : Nat → Int32} {L L' E : List Nat} {σ σ' σ1 σ2 : St} {N kk t c k n F key row lo hi : Nat}
/-- what the calls that tell of rows leave untouched -/
def FI (σ σ' : St) : Prop := (∀ k i f j, k ≠ 0 → k ≠ 3 → k ≠ 10 → sP σ' k i f j = sP σ k i f j) ∧ sL_ σ' = sL_ σ ∧ sQ σ' = sQ σ ∧ sD_ σ' = sD_ σ ∧ sV σ' = sV σ
theorem FI.refl : FI σ σ := ⟨fun _ _ _ _ _ _ _ => rfl, rfl, rfl, rfl, rfl⟩
theorem FI.trans (a : FI σ σ') (b : FI σ' σ1) : FI σ σ1 := ⟨fun k' i f j h1 h2 h3 => (b.1 k' i f j h1 h2 h3).trans (a.1 k' i f j h1 h2 h3), b.2.1.trans a.2.1, b.2.2.1.trans a.2.2.1, b.2.2.2.1.trans a.2.2.2.1, b.2.2.2.2.trans a.2.2.2.2⟩
theorem FI.st {k i f j : Nat} {v : Int32} (h : FI σ σ') (hk : k = 0 ∨ k = 3 ∨ k = 10) : FI σ (stP σ' k i f j v) := by
  refine ⟨fun k' i' f' j' h1 h2 h3 => ?_, h.2.1, h.2.2.1, h.2.2.2.1, h.2.2.2.2⟩
  rw [sP_stP, if_neg (fun e => by omega)]
  exact h.1 k' i' f' j' h1 h2 h3
theorem FI.of3 (h : K3 k σ σ') : FI σ σ' := ⟨fun k' i f j _ h2 _ => h.1 k' i f j (fun e => h2 e.1), h.2⟩
theorem FI.of0 (h : K0 c σ σ') : FI σ σ' := ⟨fun k' i f j h2 _ _ => h.1 k' i f j (fun e => h2 e.1), h.2⟩
theorem FI.km (h : FI σ σ') : KM σ σ' := fun i f j => h.1 12 i f j (by decide) (by decide) (by decide)
theorem FI.c0 (h : FI σ σ') (C : C0 σ) : C0 σ' := by
  unfold C0 at *
  rw [h.2.2.1]
  exact C
theorem FI.cq (h : FI σ σ') (C : CQ m σ) : CQ m σ' := by
  unfold CQ CQ1 CN CJ at *
  simp only [h.1 7 _ _ _ (by decide) (by decide) (by decide), h.1 11 _ _ _ (by decide) (by decide) (by decide), h.1 1 _ _ _ (by decide) (by decide) (by decide), h.1 4 _ _ _ (by decide) (by decide) (by decide), h.2.2.1, h.2.2.2.2]
  exact C
theorem FI.cd (h : FI σ σ') (C : CD m w σ) : CD m w σ' := by
  unfold CD at *
  simp only [h.1 2 _ _ _ (by decide) (by decide) (by decide)]
  exact C
/-- registers of the reference that tell of rows alone -/
def rowF (f : Nat) : Bool := [3, 4, 6, 7, 8, 9, 10, 11, 12, 16].contains f
def SameX (m m' : Nat → Nat → Nat) : Prop := ∀ f, rowF f = false → ∀ j, m' f j = m f j
theorem SameX.wx (h : SameX m m') (W : WX m) : WX m' := by
  unfold WX at *
  simp only [h 13 rfl, h 14 rfl, h 15 rfl, h 1 rfl, h 2 rfl]
  exact W
theorem SameX.wq (h : SameX m m') (W : WQ m) : WQ m' := by
  unfold WQ tq at *
  simp only [h 24 rfl, h 25 rfl, h 26 rfl, h 27 rfl, h 28 rfl, h 29 rfl, h 30 rfl, h 31 rfl, h 32 rfl, h 33 rfl, h 34 rfl, h 35 rfl, h 36 rfl, h 1 rfl, h 2 rfl]
  exact W
theorem SameX.cq (h : SameX m m') (W : CQ m σ) : CQ m' σ := by
  unfold CQ CQ1 CN CJ at *
  simp only [h 24 rfl, h 25 rfl, h 26 rfl, h 27 rfl, h 28 rfl, h 29 rfl, h 30 rfl, h 31 rfl, h 32 rfl, h 33 rfl, h 34 rfl, h 35 rfl, h 36 rfl]
  exact W
theorem SameX.wc (h : SameX m m') (W : WC m L) : WC m' L := by
  unfold WC at *
  simp only [h 13 rfl, h 19 rfl]
  exact W
theorem SameX.cc (h : SameX m m') (W : CC m L σ) : CC m' L σ := by
  unfold CC at *
  simp only [h 19 rfl]
  exact W
theorem SameX.cd (h : SameX m m') (h16 : m' 16 0 = 0) (C : CD (mu m 16 0 0) w σ) : CD m' w σ := by
  unfold CD at *
  simp only [mu_ne (m := m) (f := 16) (by decide : 51 ≠ 16), mu_ne (m := m) (f := 16) (by decide : 46 ≠ 16), mu_ne (m := m) (f := 16) (by decide : 52 ≠ 16), mu_eq] at C
  simp only [h 51 rfl, h 46 rfl, h 52 rfl, h16]
  exact C
theorem SameX.wd (h : SameX m m') (h16 : m' 16 0 = 0) (W : WD m kk) : WD m' kk := by
  unfold WD at *
  simp only [h 51 rfl, h 46 rfl, h 52 rfl, h 54 rfl, h16]
  exact ⟨W.1, W.2.1, by omega, W.2.2.2⟩
theorem finI {b : Int32} (hF : FI σ σ') (hS : SameX m m') (h16 : m' 16 0 = 0) (C : CA m u w L σ) (W : WA m u L kk) (hk : kk < 512) (hT : CT m' u' σ') (hX : CX m' u' σ') (hC : CC m' L' σ') (hR : RI m' u' w L' σ2) (hK : KC (stL (stP σ' 2 0 5 0 (nI 0)) 13 0 0 0 b.toInt64) σ2) (WT' : WT m' u') (WC' : WC m' L') (ht : sP σ2 12 0 0 0 = nI 0) : G (kk + 1) (nI 0) b σ2 := by
  obtain ⟨c1, c2, c3, c4, c5, c6, c7⟩ := C
  obtain ⟨w1, w2, w3, w4, w5⟩ := W
  refine fin (σc := stP σ' 2 0 5 0 (nI 0)) (m := m') (u := u') (w := w) (L := L') ⟨?_, ?_, ?_, ?_, ?_, ?_, CP_0 h16⟩ hR hK ⟨WT', hS.wx w2, WC', hS.wq w4, hS.wd h16 (WD_up w5 hk)⟩ ht
  · rw [C0_st]; exact hF.c0 c1
  · rw [CT_st (by decide)]; exact hT
  · rw [CX_st (by decide)]; exact hX
  · rw [CC_st (by decide)]; exact hC
  · rw [CQ_st (by decide)]; exact hS.cq (hF.cq c5)
  · exact hS.cd h16 (CD_close (hF.cd c6))
/-! bound -/
/-- the rows beyond bounds -/
def bey (m : Nat → Nat → Nat) (u : Nat → Int32) (t c lo hi n : Nat) : Nat := it_ (fun r a => if th m t r = true ∧ ¬ (lo ≤ tN (vl u t r c) ∧ tN (vl u t r c) ≤ hi) then a + 1 else a) 0 n
theorem bey_le : bey m u t c lo hi n ≤ n := by
  induction n with
  | zero => exact Nat.le_refl _
  | succ n ih =>
    show (if th m t n = true ∧ ¬ (lo ≤ tN (vl u t n c) ∧ tN (vl u t n c) ≤ hi) then bey m u t c lo hi n + 1 else bey m u t c lo hi n) ≤ n + 1
    split <;> omega
theorem bey_stop (W : WT m u) (ht : t < 3) : bey m u t c lo hi 40 = bey m u t c lo hi (m 3 t) := by
  refine u_it_stop (W.2.2.2.1 t ht) (fun i h1 h2 x => ?_)
  have : ¬ th m t i = true := fun h => by have := W.th_lt ht h2 h; omega
  rw [if_neg (fun h => this h.1)]
theorem c_isWith {v : Nat} (T : CT1 m u σ t) (hm : m 2 t ≤ 3) (hc : c < m 2 t) (h6 : m 6 (3 * t + c) ≤ 99) (h7 : m 7 (3 * t + c) ≤ 99) (hv : v < 2 ^ 31) {K : Int32 → Prop} : z_X10_isWithin N t (nI c) (nI v) σ K = K (if m 6 (3 * t + c) ≤ v ∧ v ≤ m 7 (3 * t + c) then nI 1 else nI 0) := by
  obtain ⟨t1, t2, t3, t4, t5, t6, t7, t8, t9, t10, t11, t12, t13⟩ := T
  by_cases h1 : v < m 6 (3 * t + c)
  · rw [if_neg (by omega)]
    simp (disch := omega) only [z_X10_isWithin, c_hasC t2 hc hm, u_br_True, u_br_False, u_jn_u, u_lt_u, u_nn_s, u_brn_s, u_brn_n, ↓li_m1, li_0, li_1, li_2, li_3, li_4, li_5, li_6, li_7, li_8, li_9, li_10, li_12, li_13, li_26, li_40, li_60, li_61, li_62, li_99, li_100, li_102, li_106, li_114, li_112, li_117, li_108, li_103, li_120, li_300, li_360, li_512, li_1000, nI_add, u_n_mul, u_n_lt, u_n_le, u_n_eq, u_n_sub, u_n_div, u_n_mod, nI_clamp, u_m1, u_m1q, u_wI_n, u_wA_n, u_br_t, u_br_f, b10, b00, f_0, f_1, u_okT, u_nb_0, u_nb_1, t7 c (by omega)]
  · by_cases h2 : m 7 (3 * t + c) < v
    · rw [if_neg (by omega)]
      simp (disch := omega) only [z_X10_isWithin, c_hasC t2 hc hm, u_br_True, u_br_False, u_jn_u, u_lt_u, u_nn_s, u_brn_s, u_brn_n, ↓li_m1, li_0, li_1, li_2, li_3, li_4, li_5, li_6, li_7, li_8, li_9, li_10, li_12, li_13, li_26, li_40, li_60, li_61, li_62, li_99, li_100, li_102, li_106, li_114, li_112, li_117, li_108, li_103, li_120, li_300, li_360, li_512, li_1000, nI_add, u_n_mul, u_n_lt, u_n_le, u_n_eq, u_n_sub, u_n_div, u_n_mod, nI_clamp, u_m1, u_m1q, u_wI_n, u_wA_n, u_br_t, u_br_f, b10, b00, f_0, f_1, u_okT, u_nb_0, u_nb_1, t7 c (by omega), t8 c (by omega)]
    · rw [if_pos (by omega)]
      simp (disch := omega) only [z_X10_isWithin, c_hasC t2 hc hm, u_br_True, u_br_False, u_jn_u, u_lt_u, u_nn_s, u_brn_s, u_brn_n, ↓li_m1, li_0, li_1, li_2, li_3, li_4, li_5, li_6, li_7, li_8, li_9, li_10, li_12, li_13, li_26, li_40, li_60, li_61, li_62, li_99, li_100, li_102, li_106, li_114, li_112, li_117, li_108, li_103, li_120, li_300, li_360, li_512, li_1000, nI_add, u_n_mul, u_n_lt, u_n_le, u_n_eq, u_n_sub, u_n_div, u_n_mod, nI_clamp, u_m1, u_m1q, u_wI_n, u_wA_n, u_br_t, u_br_f, b10, b00, f_0, f_1, u_okT, u_nb_0, u_nb_1, t7 c (by omega), t8 c (by omega)]
theorem c_beyond (hN : 1000000 ≤ N) (T : CT1 m u σ t) (W : WT m u) (ht : t < m 1 0) (hc : c < m 2 t) {K : Int32 → Prop} (h : K (nI (bey m u t c (m 6 (3 * t + c)) (m 7 (3 * t + c)) 40))) : z_X10_rowsBeyondBounds N t (nI c) σ K := by
  have h1 := W.nt
  have hcl := W.cl ht
  have w7 := W.2.2.2.2.2.2.1 (3 * t + c) (by omega)
  unfold z_X10_rowsBeyondBounds
  refine for_v 40 (by omega) (by omega) (fun j a => a = nI (bey m u t c (m 6 (3 * t + c)) (m 7 (3 * t + c)) j)) 0 (by omega) (fun self r a hr ha hs => ?_) rfl
  subst ha
  have hb := bey_le (m := m) (u := u) (t := t) (c := c) (lo := m 6 (3 * t + c)) (hi := m 7 (3 * t + c)) (n := r)
  by_cases hl : r < 40
  · have e := T.2.2.2.2.1 r hl
    have b := (W.row (by omega : t < 3) hl).2.1
    by_cases hth : th m t r = true
    · have hrm := W.th_lt (by omega) hl hth
      have hne : ¬ m 4 (40 * t + r) = 0 := by simpa [th] using hth
      obtain ⟨v, hv, ev⟩ := W.vg ht hc r hl hth
      have e9 : bey m u t c (m 6 (3 * t + c)) (m 7 (3 * t + c)) (r + 1) = if ¬ (m 6 (3 * t + c) ≤ v ∧ v ≤ m 7 (3 * t + c)) then bey m u t c (m 6 (3 * t + c)) (m 7 (3 * t + c)) r + 1 else bey m u t c (m 6 (3 * t + c)) (m 7 (3 * t + c)) r := by
        show (if th m t r = true ∧ ¬ (m 6 (3 * t + c) ≤ tN (vl u t r c) ∧ tN (vl u t r c) ≤ m 7 (3 * t + c)) then _ + 1 else _) = _
        rw [ev, u_tN_nI (by omega)]
        simp only [hth, true_and]
        rfl
      by_cases hw : m 6 (3 * t + c) ≤ v ∧ v ≤ m 7 (3 * t + c)
      · rw [if_neg (by omega)] at e9
        simp (disch := omega) only [u_br_True, u_br_False, u_jn_u, u_lt_u, u_nn_s, u_brn_s, u_brn_n, nI_add, u_n_mul, u_n_lt, u_n_le, u_n_eq, u_n_sub, u_n_div, u_n_mod, nI_clamp, u_m1, u_m1q, u_wI_n, u_wA_n, u_br_t, u_br_f, ↓li_m1, li_0, li_1, li_2, li_3, li_4, li_5, li_6, li_7, li_8, li_9, li_10, li_12, li_13, li_26, li_40, li_60, li_61, li_62, li_99, li_100, li_102, li_106, li_114, li_112, li_117, li_108, li_103, li_120, li_300, li_360, li_512, li_1000, e, c_cell T hrm hl (by omega : c < 3), ev, c_isWith T hcl.2 hc w7.1 w7.2 (by omega : v < 2 ^ 31), if_pos hw, b10, b00, f_0, f_1, u_okT, u_nb_0, u_nb_1]
        exact hs _ hl (by rw [e9])
      · rw [if_pos hw] at e9
        simp (disch := omega) only [u_br_True, u_br_False, u_jn_u, u_lt_u, u_nn_s, u_brn_s, u_brn_n, nI_add, u_n_mul, u_n_lt, u_n_le, u_n_eq, u_n_sub, u_n_div, u_n_mod, nI_clamp, u_m1, u_m1q, u_wI_n, u_wA_n, u_br_t, u_br_f, ↓li_m1, li_0, li_1, li_2, li_3, li_4, li_5, li_6, li_7, li_8, li_9, li_10, li_12, li_13, li_26, li_40, li_60, li_61, li_62, li_99, li_100, li_102, li_106, li_114, li_112, li_117, li_108, li_103, li_120, li_300, li_360, li_512, li_1000, e, c_cell T hrm hl (by omega : c < 3), ev, c_isWith T hcl.2 hc w7.1 w7.2 (by omega : v < 2 ^ 31), if_neg hw, b10, b00, f_0, f_1, u_okT, u_nb_0, u_nb_1]
        exact hs _ hl (by rw [e9])
    · have heq : m 4 (40 * t + r) = 0 := by simpa [th] using hth
      simp (disch := omega) only [u_br_True, u_br_False, u_jn_u, u_lt_u, u_nn_s, u_brn_s, u_brn_n, nI_add, u_n_mul, u_n_lt, u_n_le, u_n_eq, u_n_sub, u_n_div, u_n_mod, nI_clamp, u_m1, u_m1q, u_wI_n, u_wA_n, u_br_t, u_br_f, ↓li_m1, li_0, li_1, li_2, li_3, li_4, li_5, li_6, li_7, li_8, li_9, li_10, li_12, li_13, li_26, li_40, li_60, li_61, li_62, li_99, li_100, li_102, li_106, li_114, li_112, li_117, li_108, li_103, li_120, li_300, li_360, li_512, li_1000, e, heq, b10, b00, f_0, f_1, u_okT, u_nb_0, u_nb_1]
      refine hs _ hl ?_
      show _ = nI (if th m t r = true ∧ _ then _ else _)
      rw [if_neg (fun h => hth h.1)]
      rfl
  · simp (disch := omega) only [u_br_True, u_br_False, u_jn_u, u_lt_u, u_nn_s, u_brn_s, u_brn_n, nI_add, u_n_mul, u_n_lt, u_n_le, u_n_eq, u_n_sub, u_n_div, u_n_mod, nI_clamp, u_m1, u_m1q, u_wI_n, u_wA_n, u_br_t, u_br_f, ↓li_m1, li_0, li_1, li_2, li_3, li_4, li_5, li_6, li_7, li_8, li_9, li_10, li_12, li_13, li_26, li_40, li_60, li_61, li_62, li_99, li_100, li_102, li_106, li_114, li_112, li_117, li_108, li_103, li_120, li_300, li_360, li_512, li_1000]
    rw [show r = 40 by omega]
    exact h
def mB (m : Nat → Nat → Nat) (t c lo hi : Nat) : Nat → Nat → Nat := mu (mu (mu m 16 0 0) 6 (3 * t + c) lo) 7 (3 * t + c) hi
theorem mB_o {f j : Nat} (h1 : f ≠ 6) (h2 : f ≠ 7) (h4 : f ≠ 16) : mB m t c lo hi f j = m f j := by
  simp [mB, mu, h1, h2, h4]
theorem mB_6 {j : Nat} : mB m t c lo hi 6 j = if j = 3 * t + c then lo else m 6 j := by simp [mB, mu]
theorem mB_7 {j : Nat} : mB m t c lo hi 7 j = if j = 3 * t + c then hi else m 7 j := by simp [mB, mu]
theorem th_mB : th (mB m t c lo hi) = th m := by
  funext t r
  simp only [th, mB_o (m := m) (by decide : 4 ≠ 6) (by decide) (by decide)]
theorem liv_mB : liv (mB m t c lo hi) = liv m := by
  funext t
  simp only [liv, th_mB]
theorem ent_mB : ent (mB m t c lo hi) = ent m := by
  funext u t c'
  simp only [ent, th_mB]
theorem bey_mB {t' c' a b : Nat} : bey (mB m t c lo hi) u t' c' a b n = bey m u t' c' a b n := by
  simp only [bey, th_mB]
theorem WT_mB (W : WT m u) (hlo : lo ≤ 99) (hhi : hi ≤ 99) (ht : t < m 1 0) (hc : c < 3) : WT (mB m t c lo hi) u := by
  obtain ⟨w1, w2, w3, w4, w5, w6, w7, w8, w9, w10, w11⟩ := W
  have o : ∀ f j, f ≠ 6 → f ≠ 7 → f ≠ 16 → mB m t c lo hi f j = m f j := fun f j a b d => mB_o a b d
  unfold WT
  simp (disch := decide) only [o]
  refine ⟨w1, w2, w3, w4, w5, w6, ?_, w8, w9, w10, ?_⟩
  · intro j hj
    have := w7 j hj
    rw [mB_6, mB_7]
    split <;> omega
  · intro t' ht' ht3
    obtain ⟨a1, a2, a3, a4⟩ := w11 t' ht' ht3
    refine ⟨a1, a2, a3, fun c' hc' => ?_⟩
    rw [mB_6, if_neg (by omega)]
    exact a4 c' hc'
theorem k_bound (hN : 1000000 ≤ N) (I : Inv kk σ) (hk : kk < 512) (p p2 p3 p4 : Int32) {T : Int32 → Int32 → St → Prop} (hT : ∀ code b σ2, G (kk + 1) code b σ2 → T code b σ2) : z_L_bound N (some 0) p p2 p3 p4 σ (fun code σ1 => z_X12_bound N 0 p p2 p3 p4 σ1 (fun b σ2 => T code b σ2)) := by
  have I0 := I
  obtain ⟨m, u, w, L, R, C, W⟩ := I
  have C1 := C
  have W1 := W
  obtain ⟨C0', CT', CX', CC', CQ', CD', CP'⟩ := C
  obtain ⟨WT', WX', WC', WQ', WD'⟩ := W
  have hC := C0'
  unfold C0 at hC
  have R0 : RI m u w L (stP σ 12 0 0 0 (nI 0)) := R.tmp rfl
  have h1 := WT'.nt
  have fail2 : ∀ b, ∀ t, t < m 1 0 → T (nI 2) b (stP σ 12 0 0 0 (nI 2)) := fun b t _ => hT _ _ _ (G_exc (c := 2) I0 hk (by decide) (by decide))
  rcases u_io p (m 1 0) with ⟨t, ht, _, rfl⟩ | hp
  · have hcl := WT'.cl ht
    have hT1 := CT'.2.2.2 t ht
    rcases u_io p2 (m 2 t) with ⟨c, hc, _, rfl⟩ | hp2
    · rcases u_io p3 100 with ⟨lo, hlo, _, rfl⟩ | hp3
      · by_cases hhi : ∃ hi, lo ≤ hi ∧ hi ≤ 99 ∧ p4 = nI hi
        · obtain ⟨hi, hlh, hhi, rfl⟩ := hhi
          have hTB : CT1 (mB m t c lo hi) u (stP (stP σ 10 t 6 c (nI lo)) 10 t 7 c (nI hi)) t := by
            obtain ⟨t1, t2, t3, t4, t5, t6, t7, t8, t9, t10, t11, t12, t13⟩ := hT1
            have o : ∀ f j, f ≠ 6 → f ≠ 7 → f ≠ 16 → mB m t c lo hi f j = m f j := fun f j a b d => mB_o a b d
            unfold CT1
            rw [liv_mB]
            simp (disch := decide) only [o]
            refine ⟨by simp [sP_stP, t1], by simp [sP_stP, t2], by simp [sP_stP, t3], by simp [sP_stP, t4], fun r hr => by simp [sP_stP, t5 r hr], fun r c' hr hc' => by simp [sP_stP, t6 r c' hr hc'], fun c' hc' => ?_, fun c' hc' => ?_, by simp [sP_stP, t9], by simp [sP_stP, t10], fun c' hc' => by simp [sP_stP, t11 c' hc'], fun c' hc' => by simp [sP_stP, t12 c' hc'], fun c' hc' => by simp [sP_stP, t13 c' hc']⟩
            · rw [mB_6]
              by_cases e : c' = c
              · subst e; simp [sP_stP]
              · rw [if_neg (by omega)]; simp [sP_stP, e, t7 c' hc']
            · rw [mB_7]
              by_cases e : c' = c
              · subst e; simp [sP_stP]
              · rw [if_neg (by omega)]; simp [sP_stP, e, t8 c' hc']
          have hWB := WT_mB (m := m) (u := u) (c := c) WT' (by omega : lo ≤ 99) hhi ht (by omega)
          have hTB2 : CT1 (mB m t c lo hi) u (stP (stP (stP σ 10 t 6 c (nI lo)) 10 t 7 c (nI hi)) 2 0 5 0 (nI 0)) t := by
            unfold CT1 at hTB ⊢
            simpa [sP_stP] using hTB
          simp (disch := omega) only [z_L_bound, z_X11_bound, z_X10_setBounds, z_X2_closeAppeals, c_needT C0' CT' WT' ht, c_hasC hT1.2.1 hc hcl.2, c_isV (by omega : lo ≤ 99), c_isV hhi, u_br_True, u_br_False, u_jn_u, u_lt_u, u_nn_s, u_brn_s, u_brn_n, nI_add, u_n_mul, u_n_lt, u_n_le, u_n_eq, u_n_sub, u_n_div, u_n_mod, nI_clamp, u_m1, u_m1q, u_wI_n, u_wA_n, u_br_t, u_br_f, ↓li_m1, li_0, li_1, li_2, li_3, li_4, li_5, li_6, li_7, li_8, li_9, li_10, li_12, li_13, li_26, li_40, li_60, li_61, li_62, li_99, li_100, li_102, li_106, li_114, li_112, li_117, li_108, li_103, li_120, li_300, li_360, li_512, li_1000, b10, b00, f_0, f_1, u_okT, u_nb_0, u_nb_1, hC, sQ_stP]
          refine c_beyond hN hTB2 hWB (by rw [mB_o (by decide) (by decide) (by decide)]; exact ht) (by rw [mB_o (by decide) (by decide) (by decide)]; exact hc) ?_
          rw [bey_mB, mB_6, mB_7, if_pos rfl, if_pos rfl]
          have Rc : ∀ y : Int64, RI m u w L (stP (stL (stP (stP (stP σ 10 t 6 c (nI lo)) 10 t 7 c (nI hi)) 2 0 5 0 (nI 0)) 13 0 0 0 y) 12 0 0 0 (nI 0)) := fun y => (R.km ((((KM.st (by decide)).trans (KM.st (by decide))).trans (KM.st (by decide))).trans KM.stL)).tmp rfl
          have Rd : ∀ y : Int64, RI (mB m t c lo hi) u w L (stP (stP (stP (stP (stL (stP (stP (stP σ 10 t 6 c (nI lo)) 10 t 7 c (nI hi)) 2 0 5 0 (nI 0)) 13 0 0 0 y) 12 0 0 0 (nI 0)) 12 0 16 0 (nI 0)) 12 0 6 (3 * t + c) (nI lo)) 12 0 7 (3 * t + c) (nI hi)) := fun y => (((Rc y).set rfl).set rfl).set rfl
          simp (disch := omega) only [z_X12_bound, r_isT (Rc _) WT' ht, r_isC (Rc _) WT' ht hc, u_br_True, u_br_False, u_jn_u, u_lt_u, u_nn_s, u_brn_s, u_brn_n, nI_add, u_n_mul, u_n_lt, u_n_le, u_n_eq, u_n_sub, u_n_div, u_n_mod, nI_clamp, u_m1, u_m1q, u_wI_n, u_wA_n, u_br_t, u_br_f, ↓li_m1, li_0, li_1, li_2, li_3, li_4, li_5, li_6, li_7, li_8, li_9, li_10, li_12, li_13, li_26, li_40, li_60, li_61, li_62, li_99, li_100, li_102, li_106, li_114, li_112, li_117, li_108, li_103, li_120, li_300, li_360, li_512, li_1000, r_inT, r_inL, r_inH, r_inPT, r_inPF, b10, b00, f_0, f_1, u_okT, u_nb_0, u_nb_1, wA_l, l0c]
          have h3 := WT'.2.2.2.1 t (by omega)
          refine for_v (m 3 t) (by omega) (by omega) (fun j a => a = nI (bey m u t c lo hi j)) 0 (by omega) (fun self r a hr ha hs => ?_) rfl
          subst ha
          have hb := bey_le (m := m) (u := u) (t := t) (c := c) (lo := lo) (hi := hi) (n := r)
          have o3 : ∀ y, sP (stP (stP (stP (stP (stL (stP (stP (stP σ 10 t 6 c (nI lo)) 10 t 7 c (nI hi)) 2 0 5 0 (nI 0)) 13 0 0 0 y) 12 0 0 0 (nI 0)) 12 0 16 0 (nI 0)) 12 0 6 (3 * t + c) (nI lo)) 12 0 7 (3 * t + c) (nI hi)) 12 0 3 t = nI (m 3 t) := fun y => by rw [(Rd y).r 3 t rfl, mB_o (by decide) (by decide) (by decide)]
          by_cases hl : r < m 3 t
          · have e9 : bey m u t c lo hi (r + 1) = if th m t r = true ∧ ¬ (lo ≤ tN (vl u t r c) ∧ tN (vl u t r c) ≤ hi) then bey m u t c lo hi r + 1 else bey m u t c lo hi r := rfl
            by_cases hth : th m t r = true
            · obtain ⟨v, hv, ev⟩ := WT'.vg ht hc r (by omega) hth
              rw [ev, u_tN_nI (by omega)] at e9
              have hth2 : th (mB m t c lo hi) t r = true := by rw [th_mB]; exact hth
              by_cases hw : lo ≤ v ∧ v ≤ hi
              · rw [if_neg (by omega)] at e9
                simp (disch := omega) only [u_br_True, u_br_False, u_jn_u, u_lt_u, u_nn_s, u_brn_s, u_brn_n, nI_add, u_n_mul, u_n_lt, u_n_le, u_n_eq, u_n_sub, u_n_div, u_n_mod, nI_clamp, u_m1, u_m1q, u_wI_n, u_wA_n, u_br_t, u_br_f, ↓li_m1, li_0, li_1, li_2, li_3, li_4, li_5, li_6, li_7, li_8, li_9, li_10, li_12, li_13, li_26, li_40, li_60, li_61, li_62, li_99, li_100, li_102, li_106, li_114, li_112, li_117, li_108, li_103, li_120, li_300, li_360, li_512, li_1000, o3, r_hasR (Rd _) hWB (by omega : t < 3) (by omega : r < 40), hth2, Nat.reduceEqDiff, true_and, and_true, false_and, and_false, if_true, if_false, eq_self, and_self, Nat.reduceLT, Nat.reduceLeDiff, Nat.reduceAdd, Nat.reduceMul, Nat.reduceDiv, Nat.one_ne_zero, b10, b00, f_0, f_1, u_okT, u_nb_0, u_nb_1, r_at (Rd _) (by omega : t < 3) (by omega : r < 40) (by omega : c < 3), ev, r_inT, r_inL, r_inH, r_inPT, r_inPF]
                exact hs _ hl (by rw [e9, Nat.add_zero])
              · rw [if_pos ⟨hth, hw⟩] at e9
                simp (disch := omega) only [u_br_True, u_br_False, u_jn_u, u_lt_u, u_nn_s, u_brn_s, u_brn_n, nI_add, u_n_mul, u_n_lt, u_n_le, u_n_eq, u_n_sub, u_n_div, u_n_mod, nI_clamp, u_m1, u_m1q, u_wI_n, u_wA_n, u_br_t, u_br_f, ↓li_m1, li_0, li_1, li_2, li_3, li_4, li_5, li_6, li_7, li_8, li_9, li_10, li_12, li_13, li_26, li_40, li_60, li_61, li_62, li_99, li_100, li_102, li_106, li_114, li_112, li_117, li_108, li_103, li_120, li_300, li_360, li_512, li_1000, o3, r_hasR (Rd _) hWB (by omega : t < 3) (by omega : r < 40), hth2, Nat.reduceEqDiff, true_and, and_true, false_and, and_false, if_true, if_false, eq_self, and_self, Nat.reduceLT, Nat.reduceLeDiff, Nat.reduceAdd, Nat.reduceMul, Nat.reduceDiv, Nat.one_ne_zero, b10, b00, f_0, f_1, u_okT, u_nb_0, u_nb_1, r_at (Rd _) (by omega : t < 3) (by omega : r < 40) (by omega : c < 3), ev, r_in (by omega : v < 2 ^ 31) (by omega : lo < 2 ^ 31) (by omega : hi < 2 ^ 31), if_neg hw]
                exact hs _ hl (by rw [e9])
            · have hth2 : ¬ th (mB m t c lo hi) t r = true := by rw [th_mB]; exact hth
              rw [if_neg (fun h => hth h.1)] at e9
              simp (disch := omega) only [u_br_True, u_br_False, u_jn_u, u_lt_u, u_nn_s, u_brn_s, u_brn_n, nI_add, u_n_mul, u_n_lt, u_n_le, u_n_eq, u_n_sub, u_n_div, u_n_mod, nI_clamp, u_m1, u_m1q, u_wI_n, u_wA_n, u_br_t, u_br_f, ↓li_m1, li_0, li_1, li_2, li_3, li_4, li_5, li_6, li_7, li_8, li_9, li_10, li_12, li_13, li_26, li_40, li_60, li_61, li_62, li_99, li_100, li_102, li_106, li_114, li_112, li_117, li_108, li_103, li_120, li_300, li_360, li_512, li_1000, o3, r_hasR (Rd _) hWB (by omega : t < 3) (by omega : r < 40), if_neg hth2, b10, b00, f_0, f_1, u_okT, u_nb_0, u_nb_1]
              exact hs _ hl (by rw [e9, Nat.add_zero])
          · simp (disch := omega) only [u_br_True, u_br_False, u_jn_u, u_lt_u, u_nn_s, u_brn_s, u_brn_n, nI_add, u_n_mul, u_n_lt, u_n_le, u_n_eq, u_n_sub, u_n_div, u_n_mod, nI_clamp, u_m1, u_m1q, u_wI_n, u_wA_n, u_br_t, u_br_f, ↓li_m1, li_0, li_1, li_2, li_3, li_4, li_5, li_6, li_7, li_8, li_9, li_10, li_12, li_13, li_26, li_40, li_60, li_61, li_62, li_99, li_100, li_102, li_106, li_114, li_112, li_117, li_108, li_103, li_120, li_300, li_360, li_512, li_1000, o3]
            rw [show r = m 3 t by omega, bey_stop WT' (by omega)]
            have hSX : SameX m (mB m t c lo hi) := fun f hf j => by
              refine mB_o ?_ ?_ ?_ <;> (intro h9; subst h9; revert hf; decide)
            have hFI : FI σ (stP (stP σ 10 t 6 c (nI lo)) 10 t 7 c (nI hi)) := (FI.refl.st (Or.inr (Or.inr rfl))).st (Or.inr (Or.inr rfl))
            refine hT _ _ _ (finI (m' := mB m t c lo hi) (u' := u) (L' := L) hFI hSX (by simp [mB, mu]) C1 W1 hk ?_ ?_ (hSX.cc ?_) (Rd _) ((((KC.st).trans KC.st).trans KC.st).trans KC.st) hWB (hSX.wc WC') (by simp (disch := decide) only [sP_o, sP_e]))
            · obtain ⟨a1, a2, a3, a4⟩ := CT'
              unfold CT
              rw [hSX 1 rfl]
              refine ⟨by simp [sP_stP, a1], by simp [sV_stP, a2], fun t' ht' => by simp [sQ_stP, a3 t' ht'], fun t' ht' => ?_⟩
              by_cases e : t' = t
              · subst e; exact hTB
              · obtain ⟨t1, t2, t3, t4, t5, t6, t7, t8, t9, t10, t11, t12, t13⟩ := a4 t' ht'
                have o : ∀ f j, f ≠ 6 → f ≠ 7 → f ≠ 16 → mB m t c lo hi f j = m f j := fun f j a b d => mB_o a b d
                unfold CT1
                rw [liv_mB]
                simp (disch := decide) only [o]
                refine ⟨by simp [sP_stP, e, t1], by simp [sP_stP, e, t2], by simp [sP_stP, e, t3], by simp [sP_stP, e, t4], fun r hr => by simp [sP_stP, e, t5 r hr], fun r c' hr hc' => by simp [sP_stP, e, t6 r c' hr hc'], fun c' hc' => ?_, fun c' hc' => ?_, by simp [sP_stP, e, t9], by simp [sP_stP, e, t10], fun c' hc' => by simp [sP_stP, e, t11 c' hc'], fun c' hc' => by simp [sP_stP, e, t12 c' hc'], fun c' hc' => by simp [sP_stP, e, t13 c' hc']⟩
                · rw [mB_6, if_neg (by omega)]; simp [sP_stP, e, t7 c' hc']
                · rw [mB_7, if_neg (by omega)]; simp [sP_stP, e, t8 c' hc']
            · rw [CX_st (by decide), CX_st (by decide)]
              unfold CX CX1 at CX' ⊢
              rw [ent_mB, hSX 13 rfl, funext (hSX 14 rfl), funext (hSX 15 rfl)]
              exact CX'
            · rw [CC_st (by decide), CC_st (by decide)]; exact CC'
        · have hbad : p4 < nI lo ∨ ∃ a, a < 2 ^ 31 ∧ 99 < a ∧ p4 = nI a := by
            rcases u_or p4 with h | ⟨a, ha, rfl⟩
            · exact Or.inl (u_neg_lt h (by omega))
            · by_cases h9 : a < lo
              · exact Or.inl (by rw [u_n_lt (by omega) (by omega)]; exact h9)
              · exact Or.inr ⟨a, ha, Nat.lt_of_not_le (fun h8 => hhi ⟨a, by omega, h8, rfl⟩), rfl⟩
          have cbad : z_L_bound N (some 0) (nI t) (nI c) (nI lo) p4 σ (fun code σ1 => z_X12_bound N 0 (nI t) (nI c) (nI lo) p4 σ1 (fun b σ2 => T code b σ2)) = (False ∨ z_X12_bound N 0 (nI t) (nI c) (nI lo) p4 σ (fun b σ2 => T (nI 2) b σ2)) := by
            rcases u_io p4 100 with ⟨a, ha, _, rfl⟩ | h9
            · have hlt : a < lo := by
                rcases hbad with h | ⟨a', ha', h2, h3⟩
                · rwa [u_n_lt (by omega) (by omega)] at h
                · have := congrArg tN h3
                  rw [u_tN_nI (by omega), u_tN_nI (by omega)] at this
                  omega
              simp (disch := omega) only [z_L_bound, z_X11_bound, c_needT C0' CT' WT' ht, c_hasC hT1.2.1 hc hcl.2, c_isV (by omega : lo ≤ 99), c_isV (by omega : a ≤ 99), u_br_True, u_br_False, u_jn_u, u_lt_u, u_nn_s, u_brn_s, u_brn_n, nI_add, u_n_mul, u_n_lt, u_n_le, u_n_eq, u_n_sub, u_n_div, u_n_mod, nI_clamp, u_m1, u_m1q, u_wI_n, u_wA_n, u_br_t, u_br_f, ↓li_m1, li_0, li_1, li_2, li_3, li_4, li_5, li_6, li_7, li_8, li_9, li_10, li_12, li_13, li_26, li_40, li_60, li_61, li_62, li_99, li_100, li_102, li_106, li_114, li_112, li_117, li_108, li_103, li_120, li_300, li_360, li_512, li_1000, b10, b00, f_0, f_1, u_okT, u_nb_0, u_nb_1]
              simp
            · simp (disch := omega) only [z_L_bound, z_X11_bound, c_needT C0' CT' WT' ht, c_hasC hT1.2.1 hc hcl.2, c_isV (by omega : lo ≤ 99), c_isVO h9, u_br_True, u_br_False, u_jn_u, u_lt_u, u_nn_s, u_brn_s, u_brn_n, nI_add, u_n_mul, u_n_lt, u_n_le, u_n_eq, u_n_sub, u_n_div, u_n_mod, nI_clamp, u_m1, u_m1q, u_wI_n, u_wA_n, u_br_t, u_br_f, ↓li_m1, li_0, li_1, li_2, li_3, li_4, li_5, li_6, li_7, li_8, li_9, li_10, li_12, li_13, li_26, li_40, li_60, li_61, li_62, li_99, li_100, li_102, li_106, li_114, li_112, li_117, li_108, li_103, li_120, li_300, li_360, li_512, li_1000, b10, b00, f_0, f_1, u_okT, u_nb_0, u_nb_1]
              simp
          rw [cbad]
          refine Or.inr ?_
          have e : ∀ {K : Int32 → Prop}, z_X12_in N p4 (nI lo) (nI 99) (stP σ 12 0 0 0 (nI 0)) K = K (nI 0) := by
            intro K
            rcases hbad with h | ⟨a, ha, h2, rfl⟩
            · exact r_inN h
            · exact r_inH ha (by omega) h2
          simp (disch := omega) only [z_X12_bound, r_isT R0 WT' ht, r_isC R0 WT' ht hc, u_br_True, u_br_False, u_jn_u, u_lt_u, u_nn_s, u_brn_s, u_brn_n, ↓li_m1, li_0, li_1, li_2, li_3, li_4, li_5, li_6, li_7, li_8, li_9, li_10, li_12, li_13, li_26, li_40, li_60, li_61, li_62, li_99, li_100, li_102, li_106, li_114, li_112, li_117, li_108, li_103, li_120, li_300, li_360, li_512, li_1000, r_inT, r_inL, r_inH, r_inPT, r_inPF, b10, b00, f_0, f_1, u_okT, u_nb_0, u_nb_1, e]
          exact fail2 _ t ht
      · simp (disch := omega) only [z_L_bound, z_X11_bound, z_X12_bound, c_needT C0' CT' WT' ht, c_hasC hT1.2.1 hc hcl.2, c_isVO hp3, r_isT R0 WT' ht, r_isC R0 WT' ht hc, r_inO2 hp3, u_br_True, u_br_False, u_jn_u, u_lt_u, u_nn_s, u_brn_s, u_brn_n, ↓li_m1, li_0, li_1, li_2, li_3, li_4, li_5, li_6, li_7, li_8, li_9, li_10, li_12, li_13, li_26, li_40, li_60, li_61, li_62, li_99, li_100, li_102, li_106, li_114, li_112, li_117, li_108, li_103, li_120, li_300, li_360, li_512, li_1000, b10, b00, f_0, f_1, u_okT, u_nb_0, u_nb_1]
        exact Or.inr ⟨trivial, fail2 _ t ht⟩
    · simp (disch := omega) only [z_L_bound, z_X11_bound, z_X12_bound, c_needT C0' CT' WT' ht, c_hasCO hT1.2.1 hp2 hcl.2, r_isT R0 WT' ht, r_isCO R0 WT' ht hp2, u_br_True, u_br_False, u_jn_u, u_lt_u, u_nn_s, u_brn_s, u_brn_n, ↓li_m1, li_0, li_1, li_2, li_3, li_4, li_5, li_6, li_7, li_8, li_9, li_10, li_12, li_13, li_26, li_40, li_60, li_61, li_62, li_99, li_100, li_102, li_106, li_114, li_112, li_117, li_108, li_103, li_120, li_300, li_360, li_512, li_1000, b10, b00, f_0, f_1, u_okT, u_nb_0, u_nb_1]
      exact Or.inr ⟨trivial, fail2 _ t ht⟩
  · simp (disch := omega) only [z_L_bound, z_X11_bound, z_X12_bound, c_needTO C0' CT' WT' hp, r_isTO R0 WT' hp, u_br_True, u_br_False, u_jn_u, u_lt_u, u_nn_s, u_brn_s, u_brn_n, ↓li_m1, li_0, li_1, li_2, li_3, li_4, li_5, li_6, li_7, li_8, li_9, li_10, li_12, li_13, li_26, li_40, li_60, li_61, li_62, li_99, li_100, li_102, li_106, li_114, li_112, li_117, li_108, li_103, li_120, li_300, li_360, li_512, li_1000, b10, b00, f_0, f_1, u_okT, u_nb_0, u_nb_1]
    exact Or.inl ⟨trivial, hT _ _ _ (G_exc (c := 1) I0 hk (by decide) (by decide))⟩
end BOUND
