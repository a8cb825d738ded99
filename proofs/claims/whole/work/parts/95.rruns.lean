section RRUNS
variable {m : Nat → Nat → Nat} {u w : Nat → Int32} {L L0 : List Nat} {σ σ' σ0 s s2 σ1 : St} {N kk n q p d ban t c k a x i j place v told F key p3 r e s_ y B : Nat} {g o ways : Nat → Nat} {ix : Nat → Option Nat} {p2 : Int32} {rs rs' fin : RSt} {vf : (Nat → Nat) → Int32} {lf : Option Nat} {P : Nat → Prop} {E : Nat → List (Nat ⊕ (Nat → Nat))} {En : Nat → Nat} {hd : Nat → Bool}
def fY (c f j : Nat) : Prop := (f = 20 ∧ 13 * c ≤ j ∧ j < 13 * c + 13) ∨ (f = 21 ∧ j = c) ∨ f = 22 ∨ f = 23 ∨ f = 17 ∨ f = 18 ∨ f = 37 ∨ (39 ≤ f ∧ f ≤ 45) ∨ (47 ≤ f ∧ f ≤ 50)
/-- what a whole run of the reference leaves -/
def KY (c : Nat) (σ σ' : St) : Prop := (∀ k i f j, ¬ (k = 12 ∧ i = 0 ∧ fY c f j) → sP σ' k i f j = sP σ k i f j) ∧ sL_ σ' = sL_ σ ∧ sQ σ' = sQ σ ∧ sD_ σ' = sD_ σ ∧ sV σ' = sV σ
theorem KY.refl : KY c σ σ := ⟨fun _ _ _ _ _ => rfl, rfl, rfl, rfl, rfl⟩
theorem KY.trans (h : KY c σ σ') (g : KY c σ' σ1) : KY c σ σ1 := ⟨fun k i f j hn => (g.1 k i f j hn).trans (h.1 k i f j hn), g.2.1.trans h.2.1, g.2.2.1.trans h.2.2.1, g.2.2.2.1.trans h.2.2.2.1, g.2.2.2.2.trans h.2.2.2.2⟩
theorem KW.ky (h : KW c σ σ') : KY c σ σ' := ⟨fun k i f j hn => h.1 k i f j (fun e => hn ⟨e.1, e.2.1, by have := e.2.2; unfold fW at this; unfold fY; omega⟩), h.2⟩
theorem KF.ky (h : KF P σ σ') (hP : ∀ f, P f → f = 17 ∨ f = 18 ∨ (39 ≤ f ∧ f ≤ 45)) : KY c σ σ' := ⟨fun k i f j hn => h.1 k i f j (fun e => hn ⟨e.1, e.2.1, by have := hP f e.2.2; unfold fY; omega⟩), h.2⟩
theorem KY.kc (h : KY c σ σ') : KC σ σ' := ⟨fun k i f j hn => h.1 k i f j (fun e => hn e.1), h.2.1, h.2.2.1, h.2.2.2.1, h.2.2.2.2⟩
theorem KY.ff {f j : Nat} (h : KY c σ σ') (hf : ¬ fY c f j) : sP σ' 12 0 f j = sP σ 12 0 f j := h.1 12 0 f j (fun e => hf e.2.2)
theorem pf_Y {f : Nat} (hf : pf f = true) (h : f = 20 ∨ f = 21 ∨ f = 22 ∨ f = 23 ∨ f = 17 ∨ f = 18 ∨ f = 37 ∨ (39 ≤ f ∧ f ≤ 45) ∨ (47 ≤ f ∧ f ≤ 50)) : False := by
  have : f = 20 ∨ f = 21 ∨ f = 22 ∨ f = 23 ∨ f = 17 ∨ f = 18 ∨ f = 37 ∨ f = 39 ∨ f = 40 ∨ f = 41 ∨ f = 42 ∨ f = 43 ∨ f = 44 ∨ f = 45 ∨ f = 47 ∨ f = 48 ∨ f = 49 ∨ f = 50 := by omega
  rcases this with rfl | rfl | rfl | rfl | rfl | rfl | rfl | rfl | rfl | rfl | rfl | rfl | rfl | rfl | rfl | rfl | rfl | rfl <;> revert hf <;> decide
theorem RI.ky (R : RI m u w L0 σ) (h : KY c σ s) (hc : c < 2) (X : RO s c L) (hL0 : L0.length ≤ 12) : RI m u w (if c = 0 then L else L0) s := by
  have e : ∀ f j, pf f = true → sP s 12 0 f j = sP σ 12 0 f j := fun f j hf => h.ff (fun e => pf_Y hf (by unfold fY at e; omega))
  obtain ⟨r1, r2, r3, r4, r5⟩ := R
  refine ⟨fun f j hf => by rw [e f j hf]; exact r1 f j hf, fun j => ?_, fun j => ?_, ?_, fun j hj => ?_⟩
  · rw [h.ff (by unfold fY; omega)]; exact r2 j
  · rw [h.ff (by unfold fY; omega)]; exact r3 j
  · by_cases hc0 : c = 0
    · subst hc0
      rw [if_pos rfl]
      exact X.1
    · rw [if_neg hc0, h.ff (by unfold fY; omega)]
      exact r4
  · by_cases hc0 : c = 0
    · subst hc0
      simp only [if_true] at hj ⊢
      have := X.2 j hj
      rw [show 13 * 0 + j = j by omega, getD_e hj] at this
      exact this
    · simp only [if_neg hc0] at hj ⊢
      rw [h.ff (by unfold fY; omega)]
      exact r5 j hj
def flis (f : Nat) : Prop := f = 17 ∨ f = 18
theorem t_lis : tmpP flis := by rintro f (rfl | rfl) <;> rfl
theorem KL.kf (h : KL k σ σ') : KF flis σ σ' := ⟨fun k' i f j hn => h.1 k' i f j (fun e => hn ⟨e.1, e.2.1, by unfold flis; have := e.2.2; omega⟩), h.2⟩
theorem PR.kf {P : Nat → Prop} (h : PR σ n o ways ix) (k : KF P σ s) (hP : ∀ f, P f → f = 17 ∨ f = 18) : PR s n o ways ix := fun p hp => by
  obtain ⟨a1, a2, a3⟩ := h p hp
  rw [k.ff (fun e => by have := hP _ e; omega), k.ff (fun e => by have := hP _ e; omega), k.ff (fun e => by have := hP _ e; omega)]
  exact ⟨a1, a2, a3⟩
theorem run_eq {p1 p4 : Int32} {p3 : Int32} {K : St → Prop} : z_X12_runs N 0 p1 p2 p3 p4 σ K = (
  z_X12_plans N 0 p1 p2 p3 σ fun h1 =>
  fx2 (fun (w10 : Int32 → St → Prop) (x3 : Int32) (h2 : St) =>
    br ((sP h2 12 0 13 0) ≤ x3) (
      lt_ (stP h2 12 0 22 0 0) fun h5 =>
      lt_ (stP h5 12 0 23 0 0) fun h6 =>
      z_X12_choosesNone N 0 h6 fun h7 =>
      z_X12_beginsAt N 0 0 h7 fun h8 =>
      fx2 (wkF N p2 p4 K) N 0 h8) (
      z_X12_lists N 0 x3 h2 fun h25 =>
      w10 (x3 + 1) h25)) N 0 h1) := rfl
theorem r_runs (hN : 1000000 ≤ N) (R : RI m u w L0 σ) (hL0 : L0.length ≤ 12) (W : WQ m) (Wx : WX m) (Wt : WT m u) (hq : q < m 24 0) (h0 : 0 < m 25 q) (hb : ban < 64) (hd : d < 2) (hc : c < 2) (X : RO σ c L) (Ck : CK (m 19 0) L) {K : St → Prop}
    (h : ∀ s, KY c σ s → RW c s ((evR m u q ban d).foldl (stEv (some 0) (m 19 0) p2 p3 vf) (r0 L)) → CK (m 19 0) ((evR m u q ban d).foldl (stEv (some 0) (m 19 0) p2 p3 vf) (r0 L)).2.2.2.1 → K s) : z_X12_runs N 0 (nI d) (nI q) (nI ban) (nI c) σ K := by
  have w3 := (W.2.2 q hq).1
  have hx6 := Wx.1
  rw [run_eq]
  refine r_plans hN R W Wx Wt hq h0 hb hd (fun s1 k1 P1 => ?_)
  have R1 : RI m u w L0 s1 := R.kf k1 t_all
  refine for_u (m 13 0) (by omega) (by omega) (fun k s => KF flis s1 s ∧ ∀ k', k' < k → LST s k' (ent m u (m 14 k') (m 15 k'))) 0 (by omega) (fun self k s hk hI hs => ?_) ⟨KF.refl, fun k' hk => by omega⟩
  obtain ⟨i1, i2⟩ := hI
  have R2 : RI m u w L0 s := R1.kf i1 t_lis
  by_cases hl : k < m 13 0
  · obtain ⟨ht', hc'⟩ := Wx.2 k hl
    have h40 := ent_len40 Wt ht' hc'
    simp (disch := omega) only [u_br_True, u_br_False, u_jn_u, u_lt_u, u_nn_s, u_brn_s, u_brn_n, nI_add, u_n_mul, u_n_lt, u_n_le, u_n_eq, u_n_sub, u_n_div, u_n_mod, nI_clamp, u_m1, u_m1q, u_wI_n, u_wA_n, u_br_t, u_br_f, ↓li_m1, li_0, li_1, li_2, li_3, li_4, li_5, li_6, li_7, li_8, li_9, li_10, li_12, li_13, li_26, li_40, li_60, li_61, li_62, li_99, li_100, li_102, li_106, li_114, li_112, li_117, li_108, li_103, li_120, li_300, li_360, li_512, li_1000, (fun j => R.r 13 j rfl)]
    simp (disch := omega) only [(fun j => R2.r 13 j rfl), u_br_True, u_br_False, u_jn_u, u_lt_u, u_nn_s, u_brn_s, u_brn_n, nI_add, u_n_mul, u_n_lt, u_n_le, u_n_eq, u_n_sub, u_n_div, u_n_mod, nI_clamp, u_m1, u_m1q, u_wI_n, u_wA_n, u_br_t, u_br_f]
    refine r_lists hN R2 Wt Wx hl (fun s' Y1 Y2 => hs s' hl ⟨i1.trans Y2.kf, fun k' hk' => ?_⟩)
    by_cases e : k' = k
    · subst e; exact Y1
    · obtain ⟨ht2, hc2⟩ := Wx.2 k' (by omega)
      exact (i2 k' (by omega)).kl (ent_len40 Wt ht2 hc2) Y2 e
  · have hk2 : k = m 13 0 := by omega
    subst hk2
    have P2 := P1.kf i1 (fun f hf => hf)
    simp (disch := omega) only [(fun j => R2.r 13 j rfl), u_br_True, u_br_False, u_jn_u, u_lt_u, u_nn_s, u_brn_s, u_brn_n, nI_add, u_n_mul, u_n_lt, u_n_le, u_n_eq, u_n_sub, u_n_div, u_n_mod, nI_clamp, u_m1, u_m1q, u_wI_n, u_wA_n, u_br_t, u_br_f, ↓li_m1, li_0, li_1, li_2, li_3, li_4, li_5, li_6, li_7, li_8, li_9, li_10, li_12, li_13, li_26, li_40, li_60, li_61, li_62, li_99, li_100, li_102, li_106, li_114, li_112, li_117, li_108, li_103, li_120, li_300, li_360, li_512, li_1000, z_X12_choosesNone, z_X12_beginsAt, l0c, wA_l]
    have kw : KW c s (stP (stP (stP (stP (stP (stP (stP s 12 0 22 0 (nI 0)) 12 0 23 0 (nI 0)) 12 0 37 0 mI) 12 0 37 1 mI) 12 0 37 2 mI) 12 0 47 0 (nI 0)) 12 0 48 0 mI) := ((((((KW.refl.st (by unfold fW; omega)).st (by unfold fW; omega)).st (by unfold fW; omega)).st (by unfold fW; omega)).st (by unfold fW; omega)).st (by unfold fW; omega)).st (by unfold fW; omega)
    have kys : KY c σ s := (k1.ky (fun f hf => by unfold fall at hf; omega)).trans (i1.ky (fun f hf => by unfold flis at hf; omega))
    have X1 : RO s c L := by
      unfold RO at X ⊢
      obtain ⟨x1, x2⟩ := X
      have e : ∀ f j, f = 20 ∨ f = 21 → sP s 12 0 f j = sP σ 12 0 f j := fun f j hf => by
        rw [i1.ff (by unfold flis; omega), k1.ff (by unfold fall; omega)]
      exact ⟨by rw [e 21 _ (Or.inr rfl)]; exact x1, fun j hj => by rw [e 20 _ (Or.inl rfl)]; exact x2 j hj⟩
    refine r_walk (p2 := p2) (p3 := p3) (vf := vf) (rs := r0 L) (ban := ban) hN R2 hL0 W Wt Wx hq h0 (PN_pl w3) P2 i2 hc rfl (fun p hp => plW_ok w3 hp) (fun p hp => rfl) kw ?_ Ck (fun x hx => ?_) (by simp only [sP_stP, Nat.reduceEqDiff, true_and, and_true, false_and, and_false, if_true, if_false, eq_self, and_self, Nat.reduceLT, Nat.reduceLeDiff, Nat.reduceAdd, Nat.reduceMul, Nat.reduceDiv, Nat.one_ne_zero]) (by simp only [sP_stP, Nat.reduceEqDiff, true_and, and_true, false_and, and_false, if_true, if_false, eq_self, and_self, Nat.reduceLT, Nat.reduceLeDiff, Nat.reduceAdd, Nat.reduceMul, Nat.reduceDiv, Nat.one_ne_zero]) (fun s' Y1 Y2 Y3 => ?_)
    · unfold RW RO at *
      simp only [sP_stP, Nat.reduceEqDiff, true_and, and_true, false_and, and_false, if_true, if_false, eq_self, and_self, Nat.reduceLT, Nat.reduceLeDiff, Nat.reduceAdd, Nat.reduceMul, Nat.reduceDiv, Nat.one_ne_zero]
      exact ⟨X1, rfl, rfl⟩
    · have e : x = 0 ∨ x = 1 ∨ x = 2 := by omega
      rcases e with rfl | rfl | rfl <;> simp only [sP_stP, Nat.reduceEqDiff, true_and, and_true, false_and, and_false, if_true, if_false, eq_self, and_self, Nat.reduceLT, Nat.reduceLeDiff, Nat.reduceAdd, Nat.reduceMul, Nat.reduceDiv, Nat.one_ne_zero]
    · exact h s' (kys.trans Y1.ky) Y2 Y3
/-! how many events -/
theorem fm_len (n c : Nat) (f : Nat → List (Nat ⊕ (Nat → Nat))) (h : ∀ r, (f r).length ≤ c) (j : Nat) : ((List.range' j n).flatMap f).length ≤ n * c := by
  induction n generalizing j with
  | zero => exact Nat.zero_le _
  | succ n ih =>
    rw [List.range'_succ, List.flatMap_cons, List.length_append, Nat.succ_mul]
    have := ih (j + 1)
    have := h j
    omega
theorem pgR_len (h : ∀ r, (E r).length ≤ B) (hn : n ≤ 40) : (pgR t E n j).length ≤ 40 * (2 + B) := by
  unfold pgR
  refine Nat.le_trans (fm_len _ (2 + B) _ (fun r => ?_) _) (Nat.mul_le_mul_right _ (by omega))
  rw [List.length_append]
  have := h r
  split <;> simp only [List.length_cons, List.length_nil] <;> omega
theorem ixR_len {t k fz len : Nat} {En : Nat → Nat} {hd : Nat → Bool} {E : Nat → List (Nat ⊕ (Nat → Nat))} (h : ∀ r, (E r).length ≤ B) : ∀ d j lf, (ixR t k fz len En hd E d j lf).length ≤ d * (2 + B) + 1
  | 0, j, lf => by
    rw [ixR_0]
    split <;> simp
  | d + 1, j, lf => by
    simp only [ixR]
    have e9 : (d + 1) * (2 + B) = d * (2 + B) + (2 + B) := Nat.succ_mul _ _
    rw [e9]
    split
    · have h1 : (ixR t k fz len En hd E d (j + 1) (some (j / 8))).length ≤ d * (2 + B) + 1 := ixR_len h d (j + 1) (some (j / 8))
      have h2 := h (En j)
      simp only [List.length_append, List.length_cons]
      split <;> simp only [List.length_nil, List.length_cons] <;> omega
    · have h1 : (ixR t k fz len En hd E d (j + 1) lf).length ≤ d * (2 + B) + 1 := ixR_len h d (j + 1) lf
      omega
def tB : Nat → Nat
  | 0 => 1
  | e + 1 => 40 * (2 + tB e) + 1
theorem ev_len (W : WQ m) (Wt : WT m u) (Wx : WX m) (hq : q < m 24 0) : ∀ e place g, place + e ≤ m 25 q → (evG m u q (plO m q ban d) (itm_ m u q ban d) e place g).length ≤ tB e
  | 0, place, g, _ => Nat.le_refl _
  | e + 1, place, g, hp => by
    have w3 := W.2.2 q hq
    have h1 := Wt.nt
    have ho : PN (m 25 q) (plO m q ban d) := PN_pl w3.1
    have hop := ho.1 place (by omega)
    have ht : tq m q (plO m q ban d place) < m 1 0 := w3.2.2.2.1 _ hop
    have h3 := Wt.2.2.2.1 (tq m q (plO m q ban d place)) (by omega)
    have hE : ∀ r, (if fitM m u q (gU g (plO m q ban d place) r) (withP (plO m q ban d) place) (plO m q ban d place) = true then evG m u q (plO m q ban d) (itm_ m u q ban d) e (place + 1) (gU g (plO m q ban d place) r) else []).length ≤ tB e := fun r => by
      split
      · exact ev_len W Wt Wx hq e (place + 1) _ (by omega)
      · exact Nat.zero_le _
    simp only [evG, itm_, itR, tB]
    split
    · exact Nat.le_trans (pgR_len hE h3) (Nat.le_succ _)
    · rename_i hy
      obtain ⟨k, k1, k2, k3⟩ := wIdx_k (plW_ok (ban := ban) (d := d) w3.1 (by omega : place < m 25 q)) hy
      obtain ⟨ht', hc'⟩ := Wx.2 k k2
      rw [k3] at ht' hc'
      have h40 := ent_len40 Wt ht' hc'
      have e5 : plI m q ban d place = some k := k1
      rw [e5]
      unfold ixE
      refine Nat.le_trans (ixR_len hE _ _ _) ?_
      refine Nat.add_le_add_right (Nat.mul_le_mul_right _ ?_) 1
      simp only [Option.getD_some]
      omega
theorem evR_len (W : WQ m) (Wt : WT m u) (Wx : WX m) (hq : q < m 24 0) : (evR m u q ban d).length ≤ 200000 := by
  have w3 := (W.2.2 q hq).1
  have h := ev_len (ban := ban) (d := d) W Wt Wx hq (m 25 q) 0 (fun _ => 0) (by omega)
  refine Nat.le_trans h ?_
  have e : m 25 q = 0 ∨ m 25 q = 1 ∨ m 25 q = 2 ∨ m 25 q = 3 := by omega
  rcases e with e | e | e | e <;> rw [e] <;> decide
theorem st_cnt {es : List (Nat ⊕ (Nat → Nat))} : ∀ rs : RSt, (es.foldl (stEv (some x) F p2 p3 vf) rs).1 ≤ rs.1 + es.length ∧ (es.foldl (stEv (some x) F p2 p3 vf) rs).2.1 + rs.1 ≤ rs.2.1 + (es.foldl (stEv (some x) F p2 p3 vf) rs).1 := by
  induction es with
  | nil => intro rs; exact ⟨Nat.le_refl _, by simp only [List.foldl_nil]; omega⟩
  | cons a es ih =>
    intro rs
    rw [List.foldl_cons]
    obtain ⟨i1, i2⟩ := ih (stEv (some x) F p2 p3 vf rs a)
    cases a with
    | inl k =>
      simp only [stEv, List.length_cons] at i1 i2 ⊢
      split at i2 <;> rename_i h9 <;> simp only [h9, if_true, if_false] at i1 i2 ⊢ <;> omega
    | inr g =>
      simp only [stEv, List.length_cons] at i1 i2 ⊢
      omega
theorem stEv_x {y : Nat} : stEv (some x) F p2 p3 vf = stEv (some y) F p2 p3 vf := by
  funext rs a
  cases a <;> rfl
end RRUNS
