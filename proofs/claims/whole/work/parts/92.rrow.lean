section RROW
variable {m : Nat → Nat → Nat} {u w : Nat → Int32} {L L0 : List Nat} {σ σ' σ0 s s2 σ1 : St} {N kk n q p d ban t c k a x i j place v told F key p3 r e s_ y gn : Nat} {g o ways : Nat → Nat} {ix : Nat → Option Nat} {p2 : Int32} {rs rs' : RSt} {vf : (Nat → Nat) → Int32} {lf : Option Nat} {fin : RSt}
def fW (c f j : Nat) : Prop := (f = 20 ∧ 13 * c ≤ j ∧ j < 13 * c + 13) ∨ (f = 21 ∧ j = c) ∨ f = 22 ∨ f = 23 ∨ f = 37 ∨ f = 47 ∨ f = 48 ∨ f = 49 ∨ f = 50
/-- what the reference's run leaves -/
def KW (c : Nat) (σ σ' : St) : Prop := (∀ k i f j, ¬ (k = 12 ∧ i = 0 ∧ fW c f j) → sP σ' k i f j = sP σ k i f j) ∧ sL_ σ' = sL_ σ ∧ sQ σ' = sQ σ ∧ sD_ σ' = sD_ σ ∧ sV σ' = sV σ
theorem KW.refl : KW c σ σ := ⟨fun _ _ _ _ _ => rfl, rfl, rfl, rfl, rfl⟩
theorem KW.trans (h : KW c σ σ') (g : KW c σ' σ1) : KW c σ σ1 := ⟨fun k i f j hn => (g.1 k i f j hn).trans (h.1 k i f j hn), g.2.1.trans h.2.1, g.2.2.1.trans h.2.2.1, g.2.2.2.1.trans h.2.2.2.1, g.2.2.2.2.trans h.2.2.2.2⟩
theorem KW.st {f j : Nat} {v : Int32} (h : KW c σ σ') (hf : fW c f j) : KW c σ (stP σ' 12 0 f j v) := by
  refine ⟨fun k' i' f' j' hn => ?_, h.2.1, h.2.2.1, h.2.2.2.1, h.2.2.2.2⟩
  rw [sP_stP, if_neg (fun e => hn ⟨e.1, e.2.1, by rw [e.2.2.1, e.2.2.2]; exact hf⟩)]
  exact h.1 k' i' f' j' hn
theorem KR.kw (h : KR c σ σ') : KW c σ σ' := ⟨fun k i f j hn => h.1 k i f j (fun e => hn ⟨e.1, e.2.1, by unfold fW; have := e.2.2; omega⟩), h.2⟩
theorem KW.kc (h : KW c σ σ') : KC σ σ' := ⟨fun k' i f j hn => h.1 k' i f j (fun e => hn e.1), h.2.1, h.2.2.1, h.2.2.2.1, h.2.2.2.2⟩
theorem KW.ff {f j : Nat} (h : KW c σ σ') (hf : ¬ fW c f j) : sP σ' 12 0 f j = sP σ 12 0 f j := h.1 12 0 f j (fun e => hf e.2.2)
theorem RI.kw (R : RI m u w L0 σ) (h : KW c σ s) (hc : c < 2) (X : RO s c L) (hL0 : L0.length ≤ 12) : RI m u w (if c = 0 then L else L0) s := by
  have e : ∀ f j, pf f = true → sP s 12 0 f j = sP σ 12 0 f j := fun f j hf => h.ff (fun e => by
    unfold fW at e
    have : f = 20 ∨ f = 21 ∨ f = 22 ∨ f = 23 ∨ f = 37 ∨ f = 47 ∨ f = 48 ∨ f = 49 ∨ f = 50 := by omega
    rcases this with rfl | rfl | rfl | rfl | rfl | rfl | rfl | rfl | rfl <;> revert hf <;> decide)
  obtain ⟨r1, r2, r3, r4, r5⟩ := R
  refine ⟨fun f j hf => by rw [e f j hf]; exact r1 f j hf, fun j => ?_, fun j => ?_, ?_, fun j hj => ?_⟩
  · rw [h.ff (by unfold fW; omega)]; exact r2 j
  · rw [h.ff (by unfold fW; omega)]; exact r3 j
  · by_cases hc0 : c = 0
    · subst hc0
      rw [if_pos rfl]
      exact X.1
    · rw [if_neg hc0, h.ff (by unfold fW; omega)]
      exact r4
  · by_cases hc0 : c = 0
    · subst hc0
      simp only [if_true] at hj ⊢
      have := X.2 j hj
      rw [show 13 * 0 + j = j by omega, getD_e hj] at this
      exact this
    · simp only [if_neg hc0] at hj ⊢
      rw [h.ff (by unfold fW; omega)]
      exact r5 j hj
theorem PR.kw (h : PR σ n o ways ix) (k : KW c σ s) : PR s n o ways ix := fun p hp => by
  obtain ⟨a1, a2, a3⟩ := h p hp
  rw [k.ff (by unfold fW; omega), k.ff (by unfold fW; omega), k.ff (by unfold fW; omega)]
  exact ⟨a1, a2, a3⟩
theorem LST.kw {E : List Nat} (h : LST σ k E) (kw : KW c σ s) : LST s k E := by
  refine ⟨?_, fun j hj => ?_⟩
  · rw [kw.ff (by unfold fW; omega)]; exact h.1
  · rw [kw.ff (by unfold fW; omega)]; exact h.2 j hj
theorem r_wants (hN : 1000000 ≤ N) (R : RI m u w L s) (W : WQ m) (Wt : WT m u) (hq : q < m 24 0) (hpl : place < m 25 q) (ho : PN (m 25 q) o) (P : PR s (m 25 q) o ways ix) (hw : okW m q ban o place (ways place)) (h0 : ¬ ways place = 0)
    (Hc : CHo s (ahead o place) g) (hg : ∀ x, x < m 25 q → ahead o place x = true → g x < 40 ∧ th m (tq m q x) (g x) = true) :
    sg (wSg m q (ways place)) ∧ wTo m u q o place (ways place) g ≤ 99 ∧ ∀ {K : St → Prop}, K (stP (stP s 12 0 49 0 (nI (wSg m q (ways place)))) 12 0 50 0 (nI (wTo m u q o place (ways place) g))) → z_X12_wants N 0 (nI q) (nI place) s K := by
  have w1 := W.1
  have w3 := W.2.2 q hq
  have h1 := Wt.nt
  have hop := ho.1 place hpl
  obtain ⟨P1, P2, P3⟩ := P place hpl
  have l5 : (5 : Int32) = nI 5 := rfl
  by_cases h5 : ways place < 5
  · obtain ⟨y1, y2⟩ := okW_c hw h0 h5
    obtain ⟨c1, c2, c3, c4⟩ := w3.2.2.2.2.1 (ways place - 1) (by omega)
    have e1 : wSg m q (ways place) = m 30 (4 * q + (ways place - 1)) := by unfold wSg; rw [if_pos h5]
    have e2 : wTo m u q o place (ways place) g = m 31 (4 * q + (ways place - 1)) := by unfold wTo; rw [if_pos h5]
    rw [e1, e2]
    refine ⟨c3, c4, fun {K} hK => ?_⟩
    have e3 : 4 * q + ways place - 1 = 4 * q + (ways place - 1) := by omega
    have r31 : sP s 12 0 31 (4 * q + (ways place - 1)) = nI (m 31 (4 * q + (ways place - 1))) := R.r 31 _ rfl
    have r30 : sP s 12 0 30 (4 * q + (ways place - 1)) = nI (m 30 (4 * q + (ways place - 1))) := R.r 30 _ rfl
    simp (disch := omega) only [z_X12_wants, P2, u_br_True, u_br_False, u_jn_u, u_lt_u, u_nn_s, u_brn_s, u_brn_n, nI_add, u_n_mul, u_n_lt, u_n_le, u_n_eq, u_n_sub, u_n_div, u_n_mod, nI_clamp, u_m1, u_m1q, u_wI_n, u_wA_n, u_br_t, u_br_f, ↓li_m1, li_0, li_1, li_2, li_3, li_4, li_5, li_6, li_7, li_8, li_9, li_10, li_12, li_13, li_26, li_40, li_60, li_61, li_62, li_99, li_100, li_102, li_106, li_114, li_112, li_117, li_108, li_103, li_120, li_300, li_360, li_512, li_1000, l5, e3, r30, r31, sP_stP, Nat.reduceEqDiff, true_and, and_true, false_and, and_false, if_true, if_false, eq_self, and_self, Nat.reduceLT, Nat.reduceLeDiff, Nat.reduceAdd, Nat.reduceMul, Nat.reduceDiv, Nat.one_ne_zero]
    exact hK
  · obtain ⟨y1, c9, y2⟩ := okW_j hw h5
    have y8 := hw.1
    obtain ⟨c1, c2, c3, c4, c5⟩ := w3.2.2.2.2.2 (ways place - 5) y1
    have t1 : tq m q (m 33 (3 * q + (ways place - 5))) < m 1 0 := w3.2.2.2.1 _ c1
    have t2 : tq m q (m 35 (3 * q + (ways place - 5))) < m 1 0 := w3.2.2.2.1 _ c3
    have cl1 := Wt.cl t1
    have cl2 := Wt.cl t2
    have e1 : wSg m q (ways place) = 61 := by unfold wSg; rw [if_neg h5]
    rw [e1]
    have e3 : 3 * q + ways place - 5 = 3 * q + (ways place - 5) := by omega
    have R1 : RI m u w L (stP s 12 0 49 0 (nI 61)) := R.tmp rfl
    have Hc1 : CHo (stP s 12 0 49 0 (nI 61)) (ahead o place) g := fun x hx => by rw [sP_stP, if_neg (fun e => by have := e.2.2.1; omega)]; exact Hc x hx
    have r33 : ∀ j, sP s 12 0 33 j = nI (m 33 j) := fun j => R.r 33 j rfl
    have r33' : ∀ j, sP (stP s 12 0 49 0 (nI 61)) 12 0 33 j = nI (m 33 j) := fun j => R1.r 33 j rfl
    have r34' : ∀ j, sP (stP s 12 0 49 0 (nI 61)) 12 0 34 j = nI (m 34 j) := fun j => R1.r 34 j rfl
    have r35' : ∀ j, sP (stP s 12 0 49 0 (nI 61)) 12 0 35 j = nI (m 35 j) := fun j => R1.r 35 j rfl
    have r36' : ∀ j, sP (stP s 12 0 49 0 (nI 61)) 12 0 36 j = nI (m 36 j) := fun j => R1.r 36 j rfl
    unfold own at y2
    by_cases hA : m 33 (3 * q + (ways place - 5)) = o place ∧ ahead o place (m 35 (3 * q + (ways place - 5))) = true
    · obtain ⟨g1, g2⟩ := hg _ c3 hA.2
      obtain ⟨vv1, vv2⟩ := cvl_n Wt t2 c4 g1 g2
      have e2 : wTo m u q o place (ways place) g = cvl u (tq m q (m 35 (3 * q + (ways place - 5)))) (g (m 35 (3 * q + (ways place - 5)))) (m 36 (3 * q + (ways place - 5))) := by unfold wTo; rw [if_neg h5, if_pos hA.1]
      rw [e2]
      refine ⟨Or.inl rfl, vv2, fun {K} hK => ?_⟩
      simp (disch := omega) only [z_X12_wants, P1, P2, u_br_True, u_br_False, u_jn_u, u_lt_u, u_nn_s, u_brn_s, u_brn_n, nI_add, u_n_mul, u_n_lt, u_n_le, u_n_eq, u_n_sub, u_n_div, u_n_mod, nI_clamp, u_m1, u_m1q, u_wI_n, u_wA_n, u_br_t, u_br_f, ↓li_m1, li_0, li_1, li_2, li_3, li_4, li_5, li_6, li_7, li_8, li_9, li_10, li_12, li_13, li_26, li_40, li_60, li_61, li_62, li_99, li_100, li_102, li_106, li_114, li_112, li_117, li_108, li_103, li_120, li_300, li_360, li_512, li_1000, b10, b00, f_0, f_1, u_okT, u_nb_0, u_nb_1, l5, e3, r33, r35', r36', hA.1, r_chosen R1 W Wt hq c3 hA.2 g1 Hc1 (by omega : m 36 (3 * q + (ways place - 5)) < 3), vv1]
      exact hK
    · rw [if_neg hA] at y2
      by_cases hB : m 35 (3 * q + (ways place - 5)) = o place ∧ ahead o place (m 33 (3 * q + (ways place - 5))) = true
      · have n33 : ¬ m 33 (3 * q + (ways place - 5)) = o place := fun e => c5 (e.trans hB.1.symm)
        obtain ⟨g1, g2⟩ := hg _ c1 hB.2
        obtain ⟨vv1, vv2⟩ := cvl_n Wt t1 c2 g1 g2
        have e2 : wTo m u q o place (ways place) g = cvl u (tq m q (m 33 (3 * q + (ways place - 5)))) (g (m 33 (3 * q + (ways place - 5)))) (m 34 (3 * q + (ways place - 5))) := by unfold wTo; rw [if_neg h5, if_neg n33]
        rw [e2]
        refine ⟨Or.inl rfl, vv2, fun {K} hK => ?_⟩
        simp (disch := omega) only [z_X12_wants, P1, P2, u_br_True, u_br_False, u_jn_u, u_lt_u, u_nn_s, u_brn_s, u_brn_n, nI_add, u_n_mul, u_n_lt, u_n_le, u_n_eq, u_n_sub, u_n_div, u_n_mod, nI_clamp, u_m1, u_m1q, u_wI_n, u_wA_n, u_br_t, u_br_f, ↓li_m1, li_0, li_1, li_2, li_3, li_4, li_5, li_6, li_7, li_8, li_9, li_10, li_12, li_13, li_26, li_40, li_60, li_61, li_62, li_99, li_100, li_102, li_106, li_114, li_112, li_117, li_108, li_103, li_120, li_300, li_360, li_512, li_1000, b10, b00, f_0, f_1, u_okT, u_nb_0, u_nb_1, l5, e3, r33, r33', r34', r_chosen R1 W Wt hq c1 hB.2 g1 Hc1 (by omega : m 34 (3 * q + (ways place - 5)) < 3), vv1]
        exact hK
      · rw [if_neg hB] at y2
        cases y2
theorem r_entV (R : RI m u w L s) (Wt : WT m u) (Wx : WX m) (hk : k < m 13 0) (ht : m 14 k = t) (X : LST s k (ent m u t (m 15 k))) (hj : j < (ent m u t (m 15 k)).length) {K : Int32 → Prop} : z_X12_entryValue N 0 (nI k) (nI j) s K = K (nI (vE m u t (m 15 k) j)) := by
  have h1 := Wt.nt
  have hx6 := Wx.1
  obtain ⟨ht', hc'⟩ := Wx.2 k hk
  rw [ht] at ht' hc'
  have hcl := Wt.cl ht'
  have h40 := ent_len40 Wt ht' hc'
  obtain ⟨ev, ev99⟩ := ent_v Wt ht' hc' hj
  obtain ⟨er3, erth, er40⟩ := ent_m Wt ht' hc' hj
  have r14 : sP s 12 0 14 k = nI t := by rw [R.r 14 k rfl, ht]
  have r15 : sP s 12 0 15 k = nI (m 15 k) := R.r 15 k rfl
  have r17 := X.2 j hj
  simp (disch := omega) only [z_X12_entryValue, u_br_True, u_br_False, u_jn_u, u_lt_u, u_nn_s, u_brn_s, u_brn_n, nI_add, u_n_mul, u_n_lt, u_n_le, u_n_eq, u_n_sub, u_n_div, u_n_mod, nI_clamp, u_m1, u_m1q, u_wI_n, u_wA_n, u_br_t, u_br_f, ↓li_m1, li_0, li_1, li_2, li_3, li_4, li_5, li_6, li_7, li_8, li_9, li_10, li_12, li_13, li_26, li_40, li_60, li_61, li_62, li_99, li_100, li_102, li_106, li_114, li_112, li_117, li_108, li_103, li_120, li_300, li_360, li_512, li_1000, r14, r15, r17, r_at R (by omega : t < 3) er40 (by omega : m 15 k < 3), ev]
def lfI (lf : Option Nat) : Int32 := match lf with
  | none => mI
  | some x => nI x
def NKp (place : Nat) (s s' : St) : Prop := ∀ f j, f = 37 ∨ ((f = 47 ∨ f = 48) ∧ j ≠ place) → sP s' 12 0 f j = sP s 12 0 f j
theorem NKp.refl : NKp place s s := fun _ _ _ => rfl
theorem NKp.trans (h : NKp place s σ) (g : NKp place σ s2) : NKp place s s2 := fun f j hf => (g f j hf).trans (h f j hf)
theorem KR.nk (h : KR c s s2) : NKp place s s2 := fun f j hf => h.f (by omega)
def rfF (N : Nat) (p1 p2 : Int32) (h0 : St) (K : St → Prop) (v8 : Int32) (w84 : Int32 → Int32 → Prop) (x13 x14 : Int32) : Prop :=
  br (x14 < 0) (
    wA 3 p1 (stP h0 12 0 48 (p1).toNatClampNeg (x13 / 8)) fun h16 =>
    z_X12_looksUp N 0 p2 ((100 * (3 + (sP h0 12 0 41 (p1).toNatClampNeg))) + (x13 / 8)) h16 fun h17 =>
    K h17) (
    z_X12_entryValue N 0 (sP h0 12 0 41 (p1).toNatClampNeg) x14 h0 fun v18 =>
    jn (fun (v19 : Int32) =>
      w84 v19 (x14 + (-1))) (fun j108 =>
      br (v18 < v8) (
        j108 x13) (
        j108 x14)))
theorem rfn_eq {p1 p2 : Int32} {K : St → Prop} : z_X12_readsForNothing N 0 p1 p2 σ K = (
  wI 3 p1 <|
  wI 3 p1 <|
  br ((sP σ 12 0 48 (p1).toNatClampNeg) = (-1)) (
    wI 6 (sP σ 12 0 41 (p1).toNatClampNeg) <|
    br ((sP σ 12 0 18 ((sP σ 12 0 41 (p1).toNatClampNeg)).toNatClampNeg) = 0) (
      K σ) (
      jn (fun (v8 : Int32) =>
        wI 6 (sP σ 12 0 41 (p1).toNatClampNeg) <|
        wI 6 (sP σ 12 0 41 (p1).toNatClampNeg) <|
        fx2 (rfF N p1 p2 σ K v8) N ((sP σ 12 0 18 ((sP σ 12 0 41 (p1).toNatClampNeg)).toNatClampNeg) - 1) ((sP σ 12 0 18 ((sP σ 12 0 41 (p1).toNatClampNeg)).toNatClampNeg) - 1)) (fun j62 =>
        br ((sP σ 12 0 49 0) = 61) (
          j62 (sP σ 12 0 50 0)) (
          br ((sP σ 12 0 49 0) = 60) (
            j62 0) (
            j62 ((sP σ 12 0 50 0) + 1)))))) (
    K σ)) := rfl
/-- the first entry that is not less -/
theorem r_rfl (hN : 1000000 ≤ N) (R : RI m u w L s) (Wt : WT m u) (Wx : WX m) (hk : k < m 13 0) (ht : m 14 k = t) (Xl : LST s k (ent m u t (m 15 k))) (hlen : ¬ (ent m u t (m 15 k)).length = 0) {l : Nat} (hl : l < 1000) (hpl : place < 3) (h41 : sP s 12 0 41 place = nI k) (hc : c < 2) {K : St → Prop}
    (h : z_X12_looksUp N 0 (nI c) (nI (100 * (3 + k) + min (ff u t (m 15 k) (ent m u t (m 15 k)) l) ((ent m u t (m 15 k)).length - 1) / 8)) (stP s 12 0 48 place (nI (min (ff u t (m 15 k) (ent m u t (m 15 k)) l) ((ent m u t (m 15 k)).length - 1) / 8))) K) :
    fx2 (rfF N (nI place) (nI c) s K (nI l)) N (nI ((ent m u t (m 15 k)).length - 1)) (nI ((ent m u t (m 15 k)).length - 1)) := by
  have h1 := Wt.nt
  have hx6 := Wx.1
  obtain ⟨ht', hc'⟩ := Wx.2 k hk
  rw [ht] at ht' hc'
  have h40 := ent_len40 Wt ht' hc'
  have hfl := ff_le (u := u) (t := t) (c := m 15 k) (E := ent m u t (m 15 k)) (l := l)
  refine fx2_g (γ := Nat) (fun i x13 x14 => i ≤ (ent m u t (m 15 k)).length ∧ x14 = nI i - nI 1 ∧ x13 = nI (min (max i (ff u t (m 15 k) (ent m u t (m 15 k)) l)) ((ent m u t (m 15 k)).length - 1))) (fun i => i) (fun self i x13 x14 hI hs => ?_) N (ent m u t (m 15 k)).length _ _ ⟨Nat.le_refl _, by rw [u_n_sub (by omega)], by congr 1; omega⟩ (by omega)
  obtain ⟨i1, rfl, rfl⟩ := hI
  by_cases hi0 : i = 0
  · subst hi0
    have e0 : (nI 0 - nI 1 < nI 0) = True := eq_true (by decide)
    rw [Nat.max_eq_right (Nat.zero_le _)]
    simp (disch := omega) only [rfF, ↓li_m1, li_0, li_1, li_2, li_3, li_4, li_5, li_6, li_7, li_8, li_9, li_10, li_12, li_13, li_26, li_40, li_60, li_61, li_62, li_99, li_100, li_102, li_106, li_114, li_112, li_117, li_108, li_103, li_120, li_300, li_360, li_512, li_1000, e0, u_br_True, u_br_False, u_jn_u, u_lt_u, u_nn_s, u_brn_s, u_brn_n, h41, nI_add, u_n_mul, u_n_lt, u_n_le, u_n_eq, u_n_sub, u_n_div, u_n_mod, nI_clamp, u_m1, u_m1q, u_wI_n, u_wA_n, u_br_t, u_br_f]
    exact h
  · have e0 : (nI (i - 1) < nI 0) = False := by rw [u_n_lt (by omega) (by omega)]; exact eq_false (by omega)
    have e1 : nI i - nI 1 = nI (i - 1) := u_n_sub (by omega)
    obtain ⟨ev, ev99⟩ := ent_v Wt ht' hc' (j := i - 1) (by omega)
    simp (disch := omega) only [rfF, ↓li_m1, li_0, li_1, li_2, li_3, li_4, li_5, li_6, li_7, li_8, li_9, li_10, li_12, li_13, li_26, li_40, li_60, li_61, li_62, li_99, li_100, li_102, li_106, li_114, li_112, li_117, li_108, li_103, li_120, li_300, li_360, li_512, li_1000, e0, u_br_True, u_br_False, u_jn_u, u_lt_u, u_nn_s, u_brn_s, u_brn_n, nI_clamp, h41, e1, r_entV R Wt Wx hk ht Xl (by omega : i - 1 < _), u_addm0]
    by_cases hv : vE m u t (m 15 k) (i - 1) < l
    · rw [u_br_t (by rw [u_n_lt (by omega) (by omega)]; exact hv)]
      have hlt : i - 1 < ff u t (m 15 k) (ent m u t (m 15 k)) l := by
        refine Nat.lt_of_not_le (fun h9 => ?_)
        have := ff_hi Wt ht' hc' h9 (by omega)
        omega
      refine hs (i - 1) _ _ ⟨by omega, rfl, by congr 1; omega⟩ (by omega)
    · rw [u_br_f (by rw [u_n_lt (by omega) (by omega)]; exact hv)]
      have hge : ff u t (m 15 k) (ent m u t (m 15 k)) l ≤ i - 1 := by
        refine Nat.le_of_not_lt (fun h9 => ?_)
        have := ff_lo h9
        omega
      refine hs (i - 1) _ _ ⟨by omega, rfl, by congr 1; omega⟩ (by omega)
/-- nothing was read: one leaf is read -/
theorem r_rfn (hN : 1000000 ≤ N) (R : RI m u w L s) (Wt : WT m u) (Wx : WX m) (hk : k < m 13 0) (ht : m 14 k = t) (Xl : LST s k (ent m u t (m 15 k))) (hs : sg s_) (hto : told ≤ 99) (hpl : place < 3) (h41 : sP s 12 0 41 place = nI k) (h48 : sP s 12 0 48 place = lfI lf) (hlf : ∀ x, lf = some x → x < 6) (h49 : sP s 12 0 49 0 = nI s_) (h50 : sP s 12 0 50 0 = nI told) (hc : c < 2) (hF : F = m 19 0) (X : RW c s rs) (Ck : CK F rs.2.2.2.1) {K : St → Prop}
    (h : ∀ s' rs', (∀ E, (ixE m u t k s_ told E (ent m u t (m 15 k)).length lf).foldl (stEv (some 0) F p2 p3 vf) rs = rs') → RW c s' rs' → CK F rs'.2.2.2.1 → KW c s s' → NKp place s s' → K s') : z_X12_readsForNothing N 0 (nI place) (nI c) s K := by
  have h1 := Wt.nt
  have hx6 := Wx.1
  obtain ⟨ht', hc'⟩ := Wx.2 k hk
  rw [ht] at ht' hc'
  have hcl := Wt.cl ht'
  have h40 := ent_len40 Wt ht' hc'
  have l61 : (61 : Int32) = nI 61 := rfl
  have l60 : (60 : Int32) = nI 60 := rfl
  cases lf with
  | some z =>
    have := hlf z rfl
    have e : sP s 12 0 48 place = nI z := h48
    simp (disch := omega) only [rfn_eq, u_br_True, u_br_False, u_jn_u, u_lt_u, u_nn_s, u_brn_s, u_brn_n, nI_add, u_n_mul, u_n_lt, u_n_le, u_n_eq, u_n_sub, u_n_div, u_n_mod, nI_clamp, u_m1, u_m1q, u_wI_n, u_wA_n, u_br_t, u_br_f, ↓li_m1, li_0, li_1, li_2, li_3, li_4, li_5, li_6, li_7, li_8, li_9, li_10, li_12, li_13, li_26, li_40, li_60, li_61, li_62, li_99, li_100, li_102, li_106, li_114, li_112, li_117, li_108, li_103, li_120, li_300, li_360, li_512, li_1000, e]
    refine h s rs (fun E => ?_) X Ck KW.refl NKp.refl
    unfold ixE
    rw [Nat.sub_self, ixR_0, if_neg (fun h => by cases h.1)]
    rfl
  | none =>
    have e : sP s 12 0 48 place = mI := h48
    have e18 := Xl.1
    by_cases hlen : (ent m u t (m 15 k)).length = 0
    · rw [hlen] at e18
      simp (disch := omega) only [rfn_eq, u_br_True, u_br_False, u_jn_u, u_lt_u, u_nn_s, u_brn_s, u_brn_n, nI_add, u_n_mul, u_n_lt, u_n_le, u_n_eq, u_n_sub, u_n_div, u_n_mod, nI_clamp, u_m1, u_m1q, u_wI_n, u_wA_n, u_br_t, u_br_f, ↓li_m1, li_0, li_1, li_2, li_3, li_4, li_5, li_6, li_7, li_8, li_9, li_10, li_12, li_13, li_26, li_40, li_60, li_61, li_62, li_99, li_100, li_102, li_106, li_114, li_112, li_117, li_108, li_103, li_120, li_300, li_360, li_512, li_1000, e, h41, e18]
      refine h s rs (fun E => ?_) X Ck KW.refl NKp.refl
      unfold ixE
      rw [Nat.sub_self, ixR_0, if_neg (by omega)]
      rfl
    · have hls : lsM s_ told < 1000 := by
        unfold lsM
        split
        · omega
        · split <;> omega
      have hfl := ff_le (u := u) (t := t) (c := m 15 k) (E := ent m u t (m 15 k)) (l := lsM s_ told)
      have X1 : RW c (stP s 12 0 48 place (nI (min (ff u t (m 15 k) (ent m u t (m 15 k)) (lsM s_ told)) ((ent m u t (m 15 k)).length - 1) / 8))) rs := by
        unfold RW RO at X ⊢
        simp only [sP_stP, Nat.reduceEqDiff, true_and, and_true, false_and, and_false, if_true, if_false, eq_self, and_self, Nat.reduceLT, Nat.reduceLeDiff, Nat.reduceAdd, Nat.reduceMul, Nat.reduceDiv, Nat.one_ne_zero]
        exact X
      have fin := r_rfl (K := K) (c := c) (l := lsM s_ told) hN R Wt Wx hk ht Xl hlen hls hpl h41 hc (r_look (x := 0) (p2 := p2) (p3 := p3) (vf := vf) (F := F) hN X1 hc (by simp only [sP_stP, Nat.reduceEqDiff, true_and, and_true, false_and, and_false, if_true, if_false, eq_self, and_self, Nat.reduceLT, Nat.reduceLeDiff, Nat.reduceAdd, Nat.reduceMul, Nat.reduceDiv, Nat.one_ne_zero]; rw [hF]; exact R.r 19 0 rfl) Ck (by omega) (fun s' Y1 Y2 => by
        refine h s' _ (fun E => ?_) Y1 (Ck.lk (by omega)) ((KW.refl.st (by unfold fW; omega)).trans Y2.kw) (NKp.trans (fun f j hf => ?_) Y2.nk)
        · unfold ixE
          rw [Nat.sub_self, ixR_0, if_pos ⟨rfl, by omega⟩]
          rfl
        · rw [sP_stP, if_neg (fun e => by have := e.2.2; omega)]))
      simp (disch := omega) only [rfn_eq, u_br_True, u_br_False, u_jn_u, u_lt_u, u_nn_s, u_brn_s, u_brn_n, nI_add, u_n_mul, u_n_lt, u_n_le, u_n_eq, u_n_sub, u_n_div, u_n_mod, nI_clamp, u_m1, u_m1q, u_wI_n, u_wA_n, u_br_t, u_br_f, ↓li_m1, li_0, li_1, li_2, li_3, li_4, li_5, li_6, li_7, li_8, li_9, li_10, li_12, li_13, li_26, li_40, li_60, li_61, li_62, li_99, li_100, li_102, li_106, li_114, li_112, li_117, li_108, li_103, li_120, li_300, li_360, li_512, li_1000, e, h41, e18, h49, h50]
      rcases hs with rfl | rfl | rfl
      · rw [u_br_t rfl]; exact fin
      · rw [u_br_f (by rw [u_n_eq (by omega) (by omega)]; omega), u_br_t rfl]; exact fin
      · rw [u_br_f (by rw [u_n_eq (by omega) (by omega)]; omega), u_br_f (by rw [u_n_eq (by omega) (by omega)]; omega)]; exact fin
end RROW
