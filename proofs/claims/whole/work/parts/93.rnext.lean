section RNEXT
variable {m : Nat → Nat → Nat} {u w : Nat → Int32} {L L0 : List Nat} {σ σ' σ0 s s2 σ1 : St} {N kk n q p d ban t c k a x i j place v told F key p3 r e s_ y gn : Nat} {g o ways : Nat → Nat} {ix : Nat → Option Nat} {p2 : Int32} {rs rs' : RSt} {vf : (Nat → Nat) → Int32} {lf : Option Nat} {fin : RSt}
def nrF (N : Nat) (p2 p3 v0 ix26 : Int32) (K : Int32 → St → Prop) (w97 : St → Prop) (h10 : St) : Prop :=
  wI 3 p2 <|
  wI 6 ix26 <|
  br ((sP h10 12 0 18 (ix26).toNatClampNeg) ≤ (sP h10 12 0 47 (p2).toNatClampNeg)) (
    z_X12_readsForNothing N 0 p2 p3 h10 fun h15 =>
    K (-1) h15) (
    wI 3 p2 <|
    wI 3 p2 <|
    wA 3 p2 (stP h10 12 0 47 (p2).toNatClampNeg ((sP h10 12 0 47 (p2).toNatClampNeg) + 1)) fun h20 =>
    z_X12_entryValue N 0 ix26 (sP h10 12 0 47 (p2).toNatClampNeg) h20 fun v23 =>
    z_X12_holds N (sP h20 12 0 49 0) (sP h20 12 0 50 0) v23 h20 fun v24 =>
    br (v24 = 0) (
      w97 h20) (
      wI 3 p2 <|
      jn (fun (h27 : St) =>
        wI 240 ((40 * ix26) + (sP h10 12 0 47 (p2).toNatClampNeg)) <|
        z_X12_looksUp N 0 p3 ((100 * v0) + ((sP h27 12 0 17 (((40 * ix26) + (sP h10 12 0 47 (p2).toNatClampNeg))).toNatClampNeg) / 4)) h27 fun h30 =>
        wI 240 ((40 * ix26) + (sP h10 12 0 47 (p2).toNatClampNeg)) <|
        K (sP h30 12 0 17 (((40 * ix26) + (sP h10 12 0 47 (p2).toNatClampNeg))).toNatClampNeg) h30) (fun j196 =>
        br ((sP h20 12 0 48 (p2).toNatClampNeg) = ((sP h10 12 0 47 (p2).toNatClampNeg) / 8)) (
          j196 h20) (
          wA 3 p2 (stP h20 12 0 48 (p2).toNatClampNeg ((sP h10 12 0 47 (p2).toNatClampNeg) / 8)) fun h34 =>
          z_X12_looksUp N 0 p3 ((100 * (3 + ix26)) + ((sP h10 12 0 47 (p2).toNatClampNeg) / 8)) h34 fun h35 =>
          j196 h35))))
theorem nr_eq {p1 p2 p3 : Int32} {K : Int32 → St → Prop} : z_X12_nextRow N 0 p1 p2 p3 σ K = (
  wI 3 p2 <|
  wI 24 ((3 * p1) + (sP σ 12 0 39 (p2).toNatClampNeg)) <|
  wI 3 p2 <|
  br ((sP σ 12 0 40 (p2).toNatClampNeg) = 0) (
    wI 3 p2 <|
    wI 3 (sP σ 12 0 26 (((3 * p1) + (sP σ 12 0 39 (p2).toNatClampNeg))).toNatClampNeg) <|
    br ((sP σ 12 0 47 (p2).toNatClampNeg) = (sP σ 12 0 3 ((sP σ 12 0 26 (((3 * p1) + (sP σ 12 0 39 (p2).toNatClampNeg))).toNatClampNeg)).toNatClampNeg)) (
      K (-1) σ) (
      jn (fun (h40 : St) =>
        wI 3 p2 <|
        wA 3 p2 (stP h40 12 0 47 (p2).toNatClampNeg ((sP h40 12 0 47 (p2).toNatClampNeg) + 1)) fun h43 =>
        K (sP σ 12 0 47 (p2).toNatClampNeg) h43) (fun j70 =>
        br (((sP σ 12 0 47 (p2).toNatClampNeg) - (sP σ 12 0 47 (p2).toNatClampNeg) / 4 * 4) = 0) (
          z_X12_looksUp N 0 p3 ((100 * (sP σ 12 0 26 (((3 * p1) + (sP σ 12 0 39 (p2).toNatClampNeg))).toNatClampNeg)) + ((sP σ 12 0 47 (p2).toNatClampNeg) / 4)) σ fun h44 =>
          j70 h44) (
          j70 σ)))) (
    wI 3 p2 <|
    z_X12_wants N 0 p1 p2 σ fun h9 =>
    fx1 (nrF N p2 p3 (sP σ 12 0 26 (((3 * p1) + (sP σ 12 0 39 (p2).toNatClampNeg))).toNatClampNeg) (sP σ 12 0 41 (p2).toNatClampNeg) K) N h9)) := rfl
def gmx (m : Nat → Nat → Nat) (u : Nat → Int32) (q : Nat) (o ways : Nat → Nat) (ix : Nat → Option Nat) (place : Nat) : Nat := if ways place = 0 then m 3 (tq m q (o place)) else (ent m u (tq m q (o place)) (m 15 ((ix place).getD 0))).length
theorem r_nextRow (hN : 1000000 ≤ N) (R0 : RI m u w L0 σ0) (hL0 : L0.length ≤ 12) (W : WQ m) (Wt : WT m u) (Wx : WX m) (hq : q < m 24 0) (ho : PN (m 25 q) o) (P0 : PR σ0 (m 25 q) o ways ix) (Xl : ∀ k, k < m 13 0 → LST σ0 k (ent m u (m 14 k) (m 15 k))) (hc : c < 2) (hF : F = m 19 0) (hpl : place < m 25 q) (hw : okW m q ban o place (ways place)) (hix : ix place = wIdx m q ban o place (ways place))
    (kw : KW c σ0 s) (X : RW c s rs) (Ck : CK F rs.2.2.2.1) (Hc : CHo s (ahead o place) g) (hg : ∀ x, x < m 25 q → ahead o place x = true → g x < 40 ∧ th m (tq m q x) (g x) = true) (h47 : sP s 12 0 47 place = nI gn) (h48 : sP s 12 0 48 place = lfI lf) (hlf : ∀ x, lf = some x → x < 6) (hgn : gn ≤ gmx m u q o ways ix place) {K : Int32 → St → Prop}
    (hrow : ∀ s' r gn' lf' rs', gn < gn' → gn' ≤ gmx m u q o ways ix place → r < m 3 (tq m q (o place)) → KW c σ0 s' → RW c s' rs' → CK F rs'.2.2.2.1 → NKp place s s' → sP s' 12 0 47 place = nI gn' → sP s' 12 0 48 place = lfI lf' → (∀ x, lf' = some x → x < 6) → (∀ E, (itR m u q o ways ix place g E gn lf).foldl (stEv (some 0) F p2 p3 vf) rs = (itR m u q o ways ix place g E gn' lf').foldl (stEv (some 0) F p2 p3 vf) ((E r).foldl (stEv (some 0) F p2 p3 vf) rs')) → K (nI r) s')
    (hnone : ∀ s' rs', KW c σ0 s' → RW c s' rs' → CK F rs'.2.2.2.1 → NKp place s s' → (∀ E, (itR m u q o ways ix place g E gn lf).foldl (stEv (some 0) F p2 p3 vf) rs = rs') → K mI s') : z_X12_nextRow N 0 (nI q) (nI place) (nI c) s K := by
  have w1 := W.1
  have w3 := W.2.2 q hq
  have h1 := Wt.nt
  have hx6 := Wx.1
  have hop := ho.1 place hpl
  have ht : tq m q (o place) < m 1 0 := w3.2.2.2.1 _ hop
  have h3 := Wt.2.2.2.1 (tq m q (o place)) (by omega)
  have Rk : ∀ s', KW c σ0 s' → ∀ rs', RW c s' rs' → RI m u w (if c = 0 then rs'.2.2.2.1 else L0) s' := fun s' kw' rs' X' => R0.kw kw' hc X'.1 hL0
  have R := Rk s kw rs X
  have P := P0.kw kw
  obtain ⟨P1, P2, P3⟩ := P place hpl
  have e26 : sP s 12 0 26 (3 * q + o place) = nI (tq m q (o place)) := R.r 26 _ rfl
  have e3 : sP s 12 0 3 (tq m q (o place)) = nI (m 3 (tq m q (o place))) := R.r 3 _ rfl
  have r19 : ∀ s', KW c σ0 s' → ∀ rs', RW c s' rs' → sP s' 12 0 19 0 = nI F := fun s' kw' rs' X' => by rw [hF]; exact (Rk s' kw' rs' X').r 19 0 rfl
  by_cases hy : ways place = 0
  · have gx : gmx m u q o ways ix place = m 3 (tq m q (o place)) := by unfold gmx; rw [if_pos hy]
    have iti : ∀ E gn lf, itR m u q o ways ix place g E gn lf = pgR (tq m q (o place)) E (m 3 (tq m q (o place))) gn := fun E gn lf => by unfold itR; rw [if_pos hy]
    rw [gx] at hgn hrow
    rw [hy] at P2
    by_cases he : gn = m 3 (tq m q (o place))
    · simp (disch := omega) only [nr_eq, P1, P2, e26, e3, h47, u_br_True, u_br_False, u_jn_u, u_lt_u, u_nn_s, u_brn_s, u_brn_n, nI_add, u_n_mul, u_n_lt, u_n_le, u_n_eq, u_n_sub, u_n_div, u_n_mod, nI_clamp, u_m1, u_m1q, u_wI_n, u_wA_n, u_br_t, u_br_f, ↓li_m1, li_0, li_1, li_2, li_3, li_4, li_5, li_6, li_7, li_8, li_9, li_10, li_12, li_13, li_26, li_40, li_60, li_61, li_62, li_99, li_100, li_102, li_106, li_114, li_112, li_117, li_108, li_103, li_120, li_300, li_360, li_512, li_1000]
      refine hnone s rs kw X Ck NKp.refl (fun E => ?_)
      rw [iti, pgR_e (by omega)]
      rfl
    · have fin_ : ∀ s1 rs1, RW c s1 rs1 → CK F rs1.2.2.2.1 → KW c s s1 → NKp place s s1 → sP s1 12 0 47 place = nI gn → sP s1 12 0 48 place = lfI lf → rs1 = (if gn % 4 = 0 then [Sum.inl (100 * tq m q (o place) + gn / 4)] else []).foldl (stEv (some 0) F p2 p3 vf) rs → K (nI gn) (stP s1 12 0 47 place (nI (gn + 1))) := by
        intro s1 rs1 a1 a2 a3 a4 a5 a6 a7
        refine hrow _ gn (gn + 1) lf rs1 (by omega) (by omega) (by omega) ((kw.trans a3).st (by unfold fW; omega)) ?_ a2 (fun f j hf => ?_) (by simp only [sP_stP, Nat.reduceEqDiff, true_and, and_true, false_and, and_false, if_true, if_false, eq_self, and_self, Nat.reduceLT, Nat.reduceLeDiff, Nat.reduceAdd, Nat.reduceMul, Nat.reduceDiv, Nat.one_ne_zero]) (by simp only [sP_stP, Nat.reduceEqDiff, true_and, and_true, false_and, and_false, if_true, if_false, eq_self, and_self, Nat.reduceLT, Nat.reduceLeDiff, Nat.reduceAdd, Nat.reduceMul, Nat.reduceDiv, Nat.one_ne_zero]; exact a6) hlf (fun E => ?_)
        · unfold RW RO at a1 ⊢
          simp only [sP_stP, Nat.reduceEqDiff, true_and, and_true, false_and, and_false, if_true, if_false, eq_self, and_self, Nat.reduceLT, Nat.reduceLeDiff, Nat.reduceAdd, Nat.reduceMul, Nat.reduceDiv, Nat.one_ne_zero]
          exact a1
        · rw [sP_stP, if_neg (fun e => by have := e.2.2; omega)]
          exact a4 f j hf
        · rw [iti, iti, pgR_s (by omega), List.foldl_append, List.foldl_append, ← a7]
      by_cases h4 : gn % 4 = 0
      · have h4' : gn - gn / 4 * 4 = 0 := by omega
        simp (disch := omega) only [nr_eq, P1, P2, e26, e3, h47, u_br_True, u_br_False, u_jn_u, u_lt_u, u_nn_s, u_brn_s, u_brn_n, nI_add, u_n_mul, u_n_lt, u_n_le, u_n_eq, u_n_sub, u_n_div, u_n_mod, nI_clamp, u_m1, u_m1q, u_wI_n, u_wA_n, u_br_t, u_br_f, ↓li_m1, li_0, li_1, li_2, li_3, li_4, li_5, li_6, li_7, li_8, li_9, li_10, li_12, li_13, li_26, li_40, li_60, li_61, li_62, li_99, li_100, li_102, li_106, li_114, li_112, li_117, li_108, li_103, li_120, li_300, li_360, li_512, li_1000]
        refine r_look (x := 0) (p2 := p2) (p3 := p3) (vf := vf) (F := F) hN X hc (r19 s kw rs X) Ck (by omega) (fun s1 Y1 Y2 => ?_)
        have e47 : sP s1 12 0 47 place = nI gn := by rw [Y2.f (by decide)]; exact h47
        simp (disch := omega) only [e47, u_br_True, u_br_False, u_jn_u, u_lt_u, u_nn_s, u_brn_s, u_brn_n, nI_add, u_n_mul, u_n_lt, u_n_le, u_n_eq, u_n_sub, u_n_div, u_n_mod, nI_clamp, u_m1, u_m1q, u_wI_n, u_wA_n, u_br_t, u_br_f, ↓li_m1, li_0, li_1, li_2, li_3, li_4, li_5, li_6, li_7, li_8, li_9, li_10, li_12, li_13, li_26, li_40, li_60, li_61, li_62, li_99, li_100, li_102, li_106, li_114, li_112, li_117, li_108, li_103, li_120, li_300, li_360, li_512, li_1000]
        refine fin_ s1 _ Y1 (Ck.lk (by omega)) Y2.kw Y2.nk e47 (by rw [Y2.f (by decide)]; exact h48) ?_
        rw [if_pos h4]
        rfl
      · have h4' : ¬ gn - gn / 4 * 4 = 0 := by omega
        simp (disch := omega) only [nr_eq, P1, P2, e26, e3, h47, u_br_True, u_br_False, u_jn_u, u_lt_u, u_nn_s, u_brn_s, u_brn_n, nI_add, u_n_mul, u_n_lt, u_n_le, u_n_eq, u_n_sub, u_n_div, u_n_mod, nI_clamp, u_m1, u_m1q, u_wI_n, u_wA_n, u_br_t, u_br_f, ↓li_m1, li_0, li_1, li_2, li_3, li_4, li_5, li_6, li_7, li_8, li_9, li_10, li_12, li_13, li_26, li_40, li_60, li_61, li_62, li_99, li_100, li_102, li_106, li_114, li_112, li_117, li_108, li_103, li_120, li_300, li_360, li_512, li_1000]
        refine fin_ s rs X Ck KW.refl NKp.refl h47 h48 ?_
        rw [if_neg h4]
        rfl
  · obtain ⟨k, k1, k2, k3⟩ := wIdx_k hw hy
    rw [k1] at hix
    rw [hix] at P3
    have P3' : sP s 12 0 41 place = nI k := P3
    have y8 := hw.1
    have gx : gmx m u q o ways ix place = (ent m u (tq m q (o place)) (m 15 k)).length := by unfold gmx; rw [if_neg hy, hix]; rfl
    obtain ⟨a1, a2, a3⟩ := r_wants hN R W Wt hq hpl ho P hw hy Hc hg
    have iti : ∀ E gn lf, itR m u q o ways ix place g E gn lf = ixE m u (tq m q (o place)) k (wSg m q (ways place)) (wTo m u q o place (ways place) g) E gn lf := fun E gn lf => by unfold itR; rw [if_neg hy, hix]; rfl
    rw [gx] at hgn hrow
    generalize hsg : wSg m q (ways place) = s_ at *
    generalize hto : wTo m u q o place (ways place) g = told at *
    obtain ⟨ht', hc'⟩ := Wx.2 k k2
    rw [k3] at ht' hc'
    have h40 := ent_len40 Wt ht' hc'
    have Xk : ∀ s', KW c σ0 s' → LST s' k (ent m u (tq m q (o place)) (m 15 k)) := fun s' kw' => by
      have := (Xl k k2).kw kw'
      rw [k3] at this
      exact this
    have e41 : ∀ s', KW c σ0 s' → sP s' 12 0 41 place = nI k := fun s' kw' => by
      have := (P0.kw kw') place hpl
      rw [hix] at this
      exact this.2.2
    have hy2 : (nI (ways place) = nI 0) = False := by rw [u_n_eq (by omega) (by omega)]; exact eq_false hy
    simp (disch := omega) only [nr_eq, P1, P2, P3', e26, hy2, u_br_True, u_br_False, u_jn_u, u_lt_u, u_nn_s, u_brn_s, u_brn_n, nI_add, u_n_mul, u_n_lt, u_n_le, u_n_eq, u_n_sub, u_n_div, u_n_mod, nI_clamp, u_m1, u_m1q, u_wI_n, u_wA_n, u_br_t, u_br_f, ↓li_m1, li_0, li_1, li_2, li_3, li_4, li_5, li_6, li_7, li_8, li_9, li_10, li_12, li_13, li_26, li_40, li_60, li_61, li_62, li_99, li_100, li_102, li_106, li_114, li_112, li_117, li_108, li_103, li_120, li_300, li_360, li_512, li_1000]
    refine a3 ?_
    refine fx1_g (γ := Nat) (fun j s' => gn ≤ j ∧ j ≤ (ent m u (tq m q (o place)) (m 15 k)).length ∧ KW c σ0 s' ∧ RW c s' rs ∧ NKp place s s' ∧ sP s' 12 0 47 place = nI j ∧ sP s' 12 0 48 place = lfI lf ∧ sP s' 12 0 49 0 = nI s_ ∧ sP s' 12 0 50 0 = nI told ∧ ∀ E, (ixE m u (tq m q (o place)) k s_ told E gn lf).foldl (stEv (some 0) F p2 p3 vf) rs = (ixE m u (tq m q (o place)) k s_ told E j lf).foldl (stEv (some 0) F p2 p3 vf) rs) (fun j => (ent m u (tq m q (o place)) (m 15 k)).length - j) (fun self j s' hI hs => ?_) N gn _ ⟨Nat.le_refl _, hgn, (kw.st (by unfold fW; omega)).st (by unfold fW; omega), ?_, fun f j hf => ?_, ?_, ?_, ?_, ?_, fun E => rfl⟩ (by omega)
    · obtain ⟨i1, i2, i3, i4, i5, i6, i7, i8, i9, i10⟩ := hI
      have R' := Rk s' i3 rs i4
      have X' := Xk s' i3
      have e18 := X'.1
      by_cases hl : (ent m u (tq m q (o place)) (m 15 k)).length ≤ j
      · have hj : j = (ent m u (tq m q (o place)) (m 15 k)).length := by omega
        simp (disch := omega) only [nrF, u_br_True, u_br_False, u_jn_u, u_lt_u, u_nn_s, u_brn_s, u_brn_n, nI_add, u_n_mul, u_n_lt, u_n_le, u_n_eq, u_n_sub, u_n_div, u_n_mod, nI_clamp, u_m1, u_m1q, u_wI_n, u_wA_n, u_br_t, u_br_f, ↓li_m1, li_0, li_1, li_2, li_3, li_4, li_5, li_6, li_7, li_8, li_9, li_10, li_12, li_13, li_26, li_40, li_60, li_61, li_62, li_99, li_100, li_102, li_106, li_114, li_112, li_117, li_108, li_103, li_120, li_300, li_360, li_512, li_1000, e18, i6]
        refine r_rfn (p2 := p2) (p3 := p3) (vf := vf) hN R' Wt Wx k2 k3 X' a1 a2 (by omega) (e41 s' i3) i7 hlf i8 i9 hc hF i4 Ck (fun s3 rs3 b1 b2 b3 b4 b5 => ?_)
        refine hnone s3 rs3 (i3.trans b4) b2 b3 (i5.trans b5) (fun E => ?_)
        rw [iti, i10, hj]
        exact b1 E
      · have k20 : KW c σ0 (stP s' 12 0 47 place (nI (j + 1))) := i3.st (by unfold fW; omega)
        have X20 : RW c (stP s' 12 0 47 place (nI (j + 1))) rs := by
          unfold RW RO at i4 ⊢
          simp only [sP_stP, Nat.reduceEqDiff, true_and, and_true, false_and, and_false, if_true, if_false, eq_self, and_self, Nat.reduceLT, Nat.reduceLeDiff, Nat.reduceAdd, Nat.reduceMul, Nat.reduceDiv, Nat.one_ne_zero]
          exact i4
        have R20 := Rk _ k20 rs X20
        have L20 := Xk _ k20
        have e49 : sP (stP s' 12 0 47 place (nI (j + 1))) 12 0 49 0 = nI s_ := by simp only [sP_stP, Nat.reduceEqDiff, true_and, and_true, false_and, and_false, if_true, if_false, eq_self, and_self, Nat.reduceLT, Nat.reduceLeDiff, Nat.reduceAdd, Nat.reduceMul, Nat.reduceDiv, Nat.one_ne_zero]; exact i8
        have e50 : sP (stP s' 12 0 47 place (nI (j + 1))) 12 0 50 0 = nI told := by simp only [sP_stP, Nat.reduceEqDiff, true_and, and_true, false_and, and_false, if_true, if_false, eq_self, and_self, Nat.reduceLT, Nat.reduceLeDiff, Nat.reduceAdd, Nat.reduceMul, Nat.reduceDiv, Nat.one_ne_zero]; exact i9
        have e48 : sP (stP s' 12 0 47 place (nI (j + 1))) 12 0 48 place = lfI lf := by simp only [sP_stP, Nat.reduceEqDiff, true_and, and_true, false_and, and_false, if_true, if_false, eq_self, and_self, Nat.reduceLT, Nat.reduceLeDiff, Nat.reduceAdd, Nat.reduceMul, Nat.reduceDiv, Nat.one_ne_zero]; exact i7
        have n20 : NKp place s (stP s' 12 0 47 place (nI (j + 1))) := fun f j' hf => by
          rw [sP_stP, if_neg (fun e => by have := e.2.2; omega)]
          exact i5 f j' hf
        obtain ⟨ev, ev99⟩ := ent_v Wt ht' hc' (j := j) (by omega)
        obtain ⟨er3, erth, er40⟩ := ent_m Wt ht' hc' (j := j) (by omega)
        have rh : ∀ {K : Int32 → Prop}, z_X12_holds N (nI s_) (nI told) (nI (vE m u (tq m q (o place)) (m 15 k) j)) (stP s' 12 0 47 place (nI (j + 1))) K = K (if hold s_ told (vE m u (tq m q (o place)) (m 15 k) j) = true then nI 1 else nI 0) := fun {K} => r_holds a1 (by omega) (by omega)
        simp (disch := omega) only [nrF, u_br_True, u_br_False, u_jn_u, u_lt_u, u_nn_s, u_brn_s, u_brn_n, nI_add, u_n_mul, u_n_lt, u_n_le, u_n_eq, u_n_sub, u_n_div, u_n_mod, nI_clamp, u_m1, u_m1q, u_wI_n, u_wA_n, u_br_t, u_br_f, ↓li_m1, li_0, li_1, li_2, li_3, li_4, li_5, li_6, li_7, li_8, li_9, li_10, li_12, li_13, li_26, li_40, li_60, li_61, li_62, li_99, li_100, li_102, li_106, li_114, li_112, li_117, li_108, li_103, li_120, li_300, li_360, li_512, li_1000, e18, i6, r_entV R20 Wt Wx k2 k3 L20 (by omega : j < _), e49, e50, rh]
        cases hh : hold s_ told (vE m u (tq m q (o place)) (m 15 k) j) with
        | false =>
          rw [if_neg (by decide), u_br_t rfl]
          refine hs (j + 1) _ ⟨by omega, by omega, k20, X20, n20, by simp only [sP_stP, Nat.reduceEqDiff, true_and, and_true, false_and, and_false, if_true, if_false, eq_self, and_self, Nat.reduceLT, Nat.reduceLeDiff, Nat.reduceAdd, Nat.reduceMul, Nat.reduceDiv, Nat.one_ne_zero], e48, e49, e50, fun E => ?_⟩ (by omega)
          rw [i10]
          congr 1
          unfold ixE
          rw [show (ent m u (tq m q (o place)) (m 15 k)).length - j = 1 + ((ent m u (tq m q (o place)) (m 15 k)).length - (j + 1)) by omega, ixR_no (fun i h1 h2 => ?_)]
          rw [show i = j by omega]
          exact hh
        | true =>
          rw [if_pos rfl, u_br_f (by rw [b10]; exact fun h => h)]
          have e9 : ∀ E, (ixE m u (tq m q (o place)) k s_ told E j lf).foldl (stEv (some 0) F p2 p3 vf) rs = (ixE m u (tq m q (o place)) k s_ told E (j + 1) (some (j / 8))).foldl (stEv (some 0) F p2 p3 vf) ((E ((ent m u (tq m q (o place)) (m 15 k)).getD j 0)).foldl (stEv (some 0) F p2 p3 vf) (stEv (some 0) F p2 p3 vf ((if lf = some (j / 8) then [] else [Sum.inl (100 * (3 + k) + j / 8)]).foldl (stEv (some 0) F p2 p3 vf) rs) (.inl (100 * tq m q (o place) + (ent m u (tq m q (o place)) (m 15 k)).getD j 0 / 4)))) := fun E => by
            unfold ixE
            rw [show (ent m u (tq m q (o place)) (m 15 k)).length - j = ((ent m u (tq m q (o place)) (m 15 k)).length - (j + 1)) + 1 by omega, ixR_yes (hd := fun r => hold s_ told (cvl u (tq m q (o place)) r (m 15 k))) (En := fun j => (ent m u (tq m q (o place)) (m 15 k)).getD j 0) hh, List.foldl_append, List.foldl_append, List.foldl_cons]
          have go : ∀ s1 rs1, KW c σ0 s1 → RW c s1 rs1 → CK F rs1.2.2.2.1 → NKp place s s1 → sP s1 12 0 47 place = nI (j + 1) → sP s1 12 0 48 place = nI (j / 8) → rs1 = (if lf = some (j / 8) then [] else [Sum.inl (100 * (3 + k) + j / 8)]).foldl (stEv (some 0) F p2 p3 vf) rs →
              z_X12_looksUp N 0 (nI c) (nI (100 * tq m q (o place) + (ent m u (tq m q (o place)) (m 15 k)).getD j 0 / 4)) s1 fun h30 => K (sP h30 12 0 17 (40 * k + j)) h30 := by
            intro s1 rs1 b1 b2 b3 b4 b5 b6 b7
            refine r_look (x := 0) (p2 := p2) (p3 := p3) (vf := vf) (F := F) hN b2 hc (r19 s1 b1 rs1 b2) b3 (by omega) (fun s2 Y1 Y2 => ?_)
            rw [(Xk s2 (b1.trans Y2.kw)).2 j (by omega)]
            refine hrow s2 _ (j + 1) (some (j / 8)) _ (by omega) (by omega) er3 (b1.trans Y2.kw) Y1 (b3.lk (by omega)) (b4.trans Y2.nk) (by rw [Y2.f (by decide)]; exact b5) (by rw [Y2.f (by decide)]; exact b6) (fun x hx => by simp only [Option.some.injEq] at hx; omega) (fun E => ?_)
            rw [iti, iti, i10, e9, b7]
          have e17 : ∀ s1, KW c σ0 s1 → sP s1 12 0 17 (40 * k + j) = nI ((ent m u (tq m q (o place)) (m 15 k)).getD j 0) := fun s1 b1 => (Xk s1 b1).2 j (by omega)
          by_cases hlf2 : lf = some (j / 8)
          · have e48' : sP (stP s' 12 0 47 place (nI (j + 1))) 12 0 48 place = nI (j / 8) := by rw [e48, hlf2]; rfl
            simp (disch := omega) only [e48', e17 _ k20, nI_add, u_n_mul, u_n_lt, u_n_le, u_n_eq, u_n_sub, u_n_div, u_n_mod, nI_clamp, u_m1, u_m1q, u_wI_n, u_wA_n, u_br_t, u_br_f, u_br_True, u_br_False, u_jn_u, u_lt_u, u_nn_s, u_brn_s, u_brn_n]
            exact go _ rs k20 X20 Ck n20 (by simp only [sP_stP, Nat.reduceEqDiff, true_and, and_true, false_and, and_false, if_true, if_false, eq_self, and_self, Nat.reduceLT, Nat.reduceLeDiff, Nat.reduceAdd, Nat.reduceMul, Nat.reduceDiv, Nat.one_ne_zero]) e48' (by rw [if_pos hlf2]; rfl)
          · have e7 : ¬ lfI lf = nI (j / 8) := by
              cases lf with
              | none => simp only [lfI]; rw [u_m1q (by omega)]; exact fun h => h
              | some x =>
                have hx := hlf x rfl
                simp only [lfI]
                rw [u_n_eq (by omega) (by omega)]
                exact fun h => hlf2 (by rw [h])
            have X34 : RW c (stP (stP s' 12 0 47 place (nI (j + 1))) 12 0 48 place (nI (j / 8))) rs := by
              unfold RW RO at X20 ⊢
              simp only [sP_stP, Nat.reduceEqDiff, true_and, and_true, false_and, and_false, if_true, if_false, eq_self, and_self, Nat.reduceLT, Nat.reduceLeDiff, Nat.reduceAdd, Nat.reduceMul, Nat.reduceDiv, Nat.one_ne_zero] at X20 ⊢
              exact X20
            have k34 := k20.st (j := place) (f := 48) (v := nI (j / 8)) (by unfold fW; omega)
            have n34 : NKp place s (stP (stP s' 12 0 47 place (nI (j + 1))) 12 0 48 place (nI (j / 8))) := fun f j' hf => by
              rw [sP_stP, if_neg (fun e => by have := e.2.2; omega)]
              exact n20 f j' hf
            rw [e48, u_br_f e7]
            refine r_look (x := 0) (p2 := p2) (p3 := p3) (vf := vf) (F := F) hN X34 hc (r19 _ k34 rs X34) Ck (by omega) (fun s2 Y1 Y2 => ?_)
            have k2' := k34.trans Y2.kw
            simp (disch := omega) only [e17 _ k2', nI_add, u_n_mul, u_n_lt, u_n_le, u_n_eq, u_n_sub, u_n_div, u_n_mod, nI_clamp, u_m1, u_m1q, u_wI_n, u_wA_n, u_br_t, u_br_f]
            exact go s2 _ k2' Y1 (Ck.lk (by omega)) (n34.trans Y2.nk) (by rw [Y2.f (by decide)]; simp only [sP_stP, Nat.reduceEqDiff, true_and, and_true, false_and, and_false, if_true, if_false, eq_self, and_self, Nat.reduceLT, Nat.reduceLeDiff, Nat.reduceAdd, Nat.reduceMul, Nat.reduceDiv, Nat.one_ne_zero]) (by rw [Y2.f (by decide)]; simp only [sP_stP, Nat.reduceEqDiff, true_and, and_true, false_and, and_false, if_true, if_false, eq_self, and_self, Nat.reduceLT, Nat.reduceLeDiff, Nat.reduceAdd, Nat.reduceMul, Nat.reduceDiv, Nat.one_ne_zero]) (by rw [if_neg hlf2]; rfl)
    · unfold RW RO at X ⊢
      simp only [sP_stP, Nat.reduceEqDiff, true_and, and_true, false_and, and_false, if_true, if_false, eq_self, and_self, Nat.reduceLT, Nat.reduceLeDiff, Nat.reduceAdd, Nat.reduceMul, Nat.reduceDiv, Nat.one_ne_zero]
      exact X
    · rw [sP_stP, if_neg (fun e => by have := e.2.2; omega), sP_stP, if_neg (fun e => by have := e.2.2; omega)]
    · simp only [sP_stP, Nat.reduceEqDiff, true_and, and_true, false_and, and_false, if_true, if_false, eq_self, and_self, Nat.reduceLT, Nat.reduceLeDiff, Nat.reduceAdd, Nat.reduceMul, Nat.reduceDiv, Nat.one_ne_zero]; exact h47
    · simp only [sP_stP, Nat.reduceEqDiff, true_and, and_true, false_and, and_false, if_true, if_false, eq_self, and_self, Nat.reduceLT, Nat.reduceLeDiff, Nat.reduceAdd, Nat.reduceMul, Nat.reduceDiv, Nat.one_ne_zero]; exact h48
    · simp only [sP_stP, Nat.reduceEqDiff, true_and, and_true, false_and, and_false, if_true, if_false, eq_self, and_self, Nat.reduceLT, Nat.reduceLeDiff, Nat.reduceAdd, Nat.reduceMul, Nat.reduceDiv, Nat.one_ne_zero]
    · simp only [sP_stP, Nat.reduceEqDiff, true_and, and_true, false_and, and_false, if_true, if_false, eq_self, and_self, Nat.reduceLT, Nat.reduceLeDiff, Nat.reduceAdd, Nat.reduceMul, Nat.reduceDiv, Nat.one_ne_zero]
end RNEXT
