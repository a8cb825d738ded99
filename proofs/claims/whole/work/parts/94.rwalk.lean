section RWALK
variable {m : Nat → Nat → Nat} {u w : Nat → Int32} {L L0 : List Nat} {σ σ' σ0 s s2 σ1 : St} {N kk n q p d ban t c k a x i j place v told F key p3 r e s_ y : Nat} {g o ways rw_ gn rw' gn' : Nat → Nat} {ix : Nat → Option Nat} {p2 : Int32} {rs rs' fin : RSt} {vf : (Nat → Nat) → Int32} {lf lf' : Nat → Option Nat}
/-- the rows chosen at the places before one -/
def gO (o rw_ : Nat → Nat) : Nat → Nat → Nat := it_ (fun x g => gU g (o x) (rw_ x)) (fun _ => 0)
theorem gO_s : gO o rw_ (p + 1) = gU (gO o rw_ p) (o p) (rw_ p) := rfl
theorem gO_cong : ∀ p, (∀ x, x < p → rw_ x = rw' x) → gO o rw_ p = gO o rw' p
  | 0, _ => rfl
  | p + 1, h => by rw [gO_s, gO_s, gO_cong p (fun x hx => h x (by omega)), h p (by omega)]
theorem gO_at (ho : PN n o) : ∀ p, p ≤ n → ∀ x, x < p → gO o rw_ p (o x) = rw_ x
  | 0, _, x, h => by omega
  | p + 1, hp, x, h => by
    rw [gO_s]
    unfold gU
    by_cases e : x = p
    · rw [e, if_pos rfl]
    · rw [if_neg (fun e2 => e (ho.2.1 x (by omega) p (by omega) e2))]
      exact gO_at ho p (by omega) x (by omega)
def EpW (m : Nat → Nat → Nat) (u : Nat → Int32) (q : Nat) (o ways : Nat → Nat) (ix : Nat → Option Nat) (p : Nat) (g : Nat → Nat) (r : Nat) : List (Nat ⊕ (Nat → Nat)) :=
  if fitM m u q (gU g (o p) r) (withP o p) (o p) = true then evG m u q o (fun place g E => itR m u q o ways ix place g E 0 none) (m 25 q - 1 - p) (p + 1) (gU g (o p) r) else []
/-- the events still to come -/
def remW (m : Nat → Nat → Nat) (u : Nat → Int32) (q : Nat) (o ways : Nat → Nat) (ix : Nat → Option Nat) (rw_ gn : Nat → Nat) (lf : Nat → Option Nat) : Nat → List (Nat ⊕ (Nat → Nat))
  | 0 => []
  | p + 1 => itR m u q o ways ix p (gO o rw_ p) (EpW m u q o ways ix p (gO o rw_ p)) (gn p) (lf p) ++ remW m u q o ways ix rw_ gn lf p
theorem remW_cong : ∀ p, (∀ x, x + 1 < p → rw_ x = rw' x) → (∀ x, x < p → gn x = gn' x) → (∀ x, x < p → lf x = lf' x) → remW m u q o ways ix rw_ gn lf p = remW m u q o ways ix rw' gn' lf' p
  | 0, _, _, _ => rfl
  | p + 1, h1, h2, h3 => by
    simp only [remW]
    rw [remW_cong p (fun x hx => h1 x (by omega)) (fun x hx => h2 x (by omega)) (fun x hx => h3 x (by omega)), gO_cong p (fun x hx => h1 x (by omega)), h2 p (by omega), h3 p (by omega)]
theorem remW_s : remW m u q o ways ix rw_ gn lf (p + 1) = itR m u q o ways ix p (gO o rw_ p) (EpW m u q o ways ix p (gO o rw_ p)) (gn p) (lf p) ++ remW m u q o ways ix rw_ gn lf p := rfl
theorem remW_0 : remW m u q o ways ix rw_ gn lf 0 = [] := rfl
def lU (lf : Nat → Option Nat) (p : Nat) (z : Option Nat) : Nat → Option Nat := fun y => if y = p then z else lf y
theorem gU_at : gU g x r x = r := by simp [gU]
theorem gU_ne (h : y ≠ x) : gU g x r y = g y := by unfold gU; rw [if_neg h]
theorem lU_at {z : Option Nat} : lU lf x z x = z := by simp [lU]
theorem lU_ne {z : Option Nat} (h : y ≠ x) : lU lf x z y = lf y := by unfold lU; rw [if_neg h]
theorem mV_up (hp : p < 3) (h : gn p < r) (h40 : r ≤ 40) : mV (gU gn p r) (p + 1) < mV gn (p + 1) := by
  rw [mV_s, mV_s, mV_cong (nx := gU gn p r) (ny := gn) p (fun x hx => gU_ne (by omega)), gU_at]
  have : (41 - r) * 42 ^ (2 - p) < (41 - gn p) * 42 ^ (2 - p) := Nat.mul_lt_mul_of_pos_right (by omega) (Nat.pow_pos (by decide))
  omega
theorem mV_dn (hp : p < 2) (h : gn p < r) (h40 : r ≤ 40) : mV (gU (gU gn p r) (p + 1) 0) (p + 2) < mV gn (p + 1) := by
  rw [mV_s, mV_s, mV_s, mV_cong (nx := gU (gU gn p r) (p + 1) 0) (ny := gn) p (fun x hx => by rw [gU_ne (by omega), gU_ne (by omega)]), gU_at, gU_ne (by omega), gU_at]
  have e2 : p = 0 ∨ p = 1 := by omega
  rcases e2 with rfl | rfl
  · simp only [Nat.reducePow, Nat.reduceSub, Nat.reduceAdd, Nat.sub_zero]
    omega
  · simp only [Nat.reducePow, Nat.reduceSub, Nat.reduceAdd, Nat.sub_zero]
    omega
theorem mV_bk (h : gn p ≤ 40) : mV gn p < mV gn (p + 1) := by
  rw [mV_s]
  have : 0 < (41 - gn p) * 42 ^ (2 - p) := Nat.mul_pos (by omega) (Nat.pow_pos (by decide))
  omega
def wkF (N : Nat) (p2 p4 : Int32) (K : St → Prop) (w53 : Int32 → St → Prop) (x10 : Int32) (h9 : St) : Prop :=
  br (x10 < 0) (
    K h9) (
    wI 3 x10 <|
    wA 3 (sP h9 12 0 39 (x10).toNatClampNeg) (stP h9 12 0 37 ((sP h9 12 0 39 (x10).toNatClampNeg)).toNatClampNeg (-1)) fun h14 =>
    z_X12_nextRow N 0 p2 x10 p4 h14 fun v15 h16 =>
    jn (fun (x18 : Int32) (h17 : St) =>
      w53 x18 h17) (fun j138 =>
      br (0 ≤ v15) (
        wA 3 (sP h9 12 0 39 (x10).toNatClampNeg) (stP h16 12 0 37 ((sP h9 12 0 39 (x10).toNatClampNeg)).toNatClampNeg v15) fun h20 =>
        z_X12_fits N 0 p2 (sP h9 12 0 39 (x10).toNatClampNeg) h20 fun v21 =>
        br (v21 = 0) (
          j138 x10 h20) (
          wI 8 p2 <|
          br (((sP h20 12 0 25 (p2).toNatClampNeg) - 1) ≤ x10) (
            j138 x10 h20) (
            z_X12_beginsAt N 0 (x10 + 1) h20 fun h24 =>
            j138 (x10 + 1) h24))) (
        j138 (x10 + (-1)) h16)))
theorem r_walk (hN : 1000000 ≤ N) (R0 : RI m u w L0 σ0) (hL0 : L0.length ≤ 12) (W : WQ m) (Wt : WT m u) (Wx : WX m) (hq : q < m 24 0) (h0 : 0 < m 25 q) (ho : PN (m 25 q) o) (P0 : PR σ0 (m 25 q) o ways ix) (Xl : ∀ k, k < m 13 0 → LST σ0 k (ent m u (m 14 k) (m 15 k))) (hc : c < 2) (hF : F = m 19 0) (hw : ∀ p, p < m 25 q → okW m q ban o p (ways p)) (hix : ∀ p, p < m 25 q → ix p = wIdx m q ban o p (ways p))
    (kw : KW c σ0 s) (X : RW c s rs) (Ck : CK F rs.2.2.2.1) (Hc : ∀ x, x < 3 → sP s 12 0 37 x = mI) (h47 : sP s 12 0 47 0 = nI 0) (h48 : sP s 12 0 48 0 = mI) {K : St → Prop}
    (h : ∀ s', KW c σ0 s' → RW c s' ((evG m u q o (fun place g E => itR m u q o ways ix place g E 0 none) (m 25 q) 0 (fun _ => 0)).foldl (stEv (some 0) F p2 p3 vf) rs) → CK F ((evG m u q o (fun place g E => itR m u q o ways ix place g E 0 none) (m 25 q) 0 (fun _ => 0)).foldl (stEv (some 0) F p2 p3 vf) rs).2.2.2.1 → K s') :
    fx2 (wkF N (nI q) (nI c) K) N (nI 0) s := by
  have w1 := W.1
  have w3 := W.2.2 q hq
  have h1 := Wt.nt
  have hx6 := Wx.1
  have gm40 : ∀ p, p < m 25 q → gmx m u q o ways ix p ≤ 40 := fun p hp => by
    have hop := ho.1 p hp
    have ht : tq m q (o p) < m 1 0 := w3.2.2.2.1 _ hop
    unfold gmx
    split
    · exact Wt.2.2.2.1 _ (by omega)
    · rename_i hy
      obtain ⟨k, k1, k2, k3⟩ := wIdx_k (hw p hp) hy
      obtain ⟨ht', hc'⟩ := Wx.2 k k2
      rw [k3] at ht' hc'
      rw [hix p hp, k1]
      exact ent_len40 Wt ht' hc'
  have Rk : ∀ s', KW c σ0 s' → ∀ rs', RW c s' rs' → RI m u w (if c = 0 then rs'.2.2.2.1 else L0) s' := fun s' kw' rs' X' => R0.kw kw' hc X'.1 hL0
  have e00 : (evG m u q o (fun place g E => itR m u q o ways ix place g E 0 none) (m 25 q) 0 (fun _ => 0)) = remW m u q o ways ix (fun _ => 0) (fun _ => 0) (fun _ => none) 1 := by
    obtain ⟨n', hn'⟩ : ∃ n', m 25 q = n' + 1 := ⟨m 25 q - 1, by omega⟩
    rw [remW_s, remW_0, List.append_nil, hn']
    simp only [evG]
    congr 1
    funext r
    unfold EpW
    rw [hn']
    rfl
  rw [e00] at h
  generalize hfin : (remW m u q o ways ix (fun _ => 0) (fun _ => 0) (fun _ => none) 1).foldl (stEv (some 0) F p2 p3 vf) rs = fin at h
  refine fx2_g (γ := Option (Nat × (Nat → Nat) × (Nat → Nat) × (Nat → Option Nat)) × RSt) (fun γ x10 s => KW c σ0 s ∧ RW c s γ.2 ∧ CK F γ.2.2.2.2.1 ∧ (match γ.1 with
    | none => x10 = mI ∧ γ.2 = fin
    | some (p, rw_, gn, lf) => p < m 25 q ∧ x10 = nI p ∧ (∀ x, x < 3 → x ≠ o p → sP s 12 0 37 x = if ahead o p x = true then nI (gO o rw_ p x) else mI) ∧ (∀ x, x ≤ p → sP s 12 0 47 x = nI (gn x) ∧ sP s 12 0 48 x = lfI (lf x) ∧ (∀ z, lf x = some z → z < 6) ∧ gn x ≤ gmx m u q o ways ix x) ∧ (∀ x, x < p → rw_ x < 40 ∧ th m (tq m q (o x)) (rw_ x) = true) ∧ (remW m u q o ways ix rw_ gn lf (p + 1)).foldl (stEv (some 0) F p2 p3 vf) γ.2 = fin)) (fun γ => match γ.1 with
    | none => 0
    | some (p, rw_, gn, lf) => mV gn (p + 1)) (fun self γ x10 s hI hs => ?_) N (some (0, (fun _ => 0), (fun _ => 0), (fun _ => none)), rs) _ _ ⟨kw, X, Ck, h0, rfl, fun x hx hn => ?_, fun x hx => ?_, fun x hx => by omega, hfin⟩ ?_
  · obtain ⟨g0, rs⟩ := γ
    obtain ⟨i1, i2, i3, hI⟩ := hI
    simp only at i1 i2 i3 hI hs
    cases g0 with
    | none =>
      obtain ⟨rfl, rfl⟩ := hI
      simp only [wkF, ↓li_m1, li_0, li_1, li_2, li_3, li_4, li_5, li_6, li_7, li_8, li_9, li_10, li_12, li_13, li_26, li_40, li_60, li_61, li_62, li_99, li_100, li_102, li_106, li_114, li_112, li_117, li_108, li_103, li_120, li_300, li_360, li_512, li_1000, mlt0, u_br_True, u_br_False, u_jn_u, u_lt_u, u_nn_s, u_brn_s, u_brn_n]
      exact h s i1 i2 i3
    | some z =>
      obtain ⟨p, rw_, gn, lf⟩ := z
      obtain ⟨hp, rfl, i4, i5, i6, i7⟩ := hI
      have hop := ho.1 p hp
      have ht : tq m q (o p) < m 1 0 := w3.2.2.2.1 _ hop
      have h340 := Wt.2.2.2.1 (tq m q (o p)) (by omega)
      have e39 := ((P0.kw i1) p hp).1
      have nA : ahead o p (o p) = false := by
        cases e : ahead o p (o p) with
        | false => rfl
        | true => have := (aheadN_o ho hp (by omega : p ≤ m 25 q)).mp e; omega
      have k14 : KW c σ0 (stP s 12 0 37 (o p) mI) := i1.st (by unfold fW; omega)
      have X14 : RW c (stP s 12 0 37 (o p) mI) rs := by
        unfold RW RO at i2 ⊢
        simp only [sP_stP, Nat.reduceEqDiff, true_and, and_true, false_and, and_false, if_true, if_false, eq_self, and_self, Nat.reduceLT, Nat.reduceLeDiff, Nat.reduceAdd, Nat.reduceMul, Nat.reduceDiv, Nat.one_ne_zero]
        exact i2
      have H14 : CHo (stP s 12 0 37 (o p) mI) (ahead o p) (gO o rw_ p) := fun x hx => by
        rw [sP_stP]
        by_cases e : x = o p
        · subst e
          rw [if_pos ⟨rfl, rfl, rfl, rfl⟩, nA]
          rfl
        · rw [if_neg (fun h => e h.2.2.2)]
          exact i4 x hx e
      have hgp : ∀ x, x < m 25 q → ahead o p x = true → gO o rw_ p x < 40 ∧ th m (tq m q x) (gO o rw_ p x) = true := fun x hx ha => by
        obtain ⟨y, hy, rfl⟩ := ho.2.2 x hx
        have hyp := (aheadN_o ho hy (by omega : p ≤ m 25 q)).mp ha
        rw [gO_at ho p (by omega) y hyp]
        exact i6 y hyp
      obtain ⟨j1, j2, j3, j4⟩ := i5 p (Nat.le_refl _)
      simp (disch := omega) only [wkF, e39, u_br_True, u_br_False, u_jn_u, u_lt_u, u_nn_s, u_brn_s, u_brn_n, nI_add, u_n_mul, u_n_lt, u_n_le, u_n_eq, u_n_sub, u_n_div, u_n_mod, nI_clamp, u_m1, u_m1q, u_wI_n, u_wA_n, u_br_t, u_br_f, ↓li_m1, li_0, li_1, li_2, li_3, li_4, li_5, li_6, li_7, li_8, li_9, li_10, li_12, li_13, li_26, li_40, li_60, li_61, li_62, li_99, li_100, li_102, li_106, li_114, li_112, li_117, li_108, li_103, li_120, li_300, li_360, li_512, li_1000]
      refine r_nextRow (p2 := p2) (p3 := p3) (vf := vf) hN R0 hL0 W Wt Wx hq ho P0 Xl hc hF hp (hw p hp) (hix p hp) k14 X14 i3 H14 hgp (gn := gn p) (lf := lf p) (by simp only [sP_stP, Nat.reduceEqDiff, true_and, and_true, false_and, and_false, if_true, if_false, eq_self, and_self, Nat.reduceLT, Nat.reduceLeDiff, Nat.reduceAdd, Nat.reduceMul, Nat.reduceDiv, Nat.one_ne_zero]; exact j1) (by simp only [sP_stP, Nat.reduceEqDiff, true_and, and_true, false_and, and_false, if_true, if_false, eq_self, and_self, Nat.reduceLT, Nat.reduceLeDiff, Nat.reduceAdd, Nat.reduceMul, Nat.reduceDiv, Nat.one_ne_zero]; exact j2) j3 j4 (fun s' r gn' lf' rs' a1 a2 a3 a4 a5 a6 a7 a8 a9 b1 b2 => ?_) (fun s' rs' a1 a2 a3 a4 a5 => ?_)
      · have gm := gm40 p hp
        have r0' : (nI 0 ≤ nI r) = True := by rw [u_n_le (by omega) (by omega)]; exact eq_true (Nat.zero_le _)
        have H16 : CHo s' (ahead o p) (gO o rw_ p) := fun x hx => by rw [a7 37 x (Or.inl rfl)]; exact H14 x hx
        have X20 : RW c (stP s' 12 0 37 (o p) (nI r)) rs' := by
          unfold RW RO at a5 ⊢
          simp only [sP_stP, Nat.reduceEqDiff, true_and, and_true, false_and, and_false, if_true, if_false, eq_self, and_self, Nat.reduceLT, Nat.reduceLeDiff, Nat.reduceAdd, Nat.reduceMul, Nat.reduceDiv, Nat.one_ne_zero]
          exact a5
        have k20 : KW c σ0 (stP s' 12 0 37 (o p) (nI r)) := a4.st (by unfold fW; omega)
        have R20 := Rk _ k20 rs' X20
        have wP : withP o p (o p) = true := by simp [withP]
        have H20 : CHo (stP s' 12 0 37 (o p) (nI r)) (withP o p) (gU (gO o rw_ p) (o p) r) := fun x hx => by
          rw [sP_stP]
          by_cases e : x = o p
          · subst e
            rw [if_pos ⟨rfl, rfl, rfl, rfl⟩, if_pos wP, gU_at]
          · rw [if_neg (fun h => e h.2.2.2), H16 x hx, gU_ne e]
            have : withP o p x = ahead o p x := by simp [withP, e]
            rw [this]
        have e25 : sP (stP s' 12 0 37 (o p) (nI r)) 12 0 25 q = nI (m 25 q) := R20.r 25 q rfl
        have hregs : ∀ x, x ≤ p → sP (stP s' 12 0 37 (o p) (nI r)) 12 0 47 x = nI (gU gn p gn' x) ∧ sP (stP s' 12 0 37 (o p) (nI r)) 12 0 48 x = lfI (lU lf p lf' x) ∧ (∀ z, lU lf p lf' x = some z → z < 6) ∧ gU gn p gn' x ≤ gmx m u q o ways ix x := fun x hx => by
          rw [sP_stP, if_neg (fun e => by have := e.2.2.1; omega), sP_stP, if_neg (fun e => by have := e.2.2.1; omega)]
          by_cases e : x = p
          · subst e
            rw [gU_at, lU_at]
            exact ⟨a8, a9, b1, a2⟩
          · rw [gU_ne e, lU_ne e, a7 47 x (Or.inr ⟨Or.inl rfl, e⟩), a7 48 x (Or.inr ⟨Or.inr rfl, e⟩)]
            obtain ⟨z1, z2, z3, z4⟩ := i5 x hx
            rw [sP_stP, if_neg (fun e => by have := e.2.2.1; omega), sP_stP, if_neg (fun e => by have := e.2.2.1; omega)]
            exact ⟨z1, z2, z3, z4⟩
        have hch : ∀ x, x < 3 → x ≠ o p → sP (stP s' 12 0 37 (o p) (nI r)) 12 0 37 x = if ahead o p x = true then nI (gO o rw_ p x) else mI := fun x hx e => by
          rw [sP_stP, if_neg (fun h => e h.2.2.2)]
          exact H16 x hx
        have hrem : (remW m u q o ways ix rw_ gn lf (p + 1)).foldl (stEv (some 0) F p2 p3 vf) rs = (remW m u q o ways ix rw_ (gU gn p gn') (lU lf p lf') (p + 1)).foldl (stEv (some 0) F p2 p3 vf) ((EpW m u q o ways ix p (gO o rw_ p) r).foldl (stEv (some 0) F p2 p3 vf) rs') := by
          rw [remW_s, remW_s, List.foldl_append, List.foldl_append, b2, gU_at, lU_at, remW_cong (gn := gU gn p gn') (gn' := gn) (lf := lU lf p lf') (lf' := lf) p (fun _ _ => rfl) (fun x hx => gU_ne (by omega)) (fun x hx => lU_ne (by omega))]
        rw [i7] at hrem
        simp (disch := omega) only [r0', u_br_True, u_br_False, u_jn_u, u_lt_u, u_nn_s, u_brn_s, u_brn_n, nI_add, u_n_mul, u_n_lt, u_n_le, u_n_eq, u_n_sub, u_n_div, u_n_mod, nI_clamp, u_m1, u_m1q, u_wI_n, u_wA_n, u_br_t, u_br_f]
        refine r_fits hN R20 W Wt hq hop wP (fun x hx ha => ?_) H20 ?_
        · by_cases e : x = o p
          · subst e
            rw [gU_at]
            exact ⟨by omega, fun h => absurd rfl h⟩
          · rw [gU_ne e]
            have : ahead o p x = true := by simpa [withP, e] using ha
            exact ⟨(hgp x hx this).1, fun _ => (hgp x hx this).2⟩
        · cases hf : fitM m u q (gU (gO o rw_ p) (o p) r) (withP o p) (o p) with
          | false =>
            rw [bI_f, u_br_t rfl]
            have eE : EpW m u q o ways ix p (gO o rw_ p) r = [] := by unfold EpW; rw [if_neg (by rw [hf]; decide)]
            rw [eE] at hrem
            exact hs (some (p, rw_, gU gn p gn', lU lf p lf'), rs') _ _ ⟨k20, X20, a6, hp, rfl, hch, hregs, i6, hrem.symm⟩ (mV_up (by omega) a1 (by omega))
          | true =>
            rw [bI_t, u_br_f (by rw [b10]; exact fun h => h)]
            simp (disch := omega) only [u_br_True, u_br_False, u_jn_u, u_lt_u, u_nn_s, u_brn_s, u_brn_n, nI_add, u_n_mul, u_n_lt, u_n_le, u_n_eq, u_n_sub, u_n_div, u_n_mod, nI_clamp, u_m1, u_m1q, u_wI_n, u_wA_n, u_br_t, u_br_f, e25]
            have hth : th m (tq m q (o p)) r = true := by
              unfold fitM at hf
              rw [gU_at] at hf
              cases e : th m (tq m q (o p)) r with
              | true => rfl
              | false => rw [e] at hf; simp at hf
            by_cases hn : m 25 q - 1 ≤ p
            · rw [u_br_t hn]
              have eE : EpW m u q o ways ix p (gO o rw_ p) r = [.inr (gU (gO o rw_ p) (o p) r)] := by
                unfold EpW
                rw [if_pos hf, show m 25 q - 1 - p = 0 by omega]
                rfl
              rw [eE] at hrem
              exact hs (some (p, rw_, gU gn p gn', lU lf p lf'), stEv (some 0) F p2 p3 vf rs' (.inr (gU (gO o rw_ p) (o p) r))) _ _ ⟨k20, X20, a6, hp, rfl, hch, hregs, i6, hrem.symm⟩ (mV_up (by omega) a1 (by omega))
            · rw [u_br_f hn]
              have eE : EpW m u q o ways ix p (gO o rw_ p) r = itR m u q o ways ix (p + 1) (gO o (gU rw_ p r) (p + 1)) (EpW m u q o ways ix (p + 1) (gO o (gU rw_ p r) (p + 1))) 0 none := by
                have eg : gO o (gU rw_ p r) (p + 1) = gU (gO o rw_ p) (o p) r := by
                  rw [gO_s, gU_at, gO_cong (rw_ := gU rw_ p r) (rw' := rw_) p (fun x hx => gU_ne (by omega))]
                rw [eg]
                obtain ⟨n', hn'⟩ : ∃ n', m 25 q - 1 - p = n' + 1 := ⟨m 25 q - 1 - p - 1, by omega⟩
                unfold EpW
                rw [if_pos hf, hn']
                simp only [evG]
                congr 1
                funext r'
                rw [show m 25 q - 1 - (p + 1) = n' by omega]
              have e47 : sP (stP (stP (stP s' 12 0 37 (o p) (nI r)) 12 0 47 (p + 1) (nI 0)) 12 0 48 (p + 1) mI) 12 0 37 (o (p + 1)) = sP (stP s' 12 0 37 (o p) (nI r)) 12 0 37 (o (p + 1)) := by simp only [sP_stP, Nat.reduceEqDiff, true_and, and_true, false_and, and_false, if_true, if_false, eq_self, and_self, Nat.reduceLT, Nat.reduceLeDiff, Nat.reduceAdd, Nat.reduceMul, Nat.reduceDiv, Nat.one_ne_zero]
              simp (disch := omega) only [z_X12_beginsAt, u_br_True, u_br_False, u_jn_u, u_lt_u, u_nn_s, u_brn_s, u_brn_n, nI_add, u_n_mul, u_n_lt, u_n_le, u_n_eq, u_n_sub, u_n_div, u_n_mod, nI_clamp, u_m1, u_m1q, u_wI_n, u_wA_n, u_br_t, u_br_f, ↓li_m1, li_0, li_1, li_2, li_3, li_4, li_5, li_6, li_7, li_8, li_9, li_10, li_12, li_13, li_26, li_40, li_60, li_61, li_62, li_99, li_100, li_102, li_106, li_114, li_112, li_117, li_108, li_103, li_120, li_300, li_360, li_512, li_1000]
              refine hs (some (p + 1, gU rw_ p r, gU (gU gn p gn') (p + 1) 0, lU (lU lf p lf') (p + 1) none), rs') _ _ ⟨(k20.st (by unfold fW; omega)).st (by unfold fW; omega), ?_, a6, by omega, rfl, fun x hx e => ?_, fun x hx => ?_, fun x hx => ?_, ?_⟩ (mV_dn (by omega) a1 (by omega))
              · unfold RW RO at X20 ⊢
                simp only [sP_stP, Nat.reduceEqDiff, true_and, and_true, false_and, and_false, if_true, if_false, eq_self, and_self, Nat.reduceLT, Nat.reduceLeDiff, Nat.reduceAdd, Nat.reduceMul, Nat.reduceDiv, Nat.one_ne_zero] at X20 ⊢
                exact X20
              · rw [sP_stP, if_neg (fun e => by have := e.2.2.1; omega), sP_stP, if_neg (fun e => by have := e.2.2.1; omega), H20 x hx]
                have eg : gO o (gU rw_ p r) (p + 1) = gU (gO o rw_ p) (o p) r := by
                  rw [gO_s, gU_at, gO_cong (rw_ := gU rw_ p r) (rw' := rw_) p (fun x hx => gU_ne (by omega))]
                rw [eg]
                have : ahead o (p + 1) x = withP o p x := by
                  rw [ahead_s]
                  unfold withP
                  congr 1
                  by_cases e : o p = x
                  · subst e; simp
                  · rw [beq_eq_false_iff_ne.mpr e, beq_eq_false_iff_ne.mpr (fun e' => e e'.symm)]
                rw [this]
              · by_cases e : x = p + 1
                · subst e
                  simp only [sP_stP, Nat.reduceEqDiff, true_and, and_true, false_and, and_false, if_true, if_false, eq_self, and_self, Nat.reduceLT, Nat.reduceLeDiff, Nat.reduceAdd, Nat.reduceMul, Nat.reduceDiv, Nat.one_ne_zero, gU_at, lU_at]
                  refine ⟨rfl, fun z hz => ?_, Nat.zero_le _⟩
                  cases hz
                · have e47' : sP (stP (stP (stP s' 12 0 37 (o p) (nI r)) 12 0 47 (p + 1) (nI 0)) 12 0 48 (p + 1) mI) 12 0 47 x = sP (stP s' 12 0 37 (o p) (nI r)) 12 0 47 x := by
                    rw [sP_stP, if_neg (fun h => by have := h.2.2; omega), sP_stP, if_neg (fun h => e h.2.2.2)]
                  have e48' : sP (stP (stP (stP s' 12 0 37 (o p) (nI r)) 12 0 47 (p + 1) (nI 0)) 12 0 48 (p + 1) mI) 12 0 48 x = sP (stP s' 12 0 37 (o p) (nI r)) 12 0 48 x := by
                    rw [sP_stP, if_neg (fun h => e h.2.2.2), sP_stP, if_neg (fun h => by have := h.2.2; omega)]
                  rw [gU_ne e, lU_ne e, e47', e48']
                  exact hregs x (by omega)
              · by_cases e : x = p
                · subst e
                  rw [gU_at]
                  exact ⟨by omega, hth⟩
                · rw [gU_ne e]
                  exact i6 x (by omega)
              · rw [remW_s, gU_at, lU_at, List.foldl_append, ← eE, remW_cong (rw_ := gU rw_ p r) (rw' := rw_) (gn := gU (gU gn p gn') (p + 1) 0) (gn' := gU gn p gn') (lf := lU (lU lf p lf') (p + 1) none) (lf' := lU lf p lf') (p + 1)]
                · exact hrem.symm
                · exact fun x hx => gU_ne (by omega)
                · exact fun x hx => gU_ne (by omega)
                · exact fun x hx => lU_ne (by omega)
      · have m0 : (nI 0 ≤ mI) = False := eq_false (by decide)
        have hrem : (remW m u q o ways ix rw_ gn lf p).foldl (stEv (some 0) F p2 p3 vf) rs' = fin := by
          rw [remW_s, List.foldl_append, a5] at i7
          exact i7
        have gm := gm40 p hp
        simp (disch := omega) only [m0, u_br_True, u_br_False, u_jn_u, u_lt_u, u_nn_s, u_brn_s, u_brn_n, nI_add, u_n_mul, u_n_lt, u_n_le, u_n_eq, u_n_sub, u_n_div, u_n_mod, nI_clamp, u_m1, u_m1q, u_wI_n, u_wA_n, u_br_t, u_br_f, ↓li_m1, li_0, li_1, li_2, li_3, li_4, li_5, li_6, li_7, li_8, li_9, li_10, li_12, li_13, li_26, li_40, li_60, li_61, li_62, li_99, li_100, li_102, li_106, li_114, li_112, li_117, li_108, li_103, li_120, li_300, li_360, li_512, li_1000]
        by_cases hp0 : p = 0
        · subst hp0
          exact hs (none, rs') _ _ ⟨a1, a2, a3, by decide, hrem⟩ (Nat.lt_of_le_of_lt (Nat.zero_le _) (mV_bk (by omega)))
        · obtain ⟨p', rfl⟩ : ∃ p', p = p' + 1 := ⟨p - 1, by omega⟩
          rw [u_addm (by omega), Nat.add_sub_cancel]
          refine hs (some (p', rw_, gn, lf), rs') _ _ ⟨a1, a2, a3, by omega, rfl, fun x hx e => ?_, fun x hx => ?_, fun x hx => i6 x (by omega), hrem⟩ (mV_bk (by omega))
          · rw [a4 37 x (Or.inl rfl), H14 x hx, ahead_s, gO_s, gU_ne e, beq_eq_false_iff_ne.mpr (fun e' => e e'.symm), Bool.or_false]
          · rw [a4 47 x (Or.inr ⟨Or.inl rfl, by omega⟩), a4 48 x (Or.inr ⟨Or.inr rfl, by omega⟩), sP_stP, if_neg (fun e => by have := e.2.2.1; omega), sP_stP, if_neg (fun e => by have := e.2.2.1; omega)]
            exact i5 x (by omega)
  · rw [Hc x hx, if_neg (by simp [ahead])]
  · have : x = 0 := by omega
    subst this
    exact ⟨h47, h48, (fun z hz => by cases hz), Nat.zero_le _⟩
  · have := mV_le (nx := fun _ => 0) (0 + 1) (by omega)
    simp only
    omega
end RWALK
