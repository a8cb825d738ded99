section PURE
variable {m m' : Nat → Nat → Nat} {u w w' : Nat → Int32} {σ σ' σ0 s s2 : St} {N kk n k j i Ln : Nat} {xs9 : Nat → Int32}
/-! the first state -/
def m0_ : Nat → Nat → Nat := fun f _ => if f = 19 then 4 else 0
theorem inv0 : Inv 0 σ1 := by
  have e1 : ∀ i f j, sP σ1 12 i f j = nI (m0_ f j) := fun i f j => by
    show p1_ 12 f = nI (if f = 19 then 4 else 0)
    by_cases h : f = 19
    · subst h; decide
    · rw [if_neg h]
      unfold p1_
      rw [if_neg (by omega), if_neg (by omega), if_neg (by omega), if_neg (by omega), if_neg (by omega)]
      rfl
  have z : ∀ k f i j, k ≠ 0 → k ≠ 8 → k ≠ 12 → ¬ (k = 2 ∧ f = 4) → sP σ1 k i f j = nI 0 := fun k f i j h0 h8 h12 h2 => by
    show p1_ k f = nI 0
    unfold p1_
    rw [if_neg (by omega), if_neg (by omega), if_neg (by omega), if_neg (by omega), if_neg (by omega)]
    rfl
  have mz : ∀ f j, f ≠ 19 → m0_ f j = 0 := fun f j h => if_neg h
  refine Inv.mk (m := m0_) (u := fun _ => 0) (w := fun _ => 0) (L := []) ⟨fun f j _ => e1 0 f j, fun j => e1 0 5 j, fun j => e1 0 53 j, e1 0 21 0, fun j hj => by simp at hj⟩ ⟨?_, ?_, ?_, ?_, ?_, ?_, ?_⟩ ⟨?_, ?_, ?_, ?_, ?_⟩
  · unfold C0
    exact ⟨rfl, rfl, rfl, rfl, rfl, rfl, rfl, rfl, rfl, rfl, rfl⟩
  · refine ⟨z 9 1 0 0 (by decide) (by decide) (by decide) (by omega), rfl, fun t ht => ?_, fun t ht => absurd ht (by rw [mz 1 0 (by decide)]; omega)⟩
    rw [mz 1 0 (by decide), if_neg (by omega)]
    rfl
  · refine ⟨z 9 3 0 0 (by decide) (by decide) (by decide) (by omega), rfl, fun t ht => ?_, fun t ht => absurd ht (by rw [mz 13 0 (by decide)]; omega)⟩
    rw [mz 13 0 (by decide), if_neg (by omega)]
    rfl
  · exact ⟨rfl, rfl, fun j hj => by simp at hj⟩
  · refine ⟨z 11 2 0 0 (by decide) (by decide) (by decide) (by omega), rfl, fun t ht => ?_, fun t ht => absurd ht (by rw [mz 24 0 (by decide)]; omega)⟩
    rw [mz 24 0 (by decide), if_neg (by omega)]
    show q1 11 0 1 t = none
    unfold q1
    by_cases h : t = 0
    · subst h; decide
    · rw [if_neg (by omega), if_neg (by omega), if_neg (by omega)]
  · have e52 : m0_ 52 0 = 0 := mz 52 0 (by decide)
    refine ⟨fun d hd => ?_, fun d hd => ?_, fun j hj => absurd hj (by rw [e52]; omega), ?_, fun h => absurd h (by rw [e52]; omega), ?_, fun j hj => absurd hj (by rw [e52]; omega)⟩
    · rw [mz 51 d (by decide)]
      exact z 2 0 0 d (by decide) (by decide) (by decide) (by omega)
    · rw [mz 46 d (by decide)]
      exact z 2 1 0 d (by decide) (by decide) (by decide) (by omega)
    · rw [e52]
      exact z 2 3 0 0 (by decide) (by decide) (by decide) (by omega)
    · rw [mz 16 0 (by decide)]
      exact z 2 5 0 0 (by decide) (by decide) (by decide) (by omega)
  · exact fun h => absurd h (by rw [mz 16 0 (by decide)]; decide)
  · have e10 : m0_ 1 0 = 0 := mz 1 0 (by decide)
    refine ⟨by rw [e10]; omega, fun t _ => Or.inr (by rw [e10]; omega), fun t ht => absurd ht (by rw [e10]; omega), fun t _ => by rw [mz 3 t (by decide)]; omega, fun t r _ _ => by rw [mz 4 _ (by decide)]; omega, fun t r _ _ _ => mz 4 _ (by decide), fun j _ => ?_, fun t _ => ?_, fun j _ => ?_, fun t r c ht => absurd ht (by rw [e10]; omega), fun t _ _ => ?_⟩
    · rw [mz 6 j (by decide), mz 7 j (by decide)]; omega
    · rw [mz 8 t (by decide), mz 9 t (by decide)]; omega
    · rw [mz 10 j (by decide), mz 11 j (by decide), mz 12 j (by decide)]; omega
    · exact ⟨mz 3 t (by decide), mz 8 t (by decide), mz 9 t (by decide), fun c _ => ⟨mz 6 _ (by decide), mz 10 _ (by decide), mz 11 _ (by decide), mz 12 _ (by decide)⟩⟩
  · exact ⟨by rw [mz 13 0 (by decide)]; omega, fun k hk => absurd hk (by rw [mz 13 0 (by decide)]; omega)⟩
  · exact ⟨by decide, Nat.zero_le _, List.nodup_nil, fun x hx => by simp at hx⟩
  · have e24 : m0_ 24 0 = 0 := mz 24 0 (by decide)
    exact ⟨by rw [e24]; omega, fun q _ _ => ⟨mz 25 q (by decide), mz 27 q (by decide), mz 32 q (by decide)⟩, fun q hq => absurd hq (by rw [e24]; omega)⟩
  · refine ⟨fun d _ => ?_, by rw [mz 52 0 (by decide)]; omega, by rw [mz 16 0 (by decide)]; omega, by omega⟩
    rw [mz 46 d (by decide), mz 54 d (by decide), mz 51 d (by decide)]
    exact ⟨by decide, by decide, by decide, by decide⟩
/-! a call's answers agree, so the law goes on -/
theorem lw_G {code b : Int32} {P : Prop} (g : G k code b s) (hs : Inv k s → P) : z_X12_thrown N 0 s fun v20 => br (v20 = code) (jn P (fun j => br (code = 0) (wI 1 (0 : Int32) <| br ((lg_cmp (sL_ s 13 0 0 ((0 : Int32)).toNatClampNeg) (b.toInt64)) = 0) j False) j)) False := by
  obtain ⟨g1, g2, g3⟩ := g
  show br (sP s 12 0 0 0 = code) _ _
  rw [u_br_t g1]
  show br (code = nI 0) (wI 1 (nI 0) <| br ((lg_cmp (sL_ s 13 0 0 ((nI 0)).toNatClampNeg) (b.toInt64)) = 0) P False) P
  by_cases hc : code = nI 0
  · rw [u_br_t hc, wI_l (by decide), l0c, g2 hc, u_br_t ((lg_cmp_eq _ _).mpr rfl)]
    exact hs g3
  · rw [u_br_f hc]
    exact hs g3
theorem lw_GL {code : Int32} {b : Int64} {P : Prop} (g : GL k code b s) (hs : Inv k s → P) : z_X12_thrown N 0 s fun v20 => br (v20 = code) (jn P (fun j => br (code = 0) (wI 1 (0 : Int32) <| br ((lg_cmp (sL_ s 13 0 0 ((0 : Int32)).toNatClampNeg) b) = 0) j False) j)) False := by
  obtain ⟨g1, g2, g3⟩ := g
  show br (sP s 12 0 0 0 = code) _ _
  rw [u_br_t g1]
  show br (code = nI 0) (wI 1 (nI 0) <| br ((lg_cmp (sL_ s 13 0 0 ((nI 0)).toNatClampNeg) b) = 0) P False) P
  by_cases hc : code = nI 0
  · rw [u_br_t hc, wI_l (by decide), l0c, g2 hc, u_br_t ((lg_cmp_eq _ _).mpr rfl)]
    exact hs g3
  · rw [u_br_f hc]
    exact hs g3
theorem lw_E {c P : Prop} (h : c) (hp : P) : br c P False := by
  rw [u_br_t h]
  exact hp
theorem nn64 {x : UInt64} (h : vf_n64 x) : FP.Core.decode FP.Core.b64 x.toNat ≠ .nan := by
  unfold vf_n64 at h
  rw [UInt64.le_iff_toNat_le, UInt64.toNat_and] at h
  have e : (0x7fffffffffffffff : UInt64).toNat = 2 ^ 63 - 1 := by decide
  have e2 : (0x7ff0000000000000 : UInt64).toNat = 0x7ff0000000000000 := by decide
  rw [e, e2, Nat.and_two_pow_sub_one_eq_mod] at h
  have ht : FP.Core.b64.tails = 4503599627370496 := by decide
  have hx : FP.Core.b64.exps = 2048 := by decide
  simp only [FP.Core.decode, FP.Core.fieldE, FP.Core.fieldT, ht, hx]
  split
  · rename_i h1
    rw [if_pos (by omega)]
    exact fun h => by cases h
  · split <;> exact fun h => by cases h
theorem cmp_self (a : Int) : compare a a = .eq := by
  simp [compare, compareOfLessAndEq]
theorem dcmp_self {x : UInt64} (h : vf_n64 x) : Op.cmpValue (FP.dcmp x x) CmpOp.l = 0 := by
  have hn := nn64 h
  have e : FP.dcmp x x = some .eq := by
    show FP.Core.order (FP.Core.decode FP.Core.b64 x.toNat) (FP.Core.decode FP.Core.b64 x.toNat) = some .eq
    cases hd : FP.Core.decode FP.Core.b64 x.toNat with
    | nan => exact absurd hd hn
    | inf s => simp only [FP.Core.order, cmp_self]
    | fin s c q => simp only [FP.Core.order, cmp_self]
  rw [e]
  rfl
theorem lw_GD {code : Int32} {b : UInt32} {P : Prop} (g : GD k code (FP.f2d b) s) (hs : Inv k s → P) : z_X12_thrown N 0 s fun v363 => br (v363 = code) (jn P (fun j => br (code = 0) (wI 1 (0 : Int32) <| ok (vf_n64 (FP.f2d b)) <| br ((Op.cmpValue (FP.dcmp (sD_ s ((0 : Int32)).toNatClampNeg) (FP.f2d b)) CmpOp.l) = 0) j (wI 1 (0 : Int32) <| wI 1 (0 : Int32) <| br ((Op.cmpValue (FP.dcmp (sD_ s ((0 : Int32)).toNatClampNeg) (sD_ s ((0 : Int32)).toNatClampNeg)) CmpOp.l) = 0) False (br ((Op.cmpValue (FP.fcmp b b) CmpOp.l) = 0) False j))) j)) False := by
  obtain ⟨g1, g2, g3⟩ := g
  show br (sP s 12 0 0 0 = code) _ _
  rw [u_br_t g1, u_jn_u]
  by_cases hc : code = nI 0
  · obtain ⟨d1, d2⟩ := g2 hc
    have hc' : code = 0 := hc
    have e0 : ((0 : Int32)).toNatClampNeg = 0 := l0c
    rw [u_br_t hc', e0, d1, u_ok_t d2]
    have := wI_l (n := 1) (by decide) (T := br (Op.cmpValue (FP.dcmp (FP.f2d b) (FP.f2d b)) CmpOp.l = 0) P (wI 1 (0 : Int32) <| wI 1 (0 : Int32) <| br ((Op.cmpValue (FP.dcmp (FP.f2d b) (FP.f2d b)) CmpOp.l) = 0) False (br ((Op.cmpValue (FP.fcmp b b) CmpOp.l) = 0) False P)))
    refine Eq.mpr this ?_
    rw [u_br_t (dcmp_self d2)]
    exact hs g3
  · rw [u_br_f (show ¬ code = 0 from hc)]
    exact hs g3
theorem lw_GM {code : Int32} {b : UInt64} {P : Prop} (g : GD k code b s) (hs : Inv k s → P) : z_X12_thrown N 0 s fun v363 => br (v363 = code) (jn P (fun j => br (code = 0) (wI 1 (0 : Int32) <| br ((Op.cmpValue (FP.dcmp (sD_ s ((0 : Int32)).toNatClampNeg) b) CmpOp.l) = 0) j (wI 1 (0 : Int32) <| wI 1 (0 : Int32) <| br ((Op.cmpValue (FP.dcmp (sD_ s ((0 : Int32)).toNatClampNeg) (sD_ s ((0 : Int32)).toNatClampNeg)) CmpOp.l) = 0) False (br ((Op.cmpValue (FP.dcmp b b) CmpOp.l) = 0) False j))) j)) False := by
  obtain ⟨g1, g2, g3⟩ := g
  show br (sP s 12 0 0 0 = code) _ _
  rw [u_br_t g1, u_jn_u]
  by_cases hc : code = nI 0
  · obtain ⟨d1, d2⟩ := g2 hc
    have hc' : code = 0 := hc
    have e0 : ((0 : Int32)).toNatClampNeg = 0 := l0c
    rw [u_br_t hc', e0, d1]
    have := wI_l (n := 1) (by decide) (T := br (Op.cmpValue (FP.dcmp b b) CmpOp.l = 0) P (wI 1 (0 : Int32) <| wI 1 (0 : Int32) <| br ((Op.cmpValue (FP.dcmp b b) CmpOp.l) = 0) False (br ((Op.cmpValue (FP.dcmp b b) CmpOp.l) = 0) False P)))
    refine Eq.mpr this ?_
    rw [u_br_t (dcmp_self d2)]
    exact hs g3
  · rw [u_br_f (show ¬ code = 0 from hc)]
    exact hs g3
theorem aS_n (h : i < Ln) (hL : Ln < 2 ^ 31) {K : Int32 → Prop} : aS Ln xs9 (nI i) K = K (xs9 i) := by
  unfold aS
  rw [nI_clamp (by omega)]
  apply propext
  exact ⟨fun x => x.2, fun x => ⟨nI_in h hL, x⟩⟩
set_option maxHeartbeats 8000000 in
set_option maxRecDepth 20000 in
theorem z_true (hN : 1000000 ≤ N) (hL : Ln ≤ 3072) (I0 : Inv 0 σ) : z_law N Ln xs9 σ := by
  unfold z_law
  refine fx2_g (γ := Nat) (fun k x s => 6 * k ≤ Ln + 5 ∧ x = nI (6 * k) ∧ Inv k s) (fun k => 600 - k) (fun self k x s hI hs => ?_) N 0 _ σ ⟨by omega, rfl, I0⟩ (by omega)
  obtain ⟨i1, rfl, I⟩ := hI
  by_cases hl : Ln < 6 * k + 6
  · have e : (Int32.ofNat Ln) - 6 < nI (6 * k) := by
      show nI Ln - nI 6 < nI (6 * k)
      by_cases h6 : Ln < 6
      · have : nI Ln - nI 6 < nI 0 := by
          have e9 : ∀ n, n < 6 → nI n - nI 6 < nI 0 := by decide
          exact e9 Ln h6
        exact u_neg_lt this (by omega)
      · rw [u_n_sub (by omega), u_n_lt (by omega) (by omega)]
        omega
    rw [u_br_t e]
    trivial
  · have e : ¬ (Int32.ofNat Ln) - 6 < nI (6 * k) := by
      show ¬ nI Ln - nI 6 < nI (6 * k)
      rw [u_n_sub (by omega), u_n_lt (by omega) (by omega)]
      omega
    have hk : k < 512 := by omega
    have hi6 : nI (6 * k) + 6 = nI (6 * (k + 1)) := by
      show nI (6 * k) + nI 6 = nI (6 * (k + 1))
      rw [nI_add]
      rfl
    have a0 : ∀ K, aS Ln xs9 (nI (6 * k)) K = K (xs9 (6 * k)) := fun K => aS_n (by omega) (by omega)
    have a1 : ∀ K, aS Ln xs9 (nI (6 * k) + 1) K = K (xs9 (6 * k + 1)) := fun K => by
      show aS Ln xs9 (nI (6 * k) + nI 1) K = _
      rw [nI_add, aS_n (by omega) (by omega)]
    have a2 : ∀ K, aS Ln xs9 (nI (6 * k) + 2) K = K (xs9 (6 * k + 2)) := fun K => by
      show aS Ln xs9 (nI (6 * k) + nI 2) K = _
      rw [nI_add, aS_n (by omega) (by omega)]
    have a3 : ∀ K, aS Ln xs9 (nI (6 * k) + 3) K = K (xs9 (6 * k + 3)) := fun K => by
      show aS Ln xs9 (nI (6 * k) + nI 3) K = _
      rw [nI_add, aS_n (by omega) (by omega)]
    have a4 : ∀ K, aS Ln xs9 (nI (6 * k) + 4) K = K (xs9 (6 * k + 4)) := fun K => by
      show aS Ln xs9 (nI (6 * k) + nI 4) K = _
      rw [nI_add, aS_n (by omega) (by omega)]
    have a5 : ∀ K, aS Ln xs9 (nI (6 * k) + 5) K = K (xs9 (6 * k + 5)) := fun K => by
      show aS Ln xs9 (nI (6 * k) + nI 5) K = _
      rw [nI_add, aS_n (by omega) (by omega)]
    rw [u_br_f e, a0]
    by_cases h0 : (xs9 (6 * k) &&& 63) = (0 : Int32)
    · rw [u_br_t h0]
      simp only [a1, a2, a3, a4, a5]
      refine k_table hN I hk _ (fun code b s2 g => lw_G g (fun I2 => hs (k + 1) _ _ ⟨by omega, hi6, I2⟩ (by omega)))
    rw [u_br_f h0]
    by_cases h1 : (xs9 (6 * k) &&& 63) = (1 : Int32)
    · rw [u_br_t h1]
      simp only [a1, a2, a3, a4, a5]
      refine k_bound hN I hk _ _ _ _ (fun code b s2 g => lw_G g (fun I2 => hs (k + 1) _ _ ⟨by omega, hi6, I2⟩ (by omega)))
    rw [u_br_f h1]
    by_cases h2 : (xs9 (6 * k) &&& 63) = (2 : Int32)
    · rw [u_br_t h2]
      simp only [a1, a2, a3, a4, a5]
      refine k_insert hN I hk _ _ _ _ (fun code b s2 g => lw_G g (fun I2 => hs (k + 1) _ _ ⟨by omega, hi6, I2⟩ (by omega)))
    rw [u_br_f h2]
    by_cases h3 : (xs9 (6 * k) &&& 63) = (3 : Int32)
    · rw [u_br_t h3]
      simp only [a1, a2, a3, a4, a5]
      refine k_remove hN I hk _ _ (fun code b s2 g => lw_G g (fun I2 => hs (k + 1) _ _ ⟨by omega, hi6, I2⟩ (by omega)))
    rw [u_br_f h3]
    by_cases h4 : (xs9 (6 * k) &&& 63) = (4 : Int32)
    · rw [u_br_t h4]
      simp only [a1, a2, a3, a4, a5]
      refine k_count hN I hk _ (fun code b s2 g => lw_G g (fun I2 => hs (k + 1) _ _ ⟨by omega, hi6, I2⟩ (by omega)))
    rw [u_br_f h4]
    by_cases h5 : (xs9 (6 * k) &&& 63) = (5 : Int32)
    · rw [u_br_t h5]
      simp only [a1, a2, a3, a4, a5]
      refine k_index hN I hk _ _ (fun code b s2 g => lw_G g (fun I2 => hs (k + 1) _ _ ⟨by omega, hi6, I2⟩ (by omega)))
    rw [u_br_f h5]
    by_cases h6 : (xs9 (6 * k) &&& 63) = (6 : Int32)
    · rw [u_br_t h6]
      simp only [a1, a2, a3, a4, a5]
      refine k_frames I hk _ (fun code b s2 g => lw_G g (fun I2 => hs (k + 1) _ _ ⟨by omega, hi6, I2⟩ (by omega)))
    rw [u_br_f h6]
    by_cases h7 : (xs9 (6 * k) &&& 63) = (7 : Int32)
    · rw [u_br_t h7]
      simp only [a1, a2, a3, a4, a5]
      refine k_pages I hk _ (fun code b s2 g => lw_G g (fun I2 => hs (k + 1) _ _ ⟨by omega, hi6, I2⟩ (by omega)))
    rw [u_br_f h7]
    by_cases h8 : (xs9 (6 * k) &&& 63) = (8 : Int32)
    · rw [u_br_t h8]
      simp only [a1, a2, a3, a4, a5]
      refine k_value I hk _ _ _ (fun code b s2 g => lw_G g (fun I2 => hs (k + 1) _ _ ⟨by omega, hi6, I2⟩ (by omega)))
    rw [u_br_f h8]
    by_cases h9 : (xs9 (6 * k) &&& 63) = (9 : Int32)
    · rw [u_br_t h9]
      simp only [a1, a2, a3, a4, a5]
      refine k_entries hN I hk _ (fun code b s2 g => lw_G g (fun I2 => hs (k + 1) _ _ ⟨by omega, hi6, I2⟩ (by omega)))
    rw [u_br_f h9]
    by_cases h10 : (xs9 (6 * k) &&& 63) = (10 : Int32)
    · rw [u_br_t h10]
      simp only [a1, a2, a3, a4, a5]
      refine k_entryAt hN I hk _ _ (fun code b s2 g => lw_G g (fun I2 => hs (k + 1) _ _ ⟨by omega, hi6, I2⟩ (by omega)))
    rw [u_br_f h10]
    by_cases h11 : (xs9 (6 * k) &&& 63) = (11 : Int32)
    · rw [u_br_t h11]
      simp only [a1, a2, a3, a4, a5]
      refine k_counted I hk _ _ _ (fun code b s2 g => lw_G g (fun I2 => hs (k + 1) _ _ ⟨by omega, hi6, I2⟩ (by omega)))
    rw [u_br_f h11]
    by_cases h12 : (xs9 (6 * k) &&& 63) = (12 : Int32)
    · rw [u_br_t h12]
      refine k_cached I hk (fun b s2 I2 => lw_E rfl (hs (k + 1) _ _ ⟨by omega, hi6, I2⟩ (by omega)))
    rw [u_br_f h12]
    by_cases h13 : (xs9 (6 * k) &&& 63) = (13 : Int32)
    · rw [u_br_t h13]
      simp only [a1, a2, a3, a4, a5]
      refine k_cachedAt I hk _ (fun code b s2 g => lw_G g (fun I2 => hs (k + 1) _ _ ⟨by omega, hi6, I2⟩ (by omega)))
    rw [u_br_f h13]
    by_cases h14 : (xs9 (6 * k) &&& 63) = (14 : Int32)
    · rw [u_br_t h14]
      refine k_flush I hk (fun b s2 I2 => lw_E rfl (hs (k + 1) _ _ ⟨by omega, hi6, I2⟩ (by omega)))
    rw [u_br_f h14]
    by_cases h15 : (xs9 (6 * k) &&& 63) = (15 : Int32)
    · rw [u_br_t h15]
      refine k_query I hk (fun code b s2 g => lw_G g (fun I2 => hs (k + 1) _ _ ⟨by omega, hi6, I2⟩ (by omega)))
    rw [u_br_f h15]
    by_cases h16 : (xs9 (6 * k) &&& 63) = (16 : Int32)
    · rw [u_br_t h16]
      simp only [a1, a2, a3, a4, a5]
      refine k_from I hk _ _ (fun code b s2 g => lw_G g (fun I2 => hs (k + 1) _ _ ⟨by omega, hi6, I2⟩ (by omega)))
    rw [u_br_f h16]
    by_cases h17 : (xs9 (6 * k) &&& 63) = (17 : Int32)
    · rw [u_br_t h17]
      simp only [a1, a2, a3, a4, a5]
      refine k_where I hk _ _ _ _ _ (fun code b s2 g => lw_G g (fun I2 => hs (k + 1) _ _ ⟨by omega, hi6, I2⟩ (by omega)))
    rw [u_br_f h17]
    by_cases h18 : (xs9 (6 * k) &&& 63) = (18 : Int32)
    · rw [u_br_t h18]
      simp only [a1, a2, a3, a4, a5]
      refine k_join I hk _ _ _ _ _ (fun code b s2 g => lw_G g (fun I2 => hs (k + 1) _ _ ⟨by omega, hi6, I2⟩ (by omega)))
    rw [u_br_f h18]
    by_cases h19 : (xs9 (6 * k) &&& 63) = (19 : Int32)
    · rw [u_br_t h19]
      simp only [a1, a2, a3, a4, a5]
      refine k_answers hN I hk _ (fun code b s2 g => lw_G g (fun I2 => hs (k + 1) _ _ ⟨by omega, hi6, I2⟩ (by omega)))
    rw [u_br_f h19]
    by_cases h20 : (xs9 (6 * k) &&& 63) = (20 : Int32)
    · rw [u_br_t h20]
      simp only [a1, a2, a3, a4, a5]
      refine k_answerAt hN I hk _ _ _ (fun code b s2 g => lw_G g (fun I2 => hs (k + 1) _ _ ⟨by omega, hi6, I2⟩ (by omega)))
    rw [u_br_f h20]
    by_cases h21 : (xs9 (6 * k) &&& 63) = (21 : Int32)
    · rw [u_br_t h21]
      simp only [a1, a2, a3, a4, a5]
      refine k_sum hN I hk _ _ _ (fun code b s2 g => lw_GL g (fun I2 => hs (k + 1) _ _ ⟨by omega, hi6, I2⟩ (by omega)))
    rw [u_br_f h21]
    by_cases h22 : (xs9 (6 * k) &&& 63) = (22 : Int32)
    · rw [u_br_t h22]
      simp only [a1, a2, a3, a4, a5]
      refine k_planned hN I hk _ _ _ (fun code b s2 g => lw_G g (fun I2 => hs (k + 1) _ _ ⟨by omega, hi6, I2⟩ (by omega)))
    rw [u_br_f h22]
    by_cases h23 : (xs9 (6 * k) &&& 63) = (23 : Int32)
    · rw [u_br_t h23]
      simp only [a1, a2, a3, a4, a5]
      refine k_way hN I hk _ _ _ (fun code b s2 g => lw_G g (fun I2 => hs (k + 1) _ _ ⟨by omega, hi6, I2⟩ (by omega)))
    rw [u_br_f h23]
    by_cases h24 : (xs9 (6 * k) &&& 63) = (24 : Int32)
    · rw [u_br_t h24]
      simp only [a1, a2, a3, a4, a5]
      refine k_usedIndex hN I hk _ _ _ (fun code b s2 g => lw_G g (fun I2 => hs (k + 1) _ _ ⟨by omega, hi6, I2⟩ (by omega)))
    rw [u_br_f h24]
    by_cases h25 : (xs9 (6 * k) &&& 63) = (25 : Int32)
    · rw [u_br_t h25]
      simp only [a1, a2, a3, a4, a5]
      refine k_estimate hN I hk _ _ (fun code b s2 g => lw_GL g (fun I2 => hs (k + 1) _ _ ⟨by omega, hi6, I2⟩ (by omega)))
    rw [u_br_f h25]
    by_cases h26 : (xs9 (6 * k) &&& 63) = (26 : Int32)
    · rw [u_br_t h26]
      simp only [a1, a2, a3, a4, a5]
      refine k_cold hN I hk _ _ (fun code b s2 g => lw_G g (fun I2 => hs (k + 1) _ _ ⟨by omega, hi6, I2⟩ (by omega)))
    rw [u_br_f h26]
    by_cases h27 : (xs9 (6 * k) &&& 63) = (27 : Int32)
    · rw [u_br_t h27]
      simp only [a1, a2, a3, a4, a5]
      refine k_reads hN I hk _ _ (fun code b s2 g => lw_G g (fun I2 => hs (k + 1) _ _ ⟨by omega, hi6, I2⟩ (by omega)))
    rw [u_br_f h27]
    by_cases h28 : (xs9 (6 * k) &&& 63) = (28 : Int32)
    · rw [u_br_t h28]
      simp only [a1, a2, a3, a4, a5]
      refine k_ban hN I hk _ _ (fun code b s2 g => lw_G g (fun I2 => hs (k + 1) _ _ ⟨by omega, hi6, I2⟩ (by omega)))
    rw [u_br_f h28]
    by_cases h29 : (xs9 (6 * k) &&& 63) = (29 : Int32)
    · rw [u_br_t h29]
      simp only [a1, a2, a3, a4, a5]
      refine k_round hN I hk _ (fun code b s2 g => lw_G g (fun I2 => hs (k + 1) _ _ ⟨by omega, hi6, I2⟩ (by omega)))
    rw [u_br_f h29]
    by_cases h30 : (xs9 (6 * k) &&& 63) = (30 : Int32)
    · rw [u_br_t h30]
      simp only [a1, a2, a3, a4, a5]
      refine k_appeal hN I hk _ (fun code b s2 g => lw_G g (fun I2 => hs (k + 1) _ _ ⟨by omega, hi6, I2⟩ (by omega)))
    rw [u_br_f h30]
    by_cases h31 : (xs9 (6 * k) &&& 63) = (31 : Int32)
    · rw [u_br_t h31]
      simp only [a1, a2, a3, a4, a5]
      refine k_coins I hk _ (fun code b s2 g => lw_G g (fun I2 => hs (k + 1) _ _ ⟨by omega, hi6, I2⟩ (by omega)))
    rw [u_br_f h31]
    by_cases h32 : (xs9 (6 * k) &&& 63) = (32 : Int32)
    · rw [u_br_t h32]
      simp only [a1, a2, a3, a4, a5]
      refine k_misses I hk _ _ (fun code b s2 g => lw_G g (fun I2 => hs (k + 1) _ _ ⟨by omega, hi6, I2⟩ (by omega)))
    rw [u_br_f h32]
    by_cases h33 : (xs9 (6 * k) &&& 63) = (33 : Int32)
    · rw [u_br_t h33]
      simp only [a1, a2, a3, a4, a5]
      refine k_total hN I hk _ (fun code b s2 g => lw_G g (fun I2 => hs (k + 1) _ _ ⟨by omega, hi6, I2⟩ (by omega)))
    rw [u_br_f h33]
    by_cases h34 : (xs9 (6 * k) &&& 63) = (34 : Int32)
    · rw [u_br_t h34]
      refine k_rounds I hk (fun b s2 I2 => lw_E rfl (hs (k + 1) _ _ ⟨by omega, hi6, I2⟩ (by omega)))
    rw [u_br_f h34]
    by_cases h35 : (xs9 (6 * k) &&& 63) = (35 : Int32)
    · rw [u_br_t h35]
      refine k_print hN I hk (fun b s2 I2 => lw_E (lg_cmp_eq b b |>.mpr rfl) (hs (k + 1) _ _ ⟨by omega, hi6, I2⟩ (by omega)))
    rw [u_br_f h35]
    by_cases h36 : (xs9 (6 * k) &&& 63) = (36 : Int32)
    · rw [u_br_t h36]
      simp only [a1, a2, a3, a4, a5]
      refine k_hitShare hN I hk _ _ (fun code b s2 g => lw_GD g (fun I2 => hs (k + 1) _ _ ⟨by omega, hi6, I2⟩ (by omega)))
    rw [u_br_f h36]
    by_cases h37 : (xs9 (6 * k) &&& 63) = (37 : Int32)
    · rw [u_br_t h37]
      refine k_meanMisses hN I hk (fun code b s2 g => lw_GM g (fun I2 => hs (k + 1) _ _ ⟨by omega, hi6, I2⟩ (by omega)))
    rw [u_br_f h37]
    by_cases h38 : (xs9 (6 * k) &&& 63) = (38 : Int32)
    · rw [u_br_t h38]
      refine k_isSound hN I hk (fun b s2 I2 => lw_E rfl (hs (k + 1) _ _ ⟨by omega, hi6, I2⟩ (by omega)))
    rw [u_br_f h38]
    exact hs (k + 1) _ _ ⟨by omega, hi6, Inv_up I hk⟩ (by omega)
theorem law_true {Ln : Nat} (hL : Ln ≤ 3072) (xs9 : Nat → Int32) (b : Nat) : ∃ N, w_law N Ln xs9 b (fun _ => none) := ⟨1000000, y_law (z_true (Nat.le_refl _) hL inv0)⟩
end PURE
