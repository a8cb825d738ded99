section CENTRIES
variable {m : Nat → Nat → Nat} {u w : Nat → Int32} {L : List Nat} {σ σ' s s2 σ1 : St} {N kk n q p d ban t c k a x i place v told F key p3 p4 r e s_ : Nat} {g o ways : Nat → Nat} {ix : Nat → Option Nat} {A : Nat → Bool} {cc : Option Nat} {p2 : Int32} {rs : RSt} {vf : (Nat → Nat) → Int32} {E : Nat → List (Nat ⊕ (Nat → Nat))} {zv : Nat → Int32 → St → (St → Prop) → Prop} {lf : Option Nat}
def lfC (k : Nat) (lf : Option Nat) : Int32 := match lf with
  | none => mI
  | some x => nI (100 * (3 + k) + x)
theorem c_leafKey (h : sP σ 3 k 0 0 = nI k) (hk : k < 6) (hr : r < 100) {K : Int32 → Prop} : z_X11_leafKey N (some k) (nI r) σ K = K (nI (100 * (3 + k) + r / 8)) := by
  simp (disch := omega) only [z_X11_leafKey, z_X3_number, u_br_True, u_br_False, u_jn_u, u_lt_u, u_nn_s, u_brn_s, u_brn_n, nI_add, u_n_mul, u_n_lt, u_n_le, u_n_eq, u_n_sub, u_n_div, u_n_mod, nI_clamp, u_m1, u_m1q, u_wI_n, u_wA_n, u_br_t, u_br_f, ↓li_m1, li_0, li_1, li_2, li_3, li_4, li_5, li_6, li_7, li_8, li_9, li_10, li_12, li_13, li_26, li_40, li_60, li_61, li_62, li_99, li_100, li_102, li_106, li_114, li_112, li_117, li_108, li_103, li_120, li_300, li_360, li_512, li_1000, h]
theorem c_entries (hN : 1000000 ≤ N) (W : WQ m) (Wt : WT m u) (Wx : WX m) (hk : k < m 13 0) (ht : m 14 k = t) (hs : sg s_) (hto : told ≤ 99) (hlen : 0 < (ent m u t (m 15 k)).length) (R : RVs σ cc F p2 p3 p4 rs) (V : VS m u q i o σ place g)
    (hG : ∀ {K : Int32 → Prop}, z_X8_greatestWanted N 0 (nI place) σ K = K (gMx s_ told)) (hL : ∀ {K : Int32 → Prop}, z_X8_leastWanted N 0 (nI place) σ K = K (nI (lsM s_ told)))
    (hrow : ∀ r, r < m 3 t → ∀ s rs', RVs s cc F p2 p3 p4 rs' → KV cc σ s → VS m u q i o s place g → ∀ {K : St → Prop}, (∀ s2, RVs s2 cc F p2 p3 p4 ((E r).foldl (stEv cc F p2 p3 vf) rs') → KV cc s s2 → KH (Apl o (m 25 q) place) s s2 → K s2) → z_X8_visitRow zv N 0 (nI place) (some t) (nI r) s K)
    {K : St → Prop} (h : ∀ s, RVs s cc F p2 p3 p4 ((ixE m u t k s_ told E 0 none).foldl (stEv cc F p2 p3 vf) rs) → KV cc σ s → KH (Apl o (m 25 q) place) σ s → K s) : z_X8_visitEntries zv N 0 (nI place) (some t) (some k) σ K := by
  have h1 := Wt.nt
  have hx6 := Wx.1
  obtain ⟨ht', hc'⟩ := Wx.2 k hk
  rw [ht] at ht' hc'
  have hcl := Wt.cl ht'
  have h3 := Wt.2.2.2.1 t (by omega)
  have h40 := ent_len40 Wt ht' hc'
  have hER : ∀ r ∈ ent m u t (m 15 k), r < m 3 t := fun r hr => by
    have := (mem_eN (Wt.vg ht' hc') (Nat.le_refl 40)).mp (ent_eN (m := m) (u := u) (t := t) (c := m 15 k) ▸ hr)
    exact Wt.th_lt (by omega) this.1 this.2
  have hEV : ∀ r ∈ ent m u t (m 15 k), ∃ v, v < 100 ∧ vl u t r (m 15 k) = nI v := fun r hr => by
    have := (mem_eN (Wt.vg ht' hc') (Nat.le_refl 40)).mp (ent_eN (m := m) (u := u) (t := t) (c := m 15 k) ▸ hr)
    exact Wt.vg ht' hc' r this.1 this.2
  have XOs : ∀ s, SS m u s → XO s k t (m 15 k) (ent m u t (m 15 k)) ∧ sP s 3 k 0 0 = nI k := fun s S => by
    have X := S.2.2.1.2.2.2 k hk
    have Y := X.xo
    rw [ht] at Y
    exact ⟨Y, X.1⟩
  have hls : lsM s_ told < 1000 := by
    unfold lsM
    split
    · omega
    · split <;> omega
  have hfl := ff_le (u := u) (t := t) (c := m 15 k) (E := ent m u t (m 15 k)) (l := lsM s_ told)
  obtain ⟨X0, _⟩ := XOs σ V.1
  simp only [z_X8_visitEntries, hG, hL, u_br_True, u_br_False, u_jn_u, u_lt_u, u_nn_s, u_brn_s, u_brn_n, z_X3_size]
  refine c_first hN X0 (V.1.2.1.2.2.2 t ht').tc h3 h40 (by omega) hER hEV (by omega) ?_
  have hst : (ixE m u t k s_ told E 0 none).foldl (stEv cc F p2 p3 vf) rs = (ixE m u t k s_ told E (ff u t (m 15 k) (ent m u t (m 15 k)) (lsM s_ told)) none).foldl (stEv cc F p2 p3 vf) rs := by
    congr 1
    unfold ixE
    rw [Nat.sub_zero, show (ent m u t (m 15 k)).length = ff u t (m 15 k) (ent m u t (m 15 k)) (lsM s_ told) + ((ent m u t (m 15 k)).length - ff u t (m 15 k) (ent m u t (m 15 k)) (lsM s_ told)) by omega, ixR_no (fun i _ hi => ?_)]
    · congr 1 <;> omega
    · exact hd_lt hs (ff_lo (by omega))
  rw [hst] at h
  generalize hfin : (ixE m u t k s_ told E (ff u t (m 15 k) (ent m u t (m 15 k)) (lsM s_ told)) none).foldl (stEv cc F p2 p3 vf) rs = fin at h
  generalize hff : ff u t (m 15 k) (ent m u t (m 15 k)) (lsM s_ told) = f0 at *
  refine fx3_g (γ := Nat × Option Nat × RSt) (fun γ x6 x7 s => f0 ≤ γ.1 ∧ γ.1 ≤ (ent m u t (m 15 k)).length ∧ x6 = lfC k γ.2.1 ∧ (∀ x, γ.2.1 = some x → x < 6) ∧ x7 = nI γ.1 ∧ RVs s cc F p2 p3 p4 γ.2.2 ∧ KV cc σ s ∧ KH (Apl o (m 25 q) place) σ s ∧ (ixE m u t k s_ told E γ.1 γ.2.1).foldl (stEv cc F p2 p3 vf) γ.2.2 = fin) (fun γ => (ent m u t (m 15 k)).length - γ.1) (fun self γ x6 x7 s hI hself => ?_) N (f0, none, rs) _ _ _ ⟨Nat.le_refl _, hfl, rfl, (fun x hx => by cases hx), rfl, R, KV.refl, KH.refl, hfin⟩ (by simp only; omega)
  obtain ⟨j, lf, rs'⟩ := γ
  obtain ⟨i1, i2, rfl, i4, rfl, i6, i7, i8, i9⟩ := hI
  simp only at i1 i2 i4 i6 i9
  have V' := V.kv i7 i8
  obtain ⟨X', e0'⟩ := XOs s V'.1
  have T' := (V'.1.2.1.2.2.2 t ht').tc
  have e4 := X'.2.2.1
  -- the end
  have fin_ : (ixR t k (min f0 ((ent m u t (m 15 k)).length - 1)) (ent m u t (m 15 k)).length (fun j => (ent m u t (m 15 k)).getD j 0) (fun r => hold s_ told (cvl u t r (m 15 k))) E 0 (ent m u t (m 15 k)).length lf).foldl (stEv cc F p2 p3 vf) rs' = fin →
      br (lfC k lf = mI) (z_X11_leafKey N (some k) (if sP s 3 k 4 0 - nI 1 < nI f0 then sP s 3 k 4 0 - nI 1 else nI f0) s fun v10 => z_X8_readOne N 0 v10 s fun h11 => K h11) (K s) := by
    intro hf
    cases lf with
    | some x =>
      have hx := i4 x rfl
      rw [ixR_0, if_neg (fun h => by cases h.1)] at hf
      rw [u_br_f (by simp only [lfC]; rw [u_m1 (by omega)]; exact fun h => h)]
      exact h s (hf ▸ i6) i7 i8
    | none =>
      rw [ixR_0, if_pos ⟨rfl, hlen⟩] at hf
      rw [u_br_t (show lfC k none = mI from rfl)]
      have e5 : (if sP s 3 k 4 0 - nI 1 < nI f0 then sP s 3 k 4 0 - nI 1 else nI f0) = nI (min f0 ((ent m u t (m 15 k)).length - 1)) := by
        rw [e4, u_n_sub (by omega)]
        by_cases hlt : (ent m u t (m 15 k)).length - 1 < f0
        · rw [if_pos (by rw [u_n_lt (by omega) (by omega)]; exact hlt), Nat.min_eq_right (by omega)]
        · rw [if_neg (by rw [u_n_lt (by omega) (by omega)]; exact hlt), Nat.min_eq_left (by omega)]
      rw [e5, c_leafKey e0' (by omega) (by omega)]
      refine c_read hN (vf := vf) i6 (by omega) (fun s3 a1 a2 a3 => h s3 ?_ (i7.trans a2) (i8.trans (a3 _)))
      rw [← hf]
      exact a1
  simp only [↓li_m1, li_0, li_1, li_2, li_3, li_4, li_5, li_6, li_7, li_8, li_9, li_10, li_12, li_13, li_26, li_40, li_60, li_61, li_62, li_99, li_100, li_102, li_106, li_114, li_112, li_117, li_108, li_103, li_120, li_300, li_360, li_512, li_1000] at fin_ ⊢
  by_cases hjl : j < (ent m u t (m 15 k)).length
  · obtain ⟨ev, ev99⟩ := ent_v Wt ht' hc' hjl
    obtain ⟨er3, erth, er40⟩ := ent_m Wt ht' hc' hjl
    rw [e4, u_br_f (by rw [u_n_le (by omega) (by omega)]; omega), c_valAt X' T' h3 h40 (by omega) hjl er3, ev]
    have hlo : lsM s_ told ≤ vE m u t (m 15 k) j := ff_hi Wt ht' hc' (by rw [hff]; exact i1) hjl
    by_cases hgt : gMx s_ told < nI (vE m u t (m 15 k) j)
    · rw [u_br_t hgt]
      rw [e4] at fin_
      refine fin_ ?_
      rw [← i9]
      congr 1
      unfold ixE
      rw [hff, show (ent m u t (m 15 k)).length - j = ((ent m u t (m 15 k)).length - j) + 0 by omega, ixR_no (fun i h1 h2 => ?_), show j + ((ent m u t (m 15 k)).length - j) = (ent m u t (m 15 k)).length by omega]
      obtain ⟨_, fv⟩ := ent_v Wt ht' hc' (j := i) (by omega)
      exact hd_gt hs fv hto (gt_up hs ev99 fv hto hgt (ent_up Wt ht' hc' h1 (by omega)))
    · rw [u_br_f hgt, c_leafKey e0' (by omega) (by omega)]
      have hyes := hd_le hs ev99 hto hgt hlo
      have e9 : (ixE m u t k s_ told E j lf).foldl (stEv cc F p2 p3 vf) rs' = (ixE m u t k s_ told E (j + 1) (some (j / 8))).foldl (stEv cc F p2 p3 vf) ((E ((ent m u t (m 15 k)).getD j 0)).foldl (stEv cc F p2 p3 vf) (stEv cc F p2 p3 vf ((if lf = some (j / 8) then [] else [Sum.inl (100 * (3 + k) + j / 8)]).foldl (stEv cc F p2 p3 vf) rs') (.inl (100 * t + (ent m u t (m 15 k)).getD j 0 / 4)))) := by
        unfold ixE
        rw [show (ent m u t (m 15 k)).length - j = ((ent m u t (m 15 k)).length - (j + 1)) + 1 by omega, ixR_yes (hd := fun r => hold s_ told (cvl u t r (m 15 k))) (En := fun j => (ent m u t (m 15 k)).getD j 0) hyes, List.foldl_append, List.foldl_append, List.foldl_cons]
      rw [i9] at e9
      have go : ∀ s1 rs1, RVs s1 cc F p2 p3 p4 rs1 → KV cc s s1 → KH (Apl o (m 25 q) place) s s1 → rs1 = (if lf = some (j / 8) then [] else [Sum.inl (100 * (3 + k) + j / 8)]).foldl (stEv cc F p2 p3 vf) rs' →
          z_X3_rowAt N k (nI j) s1 fun v16 => z_X11_pageKey N (some t) v16 s1 fun v17 => z_X8_readOne N 0 v17 s1 fun h18 => z_X8_visitRow zv N 0 (nI place) (some t) v16 h18 fun h19 => self (nI (100 * (3 + k) + j / 8)) (nI (j + 1)) h19 := by
        intro s1 rs1 a1 a2 a3 a4
        have V1 := V'.kv a2 a3
        obtain ⟨X1, _⟩ := XOs s1 V1.1
        rw [c_rowAt X1 h40 hjl, c_pageKey (V1.1.2.1.2.2.2 t ht').1 (by omega) er40]
        refine c_read hN (vf := vf) a1 (by omega) (fun s2 b1 b2 b3 => ?_)
        refine hrow _ er3 s2 _ b1 ((i7.trans a2).trans b2) (V1.kv b2 (b3 _)) (fun s3 c1 c2 c3 => ?_)
        refine hself (j + 1, some (j / 8), _) _ _ s3 ⟨by simp only; omega, by simp only; omega, rfl, (fun x hx => by simp only [Option.some.injEq] at hx; omega), rfl, c1, ((i7.trans a2).trans b2).trans c2, ((i8.trans a3).trans (b3 _)).trans c3, ?_⟩ (by simp only; omega)
        simp only
        rw [a4, ← e9]
      by_cases hlf : lf = some (j / 8)
      · subst hlf
        have e7 : lfC k (some (j / 8)) = nI (100 * (3 + k) + j / 8) := rfl
        rw [e7, u_br_t rfl]
        simp only [nI_add]
        exact go s rs' i6 KV.refl KH.refl (by rw [if_pos rfl]; rfl)
      · have e7 : ¬ nI (100 * (3 + k) + j / 8) = lfC k lf := by
          cases lf with
          | none => simp only [lfC]; rw [u_m1 (by omega)]; exact fun h => h
          | some x =>
            have hx := i4 x rfl
            simp only [lfC]
            rw [u_n_eq (by omega) (by omega)]
            exact fun h => hlf (by rw [show x = j / 8 by omega])
        rw [u_br_f e7]
        refine c_read hN (vf := vf) i6 (by omega) (fun s1 a1 a2 a3 => ?_)
        simp only [nI_add]
        exact go s1 _ a1 a2 (a3 _) (by rw [if_neg hlf]; rfl)
  · have hj2 : j = (ent m u t (m 15 k)).length := by omega
    rw [e4, u_br_t (by rw [u_n_le (by omega) (by omega)]; omega)]
    rw [e4] at fin_
    refine fin_ ?_
    rw [← i9]
    congr 1
    unfold ixE
    rw [hff, ← hj2, Nat.sub_self]
end CENTRIES
