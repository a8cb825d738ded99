section CPAGES
variable {m : Nat → Nat → Nat} {u w : Nat → Int32} {L : List Nat} {σ σ' s s2 σ1 : St} {N kk n q p d ban t c k a x i place v told F key p3 p4 r : Nat} {g o : Nat → Nat} {A : Nat → Bool} {cc : Option Nat} {p2 : Int32} {rs : RSt} {vf : (Nat → Nat) → Int32} {sub : List (Nat ⊕ (Nat → Nat))} {zv : Nat → Int32 → St → (St → Prop) → Prop} {E : Nat → List (Nat ⊕ (Nat → Nat))}
def pgE (t : Nat) (E : Nat → List (Nat ⊕ (Nat → Nat))) (n : Nat) : List (Nat ⊕ (Nat → Nat)) := (List.range n).flatMap (fun r => (if r % 4 = 0 then [Sum.inl (100 * t + r / 4)] else []) ++ E r)
theorem pgE_s : pgE t E (n + 1) = pgE t E n ++ ((if n % 4 = 0 then [Sum.inl (100 * t + n / 4)] else []) ++ E n) := by
  simp [pgE, List.range_succ, List.flatMap_append]
theorem c_pageKey (h : sP σ 10 t 0 0 = nI t) (ht : t < 3) (hr : r < 40) {K : Int32 → Prop} : z_X11_pageKey N (some t) (nI r) σ K = K (nI (100 * t + r / 4)) := by
  simp (disch := omega) only [z_X11_pageKey, z_X10_number, u_br_True, u_br_False, u_jn_u, u_lt_u, u_nn_s, u_brn_s, u_brn_n, nI_add, u_n_mul, u_n_lt, u_n_le, u_n_eq, u_n_sub, u_n_div, u_n_mod, nI_clamp, u_m1, u_m1q, u_wI_n, u_wA_n, u_br_t, u_br_f, ↓li_m1, li_0, li_1, li_2, li_3, li_4, li_5, li_6, li_7, li_8, li_9, li_10, li_12, li_13, li_26, li_40, li_60, li_61, li_62, li_99, li_100, li_102, li_106, li_114, li_112, li_117, li_108, li_103, li_120, li_300, li_360, li_512, li_1000, h]
theorem c_pages (hN : 1000000 ≤ N) (W : WQ m) (Wt : WT m u) (ht : t < m 1 0) (R : RVs σ cc F p2 p3 p4 rs) (V : VS m u q i o σ place g)
    (hrow : ∀ r, r < m 3 t → ∀ s rs', RVs s cc F p2 p3 p4 rs' → KV cc σ s → VS m u q i o s place g → ∀ {K : St → Prop}, (∀ s2, RVs s2 cc F p2 p3 p4 ((E r).foldl (stEv cc F p2 p3 vf) rs') → KV cc s s2 → KH (Apl o (m 25 q) place) s s2 → K s2) → z_X8_visitRow zv N 0 (nI place) (some t) (nI r) s K)
    {K : St → Prop} (h : ∀ s, RVs s cc F p2 p3 p4 ((pgE t E (m 3 t)).foldl (stEv cc F p2 p3 vf) rs) → KV cc σ s → KH (Apl o (m 25 q) place) σ s → K s) : z_X8_visitPages zv N 0 (nI place) (some t) σ K := by
  have h1 := Wt.nt
  have h3 := Wt.2.2.2.1 t (by omega)
  have T := V.1.2.1.2.2.2 _ ht
  have e40 : (if (40 : Int32) < nI (m 3 t) then (40 : Int32) else nI (m 3 t)) = nI (m 3 t) := by
    rw [if_neg (fun e => by rw [li_40, u_n_lt (by omega) (by omega)] at e; omega)]
  simp (disch := omega) only [z_X8_visitPages, z_X10_rowsEver, u_br_True, u_br_False, u_jn_u, u_lt_u, u_nn_s, u_brn_s, u_brn_n, T.2.2.1, e40, li_0]
  refine for_u (m 3 t) (by omega) (by omega) (fun j s => RVs s cc F p2 p3 p4 ((pgE t E j).foldl (stEv cc F p2 p3 vf) rs) ∧ KV cc σ s ∧ KH (Apl o (m 25 q) place) σ s) 0 (by omega) (fun self j s hj hI hs => ?_) ⟨R, KV.refl, KH.refl⟩
  obtain ⟨i1, i2, i3⟩ := hI
  have V' := V.kv i2 i3
  have T' := V'.1.2.1.2.2.2 _ ht
  by_cases hl : j < m 3 t
  · have fin : ∀ s1 rs1, RVs s1 cc F p2 p3 p4 rs1 → KV cc s s1 → KH (Apl o (m 25 q) place) s s1 → rs1 = (if j % 4 = 0 then [Sum.inl (100 * t + j / 4)] else []).foldl (stEv cc F p2 p3 vf) ((pgE t E j).foldl (stEv cc F p2 p3 vf) rs) → z_X8_visitRow zv N 0 (nI place) (some t) (nI j) s1 (fun s2 => self (nI (j + 1)) s2) := by
      intro s1 rs1 a1 a2 a3 a4
      refine hrow j hl s1 rs1 a1 (i2.trans a2) (V'.kv a2 a3) (fun s2 b1 b2 b3 => hs _ hl ⟨?_, (i2.trans a2).trans b2, (i3.trans a3).trans b3⟩)
      rw [pgE_s, List.foldl_append, List.foldl_append, ← a4]
      exact b1
    by_cases h4 : j % 4 = 0
    · have h4' : j - j / 4 * 4 = 0 := by omega
      simp (disch := omega) only [u_br_True, u_br_False, u_jn_u, u_lt_u, u_nn_s, u_brn_s, u_brn_n, nI_add, u_n_mul, u_n_lt, u_n_le, u_n_eq, u_n_sub, u_n_div, u_n_mod, nI_clamp, u_m1, u_m1q, u_wI_n, u_wA_n, u_br_t, u_br_f, ↓li_m1, li_0, li_1, li_2, li_3, li_4, li_5, li_6, li_7, li_8, li_9, li_10, li_12, li_13, li_26, li_40, li_60, li_61, li_62, li_99, li_100, li_102, li_106, li_114, li_112, li_117, li_108, li_103, li_120, li_300, li_360, li_512, li_1000, c_pageKey T'.1 (by omega : t < 3) (by omega : j < 40)]
      refine c_read hN (vf := vf) i1 (by omega) (fun s1 a1 a2 a3 => fin s1 _ a1 a2 (a3 _) ?_)
      rw [if_pos h4]
      rfl
    · have h4' : ¬ j - j / 4 * 4 = 0 := by omega
      simp (disch := omega) only [u_br_True, u_br_False, u_jn_u, u_lt_u, u_nn_s, u_brn_s, u_brn_n, nI_add, u_n_mul, u_n_lt, u_n_le, u_n_eq, u_n_sub, u_n_div, u_n_mod, nI_clamp, u_m1, u_m1q, u_wI_n, u_wA_n, u_br_t, u_br_f, ↓li_m1, li_0, li_1, li_2, li_3, li_4, li_5, li_6, li_7, li_8, li_9, li_10, li_12, li_13, li_26, li_40, li_60, li_61, li_62, li_99, li_100, li_102, li_106, li_114, li_112, li_117, li_108, li_103, li_120, li_300, li_360, li_512, li_1000]
      refine fin s _ i1 KV.refl KH.refl ?_
      rw [if_neg h4]
      rfl
  · have hj2 : j = m 3 t := by omega
    subst hj2
    simp (disch := omega) only [u_br_True, u_br_False, u_jn_u, u_lt_u, u_nn_s, u_brn_s, u_brn_n, nI_add, u_n_mul, u_n_lt, u_n_le, u_n_eq, u_n_sub, u_n_div, u_n_mod, nI_clamp, u_m1, u_m1q, u_wI_n, u_wA_n, u_br_t, u_br_f, ↓li_m1, li_0, li_1, li_2, li_3, li_4, li_5, li_6, li_7, li_8, li_9, li_10, li_12, li_13, li_26, li_40, li_60, li_61, li_62, li_99, li_100, li_102, li_106, li_114, li_112, li_117, li_108, li_103, li_120, li_300, li_360, li_512, li_1000]
    exact h s i1 i2 i3
end CPAGES
