section CVISIT
variable {m : Nat → Nat → Nat} {u w : Nat → Int32} {L : List Nat} {σ σ' s s2 σ1 : St} {N kk n q p d ban t c k a x i place v told F key p3 p4 r e : Nat} {g o : Nat → Nat} {A : Nat → Bool} {cc : Option Nat} {p2 : Int32} {rs : RSt} {vf : (Nat → Nat) → Int32} {E : Nat → List (Nat ⊕ (Nat → Nat))} {itm : Nat → (Nat → List (Nat ⊕ (Nat → Nat))) → List (Nat ⊕ (Nat → Nat))}
/-- the events of a run from a place on; itm gives a place's from its rows' -/
def evG (m : Nat → Nat → Nat) (u : Nat → Int32) (q : Nat) (o : Nat → Nat) (itm : Nat → (Nat → Nat) → (Nat → List (Nat ⊕ (Nat → Nat))) → List (Nat ⊕ (Nat → Nat))) : Nat → Nat → (Nat → Nat) → List (Nat ⊕ (Nat → Nat))
  | 0, _, g => [.inr g]
  | e + 1, place, g => itm place g (fun r => if fitM m u q (gU g (o place) r) (withP o place) (o place) = true then evG m u q o itm e (place + 1) (gU g (o place) r) else [])
/-- a place whose rows are read page by page -/
theorem c_visP (hN : 1000000 ≤ N) (W : WQ m) (Wt : WT m u) (hq : q < m 24 0) (ho : PN (m 25 q) o) (hpl : place < m 25 q) (R : RVs σ cc F p2 p3 p4 rs) (V : VS m u q i o σ place g) (hw : sP σ 5 i 3 place = nI 102) (hst : sQ σ 8 0 1 0 = none ∨ (sQ σ 8 0 1 0 = some 0 ∧ sP σ 5 i 5 place = mI))
    (hrow : ∀ r, r < m 3 (tq m q (o place)) → ∀ s rs', RVs s cc F p2 p3 p4 rs' → KV cc σ s → VS m u q i o s place g → ∀ {K : St → Prop}, (∀ s2, RVs s2 cc F p2 p3 p4 ((E r).foldl (stEv cc F p2 p3 vf) rs') → KV cc s s2 → KH (Apl o (m 25 q) place) s s2 → K s2) → z_X8_visitRow (z_X8_visit N d) N 0 (nI place) (some (tq m q (o place))) (nI r) s K)
    {K : St → Prop} (h : ∀ s, RVs s cc F p2 p3 p4 ((pgE (tq m q (o place)) E (m 3 (tq m q (o place)))).foldl (stEv cc F p2 p3 vf) rs) → KV cc σ s → KH (Apl o (m 25 q) place) σ s → K s) : z_X8_visit N (d + 1) 0 (nI place) σ K := by
  have w3 := W.2.2 q hq
  have hop := ho.1 place hpl
  have ht : tq m q (o place) < m 1 0 := w3.2.2.2.1 _ hop
  have n102 : (narrow .char (.int (nI 102)) = .int (nI 102)) = True := eq_true rfl
  have mlt : (mI < nI 0) = True := eq_true (by decide)
  have V0 := V
  obtain ⟨v1, v2, v3, v4, v5, v6, v7⟩ := V
  have cp := fun {K : St → Prop} => c_pages (K := K) (N := N) hN W Wt ht R V0 hrow
  simp (disch := omega) only [z_X8_visit, v2, v3, u_br_True, u_br_False, u_jn_u, u_lt_u, u_nn_s, u_brn_s, u_brn_n, nI_add, u_n_mul, u_n_lt, u_n_le, u_n_eq, u_n_sub, u_n_div, u_n_mod, nI_clamp, u_m1, u_m1q, u_wI_n, u_wA_n, u_br_t, u_br_f, ↓li_m1, li_0, li_1, li_2, li_3, li_4, li_5, li_6, li_7, li_8, li_9, li_10, li_12, li_13, li_26, li_40, li_60, li_61, li_62, li_99, li_100, li_102, li_106, li_114, li_112, li_117, li_108, li_103, li_120, li_300, li_360, li_512, li_1000, z_X5_size, v4.1, c_posQ v4 w3.1 hpl, c_tabOf v1.2.2.2 hq (by omega : o place < 3), if_pos hop]
  rcases hst with hst | ⟨hst, hix⟩
  · simp (disch := omega) only [hst, z_X5_wayAt, hw, n102, u_okT, u_br_True, u_br_False, u_jn_u, u_lt_u, u_nn_s, u_brn_s, u_brn_n, nI_add, u_n_mul, u_n_lt, u_n_le, u_n_eq, u_n_sub, u_n_div, u_n_mod, nI_clamp, u_m1, u_m1q, u_wI_n, u_wA_n, u_br_t, u_br_f, ↓li_m1, li_0, li_1, li_2, li_3, li_4, li_5, li_6, li_7, li_8, li_9, li_10, li_12, li_13, li_26, li_40, li_60, li_61, li_62, li_99, li_100, li_102, li_106, li_114, li_112, li_117, li_108, li_103, li_120, li_300, li_360, li_512, li_1000]
    exact cp h
  · simp (disch := omega) only [hst, z_X5_wayAt, z_X5_indexAt, hix, z_X9_indexAt, mlt, hw, n102, u_okT, u_br_True, u_br_False, u_jn_u, u_lt_u, u_nn_s, u_brn_s, u_brn_n, nI_add, u_n_mul, u_n_lt, u_n_le, u_n_eq, u_n_sub, u_n_div, u_n_mod, nI_clamp, u_m1, u_m1q, u_wI_n, u_wA_n, u_br_t, u_br_f, ↓li_m1, li_0, li_1, li_2, li_3, li_4, li_5, li_6, li_7, li_8, li_9, li_10, li_12, li_13, li_26, li_40, li_60, li_61, li_62, li_99, li_100, li_102, li_106, li_114, li_112, li_117, li_108, li_103, li_120, li_300, li_360, li_512, li_1000]
    exact cp h
/-- all places -/
theorem c_visG {itm : Nat → (Nat → Nat) → (Nat → List (Nat ⊕ (Nat → Nat))) → List (Nat ⊕ (Nat → Nat))} {Q : St → Prop} (hQ : ∀ s s', Q s → KV cc s s' → Q s') (hN : 1000000 ≤ N) (W : WQ m) (Wt : WT m u) (hq : q < m 24 0) (ho : PN (m 25 q) o) (hp3 : p3 < m 25 q) (hp4 : p4 < 3) (hvf : ∀ g, vf g = vl u (tq m q p3) (g p3) p4)
    (hitm : ∀ d place g σ rs, place < m 25 q → RVs σ cc F p2 p3 p4 rs → VS m u q i o σ place g → Q σ → ∀ (E : Nat → List (Nat ⊕ (Nat → Nat))), (∀ r, r < 40 → ∀ s rs', RVs s cc F p2 p3 p4 rs' → VS m u q i o s place g → Q s → ∀ {K : St → Prop}, (∀ s2, RVs s2 cc F p2 p3 p4 ((E r).foldl (stEv cc F p2 p3 vf) rs') → KV cc s s2 → KH (Apl o (m 25 q) place) s s2 → K s2) → z_X8_visitRow (z_X8_visit N d) N 0 (nI place) (some (tq m q (o place))) (nI r) s K) →
      ∀ {K : St → Prop}, (∀ s, RVs s cc F p2 p3 p4 ((itm place g E).foldl (stEv cc F p2 p3 vf) rs) → KV cc σ s → KH (Apl o (m 25 q) place) σ s → K s) → z_X8_visit N (d + 1) 0 (nI place) σ K) :
    ∀ e place g, place + (e + 1) = m 25 q → ∀ d, e < d → ∀ σ rs, RVs σ cc F p2 p3 p4 rs → VS m u q i o σ place g → Q σ → ∀ {K : St → Prop}, (∀ s, RVs s cc F p2 p3 p4 ((evG m u q o itm (e + 1) place g).foldl (stEv cc F p2 p3 vf) rs) → KV cc σ s → KH (Apl o (m 25 q) place) σ s → K s) → z_X8_visit N d 0 (nI place) σ K := by
  intro e
  induction e with
  | zero =>
    intro place g hpe d hd σ rs R V hQσ K h
    obtain ⟨d', rfl⟩ : ∃ d', d = d' + 1 := ⟨d - 1, by omega⟩
    refine hitm d' place g σ rs (by omega) R V hQσ (fun r => if fitM m u q (gU g (o place) r) (withP o place) (o place) = true then evG m u q o itm 0 (place + 1) (gU g (o place) r) else []) (fun r hr s rs' R' V' Q' {K} hK => ?_) h
    exact c_row hN W Wt hq ho (by omega) hr R' V' hp3 hp4 hvf (sub := evG m u q o itm 0 (place + 1) (gU g (o place) r)) (fun _ => rfl) (fun hlt => by omega) hK
  | succ e ih =>
    intro place g hpe d hd σ rs R V hQσ K h
    obtain ⟨d', rfl⟩ : ∃ d', d = d' + 1 := ⟨d - 1, by omega⟩
    refine hitm d' place g σ rs (by omega) R V hQσ (fun r => if fitM m u q (gU g (o place) r) (withP o place) (o place) = true then evG m u q o itm (e + 1) (place + 1) (gU g (o place) r) else []) (fun r hr s rs' R' V' Q' {K} hK => ?_) h
    refine c_row hN W Wt hq ho (by omega) hr R' V' hp3 hp4 hvf (sub := evG m u q o itm (e + 1) (place + 1) (gU g (o place) r)) (fun hl => by omega) (fun hlt s3 R3 k3 V3 {K3} h3 => ?_) hK
    exact ih (place + 1) (gU g (o place) r) (by omega) d' (by omega) s3 rs' R3 V3 (hQ _ _ Q' k3) h3
end CVISIT
