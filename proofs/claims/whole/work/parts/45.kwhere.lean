section KWHERE
variable {m : Nat → Nat → Nat} {u w : Nat → Int32} {L : List Nat} {σ σ' : St} {N kk q a b s v : Nat}
theorem sP_o {k i f j k' i' f' j' : Nat} {v : Int32} (h : f' ≠ f) : sP (stP σ k i f j v) k' i' f' j' = sP σ k' i' f' j' := by rw [sP_stP, if_neg (fun e => h e.2.2.1)]
theorem sP_e {k i f j : Nat} {v : Int32} : sP (stP σ k i f j v) k i f j = v := by rw [sP_stP, if_pos ⟨rfl, rfl, rfl, rfl⟩]
theorem CA_wh (C : CA m u w L σ) (WQ' : WQ m) (hq : q < m 24 0) (hn4 : m 27 q < 4) : CA (wh m q a b s v) u w L (stP (stP (stQ (sN1 σ (nI a) (nI b) (nI s) (nI v)) 7 q 2 (m 27 q) (some (sV σ 1))) 7 q 3 0 (nI (m 27 q + 1))) 2 0 5 0 (nI 0)) := by
  obtain ⟨C0', CT', CX', CC', CQ', CD', CP'⟩ := C
  refine ⟨?_, ?_, ?_, ?_, ?_, ?_, CP_0 (by simp [wh, mu])⟩
  · rw [C0_st, C0_st, C0_stQ (by decide), sN1, C0_stN (by decide)]; exact C0'
  · simp (disch := decide) only [wh, sN1, CT_mu, CT_st, CT_stQ, CT_stN]; exact CT'
  · simp (disch := decide) only [wh, sN1, CX_mu, CX_st, CX_stQ, CX_stN]; exact CX'
  · simp (disch := decide) only [wh, sN1, CC_mu, CC_st, CC_stQ, CC_stN]; exact CC'
  · exact CQ_wh CQ' WQ' hq hn4
  · simp (disch := decide) only [wh, CD_mu]
    refine CD_close ?_
    simp (disch := decide) only [sN1, CD_st, CD_stQ, CD_stN]; exact CD'
theorem RI_wh (R : RI m u w L σ) : RI (wh m q a b s v) u w L (stP (stP (stP (stP (stP (stP (stP σ 12 0 0 0 (nI 0)) 12 0 16 0 (nI 0)) 12 0 28 (4 * q + m 27 q) (nI a)) 12 0 29 (4 * q + m 27 q) (nI b)) 12 0 30 (4 * q + m 27 q) (nI s)) 12 0 31 (4 * q + m 27 q) (nI v)) 12 0 27 q (nI (m 27 q + 1))) :=
  ((((((R.tmp (f := 0) rfl).set (f := 16) rfl).set (f := 28) rfl).set (f := 29) rfl).set (f := 30) rfl).set (f := 31) rfl).set (f := 27) rfl
theorem WA_wh (W : WA m u L kk) (hk : kk < 512) (hq : q < m 24 0) (hn4 : m 27 q < 4) (ha : a < m 25 q) (hb : b < m 2 (tq m q a)) (hs : sg s) (hv : v ≤ 99) : WA (wh m q a b s v) u L (kk + 1) := by
  obtain ⟨WT', WX', WC', WQ', WD'⟩ := W
  refine ⟨?_, ?_, ?_, ?_, ?_⟩
  · simp (disch := decide) only [wh, WT_mu]; exact WT'
  · simp (disch := decide) only [wh, WX_mu]; exact WX'
  · simp (disch := decide) only [wh, WC_mu]; exact WC'
  · exact WQ_wh WQ' hq hn4 ha hb hs hv
  · simp (disch := decide) only [wh, WD_mu]; exact WD_close (WD_up WD' hk)
theorem k_where (I : Inv kk σ) (hk : kk < 512) (p p2 p3 p4 p5 : Int32) {T : Int32 → Int32 → St → Prop} (hT : ∀ code b σ2, G (kk + 1) code b σ2 → T code b σ2) : z_L_where N (some 0) p p2 p3 p4 p5 σ (fun code σ1 => z_X12_where N 0 p p2 p3 p4 p5 σ1 (fun b σ2 => T code b σ2)) := by
  have I0 := I
  obtain ⟨m, u, w, L, R, ⟨C0', CT', CX', CC', CQ', CD', CP'⟩, WT', WX', WC', WQ', WD'⟩ := I
  rcases u_io p (m 24 0) with ⟨q, hq, _, rfl⟩ | hp
  · by_cases hbad : Bad2 m q p2 p3 p4 p5
    · simp only [z_L_where, u_br_True, u_br_False, u_jn_u, u_lt_u, u_nn_s, u_brn_s, u_brn_n, c_where2 CQ' CT' WQ' WT' hq hbad, r_where2 R WQ' WT' hq hbad, li_1, li_2, li_3]
      exact Or.inr (Or.inl ⟨trivial, hT _ _ _ (G_exc (c := 2) I0 hk (by decide) (by decide))⟩)
    · simp only [Bad2, not_or] at hbad
      obtain ⟨h1, h2, h3⟩ := hbad
      have h1 := Classical.byContradiction (fun h => h1 h)
      obtain ⟨a, b, ha, hb, rfl, rfl⟩ := h1
      obtain ⟨s, hs, rfl⟩ : ∃ s, sg s ∧ p4 = nI s := by
        by_cases a1 : p4 = nI 61
        · exact ⟨61, Or.inl rfl, a1⟩
        · by_cases a2 : p4 = nI 60
          · exact ⟨60, Or.inr (Or.inl rfl), a2⟩
          · by_cases a3 : p4 = nI 62
            · exact ⟨62, Or.inr (Or.inr rfl), a3⟩
            · exact absurd ⟨a1, a2, a3⟩ h2
      rcases u_io p5 100 with ⟨v, hv, _, rfl⟩ | h
      · have w3 := WQ'.2.2 q hq
        by_cases hn : m 27 q = 4
        · simp only [z_L_where, u_br_True, u_br_False, u_jn_u, u_lt_u, u_nn_s, u_brn_s, u_brn_n, c_where3 CQ' CT' WQ' WT' hq ha hb hs (by omega : v ≤ 99) hn, r_where3 R WQ' WT' hq ha hb hs (by omega : v ≤ 99) hn, li_1, li_2, li_3]
          exact Or.inr (Or.inr ⟨trivial, hT _ _ _ (G_exc (c := 3) I0 hk (by decide) (by decide))⟩)
        · have hn4 : m 27 q < 4 := by omega
          simp only [z_L_where, u_br_True, u_br_False, u_jn_u, u_lt_u, u_nn_s, u_brn_s, u_brn_n, c_where C0' CQ' CT' WQ' WT' hq ha hb hs (by omega : v ≤ 99) hn4, li_0, wA_l (by decide : 0 < 1), l0c]
          have Rc : RI m u w L (stP (stP (stQ (sN1 σ (nI a) (nI b) (nI s) (nI v)) 7 q 2 (m 27 q) (some (sV σ 1))) 7 q 3 0 (nI (m 27 q + 1))) 2 0 5 0 (nI 0)) := R.km ((((KM.stN (by decide)).trans KM.stQ).trans (KM.st (by decide))).trans (KM.st (by decide)))
          rw [r_where (Rc.km KM.stL) WQ' WT' hq ha hb hs (by omega : v ≤ 99) hn4]
          refine hT _ _ _ (fin (m := wh m q a b s v) (u := u) (w := w) (L := L) (σc := stP (stP (stQ (sN1 σ (nI a) (nI b) (nI s) (nI v)) 7 q 2 (m 27 q) (some (sV σ 1))) 7 q 3 0 (nI (m 27 q + 1))) 2 0 5 0 (nI 0)) ?_ ?_ (((((((KC.st).trans KC.st).trans KC.st).trans KC.st).trans KC.st).trans KC.st).trans KC.st) ?_ (by simp (disch := decide) only [sP_o, sP_e]))
          · exact CA_wh ⟨C0', CT', CX', CC', CQ', CD', CP'⟩ WQ' hq hn4
          · exact RI_wh (Rc.km KM.stL)
          · exact WA_wh ⟨WT', WX', WC', WQ', WD'⟩ hk hq hn4 ha hb hs (by omega)
      · exact absurd h h3
  · simp only [z_L_where, z_X11_where, u_br_True, u_br_False, u_jn_u, u_lt_u, u_nn_s, u_brn_s, u_brn_n, c_needQO CQ' WQ' hp, r_where1 R WQ' hp, li_1, li_2, li_3]
    exact Or.inl ⟨trivial, hT _ _ _ (G_exc (c := 1) I0 hk (by decide) (by decide))⟩
end KWHERE
