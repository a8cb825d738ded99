section EVPERM
variable {m : Nat → Nat → Nat} {u : Nat → Int32} {n q p d ban t c k a x i b y place r e s_ told : Nat} {g g' h o ways : Nat → Nat}
theorem getR_ixR {t k fz len : Nat} {En : Nat → Nat} {hd : Nat → Bool} {E : Nat → List (Nat ⊕ (Nat → Nat))} : ∀ d j lf, getR (ixR t k fz len En hd E d j lf) = ((List.range' j d).filter (fun i => hd (En i))).flatMap (fun i => getR (E (En i)))
  | 0, j, lf => by
    rw [ixR_0]
    split <;> rfl
  | d + 1, j, lf => by
    have h1 : getR (ixR t k fz len En hd E d (j + 1) (some (j / 8))) = ((List.range' (j + 1) d).filter (fun i => hd (En i))).flatMap (fun i => getR (E (En i))) := getR_ixR d (j + 1) _
    have h2 : getR (ixR t k fz len En hd E d (j + 1) lf) = ((List.range' (j + 1) d).filter (fun i => hd (En i))).flatMap (fun i => getR (E (En i))) := getR_ixR d (j + 1) lf
    simp only [ixR]
    rw [List.range'_succ, List.filter_cons]
    by_cases hh : hd (En j) = true
    · rw [if_pos hh, if_pos hh, List.flatMap_cons, getR_app, getR_app, h1]
      have e1 : getR (if lf = some (j / 8) then [] else [Sum.inl (100 * (3 + k) + j / 8)]) = [] := by split <;> rfl
      rw [e1]
      rfl
    · rw [if_neg hh, if_neg hh, h2]
theorem range_map (l : List Nat) : (List.range' 0 l.length).map (fun i => l.getD i 0) = l := by
  refine List.ext_getElem (by simp) (fun i h1 h2 => ?_)
  rw [List.getElem_map, List.getElem_range', ← getD_e h2]
  congr 1
  omega
theorem own_iOn (h : okW m q ban o place y) (h5 : ¬ y < 5) (hk : wIdx m q ban o place y = some k) : ∃ c, own m q o place (y - 5) = some c ∧ m 15 k = c := by
  obtain ⟨y1, c, hc⟩ := okW_j h h5
  refine ⟨c, hc, ?_⟩
  unfold wIdx at hk
  rw [if_neg (by omega), if_neg h5, if_pos y1, hc] at hk
  exact (iOn_lt hk).2.2.1
theorem cond_iOn (h : okW m q ban o place y) (h0 : ¬ y = 0) (h5 : y < 5) (hk : wIdx m q ban o place y = some k) : m 15 k = m 29 (4 * q + (y - 1)) := by
  obtain ⟨y1, y2⟩ := okW_c h h0 h5
  unfold wIdx at hk
  rw [if_neg h0, if_pos h5, if_pos ⟨y1, y2⟩] at hk
  exact (iOn_lt hk).2.2.1
/-- a row whose entry is not wanted doesn't fit -/
theorem hd_fit (ho : PN (m 25 q) o) (hpl : place < m 25 q) (hw : okW m q ban o place y) (h0 : ¬ y = 0) (hk : wIdx m q ban o place y = some k) (hh : hold (wSg m q y) (wTo m u q o place y g) (cvl u (tq m q (o place)) r (m 15 k)) = false) (W : WQ m) (hq : q < m 24 0) : fitM m u q (gU g (o place) r) (withP o place) (o place) = false := by
  have w3 := W.2.2 q hq
  have nA : ahead o place (o place) = false := by
    cases e : ahead o place (o place) with
    | false => rfl
    | true => have := (aheadN_o ho hpl (by omega : place ≤ m 25 q)).mp e; omega
  by_cases h5 : y < 5
  · obtain ⟨y1, y2⟩ := okW_c hw h0 h5
    have e15 := cond_iOn hw h0 h5 hk
    have e1 : wSg m q y = m 30 (4 * q + (y - 1)) := by unfold wSg; rw [if_pos h5]
    have e2 : wTo m u q o place y g = m 31 (4 * q + (y - 1)) := by unfold wTo; rw [if_pos h5]
    rw [e1, e2, e15] at hh
    have e9 : cOk m u q (gU g (o place) r) (o place) (y - 1) = false := by
      unfold cOk
      rw [y2, gU_at, hh]
      simp
    unfold fitM
    rw [allN_f (by omega : y - 1 < m 27 q) e9]
    simp
  · obtain ⟨c, hc, e15⟩ := own_iOn hw h5 hk
    obtain ⟨y1, _⟩ := okW_j hw h5
    obtain ⟨c1, c2, c3, c4, c5⟩ := w3.2.2.2.2.2 (y - 5) y1
    have e1 : wSg m q y = 61 := by unfold wSg; rw [if_neg h5]
    rw [e1, e15] at hh
    have wO : withP o place (o place) = true := by simp [withP]
    have e9 : jOk m u q (gU g (o place) r) (withP o place) (o place) (y - 5) = false := by
      unfold own at hc
      by_cases hA : m 33 (3 * q + (y - 5)) = o place ∧ ahead o place (m 35 (3 * q + (y - 5))) = true
      · rw [if_pos hA] at hc
        cases hc
        have e2 : wTo m u q o place y g = cvl u (tq m q (m 35 (3 * q + (y - 5)))) (g (m 35 (3 * q + (y - 5)))) (m 36 (3 * q + (y - 5))) := by unfold wTo; rw [if_neg h5, if_pos hA.1]
        rw [e2] at hh
        have wA : withP o place (m 35 (3 * q + (y - 5))) = true := by simp [withP, hA.2]
        have n35 : m 35 (3 * q + (y - 5)) ≠ o place := fun e => by rw [e, nA] at hA; cases hA.2
        have hne : ¬ cvl u (tq m q (o place)) r (m 34 (3 * q + (y - 5))) = cvl u (tq m q (m 35 (3 * q + (y - 5)))) (g (m 35 (3 * q + (y - 5)))) (m 36 (3 * q + (y - 5))) := by
          simpa [hold] using hh
        unfold jOk
        rw [hA.1, wO, wA, gU_at, gU_ne n35, beq_eq_false_iff_ne.mpr hne]
        simp
      · rw [if_neg hA] at hc
        by_cases hB : m 35 (3 * q + (y - 5)) = o place ∧ ahead o place (m 33 (3 * q + (y - 5))) = true
        · rw [if_pos hB] at hc
          cases hc
          have n33 : m 33 (3 * q + (y - 5)) ≠ o place := fun e => by rw [e, nA] at hB; cases hB.2
          have e2 : wTo m u q o place y g = cvl u (tq m q (m 33 (3 * q + (y - 5)))) (g (m 33 (3 * q + (y - 5)))) (m 34 (3 * q + (y - 5))) := by unfold wTo; rw [if_neg h5, if_neg n33]
          rw [e2] at hh
          have wA : withP o place (m 33 (3 * q + (y - 5))) = true := by simp [withP, hB.2]
          have hne : ¬ cvl u (tq m q (m 33 (3 * q + (y - 5)))) (g (m 33 (3 * q + (y - 5)))) (m 34 (3 * q + (y - 5))) = cvl u (tq m q (o place)) r (m 36 (3 * q + (y - 5))) := fun e => by
            have : ¬ cvl u (tq m q (o place)) r (m 36 (3 * q + (y - 5))) = cvl u (tq m q (m 33 (3 * q + (y - 5)))) (g (m 33 (3 * q + (y - 5)))) (m 34 (3 * q + (y - 5))) := by simpa [hold] using hh
            exact this e.symm
          unfold jOk
          rw [hB.1, wO, wA, gU_at, gU_ne n33, beq_eq_false_iff_ne.mpr hne]
          simp
        · rw [if_neg hB] at hc
          cases hc
    unfold fitM
    rw [allN_f y1 e9]
    simp
theorem ev_Sl (W : WQ m) (Wt : WT m u) (Wx : WX m) (hq : q < m 24 0) : ∀ e place g, place + e ≤ m 25 q → (getR (evG m u q (plO m q ban d) (itm_ m u q ban d) e place g)).Perm (Sl m u q (plO m q ban d) e place g)
  | 0, place, g, _ => List.Perm.refl _
  | e + 1, place, g, hp => by
    have w3 := W.2.2 q hq
    have h1 := Wt.nt
    have ho : PN (m 25 q) (plO m q ban d) := PN_pl w3.1
    have hop := ho.1 place (by omega)
    have ht : tq m q (plO m q ban d place) < m 1 0 := w3.2.2.2.1 _ hop
    have h3 := Wt.2.2.2.1 (tq m q (plO m q ban d place)) (by omega)
    have ih : ∀ r, (getR (if fitM m u q (gU g (plO m q ban d place) r) (withP (plO m q ban d) place) (plO m q ban d place) = true then evG m u q (plO m q ban d) (itm_ m u q ban d) e (place + 1) (gU g (plO m q ban d place) r) else [])).Perm (if fitM m u q (gU g (plO m q ban d place) r) (withP (plO m q ban d) place) (plO m q ban d place) = true then Sl m u q (plO m q ban d) e (place + 1) (gU g (plO m q ban d place) r) else []) := fun r => by
      split
      · exact ev_Sl W Wt Wx hq e (place + 1) _ (by omega)
      · exact List.Perm.refl _
    have ff : ∀ r, fitM m u q (gU g (plO m q ban d place) r) (withP (plO m q ban d) place) (plO m q ban d place) = false → getR (if fitM m u q (gU g (plO m q ban d place) r) (withP (plO m q ban d) place) (plO m q ban d place) = true then evG m u q (plO m q ban d) (itm_ m u q ban d) e (place + 1) (gU g (plO m q ban d place) r) else []) = [] := fun r hf => by
      rw [if_neg (by rw [hf]; decide)]
      rfl
    have tf : ∀ r, th m (tq m q (plO m q ban d place)) r = false → fitM m u q (gU g (plO m q ban d place) r) (withP (plO m q ban d) place) (plO m q ban d place) = false := fun r hr => fit_thf (by rw [gU_at]; exact hr)
    simp only [evG, itm_, itR, Sl]
    by_cases hy : plW m q ban d place = 0
    · rw [if_pos hy, pgR_0, getR_pg]
      have e40 := fm40 (f := fun r => getR (if fitM m u q (gU g (plO m q ban d place) r) (withP (plO m q ban d) place) (plO m q ban d place) = true then evG m u q (plO m q ban d) (itm_ m u q ban d) e (place + 1) (gU g (plO m q ban d place) r) else [])) h3 (fun r hr hr40 => ff r (tf r (by
        have := Wt.2.2.2.2.2.1 (tq m q (plO m q ban d place)) r (by omega) hr40 hr
        simp only [th, this]
        rfl)))
      rw [← e40]
      exact fmL (fun r _ => ih r)
    · rw [if_neg hy]
      obtain ⟨k, k1, k2, k3⟩ := wIdx_k (plW_ok (ban := ban) (d := d) w3.1 (by omega : place < m 25 q)) hy
      obtain ⟨ht', hc'⟩ := Wx.2 k k2
      rw [k3] at ht' hc'
      have e5 : plI m q ban d place = some k := k1
      rw [e5]
      unfold ixE
      simp only [Option.getD_some, Nat.sub_zero]
      rw [getR_ixR]
      have em : ∀ r, r ∈ ent m u (tq m q (plO m q ban d place)) (m 15 k) ↔ r < 40 ∧ th m (tq m q (plO m q ban d place)) r = true := fun r => by
        rw [ent_eN]
        exact mem_eN (Wt.vg ht' hc') (Nat.le_refl 40)
      have nd : (ent m u (tq m q (plO m q ban d place)) (m 15 k)).Nodup := by
        rw [ent_eN]
        exact pw_nodup (eN_p (Nat.le_refl 40))
      have s1 : ((List.range' 0 (ent m u (tq m q (plO m q ban d place)) (m 15 k)).length).filter (fun i => hold (wSg m q (plW m q ban d place)) (wTo m u q (plO m q ban d) place (plW m q ban d place) g) (cvl u (tq m q (plO m q ban d place)) ((ent m u (tq m q (plO m q ban d place)) (m 15 k)).getD i 0) (m 15 k)))).flatMap (fun i => getR (if fitM m u q (gU g (plO m q ban d place) ((ent m u (tq m q (plO m q ban d place)) (m 15 k)).getD i 0)) (withP (plO m q ban d) place) (plO m q ban d place) = true then evG m u q (plO m q ban d) (itm_ m u q ban d) e (place + 1) (gU g (plO m q ban d place) ((ent m u (tq m q (plO m q ban d place)) (m 15 k)).getD i 0)) else [])) = ((ent m u (tq m q (plO m q ban d place)) (m 15 k)).filter (fun r => hold (wSg m q (plW m q ban d place)) (wTo m u q (plO m q ban d) place (plW m q ban d place) g) (cvl u (tq m q (plO m q ban d place)) r (m 15 k)))).flatMap (fun r => getR (if fitM m u q (gU g (plO m q ban d place) r) (withP (plO m q ban d) place) (plO m q ban d place) = true then evG m u q (plO m q ban d) (itm_ m u q ban d) e (place + 1) (gU g (plO m q ban d place) r) else [])) := by
        conv => rhs; rw [← range_map (ent m u (tq m q (plO m q ban d place)) (m 15 k))]
        rw [List.filter_map, List.flatMap_map]
        rfl
      refine List.Perm.trans (List.Perm.of_eq s1) ?_
      have pm : ((ent m u (tq m q (plO m q ban d place)) (m 15 k)).filter (fun r => hold (wSg m q (plW m q ban d place)) (wTo m u q (plO m q ban d) place (plW m q ban d place) g) (cvl u (tq m q (plO m q ban d place)) r (m 15 k)))).Perm ((List.range 40).filter (fun r => th m (tq m q (plO m q ban d place)) r && hold (wSg m q (plW m q ban d place)) (wTo m u q (plO m q ban d) place (plW m q ban d place) g) (cvl u (tq m q (plO m q ban d place)) r (m 15 k)))) := by
        refine (List.perm_ext_iff_of_nodup (nd.sublist List.filter_sublist) (List.nodup_range.sublist List.filter_sublist)).mpr (fun r => ?_)
        rw [List.mem_filter, List.mem_filter, em, List.mem_range, Bool.and_eq_true]
        exact ⟨fun h => ⟨h.1.1, h.1.2, h.2⟩, fun h => ⟨⟨h.1, h.2.1⟩, h.2.2⟩⟩
      refine (pm.flatMap_right _).trans ?_
      rw [fmFilter]
      refine fmL (fun r _ => ?_)
      by_cases hb : (th m (tq m q (plO m q ban d place)) r && hold (wSg m q (plW m q ban d place)) (wTo m u q (plO m q ban d) place (plW m q ban d place) g) (cvl u (tq m q (plO m q ban d place)) r (m 15 k))) = true
      · rw [if_pos hb]
        exact ih r
      · rw [if_neg hb]
        have hf : fitM m u q (gU g (plO m q ban d place) r) (withP (plO m q ban d) place) (plO m q ban d place) = false := by
          cases h9 : th m (tq m q (plO m q ban d place)) r with
          | false => exact tf r h9
          | true =>
            rw [h9, Bool.true_and] at hb
            exact hd_fit ho (by omega) (plW_ok (ban := ban) (d := d) w3.1 (by omega : place < m 25 q)) hy k1 (by simpa using hb) W hq
        rw [if_neg (by rw [hf]; decide)]
/-- the answers found by a plan are those found by trying all rows -/
theorem evR_an (W : WQ m) (Wt : WT m u) (Wx : WX m) (hq : q < m 24 0) : (getR (evR m u q ban d)).Perm (anA m u q (m 25 q) 0 (fun _ => 0)) := by
  have w3 := (W.2.2 q hq).1
  rw [an_Sl W Wt hq (m 25 q) 0 _ (by omega)]
  exact (ev_Sl W Wt Wx hq (m 25 q) 0 _ (by omega)).trans (Sl_perm W hq (PN_pl w3))
theorem mark_perm {l l' : List (Nat → Nat)} (h : l.Perm l') (z : Int64) : l.foldl (fun a g => a + (enc g + 1) * (enc g + 31)) z = l'.foldl (fun a g => a + (enc g + 1) * (enc g + 31)) z :=
  List.Perm.foldl_eq' h (fun x _ y _ z => by rw [Int64.add_assoc, Int64.add_assoc, Int64.add_comm ((enc x + 1) * (enc x + 31))]) z
end EVPERM
