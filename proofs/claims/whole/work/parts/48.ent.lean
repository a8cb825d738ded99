section ENT
variable {m m' : Nat → Nat → Nat} {u u' w : Nat → Int32} {L E : List Nat} {σ σ' : St} {N kk t c k n : Nat}
/-! the entries of an index, as mathematics -/
def kv (u : Nat → Int32) (t c r : Nat) : Nat := 64 * tN (vl u t r c) + r
def pv (m : Nat → Nat → Nat) (u : Nat → Int32) (t c v r : Nat) : Bool := th m t r && decide (vl u t r c = nI v)
def eN (m : Nat → Nat → Nat) (u : Nat → Int32) (t c n : Nat) : List Nat := (List.range 100).flatMap (fun v => (List.range n).filter (pv m u t c v))
theorem ent_eN : ent m u t c = eN m u t c 40 := rfl
def VG (m : Nat → Nat → Nat) (u : Nat → Int32) (t c : Nat) : Prop := ∀ r, r < 40 → th m t r = true → ∃ v, v < 100 ∧ vl u t r c = nI v
theorem WT.vg (W : WT m u) (ht : t < m 1 0) (hc : c < m 2 t) : VG m u t c := by
  intro r hr h
  have h1 := W.nt
  obtain ⟨v, hv, e⟩ := W.2.2.2.2.2.2.2.2.2.1 t r c ht (W.th_lt (by omega) hr h) hc
  exact ⟨v, by omega, e⟩
theorem mem_eN (V : VG m u t c) (hn : n ≤ 40) {r : Nat} : r ∈ eN m u t c n ↔ r < n ∧ th m t r = true := by
  simp only [eN, List.mem_flatMap, List.mem_range, List.mem_filter, pv, Bool.and_eq_true, decide_eq_true_eq]
  constructor
  · rintro ⟨v, hv, h1, h2, h3⟩
    exact ⟨h1, h2⟩
  · rintro ⟨h1, h2⟩
    obtain ⟨v, hv, e⟩ := V r (by omega) h2
    exact ⟨v, hv, h1, h2, e⟩
theorem eN_pw : (eN m u t c n).Pairwise (fun a b => kv u t c a < kv u t c b) ∨ 64 < n := by
  by_cases hn : 64 < n
  · exact Or.inr hn
  · refine Or.inl ?_
    rw [eN, List.pairwise_flatMap]
    refine ⟨?_, ?_⟩
    · intro v hv
      refine List.Pairwise.imp_of_mem ?_ ((List.pairwise_lt_range (n := n)).filter (pv m u t c v))
      intro a b ha hb hab
      simp only [List.mem_filter, pv, Bool.and_eq_true, decide_eq_true_eq] at ha hb
      simp only [kv, ha.2.2, hb.2.2]
      omega
    · refine List.Pairwise.imp_of_mem ?_ (List.pairwise_lt_range (n := 100))
      intro v v' hv hv' hlt a ha b hb
      simp only [List.mem_filter, List.mem_range, pv, Bool.and_eq_true, decide_eq_true_eq] at ha hb hv hv'
      simp only [kv, ha.2.2, hb.2.2]
      rw [u_tN_nI (by omega), u_tN_nI (by omega)]
      omega
theorem eN_p (hn : n ≤ 40) : (eN m u t c n).Pairwise (fun a b => kv u t c a < kv u t c b) := by
  rcases eN_pw (m := m) (u := u) (t := t) (c := c) (n := n) with h | h
  · exact h
  · omega
theorem pw_nodup {f : Nat → Nat} {l : List Nat} (h : l.Pairwise (fun a b => f a < f b)) : l.Nodup := h.imp (fun h e => by rw [e] at h; omega)
theorem pw_uniq {f : Nat → Nat} {l l' : List Nat} (h : l.Pairwise (fun a b => f a < f b)) (h' : l'.Pairwise (fun a b => f a < f b)) (hm : ∀ r, r ∈ l ↔ r ∈ l') : l = l' :=
  List.Perm.eq_of_pairwise (le := fun a b => f a < f b) (fun a b _ _ h1 h2 => by omega) h h' ((List.perm_ext_iff_of_nodup (pw_nodup h) (pw_nodup h')).mpr hm)
def livN (m : Nat → Nat → Nat) (t n : Nat) : Nat := ((List.range n).filter (th m t)).length
theorem livN_s : livN m t (n + 1) = livN m t n + (if th m t n = true then 1 else 0) := by
  simp only [livN, List.range_succ, List.filter_append, List.length_append]
  by_cases h : th m t n = true
  · simp [h]
  · simp [h]
theorem livN_le : livN m t n ≤ n := by
  have := List.length_filter_le (th m t) (List.range n)
  rw [List.length_range] at this
  exact this
theorem eN_len (V : VG m u t c) (hn : n ≤ 40) : (eN m u t c n).length = livN m t n := by
  refine List.Perm.length_eq ((List.perm_ext_iff_of_nodup (pw_nodup (eN_p hn)) (List.nodup_range.sublist List.filter_sublist)).mpr (fun r => ?_))
  rw [mem_eN V hn, List.mem_filter, List.mem_range]
theorem livN_stop (W : WT m u) (ht : t < 3) : liv m t = livN m t (m 3 t) := by
  have h : ∀ d, m 3 t + d ≤ 40 → livN m t (m 3 t + d) = livN m t (m 3 t) := by
    intro d
    induction d with
    | zero => intro _; rfl
    | succ d ih =>
      intro hd
      rw [← Nat.add_assoc, livN_s, ih (by omega), if_neg (fun h => by have := W.th_lt ht (by omega) h; omega), Nat.add_zero]
  have h3 := W.2.2.2.1 t ht
  have := h (40 - m 3 t) (by omega)
  rw [show m 3 t + (40 - m 3 t) = 40 by omega] at this
  exact this
theorem ent_len (W : WT m u) (ht : t < m 1 0) (hc : c < m 2 t) : (ent m u t c).length = liv m t := eN_len (W.vg ht hc) (Nat.le_refl _)
theorem ent_len40 (W : WT m u) (ht : t < m 1 0) (hc : c < m 2 t) : (ent m u t c).length ≤ 40 := by
  rw [ent_len W ht hc]
  exact livN_le
theorem tw_step {p : Nat → Bool} : ∀ (E : List Nat) (i : Nat), i ≤ (E.takeWhile p).length → ∀ h : i < E.length, if p E[i] = true then i + 1 ≤ (E.takeWhile p).length else i = (E.takeWhile p).length
  | [], i, _, h => absurd h (by simp)
  | a :: E, 0, _, h => by
    simp only [List.getElem_cons_zero, List.takeWhile_cons]
    by_cases hp : p a = true
    · simp [hp]
    · simp [hp]
  | a :: E, i + 1, h1, h => by
    simp only [List.getElem_cons_succ]
    rw [List.takeWhile_cons] at h1 ⊢
    by_cases hp : p a = true
    · simp only [hp, if_true, List.length_cons] at h1 ⊢
      have := tw_step (p := p) E i (by omega) (by simpa using h)
      split at this
      · rename_i h2; rw [if_pos h2]; omega
      · rename_i h2; rw [if_neg h2]; omega
    · simp [hp] at h1
/-- the first entry whose value is not less -/
def ff (u : Nat → Int32) (t c : Nat) (E : List Nat) (l : Nat) : Nat := (E.takeWhile (fun r => decide (tN (vl u t r c) < l))).length
theorem ff_le {l : Nat} : ff u t c E l ≤ E.length := (List.takeWhile_prefix _).length_le
theorem take_ff {l : Nat} : E.take (ff u t c E l) = E.takeWhile (fun r => decide (tN (vl u t r c) < l)) :=
  (List.prefix_iff_eq_take.mp (List.takeWhile_prefix _)).symm
theorem mem_take_ff {l r : Nat} (h : r ∈ E.take (ff u t c E l)) : tN (vl u t r c) < l := by
  rw [take_ff] at h
  have h2 : ∀ (E : List Nat), r ∈ E.takeWhile (fun r => decide (tN (vl u t r c) < l)) → tN (vl u t r c) < l := by
    intro E
    induction E with
    | nil => intro h; simp at h
    | cons a E ih =>
      intro h
      rw [List.takeWhile_cons] at h
      by_cases hp : tN (vl u t a c) < l
      · simp only [hp, decide_true, if_true, List.mem_cons] at h
        rcases h with rfl | h
        · exact hp
        · exact ih h
      · simp [hp] at h
  exact h2 E h
theorem mem_drop_ff {l r : Nat} (hp : E.Pairwise (fun a b => kv u t c a < kv u t c b)) (h64 : ∀ r ∈ E, r < 64) (h : r ∈ E.drop (ff u t c E l)) : l ≤ tN (vl u t r c) := by
  obtain ⟨j, hj, e⟩ := List.mem_iff_getElem.mp h
  rw [List.length_drop] at hj
  rw [List.getElem_drop] at e
  have hlt : ff u t c E l < E.length := by omega
  have h1 := tw_step (p := fun r => decide (tN (vl u t r c) < l)) E (ff u t c E l) (Nat.le_refl _) hlt
  have h2 : ¬ tN (vl u t E[ff u t c E l] c) < l := by
    intro h9
    rw [if_pos (by simpa using h9)] at h1
    exact absurd h1 (by unfold ff; omega)
  subst e
  by_cases hj0 : j = 0
  · subst hj0
    simp only [Nat.add_zero]
    omega
  · have h3 := List.pairwise_iff_getElem.mp hp (ff u t c E l) (ff u t c E l + j) hlt (by omega) (by omega)
    have h4 := h64 _ (List.getElem_mem hlt)
    have h5 := h64 _ (List.getElem_mem (show ff u t c E l + j < E.length by omega))
    simp only [kv] at h3
    omega
theorem eN_ins (V : VG m u t c) (hn : n < 40) (h : th m t n = true) : eN m u t c (n + 1) = (eN m u t c n).take (ff u t c (eN m u t c n) (tN (vl u t n c) + 1)) ++ n :: (eN m u t c n).drop (ff u t c (eN m u t c n) (tN (vl u t n c) + 1)) := by
  have hE : ∀ r ∈ eN m u t c n, r < n := fun r hr => ((mem_eN V (by omega)).mp hr).1
  have hp := eN_p (m := m) (u := u) (t := t) (c := c) (n := n) (by omega)
  refine pw_uniq (f := kv u t c) (eN_p (by omega)) ?_ ?_
  · rw [List.pairwise_append, List.pairwise_cons]
    refine ⟨hp.sublist (List.take_sublist _ _), ⟨?_, hp.sublist (List.drop_sublist _ _)⟩, ?_⟩
    · intro b hb
      have h1 := mem_drop_ff hp (fun r hr => by have := hE r hr; omega) hb
      simp only [kv]
      omega
    · intro a ha b hb
      have h1 := mem_take_ff ha
      have h2 := hE a (List.mem_of_mem_take ha)
      rw [List.mem_cons] at hb
      rcases hb with rfl | hb
      · simp only [kv]; omega
      · have h3 := mem_drop_ff hp (fun r hr => by have := hE r hr; omega) hb
        simp only [kv]; omega
  · intro r
    rw [mem_eN V (by omega), List.mem_append, List.mem_cons]
    have e1 : r ∈ (eN m u t c n).take (ff u t c (eN m u t c n) (tN (vl u t n c) + 1)) ∨ r ∈ (eN m u t c n).drop (ff u t c (eN m u t c n) (tN (vl u t n c) + 1)) ↔ r ∈ eN m u t c n := by
      rw [← List.mem_append, List.take_append_drop]
    rw [show (r ∈ (eN m u t c n).take (ff u t c (eN m u t c n) (tN (vl u t n c) + 1)) ∨ r = n ∨ r ∈ (eN m u t c n).drop (ff u t c (eN m u t c n) (tN (vl u t n c) + 1))) ↔ (r = n ∨ r ∈ eN m u t c n) by
      rw [← e1, or_left_comm]]
    rw [mem_eN V (by omega)]
    constructor
    · rintro ⟨h1, h2⟩
      by_cases e : r = n
      · exact Or.inl e
      · exact Or.inr ⟨by omega, h2⟩
    · rintro (rfl | ⟨h1, h2⟩)
      · exact ⟨by omega, h⟩
      · exact ⟨by omega, h2⟩
theorem eN_skip (h : ¬ th m t n = true) : eN m u t c (n + 1) = eN m u t c n := by
  simp only [eN, List.range_succ, List.filter_append]
  congr 1
  funext v
  have : pv m u t c v n = false := by simp [pv, h]
  simp [this]
theorem eN_same (h : ∀ r, r < n → th m' t r = th m t r ∧ (th m t r = true → vl u' t r c = vl u t r c)) : eN m' u' t c n = eN m u t c n := by
  simp only [eN]
  congr 1
  funext v
  refine List.filter_congr (fun r hr => ?_)
  obtain ⟨h1, h2⟩ := h r (List.mem_range.mp hr)
  simp only [pv, h1]
  by_cases h9 : th m t r = true
  · rw [h2 h9]
  · simp [h9]
theorem eN_del (V : VG m u t c) {r0 : Nat} (h : ∀ r, r < 40 → th m' t r = (th m t r && !(r == r0))) : ent m' u t c = (ent m u t c).filter (fun r => !(r == r0)) := by
  have V' : VG m' u t c := by
    intro r hr h9
    rw [h r hr, Bool.and_eq_true] at h9
    exact V r hr h9.1
  refine pw_uniq (f := kv u t c) (eN_p (by omega)) ((eN_p (by omega)).sublist List.filter_sublist) (fun r => ?_)
  rw [List.mem_filter]
  show r ∈ eN m' u t c 40 ↔ r ∈ eN m u t c 40 ∧ _
  rw [mem_eN V' (Nat.le_refl _), mem_eN V (Nat.le_refl _)]
  constructor
  · rintro ⟨h1, h2⟩
    rw [h r h1, Bool.and_eq_true] at h2
    exact ⟨⟨h1, h2.1⟩, h2.2⟩
  · rintro ⟨⟨h1, h2⟩, h3⟩
    exact ⟨h1, by rw [h r h1, h2, h3]; rfl⟩
/-! the reference: how many rows are there; the list of entries -/
theorem r_there (hN : 1000000 ≤ N) (R : RI m u w L σ) (W : WT m u) (ht : t < 3) {K : Int32 → Prop} (h : K (nI (liv m t))) : z_X12_there N 0 (nI t) σ K := by
  have h3 := W.2.2.2.1 t ht
  unfold z_X12_there
  refine for_v (m 3 t) (by omega) (by omega) (fun j a => a = nI (livN m t j)) 0 (by omega) (fun self i a hi ha hs => ?_) rfl
  subst ha
  have hle := livN_le (m := m) (t := t) (n := i)
  by_cases hl : i < m 3 t
  · simp (disch := omega) only [u_br_True, u_br_False, u_jn_u, u_lt_u, u_nn_s, u_brn_s, u_brn_n, nI_add, u_n_mul, u_n_lt, u_n_le, u_n_eq, u_n_sub, u_n_div, u_n_mod, nI_clamp, u_m1, u_m1q, u_wI_n, u_wA_n, u_br_t, u_br_f, ↓li_m1, li_0, li_1, li_2, li_3, li_4, li_5, li_6, li_7, li_8, li_9, li_10, li_12, li_13, li_26, li_40, li_60, li_61, li_62, li_99, li_100, li_102, li_106, li_114, li_112, li_117, li_108, li_103, li_120, li_300, li_360, li_512, li_1000, (fun j => R.r 3 j rfl), r_hasR R W ht (by omega : i < 40)]
    by_cases hth : th m t i = true
    · simp (disch := omega) only [hth, Nat.reduceEqDiff, true_and, and_true, false_and, and_false, if_true, if_false, eq_self, and_self, Nat.reduceLT, Nat.reduceLeDiff, Nat.reduceAdd, Nat.reduceMul, Nat.reduceDiv, Nat.one_ne_zero, b10, b00, f_0, f_1, u_okT, u_nb_0, u_nb_1, u_br_True, u_br_False, u_jn_u, u_lt_u, u_nn_s, u_brn_s, u_brn_n, nI_add, u_n_mul, u_n_lt, u_n_le, u_n_eq, u_n_sub, u_n_div, u_n_mod, nI_clamp, u_m1, u_m1q, u_wI_n, u_wA_n, u_br_t, u_br_f]
      refine hs _ hl ?_
      rw [livN_s, if_pos hth]
    · simp (disch := omega) only [if_neg hth, b10, b00, f_0, f_1, u_okT, u_nb_0, u_nb_1, u_br_True, u_br_False, u_jn_u, u_lt_u, u_nn_s, u_brn_s, u_brn_n, nI_add, u_n_mul, u_n_lt, u_n_le, u_n_eq, u_n_sub, u_n_div, u_n_mod, nI_clamp, u_m1, u_m1q, u_wI_n, u_wA_n, u_br_t, u_br_f]
      refine hs _ hl ?_
      rw [livN_s, if_neg hth]
  · simp (disch := omega) only [u_br_True, u_br_False, u_jn_u, u_lt_u, u_nn_s, u_brn_s, u_brn_n, nI_add, u_n_mul, u_n_lt, u_n_le, u_n_eq, u_n_sub, u_n_div, u_n_mod, nI_clamp, u_m1, u_m1q, u_wI_n, u_wA_n, u_br_t, u_br_f, ↓li_m1, li_0, li_1, li_2, li_3, li_4, li_5, li_6, li_7, li_8, li_9, li_10, li_12, li_13, li_26, li_40, li_60, li_61, li_62, li_99, li_100, li_102, li_106, li_114, li_112, li_117, li_108, li_103, li_120, li_300, li_360, li_512, li_1000, (fun j => R.r 3 j rfl)]
    rw [show i = m 3 t by omega, ← livN_stop W ht]
    exact h
def eV (m : Nat → Nat → Nat) (u : Nat → Int32) (t c v : Nat) : List Nat := (List.range v).flatMap (fun v => (List.range 40).filter (pv m u t c v))
def eR (m : Nat → Nat → Nat) (u : Nat → Int32) (t c v r : Nat) : List Nat := eV m u t c v ++ (List.range r).filter (pv m u t c v)
theorem eR_s {v r : Nat} : eR m u t c v (r + 1) = if pv m u t c v r = true then eR m u t c v r ++ [r] else eR m u t c v r := by
  simp only [eR, List.range_succ, List.filter_append, ← List.append_assoc]
  by_cases h : pv m u t c v r = true
  · rw [if_pos h]; simp [h]
  · rw [if_neg h]; simp [h]
theorem eR_0 {v : Nat} : eR m u t c v 0 = eV m u t c v := by simp [eR]
theorem eV_s {v : Nat} : eV m u t c (v + 1) = eR m u t c v 40 := by
  simp [eV, eR, List.range_succ]
theorem eR_stop (W : WT m u) (ht : t < 3) {v : Nat} : eR m u t c v (m 3 t) = eR m u t c v 40 := by
  have h : ∀ d, m 3 t + d ≤ 40 → eR m u t c v (m 3 t + d) = eR m u t c v (m 3 t) := by
    intro d
    induction d with
    | zero => intro _; rfl
    | succ d ih =>
      intro hd
      rw [← Nat.add_assoc, eR_s, ih (by omega), if_neg]
      intro h9
      simp only [pv, Bool.and_eq_true] at h9
      have := W.th_lt ht (by omega) h9.1
      omega
  have h3 := W.2.2.2.1 t ht
  have := h (40 - m 3 t) (by omega)
  rw [show m 3 t + (40 - m 3 t) = 40 by omega] at this
  exact this.symm
theorem eV_100 : eV m u t c 100 = ent m u t c := rfl
theorem eV_le {v : Nat} : ∀ d, (eV m u t c v).length ≤ (eV m u t c (v + d)).length
  | 0 => Nat.le_refl _
  | d + 1 => by
    have h := eV_le (v := v) d
    rw [← Nat.add_assoc, eV_s]
    simp only [eR, List.length_append]
    omega
theorem eR_len (W : WT m u) (ht : t < m 1 0) (hc : c < m 2 t) {v r : Nat} (hv : v < 100) (hr : r ≤ 40) : (eR m u t c v r).length ≤ (ent m u t c).length := by
  have h1 : (eR m u t c v r).length ≤ (eR m u t c v 40).length := by
    simp only [eR, List.length_append]
    have := ((List.range_sublist.mpr hr).filter (pv m u t c v)).length_le
    omega
  have h2 := eV_le (m := m) (u := u) (t := t) (c := c) (v := v + 1) (100 - (v + 1))
  rw [show v + 1 + (100 - (v + 1)) = 100 by omega, eV_s, eV_100] at h2
  omega
end ENT
