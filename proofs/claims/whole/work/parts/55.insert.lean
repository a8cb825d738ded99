section INSERT
variable {m m' : Nat → Nat → Nat} {u u' w : Nat → Int32} {L L' E : List Nat} {σ σ' σ1 σ2 : St} {N kk t c k n F key row lo hi : Nat} {a b d v : Int32}
def Wi (m : Nat → Nat → Nat) (t c : Nat) (v : Int32) : Prop := m 2 t ≤ c ∨ ∃ x, m 6 (3 * t + c) ≤ x ∧ x ≤ m 7 (3 * t + c) ∧ v = nI x
theorem c_wi (T : CT1 m u σ t) (W : WT m u) (ht : t < m 1 0) (hc : c < 3) (h : Wi m t c v) {K : Int32 → Prop} : z_X10_isWithin N t (nI c) v σ K = K (nI 1) := by
  have hcl := W.cl ht
  have h1 := W.nt
  have w7 := W.2.2.2.2.2.2.1 (3 * t + c) (by omega)
  by_cases h2 : m 2 t ≤ c
  · simp (disch := omega) only [z_X10_isWithin, c_hasCO T.2.1 (Or.inr ⟨c, by omega, h2, rfl⟩ : Out (nI c) (m 2 t)) hcl.2, u_br_True, u_br_False, u_jn_u, u_lt_u, u_nn_s, u_brn_s, u_brn_n, ↓li_m1, li_0, li_1, li_2, li_3, li_4, li_5, li_6, li_7, li_8, li_9, li_10, li_12, li_13, li_26, li_40, li_60, li_61, li_62, li_99, li_100, li_102, li_106, li_114, li_112, li_117, li_108, li_103, li_120, li_300, li_360, li_512, li_1000, b10, b00, f_0, f_1, u_okT, u_nb_0, u_nb_1]
  · rcases h with h | ⟨x, x1, x2, rfl⟩
    · exact absurd h h2
    · rw [c_isWith T hcl.2 (by omega) w7.1 w7.2 (by omega), if_pos ⟨x1, x2⟩]
theorem c_wiO (T : CT1 m u σ t) (W : WT m u) (ht : t < m 1 0) (hc : c < 3) (h : ¬ Wi m t c v) {K : Int32 → Prop} : z_X10_isWithin N t (nI c) v σ K = K (nI 0) := by
  have hcl := W.cl ht
  have h1 := W.nt
  have w7 := W.2.2.2.2.2.2.1 (3 * t + c) (by omega)
  simp only [Wi, not_or] at h
  rcases u_or v with hn | ⟨x, hx, rfl⟩
  · simp (disch := omega) only [z_X10_isWithin, c_hasC T.2.1 (by omega : c < m 2 t) hcl.2, u_br_True, u_br_False, u_jn_u, u_lt_u, u_nn_s, u_brn_s, u_brn_n, nI_add, u_n_mul, u_n_lt, u_n_le, u_n_eq, u_n_sub, u_n_div, u_n_mod, nI_clamp, u_m1, u_m1q, u_wI_n, u_wA_n, u_br_t, u_br_f, ↓li_m1, li_0, li_1, li_2, li_3, li_4, li_5, li_6, li_7, li_8, li_9, li_10, li_12, li_13, li_26, li_40, li_60, li_61, li_62, li_99, li_100, li_102, li_106, li_114, li_112, li_117, li_108, li_103, li_120, li_300, li_360, li_512, li_1000, b10, b00, f_0, f_1, u_okT, u_nb_0, u_nb_1, T.2.2.2.2.2.2.1 c hc, u_neg_t hn]
  · rw [c_isWith T hcl.2 (by omega) w7.1 w7.2 hx, if_neg (fun h9 => h.2 ⟨x, h9.1, h9.2, rfl⟩)]
theorem r_wi (R : RI m u w L σ) (W : WT m u) (ht : t < m 1 0) (hc : c < 3) (h : Wi m t c v) {K : Int32 → Prop} : z_X12_isWithin N 0 (nI t) (nI c) v σ K = K (nI 1) := by
  have hcl := W.cl ht
  have h1 := W.nt
  have w7 := W.2.2.2.2.2.2.1 (3 * t + c) (by omega)
  by_cases h2 : m 2 t ≤ c
  · simp (disch := omega) only [z_X12_isWithin, u_br_True, u_br_False, u_jn_u, u_lt_u, u_nn_s, u_brn_s, u_brn_n, nI_add, u_n_mul, u_n_lt, u_n_le, u_n_eq, u_n_sub, u_n_div, u_n_mod, nI_clamp, u_m1, u_m1q, u_wI_n, u_wA_n, u_br_t, u_br_f, ↓li_m1, li_0, li_1, li_2, li_3, li_4, li_5, li_6, li_7, li_8, li_9, li_10, li_12, li_13, li_26, li_40, li_60, li_61, li_62, li_99, li_100, li_102, li_106, li_114, li_112, li_117, li_108, li_103, li_120, li_300, li_360, li_512, li_1000, (fun j => R.r 2 j rfl)]
  · rcases h with h | ⟨x, x1, x2, rfl⟩
    · exact absurd h h2
    · simp (disch := omega) only [z_X12_isWithin, u_br_True, u_br_False, u_jn_u, u_lt_u, u_nn_s, u_brn_s, u_brn_n, nI_add, u_n_mul, u_n_lt, u_n_le, u_n_eq, u_n_sub, u_n_div, u_n_mod, nI_clamp, u_m1, u_m1q, u_wI_n, u_wA_n, u_br_t, u_br_f, ↓li_m1, li_0, li_1, li_2, li_3, li_4, li_5, li_6, li_7, li_8, li_9, li_10, li_12, li_13, li_26, li_40, li_60, li_61, li_62, li_99, li_100, li_102, li_106, li_114, li_112, li_117, li_108, li_103, li_120, li_300, li_360, li_512, li_1000, (fun j => R.r 2 j rfl), (fun j => R.r 6 j rfl), (fun j => R.r 7 j rfl), r_inT, r_inL, r_inH, r_inPT, r_inPF, b10, b00, f_0, f_1, u_okT, u_nb_0, u_nb_1]
theorem r_wiO (R : RI m u w L σ) (W : WT m u) (ht : t < m 1 0) (hc : c < 3) (h : ¬ Wi m t c v) {K : Int32 → Prop} : z_X12_isWithin N 0 (nI t) (nI c) v σ K = K (nI 0) := by
  have hcl := W.cl ht
  have h1 := W.nt
  have w7 := W.2.2.2.2.2.2.1 (3 * t + c) (by omega)
  simp only [Wi, not_or] at h
  have e : ∀ {K : Int32 → Prop}, z_X12_in N v (nI (m 6 (3 * t + c))) (nI (m 7 (3 * t + c))) σ K = K (nI 0) := by
    intro K
    rcases u_or v with hn | ⟨x, hx, rfl⟩
    · exact r_inN (u_neg_lt hn (by omega))
    · rw [r_in hx (by omega) (by omega), if_neg (fun h9 => h.2 ⟨x, h9.1, h9.2, rfl⟩)]
  simp (disch := omega) only [z_X12_isWithin, u_br_True, u_br_False, u_jn_u, u_lt_u, u_nn_s, u_brn_s, u_brn_n, nI_add, u_n_mul, u_n_lt, u_n_le, u_n_eq, u_n_sub, u_n_div, u_n_mod, nI_clamp, u_m1, u_m1q, u_wI_n, u_wA_n, u_br_t, u_br_f, ↓li_m1, li_0, li_1, li_2, li_3, li_4, li_5, li_6, li_7, li_8, li_9, li_10, li_12, li_13, li_26, li_40, li_60, li_61, li_62, li_99, li_100, li_102, li_106, li_114, li_112, li_117, li_108, li_103, li_120, li_300, li_360, li_512, li_1000, (fun j => R.r 2 j rfl), (fun j => R.r 6 j rfl), (fun j => R.r 7 j rfl), e, b10, b00, f_0, f_1, u_okT, u_nb_0, u_nb_1]
def mIn (m : Nat → Nat → Nat) (t : Nat) : Nat → Nat → Nat := mu (mu (mu m 16 0 0) 4 (40 * t + m 3 t) 1) 3 t (m 3 t + 1)
def uIn (u : Nat → Int32) (p : Nat) (a b d : Int32) : Nat → Int32 := upd (upd (upd u p a) (p + 1) b) (p + 2) d
theorem mIn_o {f j : Nat} (h1 : f ≠ 3) (h2 : f ≠ 4) (h4 : f ≠ 16) : mIn m t f j = m f j := by
  simp [mIn, mu, h1, h2, h4]
theorem mIn_3 {j : Nat} : mIn m t 3 j = if j = t then m 3 t + 1 else m 3 j := by simp [mIn, mu]
theorem mIn_4 {j : Nat} : mIn m t 4 j = if j = 40 * t + m 3 t then 1 else m 4 j := by simp [mIn, mu]
theorem th_in {t' r : Nat} (hr : r < 40) (h3 : m 3 t < 40) : th (mIn m t) t' r = (th m t' r || (t' == t && r == m 3 t)) := by
  simp only [th, mIn_4]
  by_cases e : t' = t ∧ r = m 3 t
  · obtain ⟨rfl, rfl⟩ := e
    rw [if_pos rfl]
    simp
  · rw [if_neg (by omega)]
    have : (t' == t && r == m 3 t) = false := by
      rw [Bool.and_eq_false_iff, beq_eq_false_iff_ne, beq_eq_false_iff_ne]
      omega
    rw [this, Bool.or_false]
theorem vl_in {t' r c p : Nat} (hr : r < 40) (hc : c < 3) (h3 : m 3 t < 40) (hp : p = 3 * (40 * t + m 3 t)) : vl (uIn u p a b d) t' r c = if t' = t ∧ r = m 3 t then (if c = 0 then a else if c = 1 then b else d) else vl u t' r c := by
  subst hp
  simp only [vl, uIn, upd]
  by_cases e : t' = t ∧ r = m 3 t
  · obtain ⟨rfl, rfl⟩ := e
    simp only [and_self, if_true]
    by_cases h2 : c = 2
    · subst h2; simp
    · by_cases h1 : c = 1
      · subst h1; simp
      · have h0 : c = 0 := by omega
        subst h0; simp
  · rw [if_neg (by omega), if_neg (by omega), if_neg (by omega), if_neg e]
theorem WT_in (W : WT m u) (ht : t < m 1 0) (h3 : m 3 t < 40) (h0 : Wi m t 0 a) (h1 : Wi m t 1 b) (h2 : Wi m t 2 d) : WT (mIn m t) (uIn u (3 * (40 * t + m 3 t)) a b d) := by
  obtain ⟨w1, w2, w3, w4, w5, w6, w7, w8, w9, w10, w11⟩ := W
  have o : ∀ f j, f ≠ 3 → f ≠ 4 → f ≠ 16 → mIn m t f j = m f j := fun f j a b d => mIn_o a b d
  unfold WT
  simp (disch := decide) only [o]
  refine ⟨w1, w2, w3, ?_, ?_, ?_, w7, w8, w9, ?_, ?_⟩
  · intro t' ht'
    rw [mIn_3]
    have := w4 t' ht'
    split <;> omega
  · intro t' r ht' hr
    rw [mIn_4]
    have := w5 t' r ht' hr
    split <;> omega
  · intro t' r ht' hr hle
    rw [mIn_3] at hle
    rw [mIn_4]
    by_cases e : t' = t
    · subst e
      rw [if_pos rfl] at hle
      rw [if_neg (by omega)]
      exact w6 t' r ht' hr (by omega)
    · rw [if_neg e] at hle
      rw [if_neg (by omega)]
      exact w6 t' r ht' hr hle
  · intro t' r c ht' hr hc
    rw [mIn_3] at hr
    have hcl := w3 t' ht'
    have h4 := w4 t' (by omega)
    have hr40 : r < 40 := by
      split at hr
      · rename_i e; subst e; omega
      · omega
    have e9 := vl_in (u := u) (m := m) (t := t) (t' := t') (a := a) (b := b) (d := d) hr40 (by omega : c < 3) h3 rfl
    simp only [vl] at e9
    rw [e9]
    by_cases e : t' = t ∧ r = m 3 t
    · obtain ⟨rfl, rfl⟩ := e
      rw [if_pos ⟨rfl, rfl⟩]
      have hb := w7 (3 * t' + c) (by omega)
      have pick : ∀ {v : Int32}, Wi m t' c v → ∃ x, x ≤ 99 ∧ v = nI x := by
        rintro v (h9 | ⟨x, x1, x2, rfl⟩)
        · omega
        · exact ⟨x, by omega, rfl⟩
      by_cases hc0 : c = 0
      · subst hc0; rw [if_pos rfl]; exact pick h0
      · by_cases hc1 : c = 1
        · subst hc1; rw [if_neg (by omega), if_pos rfl]; exact pick h1
        · have hc2 : c = 2 := by omega
          subst hc2; rw [if_neg (by omega), if_neg (by omega)]; exact pick h2
    · rw [if_neg e]
      refine w10 t' r c ht' ?_ hc
      by_cases e5 : t' = t
      · subst e5; rw [if_pos rfl] at hr; omega
      · rw [if_neg e5] at hr; exact hr
  · intro t' ht' ht3
    rw [mIn_3, if_neg (by omega)]
    exact w11 t' ht' ht3
theorem SameX_in : SameX m (mIn m t) := fun f hf j => by
  refine mIn_o ?_ ?_ ?_ <;> (intro h9; subst h9; revert hf; decide)
theorem liv_in (W : WT m u) (ht : t < 3) (h3 : m 3 t < 40) {t' : Nat} : liv (mIn m t) t' = if t' = t then liv m t + 1 else liv m t' := by
  by_cases e : t' = t
  · subst e
    rw [if_pos rfl]
    have h : ∀ n, n ≤ 40 → livN (mIn m t') t' n = livN m t' n + (if m 3 t' < n then 1 else 0) := by
      intro n
      induction n with
      | zero => intro _; simp [livN]
      | succ n ih =>
        intro hn
        rw [livN_s, livN_s, ih (by omega), th_in (by omega) h3]
        by_cases e2 : n = m 3 t'
        · have hz : th m t' n = false := by
            cases h9 : th m t' n with
            | false => rfl
            | true => have := W.th_lt ht (by omega) h9; omega
          have a1 : (if m 3 t' < n then 1 else 0 : Nat) = 0 := if_neg (by omega)
          have a2 : (if m 3 t' < n + 1 then 1 else 0 : Nat) = 1 := if_pos (by omega)
          have a3 : (t' == t' && n == m 3 t') = true := by simp [e2]
          rw [hz, a1, a2, a3]
          simp
        · have : (t' == t' && n == m 3 t') = false := by simp [e2]
          rw [this, Bool.or_false]
          by_cases e3 : m 3 t' < n
          · have a1 : (if m 3 t' < n then 1 else 0 : Nat) = 1 := if_pos e3
            have a2 : (if m 3 t' < n + 1 then 1 else 0 : Nat) = 1 := if_pos (by omega)
            rw [a1, a2]; omega
          · have a1 : (if m 3 t' < n then 1 else 0 : Nat) = 0 := if_neg e3
            have a2 : (if m 3 t' < n + 1 then 1 else 0 : Nat) = 0 := if_neg (by omega)
            rw [a1, a2]; omega
    have := h 40 (Nat.le_refl _)
    rw [if_pos h3] at this
    exact this
  · rw [if_neg e]
    simp only [liv]
    congr 1
    refine List.filter_congr (fun r hr => ?_)
    rw [th_in (List.mem_range.mp hr) h3]
    simp [e]
theorem ent_in (W : WT m u) (W' : WT (mIn m t) (uIn u (3 * (40 * t + m 3 t)) a b d)) (ht : t < m 1 0) (h3 : m 3 t < 40) {t' : Nat} (hc : c < 3) (hc2 : c < m 2 t') (ht' : t' < m 1 0) :
    (t' ≠ t → ent (mIn m t) (uIn u (3 * (40 * t + m 3 t)) a b d) t' c = ent m u t' c) ∧
    (t' = t → ∃ v, v < 100 ∧ vl (uIn u (3 * (40 * t + m 3 t)) a b d) t (m 3 t) c = nI v ∧ ent (mIn m t) (uIn u (3 * (40 * t + m 3 t)) a b d) t c = (ent m u t c).take (ff (uIn u (3 * (40 * t + m 3 t)) a b d) t c (ent m u t c) (v + 1)) ++ m 3 t :: (ent m u t c).drop (ff (uIn u (3 * (40 * t + m 3 t)) a b d) t c (ent m u t c) (v + 1))) := by
  have h1 := W.nt
  refine ⟨fun e => ?_, fun e => ?_⟩
  · refine eN_same (fun r hr => ⟨?_, fun _ => ?_⟩)
    · rw [th_in hr h3]; simp [e]
    · rw [vl_in hr hc h3 rfl, if_neg (fun h => e h.1)]
  · subst e
    have V' : VG (mIn m t') (uIn u (3 * (40 * t' + m 3 t')) a b d) t' c := W'.vg (by rw [mIn_o (by decide) (by decide) (by decide)]; exact ht) (by rw [mIn_o (by decide) (by decide) (by decide)]; exact hc2)
    have hth : th (mIn m t') t' (m 3 t') = true := by rw [th_in h3 h3]; simp
    obtain ⟨v, hv, ev⟩ := V' (m 3 t') h3 hth
    have e1 : eN (mIn m t') (uIn u (3 * (40 * t' + m 3 t')) a b d) t' c (m 3 t') = eN m u t' c (m 3 t') := eN_same (fun r hr => ⟨by rw [th_in (by omega) h3]; simp [show r ≠ m 3 t' by omega], fun _ => by rw [vl_in (by omega) hc h3 rfl, if_neg (fun h => by omega)]⟩)
    have up : ∀ (mm : Nat → Nat → Nat) (uu : Nat → Int32) (x : Nat), (∀ r, x ≤ r → r < 40 → ¬ th mm t' r = true) → ∀ e, x + e ≤ 40 → eN mm uu t' c (x + e) = eN mm uu t' c x := by
      intro mm uu x hx e
      induction e with
      | zero => intro _; rfl
      | succ e ih => intro he; rw [← Nat.add_assoc, eN_skip (hx _ (by omega) (by omega)), ih (by omega)]
    have e2 : eN m u t' c (m 3 t') = ent m u t' c := by
      have := up m u (m 3 t') (fun r hr hr2 h9 => by have := W.th_lt (by omega) hr2 h9; omega) (40 - m 3 t') (by omega)
      rw [show m 3 t' + (40 - m 3 t') = 40 by omega] at this
      exact this.symm
    have e3 : ent (mIn m t') (uIn u (3 * (40 * t' + m 3 t')) a b d) t' c = eN (mIn m t') (uIn u (3 * (40 * t' + m 3 t')) a b d) t' c (m 3 t' + 1) := by
      have := up (mIn m t') (uIn u (3 * (40 * t' + m 3 t')) a b d) (m 3 t' + 1) (fun r hr hr2 h9 => by
        rw [th_in hr2 h3] at h9
        simp only [Bool.or_eq_true, Bool.and_eq_true, beq_iff_eq] at h9
        rcases h9 with h9 | h9
        · have := W.th_lt (by omega) hr2 h9; omega
        · omega) (40 - (m 3 t' + 1)) (by omega)
      rw [show m 3 t' + 1 + (40 - (m 3 t' + 1)) = 40 by omega] at this
      exact this
    refine ⟨v, hv, ev, ?_⟩
    rw [e3, eN_ins V' h3 hth, e1, e2, ev, u_tN_nI (by omega)]
/-- frames -/
def K10 (σ σ' : St) : Prop := (∀ k i f j, k ≠ 10 → sP σ' k i f j = sP σ k i f j) ∧ sL_ σ' = sL_ σ ∧ sQ σ' = sQ σ ∧ sD_ σ' = sD_ σ ∧ sV σ' = sV σ
def K3a (σ σ' : St) : Prop := (∀ k' i f j, ¬ (k' = 3 ∧ (f = 3 ∨ f = 4)) → sP σ' k' i f j = sP σ k' i f j) ∧ sL_ σ' = sL_ σ ∧ sQ σ' = sQ σ ∧ sD_ σ' = sD_ σ ∧ sV σ' = sV σ
theorem K10.refl : K10 σ σ := ⟨fun _ _ _ _ _ => rfl, rfl, rfl, rfl, rfl⟩
theorem K10.st {i f j : Nat} {v : Int32} (h : K10 σ σ') : K10 σ (stP σ' 10 i f j v) := by
  refine ⟨fun k' i' f' j' h1 => ?_, h.2.1, h.2.2.1, h.2.2.2.1, h.2.2.2.2⟩
  rw [sP_stP, if_neg (fun e => h1 e.1)]
  exact h.1 k' i' f' j' h1
theorem K10.fi (h : K10 σ σ') : FI σ σ' := ⟨fun k i f j _ _ h3 => h.1 k i f j h3, h.2⟩
theorem K3a.refl : K3a σ σ := ⟨fun _ _ _ _ _ => rfl, rfl, rfl, rfl, rfl⟩
theorem K3a.of (h : K3a σ σ') (g : K3 k σ' σ1) : K3a σ σ1 := ⟨fun k' i f j hn => (g.1 k' i f j (fun e => hn ⟨e.1, e.2.2⟩)).trans (h.1 k' i f j hn), g.2.1.trans h.2.1, g.2.2.1.trans h.2.2.1, g.2.2.2.1.trans h.2.2.2.1, g.2.2.2.2.trans h.2.2.2.2⟩
theorem K3a.fi (h : K3a σ σ') : FI σ σ' := ⟨fun k i f j _ h3 _ => h.1 k i f j (fun e => h3 e.1), h.2⟩
theorem CT.fr (C : CT m u σ) (h10 : ∀ i f j, sP σ' 10 i f j = sP σ 10 i f j) (h9 : ∀ i f j, sP σ' 9 i f j = sP σ 9 i f j) (hQ : sQ σ' = sQ σ) (hV : sV σ' = sV σ) : CT m u σ' := by
  unfold CT CT1 at *
  simp only [h10, h9, hQ, hV]
  exact C
theorem CX.fr (C : CX m u σ) (h3 : ∀ i f j, sP σ' 3 i f j = sP σ 3 i f j) (h9 : ∀ i f j, sP σ' 9 i f j = sP σ 9 i f j) (hQ : sQ σ' = sQ σ) (hV : sV σ' = sV σ) : CX m u σ' := by
  unfold CX CX1 at *
  simp only [h3, h9, hQ, hV]
  exact C
theorem CO.fr (C : CO σ c F L) (h0 : ∀ i f j, sP σ' 0 i f j = sP σ 0 i f j) : CO σ' c F L := by
  unfold CO at *
  simp only [h0]
  exact C
end INSERT
