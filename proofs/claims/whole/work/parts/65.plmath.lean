section PLMATH
variable {m m' mm : Nat → Nat → Nat} {u u' w : Nat → Int32} {L L' E : List Nat} {σ σ' σ1 σ2 : St} {N kk t c k n q ban place p way x y b a i s v told f j cc d : Nat} {o o' ways g : Nat → Nat} {P Q : Nat → Prop}
theorem ahead_cong (h : ∀ k, k < n → o k = o' k) : ahead o n p = ahead o' n p := by
  induction n with
  | zero => rfl
  | succ n ih => rw [ahead_s, ahead_s, ih (fun k hk => h k (by omega)), h n (by omega)]
theorem own_cong (h : ∀ k, k ≤ place → o k = o' k) : own m q o place k = own m q o' place k := by
  unfold own
  rw [h place (Nat.le_refl _), ahead_cong (fun k hk => h k (by omega)), ahead_cong (o := o) (o' := o') (fun k hk => h k (by omega))]
theorem wIdx_cong (h : ∀ k, k ≤ place → o k = o' k) : wIdx m q ban o place y = wIdx m q ban o' place y := by
  unfold wIdx
  rw [h place (Nat.le_refl _), own_cong h]
theorem wCost_cong (h : ∀ k, k ≤ place → o k = o' k) : wCost m q o place y = wCost m q o' place y := by
  unfold wCost
  rw [h place (Nat.le_refl _), own_cong h]
theorem chJ_cong (h : ∀ k, k ≤ place → o k = o' k) : chJ m q o place b n = chJ m q o' place b n := by
  unfold chJ
  exact u_it_cong (fun k hk x => by rw [own_cong h])
theorem chs_cong (h : ∀ k, k < n → o k = o' k) : chs m q o n = chs m q o' n := by
  induction n with
  | zero => rfl
  | succ n ih => rw [chs_s, chs_s, ih (fun k hk => h k (by omega)), h n (by omega), chJ_cong (fun k hk => h k (by omega))]
theorem est_cong (h : ∀ k, k < n → o k = o' k) (h2 : ∀ k, k < n → ways k = g k) : est m q o ways n = est m q o' g n := by
  induction n with
  | zero => rfl
  | succ n ih => rw [est_s, est_s, ih (fun k hk => h k (by omega)) (fun k hk => h2 k (by omega)), chs_cong (fun k hk => h k (by omega)), wCost_cong (fun k hk => h k (by omega)), h2 n (by omega)]
theorem vW_cong (h : ∀ k, k < m 25 q → o k = o' k) : vW m q ban o y n = vW m q ban o' y n := by
  induction n with
  | zero => rfl
  | succ n ih =>
    rw [vW_s, vW_s, ih]
    congr 1
    by_cases hn : n < m 25 q
    · rw [if_pos hn, if_pos hn, wIdx_cong (fun k hk => h k (by omega))]
    · rw [if_neg hn, if_neg hn]
theorem est_ge (h : ∀ p, p < n → wCost m q o p (g p) ≤ wCost m q o p (ways p)) : est m q o g n ≤ est m q o ways n := by
  induction n with
  | zero => exact Nat.le_refl _
  | succ n ih =>
    have := ih (fun p hp => h p (by omega))
    have h1 := Nat.mul_le_mul_left (chs m q o n) (h n (by omega))
    rw [est_s, est_s]
    omega
theorem est_gt (h : ∀ p, p < n → wCost m q o p (g p) ≤ wCost m q o p (ways p)) (hj : j < n) (hs : wCost m q o j (g j) < wCost m q o j (ways j)) : est m q o g n < est m q o ways n := by
  induction n with
  | zero => omega
  | succ n ih =>
    have h1 := Nat.mul_le_mul_left (chs m q o n) (h n (by omega))
    rw [est_s, est_s]
    by_cases e : j = n
    · subst e
      have h2 := est_ge (n := j) (fun p hp => h p (by omega))
      have h3 := Nat.mul_lt_mul_of_pos_left hs (chs_pos (m := m) (q := q) (o := o) (n := j))
      omega
    · have := ih (fun p hp => h p (by omega)) (by omega)
      omega
/-! the cheapest way of a place -/
def gwN (m : Nat → Nat → Nat) (q ban : Nat) (o : Nat → Nat) (place : Nat) : Nat → Nat := it_ (fun y b => if (wIdx m q ban o place (y + 1)).isSome = true ∧ wCost m q o place (y + 1) < wCost m q o place b then y + 1 else b) 0
theorem gwN_s : gwN m q ban o place (n + 1) = if (wIdx m q ban o place (n + 1)).isSome = true ∧ wCost m q o place (n + 1) < wCost m q o place (gwN m q ban o place n) then n + 1 else gwN m q ban o place n := rfl
theorem gwN_spec : ∀ n, gwN m q ban o place n ≤ n ∧ (gwN m q ban o place n = 0 ∨ (wIdx m q ban o place (gwN m q ban o place n)).isSome = true) ∧ ∀ y, y ≤ n → (y = 0 ∨ (wIdx m q ban o place y).isSome = true) → wCost m q o place (gwN m q ban o place n) ≤ wCost m q o place y ∧ (y < gwN m q ban o place n → wCost m q o place (gwN m q ban o place n) < wCost m q o place y)
  | 0 => by
    refine ⟨Nat.le_refl _, Or.inl rfl, fun y hy _ => ?_⟩
    have : y = 0 := by omega
    subst this
    exact ⟨Nat.le_refl _, fun h => absurd h (Nat.not_lt_zero _)⟩
  | n + 1 => by
    obtain ⟨i1, i2, i3⟩ := gwN_spec n
    rw [gwN_s]
    by_cases h : (wIdx m q ban o place (n + 1)).isSome = true ∧ wCost m q o place (n + 1) < wCost m q o place (gwN m q ban o place n)
    · rw [if_pos h]
      refine ⟨Nat.le_refl _, Or.inr h.1, fun y hy hv => ?_⟩
      by_cases e : y = n + 1
      · subst e; exact ⟨Nat.le_refl _, fun h => by omega⟩
      · have := (i3 y (by omega) hv).1
        have h2 := h.2
        exact ⟨by omega, fun _ => by omega⟩
    · rw [if_neg h]
      refine ⟨by omega, i2, fun y hy hv => ?_⟩
      by_cases e : y = n + 1
      · subst e
        refine ⟨?_, fun h => by omega⟩
        rcases hv with hv | hv
        · omega
        · exact Nat.le_of_not_lt (fun h9 => h ⟨hv, h9⟩)
      · exact i3 y (by omega) hv
theorem gway_spec : okW m q ban o place (gway m q ban o place) ∧ ∀ y, okW m q ban o place y → wCost m q o place (gway m q ban o place) ≤ wCost m q o place y ∧ (y < gway m q ban o place → wCost m q o place (gway m q ban o place) < wCost m q o place y) := by
  obtain ⟨i1, i2, i3⟩ := gwN_spec (m := m) (q := q) (ban := ban) (o := o) (place := place) 7
  have e : gwN m q ban o place 7 = gway m q ban o place := rfl
  rw [e] at i1 i2 i3
  exact ⟨⟨by omega, i2⟩, fun y hy => i3 y (by have := hy.1; omega) hy.2⟩
/-! the best order -/
def beN (m : Nat → Nat → Nat) (q ban : Nat) : Nat → Nat := it_ (fun i b => if okO (m 25 q) i = true ∧ eO m q ban i < eO m q ban b then i else b) 0
theorem beN_s : beN m q ban (n + 1) = if okO (m 25 q) n = true ∧ eO m q ban n < eO m q ban (beN m q ban n) then n else beN m q ban n := rfl
theorem okO_0 : okO n 0 = true := by
  simp [okO, ordN, List.range_succ]
theorem beN_spec : ∀ n, 0 < n → beN m q ban n < n ∧ okO (m 25 q) (beN m q ban n) = true ∧ ∀ i, i < n → okO (m 25 q) i = true → eO m q ban (beN m q ban n) ≤ eO m q ban i ∧ (i < beN m q ban n → eO m q ban (beN m q ban n) < eO m q ban i)
  | 0, h => absurd h (by omega)
  | 1, _ => by
    have e : beN m q ban 1 = 0 := by
      rw [beN_s]
      split <;> rfl
    rw [e]
    refine ⟨by omega, okO_0, fun i hi _ => ?_⟩
    have : i = 0 := by omega
    subst this
    exact ⟨Nat.le_refl _, fun h => absurd h (Nat.not_lt_zero _)⟩
  | n + 2, _ => by
    obtain ⟨i1, i2, i3⟩ := beN_spec (n + 1) (by omega)
    rw [beN_s]
    by_cases h : okO (m 25 q) (n + 1) = true ∧ eO m q ban (n + 1) < eO m q ban (beN m q ban (n + 1))
    · rw [if_pos h]
      refine ⟨by omega, h.1, fun i hi hv => ?_⟩
      by_cases e : i = n + 1
      · subst e; exact ⟨Nat.le_refl _, fun h => by omega⟩
      · have := (i3 i (by omega) hv).1
        have h2 := h.2
        exact ⟨by omega, fun _ => by omega⟩
    · rw [if_neg h]
      refine ⟨by omega, i2, fun i hi hv => ?_⟩
      by_cases e : i = n + 1
      · subst e
        refine ⟨?_, fun h => by omega⟩
        exact Nat.le_of_not_lt (fun h9 => h ⟨hv, h9⟩)
      · exact i3 i (by omega) hv
theorem best_spec : best m q ban < 6 ∧ okO (m 25 q) (best m q ban) = true ∧ ∀ i, i < 6 → okO (m 25 q) i = true → eO m q ban (best m q ban) ≤ eO m q ban i ∧ (i < best m q ban → eO m q ban (best m q ban) < eO m q ban i) :=
  beN_spec (m := m) (q := q) (ban := ban) 6 (by omega)
/-! codes -/
def cO (n i : Nat) : Nat := (if 0 < n then ordN i 0 * 9 else 0) + (if 1 < n then ordN i 1 * 3 else 0) + (if 2 < n then ordN i 2 else 0)
theorem cO_1 : ∀ n, n < 4 → ∀ i, i < 6 → okO n i = true → cO n i < 27 ∧ okC n (cO n i) = true ∧ ∀ p, p < n → dg 3 (cO n i) p = ordN i p ∧ ordN i p < n := by decide +kernel
theorem cO_2 : ∀ n, n < 4 → 0 < n → ∀ x, x < 27 → okC n x = true → (List.range 6).any (fun i => okO n i && cO n i == x) = true := by decide +kernel
theorem cO_3a : ∀ n, n < 4 → ∀ i, i < 6 → ∀ j, j < 6 → (!(okO n i && (okO n j && Nat.blt i j)) || Nat.blt (cO n i) (cO n j)) = true := by decide +kernel
theorem cO_3 (n : Nat) (hn : n < 4) (i : Nat) (hi : i < 6) (j : Nat) (hj : j < 6) (h1 : okO n i = true) (h2 : okO n j = true) (h3 : i < j) : cO n i < cO n j := by
  have := cO_3a n hn i hi j hj
  rw [h1, h2, (Nat.blt_eq (x := i) (y := j)).mpr h3] at this
  simpa using this
def cW (n : Nat) (w : Nat → Nat) : Nat := (if 0 < n then w 0 * 64 else 0) + (if 1 < n then w 1 * 8 else 0) + (if 2 < n then w 2 else 0)
theorem dg8_0 : dg 8 y 0 = y / 8 / 8 % 8 := rfl
theorem dg8_1 : dg 8 y 1 = y / 8 % 8 := rfl
theorem dg8_2 : dg 8 y 2 = y % 8 := rfl
theorem cW_1 (hn : n < 4) (hw : ∀ p, p < n → g p < 8) : cW n g < 512 ∧ ∀ p, p < 3 → dg 8 (cW n g) p = if p < n then g p else 0 := by
  have c : n = 0 ∨ n = 1 ∨ n = 2 ∨ n = 3 := by omega
  have t3 : ∀ (Q : Nat → Prop), Q 0 → Q 1 → Q 2 → ∀ p, p < 3 → Q p := by
    intro Q h0 h1 h2 p hp
    have : p = 0 ∨ p = 1 ∨ p = 2 := by omega
    rcases this with rfl | rfl | rfl
    · exact h0
    · exact h1
    · exact h2
  rcases c with rfl | rfl | rfl | rfl
  · simp only [cW, Nat.lt_irrefl, if_false, Nat.not_lt_zero]
    exact ⟨by omega, t3 _ (by rw [dg8_0]) (by rw [dg8_1]) (by rw [dg8_2])⟩
  · have h0 := hw 0 (by omega)
    have e : cW 1 g = g 0 * 64 := by simp [cW]
    rw [e]
    refine ⟨by omega, t3 _ ?_ ?_ ?_⟩
    · rw [dg8_0, if_pos (by omega)]; omega
    · rw [dg8_1, if_neg (by omega)]; omega
    · rw [dg8_2, if_neg (by omega)]; omega
  · have h0 := hw 0 (by omega)
    have h1 := hw 1 (by omega)
    have e : cW 2 g = g 0 * 64 + g 1 * 8 := by simp [cW]
    rw [e]
    refine ⟨by omega, t3 _ ?_ ?_ ?_⟩
    · rw [dg8_0, if_pos (by omega)]; omega
    · rw [dg8_1, if_pos (by omega)]; omega
    · rw [dg8_2, if_neg (by omega)]; omega
  · have h0 := hw 0 (by omega)
    have h1 := hw 1 (by omega)
    have h2 := hw 2 (by omega)
    have e : cW 3 g = g 0 * 64 + g 1 * 8 + g 2 := by simp [cW]
    rw [e]
    refine ⟨by omega, t3 _ ?_ ?_ ?_⟩
    · rw [dg8_0, if_pos (by omega)]; omega
    · rw [dg8_1, if_pos (by omega)]; omega
    · rw [dg8_2, if_pos (by omega)]; omega
theorem cW_lt (hn : n < 4) (hw : ∀ p, p < n → g p < 8) (hy : y < 512) (hz : ∀ p, p < 3 → n ≤ p → dg 8 y p = 0) (h : y < cW n g) : ∃ j, j < n ∧ dg 8 y j < g j ∧ ∀ p, p < j → dg 8 y p = g p := by
  have hz0 := hz 0
  have hz1 := hz 1
  have hz2 := hz 2
  rw [dg8_0] at hz0
  rw [dg8_1] at hz1
  rw [dg8_2] at hz2
  have c : n = 0 ∨ n = 1 ∨ n = 2 ∨ n = 3 := by omega
  rcases c with rfl | rfl | rfl | rfl
  · simp [cW] at h
  · have h0 := hw 0 (by omega)
    have e : cW 1 g = g 0 * 64 := by simp [cW]
    rw [e] at h
    exact ⟨0, by omega, by rw [dg8_0]; omega, fun p hp => by omega⟩
  · have h0 := hw 0 (by omega)
    have h1 := hw 1 (by omega)
    have e : cW 2 g = g 0 * 64 + g 1 * 8 := by simp [cW]
    rw [e] at h
    by_cases a0 : y / 8 / 8 % 8 < g 0
    · exact ⟨0, by omega, by rw [dg8_0]; exact a0, fun p hp => by omega⟩
    · exact ⟨1, by omega, by rw [dg8_1]; omega, fun p hp => by rw [show p = 0 by omega, dg8_0]; omega⟩
  · have h0 := hw 0 (by omega)
    have h1 := hw 1 (by omega)
    have h2 := hw 2 (by omega)
    have e : cW 3 g = g 0 * 64 + g 1 * 8 + g 2 := by simp [cW]
    rw [e] at h
    by_cases a0 : y / 8 / 8 % 8 < g 0
    · exact ⟨0, by omega, by rw [dg8_0]; exact a0, fun p hp => by omega⟩
    · by_cases a1 : y / 8 % 8 < g 1
      · exact ⟨1, by omega, by rw [dg8_1]; exact a1, fun p hp => by rw [show p = 0 by omega, dg8_0]; omega⟩
      · refine ⟨2, by omega, by rw [dg8_2]; omega, fun p hp => ?_⟩
        have : p = 0 ∨ p = 1 := by omega
        rcases this with rfl | rfl
        · rw [dg8_0]; omega
        · rw [dg8_1]; omega
def ccO (m : Nat → Nat → Nat) (q ban : Nat) : Nat := 512 * cO (m 25 q) (best m q ban) + cW (m 25 q) (gway m q ban (ordN (best m q ban)))
theorem ccO_d (hn : m 25 q < 4) : ccO m q ban / 512 = cO (m 25 q) (best m q ban) ∧ ccO m q ban % 512 = cW (m 25 q) (gway m q ban (ordN (best m q ban))) := by
  have := (cW_1 (g := gway m q ban (ordN (best m q ban))) hn (fun p _ => gway_spec.1.1)).1
  unfold ccO
  constructor <;> omega
theorem vW_z (h : vW m q ban o y 3 = true) : (∀ p, p < m 25 q → p < 3 → okW m q ban o p (dg 8 y p)) ∧ ∀ p, p < 3 → m 25 q ≤ p → dg 8 y p = 0 := by
  simp only [vW, List.all_eq_true, List.mem_range] at h
  refine ⟨fun p hp h3 => ?_, fun p h3 hp => ?_⟩
  · have := h p h3
    rw [if_pos hp, Bool.or_eq_true, beq_iff_eq] at this
    exact ⟨dg_lt (by decide), this⟩
  · have := h p h3
    rw [if_neg (by omega), beq_iff_eq] at this
    exact this
theorem fmin (hn : m 25 q < 4) (h0 : 0 < m 25 q) : FMin m q ban (ccO m q ban) := by
  obtain ⟨b1, b2, b3⟩ := best_spec (m := m) (q := q) (ban := ban)
  obtain ⟨e1, e2⟩ := ccO_d (ban := ban) hn
  obtain ⟨c1, c2, c3⟩ := cO_1 _ hn _ b1 b2
  obtain ⟨w1, w2⟩ := cW_1 (g := gway m q ban (ordN (best m q ban))) hn (fun p _ => gway_spec.1.1)
  have hec : eC m q (ccO m q ban) = eO m q ban (best m q ban) := by
    unfold eC eO
    rw [e1, e2]
    exact est_cong (fun p hp => (c3 p hp).1) (fun p hp => by rw [w2 p (by omega), if_pos hp])
  refine ⟨by unfold ccO; omega, ?_, fun c' hc' hv => ?_⟩
  · unfold vC
    rw [e1, e2, c2, Bool.true_and, vW_cong (o' := ordN (best m q ban)) (fun p hp => (c3 p hp).1)]
    simp only [vW, List.all_eq_true, List.mem_range]
    intro p hp
    rw [w2 p hp]
    by_cases hpn : p < m 25 q
    · rw [if_pos hpn, if_pos hpn, Bool.or_eq_true, beq_iff_eq]
      exact gway_spec.1.2
    · rw [if_neg hpn, if_neg hpn]
      rfl
  · rw [hec]
    unfold vC at hv
    rw [Bool.and_eq_true] at hv
    have hx27 : c' / 512 < 27 := by omega
    have h2 := cO_2 _ hn h0 _ hx27 hv.1
    simp only [List.any_eq_true, List.mem_range, Bool.and_eq_true, beq_iff_eq] at h2
    obtain ⟨i', hi', hok', hco'⟩ := h2
    obtain ⟨d1, d2, d3⟩ := cO_1 _ hn _ hi' hok'
    rw [hco'] at d3
    obtain ⟨z1, z2⟩ := vW_z hv.2
    have hec' : eC m q c' = est m q (ordN i') (dg 8 (c' % 512)) (m 25 q) := est_cong (fun p hp => (d3 p hp).1) (fun p _ => rfl)
    have hokw : ∀ p, p < m 25 q → okW m q ban (ordN i') p (dg 8 (c' % 512) p) := by
      intro p hp
      have := z1 p hp (by omega)
      unfold okW at this ⊢
      rw [wIdx_cong (o' := ordN i') (fun k hk => (d3 k (by omega)).1)] at this
      exact this
    have hge : eO m q ban i' ≤ eC m q c' := by
      rw [hec']
      exact est_ge (fun p hp => (gway_spec.2 _ (hokw p hp)).1)
    obtain ⟨f1, f2⟩ := b3 i' hi' hok'
    refine ⟨by omega, fun hlt => ?_⟩
    have hcc : c' < 512 * cO (m 25 q) (best m q ban) + cW (m 25 q) (gway m q ban (ordN (best m q ban))) := hlt
    by_cases hxx : cO (m 25 q) i' < cO (m 25 q) (best m q ban)
    · have hlt2 : i' < best m q ban := by
        apply Nat.lt_of_not_le
        intro h9
        by_cases e : best m q ban = i'
        · rw [e] at hxx; omega
        · have := cO_3 _ hn _ b1 _ hi' b2 hok' (by omega)
          omega
      have := f2 hlt2
      omega
    · have heq : i' = best m q ban := by
        by_cases h9 : i' < best m q ban
        · have := cO_3 _ hn _ hi' _ b1 hok' b2 h9
          omega
        · by_cases h8 : best m q ban < i'
          · have := cO_3 _ hn _ b1 _ hi' b2 hok' h8
            omega
          · omega
      rw [heq] at hec' hokw hco'
      obtain ⟨j, j1, j2, j3⟩ := cW_lt (g := gway m q ban (ordN (best m q ban))) (y := c' % 512) hn (fun p _ => gway_spec.1.1) (by omega) z2 (by omega)
      rw [hec']
      exact est_gt (fun p hp => (gway_spec.2 _ (hokw p hp)).1) j1 ((gway_spec.2 _ (hokw j j1)).2 j2)
def fall (f : Nat) : Prop := 39 ≤ f ∧ f ≤ 45
theorem t_all : tmpP fall := by
  rintro f ⟨h1, h2⟩
  have : f = 39 ∨ f = 40 ∨ f = 41 ∨ f = 42 ∨ f = 43 ∨ f = 44 ∨ f = 45 := by omega
  rcases this with rfl | rfl | rfl | rfl | rfl | rfl | rfl <;> rfl
theorem r_plans (hN : 1000000 ≤ N) (R : RI m u w L σ) (W : WQ m) (Wx : WX m) (Wt : WT m u) (hq : q < m 24 0) (h0 : 0 < m 25 q) (hb : ban < 64) (hd : d < 2) {K : St → Prop}
    (h : ∀ s, KF fall σ s → PR s (m 25 q) (plO m q ban d) (plW m q ban d) (plI m q ban d) → K s) : z_X12_plans N 0 (nI d) (nI q) (nI ban) σ K := by
  have w3 := (W.2.2 q hq).1
  have R1 : RI m u w L (stP σ 12 0 45 0 (nI ban)) := R.tmp rfl
  have k1 : KF fall σ (stP σ 12 0 45 0 (nI ban)) := KF.refl.st ⟨by omega, by omega⟩
  have e45 : sP (stP σ 12 0 45 0 (nI ban)) 12 0 45 0 = nI ban := by simp only [sP_stP, Nat.reduceEqDiff, true_and, and_true, false_and, and_false, if_true, if_false, eq_self, and_self, Nat.reduceLT, Nat.reduceLeDiff, Nat.reduceAdd, Nat.reduceMul, Nat.reduceDiv, Nat.one_ne_zero]
  by_cases hd0 : d = 0
  · subst hd0
    simp (disch := omega) only [z_X12_plans, u_br_True, u_br_False, u_jn_u, u_lt_u, u_nn_s, u_brn_s, u_brn_n, nI_add, u_n_mul, u_n_lt, u_n_le, u_n_eq, u_n_sub, u_n_div, u_n_mod, nI_clamp, u_m1, u_m1q, u_wI_n, u_wA_n, u_br_t, u_br_f, ↓li_m1, li_0, li_1, li_2, li_3, li_4, li_5, li_6, li_7, li_8, li_9, li_10, li_12, li_13, li_26, li_40, li_60, li_61, li_62, li_99, li_100, li_102, li_106, li_114, li_112, li_117, li_108, li_103, li_120, li_300, li_360, li_512, li_1000]
    refine r_book hN R1 W Wx Wt hq e45 hb (fun s k2 r => ?_)
    exact h s (k1.trans (k2.mono (fun f hf => ⟨hf.1, by have := hf.2; omega⟩))) r
  · have hd1 : d = 1 := by omega
    subst hd1
    simp (disch := omega) only [z_X12_plans, u_br_True, u_br_False, u_jn_u, u_lt_u, u_nn_s, u_brn_s, u_brn_n, nI_add, u_n_mul, u_n_lt, u_n_le, u_n_eq, u_n_sub, u_n_div, u_n_mod, nI_clamp, u_m1, u_m1q, u_wI_n, u_wA_n, u_br_t, u_br_f, ↓li_m1, li_0, li_1, li_2, li_3, li_4, li_5, li_6, li_7, li_8, li_9, li_10, li_12, li_13, li_26, li_40, li_60, li_61, li_62, li_99, li_100, li_102, li_106, li_114, li_112, li_117, li_108, li_103, li_120, li_300, li_360, li_512, li_1000]
    refine r_counts hN R1 W Wx Wt hq e45 hb (fmin (by omega) h0) (fun s k2 r => ?_)
    refine h s (k1.trans (k2.mono (fun f hf => ⟨hf.1, by have := hf.2; omega⟩))) (fun p hp => ?_)
    obtain ⟨a1, a2, a3⟩ := r p hp
    obtain ⟨e1, e2⟩ := ccO_d (ban := ban) (by omega : m 25 q < 4)
    obtain ⟨b1, b2, b3⟩ := best_spec (m := m) (q := q) (ban := ban)
    obtain ⟨c1, c2, c3⟩ := cO_1 _ (by omega : m 25 q < 4) _ b1 b2
    obtain ⟨w1, w2⟩ := cW_1 (g := gway m q ban (ordN (best m q ban))) (by omega : m 25 q < 4) (fun p _ => gway_spec.1.1)
    have ew := w2 p (by omega)
    rw [if_pos hp] at ew
    rw [e1, (c3 p hp).1] at a1
    rw [e2, ew] at a2
    rw [e1, e2, ew, wIdx_cong (o' := ordN (best m q ban)) (fun k hk => (c3 k (by omega)).1)] at a3
    refine ⟨a1, a2, ?_⟩
    rw [a3]
    refine wI_oI ?_
    have := (gway_spec (m := m) (q := q) (ban := ban) (o := ordN (best m q ban)) (place := p)).1.2
    simp only [vbM, Bool.or_eq_true, beq_iff_eq]
    exact this
end PLMATH
