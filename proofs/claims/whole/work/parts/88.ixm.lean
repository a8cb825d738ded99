section IXM
variable {m : Nat → Nat → Nat} {u w : Nat → Int32} {n q p t x place r e k c j j' d s_ told v v' fz len : Nat} {g o ways : Nat → Nat} {ix : Nat → Option Nat} {E : Nat → List (Nat ⊕ (Nat → Nat))} {En : Nat → Nat} {hd : Nat → Bool} {lf : Option Nat}
/-! the events of a place: the pages from a row on; the entries from one on -/
def pgR (t : Nat) (E : Nat → List (Nat ⊕ (Nat → Nat))) (n j : Nat) : List (Nat ⊕ (Nat → Nat)) := (List.range' j (n - j)).flatMap (fun r => (if r % 4 = 0 then [Sum.inl (100 * t + r / 4)] else []) ++ E r)
theorem pgR_0 : pgR t E n 0 = pgE t E n := by
  simp only [pgR, pgE, Nat.sub_zero, List.range_eq_range']
theorem pgR_s (h : j < n) : pgR t E n j = ((if j % 4 = 0 then [Sum.inl (100 * t + j / 4)] else []) ++ E j) ++ pgR t E n (j + 1) := by
  unfold pgR
  rw [show n - j = (n - (j + 1)) + 1 by omega, List.range'_succ, List.flatMap_cons]
theorem pgR_e (h : n ≤ j) : pgR t E n j = [] := by
  unfold pgR
  rw [show n - j = 0 by omega]
  rfl
def ixR (t k fz len : Nat) (En : Nat → Nat) (hd : Nat → Bool) (E : Nat → List (Nat ⊕ (Nat → Nat))) : Nat → Nat → Option Nat → List (Nat ⊕ (Nat → Nat))
  | 0, _, lf => if lf = none ∧ 0 < len then [.inl (100 * (3 + k) + fz / 8)] else []
  | d + 1, j, lf => if hd (En j) = true then (if lf = some (j / 8) then [] else [.inl (100 * (3 + k) + j / 8)]) ++ ((.inl (100 * t + En j / 4) :: E (En j)) ++ ixR t k fz len En hd E d (j + 1) (some (j / 8))) else ixR t k fz len En hd E d (j + 1) lf
theorem ixR_no (h : ∀ i, j ≤ i → i < j + d → hd (En i) = false) : ixR t k fz len En hd E (d + e) j lf = ixR t k fz len En hd E e (j + d) lf := by
  induction d generalizing j with
  | zero => rw [Nat.zero_add]; rfl
  | succ d ih =>
    rw [show d + 1 + e = (d + e) + 1 by omega]
    simp only [ixR]
    rw [if_neg (by rw [h j (Nat.le_refl _) (by omega)]; decide), ih (j := j + 1) (fun i h1 h2 => h i (by omega) (by omega)), show j + 1 + d = j + (d + 1) by omega]
theorem ixR_yes (h : hd (En j) = true) : ixR t k fz len En hd E (d + 1) j lf = (if lf = some (j / 8) then [] else [.inl (100 * (3 + k) + j / 8)]) ++ ((.inl (100 * t + En j / 4) :: E (En j)) ++ ixR t k fz len En hd E d (j + 1) (some (j / 8))) := by
  simp only [ixR]
  rw [if_pos h]
theorem ixR_0 : ixR t k fz len En hd E 0 j lf = if lf = none ∧ 0 < len then [.inl (100 * (3 + k) + fz / 8)] else [] := rfl
/-! what is wanted -/
def lsM (s_ told : Nat) : Nat := if s_ = 61 then told else if s_ = 60 then 0 else told + 1
def gMx (s_ told : Nat) : Int32 := if s_ = 61 then nI told else if s_ = 60 then nI told - nI 1 else nI 99
theorem hd_gt (hs : sg s_) (hv : v ≤ 99) (ht : told ≤ 99) (h : gMx s_ told < nI v) : hold s_ told v = false := by
  rcases hs with rfl | rfl | rfl
  · simp only [gMx, Nat.reduceEqDiff, true_and, and_true, false_and, and_false, if_true, if_false, eq_self, and_self, Nat.reduceLT, Nat.reduceLeDiff, Nat.reduceAdd, Nat.reduceMul, Nat.reduceDiv, Nat.one_ne_zero] at h
    rw [u_n_lt (by omega) (by omega)] at h
    simp [hold]; omega
  · simp only [gMx, Nat.reduceEqDiff, true_and, and_true, false_and, and_false, if_true, if_false, eq_self, and_self, Nat.reduceLT, Nat.reduceLeDiff, Nat.reduceAdd, Nat.reduceMul, Nat.reduceDiv, Nat.one_ne_zero] at h
    rw [u_pred_lt (by omega) (by omega)] at h
    simp [hold]; omega
  · simp only [gMx, Nat.reduceEqDiff, true_and, and_true, false_and, and_false, if_true, if_false, eq_self, and_self, Nat.reduceLT, Nat.reduceLeDiff, Nat.reduceAdd, Nat.reduceMul, Nat.reduceDiv, Nat.one_ne_zero] at h
    rw [u_n_lt (by omega) (by omega)] at h
    omega
theorem hd_le (hs : sg s_) (hv : v ≤ 99) (ht : told ≤ 99) (h : ¬ gMx s_ told < nI v) (h2 : lsM s_ told ≤ v) : hold s_ told v = true := by
  rcases hs with rfl | rfl | rfl
  · simp only [gMx, Nat.reduceEqDiff, true_and, and_true, false_and, and_false, if_true, if_false, eq_self, and_self, Nat.reduceLT, Nat.reduceLeDiff, Nat.reduceAdd, Nat.reduceMul, Nat.reduceDiv, Nat.one_ne_zero] at h
    simp only [lsM, Nat.reduceEqDiff, true_and, and_true, false_and, and_false, if_true, if_false, eq_self, and_self, Nat.reduceLT, Nat.reduceLeDiff, Nat.reduceAdd, Nat.reduceMul, Nat.reduceDiv, Nat.one_ne_zero] at h2
    rw [u_n_lt (by omega) (by omega)] at h
    simp [hold]; omega
  · simp only [gMx, Nat.reduceEqDiff, true_and, and_true, false_and, and_false, if_true, if_false, eq_self, and_self, Nat.reduceLT, Nat.reduceLeDiff, Nat.reduceAdd, Nat.reduceMul, Nat.reduceDiv, Nat.one_ne_zero] at h
    rw [u_pred_lt (by omega) (by omega)] at h
    simp [hold]; omega
  · simp only [lsM, Nat.reduceEqDiff, true_and, and_true, false_and, and_false, if_true, if_false, eq_self, and_self, Nat.reduceLT, Nat.reduceLeDiff, Nat.reduceAdd, Nat.reduceMul, Nat.reduceDiv, Nat.one_ne_zero] at h2
    simp [hold]; omega
theorem hd_lt (hs : sg s_) (h : v < lsM s_ told) : hold s_ told v = false := by
  rcases hs with rfl | rfl | rfl
  · simp only [lsM, Nat.reduceEqDiff, true_and, and_true, false_and, and_false, if_true, if_false, eq_self, and_self, Nat.reduceLT, Nat.reduceLeDiff, Nat.reduceAdd, Nat.reduceMul, Nat.reduceDiv, Nat.one_ne_zero] at h
    simp [hold]; omega
  · simp only [lsM, Nat.reduceEqDiff, true_and, and_true, false_and, and_false, if_true, if_false, eq_self, and_self, Nat.reduceLT, Nat.reduceLeDiff, Nat.reduceAdd, Nat.reduceMul, Nat.reduceDiv, Nat.one_ne_zero] at h
    omega
  · simp only [lsM, Nat.reduceEqDiff, true_and, and_true, false_and, and_false, if_true, if_false, eq_self, and_self, Nat.reduceLT, Nat.reduceLeDiff, Nat.reduceAdd, Nat.reduceMul, Nat.reduceDiv, Nat.one_ne_zero] at h
    simp [hold]; omega
theorem gt_up (hs : sg s_) (hv : v ≤ 99) (hv' : v' ≤ 99) (ht : told ≤ 99) (h : gMx s_ told < nI v) (hvv : v ≤ v') : gMx s_ told < nI v' := by
  rcases hs with rfl | rfl | rfl
  · simp only [gMx, Nat.reduceEqDiff, true_and, and_true, false_and, and_false, if_true, if_false, eq_self, and_self, Nat.reduceLT, Nat.reduceLeDiff, Nat.reduceAdd, Nat.reduceMul, Nat.reduceDiv, Nat.one_ne_zero] at h ⊢
    rw [u_n_lt (by omega) (by omega)] at h ⊢
    omega
  · simp only [gMx, Nat.reduceEqDiff, true_and, and_true, false_and, and_false, if_true, if_false, eq_self, and_self, Nat.reduceLT, Nat.reduceLeDiff, Nat.reduceAdd, Nat.reduceMul, Nat.reduceDiv, Nat.one_ne_zero] at h ⊢
    rw [u_pred_lt (by omega) (by omega)] at h ⊢
    omega
  · simp only [gMx, Nat.reduceEqDiff, true_and, and_true, false_and, and_false, if_true, if_false, eq_self, and_self, Nat.reduceLT, Nat.reduceLeDiff, Nat.reduceAdd, Nat.reduceMul, Nat.reduceDiv, Nat.one_ne_zero] at h ⊢
    rw [u_n_lt (by omega) (by omega)] at h ⊢
    omega
def wSg (m : Nat → Nat → Nat) (q y : Nat) : Nat := if y < 5 then m 30 (4 * q + (y - 1)) else 61
def wTo (m : Nat → Nat → Nat) (u : Nat → Int32) (q : Nat) (o : Nat → Nat) (place y : Nat) (g : Nat → Nat) : Nat :=
  if y < 5 then m 31 (4 * q + (y - 1)) else if m 33 (3 * q + (y - 5)) = o place then cvl u (tq m q (m 35 (3 * q + (y - 5)))) (g (m 35 (3 * q + (y - 5)))) (m 36 (3 * q + (y - 5))) else cvl u (tq m q (m 33 (3 * q + (y - 5)))) (g (m 33 (3 * q + (y - 5)))) (m 34 (3 * q + (y - 5)))
/-- the events of an index way from an entry on -/
def ixE (m : Nat → Nat → Nat) (u : Nat → Int32) (t k s_ told : Nat) (E : Nat → List (Nat ⊕ (Nat → Nat))) (gn : Nat) (lf : Option Nat) : List (Nat ⊕ (Nat → Nat)) :=
  ixR t k (min (ff u t (m 15 k) (ent m u t (m 15 k)) (lsM s_ told)) ((ent m u t (m 15 k)).length - 1)) (ent m u t (m 15 k)).length (fun j => (ent m u t (m 15 k)).getD j 0) (fun r => hold s_ told (cvl u t r (m 15 k))) E ((ent m u t (m 15 k)).length - gn) gn lf
/-- the events of a place from a row or an entry on -/
def itR (m : Nat → Nat → Nat) (u : Nat → Int32) (q : Nat) (o ways : Nat → Nat) (ix : Nat → Option Nat) (place : Nat) (g : Nat → Nat) (E : Nat → List (Nat ⊕ (Nat → Nat))) (gn : Nat) (lf : Option Nat) : List (Nat ⊕ (Nat → Nat)) :=
  if ways place = 0 then pgR (tq m q (o place)) E (m 3 (tq m q (o place))) gn
  else ixE m u (tq m q (o place)) ((ix place).getD 0) (wSg m q (ways place)) (wTo m u q o place (ways place) g) E gn lf
/-! the entries, sorted -/
def vE (m : Nat → Nat → Nat) (u : Nat → Int32) (t c j : Nat) : Nat := cvl u t ((ent m u t c).getD j 0) c
theorem ent_m (W : WT m u) (ht : t < m 1 0) (hc : c < m 2 t) (hj : j < (ent m u t c).length) : (ent m u t c).getD j 0 < m 3 t ∧ th m t ((ent m u t c).getD j 0) = true ∧ (ent m u t c).getD j 0 < 40 := by
  have h1 := W.nt
  have := (mem_eN (W.vg ht hc) (Nat.le_refl 40)).mp (ent_eN (m := m) (u := u) (t := t) (c := c) ▸ getD_mem hj)
  exact ⟨W.th_lt (by omega) this.1 this.2, this.2, this.1⟩
theorem ent_v (W : WT m u) (ht : t < m 1 0) (hc : c < m 2 t) (hj : j < (ent m u t c).length) : vl u t ((ent m u t c).getD j 0) c = nI (vE m u t c j) ∧ vE m u t c j ≤ 99 := by
  obtain ⟨a1, a2, a3⟩ := ent_m W ht hc hj
  exact cvl_n W ht hc a3 a2
theorem ent_up (W : WT m u) (ht : t < m 1 0) (hc : c < m 2 t) (hjj : j ≤ j') (hj : j' < (ent m u t c).length) : vE m u t c j ≤ vE m u t c j' := by
  by_cases e : j = j'
  · rw [e]; exact Nat.le_refl _
  · have hp := eN_p (m := m) (u := u) (t := t) (c := c) (Nat.le_refl 40)
    rw [← ent_eN] at hp
    have h3 := List.pairwise_iff_getElem.mp hp j j' (by omega) hj (by omega)
    rw [← getD_e (by omega), ← getD_e hj] at h3
    obtain ⟨a1, a2, a3⟩ := ent_m W ht hc (j := j) (by omega)
    obtain ⟨b1, b2, b3⟩ := ent_m W ht hc hj
    simp only [kv] at h3
    have e1 : vE m u t c j = tN (vl u t ((ent m u t c).getD j 0) c) := rfl
    have e2 : vE m u t c j' = tN (vl u t ((ent m u t c).getD j' 0) c) := rfl
    omega
theorem ff_lo {l : Nat} (hj : j < ff u t c (ent m u t c) l) : vE m u t c j < l := by
  have hle := ff_le (u := u) (t := t) (c := c) (E := ent m u t c) (l := l)
  have : (ent m u t c).getD j 0 ∈ (ent m u t c).take (ff u t c (ent m u t c) l) := by
    rw [← getD_take hj]
    refine getD_mem ?_
    rw [List.length_take]
    omega
  exact mem_take_ff this
theorem ff_hi (W : WT m u) (ht : t < m 1 0) (hc : c < m 2 t) {l : Nat} (hf : ff u t c (ent m u t c) l ≤ j) (hj : j < (ent m u t c).length) : l ≤ vE m u t c j := by
  have hp := eN_p (m := m) (u := u) (t := t) (c := c) (Nat.le_refl 40)
  rw [← ent_eN] at hp
  refine mem_drop_ff (E := ent m u t c) (r := (ent m u t c).getD j 0) hp (fun r hr => ?_) ?_
  · have := (mem_eN (W.vg ht hc) (Nat.le_refl 40)).mp (ent_eN (m := m) (u := u) (t := t) (c := c) ▸ hr)
    omega
  · rw [List.mem_iff_getElem]
    refine ⟨j - ff u t c (ent m u t c) l, by rw [List.length_drop]; omega, ?_⟩
    rw [List.getElem_drop, getD_e hj]
    congr 1
    omega
end IXM
