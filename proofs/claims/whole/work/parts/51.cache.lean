section CACHE
variable {m m' : Nat → Nat → Nat} {u u' w : Nat → Int32} {L E : List Nat} {σ σ' σ1 : St} {N kk t c k n F key : Nat}
/-- the cache after a key is read -/
def lkL (F key : Nat) (L : List Nat) : List Nat := if key ∈ L then key :: L.eraseIdx (L.idxOf key) else (key :: L).take F
def CK (F : Nat) (L : List Nat) : Prop := F ≤ 12 ∧ L.length ≤ F ∧ L.Nodup ∧ ∀ x ∈ L, x < 1000
theorem CK.lk (C : CK F L) (hk : key < 1000) : CK F (lkL F key L) := by
  obtain ⟨c1, c2, c3, c4⟩ := C
  unfold lkL
  by_cases h : key ∈ L
  · have hi := List.idxOf_lt_length_of_mem h
    rw [if_pos h]
    refine ⟨c1, ?_, ?_, ?_⟩
    · rw [List.length_cons, List.length_eraseIdx, if_pos hi]; omega
    · rw [List.nodup_cons]
      refine ⟨?_, c3.sublist (List.eraseIdx_sublist _ _)⟩
      rw [← List.erase_eq_eraseIdx_of_idxOf (l := L) (a := key) rfl]
      intro h9
      exact absurd rfl ((List.Nodup.mem_erase_iff c3).mp h9).1
    · intro x hx
      rw [List.mem_cons] at hx
      rcases hx with rfl | hx
      · exact hk
      · exact c4 x (List.mem_of_mem_eraseIdx hx)
  · rw [if_neg h]
    refine ⟨c1, by rw [List.length_take, List.length_cons]; omega, ?_, ?_⟩
    · exact (List.nodup_cons.mpr ⟨h, c3⟩).sublist (List.take_sublist _ _)
    · intro x hx
      have := List.mem_of_mem_take hx
      rw [List.mem_cons] at this
      rcases this with rfl | hx
      · exact hk
      · exact c4 x hx
theorem era_get : ∀ (L : List Nat) (i j : Nat), (L.eraseIdx i).getD j 0 = if j < i then L.getD j 0 else L.getD (j + 1) 0
  | [], i, j => by simp
  | a :: L, 0, j => by simp
  | a :: L, i + 1, 0 => by simp
  | a :: L, i + 1, j + 1 => by
    simp only [List.eraseIdx_cons_succ, List.getD_cons_succ]
    rw [era_get L i j]
    by_cases h : j < i
    · rw [if_pos h, if_pos (by omega)]
    · rw [if_neg h, if_neg (by omega)]
/-- the place up to which the keys move -/
def mvP (F key : Nat) (L : List Nat) : Nat := if key ∈ L then L.idxOf key else min (L.length + 1) F - 1
theorem lkL_len (C : CK F L) : (lkL F key L).length = if key ∈ L then L.length else min (L.length + 1) F := by
  unfold lkL
  by_cases h : key ∈ L
  · have hi := List.idxOf_lt_length_of_mem h
    rw [if_pos h, if_pos h, List.length_cons, List.length_eraseIdx, if_pos hi]; omega
  · rw [if_neg h, if_neg h, List.length_take, List.length_cons]; omega
theorem getD_take {i j : Nat} (h : j < i) : (L.take i).getD j 0 = L.getD j 0 := by
  rw [List.getD_eq_getElem?_getD, List.getD_eq_getElem?_getD, List.getElem?_take, if_pos h]
theorem lkL_get (C : CK F L) {j : Nat} (hj : j < (lkL F key L).length) : (lkL F key L).getD j 0 = if j = 0 then key else if j ≤ mvP F key L then L.getD (j - 1) 0 else L.getD j 0 := by
  rw [lkL_len C] at hj
  unfold lkL mvP
  by_cases h : key ∈ L
  · rw [if_pos h] at hj
    rw [if_pos h, if_pos h]
    by_cases h0 : j = 0
    · subst h0; simp
    · obtain ⟨i, rfl⟩ : ∃ i, j = i + 1 := ⟨j - 1, by omega⟩
      rw [List.getD_cons_succ, era_get, if_neg h0]
      by_cases h1 : i < L.idxOf key
      · rw [if_pos h1, if_pos (by omega)]; rfl
      · rw [if_neg h1, if_neg (by omega)]
  · rw [if_neg h] at hj
    rw [if_neg h, if_neg h, getD_take (by omega)]
    by_cases h0 : j = 0
    · subst h0; simp
    · obtain ⟨i, rfl⟩ : ∃ i, j = i + 1 := ⟨j - 1, by omega⟩
      rw [List.getD_cons_succ, if_neg h0, if_pos (by omega)]; rfl
/-! the class's caches -/
def CO (σ : St) (c F : Nat) (L : List Nat) : Prop := sP σ 0 c 1 0 = nI F ∧ sP σ 0 c 2 0 = nI L.length ∧ ∀ j, j < L.length → sP σ 0 c 0 j = nI (L.getD j 0)
def K0 (c : Nat) (σ σ' : St) : Prop := (∀ k' i f j, ¬ (k' = 0 ∧ i = c ∧ (f = 0 ∨ f = 2)) → sP σ' k' i f j = sP σ k' i f j) ∧ sL_ σ' = sL_ σ ∧ sQ σ' = sQ σ ∧ sD_ σ' = sD_ σ ∧ sV σ' = sV σ
theorem K0.refl : K0 c σ σ := ⟨fun _ _ _ _ _ => rfl, rfl, rfl, rfl, rfl⟩
theorem K0.trans {σ2 : St} (a : K0 c σ σ') (b : K0 c σ' σ2) : K0 c σ σ2 := ⟨fun k' i f j h => (b.1 k' i f j h).trans (a.1 k' i f j h), b.2.1.trans a.2.1, b.2.2.1.trans a.2.2.1, b.2.2.2.1.trans a.2.2.2.1, b.2.2.2.2.trans a.2.2.2.2⟩
theorem K0.st {f j : Nat} {v : Int32} (h : K0 c σ σ') (hf : f = 0 ∨ f = 2) : K0 c σ (stP σ' 0 c f j v) := by
  refine ⟨fun k' i f' j' hn => ?_, h.2.1, h.2.2.1, h.2.2.2.1, h.2.2.2.2⟩
  rw [sP_stP, if_neg (fun e => hn ⟨e.1, e.2.1, by rw [e.2.2.1]; exact hf⟩)]
  exact h.1 k' i f' j' hn
theorem idx_step : ∀ (L : List Nat) (i : Nat), i ≤ L.idxOf key → i < L.length → if L.getD i 0 = key then i = L.idxOf key else i + 1 ≤ L.idxOf key
  | [], i, _, h => absurd h (by simp)
  | a :: L, 0, _, _ => by
    by_cases h : a = key
    · subst h; simp
    · have hb : (a == key) = false := beq_eq_false_iff_ne.mpr h
      simp [h, List.idxOf_cons, hb]
  | a :: L, i + 1, h1, h2 => by
    by_cases h : a = key
    · subst h; simp at h1
    · have e : (a :: L).idxOf key = L.idxOf key + 1 := by simp [List.idxOf_cons, show (a == key) = false from beq_eq_false_iff_ne.mpr h]
      rw [e] at h1 ⊢
      have := idx_step L i (by omega) (by simpa using h2)
      rw [List.getD_cons_succ]
      split at this
      · rename_i h3; rw [if_pos h3]; omega
      · rename_i h3; rw [if_neg h3]; omega
theorem c_placeOf (hN : 1000000 ≤ N) (X : CO σ c F L) (C : CK F L) (hk : key < 1000) {K : Int32 → Prop} (h : K (nI (L.idxOf key))) : z_X0_placeOf N c (nI key) σ K := by
  obtain ⟨c1, c2, c3, c4⟩ := C
  have hle : L.idxOf key ≤ L.length := List.idxOf_le_length
  unfold z_X0_placeOf
  refine for_1 (L.idxOf key) (by omega) (by omega) (fun _ => True) 0 (by omega) (fun self i hi _ hs => ?_) trivial
  by_cases hl : i < L.length
  · have hm := c4 _ (getD_mem hl)
    have h1 := idx_step (key := key) L i hi hl
    by_cases he : L.getD i 0 = key
    · rw [if_pos he] at h1
      simp (disch := omega) only [u_br_True, u_br_False, u_jn_u, u_lt_u, u_nn_s, u_brn_s, u_brn_n, nI_add, u_n_mul, u_n_lt, u_n_le, u_n_eq, u_n_sub, u_n_div, u_n_mod, nI_clamp, u_m1, u_m1q, u_wI_n, u_wA_n, u_br_t, u_br_f, ↓li_m1, li_0, li_1, li_2, li_3, li_4, li_5, li_6, li_7, li_8, li_9, li_10, li_12, li_13, li_26, li_40, li_60, li_61, li_62, li_99, li_100, li_102, li_106, li_114, li_112, li_117, li_108, li_103, li_120, li_300, li_360, li_512, li_1000, X.2.1, X.2.2 i hl]
      rw [h1]; exact h
    · rw [if_neg he] at h1
      simp (disch := omega) only [u_br_True, u_br_False, u_jn_u, u_lt_u, u_nn_s, u_brn_s, u_brn_n, nI_add, u_n_mul, u_n_lt, u_n_le, u_n_eq, u_n_sub, u_n_div, u_n_mod, nI_clamp, u_m1, u_m1q, u_wI_n, u_wA_n, u_br_t, u_br_f, ↓li_m1, li_0, li_1, li_2, li_3, li_4, li_5, li_6, li_7, li_8, li_9, li_10, li_12, li_13, li_26, li_40, li_60, li_61, li_62, li_99, li_100, li_102, li_106, li_114, li_112, li_117, li_108, li_103, li_120, li_300, li_360, li_512, li_1000, X.2.1, X.2.2 i hl]
      exact hs h1 trivial
  · simp (disch := omega) only [u_br_True, u_br_False, u_jn_u, u_lt_u, u_nn_s, u_brn_s, u_brn_n, nI_add, u_n_mul, u_n_lt, u_n_le, u_n_eq, u_n_sub, u_n_div, u_n_mod, nI_clamp, u_m1, u_m1q, u_wI_n, u_wA_n, u_br_t, u_br_f, ↓li_m1, li_0, li_1, li_2, li_3, li_4, li_5, li_6, li_7, li_8, li_9, li_10, li_12, li_13, li_26, li_40, li_60, li_61, li_62, li_99, li_100, li_102, li_106, li_114, li_112, li_117, li_108, li_103, li_120, li_300, li_360, li_512, li_1000, X.2.1]
    rw [show i = L.idxOf key by omega]; exact h
theorem c_missed (hN : 1000000 ≤ N) (X : CO σ c F L) (C : CK F L) (hk : key < 1000) {K : Int32 → St → Prop} (h : ∀ σ', CO σ' c F (lkL F key L) → K0 c σ σ' → K (if key ∈ L then nI 0 else nI 1) σ') : z_X0_missed N c (nI key) σ K := by
  have C1 := C
  obtain ⟨c1, c2, c3, c4⟩ := C
  have hle : L.idxOf key ≤ L.length := List.idxOf_le_length
  have hlen := lkL_len (key := key) C1
  unfold z_X0_missed
  refine c_placeOf hN X C1 hk ?_
  have shift : ∀ (v : Int32) (p : Nat) (s : St), p = mvP F key L → p < 12 → K0 c σ s → sP s 0 c 1 0 = nI F → sP s 0 c 2 0 = nI (lkL F key L).length → 0 < (lkL F key L).length → (∀ j, sP s 0 c 0 j = sP σ 0 c 0 j) → narrow .boolean (.int v) = .int v → v = (if key ∈ L then nI 0 else nI 1) → 
      fx2 (fun (w70 : Int32 → St → Prop) (x9 : Int32) (h8 : St) => br (x9 ≤ 0) (wA 12 (0 : Int32) (stP h8 0 c 0 ((0 : Int32)).toNatClampNeg (nI key)) fun h11 => ok (narrow .boolean (.int v) = .int v) <| K v h11) (wI 12 (x9 - 1) <| wA 12 x9 (stP h8 0 c 0 (x9).toNatClampNeg (sP h8 0 c 0 ((x9 - 1)).toNatClampNeg)) fun h15 => w70 (x9 + (-1)) h15)) N (nI p) s := by
    intro v p s hp hp12 hK0 hF hS hpos hsame hnar hv
    refine down_u 0 p (by omega) (by omega) (by omega) (fun i s' => K0 c σ s' ∧ sP s' 0 c 1 0 = nI F ∧ sP s' 0 c 2 0 = nI (lkL F key L).length ∧ ∀ j, sP s' 0 c 0 j = if i < j ∧ j ≤ p then sP σ 0 c 0 (j - 1) else sP σ 0 c 0 j) (fun self i s' h1 h2 hI hs => ?_) ⟨hK0, hF, hS, fun j => by rw [if_neg (by omega)]; exact hsame j⟩
    obtain ⟨i1, i2, i3, i4⟩ := hI
    by_cases hi : i = 0
    · subst hi
      simp (disch := omega) only [u_br_True, u_br_False, u_jn_u, u_lt_u, u_nn_s, u_brn_s, u_brn_n, nI_add, u_n_mul, u_n_lt, u_n_le, u_n_eq, u_n_sub, u_n_div, u_n_mod, nI_clamp, u_m1, u_m1q, u_wI_n, u_wA_n, u_br_t, u_br_f, ↓li_m1, li_0, li_1, li_2, li_3, li_4, li_5, li_6, li_7, li_8, li_9, li_10, li_12, li_13, li_26, li_40, li_60, li_61, li_62, li_99, li_100, li_102, li_106, li_114, li_112, li_117, li_108, li_103, li_120, li_300, li_360, li_512, li_1000]
      rw [u_ok_t hnar, hv]
      refine h _ ⟨by simp only [sP_stP, Nat.reduceEqDiff, true_and, and_true, false_and, and_false, if_true, if_false, eq_self, and_self, Nat.reduceLT, Nat.reduceLeDiff, Nat.reduceAdd, Nat.reduceMul, Nat.reduceDiv, Nat.one_ne_zero]; exact i2, by simp only [sP_stP, Nat.reduceEqDiff, true_and, and_true, false_and, and_false, if_true, if_false, eq_self, and_self, Nat.reduceLT, Nat.reduceLeDiff, Nat.reduceAdd, Nat.reduceMul, Nat.reduceDiv, Nat.one_ne_zero]; exact i3, fun j hj => ?_⟩ (i1.st (Or.inl rfl))
      rw [lkL_get C1 hj]
      simp only [sP_stP, Nat.reduceEqDiff, true_and, and_true, false_and, and_false, if_true, if_false, eq_self, and_self, Nat.reduceLT, Nat.reduceLeDiff, Nat.reduceAdd, Nat.reduceMul, Nat.reduceDiv, Nat.one_ne_zero]
      by_cases hj0 : j = 0
      · rw [if_pos hj0, if_pos hj0]
      · rw [if_neg hj0, if_neg hj0, i4 j, ← hp]
        rw [hlen] at hj
        by_cases hjp : j ≤ p
        · rw [if_pos ⟨by omega, hjp⟩, if_pos hjp]
          refine X.2.2 (j - 1) ?_
          split at hj <;> omega
        · rw [if_neg (by omega), if_neg hjp]
          refine X.2.2 j ?_
          unfold mvP at hp
          split at hj
          · omega
          · rename_i h9
            rw [if_neg h9] at hp
            omega
    · simp (disch := omega) only [u_br_True, u_br_False, u_jn_u, u_lt_u, u_nn_s, u_brn_s, u_brn_n, nI_add, u_n_mul, u_n_lt, u_n_le, u_n_eq, u_n_sub, u_n_div, u_n_mod, nI_clamp, u_m1, u_m1q, u_wI_n, u_wA_n, u_br_t, u_br_f, ↓li_m1, li_0, li_1, li_2, li_3, li_4, li_5, li_6, li_7, li_8, li_9, li_10, li_12, li_13, li_26, li_40, li_60, li_61, li_62, li_99, li_100, li_102, li_106, li_114, li_112, li_117, li_108, li_103, li_120, li_300, li_360, li_512, li_1000, u_addm]
      refine hs _ (by omega) ⟨i1.st (Or.inl rfl), by simp only [sP_stP, Nat.reduceEqDiff, true_and, and_true, false_and, and_false, if_true, if_false, eq_self, and_self, Nat.reduceLT, Nat.reduceLeDiff, Nat.reduceAdd, Nat.reduceMul, Nat.reduceDiv, Nat.one_ne_zero]; exact i2, by simp only [sP_stP, Nat.reduceEqDiff, true_and, and_true, false_and, and_false, if_true, if_false, eq_self, and_self, Nat.reduceLT, Nat.reduceLeDiff, Nat.reduceAdd, Nat.reduceMul, Nat.reduceDiv, Nat.one_ne_zero]; exact i3, fun j => ?_⟩
      simp only [sP_stP, Nat.reduceEqDiff, true_and, and_true, false_and, and_false, if_true, if_false, eq_self, and_self, Nat.reduceLT, Nat.reduceLeDiff, Nat.reduceAdd, Nat.reduceMul, Nat.reduceDiv, Nat.one_ne_zero]
      by_cases hj : j = i
      · rw [if_pos hj, i4, if_neg (by omega), if_pos (by omega), hj]
      · rw [if_neg hj, i4]
        by_cases h4 : i < j ∧ j ≤ p
        · rw [if_pos h4, if_pos (by omega)]
        · rw [if_neg h4, if_neg (by omega)]
  by_cases hm : key ∈ L
  · have hi := List.idxOf_lt_length_of_mem hm
    rw [if_pos hm] at hlen
    have := shift (nI 0) (L.idxOf key) σ (by unfold mvP; rw [if_pos hm]) (by omega) K0.refl X.1 (by rw [hlen]; exact X.2.1) (by omega) (fun _ => rfl) u_nb_0 (by rw [if_pos hm])
    simp (disch := omega) only [u_br_True, u_br_False, u_jn_u, u_lt_u, u_nn_s, u_brn_s, u_brn_n, nI_add, u_n_mul, u_n_lt, u_n_le, u_n_eq, u_n_sub, u_n_div, u_n_mod, nI_clamp, u_m1, u_m1q, u_wI_n, u_wA_n, u_br_t, u_br_f, ↓li_m1, li_0, li_1, li_2, li_3, li_4, li_5, li_6, li_7, li_8, li_9, li_10, li_12, li_13, li_26, li_40, li_60, li_61, li_62, li_99, li_100, li_102, li_106, li_114, li_112, li_117, li_108, li_103, li_120, li_300, li_360, li_512, li_1000, X.1, X.2.1, b10, b00, f_0, f_1, u_okT, u_nb_0, u_nb_1, sP_stP, Nat.reduceEqDiff, true_and, and_true, false_and, and_false, if_true, if_false, eq_self, and_self, Nat.reduceLT, Nat.reduceLeDiff, Nat.reduceAdd, Nat.reduceMul, Nat.reduceDiv, Nat.one_ne_zero] at this ⊢
    rw [if_neg (by omega)]
    exact this
  · have hi : L.idxOf key = L.length := List.idxOf_eq_length hm
    rw [if_neg hm] at hlen
    by_cases hF : F = 0
    · simp (disch := omega) only [hi, u_br_True, u_br_False, u_jn_u, u_lt_u, u_nn_s, u_brn_s, u_brn_n, nI_add, u_n_mul, u_n_lt, u_n_le, u_n_eq, u_n_sub, u_n_div, u_n_mod, nI_clamp, u_m1, u_m1q, u_wI_n, u_wA_n, u_br_t, u_br_f, ↓li_m1, li_0, li_1, li_2, li_3, li_4, li_5, li_6, li_7, li_8, li_9, li_10, li_12, li_13, li_26, li_40, li_60, li_61, li_62, li_99, li_100, li_102, li_106, li_114, li_112, li_117, li_108, li_103, li_120, li_300, li_360, li_512, li_1000, X.1, X.2.1, b10, b00, f_0, f_1, u_okT, u_nb_0, u_nb_1]
      have := h σ ?_ K0.refl
      · rw [if_neg hm] at this; exact this
      · have e : lkL F key L = L := by
          apply List.length_eq_zero_iff.mp (by omega) |>.trans
          exact (List.length_eq_zero_iff.mp (by omega : L.length = 0)).symm
        rw [e]; exact X
    · have e9 : (if F < L.length + 1 then nI F else nI (L.length + 1)) = nI (min (L.length + 1) F) := by
        split
        · rw [Nat.min_eq_right (by omega)]
        · rw [Nat.min_eq_left (by omega)]
      have := shift (nI 1) (min (L.length + 1) F - 1) (stP σ 0 c 2 0 (nI (min (L.length + 1) F))) (by unfold mvP; rw [if_neg hm]) (by omega) (K0.refl.st (Or.inr rfl)) (by simp only [sP_stP, Nat.reduceEqDiff, true_and, and_true, false_and, and_false, if_true, if_false, eq_self, and_self, Nat.reduceLT, Nat.reduceLeDiff, Nat.reduceAdd, Nat.reduceMul, Nat.reduceDiv, Nat.one_ne_zero]; exact X.1) (by rw [hlen]; simp only [sP_stP, Nat.reduceEqDiff, true_and, and_true, false_and, and_false, if_true, if_false, eq_self, and_self, Nat.reduceLT, Nat.reduceLeDiff, Nat.reduceAdd, Nat.reduceMul, Nat.reduceDiv, Nat.one_ne_zero]) (by omega) (fun j => by simp only [sP_stP, Nat.reduceEqDiff, true_and, and_true, false_and, and_false, if_true, if_false, eq_self, and_self, Nat.reduceLT, Nat.reduceLeDiff, Nat.reduceAdd, Nat.reduceMul, Nat.reduceDiv, Nat.one_ne_zero]) u_nb_1 (by rw [if_neg hm])
      simp (disch := omega) only [hi, u_br_True, u_br_False, u_jn_u, u_lt_u, u_nn_s, u_brn_s, u_brn_n, nI_add, u_n_mul, u_n_lt, u_n_le, u_n_eq, u_n_sub, u_n_div, u_n_mod, nI_clamp, u_m1, u_m1q, u_wI_n, u_wA_n, u_br_t, u_br_f, ↓li_m1, li_0, li_1, li_2, li_3, li_4, li_5, li_6, li_7, li_8, li_9, li_10, li_12, li_13, li_26, li_40, li_60, li_61, li_62, li_99, li_100, li_102, li_106, li_114, li_112, li_117, li_108, li_103, li_120, li_300, li_360, li_512, li_1000, X.1, X.2.1, b10, b00, f_0, f_1, u_okT, u_nb_0, u_nb_1, e9, sP_stP, Nat.reduceEqDiff, true_and, and_true, false_and, and_false, if_true, if_false, eq_self, and_self, Nat.reduceLT, Nat.reduceLeDiff, Nat.reduceAdd, Nat.reduceMul, Nat.reduceDiv, Nat.one_ne_zero] at this ⊢
      rw [if_neg (by omega)]
      exact this
theorem c_drop (hN : 1000000 ≤ N) (X : CO σ c F L) (hL : L.length ≤ 12) (hx : ∀ x ∈ L, x < 1000) {lo hi : Nat} (hlo : lo < 2000) (hhi : hi < 2000) {K : St → Prop}
    (h : ∀ σ', CO σ' c F (L.filter (fun x => !(decide (lo ≤ x) && decide (x ≤ hi)))) → K0 c σ σ' → K σ') : z_X0_drop N c (nI lo) (nI hi) σ K := by
  unfold z_X0_drop
  refine for_m L.length (by omega) (by omega) (fun i x s => K0 c σ s ∧ sP s 0 c 2 0 = nI L.length ∧ ∃ kept, x = nI kept ∧ cpI (fun j => sP s 0 c 0 j) L (fun x => !(decide (lo ≤ x) && decide (x ≤ hi))) i kept) 0 (by omega) (fun self i x s hi' hI hs => ?_) ⟨K0.refl, X.2.1, 0, rfl, cp_0 X.2.2⟩
  obtain ⟨i1, i2, kept, rfl, i3⟩ := hI
  have hle := cp_le i3
  by_cases hl : i < L.length
  · have e := i3.2.2 i (Nat.le_refl _) hl
    have hr40 := hx _ (getD_mem hl)
    simp only at e
    by_cases hd : lo ≤ L.getD i 0 ∧ L.getD i 0 ≤ hi
    · obtain ⟨hd1, hd2⟩ := hd
      simp (disch := omega) only [u_br_True, u_br_False, u_jn_u, u_lt_u, u_nn_s, u_brn_s, u_brn_n, nI_add, u_n_mul, u_n_lt, u_n_le, u_n_eq, u_n_sub, u_n_div, u_n_mod, nI_clamp, u_m1, u_m1q, u_wI_n, u_wA_n, u_br_t, u_br_f, ↓li_m1, li_0, li_1, li_2, li_3, li_4, li_5, li_6, li_7, li_8, li_9, li_10, li_12, li_13, li_26, li_40, li_60, li_61, li_62, li_99, li_100, li_102, li_106, li_114, li_112, li_117, li_108, li_103, li_120, li_300, li_360, li_512, li_1000, i2, e, b10, b00, f_0, f_1, u_okT, u_nb_0, u_nb_1]
      exact hs _ _ hl ⟨i1, i2, kept, rfl, cp_skip i3 hl (by show ¬ (!(decide (lo ≤ L.getD i 0) && decide (L.getD i 0 ≤ hi))) = true; rw [decide_eq_true hd1, decide_eq_true hd2]; decide)⟩
    · have hg : ∀ s', K0 c σ s' → sP s' 0 c 2 0 = nI L.length → cpI (fun j => sP s' 0 c 0 j) L (fun x => !(decide (lo ≤ x) && decide (x ≤ hi))) (i + 1) (kept + 1) → self (nI (kept + 1)) (nI (i + 1)) s' := fun s' a b d => hs _ _ hl ⟨a, b, kept + 1, rfl, d⟩
      have hfin : self (nI (kept + 1)) (nI (i + 1)) (stP s 0 c 0 kept (nI (L.getD i 0))) := by
        refine hg _ (i1.st (Or.inl rfl)) (by simp only [sP_stP, Nat.reduceEqDiff, true_and, and_true, false_and, and_false, if_true, if_false, eq_self, and_self, Nat.reduceLT, Nat.reduceLeDiff, Nat.reduceAdd, Nat.reduceMul, Nat.reduceDiv, Nat.one_ne_zero]; exact i2) (cp_keep i3 hl ?_ (fun j => ?_))
        · show (!(decide (lo ≤ L.getD i 0) && decide (L.getD i 0 ≤ hi))) = true
          rw [Bool.not_eq_true', Bool.and_eq_false_iff, decide_eq_false_iff_not, decide_eq_false_iff_not]
          omega
        · simp only [sP_stP, Nat.reduceEqDiff, true_and, and_true, false_and, and_false, if_true, if_false, eq_self, and_self, Nat.reduceLT, Nat.reduceLeDiff, Nat.reduceAdd, Nat.reduceMul, Nat.reduceDiv, Nat.one_ne_zero]
          split
          · exact e.symm
          · rfl
      by_cases hd1 : L.getD i 0 < lo
      · simp (disch := omega) only [u_br_True, u_br_False, u_jn_u, u_lt_u, u_nn_s, u_brn_s, u_brn_n, nI_add, u_n_mul, u_n_lt, u_n_le, u_n_eq, u_n_sub, u_n_div, u_n_mod, nI_clamp, u_m1, u_m1q, u_wI_n, u_wA_n, u_br_t, u_br_f, ↓li_m1, li_0, li_1, li_2, li_3, li_4, li_5, li_6, li_7, li_8, li_9, li_10, li_12, li_13, li_26, li_40, li_60, li_61, li_62, li_99, li_100, li_102, li_106, li_114, li_112, li_117, li_108, li_103, li_120, li_300, li_360, li_512, li_1000, i2, e, b10, b00, f_0, f_1, u_okT, u_nb_0, u_nb_1]
        exact hfin
      · simp (disch := omega) only [u_br_True, u_br_False, u_jn_u, u_lt_u, u_nn_s, u_brn_s, u_brn_n, nI_add, u_n_mul, u_n_lt, u_n_le, u_n_eq, u_n_sub, u_n_div, u_n_mod, nI_clamp, u_m1, u_m1q, u_wI_n, u_wA_n, u_br_t, u_br_f, ↓li_m1, li_0, li_1, li_2, li_3, li_4, li_5, li_6, li_7, li_8, li_9, li_10, li_12, li_13, li_26, li_40, li_60, li_61, li_62, li_99, li_100, li_102, li_106, li_114, li_112, li_117, li_108, li_103, li_120, li_300, li_360, li_512, li_1000, i2, e, b10, b00, f_0, f_1, u_okT, u_nb_0, u_nb_1]
        exact hfin
  · have hi2 : i = L.length := by omega
    subst hi2
    obtain ⟨e1, e2⟩ := cp_end i3
    simp (disch := omega) only [u_br_True, u_br_False, u_jn_u, u_lt_u, u_nn_s, u_brn_s, u_brn_n, nI_add, u_n_mul, u_n_lt, u_n_le, u_n_eq, u_n_sub, u_n_div, u_n_mod, nI_clamp, u_m1, u_m1q, u_wI_n, u_wA_n, u_br_t, u_br_f, ↓li_m1, li_0, li_1, li_2, li_3, li_4, li_5, li_6, li_7, li_8, li_9, li_10, li_12, li_13, li_26, li_40, li_60, li_61, li_62, li_99, li_100, li_102, li_106, li_114, li_112, li_117, li_108, li_103, li_120, li_300, li_360, li_512, li_1000, i2]
    refine h _ ⟨?_, ?_, ?_⟩ (i1.st (Or.inr rfl))
    · simp only [sP_stP, Nat.reduceEqDiff, true_and, and_true, false_and, and_false, if_true, if_false, eq_self, and_self, Nat.reduceLT, Nat.reduceLeDiff, Nat.reduceAdd, Nat.reduceMul, Nat.reduceDiv, Nat.one_ne_zero]; rw [i1.1 0 c 1 0 (by omega)]; exact X.1
    · simp only [sP_stP, Nat.reduceEqDiff, true_and, and_true, false_and, and_false, if_true, if_false, eq_self, and_self, Nat.reduceLT, Nat.reduceLeDiff, Nat.reduceAdd, Nat.reduceMul, Nat.reduceDiv, Nat.one_ne_zero]; rw [e1]
    · intro j hj
      simp only [sP_stP, Nat.reduceEqDiff, true_and, and_true, false_and, and_false, if_true, if_false, eq_self, and_self, Nat.reduceLT, Nat.reduceLeDiff, Nat.reduceAdd, Nat.reduceMul, Nat.reduceDiv, Nat.one_ne_zero]
      exact e2 j (by omega)
end CACHE
