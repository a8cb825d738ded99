section KEYS
variable {m m' : Nat → Nat → Nat} {u w w' : Nat → Int32} {L L0 : List Nat} {σ σ' σ0 s s2 σ1 : St} {N kk n q p d ban t c k a x i j f b y key F p3 : Nat} {v wi p2 : Int32} {cs : Nat → Nat} {up : Bool} {E : Nat → List (Nat ⊕ (Nat → Nat))} {hd : Nat → Bool} {En : Nat → Nat} {vf : (Nat → Nat) → Int32}
def okKey (m : Nat → Nat → Nat) (x : Nat) : Prop := x < 300 ∨ ∃ k, k < m 13 0 ∧ 300 + 100 * k ≤ x ∧ x < 400 + 100 * k
def okEs (m : Nat → Nat → Nat) (es : List (Nat ⊕ (Nat → Nat))) : Prop := ∀ x, Sum.inl x ∈ es → okKey m x
theorem okEs_app {a b : List (Nat ⊕ (Nat → Nat))} (h1 : okEs m a) (h2 : okEs m b) : okEs m (a ++ b) := fun x hx => by
  rw [List.mem_append] at hx
  rcases hx with hx | hx
  · exact h1 x hx
  · exact h2 x hx
theorem okEs_one (h : okKey m x) : okEs m [Sum.inl x] := fun y hy => by
  simp only [List.mem_singleton, Sum.inl.injEq] at hy
  rw [hy]; exact h
theorem okEs_nil : okEs m [] := fun x hx => by simp at hx
theorem okEs_if {c : Prop} [Decidable c] {a b : List (Nat ⊕ (Nat → Nat))} (h1 : c → okEs m a) (h2 : ¬ c → okEs m b) : okEs m (if c then a else b) := by
  by_cases h : c
  · rw [if_pos h]; exact h1 h
  · rw [if_neg h]; exact h2 h
theorem okEs_fm {l : List Nat} {f : Nat → List (Nat ⊕ (Nat → Nat))} (h : ∀ r ∈ l, okEs m (f r)) : okEs m (l.flatMap f) := fun x hx => by
  rw [List.mem_flatMap] at hx
  obtain ⟨r, h1, h2⟩ := hx
  exact h r h1 x h2
theorem okE_pg (ht : t < 3) (hn : n ≤ 40) (h : ∀ r, okEs m (E r)) : okEs m (pgR t E n j) := okEs_fm (fun r hr => by
  rw [List.mem_range'] at hr
  obtain ⟨i, h1, h2⟩ := hr
  exact okEs_app (okEs_if (fun _ => okEs_one (Or.inl (by omega))) (fun _ => okEs_nil)) (h r))
theorem okE_ix {fz len : Nat} (ht : t < 3) (hk : k < m 13 0) (hf : fz < 100) (hE : ∀ i, En i < 40) (h : ∀ r, okEs m (E r)) : ∀ d j lf, j + d ≤ 100 → okEs m (ixR t k fz len En hd E d j lf)
  | 0, j, lf, _ => by
    rw [ixR_0]
    exact okEs_if (fun _ => okEs_one (Or.inr ⟨k, hk, by omega, by omega⟩)) (fun _ => okEs_nil)
  | d + 1, j, lf, hj => by
    have h1 : okEs m (ixR t k fz len En hd E d (j + 1) (some (j / 8))) := okE_ix ht hk hf hE h d (j + 1) _ (by omega)
    have h2 : okEs m (ixR t k fz len En hd E d (j + 1) lf) := okE_ix ht hk hf hE h d (j + 1) lf (by omega)
    have h3 := hE j
    simp only [ixR]
    refine okEs_if (fun _ => okEs_app (okEs_if (fun _ => okEs_nil) (fun _ => okEs_one (Or.inr ⟨k, hk, by omega, by omega⟩))) (okEs_app (a := Sum.inl (100 * t + En j / 4) :: E (En j)) ?_ h1)) (fun _ => h2)
    exact okEs_app (a := [Sum.inl (100 * t + En j / 4)]) (okEs_one (Or.inl (by omega))) (h _)
theorem ev_keys (W : WQ m) (Wt : WT m u) (Wx : WX m) (hq : q < m 24 0) : ∀ e place g, place + e ≤ m 25 q → okEs m (evG m u q (plO m q ban d) (itm_ m u q ban d) e place g)
  | 0, place, g, _ => fun x hx => by simp [evG] at hx
  | e + 1, place, g, hp => by
    have w3 := W.2.2 q hq
    have h1 := Wt.nt
    have ho : PN (m 25 q) (plO m q ban d) := PN_pl w3.1
    have hop := ho.1 place (by omega)
    have ht : tq m q (plO m q ban d place) < m 1 0 := w3.2.2.2.1 _ hop
    have h3 := Wt.2.2.2.1 (tq m q (plO m q ban d place)) (by omega)
    have hE : ∀ r, okEs m (if fitM m u q (gU g (plO m q ban d place) r) (withP (plO m q ban d) place) (plO m q ban d place) = true then evG m u q (plO m q ban d) (itm_ m u q ban d) e (place + 1) (gU g (plO m q ban d place) r) else []) := fun r => okEs_if (fun _ => ev_keys W Wt Wx hq e (place + 1) _ (by omega)) (fun _ => okEs_nil)
    simp only [evG, itm_, itR]
    refine okEs_if (fun _ => okE_pg (by omega) h3 hE) (fun hy => ?_)
    obtain ⟨k, k1, k2, k3⟩ := wIdx_k (plW_ok (ban := ban) (d := d) w3.1 (by omega : place < m 25 q)) hy
    obtain ⟨ht', hc'⟩ := Wx.2 k k2
    rw [k3] at ht' hc'
    have h40 := ent_len40 Wt ht' hc'
    have e5 : plI m q ban d place = some k := k1
    rw [e5]
    unfold ixE
    simp only [Option.getD_some]
    refine okE_ix (by omega) k2 (by omega) (fun i => ?_) hE _ _ _ (by omega)
    by_cases hi : i < (ent m u (tq m q (plO m q ban d place)) (m 15 k)).length
    · exact (ent_m Wt ht' hc' hi).2.2
    · rw [List.getD_eq_getElem?_getD, List.getElem?_eq_none (by omega)]
      decide
theorem lk_mem (h : x ∈ lkL F key L) : x = key ∨ x ∈ L := by
  unfold lkL at h
  split at h
  · rw [List.mem_cons] at h
    rcases h with h | h
    · exact Or.inl h
    · exact Or.inr (List.mem_of_mem_eraseIdx h)
  · have := List.mem_of_mem_take h
    rw [List.mem_cons] at this
    exact this
theorem fold_keys {es : List (Nat ⊕ (Nat → Nat))} : ∀ rs : RSt, okEs m es → (∀ y ∈ rs.2.2.2.1, okKey m y) → ∀ y ∈ (es.foldl (stEv (some x) F p2 p3 vf) rs).2.2.2.1, okKey m y := by
  induction es with
  | nil => intro rs _ h; exact h
  | cons a es ih =>
    intro rs h1 h2
    rw [List.foldl_cons]
    refine ih _ (fun y hy => h1 y (List.mem_cons_of_mem _ hy)) (fun y hy => ?_)
    cases a with
    | inl k =>
      simp only [stEv] at hy
      rcases lk_mem hy with h | h
      · rw [h]; exact h1 k List.mem_cons_self
      · exact h2 y h
    | inr g => exact h2 y hy
theorem rsC_keys (W : WQ m) (Wt : WT m u) (Wx : WX m) (hq : q < m 24 0) (h : ∀ y ∈ L, okKey m y) : ∀ y ∈ (rsC m u q ban d L).2.2.2.1, okKey m y := by
  unfold rsC
  exact fold_keys (r0 L) (ev_keys W Wt Wx hq (m 25 q) 0 (fun _ => 0) (by omega)) h
theorem c_endRound (hN : 1000000 ≤ N) (C : CD m w σ) (hn : m 52 0 < 512) (ha : a < 2 ^ 20) (hb : b < 2 ^ 20) (hc : ∀ d, d < 2 → m 51 d < 100000)
    (m51 : ∀ d, d < 2 → m' 51 d = pkN (wn (nI a) (nI b)) true d (m 51 d)) (m46 : ∀ d, d < 2 → m' 46 d = 0) (m52 : m' 52 0 = m 52 0 + 1) (m16 : m' 16 0 = 1) (hw : ∀ j, j < 2 * m 52 0 → w' j = w j) (hwa : w' (2 * m 52 0) = nI a) (hwb : w' (2 * m 52 0 + 1) = nI b) {K : St → Prop}
    (h : ∀ s, CD m' w' s → sP s 2 0 4 0 = wn (nI a) (nI b) → (∀ k i f j, k ≠ 2 → sP s k i f j = sP σ k i f j) → sL_ s = sL_ σ → sQ s = sQ σ → sD_ s = sD_ σ → sV s = sV σ → K s) : z_X2_endRound N 0 (nI a) (nI b) σ K := by
  obtain ⟨d1, d2, d3, d4, d5, d6, d7⟩ := C
  have e3 : sP (stP σ 2 0 3 0 (nI (m 52 0 + 1))) 2 0 3 0 = nI (m 52 0 + 1) := by simp only [sP_stP, Nat.reduceEqDiff, true_and, and_true, false_and, and_false, if_true, if_false, eq_self, and_self, Nat.reduceLT, Nat.reduceLeDiff, Nat.reduceAdd, Nat.reduceMul, Nat.reduceDiv, Nat.one_ne_zero]
  simp (disch := omega) only [z_X2_endRound, d4, u_br_True, u_br_False, u_jn_u, u_lt_u, u_nn_s, u_brn_s, u_brn_n, nI_add, u_n_mul, u_n_lt, u_n_le, u_n_eq, u_n_sub, u_n_div, u_n_mod, nI_clamp, u_m1, u_m1q, u_wI_n, u_wA_n, u_br_t, u_br_f, ↓li_m1, li_0, li_1, li_2, li_3, li_4, li_5, li_6, li_7, li_8, li_9, li_10, li_12, li_13, li_26, li_40, li_60, li_61, li_62, li_99, li_100, li_102, li_106, li_114, li_112, li_117, li_108, li_103, li_120, li_300, li_360, li_512, li_1000]
  rw [c_setRes e3 (by omega) (by omega) ha hb]
  refine c_pay (up := true) (cs := fun d => m 51 d) (wi := wn (nI a) (nI b)) (by simp only [sP_stP, Nat.reduceEqDiff, true_and, and_true, false_and, and_false, if_true, if_false, eq_self, and_self, Nat.reduceLT, Nat.reduceLeDiff, Nat.reduceAdd, Nat.reduceMul, Nat.reduceDiv, Nat.one_ne_zero]) wn_is (fun d hd => ⟨?_, hc d hd⟩) (fun s1 p1 k1 => ?_)
  · rw [sP_stP, if_neg (fun e => absurd e.2.2.1 (by decide)), sP_stP, if_neg (fun e => absurd e.2.2.1 (by decide)), sP_stP, if_neg (fun e => absurd e.2.2.1 (by decide)), sP_stP, if_neg (fun e => absurd e.2.2.1 (by decide))]
    exact d1 d hd
  · refine for_u 2 (by omega) (by omega) (fun j s => (∀ d, d < j → sP s 2 0 1 d = nI 0) ∧ (∀ k i f j, ¬ (k = 2 ∧ i = 0 ∧ f = 1) → sP s k i f j = sP s1 k i f j) ∧ sL_ s = sL_ s1 ∧ sQ s = sQ s1 ∧ sD_ s = sD_ s1 ∧ sV s = sV s1) 0 (by omega) (fun self j s hj hI hs => ?_) ⟨fun d hd => by omega, fun _ _ _ _ _ => rfl, rfl, rfl, rfl, rfl⟩
    obtain ⟨i1, i2, i3, i4, i5, i6⟩ := hI
    by_cases hl : j < 2
    · simp (disch := omega) only [u_br_True, u_br_False, u_jn_u, u_lt_u, u_nn_s, u_brn_s, u_brn_n, nI_add, u_n_mul, u_n_lt, u_n_le, u_n_eq, u_n_sub, u_n_div, u_n_mod, nI_clamp, u_m1, u_m1q, u_wI_n, u_wA_n, u_br_t, u_br_f, ↓li_m1, li_0, li_1, li_2, li_3, li_4, li_5, li_6, li_7, li_8, li_9, li_10, li_12, li_13, li_26, li_40, li_60, li_61, li_62, li_99, li_100, li_102, li_106, li_114, li_112, li_117, li_108, li_103, li_120, li_300, li_360, li_512, li_1000]
      refine hs _ hl ⟨fun d hd => ?_, fun k i f j' hn => ?_, i3, i4, i5, i6⟩
      · rw [sP_stP]
        by_cases e : d = j
        · rw [if_pos ⟨rfl, rfl, rfl, e⟩]
        · rw [if_neg (fun h => e h.2.2.2)]
          exact i1 d (by omega)
      · rw [sP_stP, if_neg (fun e => hn ⟨e.1, e.2.1, e.2.2.1⟩)]
        exact i2 k i f j' hn
    · have hj2 : j = 2 := by omega
      subst hj2
      simp (disch := omega) only [u_br_True, u_br_False, u_jn_u, u_lt_u, u_nn_s, u_brn_s, u_brn_n, nI_add, u_n_mul, u_n_lt, u_n_le, u_n_eq, u_n_sub, u_n_div, u_n_mod, nI_clamp, u_m1, u_m1q, u_wI_n, u_wA_n, u_br_t, u_br_f, ↓li_m1, li_0, li_1, li_2, li_3, li_4, li_5, li_6, li_7, li_8, li_9, li_10, li_12, li_13, li_26, li_40, li_60, li_61, li_62, li_99, li_100, li_102, li_106, li_114, li_112, li_117, li_108, li_103, li_120, li_300, li_360, li_512, li_1000]
      have q2 : ∀ f j, f ≠ 0 → f ≠ 1 → f ≠ 5 → sP (stP s 2 0 5 0 (nI 1)) 2 0 f j = sP (stP (stP (stP (stP σ 2 0 3 0 (nI (m 52 0 + 1))) 2 0 2 (2 * (m 52 0 + 1) - 2) (nI a)) 2 0 2 (2 * (m 52 0 + 1) - 1) (nI b)) 2 0 4 0 (wn (nI a) (nI b))) 2 0 f j := fun f j f0 f1 f5 => by
        rw [sP_stP, if_neg (fun e => f5 e.2.2.1), i2 2 0 f j (fun e => f1 e.2.2), k1.1 2 0 f j (fun e => f0 e.2.2.1)]
      have e4 : sP (stP s 2 0 5 0 (nI 1)) 2 0 4 0 = wn (nI a) (nI b) := by
        rw [q2 4 0 (by decide) (by decide) (by decide)]
        simp only [sP_stP, Nat.reduceEqDiff, true_and, and_true, false_and, and_false, if_true, if_false, eq_self, and_self, Nat.reduceLT, Nat.reduceLeDiff, Nat.reduceAdd, Nat.reduceMul, Nat.reduceDiv, Nat.one_ne_zero]
      refine h _ ⟨fun d hd => ?_, fun d hd => ?_, fun j hj => ?_, ?_, fun _ => ?_, ?_, fun j hj => ?_⟩ e4 (fun k i f j hk => ?_) ?_ ?_ ?_ ?_
      · rw [sP_stP, if_neg (fun e => absurd e.2.2.1 (by decide)), i2 2 0 0 d (fun e => absurd e.2.2 (by decide)), p1 d hd, m51 d hd]
      · rw [sP_stP, if_neg (fun e => absurd e.2.2.1 (by decide)), i1 d hd, m46 d hd]
      · rw [m52] at hj
        rw [q2 2 j (by decide) (by decide) (by decide)]
        simp only [sP_stP, Nat.reduceEqDiff, true_and, and_true, false_and, and_false, if_true, if_false, eq_self, and_self, Nat.reduceLT, Nat.reduceLeDiff, Nat.reduceAdd, Nat.reduceMul, Nat.reduceDiv, Nat.one_ne_zero]
        by_cases j1 : j = 2 * m 52 0 + 1
        · rw [if_pos (by omega), j1, hwb]
        · rw [if_neg (by omega)]
          by_cases j2 : j = 2 * m 52 0
          · rw [if_pos (by omega), j2, hwa]
          · rw [if_neg (by omega), hw j (by omega)]
            exact d3 j (by omega)
      · rw [q2 3 0 (by decide) (by decide) (by decide), m52]
        simp only [sP_stP, Nat.reduceEqDiff, true_and, and_true, false_and, and_false, if_true, if_false, eq_self, and_self, Nat.reduceLT, Nat.reduceLeDiff, Nat.reduceAdd, Nat.reduceMul, Nat.reduceDiv, Nat.one_ne_zero]
      · rw [e4, m52, show 2 * (m 52 0 + 1) - 2 = 2 * m 52 0 by omega, show 2 * (m 52 0 + 1) - 1 = 2 * m 52 0 + 1 by omega, hwa, hwb]
      · rw [m16]
        simp only [sP_stP, Nat.reduceEqDiff, true_and, and_true, false_and, and_false, if_true, if_false, eq_self, and_self, Nat.reduceLT, Nat.reduceLeDiff, Nat.reduceAdd, Nat.reduceMul, Nat.reduceDiv, Nat.one_ne_zero]
      · rw [m52] at hj
        by_cases j1 : j = 2 * m 52 0 + 1
        · exact ⟨b, hb, by rw [j1, hwb]⟩
        · by_cases j2 : j = 2 * m 52 0
          · exact ⟨a, ha, by rw [j2, hwa]⟩
          · rw [hw j (by omega)]
            exact d7 j (by omega)
      · rw [sP_stP, if_neg (fun e => hk e.1), i2 k i f j (fun e => hk e.1), k1.1 k i f j (fun e => hk e.1), sP_stP, if_neg (fun e => hk e.1), sP_stP, if_neg (fun e => hk e.1), sP_stP, if_neg (fun e => hk e.1), sP_stP, if_neg (fun e => hk e.1)]
      · exact i3.trans k1.2.1
      · exact i4.trans k1.2.2.1
      · exact i5.trans k1.2.2.2.1
      · exact i6.trans k1.2.2.2.2
end KEYS
