section KAPP
variable {m m' : Nat → Nat → Nat} {u w w' : Nat → Int32} {L L0 L2 : List Nat} {σ σ' σ0 s s2 σ1 : St} {N kk n q p d ban t c k a x i j f b y key F p3 : Nat} {v wi was win p2 : Int32}
def cAp (m : Nat → Nat → Nat) (d : Nat) (was win : Int32) (x : Nat) : Nat := if x = d ∧ win = was then pkN win true x (pkN was false x (m 51 x)) - 1 else pkN win true x (pkN was false x (m 51 x))
theorem pkD_le : pkN wi false d c ≤ c := by
  unfold pkN udN
  rw [if_neg (by decide)]
  omega
theorem cAp_le : cAp m d was win x ≤ m 51 x + 3 := by
  have h1 := pkD_le (wi := was) (d := x) (c := m 51 x)
  have h2 := pkN_le (wi := win) (d := x) (c := pkN was false x (m 51 x))
  unfold cAp
  split <;> omega
theorem c_endAppeal (C : CD m w σ) (hn : 0 < m 52 0) (hn2 : m 52 0 ≤ 512) (hd : d < 2) (ha : a < 2 ^ 20) (hb : b < 2 ^ 20) (hc : ∀ d, d < 2 → m 51 d < 90000) (hwas : isWi was) (h4 : sP σ 2 0 4 0 = was)
    (m51 : ∀ x, x < 2 → m' 51 x = cAp m d was (wn (nI a) (nI b)) x) (m46 : ∀ x, x < 2 → m' 46 x = m 46 x) (m52 : m' 52 0 = m 52 0) (m16 : m' 16 0 = 0) (hw : ∀ j, j < 2 * m 52 0 - 2 → w' j = w j) (hwa : w' (2 * m 52 0 - 2) = nI a) (hwb : w' (2 * m 52 0 - 1) = nI b) {K : St → Prop}
    (h : ∀ s, CD m' w' s → sP s 2 0 4 0 = wn (nI a) (nI b) → (∀ k i f j, k ≠ 2 → sP s k i f j = sP σ k i f j) → sL_ s = sL_ σ → sQ s = sQ σ → sD_ s = sD_ σ → sV s = sV σ → K s) : z_X2_endAppeal N 0 (nI d) (nI a) (nI b) σ K := by
  obtain ⟨d1, d2, d3, d4, d5, d6, d7⟩ := C
  simp only [z_X2_endAppeal, u_br_True, u_br_False, u_jn_u, u_lt_u, u_nn_s, u_brn_s, u_brn_n, ↓li_m1, li_0, li_1, li_2, li_3, li_4, li_5, li_6, li_7, li_8, li_9, li_10, li_12, li_13, li_26, li_40, li_60, li_61, li_62, li_99, li_100, li_102, li_106, li_114, li_112, li_117, li_108, li_103, li_120, li_300, li_360, li_512, li_1000]
  refine c_pay (up := false) (cs := fun d => m 51 d) (wi := was) h4 hwas (fun d hd => ⟨d1 d hd, by have := hc d hd; omega⟩) (fun s1 p1 k1 => ?_)
  have e3 : sP s1 2 0 3 0 = nI (m 52 0) := (k1.1 2 0 3 0 (fun e => absurd e.2.2.1 (by decide))).trans d4
  rw [c_setRes e3 hn hn2 ha hb]
  obtain ⟨s2, es2⟩ : ∃ s2, s2 = stP (stP (stP s1 2 0 2 (2 * m 52 0 - 2) (nI a)) 2 0 2 (2 * m 52 0 - 1) (nI b)) 2 0 4 0 (wn (nI a) (nI b)) := ⟨_, rfl⟩
  rw [← es2]
  have q2 : ∀ f j, f ≠ 2 → f ≠ 4 → sP s2 2 0 f j = sP s1 2 0 f j := fun f j f2 f4 => by
    rw [es2, sP_stP, if_neg (fun e => f4 e.2.2.1), sP_stP, if_neg (fun e => f2 e.2.2.1), sP_stP, if_neg (fun e => f2 e.2.2.1)]
  have q24 : sP s2 2 0 4 0 = wn (nI a) (nI b) := by rw [es2]; simp only [sP_stP, Nat.reduceEqDiff, true_and, and_true, false_and, and_false, if_true, if_false, eq_self, and_self, Nat.reduceLT, Nat.reduceLeDiff, Nat.reduceAdd, Nat.reduceMul, Nat.reduceDiv, Nat.one_ne_zero]
  refine c_pay (up := true) (cs := fun d => pkN was false d (m 51 d)) (wi := wn (nI a) (nI b)) q24 wn_is (fun x hx => ⟨(q2 0 x (by decide) (by decide)).trans (p1 x hx), by have := hc x hx; have := pkD_le (wi := was) (d := x) (c := m 51 x); omega⟩) (fun s3 p3 k3 => ?_)
  have e34 : sP s3 2 0 4 0 = wn (nI a) (nI b) := (k3.1 2 0 4 0 (fun e => absurd e.2.2.1 (by decide))).trans q24
  have fin_ : ∀ s, (∀ x, x < 2 → sP s 2 0 0 x = nI (cAp m d was (wn (nI a) (nI b)) x)) → KD0 s3 s → K (stP s 2 0 5 0 (nI 0)) := by
    intro s ps ks
    have r2 : ∀ f j, f ≠ 0 → f ≠ 5 → sP (stP s 2 0 5 0 (nI 0)) 2 0 f j = sP s2 2 0 f j := fun f j f0 f5 => by
      rw [sP_stP, if_neg (fun e => f5 e.2.2.1), ks.1 2 0 f j (fun e => f0 e.2.2.1), k3.1 2 0 f j (fun e => f0 e.2.2.1)]
    have r1 : ∀ f j, f ≠ 0 → f ≠ 5 → f ≠ 2 → f ≠ 4 → sP (stP s 2 0 5 0 (nI 0)) 2 0 f j = sP σ 2 0 f j := fun f j f0 f5 f2 f4 => by
      rw [r2 f j f0 f5, q2 f j f2 f4, k1.1 2 0 f j (fun e => f0 e.2.2.1)]
    refine h _ ⟨fun x hx => ?_, fun x hx => ?_, fun j hj => ?_, ?_, fun _ => ?_, ?_, fun j hj => ?_⟩ ((r2 4 0 (by decide) (by decide)).trans q24) (fun k i f j hk => ?_) ?_ ?_ ?_ ?_
    · rw [sP_stP, if_neg (fun e => absurd e.2.2.1 (by decide)), ps x hx, m51 x hx]
    · rw [r1 1 x (by decide) (by decide) (by decide) (by decide), d2 x hx, m46 x hx]
    · rw [m52] at hj
      rw [r2 2 j (by decide) (by decide), es2]
      simp only [sP_stP, Nat.reduceEqDiff, true_and, and_true, false_and, and_false, if_true, if_false, eq_self, and_self, Nat.reduceLT, Nat.reduceLeDiff, Nat.reduceAdd, Nat.reduceMul, Nat.reduceDiv, Nat.one_ne_zero]
      by_cases j1 : j = 2 * m 52 0 - 1
      · rw [if_pos j1, j1, hwb]
      · rw [if_neg j1]
        by_cases j2 : j = 2 * m 52 0 - 2
        · rw [if_pos j2, j2, hwa]
        · rw [if_neg j2, hw j (by omega), k1.1 2 0 2 j (fun e => absurd e.2.2.1 (by decide))]
          exact d3 j (by omega)
    · rw [r1 3 0 (by decide) (by decide) (by decide) (by decide), m52]
      exact d4
    · rw [r2 4 0 (by decide) (by decide), q24, m52, hwa, hwb]
    · rw [m16]
      simp only [sP_stP, Nat.reduceEqDiff, true_and, and_true, false_and, and_false, if_true, if_false, eq_self, and_self, Nat.reduceLT, Nat.reduceLeDiff, Nat.reduceAdd, Nat.reduceMul, Nat.reduceDiv, Nat.one_ne_zero]
    · rw [m52] at hj
      by_cases j1 : j = 2 * m 52 0 - 1
      · exact ⟨b, hb, by rw [j1, hwb]⟩
      · by_cases j2 : j = 2 * m 52 0 - 2
        · exact ⟨a, ha, by rw [j2, hwa]⟩
        · rw [hw j (by omega)]
          exact d7 j (by omega)
    · rw [sP_stP, if_neg (fun e => hk e.1), ks.1 k i f j (fun e => hk e.1), k3.1 k i f j (fun e => hk e.1), es2, sP_stP, if_neg (fun e => hk e.1), sP_stP, if_neg (fun e => hk e.1), sP_stP, if_neg (fun e => hk e.1), k1.1 k i f j (fun e => hk e.1)]
    · exact (ks.2.1.trans k3.2.1).trans (by rw [es2]; exact k1.2.1)
    · exact (ks.2.2.1.trans k3.2.2.1).trans (by rw [es2]; exact k1.2.2.1)
    · exact (ks.2.2.2.1.trans k3.2.2.2.1).trans (by rw [es2]; exact k1.2.2.2.1)
    · exact (ks.2.2.2.2.trans k3.2.2.2.2).trans (by rw [es2]; exact k1.2.2.2.2)
  rw [e34, h4]
  by_cases he : wn (nI a) (nI b) = was
  · rw [u_br_t he, c_give (v := mI) (up := false) (a := 1) (c := pkN (wn (nI a) (nI b)) true d (pkN was false d (m 51 d))) hd (p3 d hd) (by
      have := hc d hd
      have := pkD_le (wi := was) (d := d) (c := m 51 d)
      have := pkN_le (wi := wn (nI a) (nI b)) (d := d) (c := pkN was false d (m 51 d))
      omega) (by decide) rfl]
    refine fin_ _ (fun x hx => ?_) (KD0.st hd)
    unfold cAp
    by_cases e : x = d
    · subst e
      rw [if_pos ⟨rfl, he⟩]
      simp only [sP_stP, Nat.reduceEqDiff, true_and, and_true, false_and, and_false, if_true, if_false, eq_self, and_self, Nat.reduceLT, Nat.reduceLeDiff, Nat.reduceAdd, Nat.reduceMul, Nat.reduceDiv, Nat.one_ne_zero]
      rfl
    · rw [if_neg (fun h => e h.1), sP_stP, if_neg (fun h => e h.2.2.2)]
      exact p3 x hx
  · rw [u_br_f he]
    refine fin_ _ (fun x hx => ?_) ⟨fun _ _ _ _ _ => rfl, rfl, rfl, rfl, rfl⟩
    unfold cAp
    rw [if_neg (fun h => he h.2)]
    exact p3 x hx
def mAp (m : Nat → Nat → Nat) (d : Nat) (was win : Int32) : Nat → Nat → Nat := mu (mu (mu (mu (mu (mu m 16 0 0) 51 0 (pkN was false 0 (m 51 0))) 51 1 (pkN was false 1 (m 51 1))) 51 0 (pkN win true 0 (pkN was false 0 (m 51 0)))) 51 1 (pkN win true 1 (pkN was false 1 (m 51 1)))) 51 d (cAp m d was win d)
theorem mAp51 (hd : d < 2) (hx : x < 2) : mAp m d was win 51 x = cAp m d was win x := by
  unfold mAp
  by_cases e : x = d
  · subst e
    rw [mu_eq]
  · rw [mu_nj e]
    have e9 : ¬ (x = d ∧ win = was) := fun h => e h.1
    have e2 : x = 0 ∨ x = 1 := by omega
    rcases e2 with rfl | rfl
    · rw [mu_nj (by decide), mu_eq]
      unfold cAp
      rw [if_neg e9]
    · rw [mu_eq]
      unfold cAp
      rw [if_neg e9]
theorem mAp_f (h1 : f ≠ 16) (h2 : f ≠ 51) : mAp m d was win f j = m f j := by
  unfold mAp
  rw [mu_ne h2, mu_ne h2, mu_ne h2, mu_ne h2, mu_ne h2, mu_ne h1]
theorem mAp16 : mAp m d was win 16 0 = 0 := by
  unfold mAp
  rw [mu_ne (by decide), mu_ne (by decide), mu_ne (by decide), mu_ne (by decide), mu_ne (by decide), mu_eq]
theorem r_mostM (hc : c < 100000) (ha : a < 4) {K : Int32 → Prop} : z_X12_most N (nI 0) (nI c - nI a) σ K = K (nI (c - a)) := by
  have h := r_mostP (N := N) (σ := σ) (up := false) hc ha (K := K)
  have e2 : nI c + sgU false * nI a = nI c - nI a := by
    show nI c + mI * nI a = nI c - nI a
    rw [mI_mul, Int32.sub_eq_add_neg]
  rw [e2] at h
  exact h
end KAPP
