section CROW
variable {m : Nat → Nat → Nat} {u w : Nat → Int32} {L : List Nat} {σ σ' s s2 σ1 : St} {N kk n q p d ban t c k a x i place v told F key p3 p4 r : Nat} {g o : Nat → Nat} {A : Nat → Bool} {cc : Option Nat} {p2 : Int32} {rs : RSt} {vf : (Nat → Nat) → Int32} {sub : List (Nat ⊕ (Nat → Nat))} {zv : Nat → Int32 → St → (St → Prop) → Prop}
def gU (g : Nat → Nat) (x r : Nat) : Nat → Nat := fun y => if y = x then r else g y
/-- the events of a run from a place on -/
def evs (o : Nat → Nat) (its : Nat → (Nat → Nat) → List (List Nat × Option Nat)) (fit : Nat → (Nat → Nat) → Bool) : Nat → Nat → (Nat → Nat) → List (Nat ⊕ (Nat → Nat))
  | 0, _, g => [.inr g]
  | d + 1, place, g => (its place g).flatMap (fun it => it.1.map .inl ++ (match it.2 with
    | none => []
    | some r => if fit place (gU g (o place) r) = true then evs o its fit d (place + 1) (gU g (o place) r) else []))
def Apl (o : Nat → Nat) (n place x : Nat) : Bool := ahead o place x || decide (n ≤ x)
/-- the class's state on a visit of a place -/
def VS (m : Nat → Nat → Nat) (u : Nat → Int32) (q i : Nat) (o : Nat → Nat) (σ : St) (place : Nat) (g : Nat → Nat) : Prop :=
  SS m u σ ∧ sQ σ 8 0 2 0 = some q ∧ sQ σ 8 0 3 0 = some i ∧ PQ σ i (m 25 q) o ∧ HE m u q σ (ahead o place) g ∧ (∀ x, x < 3 → Apl o (m 25 q) place x = true → sP σ 8 0 5 x = nI (g x)) ∧ ∀ x, x < m 25 q → ahead o place x = true → g x < 40 ∧ th m (tq m q x) (g x) = true
theorem VS.kv (V : VS m u q i o σ place g) (k : KV cc σ s) (h : KH (Apl o (m 25 q) place) σ s) : VS m u q i o s place g := by
  obtain ⟨v1, v2, v3, v4, v5, v6, v7⟩ := V
  refine ⟨v1.kx k.kx, by rw [k.2.2.1]; exact v2, by rw [k.2.2.1]; exact v3, k.pq v4, fun x hx ha c hc => ?_, fun x hx ha => ?_, v7⟩
  · rw [(h x hx (by simp [Apl, ha])).2 c hc]
    exact v5 x hx ha c hc
  · rw [(h x hx ha).1]
    exact v6 x hx ha
theorem RVs.st {f j : Nat} {v : Int32} (R : RVs σ cc F p2 p3 p4 rs) (hf : f = 5 ∨ f = 6) : RVs (stP σ 8 0 f j v) cc F p2 p3 p4 rs := by
  obtain ⟨r1, r2, r3, r4, r5, r6, r7, r8, r9, r10, r11⟩ := R
  have e : ∀ k i' f' j', ¬ (k = 8 ∧ (f' = 5 ∨ f' = 6)) → sP (stP σ 8 0 f j v) k i' f' j' = sP σ k i' f' j' := fun k i' f' j' hn => by rw [sP_stP, if_neg (fun e => hn ⟨e.1, by rw [e.2.2.1]; exact hf⟩)]
  unfold RVs CO at *
  rw [e 8 0 7 0 (by omega), e 8 0 8 0 (by omega), e 8 0 9 0 (by omega), e 8 0 11 0 (by omega), e 8 0 12 0 (by omega), e 8 0 13 0 (by omega), e 8 0 14 0 (by omega)]
  refine ⟨r1, r2, r3, r4, r5, r6, r7, r8, r9, r10, fun c hc => ?_⟩
  rw [e 0 c 1 0 (by omega), e 0 c 2 0 (by omega)]
  obtain ⟨x1, x2⟩ := r11 c hc
  exact ⟨⟨x1.1, x1.2.1, fun j hj => by rw [e 0 c 0 j (by omega)]; exact x1.2.2 j hj⟩, x2⟩
theorem KH.mono {B : Nat → Bool} (h : KH B σ s) (hb : ∀ x, x < 3 → A x = true → B x = true) : KH A σ s := fun x hx ha => h x hx (hb x hx ha)
/-- one row is visited -/
theorem c_row (hN : 1000000 ≤ N) (W : WQ m) (Wt : WT m u) (hq : q < m 24 0) (ho : PN (m 25 q) o) (hpl : place < m 25 q) (hr : r < 40) (R : RVs σ cc F p2 p3 p4 rs) (V : VS m u q i o σ place g) (hp3 : p3 < m 25 q) (hp4 : p4 < 3) (hvf : ∀ g, vf g = vl u (tq m q p3) (g p3) p4)
    (hsub : place + 1 = m 25 q → sub = [.inr (gU g (o place) r)])
    (hz : place + 1 < m 25 q → ∀ s, RVs s cc F p2 p3 p4 rs → KV cc σ s → VS m u q i o s (place + 1) (gU g (o place) r) → ∀ {K : St → Prop}, (∀ s2, RVs s2 cc F p2 p3 p4 (sub.foldl (stEv cc F p2 p3 vf) rs) → KV cc s s2 → KH (Apl o (m 25 q) (place + 1)) s s2 → K s2) → zv 0 (nI (place + 1)) s K)
    {K : St → Prop} (h : ∀ s, RVs s cc F p2 p3 p4 ((if fitM m u q (gU g (o place) r) (withP o place) (o place) = true then sub else []).foldl (stEv cc F p2 p3 vf) rs) → KV cc σ s → KH (Apl o (m 25 q) place) σ s → K s) : z_X8_visitRow zv N 0 (nI place) (some (tq m q (o place))) (nI r) σ K := by
  obtain ⟨v1, v2, v3, v4, v5, v6, v7⟩ := V
  have w3 := W.2.2 q hq
  have h1 := Wt.nt
  have hop := ho.1 place hpl
  have ht : tq m q (o place) < m 1 0 := w3.2.2.2.1 _ hop
  have T := v1.2.1.2.2.2 _ ht
  have nA : ahead o place (o place) = false := by
    cases e : ahead o place (o place) with
    | false => rfl
    | true => have := (aheadN_o ho hpl (by omega : place ≤ m 25 q)).mp e; omega
  have gx : ∀ x, ahead o place x = true → gU g (o place) r x = g x := fun x hx => by
    unfold gU
    rw [if_neg (fun e => by rw [e, nA] at hx; cases hx)]
  have go : gU g (o place) r (o place) = r := by simp [gU]
  have H' : HE m u q σ (ahead o place) (gU g (o place) r) := fun x hx ha c hc => by rw [gx x ha]; exact v5 x hx ha c hc
  have hg' : ∀ x, x < m 25 q → ahead o place x = true → gU g (o place) r x < 40 ∧ th m (tq m q x) (gU g (o place) r x) = true := fun x hx ha => by rw [gx x ha]; exact v7 x hx ha
  simp (disch := omega) only [z_X8_visitRow, v3, u_br_True, u_br_False, u_jn_u, u_lt_u, u_nn_s, u_brn_s, u_brn_n, c_posQ v4 w3.1 hpl, nI_add, u_n_mul, u_n_lt, u_n_le, u_n_eq, u_n_sub, u_n_div, u_n_mod, nI_clamp, u_m1, u_m1q, u_wI_n, u_wA_n, u_br_t, u_br_f, ↓li_m1, li_0, li_1, li_2, li_3, li_4, li_5, li_6, li_7, li_8, li_9, li_10, li_12, li_13, li_26, li_40, li_60, li_61, li_62, li_99, li_100, li_102, li_106, li_114, li_112, li_117, li_108, li_103, li_120, li_300, li_360, li_512, li_1000]
  have cf : ∀ {K' : Int32 → Prop}, K' (bI (fitM m u q (gU g (o place) r) (withP o place) (o place))) → z_X8_fits N 0 (nI place) (some (tq m q (o place))) (nI r) σ K' := fun {K'} hK => by
    have c1 := c_fits (K := K') (N := N) (place := place) hN v1 W Wt hq v2 v3 v4 ho hpl (by rw [go]; exact hr) hg' H' hK
    rw [go] at c1
    exact c1
  refine cf ?_
  cases hfit : fitM m u q (gU g (o place) r) (withP o place) (o place) with
  | false =>
    rw [bI_f, u_br_t rfl]
    rw [if_neg (by rw [hfit]; decide)] at h
    exact h σ R KV.refl KH.refl
  | true =>
    rw [if_pos hfit] at h
    have hth : th m (tq m q (o place)) r = true := by
      unfold fitM at hfit
      rw [go] at hfit
      cases e : th m (tq m q (o place)) r with
      | true => rfl
      | false => rw [e] at hfit; simp at hfit
    have hr3 : r < m 3 (tq m q (o place)) := by
      refine Nat.lt_of_not_le (fun h9 => ?_)
      have := Wt.2.2.2.2.2.1 _ _ (by omega) hr h9
      simp [th, this] at hth
    rw [bI_t, u_br_f (by rw [b10]; exact fun h => h)]
    have nAp : ∀ x, x < 3 → Apl o (m 25 q) place x = true → x ≠ o place := fun x hx ha e => by
      subst e
      simp only [Apl, nA, Bool.false_or, decide_eq_true_eq] at ha
      omega
    have kh1 : ∀ s : St, (∀ x, x ≠ o place → sP s 8 0 5 x = sP σ 8 0 5 x) → (∀ y, (y < 3 * o place ∨ 3 * o place + 2 < y) → sP s 8 0 6 y = sP σ 8 0 6 y) → KH (Apl o (m 25 q) place) σ s := fun s a b x hx ha => ⟨a x (nAp x hx ha), fun c hc => b _ (by have := nAp x hx ha; omega)⟩
    refine for_u 3 (by omega) (by omega) (fun j s => RVs s cc F p2 p3 p4 rs ∧ KV cc σ s ∧ (∀ x, x ≠ o place → sP s 8 0 5 x = sP σ 8 0 5 x) ∧ (∀ y, (y < 3 * o place ∨ 3 * o place + 2 < y) → sP s 8 0 6 y = sP σ 8 0 6 y) ∧ sP s 8 0 5 (o place) = nI r ∧ ∀ c, c < j → sP s 8 0 6 (3 * o place + c) = vl u (tq m q (o place)) r c) 0 (by omega) (fun self j s hj hI hs => ?_)
      ⟨R.st (Or.inl rfl), KV.refl.st (by omega), fun x hx => by rw [sP_stP, if_neg (fun e => hx e.2.2.2)], fun y _ => by rw [sP_stP, if_neg (fun e => by have := e.2.2.1; omega)], by simp only [sP_stP, Nat.reduceEqDiff, true_and, and_true, false_and, and_false, if_true, if_false, eq_self, and_self, Nat.reduceLT, Nat.reduceLeDiff, Nat.reduceAdd, Nat.reduceMul, Nat.reduceDiv, Nat.one_ne_zero], fun c hc => by omega⟩
    obtain ⟨i1, i2, i3, i4, i5, i6⟩ := hI
    have e3 : sQ s 8 0 3 0 = some i := by rw [i2.2.2.1]; exact v3
    have T' := (v1.kx i2.kx).2.1.2.2.2 _ ht
    by_cases hl : j < 3
    · simp (disch := omega) only [u_br_True, u_br_False, u_jn_u, u_lt_u, u_nn_s, u_brn_s, u_brn_n, nI_add, u_n_mul, u_n_lt, u_n_le, u_n_eq, u_n_sub, u_n_div, u_n_mod, nI_clamp, u_m1, u_m1q, u_wI_n, u_wA_n, u_br_t, u_br_f, ↓li_m1, li_0, li_1, li_2, li_3, li_4, li_5, li_6, li_7, li_8, li_9, li_10, li_12, li_13, li_26, li_40, li_60, li_61, li_62, li_99, li_100, li_102, li_106, li_114, li_112, li_117, li_108, li_103, li_120, li_300, li_360, li_512, li_1000, c_cell T' hr3 hr hl]
      refine hs _ hl ⟨i1.st (Or.inr rfl), i2.st (by omega), fun x hx => ?_, fun y hy => ?_, ?_, fun c hc => ?_⟩
      · rw [sP_stP, if_neg (fun e => by have := e.2.2.1; omega)]; exact i3 x hx
      · rw [sP_stP, if_neg (fun e => by have := e.2.2.2; omega)]; exact i4 y hy
      · rw [sP_stP, if_neg (fun e => by have := e.2.2.1; omega)]; exact i5
      · rw [sP_stP]
        by_cases e : c = j
        · subst e
          rw [if_pos ⟨rfl, rfl, rfl, by omega⟩]
        · rw [if_neg (fun h => by have := h.2.2.2; omega)]
          exact i6 c (by omega)
    · have hj3 : j = 3 := by omega
      subst hj3
      have kh := kh1 s i3 i4
      have e5 := i2.pq v4
      have aS : ∀ x, ahead o (place + 1) x = (ahead o place x || (o place == x)) := fun x => ahead_s
      have V' : VS m u q i o s (place + 1) (gU g (o place) r) := by
        refine ⟨v1.kx i2.kx, by rw [i2.2.2.1]; exact v2, e3, e5, fun x hx ha c hc => ?_, fun x hx ha => ?_, fun x hx ha => ?_⟩
        · rw [aS] at ha
          by_cases e : x = o place
          · subst e
            rw [go]; exact i6 c hc
          · have ha' : ahead o place x = true := by
              rw [Bool.or_eq_true] at ha
              rcases ha with ha | ha
              · exact ha
              · exact absurd (beq_iff_eq.mp ha).symm e
            rw [(kh x hx (by simp [Apl, ha'])).2 c hc]
            exact H' x hx ha' c hc
        · by_cases e : x = o place
          · subst e
            rw [go]; exact i5
          · rw [i3 x e]
            have ha' : Apl o (m 25 q) place x = true := by
              unfold Apl at ha ⊢
              rw [aS, beq_eq_false_iff_ne.mpr (fun e' => e e'.symm), Bool.or_false] at ha
              exact ha
            rw [v6 x hx ha']
            unfold gU
            rw [if_neg e]
        · by_cases e : x = o place
          · subst e
            rw [go]; exact ⟨hr, hth⟩
          · rw [aS, beq_eq_false_iff_ne.mpr (fun e' => e e'.symm), Bool.or_false] at ha
            exact hg' x hx ha
      have khm : ∀ s2, KH (Apl o (m 25 q) (place + 1)) s s2 → KH (Apl o (m 25 q) place) σ s2 := fun s2 hk => kh.trans (hk.mono (fun x _ ha => by
        unfold Apl at ha ⊢
        rw [aS]
        cases ha1 : ahead o place x <;> simp_all))
      simp (disch := omega) only [u_br_True, u_br_False, u_jn_u, u_lt_u, u_nn_s, u_brn_s, u_brn_n, nI_add, u_n_mul, u_n_lt, u_n_le, u_n_eq, u_n_sub, u_n_div, u_n_mod, nI_clamp, u_m1, u_m1q, u_wI_n, u_wA_n, u_br_t, u_br_f, ↓li_m1, li_0, li_1, li_2, li_3, li_4, li_5, li_6, li_7, li_8, li_9, li_10, li_12, li_13, li_26, li_40, li_60, li_61, li_62, li_99, li_100, li_102, li_106, li_114, li_112, li_117, li_108, li_103, li_120, li_300, li_360, li_512, li_1000, e3, z_X5_size, e5.1]
      by_cases hlast : place + 1 = m 25 q
      · rw [u_br_t hlast]
        rw [hsub hlast] at h
        have hall : ∀ x, x < 3 → Apl o (m 25 q) (place + 1) x = true := fun x hx => by
          unfold Apl
          by_cases hxn : m 25 q ≤ x
          · simp [hxn]
          · obtain ⟨y, hy, rfl⟩ := ho.2.2 x (by omega)
            rw [(aheadN_o ho hy (by omega : place + 1 ≤ m 25 q)).mpr (by omega)]
            rfl
        refine c_note hN (g := gU g (o place) r) (vf := vf) i1 (by omega) hp4 (fun x hx => V'.2.2.2.2.2.1 x hx (hall x hx)) ?_ (fun s2 r2 k2 h2 => h s2 r2 (i2.trans k2) (khm s2 (h2 _)))
        have ha3 : ahead o (place + 1) p3 = true := by
          obtain ⟨y, hy, rfl⟩ := ho.2.2 p3 hp3
          exact (aheadN_o ho hy (by omega : place + 1 ≤ m 25 q)).mpr (by omega)
        rw [hvf]
        exact V'.2.2.2.2.1 p3 (by omega) ha3 p4 hp4
      · rw [u_br_f hlast]
        exact hz (by omega) s i1 i2 V' (fun s2 r2 k2 h2 => h s2 r2 (i2.trans k2) (khm s2 h2))
end CROW
