section CNOTE
variable {m : Nat → Nat → Nat} {u w : Nat → Int32} {L : List Nat} {σ σ' s s2 σ1 : St} {N kk n q p d ban t c k a x i place v told F key p3 p4 : Nat} {g o : Nat → Nat} {A : Nat → Bool} {cc : Option Nat} {p2 : Int32}
/-- what a run has counted -/
abbrev RSt : Type := Nat × Nat × Nat × List Nat × Int64 × Int64 × Int32
def enc (g : Nat → Nat) : Int64 := it_ (fun x y => y * 40 + (nI (g x)).toInt64) 0 3
/-- one event of a run: a key is read, or rows are chosen -/
def stEv (cc : Option Nat) (F : Nat) (p2 : Int32) (p3 : Nat) (vf : (Nat → Nat) → Int32) (r : RSt) (e : Nat ⊕ (Nat → Nat)) : RSt :=
  match e with
  | .inl k => match cc with
    | none => (r.1 + 1, r.2)
    | some _ => (r.1 + 1, (if k ∈ r.2.2.2.1 then r.2.1 else r.2.1 + 1), r.2.2.1, lkL F k r.2.2.2.1, r.2.2.2.2)
  | .inr g => (r.1, r.2.1, r.2.2.1 + 1, r.2.2.2.1, r.2.2.2.2.1 + (enc g + 1) * (enc g + 31), r.2.2.2.2.2.1 + (vf g).toInt64, (if nI r.2.2.1 = p2 then nI (g p3) else r.2.2.2.2.2.2))
def RVs (σ : St) (cc : Option Nat) (F : Nat) (p2 : Int32) (p3 p4 : Nat) (r : RSt) : Prop :=
  sQ σ 8 0 4 0 = cc ∧ sP σ 8 0 7 0 = nI r.1 ∧ sP σ 8 0 8 0 = nI r.2.1 ∧ sP σ 8 0 9 0 = nI r.2.2.1 ∧ sL_ σ 8 0 10 0 = r.2.2.2.2.1 ∧ sP σ 8 0 11 0 = p2 ∧ sP σ 8 0 12 0 = nI p3 ∧ sP σ 8 0 13 0 = nI p4 ∧ sP σ 8 0 14 0 = r.2.2.2.2.2.2 ∧ sL_ σ 8 0 15 0 = r.2.2.2.2.2.1 ∧ ∀ c, cc = some c → CO σ c F r.2.2.2.1 ∧ CK F r.2.2.2.1
/-- what a run leaves untouched -/
def KV (cc : Option Nat) (σ σ' : St) : Prop := (∀ k i f j, ¬ (k = 8 ∧ i = 0 ∧ (f = 5 ∨ f = 6 ∨ f = 7 ∨ f = 8 ∨ f = 9 ∨ f = 14)) → ¬ (k = 0 ∧ cc = some i ∧ (f = 0 ∨ f = 2)) → sP σ' k i f j = sP σ k i f j) ∧ (∀ k i f j, ¬ (k = 8 ∧ i = 0 ∧ (f = 10 ∨ f = 15)) → sL_ σ' k i f j = sL_ σ k i f j) ∧ sQ σ' = sQ σ ∧ sD_ σ' = sD_ σ ∧ sV σ' = sV σ
theorem KV.refl : KV cc σ σ := ⟨fun _ _ _ _ _ _ => rfl, fun _ _ _ _ _ => rfl, rfl, rfl, rfl⟩
theorem KV.trans (h : KV cc σ σ') (g : KV cc σ' σ1) : KV cc σ σ1 := ⟨fun k i f j a b => (g.1 k i f j a b).trans (h.1 k i f j a b), fun k i f j a => (g.2.1 k i f j a).trans (h.2.1 k i f j a), g.2.2.1.trans h.2.2.1, g.2.2.2.1.trans h.2.2.2.1, g.2.2.2.2.trans h.2.2.2.2⟩
theorem KV.st {f j : Nat} {v : Int32} (h : KV cc σ σ') (hf : f = 5 ∨ f = 6 ∨ f = 7 ∨ f = 8 ∨ f = 9 ∨ f = 14) : KV cc σ (stP σ' 8 0 f j v) := by
  refine ⟨fun k' i2 f' j' h1 h2 => ?_, h.2.1, h.2.2.1, h.2.2.2.1, h.2.2.2.2⟩
  rw [sP_stP, if_neg (fun e => h1 ⟨e.1, e.2.1, by rw [e.2.2.1]; exact hf⟩)]
  exact h.1 k' i2 f' j' h1 h2
theorem KV.stl {f j : Nat} {v : Int64} (h : KV cc σ σ') (hf : f = 10 ∨ f = 15) : KV cc σ (stL σ' 8 0 f j v) := by
  refine ⟨h.1, fun k' i2 f' j' h1 => ?_, h.2.2.1, h.2.2.2.1, h.2.2.2.2⟩
  rw [sL_stL, if_neg (fun e => h1 ⟨e.1, e.2.1, by rw [e.2.2.1]; exact hf⟩)]
  exact h.2.1 k' i2 f' j' h1
theorem KV.kx (h : KV cc σ σ') : KX_ σ σ' := ⟨fun k i f j h0 h5 h6 h8 => h.1 k i f j (fun e => h8 e.1) (fun e => h0 e.1), fun k i f j _ => by rw [h.2.2.1], fun i' => by rw [h.2.2.1], h.2.2.2.2⟩
theorem KV.pq (h : KV cc σ σ') (P : PQ σ i n o) : PQ σ' i n o := by
  have e : ∀ f j, sP σ' 5 i f j = sP σ 5 i f j := fun f j => h.1 5 i f j (fun e => absurd e.1 (by decide)) (fun e => absurd e.1 (by decide))
  unfold PQ
  simp only [e]
  exact P
/-- the rows chosen and the cells held stay -/
def KH (A : Nat → Bool) (σ σ' : St) : Prop := ∀ x, x < 3 → A x = true → sP σ' 8 0 5 x = sP σ 8 0 5 x ∧ ∀ c, c < 3 → sP σ' 8 0 6 (3 * x + c) = sP σ 8 0 6 (3 * x + c)
theorem KH.refl : KH A σ σ := fun _ _ _ => ⟨rfl, fun _ _ => rfl⟩
theorem KH.trans (h : KH A σ σ') (g : KH A σ' σ1) : KH A σ σ1 := fun x hx ha => ⟨(g x hx ha).1.trans (h x hx ha).1, fun c hc => ((g x hx ha).2 c hc).trans ((h x hx ha).2 c hc)⟩
theorem KH.he (h : KH A σ σ') (H : HE m u q σ A g) : HE m u q σ' A g := fun x hx ha c hc => ((h x hx ha).2 c hc).trans (H x hx ha c hc)
theorem KH.of (h : ∀ f j, (f = 5 ∨ f = 6) → sP σ' 8 0 f j = sP σ 8 0 f j) : KH A σ σ' := fun x _ _ => ⟨h 5 x (Or.inl rfl), fun c _ => h 6 _ (Or.inr rfl)⟩
theorem c_read (hN : 1000000 ≤ N) {r : RSt} {vf : (Nat → Nat) → Int32} (R : RVs σ cc F p2 p3 p4 r) (hk : key < 1000) {K : St → Prop} (h : ∀ s, RVs s cc F p2 p3 p4 (stEv cc F p2 p3 vf r (.inl key)) → KV cc σ s → (∀ A, KH A σ s) → K s) : z_X8_readOne N 0 (nI key) σ K := by
  obtain ⟨r1, r2, r3, r4, r5, r6, r7, r8, r9, r10, r11⟩ := R
  unfold z_X8_readOne
  simp only [u_br_True, u_br_False, u_jn_u, u_lt_u, u_nn_s, u_brn_s, u_brn_n, ↓li_m1, li_0, li_1, li_2, li_3, li_4, li_5, li_6, li_7, li_8, li_9, li_10, li_12, li_13, li_26, li_40, li_60, li_61, li_62, li_99, li_100, li_102, li_106, li_114, li_112, li_117, li_108, li_103, li_120, li_300, li_360, li_512, li_1000, r2, nI_add, sQ_stP, r1]
  have k1 : KV cc σ (stP σ 8 0 7 0 (nI (r.1 + 1))) := KV.refl.st (by omega)
  have h1 : ∀ A, KH A σ (stP σ 8 0 7 0 (nI (r.1 + 1))) := fun A => KH.of (fun f j hf => by rw [sP_stP, if_neg (fun e => by have := e.2.2.1; omega)])
  cases cc with
  | none =>
    simp only [u_brn_n]
    refine h _ ⟨r1, ?_, ?_, ?_, r5, ?_, ?_, ?_, ?_, r10, fun c e => by cases e⟩ k1 h1
    · simp only [sP_stP, Nat.reduceEqDiff, true_and, and_true, false_and, and_false, if_true, if_false, eq_self, and_self, Nat.reduceLT, Nat.reduceLeDiff, Nat.reduceAdd, Nat.reduceMul, Nat.reduceDiv, Nat.one_ne_zero, stEv]
    · simp only [sP_stP, Nat.reduceEqDiff, true_and, and_true, false_and, and_false, if_true, if_false, eq_self, and_self, Nat.reduceLT, Nat.reduceLeDiff, Nat.reduceAdd, Nat.reduceMul, Nat.reduceDiv, Nat.one_ne_zero, stEv]; exact r3
    · simp only [sP_stP, Nat.reduceEqDiff, true_and, and_true, false_and, and_false, if_true, if_false, eq_self, and_self, Nat.reduceLT, Nat.reduceLeDiff, Nat.reduceAdd, Nat.reduceMul, Nat.reduceDiv, Nat.one_ne_zero, stEv]; exact r4
    · simp only [sP_stP, Nat.reduceEqDiff, true_and, and_true, false_and, and_false, if_true, if_false, eq_self, and_self, Nat.reduceLT, Nat.reduceLeDiff, Nat.reduceAdd, Nat.reduceMul, Nat.reduceDiv, Nat.one_ne_zero]; exact r6
    · simp only [sP_stP, Nat.reduceEqDiff, true_and, and_true, false_and, and_false, if_true, if_false, eq_self, and_self, Nat.reduceLT, Nat.reduceLeDiff, Nat.reduceAdd, Nat.reduceMul, Nat.reduceDiv, Nat.one_ne_zero]; exact r7
    · simp only [sP_stP, Nat.reduceEqDiff, true_and, and_true, false_and, and_false, if_true, if_false, eq_self, and_self, Nat.reduceLT, Nat.reduceLeDiff, Nat.reduceAdd, Nat.reduceMul, Nat.reduceDiv, Nat.one_ne_zero]; exact r8
    · simp only [sP_stP, Nat.reduceEqDiff, true_and, and_true, false_and, and_false, if_true, if_false, eq_self, and_self, Nat.reduceLT, Nat.reduceLeDiff, Nat.reduceAdd, Nat.reduceMul, Nat.reduceDiv, Nat.one_ne_zero, stEv]; exact r9
  | some c =>
    simp only [u_brn_s, u_nn_s]
    obtain ⟨x1, x2⟩ := r11 c rfl
    have X1 : CO (stP σ 8 0 7 0 (nI (r.1 + 1))) c F r.2.2.2.1 := by
      unfold CO at x1 ⊢
      simp only [sP_stP, Nat.reduceEqDiff, true_and, and_true, false_and, and_false, if_true, if_false, eq_self, and_self, Nat.reduceLT, Nat.reduceLeDiff, Nat.reduceAdd, Nat.reduceMul, Nat.reduceDiv, Nat.one_ne_zero]
      exact x1
    refine c_missed hN X1 x2 hk (fun s X2 k2 => ?_)
    have e8 : ∀ i f j, sP s 8 i f j = sP (stP σ 8 0 7 0 (nI (r.1 + 1))) 8 i f j := fun i f j => k2.1 8 i f j (fun e => absurd e.1 (by decide))
    have kv : KV (some c) σ s := k1.trans ⟨fun k i f j _ h2 => k2.1 k i f j (fun e => h2 ⟨e.1, by rw [e.2.1], e.2.2⟩), fun k i f j _ => by rw [k2.2.1], k2.2.2⟩
    have kh : ∀ A, KH A σ s := fun A => (h1 A).trans (KH.of (fun f j _ => e8 0 f j))
    have CKn : CK F (lkL F key r.2.2.2.1) := x2.lk hk
    by_cases hin : key ∈ r.2.2.2.1
    · rw [if_pos hin, u_br_t rfl]
      have es : stEv (some c) F p2 p3 vf r (.inl key) = (r.1 + 1, r.2.1, r.2.2.1, lkL F key r.2.2.2.1, r.2.2.2.2) := by simp only [stEv, if_pos hin]
      refine h s ?_ kv kh
      rw [es]
      unfold RVs
      simp only [e8, sP_stP, Nat.reduceEqDiff, true_and, and_true, false_and, and_false, if_true, if_false, eq_self, and_self, Nat.reduceLT, Nat.reduceLeDiff, Nat.reduceAdd, Nat.reduceMul, Nat.reduceDiv, Nat.one_ne_zero, k2.2.1, k2.2.2.1, sL_stP, sQ_stP]
      exact ⟨r1, r3, r4, r5, r6, r7, r8, r9, r10, fun c' e => by cases e; exact ⟨X2, CKn⟩⟩
    · rw [if_neg hin, u_br_f (by rw [b10]; exact fun h => h)]
      have es : stEv (some c) F p2 p3 vf r (.inl key) = (r.1 + 1, r.2.1 + 1, r.2.2.1, lkL F key r.2.2.2.1, r.2.2.2.2) := by simp only [stEv, if_neg hin]
      have e88 : sP s 8 0 8 0 = nI r.2.1 := by rw [e8]; simp only [sP_stP, Nat.reduceEqDiff, true_and, and_true, false_and, and_false, if_true, if_false, eq_self, and_self, Nat.reduceLT, Nat.reduceLeDiff, Nat.reduceAdd, Nat.reduceMul, Nat.reduceDiv, Nat.one_ne_zero]; exact r3
      simp only [e88, li_1, nI_add, u_lt_u]
      refine h _ ?_ (kv.st (by omega)) (fun A => (kh A).trans (KH.of (fun f j hf => by rw [sP_stP, if_neg (fun e => by have := e.2.2.1; omega)])))
      rw [es]
      unfold RVs
      simp only [e8, sP_stP, Nat.reduceEqDiff, true_and, and_true, false_and, and_false, if_true, if_false, eq_self, and_self, Nat.reduceLT, Nat.reduceLeDiff, Nat.reduceAdd, Nat.reduceMul, Nat.reduceDiv, Nat.one_ne_zero, sL_stP, sQ_stP, k2.2.1, k2.2.2.1]
      refine ⟨r1, r4, r5, r6, r7, r8, r9, r10, fun c' e => ?_⟩
      cases e
      refine ⟨?_, CKn⟩
      unfold CO at X2 ⊢
      simp only [sP_stP, Nat.reduceEqDiff, true_and, and_true, false_and, and_false, if_true, if_false, eq_self, and_self, Nat.reduceLT, Nat.reduceLeDiff, Nat.reduceAdd, Nat.reduceMul, Nat.reduceDiv, Nat.one_ne_zero]
      exact X2
theorem c_note (hN : 1000000 ≤ N) {r : RSt} {vf : (Nat → Nat) → Int32} (R : RVs σ cc F p2 p3 p4 r) (hp3 : p3 < 3) (hp4 : p4 < 3) (h5 : ∀ x, x < 3 → sP σ 8 0 5 x = nI (g x)) (h6 : sP σ 8 0 6 (3 * p3 + p4) = vf g) {K : St → Prop} (h : ∀ s, RVs s cc F p2 p3 p4 (stEv cc F p2 p3 vf r (.inr g)) → KV cc σ s → (∀ A, KH A σ s) → K s) : z_X8_noteAnswer N 0 σ K := by
  obtain ⟨r1, r2, r3, r4, r5, r6, r7, r8, r9, r10, r11⟩ := R
  have l40 : (40 : Int64) = lN 40 := rfl
  unfold z_X8_noteAnswer
  simp only [li_0]
  refine for_v 3 (by omega) (by omega) (fun j a => a = it_ (fun x y => y * 40 + (nI (g x)).toInt64) 0 j) 0 (by omega) (fun self j a hj ha hs => ?_) rfl
  subst ha
  by_cases hl : j < 3
  · simp (disch := omega) only [u_br_True, u_br_False, u_jn_u, u_lt_u, u_nn_s, u_brn_s, u_brn_n, nI_add, u_n_mul, u_n_lt, u_n_le, u_n_eq, u_n_sub, u_n_div, u_n_mod, nI_clamp, u_m1, u_m1q, u_wI_n, u_wA_n, u_br_t, u_br_f, ↓li_m1, li_0, li_1, li_2, li_3, li_4, li_5, li_6, li_7, li_8, li_9, li_10, li_12, li_13, li_26, li_40, li_60, li_61, li_62, li_99, li_100, li_102, li_106, li_114, li_112, li_117, li_108, li_103, li_120, li_300, li_360, li_512, li_1000, h5 j hl]
    exact hs _ hl rfl
  · have hj3 : j = 3 := by omega
    subst hj3
    have ee : it_ (fun x y => y * 40 + (nI (g x)).toInt64) 0 3 = enc g := rfl
    rw [ee]
    have h6' : ∀ σ', (∀ j, sP σ' 8 0 6 j = sP σ 8 0 6 j) → ∀ {K : Int32 → Prop}, z_X8_heldAt N 0 (nI p3) (nI p4) σ' K = K (vf g) := by
      intro σ' e K
      have e9 := e (3 * p3 + p4)
      rw [h6, show 3 * p3 + p4 = p3 * 3 + p4 by omega] at e9
      simp (disch := omega) only [z_X8_heldAt, u_br_True, u_br_False, u_jn_u, u_lt_u, u_nn_s, u_brn_s, u_brn_n, nI_add, u_n_mul, u_n_lt, u_n_le, u_n_eq, u_n_sub, u_n_div, u_n_mod, nI_clamp, u_m1, u_m1q, u_wI_n, u_wA_n, u_br_t, u_br_f, ↓li_m1, li_0, li_1, li_2, li_3, li_4, li_5, li_6, li_7, li_8, li_9, li_10, li_12, li_13, li_26, li_40, li_60, li_61, li_62, li_99, li_100, li_102, li_106, li_114, li_112, li_117, li_108, li_103, li_120, li_300, li_360, li_512, li_1000, e9]
    have i3 : (¬ nI p3 < nI 0) ∧ ¬ nI 3 ≤ nI p3 := by
      refine ⟨fun e => ?_, fun e => ?_⟩
      · rw [u_n_lt (by omega) (by omega)] at e; omega
      · rw [u_n_le (by omega) (by omega)] at e; omega
    have fin : ∀ s : St, (sQ s = sQ σ) → (sD_ s = sD_ σ) → (sV s = sV σ) → (∀ k i f j, sP s k i f j = if k = 8 ∧ i = 0 ∧ f = 9 ∧ j = 0 then nI (r.2.2.1 + 1) else if k = 8 ∧ i = 0 ∧ f = 14 ∧ j = 0 then (if nI r.2.2.1 = p2 then nI (g p3) else r.2.2.2.2.2.2) else sP σ k i f j) →
        (∀ k i f j, sL_ s k i f j = if k = 8 ∧ i = 0 ∧ f = 15 ∧ j = 0 then r.2.2.2.2.2.1 + (vf g).toInt64 else if k = 8 ∧ i = 0 ∧ f = 10 ∧ j = 0 then r.2.2.2.2.1 + (enc g + 1) * (enc g + 31) else sL_ σ k i f j) → K s := by
      intro s q1 q2 q3 q4 q5
      refine h s ?_ ⟨fun k i f j n1 n2 => ?_, fun k i f j n1 => ?_, q1, q2, q3⟩ (fun A => KH.of (fun f j hf => ?_))
      · unfold RVs stEv
        simp only [q1, q4, q5, Nat.reduceEqDiff, true_and, and_true, false_and, and_false, if_true, if_false, eq_self, and_self, Nat.reduceLT, Nat.reduceLeDiff, Nat.reduceAdd, Nat.reduceMul, Nat.reduceDiv, Nat.one_ne_zero]
        exact ⟨r1, r2, r3, r6, r7, r8, fun c e => by
          obtain ⟨x1, x2⟩ := r11 c e
          refine ⟨?_, x2⟩
          unfold CO at x1 ⊢
          simp only [q4, Nat.reduceEqDiff, true_and, and_true, false_and, and_false, if_true, if_false, eq_self, and_self, Nat.reduceLT, Nat.reduceLeDiff, Nat.reduceAdd, Nat.reduceMul, Nat.reduceDiv, Nat.one_ne_zero]
          exact x1⟩
      · rw [q4, if_neg (fun e => n1 ⟨e.1, e.2.1, by omega⟩), if_neg (fun e => n1 ⟨e.1, e.2.1, by omega⟩)]
      · rw [q5, if_neg (fun e => n1 ⟨e.1, e.2.1, by omega⟩), if_neg (fun e => n1 ⟨e.1, e.2.1, by omega⟩)]
      · rw [q4, if_neg (fun e => by have := e.2.2.1; omega), if_neg (fun e => by have := e.2.2.1; omega)]
    have e5 : sP σ 8 0 5 p3 = nI (g p3) := h5 p3 hp3
    by_cases hw : nI r.2.2.1 = p2
    · have hw' : sP σ 8 0 9 0 = sP σ 8 0 11 0 := by rw [r4, r6]; exact hw
      simp (disch := omega) only [u_br_True, u_br_False, u_jn_u, u_lt_u, u_nn_s, u_brn_s, u_brn_n, nI_add, u_n_mul, u_n_lt, u_n_le, u_n_eq, u_n_sub, u_n_div, u_n_mod, nI_clamp, u_m1, u_m1q, u_wI_n, u_wA_n, u_br_t, u_br_f, ↓li_m1, li_0, li_1, li_2, li_3, li_4, li_5, li_6, li_7, li_8, li_9, li_10, li_12, li_13, li_26, li_40, li_60, li_61, li_62, li_99, li_100, li_102, li_106, li_114, li_112, li_117, li_108, li_103, li_120, li_300, li_360, li_512, li_1000, sP_stL, hw', u_br_t, r7, r8, e5]
      have e12 : ∀ v, sP (stP (stL σ 8 0 10 0 (sL_ σ 8 0 10 0 + (enc g + 1) * (enc g + 31))) 8 0 14 0 v) 8 0 12 0 = nI p3 := fun v => by simp only [sP_stP, sP_stL, Nat.reduceEqDiff, true_and, and_true, false_and, and_false, if_true, if_false, eq_self, and_self, Nat.reduceLT, Nat.reduceLeDiff, Nat.reduceAdd, Nat.reduceMul, Nat.reduceDiv, Nat.one_ne_zero]; exact r7
      have e13 : ∀ v, sP (stP (stL σ 8 0 10 0 (sL_ σ 8 0 10 0 + (enc g + 1) * (enc g + 31))) 8 0 14 0 v) 8 0 13 0 = nI p4 := fun v => by simp only [sP_stP, sP_stL, Nat.reduceEqDiff, true_and, and_true, false_and, and_false, if_true, if_false, eq_self, and_self, Nat.reduceLT, Nat.reduceLeDiff, Nat.reduceAdd, Nat.reduceMul, Nat.reduceDiv, Nat.one_ne_zero]; exact r8
      rw [e12, e13]
      rw [h6' _ (fun j => by simp only [sP_stP, sP_stL, Nat.reduceEqDiff, true_and, and_true, false_and, and_false, if_true, if_false, eq_self, and_self, Nat.reduceLT, Nat.reduceLeDiff, Nat.reduceAdd, Nat.reduceMul, Nat.reduceDiv, Nat.one_ne_zero])]
      refine fin _ rfl rfl rfl (fun k i f j => ?_) (fun k i f j => ?_)
      · simp only [sP_stP, sP_stL, Nat.reduceEqDiff, true_and, and_true, false_and, and_false, if_true, if_false, eq_self, and_self, Nat.reduceLT, Nat.reduceLeDiff, Nat.reduceAdd, Nat.reduceMul, Nat.reduceDiv, Nat.one_ne_zero, if_pos hw]
        rw [r4, nI_add]
      · simp only [sL_stP, sL_stL, Nat.reduceEqDiff, true_and, and_true, false_and, and_false, if_true, if_false, eq_self, and_self, Nat.reduceLT, Nat.reduceLeDiff, Nat.reduceAdd, Nat.reduceMul, Nat.reduceDiv, Nat.one_ne_zero, r5, r10]
    · have hw' : ¬ sP σ 8 0 9 0 = sP σ 8 0 11 0 := by rw [r4, r6]; exact hw
      simp (disch := omega) only [u_br_True, u_br_False, u_jn_u, u_lt_u, u_nn_s, u_brn_s, u_brn_n, nI_add, u_n_mul, u_n_lt, u_n_le, u_n_eq, u_n_sub, u_n_div, u_n_mod, nI_clamp, u_m1, u_m1q, u_wI_n, u_wA_n, u_br_t, u_br_f, ↓li_m1, li_0, li_1, li_2, li_3, li_4, li_5, li_6, li_7, li_8, li_9, li_10, li_12, li_13, li_26, li_40, li_60, li_61, li_62, li_99, li_100, li_102, li_106, li_114, li_112, li_117, li_108, li_103, li_120, li_300, li_360, li_512, li_1000, sP_stL, u_br_f hw', r7, r8]
      rw [h6' _ (fun j => by simp only [sP_stP, sP_stL, Nat.reduceEqDiff, true_and, and_true, false_and, and_false, if_true, if_false, eq_self, and_self, Nat.reduceLT, Nat.reduceLeDiff, Nat.reduceAdd, Nat.reduceMul, Nat.reduceDiv, Nat.one_ne_zero])]
      refine fin _ rfl rfl rfl (fun k i f j => ?_) (fun k i f j => ?_)
      · simp only [sP_stP, sP_stL, Nat.reduceEqDiff, true_and, and_true, false_and, and_false, if_true, if_false, eq_self, and_self, Nat.reduceLT, Nat.reduceLeDiff, Nat.reduceAdd, Nat.reduceMul, Nat.reduceDiv, Nat.one_ne_zero, if_neg hw, r4, nI_add]
        by_cases e14 : k = 8 ∧ i = 0 ∧ f = 14 ∧ j = 0
        · obtain ⟨rfl, rfl, rfl, rfl⟩ := e14
          simp only [Nat.reduceEqDiff, true_and, and_true, false_and, and_false, if_true, if_false, eq_self, and_self, Nat.reduceLT, Nat.reduceLeDiff, Nat.reduceAdd, Nat.reduceMul, Nat.reduceDiv, Nat.one_ne_zero]
          exact r9
        · rw [if_neg e14]
      · simp only [sL_stP, sL_stL, Nat.reduceEqDiff, true_and, and_true, false_and, and_false, if_true, if_false, eq_self, and_self, Nat.reduceLT, Nat.reduceLeDiff, Nat.reduceAdd, Nat.reduceMul, Nat.reduceDiv, Nat.one_ne_zero, r5, r10]
end CNOTE
