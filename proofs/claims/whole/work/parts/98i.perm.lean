section PERM
variable {m : Nat → Nat → Nat} {u : Nat → Int32} {n q p d ban t c k a x i j b y place r e s_ told fz len : Nat} {g g' h o ways : Nat → Nat} {A : Nat → Bool} {α β : Type}
theorem fmL {f f' : α → List β} : ∀ {l : List α}, (∀ a ∈ l, (f a).Perm (f' a)) → (l.flatMap f).Perm (l.flatMap f')
  | [], _ => List.Perm.refl _
  | a :: l, h => by
    rw [List.flatMap_cons, List.flatMap_cons]
    exact (h a List.mem_cons_self).append (fmL (fun b hb => h b (List.mem_cons_of_mem _ hb)))
theorem fmApp {f f' : α → List β} : ∀ {l : List α}, (l.flatMap f ++ l.flatMap f').Perm (l.flatMap (fun b => f b ++ f' b))
  | [] => List.Perm.refl _
  | a :: l => by
    rw [List.flatMap_cons, List.flatMap_cons, List.flatMap_cons, List.append_assoc, List.append_assoc]
    refine List.Perm.append_left _ ?_
    exact (List.perm_append_comm_assoc _ _ _).trans (List.Perm.append_left _ fmApp)
theorem fmSwap {γ : Type} {F : α → β → List γ} {l2 : List β} : ∀ {l1 : List α}, (l1.flatMap fun a => l2.flatMap fun b => F a b).Perm (l2.flatMap fun b => l1.flatMap fun a => F a b)
  | [] => by simp
  | a :: l => by
    simp only [List.flatMap_cons]
    exact (List.Perm.append_left _ (fmSwap (l1 := l))).trans fmApp
theorem fmFilter {f : α → List β} {P : α → Bool} : ∀ {l : List α}, (l.filter P).flatMap f = l.flatMap (fun a => if P a = true then f a else [])
  | [] => rfl
  | a :: l => by
    rw [List.filter_cons, List.flatMap_cons, ← fmFilter (l := l)]
    by_cases h : P a = true
    · rw [if_pos h, if_pos h, List.flatMap_cons]
    · rw [if_neg h, if_neg h]
      rfl
theorem fm40 {f : Nat → List β} (hn : n ≤ 40) (h : ∀ r, n ≤ r → r < 40 → f r = []) : (List.range 40).flatMap f = (List.range n).flatMap f := by
  have e : (40 : Nat) = n + (40 - n) := by omega
  rw [e, List.range_add, List.flatMap_append]
  have : ((List.range (40 - n)).map (fun x => n + x)).flatMap f = [] := by
    rw [List.flatMap_eq_nil_iff]
    intro r hr
    rw [List.mem_map] at hr
    obtain ⟨y, hy, rfl⟩ := hr
    have := List.mem_range.mp hy
    exact h _ (by omega) (by omega)
  rw [this, List.append_nil]
/-- all rows at all positions of a list -/
def Tu : List Nat → (Nat → Nat) → List (Nat → Nat)
  | [], g => [g]
  | p :: ps, g => (List.range 40).flatMap (fun r => Tu ps (gU g p r))
theorem gU_comm (h : x ≠ y) : gU (gU g x a) y b = gU (gU g y b) x a := by
  funext z
  unfold gU
  by_cases h1 : z = y
  · rw [if_pos h1, if_neg (fun e => h (e.symm.trans h1)), if_pos h1]
  · rw [if_neg h1]
    by_cases h2 : z = x
    · rw [if_pos h2, if_pos h2]
    · rw [if_neg h2, if_neg h2, if_neg h1]
theorem Tu_perm {ps ps' : List Nat} (hp : ps.Perm ps') : ps.Nodup → ∀ g, (Tu ps g).Perm (Tu ps' g) := by
  induction hp with
  | nil => intro _ g; exact List.Perm.refl _
  | cons x hp ih =>
    intro hn g
    rw [List.nodup_cons] at hn
    exact fmL (fun r _ => ih hn.2 _)
  | swap x y l =>
    intro hn g
    have hxy : y ≠ x := by
      rw [List.nodup_cons, List.mem_cons] at hn
      exact fun e => hn.1 (Or.inl e)
    simp only [Tu]
    refine List.Perm.trans ?_ fmSwap
    refine fmL (fun r _ => fmL (fun s _ => ?_))
    rw [gU_comm hxy]
  | trans h1 _ ih1 ih2 => intro hn g; exact (ih1 hn g).trans (ih2 (h1.nodup hn) g)
theorem Tu_keep : ∀ {ps : List Nat} {g}, h ∈ Tu ps g → x ∉ ps → h x = g x
  | [], g, hh, _ => by
    simp only [Tu, List.mem_singleton] at hh
    rw [hh]
  | p :: ps, g, hh, hx => by
    simp only [Tu, List.mem_flatMap] at hh
    obtain ⟨r, _, hh⟩ := hh
    rw [List.mem_cons, not_or] at hx
    rw [Tu_keep hh hx.2, gU_ne hx.1]
theorem allN_iff {f : Nat → Bool} : allN f n = true ↔ ∀ k, k < n → f k = true := by
  unfold allN
  rw [List.all_eq_true]
  exact ⟨fun h k hk => h k (List.mem_range.mpr hk), fun h k hk => h k (List.mem_range.mp hk)⟩
theorem allN_cong {f f' : Nat → Bool} (h : ∀ k, f k = f' k) : allN f n = allN f' n := by
  rw [show f = f' from funext h]
theorem fitM_cong (hA : ∀ x, A x = true → g x = g' x) (hp : A p = true) : fitM m u q g A p = fitM m u q g' A p := by
  have e1 : g p = g' p := hA p hp
  have e2 : ∀ k, cOk m u q g p k = cOk m u q g' p k := fun k => by simp only [cOk, e1]
  have e3 : ∀ k, jOk m u q g A p k = jOk m u q g' A p k := fun k => by
    unfold jOk
    cases h1 : A (m 33 (3 * q + k)) with
    | false => simp
    | true =>
      cases h2 : A (m 35 (3 * q + k)) with
      | false => simp
      | true => rw [hA _ h1, hA _ h2]
  unfold fitM
  rw [e1, allN_cong e2, allN_cong e3]
/-- the answers along an order, as a list -/
def Sl (m : Nat → Nat → Nat) (u : Nat → Int32) (q : Nat) (o : Nat → Nat) : Nat → Nat → (Nat → Nat) → List (Nat → Nat)
  | 0, _, g => [g]
  | e + 1, place, g => (List.range 40).flatMap (fun r => if fitM m u q (gU g (o place) r) (withP o place) (o place) = true then Sl m u q o e (place + 1) (gU g (o place) r) else [])
theorem withP_iff (ho : PN n o) (hp : place < n) (hx : i < n) : withP o place (o i) = true ↔ i ≤ place := by
  unfold withP
  rw [Bool.or_eq_true, aheadN_o ho hx (by omega), beq_iff_eq]
  refine ⟨fun h => ?_, fun h => ?_⟩
  · rcases h with h | h
    · omega
    · have := ho.2.1 i hx place hp h; omega
  · by_cases e : i = place
    · exact Or.inr (by rw [e])
    · exact Or.inl (by omega)
theorem withP_o (h : withP o place x = true) : ∃ k, k ≤ place ∧ o k = x := by
  unfold withP at h
  rw [Bool.or_eq_true, beq_iff_eq] at h
  rcases h with h | h
  · unfold ahead at h
    rw [List.any_eq_true] at h
    obtain ⟨k, h1, h2⟩ := h
    exact ⟨k, by have := List.mem_range.mp h1; omega, by simpa using h2⟩
  · exact ⟨place, Nat.le_refl _, h.symm⟩
theorem Sl_Tu (ho : PN n o) : ∀ e place g, place + e = n → Sl m u q o e place g = (Tu ((List.range' place e).map o) g).filter (fun h => (List.range' place e).all (fun k => fitM m u q h (withP o k) (o k)))
  | 0, place, g, _ => by simp [Sl, Tu]
  | e + 1, place, g, hp => by
    rw [List.range'_succ, List.map_cons]
    simp only [Sl, Tu]
    rw [List.filter_flatMap]
    congr 1
    funext r
    have key : ∀ h ∈ Tu ((List.range' (place + 1) e).map o) (gU g (o place) r), fitM m u q h (withP o place) (o place) = fitM m u q (gU g (o place) r) (withP o place) (o place) := fun h hh => by
      refine fitM_cong (fun x hx => ?_) (by simp [withP])
      obtain ⟨k, hk, rfl⟩ := withP_o hx
      refine Tu_keep hh (fun hm => ?_)
      rw [List.mem_map] at hm
      obtain ⟨k', hk', e'⟩ := hm
      rw [List.mem_range'_1] at hk'
      have := ho.2.1 k' (by omega) k (by omega) e'
      omega
    have e1 : (Tu ((List.range' (place + 1) e).map o) (gU g (o place) r)).filter (fun h => (place :: List.range' (place + 1) e).all (fun k => fitM m u q h (withP o k) (o k))) = (Tu ((List.range' (place + 1) e).map o) (gU g (o place) r)).filter (fun h => fitM m u q (gU g (o place) r) (withP o place) (o place) && (List.range' (place + 1) e).all (fun k => fitM m u q h (withP o k) (o k))) := by
      refine List.filter_congr (fun h hh => ?_)
      rw [List.all_cons, key h hh]
    rw [e1]
    by_cases hf : fitM m u q (gU g (o place) r) (withP o place) (o place) = true
    · rw [if_pos hf, Sl_Tu ho e (place + 1) _ (by omega)]
      congr 1
      funext h
      rw [hf, Bool.true_and]
    · rw [if_neg hf]
      have : fitM m u q (gU g (o place) r) (withP o place) (o place) = false := by simpa using hf
      rw [this]
      simp
def AF (m : Nat → Nat → Nat) (u : Nat → Int32) (q : Nat) (h : Nat → Nat) : Prop :=
  (∀ p, p < m 25 q → th m (tq m q p) (h p) = true) ∧ (∀ k, k < m 27 q → hold (m 30 (4 * q + k)) (m 31 (4 * q + k)) (cvl u (tq m q (m 28 (4 * q + k))) (h (m 28 (4 * q + k))) (m 29 (4 * q + k))) = true) ∧
  ∀ k, k < m 32 q → cvl u (tq m q (m 33 (3 * q + k))) (h (m 33 (3 * q + k))) (m 34 (3 * q + k)) = cvl u (tq m q (m 35 (3 * q + k))) (h (m 35 (3 * q + k))) (m 36 (3 * q + k))
theorem all_AF (W : WQ m) (hq : q < m 24 0) (ho : PN (m 25 q) o) : (List.range' 0 (m 25 q)).all (fun k => fitM m u q h (withP o k) (o k)) = true ↔ AF m u q h := by
  have w3 := W.2.2 q hq
  rw [List.all_eq_true]
  constructor
  · intro H
    have H' : ∀ i, i < m 25 q → th m (tq m q (o i)) (h (o i)) = true ∧ (∀ k, k < m 27 q → cOk m u q h (o i) k = true) ∧ ∀ k, k < m 32 q → jOk m u q h (withP o i) (o i) k = true := fun i hi => by
      have := H i (List.mem_range'_1.mpr (by omega))
      unfold fitM at this
      rw [Bool.and_eq_true, Bool.and_eq_true, allN_iff, allN_iff] at this
      exact ⟨this.1.1, this.1.2, this.2⟩
    refine ⟨fun p hp => ?_, fun k hk => ?_, fun k hk => ?_⟩
    · obtain ⟨i, hi, rfl⟩ := ho.2.2 p hp
      exact (H' i hi).1
    · obtain ⟨c1, _⟩ := w3.2.2.2.2.1 k hk
      obtain ⟨i, hi, ei⟩ := ho.2.2 _ c1
      have := (H' i hi).2.1 k hk
      rw [ei] at this
      simpa [cOk] using this
    · obtain ⟨c1, _, c3, _, c5⟩ := w3.2.2.2.2.2 k hk
      obtain ⟨i, hi, ei⟩ := ho.2.2 _ c1
      obtain ⟨j, hj, ej⟩ := ho.2.2 _ c3
      rcases Nat.le_total i j with hij | hij
      · have := (H' j hj).2.2 k hk
        have a1 : withP o j (m 33 (3 * q + k)) = true := by rw [← ei]; exact (withP_iff ho hj hi).mpr hij
        have a2 : withP o j (m 35 (3 * q + k)) = true := by rw [← ej]; exact (withP_iff ho hj hj).mpr (Nat.le_refl _)
        simpa [jOk, a1, a2, ej] using this
      · have := (H' i hi).2.2 k hk
        have a1 : withP o i (m 33 (3 * q + k)) = true := by rw [← ei]; exact (withP_iff ho hi hi).mpr (Nat.le_refl _)
        have a2 : withP o i (m 35 (3 * q + k)) = true := by rw [← ej]; exact (withP_iff ho hi hj).mpr hij
        simpa [jOk, a1, a2, ei] using this
  · rintro ⟨h1, h2, h3⟩ i hi
    have hi' : i < m 25 q := by rw [List.mem_range'_1] at hi; omega
    have hop := ho.1 i hi'
    unfold fitM
    rw [Bool.and_eq_true, Bool.and_eq_true, allN_iff, allN_iff]
    refine ⟨⟨h1 _ hop, fun k hk => ?_⟩, fun k hk => ?_⟩
    · by_cases e : m 28 (4 * q + k) = o i
      · have := h2 k hk
        rw [e] at this
        simp [cOk, this]
      · simp [cOk, e]
    · simp [jOk, h3 k hk]
theorem Sl_perm (W : WQ m) (hq : q < m 24 0) (ho : PN (m 25 q) o) : (Sl m u q o (m 25 q) 0 g).Perm (Sl m u q idO (m 25 q) 0 g) := by
  rw [Sl_Tu ho (m 25 q) 0 g (by omega), Sl_Tu (n := m 25 q) PN_id (m 25 q) 0 g (by omega)]
  have hf : (fun h => (List.range' 0 (m 25 q)).all (fun k => fitM m u q h (withP o k) (o k))) = fun h => (List.range' 0 (m 25 q)).all (fun k => fitM m u q h (withP idO k) (idO k)) := by
    funext h
    rw [Bool.eq_iff_iff]
    exact (all_AF W hq ho).trans (all_AF W hq PN_id).symm
  rw [hf]
  refine List.Perm.filter _ (Tu_perm ?_ ?_ g)
  · have hid : (List.range' 0 (m 25 q)).map idO = List.range' 0 (m 25 q) := by
      rw [show idO = id from rfl, List.map_id]
    rw [hid]
    refine (List.perm_ext_iff_of_nodup ?_ List.nodup_range').mpr (fun x => ?_)
    · rw [List.nodup_iff_pairwise_ne, List.pairwise_map]
      refine List.Pairwise.imp_of_mem ?_ (List.pairwise_lt_range' (s := 0) (n := m 25 q) (step := 1))
      intro a b ha hb hab e
      rw [List.mem_range'_1] at ha hb
      have := ho.2.1 a (by omega) b (by omega) e
      omega
    · rw [List.mem_map, List.mem_range'_1]
      constructor
      · rintro ⟨k, hk, rfl⟩
        rw [List.mem_range'_1] at hk
        have := ho.1 k (by omega)
        omega
      · intro hx
        obtain ⟨k, hk, rfl⟩ := ho.2.2 x (by omega)
        exact ⟨k, List.mem_range'_1.mpr (by omega), rfl⟩
  · rw [List.nodup_iff_pairwise_ne, List.pairwise_map]
    refine List.Pairwise.imp_of_mem ?_ (List.pairwise_lt_range' (s := 0) (n := m 25 q) (step := 1))
    intro a b ha hb hab e
    rw [List.mem_range'_1] at ha hb
    have := ho.2.1 a (by omega) b (by omega) e
    omega
theorem fit_thf (h : th m (tq m q p) (g p) = false) : fitM m u q g A p = false := by
  unfold fitM
  rw [h]
  rfl
theorem an_Sl (W : WQ m) (Wt : WT m u) (hq : q < m 24 0) : ∀ e place g, place + e ≤ m 25 q → anA m u q e place g = Sl m u q idO e place g
  | 0, place, g, _ => rfl
  | e + 1, place, g, hp => by
    have w3 := W.2.2 q hq
    have h1 := Wt.nt
    have ht : tq m q place < m 1 0 := w3.2.2.2.1 place (by omega)
    have h3 := Wt.2.2.2.1 (tq m q place) (by omega)
    simp only [anA, Sl]
    rw [fm40 h3 (fun r hr hr40 => ?_)]
    · congr 1
      funext r
      rw [an_Sl W Wt hq e (place + 1) _ (by omega)]
      rfl
    · rw [if_neg]
      rw [fit_thf]
      · decide
      · rw [gU_at]
        have := Wt.2.2.2.2.2.1 (tq m q place) r (by omega) hr40 hr
        simp only [idO, th, this]
        rfl
end PERM
