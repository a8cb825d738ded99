section SNEW
def us (k f : Nat) : Bool := if f = 0 then Nat.blt k 13 else isA k (f - 1)
def Ext (ad : Nat → Nat → Nat → Nat) (V : Nat → Nat) (ad' : Nat → Nat → Nat → Nat) (V' : Nat → Nat) : Prop := (∀ k i f, i < V k → us k f = true → ad' k i f = ad k i f) ∧ (∀ k, V k ≤ V' k) ∧ ∀ k, 11 ≤ k → V' k = V k
theorem ext_refl (ad : Nat → Nat → Nat → Nat) (V : Nat → Nat) : Ext ad V ad V := ⟨fun _ _ _ _ _ => rfl, fun _ => Nat.le_refl _, fun _ _ => rfl⟩
theorem ext_trans {ad1 ad2 ad3 : Nat → Nat → Nat → Nat} {V1 V2 V3 : Nat → Nat} (h1 : Ext ad1 V1 ad2 V2) (h2 : Ext ad2 V2 ad3 V3) : Ext ad1 V1 ad3 V3 :=
  ⟨fun k i f l u => (h2.1 k i f (Nat.lt_of_lt_of_le l (h1.2.1 k)) u).trans (h1.1 k i f l u), fun k => Nat.le_trans (h1.2.1 k) (h2.2.1 k), fun k hk => (h2.2.2 k hk).trans (h1.2.2 k hk)⟩
theorem ext_o {ad ad' : Nat → Nat → Nat → Nat} {V V' : Nat → Nat} (E : Ext ad V ad' V') {a k i f : Nat} (e : a = ad k i f) (l : i < V k) (hu : us k f = true) : a = ad' k i f := e.trans (E.1 k i f l hu).symm
theorem ext_l {ad ad' : Nat → Nat → Nat → Nat} {V V' : Nat → Nat} (E : Ext ad V ad' V') {k i : Nat} (l : i < V k) : i < V' k := Nat.lt_of_lt_of_le l (E.2.1 k)
theorem ext_lp {ad ad' : Nat → Nat → Nat → Nat} {V V' : Nat → Nat} (E : Ext ad V ad' V') {k : Nat} {o : Option Nat} (l : ∀ r, o = some r → r < V k) : ∀ r, o = some r → r < V' k := fun r e => Nat.lt_of_lt_of_le (l r e) (E.2.1 k)
theorem ext_pa {ad ad' : Nat → Nat → Nat → Nat} {V V' : Nat → Nat} (E : Ext ad V ad' V') {p : Option Nat} {k i f : Nat} (e : p = some (ad k i f)) (l : i < V k) (hu : us k f = true) : p = some (ad' k i f) := by rw [e, E.1 k i f l hu]
theorem ext_r {ad ad' : Nat → Nat → Nat → Nat} {V V' : Nat → Nat} (E : Ext ad V ad' V') {u o : Option Nat} {k : Nat} (e : u = o.map (fun j => ad k j 0)) (l : ∀ r, o = some r → r < V k) (hu : us k 0 = true) : u = o.map (fun j => ad' k j 0) := by
  rw [e]
  cases o with
  | none => rfl
  | some r => simp only [Option.map_some]; rw [E.1 k r 0 (l r rfl) hu]
theorem lv_some {k i : Nat} {V : Nat → Nat} (l : i < V k) : ∀ r, some i = some r → r < V k := fun r e => by cases e; exact l
theorem lv_none {k : Nat} {V : Nat → Nat} : ∀ r, none = some r → r < V k := fun r e => by cases e
theorem some_ep {ad : Nat → Nat → Nat → Nat} {a k i : Nat} (e : a = ad k i 0) : some a = (some i).map (fun j => ad k j 0) := by rw [e]; rfl
theorem ref_eq {ad : Nat → Nat → Nat → Nat} {h : Hp} {V : Nat → Nat} {σ : St} (W : Wf ad h V σ) (k i : Nat) (o : Option Nat) : (some (ad k i 0) = o.map (fun j => ad k j 0)) ↔ (some i = o) := by
  cases o with
  | none => simp
  | some r =>
    simp only [Option.map_some, Option.some.injEq]
    exact ⟨fun e => (W.1 _ _ _ _ _ _ e).2.1, fun e => by rw [e]⟩
theorem ft_6 {k f : Nat} (e : isA k f = true) (hn : ¬ (ft k f = 2 ∨ ft k f = 4 ∨ ft k f = 5)) : k = 14 ∧ f = 0 := by
  have h6 : ft k f = 6 := by
    simp only [isA, Bool.or_eq_true, beq_iff_eq] at e
    omega
  have hk : k < 15 := by
    apply Nat.lt_of_not_le
    intro hk
    have : ftab.getD k [] = [] := by simp [List.getD, List.getElem?_eq_none (show ftab.length ≤ k from hk)]
    rw [ft, this] at h6
    simp at h6
  have hf : f < 60 := by
    apply Nat.lt_of_not_le
    intro hf
    have h8 : ∀ k, k < 15 → (ftab.getD k []).length ≤ 60 := by decide
    have : (ftab.getD k []).getD f 9 = 9 := by
      have h9 := h8 k hk
      simp only [List.getD]
      rw [List.getElem?_eq_none (by simp only [List.getD] at h9; omega)]
      rfl
    rw [ft, this] at h6
    omega
  have h7 : ∀ k, k < 15 → ∀ f, f < 60 → ft k f = 6 → k = 14 ∧ f = 0 := by decide +kernel
  exact h7 k hk f hf h6
theorem hu14 {V : Nat → Nat} (hv : V 14 ≤ 1) : ∀ k' i' f', isA k' f' = true → i' < V k' → ¬ (ft k' f' = 2 ∨ ft k' f' = 4 ∨ ft k' f' = 5) → k' = 14 ∧ i' = 0 ∧ f' = 0 := by
  intro k' i' f' h1 h2 h3
  obtain ⟨rfl, rfl⟩ := ft_6 h1 h3
  exact ⟨rfl, by omega, rfl⟩
theorem isA_lt {k f : Nat} (h : isA k f = true) : f < nf k := by
  apply Nat.lt_of_not_le
  intro hf
  have : (ftab.getD k []).getD f 9 = 9 := by
    simp only [List.getD]
    rw [List.getElem?_eq_none (by simp only [nf, List.getD] at hf; exact hf)]
    rfl
  simp only [isA, ft, this] at h
  exact absurd h (by decide)
/-! building on top of a heap -/
def Bd (h0 h : Hp) (D : List (Nat × Ct)) : Prop := (D.map Prod.fst).Nodup ∧ (∀ x ∈ D, h0 x.1 = none) ∧ (∀ x ∈ D, h x.1 = some x.2) ∧ ∀ a, h0 a ≠ none → h a = h0 a
theorem bd_fresh {h0 h : Hp} {D : List (Nat × Ct)} (B : Bd h0 h D) {q : Nat} (hq : q ∈ D.map Prod.fst) : h0 q = none := by
  obtain ⟨x, hx, e⟩ := List.mem_map.mp hq
  rw [← e]
  exact B.2.1 x hx
theorem bd_at {h0 h : Hp} {D : List (Nat × Ct)} (B : Bd h0 h D) (n : Nat) {x : Nat × Ct} (e : D[n]? = some x) : h x.1 = some x.2 := B.2.2.1 x (List.mem_of_getElem? e)
theorem bd_nil (h : Hp) : Bd h h [] := ⟨List.nodup_nil, fun x hx => absurd hx List.not_mem_nil, fun x hx => absurd hx List.not_mem_nil, fun _ _ => rfl⟩
theorem bd_push {h0 h : Hp} {D : List (Nat × Ct)} (B : Bd h0 h D) {q : Nat} {c : Ct} (hq : h q = none) : Bd h0 (va_up h q (some c)) ((q, c) :: D) := by
  obtain ⟨b1, b2, b3, b4⟩ := B
  have hn : ∀ x ∈ D, x.1 ≠ q := fun x hx e => by
    have := b3 x hx
    rw [e, hq] at this
    cases this
  have h0q : h0 q = none := by
    cases hx : h0 q with
    | none => rfl
    | some y =>
      have := b4 q (by rw [hx]; exact fun e => by cases e)
      rw [hq, hx] at this
      cases this
  refine ⟨?_, ?_, ?_, ?_⟩
  · simp only [List.map_cons, List.nodup_cons]
    refine ⟨fun hm => ?_, b1⟩
    obtain ⟨x, hx, e⟩ := List.mem_map.mp hm
    exact hn x hx e
  · intro x hx
    rcases List.mem_cons.mp hx with rfl | hx
    · exact h0q
    · exact b2 x hx
  · intro x hx
    rcases List.mem_cons.mp hx with rfl | hx
    · simp [va_up]
    · simp only [va_up, if_neg (hn x hx)]
      exact b3 x hx
  · intro a ha
    have : a ≠ q := fun e => ha (by rw [e]; exact h0q)
    simp only [va_up, if_neg this]
    exact b4 a ha
theorem bd_swap {h0 h : Hp} {x y : Nat × Ct} {D : List (Nat × Ct)} (B : Bd h0 h (x :: y :: D)) : Bd h0 h (y :: x :: D) := by
  obtain ⟨b1, b2, b3, b4⟩ := B
  refine ⟨?_, ?_, ?_, b4⟩
  · simp only [List.map_cons, List.nodup_cons, List.mem_cons, not_or] at b1 ⊢
    exact ⟨⟨fun e => b1.1.1 e.symm, b1.2.1⟩, b1.1.2, b1.2.2⟩
  · intro z hz
    apply b2 z
    simp only [List.mem_cons] at hz ⊢
    rcases hz with hz | hz | hz
    · exact Or.inr (Or.inl hz)
    · exact Or.inl hz
    · exact Or.inr (Or.inr hz)
  · intro z hz
    apply b3 z
    simp only [List.mem_cons] at hz ⊢
    rcases hz with hz | hz | hz
    · exact Or.inr (Or.inl hz)
    · exact Or.inl hz
    · exact Or.inr (Or.inr hz)
theorem bd_set {h0 h : Hp} {q : Nat} {c c' : Ct} {D : List (Nat × Ct)} (B : Bd h0 h ((q, c) :: D)) : Bd h0 (va_up h q (some c')) ((q, c') :: D) := by
  obtain ⟨b1, b2, b3, b4⟩ := B
  have hn : ∀ x ∈ D, x.1 ≠ q := by
    simp only [List.map_cons, List.nodup_cons] at b1
    exact fun x hx e => b1.1 (List.mem_map.mpr ⟨x, hx, e⟩)
  have h0q : h0 q = none := b2 (q, c) (List.mem_cons_self)
  refine ⟨b1, ?_, ?_, ?_⟩
  · intro x hx
    rcases List.mem_cons.mp hx with rfl | hx
    · exact h0q
    · exact b2 x (List.mem_cons_of_mem _ hx)
  · intro x hx
    rcases List.mem_cons.mp hx with rfl | hx
    · simp [va_up]
    · simp only [va_up, if_neg (hn x hx)]
      exact b3 x (List.mem_cons_of_mem _ hx)
  · intro a ha
    have : a ≠ q := fun e => ha (by rw [e]; exact h0q)
    simp only [va_up, if_neg this]
    exact b4 a ha
theorem bd_nw {h0 h : Hp} {D : List (Nat × Ct)} {k : Nat} {fs : List Tv} {K : Nat → Hp → Prop} (B : Bd h0 h D) (kk : ∀ q h', Bd h0 h' ((q, .inr (k, fs)) :: D) → K q h') : nw h k fs K := fun q hq => kk q _ (bd_push B hq)
theorem bd_nA {h0 h : Hp} {o : Nat × Ct} {D : List (Nat × Ct)} {e : Ct} {K : Nat → Hp → Prop} (B : Bd h0 h (o :: D)) (kk : ∀ q h', Bd h0 h' (o :: (q, e) :: D) → K q h') : nA h e K := fun q hq => kk q _ (bd_swap (bd_push B hq))
theorem bd_nA0 {h0 h : Hp} {D : List (Nat × Ct)} {e : Ct} {K : Nat → Hp → Prop} (B : Bd h0 h D) (kk : ∀ q h', Bd h0 h' ((q, e) :: D) → K q h') : nA h e K := fun q hq => kk q _ (bd_push B hq)
theorem bd_pF {h0 h : Hp} {q k f : Nat} {fs : List Tv} {v : Tv} {D : List (Nat × Ct)} {K : Hp → Prop} (B : Bd h0 h ((q, .inr (k, fs)) :: D)) (hf : Nat.blt f fs.length = true) (kk : ∀ h', Bd h0 h' ((q, .inr (k, fs.set f v)) :: D) → K h') : pF h q k f v K :=
  ⟨fs, B.2.2.1 (q, .inr (k, fs)) (List.mem_cons_self), by simpa [Nat.blt_eq] using hf, kk _ (bd_set B)⟩
theorem bd_sI {h0 h : Hp} {o : Nat × Ct} {r t n : Nat} {g : Nat → Int32} {x y : Int32} {D : List (Nat × Ct)} {K : Hp → Prop} (B : Bd h0 h (o :: (r, .inl (t, n, .inl g)) :: D)) (hx : vp_in x n) (kk : ∀ h', Bd h0 h' (o :: (r, .inl (t, n, .inl (upd g x.toNatClampNeg y))) :: D) → K h') : sI h r t x y K :=
  ⟨n, g, B.2.2.1 (r, .inl (t, n, .inl g)) (List.mem_cons_of_mem _ (List.mem_cons_self)), hx, kk _ (bd_swap (bd_set (bd_swap B)))⟩
theorem sw_inj {a b c d : Nat} (h : (if a = c then d else if a = d then c else a) = (if b = c then d else if b = d then c else b)) : a = b := by
  split at h <;> split at h <;> (try split at h) <;> (try split at h) <;> omega
theorem ad_new {ad : Nat → Nat → Nat → Nat} {V : Nat → Nat} (hi : ∀ k i f k' i' f', ad k i f = ad k' i' f' → k = k' ∧ i = i' ∧ f = f') (k n : Nat) (hn : V k ≤ n) : ∀ (L : List (Nat × Nat)), (L.map Prod.fst).Nodup → (L.map Prod.snd).Nodup → (∀ x ∈ L, ∀ k' i' f', i' < V k' → us k' f' = true → ad k' i' f' ≠ x.2) →
    ∃ ad' : Nat → Nat → Nat → Nat, (∀ k i f k' i' f', ad' k i f = ad' k' i' f' → k = k' ∧ i = i' ∧ f = f') ∧ (∀ x ∈ L, ad' k n x.1 = x.2) ∧ ∀ k' i' f', i' < V k' → us k' f' = true → ad' k' i' f' = ad k' i' f'
  | [], _, _, _ => ⟨ad, hi, fun x hx => absurd hx List.not_mem_nil, fun _ _ _ _ _ => rfl⟩
  | x :: L, h1, h2, h3 => by
    simp only [List.map_cons, List.nodup_cons] at h1 h2
    obtain ⟨ad1, i1, e1, s1⟩ := ad_new hi k n hn L h1.2 h2.2 (fun y hy => h3 y (List.mem_cons_of_mem _ hy))
    refine ⟨fun k' i' f' => if ad1 k' i' f' = ad1 k n x.1 then x.2 else if ad1 k' i' f' = x.2 then ad1 k n x.1 else ad1 k' i' f', ?_, ?_, ?_⟩
    · intro k1 i1' f1 k2 i2 f2 h
      exact i1 _ _ _ _ _ _ (sw_inj h)
    · intro y hy
      rcases List.mem_cons.mp hy with rfl | hy
      · simp
      · have hne : y.1 ≠ x.1 := fun e => h1.1 (List.mem_map.mpr ⟨y, hy, e⟩)
        have hne2 : y.2 ≠ x.2 := fun e => h2.1 (List.mem_map.mpr ⟨y, hy, e⟩)
        have a1 : ad1 k n y.1 ≠ ad1 k n x.1 := fun e => hne (i1 _ _ _ _ _ _ e).2.2
        have a2 : ad1 k n y.1 ≠ x.2 := by rw [e1 y hy]; exact hne2
        simp only [if_neg a1, if_neg a2]
        exact e1 y hy
    · intro k' i' f' l' hu
      have a1 : ad1 k' i' f' ≠ ad1 k n x.1 := fun e => by
        have := i1 _ _ _ _ _ _ e
        obtain ⟨rfl, rfl, _⟩ := this
        omega
      have a2 : ad1 k' i' f' ≠ x.2 := by rw [s1 k' i' f' l' hu]; exact h3 x (List.mem_cons_self) k' i' f' l' hu
      simp only [if_neg a1, if_neg a2]
      exact s1 k' i' f' l' hu
theorem wf_some {ad : Nat → Nat → Nat → Nat} {h : Hp} {V : Nat → Nat} {σ : St} (W : Wf ad h V σ) {k i f : Nat} (l : i < V k) (hu : us k f = true) : h (ad k i f) ≠ none := by
  unfold us at hu
  split at hu
  · rename_i e
    subst e
    rw [W.2.2.1 k i (by simpa [Nat.blt_eq] using hu) l]
    exact fun e => by cases e
  · rename_i e
    have e2 : f = (f - 1) + 1 := by omega
    rw [e2, W.2.2.2.1 k i (f - 1) l hu]
    exact fun e => by cases e
theorem acI {ad : Nat → Nat → Nat → Nat} {σ : St} {k i f t n : Nat} {g : Nat → Int32} (h1 : ft k f = 2) (h2 : at_ k f = t) (h3 : an_ k f = n) (hg : ∀ j, sP σ k i f j = g j) : ac ad σ k i f = (t, n, .inl g) := by
  have : sP σ k i f = g := funext hg
  simp only [ac, if_pos h1, h2, h3, this]
theorem acR0 {ad : Nat → Nat → Nat → Nat} {σ : St} {k i f t n : Nat} (h1 : ft k f = 4) (h2 : at_ k f = t) (h3 : an_ k f = n) (hg : ∀ j, sQ σ k i f j = none) : ac ad σ k i f = (t, n, .inr (.inr (.inr (.inr (fun _ => none))))) := by
  have h5 : ¬ ft k f = 2 := by omega
  simp only [ac, if_neg h5, if_pos h1, h2, h3, hg, Option.map_none]
def bump (V : Nat → Nat) (k : Nat) : Nat → Nat := fun k' => if k' = k then V k + 1 else V k'
theorem wf_new {ad ad' : Nat → Nat → Nat → Nat} {h0 h : Hp} {V : Nat → Nat} {σ σ' : St} (W : Wf ad h0 V σ) (hs : ∀ a, h0 a ≠ none → h a = h0 a) (k : Nat)
    (hi : ∀ k i f k' i' f', ad' k i f = ad' k' i' f' → k = k' ∧ i = i' ∧ f = f') (E : ∀ k' i' f', i' < V k' → us k' f' = true → ad' k' i' f' = ad k' i' f')
    (hV : sV σ' = bump (sV σ) k)
    (hP : ∀ k' i', ¬ (k' = k ∧ i' = V k) → sP σ' k' i' = sP σ k' i' ∧ sL_ σ' k' i' = sL_ σ k' i' ∧ sQ σ' k' i' = sQ σ k' i') (hD : sD_ σ' = sD_ σ)
    (ho : k < 13 → h (ad' k (V k) 0) = some (.inr (k, flds ad' σ' k (V k))))
    (ha : ∀ f, isA k f = true → h (ad' k (V k) (f + 1)) = some (.inl (ac ad' σ' k (V k) f)))
    (hc : ∀ f j r, sQ σ' k (V k) f j = some r → r < bump V k (rk k f)) (hrk : ∀ k f, us (rk k f) 0 = true) : Wf ad' h (bump V k) σ' := by
  have hmono : ∀ k', V k' ≤ bump V k k' := fun k' => by unfold bump; split <;> (first | (subst_vars; omega) | exact Nat.le_refl _)
  have hcase : ∀ k' i', i' < bump V k k' → (k' = k ∧ i' = V k) ∨ (i' < V k' ∧ ¬ (k' = k ∧ i' = V k)) := by
    intro k' i' l
    unfold bump at l
    by_cases e : k' = k
    · subst e
      rw [if_pos rfl] at l
      by_cases e2 : i' = V k'
      · exact Or.inl ⟨rfl, e2⟩
      · exact Or.inr ⟨by omega, fun e3 => e2 e3.2⟩
    · rw [if_neg e] at l
      exact Or.inr ⟨l, fun e3 => e e3.1⟩
  have hqm : ∀ k' i' f j, i' < V k' → (sQ σ k' i' f j).map (fun r => ad' (rk k' f) r 0) = (sQ σ k' i' f j).map (fun r => ad (rk k' f) r 0) := by
    intro k' i' f j l
    cases hq : sQ σ k' i' f j with
    | none => rfl
    | some r =>
      simp only [Option.map_some]
      rw [E _ _ _ (W.2.2.2.2 k' i' f j r l hq) (hrk k' f)]
  refine ⟨hi, by rw [hV, W.2.1], ?_, ?_, ?_⟩
  · intro k' i' hk' l
    rcases hcase k' i' l with ⟨rfl, rfl⟩ | ⟨l, hn⟩
    · exact ho hk'
    · obtain ⟨p1, p2, p3⟩ := hP k' i' hn
      have hu : us k' 0 = true := by simp [us, Nat.blt_eq, hk']
      rw [E k' i' 0 l hu, hs _ (wf_some W l hu), W.2.2.1 k' i' hk' l]
      rw [flds_ext (ad' := ad') (σ' := σ') (k' := k') (i' := i') (fun f hf => ?_) rfl]
      have hqm' := hqm k' i' f 0 l
      by_cases hfa : ft k' f = 0 ∨ ft k' f = 1 ∨ ft k' f = 3
      · simp only [fv, p1, p2, p3, hqm']
        rcases hfa with e | e | e <;> simp [e]
      · simp only [not_or] at hfa
        simp only [fv, if_neg hfa.1, if_neg hfa.2.1, if_neg hfa.2.2]
        by_cases hA : isA k' f = true
        · rw [E k' i' (f + 1) l (by simpa [us] using hA)]
        · exfalso
          have h7 : ∀ k, k < 13 → ∀ f, f < nf k → isA k f = true ∨ ft k f = 0 ∨ ft k f = 1 ∨ ft k f = 3 := by decide +kernel
          rcases h7 k' hk' f hf with e | e | e | e
          · exact hA e
          · exact hfa.1 e
          · exact hfa.2.1 e
          · exact hfa.2.2 e
  · intro k' i' f l hA
    rcases hcase k' i' l with ⟨rfl, rfl⟩ | ⟨l, hn⟩
    · exact ha f hA
    · obtain ⟨p1, p2, p3⟩ := hP k' i' hn
      have hu : us k' (f + 1) = true := by simpa [us] using hA
      rw [E k' i' (f + 1) l hu, hs _ (wf_some W l hu), W.2.2.2.1 k' i' f l hA]
      have e9 : (fun j => (sQ σ k' i' f j).map (fun r => ad' (rk k' f) r 0)) = (fun j => (sQ σ k' i' f j).map (fun r => ad (rk k' f) r 0)) := funext (fun j => hqm k' i' f j l)
      simp only [ac, p1, p2, p3, hD, e9]
  · intro k' i' f j r l hr
    rcases hcase k' i' l with ⟨rfl, rfl⟩ | ⟨l, hn⟩
    · exact hc f j r hr
    · obtain ⟨p1, p2, p3⟩ := hP k' i' hn
      rw [p3] at hr
      exact Nat.lt_of_lt_of_le (W.2.2.2.2 k' i' f j r l hr) (hmono _)
theorem hrk_all : ∀ k f, us (rk k f) 0 = true := by
  intro k f
  have h1 : ∀ k, k < 15 → ∀ f, f < 60 → us (rk k f) 0 = true := by decide +kernel
  by_cases hk : k < 15
  · by_cases hf : f < 60
    · exact h1 k hk f hf
    · have h8 : ∀ k, k < 15 → (ktab.getD k []).length ≤ 60 := by decide
      have h9 := h8 k hk
      have : rk k f = 0 := by
        unfold rk
        simp only [List.getD] at h9 ⊢
        rw [List.getElem?_eq_none (l := (ktab[k]?.getD [])) (by omega)]
        rfl
      rw [this]; rfl
  · have : rk k f = 0 := by
      unfold rk
      have : ktab.getD k [] = [] := by simp [List.getD, List.getElem?_eq_none (show ktab.length ≤ k from Nat.le_of_not_lt hk)]
      rw [this]
      rfl
    rw [this]; rfl
def sN10 (σ : St) (p1 p2 : Int32) : St := stN σ 10 (fun f j => if f = 0 then p1 else if f = 1 then p2 else if f = 7 then (if j = 2 then 99 else if j = 1 then 99 else if j = 0 then 99 else 0) else 0) (fun _ => 0) (fun _ _ => none)
set_option maxHeartbeats 1000000 in
theorem y_new10 {ad : Nat → Nat → Nat → Nat} {h : Hp} {V : Nat → Nat} {h0 : St} {N : Nat} (W : Wf ad h V h0) {p1 p2 : Int32} {K : Nat → Hp → Prop} {K9 : St → Prop} (hw : lt_ (sN10 h0 p1 p2) K9) (kk : ∀ (ad9 : Nat → Nat → Nat → Nat) (V9 : Nat → Nat) (h9 : Hp), Wf ad9 h9 V9 (sN10 h0 p1 p2) → Ext ad V ad9 V9 → sV h0 10 < V9 10 → K9 (sN10 h0 p1 p2) → K (ad9 10 (sV h0 10) 0) h9) :
    nw h 10 [iV 0, iV 0, iV 0, iV 0, rV none, rV none, rV none, rV none, iV 0, iV 0, rV none, rV none, rV none] (fun a1 h2 => w_X10_init N a1 p1 p2 h2 (fun h3 => K a1 h3)) := by
  refine bd_nw (bd_nil h) (fun q h1 B => ?_)
  unfold w_X10_init
  refine bd_pF B rfl (fun h1 B => ?_)
  refine bd_pF B rfl (fun h1 B => ?_)
  refine bd_nA B (fun r1 h1 B => ?_)
  refine bd_pF B rfl (fun h1 B => ?_)
  refine bd_nA B (fun r2 h1 B => ?_)
  refine bd_pF B rfl (fun h1 B => ?_)
  refine bd_nA B (fun r3 h1 B => ?_)
  refine bd_pF B rfl (fun h1 B => ?_)
  refine bd_nA B (fun r4 h1 B => ?_)
  refine bd_sI B (by unfold vp_in; decide) (fun h1 B => ?_)
  refine bd_sI B (by unfold vp_in; decide) (fun h1 B => ?_)
  refine bd_sI B (by unfold vp_in; decide) (fun h1 B => ?_)
  refine bd_pF B rfl (fun h1 B => ?_)
  refine bd_pF B rfl (fun h1 B => ?_)
  refine bd_pF B rfl (fun h1 B => ?_)
  refine bd_nA B (fun r5 h1 B => ?_)
  refine bd_pF B rfl (fun h1 B => ?_)
  refine bd_nA B (fun r6 h1 B => ?_)
  refine bd_pF B rfl (fun h1 B => ?_)
  refine bd_nA B (fun r7 h1 B => ?_)
  refine bd_pF B rfl (fun h1 B => ?_)
  refine bd_pF B rfl (fun h1 B => ?_)
  refine bd_pF B rfl (fun h1 B => ?_)
  simp only [List.set_cons_zero, List.set_cons_succ] at B
  have hV := W.2.1
  have B1 := B.1
  simp only [List.map_cons, List.map_nil, List.nodup_cons, List.mem_cons, List.not_mem_nil, or_false, not_or, not_false_eq_true, List.nodup_nil, and_true, true_and] at B1
  obtain ⟨ad9, i9, e9, s9⟩ := ad_new (V := V) W.1 10 (V 10) (Nat.le_refl _) [(0, q), (5, r1), (6, r2), (7, r3), (8, r4), (11, r5), (12, r6), (13, r7)] (by simp) (by simp only [List.map_cons, List.map_nil, List.nodup_cons, List.mem_cons, List.not_mem_nil, or_false, not_or, not_false_eq_true, List.nodup_nil, and_true, true_and] <;> first | trivial | (refine ⟨?_, ?_⟩ <;> (simp only [ne_eq, eq_comm] at B1 ⊢; simp [B1])) | simp [B1, eq_comm]) (by
    intro x hx k9 i9 f9 l9 u9 e9
    have hn := wf_some W l9 u9
    have hall : ∀ y ∈ [(0, q), (5, r1), (6, r2), (7, r3), (8, r4), (11, r5), (12, r6), (13, r7)], h y.2 = none := by
      intro y hy
      simp only [List.mem_cons, List.not_mem_nil, or_false] at hy
      rcases hy with rfl | rfl | rfl | rfl | rfl | rfl | rfl | rfl
      · exact bd_fresh B (by simp)
      · exact bd_fresh B (by simp)
      · exact bd_fresh B (by simp)
      · exact bd_fresh B (by simp)
      · exact bd_fresh B (by simp)
      · exact bd_fresh B (by simp)
      · exact bd_fresh B (by simp)
      · exact bd_fresh B (by simp)
    exact hn (by rw [e9]; exact hall x hx))
  simp only [List.forall_mem_cons, List.not_mem_nil, false_imp_iff, implies_true, and_true] at e9
  obtain ⟨eq0, eq5, eq6, eq7, eq8, eq11, eq12, eq13⟩ := e9
  subst eq0 eq5 eq6 eq7 eq8 eq11 eq12 eq13
  have hE : Ext ad V ad9 (bump V 10) := ⟨s9, fun k9 => by unfold bump; split <;> (first | (subst_vars; omega) | exact Nat.le_refl _), fun k9 h9 => by unfold bump; rw [if_neg (by omega)]⟩
  have hvk : V 10 = sV h0 10 := by rw [hV]
  have W9 : Wf ad9 h1 (bump V 10) (sN10 h0 p1 p2) := by
    refine wf_new W B.2.2.2 10 i9 s9 rfl ?_ rfl ?_ ?_ ?_ hrk_all
    · intro k9 i9 hn
      rw [hvk] at hn
      refine ⟨?_, ?_, ?_⟩ <;> (funext f9 j9; simp only [sN10, sP_stN, sL_stN, sQ_stN, if_neg hn])
    · intro _
      have e := bd_at B 0 rfl
      dsimp only at e
      rw [e]
      have hr : List.range (nf 10) = [0, 1, 2, 3, 4, 5, 6, 7, 8, 9, 10, 11, 12] := by decide
      simp only [flds, hr, List.map_cons, List.map_nil, fv, show ft 10 0 = 0 from rfl, show ft 10 1 = 0 from rfl, show ft 10 2 = 0 from rfl, show ft 10 3 = 0 from rfl, show ft 10 4 = 2 from rfl, show ft 10 5 = 2 from rfl, show ft 10 6 = 2 from rfl, show ft 10 7 = 2 from rfl, show ft 10 8 = 0 from rfl, show ft 10 9 = 0 from rfl, show ft 10 10 = 2 from rfl, show ft 10 11 = 2 from rfl, show ft 10 12 = 2 from rfl, sN10, sP_stN, sL_stN, sQ_stN, hvk, and_self, if_true, Nat.reduceEqDiff, if_false, Nat.reduceAdd]
      first | done | rfl | simp
    · intro f hf
      have hl := isA_lt hf
      have key : ∀ f, f < nf 10 → isA 10 f = true → f = 4 ∨ f = 5 ∨ f = 6 ∨ f = 7 ∨ f = 10 ∨ f = 11 ∨ f = 12 := by decide +kernel
      rcases key f hl hf with rfl | rfl | rfl | rfl | rfl | rfl | rfl
      · have e := bd_at B 7 rfl
        dsimp only at e
        rw [e]
        refine congrArg some (congrArg Sum.inl ?_)
        symm
        refine acI rfl rfl rfl (fun j => ?_)
        simp [sN10, sP_stN, hvk, upd, show Int32.toNatClampNeg 0 = 0 from rfl, show Int32.toNatClampNeg 1 = 1 from rfl, show Int32.toNatClampNeg 2 = 2 from rfl]
      · have e := bd_at B 6 rfl
        dsimp only at e
        rw [e]
        refine congrArg some (congrArg Sum.inl ?_)
        symm
        refine acI rfl rfl rfl (fun j => ?_)
        simp [sN10, sP_stN, hvk, upd, show Int32.toNatClampNeg 0 = 0 from rfl, show Int32.toNatClampNeg 1 = 1 from rfl, show Int32.toNatClampNeg 2 = 2 from rfl]
      · have e := bd_at B 5 rfl
        dsimp only at e
        rw [e]
        refine congrArg some (congrArg Sum.inl ?_)
        symm
        refine acI rfl rfl rfl (fun j => ?_)
        simp [sN10, sP_stN, hvk, upd, show Int32.toNatClampNeg 0 = 0 from rfl, show Int32.toNatClampNeg 1 = 1 from rfl, show Int32.toNatClampNeg 2 = 2 from rfl]
      · have e := bd_at B 4 rfl
        dsimp only at e
        rw [e]
        refine congrArg some (congrArg Sum.inl ?_)
        symm
        refine acI rfl rfl rfl (fun j => ?_)
        simp [sN10, sP_stN, hvk, upd, show Int32.toNatClampNeg 0 = 0 from rfl, show Int32.toNatClampNeg 1 = 1 from rfl, show Int32.toNatClampNeg 2 = 2 from rfl]
      · have e := bd_at B 3 rfl
        dsimp only at e
        rw [e]
        refine congrArg some (congrArg Sum.inl ?_)
        symm
        refine acI rfl rfl rfl (fun j => ?_)
        simp [sN10, sP_stN, hvk, upd, show Int32.toNatClampNeg 0 = 0 from rfl, show Int32.toNatClampNeg 1 = 1 from rfl, show Int32.toNatClampNeg 2 = 2 from rfl]
      · have e := bd_at B 2 rfl
        dsimp only at e
        rw [e]
        refine congrArg some (congrArg Sum.inl ?_)
        symm
        refine acI rfl rfl rfl (fun j => ?_)
        simp [sN10, sP_stN, hvk, upd, show Int32.toNatClampNeg 0 = 0 from rfl, show Int32.toNatClampNeg 1 = 1 from rfl, show Int32.toNatClampNeg 2 = 2 from rfl]
      · have e := bd_at B 1 rfl
        dsimp only at e
        rw [e]
        refine congrArg some (congrArg Sum.inl ?_)
        symm
        refine acI rfl rfl rfl (fun j => ?_)
        simp [sN10, sP_stN, hvk, upd, show Int32.toNatClampNeg 0 = 0 from rfl, show Int32.toNatClampNeg 1 = 1 from rfl, show Int32.toNatClampNeg 2 = 2 from rfl]
    · intro f j r hr
      simp only [sN10, sQ_stN, hvk, and_self, if_true] at hr
      cases hr
  rw [hvk]
  exact kk ad9 _ h1 W9 hE (by rw [← hvk]; simp [bump]) hw
def sN3 (σ : St) (p1 : Int32) (p2 : Option Nat) (p3 : Int32) : St := stN σ 3 (fun f _ => if f = 0 then p1 else if f = 2 then p3 else 0) (fun _ => 0) (fun f j => if f = 1 ∧ j = 0 then p2 else none)
set_option maxHeartbeats 1000000 in
theorem y_new3 {ad : Nat → Nat → Nat → Nat} {h : Hp} {V : Nat → Nat} {h0 : St} {N : Nat} (W : Wf ad h V h0) {p1 : Int32} {p2 : Option Nat} {p3 : Int32} {p2_ : Option Nat} {K : Nat → Hp → Prop} {K9 : St → Prop} (hw : lt_ (sN3 h0 p1 p2_ p3) K9) (kk : ∀ (ad9 : Nat → Nat → Nat → Nat) (V9 : Nat → Nat) (h9 : Hp), Wf ad9 h9 V9 (sN3 h0 p1 p2_ p3) → Ext ad V ad9 V9 → sV h0 3 < V9 3 → K9 (sN3 h0 p1 p2_ p3) → K (ad9 3 (sV h0 3) 0) h9) (e2 : p2 = p2_.map (fun j => ad 10 j 0)) (l2 : ∀ r, p2_ = some r → r < V 10) :
    nw h 3 [iV 0, rV none, iV 0, rV none, iV 0] (fun a1 h2 => w_X3_init N a1 p1 p2 p3 h2 (fun h3 => K a1 h3)) := by
  subst e2
  refine bd_nw (bd_nil h) (fun q h1 B => ?_)
  unfold w_X3_init
  refine bd_nA B (fun r1 h1 B => ?_)
  refine bd_pF B rfl (fun h1 B => ?_)
  refine bd_pF B rfl (fun h1 B => ?_)
  refine bd_pF B rfl (fun h1 B => ?_)
  refine bd_pF B rfl (fun h1 B => ?_)
  refine bd_pF B rfl (fun h1 B => ?_)
  simp only [List.set_cons_zero, List.set_cons_succ] at B
  have hV := W.2.1
  have B1 := B.1
  simp only [List.map_cons, List.map_nil, List.nodup_cons, List.mem_cons, List.not_mem_nil, or_false, not_or, not_false_eq_true, List.nodup_nil, and_true, true_and] at B1
  obtain ⟨ad9, i9, e9, s9⟩ := ad_new (V := V) W.1 3 (V 3) (Nat.le_refl _) [(0, q), (4, r1)] (by simp) (by simp only [List.map_cons, List.map_nil, List.nodup_cons, List.mem_cons, List.not_mem_nil, or_false, not_or, not_false_eq_true, List.nodup_nil, and_true, true_and] <;> first | trivial | (refine ⟨?_, ?_⟩ <;> (simp only [ne_eq, eq_comm] at B1 ⊢; simp [B1])) | simp [B1, eq_comm]) (by
    intro x hx k9 i9 f9 l9 u9 e9
    have hn := wf_some W l9 u9
    have hall : ∀ y ∈ [(0, q), (4, r1)], h y.2 = none := by
      intro y hy
      simp only [List.mem_cons, List.not_mem_nil, or_false] at hy
      rcases hy with rfl | rfl
      · exact bd_fresh B (by simp)
      · exact bd_fresh B (by simp)
    exact hn (by rw [e9]; exact hall x hx))
  simp only [List.forall_mem_cons, List.not_mem_nil, false_imp_iff, implies_true, and_true] at e9
  obtain ⟨eq0, eq4⟩ := e9
  subst eq0 eq4
  have hE : Ext ad V ad9 (bump V 3) := ⟨s9, fun k9 => by unfold bump; split <;> (first | (subst_vars; omega) | exact Nat.le_refl _), fun k9 h9 => by unfold bump; rw [if_neg (by omega)]⟩
  have hvk : V 3 = sV h0 3 := by rw [hV]
  have W9 : Wf ad9 h1 (bump V 3) (sN3 h0 p1 p2_ p3) := by
    refine wf_new W B.2.2.2 3 i9 s9 rfl ?_ rfl ?_ ?_ ?_ hrk_all
    · intro k9 i9 hn
      rw [hvk] at hn
      refine ⟨?_, ?_, ?_⟩ <;> (funext f9 j9; simp only [sN3, sP_stN, sL_stN, sQ_stN, if_neg hn])
    · intro _
      have e := bd_at B 0 rfl
      dsimp only at e
      rw [e]
      have hr : List.range (nf 3) = [0, 1, 2, 3, 4] := by decide
      simp only [flds, hr, List.map_cons, List.map_nil, fv, show ft 3 0 = 0 from rfl, show ft 3 1 = 3 from rfl, show ft 3 2 = 0 from rfl, show ft 3 3 = 2 from rfl, show ft 3 4 = 0 from rfl, sN3, sP_stN, sL_stN, sQ_stN, hvk, and_self, if_true, Nat.reduceEqDiff, if_false, Nat.reduceAdd, show rk 3 1 = 10 from rfl]
      refine congrArg some (congrArg Sum.inr (congrArg (Prod.mk 3) ?_))
      rw [← ext_r hE rfl l2 rfl]
      first | done | rfl | simp
    · intro f hf
      have hl := isA_lt hf
      have key : ∀ f, f < nf 3 → isA 3 f = true → f = 3 := by decide +kernel
      rcases key f hl hf with rfl
      · have e := bd_at B 1 rfl
        dsimp only at e
        rw [e]
        refine congrArg some (congrArg Sum.inl ?_)
        symm
        refine acI rfl rfl rfl (fun j => ?_)
        simp [sN3, sP_stN, hvk, upd, show Int32.toNatClampNeg 0 = 0 from rfl, show Int32.toNatClampNeg 1 = 1 from rfl, show Int32.toNatClampNeg 2 = 2 from rfl]
    · intro f j r hr
      simp only [sN3, sQ_stN, hvk, and_self, if_true] at hr
      split at hr
      · rename_i e
        obtain ⟨rfl, rfl⟩ := e
        have := l2 r hr
        show r < bump V 3 10
        simpa [bump] using this
      · cases hr
  rw [hvk]
  exact kk ad9 _ h1 W9 hE (by rw [← hvk]; simp [bump]) hw
def sN7 (σ : St) : St := stN σ 7 (fun _ _ => 0) (fun _ => 0) (fun _ _ => none)
set_option maxHeartbeats 1000000 in
theorem y_new7 {ad : Nat → Nat → Nat → Nat} {h : Hp} {V : Nat → Nat} {h0 : St} {N : Nat} (W : Wf ad h V h0) {K : Nat → Hp → Prop} {K9 : St → Prop} (hw : lt_ (sN7 h0) K9) (kk : ∀ (ad9 : Nat → Nat → Nat → Nat) (V9 : Nat → Nat) (h9 : Hp), Wf ad9 h9 V9 (sN7 h0) → Ext ad V ad9 V9 → sV h0 7 < V9 7 → K9 (sN7 h0) → K (ad9 7 (sV h0 7) 0) h9) :
    nw h 7 [rV none, iV 0, rV none, iV 0, rV none, iV 0] (fun a1 h2 => w_X7_init N a1 h2 (fun h3 => K a1 h3)) := by
  refine bd_nw (bd_nil h) (fun q h1 B => ?_)
  unfold w_X7_init
  refine bd_nA B (fun r1 h1 B => ?_)
  refine bd_pF B rfl (fun h1 B => ?_)
  refine bd_pF B rfl (fun h1 B => ?_)
  refine bd_nA B (fun r2 h1 B => ?_)
  refine bd_pF B rfl (fun h1 B => ?_)
  refine bd_pF B rfl (fun h1 B => ?_)
  refine bd_nA B (fun r3 h1 B => ?_)
  refine bd_pF B rfl (fun h1 B => ?_)
  refine bd_pF B rfl (fun h1 B => ?_)
  simp only [List.set_cons_zero, List.set_cons_succ] at B
  have hV := W.2.1
  have B1 := B.1
  simp only [List.map_cons, List.map_nil, List.nodup_cons, List.mem_cons, List.not_mem_nil, or_false, not_or, not_false_eq_true, List.nodup_nil, and_true, true_and] at B1
  obtain ⟨ad9, i9, e9, s9⟩ := ad_new (V := V) W.1 7 (V 7) (Nat.le_refl _) [(0, q), (1, r1), (3, r2), (5, r3)] (by simp) (by simp only [List.map_cons, List.map_nil, List.nodup_cons, List.mem_cons, List.not_mem_nil, or_false, not_or, not_false_eq_true, List.nodup_nil, and_true, true_and] <;> first | trivial | (refine ⟨?_, ?_⟩ <;> (simp only [ne_eq, eq_comm] at B1 ⊢; simp [B1])) | simp [B1, eq_comm]) (by
    intro x hx k9 i9 f9 l9 u9 e9
    have hn := wf_some W l9 u9
    have hall : ∀ y ∈ [(0, q), (1, r1), (3, r2), (5, r3)], h y.2 = none := by
      intro y hy
      simp only [List.mem_cons, List.not_mem_nil, or_false] at hy
      rcases hy with rfl | rfl | rfl | rfl
      · exact bd_fresh B (by simp)
      · exact bd_fresh B (by simp)
      · exact bd_fresh B (by simp)
      · exact bd_fresh B (by simp)
    exact hn (by rw [e9]; exact hall x hx))
  simp only [List.forall_mem_cons, List.not_mem_nil, false_imp_iff, implies_true, and_true] at e9
  obtain ⟨eq0, eq1, eq3, eq5⟩ := e9
  subst eq0 eq1 eq3 eq5
  have hE : Ext ad V ad9 (bump V 7) := ⟨s9, fun k9 => by unfold bump; split <;> (first | (subst_vars; omega) | exact Nat.le_refl _), fun k9 h9 => by unfold bump; rw [if_neg (by omega)]⟩
  have hvk : V 7 = sV h0 7 := by rw [hV]
  have W9 : Wf ad9 h1 (bump V 7) (sN7 h0) := by
    refine wf_new W B.2.2.2 7 i9 s9 rfl ?_ rfl ?_ ?_ ?_ hrk_all
    · intro k9 i9 hn
      rw [hvk] at hn
      refine ⟨?_, ?_, ?_⟩ <;> (funext f9 j9; simp only [sN7, sP_stN, sL_stN, sQ_stN, if_neg hn])
    · intro _
      have e := bd_at B 0 rfl
      dsimp only at e
      rw [e]
      have hr : List.range (nf 7) = [0, 1, 2, 3, 4, 5] := by decide
      simp only [flds, hr, List.map_cons, List.map_nil, fv, show ft 7 0 = 4 from rfl, show ft 7 1 = 0 from rfl, show ft 7 2 = 4 from rfl, show ft 7 3 = 0 from rfl, show ft 7 4 = 4 from rfl, show ft 7 5 = 0 from rfl, sN7, sP_stN, sL_stN, sQ_stN, hvk, and_self, if_true, Nat.reduceEqDiff, if_false, Nat.reduceAdd]
      first | done | rfl | simp
    · intro f hf
      have hl := isA_lt hf
      have key : ∀ f, f < nf 7 → isA 7 f = true → f = 0 ∨ f = 2 ∨ f = 4 := by decide +kernel
      rcases key f hl hf with rfl | rfl | rfl
      · have e := bd_at B 3 rfl
        dsimp only at e
        rw [e]
        refine congrArg some (congrArg Sum.inl ?_)
        symm
        refine acR0 rfl rfl rfl (fun j => ?_)
        simp [sN7, sQ_stN, hvk]
      · have e := bd_at B 2 rfl
        dsimp only at e
        rw [e]
        refine congrArg some (congrArg Sum.inl ?_)
        symm
        refine acR0 rfl rfl rfl (fun j => ?_)
        simp [sN7, sQ_stN, hvk]
      · have e := bd_at B 1 rfl
        dsimp only at e
        rw [e]
        refine congrArg some (congrArg Sum.inl ?_)
        symm
        refine acR0 rfl rfl rfl (fun j => ?_)
        simp [sN7, sQ_stN, hvk]
    · intro f j r hr
      simp only [sN7, sQ_stN, hvk, and_self, if_true] at hr
      cases hr
  rw [hvk]
  exact kk ad9 _ h1 W9 hE (by rw [← hvk]; simp [bump]) hw
def sN1 (σ : St) (p1 p2 p3 p4 : Int32) : St := stN σ 1 (fun f _ => if f = 0 then p1 else if f = 1 then p2 else if f = 2 then p3 else p4) (fun _ => 0) (fun _ _ => none)
set_option maxHeartbeats 1000000 in
theorem y_new1 {ad : Nat → Nat → Nat → Nat} {h : Hp} {V : Nat → Nat} {h0 : St} {N : Nat} (W : Wf ad h V h0) {p1 p2 p3 p4 : Int32} {K : Nat → Hp → Prop} {K9 : St → Prop} (hw : ok (narrow .char (.int p3) = .int p3 ∧ fits .char (.int p3) = true) <| lt_ (sN1 h0 p1 p2 p3 p4) K9) (kk : ∀ (ad9 : Nat → Nat → Nat → Nat) (V9 : Nat → Nat) (h9 : Hp), Wf ad9 h9 V9 (sN1 h0 p1 p2 p3 p4) → Ext ad V ad9 V9 → sV h0 1 < V9 1 → K9 (sN1 h0 p1 p2 p3 p4) → K (ad9 1 (sV h0 1) 0) h9) :
    nw h 1 [iV 0, iV 0, iV 0, iV 0] (fun a1 h2 => w_X1_init N a1 p1 p2 p3 p4 h2 (fun h3 => K a1 h3)) := by
  refine bd_nw (bd_nil h) (fun q h1 B => ?_)
  unfold w_X1_init
  refine bd_pF B rfl (fun h1 B => ?_)
  refine bd_pF B rfl (fun h1 B => ?_)
  refine ⟨hw.1, ?_⟩
  have hw := hw.2
  refine bd_pF B rfl (fun h1 B => ?_)
  refine bd_pF B rfl (fun h1 B => ?_)
  simp only [List.set_cons_zero, List.set_cons_succ] at B
  have hV := W.2.1
  have B1 := B.1
  simp only [List.map_cons, List.map_nil, List.nodup_cons, List.mem_cons, List.not_mem_nil, or_false, not_or, not_false_eq_true, List.nodup_nil, and_true, true_and] at B1
  obtain ⟨ad9, i9, e9, s9⟩ := ad_new (V := V) W.1 1 (V 1) (Nat.le_refl _) [(0, q)] (by simp) (by simp only [List.map_cons, List.map_nil, List.nodup_cons, List.mem_cons, List.not_mem_nil, or_false, not_or, not_false_eq_true, List.nodup_nil, and_true, true_and] <;> first | trivial | (refine ⟨?_, ?_⟩ <;> (simp only [ne_eq, eq_comm] at B1 ⊢; simp [B1])) | simp [B1, eq_comm]) (by
    intro x hx k9 i9 f9 l9 u9 e9
    have hn := wf_some W l9 u9
    have hall : ∀ y ∈ [(0, q)], h y.2 = none := by
      intro y hy
      simp only [List.mem_cons, List.not_mem_nil, or_false] at hy
      rcases hy with rfl
      · exact bd_fresh B (by simp)
    exact hn (by rw [e9]; exact hall x hx))
  simp only [List.forall_mem_cons, List.not_mem_nil, false_imp_iff, implies_true, and_true] at e9
  have eq0 := e9
  subst eq0
  have hE : Ext ad V ad9 (bump V 1) := ⟨s9, fun k9 => by unfold bump; split <;> (first | (subst_vars; omega) | exact Nat.le_refl _), fun k9 h9 => by unfold bump; rw [if_neg (by omega)]⟩
  have hvk : V 1 = sV h0 1 := by rw [hV]
  have W9 : Wf ad9 h1 (bump V 1) (sN1 h0 p1 p2 p3 p4) := by
    refine wf_new W B.2.2.2 1 i9 s9 rfl ?_ rfl ?_ ?_ ?_ hrk_all
    · intro k9 i9 hn
      rw [hvk] at hn
      refine ⟨?_, ?_, ?_⟩ <;> (funext f9 j9; simp only [sN1, sP_stN, sL_stN, sQ_stN, if_neg hn])
    · intro _
      have e := bd_at B 0 rfl
      dsimp only at e
      rw [e]
      have hr : List.range (nf 1) = [0, 1, 2, 3] := by decide
      simp only [flds, hr, List.map_cons, List.map_nil, fv, show ft 1 0 = 0 from rfl, show ft 1 1 = 0 from rfl, show ft 1 2 = 0 from rfl, show ft 1 3 = 0 from rfl, sN1, sP_stN, sL_stN, sQ_stN, hvk, and_self, if_true, Nat.reduceEqDiff, if_false, Nat.reduceAdd]
      first | done | rfl | simp
    · intro f hf
      have hl := isA_lt hf
      have key : ∀ f, f < nf 1 → ¬ isA 1 f = true := by decide +kernel
      exact absurd hf (key f hl)
    · intro f j r hr
      simp only [sN1, sQ_stN, hvk, and_self, if_true] at hr
      cases hr
  rw [hvk]
  exact kk ad9 _ h1 W9 hE (by rw [← hvk]; simp [bump]) hw
def sN4 (σ : St) (p1 p2 p3 p4 : Int32) : St := stN σ 4 (fun f _ => if f = 0 then p1 else if f = 1 then p2 else if f = 2 then p3 else p4) (fun _ => 0) (fun _ _ => none)
set_option maxHeartbeats 1000000 in
theorem y_new4 {ad : Nat → Nat → Nat → Nat} {h : Hp} {V : Nat → Nat} {h0 : St} {N : Nat} (W : Wf ad h V h0) {p1 p2 p3 p4 : Int32} {K : Nat → Hp → Prop} {K9 : St → Prop} (hw : lt_ (sN4 h0 p1 p2 p3 p4) K9) (kk : ∀ (ad9 : Nat → Nat → Nat → Nat) (V9 : Nat → Nat) (h9 : Hp), Wf ad9 h9 V9 (sN4 h0 p1 p2 p3 p4) → Ext ad V ad9 V9 → sV h0 4 < V9 4 → K9 (sN4 h0 p1 p2 p3 p4) → K (ad9 4 (sV h0 4) 0) h9) :
    nw h 4 [iV 0, iV 0, iV 0, iV 0] (fun a1 h2 => w_X4_init N a1 p1 p2 p3 p4 h2 (fun h3 => K a1 h3)) := by
  refine bd_nw (bd_nil h) (fun q h1 B => ?_)
  unfold w_X4_init
  refine bd_pF B rfl (fun h1 B => ?_)
  refine bd_pF B rfl (fun h1 B => ?_)
  refine bd_pF B rfl (fun h1 B => ?_)
  refine bd_pF B rfl (fun h1 B => ?_)
  simp only [List.set_cons_zero, List.set_cons_succ] at B
  have hV := W.2.1
  have B1 := B.1
  simp only [List.map_cons, List.map_nil, List.nodup_cons, List.mem_cons, List.not_mem_nil, or_false, not_or, not_false_eq_true, List.nodup_nil, and_true, true_and] at B1
  obtain ⟨ad9, i9, e9, s9⟩ := ad_new (V := V) W.1 4 (V 4) (Nat.le_refl _) [(0, q)] (by simp) (by simp only [List.map_cons, List.map_nil, List.nodup_cons, List.mem_cons, List.not_mem_nil, or_false, not_or, not_false_eq_true, List.nodup_nil, and_true, true_and] <;> first | trivial | (refine ⟨?_, ?_⟩ <;> (simp only [ne_eq, eq_comm] at B1 ⊢; simp [B1])) | simp [B1, eq_comm]) (by
    intro x hx k9 i9 f9 l9 u9 e9
    have hn := wf_some W l9 u9
    have hall : ∀ y ∈ [(0, q)], h y.2 = none := by
      intro y hy
      simp only [List.mem_cons, List.not_mem_nil, or_false] at hy
      rcases hy with rfl
      · exact bd_fresh B (by simp)
    exact hn (by rw [e9]; exact hall x hx))
  simp only [List.forall_mem_cons, List.not_mem_nil, false_imp_iff, implies_true, and_true] at e9
  have eq0 := e9
  subst eq0
  have hE : Ext ad V ad9 (bump V 4) := ⟨s9, fun k9 => by unfold bump; split <;> (first | (subst_vars; omega) | exact Nat.le_refl _), fun k9 h9 => by unfold bump; rw [if_neg (by omega)]⟩
  have hvk : V 4 = sV h0 4 := by rw [hV]
  have W9 : Wf ad9 h1 (bump V 4) (sN4 h0 p1 p2 p3 p4) := by
    refine wf_new W B.2.2.2 4 i9 s9 rfl ?_ rfl ?_ ?_ ?_ hrk_all
    · intro k9 i9 hn
      rw [hvk] at hn
      refine ⟨?_, ?_, ?_⟩ <;> (funext f9 j9; simp only [sN4, sP_stN, sL_stN, sQ_stN, if_neg hn])
    · intro _
      have e := bd_at B 0 rfl
      dsimp only at e
      rw [e]
      have hr : List.range (nf 4) = [0, 1, 2, 3] := by decide
      simp only [flds, hr, List.map_cons, List.map_nil, fv, show ft 4 0 = 0 from rfl, show ft 4 1 = 0 from rfl, show ft 4 2 = 0 from rfl, show ft 4 3 = 0 from rfl, sN4, sP_stN, sL_stN, sQ_stN, hvk, and_self, if_true, Nat.reduceEqDiff, if_false, Nat.reduceAdd]
      first | done | rfl | simp
    · intro f hf
      have hl := isA_lt hf
      have key : ∀ f, f < nf 4 → ¬ isA 4 f = true := by decide +kernel
      exact absurd hf (key f hl)
    · intro f j r hr
      simp only [sN4, sQ_stN, hvk, and_self, if_true] at hr
      cases hr
  rw [hvk]
  exact kk ad9 _ h1 W9 hE (by rw [← hvk]; simp [bump]) hw
end SNEW
