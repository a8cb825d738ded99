/-! LEVEL 2, GROUND. The state as registers (kind, instance, field, place), the relation Wf between heap and registers, its rules. -/
section SIM
abbrev St : Type := (Nat → Nat → Nat → Nat → Int32) × (Nat → Nat → Nat → Nat → Int64) × (Nat → Nat → Nat → Nat → Option Nat) × (Nat → UInt64) × (Nat → Nat)
def sP (σ : St) : Nat → Nat → Nat → Nat → Int32 := σ.1
def sL_ (σ : St) : Nat → Nat → Nat → Nat → Int64 := σ.2.1
def sQ (σ : St) : Nat → Nat → Nat → Nat → Option Nat := σ.2.2.1
def sD_ (σ : St) : Nat → UInt64 := σ.2.2.2.1
def sV (σ : St) : Nat → Nat := σ.2.2.2.2
def stP (σ : St) (k i f j : Nat) (v : Int32) : St := (fun k' i' f' j' => if k' = k ∧ i' = i ∧ f' = f ∧ j' = j then v else sP σ k' i' f' j', σ.2)
def stL (σ : St) (k i f j : Nat) (v : Int64) : St := (σ.1, fun k' i' f' j' => if k' = k ∧ i' = i ∧ f' = f ∧ j' = j then v else sL_ σ k' i' f' j', σ.2.2)
def stQ (σ : St) (k i f j : Nat) (v : Option Nat) : St := (σ.1, σ.2.1, fun k' i' f' j' => if k' = k ∧ i' = i ∧ f' = f ∧ j' = j then v else sQ σ k' i' f' j', σ.2.2.2)
def stD (σ : St) (j : Nat) (v : UInt64) : St := (σ.1, σ.2.1, σ.2.2.1, fun j' => if j' = j then v else sD_ σ j', σ.2.2.2.2)
def stN (σ : St) (k : Nat) (p : Nat → Nat → Int32) (l : Nat → Int64) (q : Nat → Nat → Option Nat) : St := (fun k' i' f' j' => if k' = k ∧ i' = sV σ k then p f' j' else sP σ k' i' f' j', fun k' i' f' j' => if k' = k ∧ i' = sV σ k then l f' else sL_ σ k' i' f' j', fun k' i' f' j' => if k' = k ∧ i' = sV σ k then q f' j' else sQ σ k' i' f' j', σ.2.2.2.1, fun k' => if k' = k then sV σ k + 1 else sV σ k')
variable {σ : St}
theorem sP_stP {k i f j v k' i' f' j'} : sP (stP σ k i f j v) k' i' f' j' = if k' = k ∧ i' = i ∧ f' = f ∧ j' = j then v else sP σ k' i' f' j' := rfl
theorem sL_stP {k i f j v} : sL_ (stP σ k i f j v) = sL_ σ := rfl
theorem sQ_stP {k i f j v} : sQ (stP σ k i f j v) = sQ σ := rfl
theorem sD_stP {k i f j v} : sD_ (stP σ k i f j v) = sD_ σ := rfl
theorem sV_stP {k i f j v} : sV (stP σ k i f j v) = sV σ := rfl
theorem sP_stL {k i f j v} : sP (stL σ k i f j v) = sP σ := rfl
theorem sL_stL {k i f j v k' i' f' j'} : sL_ (stL σ k i f j v) k' i' f' j' = if k' = k ∧ i' = i ∧ f' = f ∧ j' = j then v else sL_ σ k' i' f' j' := rfl
theorem sQ_stL {k i f j v} : sQ (stL σ k i f j v) = sQ σ := rfl
theorem sD_stL {k i f j v} : sD_ (stL σ k i f j v) = sD_ σ := rfl
theorem sV_stL {k i f j v} : sV (stL σ k i f j v) = sV σ := rfl
theorem sP_stQ {k i f j v} : sP (stQ σ k i f j v) = sP σ := rfl
theorem sL_stQ {k i f j v} : sL_ (stQ σ k i f j v) = sL_ σ := rfl
theorem sQ_stQ {k i f j v k' i' f' j'} : sQ (stQ σ k i f j v) k' i' f' j' = if k' = k ∧ i' = i ∧ f' = f ∧ j' = j then v else sQ σ k' i' f' j' := rfl
theorem sD_stQ {k i f j v} : sD_ (stQ σ k i f j v) = sD_ σ := rfl
theorem sV_stQ {k i f j v} : sV (stQ σ k i f j v) = sV σ := rfl
theorem sP_stD {j v} : sP (stD σ j v) = sP σ := rfl
theorem sL_stD {j v} : sL_ (stD σ j v) = sL_ σ := rfl
theorem sQ_stD {j v} : sQ (stD σ j v) = sQ σ := rfl
theorem sD_stD {j v j'} : sD_ (stD σ j v) j' = if j' = j then v else sD_ σ j' := rfl
theorem sV_stD {j v} : sV (stD σ j v) = sV σ := rfl
theorem sP_stN {k p l q k' i' f' j'} : sP (stN σ k p l q) k' i' f' j' = if k' = k ∧ i' = sV σ k then p f' j' else sP σ k' i' f' j' := rfl
theorem sL_stN {k p l q k' i' f' j'} : sL_ (stN σ k p l q) k' i' f' j' = if k' = k ∧ i' = sV σ k then l f' else sL_ σ k' i' f' j' := rfl
theorem sQ_stN {k p l q k' i' f' j'} : sQ (stN σ k p l q) k' i' f' j' = if k' = k ∧ i' = sV σ k then q f' j' else sQ σ k' i' f' j' := rfl
theorem sD_stN {k p l q} : sD_ (stN σ k p l q) = sD_ σ := rfl
theorem sV_stN {k p l q k'} : sV (stN σ k p l q) k' = if k' = k then sV σ k + 1 else sV σ k' := rfl
def ftab : List (List Nat) := [[2, 0, 0], [0, 0, 0, 0], [2, 2, 2, 0, 0, 0], [0, 3, 0, 2, 0], [0, 0, 0, 0], [0, 2, 2, 2, 2, 2, 1], [3, 2, 2, 2, 2, 2, 2], [4, 0, 4, 0, 4, 0], [3, 3, 3, 3, 3, 2, 2, 0, 0, 0, 1, 0, 0, 0, 0, 1], [4, 0, 4, 0], [0, 0, 0, 0, 2, 2, 2, 2, 0, 0, 2, 2, 2], [3, 4, 0, 3, 3, 3, 3, 3, 3, 3, 3, 3], [0, 0, 2, 2, 2, 2, 2, 2, 2, 2, 2, 2, 2, 0, 2, 2, 0, 2, 2, 0, 2, 2, 0, 0, 0, 2, 2, 2, 2, 2, 2, 2, 2, 2, 2, 2, 2, 2, 0, 2, 2, 2, 2, 2, 2, 0, 2, 2, 2, 0, 0, 2, 0, 2, 2, 0], [5], [6]]
def atab : List (List Nat) := [[0, 0, 0], [0, 0, 0, 0], [0, 0, 0, 0, 0, 0], [0, 0, 0, 0, 0], [0, 0, 0, 0], [0, 0, 0, 2, 0, 0, 0], [0, 0, 0, 0, 0, 0, 0], [5, 0, 8, 0, 9, 0], [0, 0, 0, 0, 0, 0, 0, 0, 0, 0, 0, 0, 0, 0, 0, 0], [5, 0, 6, 0], [0, 0, 0, 0, 1, 0, 0, 0, 0, 0, 0, 0, 0], [0, 7, 0, 0, 0, 0, 0, 0, 0, 0, 0, 0], [0, 0, 0, 0, 1, 0, 0, 0, 0, 0, 0, 0, 0, 0, 0, 0, 0, 0, 0, 0, 0, 0, 0, 0, 0, 0, 0, 0, 0, 0, 0, 0, 0, 0, 0, 0, 0, 0, 0, 0, 0, 0, 0, 0, 0, 0, 0, 0, 0, 0, 0, 0, 0, 0, 0, 0], [3], [4]]
def ntab : List (List Nat) := [[12, 0, 0], [0, 0, 0, 0], [2, 2, 1024, 0, 0, 0], [0, 0, 0, 40, 0], [0, 0, 0, 0], [0, 3, 3, 3, 3, 3, 0], [0, 4, 4, 4, 3, 9, 9], [3, 0, 4, 0, 3, 0], [0, 0, 0, 0, 0, 3, 9, 0, 0, 0, 0, 0, 0, 0, 0, 0], [3, 0, 6, 0], [0, 0, 0, 0, 40, 120, 3, 3, 0, 0, 3, 3, 3], [0, 8, 0, 0, 0, 0, 0, 0, 0, 0, 0, 0], [0, 0, 3, 3, 120, 360, 9, 9, 3, 3, 9, 9, 9, 0, 6, 6, 0, 240, 6, 0, 26, 2, 0, 0, 0, 8, 24, 8, 32, 32, 32, 32, 8, 24, 24, 24, 24, 3, 0, 3, 3, 3, 3, 3, 3, 0, 2, 3, 3, 0, 0, 2, 0, 1200, 2, 0], [1], [1]]
def ktab : List (List Nat) := [[0, 0, 0], [0, 0, 0, 0], [0, 0, 0, 0, 0, 0], [0, 10, 0, 0, 0], [0, 0, 0, 0], [0, 0, 0, 0, 0, 0, 0], [5, 0, 0, 0, 0, 0, 0], [10, 0, 1, 0, 4, 0], [5, 9, 7, 5, 0, 0, 0, 0, 0, 0, 0, 0, 0, 0, 0, 0], [10, 0, 3, 0], [0, 0, 0, 0, 0, 0, 0, 0, 0, 0, 0, 0, 0], [9, 7, 0, 0, 0, 6, 8, 5, 5, 5, 7, 2], [0, 0, 0, 0, 0, 0, 0, 0, 0, 0, 0, 0, 0, 0, 0, 0, 0, 0, 0, 0, 0, 0, 0, 0, 0, 0, 0, 0, 0, 0, 0, 0, 0, 0, 0, 0, 0, 0, 0, 0, 0, 0, 0, 0, 0, 0, 0, 0, 0, 0, 0, 0, 0, 0, 0, 0], [0], [0]]
def ft (k f : Nat) : Nat := (ftab.getD k []).getD f 9
def nf (k : Nat) : Nat := (ftab.getD k []).length
def at_ (k f : Nat) : Nat := (atab.getD k []).getD f 0
def an_ (k f : Nat) : Nat := (ntab.getD k []).getD f 0
def rk (k f : Nat) : Nat := (ktab.getD k []).getD f 0
variable {ad : Nat → Nat → Nat → Nat} {h : Hp} {V : Nat → Nat}
def fv (ad : Nat → Nat → Nat → Nat) (σ : St) (k i f : Nat) : Tv :=
  if ft k f = 0 then iV (sP σ k i f 0) else if ft k f = 1 then lV (sL_ σ k i f 0) else if ft k f = 3 then rV ((sQ σ k i f 0).map (fun j => ad (rk k f) j 0)) else rV (some (ad k i (f + 1)))
def flds (ad : Nat → Nat → Nat → Nat) (σ : St) (k i : Nat) : List Tv := (List.range (nf k)).map (fv ad σ k i)
def ac (ad : Nat → Nat → Nat → Nat) (σ : St) (k i f : Nat) : Nat × vp_A :=
  if ft k f = 2 then (at_ k f, an_ k f, .inl (sP σ k i f)) else if ft k f = 4 then (at_ k f, an_ k f, .inr (.inr (.inr (.inr (fun j => (sQ σ k i f j).map (fun q => ad (rk k f) q 0)))))) else if ft k f = 5 then (3, 1, .inr (.inl (sL_ σ k i f))) else (4, 1, .inr (.inr (.inr (.inl (sD_ σ)))))
def isA (k f : Nat) : Bool := ft k f == 2 || (ft k f == 4 || (ft k f == 5 || ft k f == 6))
def Wf (ad : Nat → Nat → Nat → Nat) (h : Hp) (V : Nat → Nat) (σ : St) : Prop :=
  (∀ k i f k' i' f', ad k i f = ad k' i' f' → k = k' ∧ i = i' ∧ f = f') ∧ sV σ = V ∧
  (∀ k i, k < 13 → i < V k → h (ad k i 0) = some (.inr (k, flds ad σ k i))) ∧
  (∀ k i f, i < V k → isA k f = true → h (ad k i (f + 1)) = some (.inl (ac ad σ k i f))) ∧
  (∀ k i f j r, i < V k → sQ σ k i f j = some r → r < V (rk k f))
def ck (k f c : Nat) : Bool := Nat.blt k 13 && (Nat.blt f (nf k) && Nat.beq (ft k f) c)
theorem ck_1 {k f c : Nat} (hc : ck k f c = true) : k < 13 ∧ f < nf k ∧ ft k f = c := by
  simp only [ck, Bool.and_eq_true, Nat.blt_eq] at hc
  exact ⟨hc.1, hc.2.1, Nat.eq_of_beq_eq_true hc.2.2⟩
theorem flds_get {k i f : Nat} (hf : f < nf k) : (flds ad σ k i)[f]? = some (fv ad σ k i f) := by
  simp [flds, List.getElem?_map, hf]
theorem flds_len {k i : Nat} : (flds ad σ k i).length = nf k := by simp [flds]
theorem wf_live (W : Wf ad h V σ) {k i : Nat} (l : i < V k) (f j : Nat) {t : Nat} (ht : Nat.beq (rk k f) t = true) : ∀ r, sQ σ k i f j = some r → r < V t := by
  intro r hr
  have := W.2.2.2.2 k i f j r l hr
  rwa [Nat.eq_of_beq_eq_true ht] at this
theorem l_gI (W : Wf ad h V σ) {a k i f : Nat} {K : Int32 → Prop} (e : a = ad k i 0) (l : i < V k) (hc : ck k f 0 = true) (hw : K (sP σ k i f 0)) : gI h a k f K := by
  obtain ⟨h1, h2, h3⟩ := ck_1 hc
  subst e
  exact ⟨_, _, W.2.2.1 k i h1 l, by rw [flds_get h2]; simp [fv, h3], hw⟩
theorem l_gL (W : Wf ad h V σ) {a k i f : Nat} {K : Int64 → Prop} (e : a = ad k i 0) (l : i < V k) (hc : ck k f 1 = true) (hw : K (sL_ σ k i f 0)) : gL h a k f K := by
  obtain ⟨h1, h2, h3⟩ := ck_1 hc
  subst e
  exact ⟨_, _, W.2.2.1 k i h1 l, by rw [flds_get h2]; simp [fv, h3], hw⟩
theorem l_gR (W : Wf ad h V σ) {a k i f t : Nat} {K : Option Nat → Prop} (e : a = ad k i 0) (l : i < V k) (hc : ck k f 3 = true) (ht : Nat.beq (rk k f) t = true) (hw : K ((sQ σ k i f 0).map (fun j => ad t j 0))) : gR h a k f K := by
  obtain ⟨h1, h2, h3⟩ := ck_1 hc
  subst e
  rw [← Nat.eq_of_beq_eq_true ht] at hw
  exact ⟨_, _, W.2.2.1 k i h1 l, by rw [flds_get h2]; simp [fv, h3], hw⟩
theorem l_gO (W : Wf ad h V σ) {a k i f t : Nat} {K K' : Nat → Prop} (e : a = ad k i 0) (l : i < V k) (hc : ck k f 3 = true) (ht : Nat.beq (rk k f) t = true) (hw : nn (sQ σ k i f 0) K') (kk : ∀ r, r < V t → K' r → K (ad t r 0)) : gA h a k f K := by
  obtain ⟨h1, h2, h3⟩ := ck_1 hc
  subst e
  obtain ⟨r, hr, hw⟩ := hw
  refine ⟨_, _, W.2.2.1 k i h1 l, ?_, kk r (wf_live W l f 0 ht r hr) hw⟩
  rw [flds_get h2]
  simp [fv, h3, hr, Nat.eq_of_beq_eq_true ht]
theorem l_gA (W : Wf ad h V σ) {a k i f c : Nat} {K : Nat → Prop} (e : a = ad k i 0) (l : i < V k) (hc : ck k f c = true) (h2c : Nat.ble 4 c = true ∨ c = 2) (hw : K (ad k i (f + 1))) : gA h a k f K := by
  obtain ⟨h1, h2, h3⟩ := ck_1 hc
  subst e
  refine ⟨_, _, W.2.2.1 k i h1 l, ?_, hw⟩
  rw [flds_get h2]
  rcases h2c with h4 | h4
  · have h5 := Nat.le_of_ble_eq_true h4
    simp [fv, h3, show c ≠ 0 by omega, show c ≠ 1 by omega, show c ≠ 3 by omega]
  · simp [fv, h3, h4]
theorem l_cv (W : Wf ad h V σ) {a k i : Nat} {T : Prop} (e : a = ad k i 0) (l : i < V k) (hk : Nat.blt k 13 = true) (hw : T) : cv h a k T := by
  subst e
  exact ⟨⟨_, W.2.2.1 k i (by simpa [Nat.blt_eq] using hk) l⟩, hw⟩
def wI (n : Nat) (i : Int32) (T : Prop) : Prop := vp_in i n ∧ T
def wA (n : Nat) (i : Int32) (σ : St) (K : St → Prop) : Prop := vp_in i n ∧ K σ
def lt_ (σ : St) (K : St → Prop) : Prop := K σ
def ca (k f t n c : Nat) : Bool := Nat.beq (ft k f) c && (Nat.beq (at_ k f) t && Nat.beq (an_ k f) n)
theorem ca_1 {k f t n c : Nat} (hc : ca k f t n c = true) : ft k f = c ∧ at_ k f = t ∧ an_ k f = n := by
  simp only [ca, Bool.and_eq_true] at hc
  exact ⟨Nat.eq_of_beq_eq_true hc.1, Nat.eq_of_beq_eq_true hc.2.1, Nat.eq_of_beq_eq_true hc.2.2⟩
theorem isA_2 {k f : Nat} (e : ft k f = 2) : isA k f = true := by simp [isA, e]
theorem isA_4 {k f : Nat} (e : ft k f = 4) : isA k f = true := by simp [isA, e]
theorem isA_5 {k f : Nat} (e : ft k f = 5) : isA k f = true := by simp [isA, e]
theorem isA_6 {k f : Nat} (e : ft k f = 6) : isA k f = true := by simp [isA, e]
theorem l_aI (W : Wf ad h V σ) {a k i f t n : Nat} {x : Int32} {K : Int32 → Prop} {T : Prop} (e : a = ad k i (f + 1)) (l : i < V k) (hc : ca k f t n 2 = true) (hw : wI n x T) (kk : T → K (sP σ k i f x.toNatClampNeg)) : aI h a t x K := by
  obtain ⟨h1, h2, h3⟩ := ca_1 hc
  subst e h2 h3
  have e := W.2.2.2.1 k i f l (isA_2 h1)
  simp only [ac, if_pos h1] at e
  exact ⟨_, _, e, hw.1, kk hw.2⟩
theorem l_aR (W : Wf ad h V σ) {a k i f t n r : Nat} {x : Int32} {K : Option Nat → Prop} {T : Prop} (e : a = ad k i (f + 1)) (l : i < V k) (hc : ca k f t n 4 = true) (ht : Nat.beq (rk k f) r = true) (hw : wI n x T) (kk : T → K ((sQ σ k i f x.toNatClampNeg).map (fun j => ad r j 0))) : aR h a t x K := by
  obtain ⟨h1, h2, h3⟩ := ca_1 hc
  have h4 := Nat.eq_of_beq_eq_true ht
  subst e h2 h3 h4
  have h5 : ¬ ft k f = 2 := by omega
  have e := W.2.2.2.1 k i f l (isA_4 h1)
  simp only [ac, if_neg h5, if_pos h1] at e
  exact ⟨_, _, e, hw.1, kk hw.2⟩
theorem l_aL (W : Wf ad h V σ) {a k i f : Nat} {x : Int32} {K : Int64 → Prop} {T : Prop} (e : a = ad k i (f + 1)) (l : i < V k) (hc : Nat.beq (ft k f) 5 = true) (hw : wI 1 x T) (kk : T → K (sL_ σ k i f x.toNatClampNeg)) : aL h a x K := by
  have h1 := Nat.eq_of_beq_eq_true hc
  subst e
  have h5 : ¬ ft k f = 2 := by omega
  have h6 : ¬ ft k f = 4 := by omega
  have e := W.2.2.2.1 k i f l (isA_5 h1)
  simp only [ac, if_neg h5, if_neg h6, if_pos h1] at e
  exact ⟨_, _, e, hw.1, kk hw.2⟩
theorem l_aD (W : Wf ad h V σ) {a k i f : Nat} {x : Int32} {K : UInt64 → Prop} {T : Prop} (e : a = ad k i (f + 1)) (l : i < V k) (hc : Nat.beq (ft k f) 6 = true) (hw : wI 1 x T) (kk : T → K (sD_ σ x.toNatClampNeg)) : aD h a x K := by
  have h1 := Nat.eq_of_beq_eq_true hc
  subst e
  have h5 : ¬ ft k f = 2 := by omega
  have h6 : ¬ ft k f = 4 := by omega
  have h7 : ¬ ft k f = 5 := by omega
  have e := W.2.2.2.1 k i f l (isA_6 h1)
  simp only [ac, if_neg h5, if_neg h6, if_neg h7] at e
  exact ⟨_, _, e, hw.1, kk hw.2⟩
theorem l_aN (W : Wf ad h V σ) {a k i f n c : Nat} {x : Int32} {K : Int32 → Prop} (e : a = ad k i (f + 1)) (l : i < V k) (hc : ca k f (at_ k f) n c = true) (h2c : Nat.beq c 2 = true ∨ Nat.beq c 4 = true) (ht : Nat.blt (at_ k f) 10 = true) (hx : Int32.ofNat n = x) (hw : K x) : aN h a K := by
  obtain ⟨h1, h2, h3⟩ := ca_1 hc
  subst e hx h3
  have h10 : at_ k f < 10 := by simpa [Nat.blt_eq] using ht
  rcases h2c with h4 | h4
  · have h5 := Nat.eq_of_beq_eq_true h4
    subst h5
    have e := W.2.2.2.1 k i f l (isA_2 h1)
    simp only [ac, if_pos h1] at e
    exact ⟨_, _, e, h10, hw⟩
  · have h5 := Nat.eq_of_beq_eq_true h4
    subst h5
    have h6 : ¬ ft k f = 2 := by omega
    have e := W.2.2.2.1 k i f l (isA_4 h1)
    simp only [ac, if_neg h6, if_pos h1] at e
    exact ⟨_, _, e, h10, hw⟩
theorem l_nn {o : Option Nat} {f : Nat → Nat} {K K' : Nat → Prop} (hw : nn o K') (kk : ∀ r, o = some r → K' r → K (f r)) : nn (o.map f) K := by
  obtain ⟨r, hr, hw⟩ := hw
  subst hr
  exact ⟨_, rfl, kk r rfl hw⟩
theorem l_brn {o : Option Nat} {f : Nat → Nat} {A A' : Prop} {B B' : Nat → Prop} (hw : brn o A' B') (h1 : o = none → A' → A) (h2 : ∀ r, o = some r → B' r → B (f r)) : brn (o.map f) A B := by
  obtain ⟨ha, hb⟩ := hw
  cases o with
  | none => exact ⟨fun _ => h1 rfl (ha rfl), fun a ha => by cases ha⟩
  | some r => exact ⟨fun h9 => (by cases h9), fun a h9 => by cases h9; exact h2 r rfl (hb r rfl)⟩
theorem l_br {c : Prop} {A A' B B' : Prop} (hw : br c A' B') (h1 : c → A' → A) (h2 : ¬ c → B' → B) : br c A B := ⟨fun hc => h1 hc (hw.1 hc), fun hc => h2 hc (hw.2 hc)⟩
theorem l_brc {c c' : Prop} {A A' B B' : Prop} (hcc : c ↔ c') (hw : br c' A' B') (h1 : c' → A' → A) (h2 : ¬ c' → B' → B) : br c A B := ⟨fun hc => h1 (hcc.mp hc) (hw.1 (hcc.mp hc)), fun hc => h2 (fun h9 => hc (hcc.mpr h9)) (hw.2 (fun h9 => hc (hcc.mpr h9)))⟩
theorem l_jn {α β : Sort _} {rest : α} {rest' : β} {T : α → Prop} {T' : β → Prop} (P : α → β → Prop) (hw : jn rest' T') (h1 : P rest rest') (h2 : ∀ j j', P j j' → T' j' → T j) : jn rest T := h2 _ _ h1 hw
theorem l_ok {c T T' : Prop} (hw : ok c T') (kk : c → T' → T) : ok c T := ⟨hw.1, kk hw.1 hw.2⟩
theorem l_dz {α : Type} [OfNat α 0] {y : α} {T T' : Prop} (hw : dz y T') (kk : T' → T) : dz y T := ⟨hw.1, kk hw.2⟩
theorem l_aO {i : Int32} {K K' : Int32 → Prop} (hw : aO i K') (kk : ∀ v, K' v → K v) : aO i K := ⟨hw.1, kk _ hw.2⟩
theorem l_aS {Ln : Nat} {xs9 : Nat → Int32} {i : Int32} {K K' : Int32 → Prop} (hw : aS Ln xs9 i K') (kk : ∀ v, K' v → K v) : aS Ln xs9 i K := ⟨hw.1, kk _ hw.2⟩
theorem l_fx1 {α β : Type} {F : (α → Prop) → α → Prop} {F' : (β → Prop) → β → Prop} (R : (α → Prop) → (β → Prop) → Prop) (h0 : R (fun _ => False) (fun _ => False)) (hs : ∀ s s', R s s' → R (F s) (F' s')) : ∀ N, R (fx1 F N) (fx1 F' N)
  | 0 => h0
  | N + 1 => hs _ _ (l_fx1 R h0 hs N)
theorem l_fx2 {α1 α2 β1 β2 : Type} {F : (α1 → α2 → Prop) → α1 → α2 → Prop} {F' : (β1 → β2 → Prop) → β1 → β2 → Prop} (R : (α1 → α2 → Prop) → (β1 → β2 → Prop) → Prop) (h0 : R (fun _ _ => False) (fun _ _ => False)) (hs : ∀ s s', R s s' → R (F s) (F' s')) : ∀ N, R (fx2 F N) (fx2 F' N)
  | 0 => h0
  | N + 1 => hs _ _ (l_fx2 R h0 hs N)
theorem l_fx3 {α1 α2 α3 β1 β2 β3 : Type} {F : (α1 → α2 → α3 → Prop) → α1 → α2 → α3 → Prop} {F' : (β1 → β2 → β3 → Prop) → β1 → β2 → β3 → Prop} (R : (α1 → α2 → α3 → Prop) → (β1 → β2 → β3 → Prop) → Prop) (h0 : R (fun _ _ _ => False) (fun _ _ _ => False)) (hs : ∀ s s', R s s' → R (F s) (F' s')) : ∀ N, R (fx3 F N) (fx3 F' N)
  | 0 => h0
  | N + 1 => hs _ _ (l_fx3 R h0 hs N)
theorem l_fx4 {α1 α2 α3 α4 β1 β2 β3 β4 : Type} {F : (α1 → α2 → α3 → α4 → Prop) → α1 → α2 → α3 → α4 → Prop} {F' : (β1 → β2 → β3 → β4 → Prop) → β1 → β2 → β3 → β4 → Prop} (R : (α1 → α2 → α3 → α4 → Prop) → (β1 → β2 → β3 → β4 → Prop) → Prop) (h0 : R (fun _ _ _ _ => False) (fun _ _ _ _ => False)) (hs : ∀ s s', R s s' → R (F s) (F' s')) : ∀ N, R (fx4 F N) (fx4 F' N)
  | 0 => h0
  | N + 1 => hs _ _ (l_fx4 R h0 hs N)
/-! updates -/
theorem flds_ext {ad ad' : Nat → Nat → Nat → Nat} {σ σ' : St} {k i k' i' : Nat} (h1 : ∀ f, f < nf k → fv ad σ k i f = fv ad' σ' k' i' f) (hk : k = k') : flds ad σ k i = flds ad' σ' k' i' := by
  subst hk
  unfold flds
  apply List.map_congr_left
  intro f hf
  exact h1 f (List.mem_range.mp hf)
theorem flds_set {σ σ' : St} {k i f : Nat} {v : Tv} (hf : f < nf k) (h1 : fv ad σ' k i f = v) (h2 : ∀ g, g < nf k → g ≠ f → fv ad σ' k i g = fv ad σ k i g) : (flds ad σ k i).set f v = flds ad σ' k i := by
  apply List.ext_getElem?
  intro g
  rw [List.getElem?_set]
  by_cases hg : f = g
  · subst hg
    rw [if_pos rfl, flds_len, if_pos hf, flds_get hf, h1]
  · rw [if_neg hg]
    by_cases hn : g < nf k
    · rw [flds_get hn, flds_get hn, h2 g hn (fun e => hg e.symm)]
    · rw [List.getElem?_eq_none (by rw [flds_len]; omega), List.getElem?_eq_none (by rw [flds_len]; omega)]
theorem wf_pF (W : Wf ad h V σ) {k i f : Nat} {v : Tv} {σ' : St} (l : i < V k) (hk : k < 13) (hf : f < nf k) (hna : isA k f = false) (hV : sV σ' = sV σ) (h1 : fv ad σ' k i f = v) (h2 : ∀ k' i' g, ¬ (k' = k ∧ i' = i ∧ g = f) → fv ad σ' k' i' g = fv ad σ k' i' g)
    (h3 : ∀ k' i' g, isA k' g = true → ac ad σ' k' i' g = ac ad σ k' i' g) (h4 : ∀ k' i' g j r, i' < V k' → sQ σ' k' i' g j = some r → r < V (rk k' g)) :
    pF h (ad k i 0) k f v (fun h' => Wf ad h' V σ' ∧ h' = va_up h (ad k i 0) (some (.inr (k, flds ad σ' k i)))) := by
  refine ⟨_, W.2.2.1 k i hk l, by rw [flds_len]; exact hf, ?_, ?_⟩
  · rw [flds_set hf h1 (fun g _ hg => h2 k i g (fun e => hg e.2.2))]
    refine ⟨W.1, by rw [hV]; exact W.2.1, ?_, ?_, h4⟩
    · intro k' i' hk' l'
      by_cases e : k' = k ∧ i' = i
      · obtain ⟨rfl, rfl⟩ := e
        simp [va_up]
      · have : ad k' i' 0 ≠ ad k i 0 := fun h9 => e ⟨(W.1 _ _ _ _ _ _ h9).1, (W.1 _ _ _ _ _ _ h9).2.1⟩
        simp only [va_up, if_neg this]
        rw [W.2.2.1 k' i' hk' l']
        rw [flds_ext (fun g _ => (h2 k' i' g (fun e9 => e ⟨e9.1, e9.2.1⟩)).symm) rfl]
    · intro k' i' g l' hg
      have : ad k' i' (g + 1) ≠ ad k i 0 := fun h9 => absurd (W.1 _ _ _ _ _ _ h9).2.2 (by omega)
      simp only [va_up, if_neg this]
      rw [W.2.2.2.1 k' i' g l' hg, h3 k' i' g hg]
  · rw [flds_set hf h1 (fun g _ hg => h2 k i g (fun e => hg e.2.2))]
theorem pF_mono {h : Hp} {a k f : Nat} {v : Tv} {K K' : Hp → Prop} (hw : pF h a k f v K') (kk : ∀ h', K' h' → K h') : pF h a k f v K := by
  obtain ⟨fs, h1, h2, h3⟩ := hw
  exact ⟨fs, h1, h2, kk _ h3⟩
theorem isA_0 {k f c : Nat} (e : ft k f = c) (hc : c = 0 ∨ c = 1 ∨ c = 3) : isA k f = false := by
  simp only [isA, e]
  rcases hc with rfl | rfl | rfl <;> rfl
theorem l_pI (W : Wf ad h V σ) {a k i f : Nat} {x : Int32} {K : Hp → Prop} {K' : St → Prop} (e : a = ad k i 0) (l : i < V k) (hc : ck k f 0 = true) (hw : lt_ (stP σ k i f 0 x) K') (kk : ∀ h', Wf ad h' V (stP σ k i f 0 x) → K' (stP σ k i f 0 x) → K h') : pF h a k f (iV x) K := by
  obtain ⟨h1, h2, h3⟩ := ck_1 hc
  subst e
  refine pF_mono (wf_pF (σ' := stP σ k i f 0 x) W l h1 h2 (isA_0 h3 (Or.inl rfl)) rfl ?_ ?_ ?_ W.2.2.2.2) (fun h' W' => kk h' W'.1 hw)
  · simp [fv, h3, sP_stP]
  · intro k' i' g hn
    simp only [fv, sP_stP, sL_stP, sQ_stP, and_true, if_neg hn]
  · intro k' i' g hg
    have : ∀ j, ¬ (k' = k ∧ i' = i ∧ g = f ∧ j = 0) := by
      rintro j ⟨rfl, rfl, rfl, rfl⟩
      rw [isA_0 h3 (Or.inl rfl)] at hg
      cases hg
    have e2 : sP (stP σ k i f 0 x) k' i' g = sP σ k' i' g := by
      funext j
      rw [sP_stP, if_neg (this j)]
    simp only [ac, e2, sL_stP, sQ_stP, sD_stP]
theorem l_pL (W : Wf ad h V σ) {a k i f : Nat} {x : Int64} {K : Hp → Prop} {K' : St → Prop} (e : a = ad k i 0) (l : i < V k) (hc : ck k f 1 = true) (hw : lt_ (stL σ k i f 0 x) K') (kk : ∀ h', Wf ad h' V (stL σ k i f 0 x) → K' (stL σ k i f 0 x) → K h') : pF h a k f (lV x) K := by
  obtain ⟨h1, h2, h3⟩ := ck_1 hc
  subst e
  refine pF_mono (wf_pF (σ' := stL σ k i f 0 x) W l h1 h2 (isA_0 h3 (Or.inr (Or.inl rfl))) rfl ?_ ?_ ?_ W.2.2.2.2) (fun h' W' => kk h' W'.1 hw)
  · simp [fv, h3, sL_stL]
  · intro k' i' g hn
    simp only [fv, sP_stL, sL_stL, sQ_stL, and_true, if_neg hn]
  · intro k' i' g hg
    have : ∀ j, ¬ (k' = k ∧ i' = i ∧ g = f ∧ j = 0) := by
      rintro j ⟨rfl, rfl, rfl, rfl⟩
      rw [isA_0 h3 (Or.inr (Or.inl rfl))] at hg
      cases hg
    have e2 : sL_ (stL σ k i f 0 x) k' i' g = sL_ σ k' i' g := by
      funext j
      rw [sL_stL, if_neg (this j)]
    simp only [ac, e2, sP_stL, sQ_stL, sD_stL]
theorem l_pR (W : Wf ad h V σ) {a k i f t : Nat} {o : Option Nat} {u : Option Nat} {K : Hp → Prop} {K' : St → Prop} (e : a = ad k i 0) (l : i < V k) (hc : ck k f 3 = true) (ht : Nat.beq (rk k f) t = true) (hw : lt_ (stQ σ k i f 0 o) K') (hu : u = o.map (fun j => ad t j 0)) (ho : ∀ r, o = some r → r < V t) (kk : ∀ h', Wf ad h' V (stQ σ k i f 0 o) → K' (stQ σ k i f 0 o) → K h') : pF h a k f (rV u) K := by
  obtain ⟨h1, h2, h3⟩ := ck_1 hc
  have h4 := Nat.eq_of_beq_eq_true ht
  subst e hu h4
  refine pF_mono (wf_pF (σ' := stQ σ k i f 0 o) W l h1 h2 (isA_0 h3 (Or.inr (Or.inr rfl))) rfl ?_ ?_ ?_ ?_) (fun h' W' => kk h' W'.1 hw)
  · simp [fv, h3, sQ_stQ]
  · intro k' i' g hn
    simp only [fv, sP_stQ, sL_stQ, sQ_stQ, and_true, if_neg hn]
  · intro k' i' g hg
    have : ∀ j, ¬ (k' = k ∧ i' = i ∧ g = f ∧ j = 0) := by
      rintro j ⟨rfl, rfl, rfl, rfl⟩
      rw [isA_0 h3 (Or.inr (Or.inr rfl))] at hg
      cases hg
    have e2 : sQ (stQ σ k i f 0 o) k' i' g = sQ σ k' i' g := by
      funext j
      rw [sQ_stQ, if_neg (this j)]
    simp only [ac, e2, sP_stQ, sL_stQ, sD_stQ]
  · intro k' i' g j r l' hr
    rw [sQ_stQ] at hr
    split at hr
    · rename_i e9
      obtain ⟨rfl, rfl, rfl, rfl⟩ := e9
      exact ho r hr
    · exact W.2.2.2.2 k' i' g j r l' hr
theorem wf_sA (W : Wf ad h V σ) {k i f : Nat} {σ' : St} (hA : isA k f = true) (hV : sV σ' = sV σ) (h2 : ∀ k' i' g, k' < 13 → g < nf k' → fv ad σ' k' i' g = fv ad σ k' i' g)
    (h3 : ∀ k' i' g, ¬ (k' = k ∧ i' = i ∧ g = f) → isA k' g = true → ac ad σ' k' i' g = ac ad σ k' i' g) (h4 : ∀ k' i' g j r, i' < V k' → sQ σ' k' i' g j = some r → r < V (rk k' g)) :
    Wf ad (va_up h (ad k i (f + 1)) (some (.inl (ac ad σ' k i f)))) V σ' := by
  refine ⟨W.1, by rw [hV]; exact W.2.1, ?_, ?_, h4⟩
  · intro k' i' hk' l'
    have : ad k' i' 0 ≠ ad k i (f + 1) := fun h9 => absurd (W.1 _ _ _ _ _ _ h9).2.2 (by omega)
    simp only [va_up, if_neg this]
    rw [W.2.2.1 k' i' hk' l', flds_ext (fun g hg => (h2 k' i' g hk' hg).symm) rfl]
  · intro k' i' g l' hg
    by_cases e : k' = k ∧ i' = i ∧ g = f
    · obtain ⟨rfl, rfl, rfl⟩ := e
      simp [va_up]
    · have : ad k' i' (g + 1) ≠ ad k i (f + 1) := fun h9 => e ⟨(W.1 _ _ _ _ _ _ h9).1, (W.1 _ _ _ _ _ _ h9).2.1, by have := (W.1 _ _ _ _ _ _ h9).2.2; omega⟩
      simp only [va_up, if_neg this]
      rw [W.2.2.2.1 k' i' g l' hg, h3 k' i' g e hg]
theorem l_sI (W : Wf ad h V σ) {a k i f t n : Nat} {x y : Int32} {K : Hp → Prop} {K' : St → Prop} (e : a = ad k i (f + 1)) (l : i < V k) (hc : ca k f t n 2 = true) (hw : wA n x (stP σ k i f x.toNatClampNeg y) K') (kk : ∀ h', Wf ad h' V (stP σ k i f x.toNatClampNeg y) → K' (stP σ k i f x.toNatClampNeg y) → K h') : sI h a t x y K := by
  obtain ⟨h1, h2, h3⟩ := ca_1 hc
  subst e h2 h3
  have e := W.2.2.2.1 k i f l (isA_2 h1)
  simp only [ac, if_pos h1] at e
  refine ⟨_, _, e, hw.1, kk _ ?_ hw.2⟩
  have W2 := wf_sA (σ' := stP σ k i f x.toNatClampNeg y) W (k := k) (i := i) (f := f) (isA_2 h1) rfl ?_ ?_ W.2.2.2.2
  · have e3 : ac ad (stP σ k i f x.toNatClampNeg y) k i f = (at_ k f, an_ k f, .inl (upd (sP σ k i f) x.toNatClampNeg y)) := by
      simp only [ac, if_pos h1]
      congr 3
      funext j
      simp [sP_stP, upd]
    rw [e3] at W2
    exact W2
  · intro k' i' g hk' hg
    by_cases e9 : k' = k ∧ g = f
    · obtain ⟨rfl, rfl⟩ := e9
      simp [fv, h1]
    · have hn2 : ¬ (k' = k ∧ i' = i ∧ g = f ∧ 0 = x.toNatClampNeg) := fun e => e9 ⟨e.1, e.2.2.1⟩
      simp only [fv, sP_stP, sL_stP, sQ_stP, if_neg hn2]
  · intro k' i' g hn hg
    have e2 : sP (stP σ k i f x.toNatClampNeg y) k' i' g = sP σ k' i' g := by
      funext j
      rw [sP_stP, if_neg (fun e => hn ⟨e.1, e.2.1, e.2.2.1⟩)]
    simp only [ac, e2, sL_stP, sQ_stP, sD_stP]
theorem l_sL (W : Wf ad h V σ) {a k i f : Nat} {x : Int32} {y : Int64} {K : Hp → Prop} {K' : St → Prop} (e : a = ad k i (f + 1)) (l : i < V k) (hc : Nat.beq (ft k f) 5 = true) (hw : wA 1 x (stL σ k i f x.toNatClampNeg y) K') (kk : ∀ h', Wf ad h' V (stL σ k i f x.toNatClampNeg y) → K' (stL σ k i f x.toNatClampNeg y) → K h') : sL h a x y K := by
  have h1 := Nat.eq_of_beq_eq_true hc
  have h5 : ¬ ft k f = 2 := by omega
  have h6 : ¬ ft k f = 4 := by omega
  subst e
  have e := W.2.2.2.1 k i f l (isA_5 h1)
  simp only [ac, if_neg h5, if_neg h6, if_pos h1] at e
  refine ⟨_, _, e, hw.1, kk _ ?_ hw.2⟩
  have W2 := wf_sA (σ' := stL σ k i f x.toNatClampNeg y) W (k := k) (i := i) (f := f) (isA_5 h1) rfl ?_ ?_ W.2.2.2.2
  · have e3 : ac ad (stL σ k i f x.toNatClampNeg y) k i f = (3, 1, .inr (.inl (vp_updL (sL_ σ k i f) x.toNatClampNeg y))) := by
      simp only [ac, if_neg h5, if_neg h6, if_pos h1]
      congr 4
      funext j
      simp [sL_stL, vp_updL]
    rw [e3] at W2
    exact W2
  · intro k' i' g hk' hg
    by_cases e9 : k' = k ∧ g = f
    · obtain ⟨rfl, rfl⟩ := e9
      simp [fv, h1]
    · have hn2 : ¬ (k' = k ∧ i' = i ∧ g = f ∧ 0 = x.toNatClampNeg) := fun e => e9 ⟨e.1, e.2.2.1⟩
      simp only [fv, sP_stL, sL_stL, sQ_stL, if_neg hn2]
  · intro k' i' g hn hg
    have e2 : sL_ (stL σ k i f x.toNatClampNeg y) k' i' g = sL_ σ k' i' g := by
      funext j
      rw [sL_stL, if_neg (fun e => hn ⟨e.1, e.2.1, e.2.2.1⟩)]
    simp only [ac, e2, sP_stL, sQ_stL, sD_stL]
theorem l_sD (W : Wf ad h V σ) {a k i f : Nat} {x : Int32} {y : UInt64} {K : Hp → Prop} {K' : St → Prop} (e : a = ad k i (f + 1)) (l : i < V k) (hc : Nat.beq (ft k f) 6 = true) (hu : ∀ k' i' f', isA k' f' = true → i' < V k' → ¬ (ft k' f' = 2 ∨ ft k' f' = 4 ∨ ft k' f' = 5) → k' = k ∧ i' = i ∧ f' = f) (hw : wA 1 x (stD σ x.toNatClampNeg y) K') (kk : ∀ h', Wf ad h' V (stD σ x.toNatClampNeg y) → K' (stD σ x.toNatClampNeg y) → K h') : sD h a x y K := by
  have h1 := Nat.eq_of_beq_eq_true hc
  have h5 : ¬ ft k f = 2 := by omega
  have h6 : ¬ ft k f = 4 := by omega
  have h7 : ¬ ft k f = 5 := by omega
  subst e
  have e := W.2.2.2.1 k i f l (isA_6 h1)
  simp only [ac, if_neg h5, if_neg h6, if_neg h7] at e
  refine ⟨_, _, e, hw.1, kk _ ?_ hw.2⟩
  have e3 : ac ad (stD σ x.toNatClampNeg y) k i f = (4, 1, .inr (.inr (.inr (.inl (vf_upd (sD_ σ) x.toNatClampNeg y))))) := by
    simp only [ac, if_neg h5, if_neg h6, if_neg h7]
    congr 6
  refine ⟨W.1, W.2.1, ?_, ?_, W.2.2.2.2⟩
  · intro k' i' hk' l'
    have : ad k' i' 0 ≠ ad k i (f + 1) := fun h9 => absurd (W.1 _ _ _ _ _ _ h9).2.2 (by omega)
    simp only [va_up, if_neg this]
    rw [W.2.2.1 k' i' hk' l']
    rfl
  · intro k' i' g l' hg
    by_cases e : k' = k ∧ i' = i ∧ g = f
    · obtain ⟨rfl, rfl, rfl⟩ := e
      rw [e3]
      simp [va_up]
    · have : ad k' i' (g + 1) ≠ ad k i (f + 1) := fun h9 => e ⟨(W.1 _ _ _ _ _ _ h9).1, (W.1 _ _ _ _ _ _ h9).2.1, by have := (W.1 _ _ _ _ _ _ h9).2.2; omega⟩
      simp only [va_up, if_neg this]
      rw [W.2.2.2.1 k' i' g l' hg]
      by_cases h9 : ft k' g = 2 ∨ ft k' g = 4 ∨ ft k' g = 5
      · rcases h9 with h9 | h9 | h9
        · simp only [ac, if_pos h9]; rfl
        · have : ¬ ft k' g = 2 := by omega
          simp only [ac, if_neg this, if_pos h9]; rfl
        · have h91 : ¬ ft k' g = 2 := by omega
          have h92 : ¬ ft k' g = 4 := by omega
          simp only [ac, if_neg h91, if_neg h92, if_pos h9]; rfl
      · exact absurd (hu k' i' g hg l' h9) e
theorem l_sR (W : Wf ad h V σ) {a k i f t n r b q c : Nat} {x : Int32} {K : Hp → Prop} {K' : St → Prop} (e : a = ad k i (f + 1)) (l : i < V k) (hc : ca k f t n 4 = true) (ht : Nat.beq (rk k f) r = true) (eb : b = ad r q 0) (lq : q < V r) (hr : Nat.blt r 13 = true) (hcr : Nat.beq r c = true) (hw : wA n x (stQ σ k i f x.toNatClampNeg (some q)) K') (kk : ∀ h', Wf ad h' V (stQ σ k i f x.toNatClampNeg (some q)) → K' (stQ σ k i f x.toNatClampNeg (some q)) → K h') : sR h a t x b c K := by
  obtain ⟨h1, h2, h3⟩ := ca_1 hc
  have h4 := Nat.eq_of_beq_eq_true ht
  have h7 := Nat.eq_of_beq_eq_true hcr
  subst e h2 h3 eb h7 h4
  have h5 : ¬ ft k f = 2 := by omega
  have e := W.2.2.2.1 k i f l (isA_4 h1)
  simp only [ac, if_neg h5, if_pos h1] at e
  refine ⟨_, _, e, hw.1, ⟨_, W.2.2.1 _ q (by simpa [Nat.blt_eq] using hr) lq⟩, kk _ ?_ hw.2⟩
  have W2 := wf_sA (σ' := stQ σ k i f x.toNatClampNeg (some q)) W (k := k) (i := i) (f := f) (isA_4 h1) rfl ?_ ?_ ?_
  · have e3 : ac ad (stQ σ k i f x.toNatClampNeg (some q)) k i f = (at_ k f, an_ k f, .inr (.inr (.inr (.inr (va_up (fun j => (sQ σ k i f j).map (fun q => ad (rk k f) q 0)) x.toNatClampNeg (some (ad (rk k f) q 0))))))) := by
      simp only [ac, if_neg h5, if_pos h1]
      congr 6
      funext j
      simp only [sQ_stQ, va_up, true_and]
      split <;> rfl
    rw [e3] at W2
    exact W2
  · intro k' i' g hk' hg
    by_cases e9 : k' = k ∧ g = f
    · obtain ⟨rfl, rfl⟩ := e9
      simp [fv, h1]
    · have hn2 : ¬ (k' = k ∧ i' = i ∧ g = f ∧ 0 = x.toNatClampNeg) := fun e => e9 ⟨e.1, e.2.2.1⟩
      simp only [fv, sP_stQ, sL_stQ, sQ_stQ, if_neg hn2]
  · intro k' i' g hn hg
    have e2 : sQ (stQ σ k i f x.toNatClampNeg (some q)) k' i' g = sQ σ k' i' g := by
      funext j
      rw [sQ_stQ, if_neg (fun e => hn ⟨e.1, e.2.1, e.2.2.1⟩)]
    simp only [ac, e2, sP_stQ, sL_stQ, sD_stQ]
  · intro k' i' g j r9 l' hr9
    rw [sQ_stQ] at hr9
    split at hr9
    · rename_i e9
      obtain ⟨rfl, rfl, rfl, rfl⟩ := e9
      cases hr9
      exact lq
    · exact W.2.2.2.2 k' i' g j r9 l' hr9
end SIM
