/-! LEVEL 2b: the mathematical state and what class and reference hold of it. m f j: register f of the reference at j (small ones), u: cells, w: misses, L: the cache's keys. -/
section INV
theorem li_0 : (0 : Int32) = nI 0 := rfl
theorem li_1 : (1 : Int32) = nI 1 := rfl
theorem li_2 : (2 : Int32) = nI 2 := rfl
theorem li_3 : (3 : Int32) = nI 3 := rfl
theorem li_4 : (4 : Int32) = nI 4 := rfl
theorem li_5 : (5 : Int32) = nI 5 := rfl
theorem li_6 : (6 : Int32) = nI 6 := rfl
theorem li_7 : (7 : Int32) = nI 7 := rfl
theorem li_8 : (8 : Int32) = nI 8 := rfl
theorem li_9 : (9 : Int32) = nI 9 := rfl
theorem li_10 : (10 : Int32) = nI 10 := rfl
theorem li_12 : (12 : Int32) = nI 12 := rfl
theorem li_13 : (13 : Int32) = nI 13 := rfl
theorem li_40 : (40 : Int32) = nI 40 := rfl
theorem li_60 : (60 : Int32) = nI 60 := rfl
theorem li_61 : (61 : Int32) = nI 61 := rfl
theorem li_62 : (62 : Int32) = nI 62 := rfl
theorem li_99 : (99 : Int32) = nI 99 := rfl
theorem li_100 : (100 : Int32) = nI 100 := rfl
theorem li_102 : (102 : Int32) = nI 102 := rfl
theorem li_103 : (103 : Int32) = nI 103 := rfl
theorem li_106 : (106 : Int32) = nI 106 := rfl
theorem li_108 : (108 : Int32) = nI 108 := rfl
theorem li_112 : (112 : Int32) = nI 112 := rfl
theorem li_114 : (114 : Int32) = nI 114 := rfl
theorem li_117 : (117 : Int32) = nI 117 := rfl
theorem li_120 : (120 : Int32) = nI 120 := rfl
theorem li_300 : (300 : Int32) = nI 300 := rfl
theorem li_512 : (512 : Int32) = nI 512 := rfl
theorem li_1000 : (1000 : Int32) = nI 1000 := rfl
theorem li_26 : (26 : Int32) = nI 26 := rfl
theorem li_360 : (360 : Int32) = nI 360 := rfl
def mI : Int32 := -1
theorem li_m1 : (-1 : Int32) = mI := rfl
theorem u_m1 {a : Nat} (ha : a < 2 ^ 31) : (nI a = mI) = False := u_n_m1 ha
theorem u_m1q {a : Nat} (ha : a < 2 ^ 31) : (mI = nI a) = False := by
  rw [← u_n_m1 ha]
  exact propext ⟨Eq.symm, Eq.symm⟩
theorem st_st {σ : St} {k i f j : Nat} {v v' : Int32} : stP (stP σ k i f j v) k i f j v' = stP σ k i f j v' := by
  unfold stP
  congr 1
  funext k' i' f' j'
  simp only [sP]
  split <;> rfl
def mu (m : Nat → Nat → Nat) (f j x : Nat) : Nat → Nat → Nat := fun f' j' => if f' = f ∧ j' = j then x else m f' j'
def pf (f : Nat) : Bool := [1, 2, 3, 4, 6, 7, 8, 9, 10, 11, 12, 13, 14, 15, 16, 19, 24, 25, 26, 27, 28, 29, 30, 31, 32, 33, 34, 35, 36, 46, 51, 52, 54, 55].contains f
def RI (m : Nat → Nat → Nat) (u w : Nat → Int32) (L : List Nat) (σ : St) : Prop :=
  (∀ f j, pf f = true → sP σ 12 0 f j = nI (m f j)) ∧ (∀ j, sP σ 12 0 5 j = u j) ∧ (∀ j, sP σ 12 0 53 j = w j) ∧ sP σ 12 0 21 0 = nI L.length ∧ ∀ j (h : j < L.length), sP σ 12 0 20 j = nI L[j]
variable {m : Nat → Nat → Nat} {u w : Nat → Int32} {L : List Nat} {σ σ' : St} {N : Nat}
theorem RI.r (R : RI m u w L σ) (f j : Nat) (h : pf f = true) : sP σ 12 0 f j = nI (m f j) := R.1 f j h
def tmp_ (f : Nat) : Bool := [0, 17, 18, 22, 23, 37, 38, 39, 40, 41, 42, 43, 44, 45, 47, 48, 49, 50].contains f
theorem RI.tmp (R : RI m u w L σ) {f j : Nat} {v : Int32} (h : tmp_ f = true) : RI m u w L (stP σ 12 0 f j v) := by
  have h1 : ∀ f, tmp_ f = true → f ≠ 5 ∧ f ≠ 53 ∧ f ≠ 21 ∧ f ≠ 20 ∧ pf f = false := by
    intro f hf
    simp only [tmp_, List.contains_eq_mem, List.mem_cons, List.not_mem_nil, or_false, decide_eq_true_eq] at hf
    rcases hf with rfl | rfl | rfl | rfl | rfl | rfl | rfl | rfl | rfl | rfl | rfl | rfl | rfl | rfl | rfl | rfl | rfl | rfl <;> decide
  obtain ⟨a1, a2, a3, a4, a5⟩ := h1 f h
  obtain ⟨r1, r2, r3, r4, r5⟩ := R
  refine ⟨?_, ?_, ?_, ?_, ?_⟩
  · intro f' j' hf
    rw [sP_stP, if_neg (fun e => by rw [e.2.2.1, a5] at hf; cases hf)]
    exact r1 f' j' hf
  · intro j'
    rw [sP_stP, if_neg (fun e => a1 e.2.2.1.symm)]
    exact r2 j'
  · intro j'
    rw [sP_stP, if_neg (fun e => a2 e.2.2.1.symm)]
    exact r3 j'
  · rw [sP_stP, if_neg (fun e => a3 e.2.2.1.symm)]
    exact r4
  · intro j' hj
    rw [sP_stP, if_neg (fun e => a4 e.2.2.1.symm)]
    exact r5 j' hj
theorem RI.set (R : RI m u w L σ) {f j x : Nat} (h : pf f = true) : RI (mu m f j x) u w L (stP σ 12 0 f j (nI x)) := by
  have h1 : f ≠ 5 ∧ f ≠ 53 ∧ f ≠ 21 ∧ f ≠ 20 := by
    refine ⟨?_, ?_, ?_, ?_⟩ <;> (intro e; subst e; revert h; decide)
  obtain ⟨a1, a2, a3, a4⟩ := h1
  obtain ⟨r1, r2, r3, r4, r5⟩ := R
  refine ⟨?_, ?_, ?_, ?_, ?_⟩
  · intro f' j' hf
    rw [sP_stP]
    by_cases e : f' = f ∧ j' = j
    · rw [if_pos ⟨rfl, rfl, e⟩, mu, if_pos e]
    · rw [if_neg (fun e9 => e e9.2.2), mu, if_neg e]
      exact r1 f' j' hf
  · intro j'
    rw [sP_stP, if_neg (fun e => a1 e.2.2.1.symm)]
    exact r2 j'
  · intro j'
    rw [sP_stP, if_neg (fun e => a2 e.2.2.1.symm)]
    exact r3 j'
  · rw [sP_stP, if_neg (fun e => a3 e.2.2.1.symm)]
    exact r4
  · intro j' hj
    rw [sP_stP, if_neg (fun e => a4 e.2.2.1.symm)]
    exact r5 j' hj
theorem RI.cell (R : RI m u w L σ) {j : Nat} {x : Int32} : RI m (upd u j x) w L (stP σ 12 0 5 j x) := by
  obtain ⟨r1, r2, r3, r4, r5⟩ := R
  refine ⟨?_, ?_, ?_, ?_, ?_⟩
  · intro f' j' hf
    rw [sP_stP, if_neg (fun e => by rw [e.2.2.1] at hf; revert hf; decide)]
    exact r1 f' j' hf
  · intro j'
    rw [sP_stP, upd]
    by_cases e : j' = j
    · rw [if_pos ⟨rfl, rfl, rfl, e⟩, if_pos e]
    · rw [if_neg (fun e9 => e e9.2.2.2), if_neg e]
      exact r2 j'
  · intro j'
    rw [sP_stP, if_neg (fun e => absurd e.2.2.1 (by decide))]
    exact r3 j'
  · rw [sP_stP, if_neg (fun e => absurd e.2.2.1 (by decide))]
    exact r4
  · intro j' hj
    rw [sP_stP, if_neg (fun e => absurd e.2.2.1 (by decide))]
    exact r5 j' hj
theorem RI.miss (R : RI m u w L σ) {j : Nat} {x : Int32} : RI m u (upd w j x) L (stP σ 12 0 53 j x) := by
  obtain ⟨r1, r2, r3, r4, r5⟩ := R
  refine ⟨?_, ?_, ?_, ?_, ?_⟩
  · intro f' j' hf
    rw [sP_stP, if_neg (fun e => by rw [e.2.2.1] at hf; revert hf; decide)]
    exact r1 f' j' hf
  · intro j'
    rw [sP_stP, if_neg (fun e => absurd e.2.2.1 (by decide))]
    exact r2 j'
  · intro j'
    rw [sP_stP, upd]
    by_cases e : j' = j
    · rw [if_pos ⟨rfl, rfl, rfl, e⟩, if_pos e]
    · rw [if_neg (fun e9 => e e9.2.2.2), if_neg e]
      exact r3 j'
  · rw [sP_stP, if_neg (fun e => absurd e.2.2.1 (by decide))]
    exact r4
  · intro j' hj
    rw [sP_stP, if_neg (fun e => absurd e.2.2.1 (by decide))]
    exact r5 j' hj
/-- what the reference's steps leave: all registers of the class -/
def KC (σ σ' : St) : Prop := (∀ k i f j, k ≠ 12 → sP σ' k i f j = sP σ k i f j) ∧ sL_ σ' = sL_ σ ∧ sQ σ' = sQ σ ∧ sD_ σ' = sD_ σ ∧ sV σ' = sV σ
theorem KC.refl : KC σ σ := ⟨fun _ _ _ _ _ => rfl, rfl, rfl, rfl, rfl⟩
theorem KC.trans {σ1 σ2 σ3 : St} (a : KC σ1 σ2) (b : KC σ2 σ3) : KC σ1 σ3 :=
  ⟨fun k i f j h => (b.1 k i f j h).trans (a.1 k i f j h), b.2.1.trans a.2.1, b.2.2.1.trans a.2.2.1, b.2.2.2.1.trans a.2.2.2.1, b.2.2.2.2.trans a.2.2.2.2⟩
theorem KC.st {i f j : Nat} {v : Int32} : KC σ (stP σ 12 i f j v) := ⟨fun k' i' f' j' h => by rw [sP_stP, if_neg (fun e => h e.1)], rfl, rfl, rfl, rfl⟩
/-- what the class's steps leave: all registers of the reference, and no new object -/
def KM (σ σ' : St) : Prop := ∀ i f j, sP σ' 12 i f j = sP σ 12 i f j
theorem KM.refl : KM σ σ := fun _ _ _ => rfl
theorem KM.trans {σ1 σ2 σ3 : St} (a : KM σ1 σ2) (b : KM σ2 σ3) : KM σ1 σ3 := fun i f j => (b i f j).trans (a i f j)
theorem KM.st {k i f j : Nat} {v : Int32} (h : k ≠ 12) : KM σ (stP σ k i f j v) := fun i' f' j' => by rw [sP_stP, if_neg (fun e => h e.1.symm)]
theorem KM.stQ {k i f j : Nat} {v : Option Nat} : KM σ (stQ σ k i f j v) := fun _ _ _ => rfl
theorem KM.stL {k i f j : Nat} {v : Int64} : KM σ (stL σ k i f j v) := fun _ _ _ => rfl
theorem KM.stD {j : Nat} {v : UInt64} : KM σ (stD σ j v) := fun _ _ _ => rfl
theorem RI.km (R : RI m u w L σ) (h : KM σ σ') : RI m u w L σ' := by
  obtain ⟨r1, r2, r3, r4, r5⟩ := R
  exact ⟨fun f j hf => by rw [h]; exact r1 f j hf, fun j => by rw [h]; exact r2 j, fun j => by rw [h]; exact r3 j, by rw [h]; exact r4, fun j hj => by rw [h]; exact r5 j hj⟩
/-! the mathematics of the store -/
def th (m : Nat → Nat → Nat) (t r : Nat) : Bool := !(m 4 (40 * t + r) == 0)
def vl (u : Nat → Int32) (t r c : Nat) : Int32 := u (3 * (40 * t + r) + c)
def liv (m : Nat → Nat → Nat) (t : Nat) : Nat := ((List.range 40).filter (th m t)).length
def ent (m : Nat → Nat → Nat) (u : Nat → Int32) (t c : Nat) : List Nat := (List.range 100).flatMap (fun v => (List.range 40).filter (fun r => th m t r && decide (vl u t r c = nI v)))
/-! the class's side -/
def C0 (σ : St) : Prop := sQ σ 11 0 0 0 = some 0 ∧ sQ σ 11 0 3 0 = some 0 ∧ sQ σ 11 0 4 0 = some 1 ∧ sQ σ 11 0 5 0 = some 0 ∧ sQ σ 11 0 6 0 = some 0 ∧ sQ σ 11 0 7 0 = some 2 ∧ sQ σ 11 0 8 0 = some 3 ∧ sQ σ 11 0 9 0 = some 4 ∧ sQ σ 11 0 11 0 = some 0 ∧ sQ σ 6 0 0 0 = some 0 ∧ sQ σ 8 0 0 0 = some 1
def CT1 (m : Nat → Nat → Nat) (u : Nat → Int32) (σ : St) (t : Nat) : Prop :=
  sP σ 10 t 0 0 = nI t ∧ sP σ 10 t 1 0 = nI (m 2 t) ∧ sP σ 10 t 2 0 = nI (m 3 t) ∧ sP σ 10 t 3 0 = nI (liv m t) ∧ (∀ r, r < 40 → sP σ 10 t 4 r = nI (m 4 (40 * t + r))) ∧
  (∀ r c, r < m 3 t → c < 3 → sP σ 10 t 5 (r * 3 + c) = u (3 * (40 * t + r) + c)) ∧ (∀ c, c < 3 → sP σ 10 t 6 c = nI (m 6 (3 * t + c))) ∧ (∀ c, c < 3 → sP σ 10 t 7 c = nI (m 7 (3 * t + c))) ∧
  sP σ 10 t 8 0 = nI (m 8 t) ∧ sP σ 10 t 9 0 = nI (m 9 t) ∧ (∀ c, c < 3 → sP σ 10 t 10 c = nI (m 10 (3 * t + c))) ∧ (∀ c, c < 3 → sP σ 10 t 11 c = nI (m 11 (3 * t + c))) ∧ ∀ c, c < 3 → sP σ 10 t 12 c = nI (m 12 (3 * t + c))
def CT (m : Nat → Nat → Nat) (u : Nat → Int32) (σ : St) : Prop :=
  sP σ 9 0 1 0 = nI (m 1 0) ∧ sV σ 10 = m 1 0 ∧ (∀ t, t < 3 → sQ σ 9 0 0 t = if t < m 1 0 then some t else none) ∧ ∀ t, t < m 1 0 → CT1 m u σ t
def CX1 (m : Nat → Nat → Nat) (u : Nat → Int32) (σ : St) (k : Nat) : Prop :=
  sP σ 3 k 0 0 = nI k ∧ sQ σ 3 k 1 0 = some (m 14 k) ∧ sP σ 3 k 2 0 = nI (m 15 k) ∧ sP σ 3 k 4 0 = nI (ent m u (m 14 k) (m 15 k)).length ∧
  ∀ j (h : j < (ent m u (m 14 k) (m 15 k)).length), sP σ 3 k 3 j = nI (ent m u (m 14 k) (m 15 k))[j]
def CX (m : Nat → Nat → Nat) (u : Nat → Int32) (σ : St) : Prop :=
  sP σ 9 0 3 0 = nI (m 13 0) ∧ sV σ 3 = m 13 0 ∧ (∀ k, k < 6 → sQ σ 9 0 2 k = if k < m 13 0 then some k else none) ∧ ∀ k, k < m 13 0 → CX1 m u σ k
def CC (m : Nat → Nat → Nat) (L : List Nat) (σ : St) : Prop := sP σ 0 0 1 0 = nI (m 19 0) ∧ sP σ 0 0 2 0 = nI L.length ∧ ∀ j (h : j < L.length), sP σ 0 0 0 j = nI L[j]
def CN (m : Nat → Nat → Nat) (σ : St) (q k : Nat) : Prop := ∃ c, sQ σ 7 q 2 k = some c ∧ c < sV σ 1 ∧ sP σ 1 c 0 0 = nI (m 28 (4 * q + k)) ∧ sP σ 1 c 1 0 = nI (m 29 (4 * q + k)) ∧ sP σ 1 c 2 0 = nI (m 30 (4 * q + k)) ∧ sP σ 1 c 3 0 = nI (m 31 (4 * q + k))
def CJ (m : Nat → Nat → Nat) (σ : St) (q k : Nat) : Prop := ∃ c, sQ σ 7 q 4 k = some c ∧ c < sV σ 4 ∧ sP σ 4 c 0 0 = nI (m 33 (3 * q + k)) ∧ sP σ 4 c 1 0 = nI (m 34 (3 * q + k)) ∧ sP σ 4 c 2 0 = nI (m 35 (3 * q + k)) ∧ sP σ 4 c 3 0 = nI (m 36 (3 * q + k))
def CQ1 (m : Nat → Nat → Nat) (σ : St) (q : Nat) : Prop :=
  sP σ 7 q 1 0 = nI (m 25 q) ∧ sP σ 7 q 3 0 = nI (m 27 q) ∧ sP σ 7 q 5 0 = nI (m 32 q) ∧ (∀ p, p < 3 → sQ σ 7 q 0 p = if p < m 25 q then some (m 26 (3 * q + p)) else none) ∧
  (∀ k, k < m 27 q → CN m σ q k) ∧ (∀ k, m 27 q ≤ k → k < 4 → sQ σ 7 q 2 k = none) ∧ (∀ k, k < m 32 q → CJ m σ q k) ∧ ∀ k, m 32 q ≤ k → k < 3 → sQ σ 7 q 4 k = none
def CQ (m : Nat → Nat → Nat) (σ : St) : Prop :=
  sP σ 11 0 2 0 = nI (m 24 0) ∧ sV σ 7 = m 24 0 ∧ (∀ q, q < 8 → sQ σ 11 0 1 q = if q < m 24 0 then some q else none) ∧ ∀ q, q < m 24 0 → CQ1 m σ q
def wn (a b : Int32) : Int32 := if a < b then 0 else if b < a then 1 else -1
def CD (m : Nat → Nat → Nat) (w : Nat → Int32) (σ : St) : Prop :=
  (∀ d, d < 2 → sP σ 2 0 0 d = nI (m 51 d)) ∧ (∀ d, d < 2 → sP σ 2 0 1 d = nI (m 46 d)) ∧ (∀ j, j < 2 * m 52 0 → sP σ 2 0 2 j = w j) ∧ sP σ 2 0 3 0 = nI (m 52 0) ∧
  (0 < m 52 0 → sP σ 2 0 4 0 = wn (w (2 * m 52 0 - 2)) (w (2 * m 52 0 - 1))) ∧ sP σ 2 0 5 0 = nI (m 16 0) ∧ ∀ j, j < 2 * m 52 0 → ∃ x, x < 2 ^ 20 ∧ w j = nI x
theorem C0.km (C : C0 σ) (h : KC σ σ') : C0 σ' := by
  unfold C0 at *
  rw [h.2.2.1]
  exact C
theorem CT1.km {t : Nat} (C : CT1 m u σ t) (h : KC σ σ') : CT1 m u σ' t := by
  unfold CT1 at *
  simp only [h.1 10 _ _ _ (by decide)]
  exact C
theorem CT.km (C : CT m u σ) (h : KC σ σ') : CT m u σ' := by
  unfold CT at *
  obtain ⟨c1, c2, c3, c4⟩ := C
  exact ⟨by rw [h.1 9 _ _ _ (by decide)]; exact c1, by rw [h.2.2.2.2]; exact c2, by rw [h.2.2.1]; exact c3, fun t ht => (c4 t ht).km h⟩
theorem CX.km (C : CX m u σ) (h : KC σ σ') : CX m u σ' := by
  unfold CX CX1 at *
  simp only [h.1 9 _ _ _ (by decide), h.1 3 _ _ _ (by decide), h.2.2.1, h.2.2.2.2]
  exact C
theorem CC.km (C : CC m L σ) (h : KC σ σ') : CC m L σ' := by
  unfold CC at *
  simp only [h.1 0 _ _ _ (by decide)]
  exact C
theorem CQ.km (C : CQ m σ) (h : KC σ σ') : CQ m σ' := by
  unfold CQ CQ1 CN CJ at *
  simp only [h.1 7 _ _ _ (by decide), h.1 11 _ _ _ (by decide), h.1 1 _ _ _ (by decide), h.1 4 _ _ _ (by decide), h.2.2.1, h.2.2.2.2]
  exact C
theorem CD.km (C : CD m w σ) (h : KC σ σ') : CD m w σ' := by
  unfold CD at *
  simp only [h.1 2 _ _ _ (by decide)]
  exact C
end INV
