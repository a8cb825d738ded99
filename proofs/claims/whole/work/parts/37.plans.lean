/-! LEVEL 2b: the mathematics of plans (o: place to position, ways: 0 pages, 1 to 4 conditions, 5 to 7 joins), the invariant. -/
section PLANS
def tq (m : Nat → Nat → Nat) (q p : Nat) : Nat := m 26 (3 * q + p)
def iOn (m : Nat → Nat → Nat) (ban t c : Nat) : Option Nat := (List.range (m 13 0)).find? (fun k => m 14 k == t && (m 15 k == c && !ban.testBit k))
def hold (sg told v : Nat) : Bool := if sg = 61 then v == told else if sg = 60 then decide (v < told) else decide (told < v)
def share (m : Nat → Nat → Nat) (q k : Nat) : Nat :=
  if m 30 (4 * q + k) = 61 then 1000 / max 1 (m 10 (3 * tq m q (m 28 (4 * q + k)) + m 29 (4 * q + k)))
  else 1000 * ((List.range 100).filter (fun v => decide (m 11 (3 * tq m q (m 28 (4 * q + k)) + m 29 (4 * q + k)) ≤ v) && (decide (v ≤ m 12 (3 * tq m q (m 28 (4 * q + k)) + m 29 (4 * q + k))) && hold (m 30 (4 * q + k)) (m 31 (4 * q + k)) v))).length / (m 12 (3 * tq m q (m 28 (4 * q + k)) + m 29 (4 * q + k)) + 1 - m 11 (3 * tq m q (m 28 (4 * q + k)) + m 29 (4 * q + k)))
def jsh (m : Nat → Nat → Nat) (q k : Nat) : Nat := 1000 / max 1 (max (m 10 (3 * tq m q (m 33 (3 * q + k)) + m 34 (3 * q + k))) (m 10 (3 * tq m q (m 35 (3 * q + k)) + m 36 (3 * q + k))))
def ahead (o : Nat → Nat) (place p : Nat) : Bool := (List.range place).any (fun k => o k == p)
def own (m : Nat → Nat → Nat) (q : Nat) (o : Nat → Nat) (place k : Nat) : Option Nat :=
  if m 33 (3 * q + k) = o place ∧ ahead o place (m 35 (3 * q + k)) = true then some (m 34 (3 * q + k)) else if m 35 (3 * q + k) = o place ∧ ahead o place (m 33 (3 * q + k)) = true then some (m 36 (3 * q + k)) else none
def wIdx (m : Nat → Nat → Nat) (q ban : Nat) (o : Nat → Nat) (place way : Nat) : Option Nat :=
  if way = 0 then none else if way < 5 then (if way ≤ m 27 q ∧ m 28 (4 * q + (way - 1)) = o place then iOn m ban (tq m q (o place)) (m 29 (4 * q + (way - 1))) else none)
  else if way - 5 < m 32 q then (own m q o place (way - 5)).bind (iOn m ban (tq m q (o place))) else none
def wCost (m : Nat → Nat → Nat) (q : Nat) (o : Nat → Nat) (place way : Nat) : Nat :=
  if way = 0 then m 9 (tq m q (o place)) else if way < 5 then 1 + m 8 (tq m q (o place)) * share m q (way - 1) / 1000
  else 1 + m 8 (tq m q (o place)) / max 1 (m 10 (3 * tq m q (o place) + (own m q o place (way - 5)).getD 0))
def chC (m : Nat → Nat → Nat) (q p : Nat) (b : Nat) : Nat → Nat := it_ (fun k x => if m 28 (4 * q + k) = p then x * share m q k / 1000 else x) b
def chJ (m : Nat → Nat → Nat) (q : Nat) (o : Nat → Nat) (place b : Nat) : Nat → Nat := it_ (fun k x => if (own m q o place k).isSome = true then x * jsh m q k / 1000 else x) b
def chs (m : Nat → Nat → Nat) (q : Nat) (o : Nat → Nat) : Nat → Nat := it_ (fun place x => max 1 (chJ m q o place (chC m q (o place) (x * m 8 (tq m q (o place))) (m 27 q)) (m 32 q))) 1
def est (m : Nat → Nat → Nat) (q : Nat) (o ways : Nat → Nat) : Nat → Nat := it_ (fun place x => x + chs m q o place * wCost m q o place (ways place)) 0
def idO : Nat → Nat := fun p => p
def bway (m : Nat → Nat → Nat) (q ban place : Nat) : Nat :=
  match [5, 6, 7].find? (fun y => (wIdx m q ban idO place y).isSome) with
  | some y => y
  | none => match [1, 2, 3, 4].find? (fun y => (wIdx m q ban idO place y).isSome && m 30 (4 * q + (y - 1)) == 61) with
    | some y => y
    | none => match [1, 2, 3, 4].find? (fun y => (wIdx m q ban idO place y).isSome && !(m 30 (4 * q + (y - 1)) == 61)) with
      | some y => y
      | none => 0
def gway (m : Nat → Nat → Nat) (q ban : Nat) (o : Nat → Nat) (place : Nat) : Nat :=
  it_ (fun y b => if (wIdx m q ban o place (y + 1)).isSome = true ∧ wCost m q o place (y + 1) < wCost m q o place b then y + 1 else b) 0 7
def ordN (i : Nat) : Nat → Nat := fun p => [0, 1, 2, 0, 2, 1, 1, 0, 2, 1, 2, 0, 2, 0, 1, 2, 1, 0].getD (3 * i + p) 0
def okO (n i : Nat) : Bool := (List.range 3).all (fun p => decide (p < n) || ordN i p == p)
def eO (m : Nat → Nat → Nat) (q ban i : Nat) : Nat := est m q (ordN i) (gway m q ban (ordN i)) (m 25 q)
def best (m : Nat → Nat → Nat) (q ban : Nat) : Nat := it_ (fun i b => if okO (m 25 q) i = true ∧ eO m q ban i < eO m q ban b then i else b) 0 6
def plO (m : Nat → Nat → Nat) (q ban d : Nat) : Nat → Nat := if d = 0 then idO else ordN (best m q ban)
def plW (m : Nat → Nat → Nat) (q ban d place : Nat) : Nat := if d = 0 then bway m q ban place else gway m q ban (ordN (best m q ban)) place
def plI (m : Nat → Nat → Nat) (q ban d place : Nat) : Option Nat := wIdx m q ban (plO m q ban d) place (plW m q ban d place)
def oI (x : Option Nat) : Int32 := match x with | some k => nI k | none => mI
def wCh (y : Nat) : Nat := if y = 0 then 102 else if y < 5 then 99 else 106
def wRe (y : Nat) : Int32 := if y = 0 then mI else if y < 5 then nI (y - 1) else nI (y - 5)
/-- plan object i of the class holds a plan -/
def PH (σ : St) (i n : Nat) (o ways : Nat → Nat) (ix : Nat → Option Nat) : Prop :=
  sP σ 5 i 0 0 = nI n ∧ ∀ p, p < n → sP σ 5 i 1 p = nI (o p) ∧ sP σ 5 i 2 (o p) = nI p ∧ sP σ 5 i 3 p = nI (wCh (ways p)) ∧ sP σ 5 i 4 p = wRe (ways p) ∧ sP σ 5 i 5 p = oI (ix p)
def PL (m : Nat → Nat → Nat) (q ban d : Nat) (σ : St) (i : Nat) : Prop := PH σ i (m 25 q) (plO m q ban d) (plW m q ban d) (plI m q ban d)
def CP (m : Nat → Nat → Nat) (σ : St) : Prop :=
  m 16 0 = 1 → m 55 0 < m 24 0 ∧ 0 < m 25 (m 55 0) ∧ 0 < m 52 0 ∧ sQ σ 11 0 10 0 = some (m 55 0) ∧ PL m (m 55 0) (m 54 0) 0 σ 3 ∧ PL m (m 55 0) (m 54 1) 1 σ 4
/-- the mathematical state's own bounds -/
def WT (m : Nat → Nat → Nat) (u : Nat → Int32) : Prop :=
  m 1 0 ≤ 3 ∧ (∀ t, t < 3 → 1 ≤ m 2 t ∨ m 1 0 ≤ t) ∧ (∀ t, t < m 1 0 → 1 ≤ m 2 t ∧ m 2 t ≤ 3) ∧ (∀ t, t < 3 → m 3 t ≤ 40) ∧ (∀ t r, t < 3 → r < 40 → m 4 (40 * t + r) ≤ 1) ∧ (∀ t r, t < 3 → r < 40 → m 3 t ≤ r → m 4 (40 * t + r) = 0) ∧
  (∀ j, j < 9 → m 6 j ≤ 99 ∧ m 7 j ≤ 99) ∧ (∀ t, t < 3 → m 8 t ≤ 40 ∧ m 9 t ≤ 10) ∧ (∀ j, j < 9 → m 10 j ≤ 40 ∧ m 11 j ≤ 99 ∧ m 12 j ≤ 99 ∧ m 11 j ≤ m 12 j) ∧
  (∀ t r c, t < m 1 0 → r < m 3 t → c < m 2 t → ∃ v, v ≤ 99 ∧ u (3 * (40 * t + r) + c) = nI v) ∧
  (∀ t, m 1 0 ≤ t → t < 3 → m 3 t = 0 ∧ m 8 t = 0 ∧ m 9 t = 0 ∧ ∀ c, c < 3 → m 6 (3 * t + c) = 0 ∧ m 10 (3 * t + c) = 0 ∧ m 11 (3 * t + c) = 0 ∧ m 12 (3 * t + c) = 0)
def WX (m : Nat → Nat → Nat) : Prop := m 13 0 ≤ 6 ∧ ∀ k, k < m 13 0 → m 14 k < m 1 0 ∧ m 15 k < m 2 (m 14 k)
def WC (m : Nat → Nat → Nat) (L : List Nat) : Prop := m 19 0 ≤ 12 ∧ L.length ≤ m 19 0 ∧ L.Nodup ∧ ∀ x ∈ L, x < 300 ∨ ∃ k, k < m 13 0 ∧ 300 + 100 * k ≤ x ∧ x < 400 + 100 * k
def WQ (m : Nat → Nat → Nat) : Prop :=
  m 24 0 ≤ 8 ∧ (∀ q, m 24 0 ≤ q → q < 8 → m 25 q = 0 ∧ m 27 q = 0 ∧ m 32 q = 0) ∧ ∀ q, q < m 24 0 → m 25 q ≤ 3 ∧ m 27 q ≤ 4 ∧ m 32 q ≤ 3 ∧ (∀ p, p < m 25 q → m 26 (3 * q + p) < m 1 0) ∧
  (∀ k, k < m 27 q → m 28 (4 * q + k) < m 25 q ∧ m 29 (4 * q + k) < m 2 (tq m q (m 28 (4 * q + k))) ∧ (m 30 (4 * q + k) = 61 ∨ m 30 (4 * q + k) = 60 ∨ m 30 (4 * q + k) = 62) ∧ m 31 (4 * q + k) ≤ 99) ∧
  ∀ k, k < m 32 q → m 33 (3 * q + k) < m 25 q ∧ m 34 (3 * q + k) < m 2 (tq m q (m 33 (3 * q + k))) ∧ m 35 (3 * q + k) < m 25 q ∧ m 36 (3 * q + k) < m 2 (tq m q (m 35 (3 * q + k))) ∧ m 33 (3 * q + k) ≠ m 35 (3 * q + k)
def popC (b : Nat) : Nat := ((List.range 6).filter (fun k => b.testBit k)).length
def WD (m : Nat → Nat → Nat) (kk : Nat) : Prop := (∀ d, d < 2 → m 46 d < 64 ∧ m 54 d < 64 ∧ m 51 d ≤ 3 * kk ∧ popC (m 46 d) ≤ 2) ∧ m 52 0 ≤ kk ∧ m 16 0 ≤ 1 ∧ kk ≤ 512
def Inv (kk : Nat) (σ : St) : Prop := ∃ (m : Nat → Nat → Nat) (u w : Nat → Int32) (L : List Nat), RI m u w L σ ∧ (C0 σ ∧ CT m u σ ∧ CX m u σ ∧ CC m L σ ∧ CQ m σ ∧ CD m w σ ∧ CP m σ) ∧ WT m u ∧ WX m ∧ WC m L ∧ WQ m ∧ WD m kk
def CA (m : Nat → Nat → Nat) (u w : Nat → Int32) (L : List Nat) (σ : St) : Prop := C0 σ ∧ CT m u σ ∧ CX m u σ ∧ CC m L σ ∧ CQ m σ ∧ CD m w σ ∧ CP m σ
def WA (m : Nat → Nat → Nat) (u : Nat → Int32) (L : List Nat) (kk : Nat) : Prop := WT m u ∧ WX m ∧ WC m L ∧ WQ m ∧ WD m kk
theorem Inv.mk {kk : Nat} {σ : St} {m : Nat → Nat → Nat} {u w : Nat → Int32} {L : List Nat} (R : RI m u w L σ) (C : CA m u w L σ) (W : WA m u L kk) : Inv kk σ := ⟨m, u, w, L, R, C, W⟩
theorem CP.km {m : Nat → Nat → Nat} {σ σ' : St} (C : CP m σ) (h : KC σ σ') : CP m σ' := by
  unfold CP PL PH at *
  simp only [h.1 5 _ _ _ (by decide), h.2.2.1]
  exact C
theorem CA.km {m : Nat → Nat → Nat} {u w : Nat → Int32} {L : List Nat} {σ σ' : St} (C : CA m u w L σ) (h : KC σ σ') : CA m u w L σ' :=
  ⟨C.1.km h, C.2.1.km h, C.2.2.1.km h, C.2.2.2.1.km h, C.2.2.2.2.1.km h, C.2.2.2.2.2.1.km h, C.2.2.2.2.2.2.km h⟩
/-- the class's registers that persist, untouched: only temporary ones changed -/
def KT (σ σ' : St) : Prop := (∀ k i f j, (k ≠ 0 ∨ i = 0) → (k ≠ 5 ∨ i = 3 ∨ i = 4) → k ≠ 6 → k ≠ 8 → sP σ' k i f j = sP σ k i f j) ∧ (∀ k i f j, k ≠ 8 → sQ σ' k i f j = sQ σ k i f j) ∧ (∀ i, sQ σ' 8 i 0 0 = sQ σ 8 i 0 0) ∧ sV σ' = sV σ
theorem CA.kt {m : Nat → Nat → Nat} {u w : Nat → Int32} {L : List Nat} {σ σ' : St} (C : CA m u w L σ) (h : KT σ σ') : CA m u w L σ' := by
  obtain ⟨h1, h2, h3, h4⟩ := h
  unfold CA C0 CT CT1 CX CX1 CC CQ CQ1 CN CJ CD CP PL PH at *
  simp only [h1 0 0 _ _ (Or.inr rfl) (Or.inl (by decide)) (by decide) (by decide), h1 5 3 _ _ (Or.inl (by decide)) (Or.inr (Or.inl rfl)) (by decide) (by decide), h1 5 4 _ _ (Or.inl (by decide)) (Or.inr (Or.inr rfl)) (by decide) (by decide),
    h1 1 _ _ _ (Or.inl (by decide)) (Or.inl (by decide)) (by decide) (by decide), h1 2 _ _ _ (Or.inl (by decide)) (Or.inl (by decide)) (by decide) (by decide), h1 3 _ _ _ (Or.inl (by decide)) (Or.inl (by decide)) (by decide) (by decide), h1 4 _ _ _ (Or.inl (by decide)) (Or.inl (by decide)) (by decide) (by decide),
    h1 7 _ _ _ (Or.inl (by decide)) (Or.inl (by decide)) (by decide) (by decide), h1 9 _ _ _ (Or.inl (by decide)) (Or.inl (by decide)) (by decide) (by decide), h1 10 _ _ _ (Or.inl (by decide)) (Or.inl (by decide)) (by decide) (by decide), h1 11 _ _ _ (Or.inl (by decide)) (Or.inl (by decide)) (by decide) (by decide),
    h2 11 _ _ _ (by decide), h2 6 _ _ _ (by decide), h2 9 _ _ _ (by decide), h2 3 _ _ _ (by decide), h2 7 _ _ _ (by decide), h3, h4]
  exact C
theorem KT.refl {σ : St} : KT σ σ := ⟨fun _ _ _ _ _ _ _ _ => rfl, fun _ _ _ _ _ => rfl, fun _ => rfl, rfl⟩
theorem KT.trans {σ1 σ2 σ3 : St} (a : KT σ1 σ2) (b : KT σ2 σ3) : KT σ1 σ3 :=
  ⟨fun k i f j h1 h2 h3 h4 => (b.1 k i f j h1 h2 h3 h4).trans (a.1 k i f j h1 h2 h3 h4), fun k i f j h => (b.2.1 k i f j h).trans (a.2.1 k i f j h), fun i => (b.2.2.1 i).trans (a.2.2.1 i), b.2.2.2.trans a.2.2.2⟩
end PLANS
