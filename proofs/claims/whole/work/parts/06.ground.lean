/-! GROUND. Typed values, the heap as a map from addresses to contents, the judgement Go (what W says, over such a map), its rows. -/
section GRA
abbrev Tv : Type := Int32 ⊕ (Int64 ⊕ (UInt32 ⊕ (UInt64 ⊕ Option Nat)))
abbrev iV (x : Int32) : Tv := .inl x
abbrev lV (x : Int64) : Tv := .inr (.inl x)
abbrev fV (x : UInt32) : Tv := .inr (.inr (.inl x))
abbrev dV (x : UInt64) : Tv := .inr (.inr (.inr (.inl x)))
abbrev rV (o : Option Nat) : Tv := .inr (.inr (.inr (.inr o)))
def toV : Tv → Value
  | .inl x => .int x
  | .inr (.inl x) => .long x
  | .inr (.inr (.inl x)) => .float x
  | .inr (.inr (.inr (.inl x))) => .double x
  | .inr (.inr (.inr (.inr o))) => va_rf o
def wide : Tv → Bool
  | .inr (.inl _) => true
  | .inr (.inr (.inr (.inl _))) => true
  | _ => false
theorem toV_cat (v : Tv) : (toV v).category = if wide v then 2 else 1 := by
  rcases v with x | x | x | x | (_ | x) <;> rfl
theorem toV_cat2 (v : Tv) : ((toV v).category == 2) = wide v := by
  rcases v with x | x | x | x | (_ | x) <;> rfl
abbrev Ct : Type := (Nat × vp_A) ⊕ (Nat × List Tv)
abbrev Hp : Type := Nat → Option Ct
def toE (cA : Nat → ClassId) : Ct → va_E
  | .inl x => .inl (cA x.1, x.2)
  | .inr o => .inr (o.1, o.2.map toV)
abbrev kcl : List vw_C := [(RX0, TX0, 3), (RX1, TX1, 4), (RX2, TX2, 6), (RX3, TX3, 5), (RX4, TX4, 4), (RX5, TX5, 7), (RX6, TX6, 7), (RX7, TX7, 6), (RX8, TX8, 16), (RX9, TX9, 4), (RX10, TX10, 13), (RX11, TX11, 12), (RX12, TX12, 56)]
def tysOf (cA : Nat → ClassId) : List (ClassId × FieldType) := [(cA 0, .int), (cA 1, .boolean), (cA 2, .char), (cA 3, .long), (cA 4, .double), (cA 5, .object RX10), (cA 6, .object RX3), (cA 7, .object RX7), (cA 8, .object RX1), (cA 9, .object RX4)]
abbrev Gp : Type := va_G × (Nat → ClassId) × Nat × Nat × (Nat → Nat)
abbrev AA (G : Gp) : Nat → Prop := fun q => G.2.2.1 ≤ q
def Rp (G : Gp) (h : Hp) (H : Heap) : Prop := ∀ (a : Nat) (e : Ct), h a = some e → va_at G.1 kcl (a, toE G.2.1 e) H ∧ AA G a
theorem Rp.put {G : Gp} {h : Hp} {H H1 : Heap} {a : Nat} {e0 e : Ct} (hP : Rp G h H) (ha : h a = some e0) (he : va_at G.1 kcl (a, toE G.2.1 e) H1) (oq : ∀ q : Nat, q ≠ a → H1[q]? = H[q]?) : Rp G (va_up h a (some e)) H1 := by
  intro b e' hb
  by_cases hba : b = a
  · subst hba
    have : some e = some e' := by rw [← hb]; simp [va_up]
    cases this
    exact ⟨he, (hP b _ ha).2⟩
  · have hb' : h b = some e' := by rw [← hb]; simp [va_up, hba]
    exact ⟨(hP b e' hb').1.kept (oq b hba), (hP b e' hb').2⟩
theorem Rp.push {G : Gp} {h : Hp} {H H1 : Heap} {e : Ct} (hP : Rp G h H) (hb : G.2.2.1 ≤ H.size) (he : va_at G.1 kcl (H.size, toE G.2.1 e) H1) (oq : ∀ q : Nat, q < H.size → H1[q]? = H[q]?) : h H.size = none ∧ Rp G (va_up h H.size (some e)) H1 := by
  have h0 : h H.size = none := by
    cases hx : h H.size with
    | none => rfl
    | some x => exact absurd (hP _ _ hx).1.lt (Nat.lt_irrefl _)
  refine ⟨h0, ?_⟩
  intro b e' hb2
  by_cases hba : b = H.size
  · subst hba
    have : some e = some e' := by rw [← hb2]; simp [va_up]
    cases this
    exact ⟨he, hb⟩
  · have hb' : h b = some e' := by rw [← hb2]; simp [va_up, hba]
    have hl := (hP b e' hb').1.lt
    exact ⟨(hP b e' hb').1.kept (oq b hl), (hP b e' hb').2⟩
def isBw : Cond → Bool
  | .methodLinkNest .. => true
  | .fieldLinkNest .. => true
  | .declares _ => true
  | .castable .. => true
  | _ => false
def bw : List Cond := tables_1.filter isBw
theorem bw_onTables {w : Cond} (h : isBw w = true) : w.onTables = true := by
  cases w <;> first | rfl | cases h
theorem bw_warm {w : Cond} (h : isBw w = true) {s U : State} (hW : s.WarmedH U.vm) (hz : va_Nw w s) : va_Nw w U := by
  cases w <;> first | exact va_Nw.warmM hW hz | exact va_Nw.warmF hW hz | exact va_Nw.warmD hW hz | exact va_Nw.warmC hW hz | cases h
abbrev ncl : List (String × String) := [("java/lang/IllegalArgumentException", "java/lang/IllegalStateException"), ("java/lang/IllegalArgumentException", "java/lang/IndexOutOfBoundsException"), ("java/lang/IllegalArgumentException", "java/lang/UnsupportedOperationException"), ("java/lang/IllegalArgumentException", "java/util/NoSuchElementException"), ("java/lang/IllegalArgumentException", "java/lang/ArithmeticException"), ("java/lang/IllegalStateException", "java/lang/IllegalArgumentException"), ("java/lang/IllegalStateException", "java/lang/IndexOutOfBoundsException"), ("java/lang/IllegalStateException", "java/lang/UnsupportedOperationException"), ("java/lang/IllegalStateException", "java/util/NoSuchElementException"), ("java/lang/IllegalStateException", "java/lang/ArithmeticException"), ("java/lang/IndexOutOfBoundsException", "java/lang/IllegalArgumentException"), ("java/lang/IndexOutOfBoundsException", "java/lang/IllegalStateException"), ("java/lang/IndexOutOfBoundsException", "java/lang/UnsupportedOperationException"), ("java/lang/IndexOutOfBoundsException", "java/util/NoSuchElementException"), ("java/lang/IndexOutOfBoundsException", "java/lang/ArithmeticException"), ("java/lang/UnsupportedOperationException", "java/lang/IllegalArgumentException"), ("java/lang/UnsupportedOperationException", "java/lang/IllegalStateException"), ("java/lang/UnsupportedOperationException", "java/lang/IndexOutOfBoundsException"), ("java/lang/UnsupportedOperationException", "java/util/NoSuchElementException"), ("java/lang/UnsupportedOperationException", "java/lang/ArithmeticException"), ("java/util/NoSuchElementException", "java/lang/IllegalArgumentException"), ("java/util/NoSuchElementException", "java/lang/IllegalStateException"), ("java/util/NoSuchElementException", "java/lang/IndexOutOfBoundsException"), ("java/util/NoSuchElementException", "java/lang/UnsupportedOperationException"), ("java/util/NoSuchElementException", "java/lang/ArithmeticException"), ("java/lang/ArithmeticException", "java/lang/IllegalArgumentException"), ("java/lang/ArithmeticException", "java/lang/IllegalStateException"), ("java/lang/ArithmeticException", "java/lang/IndexOutOfBoundsException"), ("java/lang/ArithmeticException", "java/lang/UnsupportedOperationException"), ("java/lang/ArithmeticException", "java/util/NoSuchElementException")]
abbrev aow : List String := [RX10, RX3, RX7, RX1, RX4]
def ordA : Nat → Int32 := fun k => [0, 1, 2, 0, 2, 1, 1, 0, 2, 1, 2, 0, 2, 0, 1, 2, 1, 0].getD k 0
def KS (G : Gp) (U : State) : Prop :=
  va_K G.1 kcl (tysOf G.2.1) U ∧ G.2.2.1 ≤ U.heap.size ∧ vx_Zq Bundle.tN "UNASSIGNED_STACK" Bundle.steD (AA G) U U.heap ∧ vx_Zq Bundle.tN "SUPPRESSED_SENTINEL" Bundle.listD (AA G) U U.heap ∧ (∀ w ∈ bw, va_Nw w U) ∧ ((∀ C ∈ aow, va_AO C U) ∧ ∀ q ∈ ncl, va_Nc q.1 q.2 U) ∧ (∀ (k i : Nat) (tx : String), Cond.stringRef RX11 i tx ∈ tables_1 → k = i → vk_R RX11 i tx (G.2.2.2.2 k) U) ∧ va_Z RX11 "ORDERS" "[I" (.ref G.2.2.2.1) (AA G) U U.heap ∧ va_T .int G.2.2.2.1 18 (fun j => .int (ordA j)) (AA G) U U.heap
theorem KS.moved {G : Gp} {s U : State} {H : Heap} {locs : List Loc} (hK : KS G s) (hW : s.WarmedH U.vm) (hU : U.heap = H) (hS : va_S (AA G) s.heap H locs) : KS G U := by
  obtain ⟨k1, k2, k3, k4, k5, k6, k7, k8, k9⟩ := hK
  subst hU
  have hq : ∀ a : Nat, a < s.heap.size → ¬ AA G a → U.heap[a]? = s.heap[a]? := hS.2.1
  exact ⟨va_K.moved hW.alike k1, Nat.le_trans k2 hS.1, (k3.moved hW.alike).kept hq, (k4.moved hW.alike).kept hq, fun w hw => bw_warm (List.mem_filter.mp hw).2 hW (k5 w hw), ⟨fun C hC => (k6.1 C hC).moved hW.alike, fun q hq9 => (k6.2 q hq9).moved hW.alike⟩, fun k i tx ht hk => (k7 k i tx ht hk).warm hW, (k8.moved hW.alike).kept hq, (k9.moved hW.alike).kept hq⟩
theorem KS.same {G : Gp} {s U : State} (hK : KS G s) (hv : U.vm = s.vm) (hU : U.heap = s.heap) : KS G U := by
  obtain ⟨k1, k2, k3, k4, k5, k6, k7, k8, k9⟩ := hK
  have ha : s.vm.Alike U.vm := by rw [hv]; exact Vm.Alike.refl _
  refine ⟨va_K.moved ha k1, by rw [hU]; exact k2, by rw [hU]; exact k3.moved ha, by rw [hU]; exact k4.moved ha, fun w hw => (k5 w hw).same (bw_onTables (List.mem_filter.mp hw).2) hv.symm, ⟨fun C hC => (k6.1 C hC).moved ha, fun q hq9 => (k6.2 q hq9).moved ha⟩, fun k i tx ht hk => (k7 k i tx ht hk).same hv, by rw [hU]; exact k8.moved ha, by rw [hU]; exact k9.moved ha⟩
/-! the programs: what they are made of -/
def gI (h : Hp) (a ci k : Nat) (K : Int32 → Prop) : Prop := ∃ fs v, h a = some (.inr (ci, fs)) ∧ fs[k]? = some (iV v) ∧ K v
def gL (h : Hp) (a ci k : Nat) (K : Int64 → Prop) : Prop := ∃ fs v, h a = some (.inr (ci, fs)) ∧ fs[k]? = some (lV v) ∧ K v
def gR (h : Hp) (a ci k : Nat) (K : Option Nat → Prop) : Prop := ∃ fs v, h a = some (.inr (ci, fs)) ∧ fs[k]? = some (rV v) ∧ K v
def pF (h : Hp) (a ci k : Nat) (v : Tv) (K : Hp → Prop) : Prop := ∃ fs, h a = some (.inr (ci, fs)) ∧ k < fs.length ∧ K (va_up h a (some (.inr (ci, fs.set k v))))
def aI (h : Hp) (a t : Nat) (i : Int32) (K : Int32 → Prop) : Prop := ∃ n f, h a = some (.inl (t, n, .inl f)) ∧ vp_in i n ∧ K (f i.toNatClampNeg)
def aL (h : Hp) (a : Nat) (i : Int32) (K : Int64 → Prop) : Prop := ∃ n f, h a = some (.inl (3, n, .inr (.inl f))) ∧ vp_in i n ∧ K (f i.toNatClampNeg)
def aD (h : Hp) (a : Nat) (i : Int32) (K : UInt64 → Prop) : Prop := ∃ n f, h a = some (.inl (4, n, .inr (.inr (.inr (.inl f))))) ∧ vp_in i n ∧ K (f i.toNatClampNeg)
def aR (h : Hp) (a t : Nat) (i : Int32) (K : Option Nat → Prop) : Prop := ∃ n f, h a = some (.inl (t, n, .inr (.inr (.inr (.inr f))))) ∧ vp_in i n ∧ K (f i.toNatClampNeg)
def sI (h : Hp) (a t : Nat) (i x : Int32) (K : Hp → Prop) : Prop := ∃ n f, h a = some (.inl (t, n, .inl f)) ∧ vp_in i n ∧ K (va_up h a (some (.inl (t, n, .inl (upd f i.toNatClampNeg x)))))
def sL (h : Hp) (a : Nat) (i : Int32) (x : Int64) (K : Hp → Prop) : Prop := ∃ n f, h a = some (.inl (3, n, .inr (.inl f))) ∧ vp_in i n ∧ K (va_up h a (some (.inl (3, n, .inr (.inl (vp_updL f i.toNatClampNeg x))))))
def sD (h : Hp) (a : Nat) (i : Int32) (x : UInt64) (K : Hp → Prop) : Prop := ∃ n f, h a = some (.inl (4, n, .inr (.inr (.inr (.inl f))))) ∧ vp_in i n ∧ K (va_up h a (some (.inl (4, n, .inr (.inr (.inr (.inl (vf_upd f i.toNatClampNeg x))))))))
def sR (h : Hp) (a t : Nat) (i : Int32) (x : Nat) (ci : Nat) (K : Hp → Prop) : Prop := ∃ n f, h a = some (.inl (t, n, .inr (.inr (.inr (.inr f))))) ∧ vp_in i n ∧ (∃ fs, h x = some (.inr (ci, fs))) ∧ K (va_up h a (some (.inl (t, n, .inr (.inr (.inr (.inr (va_up f i.toNatClampNeg (some x)))))))))
def aN (h : Hp) (a : Nat) (K : Int32 → Prop) : Prop := ∃ t x, h a = some (.inl (t, x)) ∧ t < 10 ∧ K (Int32.ofNat x.1)
def nn (o : Option Nat) (K : Nat → Prop) : Prop := ∃ a, o = some a ∧ K a
def br (c : Prop) (A B : Prop) : Prop := (c → A) ∧ (¬ c → B)
def brn (o : Option Nat) (A : Prop) (B : Nat → Prop) : Prop := (o = none → A) ∧ ∀ a, o = some a → B a
def dz {α : Type} [OfNat α 0] (y : α) (K : Prop) : Prop := ¬ y = 0 ∧ K
def ok (c : Prop) (K : Prop) : Prop := c ∧ K
def cv (h : Hp) (b ci : Nat) (K : Prop) : Prop := (∃ fs, h b = some (.inr (ci, fs))) ∧ K
def nw (h : Hp) (ci : Nat) (fs : List Tv) (K : Nat → Hp → Prop) : Prop := ∀ q, h q = none → K q (va_up h q (some (.inr (ci, fs))))
def nA (h : Hp) (e : Ct) (K : Nat → Hp → Prop) : Prop := ∀ q, h q = none → K q (va_up h q (some e))
def jn {α : Sort _} (rest : α) (T : α → Prop) : Prop := T rest
def fx {σ : Type} (F : (σ → Prop) → σ → Prop) : Nat → σ → Prop
  | 0 => fun _ => False
  | n + 1 => F (fx F n)
theorem jn_elim {α : Sort _} {P : α → Prop} {Q : Prop} {rest : α} {T : α → Prop} (hw : jn rest T) (h1 : P rest) (h2 : ∀ j, P j → T j → Q) : Q := h2 rest h1 hw
theorem fx_elim {σ : Type} {F : (σ → Prop) → σ → Prop} {P : σ → Prop} (hs : ∀ self : σ → Prop, (∀ v, self v → P v) → ∀ v, F self v → P v) : ∀ (N : Nat) (v : σ), fx F N v → P v
  | 0, _, h => h.elim
  | n + 1, v, h => hs (fx F n) (fun v' h' => fx_elim hs n v' h') v h
abbrev Kx : Type := Program × Launch × Env × State × MethodId × Array Value × List Frame × Method × Code
abbrev xp (X : Kx) : Program := X.1
abbrev xl (X : Kx) : Launch := X.2.1
abbrev xe (X : Kx) : Env := X.2.2.1
abbrev xs (X : Kx) : State := X.2.2.2.1
abbrev xm (X : Kx) : MethodId := X.2.2.2.2.1
abbrev xa (X : Kx) : Array Value := X.2.2.2.2.2.1
abbrev xb (X : Kx) : List Frame := X.2.2.2.2.2.2.1
abbrev xh (X : Kx) : Method := X.2.2.2.2.2.2.2.1
abbrev xc (X : Kx) : Code := X.2.2.2.2.2.2.2.2
abbrev lvV (L : List (Nat × Tv)) : List (Nat × Value) := L.map (fun q => (q.1, toV q.2))
abbrev WW (X : Kx) (R : Room) (H : Heap) (locs : List Loc) (cells slots : Nat) (Q : State → Prop) (pc : Nat) (ls : Array Slot) (st : List Tv) : Prop := W (xp X) (xl X) (xe X) R (xs X) (xm X) (xa X) (xb X) (xh X) (xc X) H locs cells slots Q (F0 (xm X) pc ls (st.map toV))
def Go (G : Gp) (X : Kx) (R : Room) (nL cells slots : Nat) (Q : State → Prop) (h : Hp) (pc : Nat) (L : List (Nat × Tv)) (st : List Tv) : Prop :=
  ∀ (H : Heap) (locs : List Loc) (ls : Array Slot), Rp G h H → va_S (AA G) (xs X).heap H locs → lv_has ls nL (lvV L) → WW X R H locs cells slots Q pc ls st
def Cx (G : Gp) (X : Kx) (own : String) (cc : ByteArray) (nL : Nat) (ret : Option FieldType) : Prop :=
  (xp X).tables.exec = Jvm.exec ∧ (xc X).code = cc ∧ (xc X).maxLocals = nL ∧ (xs X).vm.findClass own = some (xm X).cls ∧ (∀ w ∈ lw_all, w.before (xa X) (xs X) = true) ∧ KS G (xs X) ∧ (xh X).locks = false ∧ (xl X).stackTraces = false ∧ (xh X).sig.returnType = ret
def setL (i : Nat) (v : Tv) (L : List (Nat × Tv)) : List (Nat × Tv) := (i, v) :: L.filter (fun q => !(q.1 == i) && !(q.1 + 1 == i && wide q.2))
def setL2 (i : Nat) (v : Tv) (L : List (Nat × Tv)) : List (Nat × Tv) := (i, v) :: L.filter (fun q => !(q.1 == i) && (!(q.1 == i + 1) && !(q.1 + 1 == i && wide q.2)))
theorem lvV_set (i : Nat) (v : Tv) (L : List (Nat × Tv)) : lvV (setL i v L) = (i, toV v) :: (lvV L).filter (fun q => !(q.1 == i) && !(q.1 + 1 == i && q.2.category == 2)) := by
  simp only [setL, lvV, List.map_cons, List.filter_map, List.cons.injEq, true_and]
  congr 1
  apply List.filter_congr
  intro q _
  simp only [Function.comp, toV_cat2]
theorem lvV_set2 (i : Nat) (v : Tv) (L : List (Nat × Tv)) : lvV (setL2 i v L) = (i, toV v) :: (lvV L).filter (fun q => !(q.1 == i) && (!(q.1 == i + 1) && !(q.1 + 1 == i && q.2.category == 2))) := by
  simp only [setL2, lvV, List.map_cons, List.filter_map, List.cons.injEq, true_and]
  congr 1
  apply List.filter_congr
  intro q _
  simp only [Function.comp, toV_cat2]
theorem lvV_at {ls : Array Slot} {nL : Nat} {L : List (Nat × Tv)} (hl : lv_has ls nL (lvV L)) (i : Nat) {k : Nat} {v : Tv} (h : L[i]? = some (k, v)) : ls[k]? = some (.val (toV v)) :=
  lv_at hl i (by show (L.map _)[i]? = _; rw [List.getElem?_map, h]; rfl)
end GRA
