/-! LEVEL 2b, GROUND: rewriting of programs over registers; numbers; loops. -/
section PURE0
theorem u_br_t {c A B : Prop} (h : c) : br c A B = A := by
  apply propext
  exact ⟨fun x => x.1 h, fun x => ⟨fun _ => x, fun n => absurd h n⟩⟩
theorem u_br_f {c A B : Prop} (h : ¬ c) : br c A B = B := by
  apply propext
  exact ⟨fun x => x.2 h, fun x => ⟨fun n => absurd n h, fun _ => x⟩⟩
theorem u_br_True {A B : Prop} : br True A B = A := u_br_t trivial
theorem u_br_False {A B : Prop} : br False A B = B := u_br_f (fun h => h)
theorem u_br_K {α : Type} {K : α → Prop} {c : Prop} [Decidable c] {a b : α} : br c (K a) (K b) = K (if c then a else b) := by
  by_cases h : c
  · rw [u_br_t h, if_pos h]
  · rw [u_br_f h, if_neg h]
theorem u_br_K2 {α β : Type} {K : α → β → Prop} {c : Prop} [Decidable c] {a b : α} {s : β} : br c (K a s) (K b s) = K (if c then a else b) s := by
  by_cases h : c
  · rw [u_br_t h, if_pos h]
  · rw [u_br_f h, if_neg h]
theorem u_jn_u {α : Sort _} {rest : α} {T : α → Prop} : jn rest T = T rest := rfl
theorem u_lt_u {σ : St} {K : St → Prop} : lt_ σ K = K σ := rfl
theorem u_nn_s {a : Nat} {K : Nat → Prop} : nn (some a) K = K a := by
  apply propext
  exact ⟨fun ⟨b, e, h⟩ => by cases e; exact h, fun h => ⟨a, rfl, h⟩⟩
theorem u_brn_s {a : Nat} {A : Prop} {B : Nat → Prop} : brn (some a) A B = B a := by
  apply propext
  exact ⟨fun h => h.2 a rfl, fun h => ⟨fun e => (by cases e), fun b e => (by cases e; exact h)⟩⟩
theorem u_brn_n {A : Prop} {B : Nat → Prop} : brn none A B = A := by
  apply propext
  exact ⟨fun h => h.1 rfl, fun h => ⟨fun _ => h, fun b e => (by cases e)⟩⟩
theorem u_ok_t {c T : Prop} (h : c) : ok c T = T := by
  apply propext
  exact ⟨fun x => x.2, fun x => ⟨h, x⟩⟩
theorem u_dz_t {α : Type} [OfNat α 0] {y : α} {T : Prop} (h : ¬ y = 0) : dz y T = T := by
  apply propext
  exact ⟨fun x => x.2, fun x => ⟨h, x⟩⟩
theorem u_wI_n {n i : Nat} {T : Prop} (h : i < n) (hn : n < 2 ^ 31) : wI n (nI i) T = T := by
  apply propext
  exact ⟨fun x => x.2, fun x => ⟨nI_in h hn, x⟩⟩
theorem u_wA_n {n i : Nat} {σ : St} {K : St → Prop} (h : i < n) (hn : n < 2 ^ 31) : wA n (nI i) σ K = K σ := by
  apply propext
  exact ⟨fun x => x.2, fun x => ⟨nI_in h hn, x⟩⟩
theorem u_nb_0 : narrow .boolean (.int (nI 0)) = .int (nI 0) := by decide
theorem u_nb_1 : narrow .boolean (.int (nI 1)) = .int (nI 1) := by decide
theorem u_nb_if {c : Prop} [Decidable c] : narrow .boolean (.int (if c then nI 1 else nI 0)) = .int (if c then nI 1 else nI 0) := by
  by_cases h : c
  · rw [if_pos h]; exact u_nb_1
  · rw [if_neg h]; exact u_nb_0
theorem u_vn_1 : vp_nar .boolean (nI 1) = nI 1 := by decide
theorem u_vn_0 : vp_nar .boolean (nI 0) = nI 0 := by decide
theorem u_n_mul (a b : Nat) : nI a * nI b = nI (a * b) := (Int32.ofNat_mul a b).symm
theorem u_n_sub {a b : Nat} (h : b ≤ a) : nI a - nI b = nI (a - b) := by
  have e : nI a = nI (a - b) + nI b := by rw [nI_add]; congr 1; omega
  rw [e, Int32.add_sub_cancel]
theorem u_n_lt {a b : Nat} (ha : a < 2 ^ 31) (hb : b < 2 ^ 31) : (nI a < nI b) = (a < b) := propext (nI_ltI ha hb)
theorem u_n_le {a b : Nat} (ha : a < 2 ^ 31) (hb : b < 2 ^ 31) : (nI a ≤ nI b) = (a ≤ b) := propext (nI_leI ha hb)
theorem u_n_eq {a b : Nat} (ha : a < 2 ^ 31) (hb : b < 2 ^ 31) : (nI a = nI b) = (a = b) := propext (nI_eq ha hb)
theorem u_n_m1 {a : Nat} (ha : a < 2 ^ 31) : (nI a = -1) = False := by
  apply propext
  refine ⟨fun h => ?_, False.elim⟩
  have := congrArg Int32.toInt h
  rw [nI_toInt ha] at this
  have h2 : (-1 : Int32).toInt = -1 := by decide
  omega
theorem u_n_m1' {a : Nat} (ha : a < 2 ^ 31) : (-1 = nI a) = False := by
  rw [← u_n_m1 ha]
  exact propext ⟨Eq.symm, Eq.symm⟩
theorem u_n_div {a b : Nat} (ha : a < 2 ^ 31) (hb : b < 2 ^ 31) (h0 : 0 < b) : nI a / nI b = nI (a / b) := by
  apply Int32.toInt_inj.mp
  rw [Int32.toInt_div, nI_toInt ha, nI_toInt hb, nI_toInt (Nat.lt_of_le_of_lt (Nat.div_le_self a b) ha)]
  rw [Int.tdiv_eq_ediv_of_nonneg (by omega)]
  have e : (a : Int) / (b : Int) = ((a / b : Nat) : Int) := (Int.natCast_ediv a b).symm
  rw [e]
  have hb : a / b ≤ a := Nat.div_le_self a b
  generalize a / b = q at hb
  rw [Int.bmod_eq_of_le] <;> omega
theorem u_n_mod {a b : Nat} (ha : a < 2 ^ 31) (hb : b < 2 ^ 31) (h0 : 0 < b) : nI a % nI b = nI (a % b) := by
  apply Int32.toInt_inj.mp
  have hm : a % b < 2 ^ 31 := Nat.lt_of_lt_of_le (Nat.mod_lt _ h0) (by omega)
  rw [Int32.toInt_mod, nI_toInt ha, nI_toInt hb, nI_toInt hm, Int.tmod_eq_emod_of_nonneg (by omega)]
  exact (Int.natCast_emod a b).symm
/-- the nonnegative value of a register -/
def tN (x : Int32) : Nat := x.toNatClampNeg
theorem u_tN_nI {a : Nat} (h : a < 2 ^ 31) : tN (nI a) = a := nI_clamp h
theorem u_nI_or (x : Int32) : x < 0 ∨ ∃ j : Nat, j < 2 ^ 31 ∧ x = nI j := by
  by_cases h : x < 0
  · exact Or.inl h
  · exact Or.inr (nI_of h)
theorem u_neg_lt {x : Int32} {a : Nat} (h : x < 0) (ha : a < 2 ^ 31) : x < nI a := by
  rw [Int32.lt_iff_toInt_lt] at h ⊢
  rw [nI_toInt ha]
  have : (0 : Int32).toInt = 0 := by decide
  omega
theorem u_neg_nle {x : Int32} {a : Nat} (h : x < 0) (ha : a < 2 ^ 31) : ¬ nI a ≤ x := by
  have := u_neg_lt h ha
  rw [Int32.lt_iff_toInt_lt] at this
  rw [Int32.le_iff_toInt_le]
  omega
/-! loops: the index runs up from 0 to n -/
theorem for_u {σ1 : Type} {F : (Int32 → σ1 → Prop) → Int32 → σ1 → Prop} {N : Nat} (n : Nat) (hn : n < 2 ^ 31 - 1) (hN : n < N) (I : Nat → σ1 → Prop) (m : Nat) (hm : m ≤ n)
    (step : ∀ (self : Int32 → σ1 → Prop) (i : Nat) (a : σ1), i ≤ n → I i a → (∀ a', i < n → I (i + 1) a' → self (nI (i + 1)) a') → F self (nI i) a) {a0 : σ1} (h0 : I m a0) : fx2 F N (nI m) a0 := by
  refine fx2_wp (I := fun x a => ∃ i, i ≤ n ∧ x = nI i ∧ I i a) (μ := fun x _ => n - tN x) ?_ N (nI m) a0 ⟨m, hm, rfl, h0⟩ (by rw [u_tN_nI (by omega)]; omega)
  rintro self x a ⟨i, hi, rfl, hI⟩ hs
  refine step self i a hi hI (fun a' hlt hI' => hs _ _ ⟨i + 1, hlt, rfl, hI'⟩ ?_)
  rw [u_tN_nI (by omega), u_tN_nI (by omega)]
  omega
theorem for_v {σ1 : Type} {F : (σ1 → Int32 → Prop) → σ1 → Int32 → Prop} {N : Nat} (n : Nat) (hn : n < 2 ^ 31 - 1) (hN : n < N) (I : Nat → σ1 → Prop) (m : Nat) (hm : m ≤ n)
    (step : ∀ (self : σ1 → Int32 → Prop) (i : Nat) (a : σ1), i ≤ n → I i a → (∀ a', i < n → I (i + 1) a' → self a' (nI (i + 1))) → F self a (nI i)) {a0 : σ1} (h0 : I m a0) : fx2 F N a0 (nI m) := by
  refine fx2_wp (I := fun a x => ∃ i, i ≤ n ∧ x = nI i ∧ I i a) (μ := fun _ x => n - tN x) ?_ N a0 (nI m) ⟨m, hm, rfl, h0⟩ (by rw [u_tN_nI (by omega)]; omega)
  rintro self a x ⟨i, hi, rfl, hI⟩ hs
  refine step self i a hi hI (fun a' hlt hI' => hs _ _ ⟨i + 1, hlt, rfl, hI'⟩ ?_)
  rw [u_tN_nI (by omega), u_tN_nI (by omega)]
  omega
theorem for_1 {F : (Int32 → Prop) → Int32 → Prop} {N : Nat} (n : Nat) (hn : n < 2 ^ 31 - 1) (hN : n < N) (I : Nat → Prop) (m : Nat) (hm : m ≤ n)
    (step : ∀ (self : Int32 → Prop) (i : Nat), i ≤ n → I i → (i < n → I (i + 1) → self (nI (i + 1))) → F self (nI i)) (h0 : I m) : fx1 F N (nI m) := by
  refine fx1_wp (I := fun x => ∃ i, i ≤ n ∧ x = nI i ∧ I i) (μ := fun x => n - tN x) ?_ N (nI m) ⟨m, hm, rfl, h0⟩ (by rw [u_tN_nI (by omega)]; omega)
  rintro self x ⟨i, hi, rfl, hI⟩ hs
  refine step self i hi hI (fun hlt hI' => hs _ ⟨i + 1, hlt, rfl, hI'⟩ ?_)
  rw [u_tN_nI (by omega), u_tN_nI (by omega)]
  omega
/-- a loop's value -/
def it_ {β : Type} (g : Nat → β → β) (b : β) : Nat → β
  | 0 => b
  | n + 1 => g n (it_ g b n)
theorem u_it_stop {β : Type} {g : Nat → β → β} {b : β} {m : Nat} : ∀ {n : Nat}, m ≤ n → (∀ i, m ≤ i → i < n → ∀ x, g i x = x) → it_ g b n = it_ g b m
  | 0, h, _ => by rw [show m = 0 by omega]
  | n + 1, h, hg => by
    by_cases e : m = n + 1
    · rw [e]
    · show g n (it_ g b n) = _
      rw [hg n (by omega) (by omega), u_it_stop (by omega) (fun i h1 h2 => hg i h1 (by omega))]
theorem u_it_cong {β : Type} {g g' : Nat → β → β} {b : β} : ∀ {n : Nat}, (∀ i, i < n → ∀ x, g i x = g' i x) → it_ g b n = it_ g' b n
  | 0, _ => rfl
  | n + 1, h => by
    show g n (it_ g b n) = g' n (it_ g' b n)
    rw [u_it_cong (fun i hi => h i (by omega)), h n (by omega)]
end PURE0
