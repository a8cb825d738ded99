section ANS
variable {m : Nat → Nat → Nat} {u w : Nat → Int32} {n q p t x place F p3 e : Nat} {g o : Nat → Nat} {cc : Option Nat} {p2 : Int32} {rs : RSt} {vf : (Nat → Nat) → Int32} {es : List (Nat ⊕ (Nat → Nat))} {E : Nat → List (Nat ⊕ (Nat → Nat))}
/-- the rows chosen, of a run's events -/
def getR : List (Nat ⊕ (Nat → Nat)) → List (Nat → Nat)
  | [] => []
  | .inl _ :: es => getR es
  | .inr g :: es => g :: getR es
theorem getR_app (a b : List (Nat ⊕ (Nat → Nat))) : getR (a ++ b) = getR a ++ getR b := by
  induction a with
  | nil => rfl
  | cons x a ih => cases x <;> simp [getR, ih]
/-- the answers from a place on -/
def anA (m : Nat → Nat → Nat) (u : Nat → Int32) (q : Nat) : Nat → Nat → (Nat → Nat) → List (Nat → Nat)
  | 0, _, g => [g]
  | e + 1, place, g => (List.range (m 3 (tq m q place))).flatMap (fun r => if fitM m u q (gU g place r) (withP idO place) place = true then anA m u q e (place + 1) (gU g place r) else [])
theorem getR_pg : getR (pgE t E n) = (List.range n).flatMap (fun r => getR (E r)) := by
  induction n with
  | zero => rfl
  | succ n ih =>
    rw [pgE_s, getR_app, getR_app, ih, List.range_succ, List.flatMap_append]
    have : getR (if n % 4 = 0 then [Sum.inl (100 * t + n / 4)] else []) = [] := by split <;> rfl
    rw [this]
    simp
theorem getR_evT : ∀ e place g, getR (evT m u q e place g) = anA m u q e place g
  | 0, place, g => rfl
  | e + 1, place, g => by
    have e1 : evT m u q (e + 1) place g = pgE (tq m q place) (fun r => if fitM m u q (gU g place r) (withP idO place) place = true then evT m u q e (place + 1) (gU g place r) else []) (m 3 (tq m q place)) := rfl
    rw [e1, getR_pg]
    simp only [anA]
    congr 1
    funext r
    split
    · exact getR_evT e _ _
    · rfl
theorem fd_fold : (es.foldl (stEv cc F p2 p3 vf) rs).2.2.1 = rs.2.2.1 + (getR es).length := by
  induction es generalizing rs with
  | nil => rfl
  | cons a es ih =>
    rw [List.foldl_cons, ih]
    cases a with
    | inl k => cases cc <;> rfl
    | inr g =>
      simp only [stEv, getR, List.length_cons]
      omega
theorem sm_fold : (es.foldl (stEv cc F p2 p3 vf) rs).2.2.2.2.2.1 = (getR es).foldl (fun a g => a + (vf g).toInt64) rs.2.2.2.2.2.1 := by
  induction es generalizing rs with
  | nil => rfl
  | cons a es ih =>
    rw [List.foldl_cons, ih]
    cases a with
    | inl k => cases cc <;> rfl
    | inr g => rfl
theorem mk_fold : (es.foldl (stEv cc F p2 p3 vf) rs).2.2.2.2.1 = (getR es).foldl (fun a g => a + (enc g + 1) * (enc g + 31)) rs.2.2.2.2.1 := by
  induction es generalizing rs with
  | nil => rfl
  | cons a es ih =>
    rw [List.foldl_cons, ih]
    cases a with
    | inl k => cases cc <;> rfl
    | inr g => rfl
theorem wt_fold : (es.foldl (stEv cc F p2 p3 vf) rs).2.2.2.2.2.2 = ((getR es).foldl (fun (a : Nat × Int32) g => (a.1 + 1, if nI a.1 = p2 then nI (g p3) else a.2)) (rs.2.2.1, rs.2.2.2.2.2.2)).2 := by
  induction es generalizing rs with
  | nil => rfl
  | cons a es ih =>
    rw [List.foldl_cons, ih]
    cases a with
    | inl k => cases cc <;> rfl
    | inr g => rfl
end ANS
