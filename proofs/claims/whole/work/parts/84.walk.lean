section WALK
variable {m : Nat → Nat → Nat} {u w : Nat → Int32} {n q p t x place r e : Nat} {g o nx : Nat → Nat}
/-- the answers from a place on, its rows from a row on -/
def anB (m : Nat → Nat → Nat) (u : Nat → Int32) (q e place : Nat) (g : Nat → Nat) (r : Nat) : List (Nat → Nat) := if fitM m u q (gU g place r) (withP idO place) place = true then anA m u q e (place + 1) (gU g place r) else []
def anF (m : Nat → Nat → Nat) (u : Nat → Int32) (q e place : Nat) (g : Nat → Nat) (r : Nat) : List (Nat → Nat) := (List.range' r (m 3 (tq m q place) - r)).flatMap (anB m u q e place g)
theorem anF_0 : anF m u q e place g 0 = anA m u q (e + 1) place g := by
  simp only [anF, anA, Nat.sub_zero, List.range_eq_range']
  rfl
theorem anF_s (h : r < m 3 (tq m q place)) : anF m u q e place g r = anB m u q e place g r ++ anF m u q e place g (r + 1) := by
  unfold anF
  rw [show m 3 (tq m q place) - r = (m 3 (tq m q place) - (r + 1)) + 1 by omega, List.range'_succ, List.flatMap_cons]
theorem anF_e (h : m 3 (tq m q place) ≤ r) : anF m u q e place g r = [] := by
  unfold anF
  rw [show m 3 (tq m q place) - r = 0 by omega]
  rfl
/-- the rows chosen before a place; nx x: the next row to be tried at x -/
def Gx (nx : Nat → Nat) : Nat → Nat → Nat := it_ (fun p g => gU g p (nx p - 1)) (fun _ => 0)
theorem Gx_s : Gx nx (p + 1) = gU (Gx nx p) p (nx p - 1) := rfl
theorem Gx_cong {ny : Nat → Nat} : ∀ p, (∀ x, x < p → nx x = ny x) → Gx nx p = Gx ny p
  | 0, _ => rfl
  | p + 1, h => by rw [Gx_s, Gx_s, Gx_cong p (fun x hx => h x (by omega)), h p (by omega)]
theorem Gx_at : ∀ p x, x < p → Gx nx p x = nx x - 1
  | 0, x, h => by omega
  | p + 1, x, h => by
    rw [Gx_s]
    unfold gU
    by_cases e : x = p
    · rw [if_pos e, e]
    · rw [if_neg e]; exact Gx_at p x (by omega)
/-- the answers still to come: places below p are under way -/
def rem_ (m : Nat → Nat → Nat) (u : Nat → Int32) (q n : Nat) (nx : Nat → Nat) : Nat → List (Nat → Nat)
  | 0 => []
  | p + 1 => anF m u q (n - 1 - p) p (Gx nx p) (nx p) ++ rem_ m u q n nx p
theorem rem_cong {ny : Nat → Nat} : ∀ p, (∀ x, x < p → nx x = ny x) → rem_ m u q n nx p = rem_ m u q n ny p
  | 0, _ => rfl
  | p + 1, h => by
    simp only [rem_]
    rw [rem_cong p (fun x hx => h x (by omega)), Gx_cong p (fun x hx => h x (by omega)), h p (by omega)]
theorem rem_end (h : m 3 (tq m q p) ≤ nx p) : rem_ m u q n nx (p + 1) = rem_ m u q n nx p := by
  simp only [rem_, anF_e h, List.nil_append]
theorem rem_row (h : nx p < m 3 (tq m q p)) : rem_ m u q n nx (p + 1) = anB m u q (n - 1 - p) p (Gx nx p) (nx p) ++ rem_ m u q n (gU nx p (nx p + 1)) (p + 1) := by
  simp only [rem_]
  rw [anF_s h, List.append_assoc]
  have e1 : ∀ x, x < p → gU nx p (nx p + 1) x = nx x := fun x hx => by
    unfold gU
    rw [if_neg (by omega)]
  have e2 : gU nx p (nx p + 1) p = nx p + 1 := by simp [gU]
  rw [rem_cong (nx := gU nx p (nx p + 1)) (ny := nx) p e1, Gx_cong (nx := gU nx p (nx p + 1)) (ny := nx) p e1, e2]
theorem rem_no (h : nx p < m 3 (tq m q p)) (hf : fitM m u q (gU (Gx nx p) p (nx p)) (withP idO p) p = false) : rem_ m u q n nx (p + 1) = rem_ m u q n (gU nx p (nx p + 1)) (p + 1) := by
  rw [rem_row h]
  simp [anB, hf]
theorem Gx_up : Gx (gU nx p (nx p + 1)) (p + 1) = gU (Gx nx p) p (nx p) := by
  rw [Gx_s, Gx_cong (nx := gU nx p (nx p + 1)) (ny := nx) p (fun x hx => by unfold gU; rw [if_neg (by omega)])]
  simp [gU]
theorem rem_ans (h : nx p < m 3 (tq m q p)) (hn : p + 1 = n) (hf : fitM m u q (gU (Gx nx p) p (nx p)) (withP idO p) p = true) : rem_ m u q n nx (p + 1) = Gx (gU nx p (nx p + 1)) (p + 1) :: rem_ m u q n (gU nx p (nx p + 1)) (p + 1) := by
  rw [rem_row h, Gx_up]
  simp [anB, hf, show n - 1 - p = 0 by omega, anA]
theorem rem_in (h : nx p < m 3 (tq m q p)) (hn : p + 1 < n) (h0 : nx (p + 1) = 0) (hf : fitM m u q (gU (Gx nx p) p (nx p)) (withP idO p) p = true) : rem_ m u q n nx (p + 1) = rem_ m u q n (gU nx p (nx p + 1)) (p + 2) := by
  rw [rem_row h]
  have e0 : gU nx p (nx p + 1) (p + 1) = 0 := by
    unfold gU
    rw [if_neg (by omega)]
    exact h0
  have e1 : rem_ m u q n (gU nx p (nx p + 1)) (p + 2) = anF m u q (n - 1 - (p + 1)) (p + 1) (Gx (gU nx p (nx p + 1)) (p + 1)) (gU nx p (nx p + 1) (p + 1)) ++ rem_ m u q n (gU nx p (nx p + 1)) (p + 1) := rfl
  rw [e1, e0, anF_0, Gx_up, show n - 1 - (p + 1) + 1 = n - 1 - p by omega]
  simp [anB, hf]
end WALK
