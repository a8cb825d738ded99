theorem law_true {Ln : Nat} (hL : Ln ≤ 3072) (xs9 : Nat → Int32) (b : Nat) : ∃ N, w_law N Ln xs9 b (fun _ => none) := by
  sorry
