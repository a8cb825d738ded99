section START
theorem bd_app {h0 h h2 : Hp} {x : Nat × Ct} {D D2 : List (Nat × Ct)} (B : Bd h0 h (x :: D)) (B2 : Bd h h2 D2) : Bd h0 h2 (x :: (D ++ D2)) := by
  obtain ⟨b1, b2, b3, b4⟩ := B
  obtain ⟨c1, c2, c3, c4⟩ := B2
  have hD : ∀ y ∈ x :: D, h y.1 ≠ none := fun y hy e => by rw [b3 y hy] at e; cases e
  have hd : ∀ y ∈ x :: D, ∀ z ∈ D2, y.1 ≠ z.1 := fun y hy z hz e => hD y hy (by rw [e]; exact c2 z hz)
  refine ⟨?_, ?_, ?_, ?_⟩
  · rw [← List.cons_append, List.map_append, List.nodup_append]
    refine ⟨b1, c1, ?_⟩
    intro a ha b hb
    obtain ⟨y, hy, rfl⟩ := List.mem_map.mp ha
    obtain ⟨z, hz, rfl⟩ := List.mem_map.mp hb
    exact hd y hy z hz
  · intro y hy
    rw [← List.cons_append] at hy
    rcases List.mem_append.mp hy with hy | hy
    · exact b2 y hy
    · cases hx : h0 y.1 with
      | none => rfl
      | some v =>
        have h7 := b4 y.1 (by rw [hx]; exact fun e => by cases e)
        rw [c2 y hy, hx] at h7
        cases h7
  · intro y hy
    rw [← List.cons_append] at hy
    rcases List.mem_append.mp hy with hy | hy
    · rw [c4 _ (hD y hy)]; exact b3 y hy
    · exact c3 y hy
  · intro a ha
    have := b4 a ha
    rw [c4 a (by rw [this]; exact ha), this]
set_option maxHeartbeats 4000000 in
set_option maxRecDepth 10000 in
theorem c_X0 {N : Nat} {h : Hp} {K : Nat → Hp → Prop} (kk : ∀ (q0 r1_ : Nat) (h9 : Hp), Bd h h9 [(q0, .inr (0, [rV (some r1_), iV 4, iV 0])), (r1_, .inl (0, 12, .inl (fun _ => 0)))] → K q0 h9) : nw h 0 [rV none, iV 0, iV 0] (fun a1 h2 => w_X0_init N a1 h2 (fun h3 => K a1 h3)) := by
  refine bd_nw (bd_nil h) (fun q0 h1 B => ?_)
  unfold w_X0_init
  refine bd_nA B (fun r1_ h1 B => ?_)
  refine bd_pF B rfl (fun h1 B => ?_)
  simp only [List.set_cons_zero, List.set_cons_succ] at B
  refine bd_pF B rfl (fun h1 B => ?_)
  simp only [List.set_cons_zero, List.set_cons_succ] at B
  refine bd_pF B rfl (fun h1 B => ?_)
  simp only [List.set_cons_zero, List.set_cons_succ] at B
  exact kk q0 r1_ h1 B
set_option maxHeartbeats 4000000 in
set_option maxRecDepth 10000 in
theorem c_X5 {N : Nat} {h : Hp} {K : Nat → Hp → Prop} (kk : ∀ (q0 r5_ r4_ r3_ r2_ r1_ : Nat) (h9 : Hp), Bd h h9 [(q0, .inr (5, [iV 0, rV (some r1_), rV (some r2_), rV (some r3_), rV (some r4_), rV (some r5_), lV 0])), (r5_, .inl (0, 3, .inl (fun _ => 0))), (r4_, .inl (0, 3, .inl (fun _ => 0))), (r3_, .inl (2, 3, .inl (fun _ => 0))), (r2_, .inl (0, 3, .inl (fun _ => 0))), (r1_, .inl (0, 3, .inl (fun _ => 0)))] → K q0 h9) : nw h 5 [iV 0, rV none, rV none, rV none, rV none, rV none, lV 0] (fun a1 h2 => w_X5_init N a1 h2 (fun h3 => K a1 h3)) := by
  refine bd_nw (bd_nil h) (fun q0 h1 B => ?_)
  unfold w_X5_init
  refine bd_pF B rfl (fun h1 B => ?_)
  simp only [List.set_cons_zero, List.set_cons_succ] at B
  refine bd_nA B (fun r1_ h1 B => ?_)
  refine bd_pF B rfl (fun h1 B => ?_)
  simp only [List.set_cons_zero, List.set_cons_succ] at B
  refine bd_nA B (fun r2_ h1 B => ?_)
  refine bd_pF B rfl (fun h1 B => ?_)
  simp only [List.set_cons_zero, List.set_cons_succ] at B
  refine bd_nA B (fun r3_ h1 B => ?_)
  refine bd_pF B rfl (fun h1 B => ?_)
  simp only [List.set_cons_zero, List.set_cons_succ] at B
  refine bd_nA B (fun r4_ h1 B => ?_)
  refine bd_pF B rfl (fun h1 B => ?_)
  simp only [List.set_cons_zero, List.set_cons_succ] at B
  refine bd_nA B (fun r5_ h1 B => ?_)
  refine bd_pF B rfl (fun h1 B => ?_)
  simp only [List.set_cons_zero, List.set_cons_succ] at B
  refine bd_pF B rfl (fun h1 B => ?_)
  simp only [List.set_cons_zero, List.set_cons_succ] at B
  exact kk q0 r5_ r4_ r3_ r2_ r1_ h1 B
set_option maxHeartbeats 4000000 in
set_option maxRecDepth 10000 in
theorem c_X2 {N : Nat} {h : Hp} {K : Nat → Hp → Prop} (kk : ∀ (q0 r3_ r2_ r1_ : Nat) (h9 : Hp), Bd h h9 [(q0, .inr (2, [rV (some r1_), rV (some r2_), rV (some r3_), iV 0, iV (-1), iV 0])), (r3_, .inl (0, 1024, .inl (fun _ => 0))), (r2_, .inl (0, 2, .inl (fun _ => 0))), (r1_, .inl (0, 2, .inl (fun _ => 0)))] → K q0 h9) : nw h 2 [rV none, rV none, rV none, iV 0, iV 0, iV 0] (fun a1 h2 => w_X2_init N a1 h2 (fun h3 => K a1 h3)) := by
  refine bd_nw (bd_nil h) (fun q0 h1 B => ?_)
  unfold w_X2_init
  refine bd_nA B (fun r1_ h1 B => ?_)
  refine bd_pF B rfl (fun h1 B => ?_)
  simp only [List.set_cons_zero, List.set_cons_succ] at B
  refine bd_nA B (fun r2_ h1 B => ?_)
  refine bd_pF B rfl (fun h1 B => ?_)
  simp only [List.set_cons_zero, List.set_cons_succ] at B
  refine bd_nA B (fun r3_ h1 B => ?_)
  refine bd_pF B rfl (fun h1 B => ?_)
  simp only [List.set_cons_zero, List.set_cons_succ] at B
  refine bd_pF B rfl (fun h1 B => ?_)
  simp only [List.set_cons_zero, List.set_cons_succ] at B
  refine bd_pF B rfl (fun h1 B => ?_)
  simp only [List.set_cons_zero, List.set_cons_succ] at B
  refine bd_pF B rfl (fun h1 B => ?_)
  simp only [List.set_cons_zero, List.set_cons_succ] at B
  exact kk q0 r3_ r2_ r1_ h1 B
set_option maxHeartbeats 4000000 in
set_option maxRecDepth 10000 in
theorem c_X9 {N : Nat} {h : Hp} {K : Nat → Hp → Prop} (kk : ∀ (q0 r2_ r1_ : Nat) (h9 : Hp), Bd h h9 [(q0, .inr (9, [rV (some r1_), iV 0, rV (some r2_), iV 0])), (r2_, .inl (6, 6, .inr (.inr (.inr (.inr (fun _ => none)))))), (r1_, .inl (5, 3, .inr (.inr (.inr (.inr (fun _ => none))))))] → K q0 h9) : nw h 9 [rV none, iV 0, rV none, iV 0] (fun a1 h2 => w_X9_init N a1 h2 (fun h3 => K a1 h3)) := by
  refine bd_nw (bd_nil h) (fun q0 h1 B => ?_)
  unfold w_X9_init
  refine bd_nA B (fun r1_ h1 B => ?_)
  refine bd_pF B rfl (fun h1 B => ?_)
  simp only [List.set_cons_zero, List.set_cons_succ] at B
  refine bd_pF B rfl (fun h1 B => ?_)
  simp only [List.set_cons_zero, List.set_cons_succ] at B
  refine bd_nA B (fun r2_ h1 B => ?_)
  refine bd_pF B rfl (fun h1 B => ?_)
  simp only [List.set_cons_zero, List.set_cons_succ] at B
  refine bd_pF B rfl (fun h1 B => ?_)
  simp only [List.set_cons_zero, List.set_cons_succ] at B
  exact kk q0 r2_ r1_ h1 B
set_option maxHeartbeats 4000000 in
set_option maxRecDepth 10000 in
theorem c_X6 {N : Nat} {h : Hp} {K : Nat → Hp → Prop} (kk : ∀ (q0 r7_ r6_ r5_ r4_ r3_ r2_ q1_0 q1_1 q1_2 q1_3 q1_4 q1_5 : Nat) (h9 : Hp), Bd h h9 [(q0, .inr (6, [rV (some q1_0), rV (some r2_), rV (some r3_), rV (some r4_), rV (some r5_), rV (some r6_), rV (some r7_)])), (r7_, .inl (0, 9, .inl (fun _ => 0))), (r6_, .inl (0, 9, .inl (fun _ => 0))), (r5_, .inl (0, 3, .inl (fun _ => 0))), (r4_, .inl (0, 4, .inl (fun _ => 0))), (r3_, .inl (0, 4, .inl (fun _ => 0))), (r2_, .inl (0, 4, .inl (fun _ => 0))), (q1_0, .inr (5, [iV 0, rV (some q1_5), rV (some q1_4), rV (some q1_3), rV (some q1_2), rV (some q1_1), lV 0])), (q1_1, .inl (0, 3, .inl (fun _ => 0))), (q1_2, .inl (0, 3, .inl (fun _ => 0))), (q1_3, .inl (2, 3, .inl (fun _ => 0))), (q1_4, .inl (0, 3, .inl (fun _ => 0))), (q1_5, .inl (0, 3, .inl (fun _ => 0)))] → K q0 h9) : nw h 6 [rV none, rV none, rV none, rV none, rV none, rV none, rV none] (fun a1 h2 => w_X6_init N a1 h2 (fun h3 => K a1 h3)) := by
  refine bd_nw (bd_nil h) (fun q0 h1 B => ?_)
  unfold w_X6_init
  refine c_X5 (fun q1_0 q1_1 q1_2 q1_3 q1_4 q1_5 h1 B2 => ?_)
  replace B := bd_app B B2
  clear B2
  refine bd_pF B rfl (fun h1 B => ?_)
  simp only [List.set_cons_zero, List.set_cons_succ] at B
  refine bd_nA B (fun r2_ h1 B => ?_)
  refine bd_pF B rfl (fun h1 B => ?_)
  simp only [List.set_cons_zero, List.set_cons_succ] at B
  refine bd_nA B (fun r3_ h1 B => ?_)
  refine bd_pF B rfl (fun h1 B => ?_)
  simp only [List.set_cons_zero, List.set_cons_succ] at B
  refine bd_nA B (fun r4_ h1 B => ?_)
  refine bd_pF B rfl (fun h1 B => ?_)
  simp only [List.set_cons_zero, List.set_cons_succ] at B
  refine bd_nA B (fun r5_ h1 B => ?_)
  refine bd_pF B rfl (fun h1 B => ?_)
  simp only [List.set_cons_zero, List.set_cons_succ] at B
  refine bd_nA B (fun r6_ h1 B => ?_)
  refine bd_pF B rfl (fun h1 B => ?_)
  simp only [List.set_cons_zero, List.set_cons_succ] at B
  refine bd_nA B (fun r7_ h1 B => ?_)
  refine bd_pF B rfl (fun h1 B => ?_)
  simp only [List.set_cons_zero, List.set_cons_succ] at B
  simp only [List.nil_append, List.cons_append] at B
  exact kk q0 r7_ r6_ r5_ r4_ r3_ r2_ q1_0 q1_1 q1_2 q1_3 q1_4 q1_5 h1 B
set_option maxHeartbeats 4000000 in
set_option maxRecDepth 10000 in
theorem c_X8 {N : Nat} {h : Hp} {K : Nat → Hp → Prop} (kk : ∀ (q0 r3_ r2_ q1_0 q1_1 q1_2 q1_3 q1_4 q1_5 : Nat) (h9 : Hp), Bd h h9 [(q0, .inr (8, [rV (some q1_0), rV none, rV none, rV none, rV none, rV (some r2_), rV (some r3_), iV 0, iV 0, iV 0, lV 0, iV (-1), iV 0, iV 0, iV (-1), lV 0])), (r3_, .inl (0, 9, .inl (fun _ => 0))), (r2_, .inl (0, 3, .inl (fun _ => 0))), (q1_0, .inr (5, [iV 0, rV (some q1_5), rV (some q1_4), rV (some q1_3), rV (some q1_2), rV (some q1_1), lV 0])), (q1_1, .inl (0, 3, .inl (fun _ => 0))), (q1_2, .inl (0, 3, .inl (fun _ => 0))), (q1_3, .inl (2, 3, .inl (fun _ => 0))), (q1_4, .inl (0, 3, .inl (fun _ => 0))), (q1_5, .inl (0, 3, .inl (fun _ => 0)))] → K q0 h9) : nw h 8 [rV none, rV none, rV none, rV none, rV none, rV none, rV none, iV 0, iV 0, iV 0, lV 0, iV 0, iV 0, iV 0, iV 0, lV 0] (fun a1 h2 => w_X8_init N a1 h2 (fun h3 => K a1 h3)) := by
  refine bd_nw (bd_nil h) (fun q0 h1 B => ?_)
  unfold w_X8_init
  refine c_X5 (fun q1_0 q1_1 q1_2 q1_3 q1_4 q1_5 h1 B2 => ?_)
  replace B := bd_app B B2
  clear B2
  refine bd_pF B rfl (fun h1 B => ?_)
  simp only [List.set_cons_zero, List.set_cons_succ] at B
  refine bd_pF B rfl (fun h1 B => ?_)
  simp only [List.set_cons_zero, List.set_cons_succ] at B
  refine bd_pF B rfl (fun h1 B => ?_)
  simp only [List.set_cons_zero, List.set_cons_succ] at B
  refine bd_pF B rfl (fun h1 B => ?_)
  simp only [List.set_cons_zero, List.set_cons_succ] at B
  refine bd_pF B rfl (fun h1 B => ?_)
  simp only [List.set_cons_zero, List.set_cons_succ] at B
  refine bd_nA B (fun r2_ h1 B => ?_)
  refine bd_pF B rfl (fun h1 B => ?_)
  simp only [List.set_cons_zero, List.set_cons_succ] at B
  refine bd_nA B (fun r3_ h1 B => ?_)
  refine bd_pF B rfl (fun h1 B => ?_)
  simp only [List.set_cons_zero, List.set_cons_succ] at B
  refine bd_pF B rfl (fun h1 B => ?_)
  simp only [List.set_cons_zero, List.set_cons_succ] at B
  refine bd_pF B rfl (fun h1 B => ?_)
  simp only [List.set_cons_zero, List.set_cons_succ] at B
  refine bd_pF B rfl (fun h1 B => ?_)
  simp only [List.set_cons_zero, List.set_cons_succ] at B
  refine bd_pF B rfl (fun h1 B => ?_)
  simp only [List.set_cons_zero, List.set_cons_succ] at B
  refine bd_pF B rfl (fun h1 B => ?_)
  simp only [List.set_cons_zero, List.set_cons_succ] at B
  refine bd_pF B rfl (fun h1 B => ?_)
  simp only [List.set_cons_zero, List.set_cons_succ] at B
  refine bd_pF B rfl (fun h1 B => ?_)
  simp only [List.set_cons_zero, List.set_cons_succ] at B
  refine bd_pF B rfl (fun h1 B => ?_)
  simp only [List.set_cons_zero, List.set_cons_succ] at B
  refine bd_pF B rfl (fun h1 B => ?_)
  simp only [List.set_cons_zero, List.set_cons_succ] at B
  simp only [List.nil_append, List.cons_append] at B
  exact kk q0 r3_ r2_ q1_0 q1_1 q1_2 q1_3 q1_4 q1_5 h1 B
set_option maxHeartbeats 4000000 in
set_option maxRecDepth 10000 in
theorem c_X11 {N : Nat} {h : Hp} {K : Nat → Hp → Prop} (kk : ∀ (q0 r2_ q1_0 q1_1 q1_2 q3_0 q3_1 q4_0 q4_1 q5_0 q5_1 q5_2 q5_3 q5_4 q5_5 q5_6 q5_7 q5_8 q5_9 q5_10 q5_11 q5_12 q6_0 q6_1 q6_2 q6_3 q6_4 q6_5 q6_6 q6_7 q6_8 q7_0 q7_1 q7_2 q7_3 q7_4 q7_5 q8_0 q8_1 q8_2 q8_3 q8_4 q8_5 q9_0 q9_1 q9_2 q9_3 q9_4 q9_5 q10_0 q10_1 q10_2 q10_3 : Nat) (h9 : Hp), Bd h h9 [(q0, .inr (11, [rV (some q1_0), rV (some r2_), iV 0, rV (some q3_0), rV (some q4_0), rV (some q5_0), rV (some q6_0), rV (some q7_0), rV (some q8_0), rV (some q9_0), rV none, rV (some q10_0)])), (r2_, .inl (7, 8, .inr (.inr (.inr (.inr (fun _ => none)))))), (q1_0, .inr (9, [rV (some q1_2), iV 0, rV (some q1_1), iV 0])), (q1_1, .inl (6, 6, .inr (.inr (.inr (.inr (fun _ => none)))))), (q1_2, .inl (5, 3, .inr (.inr (.inr (.inr (fun _ => none)))))), (q3_0, .inr (0, [rV (some q3_1), iV 4, iV 0])), (q3_1, .inl (0, 12, .inl (fun _ => 0))), (q4_0, .inr (0, [rV (some q4_1), iV 4, iV 0])), (q4_1, .inl (0, 12, .inl (fun _ => 0))), (q5_0, .inr (6, [rV (some q5_7), rV (some q5_6), rV (some q5_5), rV (some q5_4), rV (some q5_3), rV (some q5_2), rV (some q5_1)])), (q5_1, .inl (0, 9, .inl (fun _ => 0))), (q5_2, .inl (0, 9, .inl (fun _ => 0))), (q5_3, .inl (0, 3, .inl (fun _ => 0))), (q5_4, .inl (0, 4, .inl (fun _ => 0))), (q5_5, .inl (0, 4, .inl (fun _ => 0))), (q5_6, .inl (0, 4, .inl (fun _ => 0))), (q5_7, .inr (5, [iV 0, rV (some q5_12), rV (some q5_11), rV (some q5_10), rV (some q5_9), rV (some q5_8), lV 0])), (q5_8, .inl (0, 3, .inl (fun _ => 0))), (q5_9, .inl (0, 3, .inl (fun _ => 0))), (q5_10, .inl (2, 3, .inl (fun _ => 0))), (q5_11, .inl (0, 3, .inl (fun _ => 0))), (q5_12, .inl (0, 3, .inl (fun _ => 0))), (q6_0, .inr (8, [rV (some q6_3), rV none, rV none, rV none, rV none, rV (some q6_2), rV (some q6_1), iV 0, iV 0, iV 0, lV 0, iV (-1), iV 0, iV 0, iV (-1), lV 0])), (q6_1, .inl (0, 9, .inl (fun _ => 0))), (q6_2, .inl (0, 3, .inl (fun _ => 0))), (q6_3, .inr (5, [iV 0, rV (some q6_8), rV (some q6_7), rV (some q6_6), rV (some q6_5), rV (some q6_4), lV 0])), (q6_4, .inl (0, 3, .inl (fun _ => 0))), (q6_5, .inl (0, 3, .inl (fun _ => 0))), (q6_6, .inl (2, 3, .inl (fun _ => 0))), (q6_7, .inl (0, 3, .inl (fun _ => 0))), (q6_8, .inl (0, 3, .inl (fun _ => 0))), (q7_0, .inr (5, [iV 0, rV (some q7_5), rV (some q7_4), rV (some q7_3), rV (some q7_2), rV (some q7_1), lV 0])), (q7_1, .inl (0, 3, .inl (fun _ => 0))), (q7_2, .inl (0, 3, .inl (fun _ => 0))), (q7_3, .inl (2, 3, .inl (fun _ => 0))), (q7_4, .inl (0, 3, .inl (fun _ => 0))), (q7_5, .inl (0, 3, .inl (fun _ => 0))), (q8_0, .inr (5, [iV 0, rV (some q8_5), rV (some q8_4), rV (some q8_3), rV (some q8_2), rV (some q8_1), lV 0])), (q8_1, .inl (0, 3, .inl (fun _ => 0))), (q8_2, .inl (0, 3, .inl (fun _ => 0))), (q8_3, .inl (2, 3, .inl (fun _ => 0))), (q8_4, .inl (0, 3, .inl (fun _ => 0))), (q8_5, .inl (0, 3, .inl (fun _ => 0))), (q9_0, .inr (5, [iV 0, rV (some q9_5), rV (some q9_4), rV (some q9_3), rV (some q9_2), rV (some q9_1), lV 0])), (q9_1, .inl (0, 3, .inl (fun _ => 0))), (q9_2, .inl (0, 3, .inl (fun _ => 0))), (q9_3, .inl (2, 3, .inl (fun _ => 0))), (q9_4, .inl (0, 3, .inl (fun _ => 0))), (q9_5, .inl (0, 3, .inl (fun _ => 0))), (q10_0, .inr (2, [rV (some q10_3), rV (some q10_2), rV (some q10_1), iV 0, iV (-1), iV 0])), (q10_1, .inl (0, 1024, .inl (fun _ => 0))), (q10_2, .inl (0, 2, .inl (fun _ => 0))), (q10_3, .inl (0, 2, .inl (fun _ => 0)))] → K q0 h9) : nw h 11 [rV none, rV none, iV 0, rV none, rV none, rV none, rV none, rV none, rV none, rV none, rV none, rV none] (fun a1 h2 => w_X11_init N a1 h2 (fun h3 => K a1 h3)) := by
  refine bd_nw (bd_nil h) (fun q0 h1 B => ?_)
  unfold w_X11_init
  refine c_X9 (fun q1_0 q1_1 q1_2 h1 B2 => ?_)
  replace B := bd_app B B2
  clear B2
  refine bd_pF B rfl (fun h1 B => ?_)
  simp only [List.set_cons_zero, List.set_cons_succ] at B
  refine bd_nA B (fun r2_ h1 B => ?_)
  refine bd_pF B rfl (fun h1 B => ?_)
  simp only [List.set_cons_zero, List.set_cons_succ] at B
  refine bd_pF B rfl (fun h1 B => ?_)
  simp only [List.set_cons_zero, List.set_cons_succ] at B
  refine c_X0 (fun q3_0 q3_1 h1 B2 => ?_)
  replace B := bd_app B B2
  clear B2
  refine bd_pF B rfl (fun h1 B => ?_)
  simp only [List.set_cons_zero, List.set_cons_succ] at B
  refine c_X0 (fun q4_0 q4_1 h1 B2 => ?_)
  replace B := bd_app B B2
  clear B2
  refine bd_pF B rfl (fun h1 B => ?_)
  simp only [List.set_cons_zero, List.set_cons_succ] at B
  refine c_X6 (fun q5_0 q5_1 q5_2 q5_3 q5_4 q5_5 q5_6 q5_7 q5_8 q5_9 q5_10 q5_11 q5_12 h1 B2 => ?_)
  replace B := bd_app B B2
  clear B2
  refine bd_pF B rfl (fun h1 B => ?_)
  simp only [List.set_cons_zero, List.set_cons_succ] at B
  refine c_X8 (fun q6_0 q6_1 q6_2 q6_3 q6_4 q6_5 q6_6 q6_7 q6_8 h1 B2 => ?_)
  replace B := bd_app B B2
  clear B2
  refine bd_pF B rfl (fun h1 B => ?_)
  simp only [List.set_cons_zero, List.set_cons_succ] at B
  refine c_X5 (fun q7_0 q7_1 q7_2 q7_3 q7_4 q7_5 h1 B2 => ?_)
  replace B := bd_app B B2
  clear B2
  refine bd_pF B rfl (fun h1 B => ?_)
  simp only [List.set_cons_zero, List.set_cons_succ] at B
  refine c_X5 (fun q8_0 q8_1 q8_2 q8_3 q8_4 q8_5 h1 B2 => ?_)
  replace B := bd_app B B2
  clear B2
  refine bd_pF B rfl (fun h1 B => ?_)
  simp only [List.set_cons_zero, List.set_cons_succ] at B
  refine c_X5 (fun q9_0 q9_1 q9_2 q9_3 q9_4 q9_5 h1 B2 => ?_)
  replace B := bd_app B B2
  clear B2
  refine bd_pF B rfl (fun h1 B => ?_)
  simp only [List.set_cons_zero, List.set_cons_succ] at B
  refine bd_pF B rfl (fun h1 B => ?_)
  simp only [List.set_cons_zero, List.set_cons_succ] at B
  refine c_X2 (fun q10_0 q10_1 q10_2 q10_3 h1 B2 => ?_)
  replace B := bd_app B B2
  clear B2
  refine bd_pF B rfl (fun h1 B => ?_)
  simp only [List.set_cons_zero, List.set_cons_succ] at B
  simp only [List.nil_append, List.cons_append] at B
  exact kk q0 r2_ q1_0 q1_1 q1_2 q3_0 q3_1 q4_0 q4_1 q5_0 q5_1 q5_2 q5_3 q5_4 q5_5 q5_6 q5_7 q5_8 q5_9 q5_10 q5_11 q5_12 q6_0 q6_1 q6_2 q6_3 q6_4 q6_5 q6_6 q6_7 q6_8 q7_0 q7_1 q7_2 q7_3 q7_4 q7_5 q8_0 q8_1 q8_2 q8_3 q8_4 q8_5 q9_0 q9_1 q9_2 q9_3 q9_4 q9_5 q10_0 q10_1 q10_2 q10_3 h1 B
set_option maxHeartbeats 4000000 in
set_option maxRecDepth 10000 in
theorem c_X12 {N : Nat} {h : Hp} {K : Nat → Hp → Prop} (kk : ∀ (q0 r42_ r41_ r40_ r39_ r38_ r37_ r36_ r35_ r34_ r33_ r32_ r31_ r30_ r29_ r28_ r27_ r26_ r25_ r24_ r23_ r22_ r21_ r20_ r19_ r18_ r17_ r16_ r15_ r14_ r13_ r12_ r11_ r10_ r9_ r8_ r7_ r6_ r5_ r4_ r3_ r2_ r1_ : Nat) (h9 : Hp), Bd h h9 [(q0, .inr (12, [iV 0, iV 0, rV (some r1_), rV (some r2_), rV (some r3_), rV (some r4_), rV (some r5_), rV (some r6_), rV (some r7_), rV (some r8_), rV (some r9_), rV (some r10_), rV (some r11_), iV 0, rV (some r12_), rV (some r13_), iV 0, rV (some r14_), rV (some r15_), iV 4, rV (some r16_), rV (some r17_), iV 0, iV 0, iV 0, rV (some r18_), rV (some r19_), rV (some r20_), rV (some r21_), rV (some r22_), rV (some r23_), rV (some r24_), rV (some r25_), rV (some r26_), rV (some r27_), rV (some r28_), rV (some r29_), rV (some r30_), iV 0, rV (some r31_), rV (some r32_), rV (some r33_), rV (some r34_), rV (some r35_), rV (some r36_), iV 0, rV (some r37_), rV (some r38_), rV (some r39_), iV 0, iV 0, rV (some r40_), iV 0, rV (some r41_), rV (some r42_), iV 0])), (r42_, .inl (0, 2, .inl (fun _ => 0))), (r41_, .inl (0, 1200, .inl (fun _ => 0))), (r40_, .inl (0, 2, .inl (fun _ => 0))), (r39_, .inl (0, 3, .inl (fun _ => 0))), (r38_, .inl (0, 3, .inl (fun _ => 0))), (r37_, .inl (0, 2, .inl (fun _ => 0))), (r36_, .inl (0, 3, .inl (fun _ => 0))), (r35_, .inl (0, 3, .inl (fun _ => 0))), (r34_, .inl (0, 3, .inl (fun _ => 0))), (r33_, .inl (0, 3, .inl (fun _ => 0))), (r32_, .inl (0, 3, .inl (fun _ => 0))), (r31_, .inl (0, 3, .inl (fun _ => 0))), (r30_, .inl (0, 3, .inl (fun _ => 0))), (r29_, .inl (0, 24, .inl (fun _ => 0))), (r28_, .inl (0, 24, .inl (fun _ => 0))), (r27_, .inl (0, 24, .inl (fun _ => 0))), (r26_, .inl (0, 24, .inl (fun _ => 0))), (r25_, .inl (0, 8, .inl (fun _ => 0))), (r24_, .inl (0, 32, .inl (fun _ => 0))), (r23_, .inl (0, 32, .inl (fun _ => 0))), (r22_, .inl (0, 32, .inl (fun _ => 0))), (r21_, .inl (0, 32, .inl (fun _ => 0))), (r20_, .inl (0, 8, .inl (fun _ => 0))), (r19_, .inl (0, 24, .inl (fun _ => 0))), (r18_, .inl (0, 8, .inl (fun _ => 0))), (r17_, .inl (0, 2, .inl (fun _ => 0))), (r16_, .inl (0, 26, .inl (fun _ => 0))), (r15_, .inl (0, 6, .inl (fun _ => 0))), (r14_, .inl (0, 240, .inl (fun _ => 0))), (r13_, .inl (0, 6, .inl (fun _ => 0))), (r12_, .inl (0, 6, .inl (fun _ => 0))), (r11_, .inl (0, 9, .inl (fun _ => 0))), (r10_, .inl (0, 9, .inl (fun _ => 0))), (r9_, .inl (0, 9, .inl (fun _ => 0))), (r8_, .inl (0, 3, .inl (fun _ => 0))), (r7_, .inl (0, 3, .inl (fun _ => 0))), (r6_, .inl (0, 9, .inl (fun _ => 0))), (r5_, .inl (0, 9, .inl (fun _ => 0))), (r4_, .inl (0, 360, .inl (fun _ => 0))), (r3_, .inl (1, 120, .inl (fun _ => 0))), (r2_, .inl (0, 3, .inl (fun _ => 0))), (r1_, .inl (0, 3, .inl (fun _ => 0)))] → K q0 h9) : nw h 12 [iV 0, iV 0, rV none, rV none, rV none, rV none, rV none, rV none, rV none, rV none, rV none, rV none, rV none, iV 0, rV none, rV none, iV 0, rV none, rV none, iV 0, rV none, rV none, iV 0, iV 0, iV 0, rV none, rV none, rV none, rV none, rV none, rV none, rV none, rV none, rV none, rV none, rV none, rV none, rV none, iV 0, rV none, rV none, rV none, rV none, rV none, rV none, iV 0, rV none, rV none, rV none, iV 0, iV 0, rV none, iV 0, rV none, rV none, iV 0] (fun a1 h2 => w_X12_init N a1 h2 (fun h3 => K a1 h3)) := by
  refine bd_nw (bd_nil h) (fun q0 h1 B => ?_)
  unfold w_X12_init
  refine bd_nA B (fun r1_ h1 B => ?_)
  refine bd_pF B rfl (fun h1 B => ?_)
  simp only [List.set_cons_zero, List.set_cons_succ] at B
  refine bd_nA B (fun r2_ h1 B => ?_)
  refine bd_pF B rfl (fun h1 B => ?_)
  simp only [List.set_cons_zero, List.set_cons_succ] at B
  refine bd_nA B (fun r3_ h1 B => ?_)
  refine bd_pF B rfl (fun h1 B => ?_)
  simp only [List.set_cons_zero, List.set_cons_succ] at B
  refine bd_nA B (fun r4_ h1 B => ?_)
  refine bd_pF B rfl (fun h1 B => ?_)
  simp only [List.set_cons_zero, List.set_cons_succ] at B
  refine bd_nA B (fun r5_ h1 B => ?_)
  refine bd_pF B rfl (fun h1 B => ?_)
  simp only [List.set_cons_zero, List.set_cons_succ] at B
  refine bd_nA B (fun r6_ h1 B => ?_)
  refine bd_pF B rfl (fun h1 B => ?_)
  simp only [List.set_cons_zero, List.set_cons_succ] at B
  refine bd_nA B (fun r7_ h1 B => ?_)
  refine bd_pF B rfl (fun h1 B => ?_)
  simp only [List.set_cons_zero, List.set_cons_succ] at B
  refine bd_nA B (fun r8_ h1 B => ?_)
  refine bd_pF B rfl (fun h1 B => ?_)
  simp only [List.set_cons_zero, List.set_cons_succ] at B
  refine bd_nA B (fun r9_ h1 B => ?_)
  refine bd_pF B rfl (fun h1 B => ?_)
  simp only [List.set_cons_zero, List.set_cons_succ] at B
  refine bd_nA B (fun r10_ h1 B => ?_)
  refine bd_pF B rfl (fun h1 B => ?_)
  simp only [List.set_cons_zero, List.set_cons_succ] at B
  refine bd_nA B (fun r11_ h1 B => ?_)
  refine bd_pF B rfl (fun h1 B => ?_)
  simp only [List.set_cons_zero, List.set_cons_succ] at B
  refine bd_nA B (fun r12_ h1 B => ?_)
  refine bd_pF B rfl (fun h1 B => ?_)
  simp only [List.set_cons_zero, List.set_cons_succ] at B
  refine bd_nA B (fun r13_ h1 B => ?_)
  refine bd_pF B rfl (fun h1 B => ?_)
  simp only [List.set_cons_zero, List.set_cons_succ] at B
  refine bd_nA B (fun r14_ h1 B => ?_)
  refine bd_pF B rfl (fun h1 B => ?_)
  simp only [List.set_cons_zero, List.set_cons_succ] at B
  refine bd_nA B (fun r15_ h1 B => ?_)
  refine bd_pF B rfl (fun h1 B => ?_)
  simp only [List.set_cons_zero, List.set_cons_succ] at B
  refine bd_pF B rfl (fun h1 B => ?_)
  simp only [List.set_cons_zero, List.set_cons_succ] at B
  refine bd_nA B (fun r16_ h1 B => ?_)
  refine bd_pF B rfl (fun h1 B => ?_)
  simp only [List.set_cons_zero, List.set_cons_succ] at B
  refine bd_nA B (fun r17_ h1 B => ?_)
  refine bd_pF B rfl (fun h1 B => ?_)
  simp only [List.set_cons_zero, List.set_cons_succ] at B
  refine bd_nA B (fun r18_ h1 B => ?_)
  refine bd_pF B rfl (fun h1 B => ?_)
  simp only [List.set_cons_zero, List.set_cons_succ] at B
  refine bd_nA B (fun r19_ h1 B => ?_)
  refine bd_pF B rfl (fun h1 B => ?_)
  simp only [List.set_cons_zero, List.set_cons_succ] at B
  refine bd_nA B (fun r20_ h1 B => ?_)
  refine bd_pF B rfl (fun h1 B => ?_)
  simp only [List.set_cons_zero, List.set_cons_succ] at B
  refine bd_nA B (fun r21_ h1 B => ?_)
  refine bd_pF B rfl (fun h1 B => ?_)
  simp only [List.set_cons_zero, List.set_cons_succ] at B
  refine bd_nA B (fun r22_ h1 B => ?_)
  refine bd_pF B rfl (fun h1 B => ?_)
  simp only [List.set_cons_zero, List.set_cons_succ] at B
  refine bd_nA B (fun r23_ h1 B => ?_)
  refine bd_pF B rfl (fun h1 B => ?_)
  simp only [List.set_cons_zero, List.set_cons_succ] at B
  refine bd_nA B (fun r24_ h1 B => ?_)
  refine bd_pF B rfl (fun h1 B => ?_)
  simp only [List.set_cons_zero, List.set_cons_succ] at B
  refine bd_nA B (fun r25_ h1 B => ?_)
  refine bd_pF B rfl (fun h1 B => ?_)
  simp only [List.set_cons_zero, List.set_cons_succ] at B
  refine bd_nA B (fun r26_ h1 B => ?_)
  refine bd_pF B rfl (fun h1 B => ?_)
  simp only [List.set_cons_zero, List.set_cons_succ] at B
  refine bd_nA B (fun r27_ h1 B => ?_)
  refine bd_pF B rfl (fun h1 B => ?_)
  simp only [List.set_cons_zero, List.set_cons_succ] at B
  refine bd_nA B (fun r28_ h1 B => ?_)
  refine bd_pF B rfl (fun h1 B => ?_)
  simp only [List.set_cons_zero, List.set_cons_succ] at B
  refine bd_nA B (fun r29_ h1 B => ?_)
  refine bd_pF B rfl (fun h1 B => ?_)
  simp only [List.set_cons_zero, List.set_cons_succ] at B
  refine bd_nA B (fun r30_ h1 B => ?_)
  refine bd_pF B rfl (fun h1 B => ?_)
  simp only [List.set_cons_zero, List.set_cons_succ] at B
  refine bd_nA B (fun r31_ h1 B => ?_)
  refine bd_pF B rfl (fun h1 B => ?_)
  simp only [List.set_cons_zero, List.set_cons_succ] at B
  refine bd_nA B (fun r32_ h1 B => ?_)
  refine bd_pF B rfl (fun h1 B => ?_)
  simp only [List.set_cons_zero, List.set_cons_succ] at B
  refine bd_nA B (fun r33_ h1 B => ?_)
  refine bd_pF B rfl (fun h1 B => ?_)
  simp only [List.set_cons_zero, List.set_cons_succ] at B
  refine bd_nA B (fun r34_ h1 B => ?_)
  refine bd_pF B rfl (fun h1 B => ?_)
  simp only [List.set_cons_zero, List.set_cons_succ] at B
  refine bd_nA B (fun r35_ h1 B => ?_)
  refine bd_pF B rfl (fun h1 B => ?_)
  simp only [List.set_cons_zero, List.set_cons_succ] at B
  refine bd_nA B (fun r36_ h1 B => ?_)
  refine bd_pF B rfl (fun h1 B => ?_)
  simp only [List.set_cons_zero, List.set_cons_succ] at B
  refine bd_nA B (fun r37_ h1 B => ?_)
  refine bd_pF B rfl (fun h1 B => ?_)
  simp only [List.set_cons_zero, List.set_cons_succ] at B
  refine bd_nA B (fun r38_ h1 B => ?_)
  refine bd_pF B rfl (fun h1 B => ?_)
  simp only [List.set_cons_zero, List.set_cons_succ] at B
  refine bd_nA B (fun r39_ h1 B => ?_)
  refine bd_pF B rfl (fun h1 B => ?_)
  simp only [List.set_cons_zero, List.set_cons_succ] at B
  refine bd_nA B (fun r40_ h1 B => ?_)
  refine bd_pF B rfl (fun h1 B => ?_)
  simp only [List.set_cons_zero, List.set_cons_succ] at B
  refine bd_nA B (fun r41_ h1 B => ?_)
  refine bd_pF B rfl (fun h1 B => ?_)
  simp only [List.set_cons_zero, List.set_cons_succ] at B
  refine bd_nA B (fun r42_ h1 B => ?_)
  refine bd_pF B rfl (fun h1 B => ?_)
  simp only [List.set_cons_zero, List.set_cons_succ] at B
  exact kk q0 r42_ r41_ r40_ r39_ r38_ r37_ r36_ r35_ r34_ r33_ r32_ r31_ r30_ r29_ r28_ r27_ r26_ r25_ r24_ r23_ r22_ r21_ r20_ r19_ r18_ r17_ r16_ r15_ r14_ r13_ r12_ r11_ r10_ r9_ r8_ r7_ r6_ r5_ r4_ r3_ r2_ r1_ h1 B
def V1 : Nat → Nat := fun k => if k = 0 then 2 else if k = 2 then 1 else if k = 5 then 5 else if k = 6 then 1 else if k = 8 then 1 else if k = 9 then 1 else if k = 11 then 1 else if k = 12 then 1 else if k = 13 then 1 else if k = 14 then 1 else 0
def q1 (k i f j : Nat) : Option Nat := if k = 11 ∧ j = 0 then (if f = 0 then some 0 else if f = 3 then some 0 else if f = 4 then some 1 else if f = 5 then some 0 else if f = 6 then some 0 else if f = 7 then some 2 else if f = 8 then some 3 else if f = 9 then some 4 else if f = 11 then some 0 else none) else if k = 6 ∧ f = 0 ∧ j = 0 then some 0 else if k = 8 ∧ f = 0 ∧ j = 0 then some 1 else none
def p1_ (k f : Nat) : Int32 := if k = 0 ∧ f = 1 then 4 else if k = 8 ∧ f = 11 then -1 else if k = 8 ∧ f = 14 then -1 else if k = 2 ∧ f = 4 then -1 else if k = 12 ∧ f = 19 then 4 else 0
def σ1 : St := (fun k _ f _ => p1_ k f, fun _ _ _ _ => 0, fun k i f j => q1 k i f j, fun _ => 0, V1)
def pr2 (a b : Nat) : Nat := 2 ^ a * (2 * b + 1)
theorem pr2_inj : ∀ {a b c d : Nat}, pr2 a b = pr2 c d → a = c ∧ b = d
  | 0, b, 0, d, h => ⟨rfl, by simp only [pr2, Nat.pow_zero, Nat.one_mul] at h; omega⟩
  | 0, b, c + 1, d, h => by
    simp only [pr2, Nat.pow_zero, Nat.one_mul, Nat.pow_succ, Nat.mul_assoc] at h
    rw [Nat.mul_left_comm] at h
    omega
  | a + 1, b, 0, d, h => by
    simp only [pr2, Nat.pow_zero, Nat.one_mul, Nat.pow_succ, Nat.mul_assoc] at h
    rw [Nat.mul_left_comm] at h
    omega
  | a + 1, b, c + 1, d, h => by
    have h2 : pr2 a b = pr2 c d := by
      simp only [pr2, Nat.pow_succ, Nat.mul_assoc] at h ⊢
      rw [Nat.mul_left_comm, Nat.mul_left_comm (2 ^ c)] at h
      omega
    have h3 := pr2_inj h2
    exact ⟨by rw [h3.1], h3.2⟩
theorem ad_all : ∀ (L : List ((Nat × Nat × Nat) × Nat)), (L.map Prod.fst).Nodup → (L.map Prod.snd).Nodup →
    ∃ ad : Nat → Nat → Nat → Nat, (∀ k i f k' i' f', ad k i f = ad k' i' f' → k = k' ∧ i = i' ∧ f = f') ∧ ∀ x ∈ L, ad x.1.1 x.1.2.1 x.1.2.2 = x.2
  | [], _, _ => ⟨fun k i f => pr2 k (pr2 i f), fun k i f k' i' f' h => ⟨(pr2_inj h).1, pr2_inj (pr2_inj h).2⟩, fun x hx => absurd hx List.not_mem_nil⟩
  | x :: L, h1, h2 => by
    simp only [List.map_cons, List.nodup_cons] at h1 h2
    obtain ⟨ad1, i1, e1⟩ := ad_all L h1.2 h2.2
    refine ⟨fun k' i' f' => if ad1 k' i' f' = ad1 x.1.1 x.1.2.1 x.1.2.2 then x.2 else if ad1 k' i' f' = x.2 then ad1 x.1.1 x.1.2.1 x.1.2.2 else ad1 k' i' f', ?_, ?_⟩
    · intro k1 i1' f1 k2 i2 f2 h
      exact i1 _ _ _ _ _ _ (sw_inj h)
    · intro y hy
      rcases List.mem_cons.mp hy with rfl | hy
      · simp
      · have hne : y.1 ≠ x.1 := fun e => h1.1 (List.mem_map.mpr ⟨y, hy, e⟩)
        have hne2 : y.2 ≠ x.2 := fun e => h2.1 (List.mem_map.mpr ⟨y, hy, e⟩)
        have a1 : ad1 y.1.1 y.1.2.1 y.1.2.2 ≠ ad1 x.1.1 x.1.2.1 x.1.2.2 := fun e => hne (by
          have := i1 _ _ _ _ _ _ e
          exact Prod.ext this.1 (Prod.ext this.2.1 this.2.2))
        have a2 : ad1 y.1.1 y.1.2.1 y.1.2.2 ≠ x.2 := by rw [e1 y hy]; exact hne2
        simp only [if_neg a1, if_neg a2]
        exact e1 y hy
def objL : List (Nat × Nat) := [(11, 0), (9, 0), (0, 0), (0, 1), (6, 0), (5, 0), (8, 0), (5, 1), (5, 2), (5, 3), (5, 4), (2, 0), (12, 0)]
def arrL : List (Nat × Nat × Nat) := [(11, 0, 1), (9, 0, 2), (9, 0, 0), (0, 0, 0), (0, 1, 0), (6, 0, 6), (6, 0, 5), (6, 0, 4), (6, 0, 3), (6, 0, 2), (6, 0, 1), (5, 0, 5), (5, 0, 4), (5, 0, 3), (5, 0, 2), (5, 0, 1), (8, 0, 6), (8, 0, 5), (5, 1, 5), (5, 1, 4), (5, 1, 3), (5, 1, 2), (5, 1, 1), (5, 2, 5), (5, 2, 4), (5, 2, 3), (5, 2, 2), (5, 2, 1), (5, 3, 5), (5, 3, 4), (5, 3, 3), (5, 3, 2), (5, 3, 1), (5, 4, 5), (5, 4, 4), (5, 4, 3), (5, 4, 2), (5, 4, 1), (2, 0, 2), (2, 0, 1), (2, 0, 0), (12, 0, 54), (12, 0, 53), (12, 0, 51), (12, 0, 48), (12, 0, 47), (12, 0, 46), (12, 0, 44), (12, 0, 43), (12, 0, 42), (12, 0, 41), (12, 0, 40), (12, 0, 39), (12, 0, 37), (12, 0, 36), (12, 0, 35), (12, 0, 34), (12, 0, 33), (12, 0, 32), (12, 0, 31), (12, 0, 30), (12, 0, 29), (12, 0, 28), (12, 0, 27), (12, 0, 26), (12, 0, 25), (12, 0, 21), (12, 0, 20), (12, 0, 18), (12, 0, 17), (12, 0, 15), (12, 0, 14), (12, 0, 12), (12, 0, 11), (12, 0, 10), (12, 0, 9), (12, 0, 8), (12, 0, 7), (12, 0, 6), (12, 0, 5), (12, 0, 4), (12, 0, 3), (12, 0, 2), (13, 0, 0), (14, 0, 0)]
theorem objL_mem (k : Nat) (hk : k < 13) (i : Nat) (hi : i < V1 k) : (k, i) ∈ objL := by
  have h1 : (List.range 13).all (fun k => (List.range (V1 k)).all (fun i => objL.contains (k, i))) = true := by decide +kernel
  have h2 := List.all_eq_true.mp (List.all_eq_true.mp h1 k (List.mem_range.mpr hk)) i (List.mem_range.mpr hi)
  simpa using h2
theorem arrL_mem (k : Nat) (hk : k < 15) (i : Nat) (hi : i < V1 k) (f : Nat) (hf : f < nf k) (hA : isA k f = true) : (k, i, f) ∈ arrL := by
  have h1 : (List.range 15).all (fun k => (List.range (V1 k)).all (fun i => (List.range (nf k)).all (fun f => !(isA k f) || arrL.contains (k, i, f)))) = true := by decide +kernel
  have h2 := List.all_eq_true.mp (List.all_eq_true.mp (List.all_eq_true.mp h1 k (List.mem_range.mpr hk)) i (List.mem_range.mpr hi)) f (List.mem_range.mpr hf)
  rw [hA] at h2
  simpa using h2
set_option maxHeartbeats 8000000 in
set_option maxRecDepth 20000 in
theorem wf_start (x0_ x1_ x2_ x3_ x4_ x5_ x6_ x7_ x8_ x9_ x10_ x11_ x12_ x13_ x14_ x15_ x16_ x17_ x18_ x19_ x20_ x21_ x22_ x23_ x24_ x25_ x26_ x27_ x28_ x29_ x30_ x31_ x32_ x33_ x34_ x35_ x36_ x37_ x38_ x39_ x40_ x41_ x42_ x43_ x44_ x45_ x46_ x47_ x48_ x49_ x50_ x51_ x52_ m0_ m1_ m2_ m3_ m4_ m5_ m6_ m7_ m8_ m9_ m10_ m11_ m12_ m13_ m14_ m15_ m16_ m17_ m18_ m19_ m20_ m21_ m22_ m23_ m24_ m25_ m26_ m27_ m28_ m29_ m30_ m31_ m32_ m33_ m34_ m35_ m36_ m37_ m38_ m39_ m40_ m41_ m42_ o1_ o2_ : Nat) (h : Hp) (B : Bd (fun _ => none) h [(x0_, .inr (11, [rV (some x2_), rV (some x1_), iV 0, rV (some x5_), rV (some x7_), rV (some x9_), rV (some x22_), rV (some x31_), rV (some x37_), rV (some x43_), rV none, rV (some x49_)])), (x1_, .inl (7, 8, .inr (.inr (.inr (.inr (fun _ => none)))))), (x2_, .inr (9, [rV (some x4_), iV 0, rV (some x3_), iV 0])), (x3_, .inl (6, 6, .inr (.inr (.inr (.inr (fun _ => none)))))), (x4_, .inl (5, 3, .inr (.inr (.inr (.inr (fun _ => none)))))), (x5_, .inr (0, [rV (some x6_), iV 4, iV 0])), (x6_, .inl (0, 12, .inl (fun _ => 0))), (x7_, .inr (0, [rV (some x8_), iV 4, iV 0])), (x8_, .inl (0, 12, .inl (fun _ => 0))), (x9_, .inr (6, [rV (some x16_), rV (some x15_), rV (some x14_), rV (some x13_), rV (some x12_), rV (some x11_), rV (some x10_)])), (x10_, .inl (0, 9, .inl (fun _ => 0))), (x11_, .inl (0, 9, .inl (fun _ => 0))), (x12_, .inl (0, 3, .inl (fun _ => 0))), (x13_, .inl (0, 4, .inl (fun _ => 0))), (x14_, .inl (0, 4, .inl (fun _ => 0))), (x15_, .inl (0, 4, .inl (fun _ => 0))), (x16_, .inr (5, [iV 0, rV (some x21_), rV (some x20_), rV (some x19_), rV (some x18_), rV (some x17_), lV 0])), (x17_, .inl (0, 3, .inl (fun _ => 0))), (x18_, .inl (0, 3, .inl (fun _ => 0))), (x19_, .inl (2, 3, .inl (fun _ => 0))), (x20_, .inl (0, 3, .inl (fun _ => 0))), (x21_, .inl (0, 3, .inl (fun _ => 0))), (x22_, .inr (8, [rV (some x25_), rV none, rV none, rV none, rV none, rV (some x24_), rV (some x23_), iV 0, iV 0, iV 0, lV 0, iV (-1), iV 0, iV 0, iV (-1), lV 0])), (x23_, .inl (0, 9, .inl (fun _ => 0))), (x24_, .inl (0, 3, .inl (fun _ => 0))), (x25_, .inr (5, [iV 0, rV (some x30_), rV (some x29_), rV (some x28_), rV (some x27_), rV (some x26_), lV 0])), (x26_, .inl (0, 3, .inl (fun _ => 0))), (x27_, .inl (0, 3, .inl (fun _ => 0))), (x28_, .inl (2, 3, .inl (fun _ => 0))), (x29_, .inl (0, 3, .inl (fun _ => 0))), (x30_, .inl (0, 3, .inl (fun _ => 0))), (x31_, .inr (5, [iV 0, rV (some x36_), rV (some x35_), rV (some x34_), rV (some x33_), rV (some x32_), lV 0])), (x32_, .inl (0, 3, .inl (fun _ => 0))), (x33_, .inl (0, 3, .inl (fun _ => 0))), (x34_, .inl (2, 3, .inl (fun _ => 0))), (x35_, .inl (0, 3, .inl (fun _ => 0))), (x36_, .inl (0, 3, .inl (fun _ => 0))), (x37_, .inr (5, [iV 0, rV (some x42_), rV (some x41_), rV (some x40_), rV (some x39_), rV (some x38_), lV 0])), (x38_, .inl (0, 3, .inl (fun _ => 0))), (x39_, .inl (0, 3, .inl (fun _ => 0))), (x40_, .inl (2, 3, .inl (fun _ => 0))), (x41_, .inl (0, 3, .inl (fun _ => 0))), (x42_, .inl (0, 3, .inl (fun _ => 0))), (x43_, .inr (5, [iV 0, rV (some x48_), rV (some x47_), rV (some x46_), rV (some x45_), rV (some x44_), lV 0])), (x44_, .inl (0, 3, .inl (fun _ => 0))), (x45_, .inl (0, 3, .inl (fun _ => 0))), (x46_, .inl (2, 3, .inl (fun _ => 0))), (x47_, .inl (0, 3, .inl (fun _ => 0))), (x48_, .inl (0, 3, .inl (fun _ => 0))), (x49_, .inr (2, [rV (some x52_), rV (some x51_), rV (some x50_), iV 0, iV (-1), iV 0])), (x50_, .inl (0, 1024, .inl (fun _ => 0))), (x51_, .inl (0, 2, .inl (fun _ => 0))), (x52_, .inl (0, 2, .inl (fun _ => 0))), (m0_, .inr (12, [iV 0, iV 0, rV (some m42_), rV (some m41_), rV (some m40_), rV (some m39_), rV (some m38_), rV (some m37_), rV (some m36_), rV (some m35_), rV (some m34_), rV (some m33_), rV (some m32_), iV 0, rV (some m31_), rV (some m30_), iV 0, rV (some m29_), rV (some m28_), iV 4, rV (some m27_), rV (some m26_), iV 0, iV 0, iV 0, rV (some m25_), rV (some m24_), rV (some m23_), rV (some m22_), rV (some m21_), rV (some m20_), rV (some m19_), rV (some m18_), rV (some m17_), rV (some m16_), rV (some m15_), rV (some m14_), rV (some m13_), iV 0, rV (some m12_), rV (some m11_), rV (some m10_), rV (some m9_), rV (some m8_), rV (some m7_), iV 0, rV (some m6_), rV (some m5_), rV (some m4_), iV 0, iV 0, rV (some m3_), iV 0, rV (some m2_), rV (some m1_), iV 0])), (m1_, .inl (0, 2, .inl (fun _ => 0))), (m2_, .inl (0, 1200, .inl (fun _ => 0))), (m3_, .inl (0, 2, .inl (fun _ => 0))), (m4_, .inl (0, 3, .inl (fun _ => 0))), (m5_, .inl (0, 3, .inl (fun _ => 0))), (m6_, .inl (0, 2, .inl (fun _ => 0))), (m7_, .inl (0, 3, .inl (fun _ => 0))), (m8_, .inl (0, 3, .inl (fun _ => 0))), (m9_, .inl (0, 3, .inl (fun _ => 0))), (m10_, .inl (0, 3, .inl (fun _ => 0))), (m11_, .inl (0, 3, .inl (fun _ => 0))), (m12_, .inl (0, 3, .inl (fun _ => 0))), (m13_, .inl (0, 3, .inl (fun _ => 0))), (m14_, .inl (0, 24, .inl (fun _ => 0))), (m15_, .inl (0, 24, .inl (fun _ => 0))), (m16_, .inl (0, 24, .inl (fun _ => 0))), (m17_, .inl (0, 24, .inl (fun _ => 0))), (m18_, .inl (0, 8, .inl (fun _ => 0))), (m19_, .inl (0, 32, .inl (fun _ => 0))), (m20_, .inl (0, 32, .inl (fun _ => 0))), (m21_, .inl (0, 32, .inl (fun _ => 0))), (m22_, .inl (0, 32, .inl (fun _ => 0))), (m23_, .inl (0, 8, .inl (fun _ => 0))), (m24_, .inl (0, 24, .inl (fun _ => 0))), (m25_, .inl (0, 8, .inl (fun _ => 0))), (m26_, .inl (0, 2, .inl (fun _ => 0))), (m27_, .inl (0, 26, .inl (fun _ => 0))), (m28_, .inl (0, 6, .inl (fun _ => 0))), (m29_, .inl (0, 240, .inl (fun _ => 0))), (m30_, .inl (0, 6, .inl (fun _ => 0))), (m31_, .inl (0, 6, .inl (fun _ => 0))), (m32_, .inl (0, 9, .inl (fun _ => 0))), (m33_, .inl (0, 9, .inl (fun _ => 0))), (m34_, .inl (0, 9, .inl (fun _ => 0))), (m35_, .inl (0, 3, .inl (fun _ => 0))), (m36_, .inl (0, 3, .inl (fun _ => 0))), (m37_, .inl (0, 9, .inl (fun _ => 0))), (m38_, .inl (0, 9, .inl (fun _ => 0))), (m39_, .inl (0, 360, .inl (fun _ => 0))), (m40_, .inl (1, 120, .inl (fun _ => 0))), (m41_, .inl (0, 3, .inl (fun _ => 0))), (m42_, .inl (0, 3, .inl (fun _ => 0))), (o1_, .inl (3, 1, .inr (.inl (fun _ => 0)))), (o2_, .inl (4, 1, .inr (.inr (.inr (.inl (fun _ => 0))))))]) : ∃ ad, Wf ad h V1 σ1 ∧ ad 11 0 0 = x0_ ∧ ad 12 0 0 = m0_ ∧ ad 13 0 1 = o1_ ∧ ad 14 0 1 = o2_ := by
  obtain ⟨ad, hi, e⟩ := ad_all [((11, 0, 0), x0_), ((11, 0, 2), x1_), ((9, 0, 0), x2_), ((9, 0, 3), x3_), ((9, 0, 1), x4_), ((0, 0, 0), x5_), ((0, 0, 1), x6_), ((0, 1, 0), x7_), ((0, 1, 1), x8_), ((6, 0, 0), x9_), ((6, 0, 7), x10_), ((6, 0, 6), x11_), ((6, 0, 5), x12_), ((6, 0, 4), x13_), ((6, 0, 3), x14_), ((6, 0, 2), x15_), ((5, 0, 0), x16_), ((5, 0, 6), x17_), ((5, 0, 5), x18_), ((5, 0, 4), x19_), ((5, 0, 3), x20_), ((5, 0, 2), x21_), ((8, 0, 0), x22_), ((8, 0, 7), x23_), ((8, 0, 6), x24_), ((5, 1, 0), x25_), ((5, 1, 6), x26_), ((5, 1, 5), x27_), ((5, 1, 4), x28_), ((5, 1, 3), x29_), ((5, 1, 2), x30_), ((5, 2, 0), x31_), ((5, 2, 6), x32_), ((5, 2, 5), x33_), ((5, 2, 4), x34_), ((5, 2, 3), x35_), ((5, 2, 2), x36_), ((5, 3, 0), x37_), ((5, 3, 6), x38_), ((5, 3, 5), x39_), ((5, 3, 4), x40_), ((5, 3, 3), x41_), ((5, 3, 2), x42_), ((5, 4, 0), x43_), ((5, 4, 6), x44_), ((5, 4, 5), x45_), ((5, 4, 4), x46_), ((5, 4, 3), x47_), ((5, 4, 2), x48_), ((2, 0, 0), x49_), ((2, 0, 3), x50_), ((2, 0, 2), x51_), ((2, 0, 1), x52_), ((12, 0, 0), m0_), ((12, 0, 55), m1_), ((12, 0, 54), m2_), ((12, 0, 52), m3_), ((12, 0, 49), m4_), ((12, 0, 48), m5_), ((12, 0, 47), m6_), ((12, 0, 45), m7_), ((12, 0, 44), m8_), ((12, 0, 43), m9_), ((12, 0, 42), m10_), ((12, 0, 41), m11_), ((12, 0, 40), m12_), ((12, 0, 38), m13_), ((12, 0, 37), m14_), ((12, 0, 36), m15_), ((12, 0, 35), m16_), ((12, 0, 34), m17_), ((12, 0, 33), m18_), ((12, 0, 32), m19_), ((12, 0, 31), m20_), ((12, 0, 30), m21_), ((12, 0, 29), m22_), ((12, 0, 28), m23_), ((12, 0, 27), m24_), ((12, 0, 26), m25_), ((12, 0, 22), m26_), ((12, 0, 21), m27_), ((12, 0, 19), m28_), ((12, 0, 18), m29_), ((12, 0, 16), m30_), ((12, 0, 15), m31_), ((12, 0, 13), m32_), ((12, 0, 12), m33_), ((12, 0, 11), m34_), ((12, 0, 10), m35_), ((12, 0, 9), m36_), ((12, 0, 8), m37_), ((12, 0, 7), m38_), ((12, 0, 6), m39_), ((12, 0, 5), m40_), ((12, 0, 4), m41_), ((12, 0, 3), m42_), ((13, 0, 1), o1_), ((14, 0, 1), o2_)] (by
    have : ([(11, 0, 0), (11, 0, 2), (9, 0, 0), (9, 0, 3), (9, 0, 1), (0, 0, 0), (0, 0, 1), (0, 1, 0), (0, 1, 1), (6, 0, 0), (6, 0, 7), (6, 0, 6), (6, 0, 5), (6, 0, 4), (6, 0, 3), (6, 0, 2), (5, 0, 0), (5, 0, 6), (5, 0, 5), (5, 0, 4), (5, 0, 3), (5, 0, 2), (8, 0, 0), (8, 0, 7), (8, 0, 6), (5, 1, 0), (5, 1, 6), (5, 1, 5), (5, 1, 4), (5, 1, 3), (5, 1, 2), (5, 2, 0), (5, 2, 6), (5, 2, 5), (5, 2, 4), (5, 2, 3), (5, 2, 2), (5, 3, 0), (5, 3, 6), (5, 3, 5), (5, 3, 4), (5, 3, 3), (5, 3, 2), (5, 4, 0), (5, 4, 6), (5, 4, 5), (5, 4, 4), (5, 4, 3), (5, 4, 2), (2, 0, 0), (2, 0, 3), (2, 0, 2), (2, 0, 1), (12, 0, 0), (12, 0, 55), (12, 0, 54), (12, 0, 52), (12, 0, 49), (12, 0, 48), (12, 0, 47), (12, 0, 45), (12, 0, 44), (12, 0, 43), (12, 0, 42), (12, 0, 41), (12, 0, 40), (12, 0, 38), (12, 0, 37), (12, 0, 36), (12, 0, 35), (12, 0, 34), (12, 0, 33), (12, 0, 32), (12, 0, 31), (12, 0, 30), (12, 0, 29), (12, 0, 28), (12, 0, 27), (12, 0, 26), (12, 0, 22), (12, 0, 21), (12, 0, 19), (12, 0, 18), (12, 0, 16), (12, 0, 15), (12, 0, 13), (12, 0, 12), (12, 0, 11), (12, 0, 10), (12, 0, 9), (12, 0, 8), (12, 0, 7), (12, 0, 6), (12, 0, 5), (12, 0, 4), (12, 0, 3), (13, 0, 1), (14, 0, 1)] : List (Nat × Nat × Nat)).Nodup := by decide +kernel
    exact this) B.1
  simp only [List.forall_mem_cons, List.not_mem_nil, false_imp_iff, implies_true, and_true] at e
  obtain ⟨e0, e1, e2, e3, e4, e5, e6, e7, e8, e9, e10, e11, e12, e13, e14, e15, e16, e17, e18, e19, e20, e21, e22, e23, e24, e25, e26, e27, e28, e29, e30, e31, e32, e33, e34, e35, e36, e37, e38, e39, e40, e41, e42, e43, e44, e45, e46, e47, e48, e49, e50, e51, e52, e53, e54, e55, e56, e57, e58, e59, e60, e61, e62, e63, e64, e65, e66, e67, e68, e69, e70, e71, e72, e73, e74, e75, e76, e77, e78, e79, e80, e81, e82, e83, e84, e85, e86, e87, e88, e89, e90, e91, e92, e93, e94, e95, e96, e97⟩ := e
  subst e0 e1 e2 e3 e4 e5 e6 e7 e8 e9 e10 e11 e12 e13 e14 e15 e16 e17 e18 e19 e20 e21 e22 e23 e24 e25 e26 e27 e28 e29 e30 e31 e32 e33 e34 e35 e36 e37 e38 e39 e40 e41 e42 e43 e44 e45 e46 e47 e48 e49 e50 e51 e52 e53 e54 e55 e56 e57 e58 e59 e60 e61 e62 e63 e64 e65 e66 e67 e68 e69 e70 e71 e72 e73 e74 e75 e76 e77 e78 e79 e80 e81 e82 e83 e84 e85 e86 e87 e88 e89 e90 e91 e92 e93 e94 e95 e96 e97
  refine ⟨ad, ⟨hi, rfl, ?_, ?_, ?_⟩, rfl, rfl, rfl, rfl⟩
  · intro k i hk hi9
    have hm := objL_mem k hk i hi9
    simp only [objL, List.mem_cons, List.not_mem_nil, or_false, Prod.mk.injEq] at hm
    rcases hm with ⟨rfl, rfl⟩ | ⟨rfl, rfl⟩ | ⟨rfl, rfl⟩ | ⟨rfl, rfl⟩ | ⟨rfl, rfl⟩ | ⟨rfl, rfl⟩ | ⟨rfl, rfl⟩ | ⟨rfl, rfl⟩ | ⟨rfl, rfl⟩ | ⟨rfl, rfl⟩ | ⟨rfl, rfl⟩ | ⟨rfl, rfl⟩ | ⟨rfl, rfl⟩
    · have e := bd_at B 0 rfl
      dsimp only at e
      rw [e]
      rfl
    · have e := bd_at B 2 rfl
      dsimp only at e
      rw [e]
      rfl
    · have e := bd_at B 5 rfl
      dsimp only at e
      rw [e]
      rfl
    · have e := bd_at B 7 rfl
      dsimp only at e
      rw [e]
      rfl
    · have e := bd_at B 9 rfl
      dsimp only at e
      rw [e]
      rfl
    · have e := bd_at B 16 rfl
      dsimp only at e
      rw [e]
      rfl
    · have e := bd_at B 22 rfl
      dsimp only at e
      rw [e]
      rfl
    · have e := bd_at B 25 rfl
      dsimp only at e
      rw [e]
      rfl
    · have e := bd_at B 31 rfl
      dsimp only at e
      rw [e]
      rfl
    · have e := bd_at B 37 rfl
      dsimp only at e
      rw [e]
      rfl
    · have e := bd_at B 43 rfl
      dsimp only at e
      rw [e]
      rfl
    · have e := bd_at B 49 rfl
      dsimp only at e
      rw [e]
      rfl
    · have e := bd_at B 53 rfl
      dsimp only at e
      rw [e]
      rfl
  · intro k i f hi9 hA
    have hf := isA_lt hA
    have hk : k < 15 := by
      apply Nat.lt_of_not_le
      intro hk
      have : V1 k = 0 := by unfold V1; repeat (rw [if_neg (by omega)])
      omega
    have hm := arrL_mem k hk i hi9 f hf hA
    simp only [arrL, List.mem_cons, List.not_mem_nil, or_false, Prod.mk.injEq] at hm
    rcases hm with ⟨rfl, rfl, rfl⟩ | ⟨rfl, rfl, rfl⟩ | ⟨rfl, rfl, rfl⟩ | ⟨rfl, rfl, rfl⟩ | ⟨rfl, rfl, rfl⟩ | ⟨rfl, rfl, rfl⟩ | ⟨rfl, rfl, rfl⟩ | ⟨rfl, rfl, rfl⟩ | ⟨rfl, rfl, rfl⟩ | ⟨rfl, rfl, rfl⟩ | ⟨rfl, rfl, rfl⟩ | ⟨rfl, rfl, rfl⟩ | ⟨rfl, rfl, rfl⟩ | ⟨rfl, rfl, rfl⟩ | ⟨rfl, rfl, rfl⟩ | ⟨rfl, rfl, rfl⟩ | ⟨rfl, rfl, rfl⟩ | ⟨rfl, rfl, rfl⟩ | ⟨rfl, rfl, rfl⟩ | ⟨rfl, rfl, rfl⟩ | ⟨rfl, rfl, rfl⟩ | ⟨rfl, rfl, rfl⟩ | ⟨rfl, rfl, rfl⟩ | ⟨rfl, rfl, rfl⟩ | ⟨rfl, rfl, rfl⟩ | ⟨rfl, rfl, rfl⟩ | ⟨rfl, rfl, rfl⟩ | ⟨rfl, rfl, rfl⟩ | ⟨rfl, rfl, rfl⟩ | ⟨rfl, rfl, rfl⟩ | ⟨rfl, rfl, rfl⟩ | ⟨rfl, rfl, rfl⟩ | ⟨rfl, rfl, rfl⟩ | ⟨rfl, rfl, rfl⟩ | ⟨rfl, rfl, rfl⟩ | ⟨rfl, rfl, rfl⟩ | ⟨rfl, rfl, rfl⟩ | ⟨rfl, rfl, rfl⟩ | ⟨rfl, rfl, rfl⟩ | ⟨rfl, rfl, rfl⟩ | ⟨rfl, rfl, rfl⟩ | ⟨rfl, rfl, rfl⟩ | ⟨rfl, rfl, rfl⟩ | ⟨rfl, rfl, rfl⟩ | ⟨rfl, rfl, rfl⟩ | ⟨rfl, rfl, rfl⟩ | ⟨rfl, rfl, rfl⟩ | ⟨rfl, rfl, rfl⟩ | ⟨rfl, rfl, rfl⟩ | ⟨rfl, rfl, rfl⟩ | ⟨rfl, rfl, rfl⟩ | ⟨rfl, rfl, rfl⟩ | ⟨rfl, rfl, rfl⟩ | ⟨rfl, rfl, rfl⟩ | ⟨rfl, rfl, rfl⟩ | ⟨rfl, rfl, rfl⟩ | ⟨rfl, rfl, rfl⟩ | ⟨rfl, rfl, rfl⟩ | ⟨rfl, rfl, rfl⟩ | ⟨rfl, rfl, rfl⟩ | ⟨rfl, rfl, rfl⟩ | ⟨rfl, rfl, rfl⟩ | ⟨rfl, rfl, rfl⟩ | ⟨rfl, rfl, rfl⟩ | ⟨rfl, rfl, rfl⟩ | ⟨rfl, rfl, rfl⟩ | ⟨rfl, rfl, rfl⟩ | ⟨rfl, rfl, rfl⟩ | ⟨rfl, rfl, rfl⟩ | ⟨rfl, rfl, rfl⟩ | ⟨rfl, rfl, rfl⟩ | ⟨rfl, rfl, rfl⟩ | ⟨rfl, rfl, rfl⟩ | ⟨rfl, rfl, rfl⟩ | ⟨rfl, rfl, rfl⟩ | ⟨rfl, rfl, rfl⟩ | ⟨rfl, rfl, rfl⟩ | ⟨rfl, rfl, rfl⟩ | ⟨rfl, rfl, rfl⟩ | ⟨rfl, rfl, rfl⟩ | ⟨rfl, rfl, rfl⟩ | ⟨rfl, rfl, rfl⟩ | ⟨rfl, rfl, rfl⟩ | ⟨rfl, rfl, rfl⟩ | ⟨rfl, rfl, rfl⟩
    · have e := bd_at B 1 rfl
      dsimp only at e
      rw [e]
      refine congrArg some (congrArg Sum.inl ?_)
      symm
      refine acR0 rfl rfl rfl (fun j => ?_)
      show q1 11 0 1 j = none
      simp [q1]
    · have e := bd_at B 3 rfl
      dsimp only at e
      rw [e]
      refine congrArg some (congrArg Sum.inl ?_)
      symm
      refine acR0 rfl rfl rfl (fun j => ?_)
      show q1 9 0 2 j = none
      simp [q1]
    · have e := bd_at B 4 rfl
      dsimp only at e
      rw [e]
      refine congrArg some (congrArg Sum.inl ?_)
      symm
      refine acR0 rfl rfl rfl (fun j => ?_)
      show q1 9 0 0 j = none
      simp [q1]
    · have e := bd_at B 6 rfl
      dsimp only at e
      rw [e]
      rfl
    · have e := bd_at B 8 rfl
      dsimp only at e
      rw [e]
      rfl
    · have e := bd_at B 10 rfl
      dsimp only at e
      rw [e]
      rfl
    · have e := bd_at B 11 rfl
      dsimp only at e
      rw [e]
      rfl
    · have e := bd_at B 12 rfl
      dsimp only at e
      rw [e]
      rfl
    · have e := bd_at B 13 rfl
      dsimp only at e
      rw [e]
      rfl
    · have e := bd_at B 14 rfl
      dsimp only at e
      rw [e]
      rfl
    · have e := bd_at B 15 rfl
      dsimp only at e
      rw [e]
      rfl
    · have e := bd_at B 17 rfl
      dsimp only at e
      rw [e]
      rfl
    · have e := bd_at B 18 rfl
      dsimp only at e
      rw [e]
      rfl
    · have e := bd_at B 19 rfl
      dsimp only at e
      rw [e]
      rfl
    · have e := bd_at B 20 rfl
      dsimp only at e
      rw [e]
      rfl
    · have e := bd_at B 21 rfl
      dsimp only at e
      rw [e]
      rfl
    · have e := bd_at B 23 rfl
      dsimp only at e
      rw [e]
      rfl
    · have e := bd_at B 24 rfl
      dsimp only at e
      rw [e]
      rfl
    · have e := bd_at B 26 rfl
      dsimp only at e
      rw [e]
      rfl
    · have e := bd_at B 27 rfl
      dsimp only at e
      rw [e]
      rfl
    · have e := bd_at B 28 rfl
      dsimp only at e
      rw [e]
      rfl
    · have e := bd_at B 29 rfl
      dsimp only at e
      rw [e]
      rfl
    · have e := bd_at B 30 rfl
      dsimp only at e
      rw [e]
      rfl
    · have e := bd_at B 32 rfl
      dsimp only at e
      rw [e]
      rfl
    · have e := bd_at B 33 rfl
      dsimp only at e
      rw [e]
      rfl
    · have e := bd_at B 34 rfl
      dsimp only at e
      rw [e]
      rfl
    · have e := bd_at B 35 rfl
      dsimp only at e
      rw [e]
      rfl
    · have e := bd_at B 36 rfl
      dsimp only at e
      rw [e]
      rfl
    · have e := bd_at B 38 rfl
      dsimp only at e
      rw [e]
      rfl
    · have e := bd_at B 39 rfl
      dsimp only at e
      rw [e]
      rfl
    · have e := bd_at B 40 rfl
      dsimp only at e
      rw [e]
      rfl
    · have e := bd_at B 41 rfl
      dsimp only at e
      rw [e]
      rfl
    · have e := bd_at B 42 rfl
      dsimp only at e
      rw [e]
      rfl
    · have e := bd_at B 44 rfl
      dsimp only at e
      rw [e]
      rfl
    · have e := bd_at B 45 rfl
      dsimp only at e
      rw [e]
      rfl
    · have e := bd_at B 46 rfl
      dsimp only at e
      rw [e]
      rfl
    · have e := bd_at B 47 rfl
      dsimp only at e
      rw [e]
      rfl
    · have e := bd_at B 48 rfl
      dsimp only at e
      rw [e]
      rfl
    · have e := bd_at B 50 rfl
      dsimp only at e
      rw [e]
      rfl
    · have e := bd_at B 51 rfl
      dsimp only at e
      rw [e]
      rfl
    · have e := bd_at B 52 rfl
      dsimp only at e
      rw [e]
      rfl
    · have e := bd_at B 54 rfl
      dsimp only at e
      rw [e]
      rfl
    · have e := bd_at B 55 rfl
      dsimp only at e
      rw [e]
      rfl
    · have e := bd_at B 56 rfl
      dsimp only at e
      rw [e]
      rfl
    · have e := bd_at B 57 rfl
      dsimp only at e
      rw [e]
      rfl
    · have e := bd_at B 58 rfl
      dsimp only at e
      rw [e]
      rfl
    · have e := bd_at B 59 rfl
      dsimp only at e
      rw [e]
      rfl
    · have e := bd_at B 60 rfl
      dsimp only at e
      rw [e]
      rfl
    · have e := bd_at B 61 rfl
      dsimp only at e
      rw [e]
      rfl
    · have e := bd_at B 62 rfl
      dsimp only at e
      rw [e]
      rfl
    · have e := bd_at B 63 rfl
      dsimp only at e
      rw [e]
      rfl
    · have e := bd_at B 64 rfl
      dsimp only at e
      rw [e]
      rfl
    · have e := bd_at B 65 rfl
      dsimp only at e
      rw [e]
      rfl
    · have e := bd_at B 66 rfl
      dsimp only at e
      rw [e]
      rfl
    · have e := bd_at B 67 rfl
      dsimp only at e
      rw [e]
      rfl
    · have e := bd_at B 68 rfl
      dsimp only at e
      rw [e]
      rfl
    · have e := bd_at B 69 rfl
      dsimp only at e
      rw [e]
      rfl
    · have e := bd_at B 70 rfl
      dsimp only at e
      rw [e]
      rfl
    · have e := bd_at B 71 rfl
      dsimp only at e
      rw [e]
      rfl
    · have e := bd_at B 72 rfl
      dsimp only at e
      rw [e]
      rfl
    · have e := bd_at B 73 rfl
      dsimp only at e
      rw [e]
      rfl
    · have e := bd_at B 74 rfl
      dsimp only at e
      rw [e]
      rfl
    · have e := bd_at B 75 rfl
      dsimp only at e
      rw [e]
      rfl
    · have e := bd_at B 76 rfl
      dsimp only at e
      rw [e]
      rfl
    · have e := bd_at B 77 rfl
      dsimp only at e
      rw [e]
      rfl
    · have e := bd_at B 78 rfl
      dsimp only at e
      rw [e]
      rfl
    · have e := bd_at B 79 rfl
      dsimp only at e
      rw [e]
      rfl
    · have e := bd_at B 80 rfl
      dsimp only at e
      rw [e]
      rfl
    · have e := bd_at B 81 rfl
      dsimp only at e
      rw [e]
      rfl
    · have e := bd_at B 82 rfl
      dsimp only at e
      rw [e]
      rfl
    · have e := bd_at B 83 rfl
      dsimp only at e
      rw [e]
      rfl
    · have e := bd_at B 84 rfl
      dsimp only at e
      rw [e]
      rfl
    · have e := bd_at B 85 rfl
      dsimp only at e
      rw [e]
      rfl
    · have e := bd_at B 86 rfl
      dsimp only at e
      rw [e]
      rfl
    · have e := bd_at B 87 rfl
      dsimp only at e
      rw [e]
      rfl
    · have e := bd_at B 88 rfl
      dsimp only at e
      rw [e]
      rfl
    · have e := bd_at B 89 rfl
      dsimp only at e
      rw [e]
      rfl
    · have e := bd_at B 90 rfl
      dsimp only at e
      rw [e]
      rfl
    · have e := bd_at B 91 rfl
      dsimp only at e
      rw [e]
      rfl
    · have e := bd_at B 92 rfl
      dsimp only at e
      rw [e]
      rfl
    · have e := bd_at B 93 rfl
      dsimp only at e
      rw [e]
      rfl
    · have e := bd_at B 94 rfl
      dsimp only at e
      rw [e]
      rfl
    · have e := bd_at B 95 rfl
      dsimp only at e
      rw [e]
      rfl
    · have e := bd_at B 96 rfl
      dsimp only at e
      rw [e]
      rfl
    · have e := bd_at B 97 rfl
      dsimp only at e
      rw [e]
      rfl
  · intro k i f j r hi9 hr
    have h1 : q1 k i f j = some r := hr
    unfold q1 at h1
    split at h1
    · rename_i e9
      obtain ⟨rfl, rfl⟩ := e9
      repeat' (first | (split at h1))
      all_goals (first | (cases h1; done) | (injection h1 with h1; subst h1; subst_vars; decide))
    · split at h1
      · rename_i e9
        obtain ⟨rfl, rfl, rfl⟩ := e9
        injection h1 with h1
        subst h1
        decide
      · split at h1
        · rename_i e9
          obtain ⟨rfl, rfl, rfl⟩ := e9
          injection h1 with h1
          subst h1
          decide
        · cases h1
set_option maxHeartbeats 4000000 in
set_option maxRecDepth 10000 in
theorem y_start {N : Nat} {K : Nat → Nat → Nat → Nat → Hp → Prop} (kk : ∀ ad h, Wf ad h V1 σ1 → K (ad 11 0 0) (ad 12 0 0) (ad 13 0 1) (ad 14 0 1) h) : nw (fun _ => none) 11 [rV none, rV none, iV 0, rV none, rV none, rV none, rV none, rV none, rV none, rV none, rV none, rV none] fun a1 h2 => w_X11_init N a1 h2 fun h3 => nw h3 12 [iV 0, iV 0, rV none, rV none, rV none, rV none, rV none, rV none, rV none, rV none, rV none, rV none, rV none, iV 0, rV none, rV none, iV 0, rV none, rV none, iV 0, rV none, rV none, iV 0, iV 0, iV 0, rV none, rV none, rV none, rV none, rV none, rV none, rV none, rV none, rV none, rV none, rV none, rV none, rV none, iV 0, rV none, rV none, rV none, rV none, rV none, rV none, iV 0, rV none, rV none, rV none, iV 0, iV 0, rV none, iV 0, rV none, rV none, iV 0] fun a4 h5 => w_X12_init N a4 h5 fun h6 => nA h6 (.inl (3, 1, .inr (.inl (fun _ => 0)))) fun a7 h8 => nA h8 (.inl (4, 1, .inr (.inr (.inr (.inl (fun _ => 0)))))) fun a9 h10 => K a1 a4 a7 a9 h10 := by
  refine c_X11 (fun x0_ x1_ x2_ x3_ x4_ x5_ x6_ x7_ x8_ x9_ x10_ x11_ x12_ x13_ x14_ x15_ x16_ x17_ x18_ x19_ x20_ x21_ x22_ x23_ x24_ x25_ x26_ x27_ x28_ x29_ x30_ x31_ x32_ x33_ x34_ x35_ x36_ x37_ x38_ x39_ x40_ x41_ x42_ x43_ x44_ x45_ x46_ x47_ x48_ x49_ x50_ x51_ x52_ h1 B => ?_)
  refine c_X12 (fun m0_ m1_ m2_ m3_ m4_ m5_ m6_ m7_ m8_ m9_ m10_ m11_ m12_ m13_ m14_ m15_ m16_ m17_ m18_ m19_ m20_ m21_ m22_ m23_ m24_ m25_ m26_ m27_ m28_ m29_ m30_ m31_ m32_ m33_ m34_ m35_ m36_ m37_ m38_ m39_ m40_ m41_ m42_ h2 B2 => ?_)
  replace B := bd_app B B2
  clear B2
  refine bd_nA0 (bd_nil _) (fun o1_ h3 B2 => ?_)
  replace B := bd_app B B2
  clear B2
  refine bd_nA0 (bd_nil _) (fun o2_ h4 B2 => ?_)
  replace B := bd_app B B2
  clear B2
  simp only [List.nil_append, List.cons_append] at B
  obtain ⟨ad, W, e1, e2, e3, e4⟩ := wf_start x0_ x1_ x2_ x3_ x4_ x5_ x6_ x7_ x8_ x9_ x10_ x11_ x12_ x13_ x14_ x15_ x16_ x17_ x18_ x19_ x20_ x21_ x22_ x23_ x24_ x25_ x26_ x27_ x28_ x29_ x30_ x31_ x32_ x33_ x34_ x35_ x36_ x37_ x38_ x39_ x40_ x41_ x42_ x43_ x44_ x45_ x46_ x47_ x48_ x49_ x50_ x51_ x52_ m0_ m1_ m2_ m3_ m4_ m5_ m6_ m7_ m8_ m9_ m10_ m11_ m12_ m13_ m14_ m15_ m16_ m17_ m18_ m19_ m20_ m21_ m22_ m23_ m24_ m25_ m26_ m27_ m28_ m29_ m30_ m31_ m32_ m33_ m34_ m35_ m36_ m37_ m38_ m39_ m40_ m41_ m42_ o1_ o2_ h4 B
  subst e1 e2 e3 e4
  exact kk ad h4 W
end START
