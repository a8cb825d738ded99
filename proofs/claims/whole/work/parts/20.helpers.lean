/-- law: table(LDuelSchema;I[J)I -/
def w_L_table (N : Nat) (p0 : Option Nat) (p1 : Int32) (p2 : Option Nat) (h0 : Hp) (K : Int32 → Hp → Prop) : Prop :=
  nn p0 fun a1 => cv h0 a1 11 <| w_X11_table N a1 p1 h0 (fun v2 h3 =>
  nn p2 fun a6 => sL h3 a6 0 ((v2 : Int32).toInt64) fun h7 =>
  K 0 h7) (fun E h4 => (E = "java/lang/IllegalArgumentException" ∧ K 1 h4) ∨ (E = "java/lang/IllegalStateException" ∧ K 2 h4))
abbrev rmL_table : Room := { frames := 9, cells := 9, slots := 194, locals := 162 }
theorem vL_table : SHI yL_table cL_table 4 (some .int) [(0, 9, 12, 13), (0, 9, 15, 15)] 3 := ⟨tw4_6, tw1_0, tw4_7, by decide +kernel⟩
set_option maxHeartbeats 4000000 in
theorem m_L_table {G : Gp} (l : Launch) (hfl : l.stackTraces = false) (N : Nat) {p0 : Option Nat} {p1 : Int32} {p2 : Option Nat} {h0 : Hp} {K : Int32 → Hp → Prop} (hw : w_L_table N p0 p1 p2 h0 K) : MH G l yL_table cL_table 4 (some .int) [(0, 9, 12, 13), (0, 9, 15, 15)] rmL_table [rV p0, iV p1, rV p2] h0 (QI G K) := by
  refine go_hmet l hfl _ 4 _ _ rfl (by decide +kernel) (Nat.le_of_ble_eq_true rfl) [(0, rV p0), (1, iV p1), (2, rV p2)] rfl (fun X hX C htab => ?_)
  subst hX
  unfold w_L_table at hw
  refine go_aload_n C dL_table_0 2 rfl ?_
  refine go_iconst C 0 dL_table_1 kc_i0 ?_
  refine go_aload_n C dL_table_2 0 rfl ?_
  refine go_iload_n C dL_table_3 1 rfl ?_
  obtain ⟨a1, e9, hw9⟩ := hw
  subst e9
  have hw := hw9
  clear hw9
  refine go_hcall_i C [iV p1] vX11_table tw4_10 (ci := 11) rfl (m_X11_table (xl X) C.2.2.2.2.2.2.2.1 N hw.2) ⟨Nat.le_of_ble_eq_true rfl, Nat.le_of_ble_eq_true rfl, Nat.le_of_ble_eq_true rfl, Nat.le_of_ble_eq_true rfl⟩ hw.1 dL_table_4 rfl (Nat.le_of_ble_eq_true rfl) rfl (fun E h4 q5 hw => ?_) (fun v2 h3 hw => ?_)
  · rcases hw with ⟨rfl, hw⟩ | ⟨rfl, hw⟩
    · refine go_catch C (tableOf []) ⟨0, 9, 12, 13⟩ (tableOf [(0, 9, 15, 15)]) (by rw [htab]; rfl) (fun z hz => by cases hz) (by decide) (by decide) tw4_8 tw4_16 ?_
      refine go_astore_n C [(3, rV (some q5)), (0, rV (some a1)), (1, iV p1), (2, rV p2)] dL_table_12 (Nat.le_of_ble_eq_true rfl) rfl ?_
      refine go_iconst C 1 dL_table_13 kc_i1 ?_
      exact go_xiret C dL_table_14 hw (Nat.le_of_ble_eq_true rfl) (Nat.le_of_ble_eq_true rfl)
    · refine go_catch C (tableOf [(0, 9, 12, 13)]) ⟨0, 9, 15, 15⟩ (tableOf []) (by rw [htab]; rfl) (fun z hz => by
      simp only [tableOf, List.map_cons, List.map_nil, List.mem_cons, List.not_mem_nil, or_false] at hz
      rcases hz with rfl
      · exact ⟨by decide, _, tw4_8, by decide⟩) (by decide) (by decide) tw4_9 tw4_138 ?_
      refine go_astore_n C [(3, rV (some q5)), (0, rV (some a1)), (1, iV p1), (2, rV p2)] dL_table_15 (Nat.le_of_ble_eq_true rfl) rfl ?_
      refine go_iconst C 2 dL_table_16 kc_i2 ?_
      exact go_xiret C dL_table_17 hw (Nat.le_of_ble_eq_true rfl) (Nat.le_of_ble_eq_true rfl)
  refine go_i2l C dL_table_7 ?_
  obtain ⟨a6, e9, hw9⟩ := hw
  subst e9
  have hw := hw9
  clear hw9
  refine go_lastore C dL_table_8 hw (fun h7 hw => ?_)
  refine go_goto C 18 dL_table_9 (by decide) ?_
  refine go_iconst C 0 dL_table_18 kc_i0 ?_
  exact go_xiret C dL_table_19 hw (Nat.le_of_ble_eq_true rfl) (Nat.le_of_ble_eq_true rfl)
/-- law: bound(LDuelSchema;IIII[J)I -/
def w_L_bound (N : Nat) (p0 : Option Nat) (p1 : Int32) (p2 : Int32) (p3 : Int32) (p4 : Int32) (p5 : Option Nat) (h0 : Hp) (K : Int32 → Hp → Prop) : Prop :=
  nn p0 fun a1 => cv h0 a1 11 <| w_X11_bound N a1 p1 p2 p3 p4 h0 (fun v2 h3 =>
  nn p5 fun a6 => sL h3 a6 0 ((v2 : Int32).toInt64) fun h7 =>
  K 0 h7) (fun E h4 => (E = "java/lang/IndexOutOfBoundsException" ∧ K 1 h4) ∨ (E = "java/lang/IllegalArgumentException" ∧ K 2 h4))
abbrev rmL_bound : Room := { frames := 10, cells := 2, slots := 12, locals := 187 }
theorem vL_bound : SHI yL_bound cL_bound 7 (some .int) [(0, 14, 17, 21), (0, 14, 21, 13)] 6 := ⟨tw4_153, tw1_0, tw4_154, by decide +kernel⟩
set_option maxHeartbeats 4000000 in
theorem m_L_bound {G : Gp} (l : Launch) (hfl : l.stackTraces = false) (N : Nat) {p0 : Option Nat} {p1 : Int32} {p2 : Int32} {p3 : Int32} {p4 : Int32} {p5 : Option Nat} {h0 : Hp} {K : Int32 → Hp → Prop} (hw : w_L_bound N p0 p1 p2 p3 p4 p5 h0 K) : MH G l yL_bound cL_bound 7 (some .int) [(0, 14, 17, 21), (0, 14, 21, 13)] rmL_bound [rV p0, iV p1, iV p2, iV p3, iV p4, rV p5] h0 (QI G K) := by
  refine go_hmet l hfl _ 7 _ _ rfl (by decide +kernel) (Nat.le_of_ble_eq_true rfl) [(0, rV p0), (1, iV p1), (2, iV p2), (3, iV p3), (4, iV p4), (5, rV p5)] rfl (fun X hX C htab => ?_)
  subst hX
  unfold w_L_bound at hw
  refine go_aload C dL_bound_0 5 rfl ?_
  refine go_iconst C 0 dL_bound_2 kc_i0 ?_
  refine go_aload_n C dL_bound_3 0 rfl ?_
  refine go_iload_n C dL_bound_4 1 rfl ?_
  refine go_iload_n C dL_bound_5 2 rfl ?_
  refine go_iload_n C dL_bound_6 3 rfl ?_
  refine go_iload C dL_bound_7 4 rfl ?_
  obtain ⟨a1, e9, hw9⟩ := hw
  subst e9
  have hw := hw9
  clear hw9
  refine go_hcall_i C [iV p1, iV p2, iV p3, iV p4] vX11_bound tw4_179 (ci := 11) rfl (m_X11_bound (xl X) C.2.2.2.2.2.2.2.1 N hw.2) ⟨Nat.le_of_ble_eq_true rfl, Nat.le_of_ble_eq_true rfl, Nat.le_of_ble_eq_true rfl, Nat.le_of_ble_eq_true rfl⟩ hw.1 dL_bound_9 rfl (Nat.le_of_ble_eq_true rfl) rfl (fun E h4 q5 hw => ?_) (fun v2 h3 hw => ?_)
  · rcases hw with ⟨rfl, hw⟩ | ⟨rfl, hw⟩
    · refine go_catch C (tableOf []) ⟨0, 14, 17, 21⟩ (tableOf [(0, 14, 21, 13)]) (by rw [htab]; rfl) (fun z hz => by cases hz) (by decide) (by decide) tw4_155 tw4_193 ?_
      refine go_astore C [(6, rV (some q5)), (0, rV (some a1)), (1, iV p1), (2, iV p2), (3, iV p3), (4, iV p4), (5, rV p5)] dL_bound_17 (Nat.le_of_ble_eq_true rfl) rfl ?_
      refine go_iconst C 1 dL_bound_19 kc_i1 ?_
      exact go_xiret C dL_bound_20 hw (Nat.le_of_ble_eq_true rfl) (Nat.le_of_ble_eq_true rfl)
    · refine go_catch C (tableOf [(0, 14, 17, 21)]) ⟨0, 14, 21, 13⟩ (tableOf []) (by rw [htab]; rfl) (fun z hz => by
      simp only [tableOf, List.map_cons, List.map_nil, List.mem_cons, List.not_mem_nil, or_false] at hz
      rcases hz with rfl
      · exact ⟨by decide, _, tw4_155, by decide⟩) (by decide) (by decide) tw4_8 tw4_16 ?_
      refine go_astore C [(6, rV (some q5)), (0, rV (some a1)), (1, iV p1), (2, iV p2), (3, iV p3), (4, iV p4), (5, rV p5)] dL_bound_21 (Nat.le_of_ble_eq_true rfl) rfl ?_
      refine go_iconst C 2 dL_bound_23 kc_i2 ?_
      exact go_xiret C dL_bound_24 hw (Nat.le_of_ble_eq_true rfl) (Nat.le_of_ble_eq_true rfl)
  refine go_i2l C dL_bound_12 ?_
  obtain ⟨a6, e9, hw9⟩ := hw
  subst e9
  have hw := hw9
  clear hw9
  refine go_lastore C dL_bound_13 hw (fun h7 hw => ?_)
  refine go_goto C 25 dL_bound_14 (by decide) ?_
  refine go_iconst C 0 dL_bound_25 kc_i0 ?_
  exact go_xiret C dL_bound_26 hw (Nat.le_of_ble_eq_true rfl) (Nat.le_of_ble_eq_true rfl)
/-- law: insert(LDuelSchema;IIII[J)I -/
def w_L_insert (N : Nat) (p0 : Option Nat) (p1 : Int32) (p2 : Int32) (p3 : Int32) (p4 : Int32) (p5 : Option Nat) (h0 : Hp) (K : Int32 → Hp → Prop) : Prop :=
  nn p0 fun a1 => cv h0 a1 11 <| w_X11_insert N a1 p1 p2 p3 p4 h0 (fun v2 h3 =>
  nn p5 fun a6 => sL h3 a6 0 ((v2 : Int32).toInt64) fun h7 =>
  K 0 h7) (fun E h4 => (E = "java/lang/IndexOutOfBoundsException" ∧ K 1 h4) ∨ (E = "java/lang/IllegalArgumentException" ∧ K 2 h4) ∨ (E = "java/lang/IllegalStateException" ∧ K 3 h4))
abbrev rmL_insert : Room := { frames := 10, cells := 2, slots := 12, locals := 203 }
theorem vL_insert : SHI yL_insert cL_insert 7 (some .int) [(0, 14, 17, 21), (0, 14, 21, 13), (0, 14, 25, 15)] 6 := ⟨tw4_222, tw1_0, tw4_223, by decide +kernel⟩
set_option maxHeartbeats 4000000 in
theorem m_L_insert {G : Gp} (l : Launch) (hfl : l.stackTraces = false) (N : Nat) {p0 : Option Nat} {p1 : Int32} {p2 : Int32} {p3 : Int32} {p4 : Int32} {p5 : Option Nat} {h0 : Hp} {K : Int32 → Hp → Prop} (hw : w_L_insert N p0 p1 p2 p3 p4 p5 h0 K) : MH G l yL_insert cL_insert 7 (some .int) [(0, 14, 17, 21), (0, 14, 21, 13), (0, 14, 25, 15)] rmL_insert [rV p0, iV p1, iV p2, iV p3, iV p4, rV p5] h0 (QI G K) := by
  refine go_hmet l hfl _ 7 _ _ rfl (by decide +kernel) (Nat.le_of_ble_eq_true rfl) [(0, rV p0), (1, iV p1), (2, iV p2), (3, iV p3), (4, iV p4), (5, rV p5)] rfl (fun X hX C htab => ?_)
  subst hX
  unfold w_L_insert at hw
  refine go_aload C dL_insert_0 5 rfl ?_
  refine go_iconst C 0 dL_insert_2 kc_i0 ?_
  refine go_aload_n C dL_insert_3 0 rfl ?_
  refine go_iload_n C dL_insert_4 1 rfl ?_
  refine go_iload_n C dL_insert_5 2 rfl ?_
  refine go_iload_n C dL_insert_6 3 rfl ?_
  refine go_iload C dL_insert_7 4 rfl ?_
  obtain ⟨a1, e9, hw9⟩ := hw
  subst e9
  have hw := hw9
  clear hw9
  refine go_hcall_i C [iV p1, iV p2, iV p3, iV p4] vX11_insert tw4_224 (ci := 11) rfl (m_X11_insert (xl X) C.2.2.2.2.2.2.2.1 N hw.2) ⟨Nat.le_of_ble_eq_true rfl, Nat.le_of_ble_eq_true rfl, Nat.le_of_ble_eq_true rfl, Nat.le_of_ble_eq_true rfl⟩ hw.1 dL_insert_9 rfl (Nat.le_of_ble_eq_true rfl) rfl (fun E h4 q5 hw => ?_) (fun v2 h3 hw => ?_)
  · rcases hw with ⟨rfl, hw⟩ | ⟨rfl, hw⟩ | ⟨rfl, hw⟩
    · refine go_catch C (tableOf []) ⟨0, 14, 17, 21⟩ (tableOf [(0, 14, 21, 13), (0, 14, 25, 15)]) (by rw [htab]; rfl) (fun z hz => by cases hz) (by decide) (by decide) tw4_155 tw4_193 ?_
      refine go_astore C [(6, rV (some q5)), (0, rV (some a1)), (1, iV p1), (2, iV p2), (3, iV p3), (4, iV p4), (5, rV p5)] dL_insert_17 (Nat.le_of_ble_eq_true rfl) rfl ?_
      refine go_iconst C 1 dL_insert_19 kc_i1 ?_
      exact go_xiret C dL_insert_20 hw (Nat.le_of_ble_eq_true rfl) (Nat.le_of_ble_eq_true rfl)
    · refine go_catch C (tableOf [(0, 14, 17, 21)]) ⟨0, 14, 21, 13⟩ (tableOf [(0, 14, 25, 15)]) (by rw [htab]; rfl) (fun z hz => by
      simp only [tableOf, List.map_cons, List.map_nil, List.mem_cons, List.not_mem_nil, or_false] at hz
      rcases hz with rfl
      · exact ⟨by decide, _, tw4_155, by decide⟩) (by decide) (by decide) tw4_8 tw4_16 ?_
      refine go_astore C [(6, rV (some q5)), (0, rV (some a1)), (1, iV p1), (2, iV p2), (3, iV p3), (4, iV p4), (5, rV p5)] dL_insert_21 (Nat.le_of_ble_eq_true rfl) rfl ?_
      refine go_iconst C 2 dL_insert_23 kc_i2 ?_
      exact go_xiret C dL_insert_24 hw (Nat.le_of_ble_eq_true rfl) (Nat.le_of_ble_eq_true rfl)
    · refine go_catch C (tableOf [(0, 14, 17, 21), (0, 14, 21, 13)]) ⟨0, 14, 25, 15⟩ (tableOf []) (by rw [htab]; rfl) (fun z hz => by
      simp only [tableOf, List.map_cons, List.map_nil, List.mem_cons, List.not_mem_nil, or_false] at hz
      rcases hz with rfl | rfl
      · exact ⟨by decide, _, tw4_155, by decide⟩
      · exact ⟨by decide, _, tw4_8, by decide⟩) (by decide) (by decide) tw4_9 tw4_138 ?_
      refine go_astore C [(6, rV (some q5)), (0, rV (some a1)), (1, iV p1), (2, iV p2), (3, iV p3), (4, iV p4), (5, rV p5)] dL_insert_25 (Nat.le_of_ble_eq_true rfl) rfl ?_
      refine go_iconst C 3 dL_insert_27 kc_i3 ?_
      exact go_xiret C dL_insert_28 hw (Nat.le_of_ble_eq_true rfl) (Nat.le_of_ble_eq_true rfl)
  refine go_i2l C dL_insert_12 ?_
  obtain ⟨a6, e9, hw9⟩ := hw
  subst e9
  have hw := hw9
  clear hw9
  refine go_lastore C dL_insert_13 hw (fun h7 hw => ?_)
  refine go_goto C 29 dL_insert_14 (by decide) ?_
  refine go_iconst C 0 dL_insert_29 kc_i0 ?_
  exact go_xiret C dL_insert_30 hw (Nat.le_of_ble_eq_true rfl) (Nat.le_of_ble_eq_true rfl)
/-- law: remove(LDuelSchema;II[J)I -/
def w_L_remove (N : Nat) (p0 : Option Nat) (p1 : Int32) (p2 : Int32) (p3 : Option Nat) (h0 : Hp) (K : Int32 → Hp → Prop) : Prop :=
  nn p0 fun a1 => cv h0 a1 11 <| w_X11_remove N a1 p1 p2 h0 (fun v2 h3 =>
  nn p3 fun a6 => sL h3 a6 0 ((v2 : Int32).toInt64) fun h7 =>
  K 0 h7) (fun E h4 => (E = "java/lang/IndexOutOfBoundsException" ∧ K 1 h4) ∨ (E = "java/util/NoSuchElementException" ∧ K 2 h4))
abbrev rmL_remove : Room := { frames := 10, cells := 2, slots := 12, locals := 185 }
theorem vL_remove : SHI yL_remove cL_remove 5 (some .int) [(0, 10, 13, 21), (0, 10, 17, 30)] 4 := ⟨tw5_24, tw1_0, tw5_25, by decide +kernel⟩
set_option maxHeartbeats 4000000 in
theorem m_L_remove {G : Gp} (l : Launch) (hfl : l.stackTraces = false) (N : Nat) {p0 : Option Nat} {p1 : Int32} {p2 : Int32} {p3 : Option Nat} {h0 : Hp} {K : Int32 → Hp → Prop} (hw : w_L_remove N p0 p1 p2 p3 h0 K) : MH G l yL_remove cL_remove 5 (some .int) [(0, 10, 13, 21), (0, 10, 17, 30)] rmL_remove [rV p0, iV p1, iV p2, rV p3] h0 (QI G K) := by
  refine go_hmet l hfl _ 5 _ _ rfl (by decide +kernel) (Nat.le_of_ble_eq_true rfl) [(0, rV p0), (1, iV p1), (2, iV p2), (3, rV p3)] rfl (fun X hX C htab => ?_)
  subst hX
  unfold w_L_remove at hw
  refine go_aload_n C dL_remove_0 3 rfl ?_
  refine go_iconst C 0 dL_remove_1 kc_i0 ?_
  refine go_aload_n C dL_remove_2 0 rfl ?_
  refine go_iload_n C dL_remove_3 1 rfl ?_
  refine go_iload_n C dL_remove_4 2 rfl ?_
  obtain ⟨a1, e9, hw9⟩ := hw
  subst e9
  have hw := hw9
  clear hw9
  refine go_hcall_i C [iV p1, iV p2] vX11_remove tw5_27 (ci := 11) rfl (m_X11_remove (xl X) C.2.2.2.2.2.2.2.1 N hw.2) ⟨Nat.le_of_ble_eq_true rfl, Nat.le_of_ble_eq_true rfl, Nat.le_of_ble_eq_true rfl, Nat.le_of_ble_eq_true rfl⟩ hw.1 dL_remove_5 rfl (Nat.le_of_ble_eq_true rfl) rfl (fun E h4 q5 hw => ?_) (fun v2 h3 hw => ?_)
  · rcases hw with ⟨rfl, hw⟩ | ⟨rfl, hw⟩
    · refine go_catch C (tableOf []) ⟨0, 10, 13, 21⟩ (tableOf [(0, 10, 17, 30)]) (by rw [htab]; rfl) (fun z hz => by cases hz) (by decide) (by decide) tw4_155 tw4_193 ?_
      refine go_astore C [(4, rV (some q5)), (0, rV (some a1)), (1, iV p1), (2, iV p2), (3, rV p3)] dL_remove_13 (Nat.le_of_ble_eq_true rfl) rfl ?_
      refine go_iconst C 1 dL_remove_15 kc_i1 ?_
      exact go_xiret C dL_remove_16 hw (Nat.le_of_ble_eq_true rfl) (Nat.le_of_ble_eq_true rfl)
    · refine go_catch C (tableOf [(0, 10, 13, 21)]) ⟨0, 10, 17, 30⟩ (tableOf []) (by rw [htab]; rfl) (fun z hz => by
      simp only [tableOf, List.map_cons, List.map_nil, List.mem_cons, List.not_mem_nil, or_false] at hz
      rcases hz with rfl
      · exact ⟨by decide, _, tw4_155, by decide⟩) (by decide) (by decide) tw5_26 tw5_34 ?_
      refine go_astore C [(4, rV (some q5)), (0, rV (some a1)), (1, iV p1), (2, iV p2), (3, rV p3)] dL_remove_17 (Nat.le_of_ble_eq_true rfl) rfl ?_
      refine go_iconst C 2 dL_remove_19 kc_i2 ?_
      exact go_xiret C dL_remove_20 hw (Nat.le_of_ble_eq_true rfl) (Nat.le_of_ble_eq_true rfl)
  refine go_i2l C dL_remove_8 ?_
  obtain ⟨a6, e9, hw9⟩ := hw
  subst e9
  have hw := hw9
  clear hw9
  refine go_lastore C dL_remove_9 hw (fun h7 hw => ?_)
  refine go_goto C 21 dL_remove_10 (by decide) ?_
  refine go_iconst C 0 dL_remove_21 kc_i0 ?_
  exact go_xiret C dL_remove_22 hw (Nat.le_of_ble_eq_true rfl) (Nat.le_of_ble_eq_true rfl)
/-- law: count(LDuelSchema;I[J)I -/
def w_L_count (N : Nat) (p0 : Option Nat) (p1 : Int32) (p2 : Option Nat) (h0 : Hp) (K : Int32 → Hp → Prop) : Prop :=
  nn p0 fun a1 => cv h0 a1 11 <| w_X11_count N a1 p1 h0 (fun v2 h3 =>
  nn p2 fun a6 => sL h3 a6 0 ((v2 : Int32).toInt64) fun h7 =>
  K 0 h7) (fun E h4 => (E = "java/lang/IndexOutOfBoundsException" ∧ K 1 h4))
abbrev rmL_count : Room := { frames := 10, cells := 1, slots := 6, locals := 184 }
theorem vL_count : SHI yL_count cL_count 4 (some .int) [(0, 9, 12, 21)] 3 := ⟨tw5_63, tw1_0, tw5_64, by decide +kernel⟩
set_option maxHeartbeats 4000000 in
theorem m_L_count {G : Gp} (l : Launch) (hfl : l.stackTraces = false) (N : Nat) {p0 : Option Nat} {p1 : Int32} {p2 : Option Nat} {h0 : Hp} {K : Int32 → Hp → Prop} (hw : w_L_count N p0 p1 p2 h0 K) : MH G l yL_count cL_count 4 (some .int) [(0, 9, 12, 21)] rmL_count [rV p0, iV p1, rV p2] h0 (QI G K) := by
  refine go_hmet l hfl _ 4 _ _ rfl (by decide +kernel) (Nat.le_of_ble_eq_true rfl) [(0, rV p0), (1, iV p1), (2, rV p2)] rfl (fun X hX C htab => ?_)
  subst hX
  unfold w_L_count at hw
  refine go_aload_n C dL_count_0 2 rfl ?_
  refine go_iconst C 0 dL_count_1 kc_i0 ?_
  refine go_aload_n C dL_count_2 0 rfl ?_
  refine go_iload_n C dL_count_3 1 rfl ?_
  obtain ⟨a1, e9, hw9⟩ := hw
  subst e9
  have hw := hw9
  clear hw9
  refine go_hcall_i C [iV p1] vX11_count tw5_65 (ci := 11) rfl (m_X11_count (xl X) C.2.2.2.2.2.2.2.1 N hw.2) ⟨Nat.le_of_ble_eq_true rfl, Nat.le_of_ble_eq_true rfl, Nat.le_of_ble_eq_true rfl, Nat.le_of_ble_eq_true rfl⟩ hw.1 dL_count_4 rfl (Nat.le_of_ble_eq_true rfl) rfl (fun E h4 q5 hw => ?_) (fun v2 h3 hw => ?_)
  · rcases hw with ⟨rfl, hw⟩
    · refine go_catch C (tableOf []) ⟨0, 9, 12, 21⟩ (tableOf []) (by rw [htab]; rfl) (fun z hz => by cases hz) (by decide) (by decide) tw4_155 tw4_193 ?_
      refine go_astore_n C [(3, rV (some q5)), (0, rV (some a1)), (1, iV p1), (2, rV p2)] dL_count_12 (Nat.le_of_ble_eq_true rfl) rfl ?_
      refine go_iconst C 1 dL_count_13 kc_i1 ?_
      exact go_xiret C dL_count_14 hw (Nat.le_of_ble_eq_true rfl) (Nat.le_of_ble_eq_true rfl)
  refine go_i2l C dL_count_7 ?_
  obtain ⟨a6, e9, hw9⟩ := hw
  subst e9
  have hw := hw9
  clear hw9
  refine go_lastore C dL_count_8 hw (fun h7 hw => ?_)
  refine go_goto C 15 dL_count_9 (by decide) ?_
  refine go_iconst C 0 dL_count_15 kc_i0 ?_
  exact go_xiret C dL_count_16 hw (Nat.le_of_ble_eq_true rfl) (Nat.le_of_ble_eq_true rfl)
/-- law: index(LDuelSchema;II[J)I -/
def w_L_index (N : Nat) (p0 : Option Nat) (p1 : Int32) (p2 : Int32) (p3 : Option Nat) (h0 : Hp) (K : Int32 → Hp → Prop) : Prop :=
  nn p0 fun a1 => cv h0 a1 11 <| w_X11_index N a1 p1 p2 h0 (fun v2 h3 =>
  nn p3 fun a6 => sL h3 a6 0 ((v2 : Int32).toInt64) fun h7 =>
  K 0 h7) (fun E h4 => (E = "java/lang/IndexOutOfBoundsException" ∧ K 1 h4) ∨ (E = "java/lang/IllegalArgumentException" ∧ K 2 h4) ∨ (E = "java/lang/IllegalStateException" ∧ K 3 h4))
abbrev rmL_index : Room := { frames := 10, cells := 4, slots := 57, locals := 199 }
theorem vL_index : SHI yL_index cL_index 5 (some .int) [(0, 10, 13, 21), (0, 10, 17, 13), (0, 10, 21, 15)] 4 := ⟨tw5_87, tw1_0, tw5_88, by decide +kernel⟩
set_option maxHeartbeats 4000000 in
theorem m_L_index {G : Gp} (l : Launch) (hfl : l.stackTraces = false) (N : Nat) {p0 : Option Nat} {p1 : Int32} {p2 : Int32} {p3 : Option Nat} {h0 : Hp} {K : Int32 → Hp → Prop} (hw : w_L_index N p0 p1 p2 p3 h0 K) : MH G l yL_index cL_index 5 (some .int) [(0, 10, 13, 21), (0, 10, 17, 13), (0, 10, 21, 15)] rmL_index [rV p0, iV p1, iV p2, rV p3] h0 (QI G K) := by
  refine go_hmet l hfl _ 5 _ _ rfl (by decide +kernel) (Nat.le_of_ble_eq_true rfl) [(0, rV p0), (1, iV p1), (2, iV p2), (3, rV p3)] rfl (fun X hX C htab => ?_)
  subst hX
  unfold w_L_index at hw
  refine go_aload_n C dL_index_0 3 rfl ?_
  refine go_iconst C 0 dL_index_1 kc_i0 ?_
  refine go_aload_n C dL_index_2 0 rfl ?_
  refine go_iload_n C dL_index_3 1 rfl ?_
  refine go_iload_n C dL_index_4 2 rfl ?_
  obtain ⟨a1, e9, hw9⟩ := hw
  subst e9
  have hw := hw9
  clear hw9
  refine go_hcall_i C [iV p1, iV p2] vX11_index tw5_89 (ci := 11) rfl (m_X11_index (xl X) C.2.2.2.2.2.2.2.1 N hw.2) ⟨Nat.le_of_ble_eq_true rfl, Nat.le_of_ble_eq_true rfl, Nat.le_of_ble_eq_true rfl, Nat.le_of_ble_eq_true rfl⟩ hw.1 dL_index_5 rfl (Nat.le_of_ble_eq_true rfl) rfl (fun E h4 q5 hw => ?_) (fun v2 h3 hw => ?_)
  · rcases hw with ⟨rfl, hw⟩ | ⟨rfl, hw⟩ | ⟨rfl, hw⟩
    · refine go_catch C (tableOf []) ⟨0, 10, 13, 21⟩ (tableOf [(0, 10, 17, 13), (0, 10, 21, 15)]) (by rw [htab]; rfl) (fun z hz => by cases hz) (by decide) (by decide) tw4_155 tw4_193 ?_
      refine go_astore C [(4, rV (some q5)), (0, rV (some a1)), (1, iV p1), (2, iV p2), (3, rV p3)] dL_index_13 (Nat.le_of_ble_eq_true rfl) rfl ?_
      refine go_iconst C 1 dL_index_15 kc_i1 ?_
      exact go_xiret C dL_index_16 hw (Nat.le_of_ble_eq_true rfl) (Nat.le_of_ble_eq_true rfl)
    · refine go_catch C (tableOf [(0, 10, 13, 21)]) ⟨0, 10, 17, 13⟩ (tableOf [(0, 10, 21, 15)]) (by rw [htab]; rfl) (fun z hz => by
      simp only [tableOf, List.map_cons, List.map_nil, List.mem_cons, List.not_mem_nil, or_false] at hz
      rcases hz with rfl
      · exact ⟨by decide, _, tw4_155, by decide⟩) (by decide) (by decide) tw4_8 tw4_16 ?_
      refine go_astore C [(4, rV (some q5)), (0, rV (some a1)), (1, iV p1), (2, iV p2), (3, rV p3)] dL_index_17 (Nat.le_of_ble_eq_true rfl) rfl ?_
      refine go_iconst C 2 dL_index_19 kc_i2 ?_
      exact go_xiret C dL_index_20 hw (Nat.le_of_ble_eq_true rfl) (Nat.le_of_ble_eq_true rfl)
    · refine go_catch C (tableOf [(0, 10, 13, 21), (0, 10, 17, 13)]) ⟨0, 10, 21, 15⟩ (tableOf []) (by rw [htab]; rfl) (fun z hz => by
      simp only [tableOf, List.map_cons, List.map_nil, List.mem_cons, List.not_mem_nil, or_false] at hz
      rcases hz with rfl | rfl
      · exact ⟨by decide, _, tw4_155, by decide⟩
      · exact ⟨by decide, _, tw4_8, by decide⟩) (by decide) (by decide) tw4_9 tw4_138 ?_
      refine go_astore C [(4, rV (some q5)), (0, rV (some a1)), (1, iV p1), (2, iV p2), (3, rV p3)] dL_index_21 (Nat.le_of_ble_eq_true rfl) rfl ?_
      refine go_iconst C 3 dL_index_23 kc_i3 ?_
      exact go_xiret C dL_index_24 hw (Nat.le_of_ble_eq_true rfl) (Nat.le_of_ble_eq_true rfl)
  refine go_i2l C dL_index_8 ?_
  obtain ⟨a6, e9, hw9⟩ := hw
  subst e9
  have hw := hw9
  clear hw9
  refine go_lastore C dL_index_9 hw (fun h7 hw => ?_)
  refine go_goto C 25 dL_index_10 (by decide) ?_
  refine go_iconst C 0 dL_index_25 kc_i0 ?_
  exact go_xiret C dL_index_26 hw (Nat.le_of_ble_eq_true rfl) (Nat.le_of_ble_eq_true rfl)
/-- law: frames(LDuelSchema;I[J)I -/
def w_L_frames (N : Nat) (p0 : Option Nat) (p1 : Int32) (p2 : Option Nat) (h0 : Hp) (K : Int32 → Hp → Prop) : Prop :=
  nn p0 fun a1 => cv h0 a1 11 <| w_X11_frames N a1 p1 h0 (fun v2 h3 =>
  nn p2 fun a6 => sL h3 a6 0 ((v2 : Int32).toInt64) fun h7 =>
  K 0 h7) (fun E h4 => (E = "java/lang/IllegalArgumentException" ∧ K 1 h4))
abbrev rmL_frames : Room := { frames := 9, cells := 1, slots := 6, locals := 162 }
theorem vL_frames : SHI yL_frames cL_frames 4 (some .int) [(0, 9, 12, 13)] 3 := ⟨tw5_122, tw1_0, tw5_123, by decide +kernel⟩
set_option maxHeartbeats 4000000 in
theorem m_L_frames {G : Gp} (l : Launch) (hfl : l.stackTraces = false) (N : Nat) {p0 : Option Nat} {p1 : Int32} {p2 : Option Nat} {h0 : Hp} {K : Int32 → Hp → Prop} (hw : w_L_frames N p0 p1 p2 h0 K) : MH G l yL_frames cL_frames 4 (some .int) [(0, 9, 12, 13)] rmL_frames [rV p0, iV p1, rV p2] h0 (QI G K) := by
  refine go_hmet l hfl _ 4 _ _ rfl (by decide +kernel) (Nat.le_of_ble_eq_true rfl) [(0, rV p0), (1, iV p1), (2, rV p2)] rfl (fun X hX C htab => ?_)
  subst hX
  unfold w_L_frames at hw
  refine go_aload_n C dL_frames_0 2 rfl ?_
  refine go_iconst C 0 dL_frames_1 kc_i0 ?_
  refine go_aload_n C dL_frames_2 0 rfl ?_
  refine go_iload_n C dL_frames_3 1 rfl ?_
  obtain ⟨a1, e9, hw9⟩ := hw
  subst e9
  have hw := hw9
  clear hw9
  refine go_hcall_i C [iV p1] vX11_frames tw5_124 (ci := 11) rfl (m_X11_frames (xl X) C.2.2.2.2.2.2.2.1 N hw.2) ⟨Nat.le_of_ble_eq_true rfl, Nat.le_of_ble_eq_true rfl, Nat.le_of_ble_eq_true rfl, Nat.le_of_ble_eq_true rfl⟩ hw.1 dL_frames_4 rfl (Nat.le_of_ble_eq_true rfl) rfl (fun E h4 q5 hw => ?_) (fun v2 h3 hw => ?_)
  · rcases hw with ⟨rfl, hw⟩
    · refine go_catch C (tableOf []) ⟨0, 9, 12, 13⟩ (tableOf []) (by rw [htab]; rfl) (fun z hz => by cases hz) (by decide) (by decide) tw4_8 tw4_16 ?_
      refine go_astore_n C [(3, rV (some q5)), (0, rV (some a1)), (1, iV p1), (2, rV p2)] dL_frames_12 (Nat.le_of_ble_eq_true rfl) rfl ?_
      refine go_iconst C 1 dL_frames_13 kc_i1 ?_
      exact go_xiret C dL_frames_14 hw (Nat.le_of_ble_eq_true rfl) (Nat.le_of_ble_eq_true rfl)
  refine go_i2l C dL_frames_7 ?_
  obtain ⟨a6, e9, hw9⟩ := hw
  subst e9
  have hw := hw9
  clear hw9
  refine go_lastore C dL_frames_8 hw (fun h7 hw => ?_)
  refine go_goto C 15 dL_frames_9 (by decide) ?_
  refine go_iconst C 0 dL_frames_15 kc_i0 ?_
  exact go_xiret C dL_frames_16 hw (Nat.le_of_ble_eq_true rfl) (Nat.le_of_ble_eq_true rfl)
/-- law: pages(LDuelSchema;I[J)I -/
def w_L_pages (N : Nat) (p0 : Option Nat) (p1 : Int32) (p2 : Option Nat) (h0 : Hp) (K : Int32 → Hp → Prop) : Prop :=
  nn p0 fun a1 => cv h0 a1 11 <| w_X11_pages N a1 p1 h0 (fun v2 h3 =>
  nn p2 fun a6 => sL h3 a6 0 ((v2 : Int32).toInt64) fun h7 =>
  K 0 h7) (fun E h4 => (E = "java/lang/IndexOutOfBoundsException" ∧ K 1 h4))
abbrev rmL_pages : Room := { frames := 10, cells := 1, slots := 6, locals := 183 }
theorem vL_pages : SHI yL_pages cL_pages 4 (some .int) [(0, 9, 12, 21)] 3 := ⟨tw5_130, tw1_0, tw5_131, by decide +kernel⟩
set_option maxHeartbeats 4000000 in
theorem m_L_pages {G : Gp} (l : Launch) (hfl : l.stackTraces = false) (N : Nat) {p0 : Option Nat} {p1 : Int32} {p2 : Option Nat} {h0 : Hp} {K : Int32 → Hp → Prop} (hw : w_L_pages N p0 p1 p2 h0 K) : MH G l yL_pages cL_pages 4 (some .int) [(0, 9, 12, 21)] rmL_pages [rV p0, iV p1, rV p2] h0 (QI G K) := by
  refine go_hmet l hfl _ 4 _ _ rfl (by decide +kernel) (Nat.le_of_ble_eq_true rfl) [(0, rV p0), (1, iV p1), (2, rV p2)] rfl (fun X hX C htab => ?_)
  subst hX
  unfold w_L_pages at hw
  refine go_aload_n C dL_pages_0 2 rfl ?_
  refine go_iconst C 0 dL_pages_1 kc_i0 ?_
  refine go_aload_n C dL_pages_2 0 rfl ?_
  refine go_iload_n C dL_pages_3 1 rfl ?_
  obtain ⟨a1, e9, hw9⟩ := hw
  subst e9
  have hw := hw9
  clear hw9
  refine go_hcall_i C [iV p1] vX11_pages tw5_132 (ci := 11) rfl (m_X11_pages (xl X) C.2.2.2.2.2.2.2.1 N hw.2) ⟨Nat.le_of_ble_eq_true rfl, Nat.le_of_ble_eq_true rfl, Nat.le_of_ble_eq_true rfl, Nat.le_of_ble_eq_true rfl⟩ hw.1 dL_pages_4 rfl (Nat.le_of_ble_eq_true rfl) rfl (fun E h4 q5 hw => ?_) (fun v2 h3 hw => ?_)
  · rcases hw with ⟨rfl, hw⟩
    · refine go_catch C (tableOf []) ⟨0, 9, 12, 21⟩ (tableOf []) (by rw [htab]; rfl) (fun z hz => by cases hz) (by decide) (by decide) tw4_155 tw4_193 ?_
      refine go_astore_n C [(3, rV (some q5)), (0, rV (some a1)), (1, iV p1), (2, rV p2)] dL_pages_12 (Nat.le_of_ble_eq_true rfl) rfl ?_
      refine go_iconst C 1 dL_pages_13 kc_i1 ?_
      exact go_xiret C dL_pages_14 hw (Nat.le_of_ble_eq_true rfl) (Nat.le_of_ble_eq_true rfl)
  refine go_i2l C dL_pages_7 ?_
  obtain ⟨a6, e9, hw9⟩ := hw
  subst e9
  have hw := hw9
  clear hw9
  refine go_lastore C dL_pages_8 hw (fun h7 hw => ?_)
  refine go_goto C 15 dL_pages_9 (by decide) ?_
  refine go_iconst C 0 dL_pages_15 kc_i0 ?_
  exact go_xiret C dL_pages_16 hw (Nat.le_of_ble_eq_true rfl) (Nat.le_of_ble_eq_true rfl)
/-- law: value(LDuelSchema;III[J)I -/
def w_L_value (N : Nat) (p0 : Option Nat) (p1 : Int32) (p2 : Int32) (p3 : Int32) (p4 : Option Nat) (h0 : Hp) (K : Int32 → Hp → Prop) : Prop :=
  nn p0 fun a1 => cv h0 a1 11 <| w_X11_value N a1 p1 p2 p3 h0 (fun v2 h3 =>
  nn p4 fun a6 => sL h3 a6 0 ((v2 : Int32).toInt64) fun h7 =>
  K 0 h7) (fun E h4 => (E = "java/lang/IndexOutOfBoundsException" ∧ K 1 h4) ∨ (E = "java/lang/IllegalArgumentException" ∧ K 2 h4) ∨ (E = "java/util/NoSuchElementException" ∧ K 3 h4))
abbrev rmL_value : Room := { frames := 10, cells := 2, slots := 12, locals := 186 }
theorem vL_value : SHI yL_value cL_value 6 (some .int) [(0, 12, 15, 21), (0, 12, 19, 13), (0, 12, 23, 30)] 5 := ⟨tw5_138, tw1_0, tw5_139, by decide +kernel⟩
set_option maxHeartbeats 4000000 in
theorem m_L_value {G : Gp} (l : Launch) (hfl : l.stackTraces = false) (N : Nat) {p0 : Option Nat} {p1 : Int32} {p2 : Int32} {p3 : Int32} {p4 : Option Nat} {h0 : Hp} {K : Int32 → Hp → Prop} (hw : w_L_value N p0 p1 p2 p3 p4 h0 K) : MH G l yL_value cL_value 6 (some .int) [(0, 12, 15, 21), (0, 12, 19, 13), (0, 12, 23, 30)] rmL_value [rV p0, iV p1, iV p2, iV p3, rV p4] h0 (QI G K) := by
  refine go_hmet l hfl _ 6 _ _ rfl (by decide +kernel) (Nat.le_of_ble_eq_true rfl) [(0, rV p0), (1, iV p1), (2, iV p2), (3, iV p3), (4, rV p4)] rfl (fun X hX C htab => ?_)
  subst hX
  unfold w_L_value at hw
  refine go_aload C dL_value_0 4 rfl ?_
  refine go_iconst C 0 dL_value_2 kc_i0 ?_
  refine go_aload_n C dL_value_3 0 rfl ?_
  refine go_iload_n C dL_value_4 1 rfl ?_
  refine go_iload_n C dL_value_5 2 rfl ?_
  refine go_iload_n C dL_value_6 3 rfl ?_
  obtain ⟨a1, e9, hw9⟩ := hw
  subst e9
  have hw := hw9
  clear hw9
  refine go_hcall_i C [iV p1, iV p2, iV p3] vX11_value tw5_140 (ci := 11) rfl (m_X11_value (xl X) C.2.2.2.2.2.2.2.1 N hw.2) ⟨Nat.le_of_ble_eq_true rfl, Nat.le_of_ble_eq_true rfl, Nat.le_of_ble_eq_true rfl, Nat.le_of_ble_eq_true rfl⟩ hw.1 dL_value_7 rfl (Nat.le_of_ble_eq_true rfl) rfl (fun E h4 q5 hw => ?_) (fun v2 h3 hw => ?_)
  · rcases hw with ⟨rfl, hw⟩ | ⟨rfl, hw⟩ | ⟨rfl, hw⟩
    · refine go_catch C (tableOf []) ⟨0, 12, 15, 21⟩ (tableOf [(0, 12, 19, 13), (0, 12, 23, 30)]) (by rw [htab]; rfl) (fun z hz => by cases hz) (by decide) (by decide) tw4_155 tw4_193 ?_
      refine go_astore C [(5, rV (some q5)), (0, rV (some a1)), (1, iV p1), (2, iV p2), (3, iV p3), (4, rV p4)] dL_value_15 (Nat.le_of_ble_eq_true rfl) rfl ?_
      refine go_iconst C 1 dL_value_17 kc_i1 ?_
      exact go_xiret C dL_value_18 hw (Nat.le_of_ble_eq_true rfl) (Nat.le_of_ble_eq_true rfl)
    · refine go_catch C (tableOf [(0, 12, 15, 21)]) ⟨0, 12, 19, 13⟩ (tableOf [(0, 12, 23, 30)]) (by rw [htab]; rfl) (fun z hz => by
      simp only [tableOf, List.map_cons, List.map_nil, List.mem_cons, List.not_mem_nil, or_false] at hz
      rcases hz with rfl
      · exact ⟨by decide, _, tw4_155, by decide⟩) (by decide) (by decide) tw4_8 tw4_16 ?_
      refine go_astore C [(5, rV (some q5)), (0, rV (some a1)), (1, iV p1), (2, iV p2), (3, iV p3), (4, rV p4)] dL_value_19 (Nat.le_of_ble_eq_true rfl) rfl ?_
      refine go_iconst C 2 dL_value_21 kc_i2 ?_
      exact go_xiret C dL_value_22 hw (Nat.le_of_ble_eq_true rfl) (Nat.le_of_ble_eq_true rfl)
    · refine go_catch C (tableOf [(0, 12, 15, 21), (0, 12, 19, 13)]) ⟨0, 12, 23, 30⟩ (tableOf []) (by rw [htab]; rfl) (fun z hz => by
      simp only [tableOf, List.map_cons, List.map_nil, List.mem_cons, List.not_mem_nil, or_false] at hz
      rcases hz with rfl | rfl
      · exact ⟨by decide, _, tw4_155, by decide⟩
      · exact ⟨by decide, _, tw4_8, by decide⟩) (by decide) (by decide) tw5_26 tw5_34 ?_
      refine go_astore C [(5, rV (some q5)), (0, rV (some a1)), (1, iV p1), (2, iV p2), (3, iV p3), (4, rV p4)] dL_value_23 (Nat.le_of_ble_eq_true rfl) rfl ?_
      refine go_iconst C 3 dL_value_25 kc_i3 ?_
      exact go_xiret C dL_value_26 hw (Nat.le_of_ble_eq_true rfl) (Nat.le_of_ble_eq_true rfl)
  refine go_i2l C dL_value_10 ?_
  obtain ⟨a6, e9, hw9⟩ := hw
  subst e9
  have hw := hw9
  clear hw9
  refine go_lastore C dL_value_11 hw (fun h7 hw => ?_)
  refine go_goto C 27 dL_value_12 (by decide) ?_
  refine go_iconst C 0 dL_value_27 kc_i0 ?_
  exact go_xiret C dL_value_28 hw (Nat.le_of_ble_eq_true rfl) (Nat.le_of_ble_eq_true rfl)
/-- law: entries(LDuelSchema;I[J)I -/
def w_L_entries (N : Nat) (p0 : Option Nat) (p1 : Int32) (p2 : Option Nat) (h0 : Hp) (K : Int32 → Hp → Prop) : Prop :=
  nn p0 fun a1 => cv h0 a1 11 <| w_X11_entries N a1 p1 h0 (fun v2 h3 =>
  nn p2 fun a6 => sL h3 a6 0 ((v2 : Int32).toInt64) fun h7 =>
  K 0 h7) (fun E h4 => (E = "java/lang/IndexOutOfBoundsException" ∧ K 1 h4))
abbrev rmL_entries : Room := { frames := 10, cells := 1, slots := 6, locals := 183 }
theorem vL_entries : SHI yL_entries cL_entries 4 (some .int) [(0, 9, 12, 21)] 3 := ⟨tw5_146, tw1_0, tw5_147, by decide +kernel⟩
set_option maxHeartbeats 4000000 in
theorem m_L_entries {G : Gp} (l : Launch) (hfl : l.stackTraces = false) (N : Nat) {p0 : Option Nat} {p1 : Int32} {p2 : Option Nat} {h0 : Hp} {K : Int32 → Hp → Prop} (hw : w_L_entries N p0 p1 p2 h0 K) : MH G l yL_entries cL_entries 4 (some .int) [(0, 9, 12, 21)] rmL_entries [rV p0, iV p1, rV p2] h0 (QI G K) := by
  refine go_hmet l hfl _ 4 _ _ rfl (by decide +kernel) (Nat.le_of_ble_eq_true rfl) [(0, rV p0), (1, iV p1), (2, rV p2)] rfl (fun X hX C htab => ?_)
  subst hX
  unfold w_L_entries at hw
  refine go_aload_n C dL_entries_0 2 rfl ?_
  refine go_iconst C 0 dL_entries_1 kc_i0 ?_
  refine go_aload_n C dL_entries_2 0 rfl ?_
  refine go_iload_n C dL_entries_3 1 rfl ?_
  obtain ⟨a1, e9, hw9⟩ := hw
  subst e9
  have hw := hw9
  clear hw9
  refine go_hcall_i C [iV p1] vX11_entries tw5_148 (ci := 11) rfl (m_X11_entries (xl X) C.2.2.2.2.2.2.2.1 N hw.2) ⟨Nat.le_of_ble_eq_true rfl, Nat.le_of_ble_eq_true rfl, Nat.le_of_ble_eq_true rfl, Nat.le_of_ble_eq_true rfl⟩ hw.1 dL_entries_4 rfl (Nat.le_of_ble_eq_true rfl) rfl (fun E h4 q5 hw => ?_) (fun v2 h3 hw => ?_)
  · rcases hw with ⟨rfl, hw⟩
    · refine go_catch C (tableOf []) ⟨0, 9, 12, 21⟩ (tableOf []) (by rw [htab]; rfl) (fun z hz => by cases hz) (by decide) (by decide) tw4_155 tw4_193 ?_
      refine go_astore_n C [(3, rV (some q5)), (0, rV (some a1)), (1, iV p1), (2, rV p2)] dL_entries_12 (Nat.le_of_ble_eq_true rfl) rfl ?_
      refine go_iconst C 1 dL_entries_13 kc_i1 ?_
      exact go_xiret C dL_entries_14 hw (Nat.le_of_ble_eq_true rfl) (Nat.le_of_ble_eq_true rfl)
  refine go_i2l C dL_entries_7 ?_
  obtain ⟨a6, e9, hw9⟩ := hw
  subst e9
  have hw := hw9
  clear hw9
  refine go_lastore C dL_entries_8 hw (fun h7 hw => ?_)
  refine go_goto C 15 dL_entries_9 (by decide) ?_
  refine go_iconst C 0 dL_entries_15 kc_i0 ?_
  exact go_xiret C dL_entries_16 hw (Nat.le_of_ble_eq_true rfl) (Nat.le_of_ble_eq_true rfl)
/-- law: entryAt(LDuelSchema;II[J)I -/
def w_L_entryAt (N : Nat) (p0 : Option Nat) (p1 : Int32) (p2 : Int32) (p3 : Option Nat) (h0 : Hp) (K : Int32 → Hp → Prop) : Prop :=
  nn p0 fun a1 => cv h0 a1 11 <| w_X11_entryAt N a1 p1 p2 h0 (fun v2 h3 =>
  nn p3 fun a6 => sL h3 a6 0 ((v2 : Int32).toInt64) fun h7 =>
  K 0 h7) (fun E h4 => (E = "java/lang/IndexOutOfBoundsException" ∧ K 1 h4) ∨ (E = "java/util/NoSuchElementException" ∧ K 2 h4))
abbrev rmL_entryAt : Room := { frames := 10, cells := 2, slots := 12, locals := 185 }
theorem vL_entryAt : SHI yL_entryAt cL_entryAt 5 (some .int) [(0, 10, 13, 21), (0, 10, 17, 30)] 4 := ⟨tw5_159, tw1_0, tw5_160, by decide +kernel⟩
set_option maxHeartbeats 4000000 in
theorem m_L_entryAt {G : Gp} (l : Launch) (hfl : l.stackTraces = false) (N : Nat) {p0 : Option Nat} {p1 : Int32} {p2 : Int32} {p3 : Option Nat} {h0 : Hp} {K : Int32 → Hp → Prop} (hw : w_L_entryAt N p0 p1 p2 p3 h0 K) : MH G l yL_entryAt cL_entryAt 5 (some .int) [(0, 10, 13, 21), (0, 10, 17, 30)] rmL_entryAt [rV p0, iV p1, iV p2, rV p3] h0 (QI G K) := by
  refine go_hmet l hfl _ 5 _ _ rfl (by decide +kernel) (Nat.le_of_ble_eq_true rfl) [(0, rV p0), (1, iV p1), (2, iV p2), (3, rV p3)] rfl (fun X hX C htab => ?_)
  subst hX
  unfold w_L_entryAt at hw
  refine go_aload_n C dL_entryAt_0 3 rfl ?_
  refine go_iconst C 0 dL_entryAt_1 kc_i0 ?_
  refine go_aload_n C dL_entryAt_2 0 rfl ?_
  refine go_iload_n C dL_entryAt_3 1 rfl ?_
  refine go_iload_n C dL_entryAt_4 2 rfl ?_
  obtain ⟨a1, e9, hw9⟩ := hw
  subst e9
  have hw := hw9
  clear hw9
  refine go_hcall_i C [iV p1, iV p2] vX11_entryAt tw5_161 (ci := 11) rfl (m_X11_entryAt (xl X) C.2.2.2.2.2.2.2.1 N hw.2) ⟨Nat.le_of_ble_eq_true rfl, Nat.le_of_ble_eq_true rfl, Nat.le_of_ble_eq_true rfl, Nat.le_of_ble_eq_true rfl⟩ hw.1 dL_entryAt_5 rfl (Nat.le_of_ble_eq_true rfl) rfl (fun E h4 q5 hw => ?_) (fun v2 h3 hw => ?_)
  · rcases hw with ⟨rfl, hw⟩ | ⟨rfl, hw⟩
    · refine go_catch C (tableOf []) ⟨0, 10, 13, 21⟩ (tableOf [(0, 10, 17, 30)]) (by rw [htab]; rfl) (fun z hz => by cases hz) (by decide) (by decide) tw4_155 tw4_193 ?_
      refine go_astore C [(4, rV (some q5)), (0, rV (some a1)), (1, iV p1), (2, iV p2), (3, rV p3)] dL_entryAt_13 (Nat.le_of_ble_eq_true rfl) rfl ?_
      refine go_iconst C 1 dL_entryAt_15 kc_i1 ?_
      exact go_xiret C dL_entryAt_16 hw (Nat.le_of_ble_eq_true rfl) (Nat.le_of_ble_eq_true rfl)
    · refine go_catch C (tableOf [(0, 10, 13, 21)]) ⟨0, 10, 17, 30⟩ (tableOf []) (by rw [htab]; rfl) (fun z hz => by
      simp only [tableOf, List.map_cons, List.map_nil, List.mem_cons, List.not_mem_nil, or_false] at hz
      rcases hz with rfl
      · exact ⟨by decide, _, tw4_155, by decide⟩) (by decide) (by decide) tw5_26 tw5_34 ?_
      refine go_astore C [(4, rV (some q5)), (0, rV (some a1)), (1, iV p1), (2, iV p2), (3, rV p3)] dL_entryAt_17 (Nat.le_of_ble_eq_true rfl) rfl ?_
      refine go_iconst C 2 dL_entryAt_19 kc_i2 ?_
      exact go_xiret C dL_entryAt_20 hw (Nat.le_of_ble_eq_true rfl) (Nat.le_of_ble_eq_true rfl)
  refine go_i2l C dL_entryAt_8 ?_
  obtain ⟨a6, e9, hw9⟩ := hw
  subst e9
  have hw := hw9
  clear hw9
  refine go_lastore C dL_entryAt_9 hw (fun h7 hw => ?_)
  refine go_goto C 21 dL_entryAt_10 (by decide) ?_
  refine go_iconst C 0 dL_entryAt_21 kc_i0 ?_
  exact go_xiret C dL_entryAt_22 hw (Nat.le_of_ble_eq_true rfl) (Nat.le_of_ble_eq_true rfl)
/-- law: counted(LDuelSchema;IIC[J)I -/
def w_L_counted (N : Nat) (p0 : Option Nat) (p1 : Int32) (p2 : Int32) (p3 : Int32) (p4 : Option Nat) (h0 : Hp) (K : Int32 → Hp → Prop) : Prop :=
  nn p0 fun a1 => cv h0 a1 11 <| w_X11_counted N a1 p1 p2 p3 h0 (fun v2 h3 =>
  nn p4 fun a6 => sL h3 a6 0 ((v2 : Int32).toInt64) fun h7 =>
  K 0 h7) (fun E h4 => (E = "java/lang/IndexOutOfBoundsException" ∧ K 1 h4) ∨ (E = "java/lang/IllegalArgumentException" ∧ K 2 h4))
abbrev rmL_counted : Room := { frames := 10, cells := 2, slots := 12, locals := 186 }
theorem vL_counted : SHI yL_counted cL_counted 6 (some .int) [(0, 12, 15, 21), (0, 12, 19, 13)] 5 := ⟨tw5_168, tw1_0, tw5_169, by decide +kernel⟩
set_option maxHeartbeats 4000000 in
theorem m_L_counted {G : Gp} (l : Launch) (hfl : l.stackTraces = false) (N : Nat) {p0 : Option Nat} {p1 : Int32} {p2 : Int32} {p3 : Int32} {p4 : Option Nat} {h0 : Hp} {K : Int32 → Hp → Prop} (hw : w_L_counted N p0 p1 p2 p3 p4 h0 K) : MH G l yL_counted cL_counted 6 (some .int) [(0, 12, 15, 21), (0, 12, 19, 13)] rmL_counted [rV p0, iV p1, iV p2, iV p3, rV p4] h0 (QI G K) := by
  refine go_hmet l hfl _ 6 _ _ rfl (by decide +kernel) (Nat.le_of_ble_eq_true rfl) [(0, rV p0), (1, iV p1), (2, iV p2), (3, iV p3), (4, rV p4)] rfl (fun X hX C htab => ?_)
  subst hX
  unfold w_L_counted at hw
  refine go_aload C dL_counted_0 4 rfl ?_
  refine go_iconst C 0 dL_counted_2 kc_i0 ?_
  refine go_aload_n C dL_counted_3 0 rfl ?_
  refine go_iload_n C dL_counted_4 1 rfl ?_
  refine go_iload_n C dL_counted_5 2 rfl ?_
  refine go_iload_n C dL_counted_6 3 rfl ?_
  obtain ⟨a1, e9, hw9⟩ := hw
  subst e9
  have hw := hw9
  clear hw9
  refine go_hcall_i C [iV p1, iV p2, iV p3] vX11_counted tw5_170 (ci := 11) rfl (m_X11_counted (xl X) C.2.2.2.2.2.2.2.1 N hw.2) ⟨Nat.le_of_ble_eq_true rfl, Nat.le_of_ble_eq_true rfl, Nat.le_of_ble_eq_true rfl, Nat.le_of_ble_eq_true rfl⟩ hw.1 dL_counted_7 rfl (Nat.le_of_ble_eq_true rfl) rfl (fun E h4 q5 hw => ?_) (fun v2 h3 hw => ?_)
  · rcases hw with ⟨rfl, hw⟩ | ⟨rfl, hw⟩
    · refine go_catch C (tableOf []) ⟨0, 12, 15, 21⟩ (tableOf [(0, 12, 19, 13)]) (by rw [htab]; rfl) (fun z hz => by cases hz) (by decide) (by decide) tw4_155 tw4_193 ?_
      refine go_astore C [(5, rV (some q5)), (0, rV (some a1)), (1, iV p1), (2, iV p2), (3, iV p3), (4, rV p4)] dL_counted_15 (Nat.le_of_ble_eq_true rfl) rfl ?_
      refine go_iconst C 1 dL_counted_17 kc_i1 ?_
      exact go_xiret C dL_counted_18 hw (Nat.le_of_ble_eq_true rfl) (Nat.le_of_ble_eq_true rfl)
    · refine go_catch C (tableOf [(0, 12, 15, 21)]) ⟨0, 12, 19, 13⟩ (tableOf []) (by rw [htab]; rfl) (fun z hz => by
      simp only [tableOf, List.map_cons, List.map_nil, List.mem_cons, List.not_mem_nil, or_false] at hz
      rcases hz with rfl
      · exact ⟨by decide, _, tw4_155, by decide⟩) (by decide) (by decide) tw4_8 tw4_16 ?_
      refine go_astore C [(5, rV (some q5)), (0, rV (some a1)), (1, iV p1), (2, iV p2), (3, iV p3), (4, rV p4)] dL_counted_19 (Nat.le_of_ble_eq_true rfl) rfl ?_
      refine go_iconst C 2 dL_counted_21 kc_i2 ?_
      exact go_xiret C dL_counted_22 hw (Nat.le_of_ble_eq_true rfl) (Nat.le_of_ble_eq_true rfl)
  refine go_i2l C dL_counted_10 ?_
  obtain ⟨a6, e9, hw9⟩ := hw
  subst e9
  have hw := hw9
  clear hw9
  refine go_lastore C dL_counted_11 hw (fun h7 hw => ?_)
  refine go_goto C 23 dL_counted_12 (by decide) ?_
  refine go_iconst C 0 dL_counted_23 kc_i0 ?_
  exact go_xiret C dL_counted_24 hw (Nat.le_of_ble_eq_true rfl) (Nat.le_of_ble_eq_true rfl)
/-- law: cachedAt(LDuelSchema;I[J)I -/
def w_L_cachedAt (N : Nat) (p0 : Option Nat) (p1 : Int32) (p2 : Option Nat) (h0 : Hp) (K : Int32 → Hp → Prop) : Prop :=
  nn p0 fun a1 => cv h0 a1 11 <| w_X11_cachedAt N a1 p1 h0 (fun v2 h3 =>
  nn p2 fun a6 => sL h3 a6 0 ((v2 : Int32).toInt64) fun h7 =>
  K 0 h7) (fun E h4 => (E = "java/util/NoSuchElementException" ∧ K 1 h4))
abbrev rmL_cachedAt : Room := { frames := 9, cells := 1, slots := 6, locals := 162 }
theorem vL_cachedAt : SHI yL_cachedAt cL_cachedAt 4 (some .int) [(0, 9, 12, 30)] 3 := ⟨tw5_180, tw1_0, tw5_181, by decide +kernel⟩
set_option maxHeartbeats 4000000 in
theorem m_L_cachedAt {G : Gp} (l : Launch) (hfl : l.stackTraces = false) (N : Nat) {p0 : Option Nat} {p1 : Int32} {p2 : Option Nat} {h0 : Hp} {K : Int32 → Hp → Prop} (hw : w_L_cachedAt N p0 p1 p2 h0 K) : MH G l yL_cachedAt cL_cachedAt 4 (some .int) [(0, 9, 12, 30)] rmL_cachedAt [rV p0, iV p1, rV p2] h0 (QI G K) := by
  refine go_hmet l hfl _ 4 _ _ rfl (by decide +kernel) (Nat.le_of_ble_eq_true rfl) [(0, rV p0), (1, iV p1), (2, rV p2)] rfl (fun X hX C htab => ?_)
  subst hX
  unfold w_L_cachedAt at hw
  refine go_aload_n C dL_cachedAt_0 2 rfl ?_
  refine go_iconst C 0 dL_cachedAt_1 kc_i0 ?_
  refine go_aload_n C dL_cachedAt_2 0 rfl ?_
  refine go_iload_n C dL_cachedAt_3 1 rfl ?_
  obtain ⟨a1, e9, hw9⟩ := hw
  subst e9
  have hw := hw9
  clear hw9
  refine go_hcall_i C [iV p1] vX11_cachedAt tw5_182 (ci := 11) rfl (m_X11_cachedAt (xl X) C.2.2.2.2.2.2.2.1 N hw.2) ⟨Nat.le_of_ble_eq_true rfl, Nat.le_of_ble_eq_true rfl, Nat.le_of_ble_eq_true rfl, Nat.le_of_ble_eq_true rfl⟩ hw.1 dL_cachedAt_4 rfl (Nat.le_of_ble_eq_true rfl) rfl (fun E h4 q5 hw => ?_) (fun v2 h3 hw => ?_)
  · rcases hw with ⟨rfl, hw⟩
    · refine go_catch C (tableOf []) ⟨0, 9, 12, 30⟩ (tableOf []) (by rw [htab]; rfl) (fun z hz => by cases hz) (by decide) (by decide) tw5_26 tw5_34 ?_
      refine go_astore_n C [(3, rV (some q5)), (0, rV (some a1)), (1, iV p1), (2, rV p2)] dL_cachedAt_12 (Nat.le_of_ble_eq_true rfl) rfl ?_
      refine go_iconst C 1 dL_cachedAt_13 kc_i1 ?_
      exact go_xiret C dL_cachedAt_14 hw (Nat.le_of_ble_eq_true rfl) (Nat.le_of_ble_eq_true rfl)
  refine go_i2l C dL_cachedAt_7 ?_
  obtain ⟨a6, e9, hw9⟩ := hw
  subst e9
  have hw := hw9
  clear hw9
  refine go_lastore C dL_cachedAt_8 hw (fun h7 hw => ?_)
  refine go_goto C 15 dL_cachedAt_9 (by decide) ?_
  refine go_iconst C 0 dL_cachedAt_15 kc_i0 ?_
  exact go_xiret C dL_cachedAt_16 hw (Nat.le_of_ble_eq_true rfl) (Nat.le_of_ble_eq_true rfl)
/-- law: query(LDuelSchema;[J)I -/
def w_L_query (N : Nat) (p0 : Option Nat) (p1 : Option Nat) (h0 : Hp) (K : Int32 → Hp → Prop) : Prop :=
  nn p0 fun a1 => cv h0 a1 11 <| w_X11_query N a1  h0 (fun v2 h3 =>
  nn p1 fun a6 => sL h3 a6 0 ((v2 : Int32).toInt64) fun h7 =>
  K 0 h7) (fun E h4 => (E = "java/lang/IllegalStateException" ∧ K 1 h4))
abbrev rmL_query : Room := { frames := 9, cells := 4, slots := 16, locals := 161 }
theorem vL_query : SHI yL_query cL_query 3 (some .int) [(0, 8, 11, 15)] 2 := ⟨tw5_188, tw1_0, tw5_189, by decide +kernel⟩
set_option maxHeartbeats 4000000 in
theorem m_L_query {G : Gp} (l : Launch) (hfl : l.stackTraces = false) (N : Nat) {p0 : Option Nat} {p1 : Option Nat} {h0 : Hp} {K : Int32 → Hp → Prop} (hw : w_L_query N p0 p1 h0 K) : MH G l yL_query cL_query 3 (some .int) [(0, 8, 11, 15)] rmL_query [rV p0, rV p1] h0 (QI G K) := by
  refine go_hmet l hfl _ 3 _ _ rfl (by decide +kernel) (Nat.le_of_ble_eq_true rfl) [(0, rV p0), (1, rV p1)] rfl (fun X hX C htab => ?_)
  subst hX
  unfold w_L_query at hw
  refine go_aload_n C dL_query_0 1 rfl ?_
  refine go_iconst C 0 dL_query_1 kc_i0 ?_
  refine go_aload_n C dL_query_2 0 rfl ?_
  obtain ⟨a1, e9, hw9⟩ := hw
  subst e9
  have hw := hw9
  clear hw9
  refine go_hcall_i C [] vX11_query tw5_190 (ci := 11) rfl (m_X11_query (xl X) C.2.2.2.2.2.2.2.1 N hw.2) ⟨Nat.le_of_ble_eq_true rfl, Nat.le_of_ble_eq_true rfl, Nat.le_of_ble_eq_true rfl, Nat.le_of_ble_eq_true rfl⟩ hw.1 dL_query_3 rfl (Nat.le_of_ble_eq_true rfl) rfl (fun E h4 q5 hw => ?_) (fun v2 h3 hw => ?_)
  · rcases hw with ⟨rfl, hw⟩
    · refine go_catch C (tableOf []) ⟨0, 8, 11, 15⟩ (tableOf []) (by rw [htab]; rfl) (fun z hz => by cases hz) (by decide) (by decide) tw4_9 tw4_138 ?_
      refine go_astore_n C [(2, rV (some q5)), (0, rV (some a1)), (1, rV p1)] dL_query_11 (Nat.le_of_ble_eq_true rfl) rfl ?_
      refine go_iconst C 1 dL_query_12 kc_i1 ?_
      exact go_xiret C dL_query_13 hw (Nat.le_of_ble_eq_true rfl) (Nat.le_of_ble_eq_true rfl)
  refine go_i2l C dL_query_6 ?_
  obtain ⟨a6, e9, hw9⟩ := hw
  subst e9
  have hw := hw9
  clear hw9
  refine go_lastore C dL_query_7 hw (fun h7 hw => ?_)
  refine go_goto C 14 dL_query_8 (by decide) ?_
  refine go_iconst C 0 dL_query_14 kc_i0 ?_
  exact go_xiret C dL_query_15 hw (Nat.le_of_ble_eq_true rfl) (Nat.le_of_ble_eq_true rfl)
/-- law: from(LDuelSchema;II[J)I -/
def w_L_from (N : Nat) (p0 : Option Nat) (p1 : Int32) (p2 : Int32) (p3 : Option Nat) (h0 : Hp) (K : Int32 → Hp → Prop) : Prop :=
  nn p0 fun a1 => cv h0 a1 11 <| w_X11_from N a1 p1 p2 h0 (fun v2 h3 =>
  nn p3 fun a6 => sL h3 a6 0 ((v2 : Int32).toInt64) fun h7 =>
  K 0 h7) (fun E h4 => (E = "java/lang/IndexOutOfBoundsException" ∧ K 1 h4) ∨ (E = "java/lang/IllegalStateException" ∧ K 2 h4))
abbrev rmL_from : Room := { frames := 10, cells := 3, slots := 18, locals := 186 }
theorem vL_from : SHI yL_from cL_from 5 (some .int) [(0, 10, 13, 21), (0, 10, 17, 15)] 4 := ⟨tw5_225, tw1_0, tw5_226, by decide +kernel⟩
set_option maxHeartbeats 4000000 in
theorem m_L_from {G : Gp} (l : Launch) (hfl : l.stackTraces = false) (N : Nat) {p0 : Option Nat} {p1 : Int32} {p2 : Int32} {p3 : Option Nat} {h0 : Hp} {K : Int32 → Hp → Prop} (hw : w_L_from N p0 p1 p2 p3 h0 K) : MH G l yL_from cL_from 5 (some .int) [(0, 10, 13, 21), (0, 10, 17, 15)] rmL_from [rV p0, iV p1, iV p2, rV p3] h0 (QI G K) := by
  refine go_hmet l hfl _ 5 _ _ rfl (by decide +kernel) (Nat.le_of_ble_eq_true rfl) [(0, rV p0), (1, iV p1), (2, iV p2), (3, rV p3)] rfl (fun X hX C htab => ?_)
  subst hX
  unfold w_L_from at hw
  refine go_aload_n C dL_from_0 3 rfl ?_
  refine go_iconst C 0 dL_from_1 kc_i0 ?_
  refine go_aload_n C dL_from_2 0 rfl ?_
  refine go_iload_n C dL_from_3 1 rfl ?_
  refine go_iload_n C dL_from_4 2 rfl ?_
  obtain ⟨a1, e9, hw9⟩ := hw
  subst e9
  have hw := hw9
  clear hw9
  refine go_hcall_i C [iV p1, iV p2] vX11_from tw5_227 (ci := 11) rfl (m_X11_from (xl X) C.2.2.2.2.2.2.2.1 N hw.2) ⟨Nat.le_of_ble_eq_true rfl, Nat.le_of_ble_eq_true rfl, Nat.le_of_ble_eq_true rfl, Nat.le_of_ble_eq_true rfl⟩ hw.1 dL_from_5 rfl (Nat.le_of_ble_eq_true rfl) rfl (fun E h4 q5 hw => ?_) (fun v2 h3 hw => ?_)
  · rcases hw with ⟨rfl, hw⟩ | ⟨rfl, hw⟩
    · refine go_catch C (tableOf []) ⟨0, 10, 13, 21⟩ (tableOf [(0, 10, 17, 15)]) (by rw [htab]; rfl) (fun z hz => by cases hz) (by decide) (by decide) tw4_155 tw4_193 ?_
      refine go_astore C [(4, rV (some q5)), (0, rV (some a1)), (1, iV p1), (2, iV p2), (3, rV p3)] dL_from_13 (Nat.le_of_ble_eq_true rfl) rfl ?_
      refine go_iconst C 1 dL_from_15 kc_i1 ?_
      exact go_xiret C dL_from_16 hw (Nat.le_of_ble_eq_true rfl) (Nat.le_of_ble_eq_true rfl)
    · refine go_catch C (tableOf [(0, 10, 13, 21)]) ⟨0, 10, 17, 15⟩ (tableOf []) (by rw [htab]; rfl) (fun z hz => by
      simp only [tableOf, List.map_cons, List.map_nil, List.mem_cons, List.not_mem_nil, or_false] at hz
      rcases hz with rfl
      · exact ⟨by decide, _, tw4_155, by decide⟩) (by decide) (by decide) tw4_9 tw4_138 ?_
      refine go_astore C [(4, rV (some q5)), (0, rV (some a1)), (1, iV p1), (2, iV p2), (3, rV p3)] dL_from_17 (Nat.le_of_ble_eq_true rfl) rfl ?_
      refine go_iconst C 2 dL_from_19 kc_i2 ?_
      exact go_xiret C dL_from_20 hw (Nat.le_of_ble_eq_true rfl) (Nat.le_of_ble_eq_true rfl)
  refine go_i2l C dL_from_8 ?_
  obtain ⟨a6, e9, hw9⟩ := hw
  subst e9
  have hw := hw9
  clear hw9
  refine go_lastore C dL_from_9 hw (fun h7 hw => ?_)
  refine go_goto C 21 dL_from_10 (by decide) ?_
  refine go_iconst C 0 dL_from_21 kc_i0 ?_
  exact go_xiret C dL_from_22 hw (Nat.le_of_ble_eq_true rfl) (Nat.le_of_ble_eq_true rfl)
/-- law: where(LDuelSchema;IIICI[J)I -/
def w_L_where (N : Nat) (p0 : Option Nat) (p1 : Int32) (p2 : Int32) (p3 : Int32) (p4 : Int32) (p5 : Int32) (p6 : Option Nat) (h0 : Hp) (K : Int32 → Hp → Prop) : Prop :=
  nn p0 fun a1 => cv h0 a1 11 <| w_X11_where N a1 p1 p2 p3 p4 p5 h0 (fun v2 h3 =>
  nn p6 fun a6 => sL h3 a6 0 ((v2 : Int32).toInt64) fun h7 =>
  K 0 h7) (fun E h4 => (E = "java/lang/IndexOutOfBoundsException" ∧ K 1 h4) ∨ (E = "java/lang/IllegalArgumentException" ∧ K 2 h4) ∨ (E = "java/lang/IllegalStateException" ∧ K 3 h4))
abbrev rmL_where : Room := { frames := 10, cells := 2, slots := 12, locals := 189 }
theorem vL_where : SHI yL_where cL_where 8 (some .int) [(0, 16, 19, 21), (0, 16, 23, 13), (0, 16, 27, 15)] 7 := ⟨tw6_2, tw1_0, tw6_3, by decide +kernel⟩
set_option maxHeartbeats 4000000 in
theorem m_L_where {G : Gp} (l : Launch) (hfl : l.stackTraces = false) (N : Nat) {p0 : Option Nat} {p1 : Int32} {p2 : Int32} {p3 : Int32} {p4 : Int32} {p5 : Int32} {p6 : Option Nat} {h0 : Hp} {K : Int32 → Hp → Prop} (hw : w_L_where N p0 p1 p2 p3 p4 p5 p6 h0 K) : MH G l yL_where cL_where 8 (some .int) [(0, 16, 19, 21), (0, 16, 23, 13), (0, 16, 27, 15)] rmL_where [rV p0, iV p1, iV p2, iV p3, iV p4, iV p5, rV p6] h0 (QI G K) := by
  refine go_hmet l hfl _ 8 _ _ rfl (by decide +kernel) (Nat.le_of_ble_eq_true rfl) [(0, rV p0), (1, iV p1), (2, iV p2), (3, iV p3), (4, iV p4), (5, iV p5), (6, rV p6)] rfl (fun X hX C htab => ?_)
  subst hX
  unfold w_L_where at hw
  refine go_aload C dL_where_0 6 rfl ?_
  refine go_iconst C 0 dL_where_2 kc_i0 ?_
  refine go_aload_n C dL_where_3 0 rfl ?_
  refine go_iload_n C dL_where_4 1 rfl ?_
  refine go_iload_n C dL_where_5 2 rfl ?_
  refine go_iload_n C dL_where_6 3 rfl ?_
  refine go_iload C dL_where_7 4 rfl ?_
  refine go_iload C dL_where_9 5 rfl ?_
  obtain ⟨a1, e9, hw9⟩ := hw
  subst e9
  have hw := hw9
  clear hw9
  refine go_hcall_i C [iV p1, iV p2, iV p3, iV p4, iV p5] vX11_where tw6_4 (ci := 11) rfl (m_X11_where (xl X) C.2.2.2.2.2.2.2.1 N hw.2) ⟨Nat.le_of_ble_eq_true rfl, Nat.le_of_ble_eq_true rfl, Nat.le_of_ble_eq_true rfl, Nat.le_of_ble_eq_true rfl⟩ hw.1 dL_where_11 rfl (Nat.le_of_ble_eq_true rfl) rfl (fun E h4 q5 hw => ?_) (fun v2 h3 hw => ?_)
  · rcases hw with ⟨rfl, hw⟩ | ⟨rfl, hw⟩ | ⟨rfl, hw⟩
    · refine go_catch C (tableOf []) ⟨0, 16, 19, 21⟩ (tableOf [(0, 16, 23, 13), (0, 16, 27, 15)]) (by rw [htab]; rfl) (fun z hz => by cases hz) (by decide) (by decide) tw4_155 tw4_193 ?_
      refine go_astore C [(7, rV (some q5)), (0, rV (some a1)), (1, iV p1), (2, iV p2), (3, iV p3), (4, iV p4), (5, iV p5), (6, rV p6)] dL_where_19 (Nat.le_of_ble_eq_true rfl) rfl ?_
      refine go_iconst C 1 dL_where_21 kc_i1 ?_
      exact go_xiret C dL_where_22 hw (Nat.le_of_ble_eq_true rfl) (Nat.le_of_ble_eq_true rfl)
    · refine go_catch C (tableOf [(0, 16, 19, 21)]) ⟨0, 16, 23, 13⟩ (tableOf [(0, 16, 27, 15)]) (by rw [htab]; rfl) (fun z hz => by
      simp only [tableOf, List.map_cons, List.map_nil, List.mem_cons, List.not_mem_nil, or_false] at hz
      rcases hz with rfl
      · exact ⟨by decide, _, tw4_155, by decide⟩) (by decide) (by decide) tw4_8 tw4_16 ?_
      refine go_astore C [(7, rV (some q5)), (0, rV (some a1)), (1, iV p1), (2, iV p2), (3, iV p3), (4, iV p4), (5, iV p5), (6, rV p6)] dL_where_23 (Nat.le_of_ble_eq_true rfl) rfl ?_
      refine go_iconst C 2 dL_where_25 kc_i2 ?_
      exact go_xiret C dL_where_26 hw (Nat.le_of_ble_eq_true rfl) (Nat.le_of_ble_eq_true rfl)
    · refine go_catch C (tableOf [(0, 16, 19, 21), (0, 16, 23, 13)]) ⟨0, 16, 27, 15⟩ (tableOf []) (by rw [htab]; rfl) (fun z hz => by
      simp only [tableOf, List.map_cons, List.map_nil, List.mem_cons, List.not_mem_nil, or_false] at hz
      rcases hz with rfl | rfl
      · exact ⟨by decide, _, tw4_155, by decide⟩
      · exact ⟨by decide, _, tw4_8, by decide⟩) (by decide) (by decide) tw4_9 tw4_138 ?_
      refine go_astore C [(7, rV (some q5)), (0, rV (some a1)), (1, iV p1), (2, iV p2), (3, iV p3), (4, iV p4), (5, iV p5), (6, rV p6)] dL_where_27 (Nat.le_of_ble_eq_true rfl) rfl ?_
      refine go_iconst C 3 dL_where_29 kc_i3 ?_
      exact go_xiret C dL_where_30 hw (Nat.le_of_ble_eq_true rfl) (Nat.le_of_ble_eq_true rfl)
  refine go_i2l C dL_where_14 ?_
  obtain ⟨a6, e9, hw9⟩ := hw
  subst e9
  have hw := hw9
  clear hw9
  refine go_lastore C dL_where_15 hw (fun h7 hw => ?_)
  refine go_goto C 31 dL_where_16 (by decide) ?_
  refine go_iconst C 0 dL_where_31 kc_i0 ?_
  exact go_xiret C dL_where_32 hw (Nat.le_of_ble_eq_true rfl) (Nat.le_of_ble_eq_true rfl)
/-- law: join(LDuelSchema;IIIII[J)I -/
def w_L_join (N : Nat) (p0 : Option Nat) (p1 : Int32) (p2 : Int32) (p3 : Int32) (p4 : Int32) (p5 : Int32) (p6 : Option Nat) (h0 : Hp) (K : Int32 → Hp → Prop) : Prop :=
  nn p0 fun a1 => cv h0 a1 11 <| w_X11_join N a1 p1 p2 p3 p4 p5 h0 (fun v2 h3 =>
  nn p6 fun a6 => sL h3 a6 0 ((v2 : Int32).toInt64) fun h7 =>
  K 0 h7) (fun E h4 => (E = "java/lang/IndexOutOfBoundsException" ∧ K 1 h4) ∨ (E = "java/lang/IllegalArgumentException" ∧ K 2 h4) ∨ (E = "java/lang/IllegalStateException" ∧ K 3 h4))
abbrev rmL_join : Room := { frames := 10, cells := 2, slots := 12, locals := 188 }
theorem vL_join : SHI yL_join cL_join 8 (some .int) [(0, 16, 19, 21), (0, 16, 23, 13), (0, 16, 27, 15)] 7 := ⟨tw6_41, tw1_0, tw6_42, by decide +kernel⟩
set_option maxHeartbeats 4000000 in
theorem m_L_join {G : Gp} (l : Launch) (hfl : l.stackTraces = false) (N : Nat) {p0 : Option Nat} {p1 : Int32} {p2 : Int32} {p3 : Int32} {p4 : Int32} {p5 : Int32} {p6 : Option Nat} {h0 : Hp} {K : Int32 → Hp → Prop} (hw : w_L_join N p0 p1 p2 p3 p4 p5 p6 h0 K) : MH G l yL_join cL_join 8 (some .int) [(0, 16, 19, 21), (0, 16, 23, 13), (0, 16, 27, 15)] rmL_join [rV p0, iV p1, iV p2, iV p3, iV p4, iV p5, rV p6] h0 (QI G K) := by
  refine go_hmet l hfl _ 8 _ _ rfl (by decide +kernel) (Nat.le_of_ble_eq_true rfl) [(0, rV p0), (1, iV p1), (2, iV p2), (3, iV p3), (4, iV p4), (5, iV p5), (6, rV p6)] rfl (fun X hX C htab => ?_)
  subst hX
  unfold w_L_join at hw
  refine go_aload C dL_join_0 6 rfl ?_
  refine go_iconst C 0 dL_join_2 kc_i0 ?_
  refine go_aload_n C dL_join_3 0 rfl ?_
  refine go_iload_n C dL_join_4 1 rfl ?_
  refine go_iload_n C dL_join_5 2 rfl ?_
  refine go_iload_n C dL_join_6 3 rfl ?_
  refine go_iload C dL_join_7 4 rfl ?_
  refine go_iload C dL_join_9 5 rfl ?_
  obtain ⟨a1, e9, hw9⟩ := hw
  subst e9
  have hw := hw9
  clear hw9
  refine go_hcall_i C [iV p1, iV p2, iV p3, iV p4, iV p5] vX11_join tw6_43 (ci := 11) rfl (m_X11_join (xl X) C.2.2.2.2.2.2.2.1 N hw.2) ⟨Nat.le_of_ble_eq_true rfl, Nat.le_of_ble_eq_true rfl, Nat.le_of_ble_eq_true rfl, Nat.le_of_ble_eq_true rfl⟩ hw.1 dL_join_11 rfl (Nat.le_of_ble_eq_true rfl) rfl (fun E h4 q5 hw => ?_) (fun v2 h3 hw => ?_)
  · rcases hw with ⟨rfl, hw⟩ | ⟨rfl, hw⟩ | ⟨rfl, hw⟩
    · refine go_catch C (tableOf []) ⟨0, 16, 19, 21⟩ (tableOf [(0, 16, 23, 13), (0, 16, 27, 15)]) (by rw [htab]; rfl) (fun z hz => by cases hz) (by decide) (by decide) tw4_155 tw4_193 ?_
      refine go_astore C [(7, rV (some q5)), (0, rV (some a1)), (1, iV p1), (2, iV p2), (3, iV p3), (4, iV p4), (5, iV p5), (6, rV p6)] dL_join_19 (Nat.le_of_ble_eq_true rfl) rfl ?_
      refine go_iconst C 1 dL_join_21 kc_i1 ?_
      exact go_xiret C dL_join_22 hw (Nat.le_of_ble_eq_true rfl) (Nat.le_of_ble_eq_true rfl)
    · refine go_catch C (tableOf [(0, 16, 19, 21)]) ⟨0, 16, 23, 13⟩ (tableOf [(0, 16, 27, 15)]) (by rw [htab]; rfl) (fun z hz => by
      simp only [tableOf, List.map_cons, List.map_nil, List.mem_cons, List.not_mem_nil, or_false] at hz
      rcases hz with rfl
      · exact ⟨by decide, _, tw4_155, by decide⟩) (by decide) (by decide) tw4_8 tw4_16 ?_
      refine go_astore C [(7, rV (some q5)), (0, rV (some a1)), (1, iV p1), (2, iV p2), (3, iV p3), (4, iV p4), (5, iV p5), (6, rV p6)] dL_join_23 (Nat.le_of_ble_eq_true rfl) rfl ?_
      refine go_iconst C 2 dL_join_25 kc_i2 ?_
      exact go_xiret C dL_join_26 hw (Nat.le_of_ble_eq_true rfl) (Nat.le_of_ble_eq_true rfl)
    · refine go_catch C (tableOf [(0, 16, 19, 21), (0, 16, 23, 13)]) ⟨0, 16, 27, 15⟩ (tableOf []) (by rw [htab]; rfl) (fun z hz => by
      simp only [tableOf, List.map_cons, List.map_nil, List.mem_cons, List.not_mem_nil, or_false] at hz
      rcases hz with rfl | rfl
      · exact ⟨by decide, _, tw4_155, by decide⟩
      · exact ⟨by decide, _, tw4_8, by decide⟩) (by decide) (by decide) tw4_9 tw4_138 ?_
      refine go_astore C [(7, rV (some q5)), (0, rV (some a1)), (1, iV p1), (2, iV p2), (3, iV p3), (4, iV p4), (5, iV p5), (6, rV p6)] dL_join_27 (Nat.le_of_ble_eq_true rfl) rfl ?_
      refine go_iconst C 3 dL_join_29 kc_i3 ?_
      exact go_xiret C dL_join_30 hw (Nat.le_of_ble_eq_true rfl) (Nat.le_of_ble_eq_true rfl)
  refine go_i2l C dL_join_14 ?_
  obtain ⟨a6, e9, hw9⟩ := hw
  subst e9
  have hw := hw9
  clear hw9
  refine go_lastore C dL_join_15 hw (fun h7 hw => ?_)
  refine go_goto C 31 dL_join_16 (by decide) ?_
  refine go_iconst C 0 dL_join_31 kc_i0 ?_
  exact go_xiret C dL_join_32 hw (Nat.le_of_ble_eq_true rfl) (Nat.le_of_ble_eq_true rfl)
/-- law: answers(LDuelSchema;I[J)I -/
def w_L_answers (N : Nat) (p0 : Option Nat) (p1 : Int32) (p2 : Option Nat) (h0 : Hp) (K : Int32 → Hp → Prop) : Prop :=
  nn p0 fun a1 => cv h0 a1 11 <| w_X11_answers N a1 p1 h0 (fun v2 h3 =>
  nn p2 fun a6 => sL h3 a6 0 ((v2 : Int32).toInt64) fun h7 =>
  K 0 h7) (fun E h4 => (E = "java/lang/IndexOutOfBoundsException" ∧ K 1 h4) ∨ (E = "java/lang/UnsupportedOperationException" ∧ K 2 h4))
abbrev rmL_answers : Room := { frames := 43, cells := 2, slots := 12, locals := 1369 }
theorem vL_answers : SHI yL_answers cL_answers 4 (some .int) [(0, 9, 12, 21), (0, 9, 15, 79)] 3 := ⟨tw6_74, tw1_0, tw6_75, by decide +kernel⟩
set_option maxHeartbeats 4000000 in
theorem m_L_answers {G : Gp} (l : Launch) (hfl : l.stackTraces = false) (N : Nat) {p0 : Option Nat} {p1 : Int32} {p2 : Option Nat} {h0 : Hp} {K : Int32 → Hp → Prop} (hw : w_L_answers N p0 p1 p2 h0 K) : MH G l yL_answers cL_answers 4 (some .int) [(0, 9, 12, 21), (0, 9, 15, 79)] rmL_answers [rV p0, iV p1, rV p2] h0 (QI G K) := by
  refine go_hmet l hfl _ 4 _ _ rfl (by decide +kernel) (Nat.le_of_ble_eq_true rfl) [(0, rV p0), (1, iV p1), (2, rV p2)] rfl (fun X hX C htab => ?_)
  subst hX
  unfold w_L_answers at hw
  refine go_aload_n C dL_answers_0 2 rfl ?_
  refine go_iconst C 0 dL_answers_1 kc_i0 ?_
  refine go_aload_n C dL_answers_2 0 rfl ?_
  refine go_iload_n C dL_answers_3 1 rfl ?_
  obtain ⟨a1, e9, hw9⟩ := hw
  subst e9
  have hw := hw9
  clear hw9
  refine go_hcall_i C [iV p1] vX11_answers tw6_77 (ci := 11) rfl (m_X11_answers (xl X) C.2.2.2.2.2.2.2.1 N hw.2) ⟨Nat.le_of_ble_eq_true rfl, Nat.le_of_ble_eq_true rfl, Nat.le_of_ble_eq_true rfl, Nat.le_of_ble_eq_true rfl⟩ hw.1 dL_answers_4 rfl (Nat.le_of_ble_eq_true rfl) rfl (fun E h4 q5 hw => ?_) (fun v2 h3 hw => ?_)
  · rcases hw with ⟨rfl, hw⟩ | ⟨rfl, hw⟩
    · refine go_catch C (tableOf []) ⟨0, 9, 12, 21⟩ (tableOf [(0, 9, 15, 79)]) (by rw [htab]; rfl) (fun z hz => by cases hz) (by decide) (by decide) tw4_155 tw4_193 ?_
      refine go_astore_n C [(3, rV (some q5)), (0, rV (some a1)), (1, iV p1), (2, rV p2)] dL_answers_12 (Nat.le_of_ble_eq_true rfl) rfl ?_
      refine go_iconst C 1 dL_answers_13 kc_i1 ?_
      exact go_xiret C dL_answers_14 hw (Nat.le_of_ble_eq_true rfl) (Nat.le_of_ble_eq_true rfl)
    · refine go_catch C (tableOf [(0, 9, 12, 21)]) ⟨0, 9, 15, 79⟩ (tableOf []) (by rw [htab]; rfl) (fun z hz => by
      simp only [tableOf, List.map_cons, List.map_nil, List.mem_cons, List.not_mem_nil, or_false] at hz
      rcases hz with rfl
      · exact ⟨by decide, _, tw4_155, by decide⟩) (by decide) (by decide) tw6_76 tw6_87 ?_
      refine go_astore_n C [(3, rV (some q5)), (0, rV (some a1)), (1, iV p1), (2, rV p2)] dL_answers_15 (Nat.le_of_ble_eq_true rfl) rfl ?_
      refine go_iconst C 2 dL_answers_16 kc_i2 ?_
      exact go_xiret C dL_answers_17 hw (Nat.le_of_ble_eq_true rfl) (Nat.le_of_ble_eq_true rfl)
  refine go_i2l C dL_answers_7 ?_
  obtain ⟨a6, e9, hw9⟩ := hw
  subst e9
  have hw := hw9
  clear hw9
  refine go_lastore C dL_answers_8 hw (fun h7 hw => ?_)
  refine go_goto C 18 dL_answers_9 (by decide) ?_
  refine go_iconst C 0 dL_answers_18 kc_i0 ?_
  exact go_xiret C dL_answers_19 hw (Nat.le_of_ble_eq_true rfl) (Nat.le_of_ble_eq_true rfl)
/-- law: answerAt(LDuelSchema;III[J)I -/
def w_L_answerAt (N : Nat) (p0 : Option Nat) (p1 : Int32) (p2 : Int32) (p3 : Int32) (p4 : Option Nat) (h0 : Hp) (K : Int32 → Hp → Prop) : Prop :=
  nn p0 fun a1 => cv h0 a1 11 <| w_X11_answerAt N a1 p1 p2 p3 h0 (fun v2 h3 =>
  nn p4 fun a6 => sL h3 a6 0 ((v2 : Int32).toInt64) fun h7 =>
  K 0 h7) (fun E h4 => (E = "java/lang/IndexOutOfBoundsException" ∧ K 1 h4) ∨ (E = "java/lang/IllegalArgumentException" ∧ K 2 h4) ∨ (E = "java/util/NoSuchElementException" ∧ K 3 h4))
abbrev rmL_answerAt : Room := { frames := 43, cells := 2, slots := 12, locals := 1372 }
theorem vL_answerAt : SHI yL_answerAt cL_answerAt 6 (some .int) [(0, 12, 15, 21), (0, 12, 19, 13), (0, 12, 23, 30)] 5 := ⟨tw6_102, tw1_0, tw6_103, by decide +kernel⟩
set_option maxHeartbeats 4000000 in
theorem m_L_answerAt {G : Gp} (l : Launch) (hfl : l.stackTraces = false) (N : Nat) {p0 : Option Nat} {p1 : Int32} {p2 : Int32} {p3 : Int32} {p4 : Option Nat} {h0 : Hp} {K : Int32 → Hp → Prop} (hw : w_L_answerAt N p0 p1 p2 p3 p4 h0 K) : MH G l yL_answerAt cL_answerAt 6 (some .int) [(0, 12, 15, 21), (0, 12, 19, 13), (0, 12, 23, 30)] rmL_answerAt [rV p0, iV p1, iV p2, iV p3, rV p4] h0 (QI G K) := by
  refine go_hmet l hfl _ 6 _ _ rfl (by decide +kernel) (Nat.le_of_ble_eq_true rfl) [(0, rV p0), (1, iV p1), (2, iV p2), (3, iV p3), (4, rV p4)] rfl (fun X hX C htab => ?_)
  subst hX
  unfold w_L_answerAt at hw
  refine go_aload C dL_answerAt_0 4 rfl ?_
  refine go_iconst C 0 dL_answerAt_2 kc_i0 ?_
  refine go_aload_n C dL_answerAt_3 0 rfl ?_
  refine go_iload_n C dL_answerAt_4 1 rfl ?_
  refine go_iload_n C dL_answerAt_5 2 rfl ?_
  refine go_iload_n C dL_answerAt_6 3 rfl ?_
  obtain ⟨a1, e9, hw9⟩ := hw
  subst e9
  have hw := hw9
  clear hw9
  refine go_hcall_i C [iV p1, iV p2, iV p3] vX11_answerAt tw6_104 (ci := 11) rfl (m_X11_answerAt (xl X) C.2.2.2.2.2.2.2.1 N hw.2) ⟨Nat.le_of_ble_eq_true rfl, Nat.le_of_ble_eq_true rfl, Nat.le_of_ble_eq_true rfl, Nat.le_of_ble_eq_true rfl⟩ hw.1 dL_answerAt_7 rfl (Nat.le_of_ble_eq_true rfl) rfl (fun E h4 q5 hw => ?_) (fun v2 h3 hw => ?_)
  · rcases hw with ⟨rfl, hw⟩ | ⟨rfl, hw⟩ | ⟨rfl, hw⟩
    · refine go_catch C (tableOf []) ⟨0, 12, 15, 21⟩ (tableOf [(0, 12, 19, 13), (0, 12, 23, 30)]) (by rw [htab]; rfl) (fun z hz => by cases hz) (by decide) (by decide) tw4_155 tw4_193 ?_
      refine go_astore C [(5, rV (some q5)), (0, rV (some a1)), (1, iV p1), (2, iV p2), (3, iV p3), (4, rV p4)] dL_answerAt_15 (Nat.le_of_ble_eq_true rfl) rfl ?_
      refine go_iconst C 1 dL_answerAt_17 kc_i1 ?_
      exact go_xiret C dL_answerAt_18 hw (Nat.le_of_ble_eq_true rfl) (Nat.le_of_ble_eq_true rfl)
    · refine go_catch C (tableOf [(0, 12, 15, 21)]) ⟨0, 12, 19, 13⟩ (tableOf [(0, 12, 23, 30)]) (by rw [htab]; rfl) (fun z hz => by
      simp only [tableOf, List.map_cons, List.map_nil, List.mem_cons, List.not_mem_nil, or_false] at hz
      rcases hz with rfl
      · exact ⟨by decide, _, tw4_155, by decide⟩) (by decide) (by decide) tw4_8 tw4_16 ?_
      refine go_astore C [(5, rV (some q5)), (0, rV (some a1)), (1, iV p1), (2, iV p2), (3, iV p3), (4, rV p4)] dL_answerAt_19 (Nat.le_of_ble_eq_true rfl) rfl ?_
      refine go_iconst C 2 dL_answerAt_21 kc_i2 ?_
      exact go_xiret C dL_answerAt_22 hw (Nat.le_of_ble_eq_true rfl) (Nat.le_of_ble_eq_true rfl)
    · refine go_catch C (tableOf [(0, 12, 15, 21), (0, 12, 19, 13)]) ⟨0, 12, 23, 30⟩ (tableOf []) (by rw [htab]; rfl) (fun z hz => by
      simp only [tableOf, List.map_cons, List.map_nil, List.mem_cons, List.not_mem_nil, or_false] at hz
      rcases hz with rfl | rfl
      · exact ⟨by decide, _, tw4_155, by decide⟩
      · exact ⟨by decide, _, tw4_8, by decide⟩) (by decide) (by decide) tw5_26 tw5_34 ?_
      refine go_astore C [(5, rV (some q5)), (0, rV (some a1)), (1, iV p1), (2, iV p2), (3, iV p3), (4, rV p4)] dL_answerAt_23 (Nat.le_of_ble_eq_true rfl) rfl ?_
      refine go_iconst C 3 dL_answerAt_25 kc_i3 ?_
      exact go_xiret C dL_answerAt_26 hw (Nat.le_of_ble_eq_true rfl) (Nat.le_of_ble_eq_true rfl)
  refine go_i2l C dL_answerAt_10 ?_
  obtain ⟨a6, e9, hw9⟩ := hw
  subst e9
  have hw := hw9
  clear hw9
  refine go_lastore C dL_answerAt_11 hw (fun h7 hw => ?_)
  refine go_goto C 27 dL_answerAt_12 (by decide) ?_
  refine go_iconst C 0 dL_answerAt_27 kc_i0 ?_
  exact go_xiret C dL_answerAt_28 hw (Nat.le_of_ble_eq_true rfl) (Nat.le_of_ble_eq_true rfl)
/-- law: sum(LDuelSchema;III[J)I -/
def w_L_sum (N : Nat) (p0 : Option Nat) (p1 : Int32) (p2 : Int32) (p3 : Int32) (p4 : Option Nat) (h0 : Hp) (K : Int32 → Hp → Prop) : Prop :=
  nn p0 fun a1 => cv h0 a1 11 <| w_X11_sum N a1 p1 p2 p3 h0 (fun v2 h3 =>
  nn p4 fun a6 => sL h3 a6 0 v2 fun h7 =>
  K 0 h7) (fun E h4 => (E = "java/lang/IndexOutOfBoundsException" ∧ K 1 h4) ∨ (E = "java/lang/IllegalArgumentException" ∧ K 2 h4))
abbrev rmL_sum : Room := { frames := 43, cells := 2, slots := 12, locals := 1371 }
theorem vL_sum : SHI yL_sum cL_sum 6 (some .int) [(0, 11, 14, 21), (0, 11, 18, 13)] 5 := ⟨tw6_119, tw1_0, tw6_120, by decide +kernel⟩
set_option maxHeartbeats 4000000 in
theorem m_L_sum {G : Gp} (l : Launch) (hfl : l.stackTraces = false) (N : Nat) {p0 : Option Nat} {p1 : Int32} {p2 : Int32} {p3 : Int32} {p4 : Option Nat} {h0 : Hp} {K : Int32 → Hp → Prop} (hw : w_L_sum N p0 p1 p2 p3 p4 h0 K) : MH G l yL_sum cL_sum 6 (some .int) [(0, 11, 14, 21), (0, 11, 18, 13)] rmL_sum [rV p0, iV p1, iV p2, iV p3, rV p4] h0 (QI G K) := by
  refine go_hmet l hfl _ 6 _ _ rfl (by decide +kernel) (Nat.le_of_ble_eq_true rfl) [(0, rV p0), (1, iV p1), (2, iV p2), (3, iV p3), (4, rV p4)] rfl (fun X hX C htab => ?_)
  subst hX
  unfold w_L_sum at hw
  refine go_aload C dL_sum_0 4 rfl ?_
  refine go_iconst C 0 dL_sum_2 kc_i0 ?_
  refine go_aload_n C dL_sum_3 0 rfl ?_
  refine go_iload_n C dL_sum_4 1 rfl ?_
  refine go_iload_n C dL_sum_5 2 rfl ?_
  refine go_iload_n C dL_sum_6 3 rfl ?_
  obtain ⟨a1, e9, hw9⟩ := hw
  subst e9
  have hw := hw9
  clear hw9
  refine go_hcall_l C [iV p1, iV p2, iV p3] vX11_sum tw6_121 (ci := 11) rfl (m_X11_sum (xl X) C.2.2.2.2.2.2.2.1 N hw.2) ⟨Nat.le_of_ble_eq_true rfl, Nat.le_of_ble_eq_true rfl, Nat.le_of_ble_eq_true rfl, Nat.le_of_ble_eq_true rfl⟩ hw.1 dL_sum_7 rfl (Nat.le_of_ble_eq_true rfl) rfl (fun E h4 q5 hw => ?_) (fun v2 h3 hw => ?_)
  · rcases hw with ⟨rfl, hw⟩ | ⟨rfl, hw⟩
    · refine go_catch C (tableOf []) ⟨0, 11, 14, 21⟩ (tableOf [(0, 11, 18, 13)]) (by rw [htab]; rfl) (fun z hz => by cases hz) (by decide) (by decide) tw4_155 tw4_193 ?_
      refine go_astore C [(5, rV (some q5)), (0, rV (some a1)), (1, iV p1), (2, iV p2), (3, iV p3), (4, rV p4)] dL_sum_14 (Nat.le_of_ble_eq_true rfl) rfl ?_
      refine go_iconst C 1 dL_sum_16 kc_i1 ?_
      exact go_xiret C dL_sum_17 hw (Nat.le_of_ble_eq_true rfl) (Nat.le_of_ble_eq_true rfl)
    · refine go_catch C (tableOf [(0, 11, 14, 21)]) ⟨0, 11, 18, 13⟩ (tableOf []) (by rw [htab]; rfl) (fun z hz => by
      simp only [tableOf, List.map_cons, List.map_nil, List.mem_cons, List.not_mem_nil, or_false] at hz
      rcases hz with rfl
      · exact ⟨by decide, _, tw4_155, by decide⟩) (by decide) (by decide) tw4_8 tw4_16 ?_
      refine go_astore C [(5, rV (some q5)), (0, rV (some a1)), (1, iV p1), (2, iV p2), (3, iV p3), (4, rV p4)] dL_sum_18 (Nat.le_of_ble_eq_true rfl) rfl ?_
      refine go_iconst C 2 dL_sum_20 kc_i2 ?_
      exact go_xiret C dL_sum_21 hw (Nat.le_of_ble_eq_true rfl) (Nat.le_of_ble_eq_true rfl)
  obtain ⟨a6, e9, hw9⟩ := hw
  subst e9
  have hw := hw9
  clear hw9
  refine go_lastore C dL_sum_10 hw (fun h7 hw => ?_)
  refine go_goto C 22 dL_sum_11 (by decide) ?_
  refine go_iconst C 0 dL_sum_22 kc_i0 ?_
  exact go_xiret C dL_sum_23 hw (Nat.le_of_ble_eq_true rfl) (Nat.le_of_ble_eq_true rfl)
/-- law: planned(LDuelSchema;III[J)I -/
def w_L_planned (N : Nat) (p0 : Option Nat) (p1 : Int32) (p2 : Int32) (p3 : Int32) (p4 : Option Nat) (h0 : Hp) (K : Int32 → Hp → Prop) : Prop :=
  nn p0 fun a1 => cv h0 a1 11 <| w_X11_planned N a1 p1 p2 p3 h0 (fun v2 h3 =>
  nn p4 fun a6 => sL h3 a6 0 ((v2 : Int32).toInt64) fun h7 =>
  K 0 h7) (fun E h4 => (E = "java/lang/IllegalArgumentException" ∧ K 1 h4) ∨ (E = "java/lang/IndexOutOfBoundsException" ∧ K 2 h4) ∨ (E = "java/util/NoSuchElementException" ∧ K 3 h4))
abbrev rmL_planned : Room := { frames := 11, cells := 3, slots := 18, locals := 237 }
theorem vL_planned : SHI yL_planned cL_planned 6 (some .int) [(0, 12, 15, 13), (0, 12, 19, 21), (0, 12, 23, 30)] 5 := ⟨tw6_131, tw1_0, tw6_132, by decide +kernel⟩
set_option maxHeartbeats 4000000 in
theorem m_L_planned {G : Gp} (l : Launch) (hfl : l.stackTraces = false) (N : Nat) {p0 : Option Nat} {p1 : Int32} {p2 : Int32} {p3 : Int32} {p4 : Option Nat} {h0 : Hp} {K : Int32 → Hp → Prop} (hw : w_L_planned N p0 p1 p2 p3 p4 h0 K) : MH G l yL_planned cL_planned 6 (some .int) [(0, 12, 15, 13), (0, 12, 19, 21), (0, 12, 23, 30)] rmL_planned [rV p0, iV p1, iV p2, iV p3, rV p4] h0 (QI G K) := by
  refine go_hmet l hfl _ 6 _ _ rfl (by decide +kernel) (Nat.le_of_ble_eq_true rfl) [(0, rV p0), (1, iV p1), (2, iV p2), (3, iV p3), (4, rV p4)] rfl (fun X hX C htab => ?_)
  subst hX
  unfold w_L_planned at hw
  refine go_aload C dL_planned_0 4 rfl ?_
  refine go_iconst C 0 dL_planned_2 kc_i0 ?_
  refine go_aload_n C dL_planned_3 0 rfl ?_
  refine go_iload_n C dL_planned_4 1 rfl ?_
  refine go_iload_n C dL_planned_5 2 rfl ?_
  refine go_iload_n C dL_planned_6 3 rfl ?_
  obtain ⟨a1, e9, hw9⟩ := hw
  subst e9
  have hw := hw9
  clear hw9
  refine go_hcall_i C [iV p1, iV p2, iV p3] vX11_planned tw6_133 (ci := 11) rfl (m_X11_planned (xl X) C.2.2.2.2.2.2.2.1 N hw.2) ⟨Nat.le_of_ble_eq_true rfl, Nat.le_of_ble_eq_true rfl, Nat.le_of_ble_eq_true rfl, Nat.le_of_ble_eq_true rfl⟩ hw.1 dL_planned_7 rfl (Nat.le_of_ble_eq_true rfl) rfl (fun E h4 q5 hw => ?_) (fun v2 h3 hw => ?_)
  · rcases hw with ⟨rfl, hw⟩ | ⟨rfl, hw⟩ | ⟨rfl, hw⟩
    · refine go_catch C (tableOf []) ⟨0, 12, 15, 13⟩ (tableOf [(0, 12, 19, 21), (0, 12, 23, 30)]) (by rw [htab]; rfl) (fun z hz => by cases hz) (by decide) (by decide) tw4_8 tw4_16 ?_
      refine go_astore C [(5, rV (some q5)), (0, rV (some a1)), (1, iV p1), (2, iV p2), (3, iV p3), (4, rV p4)] dL_planned_15 (Nat.le_of_ble_eq_true rfl) rfl ?_
      refine go_iconst C 1 dL_planned_17 kc_i1 ?_
      exact go_xiret C dL_planned_18 hw (Nat.le_of_ble_eq_true rfl) (Nat.le_of_ble_eq_true rfl)
    · refine go_catch C (tableOf [(0, 12, 15, 13)]) ⟨0, 12, 19, 21⟩ (tableOf [(0, 12, 23, 30)]) (by rw [htab]; rfl) (fun z hz => by
      simp only [tableOf, List.map_cons, List.map_nil, List.mem_cons, List.not_mem_nil, or_false] at hz
      rcases hz with rfl
      · exact ⟨by decide, _, tw4_8, by decide⟩) (by decide) (by decide) tw4_155 tw4_193 ?_
      refine go_astore C [(5, rV (some q5)), (0, rV (some a1)), (1, iV p1), (2, iV p2), (3, iV p3), (4, rV p4)] dL_planned_19 (Nat.le_of_ble_eq_true rfl) rfl ?_
      refine go_iconst C 2 dL_planned_21 kc_i2 ?_
      exact go_xiret C dL_planned_22 hw (Nat.le_of_ble_eq_true rfl) (Nat.le_of_ble_eq_true rfl)
    · refine go_catch C (tableOf [(0, 12, 15, 13), (0, 12, 19, 21)]) ⟨0, 12, 23, 30⟩ (tableOf []) (by rw [htab]; rfl) (fun z hz => by
      simp only [tableOf, List.map_cons, List.map_nil, List.mem_cons, List.not_mem_nil, or_false] at hz
      rcases hz with rfl | rfl
      · exact ⟨by decide, _, tw4_8, by decide⟩
      · exact ⟨by decide, _, tw4_155, by decide⟩) (by decide) (by decide) tw5_26 tw5_34 ?_
      refine go_astore C [(5, rV (some q5)), (0, rV (some a1)), (1, iV p1), (2, iV p2), (3, iV p3), (4, rV p4)] dL_planned_23 (Nat.le_of_ble_eq_true rfl) rfl ?_
      refine go_iconst C 3 dL_planned_25 kc_i3 ?_
      exact go_xiret C dL_planned_26 hw (Nat.le_of_ble_eq_true rfl) (Nat.le_of_ble_eq_true rfl)
  refine go_i2l C dL_planned_10 ?_
  obtain ⟨a6, e9, hw9⟩ := hw
  subst e9
  have hw := hw9
  clear hw9
  refine go_lastore C dL_planned_11 hw (fun h7 hw => ?_)
  refine go_goto C 27 dL_planned_12 (by decide) ?_
  refine go_iconst C 0 dL_planned_27 kc_i0 ?_
  exact go_xiret C dL_planned_28 hw (Nat.le_of_ble_eq_true rfl) (Nat.le_of_ble_eq_true rfl)
/-- law: way(LDuelSchema;III[J)I -/
def w_L_way (N : Nat) (p0 : Option Nat) (p1 : Int32) (p2 : Int32) (p3 : Int32) (p4 : Option Nat) (h0 : Hp) (K : Int32 → Hp → Prop) : Prop :=
  nn p0 fun a1 => cv h0 a1 11 <| w_X11_way N a1 p1 p2 p3 h0 (fun v2 h3 =>
  nn p4 fun a6 => sL h3 a6 0 ((v2 : Int32).toInt64) fun h7 =>
  K 0 h7) (fun E h4 => (E = "java/lang/IllegalArgumentException" ∧ K 1 h4) ∨ (E = "java/lang/IndexOutOfBoundsException" ∧ K 2 h4) ∨ (E = "java/util/NoSuchElementException" ∧ K 3 h4))
abbrev rmL_way : Room := { frames := 11, cells := 3, slots := 18, locals := 237 }
theorem vL_way : SHI yL_way cL_way 6 (some .int) [(0, 12, 15, 13), (0, 12, 19, 21), (0, 12, 23, 30)] 5 := ⟨tw6_147, tw1_0, tw6_148, by decide +kernel⟩
set_option maxHeartbeats 4000000 in
theorem m_L_way {G : Gp} (l : Launch) (hfl : l.stackTraces = false) (N : Nat) {p0 : Option Nat} {p1 : Int32} {p2 : Int32} {p3 : Int32} {p4 : Option Nat} {h0 : Hp} {K : Int32 → Hp → Prop} (hw : w_L_way N p0 p1 p2 p3 p4 h0 K) : MH G l yL_way cL_way 6 (some .int) [(0, 12, 15, 13), (0, 12, 19, 21), (0, 12, 23, 30)] rmL_way [rV p0, iV p1, iV p2, iV p3, rV p4] h0 (QI G K) := by
  refine go_hmet l hfl _ 6 _ _ rfl (by decide +kernel) (Nat.le_of_ble_eq_true rfl) [(0, rV p0), (1, iV p1), (2, iV p2), (3, iV p3), (4, rV p4)] rfl (fun X hX C htab => ?_)
  subst hX
  unfold w_L_way at hw
  refine go_aload C dL_way_0 4 rfl ?_
  refine go_iconst C 0 dL_way_2 kc_i0 ?_
  refine go_aload_n C dL_way_3 0 rfl ?_
  refine go_iload_n C dL_way_4 1 rfl ?_
  refine go_iload_n C dL_way_5 2 rfl ?_
  refine go_iload_n C dL_way_6 3 rfl ?_
  obtain ⟨a1, e9, hw9⟩ := hw
  subst e9
  have hw := hw9
  clear hw9
  refine go_hcall_i C [iV p1, iV p2, iV p3] vX11_way tw6_149 (ci := 11) rfl (m_X11_way (xl X) C.2.2.2.2.2.2.2.1 N hw.2) ⟨Nat.le_of_ble_eq_true rfl, Nat.le_of_ble_eq_true rfl, Nat.le_of_ble_eq_true rfl, Nat.le_of_ble_eq_true rfl⟩ hw.1 dL_way_7 rfl (Nat.le_of_ble_eq_true rfl) rfl (fun E h4 q5 hw => ?_) (fun v2 h3 hw => ?_)
  · rcases hw with ⟨rfl, hw⟩ | ⟨rfl, hw⟩ | ⟨rfl, hw⟩
    · refine go_catch C (tableOf []) ⟨0, 12, 15, 13⟩ (tableOf [(0, 12, 19, 21), (0, 12, 23, 30)]) (by rw [htab]; rfl) (fun z hz => by cases hz) (by decide) (by decide) tw4_8 tw4_16 ?_
      refine go_astore C [(5, rV (some q5)), (0, rV (some a1)), (1, iV p1), (2, iV p2), (3, iV p3), (4, rV p4)] dL_way_15 (Nat.le_of_ble_eq_true rfl) rfl ?_
      refine go_iconst C 1 dL_way_17 kc_i1 ?_
      exact go_xiret C dL_way_18 hw (Nat.le_of_ble_eq_true rfl) (Nat.le_of_ble_eq_true rfl)
    · refine go_catch C (tableOf [(0, 12, 15, 13)]) ⟨0, 12, 19, 21⟩ (tableOf [(0, 12, 23, 30)]) (by rw [htab]; rfl) (fun z hz => by
      simp only [tableOf, List.map_cons, List.map_nil, List.mem_cons, List.not_mem_nil, or_false] at hz
      rcases hz with rfl
      · exact ⟨by decide, _, tw4_8, by decide⟩) (by decide) (by decide) tw4_155 tw4_193 ?_
      refine go_astore C [(5, rV (some q5)), (0, rV (some a1)), (1, iV p1), (2, iV p2), (3, iV p3), (4, rV p4)] dL_way_19 (Nat.le_of_ble_eq_true rfl) rfl ?_
      refine go_iconst C 2 dL_way_21 kc_i2 ?_
      exact go_xiret C dL_way_22 hw (Nat.le_of_ble_eq_true rfl) (Nat.le_of_ble_eq_true rfl)
    · refine go_catch C (tableOf [(0, 12, 15, 13), (0, 12, 19, 21)]) ⟨0, 12, 23, 30⟩ (tableOf []) (by rw [htab]; rfl) (fun z hz => by
      simp only [tableOf, List.map_cons, List.map_nil, List.mem_cons, List.not_mem_nil, or_false] at hz
      rcases hz with rfl | rfl
      · exact ⟨by decide, _, tw4_8, by decide⟩
      · exact ⟨by decide, _, tw4_155, by decide⟩) (by decide) (by decide) tw5_26 tw5_34 ?_
      refine go_astore C [(5, rV (some q5)), (0, rV (some a1)), (1, iV p1), (2, iV p2), (3, iV p3), (4, rV p4)] dL_way_23 (Nat.le_of_ble_eq_true rfl) rfl ?_
      refine go_iconst C 3 dL_way_25 kc_i3 ?_
      exact go_xiret C dL_way_26 hw (Nat.le_of_ble_eq_true rfl) (Nat.le_of_ble_eq_true rfl)
  refine go_i2l C dL_way_10 ?_
  obtain ⟨a6, e9, hw9⟩ := hw
  subst e9
  have hw := hw9
  clear hw9
  refine go_lastore C dL_way_11 hw (fun h7 hw => ?_)
  refine go_goto C 27 dL_way_12 (by decide) ?_
  refine go_iconst C 0 dL_way_27 kc_i0 ?_
  exact go_xiret C dL_way_28 hw (Nat.le_of_ble_eq_true rfl) (Nat.le_of_ble_eq_true rfl)
/-- law: usedIndex(LDuelSchema;III[J)I -/
def w_L_usedIndex (N : Nat) (p0 : Option Nat) (p1 : Int32) (p2 : Int32) (p3 : Int32) (p4 : Option Nat) (h0 : Hp) (K : Int32 → Hp → Prop) : Prop :=
  nn p0 fun a1 => cv h0 a1 11 <| w_X11_usedIndex N a1 p1 p2 p3 h0 (fun v2 h3 =>
  nn p4 fun a6 => sL h3 a6 0 ((v2 : Int32).toInt64) fun h7 =>
  K 0 h7) (fun E h4 => (E = "java/lang/IllegalArgumentException" ∧ K 1 h4) ∨ (E = "java/lang/IndexOutOfBoundsException" ∧ K 2 h4) ∨ (E = "java/util/NoSuchElementException" ∧ K 3 h4))
abbrev rmL_usedIndex : Room := { frames := 11, cells := 3, slots := 18, locals := 237 }
theorem vL_usedIndex : SHI yL_usedIndex cL_usedIndex 6 (some .int) [(0, 12, 15, 13), (0, 12, 19, 21), (0, 12, 23, 30)] 5 := ⟨tw6_155, tw1_0, tw6_156, by decide +kernel⟩
set_option maxHeartbeats 4000000 in
theorem m_L_usedIndex {G : Gp} (l : Launch) (hfl : l.stackTraces = false) (N : Nat) {p0 : Option Nat} {p1 : Int32} {p2 : Int32} {p3 : Int32} {p4 : Option Nat} {h0 : Hp} {K : Int32 → Hp → Prop} (hw : w_L_usedIndex N p0 p1 p2 p3 p4 h0 K) : MH G l yL_usedIndex cL_usedIndex 6 (some .int) [(0, 12, 15, 13), (0, 12, 19, 21), (0, 12, 23, 30)] rmL_usedIndex [rV p0, iV p1, iV p2, iV p3, rV p4] h0 (QI G K) := by
  refine go_hmet l hfl _ 6 _ _ rfl (by decide +kernel) (Nat.le_of_ble_eq_true rfl) [(0, rV p0), (1, iV p1), (2, iV p2), (3, iV p3), (4, rV p4)] rfl (fun X hX C htab => ?_)
  subst hX
  unfold w_L_usedIndex at hw
  refine go_aload C dL_usedIndex_0 4 rfl ?_
  refine go_iconst C 0 dL_usedIndex_2 kc_i0 ?_
  refine go_aload_n C dL_usedIndex_3 0 rfl ?_
  refine go_iload_n C dL_usedIndex_4 1 rfl ?_
  refine go_iload_n C dL_usedIndex_5 2 rfl ?_
  refine go_iload_n C dL_usedIndex_6 3 rfl ?_
  obtain ⟨a1, e9, hw9⟩ := hw
  subst e9
  have hw := hw9
  clear hw9
  refine go_hcall_i C [iV p1, iV p2, iV p3] vX11_usedIndex tw6_157 (ci := 11) rfl (m_X11_usedIndex (xl X) C.2.2.2.2.2.2.2.1 N hw.2) ⟨Nat.le_of_ble_eq_true rfl, Nat.le_of_ble_eq_true rfl, Nat.le_of_ble_eq_true rfl, Nat.le_of_ble_eq_true rfl⟩ hw.1 dL_usedIndex_7 rfl (Nat.le_of_ble_eq_true rfl) rfl (fun E h4 q5 hw => ?_) (fun v2 h3 hw => ?_)
  · rcases hw with ⟨rfl, hw⟩ | ⟨rfl, hw⟩ | ⟨rfl, hw⟩
    · refine go_catch C (tableOf []) ⟨0, 12, 15, 13⟩ (tableOf [(0, 12, 19, 21), (0, 12, 23, 30)]) (by rw [htab]; rfl) (fun z hz => by cases hz) (by decide) (by decide) tw4_8 tw4_16 ?_
      refine go_astore C [(5, rV (some q5)), (0, rV (some a1)), (1, iV p1), (2, iV p2), (3, iV p3), (4, rV p4)] dL_usedIndex_15 (Nat.le_of_ble_eq_true rfl) rfl ?_
      refine go_iconst C 1 dL_usedIndex_17 kc_i1 ?_
      exact go_xiret C dL_usedIndex_18 hw (Nat.le_of_ble_eq_true rfl) (Nat.le_of_ble_eq_true rfl)
    · refine go_catch C (tableOf [(0, 12, 15, 13)]) ⟨0, 12, 19, 21⟩ (tableOf [(0, 12, 23, 30)]) (by rw [htab]; rfl) (fun z hz => by
      simp only [tableOf, List.map_cons, List.map_nil, List.mem_cons, List.not_mem_nil, or_false] at hz
      rcases hz with rfl
      · exact ⟨by decide, _, tw4_8, by decide⟩) (by decide) (by decide) tw4_155 tw4_193 ?_
      refine go_astore C [(5, rV (some q5)), (0, rV (some a1)), (1, iV p1), (2, iV p2), (3, iV p3), (4, rV p4)] dL_usedIndex_19 (Nat.le_of_ble_eq_true rfl) rfl ?_
      refine go_iconst C 2 dL_usedIndex_21 kc_i2 ?_
      exact go_xiret C dL_usedIndex_22 hw (Nat.le_of_ble_eq_true rfl) (Nat.le_of_ble_eq_true rfl)
    · refine go_catch C (tableOf [(0, 12, 15, 13), (0, 12, 19, 21)]) ⟨0, 12, 23, 30⟩ (tableOf []) (by rw [htab]; rfl) (fun z hz => by
      simp only [tableOf, List.map_cons, List.map_nil, List.mem_cons, List.not_mem_nil, or_false] at hz
      rcases hz with rfl | rfl
      · exact ⟨by decide, _, tw4_8, by decide⟩
      · exact ⟨by decide, _, tw4_155, by decide⟩) (by decide) (by decide) tw5_26 tw5_34 ?_
      refine go_astore C [(5, rV (some q5)), (0, rV (some a1)), (1, iV p1), (2, iV p2), (3, iV p3), (4, rV p4)] dL_usedIndex_23 (Nat.le_of_ble_eq_true rfl) rfl ?_
      refine go_iconst C 3 dL_usedIndex_25 kc_i3 ?_
      exact go_xiret C dL_usedIndex_26 hw (Nat.le_of_ble_eq_true rfl) (Nat.le_of_ble_eq_true rfl)
  refine go_i2l C dL_usedIndex_10 ?_
  obtain ⟨a6, e9, hw9⟩ := hw
  subst e9
  have hw := hw9
  clear hw9
  refine go_lastore C dL_usedIndex_11 hw (fun h7 hw => ?_)
  refine go_goto C 27 dL_usedIndex_12 (by decide) ?_
  refine go_iconst C 0 dL_usedIndex_27 kc_i0 ?_
  exact go_xiret C dL_usedIndex_28 hw (Nat.le_of_ble_eq_true rfl) (Nat.le_of_ble_eq_true rfl)
/-- law: estimate(LDuelSchema;II[J)I -/
def w_L_estimate (N : Nat) (p0 : Option Nat) (p1 : Int32) (p2 : Int32) (p3 : Option Nat) (h0 : Hp) (K : Int32 → Hp → Prop) : Prop :=
  nn p0 fun a1 => cv h0 a1 11 <| w_X11_estimate N a1 p1 p2 h0 (fun v2 h3 =>
  nn p3 fun a6 => sL h3 a6 0 v2 fun h7 =>
  K 0 h7) (fun E h4 => (E = "java/lang/IllegalArgumentException" ∧ K 1 h4) ∨ (E = "java/lang/IndexOutOfBoundsException" ∧ K 2 h4) ∨ (E = "java/lang/UnsupportedOperationException" ∧ K 3 h4))
abbrev rmL_estimate : Room := { frames := 11, cells := 3, slots := 18, locals := 212 }
theorem vL_estimate : SHI yL_estimate cL_estimate 5 (some .int) [(0, 9, 12, 13), (0, 9, 16, 21), (0, 9, 20, 79)] 4 := ⟨tw6_163, tw1_0, tw6_164, by decide +kernel⟩
set_option maxHeartbeats 4000000 in
theorem m_L_estimate {G : Gp} (l : Launch) (hfl : l.stackTraces = false) (N : Nat) {p0 : Option Nat} {p1 : Int32} {p2 : Int32} {p3 : Option Nat} {h0 : Hp} {K : Int32 → Hp → Prop} (hw : w_L_estimate N p0 p1 p2 p3 h0 K) : MH G l yL_estimate cL_estimate 5 (some .int) [(0, 9, 12, 13), (0, 9, 16, 21), (0, 9, 20, 79)] rmL_estimate [rV p0, iV p1, iV p2, rV p3] h0 (QI G K) := by
  refine go_hmet l hfl _ 5 _ _ rfl (by decide +kernel) (Nat.le_of_ble_eq_true rfl) [(0, rV p0), (1, iV p1), (2, iV p2), (3, rV p3)] rfl (fun X hX C htab => ?_)
  subst hX
  unfold w_L_estimate at hw
  refine go_aload_n C dL_estimate_0 3 rfl ?_
  refine go_iconst C 0 dL_estimate_1 kc_i0 ?_
  refine go_aload_n C dL_estimate_2 0 rfl ?_
  refine go_iload_n C dL_estimate_3 1 rfl ?_
  refine go_iload_n C dL_estimate_4 2 rfl ?_
  obtain ⟨a1, e9, hw9⟩ := hw
  subst e9
  have hw := hw9
  clear hw9
  refine go_hcall_l C [iV p1, iV p2] vX11_estimate tw6_165 (ci := 11) rfl (m_X11_estimate (xl X) C.2.2.2.2.2.2.2.1 N hw.2) ⟨Nat.le_of_ble_eq_true rfl, Nat.le_of_ble_eq_true rfl, Nat.le_of_ble_eq_true rfl, Nat.le_of_ble_eq_true rfl⟩ hw.1 dL_estimate_5 rfl (Nat.le_of_ble_eq_true rfl) rfl (fun E h4 q5 hw => ?_) (fun v2 h3 hw => ?_)
  · rcases hw with ⟨rfl, hw⟩ | ⟨rfl, hw⟩ | ⟨rfl, hw⟩
    · refine go_catch C (tableOf []) ⟨0, 9, 12, 13⟩ (tableOf [(0, 9, 16, 21), (0, 9, 20, 79)]) (by rw [htab]; rfl) (fun z hz => by cases hz) (by decide) (by decide) tw4_8 tw4_16 ?_
      refine go_astore C [(4, rV (some q5)), (0, rV (some a1)), (1, iV p1), (2, iV p2), (3, rV p3)] dL_estimate_12 (Nat.le_of_ble_eq_true rfl) rfl ?_
      refine go_iconst C 1 dL_estimate_14 kc_i1 ?_
      exact go_xiret C dL_estimate_15 hw (Nat.le_of_ble_eq_true rfl) (Nat.le_of_ble_eq_true rfl)
    · refine go_catch C (tableOf [(0, 9, 12, 13)]) ⟨0, 9, 16, 21⟩ (tableOf [(0, 9, 20, 79)]) (by rw [htab]; rfl) (fun z hz => by
      simp only [tableOf, List.map_cons, List.map_nil, List.mem_cons, List.not_mem_nil, or_false] at hz
      rcases hz with rfl
      · exact ⟨by decide, _, tw4_8, by decide⟩) (by decide) (by decide) tw4_155 tw4_193 ?_
      refine go_astore C [(4, rV (some q5)), (0, rV (some a1)), (1, iV p1), (2, iV p2), (3, rV p3)] dL_estimate_16 (Nat.le_of_ble_eq_true rfl) rfl ?_
      refine go_iconst C 2 dL_estimate_18 kc_i2 ?_
      exact go_xiret C dL_estimate_19 hw (Nat.le_of_ble_eq_true rfl) (Nat.le_of_ble_eq_true rfl)
    · refine go_catch C (tableOf [(0, 9, 12, 13), (0, 9, 16, 21)]) ⟨0, 9, 20, 79⟩ (tableOf []) (by rw [htab]; rfl) (fun z hz => by
      simp only [tableOf, List.map_cons, List.map_nil, List.mem_cons, List.not_mem_nil, or_false] at hz
      rcases hz with rfl | rfl
      · exact ⟨by decide, _, tw4_8, by decide⟩
      · exact ⟨by decide, _, tw4_155, by decide⟩) (by decide) (by decide) tw6_76 tw6_87 ?_
      refine go_astore C [(4, rV (some q5)), (0, rV (some a1)), (1, iV p1), (2, iV p2), (3, rV p3)] dL_estimate_20 (Nat.le_of_ble_eq_true rfl) rfl ?_
      refine go_iconst C 3 dL_estimate_22 kc_i3 ?_
      exact go_xiret C dL_estimate_23 hw (Nat.le_of_ble_eq_true rfl) (Nat.le_of_ble_eq_true rfl)
  obtain ⟨a6, e9, hw9⟩ := hw
  subst e9
  have hw := hw9
  clear hw9
  refine go_lastore C dL_estimate_8 hw (fun h7 hw => ?_)
  refine go_goto C 24 dL_estimate_9 (by decide) ?_
  refine go_iconst C 0 dL_estimate_24 kc_i0 ?_
  exact go_xiret C dL_estimate_25 hw (Nat.le_of_ble_eq_true rfl) (Nat.le_of_ble_eq_true rfl)
/-- law: cold(LDuelSchema;II[J)I -/
def w_L_cold (N : Nat) (p0 : Option Nat) (p1 : Int32) (p2 : Int32) (p3 : Option Nat) (h0 : Hp) (K : Int32 → Hp → Prop) : Prop :=
  nn p0 fun a1 => cv h0 a1 11 <| w_X11_cold N a1 p1 p2 h0 (fun v2 h3 =>
  nn p3 fun a6 => sL h3 a6 0 ((v2 : Int32).toInt64) fun h7 =>
  K 0 h7) (fun E h4 => (E = "java/lang/IllegalArgumentException" ∧ K 1 h4) ∨ (E = "java/lang/IndexOutOfBoundsException" ∧ K 2 h4) ∨ (E = "java/lang/UnsupportedOperationException" ∧ K 3 h4))
abbrev rmL_cold : Room := { frames := 44, cells := 3, slots := 18, locals := 1391 }
theorem vL_cold : SHI yL_cold cL_cold 5 (some .int) [(0, 10, 13, 13), (0, 10, 17, 21), (0, 10, 21, 79)] 4 := ⟨tw6_171, tw1_0, tw6_172, by decide +kernel⟩
set_option maxHeartbeats 4000000 in
theorem m_L_cold {G : Gp} (l : Launch) (hfl : l.stackTraces = false) (N : Nat) {p0 : Option Nat} {p1 : Int32} {p2 : Int32} {p3 : Option Nat} {h0 : Hp} {K : Int32 → Hp → Prop} (hw : w_L_cold N p0 p1 p2 p3 h0 K) : MH G l yL_cold cL_cold 5 (some .int) [(0, 10, 13, 13), (0, 10, 17, 21), (0, 10, 21, 79)] rmL_cold [rV p0, iV p1, iV p2, rV p3] h0 (QI G K) := by
  refine go_hmet l hfl _ 5 _ _ rfl (by decide +kernel) (Nat.le_of_ble_eq_true rfl) [(0, rV p0), (1, iV p1), (2, iV p2), (3, rV p3)] rfl (fun X hX C htab => ?_)
  subst hX
  unfold w_L_cold at hw
  refine go_aload_n C dL_cold_0 3 rfl ?_
  refine go_iconst C 0 dL_cold_1 kc_i0 ?_
  refine go_aload_n C dL_cold_2 0 rfl ?_
  refine go_iload_n C dL_cold_3 1 rfl ?_
  refine go_iload_n C dL_cold_4 2 rfl ?_
  obtain ⟨a1, e9, hw9⟩ := hw
  subst e9
  have hw := hw9
  clear hw9
  refine go_hcall_i C [iV p1, iV p2] vX11_cold tw6_173 (ci := 11) rfl (m_X11_cold (xl X) C.2.2.2.2.2.2.2.1 N hw.2) ⟨Nat.le_of_ble_eq_true rfl, Nat.le_of_ble_eq_true rfl, Nat.le_of_ble_eq_true rfl, Nat.le_of_ble_eq_true rfl⟩ hw.1 dL_cold_5 rfl (Nat.le_of_ble_eq_true rfl) rfl (fun E h4 q5 hw => ?_) (fun v2 h3 hw => ?_)
  · rcases hw with ⟨rfl, hw⟩ | ⟨rfl, hw⟩ | ⟨rfl, hw⟩
    · refine go_catch C (tableOf []) ⟨0, 10, 13, 13⟩ (tableOf [(0, 10, 17, 21), (0, 10, 21, 79)]) (by rw [htab]; rfl) (fun z hz => by cases hz) (by decide) (by decide) tw4_8 tw4_16 ?_
      refine go_astore C [(4, rV (some q5)), (0, rV (some a1)), (1, iV p1), (2, iV p2), (3, rV p3)] dL_cold_13 (Nat.le_of_ble_eq_true rfl) rfl ?_
      refine go_iconst C 1 dL_cold_15 kc_i1 ?_
      exact go_xiret C dL_cold_16 hw (Nat.le_of_ble_eq_true rfl) (Nat.le_of_ble_eq_true rfl)
    · refine go_catch C (tableOf [(0, 10, 13, 13)]) ⟨0, 10, 17, 21⟩ (tableOf [(0, 10, 21, 79)]) (by rw [htab]; rfl) (fun z hz => by
      simp only [tableOf, List.map_cons, List.map_nil, List.mem_cons, List.not_mem_nil, or_false] at hz
      rcases hz with rfl
      · exact ⟨by decide, _, tw4_8, by decide⟩) (by decide) (by decide) tw4_155 tw4_193 ?_
      refine go_astore C [(4, rV (some q5)), (0, rV (some a1)), (1, iV p1), (2, iV p2), (3, rV p3)] dL_cold_17 (Nat.le_of_ble_eq_true rfl) rfl ?_
      refine go_iconst C 2 dL_cold_19 kc_i2 ?_
      exact go_xiret C dL_cold_20 hw (Nat.le_of_ble_eq_true rfl) (Nat.le_of_ble_eq_true rfl)
    · refine go_catch C (tableOf [(0, 10, 13, 13), (0, 10, 17, 21)]) ⟨0, 10, 21, 79⟩ (tableOf []) (by rw [htab]; rfl) (fun z hz => by
      simp only [tableOf, List.map_cons, List.map_nil, List.mem_cons, List.not_mem_nil, or_false] at hz
      rcases hz with rfl | rfl
      · exact ⟨by decide, _, tw4_8, by decide⟩
      · exact ⟨by decide, _, tw4_155, by decide⟩) (by decide) (by decide) tw6_76 tw6_87 ?_
      refine go_astore C [(4, rV (some q5)), (0, rV (some a1)), (1, iV p1), (2, iV p2), (3, rV p3)] dL_cold_21 (Nat.le_of_ble_eq_true rfl) rfl ?_
      refine go_iconst C 3 dL_cold_23 kc_i3 ?_
      exact go_xiret C dL_cold_24 hw (Nat.le_of_ble_eq_true rfl) (Nat.le_of_ble_eq_true rfl)
  refine go_i2l C dL_cold_8 ?_
  obtain ⟨a6, e9, hw9⟩ := hw
  subst e9
  have hw := hw9
  clear hw9
  refine go_lastore C dL_cold_9 hw (fun h7 hw => ?_)
  refine go_goto C 25 dL_cold_10 (by decide) ?_
  refine go_iconst C 0 dL_cold_25 kc_i0 ?_
  exact go_xiret C dL_cold_26 hw (Nat.le_of_ble_eq_true rfl) (Nat.le_of_ble_eq_true rfl)
/-- law: reads(LDuelSchema;II[J)I -/
def w_L_reads (N : Nat) (p0 : Option Nat) (p1 : Int32) (p2 : Int32) (p3 : Option Nat) (h0 : Hp) (K : Int32 → Hp → Prop) : Prop :=
  nn p0 fun a1 => cv h0 a1 11 <| w_X11_reads N a1 p1 p2 h0 (fun v2 h3 =>
  nn p3 fun a6 => sL h3 a6 0 ((v2 : Int32).toInt64) fun h7 =>
  K 0 h7) (fun E h4 => (E = "java/lang/IllegalArgumentException" ∧ K 1 h4) ∨ (E = "java/lang/IndexOutOfBoundsException" ∧ K 2 h4) ∨ (E = "java/lang/UnsupportedOperationException" ∧ K 3 h4))
abbrev rmL_reads : Room := { frames := 44, cells := 3, slots := 18, locals := 1391 }
theorem vL_reads : SHI yL_reads cL_reads 5 (some .int) [(0, 10, 13, 13), (0, 10, 17, 21), (0, 10, 21, 79)] 4 := ⟨tw6_182, tw1_0, tw6_183, by decide +kernel⟩
set_option maxHeartbeats 4000000 in
theorem m_L_reads {G : Gp} (l : Launch) (hfl : l.stackTraces = false) (N : Nat) {p0 : Option Nat} {p1 : Int32} {p2 : Int32} {p3 : Option Nat} {h0 : Hp} {K : Int32 → Hp → Prop} (hw : w_L_reads N p0 p1 p2 p3 h0 K) : MH G l yL_reads cL_reads 5 (some .int) [(0, 10, 13, 13), (0, 10, 17, 21), (0, 10, 21, 79)] rmL_reads [rV p0, iV p1, iV p2, rV p3] h0 (QI G K) := by
  refine go_hmet l hfl _ 5 _ _ rfl (by decide +kernel) (Nat.le_of_ble_eq_true rfl) [(0, rV p0), (1, iV p1), (2, iV p2), (3, rV p3)] rfl (fun X hX C htab => ?_)
  subst hX
  unfold w_L_reads at hw
  refine go_aload_n C dL_reads_0 3 rfl ?_
  refine go_iconst C 0 dL_reads_1 kc_i0 ?_
  refine go_aload_n C dL_reads_2 0 rfl ?_
  refine go_iload_n C dL_reads_3 1 rfl ?_
  refine go_iload_n C dL_reads_4 2 rfl ?_
  obtain ⟨a1, e9, hw9⟩ := hw
  subst e9
  have hw := hw9
  clear hw9
  refine go_hcall_i C [iV p1, iV p2] vX11_reads tw6_184 (ci := 11) rfl (m_X11_reads (xl X) C.2.2.2.2.2.2.2.1 N hw.2) ⟨Nat.le_of_ble_eq_true rfl, Nat.le_of_ble_eq_true rfl, Nat.le_of_ble_eq_true rfl, Nat.le_of_ble_eq_true rfl⟩ hw.1 dL_reads_5 rfl (Nat.le_of_ble_eq_true rfl) rfl (fun E h4 q5 hw => ?_) (fun v2 h3 hw => ?_)
  · rcases hw with ⟨rfl, hw⟩ | ⟨rfl, hw⟩ | ⟨rfl, hw⟩
    · refine go_catch C (tableOf []) ⟨0, 10, 13, 13⟩ (tableOf [(0, 10, 17, 21), (0, 10, 21, 79)]) (by rw [htab]; rfl) (fun z hz => by cases hz) (by decide) (by decide) tw4_8 tw4_16 ?_
      refine go_astore C [(4, rV (some q5)), (0, rV (some a1)), (1, iV p1), (2, iV p2), (3, rV p3)] dL_reads_13 (Nat.le_of_ble_eq_true rfl) rfl ?_
      refine go_iconst C 1 dL_reads_15 kc_i1 ?_
      exact go_xiret C dL_reads_16 hw (Nat.le_of_ble_eq_true rfl) (Nat.le_of_ble_eq_true rfl)
    · refine go_catch C (tableOf [(0, 10, 13, 13)]) ⟨0, 10, 17, 21⟩ (tableOf [(0, 10, 21, 79)]) (by rw [htab]; rfl) (fun z hz => by
      simp only [tableOf, List.map_cons, List.map_nil, List.mem_cons, List.not_mem_nil, or_false] at hz
      rcases hz with rfl
      · exact ⟨by decide, _, tw4_8, by decide⟩) (by decide) (by decide) tw4_155 tw4_193 ?_
      refine go_astore C [(4, rV (some q5)), (0, rV (some a1)), (1, iV p1), (2, iV p2), (3, rV p3)] dL_reads_17 (Nat.le_of_ble_eq_true rfl) rfl ?_
      refine go_iconst C 2 dL_reads_19 kc_i2 ?_
      exact go_xiret C dL_reads_20 hw (Nat.le_of_ble_eq_true rfl) (Nat.le_of_ble_eq_true rfl)
    · refine go_catch C (tableOf [(0, 10, 13, 13), (0, 10, 17, 21)]) ⟨0, 10, 21, 79⟩ (tableOf []) (by rw [htab]; rfl) (fun z hz => by
      simp only [tableOf, List.map_cons, List.map_nil, List.mem_cons, List.not_mem_nil, or_false] at hz
      rcases hz with rfl | rfl
      · exact ⟨by decide, _, tw4_8, by decide⟩
      · exact ⟨by decide, _, tw4_155, by decide⟩) (by decide) (by decide) tw6_76 tw6_87 ?_
      refine go_astore C [(4, rV (some q5)), (0, rV (some a1)), (1, iV p1), (2, iV p2), (3, rV p3)] dL_reads_21 (Nat.le_of_ble_eq_true rfl) rfl ?_
      refine go_iconst C 3 dL_reads_23 kc_i3 ?_
      exact go_xiret C dL_reads_24 hw (Nat.le_of_ble_eq_true rfl) (Nat.le_of_ble_eq_true rfl)
  refine go_i2l C dL_reads_8 ?_
  obtain ⟨a6, e9, hw9⟩ := hw
  subst e9
  have hw := hw9
  clear hw9
  refine go_lastore C dL_reads_9 hw (fun h7 hw => ?_)
  refine go_goto C 25 dL_reads_10 (by decide) ?_
  refine go_iconst C 0 dL_reads_25 kc_i0 ?_
  exact go_xiret C dL_reads_26 hw (Nat.le_of_ble_eq_true rfl) (Nat.le_of_ble_eq_true rfl)
/-- law: ban(LDuelSchema;II[J)I -/
def w_L_ban (N : Nat) (p0 : Option Nat) (p1 : Int32) (p2 : Int32) (p3 : Option Nat) (h0 : Hp) (K : Int32 → Hp → Prop) : Prop :=
  nn p0 fun a1 => cv h0 a1 11 <| w_X11_ban N a1 p1 p2 h0 (fun v2 h3 =>
  nn p3 fun a6 => sL h3 a6 0 ((v2 : Int32).toInt64) fun h7 =>
  K 0 h7) (fun E h4 => (E = "java/lang/IllegalArgumentException" ∧ K 1 h4) ∨ (E = "java/lang/IndexOutOfBoundsException" ∧ K 2 h4) ∨ (E = "java/lang/UnsupportedOperationException" ∧ K 3 h4) ∨ (E = "java/lang/IllegalStateException" ∧ K 4 h4))
abbrev rmL_ban : Room := { frames := 10, cells := 3, slots := 18, locals := 185 }
theorem vL_ban : SHI yL_ban cL_ban 5 (some .int) [(0, 10, 13, 13), (0, 10, 17, 21), (0, 10, 21, 79), (0, 10, 25, 15)] 4 := ⟨tw6_189, tw1_0, tw6_190, by decide +kernel⟩
set_option maxHeartbeats 4000000 in
theorem m_L_ban {G : Gp} (l : Launch) (hfl : l.stackTraces = false) (N : Nat) {p0 : Option Nat} {p1 : Int32} {p2 : Int32} {p3 : Option Nat} {h0 : Hp} {K : Int32 → Hp → Prop} (hw : w_L_ban N p0 p1 p2 p3 h0 K) : MH G l yL_ban cL_ban 5 (some .int) [(0, 10, 13, 13), (0, 10, 17, 21), (0, 10, 21, 79), (0, 10, 25, 15)] rmL_ban [rV p0, iV p1, iV p2, rV p3] h0 (QI G K) := by
  refine go_hmet l hfl _ 5 _ _ rfl (by decide +kernel) (Nat.le_of_ble_eq_true rfl) [(0, rV p0), (1, iV p1), (2, iV p2), (3, rV p3)] rfl (fun X hX C htab => ?_)
  subst hX
  unfold w_L_ban at hw
  refine go_aload_n C dL_ban_0 3 rfl ?_
  refine go_iconst C 0 dL_ban_1 kc_i0 ?_
  refine go_aload_n C dL_ban_2 0 rfl ?_
  refine go_iload_n C dL_ban_3 1 rfl ?_
  refine go_iload_n C dL_ban_4 2 rfl ?_
  obtain ⟨a1, e9, hw9⟩ := hw
  subst e9
  have hw := hw9
  clear hw9
  refine go_hcall_i C [iV p1, iV p2] vX11_ban tw6_191 (ci := 11) rfl (m_X11_ban (xl X) C.2.2.2.2.2.2.2.1 N hw.2) ⟨Nat.le_of_ble_eq_true rfl, Nat.le_of_ble_eq_true rfl, Nat.le_of_ble_eq_true rfl, Nat.le_of_ble_eq_true rfl⟩ hw.1 dL_ban_5 rfl (Nat.le_of_ble_eq_true rfl) rfl (fun E h4 q5 hw => ?_) (fun v2 h3 hw => ?_)
  · rcases hw with ⟨rfl, hw⟩ | ⟨rfl, hw⟩ | ⟨rfl, hw⟩ | ⟨rfl, hw⟩
    · refine go_catch C (tableOf []) ⟨0, 10, 13, 13⟩ (tableOf [(0, 10, 17, 21), (0, 10, 21, 79), (0, 10, 25, 15)]) (by rw [htab]; rfl) (fun z hz => by cases hz) (by decide) (by decide) tw4_8 tw4_16 ?_
      refine go_astore C [(4, rV (some q5)), (0, rV (some a1)), (1, iV p1), (2, iV p2), (3, rV p3)] dL_ban_13 (Nat.le_of_ble_eq_true rfl) rfl ?_
      refine go_iconst C 1 dL_ban_15 kc_i1 ?_
      exact go_xiret C dL_ban_16 hw (Nat.le_of_ble_eq_true rfl) (Nat.le_of_ble_eq_true rfl)
    · refine go_catch C (tableOf [(0, 10, 13, 13)]) ⟨0, 10, 17, 21⟩ (tableOf [(0, 10, 21, 79), (0, 10, 25, 15)]) (by rw [htab]; rfl) (fun z hz => by
      simp only [tableOf, List.map_cons, List.map_nil, List.mem_cons, List.not_mem_nil, or_false] at hz
      rcases hz with rfl
      · exact ⟨by decide, _, tw4_8, by decide⟩) (by decide) (by decide) tw4_155 tw4_193 ?_
      refine go_astore C [(4, rV (some q5)), (0, rV (some a1)), (1, iV p1), (2, iV p2), (3, rV p3)] dL_ban_17 (Nat.le_of_ble_eq_true rfl) rfl ?_
      refine go_iconst C 2 dL_ban_19 kc_i2 ?_
      exact go_xiret C dL_ban_20 hw (Nat.le_of_ble_eq_true rfl) (Nat.le_of_ble_eq_true rfl)
    · refine go_catch C (tableOf [(0, 10, 13, 13), (0, 10, 17, 21)]) ⟨0, 10, 21, 79⟩ (tableOf [(0, 10, 25, 15)]) (by rw [htab]; rfl) (fun z hz => by
      simp only [tableOf, List.map_cons, List.map_nil, List.mem_cons, List.not_mem_nil, or_false] at hz
      rcases hz with rfl | rfl
      · exact ⟨by decide, _, tw4_8, by decide⟩
      · exact ⟨by decide, _, tw4_155, by decide⟩) (by decide) (by decide) tw6_76 tw6_87 ?_
      refine go_astore C [(4, rV (some q5)), (0, rV (some a1)), (1, iV p1), (2, iV p2), (3, rV p3)] dL_ban_21 (Nat.le_of_ble_eq_true rfl) rfl ?_
      refine go_iconst C 3 dL_ban_23 kc_i3 ?_
      exact go_xiret C dL_ban_24 hw (Nat.le_of_ble_eq_true rfl) (Nat.le_of_ble_eq_true rfl)
    · refine go_catch C (tableOf [(0, 10, 13, 13), (0, 10, 17, 21), (0, 10, 21, 79)]) ⟨0, 10, 25, 15⟩ (tableOf []) (by rw [htab]; rfl) (fun z hz => by
      simp only [tableOf, List.map_cons, List.map_nil, List.mem_cons, List.not_mem_nil, or_false] at hz
      rcases hz with rfl | rfl | rfl
      · exact ⟨by decide, _, tw4_8, by decide⟩
      · exact ⟨by decide, _, tw4_155, by decide⟩
      · exact ⟨by decide, _, tw6_76, by decide⟩) (by decide) (by decide) tw4_9 tw4_138 ?_
      refine go_astore C [(4, rV (some q5)), (0, rV (some a1)), (1, iV p1), (2, iV p2), (3, rV p3)] dL_ban_25 (Nat.le_of_ble_eq_true rfl) rfl ?_
      refine go_iconst C 4 dL_ban_27 kc_i4 ?_
      exact go_xiret C dL_ban_28 hw (Nat.le_of_ble_eq_true rfl) (Nat.le_of_ble_eq_true rfl)
  refine go_i2l C dL_ban_8 ?_
  obtain ⟨a6, e9, hw9⟩ := hw
  subst e9
  have hw := hw9
  clear hw9
  refine go_lastore C dL_ban_9 hw (fun h7 hw => ?_)
  refine go_goto C 29 dL_ban_10 (by decide) ?_
  refine go_iconst C 0 dL_ban_29 kc_i0 ?_
  exact go_xiret C dL_ban_30 hw (Nat.le_of_ble_eq_true rfl) (Nat.le_of_ble_eq_true rfl)
/-- law: round(LDuelSchema;I[J)I -/
def w_L_round (N : Nat) (p0 : Option Nat) (p1 : Int32) (p2 : Option Nat) (h0 : Hp) (K : Int32 → Hp → Prop) : Prop :=
  nn p0 fun a1 => cv h0 a1 11 <| w_X11_round N a1 p1 h0 (fun v2 h3 =>
  nn p2 fun a6 => sL h3 a6 0 ((v2 : Int32).toInt64) fun h7 =>
  K 0 h7) (fun E h4 => (E = "java/lang/IndexOutOfBoundsException" ∧ K 1 h4) ∨ (E = "java/lang/UnsupportedOperationException" ∧ K 2 h4))
abbrev rmL_round : Room := { frames := 43, cells := 2, slots := 12, locals := 1372 }
theorem vL_round : SHI yL_round cL_round 4 (some .int) [(0, 9, 12, 21), (0, 9, 15, 79)] 3 := ⟨tw6_214, tw1_0, tw6_215, by decide +kernel⟩
set_option maxHeartbeats 4000000 in
theorem m_L_round {G : Gp} (l : Launch) (hfl : l.stackTraces = false) (N : Nat) {p0 : Option Nat} {p1 : Int32} {p2 : Option Nat} {h0 : Hp} {K : Int32 → Hp → Prop} (hw : w_L_round N p0 p1 p2 h0 K) : MH G l yL_round cL_round 4 (some .int) [(0, 9, 12, 21), (0, 9, 15, 79)] rmL_round [rV p0, iV p1, rV p2] h0 (QI G K) := by
  refine go_hmet l hfl _ 4 _ _ rfl (by decide +kernel) (Nat.le_of_ble_eq_true rfl) [(0, rV p0), (1, iV p1), (2, rV p2)] rfl (fun X hX C htab => ?_)
  subst hX
  unfold w_L_round at hw
  refine go_aload_n C dL_round_0 2 rfl ?_
  refine go_iconst C 0 dL_round_1 kc_i0 ?_
  refine go_aload_n C dL_round_2 0 rfl ?_
  refine go_iload_n C dL_round_3 1 rfl ?_
  obtain ⟨a1, e9, hw9⟩ := hw
  subst e9
  have hw := hw9
  clear hw9
  refine go_hcall_i C [iV p1] vX11_round tw6_216 (ci := 11) rfl (m_X11_round (xl X) C.2.2.2.2.2.2.2.1 N hw.2) ⟨Nat.le_of_ble_eq_true rfl, Nat.le_of_ble_eq_true rfl, Nat.le_of_ble_eq_true rfl, Nat.le_of_ble_eq_true rfl⟩ hw.1 dL_round_4 rfl (Nat.le_of_ble_eq_true rfl) rfl (fun E h4 q5 hw => ?_) (fun v2 h3 hw => ?_)
  · rcases hw with ⟨rfl, hw⟩ | ⟨rfl, hw⟩
    · refine go_catch C (tableOf []) ⟨0, 9, 12, 21⟩ (tableOf [(0, 9, 15, 79)]) (by rw [htab]; rfl) (fun z hz => by cases hz) (by decide) (by decide) tw4_155 tw4_193 ?_
      refine go_astore_n C [(3, rV (some q5)), (0, rV (some a1)), (1, iV p1), (2, rV p2)] dL_round_12 (Nat.le_of_ble_eq_true rfl) rfl ?_
      refine go_iconst C 1 dL_round_13 kc_i1 ?_
      exact go_xiret C dL_round_14 hw (Nat.le_of_ble_eq_true rfl) (Nat.le_of_ble_eq_true rfl)
    · refine go_catch C (tableOf [(0, 9, 12, 21)]) ⟨0, 9, 15, 79⟩ (tableOf []) (by rw [htab]; rfl) (fun z hz => by
      simp only [tableOf, List.map_cons, List.map_nil, List.mem_cons, List.not_mem_nil, or_false] at hz
      rcases hz with rfl
      · exact ⟨by decide, _, tw4_155, by decide⟩) (by decide) (by decide) tw6_76 tw6_87 ?_
      refine go_astore_n C [(3, rV (some q5)), (0, rV (some a1)), (1, iV p1), (2, rV p2)] dL_round_15 (Nat.le_of_ble_eq_true rfl) rfl ?_
      refine go_iconst C 2 dL_round_16 kc_i2 ?_
      exact go_xiret C dL_round_17 hw (Nat.le_of_ble_eq_true rfl) (Nat.le_of_ble_eq_true rfl)
  refine go_i2l C dL_round_7 ?_
  obtain ⟨a6, e9, hw9⟩ := hw
  subst e9
  have hw := hw9
  clear hw9
  refine go_lastore C dL_round_8 hw (fun h7 hw => ?_)
  refine go_goto C 18 dL_round_9 (by decide) ?_
  refine go_iconst C 0 dL_round_18 kc_i0 ?_
  exact go_xiret C dL_round_19 hw (Nat.le_of_ble_eq_true rfl) (Nat.le_of_ble_eq_true rfl)
/-- law: appeal(LDuelSchema;I[J)I -/
def w_L_appeal (N : Nat) (p0 : Option Nat) (p1 : Int32) (p2 : Option Nat) (h0 : Hp) (K : Int32 → Hp → Prop) : Prop :=
  nn p0 fun a1 => cv h0 a1 11 <| w_X11_appeal N a1 p1 h0 (fun v2 h3 =>
  nn p2 fun a6 => sL h3 a6 0 ((v2 : Int32).toInt64) fun h7 =>
  K 0 h7) (fun E h4 => (E = "java/lang/IllegalArgumentException" ∧ K 1 h4) ∨ (E = "java/lang/UnsupportedOperationException" ∧ K 2 h4) ∨ (E = "java/lang/IllegalStateException" ∧ K 3 h4))
abbrev rmL_appeal : Room := { frames := 43, cells := 2, slots := 12, locals := 1370 }
theorem vL_appeal : SHI yL_appeal cL_appeal 4 (some .int) [(0, 9, 12, 13), (0, 9, 15, 79), (0, 9, 18, 15)] 3 := ⟨tw6_238, tw1_0, tw6_239, by decide +kernel⟩
set_option maxHeartbeats 4000000 in
theorem m_L_appeal {G : Gp} (l : Launch) (hfl : l.stackTraces = false) (N : Nat) {p0 : Option Nat} {p1 : Int32} {p2 : Option Nat} {h0 : Hp} {K : Int32 → Hp → Prop} (hw : w_L_appeal N p0 p1 p2 h0 K) : MH G l yL_appeal cL_appeal 4 (some .int) [(0, 9, 12, 13), (0, 9, 15, 79), (0, 9, 18, 15)] rmL_appeal [rV p0, iV p1, rV p2] h0 (QI G K) := by
  refine go_hmet l hfl _ 4 _ _ rfl (by decide +kernel) (Nat.le_of_ble_eq_true rfl) [(0, rV p0), (1, iV p1), (2, rV p2)] rfl (fun X hX C htab => ?_)
  subst hX
  unfold w_L_appeal at hw
  refine go_aload_n C dL_appeal_0 2 rfl ?_
  refine go_iconst C 0 dL_appeal_1 kc_i0 ?_
  refine go_aload_n C dL_appeal_2 0 rfl ?_
  refine go_iload_n C dL_appeal_3 1 rfl ?_
  obtain ⟨a1, e9, hw9⟩ := hw
  subst e9
  have hw := hw9
  clear hw9
  refine go_hcall_i C [iV p1] vX11_appeal tw7_0 (ci := 11) rfl (m_X11_appeal (xl X) C.2.2.2.2.2.2.2.1 N hw.2) ⟨Nat.le_of_ble_eq_true rfl, Nat.le_of_ble_eq_true rfl, Nat.le_of_ble_eq_true rfl, Nat.le_of_ble_eq_true rfl⟩ hw.1 dL_appeal_4 rfl (Nat.le_of_ble_eq_true rfl) rfl (fun E h4 q5 hw => ?_) (fun v2 h3 hw => ?_)
  · rcases hw with ⟨rfl, hw⟩ | ⟨rfl, hw⟩ | ⟨rfl, hw⟩
    · refine go_catch C (tableOf []) ⟨0, 9, 12, 13⟩ (tableOf [(0, 9, 15, 79), (0, 9, 18, 15)]) (by rw [htab]; rfl) (fun z hz => by cases hz) (by decide) (by decide) tw4_8 tw4_16 ?_
      refine go_astore_n C [(3, rV (some q5)), (0, rV (some a1)), (1, iV p1), (2, rV p2)] dL_appeal_12 (Nat.le_of_ble_eq_true rfl) rfl ?_
      refine go_iconst C 1 dL_appeal_13 kc_i1 ?_
      exact go_xiret C dL_appeal_14 hw (Nat.le_of_ble_eq_true rfl) (Nat.le_of_ble_eq_true rfl)
    · refine go_catch C (tableOf [(0, 9, 12, 13)]) ⟨0, 9, 15, 79⟩ (tableOf [(0, 9, 18, 15)]) (by rw [htab]; rfl) (fun z hz => by
      simp only [tableOf, List.map_cons, List.map_nil, List.mem_cons, List.not_mem_nil, or_false] at hz
      rcases hz with rfl
      · exact ⟨by decide, _, tw4_8, by decide⟩) (by decide) (by decide) tw6_76 tw6_87 ?_
      refine go_astore_n C [(3, rV (some q5)), (0, rV (some a1)), (1, iV p1), (2, rV p2)] dL_appeal_15 (Nat.le_of_ble_eq_true rfl) rfl ?_
      refine go_iconst C 2 dL_appeal_16 kc_i2 ?_
      exact go_xiret C dL_appeal_17 hw (Nat.le_of_ble_eq_true rfl) (Nat.le_of_ble_eq_true rfl)
    · refine go_catch C (tableOf [(0, 9, 12, 13), (0, 9, 15, 79)]) ⟨0, 9, 18, 15⟩ (tableOf []) (by rw [htab]; rfl) (fun z hz => by
      simp only [tableOf, List.map_cons, List.map_nil, List.mem_cons, List.not_mem_nil, or_false] at hz
      rcases hz with rfl | rfl
      · exact ⟨by decide, _, tw4_8, by decide⟩
      · exact ⟨by decide, _, tw6_76, by decide⟩) (by decide) (by decide) tw4_9 tw4_138 ?_
      refine go_astore_n C [(3, rV (some q5)), (0, rV (some a1)), (1, iV p1), (2, rV p2)] dL_appeal_18 (Nat.le_of_ble_eq_true rfl) rfl ?_
      refine go_iconst C 3 dL_appeal_19 kc_i3 ?_
      exact go_xiret C dL_appeal_20 hw (Nat.le_of_ble_eq_true rfl) (Nat.le_of_ble_eq_true rfl)
  refine go_i2l C dL_appeal_7 ?_
  obtain ⟨a6, e9, hw9⟩ := hw
  subst e9
  have hw := hw9
  clear hw9
  refine go_lastore C dL_appeal_8 hw (fun h7 hw => ?_)
  refine go_goto C 21 dL_appeal_9 (by decide) ?_
  refine go_iconst C 0 dL_appeal_21 kc_i0 ?_
  exact go_xiret C dL_appeal_22 hw (Nat.le_of_ble_eq_true rfl) (Nat.le_of_ble_eq_true rfl)
/-- law: coins(LDuelSchema;I[J)I -/
def w_L_coins (N : Nat) (p0 : Option Nat) (p1 : Int32) (p2 : Option Nat) (h0 : Hp) (K : Int32 → Hp → Prop) : Prop :=
  nn p0 fun a1 => cv h0 a1 11 <| w_X11_coins N a1 p1 h0 (fun v2 h3 =>
  nn p2 fun a6 => sL h3 a6 0 ((v2 : Int32).toInt64) fun h7 =>
  K 0 h7) (fun E h4 => (E = "java/lang/IllegalArgumentException" ∧ K 1 h4))
abbrev rmL_coins : Room := { frames := 10, cells := 1, slots := 6, locals := 181 }
theorem vL_coins : SHI yL_coins cL_coins 4 (some .int) [(0, 9, 12, 13)] 3 := ⟨tw7_15, tw1_0, tw7_16, by decide +kernel⟩
set_option maxHeartbeats 4000000 in
theorem m_L_coins {G : Gp} (l : Launch) (hfl : l.stackTraces = false) (N : Nat) {p0 : Option Nat} {p1 : Int32} {p2 : Option Nat} {h0 : Hp} {K : Int32 → Hp → Prop} (hw : w_L_coins N p0 p1 p2 h0 K) : MH G l yL_coins cL_coins 4 (some .int) [(0, 9, 12, 13)] rmL_coins [rV p0, iV p1, rV p2] h0 (QI G K) := by
  refine go_hmet l hfl _ 4 _ _ rfl (by decide +kernel) (Nat.le_of_ble_eq_true rfl) [(0, rV p0), (1, iV p1), (2, rV p2)] rfl (fun X hX C htab => ?_)
  subst hX
  unfold w_L_coins at hw
  refine go_aload_n C dL_coins_0 2 rfl ?_
  refine go_iconst C 0 dL_coins_1 kc_i0 ?_
  refine go_aload_n C dL_coins_2 0 rfl ?_
  refine go_iload_n C dL_coins_3 1 rfl ?_
  obtain ⟨a1, e9, hw9⟩ := hw
  subst e9
  have hw := hw9
  clear hw9
  refine go_hcall_i C [iV p1] vX11_coins tw7_17 (ci := 11) rfl (m_X11_coins (xl X) C.2.2.2.2.2.2.2.1 N hw.2) ⟨Nat.le_of_ble_eq_true rfl, Nat.le_of_ble_eq_true rfl, Nat.le_of_ble_eq_true rfl, Nat.le_of_ble_eq_true rfl⟩ hw.1 dL_coins_4 rfl (Nat.le_of_ble_eq_true rfl) rfl (fun E h4 q5 hw => ?_) (fun v2 h3 hw => ?_)
  · rcases hw with ⟨rfl, hw⟩
    · refine go_catch C (tableOf []) ⟨0, 9, 12, 13⟩ (tableOf []) (by rw [htab]; rfl) (fun z hz => by cases hz) (by decide) (by decide) tw4_8 tw4_16 ?_
      refine go_astore_n C [(3, rV (some q5)), (0, rV (some a1)), (1, iV p1), (2, rV p2)] dL_coins_12 (Nat.le_of_ble_eq_true rfl) rfl ?_
      refine go_iconst C 1 dL_coins_13 kc_i1 ?_
      exact go_xiret C dL_coins_14 hw (Nat.le_of_ble_eq_true rfl) (Nat.le_of_ble_eq_true rfl)
  refine go_i2l C dL_coins_7 ?_
  obtain ⟨a6, e9, hw9⟩ := hw
  subst e9
  have hw := hw9
  clear hw9
  refine go_lastore C dL_coins_8 hw (fun h7 hw => ?_)
  refine go_goto C 15 dL_coins_9 (by decide) ?_
  refine go_iconst C 0 dL_coins_15 kc_i0 ?_
  exact go_xiret C dL_coins_16 hw (Nat.le_of_ble_eq_true rfl) (Nat.le_of_ble_eq_true rfl)
/-- law: misses(LDuelSchema;II[J)I -/
def w_L_misses (N : Nat) (p0 : Option Nat) (p1 : Int32) (p2 : Int32) (p3 : Option Nat) (h0 : Hp) (K : Int32 → Hp → Prop) : Prop :=
  nn p0 fun a1 => cv h0 a1 11 <| w_X11_misses N a1 p1 p2 h0 (fun v2 h3 =>
  nn p3 fun a6 => sL h3 a6 0 ((v2 : Int32).toInt64) fun h7 =>
  K 0 h7) (fun E h4 => (E = "java/lang/IllegalArgumentException" ∧ K 1 h4) ∨ (E = "java/util/NoSuchElementException" ∧ K 2 h4))
abbrev rmL_misses : Room := { frames := 10, cells := 2, slots := 12, locals := 183 }
theorem vL_misses : SHI yL_misses cL_misses 5 (some .int) [(0, 10, 13, 13), (0, 10, 17, 30)] 4 := ⟨tw7_22, tw1_0, tw7_23, by decide +kernel⟩
set_option maxHeartbeats 4000000 in
theorem m_L_misses {G : Gp} (l : Launch) (hfl : l.stackTraces = false) (N : Nat) {p0 : Option Nat} {p1 : Int32} {p2 : Int32} {p3 : Option Nat} {h0 : Hp} {K : Int32 → Hp → Prop} (hw : w_L_misses N p0 p1 p2 p3 h0 K) : MH G l yL_misses cL_misses 5 (some .int) [(0, 10, 13, 13), (0, 10, 17, 30)] rmL_misses [rV p0, iV p1, iV p2, rV p3] h0 (QI G K) := by
  refine go_hmet l hfl _ 5 _ _ rfl (by decide +kernel) (Nat.le_of_ble_eq_true rfl) [(0, rV p0), (1, iV p1), (2, iV p2), (3, rV p3)] rfl (fun X hX C htab => ?_)
  subst hX
  unfold w_L_misses at hw
  refine go_aload_n C dL_misses_0 3 rfl ?_
  refine go_iconst C 0 dL_misses_1 kc_i0 ?_
  refine go_aload_n C dL_misses_2 0 rfl ?_
  refine go_iload_n C dL_misses_3 1 rfl ?_
  refine go_iload_n C dL_misses_4 2 rfl ?_
  obtain ⟨a1, e9, hw9⟩ := hw
  subst e9
  have hw := hw9
  clear hw9
  refine go_hcall_i C [iV p1, iV p2] vX11_misses tw7_24 (ci := 11) rfl (m_X11_misses (xl X) C.2.2.2.2.2.2.2.1 N hw.2) ⟨Nat.le_of_ble_eq_true rfl, Nat.le_of_ble_eq_true rfl, Nat.le_of_ble_eq_true rfl, Nat.le_of_ble_eq_true rfl⟩ hw.1 dL_misses_5 rfl (Nat.le_of_ble_eq_true rfl) rfl (fun E h4 q5 hw => ?_) (fun v2 h3 hw => ?_)
  · rcases hw with ⟨rfl, hw⟩ | ⟨rfl, hw⟩
    · refine go_catch C (tableOf []) ⟨0, 10, 13, 13⟩ (tableOf [(0, 10, 17, 30)]) (by rw [htab]; rfl) (fun z hz => by cases hz) (by decide) (by decide) tw4_8 tw4_16 ?_
      refine go_astore C [(4, rV (some q5)), (0, rV (some a1)), (1, iV p1), (2, iV p2), (3, rV p3)] dL_misses_13 (Nat.le_of_ble_eq_true rfl) rfl ?_
      refine go_iconst C 1 dL_misses_15 kc_i1 ?_
      exact go_xiret C dL_misses_16 hw (Nat.le_of_ble_eq_true rfl) (Nat.le_of_ble_eq_true rfl)
    · refine go_catch C (tableOf [(0, 10, 13, 13)]) ⟨0, 10, 17, 30⟩ (tableOf []) (by rw [htab]; rfl) (fun z hz => by
      simp only [tableOf, List.map_cons, List.map_nil, List.mem_cons, List.not_mem_nil, or_false] at hz
      rcases hz with rfl
      · exact ⟨by decide, _, tw4_8, by decide⟩) (by decide) (by decide) tw5_26 tw5_34 ?_
      refine go_astore C [(4, rV (some q5)), (0, rV (some a1)), (1, iV p1), (2, iV p2), (3, rV p3)] dL_misses_17 (Nat.le_of_ble_eq_true rfl) rfl ?_
      refine go_iconst C 2 dL_misses_19 kc_i2 ?_
      exact go_xiret C dL_misses_20 hw (Nat.le_of_ble_eq_true rfl) (Nat.le_of_ble_eq_true rfl)
  refine go_i2l C dL_misses_8 ?_
  obtain ⟨a6, e9, hw9⟩ := hw
  subst e9
  have hw := hw9
  clear hw9
  refine go_lastore C dL_misses_9 hw (fun h7 hw => ?_)
  refine go_goto C 21 dL_misses_10 (by decide) ?_
  refine go_iconst C 0 dL_misses_21 kc_i0 ?_
  exact go_xiret C dL_misses_22 hw (Nat.le_of_ble_eq_true rfl) (Nat.le_of_ble_eq_true rfl)
/-- law: total(LDuelSchema;I[J)I -/
def w_L_total (N : Nat) (p0 : Option Nat) (p1 : Int32) (p2 : Option Nat) (h0 : Hp) (K : Int32 → Hp → Prop) : Prop :=
  nn p0 fun a1 => cv h0 a1 11 <| w_X11_total N a1 p1 h0 (fun v2 h3 =>
  nn p2 fun a6 => sL h3 a6 0 ((v2 : Int32).toInt64) fun h7 =>
  K 0 h7) (fun E h4 => (E = "java/lang/IllegalArgumentException" ∧ K 1 h4))
abbrev rmL_total : Room := { frames := 10, cells := 1, slots := 6, locals := 181 }
theorem vL_total : SHI yL_total cL_total 4 (some .int) [(0, 9, 12, 13)] 3 := ⟨tw7_34, tw1_0, tw7_35, by decide +kernel⟩
set_option maxHeartbeats 4000000 in
theorem m_L_total {G : Gp} (l : Launch) (hfl : l.stackTraces = false) (N : Nat) {p0 : Option Nat} {p1 : Int32} {p2 : Option Nat} {h0 : Hp} {K : Int32 → Hp → Prop} (hw : w_L_total N p0 p1 p2 h0 K) : MH G l yL_total cL_total 4 (some .int) [(0, 9, 12, 13)] rmL_total [rV p0, iV p1, rV p2] h0 (QI G K) := by
  refine go_hmet l hfl _ 4 _ _ rfl (by decide +kernel) (Nat.le_of_ble_eq_true rfl) [(0, rV p0), (1, iV p1), (2, rV p2)] rfl (fun X hX C htab => ?_)
  subst hX
  unfold w_L_total at hw
  refine go_aload_n C dL_total_0 2 rfl ?_
  refine go_iconst C 0 dL_total_1 kc_i0 ?_
  refine go_aload_n C dL_total_2 0 rfl ?_
  refine go_iload_n C dL_total_3 1 rfl ?_
  obtain ⟨a1, e9, hw9⟩ := hw
  subst e9
  have hw := hw9
  clear hw9
  refine go_hcall_i C [iV p1] vX11_total tw7_36 (ci := 11) rfl (m_X11_total (xl X) C.2.2.2.2.2.2.2.1 N hw.2) ⟨Nat.le_of_ble_eq_true rfl, Nat.le_of_ble_eq_true rfl, Nat.le_of_ble_eq_true rfl, Nat.le_of_ble_eq_true rfl⟩ hw.1 dL_total_4 rfl (Nat.le_of_ble_eq_true rfl) rfl (fun E h4 q5 hw => ?_) (fun v2 h3 hw => ?_)
  · rcases hw with ⟨rfl, hw⟩
    · refine go_catch C (tableOf []) ⟨0, 9, 12, 13⟩ (tableOf []) (by rw [htab]; rfl) (fun z hz => by cases hz) (by decide) (by decide) tw4_8 tw4_16 ?_
      refine go_astore_n C [(3, rV (some q5)), (0, rV (some a1)), (1, iV p1), (2, rV p2)] dL_total_12 (Nat.le_of_ble_eq_true rfl) rfl ?_
      refine go_iconst C 1 dL_total_13 kc_i1 ?_
      exact go_xiret C dL_total_14 hw (Nat.le_of_ble_eq_true rfl) (Nat.le_of_ble_eq_true rfl)
  refine go_i2l C dL_total_7 ?_
  obtain ⟨a6, e9, hw9⟩ := hw
  subst e9
  have hw := hw9
  clear hw9
  refine go_lastore C dL_total_8 hw (fun h7 hw => ?_)
  refine go_goto C 15 dL_total_9 (by decide) ?_
  refine go_iconst C 0 dL_total_15 kc_i0 ?_
  exact go_xiret C dL_total_16 hw (Nat.le_of_ble_eq_true rfl) (Nat.le_of_ble_eq_true rfl)
/-- law: hitShare(LDuelSchema;II[D)I -/
def w_L_hitShare (N : Nat) (p0 : Option Nat) (p1 : Int32) (p2 : Int32) (p3 : Option Nat) (h0 : Hp) (K : Int32 → Hp → Prop) : Prop :=
  nn p0 fun a1 => cv h0 a1 11 <| w_X11_hitShare N a1 p1 p2 h0 (fun v2 h3 =>
  ok (vf_n64 (FP.f2d v2)) (
  nn p3 fun a6 => sD h3 a6 0 (FP.f2d v2) fun h7 =>
  K 0 h7)) (fun E h4 => (E = "java/lang/IllegalArgumentException" ∧ K 1 h4) ∨ (E = "java/lang/IndexOutOfBoundsException" ∧ K 2 h4) ∨ (E = "java/lang/UnsupportedOperationException" ∧ K 3 h4) ∨ (E = "java/lang/ArithmeticException" ∧ K 4 h4))
abbrev rmL_hitShare : Room := { frames := 44, cells := 4, slots := 24, locals := 1392 }
theorem vL_hitShare : SHI yL_hitShare cL_hitShare 5 (some .int) [(0, 10, 13, 13), (0, 10, 17, 21), (0, 10, 21, 79), (0, 10, 25, 130)] 4 := ⟨tw7_46, tw1_0, tw7_47, by decide +kernel⟩
set_option maxHeartbeats 4000000 in
theorem m_L_hitShare {G : Gp} (l : Launch) (hfl : l.stackTraces = false) (N : Nat) {p0 : Option Nat} {p1 : Int32} {p2 : Int32} {p3 : Option Nat} {h0 : Hp} {K : Int32 → Hp → Prop} (hw : w_L_hitShare N p0 p1 p2 p3 h0 K) : MH G l yL_hitShare cL_hitShare 5 (some .int) [(0, 10, 13, 13), (0, 10, 17, 21), (0, 10, 21, 79), (0, 10, 25, 130)] rmL_hitShare [rV p0, iV p1, iV p2, rV p3] h0 (QI G K) := by
  refine go_hmet l hfl _ 5 _ _ rfl (by decide +kernel) (Nat.le_of_ble_eq_true rfl) [(0, rV p0), (1, iV p1), (2, iV p2), (3, rV p3)] rfl (fun X hX C htab => ?_)
  subst hX
  unfold w_L_hitShare at hw
  refine go_aload_n C dL_hitShare_0 3 rfl ?_
  refine go_iconst C 0 dL_hitShare_1 kc_i0 ?_
  refine go_aload_n C dL_hitShare_2 0 rfl ?_
  refine go_iload_n C dL_hitShare_3 1 rfl ?_
  refine go_iload_n C dL_hitShare_4 2 rfl ?_
  obtain ⟨a1, e9, hw9⟩ := hw
  subst e9
  have hw := hw9
  clear hw9
  refine go_hcall_f C [iV p1, iV p2] vX11_hitShare tw7_62 (ci := 11) rfl (m_X11_hitShare (xl X) C.2.2.2.2.2.2.2.1 N hw.2) ⟨Nat.le_of_ble_eq_true rfl, Nat.le_of_ble_eq_true rfl, Nat.le_of_ble_eq_true rfl, Nat.le_of_ble_eq_true rfl⟩ hw.1 dL_hitShare_5 rfl (Nat.le_of_ble_eq_true rfl) rfl (fun E h4 q5 hw => ?_) (fun v2 h3 hw => ?_)
  · rcases hw with ⟨rfl, hw⟩ | ⟨rfl, hw⟩ | ⟨rfl, hw⟩ | ⟨rfl, hw⟩
    · refine go_catch C (tableOf []) ⟨0, 10, 13, 13⟩ (tableOf [(0, 10, 17, 21), (0, 10, 21, 79), (0, 10, 25, 130)]) (by rw [htab]; rfl) (fun z hz => by cases hz) (by decide) (by decide) tw4_8 tw4_16 ?_
      refine go_astore C [(4, rV (some q5)), (0, rV (some a1)), (1, iV p1), (2, iV p2), (3, rV p3)] dL_hitShare_13 (Nat.le_of_ble_eq_true rfl) rfl ?_
      refine go_iconst C 1 dL_hitShare_15 kc_i1 ?_
      exact go_xiret C dL_hitShare_16 hw (Nat.le_of_ble_eq_true rfl) (Nat.le_of_ble_eq_true rfl)
    · refine go_catch C (tableOf [(0, 10, 13, 13)]) ⟨0, 10, 17, 21⟩ (tableOf [(0, 10, 21, 79), (0, 10, 25, 130)]) (by rw [htab]; rfl) (fun z hz => by
      simp only [tableOf, List.map_cons, List.map_nil, List.mem_cons, List.not_mem_nil, or_false] at hz
      rcases hz with rfl
      · exact ⟨by decide, _, tw4_8, by decide⟩) (by decide) (by decide) tw4_155 tw4_193 ?_
      refine go_astore C [(4, rV (some q5)), (0, rV (some a1)), (1, iV p1), (2, iV p2), (3, rV p3)] dL_hitShare_17 (Nat.le_of_ble_eq_true rfl) rfl ?_
      refine go_iconst C 2 dL_hitShare_19 kc_i2 ?_
      exact go_xiret C dL_hitShare_20 hw (Nat.le_of_ble_eq_true rfl) (Nat.le_of_ble_eq_true rfl)
    · refine go_catch C (tableOf [(0, 10, 13, 13), (0, 10, 17, 21)]) ⟨0, 10, 21, 79⟩ (tableOf [(0, 10, 25, 130)]) (by rw [htab]; rfl) (fun z hz => by
      simp only [tableOf, List.map_cons, List.map_nil, List.mem_cons, List.not_mem_nil, or_false] at hz
      rcases hz with rfl | rfl
      · exact ⟨by decide, _, tw4_8, by decide⟩
      · exact ⟨by decide, _, tw4_155, by decide⟩) (by decide) (by decide) tw6_76 tw6_87 ?_
      refine go_astore C [(4, rV (some q5)), (0, rV (some a1)), (1, iV p1), (2, iV p2), (3, rV p3)] dL_hitShare_21 (Nat.le_of_ble_eq_true rfl) rfl ?_
      refine go_iconst C 3 dL_hitShare_23 kc_i3 ?_
      exact go_xiret C dL_hitShare_24 hw (Nat.le_of_ble_eq_true rfl) (Nat.le_of_ble_eq_true rfl)
    · refine go_catch C (tableOf [(0, 10, 13, 13), (0, 10, 17, 21), (0, 10, 21, 79)]) ⟨0, 10, 25, 130⟩ (tableOf []) (by rw [htab]; rfl) (fun z hz => by
      simp only [tableOf, List.map_cons, List.map_nil, List.mem_cons, List.not_mem_nil, or_false] at hz
      rcases hz with rfl | rfl | rfl
      · exact ⟨by decide, _, tw4_8, by decide⟩
      · exact ⟨by decide, _, tw4_155, by decide⟩
      · exact ⟨by decide, _, tw6_76, by decide⟩) (by decide) (by decide) tw7_48 tw7_60 ?_
      refine go_astore C [(4, rV (some q5)), (0, rV (some a1)), (1, iV p1), (2, iV p2), (3, rV p3)] dL_hitShare_25 (Nat.le_of_ble_eq_true rfl) rfl ?_
      refine go_iconst C 4 dL_hitShare_27 kc_i4 ?_
      exact go_xiret C dL_hitShare_28 hw (Nat.le_of_ble_eq_true rfl) (Nat.le_of_ble_eq_true rfl)
  refine go_f2d C dL_hitShare_8 hw (fun hw => ?_)
  obtain ⟨a6, e9, hw9⟩ := hw
  subst e9
  have hw := hw9
  clear hw9
  refine go_dastore C dL_hitShare_9 hw (fun h7 hw => ?_)
  refine go_goto C 29 dL_hitShare_10 (by decide) ?_
  refine go_iconst C 0 dL_hitShare_29 kc_i0 ?_
  exact go_xiret C dL_hitShare_30 hw (Nat.le_of_ble_eq_true rfl) (Nat.le_of_ble_eq_true rfl)
/-- law: meanMisses(LDuelSchema;[D)I -/
def w_L_meanMisses (N : Nat) (p0 : Option Nat) (p1 : Option Nat) (h0 : Hp) (K : Int32 → Hp → Prop) : Prop :=
  nn p0 fun a1 => cv h0 a1 11 <| w_X11_meanMisses N a1  h0 (fun v2 h3 =>
  nn p1 fun a6 => sD h3 a6 0 v2 fun h7 =>
  K 0 h7) (fun E h4 => (E = "java/lang/ArithmeticException" ∧ K 1 h4))
abbrev rmL_meanMisses : Room := { frames := 9, cells := 1, slots := 6, locals := 161 }
theorem vL_meanMisses : SHI yL_meanMisses cL_meanMisses 3 (some .int) [(0, 7, 10, 130)] 2 := ⟨tw7_70, tw1_0, tw7_71, by decide +kernel⟩
set_option maxHeartbeats 4000000 in
theorem m_L_meanMisses {G : Gp} (l : Launch) (hfl : l.stackTraces = false) (N : Nat) {p0 : Option Nat} {p1 : Option Nat} {h0 : Hp} {K : Int32 → Hp → Prop} (hw : w_L_meanMisses N p0 p1 h0 K) : MH G l yL_meanMisses cL_meanMisses 3 (some .int) [(0, 7, 10, 130)] rmL_meanMisses [rV p0, rV p1] h0 (QI G K) := by
  refine go_hmet l hfl _ 3 _ _ rfl (by decide +kernel) (Nat.le_of_ble_eq_true rfl) [(0, rV p0), (1, rV p1)] rfl (fun X hX C htab => ?_)
  subst hX
  unfold w_L_meanMisses at hw
  refine go_aload_n C dL_meanMisses_0 1 rfl ?_
  refine go_iconst C 0 dL_meanMisses_1 kc_i0 ?_
  refine go_aload_n C dL_meanMisses_2 0 rfl ?_
  obtain ⟨a1, e9, hw9⟩ := hw
  subst e9
  have hw := hw9
  clear hw9
  refine go_hcall_d C [] vX11_meanMisses tw7_72 (ci := 11) rfl (m_X11_meanMisses (xl X) C.2.2.2.2.2.2.2.1 N hw.2) ⟨Nat.le_of_ble_eq_true rfl, Nat.le_of_ble_eq_true rfl, Nat.le_of_ble_eq_true rfl, Nat.le_of_ble_eq_true rfl⟩ hw.1 dL_meanMisses_3 rfl (Nat.le_of_ble_eq_true rfl) rfl (fun E h4 q5 hw => ?_) (fun v2 h3 hw => ?_)
  · rcases hw with ⟨rfl, hw⟩
    · refine go_catch C (tableOf []) ⟨0, 7, 10, 130⟩ (tableOf []) (by rw [htab]; rfl) (fun z hz => by cases hz) (by decide) (by decide) tw7_48 tw7_60 ?_
      refine go_astore_n C [(2, rV (some q5)), (0, rV (some a1)), (1, rV p1)] dL_meanMisses_10 (Nat.le_of_ble_eq_true rfl) rfl ?_
      refine go_iconst C 1 dL_meanMisses_11 kc_i1 ?_
      exact go_xiret C dL_meanMisses_12 hw (Nat.le_of_ble_eq_true rfl) (Nat.le_of_ble_eq_true rfl)
  obtain ⟨a6, e9, hw9⟩ := hw
  subst e9
  have hw := hw9
  clear hw9
  refine go_dastore C dL_meanMisses_6 hw (fun h7 hw => ?_)
  refine go_goto C 13 dL_meanMisses_7 (by decide) ?_
  refine go_iconst C 0 dL_meanMisses_13 kc_i0 ?_
  exact go_xiret C dL_meanMisses_14 hw (Nat.le_of_ble_eq_true rfl) (Nat.le_of_ble_eq_true rfl)
