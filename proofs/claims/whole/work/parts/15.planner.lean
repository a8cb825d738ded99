/-- DuelSchema$Planner.<init>()V -/
def w_X6_init (N : Nat) (a0 : Nat) (h0 : Hp) (K : Hp → Prop) : Prop :=
  nw h0 5 [iV 0, rV none, rV none, rV none, rV none, rV none, lV 0] fun a1 h2 =>
  w_X5_init N a1  h2 fun h3 =>
  pF h3 a0 6 0 (rV (some a1)) fun h4 =>
  nA h4 (.inl (0, 4, .inl (fun _ => 0))) fun a5 h6 =>
  pF h6 a0 6 1 (rV (some a5)) fun h7 =>
  nA h7 (.inl (0, 4, .inl (fun _ => 0))) fun a8 h9 =>
  pF h9 a0 6 2 (rV (some a8)) fun h10 =>
  nA h10 (.inl (0, 4, .inl (fun _ => 0))) fun a11 h12 =>
  pF h12 a0 6 3 (rV (some a11)) fun h13 =>
  nA h13 (.inl (0, 3, .inl (fun _ => 0))) fun a14 h15 =>
  pF h15 a0 6 4 (rV (some a14)) fun h16 =>
  nA h16 (.inl (0, 9, .inl (fun _ => 0))) fun a17 h18 =>
  pF h18 a0 6 5 (rV (some a17)) fun h19 =>
  nA h19 (.inl (0, 9, .inl (fun _ => 0))) fun a20 h21 =>
  pF h21 a0 6 6 (rV (some a20)) fun h22 =>
  K h22
abbrev rmX6_init : Room := { frames := 3, cells := 12, slots := 55, locals := 80 }
theorem vX6_init : II yX6_init cX6_init 1 0 := ⟨tw1_80, tw1_4, tw1_81, rfl, by decide +kernel⟩
set_option maxHeartbeats 4000000 in
theorem m_X6_init {G : Gp} (l : Launch) (hfl : l.stackTraces = false) (N : Nat) {a0 : Nat} {h0 : Hp} {K : Hp → Prop} (hw : w_X6_init N a0 h0 K) : MT G l yX6_init cX6_init 1 none rmX6_init [rV (some a0)] h0 (QV G K) := by
  refine go_metT l hfl _ 1 _ _ rfl (by decide +kernel) (Nat.le_of_ble_eq_true rfl) [(0, rV (some a0))] rfl (fun X hX C hn => ?_)
  subst hX
  unfold w_X6_init at hw
  refine go_aload_n C dX6_init_0 0 rfl ?_
  refine go_objinit C tw1_82 tw1_33 tw1_34 dX6_init_1 ⟨Nat.le_of_ble_eq_true rfl, Nat.le_of_ble_eq_true rfl⟩ (Nat.le_of_ble_eq_true rfl) ?_
  refine go_aload_n C dX6_init_4 0 rfl ?_
  refine go_new C cfX5 tw1_83 tw1_84 tw1_5 [iV 0, rV none, rV none, rV none, rV none, rV none, lV 0] dfX5 ⟨Nat.le_of_ble_eq_true rfl, Nat.le_of_ble_eq_true rfl⟩ dX6_init_5 hw (fun a1 h2 hw => ?_)
  refine go_dup C _ dX6_init_8 rfl ?_
  refine go_callIN_v C [] vX5_init tw1_85 (m_X5_init (xl X) C.2.2.2.2.2.2.2.1 N hw) ⟨Nat.le_of_ble_eq_true rfl, Nat.le_of_ble_eq_true rfl, Nat.le_of_ble_eq_true rfl, Nat.le_of_ble_eq_true rfl⟩ dX6_init_9 rfl (Nat.le_of_ble_eq_true rfl) rfl (fun h3 hw => ?_)
  refine go_putR C (cfX6) (k := 0) (Nat.le_of_ble_eq_true rfl) tw1_112 rfl (Or.inr ⟨rfl, hn, rfl⟩) rfl dX6_init_12 hw (fun h4 hw => ?_)
  refine go_aload_n C dX6_init_15 0 rfl ?_
  refine go_iconst C 4 dX6_init_16 kc_i4 ?_
  refine go_newarr0 C 4 (by decide) (by decide) (Nat.le_of_ble_eq_true rfl) tw1_76 ⟨Nat.le_of_ble_eq_true rfl, Nat.le_of_ble_eq_true rfl⟩ dX6_init_17 hw (fun a5 h6 hw => ?_)
  refine go_putRA C (cfX6) (k := 1) (Nat.le_of_ble_eq_true rfl) tw1_113 rfl (Or.inr ⟨rfl, hn, rfl⟩) rfl dX6_init_19 hw (fun h7 hw => ?_)
  refine go_aload_n C dX6_init_22 0 rfl ?_
  refine go_iconst C 4 dX6_init_23 kc_i4 ?_
  refine go_newarr0 C 4 (by decide) (by decide) (Nat.le_of_ble_eq_true rfl) tw1_76 ⟨Nat.le_of_ble_eq_true rfl, Nat.le_of_ble_eq_true rfl⟩ dX6_init_24 hw (fun a8 h9 hw => ?_)
  refine go_putRA C (cfX6) (k := 2) (Nat.le_of_ble_eq_true rfl) tw1_114 rfl (Or.inr ⟨rfl, hn, rfl⟩) rfl dX6_init_26 hw (fun h10 hw => ?_)
  refine go_aload_n C dX6_init_29 0 rfl ?_
  refine go_iconst C 4 dX6_init_30 kc_i4 ?_
  refine go_newarr0 C 4 (by decide) (by decide) (Nat.le_of_ble_eq_true rfl) tw1_76 ⟨Nat.le_of_ble_eq_true rfl, Nat.le_of_ble_eq_true rfl⟩ dX6_init_31 hw (fun a11 h12 hw => ?_)
  refine go_putRA C (cfX6) (k := 3) (Nat.le_of_ble_eq_true rfl) tw1_115 rfl (Or.inr ⟨rfl, hn, rfl⟩) rfl dX6_init_33 hw (fun h13 hw => ?_)
  refine go_aload_n C dX6_init_36 0 rfl ?_
  refine go_iconst C 3 dX6_init_37 kc_i3 ?_
  refine go_newarr0 C 3 (by decide) (by decide) (Nat.le_of_ble_eq_true rfl) tw1_76 ⟨Nat.le_of_ble_eq_true rfl, Nat.le_of_ble_eq_true rfl⟩ dX6_init_38 hw (fun a14 h15 hw => ?_)
  refine go_putRA C (cfX6) (k := 4) (Nat.le_of_ble_eq_true rfl) tw1_116 rfl (Or.inr ⟨rfl, hn, rfl⟩) rfl dX6_init_40 hw (fun h16 hw => ?_)
  refine go_aload_n C dX6_init_43 0 rfl ?_
  refine go_bipush C 9 dX6_init_44 kc_b9 ?_
  refine go_newarr0 C 9 (by decide) (by decide) (Nat.le_of_ble_eq_true rfl) tw1_76 ⟨Nat.le_of_ble_eq_true rfl, Nat.le_of_ble_eq_true rfl⟩ dX6_init_46 hw (fun a17 h18 hw => ?_)
  refine go_putRA C (cfX6) (k := 5) (Nat.le_of_ble_eq_true rfl) tw1_117 rfl (Or.inr ⟨rfl, hn, rfl⟩) rfl dX6_init_48 hw (fun h19 hw => ?_)
  refine go_aload_n C dX6_init_51 0 rfl ?_
  refine go_bipush C 9 dX6_init_52 kc_b9 ?_
  refine go_newarr0 C 9 (by decide) (by decide) (Nat.le_of_ble_eq_true rfl) tw1_76 ⟨Nat.le_of_ble_eq_true rfl, Nat.le_of_ble_eq_true rfl⟩ dX6_init_54 hw (fun a20 h21 hw => ?_)
  refine go_putRA C (cfX6) (k := 6) (Nat.le_of_ble_eq_true rfl) tw1_118 rfl (Or.inr ⟨rfl, hn, rfl⟩) rfl dX6_init_56 hw (fun h22 hw => ?_)
  exact go_vret C dX6_init_59 hw (Nat.le_of_ble_eq_true rfl) (Nat.le_of_ble_eq_true rfl)
/-- DuelSchema$Planner.indexOfCondition(LDuelSchema$Plan;LDuelSchema$Query;II)I -/
def w_X6_indexOfCondition (N : Nat) (a0 : Nat) (p1 : Option Nat) (p2 : Option Nat) (p3 : Int32) (p4 : Int32) (h0 : Hp) (K : Int32 → Prop) : Prop :=
  nn p2 fun a1 => cv h0 a1 7 <| w_X7_conditionAt N a1 p4 h0 fun o2 =>
  jn (fun (v3 : Int32) => 
    br (v3 = 0) (
      K (-1)) (
      br (p4 < 0) (
        K (-1)) (
        gA h0 a0 6 3 fun a4 =>
        aN h0 a4 fun v5 =>
        br (v5 ≤ p4) (
          K (-1)) (
          gA h0 a0 6 3 fun a6 =>
          aI h0 a6 0 p4 fun v7 =>
          K v7)))) (fun j31 =>
  jn (
    j31 0) (fun j30 =>
  brn o2 (
    j30 ) (fun a8 =>
    cv h0 a8 1 <| w_X1_position N a8  h0 fun v9 =>
    nn p1 fun a10 => cv h0 a10 5 <| w_X5_positionAt N a10 p3 h0 fun v11 =>
    br (v9 = v11) (
      j31 1) (
      j30 ))))
abbrev rmX6_indexOfCondition : Room := { frames := 3, cells := 0, slots := 0, locals := 81 }
theorem vX6_indexOfCondition : VI RX6 yX6_indexOfCondition cX6_indexOfCondition 7 (some .int) 4 := ⟨tw3_160, tp22, tw1_4, tw3_161, by decide +kernel⟩
set_option maxHeartbeats 4000000 in
theorem m_X6_indexOfCondition {G : Gp} (l : Launch) (hfl : l.stackTraces = false) (N : Nat) {a0 : Nat} {p1 : Option Nat} {p2 : Option Nat} {p3 : Int32} {p4 : Int32} {h0 : Hp} {K : Int32 → Prop} (hw : w_X6_indexOfCondition N a0 p1 p2 p3 p4 h0 K) : MT G l yX6_indexOfCondition cX6_indexOfCondition 7 (some .int) rmX6_indexOfCondition [rV (some a0), rV p1, rV p2, iV p3, iV p4] h0 (QI G (fun r h1 => h1 = h0 ∧ K r)) := by
  refine go_metT l hfl _ 7 _ _ rfl (by decide +kernel) (Nat.le_of_ble_eq_true rfl) [(0, rV (some a0)), (1, rV p1), (2, rV p2), (3, iV p3), (4, iV p4)] rfl (fun X hX C hn => ?_)
  subst hX
  unfold w_X6_indexOfCondition at hw
  refine go_aload_n C dX6_indexOfCondition_0 2 rfl ?_
  refine go_iload C dX6_indexOfCondition_1 4 rfl ?_
  obtain ⟨a1, e9, hw9⟩ := hw
  subst e9
  have hw := hw9
  clear hw9
  refine go_pV_q C [iV p4] vX7_conditionAt tw3_78 (ci := 7) rfl (m_X7_conditionAt (xl X) C.2.2.2.2.2.2.2.1 N hw.2) ⟨Nat.le_of_ble_eq_true rfl, Nat.le_of_ble_eq_true rfl, Nat.le_of_ble_eq_true rfl, Nat.le_of_ble_eq_true rfl⟩ ⟨rfl, rfl⟩ hw.1 dX6_indexOfCondition_3 rfl (Nat.le_of_ble_eq_true rfl) rfl (fun o2 hw => ?_)
  refine go_astore C [(5, rV o2), (0, rV (some a0)), (1, rV p1), (2, rV (some a1)), (3, iV p3), (4, iV p4)] dX6_indexOfCondition_6 (Nat.le_of_ble_eq_true rfl) rfl ?_
  refine go_aload C dX6_indexOfCondition_8 0 rfl ?_
  refine jn_elim (P := fun j => ∀ (v3 : Int32), j v3 → Go G X rmX6_indexOfCondition 7 0 0 (QN G X (QI G (fun r h1 => h1 = h0 ∧ K r)) rmX6_indexOfCondition) h0 31 [(0, rV (some a0)), (4, iV p4)] [iV v3]) hw (fun v3 hw => ?_) (fun j31 hj31 hw => ?_)
  · refine go_istore C [(6, iV v3), (0, rV (some a0)), (4, iV p4)] dX6_indexOfCondition_31 (Nat.le_of_ble_eq_true rfl) rfl ?_
    refine go_iload C dX6_indexOfCondition_33 0 rfl ?_
    refine go_if_eq C 63 dX6_indexOfCondition_35 (by decide) hw (fun hw => ?_) (fun hw => ?_)
    · refine go_iconst C (-1) dX6_indexOfCondition_63 kc_im1 ?_
      exact go_iret C dX6_indexOfCondition_64 ⟨rfl, hw⟩ (Nat.le_of_ble_eq_true rfl) (Nat.le_of_ble_eq_true rfl)
    refine go_iload C dX6_indexOfCondition_38 2 rfl ?_
    refine go_if_lt C 63 dX6_indexOfCondition_40 (by decide) hw (fun hw => ?_) (fun hw => ?_)
    · refine go_iconst C (-1) dX6_indexOfCondition_63 kc_im1 ?_
      exact go_iret C dX6_indexOfCondition_64 ⟨rfl, hw⟩ (Nat.le_of_ble_eq_true rfl) (Nat.le_of_ble_eq_true rfl)
    refine go_iload C dX6_indexOfCondition_43 2 rfl ?_
    refine go_aload_n C dX6_indexOfCondition_45 1 rfl ?_
    refine go_getA C (cfX6) (k := 3) (Nat.le_of_ble_eq_true rfl) tw1_115 rfl dX6_indexOfCondition_46 hw (fun a4 hw => ?_)
    refine go_alen C dX6_indexOfCondition_49 hw (fun v5 hw => ?_)
    refine go_icmp_ge C 63 dX6_indexOfCondition_50 (by decide) hw (fun hw => ?_) (fun hw => ?_)
    · refine go_iconst C (-1) dX6_indexOfCondition_63 kc_im1 ?_
      exact go_iret C dX6_indexOfCondition_64 ⟨rfl, hw⟩ (Nat.le_of_ble_eq_true rfl) (Nat.le_of_ble_eq_true rfl)
    refine go_aload_n C dX6_indexOfCondition_53 1 rfl ?_
    refine go_getA C (cfX6) (k := 3) (Nat.le_of_ble_eq_true rfl) tw1_115 rfl dX6_indexOfCondition_54 hw (fun a6 hw => ?_)
    refine go_iload C dX6_indexOfCondition_57 2 rfl ?_
    refine go_iaload C dX6_indexOfCondition_59 hw (fun v7 hw => ?_)
    refine go_goto C 64 dX6_indexOfCondition_60 (by decide) ?_
    exact go_iret C dX6_indexOfCondition_64 ⟨rfl, hw⟩ (Nat.le_of_ble_eq_true rfl) (Nat.le_of_ble_eq_true rfl)
  refine jn_elim (P := fun j => j  → Go G X rmX6_indexOfCondition 7 0 0 (QN G X (QI G (fun r h1 => h1 = h0 ∧ K r)) rmX6_indexOfCondition) h0 30 [(0, rV (some a0)), (4, iV p4)] []) hw (fun  hw => ?_) (fun j30 hj30 hw => ?_)
  · refine go_iconst C 0 dX6_indexOfCondition_30 kc_i0 ?_
    exact hj31 0 hw
  refine go_ifnull C 30 dX6_indexOfCondition_10 (by decide) hw (fun e9 hw9 => ?_) (fun a8 e9 hw9 => ?_)
  · clear hw
    subst e9
    have hw := hw9
    clear hw9
    refine go_sub [1, 5] rfl ?_
    exact hj30  hw
  clear hw
  subst e9
  have hw := hw9
  clear hw9
  refine go_aload C dX6_indexOfCondition_13 0 rfl ?_
  refine go_pV_i C [] vX1_position tw3_79 (ci := 1) rfl (m_X1_position (xl X) C.2.2.2.2.2.2.2.1 N hw.2) ⟨Nat.le_of_ble_eq_true rfl, Nat.le_of_ble_eq_true rfl, Nat.le_of_ble_eq_true rfl, Nat.le_of_ble_eq_true rfl⟩ ⟨rfl, rfl⟩ hw.1 dX6_indexOfCondition_15 rfl (Nat.le_of_ble_eq_true rfl) rfl (fun v9 hw => ?_)
  refine go_aload_n C dX6_indexOfCondition_18 2 rfl ?_
  refine go_iload_n C dX6_indexOfCondition_19 4 rfl ?_
  obtain ⟨a10, e9, hw9⟩ := hw
  subst e9
  have hw := hw9
  clear hw9
  refine go_pV_i C [iV p3] vX5_positionAt tw3_151 (ci := 5) rfl (m_X5_positionAt (xl X) C.2.2.2.2.2.2.2.1 N hw.2) ⟨Nat.le_of_ble_eq_true rfl, Nat.le_of_ble_eq_true rfl, Nat.le_of_ble_eq_true rfl, Nat.le_of_ble_eq_true rfl⟩ ⟨rfl, rfl⟩ hw.1 dX6_indexOfCondition_20 rfl (Nat.le_of_ble_eq_true rfl) rfl (fun v11 hw => ?_)
  refine go_icmp_ne C 30 dX6_indexOfCondition_23 (by decide) hw (fun hw => ?_) (fun hw => ?_)
  · refine go_sub [1, 5] rfl ?_
    exact hj30  hw
  refine go_iconst C 1 dX6_indexOfCondition_26 kc_i1 ?_
  refine go_goto C 31 dX6_indexOfCondition_27 (by decide) ?_
  refine go_sub [1, 5] rfl ?_
  exact hj31 1 hw
/-- DuelSchema$Planner.conditionByBook(LDuelSchema$Plan;LDuelSchema$Query;IZ)Z -/
def w_X6_conditionByBook (N : Nat) (a0 : Nat) (p1 : Option Nat) (p2 : Option Nat) (p3 : Int32) (p4 : Int32) (h0 : Hp) (K : Int32 → Hp → Prop) : Prop :=
  fx1 (fun (w3 : Int32 → Prop) (x1 : Int32) =>
    br (4 ≤ x1) (
      K 0 h0) (
      nn p2 fun a2 => cv h0 a2 7 <| w_X7_conditionAt N a2 x1 h0 fun o3 =>
      cv h0 a0 6 <| w_X6_indexOfCondition N a0 p1 (some a2) p3 x1 h0 fun v4 =>
      jn (
        w3 (x1 + 1)) (fun j62 =>
      br (v4 = (-1)) (
        j62 ) (
        brn o3 (
          j62 ) (fun a5 =>
          cv h0 a5 1 <| w_X1_isEqual N a5  h0 fun v6 =>
          br (v6 = p4) (
            nn p1 fun a7 => cv h0 a7 5 <| w_X5_setWay N a7 p3 99 x1 v4 h0 fun h8 =>
            K 1 h8) (
            j62 )))))) N 0
abbrev rmX6_conditionByBook : Room := { frames := 4, cells := 0, slots := 0, locals := 107 }
theorem vX6_conditionByBook : VI RX6 yX6_conditionByBook cX6_conditionByBook 8 (some .boolean) 4 := ⟨tw3_156, tp21, tw1_4, tw3_157, by decide +kernel⟩
set_option maxHeartbeats 4000000 in
theorem m_X6_conditionByBook {G : Gp} (l : Launch) (hfl : l.stackTraces = false) (N : Nat) {a0 : Nat} {p1 : Option Nat} {p2 : Option Nat} {p3 : Int32} {p4 : Int32} {h0 : Hp} {K : Int32 → Hp → Prop} (hw : w_X6_conditionByBook N a0 p1 p2 p3 p4 h0 K) : MT G l yX6_conditionByBook cX6_conditionByBook 8 (some .boolean) rmX6_conditionByBook [rV (some a0), rV p1, rV p2, iV p3, iV p4] h0 (QI G K) := by
  refine go_metT l hfl _ 8 _ _ rfl (by decide +kernel) (Nat.le_of_ble_eq_true rfl) [(0, rV (some a0)), (1, rV p1), (2, rV p2), (3, iV p3), (4, iV p4)] rfl (fun X hX C hn => ?_)
  subst hX
  unfold w_X6_conditionByBook at hw
  refine go_iconst C 0 dX6_conditionByBook_0 kc_i0 ?_
  refine go_istore C [(5, iV 0), (0, rV (some a0)), (1, rV p1), (2, rV p2), (3, iV p3), (4, iV p4)] dX6_conditionByBook_1 (Nat.le_of_ble_eq_true rfl) rfl ?_
  refine go_sub [1, 2, 3, 4, 5, 0] rfl ?_
  refine fx1_elim (P := fun x1 => Go G X rmX6_conditionByBook 8 0 0 (QN G X (QI G K) rmX6_conditionByBook) h0 3 [(0, rV (some a0)), (1, rV p1), (2, rV p2), (3, iV p3), (4, iV p4), (5, iV x1)] []) (fun w3 hj3 x1 hw => ?_) N _ hw
  refine go_iload C dX6_conditionByBook_3 5 rfl ?_
  refine go_iconst C 4 dX6_conditionByBook_5 kc_i4 ?_
  refine go_icmp_ge C 68 dX6_conditionByBook_6 (by decide) hw (fun hw => ?_) (fun hw => ?_)
  · refine go_iconst C 0 dX6_conditionByBook_68 kc_i0 ?_
    exact go_zret C dX6_conditionByBook_69 ⟨rfl, hw⟩ (Nat.le_of_ble_eq_true rfl) (Nat.le_of_ble_eq_true rfl)
  refine go_aload_n C dX6_conditionByBook_9 2 rfl ?_
  refine go_iload C dX6_conditionByBook_10 5 rfl ?_
  obtain ⟨a2, e9, hw9⟩ := hw
  subst e9
  have hw := hw9
  clear hw9
  refine go_pV_q C [iV x1] vX7_conditionAt tw3_78 (ci := 7) rfl (m_X7_conditionAt (xl X) C.2.2.2.2.2.2.2.1 N hw.2) ⟨Nat.le_of_ble_eq_true rfl, Nat.le_of_ble_eq_true rfl, Nat.le_of_ble_eq_true rfl, Nat.le_of_ble_eq_true rfl⟩ ⟨rfl, rfl⟩ hw.1 dX6_conditionByBook_12 rfl (Nat.le_of_ble_eq_true rfl) rfl (fun o3 hw => ?_)
  refine go_astore C [(6, rV o3), (0, rV (some a0)), (1, rV p1), (2, rV (some a2)), (3, iV p3), (4, iV p4), (5, iV x1)] dX6_conditionByBook_15 (Nat.le_of_ble_eq_true rfl) rfl ?_
  refine go_aload_n C dX6_conditionByBook_17 1 rfl ?_
  refine go_aload_n C dX6_conditionByBook_18 2 rfl ?_
  refine go_aload_n C dX6_conditionByBook_19 3 rfl ?_
  refine go_iload_n C dX6_conditionByBook_20 4 rfl ?_
  refine go_iload C dX6_conditionByBook_21 6 rfl ?_
  refine go_pV_i C [rV p1, rV (some a2), iV p3, iV x1] vX6_indexOfCondition tw3_158 (ci := 6) rfl (m_X6_indexOfCondition (xl X) C.2.2.2.2.2.2.2.1 N hw.2) ⟨Nat.le_of_ble_eq_true rfl, Nat.le_of_ble_eq_true rfl, Nat.le_of_ble_eq_true rfl, Nat.le_of_ble_eq_true rfl⟩ ⟨rfl, rfl⟩ hw.1 dX6_conditionByBook_23 rfl (Nat.le_of_ble_eq_true rfl) rfl (fun v4 hw => ?_)
  refine go_istore C [(7, iV v4), (6, rV o3), (0, rV (some a0)), (1, rV p1), (2, rV (some a2)), (3, iV p3), (4, iV p4), (5, iV x1)] dX6_conditionByBook_26 (Nat.le_of_ble_eq_true rfl) rfl ?_
  refine go_iload C dX6_conditionByBook_28 0 rfl ?_
  refine go_iconst C (-1) dX6_conditionByBook_30 kc_im1 ?_
  refine jn_elim (P := fun j => j  → Go G X rmX6_conditionByBook 8 0 0 (QN G X (QI G K) rmX6_conditionByBook) h0 62 [(0, rV (some a0)), (1, rV p1), (2, rV (some a2)), (3, iV p3), (4, iV p4), (5, iV x1)] []) hw (fun  hw => ?_) (fun j62 hj62 hw => ?_)
  · refine go_iinc C (x1 + 1) [(5, iV (x1 + 1)), (0, rV (some a0)), (1, rV p1), (2, rV (some a2)), (3, iV p3), (4, iV p4)] dX6_conditionByBook_62 5 rfl (by rw [kc_i1]) (Nat.le_of_ble_eq_true rfl) rfl ?_
    refine go_goto C 3 dX6_conditionByBook_65 (by decide) ?_
    refine go_sub [1, 2, 3, 4, 5, 0] rfl ?_
    exact hj3 (x1 + 1) hw
  refine go_icmp_eq C 62 dX6_conditionByBook_31 (by decide) hw (fun hw => ?_) (fun hw => ?_)
  · refine go_sub [2, 3, 4, 5, 6, 7] rfl ?_
    exact hj62  hw
  refine go_aload C dX6_conditionByBook_34 1 rfl ?_
  refine go_ifnull C 62 dX6_conditionByBook_36 (by decide) hw (fun e9 hw9 => ?_) (fun a5 e9 hw9 => ?_)
  · clear hw
    subst e9
    have hw := hw9
    clear hw9
    refine go_sub [2, 3, 4, 5, 6, 7] rfl ?_
    exact hj62  hw
  clear hw
  subst e9
  have hw := hw9
  clear hw9
  refine go_aload C dX6_conditionByBook_39 1 rfl ?_
  refine go_pV_i C [] vX1_isEqual tw3_162 (ci := 1) rfl (m_X1_isEqual (xl X) C.2.2.2.2.2.2.2.1 N hw.2) ⟨Nat.le_of_ble_eq_true rfl, Nat.le_of_ble_eq_true rfl, Nat.le_of_ble_eq_true rfl, Nat.le_of_ble_eq_true rfl⟩ ⟨rfl, rfl⟩ hw.1 dX6_conditionByBook_41 rfl (Nat.le_of_ble_eq_true rfl) rfl (fun v6 hw => ?_)
  refine go_iload C dX6_conditionByBook_44 6 rfl ?_
  refine go_icmp_ne C 62 dX6_conditionByBook_46 (by decide) hw (fun hw => ?_) (fun hw => ?_)
  · refine go_sub [2, 3, 4, 5, 6, 7] rfl ?_
    exact hj62  hw
  refine go_aload_n C dX6_conditionByBook_49 3 rfl ?_
  refine go_iload_n C dX6_conditionByBook_50 5 rfl ?_
  refine go_bipush C 99 dX6_conditionByBook_51 kc_b99 ?_
  refine go_iload C dX6_conditionByBook_53 7 rfl ?_
  refine go_iload C dX6_conditionByBook_55 0 rfl ?_
  obtain ⟨a7, e9, hw9⟩ := hw
  subst e9
  have hw := hw9
  clear hw9
  refine go_c0V_v C [iV p3, iV 99, iV x1, iV v4] vX5_setWay tw3_153 (ci := 5) rfl (m_X5_setWay (xl X) C.2.2.2.2.2.2.2.1 N hw.2) ⟨Nat.le_of_ble_eq_true rfl, Nat.le_of_ble_eq_true rfl, Nat.le_of_ble_eq_true rfl, Nat.le_of_ble_eq_true rfl⟩ ⟨rfl, rfl⟩ hw.1 dX6_conditionByBook_57 rfl (Nat.le_of_ble_eq_true rfl) rfl (fun h8 hw => ?_)
  refine go_iconst C 1 dX6_conditionByBook_60 kc_i1 ?_
  exact go_zret C dX6_conditionByBook_61 ⟨rfl, hw⟩ (Nat.le_of_ble_eq_true rfl) (Nat.le_of_ble_eq_true rfl)
/-- DuelSchema$Planner.choicesBehind(LDuelSchema$Plan;LDuelSchema$Query;IJ)J -/
def w_X6_choicesBehind (N : Nat) (a0 : Nat) (p1 : Option Nat) (p2 : Option Nat) (p3 : Int32) (p4 : Int64) (h0 : Hp) (K : Int64 → Prop) : Prop :=
  nn p1 fun a1 => cv h0 a1 5 <| w_X5_positionAt N a1 p3 h0 fun v2 =>
  nn p2 fun a3 => cv h0 a3 7 <| w_X7_tableOf N a3 v2 h0 fun o4 =>
  jn (fun (v5 : Int64) => 
    fx2 (fun (w38 : Int64 → Int32 → Prop) (y6 : Int64) (x7 : Int32) =>
      br (4 ≤ x7) (
        fx2 (fun (w93 : Int64 → Int32 → Prop) (y8 : Int64) (x9 : Int32) =>
          br (3 ≤ x9) (
            K (if y8 < 1 then 1 else y8)) (
            cv h0 a3 7 <| w_X7_joinAt N a3 x9 h0 fun o10 =>
            jn (fun (y11 : Int64) => 
              w93 y11 (x9 + 1)) (fun j144 =>
            brn o10 (
              j144 y8) (fun a12 =>
              cv h0 a12 4 <| w_X4_partnerOf N a12 v2 h0 fun v13 =>
              cv h0 a1 5 <| w_X5_isAhead N a1 v13 p3 h0 fun v14 =>
              br (v14 = 0) (
                j144 y8) (
                gA h0 a0 6 4 fun a15 =>
                aI h0 a15 0 x9 fun v16 =>
                j144 ((y8 * ((v16 : Int32).toInt64)) / 1000)))))) N y6 0) (
        cv h0 a3 7 <| w_X7_conditionAt N a3 x7 h0 fun o17 =>
        jn (fun (y18 : Int64) => 
          w38 y18 (x7 + 1)) (fun j84 =>
        brn o17 (
          j84 y6) (fun a19 =>
          cv h0 a19 1 <| w_X1_position N a19  h0 fun v20 =>
          br (v20 = v2) (
            gA h0 a0 6 1 fun a21 =>
            aI h0 a21 0 x7 fun v22 =>
            j84 ((y6 * ((v22 : Int32).toInt64)) / 1000)) (
            j84 y6))))) N v5 0) (fun j33 =>
  brn o4 (
    j33 0) (fun a23 =>
    cv h0 a23 10 <| w_X10_takenRows N a23  h0 fun v24 =>
    j33 (p4 * ((v24 : Int32).toInt64))))
abbrev rmX6_choicesBehind : Room := { frames := 3, cells := 0, slots := 0, locals := 82 }
theorem vX6_choicesBehind : VI RX6 yX6_choicesBehind cX6_choicesBehind 12 (some .long) 4 := ⟨tw3_183, tp26, tw1_4, tw3_184, by decide +kernel⟩
set_option maxHeartbeats 4000000 in
theorem m_X6_choicesBehind {G : Gp} (l : Launch) (hfl : l.stackTraces = false) (N : Nat) {a0 : Nat} {p1 : Option Nat} {p2 : Option Nat} {p3 : Int32} {p4 : Int64} {h0 : Hp} {K : Int64 → Prop} (hw : w_X6_choicesBehind N a0 p1 p2 p3 p4 h0 K) : MT G l yX6_choicesBehind cX6_choicesBehind 12 (some .long) rmX6_choicesBehind [rV (some a0), rV p1, rV p2, iV p3, lV p4] h0 (QL G (fun r h1 => h1 = h0 ∧ K r)) := by
  refine go_metT l hfl _ 12 _ _ rfl (by decide +kernel) (Nat.le_of_ble_eq_true rfl) [(0, rV (some a0)), (1, rV p1), (2, rV p2), (3, iV p3), (4, lV p4)] rfl (fun X hX C hn => ?_)
  subst hX
  unfold w_X6_choicesBehind at hw
  refine go_aload_n C dX6_choicesBehind_0 1 rfl ?_
  refine go_iload_n C dX6_choicesBehind_1 3 rfl ?_
  obtain ⟨a1, e9, hw9⟩ := hw
  subst e9
  have hw := hw9
  clear hw9
  refine go_pV_i C [iV p3] vX5_positionAt tw3_151 (ci := 5) rfl (m_X5_positionAt (xl X) C.2.2.2.2.2.2.2.1 N hw.2) ⟨Nat.le_of_ble_eq_true rfl, Nat.le_of_ble_eq_true rfl, Nat.le_of_ble_eq_true rfl, Nat.le_of_ble_eq_true rfl⟩ ⟨rfl, rfl⟩ hw.1 dX6_choicesBehind_2 rfl (Nat.le_of_ble_eq_true rfl) rfl (fun v2 hw => ?_)
  refine go_istore C [(6, iV v2), (0, rV (some a0)), (1, rV (some a1)), (2, rV p2), (3, iV p3), (4, lV p4)] dX6_choicesBehind_5 (Nat.le_of_ble_eq_true rfl) rfl ?_
  refine go_aload_n C dX6_choicesBehind_7 3 rfl ?_
  refine go_iload C dX6_choicesBehind_8 0 rfl ?_
  obtain ⟨a3, e9, hw9⟩ := hw
  subst e9
  have hw := hw9
  clear hw9
  refine go_pV_q C [iV v2] vX7_tableOf tw3_80 (ci := 7) rfl (m_X7_tableOf (xl X) C.2.2.2.2.2.2.2.1 N hw.2) ⟨Nat.le_of_ble_eq_true rfl, Nat.le_of_ble_eq_true rfl, Nat.le_of_ble_eq_true rfl, Nat.le_of_ble_eq_true rfl⟩ ⟨rfl, rfl⟩ hw.1 dX6_choicesBehind_10 rfl (Nat.le_of_ble_eq_true rfl) rfl (fun o4 hw => ?_)
  refine go_astore C [(7, rV o4), (6, iV v2), (0, rV (some a0)), (1, rV (some a1)), (2, rV (some a3)), (3, iV p3), (4, lV p4)] dX6_choicesBehind_13 (Nat.le_of_ble_eq_true rfl) rfl ?_
  refine go_aload C dX6_choicesBehind_15 0 rfl ?_
  refine jn_elim (P := fun j => ∀ (v5 : Int64), j v5 → Go G X rmX6_choicesBehind 12 0 0 (QN G X (QL G (fun r h1 => h1 = h0 ∧ K r)) rmX6_choicesBehind) h0 33 [(0, rV (some a0)), (1, rV (some a1)), (2, rV (some a3)), (3, iV p3), (6, iV v2)] [lV v5]) hw (fun v5 hw => ?_) (fun j33 hj33 hw => ?_)
  · refine go_lstore C [(8, lV v5), (0, rV (some a0)), (1, rV (some a1)), (2, rV (some a3)), (3, iV p3), (6, iV v2)] dX6_choicesBehind_33 (Nat.le_of_ble_eq_true rfl) rfl ?_
    refine go_iconst C 0 dX6_choicesBehind_35 kc_i0 ?_
    refine go_istore C [(10, iV 0), (8, lV v5), (0, rV (some a0)), (1, rV (some a1)), (2, rV (some a3)), (3, iV p3), (6, iV v2)] dX6_choicesBehind_36 (Nat.le_of_ble_eq_true rfl) rfl ?_
    refine go_sub [2, 3, 4, 5, 6, 1, 0] rfl ?_
    refine fx2_elim (P := fun y6 x7 => Go G X rmX6_choicesBehind 12 0 0 (QN G X (QL G (fun r h1 => h1 = h0 ∧ K r)) rmX6_choicesBehind) h0 38 [(0, rV (some a0)), (1, rV (some a1)), (2, rV (some a3)), (3, iV p3), (6, iV v2), (8, lV y6), (10, iV x7)] []) (fun w38 hj38 y6 x7 hw => ?_) N _ _ hw
    refine go_iload C dX6_choicesBehind_38 6 rfl ?_
    refine go_iconst C 4 dX6_choicesBehind_40 kc_i4 ?_
    refine go_icmp_ge C 90 dX6_choicesBehind_41 (by decide) hw (fun hw => ?_) (fun hw => ?_)
    · refine go_iconst C 0 dX6_choicesBehind_90 kc_i0 ?_
      refine go_istore C [(10, iV 0), (0, rV (some a0)), (1, rV (some a1)), (2, rV (some a3)), (3, iV p3), (6, iV v2), (8, lV y6)] dX6_choicesBehind_91 (Nat.le_of_ble_eq_true rfl) rfl ?_
      refine go_sub [1, 2, 3, 4, 5, 6, 0] rfl ?_
      refine fx2_elim (P := fun y8 x9 => Go G X rmX6_choicesBehind 12 0 0 (QN G X (QL G (fun r h1 => h1 = h0 ∧ K r)) rmX6_choicesBehind) h0 93 [(0, rV (some a0)), (1, rV (some a1)), (2, rV (some a3)), (3, iV p3), (6, iV v2), (8, lV y8), (10, iV x9)] []) (fun w93 hj93 y8 x9 hw => ?_) N _ _ hw
      refine go_iload C dX6_choicesBehind_93 6 rfl ?_
      refine go_iconst C 3 dX6_choicesBehind_95 kc_i3 ?_
      refine go_icmp_ge C 150 dX6_choicesBehind_96 (by decide) hw (fun hw => ?_) (fun hw => ?_)
      · refine go_lconst C 1 dX6_choicesBehind_150 rfl ?_
        refine go_lload C dX6_choicesBehind_151 5 rfl ?_
        refine go_lmax C tw3_186 tw3_187 tw1_19 tw3_188 ⟨Nat.le_of_ble_eq_true rfl, Nat.le_of_ble_eq_true rfl, Nat.le_of_ble_eq_true rfl, Nat.le_of_ble_eq_true rfl⟩ (Nat.le_of_ble_eq_true rfl) dX6_choicesBehind_153 ?_
        exact go_lret C dX6_choicesBehind_156 ⟨rfl, hw⟩ (Nat.le_of_ble_eq_true rfl) (Nat.le_of_ble_eq_true rfl)
      refine go_aload_n C dX6_choicesBehind_99 2 rfl ?_
      refine go_iload C dX6_choicesBehind_100 6 rfl ?_
      refine go_pV_q C [iV x9] vX7_joinAt tw3_123 (ci := 7) rfl (m_X7_joinAt (xl X) C.2.2.2.2.2.2.2.1 N hw.2) ⟨Nat.le_of_ble_eq_true rfl, Nat.le_of_ble_eq_true rfl, Nat.le_of_ble_eq_true rfl, Nat.le_of_ble_eq_true rfl⟩ ⟨rfl, rfl⟩ hw.1 dX6_choicesBehind_102 rfl (Nat.le_of_ble_eq_true rfl) rfl (fun o10 hw => ?_)
      refine go_astore C [(11, rV o10), (0, rV (some a0)), (1, rV (some a1)), (2, rV (some a3)), (3, iV p3), (6, iV v2), (8, lV y8), (10, iV x9)] dX6_choicesBehind_105 (Nat.le_of_ble_eq_true rfl) rfl ?_
      refine go_aload C dX6_choicesBehind_107 0 rfl ?_
      refine jn_elim (P := fun j => ∀ (y11 : Int64), j y11 → Go G X rmX6_choicesBehind 12 0 0 (QN G X (QL G (fun r h1 => h1 = h0 ∧ K r)) rmX6_choicesBehind) h0 144 [(0, rV (some a0)), (1, rV (some a1)), (2, rV (some a3)), (3, iV p3), (6, iV v2), (8, lV y11), (10, iV x9)] []) hw (fun y11 hw => ?_) (fun j144 hj144 hw => ?_)
      · refine go_iinc C (x9 + 1) [(10, iV (x9 + 1)), (0, rV (some a0)), (1, rV (some a1)), (2, rV (some a3)), (3, iV p3), (6, iV v2), (8, lV y11)] dX6_choicesBehind_144 6 rfl (by rw [kc_i1]) (Nat.le_of_ble_eq_true rfl) rfl ?_
        refine go_goto C 93 dX6_choicesBehind_147 (by decide) ?_
        refine go_sub [1, 2, 3, 4, 5, 6, 0] rfl ?_
        exact hj93 y11 (x9 + 1) hw
      refine go_ifnull C 144 dX6_choicesBehind_109 (by decide) hw (fun e9 hw9 => ?_) (fun a12 e9 hw9 => ?_)
      · clear hw
        subst e9
        have hw := hw9
        clear hw9
        refine go_sub [1, 2, 3, 4, 5, 6, 7] rfl ?_
        exact hj144 y8 hw
      clear hw
      subst e9
      have hw := hw9
      clear hw9
      refine go_aload_n C dX6_choicesBehind_112 2 rfl ?_
      refine go_aload C dX6_choicesBehind_113 0 rfl ?_
      refine go_iload C dX6_choicesBehind_115 5 rfl ?_
      refine go_pV_i C [iV v2] vX4_partnerOf tw3_124 (ci := 4) rfl (m_X4_partnerOf (xl X) C.2.2.2.2.2.2.2.1 N hw.2) ⟨Nat.le_of_ble_eq_true rfl, Nat.le_of_ble_eq_true rfl, Nat.le_of_ble_eq_true rfl, Nat.le_of_ble_eq_true rfl⟩ ⟨rfl, rfl⟩ hw.1 dX6_choicesBehind_117 rfl (Nat.le_of_ble_eq_true rfl) rfl (fun v13 hw => ?_)
      refine go_iload_n C dX6_choicesBehind_120 4 rfl ?_
      refine go_pV_i C [iV v13, iV p3] vX5_isAhead tw3_152 (ci := 5) rfl (m_X5_isAhead (xl X) C.2.2.2.2.2.2.2.1 N hw.2) ⟨Nat.le_of_ble_eq_true rfl, Nat.le_of_ble_eq_true rfl, Nat.le_of_ble_eq_true rfl, Nat.le_of_ble_eq_true rfl⟩ ⟨rfl, rfl⟩ hw.1 dX6_choicesBehind_121 rfl (Nat.le_of_ble_eq_true rfl) rfl (fun v14 hw => ?_)
      refine go_if_eq C 144 dX6_choicesBehind_124 (by decide) hw (fun hw => ?_) (fun hw => ?_)
      · refine go_sub [1, 2, 3, 4, 5, 6, 7] rfl ?_
        exact hj144 y8 hw
      refine go_lload C dX6_choicesBehind_127 6 rfl ?_
      refine go_aload_n C dX6_choicesBehind_129 1 rfl ?_
      refine go_getA C (cfX6) (k := 4) (Nat.le_of_ble_eq_true rfl) tw1_116 rfl dX6_choicesBehind_130 hw (fun a15 hw => ?_)
      refine go_iload C dX6_choicesBehind_133 7 rfl ?_
      refine go_iaload C dX6_choicesBehind_135 hw (fun v16 hw => ?_)
      refine go_i2l C dX6_choicesBehind_136 ?_
      refine go_lmul C dX6_choicesBehind_137 ?_
      refine go_ldc2 C 1000 dX6_choicesBehind_138 tw3_185 ?_
      refine go_ldiv C dX6_choicesBehind_141 ⟨by decide, hw⟩ (fun hw => ?_)
      refine go_lstore C [(8, lV ((y8 * ((v16 : Int32).toInt64)) / 1000)), (11, rV (some a12)), (0, rV (some a0)), (1, rV (some a1)), (2, rV (some a3)), (3, iV p3), (6, iV v2), (10, iV x9)] dX6_choicesBehind_142 (Nat.le_of_ble_eq_true rfl) rfl ?_
      refine go_sub [2, 3, 4, 5, 6, 0, 7] rfl ?_
      exact hj144 ((y8 * ((v16 : Int32).toInt64)) / 1000) hw
    refine go_aload_n C dX6_choicesBehind_44 2 rfl ?_
    refine go_iload C dX6_choicesBehind_45 6 rfl ?_
    refine go_pV_q C [iV x7] vX7_conditionAt tw3_78 (ci := 7) rfl (m_X7_conditionAt (xl X) C.2.2.2.2.2.2.2.1 N hw.2) ⟨Nat.le_of_ble_eq_true rfl, Nat.le_of_ble_eq_true rfl, Nat.le_of_ble_eq_true rfl, Nat.le_of_ble_eq_true rfl⟩ ⟨rfl, rfl⟩ hw.1 dX6_choicesBehind_47 rfl (Nat.le_of_ble_eq_true rfl) rfl (fun o17 hw => ?_)
    refine go_astore C [(11, rV o17), (0, rV (some a0)), (1, rV (some a1)), (2, rV (some a3)), (3, iV p3), (6, iV v2), (8, lV y6), (10, iV x7)] dX6_choicesBehind_50 (Nat.le_of_ble_eq_true rfl) rfl ?_
    refine go_aload C dX6_choicesBehind_52 0 rfl ?_
    refine jn_elim (P := fun j => ∀ (y18 : Int64), j y18 → Go G X rmX6_choicesBehind 12 0 0 (QN G X (QL G (fun r h1 => h1 = h0 ∧ K r)) rmX6_choicesBehind) h0 84 [(0, rV (some a0)), (1, rV (some a1)), (2, rV (some a3)), (3, iV p3), (6, iV v2), (8, lV y18), (10, iV x7)] []) hw (fun y18 hw => ?_) (fun j84 hj84 hw => ?_)
    · refine go_iinc C (x7 + 1) [(10, iV (x7 + 1)), (0, rV (some a0)), (1, rV (some a1)), (2, rV (some a3)), (3, iV p3), (6, iV v2), (8, lV y18)] dX6_choicesBehind_84 6 rfl (by rw [kc_i1]) (Nat.le_of_ble_eq_true rfl) rfl ?_
      refine go_goto C 38 dX6_choicesBehind_87 (by decide) ?_
      refine go_sub [1, 2, 3, 4, 5, 6, 0] rfl ?_
      exact hj38 y18 (x7 + 1) hw
    refine go_ifnull C 84 dX6_choicesBehind_54 (by decide) hw (fun e9 hw9 => ?_) (fun a19 e9 hw9 => ?_)
    · clear hw
      subst e9
      have hw := hw9
      clear hw9
      refine go_sub [1, 2, 3, 4, 5, 6, 7] rfl ?_
      exact hj84 y6 hw
    clear hw
    subst e9
    have hw := hw9
    clear hw9
    refine go_aload C dX6_choicesBehind_57 0 rfl ?_
    refine go_pV_i C [] vX1_position tw3_79 (ci := 1) rfl (m_X1_position (xl X) C.2.2.2.2.2.2.2.1 N hw.2) ⟨Nat.le_of_ble_eq_true rfl, Nat.le_of_ble_eq_true rfl, Nat.le_of_ble_eq_true rfl, Nat.le_of_ble_eq_true rfl⟩ ⟨rfl, rfl⟩ hw.1 dX6_choicesBehind_59 rfl (Nat.le_of_ble_eq_true rfl) rfl (fun v20 hw => ?_)
    refine go_iload C dX6_choicesBehind_62 5 rfl ?_
    refine go_icmp_ne C 84 dX6_choicesBehind_64 (by decide) hw (fun hw => ?_) (fun hw => ?_)
    · refine go_sub [1, 2, 3, 4, 5, 6, 7] rfl ?_
      exact hj84 y6 hw
    refine go_lload C dX6_choicesBehind_67 6 rfl ?_
    refine go_aload_n C dX6_choicesBehind_69 1 rfl ?_
    refine go_getA C (cfX6) (k := 1) (Nat.le_of_ble_eq_true rfl) tw1_113 rfl dX6_choicesBehind_70 hw (fun a21 hw => ?_)
    refine go_iload C dX6_choicesBehind_73 7 rfl ?_
    refine go_iaload C dX6_choicesBehind_75 hw (fun v22 hw => ?_)
    refine go_i2l C dX6_choicesBehind_76 ?_
    refine go_lmul C dX6_choicesBehind_77 ?_
    refine go_ldc2 C 1000 dX6_choicesBehind_78 tw3_185 ?_
    refine go_ldiv C dX6_choicesBehind_81 ⟨by decide, hw⟩ (fun hw => ?_)
    refine go_lstore C [(8, lV ((y6 * ((v22 : Int32).toInt64)) / 1000)), (11, rV (some a19)), (0, rV (some a0)), (1, rV (some a1)), (2, rV (some a3)), (3, iV p3), (6, iV v2), (10, iV x7)] dX6_choicesBehind_82 (Nat.le_of_ble_eq_true rfl) rfl ?_
    refine go_sub [2, 3, 4, 5, 6, 0, 7] rfl ?_
    exact hj84 ((y6 * ((v22 : Int32).toInt64)) / 1000) hw
  refine go_ifnonnull C 24 dX6_choicesBehind_17 (by decide) hw (fun a23 e9 hw9 => ?_) (fun e9 hw9 => ?_)
  · clear hw
    subst e9
    have hw := hw9
    clear hw9
    refine go_lload C dX6_choicesBehind_24 6 rfl ?_
    refine go_aload C dX6_choicesBehind_26 0 rfl ?_
    refine go_pV_i C [] vX10_takenRows tw3_103 (ci := 10) rfl (m_X10_takenRows (xl X) C.2.2.2.2.2.2.2.1 N hw.2) ⟨Nat.le_of_ble_eq_true rfl, Nat.le_of_ble_eq_true rfl, Nat.le_of_ble_eq_true rfl, Nat.le_of_ble_eq_true rfl⟩ ⟨rfl, rfl⟩ hw.1 dX6_choicesBehind_28 rfl (Nat.le_of_ble_eq_true rfl) rfl (fun v24 hw => ?_)
    refine go_i2l C dX6_choicesBehind_31 ?_
    refine go_lmul C dX6_choicesBehind_32 ?_
    refine go_sub [2, 3, 4, 5, 1] rfl ?_
    exact hj33 (p4 * ((v24 : Int32).toInt64)) hw
  clear hw
  subst e9
  have hw := hw9
  clear hw9
  refine go_lconst C 0 dX6_choicesBehind_20 rfl ?_
  refine go_goto C 33 dX6_choicesBehind_21 (by decide) ?_
  refine go_sub [2, 3, 4, 5, 1] rfl ?_
  exact hj33 0 hw
/-- DuelSchema$Planner.joinCost(II)I -/
def w_X6_joinCost (N : Nat) (a0 : Nat) (p1 : Int32) (p2 : Int32) (h0 : Hp) (K : Int32 → Prop) : Prop :=
  br (((p1 * 3) + p2) < 0) (
    K 0) (
    gA h0 a0 6 5 fun a1 =>
    aN h0 a1 fun v2 =>
    br (v2 ≤ ((p1 * 3) + p2)) (
      K 0) (
      gA h0 a0 6 5 fun a3 =>
      aI h0 a3 0 ((p1 * 3) + p2) fun v4 =>
      K v4))
abbrev rmX6_joinCost : Room := { frames := 2, cells := 0, slots := 0, locals := 60 }
theorem vX6_joinCost : VI RX6 yX6_joinCost cX6_joinCost 4 (some .int) 2 := ⟨tw3_175, tp25, tw1_4, tw3_176, by decide +kernel⟩
set_option maxHeartbeats 4000000 in
theorem m_X6_joinCost {G : Gp} (l : Launch) (hfl : l.stackTraces = false) (N : Nat) {a0 : Nat} {p1 : Int32} {p2 : Int32} {h0 : Hp} {K : Int32 → Prop} (hw : w_X6_joinCost N a0 p1 p2 h0 K) : MT G l yX6_joinCost cX6_joinCost 4 (some .int) rmX6_joinCost [rV (some a0), iV p1, iV p2] h0 (QI G (fun r h1 => h1 = h0 ∧ K r)) := by
  refine go_metT l hfl _ 4 _ _ rfl (by decide +kernel) (Nat.le_of_ble_eq_true rfl) [(0, rV (some a0)), (1, iV p1), (2, iV p2)] rfl (fun X hX C hn => ?_)
  subst hX
  unfold w_X6_joinCost at hw
  refine go_iload_n C dX6_joinCost_0 1 rfl ?_
  refine go_iconst C 3 dX6_joinCost_1 kc_i3 ?_
  refine go_imul C dX6_joinCost_2 ?_
  refine go_iload_n C dX6_joinCost_3 2 rfl ?_
  refine go_iadd C dX6_joinCost_4 ?_
  refine go_istore_n C [(3, iV ((p1 * 3) + p2)), (0, rV (some a0)), (1, iV p1), (2, iV p2)] dX6_joinCost_5 (Nat.le_of_ble_eq_true rfl) rfl ?_
  refine go_iload_n C dX6_joinCost_6 0 rfl ?_
  refine go_if_lt C 28 dX6_joinCost_7 (by decide) hw (fun hw => ?_) (fun hw => ?_)
  · refine go_iconst C 0 dX6_joinCost_28 kc_i0 ?_
    exact go_iret C dX6_joinCost_29 ⟨rfl, hw⟩ (Nat.le_of_ble_eq_true rfl) (Nat.le_of_ble_eq_true rfl)
  refine go_iload_n C dX6_joinCost_10 0 rfl ?_
  refine go_aload_n C dX6_joinCost_11 1 rfl ?_
  refine go_getA C (cfX6) (k := 5) (Nat.le_of_ble_eq_true rfl) tw1_117 rfl dX6_joinCost_12 hw (fun a1 hw => ?_)
  refine go_alen C dX6_joinCost_15 hw (fun v2 hw => ?_)
  refine go_icmp_ge C 28 dX6_joinCost_16 (by decide) hw (fun hw => ?_) (fun hw => ?_)
  · refine go_iconst C 0 dX6_joinCost_28 kc_i0 ?_
    exact go_iret C dX6_joinCost_29 ⟨rfl, hw⟩ (Nat.le_of_ble_eq_true rfl) (Nat.le_of_ble_eq_true rfl)
  refine go_aload_n C dX6_joinCost_19 1 rfl ?_
  refine go_getA C (cfX6) (k := 5) (Nat.le_of_ble_eq_true rfl) tw1_117 rfl dX6_joinCost_20 hw (fun a3 hw => ?_)
  refine go_iload_n C dX6_joinCost_23 0 rfl ?_
  refine go_iaload C dX6_joinCost_24 hw (fun v4 hw => ?_)
  refine go_goto C 29 dX6_joinCost_25 (by decide) ?_
  exact go_iret C dX6_joinCost_29 ⟨rfl, hw⟩ (Nat.le_of_ble_eq_true rfl) (Nat.le_of_ble_eq_true rfl)
/-- DuelSchema$Planner.costOf(LDuelSchema$Plan;LDuelSchema$Query;I)I -/
def w_X6_costOf (N : Nat) (a0 : Nat) (p1 : Option Nat) (p2 : Option Nat) (p3 : Int32) (h0 : Hp) (K : Int32 → Prop) : Prop :=
  nn p1 fun a1 => cv h0 a1 5 <| w_X5_reasonAt N a1 p3 h0 fun v2 =>
  cv h0 a1 5 <| w_X5_wayAt N a1 p3 h0 fun v3 =>
  br (v3 = 106) (
    cv h0 a1 5 <| w_X5_positionAt N a1 p3 h0 fun v14 =>
    cv h0 a0 6 <| w_X6_joinCost N a0 v2 v14 h0 fun v15 =>
    K v15) (
    cv h0 a1 5 <| w_X5_wayAt N a1 p3 h0 fun v4 =>
    br (v4 = 99) (
      br (v2 < 0) (
        K 0) (
        gA h0 a0 6 2 fun a10 =>
        aN h0 a10 fun v11 =>
        br (v11 ≤ v2) (
          K 0) (
          gA h0 a0 6 2 fun a12 =>
          aI h0 a12 0 v2 fun v13 =>
          K v13))) (
      cv h0 a1 5 <| w_X5_positionAt N a1 p3 h0 fun v5 =>
      nn p2 fun a6 => cv h0 a6 7 <| w_X7_tableOf N a6 v5 h0 fun o7 =>
      brn o7 (
        K 0) (fun a8 =>
        cv h0 a8 10 <| w_X10_takenPages N a8  h0 fun v9 =>
        K v9)))
abbrev rmX6_costOf : Room := { frames := 3, cells := 0, slots := 0, locals := 83 }
theorem vX6_costOf : VI RX6 yX6_costOf cX6_costOf 6 (some .int) 3 := ⟨tw3_169, tp24, tw1_4, tw3_170, by decide +kernel⟩
set_option maxHeartbeats 4000000 in
theorem m_X6_costOf {G : Gp} (l : Launch) (hfl : l.stackTraces = false) (N : Nat) {a0 : Nat} {p1 : Option Nat} {p2 : Option Nat} {p3 : Int32} {h0 : Hp} {K : Int32 → Prop} (hw : w_X6_costOf N a0 p1 p2 p3 h0 K) : MT G l yX6_costOf cX6_costOf 6 (some .int) rmX6_costOf [rV (some a0), rV p1, rV p2, iV p3] h0 (QI G (fun r h1 => h1 = h0 ∧ K r)) := by
  refine go_metT l hfl _ 6 _ _ rfl (by decide +kernel) (Nat.le_of_ble_eq_true rfl) [(0, rV (some a0)), (1, rV p1), (2, rV p2), (3, iV p3)] rfl (fun X hX C hn => ?_)
  subst hX
  unfold w_X6_costOf at hw
  refine go_aload_n C dX6_costOf_0 1 rfl ?_
  refine go_iload_n C dX6_costOf_1 3 rfl ?_
  obtain ⟨a1, e9, hw9⟩ := hw
  subst e9
  have hw := hw9
  clear hw9
  refine go_pV_i C [iV p3] vX5_reasonAt tw3_171 (ci := 5) rfl (m_X5_reasonAt (xl X) C.2.2.2.2.2.2.2.1 N hw.2) ⟨Nat.le_of_ble_eq_true rfl, Nat.le_of_ble_eq_true rfl, Nat.le_of_ble_eq_true rfl, Nat.le_of_ble_eq_true rfl⟩ ⟨rfl, rfl⟩ hw.1 dX6_costOf_2 rfl (Nat.le_of_ble_eq_true rfl) rfl (fun v2 hw => ?_)
  refine go_istore C [(4, iV v2), (0, rV (some a0)), (1, rV (some a1)), (2, rV p2), (3, iV p3)] dX6_costOf_5 (Nat.le_of_ble_eq_true rfl) rfl ?_
  refine go_aload_n C dX6_costOf_7 2 rfl ?_
  refine go_iload_n C dX6_costOf_8 4 rfl ?_
  refine go_pV_i C [iV p3] vX5_wayAt tw3_172 (ci := 5) rfl (m_X5_wayAt (xl X) C.2.2.2.2.2.2.2.1 N hw.2) ⟨Nat.le_of_ble_eq_true rfl, Nat.le_of_ble_eq_true rfl, Nat.le_of_ble_eq_true rfl, Nat.le_of_ble_eq_true rfl⟩ ⟨rfl, rfl⟩ hw.1 dX6_costOf_9 rfl (Nat.le_of_ble_eq_true rfl) rfl (fun v3 hw => ?_)
  refine go_bipush C 106 dX6_costOf_12 kc_b106 ?_
  refine go_icmp_ne C 29 dX6_costOf_14 (by decide) hw (fun hw => ?_) (fun hw => ?_)
  · refine go_aload_n C dX6_costOf_29 2 rfl ?_
    refine go_iload_n C dX6_costOf_30 4 rfl ?_
    refine go_pV_i C [iV p3] vX5_wayAt tw3_172 (ci := 5) rfl (m_X5_wayAt (xl X) C.2.2.2.2.2.2.2.1 N hw.2) ⟨Nat.le_of_ble_eq_true rfl, Nat.le_of_ble_eq_true rfl, Nat.le_of_ble_eq_true rfl, Nat.le_of_ble_eq_true rfl⟩ ⟨rfl, rfl⟩ hw.1 dX6_costOf_31 rfl (Nat.le_of_ble_eq_true rfl) rfl (fun v4 hw => ?_)
    refine go_bipush C 99 dX6_costOf_34 kc_b99 ?_
    refine go_icmp_ne C 66 dX6_costOf_36 (by decide) hw (fun hw => ?_) (fun hw => ?_)
    · refine go_aload_n C dX6_costOf_66 3 rfl ?_
      refine go_aload_n C dX6_costOf_67 2 rfl ?_
      refine go_iload_n C dX6_costOf_68 4 rfl ?_
      refine go_pV_i C [iV p3] vX5_positionAt tw3_151 (ci := 5) rfl (m_X5_positionAt (xl X) C.2.2.2.2.2.2.2.1 N hw.2) ⟨Nat.le_of_ble_eq_true rfl, Nat.le_of_ble_eq_true rfl, Nat.le_of_ble_eq_true rfl, Nat.le_of_ble_eq_true rfl⟩ ⟨rfl, rfl⟩ hw.1 dX6_costOf_69 rfl (Nat.le_of_ble_eq_true rfl) rfl (fun v5 hw => ?_)
      obtain ⟨a6, e9, hw9⟩ := hw
      subst e9
      have hw := hw9
      clear hw9
      refine go_pV_q C [iV v5] vX7_tableOf tw3_80 (ci := 7) rfl (m_X7_tableOf (xl X) C.2.2.2.2.2.2.2.1 N hw.2) ⟨Nat.le_of_ble_eq_true rfl, Nat.le_of_ble_eq_true rfl, Nat.le_of_ble_eq_true rfl, Nat.le_of_ble_eq_true rfl⟩ ⟨rfl, rfl⟩ hw.1 dX6_costOf_72 rfl (Nat.le_of_ble_eq_true rfl) rfl (fun o7 hw => ?_)
      refine go_astore C [(5, rV o7), (4, iV v2), (0, rV (some a0)), (1, rV (some a1)), (2, rV (some a6)), (3, iV p3)] dX6_costOf_75 (Nat.le_of_ble_eq_true rfl) rfl ?_
      refine go_aload C dX6_costOf_77 0 rfl ?_
      refine go_ifnonnull C 86 dX6_costOf_79 (by decide) hw (fun a8 e9 hw9 => ?_) (fun e9 hw9 => ?_)
      · clear hw
        subst e9
        have hw := hw9
        clear hw9
        refine go_aload C dX6_costOf_86 0 rfl ?_
        refine go_pV_i C [] vX10_takenPages tw3_177 (ci := 10) rfl (m_X10_takenPages (xl X) C.2.2.2.2.2.2.2.1 N hw.2) ⟨Nat.le_of_ble_eq_true rfl, Nat.le_of_ble_eq_true rfl, Nat.le_of_ble_eq_true rfl, Nat.le_of_ble_eq_true rfl⟩ ⟨rfl, rfl⟩ hw.1 dX6_costOf_88 rfl (Nat.le_of_ble_eq_true rfl) rfl (fun v9 hw => ?_)
        exact go_iret C dX6_costOf_91 ⟨rfl, hw⟩ (Nat.le_of_ble_eq_true rfl) (Nat.le_of_ble_eq_true rfl)
      clear hw
      subst e9
      have hw := hw9
      clear hw9
      refine go_iconst C 0 dX6_costOf_82 kc_i0 ?_
      refine go_goto C 91 dX6_costOf_83 (by decide) ?_
      exact go_iret C dX6_costOf_91 ⟨rfl, hw⟩ (Nat.le_of_ble_eq_true rfl) (Nat.le_of_ble_eq_true rfl)
    refine go_iload C dX6_costOf_39 0 rfl ?_
    refine go_if_lt C 64 dX6_costOf_41 (by decide) hw (fun hw => ?_) (fun hw => ?_)
    · refine go_iconst C 0 dX6_costOf_64 kc_i0 ?_
      exact go_iret C dX6_costOf_65 ⟨rfl, hw⟩ (Nat.le_of_ble_eq_true rfl) (Nat.le_of_ble_eq_true rfl)
    refine go_iload C dX6_costOf_44 0 rfl ?_
    refine go_aload_n C dX6_costOf_46 1 rfl ?_
    refine go_getA C (cfX6) (k := 2) (Nat.le_of_ble_eq_true rfl) tw1_114 rfl dX6_costOf_47 hw (fun a10 hw => ?_)
    refine go_alen C dX6_costOf_50 hw (fun v11 hw => ?_)
    refine go_icmp_ge C 64 dX6_costOf_51 (by decide) hw (fun hw => ?_) (fun hw => ?_)
    · refine go_iconst C 0 dX6_costOf_64 kc_i0 ?_
      exact go_iret C dX6_costOf_65 ⟨rfl, hw⟩ (Nat.le_of_ble_eq_true rfl) (Nat.le_of_ble_eq_true rfl)
    refine go_aload_n C dX6_costOf_54 1 rfl ?_
    refine go_getA C (cfX6) (k := 2) (Nat.le_of_ble_eq_true rfl) tw1_114 rfl dX6_costOf_55 hw (fun a12 hw => ?_)
    refine go_iload C dX6_costOf_58 0 rfl ?_
    refine go_iaload C dX6_costOf_60 hw (fun v13 hw => ?_)
    refine go_goto C 65 dX6_costOf_61 (by decide) ?_
    exact go_iret C dX6_costOf_65 ⟨rfl, hw⟩ (Nat.le_of_ble_eq_true rfl) (Nat.le_of_ble_eq_true rfl)
  refine go_aload_n C dX6_costOf_17 1 rfl ?_
  refine go_iload C dX6_costOf_18 0 rfl ?_
  refine go_aload_n C dX6_costOf_20 2 rfl ?_
  refine go_iload_n C dX6_costOf_21 4 rfl ?_
  refine go_pV_i C [iV p3] vX5_positionAt tw3_151 (ci := 5) rfl (m_X5_positionAt (xl X) C.2.2.2.2.2.2.2.1 N hw.2) ⟨Nat.le_of_ble_eq_true rfl, Nat.le_of_ble_eq_true rfl, Nat.le_of_ble_eq_true rfl, Nat.le_of_ble_eq_true rfl⟩ ⟨rfl, rfl⟩ hw.1 dX6_costOf_22 rfl (Nat.le_of_ble_eq_true rfl) rfl (fun v14 hw => ?_)
  refine go_pV_i C [iV v2, iV v14] vX6_joinCost tw3_173 (ci := 6) rfl (m_X6_joinCost (xl X) C.2.2.2.2.2.2.2.1 N hw.2) ⟨Nat.le_of_ble_eq_true rfl, Nat.le_of_ble_eq_true rfl, Nat.le_of_ble_eq_true rfl, Nat.le_of_ble_eq_true rfl⟩ ⟨rfl, rfl⟩ hw.1 dX6_costOf_25 rfl (Nat.le_of_ble_eq_true rfl) rfl (fun v15 hw => ?_)
  exact go_iret C dX6_costOf_28 ⟨rfl, hw⟩ (Nat.le_of_ble_eq_true rfl) (Nat.le_of_ble_eq_true rfl)
/-- DuelSchema$Planner.guessOf(LDuelSchema$Plan;LDuelSchema$Query;)J -/
def w_X6_guessOf (N : Nat) (a0 : Nat) (p1 : Option Nat) (p2 : Option Nat) (h0 : Hp) (K : Int64 → Prop) : Prop :=
  fx3 (fun (w8 : Int64 → Int64 → Int32 → Prop) (y1 : Int64) (y2 : Int64) (x3 : Int32) =>
    nn p1 fun a4 => cv h0 a4 5 <| w_X5_size N a4  h0 fun v5 =>
    br (v5 ≤ x3) (
      K y1) (
      cv h0 a0 6 <| w_X6_costOf N a0 (some a4) p2 x3 h0 fun v6 =>
      cv h0 a0 6 <| w_X6_choicesBehind N a0 (some a4) p2 x3 y2 h0 fun v7 =>
      w8 (y1 + (y2 * ((v6 : Int32).toInt64))) v7 (x3 + 1))) N 0 1 0
abbrev rmX6_guessOf : Room := { frames := 4, cells := 0, slots := 0, locals := 113 }
theorem vX6_guessOf : VI RX6 yX6_guessOf cX6_guessOf 8 (some .long) 2 := ⟨tw3_165, tp23, tw1_4, tw3_166, by decide +kernel⟩
set_option maxHeartbeats 4000000 in
theorem m_X6_guessOf {G : Gp} (l : Launch) (hfl : l.stackTraces = false) (N : Nat) {a0 : Nat} {p1 : Option Nat} {p2 : Option Nat} {h0 : Hp} {K : Int64 → Prop} (hw : w_X6_guessOf N a0 p1 p2 h0 K) : MT G l yX6_guessOf cX6_guessOf 8 (some .long) rmX6_guessOf [rV (some a0), rV p1, rV p2] h0 (QL G (fun r h1 => h1 = h0 ∧ K r)) := by
  refine go_metT l hfl _ 8 _ _ rfl (by decide +kernel) (Nat.le_of_ble_eq_true rfl) [(0, rV (some a0)), (1, rV p1), (2, rV p2)] rfl (fun X hX C hn => ?_)
  subst hX
  unfold w_X6_guessOf at hw
  refine go_lconst C 0 dX6_guessOf_0 rfl ?_
  refine go_lstore_n C [(3, lV 0), (0, rV (some a0)), (1, rV p1), (2, rV p2)] dX6_guessOf_1 (Nat.le_of_ble_eq_true rfl) rfl ?_
  refine go_lconst C 1 dX6_guessOf_2 rfl ?_
  refine go_lstore C [(5, lV 1), (3, lV 0), (0, rV (some a0)), (1, rV p1), (2, rV p2)] dX6_guessOf_3 (Nat.le_of_ble_eq_true rfl) rfl ?_
  refine go_iconst C 0 dX6_guessOf_5 kc_i0 ?_
  refine go_istore C [(7, iV 0), (5, lV 1), (3, lV 0), (0, rV (some a0)), (1, rV p1), (2, rV p2)] dX6_guessOf_6 (Nat.le_of_ble_eq_true rfl) rfl ?_
  refine go_sub [3, 4, 5, 2, 1, 0] rfl ?_
  refine fx3_elim (P := fun y1 y2 x3 => Go G X rmX6_guessOf 8 0 0 (QN G X (QL G (fun r h1 => h1 = h0 ∧ K r)) rmX6_guessOf) h0 8 [(0, rV (some a0)), (1, rV p1), (2, rV p2), (3, lV y1), (5, lV y2), (7, iV x3)] []) (fun w8 hj8 y1 y2 x3 hw => ?_) N _ _ _ hw
  refine go_iload C dX6_guessOf_8 5 rfl ?_
  refine go_aload_n C dX6_guessOf_10 1 rfl ?_
  obtain ⟨a4, e9, hw9⟩ := hw
  subst e9
  have hw := hw9
  clear hw9
  refine go_pV_i C [] vX5_size tw3_142 (ci := 5) rfl (m_X5_size (xl X) C.2.2.2.2.2.2.2.1 N hw.2) ⟨Nat.le_of_ble_eq_true rfl, Nat.le_of_ble_eq_true rfl, Nat.le_of_ble_eq_true rfl, Nat.le_of_ble_eq_true rfl⟩ ⟨rfl, rfl⟩ hw.1 dX6_guessOf_11 rfl (Nat.le_of_ble_eq_true rfl) rfl (fun v5 hw => ?_)
  refine go_icmp_ge C 50 dX6_guessOf_14 (by decide) hw (fun hw => ?_) (fun hw => ?_)
  · refine go_lload_n C dX6_guessOf_50 3 rfl ?_
    exact go_lret C dX6_guessOf_51 ⟨rfl, hw⟩ (Nat.le_of_ble_eq_true rfl) (Nat.le_of_ble_eq_true rfl)
  refine go_lload_n C dX6_guessOf_17 3 rfl ?_
  refine go_lload C dX6_guessOf_18 4 rfl ?_
  refine go_aload_n C dX6_guessOf_20 0 rfl ?_
  refine go_aload_n C dX6_guessOf_21 1 rfl ?_
  refine go_aload_n C dX6_guessOf_22 2 rfl ?_
  refine go_iload C dX6_guessOf_23 5 rfl ?_
  refine go_pV_i C [rV (some a4), rV p2, iV x3] vX6_costOf tw3_167 (ci := 6) rfl (m_X6_costOf (xl X) C.2.2.2.2.2.2.2.1 N hw.2) ⟨Nat.le_of_ble_eq_true rfl, Nat.le_of_ble_eq_true rfl, Nat.le_of_ble_eq_true rfl, Nat.le_of_ble_eq_true rfl⟩ ⟨rfl, rfl⟩ hw.1 dX6_guessOf_25 rfl (Nat.le_of_ble_eq_true rfl) rfl (fun v6 hw => ?_)
  refine go_i2l C dX6_guessOf_28 ?_
  refine go_lmul C dX6_guessOf_29 ?_
  refine go_ladd C dX6_guessOf_30 ?_
  refine go_lstore_n C [(3, lV (y1 + (y2 * ((v6 : Int32).toInt64)))), (0, rV (some a0)), (1, rV (some a4)), (2, rV p2), (5, lV y2), (7, iV x3)] dX6_guessOf_31 (Nat.le_of_ble_eq_true rfl) rfl ?_
  refine go_aload_n C dX6_guessOf_32 1 rfl ?_
  refine go_aload_n C dX6_guessOf_33 2 rfl ?_
  refine go_aload_n C dX6_guessOf_34 3 rfl ?_
  refine go_iload C dX6_guessOf_35 5 rfl ?_
  refine go_lload C dX6_guessOf_37 4 rfl ?_
  refine go_pV_l C [rV (some a4), rV p2, iV x3, lV y2] vX6_choicesBehind tw3_181 (ci := 6) rfl (m_X6_choicesBehind (xl X) C.2.2.2.2.2.2.2.1 N hw.2) ⟨Nat.le_of_ble_eq_true rfl, Nat.le_of_ble_eq_true rfl, Nat.le_of_ble_eq_true rfl, Nat.le_of_ble_eq_true rfl⟩ ⟨rfl, rfl⟩ hw.1 dX6_guessOf_39 rfl (Nat.le_of_ble_eq_true rfl) rfl (fun v7 hw => ?_)
  refine go_lstore C [(5, lV v7), (3, lV (y1 + (y2 * ((v6 : Int32).toInt64)))), (0, rV (some a0)), (1, rV (some a4)), (2, rV p2), (7, iV x3)] dX6_guessOf_42 (Nat.le_of_ble_eq_true rfl) rfl ?_
  refine go_iinc C (x3 + 1) [(7, iV (x3 + 1)), (5, lV v7), (3, lV (y1 + (y2 * ((v6 : Int32).toInt64)))), (0, rV (some a0)), (1, rV (some a4)), (2, rV p2)] dX6_guessOf_44 5 rfl (by rw [kc_i1]) (Nat.le_of_ble_eq_true rfl) rfl ?_
  refine go_goto C 8 dX6_guessOf_47 (by decide) ?_
  refine go_sub [3, 4, 5, 2, 1, 0] rfl ?_
  exact hj8 (y1 + (y2 * ((v6 : Int32).toInt64))) v7 (x3 + 1) hw
/-- DuelSchema$Planner.indexOfJoin(LDuelSchema$Plan;LDuelSchema$Query;II)I -/
def w_X6_indexOfJoin (N : Nat) (a0 : Nat) (p1 : Option Nat) (p2 : Option Nat) (p3 : Int32) (p4 : Int32) (h0 : Hp) (K : Int32 → Prop) : Prop :=
  nn p2 fun a1 => cv h0 a1 7 <| w_X7_joinAt N a1 p4 h0 fun o2 =>
  nn p1 fun a3 => cv h0 a3 5 <| w_X5_positionAt N a3 p3 h0 fun v4 =>
  jn (fun (v5 : Int32) => 
    br (v5 = 0) (
      K (-1)) (
      br (((p4 * 3) + v4) < 0) (
        K (-1)) (
        gA h0 a0 6 6 fun a6 =>
        aN h0 a6 fun v7 =>
        br (v7 ≤ ((p4 * 3) + v4)) (
          K (-1)) (
          gA h0 a0 6 6 fun a8 =>
          aI h0 a8 0 ((p4 * 3) + v4) fun v9 =>
          K v9)))) (fun j40 =>
  jn (
    j40 0) (fun j39 =>
  brn o2 (
    j39 ) (fun a10 =>
    cv h0 a10 4 <| w_X4_partnerOf N a10 v4 h0 fun v11 =>
    cv h0 a3 5 <| w_X5_isAhead N a3 v11 p3 h0 fun v12 =>
    br (v12 = 0) (
      j39 ) (
      j40 1))))
abbrev rmX6_indexOfJoin : Room := { frames := 3, cells := 0, slots := 0, locals := 82 }
theorem vX6_indexOfJoin : VI RX6 yX6_indexOfJoin cX6_indexOfJoin 9 (some .int) 4 := ⟨tw3_149, tp20, tw1_4, tw3_150, by decide +kernel⟩
set_option maxHeartbeats 4000000 in
theorem m_X6_indexOfJoin {G : Gp} (l : Launch) (hfl : l.stackTraces = false) (N : Nat) {a0 : Nat} {p1 : Option Nat} {p2 : Option Nat} {p3 : Int32} {p4 : Int32} {h0 : Hp} {K : Int32 → Prop} (hw : w_X6_indexOfJoin N a0 p1 p2 p3 p4 h0 K) : MT G l yX6_indexOfJoin cX6_indexOfJoin 9 (some .int) rmX6_indexOfJoin [rV (some a0), rV p1, rV p2, iV p3, iV p4] h0 (QI G (fun r h1 => h1 = h0 ∧ K r)) := by
  refine go_metT l hfl _ 9 _ _ rfl (by decide +kernel) (Nat.le_of_ble_eq_true rfl) [(0, rV (some a0)), (1, rV p1), (2, rV p2), (3, iV p3), (4, iV p4)] rfl (fun X hX C hn => ?_)
  subst hX
  unfold w_X6_indexOfJoin at hw
  refine go_aload_n C dX6_indexOfJoin_0 2 rfl ?_
  refine go_iload C dX6_indexOfJoin_1 4 rfl ?_
  obtain ⟨a1, e9, hw9⟩ := hw
  subst e9
  have hw := hw9
  clear hw9
  refine go_pV_q C [iV p4] vX7_joinAt tw3_123 (ci := 7) rfl (m_X7_joinAt (xl X) C.2.2.2.2.2.2.2.1 N hw.2) ⟨Nat.le_of_ble_eq_true rfl, Nat.le_of_ble_eq_true rfl, Nat.le_of_ble_eq_true rfl, Nat.le_of_ble_eq_true rfl⟩ ⟨rfl, rfl⟩ hw.1 dX6_indexOfJoin_3 rfl (Nat.le_of_ble_eq_true rfl) rfl (fun o2 hw => ?_)
  refine go_astore C [(5, rV o2), (0, rV (some a0)), (1, rV p1), (2, rV (some a1)), (3, iV p3), (4, iV p4)] dX6_indexOfJoin_6 (Nat.le_of_ble_eq_true rfl) rfl ?_
  refine go_aload_n C dX6_indexOfJoin_8 2 rfl ?_
  refine go_iload_n C dX6_indexOfJoin_9 4 rfl ?_
  obtain ⟨a3, e9, hw9⟩ := hw
  subst e9
  have hw := hw9
  clear hw9
  refine go_pV_i C [iV p3] vX5_positionAt tw3_151 (ci := 5) rfl (m_X5_positionAt (xl X) C.2.2.2.2.2.2.2.1 N hw.2) ⟨Nat.le_of_ble_eq_true rfl, Nat.le_of_ble_eq_true rfl, Nat.le_of_ble_eq_true rfl, Nat.le_of_ble_eq_true rfl⟩ ⟨rfl, rfl⟩ hw.1 dX6_indexOfJoin_10 rfl (Nat.le_of_ble_eq_true rfl) rfl (fun v4 hw => ?_)
  refine go_istore C [(6, iV v4), (5, rV o2), (0, rV (some a0)), (1, rV (some a3)), (2, rV (some a1)), (3, iV p3), (4, iV p4)] dX6_indexOfJoin_13 (Nat.le_of_ble_eq_true rfl) rfl ?_
  refine go_aload C dX6_indexOfJoin_15 1 rfl ?_
  refine jn_elim (P := fun j => ∀ (v5 : Int32), j v5 → Go G X rmX6_indexOfJoin 9 0 0 (QN G X (QI G (fun r h1 => h1 = h0 ∧ K r)) rmX6_indexOfJoin) h0 40 [(0, rV (some a0)), (4, iV p4), (6, iV v4)] [iV v5]) hw (fun v5 hw => ?_) (fun j40 hj40 hw => ?_)
  · refine go_istore C [(7, iV v5), (0, rV (some a0)), (4, iV p4), (6, iV v4)] dX6_indexOfJoin_40 (Nat.le_of_ble_eq_true rfl) rfl ?_
    refine go_iload C dX6_indexOfJoin_42 2 rfl ?_
    refine go_iconst C 3 dX6_indexOfJoin_44 kc_i3 ?_
    refine go_imul C dX6_indexOfJoin_45 ?_
    refine go_iload C dX6_indexOfJoin_46 3 rfl ?_
    refine go_iadd C dX6_indexOfJoin_48 ?_
    refine go_istore C [(8, iV ((p4 * 3) + v4)), (7, iV v5), (0, rV (some a0)), (4, iV p4), (6, iV v4)] dX6_indexOfJoin_49 (Nat.le_of_ble_eq_true rfl) rfl ?_
    refine go_iload C dX6_indexOfJoin_51 1 rfl ?_
    refine go_if_eq C 81 dX6_indexOfJoin_53 (by decide) hw (fun hw => ?_) (fun hw => ?_)
    · refine go_iconst C (-1) dX6_indexOfJoin_81 kc_im1 ?_
      exact go_iret C dX6_indexOfJoin_82 ⟨rfl, hw⟩ (Nat.le_of_ble_eq_true rfl) (Nat.le_of_ble_eq_true rfl)
    refine go_iload C dX6_indexOfJoin_56 0 rfl ?_
    refine go_if_lt C 81 dX6_indexOfJoin_58 (by decide) hw (fun hw => ?_) (fun hw => ?_)
    · refine go_iconst C (-1) dX6_indexOfJoin_81 kc_im1 ?_
      exact go_iret C dX6_indexOfJoin_82 ⟨rfl, hw⟩ (Nat.le_of_ble_eq_true rfl) (Nat.le_of_ble_eq_true rfl)
    refine go_iload C dX6_indexOfJoin_61 0 rfl ?_
    refine go_aload_n C dX6_indexOfJoin_63 2 rfl ?_
    refine go_getA C (cfX6) (k := 6) (Nat.le_of_ble_eq_true rfl) tw1_118 rfl dX6_indexOfJoin_64 hw (fun a6 hw => ?_)
    refine go_alen C dX6_indexOfJoin_67 hw (fun v7 hw => ?_)
    refine go_icmp_ge C 81 dX6_indexOfJoin_68 (by decide) hw (fun hw => ?_) (fun hw => ?_)
    · refine go_iconst C (-1) dX6_indexOfJoin_81 kc_im1 ?_
      exact go_iret C dX6_indexOfJoin_82 ⟨rfl, hw⟩ (Nat.le_of_ble_eq_true rfl) (Nat.le_of_ble_eq_true rfl)
    refine go_aload_n C dX6_indexOfJoin_71 2 rfl ?_
    refine go_getA C (cfX6) (k := 6) (Nat.le_of_ble_eq_true rfl) tw1_118 rfl dX6_indexOfJoin_72 hw (fun a8 hw => ?_)
    refine go_iload C dX6_indexOfJoin_75 0 rfl ?_
    refine go_iaload C dX6_indexOfJoin_77 hw (fun v9 hw => ?_)
    refine go_goto C 82 dX6_indexOfJoin_78 (by decide) ?_
    exact go_iret C dX6_indexOfJoin_82 ⟨rfl, hw⟩ (Nat.le_of_ble_eq_true rfl) (Nat.le_of_ble_eq_true rfl)
  refine jn_elim (P := fun j => j  → Go G X rmX6_indexOfJoin 9 0 0 (QN G X (QI G (fun r h1 => h1 = h0 ∧ K r)) rmX6_indexOfJoin) h0 39 [(0, rV (some a0)), (4, iV p4), (6, iV v4)] []) hw (fun  hw => ?_) (fun j39 hj39 hw => ?_)
  · refine go_iconst C 0 dX6_indexOfJoin_39 kc_i0 ?_
    exact hj40 0 hw
  refine go_ifnull C 39 dX6_indexOfJoin_17 (by decide) hw (fun e9 hw9 => ?_) (fun a10 e9 hw9 => ?_)
  · clear hw
    subst e9
    have hw := hw9
    clear hw9
    refine go_sub [2, 6, 0] rfl ?_
    exact hj39  hw
  clear hw
  subst e9
  have hw := hw9
  clear hw9
  refine go_aload_n C dX6_indexOfJoin_20 3 rfl ?_
  refine go_aload C dX6_indexOfJoin_21 1 rfl ?_
  refine go_iload C dX6_indexOfJoin_23 0 rfl ?_
  refine go_pV_i C [iV v4] vX4_partnerOf tw3_124 (ci := 4) rfl (m_X4_partnerOf (xl X) C.2.2.2.2.2.2.2.1 N hw.2) ⟨Nat.le_of_ble_eq_true rfl, Nat.le_of_ble_eq_true rfl, Nat.le_of_ble_eq_true rfl, Nat.le_of_ble_eq_true rfl⟩ ⟨rfl, rfl⟩ hw.1 dX6_indexOfJoin_25 rfl (Nat.le_of_ble_eq_true rfl) rfl (fun v11 hw => ?_)
  refine go_iload_n C dX6_indexOfJoin_28 5 rfl ?_
  refine go_pV_i C [iV v11, iV p3] vX5_isAhead tw3_152 (ci := 5) rfl (m_X5_isAhead (xl X) C.2.2.2.2.2.2.2.1 N hw.2) ⟨Nat.le_of_ble_eq_true rfl, Nat.le_of_ble_eq_true rfl, Nat.le_of_ble_eq_true rfl, Nat.le_of_ble_eq_true rfl⟩ ⟨rfl, rfl⟩ hw.1 dX6_indexOfJoin_29 rfl (Nat.le_of_ble_eq_true rfl) rfl (fun v12 hw => ?_)
  refine go_if_eq C 39 dX6_indexOfJoin_32 (by decide) hw (fun hw => ?_) (fun hw => ?_)
  · refine go_sub [2, 6, 0] rfl ?_
    exact hj39  hw
  refine go_iconst C 1 dX6_indexOfJoin_35 kc_i1 ?_
  refine go_goto C 40 dX6_indexOfJoin_36 (by decide) ?_
  refine go_sub [2, 6, 0] rfl ?_
  exact hj40 1 hw
/-- DuelSchema$Planner.joinByBook(LDuelSchema$Plan;LDuelSchema$Query;I)Z -/
def w_X6_joinByBook (N : Nat) (a0 : Nat) (p1 : Option Nat) (p2 : Option Nat) (p3 : Int32) (h0 : Hp) (K : Int32 → Hp → Prop) : Prop :=
  fx1 (fun (w3 : Int32 → Prop) (x1 : Int32) =>
    br (3 ≤ x1) (
      K 0 h0) (
      cv h0 a0 6 <| w_X6_indexOfJoin N a0 p1 p2 p3 x1 h0 fun v2 =>
      br (v2 = (-1)) (
        w3 (x1 + 1)) (
        nn p1 fun a3 => cv h0 a3 5 <| w_X5_setWay N a3 p3 106 x1 v2 h0 fun h4 =>
        K 1 h4))) N 0
abbrev rmX6_joinByBook : Room := { frames := 4, cells := 0, slots := 0, locals := 110 }
theorem vX6_joinByBook : VI RX6 yX6_joinByBook cX6_joinByBook 6 (some .boolean) 3 := ⟨tw3_145, tp19, tw1_4, tw3_146, by decide +kernel⟩
set_option maxHeartbeats 4000000 in
theorem m_X6_joinByBook {G : Gp} (l : Launch) (hfl : l.stackTraces = false) (N : Nat) {a0 : Nat} {p1 : Option Nat} {p2 : Option Nat} {p3 : Int32} {h0 : Hp} {K : Int32 → Hp → Prop} (hw : w_X6_joinByBook N a0 p1 p2 p3 h0 K) : MT G l yX6_joinByBook cX6_joinByBook 6 (some .boolean) rmX6_joinByBook [rV (some a0), rV p1, rV p2, iV p3] h0 (QI G K) := by
  refine go_metT l hfl _ 6 _ _ rfl (by decide +kernel) (Nat.le_of_ble_eq_true rfl) [(0, rV (some a0)), (1, rV p1), (2, rV p2), (3, iV p3)] rfl (fun X hX C hn => ?_)
  subst hX
  unfold w_X6_joinByBook at hw
  refine go_iconst C 0 dX6_joinByBook_0 kc_i0 ?_
  refine go_istore C [(4, iV 0), (0, rV (some a0)), (1, rV p1), (2, rV p2), (3, iV p3)] dX6_joinByBook_1 (Nat.le_of_ble_eq_true rfl) rfl ?_
  refine go_sub [1, 2, 3, 4, 0] rfl ?_
  refine fx1_elim (P := fun x1 => Go G X rmX6_joinByBook 6 0 0 (QN G X (QI G K) rmX6_joinByBook) h0 3 [(0, rV (some a0)), (1, rV p1), (2, rV p2), (3, iV p3), (4, iV x1)] []) (fun w3 hj3 x1 hw => ?_) N _ hw
  refine go_iload C dX6_joinByBook_3 4 rfl ?_
  refine go_iconst C 3 dX6_joinByBook_5 kc_i3 ?_
  refine go_icmp_ge C 45 dX6_joinByBook_6 (by decide) hw (fun hw => ?_) (fun hw => ?_)
  · refine go_iconst C 0 dX6_joinByBook_45 kc_i0 ?_
    exact go_zret C dX6_joinByBook_46 ⟨rfl, hw⟩ (Nat.le_of_ble_eq_true rfl) (Nat.le_of_ble_eq_true rfl)
  refine go_aload_n C dX6_joinByBook_9 0 rfl ?_
  refine go_aload_n C dX6_joinByBook_10 1 rfl ?_
  refine go_aload_n C dX6_joinByBook_11 2 rfl ?_
  refine go_iload_n C dX6_joinByBook_12 3 rfl ?_
  refine go_iload C dX6_joinByBook_13 4 rfl ?_
  refine go_pV_i C [rV p1, rV p2, iV p3, iV x1] vX6_indexOfJoin tw3_147 (ci := 6) rfl (m_X6_indexOfJoin (xl X) C.2.2.2.2.2.2.2.1 N hw.2) ⟨Nat.le_of_ble_eq_true rfl, Nat.le_of_ble_eq_true rfl, Nat.le_of_ble_eq_true rfl, Nat.le_of_ble_eq_true rfl⟩ ⟨rfl, rfl⟩ hw.1 dX6_joinByBook_15 rfl (Nat.le_of_ble_eq_true rfl) rfl (fun v2 hw => ?_)
  refine go_istore C [(5, iV v2), (0, rV (some a0)), (1, rV p1), (2, rV p2), (3, iV p3), (4, iV x1)] dX6_joinByBook_18 (Nat.le_of_ble_eq_true rfl) rfl ?_
  refine go_iload C dX6_joinByBook_20 0 rfl ?_
  refine go_iconst C (-1) dX6_joinByBook_22 kc_im1 ?_
  refine go_icmp_eq C 39 dX6_joinByBook_23 (by decide) hw (fun hw => ?_) (fun hw => ?_)
  · refine go_iinc C (x1 + 1) [(4, iV (x1 + 1)), (5, iV v2), (0, rV (some a0)), (1, rV p1), (2, rV p2), (3, iV p3)] dX6_joinByBook_39 5 rfl (by rw [kc_i1]) (Nat.le_of_ble_eq_true rfl) rfl ?_
    refine go_goto C 3 dX6_joinByBook_42 (by decide) ?_
    refine go_sub [2, 3, 4, 5, 0] rfl ?_
    exact hj3 (x1 + 1) hw
  refine go_aload_n C dX6_joinByBook_26 2 rfl ?_
  refine go_iload_n C dX6_joinByBook_27 4 rfl ?_
  refine go_bipush C 106 dX6_joinByBook_28 kc_b106 ?_
  refine go_iload C dX6_joinByBook_30 5 rfl ?_
  refine go_iload C dX6_joinByBook_32 0 rfl ?_
  obtain ⟨a3, e9, hw9⟩ := hw
  subst e9
  have hw := hw9
  clear hw9
  refine go_c0V_v C [iV p3, iV 106, iV x1, iV v2] vX5_setWay tw3_153 (ci := 5) rfl (m_X5_setWay (xl X) C.2.2.2.2.2.2.2.1 N hw.2) ⟨Nat.le_of_ble_eq_true rfl, Nat.le_of_ble_eq_true rfl, Nat.le_of_ble_eq_true rfl, Nat.le_of_ble_eq_true rfl⟩ ⟨rfl, rfl⟩ hw.1 dX6_joinByBook_34 rfl (Nat.le_of_ble_eq_true rfl) rfl (fun h4 hw => ?_)
  refine go_iconst C 1 dX6_joinByBook_37 kc_i1 ?_
  exact go_zret C dX6_joinByBook_38 ⟨rfl, hw⟩ (Nat.le_of_ble_eq_true rfl) (Nat.le_of_ble_eq_true rfl)
/-- DuelSchema$Planner.drawByBook(LDuelSchema$Plan;LDuelSchema$Query;)V -/
def w_X6_drawByBook (N : Nat) (a0 : Nat) (p1 : Option Nat) (p2 : Option Nat) (h0 : Hp) (K : Hp → Prop) : Prop :=
  nn p2 fun a1 => cv h0 a1 7 <| w_X7_size N a1  h0 fun v2 =>
  nn p1 fun a3 => cv h0 a3 5 <| w_X5_takeOrder N a3 0 v2 h0 fun v4 h5 =>
  fx2 (fun (w12 : Int32 → Hp → Prop) (x7 : Int32) (h6 : Hp) =>
    cv h6 a3 5 <| w_X5_size N a3  h6 fun v8 =>
    br (v8 ≤ x7) (
      cv h6 a0 6 <| w_X6_guessOf N a0 (some a3) (some a1) h6 fun v9 =>
      cv h6 a3 5 <| w_X5_setGuess N a3 v9 h6 fun h10 =>
      K h10) (
      cv h6 a0 6 <| w_X6_joinByBook N a0 (some a3) (some a1) x7 h6 fun v11 h12 =>
      jn (fun (h13 : Hp) => 
        w12 (x7 + 1) h13) (fun j50 =>
      br (v11 = 0) (
        cv h12 a0 6 <| w_X6_conditionByBook N a0 (some a3) (some a1) x7 1 h12 fun v14 h15 =>
        br (v14 = 0) (
          cv h15 a0 6 <| w_X6_conditionByBook N a0 (some a3) (some a1) x7 0 h15 fun v16 h17 =>
          j50 h17) (
          j50 h15)) (
        j50 h12)))) N 0 h5
abbrev rmX6_drawByBook : Room := { frames := 5, cells := 0, slots := 0, locals := 140 }
theorem vX6_drawByBook : VI RX6 yX6_drawByBook cX6_drawByBook 4 none 2 := ⟨tw3_138, tp18, tw1_4, tw3_139, by decide +kernel⟩
set_option maxHeartbeats 4000000 in
theorem m_X6_drawByBook {G : Gp} (l : Launch) (hfl : l.stackTraces = false) (N : Nat) {a0 : Nat} {p1 : Option Nat} {p2 : Option Nat} {h0 : Hp} {K : Hp → Prop} (hw : w_X6_drawByBook N a0 p1 p2 h0 K) : MT G l yX6_drawByBook cX6_drawByBook 4 none rmX6_drawByBook [rV (some a0), rV p1, rV p2] h0 (QV G K) := by
  refine go_metT l hfl _ 4 _ _ rfl (by decide +kernel) (Nat.le_of_ble_eq_true rfl) [(0, rV (some a0)), (1, rV p1), (2, rV p2)] rfl (fun X hX C hn => ?_)
  subst hX
  unfold w_X6_drawByBook at hw
  refine go_aload_n C dX6_drawByBook_0 1 rfl ?_
  refine go_iconst C 0 dX6_drawByBook_1 kc_i0 ?_
  refine go_aload_n C dX6_drawByBook_2 2 rfl ?_
  obtain ⟨a1, e9, hw9⟩ := hw
  subst e9
  have hw := hw9
  clear hw9
  refine go_pV_i C [] vX7_size tw3_140 (ci := 7) rfl (m_X7_size (xl X) C.2.2.2.2.2.2.2.1 N hw.2) ⟨Nat.le_of_ble_eq_true rfl, Nat.le_of_ble_eq_true rfl, Nat.le_of_ble_eq_true rfl, Nat.le_of_ble_eq_true rfl⟩ ⟨rfl, rfl⟩ hw.1 dX6_drawByBook_3 rfl (Nat.le_of_ble_eq_true rfl) rfl (fun v2 hw => ?_)
  obtain ⟨a3, e9, hw9⟩ := hw
  subst e9
  have hw := hw9
  clear hw9
  refine go_c0V_i C [iV 0, iV v2] vX5_takeOrder tw3_141 (ci := 5) rfl (m_X5_takeOrder (xl X) C.2.2.2.2.2.2.2.1 N hw.2) ⟨Nat.le_of_ble_eq_true rfl, Nat.le_of_ble_eq_true rfl, Nat.le_of_ble_eq_true rfl, Nat.le_of_ble_eq_true rfl⟩ ⟨rfl, rfl⟩ hw.1 dX6_drawByBook_6 rfl (Nat.le_of_ble_eq_true rfl) rfl (fun v4 h5 hw => ?_)
  refine go_pop C _ dX6_drawByBook_9 rfl ?_
  refine go_iconst C 0 dX6_drawByBook_10 kc_i0 ?_
  refine go_istore_n C [(3, iV 0), (0, rV (some a0)), (1, rV (some a3)), (2, rV (some a1))] dX6_drawByBook_11 (Nat.le_of_ble_eq_true rfl) rfl ?_
  refine go_sub [1, 2, 3, 0] rfl ?_
  refine fx2_elim (P := fun x7 h6 => Go G X rmX6_drawByBook 4 0 0 (QN G X (QV G K) rmX6_drawByBook) h6 12 [(0, rV (some a0)), (1, rV (some a3)), (2, rV (some a1)), (3, iV x7)] []) (fun w12 hj12 x7 h6 hw => ?_) N _ _ hw
  refine go_iload_n C dX6_drawByBook_12 3 rfl ?_
  refine go_aload_n C dX6_drawByBook_13 1 rfl ?_
  refine go_pV_i C [] vX5_size tw3_142 (ci := 5) rfl (m_X5_size (xl X) C.2.2.2.2.2.2.2.1 N hw.2) ⟨Nat.le_of_ble_eq_true rfl, Nat.le_of_ble_eq_true rfl, Nat.le_of_ble_eq_true rfl, Nat.le_of_ble_eq_true rfl⟩ ⟨rfl, rfl⟩ hw.1 dX6_drawByBook_14 rfl (Nat.le_of_ble_eq_true rfl) rfl (fun v8 hw => ?_)
  refine go_icmp_ge C 56 dX6_drawByBook_17 (by decide) hw (fun hw => ?_) (fun hw => ?_)
  · refine go_aload_n C dX6_drawByBook_56 1 rfl ?_
    refine go_aload_n C dX6_drawByBook_57 0 rfl ?_
    refine go_aload_n C dX6_drawByBook_58 1 rfl ?_
    refine go_aload_n C dX6_drawByBook_59 2 rfl ?_
    refine go_pV_l C [rV (some a3), rV (some a1)] vX6_guessOf tw3_163 (ci := 6) rfl (m_X6_guessOf (xl X) C.2.2.2.2.2.2.2.1 N hw.2) ⟨Nat.le_of_ble_eq_true rfl, Nat.le_of_ble_eq_true rfl, Nat.le_of_ble_eq_true rfl, Nat.le_of_ble_eq_true rfl⟩ ⟨rfl, rfl⟩ hw.1 dX6_drawByBook_60 rfl (Nat.le_of_ble_eq_true rfl) rfl (fun v9 hw => ?_)
    refine go_c0V_v C [lV v9] vX5_setGuess tw3_189 (ci := 5) rfl (m_X5_setGuess (xl X) C.2.2.2.2.2.2.2.1 N hw.2) ⟨Nat.le_of_ble_eq_true rfl, Nat.le_of_ble_eq_true rfl, Nat.le_of_ble_eq_true rfl, Nat.le_of_ble_eq_true rfl⟩ ⟨rfl, rfl⟩ hw.1 dX6_drawByBook_63 rfl (Nat.le_of_ble_eq_true rfl) rfl (fun h10 hw => ?_)
    exact go_vret C dX6_drawByBook_66 hw (Nat.le_of_ble_eq_true rfl) (Nat.le_of_ble_eq_true rfl)
  refine go_aload_n C dX6_drawByBook_20 0 rfl ?_
  refine go_aload_n C dX6_drawByBook_21 1 rfl ?_
  refine go_aload_n C dX6_drawByBook_22 2 rfl ?_
  refine go_iload_n C dX6_drawByBook_23 3 rfl ?_
  refine go_c0V_i C [rV (some a3), rV (some a1), iV x7] vX6_joinByBook tw3_143 (ci := 6) rfl (m_X6_joinByBook (xl X) C.2.2.2.2.2.2.2.1 N hw.2) ⟨Nat.le_of_ble_eq_true rfl, Nat.le_of_ble_eq_true rfl, Nat.le_of_ble_eq_true rfl, Nat.le_of_ble_eq_true rfl⟩ ⟨rfl, rfl⟩ hw.1 dX6_drawByBook_24 rfl (Nat.le_of_ble_eq_true rfl) rfl (fun v11 h12 hw => ?_)
  refine jn_elim (P := fun j => ∀ (h13 : Hp), j h13 → Go G X rmX6_drawByBook 4 0 0 (QN G X (QV G K) rmX6_drawByBook) h13 50 [(0, rV (some a0)), (1, rV (some a3)), (2, rV (some a1)), (3, iV x7)] []) hw (fun h13 hw => ?_) (fun j50 hj50 hw => ?_)
  · refine go_iinc C (x7 + 1) [(3, iV (x7 + 1)), (0, rV (some a0)), (1, rV (some a3)), (2, rV (some a1))] dX6_drawByBook_50 3 rfl (by rw [kc_i1]) (Nat.le_of_ble_eq_true rfl) rfl ?_
    refine go_goto C 12 dX6_drawByBook_53 (by decide) ?_
    refine go_sub [1, 2, 3, 0] rfl ?_
    exact hj12 (x7 + 1) h13 hw
  refine go_if_ne C 50 dX6_drawByBook_27 (by decide) hw (fun hw => ?_) (fun hw => ?_)
  · exact hj50 h12 hw
  refine go_aload_n C dX6_drawByBook_30 0 rfl ?_
  refine go_aload_n C dX6_drawByBook_31 1 rfl ?_
  refine go_aload_n C dX6_drawByBook_32 2 rfl ?_
  refine go_iload_n C dX6_drawByBook_33 3 rfl ?_
  refine go_iconst C 1 dX6_drawByBook_34 kc_i1 ?_
  refine go_c0V_i C [rV (some a3), rV (some a1), iV x7, iV 1] vX6_conditionByBook tw3_154 (ci := 6) rfl (m_X6_conditionByBook (xl X) C.2.2.2.2.2.2.2.1 N hw.2) ⟨Nat.le_of_ble_eq_true rfl, Nat.le_of_ble_eq_true rfl, Nat.le_of_ble_eq_true rfl, Nat.le_of_ble_eq_true rfl⟩ ⟨rfl, rfl⟩ hw.1 dX6_drawByBook_35 rfl (Nat.le_of_ble_eq_true rfl) rfl (fun v14 h15 hw => ?_)
  refine go_if_ne C 50 dX6_drawByBook_38 (by decide) hw (fun hw => ?_) (fun hw => ?_)
  · exact hj50 h15 hw
  refine go_aload_n C dX6_drawByBook_41 0 rfl ?_
  refine go_aload_n C dX6_drawByBook_42 1 rfl ?_
  refine go_aload_n C dX6_drawByBook_43 2 rfl ?_
  refine go_iload_n C dX6_drawByBook_44 3 rfl ?_
  refine go_iconst C 0 dX6_drawByBook_45 kc_i0 ?_
  refine go_c0V_i C [rV (some a3), rV (some a1), iV x7, iV 0] vX6_conditionByBook tw3_154 (ci := 6) rfl (m_X6_conditionByBook (xl X) C.2.2.2.2.2.2.2.1 N hw.2) ⟨Nat.le_of_ble_eq_true rfl, Nat.le_of_ble_eq_true rfl, Nat.le_of_ble_eq_true rfl, Nat.le_of_ble_eq_true rfl⟩ ⟨rfl, rfl⟩ hw.1 dX6_drawByBook_46 rfl (Nat.le_of_ble_eq_true rfl) rfl (fun v16 h17 hw => ?_)
  refine go_pop C _ dX6_drawByBook_49 rfl ?_
  exact hj50 h17 hw
/-- DuelSchema$Planner.takeCheapestWay(LDuelSchema$Query;I)V -/
def w_X6_takeCheapestWay (N : Nat) (a0 : Nat) (p1 : Option Nat) (p2 : Int32) (h0 : Hp) (K : Hp → Prop) : Prop :=
  gA h0 a0 6 0 fun a1 =>
  cv h0 a0 6 <| w_X6_costOf N a0 (some a1) p1 p2 h0 fun v2 =>
  fx3 (fun (w14 : Int32 → Int32 → Hp → Prop) (x4 : Int32) (x5 : Int32) (h3 : Hp) =>
    br (4 ≤ x5) (
      fx3 (fun (w82 : Int32 → Int32 → Hp → Prop) (x7 : Int32) (x8 : Int32) (h6 : Hp) =>
        br (3 ≤ x8) (
          K h6) (
          gA h6 a0 6 0 fun a9 =>
          cv h6 a0 6 <| w_X6_indexOfJoin N a0 (some a9) p1 p2 x8 h6 fun v10 =>
          gA h6 a0 6 0 fun a11 =>
          cv h6 a11 5 <| w_X5_positionAt N a11 p2 h6 fun v12 =>
          cv h6 a0 6 <| w_X6_joinCost N a0 x8 v12 h6 fun v13 =>
          jn (fun (x15 : Int32) (h14 : Hp) => 
            w82 x15 (x8 + 1) h14) (fun j147 =>
          br (v10 = (-1)) (
            j147 x7 h6) (
            br (x7 ≤ v13) (
              j147 x7 h6) (
              gA h6 a0 6 0 fun a16 =>
              cv h6 a16 5 <| w_X5_setWay N a16 p2 106 x8 v10 h6 fun h17 =>
              j147 v13 h17))))) N x4 0 h3) (
      gA h3 a0 6 0 fun a18 =>
      cv h3 a0 6 <| w_X6_indexOfCondition N a0 (some a18) p1 p2 x5 h3 fun v19 =>
      jn (fun (x21 : Int32) (h20 : Hp) => 
        w14 x21 (x5 + 1) h20) (fun j73 =>
      br (v19 = (-1)) (
        j73 x4 h3) (
        gA h3 a0 6 2 fun a22 =>
        aI h3 a22 0 x5 fun v23 =>
        br (x4 ≤ v23) (
          j73 x4 h3) (
          gA h3 a0 6 2 fun a24 =>
          aI h3 a24 0 x5 fun v25 =>
          gA h3 a0 6 0 fun a26 =>
          cv h3 a26 5 <| w_X5_setWay N a26 p2 99 x5 v19 h3 fun h27 =>
          j73 v25 h27))))) N v2 0 h0
abbrev rmX6_takeCheapestWay : Room := { frames := 4, cells := 0, slots := 0, locals := 110 }
theorem vX6_takeCheapestWay : VI RX6 yX6_takeCheapestWay cX6_takeCheapestWay 7 none 2 := ⟨tw3_200, tp28, tw1_4, tw3_201, by decide +kernel⟩
set_option maxHeartbeats 4000000 in
theorem m_X6_takeCheapestWay {G : Gp} (l : Launch) (hfl : l.stackTraces = false) (N : Nat) {a0 : Nat} {p1 : Option Nat} {p2 : Int32} {h0 : Hp} {K : Hp → Prop} (hw : w_X6_takeCheapestWay N a0 p1 p2 h0 K) : MT G l yX6_takeCheapestWay cX6_takeCheapestWay 7 none rmX6_takeCheapestWay [rV (some a0), rV p1, iV p2] h0 (QV G K) := by
  refine go_metT l hfl _ 7 _ _ rfl (by decide +kernel) (Nat.le_of_ble_eq_true rfl) [(0, rV (some a0)), (1, rV p1), (2, iV p2)] rfl (fun X hX C hn => ?_)
  subst hX
  unfold w_X6_takeCheapestWay at hw
  refine go_aload_n C dX6_takeCheapestWay_0 0 rfl ?_
  refine go_aload_n C dX6_takeCheapestWay_1 0 rfl ?_
  refine go_getA C (cfX6) (k := 0) (Nat.le_of_ble_eq_true rfl) tw1_112 rfl dX6_takeCheapestWay_2 hw (fun a1 hw => ?_)
  refine go_aload_n C dX6_takeCheapestWay_5 1 rfl ?_
  refine go_iload_n C dX6_takeCheapestWay_6 2 rfl ?_
  refine go_pV_i C [rV (some a1), rV p1, iV p2] vX6_costOf tw3_167 (ci := 6) rfl (m_X6_costOf (xl X) C.2.2.2.2.2.2.2.1 N hw.2) ⟨Nat.le_of_ble_eq_true rfl, Nat.le_of_ble_eq_true rfl, Nat.le_of_ble_eq_true rfl, Nat.le_of_ble_eq_true rfl⟩ ⟨rfl, rfl⟩ hw.1 dX6_takeCheapestWay_7 rfl (Nat.le_of_ble_eq_true rfl) rfl (fun v2 hw => ?_)
  refine go_istore_n C [(3, iV v2), (0, rV (some a0)), (1, rV p1), (2, iV p2)] dX6_takeCheapestWay_10 (Nat.le_of_ble_eq_true rfl) rfl ?_
  refine go_iconst C 0 dX6_takeCheapestWay_11 kc_i0 ?_
  refine go_istore C [(4, iV 0), (3, iV v2), (0, rV (some a0)), (1, rV p1), (2, iV p2)] dX6_takeCheapestWay_12 (Nat.le_of_ble_eq_true rfl) rfl ?_
  refine go_sub [2, 3, 4, 1, 0] rfl ?_
  refine fx3_elim (P := fun x4 x5 h3 => Go G X rmX6_takeCheapestWay 7 0 0 (QN G X (QV G K) rmX6_takeCheapestWay) h3 14 [(0, rV (some a0)), (1, rV p1), (2, iV p2), (3, iV x4), (4, iV x5)] []) (fun w14 hj14 x4 x5 h3 hw => ?_) N _ _ _ hw
  refine go_iload C dX6_takeCheapestWay_14 4 rfl ?_
  refine go_iconst C 4 dX6_takeCheapestWay_16 kc_i4 ?_
  refine go_icmp_ge C 79 dX6_takeCheapestWay_17 (by decide) hw (fun hw => ?_) (fun hw => ?_)
  · refine go_iconst C 0 dX6_takeCheapestWay_79 kc_i0 ?_
    refine go_istore C [(4, iV 0), (0, rV (some a0)), (1, rV p1), (2, iV p2), (3, iV x4)] dX6_takeCheapestWay_80 (Nat.le_of_ble_eq_true rfl) rfl ?_
    refine go_sub [1, 2, 3, 4, 0] rfl ?_
    refine fx3_elim (P := fun x7 x8 h6 => Go G X rmX6_takeCheapestWay 7 0 0 (QN G X (QV G K) rmX6_takeCheapestWay) h6 82 [(0, rV (some a0)), (1, rV p1), (2, iV p2), (3, iV x7), (4, iV x8)] []) (fun w82 hj82 x7 x8 h6 hw => ?_) N _ _ _ hw
    refine go_iload C dX6_takeCheapestWay_82 4 rfl ?_
    refine go_iconst C 3 dX6_takeCheapestWay_84 kc_i3 ?_
    refine go_icmp_ge C 153 dX6_takeCheapestWay_85 (by decide) hw (fun hw => ?_) (fun hw => ?_)
    · exact go_vret C dX6_takeCheapestWay_153 hw (Nat.le_of_ble_eq_true rfl) (Nat.le_of_ble_eq_true rfl)
    refine go_aload_n C dX6_takeCheapestWay_88 0 rfl ?_
    refine go_aload_n C dX6_takeCheapestWay_89 0 rfl ?_
    refine go_getA C (cfX6) (k := 0) (Nat.le_of_ble_eq_true rfl) tw1_112 rfl dX6_takeCheapestWay_90 hw (fun a9 hw => ?_)
    refine go_aload_n C dX6_takeCheapestWay_93 1 rfl ?_
    refine go_iload_n C dX6_takeCheapestWay_94 2 rfl ?_
    refine go_iload C dX6_takeCheapestWay_95 4 rfl ?_
    refine go_pV_i C [rV (some a9), rV p1, iV p2, iV x8] vX6_indexOfJoin tw3_147 (ci := 6) rfl (m_X6_indexOfJoin (xl X) C.2.2.2.2.2.2.2.1 N hw.2) ⟨Nat.le_of_ble_eq_true rfl, Nat.le_of_ble_eq_true rfl, Nat.le_of_ble_eq_true rfl, Nat.le_of_ble_eq_true rfl⟩ ⟨rfl, rfl⟩ hw.1 dX6_takeCheapestWay_97 rfl (Nat.le_of_ble_eq_true rfl) rfl (fun v10 hw => ?_)
    refine go_istore C [(5, iV v10), (0, rV (some a0)), (1, rV p1), (2, iV p2), (3, iV x7), (4, iV x8)] dX6_takeCheapestWay_100 (Nat.le_of_ble_eq_true rfl) rfl ?_
    refine go_aload_n C dX6_takeCheapestWay_102 1 rfl ?_
    refine go_iload C dX6_takeCheapestWay_103 5 rfl ?_
    refine go_aload_n C dX6_takeCheapestWay_105 1 rfl ?_
    refine go_getA C (cfX6) (k := 0) (Nat.le_of_ble_eq_true rfl) tw1_112 rfl dX6_takeCheapestWay_106 hw (fun a11 hw => ?_)
    refine go_iload_n C dX6_takeCheapestWay_109 3 rfl ?_
    refine go_pV_i C [iV p2] vX5_positionAt tw3_151 (ci := 5) rfl (m_X5_positionAt (xl X) C.2.2.2.2.2.2.2.1 N hw.2) ⟨Nat.le_of_ble_eq_true rfl, Nat.le_of_ble_eq_true rfl, Nat.le_of_ble_eq_true rfl, Nat.le_of_ble_eq_true rfl⟩ ⟨rfl, rfl⟩ hw.1 dX6_takeCheapestWay_110 rfl (Nat.le_of_ble_eq_true rfl) rfl (fun v12 hw => ?_)
    refine go_pV_i C [iV x8, iV v12] vX6_joinCost tw3_173 (ci := 6) rfl (m_X6_joinCost (xl X) C.2.2.2.2.2.2.2.1 N hw.2) ⟨Nat.le_of_ble_eq_true rfl, Nat.le_of_ble_eq_true rfl, Nat.le_of_ble_eq_true rfl, Nat.le_of_ble_eq_true rfl⟩ ⟨rfl, rfl⟩ hw.1 dX6_takeCheapestWay_113 rfl (Nat.le_of_ble_eq_true rfl) rfl (fun v13 hw => ?_)
    refine go_istore C [(6, iV v13), (5, iV v10), (0, rV (some a0)), (1, rV p1), (2, iV p2), (3, iV x7), (4, iV x8)] dX6_takeCheapestWay_116 (Nat.le_of_ble_eq_true rfl) rfl ?_
    refine go_iload C dX6_takeCheapestWay_118 1 rfl ?_
    refine go_iconst C (-1) dX6_takeCheapestWay_120 kc_im1 ?_
    refine jn_elim (P := fun j => ∀ (x15 : Int32) (h14 : Hp), j x15 h14 → Go G X rmX6_takeCheapestWay 7 0 0 (QN G X (QV G K) rmX6_takeCheapestWay) h14 147 [(0, rV (some a0)), (1, rV p1), (2, iV p2), (3, iV x15), (4, iV x8)] []) hw (fun x15 h14 hw => ?_) (fun j147 hj147 hw => ?_)
    · refine go_iinc C (x8 + 1) [(4, iV (x8 + 1)), (0, rV (some a0)), (1, rV p1), (2, iV p2), (3, iV x15)] dX6_takeCheapestWay_147 4 rfl (by rw [kc_i1]) (Nat.le_of_ble_eq_true rfl) rfl ?_
      refine go_goto C 82 dX6_takeCheapestWay_150 (by decide) ?_
      refine go_sub [1, 2, 3, 4, 0] rfl ?_
      exact hj82 x15 (x8 + 1) h14 hw
    refine go_icmp_eq C 147 dX6_takeCheapestWay_121 (by decide) hw (fun hw => ?_) (fun hw => ?_)
    · refine go_sub [2, 3, 4, 5, 6] rfl ?_
      exact hj147 x7 h6 hw
    refine go_iload C dX6_takeCheapestWay_124 0 rfl ?_
    refine go_iload_n C dX6_takeCheapestWay_126 5 rfl ?_
    refine go_icmp_ge C 147 dX6_takeCheapestWay_127 (by decide) hw (fun hw => ?_) (fun hw => ?_)
    · refine go_sub [2, 3, 4, 5, 6] rfl ?_
      exact hj147 x7 h6 hw
    refine go_iload C dX6_takeCheapestWay_130 0 rfl ?_
    refine go_istore_n C [(3, iV v13), (6, iV v13), (5, iV v10), (0, rV (some a0)), (1, rV p1), (2, iV p2), (4, iV x8)] dX6_takeCheapestWay_132 (Nat.le_of_ble_eq_true rfl) rfl ?_
    refine go_aload_n C dX6_takeCheapestWay_133 3 rfl ?_
    refine go_getA C (cfX6) (k := 0) (Nat.le_of_ble_eq_true rfl) tw1_112 rfl dX6_takeCheapestWay_134 hw (fun a16 hw => ?_)
    refine go_iload_n C dX6_takeCheapestWay_137 5 rfl ?_
    refine go_bipush C 106 dX6_takeCheapestWay_138 kc_b106 ?_
    refine go_iload C dX6_takeCheapestWay_140 6 rfl ?_
    refine go_iload C dX6_takeCheapestWay_142 2 rfl ?_
    refine go_c0V_v C [iV p2, iV 106, iV x8, iV v10] vX5_setWay tw3_153 (ci := 5) rfl (m_X5_setWay (xl X) C.2.2.2.2.2.2.2.1 N hw.2) ⟨Nat.le_of_ble_eq_true rfl, Nat.le_of_ble_eq_true rfl, Nat.le_of_ble_eq_true rfl, Nat.le_of_ble_eq_true rfl⟩ ⟨rfl, rfl⟩ hw.1 dX6_takeCheapestWay_144 rfl (Nat.le_of_ble_eq_true rfl) rfl (fun h17 hw => ?_)
    refine go_sub [3, 4, 5, 0, 6] rfl ?_
    exact hj147 v13 h17 hw
  refine go_aload_n C dX6_takeCheapestWay_20 0 rfl ?_
  refine go_aload_n C dX6_takeCheapestWay_21 0 rfl ?_
  refine go_getA C (cfX6) (k := 0) (Nat.le_of_ble_eq_true rfl) tw1_112 rfl dX6_takeCheapestWay_22 hw (fun a18 hw => ?_)
  refine go_aload_n C dX6_takeCheapestWay_25 1 rfl ?_
  refine go_iload_n C dX6_takeCheapestWay_26 2 rfl ?_
  refine go_iload C dX6_takeCheapestWay_27 4 rfl ?_
  refine go_pV_i C [rV (some a18), rV p1, iV p2, iV x5] vX6_indexOfCondition tw3_158 (ci := 6) rfl (m_X6_indexOfCondition (xl X) C.2.2.2.2.2.2.2.1 N hw.2) ⟨Nat.le_of_ble_eq_true rfl, Nat.le_of_ble_eq_true rfl, Nat.le_of_ble_eq_true rfl, Nat.le_of_ble_eq_true rfl⟩ ⟨rfl, rfl⟩ hw.1 dX6_takeCheapestWay_29 rfl (Nat.le_of_ble_eq_true rfl) rfl (fun v19 hw => ?_)
  refine go_istore C [(5, iV v19), (0, rV (some a0)), (1, rV p1), (2, iV p2), (3, iV x4), (4, iV x5)] dX6_takeCheapestWay_32 (Nat.le_of_ble_eq_true rfl) rfl ?_
  refine go_iload C dX6_takeCheapestWay_34 0 rfl ?_
  refine go_iconst C (-1) dX6_takeCheapestWay_36 kc_im1 ?_
  refine jn_elim (P := fun j => ∀ (x21 : Int32) (h20 : Hp), j x21 h20 → Go G X rmX6_takeCheapestWay 7 0 0 (QN G X (QV G K) rmX6_takeCheapestWay) h20 73 [(0, rV (some a0)), (1, rV p1), (2, iV p2), (3, iV x21), (4, iV x5)] []) hw (fun x21 h20 hw => ?_) (fun j73 hj73 hw => ?_)
  · refine go_iinc C (x5 + 1) [(4, iV (x5 + 1)), (0, rV (some a0)), (1, rV p1), (2, iV p2), (3, iV x21)] dX6_takeCheapestWay_73 4 rfl (by rw [kc_i1]) (Nat.le_of_ble_eq_true rfl) rfl ?_
    refine go_goto C 14 dX6_takeCheapestWay_76 (by decide) ?_
    refine go_sub [1, 2, 3, 4, 0] rfl ?_
    exact hj14 x21 (x5 + 1) h20 hw
  refine go_icmp_eq C 73 dX6_takeCheapestWay_37 (by decide) hw (fun hw => ?_) (fun hw => ?_)
  · refine go_sub [1, 2, 3, 4, 5] rfl ?_
    exact hj73 x4 h3 hw
  refine go_aload_n C dX6_takeCheapestWay_40 1 rfl ?_
  refine go_getA C (cfX6) (k := 2) (Nat.le_of_ble_eq_true rfl) tw1_114 rfl dX6_takeCheapestWay_41 hw (fun a22 hw => ?_)
  refine go_iload C dX6_takeCheapestWay_44 5 rfl ?_
  refine go_iaload C dX6_takeCheapestWay_46 hw (fun v23 hw => ?_)
  refine go_iload_n C dX6_takeCheapestWay_47 4 rfl ?_
  refine go_icmp_ge C 73 dX6_takeCheapestWay_48 (by decide) hw (fun hw => ?_) (fun hw => ?_)
  · refine go_sub [1, 2, 3, 4, 5] rfl ?_
    exact hj73 x4 h3 hw
  refine go_aload_n C dX6_takeCheapestWay_51 1 rfl ?_
  refine go_getA C (cfX6) (k := 2) (Nat.le_of_ble_eq_true rfl) tw1_114 rfl dX6_takeCheapestWay_52 hw (fun a24 hw => ?_)
  refine go_iload C dX6_takeCheapestWay_55 5 rfl ?_
  refine go_iaload C dX6_takeCheapestWay_57 hw (fun v25 hw => ?_)
  refine go_istore_n C [(3, iV v25), (5, iV v19), (0, rV (some a0)), (1, rV p1), (2, iV p2), (4, iV x5)] dX6_takeCheapestWay_58 (Nat.le_of_ble_eq_true rfl) rfl ?_
  refine go_aload_n C dX6_takeCheapestWay_59 2 rfl ?_
  refine go_getA C (cfX6) (k := 0) (Nat.le_of_ble_eq_true rfl) tw1_112 rfl dX6_takeCheapestWay_60 hw (fun a26 hw => ?_)
  refine go_iload_n C dX6_takeCheapestWay_63 4 rfl ?_
  refine go_bipush C 99 dX6_takeCheapestWay_64 kc_b99 ?_
  refine go_iload C dX6_takeCheapestWay_66 5 rfl ?_
  refine go_iload C dX6_takeCheapestWay_68 1 rfl ?_
  refine go_c0V_v C [iV p2, iV 99, iV x5, iV v19] vX5_setWay tw3_153 (ci := 5) rfl (m_X5_setWay (xl X) C.2.2.2.2.2.2.2.1 N hw.2) ⟨Nat.le_of_ble_eq_true rfl, Nat.le_of_ble_eq_true rfl, Nat.le_of_ble_eq_true rfl, Nat.le_of_ble_eq_true rfl⟩ ⟨rfl, rfl⟩ hw.1 dX6_takeCheapestWay_70 rfl (Nat.le_of_ble_eq_true rfl) rfl (fun h27 hw => ?_)
  refine go_sub [2, 3, 4, 0, 5] rfl ?_
  exact hj73 v25 h27 hw
/-- DuelSchema$Planner.drawByCounts(LDuelSchema$Plan;LDuelSchema$Query;)V -/
def w_X6_drawByCounts (N : Nat) (a0 : Nat) (p1 : Option Nat) (p2 : Option Nat) (h0 : Hp) (K : Hp → Prop) : Prop :=
  fx3 (fun (w5 : Int32 → Int32 → Hp → Prop) (x2 : Int32) (x3 : Int32) (h1 : Hp) =>
    br ((18 / 3) ≤ x3) (
      K h1) (
      gA h1 a0 6 0 fun a4 =>
      nn p2 fun a5 => cv h1 a5 7 <| w_X7_size N a5  h1 fun v6 =>
      cv h1 a4 5 <| w_X5_takeOrder N a4 x3 v6 h1 fun v7 h8 =>
      jn (fun (x10 : Int32) (h9 : Hp) => 
        w5 x10 (x3 + 1) h9) (fun j105 =>
      br (v7 = 0) (
        j105 x2 h8) (
        fx2 (fun (w35 : Int32 → Hp → Prop) (x12 : Int32) (h11 : Hp) =>
          gA h11 a0 6 0 fun a13 =>
          cv h11 a13 5 <| w_X5_size N a13  h11 fun v14 =>
          br (v14 ≤ x12) (
            gA h11 a0 6 0 fun a15 =>
            gA h11 a0 6 0 fun a16 =>
            cv h11 a0 6 <| w_X6_guessOf N a0 (some a16) (some a5) h11 fun v17 =>
            cv h11 a15 5 <| w_X5_setGuess N a15 v17 h11 fun h18 =>
            jn (
              gA h18 a0 6 0 fun a19 =>
              nn p1 fun a20 => cv h18 a20 5 <| w_X5_copyFrom N a20 (some a19) h18 fun h21 =>
              j105 0 h21) (fun j95 =>
            br (x2 = 0) (
              gA h18 a0 6 0 fun a22 =>
              cv h18 a22 5 <| w_X5_guess N a22  h18 fun v23 =>
              nn p1 fun a24 => cv h18 a24 5 <| w_X5_guess N a24  h18 fun v25 =>
              br (0 ≤ (lg_cmp v23 v25)) (
                j105 x2 h18) (
                j95 )) (
              j95 ))) (
            cv h11 a0 6 <| w_X6_takeCheapestWay N a0 (some a5) x12 h11 fun h26 =>
            w35 (x12 + 1) h26)) N 0 h8)))) N 1 0 h0
abbrev rmX6_drawByCounts : Room := { frames := 5, cells := 0, slots := 0, locals := 140 }
theorem vX6_drawByCounts : VI RX6 yX6_drawByCounts cX6_drawByCounts 6 none 2 := ⟨tw3_195, tp27, tw1_4, tw3_196, by decide +kernel⟩
set_option maxHeartbeats 4000000 in
theorem m_X6_drawByCounts {G : Gp} (l : Launch) (hfl : l.stackTraces = false) (N : Nat) {a0 : Nat} {p1 : Option Nat} {p2 : Option Nat} {h0 : Hp} {K : Hp → Prop} (hw : w_X6_drawByCounts N a0 p1 p2 h0 K) : MT G l yX6_drawByCounts cX6_drawByCounts 6 none rmX6_drawByCounts [rV (some a0), rV p1, rV p2] h0 (QV G K) := by
  refine go_metT l hfl _ 6 _ _ rfl (by decide +kernel) (Nat.le_of_ble_eq_true rfl) [(0, rV (some a0)), (1, rV p1), (2, rV p2)] rfl (fun X hX C hn => ?_)
  subst hX
  unfold w_X6_drawByCounts at hw
  refine go_iconst C 1 dX6_drawByCounts_0 kc_i1 ?_
  refine go_istore_n C [(3, iV 1), (0, rV (some a0)), (1, rV p1), (2, rV p2)] dX6_drawByCounts_1 (Nat.le_of_ble_eq_true rfl) rfl ?_
  refine go_iconst C 0 dX6_drawByCounts_2 kc_i0 ?_
  refine go_istore C [(4, iV 0), (3, iV 1), (0, rV (some a0)), (1, rV p1), (2, rV p2)] dX6_drawByCounts_3 (Nat.le_of_ble_eq_true rfl) rfl ?_
  refine go_sub [2, 3, 4, 1, 0] rfl ?_
  refine fx3_elim (P := fun x2 x3 h1 => Go G X rmX6_drawByCounts 6 0 0 (QN G X (QV G K) rmX6_drawByCounts) h1 5 [(0, rV (some a0)), (1, rV p1), (2, rV p2), (3, iV x2), (4, iV x3)] []) (fun w5 hj5 x2 x3 h1 hw => ?_) N _ _ _ hw
  refine go_iload C dX6_drawByCounts_5 4 rfl ?_
  refine go_orders C tw3_197 dX6_drawByCounts_7 ?_
  refine go_ordlen C dX6_drawByCounts_10 ?_
  refine go_iconst C 3 dX6_drawByCounts_11 kc_i3 ?_
  refine go_idiv C dX6_drawByCounts_12 ⟨by decide, hw⟩ (fun hw => ?_)
  refine go_icmp_ge C 111 dX6_drawByCounts_13 (by decide) hw (fun hw => ?_) (fun hw => ?_)
  · exact go_vret C dX6_drawByCounts_111 hw (Nat.le_of_ble_eq_true rfl) (Nat.le_of_ble_eq_true rfl)
  refine go_aload_n C dX6_drawByCounts_16 0 rfl ?_
  refine go_getA C (cfX6) (k := 0) (Nat.le_of_ble_eq_true rfl) tw1_112 rfl dX6_drawByCounts_17 hw (fun a4 hw => ?_)
  refine go_iload C dX6_drawByCounts_20 4 rfl ?_
  refine go_aload_n C dX6_drawByCounts_22 2 rfl ?_
  obtain ⟨a5, e9, hw9⟩ := hw
  subst e9
  have hw := hw9
  clear hw9
  refine go_pV_i C [] vX7_size tw3_140 (ci := 7) rfl (m_X7_size (xl X) C.2.2.2.2.2.2.2.1 N hw.2) ⟨Nat.le_of_ble_eq_true rfl, Nat.le_of_ble_eq_true rfl, Nat.le_of_ble_eq_true rfl, Nat.le_of_ble_eq_true rfl⟩ ⟨rfl, rfl⟩ hw.1 dX6_drawByCounts_23 rfl (Nat.le_of_ble_eq_true rfl) rfl (fun v6 hw => ?_)
  refine go_c0V_i C [iV x3, iV v6] vX5_takeOrder tw3_141 (ci := 5) rfl (m_X5_takeOrder (xl X) C.2.2.2.2.2.2.2.1 N hw.2) ⟨Nat.le_of_ble_eq_true rfl, Nat.le_of_ble_eq_true rfl, Nat.le_of_ble_eq_true rfl, Nat.le_of_ble_eq_true rfl⟩ ⟨rfl, rfl⟩ hw.1 dX6_drawByCounts_26 rfl (Nat.le_of_ble_eq_true rfl) rfl (fun v7 h8 hw => ?_)
  refine jn_elim (P := fun j => ∀ (x10 : Int32) (h9 : Hp), j x10 h9 → Go G X rmX6_drawByCounts 6 0 0 (QN G X (QV G K) rmX6_drawByCounts) h9 105 [(0, rV (some a0)), (1, rV p1), (2, rV (some a5)), (3, iV x10), (4, iV x3)] []) hw (fun x10 h9 hw => ?_) (fun j105 hj105 hw => ?_)
  · refine go_iinc C (x3 + 1) [(4, iV (x3 + 1)), (0, rV (some a0)), (1, rV p1), (2, rV (some a5)), (3, iV x10)] dX6_drawByCounts_105 4 rfl (by rw [kc_i1]) (Nat.le_of_ble_eq_true rfl) rfl ?_
    refine go_goto C 5 dX6_drawByCounts_108 (by decide) ?_
    refine go_sub [1, 2, 3, 4, 0] rfl ?_
    exact hj5 x10 (x3 + 1) h9 hw
  refine go_if_eq C 105 dX6_drawByCounts_29 (by decide) hw (fun hw => ?_) (fun hw => ?_)
  · exact hj105 x2 h8 hw
  refine go_iconst C 0 dX6_drawByCounts_32 kc_i0 ?_
  refine go_istore C [(5, iV 0), (0, rV (some a0)), (1, rV p1), (2, rV (some a5)), (3, iV x2), (4, iV x3)] dX6_drawByCounts_33 (Nat.le_of_ble_eq_true rfl) rfl ?_
  refine go_sub [1, 2, 3, 4, 5, 0] rfl ?_
  refine fx2_elim (P := fun x12 h11 => Go G X rmX6_drawByCounts 6 0 0 (QN G X (QV G K) rmX6_drawByCounts) h11 35 [(0, rV (some a0)), (1, rV p1), (2, rV (some a5)), (3, iV x2), (4, iV x3), (5, iV x12)] []) (fun w35 hj35 x12 h11 hw => ?_) N _ _ hw
  refine go_iload C dX6_drawByCounts_35 5 rfl ?_
  refine go_aload_n C dX6_drawByCounts_37 0 rfl ?_
  refine go_getA C (cfX6) (k := 0) (Nat.le_of_ble_eq_true rfl) tw1_112 rfl dX6_drawByCounts_38 hw (fun a13 hw => ?_)
  refine go_pV_i C [] vX5_size tw3_142 (ci := 5) rfl (m_X5_size (xl X) C.2.2.2.2.2.2.2.1 N hw.2) ⟨Nat.le_of_ble_eq_true rfl, Nat.le_of_ble_eq_true rfl, Nat.le_of_ble_eq_true rfl, Nat.le_of_ble_eq_true rfl⟩ ⟨rfl, rfl⟩ hw.1 dX6_drawByCounts_41 rfl (Nat.le_of_ble_eq_true rfl) rfl (fun v14 hw => ?_)
  refine go_icmp_ge C 60 dX6_drawByCounts_44 (by decide) hw (fun hw => ?_) (fun hw => ?_)
  · refine go_aload_n C dX6_drawByCounts_60 0 rfl ?_
    refine go_getA C (cfX6) (k := 0) (Nat.le_of_ble_eq_true rfl) tw1_112 rfl dX6_drawByCounts_61 hw (fun a15 hw => ?_)
    refine go_aload_n C dX6_drawByCounts_64 0 rfl ?_
    refine go_aload_n C dX6_drawByCounts_65 0 rfl ?_
    refine go_getA C (cfX6) (k := 0) (Nat.le_of_ble_eq_true rfl) tw1_112 rfl dX6_drawByCounts_66 hw (fun a16 hw => ?_)
    refine go_aload_n C dX6_drawByCounts_69 2 rfl ?_
    refine go_pV_l C [rV (some a16), rV (some a5)] vX6_guessOf tw3_163 (ci := 6) rfl (m_X6_guessOf (xl X) C.2.2.2.2.2.2.2.1 N hw.2) ⟨Nat.le_of_ble_eq_true rfl, Nat.le_of_ble_eq_true rfl, Nat.le_of_ble_eq_true rfl, Nat.le_of_ble_eq_true rfl⟩ ⟨rfl, rfl⟩ hw.1 dX6_drawByCounts_70 rfl (Nat.le_of_ble_eq_true rfl) rfl (fun v17 hw => ?_)
    refine go_c0V_v C [lV v17] vX5_setGuess tw3_189 (ci := 5) rfl (m_X5_setGuess (xl X) C.2.2.2.2.2.2.2.1 N hw.2) ⟨Nat.le_of_ble_eq_true rfl, Nat.le_of_ble_eq_true rfl, Nat.le_of_ble_eq_true rfl, Nat.le_of_ble_eq_true rfl⟩ ⟨rfl, rfl⟩ hw.1 dX6_drawByCounts_73 rfl (Nat.le_of_ble_eq_true rfl) rfl (fun h18 hw => ?_)
    refine go_iload_n C dX6_drawByCounts_76 3 rfl ?_
    refine jn_elim (P := fun j => j  → Go G X rmX6_drawByCounts 6 0 0 (QN G X (QV G K) rmX6_drawByCounts) h18 95 [(0, rV (some a0)), (1, rV p1), (2, rV (some a5)), (4, iV x3)] []) hw (fun  hw => ?_) (fun j95 hj95 hw => ?_)
    · refine go_aload_n C dX6_drawByCounts_95 1 rfl ?_
      refine go_aload_n C dX6_drawByCounts_96 0 rfl ?_
      refine go_getA C (cfX6) (k := 0) (Nat.le_of_ble_eq_true rfl) tw1_112 rfl dX6_drawByCounts_97 hw (fun a19 hw => ?_)
      obtain ⟨a20, e9, hw9⟩ := hw
      subst e9
      have hw := hw9
      clear hw9
      refine go_c0V_v C [rV (some a19)] vX5_copyFrom tw3_206 (ci := 5) rfl (m_X5_copyFrom (xl X) C.2.2.2.2.2.2.2.1 N hw.2) ⟨Nat.le_of_ble_eq_true rfl, Nat.le_of_ble_eq_true rfl, Nat.le_of_ble_eq_true rfl, Nat.le_of_ble_eq_true rfl⟩ ⟨rfl, rfl⟩ hw.1 dX6_drawByCounts_100 rfl (Nat.le_of_ble_eq_true rfl) rfl (fun h21 hw => ?_)
      refine go_iconst C 0 dX6_drawByCounts_103 kc_i0 ?_
      refine go_istore_n C [(3, iV 0), (0, rV (some a0)), (1, rV (some a20)), (2, rV (some a5)), (4, iV x3)] dX6_drawByCounts_104 (Nat.le_of_ble_eq_true rfl) rfl ?_
      refine go_sub [1, 2, 3, 0, 4] rfl ?_
      exact hj105 0 h21 hw
    refine go_if_ne C 95 dX6_drawByCounts_77 (by decide) hw (fun hw => ?_) (fun hw => ?_)
    · refine go_sub [0, 1, 2, 4] rfl ?_
      exact hj95  hw
    refine go_aload_n C dX6_drawByCounts_80 0 rfl ?_
    refine go_getA C (cfX6) (k := 0) (Nat.le_of_ble_eq_true rfl) tw1_112 rfl dX6_drawByCounts_81 hw (fun a22 hw => ?_)
    refine go_pV_l C [] vX5_guess tw3_202 (ci := 5) rfl (m_X5_guess (xl X) C.2.2.2.2.2.2.2.1 N hw.2) ⟨Nat.le_of_ble_eq_true rfl, Nat.le_of_ble_eq_true rfl, Nat.le_of_ble_eq_true rfl, Nat.le_of_ble_eq_true rfl⟩ ⟨rfl, rfl⟩ hw.1 dX6_drawByCounts_84 rfl (Nat.le_of_ble_eq_true rfl) rfl (fun v23 hw => ?_)
    refine go_aload_n C dX6_drawByCounts_87 1 rfl ?_
    obtain ⟨a24, e9, hw9⟩ := hw
    subst e9
    have hw := hw9
    clear hw9
    refine go_pV_l C [] vX5_guess tw3_202 (ci := 5) rfl (m_X5_guess (xl X) C.2.2.2.2.2.2.2.1 N hw.2) ⟨Nat.le_of_ble_eq_true rfl, Nat.le_of_ble_eq_true rfl, Nat.le_of_ble_eq_true rfl, Nat.le_of_ble_eq_true rfl⟩ ⟨rfl, rfl⟩ hw.1 dX6_drawByCounts_88 rfl (Nat.le_of_ble_eq_true rfl) rfl (fun v25 hw => ?_)
    refine go_lcmp C dX6_drawByCounts_91 ?_
    refine go_if_ge C 105 dX6_drawByCounts_92 (by decide) hw (fun hw => ?_) (fun hw => ?_)
    · refine go_sub [0, 1, 2, 3, 4] rfl ?_
      exact hj105 x2 h18 hw
    refine go_sub [0, 1, 2, 4] rfl ?_
    exact hj95  hw
  refine go_aload_n C dX6_drawByCounts_47 0 rfl ?_
  refine go_aload_n C dX6_drawByCounts_48 2 rfl ?_
  refine go_iload C dX6_drawByCounts_49 5 rfl ?_
  refine go_c0V_v C [rV (some a5), iV x12] vX6_takeCheapestWay tw3_198 (ci := 6) rfl (m_X6_takeCheapestWay (xl X) C.2.2.2.2.2.2.2.1 N hw.2) ⟨Nat.le_of_ble_eq_true rfl, Nat.le_of_ble_eq_true rfl, Nat.le_of_ble_eq_true rfl, Nat.le_of_ble_eq_true rfl⟩ ⟨rfl, rfl⟩ hw.1 dX6_drawByCounts_51 rfl (Nat.le_of_ble_eq_true rfl) rfl (fun h26 hw => ?_)
  refine go_iinc C (x12 + 1) [(5, iV (x12 + 1)), (0, rV (some a0)), (1, rV p1), (2, rV (some a5)), (3, iV x2), (4, iV x3)] dX6_drawByCounts_54 5 rfl (by rw [kc_i1]) (Nat.le_of_ble_eq_true rfl) rfl ?_
  refine go_goto C 35 dX6_drawByCounts_57 (by decide) ?_
  refine go_sub [1, 2, 3, 4, 5, 0] rfl ?_
  exact hj35 (x12 + 1) h26 hw
/-- DuelSchema$Planner.takeConditions(LDuelSchema$Store;LDuelSchema$Query;I)V -/
def w_X6_takeConditions (N : Nat) (a0 : Nat) (p1 : Option Nat) (p2 : Option Nat) (p3 : Int32) (h0 : Hp) (K : Hp → Prop) : Prop :=
  fx2 (fun (w3 : Int32 → Hp → Prop) (x2 : Int32) (h1 : Hp) =>
    br (4 ≤ x2) (
      K h1) (
      nn p2 fun a3 => cv h1 a3 7 <| w_X7_conditionAt N a3 x2 h1 fun o4 =>
      jn (fun (o5 : Option Nat) => 
        gA h1 a0 6 3 fun a6 =>
        sI h1 a6 0 x2 (-1) fun h7 =>
        jn (fun (h8 : Hp) => 
          w3 (x2 + 1) h8) (fun j108 =>
        brn o5 (
          j108 h7) (fun a9 =>
          cv h7 a9 10 <| w_X10_shareOf N a9 o4 h7 fun v10 =>
          gA h7 a0 6 1 fun a11 =>
          sI h7 a11 0 x2 v10 fun h12 =>
          gA h12 a0 6 2 fun a13 =>
          cv h12 a9 10 <| w_X10_takenRows N a9  h12 fun v14 =>
          sI h12 a13 0 x2 (1 + ((v14 * v10) / 1000)) fun h15 =>
          gA h15 a0 6 3 fun a16 =>
          nn o4 fun a17 => cv h15 a17 1 <| w_X1_column N a17  h15 fun v18 =>
          nn p1 fun a19 => cv h15 a19 9 <| w_X9_lowestIndexOn N a19 (some a9) v18 p3 h15 fun v20 =>
          sI h15 a16 0 x2 v20 fun h21 =>
          j108 h21))) (fun j35 =>
      brn o4 (
        j35 none) (fun a22 =>
        cv h1 a22 1 <| w_X1_position N a22  h1 fun v23 =>
        cv h1 a3 7 <| w_X7_tableOf N a3 v23 h1 fun o24 =>
        j35 o24)))) N 0 h0
abbrev rmX6_takeConditions : Room := { frames := 4, cells := 0, slots := 0, locals := 107 }
theorem vX6_takeConditions : VI RX6 yX6_takeConditions cX6_takeConditions 8 none 3 := ⟨tw3_76, tp15, tw1_4, tw3_77, by decide +kernel⟩
set_option maxHeartbeats 4000000 in
theorem m_X6_takeConditions {G : Gp} (l : Launch) (hfl : l.stackTraces = false) (N : Nat) {a0 : Nat} {p1 : Option Nat} {p2 : Option Nat} {p3 : Int32} {h0 : Hp} {K : Hp → Prop} (hw : w_X6_takeConditions N a0 p1 p2 p3 h0 K) : MT G l yX6_takeConditions cX6_takeConditions 8 none rmX6_takeConditions [rV (some a0), rV p1, rV p2, iV p3] h0 (QV G K) := by
  refine go_metT l hfl _ 8 _ _ rfl (by decide +kernel) (Nat.le_of_ble_eq_true rfl) [(0, rV (some a0)), (1, rV p1), (2, rV p2), (3, iV p3)] rfl (fun X hX C hn => ?_)
  subst hX
  unfold w_X6_takeConditions at hw
  refine go_iconst C 0 dX6_takeConditions_0 kc_i0 ?_
  refine go_istore C [(4, iV 0), (0, rV (some a0)), (1, rV p1), (2, rV p2), (3, iV p3)] dX6_takeConditions_1 (Nat.le_of_ble_eq_true rfl) rfl ?_
  refine go_sub [1, 2, 3, 4, 0] rfl ?_
  refine fx2_elim (P := fun x2 h1 => Go G X rmX6_takeConditions 8 0 0 (QN G X (QV G K) rmX6_takeConditions) h1 3 [(0, rV (some a0)), (1, rV p1), (2, rV p2), (3, iV p3), (4, iV x2)] []) (fun w3 hj3 x2 h1 hw => ?_) N _ _ hw
  refine go_iload C dX6_takeConditions_3 4 rfl ?_
  refine go_iconst C 4 dX6_takeConditions_5 kc_i4 ?_
  refine go_icmp_ge C 114 dX6_takeConditions_6 (by decide) hw (fun hw => ?_) (fun hw => ?_)
  · exact go_vret C dX6_takeConditions_114 hw (Nat.le_of_ble_eq_true rfl) (Nat.le_of_ble_eq_true rfl)
  refine go_aload_n C dX6_takeConditions_9 2 rfl ?_
  refine go_iload C dX6_takeConditions_10 4 rfl ?_
  obtain ⟨a3, e9, hw9⟩ := hw
  subst e9
  have hw := hw9
  clear hw9
  refine go_pV_q C [iV x2] vX7_conditionAt tw3_78 (ci := 7) rfl (m_X7_conditionAt (xl X) C.2.2.2.2.2.2.2.1 N hw.2) ⟨Nat.le_of_ble_eq_true rfl, Nat.le_of_ble_eq_true rfl, Nat.le_of_ble_eq_true rfl, Nat.le_of_ble_eq_true rfl⟩ ⟨rfl, rfl⟩ hw.1 dX6_takeConditions_12 rfl (Nat.le_of_ble_eq_true rfl) rfl (fun o4 hw => ?_)
  refine go_astore C [(5, rV o4), (0, rV (some a0)), (1, rV p1), (2, rV (some a3)), (3, iV p3), (4, iV x2)] dX6_takeConditions_15 (Nat.le_of_ble_eq_true rfl) rfl ?_
  refine go_aload C dX6_takeConditions_17 0 rfl ?_
  refine jn_elim (P := fun j => ∀ (o5 : Option Nat), j o5 → Go G X rmX6_takeConditions 8 0 0 (QN G X (QV G K) rmX6_takeConditions) h1 35 [(0, rV (some a0)), (1, rV p1), (2, rV (some a3)), (3, iV p3), (4, iV x2), (5, rV o4)] [rV o5]) hw (fun o5 hw => ?_) (fun j35 hj35 hw => ?_)
  · refine go_astore C [(6, rV o5), (0, rV (some a0)), (1, rV p1), (2, rV (some a3)), (3, iV p3), (4, iV x2), (5, rV o4)] dX6_takeConditions_35 (Nat.le_of_ble_eq_true rfl) rfl ?_
    refine go_aload_n C dX6_takeConditions_37 1 rfl ?_
    refine go_getA C (cfX6) (k := 3) (Nat.le_of_ble_eq_true rfl) tw1_115 rfl dX6_takeConditions_38 hw (fun a6 hw => ?_)
    refine go_iload C dX6_takeConditions_41 5 rfl ?_
    refine go_iconst C (-1) dX6_takeConditions_43 kc_im1 ?_
    refine go_iastore C dX6_takeConditions_44 hw (fun h7 hw => ?_)
    refine go_aload C dX6_takeConditions_45 0 rfl ?_
    refine jn_elim (P := fun j => ∀ (h8 : Hp), j h8 → Go G X rmX6_takeConditions 8 0 0 (QN G X (QV G K) rmX6_takeConditions) h8 108 [(0, rV (some a0)), (1, rV p1), (2, rV (some a3)), (3, iV p3), (4, iV x2)] []) hw (fun h8 hw => ?_) (fun j108 hj108 hw => ?_)
    · refine go_iinc C (x2 + 1) [(4, iV (x2 + 1)), (0, rV (some a0)), (1, rV p1), (2, rV (some a3)), (3, iV p3)] dX6_takeConditions_108 4 rfl (by rw [kc_i1]) (Nat.le_of_ble_eq_true rfl) rfl ?_
      refine go_goto C 3 dX6_takeConditions_111 (by decide) ?_
      refine go_sub [1, 2, 3, 4, 0] rfl ?_
      exact hj3 (x2 + 1) h8 hw
    refine go_ifnull C 108 dX6_takeConditions_47 (by decide) hw (fun e9 hw9 => ?_) (fun a9 e9 hw9 => ?_)
    · clear hw
      subst e9
      have hw := hw9
      clear hw9
      refine go_sub [1, 2, 3, 4, 5] rfl ?_
      exact hj108 h7 hw
    clear hw
    subst e9
    have hw := hw9
    clear hw9
    refine go_aload C dX6_takeConditions_50 0 rfl ?_
    refine go_aload C dX6_takeConditions_52 6 rfl ?_
    refine go_pV_i C [rV o4] vX10_shareOf tw3_81 (ci := 10) rfl (m_X10_shareOf (xl X) C.2.2.2.2.2.2.2.1 N hw.2) ⟨Nat.le_of_ble_eq_true rfl, Nat.le_of_ble_eq_true rfl, Nat.le_of_ble_eq_true rfl, Nat.le_of_ble_eq_true rfl⟩ ⟨rfl, rfl⟩ hw.1 dX6_takeConditions_54 rfl (Nat.le_of_ble_eq_true rfl) rfl (fun v10 hw => ?_)
    refine go_istore C [(7, iV v10), (6, rV (some a9)), (0, rV (some a0)), (1, rV p1), (2, rV (some a3)), (3, iV p3), (4, iV x2), (5, rV o4)] dX6_takeConditions_57 (Nat.le_of_ble_eq_true rfl) rfl ?_
    refine go_aload_n C dX6_takeConditions_59 2 rfl ?_
    refine go_getA C (cfX6) (k := 1) (Nat.le_of_ble_eq_true rfl) tw1_113 rfl dX6_takeConditions_60 hw (fun a11 hw => ?_)
    refine go_iload C dX6_takeConditions_63 6 rfl ?_
    refine go_iload C dX6_takeConditions_65 0 rfl ?_
    refine go_iastore C dX6_takeConditions_67 hw (fun h12 hw => ?_)
    refine go_aload_n C dX6_takeConditions_68 2 rfl ?_
    refine go_getA C (cfX6) (k := 2) (Nat.le_of_ble_eq_true rfl) tw1_114 rfl dX6_takeConditions_69 hw (fun a13 hw => ?_)
    refine go_iload C dX6_takeConditions_72 6 rfl ?_
    refine go_iconst C 1 dX6_takeConditions_74 kc_i1 ?_
    refine go_aload C dX6_takeConditions_75 1 rfl ?_
    refine go_pV_i C [] vX10_takenRows tw3_103 (ci := 10) rfl (m_X10_takenRows (xl X) C.2.2.2.2.2.2.2.1 N hw.2) ⟨Nat.le_of_ble_eq_true rfl, Nat.le_of_ble_eq_true rfl, Nat.le_of_ble_eq_true rfl, Nat.le_of_ble_eq_true rfl⟩ ⟨rfl, rfl⟩ hw.1 dX6_takeConditions_77 rfl (Nat.le_of_ble_eq_true rfl) rfl (fun v14 hw => ?_)
    refine go_iload C dX6_takeConditions_80 0 rfl ?_
    refine go_imul C dX6_takeConditions_82 ?_
    refine go_sipush C 1000 dX6_takeConditions_83 kc_s1000 ?_
    refine go_idiv C dX6_takeConditions_86 ⟨by decide, hw⟩ (fun hw => ?_)
    refine go_iadd C dX6_takeConditions_87 ?_
    refine go_iastore C dX6_takeConditions_88 hw (fun h15 hw => ?_)
    refine go_aload_n C dX6_takeConditions_89 2 rfl ?_
    refine go_getA C (cfX6) (k := 3) (Nat.le_of_ble_eq_true rfl) tw1_115 rfl dX6_takeConditions_90 hw (fun a16 hw => ?_)
    refine go_iload C dX6_takeConditions_93 6 rfl ?_
    refine go_aload_n C dX6_takeConditions_95 3 rfl ?_
    refine go_aload C dX6_takeConditions_96 1 rfl ?_
    refine go_aload C dX6_takeConditions_98 7 rfl ?_
    obtain ⟨a17, e9, hw9⟩ := hw
    subst e9
    have hw := hw9
    clear hw9
    refine go_pV_i C [] vX1_column tw3_107 (ci := 1) rfl (m_X1_column (xl X) C.2.2.2.2.2.2.2.1 N hw.2) ⟨Nat.le_of_ble_eq_true rfl, Nat.le_of_ble_eq_true rfl, Nat.le_of_ble_eq_true rfl, Nat.le_of_ble_eq_true rfl⟩ ⟨rfl, rfl⟩ hw.1 dX6_takeConditions_100 rfl (Nat.le_of_ble_eq_true rfl) rfl (fun v18 hw => ?_)
    refine go_iload_n C dX6_takeConditions_103 5 rfl ?_
    obtain ⟨a19, e9, hw9⟩ := hw
    subst e9
    have hw := hw9
    clear hw9
    refine go_pV_i C [rV (some a9), iV v18, iV p3] vX9_lowestIndexOn tw3_108 (ci := 9) rfl (m_X9_lowestIndexOn (xl X) C.2.2.2.2.2.2.2.1 N hw.2) ⟨Nat.le_of_ble_eq_true rfl, Nat.le_of_ble_eq_true rfl, Nat.le_of_ble_eq_true rfl, Nat.le_of_ble_eq_true rfl⟩ ⟨rfl, rfl⟩ hw.1 dX6_takeConditions_104 rfl (Nat.le_of_ble_eq_true rfl) rfl (fun v20 hw => ?_)
    refine go_iastore C dX6_takeConditions_107 hw (fun h21 hw => ?_)
    refine go_sub [2, 3, 4, 5, 6] rfl ?_
    exact hj108 h21 hw
  refine go_ifnonnull C 26 dX6_takeConditions_19 (by decide) hw (fun a22 e9 hw9 => ?_) (fun e9 hw9 => ?_)
  · clear hw
    subst e9
    have hw := hw9
    clear hw9
    refine go_aload_n C dX6_takeConditions_26 3 rfl ?_
    refine go_aload C dX6_takeConditions_27 0 rfl ?_
    refine go_pV_i C [] vX1_position tw3_79 (ci := 1) rfl (m_X1_position (xl X) C.2.2.2.2.2.2.2.1 N hw.2) ⟨Nat.le_of_ble_eq_true rfl, Nat.le_of_ble_eq_true rfl, Nat.le_of_ble_eq_true rfl, Nat.le_of_ble_eq_true rfl⟩ ⟨rfl, rfl⟩ hw.1 dX6_takeConditions_29 rfl (Nat.le_of_ble_eq_true rfl) rfl (fun v23 hw => ?_)
    refine go_pV_q C [iV v23] vX7_tableOf tw3_80 (ci := 7) rfl (m_X7_tableOf (xl X) C.2.2.2.2.2.2.2.1 N hw.2) ⟨Nat.le_of_ble_eq_true rfl, Nat.le_of_ble_eq_true rfl, Nat.le_of_ble_eq_true rfl, Nat.le_of_ble_eq_true rfl⟩ ⟨rfl, rfl⟩ hw.1 dX6_takeConditions_32 rfl (Nat.le_of_ble_eq_true rfl) rfl (fun o24 hw => ?_)
    refine go_sub [1, 2, 3, 4, 5, 0] rfl ?_
    exact hj35 o24 hw
  clear hw
  subst e9
  have hw := hw9
  clear hw9
  refine go_null C dX6_takeConditions_22 ?_
  refine go_goto C 35 dX6_takeConditions_23 (by decide) ?_
  refine go_sub [1, 2, 3, 4, 5, 0] rfl ?_
  exact hj35 none hw
/-- DuelSchema$Planner.takeJoinFrom(IIII)V -/
def w_X6_takeJoinFrom (N : Nat) (a0 : Nat) (p1 : Int32) (p2 : Int32) (p3 : Int32) (p4 : Int32) (h0 : Hp) (K : Hp → Prop) : Prop :=
  br (((p1 * 3) + p2) < 0) (
    K h0) (
    gA h0 a0 6 5 fun a1 =>
    aN h0 a1 fun v2 =>
    br (v2 ≤ ((p1 * 3) + p2)) (
      K h0) (
      gA h0 a0 6 6 fun a3 =>
      aN h0 a3 fun v4 =>
      br (v4 ≤ ((p1 * 3) + p2)) (
        K h0) (
        gA h0 a0 6 5 fun a5 =>
        sI h0 a5 0 ((p1 * 3) + p2) p3 fun h6 =>
        gA h6 a0 6 6 fun a7 =>
        sI h6 a7 0 ((p1 * 3) + p2) p4 fun h8 =>
        K h8)))
abbrev rmX6_takeJoinFrom : Room := { frames := 2, cells := 0, slots := 0, locals := 60 }
theorem vX6_takeJoinFrom : VI RX6 yX6_takeJoinFrom cX6_takeJoinFrom 6 none 4 := ⟨tw3_133, tp17, tw1_4, tw3_134, by decide +kernel⟩
set_option maxHeartbeats 4000000 in
theorem m_X6_takeJoinFrom {G : Gp} (l : Launch) (hfl : l.stackTraces = false) (N : Nat) {a0 : Nat} {p1 : Int32} {p2 : Int32} {p3 : Int32} {p4 : Int32} {h0 : Hp} {K : Hp → Prop} (hw : w_X6_takeJoinFrom N a0 p1 p2 p3 p4 h0 K) : MT G l yX6_takeJoinFrom cX6_takeJoinFrom 6 none rmX6_takeJoinFrom [rV (some a0), iV p1, iV p2, iV p3, iV p4] h0 (QV G K) := by
  refine go_metT l hfl _ 6 _ _ rfl (by decide +kernel) (Nat.le_of_ble_eq_true rfl) [(0, rV (some a0)), (1, iV p1), (2, iV p2), (3, iV p3), (4, iV p4)] rfl (fun X hX C hn => ?_)
  subst hX
  unfold w_X6_takeJoinFrom at hw
  refine go_iload_n C dX6_takeJoinFrom_0 1 rfl ?_
  refine go_iconst C 3 dX6_takeJoinFrom_1 kc_i3 ?_
  refine go_imul C dX6_takeJoinFrom_2 ?_
  refine go_iload_n C dX6_takeJoinFrom_3 2 rfl ?_
  refine go_iadd C dX6_takeJoinFrom_4 ?_
  refine go_istore C [(5, iV ((p1 * 3) + p2)), (0, rV (some a0)), (1, iV p1), (2, iV p2), (3, iV p3), (4, iV p4)] dX6_takeJoinFrom_5 (Nat.le_of_ble_eq_true rfl) rfl ?_
  refine go_iload C dX6_takeJoinFrom_7 0 rfl ?_
  refine go_if_lt C 49 dX6_takeJoinFrom_9 (by decide) hw (fun hw => ?_) (fun hw => ?_)
  · exact go_vret C dX6_takeJoinFrom_49 hw (Nat.le_of_ble_eq_true rfl) (Nat.le_of_ble_eq_true rfl)
  refine go_iload C dX6_takeJoinFrom_12 0 rfl ?_
  refine go_aload_n C dX6_takeJoinFrom_14 1 rfl ?_
  refine go_getA C (cfX6) (k := 5) (Nat.le_of_ble_eq_true rfl) tw1_117 rfl dX6_takeJoinFrom_15 hw (fun a1 hw => ?_)
  refine go_alen C dX6_takeJoinFrom_18 hw (fun v2 hw => ?_)
  refine go_icmp_ge C 49 dX6_takeJoinFrom_19 (by decide) hw (fun hw => ?_) (fun hw => ?_)
  · exact go_vret C dX6_takeJoinFrom_49 hw (Nat.le_of_ble_eq_true rfl) (Nat.le_of_ble_eq_true rfl)
  refine go_iload C dX6_takeJoinFrom_22 0 rfl ?_
  refine go_aload_n C dX6_takeJoinFrom_24 1 rfl ?_
  refine go_getA C (cfX6) (k := 6) (Nat.le_of_ble_eq_true rfl) tw1_118 rfl dX6_takeJoinFrom_25 hw (fun a3 hw => ?_)
  refine go_alen C dX6_takeJoinFrom_28 hw (fun v4 hw => ?_)
  refine go_icmp_ge C 49 dX6_takeJoinFrom_29 (by decide) hw (fun hw => ?_) (fun hw => ?_)
  · exact go_vret C dX6_takeJoinFrom_49 hw (Nat.le_of_ble_eq_true rfl) (Nat.le_of_ble_eq_true rfl)
  refine go_aload_n C dX6_takeJoinFrom_32 1 rfl ?_
  refine go_getA C (cfX6) (k := 5) (Nat.le_of_ble_eq_true rfl) tw1_117 rfl dX6_takeJoinFrom_33 hw (fun a5 hw => ?_)
  refine go_iload C dX6_takeJoinFrom_36 0 rfl ?_
  refine go_iload_n C dX6_takeJoinFrom_38 4 rfl ?_
  refine go_iastore C dX6_takeJoinFrom_39 hw (fun h6 hw => ?_)
  refine go_aload_n C dX6_takeJoinFrom_40 1 rfl ?_
  refine go_getA C (cfX6) (k := 6) (Nat.le_of_ble_eq_true rfl) tw1_118 rfl dX6_takeJoinFrom_41 hw (fun a7 hw => ?_)
  refine go_iload C dX6_takeJoinFrom_44 0 rfl ?_
  refine go_iload C dX6_takeJoinFrom_46 5 rfl ?_
  refine go_iastore C dX6_takeJoinFrom_48 hw (fun h8 hw => ?_)
  exact go_vret C dX6_takeJoinFrom_49 hw (Nat.le_of_ble_eq_true rfl) (Nat.le_of_ble_eq_true rfl)
/-- DuelSchema$Planner.takeJoins(LDuelSchema$Store;LDuelSchema$Query;I)V -/
def w_X6_takeJoins (N : Nat) (a0 : Nat) (p1 : Option Nat) (p2 : Option Nat) (p3 : Int32) (h0 : Hp) (K : Hp → Prop) : Prop :=
  fx2 (fun (w3 : Int32 → Hp → Prop) (x2 : Int32) (h1 : Hp) =>
    br (3 ≤ x2) (
      K h1) (
      nn p2 fun a3 => cv h1 a3 7 <| w_X7_joinAt N a3 x2 h1 fun o4 =>
      fx3 (fun (w23 : Int32 → Int32 → Hp → Prop) (x6 : Int32) (x7 : Int32) (h5 : Hp) =>
        jn (
          gA h5 a0 6 4 fun a8 =>
          w_X11_divided N 1000 x6 h5 fun v9 =>
          sI h5 a8 0 x2 v9 fun h10 =>
          w3 (x2 + 1) h10) (fun j124 =>
        brn o4 (
          j124 ) (fun a11 =>
          br (3 ≤ x7) (
            j124 ) (
            cv h5 a3 7 <| w_X7_tableOf N a3 x7 h5 fun o12 =>
            jn (fun (x14 : Int32) (h13 : Hp) => 
              w23 x14 (x7 + 1) h13) (fun j118 =>
            brn o12 (
              j118 x6 h5) (fun a15 =>
              cv h5 a11 4 <| w_X4_partnerOf N a11 x7 h5 fun v16 =>
              br (v16 = (-1)) (
                j118 x6 h5) (
                cv h5 a11 4 <| w_X4_columnOf N a11 x7 h5 fun v17 =>
                cv h5 a15 10 <| w_X10_takenUnlike N a15 v17 h5 fun v18 =>
                cv h5 a15 10 <| w_X10_takenRows N a15  h5 fun v19 =>
                w_X11_divided N v19 v18 h5 fun v20 =>
                nn p1 fun a21 => cv h5 a21 9 <| w_X9_lowestIndexOn N a21 (some a15) v17 p3 h5 fun v22 =>
                cv h5 a0 6 <| w_X6_takeJoinFrom N a0 x2 x7 (1 + v20) v22 h5 fun h23 =>
                j118 (if x6 < v18 then v18 else x6) h23))))))) N 0 0 h1)) N 0 h0
abbrev rmX6_takeJoins : Room := { frames := 4, cells := 0, slots := 0, locals := 107 }
theorem vX6_takeJoins : VI RX6 yX6_takeJoins cX6_takeJoins 12 none 3 := ⟨tw3_121, tp16, tw1_4, tw3_122, by decide +kernel⟩
set_option maxHeartbeats 4000000 in
theorem m_X6_takeJoins {G : Gp} (l : Launch) (hfl : l.stackTraces = false) (N : Nat) {a0 : Nat} {p1 : Option Nat} {p2 : Option Nat} {p3 : Int32} {h0 : Hp} {K : Hp → Prop} (hw : w_X6_takeJoins N a0 p1 p2 p3 h0 K) : MT G l yX6_takeJoins cX6_takeJoins 12 none rmX6_takeJoins [rV (some a0), rV p1, rV p2, iV p3] h0 (QV G K) := by
  refine go_metT l hfl _ 12 _ _ rfl (by decide +kernel) (Nat.le_of_ble_eq_true rfl) [(0, rV (some a0)), (1, rV p1), (2, rV p2), (3, iV p3)] rfl (fun X hX C hn => ?_)
  subst hX
  unfold w_X6_takeJoins at hw
  refine go_iconst C 0 dX6_takeJoins_0 kc_i0 ?_
  refine go_istore C [(4, iV 0), (0, rV (some a0)), (1, rV p1), (2, rV p2), (3, iV p3)] dX6_takeJoins_1 (Nat.le_of_ble_eq_true rfl) rfl ?_
  refine go_sub [1, 2, 3, 4, 0] rfl ?_
  refine fx2_elim (P := fun x2 h1 => Go G X rmX6_takeJoins 12 0 0 (QN G X (QV G K) rmX6_takeJoins) h1 3 [(0, rV (some a0)), (1, rV p1), (2, rV p2), (3, iV p3), (4, iV x2)] []) (fun w3 hj3 x2 h1 hw => ?_) N _ _ hw
  refine go_iload C dX6_takeJoins_3 4 rfl ?_
  refine go_iconst C 3 dX6_takeJoins_5 kc_i3 ?_
  refine go_icmp_ge C 145 dX6_takeJoins_6 (by decide) hw (fun hw => ?_) (fun hw => ?_)
  · exact go_vret C dX6_takeJoins_145 hw (Nat.le_of_ble_eq_true rfl) (Nat.le_of_ble_eq_true rfl)
  refine go_aload_n C dX6_takeJoins_9 2 rfl ?_
  refine go_iload C dX6_takeJoins_10 4 rfl ?_
  obtain ⟨a3, e9, hw9⟩ := hw
  subst e9
  have hw := hw9
  clear hw9
  refine go_pV_q C [iV x2] vX7_joinAt tw3_123 (ci := 7) rfl (m_X7_joinAt (xl X) C.2.2.2.2.2.2.2.1 N hw.2) ⟨Nat.le_of_ble_eq_true rfl, Nat.le_of_ble_eq_true rfl, Nat.le_of_ble_eq_true rfl, Nat.le_of_ble_eq_true rfl⟩ ⟨rfl, rfl⟩ hw.1 dX6_takeJoins_12 rfl (Nat.le_of_ble_eq_true rfl) rfl (fun o4 hw => ?_)
  refine go_astore C [(5, rV o4), (0, rV (some a0)), (1, rV p1), (2, rV (some a3)), (3, iV p3), (4, iV x2)] dX6_takeJoins_15 (Nat.le_of_ble_eq_true rfl) rfl ?_
  refine go_iconst C 0 dX6_takeJoins_17 kc_i0 ?_
  refine go_istore C [(6, iV 0), (5, rV o4), (0, rV (some a0)), (1, rV p1), (2, rV (some a3)), (3, iV p3), (4, iV x2)] dX6_takeJoins_18 (Nat.le_of_ble_eq_true rfl) rfl ?_
  refine go_iconst C 0 dX6_takeJoins_20 kc_i0 ?_
  refine go_istore C [(7, iV 0), (6, iV 0), (5, rV o4), (0, rV (some a0)), (1, rV p1), (2, rV (some a3)), (3, iV p3), (4, iV x2)] dX6_takeJoins_21 (Nat.le_of_ble_eq_true rfl) rfl ?_
  refine go_sub [3, 4, 5, 6, 7, 2, 1, 0] rfl ?_
  refine fx3_elim (P := fun x6 x7 h5 => Go G X rmX6_takeJoins 12 0 0 (QN G X (QV G K) rmX6_takeJoins) h5 23 [(0, rV (some a0)), (1, rV p1), (2, rV (some a3)), (3, iV p3), (4, iV x2), (5, rV o4), (6, iV x6), (7, iV x7)] []) (fun w23 hj23 x6 x7 h5 hw => ?_) N _ _ _ hw
  refine go_aload C dX6_takeJoins_23 5 rfl ?_
  refine jn_elim (P := fun j => j  → Go G X rmX6_takeJoins 12 0 0 (QN G X (QV G K) rmX6_takeJoins) h5 124 [(0, rV (some a0)), (1, rV p1), (2, rV (some a3)), (3, iV p3), (4, iV x2), (6, iV x6)] []) hw (fun  hw => ?_) (fun j124 hj124 hw => ?_)
  · refine go_aload_n C dX6_takeJoins_124 0 rfl ?_
    refine go_getA C (cfX6) (k := 4) (Nat.le_of_ble_eq_true rfl) tw1_116 rfl dX6_takeJoins_125 hw (fun a8 hw => ?_)
    refine go_iload C dX6_takeJoins_128 4 rfl ?_
    refine go_sipush C 1000 dX6_takeJoins_130 kc_s1000 ?_
    refine go_iload C dX6_takeJoins_133 5 rfl ?_
    refine go_pSN_i C [iV 1000, iV x6] vX11_divided tw3_130 (m_X11_divided (xl X) C.2.2.2.2.2.2.2.1 N hw) ⟨Nat.le_of_ble_eq_true rfl, Nat.le_of_ble_eq_true rfl, Nat.le_of_ble_eq_true rfl, Nat.le_of_ble_eq_true rfl⟩ ⟨rfl, rfl⟩ dX6_takeJoins_135 rfl (Nat.le_of_ble_eq_true rfl) rfl (fun v9 hw => ?_)
    refine go_iastore C dX6_takeJoins_138 hw (fun h10 hw => ?_)
    refine go_iinc C (x2 + 1) [(4, iV (x2 + 1)), (0, rV (some a0)), (1, rV p1), (2, rV (some a3)), (3, iV p3), (6, iV x6)] dX6_takeJoins_139 4 rfl (by rw [kc_i1]) (Nat.le_of_ble_eq_true rfl) rfl ?_
    refine go_goto C 3 dX6_takeJoins_142 (by decide) ?_
    refine go_sub [1, 2, 3, 4, 0] rfl ?_
    exact hj3 (x2 + 1) h10 hw
  refine go_ifnull C 124 dX6_takeJoins_25 (by decide) hw (fun e9 hw9 => ?_) (fun a11 e9 hw9 => ?_)
  · clear hw
    subst e9
    have hw := hw9
    clear hw9
    refine go_sub [0, 1, 2, 3, 4, 6] rfl ?_
    exact hj124  hw
  clear hw
  subst e9
  have hw := hw9
  clear hw9
  refine go_iload C dX6_takeJoins_28 7 rfl ?_
  refine go_iconst C 3 dX6_takeJoins_30 kc_i3 ?_
  refine go_icmp_ge C 124 dX6_takeJoins_31 (by decide) hw (fun hw => ?_) (fun hw => ?_)
  · refine go_sub [0, 1, 2, 3, 4, 6] rfl ?_
    exact hj124  hw
  refine go_aload_n C dX6_takeJoins_34 2 rfl ?_
  refine go_iload C dX6_takeJoins_35 7 rfl ?_
  refine go_pV_q C [iV x7] vX7_tableOf tw3_80 (ci := 7) rfl (m_X7_tableOf (xl X) C.2.2.2.2.2.2.2.1 N hw.2) ⟨Nat.le_of_ble_eq_true rfl, Nat.le_of_ble_eq_true rfl, Nat.le_of_ble_eq_true rfl, Nat.le_of_ble_eq_true rfl⟩ ⟨rfl, rfl⟩ hw.1 dX6_takeJoins_37 rfl (Nat.le_of_ble_eq_true rfl) rfl (fun o12 hw => ?_)
  refine go_astore C [(8, rV o12), (0, rV (some a0)), (1, rV p1), (2, rV (some a3)), (3, iV p3), (4, iV x2), (5, rV (some a11)), (6, iV x6), (7, iV x7)] dX6_takeJoins_40 (Nat.le_of_ble_eq_true rfl) rfl ?_
  refine go_aload C dX6_takeJoins_42 0 rfl ?_
  refine jn_elim (P := fun j => ∀ (x14 : Int32) (h13 : Hp), j x14 h13 → Go G X rmX6_takeJoins 12 0 0 (QN G X (QV G K) rmX6_takeJoins) h13 118 [(0, rV (some a0)), (1, rV p1), (2, rV (some a3)), (3, iV p3), (4, iV x2), (5, rV (some a11)), (6, iV x14), (7, iV x7)] []) hw (fun x14 h13 hw => ?_) (fun j118 hj118 hw => ?_)
  · refine go_iinc C (x7 + 1) [(7, iV (x7 + 1)), (0, rV (some a0)), (1, rV p1), (2, rV (some a3)), (3, iV p3), (4, iV x2), (5, rV (some a11)), (6, iV x14)] dX6_takeJoins_118 7 rfl (by rw [kc_i1]) (Nat.le_of_ble_eq_true rfl) rfl ?_
    refine go_goto C 23 dX6_takeJoins_121 (by decide) ?_
    refine go_sub [1, 2, 3, 4, 5, 6, 7, 0] rfl ?_
    exact hj23 x14 (x7 + 1) h13 hw
  refine go_ifnull C 118 dX6_takeJoins_44 (by decide) hw (fun e9 hw9 => ?_) (fun a15 e9 hw9 => ?_)
  · clear hw
    subst e9
    have hw := hw9
    clear hw9
    refine go_sub [1, 2, 3, 4, 5, 6, 7, 8] rfl ?_
    exact hj118 x6 h5 hw
  clear hw
  subst e9
  have hw := hw9
  clear hw9
  refine go_aload C dX6_takeJoins_47 6 rfl ?_
  refine go_iload C dX6_takeJoins_49 8 rfl ?_
  refine go_pV_i C [iV x7] vX4_partnerOf tw3_124 (ci := 4) rfl (m_X4_partnerOf (xl X) C.2.2.2.2.2.2.2.1 N hw.2) ⟨Nat.le_of_ble_eq_true rfl, Nat.le_of_ble_eq_true rfl, Nat.le_of_ble_eq_true rfl, Nat.le_of_ble_eq_true rfl⟩ ⟨rfl, rfl⟩ hw.1 dX6_takeJoins_51 rfl (Nat.le_of_ble_eq_true rfl) rfl (fun v16 hw => ?_)
  refine go_iconst C (-1) dX6_takeJoins_54 kc_im1 ?_
  refine go_icmp_eq C 118 dX6_takeJoins_55 (by decide) hw (fun hw => ?_) (fun hw => ?_)
  · refine go_sub [1, 2, 3, 4, 5, 6, 7, 8] rfl ?_
    exact hj118 x6 h5 hw
  refine go_aload C dX6_takeJoins_58 6 rfl ?_
  refine go_iload C dX6_takeJoins_60 8 rfl ?_
  refine go_pV_i C [iV x7] vX4_columnOf tw3_125 (ci := 4) rfl (m_X4_columnOf (xl X) C.2.2.2.2.2.2.2.1 N hw.2) ⟨Nat.le_of_ble_eq_true rfl, Nat.le_of_ble_eq_true rfl, Nat.le_of_ble_eq_true rfl, Nat.le_of_ble_eq_true rfl⟩ ⟨rfl, rfl⟩ hw.1 dX6_takeJoins_62 rfl (Nat.le_of_ble_eq_true rfl) rfl (fun v17 hw => ?_)
  refine go_istore C [(9, iV v17), (8, rV (some a15)), (0, rV (some a0)), (1, rV p1), (2, rV (some a3)), (3, iV p3), (4, iV x2), (5, rV (some a11)), (6, iV x6), (7, iV x7)] dX6_takeJoins_65 (Nat.le_of_ble_eq_true rfl) rfl ?_
  refine go_aload C dX6_takeJoins_67 1 rfl ?_
  refine go_iload C dX6_takeJoins_69 0 rfl ?_
  refine go_pV_i C [iV v17] vX10_takenUnlike tw3_126 (ci := 10) rfl (m_X10_takenUnlike (xl X) C.2.2.2.2.2.2.2.1 N hw.2) ⟨Nat.le_of_ble_eq_true rfl, Nat.le_of_ble_eq_true rfl, Nat.le_of_ble_eq_true rfl, Nat.le_of_ble_eq_true rfl⟩ ⟨rfl, rfl⟩ hw.1 dX6_takeJoins_71 rfl (Nat.le_of_ble_eq_true rfl) rfl (fun v18 hw => ?_)
  refine go_istore C [(10, iV v18), (9, iV v17), (8, rV (some a15)), (0, rV (some a0)), (1, rV p1), (2, rV (some a3)), (3, iV p3), (4, iV x2), (5, rV (some a11)), (6, iV x6), (7, iV x7)] dX6_takeJoins_74 (Nat.le_of_ble_eq_true rfl) rfl ?_
  refine go_iconst C 1 dX6_takeJoins_76 kc_i1 ?_
  refine go_aload C dX6_takeJoins_77 2 rfl ?_
  refine go_pV_i C [] vX10_takenRows tw3_103 (ci := 10) rfl (m_X10_takenRows (xl X) C.2.2.2.2.2.2.2.1 N hw.2) ⟨Nat.le_of_ble_eq_true rfl, Nat.le_of_ble_eq_true rfl, Nat.le_of_ble_eq_true rfl, Nat.le_of_ble_eq_true rfl⟩ ⟨rfl, rfl⟩ hw.1 dX6_takeJoins_79 rfl (Nat.le_of_ble_eq_true rfl) rfl (fun v19 hw => ?_)
  refine go_iload C dX6_takeJoins_82 0 rfl ?_
  refine go_pSN_i C [iV v19, iV v18] vX11_divided tw3_130 (m_X11_divided (xl X) C.2.2.2.2.2.2.2.1 N hw) ⟨Nat.le_of_ble_eq_true rfl, Nat.le_of_ble_eq_true rfl, Nat.le_of_ble_eq_true rfl, Nat.le_of_ble_eq_true rfl⟩ ⟨rfl, rfl⟩ dX6_takeJoins_84 rfl (Nat.le_of_ble_eq_true rfl) rfl (fun v20 hw => ?_)
  refine go_iadd C dX6_takeJoins_87 ?_
  refine go_istore C [(11, iV (1 + v20)), (10, iV v18), (9, iV v17), (8, rV (some a15)), (0, rV (some a0)), (1, rV p1), (2, rV (some a3)), (3, iV p3), (4, iV x2), (5, rV (some a11)), (6, iV x6), (7, iV x7)] dX6_takeJoins_88 (Nat.le_of_ble_eq_true rfl) rfl ?_
  refine go_aload_n C dX6_takeJoins_90 4 rfl ?_
  refine go_iload C dX6_takeJoins_91 8 rfl ?_
  refine go_iload C dX6_takeJoins_93 11 rfl ?_
  refine go_iload C dX6_takeJoins_95 0 rfl ?_
  refine go_aload_n C dX6_takeJoins_97 5 rfl ?_
  refine go_aload C dX6_takeJoins_98 3 rfl ?_
  refine go_iload C dX6_takeJoins_100 2 rfl ?_
  refine go_iload_n C dX6_takeJoins_102 7 rfl ?_
  obtain ⟨a21, e9, hw9⟩ := hw
  subst e9
  have hw := hw9
  clear hw9
  refine go_pV_i C [rV (some a15), iV v17, iV p3] vX9_lowestIndexOn tw3_108 (ci := 9) rfl (m_X9_lowestIndexOn (xl X) C.2.2.2.2.2.2.2.1 N hw.2) ⟨Nat.le_of_ble_eq_true rfl, Nat.le_of_ble_eq_true rfl, Nat.le_of_ble_eq_true rfl, Nat.le_of_ble_eq_true rfl⟩ ⟨rfl, rfl⟩ hw.1 dX6_takeJoins_103 rfl (Nat.le_of_ble_eq_true rfl) rfl (fun v22 hw => ?_)
  refine go_c0V_v C [iV x2, iV x7, iV (1 + v20), iV v22] vX6_takeJoinFrom tw3_131 (ci := 6) rfl (m_X6_takeJoinFrom (xl X) C.2.2.2.2.2.2.2.1 N hw.2) ⟨Nat.le_of_ble_eq_true rfl, Nat.le_of_ble_eq_true rfl, Nat.le_of_ble_eq_true rfl, Nat.le_of_ble_eq_true rfl⟩ ⟨rfl, rfl⟩ hw.1 dX6_takeJoins_106 rfl (Nat.le_of_ble_eq_true rfl) rfl (fun h23 hw => ?_)
  refine go_iload C dX6_takeJoins_109 10 rfl ?_
  refine go_iload C dX6_takeJoins_111 1 rfl ?_
  refine go_imax C tw3_135 tw3_99 tw1_19 tw3_100 ⟨Nat.le_of_ble_eq_true rfl, Nat.le_of_ble_eq_true rfl, Nat.le_of_ble_eq_true rfl, Nat.le_of_ble_eq_true rfl⟩ (Nat.le_of_ble_eq_true rfl) dX6_takeJoins_113 ?_
  refine go_istore C [(6, iV (if x6 < v18 then v18 else x6)), (11, iV (1 + v20)), (10, iV v18), (9, iV v17), (8, rV (some a15)), (0, rV (some a0)), (1, rV (some a21)), (2, rV (some a3)), (3, iV p3), (4, iV x2), (5, rV (some a11)), (7, iV x7)] dX6_takeJoins_116 (Nat.le_of_ble_eq_true rfl) rfl ?_
  refine go_sub [5, 6, 7, 8, 9, 10, 0, 11] rfl ?_
  exact hj118 (if x6 < v18 then v18 else x6) h23 hw
/-- DuelSchema$Planner.draw(LDuelSchema$Plan;ILDuelSchema$Store;LDuelSchema$Query;I)V -/
def w_X6_draw (N : Nat) (a0 : Nat) (p1 : Option Nat) (p2 : Int32) (p3 : Option Nat) (p4 : Option Nat) (p5 : Int32) (h0 : Hp) (K : Hp → Prop) : Prop :=
  cv h0 a0 6 <| w_X6_takeConditions N a0 p3 p4 p5 h0 fun h1 =>
  cv h1 a0 6 <| w_X6_takeJoins N a0 p3 p4 p5 h1 fun h2 =>
  br (p2 = 0) (
    cv h2 a0 6 <| w_X6_drawByBook N a0 p1 p4 h2 fun h4 =>
    K h4) (
    cv h2 a0 6 <| w_X6_drawByCounts N a0 p1 p4 h2 fun h3 =>
    K h3)
abbrev rmX6_draw : Room := { frames := 6, cells := 0, slots := 0, locals := 165 }
theorem vX6_draw : VI RX6 yX6_draw cX6_draw 6 none 5 := ⟨tw3_71, tw3_72, tw1_4, tw3_73, by decide +kernel⟩
set_option maxHeartbeats 4000000 in
theorem m_X6_draw {G : Gp} (l : Launch) (hfl : l.stackTraces = false) (N : Nat) {a0 : Nat} {p1 : Option Nat} {p2 : Int32} {p3 : Option Nat} {p4 : Option Nat} {p5 : Int32} {h0 : Hp} {K : Hp → Prop} (hw : w_X6_draw N a0 p1 p2 p3 p4 p5 h0 K) : MT G l yX6_draw cX6_draw 6 none rmX6_draw [rV (some a0), rV p1, iV p2, rV p3, rV p4, iV p5] h0 (QV G K) := by
  refine go_metT l hfl _ 6 _ _ rfl (by decide +kernel) (Nat.le_of_ble_eq_true rfl) [(0, rV (some a0)), (1, rV p1), (2, iV p2), (3, rV p3), (4, rV p4), (5, iV p5)] rfl (fun X hX C hn => ?_)
  subst hX
  unfold w_X6_draw at hw
  refine go_aload_n C dX6_draw_0 0 rfl ?_
  refine go_aload_n C dX6_draw_1 3 rfl ?_
  refine go_aload C dX6_draw_2 4 rfl ?_
  refine go_iload C dX6_draw_4 5 rfl ?_
  refine go_c0V_v C [rV p3, rV p4, iV p5] vX6_takeConditions tw3_74 (ci := 6) rfl (m_X6_takeConditions (xl X) C.2.2.2.2.2.2.2.1 N hw.2) ⟨Nat.le_of_ble_eq_true rfl, Nat.le_of_ble_eq_true rfl, Nat.le_of_ble_eq_true rfl, Nat.le_of_ble_eq_true rfl⟩ ⟨rfl, rfl⟩ hw.1 dX6_draw_6 rfl (Nat.le_of_ble_eq_true rfl) rfl (fun h1 hw => ?_)
  refine go_aload_n C dX6_draw_9 0 rfl ?_
  refine go_aload_n C dX6_draw_10 3 rfl ?_
  refine go_aload C dX6_draw_11 4 rfl ?_
  refine go_iload C dX6_draw_13 5 rfl ?_
  refine go_c0V_v C [rV p3, rV p4, iV p5] vX6_takeJoins tw3_119 (ci := 6) rfl (m_X6_takeJoins (xl X) C.2.2.2.2.2.2.2.1 N hw.2) ⟨Nat.le_of_ble_eq_true rfl, Nat.le_of_ble_eq_true rfl, Nat.le_of_ble_eq_true rfl, Nat.le_of_ble_eq_true rfl⟩ ⟨rfl, rfl⟩ hw.1 dX6_draw_15 rfl (Nat.le_of_ble_eq_true rfl) rfl (fun h2 hw => ?_)
  refine go_iload_n C dX6_draw_18 2 rfl ?_
  refine go_if_ne C 32 dX6_draw_19 (by decide) hw (fun hw => ?_) (fun hw => ?_)
  · refine go_aload_n C dX6_draw_32 0 rfl ?_
    refine go_aload_n C dX6_draw_33 1 rfl ?_
    refine go_aload C dX6_draw_34 4 rfl ?_
    refine go_c0V_v C [rV p1, rV p4] vX6_drawByCounts tw3_193 (ci := 6) rfl (m_X6_drawByCounts (xl X) C.2.2.2.2.2.2.2.1 N hw.2) ⟨Nat.le_of_ble_eq_true rfl, Nat.le_of_ble_eq_true rfl, Nat.le_of_ble_eq_true rfl, Nat.le_of_ble_eq_true rfl⟩ ⟨rfl, rfl⟩ hw.1 dX6_draw_36 rfl (Nat.le_of_ble_eq_true rfl) rfl (fun h3 hw => ?_)
    exact go_vret C dX6_draw_39 hw (Nat.le_of_ble_eq_true rfl) (Nat.le_of_ble_eq_true rfl)
  refine go_aload_n C dX6_draw_22 0 rfl ?_
  refine go_aload_n C dX6_draw_23 1 rfl ?_
  refine go_aload C dX6_draw_24 4 rfl ?_
  refine go_c0V_v C [rV p1, rV p4] vX6_drawByBook tw3_136 (ci := 6) rfl (m_X6_drawByBook (xl X) C.2.2.2.2.2.2.2.1 N hw.2) ⟨Nat.le_of_ble_eq_true rfl, Nat.le_of_ble_eq_true rfl, Nat.le_of_ble_eq_true rfl, Nat.le_of_ble_eq_true rfl⟩ ⟨rfl, rfl⟩ hw.1 dX6_draw_26 rfl (Nat.le_of_ble_eq_true rfl) rfl (fun h4 hw => ?_)
  refine go_goto C 39 dX6_draw_29 (by decide) ?_
  exact go_vret C dX6_draw_39 hw (Nat.le_of_ble_eq_true rfl) (Nat.le_of_ble_eq_true rfl)
