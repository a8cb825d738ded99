/-- DuelSchema$Runner.<init>()V -/
def w_X8_init (N : Nat) (a0 : Nat) (h0 : Hp) (K : Hp → Prop) : Prop :=
  nw h0 5 [iV 0, rV none, rV none, rV none, rV none, rV none, lV 0] fun a1 h2 =>
  w_X5_init N a1  h2 fun h3 =>
  pF h3 a0 8 0 (rV (some a1)) fun h4 =>
  pF h4 a0 8 1 (rV none) fun h5 =>
  pF h5 a0 8 2 (rV none) fun h6 =>
  pF h6 a0 8 3 (rV none) fun h7 =>
  pF h7 a0 8 4 (rV none) fun h8 =>
  nA h8 (.inl (0, 3, .inl (fun _ => 0))) fun a9 h10 =>
  pF h10 a0 8 5 (rV (some a9)) fun h11 =>
  nA h11 (.inl (0, 9, .inl (fun _ => 0))) fun a12 h13 =>
  pF h13 a0 8 6 (rV (some a12)) fun h14 =>
  pF h14 a0 8 7 (iV 0) fun h15 =>
  pF h15 a0 8 8 (iV 0) fun h16 =>
  pF h16 a0 8 9 (iV 0) fun h17 =>
  pF h17 a0 8 10 (lV 0) fun h18 =>
  pF h18 a0 8 11 (iV (-1)) fun h19 =>
  pF h19 a0 8 12 (iV 0) fun h20 =>
  pF h20 a0 8 13 (iV 0) fun h21 =>
  pF h21 a0 8 14 (iV (-1)) fun h22 =>
  pF h22 a0 8 15 (lV 0) fun h23 =>
  K h23
abbrev rmX8_init : Room := { frames := 3, cells := 8, slots := 34, locals := 80 }
theorem vX8_init : II yX8_init cX8_init 1 0 := ⟨tw1_137, tw1_6, tw1_138, rfl, by decide +kernel⟩
set_option maxHeartbeats 4000000 in
theorem m_X8_init {G : Gp} (l : Launch) (hfl : l.stackTraces = false) (N : Nat) {a0 : Nat} {h0 : Hp} {K : Hp → Prop} (hw : w_X8_init N a0 h0 K) : MT G l yX8_init cX8_init 1 none rmX8_init [rV (some a0)] h0 (QV G K) := by
  refine go_metT l hfl _ 1 _ _ rfl (by decide +kernel) (Nat.le_of_ble_eq_true rfl) [(0, rV (some a0))] rfl (fun X hX C hn => ?_)
  subst hX
  unfold w_X8_init at hw
  refine go_aload_n C dX8_init_0 0 rfl ?_
  refine go_objinit C tw1_139 tw1_33 tw1_34 dX8_init_1 ⟨Nat.le_of_ble_eq_true rfl, Nat.le_of_ble_eq_true rfl⟩ (Nat.le_of_ble_eq_true rfl) ?_
  refine go_aload_n C dX8_init_4 0 rfl ?_
  refine go_new C cfX5 tw1_140 tw1_84 tw1_5 [iV 0, rV none, rV none, rV none, rV none, rV none, lV 0] dfX5 ⟨Nat.le_of_ble_eq_true rfl, Nat.le_of_ble_eq_true rfl⟩ dX8_init_5 hw (fun a1 h2 hw => ?_)
  refine go_dup C _ dX8_init_8 rfl ?_
  refine go_callIN_v C [] vX5_init tw1_141 (m_X5_init (xl X) C.2.2.2.2.2.2.2.1 N hw) ⟨Nat.le_of_ble_eq_true rfl, Nat.le_of_ble_eq_true rfl, Nat.le_of_ble_eq_true rfl, Nat.le_of_ble_eq_true rfl⟩ dX8_init_9 rfl (Nat.le_of_ble_eq_true rfl) rfl (fun h3 hw => ?_)
  refine go_putR C (cfX8) (k := 0) (Nat.le_of_ble_eq_true rfl) tw1_142 rfl (Or.inr ⟨rfl, hn, rfl⟩) rfl dX8_init_12 hw (fun h4 hw => ?_)
  refine go_aload_n C dX8_init_15 0 rfl ?_
  refine go_null C dX8_init_16 ?_
  refine go_putR C (cfX8) (k := 1) (Nat.le_of_ble_eq_true rfl) tw1_143 rfl (Or.inl rfl) rfl dX8_init_17 hw (fun h5 hw => ?_)
  refine go_aload_n C dX8_init_20 0 rfl ?_
  refine go_null C dX8_init_21 ?_
  refine go_putR C (cfX8) (k := 2) (Nat.le_of_ble_eq_true rfl) tw1_144 rfl (Or.inl rfl) rfl dX8_init_22 hw (fun h6 hw => ?_)
  refine go_aload_n C dX8_init_25 0 rfl ?_
  refine go_null C dX8_init_26 ?_
  refine go_putR C (cfX8) (k := 3) (Nat.le_of_ble_eq_true rfl) tw1_145 rfl (Or.inl rfl) rfl dX8_init_27 hw (fun h7 hw => ?_)
  refine go_aload_n C dX8_init_30 0 rfl ?_
  refine go_null C dX8_init_31 ?_
  refine go_putR C (cfX8) (k := 4) (Nat.le_of_ble_eq_true rfl) tw1_146 rfl (Or.inl rfl) rfl dX8_init_32 hw (fun h8 hw => ?_)
  refine go_aload_n C dX8_init_35 0 rfl ?_
  refine go_iconst C 3 dX8_init_36 kc_i3 ?_
  refine go_newarr0 C 3 (by decide) (by decide) (Nat.le_of_ble_eq_true rfl) tw1_76 ⟨Nat.le_of_ble_eq_true rfl, Nat.le_of_ble_eq_true rfl⟩ dX8_init_37 hw (fun a9 h10 hw => ?_)
  refine go_putRA C (cfX8) (k := 5) (Nat.le_of_ble_eq_true rfl) tw1_147 rfl (Or.inr ⟨rfl, hn, rfl⟩) rfl dX8_init_39 hw (fun h11 hw => ?_)
  refine go_aload_n C dX8_init_42 0 rfl ?_
  refine go_bipush C 9 dX8_init_43 kc_b9 ?_
  refine go_newarr0 C 9 (by decide) (by decide) (Nat.le_of_ble_eq_true rfl) tw1_76 ⟨Nat.le_of_ble_eq_true rfl, Nat.le_of_ble_eq_true rfl⟩ dX8_init_45 hw (fun a12 h13 hw => ?_)
  refine go_putRA C (cfX8) (k := 6) (Nat.le_of_ble_eq_true rfl) tw1_148 rfl (Or.inr ⟨rfl, hn, rfl⟩) rfl dX8_init_47 hw (fun h14 hw => ?_)
  refine go_aload_n C dX8_init_50 0 rfl ?_
  refine go_iconst C 0 dX8_init_51 kc_i0 ?_
  refine go_putI C (cfX8) (k := 7) (Nat.le_of_ble_eq_true rfl) tw1_149 rfl (Or.inl rfl) rfl dX8_init_52 hw (fun h15 hw => ?_)
  refine go_aload_n C dX8_init_55 0 rfl ?_
  refine go_iconst C 0 dX8_init_56 kc_i0 ?_
  refine go_putI C (cfX8) (k := 8) (Nat.le_of_ble_eq_true rfl) tw1_150 rfl (Or.inl rfl) rfl dX8_init_57 hw (fun h16 hw => ?_)
  refine go_aload_n C dX8_init_60 0 rfl ?_
  refine go_iconst C 0 dX8_init_61 kc_i0 ?_
  refine go_putI C (cfX8) (k := 9) (Nat.le_of_ble_eq_true rfl) tw1_151 rfl (Or.inl rfl) rfl dX8_init_62 hw (fun h17 hw => ?_)
  refine go_aload_n C dX8_init_65 0 rfl ?_
  refine go_lconst C 0 dX8_init_66 rfl ?_
  refine go_putL C (cfX8) (k := 10) (Nat.le_of_ble_eq_true rfl) tw1_152 rfl (Or.inl rfl) rfl dX8_init_67 hw (fun h18 hw => ?_)
  refine go_aload_n C dX8_init_70 0 rfl ?_
  refine go_iconst C (-1) dX8_init_71 kc_im1 ?_
  refine go_putI C (cfX8) (k := 11) (Nat.le_of_ble_eq_true rfl) tw1_153 rfl (Or.inl rfl) rfl dX8_init_72 hw (fun h19 hw => ?_)
  refine go_aload_n C dX8_init_75 0 rfl ?_
  refine go_iconst C 0 dX8_init_76 kc_i0 ?_
  refine go_putI C (cfX8) (k := 12) (Nat.le_of_ble_eq_true rfl) tw1_154 rfl (Or.inl rfl) rfl dX8_init_77 hw (fun h20 hw => ?_)
  refine go_aload_n C dX8_init_80 0 rfl ?_
  refine go_iconst C 0 dX8_init_81 kc_i0 ?_
  refine go_putI C (cfX8) (k := 13) (Nat.le_of_ble_eq_true rfl) tw1_155 rfl (Or.inl rfl) rfl dX8_init_82 hw (fun h21 hw => ?_)
  refine go_aload_n C dX8_init_85 0 rfl ?_
  refine go_iconst C (-1) dX8_init_86 kc_im1 ?_
  refine go_putI C (cfX8) (k := 14) (Nat.le_of_ble_eq_true rfl) tw1_156 rfl (Or.inl rfl) rfl dX8_init_87 hw (fun h22 hw => ?_)
  refine go_aload_n C dX8_init_90 0 rfl ?_
  refine go_lconst C 0 dX8_init_91 rfl ?_
  refine go_putL C (cfX8) (k := 15) (Nat.le_of_ble_eq_true rfl) tw1_157 rfl (Or.inl rfl) rfl dX8_init_92 hw (fun h23 hw => ?_)
  exact go_vret C dX8_init_95 hw (Nat.le_of_ble_eq_true rfl) (Nat.le_of_ble_eq_true rfl)
/-- DuelSchema$Runner.readCount()I -/
def w_X8_readCount (N : Nat) (a0 : Nat) (h0 : Hp) (K : Int32 → Prop) : Prop :=
  gI h0 a0 8 7 fun v1 =>
  K v1
abbrev rmX8_readCount : Room := { frames := 2, cells := 0, slots := 0, locals := 60 }
theorem vX8_readCount : VI RX8 yX8_readCount cX8_readCount 1 (some .int) 0 := ⟨tw3_237, tw3_238, tw1_6, tw3_239, by decide +kernel⟩
set_option maxHeartbeats 4000000 in
theorem m_X8_readCount {G : Gp} (l : Launch) (hfl : l.stackTraces = false) (N : Nat) {a0 : Nat} {h0 : Hp} {K : Int32 → Prop} (hw : w_X8_readCount N a0 h0 K) : MT G l yX8_readCount cX8_readCount 1 (some .int) rmX8_readCount [rV (some a0)] h0 (QI G (fun r h1 => h1 = h0 ∧ K r)) := by
  refine go_metT l hfl _ 1 _ _ rfl (by decide +kernel) (Nat.le_of_ble_eq_true rfl) [(0, rV (some a0))] rfl (fun X hX C hn => ?_)
  subst hX
  unfold w_X8_readCount at hw
  refine go_aload_n C dX8_readCount_0 0 rfl ?_
  refine go_getI C (cfX8) (k := 7) (Nat.le_of_ble_eq_true rfl) tw1_149 rfl dX8_readCount_1 hw (fun v1 hw => ?_)
  exact go_iret C dX8_readCount_4 ⟨rfl, hw⟩ (Nat.le_of_ble_eq_true rfl) (Nat.le_of_ble_eq_true rfl)
/-- DuelSchema$Runner.missCount()I -/
def w_X8_missCount (N : Nat) (a0 : Nat) (h0 : Hp) (K : Int32 → Prop) : Prop :=
  gI h0 a0 8 8 fun v1 =>
  K v1
abbrev rmX8_missCount : Room := { frames := 2, cells := 0, slots := 0, locals := 60 }
theorem vX8_missCount : VI RX8 yX8_missCount cX8_missCount 1 (some .int) 0 := ⟨tw3_233, tw3_234, tw1_6, tw3_235, by decide +kernel⟩
set_option maxHeartbeats 4000000 in
theorem m_X8_missCount {G : Gp} (l : Launch) (hfl : l.stackTraces = false) (N : Nat) {a0 : Nat} {h0 : Hp} {K : Int32 → Prop} (hw : w_X8_missCount N a0 h0 K) : MT G l yX8_missCount cX8_missCount 1 (some .int) rmX8_missCount [rV (some a0)] h0 (QI G (fun r h1 => h1 = h0 ∧ K r)) := by
  refine go_metT l hfl _ 1 _ _ rfl (by decide +kernel) (Nat.le_of_ble_eq_true rfl) [(0, rV (some a0))] rfl (fun X hX C hn => ?_)
  subst hX
  unfold w_X8_missCount at hw
  refine go_aload_n C dX8_missCount_0 0 rfl ?_
  refine go_getI C (cfX8) (k := 8) (Nat.le_of_ble_eq_true rfl) tw1_150 rfl dX8_missCount_1 hw (fun v1 hw => ?_)
  exact go_iret C dX8_missCount_4 ⟨rfl, hw⟩ (Nat.le_of_ble_eq_true rfl) (Nat.le_of_ble_eq_true rfl)
/-- DuelSchema$Runner.foundCount()I -/
def w_X8_foundCount (N : Nat) (a0 : Nat) (h0 : Hp) (K : Int32 → Prop) : Prop :=
  gI h0 a0 8 9 fun v1 =>
  K v1
abbrev rmX8_foundCount : Room := { frames := 2, cells := 0, slots := 0, locals := 60 }
theorem vX8_foundCount : VI RX8 yX8_foundCount cX8_foundCount 1 (some .int) 0 := ⟨tw3_59, tw3_60, tw1_6, tw3_61, by decide +kernel⟩
set_option maxHeartbeats 4000000 in
theorem m_X8_foundCount {G : Gp} (l : Launch) (hfl : l.stackTraces = false) (N : Nat) {a0 : Nat} {h0 : Hp} {K : Int32 → Prop} (hw : w_X8_foundCount N a0 h0 K) : MT G l yX8_foundCount cX8_foundCount 1 (some .int) rmX8_foundCount [rV (some a0)] h0 (QI G (fun r h1 => h1 = h0 ∧ K r)) := by
  refine go_metT l hfl _ 1 _ _ rfl (by decide +kernel) (Nat.le_of_ble_eq_true rfl) [(0, rV (some a0))] rfl (fun X hX C hn => ?_)
  subst hX
  unfold w_X8_foundCount at hw
  refine go_aload_n C dX8_foundCount_0 0 rfl ?_
  refine go_getI C (cfX8) (k := 9) (Nat.le_of_ble_eq_true rfl) tw1_151 rfl dX8_foundCount_1 hw (fun v1 hw => ?_)
  exact go_iret C dX8_foundCount_4 ⟨rfl, hw⟩ (Nat.le_of_ble_eq_true rfl) (Nat.le_of_ble_eq_true rfl)
/-- DuelSchema$Runner.foundMark()J -/
def w_X8_foundMark (N : Nat) (a0 : Nat) (h0 : Hp) (K : Int64 → Prop) : Prop :=
  gL h0 a0 8 10 fun v1 =>
  K v1
abbrev rmX8_foundMark : Room := { frames := 2, cells := 0, slots := 0, locals := 60 }
theorem vX8_foundMark : VI RX8 yX8_foundMark cX8_foundMark 1 (some .long) 0 := ⟨tw3_63, tw3_64, tw1_6, tw3_65, by decide +kernel⟩
set_option maxHeartbeats 4000000 in
theorem m_X8_foundMark {G : Gp} (l : Launch) (hfl : l.stackTraces = false) (N : Nat) {a0 : Nat} {h0 : Hp} {K : Int64 → Prop} (hw : w_X8_foundMark N a0 h0 K) : MT G l yX8_foundMark cX8_foundMark 1 (some .long) rmX8_foundMark [rV (some a0)] h0 (QL G (fun r h1 => h1 = h0 ∧ K r)) := by
  refine go_metT l hfl _ 1 _ _ rfl (by decide +kernel) (Nat.le_of_ble_eq_true rfl) [(0, rV (some a0))] rfl (fun X hX C hn => ?_)
  subst hX
  unfold w_X8_foundMark at hw
  refine go_aload_n C dX8_foundMark_0 0 rfl ?_
  refine go_getL C (cfX8) (k := 10) (Nat.le_of_ble_eq_true rfl) tw1_152 rfl dX8_foundMark_1 hw (fun v1 hw => ?_)
  exact go_lret C dX8_foundMark_4 ⟨rfl, hw⟩ (Nat.le_of_ble_eq_true rfl) (Nat.le_of_ble_eq_true rfl)
/-- DuelSchema$Runner.wantedRow()I -/
def w_X8_wantedRow (N : Nat) (a0 : Nat) (h0 : Hp) (K : Int32 → Prop) : Prop :=
  gI h0 a0 8 14 fun v1 =>
  K v1
abbrev rmX8_wantedRow : Room := { frames := 2, cells := 0, slots := 0, locals := 60 }
theorem vX8_wantedRow : VI RX8 yX8_wantedRow cX8_wantedRow 1 (some .int) 0 := ⟨tw6_114, tw6_115, tw1_6, tw6_116, by decide +kernel⟩
set_option maxHeartbeats 4000000 in
theorem m_X8_wantedRow {G : Gp} (l : Launch) (hfl : l.stackTraces = false) (N : Nat) {a0 : Nat} {h0 : Hp} {K : Int32 → Prop} (hw : w_X8_wantedRow N a0 h0 K) : MT G l yX8_wantedRow cX8_wantedRow 1 (some .int) rmX8_wantedRow [rV (some a0)] h0 (QI G (fun r h1 => h1 = h0 ∧ K r)) := by
  refine go_metT l hfl _ 1 _ _ rfl (by decide +kernel) (Nat.le_of_ble_eq_true rfl) [(0, rV (some a0))] rfl (fun X hX C hn => ?_)
  subst hX
  unfold w_X8_wantedRow at hw
  refine go_aload_n C dX8_wantedRow_0 0 rfl ?_
  refine go_getI C (cfX8) (k := 14) (Nat.le_of_ble_eq_true rfl) tw1_156 rfl dX8_wantedRow_1 hw (fun v1 hw => ?_)
  exact go_iret C dX8_wantedRow_4 ⟨rfl, hw⟩ (Nat.le_of_ble_eq_true rfl) (Nat.le_of_ble_eq_true rfl)
/-- DuelSchema$Runner.columnSum()J -/
def w_X8_columnSum (N : Nat) (a0 : Nat) (h0 : Hp) (K : Int64 → Prop) : Prop :=
  gL h0 a0 8 15 fun v1 =>
  K v1
abbrev rmX8_columnSum : Room := { frames := 2, cells := 0, slots := 0, locals := 60 }
theorem vX8_columnSum : VI RX8 yX8_columnSum cX8_columnSum 1 (some .long) 0 := ⟨tw6_127, tw6_128, tw1_6, tw6_129, by decide +kernel⟩
set_option maxHeartbeats 4000000 in
theorem m_X8_columnSum {G : Gp} (l : Launch) (hfl : l.stackTraces = false) (N : Nat) {a0 : Nat} {h0 : Hp} {K : Int64 → Prop} (hw : w_X8_columnSum N a0 h0 K) : MT G l yX8_columnSum cX8_columnSum 1 (some .long) rmX8_columnSum [rV (some a0)] h0 (QL G (fun r h1 => h1 = h0 ∧ K r)) := by
  refine go_metT l hfl _ 1 _ _ rfl (by decide +kernel) (Nat.le_of_ble_eq_true rfl) [(0, rV (some a0))] rfl (fun X hX C hn => ?_)
  subst hX
  unfold w_X8_columnSum at hw
  refine go_aload_n C dX8_columnSum_0 0 rfl ?_
  refine go_getL C (cfX8) (k := 15) (Nat.le_of_ble_eq_true rfl) tw1_157 rfl dX8_columnSum_1 hw (fun v1 hw => ?_)
  exact go_lret C dX8_columnSum_4 ⟨rfl, hw⟩ (Nat.le_of_ble_eq_true rfl) (Nat.le_of_ble_eq_true rfl)
/-- DuelSchema$Runner.begin(LDuelSchema$Query;LDuelSchema$Plan;)V -/
def w_X8_begin (N : Nat) (a0 : Nat) (p1 : Option Nat) (p2 : Option Nat) (h0 : Hp) (K : Hp → Prop) : Prop :=
  pF h0 a0 8 1 (rV none) fun h1 =>
  pF h1 a0 8 2 (rV p1) fun h2 =>
  pF h2 a0 8 3 (rV p2) fun h3 =>
  pF h3 a0 8 4 (rV none) fun h4 =>
  pF h4 a0 8 7 (iV 0) fun h5 =>
  pF h5 a0 8 8 (iV 0) fun h6 =>
  pF h6 a0 8 9 (iV 0) fun h7 =>
  pF h7 a0 8 10 (lV 0) fun h8 =>
  pF h8 a0 8 11 (iV (-1)) fun h9 =>
  pF h9 a0 8 12 (iV 0) fun h10 =>
  pF h10 a0 8 13 (iV 0) fun h11 =>
  pF h11 a0 8 14 (iV (-1)) fun h12 =>
  pF h12 a0 8 15 (lV 0) fun h13 =>
  fx2 (fun (w67 : Int32 → Hp → Prop) (x15 : Int32) (h14 : Hp) =>
    gA h14 a0 8 5 fun a16 =>
    aN h14 a16 fun v17 =>
    br (v17 ≤ x15) (
      K h14) (
      gA h14 a0 8 5 fun a18 =>
      sI h14 a18 0 x15 0 fun h19 =>
      w67 (x15 + 1) h19)) N 0 h13
abbrev rmX8_begin : Room := { frames := 2, cells := 0, slots := 0, locals := 60 }
theorem vX8_begin : VI RX8 yX8_begin cX8_begin 4 none 2 := ⟨tw2_132, tp2, tw1_6, tw2_133, by decide +kernel⟩
set_option maxHeartbeats 4000000 in
theorem m_X8_begin {G : Gp} (l : Launch) (hfl : l.stackTraces = false) (N : Nat) {a0 : Nat} {p1 : Option Nat} {p2 : Option Nat} {h0 : Hp} {K : Hp → Prop} (hw : w_X8_begin N a0 p1 p2 h0 K) : MT G l yX8_begin cX8_begin 4 none rmX8_begin [rV (some a0), rV p1, rV p2] h0 (QV G K) := by
  refine go_metT l hfl _ 4 _ _ rfl (by decide +kernel) (Nat.le_of_ble_eq_true rfl) [(0, rV (some a0)), (1, rV p1), (2, rV p2)] rfl (fun X hX C hn => ?_)
  subst hX
  unfold w_X8_begin at hw
  refine go_aload_n C dX8_begin_0 0 rfl ?_
  refine go_null C dX8_begin_1 ?_
  refine go_putR C (cfX8) (k := 1) (Nat.le_of_ble_eq_true rfl) tw1_143 rfl (Or.inl rfl) rfl dX8_begin_2 hw (fun h1 hw => ?_)
  refine go_aload_n C dX8_begin_5 0 rfl ?_
  refine go_aload_n C dX8_begin_6 1 rfl ?_
  refine go_putR C (cfX8) (k := 2) (Nat.le_of_ble_eq_true rfl) tw1_144 rfl (Or.inl rfl) rfl dX8_begin_7 hw (fun h2 hw => ?_)
  refine go_aload_n C dX8_begin_10 0 rfl ?_
  refine go_aload_n C dX8_begin_11 2 rfl ?_
  refine go_putR C (cfX8) (k := 3) (Nat.le_of_ble_eq_true rfl) tw1_145 rfl (Or.inl rfl) rfl dX8_begin_12 hw (fun h3 hw => ?_)
  refine go_aload_n C dX8_begin_15 0 rfl ?_
  refine go_null C dX8_begin_16 ?_
  refine go_putR C (cfX8) (k := 4) (Nat.le_of_ble_eq_true rfl) tw1_146 rfl (Or.inl rfl) rfl dX8_begin_17 hw (fun h4 hw => ?_)
  refine go_aload_n C dX8_begin_20 0 rfl ?_
  refine go_iconst C 0 dX8_begin_21 kc_i0 ?_
  refine go_putI C (cfX8) (k := 7) (Nat.le_of_ble_eq_true rfl) tw1_149 rfl (Or.inl rfl) rfl dX8_begin_22 hw (fun h5 hw => ?_)
  refine go_aload_n C dX8_begin_25 0 rfl ?_
  refine go_iconst C 0 dX8_begin_26 kc_i0 ?_
  refine go_putI C (cfX8) (k := 8) (Nat.le_of_ble_eq_true rfl) tw1_150 rfl (Or.inl rfl) rfl dX8_begin_27 hw (fun h6 hw => ?_)
  refine go_aload_n C dX8_begin_30 0 rfl ?_
  refine go_iconst C 0 dX8_begin_31 kc_i0 ?_
  refine go_putI C (cfX8) (k := 9) (Nat.le_of_ble_eq_true rfl) tw1_151 rfl (Or.inl rfl) rfl dX8_begin_32 hw (fun h7 hw => ?_)
  refine go_aload_n C dX8_begin_35 0 rfl ?_
  refine go_lconst C 0 dX8_begin_36 rfl ?_
  refine go_putL C (cfX8) (k := 10) (Nat.le_of_ble_eq_true rfl) tw1_152 rfl (Or.inl rfl) rfl dX8_begin_37 hw (fun h8 hw => ?_)
  refine go_aload_n C dX8_begin_40 0 rfl ?_
  refine go_iconst C (-1) dX8_begin_41 kc_im1 ?_
  refine go_putI C (cfX8) (k := 11) (Nat.le_of_ble_eq_true rfl) tw1_153 rfl (Or.inl rfl) rfl dX8_begin_42 hw (fun h9 hw => ?_)
  refine go_aload_n C dX8_begin_45 0 rfl ?_
  refine go_iconst C 0 dX8_begin_46 kc_i0 ?_
  refine go_putI C (cfX8) (k := 12) (Nat.le_of_ble_eq_true rfl) tw1_154 rfl (Or.inl rfl) rfl dX8_begin_47 hw (fun h10 hw => ?_)
  refine go_aload_n C dX8_begin_50 0 rfl ?_
  refine go_iconst C 0 dX8_begin_51 kc_i0 ?_
  refine go_putI C (cfX8) (k := 13) (Nat.le_of_ble_eq_true rfl) tw1_155 rfl (Or.inl rfl) rfl dX8_begin_52 hw (fun h11 hw => ?_)
  refine go_aload_n C dX8_begin_55 0 rfl ?_
  refine go_iconst C (-1) dX8_begin_56 kc_im1 ?_
  refine go_putI C (cfX8) (k := 14) (Nat.le_of_ble_eq_true rfl) tw1_156 rfl (Or.inl rfl) rfl dX8_begin_57 hw (fun h12 hw => ?_)
  refine go_aload_n C dX8_begin_60 0 rfl ?_
  refine go_lconst C 0 dX8_begin_61 rfl ?_
  refine go_putL C (cfX8) (k := 15) (Nat.le_of_ble_eq_true rfl) tw1_157 rfl (Or.inl rfl) rfl dX8_begin_62 hw (fun h13 hw => ?_)
  refine go_iconst C 0 dX8_begin_65 kc_i0 ?_
  refine go_istore_n C [(3, iV 0), (0, rV (some a0)), (1, rV p1), (2, rV p2)] dX8_begin_66 (Nat.le_of_ble_eq_true rfl) rfl ?_
  refine go_sub [1, 0] rfl ?_
  refine fx2_elim (P := fun x15 h14 => Go G X rmX8_begin 4 0 0 (QN G X (QV G K) rmX8_begin) h14 67 [(0, rV (some a0)), (3, iV x15)] []) (fun w67 hj67 x15 h14 hw => ?_) N _ _ hw
  refine go_iload_n C dX8_begin_67 1 rfl ?_
  refine go_aload_n C dX8_begin_68 0 rfl ?_
  refine go_getA C (cfX8) (k := 5) (Nat.le_of_ble_eq_true rfl) tw1_147 rfl dX8_begin_69 hw (fun a16 hw => ?_)
  refine go_alen C dX8_begin_72 hw (fun v17 hw => ?_)
  refine go_icmp_ge C 89 dX8_begin_73 (by decide) hw (fun hw => ?_) (fun hw => ?_)
  · exact go_vret C dX8_begin_89 hw (Nat.le_of_ble_eq_true rfl) (Nat.le_of_ble_eq_true rfl)
  refine go_aload_n C dX8_begin_76 0 rfl ?_
  refine go_getA C (cfX8) (k := 5) (Nat.le_of_ble_eq_true rfl) tw1_147 rfl dX8_begin_77 hw (fun a18 hw => ?_)
  refine go_iload_n C dX8_begin_80 1 rfl ?_
  refine go_iconst C 0 dX8_begin_81 kc_i0 ?_
  refine go_iastore C dX8_begin_82 hw (fun h19 hw => ?_)
  refine go_iinc C (x15 + 1) [(3, iV (x15 + 1)), (0, rV (some a0))] dX8_begin_83 1 rfl (by rw [kc_i1]) (Nat.le_of_ble_eq_true rfl) rfl ?_
  refine go_goto C 67 dX8_begin_86 (by decide) ?_
  refine go_sub [1, 0] rfl ?_
  exact hj67 (x15 + 1) h19 hw
/-- DuelSchema$Runner.conditionOf(I)LDuelSchema$Condition; -/
def w_X8_conditionOf (N : Nat) (a0 : Nat) (p1 : Int32) (h0 : Hp) (K : Option Nat → Prop) : Prop :=
  gR h0 a0 8 3 fun o1 =>
  jn (fun (v2 : Int32) => 
    br (v2 = 0) (
      K none) (
      gR h0 a0 8 2 fun o3 =>
      gR h0 a0 8 3 fun o4 =>
      nn o4 fun a5 => cv h0 a5 5 <| w_X5_reasonAt N a5 p1 h0 fun v6 =>
      nn o3 fun a7 => cv h0 a7 7 <| w_X7_conditionAt N a7 v6 h0 fun o8 =>
      K o8)) (fun j32 =>
  jn (
    j32 0) (fun j31 =>
  brn o1 (
    j31 ) (fun a9 =>
    gR h0 a0 8 2 fun o10 =>
    brn o10 (
      j31 ) (fun a11 =>
      gR h0 a0 8 3 fun o12 =>
      nn o12 fun a13 => cv h0 a13 5 <| w_X5_wayAt N a13 p1 h0 fun v14 =>
      br (v14 = 99) (
        j32 1) (
        j31 )))))
abbrev rmX8_conditionOf : Room := { frames := 3, cells := 0, slots := 0, locals := 81 }
theorem vX8_conditionOf : VI RX8 yX8_conditionOf cX8_conditionOf 3 (some (.object "DuelSchema$Condition")) 1 := ⟨tw3_23, tp12, tw1_6, tw3_24, by decide +kernel⟩
set_option maxHeartbeats 4000000 in
theorem m_X8_conditionOf {G : Gp} (l : Launch) (hfl : l.stackTraces = false) (N : Nat) {a0 : Nat} {p1 : Int32} {h0 : Hp} {K : Option Nat → Prop} (hw : w_X8_conditionOf N a0 p1 h0 K) : MT G l yX8_conditionOf cX8_conditionOf 3 (some (.object "DuelSchema$Condition")) rmX8_conditionOf [rV (some a0), iV p1] h0 (QR G (fun r h1 => h1 = h0 ∧ K r)) := by
  refine go_metT l hfl _ 3 _ _ rfl (by decide +kernel) (Nat.le_of_ble_eq_true rfl) [(0, rV (some a0)), (1, iV p1)] rfl (fun X hX C hn => ?_)
  subst hX
  unfold w_X8_conditionOf at hw
  refine go_aload_n C dX8_conditionOf_0 0 rfl ?_
  refine go_getR C (cfX8) (k := 3) (Nat.le_of_ble_eq_true rfl) tw1_145 rfl dX8_conditionOf_1 hw (fun o1 hw => ?_)
  refine jn_elim (P := fun j => ∀ (v2 : Int32), j v2 → Go G X rmX8_conditionOf 3 0 0 (QN G X (QR G (fun r h1 => h1 = h0 ∧ K r)) rmX8_conditionOf) h0 32 [(0, rV (some a0)), (1, iV p1)] [iV v2]) hw (fun v2 hw => ?_) (fun j32 hj32 hw => ?_)
  · refine go_istore_n C [(2, iV v2), (0, rV (some a0)), (1, iV p1)] dX8_conditionOf_32 (Nat.le_of_ble_eq_true rfl) rfl ?_
    refine go_iload_n C dX8_conditionOf_33 0 rfl ?_
    refine go_if_eq C 55 dX8_conditionOf_34 (by decide) hw (fun hw => ?_) (fun hw => ?_)
    · refine go_null C dX8_conditionOf_55 ?_
      exact go_aret C dX8_conditionOf_56 ⟨rfl, hw⟩ (Nat.le_of_ble_eq_true rfl) (Nat.le_of_ble_eq_true rfl)
    refine go_aload_n C dX8_conditionOf_37 1 rfl ?_
    refine go_getR C (cfX8) (k := 2) (Nat.le_of_ble_eq_true rfl) tw1_144 rfl dX8_conditionOf_38 hw (fun o3 hw => ?_)
    refine go_aload_n C dX8_conditionOf_41 1 rfl ?_
    refine go_getR C (cfX8) (k := 3) (Nat.le_of_ble_eq_true rfl) tw1_145 rfl dX8_conditionOf_42 hw (fun o4 hw => ?_)
    refine go_iload_n C dX8_conditionOf_45 2 rfl ?_
    obtain ⟨a5, e9, hw9⟩ := hw
    subst e9
    have hw := hw9
    clear hw9
    refine go_pV_i C [iV p1] vX5_reasonAt tw3_25 (ci := 5) rfl (m_X5_reasonAt (xl X) C.2.2.2.2.2.2.2.1 N hw.2) ⟨Nat.le_of_ble_eq_true rfl, Nat.le_of_ble_eq_true rfl, Nat.le_of_ble_eq_true rfl, Nat.le_of_ble_eq_true rfl⟩ ⟨rfl, rfl⟩ hw.1 dX8_conditionOf_46 rfl (Nat.le_of_ble_eq_true rfl) rfl (fun v6 hw => ?_)
    obtain ⟨a7, e9, hw9⟩ := hw
    subst e9
    have hw := hw9
    clear hw9
    refine go_pV_q C [iV v6] vX7_conditionAt tw2_202 (ci := 7) rfl (m_X7_conditionAt (xl X) C.2.2.2.2.2.2.2.1 N hw.2) ⟨Nat.le_of_ble_eq_true rfl, Nat.le_of_ble_eq_true rfl, Nat.le_of_ble_eq_true rfl, Nat.le_of_ble_eq_true rfl⟩ ⟨rfl, rfl⟩ hw.1 dX8_conditionOf_49 rfl (Nat.le_of_ble_eq_true rfl) rfl (fun o8 hw => ?_)
    refine go_goto C 56 dX8_conditionOf_52 (by decide) ?_
    exact go_aret C dX8_conditionOf_56 ⟨rfl, hw⟩ (Nat.le_of_ble_eq_true rfl) (Nat.le_of_ble_eq_true rfl)
  refine jn_elim (P := fun j => j  → Go G X rmX8_conditionOf 3 0 0 (QN G X (QR G (fun r h1 => h1 = h0 ∧ K r)) rmX8_conditionOf) h0 31 [(0, rV (some a0)), (1, iV p1)] []) hw (fun  hw => ?_) (fun j31 hj31 hw => ?_)
  · refine go_iconst C 0 dX8_conditionOf_31 kc_i0 ?_
    exact hj32 0 hw
  refine go_ifnull C 31 dX8_conditionOf_4 (by decide) hw (fun e9 hw9 => ?_) (fun a9 e9 hw9 => ?_)
  · clear hw
    subst e9
    have hw := hw9
    clear hw9
    exact hj31  hw
  clear hw
  subst e9
  have hw := hw9
  clear hw9
  refine go_aload_n C dX8_conditionOf_7 0 rfl ?_
  refine go_getR C (cfX8) (k := 2) (Nat.le_of_ble_eq_true rfl) tw1_144 rfl dX8_conditionOf_8 hw (fun o10 hw => ?_)
  refine go_ifnull C 31 dX8_conditionOf_11 (by decide) hw (fun e9 hw9 => ?_) (fun a11 e9 hw9 => ?_)
  · clear hw
    subst e9
    have hw := hw9
    clear hw9
    exact hj31  hw
  clear hw
  subst e9
  have hw := hw9
  clear hw9
  refine go_aload_n C dX8_conditionOf_14 0 rfl ?_
  refine go_getR C (cfX8) (k := 3) (Nat.le_of_ble_eq_true rfl) tw1_145 rfl dX8_conditionOf_15 hw (fun o12 hw => ?_)
  refine go_iload_n C dX8_conditionOf_18 1 rfl ?_
  obtain ⟨a13, e9, hw9⟩ := hw
  subst e9
  have hw := hw9
  clear hw9
  refine go_pV_i C [iV p1] vX5_wayAt tw2_158 (ci := 5) rfl (m_X5_wayAt (xl X) C.2.2.2.2.2.2.2.1 N hw.2) ⟨Nat.le_of_ble_eq_true rfl, Nat.le_of_ble_eq_true rfl, Nat.le_of_ble_eq_true rfl, Nat.le_of_ble_eq_true rfl⟩ ⟨rfl, rfl⟩ hw.1 dX8_conditionOf_19 rfl (Nat.le_of_ble_eq_true rfl) rfl (fun v14 hw => ?_)
  refine go_bipush C 99 dX8_conditionOf_22 kc_b99 ?_
  refine go_icmp_ne C 31 dX8_conditionOf_24 (by decide) hw (fun hw => ?_) (fun hw => ?_)
  · exact hj31  hw
  refine go_iconst C 1 dX8_conditionOf_27 kc_i1 ?_
  refine go_goto C 32 dX8_conditionOf_28 (by decide) ?_
  exact hj32 1 hw
/-- DuelSchema$Runner.heldAt(II)I -/
def w_X8_heldAt (N : Nat) (a0 : Nat) (p1 : Int32) (p2 : Int32) (h0 : Hp) (K : Int32 → Prop) : Prop :=
  br (((p1 * 3) + p2) < 0) (
    K (-1)) (
    gA h0 a0 8 6 fun a1 =>
    aN h0 a1 fun v2 =>
    br (v2 ≤ ((p1 * 3) + p2)) (
      K (-1)) (
      gA h0 a0 8 6 fun a3 =>
      aI h0 a3 0 ((p1 * 3) + p2) fun v4 =>
      K v4))
abbrev rmX8_heldAt : Room := { frames := 2, cells := 0, slots := 0, locals := 60 }
theorem vX8_heldAt : VI RX8 yX8_heldAt cX8_heldAt 4 (some .int) 2 := ⟨tw3_1, tp8, tw1_6, tw3_2, by decide +kernel⟩
set_option maxHeartbeats 4000000 in
theorem m_X8_heldAt {G : Gp} (l : Launch) (hfl : l.stackTraces = false) (N : Nat) {a0 : Nat} {p1 : Int32} {p2 : Int32} {h0 : Hp} {K : Int32 → Prop} (hw : w_X8_heldAt N a0 p1 p2 h0 K) : MT G l yX8_heldAt cX8_heldAt 4 (some .int) rmX8_heldAt [rV (some a0), iV p1, iV p2] h0 (QI G (fun r h1 => h1 = h0 ∧ K r)) := by
  refine go_metT l hfl _ 4 _ _ rfl (by decide +kernel) (Nat.le_of_ble_eq_true rfl) [(0, rV (some a0)), (1, iV p1), (2, iV p2)] rfl (fun X hX C hn => ?_)
  subst hX
  unfold w_X8_heldAt at hw
  refine go_iload_n C dX8_heldAt_0 1 rfl ?_
  refine go_iconst C 3 dX8_heldAt_1 kc_i3 ?_
  refine go_imul C dX8_heldAt_2 ?_
  refine go_iload_n C dX8_heldAt_3 2 rfl ?_
  refine go_iadd C dX8_heldAt_4 ?_
  refine go_istore_n C [(3, iV ((p1 * 3) + p2)), (0, rV (some a0)), (1, iV p1), (2, iV p2)] dX8_heldAt_5 (Nat.le_of_ble_eq_true rfl) rfl ?_
  refine go_iload_n C dX8_heldAt_6 0 rfl ?_
  refine go_if_lt C 28 dX8_heldAt_7 (by decide) hw (fun hw => ?_) (fun hw => ?_)
  · refine go_iconst C (-1) dX8_heldAt_28 kc_im1 ?_
    exact go_iret C dX8_heldAt_29 ⟨rfl, hw⟩ (Nat.le_of_ble_eq_true rfl) (Nat.le_of_ble_eq_true rfl)
  refine go_iload_n C dX8_heldAt_10 0 rfl ?_
  refine go_aload_n C dX8_heldAt_11 1 rfl ?_
  refine go_getA C (cfX8) (k := 6) (Nat.le_of_ble_eq_true rfl) tw1_148 rfl dX8_heldAt_12 hw (fun a1 hw => ?_)
  refine go_alen C dX8_heldAt_15 hw (fun v2 hw => ?_)
  refine go_icmp_ge C 28 dX8_heldAt_16 (by decide) hw (fun hw => ?_) (fun hw => ?_)
  · refine go_iconst C (-1) dX8_heldAt_28 kc_im1 ?_
    exact go_iret C dX8_heldAt_29 ⟨rfl, hw⟩ (Nat.le_of_ble_eq_true rfl) (Nat.le_of_ble_eq_true rfl)
  refine go_aload_n C dX8_heldAt_19 1 rfl ?_
  refine go_getA C (cfX8) (k := 6) (Nat.le_of_ble_eq_true rfl) tw1_148 rfl dX8_heldAt_20 hw (fun a3 hw => ?_)
  refine go_iload_n C dX8_heldAt_23 0 rfl ?_
  refine go_iaload C dX8_heldAt_24 hw (fun v4 hw => ?_)
  refine go_goto C 29 dX8_heldAt_25 (by decide) ?_
  exact go_iret C dX8_heldAt_29 ⟨rfl, hw⟩ (Nat.le_of_ble_eq_true rfl) (Nat.le_of_ble_eq_true rfl)
/-- DuelSchema$Runner.joinedValue(I)I -/
def w_X8_joinedValue (N : Nat) (a0 : Nat) (p1 : Int32) (h0 : Hp) (K : Int32 → Prop) : Prop :=
  gR h0 a0 8 3 fun o1 =>
  jn (fun (o2 : Option Nat) => 
    jn (fun (v3 : Int32) => 
      brn o2 (
        K (-1)) (fun a4 =>
        cv h0 a4 4 <| w_X4_columnOf N a4 v3 h0 fun v5 =>
        cv h0 a0 8 <| w_X8_heldAt N a0 v3 v5 h0 fun v6 =>
        K v6)) (fun j54 =>
    brn o2 (
      j54 (-1)) (fun a7 =>
      gR h0 a0 8 3 fun o8 =>
      nn o8 fun a9 => cv h0 a9 5 <| w_X5_positionAt N a9 p1 h0 fun v10 =>
      cv h0 a7 4 <| w_X4_partnerOf N a7 v10 h0 fun v11 =>
      j54 v11))) (fun j33 =>
  jn (
    j33 none) (fun j14 =>
  brn o1 (
    j14 ) (fun a12 =>
    gR h0 a0 8 2 fun o13 =>
    brn o13 (
      j14 ) (fun a14 =>
      gR h0 a0 8 2 fun o15 =>
      gR h0 a0 8 3 fun o16 =>
      nn o16 fun a17 => cv h0 a17 5 <| w_X5_reasonAt N a17 p1 h0 fun v18 =>
      nn o15 fun a19 => cv h0 a19 7 <| w_X7_joinAt N a19 v18 h0 fun o20 =>
      j33 o20))))
abbrev rmX8_joinedValue : Room := { frames := 3, cells := 0, slots := 0, locals := 83 }
theorem vX8_joinedValue : VI RX8 yX8_joinedValue cX8_joinedValue 4 (some .int) 1 := ⟨tw3_31, tp13, tw1_6, tw3_32, by decide +kernel⟩
set_option maxHeartbeats 4000000 in
theorem m_X8_joinedValue {G : Gp} (l : Launch) (hfl : l.stackTraces = false) (N : Nat) {a0 : Nat} {p1 : Int32} {h0 : Hp} {K : Int32 → Prop} (hw : w_X8_joinedValue N a0 p1 h0 K) : MT G l yX8_joinedValue cX8_joinedValue 4 (some .int) rmX8_joinedValue [rV (some a0), iV p1] h0 (QI G (fun r h1 => h1 = h0 ∧ K r)) := by
  refine go_metT l hfl _ 4 _ _ rfl (by decide +kernel) (Nat.le_of_ble_eq_true rfl) [(0, rV (some a0)), (1, iV p1)] rfl (fun X hX C hn => ?_)
  subst hX
  unfold w_X8_joinedValue at hw
  refine go_aload_n C dX8_joinedValue_0 0 rfl ?_
  refine go_getR C (cfX8) (k := 3) (Nat.le_of_ble_eq_true rfl) tw1_145 rfl dX8_joinedValue_1 hw (fun o1 hw => ?_)
  refine jn_elim (P := fun j => ∀ (o2 : Option Nat), j o2 → Go G X rmX8_joinedValue 4 0 0 (QN G X (QI G (fun r h1 => h1 = h0 ∧ K r)) rmX8_joinedValue) h0 33 [(0, rV (some a0)), (1, iV p1)] [rV o2]) hw (fun o2 hw => ?_) (fun j33 hj33 hw => ?_)
  · refine go_astore_n C [(2, rV o2), (0, rV (some a0)), (1, iV p1)] dX8_joinedValue_33 (Nat.le_of_ble_eq_true rfl) rfl ?_
    refine go_aload_n C dX8_joinedValue_34 0 rfl ?_
    refine jn_elim (P := fun j => ∀ (v3 : Int32), j v3 → Go G X rmX8_joinedValue 4 0 0 (QN G X (QI G (fun r h1 => h1 = h0 ∧ K r)) rmX8_joinedValue) h0 54 [(0, rV (some a0)), (2, rV o2)] [iV v3]) hw (fun v3 hw => ?_) (fun j54 hj54 hw => ?_)
    · refine go_istore_n C [(3, iV v3), (0, rV (some a0)), (2, rV o2)] dX8_joinedValue_54 (Nat.le_of_ble_eq_true rfl) rfl ?_
      refine go_aload_n C dX8_joinedValue_55 2 rfl ?_
      refine go_ifnonnull C 63 dX8_joinedValue_56 (by decide) hw (fun a4 e9 hw9 => ?_) (fun e9 hw9 => ?_)
      · clear hw
        subst e9
        have hw := hw9
        clear hw9
        refine go_aload_n C dX8_joinedValue_63 1 rfl ?_
        refine go_iload_n C dX8_joinedValue_64 0 rfl ?_
        refine go_aload_n C dX8_joinedValue_65 2 rfl ?_
        refine go_iload_n C dX8_joinedValue_66 0 rfl ?_
        refine go_pV_i C [iV v3] vX4_columnOf tw2_235 (ci := 4) rfl (m_X4_columnOf (xl X) C.2.2.2.2.2.2.2.1 N hw.2) ⟨Nat.le_of_ble_eq_true rfl, Nat.le_of_ble_eq_true rfl, Nat.le_of_ble_eq_true rfl, Nat.le_of_ble_eq_true rfl⟩ ⟨rfl, rfl⟩ hw.1 dX8_joinedValue_67 rfl (Nat.le_of_ble_eq_true rfl) rfl (fun v5 hw => ?_)
        refine go_pV_i C [iV v3, iV v5] vX8_heldAt tw2_239 (ci := 8) rfl (m_X8_heldAt (xl X) C.2.2.2.2.2.2.2.1 N hw.2) ⟨Nat.le_of_ble_eq_true rfl, Nat.le_of_ble_eq_true rfl, Nat.le_of_ble_eq_true rfl, Nat.le_of_ble_eq_true rfl⟩ ⟨rfl, rfl⟩ hw.1 dX8_joinedValue_70 rfl (Nat.le_of_ble_eq_true rfl) rfl (fun v6 hw => ?_)
        exact go_iret C dX8_joinedValue_73 ⟨rfl, hw⟩ (Nat.le_of_ble_eq_true rfl) (Nat.le_of_ble_eq_true rfl)
      clear hw
      subst e9
      have hw := hw9
      clear hw9
      refine go_iconst C (-1) dX8_joinedValue_59 kc_im1 ?_
      refine go_goto C 73 dX8_joinedValue_60 (by decide) ?_
      exact go_iret C dX8_joinedValue_73 ⟨rfl, hw⟩ (Nat.le_of_ble_eq_true rfl) (Nat.le_of_ble_eq_true rfl)
    refine go_ifnonnull C 42 dX8_joinedValue_35 (by decide) hw (fun a7 e9 hw9 => ?_) (fun e9 hw9 => ?_)
    · clear hw
      subst e9
      have hw := hw9
      clear hw9
      refine go_aload_n C dX8_joinedValue_42 0 rfl ?_
      refine go_aload_n C dX8_joinedValue_43 1 rfl ?_
      refine go_getR C (cfX8) (k := 3) (Nat.le_of_ble_eq_true rfl) tw1_145 rfl dX8_joinedValue_44 hw (fun o8 hw => ?_)
      refine go_iload_n C dX8_joinedValue_47 2 rfl ?_
      obtain ⟨a9, e9, hw9⟩ := hw
      subst e9
      have hw := hw9
      clear hw9
      refine go_pV_i C [iV p1] vX5_positionAt tw2_142 (ci := 5) rfl (m_X5_positionAt (xl X) C.2.2.2.2.2.2.2.1 N hw.2) ⟨Nat.le_of_ble_eq_true rfl, Nat.le_of_ble_eq_true rfl, Nat.le_of_ble_eq_true rfl, Nat.le_of_ble_eq_true rfl⟩ ⟨rfl, rfl⟩ hw.1 dX8_joinedValue_48 rfl (Nat.le_of_ble_eq_true rfl) rfl (fun v10 hw => ?_)
      refine go_pV_i C [iV v10] vX4_partnerOf tw2_227 (ci := 4) rfl (m_X4_partnerOf (xl X) C.2.2.2.2.2.2.2.1 N hw.2) ⟨Nat.le_of_ble_eq_true rfl, Nat.le_of_ble_eq_true rfl, Nat.le_of_ble_eq_true rfl, Nat.le_of_ble_eq_true rfl⟩ ⟨rfl, rfl⟩ hw.1 dX8_joinedValue_51 rfl (Nat.le_of_ble_eq_true rfl) rfl (fun v11 hw => ?_)
      refine go_sub [1, 0] rfl ?_
      exact hj54 v11 hw
    clear hw
    subst e9
    have hw := hw9
    clear hw9
    refine go_iconst C (-1) dX8_joinedValue_38 kc_im1 ?_
    refine go_goto C 54 dX8_joinedValue_39 (by decide) ?_
    refine go_sub [1, 0] rfl ?_
    exact hj54 (-1) hw
  refine jn_elim (P := fun j => j  → Go G X rmX8_joinedValue 4 0 0 (QN G X (QI G (fun r h1 => h1 = h0 ∧ K r)) rmX8_joinedValue) h0 14 [(0, rV (some a0)), (1, iV p1)] []) hw (fun  hw => ?_) (fun j14 hj14 hw => ?_)
  · refine go_null C dX8_joinedValue_14 ?_
    refine go_goto C 33 dX8_joinedValue_15 (by decide) ?_
    exact hj33 none hw
  refine go_ifnull C 14 dX8_joinedValue_4 (by decide) hw (fun e9 hw9 => ?_) (fun a12 e9 hw9 => ?_)
  · clear hw
    subst e9
    have hw := hw9
    clear hw9
    exact hj14  hw
  clear hw
  subst e9
  have hw := hw9
  clear hw9
  refine go_aload_n C dX8_joinedValue_7 0 rfl ?_
  refine go_getR C (cfX8) (k := 2) (Nat.le_of_ble_eq_true rfl) tw1_144 rfl dX8_joinedValue_8 hw (fun o13 hw => ?_)
  refine go_ifnonnull C 18 dX8_joinedValue_11 (by decide) hw (fun a14 e9 hw9 => ?_) (fun e9 hw9 => ?_)
  · clear hw
    subst e9
    have hw := hw9
    clear hw9
    refine go_aload_n C dX8_joinedValue_18 0 rfl ?_
    refine go_getR C (cfX8) (k := 2) (Nat.le_of_ble_eq_true rfl) tw1_144 rfl dX8_joinedValue_19 hw (fun o15 hw => ?_)
    refine go_aload_n C dX8_joinedValue_22 0 rfl ?_
    refine go_getR C (cfX8) (k := 3) (Nat.le_of_ble_eq_true rfl) tw1_145 rfl dX8_joinedValue_23 hw (fun o16 hw => ?_)
    refine go_iload_n C dX8_joinedValue_26 1 rfl ?_
    obtain ⟨a17, e9, hw9⟩ := hw
    subst e9
    have hw := hw9
    clear hw9
    refine go_pV_i C [iV p1] vX5_reasonAt tw3_25 (ci := 5) rfl (m_X5_reasonAt (xl X) C.2.2.2.2.2.2.2.1 N hw.2) ⟨Nat.le_of_ble_eq_true rfl, Nat.le_of_ble_eq_true rfl, Nat.le_of_ble_eq_true rfl, Nat.le_of_ble_eq_true rfl⟩ ⟨rfl, rfl⟩ hw.1 dX8_joinedValue_27 rfl (Nat.le_of_ble_eq_true rfl) rfl (fun v18 hw => ?_)
    obtain ⟨a19, e9, hw9⟩ := hw
    subst e9
    have hw := hw9
    clear hw9
    refine go_pV_q C [iV v18] vX7_joinAt tw2_223 (ci := 7) rfl (m_X7_joinAt (xl X) C.2.2.2.2.2.2.2.1 N hw.2) ⟨Nat.le_of_ble_eq_true rfl, Nat.le_of_ble_eq_true rfl, Nat.le_of_ble_eq_true rfl, Nat.le_of_ble_eq_true rfl⟩ ⟨rfl, rfl⟩ hw.1 dX8_joinedValue_30 rfl (Nat.le_of_ble_eq_true rfl) rfl (fun o20 hw => ?_)
    exact hj33 o20 hw
  clear hw
  subst e9
  have hw := hw9
  clear hw9
  exact hj14  hw
/-- DuelSchema$Runner.greatestWanted(I)I -/
def w_X8_greatestWanted (N : Nat) (a0 : Nat) (p1 : Int32) (h0 : Hp) (K : Int32 → Prop) : Prop :=
  cv h0 a0 8 <| w_X8_conditionOf N a0 p1 h0 fun o1 =>
  brn o1 (
    cv h0 a0 8 <| w_X8_joinedValue N a0 p1 h0 fun v4 =>
    K v4) (fun a2 =>
    cv h0 a2 1 <| w_X1_greatest N a2  h0 fun v3 =>
    K v3)
abbrev rmX8_greatestWanted : Room := { frames := 4, cells := 0, slots := 0, locals := 106 }
theorem vX8_greatestWanted : VI RX8 yX8_greatestWanted cX8_greatestWanted 3 (some .int) 1 := ⟨tw3_19, tp11, tw1_6, tw3_20, by decide +kernel⟩
set_option maxHeartbeats 4000000 in
theorem m_X8_greatestWanted {G : Gp} (l : Launch) (hfl : l.stackTraces = false) (N : Nat) {a0 : Nat} {p1 : Int32} {h0 : Hp} {K : Int32 → Prop} (hw : w_X8_greatestWanted N a0 p1 h0 K) : MT G l yX8_greatestWanted cX8_greatestWanted 3 (some .int) rmX8_greatestWanted [rV (some a0), iV p1] h0 (QI G (fun r h1 => h1 = h0 ∧ K r)) := by
  refine go_metT l hfl _ 3 _ _ rfl (by decide +kernel) (Nat.le_of_ble_eq_true rfl) [(0, rV (some a0)), (1, iV p1)] rfl (fun X hX C hn => ?_)
  subst hX
  unfold w_X8_greatestWanted at hw
  refine go_aload_n C dX8_greatestWanted_0 0 rfl ?_
  refine go_iload_n C dX8_greatestWanted_1 1 rfl ?_
  refine go_pV_q C [iV p1] vX8_conditionOf tw3_21 (ci := 8) rfl (m_X8_conditionOf (xl X) C.2.2.2.2.2.2.2.1 N hw.2) ⟨Nat.le_of_ble_eq_true rfl, Nat.le_of_ble_eq_true rfl, Nat.le_of_ble_eq_true rfl, Nat.le_of_ble_eq_true rfl⟩ ⟨rfl, rfl⟩ hw.1 dX8_greatestWanted_2 rfl (Nat.le_of_ble_eq_true rfl) rfl (fun o1 hw => ?_)
  refine go_astore_n C [(2, rV o1), (0, rV (some a0)), (1, iV p1)] dX8_greatestWanted_5 (Nat.le_of_ble_eq_true rfl) rfl ?_
  refine go_aload_n C dX8_greatestWanted_6 0 rfl ?_
  refine go_ifnonnull C 18 dX8_greatestWanted_7 (by decide) hw (fun a2 e9 hw9 => ?_) (fun e9 hw9 => ?_)
  · clear hw
    subst e9
    have hw := hw9
    clear hw9
    refine go_aload_n C dX8_greatestWanted_18 0 rfl ?_
    refine go_pV_i C [] vX1_greatest tw3_33 (ci := 1) rfl (m_X1_greatest (xl X) C.2.2.2.2.2.2.2.1 N hw.2) ⟨Nat.le_of_ble_eq_true rfl, Nat.le_of_ble_eq_true rfl, Nat.le_of_ble_eq_true rfl, Nat.le_of_ble_eq_true rfl⟩ ⟨rfl, rfl⟩ hw.1 dX8_greatestWanted_19 rfl (Nat.le_of_ble_eq_true rfl) rfl (fun v3 hw => ?_)
    exact go_iret C dX8_greatestWanted_22 ⟨rfl, hw⟩ (Nat.le_of_ble_eq_true rfl) (Nat.le_of_ble_eq_true rfl)
  clear hw
  subst e9
  have hw := hw9
  clear hw9
  refine go_aload_n C dX8_greatestWanted_10 1 rfl ?_
  refine go_iload_n C dX8_greatestWanted_11 2 rfl ?_
  refine go_pV_i C [iV p1] vX8_joinedValue tw3_29 (ci := 8) rfl (m_X8_joinedValue (xl X) C.2.2.2.2.2.2.2.1 N hw.2) ⟨Nat.le_of_ble_eq_true rfl, Nat.le_of_ble_eq_true rfl, Nat.le_of_ble_eq_true rfl, Nat.le_of_ble_eq_true rfl⟩ ⟨rfl, rfl⟩ hw.1 dX8_greatestWanted_12 rfl (Nat.le_of_ble_eq_true rfl) rfl (fun v4 hw => ?_)
  refine go_goto C 22 dX8_greatestWanted_15 (by decide) ?_
  exact go_iret C dX8_greatestWanted_22 ⟨rfl, hw⟩ (Nat.le_of_ble_eq_true rfl) (Nat.le_of_ble_eq_true rfl)
/-- DuelSchema$Runner.leastWanted(I)I -/
def w_X8_leastWanted (N : Nat) (a0 : Nat) (p1 : Int32) (h0 : Hp) (K : Int32 → Prop) : Prop :=
  cv h0 a0 8 <| w_X8_conditionOf N a0 p1 h0 fun o1 =>
  brn o1 (
    cv h0 a0 8 <| w_X8_joinedValue N a0 p1 h0 fun v4 =>
    K v4) (fun a2 =>
    cv h0 a2 1 <| w_X1_least N a2  h0 fun v3 =>
    K v3)
abbrev rmX8_leastWanted : Room := { frames := 4, cells := 0, slots := 0, locals := 106 }
theorem vX8_leastWanted : VI RX8 yX8_leastWanted cX8_leastWanted 3 (some .int) 1 := ⟨tw3_39, tp14, tw1_6, tw3_40, by decide +kernel⟩
set_option maxHeartbeats 4000000 in
theorem m_X8_leastWanted {G : Gp} (l : Launch) (hfl : l.stackTraces = false) (N : Nat) {a0 : Nat} {p1 : Int32} {h0 : Hp} {K : Int32 → Prop} (hw : w_X8_leastWanted N a0 p1 h0 K) : MT G l yX8_leastWanted cX8_leastWanted 3 (some .int) rmX8_leastWanted [rV (some a0), iV p1] h0 (QI G (fun r h1 => h1 = h0 ∧ K r)) := by
  refine go_metT l hfl _ 3 _ _ rfl (by decide +kernel) (Nat.le_of_ble_eq_true rfl) [(0, rV (some a0)), (1, iV p1)] rfl (fun X hX C hn => ?_)
  subst hX
  unfold w_X8_leastWanted at hw
  refine go_aload_n C dX8_leastWanted_0 0 rfl ?_
  refine go_iload_n C dX8_leastWanted_1 1 rfl ?_
  refine go_pV_q C [iV p1] vX8_conditionOf tw3_21 (ci := 8) rfl (m_X8_conditionOf (xl X) C.2.2.2.2.2.2.2.1 N hw.2) ⟨Nat.le_of_ble_eq_true rfl, Nat.le_of_ble_eq_true rfl, Nat.le_of_ble_eq_true rfl, Nat.le_of_ble_eq_true rfl⟩ ⟨rfl, rfl⟩ hw.1 dX8_leastWanted_2 rfl (Nat.le_of_ble_eq_true rfl) rfl (fun o1 hw => ?_)
  refine go_astore_n C [(2, rV o1), (0, rV (some a0)), (1, iV p1)] dX8_leastWanted_5 (Nat.le_of_ble_eq_true rfl) rfl ?_
  refine go_aload_n C dX8_leastWanted_6 0 rfl ?_
  refine go_ifnonnull C 18 dX8_leastWanted_7 (by decide) hw (fun a2 e9 hw9 => ?_) (fun e9 hw9 => ?_)
  · clear hw
    subst e9
    have hw := hw9
    clear hw9
    refine go_aload_n C dX8_leastWanted_18 0 rfl ?_
    refine go_pV_i C [] vX1_least tw3_41 (ci := 1) rfl (m_X1_least (xl X) C.2.2.2.2.2.2.2.1 N hw.2) ⟨Nat.le_of_ble_eq_true rfl, Nat.le_of_ble_eq_true rfl, Nat.le_of_ble_eq_true rfl, Nat.le_of_ble_eq_true rfl⟩ ⟨rfl, rfl⟩ hw.1 dX8_leastWanted_19 rfl (Nat.le_of_ble_eq_true rfl) rfl (fun v3 hw => ?_)
    exact go_iret C dX8_leastWanted_22 ⟨rfl, hw⟩ (Nat.le_of_ble_eq_true rfl) (Nat.le_of_ble_eq_true rfl)
  clear hw
  subst e9
  have hw := hw9
  clear hw9
  refine go_aload_n C dX8_leastWanted_10 1 rfl ?_
  refine go_iload_n C dX8_leastWanted_11 2 rfl ?_
  refine go_pV_i C [iV p1] vX8_joinedValue tw3_29 (ci := 8) rfl (m_X8_joinedValue (xl X) C.2.2.2.2.2.2.2.1 N hw.2) ⟨Nat.le_of_ble_eq_true rfl, Nat.le_of_ble_eq_true rfl, Nat.le_of_ble_eq_true rfl, Nat.le_of_ble_eq_true rfl⟩ ⟨rfl, rfl⟩ hw.1 dX8_leastWanted_12 rfl (Nat.le_of_ble_eq_true rfl) rfl (fun v4 hw => ?_)
  refine go_goto C 22 dX8_leastWanted_15 (by decide) ?_
  exact go_iret C dX8_leastWanted_22 ⟨rfl, hw⟩ (Nat.le_of_ble_eq_true rfl) (Nat.le_of_ble_eq_true rfl)
/-- DuelSchema$Runner.readOne(I)V -/
def w_X8_readOne (N : Nat) (a0 : Nat) (p1 : Int32) (h0 : Hp) (K : Hp → Prop) : Prop :=
  gI h0 a0 8 7 fun v1 =>
  pF h0 a0 8 7 (iV (v1 + 1)) fun h2 =>
  gR h2 a0 8 4 fun o3 =>
  brn o3 (
    K h2) (fun a4 =>
    gR h2 a0 8 4 fun o5 =>
    nn o5 fun a6 => cv h2 a6 0 <| w_X0_missed N a6 p1 h2 fun v7 h8 =>
    br (v7 = 0) (
      K h8) (
      gI h8 a0 8 8 fun v9 =>
      pF h8 a0 8 8 (iV (v9 + 1)) fun h10 =>
      K h10))
abbrev rmX8_readOne : Room := { frames := 4, cells := 0, slots := 0, locals := 106 }
theorem vX8_readOne : VI RX8 yX8_readOne cX8_readOne 2 none 1 := ⟨tw2_182, tp5, tw1_6, tw2_183, by decide +kernel⟩
set_option maxHeartbeats 4000000 in
theorem m_X8_readOne {G : Gp} (l : Launch) (hfl : l.stackTraces = false) (N : Nat) {a0 : Nat} {p1 : Int32} {h0 : Hp} {K : Hp → Prop} (hw : w_X8_readOne N a0 p1 h0 K) : MT G l yX8_readOne cX8_readOne 2 none rmX8_readOne [rV (some a0), iV p1] h0 (QV G K) := by
  refine go_metT l hfl _ 2 _ _ rfl (by decide +kernel) (Nat.le_of_ble_eq_true rfl) [(0, rV (some a0)), (1, iV p1)] rfl (fun X hX C hn => ?_)
  subst hX
  unfold w_X8_readOne at hw
  refine go_aload_n C dX8_readOne_0 0 rfl ?_
  refine go_dup C _ dX8_readOne_1 rfl ?_
  refine go_getI C (cfX8) (k := 7) (Nat.le_of_ble_eq_true rfl) tw1_149 rfl dX8_readOne_2 hw (fun v1 hw => ?_)
  refine go_iconst C 1 dX8_readOne_5 kc_i1 ?_
  refine go_iadd C dX8_readOne_6 ?_
  refine go_putI C (cfX8) (k := 7) (Nat.le_of_ble_eq_true rfl) tw1_149 rfl (Or.inl rfl) rfl dX8_readOne_7 hw (fun h2 hw => ?_)
  refine go_aload_n C dX8_readOne_10 0 rfl ?_
  refine go_getR C (cfX8) (k := 4) (Nat.le_of_ble_eq_true rfl) tw1_146 rfl dX8_readOne_11 hw (fun o3 hw => ?_)
  refine go_ifnull C 38 dX8_readOne_14 (by decide) hw (fun e9 hw9 => ?_) (fun a4 e9 hw9 => ?_)
  · clear hw
    subst e9
    have hw := hw9
    clear hw9
    exact go_vret C dX8_readOne_38 hw (Nat.le_of_ble_eq_true rfl) (Nat.le_of_ble_eq_true rfl)
  clear hw
  subst e9
  have hw := hw9
  clear hw9
  refine go_aload_n C dX8_readOne_17 0 rfl ?_
  refine go_getR C (cfX8) (k := 4) (Nat.le_of_ble_eq_true rfl) tw1_146 rfl dX8_readOne_18 hw (fun o5 hw => ?_)
  refine go_iload_n C dX8_readOne_21 1 rfl ?_
  obtain ⟨a6, e9, hw9⟩ := hw
  subst e9
  have hw := hw9
  clear hw9
  refine go_c0V_i C [iV p1] vX0_missed tw2_184 (ci := 0) rfl (m_X0_missed (xl X) C.2.2.2.2.2.2.2.1 N hw.2) ⟨Nat.le_of_ble_eq_true rfl, Nat.le_of_ble_eq_true rfl, Nat.le_of_ble_eq_true rfl, Nat.le_of_ble_eq_true rfl⟩ ⟨rfl, rfl⟩ hw.1 dX8_readOne_22 rfl (Nat.le_of_ble_eq_true rfl) rfl (fun v7 h8 hw => ?_)
  refine go_if_eq C 38 dX8_readOne_25 (by decide) hw (fun hw => ?_) (fun hw => ?_)
  · exact go_vret C dX8_readOne_38 hw (Nat.le_of_ble_eq_true rfl) (Nat.le_of_ble_eq_true rfl)
  refine go_aload_n C dX8_readOne_28 0 rfl ?_
  refine go_dup C _ dX8_readOne_29 rfl ?_
  refine go_getI C (cfX8) (k := 8) (Nat.le_of_ble_eq_true rfl) tw1_150 rfl dX8_readOne_30 hw (fun v9 hw => ?_)
  refine go_iconst C 1 dX8_readOne_33 kc_i1 ?_
  refine go_iadd C dX8_readOne_34 ?_
  refine go_putI C (cfX8) (k := 8) (Nat.le_of_ble_eq_true rfl) tw1_150 rfl (Or.inl rfl) rfl dX8_readOne_35 hw (fun h10 hw => ?_)
  exact go_vret C dX8_readOne_38 hw (Nat.le_of_ble_eq_true rfl) (Nat.le_of_ble_eq_true rfl)
/-- DuelSchema$Runner.fits(ILDuelSchema$Table;I)Z -/
def w_X8_fits (N : Nat) (a0 : Nat) (p1 : Int32) (p2 : Option Nat) (p3 : Int32) (h0 : Hp) (K : Int32 → Prop) : Prop :=
  nn p2 fun a1 => cv h0 a1 10 <| w_X10_hasRow N a1 p3 h0 fun v2 =>
  br (v2 = 0) (
    K 0) (
    gR h0 a0 8 3 fun o3 =>
    brn o3 (
      K 0) (fun a4 =>
      gR h0 a0 8 2 fun o5 =>
      brn o5 (
        K 0) (fun a6 =>
        gR h0 a0 8 3 fun o7 =>
        nn o7 fun a8 => cv h0 a8 5 <| w_X5_positionAt N a8 p1 h0 fun v9 =>
        fx1 (fun (w37 : Int32 → Prop) (x10 : Int32) =>
          gR h0 a0 8 2 fun o11 =>
          nn o11 fun a12 => cv h0 a12 7 <| w_X7_conditionCount N a12  h0 fun v13 =>
          br (v13 ≤ x10) (
            fx1 (fun (w104 : Int32 → Prop) (x14 : Int32) =>
              gR h0 a0 8 2 fun o15 =>
              nn o15 fun a16 => cv h0 a16 7 <| w_X7_joinCount N a16  h0 fun v17 =>
              br (v17 ≤ x14) (
                K 1) (
                gR h0 a0 8 2 fun o18 =>
                nn o18 fun a19 => cv h0 a19 7 <| w_X7_joinAt N a19 x14 h0 fun o20 =>
                jn (fun (v21 : Int32) => 
                  jn (
                    w104 (x14 + 1)) (fun j193 =>
                  brn o20 (
                    j193 ) (fun a22 =>
                    gR h0 a0 8 3 fun o23 =>
                    nn o23 fun a24 => cv h0 a24 5 <| w_X5_isAhead N a24 v21 p1 h0 fun v25 =>
                    br (v25 = 0) (
                      j193 ) (
                      cv h0 a22 4 <| w_X4_columnOf N a22 v21 h0 fun v26 =>
                      cv h0 a0 8 <| w_X8_heldAt N a0 v21 v26 h0 fun v27 =>
                      cv h0 a22 4 <| w_X4_columnOf N a22 v9 h0 fun v28 =>
                      cv h0 a1 10 <| w_X10_cell N a1 p3 v28 h0 fun v29 =>
                      br (v27 = v29) (
                        j193 ) (
                        K 0))))) (fun j143 =>
                brn o20 (
                  j143 (-1)) (fun a30 =>
                  cv h0 a30 4 <| w_X4_partnerOf N a30 v9 h0 fun v31 =>
                  j143 v31)))) N 0) (
            gR h0 a0 8 2 fun o32 =>
            nn o32 fun a33 => cv h0 a33 7 <| w_X7_conditionAt N a33 x10 h0 fun o34 =>
            jn (
              w37 (x10 + 1)) (fun j95 =>
            brn o34 (
              j95 ) (fun a35 =>
              cv h0 a35 1 <| w_X1_position N a35  h0 fun v36 =>
              br (v36 = v9) (
                cv h0 a35 1 <| w_X1_column N a35  h0 fun v37 =>
                cv h0 a1 10 <| w_X10_cell N a1 p3 v37 h0 fun v38 =>
                cv h0 a35 1 <| w_X1_allows N a35 v38 h0 fun v39 =>
                br (v39 = 0) (
                  K 0) (
                  j95 )) (
                j95 ))))) N 0)))
abbrev rmX8_fits : Room := { frames := 3, cells := 0, slots := 0, locals := 83 }
theorem vX8_fits : VI RX8 yX8_fits cX8_fits 8 (some .boolean) 3 := ⟨tw2_195, tp7, tw1_6, tw2_196, by decide +kernel⟩
set_option maxHeartbeats 4000000 in
theorem m_X8_fits {G : Gp} (l : Launch) (hfl : l.stackTraces = false) (N : Nat) {a0 : Nat} {p1 : Int32} {p2 : Option Nat} {p3 : Int32} {h0 : Hp} {K : Int32 → Prop} (hw : w_X8_fits N a0 p1 p2 p3 h0 K) : MT G l yX8_fits cX8_fits 8 (some .boolean) rmX8_fits [rV (some a0), iV p1, rV p2, iV p3] h0 (QI G (fun r h1 => h1 = h0 ∧ K r)) := by
  refine go_metT l hfl _ 8 _ _ rfl (by decide +kernel) (Nat.le_of_ble_eq_true rfl) [(0, rV (some a0)), (1, iV p1), (2, rV p2), (3, iV p3)] rfl (fun X hX C hn => ?_)
  subst hX
  unfold w_X8_fits at hw
  refine go_aload_n C dX8_fits_0 2 rfl ?_
  refine go_iload_n C dX8_fits_1 3 rfl ?_
  obtain ⟨a1, e9, hw9⟩ := hw
  subst e9
  have hw := hw9
  clear hw9
  refine go_pV_i C [iV p3] vX10_hasRow tw2_197 (ci := 10) rfl (m_X10_hasRow (xl X) C.2.2.2.2.2.2.2.1 N hw.2) ⟨Nat.le_of_ble_eq_true rfl, Nat.le_of_ble_eq_true rfl, Nat.le_of_ble_eq_true rfl, Nat.le_of_ble_eq_true rfl⟩ ⟨rfl, rfl⟩ hw.1 dX8_fits_2 rfl (Nat.le_of_ble_eq_true rfl) rfl (fun v2 hw => ?_)
  refine go_if_eq C 22 dX8_fits_5 (by decide) hw (fun hw => ?_) (fun hw => ?_)
  · refine go_iconst C 0 dX8_fits_22 kc_i0 ?_
    exact go_zret C dX8_fits_23 ⟨rfl, ⟨rfl, hw⟩⟩ (Nat.le_of_ble_eq_true rfl) (Nat.le_of_ble_eq_true rfl)
  refine go_aload_n C dX8_fits_8 0 rfl ?_
  refine go_getR C (cfX8) (k := 3) (Nat.le_of_ble_eq_true rfl) tw1_145 rfl dX8_fits_9 hw (fun o3 hw => ?_)
  refine go_ifnull C 22 dX8_fits_12 (by decide) hw (fun e9 hw9 => ?_) (fun a4 e9 hw9 => ?_)
  · clear hw
    subst e9
    have hw := hw9
    clear hw9
    refine go_iconst C 0 dX8_fits_22 kc_i0 ?_
    exact go_zret C dX8_fits_23 ⟨rfl, ⟨rfl, hw⟩⟩ (Nat.le_of_ble_eq_true rfl) (Nat.le_of_ble_eq_true rfl)
  clear hw
  subst e9
  have hw := hw9
  clear hw9
  refine go_aload_n C dX8_fits_15 0 rfl ?_
  refine go_getR C (cfX8) (k := 2) (Nat.le_of_ble_eq_true rfl) tw1_144 rfl dX8_fits_16 hw (fun o5 hw => ?_)
  refine go_ifnonnull C 24 dX8_fits_19 (by decide) hw (fun a6 e9 hw9 => ?_) (fun e9 hw9 => ?_)
  · clear hw
    subst e9
    have hw := hw9
    clear hw9
    refine go_aload_n C dX8_fits_24 0 rfl ?_
    refine go_getR C (cfX8) (k := 3) (Nat.le_of_ble_eq_true rfl) tw1_145 rfl dX8_fits_25 hw (fun o7 hw => ?_)
    refine go_iload_n C dX8_fits_28 1 rfl ?_
    obtain ⟨a8, e9, hw9⟩ := hw
    subst e9
    have hw := hw9
    clear hw9
    refine go_pV_i C [iV p1] vX5_positionAt tw2_142 (ci := 5) rfl (m_X5_positionAt (xl X) C.2.2.2.2.2.2.2.1 N hw.2) ⟨Nat.le_of_ble_eq_true rfl, Nat.le_of_ble_eq_true rfl, Nat.le_of_ble_eq_true rfl, Nat.le_of_ble_eq_true rfl⟩ ⟨rfl, rfl⟩ hw.1 dX8_fits_29 rfl (Nat.le_of_ble_eq_true rfl) rfl (fun v9 hw => ?_)
    refine go_istore C [(4, iV v9), (0, rV (some a0)), (1, iV p1), (2, rV (some a1)), (3, iV p3)] dX8_fits_32 (Nat.le_of_ble_eq_true rfl) rfl ?_
    refine go_iconst C 0 dX8_fits_34 kc_i0 ?_
    refine go_istore C [(5, iV 0), (4, iV v9), (0, rV (some a0)), (1, iV p1), (2, rV (some a1)), (3, iV p3)] dX8_fits_35 (Nat.le_of_ble_eq_true rfl) rfl ?_
    refine go_sub [2, 3, 4, 5, 1, 0] rfl ?_
    refine fx1_elim (P := fun x10 => Go G X rmX8_fits 8 0 0 (QN G X (QI G (fun r h1 => h1 = h0 ∧ K r)) rmX8_fits) h0 37 [(0, rV (some a0)), (1, iV p1), (2, rV (some a1)), (3, iV p3), (4, iV v9), (5, iV x10)] []) (fun w37 hj37 x10 hw => ?_) N _ hw
    refine go_iload C dX8_fits_37 5 rfl ?_
    refine go_aload_n C dX8_fits_39 0 rfl ?_
    refine go_getR C (cfX8) (k := 2) (Nat.le_of_ble_eq_true rfl) tw1_144 rfl dX8_fits_40 hw (fun o11 hw => ?_)
    obtain ⟨a12, e9, hw9⟩ := hw
    subst e9
    have hw := hw9
    clear hw9
    refine go_pV_i C [] vX7_conditionCount tw2_198 (ci := 7) rfl (m_X7_conditionCount (xl X) C.2.2.2.2.2.2.2.1 N hw.2) ⟨Nat.le_of_ble_eq_true rfl, Nat.le_of_ble_eq_true rfl, Nat.le_of_ble_eq_true rfl, Nat.le_of_ble_eq_true rfl⟩ ⟨rfl, rfl⟩ hw.1 dX8_fits_43 rfl (Nat.le_of_ble_eq_true rfl) rfl (fun v13 hw => ?_)
    refine go_icmp_ge C 101 dX8_fits_46 (by decide) hw (fun hw => ?_) (fun hw => ?_)
    · refine go_iconst C 0 dX8_fits_101 kc_i0 ?_
      refine go_istore C [(5, iV 0), (0, rV (some a0)), (1, iV p1), (2, rV (some a1)), (3, iV p3), (4, iV v9)] dX8_fits_102 (Nat.le_of_ble_eq_true rfl) rfl ?_
      refine go_sub [1, 2, 3, 4, 5, 0] rfl ?_
      refine fx1_elim (P := fun x14 => Go G X rmX8_fits 8 0 0 (QN G X (QI G (fun r h1 => h1 = h0 ∧ K r)) rmX8_fits) h0 104 [(0, rV (some a0)), (1, iV p1), (2, rV (some a1)), (3, iV p3), (4, iV v9), (5, iV x14)] []) (fun w104 hj104 x14 hw => ?_) N _ hw
      refine go_iload C dX8_fits_104 5 rfl ?_
      refine go_aload_n C dX8_fits_106 0 rfl ?_
      refine go_getR C (cfX8) (k := 2) (Nat.le_of_ble_eq_true rfl) tw1_144 rfl dX8_fits_107 hw (fun o15 hw => ?_)
      obtain ⟨a16, e9, hw9⟩ := hw
      subst e9
      have hw := hw9
      clear hw9
      refine go_pV_i C [] vX7_joinCount tw2_219 (ci := 7) rfl (m_X7_joinCount (xl X) C.2.2.2.2.2.2.2.1 N hw.2) ⟨Nat.le_of_ble_eq_true rfl, Nat.le_of_ble_eq_true rfl, Nat.le_of_ble_eq_true rfl, Nat.le_of_ble_eq_true rfl⟩ ⟨rfl, rfl⟩ hw.1 dX8_fits_110 rfl (Nat.le_of_ble_eq_true rfl) rfl (fun v17 hw => ?_)
      refine go_icmp_ge C 199 dX8_fits_113 (by decide) hw (fun hw => ?_) (fun hw => ?_)
      · refine go_iconst C 1 dX8_fits_199 kc_i1 ?_
        exact go_zret C dX8_fits_200 ⟨rfl, ⟨rfl, hw⟩⟩ (Nat.le_of_ble_eq_true rfl) (Nat.le_of_ble_eq_true rfl)
      refine go_aload_n C dX8_fits_116 0 rfl ?_
      refine go_getR C (cfX8) (k := 2) (Nat.le_of_ble_eq_true rfl) tw1_144 rfl dX8_fits_117 hw (fun o18 hw => ?_)
      refine go_iload C dX8_fits_120 5 rfl ?_
      obtain ⟨a19, e9, hw9⟩ := hw
      subst e9
      have hw := hw9
      clear hw9
      refine go_pV_q C [iV x14] vX7_joinAt tw2_223 (ci := 7) rfl (m_X7_joinAt (xl X) C.2.2.2.2.2.2.2.1 N hw.2) ⟨Nat.le_of_ble_eq_true rfl, Nat.le_of_ble_eq_true rfl, Nat.le_of_ble_eq_true rfl, Nat.le_of_ble_eq_true rfl⟩ ⟨rfl, rfl⟩ hw.1 dX8_fits_122 rfl (Nat.le_of_ble_eq_true rfl) rfl (fun o20 hw => ?_)
      refine go_astore C [(6, rV o20), (0, rV (some a0)), (1, iV p1), (2, rV (some a1)), (3, iV p3), (4, iV v9), (5, iV x14)] dX8_fits_125 (Nat.le_of_ble_eq_true rfl) rfl ?_
      refine go_aload C dX8_fits_127 0 rfl ?_
      refine jn_elim (P := fun j => ∀ (v21 : Int32), j v21 → Go G X rmX8_fits 8 0 0 (QN G X (QI G (fun r h1 => h1 = h0 ∧ K r)) rmX8_fits) h0 143 [(0, rV (some a0)), (1, iV p1), (2, rV (some a1)), (3, iV p3), (4, iV v9), (5, iV x14), (6, rV o20)] [iV v21]) hw (fun v21 hw => ?_) (fun j143 hj143 hw => ?_)
      · refine go_istore C [(7, iV v21), (0, rV (some a0)), (1, iV p1), (2, rV (some a1)), (3, iV p3), (4, iV v9), (5, iV x14), (6, rV o20)] dX8_fits_143 (Nat.le_of_ble_eq_true rfl) rfl ?_
        refine go_aload C dX8_fits_145 7 rfl ?_
        refine jn_elim (P := fun j => j  → Go G X rmX8_fits 8 0 0 (QN G X (QI G (fun r h1 => h1 = h0 ∧ K r)) rmX8_fits) h0 193 [(0, rV (some a0)), (1, iV p1), (2, rV (some a1)), (3, iV p3), (4, iV v9), (5, iV x14)] []) hw (fun  hw => ?_) (fun j193 hj193 hw => ?_)
        · refine go_iinc C (x14 + 1) [(5, iV (x14 + 1)), (0, rV (some a0)), (1, iV p1), (2, rV (some a1)), (3, iV p3), (4, iV v9)] dX8_fits_193 5 rfl (by rw [kc_i1]) (Nat.le_of_ble_eq_true rfl) rfl ?_
          refine go_goto C 104 dX8_fits_196 (by decide) ?_
          refine go_sub [1, 2, 3, 4, 5, 0] rfl ?_
          exact hj104 (x14 + 1) hw
        refine go_ifnull C 193 dX8_fits_147 (by decide) hw (fun e9 hw9 => ?_) (fun a22 e9 hw9 => ?_)
        · clear hw
          subst e9
          have hw := hw9
          clear hw9
          refine go_sub [1, 2, 3, 4, 5, 6] rfl ?_
          exact hj193  hw
        clear hw
        subst e9
        have hw := hw9
        clear hw9
        refine go_aload_n C dX8_fits_150 1 rfl ?_
        refine go_getR C (cfX8) (k := 3) (Nat.le_of_ble_eq_true rfl) tw1_145 rfl dX8_fits_151 hw (fun o23 hw => ?_)
        refine go_iload C dX8_fits_154 0 rfl ?_
        refine go_iload_n C dX8_fits_156 2 rfl ?_
        obtain ⟨a24, e9, hw9⟩ := hw
        subst e9
        have hw := hw9
        clear hw9
        refine go_pV_i C [iV v21, iV p1] vX5_isAhead tw2_231 (ci := 5) rfl (m_X5_isAhead (xl X) C.2.2.2.2.2.2.2.1 N hw.2) ⟨Nat.le_of_ble_eq_true rfl, Nat.le_of_ble_eq_true rfl, Nat.le_of_ble_eq_true rfl, Nat.le_of_ble_eq_true rfl⟩ ⟨rfl, rfl⟩ hw.1 dX8_fits_157 rfl (Nat.le_of_ble_eq_true rfl) rfl (fun v25 hw => ?_)
        refine go_if_eq C 193 dX8_fits_160 (by decide) hw (fun hw => ?_) (fun hw => ?_)
        · refine go_sub [1, 2, 3, 4, 5, 6] rfl ?_
          exact hj193  hw
        refine go_aload_n C dX8_fits_163 1 rfl ?_
        refine go_iload C dX8_fits_164 0 rfl ?_
        refine go_aload C dX8_fits_166 7 rfl ?_
        refine go_iload C dX8_fits_168 0 rfl ?_
        refine go_pV_i C [iV v21] vX4_columnOf tw2_235 (ci := 4) rfl (m_X4_columnOf (xl X) C.2.2.2.2.2.2.2.1 N hw.2) ⟨Nat.le_of_ble_eq_true rfl, Nat.le_of_ble_eq_true rfl, Nat.le_of_ble_eq_true rfl, Nat.le_of_ble_eq_true rfl⟩ ⟨rfl, rfl⟩ hw.1 dX8_fits_170 rfl (Nat.le_of_ble_eq_true rfl) rfl (fun v26 hw => ?_)
        refine go_pV_i C [iV v21, iV v26] vX8_heldAt tw2_239 (ci := 8) rfl (m_X8_heldAt (xl X) C.2.2.2.2.2.2.2.1 N hw.2) ⟨Nat.le_of_ble_eq_true rfl, Nat.le_of_ble_eq_true rfl, Nat.le_of_ble_eq_true rfl, Nat.le_of_ble_eq_true rfl⟩ ⟨rfl, rfl⟩ hw.1 dX8_fits_173 rfl (Nat.le_of_ble_eq_true rfl) rfl (fun v27 hw => ?_)
        refine go_aload_n C dX8_fits_176 3 rfl ?_
        refine go_iload_n C dX8_fits_177 4 rfl ?_
        refine go_aload C dX8_fits_178 7 rfl ?_
        refine go_iload C dX8_fits_180 5 rfl ?_
        refine go_pV_i C [iV v9] vX4_columnOf tw2_235 (ci := 4) rfl (m_X4_columnOf (xl X) C.2.2.2.2.2.2.2.1 N hw.2) ⟨Nat.le_of_ble_eq_true rfl, Nat.le_of_ble_eq_true rfl, Nat.le_of_ble_eq_true rfl, Nat.le_of_ble_eq_true rfl⟩ ⟨rfl, rfl⟩ hw.1 dX8_fits_182 rfl (Nat.le_of_ble_eq_true rfl) rfl (fun v28 hw => ?_)
        refine go_pV_i C [iV p3, iV v28] vX10_cell tw2_214 (ci := 10) rfl (m_X10_cell (xl X) C.2.2.2.2.2.2.2.1 N hw.2) ⟨Nat.le_of_ble_eq_true rfl, Nat.le_of_ble_eq_true rfl, Nat.le_of_ble_eq_true rfl, Nat.le_of_ble_eq_true rfl⟩ ⟨rfl, rfl⟩ hw.1 dX8_fits_185 rfl (Nat.le_of_ble_eq_true rfl) rfl (fun v29 hw => ?_)
        refine go_icmp_eq C 193 dX8_fits_188 (by decide) hw (fun hw => ?_) (fun hw => ?_)
        · refine go_sub [1, 2, 3, 4, 5, 6] rfl ?_
          exact hj193  hw
        refine go_iconst C 0 dX8_fits_191 kc_i0 ?_
        exact go_zret C dX8_fits_192 ⟨rfl, ⟨rfl, hw⟩⟩ (Nat.le_of_ble_eq_true rfl) (Nat.le_of_ble_eq_true rfl)
      refine go_ifnonnull C 136 dX8_fits_129 (by decide) hw (fun a30 e9 hw9 => ?_) (fun e9 hw9 => ?_)
      · clear hw
        subst e9
        have hw := hw9
        clear hw9
        refine go_aload C dX8_fits_136 0 rfl ?_
        refine go_iload C dX8_fits_138 5 rfl ?_
        refine go_pV_i C [iV v9] vX4_partnerOf tw2_227 (ci := 4) rfl (m_X4_partnerOf (xl X) C.2.2.2.2.2.2.2.1 N hw.2) ⟨Nat.le_of_ble_eq_true rfl, Nat.le_of_ble_eq_true rfl, Nat.le_of_ble_eq_true rfl, Nat.le_of_ble_eq_true rfl⟩ ⟨rfl, rfl⟩ hw.1 dX8_fits_140 rfl (Nat.le_of_ble_eq_true rfl) rfl (fun v31 hw => ?_)
        refine go_sub [1, 2, 3, 4, 5, 6, 0] rfl ?_
        exact hj143 v31 hw
      clear hw
      subst e9
      have hw := hw9
      clear hw9
      refine go_iconst C (-1) dX8_fits_132 kc_im1 ?_
      refine go_goto C 143 dX8_fits_133 (by decide) ?_
      refine go_sub [1, 2, 3, 4, 5, 6, 0] rfl ?_
      exact hj143 (-1) hw
    refine go_aload_n C dX8_fits_49 0 rfl ?_
    refine go_getR C (cfX8) (k := 2) (Nat.le_of_ble_eq_true rfl) tw1_144 rfl dX8_fits_50 hw (fun o32 hw => ?_)
    refine go_iload C dX8_fits_53 5 rfl ?_
    obtain ⟨a33, e9, hw9⟩ := hw
    subst e9
    have hw := hw9
    clear hw9
    refine go_pV_q C [iV x10] vX7_conditionAt tw2_202 (ci := 7) rfl (m_X7_conditionAt (xl X) C.2.2.2.2.2.2.2.1 N hw.2) ⟨Nat.le_of_ble_eq_true rfl, Nat.le_of_ble_eq_true rfl, Nat.le_of_ble_eq_true rfl, Nat.le_of_ble_eq_true rfl⟩ ⟨rfl, rfl⟩ hw.1 dX8_fits_55 rfl (Nat.le_of_ble_eq_true rfl) rfl (fun o34 hw => ?_)
    refine go_astore C [(6, rV o34), (0, rV (some a0)), (1, iV p1), (2, rV (some a1)), (3, iV p3), (4, iV v9), (5, iV x10)] dX8_fits_58 (Nat.le_of_ble_eq_true rfl) rfl ?_
    refine go_aload C dX8_fits_60 0 rfl ?_
    refine jn_elim (P := fun j => j  → Go G X rmX8_fits 8 0 0 (QN G X (QI G (fun r h1 => h1 = h0 ∧ K r)) rmX8_fits) h0 95 [(0, rV (some a0)), (1, iV p1), (2, rV (some a1)), (3, iV p3), (4, iV v9), (5, iV x10)] []) hw (fun  hw => ?_) (fun j95 hj95 hw => ?_)
    · refine go_iinc C (x10 + 1) [(5, iV (x10 + 1)), (0, rV (some a0)), (1, iV p1), (2, rV (some a1)), (3, iV p3), (4, iV v9)] dX8_fits_95 5 rfl (by rw [kc_i1]) (Nat.le_of_ble_eq_true rfl) rfl ?_
      refine go_goto C 37 dX8_fits_98 (by decide) ?_
      refine go_sub [1, 2, 3, 4, 5, 0] rfl ?_
      exact hj37 (x10 + 1) hw
    refine go_ifnull C 95 dX8_fits_62 (by decide) hw (fun e9 hw9 => ?_) (fun a35 e9 hw9 => ?_)
    · clear hw
      subst e9
      have hw := hw9
      clear hw9
      refine go_sub [1, 2, 3, 4, 5, 6] rfl ?_
      exact hj95  hw
    clear hw
    subst e9
    have hw := hw9
    clear hw9
    refine go_aload C dX8_fits_65 0 rfl ?_
    refine go_pV_i C [] vX1_position tw2_206 (ci := 1) rfl (m_X1_position (xl X) C.2.2.2.2.2.2.2.1 N hw.2) ⟨Nat.le_of_ble_eq_true rfl, Nat.le_of_ble_eq_true rfl, Nat.le_of_ble_eq_true rfl, Nat.le_of_ble_eq_true rfl⟩ ⟨rfl, rfl⟩ hw.1 dX8_fits_67 rfl (Nat.le_of_ble_eq_true rfl) rfl (fun v36 hw => ?_)
    refine go_iload C dX8_fits_70 5 rfl ?_
    refine go_icmp_ne C 95 dX8_fits_72 (by decide) hw (fun hw => ?_) (fun hw => ?_)
    · refine go_sub [1, 2, 3, 4, 5, 6] rfl ?_
      exact hj95  hw
    refine go_aload C dX8_fits_75 0 rfl ?_
    refine go_aload_n C dX8_fits_77 3 rfl ?_
    refine go_iload_n C dX8_fits_78 4 rfl ?_
    refine go_aload C dX8_fits_79 0 rfl ?_
    refine go_pV_i C [] vX1_column tw2_210 (ci := 1) rfl (m_X1_column (xl X) C.2.2.2.2.2.2.2.1 N hw.2) ⟨Nat.le_of_ble_eq_true rfl, Nat.le_of_ble_eq_true rfl, Nat.le_of_ble_eq_true rfl, Nat.le_of_ble_eq_true rfl⟩ ⟨rfl, rfl⟩ hw.1 dX8_fits_81 rfl (Nat.le_of_ble_eq_true rfl) rfl (fun v37 hw => ?_)
    refine go_pV_i C [iV p3, iV v37] vX10_cell tw2_214 (ci := 10) rfl (m_X10_cell (xl X) C.2.2.2.2.2.2.2.1 N hw.2) ⟨Nat.le_of_ble_eq_true rfl, Nat.le_of_ble_eq_true rfl, Nat.le_of_ble_eq_true rfl, Nat.le_of_ble_eq_true rfl⟩ ⟨rfl, rfl⟩ hw.1 dX8_fits_84 rfl (Nat.le_of_ble_eq_true rfl) rfl (fun v38 hw => ?_)
    refine go_pV_i C [iV v38] vX1_allows tw2_215 (ci := 1) rfl (m_X1_allows (xl X) C.2.2.2.2.2.2.2.1 N hw.2) ⟨Nat.le_of_ble_eq_true rfl, Nat.le_of_ble_eq_true rfl, Nat.le_of_ble_eq_true rfl, Nat.le_of_ble_eq_true rfl⟩ ⟨rfl, rfl⟩ hw.1 dX8_fits_87 rfl (Nat.le_of_ble_eq_true rfl) rfl (fun v39 hw => ?_)
    refine go_if_ne C 95 dX8_fits_90 (by decide) hw (fun hw => ?_) (fun hw => ?_)
    · refine go_sub [1, 2, 3, 4, 5, 6] rfl ?_
      exact hj95  hw
    refine go_iconst C 0 dX8_fits_93 kc_i0 ?_
    exact go_zret C dX8_fits_94 ⟨rfl, ⟨rfl, hw⟩⟩ (Nat.le_of_ble_eq_true rfl) (Nat.le_of_ble_eq_true rfl)
  clear hw
  subst e9
  have hw := hw9
  clear hw9
  refine go_iconst C 0 dX8_fits_22 kc_i0 ?_
  exact go_zret C dX8_fits_23 ⟨rfl, ⟨rfl, hw⟩⟩ (Nat.le_of_ble_eq_true rfl) (Nat.le_of_ble_eq_true rfl)
/-- DuelSchema$Runner.noteAnswer()V -/
def w_X8_noteAnswer (N : Nat) (a0 : Nat) (h0 : Hp) (K : Hp → Prop) : Prop :=
  fx2 (fun (w4 : Int64 → Int32 → Prop) (y1 : Int64) (x2 : Int32) =>
    gA h0 a0 8 5 fun a3 =>
    aN h0 a3 fun v4 =>
    br (v4 ≤ x2) (
      gL h0 a0 8 10 fun v5 =>
      pF h0 a0 8 10 (lV (v5 + ((y1 + 1) * (y1 + 31)))) fun h6 =>
      gI h6 a0 8 9 fun v7 =>
      gI h6 a0 8 11 fun v8 =>
      jn (fun (h9 : Hp) => 
        gL h9 a0 8 15 fun v10 =>
        gI h9 a0 8 12 fun v11 =>
        gI h9 a0 8 13 fun v12 =>
        cv h9 a0 8 <| w_X8_heldAt N a0 v11 v12 h9 fun v13 =>
        pF h9 a0 8 15 (lV (v10 + ((v13 : Int32).toInt64))) fun h14 =>
        gI h14 a0 8 9 fun v15 =>
        pF h14 a0 8 9 (iV (v15 + 1)) fun h16 =>
        K h16) (fun j94 =>
      br (v7 = v8) (
        gI h6 a0 8 12 fun v17 =>
        br (v17 < 0) (
          j94 h6) (
          gI h6 a0 8 12 fun v18 =>
          gA h6 a0 8 5 fun a19 =>
          aN h6 a19 fun v20 =>
          br (v20 ≤ v18) (
            j94 h6) (
            gA h6 a0 8 5 fun a21 =>
            gI h6 a0 8 12 fun v22 =>
            aI h6 a21 0 v22 fun v23 =>
            pF h6 a0 8 14 (iV v23) fun h24 =>
            j94 h24))) (
        j94 h6))) (
      gA h0 a0 8 5 fun a25 =>
      aI h0 a25 0 x2 fun v26 =>
      w4 ((y1 * 40) + ((v26 : Int32).toInt64)) (x2 + 1))) N 0 0
abbrev rmX8_noteAnswer : Room := { frames := 3, cells := 0, slots := 0, locals := 83 }
theorem vX8_noteAnswer : VI RX8 yX8_noteAnswer cX8_noteAnswer 4 none 0 := ⟨tw3_5, tp9, tw1_6, tw3_6, by decide +kernel⟩
set_option maxHeartbeats 4000000 in
theorem m_X8_noteAnswer {G : Gp} (l : Launch) (hfl : l.stackTraces = false) (N : Nat) {a0 : Nat} {h0 : Hp} {K : Hp → Prop} (hw : w_X8_noteAnswer N a0 h0 K) : MT G l yX8_noteAnswer cX8_noteAnswer 4 none rmX8_noteAnswer [rV (some a0)] h0 (QV G K) := by
  refine go_metT l hfl _ 4 _ _ rfl (by decide +kernel) (Nat.le_of_ble_eq_true rfl) [(0, rV (some a0))] rfl (fun X hX C hn => ?_)
  subst hX
  unfold w_X8_noteAnswer at hw
  refine go_lconst C 0 dX8_noteAnswer_0 rfl ?_
  refine go_lstore_n C [(1, lV 0), (0, rV (some a0))] dX8_noteAnswer_1 (Nat.le_of_ble_eq_true rfl) rfl ?_
  refine go_iconst C 0 dX8_noteAnswer_2 kc_i0 ?_
  refine go_istore_n C [(3, iV 0), (1, lV 0), (0, rV (some a0))] dX8_noteAnswer_3 (Nat.le_of_ble_eq_true rfl) rfl ?_
  refine go_sub [2, 1, 0] rfl ?_
  refine fx2_elim (P := fun y1 x2 => Go G X rmX8_noteAnswer 4 0 0 (QN G X (QV G K) rmX8_noteAnswer) h0 4 [(0, rV (some a0)), (1, lV y1), (3, iV x2)] []) (fun w4 hj4 y1 x2 hw => ?_) N _ _ hw
  refine go_iload_n C dX8_noteAnswer_4 2 rfl ?_
  refine go_aload_n C dX8_noteAnswer_5 0 rfl ?_
  refine go_getA C (cfX8) (k := 5) (Nat.le_of_ble_eq_true rfl) tw1_147 rfl dX8_noteAnswer_6 hw (fun a3 hw => ?_)
  refine go_alen C dX8_noteAnswer_9 hw (fun v4 hw => ?_)
  refine go_icmp_ge C 33 dX8_noteAnswer_10 (by decide) hw (fun hw => ?_) (fun hw => ?_)
  · refine go_aload_n C dX8_noteAnswer_33 0 rfl ?_
    refine go_dup C _ dX8_noteAnswer_34 rfl ?_
    refine go_getL C (cfX8) (k := 10) (Nat.le_of_ble_eq_true rfl) tw1_152 rfl dX8_noteAnswer_35 hw (fun v5 hw => ?_)
    refine go_lload_n C dX8_noteAnswer_38 1 rfl ?_
    refine go_lconst C 1 dX8_noteAnswer_39 rfl ?_
    refine go_ladd C dX8_noteAnswer_40 ?_
    refine go_lload_n C dX8_noteAnswer_41 1 rfl ?_
    refine go_ldc2 C 31 dX8_noteAnswer_42 tw3_8 ?_
    refine go_ladd C dX8_noteAnswer_45 ?_
    refine go_lmul C dX8_noteAnswer_46 ?_
    refine go_ladd C dX8_noteAnswer_47 ?_
    refine go_putL C (cfX8) (k := 10) (Nat.le_of_ble_eq_true rfl) tw1_152 rfl (Or.inl rfl) rfl dX8_noteAnswer_48 hw (fun h6 hw => ?_)
    refine go_aload_n C dX8_noteAnswer_51 0 rfl ?_
    refine go_getI C (cfX8) (k := 9) (Nat.le_of_ble_eq_true rfl) tw1_151 rfl dX8_noteAnswer_52 hw (fun v7 hw => ?_)
    refine go_aload_n C dX8_noteAnswer_55 0 rfl ?_
    refine go_getI C (cfX8) (k := 11) (Nat.le_of_ble_eq_true rfl) tw1_153 rfl dX8_noteAnswer_56 hw (fun v8 hw => ?_)
    refine jn_elim (P := fun j => ∀ (h9 : Hp), j h9 → Go G X rmX8_noteAnswer 4 0 0 (QN G X (QV G K) rmX8_noteAnswer) h9 94 [(0, rV (some a0))] []) hw (fun h9 hw => ?_) (fun j94 hj94 hw => ?_)
    · refine go_aload_n C dX8_noteAnswer_94 0 rfl ?_
      refine go_dup C _ dX8_noteAnswer_95 rfl ?_
      refine go_getL C (cfX8) (k := 15) (Nat.le_of_ble_eq_true rfl) tw1_157 rfl dX8_noteAnswer_96 hw (fun v10 hw => ?_)
      refine go_aload_n C dX8_noteAnswer_99 0 rfl ?_
      refine go_aload_n C dX8_noteAnswer_100 0 rfl ?_
      refine go_getI C (cfX8) (k := 12) (Nat.le_of_ble_eq_true rfl) tw1_154 rfl dX8_noteAnswer_101 hw (fun v11 hw => ?_)
      refine go_aload_n C dX8_noteAnswer_104 0 rfl ?_
      refine go_getI C (cfX8) (k := 13) (Nat.le_of_ble_eq_true rfl) tw1_155 rfl dX8_noteAnswer_105 hw (fun v12 hw => ?_)
      refine go_pV_i C [iV v11, iV v12] vX8_heldAt tw2_239 (ci := 8) rfl (m_X8_heldAt (xl X) C.2.2.2.2.2.2.2.1 N hw.2) ⟨Nat.le_of_ble_eq_true rfl, Nat.le_of_ble_eq_true rfl, Nat.le_of_ble_eq_true rfl, Nat.le_of_ble_eq_true rfl⟩ ⟨rfl, rfl⟩ hw.1 dX8_noteAnswer_108 rfl (Nat.le_of_ble_eq_true rfl) rfl (fun v13 hw => ?_)
      refine go_i2l C dX8_noteAnswer_111 ?_
      refine go_ladd C dX8_noteAnswer_112 ?_
      refine go_putL C (cfX8) (k := 15) (Nat.le_of_ble_eq_true rfl) tw1_157 rfl (Or.inl rfl) rfl dX8_noteAnswer_113 hw (fun h14 hw => ?_)
      refine go_aload_n C dX8_noteAnswer_116 0 rfl ?_
      refine go_dup C _ dX8_noteAnswer_117 rfl ?_
      refine go_getI C (cfX8) (k := 9) (Nat.le_of_ble_eq_true rfl) tw1_151 rfl dX8_noteAnswer_118 hw (fun v15 hw => ?_)
      refine go_iconst C 1 dX8_noteAnswer_121 kc_i1 ?_
      refine go_iadd C dX8_noteAnswer_122 ?_
      refine go_putI C (cfX8) (k := 9) (Nat.le_of_ble_eq_true rfl) tw1_151 rfl (Or.inl rfl) rfl dX8_noteAnswer_123 hw (fun h16 hw => ?_)
      exact go_vret C dX8_noteAnswer_126 hw (Nat.le_of_ble_eq_true rfl) (Nat.le_of_ble_eq_true rfl)
    refine go_icmp_ne C 94 dX8_noteAnswer_59 (by decide) hw (fun hw => ?_) (fun hw => ?_)
    · refine go_sub [0] rfl ?_
      exact hj94 h6 hw
    refine go_aload_n C dX8_noteAnswer_62 0 rfl ?_
    refine go_getI C (cfX8) (k := 12) (Nat.le_of_ble_eq_true rfl) tw1_154 rfl dX8_noteAnswer_63 hw (fun v17 hw => ?_)
    refine go_if_lt C 94 dX8_noteAnswer_66 (by decide) hw (fun hw => ?_) (fun hw => ?_)
    · refine go_sub [0] rfl ?_
      exact hj94 h6 hw
    refine go_aload_n C dX8_noteAnswer_69 0 rfl ?_
    refine go_getI C (cfX8) (k := 12) (Nat.le_of_ble_eq_true rfl) tw1_154 rfl dX8_noteAnswer_70 hw (fun v18 hw => ?_)
    refine go_aload_n C dX8_noteAnswer_73 0 rfl ?_
    refine go_getA C (cfX8) (k := 5) (Nat.le_of_ble_eq_true rfl) tw1_147 rfl dX8_noteAnswer_74 hw (fun a19 hw => ?_)
    refine go_alen C dX8_noteAnswer_77 hw (fun v20 hw => ?_)
    refine go_icmp_ge C 94 dX8_noteAnswer_78 (by decide) hw (fun hw => ?_) (fun hw => ?_)
    · refine go_sub [0] rfl ?_
      exact hj94 h6 hw
    refine go_aload_n C dX8_noteAnswer_81 0 rfl ?_
    refine go_aload_n C dX8_noteAnswer_82 0 rfl ?_
    refine go_getA C (cfX8) (k := 5) (Nat.le_of_ble_eq_true rfl) tw1_147 rfl dX8_noteAnswer_83 hw (fun a21 hw => ?_)
    refine go_aload_n C dX8_noteAnswer_86 0 rfl ?_
    refine go_getI C (cfX8) (k := 12) (Nat.le_of_ble_eq_true rfl) tw1_154 rfl dX8_noteAnswer_87 hw (fun v22 hw => ?_)
    refine go_iaload C dX8_noteAnswer_90 hw (fun v23 hw => ?_)
    refine go_putI C (cfX8) (k := 14) (Nat.le_of_ble_eq_true rfl) tw1_156 rfl (Or.inl rfl) rfl dX8_noteAnswer_91 hw (fun h24 hw => ?_)
    refine go_sub [0] rfl ?_
    exact hj94 h24 hw
  refine go_lload_n C dX8_noteAnswer_13 1 rfl ?_
  refine go_ldc2 C 40 dX8_noteAnswer_14 tw3_7 ?_
  refine go_lmul C dX8_noteAnswer_17 ?_
  refine go_aload_n C dX8_noteAnswer_18 0 rfl ?_
  refine go_getA C (cfX8) (k := 5) (Nat.le_of_ble_eq_true rfl) tw1_147 rfl dX8_noteAnswer_19 hw (fun a25 hw => ?_)
  refine go_iload_n C dX8_noteAnswer_22 2 rfl ?_
  refine go_iaload C dX8_noteAnswer_23 hw (fun v26 hw => ?_)
  refine go_i2l C dX8_noteAnswer_24 ?_
  refine go_ladd C dX8_noteAnswer_25 ?_
  refine go_lstore_n C [(1, lV ((y1 * 40) + ((v26 : Int32).toInt64))), (0, rV (some a0)), (3, iV x2)] dX8_noteAnswer_26 (Nat.le_of_ble_eq_true rfl) rfl ?_
  refine go_iinc C (x2 + 1) [(3, iV (x2 + 1)), (1, lV ((y1 * 40) + ((v26 : Int32).toInt64))), (0, rV (some a0))] dX8_noteAnswer_27 2 rfl (by rw [kc_i1]) (Nat.le_of_ble_eq_true rfl) rfl ?_
  refine go_goto C 4 dX8_noteAnswer_30 (by decide) ?_
  refine go_sub [2, 1, 0] rfl ?_
  exact hj4 ((y1 * 40) + ((v26 : Int32).toInt64)) (x2 + 1) hw
/-- DuelSchema$Runner.visitRow(ILDuelSchema$Table;I)V -/
def w_X8_visitRow (wv : Nat → Int32 → Hp → (Hp → Prop) → Prop) (N : Nat) (a0 : Nat) (p1 : Int32) (p2 : Option Nat) (p3 : Int32) (h0 : Hp) (K : Hp → Prop) : Prop :=
  gR h0 a0 8 3 fun o1 =>
  jn (fun (v2 : Int32) => 
    br (v2 < 0) (
      K h0) (
      gA h0 a0 8 5 fun a3 =>
      aN h0 a3 fun v4 =>
      br (v4 ≤ v2) (
        K h0) (
        cv h0 a0 8 <| w_X8_fits N a0 p1 p2 p3 h0 fun v5 =>
        br (v5 = 0) (
          K h0) (
          gA h0 a0 8 5 fun a6 =>
          sI h0 a6 0 v2 p3 fun h7 =>
          fx2 (fun (w58 : Int32 → Hp → Prop) (x9 : Int32) (h8 : Hp) =>
            br (3 ≤ x9) (
              gR h8 a0 8 3 fun o10 =>
              nn o10 fun a11 => cv h8 a11 5 <| w_X5_size N a11  h8 fun v12 =>
              br ((p1 + 1) = v12) (
                cv h8 a0 8 <| w_X8_noteAnswer N a0  h8 fun h14 =>
                K h14) (
                cv h8 a0 8 <| wv a0 (p1 + 1) h8 fun h13 =>
                K h13)) (
              gA h8 a0 8 6 fun a15 =>
              aN h8 a15 fun v16 =>
              jn (fun (h17 : Hp) => 
                w58 (x9 + 1) h17) (fun j97 =>
              br (v16 ≤ ((v2 * 3) + x9)) (
                j97 h8) (
                gA h8 a0 8 6 fun a18 =>
                nn p2 fun a19 => cv h8 a19 10 <| w_X10_cell N a19 p3 x9 h8 fun v20 =>
                sI h8 a18 0 ((v2 * 3) + x9) v20 fun h21 =>
                j97 h21)))) N 0 h7)))) (fun j19 =>
  brn o1 (
    j19 (-1)) (fun a22 =>
    gR h0 a0 8 3 fun o23 =>
    nn o23 fun a24 => cv h0 a24 5 <| w_X5_positionAt N a24 p1 h0 fun v25 =>
    j19 v25))
abbrev rmX8_visitRow (d : Nat) : Room := { frames := 17 + 3 * d, cells := 0, slots := 0, locals := 460 + 200 * d }
abbrev rmX8_visit (d : Nat) : Room := { frames := 16 + 3 * d, cells := 0, slots := 0, locals := 400 + 200 * d }
theorem vX8_visitRow : VI RX8 yX8_visitRow cX8_visitRow 7 none 3 := ⟨tw2_191, tp6, tw1_6, tw2_192, by decide +kernel⟩
theorem vX8_visit : VI RX8 yX8_visit cX8_visit 4 none 1 := ⟨tw2_136, tp3, tw1_6, tw2_137, by decide +kernel⟩
set_option maxHeartbeats 4000000 in
theorem m_X8_visitRow {G : Gp} (l : Launch) (hfl : l.stackTraces = false) (d : Nat) {wv : Nat → Int32 → Hp → (Hp → Prop) → Prop} (hv : ∀ (a0 : Nat) (p1 : Int32) (h0 : Hp) (K : Hp → Prop), wv a0 p1 h0 K → MT G l yX8_visit cX8_visit 4 none (rmX8_visit d) [rV (some a0), iV p1] h0 (QV G K)) (N : Nat) {a0 : Nat} {p1 : Int32} {p2 : Option Nat} {p3 : Int32} {h0 : Hp} {K : Hp → Prop} (hw : w_X8_visitRow wv N a0 p1 p2 p3 h0 K) : MT G l yX8_visitRow cX8_visitRow 7 none (rmX8_visitRow d) [rV (some a0), iV p1, rV p2, iV p3] h0 (QV G K) := by
  refine go_metT l hfl _ 7 _ _ rfl (by decide +kernel) (Nat.le_of_ble_eq_true rfl) [(0, rV (some a0)), (1, iV p1), (2, rV p2), (3, iV p3)] rfl (fun X hX C hn => ?_)
  subst hX
  unfold w_X8_visitRow at hw
  refine go_aload_n C dX8_visitRow_0 0 rfl ?_
  refine go_getR C (cfX8) (k := 3) (Nat.le_of_ble_eq_true rfl) tw1_145 rfl dX8_visitRow_1 hw (fun o1 hw => ?_)
  refine jn_elim (P := fun j => ∀ (v2 : Int32), j v2 → Go G X (rmX8_visitRow d) 7 0 0 (QN G X (QV G K) (rmX8_visitRow d)) h0 19 [(0, rV (some a0)), (1, iV p1), (2, rV p2), (3, iV p3)] [iV v2]) hw (fun v2 hw => ?_) (fun j19 hj19 hw => ?_)
  · refine go_istore C [(4, iV v2), (0, rV (some a0)), (1, iV p1), (2, rV p2), (3, iV p3)] dX8_visitRow_19 (Nat.le_of_ble_eq_true rfl) rfl ?_
    refine go_iload C dX8_visitRow_21 0 rfl ?_
    refine go_if_lt C 46 dX8_visitRow_23 (by decide) hw (fun hw => ?_) (fun hw => ?_)
    · exact go_vret C dX8_visitRow_46 hw (Nat.le_of_ble_eq_true rfl) (Nat.le_of_ble_eq_true rfl)
    refine go_iload C dX8_visitRow_26 0 rfl ?_
    refine go_aload_n C dX8_visitRow_28 1 rfl ?_
    refine go_getA C (cfX8) (k := 5) (Nat.le_of_ble_eq_true rfl) tw1_147 rfl dX8_visitRow_29 hw (fun a3 hw => ?_)
    refine go_alen C dX8_visitRow_32 hw (fun v4 hw => ?_)
    refine go_icmp_ge C 46 dX8_visitRow_33 (by decide) hw (fun hw => ?_) (fun hw => ?_)
    · exact go_vret C dX8_visitRow_46 hw (Nat.le_of_ble_eq_true rfl) (Nat.le_of_ble_eq_true rfl)
    refine go_aload_n C dX8_visitRow_36 1 rfl ?_
    refine go_iload_n C dX8_visitRow_37 2 rfl ?_
    refine go_aload_n C dX8_visitRow_38 3 rfl ?_
    refine go_iload_n C dX8_visitRow_39 4 rfl ?_
    refine go_pV_i C [iV p1, rV p2, iV p3] vX8_fits tw2_193 (ci := 8) rfl (m_X8_fits (xl X) C.2.2.2.2.2.2.2.1 N hw.2) ⟨by simp only [rmX8_fits, rmX8_visitRow]; omega, by simp only [rmX8_fits, rmX8_visitRow]; omega, Nat.le_of_ble_eq_true rfl, Nat.le_of_ble_eq_true rfl⟩ ⟨rfl, rfl⟩ hw.1 dX8_visitRow_40 rfl (Nat.le_of_ble_eq_true rfl) rfl (fun v5 hw => ?_)
    refine go_if_ne C 47 dX8_visitRow_43 (by decide) hw (fun hw => ?_) (fun hw => ?_)
    · refine go_aload_n C dX8_visitRow_47 1 rfl ?_
      refine go_getA C (cfX8) (k := 5) (Nat.le_of_ble_eq_true rfl) tw1_147 rfl dX8_visitRow_48 hw (fun a6 hw => ?_)
      refine go_iload C dX8_visitRow_51 0 rfl ?_
      refine go_iload_n C dX8_visitRow_53 4 rfl ?_
      refine go_iastore C dX8_visitRow_54 hw (fun h7 hw => ?_)
      refine go_iconst C 0 dX8_visitRow_55 kc_i0 ?_
      refine go_istore C [(5, iV 0), (4, iV v2), (0, rV (some a0)), (1, iV p1), (2, rV p2), (3, iV p3)] dX8_visitRow_56 (Nat.le_of_ble_eq_true rfl) rfl ?_
      refine go_sub [2, 3, 4, 5, 1, 0] rfl ?_
      refine fx2_elim (P := fun x9 h8 => Go G X (rmX8_visitRow d) 7 0 0 (QN G X (QV G K) (rmX8_visitRow d)) h8 58 [(0, rV (some a0)), (1, iV p1), (2, rV p2), (3, iV p3), (4, iV v2), (5, iV x9)] []) (fun w58 hj58 x9 h8 hw => ?_) N _ _ hw
      refine go_iload C dX8_visitRow_58 5 rfl ?_
      refine go_iconst C 3 dX8_visitRow_60 kc_i3 ?_
      refine go_icmp_ge C 103 dX8_visitRow_61 (by decide) hw (fun hw => ?_) (fun hw => ?_)
      · refine go_iload_n C dX8_visitRow_103 1 rfl ?_
        refine go_iconst C 1 dX8_visitRow_104 kc_i1 ?_
        refine go_iadd C dX8_visitRow_105 ?_
        refine go_aload_n C dX8_visitRow_106 0 rfl ?_
        refine go_getR C (cfX8) (k := 3) (Nat.le_of_ble_eq_true rfl) tw1_145 rfl dX8_visitRow_107 hw (fun o10 hw => ?_)
        obtain ⟨a11, e9, hw9⟩ := hw
        subst e9
        have hw := hw9
        clear hw9
        refine go_pV_i C [] vX5_size tw2_138 (ci := 5) rfl (m_X5_size (xl X) C.2.2.2.2.2.2.2.1 N hw.2) ⟨by simp only [rmX5_size, rmX8_visitRow]; omega, by simp only [rmX5_size, rmX8_visitRow]; omega, Nat.le_of_ble_eq_true rfl, Nat.le_of_ble_eq_true rfl⟩ ⟨rfl, rfl⟩ hw.1 dX8_visitRow_110 rfl (Nat.le_of_ble_eq_true rfl) rfl (fun v12 hw => ?_)
        refine go_icmp_ne C 123 dX8_visitRow_113 (by decide) hw (fun hw => ?_) (fun hw => ?_)
        · refine go_aload_n C dX8_visitRow_123 0 rfl ?_
          refine go_iload_n C dX8_visitRow_124 1 rfl ?_
          refine go_iconst C 1 dX8_visitRow_125 kc_i1 ?_
          refine go_iadd C dX8_visitRow_126 ?_
          refine go_c0V_v C [iV (p1 + 1)] vX8_visit tw2_134 (ci := 8) rfl (hv _ _ _ _ hw.2) ⟨by simp only [rmX8_visit, rmX8_visitRow]; omega, by simp only [rmX8_visit, rmX8_visitRow]; omega, Nat.le_of_ble_eq_true rfl, Nat.le_of_ble_eq_true rfl⟩ ⟨rfl, rfl⟩ hw.1 dX8_visitRow_127 rfl (Nat.le_of_ble_eq_true rfl) rfl (fun h13 hw => ?_)
          exact go_vret C dX8_visitRow_130 hw (Nat.le_of_ble_eq_true rfl) (Nat.le_of_ble_eq_true rfl)
        refine go_aload_n C dX8_visitRow_116 0 rfl ?_
        refine go_c0V_v C [] vX8_noteAnswer tw3_3 (ci := 8) rfl (m_X8_noteAnswer (xl X) C.2.2.2.2.2.2.2.1 N hw.2) ⟨by simp only [rmX8_noteAnswer, rmX8_visitRow]; omega, by simp only [rmX8_noteAnswer, rmX8_visitRow]; omega, Nat.le_of_ble_eq_true rfl, Nat.le_of_ble_eq_true rfl⟩ ⟨rfl, rfl⟩ hw.1 dX8_visitRow_117 rfl (Nat.le_of_ble_eq_true rfl) rfl (fun h14 hw => ?_)
        refine go_goto C 130 dX8_visitRow_120 (by decide) ?_
        exact go_vret C dX8_visitRow_130 hw (Nat.le_of_ble_eq_true rfl) (Nat.le_of_ble_eq_true rfl)
      refine go_iload C dX8_visitRow_64 4 rfl ?_
      refine go_iconst C 3 dX8_visitRow_66 kc_i3 ?_
      refine go_imul C dX8_visitRow_67 ?_
      refine go_iload C dX8_visitRow_68 5 rfl ?_
      refine go_iadd C dX8_visitRow_70 ?_
      refine go_istore C [(6, iV ((v2 * 3) + x9)), (0, rV (some a0)), (1, iV p1), (2, rV p2), (3, iV p3), (4, iV v2), (5, iV x9)] dX8_visitRow_71 (Nat.le_of_ble_eq_true rfl) rfl ?_
      refine go_iload C dX8_visitRow_73 0 rfl ?_
      refine go_aload_n C dX8_visitRow_75 1 rfl ?_
      refine go_getA C (cfX8) (k := 6) (Nat.le_of_ble_eq_true rfl) tw1_148 rfl dX8_visitRow_76 hw (fun a15 hw => ?_)
      refine go_alen C dX8_visitRow_79 hw (fun v16 hw => ?_)
      refine jn_elim (P := fun j => ∀ (h17 : Hp), j h17 → Go G X (rmX8_visitRow d) 7 0 0 (QN G X (QV G K) (rmX8_visitRow d)) h17 97 [(0, rV (some a0)), (1, iV p1), (2, rV p2), (3, iV p3), (4, iV v2), (5, iV x9)] []) hw (fun h17 hw => ?_) (fun j97 hj97 hw => ?_)
      · refine go_iinc C (x9 + 1) [(5, iV (x9 + 1)), (0, rV (some a0)), (1, iV p1), (2, rV p2), (3, iV p3), (4, iV v2)] dX8_visitRow_97 5 rfl (by rw [kc_i1]) (Nat.le_of_ble_eq_true rfl) rfl ?_
        refine go_goto C 58 dX8_visitRow_100 (by decide) ?_
        refine go_sub [1, 2, 3, 4, 5, 0] rfl ?_
        exact hj58 (x9 + 1) h17 hw
      refine go_icmp_ge C 97 dX8_visitRow_80 (by decide) hw (fun hw => ?_) (fun hw => ?_)
      · refine go_sub [1, 2, 3, 4, 5, 6] rfl ?_
        exact hj97 h8 hw
      refine go_aload_n C dX8_visitRow_83 1 rfl ?_
      refine go_getA C (cfX8) (k := 6) (Nat.le_of_ble_eq_true rfl) tw1_148 rfl dX8_visitRow_84 hw (fun a18 hw => ?_)
      refine go_iload C dX8_visitRow_87 0 rfl ?_
      refine go_aload_n C dX8_visitRow_89 3 rfl ?_
      refine go_iload_n C dX8_visitRow_90 4 rfl ?_
      refine go_iload C dX8_visitRow_91 6 rfl ?_
      obtain ⟨a19, e9, hw9⟩ := hw
      subst e9
      have hw := hw9
      clear hw9
      refine go_pV_i C [iV p3, iV x9] vX10_cell tw2_214 (ci := 10) rfl (m_X10_cell (xl X) C.2.2.2.2.2.2.2.1 N hw.2) ⟨by simp only [rmX10_cell, rmX8_visitRow]; omega, by simp only [rmX10_cell, rmX8_visitRow]; omega, Nat.le_of_ble_eq_true rfl, Nat.le_of_ble_eq_true rfl⟩ ⟨rfl, rfl⟩ hw.1 dX8_visitRow_93 rfl (Nat.le_of_ble_eq_true rfl) rfl (fun v20 hw => ?_)
      refine go_iastore C dX8_visitRow_96 hw (fun h21 hw => ?_)
      refine go_sub [1, 2, 3, 4, 5, 6] rfl ?_
      exact hj97 h21 hw
    exact go_vret C dX8_visitRow_46 hw (Nat.le_of_ble_eq_true rfl) (Nat.le_of_ble_eq_true rfl)
  refine go_ifnonnull C 11 dX8_visitRow_4 (by decide) hw (fun a22 e9 hw9 => ?_) (fun e9 hw9 => ?_)
  · clear hw
    subst e9
    have hw := hw9
    clear hw9
    refine go_aload_n C dX8_visitRow_11 0 rfl ?_
    refine go_getR C (cfX8) (k := 3) (Nat.le_of_ble_eq_true rfl) tw1_145 rfl dX8_visitRow_12 hw (fun o23 hw => ?_)
    refine go_iload_n C dX8_visitRow_15 1 rfl ?_
    obtain ⟨a24, e9, hw9⟩ := hw
    subst e9
    have hw := hw9
    clear hw9
    refine go_pV_i C [iV p1] vX5_positionAt tw2_142 (ci := 5) rfl (m_X5_positionAt (xl X) C.2.2.2.2.2.2.2.1 N hw.2) ⟨by simp only [rmX5_positionAt, rmX8_visitRow]; omega, by simp only [rmX5_positionAt, rmX8_visitRow]; omega, Nat.le_of_ble_eq_true rfl, Nat.le_of_ble_eq_true rfl⟩ ⟨rfl, rfl⟩ hw.1 dX8_visitRow_16 rfl (Nat.le_of_ble_eq_true rfl) rfl (fun v25 hw => ?_)
    exact hj19 v25 hw
  clear hw
  subst e9
  have hw := hw9
  clear hw9
  refine go_iconst C (-1) dX8_visitRow_7 kc_im1 ?_
  refine go_goto C 19 dX8_visitRow_8 (by decide) ?_
  exact hj19 (-1) hw
/-- DuelSchema$Runner.visitEntries(ILDuelSchema$Table;LDuelSchema$Index;)V -/
def w_X8_visitEntries (wv : Nat → Int32 → Hp → (Hp → Prop) → Prop) (N : Nat) (a0 : Nat) (p1 : Int32) (p2 : Option Nat) (p3 : Option Nat) (h0 : Hp) (K : Hp → Prop) : Prop :=
  cv h0 a0 8 <| w_X8_greatestWanted N a0 p1 h0 fun v1 =>
  cv h0 a0 8 <| w_X8_leastWanted N a0 p1 h0 fun v2 =>
  nn p3 fun a3 => cv h0 a3 3 <| w_X3_firstFrom N a3 v2 h0 fun v4 =>
  fx3 (fun (w25 : Int32 → Int32 → Hp → Prop) (x6 : Int32) (x7 : Int32) (h5 : Hp) =>
    cv h5 a3 3 <| w_X3_size N a3  h5 fun v8 =>
    jn (
      br (x6 = (-1)) (
        cv h5 a3 3 <| w_X3_size N a3  h5 fun v9 =>
        w_X11_leafKey N (some a3) (if (v9 - 1) < v4 then (v9 - 1) else v4) h5 fun v10 =>
        cv h5 a0 8 <| w_X8_readOne N a0 v10 h5 fun h11 =>
        K h11) (
        K h5)) (fun j102 =>
    br (v8 ≤ x7) (
      j102 ) (
      cv h5 a3 3 <| w_X3_valueAt N a3 x7 h5 fun v12 =>
      br (v1 < v12) (
        j102 ) (
        w_X11_leafKey N (some a3) x7 h5 fun v13 =>
        jn (fun (x15 : Int32) (h14 : Hp) => 
          cv h14 a3 3 <| w_X3_rowAt N a3 x7 h14 fun v16 =>
          w_X11_pageKey N p2 v16 h14 fun v17 =>
          cv h14 a0 8 <| w_X8_readOne N a0 v17 h14 fun h18 =>
          cv h18 a0 8 <| w_X8_visitRow wv N a0 p1 p2 v16 h18 fun h19 =>
          w25 x15 (x7 + 1) h19) (fun j70 =>
        br (v13 = x6) (
          j70 x6 h5) (
          cv h5 a0 8 <| w_X8_readOne N a0 v13 h5 fun h20 =>
          j70 v13 h20)))))) N (-1) v4 h0
abbrev rmX8_visitEntries (d : Nat) : Room := { frames := 18 + 3 * d, cells := 0, slots := 0, locals := 520 + 200 * d }
theorem vX8_visitEntries : VI RX8 yX8_visitEntries cX8_visitEntries 10 none 3 := ⟨tw3_15, tp10, tw1_6, tw3_16, by decide +kernel⟩
set_option maxHeartbeats 4000000 in
theorem m_X8_visitEntries {G : Gp} (l : Launch) (hfl : l.stackTraces = false) (d : Nat) {wv : Nat → Int32 → Hp → (Hp → Prop) → Prop} (hv : ∀ (a0 : Nat) (p1 : Int32) (h0 : Hp) (K : Hp → Prop), wv a0 p1 h0 K → MT G l yX8_visit cX8_visit 4 none (rmX8_visit d) [rV (some a0), iV p1] h0 (QV G K)) (N : Nat) {a0 : Nat} {p1 : Int32} {p2 : Option Nat} {p3 : Option Nat} {h0 : Hp} {K : Hp → Prop} (hw : w_X8_visitEntries wv N a0 p1 p2 p3 h0 K) : MT G l yX8_visitEntries cX8_visitEntries 10 none (rmX8_visitEntries d) [rV (some a0), iV p1, rV p2, rV p3] h0 (QV G K) := by
  refine go_metT l hfl _ 10 _ _ rfl (by decide +kernel) (Nat.le_of_ble_eq_true rfl) [(0, rV (some a0)), (1, iV p1), (2, rV p2), (3, rV p3)] rfl (fun X hX C hn => ?_)
  subst hX
  unfold w_X8_visitEntries at hw
  refine go_aload_n C dX8_visitEntries_0 0 rfl ?_
  refine go_iload_n C dX8_visitEntries_1 1 rfl ?_
  refine go_pV_i C [iV p1] vX8_greatestWanted tw3_17 (ci := 8) rfl (m_X8_greatestWanted (xl X) C.2.2.2.2.2.2.2.1 N hw.2) ⟨by simp only [rmX8_greatestWanted, rmX8_visitEntries]; omega, by simp only [rmX8_greatestWanted, rmX8_visitEntries]; omega, Nat.le_of_ble_eq_true rfl, Nat.le_of_ble_eq_true rfl⟩ ⟨rfl, rfl⟩ hw.1 dX8_visitEntries_2 rfl (Nat.le_of_ble_eq_true rfl) rfl (fun v1 hw => ?_)
  refine go_istore C [(4, iV v1), (0, rV (some a0)), (1, iV p1), (2, rV p2), (3, rV p3)] dX8_visitEntries_5 (Nat.le_of_ble_eq_true rfl) rfl ?_
  refine go_aload_n C dX8_visitEntries_7 4 rfl ?_
  refine go_aload_n C dX8_visitEntries_8 1 rfl ?_
  refine go_iload_n C dX8_visitEntries_9 2 rfl ?_
  refine go_pV_i C [iV p1] vX8_leastWanted tw3_37 (ci := 8) rfl (m_X8_leastWanted (xl X) C.2.2.2.2.2.2.2.1 N hw.2) ⟨by simp only [rmX8_leastWanted, rmX8_visitEntries]; omega, by simp only [rmX8_leastWanted, rmX8_visitEntries]; omega, Nat.le_of_ble_eq_true rfl, Nat.le_of_ble_eq_true rfl⟩ ⟨rfl, rfl⟩ hw.1 dX8_visitEntries_10 rfl (Nat.le_of_ble_eq_true rfl) rfl (fun v2 hw => ?_)
  obtain ⟨a3, e9, hw9⟩ := hw
  subst e9
  have hw := hw9
  clear hw9
  refine go_pV_i C [iV v2] vX3_firstFrom tw3_45 (ci := 3) rfl (m_X3_firstFrom (xl X) C.2.2.2.2.2.2.2.1 N hw.2) ⟨by simp only [rmX3_firstFrom, rmX8_visitEntries]; omega, by simp only [rmX3_firstFrom, rmX8_visitEntries]; omega, Nat.le_of_ble_eq_true rfl, Nat.le_of_ble_eq_true rfl⟩ ⟨rfl, rfl⟩ hw.1 dX8_visitEntries_13 rfl (Nat.le_of_ble_eq_true rfl) rfl (fun v4 hw => ?_)
  refine go_istore C [(5, iV v4), (4, iV v1), (0, rV (some a0)), (1, iV p1), (2, rV p2), (3, rV (some a3))] dX8_visitEntries_16 (Nat.le_of_ble_eq_true rfl) rfl ?_
  refine go_iconst C (-1) dX8_visitEntries_18 kc_im1 ?_
  refine go_istore C [(6, iV (-1)), (5, iV v4), (4, iV v1), (0, rV (some a0)), (1, iV p1), (2, rV p2), (3, rV (some a3))] dX8_visitEntries_19 (Nat.le_of_ble_eq_true rfl) rfl ?_
  refine go_iload C dX8_visitEntries_21 1 rfl ?_
  refine go_istore C [(7, iV v4), (6, iV (-1)), (5, iV v4), (4, iV v1), (0, rV (some a0)), (1, iV p1), (2, rV p2), (3, rV (some a3))] dX8_visitEntries_23 (Nat.le_of_ble_eq_true rfl) rfl ?_
  refine go_sub [4, 5, 6, 7, 3, 2, 1, 0] rfl ?_
  refine fx3_elim (P := fun x6 x7 h5 => Go G X (rmX8_visitEntries d) 10 0 0 (QN G X (QV G K) (rmX8_visitEntries d)) h5 25 [(0, rV (some a0)), (1, iV p1), (2, rV p2), (3, rV (some a3)), (4, iV v1), (5, iV v4), (6, iV x6), (7, iV x7)] []) (fun w25 hj25 x6 x7 h5 hw => ?_) N _ _ _ hw
  refine go_iload C dX8_visitEntries_25 7 rfl ?_
  refine go_aload_n C dX8_visitEntries_27 3 rfl ?_
  refine go_pV_i C [] vX3_size tw3_9 (ci := 3) rfl (m_X3_size (xl X) C.2.2.2.2.2.2.2.1 N hw.2) ⟨by simp only [rmX3_size, rmX8_visitEntries]; omega, by simp only [rmX3_size, rmX8_visitEntries]; omega, Nat.le_of_ble_eq_true rfl, Nat.le_of_ble_eq_true rfl⟩ ⟨rfl, rfl⟩ hw.1 dX8_visitEntries_28 rfl (Nat.le_of_ble_eq_true rfl) rfl (fun v8 hw => ?_)
  refine jn_elim (P := fun j => j  → Go G X (rmX8_visitEntries d) 10 0 0 (QN G X (QV G K) (rmX8_visitEntries d)) h5 102 [(0, rV (some a0)), (3, rV (some a3)), (5, iV v4), (6, iV x6)] []) hw (fun  hw => ?_) (fun j102 hj102 hw => ?_)
  · refine go_iload C dX8_visitEntries_102 3 rfl ?_
    refine go_iconst C (-1) dX8_visitEntries_104 kc_im1 ?_
    refine go_icmp_ne C 127 dX8_visitEntries_105 (by decide) hw (fun hw => ?_) (fun hw => ?_)
    · exact go_vret C dX8_visitEntries_127 hw (Nat.le_of_ble_eq_true rfl) (Nat.le_of_ble_eq_true rfl)
    refine go_aload_n C dX8_visitEntries_108 0 rfl ?_
    refine go_aload_n C dX8_visitEntries_109 1 rfl ?_
    refine go_iload C dX8_visitEntries_110 2 rfl ?_
    refine go_aload_n C dX8_visitEntries_112 1 rfl ?_
    refine go_pV_i C [] vX3_size tw3_9 (ci := 3) rfl (m_X3_size (xl X) C.2.2.2.2.2.2.2.1 N hw.2) ⟨by simp only [rmX3_size, rmX8_visitEntries]; omega, by simp only [rmX3_size, rmX8_visitEntries]; omega, Nat.le_of_ble_eq_true rfl, Nat.le_of_ble_eq_true rfl⟩ ⟨rfl, rfl⟩ hw.1 dX8_visitEntries_113 rfl (Nat.le_of_ble_eq_true rfl) rfl (fun v9 hw => ?_)
    refine go_iconst C 1 dX8_visitEntries_116 kc_i1 ?_
    refine go_isub C dX8_visitEntries_117 ?_
    refine go_imin C tw2_170 tw2_171 tw1_19 tw2_172 ⟨by simp only [rmX8_visitEntries]; omega, by simp only [rmX8_visitEntries]; omega, Nat.zero_le _, Nat.zero_le _⟩ (Nat.le_of_ble_eq_true rfl) dX8_visitEntries_118 ?_
    refine go_pSN_i C [rV (some a3), iV (if (v9 - 1) < v4 then (v9 - 1) else v4)] vX11_leafKey tw3_50 (m_X11_leafKey (xl X) C.2.2.2.2.2.2.2.1 N hw) ⟨by simp only [rmX11_leafKey, rmX8_visitEntries]; omega, by simp only [rmX11_leafKey, rmX8_visitEntries]; omega, Nat.le_of_ble_eq_true rfl, Nat.le_of_ble_eq_true rfl⟩ ⟨rfl, rfl⟩ dX8_visitEntries_121 rfl (Nat.le_of_ble_eq_true rfl) rfl (fun v10 hw => ?_)
    refine go_c0V_v C [iV v10] vX8_readOne tw2_180 (ci := 8) rfl (m_X8_readOne (xl X) C.2.2.2.2.2.2.2.1 N hw.2) ⟨by simp only [rmX8_readOne, rmX8_visitEntries]; omega, by simp only [rmX8_readOne, rmX8_visitEntries]; omega, Nat.le_of_ble_eq_true rfl, Nat.le_of_ble_eq_true rfl⟩ ⟨rfl, rfl⟩ hw.1 dX8_visitEntries_124 rfl (Nat.le_of_ble_eq_true rfl) rfl (fun h11 hw => ?_)
    exact go_vret C dX8_visitEntries_127 hw (Nat.le_of_ble_eq_true rfl) (Nat.le_of_ble_eq_true rfl)
  refine go_icmp_ge C 102 dX8_visitEntries_31 (by decide) hw (fun hw => ?_) (fun hw => ?_)
  · refine go_sub [0, 3, 5, 6] rfl ?_
    exact hj102  hw
  refine go_aload_n C dX8_visitEntries_34 3 rfl ?_
  refine go_iload C dX8_visitEntries_35 7 rfl ?_
  refine go_pV_i C [iV x7] vX3_valueAt tw3_49 (ci := 3) rfl (m_X3_valueAt (xl X) C.2.2.2.2.2.2.2.1 N hw.2) ⟨by simp only [rmX3_valueAt, rmX8_visitEntries]; omega, by simp only [rmX3_valueAt, rmX8_visitEntries]; omega, Nat.le_of_ble_eq_true rfl, Nat.le_of_ble_eq_true rfl⟩ ⟨rfl, rfl⟩ hw.1 dX8_visitEntries_37 rfl (Nat.le_of_ble_eq_true rfl) rfl (fun v12 hw => ?_)
  refine go_iload C dX8_visitEntries_40 4 rfl ?_
  refine go_icmp_gt C 102 dX8_visitEntries_42 (by decide) hw (fun hw => ?_) (fun hw => ?_)
  · refine go_sub [0, 3, 5, 6] rfl ?_
    exact hj102  hw
  refine go_aload_n C dX8_visitEntries_45 3 rfl ?_
  refine go_iload C dX8_visitEntries_46 7 rfl ?_
  refine go_pSN_i C [rV (some a3), iV x7] vX11_leafKey tw3_50 (m_X11_leafKey (xl X) C.2.2.2.2.2.2.2.1 N hw) ⟨by simp only [rmX11_leafKey, rmX8_visitEntries]; omega, by simp only [rmX11_leafKey, rmX8_visitEntries]; omega, Nat.le_of_ble_eq_true rfl, Nat.le_of_ble_eq_true rfl⟩ ⟨rfl, rfl⟩ dX8_visitEntries_48 rfl (Nat.le_of_ble_eq_true rfl) rfl (fun v13 hw => ?_)
  refine go_istore C [(8, iV v13), (0, rV (some a0)), (1, iV p1), (2, rV p2), (3, rV (some a3)), (4, iV v1), (5, iV v4), (6, iV x6), (7, iV x7)] dX8_visitEntries_51 (Nat.le_of_ble_eq_true rfl) rfl ?_
  refine go_iload C dX8_visitEntries_53 0 rfl ?_
  refine go_iload C dX8_visitEntries_55 7 rfl ?_
  refine jn_elim (P := fun j => ∀ (x15 : Int32) (h14 : Hp), j x15 h14 → Go G X (rmX8_visitEntries d) 10 0 0 (QN G X (QV G K) (rmX8_visitEntries d)) h14 70 [(0, rV (some a0)), (1, iV p1), (2, rV p2), (3, rV (some a3)), (4, iV v1), (5, iV v4), (6, iV x15), (7, iV x7)] []) hw (fun x15 h14 hw => ?_) (fun j70 hj70 hw => ?_)
  · refine go_aload_n C dX8_visitEntries_70 3 rfl ?_
    refine go_iload C dX8_visitEntries_71 7 rfl ?_
    refine go_pV_i C [iV x7] vX3_rowAt tw3_57 (ci := 3) rfl (m_X3_rowAt (xl X) C.2.2.2.2.2.2.2.1 N hw.2) ⟨by simp only [rmX3_rowAt, rmX8_visitEntries]; omega, by simp only [rmX3_rowAt, rmX8_visitEntries]; omega, Nat.le_of_ble_eq_true rfl, Nat.le_of_ble_eq_true rfl⟩ ⟨rfl, rfl⟩ hw.1 dX8_visitEntries_73 rfl (Nat.le_of_ble_eq_true rfl) rfl (fun v16 hw => ?_)
    refine go_istore C [(9, iV v16), (0, rV (some a0)), (1, iV p1), (2, rV p2), (3, rV (some a3)), (4, iV v1), (5, iV v4), (6, iV x15), (7, iV x7)] dX8_visitEntries_76 (Nat.le_of_ble_eq_true rfl) rfl ?_
    refine go_aload_n C dX8_visitEntries_78 1 rfl ?_
    refine go_aload_n C dX8_visitEntries_79 3 rfl ?_
    refine go_iload C dX8_visitEntries_80 0 rfl ?_
    refine go_pSN_i C [rV p2, iV v16] vX11_pageKey tw2_173 (m_X11_pageKey (xl X) C.2.2.2.2.2.2.2.1 N hw) ⟨by simp only [rmX11_pageKey, rmX8_visitEntries]; omega, by simp only [rmX11_pageKey, rmX8_visitEntries]; omega, Nat.le_of_ble_eq_true rfl, Nat.le_of_ble_eq_true rfl⟩ ⟨rfl, rfl⟩ dX8_visitEntries_82 rfl (Nat.le_of_ble_eq_true rfl) rfl (fun v17 hw => ?_)
    refine go_c0V_v C [iV v17] vX8_readOne tw2_180 (ci := 8) rfl (m_X8_readOne (xl X) C.2.2.2.2.2.2.2.1 N hw.2) ⟨by simp only [rmX8_readOne, rmX8_visitEntries]; omega, by simp only [rmX8_readOne, rmX8_visitEntries]; omega, Nat.le_of_ble_eq_true rfl, Nat.le_of_ble_eq_true rfl⟩ ⟨rfl, rfl⟩ hw.1 dX8_visitEntries_85 rfl (Nat.le_of_ble_eq_true rfl) rfl (fun h18 hw => ?_)
    refine go_aload_n C dX8_visitEntries_88 1 rfl ?_
    refine go_iload_n C dX8_visitEntries_89 2 rfl ?_
    refine go_aload_n C dX8_visitEntries_90 3 rfl ?_
    refine go_iload C dX8_visitEntries_91 0 rfl ?_
    refine go_c0V_v C [iV p1, rV p2, iV v16] vX8_visitRow tw2_189 (ci := 8) rfl (m_X8_visitRow (xl X) C.2.2.2.2.2.2.2.1 d hv N hw.2) ⟨by simp only [rmX8_visitRow, rmX8_visitEntries]; omega, by simp only [rmX8_visitRow, rmX8_visitEntries]; omega, Nat.le_of_ble_eq_true rfl, Nat.le_of_ble_eq_true rfl⟩ ⟨rfl, rfl⟩ hw.1 dX8_visitEntries_93 rfl (Nat.le_of_ble_eq_true rfl) rfl (fun h19 hw => ?_)
    refine go_iinc C (x7 + 1) [(7, iV (x7 + 1)), (9, iV v16), (0, rV (some a0)), (1, iV p1), (2, rV p2), (3, rV (some a3)), (4, iV v1), (5, iV v4), (6, iV x15)] dX8_visitEntries_96 8 rfl (by rw [kc_i1]) (Nat.le_of_ble_eq_true rfl) rfl ?_
    refine go_goto C 25 dX8_visitEntries_99 (by decide) ?_
    refine go_sub [2, 3, 4, 5, 6, 7, 8, 0] rfl ?_
    exact hj25 x15 (x7 + 1) h19 hw
  refine go_icmp_eq C 70 dX8_visitEntries_57 (by decide) hw (fun hw => ?_) (fun hw => ?_)
  · refine go_sub [1, 2, 3, 4, 5, 6, 7, 8] rfl ?_
    exact hj70 x6 h5 hw
  refine go_aload_n C dX8_visitEntries_60 1 rfl ?_
  refine go_iload C dX8_visitEntries_61 0 rfl ?_
  refine go_c0V_v C [iV v13] vX8_readOne tw2_180 (ci := 8) rfl (m_X8_readOne (xl X) C.2.2.2.2.2.2.2.1 N hw.2) ⟨by simp only [rmX8_readOne, rmX8_visitEntries]; omega, by simp only [rmX8_readOne, rmX8_visitEntries]; omega, Nat.le_of_ble_eq_true rfl, Nat.le_of_ble_eq_true rfl⟩ ⟨rfl, rfl⟩ hw.1 dX8_visitEntries_63 rfl (Nat.le_of_ble_eq_true rfl) rfl (fun h20 hw => ?_)
  refine go_iload C dX8_visitEntries_66 0 rfl ?_
  refine go_istore C [(6, iV v13), (8, iV v13), (0, rV (some a0)), (1, iV p1), (2, rV p2), (3, rV (some a3)), (4, iV v1), (5, iV v4), (7, iV x7)] dX8_visitEntries_68 (Nat.le_of_ble_eq_true rfl) rfl ?_
  refine go_sub [2, 3, 4, 5, 6, 7, 0, 8] rfl ?_
  exact hj70 v13 h20 hw
/-- DuelSchema$Runner.visitPages(ILDuelSchema$Table;)V -/
def w_X8_visitPages (wv : Nat → Int32 → Hp → (Hp → Prop) → Prop) (N : Nat) (a0 : Nat) (p1 : Int32) (p2 : Option Nat) (h0 : Hp) (K : Hp → Prop) : Prop :=
  nn p2 fun a1 => cv h0 a1 10 <| w_X10_rowsEver N a1  h0 fun v2 =>
  fx2 (fun (w13 : Int32 → Hp → Prop) (x4 : Int32) (h3 : Hp) =>
    br ((if 40 < v2 then 40 else v2) ≤ x4) (
      K h3) (
      jn (fun (h5 : Hp) => 
        cv h5 a0 8 <| w_X8_visitRow wv N a0 p1 (some a1) x4 h5 fun h6 =>
        w13 (x4 + 1) h6) (fun j36 =>
      br ((x4 - x4 / 4 * 4) = 0) (
        w_X11_pageKey N (some a1) x4 h3 fun v7 =>
        cv h3 a0 8 <| w_X8_readOne N a0 v7 h3 fun h8 =>
        j36 h8) (
        j36 h3)))) N 0 h0
abbrev rmX8_visitPages (d : Nat) : Room := { frames := 18 + 3 * d, cells := 0, slots := 0, locals := 520 + 200 * d }
theorem vX8_visitPages : VI RX8 yX8_visitPages cX8_visitPages 5 none 2 := ⟨tw2_164, tp4, tw1_6, tw2_165, by decide +kernel⟩
set_option maxHeartbeats 4000000 in
theorem m_X8_visitPages {G : Gp} (l : Launch) (hfl : l.stackTraces = false) (d : Nat) {wv : Nat → Int32 → Hp → (Hp → Prop) → Prop} (hv : ∀ (a0 : Nat) (p1 : Int32) (h0 : Hp) (K : Hp → Prop), wv a0 p1 h0 K → MT G l yX8_visit cX8_visit 4 none (rmX8_visit d) [rV (some a0), iV p1] h0 (QV G K)) (N : Nat) {a0 : Nat} {p1 : Int32} {p2 : Option Nat} {h0 : Hp} {K : Hp → Prop} (hw : w_X8_visitPages wv N a0 p1 p2 h0 K) : MT G l yX8_visitPages cX8_visitPages 5 none (rmX8_visitPages d) [rV (some a0), iV p1, rV p2] h0 (QV G K) := by
  refine go_metT l hfl _ 5 _ _ rfl (by decide +kernel) (Nat.le_of_ble_eq_true rfl) [(0, rV (some a0)), (1, iV p1), (2, rV p2)] rfl (fun X hX C hn => ?_)
  subst hX
  unfold w_X8_visitPages at hw
  refine go_aload_n C dX8_visitPages_0 2 rfl ?_
  obtain ⟨a1, e9, hw9⟩ := hw
  subst e9
  have hw := hw9
  clear hw9
  refine go_pV_i C [] vX10_rowsEver tw2_166 (ci := 10) rfl (m_X10_rowsEver (xl X) C.2.2.2.2.2.2.2.1 N hw.2) ⟨by simp only [rmX10_rowsEver, rmX8_visitPages]; omega, by simp only [rmX10_rowsEver, rmX8_visitPages]; omega, Nat.le_of_ble_eq_true rfl, Nat.le_of_ble_eq_true rfl⟩ ⟨rfl, rfl⟩ hw.1 dX8_visitPages_1 rfl (Nat.le_of_ble_eq_true rfl) rfl (fun v2 hw => ?_)
  refine go_bipush C 40 dX8_visitPages_4 kc_b40 ?_
  refine go_imin C tw2_170 tw2_171 tw1_19 tw2_172 ⟨by simp only [rmX8_visitPages]; omega, by simp only [rmX8_visitPages]; omega, Nat.zero_le _, Nat.zero_le _⟩ (Nat.le_of_ble_eq_true rfl) dX8_visitPages_6 ?_
  refine go_istore_n C [(3, iV (if 40 < v2 then 40 else v2)), (0, rV (some a0)), (1, iV p1), (2, rV (some a1))] dX8_visitPages_9 (Nat.le_of_ble_eq_true rfl) rfl ?_
  refine go_iconst C 0 dX8_visitPages_10 kc_i0 ?_
  refine go_istore C [(4, iV 0), (3, iV (if 40 < v2 then 40 else v2)), (0, rV (some a0)), (1, iV p1), (2, rV (some a1))] dX8_visitPages_11 (Nat.le_of_ble_eq_true rfl) rfl ?_
  refine go_sub [2, 3, 4, 1, 0] rfl ?_
  refine fx2_elim (P := fun x4 h3 => Go G X (rmX8_visitPages d) 5 0 0 (QN G X (QV G K) (rmX8_visitPages d)) h3 13 [(0, rV (some a0)), (1, iV p1), (2, rV (some a1)), (3, iV (if 40 < v2 then 40 else v2)), (4, iV x4)] []) (fun w13 hj13 x4 h3 hw => ?_) N _ _ hw
  refine go_iload C dX8_visitPages_13 4 rfl ?_
  refine go_iload_n C dX8_visitPages_15 3 rfl ?_
  refine go_icmp_ge C 50 dX8_visitPages_16 (by decide) hw (fun hw => ?_) (fun hw => ?_)
  · exact go_vret C dX8_visitPages_50 hw (Nat.le_of_ble_eq_true rfl) (Nat.le_of_ble_eq_true rfl)
  refine go_iload C dX8_visitPages_19 4 rfl ?_
  refine go_iconst C 4 dX8_visitPages_21 kc_i4 ?_
  refine go_irem C dX8_visitPages_22 ⟨by decide, hw⟩ (fun hw => ?_)
  refine jn_elim (P := fun j => ∀ (h5 : Hp), j h5 → Go G X (rmX8_visitPages d) 5 0 0 (QN G X (QV G K) (rmX8_visitPages d)) h5 36 [(0, rV (some a0)), (1, iV p1), (2, rV (some a1)), (3, iV (if 40 < v2 then 40 else v2)), (4, iV x4)] []) hw (fun h5 hw => ?_) (fun j36 hj36 hw => ?_)
  · refine go_aload_n C dX8_visitPages_36 0 rfl ?_
    refine go_iload_n C dX8_visitPages_37 1 rfl ?_
    refine go_aload_n C dX8_visitPages_38 2 rfl ?_
    refine go_iload C dX8_visitPages_39 4 rfl ?_
    refine go_c0V_v C [iV p1, rV (some a1), iV x4] vX8_visitRow tw2_189 (ci := 8) rfl (m_X8_visitRow (xl X) C.2.2.2.2.2.2.2.1 d hv N hw.2) ⟨by simp only [rmX8_visitRow, rmX8_visitPages]; omega, by simp only [rmX8_visitRow, rmX8_visitPages]; omega, Nat.le_of_ble_eq_true rfl, Nat.le_of_ble_eq_true rfl⟩ ⟨rfl, rfl⟩ hw.1 dX8_visitPages_41 rfl (Nat.le_of_ble_eq_true rfl) rfl (fun h6 hw => ?_)
    refine go_iinc C (x4 + 1) [(4, iV (x4 + 1)), (0, rV (some a0)), (1, iV p1), (2, rV (some a1)), (3, iV (if 40 < v2 then 40 else v2))] dX8_visitPages_44 4 rfl (by rw [kc_i1]) (Nat.le_of_ble_eq_true rfl) rfl ?_
    refine go_goto C 13 dX8_visitPages_47 (by decide) ?_
    refine go_sub [1, 2, 3, 4, 0] rfl ?_
    exact hj13 (x4 + 1) h6 hw
  refine go_if_ne C 36 dX8_visitPages_23 (by decide) hw (fun hw => ?_) (fun hw => ?_)
  · exact hj36 h3 hw
  refine go_aload_n C dX8_visitPages_26 0 rfl ?_
  refine go_aload_n C dX8_visitPages_27 2 rfl ?_
  refine go_iload C dX8_visitPages_28 4 rfl ?_
  refine go_pSN_i C [rV (some a1), iV x4] vX11_pageKey tw2_173 (m_X11_pageKey (xl X) C.2.2.2.2.2.2.2.1 N hw) ⟨by simp only [rmX11_pageKey, rmX8_visitPages]; omega, by simp only [rmX11_pageKey, rmX8_visitPages]; omega, Nat.le_of_ble_eq_true rfl, Nat.le_of_ble_eq_true rfl⟩ ⟨rfl, rfl⟩ dX8_visitPages_30 rfl (Nat.le_of_ble_eq_true rfl) rfl (fun v7 hw => ?_)
  refine go_c0V_v C [iV v7] vX8_readOne tw2_180 (ci := 8) rfl (m_X8_readOne (xl X) C.2.2.2.2.2.2.2.1 N hw.2) ⟨by simp only [rmX8_readOne, rmX8_visitPages]; omega, by simp only [rmX8_readOne, rmX8_visitPages]; omega, Nat.le_of_ble_eq_true rfl, Nat.le_of_ble_eq_true rfl⟩ ⟨rfl, rfl⟩ hw.1 dX8_visitPages_33 rfl (Nat.le_of_ble_eq_true rfl) rfl (fun h8 hw => ?_)
  exact hj36 h8 hw
/-- DuelSchema$Runner.visit(I)V -/
def w_X8_visit (N : Nat) : Nat → Nat → Int32 → Hp → (Hp → Prop) → Prop
  | 0 => fun _ _ _ _ => False
  | d + 1 => fun a0 p1 h0 K =>
  gR h0 a0 8 3 fun o1 =>
  brn o1 (
    K h0) (fun a2 =>
    gR h0 a0 8 2 fun o3 =>
    brn o3 (
      K h0) (fun a4 =>
      br (p1 < 0) (
        K h0) (
        gR h0 a0 8 3 fun o5 =>
        nn o5 fun a6 => cv h0 a6 5 <| w_X5_size N a6  h0 fun v7 =>
        br (p1 < v7) (
          gR h0 a0 8 2 fun o8 =>
          gR h0 a0 8 3 fun o9 =>
          nn o9 fun a10 => cv h0 a10 5 <| w_X5_positionAt N a10 p1 h0 fun v11 =>
          nn o8 fun a12 => cv h0 a12 7 <| w_X7_tableOf N a12 v11 h0 fun o13 =>
          gR h0 a0 8 1 fun o14 =>
          jn (fun (o15 : Option Nat) => 
            jn (
              brn o13 (
                K h0) (fun a16 =>
                brn o15 (
                  K h0) (fun a17 =>
                  cv h0 a17 3 <| w_X3_size N a17  h0 fun v18 =>
                  br (v18 ≤ 0) (
                    K h0) (
                    cv h0 a0 8 <| w_X8_visitEntries (w_X8_visit N d) N a0 p1 (some a16) (some a17) h0 fun h19 =>
                    K h19)))) (fun j99 =>
            brn o13 (
              j99 ) (fun a20 =>
              gR h0 a0 8 3 fun o21 =>
              nn o21 fun a22 => cv h0 a22 5 <| w_X5_wayAt N a22 p1 h0 fun v23 =>
              br (v23 = 102) (
                cv h0 a0 8 <| w_X8_visitPages (w_X8_visit N d) N a0 p1 (some a20) h0 fun h24 =>
                K h24) (
                j99 )))) (fun j72 =>
          brn o14 (
            j72 none) (fun a25 =>
            gR h0 a0 8 1 fun o26 =>
            gR h0 a0 8 3 fun o27 =>
            nn o27 fun a28 => cv h0 a28 5 <| w_X5_indexAt N a28 p1 h0 fun v29 =>
            nn o26 fun a30 => cv h0 a30 9 <| w_X9_indexAt N a30 v29 h0 fun o31 =>
            j72 o31))) (
          K h0))))
set_option maxHeartbeats 4000000 in
theorem m_X8_visit_s {G : Gp} (l : Launch) (hfl : l.stackTraces = false) (N d : Nat) (hv : ∀ (a0 : Nat) (p1 : Int32) (h0 : Hp) (K : Hp → Prop), w_X8_visit N d a0 p1 h0 K → MT G l yX8_visit cX8_visit 4 none (rmX8_visit d) [rV (some a0), iV p1] h0 (QV G K)) {a0 : Nat} {p1 : Int32} {h0 : Hp} {K : Hp → Prop} (hw : w_X8_visit N (d + 1) a0 p1 h0 K) : MT G l yX8_visit cX8_visit 4 none (rmX8_visit (d + 1)) [rV (some a0), iV p1] h0 (QV G K) := by
  refine go_metT l hfl _ 4 _ _ rfl (by decide +kernel) (Nat.le_of_ble_eq_true rfl) [(0, rV (some a0)), (1, iV p1)] rfl (fun X hX C hn => ?_)
  subst hX
  simp only [w_X8_visit] at hw
  refine go_aload_n C dX8_visit_0 0 rfl ?_
  refine go_getR C (cfX8) (k := 3) (Nat.le_of_ble_eq_true rfl) tw1_145 rfl dX8_visit_1 hw (fun o1 hw => ?_)
  refine go_ifnull C 29 dX8_visit_4 (by decide) hw (fun e9 hw9 => ?_) (fun a2 e9 hw9 => ?_)
  · clear hw
    subst e9
    have hw := hw9
    clear hw9
    exact go_vret C dX8_visit_29 hw (Nat.le_of_ble_eq_true rfl) (Nat.le_of_ble_eq_true rfl)
  clear hw
  subst e9
  have hw := hw9
  clear hw9
  refine go_aload_n C dX8_visit_7 0 rfl ?_
  refine go_getR C (cfX8) (k := 2) (Nat.le_of_ble_eq_true rfl) tw1_144 rfl dX8_visit_8 hw (fun o3 hw => ?_)
  refine go_ifnull C 29 dX8_visit_11 (by decide) hw (fun e9 hw9 => ?_) (fun a4 e9 hw9 => ?_)
  · clear hw
    subst e9
    have hw := hw9
    clear hw9
    exact go_vret C dX8_visit_29 hw (Nat.le_of_ble_eq_true rfl) (Nat.le_of_ble_eq_true rfl)
  clear hw
  subst e9
  have hw := hw9
  clear hw9
  refine go_iload_n C dX8_visit_14 1 rfl ?_
  refine go_if_lt C 29 dX8_visit_15 (by decide) hw (fun hw => ?_) (fun hw => ?_)
  · exact go_vret C dX8_visit_29 hw (Nat.le_of_ble_eq_true rfl) (Nat.le_of_ble_eq_true rfl)
  refine go_iload_n C dX8_visit_18 1 rfl ?_
  refine go_aload_n C dX8_visit_19 0 rfl ?_
  refine go_getR C (cfX8) (k := 3) (Nat.le_of_ble_eq_true rfl) tw1_145 rfl dX8_visit_20 hw (fun o5 hw => ?_)
  obtain ⟨a6, e9, hw9⟩ := hw
  subst e9
  have hw := hw9
  clear hw9
  refine go_pV_i C [] vX5_size tw2_138 (ci := 5) rfl (m_X5_size (xl X) C.2.2.2.2.2.2.2.1 N hw.2) ⟨by simp only [rmX5_size, rmX8_visit]; omega, by simp only [rmX5_size, rmX8_visit]; omega, Nat.le_of_ble_eq_true rfl, Nat.le_of_ble_eq_true rfl⟩ ⟨rfl, rfl⟩ hw.1 dX8_visit_23 rfl (Nat.le_of_ble_eq_true rfl) rfl (fun v7 hw => ?_)
  refine go_icmp_lt C 30 dX8_visit_26 (by decide) hw (fun hw => ?_) (fun hw => ?_)
  · refine go_aload_n C dX8_visit_30 0 rfl ?_
    refine go_getR C (cfX8) (k := 2) (Nat.le_of_ble_eq_true rfl) tw1_144 rfl dX8_visit_31 hw (fun o8 hw => ?_)
    refine go_aload_n C dX8_visit_34 0 rfl ?_
    refine go_getR C (cfX8) (k := 3) (Nat.le_of_ble_eq_true rfl) tw1_145 rfl dX8_visit_35 hw (fun o9 hw => ?_)
    refine go_iload_n C dX8_visit_38 1 rfl ?_
    obtain ⟨a10, e9, hw9⟩ := hw
    subst e9
    have hw := hw9
    clear hw9
    refine go_pV_i C [iV p1] vX5_positionAt tw2_142 (ci := 5) rfl (m_X5_positionAt (xl X) C.2.2.2.2.2.2.2.1 N hw.2) ⟨by simp only [rmX5_positionAt, rmX8_visit]; omega, by simp only [rmX5_positionAt, rmX8_visit]; omega, Nat.le_of_ble_eq_true rfl, Nat.le_of_ble_eq_true rfl⟩ ⟨rfl, rfl⟩ hw.1 dX8_visit_39 rfl (Nat.le_of_ble_eq_true rfl) rfl (fun v11 hw => ?_)
    obtain ⟨a12, e9, hw9⟩ := hw
    subst e9
    have hw := hw9
    clear hw9
    refine go_pV_q C [iV v11] vX7_tableOf tw2_146 (ci := 7) rfl (m_X7_tableOf (xl X) C.2.2.2.2.2.2.2.1 N hw.2) ⟨by simp only [rmX7_tableOf, rmX8_visit]; omega, by simp only [rmX7_tableOf, rmX8_visit]; omega, Nat.le_of_ble_eq_true rfl, Nat.le_of_ble_eq_true rfl⟩ ⟨rfl, rfl⟩ hw.1 dX8_visit_42 rfl (Nat.le_of_ble_eq_true rfl) rfl (fun o13 hw => ?_)
    refine go_astore_n C [(2, rV o13), (0, rV (some a0)), (1, iV p1)] dX8_visit_45 (Nat.le_of_ble_eq_true rfl) rfl ?_
    refine go_aload_n C dX8_visit_46 1 rfl ?_
    refine go_getR C (cfX8) (k := 1) (Nat.le_of_ble_eq_true rfl) tw1_143 rfl dX8_visit_47 hw (fun o14 hw => ?_)
    refine jn_elim (P := fun j => ∀ (o15 : Option Nat), j o15 → Go G X (rmX8_visit (d + 1)) 4 0 0 (QN G X (QV G K) (rmX8_visit (d + 1))) h0 72 [(0, rV (some a0)), (1, iV p1), (2, rV o13)] [rV o15]) hw (fun o15 hw => ?_) (fun j72 hj72 hw => ?_)
    · refine go_astore_n C [(3, rV o15), (0, rV (some a0)), (1, iV p1), (2, rV o13)] dX8_visit_72 (Nat.le_of_ble_eq_true rfl) rfl ?_
      refine go_aload_n C dX8_visit_73 3 rfl ?_
      refine jn_elim (P := fun j => j  → Go G X (rmX8_visit (d + 1)) 4 0 0 (QN G X (QV G K) (rmX8_visit (d + 1))) h0 99 [(0, rV (some a0)), (1, iV p1), (2, rV o13), (3, rV o15)] []) hw (fun  hw => ?_) (fun j99 hj99 hw => ?_)
      · refine go_aload_n C dX8_visit_99 2 rfl ?_
        refine go_ifnull C 121 dX8_visit_100 (by decide) hw (fun e9 hw9 => ?_) (fun a16 e9 hw9 => ?_)
        · clear hw
          subst e9
          have hw := hw9
          clear hw9
          exact go_vret C dX8_visit_121 hw (Nat.le_of_ble_eq_true rfl) (Nat.le_of_ble_eq_true rfl)
        clear hw
        subst e9
        have hw := hw9
        clear hw9
        refine go_aload_n C dX8_visit_103 3 rfl ?_
        refine go_ifnull C 121 dX8_visit_104 (by decide) hw (fun e9 hw9 => ?_) (fun a17 e9 hw9 => ?_)
        · clear hw
          subst e9
          have hw := hw9
          clear hw9
          exact go_vret C dX8_visit_121 hw (Nat.le_of_ble_eq_true rfl) (Nat.le_of_ble_eq_true rfl)
        clear hw
        subst e9
        have hw := hw9
        clear hw9
        refine go_aload_n C dX8_visit_107 3 rfl ?_
        refine go_pV_i C [] vX3_size tw3_9 (ci := 3) rfl (m_X3_size (xl X) C.2.2.2.2.2.2.2.1 N hw.2) ⟨by simp only [rmX3_size, rmX8_visit]; omega, by simp only [rmX3_size, rmX8_visit]; omega, Nat.le_of_ble_eq_true rfl, Nat.le_of_ble_eq_true rfl⟩ ⟨rfl, rfl⟩ hw.1 dX8_visit_108 rfl (Nat.le_of_ble_eq_true rfl) rfl (fun v18 hw => ?_)
        refine go_if_le C 121 dX8_visit_111 (by decide) hw (fun hw => ?_) (fun hw => ?_)
        · exact go_vret C dX8_visit_121 hw (Nat.le_of_ble_eq_true rfl) (Nat.le_of_ble_eq_true rfl)
        refine go_aload_n C dX8_visit_114 0 rfl ?_
        refine go_iload_n C dX8_visit_115 1 rfl ?_
        refine go_aload_n C dX8_visit_116 2 rfl ?_
        refine go_aload_n C dX8_visit_117 3 rfl ?_
        refine go_c0V_v C [iV p1, rV (some a16), rV (some a17)] vX8_visitEntries tw3_13 (ci := 8) rfl (m_X8_visitEntries (xl X) C.2.2.2.2.2.2.2.1 d hv N hw.2) ⟨by simp only [rmX8_visitEntries, rmX8_visit]; omega, by simp only [rmX8_visitEntries, rmX8_visit]; omega, Nat.le_of_ble_eq_true rfl, Nat.le_of_ble_eq_true rfl⟩ ⟨rfl, rfl⟩ hw.1 dX8_visit_118 rfl (Nat.le_of_ble_eq_true rfl) rfl (fun h19 hw => ?_)
        exact go_vret C dX8_visit_121 hw (Nat.le_of_ble_eq_true rfl) (Nat.le_of_ble_eq_true rfl)
      refine go_ifnull C 99 dX8_visit_74 (by decide) hw (fun e9 hw9 => ?_) (fun a20 e9 hw9 => ?_)
      · clear hw
        subst e9
        have hw := hw9
        clear hw9
        refine go_sub [1, 2, 3, 0] rfl ?_
        exact hj99  hw
      clear hw
      subst e9
      have hw := hw9
      clear hw9
      refine go_aload_n C dX8_visit_77 1 rfl ?_
      refine go_getR C (cfX8) (k := 3) (Nat.le_of_ble_eq_true rfl) tw1_145 rfl dX8_visit_78 hw (fun o21 hw => ?_)
      refine go_iload_n C dX8_visit_81 2 rfl ?_
      obtain ⟨a22, e9, hw9⟩ := hw
      subst e9
      have hw := hw9
      clear hw9
      refine go_pV_i C [iV p1] vX5_wayAt tw2_158 (ci := 5) rfl (m_X5_wayAt (xl X) C.2.2.2.2.2.2.2.1 N hw.2) ⟨by simp only [rmX5_wayAt, rmX8_visit]; omega, by simp only [rmX5_wayAt, rmX8_visit]; omega, Nat.le_of_ble_eq_true rfl, Nat.le_of_ble_eq_true rfl⟩ ⟨rfl, rfl⟩ hw.1 dX8_visit_82 rfl (Nat.le_of_ble_eq_true rfl) rfl (fun v23 hw => ?_)
      refine go_bipush C 102 dX8_visit_85 kc_b102 ?_
      refine go_icmp_ne C 99 dX8_visit_87 (by decide) hw (fun hw => ?_) (fun hw => ?_)
      · refine go_sub [1, 2, 3, 0] rfl ?_
        exact hj99  hw
      refine go_aload_n C dX8_visit_90 1 rfl ?_
      refine go_iload_n C dX8_visit_91 2 rfl ?_
      refine go_aload_n C dX8_visit_92 3 rfl ?_
      refine go_c0V_v C [iV p1, rV (some a20)] vX8_visitPages tw2_162 (ci := 8) rfl (m_X8_visitPages (xl X) C.2.2.2.2.2.2.2.1 d hv N hw.2) ⟨by simp only [rmX8_visitPages, rmX8_visit]; omega, by simp only [rmX8_visitPages, rmX8_visit]; omega, Nat.le_of_ble_eq_true rfl, Nat.le_of_ble_eq_true rfl⟩ ⟨rfl, rfl⟩ hw.1 dX8_visit_93 rfl (Nat.le_of_ble_eq_true rfl) rfl (fun h24 hw => ?_)
      refine go_goto C 121 dX8_visit_96 (by decide) ?_
      exact go_vret C dX8_visit_121 hw (Nat.le_of_ble_eq_true rfl) (Nat.le_of_ble_eq_true rfl)
    refine go_ifnonnull C 57 dX8_visit_50 (by decide) hw (fun a25 e9 hw9 => ?_) (fun e9 hw9 => ?_)
    · clear hw
      subst e9
      have hw := hw9
      clear hw9
      refine go_aload_n C dX8_visit_57 1 rfl ?_
      refine go_getR C (cfX8) (k := 1) (Nat.le_of_ble_eq_true rfl) tw1_143 rfl dX8_visit_58 hw (fun o26 hw => ?_)
      refine go_aload_n C dX8_visit_61 1 rfl ?_
      refine go_getR C (cfX8) (k := 3) (Nat.le_of_ble_eq_true rfl) tw1_145 rfl dX8_visit_62 hw (fun o27 hw => ?_)
      refine go_iload_n C dX8_visit_65 2 rfl ?_
      obtain ⟨a28, e9, hw9⟩ := hw
      subst e9
      have hw := hw9
      clear hw9
      refine go_pV_i C [iV p1] vX5_indexAt tw2_150 (ci := 5) rfl (m_X5_indexAt (xl X) C.2.2.2.2.2.2.2.1 N hw.2) ⟨by simp only [rmX5_indexAt, rmX8_visit]; omega, by simp only [rmX5_indexAt, rmX8_visit]; omega, Nat.le_of_ble_eq_true rfl, Nat.le_of_ble_eq_true rfl⟩ ⟨rfl, rfl⟩ hw.1 dX8_visit_66 rfl (Nat.le_of_ble_eq_true rfl) rfl (fun v29 hw => ?_)
      obtain ⟨a30, e9, hw9⟩ := hw
      subst e9
      have hw := hw9
      clear hw9
      refine go_pV_q C [iV v29] vX9_indexAt tw2_154 (ci := 9) rfl (m_X9_indexAt (xl X) C.2.2.2.2.2.2.2.1 N hw.2) ⟨by simp only [rmX9_indexAt, rmX8_visit]; omega, by simp only [rmX9_indexAt, rmX8_visit]; omega, Nat.le_of_ble_eq_true rfl, Nat.le_of_ble_eq_true rfl⟩ ⟨rfl, rfl⟩ hw.1 dX8_visit_69 rfl (Nat.le_of_ble_eq_true rfl) rfl (fun o31 hw => ?_)
      refine go_sub [1, 2, 0] rfl ?_
      exact hj72 o31 hw
    clear hw
    subst e9
    have hw := hw9
    clear hw9
    refine go_null C dX8_visit_53 ?_
    refine go_goto C 72 dX8_visit_54 (by decide) ?_
    refine go_sub [1, 2, 0] rfl ?_
    exact hj72 none hw
  exact go_vret C dX8_visit_29 hw (Nat.le_of_ble_eq_true rfl) (Nat.le_of_ble_eq_true rfl)
theorem m_X8_visit {G : Gp} (l : Launch) (hfl : l.stackTraces = false) (N : Nat) : ∀ (d : Nat) (a0 : Nat) (p1 : Int32) (h0 : Hp) (K : Hp → Prop), w_X8_visit N d a0 p1 h0 K → MT G l yX8_visit cX8_visit 4 none (rmX8_visit d) [rV (some a0), iV p1] h0 (QV G K)
  | 0, _, _, _, _, hw => False.elim hw
  | d + 1, _, _, _, _, hw => m_X8_visit_s l hfl N d (m_X8_visit l hfl N d) hw
/-- DuelSchema$Runner.follow(LDuelSchema$Store;LDuelSchema$Query;LDuelSchema$Plan;LDuelSchema$Cache;)I -/
def w_X8_follow (N : Nat) (a0 : Nat) (p1 : Option Nat) (p2 : Option Nat) (p3 : Option Nat) (p4 : Option Nat) (h0 : Hp) (K : Int32 → Hp → Prop) : Prop :=
  cv h0 a0 8 <| w_X8_begin N a0 p2 p3 h0 fun h1 =>
  pF h1 a0 8 1 (rV p1) fun h2 =>
  pF h2 a0 8 4 (rV p4) fun h3 =>
  cv h3 a0 8 <| w_X8_visit N 4 a0 0 h3 fun h4 =>
  gI h4 a0 8 8 fun v5 =>
  K v5 h4
abbrev rmX8_follow : Room := { frames := 41, cells := 0, slots := 0, locals := 1323 }
theorem vX8_follow : VI RX8 yX8_follow cX8_follow 5 (some .int) 4 := ⟨tw3_229, tw3_230, tw1_6, tw3_231, by decide +kernel⟩
set_option maxHeartbeats 4000000 in
theorem m_X8_follow {G : Gp} (l : Launch) (hfl : l.stackTraces = false) (N : Nat) {a0 : Nat} {p1 : Option Nat} {p2 : Option Nat} {p3 : Option Nat} {p4 : Option Nat} {h0 : Hp} {K : Int32 → Hp → Prop} (hw : w_X8_follow N a0 p1 p2 p3 p4 h0 K) : MT G l yX8_follow cX8_follow 5 (some .int) rmX8_follow [rV (some a0), rV p1, rV p2, rV p3, rV p4] h0 (QI G K) := by
  refine go_metT l hfl _ 5 _ _ rfl (by decide +kernel) (Nat.le_of_ble_eq_true rfl) [(0, rV (some a0)), (1, rV p1), (2, rV p2), (3, rV p3), (4, rV p4)] rfl (fun X hX C hn => ?_)
  subst hX
  unfold w_X8_follow at hw
  refine go_aload_n C dX8_follow_0 0 rfl ?_
  refine go_aload_n C dX8_follow_1 2 rfl ?_
  refine go_aload_n C dX8_follow_2 3 rfl ?_
  refine go_c0V_v C [rV p2, rV p3] vX8_begin tw2_130 (ci := 8) rfl (m_X8_begin (xl X) C.2.2.2.2.2.2.2.1 N hw.2) ⟨Nat.le_of_ble_eq_true rfl, Nat.le_of_ble_eq_true rfl, Nat.le_of_ble_eq_true rfl, Nat.le_of_ble_eq_true rfl⟩ ⟨rfl, rfl⟩ hw.1 dX8_follow_3 rfl (Nat.le_of_ble_eq_true rfl) rfl (fun h1 hw => ?_)
  refine go_aload_n C dX8_follow_6 0 rfl ?_
  refine go_aload_n C dX8_follow_7 1 rfl ?_
  refine go_putR C (cfX8) (k := 1) (Nat.le_of_ble_eq_true rfl) tw1_143 rfl (Or.inl rfl) rfl dX8_follow_8 hw (fun h2 hw => ?_)
  refine go_aload_n C dX8_follow_11 0 rfl ?_
  refine go_aload C dX8_follow_12 4 rfl ?_
  refine go_putR C (cfX8) (k := 4) (Nat.le_of_ble_eq_true rfl) tw1_146 rfl (Or.inl rfl) rfl dX8_follow_14 hw (fun h3 hw => ?_)
  refine go_aload_n C dX8_follow_17 0 rfl ?_
  refine go_iconst C 0 dX8_follow_18 kc_i0 ?_
  refine go_c0V_v C [iV 0] vX8_visit tw2_134 (ci := 8) rfl (m_X8_visit (xl X) C.2.2.2.2.2.2.2.1 N 4 _ _ _ _ hw.2) ⟨Nat.le_of_ble_eq_true rfl, Nat.le_of_ble_eq_true rfl, Nat.le_of_ble_eq_true rfl, Nat.le_of_ble_eq_true rfl⟩ ⟨rfl, rfl⟩ hw.1 dX8_follow_19 rfl (Nat.le_of_ble_eq_true rfl) rfl (fun h4 hw => ?_)
  refine go_aload_n C dX8_follow_22 0 rfl ?_
  refine go_getI C (cfX8) (k := 8) (Nat.le_of_ble_eq_true rfl) tw1_150 rfl dX8_follow_23 hw (fun v5 hw => ?_)
  exact go_iret C dX8_follow_26 hw (Nat.le_of_ble_eq_true rfl) (Nat.le_of_ble_eq_true rfl)
/-- DuelSchema$Runner.tryAllRows(LDuelSchema$Query;III)V -/
def w_X8_tryAllRows (N : Nat) (a0 : Nat) (p1 : Option Nat) (p2 : Int32) (p3 : Int32) (p4 : Int32) (h0 : Hp) (K : Hp → Prop) : Prop :=
  gA h0 a0 8 0 fun a1 =>
  nn p1 fun a2 => cv h0 a2 7 <| w_X7_size N a2  h0 fun v3 =>
  cv h0 a1 5 <| w_X5_takeOrder N a1 0 v3 h0 fun v4 h5 =>
  gA h5 a0 8 0 fun a6 =>
  cv h5 a0 8 <| w_X8_begin N a0 (some a2) (some a6) h5 fun h7 =>
  pF h7 a0 8 11 (iV p2) fun h8 =>
  pF h8 a0 8 12 (iV p3) fun h9 =>
  pF h9 a0 8 13 (iV p4) fun h10 =>
  cv h10 a0 8 <| w_X8_visit N 4 a0 0 h10 fun h11 =>
  K h11
abbrev rmX8_tryAllRows : Room := { frames := 41, cells := 0, slots := 0, locals := 1323 }
theorem vX8_tryAllRows : VI RX8 yX8_tryAllRows cX8_tryAllRows 5 none 4 := ⟨tw2_116, tw2_117, tw1_6, tw2_118, by decide +kernel⟩
set_option maxHeartbeats 4000000 in
theorem m_X8_tryAllRows {G : Gp} (l : Launch) (hfl : l.stackTraces = false) (N : Nat) {a0 : Nat} {p1 : Option Nat} {p2 : Int32} {p3 : Int32} {p4 : Int32} {h0 : Hp} {K : Hp → Prop} (hw : w_X8_tryAllRows N a0 p1 p2 p3 p4 h0 K) : MT G l yX8_tryAllRows cX8_tryAllRows 5 none rmX8_tryAllRows [rV (some a0), rV p1, iV p2, iV p3, iV p4] h0 (QV G K) := by
  refine go_metT l hfl _ 5 _ _ rfl (by decide +kernel) (Nat.le_of_ble_eq_true rfl) [(0, rV (some a0)), (1, rV p1), (2, iV p2), (3, iV p3), (4, iV p4)] rfl (fun X hX C hn => ?_)
  subst hX
  unfold w_X8_tryAllRows at hw
  refine go_aload_n C dX8_tryAllRows_0 0 rfl ?_
  refine go_getA C (cfX8) (k := 0) (Nat.le_of_ble_eq_true rfl) tw1_142 rfl dX8_tryAllRows_1 hw (fun a1 hw => ?_)
  refine go_iconst C 0 dX8_tryAllRows_4 kc_i0 ?_
  refine go_aload_n C dX8_tryAllRows_5 1 rfl ?_
  obtain ⟨a2, e9, hw9⟩ := hw
  subst e9
  have hw := hw9
  clear hw9
  refine go_pV_i C [] vX7_size tw2_119 (ci := 7) rfl (m_X7_size (xl X) C.2.2.2.2.2.2.2.1 N hw.2) ⟨Nat.le_of_ble_eq_true rfl, Nat.le_of_ble_eq_true rfl, Nat.le_of_ble_eq_true rfl, Nat.le_of_ble_eq_true rfl⟩ ⟨rfl, rfl⟩ hw.1 dX8_tryAllRows_6 rfl (Nat.le_of_ble_eq_true rfl) rfl (fun v3 hw => ?_)
  refine go_c0V_i C [iV 0, iV v3] vX5_takeOrder tw2_120 (ci := 5) rfl (m_X5_takeOrder (xl X) C.2.2.2.2.2.2.2.1 N hw.2) ⟨Nat.le_of_ble_eq_true rfl, Nat.le_of_ble_eq_true rfl, Nat.le_of_ble_eq_true rfl, Nat.le_of_ble_eq_true rfl⟩ ⟨rfl, rfl⟩ hw.1 dX8_tryAllRows_9 rfl (Nat.le_of_ble_eq_true rfl) rfl (fun v4 h5 hw => ?_)
  refine go_pop C _ dX8_tryAllRows_12 rfl ?_
  refine go_aload_n C dX8_tryAllRows_13 0 rfl ?_
  refine go_aload_n C dX8_tryAllRows_14 1 rfl ?_
  refine go_aload_n C dX8_tryAllRows_15 0 rfl ?_
  refine go_getA C (cfX8) (k := 0) (Nat.le_of_ble_eq_true rfl) tw1_142 rfl dX8_tryAllRows_16 hw (fun a6 hw => ?_)
  refine go_c0V_v C [rV (some a2), rV (some a6)] vX8_begin tw2_130 (ci := 8) rfl (m_X8_begin (xl X) C.2.2.2.2.2.2.2.1 N hw.2) ⟨Nat.le_of_ble_eq_true rfl, Nat.le_of_ble_eq_true rfl, Nat.le_of_ble_eq_true rfl, Nat.le_of_ble_eq_true rfl⟩ ⟨rfl, rfl⟩ hw.1 dX8_tryAllRows_19 rfl (Nat.le_of_ble_eq_true rfl) rfl (fun h7 hw => ?_)
  refine go_aload_n C dX8_tryAllRows_22 0 rfl ?_
  refine go_iload_n C dX8_tryAllRows_23 2 rfl ?_
  refine go_putI C (cfX8) (k := 11) (Nat.le_of_ble_eq_true rfl) tw1_153 rfl (Or.inl rfl) rfl dX8_tryAllRows_24 hw (fun h8 hw => ?_)
  refine go_aload_n C dX8_tryAllRows_27 0 rfl ?_
  refine go_iload_n C dX8_tryAllRows_28 3 rfl ?_
  refine go_putI C (cfX8) (k := 12) (Nat.le_of_ble_eq_true rfl) tw1_154 rfl (Or.inl rfl) rfl dX8_tryAllRows_29 hw (fun h9 hw => ?_)
  refine go_aload_n C dX8_tryAllRows_32 0 rfl ?_
  refine go_iload C dX8_tryAllRows_33 4 rfl ?_
  refine go_putI C (cfX8) (k := 13) (Nat.le_of_ble_eq_true rfl) tw1_155 rfl (Or.inl rfl) rfl dX8_tryAllRows_35 hw (fun h10 hw => ?_)
  refine go_aload_n C dX8_tryAllRows_38 0 rfl ?_
  refine go_iconst C 0 dX8_tryAllRows_39 kc_i0 ?_
  refine go_c0V_v C [iV 0] vX8_visit tw2_134 (ci := 8) rfl (m_X8_visit (xl X) C.2.2.2.2.2.2.2.1 N 4 _ _ _ _ hw.2) ⟨Nat.le_of_ble_eq_true rfl, Nat.le_of_ble_eq_true rfl, Nat.le_of_ble_eq_true rfl, Nat.le_of_ble_eq_true rfl⟩ ⟨rfl, rfl⟩ hw.1 dX8_tryAllRows_40 rfl (Nat.le_of_ble_eq_true rfl) rfl (fun h11 hw => ?_)
  exact go_vret C dX8_tryAllRows_43 hw (Nat.le_of_ble_eq_true rfl) (Nat.le_of_ble_eq_true rfl)
