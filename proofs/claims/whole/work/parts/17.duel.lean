/-- DuelSchema.<init>()V -/
def w_X11_init (N : Nat) (a0 : Nat) (h0 : Hp) (K : Hp → Prop) : Prop :=
  nw h0 9 [rV none, iV 0, rV none, iV 0] fun a1 h2 =>
  w_X9_init N a1  h2 fun h3 =>
  pF h3 a0 11 0 (rV (some a1)) fun h4 =>
  nA h4 (.inl (7, 8, .inr (.inr (.inr (.inr (fun _ => none)))))) fun a5 h6 =>
  pF h6 a0 11 1 (rV (some a5)) fun h7 =>
  pF h7 a0 11 2 (iV 0) fun h8 =>
  nw h8 0 [rV none, iV 0, iV 0] fun a9 h10 =>
  w_X0_init N a9  h10 fun h11 =>
  pF h11 a0 11 3 (rV (some a9)) fun h12 =>
  nw h12 0 [rV none, iV 0, iV 0] fun a13 h14 =>
  w_X0_init N a13  h14 fun h15 =>
  pF h15 a0 11 4 (rV (some a13)) fun h16 =>
  nw h16 6 [rV none, rV none, rV none, rV none, rV none, rV none, rV none] fun a17 h18 =>
  w_X6_init N a17  h18 fun h19 =>
  pF h19 a0 11 5 (rV (some a17)) fun h20 =>
  nw h20 8 [rV none, rV none, rV none, rV none, rV none, rV none, rV none, iV 0, iV 0, iV 0, lV 0, iV 0, iV 0, iV 0, iV 0, lV 0] fun a21 h22 =>
  w_X8_init N a21  h22 fun h23 =>
  pF h23 a0 11 6 (rV (some a21)) fun h24 =>
  nw h24 5 [iV 0, rV none, rV none, rV none, rV none, rV none, lV 0] fun a25 h26 =>
  w_X5_init N a25  h26 fun h27 =>
  pF h27 a0 11 7 (rV (some a25)) fun h28 =>
  nw h28 5 [iV 0, rV none, rV none, rV none, rV none, rV none, lV 0] fun a29 h30 =>
  w_X5_init N a29  h30 fun h31 =>
  pF h31 a0 11 8 (rV (some a29)) fun h32 =>
  nw h32 5 [iV 0, rV none, rV none, rV none, rV none, rV none, lV 0] fun a33 h34 =>
  w_X5_init N a33  h34 fun h35 =>
  pF h35 a0 11 9 (rV (some a33)) fun h36 =>
  pF h36 a0 11 10 (rV none) fun h37 =>
  nw h37 2 [rV none, rV none, rV none, iV 0, iV 0, iV 0] fun a38 h39 =>
  w_X2_init N a38  h39 fun h40 =>
  pF h40 a0 11 11 (rV (some a38)) fun h41 =>
  K h41
abbrev rmX11_init : Room := { frames := 4, cells := 52, slots := 1263, locals := 100 }
theorem vX11_init : II yX11_init cX11_init 1 0 := ⟨tw1_30, tw1_1, tw1_31, rfl, by decide +kernel⟩
set_option maxHeartbeats 4000000 in
theorem m_X11_init {G : Gp} (l : Launch) (hfl : l.stackTraces = false) (N : Nat) {a0 : Nat} {h0 : Hp} {K : Hp → Prop} (hw : w_X11_init N a0 h0 K) : MT G l yX11_init cX11_init 1 none rmX11_init [rV (some a0)] h0 (QV G K) := by
  refine go_metT l hfl _ 1 _ _ rfl (by decide +kernel) (Nat.le_of_ble_eq_true rfl) [(0, rV (some a0))] rfl (fun X hX C hn => ?_)
  subst hX
  unfold w_X11_init at hw
  refine go_aload_n C dX11_init_0 0 rfl ?_
  refine go_objinit C tw1_32 tw1_33 tw1_34 dX11_init_1 ⟨Nat.le_of_ble_eq_true rfl, Nat.le_of_ble_eq_true rfl⟩ (Nat.le_of_ble_eq_true rfl) ?_
  refine go_aload_n C dX11_init_4 0 rfl ?_
  refine go_new C cfX9 tw1_35 tw1_36 tw1_2 [rV none, iV 0, rV none, iV 0] dfX9 ⟨Nat.le_of_ble_eq_true rfl, Nat.le_of_ble_eq_true rfl⟩ dX11_init_5 hw (fun a1 h2 hw => ?_)
  refine go_dup C _ dX11_init_8 rfl ?_
  refine go_callIN_v C [] vX9_init tw1_37 (m_X9_init (xl X) C.2.2.2.2.2.2.2.1 N hw) ⟨Nat.le_of_ble_eq_true rfl, Nat.le_of_ble_eq_true rfl, Nat.le_of_ble_eq_true rfl, Nat.le_of_ble_eq_true rfl⟩ dX11_init_9 rfl (Nat.le_of_ble_eq_true rfl) rfl (fun h3 hw => ?_)
  refine go_putR C (cfX11) (k := 0) (Nat.le_of_ble_eq_true rfl) tw1_218 rfl (Or.inr ⟨rfl, hn, rfl⟩) rfl dX11_init_12 hw (fun h4 hw => ?_)
  refine go_aload_n C dX11_init_15 0 rfl ?_
  refine go_bipush C 8 dX11_init_16 kc_b8 ?_
  refine go_anewarr7 C 8 (by decide) (by decide) (Nat.le_of_ble_eq_true rfl) tw1_58 ⟨Nat.le_of_ble_eq_true rfl, Nat.le_of_ble_eq_true rfl⟩ dX11_init_18 hw (fun a5 h6 hw => ?_)
  refine go_putRA C (cfX11) (k := 1) (Nat.le_of_ble_eq_true rfl) tw1_219 rfl (Or.inr ⟨rfl, hn, rfl⟩) rfl dX11_init_21 hw (fun h7 hw => ?_)
  refine go_aload_n C dX11_init_24 0 rfl ?_
  refine go_iconst C 0 dX11_init_25 kc_i0 ?_
  refine go_putI C (cfX11) (k := 2) (Nat.le_of_ble_eq_true rfl) tw1_220 rfl (Or.inl rfl) rfl dX11_init_26 hw (fun h8 hw => ?_)
  refine go_aload_n C dX11_init_29 0 rfl ?_
  refine go_new C cfX0 tw1_60 tw1_61 tw1_3 [rV none, iV 0, iV 0] dfX0 ⟨Nat.le_of_ble_eq_true rfl, Nat.le_of_ble_eq_true rfl⟩ dX11_init_30 hw (fun a9 h10 hw => ?_)
  refine go_dup C _ dX11_init_33 rfl ?_
  refine go_callIN_v C [] vX0_init tw1_62 (m_X0_init (xl X) C.2.2.2.2.2.2.2.1 N hw) ⟨Nat.le_of_ble_eq_true rfl, Nat.le_of_ble_eq_true rfl, Nat.le_of_ble_eq_true rfl, Nat.le_of_ble_eq_true rfl⟩ dX11_init_34 rfl (Nat.le_of_ble_eq_true rfl) rfl (fun h11 hw => ?_)
  refine go_putR C (cfX11) (k := 3) (Nat.le_of_ble_eq_true rfl) tw1_221 rfl (Or.inr ⟨rfl, hn, rfl⟩) rfl dX11_init_37 hw (fun h12 hw => ?_)
  refine go_aload_n C dX11_init_40 0 rfl ?_
  refine go_new C cfX0 tw1_60 tw1_61 tw1_3 [rV none, iV 0, iV 0] dfX0 ⟨Nat.le_of_ble_eq_true rfl, Nat.le_of_ble_eq_true rfl⟩ dX11_init_41 hw (fun a13 h14 hw => ?_)
  refine go_dup C _ dX11_init_44 rfl ?_
  refine go_callIN_v C [] vX0_init tw1_62 (m_X0_init (xl X) C.2.2.2.2.2.2.2.1 N hw) ⟨Nat.le_of_ble_eq_true rfl, Nat.le_of_ble_eq_true rfl, Nat.le_of_ble_eq_true rfl, Nat.le_of_ble_eq_true rfl⟩ dX11_init_45 rfl (Nat.le_of_ble_eq_true rfl) rfl (fun h15 hw => ?_)
  refine go_putR C (cfX11) (k := 4) (Nat.le_of_ble_eq_true rfl) tw1_222 rfl (Or.inr ⟨rfl, hn, rfl⟩) rfl dX11_init_48 hw (fun h16 hw => ?_)
  refine go_aload_n C dX11_init_51 0 rfl ?_
  refine go_new C cfX6 tw1_77 tw1_78 tw1_4 [rV none, rV none, rV none, rV none, rV none, rV none, rV none] dfX6 ⟨Nat.le_of_ble_eq_true rfl, Nat.le_of_ble_eq_true rfl⟩ dX11_init_52 hw (fun a17 h18 hw => ?_)
  refine go_dup C _ dX11_init_55 rfl ?_
  refine go_callIN_v C [] vX6_init tw1_79 (m_X6_init (xl X) C.2.2.2.2.2.2.2.1 N hw) ⟨Nat.le_of_ble_eq_true rfl, Nat.le_of_ble_eq_true rfl, Nat.le_of_ble_eq_true rfl, Nat.le_of_ble_eq_true rfl⟩ dX11_init_56 rfl (Nat.le_of_ble_eq_true rfl) rfl (fun h19 hw => ?_)
  refine go_putR C (cfX11) (k := 5) (Nat.le_of_ble_eq_true rfl) tw1_223 rfl (Or.inr ⟨rfl, hn, rfl⟩) rfl dX11_init_59 hw (fun h20 hw => ?_)
  refine go_aload_n C dX11_init_62 0 rfl ?_
  refine go_new C cfX8 tw1_134 tw1_135 tw1_6 [rV none, rV none, rV none, rV none, rV none, rV none, rV none, iV 0, iV 0, iV 0, lV 0, iV 0, iV 0, iV 0, iV 0, lV 0] dfX8 ⟨Nat.le_of_ble_eq_true rfl, Nat.le_of_ble_eq_true rfl⟩ dX11_init_63 hw (fun a21 h22 hw => ?_)
  refine go_dup C _ dX11_init_66 rfl ?_
  refine go_callIN_v C [] vX8_init tw1_136 (m_X8_init (xl X) C.2.2.2.2.2.2.2.1 N hw) ⟨Nat.le_of_ble_eq_true rfl, Nat.le_of_ble_eq_true rfl, Nat.le_of_ble_eq_true rfl, Nat.le_of_ble_eq_true rfl⟩ dX11_init_67 rfl (Nat.le_of_ble_eq_true rfl) rfl (fun h23 hw => ?_)
  refine go_putR C (cfX11) (k := 6) (Nat.le_of_ble_eq_true rfl) tw1_224 rfl (Or.inr ⟨rfl, hn, rfl⟩) rfl dX11_init_70 hw (fun h24 hw => ?_)
  refine go_aload_n C dX11_init_73 0 rfl ?_
  refine go_new C cfX5 tw1_191 tw1_84 tw1_5 [iV 0, rV none, rV none, rV none, rV none, rV none, lV 0] dfX5 ⟨Nat.le_of_ble_eq_true rfl, Nat.le_of_ble_eq_true rfl⟩ dX11_init_74 hw (fun a25 h26 hw => ?_)
  refine go_dup C _ dX11_init_77 rfl ?_
  refine go_callIN_v C [] vX5_init tw1_192 (m_X5_init (xl X) C.2.2.2.2.2.2.2.1 N hw) ⟨Nat.le_of_ble_eq_true rfl, Nat.le_of_ble_eq_true rfl, Nat.le_of_ble_eq_true rfl, Nat.le_of_ble_eq_true rfl⟩ dX11_init_78 rfl (Nat.le_of_ble_eq_true rfl) rfl (fun h27 hw => ?_)
  refine go_putR C (cfX11) (k := 7) (Nat.le_of_ble_eq_true rfl) tw1_225 rfl (Or.inr ⟨rfl, hn, rfl⟩) rfl dX11_init_81 hw (fun h28 hw => ?_)
  refine go_aload_n C dX11_init_84 0 rfl ?_
  refine go_new C cfX5 tw1_191 tw1_84 tw1_5 [iV 0, rV none, rV none, rV none, rV none, rV none, lV 0] dfX5 ⟨Nat.le_of_ble_eq_true rfl, Nat.le_of_ble_eq_true rfl⟩ dX11_init_85 hw (fun a29 h30 hw => ?_)
  refine go_dup C _ dX11_init_88 rfl ?_
  refine go_callIN_v C [] vX5_init tw1_192 (m_X5_init (xl X) C.2.2.2.2.2.2.2.1 N hw) ⟨Nat.le_of_ble_eq_true rfl, Nat.le_of_ble_eq_true rfl, Nat.le_of_ble_eq_true rfl, Nat.le_of_ble_eq_true rfl⟩ dX11_init_89 rfl (Nat.le_of_ble_eq_true rfl) rfl (fun h31 hw => ?_)
  refine go_putR C (cfX11) (k := 8) (Nat.le_of_ble_eq_true rfl) tw1_226 rfl (Or.inr ⟨rfl, hn, rfl⟩) rfl dX11_init_92 hw (fun h32 hw => ?_)
  refine go_aload_n C dX11_init_95 0 rfl ?_
  refine go_new C cfX5 tw1_191 tw1_84 tw1_5 [iV 0, rV none, rV none, rV none, rV none, rV none, lV 0] dfX5 ⟨Nat.le_of_ble_eq_true rfl, Nat.le_of_ble_eq_true rfl⟩ dX11_init_96 hw (fun a33 h34 hw => ?_)
  refine go_dup C _ dX11_init_99 rfl ?_
  refine go_callIN_v C [] vX5_init tw1_192 (m_X5_init (xl X) C.2.2.2.2.2.2.2.1 N hw) ⟨Nat.le_of_ble_eq_true rfl, Nat.le_of_ble_eq_true rfl, Nat.le_of_ble_eq_true rfl, Nat.le_of_ble_eq_true rfl⟩ dX11_init_100 rfl (Nat.le_of_ble_eq_true rfl) rfl (fun h35 hw => ?_)
  refine go_putR C (cfX11) (k := 9) (Nat.le_of_ble_eq_true rfl) tw1_227 rfl (Or.inr ⟨rfl, hn, rfl⟩) rfl dX11_init_103 hw (fun h36 hw => ?_)
  refine go_aload_n C dX11_init_106 0 rfl ?_
  refine go_null C dX11_init_107 ?_
  refine go_putR C (cfX11) (k := 10) (Nat.le_of_ble_eq_true rfl) tw1_228 rfl (Or.inl rfl) rfl dX11_init_108 hw (fun h37 hw => ?_)
  refine go_aload_n C dX11_init_111 0 rfl ?_
  refine go_new C cfX2 tw1_193 tw1_194 tw1_7 [rV none, rV none, rV none, iV 0, iV 0, iV 0] dfX2 ⟨Nat.le_of_ble_eq_true rfl, Nat.le_of_ble_eq_true rfl⟩ dX11_init_112 hw (fun a38 h39 hw => ?_)
  refine go_dup C _ dX11_init_115 rfl ?_
  refine go_callIN_v C [] vX2_init tw1_195 (m_X2_init (xl X) C.2.2.2.2.2.2.2.1 N hw) ⟨Nat.le_of_ble_eq_true rfl, Nat.le_of_ble_eq_true rfl, Nat.le_of_ble_eq_true rfl, Nat.le_of_ble_eq_true rfl⟩ dX11_init_116 rfl (Nat.le_of_ble_eq_true rfl) rfl (fun h40 hw => ?_)
  refine go_putR C (cfX11) (k := 11) (Nat.le_of_ble_eq_true rfl) tw1_229 rfl (Or.inr ⟨rfl, hn, rfl⟩) rfl dX11_init_119 hw (fun h41 hw => ?_)
  exact go_vret C dX11_init_122 hw (Nat.le_of_ble_eq_true rfl) (Nat.le_of_ble_eq_true rfl)
/-- DuelSchema.table(I)I -/
def w_X11_table (N : Nat) (a0 : Nat) (p1 : Int32) (h0 : Hp) (K : Int32 → Hp → Prop) (KX : String → Hp → Prop) : Prop :=
  br (p1 < 1) (
    KX "java/lang/IllegalArgumentException" h0) (
    br (p1 ≤ 3) (
      gA h0 a0 11 0 fun a1 =>
      cv h0 a1 9 <| w_X9_addTable N a1 p1 h0 fun v2 h3 =>
      br (v2 = (-1)) (
        KX "java/lang/IllegalStateException" h3) (
        gA h3 a0 11 11 fun a4 =>
        cv h3 a4 2 <| w_X2_closeAppeals N a4  h3 fun h5 =>
        K v2 h5)) (
      KX "java/lang/IllegalArgumentException" h0))
abbrev rmX11_table : Room := { frames := 8, cells := 9, slots := 194, locals := 140 }
theorem vX11_table : VI RX11 yX11_table cX11_table 3 (some .int) 1 := ⟨tw4_11, tw4_12, tw1_1, tw4_13, by decide +kernel⟩
set_option maxHeartbeats 4000000 in
theorem m_X11_table {G : Gp} (l : Launch) (hfl : l.stackTraces = false) (N : Nat) {a0 : Nat} {p1 : Int32} {h0 : Hp} {K : Int32 → Hp → Prop} {KX : String → Hp → Prop} (hw : w_X11_table N a0 p1 h0 K KX) : MX G l yX11_table cX11_table 3 (some .int) rmX11_table [rV (some a0), iV p1] h0 (QI G K) KX := by
  refine go_xmetT l hfl _ 3 _ _ rfl (by decide +kernel) (Nat.le_of_ble_eq_true rfl) [(0, rV (some a0)), (1, iV p1)] rfl (fun X hX C hno => ?_)
  subst hX
  unfold w_X11_table at hw
  refine go_iload_n C dX11_table_0 1 rfl ?_
  refine go_iconst C 1 dX11_table_1 kc_i1 ?_
  refine go_icmp_lt C 10 dX11_table_2 (by decide) hw (fun hw => ?_) (fun hw => ?_)
  · exact go_throw C hno ex74_78 tw4_59 dX11_table_10 dX11_table_13 dX11_table_14 dX11_table_16 dX11_table_19 ⟨Nat.le_of_ble_eq_true rfl, Nat.le_of_ble_eq_true rfl, Nat.le_of_ble_eq_true rfl, Nat.le_of_ble_eq_true rfl⟩ (Nat.le_of_ble_eq_true rfl) ⟨Nat.le_of_ble_eq_true rfl, Nat.le_of_ble_eq_true rfl⟩ hw
  refine go_iload_n C dX11_table_5 1 rfl ?_
  refine go_iconst C 3 dX11_table_6 kc_i3 ?_
  refine go_icmp_le C 20 dX11_table_7 (by decide) hw (fun hw => ?_) (fun hw => ?_)
  · refine go_aload_n C dX11_table_20 0 rfl ?_
    refine go_getA C (cfX11) (k := 0) (Nat.le_of_ble_eq_true rfl) tw1_218 rfl dX11_table_21 hw (fun a1 hw => ?_)
    refine go_iload_n C dX11_table_24 1 rfl ?_
    refine go_callV_i C [iV p1] vX9_addTable tw4_86 (ci := 9) rfl (m_X9_addTable (xl X) C.2.2.2.2.2.2.2.1 N hw.2) ⟨Nat.le_of_ble_eq_true rfl, Nat.le_of_ble_eq_true rfl, Nat.le_of_ble_eq_true rfl, Nat.le_of_ble_eq_true rfl⟩ hw.1 dX11_table_25 rfl (Nat.le_of_ble_eq_true rfl) rfl (fun v2 h3 hw => ?_)
    refine go_istore_n C [(2, iV v2), (0, rV (some a0)), (1, iV p1)] dX11_table_28 (Nat.le_of_ble_eq_true rfl) rfl ?_
    refine go_iload_n C dX11_table_29 0 rfl ?_
    refine go_iconst C (-1) dX11_table_30 kc_im1 ?_
    refine go_icmp_ne C 44 dX11_table_31 (by decide) hw (fun hw => ?_) (fun hw => ?_)
    · refine go_aload_n C dX11_table_44 1 rfl ?_
      refine go_getA C (cfX11) (k := 11) (Nat.le_of_ble_eq_true rfl) tw1_229 rfl dX11_table_45 hw (fun a4 hw => ?_)
      refine go_c0V_v C [] vX2_closeAppeals tw2_31 (ci := 2) rfl (m_X2_closeAppeals (xl X) C.2.2.2.2.2.2.2.1 N hw.2) ⟨Nat.le_of_ble_eq_true rfl, Nat.le_of_ble_eq_true rfl, Nat.le_of_ble_eq_true rfl, Nat.le_of_ble_eq_true rfl⟩ ⟨rfl, rfl⟩ hw.1 dX11_table_48 rfl (Nat.le_of_ble_eq_true rfl) rfl (fun h5 hw => ?_)
      refine go_iload_n C dX11_table_51 0 rfl ?_
      exact go_xiret C dX11_table_52 hw (Nat.le_of_ble_eq_true rfl) (Nat.le_of_ble_eq_true rfl)
    exact go_throw C hno ex85_89 tw4_145 dX11_table_34 dX11_table_37 dX11_table_38 dX11_table_40 dX11_table_43 ⟨Nat.le_of_ble_eq_true rfl, Nat.le_of_ble_eq_true rfl, Nat.le_of_ble_eq_true rfl, Nat.le_of_ble_eq_true rfl⟩ (Nat.le_of_ble_eq_true rfl) ⟨Nat.le_of_ble_eq_true rfl, Nat.le_of_ble_eq_true rfl⟩ hw
  exact go_throw C hno ex74_78 tw4_59 dX11_table_10 dX11_table_13 dX11_table_14 dX11_table_16 dX11_table_19 ⟨Nat.le_of_ble_eq_true rfl, Nat.le_of_ble_eq_true rfl, Nat.le_of_ble_eq_true rfl, Nat.le_of_ble_eq_true rfl⟩ (Nat.le_of_ble_eq_true rfl) ⟨Nat.le_of_ble_eq_true rfl, Nat.le_of_ble_eq_true rfl⟩ hw
/-- DuelSchema.needTable(I)LDuelSchema$Table; -/
def w_X11_needTable (N : Nat) (a0 : Nat) (p1 : Int32) (h0 : Hp) (K : Option Nat → Hp → Prop) (KX : String → Hp → Prop) : Prop :=
  gA h0 a0 11 0 fun a1 =>
  cv h0 a1 9 <| w_X9_tableAt N a1 p1 h0 fun o2 =>
  brn o2 (
    KX "java/lang/IndexOutOfBoundsException" h0) (fun a3 =>
    K (some a3) h0)
abbrev rmX11_needTable : Room := { frames := 8, cells := 1, slots := 6, locals := 140 }
theorem vX11_needTable : VI RX11 yX11_needTable cX11_needTable 3 (some (.object "DuelSchema$Table")) 1 := ⟨tw4_185, tp31, tw1_1, tw4_186, by decide +kernel⟩
set_option maxHeartbeats 4000000 in
theorem m_X11_needTable {G : Gp} (l : Launch) (hfl : l.stackTraces = false) (N : Nat) {a0 : Nat} {p1 : Int32} {h0 : Hp} {K : Option Nat → Hp → Prop} {KX : String → Hp → Prop} (hw : w_X11_needTable N a0 p1 h0 K KX) : MX G l yX11_needTable cX11_needTable 3 (some (.object "DuelSchema$Table")) rmX11_needTable [rV (some a0), iV p1] h0 (QR G K) KX := by
  refine go_xmetT l hfl _ 3 _ _ rfl (by decide +kernel) (Nat.le_of_ble_eq_true rfl) [(0, rV (some a0)), (1, iV p1)] rfl (fun X hX C hno => ?_)
  subst hX
  unfold w_X11_needTable at hw
  refine go_aload_n C dX11_needTable_0 0 rfl ?_
  refine go_getA C (cfX11) (k := 0) (Nat.le_of_ble_eq_true rfl) tw1_218 rfl dX11_needTable_1 hw (fun a1 hw => ?_)
  refine go_iload_n C dX11_needTable_4 1 rfl ?_
  refine go_pV_q C [iV p1] vX9_tableAt tw4_187 (ci := 9) rfl (m_X9_tableAt (xl X) C.2.2.2.2.2.2.2.1 N hw.2) ⟨Nat.le_of_ble_eq_true rfl, Nat.le_of_ble_eq_true rfl, Nat.le_of_ble_eq_true rfl, Nat.le_of_ble_eq_true rfl⟩ ⟨rfl, rfl⟩ hw.1 dX11_needTable_5 rfl (Nat.le_of_ble_eq_true rfl) rfl (fun o2 hw => ?_)
  refine go_astore_n C [(2, rV o2), (0, rV (some a0)), (1, iV p1)] dX11_needTable_8 (Nat.le_of_ble_eq_true rfl) rfl ?_
  refine go_aload_n C dX11_needTable_9 0 rfl ?_
  refine go_ifnonnull C 24 dX11_needTable_10 (by decide) hw (fun a3 e9 hw9 => ?_) (fun e9 hw9 => ?_)
  · clear hw
    subst e9
    have hw := hw9
    clear hw9
    refine go_aload_n C dX11_needTable_24 0 rfl ?_
    exact go_xaret C dX11_needTable_25 hw (Nat.le_of_ble_eq_true rfl) (Nat.le_of_ble_eq_true rfl)
  clear hw
  subst e9
  have hw := hw9
  clear hw9
  exact go_throwW C hno ex410_414 tw4_200 dX11_needTable_13 dX11_needTable_16 dX11_needTable_17 dX11_needTable_20 dX11_needTable_23 ⟨Nat.le_of_ble_eq_true rfl, Nat.le_of_ble_eq_true rfl, Nat.le_of_ble_eq_true rfl, Nat.le_of_ble_eq_true rfl⟩ (Nat.le_of_ble_eq_true rfl) ⟨Nat.le_of_ble_eq_true rfl, Nat.le_of_ble_eq_true rfl⟩ hw
/-- DuelSchema.bound(IIII)I -/
def w_X11_bound (N : Nat) (a0 : Nat) (p1 : Int32) (p2 : Int32) (p3 : Int32) (p4 : Int32) (h0 : Hp) (K : Int32 → Hp → Prop) (KX : String → Hp → Prop) : Prop :=
  cv h0 a0 11 <| w_X11_needTable N a0 p1 h0 (fun o1 h2 =>
  nn o1 fun a3 => cv h2 a3 10 <| w_X10_hasColumn N a3 p2 h2 fun v4 =>
  br (v4 = 0) (
    KX "java/lang/IllegalArgumentException" h2) (
    w_X11_isValue N p3 h2 fun v5 =>
    br (v5 = 0) (
      KX "java/lang/IllegalArgumentException" h2) (
      w_X11_isValue N p4 h2 fun v6 =>
      br (v6 = 0) (
        KX "java/lang/IllegalArgumentException" h2) (
        br (p3 ≤ p4) (
          cv h2 a3 10 <| w_X10_setBounds N a3 p2 p3 p4 h2 fun h7 =>
          gA h7 a0 11 11 fun a8 =>
          cv h7 a8 2 <| w_X2_closeAppeals N a8  h7 fun h9 =>
          cv h9 a3 10 <| w_X10_rowsBeyondBounds N a3 p2 h9 fun v10 =>
          K v10 h9) (
          KX "java/lang/IllegalArgumentException" h2))))) KX
abbrev rmX11_bound : Room := { frames := 9, cells := 2, slots := 12, locals := 162 }
theorem vX11_bound : VI RX11 yX11_bound cX11_bound 6 (some .int) 4 := ⟨tw4_180, tw4_181, tw1_1, tw4_182, by decide +kernel⟩
set_option maxHeartbeats 4000000 in
theorem m_X11_bound {G : Gp} (l : Launch) (hfl : l.stackTraces = false) (N : Nat) {a0 : Nat} {p1 : Int32} {p2 : Int32} {p3 : Int32} {p4 : Int32} {h0 : Hp} {K : Int32 → Hp → Prop} {KX : String → Hp → Prop} (hw : w_X11_bound N a0 p1 p2 p3 p4 h0 K KX) : MX G l yX11_bound cX11_bound 6 (some .int) rmX11_bound [rV (some a0), iV p1, iV p2, iV p3, iV p4] h0 (QI G K) KX := by
  refine go_xmetT l hfl _ 6 _ _ rfl (by decide +kernel) (Nat.le_of_ble_eq_true rfl) [(0, rV (some a0)), (1, iV p1), (2, iV p2), (3, iV p3), (4, iV p4)] rfl (fun X hX C hno => ?_)
  subst hX
  unfold w_X11_bound at hw
  refine go_aload_n C dX11_bound_0 0 rfl ?_
  refine go_iload_n C dX11_bound_1 1 rfl ?_
  refine go_xcallV_q C hno [iV p1] vX11_needTable tw4_183 (ci := 11) rfl (m_X11_needTable (xl X) C.2.2.2.2.2.2.2.1 N hw.2) ⟨Nat.le_of_ble_eq_true rfl, Nat.le_of_ble_eq_true rfl, Nat.le_of_ble_eq_true rfl, Nat.le_of_ble_eq_true rfl⟩ ⟨Nat.le_of_ble_eq_true rfl, Nat.le_of_ble_eq_true rfl⟩ hw.1 dX11_bound_2 rfl (Nat.le_of_ble_eq_true rfl) rfl (fun o1 h2 hw => ?_)
  refine go_astore C [(5, rV o1), (0, rV (some a0)), (1, iV p1), (2, iV p2), (3, iV p3), (4, iV p4)] dX11_bound_5 (Nat.le_of_ble_eq_true rfl) rfl ?_
  refine go_aload C dX11_bound_7 0 rfl ?_
  refine go_iload_n C dX11_bound_9 3 rfl ?_
  obtain ⟨a3, e9, hw9⟩ := hw
  subst e9
  have hw := hw9
  clear hw9
  refine go_pV_i C [iV p2] vX10_hasColumn tw4_204 (ci := 10) rfl (m_X10_hasColumn (xl X) C.2.2.2.2.2.2.2.1 N hw.2) ⟨Nat.le_of_ble_eq_true rfl, Nat.le_of_ble_eq_true rfl, Nat.le_of_ble_eq_true rfl, Nat.le_of_ble_eq_true rfl⟩ ⟨rfl, rfl⟩ hw.1 dX11_bound_10 rfl (Nat.le_of_ble_eq_true rfl) rfl (fun v4 hw => ?_)
  refine go_if_eq C 37 dX11_bound_13 (by decide) hw (fun hw => ?_) (fun hw => ?_)
  · exact go_throw C hno ex74_78 tw4_208 dX11_bound_37 dX11_bound_40 dX11_bound_41 dX11_bound_43 dX11_bound_46 ⟨Nat.le_of_ble_eq_true rfl, Nat.le_of_ble_eq_true rfl, Nat.le_of_ble_eq_true rfl, Nat.le_of_ble_eq_true rfl⟩ (Nat.le_of_ble_eq_true rfl) ⟨Nat.le_of_ble_eq_true rfl, Nat.le_of_ble_eq_true rfl⟩ hw
  refine go_iload_n C dX11_bound_16 4 rfl ?_
  refine go_pS_i C [iV p3] vX11_isValue tw4_205 (m_X11_isValue (xl X) C.2.2.2.2.2.2.2.1 N hw) ⟨Nat.le_of_ble_eq_true rfl, Nat.le_of_ble_eq_true rfl, Nat.le_of_ble_eq_true rfl, Nat.le_of_ble_eq_true rfl⟩ ⟨rfl, rfl⟩ dX11_bound_17 rfl (Nat.le_of_ble_eq_true rfl) rfl (fun v5 hw => ?_)
  refine go_if_eq C 37 dX11_bound_20 (by decide) hw (fun hw => ?_) (fun hw => ?_)
  · exact go_throw C hno ex74_78 tw4_208 dX11_bound_37 dX11_bound_40 dX11_bound_41 dX11_bound_43 dX11_bound_46 ⟨Nat.le_of_ble_eq_true rfl, Nat.le_of_ble_eq_true rfl, Nat.le_of_ble_eq_true rfl, Nat.le_of_ble_eq_true rfl⟩ (Nat.le_of_ble_eq_true rfl) ⟨Nat.le_of_ble_eq_true rfl, Nat.le_of_ble_eq_true rfl⟩ hw
  refine go_iload C dX11_bound_23 5 rfl ?_
  refine go_pS_i C [iV p4] vX11_isValue tw4_205 (m_X11_isValue (xl X) C.2.2.2.2.2.2.2.1 N hw) ⟨Nat.le_of_ble_eq_true rfl, Nat.le_of_ble_eq_true rfl, Nat.le_of_ble_eq_true rfl, Nat.le_of_ble_eq_true rfl⟩ ⟨rfl, rfl⟩ dX11_bound_25 rfl (Nat.le_of_ble_eq_true rfl) rfl (fun v6 hw => ?_)
  refine go_if_eq C 37 dX11_bound_28 (by decide) hw (fun hw => ?_) (fun hw => ?_)
  · exact go_throw C hno ex74_78 tw4_208 dX11_bound_37 dX11_bound_40 dX11_bound_41 dX11_bound_43 dX11_bound_46 ⟨Nat.le_of_ble_eq_true rfl, Nat.le_of_ble_eq_true rfl, Nat.le_of_ble_eq_true rfl, Nat.le_of_ble_eq_true rfl⟩ (Nat.le_of_ble_eq_true rfl) ⟨Nat.le_of_ble_eq_true rfl, Nat.le_of_ble_eq_true rfl⟩ hw
  refine go_iload_n C dX11_bound_31 4 rfl ?_
  refine go_iload C dX11_bound_32 5 rfl ?_
  refine go_icmp_le C 47 dX11_bound_34 (by decide) hw (fun hw => ?_) (fun hw => ?_)
  · refine go_aload C dX11_bound_47 0 rfl ?_
    refine go_iload_n C dX11_bound_49 3 rfl ?_
    refine go_iload_n C dX11_bound_50 4 rfl ?_
    refine go_iload C dX11_bound_51 5 rfl ?_
    refine go_c0V_v C [iV p2, iV p3, iV p4] vX10_setBounds tw4_209 (ci := 10) rfl (m_X10_setBounds (xl X) C.2.2.2.2.2.2.2.1 N hw.2) ⟨Nat.le_of_ble_eq_true rfl, Nat.le_of_ble_eq_true rfl, Nat.le_of_ble_eq_true rfl, Nat.le_of_ble_eq_true rfl⟩ ⟨rfl, rfl⟩ hw.1 dX11_bound_53 rfl (Nat.le_of_ble_eq_true rfl) rfl (fun h7 hw => ?_)
    refine go_aload_n C dX11_bound_56 1 rfl ?_
    refine go_getA C (cfX11) (k := 11) (Nat.le_of_ble_eq_true rfl) tw1_229 rfl dX11_bound_57 hw (fun a8 hw => ?_)
    refine go_c0V_v C [] vX2_closeAppeals tw2_31 (ci := 2) rfl (m_X2_closeAppeals (xl X) C.2.2.2.2.2.2.2.1 N hw.2) ⟨Nat.le_of_ble_eq_true rfl, Nat.le_of_ble_eq_true rfl, Nat.le_of_ble_eq_true rfl, Nat.le_of_ble_eq_true rfl⟩ ⟨rfl, rfl⟩ hw.1 dX11_bound_60 rfl (Nat.le_of_ble_eq_true rfl) rfl (fun h9 hw => ?_)
    refine go_aload C dX11_bound_63 0 rfl ?_
    refine go_iload_n C dX11_bound_65 3 rfl ?_
    refine go_pV_i C [iV p2] vX10_rowsBeyondBounds tw4_213 (ci := 10) rfl (m_X10_rowsBeyondBounds (xl X) C.2.2.2.2.2.2.2.1 N hw.2) ⟨Nat.le_of_ble_eq_true rfl, Nat.le_of_ble_eq_true rfl, Nat.le_of_ble_eq_true rfl, Nat.le_of_ble_eq_true rfl⟩ ⟨rfl, rfl⟩ hw.1 dX11_bound_66 rfl (Nat.le_of_ble_eq_true rfl) rfl (fun v10 hw => ?_)
    exact go_xiret C dX11_bound_69 hw (Nat.le_of_ble_eq_true rfl) (Nat.le_of_ble_eq_true rfl)
  exact go_throw C hno ex74_78 tw4_208 dX11_bound_37 dX11_bound_40 dX11_bound_41 dX11_bound_43 dX11_bound_46 ⟨Nat.le_of_ble_eq_true rfl, Nat.le_of_ble_eq_true rfl, Nat.le_of_ble_eq_true rfl, Nat.le_of_ble_eq_true rfl⟩ (Nat.le_of_ble_eq_true rfl) ⟨Nat.le_of_ble_eq_true rfl, Nat.le_of_ble_eq_true rfl⟩ hw
/-- DuelSchema.forgetRow(LDuelSchema$Table;I)V -/
def w_X11_forgetRow (N : Nat) (a0 : Nat) (p1 : Option Nat) (p2 : Int32) (h0 : Hp) (K : Hp → Prop) : Prop :=
  w_X11_pageKey N p1 p2 h0 fun v1 =>
  gA h0 a0 11 3 fun a2 =>
  cv h0 a2 0 <| w_X0_drop N a2 v1 v1 h0 fun h3 =>
  fx2 (fun (w18 : Int32 → Hp → Prop) (x5 : Int32) (h4 : Hp) =>
    br (6 ≤ x5) (
      K h4) (
      gA h4 a0 11 0 fun a6 =>
      cv h4 a6 9 <| w_X9_indexAt N a6 x5 h4 fun o7 =>
      jn (fun (h8 : Hp) => 
        w18 (x5 + 1) h8) (fun j74 =>
      brn o7 (
        j74 h4) (fun a9 =>
        cv h4 a9 3 <| w_X3_isOf N a9 p1 h4 fun v10 =>
        br (v10 = 0) (
          j74 h4) (
          w_X11_leafKey N (some a9) 0 h4 fun v11 =>
          gA h4 a0 11 3 fun a12 =>
          cv h4 a12 0 <| w_X0_drop N a12 v11 ((v11 + 100) - 1) h4 fun h13 =>
          j74 h13))))) N 0 h3
abbrev rmX11_forgetRow : Room := { frames := 4, cells := 0, slots := 0, locals := 101 }
theorem vX11_forgetRow : VI RX11 yX11_forgetRow cX11_forgetRow 7 none 2 := ⟨tw5_13, tp33, tw1_1, tw5_14, by decide +kernel⟩
set_option maxHeartbeats 4000000 in
theorem m_X11_forgetRow {G : Gp} (l : Launch) (hfl : l.stackTraces = false) (N : Nat) {a0 : Nat} {p1 : Option Nat} {p2 : Int32} {h0 : Hp} {K : Hp → Prop} (hw : w_X11_forgetRow N a0 p1 p2 h0 K) : MT G l yX11_forgetRow cX11_forgetRow 7 none rmX11_forgetRow [rV (some a0), rV p1, iV p2] h0 (QV G K) := by
  refine go_metT l hfl _ 7 _ _ rfl (by decide +kernel) (Nat.le_of_ble_eq_true rfl) [(0, rV (some a0)), (1, rV p1), (2, iV p2)] rfl (fun X hX C hn => ?_)
  subst hX
  unfold w_X11_forgetRow at hw
  refine go_aload_n C dX11_forgetRow_0 1 rfl ?_
  refine go_iload_n C dX11_forgetRow_1 2 rfl ?_
  refine go_pS_i C [rV p1, iV p2] vX11_pageKey tw5_15 (m_X11_pageKey (xl X) C.2.2.2.2.2.2.2.1 N hw) ⟨Nat.le_of_ble_eq_true rfl, Nat.le_of_ble_eq_true rfl, Nat.le_of_ble_eq_true rfl, Nat.le_of_ble_eq_true rfl⟩ ⟨rfl, rfl⟩ dX11_forgetRow_2 rfl (Nat.le_of_ble_eq_true rfl) rfl (fun v1 hw => ?_)
  refine go_istore_n C [(3, iV v1), (0, rV (some a0)), (1, rV p1), (2, iV p2)] dX11_forgetRow_5 (Nat.le_of_ble_eq_true rfl) rfl ?_
  refine go_aload_n C dX11_forgetRow_6 1 rfl ?_
  refine go_getA C (cfX11) (k := 3) (Nat.le_of_ble_eq_true rfl) tw1_221 rfl dX11_forgetRow_7 hw (fun a2 hw => ?_)
  refine go_iload_n C dX11_forgetRow_10 0 rfl ?_
  refine go_iload_n C dX11_forgetRow_11 0 rfl ?_
  refine go_c0V_v C [iV v1, iV v1] vX0_drop tw5_16 (ci := 0) rfl (m_X0_drop (xl X) C.2.2.2.2.2.2.2.1 N hw.2) ⟨Nat.le_of_ble_eq_true rfl, Nat.le_of_ble_eq_true rfl, Nat.le_of_ble_eq_true rfl, Nat.le_of_ble_eq_true rfl⟩ ⟨rfl, rfl⟩ hw.1 dX11_forgetRow_12 rfl (Nat.le_of_ble_eq_true rfl) rfl (fun h3 hw => ?_)
  refine go_iconst C 0 dX11_forgetRow_15 kc_i0 ?_
  refine go_istore C [(4, iV 0), (3, iV v1), (0, rV (some a0)), (1, rV p1), (2, iV p2)] dX11_forgetRow_16 (Nat.le_of_ble_eq_true rfl) rfl ?_
  refine go_sub [2, 3, 0] rfl ?_
  refine fx2_elim (P := fun x5 h4 => Go G X rmX11_forgetRow 7 0 0 (QN G X (QV G K) rmX11_forgetRow) h4 18 [(0, rV (some a0)), (1, rV p1), (4, iV x5)] []) (fun w18 hj18 x5 h4 hw => ?_) N _ _ hw
  refine go_iload C dX11_forgetRow_18 2 rfl ?_
  refine go_bipush C 6 dX11_forgetRow_20 kc_b6 ?_
  refine go_icmp_ge C 80 dX11_forgetRow_22 (by decide) hw (fun hw => ?_) (fun hw => ?_)
  · exact go_vret C dX11_forgetRow_80 hw (Nat.le_of_ble_eq_true rfl) (Nat.le_of_ble_eq_true rfl)
  refine go_aload_n C dX11_forgetRow_25 0 rfl ?_
  refine go_getA C (cfX11) (k := 0) (Nat.le_of_ble_eq_true rfl) tw1_218 rfl dX11_forgetRow_26 hw (fun a6 hw => ?_)
  refine go_iload C dX11_forgetRow_29 2 rfl ?_
  refine go_pV_q C [iV x5] vX9_indexAt tw5_20 (ci := 9) rfl (m_X9_indexAt (xl X) C.2.2.2.2.2.2.2.1 N hw.2) ⟨Nat.le_of_ble_eq_true rfl, Nat.le_of_ble_eq_true rfl, Nat.le_of_ble_eq_true rfl, Nat.le_of_ble_eq_true rfl⟩ ⟨rfl, rfl⟩ hw.1 dX11_forgetRow_31 rfl (Nat.le_of_ble_eq_true rfl) rfl (fun o7 hw => ?_)
  refine go_astore C [(5, rV o7), (0, rV (some a0)), (1, rV p1), (4, iV x5)] dX11_forgetRow_34 (Nat.le_of_ble_eq_true rfl) rfl ?_
  refine go_aload C dX11_forgetRow_36 0 rfl ?_
  refine jn_elim (P := fun j => ∀ (h8 : Hp), j h8 → Go G X rmX11_forgetRow 7 0 0 (QN G X (QV G K) rmX11_forgetRow) h8 74 [(0, rV (some a0)), (1, rV p1), (4, iV x5)] []) hw (fun h8 hw => ?_) (fun j74 hj74 hw => ?_)
  · refine go_iinc C (x5 + 1) [(4, iV (x5 + 1)), (0, rV (some a0)), (1, rV p1)] dX11_forgetRow_74 2 rfl (by rw [kc_i1]) (Nat.le_of_ble_eq_true rfl) rfl ?_
    refine go_goto C 18 dX11_forgetRow_77 (by decide) ?_
    refine go_sub [1, 2, 0] rfl ?_
    exact hj18 (x5 + 1) h8 hw
  refine go_ifnull C 74 dX11_forgetRow_38 (by decide) hw (fun e9 hw9 => ?_) (fun a9 e9 hw9 => ?_)
  · clear hw
    subst e9
    have hw := hw9
    clear hw9
    refine go_sub [1, 2, 3] rfl ?_
    exact hj74 h4 hw
  clear hw
  subst e9
  have hw := hw9
  clear hw9
  refine go_aload C dX11_forgetRow_41 0 rfl ?_
  refine go_aload_n C dX11_forgetRow_43 2 rfl ?_
  refine go_pV_i C [rV p1] vX3_isOf tw5_21 (ci := 3) rfl (m_X3_isOf (xl X) C.2.2.2.2.2.2.2.1 N hw.2) ⟨Nat.le_of_ble_eq_true rfl, Nat.le_of_ble_eq_true rfl, Nat.le_of_ble_eq_true rfl, Nat.le_of_ble_eq_true rfl⟩ ⟨rfl, rfl⟩ hw.1 dX11_forgetRow_44 rfl (Nat.le_of_ble_eq_true rfl) rfl (fun v10 hw => ?_)
  refine go_if_eq C 74 dX11_forgetRow_47 (by decide) hw (fun hw => ?_) (fun hw => ?_)
  · refine go_sub [1, 2, 3] rfl ?_
    exact hj74 h4 hw
  refine go_aload C dX11_forgetRow_50 0 rfl ?_
  refine go_iconst C 0 dX11_forgetRow_52 kc_i0 ?_
  refine go_pS_i C [rV (some a9), iV 0] vX11_leafKey tw5_22 (m_X11_leafKey (xl X) C.2.2.2.2.2.2.2.1 N hw) ⟨Nat.le_of_ble_eq_true rfl, Nat.le_of_ble_eq_true rfl, Nat.le_of_ble_eq_true rfl, Nat.le_of_ble_eq_true rfl⟩ ⟨rfl, rfl⟩ dX11_forgetRow_53 rfl (Nat.le_of_ble_eq_true rfl) rfl (fun v11 hw => ?_)
  refine go_istore C [(6, iV v11), (5, rV (some a9)), (0, rV (some a0)), (1, rV p1), (4, iV x5)] dX11_forgetRow_56 (Nat.le_of_ble_eq_true rfl) rfl ?_
  refine go_aload_n C dX11_forgetRow_58 2 rfl ?_
  refine go_getA C (cfX11) (k := 3) (Nat.le_of_ble_eq_true rfl) tw1_221 rfl dX11_forgetRow_59 hw (fun a12 hw => ?_)
  refine go_iload C dX11_forgetRow_62 0 rfl ?_
  refine go_iload C dX11_forgetRow_64 0 rfl ?_
  refine go_bipush C 100 dX11_forgetRow_66 kc_b100 ?_
  refine go_iadd C dX11_forgetRow_68 ?_
  refine go_iconst C 1 dX11_forgetRow_69 kc_i1 ?_
  refine go_isub C dX11_forgetRow_70 ?_
  refine go_c0V_v C [iV v11, iV ((v11 + 100) - 1)] vX0_drop tw5_16 (ci := 0) rfl (m_X0_drop (xl X) C.2.2.2.2.2.2.2.1 N hw.2) ⟨Nat.le_of_ble_eq_true rfl, Nat.le_of_ble_eq_true rfl, Nat.le_of_ble_eq_true rfl, Nat.le_of_ble_eq_true rfl⟩ ⟨rfl, rfl⟩ hw.1 dX11_forgetRow_71 rfl (Nat.le_of_ble_eq_true rfl) rfl (fun h13 hw => ?_)
  refine go_sub [2, 3, 4] rfl ?_
  exact hj74 h13 hw
/-- DuelSchema.insert(IIII)I -/
def w_X11_insert (N : Nat) (a0 : Nat) (p1 : Int32) (p2 : Int32) (p3 : Int32) (p4 : Int32) (h0 : Hp) (K : Int32 → Hp → Prop) (KX : String → Hp → Prop) : Prop :=
  cv h0 a0 11 <| w_X11_needTable N a0 p1 h0 (fun o1 h2 =>
  nn o1 fun a3 => cv h2 a3 10 <| w_X10_admits N a3 p2 p3 p4 h2 fun v4 =>
  br (v4 = 0) (
    KX "java/lang/IllegalArgumentException" h2) (
    gA h2 a0 11 0 fun a5 =>
    cv h2 a5 9 <| w_X9_addRow N a5 (some a3) p2 p3 p4 h2 fun v6 h7 =>
    br (v6 = (-1)) (
      KX "java/lang/IllegalStateException" h7) (
      cv h7 a0 11 <| w_X11_forgetRow N a0 (some a3) v6 h7 fun h8 =>
      gA h8 a0 11 11 fun a9 =>
      cv h8 a9 2 <| w_X2_closeAppeals N a9  h8 fun h10 =>
      K v6 h10))) KX
abbrev rmX11_insert : Room := { frames := 9, cells := 2, slots := 12, locals := 177 }
theorem vX11_insert : VI RX11 yX11_insert cX11_insert 7 (some .int) 4 := ⟨tw4_225, tw4_226, tw1_1, tw4_227, by decide +kernel⟩
set_option maxHeartbeats 4000000 in
theorem m_X11_insert {G : Gp} (l : Launch) (hfl : l.stackTraces = false) (N : Nat) {a0 : Nat} {p1 : Int32} {p2 : Int32} {p3 : Int32} {p4 : Int32} {h0 : Hp} {K : Int32 → Hp → Prop} {KX : String → Hp → Prop} (hw : w_X11_insert N a0 p1 p2 p3 p4 h0 K KX) : MX G l yX11_insert cX11_insert 7 (some .int) rmX11_insert [rV (some a0), iV p1, iV p2, iV p3, iV p4] h0 (QI G K) KX := by
  refine go_xmetT l hfl _ 7 _ _ rfl (by decide +kernel) (Nat.le_of_ble_eq_true rfl) [(0, rV (some a0)), (1, iV p1), (2, iV p2), (3, iV p3), (4, iV p4)] rfl (fun X hX C hno => ?_)
  subst hX
  unfold w_X11_insert at hw
  refine go_aload_n C dX11_insert_0 0 rfl ?_
  refine go_iload_n C dX11_insert_1 1 rfl ?_
  refine go_xcallV_q C hno [iV p1] vX11_needTable tw4_183 (ci := 11) rfl (m_X11_needTable (xl X) C.2.2.2.2.2.2.2.1 N hw.2) ⟨Nat.le_of_ble_eq_true rfl, Nat.le_of_ble_eq_true rfl, Nat.le_of_ble_eq_true rfl, Nat.le_of_ble_eq_true rfl⟩ ⟨Nat.le_of_ble_eq_true rfl, Nat.le_of_ble_eq_true rfl⟩ hw.1 dX11_insert_2 rfl (Nat.le_of_ble_eq_true rfl) rfl (fun o1 h2 hw => ?_)
  refine go_astore C [(5, rV o1), (0, rV (some a0)), (1, iV p1), (2, iV p2), (3, iV p3), (4, iV p4)] dX11_insert_5 (Nat.le_of_ble_eq_true rfl) rfl ?_
  refine go_aload C dX11_insert_7 0 rfl ?_
  refine go_iload_n C dX11_insert_9 3 rfl ?_
  refine go_iload_n C dX11_insert_10 4 rfl ?_
  refine go_iload C dX11_insert_11 5 rfl ?_
  obtain ⟨a3, e9, hw9⟩ := hw
  subst e9
  have hw := hw9
  clear hw9
  refine go_pV_i C [iV p2, iV p3, iV p4] vX10_admits tw4_228 (ci := 10) rfl (m_X10_admits (xl X) C.2.2.2.2.2.2.2.1 N hw.2) ⟨Nat.le_of_ble_eq_true rfl, Nat.le_of_ble_eq_true rfl, Nat.le_of_ble_eq_true rfl, Nat.le_of_ble_eq_true rfl⟩ ⟨rfl, rfl⟩ hw.1 dX11_insert_13 rfl (Nat.le_of_ble_eq_true rfl) rfl (fun v4 hw => ?_)
  refine go_if_ne C 29 dX11_insert_16 (by decide) hw (fun hw => ?_) (fun hw => ?_)
  · refine go_aload_n C dX11_insert_29 1 rfl ?_
    refine go_getA C (cfX11) (k := 0) (Nat.le_of_ble_eq_true rfl) tw1_218 rfl dX11_insert_30 hw (fun a5 hw => ?_)
    refine go_aload C dX11_insert_33 0 rfl ?_
    refine go_iload_n C dX11_insert_35 3 rfl ?_
    refine go_iload_n C dX11_insert_36 4 rfl ?_
    refine go_iload C dX11_insert_37 5 rfl ?_
    refine go_c0V_i C [rV (some a3), iV p2, iV p3, iV p4] vX9_addRow tw4_233 (ci := 9) rfl (m_X9_addRow (xl X) C.2.2.2.2.2.2.2.1 N hw.2) ⟨Nat.le_of_ble_eq_true rfl, Nat.le_of_ble_eq_true rfl, Nat.le_of_ble_eq_true rfl, Nat.le_of_ble_eq_true rfl⟩ ⟨rfl, rfl⟩ hw.1 dX11_insert_39 rfl (Nat.le_of_ble_eq_true rfl) rfl (fun v6 h7 hw => ?_)
    refine go_istore C [(6, iV v6), (5, rV (some a3)), (0, rV (some a0)), (1, iV p1), (2, iV p2), (3, iV p3), (4, iV p4)] dX11_insert_42 (Nat.le_of_ble_eq_true rfl) rfl ?_
    refine go_iload C dX11_insert_44 0 rfl ?_
    refine go_iconst C (-1) dX11_insert_46 kc_im1 ?_
    refine go_icmp_ne C 60 dX11_insert_47 (by decide) hw (fun hw => ?_) (fun hw => ?_)
    · refine go_aload_n C dX11_insert_60 2 rfl ?_
      refine go_aload C dX11_insert_61 1 rfl ?_
      refine go_iload C dX11_insert_63 0 rfl ?_
      refine go_c0V_v C [rV (some a3), iV v6] vX11_forgetRow tw5_11 (ci := 11) rfl (m_X11_forgetRow (xl X) C.2.2.2.2.2.2.2.1 N hw.2) ⟨Nat.le_of_ble_eq_true rfl, Nat.le_of_ble_eq_true rfl, Nat.le_of_ble_eq_true rfl, Nat.le_of_ble_eq_true rfl⟩ ⟨rfl, rfl⟩ hw.1 dX11_insert_65 rfl (Nat.le_of_ble_eq_true rfl) rfl (fun h8 hw => ?_)
      refine go_aload_n C dX11_insert_68 2 rfl ?_
      refine go_getA C (cfX11) (k := 11) (Nat.le_of_ble_eq_true rfl) tw1_229 rfl dX11_insert_69 hw (fun a9 hw => ?_)
      refine go_c0V_v C [] vX2_closeAppeals tw2_31 (ci := 2) rfl (m_X2_closeAppeals (xl X) C.2.2.2.2.2.2.2.1 N hw.2) ⟨Nat.le_of_ble_eq_true rfl, Nat.le_of_ble_eq_true rfl, Nat.le_of_ble_eq_true rfl, Nat.le_of_ble_eq_true rfl⟩ ⟨rfl, rfl⟩ hw.1 dX11_insert_72 rfl (Nat.le_of_ble_eq_true rfl) rfl (fun h10 hw => ?_)
      refine go_iload C dX11_insert_75 0 rfl ?_
      exact go_xiret C dX11_insert_77 hw (Nat.le_of_ble_eq_true rfl) (Nat.le_of_ble_eq_true rfl)
    exact go_throw C hno ex85_89 tw5_10 dX11_insert_50 dX11_insert_53 dX11_insert_54 dX11_insert_56 dX11_insert_59 ⟨Nat.le_of_ble_eq_true rfl, Nat.le_of_ble_eq_true rfl, Nat.le_of_ble_eq_true rfl, Nat.le_of_ble_eq_true rfl⟩ (Nat.le_of_ble_eq_true rfl) ⟨Nat.le_of_ble_eq_true rfl, Nat.le_of_ble_eq_true rfl⟩ hw
  exact go_throw C hno ex74_78 tw4_232 dX11_insert_19 dX11_insert_22 dX11_insert_23 dX11_insert_25 dX11_insert_28 ⟨Nat.le_of_ble_eq_true rfl, Nat.le_of_ble_eq_true rfl, Nat.le_of_ble_eq_true rfl, Nat.le_of_ble_eq_true rfl⟩ (Nat.le_of_ble_eq_true rfl) ⟨Nat.le_of_ble_eq_true rfl, Nat.le_of_ble_eq_true rfl⟩ hw
/-- DuelSchema.remove(II)I -/
def w_X11_remove (N : Nat) (a0 : Nat) (p1 : Int32) (p2 : Int32) (h0 : Hp) (K : Int32 → Hp → Prop) (KX : String → Hp → Prop) : Prop :=
  cv h0 a0 11 <| w_X11_needTable N a0 p1 h0 (fun o1 h2 =>
  nn o1 fun a3 => cv h2 a3 10 <| w_X10_hasRow N a3 p2 h2 fun v4 =>
  br (v4 = 0) (
    KX "java/util/NoSuchElementException" h2) (
    gA h2 a0 11 0 fun a5 =>
    cv h2 a5 9 <| w_X9_dropRow N a5 (some a3) p2 h2 fun h6 =>
    cv h6 a0 11 <| w_X11_forgetRow N a0 (some a3) p2 h6 fun h7 =>
    gA h7 a0 11 11 fun a8 =>
    cv h7 a8 2 <| w_X2_closeAppeals N a8  h7 fun h9 =>
    cv h9 a3 10 <| w_X10_rowCount N a3  h9 fun v10 =>
    K v10 h9)) KX
abbrev rmX11_remove : Room := { frames := 9, cells := 2, slots := 12, locals := 162 }
theorem vX11_remove : VI RX11 yX11_remove cX11_remove 4 (some .int) 2 := ⟨tw5_28, tw5_29, tw1_1, tw5_30, by decide +kernel⟩
set_option maxHeartbeats 4000000 in
theorem m_X11_remove {G : Gp} (l : Launch) (hfl : l.stackTraces = false) (N : Nat) {a0 : Nat} {p1 : Int32} {p2 : Int32} {h0 : Hp} {K : Int32 → Hp → Prop} {KX : String → Hp → Prop} (hw : w_X11_remove N a0 p1 p2 h0 K KX) : MX G l yX11_remove cX11_remove 4 (some .int) rmX11_remove [rV (some a0), iV p1, iV p2] h0 (QI G K) KX := by
  refine go_xmetT l hfl _ 4 _ _ rfl (by decide +kernel) (Nat.le_of_ble_eq_true rfl) [(0, rV (some a0)), (1, iV p1), (2, iV p2)] rfl (fun X hX C hno => ?_)
  subst hX
  unfold w_X11_remove at hw
  refine go_aload_n C dX11_remove_0 0 rfl ?_
  refine go_iload_n C dX11_remove_1 1 rfl ?_
  refine go_xcallV_q C hno [iV p1] vX11_needTable tw4_183 (ci := 11) rfl (m_X11_needTable (xl X) C.2.2.2.2.2.2.2.1 N hw.2) ⟨Nat.le_of_ble_eq_true rfl, Nat.le_of_ble_eq_true rfl, Nat.le_of_ble_eq_true rfl, Nat.le_of_ble_eq_true rfl⟩ ⟨Nat.le_of_ble_eq_true rfl, Nat.le_of_ble_eq_true rfl⟩ hw.1 dX11_remove_2 rfl (Nat.le_of_ble_eq_true rfl) rfl (fun o1 h2 hw => ?_)
  refine go_astore_n C [(3, rV o1), (0, rV (some a0)), (1, iV p1), (2, iV p2)] dX11_remove_5 (Nat.le_of_ble_eq_true rfl) rfl ?_
  refine go_aload_n C dX11_remove_6 0 rfl ?_
  refine go_iload_n C dX11_remove_7 3 rfl ?_
  obtain ⟨a3, e9, hw9⟩ := hw
  subst e9
  have hw := hw9
  clear hw9
  refine go_pV_i C [iV p2] vX10_hasRow tw5_31 (ci := 10) rfl (m_X10_hasRow (xl X) C.2.2.2.2.2.2.2.1 N hw.2) ⟨Nat.le_of_ble_eq_true rfl, Nat.le_of_ble_eq_true rfl, Nat.le_of_ble_eq_true rfl, Nat.le_of_ble_eq_true rfl⟩ ⟨rfl, rfl⟩ hw.1 dX11_remove_8 rfl (Nat.le_of_ble_eq_true rfl) rfl (fun v4 hw => ?_)
  refine go_if_ne C 24 dX11_remove_11 (by decide) hw (fun hw => ?_) (fun hw => ?_)
  · refine go_aload_n C dX11_remove_24 1 rfl ?_
    refine go_getA C (cfX11) (k := 0) (Nat.le_of_ble_eq_true rfl) tw1_218 rfl dX11_remove_25 hw (fun a5 hw => ?_)
    refine go_aload_n C dX11_remove_28 0 rfl ?_
    refine go_iload_n C dX11_remove_29 3 rfl ?_
    refine go_c0V_v C [rV (some a3), iV p2] vX9_dropRow tw5_48 (ci := 9) rfl (m_X9_dropRow (xl X) C.2.2.2.2.2.2.2.1 N hw.2) ⟨Nat.le_of_ble_eq_true rfl, Nat.le_of_ble_eq_true rfl, Nat.le_of_ble_eq_true rfl, Nat.le_of_ble_eq_true rfl⟩ ⟨rfl, rfl⟩ hw.1 dX11_remove_30 rfl (Nat.le_of_ble_eq_true rfl) rfl (fun h6 hw => ?_)
    refine go_aload_n C dX11_remove_33 1 rfl ?_
    refine go_aload_n C dX11_remove_34 0 rfl ?_
    refine go_iload_n C dX11_remove_35 3 rfl ?_
    refine go_c0V_v C [rV (some a3), iV p2] vX11_forgetRow tw5_11 (ci := 11) rfl (m_X11_forgetRow (xl X) C.2.2.2.2.2.2.2.1 N hw.2) ⟨Nat.le_of_ble_eq_true rfl, Nat.le_of_ble_eq_true rfl, Nat.le_of_ble_eq_true rfl, Nat.le_of_ble_eq_true rfl⟩ ⟨rfl, rfl⟩ hw.1 dX11_remove_36 rfl (Nat.le_of_ble_eq_true rfl) rfl (fun h7 hw => ?_)
    refine go_aload_n C dX11_remove_39 1 rfl ?_
    refine go_getA C (cfX11) (k := 11) (Nat.le_of_ble_eq_true rfl) tw1_229 rfl dX11_remove_40 hw (fun a8 hw => ?_)
    refine go_c0V_v C [] vX2_closeAppeals tw2_31 (ci := 2) rfl (m_X2_closeAppeals (xl X) C.2.2.2.2.2.2.2.1 N hw.2) ⟨Nat.le_of_ble_eq_true rfl, Nat.le_of_ble_eq_true rfl, Nat.le_of_ble_eq_true rfl, Nat.le_of_ble_eq_true rfl⟩ ⟨rfl, rfl⟩ hw.1 dX11_remove_43 rfl (Nat.le_of_ble_eq_true rfl) rfl (fun h9 hw => ?_)
    refine go_aload_n C dX11_remove_46 0 rfl ?_
    refine go_pV_i C [] vX10_rowCount tw5_61 (ci := 10) rfl (m_X10_rowCount (xl X) C.2.2.2.2.2.2.2.1 N hw.2) ⟨Nat.le_of_ble_eq_true rfl, Nat.le_of_ble_eq_true rfl, Nat.le_of_ble_eq_true rfl, Nat.le_of_ble_eq_true rfl⟩ ⟨rfl, rfl⟩ hw.1 dX11_remove_47 rfl (Nat.le_of_ble_eq_true rfl) rfl (fun v10 hw => ?_)
    exact go_xiret C dX11_remove_50 hw (Nat.le_of_ble_eq_true rfl) (Nat.le_of_ble_eq_true rfl)
  exact go_throwN C hno tw5_41 dX11_remove_14 dX11_remove_17 dX11_remove_18 dX11_remove_20 dX11_remove_23 ⟨Nat.le_of_ble_eq_true rfl, Nat.le_of_ble_eq_true rfl, Nat.le_of_ble_eq_true rfl, Nat.le_of_ble_eq_true rfl⟩ (Nat.le_of_ble_eq_true rfl) ⟨Nat.le_of_ble_eq_true rfl, Nat.le_of_ble_eq_true rfl⟩ hw
/-- DuelSchema.count(I)I -/
def w_X11_count (N : Nat) (a0 : Nat) (p1 : Int32) (h0 : Hp) (K : Int32 → Hp → Prop) (KX : String → Hp → Prop) : Prop :=
  cv h0 a0 11 <| w_X11_needTable N a0 p1 h0 (fun o1 h2 =>
  nn o1 fun a3 => cv h2 a3 10 <| w_X10_takeCounts N a3  h2 fun h4 =>
  gA h4 a0 11 11 fun a5 =>
  cv h4 a5 2 <| w_X2_closeAppeals N a5  h4 fun h6 =>
  cv h6 a3 10 <| w_X10_takenRows N a3  h6 fun v7 =>
  K v7 h6) KX
abbrev rmX11_count : Room := { frames := 9, cells := 1, slots := 6, locals := 162 }
theorem vX11_count : VI RX11 yX11_count cX11_count 3 (some .int) 1 := ⟨tw5_66, tw5_67, tw1_1, tw5_68, by decide +kernel⟩
set_option maxHeartbeats 4000000 in
theorem m_X11_count {G : Gp} (l : Launch) (hfl : l.stackTraces = false) (N : Nat) {a0 : Nat} {p1 : Int32} {h0 : Hp} {K : Int32 → Hp → Prop} {KX : String → Hp → Prop} (hw : w_X11_count N a0 p1 h0 K KX) : MX G l yX11_count cX11_count 3 (some .int) rmX11_count [rV (some a0), iV p1] h0 (QI G K) KX := by
  refine go_xmetT l hfl _ 3 _ _ rfl (by decide +kernel) (Nat.le_of_ble_eq_true rfl) [(0, rV (some a0)), (1, iV p1)] rfl (fun X hX C hno => ?_)
  subst hX
  unfold w_X11_count at hw
  refine go_aload_n C dX11_count_0 0 rfl ?_
  refine go_iload_n C dX11_count_1 1 rfl ?_
  refine go_xcallV_q C hno [iV p1] vX11_needTable tw4_183 (ci := 11) rfl (m_X11_needTable (xl X) C.2.2.2.2.2.2.2.1 N hw.2) ⟨Nat.le_of_ble_eq_true rfl, Nat.le_of_ble_eq_true rfl, Nat.le_of_ble_eq_true rfl, Nat.le_of_ble_eq_true rfl⟩ ⟨Nat.le_of_ble_eq_true rfl, Nat.le_of_ble_eq_true rfl⟩ hw.1 dX11_count_2 rfl (Nat.le_of_ble_eq_true rfl) rfl (fun o1 h2 hw => ?_)
  refine go_astore_n C [(2, rV o1), (0, rV (some a0)), (1, iV p1)] dX11_count_5 (Nat.le_of_ble_eq_true rfl) rfl ?_
  refine go_aload_n C dX11_count_6 0 rfl ?_
  obtain ⟨a3, e9, hw9⟩ := hw
  subst e9
  have hw := hw9
  clear hw9
  refine go_c0V_v C [] vX10_takeCounts tw5_69 (ci := 10) rfl (m_X10_takeCounts (xl X) C.2.2.2.2.2.2.2.1 N hw.2) ⟨Nat.le_of_ble_eq_true rfl, Nat.le_of_ble_eq_true rfl, Nat.le_of_ble_eq_true rfl, Nat.le_of_ble_eq_true rfl⟩ ⟨rfl, rfl⟩ hw.1 dX11_count_7 rfl (Nat.le_of_ble_eq_true rfl) rfl (fun h4 hw => ?_)
  refine go_aload_n C dX11_count_10 1 rfl ?_
  refine go_getA C (cfX11) (k := 11) (Nat.le_of_ble_eq_true rfl) tw1_229 rfl dX11_count_11 hw (fun a5 hw => ?_)
  refine go_c0V_v C [] vX2_closeAppeals tw2_31 (ci := 2) rfl (m_X2_closeAppeals (xl X) C.2.2.2.2.2.2.2.1 N hw.2) ⟨Nat.le_of_ble_eq_true rfl, Nat.le_of_ble_eq_true rfl, Nat.le_of_ble_eq_true rfl, Nat.le_of_ble_eq_true rfl⟩ ⟨rfl, rfl⟩ hw.1 dX11_count_14 rfl (Nat.le_of_ble_eq_true rfl) rfl (fun h6 hw => ?_)
  refine go_aload_n C dX11_count_17 0 rfl ?_
  refine go_pV_i C [] vX10_takenRows tw5_85 (ci := 10) rfl (m_X10_takenRows (xl X) C.2.2.2.2.2.2.2.1 N hw.2) ⟨Nat.le_of_ble_eq_true rfl, Nat.le_of_ble_eq_true rfl, Nat.le_of_ble_eq_true rfl, Nat.le_of_ble_eq_true rfl⟩ ⟨rfl, rfl⟩ hw.1 dX11_count_18 rfl (Nat.le_of_ble_eq_true rfl) rfl (fun v7 hw => ?_)
  exact go_xiret C dX11_count_21 hw (Nat.le_of_ble_eq_true rfl) (Nat.le_of_ble_eq_true rfl)
/-- DuelSchema.index(II)I -/
def w_X11_index (N : Nat) (a0 : Nat) (p1 : Int32) (p2 : Int32) (h0 : Hp) (K : Int32 → Hp → Prop) (KX : String → Hp → Prop) : Prop :=
  cv h0 a0 11 <| w_X11_needTable N a0 p1 h0 (fun o1 h2 =>
  nn o1 fun a3 => cv h2 a3 10 <| w_X10_hasColumn N a3 p2 h2 fun v4 =>
  br (v4 = 0) (
    KX "java/lang/IllegalArgumentException" h2) (
    gA h2 a0 11 0 fun a5 =>
    cv h2 a5 9 <| w_X9_addIndex N a5 (some a3) p2 h2 fun v6 h7 =>
    br (v6 = (-1)) (
      KX "java/lang/IllegalStateException" h7) (
      gA h7 a0 11 11 fun a8 =>
      cv h7 a8 2 <| w_X2_closeAppeals N a8  h7 fun h9 =>
      K v6 h9))) KX
abbrev rmX11_index : Room := { frames := 9, cells := 4, slots := 57, locals := 175 }
theorem vX11_index : VI RX11 yX11_index cX11_index 5 (some .int) 2 := ⟨tw5_90, tw5_91, tw1_1, tw5_92, by decide +kernel⟩
set_option maxHeartbeats 4000000 in
theorem m_X11_index {G : Gp} (l : Launch) (hfl : l.stackTraces = false) (N : Nat) {a0 : Nat} {p1 : Int32} {p2 : Int32} {h0 : Hp} {K : Int32 → Hp → Prop} {KX : String → Hp → Prop} (hw : w_X11_index N a0 p1 p2 h0 K KX) : MX G l yX11_index cX11_index 5 (some .int) rmX11_index [rV (some a0), iV p1, iV p2] h0 (QI G K) KX := by
  refine go_xmetT l hfl _ 5 _ _ rfl (by decide +kernel) (Nat.le_of_ble_eq_true rfl) [(0, rV (some a0)), (1, iV p1), (2, iV p2)] rfl (fun X hX C hno => ?_)
  subst hX
  unfold w_X11_index at hw
  refine go_aload_n C dX11_index_0 0 rfl ?_
  refine go_iload_n C dX11_index_1 1 rfl ?_
  refine go_xcallV_q C hno [iV p1] vX11_needTable tw4_183 (ci := 11) rfl (m_X11_needTable (xl X) C.2.2.2.2.2.2.2.1 N hw.2) ⟨Nat.le_of_ble_eq_true rfl, Nat.le_of_ble_eq_true rfl, Nat.le_of_ble_eq_true rfl, Nat.le_of_ble_eq_true rfl⟩ ⟨Nat.le_of_ble_eq_true rfl, Nat.le_of_ble_eq_true rfl⟩ hw.1 dX11_index_2 rfl (Nat.le_of_ble_eq_true rfl) rfl (fun o1 h2 hw => ?_)
  refine go_astore_n C [(3, rV o1), (0, rV (some a0)), (1, iV p1), (2, iV p2)] dX11_index_5 (Nat.le_of_ble_eq_true rfl) rfl ?_
  refine go_aload_n C dX11_index_6 0 rfl ?_
  refine go_iload_n C dX11_index_7 3 rfl ?_
  obtain ⟨a3, e9, hw9⟩ := hw
  subst e9
  have hw := hw9
  clear hw9
  refine go_pV_i C [iV p2] vX10_hasColumn tw4_204 (ci := 10) rfl (m_X10_hasColumn (xl X) C.2.2.2.2.2.2.2.1 N hw.2) ⟨Nat.le_of_ble_eq_true rfl, Nat.le_of_ble_eq_true rfl, Nat.le_of_ble_eq_true rfl, Nat.le_of_ble_eq_true rfl⟩ ⟨rfl, rfl⟩ hw.1 dX11_index_8 rfl (Nat.le_of_ble_eq_true rfl) rfl (fun v4 hw => ?_)
  refine go_if_ne C 24 dX11_index_11 (by decide) hw (fun hw => ?_) (fun hw => ?_)
  · refine go_aload_n C dX11_index_24 1 rfl ?_
    refine go_getA C (cfX11) (k := 0) (Nat.le_of_ble_eq_true rfl) tw1_218 rfl dX11_index_25 hw (fun a5 hw => ?_)
    refine go_aload_n C dX11_index_28 0 rfl ?_
    refine go_iload_n C dX11_index_29 3 rfl ?_
    refine go_callV_i C [rV (some a3), iV p2] vX9_addIndex tw5_94 (ci := 9) rfl (m_X9_addIndex (xl X) C.2.2.2.2.2.2.2.1 N hw.2) ⟨Nat.le_of_ble_eq_true rfl, Nat.le_of_ble_eq_true rfl, Nat.le_of_ble_eq_true rfl, Nat.le_of_ble_eq_true rfl⟩ hw.1 dX11_index_30 rfl (Nat.le_of_ble_eq_true rfl) rfl (fun v6 h7 hw => ?_)
    refine go_istore C [(4, iV v6), (3, rV (some a3)), (0, rV (some a0)), (1, iV p1), (2, iV p2)] dX11_index_33 (Nat.le_of_ble_eq_true rfl) rfl ?_
    refine go_iload C dX11_index_35 0 rfl ?_
    refine go_iconst C (-1) dX11_index_37 kc_im1 ?_
    refine go_icmp_ne C 51 dX11_index_38 (by decide) hw (fun hw => ?_) (fun hw => ?_)
    · refine go_aload_n C dX11_index_51 2 rfl ?_
      refine go_getA C (cfX11) (k := 11) (Nat.le_of_ble_eq_true rfl) tw1_229 rfl dX11_index_52 hw (fun a8 hw => ?_)
      refine go_c0V_v C [] vX2_closeAppeals tw2_31 (ci := 2) rfl (m_X2_closeAppeals (xl X) C.2.2.2.2.2.2.2.1 N hw.2) ⟨Nat.le_of_ble_eq_true rfl, Nat.le_of_ble_eq_true rfl, Nat.le_of_ble_eq_true rfl, Nat.le_of_ble_eq_true rfl⟩ ⟨rfl, rfl⟩ hw.1 dX11_index_55 rfl (Nat.le_of_ble_eq_true rfl) rfl (fun h9 hw => ?_)
      refine go_iload C dX11_index_58 0 rfl ?_
      exact go_xiret C dX11_index_60 hw (Nat.le_of_ble_eq_true rfl) (Nat.le_of_ble_eq_true rfl)
    exact go_throw C hno ex85_89 tw5_120 dX11_index_41 dX11_index_44 dX11_index_45 dX11_index_47 dX11_index_50 ⟨Nat.le_of_ble_eq_true rfl, Nat.le_of_ble_eq_true rfl, Nat.le_of_ble_eq_true rfl, Nat.le_of_ble_eq_true rfl⟩ (Nat.le_of_ble_eq_true rfl) ⟨Nat.le_of_ble_eq_true rfl, Nat.le_of_ble_eq_true rfl⟩ hw
  exact go_throw C hno ex74_78 tw5_93 dX11_index_14 dX11_index_17 dX11_index_18 dX11_index_20 dX11_index_23 ⟨Nat.le_of_ble_eq_true rfl, Nat.le_of_ble_eq_true rfl, Nat.le_of_ble_eq_true rfl, Nat.le_of_ble_eq_true rfl⟩ (Nat.le_of_ble_eq_true rfl) ⟨Nat.le_of_ble_eq_true rfl, Nat.le_of_ble_eq_true rfl⟩ hw
/-- DuelSchema.frames(I)I -/
def w_X11_frames (N : Nat) (a0 : Nat) (p1 : Int32) (h0 : Hp) (K : Int32 → Hp → Prop) (KX : String → Hp → Prop) : Prop :=
  br (p1 < 0) (
    KX "java/lang/IllegalArgumentException" h0) (
    br (p1 ≤ 12) (
      gA h0 a0 11 3 fun a1 =>
      cv h0 a1 0 <| w_X0_frameCount N a1  h0 fun v2 =>
      gA h0 a0 11 3 fun a3 =>
      cv h0 a3 0 <| w_X0_setFrames N a3 p1 h0 fun h4 =>
      gA h4 a0 11 11 fun a5 =>
      cv h4 a5 2 <| w_X2_closeAppeals N a5  h4 fun h6 =>
      K v2 h6) (
      KX "java/lang/IllegalArgumentException" h0))
abbrev rmX11_frames : Room := { frames := 8, cells := 1, slots := 6, locals := 140 }
theorem vX11_frames : VI RX11 yX11_frames cX11_frames 3 (some .int) 1 := ⟨tw5_125, tw5_126, tw1_1, tw5_127, by decide +kernel⟩
set_option maxHeartbeats 4000000 in
theorem m_X11_frames {G : Gp} (l : Launch) (hfl : l.stackTraces = false) (N : Nat) {a0 : Nat} {p1 : Int32} {h0 : Hp} {K : Int32 → Hp → Prop} {KX : String → Hp → Prop} (hw : w_X11_frames N a0 p1 h0 K KX) : MX G l yX11_frames cX11_frames 3 (some .int) rmX11_frames [rV (some a0), iV p1] h0 (QI G K) KX := by
  refine go_xmetT l hfl _ 3 _ _ rfl (by decide +kernel) (Nat.le_of_ble_eq_true rfl) [(0, rV (some a0)), (1, iV p1)] rfl (fun X hX C hno => ?_)
  subst hX
  unfold w_X11_frames at hw
  refine go_iload_n C dX11_frames_0 1 rfl ?_
  refine go_if_lt C 10 dX11_frames_1 (by decide) hw (fun hw => ?_) (fun hw => ?_)
  · exact go_throw C hno ex74_78 tw5_128 dX11_frames_10 dX11_frames_13 dX11_frames_14 dX11_frames_16 dX11_frames_19 ⟨Nat.le_of_ble_eq_true rfl, Nat.le_of_ble_eq_true rfl, Nat.le_of_ble_eq_true rfl, Nat.le_of_ble_eq_true rfl⟩ (Nat.le_of_ble_eq_true rfl) ⟨Nat.le_of_ble_eq_true rfl, Nat.le_of_ble_eq_true rfl⟩ hw
  refine go_iload_n C dX11_frames_4 1 rfl ?_
  refine go_bipush C 12 dX11_frames_5 kc_b12 ?_
  refine go_icmp_le C 20 dX11_frames_7 (by decide) hw (fun hw => ?_) (fun hw => ?_)
  · refine go_aload_n C dX11_frames_20 0 rfl ?_
    refine go_getA C (cfX11) (k := 3) (Nat.le_of_ble_eq_true rfl) tw1_221 rfl dX11_frames_21 hw (fun a1 hw => ?_)
    refine go_pV_i C [] vX0_frameCount tw3_220 (ci := 0) rfl (m_X0_frameCount (xl X) C.2.2.2.2.2.2.2.1 N hw.2) ⟨Nat.le_of_ble_eq_true rfl, Nat.le_of_ble_eq_true rfl, Nat.le_of_ble_eq_true rfl, Nat.le_of_ble_eq_true rfl⟩ ⟨rfl, rfl⟩ hw.1 dX11_frames_24 rfl (Nat.le_of_ble_eq_true rfl) rfl (fun v2 hw => ?_)
    refine go_istore_n C [(2, iV v2), (0, rV (some a0)), (1, iV p1)] dX11_frames_27 (Nat.le_of_ble_eq_true rfl) rfl ?_
    refine go_aload_n C dX11_frames_28 1 rfl ?_
    refine go_getA C (cfX11) (k := 3) (Nat.le_of_ble_eq_true rfl) tw1_221 rfl dX11_frames_29 hw (fun a3 hw => ?_)
    refine go_iload_n C dX11_frames_32 2 rfl ?_
    refine go_c0V_v C [iV p1] vX0_setFrames tw3_224 (ci := 0) rfl (m_X0_setFrames (xl X) C.2.2.2.2.2.2.2.1 N hw.2) ⟨Nat.le_of_ble_eq_true rfl, Nat.le_of_ble_eq_true rfl, Nat.le_of_ble_eq_true rfl, Nat.le_of_ble_eq_true rfl⟩ ⟨rfl, rfl⟩ hw.1 dX11_frames_33 rfl (Nat.le_of_ble_eq_true rfl) rfl (fun h4 hw => ?_)
    refine go_aload_n C dX11_frames_36 1 rfl ?_
    refine go_getA C (cfX11) (k := 11) (Nat.le_of_ble_eq_true rfl) tw1_229 rfl dX11_frames_37 hw (fun a5 hw => ?_)
    refine go_c0V_v C [] vX2_closeAppeals tw2_31 (ci := 2) rfl (m_X2_closeAppeals (xl X) C.2.2.2.2.2.2.2.1 N hw.2) ⟨Nat.le_of_ble_eq_true rfl, Nat.le_of_ble_eq_true rfl, Nat.le_of_ble_eq_true rfl, Nat.le_of_ble_eq_true rfl⟩ ⟨rfl, rfl⟩ hw.1 dX11_frames_40 rfl (Nat.le_of_ble_eq_true rfl) rfl (fun h6 hw => ?_)
    refine go_iload_n C dX11_frames_43 0 rfl ?_
    exact go_xiret C dX11_frames_44 hw (Nat.le_of_ble_eq_true rfl) (Nat.le_of_ble_eq_true rfl)
  exact go_throw C hno ex74_78 tw5_128 dX11_frames_10 dX11_frames_13 dX11_frames_14 dX11_frames_16 dX11_frames_19 ⟨Nat.le_of_ble_eq_true rfl, Nat.le_of_ble_eq_true rfl, Nat.le_of_ble_eq_true rfl, Nat.le_of_ble_eq_true rfl⟩ (Nat.le_of_ble_eq_true rfl) ⟨Nat.le_of_ble_eq_true rfl, Nat.le_of_ble_eq_true rfl⟩ hw
/-- DuelSchema.pages(I)I -/
def w_X11_pages (N : Nat) (a0 : Nat) (p1 : Int32) (h0 : Hp) (K : Int32 → Hp → Prop) (KX : String → Hp → Prop) : Prop :=
  cv h0 a0 11 <| w_X11_needTable N a0 p1 h0 (fun o1 h2 =>
  nn o1 fun a3 => cv h2 a3 10 <| w_X10_pageCount N a3  h2 fun v4 =>
  K v4 h2) KX
abbrev rmX11_pages : Room := { frames := 9, cells := 1, slots := 6, locals := 162 }
theorem vX11_pages : VI RX11 yX11_pages cX11_pages 2 (some .int) 1 := ⟨tw5_133, tw5_134, tw1_1, tw5_135, by decide +kernel⟩
set_option maxHeartbeats 4000000 in
theorem m_X11_pages {G : Gp} (l : Launch) (hfl : l.stackTraces = false) (N : Nat) {a0 : Nat} {p1 : Int32} {h0 : Hp} {K : Int32 → Hp → Prop} {KX : String → Hp → Prop} (hw : w_X11_pages N a0 p1 h0 K KX) : MX G l yX11_pages cX11_pages 2 (some .int) rmX11_pages [rV (some a0), iV p1] h0 (QI G K) KX := by
  refine go_xmetT l hfl _ 2 _ _ rfl (by decide +kernel) (Nat.le_of_ble_eq_true rfl) [(0, rV (some a0)), (1, iV p1)] rfl (fun X hX C hno => ?_)
  subst hX
  unfold w_X11_pages at hw
  refine go_aload_n C dX11_pages_0 0 rfl ?_
  refine go_iload_n C dX11_pages_1 1 rfl ?_
  refine go_xcallV_q C hno [iV p1] vX11_needTable tw4_183 (ci := 11) rfl (m_X11_needTable (xl X) C.2.2.2.2.2.2.2.1 N hw.2) ⟨Nat.le_of_ble_eq_true rfl, Nat.le_of_ble_eq_true rfl, Nat.le_of_ble_eq_true rfl, Nat.le_of_ble_eq_true rfl⟩ ⟨Nat.le_of_ble_eq_true rfl, Nat.le_of_ble_eq_true rfl⟩ hw.1 dX11_pages_2 rfl (Nat.le_of_ble_eq_true rfl) rfl (fun o1 h2 hw => ?_)
  obtain ⟨a3, e9, hw9⟩ := hw
  subst e9
  have hw := hw9
  clear hw9
  refine go_pV_i C [] vX10_pageCount tw5_136 (ci := 10) rfl (m_X10_pageCount (xl X) C.2.2.2.2.2.2.2.1 N hw.2) ⟨Nat.le_of_ble_eq_true rfl, Nat.le_of_ble_eq_true rfl, Nat.le_of_ble_eq_true rfl, Nat.le_of_ble_eq_true rfl⟩ ⟨rfl, rfl⟩ hw.1 dX11_pages_5 rfl (Nat.le_of_ble_eq_true rfl) rfl (fun v4 hw => ?_)
  exact go_xiret C dX11_pages_8 hw (Nat.le_of_ble_eq_true rfl) (Nat.le_of_ble_eq_true rfl)
/-- DuelSchema.value(III)I -/
def w_X11_value (N : Nat) (a0 : Nat) (p1 : Int32) (p2 : Int32) (p3 : Int32) (h0 : Hp) (K : Int32 → Hp → Prop) (KX : String → Hp → Prop) : Prop :=
  cv h0 a0 11 <| w_X11_needTable N a0 p1 h0 (fun o1 h2 =>
  nn o1 fun a3 => cv h2 a3 10 <| w_X10_hasColumn N a3 p3 h2 fun v4 =>
  br (v4 = 0) (
    KX "java/lang/IllegalArgumentException" h2) (
    cv h2 a3 10 <| w_X10_hasRow N a3 p2 h2 fun v5 =>
    br (v5 = 0) (
      KX "java/util/NoSuchElementException" h2) (
      cv h2 a3 10 <| w_X10_cell N a3 p2 p3 h2 fun v6 =>
      K v6 h2))) KX
abbrev rmX11_value : Room := { frames := 9, cells := 2, slots := 12, locals := 162 }
theorem vX11_value : VI RX11 yX11_value cX11_value 5 (some .int) 3 := ⟨tw5_141, tw5_142, tw1_1, tw5_143, by decide +kernel⟩
set_option maxHeartbeats 4000000 in
theorem m_X11_value {G : Gp} (l : Launch) (hfl : l.stackTraces = false) (N : Nat) {a0 : Nat} {p1 : Int32} {p2 : Int32} {p3 : Int32} {h0 : Hp} {K : Int32 → Hp → Prop} {KX : String → Hp → Prop} (hw : w_X11_value N a0 p1 p2 p3 h0 K KX) : MX G l yX11_value cX11_value 5 (some .int) rmX11_value [rV (some a0), iV p1, iV p2, iV p3] h0 (QI G K) KX := by
  refine go_xmetT l hfl _ 5 _ _ rfl (by decide +kernel) (Nat.le_of_ble_eq_true rfl) [(0, rV (some a0)), (1, iV p1), (2, iV p2), (3, iV p3)] rfl (fun X hX C hno => ?_)
  subst hX
  unfold w_X11_value at hw
  refine go_aload_n C dX11_value_0 0 rfl ?_
  refine go_iload_n C dX11_value_1 1 rfl ?_
  refine go_xcallV_q C hno [iV p1] vX11_needTable tw4_183 (ci := 11) rfl (m_X11_needTable (xl X) C.2.2.2.2.2.2.2.1 N hw.2) ⟨Nat.le_of_ble_eq_true rfl, Nat.le_of_ble_eq_true rfl, Nat.le_of_ble_eq_true rfl, Nat.le_of_ble_eq_true rfl⟩ ⟨Nat.le_of_ble_eq_true rfl, Nat.le_of_ble_eq_true rfl⟩ hw.1 dX11_value_2 rfl (Nat.le_of_ble_eq_true rfl) rfl (fun o1 h2 hw => ?_)
  refine go_astore C [(4, rV o1), (0, rV (some a0)), (1, iV p1), (2, iV p2), (3, iV p3)] dX11_value_5 (Nat.le_of_ble_eq_true rfl) rfl ?_
  refine go_aload C dX11_value_7 0 rfl ?_
  refine go_iload_n C dX11_value_9 4 rfl ?_
  obtain ⟨a3, e9, hw9⟩ := hw
  subst e9
  have hw := hw9
  clear hw9
  refine go_pV_i C [iV p3] vX10_hasColumn tw4_204 (ci := 10) rfl (m_X10_hasColumn (xl X) C.2.2.2.2.2.2.2.1 N hw.2) ⟨Nat.le_of_ble_eq_true rfl, Nat.le_of_ble_eq_true rfl, Nat.le_of_ble_eq_true rfl, Nat.le_of_ble_eq_true rfl⟩ ⟨rfl, rfl⟩ hw.1 dX11_value_10 rfl (Nat.le_of_ble_eq_true rfl) rfl (fun v4 hw => ?_)
  refine go_if_ne C 26 dX11_value_13 (by decide) hw (fun hw => ?_) (fun hw => ?_)
  · refine go_aload C dX11_value_26 0 rfl ?_
    refine go_iload_n C dX11_value_28 3 rfl ?_
    refine go_pV_i C [iV p2] vX10_hasRow tw5_31 (ci := 10) rfl (m_X10_hasRow (xl X) C.2.2.2.2.2.2.2.1 N hw.2) ⟨Nat.le_of_ble_eq_true rfl, Nat.le_of_ble_eq_true rfl, Nat.le_of_ble_eq_true rfl, Nat.le_of_ble_eq_true rfl⟩ ⟨rfl, rfl⟩ hw.1 dX11_value_29 rfl (Nat.le_of_ble_eq_true rfl) rfl (fun v5 hw => ?_)
    refine go_if_ne C 45 dX11_value_32 (by decide) hw (fun hw => ?_) (fun hw => ?_)
    · refine go_aload C dX11_value_45 0 rfl ?_
      refine go_iload_n C dX11_value_47 3 rfl ?_
      refine go_iload_n C dX11_value_48 4 rfl ?_
      refine go_pV_i C [iV p2, iV p3] vX10_cell tw5_144 (ci := 10) rfl (m_X10_cell (xl X) C.2.2.2.2.2.2.2.1 N hw.2) ⟨Nat.le_of_ble_eq_true rfl, Nat.le_of_ble_eq_true rfl, Nat.le_of_ble_eq_true rfl, Nat.le_of_ble_eq_true rfl⟩ ⟨rfl, rfl⟩ hw.1 dX11_value_49 rfl (Nat.le_of_ble_eq_true rfl) rfl (fun v6 hw => ?_)
      exact go_xiret C dX11_value_52 hw (Nat.le_of_ble_eq_true rfl) (Nat.le_of_ble_eq_true rfl)
    exact go_throwN C hno tw5_41 dX11_value_35 dX11_value_38 dX11_value_39 dX11_value_41 dX11_value_44 ⟨Nat.le_of_ble_eq_true rfl, Nat.le_of_ble_eq_true rfl, Nat.le_of_ble_eq_true rfl, Nat.le_of_ble_eq_true rfl⟩ (Nat.le_of_ble_eq_true rfl) ⟨Nat.le_of_ble_eq_true rfl, Nat.le_of_ble_eq_true rfl⟩ hw
  exact go_throw C hno ex74_78 tw5_93 dX11_value_16 dX11_value_19 dX11_value_20 dX11_value_22 dX11_value_25 ⟨Nat.le_of_ble_eq_true rfl, Nat.le_of_ble_eq_true rfl, Nat.le_of_ble_eq_true rfl, Nat.le_of_ble_eq_true rfl⟩ (Nat.le_of_ble_eq_true rfl) ⟨Nat.le_of_ble_eq_true rfl, Nat.le_of_ble_eq_true rfl⟩ hw
/-- DuelSchema.needIndex(I)LDuelSchema$Index; -/
def w_X11_needIndex (N : Nat) (a0 : Nat) (p1 : Int32) (h0 : Hp) (K : Option Nat → Hp → Prop) (KX : String → Hp → Prop) : Prop :=
  gA h0 a0 11 0 fun a1 =>
  cv h0 a1 9 <| w_X9_indexAt N a1 p1 h0 fun o2 =>
  brn o2 (
    KX "java/lang/IndexOutOfBoundsException" h0) (fun a3 =>
    K (some a3) h0)
abbrev rmX11_needIndex : Room := { frames := 8, cells := 1, slots := 6, locals := 140 }
theorem vX11_needIndex : VI RX11 yX11_needIndex cX11_needIndex 3 (some (.object "DuelSchema$Index")) 1 := ⟨tw5_154, tp36, tw1_1, tw5_155, by decide +kernel⟩
set_option maxHeartbeats 4000000 in
theorem m_X11_needIndex {G : Gp} (l : Launch) (hfl : l.stackTraces = false) (N : Nat) {a0 : Nat} {p1 : Int32} {h0 : Hp} {K : Option Nat → Hp → Prop} {KX : String → Hp → Prop} (hw : w_X11_needIndex N a0 p1 h0 K KX) : MX G l yX11_needIndex cX11_needIndex 3 (some (.object "DuelSchema$Index")) rmX11_needIndex [rV (some a0), iV p1] h0 (QR G K) KX := by
  refine go_xmetT l hfl _ 3 _ _ rfl (by decide +kernel) (Nat.le_of_ble_eq_true rfl) [(0, rV (some a0)), (1, iV p1)] rfl (fun X hX C hno => ?_)
  subst hX
  unfold w_X11_needIndex at hw
  refine go_aload_n C dX11_needIndex_0 0 rfl ?_
  refine go_getA C (cfX11) (k := 0) (Nat.le_of_ble_eq_true rfl) tw1_218 rfl dX11_needIndex_1 hw (fun a1 hw => ?_)
  refine go_iload_n C dX11_needIndex_4 1 rfl ?_
  refine go_pV_q C [iV p1] vX9_indexAt tw5_20 (ci := 9) rfl (m_X9_indexAt (xl X) C.2.2.2.2.2.2.2.1 N hw.2) ⟨Nat.le_of_ble_eq_true rfl, Nat.le_of_ble_eq_true rfl, Nat.le_of_ble_eq_true rfl, Nat.le_of_ble_eq_true rfl⟩ ⟨rfl, rfl⟩ hw.1 dX11_needIndex_5 rfl (Nat.le_of_ble_eq_true rfl) rfl (fun o2 hw => ?_)
  refine go_astore_n C [(2, rV o2), (0, rV (some a0)), (1, iV p1)] dX11_needIndex_8 (Nat.le_of_ble_eq_true rfl) rfl ?_
  refine go_aload_n C dX11_needIndex_9 0 rfl ?_
  refine go_ifnonnull C 24 dX11_needIndex_10 (by decide) hw (fun a3 e9 hw9 => ?_) (fun e9 hw9 => ?_)
  · clear hw
    subst e9
    have hw := hw9
    clear hw9
    refine go_aload_n C dX11_needIndex_24 0 rfl ?_
    exact go_xaret C dX11_needIndex_25 hw (Nat.le_of_ble_eq_true rfl) (Nat.le_of_ble_eq_true rfl)
  clear hw
  subst e9
  have hw := hw9
  clear hw9
  exact go_throwW C hno ex410_414 tw5_156 dX11_needIndex_13 dX11_needIndex_16 dX11_needIndex_17 dX11_needIndex_20 dX11_needIndex_23 ⟨Nat.le_of_ble_eq_true rfl, Nat.le_of_ble_eq_true rfl, Nat.le_of_ble_eq_true rfl, Nat.le_of_ble_eq_true rfl⟩ (Nat.le_of_ble_eq_true rfl) ⟨Nat.le_of_ble_eq_true rfl, Nat.le_of_ble_eq_true rfl⟩ hw
/-- DuelSchema.entries(I)I -/
def w_X11_entries (N : Nat) (a0 : Nat) (p1 : Int32) (h0 : Hp) (K : Int32 → Hp → Prop) (KX : String → Hp → Prop) : Prop :=
  cv h0 a0 11 <| w_X11_needIndex N a0 p1 h0 (fun o1 h2 =>
  nn o1 fun a3 => cv h2 a3 3 <| w_X3_size N a3  h2 fun v4 =>
  K v4 h2) KX
abbrev rmX11_entries : Room := { frames := 9, cells := 1, slots := 6, locals := 162 }
theorem vX11_entries : VI RX11 yX11_entries cX11_entries 2 (some .int) 1 := ⟨tw5_149, tw5_150, tw1_1, tw5_151, by decide +kernel⟩
set_option maxHeartbeats 4000000 in
theorem m_X11_entries {G : Gp} (l : Launch) (hfl : l.stackTraces = false) (N : Nat) {a0 : Nat} {p1 : Int32} {h0 : Hp} {K : Int32 → Hp → Prop} {KX : String → Hp → Prop} (hw : w_X11_entries N a0 p1 h0 K KX) : MX G l yX11_entries cX11_entries 2 (some .int) rmX11_entries [rV (some a0), iV p1] h0 (QI G K) KX := by
  refine go_xmetT l hfl _ 2 _ _ rfl (by decide +kernel) (Nat.le_of_ble_eq_true rfl) [(0, rV (some a0)), (1, iV p1)] rfl (fun X hX C hno => ?_)
  subst hX
  unfold w_X11_entries at hw
  refine go_aload_n C dX11_entries_0 0 rfl ?_
  refine go_iload_n C dX11_entries_1 1 rfl ?_
  refine go_xcallV_q C hno [iV p1] vX11_needIndex tw5_152 (ci := 11) rfl (m_X11_needIndex (xl X) C.2.2.2.2.2.2.2.1 N hw.2) ⟨Nat.le_of_ble_eq_true rfl, Nat.le_of_ble_eq_true rfl, Nat.le_of_ble_eq_true rfl, Nat.le_of_ble_eq_true rfl⟩ ⟨Nat.le_of_ble_eq_true rfl, Nat.le_of_ble_eq_true rfl⟩ hw.1 dX11_entries_2 rfl (Nat.le_of_ble_eq_true rfl) rfl (fun o1 h2 hw => ?_)
  obtain ⟨a3, e9, hw9⟩ := hw
  subst e9
  have hw := hw9
  clear hw9
  refine go_pV_i C [] vX3_size tw5_157 (ci := 3) rfl (m_X3_size (xl X) C.2.2.2.2.2.2.2.1 N hw.2) ⟨Nat.le_of_ble_eq_true rfl, Nat.le_of_ble_eq_true rfl, Nat.le_of_ble_eq_true rfl, Nat.le_of_ble_eq_true rfl⟩ ⟨rfl, rfl⟩ hw.1 dX11_entries_5 rfl (Nat.le_of_ble_eq_true rfl) rfl (fun v4 hw => ?_)
  exact go_xiret C dX11_entries_8 hw (Nat.le_of_ble_eq_true rfl) (Nat.le_of_ble_eq_true rfl)
/-- DuelSchema.entryAt(II)I -/
def w_X11_entryAt (N : Nat) (a0 : Nat) (p1 : Int32) (p2 : Int32) (h0 : Hp) (K : Int32 → Hp → Prop) (KX : String → Hp → Prop) : Prop :=
  cv h0 a0 11 <| w_X11_needIndex N a0 p1 h0 (fun o1 h2 =>
  nn o1 fun a3 => cv h2 a3 3 <| w_X3_rowAt N a3 p2 h2 fun v4 =>
  br (v4 = (-1)) (
    KX "java/util/NoSuchElementException" h2) (
    K v4 h2)) KX
abbrev rmX11_entryAt : Room := { frames := 9, cells := 2, slots := 12, locals := 162 }
theorem vX11_entryAt : VI RX11 yX11_entryAt cX11_entryAt 4 (some .int) 2 := ⟨tw5_162, tw5_163, tw1_1, tw5_164, by decide +kernel⟩
set_option maxHeartbeats 4000000 in
theorem m_X11_entryAt {G : Gp} (l : Launch) (hfl : l.stackTraces = false) (N : Nat) {a0 : Nat} {p1 : Int32} {p2 : Int32} {h0 : Hp} {K : Int32 → Hp → Prop} {KX : String → Hp → Prop} (hw : w_X11_entryAt N a0 p1 p2 h0 K KX) : MX G l yX11_entryAt cX11_entryAt 4 (some .int) rmX11_entryAt [rV (some a0), iV p1, iV p2] h0 (QI G K) KX := by
  refine go_xmetT l hfl _ 4 _ _ rfl (by decide +kernel) (Nat.le_of_ble_eq_true rfl) [(0, rV (some a0)), (1, iV p1), (2, iV p2)] rfl (fun X hX C hno => ?_)
  subst hX
  unfold w_X11_entryAt at hw
  refine go_aload_n C dX11_entryAt_0 0 rfl ?_
  refine go_iload_n C dX11_entryAt_1 1 rfl ?_
  refine go_xcallV_q C hno [iV p1] vX11_needIndex tw5_152 (ci := 11) rfl (m_X11_needIndex (xl X) C.2.2.2.2.2.2.2.1 N hw.2) ⟨Nat.le_of_ble_eq_true rfl, Nat.le_of_ble_eq_true rfl, Nat.le_of_ble_eq_true rfl, Nat.le_of_ble_eq_true rfl⟩ ⟨Nat.le_of_ble_eq_true rfl, Nat.le_of_ble_eq_true rfl⟩ hw.1 dX11_entryAt_2 rfl (Nat.le_of_ble_eq_true rfl) rfl (fun o1 h2 hw => ?_)
  refine go_iload_n C dX11_entryAt_5 2 rfl ?_
  obtain ⟨a3, e9, hw9⟩ := hw
  subst e9
  have hw := hw9
  clear hw9
  refine go_pV_i C [iV p2] vX3_rowAt tw5_165 (ci := 3) rfl (m_X3_rowAt (xl X) C.2.2.2.2.2.2.2.1 N hw.2) ⟨Nat.le_of_ble_eq_true rfl, Nat.le_of_ble_eq_true rfl, Nat.le_of_ble_eq_true rfl, Nat.le_of_ble_eq_true rfl⟩ ⟨rfl, rfl⟩ hw.1 dX11_entryAt_6 rfl (Nat.le_of_ble_eq_true rfl) rfl (fun v4 hw => ?_)
  refine go_istore_n C [(3, iV v4), (0, rV (some a0)), (1, iV p1), (2, iV p2)] dX11_entryAt_9 (Nat.le_of_ble_eq_true rfl) rfl ?_
  refine go_iload_n C dX11_entryAt_10 0 rfl ?_
  refine go_iconst C (-1) dX11_entryAt_11 kc_im1 ?_
  refine go_icmp_ne C 25 dX11_entryAt_12 (by decide) hw (fun hw => ?_) (fun hw => ?_)
  · refine go_iload_n C dX11_entryAt_25 0 rfl ?_
    exact go_xiret C dX11_entryAt_26 hw (Nat.le_of_ble_eq_true rfl) (Nat.le_of_ble_eq_true rfl)
  exact go_throwN C hno tw5_166 dX11_entryAt_15 dX11_entryAt_18 dX11_entryAt_19 dX11_entryAt_21 dX11_entryAt_24 ⟨Nat.le_of_ble_eq_true rfl, Nat.le_of_ble_eq_true rfl, Nat.le_of_ble_eq_true rfl, Nat.le_of_ble_eq_true rfl⟩ (Nat.le_of_ble_eq_true rfl) ⟨Nat.le_of_ble_eq_true rfl, Nat.le_of_ble_eq_true rfl⟩ hw
/-- DuelSchema.counted(IIC)I -/
def w_X11_counted (N : Nat) (a0 : Nat) (p1 : Int32) (p2 : Int32) (p3 : Int32) (h0 : Hp) (K : Int32 → Hp → Prop) (KX : String → Hp → Prop) : Prop :=
  cv h0 a0 11 <| w_X11_needTable N a0 p1 h0 (fun o1 h2 =>
  nn o1 fun a3 => cv h2 a3 10 <| w_X10_takenCount N a3 p2 p3 h2 fun v4 =>
  br (v4 = (-1)) (
    KX "java/lang/IllegalArgumentException" h2) (
    K v4 h2)) KX
abbrev rmX11_counted : Room := { frames := 9, cells := 2, slots := 12, locals := 162 }
theorem vX11_counted : VI RX11 yX11_counted cX11_counted 5 (some .int) 3 := ⟨tw5_171, tw5_172, tw1_1, tw5_173, by decide +kernel⟩
set_option maxHeartbeats 4000000 in
theorem m_X11_counted {G : Gp} (l : Launch) (hfl : l.stackTraces = false) (N : Nat) {a0 : Nat} {p1 : Int32} {p2 : Int32} {p3 : Int32} {h0 : Hp} {K : Int32 → Hp → Prop} {KX : String → Hp → Prop} (hw : w_X11_counted N a0 p1 p2 p3 h0 K KX) : MX G l yX11_counted cX11_counted 5 (some .int) rmX11_counted [rV (some a0), iV p1, iV p2, iV p3] h0 (QI G K) KX := by
  refine go_xmetT l hfl _ 5 _ _ rfl (by decide +kernel) (Nat.le_of_ble_eq_true rfl) [(0, rV (some a0)), (1, iV p1), (2, iV p2), (3, iV p3)] rfl (fun X hX C hno => ?_)
  subst hX
  unfold w_X11_counted at hw
  refine go_aload_n C dX11_counted_0 0 rfl ?_
  refine go_iload_n C dX11_counted_1 1 rfl ?_
  refine go_xcallV_q C hno [iV p1] vX11_needTable tw4_183 (ci := 11) rfl (m_X11_needTable (xl X) C.2.2.2.2.2.2.2.1 N hw.2) ⟨Nat.le_of_ble_eq_true rfl, Nat.le_of_ble_eq_true rfl, Nat.le_of_ble_eq_true rfl, Nat.le_of_ble_eq_true rfl⟩ ⟨Nat.le_of_ble_eq_true rfl, Nat.le_of_ble_eq_true rfl⟩ hw.1 dX11_counted_2 rfl (Nat.le_of_ble_eq_true rfl) rfl (fun o1 h2 hw => ?_)
  refine go_iload_n C dX11_counted_5 2 rfl ?_
  refine go_iload_n C dX11_counted_6 3 rfl ?_
  obtain ⟨a3, e9, hw9⟩ := hw
  subst e9
  have hw := hw9
  clear hw9
  refine go_pV_i C [iV p2, iV p3] vX10_takenCount tw5_174 (ci := 10) rfl (m_X10_takenCount (xl X) C.2.2.2.2.2.2.2.1 N hw.2) ⟨Nat.le_of_ble_eq_true rfl, Nat.le_of_ble_eq_true rfl, Nat.le_of_ble_eq_true rfl, Nat.le_of_ble_eq_true rfl⟩ ⟨rfl, rfl⟩ hw.1 dX11_counted_7 rfl (Nat.le_of_ble_eq_true rfl) rfl (fun v4 hw => ?_)
  refine go_istore C [(4, iV v4), (0, rV (some a0)), (1, iV p1), (2, iV p2), (3, iV p3)] dX11_counted_10 (Nat.le_of_ble_eq_true rfl) rfl ?_
  refine go_iload C dX11_counted_12 0 rfl ?_
  refine go_iconst C (-1) dX11_counted_14 kc_im1 ?_
  refine go_icmp_ne C 28 dX11_counted_15 (by decide) hw (fun hw => ?_) (fun hw => ?_)
  · refine go_iload C dX11_counted_28 0 rfl ?_
    exact go_xiret C dX11_counted_30 hw (Nat.le_of_ble_eq_true rfl) (Nat.le_of_ble_eq_true rfl)
  exact go_throw C hno ex74_78 tw5_178 dX11_counted_18 dX11_counted_21 dX11_counted_22 dX11_counted_24 dX11_counted_27 ⟨Nat.le_of_ble_eq_true rfl, Nat.le_of_ble_eq_true rfl, Nat.le_of_ble_eq_true rfl, Nat.le_of_ble_eq_true rfl⟩ (Nat.le_of_ble_eq_true rfl) ⟨Nat.le_of_ble_eq_true rfl, Nat.le_of_ble_eq_true rfl⟩ hw
/-- DuelSchema.cached()I -/
def w_X11_cached (N : Nat) (a0 : Nat) (h0 : Hp) (K : Int32 → Prop) : Prop :=
  gA h0 a0 11 3 fun a1 =>
  cv h0 a1 0 <| w_X0_size N a1  h0 fun v2 =>
  K v2
abbrev rmX11_cached : Room := { frames := 3, cells := 0, slots := 0, locals := 80 }
theorem vX11_cached : VI RX11 yX11_cached cX11_cached 1 (some .int) 0 := ⟨tw2_16, tw2_17, tw1_1, tw2_18, by decide +kernel⟩
set_option maxHeartbeats 4000000 in
theorem m_X11_cached {G : Gp} (l : Launch) (hfl : l.stackTraces = false) (N : Nat) {a0 : Nat} {h0 : Hp} {K : Int32 → Prop} (hw : w_X11_cached N a0 h0 K) : MT G l yX11_cached cX11_cached 1 (some .int) rmX11_cached [rV (some a0)] h0 (QI G (fun r h1 => h1 = h0 ∧ K r)) := by
  refine go_metT l hfl _ 1 _ _ rfl (by decide +kernel) (Nat.le_of_ble_eq_true rfl) [(0, rV (some a0))] rfl (fun X hX C hn => ?_)
  subst hX
  unfold w_X11_cached at hw
  refine go_aload_n C dX11_cached_0 0 rfl ?_
  refine go_getA C (cfX11) (k := 3) (Nat.le_of_ble_eq_true rfl) tw1_221 rfl dX11_cached_1 hw (fun a1 hw => ?_)
  refine go_pV_i C [] vX0_size tw2_19 (ci := 0) rfl (m_X0_size (xl X) C.2.2.2.2.2.2.2.1 N hw.2) ⟨Nat.le_of_ble_eq_true rfl, Nat.le_of_ble_eq_true rfl, Nat.le_of_ble_eq_true rfl, Nat.le_of_ble_eq_true rfl⟩ ⟨rfl, rfl⟩ hw.1 dX11_cached_4 rfl (Nat.le_of_ble_eq_true rfl) rfl (fun v2 hw => ?_)
  exact go_iret C dX11_cached_7 ⟨rfl, hw⟩ (Nat.le_of_ble_eq_true rfl) (Nat.le_of_ble_eq_true rfl)
/-- DuelSchema.cachedAt(I)I -/
def w_X11_cachedAt (N : Nat) (a0 : Nat) (p1 : Int32) (h0 : Hp) (K : Int32 → Hp → Prop) (KX : String → Hp → Prop) : Prop :=
  gA h0 a0 11 3 fun a1 =>
  cv h0 a1 0 <| w_X0_keyAt N a1 p1 h0 fun v2 =>
  br (v2 = (-1)) (
    KX "java/util/NoSuchElementException" h0) (
    K v2 h0)
abbrev rmX11_cachedAt : Room := { frames := 8, cells := 1, slots := 6, locals := 140 }
theorem vX11_cachedAt : VI RX11 yX11_cachedAt cX11_cachedAt 3 (some .int) 1 := ⟨tw5_183, tw5_184, tw1_1, tw5_185, by decide +kernel⟩
set_option maxHeartbeats 4000000 in
theorem m_X11_cachedAt {G : Gp} (l : Launch) (hfl : l.stackTraces = false) (N : Nat) {a0 : Nat} {p1 : Int32} {h0 : Hp} {K : Int32 → Hp → Prop} {KX : String → Hp → Prop} (hw : w_X11_cachedAt N a0 p1 h0 K KX) : MX G l yX11_cachedAt cX11_cachedAt 3 (some .int) rmX11_cachedAt [rV (some a0), iV p1] h0 (QI G K) KX := by
  refine go_xmetT l hfl _ 3 _ _ rfl (by decide +kernel) (Nat.le_of_ble_eq_true rfl) [(0, rV (some a0)), (1, iV p1)] rfl (fun X hX C hno => ?_)
  subst hX
  unfold w_X11_cachedAt at hw
  refine go_aload_n C dX11_cachedAt_0 0 rfl ?_
  refine go_getA C (cfX11) (k := 3) (Nat.le_of_ble_eq_true rfl) tw1_221 rfl dX11_cachedAt_1 hw (fun a1 hw => ?_)
  refine go_iload_n C dX11_cachedAt_4 1 rfl ?_
  refine go_pV_i C [iV p1] vX0_keyAt tw5_186 (ci := 0) rfl (m_X0_keyAt (xl X) C.2.2.2.2.2.2.2.1 N hw.2) ⟨Nat.le_of_ble_eq_true rfl, Nat.le_of_ble_eq_true rfl, Nat.le_of_ble_eq_true rfl, Nat.le_of_ble_eq_true rfl⟩ ⟨rfl, rfl⟩ hw.1 dX11_cachedAt_5 rfl (Nat.le_of_ble_eq_true rfl) rfl (fun v2 hw => ?_)
  refine go_istore_n C [(2, iV v2), (0, rV (some a0)), (1, iV p1)] dX11_cachedAt_8 (Nat.le_of_ble_eq_true rfl) rfl ?_
  refine go_iload_n C dX11_cachedAt_9 0 rfl ?_
  refine go_iconst C (-1) dX11_cachedAt_10 kc_im1 ?_
  refine go_icmp_ne C 24 dX11_cachedAt_11 (by decide) hw (fun hw => ?_) (fun hw => ?_)
  · refine go_iload_n C dX11_cachedAt_24 0 rfl ?_
    exact go_xiret C dX11_cachedAt_25 hw (Nat.le_of_ble_eq_true rfl) (Nat.le_of_ble_eq_true rfl)
  exact go_throwN C hno tw5_166 dX11_cachedAt_14 dX11_cachedAt_17 dX11_cachedAt_18 dX11_cachedAt_20 dX11_cachedAt_23 ⟨Nat.le_of_ble_eq_true rfl, Nat.le_of_ble_eq_true rfl, Nat.le_of_ble_eq_true rfl, Nat.le_of_ble_eq_true rfl⟩ (Nat.le_of_ble_eq_true rfl) ⟨Nat.le_of_ble_eq_true rfl, Nat.le_of_ble_eq_true rfl⟩ hw
/-- DuelSchema.flush()I -/
def w_X11_flush (N : Nat) (a0 : Nat) (h0 : Hp) (K : Int32 → Hp → Prop) : Prop :=
  gA h0 a0 11 3 fun a1 =>
  cv h0 a1 0 <| w_X0_size N a1  h0 fun v2 =>
  gA h0 a0 11 3 fun a3 =>
  cv h0 a3 0 <| w_X0_clear N a3  h0 fun h4 =>
  gA h4 a0 11 11 fun a5 =>
  cv h4 a5 2 <| w_X2_closeAppeals N a5  h4 fun h6 =>
  K v2 h6
abbrev rmX11_flush : Room := { frames := 3, cells := 0, slots := 0, locals := 80 }
theorem vX11_flush : VI RX11 yX11_flush cX11_flush 2 (some .int) 0 := ⟨tw2_24, tw2_25, tw1_1, tw2_26, by decide +kernel⟩
set_option maxHeartbeats 4000000 in
theorem m_X11_flush {G : Gp} (l : Launch) (hfl : l.stackTraces = false) (N : Nat) {a0 : Nat} {h0 : Hp} {K : Int32 → Hp → Prop} (hw : w_X11_flush N a0 h0 K) : MT G l yX11_flush cX11_flush 2 (some .int) rmX11_flush [rV (some a0)] h0 (QI G K) := by
  refine go_metT l hfl _ 2 _ _ rfl (by decide +kernel) (Nat.le_of_ble_eq_true rfl) [(0, rV (some a0))] rfl (fun X hX C hn => ?_)
  subst hX
  unfold w_X11_flush at hw
  refine go_aload_n C dX11_flush_0 0 rfl ?_
  refine go_getA C (cfX11) (k := 3) (Nat.le_of_ble_eq_true rfl) tw1_221 rfl dX11_flush_1 hw (fun a1 hw => ?_)
  refine go_pV_i C [] vX0_size tw2_19 (ci := 0) rfl (m_X0_size (xl X) C.2.2.2.2.2.2.2.1 N hw.2) ⟨Nat.le_of_ble_eq_true rfl, Nat.le_of_ble_eq_true rfl, Nat.le_of_ble_eq_true rfl, Nat.le_of_ble_eq_true rfl⟩ ⟨rfl, rfl⟩ hw.1 dX11_flush_4 rfl (Nat.le_of_ble_eq_true rfl) rfl (fun v2 hw => ?_)
  refine go_istore_n C [(1, iV v2), (0, rV (some a0))] dX11_flush_7 (Nat.le_of_ble_eq_true rfl) rfl ?_
  refine go_aload_n C dX11_flush_8 1 rfl ?_
  refine go_getA C (cfX11) (k := 3) (Nat.le_of_ble_eq_true rfl) tw1_221 rfl dX11_flush_9 hw (fun a3 hw => ?_)
  refine go_c0V_v C [] vX0_clear tw2_27 (ci := 0) rfl (m_X0_clear (xl X) C.2.2.2.2.2.2.2.1 N hw.2) ⟨Nat.le_of_ble_eq_true rfl, Nat.le_of_ble_eq_true rfl, Nat.le_of_ble_eq_true rfl, Nat.le_of_ble_eq_true rfl⟩ ⟨rfl, rfl⟩ hw.1 dX11_flush_12 rfl (Nat.le_of_ble_eq_true rfl) rfl (fun h4 hw => ?_)
  refine go_aload_n C dX11_flush_15 1 rfl ?_
  refine go_getA C (cfX11) (k := 11) (Nat.le_of_ble_eq_true rfl) tw1_229 rfl dX11_flush_16 hw (fun a5 hw => ?_)
  refine go_c0V_v C [] vX2_closeAppeals tw2_31 (ci := 2) rfl (m_X2_closeAppeals (xl X) C.2.2.2.2.2.2.2.1 N hw.2) ⟨Nat.le_of_ble_eq_true rfl, Nat.le_of_ble_eq_true rfl, Nat.le_of_ble_eq_true rfl, Nat.le_of_ble_eq_true rfl⟩ ⟨rfl, rfl⟩ hw.1 dX11_flush_19 rfl (Nat.le_of_ble_eq_true rfl) rfl (fun h6 hw => ?_)
  refine go_iload_n C dX11_flush_22 0 rfl ?_
  exact go_iret C dX11_flush_23 hw (Nat.le_of_ble_eq_true rfl) (Nat.le_of_ble_eq_true rfl)
/-- DuelSchema.query()I -/
def w_X11_query (N : Nat) (a0 : Nat) (h0 : Hp) (K : Int32 → Hp → Prop) (KX : String → Hp → Prop) : Prop :=
  gI h0 a0 11 2 fun v1 =>
  br (v1 < 0) (
    KX "java/lang/IllegalStateException" h0) (
    gI h0 a0 11 2 fun v2 =>
    gA h0 a0 11 1 fun a3 =>
    aN h0 a3 fun v4 =>
    br (v2 < v4) (
      gI h0 a0 11 2 fun v5 =>
      gA h0 a0 11 1 fun a6 =>
      nw h0 7 [rV none, iV 0, rV none, iV 0, rV none, iV 0] fun a7 h8 =>
      w_X7_init N a7  h8 fun h9 =>
      sR h9 a6 7 v5 a7 7 fun h10 =>
      pF h10 a0 11 2 (iV (v5 + 1)) fun h11 =>
      gA h11 a0 11 11 fun a12 =>
      cv h11 a12 2 <| w_X2_closeAppeals N a12  h11 fun h13 =>
      K v5 h13) (
      KX "java/lang/IllegalStateException" h0))
abbrev rmX11_query : Room := { frames := 8, cells := 4, slots := 16, locals := 140 }
theorem vX11_query : VI RX11 yX11_query cX11_query 2 (some .int) 0 := ⟨tw5_191, tw5_192, tw1_1, tw5_193, by decide +kernel⟩
set_option maxHeartbeats 4000000 in
theorem m_X11_query {G : Gp} (l : Launch) (hfl : l.stackTraces = false) (N : Nat) {a0 : Nat} {h0 : Hp} {K : Int32 → Hp → Prop} {KX : String → Hp → Prop} (hw : w_X11_query N a0 h0 K KX) : MX G l yX11_query cX11_query 2 (some .int) rmX11_query [rV (some a0)] h0 (QI G K) KX := by
  refine go_xmetT l hfl _ 2 _ _ rfl (by decide +kernel) (Nat.le_of_ble_eq_true rfl) [(0, rV (some a0))] rfl (fun X hX C hno => ?_)
  subst hX
  unfold w_X11_query at hw
  refine go_aload_n C dX11_query_0 0 rfl ?_
  refine go_getI C (cfX11) (k := 2) (Nat.le_of_ble_eq_true rfl) tw1_220 rfl dX11_query_1 hw (fun v1 hw => ?_)
  refine go_if_lt C 19 dX11_query_4 (by decide) hw (fun hw => ?_) (fun hw => ?_)
  · exact go_throw C hno ex85_89 tw5_194 dX11_query_19 dX11_query_22 dX11_query_23 dX11_query_25 dX11_query_28 ⟨Nat.le_of_ble_eq_true rfl, Nat.le_of_ble_eq_true rfl, Nat.le_of_ble_eq_true rfl, Nat.le_of_ble_eq_true rfl⟩ (Nat.le_of_ble_eq_true rfl) ⟨Nat.le_of_ble_eq_true rfl, Nat.le_of_ble_eq_true rfl⟩ hw
  refine go_aload_n C dX11_query_7 0 rfl ?_
  refine go_getI C (cfX11) (k := 2) (Nat.le_of_ble_eq_true rfl) tw1_220 rfl dX11_query_8 hw (fun v2 hw => ?_)
  refine go_aload_n C dX11_query_11 0 rfl ?_
  refine go_getA C (cfX11) (k := 1) (Nat.le_of_ble_eq_true rfl) tw1_219 rfl dX11_query_12 hw (fun a3 hw => ?_)
  refine go_alen C dX11_query_15 hw (fun v4 hw => ?_)
  refine go_icmp_lt C 29 dX11_query_16 (by decide) hw (fun hw => ?_) (fun hw => ?_)
  · refine go_aload_n C dX11_query_29 0 rfl ?_
    refine go_getI C (cfX11) (k := 2) (Nat.le_of_ble_eq_true rfl) tw1_220 rfl dX11_query_30 hw (fun v5 hw => ?_)
    refine go_istore_n C [(1, iV v5), (0, rV (some a0))] dX11_query_33 (Nat.le_of_ble_eq_true rfl) rfl ?_
    refine go_aload_n C dX11_query_34 1 rfl ?_
    refine go_getA C (cfX11) (k := 1) (Nat.le_of_ble_eq_true rfl) tw1_219 rfl dX11_query_35 hw (fun a6 hw => ?_)
    refine go_iload_n C dX11_query_38 0 rfl ?_
    refine go_new C cfX7 tw1_58 tw5_195 tw1_21 [rV none, iV 0, rV none, iV 0, rV none, iV 0] dfX7 ⟨Nat.le_of_ble_eq_true rfl, Nat.le_of_ble_eq_true rfl⟩ dX11_query_39 hw (fun a7 h8 hw => ?_)
    refine go_dup C _ dX11_query_42 rfl ?_
    refine go_callIN_v C [] vX7_init tw5_196 (m_X7_init (xl X) C.2.2.2.2.2.2.2.1 N hw) ⟨Nat.le_of_ble_eq_true rfl, Nat.le_of_ble_eq_true rfl, Nat.le_of_ble_eq_true rfl, Nat.le_of_ble_eq_true rfl⟩ dX11_query_43 rfl (Nat.le_of_ble_eq_true rfl) rfl (fun h9 hw => ?_)
    refine go_aastore7 C dX11_query_46 hw (fun h10 hw => ?_)
    refine go_aload_n C dX11_query_47 1 rfl ?_
    refine go_iload_n C dX11_query_48 0 rfl ?_
    refine go_iconst C 1 dX11_query_49 kc_i1 ?_
    refine go_iadd C dX11_query_50 ?_
    refine go_putI C (cfX11) (k := 2) (Nat.le_of_ble_eq_true rfl) tw1_220 rfl (Or.inl rfl) rfl dX11_query_51 hw (fun h11 hw => ?_)
    refine go_aload_n C dX11_query_54 1 rfl ?_
    refine go_getA C (cfX11) (k := 11) (Nat.le_of_ble_eq_true rfl) tw1_229 rfl dX11_query_55 hw (fun a12 hw => ?_)
    refine go_c0V_v C [] vX2_closeAppeals tw2_31 (ci := 2) rfl (m_X2_closeAppeals (xl X) C.2.2.2.2.2.2.2.1 N hw.2) ⟨Nat.le_of_ble_eq_true rfl, Nat.le_of_ble_eq_true rfl, Nat.le_of_ble_eq_true rfl, Nat.le_of_ble_eq_true rfl⟩ ⟨rfl, rfl⟩ hw.1 dX11_query_58 rfl (Nat.le_of_ble_eq_true rfl) rfl (fun h13 hw => ?_)
    refine go_iload_n C dX11_query_61 0 rfl ?_
    exact go_xiret C dX11_query_62 hw (Nat.le_of_ble_eq_true rfl) (Nat.le_of_ble_eq_true rfl)
  exact go_throw C hno ex85_89 tw5_194 dX11_query_19 dX11_query_22 dX11_query_23 dX11_query_25 dX11_query_28 ⟨Nat.le_of_ble_eq_true rfl, Nat.le_of_ble_eq_true rfl, Nat.le_of_ble_eq_true rfl, Nat.le_of_ble_eq_true rfl⟩ (Nat.le_of_ble_eq_true rfl) ⟨Nat.le_of_ble_eq_true rfl, Nat.le_of_ble_eq_true rfl⟩ hw
/-- DuelSchema.needQuery(I)LDuelSchema$Query; -/
def w_X11_needQuery (N : Nat) (a0 : Nat) (p1 : Int32) (h0 : Hp) (K : Option Nat → Hp → Prop) (KX : String → Hp → Prop) : Prop :=
  jn (fun (o1 : Option Nat) => 
    brn o1 (
      KX "java/lang/IndexOutOfBoundsException" h0) (fun a2 =>
      K (some a2) h0)) (fun j23 =>
  jn (
    j23 none) (fun j22 =>
  br (p1 < 0) (
    j22 ) (
    gA h0 a0 11 1 fun a3 =>
    aN h0 a3 fun v4 =>
    br (v4 ≤ p1) (
      j22 ) (
      gA h0 a0 11 1 fun a5 =>
      aR h0 a5 7 p1 fun o6 =>
      j23 o6))))
abbrev rmX11_needQuery : Room := { frames := 8, cells := 1, slots := 6, locals := 140 }
theorem vX11_needQuery : VI RX11 yX11_needQuery cX11_needQuery 3 (some (.object "DuelSchema$Query")) 1 := ⟨tw5_233, tp37, tw1_1, tw5_234, by decide +kernel⟩
set_option maxHeartbeats 4000000 in
theorem m_X11_needQuery {G : Gp} (l : Launch) (hfl : l.stackTraces = false) (N : Nat) {a0 : Nat} {p1 : Int32} {h0 : Hp} {K : Option Nat → Hp → Prop} {KX : String → Hp → Prop} (hw : w_X11_needQuery N a0 p1 h0 K KX) : MX G l yX11_needQuery cX11_needQuery 3 (some (.object "DuelSchema$Query")) rmX11_needQuery [rV (some a0), iV p1] h0 (QR G K) KX := by
  refine go_xmetT l hfl _ 3 _ _ rfl (by decide +kernel) (Nat.le_of_ble_eq_true rfl) [(0, rV (some a0)), (1, iV p1)] rfl (fun X hX C hno => ?_)
  subst hX
  unfold w_X11_needQuery at hw
  refine go_iload_n C dX11_needQuery_0 1 rfl ?_
  refine jn_elim (P := fun j => ∀ (o1 : Option Nat), j o1 → Go G X rmX11_needQuery 3 0 0 (QX G X (QR G K) KX rmX11_needQuery) h0 23 [] [rV o1]) hw (fun o1 hw => ?_) (fun j23 hj23 hw => ?_)
  · refine go_astore_n C [(2, rV o1)] dX11_needQuery_23 (Nat.le_of_ble_eq_true rfl) rfl ?_
    refine go_aload_n C dX11_needQuery_24 0 rfl ?_
    refine go_ifnonnull C 39 dX11_needQuery_25 (by decide) hw (fun a2 e9 hw9 => ?_) (fun e9 hw9 => ?_)
    · clear hw
      subst e9
      have hw := hw9
      clear hw9
      refine go_aload_n C dX11_needQuery_39 0 rfl ?_
      exact go_xaret C dX11_needQuery_40 hw (Nat.le_of_ble_eq_true rfl) (Nat.le_of_ble_eq_true rfl)
    clear hw
    subst e9
    have hw := hw9
    clear hw9
    exact go_throwW C hno ex410_414 tw5_235 dX11_needQuery_28 dX11_needQuery_31 dX11_needQuery_32 dX11_needQuery_35 dX11_needQuery_38 ⟨Nat.le_of_ble_eq_true rfl, Nat.le_of_ble_eq_true rfl, Nat.le_of_ble_eq_true rfl, Nat.le_of_ble_eq_true rfl⟩ (Nat.le_of_ble_eq_true rfl) ⟨Nat.le_of_ble_eq_true rfl, Nat.le_of_ble_eq_true rfl⟩ hw
  refine jn_elim (P := fun j => j  → Go G X rmX11_needQuery 3 0 0 (QX G X (QR G K) KX rmX11_needQuery) h0 22 [] []) hw (fun  hw => ?_) (fun j22 hj22 hw => ?_)
  · refine go_null C dX11_needQuery_22 ?_
    exact hj23 none hw
  refine go_if_lt C 22 dX11_needQuery_1 (by decide) hw (fun hw => ?_) (fun hw => ?_)
  · refine go_sub [] rfl ?_
    exact hj22  hw
  refine go_iload_n C dX11_needQuery_4 1 rfl ?_
  refine go_aload_n C dX11_needQuery_5 0 rfl ?_
  refine go_getA C (cfX11) (k := 1) (Nat.le_of_ble_eq_true rfl) tw1_219 rfl dX11_needQuery_6 hw (fun a3 hw => ?_)
  refine go_alen C dX11_needQuery_9 hw (fun v4 hw => ?_)
  refine go_icmp_ge C 22 dX11_needQuery_10 (by decide) hw (fun hw => ?_) (fun hw => ?_)
  · refine go_sub [] rfl ?_
    exact hj22  hw
  refine go_aload_n C dX11_needQuery_13 0 rfl ?_
  refine go_getA C (cfX11) (k := 1) (Nat.le_of_ble_eq_true rfl) tw1_219 rfl dX11_needQuery_14 hw (fun a5 hw => ?_)
  refine go_iload_n C dX11_needQuery_17 1 rfl ?_
  refine go_aaload7 C dX11_needQuery_18 hw (fun o6 hw => ?_)
  refine go_goto C 23 dX11_needQuery_19 (by decide) ?_
  refine go_sub [] rfl ?_
  exact hj23 o6 hw
/-- DuelSchema.from(II)I -/
def w_X11_from (N : Nat) (a0 : Nat) (p1 : Int32) (p2 : Int32) (h0 : Hp) (K : Int32 → Hp → Prop) (KX : String → Hp → Prop) : Prop :=
  cv h0 a0 11 <| w_X11_needQuery N a0 p1 h0 (fun o1 h2 =>
  cv h2 a0 11 <| w_X11_needTable N a0 p2 h2 (fun o3 h4 =>
  nn o1 fun a5 => cv h4 a5 7 <| w_X7_addPosition N a5 o3 h4 fun v6 h7 =>
  br (v6 = 0) (
    KX "java/lang/IllegalStateException" h7) (
    gA h7 a0 11 11 fun a8 =>
    cv h7 a8 2 <| w_X2_closeAppeals N a8  h7 fun h9 =>
    cv h9 a5 7 <| w_X7_size N a5  h9 fun v10 =>
    K v10 h9)) KX) KX
abbrev rmX11_from : Room := { frames := 9, cells := 3, slots := 18, locals := 162 }
theorem vX11_from : VI RX11 yX11_from cX11_from 5 (some .int) 2 := ⟨tw5_228, tw5_229, tw1_1, tw5_230, by decide +kernel⟩
set_option maxHeartbeats 4000000 in
theorem m_X11_from {G : Gp} (l : Launch) (hfl : l.stackTraces = false) (N : Nat) {a0 : Nat} {p1 : Int32} {p2 : Int32} {h0 : Hp} {K : Int32 → Hp → Prop} {KX : String → Hp → Prop} (hw : w_X11_from N a0 p1 p2 h0 K KX) : MX G l yX11_from cX11_from 5 (some .int) rmX11_from [rV (some a0), iV p1, iV p2] h0 (QI G K) KX := by
  refine go_xmetT l hfl _ 5 _ _ rfl (by decide +kernel) (Nat.le_of_ble_eq_true rfl) [(0, rV (some a0)), (1, iV p1), (2, iV p2)] rfl (fun X hX C hno => ?_)
  subst hX
  unfold w_X11_from at hw
  refine go_aload_n C dX11_from_0 0 rfl ?_
  refine go_iload_n C dX11_from_1 1 rfl ?_
  refine go_xcallV_q C hno [iV p1] vX11_needQuery tw5_231 (ci := 11) rfl (m_X11_needQuery (xl X) C.2.2.2.2.2.2.2.1 N hw.2) ⟨Nat.le_of_ble_eq_true rfl, Nat.le_of_ble_eq_true rfl, Nat.le_of_ble_eq_true rfl, Nat.le_of_ble_eq_true rfl⟩ ⟨Nat.le_of_ble_eq_true rfl, Nat.le_of_ble_eq_true rfl⟩ hw.1 dX11_from_2 rfl (Nat.le_of_ble_eq_true rfl) rfl (fun o1 h2 hw => ?_)
  refine go_astore_n C [(3, rV o1), (0, rV (some a0)), (1, iV p1), (2, iV p2)] dX11_from_5 (Nat.le_of_ble_eq_true rfl) rfl ?_
  refine go_aload_n C dX11_from_6 1 rfl ?_
  refine go_iload_n C dX11_from_7 3 rfl ?_
  refine go_xcallV_q C hno [iV p2] vX11_needTable tw4_183 (ci := 11) rfl (m_X11_needTable (xl X) C.2.2.2.2.2.2.2.1 N hw.2) ⟨Nat.le_of_ble_eq_true rfl, Nat.le_of_ble_eq_true rfl, Nat.le_of_ble_eq_true rfl, Nat.le_of_ble_eq_true rfl⟩ ⟨Nat.le_of_ble_eq_true rfl, Nat.le_of_ble_eq_true rfl⟩ hw.1 dX11_from_8 rfl (Nat.le_of_ble_eq_true rfl) rfl (fun o3 h4 hw => ?_)
  refine go_astore C [(4, rV o3), (3, rV o1), (0, rV (some a0)), (1, iV p1), (2, iV p2)] dX11_from_11 (Nat.le_of_ble_eq_true rfl) rfl ?_
  refine go_aload_n C dX11_from_13 1 rfl ?_
  refine go_aload C dX11_from_14 0 rfl ?_
  obtain ⟨a5, e9, hw9⟩ := hw
  subst e9
  have hw := hw9
  clear hw9
  refine go_c0V_i C [rV o3] vX7_addPosition tw5_236 (ci := 7) rfl (m_X7_addPosition (xl X) C.2.2.2.2.2.2.2.1 N hw.2) ⟨Nat.le_of_ble_eq_true rfl, Nat.le_of_ble_eq_true rfl, Nat.le_of_ble_eq_true rfl, Nat.le_of_ble_eq_true rfl⟩ ⟨rfl, rfl⟩ hw.1 dX11_from_16 rfl (Nat.le_of_ble_eq_true rfl) rfl (fun v6 h7 hw => ?_)
  refine go_if_ne C 32 dX11_from_19 (by decide) hw (fun hw => ?_) (fun hw => ?_)
  · refine go_aload_n C dX11_from_32 2 rfl ?_
    refine go_getA C (cfX11) (k := 11) (Nat.le_of_ble_eq_true rfl) tw1_229 rfl dX11_from_33 hw (fun a8 hw => ?_)
    refine go_c0V_v C [] vX2_closeAppeals tw2_31 (ci := 2) rfl (m_X2_closeAppeals (xl X) C.2.2.2.2.2.2.2.1 N hw.2) ⟨Nat.le_of_ble_eq_true rfl, Nat.le_of_ble_eq_true rfl, Nat.le_of_ble_eq_true rfl, Nat.le_of_ble_eq_true rfl⟩ ⟨rfl, rfl⟩ hw.1 dX11_from_36 rfl (Nat.le_of_ble_eq_true rfl) rfl (fun h9 hw => ?_)
    refine go_aload_n C dX11_from_39 1 rfl ?_
    refine go_pV_i C [] vX7_size tw2_107 (ci := 7) rfl (m_X7_size (xl X) C.2.2.2.2.2.2.2.1 N hw.2) ⟨Nat.le_of_ble_eq_true rfl, Nat.le_of_ble_eq_true rfl, Nat.le_of_ble_eq_true rfl, Nat.le_of_ble_eq_true rfl⟩ ⟨rfl, rfl⟩ hw.1 dX11_from_40 rfl (Nat.le_of_ble_eq_true rfl) rfl (fun v10 hw => ?_)
    exact go_xiret C dX11_from_43 hw (Nat.le_of_ble_eq_true rfl) (Nat.le_of_ble_eq_true rfl)
  exact go_throw C hno ex85_89 tw6_0 dX11_from_22 dX11_from_25 dX11_from_26 dX11_from_28 dX11_from_31 ⟨Nat.le_of_ble_eq_true rfl, Nat.le_of_ble_eq_true rfl, Nat.le_of_ble_eq_true rfl, Nat.le_of_ble_eq_true rfl⟩ (Nat.le_of_ble_eq_true rfl) ⟨Nat.le_of_ble_eq_true rfl, Nat.le_of_ble_eq_true rfl⟩ hw
/-- DuelSchema.where(IIICI)I -/
def w_X11_where (N : Nat) (a0 : Nat) (p1 : Int32) (p2 : Int32) (p3 : Int32) (p4 : Int32) (p5 : Int32) (h0 : Hp) (K : Int32 → Hp → Prop) (KX : String → Hp → Prop) : Prop :=
  cv h0 a0 11 <| w_X11_needQuery N a0 p1 h0 (fun o1 h2 =>
  jn (fun (v3 : Int32) => 
    nn o1 fun a4 => cv h2 a4 7 <| w_X7_hasColumn N a4 p2 p3 h2 fun v5 =>
    br (v5 = 0) (
      KX "java/lang/IllegalArgumentException" h2) (
      br (v3 = 0) (
        KX "java/lang/IllegalArgumentException" h2) (
        w_X11_isValue N p5 h2 fun v6 =>
        br (v6 = 0) (
          KX "java/lang/IllegalArgumentException" h2) (
          cv h2 a4 7 <| w_X7_conditionCount N a4  h2 fun v7 =>
          br (v7 < 4) (
            nw h2 1 [iV 0, iV 0, iV 0, iV 0] fun a8 h9 =>
            w_X1_init N a8 p2 p3 p4 p5 h9 fun h10 =>
            cv h10 a4 7 <| w_X7_addCondition N a4 (some a8) h10 fun h11 =>
            gA h11 a0 11 11 fun a12 =>
            cv h11 a12 2 <| w_X2_closeAppeals N a12  h11 fun h13 =>
            cv h13 a4 7 <| w_X7_conditionCount N a4  h13 fun v14 =>
            K v14 h13) (
            KX "java/lang/IllegalStateException" h2))))) (fun j33 =>
  jn (
    j33 1) (fun j28 =>
  br (p4 = 61) (
    j28 ) (
    br (p4 = 60) (
      j28 ) (
      br (p4 = 62) (
        j28 ) (
        j33 0)))))) KX
abbrev rmX11_where : Room := { frames := 9, cells := 2, slots := 12, locals := 162 }
theorem vX11_where : VI RX11 yX11_where cX11_where 8 (some .int) 5 := ⟨tw6_5, tw6_6, tw1_1, tw6_7, by decide +kernel⟩
set_option maxHeartbeats 4000000 in
theorem m_X11_where {G : Gp} (l : Launch) (hfl : l.stackTraces = false) (N : Nat) {a0 : Nat} {p1 : Int32} {p2 : Int32} {p3 : Int32} {p4 : Int32} {p5 : Int32} {h0 : Hp} {K : Int32 → Hp → Prop} {KX : String → Hp → Prop} (hw : w_X11_where N a0 p1 p2 p3 p4 p5 h0 K KX) : MX G l yX11_where cX11_where 8 (some .int) rmX11_where [rV (some a0), iV p1, iV p2, iV p3, iV p4, iV p5] h0 (QI G K) KX := by
  refine go_xmetT l hfl _ 8 _ _ rfl (by decide +kernel) (Nat.le_of_ble_eq_true rfl) [(0, rV (some a0)), (1, iV p1), (2, iV p2), (3, iV p3), (4, iV p4), (5, iV p5)] rfl (fun X hX C hno => ?_)
  subst hX
  unfold w_X11_where at hw
  refine go_aload_n C dX11_where_0 0 rfl ?_
  refine go_iload_n C dX11_where_1 1 rfl ?_
  refine go_xcallV_q C hno [iV p1] vX11_needQuery tw5_231 (ci := 11) rfl (m_X11_needQuery (xl X) C.2.2.2.2.2.2.2.1 N hw.2) ⟨Nat.le_of_ble_eq_true rfl, Nat.le_of_ble_eq_true rfl, Nat.le_of_ble_eq_true rfl, Nat.le_of_ble_eq_true rfl⟩ ⟨Nat.le_of_ble_eq_true rfl, Nat.le_of_ble_eq_true rfl⟩ hw.1 dX11_where_2 rfl (Nat.le_of_ble_eq_true rfl) rfl (fun o1 h2 hw => ?_)
  refine go_astore C [(6, rV o1), (0, rV (some a0)), (1, iV p1), (2, iV p2), (3, iV p3), (4, iV p4), (5, iV p5)] dX11_where_5 (Nat.le_of_ble_eq_true rfl) rfl ?_
  refine go_iload C dX11_where_7 5 rfl ?_
  refine go_bipush C 61 dX11_where_9 kc_b61 ?_
  refine jn_elim (P := fun j => ∀ (v3 : Int32), j v3 → Go G X rmX11_where 8 1 6 (QX G X (QI G K) KX rmX11_where) h2 33 [(0, rV (some a0)), (2, iV p2), (3, iV p3), (4, iV p4), (5, iV p5), (6, rV o1)] [iV v3]) hw (fun v3 hw => ?_) (fun j33 hj33 hw => ?_)
  · refine go_istore C [(7, iV v3), (0, rV (some a0)), (2, iV p2), (3, iV p3), (4, iV p4), (5, iV p5), (6, rV o1)] dX11_where_33 (Nat.le_of_ble_eq_true rfl) rfl ?_
    refine go_aload C dX11_where_35 6 rfl ?_
    refine go_iload_n C dX11_where_37 2 rfl ?_
    refine go_iload_n C dX11_where_38 3 rfl ?_
    obtain ⟨a4, e9, hw9⟩ := hw
    subst e9
    have hw := hw9
    clear hw9
    refine go_pV_i C [iV p2, iV p3] vX7_hasColumn tw6_8 (ci := 7) rfl (m_X7_hasColumn (xl X) C.2.2.2.2.2.2.2.1 N hw.2) ⟨Nat.le_of_ble_eq_true rfl, Nat.le_of_ble_eq_true rfl, Nat.le_of_ble_eq_true rfl, Nat.le_of_ble_eq_true rfl⟩ ⟨rfl, rfl⟩ hw.1 dX11_where_39 rfl (Nat.le_of_ble_eq_true rfl) rfl (fun v5 hw => ?_)
    refine go_if_eq C 58 dX11_where_42 (by decide) hw (fun hw => ?_) (fun hw => ?_)
    · exact go_throw C hno ex74_78 tw6_14 dX11_where_58 dX11_where_61 dX11_where_62 dX11_where_64 dX11_where_67 ⟨Nat.le_of_ble_eq_true rfl, Nat.le_of_ble_eq_true rfl, Nat.le_of_ble_eq_true rfl, Nat.le_of_ble_eq_true rfl⟩ (Nat.le_of_ble_eq_true rfl) ⟨Nat.le_of_ble_eq_true rfl, Nat.le_of_ble_eq_true rfl⟩ hw
    refine go_iload C dX11_where_45 0 rfl ?_
    refine go_if_eq C 58 dX11_where_47 (by decide) hw (fun hw => ?_) (fun hw => ?_)
    · exact go_throw C hno ex74_78 tw6_14 dX11_where_58 dX11_where_61 dX11_where_62 dX11_where_64 dX11_where_67 ⟨Nat.le_of_ble_eq_true rfl, Nat.le_of_ble_eq_true rfl, Nat.le_of_ble_eq_true rfl, Nat.le_of_ble_eq_true rfl⟩ (Nat.le_of_ble_eq_true rfl) ⟨Nat.le_of_ble_eq_true rfl, Nat.le_of_ble_eq_true rfl⟩ hw
    refine go_iload C dX11_where_50 5 rfl ?_
    refine go_pS_i C [iV p5] vX11_isValue tw4_205 (m_X11_isValue (xl X) C.2.2.2.2.2.2.2.1 N hw) ⟨Nat.le_of_ble_eq_true rfl, Nat.le_of_ble_eq_true rfl, Nat.le_of_ble_eq_true rfl, Nat.le_of_ble_eq_true rfl⟩ ⟨rfl, rfl⟩ dX11_where_52 rfl (Nat.le_of_ble_eq_true rfl) rfl (fun v6 hw => ?_)
    refine go_if_ne C 68 dX11_where_55 (by decide) hw (fun hw => ?_) (fun hw => ?_)
    · refine go_aload C dX11_where_68 6 rfl ?_
      refine go_pV_i C [] vX7_conditionCount tw6_15 (ci := 7) rfl (m_X7_conditionCount (xl X) C.2.2.2.2.2.2.2.1 N hw.2) ⟨Nat.le_of_ble_eq_true rfl, Nat.le_of_ble_eq_true rfl, Nat.le_of_ble_eq_true rfl, Nat.le_of_ble_eq_true rfl⟩ ⟨rfl, rfl⟩ hw.1 dX11_where_70 rfl (Nat.le_of_ble_eq_true rfl) rfl (fun v7 hw => ?_)
      refine go_iconst C 4 dX11_where_73 kc_i4 ?_
      refine go_icmp_lt C 87 dX11_where_74 (by decide) hw (fun hw => ?_) (fun hw => ?_)
      · refine go_aload C dX11_where_87 6 rfl ?_
        refine go_new C cfX1 tw6_17 tw6_18 tw1_22 [iV 0, iV 0, iV 0, iV 0] dfX1 ⟨Nat.le_of_ble_eq_true rfl, Nat.le_of_ble_eq_true rfl⟩ dX11_where_89 hw (fun a8 h9 hw => ?_)
        refine go_dup C _ dX11_where_92 rfl ?_
        refine go_iload_n C dX11_where_93 2 rfl ?_
        refine go_iload_n C dX11_where_94 3 rfl ?_
        refine go_iload C dX11_where_95 4 rfl ?_
        refine go_iload C dX11_where_97 5 rfl ?_
        refine go_c0I_v C [iV p2, iV p3, iV p4, iV p5] vX1_init tw6_19 (m_X1_init (xl X) C.2.2.2.2.2.2.2.1 N hw) ⟨Nat.le_of_ble_eq_true rfl, Nat.le_of_ble_eq_true rfl, Nat.le_of_ble_eq_true rfl, Nat.le_of_ble_eq_true rfl⟩ ⟨rfl, rfl⟩ dX11_where_99 rfl (Nat.le_of_ble_eq_true rfl) rfl (fun h10 hw => ?_)
        refine go_c0V_v C [rV (some a8)] vX7_addCondition tw6_36 (ci := 7) rfl (m_X7_addCondition (xl X) C.2.2.2.2.2.2.2.1 N hw.2) ⟨Nat.le_of_ble_eq_true rfl, Nat.le_of_ble_eq_true rfl, Nat.le_of_ble_eq_true rfl, Nat.le_of_ble_eq_true rfl⟩ ⟨rfl, rfl⟩ hw.1 dX11_where_102 rfl (Nat.le_of_ble_eq_true rfl) rfl (fun h11 hw => ?_)
        refine go_aload_n C dX11_where_105 1 rfl ?_
        refine go_getA C (cfX11) (k := 11) (Nat.le_of_ble_eq_true rfl) tw1_229 rfl dX11_where_106 hw (fun a12 hw => ?_)
        refine go_c0V_v C [] vX2_closeAppeals tw2_31 (ci := 2) rfl (m_X2_closeAppeals (xl X) C.2.2.2.2.2.2.2.1 N hw.2) ⟨Nat.le_of_ble_eq_true rfl, Nat.le_of_ble_eq_true rfl, Nat.le_of_ble_eq_true rfl, Nat.le_of_ble_eq_true rfl⟩ ⟨rfl, rfl⟩ hw.1 dX11_where_109 rfl (Nat.le_of_ble_eq_true rfl) rfl (fun h13 hw => ?_)
        refine go_aload C dX11_where_112 6 rfl ?_
        refine go_pV_i C [] vX7_conditionCount tw6_15 (ci := 7) rfl (m_X7_conditionCount (xl X) C.2.2.2.2.2.2.2.1 N hw.2) ⟨Nat.le_of_ble_eq_true rfl, Nat.le_of_ble_eq_true rfl, Nat.le_of_ble_eq_true rfl, Nat.le_of_ble_eq_true rfl⟩ ⟨rfl, rfl⟩ hw.1 dX11_where_114 rfl (Nat.le_of_ble_eq_true rfl) rfl (fun v14 hw => ?_)
        exact go_xiret C dX11_where_117 hw (Nat.le_of_ble_eq_true rfl) (Nat.le_of_ble_eq_true rfl)
      exact go_throw C hno ex85_89 tw6_16 dX11_where_77 dX11_where_80 dX11_where_81 dX11_where_83 dX11_where_86 ⟨Nat.le_of_ble_eq_true rfl, Nat.le_of_ble_eq_true rfl, Nat.le_of_ble_eq_true rfl, Nat.le_of_ble_eq_true rfl⟩ (Nat.le_of_ble_eq_true rfl) ⟨Nat.le_of_ble_eq_true rfl, Nat.le_of_ble_eq_true rfl⟩ hw
    exact go_throw C hno ex74_78 tw6_14 dX11_where_58 dX11_where_61 dX11_where_62 dX11_where_64 dX11_where_67 ⟨Nat.le_of_ble_eq_true rfl, Nat.le_of_ble_eq_true rfl, Nat.le_of_ble_eq_true rfl, Nat.le_of_ble_eq_true rfl⟩ (Nat.le_of_ble_eq_true rfl) ⟨Nat.le_of_ble_eq_true rfl, Nat.le_of_ble_eq_true rfl⟩ hw
  refine jn_elim (P := fun j => j  → Go G X rmX11_where 8 1 6 (QX G X (QI G K) KX rmX11_where) h2 28 [(0, rV (some a0)), (2, iV p2), (3, iV p3), (4, iV p4), (5, iV p5), (6, rV o1)] []) hw (fun  hw => ?_) (fun j28 hj28 hw => ?_)
  · refine go_iconst C 1 dX11_where_28 kc_i1 ?_
    refine go_goto C 33 dX11_where_29 (by decide) ?_
    exact hj33 1 hw
  refine go_icmp_eq C 28 dX11_where_11 (by decide) hw (fun hw => ?_) (fun hw => ?_)
  · refine go_sub [1, 3, 4, 5, 6, 0] rfl ?_
    exact hj28  hw
  refine go_iload C dX11_where_14 5 rfl ?_
  refine go_bipush C 60 dX11_where_16 kc_b60 ?_
  refine go_icmp_eq C 28 dX11_where_18 (by decide) hw (fun hw => ?_) (fun hw => ?_)
  · refine go_sub [1, 3, 4, 5, 6, 0] rfl ?_
    exact hj28  hw
  refine go_iload C dX11_where_21 5 rfl ?_
  refine go_bipush C 62 dX11_where_23 kc_b62 ?_
  refine go_icmp_ne C 32 dX11_where_25 (by decide) hw (fun hw => ?_) (fun hw => ?_)
  · refine go_iconst C 0 dX11_where_32 kc_i0 ?_
    refine go_sub [1, 3, 4, 5, 6, 0] rfl ?_
    exact hj33 0 hw
  refine go_sub [1, 3, 4, 5, 6, 0] rfl ?_
  exact hj28  hw
/-- DuelSchema.join(IIIII)I -/
def w_X11_join (N : Nat) (a0 : Nat) (p1 : Int32) (p2 : Int32) (p3 : Int32) (p4 : Int32) (p5 : Int32) (h0 : Hp) (K : Int32 → Hp → Prop) (KX : String → Hp → Prop) : Prop :=
  cv h0 a0 11 <| w_X11_needQuery N a0 p1 h0 (fun o1 h2 =>
  nn o1 fun a3 => cv h2 a3 7 <| w_X7_hasColumn N a3 p2 p3 h2 fun v4 =>
  br (v4 = 0) (
    KX "java/lang/IllegalArgumentException" h2) (
    cv h2 a3 7 <| w_X7_hasColumn N a3 p4 p5 h2 fun v5 =>
    br (v5 = 0) (
      KX "java/lang/IllegalArgumentException" h2) (
      br (p2 = p4) (
        KX "java/lang/IllegalArgumentException" h2) (
        cv h2 a3 7 <| w_X7_joinCount N a3  h2 fun v6 =>
        br (v6 < 3) (
          nw h2 4 [iV 0, iV 0, iV 0, iV 0] fun a7 h8 =>
          w_X4_init N a7 p2 p3 p4 p5 h8 fun h9 =>
          cv h9 a3 7 <| w_X7_addJoin N a3 (some a7) h9 fun h10 =>
          gA h10 a0 11 11 fun a11 =>
          cv h10 a11 2 <| w_X2_closeAppeals N a11  h10 fun h12 =>
          cv h12 a3 7 <| w_X7_joinCount N a3  h12 fun v13 =>
          K v13 h12) (
          KX "java/lang/IllegalStateException" h2))))) KX
abbrev rmX11_join : Room := { frames := 9, cells := 2, slots := 12, locals := 162 }
theorem vX11_join : VI RX11 yX11_join cX11_join 7 (some .int) 5 := ⟨tw6_44, tw6_45, tw1_1, tw6_46, by decide +kernel⟩
set_option maxHeartbeats 4000000 in
theorem m_X11_join {G : Gp} (l : Launch) (hfl : l.stackTraces = false) (N : Nat) {a0 : Nat} {p1 : Int32} {p2 : Int32} {p3 : Int32} {p4 : Int32} {p5 : Int32} {h0 : Hp} {K : Int32 → Hp → Prop} {KX : String → Hp → Prop} (hw : w_X11_join N a0 p1 p2 p3 p4 p5 h0 K KX) : MX G l yX11_join cX11_join 7 (some .int) rmX11_join [rV (some a0), iV p1, iV p2, iV p3, iV p4, iV p5] h0 (QI G K) KX := by
  refine go_xmetT l hfl _ 7 _ _ rfl (by decide +kernel) (Nat.le_of_ble_eq_true rfl) [(0, rV (some a0)), (1, iV p1), (2, iV p2), (3, iV p3), (4, iV p4), (5, iV p5)] rfl (fun X hX C hno => ?_)
  subst hX
  unfold w_X11_join at hw
  refine go_aload_n C dX11_join_0 0 rfl ?_
  refine go_iload_n C dX11_join_1 1 rfl ?_
  refine go_xcallV_q C hno [iV p1] vX11_needQuery tw5_231 (ci := 11) rfl (m_X11_needQuery (xl X) C.2.2.2.2.2.2.2.1 N hw.2) ⟨Nat.le_of_ble_eq_true rfl, Nat.le_of_ble_eq_true rfl, Nat.le_of_ble_eq_true rfl, Nat.le_of_ble_eq_true rfl⟩ ⟨Nat.le_of_ble_eq_true rfl, Nat.le_of_ble_eq_true rfl⟩ hw.1 dX11_join_2 rfl (Nat.le_of_ble_eq_true rfl) rfl (fun o1 h2 hw => ?_)
  refine go_astore C [(6, rV o1), (0, rV (some a0)), (1, iV p1), (2, iV p2), (3, iV p3), (4, iV p4), (5, iV p5)] dX11_join_5 (Nat.le_of_ble_eq_true rfl) rfl ?_
  refine go_aload C dX11_join_7 0 rfl ?_
  refine go_iload_n C dX11_join_9 3 rfl ?_
  refine go_iload_n C dX11_join_10 4 rfl ?_
  obtain ⟨a3, e9, hw9⟩ := hw
  subst e9
  have hw := hw9
  clear hw9
  refine go_pV_i C [iV p2, iV p3] vX7_hasColumn tw6_8 (ci := 7) rfl (m_X7_hasColumn (xl X) C.2.2.2.2.2.2.2.1 N hw.2) ⟨Nat.le_of_ble_eq_true rfl, Nat.le_of_ble_eq_true rfl, Nat.le_of_ble_eq_true rfl, Nat.le_of_ble_eq_true rfl⟩ ⟨rfl, rfl⟩ hw.1 dX11_join_11 rfl (Nat.le_of_ble_eq_true rfl) rfl (fun v4 hw => ?_)
  refine go_if_eq C 35 dX11_join_14 (by decide) hw (fun hw => ?_) (fun hw => ?_)
  · exact go_throw C hno ex74_78 tw6_47 dX11_join_35 dX11_join_38 dX11_join_39 dX11_join_41 dX11_join_44 ⟨Nat.le_of_ble_eq_true rfl, Nat.le_of_ble_eq_true rfl, Nat.le_of_ble_eq_true rfl, Nat.le_of_ble_eq_true rfl⟩ (Nat.le_of_ble_eq_true rfl) ⟨Nat.le_of_ble_eq_true rfl, Nat.le_of_ble_eq_true rfl⟩ hw
  refine go_aload C dX11_join_17 0 rfl ?_
  refine go_iload C dX11_join_19 5 rfl ?_
  refine go_iload C dX11_join_21 6 rfl ?_
  refine go_pV_i C [iV p4, iV p5] vX7_hasColumn tw6_8 (ci := 7) rfl (m_X7_hasColumn (xl X) C.2.2.2.2.2.2.2.1 N hw.2) ⟨Nat.le_of_ble_eq_true rfl, Nat.le_of_ble_eq_true rfl, Nat.le_of_ble_eq_true rfl, Nat.le_of_ble_eq_true rfl⟩ ⟨rfl, rfl⟩ hw.1 dX11_join_23 rfl (Nat.le_of_ble_eq_true rfl) rfl (fun v5 hw => ?_)
  refine go_if_eq C 35 dX11_join_26 (by decide) hw (fun hw => ?_) (fun hw => ?_)
  · exact go_throw C hno ex74_78 tw6_47 dX11_join_35 dX11_join_38 dX11_join_39 dX11_join_41 dX11_join_44 ⟨Nat.le_of_ble_eq_true rfl, Nat.le_of_ble_eq_true rfl, Nat.le_of_ble_eq_true rfl, Nat.le_of_ble_eq_true rfl⟩ (Nat.le_of_ble_eq_true rfl) ⟨Nat.le_of_ble_eq_true rfl, Nat.le_of_ble_eq_true rfl⟩ hw
  refine go_iload_n C dX11_join_29 3 rfl ?_
  refine go_iload C dX11_join_30 5 rfl ?_
  refine go_icmp_ne C 45 dX11_join_32 (by decide) hw (fun hw => ?_) (fun hw => ?_)
  · refine go_aload C dX11_join_45 0 rfl ?_
    refine go_pV_i C [] vX7_joinCount tw6_48 (ci := 7) rfl (m_X7_joinCount (xl X) C.2.2.2.2.2.2.2.1 N hw.2) ⟨Nat.le_of_ble_eq_true rfl, Nat.le_of_ble_eq_true rfl, Nat.le_of_ble_eq_true rfl, Nat.le_of_ble_eq_true rfl⟩ ⟨rfl, rfl⟩ hw.1 dX11_join_47 rfl (Nat.le_of_ble_eq_true rfl) rfl (fun v6 hw => ?_)
    refine go_iconst C 3 dX11_join_50 kc_i3 ?_
    refine go_icmp_lt C 64 dX11_join_51 (by decide) hw (fun hw => ?_) (fun hw => ?_)
    · refine go_aload C dX11_join_64 0 rfl ?_
      refine go_new C cfX4 tw6_50 tw6_51 tw1_23 [iV 0, iV 0, iV 0, iV 0] dfX4 ⟨Nat.le_of_ble_eq_true rfl, Nat.le_of_ble_eq_true rfl⟩ dX11_join_66 hw (fun a7 h8 hw => ?_)
      refine go_dup C _ dX11_join_69 rfl ?_
      refine go_iload_n C dX11_join_70 3 rfl ?_
      refine go_iload_n C dX11_join_71 4 rfl ?_
      refine go_iload C dX11_join_72 5 rfl ?_
      refine go_iload C dX11_join_74 6 rfl ?_
      refine go_c0I_v C [iV p2, iV p3, iV p4, iV p5] vX4_init tw6_52 (m_X4_init (xl X) C.2.2.2.2.2.2.2.1 N hw) ⟨Nat.le_of_ble_eq_true rfl, Nat.le_of_ble_eq_true rfl, Nat.le_of_ble_eq_true rfl, Nat.le_of_ble_eq_true rfl⟩ ⟨rfl, rfl⟩ dX11_join_76 rfl (Nat.le_of_ble_eq_true rfl) rfl (fun h9 hw => ?_)
      refine go_c0V_v C [rV (some a7)] vX7_addJoin tw6_69 (ci := 7) rfl (m_X7_addJoin (xl X) C.2.2.2.2.2.2.2.1 N hw.2) ⟨Nat.le_of_ble_eq_true rfl, Nat.le_of_ble_eq_true rfl, Nat.le_of_ble_eq_true rfl, Nat.le_of_ble_eq_true rfl⟩ ⟨rfl, rfl⟩ hw.1 dX11_join_79 rfl (Nat.le_of_ble_eq_true rfl) rfl (fun h10 hw => ?_)
      refine go_aload_n C dX11_join_82 1 rfl ?_
      refine go_getA C (cfX11) (k := 11) (Nat.le_of_ble_eq_true rfl) tw1_229 rfl dX11_join_83 hw (fun a11 hw => ?_)
      refine go_c0V_v C [] vX2_closeAppeals tw2_31 (ci := 2) rfl (m_X2_closeAppeals (xl X) C.2.2.2.2.2.2.2.1 N hw.2) ⟨Nat.le_of_ble_eq_true rfl, Nat.le_of_ble_eq_true rfl, Nat.le_of_ble_eq_true rfl, Nat.le_of_ble_eq_true rfl⟩ ⟨rfl, rfl⟩ hw.1 dX11_join_86 rfl (Nat.le_of_ble_eq_true rfl) rfl (fun h12 hw => ?_)
      refine go_aload C dX11_join_89 0 rfl ?_
      refine go_pV_i C [] vX7_joinCount tw6_48 (ci := 7) rfl (m_X7_joinCount (xl X) C.2.2.2.2.2.2.2.1 N hw.2) ⟨Nat.le_of_ble_eq_true rfl, Nat.le_of_ble_eq_true rfl, Nat.le_of_ble_eq_true rfl, Nat.le_of_ble_eq_true rfl⟩ ⟨rfl, rfl⟩ hw.1 dX11_join_91 rfl (Nat.le_of_ble_eq_true rfl) rfl (fun v13 hw => ?_)
      exact go_xiret C dX11_join_94 hw (Nat.le_of_ble_eq_true rfl) (Nat.le_of_ble_eq_true rfl)
    exact go_throw C hno ex85_89 tw6_49 dX11_join_54 dX11_join_57 dX11_join_58 dX11_join_60 dX11_join_63 ⟨Nat.le_of_ble_eq_true rfl, Nat.le_of_ble_eq_true rfl, Nat.le_of_ble_eq_true rfl, Nat.le_of_ble_eq_true rfl⟩ (Nat.le_of_ble_eq_true rfl) ⟨Nat.le_of_ble_eq_true rfl, Nat.le_of_ble_eq_true rfl⟩ hw
  exact go_throw C hno ex74_78 tw6_47 dX11_join_35 dX11_join_38 dX11_join_39 dX11_join_41 dX11_join_44 ⟨Nat.le_of_ble_eq_true rfl, Nat.le_of_ble_eq_true rfl, Nat.le_of_ble_eq_true rfl, Nat.le_of_ble_eq_true rfl⟩ (Nat.le_of_ble_eq_true rfl) ⟨Nat.le_of_ble_eq_true rfl, Nat.le_of_ble_eq_true rfl⟩ hw
/-- DuelSchema.needPositions(I)LDuelSchema$Query; -/
def w_X11_needPositions (N : Nat) (a0 : Nat) (p1 : Int32) (h0 : Hp) (K : Option Nat → Hp → Prop) (KX : String → Hp → Prop) : Prop :=
  cv h0 a0 11 <| w_X11_needQuery N a0 p1 h0 (fun o1 h2 =>
  nn o1 fun a3 => cv h2 a3 7 <| w_X7_size N a3  h2 fun v4 =>
  br (v4 = 0) (
    KX "java/lang/UnsupportedOperationException" h2) (
    K (some a3) h2)) KX
abbrev rmX11_needPositions : Room := { frames := 9, cells := 2, slots := 12, locals := 162 }
theorem vX11_needPositions : VI RX11 yX11_needPositions cX11_needPositions 3 (some (.object "DuelSchema$Query")) 1 := ⟨tw6_83, tp38, tw1_1, tw6_84, by decide +kernel⟩
set_option maxHeartbeats 4000000 in
theorem m_X11_needPositions {G : Gp} (l : Launch) (hfl : l.stackTraces = false) (N : Nat) {a0 : Nat} {p1 : Int32} {h0 : Hp} {K : Option Nat → Hp → Prop} {KX : String → Hp → Prop} (hw : w_X11_needPositions N a0 p1 h0 K KX) : MX G l yX11_needPositions cX11_needPositions 3 (some (.object "DuelSchema$Query")) rmX11_needPositions [rV (some a0), iV p1] h0 (QR G K) KX := by
  refine go_xmetT l hfl _ 3 _ _ rfl (by decide +kernel) (Nat.le_of_ble_eq_true rfl) [(0, rV (some a0)), (1, iV p1)] rfl (fun X hX C hno => ?_)
  subst hX
  unfold w_X11_needPositions at hw
  refine go_aload_n C dX11_needPositions_0 0 rfl ?_
  refine go_iload_n C dX11_needPositions_1 1 rfl ?_
  refine go_xcallV_q C hno [iV p1] vX11_needQuery tw5_231 (ci := 11) rfl (m_X11_needQuery (xl X) C.2.2.2.2.2.2.2.1 N hw.2) ⟨Nat.le_of_ble_eq_true rfl, Nat.le_of_ble_eq_true rfl, Nat.le_of_ble_eq_true rfl, Nat.le_of_ble_eq_true rfl⟩ ⟨Nat.le_of_ble_eq_true rfl, Nat.le_of_ble_eq_true rfl⟩ hw.1 dX11_needPositions_2 rfl (Nat.le_of_ble_eq_true rfl) rfl (fun o1 h2 hw => ?_)
  refine go_astore_n C [(2, rV o1), (0, rV (some a0)), (1, iV p1)] dX11_needPositions_5 (Nat.le_of_ble_eq_true rfl) rfl ?_
  refine go_aload_n C dX11_needPositions_6 0 rfl ?_
  obtain ⟨a3, e9, hw9⟩ := hw
  subst e9
  have hw := hw9
  clear hw9
  refine go_pV_i C [] vX7_size tw2_107 (ci := 7) rfl (m_X7_size (xl X) C.2.2.2.2.2.2.2.1 N hw.2) ⟨Nat.le_of_ble_eq_true rfl, Nat.le_of_ble_eq_true rfl, Nat.le_of_ble_eq_true rfl, Nat.le_of_ble_eq_true rfl⟩ ⟨rfl, rfl⟩ hw.1 dX11_needPositions_7 rfl (Nat.le_of_ble_eq_true rfl) rfl (fun v4 hw => ?_)
  refine go_if_ne C 24 dX11_needPositions_10 (by decide) hw (fun hw => ?_) (fun hw => ?_)
  · refine go_aload_n C dX11_needPositions_24 0 rfl ?_
    exact go_xaret C dX11_needPositions_25 hw (Nat.le_of_ble_eq_true rfl) (Nat.le_of_ble_eq_true rfl)
  exact go_throwW C hno ex323_327 tw6_94 dX11_needPositions_13 dX11_needPositions_16 dX11_needPositions_17 dX11_needPositions_20 dX11_needPositions_23 ⟨Nat.le_of_ble_eq_true rfl, Nat.le_of_ble_eq_true rfl, Nat.le_of_ble_eq_true rfl, Nat.le_of_ble_eq_true rfl⟩ (Nat.le_of_ble_eq_true rfl) ⟨Nat.le_of_ble_eq_true rfl, Nat.le_of_ble_eq_true rfl⟩ hw
/-- DuelSchema.answers(I)I -/
def w_X11_answers (N : Nat) (a0 : Nat) (p1 : Int32) (h0 : Hp) (K : Int32 → Hp → Prop) (KX : String → Hp → Prop) : Prop :=
  cv h0 a0 11 <| w_X11_needPositions N a0 p1 h0 (fun o1 h2 =>
  gA h2 a0 11 6 fun a3 =>
  cv h2 a3 8 <| w_X8_tryAllRows N a3 o1 (-1) 0 0 h2 fun h4 =>
  gA h4 a0 11 6 fun a5 =>
  cv h4 a5 8 <| w_X8_foundCount N a5  h4 fun v6 =>
  K v6 h4) KX
abbrev rmX11_answers : Room := { frames := 42, cells := 2, slots := 12, locals := 1347 }
theorem vX11_answers : VI RX11 yX11_answers cX11_answers 3 (some .int) 1 := ⟨tw6_78, tw6_79, tw1_1, tw6_80, by decide +kernel⟩
set_option maxHeartbeats 4000000 in
theorem m_X11_answers {G : Gp} (l : Launch) (hfl : l.stackTraces = false) (N : Nat) {a0 : Nat} {p1 : Int32} {h0 : Hp} {K : Int32 → Hp → Prop} {KX : String → Hp → Prop} (hw : w_X11_answers N a0 p1 h0 K KX) : MX G l yX11_answers cX11_answers 3 (some .int) rmX11_answers [rV (some a0), iV p1] h0 (QI G K) KX := by
  refine go_xmetT l hfl _ 3 _ _ rfl (by decide +kernel) (Nat.le_of_ble_eq_true rfl) [(0, rV (some a0)), (1, iV p1)] rfl (fun X hX C hno => ?_)
  subst hX
  unfold w_X11_answers at hw
  refine go_aload_n C dX11_answers_0 0 rfl ?_
  refine go_iload_n C dX11_answers_1 1 rfl ?_
  refine go_xcallV_q C hno [iV p1] vX11_needPositions tw6_81 (ci := 11) rfl (m_X11_needPositions (xl X) C.2.2.2.2.2.2.2.1 N hw.2) ⟨Nat.le_of_ble_eq_true rfl, Nat.le_of_ble_eq_true rfl, Nat.le_of_ble_eq_true rfl, Nat.le_of_ble_eq_true rfl⟩ ⟨Nat.le_of_ble_eq_true rfl, Nat.le_of_ble_eq_true rfl⟩ hw.1 dX11_answers_2 rfl (Nat.le_of_ble_eq_true rfl) rfl (fun o1 h2 hw => ?_)
  refine go_astore_n C [(2, rV o1), (0, rV (some a0)), (1, iV p1)] dX11_answers_5 (Nat.le_of_ble_eq_true rfl) rfl ?_
  refine go_aload_n C dX11_answers_6 1 rfl ?_
  refine go_getA C (cfX11) (k := 6) (Nat.le_of_ble_eq_true rfl) tw1_224 rfl dX11_answers_7 hw (fun a3 hw => ?_)
  refine go_aload_n C dX11_answers_10 0 rfl ?_
  refine go_iconst C (-1) dX11_answers_11 kc_im1 ?_
  refine go_iconst C 0 dX11_answers_12 kc_i0 ?_
  refine go_iconst C 0 dX11_answers_13 kc_i0 ?_
  refine go_c0V_v C [rV o1, iV (-1), iV 0, iV 0] vX8_tryAllRows tw2_115 (ci := 8) rfl (m_X8_tryAllRows (xl X) C.2.2.2.2.2.2.2.1 N hw.2) ⟨Nat.le_of_ble_eq_true rfl, Nat.le_of_ble_eq_true rfl, Nat.le_of_ble_eq_true rfl, Nat.le_of_ble_eq_true rfl⟩ ⟨rfl, rfl⟩ hw.1 dX11_answers_14 rfl (Nat.le_of_ble_eq_true rfl) rfl (fun h4 hw => ?_)
  refine go_aload_n C dX11_answers_17 1 rfl ?_
  refine go_getA C (cfX11) (k := 6) (Nat.le_of_ble_eq_true rfl) tw1_224 rfl dX11_answers_18 hw (fun a5 hw => ?_)
  refine go_pV_i C [] vX8_foundCount tw3_58 (ci := 8) rfl (m_X8_foundCount (xl X) C.2.2.2.2.2.2.2.1 N hw.2) ⟨Nat.le_of_ble_eq_true rfl, Nat.le_of_ble_eq_true rfl, Nat.le_of_ble_eq_true rfl, Nat.le_of_ble_eq_true rfl⟩ ⟨rfl, rfl⟩ hw.1 dX11_answers_21 rfl (Nat.le_of_ble_eq_true rfl) rfl (fun v6 hw => ?_)
  exact go_xiret C dX11_answers_24 hw (Nat.le_of_ble_eq_true rfl) (Nat.le_of_ble_eq_true rfl)
/-- DuelSchema.answerAt(III)I -/
def w_X11_answerAt (N : Nat) (a0 : Nat) (p1 : Int32) (p2 : Int32) (p3 : Int32) (h0 : Hp) (K : Int32 → Hp → Prop) (KX : String → Hp → Prop) : Prop :=
  cv h0 a0 11 <| w_X11_needQuery N a0 p1 h0 (fun o1 h2 =>
  nn o1 fun a3 => cv h2 a3 7 <| w_X7_hasPosition N a3 p3 h2 fun v4 =>
  br (v4 = 0) (
    KX "java/lang/IllegalArgumentException" h2) (
    gA h2 a0 11 6 fun a5 =>
    cv h2 a5 8 <| w_X8_tryAllRows N a5 (some a3) p2 p3 0 h2 fun h6 =>
    gA h6 a0 11 6 fun a7 =>
    cv h6 a7 8 <| w_X8_wantedRow N a7  h6 fun v8 =>
    br (v8 = (-1)) (
      KX "java/util/NoSuchElementException" h6) (
      K v8 h6))) KX
abbrev rmX11_answerAt : Room := { frames := 42, cells := 2, slots := 12, locals := 1347 }
theorem vX11_answerAt : VI RX11 yX11_answerAt cX11_answerAt 6 (some .int) 3 := ⟨tw6_105, tw6_106, tw1_1, tw6_107, by decide +kernel⟩
set_option maxHeartbeats 4000000 in
theorem m_X11_answerAt {G : Gp} (l : Launch) (hfl : l.stackTraces = false) (N : Nat) {a0 : Nat} {p1 : Int32} {p2 : Int32} {p3 : Int32} {h0 : Hp} {K : Int32 → Hp → Prop} {KX : String → Hp → Prop} (hw : w_X11_answerAt N a0 p1 p2 p3 h0 K KX) : MX G l yX11_answerAt cX11_answerAt 6 (some .int) rmX11_answerAt [rV (some a0), iV p1, iV p2, iV p3] h0 (QI G K) KX := by
  refine go_xmetT l hfl _ 6 _ _ rfl (by decide +kernel) (Nat.le_of_ble_eq_true rfl) [(0, rV (some a0)), (1, iV p1), (2, iV p2), (3, iV p3)] rfl (fun X hX C hno => ?_)
  subst hX
  unfold w_X11_answerAt at hw
  refine go_aload_n C dX11_answerAt_0 0 rfl ?_
  refine go_iload_n C dX11_answerAt_1 1 rfl ?_
  refine go_xcallV_q C hno [iV p1] vX11_needQuery tw5_231 (ci := 11) rfl (m_X11_needQuery (xl X) C.2.2.2.2.2.2.2.1 N hw.2) ⟨Nat.le_of_ble_eq_true rfl, Nat.le_of_ble_eq_true rfl, Nat.le_of_ble_eq_true rfl, Nat.le_of_ble_eq_true rfl⟩ ⟨Nat.le_of_ble_eq_true rfl, Nat.le_of_ble_eq_true rfl⟩ hw.1 dX11_answerAt_2 rfl (Nat.le_of_ble_eq_true rfl) rfl (fun o1 h2 hw => ?_)
  refine go_astore C [(4, rV o1), (0, rV (some a0)), (1, iV p1), (2, iV p2), (3, iV p3)] dX11_answerAt_5 (Nat.le_of_ble_eq_true rfl) rfl ?_
  refine go_aload C dX11_answerAt_7 0 rfl ?_
  refine go_iload_n C dX11_answerAt_9 4 rfl ?_
  obtain ⟨a3, e9, hw9⟩ := hw
  subst e9
  have hw := hw9
  clear hw9
  refine go_pV_i C [iV p3] vX7_hasPosition tw6_108 (ci := 7) rfl (m_X7_hasPosition (xl X) C.2.2.2.2.2.2.2.1 N hw.2) ⟨Nat.le_of_ble_eq_true rfl, Nat.le_of_ble_eq_true rfl, Nat.le_of_ble_eq_true rfl, Nat.le_of_ble_eq_true rfl⟩ ⟨rfl, rfl⟩ hw.1 dX11_answerAt_10 rfl (Nat.le_of_ble_eq_true rfl) rfl (fun v4 hw => ?_)
  refine go_if_ne C 27 dX11_answerAt_13 (by decide) hw (fun hw => ?_) (fun hw => ?_)
  · refine go_aload_n C dX11_answerAt_27 1 rfl ?_
    refine go_getA C (cfX11) (k := 6) (Nat.le_of_ble_eq_true rfl) tw1_224 rfl dX11_answerAt_28 hw (fun a5 hw => ?_)
    refine go_aload C dX11_answerAt_31 0 rfl ?_
    refine go_iload_n C dX11_answerAt_33 3 rfl ?_
    refine go_iload_n C dX11_answerAt_34 4 rfl ?_
    refine go_iconst C 0 dX11_answerAt_35 kc_i0 ?_
    refine go_c0V_v C [rV (some a3), iV p2, iV p3, iV 0] vX8_tryAllRows tw2_115 (ci := 8) rfl (m_X8_tryAllRows (xl X) C.2.2.2.2.2.2.2.1 N hw.2) ⟨Nat.le_of_ble_eq_true rfl, Nat.le_of_ble_eq_true rfl, Nat.le_of_ble_eq_true rfl, Nat.le_of_ble_eq_true rfl⟩ ⟨rfl, rfl⟩ hw.1 dX11_answerAt_36 rfl (Nat.le_of_ble_eq_true rfl) rfl (fun h6 hw => ?_)
    refine go_aload_n C dX11_answerAt_39 1 rfl ?_
    refine go_getA C (cfX11) (k := 6) (Nat.le_of_ble_eq_true rfl) tw1_224 rfl dX11_answerAt_40 hw (fun a7 hw => ?_)
    refine go_pV_i C [] vX8_wantedRow tw6_113 (ci := 8) rfl (m_X8_wantedRow (xl X) C.2.2.2.2.2.2.2.1 N hw.2) ⟨Nat.le_of_ble_eq_true rfl, Nat.le_of_ble_eq_true rfl, Nat.le_of_ble_eq_true rfl, Nat.le_of_ble_eq_true rfl⟩ ⟨rfl, rfl⟩ hw.1 dX11_answerAt_43 rfl (Nat.le_of_ble_eq_true rfl) rfl (fun v8 hw => ?_)
    refine go_istore C [(5, iV v8), (4, rV (some a3)), (0, rV (some a0)), (1, iV p1), (2, iV p2), (3, iV p3)] dX11_answerAt_46 (Nat.le_of_ble_eq_true rfl) rfl ?_
    refine go_iload C dX11_answerAt_48 0 rfl ?_
    refine go_iconst C (-1) dX11_answerAt_50 kc_im1 ?_
    refine go_icmp_ne C 65 dX11_answerAt_51 (by decide) hw (fun hw => ?_) (fun hw => ?_)
    · refine go_iload C dX11_answerAt_65 0 rfl ?_
      exact go_xiret C dX11_answerAt_67 hw (Nat.le_of_ble_eq_true rfl) (Nat.le_of_ble_eq_true rfl)
    exact go_throwNW C hno tw6_117 dX11_answerAt_54 dX11_answerAt_57 dX11_answerAt_58 dX11_answerAt_61 dX11_answerAt_64 ⟨Nat.le_of_ble_eq_true rfl, Nat.le_of_ble_eq_true rfl, Nat.le_of_ble_eq_true rfl, Nat.le_of_ble_eq_true rfl⟩ (Nat.le_of_ble_eq_true rfl) ⟨Nat.le_of_ble_eq_true rfl, Nat.le_of_ble_eq_true rfl⟩ hw
  exact go_throwW C hno ex74_78 tw6_112 dX11_answerAt_16 dX11_answerAt_19 dX11_answerAt_20 dX11_answerAt_23 dX11_answerAt_26 ⟨Nat.le_of_ble_eq_true rfl, Nat.le_of_ble_eq_true rfl, Nat.le_of_ble_eq_true rfl, Nat.le_of_ble_eq_true rfl⟩ (Nat.le_of_ble_eq_true rfl) ⟨Nat.le_of_ble_eq_true rfl, Nat.le_of_ble_eq_true rfl⟩ hw
/-- DuelSchema.sum(III)J -/
def w_X11_sum (N : Nat) (a0 : Nat) (p1 : Int32) (p2 : Int32) (p3 : Int32) (h0 : Hp) (K : Int64 → Hp → Prop) (KX : String → Hp → Prop) : Prop :=
  cv h0 a0 11 <| w_X11_needQuery N a0 p1 h0 (fun o1 h2 =>
  nn o1 fun a3 => cv h2 a3 7 <| w_X7_hasColumn N a3 p2 p3 h2 fun v4 =>
  br (v4 = 0) (
    KX "java/lang/IllegalArgumentException" h2) (
    gA h2 a0 11 6 fun a5 =>
    cv h2 a5 8 <| w_X8_tryAllRows N a5 (some a3) (-1) p2 p3 h2 fun h6 =>
    gA h6 a0 11 6 fun a7 =>
    cv h6 a7 8 <| w_X8_columnSum N a7  h6 fun v8 =>
    K v8 h6)) KX
abbrev rmX11_sum : Room := { frames := 42, cells := 2, slots := 12, locals := 1347 }
theorem vX11_sum : VI RX11 yX11_sum cX11_sum 5 (some .long) 3 := ⟨tw6_122, tw6_123, tw1_1, tw6_124, by decide +kernel⟩
set_option maxHeartbeats 4000000 in
theorem m_X11_sum {G : Gp} (l : Launch) (hfl : l.stackTraces = false) (N : Nat) {a0 : Nat} {p1 : Int32} {p2 : Int32} {p3 : Int32} {h0 : Hp} {K : Int64 → Hp → Prop} {KX : String → Hp → Prop} (hw : w_X11_sum N a0 p1 p2 p3 h0 K KX) : MX G l yX11_sum cX11_sum 5 (some .long) rmX11_sum [rV (some a0), iV p1, iV p2, iV p3] h0 (QL G K) KX := by
  refine go_xmetT l hfl _ 5 _ _ rfl (by decide +kernel) (Nat.le_of_ble_eq_true rfl) [(0, rV (some a0)), (1, iV p1), (2, iV p2), (3, iV p3)] rfl (fun X hX C hno => ?_)
  subst hX
  unfold w_X11_sum at hw
  refine go_aload_n C dX11_sum_0 0 rfl ?_
  refine go_iload_n C dX11_sum_1 1 rfl ?_
  refine go_xcallV_q C hno [iV p1] vX11_needQuery tw5_231 (ci := 11) rfl (m_X11_needQuery (xl X) C.2.2.2.2.2.2.2.1 N hw.2) ⟨Nat.le_of_ble_eq_true rfl, Nat.le_of_ble_eq_true rfl, Nat.le_of_ble_eq_true rfl, Nat.le_of_ble_eq_true rfl⟩ ⟨Nat.le_of_ble_eq_true rfl, Nat.le_of_ble_eq_true rfl⟩ hw.1 dX11_sum_2 rfl (Nat.le_of_ble_eq_true rfl) rfl (fun o1 h2 hw => ?_)
  refine go_astore C [(4, rV o1), (0, rV (some a0)), (1, iV p1), (2, iV p2), (3, iV p3)] dX11_sum_5 (Nat.le_of_ble_eq_true rfl) rfl ?_
  refine go_aload C dX11_sum_7 0 rfl ?_
  refine go_iload_n C dX11_sum_9 3 rfl ?_
  refine go_iload_n C dX11_sum_10 4 rfl ?_
  obtain ⟨a3, e9, hw9⟩ := hw
  subst e9
  have hw := hw9
  clear hw9
  refine go_pV_i C [iV p2, iV p3] vX7_hasColumn tw6_8 (ci := 7) rfl (m_X7_hasColumn (xl X) C.2.2.2.2.2.2.2.1 N hw.2) ⟨Nat.le_of_ble_eq_true rfl, Nat.le_of_ble_eq_true rfl, Nat.le_of_ble_eq_true rfl, Nat.le_of_ble_eq_true rfl⟩ ⟨rfl, rfl⟩ hw.1 dX11_sum_11 rfl (Nat.le_of_ble_eq_true rfl) rfl (fun v4 hw => ?_)
  refine go_if_ne C 28 dX11_sum_14 (by decide) hw (fun hw => ?_) (fun hw => ?_)
  · refine go_aload_n C dX11_sum_28 1 rfl ?_
    refine go_getA C (cfX11) (k := 6) (Nat.le_of_ble_eq_true rfl) tw1_224 rfl dX11_sum_29 hw (fun a5 hw => ?_)
    refine go_aload C dX11_sum_32 0 rfl ?_
    refine go_iconst C (-1) dX11_sum_34 kc_im1 ?_
    refine go_iload_n C dX11_sum_35 3 rfl ?_
    refine go_iload_n C dX11_sum_36 4 rfl ?_
    refine go_c0V_v C [rV (some a3), iV (-1), iV p2, iV p3] vX8_tryAllRows tw2_115 (ci := 8) rfl (m_X8_tryAllRows (xl X) C.2.2.2.2.2.2.2.1 N hw.2) ⟨Nat.le_of_ble_eq_true rfl, Nat.le_of_ble_eq_true rfl, Nat.le_of_ble_eq_true rfl, Nat.le_of_ble_eq_true rfl⟩ ⟨rfl, rfl⟩ hw.1 dX11_sum_37 rfl (Nat.le_of_ble_eq_true rfl) rfl (fun h6 hw => ?_)
    refine go_aload_n C dX11_sum_40 1 rfl ?_
    refine go_getA C (cfX11) (k := 6) (Nat.le_of_ble_eq_true rfl) tw1_224 rfl dX11_sum_41 hw (fun a7 hw => ?_)
    refine go_pV_l C [] vX8_columnSum tw6_126 (ci := 8) rfl (m_X8_columnSum (xl X) C.2.2.2.2.2.2.2.1 N hw.2) ⟨Nat.le_of_ble_eq_true rfl, Nat.le_of_ble_eq_true rfl, Nat.le_of_ble_eq_true rfl, Nat.le_of_ble_eq_true rfl⟩ ⟨rfl, rfl⟩ hw.1 dX11_sum_44 rfl (Nat.le_of_ble_eq_true rfl) rfl (fun v8 hw => ?_)
    exact go_xlret C dX11_sum_47 hw (Nat.le_of_ble_eq_true rfl) (Nat.le_of_ble_eq_true rfl)
  exact go_throwW C hno ex74_78 tw6_125 dX11_sum_17 dX11_sum_20 dX11_sum_21 dX11_sum_24 dX11_sum_27 ⟨Nat.le_of_ble_eq_true rfl, Nat.le_of_ble_eq_true rfl, Nat.le_of_ble_eq_true rfl, Nat.le_of_ble_eq_true rfl⟩ (Nat.le_of_ble_eq_true rfl) ⟨Nat.le_of_ble_eq_true rfl, Nat.le_of_ble_eq_true rfl⟩ hw
/-- DuelSchema.needPlace(III)LDuelSchema$Plan; -/
def w_X11_needPlace (N : Nat) (a0 : Nat) (p1 : Int32) (p2 : Int32) (p3 : Int32) (h0 : Hp) (K : Option Nat → Hp → Prop) (KX : String → Hp → Prop) : Prop :=
  w_X11_checkDuellist N p1 h0 (fun h1 =>
  cv h1 a0 11 <| w_X11_needQuery N a0 p2 h1 (fun o2 h3 =>
  nn o2 fun a4 => cv h3 a4 7 <| w_X7_hasPosition N a4 p3 h3 fun v5 =>
  br (v5 = 0) (
    KX "java/util/NoSuchElementException" h3) (
    gA h3 a0 11 5 fun a6 =>
    gA h3 a0 11 7 fun a7 =>
    gA h3 a0 11 0 fun a8 =>
    gA h3 a0 11 11 fun a9 =>
    cv h3 a9 2 <| w_X2_bansFor N a9 p1 h3 fun v10 =>
    cv h3 a6 6 <| w_X6_draw N a6 (some a7) p1 (some a8) (some a4) v10 h3 fun h11 =>
    gA h11 a0 11 7 fun a12 =>
    K (some a12) h11)) KX) KX
abbrev rmX11_needPlace : Room := { frames := 9, cells := 3, slots := 18, locals := 190 }
theorem vX11_needPlace : VI RX11 yX11_needPlace cX11_needPlace 5 (some (.object "DuelSchema$Plan")) 3 := ⟨tw6_139, tp39, tw1_1, tw6_140, by decide +kernel⟩
set_option maxHeartbeats 4000000 in
theorem m_X11_needPlace {G : Gp} (l : Launch) (hfl : l.stackTraces = false) (N : Nat) {a0 : Nat} {p1 : Int32} {p2 : Int32} {p3 : Int32} {h0 : Hp} {K : Option Nat → Hp → Prop} {KX : String → Hp → Prop} (hw : w_X11_needPlace N a0 p1 p2 p3 h0 K KX) : MX G l yX11_needPlace cX11_needPlace 5 (some (.object "DuelSchema$Plan")) rmX11_needPlace [rV (some a0), iV p1, iV p2, iV p3] h0 (QR G K) KX := by
  refine go_xmetT l hfl _ 5 _ _ rfl (by decide +kernel) (Nat.le_of_ble_eq_true rfl) [(0, rV (some a0)), (1, iV p1), (2, iV p2), (3, iV p3)] rfl (fun X hX C hno => ?_)
  subst hX
  unfold w_X11_needPlace at hw
  refine go_iload_n C dX11_needPlace_0 1 rfl ?_
  refine go_xcallS_v C hno [iV p1] vX11_checkDuellist tw6_141 (m_X11_checkDuellist (xl X) C.2.2.2.2.2.2.2.1 N hw) ⟨Nat.le_of_ble_eq_true rfl, Nat.le_of_ble_eq_true rfl, Nat.le_of_ble_eq_true rfl, Nat.le_of_ble_eq_true rfl⟩ ⟨Nat.le_of_ble_eq_true rfl, Nat.le_of_ble_eq_true rfl⟩ dX11_needPlace_1 rfl (Nat.le_of_ble_eq_true rfl) rfl (fun h1 hw => ?_)
  refine go_aload_n C dX11_needPlace_4 0 rfl ?_
  refine go_iload_n C dX11_needPlace_5 2 rfl ?_
  refine go_xcallV_q C hno [iV p2] vX11_needQuery tw5_231 (ci := 11) rfl (m_X11_needQuery (xl X) C.2.2.2.2.2.2.2.1 N hw.2) ⟨Nat.le_of_ble_eq_true rfl, Nat.le_of_ble_eq_true rfl, Nat.le_of_ble_eq_true rfl, Nat.le_of_ble_eq_true rfl⟩ ⟨Nat.le_of_ble_eq_true rfl, Nat.le_of_ble_eq_true rfl⟩ hw.1 dX11_needPlace_6 rfl (Nat.le_of_ble_eq_true rfl) rfl (fun o2 h3 hw => ?_)
  refine go_astore C [(4, rV o2), (0, rV (some a0)), (1, iV p1), (2, iV p2), (3, iV p3)] dX11_needPlace_9 (Nat.le_of_ble_eq_true rfl) rfl ?_
  refine go_aload C dX11_needPlace_11 0 rfl ?_
  refine go_iload_n C dX11_needPlace_13 4 rfl ?_
  obtain ⟨a4, e9, hw9⟩ := hw
  subst e9
  have hw := hw9
  clear hw9
  refine go_pV_i C [iV p3] vX7_hasPosition tw6_108 (ci := 7) rfl (m_X7_hasPosition (xl X) C.2.2.2.2.2.2.2.1 N hw.2) ⟨Nat.le_of_ble_eq_true rfl, Nat.le_of_ble_eq_true rfl, Nat.le_of_ble_eq_true rfl, Nat.le_of_ble_eq_true rfl⟩ ⟨rfl, rfl⟩ hw.1 dX11_needPlace_14 rfl (Nat.le_of_ble_eq_true rfl) rfl (fun v5 hw => ?_)
  refine go_if_ne C 30 dX11_needPlace_17 (by decide) hw (fun hw => ?_) (fun hw => ?_)
  · refine go_aload_n C dX11_needPlace_30 1 rfl ?_
    refine go_getA C (cfX11) (k := 5) (Nat.le_of_ble_eq_true rfl) tw1_223 rfl dX11_needPlace_31 hw (fun a6 hw => ?_)
    refine go_aload_n C dX11_needPlace_34 1 rfl ?_
    refine go_getA C (cfX11) (k := 7) (Nat.le_of_ble_eq_true rfl) tw1_225 rfl dX11_needPlace_35 hw (fun a7 hw => ?_)
    refine go_iload_n C dX11_needPlace_38 2 rfl ?_
    refine go_aload_n C dX11_needPlace_39 1 rfl ?_
    refine go_getA C (cfX11) (k := 0) (Nat.le_of_ble_eq_true rfl) tw1_218 rfl dX11_needPlace_40 hw (fun a8 hw => ?_)
    refine go_aload C dX11_needPlace_43 0 rfl ?_
    refine go_aload_n C dX11_needPlace_45 1 rfl ?_
    refine go_getA C (cfX11) (k := 11) (Nat.le_of_ble_eq_true rfl) tw1_229 rfl dX11_needPlace_46 hw (fun a9 hw => ?_)
    refine go_iload_n C dX11_needPlace_49 2 rfl ?_
    refine go_pV_i C [iV p1] vX2_bansFor tw3_66 (ci := 2) rfl (m_X2_bansFor (xl X) C.2.2.2.2.2.2.2.1 N hw.2) ⟨Nat.le_of_ble_eq_true rfl, Nat.le_of_ble_eq_true rfl, Nat.le_of_ble_eq_true rfl, Nat.le_of_ble_eq_true rfl⟩ ⟨rfl, rfl⟩ hw.1 dX11_needPlace_50 rfl (Nat.le_of_ble_eq_true rfl) rfl (fun v10 hw => ?_)
    refine go_c0V_v C [rV (some a7), iV p1, rV (some a8), rV (some a4), iV v10] vX6_draw tw3_70 (ci := 6) rfl (m_X6_draw (xl X) C.2.2.2.2.2.2.2.1 N hw.2) ⟨Nat.le_of_ble_eq_true rfl, Nat.le_of_ble_eq_true rfl, Nat.le_of_ble_eq_true rfl, Nat.le_of_ble_eq_true rfl⟩ ⟨rfl, rfl⟩ hw.1 dX11_needPlace_53 rfl (Nat.le_of_ble_eq_true rfl) rfl (fun h11 hw => ?_)
    refine go_aload_n C dX11_needPlace_56 1 rfl ?_
    refine go_getA C (cfX11) (k := 7) (Nat.le_of_ble_eq_true rfl) tw1_225 rfl dX11_needPlace_57 hw (fun a12 hw => ?_)
    exact go_xaret C dX11_needPlace_60 hw (Nat.le_of_ble_eq_true rfl) (Nat.le_of_ble_eq_true rfl)
  exact go_throwN C hno tw5_166 dX11_needPlace_20 dX11_needPlace_23 dX11_needPlace_24 dX11_needPlace_26 dX11_needPlace_29 ⟨Nat.le_of_ble_eq_true rfl, Nat.le_of_ble_eq_true rfl, Nat.le_of_ble_eq_true rfl, Nat.le_of_ble_eq_true rfl⟩ (Nat.le_of_ble_eq_true rfl) ⟨Nat.le_of_ble_eq_true rfl, Nat.le_of_ble_eq_true rfl⟩ hw
/-- DuelSchema.planned(III)I -/
def w_X11_planned (N : Nat) (a0 : Nat) (p1 : Int32) (p2 : Int32) (p3 : Int32) (h0 : Hp) (K : Int32 → Hp → Prop) (KX : String → Hp → Prop) : Prop :=
  cv h0 a0 11 <| w_X11_needPlace N a0 p1 p2 p3 h0 (fun o1 h2 =>
  nn o1 fun a3 => cv h2 a3 5 <| w_X5_positionAt N a3 p3 h2 fun v4 =>
  K v4 h2) KX
abbrev rmX11_planned : Room := { frames := 10, cells := 3, slots := 18, locals := 214 }
theorem vX11_planned : VI RX11 yX11_planned cX11_planned 4 (some .int) 3 := ⟨tw6_134, tw6_135, tw1_1, tw6_136, by decide +kernel⟩
set_option maxHeartbeats 4000000 in
theorem m_X11_planned {G : Gp} (l : Launch) (hfl : l.stackTraces = false) (N : Nat) {a0 : Nat} {p1 : Int32} {p2 : Int32} {p3 : Int32} {h0 : Hp} {K : Int32 → Hp → Prop} {KX : String → Hp → Prop} (hw : w_X11_planned N a0 p1 p2 p3 h0 K KX) : MX G l yX11_planned cX11_planned 4 (some .int) rmX11_planned [rV (some a0), iV p1, iV p2, iV p3] h0 (QI G K) KX := by
  refine go_xmetT l hfl _ 4 _ _ rfl (by decide +kernel) (Nat.le_of_ble_eq_true rfl) [(0, rV (some a0)), (1, iV p1), (2, iV p2), (3, iV p3)] rfl (fun X hX C hno => ?_)
  subst hX
  unfold w_X11_planned at hw
  refine go_aload_n C dX11_planned_0 0 rfl ?_
  refine go_iload_n C dX11_planned_1 1 rfl ?_
  refine go_iload_n C dX11_planned_2 2 rfl ?_
  refine go_iload_n C dX11_planned_3 3 rfl ?_
  refine go_xcallV_q C hno [iV p1, iV p2, iV p3] vX11_needPlace tw6_137 (ci := 11) rfl (m_X11_needPlace (xl X) C.2.2.2.2.2.2.2.1 N hw.2) ⟨Nat.le_of_ble_eq_true rfl, Nat.le_of_ble_eq_true rfl, Nat.le_of_ble_eq_true rfl, Nat.le_of_ble_eq_true rfl⟩ ⟨Nat.le_of_ble_eq_true rfl, Nat.le_of_ble_eq_true rfl⟩ hw.1 dX11_planned_4 rfl (Nat.le_of_ble_eq_true rfl) rfl (fun o1 h2 hw => ?_)
  refine go_iload_n C dX11_planned_7 3 rfl ?_
  obtain ⟨a3, e9, hw9⟩ := hw
  subst e9
  have hw := hw9
  clear hw9
  refine go_pV_i C [iV p3] vX5_positionAt tw6_145 (ci := 5) rfl (m_X5_positionAt (xl X) C.2.2.2.2.2.2.2.1 N hw.2) ⟨Nat.le_of_ble_eq_true rfl, Nat.le_of_ble_eq_true rfl, Nat.le_of_ble_eq_true rfl, Nat.le_of_ble_eq_true rfl⟩ ⟨rfl, rfl⟩ hw.1 dX11_planned_8 rfl (Nat.le_of_ble_eq_true rfl) rfl (fun v4 hw => ?_)
  exact go_xiret C dX11_planned_11 hw (Nat.le_of_ble_eq_true rfl) (Nat.le_of_ble_eq_true rfl)
/-- DuelSchema.way(III)C -/
def w_X11_way (N : Nat) (a0 : Nat) (p1 : Int32) (p2 : Int32) (p3 : Int32) (h0 : Hp) (K : Int32 → Hp → Prop) (KX : String → Hp → Prop) : Prop :=
  cv h0 a0 11 <| w_X11_needPlace N a0 p1 p2 p3 h0 (fun o1 h2 =>
  nn o1 fun a3 => cv h2 a3 5 <| w_X5_wayAt N a3 p3 h2 fun v4 =>
  ok (narrow .char (.int v4) = .int v4) <| K v4 h2) KX
abbrev rmX11_way : Room := { frames := 10, cells := 3, slots := 18, locals := 214 }
theorem vX11_way : VI RX11 yX11_way cX11_way 4 (some .char) 3 := ⟨tw6_150, tw6_151, tw1_1, tw6_152, by decide +kernel⟩
set_option maxHeartbeats 4000000 in
theorem m_X11_way {G : Gp} (l : Launch) (hfl : l.stackTraces = false) (N : Nat) {a0 : Nat} {p1 : Int32} {p2 : Int32} {p3 : Int32} {h0 : Hp} {K : Int32 → Hp → Prop} {KX : String → Hp → Prop} (hw : w_X11_way N a0 p1 p2 p3 h0 K KX) : MX G l yX11_way cX11_way 4 (some .char) rmX11_way [rV (some a0), iV p1, iV p2, iV p3] h0 (QI G K) KX := by
  refine go_xmetT l hfl _ 4 _ _ rfl (by decide +kernel) (Nat.le_of_ble_eq_true rfl) [(0, rV (some a0)), (1, iV p1), (2, iV p2), (3, iV p3)] rfl (fun X hX C hno => ?_)
  subst hX
  unfold w_X11_way at hw
  refine go_aload_n C dX11_way_0 0 rfl ?_
  refine go_iload_n C dX11_way_1 1 rfl ?_
  refine go_iload_n C dX11_way_2 2 rfl ?_
  refine go_iload_n C dX11_way_3 3 rfl ?_
  refine go_xcallV_q C hno [iV p1, iV p2, iV p3] vX11_needPlace tw6_137 (ci := 11) rfl (m_X11_needPlace (xl X) C.2.2.2.2.2.2.2.1 N hw.2) ⟨Nat.le_of_ble_eq_true rfl, Nat.le_of_ble_eq_true rfl, Nat.le_of_ble_eq_true rfl, Nat.le_of_ble_eq_true rfl⟩ ⟨Nat.le_of_ble_eq_true rfl, Nat.le_of_ble_eq_true rfl⟩ hw.1 dX11_way_4 rfl (Nat.le_of_ble_eq_true rfl) rfl (fun o1 h2 hw => ?_)
  refine go_iload_n C dX11_way_7 3 rfl ?_
  obtain ⟨a3, e9, hw9⟩ := hw
  subst e9
  have hw := hw9
  clear hw9
  refine go_pV_i C [iV p3] vX5_wayAt tw6_153 (ci := 5) rfl (m_X5_wayAt (xl X) C.2.2.2.2.2.2.2.1 N hw.2) ⟨Nat.le_of_ble_eq_true rfl, Nat.le_of_ble_eq_true rfl, Nat.le_of_ble_eq_true rfl, Nat.le_of_ble_eq_true rfl⟩ ⟨rfl, rfl⟩ hw.1 dX11_way_8 rfl (Nat.le_of_ble_eq_true rfl) rfl (fun v4 hw => ?_)
  exact go_xzret C dX11_way_11 ⟨hw.1, hw.2⟩ (Nat.le_of_ble_eq_true rfl) (Nat.le_of_ble_eq_true rfl)
/-- DuelSchema.usedIndex(III)I -/
def w_X11_usedIndex (N : Nat) (a0 : Nat) (p1 : Int32) (p2 : Int32) (p3 : Int32) (h0 : Hp) (K : Int32 → Hp → Prop) (KX : String → Hp → Prop) : Prop :=
  cv h0 a0 11 <| w_X11_needPlace N a0 p1 p2 p3 h0 (fun o1 h2 =>
  nn o1 fun a3 => cv h2 a3 5 <| w_X5_indexAt N a3 p3 h2 fun v4 =>
  K v4 h2) KX
abbrev rmX11_usedIndex : Room := { frames := 10, cells := 3, slots := 18, locals := 214 }
theorem vX11_usedIndex : VI RX11 yX11_usedIndex cX11_usedIndex 4 (some .int) 3 := ⟨tw6_158, tw6_159, tw1_1, tw6_160, by decide +kernel⟩
set_option maxHeartbeats 4000000 in
theorem m_X11_usedIndex {G : Gp} (l : Launch) (hfl : l.stackTraces = false) (N : Nat) {a0 : Nat} {p1 : Int32} {p2 : Int32} {p3 : Int32} {h0 : Hp} {K : Int32 → Hp → Prop} {KX : String → Hp → Prop} (hw : w_X11_usedIndex N a0 p1 p2 p3 h0 K KX) : MX G l yX11_usedIndex cX11_usedIndex 4 (some .int) rmX11_usedIndex [rV (some a0), iV p1, iV p2, iV p3] h0 (QI G K) KX := by
  refine go_xmetT l hfl _ 4 _ _ rfl (by decide +kernel) (Nat.le_of_ble_eq_true rfl) [(0, rV (some a0)), (1, iV p1), (2, iV p2), (3, iV p3)] rfl (fun X hX C hno => ?_)
  subst hX
  unfold w_X11_usedIndex at hw
  refine go_aload_n C dX11_usedIndex_0 0 rfl ?_
  refine go_iload_n C dX11_usedIndex_1 1 rfl ?_
  refine go_iload_n C dX11_usedIndex_2 2 rfl ?_
  refine go_iload_n C dX11_usedIndex_3 3 rfl ?_
  refine go_xcallV_q C hno [iV p1, iV p2, iV p3] vX11_needPlace tw6_137 (ci := 11) rfl (m_X11_needPlace (xl X) C.2.2.2.2.2.2.2.1 N hw.2) ⟨Nat.le_of_ble_eq_true rfl, Nat.le_of_ble_eq_true rfl, Nat.le_of_ble_eq_true rfl, Nat.le_of_ble_eq_true rfl⟩ ⟨Nat.le_of_ble_eq_true rfl, Nat.le_of_ble_eq_true rfl⟩ hw.1 dX11_usedIndex_4 rfl (Nat.le_of_ble_eq_true rfl) rfl (fun o1 h2 hw => ?_)
  refine go_iload_n C dX11_usedIndex_7 3 rfl ?_
  obtain ⟨a3, e9, hw9⟩ := hw
  subst e9
  have hw := hw9
  clear hw9
  refine go_pV_i C [iV p3] vX5_indexAt tw6_161 (ci := 5) rfl (m_X5_indexAt (xl X) C.2.2.2.2.2.2.2.1 N hw.2) ⟨Nat.le_of_ble_eq_true rfl, Nat.le_of_ble_eq_true rfl, Nat.le_of_ble_eq_true rfl, Nat.le_of_ble_eq_true rfl⟩ ⟨rfl, rfl⟩ hw.1 dX11_usedIndex_8 rfl (Nat.le_of_ble_eq_true rfl) rfl (fun v4 hw => ?_)
  exact go_xiret C dX11_usedIndex_11 hw (Nat.le_of_ble_eq_true rfl) (Nat.le_of_ble_eq_true rfl)
/-- DuelSchema.estimate(II)J -/
def w_X11_estimate (N : Nat) (a0 : Nat) (p1 : Int32) (p2 : Int32) (h0 : Hp) (K : Int64 → Hp → Prop) (KX : String → Hp → Prop) : Prop :=
  w_X11_checkDuellist N p1 h0 (fun h1 =>
  gA h1 a0 11 5 fun a2 =>
  gA h1 a0 11 7 fun a3 =>
  gA h1 a0 11 0 fun a4 =>
  cv h1 a0 11 <| w_X11_needPositions N a0 p2 h1 (fun o5 h6 =>
  gA h6 a0 11 11 fun a7 =>
  cv h6 a7 2 <| w_X2_bansFor N a7 p1 h6 fun v8 =>
  cv h6 a2 6 <| w_X6_draw N a2 (some a3) p1 (some a4) o5 v8 h6 fun h9 =>
  gA h9 a0 11 7 fun a10 =>
  cv h9 a10 5 <| w_X5_guess N a10  h9 fun v11 =>
  K v11 h9) KX) KX
abbrev rmX11_estimate : Room := { frames := 10, cells := 3, slots := 18, locals := 190 }
theorem vX11_estimate : VI RX11 yX11_estimate cX11_estimate 3 (some .long) 2 := ⟨tw6_166, tw6_167, tw1_1, tw6_168, by decide +kernel⟩
set_option maxHeartbeats 4000000 in
theorem m_X11_estimate {G : Gp} (l : Launch) (hfl : l.stackTraces = false) (N : Nat) {a0 : Nat} {p1 : Int32} {p2 : Int32} {h0 : Hp} {K : Int64 → Hp → Prop} {KX : String → Hp → Prop} (hw : w_X11_estimate N a0 p1 p2 h0 K KX) : MX G l yX11_estimate cX11_estimate 3 (some .long) rmX11_estimate [rV (some a0), iV p1, iV p2] h0 (QL G K) KX := by
  refine go_xmetT l hfl _ 3 _ _ rfl (by decide +kernel) (Nat.le_of_ble_eq_true rfl) [(0, rV (some a0)), (1, iV p1), (2, iV p2)] rfl (fun X hX C hno => ?_)
  subst hX
  unfold w_X11_estimate at hw
  refine go_iload_n C dX11_estimate_0 1 rfl ?_
  refine go_xcallS_v C hno [iV p1] vX11_checkDuellist tw6_141 (m_X11_checkDuellist (xl X) C.2.2.2.2.2.2.2.1 N hw) ⟨Nat.le_of_ble_eq_true rfl, Nat.le_of_ble_eq_true rfl, Nat.le_of_ble_eq_true rfl, Nat.le_of_ble_eq_true rfl⟩ ⟨Nat.le_of_ble_eq_true rfl, Nat.le_of_ble_eq_true rfl⟩ dX11_estimate_1 rfl (Nat.le_of_ble_eq_true rfl) rfl (fun h1 hw => ?_)
  refine go_aload_n C dX11_estimate_4 0 rfl ?_
  refine go_getA C (cfX11) (k := 5) (Nat.le_of_ble_eq_true rfl) tw1_223 rfl dX11_estimate_5 hw (fun a2 hw => ?_)
  refine go_aload_n C dX11_estimate_8 0 rfl ?_
  refine go_getA C (cfX11) (k := 7) (Nat.le_of_ble_eq_true rfl) tw1_225 rfl dX11_estimate_9 hw (fun a3 hw => ?_)
  refine go_iload_n C dX11_estimate_12 1 rfl ?_
  refine go_aload_n C dX11_estimate_13 0 rfl ?_
  refine go_getA C (cfX11) (k := 0) (Nat.le_of_ble_eq_true rfl) tw1_218 rfl dX11_estimate_14 hw (fun a4 hw => ?_)
  refine go_aload_n C dX11_estimate_17 0 rfl ?_
  refine go_iload_n C dX11_estimate_18 2 rfl ?_
  refine go_xcallV_q C hno [iV p2] vX11_needPositions tw6_81 (ci := 11) rfl (m_X11_needPositions (xl X) C.2.2.2.2.2.2.2.1 N hw.2) ⟨Nat.le_of_ble_eq_true rfl, Nat.le_of_ble_eq_true rfl, Nat.le_of_ble_eq_true rfl, Nat.le_of_ble_eq_true rfl⟩ ⟨Nat.le_of_ble_eq_true rfl, Nat.le_of_ble_eq_true rfl⟩ hw.1 dX11_estimate_19 rfl (Nat.le_of_ble_eq_true rfl) rfl (fun o5 h6 hw => ?_)
  refine go_aload_n C dX11_estimate_22 0 rfl ?_
  refine go_getA C (cfX11) (k := 11) (Nat.le_of_ble_eq_true rfl) tw1_229 rfl dX11_estimate_23 hw (fun a7 hw => ?_)
  refine go_iload_n C dX11_estimate_26 1 rfl ?_
  refine go_pV_i C [iV p1] vX2_bansFor tw3_66 (ci := 2) rfl (m_X2_bansFor (xl X) C.2.2.2.2.2.2.2.1 N hw.2) ⟨Nat.le_of_ble_eq_true rfl, Nat.le_of_ble_eq_true rfl, Nat.le_of_ble_eq_true rfl, Nat.le_of_ble_eq_true rfl⟩ ⟨rfl, rfl⟩ hw.1 dX11_estimate_27 rfl (Nat.le_of_ble_eq_true rfl) rfl (fun v8 hw => ?_)
  refine go_c0V_v C [rV (some a3), iV p1, rV (some a4), rV o5, iV v8] vX6_draw tw3_70 (ci := 6) rfl (m_X6_draw (xl X) C.2.2.2.2.2.2.2.1 N hw.2) ⟨Nat.le_of_ble_eq_true rfl, Nat.le_of_ble_eq_true rfl, Nat.le_of_ble_eq_true rfl, Nat.le_of_ble_eq_true rfl⟩ ⟨rfl, rfl⟩ hw.1 dX11_estimate_30 rfl (Nat.le_of_ble_eq_true rfl) rfl (fun h9 hw => ?_)
  refine go_aload_n C dX11_estimate_33 0 rfl ?_
  refine go_getA C (cfX11) (k := 7) (Nat.le_of_ble_eq_true rfl) tw1_225 rfl dX11_estimate_34 hw (fun a10 hw => ?_)
  refine go_pV_l C [] vX5_guess tw6_169 (ci := 5) rfl (m_X5_guess (xl X) C.2.2.2.2.2.2.2.1 N hw.2) ⟨Nat.le_of_ble_eq_true rfl, Nat.le_of_ble_eq_true rfl, Nat.le_of_ble_eq_true rfl, Nat.le_of_ble_eq_true rfl⟩ ⟨rfl, rfl⟩ hw.1 dX11_estimate_37 rfl (Nat.le_of_ble_eq_true rfl) rfl (fun v11 hw => ?_)
  exact go_xlret C dX11_estimate_40 hw (Nat.le_of_ble_eq_true rfl) (Nat.le_of_ble_eq_true rfl)
/-- DuelSchema.emptyTrial()LDuelSchema$Cache; -/
def w_X11_emptyTrial (N : Nat) (a0 : Nat) (h0 : Hp) (K : Option Nat → Hp → Prop) : Prop :=
  gA h0 a0 11 4 fun a1 =>
  cv h0 a1 0 <| w_X0_clear N a1  h0 fun h2 =>
  gA h2 a0 11 4 fun a3 =>
  gA h2 a0 11 3 fun a4 =>
  cv h2 a4 0 <| w_X0_frameCount N a4  h2 fun v5 =>
  cv h2 a3 0 <| w_X0_setFrames N a3 v5 h2 fun h6 =>
  gA h6 a0 11 4 fun a7 =>
  K (some a7) h6
abbrev rmX11_emptyTrial : Room := { frames := 3, cells := 0, slots := 0, locals := 81 }
theorem vX11_emptyTrial : VI RX11 yX11_emptyTrial cX11_emptyTrial 1 (some (.object "DuelSchema$Cache")) 0 := ⟨tw3_218, tp29, tw1_1, tw3_219, by decide +kernel⟩
set_option maxHeartbeats 4000000 in
theorem m_X11_emptyTrial {G : Gp} (l : Launch) (hfl : l.stackTraces = false) (N : Nat) {a0 : Nat} {h0 : Hp} {K : Option Nat → Hp → Prop} (hw : w_X11_emptyTrial N a0 h0 K) : MT G l yX11_emptyTrial cX11_emptyTrial 1 (some (.object "DuelSchema$Cache")) rmX11_emptyTrial [rV (some a0)] h0 (QR G K) := by
  refine go_metT l hfl _ 1 _ _ rfl (by decide +kernel) (Nat.le_of_ble_eq_true rfl) [(0, rV (some a0))] rfl (fun X hX C hn => ?_)
  subst hX
  unfold w_X11_emptyTrial at hw
  refine go_aload_n C dX11_emptyTrial_0 0 rfl ?_
  refine go_getA C (cfX11) (k := 4) (Nat.le_of_ble_eq_true rfl) tw1_222 rfl dX11_emptyTrial_1 hw (fun a1 hw => ?_)
  refine go_c0V_v C [] vX0_clear tw2_27 (ci := 0) rfl (m_X0_clear (xl X) C.2.2.2.2.2.2.2.1 N hw.2) ⟨Nat.le_of_ble_eq_true rfl, Nat.le_of_ble_eq_true rfl, Nat.le_of_ble_eq_true rfl, Nat.le_of_ble_eq_true rfl⟩ ⟨rfl, rfl⟩ hw.1 dX11_emptyTrial_4 rfl (Nat.le_of_ble_eq_true rfl) rfl (fun h2 hw => ?_)
  refine go_aload_n C dX11_emptyTrial_7 0 rfl ?_
  refine go_getA C (cfX11) (k := 4) (Nat.le_of_ble_eq_true rfl) tw1_222 rfl dX11_emptyTrial_8 hw (fun a3 hw => ?_)
  refine go_aload_n C dX11_emptyTrial_11 0 rfl ?_
  refine go_getA C (cfX11) (k := 3) (Nat.le_of_ble_eq_true rfl) tw1_221 rfl dX11_emptyTrial_12 hw (fun a4 hw => ?_)
  refine go_pV_i C [] vX0_frameCount tw3_220 (ci := 0) rfl (m_X0_frameCount (xl X) C.2.2.2.2.2.2.2.1 N hw.2) ⟨Nat.le_of_ble_eq_true rfl, Nat.le_of_ble_eq_true rfl, Nat.le_of_ble_eq_true rfl, Nat.le_of_ble_eq_true rfl⟩ ⟨rfl, rfl⟩ hw.1 dX11_emptyTrial_15 rfl (Nat.le_of_ble_eq_true rfl) rfl (fun v5 hw => ?_)
  refine go_c0V_v C [iV v5] vX0_setFrames tw3_224 (ci := 0) rfl (m_X0_setFrames (xl X) C.2.2.2.2.2.2.2.1 N hw.2) ⟨Nat.le_of_ble_eq_true rfl, Nat.le_of_ble_eq_true rfl, Nat.le_of_ble_eq_true rfl, Nat.le_of_ble_eq_true rfl⟩ ⟨rfl, rfl⟩ hw.1 dX11_emptyTrial_18 rfl (Nat.le_of_ble_eq_true rfl) rfl (fun h6 hw => ?_)
  refine go_aload_n C dX11_emptyTrial_21 0 rfl ?_
  refine go_getA C (cfX11) (k := 4) (Nat.le_of_ble_eq_true rfl) tw1_222 rfl dX11_emptyTrial_22 hw (fun a7 hw => ?_)
  exact go_aret C dX11_emptyTrial_25 hw (Nat.le_of_ble_eq_true rfl) (Nat.le_of_ble_eq_true rfl)
/-- DuelSchema.runCold(ILDuelSchema$Query;)V -/
def w_X11_runCold (N : Nat) (a0 : Nat) (p1 : Int32) (p2 : Option Nat) (h0 : Hp) (K : Hp → Prop) : Prop :=
  gA h0 a0 11 5 fun a1 =>
  gA h0 a0 11 7 fun a2 =>
  gA h0 a0 11 0 fun a3 =>
  gA h0 a0 11 11 fun a4 =>
  cv h0 a4 2 <| w_X2_bansFor N a4 p1 h0 fun v5 =>
  cv h0 a1 6 <| w_X6_draw N a1 (some a2) p1 (some a3) p2 v5 h0 fun h6 =>
  gA h6 a0 11 6 fun a7 =>
  gA h6 a0 11 0 fun a8 =>
  gA h6 a0 11 7 fun a9 =>
  cv h6 a0 11 <| w_X11_emptyTrial N a0  h6 fun o10 h11 =>
  cv h11 a7 8 <| w_X8_follow N a7 (some a8) p2 (some a9) o10 h11 fun v12 h13 =>
  K h13
abbrev rmX11_runCold : Room := { frames := 42, cells := 0, slots := 0, locals := 1347 }
theorem vX11_runCold : VI RX11 yX11_runCold cX11_runCold 3 none 2 := ⟨tw6_179, tp40, tw1_1, tw6_180, by decide +kernel⟩
set_option maxHeartbeats 4000000 in
theorem m_X11_runCold {G : Gp} (l : Launch) (hfl : l.stackTraces = false) (N : Nat) {a0 : Nat} {p1 : Int32} {p2 : Option Nat} {h0 : Hp} {K : Hp → Prop} (hw : w_X11_runCold N a0 p1 p2 h0 K) : MT G l yX11_runCold cX11_runCold 3 none rmX11_runCold [rV (some a0), iV p1, rV p2] h0 (QV G K) := by
  refine go_metT l hfl _ 3 _ _ rfl (by decide +kernel) (Nat.le_of_ble_eq_true rfl) [(0, rV (some a0)), (1, iV p1), (2, rV p2)] rfl (fun X hX C hn => ?_)
  subst hX
  unfold w_X11_runCold at hw
  refine go_aload_n C dX11_runCold_0 0 rfl ?_
  refine go_getA C (cfX11) (k := 5) (Nat.le_of_ble_eq_true rfl) tw1_223 rfl dX11_runCold_1 hw (fun a1 hw => ?_)
  refine go_aload_n C dX11_runCold_4 0 rfl ?_
  refine go_getA C (cfX11) (k := 7) (Nat.le_of_ble_eq_true rfl) tw1_225 rfl dX11_runCold_5 hw (fun a2 hw => ?_)
  refine go_iload_n C dX11_runCold_8 1 rfl ?_
  refine go_aload_n C dX11_runCold_9 0 rfl ?_
  refine go_getA C (cfX11) (k := 0) (Nat.le_of_ble_eq_true rfl) tw1_218 rfl dX11_runCold_10 hw (fun a3 hw => ?_)
  refine go_aload_n C dX11_runCold_13 2 rfl ?_
  refine go_aload_n C dX11_runCold_14 0 rfl ?_
  refine go_getA C (cfX11) (k := 11) (Nat.le_of_ble_eq_true rfl) tw1_229 rfl dX11_runCold_15 hw (fun a4 hw => ?_)
  refine go_iload_n C dX11_runCold_18 1 rfl ?_
  refine go_pV_i C [iV p1] vX2_bansFor tw3_66 (ci := 2) rfl (m_X2_bansFor (xl X) C.2.2.2.2.2.2.2.1 N hw.2) ⟨Nat.le_of_ble_eq_true rfl, Nat.le_of_ble_eq_true rfl, Nat.le_of_ble_eq_true rfl, Nat.le_of_ble_eq_true rfl⟩ ⟨rfl, rfl⟩ hw.1 dX11_runCold_19 rfl (Nat.le_of_ble_eq_true rfl) rfl (fun v5 hw => ?_)
  refine go_c0V_v C [rV (some a2), iV p1, rV (some a3), rV p2, iV v5] vX6_draw tw3_70 (ci := 6) rfl (m_X6_draw (xl X) C.2.2.2.2.2.2.2.1 N hw.2) ⟨Nat.le_of_ble_eq_true rfl, Nat.le_of_ble_eq_true rfl, Nat.le_of_ble_eq_true rfl, Nat.le_of_ble_eq_true rfl⟩ ⟨rfl, rfl⟩ hw.1 dX11_runCold_22 rfl (Nat.le_of_ble_eq_true rfl) rfl (fun h6 hw => ?_)
  refine go_aload_n C dX11_runCold_25 0 rfl ?_
  refine go_getA C (cfX11) (k := 6) (Nat.le_of_ble_eq_true rfl) tw1_224 rfl dX11_runCold_26 hw (fun a7 hw => ?_)
  refine go_aload_n C dX11_runCold_29 0 rfl ?_
  refine go_getA C (cfX11) (k := 0) (Nat.le_of_ble_eq_true rfl) tw1_218 rfl dX11_runCold_30 hw (fun a8 hw => ?_)
  refine go_aload_n C dX11_runCold_33 2 rfl ?_
  refine go_aload_n C dX11_runCold_34 0 rfl ?_
  refine go_getA C (cfX11) (k := 7) (Nat.le_of_ble_eq_true rfl) tw1_225 rfl dX11_runCold_35 hw (fun a9 hw => ?_)
  refine go_aload_n C dX11_runCold_38 0 rfl ?_
  refine go_c0V_q C [] vX11_emptyTrial tw3_216 (ci := 11) rfl (m_X11_emptyTrial (xl X) C.2.2.2.2.2.2.2.1 N hw.2) ⟨Nat.le_of_ble_eq_true rfl, Nat.le_of_ble_eq_true rfl, Nat.le_of_ble_eq_true rfl, Nat.le_of_ble_eq_true rfl⟩ ⟨rfl, rfl⟩ hw.1 dX11_runCold_39 rfl (Nat.le_of_ble_eq_true rfl) rfl (fun o10 h11 hw => ?_)
  refine go_c0V_i C [rV (some a8), rV p2, rV (some a9), rV o10] vX8_follow tw3_228 (ci := 8) rfl (m_X8_follow (xl X) C.2.2.2.2.2.2.2.1 N hw.2) ⟨Nat.le_of_ble_eq_true rfl, Nat.le_of_ble_eq_true rfl, Nat.le_of_ble_eq_true rfl, Nat.le_of_ble_eq_true rfl⟩ ⟨rfl, rfl⟩ hw.1 dX11_runCold_42 rfl (Nat.le_of_ble_eq_true rfl) rfl (fun v12 h13 hw => ?_)
  refine go_pop C _ dX11_runCold_45 rfl ?_
  exact go_vret C dX11_runCold_46 hw (Nat.le_of_ble_eq_true rfl) (Nat.le_of_ble_eq_true rfl)
/-- DuelSchema.cold(II)I -/
def w_X11_cold (N : Nat) (a0 : Nat) (p1 : Int32) (p2 : Int32) (h0 : Hp) (K : Int32 → Hp → Prop) (KX : String → Hp → Prop) : Prop :=
  w_X11_checkDuellist N p1 h0 (fun h1 =>
  cv h1 a0 11 <| w_X11_needPositions N a0 p2 h1 (fun o2 h3 =>
  cv h3 a0 11 <| w_X11_runCold N a0 p1 o2 h3 fun h4 =>
  gA h4 a0 11 6 fun a5 =>
  cv h4 a5 8 <| w_X8_missCount N a5  h4 fun v6 =>
  K v6 h4) KX) KX
abbrev rmX11_cold : Room := { frames := 43, cells := 3, slots := 18, locals := 1369 }
theorem vX11_cold : VI RX11 yX11_cold cX11_cold 3 (some .int) 2 := ⟨tw6_174, tw6_175, tw1_1, tw6_176, by decide +kernel⟩
set_option maxHeartbeats 4000000 in
theorem m_X11_cold {G : Gp} (l : Launch) (hfl : l.stackTraces = false) (N : Nat) {a0 : Nat} {p1 : Int32} {p2 : Int32} {h0 : Hp} {K : Int32 → Hp → Prop} {KX : String → Hp → Prop} (hw : w_X11_cold N a0 p1 p2 h0 K KX) : MX G l yX11_cold cX11_cold 3 (some .int) rmX11_cold [rV (some a0), iV p1, iV p2] h0 (QI G K) KX := by
  refine go_xmetT l hfl _ 3 _ _ rfl (by decide +kernel) (Nat.le_of_ble_eq_true rfl) [(0, rV (some a0)), (1, iV p1), (2, iV p2)] rfl (fun X hX C hno => ?_)
  subst hX
  unfold w_X11_cold at hw
  refine go_iload_n C dX11_cold_0 1 rfl ?_
  refine go_xcallS_v C hno [iV p1] vX11_checkDuellist tw6_141 (m_X11_checkDuellist (xl X) C.2.2.2.2.2.2.2.1 N hw) ⟨Nat.le_of_ble_eq_true rfl, Nat.le_of_ble_eq_true rfl, Nat.le_of_ble_eq_true rfl, Nat.le_of_ble_eq_true rfl⟩ ⟨Nat.le_of_ble_eq_true rfl, Nat.le_of_ble_eq_true rfl⟩ dX11_cold_1 rfl (Nat.le_of_ble_eq_true rfl) rfl (fun h1 hw => ?_)
  refine go_aload_n C dX11_cold_4 0 rfl ?_
  refine go_iload_n C dX11_cold_5 1 rfl ?_
  refine go_aload_n C dX11_cold_6 0 rfl ?_
  refine go_iload_n C dX11_cold_7 2 rfl ?_
  refine go_xcallV_q C hno [iV p2] vX11_needPositions tw6_81 (ci := 11) rfl (m_X11_needPositions (xl X) C.2.2.2.2.2.2.2.1 N hw.2) ⟨Nat.le_of_ble_eq_true rfl, Nat.le_of_ble_eq_true rfl, Nat.le_of_ble_eq_true rfl, Nat.le_of_ble_eq_true rfl⟩ ⟨Nat.le_of_ble_eq_true rfl, Nat.le_of_ble_eq_true rfl⟩ hw.1 dX11_cold_8 rfl (Nat.le_of_ble_eq_true rfl) rfl (fun o2 h3 hw => ?_)
  refine go_c0V_v C [iV p1, rV o2] vX11_runCold tw6_177 (ci := 11) rfl (m_X11_runCold (xl X) C.2.2.2.2.2.2.2.1 N hw.2) ⟨Nat.le_of_ble_eq_true rfl, Nat.le_of_ble_eq_true rfl, Nat.le_of_ble_eq_true rfl, Nat.le_of_ble_eq_true rfl⟩ ⟨rfl, rfl⟩ hw.1 dX11_cold_11 rfl (Nat.le_of_ble_eq_true rfl) rfl (fun h4 hw => ?_)
  refine go_aload_n C dX11_cold_14 0 rfl ?_
  refine go_getA C (cfX11) (k := 6) (Nat.le_of_ble_eq_true rfl) tw1_224 rfl dX11_cold_15 hw (fun a5 hw => ?_)
  refine go_pV_i C [] vX8_missCount tw3_232 (ci := 8) rfl (m_X8_missCount (xl X) C.2.2.2.2.2.2.2.1 N hw.2) ⟨Nat.le_of_ble_eq_true rfl, Nat.le_of_ble_eq_true rfl, Nat.le_of_ble_eq_true rfl, Nat.le_of_ble_eq_true rfl⟩ ⟨rfl, rfl⟩ hw.1 dX11_cold_18 rfl (Nat.le_of_ble_eq_true rfl) rfl (fun v6 hw => ?_)
  exact go_xiret C dX11_cold_21 hw (Nat.le_of_ble_eq_true rfl) (Nat.le_of_ble_eq_true rfl)
/-- DuelSchema.reads(II)I -/
def w_X11_reads (N : Nat) (a0 : Nat) (p1 : Int32) (p2 : Int32) (h0 : Hp) (K : Int32 → Hp → Prop) (KX : String → Hp → Prop) : Prop :=
  w_X11_checkDuellist N p1 h0 (fun h1 =>
  cv h1 a0 11 <| w_X11_needPositions N a0 p2 h1 (fun o2 h3 =>
  cv h3 a0 11 <| w_X11_runCold N a0 p1 o2 h3 fun h4 =>
  gA h4 a0 11 6 fun a5 =>
  cv h4 a5 8 <| w_X8_readCount N a5  h4 fun v6 =>
  K v6 h4) KX) KX
abbrev rmX11_reads : Room := { frames := 43, cells := 3, slots := 18, locals := 1369 }
theorem vX11_reads : VI RX11 yX11_reads cX11_reads 3 (some .int) 2 := ⟨tw6_185, tw6_186, tw1_1, tw6_187, by decide +kernel⟩
set_option maxHeartbeats 4000000 in
theorem m_X11_reads {G : Gp} (l : Launch) (hfl : l.stackTraces = false) (N : Nat) {a0 : Nat} {p1 : Int32} {p2 : Int32} {h0 : Hp} {K : Int32 → Hp → Prop} {KX : String → Hp → Prop} (hw : w_X11_reads N a0 p1 p2 h0 K KX) : MX G l yX11_reads cX11_reads 3 (some .int) rmX11_reads [rV (some a0), iV p1, iV p2] h0 (QI G K) KX := by
  refine go_xmetT l hfl _ 3 _ _ rfl (by decide +kernel) (Nat.le_of_ble_eq_true rfl) [(0, rV (some a0)), (1, iV p1), (2, iV p2)] rfl (fun X hX C hno => ?_)
  subst hX
  unfold w_X11_reads at hw
  refine go_iload_n C dX11_reads_0 1 rfl ?_
  refine go_xcallS_v C hno [iV p1] vX11_checkDuellist tw6_141 (m_X11_checkDuellist (xl X) C.2.2.2.2.2.2.2.1 N hw) ⟨Nat.le_of_ble_eq_true rfl, Nat.le_of_ble_eq_true rfl, Nat.le_of_ble_eq_true rfl, Nat.le_of_ble_eq_true rfl⟩ ⟨Nat.le_of_ble_eq_true rfl, Nat.le_of_ble_eq_true rfl⟩ dX11_reads_1 rfl (Nat.le_of_ble_eq_true rfl) rfl (fun h1 hw => ?_)
  refine go_aload_n C dX11_reads_4 0 rfl ?_
  refine go_iload_n C dX11_reads_5 1 rfl ?_
  refine go_aload_n C dX11_reads_6 0 rfl ?_
  refine go_iload_n C dX11_reads_7 2 rfl ?_
  refine go_xcallV_q C hno [iV p2] vX11_needPositions tw6_81 (ci := 11) rfl (m_X11_needPositions (xl X) C.2.2.2.2.2.2.2.1 N hw.2) ⟨Nat.le_of_ble_eq_true rfl, Nat.le_of_ble_eq_true rfl, Nat.le_of_ble_eq_true rfl, Nat.le_of_ble_eq_true rfl⟩ ⟨Nat.le_of_ble_eq_true rfl, Nat.le_of_ble_eq_true rfl⟩ hw.1 dX11_reads_8 rfl (Nat.le_of_ble_eq_true rfl) rfl (fun o2 h3 hw => ?_)
  refine go_c0V_v C [iV p1, rV o2] vX11_runCold tw6_177 (ci := 11) rfl (m_X11_runCold (xl X) C.2.2.2.2.2.2.2.1 N hw.2) ⟨Nat.le_of_ble_eq_true rfl, Nat.le_of_ble_eq_true rfl, Nat.le_of_ble_eq_true rfl, Nat.le_of_ble_eq_true rfl⟩ ⟨rfl, rfl⟩ hw.1 dX11_reads_11 rfl (Nat.le_of_ble_eq_true rfl) rfl (fun h4 hw => ?_)
  refine go_aload_n C dX11_reads_14 0 rfl ?_
  refine go_getA C (cfX11) (k := 6) (Nat.le_of_ble_eq_true rfl) tw1_224 rfl dX11_reads_15 hw (fun a5 hw => ?_)
  refine go_pV_i C [] vX8_readCount tw3_236 (ci := 8) rfl (m_X8_readCount (xl X) C.2.2.2.2.2.2.2.1 N hw.2) ⟨Nat.le_of_ble_eq_true rfl, Nat.le_of_ble_eq_true rfl, Nat.le_of_ble_eq_true rfl, Nat.le_of_ble_eq_true rfl⟩ ⟨rfl, rfl⟩ hw.1 dX11_reads_18 rfl (Nat.le_of_ble_eq_true rfl) rfl (fun v6 hw => ?_)
  exact go_xiret C dX11_reads_21 hw (Nat.le_of_ble_eq_true rfl) (Nat.le_of_ble_eq_true rfl)
/-- DuelSchema.ban(II)I -/
def w_X11_ban (N : Nat) (a0 : Nat) (p1 : Int32) (p2 : Int32) (h0 : Hp) (K : Int32 → Hp → Prop) (KX : String → Hp → Prop) : Prop :=
  w_X11_checkDuellist N p1 h0 (fun h1 =>
  cv h1 a0 11 <| w_X11_needIndex N a0 p2 h1 (fun o2 h3 =>
  gA h3 a0 11 11 fun a4 =>
  cv h3 a4 2 <| w_X2_bansFor N a4 (1 - p1) h3 fun v5 =>
  w_X11_isIn N v5 p2 h3 fun v6 =>
  br (v6 = 0) (
    gA h3 a0 11 11 fun a7 =>
    cv h3 a7 2 <| w_X2_bansFor N a7 (1 - p1) h3 fun v8 =>
    w_J6_bitCount_0f7a4 N v8 h3 fun v9 =>
    br (v9 < 2) (
      gA h3 a0 11 11 fun a10 =>
      cv h3 a10 2 <| w_X2_purseOf N a10 p1 h3 fun v11 =>
      br (2 ≤ v11) (
        gA h3 a0 11 11 fun a12 =>
        cv h3 a12 2 <| w_X2_addBan N a12 (1 - p1) p2 h3 fun h13 =>
        gA h13 a0 11 11 fun a14 =>
        cv h13 a14 2 <| w_X2_give N a14 p1 (-2) h13 fun h15 =>
        gA h15 a0 11 11 fun a16 =>
        cv h15 a16 2 <| w_X2_purseOf N a16 p1 h15 fun v17 =>
        K v17 h15) (
        KX "java/lang/IllegalStateException" h3)) (
      KX "java/lang/UnsupportedOperationException" h3)) (
    KX "java/lang/UnsupportedOperationException" h3)) KX) KX
abbrev rmX11_ban : Room := { frames := 9, cells := 3, slots := 18, locals := 162 }
theorem vX11_ban : VI RX11 yX11_ban cX11_ban 4 (some .int) 2 := ⟨tw6_192, tw6_193, tw1_1, tw6_194, by decide +kernel⟩
set_option maxHeartbeats 4000000 in
theorem m_X11_ban {G : Gp} (l : Launch) (hfl : l.stackTraces = false) (N : Nat) {a0 : Nat} {p1 : Int32} {p2 : Int32} {h0 : Hp} {K : Int32 → Hp → Prop} {KX : String → Hp → Prop} (hw : w_X11_ban N a0 p1 p2 h0 K KX) : MX G l yX11_ban cX11_ban 4 (some .int) rmX11_ban [rV (some a0), iV p1, iV p2] h0 (QI G K) KX := by
  refine go_xmetT l hfl _ 4 _ _ rfl (by decide +kernel) (Nat.le_of_ble_eq_true rfl) [(0, rV (some a0)), (1, iV p1), (2, iV p2)] rfl (fun X hX C hno => ?_)
  subst hX
  unfold w_X11_ban at hw
  refine go_iload_n C dX11_ban_0 1 rfl ?_
  refine go_xcallS_v C hno [iV p1] vX11_checkDuellist tw6_141 (m_X11_checkDuellist (xl X) C.2.2.2.2.2.2.2.1 N hw) ⟨Nat.le_of_ble_eq_true rfl, Nat.le_of_ble_eq_true rfl, Nat.le_of_ble_eq_true rfl, Nat.le_of_ble_eq_true rfl⟩ ⟨Nat.le_of_ble_eq_true rfl, Nat.le_of_ble_eq_true rfl⟩ dX11_ban_1 rfl (Nat.le_of_ble_eq_true rfl) rfl (fun h1 hw => ?_)
  refine go_aload_n C dX11_ban_4 0 rfl ?_
  refine go_iload_n C dX11_ban_5 2 rfl ?_
  refine go_xcallV_q C hno [iV p2] vX11_needIndex tw5_152 (ci := 11) rfl (m_X11_needIndex (xl X) C.2.2.2.2.2.2.2.1 N hw.2) ⟨Nat.le_of_ble_eq_true rfl, Nat.le_of_ble_eq_true rfl, Nat.le_of_ble_eq_true rfl, Nat.le_of_ble_eq_true rfl⟩ ⟨Nat.le_of_ble_eq_true rfl, Nat.le_of_ble_eq_true rfl⟩ hw.1 dX11_ban_6 rfl (Nat.le_of_ble_eq_true rfl) rfl (fun o2 h3 hw => ?_)
  refine go_pop C _ dX11_ban_9 rfl ?_
  refine go_iconst C 1 dX11_ban_10 kc_i1 ?_
  refine go_iload_n C dX11_ban_11 1 rfl ?_
  refine go_isub C dX11_ban_12 ?_
  refine go_istore_n C [(3, iV (1 - p1)), (0, rV (some a0)), (1, iV p1), (2, iV p2)] dX11_ban_13 (Nat.le_of_ble_eq_true rfl) rfl ?_
  refine go_aload_n C dX11_ban_14 1 rfl ?_
  refine go_getA C (cfX11) (k := 11) (Nat.le_of_ble_eq_true rfl) tw1_229 rfl dX11_ban_15 hw (fun a4 hw => ?_)
  refine go_iload_n C dX11_ban_18 0 rfl ?_
  refine go_pV_i C [iV (1 - p1)] vX2_bansFor tw3_66 (ci := 2) rfl (m_X2_bansFor (xl X) C.2.2.2.2.2.2.2.1 N hw.2) ⟨Nat.le_of_ble_eq_true rfl, Nat.le_of_ble_eq_true rfl, Nat.le_of_ble_eq_true rfl, Nat.le_of_ble_eq_true rfl⟩ ⟨rfl, rfl⟩ hw.1 dX11_ban_19 rfl (Nat.le_of_ble_eq_true rfl) rfl (fun v5 hw => ?_)
  refine go_iload_n C dX11_ban_22 3 rfl ?_
  refine go_pS_i C [iV v5, iV p2] vX11_isIn tw6_195 (m_X11_isIn (xl X) C.2.2.2.2.2.2.2.1 N hw) ⟨Nat.le_of_ble_eq_true rfl, Nat.le_of_ble_eq_true rfl, Nat.le_of_ble_eq_true rfl, Nat.le_of_ble_eq_true rfl⟩ ⟨rfl, rfl⟩ dX11_ban_23 rfl (Nat.le_of_ble_eq_true rfl) rfl (fun v6 hw => ?_)
  refine go_if_ne C 44 dX11_ban_26 (by decide) hw (fun hw => ?_) (fun hw => ?_)
  · exact go_throwW C hno ex323_327 tw6_202 dX11_ban_44 dX11_ban_47 dX11_ban_48 dX11_ban_51 dX11_ban_54 ⟨Nat.le_of_ble_eq_true rfl, Nat.le_of_ble_eq_true rfl, Nat.le_of_ble_eq_true rfl, Nat.le_of_ble_eq_true rfl⟩ (Nat.le_of_ble_eq_true rfl) ⟨Nat.le_of_ble_eq_true rfl, Nat.le_of_ble_eq_true rfl⟩ hw
  refine go_aload_n C dX11_ban_29 1 rfl ?_
  refine go_getA C (cfX11) (k := 11) (Nat.le_of_ble_eq_true rfl) tw1_229 rfl dX11_ban_30 hw (fun a7 hw => ?_)
  refine go_iload_n C dX11_ban_33 0 rfl ?_
  refine go_pV_i C [iV (1 - p1)] vX2_bansFor tw3_66 (ci := 2) rfl (m_X2_bansFor (xl X) C.2.2.2.2.2.2.2.1 N hw.2) ⟨Nat.le_of_ble_eq_true rfl, Nat.le_of_ble_eq_true rfl, Nat.le_of_ble_eq_true rfl, Nat.le_of_ble_eq_true rfl⟩ ⟨rfl, rfl⟩ hw.1 dX11_ban_34 rfl (Nat.le_of_ble_eq_true rfl) rfl (fun v8 hw => ?_)
  refine go_pS_i C [iV v8] vJ6_bitCount_0f7a4 tw6_196 (m_J6_bitCount_0f7a4 (xl X) C.2.2.2.2.2.2.2.1 N hw) ⟨Nat.le_of_ble_eq_true rfl, Nat.le_of_ble_eq_true rfl, Nat.le_of_ble_eq_true rfl, Nat.le_of_ble_eq_true rfl⟩ ⟨rfl, rfl⟩ dX11_ban_37 rfl (Nat.le_of_ble_eq_true rfl) rfl (fun v9 hw => ?_)
  refine go_iconst C 2 dX11_ban_40 kc_i2 ?_
  refine go_icmp_lt C 55 dX11_ban_41 (by decide) hw (fun hw => ?_) (fun hw => ?_)
  · refine go_aload_n C dX11_ban_55 1 rfl ?_
    refine go_getA C (cfX11) (k := 11) (Nat.le_of_ble_eq_true rfl) tw1_229 rfl dX11_ban_56 hw (fun a10 hw => ?_)
    refine go_iload_n C dX11_ban_59 2 rfl ?_
    refine go_pV_i C [iV p1] vX2_purseOf tw2_62 (ci := 2) rfl (m_X2_purseOf (xl X) C.2.2.2.2.2.2.2.1 N hw.2) ⟨Nat.le_of_ble_eq_true rfl, Nat.le_of_ble_eq_true rfl, Nat.le_of_ble_eq_true rfl, Nat.le_of_ble_eq_true rfl⟩ ⟨rfl, rfl⟩ hw.1 dX11_ban_60 rfl (Nat.le_of_ble_eq_true rfl) rfl (fun v11 hw => ?_)
    refine go_iconst C 2 dX11_ban_63 kc_i2 ?_
    refine go_icmp_ge C 78 dX11_ban_64 (by decide) hw (fun hw => ?_) (fun hw => ?_)
    · refine go_aload_n C dX11_ban_78 1 rfl ?_
      refine go_getA C (cfX11) (k := 11) (Nat.le_of_ble_eq_true rfl) tw1_229 rfl dX11_ban_79 hw (fun a12 hw => ?_)
      refine go_iload_n C dX11_ban_82 0 rfl ?_
      refine go_iload_n C dX11_ban_83 3 rfl ?_
      refine go_c0V_v C [iV (1 - p1), iV p2] vX2_addBan tw6_204 (ci := 2) rfl (m_X2_addBan (xl X) C.2.2.2.2.2.2.2.1 N hw.2) ⟨Nat.le_of_ble_eq_true rfl, Nat.le_of_ble_eq_true rfl, Nat.le_of_ble_eq_true rfl, Nat.le_of_ble_eq_true rfl⟩ ⟨rfl, rfl⟩ hw.1 dX11_ban_84 rfl (Nat.le_of_ble_eq_true rfl) rfl (fun h13 hw => ?_)
      refine go_aload_n C dX11_ban_87 1 rfl ?_
      refine go_getA C (cfX11) (k := 11) (Nat.le_of_ble_eq_true rfl) tw1_229 rfl dX11_ban_88 hw (fun a14 hw => ?_)
      refine go_iload_n C dX11_ban_91 2 rfl ?_
      refine go_bipush C (-2) dX11_ban_92 kc_bm2 ?_
      refine go_c0V_v C [iV p1, iV (-2)] vX2_give tw6_208 (ci := 2) rfl (m_X2_give (xl X) C.2.2.2.2.2.2.2.1 N hw.2) ⟨Nat.le_of_ble_eq_true rfl, Nat.le_of_ble_eq_true rfl, Nat.le_of_ble_eq_true rfl, Nat.le_of_ble_eq_true rfl⟩ ⟨rfl, rfl⟩ hw.1 dX11_ban_94 rfl (Nat.le_of_ble_eq_true rfl) rfl (fun h15 hw => ?_)
      refine go_aload_n C dX11_ban_97 1 rfl ?_
      refine go_getA C (cfX11) (k := 11) (Nat.le_of_ble_eq_true rfl) tw1_229 rfl dX11_ban_98 hw (fun a16 hw => ?_)
      refine go_iload_n C dX11_ban_101 2 rfl ?_
      refine go_pV_i C [iV p1] vX2_purseOf tw2_62 (ci := 2) rfl (m_X2_purseOf (xl X) C.2.2.2.2.2.2.2.1 N hw.2) ⟨Nat.le_of_ble_eq_true rfl, Nat.le_of_ble_eq_true rfl, Nat.le_of_ble_eq_true rfl, Nat.le_of_ble_eq_true rfl⟩ ⟨rfl, rfl⟩ hw.1 dX11_ban_102 rfl (Nat.le_of_ble_eq_true rfl) rfl (fun v17 hw => ?_)
      exact go_xiret C dX11_ban_105 hw (Nat.le_of_ble_eq_true rfl) (Nat.le_of_ble_eq_true rfl)
    exact go_throwW C hno ex85_89 tw6_203 dX11_ban_67 dX11_ban_70 dX11_ban_71 dX11_ban_74 dX11_ban_77 ⟨Nat.le_of_ble_eq_true rfl, Nat.le_of_ble_eq_true rfl, Nat.le_of_ble_eq_true rfl, Nat.le_of_ble_eq_true rfl⟩ (Nat.le_of_ble_eq_true rfl) ⟨Nat.le_of_ble_eq_true rfl, Nat.le_of_ble_eq_true rfl⟩ hw
  exact go_throwW C hno ex323_327 tw6_202 dX11_ban_44 dX11_ban_47 dX11_ban_48 dX11_ban_51 dX11_ban_54 ⟨Nat.le_of_ble_eq_true rfl, Nat.le_of_ble_eq_true rfl, Nat.le_of_ble_eq_true rfl, Nat.le_of_ble_eq_true rfl⟩ (Nat.le_of_ble_eq_true rfl) ⟨Nat.le_of_ble_eq_true rfl, Nat.le_of_ble_eq_true rfl⟩ hw
/-- DuelSchema.round(I)I -/
def w_X11_round (N : Nat) (a0 : Nat) (p1 : Int32) (h0 : Hp) (K : Int32 → Hp → Prop) (KX : String → Hp → Prop) : Prop :=
  cv h0 a0 11 <| w_X11_needPositions N a0 p1 h0 (fun o1 h2 =>
  gA h2 a0 11 5 fun a3 =>
  gA h2 a0 11 8 fun a4 =>
  gA h2 a0 11 0 fun a5 =>
  gA h2 a0 11 11 fun a6 =>
  cv h2 a6 2 <| w_X2_bansFor N a6 0 h2 fun v7 =>
  cv h2 a3 6 <| w_X6_draw N a3 (some a4) 0 (some a5) o1 v7 h2 fun h8 =>
  gA h8 a0 11 5 fun a9 =>
  gA h8 a0 11 9 fun a10 =>
  gA h8 a0 11 0 fun a11 =>
  gA h8 a0 11 11 fun a12 =>
  cv h8 a12 2 <| w_X2_bansFor N a12 1 h8 fun v13 =>
  cv h8 a9 6 <| w_X6_draw N a9 (some a10) 1 (some a11) o1 v13 h8 fun h14 =>
  pF h14 a0 11 10 (rV o1) fun h15 =>
  gA h15 a0 11 11 fun a16 =>
  cv h15 a16 2 <| w_X2_roundCount N a16  h15 fun v17 =>
  jn (fun (v18 : Int32) => 
    gA h15 a0 11 6 fun a19 =>
    gA h15 a0 11 0 fun a20 =>
    jn (fun (o21 : Option Nat) => 
      gA h15 a0 11 3 fun a22 =>
      cv h15 a19 8 <| w_X8_follow N a19 (some a20) o1 o21 (some a22) h15 fun v23 h24 =>
      gA h24 a0 11 6 fun a25 =>
      gA h24 a0 11 0 fun a26 =>
      jn (fun (o27 : Option Nat) => 
        gA h24 a0 11 3 fun a28 =>
        cv h24 a25 8 <| w_X8_follow N a25 (some a26) o1 o27 (some a28) h24 fun v29 h30 =>
        gA h30 a0 11 11 fun a31 =>
        jn (fun (v32 : Int32) => 
          jn (fun (v33 : Int32) => 
            cv h30 a31 2 <| w_X2_endRound N a31 v32 v33 h30 fun h34 =>
            gA h34 a0 11 11 fun a35 =>
            cv h34 a35 2 <| w_X2_winner N a35  h34 fun v36 =>
            K v36 h34) (fun j171 =>
          br (v18 = 0) (
            j171 v23) (
            j171 v29))) (fun j160 =>
        br (v18 = 0) (
          j160 v29) (
          j160 v23))) (fun j136 =>
      br (v18 = 0) (
        gA h24 a0 11 8 fun a37 =>
        j136 (some a37)) (
        gA h24 a0 11 9 fun a38 =>
        j136 (some a38)))) (fun j103 =>
    br (v18 = 0) (
      gA h15 a0 11 9 fun a39 =>
      j103 (some a39)) (
      gA h15 a0 11 8 fun a40 =>
      j103 (some a40)))) (fun j78 =>
  br ((v17 - v17 / 2 * 2) = 0) (
    j78 1) (
    j78 0))) KX
abbrev rmX11_round : Room := { frames := 42, cells := 2, slots := 12, locals := 1347 }
theorem vX11_round : VI RX11 yX11_round cX11_round 6 (some .int) 1 := ⟨tw6_217, tw6_218, tw1_1, tw6_219, by decide +kernel⟩
set_option maxHeartbeats 4000000 in
theorem m_X11_round {G : Gp} (l : Launch) (hfl : l.stackTraces = false) (N : Nat) {a0 : Nat} {p1 : Int32} {h0 : Hp} {K : Int32 → Hp → Prop} {KX : String → Hp → Prop} (hw : w_X11_round N a0 p1 h0 K KX) : MX G l yX11_round cX11_round 6 (some .int) rmX11_round [rV (some a0), iV p1] h0 (QI G K) KX := by
  refine go_xmetT l hfl _ 6 _ _ rfl (by decide +kernel) (Nat.le_of_ble_eq_true rfl) [(0, rV (some a0)), (1, iV p1)] rfl (fun X hX C hno => ?_)
  subst hX
  unfold w_X11_round at hw
  refine go_aload_n C dX11_round_0 0 rfl ?_
  refine go_iload_n C dX11_round_1 1 rfl ?_
  refine go_xcallV_q C hno [iV p1] vX11_needPositions tw6_81 (ci := 11) rfl (m_X11_needPositions (xl X) C.2.2.2.2.2.2.2.1 N hw.2) ⟨Nat.le_of_ble_eq_true rfl, Nat.le_of_ble_eq_true rfl, Nat.le_of_ble_eq_true rfl, Nat.le_of_ble_eq_true rfl⟩ ⟨Nat.le_of_ble_eq_true rfl, Nat.le_of_ble_eq_true rfl⟩ hw.1 dX11_round_2 rfl (Nat.le_of_ble_eq_true rfl) rfl (fun o1 h2 hw => ?_)
  refine go_astore_n C [(2, rV o1), (0, rV (some a0)), (1, iV p1)] dX11_round_5 (Nat.le_of_ble_eq_true rfl) rfl ?_
  refine go_aload_n C dX11_round_6 1 rfl ?_
  refine go_getA C (cfX11) (k := 5) (Nat.le_of_ble_eq_true rfl) tw1_223 rfl dX11_round_7 hw (fun a3 hw => ?_)
  refine go_aload_n C dX11_round_10 1 rfl ?_
  refine go_getA C (cfX11) (k := 8) (Nat.le_of_ble_eq_true rfl) tw1_226 rfl dX11_round_11 hw (fun a4 hw => ?_)
  refine go_iconst C 0 dX11_round_14 kc_i0 ?_
  refine go_aload_n C dX11_round_15 1 rfl ?_
  refine go_getA C (cfX11) (k := 0) (Nat.le_of_ble_eq_true rfl) tw1_218 rfl dX11_round_16 hw (fun a5 hw => ?_)
  refine go_aload_n C dX11_round_19 0 rfl ?_
  refine go_aload_n C dX11_round_20 1 rfl ?_
  refine go_getA C (cfX11) (k := 11) (Nat.le_of_ble_eq_true rfl) tw1_229 rfl dX11_round_21 hw (fun a6 hw => ?_)
  refine go_iconst C 0 dX11_round_24 kc_i0 ?_
  refine go_pV_i C [iV 0] vX2_bansFor tw3_66 (ci := 2) rfl (m_X2_bansFor (xl X) C.2.2.2.2.2.2.2.1 N hw.2) ⟨Nat.le_of_ble_eq_true rfl, Nat.le_of_ble_eq_true rfl, Nat.le_of_ble_eq_true rfl, Nat.le_of_ble_eq_true rfl⟩ ⟨rfl, rfl⟩ hw.1 dX11_round_25 rfl (Nat.le_of_ble_eq_true rfl) rfl (fun v7 hw => ?_)
  refine go_c0V_v C [rV (some a4), iV 0, rV (some a5), rV o1, iV v7] vX6_draw tw3_70 (ci := 6) rfl (m_X6_draw (xl X) C.2.2.2.2.2.2.2.1 N hw.2) ⟨Nat.le_of_ble_eq_true rfl, Nat.le_of_ble_eq_true rfl, Nat.le_of_ble_eq_true rfl, Nat.le_of_ble_eq_true rfl⟩ ⟨rfl, rfl⟩ hw.1 dX11_round_28 rfl (Nat.le_of_ble_eq_true rfl) rfl (fun h8 hw => ?_)
  refine go_aload_n C dX11_round_31 1 rfl ?_
  refine go_getA C (cfX11) (k := 5) (Nat.le_of_ble_eq_true rfl) tw1_223 rfl dX11_round_32 hw (fun a9 hw => ?_)
  refine go_aload_n C dX11_round_35 1 rfl ?_
  refine go_getA C (cfX11) (k := 9) (Nat.le_of_ble_eq_true rfl) tw1_227 rfl dX11_round_36 hw (fun a10 hw => ?_)
  refine go_iconst C 1 dX11_round_39 kc_i1 ?_
  refine go_aload_n C dX11_round_40 1 rfl ?_
  refine go_getA C (cfX11) (k := 0) (Nat.le_of_ble_eq_true rfl) tw1_218 rfl dX11_round_41 hw (fun a11 hw => ?_)
  refine go_aload_n C dX11_round_44 0 rfl ?_
  refine go_aload_n C dX11_round_45 1 rfl ?_
  refine go_getA C (cfX11) (k := 11) (Nat.le_of_ble_eq_true rfl) tw1_229 rfl dX11_round_46 hw (fun a12 hw => ?_)
  refine go_iconst C 1 dX11_round_49 kc_i1 ?_
  refine go_pV_i C [iV 1] vX2_bansFor tw3_66 (ci := 2) rfl (m_X2_bansFor (xl X) C.2.2.2.2.2.2.2.1 N hw.2) ⟨Nat.le_of_ble_eq_true rfl, Nat.le_of_ble_eq_true rfl, Nat.le_of_ble_eq_true rfl, Nat.le_of_ble_eq_true rfl⟩ ⟨rfl, rfl⟩ hw.1 dX11_round_50 rfl (Nat.le_of_ble_eq_true rfl) rfl (fun v13 hw => ?_)
  refine go_c0V_v C [rV (some a10), iV 1, rV (some a11), rV o1, iV v13] vX6_draw tw3_70 (ci := 6) rfl (m_X6_draw (xl X) C.2.2.2.2.2.2.2.1 N hw.2) ⟨Nat.le_of_ble_eq_true rfl, Nat.le_of_ble_eq_true rfl, Nat.le_of_ble_eq_true rfl, Nat.le_of_ble_eq_true rfl⟩ ⟨rfl, rfl⟩ hw.1 dX11_round_53 rfl (Nat.le_of_ble_eq_true rfl) rfl (fun h14 hw => ?_)
  refine go_aload_n C dX11_round_56 1 rfl ?_
  refine go_aload_n C dX11_round_57 0 rfl ?_
  refine go_putR C (cfX11) (k := 10) (Nat.le_of_ble_eq_true rfl) tw1_228 rfl (Or.inl rfl) rfl dX11_round_58 hw (fun h15 hw => ?_)
  refine go_aload_n C dX11_round_61 1 rfl ?_
  refine go_getA C (cfX11) (k := 11) (Nat.le_of_ble_eq_true rfl) tw1_229 rfl dX11_round_62 hw (fun a16 hw => ?_)
  refine go_pV_i C [] vX2_roundCount tw2_39 (ci := 2) rfl (m_X2_roundCount (xl X) C.2.2.2.2.2.2.2.1 N hw.2) ⟨Nat.le_of_ble_eq_true rfl, Nat.le_of_ble_eq_true rfl, Nat.le_of_ble_eq_true rfl, Nat.le_of_ble_eq_true rfl⟩ ⟨rfl, rfl⟩ hw.1 dX11_round_65 rfl (Nat.le_of_ble_eq_true rfl) rfl (fun v17 hw => ?_)
  refine go_iconst C 2 dX11_round_68 kc_i2 ?_
  refine go_irem C dX11_round_69 ⟨by decide, hw⟩ (fun hw => ?_)
  refine jn_elim (P := fun j => ∀ (v18 : Int32), j v18 → Go G X rmX11_round 6 2 12 (QX G X (QI G K) KX rmX11_round) h15 78 [(0, rV (some a0)), (2, rV o1)] [iV v18]) hw (fun v18 hw => ?_) (fun j78 hj78 hw => ?_)
  · refine go_istore_n C [(3, iV v18), (0, rV (some a0)), (2, rV o1)] dX11_round_78 (Nat.le_of_ble_eq_true rfl) rfl ?_
    refine go_aload_n C dX11_round_79 1 rfl ?_
    refine go_getA C (cfX11) (k := 6) (Nat.le_of_ble_eq_true rfl) tw1_224 rfl dX11_round_80 hw (fun a19 hw => ?_)
    refine go_aload_n C dX11_round_83 1 rfl ?_
    refine go_getA C (cfX11) (k := 0) (Nat.le_of_ble_eq_true rfl) tw1_218 rfl dX11_round_84 hw (fun a20 hw => ?_)
    refine go_aload_n C dX11_round_87 2 rfl ?_
    refine go_iload_n C dX11_round_88 0 rfl ?_
    refine jn_elim (P := fun j => ∀ (o21 : Option Nat), j o21 → Go G X rmX11_round 6 2 12 (QX G X (QI G K) KX rmX11_round) h15 103 [(0, rV (some a0)), (2, rV o1), (3, iV v18)] [rV o21, rV o1, rV (some a20), rV (some a19)]) hw (fun o21 hw => ?_) (fun j103 hj103 hw => ?_)
    · refine go_aload_n C dX11_round_103 0 rfl ?_
      refine go_getA C (cfX11) (k := 3) (Nat.le_of_ble_eq_true rfl) tw1_221 rfl dX11_round_104 hw (fun a22 hw => ?_)
      refine go_c0V_i C [rV (some a20), rV o1, rV o21, rV (some a22)] vX8_follow tw3_228 (ci := 8) rfl (m_X8_follow (xl X) C.2.2.2.2.2.2.2.1 N hw.2) ⟨Nat.le_of_ble_eq_true rfl, Nat.le_of_ble_eq_true rfl, Nat.le_of_ble_eq_true rfl, Nat.le_of_ble_eq_true rfl⟩ ⟨rfl, rfl⟩ hw.1 dX11_round_107 rfl (Nat.le_of_ble_eq_true rfl) rfl (fun v23 h24 hw => ?_)
      refine go_istore C [(4, iV v23), (0, rV (some a0)), (2, rV o1), (3, iV v18)] dX11_round_110 (Nat.le_of_ble_eq_true rfl) rfl ?_
      refine go_aload_n C dX11_round_112 1 rfl ?_
      refine go_getA C (cfX11) (k := 6) (Nat.le_of_ble_eq_true rfl) tw1_224 rfl dX11_round_113 hw (fun a25 hw => ?_)
      refine go_aload_n C dX11_round_116 1 rfl ?_
      refine go_getA C (cfX11) (k := 0) (Nat.le_of_ble_eq_true rfl) tw1_218 rfl dX11_round_117 hw (fun a26 hw => ?_)
      refine go_aload_n C dX11_round_120 2 rfl ?_
      refine go_iload_n C dX11_round_121 3 rfl ?_
      refine jn_elim (P := fun j => ∀ (o27 : Option Nat), j o27 → Go G X rmX11_round 6 2 12 (QX G X (QI G K) KX rmX11_round) h24 136 [(0, rV (some a0)), (3, iV v18), (4, iV v23)] [rV o27, rV o1, rV (some a26), rV (some a25)]) hw (fun o27 hw => ?_) (fun j136 hj136 hw => ?_)
      · refine go_aload_n C dX11_round_136 0 rfl ?_
        refine go_getA C (cfX11) (k := 3) (Nat.le_of_ble_eq_true rfl) tw1_221 rfl dX11_round_137 hw (fun a28 hw => ?_)
        refine go_c0V_i C [rV (some a26), rV o1, rV o27, rV (some a28)] vX8_follow tw3_228 (ci := 8) rfl (m_X8_follow (xl X) C.2.2.2.2.2.2.2.1 N hw.2) ⟨Nat.le_of_ble_eq_true rfl, Nat.le_of_ble_eq_true rfl, Nat.le_of_ble_eq_true rfl, Nat.le_of_ble_eq_true rfl⟩ ⟨rfl, rfl⟩ hw.1 dX11_round_140 rfl (Nat.le_of_ble_eq_true rfl) rfl (fun v29 h30 hw => ?_)
        refine go_istore C [(5, iV v29), (0, rV (some a0)), (3, iV v18), (4, iV v23)] dX11_round_143 (Nat.le_of_ble_eq_true rfl) rfl ?_
        refine go_aload_n C dX11_round_145 1 rfl ?_
        refine go_getA C (cfX11) (k := 11) (Nat.le_of_ble_eq_true rfl) tw1_229 rfl dX11_round_146 hw (fun a31 hw => ?_)
        refine go_iload_n C dX11_round_149 2 rfl ?_
        refine jn_elim (P := fun j => ∀ (v32 : Int32), j v32 → Go G X rmX11_round 6 2 12 (QX G X (QI G K) KX rmX11_round) h30 160 [(0, rV (some a0)), (3, iV v18), (4, iV v23), (5, iV v29)] [iV v32, rV (some a31)]) hw (fun v32 hw => ?_) (fun j160 hj160 hw => ?_)
        · refine go_iload_n C dX11_round_160 1 rfl ?_
          refine jn_elim (P := fun j => ∀ (v33 : Int32), j v33 → Go G X rmX11_round 6 2 12 (QX G X (QI G K) KX rmX11_round) h30 171 [(0, rV (some a0))] [iV v33, iV v32, rV (some a31)]) hw (fun v33 hw => ?_) (fun j171 hj171 hw => ?_)
          · refine go_c0V_v C [iV v32, iV v33] vX2_endRound tw6_220 (ci := 2) rfl (m_X2_endRound (xl X) C.2.2.2.2.2.2.2.1 N hw.2) ⟨Nat.le_of_ble_eq_true rfl, Nat.le_of_ble_eq_true rfl, Nat.le_of_ble_eq_true rfl, Nat.le_of_ble_eq_true rfl⟩ ⟨rfl, rfl⟩ hw.1 dX11_round_171 rfl (Nat.le_of_ble_eq_true rfl) rfl (fun h34 hw => ?_)
            refine go_aload_n C dX11_round_174 0 rfl ?_
            refine go_getA C (cfX11) (k := 11) (Nat.le_of_ble_eq_true rfl) tw1_229 rfl dX11_round_175 hw (fun a35 hw => ?_)
            refine go_pV_i C [] vX2_winner tw6_233 (ci := 2) rfl (m_X2_winner (xl X) C.2.2.2.2.2.2.2.1 N hw.2) ⟨Nat.le_of_ble_eq_true rfl, Nat.le_of_ble_eq_true rfl, Nat.le_of_ble_eq_true rfl, Nat.le_of_ble_eq_true rfl⟩ ⟨rfl, rfl⟩ hw.1 dX11_round_178 rfl (Nat.le_of_ble_eq_true rfl) rfl (fun v36 hw => ?_)
            exact go_xiret C dX11_round_181 hw (Nat.le_of_ble_eq_true rfl) (Nat.le_of_ble_eq_true rfl)
          refine go_if_eq C 169 dX11_round_161 (by decide) hw (fun hw => ?_) (fun hw => ?_)
          · refine go_iload C dX11_round_169 2 rfl ?_
            refine go_sub [0] rfl ?_
            exact hj171 v23 hw
          refine go_iload C dX11_round_164 3 rfl ?_
          refine go_goto C 171 dX11_round_166 (by decide) ?_
          refine go_sub [0] rfl ?_
          exact hj171 v29 hw
        refine go_if_eq C 158 dX11_round_150 (by decide) hw (fun hw => ?_) (fun hw => ?_)
        · refine go_iload C dX11_round_158 0 rfl ?_
          refine go_sub [1, 2, 3, 0] rfl ?_
          exact hj160 v29 hw
        refine go_iload C dX11_round_153 3 rfl ?_
        refine go_goto C 160 dX11_round_155 (by decide) ?_
        refine go_sub [1, 2, 3, 0] rfl ?_
        exact hj160 v23 hw
      refine go_if_eq C 132 dX11_round_122 (by decide) hw (fun hw => ?_) (fun hw => ?_)
      · refine go_aload_n C dX11_round_132 1 rfl ?_
        refine go_getA C (cfX11) (k := 8) (Nat.le_of_ble_eq_true rfl) tw1_226 rfl dX11_round_133 hw (fun a37 hw => ?_)
        refine go_sub [1, 3, 0] rfl ?_
        exact hj136 (some a37) hw
      refine go_aload_n C dX11_round_125 1 rfl ?_
      refine go_getA C (cfX11) (k := 9) (Nat.le_of_ble_eq_true rfl) tw1_227 rfl dX11_round_126 hw (fun a38 hw => ?_)
      refine go_goto C 136 dX11_round_129 (by decide) ?_
      refine go_sub [1, 3, 0] rfl ?_
      exact hj136 (some a38) hw
    refine go_if_eq C 99 dX11_round_89 (by decide) hw (fun hw => ?_) (fun hw => ?_)
    · refine go_aload_n C dX11_round_99 1 rfl ?_
      refine go_getA C (cfX11) (k := 9) (Nat.le_of_ble_eq_true rfl) tw1_227 rfl dX11_round_100 hw (fun a39 hw => ?_)
      refine go_sub [1, 2, 0] rfl ?_
      exact hj103 (some a39) hw
    refine go_aload_n C dX11_round_92 1 rfl ?_
    refine go_getA C (cfX11) (k := 8) (Nat.le_of_ble_eq_true rfl) tw1_226 rfl dX11_round_93 hw (fun a40 hw => ?_)
    refine go_goto C 103 dX11_round_96 (by decide) ?_
    refine go_sub [1, 2, 0] rfl ?_
    exact hj103 (some a40) hw
  refine go_if_ne C 77 dX11_round_70 (by decide) hw (fun hw => ?_) (fun hw => ?_)
  · refine go_iconst C 0 dX11_round_77 kc_i0 ?_
    refine go_sub [1, 0] rfl ?_
    exact hj78 0 hw
  refine go_iconst C 1 dX11_round_73 kc_i1 ?_
  refine go_goto C 78 dX11_round_74 (by decide) ?_
  refine go_sub [1, 0] rfl ?_
  exact hj78 1 hw
/-- DuelSchema.appeal(I)I -/
def w_X11_appeal (N : Nat) (a0 : Nat) (p1 : Int32) (h0 : Hp) (K : Int32 → Hp → Prop) (KX : String → Hp → Prop) : Prop :=
  w_X11_checkDuellist N p1 h0 (fun h1 =>
  gA h1 a0 11 11 fun a2 =>
  cv h1 a2 2 <| w_X2_isOpenToAppeals N a2  h1 fun v3 =>
  br (v3 = 0) (
    KX "java/lang/UnsupportedOperationException" h1) (
    gR h1 a0 11 10 fun o4 =>
    brn o4 (
      KX "java/lang/UnsupportedOperationException" h1) (fun a5 =>
      gA h1 a0 11 11 fun a6 =>
      cv h1 a6 2 <| w_X2_purseOf N a6 p1 h1 fun v7 =>
      br (1 ≤ v7) (
        gA h1 a0 11 6 fun a8 =>
        gA h1 a0 11 0 fun a9 =>
        gR h1 a0 11 10 fun o10 =>
        gA h1 a0 11 8 fun a11 =>
        cv h1 a0 11 <| w_X11_emptyTrial N a0  h1 fun o12 h13 =>
        cv h13 a8 8 <| w_X8_follow N a8 (some a9) o10 (some a11) o12 h13 fun v14 h15 =>
        gA h15 a0 11 6 fun a16 =>
        gA h15 a0 11 0 fun a17 =>
        gR h15 a0 11 10 fun o18 =>
        gA h15 a0 11 9 fun a19 =>
        cv h15 a0 11 <| w_X11_emptyTrial N a0  h15 fun o20 h21 =>
        cv h21 a16 8 <| w_X8_follow N a16 (some a17) o18 (some a19) o20 h21 fun v22 h23 =>
        gA h23 a0 11 11 fun a24 =>
        cv h23 a24 2 <| w_X2_endAppeal N a24 p1 v14 v22 h23 fun h25 =>
        gA h25 a0 11 11 fun a26 =>
        cv h25 a26 2 <| w_X2_winner N a26  h25 fun v27 =>
        K v27 h25) (
        KX "java/lang/IllegalStateException" h1)))) KX
abbrev rmX11_appeal : Room := { frames := 42, cells := 2, slots := 12, locals := 1347 }
theorem vX11_appeal : VI RX11 yX11_appeal cX11_appeal 4 (some .int) 1 := ⟨tw7_1, tw7_2, tw1_1, tw7_3, by decide +kernel⟩
set_option maxHeartbeats 4000000 in
theorem m_X11_appeal {G : Gp} (l : Launch) (hfl : l.stackTraces = false) (N : Nat) {a0 : Nat} {p1 : Int32} {h0 : Hp} {K : Int32 → Hp → Prop} {KX : String → Hp → Prop} (hw : w_X11_appeal N a0 p1 h0 K KX) : MX G l yX11_appeal cX11_appeal 4 (some .int) rmX11_appeal [rV (some a0), iV p1] h0 (QI G K) KX := by
  refine go_xmetT l hfl _ 4 _ _ rfl (by decide +kernel) (Nat.le_of_ble_eq_true rfl) [(0, rV (some a0)), (1, iV p1)] rfl (fun X hX C hno => ?_)
  subst hX
  unfold w_X11_appeal at hw
  refine go_iload_n C dX11_appeal_0 1 rfl ?_
  refine go_xcallS_v C hno [iV p1] vX11_checkDuellist tw6_141 (m_X11_checkDuellist (xl X) C.2.2.2.2.2.2.2.1 N hw) ⟨Nat.le_of_ble_eq_true rfl, Nat.le_of_ble_eq_true rfl, Nat.le_of_ble_eq_true rfl, Nat.le_of_ble_eq_true rfl⟩ ⟨Nat.le_of_ble_eq_true rfl, Nat.le_of_ble_eq_true rfl⟩ dX11_appeal_1 rfl (Nat.le_of_ble_eq_true rfl) rfl (fun h1 hw => ?_)
  refine go_aload_n C dX11_appeal_4 0 rfl ?_
  refine go_getA C (cfX11) (k := 11) (Nat.le_of_ble_eq_true rfl) tw1_229 rfl dX11_appeal_5 hw (fun a2 hw => ?_)
  refine go_pV_i C [] vX2_isOpenToAppeals tw7_4 (ci := 2) rfl (m_X2_isOpenToAppeals (xl X) C.2.2.2.2.2.2.2.1 N hw.2) ⟨Nat.le_of_ble_eq_true rfl, Nat.le_of_ble_eq_true rfl, Nat.le_of_ble_eq_true rfl, Nat.le_of_ble_eq_true rfl⟩ ⟨rfl, rfl⟩ hw.1 dX11_appeal_8 rfl (Nat.le_of_ble_eq_true rfl) rfl (fun v3 hw => ?_)
  refine go_if_eq C 21 dX11_appeal_11 (by decide) hw (fun hw => ?_) (fun hw => ?_)
  · exact go_throwW C hno ex323_327 tw7_8 dX11_appeal_21 dX11_appeal_24 dX11_appeal_25 dX11_appeal_28 dX11_appeal_31 ⟨Nat.le_of_ble_eq_true rfl, Nat.le_of_ble_eq_true rfl, Nat.le_of_ble_eq_true rfl, Nat.le_of_ble_eq_true rfl⟩ (Nat.le_of_ble_eq_true rfl) ⟨Nat.le_of_ble_eq_true rfl, Nat.le_of_ble_eq_true rfl⟩ hw
  refine go_aload_n C dX11_appeal_14 0 rfl ?_
  refine go_getR C (cfX11) (k := 10) (Nat.le_of_ble_eq_true rfl) tw1_228 rfl dX11_appeal_15 hw (fun o4 hw => ?_)
  refine go_ifnonnull C 32 dX11_appeal_18 (by decide) hw (fun a5 e9 hw9 => ?_) (fun e9 hw9 => ?_)
  · clear hw
    subst e9
    have hw := hw9
    clear hw9
    refine go_aload_n C dX11_appeal_32 0 rfl ?_
    refine go_getA C (cfX11) (k := 11) (Nat.le_of_ble_eq_true rfl) tw1_229 rfl dX11_appeal_33 hw (fun a6 hw => ?_)
    refine go_iload_n C dX11_appeal_36 1 rfl ?_
    refine go_pV_i C [iV p1] vX2_purseOf tw2_62 (ci := 2) rfl (m_X2_purseOf (xl X) C.2.2.2.2.2.2.2.1 N hw.2) ⟨Nat.le_of_ble_eq_true rfl, Nat.le_of_ble_eq_true rfl, Nat.le_of_ble_eq_true rfl, Nat.le_of_ble_eq_true rfl⟩ ⟨rfl, rfl⟩ hw.1 dX11_appeal_37 rfl (Nat.le_of_ble_eq_true rfl) rfl (fun v7 hw => ?_)
    refine go_iconst C 1 dX11_appeal_40 kc_i1 ?_
    refine go_icmp_ge C 55 dX11_appeal_41 (by decide) hw (fun hw => ?_) (fun hw => ?_)
    · refine go_aload_n C dX11_appeal_55 0 rfl ?_
      refine go_getA C (cfX11) (k := 6) (Nat.le_of_ble_eq_true rfl) tw1_224 rfl dX11_appeal_56 hw (fun a8 hw => ?_)
      refine go_aload_n C dX11_appeal_59 0 rfl ?_
      refine go_getA C (cfX11) (k := 0) (Nat.le_of_ble_eq_true rfl) tw1_218 rfl dX11_appeal_60 hw (fun a9 hw => ?_)
      refine go_aload_n C dX11_appeal_63 0 rfl ?_
      refine go_getR C (cfX11) (k := 10) (Nat.le_of_ble_eq_true rfl) tw1_228 rfl dX11_appeal_64 hw (fun o10 hw => ?_)
      refine go_aload_n C dX11_appeal_67 0 rfl ?_
      refine go_getA C (cfX11) (k := 8) (Nat.le_of_ble_eq_true rfl) tw1_226 rfl dX11_appeal_68 hw (fun a11 hw => ?_)
      refine go_aload_n C dX11_appeal_71 0 rfl ?_
      refine go_c0V_q C [] vX11_emptyTrial tw3_216 (ci := 11) rfl (m_X11_emptyTrial (xl X) C.2.2.2.2.2.2.2.1 N hw.2) ⟨Nat.le_of_ble_eq_true rfl, Nat.le_of_ble_eq_true rfl, Nat.le_of_ble_eq_true rfl, Nat.le_of_ble_eq_true rfl⟩ ⟨rfl, rfl⟩ hw.1 dX11_appeal_72 rfl (Nat.le_of_ble_eq_true rfl) rfl (fun o12 h13 hw => ?_)
      refine go_c0V_i C [rV (some a9), rV o10, rV (some a11), rV o12] vX8_follow tw3_228 (ci := 8) rfl (m_X8_follow (xl X) C.2.2.2.2.2.2.2.1 N hw.2) ⟨Nat.le_of_ble_eq_true rfl, Nat.le_of_ble_eq_true rfl, Nat.le_of_ble_eq_true rfl, Nat.le_of_ble_eq_true rfl⟩ ⟨rfl, rfl⟩ hw.1 dX11_appeal_75 rfl (Nat.le_of_ble_eq_true rfl) rfl (fun v14 h15 hw => ?_)
      refine go_istore_n C [(2, iV v14), (0, rV (some a0)), (1, iV p1)] dX11_appeal_78 (Nat.le_of_ble_eq_true rfl) rfl ?_
      refine go_aload_n C dX11_appeal_79 1 rfl ?_
      refine go_getA C (cfX11) (k := 6) (Nat.le_of_ble_eq_true rfl) tw1_224 rfl dX11_appeal_80 hw (fun a16 hw => ?_)
      refine go_aload_n C dX11_appeal_83 1 rfl ?_
      refine go_getA C (cfX11) (k := 0) (Nat.le_of_ble_eq_true rfl) tw1_218 rfl dX11_appeal_84 hw (fun a17 hw => ?_)
      refine go_aload_n C dX11_appeal_87 1 rfl ?_
      refine go_getR C (cfX11) (k := 10) (Nat.le_of_ble_eq_true rfl) tw1_228 rfl dX11_appeal_88 hw (fun o18 hw => ?_)
      refine go_aload_n C dX11_appeal_91 1 rfl ?_
      refine go_getA C (cfX11) (k := 9) (Nat.le_of_ble_eq_true rfl) tw1_227 rfl dX11_appeal_92 hw (fun a19 hw => ?_)
      refine go_aload_n C dX11_appeal_95 1 rfl ?_
      refine go_c0V_q C [] vX11_emptyTrial tw3_216 (ci := 11) rfl (m_X11_emptyTrial (xl X) C.2.2.2.2.2.2.2.1 N hw.2) ⟨Nat.le_of_ble_eq_true rfl, Nat.le_of_ble_eq_true rfl, Nat.le_of_ble_eq_true rfl, Nat.le_of_ble_eq_true rfl⟩ ⟨rfl, rfl⟩ hw.1 dX11_appeal_96 rfl (Nat.le_of_ble_eq_true rfl) rfl (fun o20 h21 hw => ?_)
      refine go_c0V_i C [rV (some a17), rV o18, rV (some a19), rV o20] vX8_follow tw3_228 (ci := 8) rfl (m_X8_follow (xl X) C.2.2.2.2.2.2.2.1 N hw.2) ⟨Nat.le_of_ble_eq_true rfl, Nat.le_of_ble_eq_true rfl, Nat.le_of_ble_eq_true rfl, Nat.le_of_ble_eq_true rfl⟩ ⟨rfl, rfl⟩ hw.1 dX11_appeal_99 rfl (Nat.le_of_ble_eq_true rfl) rfl (fun v22 h23 hw => ?_)
      refine go_istore_n C [(3, iV v22), (2, iV v14), (0, rV (some a0)), (1, iV p1)] dX11_appeal_102 (Nat.le_of_ble_eq_true rfl) rfl ?_
      refine go_aload_n C dX11_appeal_103 2 rfl ?_
      refine go_getA C (cfX11) (k := 11) (Nat.le_of_ble_eq_true rfl) tw1_229 rfl dX11_appeal_104 hw (fun a24 hw => ?_)
      refine go_iload_n C dX11_appeal_107 3 rfl ?_
      refine go_iload_n C dX11_appeal_108 1 rfl ?_
      refine go_iload_n C dX11_appeal_109 0 rfl ?_
      refine go_c0V_v C [iV p1, iV v14, iV v22] vX2_endAppeal tw7_10 (ci := 2) rfl (m_X2_endAppeal (xl X) C.2.2.2.2.2.2.2.1 N hw.2) ⟨Nat.le_of_ble_eq_true rfl, Nat.le_of_ble_eq_true rfl, Nat.le_of_ble_eq_true rfl, Nat.le_of_ble_eq_true rfl⟩ ⟨rfl, rfl⟩ hw.1 dX11_appeal_110 rfl (Nat.le_of_ble_eq_true rfl) rfl (fun h25 hw => ?_)
      refine go_aload_n C dX11_appeal_113 2 rfl ?_
      refine go_getA C (cfX11) (k := 11) (Nat.le_of_ble_eq_true rfl) tw1_229 rfl dX11_appeal_114 hw (fun a26 hw => ?_)
      refine go_pV_i C [] vX2_winner tw6_233 (ci := 2) rfl (m_X2_winner (xl X) C.2.2.2.2.2.2.2.1 N hw.2) ⟨Nat.le_of_ble_eq_true rfl, Nat.le_of_ble_eq_true rfl, Nat.le_of_ble_eq_true rfl, Nat.le_of_ble_eq_true rfl⟩ ⟨rfl, rfl⟩ hw.1 dX11_appeal_117 rfl (Nat.le_of_ble_eq_true rfl) rfl (fun v27 hw => ?_)
      exact go_xiret C dX11_appeal_120 hw (Nat.le_of_ble_eq_true rfl) (Nat.le_of_ble_eq_true rfl)
    exact go_throwW C hno ex85_89 tw7_9 dX11_appeal_44 dX11_appeal_47 dX11_appeal_48 dX11_appeal_51 dX11_appeal_54 ⟨Nat.le_of_ble_eq_true rfl, Nat.le_of_ble_eq_true rfl, Nat.le_of_ble_eq_true rfl, Nat.le_of_ble_eq_true rfl⟩ (Nat.le_of_ble_eq_true rfl) ⟨Nat.le_of_ble_eq_true rfl, Nat.le_of_ble_eq_true rfl⟩ hw
  clear hw
  subst e9
  have hw := hw9
  clear hw9
  exact go_throwW C hno ex323_327 tw7_8 dX11_appeal_21 dX11_appeal_24 dX11_appeal_25 dX11_appeal_28 dX11_appeal_31 ⟨Nat.le_of_ble_eq_true rfl, Nat.le_of_ble_eq_true rfl, Nat.le_of_ble_eq_true rfl, Nat.le_of_ble_eq_true rfl⟩ (Nat.le_of_ble_eq_true rfl) ⟨Nat.le_of_ble_eq_true rfl, Nat.le_of_ble_eq_true rfl⟩ hw
/-- DuelSchema.coins(I)I -/
def w_X11_coins (N : Nat) (a0 : Nat) (p1 : Int32) (h0 : Hp) (K : Int32 → Hp → Prop) (KX : String → Hp → Prop) : Prop :=
  w_X11_checkDuellist N p1 h0 (fun h1 =>
  gA h1 a0 11 11 fun a2 =>
  cv h1 a2 2 <| w_X2_purseOf N a2 p1 h1 fun v3 =>
  K v3 h1) KX
abbrev rmX11_coins : Room := { frames := 9, cells := 1, slots := 6, locals := 160 }
theorem vX11_coins : VI RX11 yX11_coins cX11_coins 2 (some .int) 1 := ⟨tw7_18, tw7_19, tw1_1, tw7_20, by decide +kernel⟩
set_option maxHeartbeats 4000000 in
theorem m_X11_coins {G : Gp} (l : Launch) (hfl : l.stackTraces = false) (N : Nat) {a0 : Nat} {p1 : Int32} {h0 : Hp} {K : Int32 → Hp → Prop} {KX : String → Hp → Prop} (hw : w_X11_coins N a0 p1 h0 K KX) : MX G l yX11_coins cX11_coins 2 (some .int) rmX11_coins [rV (some a0), iV p1] h0 (QI G K) KX := by
  refine go_xmetT l hfl _ 2 _ _ rfl (by decide +kernel) (Nat.le_of_ble_eq_true rfl) [(0, rV (some a0)), (1, iV p1)] rfl (fun X hX C hno => ?_)
  subst hX
  unfold w_X11_coins at hw
  refine go_iload_n C dX11_coins_0 1 rfl ?_
  refine go_xcallS_v C hno [iV p1] vX11_checkDuellist tw6_141 (m_X11_checkDuellist (xl X) C.2.2.2.2.2.2.2.1 N hw) ⟨Nat.le_of_ble_eq_true rfl, Nat.le_of_ble_eq_true rfl, Nat.le_of_ble_eq_true rfl, Nat.le_of_ble_eq_true rfl⟩ ⟨Nat.le_of_ble_eq_true rfl, Nat.le_of_ble_eq_true rfl⟩ dX11_coins_1 rfl (Nat.le_of_ble_eq_true rfl) rfl (fun h1 hw => ?_)
  refine go_aload_n C dX11_coins_4 0 rfl ?_
  refine go_getA C (cfX11) (k := 11) (Nat.le_of_ble_eq_true rfl) tw1_229 rfl dX11_coins_5 hw (fun a2 hw => ?_)
  refine go_iload_n C dX11_coins_8 1 rfl ?_
  refine go_pV_i C [iV p1] vX2_purseOf tw2_62 (ci := 2) rfl (m_X2_purseOf (xl X) C.2.2.2.2.2.2.2.1 N hw.2) ⟨Nat.le_of_ble_eq_true rfl, Nat.le_of_ble_eq_true rfl, Nat.le_of_ble_eq_true rfl, Nat.le_of_ble_eq_true rfl⟩ ⟨rfl, rfl⟩ hw.1 dX11_coins_9 rfl (Nat.le_of_ble_eq_true rfl) rfl (fun v3 hw => ?_)
  exact go_xiret C dX11_coins_12 hw (Nat.le_of_ble_eq_true rfl) (Nat.le_of_ble_eq_true rfl)
/-- DuelSchema.misses(II)I -/
def w_X11_misses (N : Nat) (a0 : Nat) (p1 : Int32) (p2 : Int32) (h0 : Hp) (K : Int32 → Hp → Prop) (KX : String → Hp → Prop) : Prop :=
  w_X11_checkDuellist N p1 h0 (fun h1 =>
  gA h1 a0 11 11 fun a2 =>
  cv h1 a2 2 <| w_X2_missedIn N a2 p1 p2 h1 fun v3 =>
  br (v3 = (-1)) (
    KX "java/util/NoSuchElementException" h1) (
    K v3 h1)) KX
abbrev rmX11_misses : Room := { frames := 9, cells := 2, slots := 12, locals := 160 }
theorem vX11_misses : VI RX11 yX11_misses cX11_misses 4 (some .int) 2 := ⟨tw7_25, tw7_26, tw1_1, tw7_27, by decide +kernel⟩
set_option maxHeartbeats 4000000 in
theorem m_X11_misses {G : Gp} (l : Launch) (hfl : l.stackTraces = false) (N : Nat) {a0 : Nat} {p1 : Int32} {p2 : Int32} {h0 : Hp} {K : Int32 → Hp → Prop} {KX : String → Hp → Prop} (hw : w_X11_misses N a0 p1 p2 h0 K KX) : MX G l yX11_misses cX11_misses 4 (some .int) rmX11_misses [rV (some a0), iV p1, iV p2] h0 (QI G K) KX := by
  refine go_xmetT l hfl _ 4 _ _ rfl (by decide +kernel) (Nat.le_of_ble_eq_true rfl) [(0, rV (some a0)), (1, iV p1), (2, iV p2)] rfl (fun X hX C hno => ?_)
  subst hX
  unfold w_X11_misses at hw
  refine go_iload_n C dX11_misses_0 1 rfl ?_
  refine go_xcallS_v C hno [iV p1] vX11_checkDuellist tw6_141 (m_X11_checkDuellist (xl X) C.2.2.2.2.2.2.2.1 N hw) ⟨Nat.le_of_ble_eq_true rfl, Nat.le_of_ble_eq_true rfl, Nat.le_of_ble_eq_true rfl, Nat.le_of_ble_eq_true rfl⟩ ⟨Nat.le_of_ble_eq_true rfl, Nat.le_of_ble_eq_true rfl⟩ dX11_misses_1 rfl (Nat.le_of_ble_eq_true rfl) rfl (fun h1 hw => ?_)
  refine go_aload_n C dX11_misses_4 0 rfl ?_
  refine go_getA C (cfX11) (k := 11) (Nat.le_of_ble_eq_true rfl) tw1_229 rfl dX11_misses_5 hw (fun a2 hw => ?_)
  refine go_iload_n C dX11_misses_8 1 rfl ?_
  refine go_iload_n C dX11_misses_9 2 rfl ?_
  refine go_pV_i C [iV p1, iV p2] vX2_missedIn tw7_28 (ci := 2) rfl (m_X2_missedIn (xl X) C.2.2.2.2.2.2.2.1 N hw.2) ⟨Nat.le_of_ble_eq_true rfl, Nat.le_of_ble_eq_true rfl, Nat.le_of_ble_eq_true rfl, Nat.le_of_ble_eq_true rfl⟩ ⟨rfl, rfl⟩ hw.1 dX11_misses_10 rfl (Nat.le_of_ble_eq_true rfl) rfl (fun v3 hw => ?_)
  refine go_istore_n C [(3, iV v3), (0, rV (some a0)), (1, iV p1), (2, iV p2)] dX11_misses_13 (Nat.le_of_ble_eq_true rfl) rfl ?_
  refine go_iload_n C dX11_misses_14 0 rfl ?_
  refine go_iconst C (-1) dX11_misses_15 kc_im1 ?_
  refine go_icmp_ne C 30 dX11_misses_16 (by decide) hw (fun hw => ?_) (fun hw => ?_)
  · refine go_iload_n C dX11_misses_30 0 rfl ?_
    exact go_xiret C dX11_misses_31 hw (Nat.le_of_ble_eq_true rfl) (Nat.le_of_ble_eq_true rfl)
  exact go_throwNW C hno tw7_32 dX11_misses_19 dX11_misses_22 dX11_misses_23 dX11_misses_26 dX11_misses_29 ⟨Nat.le_of_ble_eq_true rfl, Nat.le_of_ble_eq_true rfl, Nat.le_of_ble_eq_true rfl, Nat.le_of_ble_eq_true rfl⟩ (Nat.le_of_ble_eq_true rfl) ⟨Nat.le_of_ble_eq_true rfl, Nat.le_of_ble_eq_true rfl⟩ hw
/-- DuelSchema.total(I)I -/
def w_X11_total (N : Nat) (a0 : Nat) (p1 : Int32) (h0 : Hp) (K : Int32 → Hp → Prop) (KX : String → Hp → Prop) : Prop :=
  w_X11_checkDuellist N p1 h0 (fun h1 =>
  gA h1 a0 11 11 fun a2 =>
  cv h1 a2 2 <| w_X2_missedInAll N a2 p1 h1 fun v3 =>
  K v3 h1) KX
abbrev rmX11_total : Room := { frames := 9, cells := 1, slots := 6, locals := 160 }
theorem vX11_total : VI RX11 yX11_total cX11_total 2 (some .int) 1 := ⟨tw7_37, tw7_38, tw1_1, tw7_39, by decide +kernel⟩
set_option maxHeartbeats 4000000 in
theorem m_X11_total {G : Gp} (l : Launch) (hfl : l.stackTraces = false) (N : Nat) {a0 : Nat} {p1 : Int32} {h0 : Hp} {K : Int32 → Hp → Prop} {KX : String → Hp → Prop} (hw : w_X11_total N a0 p1 h0 K KX) : MX G l yX11_total cX11_total 2 (some .int) rmX11_total [rV (some a0), iV p1] h0 (QI G K) KX := by
  refine go_xmetT l hfl _ 2 _ _ rfl (by decide +kernel) (Nat.le_of_ble_eq_true rfl) [(0, rV (some a0)), (1, iV p1)] rfl (fun X hX C hno => ?_)
  subst hX
  unfold w_X11_total at hw
  refine go_iload_n C dX11_total_0 1 rfl ?_
  refine go_xcallS_v C hno [iV p1] vX11_checkDuellist tw6_141 (m_X11_checkDuellist (xl X) C.2.2.2.2.2.2.2.1 N hw) ⟨Nat.le_of_ble_eq_true rfl, Nat.le_of_ble_eq_true rfl, Nat.le_of_ble_eq_true rfl, Nat.le_of_ble_eq_true rfl⟩ ⟨Nat.le_of_ble_eq_true rfl, Nat.le_of_ble_eq_true rfl⟩ dX11_total_1 rfl (Nat.le_of_ble_eq_true rfl) rfl (fun h1 hw => ?_)
  refine go_aload_n C dX11_total_4 0 rfl ?_
  refine go_getA C (cfX11) (k := 11) (Nat.le_of_ble_eq_true rfl) tw1_229 rfl dX11_total_5 hw (fun a2 hw => ?_)
  refine go_iload_n C dX11_total_8 1 rfl ?_
  refine go_pV_i C [iV p1] vX2_missedInAll tw7_40 (ci := 2) rfl (m_X2_missedInAll (xl X) C.2.2.2.2.2.2.2.1 N hw.2) ⟨Nat.le_of_ble_eq_true rfl, Nat.le_of_ble_eq_true rfl, Nat.le_of_ble_eq_true rfl, Nat.le_of_ble_eq_true rfl⟩ ⟨rfl, rfl⟩ hw.1 dX11_total_9 rfl (Nat.le_of_ble_eq_true rfl) rfl (fun v3 hw => ?_)
  exact go_xiret C dX11_total_12 hw (Nat.le_of_ble_eq_true rfl) (Nat.le_of_ble_eq_true rfl)
/-- DuelSchema.rounds()I -/
def w_X11_rounds (N : Nat) (a0 : Nat) (h0 : Hp) (K : Int32 → Prop) : Prop :=
  gA h0 a0 11 11 fun a1 =>
  cv h0 a1 2 <| w_X2_roundCount N a1  h0 fun v2 =>
  K v2
abbrev rmX11_rounds : Room := { frames := 3, cells := 0, slots := 0, locals := 80 }
theorem vX11_rounds : VI RX11 yX11_rounds cX11_rounds 1 (some .int) 0 := ⟨tw2_36, tw2_37, tw1_1, tw2_38, by decide +kernel⟩
set_option maxHeartbeats 4000000 in
theorem m_X11_rounds {G : Gp} (l : Launch) (hfl : l.stackTraces = false) (N : Nat) {a0 : Nat} {h0 : Hp} {K : Int32 → Prop} (hw : w_X11_rounds N a0 h0 K) : MT G l yX11_rounds cX11_rounds 1 (some .int) rmX11_rounds [rV (some a0)] h0 (QI G (fun r h1 => h1 = h0 ∧ K r)) := by
  refine go_metT l hfl _ 1 _ _ rfl (by decide +kernel) (Nat.le_of_ble_eq_true rfl) [(0, rV (some a0))] rfl (fun X hX C hn => ?_)
  subst hX
  unfold w_X11_rounds at hw
  refine go_aload_n C dX11_rounds_0 0 rfl ?_
  refine go_getA C (cfX11) (k := 11) (Nat.le_of_ble_eq_true rfl) tw1_229 rfl dX11_rounds_1 hw (fun a1 hw => ?_)
  refine go_pV_i C [] vX2_roundCount tw2_39 (ci := 2) rfl (m_X2_roundCount (xl X) C.2.2.2.2.2.2.2.1 N hw.2) ⟨Nat.le_of_ble_eq_true rfl, Nat.le_of_ble_eq_true rfl, Nat.le_of_ble_eq_true rfl, Nat.le_of_ble_eq_true rfl⟩ ⟨rfl, rfl⟩ hw.1 dX11_rounds_4 rfl (Nat.le_of_ble_eq_true rfl) rfl (fun v2 hw => ?_)
  exact go_iret C dX11_rounds_7 ⟨rfl, hw⟩ (Nat.le_of_ble_eq_true rfl) (Nat.le_of_ble_eq_true rfl)
/-- DuelSchema.print()J -/
def w_X11_print (N : Nat) (a0 : Nat) (h0 : Hp) (K : Int64 → Prop) : Prop :=
  gA h0 a0 11 0 fun a1 =>
  cv h0 a1 9 <| w_X9_printFrom N a1 7 h0 fun v2 =>
  gA h0 a0 11 11 fun a3 =>
  cv h0 a3 2 <| w_X2_purseOf N a3 0 h0 fun v4 =>
  gA h0 a0 11 11 fun a5 =>
  cv h0 a5 2 <| w_X2_purseOf N a5 1 h0 fun v6 =>
  K ((31 * ((31 * v2) + ((v4 : Int32).toInt64))) + ((v6 : Int32).toInt64))
abbrev rmX11_print : Room := { frames := 5, cells := 0, slots := 0, locals := 135 }
theorem vX11_print : VI RX11 yX11_print cX11_print 3 (some .long) 0 := ⟨tw2_44, tw2_45, tw1_1, tw2_46, by decide +kernel⟩
set_option maxHeartbeats 4000000 in
theorem m_X11_print {G : Gp} (l : Launch) (hfl : l.stackTraces = false) (N : Nat) {a0 : Nat} {h0 : Hp} {K : Int64 → Prop} (hw : w_X11_print N a0 h0 K) : MT G l yX11_print cX11_print 3 (some .long) rmX11_print [rV (some a0)] h0 (QL G (fun r h1 => h1 = h0 ∧ K r)) := by
  refine go_metT l hfl _ 3 _ _ rfl (by decide +kernel) (Nat.le_of_ble_eq_true rfl) [(0, rV (some a0))] rfl (fun X hX C hn => ?_)
  subst hX
  unfold w_X11_print at hw
  refine go_aload_n C dX11_print_0 0 rfl ?_
  refine go_getA C (cfX11) (k := 0) (Nat.le_of_ble_eq_true rfl) tw1_218 rfl dX11_print_1 hw (fun a1 hw => ?_)
  refine go_ldc2 C 7 dX11_print_4 tw2_47 ?_
  refine go_pV_l C [lV 7] vX9_printFrom tw2_48 (ci := 9) rfl (m_X9_printFrom (xl X) C.2.2.2.2.2.2.2.1 N hw.2) ⟨Nat.le_of_ble_eq_true rfl, Nat.le_of_ble_eq_true rfl, Nat.le_of_ble_eq_true rfl, Nat.le_of_ble_eq_true rfl⟩ ⟨rfl, rfl⟩ hw.1 dX11_print_7 rfl (Nat.le_of_ble_eq_true rfl) rfl (fun v2 hw => ?_)
  refine go_lstore_n C [(1, lV v2), (0, rV (some a0))] dX11_print_10 (Nat.le_of_ble_eq_true rfl) rfl ?_
  refine go_ldc2 C 31 dX11_print_11 tw2_61 ?_
  refine go_lload_n C dX11_print_14 0 rfl ?_
  refine go_lmul C dX11_print_15 ?_
  refine go_aload_n C dX11_print_16 1 rfl ?_
  refine go_getA C (cfX11) (k := 11) (Nat.le_of_ble_eq_true rfl) tw1_229 rfl dX11_print_17 hw (fun a3 hw => ?_)
  refine go_iconst C 0 dX11_print_20 kc_i0 ?_
  refine go_pV_i C [iV 0] vX2_purseOf tw2_62 (ci := 2) rfl (m_X2_purseOf (xl X) C.2.2.2.2.2.2.2.1 N hw.2) ⟨Nat.le_of_ble_eq_true rfl, Nat.le_of_ble_eq_true rfl, Nat.le_of_ble_eq_true rfl, Nat.le_of_ble_eq_true rfl⟩ ⟨rfl, rfl⟩ hw.1 dX11_print_21 rfl (Nat.le_of_ble_eq_true rfl) rfl (fun v4 hw => ?_)
  refine go_i2l C dX11_print_24 ?_
  refine go_ladd C dX11_print_25 ?_
  refine go_lstore_n C [(1, lV ((31 * v2) + ((v4 : Int32).toInt64))), (0, rV (some a0))] dX11_print_26 (Nat.le_of_ble_eq_true rfl) rfl ?_
  refine go_ldc2 C 31 dX11_print_27 tw2_61 ?_
  refine go_lload_n C dX11_print_30 0 rfl ?_
  refine go_lmul C dX11_print_31 ?_
  refine go_aload_n C dX11_print_32 1 rfl ?_
  refine go_getA C (cfX11) (k := 11) (Nat.le_of_ble_eq_true rfl) tw1_229 rfl dX11_print_33 hw (fun a5 hw => ?_)
  refine go_iconst C 1 dX11_print_36 kc_i1 ?_
  refine go_pV_i C [iV 1] vX2_purseOf tw2_62 (ci := 2) rfl (m_X2_purseOf (xl X) C.2.2.2.2.2.2.2.1 N hw.2) ⟨Nat.le_of_ble_eq_true rfl, Nat.le_of_ble_eq_true rfl, Nat.le_of_ble_eq_true rfl, Nat.le_of_ble_eq_true rfl⟩ ⟨rfl, rfl⟩ hw.1 dX11_print_37 rfl (Nat.le_of_ble_eq_true rfl) rfl (fun v6 hw => ?_)
  refine go_i2l C dX11_print_40 ?_
  refine go_ladd C dX11_print_41 ?_
  exact go_lret C dX11_print_42 ⟨rfl, hw⟩ (Nat.le_of_ble_eq_true rfl) (Nat.le_of_ble_eq_true rfl)
/-- DuelSchema.hitShare(II)F -/
def w_X11_hitShare (N : Nat) (a0 : Nat) (p1 : Int32) (p2 : Int32) (h0 : Hp) (K : UInt32 → Hp → Prop) (KX : String → Hp → Prop) : Prop :=
  w_X11_checkDuellist N p1 h0 (fun h1 =>
  cv h1 a0 11 <| w_X11_needPositions N a0 p2 h1 (fun o2 h3 =>
  cv h3 a0 11 <| w_X11_runCold N a0 p1 o2 h3 fun h4 =>
  gA h4 a0 11 6 fun a5 =>
  cv h4 a5 8 <| w_X8_readCount N a5  h4 fun v6 =>
  br (0 < v6) (
    gA h4 a0 11 6 fun a7 =>
    cv h4 a7 8 <| w_X8_missCount N a7  h4 fun v8 =>
    ok (vf_n32 (FP.fdiv (FP.i2f (v6 - v8)) (FP.i2f v6))) (
    K (FP.fdiv (FP.i2f (v6 - v8)) (FP.i2f v6)) h4)) (
    KX "java/lang/ArithmeticException" h4)) KX) KX
abbrev rmX11_hitShare : Room := { frames := 43, cells := 4, slots := 24, locals := 1369 }
theorem vX11_hitShare : VI RX11 yX11_hitShare cX11_hitShare 4 (some .float) 2 := ⟨tw7_63, tw7_64, tw1_1, tw7_65, by decide +kernel⟩
set_option maxHeartbeats 4000000 in
theorem m_X11_hitShare {G : Gp} (l : Launch) (hfl : l.stackTraces = false) (N : Nat) {a0 : Nat} {p1 : Int32} {p2 : Int32} {h0 : Hp} {K : UInt32 → Hp → Prop} {KX : String → Hp → Prop} (hw : w_X11_hitShare N a0 p1 p2 h0 K KX) : MX G l yX11_hitShare cX11_hitShare 4 (some .float) rmX11_hitShare [rV (some a0), iV p1, iV p2] h0 (QF G K) KX := by
  refine go_xmetT l hfl _ 4 _ _ rfl (by decide +kernel) (Nat.le_of_ble_eq_true rfl) [(0, rV (some a0)), (1, iV p1), (2, iV p2)] rfl (fun X hX C hno => ?_)
  subst hX
  unfold w_X11_hitShare at hw
  refine go_iload_n C dX11_hitShare_0 1 rfl ?_
  refine go_xcallS_v C hno [iV p1] vX11_checkDuellist tw6_141 (m_X11_checkDuellist (xl X) C.2.2.2.2.2.2.2.1 N hw) ⟨Nat.le_of_ble_eq_true rfl, Nat.le_of_ble_eq_true rfl, Nat.le_of_ble_eq_true rfl, Nat.le_of_ble_eq_true rfl⟩ ⟨Nat.le_of_ble_eq_true rfl, Nat.le_of_ble_eq_true rfl⟩ dX11_hitShare_1 rfl (Nat.le_of_ble_eq_true rfl) rfl (fun h1 hw => ?_)
  refine go_aload_n C dX11_hitShare_4 0 rfl ?_
  refine go_iload_n C dX11_hitShare_5 1 rfl ?_
  refine go_aload_n C dX11_hitShare_6 0 rfl ?_
  refine go_iload_n C dX11_hitShare_7 2 rfl ?_
  refine go_xcallV_q C hno [iV p2] vX11_needPositions tw6_81 (ci := 11) rfl (m_X11_needPositions (xl X) C.2.2.2.2.2.2.2.1 N hw.2) ⟨Nat.le_of_ble_eq_true rfl, Nat.le_of_ble_eq_true rfl, Nat.le_of_ble_eq_true rfl, Nat.le_of_ble_eq_true rfl⟩ ⟨Nat.le_of_ble_eq_true rfl, Nat.le_of_ble_eq_true rfl⟩ hw.1 dX11_hitShare_8 rfl (Nat.le_of_ble_eq_true rfl) rfl (fun o2 h3 hw => ?_)
  refine go_c0V_v C [iV p1, rV o2] vX11_runCold tw6_177 (ci := 11) rfl (m_X11_runCold (xl X) C.2.2.2.2.2.2.2.1 N hw.2) ⟨Nat.le_of_ble_eq_true rfl, Nat.le_of_ble_eq_true rfl, Nat.le_of_ble_eq_true rfl, Nat.le_of_ble_eq_true rfl⟩ ⟨rfl, rfl⟩ hw.1 dX11_hitShare_11 rfl (Nat.le_of_ble_eq_true rfl) rfl (fun h4 hw => ?_)
  refine go_aload_n C dX11_hitShare_14 0 rfl ?_
  refine go_getA C (cfX11) (k := 6) (Nat.le_of_ble_eq_true rfl) tw1_224 rfl dX11_hitShare_15 hw (fun a5 hw => ?_)
  refine go_pV_i C [] vX8_readCount tw3_236 (ci := 8) rfl (m_X8_readCount (xl X) C.2.2.2.2.2.2.2.1 N hw.2) ⟨Nat.le_of_ble_eq_true rfl, Nat.le_of_ble_eq_true rfl, Nat.le_of_ble_eq_true rfl, Nat.le_of_ble_eq_true rfl⟩ ⟨rfl, rfl⟩ hw.1 dX11_hitShare_18 rfl (Nat.le_of_ble_eq_true rfl) rfl (fun v6 hw => ?_)
  refine go_istore_n C [(3, iV v6), (0, rV (some a0)), (1, iV p1), (2, iV p2)] dX11_hitShare_21 (Nat.le_of_ble_eq_true rfl) rfl ?_
  refine go_iload_n C dX11_hitShare_22 0 rfl ?_
  refine go_if_gt C 37 dX11_hitShare_23 (by decide) hw (fun hw => ?_) (fun hw => ?_)
  · refine go_iload_n C dX11_hitShare_37 0 rfl ?_
    refine go_aload_n C dX11_hitShare_38 1 rfl ?_
    refine go_getA C (cfX11) (k := 6) (Nat.le_of_ble_eq_true rfl) tw1_224 rfl dX11_hitShare_39 hw (fun a7 hw => ?_)
    refine go_pV_i C [] vX8_missCount tw3_232 (ci := 8) rfl (m_X8_missCount (xl X) C.2.2.2.2.2.2.2.1 N hw.2) ⟨Nat.le_of_ble_eq_true rfl, Nat.le_of_ble_eq_true rfl, Nat.le_of_ble_eq_true rfl, Nat.le_of_ble_eq_true rfl⟩ ⟨rfl, rfl⟩ hw.1 dX11_hitShare_42 rfl (Nat.le_of_ble_eq_true rfl) rfl (fun v8 hw => ?_)
    refine go_isub C dX11_hitShare_45 ?_
    refine go_i2f C dX11_hitShare_46 ?_
    refine go_iload_n C dX11_hitShare_47 0 rfl ?_
    refine go_i2f C dX11_hitShare_48 ?_
    refine go_fdiv C dX11_hitShare_49 hw (fun hw => ?_)
    exact go_xfret C dX11_hitShare_50 hw (Nat.le_of_ble_eq_true rfl) (Nat.le_of_ble_eq_true rfl)
  exact go_throwW C hno ex384_388 tw7_67 dX11_hitShare_26 dX11_hitShare_29 dX11_hitShare_30 dX11_hitShare_33 dX11_hitShare_36 ⟨Nat.le_of_ble_eq_true rfl, Nat.le_of_ble_eq_true rfl, Nat.le_of_ble_eq_true rfl, Nat.le_of_ble_eq_true rfl⟩ (Nat.le_of_ble_eq_true rfl) ⟨Nat.le_of_ble_eq_true rfl, Nat.le_of_ble_eq_true rfl⟩ hw
/-- DuelSchema.meanMisses()D -/
def w_X11_meanMisses (N : Nat) (a0 : Nat) (h0 : Hp) (K : UInt64 → Hp → Prop) (KX : String → Hp → Prop) : Prop :=
  gA h0 a0 11 11 fun a1 =>
  cv h0 a1 2 <| w_X2_roundCount N a1  h0 fun v2 =>
  br (0 < v2) (
    gA h0 a0 11 11 fun a3 =>
    cv h0 a3 2 <| w_X2_missedInAll N a3 0 h0 fun v4 =>
    gA h0 a0 11 11 fun a5 =>
    cv h0 a5 2 <| w_X2_missedInAll N a5 1 h0 fun v6 =>
    ok (vf_n64 (FP.ddiv (FP.i2d (v4 + v6)) (FP.i2d (2 * v2)))) (
    K (FP.ddiv (FP.i2d (v4 + v6)) (FP.i2d (2 * v2))) h0)) (
    KX "java/lang/ArithmeticException" h0)
abbrev rmX11_meanMisses : Room := { frames := 8, cells := 1, slots := 6, locals := 140 }
theorem vX11_meanMisses : VI RX11 yX11_meanMisses cX11_meanMisses 2 (some .double) 0 := ⟨tw7_73, tw7_74, tw1_1, tw7_75, by decide +kernel⟩
set_option maxHeartbeats 4000000 in
theorem m_X11_meanMisses {G : Gp} (l : Launch) (hfl : l.stackTraces = false) (N : Nat) {a0 : Nat} {h0 : Hp} {K : UInt64 → Hp → Prop} {KX : String → Hp → Prop} (hw : w_X11_meanMisses N a0 h0 K KX) : MX G l yX11_meanMisses cX11_meanMisses 2 (some .double) rmX11_meanMisses [rV (some a0)] h0 (QD G K) KX := by
  refine go_xmetT l hfl _ 2 _ _ rfl (by decide +kernel) (Nat.le_of_ble_eq_true rfl) [(0, rV (some a0))] rfl (fun X hX C hno => ?_)
  subst hX
  unfold w_X11_meanMisses at hw
  refine go_aload_n C dX11_meanMisses_0 0 rfl ?_
  refine go_getA C (cfX11) (k := 11) (Nat.le_of_ble_eq_true rfl) tw1_229 rfl dX11_meanMisses_1 hw (fun a1 hw => ?_)
  refine go_pV_i C [] vX2_roundCount tw2_39 (ci := 2) rfl (m_X2_roundCount (xl X) C.2.2.2.2.2.2.2.1 N hw.2) ⟨Nat.le_of_ble_eq_true rfl, Nat.le_of_ble_eq_true rfl, Nat.le_of_ble_eq_true rfl, Nat.le_of_ble_eq_true rfl⟩ ⟨rfl, rfl⟩ hw.1 dX11_meanMisses_4 rfl (Nat.le_of_ble_eq_true rfl) rfl (fun v2 hw => ?_)
  refine go_istore_n C [(1, iV v2), (0, rV (some a0))] dX11_meanMisses_7 (Nat.le_of_ble_eq_true rfl) rfl ?_
  refine go_iload_n C dX11_meanMisses_8 0 rfl ?_
  refine go_if_gt C 23 dX11_meanMisses_9 (by decide) hw (fun hw => ?_) (fun hw => ?_)
  · refine go_aload_n C dX11_meanMisses_23 1 rfl ?_
    refine go_getA C (cfX11) (k := 11) (Nat.le_of_ble_eq_true rfl) tw1_229 rfl dX11_meanMisses_24 hw (fun a3 hw => ?_)
    refine go_iconst C 0 dX11_meanMisses_27 kc_i0 ?_
    refine go_pV_i C [iV 0] vX2_missedInAll tw7_40 (ci := 2) rfl (m_X2_missedInAll (xl X) C.2.2.2.2.2.2.2.1 N hw.2) ⟨Nat.le_of_ble_eq_true rfl, Nat.le_of_ble_eq_true rfl, Nat.le_of_ble_eq_true rfl, Nat.le_of_ble_eq_true rfl⟩ ⟨rfl, rfl⟩ hw.1 dX11_meanMisses_28 rfl (Nat.le_of_ble_eq_true rfl) rfl (fun v4 hw => ?_)
    refine go_aload_n C dX11_meanMisses_31 1 rfl ?_
    refine go_getA C (cfX11) (k := 11) (Nat.le_of_ble_eq_true rfl) tw1_229 rfl dX11_meanMisses_32 hw (fun a5 hw => ?_)
    refine go_iconst C 1 dX11_meanMisses_35 kc_i1 ?_
    refine go_pV_i C [iV 1] vX2_missedInAll tw7_40 (ci := 2) rfl (m_X2_missedInAll (xl X) C.2.2.2.2.2.2.2.1 N hw.2) ⟨Nat.le_of_ble_eq_true rfl, Nat.le_of_ble_eq_true rfl, Nat.le_of_ble_eq_true rfl, Nat.le_of_ble_eq_true rfl⟩ ⟨rfl, rfl⟩ hw.1 dX11_meanMisses_36 rfl (Nat.le_of_ble_eq_true rfl) rfl (fun v6 hw => ?_)
    refine go_iadd C dX11_meanMisses_39 ?_
    refine go_i2d C dX11_meanMisses_40 ?_
    refine go_iconst C 2 dX11_meanMisses_41 kc_i2 ?_
    refine go_iload_n C dX11_meanMisses_42 0 rfl ?_
    refine go_imul C dX11_meanMisses_43 ?_
    refine go_i2d C dX11_meanMisses_44 ?_
    refine go_ddiv C dX11_meanMisses_45 hw (fun hw => ?_)
    exact go_xdret C dX11_meanMisses_46 hw (Nat.le_of_ble_eq_true rfl) (Nat.le_of_ble_eq_true rfl)
  exact go_throwW C hno ex384_388 tw7_76 dX11_meanMisses_12 dX11_meanMisses_15 dX11_meanMisses_16 dX11_meanMisses_19 dX11_meanMisses_22 ⟨Nat.le_of_ble_eq_true rfl, Nat.le_of_ble_eq_true rfl, Nat.le_of_ble_eq_true rfl, Nat.le_of_ble_eq_true rfl⟩ (Nat.le_of_ble_eq_true rfl) ⟨Nat.le_of_ble_eq_true rfl, Nat.le_of_ble_eq_true rfl⟩ hw
/-- DuelSchema.bothPlansFind(LDuelSchema$Query;)Z -/
def w_X11_bothPlansFind (N : Nat) (a0 : Nat) (p1 : Option Nat) (h0 : Hp) (K : Int32 → Hp → Prop) : Prop :=
  gA h0 a0 11 6 fun a1 =>
  cv h0 a1 8 <| w_X8_tryAllRows N a1 p1 (-1) 0 0 h0 fun h2 =>
  gA h2 a0 11 6 fun a3 =>
  cv h2 a3 8 <| w_X8_foundCount N a3  h2 fun v4 =>
  gA h2 a0 11 6 fun a5 =>
  cv h2 a5 8 <| w_X8_foundMark N a5  h2 fun v6 =>
  fx2 (fun (w30 : Int32 → Hp → Prop) (x8 : Int32) (h7 : Hp) =>
    br (2 ≤ x8) (
      K 1 h7) (
      gA h7 a0 11 5 fun a9 =>
      gA h7 a0 11 7 fun a10 =>
      gA h7 a0 11 0 fun a11 =>
      gA h7 a0 11 11 fun a12 =>
      cv h7 a12 2 <| w_X2_bansFor N a12 x8 h7 fun v13 =>
      cv h7 a9 6 <| w_X6_draw N a9 (some a10) x8 (some a11) p1 v13 h7 fun h14 =>
      gA h14 a0 11 6 fun a15 =>
      gA h14 a0 11 0 fun a16 =>
      gA h14 a0 11 7 fun a17 =>
      cv h14 a0 11 <| w_X11_emptyTrial N a0  h14 fun o18 h19 =>
      cv h19 a15 8 <| w_X8_follow N a15 (some a16) p1 (some a17) o18 h19 fun v20 h21 =>
      gA h21 a0 11 6 fun a22 =>
      cv h21 a22 8 <| w_X8_foundCount N a22  h21 fun v23 =>
      jn (fun (v24 : Int32) => 
        br (v24 = 0) (
          K 0 h21) (
          gA h21 a0 11 6 fun a25 =>
          cv h21 a25 8 <| w_X8_missCount N a25  h21 fun v26 =>
          gA h21 a0 11 6 fun a27 =>
          cv h21 a27 8 <| w_X8_readCount N a27  h21 fun v28 =>
          br (v28 < v26) (
            K 0 h21) (
            gA h21 a0 11 7 fun a29 =>
            gA h21 a0 11 11 fun a30 =>
            cv h21 a30 2 <| w_X2_bansFor N a30 x8 h21 fun v31 =>
            cv h21 a29 5 <| w_X5_usesAnyOf N a29 v31 h21 fun v32 =>
            br (v32 = 0) (
              w30 (x8 + 1) h21) (
              K 0 h21)))) (fun j112 =>
      jn (
        j112 0) (fun j111 =>
      br (v23 = v4) (
        gA h21 a0 11 6 fun a33 =>
        cv h21 a33 8 <| w_X8_foundMark N a33  h21 fun v34 =>
        br ((lg_cmp v34 v6) = 0) (
          j112 1) (
          j111 )) (
        j111 ))))) N 0 h2
abbrev rmX11_bothPlansFind : Room := { frames := 42, cells := 0, slots := 0, locals := 1347 }
theorem vX11_bothPlansFind : VI RX11 yX11_bothPlansFind cX11_bothPlansFind 7 (some .boolean) 1 := ⟨tw2_113, tp1, tw1_1, tw2_114, by decide +kernel⟩
set_option maxHeartbeats 4000000 in
theorem m_X11_bothPlansFind {G : Gp} (l : Launch) (hfl : l.stackTraces = false) (N : Nat) {a0 : Nat} {p1 : Option Nat} {h0 : Hp} {K : Int32 → Hp → Prop} (hw : w_X11_bothPlansFind N a0 p1 h0 K) : MT G l yX11_bothPlansFind cX11_bothPlansFind 7 (some .boolean) rmX11_bothPlansFind [rV (some a0), rV p1] h0 (QI G K) := by
  refine go_metT l hfl _ 7 _ _ rfl (by decide +kernel) (Nat.le_of_ble_eq_true rfl) [(0, rV (some a0)), (1, rV p1)] rfl (fun X hX C hn => ?_)
  subst hX
  unfold w_X11_bothPlansFind at hw
  refine go_aload_n C dX11_bothPlansFind_0 0 rfl ?_
  refine go_getA C (cfX11) (k := 6) (Nat.le_of_ble_eq_true rfl) tw1_224 rfl dX11_bothPlansFind_1 hw (fun a1 hw => ?_)
  refine go_aload_n C dX11_bothPlansFind_4 1 rfl ?_
  refine go_iconst C (-1) dX11_bothPlansFind_5 kc_im1 ?_
  refine go_iconst C 0 dX11_bothPlansFind_6 kc_i0 ?_
  refine go_iconst C 0 dX11_bothPlansFind_7 kc_i0 ?_
  refine go_c0V_v C [rV p1, iV (-1), iV 0, iV 0] vX8_tryAllRows tw2_115 (ci := 8) rfl (m_X8_tryAllRows (xl X) C.2.2.2.2.2.2.2.1 N hw.2) ⟨Nat.le_of_ble_eq_true rfl, Nat.le_of_ble_eq_true rfl, Nat.le_of_ble_eq_true rfl, Nat.le_of_ble_eq_true rfl⟩ ⟨rfl, rfl⟩ hw.1 dX11_bothPlansFind_8 rfl (Nat.le_of_ble_eq_true rfl) rfl (fun h2 hw => ?_)
  refine go_aload_n C dX11_bothPlansFind_11 0 rfl ?_
  refine go_getA C (cfX11) (k := 6) (Nat.le_of_ble_eq_true rfl) tw1_224 rfl dX11_bothPlansFind_12 hw (fun a3 hw => ?_)
  refine go_pV_i C [] vX8_foundCount tw3_58 (ci := 8) rfl (m_X8_foundCount (xl X) C.2.2.2.2.2.2.2.1 N hw.2) ⟨Nat.le_of_ble_eq_true rfl, Nat.le_of_ble_eq_true rfl, Nat.le_of_ble_eq_true rfl, Nat.le_of_ble_eq_true rfl⟩ ⟨rfl, rfl⟩ hw.1 dX11_bothPlansFind_15 rfl (Nat.le_of_ble_eq_true rfl) rfl (fun v4 hw => ?_)
  refine go_istore_n C [(2, iV v4), (0, rV (some a0)), (1, rV p1)] dX11_bothPlansFind_18 (Nat.le_of_ble_eq_true rfl) rfl ?_
  refine go_aload_n C dX11_bothPlansFind_19 1 rfl ?_
  refine go_getA C (cfX11) (k := 6) (Nat.le_of_ble_eq_true rfl) tw1_224 rfl dX11_bothPlansFind_20 hw (fun a5 hw => ?_)
  refine go_pV_l C [] vX8_foundMark tw3_62 (ci := 8) rfl (m_X8_foundMark (xl X) C.2.2.2.2.2.2.2.1 N hw.2) ⟨Nat.le_of_ble_eq_true rfl, Nat.le_of_ble_eq_true rfl, Nat.le_of_ble_eq_true rfl, Nat.le_of_ble_eq_true rfl⟩ ⟨rfl, rfl⟩ hw.1 dX11_bothPlansFind_23 rfl (Nat.le_of_ble_eq_true rfl) rfl (fun v6 hw => ?_)
  refine go_lstore_n C [(3, lV v6), (2, iV v4), (0, rV (some a0)), (1, rV p1)] dX11_bothPlansFind_26 (Nat.le_of_ble_eq_true rfl) rfl ?_
  refine go_iconst C 0 dX11_bothPlansFind_27 kc_i0 ?_
  refine go_istore C [(5, iV 0), (3, lV v6), (2, iV v4), (0, rV (some a0)), (1, rV p1)] dX11_bothPlansFind_28 (Nat.le_of_ble_eq_true rfl) rfl ?_
  refine go_sub [3, 4, 2, 1, 0] rfl ?_
  refine fx2_elim (P := fun x8 h7 => Go G X rmX11_bothPlansFind 7 0 0 (QN G X (QI G K) rmX11_bothPlansFind) h7 30 [(0, rV (some a0)), (1, rV p1), (2, iV v4), (3, lV v6), (5, iV x8)] []) (fun w30 hj30 x8 h7 hw => ?_) N _ _ hw
  refine go_iload C dX11_bothPlansFind_30 4 rfl ?_
  refine go_iconst C 2 dX11_bothPlansFind_32 kc_i2 ?_
  refine go_icmp_ge C 163 dX11_bothPlansFind_33 (by decide) hw (fun hw => ?_) (fun hw => ?_)
  · refine go_iconst C 1 dX11_bothPlansFind_163 kc_i1 ?_
    exact go_zret C dX11_bothPlansFind_164 ⟨rfl, hw⟩ (Nat.le_of_ble_eq_true rfl) (Nat.le_of_ble_eq_true rfl)
  refine go_aload_n C dX11_bothPlansFind_36 0 rfl ?_
  refine go_getA C (cfX11) (k := 5) (Nat.le_of_ble_eq_true rfl) tw1_223 rfl dX11_bothPlansFind_37 hw (fun a9 hw => ?_)
  refine go_aload_n C dX11_bothPlansFind_40 0 rfl ?_
  refine go_getA C (cfX11) (k := 7) (Nat.le_of_ble_eq_true rfl) tw1_225 rfl dX11_bothPlansFind_41 hw (fun a10 hw => ?_)
  refine go_iload C dX11_bothPlansFind_44 4 rfl ?_
  refine go_aload_n C dX11_bothPlansFind_46 0 rfl ?_
  refine go_getA C (cfX11) (k := 0) (Nat.le_of_ble_eq_true rfl) tw1_218 rfl dX11_bothPlansFind_47 hw (fun a11 hw => ?_)
  refine go_aload_n C dX11_bothPlansFind_50 1 rfl ?_
  refine go_aload_n C dX11_bothPlansFind_51 0 rfl ?_
  refine go_getA C (cfX11) (k := 11) (Nat.le_of_ble_eq_true rfl) tw1_229 rfl dX11_bothPlansFind_52 hw (fun a12 hw => ?_)
  refine go_iload C dX11_bothPlansFind_55 4 rfl ?_
  refine go_pV_i C [iV x8] vX2_bansFor tw3_66 (ci := 2) rfl (m_X2_bansFor (xl X) C.2.2.2.2.2.2.2.1 N hw.2) ⟨Nat.le_of_ble_eq_true rfl, Nat.le_of_ble_eq_true rfl, Nat.le_of_ble_eq_true rfl, Nat.le_of_ble_eq_true rfl⟩ ⟨rfl, rfl⟩ hw.1 dX11_bothPlansFind_57 rfl (Nat.le_of_ble_eq_true rfl) rfl (fun v13 hw => ?_)
  refine go_c0V_v C [rV (some a10), iV x8, rV (some a11), rV p1, iV v13] vX6_draw tw3_70 (ci := 6) rfl (m_X6_draw (xl X) C.2.2.2.2.2.2.2.1 N hw.2) ⟨Nat.le_of_ble_eq_true rfl, Nat.le_of_ble_eq_true rfl, Nat.le_of_ble_eq_true rfl, Nat.le_of_ble_eq_true rfl⟩ ⟨rfl, rfl⟩ hw.1 dX11_bothPlansFind_60 rfl (Nat.le_of_ble_eq_true rfl) rfl (fun h14 hw => ?_)
  refine go_aload_n C dX11_bothPlansFind_63 0 rfl ?_
  refine go_getA C (cfX11) (k := 6) (Nat.le_of_ble_eq_true rfl) tw1_224 rfl dX11_bothPlansFind_64 hw (fun a15 hw => ?_)
  refine go_aload_n C dX11_bothPlansFind_67 0 rfl ?_
  refine go_getA C (cfX11) (k := 0) (Nat.le_of_ble_eq_true rfl) tw1_218 rfl dX11_bothPlansFind_68 hw (fun a16 hw => ?_)
  refine go_aload_n C dX11_bothPlansFind_71 1 rfl ?_
  refine go_aload_n C dX11_bothPlansFind_72 0 rfl ?_
  refine go_getA C (cfX11) (k := 7) (Nat.le_of_ble_eq_true rfl) tw1_225 rfl dX11_bothPlansFind_73 hw (fun a17 hw => ?_)
  refine go_aload_n C dX11_bothPlansFind_76 0 rfl ?_
  refine go_c0V_q C [] vX11_emptyTrial tw3_216 (ci := 11) rfl (m_X11_emptyTrial (xl X) C.2.2.2.2.2.2.2.1 N hw.2) ⟨Nat.le_of_ble_eq_true rfl, Nat.le_of_ble_eq_true rfl, Nat.le_of_ble_eq_true rfl, Nat.le_of_ble_eq_true rfl⟩ ⟨rfl, rfl⟩ hw.1 dX11_bothPlansFind_77 rfl (Nat.le_of_ble_eq_true rfl) rfl (fun o18 h19 hw => ?_)
  refine go_c0V_i C [rV (some a16), rV p1, rV (some a17), rV o18] vX8_follow tw3_228 (ci := 8) rfl (m_X8_follow (xl X) C.2.2.2.2.2.2.2.1 N hw.2) ⟨Nat.le_of_ble_eq_true rfl, Nat.le_of_ble_eq_true rfl, Nat.le_of_ble_eq_true rfl, Nat.le_of_ble_eq_true rfl⟩ ⟨rfl, rfl⟩ hw.1 dX11_bothPlansFind_80 rfl (Nat.le_of_ble_eq_true rfl) rfl (fun v20 h21 hw => ?_)
  refine go_pop C _ dX11_bothPlansFind_83 rfl ?_
  refine go_aload_n C dX11_bothPlansFind_84 0 rfl ?_
  refine go_getA C (cfX11) (k := 6) (Nat.le_of_ble_eq_true rfl) tw1_224 rfl dX11_bothPlansFind_85 hw (fun a22 hw => ?_)
  refine go_pV_i C [] vX8_foundCount tw3_58 (ci := 8) rfl (m_X8_foundCount (xl X) C.2.2.2.2.2.2.2.1 N hw.2) ⟨Nat.le_of_ble_eq_true rfl, Nat.le_of_ble_eq_true rfl, Nat.le_of_ble_eq_true rfl, Nat.le_of_ble_eq_true rfl⟩ ⟨rfl, rfl⟩ hw.1 dX11_bothPlansFind_88 rfl (Nat.le_of_ble_eq_true rfl) rfl (fun v23 hw => ?_)
  refine go_iload_n C dX11_bothPlansFind_91 2 rfl ?_
  refine jn_elim (P := fun j => ∀ (v24 : Int32), j v24 → Go G X rmX11_bothPlansFind 7 0 0 (QN G X (QI G K) rmX11_bothPlansFind) h21 112 [(0, rV (some a0)), (1, rV p1), (2, iV v4), (3, lV v6), (5, iV x8)] [iV v24]) hw (fun v24 hw => ?_) (fun j112 hj112 hw => ?_)
  · refine go_istore C [(6, iV v24), (0, rV (some a0)), (1, rV p1), (2, iV v4), (3, lV v6), (5, iV x8)] dX11_bothPlansFind_112 (Nat.le_of_ble_eq_true rfl) rfl ?_
    refine go_iload C dX11_bothPlansFind_114 0 rfl ?_
    refine go_if_eq C 155 dX11_bothPlansFind_116 (by decide) hw (fun hw => ?_) (fun hw => ?_)
    · refine go_iconst C 0 dX11_bothPlansFind_155 kc_i0 ?_
      exact go_zret C dX11_bothPlansFind_156 ⟨rfl, hw⟩ (Nat.le_of_ble_eq_true rfl) (Nat.le_of_ble_eq_true rfl)
    refine go_aload_n C dX11_bothPlansFind_119 1 rfl ?_
    refine go_getA C (cfX11) (k := 6) (Nat.le_of_ble_eq_true rfl) tw1_224 rfl dX11_bothPlansFind_120 hw (fun a25 hw => ?_)
    refine go_pV_i C [] vX8_missCount tw3_232 (ci := 8) rfl (m_X8_missCount (xl X) C.2.2.2.2.2.2.2.1 N hw.2) ⟨Nat.le_of_ble_eq_true rfl, Nat.le_of_ble_eq_true rfl, Nat.le_of_ble_eq_true rfl, Nat.le_of_ble_eq_true rfl⟩ ⟨rfl, rfl⟩ hw.1 dX11_bothPlansFind_123 rfl (Nat.le_of_ble_eq_true rfl) rfl (fun v26 hw => ?_)
    refine go_aload_n C dX11_bothPlansFind_126 1 rfl ?_
    refine go_getA C (cfX11) (k := 6) (Nat.le_of_ble_eq_true rfl) tw1_224 rfl dX11_bothPlansFind_127 hw (fun a27 hw => ?_)
    refine go_pV_i C [] vX8_readCount tw3_236 (ci := 8) rfl (m_X8_readCount (xl X) C.2.2.2.2.2.2.2.1 N hw.2) ⟨Nat.le_of_ble_eq_true rfl, Nat.le_of_ble_eq_true rfl, Nat.le_of_ble_eq_true rfl, Nat.le_of_ble_eq_true rfl⟩ ⟨rfl, rfl⟩ hw.1 dX11_bothPlansFind_130 rfl (Nat.le_of_ble_eq_true rfl) rfl (fun v28 hw => ?_)
    refine go_icmp_gt C 155 dX11_bothPlansFind_133 (by decide) hw (fun hw => ?_) (fun hw => ?_)
    · refine go_iconst C 0 dX11_bothPlansFind_155 kc_i0 ?_
      exact go_zret C dX11_bothPlansFind_156 ⟨rfl, hw⟩ (Nat.le_of_ble_eq_true rfl) (Nat.le_of_ble_eq_true rfl)
    refine go_aload_n C dX11_bothPlansFind_136 1 rfl ?_
    refine go_getA C (cfX11) (k := 7) (Nat.le_of_ble_eq_true rfl) tw1_225 rfl dX11_bothPlansFind_137 hw (fun a29 hw => ?_)
    refine go_aload_n C dX11_bothPlansFind_140 1 rfl ?_
    refine go_getA C (cfX11) (k := 11) (Nat.le_of_ble_eq_true rfl) tw1_229 rfl dX11_bothPlansFind_141 hw (fun a30 hw => ?_)
    refine go_iload C dX11_bothPlansFind_144 5 rfl ?_
    refine go_pV_i C [iV x8] vX2_bansFor tw3_66 (ci := 2) rfl (m_X2_bansFor (xl X) C.2.2.2.2.2.2.2.1 N hw.2) ⟨Nat.le_of_ble_eq_true rfl, Nat.le_of_ble_eq_true rfl, Nat.le_of_ble_eq_true rfl, Nat.le_of_ble_eq_true rfl⟩ ⟨rfl, rfl⟩ hw.1 dX11_bothPlansFind_146 rfl (Nat.le_of_ble_eq_true rfl) rfl (fun v31 hw => ?_)
    refine go_pV_i C [iV v31] vX5_usesAnyOf tw4_0 (ci := 5) rfl (m_X5_usesAnyOf (xl X) C.2.2.2.2.2.2.2.1 N hw.2) ⟨Nat.le_of_ble_eq_true rfl, Nat.le_of_ble_eq_true rfl, Nat.le_of_ble_eq_true rfl, Nat.le_of_ble_eq_true rfl⟩ ⟨rfl, rfl⟩ hw.1 dX11_bothPlansFind_149 rfl (Nat.le_of_ble_eq_true rfl) rfl (fun v32 hw => ?_)
    refine go_if_eq C 157 dX11_bothPlansFind_152 (by decide) hw (fun hw => ?_) (fun hw => ?_)
    · refine go_iinc C (x8 + 1) [(5, iV (x8 + 1)), (6, iV v24), (0, rV (some a0)), (1, rV p1), (2, iV v4), (3, lV v6)] dX11_bothPlansFind_157 5 rfl (by rw [kc_i1]) (Nat.le_of_ble_eq_true rfl) rfl ?_
      refine go_goto C 30 dX11_bothPlansFind_160 (by decide) ?_
      refine go_sub [2, 3, 4, 5, 0] rfl ?_
      exact hj30 (x8 + 1) h21 hw
    refine go_iconst C 0 dX11_bothPlansFind_155 kc_i0 ?_
    exact go_zret C dX11_bothPlansFind_156 ⟨rfl, hw⟩ (Nat.le_of_ble_eq_true rfl) (Nat.le_of_ble_eq_true rfl)
  refine jn_elim (P := fun j => j  → Go G X rmX11_bothPlansFind 7 0 0 (QN G X (QI G K) rmX11_bothPlansFind) h21 111 [(0, rV (some a0)), (1, rV p1), (2, iV v4), (3, lV v6), (5, iV x8)] []) hw (fun  hw => ?_) (fun j111 hj111 hw => ?_)
  · refine go_iconst C 0 dX11_bothPlansFind_111 kc_i0 ?_
    exact hj112 0 hw
  refine go_icmp_ne C 111 dX11_bothPlansFind_92 (by decide) hw (fun hw => ?_) (fun hw => ?_)
  · exact hj111  hw
  refine go_aload_n C dX11_bothPlansFind_95 0 rfl ?_
  refine go_getA C (cfX11) (k := 6) (Nat.le_of_ble_eq_true rfl) tw1_224 rfl dX11_bothPlansFind_96 hw (fun a33 hw => ?_)
  refine go_pV_l C [] vX8_foundMark tw3_62 (ci := 8) rfl (m_X8_foundMark (xl X) C.2.2.2.2.2.2.2.1 N hw.2) ⟨Nat.le_of_ble_eq_true rfl, Nat.le_of_ble_eq_true rfl, Nat.le_of_ble_eq_true rfl, Nat.le_of_ble_eq_true rfl⟩ ⟨rfl, rfl⟩ hw.1 dX11_bothPlansFind_99 rfl (Nat.le_of_ble_eq_true rfl) rfl (fun v34 hw => ?_)
  refine go_lload_n C dX11_bothPlansFind_102 3 rfl ?_
  refine go_lcmp C dX11_bothPlansFind_103 ?_
  refine go_if_ne C 111 dX11_bothPlansFind_104 (by decide) hw (fun hw => ?_) (fun hw => ?_)
  · exact hj111  hw
  refine go_iconst C 1 dX11_bothPlansFind_107 kc_i1 ?_
  refine go_goto C 112 dX11_bothPlansFind_108 (by decide) ?_
  exact hj112 1 hw
/-- DuelSchema.isSound()Z -/
def w_X11_isSound (N : Nat) (a0 : Nat) (h0 : Hp) (K : Int32 → Hp → Prop) : Prop :=
  gA h0 a0 11 3 fun a1 =>
  cv h0 a1 0 <| w_X0_isTidy N a1  h0 fun v2 =>
  jn (fun (v3 : Int32) => 
    fx3 (fun (w28 : Int32 → Int32 → Hp → Prop) (x5 : Int32) (x6 : Int32) (h4 : Hp) =>
      br (x5 = 0) (
        ok (narrow .boolean (.int x5) = .int x5) <| K x5 h4) (
        gA h4 a0 11 1 fun a7 =>
        aN h4 a7 fun v8 =>
        br (v8 ≤ x6) (
          ok (narrow .boolean (.int x5) = .int x5) <| K x5 h4) (
          gA h4 a0 11 1 fun a9 =>
          aR h4 a9 7 x6 fun o10 =>
          jn (fun (x12 : Int32) (h11 : Hp) => 
            w28 x12 (x6 + 1) h11) (fun j65 =>
          brn o10 (
            j65 x5 h4) (fun a13 =>
            cv h4 a13 7 <| w_X7_size N a13  h4 fun v14 =>
            br (v14 ≤ 0) (
              j65 x5 h4) (
              cv h4 a0 11 <| w_X11_bothPlansFind N a0 (some a13) h4 fun v15 h16 =>
              j65 v15 h16)))))) N v3 0 h0) (fun j25 =>
  jn (
    j25 0) (fun j24 =>
  br (v2 = 0) (
    j24 ) (
    gA h0 a0 11 0 fun a17 =>
    cv h0 a17 9 <| w_X9_indexesRise N a17  h0 fun v18 =>
    br (v18 = 0) (
      j24 ) (
      j25 1))))
abbrev rmX11_isSound : Room := { frames := 43, cells := 0, slots := 0, locals := 1373 }
theorem vX11_isSound : VI RX11 yX11_isSound cX11_isSound 4 (some .boolean) 0 := ⟨tw2_67, tw2_68, tw1_1, tw2_69, by decide +kernel⟩
set_option maxHeartbeats 4000000 in
theorem m_X11_isSound {G : Gp} (l : Launch) (hfl : l.stackTraces = false) (N : Nat) {a0 : Nat} {h0 : Hp} {K : Int32 → Hp → Prop} (hw : w_X11_isSound N a0 h0 K) : MT G l yX11_isSound cX11_isSound 4 (some .boolean) rmX11_isSound [rV (some a0)] h0 (QI G K) := by
  refine go_metT l hfl _ 4 _ _ rfl (by decide +kernel) (Nat.le_of_ble_eq_true rfl) [(0, rV (some a0))] rfl (fun X hX C hn => ?_)
  subst hX
  unfold w_X11_isSound at hw
  refine go_aload_n C dX11_isSound_0 0 rfl ?_
  refine go_getA C (cfX11) (k := 3) (Nat.le_of_ble_eq_true rfl) tw1_221 rfl dX11_isSound_1 hw (fun a1 hw => ?_)
  refine go_pV_i C [] vX0_isTidy tw2_70 (ci := 0) rfl (m_X0_isTidy (xl X) C.2.2.2.2.2.2.2.1 N hw.2) ⟨Nat.le_of_ble_eq_true rfl, Nat.le_of_ble_eq_true rfl, Nat.le_of_ble_eq_true rfl, Nat.le_of_ble_eq_true rfl⟩ ⟨rfl, rfl⟩ hw.1 dX11_isSound_4 rfl (Nat.le_of_ble_eq_true rfl) rfl (fun v2 hw => ?_)
  refine jn_elim (P := fun j => ∀ (v3 : Int32), j v3 → Go G X rmX11_isSound 4 0 0 (QN G X (QI G K) rmX11_isSound) h0 25 [(0, rV (some a0))] [iV v3]) hw (fun v3 hw => ?_) (fun j25 hj25 hw => ?_)
  · refine go_istore_n C [(1, iV v3), (0, rV (some a0))] dX11_isSound_25 (Nat.le_of_ble_eq_true rfl) rfl ?_
    refine go_iconst C 0 dX11_isSound_26 kc_i0 ?_
    refine go_istore_n C [(2, iV 0), (1, iV v3), (0, rV (some a0))] dX11_isSound_27 (Nat.le_of_ble_eq_true rfl) rfl ?_
    refine go_sub [2, 1, 0] rfl ?_
    refine fx3_elim (P := fun x5 x6 h4 => Go G X rmX11_isSound 4 0 0 (QN G X (QI G K) rmX11_isSound) h4 28 [(0, rV (some a0)), (1, iV x5), (2, iV x6)] []) (fun w28 hj28 x5 x6 h4 hw => ?_) N _ _ _ hw
    refine go_iload_n C dX11_isSound_28 1 rfl ?_
    refine go_if_eq C 71 dX11_isSound_29 (by decide) hw (fun hw => ?_) (fun hw => ?_)
    · refine go_iload_n C dX11_isSound_71 1 rfl ?_
      exact go_zret C dX11_isSound_72 ⟨hw.1, hw.2⟩ (Nat.le_of_ble_eq_true rfl) (Nat.le_of_ble_eq_true rfl)
    refine go_iload_n C dX11_isSound_32 2 rfl ?_
    refine go_aload_n C dX11_isSound_33 0 rfl ?_
    refine go_getA C (cfX11) (k := 1) (Nat.le_of_ble_eq_true rfl) tw1_219 rfl dX11_isSound_34 hw (fun a7 hw => ?_)
    refine go_alen C dX11_isSound_37 hw (fun v8 hw => ?_)
    refine go_icmp_ge C 71 dX11_isSound_38 (by decide) hw (fun hw => ?_) (fun hw => ?_)
    · refine go_iload_n C dX11_isSound_71 1 rfl ?_
      exact go_zret C dX11_isSound_72 ⟨hw.1, hw.2⟩ (Nat.le_of_ble_eq_true rfl) (Nat.le_of_ble_eq_true rfl)
    refine go_aload_n C dX11_isSound_41 0 rfl ?_
    refine go_getA C (cfX11) (k := 1) (Nat.le_of_ble_eq_true rfl) tw1_219 rfl dX11_isSound_42 hw (fun a9 hw => ?_)
    refine go_iload_n C dX11_isSound_45 2 rfl ?_
    refine go_aaload7 C dX11_isSound_46 hw (fun o10 hw => ?_)
    refine go_astore_n C [(3, rV o10), (0, rV (some a0)), (1, iV x5), (2, iV x6)] dX11_isSound_47 (Nat.le_of_ble_eq_true rfl) rfl ?_
    refine go_aload_n C dX11_isSound_48 0 rfl ?_
    refine jn_elim (P := fun j => ∀ (x12 : Int32) (h11 : Hp), j x12 h11 → Go G X rmX11_isSound 4 0 0 (QN G X (QI G K) rmX11_isSound) h11 65 [(0, rV (some a0)), (1, iV x12), (2, iV x6)] []) hw (fun x12 h11 hw => ?_) (fun j65 hj65 hw => ?_)
    · refine go_iinc C (x6 + 1) [(2, iV (x6 + 1)), (0, rV (some a0)), (1, iV x12)] dX11_isSound_65 2 rfl (by rw [kc_i1]) (Nat.le_of_ble_eq_true rfl) rfl ?_
      refine go_goto C 28 dX11_isSound_68 (by decide) ?_
      refine go_sub [1, 2, 0] rfl ?_
      exact hj28 x12 (x6 + 1) h11 hw
    refine go_ifnull C 65 dX11_isSound_49 (by decide) hw (fun e9 hw9 => ?_) (fun a13 e9 hw9 => ?_)
    · clear hw
      subst e9
      have hw := hw9
      clear hw9
      refine go_sub [1, 2, 3] rfl ?_
      exact hj65 x5 h4 hw
    clear hw
    subst e9
    have hw := hw9
    clear hw9
    refine go_aload_n C dX11_isSound_52 0 rfl ?_
    refine go_pV_i C [] vX7_size tw2_107 (ci := 7) rfl (m_X7_size (xl X) C.2.2.2.2.2.2.2.1 N hw.2) ⟨Nat.le_of_ble_eq_true rfl, Nat.le_of_ble_eq_true rfl, Nat.le_of_ble_eq_true rfl, Nat.le_of_ble_eq_true rfl⟩ ⟨rfl, rfl⟩ hw.1 dX11_isSound_53 rfl (Nat.le_of_ble_eq_true rfl) rfl (fun v14 hw => ?_)
    refine go_if_le C 65 dX11_isSound_56 (by decide) hw (fun hw => ?_) (fun hw => ?_)
    · refine go_sub [1, 2, 3] rfl ?_
      exact hj65 x5 h4 hw
    refine go_aload_n C dX11_isSound_59 1 rfl ?_
    refine go_aload_n C dX11_isSound_60 0 rfl ?_
    refine go_c0V_i C [rV (some a13)] vX11_bothPlansFind tw2_111 (ci := 11) rfl (m_X11_bothPlansFind (xl X) C.2.2.2.2.2.2.2.1 N hw.2) ⟨Nat.le_of_ble_eq_true rfl, Nat.le_of_ble_eq_true rfl, Nat.le_of_ble_eq_true rfl, Nat.le_of_ble_eq_true rfl⟩ ⟨rfl, rfl⟩ hw.1 dX11_isSound_61 rfl (Nat.le_of_ble_eq_true rfl) rfl (fun v15 h16 hw => ?_)
    refine go_istore_n C [(1, iV v15), (3, rV (some a13)), (0, rV (some a0)), (2, iV x6)] dX11_isSound_64 (Nat.le_of_ble_eq_true rfl) rfl ?_
    refine go_sub [2, 0, 3] rfl ?_
    exact hj65 v15 h16 hw
  refine jn_elim (P := fun j => j  → Go G X rmX11_isSound 4 0 0 (QN G X (QI G K) rmX11_isSound) h0 24 [(0, rV (some a0))] []) hw (fun  hw => ?_) (fun j24 hj24 hw => ?_)
  · refine go_iconst C 0 dX11_isSound_24 kc_i0 ?_
    exact hj25 0 hw
  refine go_if_eq C 24 dX11_isSound_7 (by decide) hw (fun hw => ?_) (fun hw => ?_)
  · exact hj24  hw
  refine go_aload_n C dX11_isSound_10 0 rfl ?_
  refine go_getA C (cfX11) (k := 0) (Nat.le_of_ble_eq_true rfl) tw1_218 rfl dX11_isSound_11 hw (fun a17 hw => ?_)
  refine go_pV_i C [] vX9_indexesRise tw2_82 (ci := 9) rfl (m_X9_indexesRise (xl X) C.2.2.2.2.2.2.2.1 N hw.2) ⟨Nat.le_of_ble_eq_true rfl, Nat.le_of_ble_eq_true rfl, Nat.le_of_ble_eq_true rfl, Nat.le_of_ble_eq_true rfl⟩ ⟨rfl, rfl⟩ hw.1 dX11_isSound_14 rfl (Nat.le_of_ble_eq_true rfl) rfl (fun v18 hw => ?_)
  refine go_if_eq C 24 dX11_isSound_17 (by decide) hw (fun hw => ?_) (fun hw => ?_)
  · exact hj24  hw
  refine go_iconst C 1 dX11_isSound_20 kc_i1 ?_
  refine go_goto C 25 dX11_isSound_21 (by decide) ?_
  exact hj25 1 hw
