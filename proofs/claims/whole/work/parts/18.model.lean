/-- DuelSchemaModel.<init>()V -/
def w_X12_init (N : Nat) (a0 : Nat) (h0 : Hp) (K : Hp → Prop) : Prop :=
  nA h0 (.inl (0, 3, .inl (fun _ => 0))) fun a1 h2 =>
  pF h2 a0 12 2 (rV (some a1)) fun h3 =>
  nA h3 (.inl (0, 3, .inl (fun _ => 0))) fun a4 h5 =>
  pF h5 a0 12 3 (rV (some a4)) fun h6 =>
  nA h6 (.inl (1, 120, .inl (fun _ => 0))) fun a7 h8 =>
  pF h8 a0 12 4 (rV (some a7)) fun h9 =>
  nA h9 (.inl (0, 360, .inl (fun _ => 0))) fun a10 h11 =>
  pF h11 a0 12 5 (rV (some a10)) fun h12 =>
  nA h12 (.inl (0, 9, .inl (fun _ => 0))) fun a13 h14 =>
  pF h14 a0 12 6 (rV (some a13)) fun h15 =>
  nA h15 (.inl (0, 9, .inl (fun _ => 0))) fun a16 h17 =>
  pF h17 a0 12 7 (rV (some a16)) fun h18 =>
  nA h18 (.inl (0, 3, .inl (fun _ => 0))) fun a19 h20 =>
  pF h20 a0 12 8 (rV (some a19)) fun h21 =>
  nA h21 (.inl (0, 3, .inl (fun _ => 0))) fun a22 h23 =>
  pF h23 a0 12 9 (rV (some a22)) fun h24 =>
  nA h24 (.inl (0, 9, .inl (fun _ => 0))) fun a25 h26 =>
  pF h26 a0 12 10 (rV (some a25)) fun h27 =>
  nA h27 (.inl (0, 9, .inl (fun _ => 0))) fun a28 h29 =>
  pF h29 a0 12 11 (rV (some a28)) fun h30 =>
  nA h30 (.inl (0, 9, .inl (fun _ => 0))) fun a31 h32 =>
  pF h32 a0 12 12 (rV (some a31)) fun h33 =>
  nA h33 (.inl (0, 6, .inl (fun _ => 0))) fun a34 h35 =>
  pF h35 a0 12 14 (rV (some a34)) fun h36 =>
  nA h36 (.inl (0, 6, .inl (fun _ => 0))) fun a37 h38 =>
  pF h38 a0 12 15 (rV (some a37)) fun h39 =>
  nA h39 (.inl (0, 240, .inl (fun _ => 0))) fun a40 h41 =>
  pF h41 a0 12 17 (rV (some a40)) fun h42 =>
  nA h42 (.inl (0, 6, .inl (fun _ => 0))) fun a43 h44 =>
  pF h44 a0 12 18 (rV (some a43)) fun h45 =>
  pF h45 a0 12 19 (iV 4) fun h46 =>
  nA h46 (.inl (0, 26, .inl (fun _ => 0))) fun a47 h48 =>
  pF h48 a0 12 20 (rV (some a47)) fun h49 =>
  nA h49 (.inl (0, 2, .inl (fun _ => 0))) fun a50 h51 =>
  pF h51 a0 12 21 (rV (some a50)) fun h52 =>
  nA h52 (.inl (0, 8, .inl (fun _ => 0))) fun a53 h54 =>
  pF h54 a0 12 25 (rV (some a53)) fun h55 =>
  nA h55 (.inl (0, 24, .inl (fun _ => 0))) fun a56 h57 =>
  pF h57 a0 12 26 (rV (some a56)) fun h58 =>
  nA h58 (.inl (0, 8, .inl (fun _ => 0))) fun a59 h60 =>
  pF h60 a0 12 27 (rV (some a59)) fun h61 =>
  nA h61 (.inl (0, 32, .inl (fun _ => 0))) fun a62 h63 =>
  pF h63 a0 12 28 (rV (some a62)) fun h64 =>
  nA h64 (.inl (0, 32, .inl (fun _ => 0))) fun a65 h66 =>
  pF h66 a0 12 29 (rV (some a65)) fun h67 =>
  nA h67 (.inl (0, 32, .inl (fun _ => 0))) fun a68 h69 =>
  pF h69 a0 12 30 (rV (some a68)) fun h70 =>
  nA h70 (.inl (0, 32, .inl (fun _ => 0))) fun a71 h72 =>
  pF h72 a0 12 31 (rV (some a71)) fun h73 =>
  nA h73 (.inl (0, 8, .inl (fun _ => 0))) fun a74 h75 =>
  pF h75 a0 12 32 (rV (some a74)) fun h76 =>
  nA h76 (.inl (0, 24, .inl (fun _ => 0))) fun a77 h78 =>
  pF h78 a0 12 33 (rV (some a77)) fun h79 =>
  nA h79 (.inl (0, 24, .inl (fun _ => 0))) fun a80 h81 =>
  pF h81 a0 12 34 (rV (some a80)) fun h82 =>
  nA h82 (.inl (0, 24, .inl (fun _ => 0))) fun a83 h84 =>
  pF h84 a0 12 35 (rV (some a83)) fun h85 =>
  nA h85 (.inl (0, 24, .inl (fun _ => 0))) fun a86 h87 =>
  pF h87 a0 12 36 (rV (some a86)) fun h88 =>
  nA h88 (.inl (0, 3, .inl (fun _ => 0))) fun a89 h90 =>
  pF h90 a0 12 37 (rV (some a89)) fun h91 =>
  nA h91 (.inl (0, 3, .inl (fun _ => 0))) fun a92 h93 =>
  pF h93 a0 12 39 (rV (some a92)) fun h94 =>
  nA h94 (.inl (0, 3, .inl (fun _ => 0))) fun a95 h96 =>
  pF h96 a0 12 40 (rV (some a95)) fun h97 =>
  nA h97 (.inl (0, 3, .inl (fun _ => 0))) fun a98 h99 =>
  pF h99 a0 12 41 (rV (some a98)) fun h100 =>
  nA h100 (.inl (0, 3, .inl (fun _ => 0))) fun a101 h102 =>
  pF h102 a0 12 42 (rV (some a101)) fun h103 =>
  nA h103 (.inl (0, 3, .inl (fun _ => 0))) fun a104 h105 =>
  pF h105 a0 12 43 (rV (some a104)) fun h106 =>
  nA h106 (.inl (0, 3, .inl (fun _ => 0))) fun a107 h108 =>
  pF h108 a0 12 44 (rV (some a107)) fun h109 =>
  nA h109 (.inl (0, 2, .inl (fun _ => 0))) fun a110 h111 =>
  pF h111 a0 12 46 (rV (some a110)) fun h112 =>
  nA h112 (.inl (0, 3, .inl (fun _ => 0))) fun a113 h114 =>
  pF h114 a0 12 47 (rV (some a113)) fun h115 =>
  nA h115 (.inl (0, 3, .inl (fun _ => 0))) fun a116 h117 =>
  pF h117 a0 12 48 (rV (some a116)) fun h118 =>
  nA h118 (.inl (0, 2, .inl (fun _ => 0))) fun a119 h120 =>
  pF h120 a0 12 51 (rV (some a119)) fun h121 =>
  nA h121 (.inl (0, 1200, .inl (fun _ => 0))) fun a122 h123 =>
  pF h123 a0 12 53 (rV (some a122)) fun h124 =>
  nA h124 (.inl (0, 2, .inl (fun _ => 0))) fun a125 h126 =>
  pF h126 a0 12 54 (rV (some a125)) fun h127 =>
  K h127
abbrev rmX12_init : Room := { frames := 2, cells := 42, slots := 2328, locals := 60 }
theorem vX12_init : II yX12_init cX12_init 1 0 := ⟨tw7_80, tw1_8, tw7_81, rfl, by decide +kernel⟩
set_option maxHeartbeats 4000000 in
theorem m_X12_init {G : Gp} (l : Launch) (hfl : l.stackTraces = false) (N : Nat) {a0 : Nat} {h0 : Hp} {K : Hp → Prop} (hw : w_X12_init N a0 h0 K) : MT G l yX12_init cX12_init 1 none rmX12_init [rV (some a0)] h0 (QV G K) := by
  refine go_metT l hfl _ 1 _ _ rfl (by decide +kernel) (Nat.le_of_ble_eq_true rfl) [(0, rV (some a0))] rfl (fun X hX C hn => ?_)
  subst hX
  unfold w_X12_init at hw
  refine go_aload_n C dX12_init_0 0 rfl ?_
  refine go_objinit C tw7_82 tw1_33 tw1_34 dX12_init_1 ⟨Nat.le_of_ble_eq_true rfl, Nat.le_of_ble_eq_true rfl⟩ (Nat.le_of_ble_eq_true rfl) ?_
  refine go_aload_n C dX12_init_4 0 rfl ?_
  refine go_iconst C 3 dX12_init_5 kc_i3 ?_
  refine go_newarr0 C 3 (by decide) (by decide) (Nat.le_of_ble_eq_true rfl) tw1_76 ⟨Nat.le_of_ble_eq_true rfl, Nat.le_of_ble_eq_true rfl⟩ dX12_init_6 hw (fun a1 h2 hw => ?_)
  refine go_putRA C (cfX12) (k := 2) (Nat.le_of_ble_eq_true rfl) tw7_85 rfl (Or.inr ⟨rfl, hn, rfl⟩) rfl dX12_init_8 hw (fun h3 hw => ?_)
  refine go_aload_n C dX12_init_11 0 rfl ?_
  refine go_iconst C 3 dX12_init_12 kc_i3 ?_
  refine go_newarr0 C 3 (by decide) (by decide) (Nat.le_of_ble_eq_true rfl) tw1_76 ⟨Nat.le_of_ble_eq_true rfl, Nat.le_of_ble_eq_true rfl⟩ dX12_init_13 hw (fun a4 h5 hw => ?_)
  refine go_putRA C (cfX12) (k := 3) (Nat.le_of_ble_eq_true rfl) tw7_86 rfl (Or.inr ⟨rfl, hn, rfl⟩) rfl dX12_init_15 hw (fun h6 hw => ?_)
  refine go_aload_n C dX12_init_18 0 rfl ?_
  refine go_bipush C 120 dX12_init_19 kc_b120 ?_
  refine go_newarr1 C 120 (by decide) (by decide) (Nat.le_of_ble_eq_true rfl) tw4_135 ⟨Nat.le_of_ble_eq_true rfl, Nat.le_of_ble_eq_true rfl⟩ dX12_init_21 hw (fun a7 h8 hw => ?_)
  refine go_putRA C (cfX12) (k := 4) (Nat.le_of_ble_eq_true rfl) tw7_87 rfl (Or.inr ⟨rfl, hn, rfl⟩) rfl dX12_init_23 hw (fun h9 hw => ?_)
  refine go_aload_n C dX12_init_26 0 rfl ?_
  refine go_sipush C 360 dX12_init_27 kc_s360 ?_
  refine go_newarr0 C 360 (by decide) (by decide) (Nat.le_of_ble_eq_true rfl) tw1_76 ⟨Nat.le_of_ble_eq_true rfl, Nat.le_of_ble_eq_true rfl⟩ dX12_init_30 hw (fun a10 h11 hw => ?_)
  refine go_putRA C (cfX12) (k := 5) (Nat.le_of_ble_eq_true rfl) tw7_88 rfl (Or.inr ⟨rfl, hn, rfl⟩) rfl dX12_init_32 hw (fun h12 hw => ?_)
  refine go_aload_n C dX12_init_35 0 rfl ?_
  refine go_bipush C 9 dX12_init_36 kc_b9 ?_
  refine go_newarr0 C 9 (by decide) (by decide) (Nat.le_of_ble_eq_true rfl) tw1_76 ⟨Nat.le_of_ble_eq_true rfl, Nat.le_of_ble_eq_true rfl⟩ dX12_init_38 hw (fun a13 h14 hw => ?_)
  refine go_putRA C (cfX12) (k := 6) (Nat.le_of_ble_eq_true rfl) tw7_89 rfl (Or.inr ⟨rfl, hn, rfl⟩) rfl dX12_init_40 hw (fun h15 hw => ?_)
  refine go_aload_n C dX12_init_43 0 rfl ?_
  refine go_bipush C 9 dX12_init_44 kc_b9 ?_
  refine go_newarr0 C 9 (by decide) (by decide) (Nat.le_of_ble_eq_true rfl) tw1_76 ⟨Nat.le_of_ble_eq_true rfl, Nat.le_of_ble_eq_true rfl⟩ dX12_init_46 hw (fun a16 h17 hw => ?_)
  refine go_putRA C (cfX12) (k := 7) (Nat.le_of_ble_eq_true rfl) tw7_90 rfl (Or.inr ⟨rfl, hn, rfl⟩) rfl dX12_init_48 hw (fun h18 hw => ?_)
  refine go_aload_n C dX12_init_51 0 rfl ?_
  refine go_iconst C 3 dX12_init_52 kc_i3 ?_
  refine go_newarr0 C 3 (by decide) (by decide) (Nat.le_of_ble_eq_true rfl) tw1_76 ⟨Nat.le_of_ble_eq_true rfl, Nat.le_of_ble_eq_true rfl⟩ dX12_init_53 hw (fun a19 h20 hw => ?_)
  refine go_putRA C (cfX12) (k := 8) (Nat.le_of_ble_eq_true rfl) tw7_91 rfl (Or.inr ⟨rfl, hn, rfl⟩) rfl dX12_init_55 hw (fun h21 hw => ?_)
  refine go_aload_n C dX12_init_58 0 rfl ?_
  refine go_iconst C 3 dX12_init_59 kc_i3 ?_
  refine go_newarr0 C 3 (by decide) (by decide) (Nat.le_of_ble_eq_true rfl) tw1_76 ⟨Nat.le_of_ble_eq_true rfl, Nat.le_of_ble_eq_true rfl⟩ dX12_init_60 hw (fun a22 h23 hw => ?_)
  refine go_putRA C (cfX12) (k := 9) (Nat.le_of_ble_eq_true rfl) tw7_92 rfl (Or.inr ⟨rfl, hn, rfl⟩) rfl dX12_init_62 hw (fun h24 hw => ?_)
  refine go_aload_n C dX12_init_65 0 rfl ?_
  refine go_bipush C 9 dX12_init_66 kc_b9 ?_
  refine go_newarr0 C 9 (by decide) (by decide) (Nat.le_of_ble_eq_true rfl) tw1_76 ⟨Nat.le_of_ble_eq_true rfl, Nat.le_of_ble_eq_true rfl⟩ dX12_init_68 hw (fun a25 h26 hw => ?_)
  refine go_putRA C (cfX12) (k := 10) (Nat.le_of_ble_eq_true rfl) tw7_93 rfl (Or.inr ⟨rfl, hn, rfl⟩) rfl dX12_init_70 hw (fun h27 hw => ?_)
  refine go_aload_n C dX12_init_73 0 rfl ?_
  refine go_bipush C 9 dX12_init_74 kc_b9 ?_
  refine go_newarr0 C 9 (by decide) (by decide) (Nat.le_of_ble_eq_true rfl) tw1_76 ⟨Nat.le_of_ble_eq_true rfl, Nat.le_of_ble_eq_true rfl⟩ dX12_init_76 hw (fun a28 h29 hw => ?_)
  refine go_putRA C (cfX12) (k := 11) (Nat.le_of_ble_eq_true rfl) tw7_94 rfl (Or.inr ⟨rfl, hn, rfl⟩) rfl dX12_init_78 hw (fun h30 hw => ?_)
  refine go_aload_n C dX12_init_81 0 rfl ?_
  refine go_bipush C 9 dX12_init_82 kc_b9 ?_
  refine go_newarr0 C 9 (by decide) (by decide) (Nat.le_of_ble_eq_true rfl) tw1_76 ⟨Nat.le_of_ble_eq_true rfl, Nat.le_of_ble_eq_true rfl⟩ dX12_init_84 hw (fun a31 h32 hw => ?_)
  refine go_putRA C (cfX12) (k := 12) (Nat.le_of_ble_eq_true rfl) tw7_95 rfl (Or.inr ⟨rfl, hn, rfl⟩) rfl dX12_init_86 hw (fun h33 hw => ?_)
  refine go_aload_n C dX12_init_89 0 rfl ?_
  refine go_bipush C 6 dX12_init_90 kc_b6 ?_
  refine go_newarr0 C 6 (by decide) (by decide) (Nat.le_of_ble_eq_true rfl) tw1_76 ⟨Nat.le_of_ble_eq_true rfl, Nat.le_of_ble_eq_true rfl⟩ dX12_init_92 hw (fun a34 h35 hw => ?_)
  refine go_putRA C (cfX12) (k := 14) (Nat.le_of_ble_eq_true rfl) tw7_97 rfl (Or.inr ⟨rfl, hn, rfl⟩) rfl dX12_init_94 hw (fun h36 hw => ?_)
  refine go_aload_n C dX12_init_97 0 rfl ?_
  refine go_bipush C 6 dX12_init_98 kc_b6 ?_
  refine go_newarr0 C 6 (by decide) (by decide) (Nat.le_of_ble_eq_true rfl) tw1_76 ⟨Nat.le_of_ble_eq_true rfl, Nat.le_of_ble_eq_true rfl⟩ dX12_init_100 hw (fun a37 h38 hw => ?_)
  refine go_putRA C (cfX12) (k := 15) (Nat.le_of_ble_eq_true rfl) tw7_98 rfl (Or.inr ⟨rfl, hn, rfl⟩) rfl dX12_init_102 hw (fun h39 hw => ?_)
  refine go_aload_n C dX12_init_105 0 rfl ?_
  refine go_sipush C 240 dX12_init_106 kc_s240 ?_
  refine go_newarr0 C 240 (by decide) (by decide) (Nat.le_of_ble_eq_true rfl) tw1_76 ⟨Nat.le_of_ble_eq_true rfl, Nat.le_of_ble_eq_true rfl⟩ dX12_init_109 hw (fun a40 h41 hw => ?_)
  refine go_putRA C (cfX12) (k := 17) (Nat.le_of_ble_eq_true rfl) tw7_100 rfl (Or.inr ⟨rfl, hn, rfl⟩) rfl dX12_init_111 hw (fun h42 hw => ?_)
  refine go_aload_n C dX12_init_114 0 rfl ?_
  refine go_bipush C 6 dX12_init_115 kc_b6 ?_
  refine go_newarr0 C 6 (by decide) (by decide) (Nat.le_of_ble_eq_true rfl) tw1_76 ⟨Nat.le_of_ble_eq_true rfl, Nat.le_of_ble_eq_true rfl⟩ dX12_init_117 hw (fun a43 h44 hw => ?_)
  refine go_putRA C (cfX12) (k := 18) (Nat.le_of_ble_eq_true rfl) tw7_101 rfl (Or.inr ⟨rfl, hn, rfl⟩) rfl dX12_init_119 hw (fun h45 hw => ?_)
  refine go_aload_n C dX12_init_122 0 rfl ?_
  refine go_iconst C 4 dX12_init_123 kc_i4 ?_
  refine go_putI C (cfX12) (k := 19) (Nat.le_of_ble_eq_true rfl) tw7_102 rfl (Or.inl rfl) rfl dX12_init_124 hw (fun h46 hw => ?_)
  refine go_aload_n C dX12_init_127 0 rfl ?_
  refine go_bipush C 26 dX12_init_128 kc_b26 ?_
  refine go_newarr0 C 26 (by decide) (by decide) (Nat.le_of_ble_eq_true rfl) tw1_76 ⟨Nat.le_of_ble_eq_true rfl, Nat.le_of_ble_eq_true rfl⟩ dX12_init_130 hw (fun a47 h48 hw => ?_)
  refine go_putRA C (cfX12) (k := 20) (Nat.le_of_ble_eq_true rfl) tw7_103 rfl (Or.inr ⟨rfl, hn, rfl⟩) rfl dX12_init_132 hw (fun h49 hw => ?_)
  refine go_aload_n C dX12_init_135 0 rfl ?_
  refine go_iconst C 2 dX12_init_136 kc_i2 ?_
  refine go_newarr0 C 2 (by decide) (by decide) (Nat.le_of_ble_eq_true rfl) tw1_76 ⟨Nat.le_of_ble_eq_true rfl, Nat.le_of_ble_eq_true rfl⟩ dX12_init_137 hw (fun a50 h51 hw => ?_)
  refine go_putRA C (cfX12) (k := 21) (Nat.le_of_ble_eq_true rfl) tw7_104 rfl (Or.inr ⟨rfl, hn, rfl⟩) rfl dX12_init_139 hw (fun h52 hw => ?_)
  refine go_aload_n C dX12_init_142 0 rfl ?_
  refine go_bipush C 8 dX12_init_143 kc_b8 ?_
  refine go_newarr0 C 8 (by decide) (by decide) (Nat.le_of_ble_eq_true rfl) tw1_76 ⟨Nat.le_of_ble_eq_true rfl, Nat.le_of_ble_eq_true rfl⟩ dX12_init_145 hw (fun a53 h54 hw => ?_)
  refine go_putRA C (cfX12) (k := 25) (Nat.le_of_ble_eq_true rfl) tw7_108 rfl (Or.inr ⟨rfl, hn, rfl⟩) rfl dX12_init_147 hw (fun h55 hw => ?_)
  refine go_aload_n C dX12_init_150 0 rfl ?_
  refine go_bipush C 24 dX12_init_151 kc_b24 ?_
  refine go_newarr0 C 24 (by decide) (by decide) (Nat.le_of_ble_eq_true rfl) tw1_76 ⟨Nat.le_of_ble_eq_true rfl, Nat.le_of_ble_eq_true rfl⟩ dX12_init_153 hw (fun a56 h57 hw => ?_)
  refine go_putRA C (cfX12) (k := 26) (Nat.le_of_ble_eq_true rfl) tw7_109 rfl (Or.inr ⟨rfl, hn, rfl⟩) rfl dX12_init_155 hw (fun h58 hw => ?_)
  refine go_aload_n C dX12_init_158 0 rfl ?_
  refine go_bipush C 8 dX12_init_159 kc_b8 ?_
  refine go_newarr0 C 8 (by decide) (by decide) (Nat.le_of_ble_eq_true rfl) tw1_76 ⟨Nat.le_of_ble_eq_true rfl, Nat.le_of_ble_eq_true rfl⟩ dX12_init_161 hw (fun a59 h60 hw => ?_)
  refine go_putRA C (cfX12) (k := 27) (Nat.le_of_ble_eq_true rfl) tw7_110 rfl (Or.inr ⟨rfl, hn, rfl⟩) rfl dX12_init_163 hw (fun h61 hw => ?_)
  refine go_aload_n C dX12_init_166 0 rfl ?_
  refine go_bipush C 32 dX12_init_167 kc_b32 ?_
  refine go_newarr0 C 32 (by decide) (by decide) (Nat.le_of_ble_eq_true rfl) tw1_76 ⟨Nat.le_of_ble_eq_true rfl, Nat.le_of_ble_eq_true rfl⟩ dX12_init_169 hw (fun a62 h63 hw => ?_)
  refine go_putRA C (cfX12) (k := 28) (Nat.le_of_ble_eq_true rfl) tw7_111 rfl (Or.inr ⟨rfl, hn, rfl⟩) rfl dX12_init_171 hw (fun h64 hw => ?_)
  refine go_aload_n C dX12_init_174 0 rfl ?_
  refine go_bipush C 32 dX12_init_175 kc_b32 ?_
  refine go_newarr0 C 32 (by decide) (by decide) (Nat.le_of_ble_eq_true rfl) tw1_76 ⟨Nat.le_of_ble_eq_true rfl, Nat.le_of_ble_eq_true rfl⟩ dX12_init_177 hw (fun a65 h66 hw => ?_)
  refine go_putRA C (cfX12) (k := 29) (Nat.le_of_ble_eq_true rfl) tw7_112 rfl (Or.inr ⟨rfl, hn, rfl⟩) rfl dX12_init_179 hw (fun h67 hw => ?_)
  refine go_aload_n C dX12_init_182 0 rfl ?_
  refine go_bipush C 32 dX12_init_183 kc_b32 ?_
  refine go_newarr0 C 32 (by decide) (by decide) (Nat.le_of_ble_eq_true rfl) tw1_76 ⟨Nat.le_of_ble_eq_true rfl, Nat.le_of_ble_eq_true rfl⟩ dX12_init_185 hw (fun a68 h69 hw => ?_)
  refine go_putRA C (cfX12) (k := 30) (Nat.le_of_ble_eq_true rfl) tw7_113 rfl (Or.inr ⟨rfl, hn, rfl⟩) rfl dX12_init_187 hw (fun h70 hw => ?_)
  refine go_aload_n C dX12_init_190 0 rfl ?_
  refine go_bipush C 32 dX12_init_191 kc_b32 ?_
  refine go_newarr0 C 32 (by decide) (by decide) (Nat.le_of_ble_eq_true rfl) tw1_76 ⟨Nat.le_of_ble_eq_true rfl, Nat.le_of_ble_eq_true rfl⟩ dX12_init_193 hw (fun a71 h72 hw => ?_)
  refine go_putRA C (cfX12) (k := 31) (Nat.le_of_ble_eq_true rfl) tw7_114 rfl (Or.inr ⟨rfl, hn, rfl⟩) rfl dX12_init_195 hw (fun h73 hw => ?_)
  refine go_aload_n C dX12_init_198 0 rfl ?_
  refine go_bipush C 8 dX12_init_199 kc_b8 ?_
  refine go_newarr0 C 8 (by decide) (by decide) (Nat.le_of_ble_eq_true rfl) tw1_76 ⟨Nat.le_of_ble_eq_true rfl, Nat.le_of_ble_eq_true rfl⟩ dX12_init_201 hw (fun a74 h75 hw => ?_)
  refine go_putRA C (cfX12) (k := 32) (Nat.le_of_ble_eq_true rfl) tw7_115 rfl (Or.inr ⟨rfl, hn, rfl⟩) rfl dX12_init_203 hw (fun h76 hw => ?_)
  refine go_aload_n C dX12_init_206 0 rfl ?_
  refine go_bipush C 24 dX12_init_207 kc_b24 ?_
  refine go_newarr0 C 24 (by decide) (by decide) (Nat.le_of_ble_eq_true rfl) tw1_76 ⟨Nat.le_of_ble_eq_true rfl, Nat.le_of_ble_eq_true rfl⟩ dX12_init_209 hw (fun a77 h78 hw => ?_)
  refine go_putRA C (cfX12) (k := 33) (Nat.le_of_ble_eq_true rfl) tw7_116 rfl (Or.inr ⟨rfl, hn, rfl⟩) rfl dX12_init_211 hw (fun h79 hw => ?_)
  refine go_aload_n C dX12_init_214 0 rfl ?_
  refine go_bipush C 24 dX12_init_215 kc_b24 ?_
  refine go_newarr0 C 24 (by decide) (by decide) (Nat.le_of_ble_eq_true rfl) tw1_76 ⟨Nat.le_of_ble_eq_true rfl, Nat.le_of_ble_eq_true rfl⟩ dX12_init_217 hw (fun a80 h81 hw => ?_)
  refine go_putRA C (cfX12) (k := 34) (Nat.le_of_ble_eq_true rfl) tw7_117 rfl (Or.inr ⟨rfl, hn, rfl⟩) rfl dX12_init_219 hw (fun h82 hw => ?_)
  refine go_aload_n C dX12_init_222 0 rfl ?_
  refine go_bipush C 24 dX12_init_223 kc_b24 ?_
  refine go_newarr0 C 24 (by decide) (by decide) (Nat.le_of_ble_eq_true rfl) tw1_76 ⟨Nat.le_of_ble_eq_true rfl, Nat.le_of_ble_eq_true rfl⟩ dX12_init_225 hw (fun a83 h84 hw => ?_)
  refine go_putRA C (cfX12) (k := 35) (Nat.le_of_ble_eq_true rfl) tw7_118 rfl (Or.inr ⟨rfl, hn, rfl⟩) rfl dX12_init_227 hw (fun h85 hw => ?_)
  refine go_aload_n C dX12_init_230 0 rfl ?_
  refine go_bipush C 24 dX12_init_231 kc_b24 ?_
  refine go_newarr0 C 24 (by decide) (by decide) (Nat.le_of_ble_eq_true rfl) tw1_76 ⟨Nat.le_of_ble_eq_true rfl, Nat.le_of_ble_eq_true rfl⟩ dX12_init_233 hw (fun a86 h87 hw => ?_)
  refine go_putRA C (cfX12) (k := 36) (Nat.le_of_ble_eq_true rfl) tw7_119 rfl (Or.inr ⟨rfl, hn, rfl⟩) rfl dX12_init_235 hw (fun h88 hw => ?_)
  refine go_aload_n C dX12_init_238 0 rfl ?_
  refine go_iconst C 3 dX12_init_239 kc_i3 ?_
  refine go_newarr0 C 3 (by decide) (by decide) (Nat.le_of_ble_eq_true rfl) tw1_76 ⟨Nat.le_of_ble_eq_true rfl, Nat.le_of_ble_eq_true rfl⟩ dX12_init_240 hw (fun a89 h90 hw => ?_)
  refine go_putRA C (cfX12) (k := 37) (Nat.le_of_ble_eq_true rfl) tw7_120 rfl (Or.inr ⟨rfl, hn, rfl⟩) rfl dX12_init_242 hw (fun h91 hw => ?_)
  refine go_aload_n C dX12_init_245 0 rfl ?_
  refine go_iconst C 3 dX12_init_246 kc_i3 ?_
  refine go_newarr0 C 3 (by decide) (by decide) (Nat.le_of_ble_eq_true rfl) tw1_76 ⟨Nat.le_of_ble_eq_true rfl, Nat.le_of_ble_eq_true rfl⟩ dX12_init_247 hw (fun a92 h93 hw => ?_)
  refine go_putRA C (cfX12) (k := 39) (Nat.le_of_ble_eq_true rfl) tw7_122 rfl (Or.inr ⟨rfl, hn, rfl⟩) rfl dX12_init_249 hw (fun h94 hw => ?_)
  refine go_aload_n C dX12_init_252 0 rfl ?_
  refine go_iconst C 3 dX12_init_253 kc_i3 ?_
  refine go_newarr0 C 3 (by decide) (by decide) (Nat.le_of_ble_eq_true rfl) tw1_76 ⟨Nat.le_of_ble_eq_true rfl, Nat.le_of_ble_eq_true rfl⟩ dX12_init_254 hw (fun a95 h96 hw => ?_)
  refine go_putRA C (cfX12) (k := 40) (Nat.le_of_ble_eq_true rfl) tw7_123 rfl (Or.inr ⟨rfl, hn, rfl⟩) rfl dX12_init_256 hw (fun h97 hw => ?_)
  refine go_aload_n C dX12_init_259 0 rfl ?_
  refine go_iconst C 3 dX12_init_260 kc_i3 ?_
  refine go_newarr0 C 3 (by decide) (by decide) (Nat.le_of_ble_eq_true rfl) tw1_76 ⟨Nat.le_of_ble_eq_true rfl, Nat.le_of_ble_eq_true rfl⟩ dX12_init_261 hw (fun a98 h99 hw => ?_)
  refine go_putRA C (cfX12) (k := 41) (Nat.le_of_ble_eq_true rfl) tw7_124 rfl (Or.inr ⟨rfl, hn, rfl⟩) rfl dX12_init_263 hw (fun h100 hw => ?_)
  refine go_aload_n C dX12_init_266 0 rfl ?_
  refine go_iconst C 3 dX12_init_267 kc_i3 ?_
  refine go_newarr0 C 3 (by decide) (by decide) (Nat.le_of_ble_eq_true rfl) tw1_76 ⟨Nat.le_of_ble_eq_true rfl, Nat.le_of_ble_eq_true rfl⟩ dX12_init_268 hw (fun a101 h102 hw => ?_)
  refine go_putRA C (cfX12) (k := 42) (Nat.le_of_ble_eq_true rfl) tw7_125 rfl (Or.inr ⟨rfl, hn, rfl⟩) rfl dX12_init_270 hw (fun h103 hw => ?_)
  refine go_aload_n C dX12_init_273 0 rfl ?_
  refine go_iconst C 3 dX12_init_274 kc_i3 ?_
  refine go_newarr0 C 3 (by decide) (by decide) (Nat.le_of_ble_eq_true rfl) tw1_76 ⟨Nat.le_of_ble_eq_true rfl, Nat.le_of_ble_eq_true rfl⟩ dX12_init_275 hw (fun a104 h105 hw => ?_)
  refine go_putRA C (cfX12) (k := 43) (Nat.le_of_ble_eq_true rfl) tw7_126 rfl (Or.inr ⟨rfl, hn, rfl⟩) rfl dX12_init_277 hw (fun h106 hw => ?_)
  refine go_aload_n C dX12_init_280 0 rfl ?_
  refine go_iconst C 3 dX12_init_281 kc_i3 ?_
  refine go_newarr0 C 3 (by decide) (by decide) (Nat.le_of_ble_eq_true rfl) tw1_76 ⟨Nat.le_of_ble_eq_true rfl, Nat.le_of_ble_eq_true rfl⟩ dX12_init_282 hw (fun a107 h108 hw => ?_)
  refine go_putRA C (cfX12) (k := 44) (Nat.le_of_ble_eq_true rfl) tw7_127 rfl (Or.inr ⟨rfl, hn, rfl⟩) rfl dX12_init_284 hw (fun h109 hw => ?_)
  refine go_aload_n C dX12_init_287 0 rfl ?_
  refine go_iconst C 2 dX12_init_288 kc_i2 ?_
  refine go_newarr0 C 2 (by decide) (by decide) (Nat.le_of_ble_eq_true rfl) tw1_76 ⟨Nat.le_of_ble_eq_true rfl, Nat.le_of_ble_eq_true rfl⟩ dX12_init_289 hw (fun a110 h111 hw => ?_)
  refine go_putRA C (cfX12) (k := 46) (Nat.le_of_ble_eq_true rfl) tw7_129 rfl (Or.inr ⟨rfl, hn, rfl⟩) rfl dX12_init_291 hw (fun h112 hw => ?_)
  refine go_aload_n C dX12_init_294 0 rfl ?_
  refine go_iconst C 3 dX12_init_295 kc_i3 ?_
  refine go_newarr0 C 3 (by decide) (by decide) (Nat.le_of_ble_eq_true rfl) tw1_76 ⟨Nat.le_of_ble_eq_true rfl, Nat.le_of_ble_eq_true rfl⟩ dX12_init_296 hw (fun a113 h114 hw => ?_)
  refine go_putRA C (cfX12) (k := 47) (Nat.le_of_ble_eq_true rfl) tw7_130 rfl (Or.inr ⟨rfl, hn, rfl⟩) rfl dX12_init_298 hw (fun h115 hw => ?_)
  refine go_aload_n C dX12_init_301 0 rfl ?_
  refine go_iconst C 3 dX12_init_302 kc_i3 ?_
  refine go_newarr0 C 3 (by decide) (by decide) (Nat.le_of_ble_eq_true rfl) tw1_76 ⟨Nat.le_of_ble_eq_true rfl, Nat.le_of_ble_eq_true rfl⟩ dX12_init_303 hw (fun a116 h117 hw => ?_)
  refine go_putRA C (cfX12) (k := 48) (Nat.le_of_ble_eq_true rfl) tw7_131 rfl (Or.inr ⟨rfl, hn, rfl⟩) rfl dX12_init_305 hw (fun h118 hw => ?_)
  refine go_aload_n C dX12_init_308 0 rfl ?_
  refine go_iconst C 2 dX12_init_309 kc_i2 ?_
  refine go_newarr0 C 2 (by decide) (by decide) (Nat.le_of_ble_eq_true rfl) tw1_76 ⟨Nat.le_of_ble_eq_true rfl, Nat.le_of_ble_eq_true rfl⟩ dX12_init_310 hw (fun a119 h120 hw => ?_)
  refine go_putRA C (cfX12) (k := 51) (Nat.le_of_ble_eq_true rfl) tw7_134 rfl (Or.inr ⟨rfl, hn, rfl⟩) rfl dX12_init_312 hw (fun h121 hw => ?_)
  refine go_aload_n C dX12_init_315 0 rfl ?_
  refine go_sipush C 1200 dX12_init_316 kc_s1200 ?_
  refine go_newarr0 C 1200 (by decide) (by decide) (Nat.le_of_ble_eq_true rfl) tw1_76 ⟨Nat.le_of_ble_eq_true rfl, Nat.le_of_ble_eq_true rfl⟩ dX12_init_319 hw (fun a122 h123 hw => ?_)
  refine go_putRA C (cfX12) (k := 53) (Nat.le_of_ble_eq_true rfl) tw7_136 rfl (Or.inr ⟨rfl, hn, rfl⟩) rfl dX12_init_321 hw (fun h124 hw => ?_)
  refine go_aload_n C dX12_init_324 0 rfl ?_
  refine go_iconst C 2 dX12_init_325 kc_i2 ?_
  refine go_newarr0 C 2 (by decide) (by decide) (Nat.le_of_ble_eq_true rfl) tw1_76 ⟨Nat.le_of_ble_eq_true rfl, Nat.le_of_ble_eq_true rfl⟩ dX12_init_326 hw (fun a125 h126 hw => ?_)
  refine go_putRA C (cfX12) (k := 54) (Nat.le_of_ble_eq_true rfl) tw7_137 rfl (Or.inr ⟨rfl, hn, rfl⟩) rfl dX12_init_328 hw (fun h127 hw => ?_)
  exact go_vret C dX12_init_331 hw (Nat.le_of_ble_eq_true rfl) (Nat.le_of_ble_eq_true rfl)
/-- DuelSchemaModel.thrown()I -/
def w_X12_thrown (N : Nat) (a0 : Nat) (h0 : Hp) (K : Int32 → Prop) : Prop :=
  gI h0 a0 12 0 fun v1 =>
  K v1
abbrev rmX12_thrown : Room := { frames := 2, cells := 0, slots := 0, locals := 60 }
theorem vX12_thrown : VI RX12 yX12_thrown cX12_thrown 1 (some .int) 0 := ⟨tw8_13, tw8_14, tw1_8, tw8_15, by decide +kernel⟩
set_option maxHeartbeats 4000000 in
theorem m_X12_thrown {G : Gp} (l : Launch) (hfl : l.stackTraces = false) (N : Nat) {a0 : Nat} {h0 : Hp} {K : Int32 → Prop} (hw : w_X12_thrown N a0 h0 K) : MT G l yX12_thrown cX12_thrown 1 (some .int) rmX12_thrown [rV (some a0)] h0 (QI G (fun r h1 => h1 = h0 ∧ K r)) := by
  refine go_metT l hfl _ 1 _ _ rfl (by decide +kernel) (Nat.le_of_ble_eq_true rfl) [(0, rV (some a0))] rfl (fun X hX C hn => ?_)
  subst hX
  unfold w_X12_thrown at hw
  refine go_aload_n C dX12_thrown_0 0 rfl ?_
  refine go_getI C (cfX12) (k := 0) (Nat.le_of_ble_eq_true rfl) tw7_83 rfl dX12_thrown_1 hw (fun v1 hw => ?_)
  exact go_iret C dX12_thrown_4 ⟨rfl, hw⟩ (Nat.le_of_ble_eq_true rfl) (Nat.le_of_ble_eq_true rfl)
/-- DuelSchemaModel.in(III)Z -/
def w_X12_in (N : Nat) (p0 : Int32) (p1 : Int32) (p2 : Int32) (h0 : Hp) (K : Int32 → Prop) : Prop :=
  br (p0 < p1) (
    K 0) (
    br (p2 < p0) (
      K 0) (
      K 1))
abbrev rmX12_in : Room := { frames := 2, cells := 0, slots := 0, locals := 60 }
theorem vX12_in : SI yX12_in cX12_in 3 (some .boolean) 3 := ⟨tw8_21, tw1_8, tw8_22, by decide +kernel⟩
set_option maxHeartbeats 4000000 in
theorem m_X12_in {G : Gp} (l : Launch) (hfl : l.stackTraces = false) (N : Nat) {p0 : Int32} {p1 : Int32} {p2 : Int32} {h0 : Hp} {K : Int32 → Prop} (hw : w_X12_in N p0 p1 p2 h0 K) : MT G l yX12_in cX12_in 3 (some .boolean) rmX12_in [iV p0, iV p1, iV p2] h0 (QI G (fun r h1 => h1 = h0 ∧ K r)) := by
  refine go_metT l hfl _ 3 _ _ rfl (by decide +kernel) (Nat.le_of_ble_eq_true rfl) [(0, iV p0), (1, iV p1), (2, iV p2)] rfl (fun X hX C hn => ?_)
  subst hX
  unfold w_X12_in at hw
  refine go_iload_n C dX12_in_0 0 rfl ?_
  refine go_iload_n C dX12_in_1 1 rfl ?_
  refine go_icmp_lt C 14 dX12_in_2 (by decide) hw (fun hw => ?_) (fun hw => ?_)
  · refine go_iconst C 0 dX12_in_14 kc_i0 ?_
    exact go_zret C dX12_in_15 ⟨rfl, ⟨rfl, hw⟩⟩ (Nat.le_of_ble_eq_true rfl) (Nat.le_of_ble_eq_true rfl)
  refine go_iload_n C dX12_in_5 0 rfl ?_
  refine go_iload_n C dX12_in_6 2 rfl ?_
  refine go_icmp_gt C 14 dX12_in_7 (by decide) hw (fun hw => ?_) (fun hw => ?_)
  · refine go_iconst C 0 dX12_in_14 kc_i0 ?_
    exact go_zret C dX12_in_15 ⟨rfl, ⟨rfl, hw⟩⟩ (Nat.le_of_ble_eq_true rfl) (Nat.le_of_ble_eq_true rfl)
  refine go_iconst C 1 dX12_in_10 kc_i1 ?_
  refine go_goto C 15 dX12_in_11 (by decide) ?_
  exact go_zret C dX12_in_15 ⟨rfl, ⟨rfl, hw⟩⟩ (Nat.le_of_ble_eq_true rfl) (Nat.le_of_ble_eq_true rfl)
/-- DuelSchemaModel.most(II)I -/
def w_X12_most (N : Nat) (p0 : Int32) (p1 : Int32) (h0 : Hp) (K : Int32 → Prop) : Prop :=
  br (p0 ≤ p1) (
    K p1) (
    K p0)
abbrev rmX12_most : Room := { frames := 2, cells := 0, slots := 0, locals := 60 }
theorem vX12_most : SI yX12_most cX12_most 2 (some .int) 2 := ⟨tw9_20, tw1_8, tw9_21, by decide +kernel⟩
set_option maxHeartbeats 4000000 in
theorem m_X12_most {G : Gp} (l : Launch) (hfl : l.stackTraces = false) (N : Nat) {p0 : Int32} {p1 : Int32} {h0 : Hp} {K : Int32 → Prop} (hw : w_X12_most N p0 p1 h0 K) : MT G l yX12_most cX12_most 2 (some .int) rmX12_most [iV p0, iV p1] h0 (QI G (fun r h1 => h1 = h0 ∧ K r)) := by
  refine go_metT l hfl _ 2 _ _ rfl (by decide +kernel) (Nat.le_of_ble_eq_true rfl) [(0, iV p0), (1, iV p1)] rfl (fun X hX C hn => ?_)
  subst hX
  unfold w_X12_most at hw
  refine go_iload_n C dX12_most_0 0 rfl ?_
  refine go_iload_n C dX12_most_1 1 rfl ?_
  refine go_icmp_le C 9 dX12_most_2 (by decide) hw (fun hw => ?_) (fun hw => ?_)
  · refine go_iload_n C dX12_most_9 1 rfl ?_
    exact go_iret C dX12_most_10 ⟨rfl, hw⟩ (Nat.le_of_ble_eq_true rfl) (Nat.le_of_ble_eq_true rfl)
  refine go_iload_n C dX12_most_5 0 rfl ?_
  refine go_goto C 10 dX12_most_6 (by decide) ?_
  exact go_iret C dX12_most_10 ⟨rfl, hw⟩ (Nat.le_of_ble_eq_true rfl) (Nat.le_of_ble_eq_true rfl)
/-- DuelSchemaModel.fewest(II)I -/
def w_X12_fewest (N : Nat) (p0 : Int32) (p1 : Int32) (h0 : Hp) (K : Int32 → Prop) : Prop :=
  br (p1 ≤ p0) (
    K p1) (
    K p0)
abbrev rmX12_fewest : Room := { frames := 2, cells := 0, slots := 0, locals := 60 }
theorem vX12_fewest : SI yX12_fewest cX12_fewest 2 (some .int) 2 := ⟨tw8_120, tw1_8, tw8_121, by decide +kernel⟩
set_option maxHeartbeats 4000000 in
theorem m_X12_fewest {G : Gp} (l : Launch) (hfl : l.stackTraces = false) (N : Nat) {p0 : Int32} {p1 : Int32} {h0 : Hp} {K : Int32 → Prop} (hw : w_X12_fewest N p0 p1 h0 K) : MT G l yX12_fewest cX12_fewest 2 (some .int) rmX12_fewest [iV p0, iV p1] h0 (QI G (fun r h1 => h1 = h0 ∧ K r)) := by
  refine go_metT l hfl _ 2 _ _ rfl (by decide +kernel) (Nat.le_of_ble_eq_true rfl) [(0, iV p0), (1, iV p1)] rfl (fun X hX C hn => ?_)
  subst hX
  unfold w_X12_fewest at hw
  refine go_iload_n C dX12_fewest_0 0 rfl ?_
  refine go_iload_n C dX12_fewest_1 1 rfl ?_
  refine go_icmp_ge C 9 dX12_fewest_2 (by decide) hw (fun hw => ?_) (fun hw => ?_)
  · refine go_iload_n C dX12_fewest_9 1 rfl ?_
    exact go_iret C dX12_fewest_10 ⟨rfl, hw⟩ (Nat.le_of_ble_eq_true rfl) (Nat.le_of_ble_eq_true rfl)
  refine go_iload_n C dX12_fewest_5 0 rfl ?_
  refine go_goto C 10 dX12_fewest_6 (by decide) ?_
  exact go_iret C dX12_fewest_10 ⟨rfl, hw⟩ (Nat.le_of_ble_eq_true rfl) (Nat.le_of_ble_eq_true rfl)
/-- DuelSchemaModel.fails(ZI)Z -/
def w_X12_fails (N : Nat) (a0 : Nat) (p1 : Int32) (p2 : Int32) (h0 : Hp) (K : Int32 → Hp → Prop) : Prop :=
  gI h0 a0 12 0 fun v1 =>
  jn (fun (h2 : Hp) => 
    gI h2 a0 12 0 fun v3 =>
    br (v3 ≤ 0) (
      K 0 h2) (
      K 1 h2)) (fun j16 =>
  br (v1 = 0) (
    br (p1 = 0) (
      j16 h0) (
      pF h0 a0 12 0 (iV p2) fun h4 =>
      j16 h4)) (
    j16 h0))
abbrev rmX12_fails : Room := { frames := 2, cells := 0, slots := 0, locals := 60 }
theorem vX12_fails : VI RX12 yX12_fails cX12_fails 3 (some .boolean) 2 := ⟨tw8_25, tp43, tw1_8, tw8_26, by decide +kernel⟩
set_option maxHeartbeats 4000000 in
theorem m_X12_fails {G : Gp} (l : Launch) (hfl : l.stackTraces = false) (N : Nat) {a0 : Nat} {p1 : Int32} {p2 : Int32} {h0 : Hp} {K : Int32 → Hp → Prop} (hw : w_X12_fails N a0 p1 p2 h0 K) : MT G l yX12_fails cX12_fails 3 (some .boolean) rmX12_fails [rV (some a0), iV p1, iV p2] h0 (QI G K) := by
  refine go_metT l hfl _ 3 _ _ rfl (by decide +kernel) (Nat.le_of_ble_eq_true rfl) [(0, rV (some a0)), (1, iV p1), (2, iV p2)] rfl (fun X hX C hn => ?_)
  subst hX
  unfold w_X12_fails at hw
  refine go_aload_n C dX12_fails_0 0 rfl ?_
  refine go_getI C (cfX12) (k := 0) (Nat.le_of_ble_eq_true rfl) tw7_83 rfl dX12_fails_1 hw (fun v1 hw => ?_)
  refine jn_elim (P := fun j => ∀ (h2 : Hp), j h2 → Go G X rmX12_fails 3 0 0 (QN G X (QI G K) rmX12_fails) h2 16 [(0, rV (some a0))] []) hw (fun h2 hw => ?_) (fun j16 hj16 hw => ?_)
  · refine go_aload_n C dX12_fails_16 0 rfl ?_
    refine go_getI C (cfX12) (k := 0) (Nat.le_of_ble_eq_true rfl) tw7_83 rfl dX12_fails_17 hw (fun v3 hw => ?_)
    refine go_if_le C 27 dX12_fails_20 (by decide) hw (fun hw => ?_) (fun hw => ?_)
    · refine go_iconst C 0 dX12_fails_27 kc_i0 ?_
      exact go_zret C dX12_fails_28 ⟨rfl, hw⟩ (Nat.le_of_ble_eq_true rfl) (Nat.le_of_ble_eq_true rfl)
    refine go_iconst C 1 dX12_fails_23 kc_i1 ?_
    refine go_goto C 28 dX12_fails_24 (by decide) ?_
    exact go_zret C dX12_fails_28 ⟨rfl, hw⟩ (Nat.le_of_ble_eq_true rfl) (Nat.le_of_ble_eq_true rfl)
  refine go_if_ne C 16 dX12_fails_4 (by decide) hw (fun hw => ?_) (fun hw => ?_)
  · refine go_sub [0] rfl ?_
    exact hj16 h0 hw
  refine go_iload_n C dX12_fails_7 1 rfl ?_
  refine go_if_eq C 16 dX12_fails_8 (by decide) hw (fun hw => ?_) (fun hw => ?_)
  · refine go_sub [0] rfl ?_
    exact hj16 h0 hw
  refine go_aload_n C dX12_fails_11 0 rfl ?_
  refine go_iload_n C dX12_fails_12 2 rfl ?_
  refine go_putI C (cfX12) (k := 0) (Nat.le_of_ble_eq_true rfl) tw7_83 rfl (Or.inl rfl) rfl dX12_fails_13 hw (fun h4 hw => ?_)
  refine go_sub [0] rfl ?_
  exact hj16 h4 hw
/-- DuelSchemaModel.isTable(I)Z -/
def w_X12_isTable (N : Nat) (a0 : Nat) (p1 : Int32) (h0 : Hp) (K : Int32 → Prop) : Prop :=
  gI h0 a0 12 1 fun v1 =>
  w_X12_in N p1 0 (v1 - 1) h0 fun v2 =>
  ok (narrow .boolean (.int v2) = .int v2) <| K v2
abbrev rmX12_isTable : Room := { frames := 3, cells := 0, slots := 0, locals := 82 }
theorem vX12_isTable : VI RX12 yX12_isTable cX12_isTable 2 (some .boolean) 1 := ⟨tw8_33, tp44, tw1_8, tw8_34, by decide +kernel⟩
set_option maxHeartbeats 4000000 in
theorem m_X12_isTable {G : Gp} (l : Launch) (hfl : l.stackTraces = false) (N : Nat) {a0 : Nat} {p1 : Int32} {h0 : Hp} {K : Int32 → Prop} (hw : w_X12_isTable N a0 p1 h0 K) : MT G l yX12_isTable cX12_isTable 2 (some .boolean) rmX12_isTable [rV (some a0), iV p1] h0 (QI G (fun r h1 => h1 = h0 ∧ K r)) := by
  refine go_metT l hfl _ 2 _ _ rfl (by decide +kernel) (Nat.le_of_ble_eq_true rfl) [(0, rV (some a0)), (1, iV p1)] rfl (fun X hX C hn => ?_)
  subst hX
  unfold w_X12_isTable at hw
  refine go_iload_n C dX12_isTable_0 1 rfl ?_
  refine go_iconst C 0 dX12_isTable_1 kc_i0 ?_
  refine go_aload_n C dX12_isTable_2 0 rfl ?_
  refine go_getI C (cfX12) (k := 1) (Nat.le_of_ble_eq_true rfl) tw7_84 rfl dX12_isTable_3 hw (fun v1 hw => ?_)
  refine go_iconst C 1 dX12_isTable_6 kc_i1 ?_
  refine go_isub C dX12_isTable_7 ?_
  refine go_pS_i C [iV p1, iV 0, iV (v1 - 1)] vX12_in tw8_20 (m_X12_in (xl X) C.2.2.2.2.2.2.2.1 N hw) ⟨Nat.le_of_ble_eq_true rfl, Nat.le_of_ble_eq_true rfl, Nat.le_of_ble_eq_true rfl, Nat.le_of_ble_eq_true rfl⟩ ⟨rfl, rfl⟩ dX12_isTable_8 rfl (Nat.le_of_ble_eq_true rfl) rfl (fun v2 hw => ?_)
  exact go_zret C dX12_isTable_11 ⟨hw.1, ⟨rfl, hw.2⟩⟩ (Nat.le_of_ble_eq_true rfl) (Nat.le_of_ble_eq_true rfl)
/-- DuelSchemaModel.isColumn(II)Z -/
def w_X12_isColumn (N : Nat) (a0 : Nat) (p1 : Int32) (p2 : Int32) (h0 : Hp) (K : Int32 → Prop) : Prop :=
  cv h0 a0 12 <| w_X12_isTable N a0 p1 h0 fun v1 =>
  br (v1 = 0) (
    K 0) (
    gA h0 a0 12 2 fun a2 =>
    aI h0 a2 0 p1 fun v3 =>
    w_X12_in N p2 0 (v3 - 1) h0 fun v4 =>
    br (v4 = 0) (
      K 0) (
      K 1))
abbrev rmX12_isColumn : Room := { frames := 4, cells := 0, slots := 0, locals := 103 }
theorem vX12_isColumn : VI RX12 yX12_isColumn cX12_isColumn 3 (some .boolean) 2 := ⟨tw8_37, tp45, tw1_8, tw8_38, by decide +kernel⟩
set_option maxHeartbeats 4000000 in
theorem m_X12_isColumn {G : Gp} (l : Launch) (hfl : l.stackTraces = false) (N : Nat) {a0 : Nat} {p1 : Int32} {p2 : Int32} {h0 : Hp} {K : Int32 → Prop} (hw : w_X12_isColumn N a0 p1 p2 h0 K) : MT G l yX12_isColumn cX12_isColumn 3 (some .boolean) rmX12_isColumn [rV (some a0), iV p1, iV p2] h0 (QI G (fun r h1 => h1 = h0 ∧ K r)) := by
  refine go_metT l hfl _ 3 _ _ rfl (by decide +kernel) (Nat.le_of_ble_eq_true rfl) [(0, rV (some a0)), (1, iV p1), (2, iV p2)] rfl (fun X hX C hn => ?_)
  subst hX
  unfold w_X12_isColumn at hw
  refine go_aload_n C dX12_isColumn_0 0 rfl ?_
  refine go_iload_n C dX12_isColumn_1 1 rfl ?_
  refine go_pV_i C [iV p1] vX12_isTable tw8_31 (ci := 12) rfl (m_X12_isTable (xl X) C.2.2.2.2.2.2.2.1 N hw.2) ⟨Nat.le_of_ble_eq_true rfl, Nat.le_of_ble_eq_true rfl, Nat.le_of_ble_eq_true rfl, Nat.le_of_ble_eq_true rfl⟩ ⟨rfl, rfl⟩ hw.1 dX12_isColumn_2 rfl (Nat.le_of_ble_eq_true rfl) rfl (fun v1 hw => ?_)
  refine go_if_eq C 28 dX12_isColumn_5 (by decide) hw (fun hw => ?_) (fun hw => ?_)
  · refine go_iconst C 0 dX12_isColumn_28 kc_i0 ?_
    exact go_zret C dX12_isColumn_29 ⟨rfl, ⟨rfl, hw⟩⟩ (Nat.le_of_ble_eq_true rfl) (Nat.le_of_ble_eq_true rfl)
  refine go_iload_n C dX12_isColumn_8 2 rfl ?_
  refine go_iconst C 0 dX12_isColumn_9 kc_i0 ?_
  refine go_aload_n C dX12_isColumn_10 0 rfl ?_
  refine go_getA C (cfX12) (k := 2) (Nat.le_of_ble_eq_true rfl) tw7_85 rfl dX12_isColumn_11 hw (fun a2 hw => ?_)
  refine go_iload_n C dX12_isColumn_14 1 rfl ?_
  refine go_iaload C dX12_isColumn_15 hw (fun v3 hw => ?_)
  refine go_iconst C 1 dX12_isColumn_16 kc_i1 ?_
  refine go_isub C dX12_isColumn_17 ?_
  refine go_pS_i C [iV p2, iV 0, iV (v3 - 1)] vX12_in tw8_20 (m_X12_in (xl X) C.2.2.2.2.2.2.2.1 N hw) ⟨Nat.le_of_ble_eq_true rfl, Nat.le_of_ble_eq_true rfl, Nat.le_of_ble_eq_true rfl, Nat.le_of_ble_eq_true rfl⟩ ⟨rfl, rfl⟩ dX12_isColumn_18 rfl (Nat.le_of_ble_eq_true rfl) rfl (fun v4 hw => ?_)
  refine go_if_eq C 28 dX12_isColumn_21 (by decide) hw (fun hw => ?_) (fun hw => ?_)
  · refine go_iconst C 0 dX12_isColumn_28 kc_i0 ?_
    exact go_zret C dX12_isColumn_29 ⟨rfl, ⟨rfl, hw⟩⟩ (Nat.le_of_ble_eq_true rfl) (Nat.le_of_ble_eq_true rfl)
  refine go_iconst C 1 dX12_isColumn_24 kc_i1 ?_
  refine go_goto C 29 dX12_isColumn_25 (by decide) ?_
  exact go_zret C dX12_isColumn_29 ⟨rfl, ⟨rfl, hw⟩⟩ (Nat.le_of_ble_eq_true rfl) (Nat.le_of_ble_eq_true rfl)
/-- DuelSchemaModel.isIndex(I)Z -/
def w_X12_isIndex (N : Nat) (a0 : Nat) (p1 : Int32) (h0 : Hp) (K : Int32 → Prop) : Prop :=
  gI h0 a0 12 13 fun v1 =>
  w_X12_in N p1 0 (v1 - 1) h0 fun v2 =>
  ok (narrow .boolean (.int v2) = .int v2) <| K v2
abbrev rmX12_isIndex : Room := { frames := 3, cells := 0, slots := 0, locals := 82 }
theorem vX12_isIndex : VI RX12 yX12_isIndex cX12_isIndex 2 (some .boolean) 1 := ⟨tw8_101, tp54, tw1_8, tw8_102, by decide +kernel⟩
set_option maxHeartbeats 4000000 in
theorem m_X12_isIndex {G : Gp} (l : Launch) (hfl : l.stackTraces = false) (N : Nat) {a0 : Nat} {p1 : Int32} {h0 : Hp} {K : Int32 → Prop} (hw : w_X12_isIndex N a0 p1 h0 K) : MT G l yX12_isIndex cX12_isIndex 2 (some .boolean) rmX12_isIndex [rV (some a0), iV p1] h0 (QI G (fun r h1 => h1 = h0 ∧ K r)) := by
  refine go_metT l hfl _ 2 _ _ rfl (by decide +kernel) (Nat.le_of_ble_eq_true rfl) [(0, rV (some a0)), (1, iV p1)] rfl (fun X hX C hn => ?_)
  subst hX
  unfold w_X12_isIndex at hw
  refine go_iload_n C dX12_isIndex_0 1 rfl ?_
  refine go_iconst C 0 dX12_isIndex_1 kc_i0 ?_
  refine go_aload_n C dX12_isIndex_2 0 rfl ?_
  refine go_getI C (cfX12) (k := 13) (Nat.le_of_ble_eq_true rfl) tw7_96 rfl dX12_isIndex_3 hw (fun v1 hw => ?_)
  refine go_iconst C 1 dX12_isIndex_6 kc_i1 ?_
  refine go_isub C dX12_isIndex_7 ?_
  refine go_pS_i C [iV p1, iV 0, iV (v1 - 1)] vX12_in tw8_20 (m_X12_in (xl X) C.2.2.2.2.2.2.2.1 N hw) ⟨Nat.le_of_ble_eq_true rfl, Nat.le_of_ble_eq_true rfl, Nat.le_of_ble_eq_true rfl, Nat.le_of_ble_eq_true rfl⟩ ⟨rfl, rfl⟩ dX12_isIndex_8 rfl (Nat.le_of_ble_eq_true rfl) rfl (fun v2 hw => ?_)
  exact go_zret C dX12_isIndex_11 ⟨hw.1, ⟨rfl, hw.2⟩⟩ (Nat.le_of_ble_eq_true rfl) (Nat.le_of_ble_eq_true rfl)
/-- DuelSchemaModel.hasRow(II)Z -/
def w_X12_hasRow (N : Nat) (a0 : Nat) (p1 : Int32) (p2 : Int32) (h0 : Hp) (K : Int32 → Prop) : Prop :=
  gA h0 a0 12 3 fun a1 =>
  aI h0 a1 0 p1 fun v2 =>
  w_X12_in N p2 0 (v2 - 1) h0 fun v3 =>
  br (v3 = 0) (
    K 0) (
    gA h0 a0 12 4 fun a4 =>
    aI h0 a4 1 ((40 * p1) + p2) fun v5 =>
    br (v5 = 0) (
      K 0) (
      K 1))
abbrev rmX12_hasRow : Room := { frames := 3, cells := 0, slots := 0, locals := 82 }
theorem vX12_hasRow : VI RX12 yX12_hasRow cX12_hasRow 3 (some .boolean) 2 := ⟨tw8_41, tp46, tw1_8, tw8_42, by decide +kernel⟩
set_option maxHeartbeats 4000000 in
theorem m_X12_hasRow {G : Gp} (l : Launch) (hfl : l.stackTraces = false) (N : Nat) {a0 : Nat} {p1 : Int32} {p2 : Int32} {h0 : Hp} {K : Int32 → Prop} (hw : w_X12_hasRow N a0 p1 p2 h0 K) : MT G l yX12_hasRow cX12_hasRow 3 (some .boolean) rmX12_hasRow [rV (some a0), iV p1, iV p2] h0 (QI G (fun r h1 => h1 = h0 ∧ K r)) := by
  refine go_metT l hfl _ 3 _ _ rfl (by decide +kernel) (Nat.le_of_ble_eq_true rfl) [(0, rV (some a0)), (1, iV p1), (2, iV p2)] rfl (fun X hX C hn => ?_)
  subst hX
  unfold w_X12_hasRow at hw
  refine go_iload_n C dX12_hasRow_0 2 rfl ?_
  refine go_iconst C 0 dX12_hasRow_1 kc_i0 ?_
  refine go_aload_n C dX12_hasRow_2 0 rfl ?_
  refine go_getA C (cfX12) (k := 3) (Nat.le_of_ble_eq_true rfl) tw7_86 rfl dX12_hasRow_3 hw (fun a1 hw => ?_)
  refine go_iload_n C dX12_hasRow_6 1 rfl ?_
  refine go_iaload C dX12_hasRow_7 hw (fun v2 hw => ?_)
  refine go_iconst C 1 dX12_hasRow_8 kc_i1 ?_
  refine go_isub C dX12_hasRow_9 ?_
  refine go_pS_i C [iV p2, iV 0, iV (v2 - 1)] vX12_in tw8_20 (m_X12_in (xl X) C.2.2.2.2.2.2.2.1 N hw) ⟨Nat.le_of_ble_eq_true rfl, Nat.le_of_ble_eq_true rfl, Nat.le_of_ble_eq_true rfl, Nat.le_of_ble_eq_true rfl⟩ ⟨rfl, rfl⟩ dX12_hasRow_10 rfl (Nat.le_of_ble_eq_true rfl) rfl (fun v3 hw => ?_)
  refine go_if_eq C 34 dX12_hasRow_13 (by decide) hw (fun hw => ?_) (fun hw => ?_)
  · refine go_iconst C 0 dX12_hasRow_34 kc_i0 ?_
    exact go_zret C dX12_hasRow_35 ⟨rfl, ⟨rfl, hw⟩⟩ (Nat.le_of_ble_eq_true rfl) (Nat.le_of_ble_eq_true rfl)
  refine go_aload_n C dX12_hasRow_16 0 rfl ?_
  refine go_getA C (cfX12) (k := 4) (Nat.le_of_ble_eq_true rfl) tw7_87 rfl dX12_hasRow_17 hw (fun a4 hw => ?_)
  refine go_bipush C 40 dX12_hasRow_20 kc_b40 ?_
  refine go_iload_n C dX12_hasRow_22 1 rfl ?_
  refine go_imul C dX12_hasRow_23 ?_
  refine go_iload_n C dX12_hasRow_24 2 rfl ?_
  refine go_iadd C dX12_hasRow_25 ?_
  refine go_zaload C dX12_hasRow_26 hw (fun v5 hw => ?_)
  refine go_if_eq C 34 dX12_hasRow_27 (by decide) hw (fun hw => ?_) (fun hw => ?_)
  · refine go_iconst C 0 dX12_hasRow_34 kc_i0 ?_
    exact go_zret C dX12_hasRow_35 ⟨rfl, ⟨rfl, hw⟩⟩ (Nat.le_of_ble_eq_true rfl) (Nat.le_of_ble_eq_true rfl)
  refine go_iconst C 1 dX12_hasRow_30 kc_i1 ?_
  refine go_goto C 35 dX12_hasRow_31 (by decide) ?_
  exact go_zret C dX12_hasRow_35 ⟨rfl, ⟨rfl, hw⟩⟩ (Nat.le_of_ble_eq_true rfl) (Nat.le_of_ble_eq_true rfl)
/-- DuelSchemaModel.at(III)I -/
def w_X12_at (N : Nat) (a0 : Nat) (p1 : Int32) (p2 : Int32) (p3 : Int32) (h0 : Hp) (K : Int32 → Prop) : Prop :=
  gA h0 a0 12 5 fun a1 =>
  aI h0 a1 0 ((3 * ((40 * p1) + p2)) + p3) fun v2 =>
  K v2
abbrev rmX12_at : Room := { frames := 2, cells := 0, slots := 0, locals := 60 }
theorem vX12_at : VI RX12 yX12_at cX12_at 4 (some .int) 3 := ⟨tw8_45, tp47, tw1_8, tw8_46, by decide +kernel⟩
set_option maxHeartbeats 4000000 in
theorem m_X12_at {G : Gp} (l : Launch) (hfl : l.stackTraces = false) (N : Nat) {a0 : Nat} {p1 : Int32} {p2 : Int32} {p3 : Int32} {h0 : Hp} {K : Int32 → Prop} (hw : w_X12_at N a0 p1 p2 p3 h0 K) : MT G l yX12_at cX12_at 4 (some .int) rmX12_at [rV (some a0), iV p1, iV p2, iV p3] h0 (QI G (fun r h1 => h1 = h0 ∧ K r)) := by
  refine go_metT l hfl _ 4 _ _ rfl (by decide +kernel) (Nat.le_of_ble_eq_true rfl) [(0, rV (some a0)), (1, iV p1), (2, iV p2), (3, iV p3)] rfl (fun X hX C hn => ?_)
  subst hX
  unfold w_X12_at at hw
  refine go_aload_n C dX12_at_0 0 rfl ?_
  refine go_getA C (cfX12) (k := 5) (Nat.le_of_ble_eq_true rfl) tw7_88 rfl dX12_at_1 hw (fun a1 hw => ?_)
  refine go_iconst C 3 dX12_at_4 kc_i3 ?_
  refine go_bipush C 40 dX12_at_5 kc_b40 ?_
  refine go_iload_n C dX12_at_7 1 rfl ?_
  refine go_imul C dX12_at_8 ?_
  refine go_iload_n C dX12_at_9 2 rfl ?_
  refine go_iadd C dX12_at_10 ?_
  refine go_imul C dX12_at_11 ?_
  refine go_iload_n C dX12_at_12 3 rfl ?_
  refine go_iadd C dX12_at_13 ?_
  refine go_iaload C dX12_at_14 hw (fun v2 hw => ?_)
  exact go_iret C dX12_at_15 ⟨rfl, hw⟩ (Nat.le_of_ble_eq_true rfl) (Nat.le_of_ble_eq_true rfl)
/-- DuelSchemaModel.there(I)I -/
def w_X12_there (N : Nat) (a0 : Nat) (p1 : Int32) (h0 : Hp) (K : Int32 → Prop) : Prop :=
  fx2 (fun (w4 : Int32 → Int32 → Prop) (x1 : Int32) (x2 : Int32) =>
    gA h0 a0 12 3 fun a3 =>
    aI h0 a3 0 p1 fun v4 =>
    br (v4 ≤ x2) (
      K x1) (
      cv h0 a0 12 <| w_X12_hasRow N a0 p1 x2 h0 fun v5 =>
      jn (fun (v6 : Int32) => 
        w4 (x1 + v6) (x2 + 1)) (fun j29 =>
      br (v5 = 0) (
        j29 0) (
        j29 1)))) N 0 0
abbrev rmX12_there : Room := { frames := 4, cells := 0, slots := 0, locals := 104 }
theorem vX12_there : VI RX12 yX12_there cX12_there 4 (some .int) 1 := ⟨tw8_69, tp51, tw1_8, tw8_70, by decide +kernel⟩
set_option maxHeartbeats 4000000 in
theorem m_X12_there {G : Gp} (l : Launch) (hfl : l.stackTraces = false) (N : Nat) {a0 : Nat} {p1 : Int32} {h0 : Hp} {K : Int32 → Prop} (hw : w_X12_there N a0 p1 h0 K) : MT G l yX12_there cX12_there 4 (some .int) rmX12_there [rV (some a0), iV p1] h0 (QI G (fun r h1 => h1 = h0 ∧ K r)) := by
  refine go_metT l hfl _ 4 _ _ rfl (by decide +kernel) (Nat.le_of_ble_eq_true rfl) [(0, rV (some a0)), (1, iV p1)] rfl (fun X hX C hn => ?_)
  subst hX
  unfold w_X12_there at hw
  refine go_iconst C 0 dX12_there_0 kc_i0 ?_
  refine go_istore_n C [(2, iV 0), (0, rV (some a0)), (1, iV p1)] dX12_there_1 (Nat.le_of_ble_eq_true rfl) rfl ?_
  refine go_iconst C 0 dX12_there_2 kc_i0 ?_
  refine go_istore_n C [(3, iV 0), (2, iV 0), (0, rV (some a0)), (1, iV p1)] dX12_there_3 (Nat.le_of_ble_eq_true rfl) rfl ?_
  refine go_sub [2, 3, 1, 0] rfl ?_
  refine fx2_elim (P := fun x1 x2 => Go G X rmX12_there 4 0 0 (QN G X (QI G (fun r h1 => h1 = h0 ∧ K r)) rmX12_there) h0 4 [(0, rV (some a0)), (1, iV p1), (2, iV x1), (3, iV x2)] []) (fun w4 hj4 x1 x2 hw => ?_) N _ _ hw
  refine go_iload_n C dX12_there_4 3 rfl ?_
  refine go_aload_n C dX12_there_5 0 rfl ?_
  refine go_getA C (cfX12) (k := 3) (Nat.le_of_ble_eq_true rfl) tw7_86 rfl dX12_there_6 hw (fun a3 hw => ?_)
  refine go_iload_n C dX12_there_9 1 rfl ?_
  refine go_iaload C dX12_there_10 hw (fun v4 hw => ?_)
  refine go_icmp_ge C 37 dX12_there_11 (by decide) hw (fun hw => ?_) (fun hw => ?_)
  · refine go_iload_n C dX12_there_37 2 rfl ?_
    exact go_iret C dX12_there_38 ⟨rfl, hw⟩ (Nat.le_of_ble_eq_true rfl) (Nat.le_of_ble_eq_true rfl)
  refine go_iload_n C dX12_there_14 2 rfl ?_
  refine go_aload_n C dX12_there_15 0 rfl ?_
  refine go_iload_n C dX12_there_16 1 rfl ?_
  refine go_iload_n C dX12_there_17 3 rfl ?_
  refine go_pV_i C [iV p1, iV x2] vX12_hasRow tw8_39 (ci := 12) rfl (m_X12_hasRow (xl X) C.2.2.2.2.2.2.2.1 N hw.2) ⟨Nat.le_of_ble_eq_true rfl, Nat.le_of_ble_eq_true rfl, Nat.le_of_ble_eq_true rfl, Nat.le_of_ble_eq_true rfl⟩ ⟨rfl, rfl⟩ hw.1 dX12_there_18 rfl (Nat.le_of_ble_eq_true rfl) rfl (fun v5 hw => ?_)
  refine jn_elim (P := fun j => ∀ (v6 : Int32), j v6 → Go G X rmX12_there 4 0 0 (QN G X (QI G (fun r h1 => h1 = h0 ∧ K r)) rmX12_there) h0 29 [(0, rV (some a0)), (1, iV p1), (3, iV x2)] [iV v6, iV x1]) hw (fun v6 hw => ?_) (fun j29 hj29 hw => ?_)
  · refine go_iadd C dX12_there_29 ?_
    refine go_istore_n C [(2, iV (x1 + v6)), (0, rV (some a0)), (1, iV p1), (3, iV x2)] dX12_there_30 (Nat.le_of_ble_eq_true rfl) rfl ?_
    refine go_iinc C (x2 + 1) [(3, iV (x2 + 1)), (2, iV (x1 + v6)), (0, rV (some a0)), (1, iV p1)] dX12_there_31 3 rfl (by rw [kc_i1]) (Nat.le_of_ble_eq_true rfl) rfl ?_
    refine go_goto C 4 dX12_there_34 (by decide) ?_
    refine go_sub [2, 3, 1, 0] rfl ?_
    exact hj4 (x1 + v6) (x2 + 1) hw
  refine go_if_eq C 28 dX12_there_21 (by decide) hw (fun hw => ?_) (fun hw => ?_)
  · refine go_iconst C 0 dX12_there_28 kc_i0 ?_
    refine go_sub [0, 1, 3] rfl ?_
    exact hj29 0 hw
  refine go_iconst C 1 dX12_there_24 kc_i1 ?_
  refine go_goto C 29 dX12_there_25 (by decide) ?_
  refine go_sub [0, 1, 3] rfl ?_
  exact hj29 1 hw
/-- DuelSchemaModel.pagesOf(I)I -/
def w_X12_pagesOf (N : Nat) (a0 : Nat) (p1 : Int32) (h0 : Hp) (K : Int32 → Prop) : Prop :=
  gA h0 a0 12 3 fun a1 =>
  aI h0 a1 0 p1 fun v2 =>
  K ((v2 + 3) / 4)
abbrev rmX12_pagesOf : Room := { frames := 2, cells := 0, slots := 0, locals := 60 }
theorem vX12_pagesOf : VI RX12 yX12_pagesOf cX12_pagesOf 2 (some .int) 1 := ⟨tw8_77, tp52, tw1_8, tw8_78, by decide +kernel⟩
set_option maxHeartbeats 4000000 in
theorem m_X12_pagesOf {G : Gp} (l : Launch) (hfl : l.stackTraces = false) (N : Nat) {a0 : Nat} {p1 : Int32} {h0 : Hp} {K : Int32 → Prop} (hw : w_X12_pagesOf N a0 p1 h0 K) : MT G l yX12_pagesOf cX12_pagesOf 2 (some .int) rmX12_pagesOf [rV (some a0), iV p1] h0 (QI G (fun r h1 => h1 = h0 ∧ K r)) := by
  refine go_metT l hfl _ 2 _ _ rfl (by decide +kernel) (Nat.le_of_ble_eq_true rfl) [(0, rV (some a0)), (1, iV p1)] rfl (fun X hX C hn => ?_)
  subst hX
  unfold w_X12_pagesOf at hw
  refine go_aload_n C dX12_pagesOf_0 0 rfl ?_
  refine go_getA C (cfX12) (k := 3) (Nat.le_of_ble_eq_true rfl) tw7_86 rfl dX12_pagesOf_1 hw (fun a1 hw => ?_)
  refine go_iload_n C dX12_pagesOf_4 1 rfl ?_
  refine go_iaload C dX12_pagesOf_5 hw (fun v2 hw => ?_)
  refine go_iconst C 3 dX12_pagesOf_6 kc_i3 ?_
  refine go_iadd C dX12_pagesOf_7 ?_
  refine go_iconst C 4 dX12_pagesOf_8 kc_i4 ?_
  refine go_idiv C dX12_pagesOf_9 ⟨by decide, hw⟩ (fun hw => ?_)
  exact go_iret C dX12_pagesOf_10 ⟨rfl, hw⟩ (Nat.le_of_ble_eq_true rfl) (Nat.le_of_ble_eq_true rfl)
/-- DuelSchemaModel.table(I)I -/
def w_X12_table (N : Nat) (a0 : Nat) (p1 : Int32) (h0 : Hp) (K : Int32 → Hp → Prop) : Prop :=
  pF h0 a0 12 0 (iV 0) fun h1 =>
  w_X12_in N p1 1 3 h1 fun v2 =>
  jn (fun (v3 : Int32) => 
    cv h1 a0 12 <| w_X12_fails N a0 v3 1 h1 fun v4 h5 =>
    br (v4 = 0) (
      gI h5 a0 12 1 fun v6 =>
      jn (fun (v7 : Int32) => 
        cv h5 a0 12 <| w_X12_fails N a0 v7 2 h5 fun v8 h9 =>
        br (v8 = 0) (
          pF h9 a0 12 16 (iV 0) fun h10 =>
          gA h10 a0 12 2 fun a11 =>
          gI h10 a0 12 1 fun v12 =>
          sI h10 a11 0 v12 p1 fun h13 =>
          fx2 (fun (w67 : Int32 → Hp → Prop) (x15 : Int32) (h14 : Hp) =>
            br (3 ≤ x15) (
              gI h14 a0 12 1 fun v16 =>
              pF h14 a0 12 1 (iV (v16 + 1)) fun h17 =>
              gI h17 a0 12 1 fun v18 =>
              K (v18 - 1) h17) (
              gA h14 a0 12 7 fun a19 =>
              gI h14 a0 12 1 fun v20 =>
              sI h14 a19 0 ((3 * v20) + x15) 99 fun h21 =>
              w67 (x15 + 1) h21)) N 0 h13) (
          K (-1) h9)) (fun j41 =>
      br (v6 = 3) (
        j41 1) (
        j41 0))) (
      K (-1) h5)) (fun j20 =>
  br (v2 = 0) (
    j20 1) (
    j20 0))
abbrev rmX12_table : Room := { frames := 3, cells := 0, slots := 0, locals := 82 }
theorem vX12_table : VI RX12 yX12_table cX12_table 3 (some .int) 1 := ⟨tw8_17, tw8_18, tw1_8, tw8_19, by decide +kernel⟩
set_option maxHeartbeats 4000000 in
theorem m_X12_table {G : Gp} (l : Launch) (hfl : l.stackTraces = false) (N : Nat) {a0 : Nat} {p1 : Int32} {h0 : Hp} {K : Int32 → Hp → Prop} (hw : w_X12_table N a0 p1 h0 K) : MT G l yX12_table cX12_table 3 (some .int) rmX12_table [rV (some a0), iV p1] h0 (QI G K) := by
  refine go_metT l hfl _ 3 _ _ rfl (by decide +kernel) (Nat.le_of_ble_eq_true rfl) [(0, rV (some a0)), (1, iV p1)] rfl (fun X hX C hn => ?_)
  subst hX
  unfold w_X12_table at hw
  refine go_aload_n C dX12_table_0 0 rfl ?_
  refine go_iconst C 0 dX12_table_1 kc_i0 ?_
  refine go_putI C (cfX12) (k := 0) (Nat.le_of_ble_eq_true rfl) tw7_83 rfl (Or.inl rfl) rfl dX12_table_2 hw (fun h1 hw => ?_)
  refine go_aload_n C dX12_table_5 0 rfl ?_
  refine go_iload_n C dX12_table_6 1 rfl ?_
  refine go_iconst C 1 dX12_table_7 kc_i1 ?_
  refine go_iconst C 3 dX12_table_8 kc_i3 ?_
  refine go_pS_i C [iV p1, iV 1, iV 3] vX12_in tw8_20 (m_X12_in (xl X) C.2.2.2.2.2.2.2.1 N hw) ⟨Nat.le_of_ble_eq_true rfl, Nat.le_of_ble_eq_true rfl, Nat.le_of_ble_eq_true rfl, Nat.le_of_ble_eq_true rfl⟩ ⟨rfl, rfl⟩ dX12_table_9 rfl (Nat.le_of_ble_eq_true rfl) rfl (fun v2 hw => ?_)
  refine jn_elim (P := fun j => ∀ (v3 : Int32), j v3 → Go G X rmX12_table 3 0 0 (QN G X (QI G K) rmX12_table) h1 20 [(0, rV (some a0)), (1, iV p1)] [iV v3, rV (some a0)]) hw (fun v3 hw => ?_) (fun j20 hj20 hw => ?_)
  · refine go_iconst C 1 dX12_table_20 kc_i1 ?_
    refine go_c0V_i C [iV v3, iV 1] vX12_fails tw8_23 (ci := 12) rfl (m_X12_fails (xl X) C.2.2.2.2.2.2.2.1 N hw.2) ⟨Nat.le_of_ble_eq_true rfl, Nat.le_of_ble_eq_true rfl, Nat.le_of_ble_eq_true rfl, Nat.le_of_ble_eq_true rfl⟩ ⟨rfl, rfl⟩ hw.1 dX12_table_21 rfl (Nat.le_of_ble_eq_true rfl) rfl (fun v4 h5 hw => ?_)
    refine go_if_ne C 48 dX12_table_24 (by decide) hw (fun hw => ?_) (fun hw => ?_)
    · refine go_iconst C (-1) dX12_table_48 kc_im1 ?_
      exact go_iret C dX12_table_49 hw (Nat.le_of_ble_eq_true rfl) (Nat.le_of_ble_eq_true rfl)
    refine go_aload_n C dX12_table_27 0 rfl ?_
    refine go_aload_n C dX12_table_28 0 rfl ?_
    refine go_getI C (cfX12) (k := 1) (Nat.le_of_ble_eq_true rfl) tw7_84 rfl dX12_table_29 hw (fun v6 hw => ?_)
    refine go_iconst C 3 dX12_table_32 kc_i3 ?_
    refine jn_elim (P := fun j => ∀ (v7 : Int32), j v7 → Go G X rmX12_table 3 0 0 (QN G X (QI G K) rmX12_table) h5 41 [(0, rV (some a0)), (1, iV p1)] [iV v7, rV (some a0)]) hw (fun v7 hw => ?_) (fun j41 hj41 hw => ?_)
    · refine go_iconst C 2 dX12_table_41 kc_i2 ?_
      refine go_c0V_i C [iV v7, iV 2] vX12_fails tw8_23 (ci := 12) rfl (m_X12_fails (xl X) C.2.2.2.2.2.2.2.1 N hw.2) ⟨Nat.le_of_ble_eq_true rfl, Nat.le_of_ble_eq_true rfl, Nat.le_of_ble_eq_true rfl, Nat.le_of_ble_eq_true rfl⟩ ⟨rfl, rfl⟩ hw.1 dX12_table_42 rfl (Nat.le_of_ble_eq_true rfl) rfl (fun v8 h9 hw => ?_)
      refine go_if_eq C 50 dX12_table_45 (by decide) hw (fun hw => ?_) (fun hw => ?_)
      · refine go_aload_n C dX12_table_50 0 rfl ?_
        refine go_iconst C 0 dX12_table_51 kc_i0 ?_
        refine go_putZ C (cfX12) (k := 16) (Nat.le_of_ble_eq_true rfl) tw7_99 rfl (Or.inl rfl) rfl dX12_table_52 ⟨⟨rfl, rfl⟩, hw⟩ (fun h10 hw => ?_)
        refine go_aload_n C dX12_table_55 0 rfl ?_
        refine go_getA C (cfX12) (k := 2) (Nat.le_of_ble_eq_true rfl) tw7_85 rfl dX12_table_56 hw (fun a11 hw => ?_)
        refine go_aload_n C dX12_table_59 0 rfl ?_
        refine go_getI C (cfX12) (k := 1) (Nat.le_of_ble_eq_true rfl) tw7_84 rfl dX12_table_60 hw (fun v12 hw => ?_)
        refine go_iload_n C dX12_table_63 1 rfl ?_
        refine go_iastore C dX12_table_64 hw (fun h13 hw => ?_)
        refine go_iconst C 0 dX12_table_65 kc_i0 ?_
        refine go_istore_n C [(2, iV 0), (0, rV (some a0)), (1, iV p1)] dX12_table_66 (Nat.le_of_ble_eq_true rfl) rfl ?_
        refine go_sub [1, 0] rfl ?_
        refine fx2_elim (P := fun x15 h14 => Go G X rmX12_table 3 0 0 (QN G X (QI G K) rmX12_table) h14 67 [(0, rV (some a0)), (2, iV x15)] []) (fun w67 hj67 x15 h14 hw => ?_) N _ _ hw
        refine go_iload_n C dX12_table_67 1 rfl ?_
        refine go_iconst C 3 dX12_table_68 kc_i3 ?_
        refine go_icmp_ge C 93 dX12_table_69 (by decide) hw (fun hw => ?_) (fun hw => ?_)
        · refine go_aload_n C dX12_table_93 0 rfl ?_
          refine go_dup C _ dX12_table_94 rfl ?_
          refine go_getI C (cfX12) (k := 1) (Nat.le_of_ble_eq_true rfl) tw7_84 rfl dX12_table_95 hw (fun v16 hw => ?_)
          refine go_iconst C 1 dX12_table_98 kc_i1 ?_
          refine go_iadd C dX12_table_99 ?_
          refine go_putI C (cfX12) (k := 1) (Nat.le_of_ble_eq_true rfl) tw7_84 rfl (Or.inl rfl) rfl dX12_table_100 hw (fun h17 hw => ?_)
          refine go_aload_n C dX12_table_103 0 rfl ?_
          refine go_getI C (cfX12) (k := 1) (Nat.le_of_ble_eq_true rfl) tw7_84 rfl dX12_table_104 hw (fun v18 hw => ?_)
          refine go_iconst C 1 dX12_table_107 kc_i1 ?_
          refine go_isub C dX12_table_108 ?_
          exact go_iret C dX12_table_109 hw (Nat.le_of_ble_eq_true rfl) (Nat.le_of_ble_eq_true rfl)
        refine go_aload_n C dX12_table_72 0 rfl ?_
        refine go_getA C (cfX12) (k := 7) (Nat.le_of_ble_eq_true rfl) tw7_90 rfl dX12_table_73 hw (fun a19 hw => ?_)
        refine go_iconst C 3 dX12_table_76 kc_i3 ?_
        refine go_aload_n C dX12_table_77 0 rfl ?_
        refine go_getI C (cfX12) (k := 1) (Nat.le_of_ble_eq_true rfl) tw7_84 rfl dX12_table_78 hw (fun v20 hw => ?_)
        refine go_imul C dX12_table_81 ?_
        refine go_iload_n C dX12_table_82 1 rfl ?_
        refine go_iadd C dX12_table_83 ?_
        refine go_bipush C 99 dX12_table_84 kc_b99 ?_
        refine go_iastore C dX12_table_86 hw (fun h21 hw => ?_)
        refine go_iinc C (x15 + 1) [(2, iV (x15 + 1)), (0, rV (some a0))] dX12_table_87 1 rfl (by rw [kc_i1]) (Nat.le_of_ble_eq_true rfl) rfl ?_
        refine go_goto C 67 dX12_table_90 (by decide) ?_
        refine go_sub [1, 0] rfl ?_
        exact hj67 (x15 + 1) h21 hw
      refine go_iconst C (-1) dX12_table_48 kc_im1 ?_
      exact go_iret C dX12_table_49 hw (Nat.le_of_ble_eq_true rfl) (Nat.le_of_ble_eq_true rfl)
    refine go_icmp_ne C 40 dX12_table_33 (by decide) hw (fun hw => ?_) (fun hw => ?_)
    · refine go_iconst C 0 dX12_table_40 kc_i0 ?_
      exact hj41 0 hw
    refine go_iconst C 1 dX12_table_36 kc_i1 ?_
    refine go_goto C 41 dX12_table_37 (by decide) ?_
    exact hj41 1 hw
  refine go_if_ne C 19 dX12_table_12 (by decide) hw (fun hw => ?_) (fun hw => ?_)
  · refine go_iconst C 0 dX12_table_19 kc_i0 ?_
    exact hj20 0 hw
  refine go_iconst C 1 dX12_table_15 kc_i1 ?_
  refine go_goto C 20 dX12_table_16 (by decide) ?_
  exact hj20 1 hw
/-- DuelSchemaModel.bound(IIII)I -/
def w_X12_bound (N : Nat) (a0 : Nat) (p1 : Int32) (p2 : Int32) (p3 : Int32) (p4 : Int32) (h0 : Hp) (K : Int32 → Hp → Prop) : Prop :=
  pF h0 a0 12 0 (iV 0) fun h1 =>
  cv h1 a0 12 <| w_X12_isTable N a0 p1 h1 fun v2 =>
  jn (fun (v3 : Int32) => 
    cv h1 a0 12 <| w_X12_fails N a0 v3 1 h1 fun v4 h5 =>
    br (v4 = 0) (
      cv h5 a0 12 <| w_X12_isColumn N a0 p1 p2 h5 fun v6 =>
      jn (fun (v7 : Int32) => 
        cv h5 a0 12 <| w_X12_fails N a0 v7 2 h5 fun v8 h9 =>
        br (v8 = 0) (
          pF h9 a0 12 16 (iV 0) fun h10 =>
          gA h10 a0 12 6 fun a11 =>
          sI h10 a11 0 ((3 * p1) + p2) p3 fun h12 =>
          gA h12 a0 12 7 fun a13 =>
          sI h12 a13 0 ((3 * p1) + p2) p4 fun h14 =>
          fx2 (fun (w105 : Int32 → Int32 → Prop) (x15 : Int32) (x16 : Int32) =>
            gA h14 a0 12 3 fun a17 =>
            aI h14 a17 0 p1 fun v18 =>
            br (v18 ≤ x16) (
              K x15 h14) (
              cv h14 a0 12 <| w_X12_hasRow N a0 p1 x16 h14 fun v19 =>
              jn (fun (v20 : Int32) => 
                w105 (x15 + v20) (x16 + 1)) (fun j150 =>
              jn (
                j150 0) (fun j149 =>
              br (v19 = 0) (
                j149 ) (
                cv h14 a0 12 <| w_X12_at N a0 p1 x16 p2 h14 fun v21 =>
                w_X12_in N v21 p3 p4 h14 fun v22 =>
                br (v22 = 0) (
                  j150 1) (
                  j149 )))))) N 0 0) (
          K (-1) h9)) (fun j62 =>
      jn (
        j62 1) (fun j57 =>
      br (v6 = 0) (
        j57 ) (
        w_X12_in N p3 0 99 h5 fun v23 =>
        br (v23 = 0) (
          j57 ) (
          w_X12_in N p4 p3 99 h5 fun v24 =>
          br (v24 = 0) (
            j57 ) (
            j62 0)))))) (
      K (-1) h5)) (fun j19 =>
  br (v2 = 0) (
    j19 1) (
    j19 0))
abbrev rmX12_bound : Room := { frames := 5, cells := 0, slots := 0, locals := 125 }
theorem vX12_bound : VI RX12 yX12_bound cX12_bound 7 (some .int) 4 := ⟨tw8_28, tw8_29, tw1_8, tw8_30, by decide +kernel⟩
set_option maxHeartbeats 4000000 in
theorem m_X12_bound {G : Gp} (l : Launch) (hfl : l.stackTraces = false) (N : Nat) {a0 : Nat} {p1 : Int32} {p2 : Int32} {p3 : Int32} {p4 : Int32} {h0 : Hp} {K : Int32 → Hp → Prop} (hw : w_X12_bound N a0 p1 p2 p3 p4 h0 K) : MT G l yX12_bound cX12_bound 7 (some .int) rmX12_bound [rV (some a0), iV p1, iV p2, iV p3, iV p4] h0 (QI G K) := by
  refine go_metT l hfl _ 7 _ _ rfl (by decide +kernel) (Nat.le_of_ble_eq_true rfl) [(0, rV (some a0)), (1, iV p1), (2, iV p2), (3, iV p3), (4, iV p4)] rfl (fun X hX C hn => ?_)
  subst hX
  unfold w_X12_bound at hw
  refine go_aload_n C dX12_bound_0 0 rfl ?_
  refine go_iconst C 0 dX12_bound_1 kc_i0 ?_
  refine go_putI C (cfX12) (k := 0) (Nat.le_of_ble_eq_true rfl) tw7_83 rfl (Or.inl rfl) rfl dX12_bound_2 hw (fun h1 hw => ?_)
  refine go_aload_n C dX12_bound_5 0 rfl ?_
  refine go_aload_n C dX12_bound_6 0 rfl ?_
  refine go_iload_n C dX12_bound_7 1 rfl ?_
  refine go_pV_i C [iV p1] vX12_isTable tw8_31 (ci := 12) rfl (m_X12_isTable (xl X) C.2.2.2.2.2.2.2.1 N hw.2) ⟨Nat.le_of_ble_eq_true rfl, Nat.le_of_ble_eq_true rfl, Nat.le_of_ble_eq_true rfl, Nat.le_of_ble_eq_true rfl⟩ ⟨rfl, rfl⟩ hw.1 dX12_bound_8 rfl (Nat.le_of_ble_eq_true rfl) rfl (fun v2 hw => ?_)
  refine jn_elim (P := fun j => ∀ (v3 : Int32), j v3 → Go G X rmX12_bound 7 0 0 (QN G X (QI G K) rmX12_bound) h1 19 [(0, rV (some a0)), (1, iV p1), (2, iV p2), (3, iV p3), (4, iV p4)] [iV v3, rV (some a0)]) hw (fun v3 hw => ?_) (fun j19 hj19 hw => ?_)
  · refine go_iconst C 1 dX12_bound_19 kc_i1 ?_
    refine go_c0V_i C [iV v3, iV 1] vX12_fails tw8_23 (ci := 12) rfl (m_X12_fails (xl X) C.2.2.2.2.2.2.2.1 N hw.2) ⟨Nat.le_of_ble_eq_true rfl, Nat.le_of_ble_eq_true rfl, Nat.le_of_ble_eq_true rfl, Nat.le_of_ble_eq_true rfl⟩ ⟨rfl, rfl⟩ hw.1 dX12_bound_20 rfl (Nat.le_of_ble_eq_true rfl) rfl (fun v4 h5 hw => ?_)
    refine go_if_ne C 69 dX12_bound_23 (by decide) hw (fun hw => ?_) (fun hw => ?_)
    · refine go_iconst C (-1) dX12_bound_69 kc_im1 ?_
      exact go_iret C dX12_bound_70 hw (Nat.le_of_ble_eq_true rfl) (Nat.le_of_ble_eq_true rfl)
    refine go_aload_n C dX12_bound_26 0 rfl ?_
    refine go_aload_n C dX12_bound_27 0 rfl ?_
    refine go_iload_n C dX12_bound_28 1 rfl ?_
    refine go_iload_n C dX12_bound_29 2 rfl ?_
    refine go_pV_i C [iV p1, iV p2] vX12_isColumn tw8_35 (ci := 12) rfl (m_X12_isColumn (xl X) C.2.2.2.2.2.2.2.1 N hw.2) ⟨Nat.le_of_ble_eq_true rfl, Nat.le_of_ble_eq_true rfl, Nat.le_of_ble_eq_true rfl, Nat.le_of_ble_eq_true rfl⟩ ⟨rfl, rfl⟩ hw.1 dX12_bound_30 rfl (Nat.le_of_ble_eq_true rfl) rfl (fun v6 hw => ?_)
    refine jn_elim (P := fun j => ∀ (v7 : Int32), j v7 → Go G X rmX12_bound 7 0 0 (QN G X (QI G K) rmX12_bound) h5 62 [(0, rV (some a0)), (1, iV p1), (2, iV p2), (3, iV p3), (4, iV p4)] [iV v7, rV (some a0)]) hw (fun v7 hw => ?_) (fun j62 hj62 hw => ?_)
    · refine go_iconst C 2 dX12_bound_62 kc_i2 ?_
      refine go_c0V_i C [iV v7, iV 2] vX12_fails tw8_23 (ci := 12) rfl (m_X12_fails (xl X) C.2.2.2.2.2.2.2.1 N hw.2) ⟨Nat.le_of_ble_eq_true rfl, Nat.le_of_ble_eq_true rfl, Nat.le_of_ble_eq_true rfl, Nat.le_of_ble_eq_true rfl⟩ ⟨rfl, rfl⟩ hw.1 dX12_bound_63 rfl (Nat.le_of_ble_eq_true rfl) rfl (fun v8 h9 hw => ?_)
      refine go_if_eq C 71 dX12_bound_66 (by decide) hw (fun hw => ?_) (fun hw => ?_)
      · refine go_aload_n C dX12_bound_71 0 rfl ?_
        refine go_iconst C 0 dX12_bound_72 kc_i0 ?_
        refine go_putZ C (cfX12) (k := 16) (Nat.le_of_ble_eq_true rfl) tw7_99 rfl (Or.inl rfl) rfl dX12_bound_73 ⟨⟨rfl, rfl⟩, hw⟩ (fun h10 hw => ?_)
        refine go_aload_n C dX12_bound_76 0 rfl ?_
        refine go_getA C (cfX12) (k := 6) (Nat.le_of_ble_eq_true rfl) tw7_89 rfl dX12_bound_77 hw (fun a11 hw => ?_)
        refine go_iconst C 3 dX12_bound_80 kc_i3 ?_
        refine go_iload_n C dX12_bound_81 1 rfl ?_
        refine go_imul C dX12_bound_82 ?_
        refine go_iload_n C dX12_bound_83 2 rfl ?_
        refine go_iadd C dX12_bound_84 ?_
        refine go_iload_n C dX12_bound_85 3 rfl ?_
        refine go_iastore C dX12_bound_86 hw (fun h12 hw => ?_)
        refine go_aload_n C dX12_bound_87 0 rfl ?_
        refine go_getA C (cfX12) (k := 7) (Nat.le_of_ble_eq_true rfl) tw7_90 rfl dX12_bound_88 hw (fun a13 hw => ?_)
        refine go_iconst C 3 dX12_bound_91 kc_i3 ?_
        refine go_iload_n C dX12_bound_92 1 rfl ?_
        refine go_imul C dX12_bound_93 ?_
        refine go_iload_n C dX12_bound_94 2 rfl ?_
        refine go_iadd C dX12_bound_95 ?_
        refine go_iload C dX12_bound_96 4 rfl ?_
        refine go_iastore C dX12_bound_98 hw (fun h14 hw => ?_)
        refine go_iconst C 0 dX12_bound_99 kc_i0 ?_
        refine go_istore C [(5, iV 0), (0, rV (some a0)), (1, iV p1), (2, iV p2), (3, iV p3), (4, iV p4)] dX12_bound_100 (Nat.le_of_ble_eq_true rfl) rfl ?_
        refine go_iconst C 0 dX12_bound_102 kc_i0 ?_
        refine go_istore C [(6, iV 0), (5, iV 0), (0, rV (some a0)), (1, iV p1), (2, iV p2), (3, iV p3), (4, iV p4)] dX12_bound_103 (Nat.le_of_ble_eq_true rfl) rfl ?_
        refine go_sub [2, 3, 4, 5, 6, 1, 0] rfl ?_
        refine fx2_elim (P := fun x15 x16 => Go G X rmX12_bound 7 0 0 (QN G X (QI G K) rmX12_bound) h14 105 [(0, rV (some a0)), (1, iV p1), (2, iV p2), (3, iV p3), (4, iV p4), (5, iV x15), (6, iV x16)] []) (fun w105 hj105 x15 x16 hw => ?_) N _ _ hw
        refine go_iload C dX12_bound_105 6 rfl ?_
        refine go_aload_n C dX12_bound_107 0 rfl ?_
        refine go_getA C (cfX12) (k := 3) (Nat.le_of_ble_eq_true rfl) tw7_86 rfl dX12_bound_108 hw (fun a17 hw => ?_)
        refine go_iload_n C dX12_bound_111 1 rfl ?_
        refine go_iaload C dX12_bound_112 hw (fun v18 hw => ?_)
        refine go_icmp_ge C 159 dX12_bound_113 (by decide) hw (fun hw => ?_) (fun hw => ?_)
        · refine go_iload C dX12_bound_159 5 rfl ?_
          exact go_iret C dX12_bound_161 hw (Nat.le_of_ble_eq_true rfl) (Nat.le_of_ble_eq_true rfl)
        refine go_iload C dX12_bound_116 5 rfl ?_
        refine go_aload_n C dX12_bound_118 0 rfl ?_
        refine go_iload_n C dX12_bound_119 1 rfl ?_
        refine go_iload C dX12_bound_120 6 rfl ?_
        refine go_pV_i C [iV p1, iV x16] vX12_hasRow tw8_39 (ci := 12) rfl (m_X12_hasRow (xl X) C.2.2.2.2.2.2.2.1 N hw.2) ⟨Nat.le_of_ble_eq_true rfl, Nat.le_of_ble_eq_true rfl, Nat.le_of_ble_eq_true rfl, Nat.le_of_ble_eq_true rfl⟩ ⟨rfl, rfl⟩ hw.1 dX12_bound_122 rfl (Nat.le_of_ble_eq_true rfl) rfl (fun v19 hw => ?_)
        refine jn_elim (P := fun j => ∀ (v20 : Int32), j v20 → Go G X rmX12_bound 7 0 0 (QN G X (QI G K) rmX12_bound) h14 150 [(0, rV (some a0)), (1, iV p1), (2, iV p2), (3, iV p3), (4, iV p4), (6, iV x16)] [iV v20, iV x15]) hw (fun v20 hw => ?_) (fun j150 hj150 hw => ?_)
        · refine go_iadd C dX12_bound_150 ?_
          refine go_istore C [(5, iV (x15 + v20)), (0, rV (some a0)), (1, iV p1), (2, iV p2), (3, iV p3), (4, iV p4), (6, iV x16)] dX12_bound_151 (Nat.le_of_ble_eq_true rfl) rfl ?_
          refine go_iinc C (x16 + 1) [(6, iV (x16 + 1)), (5, iV (x15 + v20)), (0, rV (some a0)), (1, iV p1), (2, iV p2), (3, iV p3), (4, iV p4)] dX12_bound_153 6 rfl (by rw [kc_i1]) (Nat.le_of_ble_eq_true rfl) rfl ?_
          refine go_goto C 105 dX12_bound_156 (by decide) ?_
          refine go_sub [2, 3, 4, 5, 6, 1, 0] rfl ?_
          exact hj105 (x15 + v20) (x16 + 1) hw
        refine jn_elim (P := fun j => j  → Go G X rmX12_bound 7 0 0 (QN G X (QI G K) rmX12_bound) h14 149 [(0, rV (some a0)), (1, iV p1), (2, iV p2), (3, iV p3), (4, iV p4), (6, iV x16)] [iV x15]) hw (fun  hw => ?_) (fun j149 hj149 hw => ?_)
        · refine go_iconst C 0 dX12_bound_149 kc_i0 ?_
          exact hj150 0 hw
        refine go_if_eq C 149 dX12_bound_125 (by decide) hw (fun hw => ?_) (fun hw => ?_)
        · refine go_sub [0, 1, 2, 3, 4, 6] rfl ?_
          exact hj149  hw
        refine go_aload_n C dX12_bound_128 0 rfl ?_
        refine go_iload_n C dX12_bound_129 1 rfl ?_
        refine go_iload C dX12_bound_130 6 rfl ?_
        refine go_iload_n C dX12_bound_132 2 rfl ?_
        refine go_pV_i C [iV p1, iV x16, iV p2] vX12_at tw8_43 (ci := 12) rfl (m_X12_at (xl X) C.2.2.2.2.2.2.2.1 N hw.2) ⟨Nat.le_of_ble_eq_true rfl, Nat.le_of_ble_eq_true rfl, Nat.le_of_ble_eq_true rfl, Nat.le_of_ble_eq_true rfl⟩ ⟨rfl, rfl⟩ hw.1 dX12_bound_133 rfl (Nat.le_of_ble_eq_true rfl) rfl (fun v21 hw => ?_)
        refine go_iload_n C dX12_bound_136 3 rfl ?_
        refine go_iload C dX12_bound_137 4 rfl ?_
        refine go_pS_i C [iV v21, iV p3, iV p4] vX12_in tw8_20 (m_X12_in (xl X) C.2.2.2.2.2.2.2.1 N hw) ⟨Nat.le_of_ble_eq_true rfl, Nat.le_of_ble_eq_true rfl, Nat.le_of_ble_eq_true rfl, Nat.le_of_ble_eq_true rfl⟩ ⟨rfl, rfl⟩ dX12_bound_139 rfl (Nat.le_of_ble_eq_true rfl) rfl (fun v22 hw => ?_)
        refine go_if_ne C 149 dX12_bound_142 (by decide) hw (fun hw => ?_) (fun hw => ?_)
        · refine go_sub [0, 1, 2, 3, 4, 6] rfl ?_
          exact hj149  hw
        refine go_iconst C 1 dX12_bound_145 kc_i1 ?_
        refine go_goto C 150 dX12_bound_146 (by decide) ?_
        refine go_sub [0, 1, 2, 3, 4, 6] rfl ?_
        exact hj150 1 hw
      refine go_iconst C (-1) dX12_bound_69 kc_im1 ?_
      exact go_iret C dX12_bound_70 hw (Nat.le_of_ble_eq_true rfl) (Nat.le_of_ble_eq_true rfl)
    refine jn_elim (P := fun j => j  → Go G X rmX12_bound 7 0 0 (QN G X (QI G K) rmX12_bound) h5 57 [(0, rV (some a0)), (1, iV p1), (2, iV p2), (3, iV p3), (4, iV p4)] [rV (some a0)]) hw (fun  hw => ?_) (fun j57 hj57 hw => ?_)
    · refine go_iconst C 1 dX12_bound_57 kc_i1 ?_
      refine go_goto C 62 dX12_bound_58 (by decide) ?_
      exact hj62 1 hw
    refine go_if_eq C 57 dX12_bound_33 (by decide) hw (fun hw => ?_) (fun hw => ?_)
    · exact hj57  hw
    refine go_iload_n C dX12_bound_36 3 rfl ?_
    refine go_iconst C 0 dX12_bound_37 kc_i0 ?_
    refine go_bipush C 99 dX12_bound_38 kc_b99 ?_
    refine go_pS_i C [iV p3, iV 0, iV 99] vX12_in tw8_20 (m_X12_in (xl X) C.2.2.2.2.2.2.2.1 N hw) ⟨Nat.le_of_ble_eq_true rfl, Nat.le_of_ble_eq_true rfl, Nat.le_of_ble_eq_true rfl, Nat.le_of_ble_eq_true rfl⟩ ⟨rfl, rfl⟩ dX12_bound_40 rfl (Nat.le_of_ble_eq_true rfl) rfl (fun v23 hw => ?_)
    refine go_if_eq C 57 dX12_bound_43 (by decide) hw (fun hw => ?_) (fun hw => ?_)
    · exact hj57  hw
    refine go_iload C dX12_bound_46 4 rfl ?_
    refine go_iload_n C dX12_bound_48 3 rfl ?_
    refine go_bipush C 99 dX12_bound_49 kc_b99 ?_
    refine go_pS_i C [iV p4, iV p3, iV 99] vX12_in tw8_20 (m_X12_in (xl X) C.2.2.2.2.2.2.2.1 N hw) ⟨Nat.le_of_ble_eq_true rfl, Nat.le_of_ble_eq_true rfl, Nat.le_of_ble_eq_true rfl, Nat.le_of_ble_eq_true rfl⟩ ⟨rfl, rfl⟩ dX12_bound_51 rfl (Nat.le_of_ble_eq_true rfl) rfl (fun v24 hw => ?_)
    refine go_if_ne C 61 dX12_bound_54 (by decide) hw (fun hw => ?_) (fun hw => ?_)
    · refine go_iconst C 0 dX12_bound_61 kc_i0 ?_
      exact hj62 0 hw
    exact hj57  hw
  refine go_if_ne C 18 dX12_bound_11 (by decide) hw (fun hw => ?_) (fun hw => ?_)
  · refine go_iconst C 0 dX12_bound_18 kc_i0 ?_
    exact hj19 0 hw
  refine go_iconst C 1 dX12_bound_14 kc_i1 ?_
  refine go_goto C 19 dX12_bound_15 (by decide) ?_
  exact hj19 1 hw
/-- DuelSchemaModel.isWithin(III)Z -/
def w_X12_isWithin (N : Nat) (a0 : Nat) (p1 : Int32) (p2 : Int32) (p3 : Int32) (h0 : Hp) (K : Int32 → Prop) : Prop :=
  gA h0 a0 12 2 fun a1 =>
  aI h0 a1 0 p1 fun v2 =>
  br (v2 ≤ p2) (
    K 1) (
    gA h0 a0 12 6 fun a3 =>
    aI h0 a3 0 ((3 * p1) + p2) fun v4 =>
    gA h0 a0 12 7 fun a5 =>
    aI h0 a5 0 ((3 * p1) + p2) fun v6 =>
    w_X12_in N p3 v4 v6 h0 fun v7 =>
    br (v7 = 0) (
      K 0) (
      K 1))
abbrev rmX12_isWithin : Room := { frames := 3, cells := 0, slots := 0, locals := 82 }
theorem vX12_isWithin : VI RX12 yX12_isWithin cX12_isWithin 4 (some .boolean) 3 := ⟨tw8_53, tp48, tw1_8, tw8_54, by decide +kernel⟩
set_option maxHeartbeats 4000000 in
theorem m_X12_isWithin {G : Gp} (l : Launch) (hfl : l.stackTraces = false) (N : Nat) {a0 : Nat} {p1 : Int32} {p2 : Int32} {p3 : Int32} {h0 : Hp} {K : Int32 → Prop} (hw : w_X12_isWithin N a0 p1 p2 p3 h0 K) : MT G l yX12_isWithin cX12_isWithin 4 (some .boolean) rmX12_isWithin [rV (some a0), iV p1, iV p2, iV p3] h0 (QI G (fun r h1 => h1 = h0 ∧ K r)) := by
  refine go_metT l hfl _ 4 _ _ rfl (by decide +kernel) (Nat.le_of_ble_eq_true rfl) [(0, rV (some a0)), (1, iV p1), (2, iV p2), (3, iV p3)] rfl (fun X hX C hn => ?_)
  subst hX
  unfold w_X12_isWithin at hw
  refine go_iload_n C dX12_isWithin_0 2 rfl ?_
  refine go_aload_n C dX12_isWithin_1 0 rfl ?_
  refine go_getA C (cfX12) (k := 2) (Nat.le_of_ble_eq_true rfl) tw7_85 rfl dX12_isWithin_2 hw (fun a1 hw => ?_)
  refine go_iload_n C dX12_isWithin_5 1 rfl ?_
  refine go_iaload C dX12_isWithin_6 hw (fun v2 hw => ?_)
  refine go_icmp_ge C 37 dX12_isWithin_7 (by decide) hw (fun hw => ?_) (fun hw => ?_)
  · refine go_iconst C 1 dX12_isWithin_37 kc_i1 ?_
    refine go_goto C 42 dX12_isWithin_38 (by decide) ?_
    exact go_zret C dX12_isWithin_42 ⟨rfl, ⟨rfl, hw⟩⟩ (Nat.le_of_ble_eq_true rfl) (Nat.le_of_ble_eq_true rfl)
  refine go_iload_n C dX12_isWithin_10 3 rfl ?_
  refine go_aload_n C dX12_isWithin_11 0 rfl ?_
  refine go_getA C (cfX12) (k := 6) (Nat.le_of_ble_eq_true rfl) tw7_89 rfl dX12_isWithin_12 hw (fun a3 hw => ?_)
  refine go_iconst C 3 dX12_isWithin_15 kc_i3 ?_
  refine go_iload_n C dX12_isWithin_16 1 rfl ?_
  refine go_imul C dX12_isWithin_17 ?_
  refine go_iload_n C dX12_isWithin_18 2 rfl ?_
  refine go_iadd C dX12_isWithin_19 ?_
  refine go_iaload C dX12_isWithin_20 hw (fun v4 hw => ?_)
  refine go_aload_n C dX12_isWithin_21 0 rfl ?_
  refine go_getA C (cfX12) (k := 7) (Nat.le_of_ble_eq_true rfl) tw7_90 rfl dX12_isWithin_22 hw (fun a5 hw => ?_)
  refine go_iconst C 3 dX12_isWithin_25 kc_i3 ?_
  refine go_iload_n C dX12_isWithin_26 1 rfl ?_
  refine go_imul C dX12_isWithin_27 ?_
  refine go_iload_n C dX12_isWithin_28 2 rfl ?_
  refine go_iadd C dX12_isWithin_29 ?_
  refine go_iaload C dX12_isWithin_30 hw (fun v6 hw => ?_)
  refine go_pS_i C [iV p3, iV v4, iV v6] vX12_in tw8_20 (m_X12_in (xl X) C.2.2.2.2.2.2.2.1 N hw) ⟨Nat.le_of_ble_eq_true rfl, Nat.le_of_ble_eq_true rfl, Nat.le_of_ble_eq_true rfl, Nat.le_of_ble_eq_true rfl⟩ ⟨rfl, rfl⟩ dX12_isWithin_31 rfl (Nat.le_of_ble_eq_true rfl) rfl (fun v7 hw => ?_)
  refine go_if_eq C 41 dX12_isWithin_34 (by decide) hw (fun hw => ?_) (fun hw => ?_)
  · refine go_iconst C 0 dX12_isWithin_41 kc_i0 ?_
    exact go_zret C dX12_isWithin_42 ⟨rfl, ⟨rfl, hw⟩⟩ (Nat.le_of_ble_eq_true rfl) (Nat.le_of_ble_eq_true rfl)
  refine go_iconst C 1 dX12_isWithin_37 kc_i1 ?_
  refine go_goto C 42 dX12_isWithin_38 (by decide) ?_
  exact go_zret C dX12_isWithin_42 ⟨rfl, ⟨rfl, hw⟩⟩ (Nat.le_of_ble_eq_true rfl) (Nat.le_of_ble_eq_true rfl)
/-- DuelSchemaModel.takesOut(II)V -/
def w_X12_takesOut (N : Nat) (a0 : Nat) (p1 : Int32) (p2 : Int32) (h0 : Hp) (K : Hp → Prop) : Prop :=
  fx2 (fun (w2 : Int32 → Hp → Prop) (x2 : Int32) (h1 : Hp) =>
    gA h1 a0 12 21 fun a3 =>
    aI h1 a3 0 p1 fun v4 =>
    br ((v4 - 1) ≤ x2) (
      gA h1 a0 12 21 fun a5 =>
      aI h1 a5 0 p1 fun v6 =>
      sI h1 a5 0 p1 (v6 - 1) fun h7 =>
      K h7) (
      gA h1 a0 12 20 fun a8 =>
      gA h1 a0 12 20 fun a9 =>
      aI h1 a9 0 (((13 * p1) + x2) + 1) fun v10 =>
      sI h1 a8 0 ((13 * p1) + x2) v10 fun h11 =>
      w2 (x2 + 1) h11)) N p2 h0
abbrev rmX12_takesOut : Room := { frames := 2, cells := 0, slots := 0, locals := 60 }
theorem vX12_takesOut : VI RX12 yX12_takesOut cX12_takesOut 4 none 2 := ⟨tw8_61, tp50, tw1_8, tw8_62, by decide +kernel⟩
set_option maxHeartbeats 4000000 in
theorem m_X12_takesOut {G : Gp} (l : Launch) (hfl : l.stackTraces = false) (N : Nat) {a0 : Nat} {p1 : Int32} {p2 : Int32} {h0 : Hp} {K : Hp → Prop} (hw : w_X12_takesOut N a0 p1 p2 h0 K) : MT G l yX12_takesOut cX12_takesOut 4 none rmX12_takesOut [rV (some a0), iV p1, iV p2] h0 (QV G K) := by
  refine go_metT l hfl _ 4 _ _ rfl (by decide +kernel) (Nat.le_of_ble_eq_true rfl) [(0, rV (some a0)), (1, iV p1), (2, iV p2)] rfl (fun X hX C hn => ?_)
  subst hX
  unfold w_X12_takesOut at hw
  refine go_iload_n C dX12_takesOut_0 2 rfl ?_
  refine go_istore_n C [(3, iV p2), (0, rV (some a0)), (1, iV p1), (2, iV p2)] dX12_takesOut_1 (Nat.le_of_ble_eq_true rfl) rfl ?_
  refine go_sub [1, 2, 0] rfl ?_
  refine fx2_elim (P := fun x2 h1 => Go G X rmX12_takesOut 4 0 0 (QN G X (QV G K) rmX12_takesOut) h1 2 [(0, rV (some a0)), (1, iV p1), (3, iV x2)] []) (fun w2 hj2 x2 h1 hw => ?_) N _ _ hw
  refine go_iload_n C dX12_takesOut_2 2 rfl ?_
  refine go_aload_n C dX12_takesOut_3 0 rfl ?_
  refine go_getA C (cfX12) (k := 21) (Nat.le_of_ble_eq_true rfl) tw7_104 rfl dX12_takesOut_4 hw (fun a3 hw => ?_)
  refine go_iload_n C dX12_takesOut_7 1 rfl ?_
  refine go_iaload C dX12_takesOut_8 hw (fun v4 hw => ?_)
  refine go_iconst C 1 dX12_takesOut_9 kc_i1 ?_
  refine go_isub C dX12_takesOut_10 ?_
  refine go_icmp_ge C 44 dX12_takesOut_11 (by decide) hw (fun hw => ?_) (fun hw => ?_)
  · refine go_aload_n C dX12_takesOut_44 0 rfl ?_
    refine go_getA C (cfX12) (k := 21) (Nat.le_of_ble_eq_true rfl) tw7_104 rfl dX12_takesOut_45 hw (fun a5 hw => ?_)
    refine go_iload_n C dX12_takesOut_48 1 rfl ?_
    refine go_dup2 C _ _ dX12_takesOut_49 rfl rfl ?_
    refine go_iaload C dX12_takesOut_50 hw (fun v6 hw => ?_)
    refine go_iconst C 1 dX12_takesOut_51 kc_i1 ?_
    refine go_isub C dX12_takesOut_52 ?_
    refine go_iastore C dX12_takesOut_53 hw (fun h7 hw => ?_)
    exact go_vret C dX12_takesOut_54 hw (Nat.le_of_ble_eq_true rfl) (Nat.le_of_ble_eq_true rfl)
  refine go_aload_n C dX12_takesOut_14 0 rfl ?_
  refine go_getA C (cfX12) (k := 20) (Nat.le_of_ble_eq_true rfl) tw7_103 rfl dX12_takesOut_15 hw (fun a8 hw => ?_)
  refine go_bipush C 13 dX12_takesOut_18 kc_b13 ?_
  refine go_iload_n C dX12_takesOut_20 1 rfl ?_
  refine go_imul C dX12_takesOut_21 ?_
  refine go_iload_n C dX12_takesOut_22 2 rfl ?_
  refine go_iadd C dX12_takesOut_23 ?_
  refine go_aload_n C dX12_takesOut_24 0 rfl ?_
  refine go_getA C (cfX12) (k := 20) (Nat.le_of_ble_eq_true rfl) tw7_103 rfl dX12_takesOut_25 hw (fun a9 hw => ?_)
  refine go_bipush C 13 dX12_takesOut_28 kc_b13 ?_
  refine go_iload_n C dX12_takesOut_30 1 rfl ?_
  refine go_imul C dX12_takesOut_31 ?_
  refine go_iload_n C dX12_takesOut_32 2 rfl ?_
  refine go_iadd C dX12_takesOut_33 ?_
  refine go_iconst C 1 dX12_takesOut_34 kc_i1 ?_
  refine go_iadd C dX12_takesOut_35 ?_
  refine go_iaload C dX12_takesOut_36 hw (fun v10 hw => ?_)
  refine go_iastore C dX12_takesOut_37 hw (fun h11 hw => ?_)
  refine go_iinc C (x2 + 1) [(3, iV (x2 + 1)), (0, rV (some a0)), (1, iV p1)] dX12_takesOut_38 2 rfl (by rw [kc_i1]) (Nat.le_of_ble_eq_true rfl) rfl ?_
  refine go_goto C 2 dX12_takesOut_41 (by decide) ?_
  refine go_sub [1, 2, 0] rfl ?_
  exact hj2 (x2 + 1) h11 hw
/-- DuelSchemaModel.forgets(II)V -/
def w_X12_forgets (N : Nat) (a0 : Nat) (p1 : Int32) (p2 : Int32) (h0 : Hp) (K : Hp → Prop) : Prop :=
  gA h0 a0 12 21 fun a1 =>
  aI h0 a1 0 0 fun v2 =>
  fx2 (fun (w9 : Int32 → Hp → Prop) (x4 : Int32) (h3 : Hp) =>
    br (x4 < 0) (
      K h3) (
      gA h3 a0 12 20 fun a5 =>
      aI h3 a5 0 x4 fun v6 =>
      jn (fun (v7 : Int32) => 
        jn (fun (h8 : Hp) => 
          w9 (x4 + (-1)) h8) (fun j79 =>
        jn (
          cv h3 a0 12 <| w_X12_takesOut N a0 0 x4 h3 fun h9 =>
          j79 h9) (fun j73 =>
        br (v7 = 0) (
          br (v6 = ((100 * p1) + (p2 / 4))) (
            j73 ) (
            j79 h3)) (
          gA h3 a0 12 14 fun a10 =>
          aI h3 a10 0 ((v6 / 100) - 3) fun v11 =>
          br (v11 = p1) (
            j73 ) (
            j79 h3))))) (fun j34 =>
      br (v6 < 300) (
        j34 0) (
        j34 1)))) N (v2 - 1) h0
abbrev rmX12_forgets : Room := { frames := 3, cells := 0, slots := 0, locals := 83 }
theorem vX12_forgets : VI RX12 yX12_forgets cX12_forgets 6 none 2 := ⟨tw8_57, tp49, tw1_8, tw8_58, by decide +kernel⟩
set_option maxHeartbeats 4000000 in
theorem m_X12_forgets {G : Gp} (l : Launch) (hfl : l.stackTraces = false) (N : Nat) {a0 : Nat} {p1 : Int32} {p2 : Int32} {h0 : Hp} {K : Hp → Prop} (hw : w_X12_forgets N a0 p1 p2 h0 K) : MT G l yX12_forgets cX12_forgets 6 none rmX12_forgets [rV (some a0), iV p1, iV p2] h0 (QV G K) := by
  refine go_metT l hfl _ 6 _ _ rfl (by decide +kernel) (Nat.le_of_ble_eq_true rfl) [(0, rV (some a0)), (1, iV p1), (2, iV p2)] rfl (fun X hX C hn => ?_)
  subst hX
  unfold w_X12_forgets at hw
  refine go_aload_n C dX12_forgets_0 0 rfl ?_
  refine go_getA C (cfX12) (k := 21) (Nat.le_of_ble_eq_true rfl) tw7_104 rfl dX12_forgets_1 hw (fun a1 hw => ?_)
  refine go_iconst C 0 dX12_forgets_4 kc_i0 ?_
  refine go_iaload C dX12_forgets_5 hw (fun v2 hw => ?_)
  refine go_iconst C 1 dX12_forgets_6 kc_i1 ?_
  refine go_isub C dX12_forgets_7 ?_
  refine go_istore_n C [(3, iV (v2 - 1)), (0, rV (some a0)), (1, iV p1), (2, iV p2)] dX12_forgets_8 (Nat.le_of_ble_eq_true rfl) rfl ?_
  refine go_sub [1, 2, 3, 0] rfl ?_
  refine fx2_elim (P := fun x4 h3 => Go G X rmX12_forgets 6 0 0 (QN G X (QV G K) rmX12_forgets) h3 9 [(0, rV (some a0)), (1, iV p1), (2, iV p2), (3, iV x4)] []) (fun w9 hj9 x4 h3 hw => ?_) N _ _ hw
  refine go_iload_n C dX12_forgets_9 3 rfl ?_
  refine go_if_lt C 85 dX12_forgets_10 (by decide) hw (fun hw => ?_) (fun hw => ?_)
  · exact go_vret C dX12_forgets_85 hw (Nat.le_of_ble_eq_true rfl) (Nat.le_of_ble_eq_true rfl)
  refine go_aload_n C dX12_forgets_13 0 rfl ?_
  refine go_getA C (cfX12) (k := 20) (Nat.le_of_ble_eq_true rfl) tw7_103 rfl dX12_forgets_14 hw (fun a5 hw => ?_)
  refine go_iload_n C dX12_forgets_17 3 rfl ?_
  refine go_iaload C dX12_forgets_18 hw (fun v6 hw => ?_)
  refine go_istore C [(4, iV v6), (0, rV (some a0)), (1, iV p1), (2, iV p2), (3, iV x4)] dX12_forgets_19 (Nat.le_of_ble_eq_true rfl) rfl ?_
  refine go_iload C dX12_forgets_21 0 rfl ?_
  refine go_sipush C 300 dX12_forgets_23 kc_s300 ?_
  refine jn_elim (P := fun j => ∀ (v7 : Int32), j v7 → Go G X rmX12_forgets 6 0 0 (QN G X (QV G K) rmX12_forgets) h3 34 [(0, rV (some a0)), (1, iV p1), (2, iV p2), (3, iV x4), (4, iV v6)] [iV v7]) hw (fun v7 hw => ?_) (fun j34 hj34 hw => ?_)
  · refine go_istore C [(5, iV v7), (0, rV (some a0)), (1, iV p1), (2, iV p2), (3, iV x4), (4, iV v6)] dX12_forgets_34 (Nat.le_of_ble_eq_true rfl) rfl ?_
    refine go_iload C dX12_forgets_36 0 rfl ?_
    refine jn_elim (P := fun j => ∀ (h8 : Hp), j h8 → Go G X rmX12_forgets 6 0 0 (QN G X (QV G K) rmX12_forgets) h8 79 [(0, rV (some a0)), (1, iV p1), (2, iV p2), (3, iV x4)] []) hw (fun h8 hw => ?_) (fun j79 hj79 hw => ?_)
    · refine go_iinc C (x4 + (-1)) [(3, iV (x4 + (-1))), (0, rV (some a0)), (1, iV p1), (2, iV p2)] dX12_forgets_79 3 rfl (by rw [kc_im1]) (Nat.le_of_ble_eq_true rfl) rfl ?_
      refine go_goto C 9 dX12_forgets_82 (by decide) ?_
      refine go_sub [1, 2, 3, 0] rfl ?_
      exact hj9 (x4 + (-1)) h8 hw
    refine jn_elim (P := fun j => j  → Go G X rmX12_forgets 6 0 0 (QN G X (QV G K) rmX12_forgets) h3 73 [(0, rV (some a0)), (1, iV p1), (2, iV p2), (3, iV x4)] []) hw (fun  hw => ?_) (fun j73 hj73 hw => ?_)
    · refine go_aload_n C dX12_forgets_73 0 rfl ?_
      refine go_iconst C 0 dX12_forgets_74 kc_i0 ?_
      refine go_iload_n C dX12_forgets_75 3 rfl ?_
      refine go_c0V_v C [iV 0, iV x4] vX12_takesOut tw8_59 (ci := 12) rfl (m_X12_takesOut (xl X) C.2.2.2.2.2.2.2.1 N hw.2) ⟨Nat.le_of_ble_eq_true rfl, Nat.le_of_ble_eq_true rfl, Nat.le_of_ble_eq_true rfl, Nat.le_of_ble_eq_true rfl⟩ ⟨rfl, rfl⟩ hw.1 dX12_forgets_76 rfl (Nat.le_of_ble_eq_true rfl) rfl (fun h9 hw => ?_)
      exact hj79 h9 hw
    refine go_if_eq C 60 dX12_forgets_38 (by decide) hw (fun hw => ?_) (fun hw => ?_)
    · refine go_iload C dX12_forgets_60 5 rfl ?_
      refine go_bipush C 100 dX12_forgets_62 kc_b100 ?_
      refine go_iload_n C dX12_forgets_64 2 rfl ?_
      refine go_imul C dX12_forgets_65 ?_
      refine go_iload_n C dX12_forgets_66 3 rfl ?_
      refine go_iconst C 4 dX12_forgets_67 kc_i4 ?_
      refine go_idiv C dX12_forgets_68 ⟨by decide, hw⟩ (fun hw => ?_)
      refine go_iadd C dX12_forgets_69 ?_
      refine go_icmp_ne C 79 dX12_forgets_70 (by decide) hw (fun hw => ?_) (fun hw => ?_)
      · refine go_sub [1, 2, 3, 4] rfl ?_
        exact hj79 h3 hw
      refine go_sub [1, 2, 3, 4] rfl ?_
      exact hj73  hw
    refine go_aload_n C dX12_forgets_41 1 rfl ?_
    refine go_getA C (cfX12) (k := 14) (Nat.le_of_ble_eq_true rfl) tw7_97 rfl dX12_forgets_42 hw (fun a10 hw => ?_)
    refine go_iload C dX12_forgets_45 5 rfl ?_
    refine go_bipush C 100 dX12_forgets_47 kc_b100 ?_
    refine go_idiv C dX12_forgets_49 ⟨by decide, hw⟩ (fun hw => ?_)
    refine go_iconst C 3 dX12_forgets_50 kc_i3 ?_
    refine go_isub C dX12_forgets_51 ?_
    refine go_iaload C dX12_forgets_52 hw (fun v11 hw => ?_)
    refine go_iload_n C dX12_forgets_53 2 rfl ?_
    refine go_icmp_ne C 79 dX12_forgets_54 (by decide) hw (fun hw => ?_) (fun hw => ?_)
    · refine go_sub [1, 2, 3, 4] rfl ?_
      exact hj79 h3 hw
    refine go_goto C 73 dX12_forgets_57 (by decide) ?_
    refine go_sub [1, 2, 3, 4] rfl ?_
    exact hj73  hw
  refine go_icmp_lt C 33 dX12_forgets_26 (by decide) hw (fun hw => ?_) (fun hw => ?_)
  · refine go_iconst C 0 dX12_forgets_33 kc_i0 ?_
    refine go_sub [1, 2, 3, 4, 0] rfl ?_
    exact hj34 0 hw
  refine go_iconst C 1 dX12_forgets_29 kc_i1 ?_
  refine go_goto C 34 dX12_forgets_30 (by decide) ?_
  refine go_sub [1, 2, 3, 4, 0] rfl ?_
  exact hj34 1 hw
/-- DuelSchemaModel.insert(IIII)I -/
def w_X12_insert (N : Nat) (a0 : Nat) (p1 : Int32) (p2 : Int32) (p3 : Int32) (p4 : Int32) (h0 : Hp) (K : Int32 → Hp → Prop) : Prop :=
  pF h0 a0 12 0 (iV 0) fun h1 =>
  cv h1 a0 12 <| w_X12_isTable N a0 p1 h1 fun v2 =>
  jn (fun (v3 : Int32) => 
    cv h1 a0 12 <| w_X12_fails N a0 v3 1 h1 fun v4 h5 =>
    br (v4 = 0) (
      cv h5 a0 12 <| w_X12_isWithin N a0 p1 0 p2 h5 fun v6 =>
      jn (fun (v7 : Int32) => 
        cv h5 a0 12 <| w_X12_fails N a0 v7 2 h5 fun v8 h9 =>
        br (v8 = 0) (
          gA h9 a0 12 3 fun a10 =>
          aI h9 a10 0 p1 fun v11 =>
          jn (fun (v12 : Int32) => 
            cv h9 a0 12 <| w_X12_fails N a0 v12 3 h9 fun v13 h14 =>
            br (v13 = 0) (
              pF h14 a0 12 16 (iV 0) fun h15 =>
              gA h15 a0 12 3 fun a16 =>
              aI h15 a16 0 p1 fun v17 =>
              gA h15 a0 12 4 fun a18 =>
              sI h15 a18 1 ((40 * p1) + v17) (vp_nar .boolean 1) fun h19 =>
              gA h19 a0 12 5 fun a20 =>
              sI h19 a20 0 (3 * ((40 * p1) + v17)) p2 fun h21 =>
              gA h21 a0 12 5 fun a22 =>
              sI h21 a22 0 ((3 * ((40 * p1) + v17)) + 1) p3 fun h23 =>
              gA h23 a0 12 5 fun a24 =>
              sI h23 a24 0 ((3 * ((40 * p1) + v17)) + 2) p4 fun h25 =>
              gA h25 a0 12 3 fun a26 =>
              aI h25 a26 0 p1 fun v27 =>
              sI h25 a26 0 p1 (v27 + 1) fun h28 =>
              gA h28 a0 12 3 fun a29 =>
              aI h28 a29 0 p1 fun v30 =>
              cv h28 a0 12 <| w_X12_forgets N a0 p1 (v30 - 1) h28 fun h31 =>
              gA h31 a0 12 3 fun a32 =>
              aI h31 a32 0 p1 fun v33 =>
              K (v33 - 1) h31) (
              K (-1) h14)) (fun j87 =>
          br (v11 = 40) (
            j87 1) (
            j87 0))) (
          K (-1) h9)) (fun j63 =>
      jn (
        j63 1) (fun j58 =>
      br (v6 = 0) (
        j58 ) (
        cv h5 a0 12 <| w_X12_isWithin N a0 p1 1 p3 h5 fun v34 =>
        br (v34 = 0) (
          j58 ) (
          cv h5 a0 12 <| w_X12_isWithin N a0 p1 2 p4 h5 fun v35 =>
          br (v35 = 0) (
            j58 ) (
            j63 0)))))) (
      K (-1) h5)) (fun j19 =>
  br (v2 = 0) (
    j19 1) (
    j19 0))
abbrev rmX12_insert : Room := { frames := 4, cells := 0, slots := 0, locals := 108 }
theorem vX12_insert : VI RX12 yX12_insert cX12_insert 6 (some .int) 4 := ⟨tw8_48, tw8_49, tw1_8, tw8_50, by decide +kernel⟩
set_option maxHeartbeats 4000000 in
theorem m_X12_insert {G : Gp} (l : Launch) (hfl : l.stackTraces = false) (N : Nat) {a0 : Nat} {p1 : Int32} {p2 : Int32} {p3 : Int32} {p4 : Int32} {h0 : Hp} {K : Int32 → Hp → Prop} (hw : w_X12_insert N a0 p1 p2 p3 p4 h0 K) : MT G l yX12_insert cX12_insert 6 (some .int) rmX12_insert [rV (some a0), iV p1, iV p2, iV p3, iV p4] h0 (QI G K) := by
  refine go_metT l hfl _ 6 _ _ rfl (by decide +kernel) (Nat.le_of_ble_eq_true rfl) [(0, rV (some a0)), (1, iV p1), (2, iV p2), (3, iV p3), (4, iV p4)] rfl (fun X hX C hn => ?_)
  subst hX
  unfold w_X12_insert at hw
  refine go_aload_n C dX12_insert_0 0 rfl ?_
  refine go_iconst C 0 dX12_insert_1 kc_i0 ?_
  refine go_putI C (cfX12) (k := 0) (Nat.le_of_ble_eq_true rfl) tw7_83 rfl (Or.inl rfl) rfl dX12_insert_2 hw (fun h1 hw => ?_)
  refine go_aload_n C dX12_insert_5 0 rfl ?_
  refine go_aload_n C dX12_insert_6 0 rfl ?_
  refine go_iload_n C dX12_insert_7 1 rfl ?_
  refine go_pV_i C [iV p1] vX12_isTable tw8_31 (ci := 12) rfl (m_X12_isTable (xl X) C.2.2.2.2.2.2.2.1 N hw.2) ⟨Nat.le_of_ble_eq_true rfl, Nat.le_of_ble_eq_true rfl, Nat.le_of_ble_eq_true rfl, Nat.le_of_ble_eq_true rfl⟩ ⟨rfl, rfl⟩ hw.1 dX12_insert_8 rfl (Nat.le_of_ble_eq_true rfl) rfl (fun v2 hw => ?_)
  refine jn_elim (P := fun j => ∀ (v3 : Int32), j v3 → Go G X rmX12_insert 6 0 0 (QN G X (QI G K) rmX12_insert) h1 19 [(0, rV (some a0)), (1, iV p1), (2, iV p2), (3, iV p3), (4, iV p4)] [iV v3, rV (some a0)]) hw (fun v3 hw => ?_) (fun j19 hj19 hw => ?_)
  · refine go_iconst C 1 dX12_insert_19 kc_i1 ?_
    refine go_c0V_i C [iV v3, iV 1] vX12_fails tw8_23 (ci := 12) rfl (m_X12_fails (xl X) C.2.2.2.2.2.2.2.1 N hw.2) ⟨Nat.le_of_ble_eq_true rfl, Nat.le_of_ble_eq_true rfl, Nat.le_of_ble_eq_true rfl, Nat.le_of_ble_eq_true rfl⟩ ⟨rfl, rfl⟩ hw.1 dX12_insert_20 rfl (Nat.le_of_ble_eq_true rfl) rfl (fun v4 h5 hw => ?_)
    refine go_if_ne C 94 dX12_insert_23 (by decide) hw (fun hw => ?_) (fun hw => ?_)
    · refine go_iconst C (-1) dX12_insert_94 kc_im1 ?_
      exact go_iret C dX12_insert_95 hw (Nat.le_of_ble_eq_true rfl) (Nat.le_of_ble_eq_true rfl)
    refine go_aload_n C dX12_insert_26 0 rfl ?_
    refine go_aload_n C dX12_insert_27 0 rfl ?_
    refine go_iload_n C dX12_insert_28 1 rfl ?_
    refine go_iconst C 0 dX12_insert_29 kc_i0 ?_
    refine go_iload_n C dX12_insert_30 2 rfl ?_
    refine go_pV_i C [iV p1, iV 0, iV p2] vX12_isWithin tw8_51 (ci := 12) rfl (m_X12_isWithin (xl X) C.2.2.2.2.2.2.2.1 N hw.2) ⟨Nat.le_of_ble_eq_true rfl, Nat.le_of_ble_eq_true rfl, Nat.le_of_ble_eq_true rfl, Nat.le_of_ble_eq_true rfl⟩ ⟨rfl, rfl⟩ hw.1 dX12_insert_31 rfl (Nat.le_of_ble_eq_true rfl) rfl (fun v6 hw => ?_)
    refine jn_elim (P := fun j => ∀ (v7 : Int32), j v7 → Go G X rmX12_insert 6 0 0 (QN G X (QI G K) rmX12_insert) h5 63 [(0, rV (some a0)), (1, iV p1), (2, iV p2), (3, iV p3), (4, iV p4)] [iV v7, rV (some a0)]) hw (fun v7 hw => ?_) (fun j63 hj63 hw => ?_)
    · refine go_iconst C 2 dX12_insert_63 kc_i2 ?_
      refine go_c0V_i C [iV v7, iV 2] vX12_fails tw8_23 (ci := 12) rfl (m_X12_fails (xl X) C.2.2.2.2.2.2.2.1 N hw.2) ⟨Nat.le_of_ble_eq_true rfl, Nat.le_of_ble_eq_true rfl, Nat.le_of_ble_eq_true rfl, Nat.le_of_ble_eq_true rfl⟩ ⟨rfl, rfl⟩ hw.1 dX12_insert_64 rfl (Nat.le_of_ble_eq_true rfl) rfl (fun v8 h9 hw => ?_)
      refine go_if_ne C 94 dX12_insert_67 (by decide) hw (fun hw => ?_) (fun hw => ?_)
      · refine go_iconst C (-1) dX12_insert_94 kc_im1 ?_
        exact go_iret C dX12_insert_95 hw (Nat.le_of_ble_eq_true rfl) (Nat.le_of_ble_eq_true rfl)
      refine go_aload_n C dX12_insert_70 0 rfl ?_
      refine go_aload_n C dX12_insert_71 0 rfl ?_
      refine go_getA C (cfX12) (k := 3) (Nat.le_of_ble_eq_true rfl) tw7_86 rfl dX12_insert_72 hw (fun a10 hw => ?_)
      refine go_iload_n C dX12_insert_75 1 rfl ?_
      refine go_iaload C dX12_insert_76 hw (fun v11 hw => ?_)
      refine go_bipush C 40 dX12_insert_77 kc_b40 ?_
      refine jn_elim (P := fun j => ∀ (v12 : Int32), j v12 → Go G X rmX12_insert 6 0 0 (QN G X (QI G K) rmX12_insert) h9 87 [(0, rV (some a0)), (1, iV p1), (2, iV p2), (3, iV p3), (4, iV p4)] [iV v12, rV (some a0)]) hw (fun v12 hw => ?_) (fun j87 hj87 hw => ?_)
      · refine go_iconst C 3 dX12_insert_87 kc_i3 ?_
        refine go_c0V_i C [iV v12, iV 3] vX12_fails tw8_23 (ci := 12) rfl (m_X12_fails (xl X) C.2.2.2.2.2.2.2.1 N hw.2) ⟨Nat.le_of_ble_eq_true rfl, Nat.le_of_ble_eq_true rfl, Nat.le_of_ble_eq_true rfl, Nat.le_of_ble_eq_true rfl⟩ ⟨rfl, rfl⟩ hw.1 dX12_insert_88 rfl (Nat.le_of_ble_eq_true rfl) rfl (fun v13 h14 hw => ?_)
        refine go_if_eq C 96 dX12_insert_91 (by decide) hw (fun hw => ?_) (fun hw => ?_)
        · refine go_aload_n C dX12_insert_96 0 rfl ?_
          refine go_iconst C 0 dX12_insert_97 kc_i0 ?_
          refine go_putZ C (cfX12) (k := 16) (Nat.le_of_ble_eq_true rfl) tw7_99 rfl (Or.inl rfl) rfl dX12_insert_98 ⟨⟨rfl, rfl⟩, hw⟩ (fun h15 hw => ?_)
          refine go_bipush C 40 dX12_insert_101 kc_b40 ?_
          refine go_iload_n C dX12_insert_103 1 rfl ?_
          refine go_imul C dX12_insert_104 ?_
          refine go_aload_n C dX12_insert_105 0 rfl ?_
          refine go_getA C (cfX12) (k := 3) (Nat.le_of_ble_eq_true rfl) tw7_86 rfl dX12_insert_106 hw (fun a16 hw => ?_)
          refine go_iload_n C dX12_insert_109 1 rfl ?_
          refine go_iaload C dX12_insert_110 hw (fun v17 hw => ?_)
          refine go_iadd C dX12_insert_111 ?_
          refine go_istore C [(5, iV ((40 * p1) + v17)), (0, rV (some a0)), (1, iV p1), (2, iV p2), (3, iV p3), (4, iV p4)] dX12_insert_112 (Nat.le_of_ble_eq_true rfl) rfl ?_
          refine go_aload_n C dX12_insert_114 1 rfl ?_
          refine go_getA C (cfX12) (k := 4) (Nat.le_of_ble_eq_true rfl) tw7_87 rfl dX12_insert_115 hw (fun a18 hw => ?_)
          refine go_iload C dX12_insert_118 0 rfl ?_
          refine go_iconst C 1 dX12_insert_120 kc_i1 ?_
          refine go_zastore C dX12_insert_121 hw (fun h19 hw => ?_)
          refine go_aload_n C dX12_insert_122 1 rfl ?_
          refine go_getA C (cfX12) (k := 5) (Nat.le_of_ble_eq_true rfl) tw7_88 rfl dX12_insert_123 hw (fun a20 hw => ?_)
          refine go_iconst C 3 dX12_insert_126 kc_i3 ?_
          refine go_iload C dX12_insert_127 0 rfl ?_
          refine go_imul C dX12_insert_129 ?_
          refine go_iload_n C dX12_insert_130 3 rfl ?_
          refine go_iastore C dX12_insert_131 hw (fun h21 hw => ?_)
          refine go_aload_n C dX12_insert_132 1 rfl ?_
          refine go_getA C (cfX12) (k := 5) (Nat.le_of_ble_eq_true rfl) tw7_88 rfl dX12_insert_133 hw (fun a22 hw => ?_)
          refine go_iconst C 3 dX12_insert_136 kc_i3 ?_
          refine go_iload C dX12_insert_137 0 rfl ?_
          refine go_imul C dX12_insert_139 ?_
          refine go_iconst C 1 dX12_insert_140 kc_i1 ?_
          refine go_iadd C dX12_insert_141 ?_
          refine go_iload_n C dX12_insert_142 4 rfl ?_
          refine go_iastore C dX12_insert_143 hw (fun h23 hw => ?_)
          refine go_aload_n C dX12_insert_144 1 rfl ?_
          refine go_getA C (cfX12) (k := 5) (Nat.le_of_ble_eq_true rfl) tw7_88 rfl dX12_insert_145 hw (fun a24 hw => ?_)
          refine go_iconst C 3 dX12_insert_148 kc_i3 ?_
          refine go_iload C dX12_insert_149 0 rfl ?_
          refine go_imul C dX12_insert_151 ?_
          refine go_iconst C 2 dX12_insert_152 kc_i2 ?_
          refine go_iadd C dX12_insert_153 ?_
          refine go_iload C dX12_insert_154 5 rfl ?_
          refine go_iastore C dX12_insert_156 hw (fun h25 hw => ?_)
          refine go_aload_n C dX12_insert_157 1 rfl ?_
          refine go_getA C (cfX12) (k := 3) (Nat.le_of_ble_eq_true rfl) tw7_86 rfl dX12_insert_158 hw (fun a26 hw => ?_)
          refine go_iload_n C dX12_insert_161 2 rfl ?_
          refine go_dup2 C _ _ dX12_insert_162 rfl rfl ?_
          refine go_iaload C dX12_insert_163 hw (fun v27 hw => ?_)
          refine go_iconst C 1 dX12_insert_164 kc_i1 ?_
          refine go_iadd C dX12_insert_165 ?_
          refine go_iastore C dX12_insert_166 hw (fun h28 hw => ?_)
          refine go_aload_n C dX12_insert_167 1 rfl ?_
          refine go_iload_n C dX12_insert_168 2 rfl ?_
          refine go_aload_n C dX12_insert_169 1 rfl ?_
          refine go_getA C (cfX12) (k := 3) (Nat.le_of_ble_eq_true rfl) tw7_86 rfl dX12_insert_170 hw (fun a29 hw => ?_)
          refine go_iload_n C dX12_insert_173 2 rfl ?_
          refine go_iaload C dX12_insert_174 hw (fun v30 hw => ?_)
          refine go_iconst C 1 dX12_insert_175 kc_i1 ?_
          refine go_isub C dX12_insert_176 ?_
          refine go_c0V_v C [iV p1, iV (v30 - 1)] vX12_forgets tw8_55 (ci := 12) rfl (m_X12_forgets (xl X) C.2.2.2.2.2.2.2.1 N hw.2) ⟨Nat.le_of_ble_eq_true rfl, Nat.le_of_ble_eq_true rfl, Nat.le_of_ble_eq_true rfl, Nat.le_of_ble_eq_true rfl⟩ ⟨rfl, rfl⟩ hw.1 dX12_insert_177 rfl (Nat.le_of_ble_eq_true rfl) rfl (fun h31 hw => ?_)
          refine go_aload_n C dX12_insert_180 1 rfl ?_
          refine go_getA C (cfX12) (k := 3) (Nat.le_of_ble_eq_true rfl) tw7_86 rfl dX12_insert_181 hw (fun a32 hw => ?_)
          refine go_iload_n C dX12_insert_184 2 rfl ?_
          refine go_iaload C dX12_insert_185 hw (fun v33 hw => ?_)
          refine go_iconst C 1 dX12_insert_186 kc_i1 ?_
          refine go_isub C dX12_insert_187 ?_
          exact go_iret C dX12_insert_188 hw (Nat.le_of_ble_eq_true rfl) (Nat.le_of_ble_eq_true rfl)
        refine go_iconst C (-1) dX12_insert_94 kc_im1 ?_
        exact go_iret C dX12_insert_95 hw (Nat.le_of_ble_eq_true rfl) (Nat.le_of_ble_eq_true rfl)
      refine go_icmp_ne C 86 dX12_insert_79 (by decide) hw (fun hw => ?_) (fun hw => ?_)
      · refine go_iconst C 0 dX12_insert_86 kc_i0 ?_
        exact hj87 0 hw
      refine go_iconst C 1 dX12_insert_82 kc_i1 ?_
      refine go_goto C 87 dX12_insert_83 (by decide) ?_
      exact hj87 1 hw
    refine jn_elim (P := fun j => j  → Go G X rmX12_insert 6 0 0 (QN G X (QI G K) rmX12_insert) h5 58 [(0, rV (some a0)), (1, iV p1), (2, iV p2), (3, iV p3), (4, iV p4)] [rV (some a0)]) hw (fun  hw => ?_) (fun j58 hj58 hw => ?_)
    · refine go_iconst C 1 dX12_insert_58 kc_i1 ?_
      refine go_goto C 63 dX12_insert_59 (by decide) ?_
      exact hj63 1 hw
    refine go_if_eq C 58 dX12_insert_34 (by decide) hw (fun hw => ?_) (fun hw => ?_)
    · exact hj58  hw
    refine go_aload_n C dX12_insert_37 0 rfl ?_
    refine go_iload_n C dX12_insert_38 1 rfl ?_
    refine go_iconst C 1 dX12_insert_39 kc_i1 ?_
    refine go_iload_n C dX12_insert_40 3 rfl ?_
    refine go_pV_i C [iV p1, iV 1, iV p3] vX12_isWithin tw8_51 (ci := 12) rfl (m_X12_isWithin (xl X) C.2.2.2.2.2.2.2.1 N hw.2) ⟨Nat.le_of_ble_eq_true rfl, Nat.le_of_ble_eq_true rfl, Nat.le_of_ble_eq_true rfl, Nat.le_of_ble_eq_true rfl⟩ ⟨rfl, rfl⟩ hw.1 dX12_insert_41 rfl (Nat.le_of_ble_eq_true rfl) rfl (fun v34 hw => ?_)
    refine go_if_eq C 58 dX12_insert_44 (by decide) hw (fun hw => ?_) (fun hw => ?_)
    · exact hj58  hw
    refine go_aload_n C dX12_insert_47 0 rfl ?_
    refine go_iload_n C dX12_insert_48 1 rfl ?_
    refine go_iconst C 2 dX12_insert_49 kc_i2 ?_
    refine go_iload C dX12_insert_50 4 rfl ?_
    refine go_pV_i C [iV p1, iV 2, iV p4] vX12_isWithin tw8_51 (ci := 12) rfl (m_X12_isWithin (xl X) C.2.2.2.2.2.2.2.1 N hw.2) ⟨Nat.le_of_ble_eq_true rfl, Nat.le_of_ble_eq_true rfl, Nat.le_of_ble_eq_true rfl, Nat.le_of_ble_eq_true rfl⟩ ⟨rfl, rfl⟩ hw.1 dX12_insert_52 rfl (Nat.le_of_ble_eq_true rfl) rfl (fun v35 hw => ?_)
    refine go_if_ne C 62 dX12_insert_55 (by decide) hw (fun hw => ?_) (fun hw => ?_)
    · refine go_iconst C 0 dX12_insert_62 kc_i0 ?_
      exact hj63 0 hw
    exact hj58  hw
  refine go_if_ne C 18 dX12_insert_11 (by decide) hw (fun hw => ?_) (fun hw => ?_)
  · refine go_iconst C 0 dX12_insert_18 kc_i0 ?_
    exact hj19 0 hw
  refine go_iconst C 1 dX12_insert_14 kc_i1 ?_
  refine go_goto C 19 dX12_insert_15 (by decide) ?_
  exact hj19 1 hw
/-- DuelSchemaModel.remove(II)I -/
def w_X12_remove (N : Nat) (a0 : Nat) (p1 : Int32) (p2 : Int32) (h0 : Hp) (K : Int32 → Hp → Prop) : Prop :=
  pF h0 a0 12 0 (iV 0) fun h1 =>
  cv h1 a0 12 <| w_X12_isTable N a0 p1 h1 fun v2 =>
  jn (fun (v3 : Int32) => 
    cv h1 a0 12 <| w_X12_fails N a0 v3 1 h1 fun v4 h5 =>
    br (v4 = 0) (
      cv h5 a0 12 <| w_X12_hasRow N a0 p1 p2 h5 fun v6 =>
      jn (fun (v7 : Int32) => 
        cv h5 a0 12 <| w_X12_fails N a0 v7 2 h5 fun v8 h9 =>
        br (v8 = 0) (
          pF h9 a0 12 16 (iV 0) fun h10 =>
          gA h10 a0 12 4 fun a11 =>
          sI h10 a11 1 ((40 * p1) + p2) (vp_nar .boolean 0) fun h12 =>
          cv h12 a0 12 <| w_X12_forgets N a0 p1 p2 h12 fun h13 =>
          cv h13 a0 12 <| w_X12_there N a0 p1 h13 fun v14 =>
          K v14 h13) (
          K (-1) h9)) (fun j41 =>
      br (v6 = 0) (
        j41 1) (
        j41 0))) (
      K (-1) h5)) (fun j19 =>
  br (v2 = 0) (
    j19 1) (
    j19 0))
abbrev rmX12_remove : Room := { frames := 5, cells := 0, slots := 0, locals := 127 }
theorem vX12_remove : VI RX12 yX12_remove cX12_remove 3 (some .int) 2 := ⟨tw8_64, tw8_65, tw1_8, tw8_66, by decide +kernel⟩
set_option maxHeartbeats 4000000 in
theorem m_X12_remove {G : Gp} (l : Launch) (hfl : l.stackTraces = false) (N : Nat) {a0 : Nat} {p1 : Int32} {p2 : Int32} {h0 : Hp} {K : Int32 → Hp → Prop} (hw : w_X12_remove N a0 p1 p2 h0 K) : MT G l yX12_remove cX12_remove 3 (some .int) rmX12_remove [rV (some a0), iV p1, iV p2] h0 (QI G K) := by
  refine go_metT l hfl _ 3 _ _ rfl (by decide +kernel) (Nat.le_of_ble_eq_true rfl) [(0, rV (some a0)), (1, iV p1), (2, iV p2)] rfl (fun X hX C hn => ?_)
  subst hX
  unfold w_X12_remove at hw
  refine go_aload_n C dX12_remove_0 0 rfl ?_
  refine go_iconst C 0 dX12_remove_1 kc_i0 ?_
  refine go_putI C (cfX12) (k := 0) (Nat.le_of_ble_eq_true rfl) tw7_83 rfl (Or.inl rfl) rfl dX12_remove_2 hw (fun h1 hw => ?_)
  refine go_aload_n C dX12_remove_5 0 rfl ?_
  refine go_aload_n C dX12_remove_6 0 rfl ?_
  refine go_iload_n C dX12_remove_7 1 rfl ?_
  refine go_pV_i C [iV p1] vX12_isTable tw8_31 (ci := 12) rfl (m_X12_isTable (xl X) C.2.2.2.2.2.2.2.1 N hw.2) ⟨Nat.le_of_ble_eq_true rfl, Nat.le_of_ble_eq_true rfl, Nat.le_of_ble_eq_true rfl, Nat.le_of_ble_eq_true rfl⟩ ⟨rfl, rfl⟩ hw.1 dX12_remove_8 rfl (Nat.le_of_ble_eq_true rfl) rfl (fun v2 hw => ?_)
  refine jn_elim (P := fun j => ∀ (v3 : Int32), j v3 → Go G X rmX12_remove 3 0 0 (QN G X (QI G K) rmX12_remove) h1 19 [(0, rV (some a0)), (1, iV p1), (2, iV p2)] [iV v3, rV (some a0)]) hw (fun v3 hw => ?_) (fun j19 hj19 hw => ?_)
  · refine go_iconst C 1 dX12_remove_19 kc_i1 ?_
    refine go_c0V_i C [iV v3, iV 1] vX12_fails tw8_23 (ci := 12) rfl (m_X12_fails (xl X) C.2.2.2.2.2.2.2.1 N hw.2) ⟨Nat.le_of_ble_eq_true rfl, Nat.le_of_ble_eq_true rfl, Nat.le_of_ble_eq_true rfl, Nat.le_of_ble_eq_true rfl⟩ ⟨rfl, rfl⟩ hw.1 dX12_remove_20 rfl (Nat.le_of_ble_eq_true rfl) rfl (fun v4 h5 hw => ?_)
    refine go_if_ne C 48 dX12_remove_23 (by decide) hw (fun hw => ?_) (fun hw => ?_)
    · refine go_iconst C (-1) dX12_remove_48 kc_im1 ?_
      exact go_iret C dX12_remove_49 hw (Nat.le_of_ble_eq_true rfl) (Nat.le_of_ble_eq_true rfl)
    refine go_aload_n C dX12_remove_26 0 rfl ?_
    refine go_aload_n C dX12_remove_27 0 rfl ?_
    refine go_iload_n C dX12_remove_28 1 rfl ?_
    refine go_iload_n C dX12_remove_29 2 rfl ?_
    refine go_pV_i C [iV p1, iV p2] vX12_hasRow tw8_39 (ci := 12) rfl (m_X12_hasRow (xl X) C.2.2.2.2.2.2.2.1 N hw.2) ⟨Nat.le_of_ble_eq_true rfl, Nat.le_of_ble_eq_true rfl, Nat.le_of_ble_eq_true rfl, Nat.le_of_ble_eq_true rfl⟩ ⟨rfl, rfl⟩ hw.1 dX12_remove_30 rfl (Nat.le_of_ble_eq_true rfl) rfl (fun v6 hw => ?_)
    refine jn_elim (P := fun j => ∀ (v7 : Int32), j v7 → Go G X rmX12_remove 3 0 0 (QN G X (QI G K) rmX12_remove) h5 41 [(0, rV (some a0)), (1, iV p1), (2, iV p2)] [iV v7, rV (some a0)]) hw (fun v7 hw => ?_) (fun j41 hj41 hw => ?_)
    · refine go_iconst C 2 dX12_remove_41 kc_i2 ?_
      refine go_c0V_i C [iV v7, iV 2] vX12_fails tw8_23 (ci := 12) rfl (m_X12_fails (xl X) C.2.2.2.2.2.2.2.1 N hw.2) ⟨Nat.le_of_ble_eq_true rfl, Nat.le_of_ble_eq_true rfl, Nat.le_of_ble_eq_true rfl, Nat.le_of_ble_eq_true rfl⟩ ⟨rfl, rfl⟩ hw.1 dX12_remove_42 rfl (Nat.le_of_ble_eq_true rfl) rfl (fun v8 h9 hw => ?_)
      refine go_if_eq C 50 dX12_remove_45 (by decide) hw (fun hw => ?_) (fun hw => ?_)
      · refine go_aload_n C dX12_remove_50 0 rfl ?_
        refine go_iconst C 0 dX12_remove_51 kc_i0 ?_
        refine go_putZ C (cfX12) (k := 16) (Nat.le_of_ble_eq_true rfl) tw7_99 rfl (Or.inl rfl) rfl dX12_remove_52 ⟨⟨rfl, rfl⟩, hw⟩ (fun h10 hw => ?_)
        refine go_aload_n C dX12_remove_55 0 rfl ?_
        refine go_getA C (cfX12) (k := 4) (Nat.le_of_ble_eq_true rfl) tw7_87 rfl dX12_remove_56 hw (fun a11 hw => ?_)
        refine go_bipush C 40 dX12_remove_59 kc_b40 ?_
        refine go_iload_n C dX12_remove_61 1 rfl ?_
        refine go_imul C dX12_remove_62 ?_
        refine go_iload_n C dX12_remove_63 2 rfl ?_
        refine go_iadd C dX12_remove_64 ?_
        refine go_iconst C 0 dX12_remove_65 kc_i0 ?_
        refine go_zastore C dX12_remove_66 hw (fun h12 hw => ?_)
        refine go_aload_n C dX12_remove_67 0 rfl ?_
        refine go_iload_n C dX12_remove_68 1 rfl ?_
        refine go_iload_n C dX12_remove_69 2 rfl ?_
        refine go_c0V_v C [iV p1, iV p2] vX12_forgets tw8_55 (ci := 12) rfl (m_X12_forgets (xl X) C.2.2.2.2.2.2.2.1 N hw.2) ⟨Nat.le_of_ble_eq_true rfl, Nat.le_of_ble_eq_true rfl, Nat.le_of_ble_eq_true rfl, Nat.le_of_ble_eq_true rfl⟩ ⟨rfl, rfl⟩ hw.1 dX12_remove_70 rfl (Nat.le_of_ble_eq_true rfl) rfl (fun h13 hw => ?_)
        refine go_aload_n C dX12_remove_73 0 rfl ?_
        refine go_iload_n C dX12_remove_74 1 rfl ?_
        refine go_pV_i C [iV p1] vX12_there tw8_67 (ci := 12) rfl (m_X12_there (xl X) C.2.2.2.2.2.2.2.1 N hw.2) ⟨Nat.le_of_ble_eq_true rfl, Nat.le_of_ble_eq_true rfl, Nat.le_of_ble_eq_true rfl, Nat.le_of_ble_eq_true rfl⟩ ⟨rfl, rfl⟩ hw.1 dX12_remove_75 rfl (Nat.le_of_ble_eq_true rfl) rfl (fun v14 hw => ?_)
        exact go_iret C dX12_remove_78 hw (Nat.le_of_ble_eq_true rfl) (Nat.le_of_ble_eq_true rfl)
      refine go_iconst C (-1) dX12_remove_48 kc_im1 ?_
      exact go_iret C dX12_remove_49 hw (Nat.le_of_ble_eq_true rfl) (Nat.le_of_ble_eq_true rfl)
    refine go_if_ne C 40 dX12_remove_33 (by decide) hw (fun hw => ?_) (fun hw => ?_)
    · refine go_iconst C 0 dX12_remove_40 kc_i0 ?_
      exact hj41 0 hw
    refine go_iconst C 1 dX12_remove_36 kc_i1 ?_
    refine go_goto C 41 dX12_remove_37 (by decide) ?_
    exact hj41 1 hw
  refine go_if_ne C 18 dX12_remove_11 (by decide) hw (fun hw => ?_) (fun hw => ?_)
  · refine go_iconst C 0 dX12_remove_18 kc_i0 ?_
    exact hj19 0 hw
  refine go_iconst C 1 dX12_remove_14 kc_i1 ?_
  refine go_goto C 19 dX12_remove_15 (by decide) ?_
  exact hj19 1 hw
/-- DuelSchemaModel.countsColumn(II)V -/
def w_X12_countsColumn (N : Nat) (a0 : Nat) (p1 : Int32) (p2 : Int32) (h0 : Hp) (K : Hp → Prop) : Prop :=
  gA h0 a0 12 10 fun a1 =>
  sI h0 a1 0 ((3 * p1) + p2) 0 fun h2 =>
  gA h2 a0 12 11 fun a3 =>
  sI h2 a3 0 ((3 * p1) + p2) 0 fun h4 =>
  gA h4 a0 12 12 fun a5 =>
  sI h4 a5 0 ((3 * p1) + p2) 0 fun h6 =>
  fx2 (fun (w31 : Int32 → Hp → Prop) (x8 : Int32) (h7 : Hp) =>
    br (x8 < 0) (
      K h7) (
      fx2 (fun (w42 : Int32 → Int32 → Prop) (x9 : Int32) (x10 : Int32) =>
        gA h7 a0 12 3 fun a11 =>
        aI h7 a11 0 p1 fun v12 =>
        br (v12 ≤ x10) (
          gA h7 a0 12 12 fun a13 =>
          jn (fun (v14 : Int32) => 
            sI h7 a13 0 ((3 * p1) + p2) v14 fun h15 =>
            gA h15 a0 12 11 fun a16 =>
            jn (fun (v17 : Int32) => 
              sI h15 a16 0 ((3 * p1) + p2) v17 fun h18 =>
              gA h18 a0 12 10 fun a19 =>
              aI h18 a19 0 ((3 * p1) + p2) fun v20 =>
              jn (fun (v21 : Int32) => 
                sI h18 a19 0 ((3 * p1) + p2) (v20 + v21) fun h22 =>
                w31 (x8 + (-1)) h22) (fun j164 =>
              br (x9 = 0) (
                j164 0) (
                j164 1))) (fun j146 =>
            br (x9 = 0) (
              gA h15 a0 12 11 fun a23 =>
              aI h15 a23 0 ((3 * p1) + p2) fun v24 =>
              j146 v24) (
              j146 x8))) (fun j124 =>
          jn (
            gA h7 a0 12 12 fun a25 =>
            aI h7 a25 0 ((3 * p1) + p2) fun v26 =>
            j124 v26) (fun j118 =>
          br (x9 = 0) (
            j118 ) (
            gA h7 a0 12 10 fun a27 =>
            aI h7 a27 0 ((3 * p1) + p2) fun v28 =>
            br (v28 = 0) (
              j124 x8) (
              j118 ))))) (
          jn (fun (v29 : Int32) => 
            w42 v29 (x10 + 1)) (fun j86 =>
          jn (
            j86 1) (fun j81 =>
          br (x9 = 0) (
            cv h7 a0 12 <| w_X12_hasRow N a0 p1 x10 h7 fun v30 =>
            jn (
              j86 0) (fun j85 =>
            br (v30 = 0) (
              j85 ) (
              cv h7 a0 12 <| w_X12_at N a0 p1 x10 p2 h7 fun v31 =>
              br (v31 = x8) (
                j81 ) (
                j85 )))) (
            j81 ))))) N 0 0)) N 99 h6
abbrev rmX12_countsColumn : Room := { frames := 4, cells := 0, slots := 0, locals := 104 }
theorem vX12_countsColumn : VI RX12 yX12_countsColumn cX12_countsColumn 7 none 2 := ⟨tw8_81, tp53, tw1_8, tw8_82, by decide +kernel⟩
set_option maxHeartbeats 4000000 in
theorem m_X12_countsColumn {G : Gp} (l : Launch) (hfl : l.stackTraces = false) (N : Nat) {a0 : Nat} {p1 : Int32} {p2 : Int32} {h0 : Hp} {K : Hp → Prop} (hw : w_X12_countsColumn N a0 p1 p2 h0 K) : MT G l yX12_countsColumn cX12_countsColumn 7 none rmX12_countsColumn [rV (some a0), iV p1, iV p2] h0 (QV G K) := by
  refine go_metT l hfl _ 7 _ _ rfl (by decide +kernel) (Nat.le_of_ble_eq_true rfl) [(0, rV (some a0)), (1, iV p1), (2, iV p2)] rfl (fun X hX C hn => ?_)
  subst hX
  unfold w_X12_countsColumn at hw
  refine go_iconst C 3 dX12_countsColumn_0 kc_i3 ?_
  refine go_iload_n C dX12_countsColumn_1 1 rfl ?_
  refine go_imul C dX12_countsColumn_2 ?_
  refine go_iload_n C dX12_countsColumn_3 2 rfl ?_
  refine go_iadd C dX12_countsColumn_4 ?_
  refine go_istore_n C [(3, iV ((3 * p1) + p2)), (0, rV (some a0)), (1, iV p1), (2, iV p2)] dX12_countsColumn_5 (Nat.le_of_ble_eq_true rfl) rfl ?_
  refine go_aload_n C dX12_countsColumn_6 1 rfl ?_
  refine go_getA C (cfX12) (k := 10) (Nat.le_of_ble_eq_true rfl) tw7_93 rfl dX12_countsColumn_7 hw (fun a1 hw => ?_)
  refine go_iload_n C dX12_countsColumn_10 0 rfl ?_
  refine go_iconst C 0 dX12_countsColumn_11 kc_i0 ?_
  refine go_iastore C dX12_countsColumn_12 hw (fun h2 hw => ?_)
  refine go_aload_n C dX12_countsColumn_13 1 rfl ?_
  refine go_getA C (cfX12) (k := 11) (Nat.le_of_ble_eq_true rfl) tw7_94 rfl dX12_countsColumn_14 hw (fun a3 hw => ?_)
  refine go_iload_n C dX12_countsColumn_17 0 rfl ?_
  refine go_iconst C 0 dX12_countsColumn_18 kc_i0 ?_
  refine go_iastore C dX12_countsColumn_19 hw (fun h4 hw => ?_)
  refine go_aload_n C dX12_countsColumn_20 1 rfl ?_
  refine go_getA C (cfX12) (k := 12) (Nat.le_of_ble_eq_true rfl) tw7_95 rfl dX12_countsColumn_21 hw (fun a5 hw => ?_)
  refine go_iload_n C dX12_countsColumn_24 0 rfl ?_
  refine go_iconst C 0 dX12_countsColumn_25 kc_i0 ?_
  refine go_iastore C dX12_countsColumn_26 hw (fun h6 hw => ?_)
  refine go_bipush C 99 dX12_countsColumn_27 kc_b99 ?_
  refine go_istore C [(4, iV 99), (3, iV ((3 * p1) + p2)), (0, rV (some a0)), (1, iV p1), (2, iV p2)] dX12_countsColumn_29 (Nat.le_of_ble_eq_true rfl) rfl ?_
  refine go_sub [2, 3, 4, 1, 0] rfl ?_
  refine fx2_elim (P := fun x8 h7 => Go G X rmX12_countsColumn 7 0 0 (QN G X (QV G K) rmX12_countsColumn) h7 31 [(0, rV (some a0)), (1, iV p1), (2, iV p2), (3, iV ((3 * p1) + p2)), (4, iV x8)] []) (fun w31 hj31 x8 h7 hw => ?_) N _ _ hw
  refine go_iload C dX12_countsColumn_31 4 rfl ?_
  refine go_if_lt C 172 dX12_countsColumn_33 (by decide) hw (fun hw => ?_) (fun hw => ?_)
  · exact go_vret C dX12_countsColumn_172 hw (Nat.le_of_ble_eq_true rfl) (Nat.le_of_ble_eq_true rfl)
  refine go_iconst C 0 dX12_countsColumn_36 kc_i0 ?_
  refine go_istore C [(5, iV 0), (0, rV (some a0)), (1, iV p1), (2, iV p2), (3, iV ((3 * p1) + p2)), (4, iV x8)] dX12_countsColumn_37 (Nat.le_of_ble_eq_true rfl) rfl ?_
  refine go_iconst C 0 dX12_countsColumn_39 kc_i0 ?_
  refine go_istore C [(6, iV 0), (5, iV 0), (0, rV (some a0)), (1, iV p1), (2, iV p2), (3, iV ((3 * p1) + p2)), (4, iV x8)] dX12_countsColumn_40 (Nat.le_of_ble_eq_true rfl) rfl ?_
  refine go_sub [2, 3, 4, 5, 6, 1, 0] rfl ?_
  refine fx2_elim (P := fun x9 x10 => Go G X rmX12_countsColumn 7 0 0 (QN G X (QV G K) rmX12_countsColumn) h7 42 [(0, rV (some a0)), (1, iV p1), (2, iV p2), (3, iV ((3 * p1) + p2)), (4, iV x8), (5, iV x9), (6, iV x10)] []) (fun w42 hj42 x9 x10 hw => ?_) N _ _ hw
  refine go_iload C dX12_countsColumn_42 6 rfl ?_
  refine go_aload_n C dX12_countsColumn_44 0 rfl ?_
  refine go_getA C (cfX12) (k := 3) (Nat.le_of_ble_eq_true rfl) tw7_86 rfl dX12_countsColumn_45 hw (fun a11 hw => ?_)
  refine go_iload_n C dX12_countsColumn_48 1 rfl ?_
  refine go_iaload C dX12_countsColumn_49 hw (fun v12 hw => ?_)
  refine go_icmp_ge C 94 dX12_countsColumn_50 (by decide) hw (fun hw => ?_) (fun hw => ?_)
  · refine go_aload_n C dX12_countsColumn_94 0 rfl ?_
    refine go_getA C (cfX12) (k := 12) (Nat.le_of_ble_eq_true rfl) tw7_95 rfl dX12_countsColumn_95 hw (fun a13 hw => ?_)
    refine go_iload_n C dX12_countsColumn_98 3 rfl ?_
    refine go_iload C dX12_countsColumn_99 5 rfl ?_
    refine jn_elim (P := fun j => ∀ (v14 : Int32), j v14 → Go G X rmX12_countsColumn 7 0 0 (QN G X (QV G K) rmX12_countsColumn) h7 124 [(0, rV (some a0)), (1, iV p1), (2, iV p2), (3, iV ((3 * p1) + p2)), (4, iV x8), (5, iV x9)] [iV v14, iV ((3 * p1) + p2), rV (some a13)]) hw (fun v14 hw => ?_) (fun j124 hj124 hw => ?_)
    · refine go_iastore C dX12_countsColumn_124 hw (fun h15 hw => ?_)
      refine go_aload_n C dX12_countsColumn_125 0 rfl ?_
      refine go_getA C (cfX12) (k := 11) (Nat.le_of_ble_eq_true rfl) tw7_94 rfl dX12_countsColumn_126 hw (fun a16 hw => ?_)
      refine go_iload_n C dX12_countsColumn_129 3 rfl ?_
      refine go_iload C dX12_countsColumn_130 5 rfl ?_
      refine jn_elim (P := fun j => ∀ (v17 : Int32), j v17 → Go G X rmX12_countsColumn 7 0 0 (QN G X (QV G K) rmX12_countsColumn) h15 146 [(0, rV (some a0)), (1, iV p1), (2, iV p2), (3, iV ((3 * p1) + p2)), (4, iV x8), (5, iV x9)] [iV v17, iV ((3 * p1) + p2), rV (some a16)]) hw (fun v17 hw => ?_) (fun j146 hj146 hw => ?_)
      · refine go_iastore C dX12_countsColumn_146 hw (fun h18 hw => ?_)
        refine go_aload_n C dX12_countsColumn_147 0 rfl ?_
        refine go_getA C (cfX12) (k := 10) (Nat.le_of_ble_eq_true rfl) tw7_93 rfl dX12_countsColumn_148 hw (fun a19 hw => ?_)
        refine go_iload_n C dX12_countsColumn_151 3 rfl ?_
        refine go_dup2 C _ _ dX12_countsColumn_152 rfl rfl ?_
        refine go_iaload C dX12_countsColumn_153 hw (fun v20 hw => ?_)
        refine go_iload C dX12_countsColumn_154 5 rfl ?_
        refine jn_elim (P := fun j => ∀ (v21 : Int32), j v21 → Go G X rmX12_countsColumn 7 0 0 (QN G X (QV G K) rmX12_countsColumn) h18 164 [(0, rV (some a0)), (1, iV p1), (2, iV p2), (3, iV ((3 * p1) + p2)), (4, iV x8)] [iV v21, iV v20, iV ((3 * p1) + p2), rV (some a19)]) hw (fun v21 hw => ?_) (fun j164 hj164 hw => ?_)
        · refine go_iadd C dX12_countsColumn_164 ?_
          refine go_iastore C dX12_countsColumn_165 hw (fun h22 hw => ?_)
          refine go_iinc C (x8 + (-1)) [(4, iV (x8 + (-1))), (0, rV (some a0)), (1, iV p1), (2, iV p2), (3, iV ((3 * p1) + p2))] dX12_countsColumn_166 4 rfl (by rw [kc_im1]) (Nat.le_of_ble_eq_true rfl) rfl ?_
          refine go_goto C 31 dX12_countsColumn_169 (by decide) ?_
          refine go_sub [1, 2, 3, 4, 0] rfl ?_
          exact hj31 (x8 + (-1)) h22 hw
        refine go_if_eq C 163 dX12_countsColumn_156 (by decide) hw (fun hw => ?_) (fun hw => ?_)
        · refine go_iconst C 0 dX12_countsColumn_163 kc_i0 ?_
          refine go_sub [0, 1, 2, 3, 4] rfl ?_
          exact hj164 0 hw
        refine go_iconst C 1 dX12_countsColumn_159 kc_i1 ?_
        refine go_goto C 164 dX12_countsColumn_160 (by decide) ?_
        refine go_sub [0, 1, 2, 3, 4] rfl ?_
        exact hj164 1 hw
      refine go_if_eq C 140 dX12_countsColumn_132 (by decide) hw (fun hw => ?_) (fun hw => ?_)
      · refine go_aload_n C dX12_countsColumn_140 0 rfl ?_
        refine go_getA C (cfX12) (k := 11) (Nat.le_of_ble_eq_true rfl) tw7_94 rfl dX12_countsColumn_141 hw (fun a23 hw => ?_)
        refine go_iload_n C dX12_countsColumn_144 3 rfl ?_
        refine go_iaload C dX12_countsColumn_145 hw (fun v24 hw => ?_)
        exact hj146 v24 hw
      refine go_iload C dX12_countsColumn_135 4 rfl ?_
      refine go_goto C 146 dX12_countsColumn_137 (by decide) ?_
      exact hj146 x8 hw
    refine jn_elim (P := fun j => j  → Go G X rmX12_countsColumn 7 0 0 (QN G X (QV G K) rmX12_countsColumn) h7 118 [(0, rV (some a0)), (1, iV p1), (2, iV p2), (3, iV ((3 * p1) + p2)), (4, iV x8), (5, iV x9)] [iV ((3 * p1) + p2), rV (some a13)]) hw (fun  hw => ?_) (fun j118 hj118 hw => ?_)
    · refine go_aload_n C dX12_countsColumn_118 0 rfl ?_
      refine go_getA C (cfX12) (k := 12) (Nat.le_of_ble_eq_true rfl) tw7_95 rfl dX12_countsColumn_119 hw (fun a25 hw => ?_)
      refine go_iload_n C dX12_countsColumn_122 3 rfl ?_
      refine go_iaload C dX12_countsColumn_123 hw (fun v26 hw => ?_)
      exact hj124 v26 hw
    refine go_if_eq C 118 dX12_countsColumn_101 (by decide) hw (fun hw => ?_) (fun hw => ?_)
    · refine go_sub [0, 1, 2, 3, 4, 5] rfl ?_
      exact hj118  hw
    refine go_aload_n C dX12_countsColumn_104 0 rfl ?_
    refine go_getA C (cfX12) (k := 10) (Nat.le_of_ble_eq_true rfl) tw7_93 rfl dX12_countsColumn_105 hw (fun a27 hw => ?_)
    refine go_iload_n C dX12_countsColumn_108 3 rfl ?_
    refine go_iaload C dX12_countsColumn_109 hw (fun v28 hw => ?_)
    refine go_if_ne C 118 dX12_countsColumn_110 (by decide) hw (fun hw => ?_) (fun hw => ?_)
    · refine go_sub [0, 1, 2, 3, 4, 5] rfl ?_
      exact hj118  hw
    refine go_iload C dX12_countsColumn_113 4 rfl ?_
    refine go_goto C 124 dX12_countsColumn_115 (by decide) ?_
    refine go_sub [0, 1, 2, 3, 4, 5] rfl ?_
    exact hj124 x8 hw
  refine go_iload C dX12_countsColumn_53 5 rfl ?_
  refine jn_elim (P := fun j => ∀ (v29 : Int32), j v29 → Go G X rmX12_countsColumn 7 0 0 (QN G X (QV G K) rmX12_countsColumn) h7 86 [(0, rV (some a0)), (1, iV p1), (2, iV p2), (3, iV ((3 * p1) + p2)), (4, iV x8), (6, iV x10)] [iV v29]) hw (fun v29 hw => ?_) (fun j86 hj86 hw => ?_)
  · refine go_istore C [(5, iV v29), (0, rV (some a0)), (1, iV p1), (2, iV p2), (3, iV ((3 * p1) + p2)), (4, iV x8), (6, iV x10)] dX12_countsColumn_86 (Nat.le_of_ble_eq_true rfl) rfl ?_
    refine go_iinc C (x10 + 1) [(6, iV (x10 + 1)), (5, iV v29), (0, rV (some a0)), (1, iV p1), (2, iV p2), (3, iV ((3 * p1) + p2)), (4, iV x8)] dX12_countsColumn_88 6 rfl (by rw [kc_i1]) (Nat.le_of_ble_eq_true rfl) rfl ?_
    refine go_goto C 42 dX12_countsColumn_91 (by decide) ?_
    refine go_sub [2, 3, 4, 5, 6, 1, 0] rfl ?_
    exact hj42 v29 (x10 + 1) hw
  refine jn_elim (P := fun j => j  → Go G X rmX12_countsColumn 7 0 0 (QN G X (QV G K) rmX12_countsColumn) h7 81 [(0, rV (some a0)), (1, iV p1), (2, iV p2), (3, iV ((3 * p1) + p2)), (4, iV x8), (6, iV x10)] []) hw (fun  hw => ?_) (fun j81 hj81 hw => ?_)
  · refine go_iconst C 1 dX12_countsColumn_81 kc_i1 ?_
    refine go_goto C 86 dX12_countsColumn_82 (by decide) ?_
    exact hj86 1 hw
  refine go_if_ne C 81 dX12_countsColumn_55 (by decide) hw (fun hw => ?_) (fun hw => ?_)
  · refine go_sub [0, 1, 2, 3, 4, 6] rfl ?_
    exact hj81  hw
  refine go_aload_n C dX12_countsColumn_58 0 rfl ?_
  refine go_iload_n C dX12_countsColumn_59 1 rfl ?_
  refine go_iload C dX12_countsColumn_60 6 rfl ?_
  refine go_pV_i C [iV p1, iV x10] vX12_hasRow tw8_39 (ci := 12) rfl (m_X12_hasRow (xl X) C.2.2.2.2.2.2.2.1 N hw.2) ⟨Nat.le_of_ble_eq_true rfl, Nat.le_of_ble_eq_true rfl, Nat.le_of_ble_eq_true rfl, Nat.le_of_ble_eq_true rfl⟩ ⟨rfl, rfl⟩ hw.1 dX12_countsColumn_62 rfl (Nat.le_of_ble_eq_true rfl) rfl (fun v30 hw => ?_)
  refine jn_elim (P := fun j => j  → Go G X rmX12_countsColumn 7 0 0 (QN G X (QV G K) rmX12_countsColumn) h7 85 [(0, rV (some a0)), (1, iV p1), (2, iV p2), (3, iV ((3 * p1) + p2)), (4, iV x8), (6, iV x10)] []) hw (fun  hw => ?_) (fun j85 hj85 hw => ?_)
  · refine go_iconst C 0 dX12_countsColumn_85 kc_i0 ?_
    exact hj86 0 hw
  refine go_if_eq C 85 dX12_countsColumn_65 (by decide) hw (fun hw => ?_) (fun hw => ?_)
  · refine go_sub [0, 1, 2, 3, 4, 6] rfl ?_
    exact hj85  hw
  refine go_aload_n C dX12_countsColumn_68 0 rfl ?_
  refine go_iload_n C dX12_countsColumn_69 1 rfl ?_
  refine go_iload C dX12_countsColumn_70 6 rfl ?_
  refine go_iload_n C dX12_countsColumn_72 2 rfl ?_
  refine go_pV_i C [iV p1, iV x10, iV p2] vX12_at tw8_43 (ci := 12) rfl (m_X12_at (xl X) C.2.2.2.2.2.2.2.1 N hw.2) ⟨Nat.le_of_ble_eq_true rfl, Nat.le_of_ble_eq_true rfl, Nat.le_of_ble_eq_true rfl, Nat.le_of_ble_eq_true rfl⟩ ⟨rfl, rfl⟩ hw.1 dX12_countsColumn_73 rfl (Nat.le_of_ble_eq_true rfl) rfl (fun v31 hw => ?_)
  refine go_iload C dX12_countsColumn_76 4 rfl ?_
  refine go_icmp_ne C 85 dX12_countsColumn_78 (by decide) hw (fun hw => ?_) (fun hw => ?_)
  · refine go_sub [0, 1, 2, 3, 4, 6] rfl ?_
    exact hj85  hw
  refine go_sub [0, 1, 2, 3, 4, 6] rfl ?_
  exact hj81  hw
/-- DuelSchemaModel.count(I)I -/
def w_X12_count (N : Nat) (a0 : Nat) (p1 : Int32) (h0 : Hp) (K : Int32 → Hp → Prop) : Prop :=
  pF h0 a0 12 0 (iV 0) fun h1 =>
  cv h1 a0 12 <| w_X12_isTable N a0 p1 h1 fun v2 =>
  jn (fun (v3 : Int32) => 
    cv h1 a0 12 <| w_X12_fails N a0 v3 1 h1 fun v4 h5 =>
    br (v4 = 0) (
      pF h5 a0 12 16 (iV 0) fun h6 =>
      gA h6 a0 12 8 fun a7 =>
      cv h6 a0 12 <| w_X12_there N a0 p1 h6 fun v8 =>
      sI h6 a7 0 p1 v8 fun h9 =>
      gA h9 a0 12 9 fun a10 =>
      cv h9 a0 12 <| w_X12_pagesOf N a0 p1 h9 fun v11 =>
      sI h9 a10 0 p1 v11 fun h12 =>
      fx2 (fun (w57 : Int32 → Hp → Prop) (x14 : Int32) (h13 : Hp) =>
        gA h13 a0 12 2 fun a15 =>
        aI h13 a15 0 p1 fun v16 =>
        br (v16 ≤ x14) (
          gA h13 a0 12 8 fun a17 =>
          aI h13 a17 0 p1 fun v18 =>
          K v18 h13) (
          cv h13 a0 12 <| w_X12_countsColumn N a0 p1 x14 h13 fun h19 =>
          w57 (x14 + 1) h19)) N 0 h12) (
      K (-1) h5)) (fun j19 =>
  br (v2 = 0) (
    j19 1) (
    j19 0))
abbrev rmX12_count : Room := { frames := 5, cells := 0, slots := 0, locals := 130 }
theorem vX12_count : VI RX12 yX12_count cX12_count 3 (some .int) 1 := ⟨tw8_72, tw8_73, tw1_8, tw8_74, by decide +kernel⟩
set_option maxHeartbeats 4000000 in
theorem m_X12_count {G : Gp} (l : Launch) (hfl : l.stackTraces = false) (N : Nat) {a0 : Nat} {p1 : Int32} {h0 : Hp} {K : Int32 → Hp → Prop} (hw : w_X12_count N a0 p1 h0 K) : MT G l yX12_count cX12_count 3 (some .int) rmX12_count [rV (some a0), iV p1] h0 (QI G K) := by
  refine go_metT l hfl _ 3 _ _ rfl (by decide +kernel) (Nat.le_of_ble_eq_true rfl) [(0, rV (some a0)), (1, iV p1)] rfl (fun X hX C hn => ?_)
  subst hX
  unfold w_X12_count at hw
  refine go_aload_n C dX12_count_0 0 rfl ?_
  refine go_iconst C 0 dX12_count_1 kc_i0 ?_
  refine go_putI C (cfX12) (k := 0) (Nat.le_of_ble_eq_true rfl) tw7_83 rfl (Or.inl rfl) rfl dX12_count_2 hw (fun h1 hw => ?_)
  refine go_aload_n C dX12_count_5 0 rfl ?_
  refine go_aload_n C dX12_count_6 0 rfl ?_
  refine go_iload_n C dX12_count_7 1 rfl ?_
  refine go_pV_i C [iV p1] vX12_isTable tw8_31 (ci := 12) rfl (m_X12_isTable (xl X) C.2.2.2.2.2.2.2.1 N hw.2) ⟨Nat.le_of_ble_eq_true rfl, Nat.le_of_ble_eq_true rfl, Nat.le_of_ble_eq_true rfl, Nat.le_of_ble_eq_true rfl⟩ ⟨rfl, rfl⟩ hw.1 dX12_count_8 rfl (Nat.le_of_ble_eq_true rfl) rfl (fun v2 hw => ?_)
  refine jn_elim (P := fun j => ∀ (v3 : Int32), j v3 → Go G X rmX12_count 3 0 0 (QN G X (QI G K) rmX12_count) h1 19 [(0, rV (some a0)), (1, iV p1)] [iV v3, rV (some a0)]) hw (fun v3 hw => ?_) (fun j19 hj19 hw => ?_)
  · refine go_iconst C 1 dX12_count_19 kc_i1 ?_
    refine go_c0V_i C [iV v3, iV 1] vX12_fails tw8_23 (ci := 12) rfl (m_X12_fails (xl X) C.2.2.2.2.2.2.2.1 N hw.2) ⟨Nat.le_of_ble_eq_true rfl, Nat.le_of_ble_eq_true rfl, Nat.le_of_ble_eq_true rfl, Nat.le_of_ble_eq_true rfl⟩ ⟨rfl, rfl⟩ hw.1 dX12_count_20 rfl (Nat.le_of_ble_eq_true rfl) rfl (fun v4 h5 hw => ?_)
    refine go_if_eq C 28 dX12_count_23 (by decide) hw (fun hw => ?_) (fun hw => ?_)
    · refine go_aload_n C dX12_count_28 0 rfl ?_
      refine go_iconst C 0 dX12_count_29 kc_i0 ?_
      refine go_putZ C (cfX12) (k := 16) (Nat.le_of_ble_eq_true rfl) tw7_99 rfl (Or.inl rfl) rfl dX12_count_30 ⟨⟨rfl, rfl⟩, hw⟩ (fun h6 hw => ?_)
      refine go_aload_n C dX12_count_33 0 rfl ?_
      refine go_getA C (cfX12) (k := 8) (Nat.le_of_ble_eq_true rfl) tw7_91 rfl dX12_count_34 hw (fun a7 hw => ?_)
      refine go_iload_n C dX12_count_37 1 rfl ?_
      refine go_aload_n C dX12_count_38 0 rfl ?_
      refine go_iload_n C dX12_count_39 1 rfl ?_
      refine go_pV_i C [iV p1] vX12_there tw8_67 (ci := 12) rfl (m_X12_there (xl X) C.2.2.2.2.2.2.2.1 N hw.2) ⟨Nat.le_of_ble_eq_true rfl, Nat.le_of_ble_eq_true rfl, Nat.le_of_ble_eq_true rfl, Nat.le_of_ble_eq_true rfl⟩ ⟨rfl, rfl⟩ hw.1 dX12_count_40 rfl (Nat.le_of_ble_eq_true rfl) rfl (fun v8 hw => ?_)
      refine go_iastore C dX12_count_43 hw (fun h9 hw => ?_)
      refine go_aload_n C dX12_count_44 0 rfl ?_
      refine go_getA C (cfX12) (k := 9) (Nat.le_of_ble_eq_true rfl) tw7_92 rfl dX12_count_45 hw (fun a10 hw => ?_)
      refine go_iload_n C dX12_count_48 1 rfl ?_
      refine go_aload_n C dX12_count_49 0 rfl ?_
      refine go_iload_n C dX12_count_50 1 rfl ?_
      refine go_pV_i C [iV p1] vX12_pagesOf tw8_75 (ci := 12) rfl (m_X12_pagesOf (xl X) C.2.2.2.2.2.2.2.1 N hw.2) ⟨Nat.le_of_ble_eq_true rfl, Nat.le_of_ble_eq_true rfl, Nat.le_of_ble_eq_true rfl, Nat.le_of_ble_eq_true rfl⟩ ⟨rfl, rfl⟩ hw.1 dX12_count_51 rfl (Nat.le_of_ble_eq_true rfl) rfl (fun v11 hw => ?_)
      refine go_iastore C dX12_count_54 hw (fun h12 hw => ?_)
      refine go_iconst C 0 dX12_count_55 kc_i0 ?_
      refine go_istore_n C [(2, iV 0), (0, rV (some a0)), (1, iV p1)] dX12_count_56 (Nat.le_of_ble_eq_true rfl) rfl ?_
      refine go_sub [1, 2, 0] rfl ?_
      refine fx2_elim (P := fun x14 h13 => Go G X rmX12_count 3 0 0 (QN G X (QI G K) rmX12_count) h13 57 [(0, rV (some a0)), (1, iV p1), (2, iV x14)] []) (fun w57 hj57 x14 h13 hw => ?_) N _ _ hw
      refine go_iload_n C dX12_count_57 2 rfl ?_
      refine go_aload_n C dX12_count_58 0 rfl ?_
      refine go_getA C (cfX12) (k := 2) (Nat.le_of_ble_eq_true rfl) tw7_85 rfl dX12_count_59 hw (fun a15 hw => ?_)
      refine go_iload_n C dX12_count_62 1 rfl ?_
      refine go_iaload C dX12_count_63 hw (fun v16 hw => ?_)
      refine go_icmp_ge C 79 dX12_count_64 (by decide) hw (fun hw => ?_) (fun hw => ?_)
      · refine go_aload_n C dX12_count_79 0 rfl ?_
        refine go_getA C (cfX12) (k := 8) (Nat.le_of_ble_eq_true rfl) tw7_91 rfl dX12_count_80 hw (fun a17 hw => ?_)
        refine go_iload_n C dX12_count_83 1 rfl ?_
        refine go_iaload C dX12_count_84 hw (fun v18 hw => ?_)
        exact go_iret C dX12_count_85 hw (Nat.le_of_ble_eq_true rfl) (Nat.le_of_ble_eq_true rfl)
      refine go_aload_n C dX12_count_67 0 rfl ?_
      refine go_iload_n C dX12_count_68 1 rfl ?_
      refine go_iload_n C dX12_count_69 2 rfl ?_
      refine go_c0V_v C [iV p1, iV x14] vX12_countsColumn tw8_79 (ci := 12) rfl (m_X12_countsColumn (xl X) C.2.2.2.2.2.2.2.1 N hw.2) ⟨Nat.le_of_ble_eq_true rfl, Nat.le_of_ble_eq_true rfl, Nat.le_of_ble_eq_true rfl, Nat.le_of_ble_eq_true rfl⟩ ⟨rfl, rfl⟩ hw.1 dX12_count_70 rfl (Nat.le_of_ble_eq_true rfl) rfl (fun h19 hw => ?_)
      refine go_iinc C (x14 + 1) [(2, iV (x14 + 1)), (0, rV (some a0)), (1, iV p1)] dX12_count_73 2 rfl (by rw [kc_i1]) (Nat.le_of_ble_eq_true rfl) rfl ?_
      refine go_goto C 57 dX12_count_76 (by decide) ?_
      refine go_sub [1, 2, 0] rfl ?_
      exact hj57 (x14 + 1) h19 hw
    refine go_iconst C (-1) dX12_count_26 kc_im1 ?_
    exact go_iret C dX12_count_27 hw (Nat.le_of_ble_eq_true rfl) (Nat.le_of_ble_eq_true rfl)
  refine go_if_ne C 18 dX12_count_11 (by decide) hw (fun hw => ?_) (fun hw => ?_)
  · refine go_iconst C 0 dX12_count_18 kc_i0 ?_
    exact hj19 0 hw
  refine go_iconst C 1 dX12_count_14 kc_i1 ?_
  refine go_goto C 19 dX12_count_15 (by decide) ?_
  exact hj19 1 hw
/-- DuelSchemaModel.index(II)I -/
def w_X12_index (N : Nat) (a0 : Nat) (p1 : Int32) (p2 : Int32) (h0 : Hp) (K : Int32 → Hp → Prop) : Prop :=
  pF h0 a0 12 0 (iV 0) fun h1 =>
  cv h1 a0 12 <| w_X12_isTable N a0 p1 h1 fun v2 =>
  jn (fun (v3 : Int32) => 
    cv h1 a0 12 <| w_X12_fails N a0 v3 1 h1 fun v4 h5 =>
    br (v4 = 0) (
      cv h5 a0 12 <| w_X12_isColumn N a0 p1 p2 h5 fun v6 =>
      jn (fun (v7 : Int32) => 
        cv h5 a0 12 <| w_X12_fails N a0 v7 2 h5 fun v8 h9 =>
        br (v8 = 0) (
          gI h9 a0 12 13 fun v10 =>
          jn (fun (v11 : Int32) => 
            cv h9 a0 12 <| w_X12_fails N a0 v11 3 h9 fun v12 h13 =>
            br (v12 = 0) (
              pF h13 a0 12 16 (iV 0) fun h14 =>
              gA h14 a0 12 14 fun a15 =>
              gI h14 a0 12 13 fun v16 =>
              sI h14 a15 0 v16 p1 fun h17 =>
              gA h17 a0 12 15 fun a18 =>
              gI h17 a0 12 13 fun v19 =>
              sI h17 a18 0 v19 p2 fun h20 =>
              gI h20 a0 12 13 fun v21 =>
              pF h20 a0 12 13 (iV (v21 + 1)) fun h22 =>
              gI h22 a0 12 13 fun v23 =>
              K (v23 - 1) h22) (
              K (-1) h13)) (fun j63 =>
          br (v10 = 6) (
            j63 1) (
            j63 0))) (
          K (-1) h9)) (fun j41 =>
      br (v6 = 0) (
        j41 1) (
        j41 0))) (
      K (-1) h5)) (fun j19 =>
  br (v2 = 0) (
    j19 1) (
    j19 0))
abbrev rmX12_index : Room := { frames := 5, cells := 0, slots := 0, locals := 125 }
theorem vX12_index : VI RX12 yX12_index cX12_index 3 (some .int) 2 := ⟨tw8_84, tw8_85, tw1_8, tw8_86, by decide +kernel⟩
set_option maxHeartbeats 4000000 in
theorem m_X12_index {G : Gp} (l : Launch) (hfl : l.stackTraces = false) (N : Nat) {a0 : Nat} {p1 : Int32} {p2 : Int32} {h0 : Hp} {K : Int32 → Hp → Prop} (hw : w_X12_index N a0 p1 p2 h0 K) : MT G l yX12_index cX12_index 3 (some .int) rmX12_index [rV (some a0), iV p1, iV p2] h0 (QI G K) := by
  refine go_metT l hfl _ 3 _ _ rfl (by decide +kernel) (Nat.le_of_ble_eq_true rfl) [(0, rV (some a0)), (1, iV p1), (2, iV p2)] rfl (fun X hX C hn => ?_)
  subst hX
  unfold w_X12_index at hw
  refine go_aload_n C dX12_index_0 0 rfl ?_
  refine go_iconst C 0 dX12_index_1 kc_i0 ?_
  refine go_putI C (cfX12) (k := 0) (Nat.le_of_ble_eq_true rfl) tw7_83 rfl (Or.inl rfl) rfl dX12_index_2 hw (fun h1 hw => ?_)
  refine go_aload_n C dX12_index_5 0 rfl ?_
  refine go_aload_n C dX12_index_6 0 rfl ?_
  refine go_iload_n C dX12_index_7 1 rfl ?_
  refine go_pV_i C [iV p1] vX12_isTable tw8_31 (ci := 12) rfl (m_X12_isTable (xl X) C.2.2.2.2.2.2.2.1 N hw.2) ⟨Nat.le_of_ble_eq_true rfl, Nat.le_of_ble_eq_true rfl, Nat.le_of_ble_eq_true rfl, Nat.le_of_ble_eq_true rfl⟩ ⟨rfl, rfl⟩ hw.1 dX12_index_8 rfl (Nat.le_of_ble_eq_true rfl) rfl (fun v2 hw => ?_)
  refine jn_elim (P := fun j => ∀ (v3 : Int32), j v3 → Go G X rmX12_index 3 0 0 (QN G X (QI G K) rmX12_index) h1 19 [(0, rV (some a0)), (1, iV p1), (2, iV p2)] [iV v3, rV (some a0)]) hw (fun v3 hw => ?_) (fun j19 hj19 hw => ?_)
  · refine go_iconst C 1 dX12_index_19 kc_i1 ?_
    refine go_c0V_i C [iV v3, iV 1] vX12_fails tw8_23 (ci := 12) rfl (m_X12_fails (xl X) C.2.2.2.2.2.2.2.1 N hw.2) ⟨Nat.le_of_ble_eq_true rfl, Nat.le_of_ble_eq_true rfl, Nat.le_of_ble_eq_true rfl, Nat.le_of_ble_eq_true rfl⟩ ⟨rfl, rfl⟩ hw.1 dX12_index_20 rfl (Nat.le_of_ble_eq_true rfl) rfl (fun v4 h5 hw => ?_)
    refine go_if_ne C 70 dX12_index_23 (by decide) hw (fun hw => ?_) (fun hw => ?_)
    · refine go_iconst C (-1) dX12_index_70 kc_im1 ?_
      exact go_iret C dX12_index_71 hw (Nat.le_of_ble_eq_true rfl) (Nat.le_of_ble_eq_true rfl)
    refine go_aload_n C dX12_index_26 0 rfl ?_
    refine go_aload_n C dX12_index_27 0 rfl ?_
    refine go_iload_n C dX12_index_28 1 rfl ?_
    refine go_iload_n C dX12_index_29 2 rfl ?_
    refine go_pV_i C [iV p1, iV p2] vX12_isColumn tw8_35 (ci := 12) rfl (m_X12_isColumn (xl X) C.2.2.2.2.2.2.2.1 N hw.2) ⟨Nat.le_of_ble_eq_true rfl, Nat.le_of_ble_eq_true rfl, Nat.le_of_ble_eq_true rfl, Nat.le_of_ble_eq_true rfl⟩ ⟨rfl, rfl⟩ hw.1 dX12_index_30 rfl (Nat.le_of_ble_eq_true rfl) rfl (fun v6 hw => ?_)
    refine jn_elim (P := fun j => ∀ (v7 : Int32), j v7 → Go G X rmX12_index 3 0 0 (QN G X (QI G K) rmX12_index) h5 41 [(0, rV (some a0)), (1, iV p1), (2, iV p2)] [iV v7, rV (some a0)]) hw (fun v7 hw => ?_) (fun j41 hj41 hw => ?_)
    · refine go_iconst C 2 dX12_index_41 kc_i2 ?_
      refine go_c0V_i C [iV v7, iV 2] vX12_fails tw8_23 (ci := 12) rfl (m_X12_fails (xl X) C.2.2.2.2.2.2.2.1 N hw.2) ⟨Nat.le_of_ble_eq_true rfl, Nat.le_of_ble_eq_true rfl, Nat.le_of_ble_eq_true rfl, Nat.le_of_ble_eq_true rfl⟩ ⟨rfl, rfl⟩ hw.1 dX12_index_42 rfl (Nat.le_of_ble_eq_true rfl) rfl (fun v8 h9 hw => ?_)
      refine go_if_ne C 70 dX12_index_45 (by decide) hw (fun hw => ?_) (fun hw => ?_)
      · refine go_iconst C (-1) dX12_index_70 kc_im1 ?_
        exact go_iret C dX12_index_71 hw (Nat.le_of_ble_eq_true rfl) (Nat.le_of_ble_eq_true rfl)
      refine go_aload_n C dX12_index_48 0 rfl ?_
      refine go_aload_n C dX12_index_49 0 rfl ?_
      refine go_getI C (cfX12) (k := 13) (Nat.le_of_ble_eq_true rfl) tw7_96 rfl dX12_index_50 hw (fun v10 hw => ?_)
      refine go_bipush C 6 dX12_index_53 kc_b6 ?_
      refine jn_elim (P := fun j => ∀ (v11 : Int32), j v11 → Go G X rmX12_index 3 0 0 (QN G X (QI G K) rmX12_index) h9 63 [(0, rV (some a0)), (1, iV p1), (2, iV p2)] [iV v11, rV (some a0)]) hw (fun v11 hw => ?_) (fun j63 hj63 hw => ?_)
      · refine go_iconst C 3 dX12_index_63 kc_i3 ?_
        refine go_c0V_i C [iV v11, iV 3] vX12_fails tw8_23 (ci := 12) rfl (m_X12_fails (xl X) C.2.2.2.2.2.2.2.1 N hw.2) ⟨Nat.le_of_ble_eq_true rfl, Nat.le_of_ble_eq_true rfl, Nat.le_of_ble_eq_true rfl, Nat.le_of_ble_eq_true rfl⟩ ⟨rfl, rfl⟩ hw.1 dX12_index_64 rfl (Nat.le_of_ble_eq_true rfl) rfl (fun v12 h13 hw => ?_)
        refine go_if_eq C 72 dX12_index_67 (by decide) hw (fun hw => ?_) (fun hw => ?_)
        · refine go_aload_n C dX12_index_72 0 rfl ?_
          refine go_iconst C 0 dX12_index_73 kc_i0 ?_
          refine go_putZ C (cfX12) (k := 16) (Nat.le_of_ble_eq_true rfl) tw7_99 rfl (Or.inl rfl) rfl dX12_index_74 ⟨⟨rfl, rfl⟩, hw⟩ (fun h14 hw => ?_)
          refine go_aload_n C dX12_index_77 0 rfl ?_
          refine go_getA C (cfX12) (k := 14) (Nat.le_of_ble_eq_true rfl) tw7_97 rfl dX12_index_78 hw (fun a15 hw => ?_)
          refine go_aload_n C dX12_index_81 0 rfl ?_
          refine go_getI C (cfX12) (k := 13) (Nat.le_of_ble_eq_true rfl) tw7_96 rfl dX12_index_82 hw (fun v16 hw => ?_)
          refine go_iload_n C dX12_index_85 1 rfl ?_
          refine go_iastore C dX12_index_86 hw (fun h17 hw => ?_)
          refine go_aload_n C dX12_index_87 0 rfl ?_
          refine go_getA C (cfX12) (k := 15) (Nat.le_of_ble_eq_true rfl) tw7_98 rfl dX12_index_88 hw (fun a18 hw => ?_)
          refine go_aload_n C dX12_index_91 0 rfl ?_
          refine go_getI C (cfX12) (k := 13) (Nat.le_of_ble_eq_true rfl) tw7_96 rfl dX12_index_92 hw (fun v19 hw => ?_)
          refine go_iload_n C dX12_index_95 2 rfl ?_
          refine go_iastore C dX12_index_96 hw (fun h20 hw => ?_)
          refine go_aload_n C dX12_index_97 0 rfl ?_
          refine go_dup C _ dX12_index_98 rfl ?_
          refine go_getI C (cfX12) (k := 13) (Nat.le_of_ble_eq_true rfl) tw7_96 rfl dX12_index_99 hw (fun v21 hw => ?_)
          refine go_iconst C 1 dX12_index_102 kc_i1 ?_
          refine go_iadd C dX12_index_103 ?_
          refine go_putI C (cfX12) (k := 13) (Nat.le_of_ble_eq_true rfl) tw7_96 rfl (Or.inl rfl) rfl dX12_index_104 hw (fun h22 hw => ?_)
          refine go_aload_n C dX12_index_107 0 rfl ?_
          refine go_getI C (cfX12) (k := 13) (Nat.le_of_ble_eq_true rfl) tw7_96 rfl dX12_index_108 hw (fun v23 hw => ?_)
          refine go_iconst C 1 dX12_index_111 kc_i1 ?_
          refine go_isub C dX12_index_112 ?_
          exact go_iret C dX12_index_113 hw (Nat.le_of_ble_eq_true rfl) (Nat.le_of_ble_eq_true rfl)
        refine go_iconst C (-1) dX12_index_70 kc_im1 ?_
        exact go_iret C dX12_index_71 hw (Nat.le_of_ble_eq_true rfl) (Nat.le_of_ble_eq_true rfl)
      refine go_icmp_ne C 62 dX12_index_55 (by decide) hw (fun hw => ?_) (fun hw => ?_)
      · refine go_iconst C 0 dX12_index_62 kc_i0 ?_
        exact hj63 0 hw
      refine go_iconst C 1 dX12_index_58 kc_i1 ?_
      refine go_goto C 63 dX12_index_59 (by decide) ?_
      exact hj63 1 hw
    refine go_if_ne C 40 dX12_index_33 (by decide) hw (fun hw => ?_) (fun hw => ?_)
    · refine go_iconst C 0 dX12_index_40 kc_i0 ?_
      exact hj41 0 hw
    refine go_iconst C 1 dX12_index_36 kc_i1 ?_
    refine go_goto C 41 dX12_index_37 (by decide) ?_
    exact hj41 1 hw
  refine go_if_ne C 18 dX12_index_11 (by decide) hw (fun hw => ?_) (fun hw => ?_)
  · refine go_iconst C 0 dX12_index_18 kc_i0 ?_
    exact hj19 0 hw
  refine go_iconst C 1 dX12_index_14 kc_i1 ?_
  refine go_goto C 19 dX12_index_15 (by decide) ?_
  exact hj19 1 hw
/-- DuelSchemaModel.pages(I)I -/
def w_X12_pages (N : Nat) (a0 : Nat) (p1 : Int32) (h0 : Hp) (K : Int32 → Hp → Prop) : Prop :=
  pF h0 a0 12 0 (iV 0) fun h1 =>
  cv h1 a0 12 <| w_X12_isTable N a0 p1 h1 fun v2 =>
  jn (fun (v3 : Int32) => 
    cv h1 a0 12 <| w_X12_fails N a0 v3 1 h1 fun v4 h5 =>
    br (v4 = 0) (
      cv h5 a0 12 <| w_X12_pagesOf N a0 p1 h5 fun v6 =>
      K v6 h5) (
      K (-1) h5)) (fun j19 =>
  br (v2 = 0) (
    j19 1) (
    j19 0))
abbrev rmX12_pages : Room := { frames := 4, cells := 0, slots := 0, locals := 103 }
theorem vX12_pages : VI RX12 yX12_pages cX12_pages 2 (some .int) 1 := ⟨tw8_88, tw8_89, tw1_8, tw8_90, by decide +kernel⟩
set_option maxHeartbeats 4000000 in
theorem m_X12_pages {G : Gp} (l : Launch) (hfl : l.stackTraces = false) (N : Nat) {a0 : Nat} {p1 : Int32} {h0 : Hp} {K : Int32 → Hp → Prop} (hw : w_X12_pages N a0 p1 h0 K) : MT G l yX12_pages cX12_pages 2 (some .int) rmX12_pages [rV (some a0), iV p1] h0 (QI G K) := by
  refine go_metT l hfl _ 2 _ _ rfl (by decide +kernel) (Nat.le_of_ble_eq_true rfl) [(0, rV (some a0)), (1, iV p1)] rfl (fun X hX C hn => ?_)
  subst hX
  unfold w_X12_pages at hw
  refine go_aload_n C dX12_pages_0 0 rfl ?_
  refine go_iconst C 0 dX12_pages_1 kc_i0 ?_
  refine go_putI C (cfX12) (k := 0) (Nat.le_of_ble_eq_true rfl) tw7_83 rfl (Or.inl rfl) rfl dX12_pages_2 hw (fun h1 hw => ?_)
  refine go_aload_n C dX12_pages_5 0 rfl ?_
  refine go_aload_n C dX12_pages_6 0 rfl ?_
  refine go_iload_n C dX12_pages_7 1 rfl ?_
  refine go_pV_i C [iV p1] vX12_isTable tw8_31 (ci := 12) rfl (m_X12_isTable (xl X) C.2.2.2.2.2.2.2.1 N hw.2) ⟨Nat.le_of_ble_eq_true rfl, Nat.le_of_ble_eq_true rfl, Nat.le_of_ble_eq_true rfl, Nat.le_of_ble_eq_true rfl⟩ ⟨rfl, rfl⟩ hw.1 dX12_pages_8 rfl (Nat.le_of_ble_eq_true rfl) rfl (fun v2 hw => ?_)
  refine jn_elim (P := fun j => ∀ (v3 : Int32), j v3 → Go G X rmX12_pages 2 0 0 (QN G X (QI G K) rmX12_pages) h1 19 [(0, rV (some a0)), (1, iV p1)] [iV v3, rV (some a0)]) hw (fun v3 hw => ?_) (fun j19 hj19 hw => ?_)
  · refine go_iconst C 1 dX12_pages_19 kc_i1 ?_
    refine go_c0V_i C [iV v3, iV 1] vX12_fails tw8_23 (ci := 12) rfl (m_X12_fails (xl X) C.2.2.2.2.2.2.2.1 N hw.2) ⟨Nat.le_of_ble_eq_true rfl, Nat.le_of_ble_eq_true rfl, Nat.le_of_ble_eq_true rfl, Nat.le_of_ble_eq_true rfl⟩ ⟨rfl, rfl⟩ hw.1 dX12_pages_20 rfl (Nat.le_of_ble_eq_true rfl) rfl (fun v4 h5 hw => ?_)
    refine go_if_eq C 30 dX12_pages_23 (by decide) hw (fun hw => ?_) (fun hw => ?_)
    · refine go_aload_n C dX12_pages_30 0 rfl ?_
      refine go_iload_n C dX12_pages_31 1 rfl ?_
      refine go_pV_i C [iV p1] vX12_pagesOf tw8_75 (ci := 12) rfl (m_X12_pagesOf (xl X) C.2.2.2.2.2.2.2.1 N hw.2) ⟨Nat.le_of_ble_eq_true rfl, Nat.le_of_ble_eq_true rfl, Nat.le_of_ble_eq_true rfl, Nat.le_of_ble_eq_true rfl⟩ ⟨rfl, rfl⟩ hw.1 dX12_pages_32 rfl (Nat.le_of_ble_eq_true rfl) rfl (fun v6 hw => ?_)
      exact go_iret C dX12_pages_35 hw (Nat.le_of_ble_eq_true rfl) (Nat.le_of_ble_eq_true rfl)
    refine go_iconst C (-1) dX12_pages_26 kc_im1 ?_
    refine go_goto C 35 dX12_pages_27 (by decide) ?_
    exact go_iret C dX12_pages_35 hw (Nat.le_of_ble_eq_true rfl) (Nat.le_of_ble_eq_true rfl)
  refine go_if_ne C 18 dX12_pages_11 (by decide) hw (fun hw => ?_) (fun hw => ?_)
  · refine go_iconst C 0 dX12_pages_18 kc_i0 ?_
    exact hj19 0 hw
  refine go_iconst C 1 dX12_pages_14 kc_i1 ?_
  refine go_goto C 19 dX12_pages_15 (by decide) ?_
  exact hj19 1 hw
/-- DuelSchemaModel.value(III)I -/
def w_X12_value (N : Nat) (a0 : Nat) (p1 : Int32) (p2 : Int32) (p3 : Int32) (h0 : Hp) (K : Int32 → Hp → Prop) : Prop :=
  pF h0 a0 12 0 (iV 0) fun h1 =>
  cv h1 a0 12 <| w_X12_isTable N a0 p1 h1 fun v2 =>
  jn (fun (v3 : Int32) => 
    cv h1 a0 12 <| w_X12_fails N a0 v3 1 h1 fun v4 h5 =>
    br (v4 = 0) (
      cv h5 a0 12 <| w_X12_isColumn N a0 p1 p3 h5 fun v6 =>
      jn (fun (v7 : Int32) => 
        cv h5 a0 12 <| w_X12_fails N a0 v7 2 h5 fun v8 h9 =>
        br (v8 = 0) (
          cv h9 a0 12 <| w_X12_hasRow N a0 p1 p2 h9 fun v10 =>
          jn (fun (v11 : Int32) => 
            cv h9 a0 12 <| w_X12_fails N a0 v11 3 h9 fun v12 h13 =>
            br (v12 = 0) (
              cv h13 a0 12 <| w_X12_at N a0 p1 p2 p3 h13 fun v14 =>
              K v14 h13) (
              K (-1) h13)) (fun j63 =>
          br (v10 = 0) (
            j63 1) (
            j63 0))) (
          K (-1) h9)) (fun j41 =>
      br (v6 = 0) (
        j41 1) (
        j41 0))) (
      K (-1) h5)) (fun j19 =>
  br (v2 = 0) (
    j19 1) (
    j19 0))
abbrev rmX12_value : Room := { frames := 5, cells := 0, slots := 0, locals := 125 }
theorem vX12_value : VI RX12 yX12_value cX12_value 4 (some .int) 3 := ⟨tw8_92, tw8_93, tw1_8, tw8_94, by decide +kernel⟩
set_option maxHeartbeats 4000000 in
theorem m_X12_value {G : Gp} (l : Launch) (hfl : l.stackTraces = false) (N : Nat) {a0 : Nat} {p1 : Int32} {p2 : Int32} {p3 : Int32} {h0 : Hp} {K : Int32 → Hp → Prop} (hw : w_X12_value N a0 p1 p2 p3 h0 K) : MT G l yX12_value cX12_value 4 (some .int) rmX12_value [rV (some a0), iV p1, iV p2, iV p3] h0 (QI G K) := by
  refine go_metT l hfl _ 4 _ _ rfl (by decide +kernel) (Nat.le_of_ble_eq_true rfl) [(0, rV (some a0)), (1, iV p1), (2, iV p2), (3, iV p3)] rfl (fun X hX C hn => ?_)
  subst hX
  unfold w_X12_value at hw
  refine go_aload_n C dX12_value_0 0 rfl ?_
  refine go_iconst C 0 dX12_value_1 kc_i0 ?_
  refine go_putI C (cfX12) (k := 0) (Nat.le_of_ble_eq_true rfl) tw7_83 rfl (Or.inl rfl) rfl dX12_value_2 hw (fun h1 hw => ?_)
  refine go_aload_n C dX12_value_5 0 rfl ?_
  refine go_aload_n C dX12_value_6 0 rfl ?_
  refine go_iload_n C dX12_value_7 1 rfl ?_
  refine go_pV_i C [iV p1] vX12_isTable tw8_31 (ci := 12) rfl (m_X12_isTable (xl X) C.2.2.2.2.2.2.2.1 N hw.2) ⟨Nat.le_of_ble_eq_true rfl, Nat.le_of_ble_eq_true rfl, Nat.le_of_ble_eq_true rfl, Nat.le_of_ble_eq_true rfl⟩ ⟨rfl, rfl⟩ hw.1 dX12_value_8 rfl (Nat.le_of_ble_eq_true rfl) rfl (fun v2 hw => ?_)
  refine jn_elim (P := fun j => ∀ (v3 : Int32), j v3 → Go G X rmX12_value 4 0 0 (QN G X (QI G K) rmX12_value) h1 19 [(0, rV (some a0)), (1, iV p1), (2, iV p2), (3, iV p3)] [iV v3, rV (some a0)]) hw (fun v3 hw => ?_) (fun j19 hj19 hw => ?_)
  · refine go_iconst C 1 dX12_value_19 kc_i1 ?_
    refine go_c0V_i C [iV v3, iV 1] vX12_fails tw8_23 (ci := 12) rfl (m_X12_fails (xl X) C.2.2.2.2.2.2.2.1 N hw.2) ⟨Nat.le_of_ble_eq_true rfl, Nat.le_of_ble_eq_true rfl, Nat.le_of_ble_eq_true rfl, Nat.le_of_ble_eq_true rfl⟩ ⟨rfl, rfl⟩ hw.1 dX12_value_20 rfl (Nat.le_of_ble_eq_true rfl) rfl (fun v4 h5 hw => ?_)
    refine go_if_ne C 70 dX12_value_23 (by decide) hw (fun hw => ?_) (fun hw => ?_)
    · refine go_iconst C (-1) dX12_value_70 kc_im1 ?_
      exact go_iret C dX12_value_71 hw (Nat.le_of_ble_eq_true rfl) (Nat.le_of_ble_eq_true rfl)
    refine go_aload_n C dX12_value_26 0 rfl ?_
    refine go_aload_n C dX12_value_27 0 rfl ?_
    refine go_iload_n C dX12_value_28 1 rfl ?_
    refine go_iload_n C dX12_value_29 3 rfl ?_
    refine go_pV_i C [iV p1, iV p3] vX12_isColumn tw8_35 (ci := 12) rfl (m_X12_isColumn (xl X) C.2.2.2.2.2.2.2.1 N hw.2) ⟨Nat.le_of_ble_eq_true rfl, Nat.le_of_ble_eq_true rfl, Nat.le_of_ble_eq_true rfl, Nat.le_of_ble_eq_true rfl⟩ ⟨rfl, rfl⟩ hw.1 dX12_value_30 rfl (Nat.le_of_ble_eq_true rfl) rfl (fun v6 hw => ?_)
    refine jn_elim (P := fun j => ∀ (v7 : Int32), j v7 → Go G X rmX12_value 4 0 0 (QN G X (QI G K) rmX12_value) h5 41 [(0, rV (some a0)), (1, iV p1), (2, iV p2), (3, iV p3)] [iV v7, rV (some a0)]) hw (fun v7 hw => ?_) (fun j41 hj41 hw => ?_)
    · refine go_iconst C 2 dX12_value_41 kc_i2 ?_
      refine go_c0V_i C [iV v7, iV 2] vX12_fails tw8_23 (ci := 12) rfl (m_X12_fails (xl X) C.2.2.2.2.2.2.2.1 N hw.2) ⟨Nat.le_of_ble_eq_true rfl, Nat.le_of_ble_eq_true rfl, Nat.le_of_ble_eq_true rfl, Nat.le_of_ble_eq_true rfl⟩ ⟨rfl, rfl⟩ hw.1 dX12_value_42 rfl (Nat.le_of_ble_eq_true rfl) rfl (fun v8 h9 hw => ?_)
      refine go_if_ne C 70 dX12_value_45 (by decide) hw (fun hw => ?_) (fun hw => ?_)
      · refine go_iconst C (-1) dX12_value_70 kc_im1 ?_
        exact go_iret C dX12_value_71 hw (Nat.le_of_ble_eq_true rfl) (Nat.le_of_ble_eq_true rfl)
      refine go_aload_n C dX12_value_48 0 rfl ?_
      refine go_aload_n C dX12_value_49 0 rfl ?_
      refine go_iload_n C dX12_value_50 1 rfl ?_
      refine go_iload_n C dX12_value_51 2 rfl ?_
      refine go_pV_i C [iV p1, iV p2] vX12_hasRow tw8_39 (ci := 12) rfl (m_X12_hasRow (xl X) C.2.2.2.2.2.2.2.1 N hw.2) ⟨Nat.le_of_ble_eq_true rfl, Nat.le_of_ble_eq_true rfl, Nat.le_of_ble_eq_true rfl, Nat.le_of_ble_eq_true rfl⟩ ⟨rfl, rfl⟩ hw.1 dX12_value_52 rfl (Nat.le_of_ble_eq_true rfl) rfl (fun v10 hw => ?_)
      refine jn_elim (P := fun j => ∀ (v11 : Int32), j v11 → Go G X rmX12_value 4 0 0 (QN G X (QI G K) rmX12_value) h9 63 [(0, rV (some a0)), (1, iV p1), (2, iV p2), (3, iV p3)] [iV v11, rV (some a0)]) hw (fun v11 hw => ?_) (fun j63 hj63 hw => ?_)
      · refine go_iconst C 3 dX12_value_63 kc_i3 ?_
        refine go_c0V_i C [iV v11, iV 3] vX12_fails tw8_23 (ci := 12) rfl (m_X12_fails (xl X) C.2.2.2.2.2.2.2.1 N hw.2) ⟨Nat.le_of_ble_eq_true rfl, Nat.le_of_ble_eq_true rfl, Nat.le_of_ble_eq_true rfl, Nat.le_of_ble_eq_true rfl⟩ ⟨rfl, rfl⟩ hw.1 dX12_value_64 rfl (Nat.le_of_ble_eq_true rfl) rfl (fun v12 h13 hw => ?_)
        refine go_if_eq C 72 dX12_value_67 (by decide) hw (fun hw => ?_) (fun hw => ?_)
        · refine go_aload_n C dX12_value_72 0 rfl ?_
          refine go_iload_n C dX12_value_73 1 rfl ?_
          refine go_iload_n C dX12_value_74 2 rfl ?_
          refine go_iload_n C dX12_value_75 3 rfl ?_
          refine go_pV_i C [iV p1, iV p2, iV p3] vX12_at tw8_43 (ci := 12) rfl (m_X12_at (xl X) C.2.2.2.2.2.2.2.1 N hw.2) ⟨Nat.le_of_ble_eq_true rfl, Nat.le_of_ble_eq_true rfl, Nat.le_of_ble_eq_true rfl, Nat.le_of_ble_eq_true rfl⟩ ⟨rfl, rfl⟩ hw.1 dX12_value_76 rfl (Nat.le_of_ble_eq_true rfl) rfl (fun v14 hw => ?_)
          exact go_iret C dX12_value_79 hw (Nat.le_of_ble_eq_true rfl) (Nat.le_of_ble_eq_true rfl)
        refine go_iconst C (-1) dX12_value_70 kc_im1 ?_
        exact go_iret C dX12_value_71 hw (Nat.le_of_ble_eq_true rfl) (Nat.le_of_ble_eq_true rfl)
      refine go_if_ne C 62 dX12_value_55 (by decide) hw (fun hw => ?_) (fun hw => ?_)
      · refine go_iconst C 0 dX12_value_62 kc_i0 ?_
        exact hj63 0 hw
      refine go_iconst C 1 dX12_value_58 kc_i1 ?_
      refine go_goto C 63 dX12_value_59 (by decide) ?_
      exact hj63 1 hw
    refine go_if_ne C 40 dX12_value_33 (by decide) hw (fun hw => ?_) (fun hw => ?_)
    · refine go_iconst C 0 dX12_value_40 kc_i0 ?_
      exact hj41 0 hw
    refine go_iconst C 1 dX12_value_36 kc_i1 ?_
    refine go_goto C 41 dX12_value_37 (by decide) ?_
    exact hj41 1 hw
  refine go_if_ne C 18 dX12_value_11 (by decide) hw (fun hw => ?_) (fun hw => ?_)
  · refine go_iconst C 0 dX12_value_18 kc_i0 ?_
    exact hj19 0 hw
  refine go_iconst C 1 dX12_value_14 kc_i1 ?_
  refine go_goto C 19 dX12_value_15 (by decide) ?_
  exact hj19 1 hw
/-- DuelSchemaModel.lists(I)V -/
def w_X12_lists (N : Nat) (a0 : Nat) (p1 : Int32) (h0 : Hp) (K : Hp → Prop) : Prop :=
  gA h0 a0 12 14 fun a1 =>
  aI h0 a1 0 p1 fun v2 =>
  fx3 (fun (w12 : Int32 → Int32 → Hp → Prop) (x4 : Int32) (x5 : Int32) (h3 : Hp) =>
    br (99 < x5) (
      gA h3 a0 12 18 fun a6 =>
      sI h3 a6 0 p1 x4 fun h7 =>
      K h7) (
      fx3 (fun (w22 : Int32 → Int32 → Hp → Prop) (x9 : Int32) (x10 : Int32) (h8 : Hp) =>
        gA h8 a0 12 3 fun a11 =>
        aI h8 a11 0 v2 fun v12 =>
        br (v12 ≤ x10) (
          w12 x9 (x5 + 1) h8) (
          cv h8 a0 12 <| w_X12_hasRow N a0 v2 x10 h8 fun v13 =>
          jn (fun (x15 : Int32) (h14 : Hp) => 
            w22 x15 (x10 + 1) h14) (fun j77 =>
          br (v13 = 0) (
            j77 x9 h8) (
            gA h8 a0 12 15 fun a16 =>
            aI h8 a16 0 p1 fun v17 =>
            cv h8 a0 12 <| w_X12_at N a0 v2 x10 v17 h8 fun v18 =>
            br (v18 = x5) (
              gA h8 a0 12 17 fun a19 =>
              sI h8 a19 0 ((40 * p1) + x9) x10 fun h20 =>
              j77 (x9 + 1) h20) (
              j77 x9 h8))))) N x4 0 h3)) N 0 0 h0
abbrev rmX12_lists : Room := { frames := 4, cells := 0, slots := 0, locals := 104 }
theorem vX12_lists : VI RX12 yX12_lists cX12_lists 6 none 1 := ⟨tw8_109, tp55, tw1_8, tw8_110, by decide +kernel⟩
set_option maxHeartbeats 4000000 in
theorem m_X12_lists {G : Gp} (l : Launch) (hfl : l.stackTraces = false) (N : Nat) {a0 : Nat} {p1 : Int32} {h0 : Hp} {K : Hp → Prop} (hw : w_X12_lists N a0 p1 h0 K) : MT G l yX12_lists cX12_lists 6 none rmX12_lists [rV (some a0), iV p1] h0 (QV G K) := by
  refine go_metT l hfl _ 6 _ _ rfl (by decide +kernel) (Nat.le_of_ble_eq_true rfl) [(0, rV (some a0)), (1, iV p1)] rfl (fun X hX C hn => ?_)
  subst hX
  unfold w_X12_lists at hw
  refine go_aload_n C dX12_lists_0 0 rfl ?_
  refine go_getA C (cfX12) (k := 14) (Nat.le_of_ble_eq_true rfl) tw7_97 rfl dX12_lists_1 hw (fun a1 hw => ?_)
  refine go_iload_n C dX12_lists_4 1 rfl ?_
  refine go_iaload C dX12_lists_5 hw (fun v2 hw => ?_)
  refine go_istore_n C [(2, iV v2), (0, rV (some a0)), (1, iV p1)] dX12_lists_6 (Nat.le_of_ble_eq_true rfl) rfl ?_
  refine go_iconst C 0 dX12_lists_7 kc_i0 ?_
  refine go_istore_n C [(3, iV 0), (2, iV v2), (0, rV (some a0)), (1, iV p1)] dX12_lists_8 (Nat.le_of_ble_eq_true rfl) rfl ?_
  refine go_iconst C 0 dX12_lists_9 kc_i0 ?_
  refine go_istore C [(4, iV 0), (3, iV 0), (2, iV v2), (0, rV (some a0)), (1, iV p1)] dX12_lists_10 (Nat.le_of_ble_eq_true rfl) rfl ?_
  refine go_sub [3, 4, 2, 1, 0] rfl ?_
  refine fx3_elim (P := fun x4 x5 h3 => Go G X rmX12_lists 6 0 0 (QN G X (QV G K) rmX12_lists) h3 12 [(0, rV (some a0)), (1, iV p1), (2, iV v2), (3, iV x4), (4, iV x5)] []) (fun w12 hj12 x4 x5 h3 hw => ?_) N _ _ _ hw
  refine go_iload C dX12_lists_12 4 rfl ?_
  refine go_bipush C 99 dX12_lists_14 kc_b99 ?_
  refine go_icmp_gt C 89 dX12_lists_16 (by decide) hw (fun hw => ?_) (fun hw => ?_)
  · refine go_aload_n C dX12_lists_89 0 rfl ?_
    refine go_getA C (cfX12) (k := 18) (Nat.le_of_ble_eq_true rfl) tw7_101 rfl dX12_lists_90 hw (fun a6 hw => ?_)
    refine go_iload_n C dX12_lists_93 1 rfl ?_
    refine go_iload_n C dX12_lists_94 3 rfl ?_
    refine go_iastore C dX12_lists_95 hw (fun h7 hw => ?_)
    exact go_vret C dX12_lists_96 hw (Nat.le_of_ble_eq_true rfl) (Nat.le_of_ble_eq_true rfl)
  refine go_iconst C 0 dX12_lists_19 kc_i0 ?_
  refine go_istore C [(5, iV 0), (0, rV (some a0)), (1, iV p1), (2, iV v2), (3, iV x4), (4, iV x5)] dX12_lists_20 (Nat.le_of_ble_eq_true rfl) rfl ?_
  refine go_sub [1, 2, 3, 4, 5, 0] rfl ?_
  refine fx3_elim (P := fun x9 x10 h8 => Go G X rmX12_lists 6 0 0 (QN G X (QV G K) rmX12_lists) h8 22 [(0, rV (some a0)), (1, iV p1), (2, iV v2), (3, iV x9), (4, iV x5), (5, iV x10)] []) (fun w22 hj22 x9 x10 h8 hw => ?_) N _ _ _ hw
  refine go_iload C dX12_lists_22 5 rfl ?_
  refine go_aload_n C dX12_lists_24 0 rfl ?_
  refine go_getA C (cfX12) (k := 3) (Nat.le_of_ble_eq_true rfl) tw7_86 rfl dX12_lists_25 hw (fun a11 hw => ?_)
  refine go_iload_n C dX12_lists_28 2 rfl ?_
  refine go_iaload C dX12_lists_29 hw (fun v12 hw => ?_)
  refine go_icmp_ge C 83 dX12_lists_30 (by decide) hw (fun hw => ?_) (fun hw => ?_)
  · refine go_iinc C (x5 + 1) [(4, iV (x5 + 1)), (0, rV (some a0)), (1, iV p1), (2, iV v2), (3, iV x9), (5, iV x10)] dX12_lists_83 4 rfl (by rw [kc_i1]) (Nat.le_of_ble_eq_true rfl) rfl ?_
    refine go_goto C 12 dX12_lists_86 (by decide) ?_
    refine go_sub [1, 2, 3, 4, 0] rfl ?_
    exact hj12 x9 (x5 + 1) h8 hw
  refine go_aload_n C dX12_lists_33 0 rfl ?_
  refine go_iload_n C dX12_lists_34 2 rfl ?_
  refine go_iload C dX12_lists_35 5 rfl ?_
  refine go_pV_i C [iV v2, iV x10] vX12_hasRow tw8_39 (ci := 12) rfl (m_X12_hasRow (xl X) C.2.2.2.2.2.2.2.1 N hw.2) ⟨Nat.le_of_ble_eq_true rfl, Nat.le_of_ble_eq_true rfl, Nat.le_of_ble_eq_true rfl, Nat.le_of_ble_eq_true rfl⟩ ⟨rfl, rfl⟩ hw.1 dX12_lists_37 rfl (Nat.le_of_ble_eq_true rfl) rfl (fun v13 hw => ?_)
  refine jn_elim (P := fun j => ∀ (x15 : Int32) (h14 : Hp), j x15 h14 → Go G X rmX12_lists 6 0 0 (QN G X (QV G K) rmX12_lists) h14 77 [(0, rV (some a0)), (1, iV p1), (2, iV v2), (3, iV x15), (4, iV x5), (5, iV x10)] []) hw (fun x15 h14 hw => ?_) (fun j77 hj77 hw => ?_)
  · refine go_iinc C (x10 + 1) [(5, iV (x10 + 1)), (0, rV (some a0)), (1, iV p1), (2, iV v2), (3, iV x15), (4, iV x5)] dX12_lists_77 5 rfl (by rw [kc_i1]) (Nat.le_of_ble_eq_true rfl) rfl ?_
    refine go_goto C 22 dX12_lists_80 (by decide) ?_
    refine go_sub [1, 2, 3, 4, 5, 0] rfl ?_
    exact hj22 x15 (x10 + 1) h14 hw
  refine go_if_eq C 77 dX12_lists_40 (by decide) hw (fun hw => ?_) (fun hw => ?_)
  · exact hj77 x9 h8 hw
  refine go_aload_n C dX12_lists_43 0 rfl ?_
  refine go_iload_n C dX12_lists_44 2 rfl ?_
  refine go_iload C dX12_lists_45 5 rfl ?_
  refine go_aload_n C dX12_lists_47 0 rfl ?_
  refine go_getA C (cfX12) (k := 15) (Nat.le_of_ble_eq_true rfl) tw7_98 rfl dX12_lists_48 hw (fun a16 hw => ?_)
  refine go_iload_n C dX12_lists_51 1 rfl ?_
  refine go_iaload C dX12_lists_52 hw (fun v17 hw => ?_)
  refine go_pV_i C [iV v2, iV x10, iV v17] vX12_at tw8_43 (ci := 12) rfl (m_X12_at (xl X) C.2.2.2.2.2.2.2.1 N hw.2) ⟨Nat.le_of_ble_eq_true rfl, Nat.le_of_ble_eq_true rfl, Nat.le_of_ble_eq_true rfl, Nat.le_of_ble_eq_true rfl⟩ ⟨rfl, rfl⟩ hw.1 dX12_lists_53 rfl (Nat.le_of_ble_eq_true rfl) rfl (fun v18 hw => ?_)
  refine go_iload C dX12_lists_56 4 rfl ?_
  refine go_icmp_ne C 77 dX12_lists_58 (by decide) hw (fun hw => ?_) (fun hw => ?_)
  · exact hj77 x9 h8 hw
  refine go_aload_n C dX12_lists_61 0 rfl ?_
  refine go_getA C (cfX12) (k := 17) (Nat.le_of_ble_eq_true rfl) tw7_100 rfl dX12_lists_62 hw (fun a19 hw => ?_)
  refine go_bipush C 40 dX12_lists_65 kc_b40 ?_
  refine go_iload_n C dX12_lists_67 1 rfl ?_
  refine go_imul C dX12_lists_68 ?_
  refine go_iload_n C dX12_lists_69 3 rfl ?_
  refine go_iadd C dX12_lists_70 ?_
  refine go_iload C dX12_lists_71 5 rfl ?_
  refine go_iastore C dX12_lists_73 hw (fun h20 hw => ?_)
  refine go_iinc C (x9 + 1) [(3, iV (x9 + 1)), (0, rV (some a0)), (1, iV p1), (2, iV v2), (4, iV x5), (5, iV x10)] dX12_lists_74 3 rfl (by rw [kc_i1]) (Nat.le_of_ble_eq_true rfl) rfl ?_
  refine go_sub [1, 2, 3, 0, 4, 5] rfl ?_
  exact hj77 (x9 + 1) h20 hw
/-- DuelSchemaModel.entries(I)I -/
def w_X12_entries (N : Nat) (a0 : Nat) (p1 : Int32) (h0 : Hp) (K : Int32 → Hp → Prop) : Prop :=
  pF h0 a0 12 0 (iV 0) fun h1 =>
  cv h1 a0 12 <| w_X12_isIndex N a0 p1 h1 fun v2 =>
  jn (fun (v3 : Int32) => 
    cv h1 a0 12 <| w_X12_fails N a0 v3 1 h1 fun v4 h5 =>
    br (v4 = 0) (
      gA h5 a0 12 14 fun a6 =>
      aI h5 a6 0 p1 fun v7 =>
      cv h5 a0 12 <| w_X12_there N a0 v7 h5 fun v8 =>
      K v8 h5) (
      K (-1) h5)) (fun j19 =>
  br (v2 = 0) (
    j19 1) (
    j19 0))
abbrev rmX12_entries : Room := { frames := 5, cells := 0, slots := 0, locals := 127 }
theorem vX12_entries : VI RX12 yX12_entries cX12_entries 2 (some .int) 1 := ⟨tw8_96, tw8_97, tw1_8, tw8_98, by decide +kernel⟩
set_option maxHeartbeats 4000000 in
theorem m_X12_entries {G : Gp} (l : Launch) (hfl : l.stackTraces = false) (N : Nat) {a0 : Nat} {p1 : Int32} {h0 : Hp} {K : Int32 → Hp → Prop} (hw : w_X12_entries N a0 p1 h0 K) : MT G l yX12_entries cX12_entries 2 (some .int) rmX12_entries [rV (some a0), iV p1] h0 (QI G K) := by
  refine go_metT l hfl _ 2 _ _ rfl (by decide +kernel) (Nat.le_of_ble_eq_true rfl) [(0, rV (some a0)), (1, iV p1)] rfl (fun X hX C hn => ?_)
  subst hX
  unfold w_X12_entries at hw
  refine go_aload_n C dX12_entries_0 0 rfl ?_
  refine go_iconst C 0 dX12_entries_1 kc_i0 ?_
  refine go_putI C (cfX12) (k := 0) (Nat.le_of_ble_eq_true rfl) tw7_83 rfl (Or.inl rfl) rfl dX12_entries_2 hw (fun h1 hw => ?_)
  refine go_aload_n C dX12_entries_5 0 rfl ?_
  refine go_aload_n C dX12_entries_6 0 rfl ?_
  refine go_iload_n C dX12_entries_7 1 rfl ?_
  refine go_pV_i C [iV p1] vX12_isIndex tw8_99 (ci := 12) rfl (m_X12_isIndex (xl X) C.2.2.2.2.2.2.2.1 N hw.2) ⟨Nat.le_of_ble_eq_true rfl, Nat.le_of_ble_eq_true rfl, Nat.le_of_ble_eq_true rfl, Nat.le_of_ble_eq_true rfl⟩ ⟨rfl, rfl⟩ hw.1 dX12_entries_8 rfl (Nat.le_of_ble_eq_true rfl) rfl (fun v2 hw => ?_)
  refine jn_elim (P := fun j => ∀ (v3 : Int32), j v3 → Go G X rmX12_entries 2 0 0 (QN G X (QI G K) rmX12_entries) h1 19 [(0, rV (some a0)), (1, iV p1)] [iV v3, rV (some a0)]) hw (fun v3 hw => ?_) (fun j19 hj19 hw => ?_)
  · refine go_iconst C 1 dX12_entries_19 kc_i1 ?_
    refine go_c0V_i C [iV v3, iV 1] vX12_fails tw8_23 (ci := 12) rfl (m_X12_fails (xl X) C.2.2.2.2.2.2.2.1 N hw.2) ⟨Nat.le_of_ble_eq_true rfl, Nat.le_of_ble_eq_true rfl, Nat.le_of_ble_eq_true rfl, Nat.le_of_ble_eq_true rfl⟩ ⟨rfl, rfl⟩ hw.1 dX12_entries_20 rfl (Nat.le_of_ble_eq_true rfl) rfl (fun v4 h5 hw => ?_)
    refine go_if_eq C 30 dX12_entries_23 (by decide) hw (fun hw => ?_) (fun hw => ?_)
    · refine go_aload_n C dX12_entries_30 0 rfl ?_
      refine go_aload_n C dX12_entries_31 0 rfl ?_
      refine go_getA C (cfX12) (k := 14) (Nat.le_of_ble_eq_true rfl) tw7_97 rfl dX12_entries_32 hw (fun a6 hw => ?_)
      refine go_iload_n C dX12_entries_35 1 rfl ?_
      refine go_iaload C dX12_entries_36 hw (fun v7 hw => ?_)
      refine go_pV_i C [iV v7] vX12_there tw8_67 (ci := 12) rfl (m_X12_there (xl X) C.2.2.2.2.2.2.2.1 N hw.2) ⟨Nat.le_of_ble_eq_true rfl, Nat.le_of_ble_eq_true rfl, Nat.le_of_ble_eq_true rfl, Nat.le_of_ble_eq_true rfl⟩ ⟨rfl, rfl⟩ hw.1 dX12_entries_37 rfl (Nat.le_of_ble_eq_true rfl) rfl (fun v8 hw => ?_)
      exact go_iret C dX12_entries_40 hw (Nat.le_of_ble_eq_true rfl) (Nat.le_of_ble_eq_true rfl)
    refine go_iconst C (-1) dX12_entries_26 kc_im1 ?_
    refine go_goto C 40 dX12_entries_27 (by decide) ?_
    exact go_iret C dX12_entries_40 hw (Nat.le_of_ble_eq_true rfl) (Nat.le_of_ble_eq_true rfl)
  refine go_if_ne C 18 dX12_entries_11 (by decide) hw (fun hw => ?_) (fun hw => ?_)
  · refine go_iconst C 0 dX12_entries_18 kc_i0 ?_
    exact hj19 0 hw
  refine go_iconst C 1 dX12_entries_14 kc_i1 ?_
  refine go_goto C 19 dX12_entries_15 (by decide) ?_
  exact hj19 1 hw
/-- DuelSchemaModel.entryAt(II)I -/
def w_X12_entryAt (N : Nat) (a0 : Nat) (p1 : Int32) (p2 : Int32) (h0 : Hp) (K : Int32 → Hp → Prop) : Prop :=
  pF h0 a0 12 0 (iV 0) fun h1 =>
  cv h1 a0 12 <| w_X12_isIndex N a0 p1 h1 fun v2 =>
  jn (fun (v3 : Int32) => 
    cv h1 a0 12 <| w_X12_fails N a0 v3 1 h1 fun v4 h5 =>
    br (v4 = 0) (
      gA h5 a0 12 14 fun a6 =>
      aI h5 a6 0 p1 fun v7 =>
      cv h5 a0 12 <| w_X12_there N a0 v7 h5 fun v8 =>
      w_X12_in N p2 0 (v8 - 1) h5 fun v9 =>
      jn (fun (v10 : Int32) => 
        cv h5 a0 12 <| w_X12_fails N a0 v10 2 h5 fun v11 h12 =>
        br (v11 = 0) (
          cv h12 a0 12 <| w_X12_lists N a0 p1 h12 fun h13 =>
          gA h13 a0 12 17 fun a14 =>
          aI h13 a14 0 ((40 * p1) + p2) fun v15 =>
          K v15 h13) (
          K (-1) h12)) (fun j52 =>
      br (v9 = 0) (
        j52 1) (
        j52 0))) (
      K (-1) h5)) (fun j19 =>
  br (v2 = 0) (
    j19 1) (
    j19 0))
abbrev rmX12_entryAt : Room := { frames := 5, cells := 0, slots := 0, locals := 129 }
theorem vX12_entryAt : VI RX12 yX12_entryAt cX12_entryAt 3 (some .int) 2 := ⟨tw8_104, tw8_105, tw1_8, tw8_106, by decide +kernel⟩
set_option maxHeartbeats 4000000 in
theorem m_X12_entryAt {G : Gp} (l : Launch) (hfl : l.stackTraces = false) (N : Nat) {a0 : Nat} {p1 : Int32} {p2 : Int32} {h0 : Hp} {K : Int32 → Hp → Prop} (hw : w_X12_entryAt N a0 p1 p2 h0 K) : MT G l yX12_entryAt cX12_entryAt 3 (some .int) rmX12_entryAt [rV (some a0), iV p1, iV p2] h0 (QI G K) := by
  refine go_metT l hfl _ 3 _ _ rfl (by decide +kernel) (Nat.le_of_ble_eq_true rfl) [(0, rV (some a0)), (1, iV p1), (2, iV p2)] rfl (fun X hX C hn => ?_)
  subst hX
  unfold w_X12_entryAt at hw
  refine go_aload_n C dX12_entryAt_0 0 rfl ?_
  refine go_iconst C 0 dX12_entryAt_1 kc_i0 ?_
  refine go_putI C (cfX12) (k := 0) (Nat.le_of_ble_eq_true rfl) tw7_83 rfl (Or.inl rfl) rfl dX12_entryAt_2 hw (fun h1 hw => ?_)
  refine go_aload_n C dX12_entryAt_5 0 rfl ?_
  refine go_aload_n C dX12_entryAt_6 0 rfl ?_
  refine go_iload_n C dX12_entryAt_7 1 rfl ?_
  refine go_pV_i C [iV p1] vX12_isIndex tw8_99 (ci := 12) rfl (m_X12_isIndex (xl X) C.2.2.2.2.2.2.2.1 N hw.2) ⟨Nat.le_of_ble_eq_true rfl, Nat.le_of_ble_eq_true rfl, Nat.le_of_ble_eq_true rfl, Nat.le_of_ble_eq_true rfl⟩ ⟨rfl, rfl⟩ hw.1 dX12_entryAt_8 rfl (Nat.le_of_ble_eq_true rfl) rfl (fun v2 hw => ?_)
  refine jn_elim (P := fun j => ∀ (v3 : Int32), j v3 → Go G X rmX12_entryAt 3 0 0 (QN G X (QI G K) rmX12_entryAt) h1 19 [(0, rV (some a0)), (1, iV p1), (2, iV p2)] [iV v3, rV (some a0)]) hw (fun v3 hw => ?_) (fun j19 hj19 hw => ?_)
  · refine go_iconst C 1 dX12_entryAt_19 kc_i1 ?_
    refine go_c0V_i C [iV v3, iV 1] vX12_fails tw8_23 (ci := 12) rfl (m_X12_fails (xl X) C.2.2.2.2.2.2.2.1 N hw.2) ⟨Nat.le_of_ble_eq_true rfl, Nat.le_of_ble_eq_true rfl, Nat.le_of_ble_eq_true rfl, Nat.le_of_ble_eq_true rfl⟩ ⟨rfl, rfl⟩ hw.1 dX12_entryAt_20 rfl (Nat.le_of_ble_eq_true rfl) rfl (fun v4 h5 hw => ?_)
    refine go_if_ne C 59 dX12_entryAt_23 (by decide) hw (fun hw => ?_) (fun hw => ?_)
    · refine go_iconst C (-1) dX12_entryAt_59 kc_im1 ?_
      exact go_iret C dX12_entryAt_60 hw (Nat.le_of_ble_eq_true rfl) (Nat.le_of_ble_eq_true rfl)
    refine go_aload_n C dX12_entryAt_26 0 rfl ?_
    refine go_iload_n C dX12_entryAt_27 2 rfl ?_
    refine go_iconst C 0 dX12_entryAt_28 kc_i0 ?_
    refine go_aload_n C dX12_entryAt_29 0 rfl ?_
    refine go_aload_n C dX12_entryAt_30 0 rfl ?_
    refine go_getA C (cfX12) (k := 14) (Nat.le_of_ble_eq_true rfl) tw7_97 rfl dX12_entryAt_31 hw (fun a6 hw => ?_)
    refine go_iload_n C dX12_entryAt_34 1 rfl ?_
    refine go_iaload C dX12_entryAt_35 hw (fun v7 hw => ?_)
    refine go_pV_i C [iV v7] vX12_there tw8_67 (ci := 12) rfl (m_X12_there (xl X) C.2.2.2.2.2.2.2.1 N hw.2) ⟨Nat.le_of_ble_eq_true rfl, Nat.le_of_ble_eq_true rfl, Nat.le_of_ble_eq_true rfl, Nat.le_of_ble_eq_true rfl⟩ ⟨rfl, rfl⟩ hw.1 dX12_entryAt_36 rfl (Nat.le_of_ble_eq_true rfl) rfl (fun v8 hw => ?_)
    refine go_iconst C 1 dX12_entryAt_39 kc_i1 ?_
    refine go_isub C dX12_entryAt_40 ?_
    refine go_pS_i C [iV p2, iV 0, iV (v8 - 1)] vX12_in tw8_20 (m_X12_in (xl X) C.2.2.2.2.2.2.2.1 N hw) ⟨Nat.le_of_ble_eq_true rfl, Nat.le_of_ble_eq_true rfl, Nat.le_of_ble_eq_true rfl, Nat.le_of_ble_eq_true rfl⟩ ⟨rfl, rfl⟩ dX12_entryAt_41 rfl (Nat.le_of_ble_eq_true rfl) rfl (fun v9 hw => ?_)
    refine jn_elim (P := fun j => ∀ (v10 : Int32), j v10 → Go G X rmX12_entryAt 3 0 0 (QN G X (QI G K) rmX12_entryAt) h5 52 [(0, rV (some a0)), (1, iV p1), (2, iV p2)] [iV v10, rV (some a0)]) hw (fun v10 hw => ?_) (fun j52 hj52 hw => ?_)
    · refine go_iconst C 2 dX12_entryAt_52 kc_i2 ?_
      refine go_c0V_i C [iV v10, iV 2] vX12_fails tw8_23 (ci := 12) rfl (m_X12_fails (xl X) C.2.2.2.2.2.2.2.1 N hw.2) ⟨Nat.le_of_ble_eq_true rfl, Nat.le_of_ble_eq_true rfl, Nat.le_of_ble_eq_true rfl, Nat.le_of_ble_eq_true rfl⟩ ⟨rfl, rfl⟩ hw.1 dX12_entryAt_53 rfl (Nat.le_of_ble_eq_true rfl) rfl (fun v11 h12 hw => ?_)
      refine go_if_eq C 61 dX12_entryAt_56 (by decide) hw (fun hw => ?_) (fun hw => ?_)
      · refine go_aload_n C dX12_entryAt_61 0 rfl ?_
        refine go_iload_n C dX12_entryAt_62 1 rfl ?_
        refine go_c0V_v C [iV p1] vX12_lists tw8_107 (ci := 12) rfl (m_X12_lists (xl X) C.2.2.2.2.2.2.2.1 N hw.2) ⟨Nat.le_of_ble_eq_true rfl, Nat.le_of_ble_eq_true rfl, Nat.le_of_ble_eq_true rfl, Nat.le_of_ble_eq_true rfl⟩ ⟨rfl, rfl⟩ hw.1 dX12_entryAt_63 rfl (Nat.le_of_ble_eq_true rfl) rfl (fun h13 hw => ?_)
        refine go_aload_n C dX12_entryAt_66 0 rfl ?_
        refine go_getA C (cfX12) (k := 17) (Nat.le_of_ble_eq_true rfl) tw7_100 rfl dX12_entryAt_67 hw (fun a14 hw => ?_)
        refine go_bipush C 40 dX12_entryAt_70 kc_b40 ?_
        refine go_iload_n C dX12_entryAt_72 1 rfl ?_
        refine go_imul C dX12_entryAt_73 ?_
        refine go_iload_n C dX12_entryAt_74 2 rfl ?_
        refine go_iadd C dX12_entryAt_75 ?_
        refine go_iaload C dX12_entryAt_76 hw (fun v15 hw => ?_)
        exact go_iret C dX12_entryAt_77 hw (Nat.le_of_ble_eq_true rfl) (Nat.le_of_ble_eq_true rfl)
      refine go_iconst C (-1) dX12_entryAt_59 kc_im1 ?_
      exact go_iret C dX12_entryAt_60 hw (Nat.le_of_ble_eq_true rfl) (Nat.le_of_ble_eq_true rfl)
    refine go_if_ne C 51 dX12_entryAt_44 (by decide) hw (fun hw => ?_) (fun hw => ?_)
    · refine go_iconst C 0 dX12_entryAt_51 kc_i0 ?_
      exact hj52 0 hw
    refine go_iconst C 1 dX12_entryAt_47 kc_i1 ?_
    refine go_goto C 52 dX12_entryAt_48 (by decide) ?_
    exact hj52 1 hw
  refine go_if_ne C 18 dX12_entryAt_11 (by decide) hw (fun hw => ?_) (fun hw => ?_)
  · refine go_iconst C 0 dX12_entryAt_18 kc_i0 ?_
    exact hj19 0 hw
  refine go_iconst C 1 dX12_entryAt_14 kc_i1 ?_
  refine go_goto C 19 dX12_entryAt_15 (by decide) ?_
  exact hj19 1 hw
/-- DuelSchemaModel.counted(IIC)I -/
def w_X12_counted (N : Nat) (a0 : Nat) (p1 : Int32) (p2 : Int32) (p3 : Int32) (h0 : Hp) (K : Int32 → Hp → Prop) : Prop :=
  pF h0 a0 12 0 (iV 0) fun h1 =>
  jn (fun (v2 : Int32) => 
    cv h1 a0 12 <| w_X12_isTable N a0 p1 h1 fun v3 =>
    jn (fun (v4 : Int32) => 
      cv h1 a0 12 <| w_X12_fails N a0 v4 1 h1 fun v5 h6 =>
      br (v5 = 0) (
        cv h6 a0 12 <| w_X12_isColumn N a0 p1 p2 h6 fun v7 =>
        jn (fun (v8 : Int32) => 
          cv h6 a0 12 <| w_X12_fails N a0 v8 2 h6 fun v9 h10 =>
          br (v9 = 0) (
            br (p3 = 114) (
              gA h10 a0 12 8 fun a19 =>
              aI h10 a19 0 p1 fun v20 =>
              K v20 h10) (
              br (p3 = 112) (
                gA h10 a0 12 9 fun a17 =>
                aI h10 a17 0 p1 fun v18 =>
                K v18 h10) (
                br (p3 = 117) (
                  gA h10 a0 12 10 fun a15 =>
                  aI h10 a15 0 ((3 * p1) + p2) fun v16 =>
                  K v16 h10) (
                  br (p3 = 108) (
                    gA h10 a0 12 11 fun a13 =>
                    aI h10 a13 0 ((3 * p1) + p2) fun v14 =>
                    K v14 h10) (
                    gA h10 a0 12 12 fun a11 =>
                    aI h10 a11 0 ((3 * p1) + p2) fun v12 =>
                    K v12 h10))))) (
            K (-1) h10)) (fun j83 =>
        jn (
          j83 1) (fun j78 =>
        br (v7 = 0) (
          j78 ) (
          br (v2 = 0) (
            j78 ) (
            j83 0))))) (
        K (-1) h6)) (fun j56 =>
    br (v3 = 0) (
      j56 1) (
      j56 0))) (fun j40 =>
  jn (
    j40 1) (fun j35 =>
  br (p3 = 114) (
    j35 ) (
    br (p3 = 112) (
      j35 ) (
      br (p3 = 117) (
        j35 ) (
        br (p3 = 108) (
          j35 ) (
          br (p3 = 103) (
            j35 ) (
            j40 0)))))))
abbrev rmX12_counted : Room := { frames := 5, cells := 0, slots := 0, locals := 125 }
theorem vX12_counted : VI RX12 yX12_counted cX12_counted 6 (some .int) 3 := ⟨tw8_112, tw8_113, tw1_8, tw8_114, by decide +kernel⟩
set_option maxHeartbeats 4000000 in
theorem m_X12_counted {G : Gp} (l : Launch) (hfl : l.stackTraces = false) (N : Nat) {a0 : Nat} {p1 : Int32} {p2 : Int32} {p3 : Int32} {h0 : Hp} {K : Int32 → Hp → Prop} (hw : w_X12_counted N a0 p1 p2 p3 h0 K) : MT G l yX12_counted cX12_counted 6 (some .int) rmX12_counted [rV (some a0), iV p1, iV p2, iV p3] h0 (QI G K) := by
  refine go_metT l hfl _ 6 _ _ rfl (by decide +kernel) (Nat.le_of_ble_eq_true rfl) [(0, rV (some a0)), (1, iV p1), (2, iV p2), (3, iV p3)] rfl (fun X hX C hn => ?_)
  subst hX
  unfold w_X12_counted at hw
  refine go_aload_n C dX12_counted_0 0 rfl ?_
  refine go_iconst C 0 dX12_counted_1 kc_i0 ?_
  refine go_putI C (cfX12) (k := 0) (Nat.le_of_ble_eq_true rfl) tw7_83 rfl (Or.inl rfl) rfl dX12_counted_2 hw (fun h1 hw => ?_)
  refine go_iload_n C dX12_counted_5 3 rfl ?_
  refine go_bipush C 114 dX12_counted_6 kc_b114 ?_
  refine jn_elim (P := fun j => ∀ (v2 : Int32), j v2 → Go G X rmX12_counted 6 0 0 (QN G X (QI G K) rmX12_counted) h1 40 [(0, rV (some a0)), (1, iV p1), (2, iV p2), (3, iV p3)] [iV v2]) hw (fun v2 hw => ?_) (fun j40 hj40 hw => ?_)
  · refine go_istore C [(4, iV v2), (0, rV (some a0)), (1, iV p1), (2, iV p2), (3, iV p3)] dX12_counted_40 (Nat.le_of_ble_eq_true rfl) rfl ?_
    refine go_aload_n C dX12_counted_42 1 rfl ?_
    refine go_aload_n C dX12_counted_43 1 rfl ?_
    refine go_iload_n C dX12_counted_44 2 rfl ?_
    refine go_pV_i C [iV p1] vX12_isTable tw8_31 (ci := 12) rfl (m_X12_isTable (xl X) C.2.2.2.2.2.2.2.1 N hw.2) ⟨Nat.le_of_ble_eq_true rfl, Nat.le_of_ble_eq_true rfl, Nat.le_of_ble_eq_true rfl, Nat.le_of_ble_eq_true rfl⟩ ⟨rfl, rfl⟩ hw.1 dX12_counted_45 rfl (Nat.le_of_ble_eq_true rfl) rfl (fun v3 hw => ?_)
    refine jn_elim (P := fun j => ∀ (v4 : Int32), j v4 → Go G X rmX12_counted 6 0 0 (QN G X (QI G K) rmX12_counted) h1 56 [(0, rV (some a0)), (1, iV p1), (2, iV p2), (3, iV p3), (4, iV v2)] [iV v4, rV (some a0)]) hw (fun v4 hw => ?_) (fun j56 hj56 hw => ?_)
    · refine go_iconst C 1 dX12_counted_56 kc_i1 ?_
      refine go_c0V_i C [iV v4, iV 1] vX12_fails tw8_23 (ci := 12) rfl (m_X12_fails (xl X) C.2.2.2.2.2.2.2.1 N hw.2) ⟨Nat.le_of_ble_eq_true rfl, Nat.le_of_ble_eq_true rfl, Nat.le_of_ble_eq_true rfl, Nat.le_of_ble_eq_true rfl⟩ ⟨rfl, rfl⟩ hw.1 dX12_counted_57 rfl (Nat.le_of_ble_eq_true rfl) rfl (fun v5 h6 hw => ?_)
      refine go_if_ne C 90 dX12_counted_60 (by decide) hw (fun hw => ?_) (fun hw => ?_)
      · refine go_iconst C (-1) dX12_counted_90 kc_im1 ?_
        exact go_iret C dX12_counted_91 hw (Nat.le_of_ble_eq_true rfl) (Nat.le_of_ble_eq_true rfl)
      refine go_aload_n C dX12_counted_63 0 rfl ?_
      refine go_aload_n C dX12_counted_64 0 rfl ?_
      refine go_iload_n C dX12_counted_65 1 rfl ?_
      refine go_iload_n C dX12_counted_66 2 rfl ?_
      refine go_pV_i C [iV p1, iV p2] vX12_isColumn tw8_35 (ci := 12) rfl (m_X12_isColumn (xl X) C.2.2.2.2.2.2.2.1 N hw.2) ⟨Nat.le_of_ble_eq_true rfl, Nat.le_of_ble_eq_true rfl, Nat.le_of_ble_eq_true rfl, Nat.le_of_ble_eq_true rfl⟩ ⟨rfl, rfl⟩ hw.1 dX12_counted_67 rfl (Nat.le_of_ble_eq_true rfl) rfl (fun v7 hw => ?_)
      refine jn_elim (P := fun j => ∀ (v8 : Int32), j v8 → Go G X rmX12_counted 6 0 0 (QN G X (QI G K) rmX12_counted) h6 83 [(0, rV (some a0)), (1, iV p1), (2, iV p2), (3, iV p3)] [iV v8, rV (some a0)]) hw (fun v8 hw => ?_) (fun j83 hj83 hw => ?_)
      · refine go_iconst C 2 dX12_counted_83 kc_i2 ?_
        refine go_c0V_i C [iV v8, iV 2] vX12_fails tw8_23 (ci := 12) rfl (m_X12_fails (xl X) C.2.2.2.2.2.2.2.1 N hw.2) ⟨Nat.le_of_ble_eq_true rfl, Nat.le_of_ble_eq_true rfl, Nat.le_of_ble_eq_true rfl, Nat.le_of_ble_eq_true rfl⟩ ⟨rfl, rfl⟩ hw.1 dX12_counted_84 rfl (Nat.le_of_ble_eq_true rfl) rfl (fun v9 h10 hw => ?_)
        refine go_if_eq C 92 dX12_counted_87 (by decide) hw (fun hw => ?_) (fun hw => ?_)
        · refine go_iconst C 3 dX12_counted_92 kc_i3 ?_
          refine go_iload_n C dX12_counted_93 1 rfl ?_
          refine go_imul C dX12_counted_94 ?_
          refine go_iload_n C dX12_counted_95 2 rfl ?_
          refine go_iadd C dX12_counted_96 ?_
          refine go_istore C [(5, iV ((3 * p1) + p2)), (0, rV (some a0)), (1, iV p1), (2, iV p2), (3, iV p3)] dX12_counted_97 (Nat.le_of_ble_eq_true rfl) rfl ?_
          refine go_iload_n C dX12_counted_99 4 rfl ?_
          refine go_bipush C 114 dX12_counted_100 kc_b114 ?_
          refine go_icmp_ne C 114 dX12_counted_102 (by decide) hw (fun hw => ?_) (fun hw => ?_)
          · refine go_iload_n C dX12_counted_114 4 rfl ?_
            refine go_bipush C 112 dX12_counted_115 kc_b112 ?_
            refine go_icmp_ne C 129 dX12_counted_117 (by decide) hw (fun hw => ?_) (fun hw => ?_)
            · refine go_iload_n C dX12_counted_129 4 rfl ?_
              refine go_bipush C 117 dX12_counted_130 kc_b117 ?_
              refine go_icmp_ne C 145 dX12_counted_132 (by decide) hw (fun hw => ?_) (fun hw => ?_)
              · refine go_iload_n C dX12_counted_145 4 rfl ?_
                refine go_bipush C 108 dX12_counted_146 kc_b108 ?_
                refine go_icmp_ne C 161 dX12_counted_148 (by decide) hw (fun hw => ?_) (fun hw => ?_)
                · refine go_aload_n C dX12_counted_161 1 rfl ?_
                  refine go_getA C (cfX12) (k := 12) (Nat.le_of_ble_eq_true rfl) tw7_95 rfl dX12_counted_162 hw (fun a11 hw => ?_)
                  refine go_iload C dX12_counted_165 0 rfl ?_
                  refine go_iaload C dX12_counted_167 hw (fun v12 hw => ?_)
                  exact go_iret C dX12_counted_168 hw (Nat.le_of_ble_eq_true rfl) (Nat.le_of_ble_eq_true rfl)
                refine go_aload_n C dX12_counted_151 1 rfl ?_
                refine go_getA C (cfX12) (k := 11) (Nat.le_of_ble_eq_true rfl) tw7_94 rfl dX12_counted_152 hw (fun a13 hw => ?_)
                refine go_iload C dX12_counted_155 0 rfl ?_
                refine go_iaload C dX12_counted_157 hw (fun v14 hw => ?_)
                refine go_goto C 168 dX12_counted_158 (by decide) ?_
                exact go_iret C dX12_counted_168 hw (Nat.le_of_ble_eq_true rfl) (Nat.le_of_ble_eq_true rfl)
              refine go_aload_n C dX12_counted_135 1 rfl ?_
              refine go_getA C (cfX12) (k := 10) (Nat.le_of_ble_eq_true rfl) tw7_93 rfl dX12_counted_136 hw (fun a15 hw => ?_)
              refine go_iload C dX12_counted_139 0 rfl ?_
              refine go_iaload C dX12_counted_141 hw (fun v16 hw => ?_)
              refine go_goto C 168 dX12_counted_142 (by decide) ?_
              exact go_iret C dX12_counted_168 hw (Nat.le_of_ble_eq_true rfl) (Nat.le_of_ble_eq_true rfl)
            refine go_aload_n C dX12_counted_120 1 rfl ?_
            refine go_getA C (cfX12) (k := 9) (Nat.le_of_ble_eq_true rfl) tw7_92 rfl dX12_counted_121 hw (fun a17 hw => ?_)
            refine go_iload_n C dX12_counted_124 2 rfl ?_
            refine go_iaload C dX12_counted_125 hw (fun v18 hw => ?_)
            refine go_goto C 168 dX12_counted_126 (by decide) ?_
            exact go_iret C dX12_counted_168 hw (Nat.le_of_ble_eq_true rfl) (Nat.le_of_ble_eq_true rfl)
          refine go_aload_n C dX12_counted_105 1 rfl ?_
          refine go_getA C (cfX12) (k := 8) (Nat.le_of_ble_eq_true rfl) tw7_91 rfl dX12_counted_106 hw (fun a19 hw => ?_)
          refine go_iload_n C dX12_counted_109 2 rfl ?_
          refine go_iaload C dX12_counted_110 hw (fun v20 hw => ?_)
          refine go_goto C 168 dX12_counted_111 (by decide) ?_
          exact go_iret C dX12_counted_168 hw (Nat.le_of_ble_eq_true rfl) (Nat.le_of_ble_eq_true rfl)
        refine go_iconst C (-1) dX12_counted_90 kc_im1 ?_
        exact go_iret C dX12_counted_91 hw (Nat.le_of_ble_eq_true rfl) (Nat.le_of_ble_eq_true rfl)
      refine jn_elim (P := fun j => j  → Go G X rmX12_counted 6 0 0 (QN G X (QI G K) rmX12_counted) h6 78 [(0, rV (some a0)), (1, iV p1), (2, iV p2), (3, iV p3)] [rV (some a0)]) hw (fun  hw => ?_) (fun j78 hj78 hw => ?_)
      · refine go_iconst C 1 dX12_counted_78 kc_i1 ?_
        refine go_goto C 83 dX12_counted_79 (by decide) ?_
        exact hj83 1 hw
      refine go_if_eq C 78 dX12_counted_70 (by decide) hw (fun hw => ?_) (fun hw => ?_)
      · refine go_sub [0, 1, 2, 3] rfl ?_
        exact hj78  hw
      refine go_iload C dX12_counted_73 4 rfl ?_
      refine go_if_ne C 82 dX12_counted_75 (by decide) hw (fun hw => ?_) (fun hw => ?_)
      · refine go_iconst C 0 dX12_counted_82 kc_i0 ?_
        refine go_sub [0, 1, 2, 3] rfl ?_
        exact hj83 0 hw
      refine go_sub [0, 1, 2, 3] rfl ?_
      exact hj78  hw
    refine go_if_ne C 55 dX12_counted_48 (by decide) hw (fun hw => ?_) (fun hw => ?_)
    · refine go_iconst C 0 dX12_counted_55 kc_i0 ?_
      refine go_sub [1, 2, 3, 4, 0] rfl ?_
      exact hj56 0 hw
    refine go_iconst C 1 dX12_counted_51 kc_i1 ?_
    refine go_goto C 56 dX12_counted_52 (by decide) ?_
    refine go_sub [1, 2, 3, 4, 0] rfl ?_
    exact hj56 1 hw
  refine jn_elim (P := fun j => j  → Go G X rmX12_counted 6 0 0 (QN G X (QI G K) rmX12_counted) h1 35 [(0, rV (some a0)), (1, iV p1), (2, iV p2), (3, iV p3)] []) hw (fun  hw => ?_) (fun j35 hj35 hw => ?_)
  · refine go_iconst C 1 dX12_counted_35 kc_i1 ?_
    refine go_goto C 40 dX12_counted_36 (by decide) ?_
    exact hj40 1 hw
  refine go_icmp_eq C 35 dX12_counted_8 (by decide) hw (fun hw => ?_) (fun hw => ?_)
  · exact hj35  hw
  refine go_iload_n C dX12_counted_11 3 rfl ?_
  refine go_bipush C 112 dX12_counted_12 kc_b112 ?_
  refine go_icmp_eq C 35 dX12_counted_14 (by decide) hw (fun hw => ?_) (fun hw => ?_)
  · exact hj35  hw
  refine go_iload_n C dX12_counted_17 3 rfl ?_
  refine go_bipush C 117 dX12_counted_18 kc_b117 ?_
  refine go_icmp_eq C 35 dX12_counted_20 (by decide) hw (fun hw => ?_) (fun hw => ?_)
  · exact hj35  hw
  refine go_iload_n C dX12_counted_23 3 rfl ?_
  refine go_bipush C 108 dX12_counted_24 kc_b108 ?_
  refine go_icmp_eq C 35 dX12_counted_26 (by decide) hw (fun hw => ?_) (fun hw => ?_)
  · exact hj35  hw
  refine go_iload_n C dX12_counted_29 3 rfl ?_
  refine go_bipush C 103 dX12_counted_30 kc_b103 ?_
  refine go_icmp_ne C 39 dX12_counted_32 (by decide) hw (fun hw => ?_) (fun hw => ?_)
  · refine go_iconst C 0 dX12_counted_39 kc_i0 ?_
    exact hj40 0 hw
  exact hj35  hw
/-- DuelSchemaModel.looksUp(II)V -/
def w_X12_looksUp (N : Nat) (a0 : Nat) (p1 : Int32) (p2 : Int32) (h0 : Hp) (K : Hp → Prop) : Prop :=
  gI h0 a0 12 23 fun v1 =>
  pF h0 a0 12 23 (iV (v1 + 1)) fun h2 =>
  fx2 (fun (w15 : Int32 → Int32 → Prop) (x3 : Int32) (x4 : Int32) =>
    gA h2 a0 12 21 fun a5 =>
    aI h2 a5 0 p1 fun v6 =>
    br (v6 ≤ x4) (
      gI h2 a0 12 22 fun v7 =>
      jn (fun (v8 : Int32) => 
        pF h2 a0 12 22 (iV (v7 + v8)) fun h9 =>
        jn (fun (h10 : Hp) => 
          gA h10 a0 12 21 fun a11 =>
          aI h10 a11 0 p1 fun v12 =>
          fx2 (fun (w91 : Int32 → Hp → Prop) (x14 : Int32) (h13 : Hp) =>
            br (x14 ≤ 0) (
              gA h13 a0 12 20 fun a15 =>
              sI h13 a15 0 (13 * p1) p2 fun h16 =>
              gA h16 a0 12 21 fun a17 =>
              aI h16 a17 0 p1 fun v18 =>
              sI h16 a17 0 p1 (v18 + 1) fun h19 =>
              gA h19 a0 12 21 fun a20 =>
              gA h19 a0 12 21 fun a21 =>
              aI h19 a21 0 p1 fun v22 =>
              gI h19 a0 12 19 fun v23 =>
              w_X12_fewest N v22 v23 h19 fun v24 =>
              sI h19 a20 0 p1 v24 fun h25 =>
              K h25) (
              gA h13 a0 12 20 fun a26 =>
              gA h13 a0 12 20 fun a27 =>
              aI h13 a27 0 (((13 * p1) + x14) - 1) fun v28 =>
              sI h13 a26 0 ((13 * p1) + x14) v28 fun h29 =>
              w91 (x14 + (-1)) h29)) N v12 h10) (fun j83 =>
        br (x3 < 0) (
          j83 h9) (
          cv h9 a0 12 <| w_X12_takesOut N a0 p1 x3 h9 fun h30 =>
          j83 h30))) (fun j69 =>
      br (0 ≤ x3) (
        j69 0) (
        j69 1))) (
      gA h2 a0 12 20 fun a31 =>
      aI h2 a31 0 ((13 * p1) + x4) fun v32 =>
      jn (fun (v33 : Int32) => 
        w15 v33 (x4 + 1)) (fun j48 =>
      br (v32 = p2) (
        j48 x4) (
        j48 x3)))) N (-1) 0
abbrev rmX12_looksUp : Room := { frames := 3, cells := 0, slots := 0, locals := 83 }
theorem vX12_looksUp : VI RX12 yX12_looksUp cX12_looksUp 5 none 2 := ⟨tw9_68, tp84, tw1_8, tw9_69, by decide +kernel⟩
set_option maxHeartbeats 4000000 in
theorem m_X12_looksUp {G : Gp} (l : Launch) (hfl : l.stackTraces = false) (N : Nat) {a0 : Nat} {p1 : Int32} {p2 : Int32} {h0 : Hp} {K : Hp → Prop} (hw : w_X12_looksUp N a0 p1 p2 h0 K) : MT G l yX12_looksUp cX12_looksUp 5 none rmX12_looksUp [rV (some a0), iV p1, iV p2] h0 (QV G K) := by
  refine go_metT l hfl _ 5 _ _ rfl (by decide +kernel) (Nat.le_of_ble_eq_true rfl) [(0, rV (some a0)), (1, iV p1), (2, iV p2)] rfl (fun X hX C hn => ?_)
  subst hX
  unfold w_X12_looksUp at hw
  refine go_aload_n C dX12_looksUp_0 0 rfl ?_
  refine go_dup C _ dX12_looksUp_1 rfl ?_
  refine go_getI C (cfX12) (k := 23) (Nat.le_of_ble_eq_true rfl) tw7_106 rfl dX12_looksUp_2 hw (fun v1 hw => ?_)
  refine go_iconst C 1 dX12_looksUp_5 kc_i1 ?_
  refine go_iadd C dX12_looksUp_6 ?_
  refine go_putI C (cfX12) (k := 23) (Nat.le_of_ble_eq_true rfl) tw7_106 rfl (Or.inl rfl) rfl dX12_looksUp_7 hw (fun h2 hw => ?_)
  refine go_iconst C (-1) dX12_looksUp_10 kc_im1 ?_
  refine go_istore_n C [(3, iV (-1)), (0, rV (some a0)), (1, iV p1), (2, iV p2)] dX12_looksUp_11 (Nat.le_of_ble_eq_true rfl) rfl ?_
  refine go_iconst C 0 dX12_looksUp_12 kc_i0 ?_
  refine go_istore C [(4, iV 0), (3, iV (-1)), (0, rV (some a0)), (1, iV p1), (2, iV p2)] dX12_looksUp_13 (Nat.le_of_ble_eq_true rfl) rfl ?_
  refine go_sub [2, 3, 4, 1, 0] rfl ?_
  refine fx2_elim (P := fun x3 x4 => Go G X rmX12_looksUp 5 0 0 (QN G X (QV G K) rmX12_looksUp) h2 15 [(0, rV (some a0)), (1, iV p1), (2, iV p2), (3, iV x3), (4, iV x4)] []) (fun w15 hj15 x3 x4 hw => ?_) N _ _ hw
  refine go_iload C dX12_looksUp_15 4 rfl ?_
  refine go_aload_n C dX12_looksUp_17 0 rfl ?_
  refine go_getA C (cfX12) (k := 21) (Nat.le_of_ble_eq_true rfl) tw7_104 rfl dX12_looksUp_18 hw (fun a5 hw => ?_)
  refine go_iload_n C dX12_looksUp_21 1 rfl ?_
  refine go_iaload C dX12_looksUp_22 hw (fun v6 hw => ?_)
  refine go_icmp_ge C 55 dX12_looksUp_23 (by decide) hw (fun hw => ?_) (fun hw => ?_)
  · refine go_aload_n C dX12_looksUp_55 0 rfl ?_
    refine go_dup C _ dX12_looksUp_56 rfl ?_
    refine go_getI C (cfX12) (k := 22) (Nat.le_of_ble_eq_true rfl) tw7_105 rfl dX12_looksUp_57 hw (fun v7 hw => ?_)
    refine go_iload_n C dX12_looksUp_60 3 rfl ?_
    refine jn_elim (P := fun j => ∀ (v8 : Int32), j v8 → Go G X rmX12_looksUp 5 0 0 (QN G X (QV G K) rmX12_looksUp) h2 69 [(0, rV (some a0)), (1, iV p1), (2, iV p2), (3, iV x3)] [iV v8, iV v7, rV (some a0)]) hw (fun v8 hw => ?_) (fun j69 hj69 hw => ?_)
    · refine go_iadd C dX12_looksUp_69 ?_
      refine go_putI C (cfX12) (k := 22) (Nat.le_of_ble_eq_true rfl) tw7_105 rfl (Or.inl rfl) rfl dX12_looksUp_70 hw (fun h9 hw => ?_)
      refine go_iload_n C dX12_looksUp_73 3 rfl ?_
      refine jn_elim (P := fun j => ∀ (h10 : Hp), j h10 → Go G X rmX12_looksUp 5 0 0 (QN G X (QV G K) rmX12_looksUp) h10 83 [(0, rV (some a0)), (1, iV p1), (2, iV p2)] []) hw (fun h10 hw => ?_) (fun j83 hj83 hw => ?_)
      · refine go_aload_n C dX12_looksUp_83 0 rfl ?_
        refine go_getA C (cfX12) (k := 21) (Nat.le_of_ble_eq_true rfl) tw7_104 rfl dX12_looksUp_84 hw (fun a11 hw => ?_)
        refine go_iload_n C dX12_looksUp_87 1 rfl ?_
        refine go_iaload C dX12_looksUp_88 hw (fun v12 hw => ?_)
        refine go_istore C [(4, iV v12), (0, rV (some a0)), (1, iV p1), (2, iV p2)] dX12_looksUp_89 (Nat.le_of_ble_eq_true rfl) rfl ?_
        refine go_sub [1, 2, 3, 0] rfl ?_
        refine fx2_elim (P := fun x14 h13 => Go G X rmX12_looksUp 5 0 0 (QN G X (QV G K) rmX12_looksUp) h13 91 [(0, rV (some a0)), (1, iV p1), (2, iV p2), (4, iV x14)] []) (fun w91 hj91 x14 h13 hw => ?_) N _ _ hw
        refine go_iload C dX12_looksUp_91 3 rfl ?_
        refine go_if_le C 128 dX12_looksUp_93 (by decide) hw (fun hw => ?_) (fun hw => ?_)
        · refine go_aload_n C dX12_looksUp_128 0 rfl ?_
          refine go_getA C (cfX12) (k := 20) (Nat.le_of_ble_eq_true rfl) tw7_103 rfl dX12_looksUp_129 hw (fun a15 hw => ?_)
          refine go_bipush C 13 dX12_looksUp_132 kc_b13 ?_
          refine go_iload_n C dX12_looksUp_134 1 rfl ?_
          refine go_imul C dX12_looksUp_135 ?_
          refine go_iload_n C dX12_looksUp_136 2 rfl ?_
          refine go_iastore C dX12_looksUp_137 hw (fun h16 hw => ?_)
          refine go_aload_n C dX12_looksUp_138 0 rfl ?_
          refine go_getA C (cfX12) (k := 21) (Nat.le_of_ble_eq_true rfl) tw7_104 rfl dX12_looksUp_139 hw (fun a17 hw => ?_)
          refine go_iload_n C dX12_looksUp_142 1 rfl ?_
          refine go_dup2 C _ _ dX12_looksUp_143 rfl rfl ?_
          refine go_iaload C dX12_looksUp_144 hw (fun v18 hw => ?_)
          refine go_iconst C 1 dX12_looksUp_145 kc_i1 ?_
          refine go_iadd C dX12_looksUp_146 ?_
          refine go_iastore C dX12_looksUp_147 hw (fun h19 hw => ?_)
          refine go_aload_n C dX12_looksUp_148 0 rfl ?_
          refine go_getA C (cfX12) (k := 21) (Nat.le_of_ble_eq_true rfl) tw7_104 rfl dX12_looksUp_149 hw (fun a20 hw => ?_)
          refine go_iload_n C dX12_looksUp_152 1 rfl ?_
          refine go_aload_n C dX12_looksUp_153 0 rfl ?_
          refine go_getA C (cfX12) (k := 21) (Nat.le_of_ble_eq_true rfl) tw7_104 rfl dX12_looksUp_154 hw (fun a21 hw => ?_)
          refine go_iload_n C dX12_looksUp_157 1 rfl ?_
          refine go_iaload C dX12_looksUp_158 hw (fun v22 hw => ?_)
          refine go_aload_n C dX12_looksUp_159 0 rfl ?_
          refine go_getI C (cfX12) (k := 19) (Nat.le_of_ble_eq_true rfl) tw7_102 rfl dX12_looksUp_160 hw (fun v23 hw => ?_)
          refine go_pS_i C [iV v22, iV v23] vX12_fewest tw8_119 (m_X12_fewest (xl X) C.2.2.2.2.2.2.2.1 N hw) ⟨Nat.le_of_ble_eq_true rfl, Nat.le_of_ble_eq_true rfl, Nat.le_of_ble_eq_true rfl, Nat.le_of_ble_eq_true rfl⟩ ⟨rfl, rfl⟩ dX12_looksUp_163 rfl (Nat.le_of_ble_eq_true rfl) rfl (fun v24 hw => ?_)
          refine go_iastore C dX12_looksUp_166 hw (fun h25 hw => ?_)
          exact go_vret C dX12_looksUp_167 hw (Nat.le_of_ble_eq_true rfl) (Nat.le_of_ble_eq_true rfl)
        refine go_aload_n C dX12_looksUp_96 0 rfl ?_
        refine go_getA C (cfX12) (k := 20) (Nat.le_of_ble_eq_true rfl) tw7_103 rfl dX12_looksUp_97 hw (fun a26 hw => ?_)
        refine go_bipush C 13 dX12_looksUp_100 kc_b13 ?_
        refine go_iload_n C dX12_looksUp_102 1 rfl ?_
        refine go_imul C dX12_looksUp_103 ?_
        refine go_iload C dX12_looksUp_104 3 rfl ?_
        refine go_iadd C dX12_looksUp_106 ?_
        refine go_aload_n C dX12_looksUp_107 0 rfl ?_
        refine go_getA C (cfX12) (k := 20) (Nat.le_of_ble_eq_true rfl) tw7_103 rfl dX12_looksUp_108 hw (fun a27 hw => ?_)
        refine go_bipush C 13 dX12_looksUp_111 kc_b13 ?_
        refine go_iload_n C dX12_looksUp_113 1 rfl ?_
        refine go_imul C dX12_looksUp_114 ?_
        refine go_iload C dX12_looksUp_115 3 rfl ?_
        refine go_iadd C dX12_looksUp_117 ?_
        refine go_iconst C 1 dX12_looksUp_118 kc_i1 ?_
        refine go_isub C dX12_looksUp_119 ?_
        refine go_iaload C dX12_looksUp_120 hw (fun v28 hw => ?_)
        refine go_iastore C dX12_looksUp_121 hw (fun h29 hw => ?_)
        refine go_iinc C (x14 + (-1)) [(4, iV (x14 + (-1))), (0, rV (some a0)), (1, iV p1), (2, iV p2)] dX12_looksUp_122 3 rfl (by rw [kc_im1]) (Nat.le_of_ble_eq_true rfl) rfl ?_
        refine go_goto C 91 dX12_looksUp_125 (by decide) ?_
        refine go_sub [1, 2, 3, 0] rfl ?_
        exact hj91 (x14 + (-1)) h29 hw
      refine go_if_lt C 83 dX12_looksUp_74 (by decide) hw (fun hw => ?_) (fun hw => ?_)
      · refine go_sub [0, 1, 2] rfl ?_
        exact hj83 h9 hw
      refine go_aload_n C dX12_looksUp_77 0 rfl ?_
      refine go_iload_n C dX12_looksUp_78 1 rfl ?_
      refine go_iload_n C dX12_looksUp_79 3 rfl ?_
      refine go_c0V_v C [iV p1, iV x3] vX12_takesOut tw8_59 (ci := 12) rfl (m_X12_takesOut (xl X) C.2.2.2.2.2.2.2.1 N hw.2) ⟨Nat.le_of_ble_eq_true rfl, Nat.le_of_ble_eq_true rfl, Nat.le_of_ble_eq_true rfl, Nat.le_of_ble_eq_true rfl⟩ ⟨rfl, rfl⟩ hw.1 dX12_looksUp_80 rfl (Nat.le_of_ble_eq_true rfl) rfl (fun h30 hw => ?_)
      refine go_sub [0, 1, 2] rfl ?_
      exact hj83 h30 hw
    refine go_if_ge C 68 dX12_looksUp_61 (by decide) hw (fun hw => ?_) (fun hw => ?_)
    · refine go_iconst C 0 dX12_looksUp_68 kc_i0 ?_
      refine go_sub [0, 1, 2, 3] rfl ?_
      exact hj69 0 hw
    refine go_iconst C 1 dX12_looksUp_64 kc_i1 ?_
    refine go_goto C 69 dX12_looksUp_65 (by decide) ?_
    refine go_sub [0, 1, 2, 3] rfl ?_
    exact hj69 1 hw
  refine go_aload_n C dX12_looksUp_26 0 rfl ?_
  refine go_getA C (cfX12) (k := 20) (Nat.le_of_ble_eq_true rfl) tw7_103 rfl dX12_looksUp_27 hw (fun a31 hw => ?_)
  refine go_bipush C 13 dX12_looksUp_30 kc_b13 ?_
  refine go_iload_n C dX12_looksUp_32 1 rfl ?_
  refine go_imul C dX12_looksUp_33 ?_
  refine go_iload C dX12_looksUp_34 4 rfl ?_
  refine go_iadd C dX12_looksUp_36 ?_
  refine go_iaload C dX12_looksUp_37 hw (fun v32 hw => ?_)
  refine go_iload_n C dX12_looksUp_38 2 rfl ?_
  refine jn_elim (P := fun j => ∀ (v33 : Int32), j v33 → Go G X rmX12_looksUp 5 0 0 (QN G X (QV G K) rmX12_looksUp) h2 48 [(0, rV (some a0)), (1, iV p1), (2, iV p2), (4, iV x4)] [iV v33]) hw (fun v33 hw => ?_) (fun j48 hj48 hw => ?_)
  · refine go_istore_n C [(3, iV v33), (0, rV (some a0)), (1, iV p1), (2, iV p2), (4, iV x4)] dX12_looksUp_48 (Nat.le_of_ble_eq_true rfl) rfl ?_
    refine go_iinc C (x4 + 1) [(4, iV (x4 + 1)), (3, iV v33), (0, rV (some a0)), (1, iV p1), (2, iV p2)] dX12_looksUp_49 4 rfl (by rw [kc_i1]) (Nat.le_of_ble_eq_true rfl) rfl ?_
    refine go_goto C 15 dX12_looksUp_52 (by decide) ?_
    refine go_sub [2, 3, 4, 1, 0] rfl ?_
    exact hj15 v33 (x4 + 1) hw
  refine go_icmp_ne C 47 dX12_looksUp_39 (by decide) hw (fun hw => ?_) (fun hw => ?_)
  · refine go_iload_n C dX12_looksUp_47 3 rfl ?_
    refine go_sub [0, 1, 2, 4] rfl ?_
    exact hj48 x3 hw
  refine go_iload C dX12_looksUp_42 4 rfl ?_
  refine go_goto C 48 dX12_looksUp_44 (by decide) ?_
  refine go_sub [0, 1, 2, 4] rfl ?_
  exact hj48 x4 hw
/-- DuelSchemaModel.frames(I)I -/
def w_X12_frames (N : Nat) (a0 : Nat) (p1 : Int32) (h0 : Hp) (K : Int32 → Hp → Prop) : Prop :=
  pF h0 a0 12 0 (iV 0) fun h1 =>
  w_X12_in N p1 0 12 h1 fun v2 =>
  jn (fun (v3 : Int32) => 
    cv h1 a0 12 <| w_X12_fails N a0 v3 1 h1 fun v4 h5 =>
    br (v4 = 0) (
      pF h5 a0 12 16 (iV 0) fun h6 =>
      gI h6 a0 12 19 fun v7 =>
      pF h6 a0 12 19 (iV p1) fun h8 =>
      gA h8 a0 12 21 fun a9 =>
      gA h8 a0 12 21 fun a10 =>
      aI h8 a10 0 0 fun v11 =>
      gI h8 a0 12 19 fun v12 =>
      w_X12_fewest N v11 v12 h8 fun v13 =>
      sI h8 a9 0 0 v13 fun h14 =>
      K v7 h14) (
      K (-1) h5)) (fun j21 =>
  br (v2 = 0) (
    j21 1) (
    j21 0))
abbrev rmX12_frames : Room := { frames := 3, cells := 0, slots := 0, locals := 82 }
theorem vX12_frames : VI RX12 yX12_frames cX12_frames 3 (some .int) 1 := ⟨tw8_116, tw8_117, tw1_8, tw8_118, by decide +kernel⟩
set_option maxHeartbeats 4000000 in
theorem m_X12_frames {G : Gp} (l : Launch) (hfl : l.stackTraces = false) (N : Nat) {a0 : Nat} {p1 : Int32} {h0 : Hp} {K : Int32 → Hp → Prop} (hw : w_X12_frames N a0 p1 h0 K) : MT G l yX12_frames cX12_frames 3 (some .int) rmX12_frames [rV (some a0), iV p1] h0 (QI G K) := by
  refine go_metT l hfl _ 3 _ _ rfl (by decide +kernel) (Nat.le_of_ble_eq_true rfl) [(0, rV (some a0)), (1, iV p1)] rfl (fun X hX C hn => ?_)
  subst hX
  unfold w_X12_frames at hw
  refine go_aload_n C dX12_frames_0 0 rfl ?_
  refine go_iconst C 0 dX12_frames_1 kc_i0 ?_
  refine go_putI C (cfX12) (k := 0) (Nat.le_of_ble_eq_true rfl) tw7_83 rfl (Or.inl rfl) rfl dX12_frames_2 hw (fun h1 hw => ?_)
  refine go_aload_n C dX12_frames_5 0 rfl ?_
  refine go_iload_n C dX12_frames_6 1 rfl ?_
  refine go_iconst C 0 dX12_frames_7 kc_i0 ?_
  refine go_bipush C 12 dX12_frames_8 kc_b12 ?_
  refine go_pS_i C [iV p1, iV 0, iV 12] vX12_in tw8_20 (m_X12_in (xl X) C.2.2.2.2.2.2.2.1 N hw) ⟨Nat.le_of_ble_eq_true rfl, Nat.le_of_ble_eq_true rfl, Nat.le_of_ble_eq_true rfl, Nat.le_of_ble_eq_true rfl⟩ ⟨rfl, rfl⟩ dX12_frames_10 rfl (Nat.le_of_ble_eq_true rfl) rfl (fun v2 hw => ?_)
  refine jn_elim (P := fun j => ∀ (v3 : Int32), j v3 → Go G X rmX12_frames 3 0 0 (QN G X (QI G K) rmX12_frames) h1 21 [(0, rV (some a0)), (1, iV p1)] [iV v3, rV (some a0)]) hw (fun v3 hw => ?_) (fun j21 hj21 hw => ?_)
  · refine go_iconst C 1 dX12_frames_21 kc_i1 ?_
    refine go_c0V_i C [iV v3, iV 1] vX12_fails tw8_23 (ci := 12) rfl (m_X12_fails (xl X) C.2.2.2.2.2.2.2.1 N hw.2) ⟨Nat.le_of_ble_eq_true rfl, Nat.le_of_ble_eq_true rfl, Nat.le_of_ble_eq_true rfl, Nat.le_of_ble_eq_true rfl⟩ ⟨rfl, rfl⟩ hw.1 dX12_frames_22 rfl (Nat.le_of_ble_eq_true rfl) rfl (fun v4 h5 hw => ?_)
    refine go_if_eq C 30 dX12_frames_25 (by decide) hw (fun hw => ?_) (fun hw => ?_)
    · refine go_aload_n C dX12_frames_30 0 rfl ?_
      refine go_iconst C 0 dX12_frames_31 kc_i0 ?_
      refine go_putZ C (cfX12) (k := 16) (Nat.le_of_ble_eq_true rfl) tw7_99 rfl (Or.inl rfl) rfl dX12_frames_32 ⟨⟨rfl, rfl⟩, hw⟩ (fun h6 hw => ?_)
      refine go_aload_n C dX12_frames_35 0 rfl ?_
      refine go_getI C (cfX12) (k := 19) (Nat.le_of_ble_eq_true rfl) tw7_102 rfl dX12_frames_36 hw (fun v7 hw => ?_)
      refine go_istore_n C [(2, iV v7), (0, rV (some a0)), (1, iV p1)] dX12_frames_39 (Nat.le_of_ble_eq_true rfl) rfl ?_
      refine go_aload_n C dX12_frames_40 1 rfl ?_
      refine go_iload_n C dX12_frames_41 2 rfl ?_
      refine go_putI C (cfX12) (k := 19) (Nat.le_of_ble_eq_true rfl) tw7_102 rfl (Or.inl rfl) rfl dX12_frames_42 hw (fun h8 hw => ?_)
      refine go_aload_n C dX12_frames_45 1 rfl ?_
      refine go_getA C (cfX12) (k := 21) (Nat.le_of_ble_eq_true rfl) tw7_104 rfl dX12_frames_46 hw (fun a9 hw => ?_)
      refine go_iconst C 0 dX12_frames_49 kc_i0 ?_
      refine go_aload_n C dX12_frames_50 1 rfl ?_
      refine go_getA C (cfX12) (k := 21) (Nat.le_of_ble_eq_true rfl) tw7_104 rfl dX12_frames_51 hw (fun a10 hw => ?_)
      refine go_iconst C 0 dX12_frames_54 kc_i0 ?_
      refine go_iaload C dX12_frames_55 hw (fun v11 hw => ?_)
      refine go_aload_n C dX12_frames_56 1 rfl ?_
      refine go_getI C (cfX12) (k := 19) (Nat.le_of_ble_eq_true rfl) tw7_102 rfl dX12_frames_57 hw (fun v12 hw => ?_)
      refine go_pS_i C [iV v11, iV v12] vX12_fewest tw8_119 (m_X12_fewest (xl X) C.2.2.2.2.2.2.2.1 N hw) ⟨Nat.le_of_ble_eq_true rfl, Nat.le_of_ble_eq_true rfl, Nat.le_of_ble_eq_true rfl, Nat.le_of_ble_eq_true rfl⟩ ⟨rfl, rfl⟩ dX12_frames_60 rfl (Nat.le_of_ble_eq_true rfl) rfl (fun v13 hw => ?_)
      refine go_iastore C dX12_frames_63 hw (fun h14 hw => ?_)
      refine go_iload_n C dX12_frames_64 0 rfl ?_
      exact go_iret C dX12_frames_65 hw (Nat.le_of_ble_eq_true rfl) (Nat.le_of_ble_eq_true rfl)
    refine go_iconst C (-1) dX12_frames_28 kc_im1 ?_
    exact go_iret C dX12_frames_29 hw (Nat.le_of_ble_eq_true rfl) (Nat.le_of_ble_eq_true rfl)
  refine go_if_ne C 20 dX12_frames_13 (by decide) hw (fun hw => ?_) (fun hw => ?_)
  · refine go_iconst C 0 dX12_frames_20 kc_i0 ?_
    exact hj21 0 hw
  refine go_iconst C 1 dX12_frames_16 kc_i1 ?_
  refine go_goto C 21 dX12_frames_17 (by decide) ?_
  exact hj21 1 hw
/-- DuelSchemaModel.cached()I -/
def w_X12_cached (N : Nat) (a0 : Nat) (h0 : Hp) (K : Int32 → Hp → Prop) : Prop :=
  pF h0 a0 12 0 (iV 0) fun h1 =>
  gA h1 a0 12 21 fun a2 =>
  aI h1 a2 0 0 fun v3 =>
  K v3 h1
abbrev rmX12_cached : Room := { frames := 2, cells := 0, slots := 0, locals := 60 }
theorem vX12_cached : VI RX12 yX12_cached cX12_cached 1 (some .int) 0 := ⟨tw8_123, tw8_124, tw1_8, tw8_125, by decide +kernel⟩
set_option maxHeartbeats 4000000 in
theorem m_X12_cached {G : Gp} (l : Launch) (hfl : l.stackTraces = false) (N : Nat) {a0 : Nat} {h0 : Hp} {K : Int32 → Hp → Prop} (hw : w_X12_cached N a0 h0 K) : MT G l yX12_cached cX12_cached 1 (some .int) rmX12_cached [rV (some a0)] h0 (QI G K) := by
  refine go_metT l hfl _ 1 _ _ rfl (by decide +kernel) (Nat.le_of_ble_eq_true rfl) [(0, rV (some a0))] rfl (fun X hX C hn => ?_)
  subst hX
  unfold w_X12_cached at hw
  refine go_aload_n C dX12_cached_0 0 rfl ?_
  refine go_iconst C 0 dX12_cached_1 kc_i0 ?_
  refine go_putI C (cfX12) (k := 0) (Nat.le_of_ble_eq_true rfl) tw7_83 rfl (Or.inl rfl) rfl dX12_cached_2 hw (fun h1 hw => ?_)
  refine go_aload_n C dX12_cached_5 0 rfl ?_
  refine go_getA C (cfX12) (k := 21) (Nat.le_of_ble_eq_true rfl) tw7_104 rfl dX12_cached_6 hw (fun a2 hw => ?_)
  refine go_iconst C 0 dX12_cached_9 kc_i0 ?_
  refine go_iaload C dX12_cached_10 hw (fun v3 hw => ?_)
  exact go_iret C dX12_cached_11 hw (Nat.le_of_ble_eq_true rfl) (Nat.le_of_ble_eq_true rfl)
/-- DuelSchemaModel.cachedAt(I)I -/
def w_X12_cachedAt (N : Nat) (a0 : Nat) (p1 : Int32) (h0 : Hp) (K : Int32 → Hp → Prop) : Prop :=
  pF h0 a0 12 0 (iV 0) fun h1 =>
  gA h1 a0 12 21 fun a2 =>
  aI h1 a2 0 0 fun v3 =>
  w_X12_in N p1 0 (v3 - 1) h1 fun v4 =>
  jn (fun (v5 : Int32) => 
    cv h1 a0 12 <| w_X12_fails N a0 v5 1 h1 fun v6 h7 =>
    br (v6 = 0) (
      gA h7 a0 12 20 fun a8 =>
      aI h7 a8 0 p1 fun v9 =>
      K v9 h7) (
      K (-1) h7)) (fun j27 =>
  br (v4 = 0) (
    j27 1) (
    j27 0))
abbrev rmX12_cachedAt : Room := { frames := 3, cells := 0, slots := 0, locals := 82 }
theorem vX12_cachedAt : VI RX12 yX12_cachedAt cX12_cachedAt 2 (some .int) 1 := ⟨tw8_127, tw8_128, tw1_8, tw8_129, by decide +kernel⟩
set_option maxHeartbeats 4000000 in
theorem m_X12_cachedAt {G : Gp} (l : Launch) (hfl : l.stackTraces = false) (N : Nat) {a0 : Nat} {p1 : Int32} {h0 : Hp} {K : Int32 → Hp → Prop} (hw : w_X12_cachedAt N a0 p1 h0 K) : MT G l yX12_cachedAt cX12_cachedAt 2 (some .int) rmX12_cachedAt [rV (some a0), iV p1] h0 (QI G K) := by
  refine go_metT l hfl _ 2 _ _ rfl (by decide +kernel) (Nat.le_of_ble_eq_true rfl) [(0, rV (some a0)), (1, iV p1)] rfl (fun X hX C hn => ?_)
  subst hX
  unfold w_X12_cachedAt at hw
  refine go_aload_n C dX12_cachedAt_0 0 rfl ?_
  refine go_iconst C 0 dX12_cachedAt_1 kc_i0 ?_
  refine go_putI C (cfX12) (k := 0) (Nat.le_of_ble_eq_true rfl) tw7_83 rfl (Or.inl rfl) rfl dX12_cachedAt_2 hw (fun h1 hw => ?_)
  refine go_aload_n C dX12_cachedAt_5 0 rfl ?_
  refine go_iload_n C dX12_cachedAt_6 1 rfl ?_
  refine go_iconst C 0 dX12_cachedAt_7 kc_i0 ?_
  refine go_aload_n C dX12_cachedAt_8 0 rfl ?_
  refine go_getA C (cfX12) (k := 21) (Nat.le_of_ble_eq_true rfl) tw7_104 rfl dX12_cachedAt_9 hw (fun a2 hw => ?_)
  refine go_iconst C 0 dX12_cachedAt_12 kc_i0 ?_
  refine go_iaload C dX12_cachedAt_13 hw (fun v3 hw => ?_)
  refine go_iconst C 1 dX12_cachedAt_14 kc_i1 ?_
  refine go_isub C dX12_cachedAt_15 ?_
  refine go_pS_i C [iV p1, iV 0, iV (v3 - 1)] vX12_in tw8_20 (m_X12_in (xl X) C.2.2.2.2.2.2.2.1 N hw) ⟨Nat.le_of_ble_eq_true rfl, Nat.le_of_ble_eq_true rfl, Nat.le_of_ble_eq_true rfl, Nat.le_of_ble_eq_true rfl⟩ ⟨rfl, rfl⟩ dX12_cachedAt_16 rfl (Nat.le_of_ble_eq_true rfl) rfl (fun v4 hw => ?_)
  refine jn_elim (P := fun j => ∀ (v5 : Int32), j v5 → Go G X rmX12_cachedAt 2 0 0 (QN G X (QI G K) rmX12_cachedAt) h1 27 [(0, rV (some a0)), (1, iV p1)] [iV v5, rV (some a0)]) hw (fun v5 hw => ?_) (fun j27 hj27 hw => ?_)
  · refine go_iconst C 1 dX12_cachedAt_27 kc_i1 ?_
    refine go_c0V_i C [iV v5, iV 1] vX12_fails tw8_23 (ci := 12) rfl (m_X12_fails (xl X) C.2.2.2.2.2.2.2.1 N hw.2) ⟨Nat.le_of_ble_eq_true rfl, Nat.le_of_ble_eq_true rfl, Nat.le_of_ble_eq_true rfl, Nat.le_of_ble_eq_true rfl⟩ ⟨rfl, rfl⟩ hw.1 dX12_cachedAt_28 rfl (Nat.le_of_ble_eq_true rfl) rfl (fun v6 h7 hw => ?_)
    refine go_if_eq C 38 dX12_cachedAt_31 (by decide) hw (fun hw => ?_) (fun hw => ?_)
    · refine go_aload_n C dX12_cachedAt_38 0 rfl ?_
      refine go_getA C (cfX12) (k := 20) (Nat.le_of_ble_eq_true rfl) tw7_103 rfl dX12_cachedAt_39 hw (fun a8 hw => ?_)
      refine go_iload_n C dX12_cachedAt_42 1 rfl ?_
      refine go_iaload C dX12_cachedAt_43 hw (fun v9 hw => ?_)
      exact go_iret C dX12_cachedAt_44 hw (Nat.le_of_ble_eq_true rfl) (Nat.le_of_ble_eq_true rfl)
    refine go_iconst C (-1) dX12_cachedAt_34 kc_im1 ?_
    refine go_goto C 44 dX12_cachedAt_35 (by decide) ?_
    exact go_iret C dX12_cachedAt_44 hw (Nat.le_of_ble_eq_true rfl) (Nat.le_of_ble_eq_true rfl)
  refine go_if_ne C 26 dX12_cachedAt_19 (by decide) hw (fun hw => ?_) (fun hw => ?_)
  · refine go_iconst C 0 dX12_cachedAt_26 kc_i0 ?_
    exact hj27 0 hw
  refine go_iconst C 1 dX12_cachedAt_22 kc_i1 ?_
  refine go_goto C 27 dX12_cachedAt_23 (by decide) ?_
  exact hj27 1 hw
/-- DuelSchemaModel.flush()I -/
def w_X12_flush (N : Nat) (a0 : Nat) (h0 : Hp) (K : Int32 → Hp → Prop) : Prop :=
  pF h0 a0 12 0 (iV 0) fun h1 =>
  pF h1 a0 12 16 (iV 0) fun h2 =>
  gA h2 a0 12 21 fun a3 =>
  aI h2 a3 0 0 fun v4 =>
  gA h2 a0 12 21 fun a5 =>
  sI h2 a5 0 0 0 fun h6 =>
  K v4 h6
abbrev rmX12_flush : Room := { frames := 2, cells := 0, slots := 0, locals := 60 }
theorem vX12_flush : VI RX12 yX12_flush cX12_flush 2 (some .int) 0 := ⟨tw8_131, tw8_132, tw1_8, tw8_133, by decide +kernel⟩
set_option maxHeartbeats 4000000 in
theorem m_X12_flush {G : Gp} (l : Launch) (hfl : l.stackTraces = false) (N : Nat) {a0 : Nat} {h0 : Hp} {K : Int32 → Hp → Prop} (hw : w_X12_flush N a0 h0 K) : MT G l yX12_flush cX12_flush 2 (some .int) rmX12_flush [rV (some a0)] h0 (QI G K) := by
  refine go_metT l hfl _ 2 _ _ rfl (by decide +kernel) (Nat.le_of_ble_eq_true rfl) [(0, rV (some a0))] rfl (fun X hX C hn => ?_)
  subst hX
  unfold w_X12_flush at hw
  refine go_aload_n C dX12_flush_0 0 rfl ?_
  refine go_iconst C 0 dX12_flush_1 kc_i0 ?_
  refine go_putI C (cfX12) (k := 0) (Nat.le_of_ble_eq_true rfl) tw7_83 rfl (Or.inl rfl) rfl dX12_flush_2 hw (fun h1 hw => ?_)
  refine go_aload_n C dX12_flush_5 0 rfl ?_
  refine go_iconst C 0 dX12_flush_6 kc_i0 ?_
  refine go_putZ C (cfX12) (k := 16) (Nat.le_of_ble_eq_true rfl) tw7_99 rfl (Or.inl rfl) rfl dX12_flush_7 ⟨⟨rfl, rfl⟩, hw⟩ (fun h2 hw => ?_)
  refine go_aload_n C dX12_flush_10 0 rfl ?_
  refine go_getA C (cfX12) (k := 21) (Nat.le_of_ble_eq_true rfl) tw7_104 rfl dX12_flush_11 hw (fun a3 hw => ?_)
  refine go_iconst C 0 dX12_flush_14 kc_i0 ?_
  refine go_iaload C dX12_flush_15 hw (fun v4 hw => ?_)
  refine go_istore_n C [(1, iV v4), (0, rV (some a0))] dX12_flush_16 (Nat.le_of_ble_eq_true rfl) rfl ?_
  refine go_aload_n C dX12_flush_17 1 rfl ?_
  refine go_getA C (cfX12) (k := 21) (Nat.le_of_ble_eq_true rfl) tw7_104 rfl dX12_flush_18 hw (fun a5 hw => ?_)
  refine go_iconst C 0 dX12_flush_21 kc_i0 ?_
  refine go_iconst C 0 dX12_flush_22 kc_i0 ?_
  refine go_iastore C dX12_flush_23 hw (fun h6 hw => ?_)
  refine go_iload_n C dX12_flush_24 0 rfl ?_
  exact go_iret C dX12_flush_25 hw (Nat.le_of_ble_eq_true rfl) (Nat.le_of_ble_eq_true rfl)
/-- DuelSchemaModel.isQuery(I)Z -/
def w_X12_isQuery (N : Nat) (a0 : Nat) (p1 : Int32) (h0 : Hp) (K : Int32 → Prop) : Prop :=
  gI h0 a0 12 24 fun v1 =>
  w_X12_in N p1 0 (v1 - 1) h0 fun v2 =>
  ok (narrow .boolean (.int v2) = .int v2) <| K v2
abbrev rmX12_isQuery : Room := { frames := 3, cells := 0, slots := 0, locals := 82 }
theorem vX12_isQuery : VI RX12 yX12_isQuery cX12_isQuery 2 (some .boolean) 1 := ⟨tw8_144, tp56, tw1_8, tw8_145, by decide +kernel⟩
set_option maxHeartbeats 4000000 in
theorem m_X12_isQuery {G : Gp} (l : Launch) (hfl : l.stackTraces = false) (N : Nat) {a0 : Nat} {p1 : Int32} {h0 : Hp} {K : Int32 → Prop} (hw : w_X12_isQuery N a0 p1 h0 K) : MT G l yX12_isQuery cX12_isQuery 2 (some .boolean) rmX12_isQuery [rV (some a0), iV p1] h0 (QI G (fun r h1 => h1 = h0 ∧ K r)) := by
  refine go_metT l hfl _ 2 _ _ rfl (by decide +kernel) (Nat.le_of_ble_eq_true rfl) [(0, rV (some a0)), (1, iV p1)] rfl (fun X hX C hn => ?_)
  subst hX
  unfold w_X12_isQuery at hw
  refine go_iload_n C dX12_isQuery_0 1 rfl ?_
  refine go_iconst C 0 dX12_isQuery_1 kc_i0 ?_
  refine go_aload_n C dX12_isQuery_2 0 rfl ?_
  refine go_getI C (cfX12) (k := 24) (Nat.le_of_ble_eq_true rfl) tw7_107 rfl dX12_isQuery_3 hw (fun v1 hw => ?_)
  refine go_iconst C 1 dX12_isQuery_6 kc_i1 ?_
  refine go_isub C dX12_isQuery_7 ?_
  refine go_pS_i C [iV p1, iV 0, iV (v1 - 1)] vX12_in tw8_20 (m_X12_in (xl X) C.2.2.2.2.2.2.2.1 N hw) ⟨Nat.le_of_ble_eq_true rfl, Nat.le_of_ble_eq_true rfl, Nat.le_of_ble_eq_true rfl, Nat.le_of_ble_eq_true rfl⟩ ⟨rfl, rfl⟩ dX12_isQuery_8 rfl (Nat.le_of_ble_eq_true rfl) rfl (fun v2 hw => ?_)
  exact go_zret C dX12_isQuery_11 ⟨hw.1, ⟨rfl, hw.2⟩⟩ (Nat.le_of_ble_eq_true rfl) (Nat.le_of_ble_eq_true rfl)
/-- DuelSchemaModel.isPlace(III)Z -/
def w_X12_isPlace (N : Nat) (a0 : Nat) (p1 : Int32) (p2 : Int32) (p3 : Int32) (h0 : Hp) (K : Int32 → Prop) : Prop :=
  gA h0 a0 12 25 fun a1 =>
  aI h0 a1 0 p1 fun v2 =>
  w_X12_in N p2 0 (v2 - 1) h0 fun v3 =>
  br (v3 = 0) (
    K 0) (
    gA h0 a0 12 26 fun a4 =>
    aI h0 a4 0 ((3 * p1) + p2) fun v5 =>
    cv h0 a0 12 <| w_X12_isColumn N a0 v5 p3 h0 fun v6 =>
    br (v6 = 0) (
      K 0) (
      K 1))
abbrev rmX12_isPlace : Room := { frames := 5, cells := 0, slots := 0, locals := 125 }
theorem vX12_isPlace : VI RX12 yX12_isPlace cX12_isPlace 4 (some .boolean) 3 := ⟨tw8_152, tp57, tw1_8, tw8_153, by decide +kernel⟩
set_option maxHeartbeats 4000000 in
theorem m_X12_isPlace {G : Gp} (l : Launch) (hfl : l.stackTraces = false) (N : Nat) {a0 : Nat} {p1 : Int32} {p2 : Int32} {p3 : Int32} {h0 : Hp} {K : Int32 → Prop} (hw : w_X12_isPlace N a0 p1 p2 p3 h0 K) : MT G l yX12_isPlace cX12_isPlace 4 (some .boolean) rmX12_isPlace [rV (some a0), iV p1, iV p2, iV p3] h0 (QI G (fun r h1 => h1 = h0 ∧ K r)) := by
  refine go_metT l hfl _ 4 _ _ rfl (by decide +kernel) (Nat.le_of_ble_eq_true rfl) [(0, rV (some a0)), (1, iV p1), (2, iV p2), (3, iV p3)] rfl (fun X hX C hn => ?_)
  subst hX
  unfold w_X12_isPlace at hw
  refine go_iload_n C dX12_isPlace_0 2 rfl ?_
  refine go_iconst C 0 dX12_isPlace_1 kc_i0 ?_
  refine go_aload_n C dX12_isPlace_2 0 rfl ?_
  refine go_getA C (cfX12) (k := 25) (Nat.le_of_ble_eq_true rfl) tw7_108 rfl dX12_isPlace_3 hw (fun a1 hw => ?_)
  refine go_iload_n C dX12_isPlace_6 1 rfl ?_
  refine go_iaload C dX12_isPlace_7 hw (fun v2 hw => ?_)
  refine go_iconst C 1 dX12_isPlace_8 kc_i1 ?_
  refine go_isub C dX12_isPlace_9 ?_
  refine go_pS_i C [iV p2, iV 0, iV (v2 - 1)] vX12_in tw8_20 (m_X12_in (xl X) C.2.2.2.2.2.2.2.1 N hw) ⟨Nat.le_of_ble_eq_true rfl, Nat.le_of_ble_eq_true rfl, Nat.le_of_ble_eq_true rfl, Nat.le_of_ble_eq_true rfl⟩ ⟨rfl, rfl⟩ dX12_isPlace_10 rfl (Nat.le_of_ble_eq_true rfl) rfl (fun v3 hw => ?_)
  refine go_if_eq C 38 dX12_isPlace_13 (by decide) hw (fun hw => ?_) (fun hw => ?_)
  · refine go_iconst C 0 dX12_isPlace_38 kc_i0 ?_
    exact go_zret C dX12_isPlace_39 ⟨rfl, ⟨rfl, hw⟩⟩ (Nat.le_of_ble_eq_true rfl) (Nat.le_of_ble_eq_true rfl)
  refine go_aload_n C dX12_isPlace_16 0 rfl ?_
  refine go_aload_n C dX12_isPlace_17 0 rfl ?_
  refine go_getA C (cfX12) (k := 26) (Nat.le_of_ble_eq_true rfl) tw7_109 rfl dX12_isPlace_18 hw (fun a4 hw => ?_)
  refine go_iconst C 3 dX12_isPlace_21 kc_i3 ?_
  refine go_iload_n C dX12_isPlace_22 1 rfl ?_
  refine go_imul C dX12_isPlace_23 ?_
  refine go_iload_n C dX12_isPlace_24 2 rfl ?_
  refine go_iadd C dX12_isPlace_25 ?_
  refine go_iaload C dX12_isPlace_26 hw (fun v5 hw => ?_)
  refine go_iload_n C dX12_isPlace_27 3 rfl ?_
  refine go_pV_i C [iV v5, iV p3] vX12_isColumn tw8_35 (ci := 12) rfl (m_X12_isColumn (xl X) C.2.2.2.2.2.2.2.1 N hw.2) ⟨Nat.le_of_ble_eq_true rfl, Nat.le_of_ble_eq_true rfl, Nat.le_of_ble_eq_true rfl, Nat.le_of_ble_eq_true rfl⟩ ⟨rfl, rfl⟩ hw.1 dX12_isPlace_28 rfl (Nat.le_of_ble_eq_true rfl) rfl (fun v6 hw => ?_)
  refine go_if_eq C 38 dX12_isPlace_31 (by decide) hw (fun hw => ?_) (fun hw => ?_)
  · refine go_iconst C 0 dX12_isPlace_38 kc_i0 ?_
    exact go_zret C dX12_isPlace_39 ⟨rfl, ⟨rfl, hw⟩⟩ (Nat.le_of_ble_eq_true rfl) (Nat.le_of_ble_eq_true rfl)
  refine go_iconst C 1 dX12_isPlace_34 kc_i1 ?_
  refine go_goto C 39 dX12_isPlace_35 (by decide) ?_
  exact go_zret C dX12_isPlace_39 ⟨rfl, ⟨rfl, hw⟩⟩ (Nat.le_of_ble_eq_true rfl) (Nat.le_of_ble_eq_true rfl)
/-- DuelSchemaModel.query()I -/
def w_X12_query (N : Nat) (a0 : Nat) (h0 : Hp) (K : Int32 → Hp → Prop) : Prop :=
  pF h0 a0 12 0 (iV 0) fun h1 =>
  gI h1 a0 12 24 fun v2 =>
  jn (fun (v3 : Int32) => 
    cv h1 a0 12 <| w_X12_fails N a0 v3 1 h1 fun v4 h5 =>
    br (v4 = 0) (
      pF h5 a0 12 16 (iV 0) fun h6 =>
      gI h6 a0 12 24 fun v7 =>
      pF h6 a0 12 24 (iV (v7 + 1)) fun h8 =>
      gI h8 a0 12 24 fun v9 =>
      K (v9 - 1) h8) (
      K (-1) h5)) (fun j20 =>
  br (v2 = 8) (
    j20 1) (
    j20 0))
abbrev rmX12_query : Room := { frames := 3, cells := 0, slots := 0, locals := 82 }
theorem vX12_query : VI RX12 yX12_query cX12_query 1 (some .int) 0 := ⟨tw8_135, tw8_136, tw1_8, tw8_137, by decide +kernel⟩
set_option maxHeartbeats 4000000 in
theorem m_X12_query {G : Gp} (l : Launch) (hfl : l.stackTraces = false) (N : Nat) {a0 : Nat} {h0 : Hp} {K : Int32 → Hp → Prop} (hw : w_X12_query N a0 h0 K) : MT G l yX12_query cX12_query 1 (some .int) rmX12_query [rV (some a0)] h0 (QI G K) := by
  refine go_metT l hfl _ 1 _ _ rfl (by decide +kernel) (Nat.le_of_ble_eq_true rfl) [(0, rV (some a0))] rfl (fun X hX C hn => ?_)
  subst hX
  unfold w_X12_query at hw
  refine go_aload_n C dX12_query_0 0 rfl ?_
  refine go_iconst C 0 dX12_query_1 kc_i0 ?_
  refine go_putI C (cfX12) (k := 0) (Nat.le_of_ble_eq_true rfl) tw7_83 rfl (Or.inl rfl) rfl dX12_query_2 hw (fun h1 hw => ?_)
  refine go_aload_n C dX12_query_5 0 rfl ?_
  refine go_aload_n C dX12_query_6 0 rfl ?_
  refine go_getI C (cfX12) (k := 24) (Nat.le_of_ble_eq_true rfl) tw7_107 rfl dX12_query_7 hw (fun v2 hw => ?_)
  refine go_bipush C 8 dX12_query_10 kc_b8 ?_
  refine jn_elim (P := fun j => ∀ (v3 : Int32), j v3 → Go G X rmX12_query 1 0 0 (QN G X (QI G K) rmX12_query) h1 20 [(0, rV (some a0))] [iV v3, rV (some a0)]) hw (fun v3 hw => ?_) (fun j20 hj20 hw => ?_)
  · refine go_iconst C 1 dX12_query_20 kc_i1 ?_
    refine go_c0V_i C [iV v3, iV 1] vX12_fails tw8_23 (ci := 12) rfl (m_X12_fails (xl X) C.2.2.2.2.2.2.2.1 N hw.2) ⟨Nat.le_of_ble_eq_true rfl, Nat.le_of_ble_eq_true rfl, Nat.le_of_ble_eq_true rfl, Nat.le_of_ble_eq_true rfl⟩ ⟨rfl, rfl⟩ hw.1 dX12_query_21 rfl (Nat.le_of_ble_eq_true rfl) rfl (fun v4 h5 hw => ?_)
    refine go_if_eq C 29 dX12_query_24 (by decide) hw (fun hw => ?_) (fun hw => ?_)
    · refine go_aload_n C dX12_query_29 0 rfl ?_
      refine go_iconst C 0 dX12_query_30 kc_i0 ?_
      refine go_putZ C (cfX12) (k := 16) (Nat.le_of_ble_eq_true rfl) tw7_99 rfl (Or.inl rfl) rfl dX12_query_31 ⟨⟨rfl, rfl⟩, hw⟩ (fun h6 hw => ?_)
      refine go_aload_n C dX12_query_34 0 rfl ?_
      refine go_dup C _ dX12_query_35 rfl ?_
      refine go_getI C (cfX12) (k := 24) (Nat.le_of_ble_eq_true rfl) tw7_107 rfl dX12_query_36 hw (fun v7 hw => ?_)
      refine go_iconst C 1 dX12_query_39 kc_i1 ?_
      refine go_iadd C dX12_query_40 ?_
      refine go_putI C (cfX12) (k := 24) (Nat.le_of_ble_eq_true rfl) tw7_107 rfl (Or.inl rfl) rfl dX12_query_41 hw (fun h8 hw => ?_)
      refine go_aload_n C dX12_query_44 0 rfl ?_
      refine go_getI C (cfX12) (k := 24) (Nat.le_of_ble_eq_true rfl) tw7_107 rfl dX12_query_45 hw (fun v9 hw => ?_)
      refine go_iconst C 1 dX12_query_48 kc_i1 ?_
      refine go_isub C dX12_query_49 ?_
      exact go_iret C dX12_query_50 hw (Nat.le_of_ble_eq_true rfl) (Nat.le_of_ble_eq_true rfl)
    refine go_iconst C (-1) dX12_query_27 kc_im1 ?_
    exact go_iret C dX12_query_28 hw (Nat.le_of_ble_eq_true rfl) (Nat.le_of_ble_eq_true rfl)
  refine go_icmp_ne C 19 dX12_query_12 (by decide) hw (fun hw => ?_) (fun hw => ?_)
  · refine go_iconst C 0 dX12_query_19 kc_i0 ?_
    exact hj20 0 hw
  refine go_iconst C 1 dX12_query_15 kc_i1 ?_
  refine go_goto C 20 dX12_query_16 (by decide) ?_
  exact hj20 1 hw
/-- DuelSchemaModel.from(II)I -/
def w_X12_from (N : Nat) (a0 : Nat) (p1 : Int32) (p2 : Int32) (h0 : Hp) (K : Int32 → Hp → Prop) : Prop :=
  pF h0 a0 12 0 (iV 0) fun h1 =>
  cv h1 a0 12 <| w_X12_isQuery N a0 p1 h1 fun v2 =>
  jn (fun (v3 : Int32) => 
    cv h1 a0 12 <| w_X12_fails N a0 v3 1 h1 fun v4 h5 =>
    br (v4 = 0) (
      gA h5 a0 12 25 fun a6 =>
      aI h5 a6 0 p1 fun v7 =>
      jn (fun (v8 : Int32) => 
        cv h5 a0 12 <| w_X12_fails N a0 v8 2 h5 fun v9 h10 =>
        br (v9 = 0) (
          pF h10 a0 12 16 (iV 0) fun h11 =>
          gA h11 a0 12 26 fun a12 =>
          gA h11 a0 12 25 fun a13 =>
          aI h11 a13 0 p1 fun v14 =>
          sI h11 a12 0 ((3 * p1) + v14) p2 fun h15 =>
          gA h15 a0 12 25 fun a16 =>
          aI h15 a16 0 p1 fun v17 =>
          sI h15 a16 0 p1 (v17 + 1) fun h18 =>
          gA h18 a0 12 25 fun a19 =>
          aI h18 a19 0 p1 fun v20 =>
          K v20 h18) (
          K (-1) h10)) (fun j50 =>
      br (v7 = 3) (
        j50 1) (
        j50 0))) (
      K (-1) h5)) (fun j27 =>
  jn (
    j27 1) (fun j22 =>
  br (v2 = 0) (
    j22 ) (
    cv h1 a0 12 <| w_X12_isTable N a0 p2 h1 fun v21 =>
    br (v21 = 0) (
      j22 ) (
      j27 0))))
abbrev rmX12_from : Room := { frames := 4, cells := 0, slots := 0, locals := 103 }
theorem vX12_from : VI RX12 yX12_from cX12_from 3 (some .int) 2 := ⟨tw8_139, tw8_140, tw1_8, tw8_141, by decide +kernel⟩
set_option maxHeartbeats 4000000 in
theorem m_X12_from {G : Gp} (l : Launch) (hfl : l.stackTraces = false) (N : Nat) {a0 : Nat} {p1 : Int32} {p2 : Int32} {h0 : Hp} {K : Int32 → Hp → Prop} (hw : w_X12_from N a0 p1 p2 h0 K) : MT G l yX12_from cX12_from 3 (some .int) rmX12_from [rV (some a0), iV p1, iV p2] h0 (QI G K) := by
  refine go_metT l hfl _ 3 _ _ rfl (by decide +kernel) (Nat.le_of_ble_eq_true rfl) [(0, rV (some a0)), (1, iV p1), (2, iV p2)] rfl (fun X hX C hn => ?_)
  subst hX
  unfold w_X12_from at hw
  refine go_aload_n C dX12_from_0 0 rfl ?_
  refine go_iconst C 0 dX12_from_1 kc_i0 ?_
  refine go_putI C (cfX12) (k := 0) (Nat.le_of_ble_eq_true rfl) tw7_83 rfl (Or.inl rfl) rfl dX12_from_2 hw (fun h1 hw => ?_)
  refine go_aload_n C dX12_from_5 0 rfl ?_
  refine go_aload_n C dX12_from_6 0 rfl ?_
  refine go_iload_n C dX12_from_7 1 rfl ?_
  refine go_pV_i C [iV p1] vX12_isQuery tw8_142 (ci := 12) rfl (m_X12_isQuery (xl X) C.2.2.2.2.2.2.2.1 N hw.2) ⟨Nat.le_of_ble_eq_true rfl, Nat.le_of_ble_eq_true rfl, Nat.le_of_ble_eq_true rfl, Nat.le_of_ble_eq_true rfl⟩ ⟨rfl, rfl⟩ hw.1 dX12_from_8 rfl (Nat.le_of_ble_eq_true rfl) rfl (fun v2 hw => ?_)
  refine jn_elim (P := fun j => ∀ (v3 : Int32), j v3 → Go G X rmX12_from 3 0 0 (QN G X (QI G K) rmX12_from) h1 27 [(0, rV (some a0)), (1, iV p1), (2, iV p2)] [iV v3, rV (some a0)]) hw (fun v3 hw => ?_) (fun j27 hj27 hw => ?_)
  · refine go_iconst C 1 dX12_from_27 kc_i1 ?_
    refine go_c0V_i C [iV v3, iV 1] vX12_fails tw8_23 (ci := 12) rfl (m_X12_fails (xl X) C.2.2.2.2.2.2.2.1 N hw.2) ⟨Nat.le_of_ble_eq_true rfl, Nat.le_of_ble_eq_true rfl, Nat.le_of_ble_eq_true rfl, Nat.le_of_ble_eq_true rfl⟩ ⟨rfl, rfl⟩ hw.1 dX12_from_28 rfl (Nat.le_of_ble_eq_true rfl) rfl (fun v4 h5 hw => ?_)
    refine go_if_ne C 57 dX12_from_31 (by decide) hw (fun hw => ?_) (fun hw => ?_)
    · refine go_iconst C (-1) dX12_from_57 kc_im1 ?_
      exact go_iret C dX12_from_58 hw (Nat.le_of_ble_eq_true rfl) (Nat.le_of_ble_eq_true rfl)
    refine go_aload_n C dX12_from_34 0 rfl ?_
    refine go_aload_n C dX12_from_35 0 rfl ?_
    refine go_getA C (cfX12) (k := 25) (Nat.le_of_ble_eq_true rfl) tw7_108 rfl dX12_from_36 hw (fun a6 hw => ?_)
    refine go_iload_n C dX12_from_39 1 rfl ?_
    refine go_iaload C dX12_from_40 hw (fun v7 hw => ?_)
    refine go_iconst C 3 dX12_from_41 kc_i3 ?_
    refine jn_elim (P := fun j => ∀ (v8 : Int32), j v8 → Go G X rmX12_from 3 0 0 (QN G X (QI G K) rmX12_from) h5 50 [(0, rV (some a0)), (1, iV p1), (2, iV p2)] [iV v8, rV (some a0)]) hw (fun v8 hw => ?_) (fun j50 hj50 hw => ?_)
    · refine go_iconst C 2 dX12_from_50 kc_i2 ?_
      refine go_c0V_i C [iV v8, iV 2] vX12_fails tw8_23 (ci := 12) rfl (m_X12_fails (xl X) C.2.2.2.2.2.2.2.1 N hw.2) ⟨Nat.le_of_ble_eq_true rfl, Nat.le_of_ble_eq_true rfl, Nat.le_of_ble_eq_true rfl, Nat.le_of_ble_eq_true rfl⟩ ⟨rfl, rfl⟩ hw.1 dX12_from_51 rfl (Nat.le_of_ble_eq_true rfl) rfl (fun v9 h10 hw => ?_)
      refine go_if_eq C 59 dX12_from_54 (by decide) hw (fun hw => ?_) (fun hw => ?_)
      · refine go_aload_n C dX12_from_59 0 rfl ?_
        refine go_iconst C 0 dX12_from_60 kc_i0 ?_
        refine go_putZ C (cfX12) (k := 16) (Nat.le_of_ble_eq_true rfl) tw7_99 rfl (Or.inl rfl) rfl dX12_from_61 ⟨⟨rfl, rfl⟩, hw⟩ (fun h11 hw => ?_)
        refine go_aload_n C dX12_from_64 0 rfl ?_
        refine go_getA C (cfX12) (k := 26) (Nat.le_of_ble_eq_true rfl) tw7_109 rfl dX12_from_65 hw (fun a12 hw => ?_)
        refine go_iconst C 3 dX12_from_68 kc_i3 ?_
        refine go_iload_n C dX12_from_69 1 rfl ?_
        refine go_imul C dX12_from_70 ?_
        refine go_aload_n C dX12_from_71 0 rfl ?_
        refine go_getA C (cfX12) (k := 25) (Nat.le_of_ble_eq_true rfl) tw7_108 rfl dX12_from_72 hw (fun a13 hw => ?_)
        refine go_iload_n C dX12_from_75 1 rfl ?_
        refine go_iaload C dX12_from_76 hw (fun v14 hw => ?_)
        refine go_iadd C dX12_from_77 ?_
        refine go_iload_n C dX12_from_78 2 rfl ?_
        refine go_iastore C dX12_from_79 hw (fun h15 hw => ?_)
        refine go_aload_n C dX12_from_80 0 rfl ?_
        refine go_getA C (cfX12) (k := 25) (Nat.le_of_ble_eq_true rfl) tw7_108 rfl dX12_from_81 hw (fun a16 hw => ?_)
        refine go_iload_n C dX12_from_84 1 rfl ?_
        refine go_dup2 C _ _ dX12_from_85 rfl rfl ?_
        refine go_iaload C dX12_from_86 hw (fun v17 hw => ?_)
        refine go_iconst C 1 dX12_from_87 kc_i1 ?_
        refine go_iadd C dX12_from_88 ?_
        refine go_iastore C dX12_from_89 hw (fun h18 hw => ?_)
        refine go_aload_n C dX12_from_90 0 rfl ?_
        refine go_getA C (cfX12) (k := 25) (Nat.le_of_ble_eq_true rfl) tw7_108 rfl dX12_from_91 hw (fun a19 hw => ?_)
        refine go_iload_n C dX12_from_94 1 rfl ?_
        refine go_iaload C dX12_from_95 hw (fun v20 hw => ?_)
        exact go_iret C dX12_from_96 hw (Nat.le_of_ble_eq_true rfl) (Nat.le_of_ble_eq_true rfl)
      refine go_iconst C (-1) dX12_from_57 kc_im1 ?_
      exact go_iret C dX12_from_58 hw (Nat.le_of_ble_eq_true rfl) (Nat.le_of_ble_eq_true rfl)
    refine go_icmp_ne C 49 dX12_from_42 (by decide) hw (fun hw => ?_) (fun hw => ?_)
    · refine go_iconst C 0 dX12_from_49 kc_i0 ?_
      exact hj50 0 hw
    refine go_iconst C 1 dX12_from_45 kc_i1 ?_
    refine go_goto C 50 dX12_from_46 (by decide) ?_
    exact hj50 1 hw
  refine jn_elim (P := fun j => j  → Go G X rmX12_from 3 0 0 (QN G X (QI G K) rmX12_from) h1 22 [(0, rV (some a0)), (1, iV p1), (2, iV p2)] [rV (some a0)]) hw (fun  hw => ?_) (fun j22 hj22 hw => ?_)
  · refine go_iconst C 1 dX12_from_22 kc_i1 ?_
    refine go_goto C 27 dX12_from_23 (by decide) ?_
    exact hj27 1 hw
  refine go_if_eq C 22 dX12_from_11 (by decide) hw (fun hw => ?_) (fun hw => ?_)
  · exact hj22  hw
  refine go_aload_n C dX12_from_14 0 rfl ?_
  refine go_iload_n C dX12_from_15 2 rfl ?_
  refine go_pV_i C [iV p2] vX12_isTable tw8_31 (ci := 12) rfl (m_X12_isTable (xl X) C.2.2.2.2.2.2.2.1 N hw.2) ⟨Nat.le_of_ble_eq_true rfl, Nat.le_of_ble_eq_true rfl, Nat.le_of_ble_eq_true rfl, Nat.le_of_ble_eq_true rfl⟩ ⟨rfl, rfl⟩ hw.1 dX12_from_16 rfl (Nat.le_of_ble_eq_true rfl) rfl (fun v21 hw => ?_)
  refine go_if_ne C 26 dX12_from_19 (by decide) hw (fun hw => ?_) (fun hw => ?_)
  · refine go_iconst C 0 dX12_from_26 kc_i0 ?_
    exact hj27 0 hw
  exact hj22  hw
/-- DuelSchemaModel.where(IIICI)I -/
def w_X12_where (N : Nat) (a0 : Nat) (p1 : Int32) (p2 : Int32) (p3 : Int32) (p4 : Int32) (p5 : Int32) (h0 : Hp) (K : Int32 → Hp → Prop) : Prop :=
  pF h0 a0 12 0 (iV 0) fun h1 =>
  jn (fun (v2 : Int32) => 
    cv h1 a0 12 <| w_X12_isQuery N a0 p1 h1 fun v3 =>
    jn (fun (v4 : Int32) => 
      cv h1 a0 12 <| w_X12_fails N a0 v4 1 h1 fun v5 h6 =>
      br (v5 = 0) (
        cv h6 a0 12 <| w_X12_isPlace N a0 p1 p2 p3 h6 fun v7 =>
        jn (fun (v8 : Int32) => 
          cv h6 a0 12 <| w_X12_fails N a0 v8 2 h6 fun v9 h10 =>
          br (v9 = 0) (
            gA h10 a0 12 27 fun a11 =>
            aI h10 a11 0 p1 fun v12 =>
            jn (fun (v13 : Int32) => 
              cv h10 a0 12 <| w_X12_fails N a0 v13 3 h10 fun v14 h15 =>
              br (v14 = 0) (
                pF h15 a0 12 16 (iV 0) fun h16 =>
                gA h16 a0 12 27 fun a17 =>
                aI h16 a17 0 p1 fun v18 =>
                gA h16 a0 12 28 fun a19 =>
                sI h16 a19 0 ((4 * p1) + v18) p2 fun h20 =>
                gA h20 a0 12 29 fun a21 =>
                sI h20 a21 0 ((4 * p1) + v18) p3 fun h22 =>
                gA h22 a0 12 30 fun a23 =>
                sI h22 a23 0 ((4 * p1) + v18) p4 fun h24 =>
                gA h24 a0 12 31 fun a25 =>
                sI h24 a25 0 ((4 * p1) + v18) p5 fun h26 =>
                gA h26 a0 12 27 fun a27 =>
                aI h26 a27 0 p1 fun v28 =>
                sI h26 a27 0 p1 (v28 + 1) fun h29 =>
                gA h29 a0 12 27 fun a30 =>
                aI h29 a30 0 p1 fun v31 =>
                K v31 h29) (
                K (-1) h15)) (fun j109 =>
            br (v12 = 4) (
              j109 1) (
              j109 0))) (
            K (-1) h10)) (fun j86 =>
        jn (
          j86 1) (fun j81 =>
        br (v7 = 0) (
          j81 ) (
          br (v2 = 0) (
            j81 ) (
            w_X12_in N p5 0 99 h6 fun v32 =>
            br (v32 = 0) (
              j81 ) (
              j86 0)))))) (
        K (-1) h6)) (fun j47 =>
    br (v3 = 0) (
      j47 1) (
      j47 0))) (fun j31 =>
  jn (
    j31 1) (fun j26 =>
  br (p4 = 61) (
    j26 ) (
    br (p4 = 60) (
      j26 ) (
      br (p4 = 62) (
        j26 ) (
        j31 0)))))
abbrev rmX12_where : Room := { frames := 6, cells := 0, slots := 0, locals := 148 }
theorem vX12_where : VI RX12 yX12_where cX12_where 8 (some .int) 5 := ⟨tw8_147, tw8_148, tw1_8, tw8_149, by decide +kernel⟩
set_option maxHeartbeats 4000000 in
theorem m_X12_where {G : Gp} (l : Launch) (hfl : l.stackTraces = false) (N : Nat) {a0 : Nat} {p1 : Int32} {p2 : Int32} {p3 : Int32} {p4 : Int32} {p5 : Int32} {h0 : Hp} {K : Int32 → Hp → Prop} (hw : w_X12_where N a0 p1 p2 p3 p4 p5 h0 K) : MT G l yX12_where cX12_where 8 (some .int) rmX12_where [rV (some a0), iV p1, iV p2, iV p3, iV p4, iV p5] h0 (QI G K) := by
  refine go_metT l hfl _ 8 _ _ rfl (by decide +kernel) (Nat.le_of_ble_eq_true rfl) [(0, rV (some a0)), (1, iV p1), (2, iV p2), (3, iV p3), (4, iV p4), (5, iV p5)] rfl (fun X hX C hn => ?_)
  subst hX
  unfold w_X12_where at hw
  refine go_aload_n C dX12_where_0 0 rfl ?_
  refine go_iconst C 0 dX12_where_1 kc_i0 ?_
  refine go_putI C (cfX12) (k := 0) (Nat.le_of_ble_eq_true rfl) tw7_83 rfl (Or.inl rfl) rfl dX12_where_2 hw (fun h1 hw => ?_)
  refine go_iload C dX12_where_5 4 rfl ?_
  refine go_bipush C 61 dX12_where_7 kc_b61 ?_
  refine jn_elim (P := fun j => ∀ (v2 : Int32), j v2 → Go G X rmX12_where 8 0 0 (QN G X (QI G K) rmX12_where) h1 31 [(0, rV (some a0)), (1, iV p1), (2, iV p2), (3, iV p3), (4, iV p4), (5, iV p5)] [iV v2]) hw (fun v2 hw => ?_) (fun j31 hj31 hw => ?_)
  · refine go_istore C [(6, iV v2), (0, rV (some a0)), (1, iV p1), (2, iV p2), (3, iV p3), (4, iV p4), (5, iV p5)] dX12_where_31 (Nat.le_of_ble_eq_true rfl) rfl ?_
    refine go_aload_n C dX12_where_33 1 rfl ?_
    refine go_aload_n C dX12_where_34 1 rfl ?_
    refine go_iload_n C dX12_where_35 2 rfl ?_
    refine go_pV_i C [iV p1] vX12_isQuery tw8_142 (ci := 12) rfl (m_X12_isQuery (xl X) C.2.2.2.2.2.2.2.1 N hw.2) ⟨Nat.le_of_ble_eq_true rfl, Nat.le_of_ble_eq_true rfl, Nat.le_of_ble_eq_true rfl, Nat.le_of_ble_eq_true rfl⟩ ⟨rfl, rfl⟩ hw.1 dX12_where_36 rfl (Nat.le_of_ble_eq_true rfl) rfl (fun v3 hw => ?_)
    refine jn_elim (P := fun j => ∀ (v4 : Int32), j v4 → Go G X rmX12_where 8 0 0 (QN G X (QI G K) rmX12_where) h1 47 [(0, rV (some a0)), (1, iV p1), (2, iV p2), (3, iV p3), (4, iV p4), (5, iV p5), (6, iV v2)] [iV v4, rV (some a0)]) hw (fun v4 hw => ?_) (fun j47 hj47 hw => ?_)
    · refine go_iconst C 1 dX12_where_47 kc_i1 ?_
      refine go_c0V_i C [iV v4, iV 1] vX12_fails tw8_23 (ci := 12) rfl (m_X12_fails (xl X) C.2.2.2.2.2.2.2.1 N hw.2) ⟨Nat.le_of_ble_eq_true rfl, Nat.le_of_ble_eq_true rfl, Nat.le_of_ble_eq_true rfl, Nat.le_of_ble_eq_true rfl⟩ ⟨rfl, rfl⟩ hw.1 dX12_where_48 rfl (Nat.le_of_ble_eq_true rfl) rfl (fun v5 h6 hw => ?_)
      refine go_if_ne C 116 dX12_where_51 (by decide) hw (fun hw => ?_) (fun hw => ?_)
      · refine go_iconst C (-1) dX12_where_116 kc_im1 ?_
        exact go_iret C dX12_where_117 hw (Nat.le_of_ble_eq_true rfl) (Nat.le_of_ble_eq_true rfl)
      refine go_aload_n C dX12_where_54 0 rfl ?_
      refine go_aload_n C dX12_where_55 0 rfl ?_
      refine go_iload_n C dX12_where_56 1 rfl ?_
      refine go_iload_n C dX12_where_57 2 rfl ?_
      refine go_iload_n C dX12_where_58 3 rfl ?_
      refine go_pV_i C [iV p1, iV p2, iV p3] vX12_isPlace tw8_150 (ci := 12) rfl (m_X12_isPlace (xl X) C.2.2.2.2.2.2.2.1 N hw.2) ⟨Nat.le_of_ble_eq_true rfl, Nat.le_of_ble_eq_true rfl, Nat.le_of_ble_eq_true rfl, Nat.le_of_ble_eq_true rfl⟩ ⟨rfl, rfl⟩ hw.1 dX12_where_59 rfl (Nat.le_of_ble_eq_true rfl) rfl (fun v7 hw => ?_)
      refine jn_elim (P := fun j => ∀ (v8 : Int32), j v8 → Go G X rmX12_where 8 0 0 (QN G X (QI G K) rmX12_where) h6 86 [(0, rV (some a0)), (1, iV p1), (2, iV p2), (3, iV p3), (4, iV p4), (5, iV p5)] [iV v8, rV (some a0)]) hw (fun v8 hw => ?_) (fun j86 hj86 hw => ?_)
      · refine go_iconst C 2 dX12_where_86 kc_i2 ?_
        refine go_c0V_i C [iV v8, iV 2] vX12_fails tw8_23 (ci := 12) rfl (m_X12_fails (xl X) C.2.2.2.2.2.2.2.1 N hw.2) ⟨Nat.le_of_ble_eq_true rfl, Nat.le_of_ble_eq_true rfl, Nat.le_of_ble_eq_true rfl, Nat.le_of_ble_eq_true rfl⟩ ⟨rfl, rfl⟩ hw.1 dX12_where_87 rfl (Nat.le_of_ble_eq_true rfl) rfl (fun v9 h10 hw => ?_)
        refine go_if_ne C 116 dX12_where_90 (by decide) hw (fun hw => ?_) (fun hw => ?_)
        · refine go_iconst C (-1) dX12_where_116 kc_im1 ?_
          exact go_iret C dX12_where_117 hw (Nat.le_of_ble_eq_true rfl) (Nat.le_of_ble_eq_true rfl)
        refine go_aload_n C dX12_where_93 0 rfl ?_
        refine go_aload_n C dX12_where_94 0 rfl ?_
        refine go_getA C (cfX12) (k := 27) (Nat.le_of_ble_eq_true rfl) tw7_110 rfl dX12_where_95 hw (fun a11 hw => ?_)
        refine go_iload_n C dX12_where_98 1 rfl ?_
        refine go_iaload C dX12_where_99 hw (fun v12 hw => ?_)
        refine go_iconst C 4 dX12_where_100 kc_i4 ?_
        refine jn_elim (P := fun j => ∀ (v13 : Int32), j v13 → Go G X rmX12_where 8 0 0 (QN G X (QI G K) rmX12_where) h10 109 [(0, rV (some a0)), (1, iV p1), (2, iV p2), (3, iV p3), (4, iV p4), (5, iV p5)] [iV v13, rV (some a0)]) hw (fun v13 hw => ?_) (fun j109 hj109 hw => ?_)
        · refine go_iconst C 3 dX12_where_109 kc_i3 ?_
          refine go_c0V_i C [iV v13, iV 3] vX12_fails tw8_23 (ci := 12) rfl (m_X12_fails (xl X) C.2.2.2.2.2.2.2.1 N hw.2) ⟨Nat.le_of_ble_eq_true rfl, Nat.le_of_ble_eq_true rfl, Nat.le_of_ble_eq_true rfl, Nat.le_of_ble_eq_true rfl⟩ ⟨rfl, rfl⟩ hw.1 dX12_where_110 rfl (Nat.le_of_ble_eq_true rfl) rfl (fun v14 h15 hw => ?_)
          refine go_if_eq C 118 dX12_where_113 (by decide) hw (fun hw => ?_) (fun hw => ?_)
          · refine go_aload_n C dX12_where_118 0 rfl ?_
            refine go_iconst C 0 dX12_where_119 kc_i0 ?_
            refine go_putZ C (cfX12) (k := 16) (Nat.le_of_ble_eq_true rfl) tw7_99 rfl (Or.inl rfl) rfl dX12_where_120 ⟨⟨rfl, rfl⟩, hw⟩ (fun h16 hw => ?_)
            refine go_iconst C 4 dX12_where_123 kc_i4 ?_
            refine go_iload_n C dX12_where_124 1 rfl ?_
            refine go_imul C dX12_where_125 ?_
            refine go_aload_n C dX12_where_126 0 rfl ?_
            refine go_getA C (cfX12) (k := 27) (Nat.le_of_ble_eq_true rfl) tw7_110 rfl dX12_where_127 hw (fun a17 hw => ?_)
            refine go_iload_n C dX12_where_130 1 rfl ?_
            refine go_iaload C dX12_where_131 hw (fun v18 hw => ?_)
            refine go_iadd C dX12_where_132 ?_
            refine go_istore C [(7, iV ((4 * p1) + v18)), (0, rV (some a0)), (1, iV p1), (2, iV p2), (3, iV p3), (4, iV p4), (5, iV p5)] dX12_where_133 (Nat.le_of_ble_eq_true rfl) rfl ?_
            refine go_aload_n C dX12_where_135 1 rfl ?_
            refine go_getA C (cfX12) (k := 28) (Nat.le_of_ble_eq_true rfl) tw7_111 rfl dX12_where_136 hw (fun a19 hw => ?_)
            refine go_iload C dX12_where_139 0 rfl ?_
            refine go_iload_n C dX12_where_141 3 rfl ?_
            refine go_iastore C dX12_where_142 hw (fun h20 hw => ?_)
            refine go_aload_n C dX12_where_143 1 rfl ?_
            refine go_getA C (cfX12) (k := 29) (Nat.le_of_ble_eq_true rfl) tw7_112 rfl dX12_where_144 hw (fun a21 hw => ?_)
            refine go_iload C dX12_where_147 0 rfl ?_
            refine go_iload_n C dX12_where_149 4 rfl ?_
            refine go_iastore C dX12_where_150 hw (fun h22 hw => ?_)
            refine go_aload_n C dX12_where_151 1 rfl ?_
            refine go_getA C (cfX12) (k := 30) (Nat.le_of_ble_eq_true rfl) tw7_113 rfl dX12_where_152 hw (fun a23 hw => ?_)
            refine go_iload C dX12_where_155 0 rfl ?_
            refine go_iload C dX12_where_157 5 rfl ?_
            refine go_iastore C dX12_where_159 hw (fun h24 hw => ?_)
            refine go_aload_n C dX12_where_160 1 rfl ?_
            refine go_getA C (cfX12) (k := 31) (Nat.le_of_ble_eq_true rfl) tw7_114 rfl dX12_where_161 hw (fun a25 hw => ?_)
            refine go_iload C dX12_where_164 0 rfl ?_
            refine go_iload C dX12_where_166 6 rfl ?_
            refine go_iastore C dX12_where_168 hw (fun h26 hw => ?_)
            refine go_aload_n C dX12_where_169 1 rfl ?_
            refine go_getA C (cfX12) (k := 27) (Nat.le_of_ble_eq_true rfl) tw7_110 rfl dX12_where_170 hw (fun a27 hw => ?_)
            refine go_iload_n C dX12_where_173 2 rfl ?_
            refine go_dup2 C _ _ dX12_where_174 rfl rfl ?_
            refine go_iaload C dX12_where_175 hw (fun v28 hw => ?_)
            refine go_iconst C 1 dX12_where_176 kc_i1 ?_
            refine go_iadd C dX12_where_177 ?_
            refine go_iastore C dX12_where_178 hw (fun h29 hw => ?_)
            refine go_aload_n C dX12_where_179 1 rfl ?_
            refine go_getA C (cfX12) (k := 27) (Nat.le_of_ble_eq_true rfl) tw7_110 rfl dX12_where_180 hw (fun a30 hw => ?_)
            refine go_iload_n C dX12_where_183 2 rfl ?_
            refine go_iaload C dX12_where_184 hw (fun v31 hw => ?_)
            exact go_iret C dX12_where_185 hw (Nat.le_of_ble_eq_true rfl) (Nat.le_of_ble_eq_true rfl)
          refine go_iconst C (-1) dX12_where_116 kc_im1 ?_
          exact go_iret C dX12_where_117 hw (Nat.le_of_ble_eq_true rfl) (Nat.le_of_ble_eq_true rfl)
        refine go_icmp_ne C 108 dX12_where_101 (by decide) hw (fun hw => ?_) (fun hw => ?_)
        · refine go_iconst C 0 dX12_where_108 kc_i0 ?_
          exact hj109 0 hw
        refine go_iconst C 1 dX12_where_104 kc_i1 ?_
        refine go_goto C 109 dX12_where_105 (by decide) ?_
        exact hj109 1 hw
      refine jn_elim (P := fun j => j  → Go G X rmX12_where 8 0 0 (QN G X (QI G K) rmX12_where) h6 81 [(0, rV (some a0)), (1, iV p1), (2, iV p2), (3, iV p3), (4, iV p4), (5, iV p5)] [rV (some a0)]) hw (fun  hw => ?_) (fun j81 hj81 hw => ?_)
      · refine go_iconst C 1 dX12_where_81 kc_i1 ?_
        refine go_goto C 86 dX12_where_82 (by decide) ?_
        exact hj86 1 hw
      refine go_if_eq C 81 dX12_where_62 (by decide) hw (fun hw => ?_) (fun hw => ?_)
      · refine go_sub [0, 1, 2, 3, 4, 5] rfl ?_
        exact hj81  hw
      refine go_iload C dX12_where_65 6 rfl ?_
      refine go_if_eq C 81 dX12_where_67 (by decide) hw (fun hw => ?_) (fun hw => ?_)
      · refine go_sub [0, 1, 2, 3, 4, 5] rfl ?_
        exact hj81  hw
      refine go_iload C dX12_where_70 5 rfl ?_
      refine go_iconst C 0 dX12_where_72 kc_i0 ?_
      refine go_bipush C 99 dX12_where_73 kc_b99 ?_
      refine go_pS_i C [iV p5, iV 0, iV 99] vX12_in tw8_20 (m_X12_in (xl X) C.2.2.2.2.2.2.2.1 N hw) ⟨Nat.le_of_ble_eq_true rfl, Nat.le_of_ble_eq_true rfl, Nat.le_of_ble_eq_true rfl, Nat.le_of_ble_eq_true rfl⟩ ⟨rfl, rfl⟩ dX12_where_75 rfl (Nat.le_of_ble_eq_true rfl) rfl (fun v32 hw => ?_)
      refine go_if_ne C 85 dX12_where_78 (by decide) hw (fun hw => ?_) (fun hw => ?_)
      · refine go_iconst C 0 dX12_where_85 kc_i0 ?_
        refine go_sub [0, 1, 2, 3, 4, 5] rfl ?_
        exact hj86 0 hw
      refine go_sub [0, 1, 2, 3, 4, 5] rfl ?_
      exact hj81  hw
    refine go_if_ne C 46 dX12_where_39 (by decide) hw (fun hw => ?_) (fun hw => ?_)
    · refine go_iconst C 0 dX12_where_46 kc_i0 ?_
      refine go_sub [1, 2, 3, 4, 5, 6, 0] rfl ?_
      exact hj47 0 hw
    refine go_iconst C 1 dX12_where_42 kc_i1 ?_
    refine go_goto C 47 dX12_where_43 (by decide) ?_
    refine go_sub [1, 2, 3, 4, 5, 6, 0] rfl ?_
    exact hj47 1 hw
  refine jn_elim (P := fun j => j  → Go G X rmX12_where 8 0 0 (QN G X (QI G K) rmX12_where) h1 26 [(0, rV (some a0)), (1, iV p1), (2, iV p2), (3, iV p3), (4, iV p4), (5, iV p5)] []) hw (fun  hw => ?_) (fun j26 hj26 hw => ?_)
  · refine go_iconst C 1 dX12_where_26 kc_i1 ?_
    refine go_goto C 31 dX12_where_27 (by decide) ?_
    exact hj31 1 hw
  refine go_icmp_eq C 26 dX12_where_9 (by decide) hw (fun hw => ?_) (fun hw => ?_)
  · exact hj26  hw
  refine go_iload C dX12_where_12 4 rfl ?_
  refine go_bipush C 60 dX12_where_14 kc_b60 ?_
  refine go_icmp_eq C 26 dX12_where_16 (by decide) hw (fun hw => ?_) (fun hw => ?_)
  · exact hj26  hw
  refine go_iload C dX12_where_19 4 rfl ?_
  refine go_bipush C 62 dX12_where_21 kc_b62 ?_
  refine go_icmp_ne C 30 dX12_where_23 (by decide) hw (fun hw => ?_) (fun hw => ?_)
  · refine go_iconst C 0 dX12_where_30 kc_i0 ?_
    exact hj31 0 hw
  exact hj26  hw
/-- DuelSchemaModel.join(IIIII)I -/
def w_X12_join (N : Nat) (a0 : Nat) (p1 : Int32) (p2 : Int32) (p3 : Int32) (p4 : Int32) (p5 : Int32) (h0 : Hp) (K : Int32 → Hp → Prop) : Prop :=
  pF h0 a0 12 0 (iV 0) fun h1 =>
  cv h1 a0 12 <| w_X12_isQuery N a0 p1 h1 fun v2 =>
  jn (fun (v3 : Int32) => 
    cv h1 a0 12 <| w_X12_fails N a0 v3 1 h1 fun v4 h5 =>
    br (v4 = 0) (
      cv h5 a0 12 <| w_X12_isPlace N a0 p1 p2 p3 h5 fun v6 =>
      jn (fun (v7 : Int32) => 
        cv h5 a0 12 <| w_X12_fails N a0 v7 2 h5 fun v8 h9 =>
        br (v8 = 0) (
          gA h9 a0 12 32 fun a10 =>
          aI h9 a10 0 p1 fun v11 =>
          jn (fun (v12 : Int32) => 
            cv h9 a0 12 <| w_X12_fails N a0 v12 3 h9 fun v13 h14 =>
            br (v13 = 0) (
              pF h14 a0 12 16 (iV 0) fun h15 =>
              gA h15 a0 12 32 fun a16 =>
              aI h15 a16 0 p1 fun v17 =>
              gA h15 a0 12 33 fun a18 =>
              sI h15 a18 0 ((3 * p1) + v17) p2 fun h19 =>
              gA h19 a0 12 34 fun a20 =>
              sI h19 a20 0 ((3 * p1) + v17) p3 fun h21 =>
              gA h21 a0 12 35 fun a22 =>
              sI h21 a22 0 ((3 * p1) + v17) p4 fun h23 =>
              gA h23 a0 12 36 fun a24 =>
              sI h23 a24 0 ((3 * p1) + v17) p5 fun h25 =>
              gA h25 a0 12 32 fun a26 =>
              aI h25 a26 0 p1 fun v27 =>
              sI h25 a26 0 p1 (v27 + 1) fun h28 =>
              gA h28 a0 12 32 fun a29 =>
              aI h28 a29 0 p1 fun v30 =>
              K v30 h28) (
              K (-1) h14)) (fun j83 =>
          br (v11 = 3) (
            j83 1) (
            j83 0))) (
          K (-1) h9)) (fun j60 =>
      jn (
        j60 1) (fun j55 =>
      br (v6 = 0) (
        j55 ) (
        cv h5 a0 12 <| w_X12_isPlace N a0 p1 p4 p5 h5 fun v31 =>
        br (v31 = 0) (
          j55 ) (
          br (p2 = p4) (
            j55 ) (
            j60 0)))))) (
      K (-1) h5)) (fun j19 =>
  br (v2 = 0) (
    j19 1) (
    j19 0))
abbrev rmX12_join : Room := { frames := 6, cells := 0, slots := 0, locals := 148 }
theorem vX12_join : VI RX12 yX12_join cX12_join 7 (some .int) 5 := ⟨tw8_155, tw8_156, tw1_8, tw8_157, by decide +kernel⟩
set_option maxHeartbeats 4000000 in
theorem m_X12_join {G : Gp} (l : Launch) (hfl : l.stackTraces = false) (N : Nat) {a0 : Nat} {p1 : Int32} {p2 : Int32} {p3 : Int32} {p4 : Int32} {p5 : Int32} {h0 : Hp} {K : Int32 → Hp → Prop} (hw : w_X12_join N a0 p1 p2 p3 p4 p5 h0 K) : MT G l yX12_join cX12_join 7 (some .int) rmX12_join [rV (some a0), iV p1, iV p2, iV p3, iV p4, iV p5] h0 (QI G K) := by
  refine go_metT l hfl _ 7 _ _ rfl (by decide +kernel) (Nat.le_of_ble_eq_true rfl) [(0, rV (some a0)), (1, iV p1), (2, iV p2), (3, iV p3), (4, iV p4), (5, iV p5)] rfl (fun X hX C hn => ?_)
  subst hX
  unfold w_X12_join at hw
  refine go_aload_n C dX12_join_0 0 rfl ?_
  refine go_iconst C 0 dX12_join_1 kc_i0 ?_
  refine go_putI C (cfX12) (k := 0) (Nat.le_of_ble_eq_true rfl) tw7_83 rfl (Or.inl rfl) rfl dX12_join_2 hw (fun h1 hw => ?_)
  refine go_aload_n C dX12_join_5 0 rfl ?_
  refine go_aload_n C dX12_join_6 0 rfl ?_
  refine go_iload_n C dX12_join_7 1 rfl ?_
  refine go_pV_i C [iV p1] vX12_isQuery tw8_142 (ci := 12) rfl (m_X12_isQuery (xl X) C.2.2.2.2.2.2.2.1 N hw.2) ⟨Nat.le_of_ble_eq_true rfl, Nat.le_of_ble_eq_true rfl, Nat.le_of_ble_eq_true rfl, Nat.le_of_ble_eq_true rfl⟩ ⟨rfl, rfl⟩ hw.1 dX12_join_8 rfl (Nat.le_of_ble_eq_true rfl) rfl (fun v2 hw => ?_)
  refine jn_elim (P := fun j => ∀ (v3 : Int32), j v3 → Go G X rmX12_join 7 0 0 (QN G X (QI G K) rmX12_join) h1 19 [(0, rV (some a0)), (1, iV p1), (2, iV p2), (3, iV p3), (4, iV p4), (5, iV p5)] [iV v3, rV (some a0)]) hw (fun v3 hw => ?_) (fun j19 hj19 hw => ?_)
  · refine go_iconst C 1 dX12_join_19 kc_i1 ?_
    refine go_c0V_i C [iV v3, iV 1] vX12_fails tw8_23 (ci := 12) rfl (m_X12_fails (xl X) C.2.2.2.2.2.2.2.1 N hw.2) ⟨Nat.le_of_ble_eq_true rfl, Nat.le_of_ble_eq_true rfl, Nat.le_of_ble_eq_true rfl, Nat.le_of_ble_eq_true rfl⟩ ⟨rfl, rfl⟩ hw.1 dX12_join_20 rfl (Nat.le_of_ble_eq_true rfl) rfl (fun v4 h5 hw => ?_)
    refine go_if_ne C 90 dX12_join_23 (by decide) hw (fun hw => ?_) (fun hw => ?_)
    · refine go_iconst C (-1) dX12_join_90 kc_im1 ?_
      exact go_iret C dX12_join_91 hw (Nat.le_of_ble_eq_true rfl) (Nat.le_of_ble_eq_true rfl)
    refine go_aload_n C dX12_join_26 0 rfl ?_
    refine go_aload_n C dX12_join_27 0 rfl ?_
    refine go_iload_n C dX12_join_28 1 rfl ?_
    refine go_iload_n C dX12_join_29 2 rfl ?_
    refine go_iload_n C dX12_join_30 3 rfl ?_
    refine go_pV_i C [iV p1, iV p2, iV p3] vX12_isPlace tw8_150 (ci := 12) rfl (m_X12_isPlace (xl X) C.2.2.2.2.2.2.2.1 N hw.2) ⟨Nat.le_of_ble_eq_true rfl, Nat.le_of_ble_eq_true rfl, Nat.le_of_ble_eq_true rfl, Nat.le_of_ble_eq_true rfl⟩ ⟨rfl, rfl⟩ hw.1 dX12_join_31 rfl (Nat.le_of_ble_eq_true rfl) rfl (fun v6 hw => ?_)
    refine jn_elim (P := fun j => ∀ (v7 : Int32), j v7 → Go G X rmX12_join 7 0 0 (QN G X (QI G K) rmX12_join) h5 60 [(0, rV (some a0)), (1, iV p1), (2, iV p2), (3, iV p3), (4, iV p4), (5, iV p5)] [iV v7, rV (some a0)]) hw (fun v7 hw => ?_) (fun j60 hj60 hw => ?_)
    · refine go_iconst C 2 dX12_join_60 kc_i2 ?_
      refine go_c0V_i C [iV v7, iV 2] vX12_fails tw8_23 (ci := 12) rfl (m_X12_fails (xl X) C.2.2.2.2.2.2.2.1 N hw.2) ⟨Nat.le_of_ble_eq_true rfl, Nat.le_of_ble_eq_true rfl, Nat.le_of_ble_eq_true rfl, Nat.le_of_ble_eq_true rfl⟩ ⟨rfl, rfl⟩ hw.1 dX12_join_61 rfl (Nat.le_of_ble_eq_true rfl) rfl (fun v8 h9 hw => ?_)
      refine go_if_ne C 90 dX12_join_64 (by decide) hw (fun hw => ?_) (fun hw => ?_)
      · refine go_iconst C (-1) dX12_join_90 kc_im1 ?_
        exact go_iret C dX12_join_91 hw (Nat.le_of_ble_eq_true rfl) (Nat.le_of_ble_eq_true rfl)
      refine go_aload_n C dX12_join_67 0 rfl ?_
      refine go_aload_n C dX12_join_68 0 rfl ?_
      refine go_getA C (cfX12) (k := 32) (Nat.le_of_ble_eq_true rfl) tw7_115 rfl dX12_join_69 hw (fun a10 hw => ?_)
      refine go_iload_n C dX12_join_72 1 rfl ?_
      refine go_iaload C dX12_join_73 hw (fun v11 hw => ?_)
      refine go_iconst C 3 dX12_join_74 kc_i3 ?_
      refine jn_elim (P := fun j => ∀ (v12 : Int32), j v12 → Go G X rmX12_join 7 0 0 (QN G X (QI G K) rmX12_join) h9 83 [(0, rV (some a0)), (1, iV p1), (2, iV p2), (3, iV p3), (4, iV p4), (5, iV p5)] [iV v12, rV (some a0)]) hw (fun v12 hw => ?_) (fun j83 hj83 hw => ?_)
      · refine go_iconst C 3 dX12_join_83 kc_i3 ?_
        refine go_c0V_i C [iV v12, iV 3] vX12_fails tw8_23 (ci := 12) rfl (m_X12_fails (xl X) C.2.2.2.2.2.2.2.1 N hw.2) ⟨Nat.le_of_ble_eq_true rfl, Nat.le_of_ble_eq_true rfl, Nat.le_of_ble_eq_true rfl, Nat.le_of_ble_eq_true rfl⟩ ⟨rfl, rfl⟩ hw.1 dX12_join_84 rfl (Nat.le_of_ble_eq_true rfl) rfl (fun v13 h14 hw => ?_)
        refine go_if_eq C 92 dX12_join_87 (by decide) hw (fun hw => ?_) (fun hw => ?_)
        · refine go_aload_n C dX12_join_92 0 rfl ?_
          refine go_iconst C 0 dX12_join_93 kc_i0 ?_
          refine go_putZ C (cfX12) (k := 16) (Nat.le_of_ble_eq_true rfl) tw7_99 rfl (Or.inl rfl) rfl dX12_join_94 ⟨⟨rfl, rfl⟩, hw⟩ (fun h15 hw => ?_)
          refine go_iconst C 3 dX12_join_97 kc_i3 ?_
          refine go_iload_n C dX12_join_98 1 rfl ?_
          refine go_imul C dX12_join_99 ?_
          refine go_aload_n C dX12_join_100 0 rfl ?_
          refine go_getA C (cfX12) (k := 32) (Nat.le_of_ble_eq_true rfl) tw7_115 rfl dX12_join_101 hw (fun a16 hw => ?_)
          refine go_iload_n C dX12_join_104 1 rfl ?_
          refine go_iaload C dX12_join_105 hw (fun v17 hw => ?_)
          refine go_iadd C dX12_join_106 ?_
          refine go_istore C [(6, iV ((3 * p1) + v17)), (0, rV (some a0)), (1, iV p1), (2, iV p2), (3, iV p3), (4, iV p4), (5, iV p5)] dX12_join_107 (Nat.le_of_ble_eq_true rfl) rfl ?_
          refine go_aload_n C dX12_join_109 1 rfl ?_
          refine go_getA C (cfX12) (k := 33) (Nat.le_of_ble_eq_true rfl) tw7_116 rfl dX12_join_110 hw (fun a18 hw => ?_)
          refine go_iload C dX12_join_113 0 rfl ?_
          refine go_iload_n C dX12_join_115 3 rfl ?_
          refine go_iastore C dX12_join_116 hw (fun h19 hw => ?_)
          refine go_aload_n C dX12_join_117 1 rfl ?_
          refine go_getA C (cfX12) (k := 34) (Nat.le_of_ble_eq_true rfl) tw7_117 rfl dX12_join_118 hw (fun a20 hw => ?_)
          refine go_iload C dX12_join_121 0 rfl ?_
          refine go_iload_n C dX12_join_123 4 rfl ?_
          refine go_iastore C dX12_join_124 hw (fun h21 hw => ?_)
          refine go_aload_n C dX12_join_125 1 rfl ?_
          refine go_getA C (cfX12) (k := 35) (Nat.le_of_ble_eq_true rfl) tw7_118 rfl dX12_join_126 hw (fun a22 hw => ?_)
          refine go_iload C dX12_join_129 0 rfl ?_
          refine go_iload C dX12_join_131 5 rfl ?_
          refine go_iastore C dX12_join_133 hw (fun h23 hw => ?_)
          refine go_aload_n C dX12_join_134 1 rfl ?_
          refine go_getA C (cfX12) (k := 36) (Nat.le_of_ble_eq_true rfl) tw7_119 rfl dX12_join_135 hw (fun a24 hw => ?_)
          refine go_iload C dX12_join_138 0 rfl ?_
          refine go_iload C dX12_join_140 6 rfl ?_
          refine go_iastore C dX12_join_142 hw (fun h25 hw => ?_)
          refine go_aload_n C dX12_join_143 1 rfl ?_
          refine go_getA C (cfX12) (k := 32) (Nat.le_of_ble_eq_true rfl) tw7_115 rfl dX12_join_144 hw (fun a26 hw => ?_)
          refine go_iload_n C dX12_join_147 2 rfl ?_
          refine go_dup2 C _ _ dX12_join_148 rfl rfl ?_
          refine go_iaload C dX12_join_149 hw (fun v27 hw => ?_)
          refine go_iconst C 1 dX12_join_150 kc_i1 ?_
          refine go_iadd C dX12_join_151 ?_
          refine go_iastore C dX12_join_152 hw (fun h28 hw => ?_)
          refine go_aload_n C dX12_join_153 1 rfl ?_
          refine go_getA C (cfX12) (k := 32) (Nat.le_of_ble_eq_true rfl) tw7_115 rfl dX12_join_154 hw (fun a29 hw => ?_)
          refine go_iload_n C dX12_join_157 2 rfl ?_
          refine go_iaload C dX12_join_158 hw (fun v30 hw => ?_)
          exact go_iret C dX12_join_159 hw (Nat.le_of_ble_eq_true rfl) (Nat.le_of_ble_eq_true rfl)
        refine go_iconst C (-1) dX12_join_90 kc_im1 ?_
        exact go_iret C dX12_join_91 hw (Nat.le_of_ble_eq_true rfl) (Nat.le_of_ble_eq_true rfl)
      refine go_icmp_ne C 82 dX12_join_75 (by decide) hw (fun hw => ?_) (fun hw => ?_)
      · refine go_iconst C 0 dX12_join_82 kc_i0 ?_
        exact hj83 0 hw
      refine go_iconst C 1 dX12_join_78 kc_i1 ?_
      refine go_goto C 83 dX12_join_79 (by decide) ?_
      exact hj83 1 hw
    refine jn_elim (P := fun j => j  → Go G X rmX12_join 7 0 0 (QN G X (QI G K) rmX12_join) h5 55 [(0, rV (some a0)), (1, iV p1), (2, iV p2), (3, iV p3), (4, iV p4), (5, iV p5)] [rV (some a0)]) hw (fun  hw => ?_) (fun j55 hj55 hw => ?_)
    · refine go_iconst C 1 dX12_join_55 kc_i1 ?_
      refine go_goto C 60 dX12_join_56 (by decide) ?_
      exact hj60 1 hw
    refine go_if_eq C 55 dX12_join_34 (by decide) hw (fun hw => ?_) (fun hw => ?_)
    · exact hj55  hw
    refine go_aload_n C dX12_join_37 0 rfl ?_
    refine go_iload_n C dX12_join_38 1 rfl ?_
    refine go_iload C dX12_join_39 4 rfl ?_
    refine go_iload C dX12_join_41 5 rfl ?_
    refine go_pV_i C [iV p1, iV p4, iV p5] vX12_isPlace tw8_150 (ci := 12) rfl (m_X12_isPlace (xl X) C.2.2.2.2.2.2.2.1 N hw.2) ⟨Nat.le_of_ble_eq_true rfl, Nat.le_of_ble_eq_true rfl, Nat.le_of_ble_eq_true rfl, Nat.le_of_ble_eq_true rfl⟩ ⟨rfl, rfl⟩ hw.1 dX12_join_43 rfl (Nat.le_of_ble_eq_true rfl) rfl (fun v31 hw => ?_)
    refine go_if_eq C 55 dX12_join_46 (by decide) hw (fun hw => ?_) (fun hw => ?_)
    · exact hj55  hw
    refine go_iload_n C dX12_join_49 2 rfl ?_
    refine go_iload C dX12_join_50 4 rfl ?_
    refine go_icmp_ne C 59 dX12_join_52 (by decide) hw (fun hw => ?_) (fun hw => ?_)
    · refine go_iconst C 0 dX12_join_59 kc_i0 ?_
      exact hj60 0 hw
    exact hj55  hw
  refine go_if_ne C 18 dX12_join_11 (by decide) hw (fun hw => ?_) (fun hw => ?_)
  · refine go_iconst C 0 dX12_join_18 kc_i0 ?_
    exact hj19 0 hw
  refine go_iconst C 1 dX12_join_14 kc_i1 ?_
  refine go_goto C 19 dX12_join_15 (by decide) ?_
  exact hj19 1 hw
/-- DuelSchemaModel.holds(III)Z -/
def w_X12_holds (N : Nat) (p0 : Int32) (p1 : Int32) (p2 : Int32) (h0 : Hp) (K : Int32 → Prop) : Prop :=
  br (p0 = 61) (
    br (p2 = p1) (
      K 1) (
      K 0)) (
    br (p0 = 60) (
      br (p1 ≤ p2) (
        K 0) (
        K 1)) (
      br (p2 ≤ p1) (
        K 0) (
        K 1)))
abbrev rmX12_holds : Room := { frames := 2, cells := 0, slots := 0, locals := 60 }
theorem vX12_holds : SI yX12_holds cX12_holds 3 (some .boolean) 3 := ⟨tw8_183, tw1_8, tw8_184, by decide +kernel⟩
set_option maxHeartbeats 4000000 in
theorem m_X12_holds {G : Gp} (l : Launch) (hfl : l.stackTraces = false) (N : Nat) {p0 : Int32} {p1 : Int32} {p2 : Int32} {h0 : Hp} {K : Int32 → Prop} (hw : w_X12_holds N p0 p1 p2 h0 K) : MT G l yX12_holds cX12_holds 3 (some .boolean) rmX12_holds [iV p0, iV p1, iV p2] h0 (QI G (fun r h1 => h1 = h0 ∧ K r)) := by
  refine go_metT l hfl _ 3 _ _ rfl (by decide +kernel) (Nat.le_of_ble_eq_true rfl) [(0, iV p0), (1, iV p1), (2, iV p2)] rfl (fun X hX C hn => ?_)
  subst hX
  unfold w_X12_holds at hw
  refine go_iload_n C dX12_holds_0 0 rfl ?_
  refine go_bipush C 61 dX12_holds_1 kc_b61 ?_
  refine go_icmp_ne C 19 dX12_holds_3 (by decide) hw (fun hw => ?_) (fun hw => ?_)
  · refine go_iload_n C dX12_holds_19 0 rfl ?_
    refine go_bipush C 60 dX12_holds_20 kc_b60 ?_
    refine go_icmp_ne C 38 dX12_holds_22 (by decide) hw (fun hw => ?_) (fun hw => ?_)
    · refine go_iload_n C dX12_holds_38 2 rfl ?_
      refine go_iload_n C dX12_holds_39 1 rfl ?_
      refine go_icmp_le C 47 dX12_holds_40 (by decide) hw (fun hw => ?_) (fun hw => ?_)
      · refine go_iconst C 0 dX12_holds_47 kc_i0 ?_
        exact go_zret C dX12_holds_48 ⟨rfl, ⟨rfl, hw⟩⟩ (Nat.le_of_ble_eq_true rfl) (Nat.le_of_ble_eq_true rfl)
      refine go_iconst C 1 dX12_holds_43 kc_i1 ?_
      refine go_goto C 48 dX12_holds_44 (by decide) ?_
      exact go_zret C dX12_holds_48 ⟨rfl, ⟨rfl, hw⟩⟩ (Nat.le_of_ble_eq_true rfl) (Nat.le_of_ble_eq_true rfl)
    refine go_iload_n C dX12_holds_25 2 rfl ?_
    refine go_iload_n C dX12_holds_26 1 rfl ?_
    refine go_icmp_ge C 34 dX12_holds_27 (by decide) hw (fun hw => ?_) (fun hw => ?_)
    · refine go_iconst C 0 dX12_holds_34 kc_i0 ?_
      refine go_goto C 48 dX12_holds_35 (by decide) ?_
      exact go_zret C dX12_holds_48 ⟨rfl, ⟨rfl, hw⟩⟩ (Nat.le_of_ble_eq_true rfl) (Nat.le_of_ble_eq_true rfl)
    refine go_iconst C 1 dX12_holds_30 kc_i1 ?_
    refine go_goto C 48 dX12_holds_31 (by decide) ?_
    exact go_zret C dX12_holds_48 ⟨rfl, ⟨rfl, hw⟩⟩ (Nat.le_of_ble_eq_true rfl) (Nat.le_of_ble_eq_true rfl)
  refine go_iload_n C dX12_holds_6 2 rfl ?_
  refine go_iload_n C dX12_holds_7 1 rfl ?_
  refine go_icmp_ne C 15 dX12_holds_8 (by decide) hw (fun hw => ?_) (fun hw => ?_)
  · refine go_iconst C 0 dX12_holds_15 kc_i0 ?_
    refine go_goto C 48 dX12_holds_16 (by decide) ?_
    exact go_zret C dX12_holds_48 ⟨rfl, ⟨rfl, hw⟩⟩ (Nat.le_of_ble_eq_true rfl) (Nat.le_of_ble_eq_true rfl)
  refine go_iconst C 1 dX12_holds_11 kc_i1 ?_
  refine go_goto C 48 dX12_holds_12 (by decide) ?_
  exact go_zret C dX12_holds_48 ⟨rfl, ⟨rfl, hw⟩⟩ (Nat.le_of_ble_eq_true rfl) (Nat.le_of_ble_eq_true rfl)
/-- DuelSchemaModel.chosenAt(III)I -/
def w_X12_chosenAt (N : Nat) (a0 : Nat) (p1 : Int32) (p2 : Int32) (p3 : Int32) (h0 : Hp) (K : Int32 → Prop) : Prop :=
  gA h0 a0 12 26 fun a1 =>
  aI h0 a1 0 ((3 * p1) + p2) fun v2 =>
  gA h0 a0 12 37 fun a3 =>
  aI h0 a3 0 p2 fun v4 =>
  cv h0 a0 12 <| w_X12_at N a0 v2 v4 p3 h0 fun v5 =>
  K v5
abbrev rmX12_chosenAt : Room := { frames := 3, cells := 0, slots := 0, locals := 83 }
theorem vX12_chosenAt : VI RX12 yX12_chosenAt cX12_chosenAt 4 (some .int) 3 := ⟨tw8_180, tp62, tw1_8, tw8_181, by decide +kernel⟩
set_option maxHeartbeats 4000000 in
theorem m_X12_chosenAt {G : Gp} (l : Launch) (hfl : l.stackTraces = false) (N : Nat) {a0 : Nat} {p1 : Int32} {p2 : Int32} {p3 : Int32} {h0 : Hp} {K : Int32 → Prop} (hw : w_X12_chosenAt N a0 p1 p2 p3 h0 K) : MT G l yX12_chosenAt cX12_chosenAt 4 (some .int) rmX12_chosenAt [rV (some a0), iV p1, iV p2, iV p3] h0 (QI G (fun r h1 => h1 = h0 ∧ K r)) := by
  refine go_metT l hfl _ 4 _ _ rfl (by decide +kernel) (Nat.le_of_ble_eq_true rfl) [(0, rV (some a0)), (1, iV p1), (2, iV p2), (3, iV p3)] rfl (fun X hX C hn => ?_)
  subst hX
  unfold w_X12_chosenAt at hw
  refine go_aload_n C dX12_chosenAt_0 0 rfl ?_
  refine go_aload_n C dX12_chosenAt_1 0 rfl ?_
  refine go_getA C (cfX12) (k := 26) (Nat.le_of_ble_eq_true rfl) tw7_109 rfl dX12_chosenAt_2 hw (fun a1 hw => ?_)
  refine go_iconst C 3 dX12_chosenAt_5 kc_i3 ?_
  refine go_iload_n C dX12_chosenAt_6 1 rfl ?_
  refine go_imul C dX12_chosenAt_7 ?_
  refine go_iload_n C dX12_chosenAt_8 2 rfl ?_
  refine go_iadd C dX12_chosenAt_9 ?_
  refine go_iaload C dX12_chosenAt_10 hw (fun v2 hw => ?_)
  refine go_aload_n C dX12_chosenAt_11 0 rfl ?_
  refine go_getA C (cfX12) (k := 37) (Nat.le_of_ble_eq_true rfl) tw7_120 rfl dX12_chosenAt_12 hw (fun a3 hw => ?_)
  refine go_iload_n C dX12_chosenAt_15 2 rfl ?_
  refine go_iaload C dX12_chosenAt_16 hw (fun v4 hw => ?_)
  refine go_iload_n C dX12_chosenAt_17 3 rfl ?_
  refine go_pV_i C [iV v2, iV v4, iV p3] vX12_at tw8_43 (ci := 12) rfl (m_X12_at (xl X) C.2.2.2.2.2.2.2.1 N hw.2) ⟨Nat.le_of_ble_eq_true rfl, Nat.le_of_ble_eq_true rfl, Nat.le_of_ble_eq_true rfl, Nat.le_of_ble_eq_true rfl⟩ ⟨rfl, rfl⟩ hw.1 dX12_chosenAt_18 rfl (Nat.le_of_ble_eq_true rfl) rfl (fun v5 hw => ?_)
  exact go_iret C dX12_chosenAt_21 ⟨rfl, hw⟩ (Nat.le_of_ble_eq_true rfl) (Nat.le_of_ble_eq_true rfl)
/-- DuelSchemaModel.fits(II)Z -/
def w_X12_fits (N : Nat) (a0 : Nat) (p1 : Int32) (p2 : Int32) (h0 : Hp) (K : Int32 → Prop) : Prop :=
  gA h0 a0 12 26 fun a1 =>
  aI h0 a1 0 ((3 * p1) + p2) fun v2 =>
  gA h0 a0 12 37 fun a3 =>
  aI h0 a3 0 p2 fun v4 =>
  cv h0 a0 12 <| w_X12_hasRow N a0 v2 v4 h0 fun v5 =>
  fx2 (fun (w26 : Int32 → Int32 → Prop) (x6 : Int32) (x7 : Int32) =>
    gA h0 a0 12 27 fun a8 =>
    aI h0 a8 0 p1 fun v9 =>
    br (((4 * p1) + v9) ≤ x7) (
      fx2 (fun (w106 : Int32 → Int32 → Prop) (x10 : Int32) (x11 : Int32) =>
        gA h0 a0 12 32 fun a12 =>
        aI h0 a12 0 p1 fun v13 =>
        br (((3 * p1) + v13) ≤ x11) (
          ok (narrow .boolean (.int x10) = .int x10) <| K x10) (
          gA h0 a0 12 33 fun a14 =>
          aI h0 a14 0 x11 fun v15 =>
          jn (fun (v16 : Int32) => 
            jn (fun (x17 : Int32) => 
              w106 x17 (x11 + 1)) (fun j236 =>
            br (x10 = 0) (
              j236 x10) (
              br (v16 = 0) (
                j236 x10) (
                gA h0 a0 12 37 fun a18 =>
                gA h0 a0 12 33 fun a19 =>
                aI h0 a19 0 x11 fun v20 =>
                aI h0 a18 0 v20 fun v21 =>
                br (v21 < 0) (
                  j236 x10) (
                  gA h0 a0 12 37 fun a22 =>
                  gA h0 a0 12 35 fun a23 =>
                  aI h0 a23 0 x11 fun v24 =>
                  aI h0 a22 0 v24 fun v25 =>
                  br (v25 < 0) (
                    j236 x10) (
                    gA h0 a0 12 33 fun a26 =>
                    aI h0 a26 0 x11 fun v27 =>
                    gA h0 a0 12 34 fun a28 =>
                    aI h0 a28 0 x11 fun v29 =>
                    cv h0 a0 12 <| w_X12_chosenAt N a0 p1 v27 v29 h0 fun v30 =>
                    gA h0 a0 12 35 fun a31 =>
                    aI h0 a31 0 x11 fun v32 =>
                    gA h0 a0 12 36 fun a33 =>
                    aI h0 a33 0 x11 fun v34 =>
                    cv h0 a0 12 <| w_X12_chosenAt N a0 p1 v32 v34 h0 fun v35 =>
                    jn (fun (v36 : Int32) => 
                      j236 v36) (fun j235 =>
                    br (v30 = v35) (
                      j235 1) (
                      j235 0)))))))) (fun j148 =>
          jn (
            j148 1) (fun j143 =>
          br (v15 = p2) (
            j143 ) (
            gA h0 a0 12 35 fun a37 =>
            aI h0 a37 0 x11 fun v38 =>
            br (v38 = p2) (
              j143 ) (
              j148 0)))))) N x6 (3 * p1)) (
      jn (fun (v39 : Int32) => 
        w26 v39 (x7 + 1)) (fun j94 =>
      jn (
        j94 0) (fun j93 =>
      br (x6 = 0) (
        j93 ) (
        gA h0 a0 12 28 fun a40 =>
        aI h0 a40 0 x7 fun v41 =>
        jn (
          j94 1) (fun j89 =>
        br (v41 = p2) (
          gA h0 a0 12 30 fun a42 =>
          aI h0 a42 0 x7 fun v43 =>
          gA h0 a0 12 31 fun a44 =>
          aI h0 a44 0 x7 fun v45 =>
          gA h0 a0 12 29 fun a46 =>
          aI h0 a46 0 x7 fun v47 =>
          cv h0 a0 12 <| w_X12_chosenAt N a0 p1 p2 v47 h0 fun v48 =>
          w_X12_holds N v43 v45 v48 h0 fun v49 =>
          br (v49 = 0) (
            j93 ) (
            j89 )) (
          j89 ))))))) N v5 (4 * p1)
abbrev rmX12_fits : Room := { frames := 4, cells := 0, slots := 0, locals := 106 }
theorem vX12_fits : VI RX12 yX12_fits cX12_fits 6 (some .boolean) 2 := ⟨tw8_176, tp61, tw1_8, tw8_177, by decide +kernel⟩
set_option maxHeartbeats 4000000 in
theorem m_X12_fits {G : Gp} (l : Launch) (hfl : l.stackTraces = false) (N : Nat) {a0 : Nat} {p1 : Int32} {p2 : Int32} {h0 : Hp} {K : Int32 → Prop} (hw : w_X12_fits N a0 p1 p2 h0 K) : MT G l yX12_fits cX12_fits 6 (some .boolean) rmX12_fits [rV (some a0), iV p1, iV p2] h0 (QI G (fun r h1 => h1 = h0 ∧ K r)) := by
  refine go_metT l hfl _ 6 _ _ rfl (by decide +kernel) (Nat.le_of_ble_eq_true rfl) [(0, rV (some a0)), (1, iV p1), (2, iV p2)] rfl (fun X hX C hn => ?_)
  subst hX
  unfold w_X12_fits at hw
  refine go_aload_n C dX12_fits_0 0 rfl ?_
  refine go_aload_n C dX12_fits_1 0 rfl ?_
  refine go_getA C (cfX12) (k := 26) (Nat.le_of_ble_eq_true rfl) tw7_109 rfl dX12_fits_2 hw (fun a1 hw => ?_)
  refine go_iconst C 3 dX12_fits_5 kc_i3 ?_
  refine go_iload_n C dX12_fits_6 1 rfl ?_
  refine go_imul C dX12_fits_7 ?_
  refine go_iload_n C dX12_fits_8 2 rfl ?_
  refine go_iadd C dX12_fits_9 ?_
  refine go_iaload C dX12_fits_10 hw (fun v2 hw => ?_)
  refine go_aload_n C dX12_fits_11 0 rfl ?_
  refine go_getA C (cfX12) (k := 37) (Nat.le_of_ble_eq_true rfl) tw7_120 rfl dX12_fits_12 hw (fun a3 hw => ?_)
  refine go_iload_n C dX12_fits_15 2 rfl ?_
  refine go_iaload C dX12_fits_16 hw (fun v4 hw => ?_)
  refine go_pV_i C [iV v2, iV v4] vX12_hasRow tw8_39 (ci := 12) rfl (m_X12_hasRow (xl X) C.2.2.2.2.2.2.2.1 N hw.2) ⟨Nat.le_of_ble_eq_true rfl, Nat.le_of_ble_eq_true rfl, Nat.le_of_ble_eq_true rfl, Nat.le_of_ble_eq_true rfl⟩ ⟨rfl, rfl⟩ hw.1 dX12_fits_17 rfl (Nat.le_of_ble_eq_true rfl) rfl (fun v5 hw => ?_)
  refine go_istore_n C [(3, iV v5), (0, rV (some a0)), (1, iV p1), (2, iV p2)] dX12_fits_20 (Nat.le_of_ble_eq_true rfl) rfl ?_
  refine go_iconst C 4 dX12_fits_21 kc_i4 ?_
  refine go_iload_n C dX12_fits_22 2 rfl ?_
  refine go_imul C dX12_fits_23 ?_
  refine go_istore C [(4, iV (4 * p1)), (3, iV v5), (0, rV (some a0)), (1, iV p1), (2, iV p2)] dX12_fits_24 (Nat.le_of_ble_eq_true rfl) rfl ?_
  refine go_sub [2, 3, 4, 1, 0] rfl ?_
  refine fx2_elim (P := fun x6 x7 => Go G X rmX12_fits 6 0 0 (QN G X (QI G (fun r h1 => h1 = h0 ∧ K r)) rmX12_fits) h0 26 [(0, rV (some a0)), (1, iV p1), (2, iV p2), (3, iV x6), (4, iV x7)] []) (fun w26 hj26 x6 x7 hw => ?_) N _ _ hw
  refine go_iload C dX12_fits_26 4 rfl ?_
  refine go_iconst C 4 dX12_fits_28 kc_i4 ?_
  refine go_iload_n C dX12_fits_29 1 rfl ?_
  refine go_imul C dX12_fits_30 ?_
  refine go_aload_n C dX12_fits_31 0 rfl ?_
  refine go_getA C (cfX12) (k := 27) (Nat.le_of_ble_eq_true rfl) tw7_110 rfl dX12_fits_32 hw (fun a8 hw => ?_)
  refine go_iload_n C dX12_fits_35 1 rfl ?_
  refine go_iaload C dX12_fits_36 hw (fun v9 hw => ?_)
  refine go_iadd C dX12_fits_37 ?_
  refine go_icmp_ge C 101 dX12_fits_38 (by decide) hw (fun hw => ?_) (fun hw => ?_)
  · refine go_iconst C 3 dX12_fits_101 kc_i3 ?_
    refine go_iload_n C dX12_fits_102 1 rfl ?_
    refine go_imul C dX12_fits_103 ?_
    refine go_istore C [(4, iV (3 * p1)), (0, rV (some a0)), (1, iV p1), (2, iV p2), (3, iV x6)] dX12_fits_104 (Nat.le_of_ble_eq_true rfl) rfl ?_
    refine go_sub [1, 2, 3, 4, 0] rfl ?_
    refine fx2_elim (P := fun x10 x11 => Go G X rmX12_fits 6 0 0 (QN G X (QI G (fun r h1 => h1 = h0 ∧ K r)) rmX12_fits) h0 106 [(0, rV (some a0)), (1, iV p1), (2, iV p2), (3, iV x10), (4, iV x11)] []) (fun w106 hj106 x10 x11 hw => ?_) N _ _ hw
    refine go_iload C dX12_fits_106 4 rfl ?_
    refine go_iconst C 3 dX12_fits_108 kc_i3 ?_
    refine go_iload_n C dX12_fits_109 1 rfl ?_
    refine go_imul C dX12_fits_110 ?_
    refine go_aload_n C dX12_fits_111 0 rfl ?_
    refine go_getA C (cfX12) (k := 32) (Nat.le_of_ble_eq_true rfl) tw7_115 rfl dX12_fits_112 hw (fun a12 hw => ?_)
    refine go_iload_n C dX12_fits_115 1 rfl ?_
    refine go_iaload C dX12_fits_116 hw (fun v13 hw => ?_)
    refine go_iadd C dX12_fits_117 ?_
    refine go_icmp_ge C 242 dX12_fits_118 (by decide) hw (fun hw => ?_) (fun hw => ?_)
    · refine go_iload_n C dX12_fits_242 3 rfl ?_
      exact go_zret C dX12_fits_243 ⟨hw.1, ⟨rfl, hw.2⟩⟩ (Nat.le_of_ble_eq_true rfl) (Nat.le_of_ble_eq_true rfl)
    refine go_aload_n C dX12_fits_121 0 rfl ?_
    refine go_getA C (cfX12) (k := 33) (Nat.le_of_ble_eq_true rfl) tw7_116 rfl dX12_fits_122 hw (fun a14 hw => ?_)
    refine go_iload C dX12_fits_125 4 rfl ?_
    refine go_iaload C dX12_fits_127 hw (fun v15 hw => ?_)
    refine go_iload_n C dX12_fits_128 2 rfl ?_
    refine jn_elim (P := fun j => ∀ (v16 : Int32), j v16 → Go G X rmX12_fits 6 0 0 (QN G X (QI G (fun r h1 => h1 = h0 ∧ K r)) rmX12_fits) h0 148 [(0, rV (some a0)), (1, iV p1), (2, iV p2), (3, iV x10), (4, iV x11)] [iV v16]) hw (fun v16 hw => ?_) (fun j148 hj148 hw => ?_)
    · refine go_istore C [(5, iV v16), (0, rV (some a0)), (1, iV p1), (2, iV p2), (3, iV x10), (4, iV x11)] dX12_fits_148 (Nat.le_of_ble_eq_true rfl) rfl ?_
      refine go_iload_n C dX12_fits_150 4 rfl ?_
      refine jn_elim (P := fun j => ∀ (x17 : Int32), j x17 → Go G X rmX12_fits 6 0 0 (QN G X (QI G (fun r h1 => h1 = h0 ∧ K r)) rmX12_fits) h0 236 [(0, rV (some a0)), (1, iV p1), (2, iV p2), (3, iV x17), (4, iV x11)] []) hw (fun x17 hw => ?_) (fun j236 hj236 hw => ?_)
      · refine go_iinc C (x11 + 1) [(4, iV (x11 + 1)), (0, rV (some a0)), (1, iV p1), (2, iV p2), (3, iV x17)] dX12_fits_236 4 rfl (by rw [kc_i1]) (Nat.le_of_ble_eq_true rfl) rfl ?_
        refine go_goto C 106 dX12_fits_239 (by decide) ?_
        refine go_sub [1, 2, 3, 4, 0] rfl ?_
        exact hj106 x17 (x11 + 1) hw
      refine go_if_eq C 236 dX12_fits_151 (by decide) hw (fun hw => ?_) (fun hw => ?_)
      · refine go_sub [1, 2, 3, 4, 5] rfl ?_
        exact hj236 x10 hw
      refine go_iload C dX12_fits_154 0 rfl ?_
      refine go_if_eq C 236 dX12_fits_156 (by decide) hw (fun hw => ?_) (fun hw => ?_)
      · refine go_sub [1, 2, 3, 4, 5] rfl ?_
        exact hj236 x10 hw
      refine go_aload_n C dX12_fits_159 1 rfl ?_
      refine go_getA C (cfX12) (k := 37) (Nat.le_of_ble_eq_true rfl) tw7_120 rfl dX12_fits_160 hw (fun a18 hw => ?_)
      refine go_aload_n C dX12_fits_163 1 rfl ?_
      refine go_getA C (cfX12) (k := 33) (Nat.le_of_ble_eq_true rfl) tw7_116 rfl dX12_fits_164 hw (fun a19 hw => ?_)
      refine go_iload C dX12_fits_167 5 rfl ?_
      refine go_iaload C dX12_fits_169 hw (fun v20 hw => ?_)
      refine go_iaload C dX12_fits_170 hw (fun v21 hw => ?_)
      refine go_if_lt C 236 dX12_fits_171 (by decide) hw (fun hw => ?_) (fun hw => ?_)
      · refine go_sub [1, 2, 3, 4, 5] rfl ?_
        exact hj236 x10 hw
      refine go_aload_n C dX12_fits_174 1 rfl ?_
      refine go_getA C (cfX12) (k := 37) (Nat.le_of_ble_eq_true rfl) tw7_120 rfl dX12_fits_175 hw (fun a22 hw => ?_)
      refine go_aload_n C dX12_fits_178 1 rfl ?_
      refine go_getA C (cfX12) (k := 35) (Nat.le_of_ble_eq_true rfl) tw7_118 rfl dX12_fits_179 hw (fun a23 hw => ?_)
      refine go_iload C dX12_fits_182 5 rfl ?_
      refine go_iaload C dX12_fits_184 hw (fun v24 hw => ?_)
      refine go_iaload C dX12_fits_185 hw (fun v25 hw => ?_)
      refine go_if_lt C 236 dX12_fits_186 (by decide) hw (fun hw => ?_) (fun hw => ?_)
      · refine go_sub [1, 2, 3, 4, 5] rfl ?_
        exact hj236 x10 hw
      refine go_aload_n C dX12_fits_189 1 rfl ?_
      refine go_iload_n C dX12_fits_190 2 rfl ?_
      refine go_aload_n C dX12_fits_191 1 rfl ?_
      refine go_getA C (cfX12) (k := 33) (Nat.le_of_ble_eq_true rfl) tw7_116 rfl dX12_fits_192 hw (fun a26 hw => ?_)
      refine go_iload C dX12_fits_195 5 rfl ?_
      refine go_iaload C dX12_fits_197 hw (fun v27 hw => ?_)
      refine go_aload_n C dX12_fits_198 1 rfl ?_
      refine go_getA C (cfX12) (k := 34) (Nat.le_of_ble_eq_true rfl) tw7_117 rfl dX12_fits_199 hw (fun a28 hw => ?_)
      refine go_iload C dX12_fits_202 5 rfl ?_
      refine go_iaload C dX12_fits_204 hw (fun v29 hw => ?_)
      refine go_pV_i C [iV p1, iV v27, iV v29] vX12_chosenAt tw8_178 (ci := 12) rfl (m_X12_chosenAt (xl X) C.2.2.2.2.2.2.2.1 N hw.2) ⟨Nat.le_of_ble_eq_true rfl, Nat.le_of_ble_eq_true rfl, Nat.le_of_ble_eq_true rfl, Nat.le_of_ble_eq_true rfl⟩ ⟨rfl, rfl⟩ hw.1 dX12_fits_205 rfl (Nat.le_of_ble_eq_true rfl) rfl (fun v30 hw => ?_)
      refine go_aload_n C dX12_fits_208 1 rfl ?_
      refine go_iload_n C dX12_fits_209 2 rfl ?_
      refine go_aload_n C dX12_fits_210 1 rfl ?_
      refine go_getA C (cfX12) (k := 35) (Nat.le_of_ble_eq_true rfl) tw7_118 rfl dX12_fits_211 hw (fun a31 hw => ?_)
      refine go_iload C dX12_fits_214 5 rfl ?_
      refine go_iaload C dX12_fits_216 hw (fun v32 hw => ?_)
      refine go_aload_n C dX12_fits_217 1 rfl ?_
      refine go_getA C (cfX12) (k := 36) (Nat.le_of_ble_eq_true rfl) tw7_119 rfl dX12_fits_218 hw (fun a33 hw => ?_)
      refine go_iload C dX12_fits_221 5 rfl ?_
      refine go_iaload C dX12_fits_223 hw (fun v34 hw => ?_)
      refine go_pV_i C [iV p1, iV v32, iV v34] vX12_chosenAt tw8_178 (ci := 12) rfl (m_X12_chosenAt (xl X) C.2.2.2.2.2.2.2.1 N hw.2) ⟨Nat.le_of_ble_eq_true rfl, Nat.le_of_ble_eq_true rfl, Nat.le_of_ble_eq_true rfl, Nat.le_of_ble_eq_true rfl⟩ ⟨rfl, rfl⟩ hw.1 dX12_fits_224 rfl (Nat.le_of_ble_eq_true rfl) rfl (fun v35 hw => ?_)
      refine jn_elim (P := fun j => ∀ (v36 : Int32), j v36 → Go G X rmX12_fits 6 0 0 (QN G X (QI G (fun r h1 => h1 = h0 ∧ K r)) rmX12_fits) h0 235 [(0, rV (some a0)), (1, iV p1), (2, iV p2), (4, iV x11)] [iV v36]) hw (fun v36 hw => ?_) (fun j235 hj235 hw => ?_)
      · refine go_istore_n C [(3, iV v36), (0, rV (some a0)), (1, iV p1), (2, iV p2), (4, iV x11)] dX12_fits_235 (Nat.le_of_ble_eq_true rfl) rfl ?_
        refine go_sub [1, 2, 3, 0, 4] rfl ?_
        exact hj236 v36 hw
      refine go_icmp_ne C 234 dX12_fits_227 (by decide) hw (fun hw => ?_) (fun hw => ?_)
      · refine go_iconst C 0 dX12_fits_234 kc_i0 ?_
        refine go_sub [1, 2, 3, 5] rfl ?_
        exact hj235 0 hw
      refine go_iconst C 1 dX12_fits_230 kc_i1 ?_
      refine go_goto C 235 dX12_fits_231 (by decide) ?_
      refine go_sub [1, 2, 3, 5] rfl ?_
      exact hj235 1 hw
    refine jn_elim (P := fun j => j  → Go G X rmX12_fits 6 0 0 (QN G X (QI G (fun r h1 => h1 = h0 ∧ K r)) rmX12_fits) h0 143 [(0, rV (some a0)), (1, iV p1), (2, iV p2), (3, iV x10), (4, iV x11)] []) hw (fun  hw => ?_) (fun j143 hj143 hw => ?_)
    · refine go_iconst C 1 dX12_fits_143 kc_i1 ?_
      refine go_goto C 148 dX12_fits_144 (by decide) ?_
      exact hj148 1 hw
    refine go_icmp_eq C 143 dX12_fits_129 (by decide) hw (fun hw => ?_) (fun hw => ?_)
    · exact hj143  hw
    refine go_aload_n C dX12_fits_132 0 rfl ?_
    refine go_getA C (cfX12) (k := 35) (Nat.le_of_ble_eq_true rfl) tw7_118 rfl dX12_fits_133 hw (fun a37 hw => ?_)
    refine go_iload C dX12_fits_136 4 rfl ?_
    refine go_iaload C dX12_fits_138 hw (fun v38 hw => ?_)
    refine go_iload_n C dX12_fits_139 2 rfl ?_
    refine go_icmp_ne C 147 dX12_fits_140 (by decide) hw (fun hw => ?_) (fun hw => ?_)
    · refine go_iconst C 0 dX12_fits_147 kc_i0 ?_
      exact hj148 0 hw
    exact hj143  hw
  refine go_iload_n C dX12_fits_41 3 rfl ?_
  refine jn_elim (P := fun j => ∀ (v39 : Int32), j v39 → Go G X rmX12_fits 6 0 0 (QN G X (QI G (fun r h1 => h1 = h0 ∧ K r)) rmX12_fits) h0 94 [(0, rV (some a0)), (1, iV p1), (2, iV p2), (4, iV x7)] [iV v39]) hw (fun v39 hw => ?_) (fun j94 hj94 hw => ?_)
  · refine go_istore_n C [(3, iV v39), (0, rV (some a0)), (1, iV p1), (2, iV p2), (4, iV x7)] dX12_fits_94 (Nat.le_of_ble_eq_true rfl) rfl ?_
    refine go_iinc C (x7 + 1) [(4, iV (x7 + 1)), (3, iV v39), (0, rV (some a0)), (1, iV p1), (2, iV p2)] dX12_fits_95 4 rfl (by rw [kc_i1]) (Nat.le_of_ble_eq_true rfl) rfl ?_
    refine go_goto C 26 dX12_fits_98 (by decide) ?_
    refine go_sub [2, 3, 4, 1, 0] rfl ?_
    exact hj26 v39 (x7 + 1) hw
  refine jn_elim (P := fun j => j  → Go G X rmX12_fits 6 0 0 (QN G X (QI G (fun r h1 => h1 = h0 ∧ K r)) rmX12_fits) h0 93 [(0, rV (some a0)), (1, iV p1), (2, iV p2), (4, iV x7)] []) hw (fun  hw => ?_) (fun j93 hj93 hw => ?_)
  · refine go_iconst C 0 dX12_fits_93 kc_i0 ?_
    exact hj94 0 hw
  refine go_if_eq C 93 dX12_fits_42 (by decide) hw (fun hw => ?_) (fun hw => ?_)
  · refine go_sub [0, 1, 2, 4] rfl ?_
    exact hj93  hw
  refine go_aload_n C dX12_fits_45 0 rfl ?_
  refine go_getA C (cfX12) (k := 28) (Nat.le_of_ble_eq_true rfl) tw7_111 rfl dX12_fits_46 hw (fun a40 hw => ?_)
  refine go_iload C dX12_fits_49 4 rfl ?_
  refine go_iaload C dX12_fits_51 hw (fun v41 hw => ?_)
  refine go_iload_n C dX12_fits_52 2 rfl ?_
  refine jn_elim (P := fun j => j  → Go G X rmX12_fits 6 0 0 (QN G X (QI G (fun r h1 => h1 = h0 ∧ K r)) rmX12_fits) h0 89 [(0, rV (some a0)), (1, iV p1), (2, iV p2), (4, iV x7)] []) hw (fun  hw => ?_) (fun j89 hj89 hw => ?_)
  · refine go_iconst C 1 dX12_fits_89 kc_i1 ?_
    refine go_goto C 94 dX12_fits_90 (by decide) ?_
    exact hj94 1 hw
  refine go_icmp_ne C 89 dX12_fits_53 (by decide) hw (fun hw => ?_) (fun hw => ?_)
  · refine go_sub [0, 1, 2, 4] rfl ?_
    exact hj89  hw
  refine go_aload_n C dX12_fits_56 0 rfl ?_
  refine go_getA C (cfX12) (k := 30) (Nat.le_of_ble_eq_true rfl) tw7_113 rfl dX12_fits_57 hw (fun a42 hw => ?_)
  refine go_iload C dX12_fits_60 4 rfl ?_
  refine go_iaload C dX12_fits_62 hw (fun v43 hw => ?_)
  refine go_aload_n C dX12_fits_63 0 rfl ?_
  refine go_getA C (cfX12) (k := 31) (Nat.le_of_ble_eq_true rfl) tw7_114 rfl dX12_fits_64 hw (fun a44 hw => ?_)
  refine go_iload C dX12_fits_67 4 rfl ?_
  refine go_iaload C dX12_fits_69 hw (fun v45 hw => ?_)
  refine go_aload_n C dX12_fits_70 0 rfl ?_
  refine go_iload_n C dX12_fits_71 1 rfl ?_
  refine go_iload_n C dX12_fits_72 2 rfl ?_
  refine go_aload_n C dX12_fits_73 0 rfl ?_
  refine go_getA C (cfX12) (k := 29) (Nat.le_of_ble_eq_true rfl) tw7_112 rfl dX12_fits_74 hw (fun a46 hw => ?_)
  refine go_iload C dX12_fits_77 4 rfl ?_
  refine go_iaload C dX12_fits_79 hw (fun v47 hw => ?_)
  refine go_pV_i C [iV p1, iV p2, iV v47] vX12_chosenAt tw8_178 (ci := 12) rfl (m_X12_chosenAt (xl X) C.2.2.2.2.2.2.2.1 N hw.2) ⟨Nat.le_of_ble_eq_true rfl, Nat.le_of_ble_eq_true rfl, Nat.le_of_ble_eq_true rfl, Nat.le_of_ble_eq_true rfl⟩ ⟨rfl, rfl⟩ hw.1 dX12_fits_80 rfl (Nat.le_of_ble_eq_true rfl) rfl (fun v48 hw => ?_)
  refine go_pS_i C [iV v43, iV v45, iV v48] vX12_holds tw8_182 (m_X12_holds (xl X) C.2.2.2.2.2.2.2.1 N hw) ⟨Nat.le_of_ble_eq_true rfl, Nat.le_of_ble_eq_true rfl, Nat.le_of_ble_eq_true rfl, Nat.le_of_ble_eq_true rfl⟩ ⟨rfl, rfl⟩ dX12_fits_83 rfl (Nat.le_of_ble_eq_true rfl) rfl (fun v49 hw => ?_)
  refine go_if_eq C 93 dX12_fits_86 (by decide) hw (fun hw => ?_) (fun hw => ?_)
  · refine go_sub [0, 1, 2, 4] rfl ?_
    exact hj93  hw
  refine go_sub [0, 1, 2, 4] rfl ?_
  exact hj89  hw
/-- DuelSchemaModel.choosesNone()V -/
def w_X12_choosesNone (N : Nat) (a0 : Nat) (h0 : Hp) (K : Hp → Prop) : Prop :=
  gA h0 a0 12 37 fun a1 =>
  sI h0 a1 0 0 (-1) fun h2 =>
  gA h2 a0 12 37 fun a3 =>
  sI h2 a3 0 1 (-1) fun h4 =>
  gA h4 a0 12 37 fun a5 =>
  sI h4 a5 0 2 (-1) fun h6 =>
  K h6
abbrev rmX12_choosesNone : Room := { frames := 2, cells := 0, slots := 0, locals := 60 }
theorem vX12_choosesNone : VI RX12 yX12_choosesNone cX12_choosesNone 1 none 0 := ⟨tw8_168, tp59, tw1_8, tw8_169, by decide +kernel⟩
set_option maxHeartbeats 4000000 in
theorem m_X12_choosesNone {G : Gp} (l : Launch) (hfl : l.stackTraces = false) (N : Nat) {a0 : Nat} {h0 : Hp} {K : Hp → Prop} (hw : w_X12_choosesNone N a0 h0 K) : MT G l yX12_choosesNone cX12_choosesNone 1 none rmX12_choosesNone [rV (some a0)] h0 (QV G K) := by
  refine go_metT l hfl _ 1 _ _ rfl (by decide +kernel) (Nat.le_of_ble_eq_true rfl) [(0, rV (some a0))] rfl (fun X hX C hn => ?_)
  subst hX
  unfold w_X12_choosesNone at hw
  refine go_aload_n C dX12_choosesNone_0 0 rfl ?_
  refine go_getA C (cfX12) (k := 37) (Nat.le_of_ble_eq_true rfl) tw7_120 rfl dX12_choosesNone_1 hw (fun a1 hw => ?_)
  refine go_iconst C 0 dX12_choosesNone_4 kc_i0 ?_
  refine go_iconst C (-1) dX12_choosesNone_5 kc_im1 ?_
  refine go_iastore C dX12_choosesNone_6 hw (fun h2 hw => ?_)
  refine go_aload_n C dX12_choosesNone_7 0 rfl ?_
  refine go_getA C (cfX12) (k := 37) (Nat.le_of_ble_eq_true rfl) tw7_120 rfl dX12_choosesNone_8 hw (fun a3 hw => ?_)
  refine go_iconst C 1 dX12_choosesNone_11 kc_i1 ?_
  refine go_iconst C (-1) dX12_choosesNone_12 kc_im1 ?_
  refine go_iastore C dX12_choosesNone_13 hw (fun h4 hw => ?_)
  refine go_aload_n C dX12_choosesNone_14 0 rfl ?_
  refine go_getA C (cfX12) (k := 37) (Nat.le_of_ble_eq_true rfl) tw7_120 rfl dX12_choosesNone_15 hw (fun a5 hw => ?_)
  refine go_iconst C 2 dX12_choosesNone_18 kc_i2 ?_
  refine go_iconst C (-1) dX12_choosesNone_19 kc_im1 ?_
  refine go_iastore C dX12_choosesNone_20 hw (fun h6 hw => ?_)
  exact go_vret C dX12_choosesNone_21 hw (Nat.le_of_ble_eq_true rfl) (Nat.le_of_ble_eq_true rfl)
/-- DuelSchemaModel.beginsAnswers()V -/
def w_X12_beginsAnswers (N : Nat) (a0 : Nat) (h0 : Hp) (K : Hp → Prop) : Prop :=
  cv h0 a0 12 <| w_X12_choosesNone N a0  h0 fun h1 =>
  pF h1 a0 12 38 (iV 0) fun h2 =>
  K h2
abbrev rmX12_beginsAnswers : Room := { frames := 3, cells := 0, slots := 0, locals := 80 }
theorem vX12_beginsAnswers : VI RX12 yX12_beginsAnswers cX12_beginsAnswers 1 none 0 := ⟨tw8_164, tp58, tw1_8, tw8_165, by decide +kernel⟩
set_option maxHeartbeats 4000000 in
theorem m_X12_beginsAnswers {G : Gp} (l : Launch) (hfl : l.stackTraces = false) (N : Nat) {a0 : Nat} {h0 : Hp} {K : Hp → Prop} (hw : w_X12_beginsAnswers N a0 h0 K) : MT G l yX12_beginsAnswers cX12_beginsAnswers 1 none rmX12_beginsAnswers [rV (some a0)] h0 (QV G K) := by
  refine go_metT l hfl _ 1 _ _ rfl (by decide +kernel) (Nat.le_of_ble_eq_true rfl) [(0, rV (some a0))] rfl (fun X hX C hn => ?_)
  subst hX
  unfold w_X12_beginsAnswers at hw
  refine go_aload_n C dX12_beginsAnswers_0 0 rfl ?_
  refine go_c0V_v C [] vX12_choosesNone tw8_166 (ci := 12) rfl (m_X12_choosesNone (xl X) C.2.2.2.2.2.2.2.1 N hw.2) ⟨Nat.le_of_ble_eq_true rfl, Nat.le_of_ble_eq_true rfl, Nat.le_of_ble_eq_true rfl, Nat.le_of_ble_eq_true rfl⟩ ⟨rfl, rfl⟩ hw.1 dX12_beginsAnswers_1 rfl (Nat.le_of_ble_eq_true rfl) rfl (fun h1 hw => ?_)
  refine go_aload_n C dX12_beginsAnswers_4 0 rfl ?_
  refine go_iconst C 0 dX12_beginsAnswers_5 kc_i0 ?_
  refine go_putI C (cfX12) (k := 38) (Nat.le_of_ble_eq_true rfl) tw7_121 rfl (Or.inl rfl) rfl dX12_beginsAnswers_6 hw (fun h2 hw => ?_)
  exact go_vret C dX12_beginsAnswers_9 hw (Nat.le_of_ble_eq_true rfl) (Nat.le_of_ble_eq_true rfl)
/-- DuelSchemaModel.nextAnswer(I)Z -/
def w_X12_nextAnswer (N : Nat) (a0 : Nat) (p1 : Int32) (h0 : Hp) (K : Int32 → Hp → Prop) : Prop :=
  gI h0 a0 12 38 fun v1 =>
  br (v1 < 0) (
    K 0 h0) (
    gA h0 a0 12 37 fun a2 =>
    gI h0 a0 12 38 fun v3 =>
    aI h0 a2 0 v3 fun v4 =>
    sI h0 a2 0 v3 (v4 + 1) fun h5 =>
    gA h5 a0 12 37 fun a6 =>
    gI h5 a0 12 38 fun v7 =>
    aI h5 a6 0 v7 fun v8 =>
    gA h5 a0 12 3 fun a9 =>
    gA h5 a0 12 26 fun a10 =>
    gI h5 a0 12 38 fun v11 =>
    aI h5 a10 0 ((3 * p1) + v11) fun v12 =>
    aI h5 a9 0 v12 fun v13 =>
    br (v8 = v13) (
      gA h5 a0 12 37 fun a73 =>
      gI h5 a0 12 38 fun v74 =>
      sI h5 a73 0 v74 (-1) fun h75 =>
      gI h75 a0 12 38 fun v76 =>
      pF h75 a0 12 38 (iV (v76 - 1)) fun h77 =>
      fx1 (fun (w0 : Hp → Prop) (h78 : Hp) =>
        gI h78 a0 12 38 fun v79 =>
        br (v79 < 0) (
          K 0 h78) (
          gA h78 a0 12 37 fun a80 =>
          gI h78 a0 12 38 fun v81 =>
          aI h78 a80 0 v81 fun v82 =>
          sI h78 a80 0 v81 (v82 + 1) fun h83 =>
          gA h83 a0 12 37 fun a84 =>
          gI h83 a0 12 38 fun v85 =>
          aI h83 a84 0 v85 fun v86 =>
          gA h83 a0 12 3 fun a87 =>
          gA h83 a0 12 26 fun a88 =>
          gI h83 a0 12 38 fun v89 =>
          aI h83 a88 0 ((3 * p1) + v89) fun v90 =>
          aI h83 a87 0 v90 fun v91 =>
          br (v86 = v91) (
            gA h83 a0 12 37 fun a99 =>
            gI h83 a0 12 38 fun v100 =>
            sI h83 a99 0 v100 (-1) fun h101 =>
            gI h101 a0 12 38 fun v102 =>
            pF h101 a0 12 38 (iV (v102 - 1)) fun h103 =>
            w0 h103) (
            gI h83 a0 12 38 fun v92 =>
            cv h83 a0 12 <| w_X12_fits N a0 p1 v92 h83 fun v93 =>
            br (v93 = 0) (
              w0 h83) (
              gI h83 a0 12 38 fun v94 =>
              gA h83 a0 12 25 fun a95 =>
              aI h83 a95 0 p1 fun v96 =>
              br (v94 = (v96 - 1)) (
                K 1 h83) (
                gI h83 a0 12 38 fun v97 =>
                pF h83 a0 12 38 (iV (v97 + 1)) fun h98 =>
                w0 h98))))) N h77) (
      gI h5 a0 12 38 fun v14 =>
      cv h5 a0 12 <| w_X12_fits N a0 p1 v14 h5 fun v15 =>
      br (v15 = 0) (
        fx1 (fun (w0 : Hp → Prop) (h16 : Hp) =>
          gI h16 a0 12 38 fun v17 =>
          br (v17 < 0) (
            K 0 h16) (
            gA h16 a0 12 37 fun a18 =>
            gI h16 a0 12 38 fun v19 =>
            aI h16 a18 0 v19 fun v20 =>
            sI h16 a18 0 v19 (v20 + 1) fun h21 =>
            gA h21 a0 12 37 fun a22 =>
            gI h21 a0 12 38 fun v23 =>
            aI h21 a22 0 v23 fun v24 =>
            gA h21 a0 12 3 fun a25 =>
            gA h21 a0 12 26 fun a26 =>
            gI h21 a0 12 38 fun v27 =>
            aI h21 a26 0 ((3 * p1) + v27) fun v28 =>
            aI h21 a25 0 v28 fun v29 =>
            br (v24 = v29) (
              gA h21 a0 12 37 fun a37 =>
              gI h21 a0 12 38 fun v38 =>
              sI h21 a37 0 v38 (-1) fun h39 =>
              gI h39 a0 12 38 fun v40 =>
              pF h39 a0 12 38 (iV (v40 - 1)) fun h41 =>
              w0 h41) (
              gI h21 a0 12 38 fun v30 =>
              cv h21 a0 12 <| w_X12_fits N a0 p1 v30 h21 fun v31 =>
              br (v31 = 0) (
                w0 h21) (
                gI h21 a0 12 38 fun v32 =>
                gA h21 a0 12 25 fun a33 =>
                aI h21 a33 0 p1 fun v34 =>
                br (v32 = (v34 - 1)) (
                  K 1 h21) (
                  gI h21 a0 12 38 fun v35 =>
                  pF h21 a0 12 38 (iV (v35 + 1)) fun h36 =>
                  w0 h36))))) N h5) (
        gI h5 a0 12 38 fun v42 =>
        gA h5 a0 12 25 fun a43 =>
        aI h5 a43 0 p1 fun v44 =>
        br (v42 = (v44 - 1)) (
          K 1 h5) (
          gI h5 a0 12 38 fun v45 =>
          pF h5 a0 12 38 (iV (v45 + 1)) fun h46 =>
          fx1 (fun (w0 : Hp → Prop) (h47 : Hp) =>
            gI h47 a0 12 38 fun v48 =>
            br (v48 < 0) (
              K 0 h47) (
              gA h47 a0 12 37 fun a49 =>
              gI h47 a0 12 38 fun v50 =>
              aI h47 a49 0 v50 fun v51 =>
              sI h47 a49 0 v50 (v51 + 1) fun h52 =>
              gA h52 a0 12 37 fun a53 =>
              gI h52 a0 12 38 fun v54 =>
              aI h52 a53 0 v54 fun v55 =>
              gA h52 a0 12 3 fun a56 =>
              gA h52 a0 12 26 fun a57 =>
              gI h52 a0 12 38 fun v58 =>
              aI h52 a57 0 ((3 * p1) + v58) fun v59 =>
              aI h52 a56 0 v59 fun v60 =>
              br (v55 = v60) (
                gA h52 a0 12 37 fun a68 =>
                gI h52 a0 12 38 fun v69 =>
                sI h52 a68 0 v69 (-1) fun h70 =>
                gI h70 a0 12 38 fun v71 =>
                pF h70 a0 12 38 (iV (v71 - 1)) fun h72 =>
                w0 h72) (
                gI h52 a0 12 38 fun v61 =>
                cv h52 a0 12 <| w_X12_fits N a0 p1 v61 h52 fun v62 =>
                br (v62 = 0) (
                  w0 h52) (
                  gI h52 a0 12 38 fun v63 =>
                  gA h52 a0 12 25 fun a64 =>
                  aI h52 a64 0 p1 fun v65 =>
                  br (v63 = (v65 - 1)) (
                    K 1 h52) (
                    gI h52 a0 12 38 fun v66 =>
                    pF h52 a0 12 38 (iV (v66 + 1)) fun h67 =>
                    w0 h67))))) N h46))))
abbrev rmX12_nextAnswer : Room := { frames := 5, cells := 0, slots := 0, locals := 131 }
theorem vX12_nextAnswer : VI RX12 yX12_nextAnswer cX12_nextAnswer 2 (some .boolean) 1 := ⟨tw8_172, tp60, tw1_8, tw8_173, by decide +kernel⟩
set_option maxHeartbeats 4000000 in
theorem m_X12_nextAnswer {G : Gp} (l : Launch) (hfl : l.stackTraces = false) (N : Nat) {a0 : Nat} {p1 : Int32} {h0 : Hp} {K : Int32 → Hp → Prop} (hw : w_X12_nextAnswer N a0 p1 h0 K) : MT G l yX12_nextAnswer cX12_nextAnswer 2 (some .boolean) rmX12_nextAnswer [rV (some a0), iV p1] h0 (QI G K) := by
  refine go_metT l hfl _ 2 _ _ rfl (by decide +kernel) (Nat.le_of_ble_eq_true rfl) [(0, rV (some a0)), (1, iV p1)] rfl (fun X hX C hn => ?_)
  subst hX
  unfold w_X12_nextAnswer at hw
  refine go_aload_n C dX12_nextAnswer_0 0 rfl ?_
  refine go_getI C (cfX12) (k := 38) (Nat.le_of_ble_eq_true rfl) tw7_121 rfl dX12_nextAnswer_1 hw (fun v1 hw => ?_)
  refine go_if_lt C 115 dX12_nextAnswer_4 (by decide) hw (fun hw => ?_) (fun hw => ?_)
  · refine go_iconst C 0 dX12_nextAnswer_115 kc_i0 ?_
    exact go_zret C dX12_nextAnswer_116 ⟨rfl, hw⟩ (Nat.le_of_ble_eq_true rfl) (Nat.le_of_ble_eq_true rfl)
  refine go_aload_n C dX12_nextAnswer_7 0 rfl ?_
  refine go_getA C (cfX12) (k := 37) (Nat.le_of_ble_eq_true rfl) tw7_120 rfl dX12_nextAnswer_8 hw (fun a2 hw => ?_)
  refine go_aload_n C dX12_nextAnswer_11 0 rfl ?_
  refine go_getI C (cfX12) (k := 38) (Nat.le_of_ble_eq_true rfl) tw7_121 rfl dX12_nextAnswer_12 hw (fun v3 hw => ?_)
  refine go_dup2 C _ _ dX12_nextAnswer_15 rfl rfl ?_
  refine go_iaload C dX12_nextAnswer_16 hw (fun v4 hw => ?_)
  refine go_iconst C 1 dX12_nextAnswer_17 kc_i1 ?_
  refine go_iadd C dX12_nextAnswer_18 ?_
  refine go_iastore C dX12_nextAnswer_19 hw (fun h5 hw => ?_)
  refine go_aload_n C dX12_nextAnswer_20 0 rfl ?_
  refine go_getA C (cfX12) (k := 37) (Nat.le_of_ble_eq_true rfl) tw7_120 rfl dX12_nextAnswer_21 hw (fun a6 hw => ?_)
  refine go_aload_n C dX12_nextAnswer_24 0 rfl ?_
  refine go_getI C (cfX12) (k := 38) (Nat.le_of_ble_eq_true rfl) tw7_121 rfl dX12_nextAnswer_25 hw (fun v7 hw => ?_)
  refine go_iaload C dX12_nextAnswer_28 hw (fun v8 hw => ?_)
  refine go_aload_n C dX12_nextAnswer_29 0 rfl ?_
  refine go_getA C (cfX12) (k := 3) (Nat.le_of_ble_eq_true rfl) tw7_86 rfl dX12_nextAnswer_30 hw (fun a9 hw => ?_)
  refine go_aload_n C dX12_nextAnswer_33 0 rfl ?_
  refine go_getA C (cfX12) (k := 26) (Nat.le_of_ble_eq_true rfl) tw7_109 rfl dX12_nextAnswer_34 hw (fun a10 hw => ?_)
  refine go_iconst C 3 dX12_nextAnswer_37 kc_i3 ?_
  refine go_iload_n C dX12_nextAnswer_38 1 rfl ?_
  refine go_imul C dX12_nextAnswer_39 ?_
  refine go_aload_n C dX12_nextAnswer_40 0 rfl ?_
  refine go_getI C (cfX12) (k := 38) (Nat.le_of_ble_eq_true rfl) tw7_121 rfl dX12_nextAnswer_41 hw (fun v11 hw => ?_)
  refine go_iadd C dX12_nextAnswer_44 ?_
  refine go_iaload C dX12_nextAnswer_45 hw (fun v12 hw => ?_)
  refine go_iaload C dX12_nextAnswer_46 hw (fun v13 hw => ?_)
  refine go_icmp_ne C 73 dX12_nextAnswer_47 (by decide) hw (fun hw => ?_) (fun hw => ?_)
  · refine go_aload_n C dX12_nextAnswer_73 0 rfl ?_
    refine go_iload_n C dX12_nextAnswer_74 1 rfl ?_
    refine go_aload_n C dX12_nextAnswer_75 0 rfl ?_
    refine go_getI C (cfX12) (k := 38) (Nat.le_of_ble_eq_true rfl) tw7_121 rfl dX12_nextAnswer_76 hw (fun v14 hw => ?_)
    refine go_pV_i C [iV p1, iV v14] vX12_fits tw8_174 (ci := 12) rfl (m_X12_fits (xl X) C.2.2.2.2.2.2.2.1 N hw.2) ⟨Nat.le_of_ble_eq_true rfl, Nat.le_of_ble_eq_true rfl, Nat.le_of_ble_eq_true rfl, Nat.le_of_ble_eq_true rfl⟩ ⟨rfl, rfl⟩ hw.1 dX12_nextAnswer_79 rfl (Nat.le_of_ble_eq_true rfl) rfl (fun v15 hw => ?_)
    refine go_if_eq C 0 dX12_nextAnswer_82 (by decide) hw (fun hw => ?_) (fun hw => ?_)
    · refine fx1_elim (P := fun h16 => Go G X rmX12_nextAnswer 2 0 0 (QN G X (QI G K) rmX12_nextAnswer) h16 0 [(0, rV (some a0)), (1, iV p1)] []) (fun w0 hj0 h16 hw => ?_) N _ hw
      refine go_aload_n C dX12_nextAnswer_0 0 rfl ?_
      refine go_getI C (cfX12) (k := 38) (Nat.le_of_ble_eq_true rfl) tw7_121 rfl dX12_nextAnswer_1 hw (fun v17 hw => ?_)
      refine go_if_lt C 115 dX12_nextAnswer_4 (by decide) hw (fun hw => ?_) (fun hw => ?_)
      · refine go_iconst C 0 dX12_nextAnswer_115 kc_i0 ?_
        exact go_zret C dX12_nextAnswer_116 ⟨rfl, hw⟩ (Nat.le_of_ble_eq_true rfl) (Nat.le_of_ble_eq_true rfl)
      refine go_aload_n C dX12_nextAnswer_7 0 rfl ?_
      refine go_getA C (cfX12) (k := 37) (Nat.le_of_ble_eq_true rfl) tw7_120 rfl dX12_nextAnswer_8 hw (fun a18 hw => ?_)
      refine go_aload_n C dX12_nextAnswer_11 0 rfl ?_
      refine go_getI C (cfX12) (k := 38) (Nat.le_of_ble_eq_true rfl) tw7_121 rfl dX12_nextAnswer_12 hw (fun v19 hw => ?_)
      refine go_dup2 C _ _ dX12_nextAnswer_15 rfl rfl ?_
      refine go_iaload C dX12_nextAnswer_16 hw (fun v20 hw => ?_)
      refine go_iconst C 1 dX12_nextAnswer_17 kc_i1 ?_
      refine go_iadd C dX12_nextAnswer_18 ?_
      refine go_iastore C dX12_nextAnswer_19 hw (fun h21 hw => ?_)
      refine go_aload_n C dX12_nextAnswer_20 0 rfl ?_
      refine go_getA C (cfX12) (k := 37) (Nat.le_of_ble_eq_true rfl) tw7_120 rfl dX12_nextAnswer_21 hw (fun a22 hw => ?_)
      refine go_aload_n C dX12_nextAnswer_24 0 rfl ?_
      refine go_getI C (cfX12) (k := 38) (Nat.le_of_ble_eq_true rfl) tw7_121 rfl dX12_nextAnswer_25 hw (fun v23 hw => ?_)
      refine go_iaload C dX12_nextAnswer_28 hw (fun v24 hw => ?_)
      refine go_aload_n C dX12_nextAnswer_29 0 rfl ?_
      refine go_getA C (cfX12) (k := 3) (Nat.le_of_ble_eq_true rfl) tw7_86 rfl dX12_nextAnswer_30 hw (fun a25 hw => ?_)
      refine go_aload_n C dX12_nextAnswer_33 0 rfl ?_
      refine go_getA C (cfX12) (k := 26) (Nat.le_of_ble_eq_true rfl) tw7_109 rfl dX12_nextAnswer_34 hw (fun a26 hw => ?_)
      refine go_iconst C 3 dX12_nextAnswer_37 kc_i3 ?_
      refine go_iload_n C dX12_nextAnswer_38 1 rfl ?_
      refine go_imul C dX12_nextAnswer_39 ?_
      refine go_aload_n C dX12_nextAnswer_40 0 rfl ?_
      refine go_getI C (cfX12) (k := 38) (Nat.le_of_ble_eq_true rfl) tw7_121 rfl dX12_nextAnswer_41 hw (fun v27 hw => ?_)
      refine go_iadd C dX12_nextAnswer_44 ?_
      refine go_iaload C dX12_nextAnswer_45 hw (fun v28 hw => ?_)
      refine go_iaload C dX12_nextAnswer_46 hw (fun v29 hw => ?_)
      refine go_icmp_ne C 73 dX12_nextAnswer_47 (by decide) hw (fun hw => ?_) (fun hw => ?_)
      · refine go_aload_n C dX12_nextAnswer_73 0 rfl ?_
        refine go_iload_n C dX12_nextAnswer_74 1 rfl ?_
        refine go_aload_n C dX12_nextAnswer_75 0 rfl ?_
        refine go_getI C (cfX12) (k := 38) (Nat.le_of_ble_eq_true rfl) tw7_121 rfl dX12_nextAnswer_76 hw (fun v30 hw => ?_)
        refine go_pV_i C [iV p1, iV v30] vX12_fits tw8_174 (ci := 12) rfl (m_X12_fits (xl X) C.2.2.2.2.2.2.2.1 N hw.2) ⟨Nat.le_of_ble_eq_true rfl, Nat.le_of_ble_eq_true rfl, Nat.le_of_ble_eq_true rfl, Nat.le_of_ble_eq_true rfl⟩ ⟨rfl, rfl⟩ hw.1 dX12_nextAnswer_79 rfl (Nat.le_of_ble_eq_true rfl) rfl (fun v31 hw => ?_)
        refine go_if_eq C 0 dX12_nextAnswer_82 (by decide) hw (fun hw => ?_) (fun hw => ?_)
        · exact hj0 h21 hw
        refine go_aload_n C dX12_nextAnswer_85 0 rfl ?_
        refine go_getI C (cfX12) (k := 38) (Nat.le_of_ble_eq_true rfl) tw7_121 rfl dX12_nextAnswer_86 hw (fun v32 hw => ?_)
        refine go_aload_n C dX12_nextAnswer_89 0 rfl ?_
        refine go_getA C (cfX12) (k := 25) (Nat.le_of_ble_eq_true rfl) tw7_108 rfl dX12_nextAnswer_90 hw (fun a33 hw => ?_)
        refine go_iload_n C dX12_nextAnswer_93 1 rfl ?_
        refine go_iaload C dX12_nextAnswer_94 hw (fun v34 hw => ?_)
        refine go_iconst C 1 dX12_nextAnswer_95 kc_i1 ?_
        refine go_isub C dX12_nextAnswer_96 ?_
        refine go_icmp_ne C 102 dX12_nextAnswer_97 (by decide) hw (fun hw => ?_) (fun hw => ?_)
        · refine go_aload_n C dX12_nextAnswer_102 0 rfl ?_
          refine go_dup C _ dX12_nextAnswer_103 rfl ?_
          refine go_getI C (cfX12) (k := 38) (Nat.le_of_ble_eq_true rfl) tw7_121 rfl dX12_nextAnswer_104 hw (fun v35 hw => ?_)
          refine go_iconst C 1 dX12_nextAnswer_107 kc_i1 ?_
          refine go_iadd C dX12_nextAnswer_108 ?_
          refine go_putI C (cfX12) (k := 38) (Nat.le_of_ble_eq_true rfl) tw7_121 rfl (Or.inl rfl) rfl dX12_nextAnswer_109 hw (fun h36 hw => ?_)
          refine go_goto C 0 dX12_nextAnswer_112 (by decide) ?_
          exact hj0 h36 hw
        refine go_iconst C 1 dX12_nextAnswer_100 kc_i1 ?_
        exact go_zret C dX12_nextAnswer_101 ⟨rfl, hw⟩ (Nat.le_of_ble_eq_true rfl) (Nat.le_of_ble_eq_true rfl)
      refine go_aload_n C dX12_nextAnswer_50 0 rfl ?_
      refine go_getA C (cfX12) (k := 37) (Nat.le_of_ble_eq_true rfl) tw7_120 rfl dX12_nextAnswer_51 hw (fun a37 hw => ?_)
      refine go_aload_n C dX12_nextAnswer_54 0 rfl ?_
      refine go_getI C (cfX12) (k := 38) (Nat.le_of_ble_eq_true rfl) tw7_121 rfl dX12_nextAnswer_55 hw (fun v38 hw => ?_)
      refine go_iconst C (-1) dX12_nextAnswer_58 kc_im1 ?_
      refine go_iastore C dX12_nextAnswer_59 hw (fun h39 hw => ?_)
      refine go_aload_n C dX12_nextAnswer_60 0 rfl ?_
      refine go_dup C _ dX12_nextAnswer_61 rfl ?_
      refine go_getI C (cfX12) (k := 38) (Nat.le_of_ble_eq_true rfl) tw7_121 rfl dX12_nextAnswer_62 hw (fun v40 hw => ?_)
      refine go_iconst C 1 dX12_nextAnswer_65 kc_i1 ?_
      refine go_isub C dX12_nextAnswer_66 ?_
      refine go_putI C (cfX12) (k := 38) (Nat.le_of_ble_eq_true rfl) tw7_121 rfl (Or.inl rfl) rfl dX12_nextAnswer_67 hw (fun h41 hw => ?_)
      refine go_goto C 0 dX12_nextAnswer_70 (by decide) ?_
      exact hj0 h41 hw
    refine go_aload_n C dX12_nextAnswer_85 0 rfl ?_
    refine go_getI C (cfX12) (k := 38) (Nat.le_of_ble_eq_true rfl) tw7_121 rfl dX12_nextAnswer_86 hw (fun v42 hw => ?_)
    refine go_aload_n C dX12_nextAnswer_89 0 rfl ?_
    refine go_getA C (cfX12) (k := 25) (Nat.le_of_ble_eq_true rfl) tw7_108 rfl dX12_nextAnswer_90 hw (fun a43 hw => ?_)
    refine go_iload_n C dX12_nextAnswer_93 1 rfl ?_
    refine go_iaload C dX12_nextAnswer_94 hw (fun v44 hw => ?_)
    refine go_iconst C 1 dX12_nextAnswer_95 kc_i1 ?_
    refine go_isub C dX12_nextAnswer_96 ?_
    refine go_icmp_ne C 102 dX12_nextAnswer_97 (by decide) hw (fun hw => ?_) (fun hw => ?_)
    · refine go_aload_n C dX12_nextAnswer_102 0 rfl ?_
      refine go_dup C _ dX12_nextAnswer_103 rfl ?_
      refine go_getI C (cfX12) (k := 38) (Nat.le_of_ble_eq_true rfl) tw7_121 rfl dX12_nextAnswer_104 hw (fun v45 hw => ?_)
      refine go_iconst C 1 dX12_nextAnswer_107 kc_i1 ?_
      refine go_iadd C dX12_nextAnswer_108 ?_
      refine go_putI C (cfX12) (k := 38) (Nat.le_of_ble_eq_true rfl) tw7_121 rfl (Or.inl rfl) rfl dX12_nextAnswer_109 hw (fun h46 hw => ?_)
      refine go_goto C 0 dX12_nextAnswer_112 (by decide) ?_
      refine fx1_elim (P := fun h47 => Go G X rmX12_nextAnswer 2 0 0 (QN G X (QI G K) rmX12_nextAnswer) h47 0 [(0, rV (some a0)), (1, iV p1)] []) (fun w0 hj0 h47 hw => ?_) N _ hw
      refine go_aload_n C dX12_nextAnswer_0 0 rfl ?_
      refine go_getI C (cfX12) (k := 38) (Nat.le_of_ble_eq_true rfl) tw7_121 rfl dX12_nextAnswer_1 hw (fun v48 hw => ?_)
      refine go_if_lt C 115 dX12_nextAnswer_4 (by decide) hw (fun hw => ?_) (fun hw => ?_)
      · refine go_iconst C 0 dX12_nextAnswer_115 kc_i0 ?_
        exact go_zret C dX12_nextAnswer_116 ⟨rfl, hw⟩ (Nat.le_of_ble_eq_true rfl) (Nat.le_of_ble_eq_true rfl)
      refine go_aload_n C dX12_nextAnswer_7 0 rfl ?_
      refine go_getA C (cfX12) (k := 37) (Nat.le_of_ble_eq_true rfl) tw7_120 rfl dX12_nextAnswer_8 hw (fun a49 hw => ?_)
      refine go_aload_n C dX12_nextAnswer_11 0 rfl ?_
      refine go_getI C (cfX12) (k := 38) (Nat.le_of_ble_eq_true rfl) tw7_121 rfl dX12_nextAnswer_12 hw (fun v50 hw => ?_)
      refine go_dup2 C _ _ dX12_nextAnswer_15 rfl rfl ?_
      refine go_iaload C dX12_nextAnswer_16 hw (fun v51 hw => ?_)
      refine go_iconst C 1 dX12_nextAnswer_17 kc_i1 ?_
      refine go_iadd C dX12_nextAnswer_18 ?_
      refine go_iastore C dX12_nextAnswer_19 hw (fun h52 hw => ?_)
      refine go_aload_n C dX12_nextAnswer_20 0 rfl ?_
      refine go_getA C (cfX12) (k := 37) (Nat.le_of_ble_eq_true rfl) tw7_120 rfl dX12_nextAnswer_21 hw (fun a53 hw => ?_)
      refine go_aload_n C dX12_nextAnswer_24 0 rfl ?_
      refine go_getI C (cfX12) (k := 38) (Nat.le_of_ble_eq_true rfl) tw7_121 rfl dX12_nextAnswer_25 hw (fun v54 hw => ?_)
      refine go_iaload C dX12_nextAnswer_28 hw (fun v55 hw => ?_)
      refine go_aload_n C dX12_nextAnswer_29 0 rfl ?_
      refine go_getA C (cfX12) (k := 3) (Nat.le_of_ble_eq_true rfl) tw7_86 rfl dX12_nextAnswer_30 hw (fun a56 hw => ?_)
      refine go_aload_n C dX12_nextAnswer_33 0 rfl ?_
      refine go_getA C (cfX12) (k := 26) (Nat.le_of_ble_eq_true rfl) tw7_109 rfl dX12_nextAnswer_34 hw (fun a57 hw => ?_)
      refine go_iconst C 3 dX12_nextAnswer_37 kc_i3 ?_
      refine go_iload_n C dX12_nextAnswer_38 1 rfl ?_
      refine go_imul C dX12_nextAnswer_39 ?_
      refine go_aload_n C dX12_nextAnswer_40 0 rfl ?_
      refine go_getI C (cfX12) (k := 38) (Nat.le_of_ble_eq_true rfl) tw7_121 rfl dX12_nextAnswer_41 hw (fun v58 hw => ?_)
      refine go_iadd C dX12_nextAnswer_44 ?_
      refine go_iaload C dX12_nextAnswer_45 hw (fun v59 hw => ?_)
      refine go_iaload C dX12_nextAnswer_46 hw (fun v60 hw => ?_)
      refine go_icmp_ne C 73 dX12_nextAnswer_47 (by decide) hw (fun hw => ?_) (fun hw => ?_)
      · refine go_aload_n C dX12_nextAnswer_73 0 rfl ?_
        refine go_iload_n C dX12_nextAnswer_74 1 rfl ?_
        refine go_aload_n C dX12_nextAnswer_75 0 rfl ?_
        refine go_getI C (cfX12) (k := 38) (Nat.le_of_ble_eq_true rfl) tw7_121 rfl dX12_nextAnswer_76 hw (fun v61 hw => ?_)
        refine go_pV_i C [iV p1, iV v61] vX12_fits tw8_174 (ci := 12) rfl (m_X12_fits (xl X) C.2.2.2.2.2.2.2.1 N hw.2) ⟨Nat.le_of_ble_eq_true rfl, Nat.le_of_ble_eq_true rfl, Nat.le_of_ble_eq_true rfl, Nat.le_of_ble_eq_true rfl⟩ ⟨rfl, rfl⟩ hw.1 dX12_nextAnswer_79 rfl (Nat.le_of_ble_eq_true rfl) rfl (fun v62 hw => ?_)
        refine go_if_eq C 0 dX12_nextAnswer_82 (by decide) hw (fun hw => ?_) (fun hw => ?_)
        · exact hj0 h52 hw
        refine go_aload_n C dX12_nextAnswer_85 0 rfl ?_
        refine go_getI C (cfX12) (k := 38) (Nat.le_of_ble_eq_true rfl) tw7_121 rfl dX12_nextAnswer_86 hw (fun v63 hw => ?_)
        refine go_aload_n C dX12_nextAnswer_89 0 rfl ?_
        refine go_getA C (cfX12) (k := 25) (Nat.le_of_ble_eq_true rfl) tw7_108 rfl dX12_nextAnswer_90 hw (fun a64 hw => ?_)
        refine go_iload_n C dX12_nextAnswer_93 1 rfl ?_
        refine go_iaload C dX12_nextAnswer_94 hw (fun v65 hw => ?_)
        refine go_iconst C 1 dX12_nextAnswer_95 kc_i1 ?_
        refine go_isub C dX12_nextAnswer_96 ?_
        refine go_icmp_ne C 102 dX12_nextAnswer_97 (by decide) hw (fun hw => ?_) (fun hw => ?_)
        · refine go_aload_n C dX12_nextAnswer_102 0 rfl ?_
          refine go_dup C _ dX12_nextAnswer_103 rfl ?_
          refine go_getI C (cfX12) (k := 38) (Nat.le_of_ble_eq_true rfl) tw7_121 rfl dX12_nextAnswer_104 hw (fun v66 hw => ?_)
          refine go_iconst C 1 dX12_nextAnswer_107 kc_i1 ?_
          refine go_iadd C dX12_nextAnswer_108 ?_
          refine go_putI C (cfX12) (k := 38) (Nat.le_of_ble_eq_true rfl) tw7_121 rfl (Or.inl rfl) rfl dX12_nextAnswer_109 hw (fun h67 hw => ?_)
          refine go_goto C 0 dX12_nextAnswer_112 (by decide) ?_
          exact hj0 h67 hw
        refine go_iconst C 1 dX12_nextAnswer_100 kc_i1 ?_
        exact go_zret C dX12_nextAnswer_101 ⟨rfl, hw⟩ (Nat.le_of_ble_eq_true rfl) (Nat.le_of_ble_eq_true rfl)
      refine go_aload_n C dX12_nextAnswer_50 0 rfl ?_
      refine go_getA C (cfX12) (k := 37) (Nat.le_of_ble_eq_true rfl) tw7_120 rfl dX12_nextAnswer_51 hw (fun a68 hw => ?_)
      refine go_aload_n C dX12_nextAnswer_54 0 rfl ?_
      refine go_getI C (cfX12) (k := 38) (Nat.le_of_ble_eq_true rfl) tw7_121 rfl dX12_nextAnswer_55 hw (fun v69 hw => ?_)
      refine go_iconst C (-1) dX12_nextAnswer_58 kc_im1 ?_
      refine go_iastore C dX12_nextAnswer_59 hw (fun h70 hw => ?_)
      refine go_aload_n C dX12_nextAnswer_60 0 rfl ?_
      refine go_dup C _ dX12_nextAnswer_61 rfl ?_
      refine go_getI C (cfX12) (k := 38) (Nat.le_of_ble_eq_true rfl) tw7_121 rfl dX12_nextAnswer_62 hw (fun v71 hw => ?_)
      refine go_iconst C 1 dX12_nextAnswer_65 kc_i1 ?_
      refine go_isub C dX12_nextAnswer_66 ?_
      refine go_putI C (cfX12) (k := 38) (Nat.le_of_ble_eq_true rfl) tw7_121 rfl (Or.inl rfl) rfl dX12_nextAnswer_67 hw (fun h72 hw => ?_)
      refine go_goto C 0 dX12_nextAnswer_70 (by decide) ?_
      exact hj0 h72 hw
    refine go_iconst C 1 dX12_nextAnswer_100 kc_i1 ?_
    exact go_zret C dX12_nextAnswer_101 ⟨rfl, hw⟩ (Nat.le_of_ble_eq_true rfl) (Nat.le_of_ble_eq_true rfl)
  refine go_aload_n C dX12_nextAnswer_50 0 rfl ?_
  refine go_getA C (cfX12) (k := 37) (Nat.le_of_ble_eq_true rfl) tw7_120 rfl dX12_nextAnswer_51 hw (fun a73 hw => ?_)
  refine go_aload_n C dX12_nextAnswer_54 0 rfl ?_
  refine go_getI C (cfX12) (k := 38) (Nat.le_of_ble_eq_true rfl) tw7_121 rfl dX12_nextAnswer_55 hw (fun v74 hw => ?_)
  refine go_iconst C (-1) dX12_nextAnswer_58 kc_im1 ?_
  refine go_iastore C dX12_nextAnswer_59 hw (fun h75 hw => ?_)
  refine go_aload_n C dX12_nextAnswer_60 0 rfl ?_
  refine go_dup C _ dX12_nextAnswer_61 rfl ?_
  refine go_getI C (cfX12) (k := 38) (Nat.le_of_ble_eq_true rfl) tw7_121 rfl dX12_nextAnswer_62 hw (fun v76 hw => ?_)
  refine go_iconst C 1 dX12_nextAnswer_65 kc_i1 ?_
  refine go_isub C dX12_nextAnswer_66 ?_
  refine go_putI C (cfX12) (k := 38) (Nat.le_of_ble_eq_true rfl) tw7_121 rfl (Or.inl rfl) rfl dX12_nextAnswer_67 hw (fun h77 hw => ?_)
  refine go_goto C 0 dX12_nextAnswer_70 (by decide) ?_
  refine fx1_elim (P := fun h78 => Go G X rmX12_nextAnswer 2 0 0 (QN G X (QI G K) rmX12_nextAnswer) h78 0 [(0, rV (some a0)), (1, iV p1)] []) (fun w0 hj0 h78 hw => ?_) N _ hw
  refine go_aload_n C dX12_nextAnswer_0 0 rfl ?_
  refine go_getI C (cfX12) (k := 38) (Nat.le_of_ble_eq_true rfl) tw7_121 rfl dX12_nextAnswer_1 hw (fun v79 hw => ?_)
  refine go_if_lt C 115 dX12_nextAnswer_4 (by decide) hw (fun hw => ?_) (fun hw => ?_)
  · refine go_iconst C 0 dX12_nextAnswer_115 kc_i0 ?_
    exact go_zret C dX12_nextAnswer_116 ⟨rfl, hw⟩ (Nat.le_of_ble_eq_true rfl) (Nat.le_of_ble_eq_true rfl)
  refine go_aload_n C dX12_nextAnswer_7 0 rfl ?_
  refine go_getA C (cfX12) (k := 37) (Nat.le_of_ble_eq_true rfl) tw7_120 rfl dX12_nextAnswer_8 hw (fun a80 hw => ?_)
  refine go_aload_n C dX12_nextAnswer_11 0 rfl ?_
  refine go_getI C (cfX12) (k := 38) (Nat.le_of_ble_eq_true rfl) tw7_121 rfl dX12_nextAnswer_12 hw (fun v81 hw => ?_)
  refine go_dup2 C _ _ dX12_nextAnswer_15 rfl rfl ?_
  refine go_iaload C dX12_nextAnswer_16 hw (fun v82 hw => ?_)
  refine go_iconst C 1 dX12_nextAnswer_17 kc_i1 ?_
  refine go_iadd C dX12_nextAnswer_18 ?_
  refine go_iastore C dX12_nextAnswer_19 hw (fun h83 hw => ?_)
  refine go_aload_n C dX12_nextAnswer_20 0 rfl ?_
  refine go_getA C (cfX12) (k := 37) (Nat.le_of_ble_eq_true rfl) tw7_120 rfl dX12_nextAnswer_21 hw (fun a84 hw => ?_)
  refine go_aload_n C dX12_nextAnswer_24 0 rfl ?_
  refine go_getI C (cfX12) (k := 38) (Nat.le_of_ble_eq_true rfl) tw7_121 rfl dX12_nextAnswer_25 hw (fun v85 hw => ?_)
  refine go_iaload C dX12_nextAnswer_28 hw (fun v86 hw => ?_)
  refine go_aload_n C dX12_nextAnswer_29 0 rfl ?_
  refine go_getA C (cfX12) (k := 3) (Nat.le_of_ble_eq_true rfl) tw7_86 rfl dX12_nextAnswer_30 hw (fun a87 hw => ?_)
  refine go_aload_n C dX12_nextAnswer_33 0 rfl ?_
  refine go_getA C (cfX12) (k := 26) (Nat.le_of_ble_eq_true rfl) tw7_109 rfl dX12_nextAnswer_34 hw (fun a88 hw => ?_)
  refine go_iconst C 3 dX12_nextAnswer_37 kc_i3 ?_
  refine go_iload_n C dX12_nextAnswer_38 1 rfl ?_
  refine go_imul C dX12_nextAnswer_39 ?_
  refine go_aload_n C dX12_nextAnswer_40 0 rfl ?_
  refine go_getI C (cfX12) (k := 38) (Nat.le_of_ble_eq_true rfl) tw7_121 rfl dX12_nextAnswer_41 hw (fun v89 hw => ?_)
  refine go_iadd C dX12_nextAnswer_44 ?_
  refine go_iaload C dX12_nextAnswer_45 hw (fun v90 hw => ?_)
  refine go_iaload C dX12_nextAnswer_46 hw (fun v91 hw => ?_)
  refine go_icmp_ne C 73 dX12_nextAnswer_47 (by decide) hw (fun hw => ?_) (fun hw => ?_)
  · refine go_aload_n C dX12_nextAnswer_73 0 rfl ?_
    refine go_iload_n C dX12_nextAnswer_74 1 rfl ?_
    refine go_aload_n C dX12_nextAnswer_75 0 rfl ?_
    refine go_getI C (cfX12) (k := 38) (Nat.le_of_ble_eq_true rfl) tw7_121 rfl dX12_nextAnswer_76 hw (fun v92 hw => ?_)
    refine go_pV_i C [iV p1, iV v92] vX12_fits tw8_174 (ci := 12) rfl (m_X12_fits (xl X) C.2.2.2.2.2.2.2.1 N hw.2) ⟨Nat.le_of_ble_eq_true rfl, Nat.le_of_ble_eq_true rfl, Nat.le_of_ble_eq_true rfl, Nat.le_of_ble_eq_true rfl⟩ ⟨rfl, rfl⟩ hw.1 dX12_nextAnswer_79 rfl (Nat.le_of_ble_eq_true rfl) rfl (fun v93 hw => ?_)
    refine go_if_eq C 0 dX12_nextAnswer_82 (by decide) hw (fun hw => ?_) (fun hw => ?_)
    · exact hj0 h83 hw
    refine go_aload_n C dX12_nextAnswer_85 0 rfl ?_
    refine go_getI C (cfX12) (k := 38) (Nat.le_of_ble_eq_true rfl) tw7_121 rfl dX12_nextAnswer_86 hw (fun v94 hw => ?_)
    refine go_aload_n C dX12_nextAnswer_89 0 rfl ?_
    refine go_getA C (cfX12) (k := 25) (Nat.le_of_ble_eq_true rfl) tw7_108 rfl dX12_nextAnswer_90 hw (fun a95 hw => ?_)
    refine go_iload_n C dX12_nextAnswer_93 1 rfl ?_
    refine go_iaload C dX12_nextAnswer_94 hw (fun v96 hw => ?_)
    refine go_iconst C 1 dX12_nextAnswer_95 kc_i1 ?_
    refine go_isub C dX12_nextAnswer_96 ?_
    refine go_icmp_ne C 102 dX12_nextAnswer_97 (by decide) hw (fun hw => ?_) (fun hw => ?_)
    · refine go_aload_n C dX12_nextAnswer_102 0 rfl ?_
      refine go_dup C _ dX12_nextAnswer_103 rfl ?_
      refine go_getI C (cfX12) (k := 38) (Nat.le_of_ble_eq_true rfl) tw7_121 rfl dX12_nextAnswer_104 hw (fun v97 hw => ?_)
      refine go_iconst C 1 dX12_nextAnswer_107 kc_i1 ?_
      refine go_iadd C dX12_nextAnswer_108 ?_
      refine go_putI C (cfX12) (k := 38) (Nat.le_of_ble_eq_true rfl) tw7_121 rfl (Or.inl rfl) rfl dX12_nextAnswer_109 hw (fun h98 hw => ?_)
      refine go_goto C 0 dX12_nextAnswer_112 (by decide) ?_
      exact hj0 h98 hw
    refine go_iconst C 1 dX12_nextAnswer_100 kc_i1 ?_
    exact go_zret C dX12_nextAnswer_101 ⟨rfl, hw⟩ (Nat.le_of_ble_eq_true rfl) (Nat.le_of_ble_eq_true rfl)
  refine go_aload_n C dX12_nextAnswer_50 0 rfl ?_
  refine go_getA C (cfX12) (k := 37) (Nat.le_of_ble_eq_true rfl) tw7_120 rfl dX12_nextAnswer_51 hw (fun a99 hw => ?_)
  refine go_aload_n C dX12_nextAnswer_54 0 rfl ?_
  refine go_getI C (cfX12) (k := 38) (Nat.le_of_ble_eq_true rfl) tw7_121 rfl dX12_nextAnswer_55 hw (fun v100 hw => ?_)
  refine go_iconst C (-1) dX12_nextAnswer_58 kc_im1 ?_
  refine go_iastore C dX12_nextAnswer_59 hw (fun h101 hw => ?_)
  refine go_aload_n C dX12_nextAnswer_60 0 rfl ?_
  refine go_dup C _ dX12_nextAnswer_61 rfl ?_
  refine go_getI C (cfX12) (k := 38) (Nat.le_of_ble_eq_true rfl) tw7_121 rfl dX12_nextAnswer_62 hw (fun v102 hw => ?_)
  refine go_iconst C 1 dX12_nextAnswer_65 kc_i1 ?_
  refine go_isub C dX12_nextAnswer_66 ?_
  refine go_putI C (cfX12) (k := 38) (Nat.le_of_ble_eq_true rfl) tw7_121 rfl (Or.inl rfl) rfl dX12_nextAnswer_67 hw (fun h103 hw => ?_)
  refine go_goto C 0 dX12_nextAnswer_70 (by decide) ?_
  exact hj0 h103 hw
/-- DuelSchemaModel.answers(I)I -/
def w_X12_answers (N : Nat) (a0 : Nat) (p1 : Int32) (h0 : Hp) (K : Int32 → Hp → Prop) : Prop :=
  pF h0 a0 12 0 (iV 0) fun h1 =>
  cv h1 a0 12 <| w_X12_isQuery N a0 p1 h1 fun v2 =>
  jn (fun (v3 : Int32) => 
    cv h1 a0 12 <| w_X12_fails N a0 v3 1 h1 fun v4 h5 =>
    br (v4 = 0) (
      gA h5 a0 12 25 fun a6 =>
      aI h5 a6 0 p1 fun v7 =>
      jn (fun (v8 : Int32) => 
        cv h5 a0 12 <| w_X12_fails N a0 v8 2 h5 fun v9 h10 =>
        br (v9 = 0) (
          cv h10 a0 12 <| w_X12_beginsAnswers N a0  h10 fun h11 =>
          fx2 (fun (w56 : Int32 → Hp → Prop) (x13 : Int32) (h12 : Hp) =>
            cv h12 a0 12 <| w_X12_nextAnswer N a0 p1 h12 fun v14 h15 =>
            br (v14 = 0) (
              K x13 h15) (
              w56 (x13 + 1) h15)) N 0 h11) (
          K (-1) h10)) (fun j41 =>
      br (v7 = 0) (
        j41 1) (
        j41 0))) (
      K (-1) h5)) (fun j19 =>
  br (v2 = 0) (
    j19 1) (
    j19 0))
abbrev rmX12_answers : Room := { frames := 6, cells := 0, slots := 0, locals := 152 }
theorem vX12_answers : VI RX12 yX12_answers cX12_answers 3 (some .int) 1 := ⟨tw8_159, tw8_160, tw1_8, tw8_161, by decide +kernel⟩
set_option maxHeartbeats 4000000 in
theorem m_X12_answers {G : Gp} (l : Launch) (hfl : l.stackTraces = false) (N : Nat) {a0 : Nat} {p1 : Int32} {h0 : Hp} {K : Int32 → Hp → Prop} (hw : w_X12_answers N a0 p1 h0 K) : MT G l yX12_answers cX12_answers 3 (some .int) rmX12_answers [rV (some a0), iV p1] h0 (QI G K) := by
  refine go_metT l hfl _ 3 _ _ rfl (by decide +kernel) (Nat.le_of_ble_eq_true rfl) [(0, rV (some a0)), (1, iV p1)] rfl (fun X hX C hn => ?_)
  subst hX
  unfold w_X12_answers at hw
  refine go_aload_n C dX12_answers_0 0 rfl ?_
  refine go_iconst C 0 dX12_answers_1 kc_i0 ?_
  refine go_putI C (cfX12) (k := 0) (Nat.le_of_ble_eq_true rfl) tw7_83 rfl (Or.inl rfl) rfl dX12_answers_2 hw (fun h1 hw => ?_)
  refine go_aload_n C dX12_answers_5 0 rfl ?_
  refine go_aload_n C dX12_answers_6 0 rfl ?_
  refine go_iload_n C dX12_answers_7 1 rfl ?_
  refine go_pV_i C [iV p1] vX12_isQuery tw8_142 (ci := 12) rfl (m_X12_isQuery (xl X) C.2.2.2.2.2.2.2.1 N hw.2) ⟨Nat.le_of_ble_eq_true rfl, Nat.le_of_ble_eq_true rfl, Nat.le_of_ble_eq_true rfl, Nat.le_of_ble_eq_true rfl⟩ ⟨rfl, rfl⟩ hw.1 dX12_answers_8 rfl (Nat.le_of_ble_eq_true rfl) rfl (fun v2 hw => ?_)
  refine jn_elim (P := fun j => ∀ (v3 : Int32), j v3 → Go G X rmX12_answers 3 0 0 (QN G X (QI G K) rmX12_answers) h1 19 [(0, rV (some a0)), (1, iV p1)] [iV v3, rV (some a0)]) hw (fun v3 hw => ?_) (fun j19 hj19 hw => ?_)
  · refine go_iconst C 1 dX12_answers_19 kc_i1 ?_
    refine go_c0V_i C [iV v3, iV 1] vX12_fails tw8_23 (ci := 12) rfl (m_X12_fails (xl X) C.2.2.2.2.2.2.2.1 N hw.2) ⟨Nat.le_of_ble_eq_true rfl, Nat.le_of_ble_eq_true rfl, Nat.le_of_ble_eq_true rfl, Nat.le_of_ble_eq_true rfl⟩ ⟨rfl, rfl⟩ hw.1 dX12_answers_20 rfl (Nat.le_of_ble_eq_true rfl) rfl (fun v4 h5 hw => ?_)
    refine go_if_ne C 48 dX12_answers_23 (by decide) hw (fun hw => ?_) (fun hw => ?_)
    · refine go_iconst C (-1) dX12_answers_48 kc_im1 ?_
      exact go_iret C dX12_answers_49 hw (Nat.le_of_ble_eq_true rfl) (Nat.le_of_ble_eq_true rfl)
    refine go_aload_n C dX12_answers_26 0 rfl ?_
    refine go_aload_n C dX12_answers_27 0 rfl ?_
    refine go_getA C (cfX12) (k := 25) (Nat.le_of_ble_eq_true rfl) tw7_108 rfl dX12_answers_28 hw (fun a6 hw => ?_)
    refine go_iload_n C dX12_answers_31 1 rfl ?_
    refine go_iaload C dX12_answers_32 hw (fun v7 hw => ?_)
    refine jn_elim (P := fun j => ∀ (v8 : Int32), j v8 → Go G X rmX12_answers 3 0 0 (QN G X (QI G K) rmX12_answers) h5 41 [(0, rV (some a0)), (1, iV p1)] [iV v8, rV (some a0)]) hw (fun v8 hw => ?_) (fun j41 hj41 hw => ?_)
    · refine go_iconst C 2 dX12_answers_41 kc_i2 ?_
      refine go_c0V_i C [iV v8, iV 2] vX12_fails tw8_23 (ci := 12) rfl (m_X12_fails (xl X) C.2.2.2.2.2.2.2.1 N hw.2) ⟨Nat.le_of_ble_eq_true rfl, Nat.le_of_ble_eq_true rfl, Nat.le_of_ble_eq_true rfl, Nat.le_of_ble_eq_true rfl⟩ ⟨rfl, rfl⟩ hw.1 dX12_answers_42 rfl (Nat.le_of_ble_eq_true rfl) rfl (fun v9 h10 hw => ?_)
      refine go_if_eq C 50 dX12_answers_45 (by decide) hw (fun hw => ?_) (fun hw => ?_)
      · refine go_iconst C 0 dX12_answers_50 kc_i0 ?_
        refine go_istore_n C [(2, iV 0), (0, rV (some a0)), (1, iV p1)] dX12_answers_51 (Nat.le_of_ble_eq_true rfl) rfl ?_
        refine go_aload_n C dX12_answers_52 1 rfl ?_
        refine go_c0V_v C [] vX12_beginsAnswers tw8_162 (ci := 12) rfl (m_X12_beginsAnswers (xl X) C.2.2.2.2.2.2.2.1 N hw.2) ⟨Nat.le_of_ble_eq_true rfl, Nat.le_of_ble_eq_true rfl, Nat.le_of_ble_eq_true rfl, Nat.le_of_ble_eq_true rfl⟩ ⟨rfl, rfl⟩ hw.1 dX12_answers_53 rfl (Nat.le_of_ble_eq_true rfl) rfl (fun h11 hw => ?_)
        refine go_sub [1, 2, 0] rfl ?_
        refine fx2_elim (P := fun x13 h12 => Go G X rmX12_answers 3 0 0 (QN G X (QI G K) rmX12_answers) h12 56 [(0, rV (some a0)), (1, iV p1), (2, iV x13)] []) (fun w56 hj56 x13 h12 hw => ?_) N _ _ hw
        refine go_aload_n C dX12_answers_56 0 rfl ?_
        refine go_iload_n C dX12_answers_57 1 rfl ?_
        refine go_c0V_i C [iV p1] vX12_nextAnswer tw8_170 (ci := 12) rfl (m_X12_nextAnswer (xl X) C.2.2.2.2.2.2.2.1 N hw.2) ⟨Nat.le_of_ble_eq_true rfl, Nat.le_of_ble_eq_true rfl, Nat.le_of_ble_eq_true rfl, Nat.le_of_ble_eq_true rfl⟩ ⟨rfl, rfl⟩ hw.1 dX12_answers_58 rfl (Nat.le_of_ble_eq_true rfl) rfl (fun v14 h15 hw => ?_)
        refine go_if_eq C 70 dX12_answers_61 (by decide) hw (fun hw => ?_) (fun hw => ?_)
        · refine go_iload_n C dX12_answers_70 2 rfl ?_
          exact go_iret C dX12_answers_71 hw (Nat.le_of_ble_eq_true rfl) (Nat.le_of_ble_eq_true rfl)
        refine go_iinc C (x13 + 1) [(2, iV (x13 + 1)), (0, rV (some a0)), (1, iV p1)] dX12_answers_64 2 rfl (by rw [kc_i1]) (Nat.le_of_ble_eq_true rfl) rfl ?_
        refine go_goto C 56 dX12_answers_67 (by decide) ?_
        refine go_sub [1, 2, 0] rfl ?_
        exact hj56 (x13 + 1) h15 hw
      refine go_iconst C (-1) dX12_answers_48 kc_im1 ?_
      exact go_iret C dX12_answers_49 hw (Nat.le_of_ble_eq_true rfl) (Nat.le_of_ble_eq_true rfl)
    refine go_if_ne C 40 dX12_answers_33 (by decide) hw (fun hw => ?_) (fun hw => ?_)
    · refine go_iconst C 0 dX12_answers_40 kc_i0 ?_
      exact hj41 0 hw
    refine go_iconst C 1 dX12_answers_36 kc_i1 ?_
    refine go_goto C 41 dX12_answers_37 (by decide) ?_
    exact hj41 1 hw
  refine go_if_ne C 18 dX12_answers_11 (by decide) hw (fun hw => ?_) (fun hw => ?_)
  · refine go_iconst C 0 dX12_answers_18 kc_i0 ?_
    exact hj19 0 hw
  refine go_iconst C 1 dX12_answers_14 kc_i1 ?_
  refine go_goto C 19 dX12_answers_15 (by decide) ?_
  exact hj19 1 hw
/-- DuelSchemaModel.answerAt(III)I -/
def w_X12_answerAt (N : Nat) (a0 : Nat) (p1 : Int32) (p2 : Int32) (p3 : Int32) (h0 : Hp) (K : Int32 → Hp → Prop) : Prop :=
  pF h0 a0 12 0 (iV 0) fun h1 =>
  cv h1 a0 12 <| w_X12_isQuery N a0 p1 h1 fun v2 =>
  jn (fun (v3 : Int32) => 
    cv h1 a0 12 <| w_X12_fails N a0 v3 1 h1 fun v4 h5 =>
    br (v4 = 0) (
      gA h5 a0 12 25 fun a6 =>
      aI h5 a6 0 p1 fun v7 =>
      w_X12_in N p3 0 (v7 - 1) h5 fun v8 =>
      jn (fun (v9 : Int32) => 
        cv h5 a0 12 <| w_X12_fails N a0 v9 2 h5 fun v10 h11 =>
        br (v10 = 0) (
          cv h11 a0 12 <| w_X12_beginsAnswers N a0  h11 fun h12 =>
          fx3 (fun (w67 : Int32 → Int32 → Hp → Prop) (x14 : Int32) (x15 : Int32) (h13 : Hp) =>
            cv h13 a0 12 <| w_X12_nextAnswer N a0 p1 h13 fun v16 h17 =>
            br (v16 = 0) (
              w_X12_in N p2 0 (x14 - 1) h17 fun v18 =>
              jn (fun (v19 : Int32) => 
                cv h17 a0 12 <| w_X12_fails N a0 v19 3 h17 fun v20 h21 =>
                br (v20 = 0) (
                  K x15 h21) (
                  K (-1) h21)) (fun j118 =>
              br (v18 = 0) (
                j118 1) (
                j118 0))) (
              jn (fun (v22 : Int32) => 
                w67 (x14 + 1) v22 h17) (fun j92 =>
              br (x14 = p2) (
                gA h17 a0 12 37 fun a23 =>
                aI h17 a23 0 p3 fun v24 =>
                j92 v24) (
                j92 x15)))) N 0 (-1) h12) (
          K (-1) h11)) (fun j48 =>
      br (v8 = 0) (
        j48 1) (
        j48 0))) (
      K (-1) h5)) (fun j19 =>
  br (v2 = 0) (
    j19 1) (
    j19 0))
abbrev rmX12_answerAt : Room := { frames := 6, cells := 0, slots := 0, locals := 152 }
theorem vX12_answerAt : VI RX12 yX12_answerAt cX12_answerAt 6 (some .int) 3 := ⟨tw8_186, tw8_187, tw1_8, tw8_188, by decide +kernel⟩
set_option maxHeartbeats 4000000 in
theorem m_X12_answerAt {G : Gp} (l : Launch) (hfl : l.stackTraces = false) (N : Nat) {a0 : Nat} {p1 : Int32} {p2 : Int32} {p3 : Int32} {h0 : Hp} {K : Int32 → Hp → Prop} (hw : w_X12_answerAt N a0 p1 p2 p3 h0 K) : MT G l yX12_answerAt cX12_answerAt 6 (some .int) rmX12_answerAt [rV (some a0), iV p1, iV p2, iV p3] h0 (QI G K) := by
  refine go_metT l hfl _ 6 _ _ rfl (by decide +kernel) (Nat.le_of_ble_eq_true rfl) [(0, rV (some a0)), (1, iV p1), (2, iV p2), (3, iV p3)] rfl (fun X hX C hn => ?_)
  subst hX
  unfold w_X12_answerAt at hw
  refine go_aload_n C dX12_answerAt_0 0 rfl ?_
  refine go_iconst C 0 dX12_answerAt_1 kc_i0 ?_
  refine go_putI C (cfX12) (k := 0) (Nat.le_of_ble_eq_true rfl) tw7_83 rfl (Or.inl rfl) rfl dX12_answerAt_2 hw (fun h1 hw => ?_)
  refine go_aload_n C dX12_answerAt_5 0 rfl ?_
  refine go_aload_n C dX12_answerAt_6 0 rfl ?_
  refine go_iload_n C dX12_answerAt_7 1 rfl ?_
  refine go_pV_i C [iV p1] vX12_isQuery tw8_142 (ci := 12) rfl (m_X12_isQuery (xl X) C.2.2.2.2.2.2.2.1 N hw.2) ⟨Nat.le_of_ble_eq_true rfl, Nat.le_of_ble_eq_true rfl, Nat.le_of_ble_eq_true rfl, Nat.le_of_ble_eq_true rfl⟩ ⟨rfl, rfl⟩ hw.1 dX12_answerAt_8 rfl (Nat.le_of_ble_eq_true rfl) rfl (fun v2 hw => ?_)
  refine jn_elim (P := fun j => ∀ (v3 : Int32), j v3 → Go G X rmX12_answerAt 6 0 0 (QN G X (QI G K) rmX12_answerAt) h1 19 [(0, rV (some a0)), (1, iV p1), (2, iV p2), (3, iV p3)] [iV v3, rV (some a0)]) hw (fun v3 hw => ?_) (fun j19 hj19 hw => ?_)
  · refine go_iconst C 1 dX12_answerAt_19 kc_i1 ?_
    refine go_c0V_i C [iV v3, iV 1] vX12_fails tw8_23 (ci := 12) rfl (m_X12_fails (xl X) C.2.2.2.2.2.2.2.1 N hw.2) ⟨Nat.le_of_ble_eq_true rfl, Nat.le_of_ble_eq_true rfl, Nat.le_of_ble_eq_true rfl, Nat.le_of_ble_eq_true rfl⟩ ⟨rfl, rfl⟩ hw.1 dX12_answerAt_20 rfl (Nat.le_of_ble_eq_true rfl) rfl (fun v4 h5 hw => ?_)
    refine go_if_ne C 55 dX12_answerAt_23 (by decide) hw (fun hw => ?_) (fun hw => ?_)
    · refine go_iconst C (-1) dX12_answerAt_55 kc_im1 ?_
      exact go_iret C dX12_answerAt_56 hw (Nat.le_of_ble_eq_true rfl) (Nat.le_of_ble_eq_true rfl)
    refine go_aload_n C dX12_answerAt_26 0 rfl ?_
    refine go_iload_n C dX12_answerAt_27 3 rfl ?_
    refine go_iconst C 0 dX12_answerAt_28 kc_i0 ?_
    refine go_aload_n C dX12_answerAt_29 0 rfl ?_
    refine go_getA C (cfX12) (k := 25) (Nat.le_of_ble_eq_true rfl) tw7_108 rfl dX12_answerAt_30 hw (fun a6 hw => ?_)
    refine go_iload_n C dX12_answerAt_33 1 rfl ?_
    refine go_iaload C dX12_answerAt_34 hw (fun v7 hw => ?_)
    refine go_iconst C 1 dX12_answerAt_35 kc_i1 ?_
    refine go_isub C dX12_answerAt_36 ?_
    refine go_pS_i C [iV p3, iV 0, iV (v7 - 1)] vX12_in tw8_20 (m_X12_in (xl X) C.2.2.2.2.2.2.2.1 N hw) ⟨Nat.le_of_ble_eq_true rfl, Nat.le_of_ble_eq_true rfl, Nat.le_of_ble_eq_true rfl, Nat.le_of_ble_eq_true rfl⟩ ⟨rfl, rfl⟩ dX12_answerAt_37 rfl (Nat.le_of_ble_eq_true rfl) rfl (fun v8 hw => ?_)
    refine jn_elim (P := fun j => ∀ (v9 : Int32), j v9 → Go G X rmX12_answerAt 6 0 0 (QN G X (QI G K) rmX12_answerAt) h5 48 [(0, rV (some a0)), (1, iV p1), (2, iV p2), (3, iV p3)] [iV v9, rV (some a0)]) hw (fun v9 hw => ?_) (fun j48 hj48 hw => ?_)
    · refine go_iconst C 2 dX12_answerAt_48 kc_i2 ?_
      refine go_c0V_i C [iV v9, iV 2] vX12_fails tw8_23 (ci := 12) rfl (m_X12_fails (xl X) C.2.2.2.2.2.2.2.1 N hw.2) ⟨Nat.le_of_ble_eq_true rfl, Nat.le_of_ble_eq_true rfl, Nat.le_of_ble_eq_true rfl, Nat.le_of_ble_eq_true rfl⟩ ⟨rfl, rfl⟩ hw.1 dX12_answerAt_49 rfl (Nat.le_of_ble_eq_true rfl) rfl (fun v10 h11 hw => ?_)
      refine go_if_eq C 57 dX12_answerAt_52 (by decide) hw (fun hw => ?_) (fun hw => ?_)
      · refine go_iconst C 0 dX12_answerAt_57 kc_i0 ?_
        refine go_istore C [(4, iV 0), (0, rV (some a0)), (1, iV p1), (2, iV p2), (3, iV p3)] dX12_answerAt_58 (Nat.le_of_ble_eq_true rfl) rfl ?_
        refine go_iconst C (-1) dX12_answerAt_60 kc_im1 ?_
        refine go_istore C [(5, iV (-1)), (4, iV 0), (0, rV (some a0)), (1, iV p1), (2, iV p2), (3, iV p3)] dX12_answerAt_61 (Nat.le_of_ble_eq_true rfl) rfl ?_
        refine go_aload_n C dX12_answerAt_63 2 rfl ?_
        refine go_c0V_v C [] vX12_beginsAnswers tw8_162 (ci := 12) rfl (m_X12_beginsAnswers (xl X) C.2.2.2.2.2.2.2.1 N hw.2) ⟨Nat.le_of_ble_eq_true rfl, Nat.le_of_ble_eq_true rfl, Nat.le_of_ble_eq_true rfl, Nat.le_of_ble_eq_true rfl⟩ ⟨rfl, rfl⟩ hw.1 dX12_answerAt_64 rfl (Nat.le_of_ble_eq_true rfl) rfl (fun h12 hw => ?_)
        refine go_sub [2, 3, 4, 5, 1, 0] rfl ?_
        refine fx3_elim (P := fun x14 x15 h13 => Go G X rmX12_answerAt 6 0 0 (QN G X (QI G K) rmX12_answerAt) h13 67 [(0, rV (some a0)), (1, iV p1), (2, iV p2), (3, iV p3), (4, iV x14), (5, iV x15)] []) (fun w67 hj67 x14 x15 h13 hw => ?_) N _ _ _ hw
        refine go_aload_n C dX12_answerAt_67 0 rfl ?_
        refine go_iload_n C dX12_answerAt_68 1 rfl ?_
        refine go_c0V_i C [iV p1] vX12_nextAnswer tw8_170 (ci := 12) rfl (m_X12_nextAnswer (xl X) C.2.2.2.2.2.2.2.1 N hw.2) ⟨Nat.le_of_ble_eq_true rfl, Nat.le_of_ble_eq_true rfl, Nat.le_of_ble_eq_true rfl, Nat.le_of_ble_eq_true rfl⟩ ⟨rfl, rfl⟩ hw.1 dX12_answerAt_69 rfl (Nat.le_of_ble_eq_true rfl) rfl (fun v16 h17 hw => ?_)
        refine go_if_eq C 100 dX12_answerAt_72 (by decide) hw (fun hw => ?_) (fun hw => ?_)
        · refine go_aload_n C dX12_answerAt_100 0 rfl ?_
          refine go_iload_n C dX12_answerAt_101 2 rfl ?_
          refine go_iconst C 0 dX12_answerAt_102 kc_i0 ?_
          refine go_iload C dX12_answerAt_103 4 rfl ?_
          refine go_iconst C 1 dX12_answerAt_105 kc_i1 ?_
          refine go_isub C dX12_answerAt_106 ?_
          refine go_pS_i C [iV p2, iV 0, iV (x14 - 1)] vX12_in tw8_20 (m_X12_in (xl X) C.2.2.2.2.2.2.2.1 N hw) ⟨Nat.le_of_ble_eq_true rfl, Nat.le_of_ble_eq_true rfl, Nat.le_of_ble_eq_true rfl, Nat.le_of_ble_eq_true rfl⟩ ⟨rfl, rfl⟩ dX12_answerAt_107 rfl (Nat.le_of_ble_eq_true rfl) rfl (fun v18 hw => ?_)
          refine jn_elim (P := fun j => ∀ (v19 : Int32), j v19 → Go G X rmX12_answerAt 6 0 0 (QN G X (QI G K) rmX12_answerAt) h17 118 [(5, iV x15)] [iV v19, rV (some a0)]) hw (fun v19 hw => ?_) (fun j118 hj118 hw => ?_)
          · refine go_iconst C 3 dX12_answerAt_118 kc_i3 ?_
            refine go_c0V_i C [iV v19, iV 3] vX12_fails tw8_23 (ci := 12) rfl (m_X12_fails (xl X) C.2.2.2.2.2.2.2.1 N hw.2) ⟨Nat.le_of_ble_eq_true rfl, Nat.le_of_ble_eq_true rfl, Nat.le_of_ble_eq_true rfl, Nat.le_of_ble_eq_true rfl⟩ ⟨rfl, rfl⟩ hw.1 dX12_answerAt_119 rfl (Nat.le_of_ble_eq_true rfl) rfl (fun v20 h21 hw => ?_)
            refine go_if_eq C 129 dX12_answerAt_122 (by decide) hw (fun hw => ?_) (fun hw => ?_)
            · refine go_iload C dX12_answerAt_129 0 rfl ?_
              exact go_iret C dX12_answerAt_131 hw (Nat.le_of_ble_eq_true rfl) (Nat.le_of_ble_eq_true rfl)
            refine go_iconst C (-1) dX12_answerAt_125 kc_im1 ?_
            refine go_goto C 131 dX12_answerAt_126 (by decide) ?_
            exact go_iret C dX12_answerAt_131 hw (Nat.le_of_ble_eq_true rfl) (Nat.le_of_ble_eq_true rfl)
          refine go_if_ne C 117 dX12_answerAt_110 (by decide) hw (fun hw => ?_) (fun hw => ?_)
          · refine go_iconst C 0 dX12_answerAt_117 kc_i0 ?_
            refine go_sub [5] rfl ?_
            exact hj118 0 hw
          refine go_iconst C 1 dX12_answerAt_113 kc_i1 ?_
          refine go_goto C 118 dX12_answerAt_114 (by decide) ?_
          refine go_sub [5] rfl ?_
          exact hj118 1 hw
        refine go_iload C dX12_answerAt_75 4 rfl ?_
        refine go_iload_n C dX12_answerAt_77 2 rfl ?_
        refine jn_elim (P := fun j => ∀ (v22 : Int32), j v22 → Go G X rmX12_answerAt 6 0 0 (QN G X (QI G K) rmX12_answerAt) h17 92 [(0, rV (some a0)), (1, iV p1), (2, iV p2), (3, iV p3), (4, iV x14)] [iV v22]) hw (fun v22 hw => ?_) (fun j92 hj92 hw => ?_)
        · refine go_istore C [(5, iV v22), (0, rV (some a0)), (1, iV p1), (2, iV p2), (3, iV p3), (4, iV x14)] dX12_answerAt_92 (Nat.le_of_ble_eq_true rfl) rfl ?_
          refine go_iinc C (x14 + 1) [(4, iV (x14 + 1)), (5, iV v22), (0, rV (some a0)), (1, iV p1), (2, iV p2), (3, iV p3)] dX12_answerAt_94 5 rfl (by rw [kc_i1]) (Nat.le_of_ble_eq_true rfl) rfl ?_
          refine go_goto C 67 dX12_answerAt_97 (by decide) ?_
          refine go_sub [2, 3, 4, 5, 0, 1] rfl ?_
          exact hj67 (x14 + 1) v22 h17 hw
        refine go_icmp_ne C 90 dX12_answerAt_78 (by decide) hw (fun hw => ?_) (fun hw => ?_)
        · refine go_iload C dX12_answerAt_90 5 rfl ?_
          refine go_sub [0, 1, 2, 3, 4] rfl ?_
          exact hj92 x15 hw
        refine go_aload_n C dX12_answerAt_81 0 rfl ?_
        refine go_getA C (cfX12) (k := 37) (Nat.le_of_ble_eq_true rfl) tw7_120 rfl dX12_answerAt_82 hw (fun a23 hw => ?_)
        refine go_iload_n C dX12_answerAt_85 3 rfl ?_
        refine go_iaload C dX12_answerAt_86 hw (fun v24 hw => ?_)
        refine go_goto C 92 dX12_answerAt_87 (by decide) ?_
        refine go_sub [0, 1, 2, 3, 4] rfl ?_
        exact hj92 v24 hw
      refine go_iconst C (-1) dX12_answerAt_55 kc_im1 ?_
      exact go_iret C dX12_answerAt_56 hw (Nat.le_of_ble_eq_true rfl) (Nat.le_of_ble_eq_true rfl)
    refine go_if_ne C 47 dX12_answerAt_40 (by decide) hw (fun hw => ?_) (fun hw => ?_)
    · refine go_iconst C 0 dX12_answerAt_47 kc_i0 ?_
      exact hj48 0 hw
    refine go_iconst C 1 dX12_answerAt_43 kc_i1 ?_
    refine go_goto C 48 dX12_answerAt_44 (by decide) ?_
    exact hj48 1 hw
  refine go_if_ne C 18 dX12_answerAt_11 (by decide) hw (fun hw => ?_) (fun hw => ?_)
  · refine go_iconst C 0 dX12_answerAt_18 kc_i0 ?_
    exact hj19 0 hw
  refine go_iconst C 1 dX12_answerAt_14 kc_i1 ?_
  refine go_goto C 19 dX12_answerAt_15 (by decide) ?_
  exact hj19 1 hw
/-- DuelSchemaModel.sum(III)J -/
def w_X12_sum (N : Nat) (a0 : Nat) (p1 : Int32) (p2 : Int32) (p3 : Int32) (h0 : Hp) (K : Int64 → Hp → Prop) : Prop :=
  pF h0 a0 12 0 (iV 0) fun h1 =>
  cv h1 a0 12 <| w_X12_isQuery N a0 p1 h1 fun v2 =>
  jn (fun (v3 : Int32) => 
    cv h1 a0 12 <| w_X12_fails N a0 v3 1 h1 fun v4 h5 =>
    br (v4 = 0) (
      cv h5 a0 12 <| w_X12_isPlace N a0 p1 p2 p3 h5 fun v6 =>
      jn (fun (v7 : Int32) => 
        cv h5 a0 12 <| w_X12_fails N a0 v7 2 h5 fun v8 h9 =>
        br (v8 = 0) (
          cv h9 a0 12 <| w_X12_beginsAnswers N a0  h9 fun h10 =>
          fx2 (fun (w60 : Int64 → Hp → Prop) (y12 : Int64) (h11 : Hp) =>
            cv h11 a0 12 <| w_X12_nextAnswer N a0 p1 h11 fun v13 h14 =>
            br (v13 = 0) (
              K y12 h14) (
              cv h14 a0 12 <| w_X12_chosenAt N a0 p1 p2 p3 h14 fun v15 =>
              w60 (y12 + ((v15 : Int32).toInt64)) h14)) N 0 h10) (
          K (-1) h9)) (fun j42 =>
      br (v6 = 0) (
        j42 1) (
        j42 0))) (
      K (-1) h5)) (fun j19 =>
  br (v2 = 0) (
    j19 1) (
    j19 0))
abbrev rmX12_sum : Room := { frames := 6, cells := 0, slots := 0, locals := 152 }
theorem vX12_sum : VI RX12 yX12_sum cX12_sum 6 (some .long) 3 := ⟨tw8_190, tw8_191, tw1_8, tw8_192, by decide +kernel⟩
set_option maxHeartbeats 4000000 in
theorem m_X12_sum {G : Gp} (l : Launch) (hfl : l.stackTraces = false) (N : Nat) {a0 : Nat} {p1 : Int32} {p2 : Int32} {p3 : Int32} {h0 : Hp} {K : Int64 → Hp → Prop} (hw : w_X12_sum N a0 p1 p2 p3 h0 K) : MT G l yX12_sum cX12_sum 6 (some .long) rmX12_sum [rV (some a0), iV p1, iV p2, iV p3] h0 (QL G K) := by
  refine go_metT l hfl _ 6 _ _ rfl (by decide +kernel) (Nat.le_of_ble_eq_true rfl) [(0, rV (some a0)), (1, iV p1), (2, iV p2), (3, iV p3)] rfl (fun X hX C hn => ?_)
  subst hX
  unfold w_X12_sum at hw
  refine go_aload_n C dX12_sum_0 0 rfl ?_
  refine go_iconst C 0 dX12_sum_1 kc_i0 ?_
  refine go_putI C (cfX12) (k := 0) (Nat.le_of_ble_eq_true rfl) tw7_83 rfl (Or.inl rfl) rfl dX12_sum_2 hw (fun h1 hw => ?_)
  refine go_aload_n C dX12_sum_5 0 rfl ?_
  refine go_aload_n C dX12_sum_6 0 rfl ?_
  refine go_iload_n C dX12_sum_7 1 rfl ?_
  refine go_pV_i C [iV p1] vX12_isQuery tw8_142 (ci := 12) rfl (m_X12_isQuery (xl X) C.2.2.2.2.2.2.2.1 N hw.2) ⟨Nat.le_of_ble_eq_true rfl, Nat.le_of_ble_eq_true rfl, Nat.le_of_ble_eq_true rfl, Nat.le_of_ble_eq_true rfl⟩ ⟨rfl, rfl⟩ hw.1 dX12_sum_8 rfl (Nat.le_of_ble_eq_true rfl) rfl (fun v2 hw => ?_)
  refine jn_elim (P := fun j => ∀ (v3 : Int32), j v3 → Go G X rmX12_sum 6 0 0 (QN G X (QL G K) rmX12_sum) h1 19 [(0, rV (some a0)), (1, iV p1), (2, iV p2), (3, iV p3)] [iV v3, rV (some a0)]) hw (fun v3 hw => ?_) (fun j19 hj19 hw => ?_)
  · refine go_iconst C 1 dX12_sum_19 kc_i1 ?_
    refine go_c0V_i C [iV v3, iV 1] vX12_fails tw8_23 (ci := 12) rfl (m_X12_fails (xl X) C.2.2.2.2.2.2.2.1 N hw.2) ⟨Nat.le_of_ble_eq_true rfl, Nat.le_of_ble_eq_true rfl, Nat.le_of_ble_eq_true rfl, Nat.le_of_ble_eq_true rfl⟩ ⟨rfl, rfl⟩ hw.1 dX12_sum_20 rfl (Nat.le_of_ble_eq_true rfl) rfl (fun v4 h5 hw => ?_)
    refine go_if_ne C 49 dX12_sum_23 (by decide) hw (fun hw => ?_) (fun hw => ?_)
    · refine go_ldc2 C (-1) dX12_sum_49 tw8_193 ?_
      exact go_lret C dX12_sum_52 hw (Nat.le_of_ble_eq_true rfl) (Nat.le_of_ble_eq_true rfl)
    refine go_aload_n C dX12_sum_26 0 rfl ?_
    refine go_aload_n C dX12_sum_27 0 rfl ?_
    refine go_iload_n C dX12_sum_28 1 rfl ?_
    refine go_iload_n C dX12_sum_29 2 rfl ?_
    refine go_iload_n C dX12_sum_30 3 rfl ?_
    refine go_pV_i C [iV p1, iV p2, iV p3] vX12_isPlace tw8_150 (ci := 12) rfl (m_X12_isPlace (xl X) C.2.2.2.2.2.2.2.1 N hw.2) ⟨Nat.le_of_ble_eq_true rfl, Nat.le_of_ble_eq_true rfl, Nat.le_of_ble_eq_true rfl, Nat.le_of_ble_eq_true rfl⟩ ⟨rfl, rfl⟩ hw.1 dX12_sum_31 rfl (Nat.le_of_ble_eq_true rfl) rfl (fun v6 hw => ?_)
    refine jn_elim (P := fun j => ∀ (v7 : Int32), j v7 → Go G X rmX12_sum 6 0 0 (QN G X (QL G K) rmX12_sum) h5 42 [(0, rV (some a0)), (1, iV p1), (2, iV p2), (3, iV p3)] [iV v7, rV (some a0)]) hw (fun v7 hw => ?_) (fun j42 hj42 hw => ?_)
    · refine go_iconst C 2 dX12_sum_42 kc_i2 ?_
      refine go_c0V_i C [iV v7, iV 2] vX12_fails tw8_23 (ci := 12) rfl (m_X12_fails (xl X) C.2.2.2.2.2.2.2.1 N hw.2) ⟨Nat.le_of_ble_eq_true rfl, Nat.le_of_ble_eq_true rfl, Nat.le_of_ble_eq_true rfl, Nat.le_of_ble_eq_true rfl⟩ ⟨rfl, rfl⟩ hw.1 dX12_sum_43 rfl (Nat.le_of_ble_eq_true rfl) rfl (fun v8 h9 hw => ?_)
      refine go_if_eq C 53 dX12_sum_46 (by decide) hw (fun hw => ?_) (fun hw => ?_)
      · refine go_lconst C 0 dX12_sum_53 rfl ?_
        refine go_lstore C [(4, lV 0), (0, rV (some a0)), (1, iV p1), (2, iV p2), (3, iV p3)] dX12_sum_54 (Nat.le_of_ble_eq_true rfl) rfl ?_
        refine go_aload_n C dX12_sum_56 1 rfl ?_
        refine go_c0V_v C [] vX12_beginsAnswers tw8_162 (ci := 12) rfl (m_X12_beginsAnswers (xl X) C.2.2.2.2.2.2.2.1 N hw.2) ⟨Nat.le_of_ble_eq_true rfl, Nat.le_of_ble_eq_true rfl, Nat.le_of_ble_eq_true rfl, Nat.le_of_ble_eq_true rfl⟩ ⟨rfl, rfl⟩ hw.1 dX12_sum_57 rfl (Nat.le_of_ble_eq_true rfl) rfl (fun h10 hw => ?_)
        refine go_sub [1, 2, 3, 4, 0] rfl ?_
        refine fx2_elim (P := fun y12 h11 => Go G X rmX12_sum 6 0 0 (QN G X (QL G K) rmX12_sum) h11 60 [(0, rV (some a0)), (1, iV p1), (2, iV p2), (3, iV p3), (4, lV y12)] []) (fun w60 hj60 y12 h11 hw => ?_) N _ _ hw
        refine go_aload_n C dX12_sum_60 0 rfl ?_
        refine go_iload_n C dX12_sum_61 1 rfl ?_
        refine go_c0V_i C [iV p1] vX12_nextAnswer tw8_170 (ci := 12) rfl (m_X12_nextAnswer (xl X) C.2.2.2.2.2.2.2.1 N hw.2) ⟨Nat.le_of_ble_eq_true rfl, Nat.le_of_ble_eq_true rfl, Nat.le_of_ble_eq_true rfl, Nat.le_of_ble_eq_true rfl⟩ ⟨rfl, rfl⟩ hw.1 dX12_sum_62 rfl (Nat.le_of_ble_eq_true rfl) rfl (fun v13 h14 hw => ?_)
        refine go_if_eq C 84 dX12_sum_65 (by decide) hw (fun hw => ?_) (fun hw => ?_)
        · refine go_lload C dX12_sum_84 4 rfl ?_
          exact go_lret C dX12_sum_86 hw (Nat.le_of_ble_eq_true rfl) (Nat.le_of_ble_eq_true rfl)
        refine go_lload C dX12_sum_68 4 rfl ?_
        refine go_aload_n C dX12_sum_70 0 rfl ?_
        refine go_iload_n C dX12_sum_71 1 rfl ?_
        refine go_iload_n C dX12_sum_72 2 rfl ?_
        refine go_iload_n C dX12_sum_73 3 rfl ?_
        refine go_pV_i C [iV p1, iV p2, iV p3] vX12_chosenAt tw8_178 (ci := 12) rfl (m_X12_chosenAt (xl X) C.2.2.2.2.2.2.2.1 N hw.2) ⟨Nat.le_of_ble_eq_true rfl, Nat.le_of_ble_eq_true rfl, Nat.le_of_ble_eq_true rfl, Nat.le_of_ble_eq_true rfl⟩ ⟨rfl, rfl⟩ hw.1 dX12_sum_74 rfl (Nat.le_of_ble_eq_true rfl) rfl (fun v15 hw => ?_)
        refine go_i2l C dX12_sum_77 ?_
        refine go_ladd C dX12_sum_78 ?_
        refine go_lstore C [(4, lV (y12 + ((v15 : Int32).toInt64))), (0, rV (some a0)), (1, iV p1), (2, iV p2), (3, iV p3)] dX12_sum_79 (Nat.le_of_ble_eq_true rfl) rfl ?_
        refine go_goto C 60 dX12_sum_81 (by decide) ?_
        refine go_sub [1, 2, 3, 4, 0] rfl ?_
        exact hj60 (y12 + ((v15 : Int32).toInt64)) h14 hw
      refine go_ldc2 C (-1) dX12_sum_49 tw8_193 ?_
      exact go_lret C dX12_sum_52 hw (Nat.le_of_ble_eq_true rfl) (Nat.le_of_ble_eq_true rfl)
    refine go_if_ne C 41 dX12_sum_34 (by decide) hw (fun hw => ?_) (fun hw => ?_)
    · refine go_iconst C 0 dX12_sum_41 kc_i0 ?_
      exact hj42 0 hw
    refine go_iconst C 1 dX12_sum_37 kc_i1 ?_
    refine go_goto C 42 dX12_sum_38 (by decide) ?_
    exact hj42 1 hw
  refine go_if_ne C 18 dX12_sum_11 (by decide) hw (fun hw => ?_) (fun hw => ?_)
  · refine go_iconst C 0 dX12_sum_18 kc_i0 ?_
    exact hj19 0 hw
  refine go_iconst C 1 dX12_sum_14 kc_i1 ?_
  refine go_goto C 19 dX12_sum_15 (by decide) ?_
  exact hj19 1 hw
/-- DuelSchemaModel.indexOn(II)I -/
def w_X12_indexOn (N : Nat) (a0 : Nat) (p1 : Int32) (p2 : Int32) (h0 : Hp) (K : Int32 → Prop) : Prop :=
  gI h0 a0 12 13 fun v1 =>
  fx2 (fun (w10 : Int32 → Int32 → Prop) (x2 : Int32) (x3 : Int32) =>
    br (x3 < 0) (
      K x2) (
      gA h0 a0 12 14 fun a4 =>
      aI h0 a4 0 x3 fun v5 =>
      jn (fun (v6 : Int32) => 
        w10 v6 (x3 + (-1))) (fun j55 =>
      jn (
        j55 x2) (fun j54 =>
      br (v5 = p1) (
        gA h0 a0 12 15 fun a7 =>
        aI h0 a7 0 x3 fun v8 =>
        br (v8 = p2) (
          gI h0 a0 12 45 fun v9 =>
          br (((v9 >>> (x3 &&& 31)) &&& 1) = 0) (
            j55 x3) (
            j54 )) (
          j54 )) (
        j54 ))))) N (-1) (v1 - 1)
abbrev rmX12_indexOn : Room := { frames := 2, cells := 0, slots := 0, locals := 60 }
theorem vX12_indexOn : VI RX12 yX12_indexOn cX12_indexOn 5 (some .int) 2 := ⟨tw8_224, tp69, tw1_8, tw8_225, by decide +kernel⟩
set_option maxHeartbeats 4000000 in
theorem m_X12_indexOn {G : Gp} (l : Launch) (hfl : l.stackTraces = false) (N : Nat) {a0 : Nat} {p1 : Int32} {p2 : Int32} {h0 : Hp} {K : Int32 → Prop} (hw : w_X12_indexOn N a0 p1 p2 h0 K) : MT G l yX12_indexOn cX12_indexOn 5 (some .int) rmX12_indexOn [rV (some a0), iV p1, iV p2] h0 (QI G (fun r h1 => h1 = h0 ∧ K r)) := by
  refine go_metT l hfl _ 5 _ _ rfl (by decide +kernel) (Nat.le_of_ble_eq_true rfl) [(0, rV (some a0)), (1, iV p1), (2, iV p2)] rfl (fun X hX C hn => ?_)
  subst hX
  unfold w_X12_indexOn at hw
  refine go_iconst C (-1) dX12_indexOn_0 kc_im1 ?_
  refine go_istore_n C [(3, iV (-1)), (0, rV (some a0)), (1, iV p1), (2, iV p2)] dX12_indexOn_1 (Nat.le_of_ble_eq_true rfl) rfl ?_
  refine go_aload_n C dX12_indexOn_2 1 rfl ?_
  refine go_getI C (cfX12) (k := 13) (Nat.le_of_ble_eq_true rfl) tw7_96 rfl dX12_indexOn_3 hw (fun v1 hw => ?_)
  refine go_iconst C 1 dX12_indexOn_6 kc_i1 ?_
  refine go_isub C dX12_indexOn_7 ?_
  refine go_istore C [(4, iV (v1 - 1)), (3, iV (-1)), (0, rV (some a0)), (1, iV p1), (2, iV p2)] dX12_indexOn_8 (Nat.le_of_ble_eq_true rfl) rfl ?_
  refine go_sub [2, 3, 4, 1, 0] rfl ?_
  refine fx2_elim (P := fun x2 x3 => Go G X rmX12_indexOn 5 0 0 (QN G X (QI G (fun r h1 => h1 = h0 ∧ K r)) rmX12_indexOn) h0 10 [(0, rV (some a0)), (1, iV p1), (2, iV p2), (3, iV x2), (4, iV x3)] []) (fun w10 hj10 x2 x3 hw => ?_) N _ _ hw
  refine go_iload C dX12_indexOn_10 4 rfl ?_
  refine go_if_lt C 62 dX12_indexOn_12 (by decide) hw (fun hw => ?_) (fun hw => ?_)
  · refine go_iload_n C dX12_indexOn_62 3 rfl ?_
    exact go_iret C dX12_indexOn_63 ⟨rfl, hw⟩ (Nat.le_of_ble_eq_true rfl) (Nat.le_of_ble_eq_true rfl)
  refine go_aload_n C dX12_indexOn_15 0 rfl ?_
  refine go_getA C (cfX12) (k := 14) (Nat.le_of_ble_eq_true rfl) tw7_97 rfl dX12_indexOn_16 hw (fun a4 hw => ?_)
  refine go_iload C dX12_indexOn_19 4 rfl ?_
  refine go_iaload C dX12_indexOn_21 hw (fun v5 hw => ?_)
  refine go_iload_n C dX12_indexOn_22 1 rfl ?_
  refine jn_elim (P := fun j => ∀ (v6 : Int32), j v6 → Go G X rmX12_indexOn 5 0 0 (QN G X (QI G (fun r h1 => h1 = h0 ∧ K r)) rmX12_indexOn) h0 55 [(0, rV (some a0)), (1, iV p1), (2, iV p2), (4, iV x3)] [iV v6]) hw (fun v6 hw => ?_) (fun j55 hj55 hw => ?_)
  · refine go_istore_n C [(3, iV v6), (0, rV (some a0)), (1, iV p1), (2, iV p2), (4, iV x3)] dX12_indexOn_55 (Nat.le_of_ble_eq_true rfl) rfl ?_
    refine go_iinc C (x3 + (-1)) [(4, iV (x3 + (-1))), (3, iV v6), (0, rV (some a0)), (1, iV p1), (2, iV p2)] dX12_indexOn_56 4 rfl (by rw [kc_im1]) (Nat.le_of_ble_eq_true rfl) rfl ?_
    refine go_goto C 10 dX12_indexOn_59 (by decide) ?_
    refine go_sub [2, 3, 4, 1, 0] rfl ?_
    exact hj10 v6 (x3 + (-1)) hw
  refine jn_elim (P := fun j => j  → Go G X rmX12_indexOn 5 0 0 (QN G X (QI G (fun r h1 => h1 = h0 ∧ K r)) rmX12_indexOn) h0 54 [(0, rV (some a0)), (1, iV p1), (2, iV p2), (3, iV x2), (4, iV x3)] []) hw (fun  hw => ?_) (fun j54 hj54 hw => ?_)
  · refine go_iload_n C dX12_indexOn_54 3 rfl ?_
    refine go_sub [0, 1, 2, 4] rfl ?_
    exact hj55 x2 hw
  refine go_icmp_ne C 54 dX12_indexOn_23 (by decide) hw (fun hw => ?_) (fun hw => ?_)
  · exact hj54  hw
  refine go_aload_n C dX12_indexOn_26 0 rfl ?_
  refine go_getA C (cfX12) (k := 15) (Nat.le_of_ble_eq_true rfl) tw7_98 rfl dX12_indexOn_27 hw (fun a7 hw => ?_)
  refine go_iload C dX12_indexOn_30 4 rfl ?_
  refine go_iaload C dX12_indexOn_32 hw (fun v8 hw => ?_)
  refine go_iload_n C dX12_indexOn_33 2 rfl ?_
  refine go_icmp_ne C 54 dX12_indexOn_34 (by decide) hw (fun hw => ?_) (fun hw => ?_)
  · exact hj54  hw
  refine go_aload_n C dX12_indexOn_37 0 rfl ?_
  refine go_getI C (cfX12) (k := 45) (Nat.le_of_ble_eq_true rfl) tw7_128 rfl dX12_indexOn_38 hw (fun v9 hw => ?_)
  refine go_iload C dX12_indexOn_41 4 rfl ?_
  refine go_ishr C dX12_indexOn_43 ?_
  refine go_iconst C 1 dX12_indexOn_44 kc_i1 ?_
  refine go_iand C dX12_indexOn_45 ?_
  refine go_if_ne C 54 dX12_indexOn_46 (by decide) hw (fun hw => ?_) (fun hw => ?_)
  · exact hj54  hw
  refine go_iload C dX12_indexOn_49 4 rfl ?_
  refine go_goto C 55 dX12_indexOn_51 (by decide) ?_
  refine go_sub [0, 1, 2, 4] rfl ?_
  exact hj55 x3 hw
/-- DuelSchemaModel.isAhead(II)Z -/
def w_X12_isAhead (N : Nat) (a0 : Nat) (p1 : Int32) (p2 : Int32) (h0 : Hp) (K : Int32 → Prop) : Prop :=
  fx2 (fun (w5 : Int32 → Int32 → Prop) (x1 : Int32) (x2 : Int32) =>
    br (p2 ≤ x2) (
      ok (narrow .boolean (.int x1) = .int x1) <| K x1) (
      jn (fun (v3 : Int32) => 
        w5 v3 (x2 + 1)) (fun j31 =>
      jn (
        j31 1) (fun j26 =>
      br (x1 = 0) (
        gA h0 a0 12 39 fun a4 =>
        aI h0 a4 0 x2 fun v5 =>
        br (v5 = p1) (
          j26 ) (
          j31 0)) (
        j26 ))))) N 0 0
abbrev rmX12_isAhead : Room := { frames := 2, cells := 0, slots := 0, locals := 60 }
theorem vX12_isAhead : VI RX12 yX12_isAhead cX12_isAhead 5 (some .boolean) 2 := ⟨tw8_220, tp68, tw1_8, tw8_221, by decide +kernel⟩
set_option maxHeartbeats 4000000 in
theorem m_X12_isAhead {G : Gp} (l : Launch) (hfl : l.stackTraces = false) (N : Nat) {a0 : Nat} {p1 : Int32} {p2 : Int32} {h0 : Hp} {K : Int32 → Prop} (hw : w_X12_isAhead N a0 p1 p2 h0 K) : MT G l yX12_isAhead cX12_isAhead 5 (some .boolean) rmX12_isAhead [rV (some a0), iV p1, iV p2] h0 (QI G (fun r h1 => h1 = h0 ∧ K r)) := by
  refine go_metT l hfl _ 5 _ _ rfl (by decide +kernel) (Nat.le_of_ble_eq_true rfl) [(0, rV (some a0)), (1, iV p1), (2, iV p2)] rfl (fun X hX C hn => ?_)
  subst hX
  unfold w_X12_isAhead at hw
  refine go_iconst C 0 dX12_isAhead_0 kc_i0 ?_
  refine go_istore_n C [(3, iV 0), (0, rV (some a0)), (1, iV p1), (2, iV p2)] dX12_isAhead_1 (Nat.le_of_ble_eq_true rfl) rfl ?_
  refine go_iconst C 0 dX12_isAhead_2 kc_i0 ?_
  refine go_istore C [(4, iV 0), (3, iV 0), (0, rV (some a0)), (1, iV p1), (2, iV p2)] dX12_isAhead_3 (Nat.le_of_ble_eq_true rfl) rfl ?_
  refine go_sub [2, 3, 4, 1, 0] rfl ?_
  refine fx2_elim (P := fun x1 x2 => Go G X rmX12_isAhead 5 0 0 (QN G X (QI G (fun r h1 => h1 = h0 ∧ K r)) rmX12_isAhead) h0 5 [(0, rV (some a0)), (1, iV p1), (2, iV p2), (3, iV x1), (4, iV x2)] []) (fun w5 hj5 x1 x2 hw => ?_) N _ _ hw
  refine go_iload C dX12_isAhead_5 4 rfl ?_
  refine go_iload_n C dX12_isAhead_7 2 rfl ?_
  refine go_icmp_ge C 38 dX12_isAhead_8 (by decide) hw (fun hw => ?_) (fun hw => ?_)
  · refine go_iload_n C dX12_isAhead_38 3 rfl ?_
    exact go_zret C dX12_isAhead_39 ⟨hw.1, ⟨rfl, hw.2⟩⟩ (Nat.le_of_ble_eq_true rfl) (Nat.le_of_ble_eq_true rfl)
  refine go_iload_n C dX12_isAhead_11 3 rfl ?_
  refine jn_elim (P := fun j => ∀ (v3 : Int32), j v3 → Go G X rmX12_isAhead 5 0 0 (QN G X (QI G (fun r h1 => h1 = h0 ∧ K r)) rmX12_isAhead) h0 31 [(0, rV (some a0)), (1, iV p1), (2, iV p2), (4, iV x2)] [iV v3]) hw (fun v3 hw => ?_) (fun j31 hj31 hw => ?_)
  · refine go_istore_n C [(3, iV v3), (0, rV (some a0)), (1, iV p1), (2, iV p2), (4, iV x2)] dX12_isAhead_31 (Nat.le_of_ble_eq_true rfl) rfl ?_
    refine go_iinc C (x2 + 1) [(4, iV (x2 + 1)), (3, iV v3), (0, rV (some a0)), (1, iV p1), (2, iV p2)] dX12_isAhead_32 4 rfl (by rw [kc_i1]) (Nat.le_of_ble_eq_true rfl) rfl ?_
    refine go_goto C 5 dX12_isAhead_35 (by decide) ?_
    refine go_sub [2, 3, 4, 1, 0] rfl ?_
    exact hj5 v3 (x2 + 1) hw
  refine jn_elim (P := fun j => j  → Go G X rmX12_isAhead 5 0 0 (QN G X (QI G (fun r h1 => h1 = h0 ∧ K r)) rmX12_isAhead) h0 26 [(0, rV (some a0)), (1, iV p1), (2, iV p2), (4, iV x2)] []) hw (fun  hw => ?_) (fun j26 hj26 hw => ?_)
  · refine go_iconst C 1 dX12_isAhead_26 kc_i1 ?_
    refine go_goto C 31 dX12_isAhead_27 (by decide) ?_
    exact hj31 1 hw
  refine go_if_ne C 26 dX12_isAhead_12 (by decide) hw (fun hw => ?_) (fun hw => ?_)
  · refine go_sub [0, 1, 2, 4] rfl ?_
    exact hj26  hw
  refine go_aload_n C dX12_isAhead_15 0 rfl ?_
  refine go_getA C (cfX12) (k := 39) (Nat.le_of_ble_eq_true rfl) tw7_122 rfl dX12_isAhead_16 hw (fun a4 hw => ?_)
  refine go_iload C dX12_isAhead_19 4 rfl ?_
  refine go_iaload C dX12_isAhead_21 hw (fun v5 hw => ?_)
  refine go_iload_n C dX12_isAhead_22 1 rfl ?_
  refine go_icmp_ne C 30 dX12_isAhead_23 (by decide) hw (fun hw => ?_) (fun hw => ?_)
  · refine go_iconst C 0 dX12_isAhead_30 kc_i0 ?_
    refine go_sub [0, 1, 2, 4] rfl ?_
    exact hj31 0 hw
  refine go_sub [0, 1, 2, 4] rfl ?_
  exact hj26  hw
/-- DuelSchemaModel.ownColumn(II)I -/
def w_X12_ownColumn (N : Nat) (a0 : Nat) (p1 : Int32) (p2 : Int32) (h0 : Hp) (K : Int32 → Prop) : Prop :=
  gA h0 a0 12 39 fun a1 =>
  aI h0 a1 0 p2 fun v2 =>
  gA h0 a0 12 33 fun a3 =>
  aI h0 a3 0 p1 fun v4 =>
  jn (
    gA h0 a0 12 35 fun a5 =>
    aI h0 a5 0 p1 fun v6 =>
    br (v6 = v2) (
      gA h0 a0 12 33 fun a7 =>
      aI h0 a7 0 p1 fun v8 =>
      cv h0 a0 12 <| w_X12_isAhead N a0 v8 p2 h0 fun v9 =>
      br (v9 = 0) (
        K (-1)) (
        gA h0 a0 12 36 fun a10 =>
        aI h0 a10 0 p1 fun v11 =>
        K v11)) (
      K (-1))) (fun j38 =>
  br (v4 = v2) (
    gA h0 a0 12 35 fun a12 =>
    aI h0 a12 0 p1 fun v13 =>
    cv h0 a0 12 <| w_X12_isAhead N a0 v13 p2 h0 fun v14 =>
    br (v14 = 0) (
      j38 ) (
      gA h0 a0 12 34 fun a15 =>
      aI h0 a15 0 p1 fun v16 =>
      K v16)) (
    j38 ))
abbrev rmX12_ownColumn : Room := { frames := 3, cells := 0, slots := 0, locals := 84 }
theorem vX12_ownColumn : VI RX12 yX12_ownColumn cX12_ownColumn 4 (some .int) 2 := ⟨tw8_216, tp67, tw1_8, tw8_217, by decide +kernel⟩
set_option maxHeartbeats 4000000 in
theorem m_X12_ownColumn {G : Gp} (l : Launch) (hfl : l.stackTraces = false) (N : Nat) {a0 : Nat} {p1 : Int32} {p2 : Int32} {h0 : Hp} {K : Int32 → Prop} (hw : w_X12_ownColumn N a0 p1 p2 h0 K) : MT G l yX12_ownColumn cX12_ownColumn 4 (some .int) rmX12_ownColumn [rV (some a0), iV p1, iV p2] h0 (QI G (fun r h1 => h1 = h0 ∧ K r)) := by
  refine go_metT l hfl _ 4 _ _ rfl (by decide +kernel) (Nat.le_of_ble_eq_true rfl) [(0, rV (some a0)), (1, iV p1), (2, iV p2)] rfl (fun X hX C hn => ?_)
  subst hX
  unfold w_X12_ownColumn at hw
  refine go_aload_n C dX12_ownColumn_0 0 rfl ?_
  refine go_getA C (cfX12) (k := 39) (Nat.le_of_ble_eq_true rfl) tw7_122 rfl dX12_ownColumn_1 hw (fun a1 hw => ?_)
  refine go_iload_n C dX12_ownColumn_4 2 rfl ?_
  refine go_iaload C dX12_ownColumn_5 hw (fun v2 hw => ?_)
  refine go_istore_n C [(3, iV v2), (0, rV (some a0)), (1, iV p1), (2, iV p2)] dX12_ownColumn_6 (Nat.le_of_ble_eq_true rfl) rfl ?_
  refine go_aload_n C dX12_ownColumn_7 1 rfl ?_
  refine go_getA C (cfX12) (k := 33) (Nat.le_of_ble_eq_true rfl) tw7_116 rfl dX12_ownColumn_8 hw (fun a3 hw => ?_)
  refine go_iload_n C dX12_ownColumn_11 2 rfl ?_
  refine go_iaload C dX12_ownColumn_12 hw (fun v4 hw => ?_)
  refine go_iload_n C dX12_ownColumn_13 0 rfl ?_
  refine jn_elim (P := fun j => j  → Go G X rmX12_ownColumn 4 0 0 (QN G X (QI G (fun r h1 => h1 = h0 ∧ K r)) rmX12_ownColumn) h0 38 [(0, rV (some a0)), (1, iV p1), (2, iV p2), (3, iV v2)] []) hw (fun  hw => ?_) (fun j38 hj38 hw => ?_)
  · refine go_aload_n C dX12_ownColumn_38 0 rfl ?_
    refine go_getA C (cfX12) (k := 35) (Nat.le_of_ble_eq_true rfl) tw7_118 rfl dX12_ownColumn_39 hw (fun a5 hw => ?_)
    refine go_iload_n C dX12_ownColumn_42 1 rfl ?_
    refine go_iaload C dX12_ownColumn_43 hw (fun v6 hw => ?_)
    refine go_iload_n C dX12_ownColumn_44 3 rfl ?_
    refine go_icmp_ne C 71 dX12_ownColumn_45 (by decide) hw (fun hw => ?_) (fun hw => ?_)
    · refine go_iconst C (-1) dX12_ownColumn_71 kc_im1 ?_
      exact go_iret C dX12_ownColumn_72 ⟨rfl, hw⟩ (Nat.le_of_ble_eq_true rfl) (Nat.le_of_ble_eq_true rfl)
    refine go_aload_n C dX12_ownColumn_48 0 rfl ?_
    refine go_aload_n C dX12_ownColumn_49 0 rfl ?_
    refine go_getA C (cfX12) (k := 33) (Nat.le_of_ble_eq_true rfl) tw7_116 rfl dX12_ownColumn_50 hw (fun a7 hw => ?_)
    refine go_iload_n C dX12_ownColumn_53 1 rfl ?_
    refine go_iaload C dX12_ownColumn_54 hw (fun v8 hw => ?_)
    refine go_iload_n C dX12_ownColumn_55 2 rfl ?_
    refine go_pV_i C [iV v8, iV p2] vX12_isAhead tw8_218 (ci := 12) rfl (m_X12_isAhead (xl X) C.2.2.2.2.2.2.2.1 N hw.2) ⟨Nat.le_of_ble_eq_true rfl, Nat.le_of_ble_eq_true rfl, Nat.le_of_ble_eq_true rfl, Nat.le_of_ble_eq_true rfl⟩ ⟨rfl, rfl⟩ hw.1 dX12_ownColumn_56 rfl (Nat.le_of_ble_eq_true rfl) rfl (fun v9 hw => ?_)
    refine go_if_eq C 71 dX12_ownColumn_59 (by decide) hw (fun hw => ?_) (fun hw => ?_)
    · refine go_iconst C (-1) dX12_ownColumn_71 kc_im1 ?_
      exact go_iret C dX12_ownColumn_72 ⟨rfl, hw⟩ (Nat.le_of_ble_eq_true rfl) (Nat.le_of_ble_eq_true rfl)
    refine go_aload_n C dX12_ownColumn_62 0 rfl ?_
    refine go_getA C (cfX12) (k := 36) (Nat.le_of_ble_eq_true rfl) tw7_119 rfl dX12_ownColumn_63 hw (fun a10 hw => ?_)
    refine go_iload_n C dX12_ownColumn_66 1 rfl ?_
    refine go_iaload C dX12_ownColumn_67 hw (fun v11 hw => ?_)
    refine go_goto C 72 dX12_ownColumn_68 (by decide) ?_
    exact go_iret C dX12_ownColumn_72 ⟨rfl, hw⟩ (Nat.le_of_ble_eq_true rfl) (Nat.le_of_ble_eq_true rfl)
  refine go_icmp_ne C 38 dX12_ownColumn_14 (by decide) hw (fun hw => ?_) (fun hw => ?_)
  · refine go_sub [1, 2, 3, 0] rfl ?_
    exact hj38  hw
  refine go_aload_n C dX12_ownColumn_17 1 rfl ?_
  refine go_aload_n C dX12_ownColumn_18 1 rfl ?_
  refine go_getA C (cfX12) (k := 35) (Nat.le_of_ble_eq_true rfl) tw7_118 rfl dX12_ownColumn_19 hw (fun a12 hw => ?_)
  refine go_iload_n C dX12_ownColumn_22 2 rfl ?_
  refine go_iaload C dX12_ownColumn_23 hw (fun v13 hw => ?_)
  refine go_iload_n C dX12_ownColumn_24 3 rfl ?_
  refine go_pV_i C [iV v13, iV p2] vX12_isAhead tw8_218 (ci := 12) rfl (m_X12_isAhead (xl X) C.2.2.2.2.2.2.2.1 N hw.2) ⟨Nat.le_of_ble_eq_true rfl, Nat.le_of_ble_eq_true rfl, Nat.le_of_ble_eq_true rfl, Nat.le_of_ble_eq_true rfl⟩ ⟨rfl, rfl⟩ hw.1 dX12_ownColumn_25 rfl (Nat.le_of_ble_eq_true rfl) rfl (fun v14 hw => ?_)
  refine go_if_eq C 38 dX12_ownColumn_28 (by decide) hw (fun hw => ?_) (fun hw => ?_)
  · refine go_sub [1, 2, 3, 0] rfl ?_
    exact hj38  hw
  refine go_aload_n C dX12_ownColumn_31 1 rfl ?_
  refine go_getA C (cfX12) (k := 34) (Nat.le_of_ble_eq_true rfl) tw7_117 rfl dX12_ownColumn_32 hw (fun a15 hw => ?_)
  refine go_iload_n C dX12_ownColumn_35 2 rfl ?_
  refine go_iaload C dX12_ownColumn_36 hw (fun v16 hw => ?_)
  exact go_iret C dX12_ownColumn_37 ⟨rfl, hw⟩ (Nat.le_of_ble_eq_true rfl) (Nat.le_of_ble_eq_true rfl)
/-- DuelSchemaModel.indexOf(III)I -/
def w_X12_indexOf (N : Nat) (a0 : Nat) (p1 : Int32) (p2 : Int32) (p3 : Int32) (h0 : Hp) (K : Int32 → Prop) : Prop :=
  gA h0 a0 12 26 fun a1 =>
  gA h0 a0 12 39 fun a2 =>
  aI h0 a2 0 p2 fun v3 =>
  aI h0 a1 0 ((3 * p1) + v3) fun v4 =>
  br (p3 = 0) (
    K (-1)) (
    jn (fun (x5 : Int32) => 
      jn (fun (v6 : Int32) => 
        br (v6 = (-1)) (
          K (-2)) (
          K v6)) (fun j130 =>
      br (x5 = (-1)) (
        j130 (-1)) (
        cv h0 a0 12 <| w_X12_indexOn N a0 v4 x5 h0 fun v7 =>
        j130 v7))) (fun j112 =>
    br (5 ≤ p3) (
      gA h0 a0 12 32 fun a8 =>
      aI h0 a8 0 p1 fun v9 =>
      jn (fun (v10 : Int32) => 
        j112 v10) (fun j110 =>
      br (v9 ≤ (p3 - 5)) (
        j110 (-1)) (
        cv h0 a0 12 <| w_X12_ownColumn N a0 (((3 * p1) + p3) - 5) p2 h0 fun v11 =>
        j110 v11))) (
      gA h0 a0 12 27 fun a12 =>
      aI h0 a12 0 p1 fun v13 =>
      jn (fun (v14 : Int32) => 
        j112 v14) (fun j77 =>
      jn (
        j77 (-1)) (fun j76 =>
      br (v13 < p3) (
        j76 ) (
        gA h0 a0 12 28 fun a15 =>
        aI h0 a15 0 (((4 * p1) + p3) - 1) fun v16 =>
        gA h0 a0 12 39 fun a17 =>
        aI h0 a17 0 p2 fun v18 =>
        br (v16 = v18) (
          gA h0 a0 12 29 fun a19 =>
          aI h0 a19 0 (((4 * p1) + p3) - 1) fun v20 =>
          j77 v20) (
          j76 )))))))
abbrev rmX12_indexOf : Room := { frames := 4, cells := 0, slots := 0, locals := 107 }
theorem vX12_indexOf : VI RX12 yX12_indexOf cX12_indexOf 7 (some .int) 3 := ⟨tw8_212, tp66, tw1_8, tw8_213, by decide +kernel⟩
set_option maxHeartbeats 4000000 in
theorem m_X12_indexOf {G : Gp} (l : Launch) (hfl : l.stackTraces = false) (N : Nat) {a0 : Nat} {p1 : Int32} {p2 : Int32} {p3 : Int32} {h0 : Hp} {K : Int32 → Prop} (hw : w_X12_indexOf N a0 p1 p2 p3 h0 K) : MT G l yX12_indexOf cX12_indexOf 7 (some .int) rmX12_indexOf [rV (some a0), iV p1, iV p2, iV p3] h0 (QI G (fun r h1 => h1 = h0 ∧ K r)) := by
  refine go_metT l hfl _ 7 _ _ rfl (by decide +kernel) (Nat.le_of_ble_eq_true rfl) [(0, rV (some a0)), (1, iV p1), (2, iV p2), (3, iV p3)] rfl (fun X hX C hn => ?_)
  subst hX
  unfold w_X12_indexOf at hw
  refine go_aload_n C dX12_indexOf_0 0 rfl ?_
  refine go_getA C (cfX12) (k := 26) (Nat.le_of_ble_eq_true rfl) tw7_109 rfl dX12_indexOf_1 hw (fun a1 hw => ?_)
  refine go_iconst C 3 dX12_indexOf_4 kc_i3 ?_
  refine go_iload_n C dX12_indexOf_5 1 rfl ?_
  refine go_imul C dX12_indexOf_6 ?_
  refine go_aload_n C dX12_indexOf_7 0 rfl ?_
  refine go_getA C (cfX12) (k := 39) (Nat.le_of_ble_eq_true rfl) tw7_122 rfl dX12_indexOf_8 hw (fun a2 hw => ?_)
  refine go_iload_n C dX12_indexOf_11 2 rfl ?_
  refine go_iaload C dX12_indexOf_12 hw (fun v3 hw => ?_)
  refine go_iadd C dX12_indexOf_13 ?_
  refine go_iaload C dX12_indexOf_14 hw (fun v4 hw => ?_)
  refine go_istore C [(4, iV v4), (0, rV (some a0)), (1, iV p1), (2, iV p2), (3, iV p3)] dX12_indexOf_15 (Nat.le_of_ble_eq_true rfl) rfl ?_
  refine go_iload_n C dX12_indexOf_17 4 rfl ?_
  refine go_if_ne C 23 dX12_indexOf_18 (by decide) hw (fun hw => ?_) (fun hw => ?_)
  · refine go_iconst C (-1) dX12_indexOf_23 kc_im1 ?_
    refine go_istore C [(5, iV (-1)), (4, iV v4), (0, rV (some a0)), (1, iV p1), (2, iV p2), (3, iV p3)] dX12_indexOf_24 (Nat.le_of_ble_eq_true rfl) rfl ?_
    refine go_iload_n C dX12_indexOf_26 5 rfl ?_
    refine go_iconst C 5 dX12_indexOf_27 kc_i5 ?_
    refine jn_elim (P := fun j => ∀ (x5 : Int32), j x5 → Go G X rmX12_indexOf 7 0 0 (QN G X (QI G (fun r h1 => h1 = h0 ∧ K r)) rmX12_indexOf) h0 112 [(0, rV (some a0)), (4, iV v4), (5, iV x5)] []) hw (fun x5 hw => ?_) (fun j112 hj112 hw => ?_)
    · refine go_iload C dX12_indexOf_112 2 rfl ?_
      refine go_iconst C (-1) dX12_indexOf_114 kc_im1 ?_
      refine jn_elim (P := fun j => ∀ (v6 : Int32), j v6 → Go G X rmX12_indexOf 7 0 0 (QN G X (QI G (fun r h1 => h1 = h0 ∧ K r)) rmX12_indexOf) h0 130 [] [iV v6]) hw (fun v6 hw => ?_) (fun j130 hj130 hw => ?_)
      · refine go_istore C [(6, iV v6)] dX12_indexOf_130 (Nat.le_of_ble_eq_true rfl) rfl ?_
        refine go_iload C dX12_indexOf_132 0 rfl ?_
        refine go_iconst C (-1) dX12_indexOf_134 kc_im1 ?_
        refine go_icmp_ne C 143 dX12_indexOf_135 (by decide) hw (fun hw => ?_) (fun hw => ?_)
        · refine go_iload C dX12_indexOf_143 0 rfl ?_
          exact go_iret C dX12_indexOf_145 ⟨rfl, hw⟩ (Nat.le_of_ble_eq_true rfl) (Nat.le_of_ble_eq_true rfl)
        refine go_bipush C (-2) dX12_indexOf_138 kc_bm2 ?_
        refine go_goto C 145 dX12_indexOf_140 (by decide) ?_
        exact go_iret C dX12_indexOf_145 ⟨rfl, hw⟩ (Nat.le_of_ble_eq_true rfl) (Nat.le_of_ble_eq_true rfl)
      refine go_icmp_ne C 122 dX12_indexOf_115 (by decide) hw (fun hw => ?_) (fun hw => ?_)
      · refine go_aload_n C dX12_indexOf_122 0 rfl ?_
        refine go_iload C dX12_indexOf_123 1 rfl ?_
        refine go_iload C dX12_indexOf_125 2 rfl ?_
        refine go_pV_i C [iV v4, iV x5] vX12_indexOn tw8_222 (ci := 12) rfl (m_X12_indexOn (xl X) C.2.2.2.2.2.2.2.1 N hw.2) ⟨Nat.le_of_ble_eq_true rfl, Nat.le_of_ble_eq_true rfl, Nat.le_of_ble_eq_true rfl, Nat.le_of_ble_eq_true rfl⟩ ⟨rfl, rfl⟩ hw.1 dX12_indexOf_127 rfl (Nat.le_of_ble_eq_true rfl) rfl (fun v7 hw => ?_)
        refine go_sub [] rfl ?_
        exact hj130 v7 hw
      refine go_iconst C (-1) dX12_indexOf_118 kc_im1 ?_
      refine go_goto C 130 dX12_indexOf_119 (by decide) ?_
      refine go_sub [] rfl ?_
      exact hj130 (-1) hw
    refine go_icmp_ge C 82 dX12_indexOf_28 (by decide) hw (fun hw => ?_) (fun hw => ?_)
    · refine go_iload_n C dX12_indexOf_82 5 rfl ?_
      refine go_iconst C 5 dX12_indexOf_83 kc_i5 ?_
      refine go_isub C dX12_indexOf_84 ?_
      refine go_aload_n C dX12_indexOf_85 2 rfl ?_
      refine go_getA C (cfX12) (k := 32) (Nat.le_of_ble_eq_true rfl) tw7_115 rfl dX12_indexOf_86 hw (fun a8 hw => ?_)
      refine go_iload_n C dX12_indexOf_89 3 rfl ?_
      refine go_iaload C dX12_indexOf_90 hw (fun v9 hw => ?_)
      refine jn_elim (P := fun j => ∀ (v10 : Int32), j v10 → Go G X rmX12_indexOf 7 0 0 (QN G X (QI G (fun r h1 => h1 = h0 ∧ K r)) rmX12_indexOf) h0 110 [(0, rV (some a0)), (4, iV v4)] [iV v10]) hw (fun v10 hw => ?_) (fun j110 hj110 hw => ?_)
      · refine go_istore C [(5, iV v10), (0, rV (some a0)), (4, iV v4)] dX12_indexOf_110 (Nat.le_of_ble_eq_true rfl) rfl ?_
        refine go_sub [1, 2, 0] rfl ?_
        exact hj112 v10 hw
      refine go_icmp_ge C 109 dX12_indexOf_91 (by decide) hw (fun hw => ?_) (fun hw => ?_)
      · refine go_iconst C (-1) dX12_indexOf_109 kc_im1 ?_
        refine go_sub [2, 1] rfl ?_
        exact hj110 (-1) hw
      refine go_aload_n C dX12_indexOf_94 2 rfl ?_
      refine go_iconst C 3 dX12_indexOf_95 kc_i3 ?_
      refine go_iload_n C dX12_indexOf_96 3 rfl ?_
      refine go_imul C dX12_indexOf_97 ?_
      refine go_iload_n C dX12_indexOf_98 5 rfl ?_
      refine go_iadd C dX12_indexOf_99 ?_
      refine go_iconst C 5 dX12_indexOf_100 kc_i5 ?_
      refine go_isub C dX12_indexOf_101 ?_
      refine go_iload_n C dX12_indexOf_102 4 rfl ?_
      refine go_pV_i C [iV (((3 * p1) + p3) - 5), iV p2] vX12_ownColumn tw8_214 (ci := 12) rfl (m_X12_ownColumn (xl X) C.2.2.2.2.2.2.2.1 N hw.2) ⟨Nat.le_of_ble_eq_true rfl, Nat.le_of_ble_eq_true rfl, Nat.le_of_ble_eq_true rfl, Nat.le_of_ble_eq_true rfl⟩ ⟨rfl, rfl⟩ hw.1 dX12_indexOf_103 rfl (Nat.le_of_ble_eq_true rfl) rfl (fun v11 hw => ?_)
      refine go_goto C 110 dX12_indexOf_106 (by decide) ?_
      refine go_sub [2, 1] rfl ?_
      exact hj110 v11 hw
    refine go_iconst C 4 dX12_indexOf_31 kc_i4 ?_
    refine go_iload_n C dX12_indexOf_32 3 rfl ?_
    refine go_imul C dX12_indexOf_33 ?_
    refine go_iload_n C dX12_indexOf_34 5 rfl ?_
    refine go_iadd C dX12_indexOf_35 ?_
    refine go_iconst C 1 dX12_indexOf_36 kc_i1 ?_
    refine go_isub C dX12_indexOf_37 ?_
    refine go_istore C [(6, iV (((4 * p1) + p3) - 1)), (5, iV (-1)), (4, iV v4), (0, rV (some a0)), (1, iV p1), (2, iV p2), (3, iV p3)] dX12_indexOf_38 (Nat.le_of_ble_eq_true rfl) rfl ?_
    refine go_iload_n C dX12_indexOf_40 6 rfl ?_
    refine go_aload_n C dX12_indexOf_41 3 rfl ?_
    refine go_getA C (cfX12) (k := 27) (Nat.le_of_ble_eq_true rfl) tw7_110 rfl dX12_indexOf_42 hw (fun a12 hw => ?_)
    refine go_iload_n C dX12_indexOf_45 4 rfl ?_
    refine go_iaload C dX12_indexOf_46 hw (fun v13 hw => ?_)
    refine jn_elim (P := fun j => ∀ (v14 : Int32), j v14 → Go G X rmX12_indexOf 7 0 0 (QN G X (QI G (fun r h1 => h1 = h0 ∧ K r)) rmX12_indexOf) h0 77 [(0, rV (some a0)), (4, iV v4)] [iV v14]) hw (fun v14 hw => ?_) (fun j77 hj77 hw => ?_)
    · refine go_istore C [(5, iV v14), (0, rV (some a0)), (4, iV v4)] dX12_indexOf_77 (Nat.le_of_ble_eq_true rfl) rfl ?_
      refine go_goto C 112 dX12_indexOf_79 (by decide) ?_
      refine go_sub [1, 2, 0] rfl ?_
      exact hj112 v14 hw
    refine jn_elim (P := fun j => j  → Go G X rmX12_indexOf 7 0 0 (QN G X (QI G (fun r h1 => h1 = h0 ∧ K r)) rmX12_indexOf) h0 76 [(0, rV (some a0)), (4, iV v4)] []) hw (fun  hw => ?_) (fun j76 hj76 hw => ?_)
    · refine go_iconst C (-1) dX12_indexOf_76 kc_im1 ?_
      exact hj77 (-1) hw
    refine go_icmp_gt C 76 dX12_indexOf_47 (by decide) hw (fun hw => ?_) (fun hw => ?_)
    · refine go_sub [3, 2] rfl ?_
      exact hj76  hw
    refine go_aload_n C dX12_indexOf_50 3 rfl ?_
    refine go_getA C (cfX12) (k := 28) (Nat.le_of_ble_eq_true rfl) tw7_111 rfl dX12_indexOf_51 hw (fun a15 hw => ?_)
    refine go_iload C dX12_indexOf_54 0 rfl ?_
    refine go_iaload C dX12_indexOf_56 hw (fun v16 hw => ?_)
    refine go_aload_n C dX12_indexOf_57 3 rfl ?_
    refine go_getA C (cfX12) (k := 39) (Nat.le_of_ble_eq_true rfl) tw7_122 rfl dX12_indexOf_58 hw (fun a17 hw => ?_)
    refine go_iload_n C dX12_indexOf_61 5 rfl ?_
    refine go_iaload C dX12_indexOf_62 hw (fun v18 hw => ?_)
    refine go_icmp_ne C 76 dX12_indexOf_63 (by decide) hw (fun hw => ?_) (fun hw => ?_)
    · refine go_sub [3, 2] rfl ?_
      exact hj76  hw
    refine go_aload_n C dX12_indexOf_66 3 rfl ?_
    refine go_getA C (cfX12) (k := 29) (Nat.le_of_ble_eq_true rfl) tw7_112 rfl dX12_indexOf_67 hw (fun a19 hw => ?_)
    refine go_iload C dX12_indexOf_70 0 rfl ?_
    refine go_iaload C dX12_indexOf_72 hw (fun v20 hw => ?_)
    refine go_goto C 77 dX12_indexOf_73 (by decide) ?_
    refine go_sub [3, 2] rfl ?_
    exact hj77 v20 hw
  refine go_iconst C (-1) dX12_indexOf_21 kc_im1 ?_
  exact go_iret C dX12_indexOf_22 ⟨rfl, hw⟩ (Nat.le_of_ble_eq_true rfl) (Nat.le_of_ble_eq_true rfl)
/-- DuelSchemaModel.rankOf(II)I -/
def w_X12_rankOf (N : Nat) (a0 : Nat) (p1 : Int32) (p2 : Int32) (h0 : Hp) (K : Int32 → Prop) : Prop :=
  br (p2 = 0) (
    K 3) (
    br (p2 ≤ 4) (
      gA h0 a0 12 30 fun a1 =>
      aI h0 a1 0 (((4 * p1) + p2) - 1) fun v2 =>
      br (v2 = 61) (
        K 1) (
        K 2)) (
      K 0))
abbrev rmX12_rankOf : Room := { frames := 2, cells := 0, slots := 0, locals := 60 }
theorem vX12_rankOf : VI RX12 yX12_rankOf cX12_rankOf 3 (some .int) 2 := ⟨tw8_228, tp70, tw1_8, tw8_229, by decide +kernel⟩
set_option maxHeartbeats 4000000 in
theorem m_X12_rankOf {G : Gp} (l : Launch) (hfl : l.stackTraces = false) (N : Nat) {a0 : Nat} {p1 : Int32} {p2 : Int32} {h0 : Hp} {K : Int32 → Prop} (hw : w_X12_rankOf N a0 p1 p2 h0 K) : MT G l yX12_rankOf cX12_rankOf 3 (some .int) rmX12_rankOf [rV (some a0), iV p1, iV p2] h0 (QI G (fun r h1 => h1 = h0 ∧ K r)) := by
  refine go_metT l hfl _ 3 _ _ rfl (by decide +kernel) (Nat.le_of_ble_eq_true rfl) [(0, rV (some a0)), (1, iV p1), (2, iV p2)] rfl (fun X hX C hn => ?_)
  subst hX
  unfold w_X12_rankOf at hw
  refine go_iload_n C dX12_rankOf_0 2 rfl ?_
  refine go_if_ne C 8 dX12_rankOf_1 (by decide) hw (fun hw => ?_) (fun hw => ?_)
  · refine go_iload_n C dX12_rankOf_8 2 rfl ?_
    refine go_iconst C 4 dX12_rankOf_9 kc_i4 ?_
    refine go_icmp_le C 17 dX12_rankOf_10 (by decide) hw (fun hw => ?_) (fun hw => ?_)
    · refine go_aload_n C dX12_rankOf_17 0 rfl ?_
      refine go_getA C (cfX12) (k := 30) (Nat.le_of_ble_eq_true rfl) tw7_113 rfl dX12_rankOf_18 hw (fun a1 hw => ?_)
      refine go_iconst C 4 dX12_rankOf_21 kc_i4 ?_
      refine go_iload_n C dX12_rankOf_22 1 rfl ?_
      refine go_imul C dX12_rankOf_23 ?_
      refine go_iload_n C dX12_rankOf_24 2 rfl ?_
      refine go_iadd C dX12_rankOf_25 ?_
      refine go_iconst C 1 dX12_rankOf_26 kc_i1 ?_
      refine go_isub C dX12_rankOf_27 ?_
      refine go_iaload C dX12_rankOf_28 hw (fun v2 hw => ?_)
      refine go_bipush C 61 dX12_rankOf_29 kc_b61 ?_
      refine go_icmp_ne C 38 dX12_rankOf_31 (by decide) hw (fun hw => ?_) (fun hw => ?_)
      · refine go_iconst C 2 dX12_rankOf_38 kc_i2 ?_
        exact go_iret C dX12_rankOf_39 ⟨rfl, hw⟩ (Nat.le_of_ble_eq_true rfl) (Nat.le_of_ble_eq_true rfl)
      refine go_iconst C 1 dX12_rankOf_34 kc_i1 ?_
      refine go_goto C 39 dX12_rankOf_35 (by decide) ?_
      exact go_iret C dX12_rankOf_39 ⟨rfl, hw⟩ (Nat.le_of_ble_eq_true rfl) (Nat.le_of_ble_eq_true rfl)
    refine go_iconst C 0 dX12_rankOf_13 kc_i0 ?_
    refine go_goto C 39 dX12_rankOf_14 (by decide) ?_
    exact go_iret C dX12_rankOf_39 ⟨rfl, hw⟩ (Nat.le_of_ble_eq_true rfl) (Nat.le_of_ble_eq_true rfl)
  refine go_iconst C 3 dX12_rankOf_4 kc_i3 ?_
  refine go_goto C 39 dX12_rankOf_5 (by decide) ?_
  exact go_iret C dX12_rankOf_39 ⟨rfl, hw⟩ (Nat.le_of_ble_eq_true rfl) (Nat.le_of_ble_eq_true rfl)
/-- DuelSchemaModel.plansByBook(I)V -/
def w_X12_plansByBook (N : Nat) (a0 : Nat) (p1 : Int32) (h0 : Hp) (K : Hp → Prop) : Prop :=
  fx2 (fun (w2 : Int32 → Hp → Prop) (x2 : Int32) (h1 : Hp) =>
    gA h1 a0 12 25 fun a3 =>
    aI h1 a3 0 p1 fun v4 =>
    br (v4 ≤ x2) (
      K h1) (
      gA h1 a0 12 39 fun a5 =>
      sI h1 a5 0 x2 x2 fun h6 =>
      fx3 (fun (w25 : Int32 → Int32 → Hp → Prop) (x8 : Int32) (x9 : Int32) (h7 : Hp) =>
        br (8 ≤ x9) (
          w2 (x2 + 1) h7) (
          cv h7 a0 12 <| w_X12_indexOf N a0 p1 x2 x9 h7 fun v10 =>
          jn (fun (x12 : Int32) (h11 : Hp) => 
            w25 x12 (x9 + 1) h11) (fun j84 =>
          br (v10 ≤ (-2)) (
            j84 x8 h7) (
            cv h7 a0 12 <| w_X12_rankOf N a0 p1 x9 h7 fun v13 =>
            br (x8 ≤ v13) (
              j84 x8 h7) (
              cv h7 a0 12 <| w_X12_rankOf N a0 p1 x9 h7 fun v14 =>
              gA h7 a0 12 40 fun a15 =>
              sI h7 a15 0 x2 x9 fun h16 =>
              gA h16 a0 12 41 fun a17 =>
              sI h16 a17 0 x2 v10 fun h18 =>
              j84 v14 h18))))) N 9 0 h6)) N 0 h0
abbrev rmX12_plansByBook : Room := { frames := 5, cells := 0, slots := 0, locals := 133 }
theorem vX12_plansByBook : VI RX12 yX12_plansByBook cX12_plansByBook 6 none 1 := ⟨tw8_208, tp65, tw1_8, tw8_209, by decide +kernel⟩
set_option maxHeartbeats 4000000 in
theorem m_X12_plansByBook {G : Gp} (l : Launch) (hfl : l.stackTraces = false) (N : Nat) {a0 : Nat} {p1 : Int32} {h0 : Hp} {K : Hp → Prop} (hw : w_X12_plansByBook N a0 p1 h0 K) : MT G l yX12_plansByBook cX12_plansByBook 6 none rmX12_plansByBook [rV (some a0), iV p1] h0 (QV G K) := by
  refine go_metT l hfl _ 6 _ _ rfl (by decide +kernel) (Nat.le_of_ble_eq_true rfl) [(0, rV (some a0)), (1, iV p1)] rfl (fun X hX C hn => ?_)
  subst hX
  unfold w_X12_plansByBook at hw
  refine go_iconst C 0 dX12_plansByBook_0 kc_i0 ?_
  refine go_istore_n C [(2, iV 0), (0, rV (some a0)), (1, iV p1)] dX12_plansByBook_1 (Nat.le_of_ble_eq_true rfl) rfl ?_
  refine go_sub [1, 2, 0] rfl ?_
  refine fx2_elim (P := fun x2 h1 => Go G X rmX12_plansByBook 6 0 0 (QN G X (QV G K) rmX12_plansByBook) h1 2 [(0, rV (some a0)), (1, iV p1), (2, iV x2)] []) (fun w2 hj2 x2 h1 hw => ?_) N _ _ hw
  refine go_iload_n C dX12_plansByBook_2 2 rfl ?_
  refine go_aload_n C dX12_plansByBook_3 0 rfl ?_
  refine go_getA C (cfX12) (k := 25) (Nat.le_of_ble_eq_true rfl) tw7_108 rfl dX12_plansByBook_4 hw (fun a3 hw => ?_)
  refine go_iload_n C dX12_plansByBook_7 1 rfl ?_
  refine go_iaload C dX12_plansByBook_8 hw (fun v4 hw => ?_)
  refine go_icmp_ge C 96 dX12_plansByBook_9 (by decide) hw (fun hw => ?_) (fun hw => ?_)
  · exact go_vret C dX12_plansByBook_96 hw (Nat.le_of_ble_eq_true rfl) (Nat.le_of_ble_eq_true rfl)
  refine go_aload_n C dX12_plansByBook_12 0 rfl ?_
  refine go_getA C (cfX12) (k := 39) (Nat.le_of_ble_eq_true rfl) tw7_122 rfl dX12_plansByBook_13 hw (fun a5 hw => ?_)
  refine go_iload_n C dX12_plansByBook_16 2 rfl ?_
  refine go_iload_n C dX12_plansByBook_17 2 rfl ?_
  refine go_iastore C dX12_plansByBook_18 hw (fun h6 hw => ?_)
  refine go_bipush C 9 dX12_plansByBook_19 kc_b9 ?_
  refine go_istore_n C [(3, iV 9), (0, rV (some a0)), (1, iV p1), (2, iV x2)] dX12_plansByBook_21 (Nat.le_of_ble_eq_true rfl) rfl ?_
  refine go_iconst C 0 dX12_plansByBook_22 kc_i0 ?_
  refine go_istore C [(4, iV 0), (3, iV 9), (0, rV (some a0)), (1, iV p1), (2, iV x2)] dX12_plansByBook_23 (Nat.le_of_ble_eq_true rfl) rfl ?_
  refine go_sub [2, 3, 4, 1, 0] rfl ?_
  refine fx3_elim (P := fun x8 x9 h7 => Go G X rmX12_plansByBook 6 0 0 (QN G X (QV G K) rmX12_plansByBook) h7 25 [(0, rV (some a0)), (1, iV p1), (2, iV x2), (3, iV x8), (4, iV x9)] []) (fun w25 hj25 x8 x9 h7 hw => ?_) N _ _ _ hw
  refine go_iload C dX12_plansByBook_25 4 rfl ?_
  refine go_bipush C 8 dX12_plansByBook_27 kc_b8 ?_
  refine go_icmp_ge C 90 dX12_plansByBook_29 (by decide) hw (fun hw => ?_) (fun hw => ?_)
  · refine go_iinc C (x2 + 1) [(2, iV (x2 + 1)), (0, rV (some a0)), (1, iV p1), (3, iV x8), (4, iV x9)] dX12_plansByBook_90 2 rfl (by rw [kc_i1]) (Nat.le_of_ble_eq_true rfl) rfl ?_
    refine go_goto C 2 dX12_plansByBook_93 (by decide) ?_
    refine go_sub [1, 2, 0] rfl ?_
    exact hj2 (x2 + 1) h7 hw
  refine go_aload_n C dX12_plansByBook_32 0 rfl ?_
  refine go_iload_n C dX12_plansByBook_33 1 rfl ?_
  refine go_iload_n C dX12_plansByBook_34 2 rfl ?_
  refine go_iload C dX12_plansByBook_35 4 rfl ?_
  refine go_pV_i C [iV p1, iV x2, iV x9] vX12_indexOf tw8_210 (ci := 12) rfl (m_X12_indexOf (xl X) C.2.2.2.2.2.2.2.1 N hw.2) ⟨Nat.le_of_ble_eq_true rfl, Nat.le_of_ble_eq_true rfl, Nat.le_of_ble_eq_true rfl, Nat.le_of_ble_eq_true rfl⟩ ⟨rfl, rfl⟩ hw.1 dX12_plansByBook_37 rfl (Nat.le_of_ble_eq_true rfl) rfl (fun v10 hw => ?_)
  refine go_istore C [(5, iV v10), (0, rV (some a0)), (1, iV p1), (2, iV x2), (3, iV x8), (4, iV x9)] dX12_plansByBook_40 (Nat.le_of_ble_eq_true rfl) rfl ?_
  refine go_iload C dX12_plansByBook_42 0 rfl ?_
  refine go_bipush C (-2) dX12_plansByBook_44 kc_bm2 ?_
  refine jn_elim (P := fun j => ∀ (x12 : Int32) (h11 : Hp), j x12 h11 → Go G X rmX12_plansByBook 6 0 0 (QN G X (QV G K) rmX12_plansByBook) h11 84 [(0, rV (some a0)), (1, iV p1), (2, iV x2), (3, iV x12), (4, iV x9)] []) hw (fun x12 h11 hw => ?_) (fun j84 hj84 hw => ?_)
  · refine go_iinc C (x9 + 1) [(4, iV (x9 + 1)), (0, rV (some a0)), (1, iV p1), (2, iV x2), (3, iV x12)] dX12_plansByBook_84 4 rfl (by rw [kc_i1]) (Nat.le_of_ble_eq_true rfl) rfl ?_
    refine go_goto C 25 dX12_plansByBook_87 (by decide) ?_
    refine go_sub [1, 2, 3, 4, 0] rfl ?_
    exact hj25 x12 (x9 + 1) h11 hw
  refine go_icmp_le C 84 dX12_plansByBook_46 (by decide) hw (fun hw => ?_) (fun hw => ?_)
  · refine go_sub [1, 2, 3, 4, 5] rfl ?_
    exact hj84 x8 h7 hw
  refine go_aload_n C dX12_plansByBook_49 1 rfl ?_
  refine go_iload_n C dX12_plansByBook_50 2 rfl ?_
  refine go_iload C dX12_plansByBook_51 5 rfl ?_
  refine go_pV_i C [iV p1, iV x9] vX12_rankOf tw8_226 (ci := 12) rfl (m_X12_rankOf (xl X) C.2.2.2.2.2.2.2.1 N hw.2) ⟨Nat.le_of_ble_eq_true rfl, Nat.le_of_ble_eq_true rfl, Nat.le_of_ble_eq_true rfl, Nat.le_of_ble_eq_true rfl⟩ ⟨rfl, rfl⟩ hw.1 dX12_plansByBook_53 rfl (Nat.le_of_ble_eq_true rfl) rfl (fun v13 hw => ?_)
  refine go_iload_n C dX12_plansByBook_56 4 rfl ?_
  refine go_icmp_ge C 84 dX12_plansByBook_57 (by decide) hw (fun hw => ?_) (fun hw => ?_)
  · refine go_sub [1, 2, 3, 4, 5] rfl ?_
    exact hj84 x8 h7 hw
  refine go_aload_n C dX12_plansByBook_60 1 rfl ?_
  refine go_iload_n C dX12_plansByBook_61 2 rfl ?_
  refine go_iload C dX12_plansByBook_62 5 rfl ?_
  refine go_pV_i C [iV p1, iV x9] vX12_rankOf tw8_226 (ci := 12) rfl (m_X12_rankOf (xl X) C.2.2.2.2.2.2.2.1 N hw.2) ⟨Nat.le_of_ble_eq_true rfl, Nat.le_of_ble_eq_true rfl, Nat.le_of_ble_eq_true rfl, Nat.le_of_ble_eq_true rfl⟩ ⟨rfl, rfl⟩ hw.1 dX12_plansByBook_64 rfl (Nat.le_of_ble_eq_true rfl) rfl (fun v14 hw => ?_)
  refine go_istore_n C [(3, iV v14), (5, iV v10), (0, rV (some a0)), (1, iV p1), (2, iV x2), (4, iV x9)] dX12_plansByBook_67 (Nat.le_of_ble_eq_true rfl) rfl ?_
  refine go_aload_n C dX12_plansByBook_68 2 rfl ?_
  refine go_getA C (cfX12) (k := 40) (Nat.le_of_ble_eq_true rfl) tw7_123 rfl dX12_plansByBook_69 hw (fun a15 hw => ?_)
  refine go_iload_n C dX12_plansByBook_72 4 rfl ?_
  refine go_iload C dX12_plansByBook_73 5 rfl ?_
  refine go_iastore C dX12_plansByBook_75 hw (fun h16 hw => ?_)
  refine go_aload_n C dX12_plansByBook_76 2 rfl ?_
  refine go_getA C (cfX12) (k := 41) (Nat.le_of_ble_eq_true rfl) tw7_124 rfl dX12_plansByBook_77 hw (fun a17 hw => ?_)
  refine go_iload_n C dX12_plansByBook_80 4 rfl ?_
  refine go_iload C dX12_plansByBook_81 1 rfl ?_
  refine go_iastore C dX12_plansByBook_83 hw (fun h18 hw => ?_)
  refine go_sub [2, 3, 4, 0, 5] rfl ?_
  exact hj84 v14 h18 hw
/-- DuelSchemaModel.share(II)J -/
def w_X12_share (N : Nat) (a0 : Nat) (p1 : Int32) (p2 : Int32) (h0 : Hp) (K : Int64 → Prop) : Prop :=
  gA h0 a0 12 26 fun a1 =>
  gA h0 a0 12 28 fun a2 =>
  aI h0 a2 0 p2 fun v3 =>
  aI h0 a1 0 ((3 * p1) + v3) fun v4 =>
  gA h0 a0 12 29 fun a5 =>
  aI h0 a5 0 p2 fun v6 =>
  gA h0 a0 12 30 fun a7 =>
  aI h0 a7 0 p2 fun v8 =>
  br (v8 = 61) (
    gA h0 a0 12 10 fun a25 =>
    aI h0 a25 0 ((3 * v4) + v6) fun v26 =>
    w_X12_most N 1 v26 h0 fun v27 =>
    dz (((v27 : Int32).toInt64) : Int64) (
    K (1000 / ((v27 : Int32).toInt64)))) (
    gA h0 a0 12 11 fun a9 =>
    aI h0 a9 0 ((3 * v4) + v6) fun v10 =>
    fx2 (fun (w63 : Int32 → Int32 → Prop) (x11 : Int32) (x12 : Int32) =>
      gA h0 a0 12 12 fun a13 =>
      aI h0 a13 0 ((3 * v4) + v6) fun v14 =>
      br (v14 < x12) (
        gA h0 a0 12 12 fun a15 =>
        aI h0 a15 0 ((3 * v4) + v6) fun v16 =>
        gA h0 a0 12 11 fun a17 =>
        aI h0 a17 0 ((3 * v4) + v6) fun v18 =>
        dz (((((v16 - v18) + 1) : Int32).toInt64) : Int64) (
        K ((1000 * ((x11 : Int32).toInt64)) / ((((v16 - v18) + 1) : Int32).toInt64)))) (
        gA h0 a0 12 30 fun a19 =>
        aI h0 a19 0 p2 fun v20 =>
        gA h0 a0 12 31 fun a21 =>
        aI h0 a21 0 p2 fun v22 =>
        w_X12_holds N v20 v22 x12 h0 fun v23 =>
        jn (fun (v24 : Int32) => 
          w63 (x11 + v24) (x12 + 1)) (fun j101 =>
        br (v23 = 0) (
          j101 0) (
          j101 1)))) N 0 v10)
abbrev rmX12_share : Room := { frames := 3, cells := 0, slots := 0, locals := 82 }
theorem vX12_share : VI RX12 yX12_share cX12_share 6 (some .long) 2 := ⟨tw9_16, tp76, tw1_8, tw9_17, by decide +kernel⟩
set_option maxHeartbeats 4000000 in
theorem m_X12_share {G : Gp} (l : Launch) (hfl : l.stackTraces = false) (N : Nat) {a0 : Nat} {p1 : Int32} {p2 : Int32} {h0 : Hp} {K : Int64 → Prop} (hw : w_X12_share N a0 p1 p2 h0 K) : MT G l yX12_share cX12_share 6 (some .long) rmX12_share [rV (some a0), iV p1, iV p2] h0 (QL G (fun r h1 => h1 = h0 ∧ K r)) := by
  refine go_metT l hfl _ 6 _ _ rfl (by decide +kernel) (Nat.le_of_ble_eq_true rfl) [(0, rV (some a0)), (1, iV p1), (2, iV p2)] rfl (fun X hX C hn => ?_)
  subst hX
  unfold w_X12_share at hw
  refine go_iconst C 3 dX12_share_0 kc_i3 ?_
  refine go_aload_n C dX12_share_1 0 rfl ?_
  refine go_getA C (cfX12) (k := 26) (Nat.le_of_ble_eq_true rfl) tw7_109 rfl dX12_share_2 hw (fun a1 hw => ?_)
  refine go_iconst C 3 dX12_share_5 kc_i3 ?_
  refine go_iload_n C dX12_share_6 1 rfl ?_
  refine go_imul C dX12_share_7 ?_
  refine go_aload_n C dX12_share_8 0 rfl ?_
  refine go_getA C (cfX12) (k := 28) (Nat.le_of_ble_eq_true rfl) tw7_111 rfl dX12_share_9 hw (fun a2 hw => ?_)
  refine go_iload_n C dX12_share_12 2 rfl ?_
  refine go_iaload C dX12_share_13 hw (fun v3 hw => ?_)
  refine go_iadd C dX12_share_14 ?_
  refine go_iaload C dX12_share_15 hw (fun v4 hw => ?_)
  refine go_imul C dX12_share_16 ?_
  refine go_aload_n C dX12_share_17 0 rfl ?_
  refine go_getA C (cfX12) (k := 29) (Nat.le_of_ble_eq_true rfl) tw7_112 rfl dX12_share_18 hw (fun a5 hw => ?_)
  refine go_iload_n C dX12_share_21 2 rfl ?_
  refine go_iaload C dX12_share_22 hw (fun v6 hw => ?_)
  refine go_iadd C dX12_share_23 ?_
  refine go_istore_n C [(3, iV ((3 * v4) + v6)), (0, rV (some a0)), (1, iV p1), (2, iV p2)] dX12_share_24 (Nat.le_of_ble_eq_true rfl) rfl ?_
  refine go_aload_n C dX12_share_25 1 rfl ?_
  refine go_getA C (cfX12) (k := 30) (Nat.le_of_ble_eq_true rfl) tw7_113 rfl dX12_share_26 hw (fun a7 hw => ?_)
  refine go_iload_n C dX12_share_29 3 rfl ?_
  refine go_iaload C dX12_share_30 hw (fun v8 hw => ?_)
  refine go_bipush C 61 dX12_share_31 kc_b61 ?_
  refine go_icmp_ne C 52 dX12_share_33 (by decide) hw (fun hw => ?_) (fun hw => ?_)
  · refine go_iconst C 0 dX12_share_52 kc_i0 ?_
    refine go_istore C [(4, iV 0), (3, iV ((3 * v4) + v6)), (0, rV (some a0)), (1, iV p1), (2, iV p2)] dX12_share_53 (Nat.le_of_ble_eq_true rfl) rfl ?_
    refine go_aload_n C dX12_share_55 2 rfl ?_
    refine go_getA C (cfX12) (k := 11) (Nat.le_of_ble_eq_true rfl) tw7_94 rfl dX12_share_56 hw (fun a9 hw => ?_)
    refine go_iload_n C dX12_share_59 1 rfl ?_
    refine go_iaload C dX12_share_60 hw (fun v10 hw => ?_)
    refine go_istore C [(5, iV v10), (4, iV 0), (3, iV ((3 * v4) + v6)), (0, rV (some a0)), (1, iV p1), (2, iV p2)] dX12_share_61 (Nat.le_of_ble_eq_true rfl) rfl ?_
    refine go_sub [3, 5, 2, 1, 0] rfl ?_
    refine fx2_elim (P := fun x11 x12 => Go G X rmX12_share 6 0 0 (QN G X (QL G (fun r h1 => h1 = h0 ∧ K r)) rmX12_share) h0 63 [(0, rV (some a0)), (2, iV p2), (3, iV ((3 * v4) + v6)), (4, iV x11), (5, iV x12)] []) (fun w63 hj63 x11 x12 hw => ?_) N _ _ hw
    refine go_iload C dX12_share_63 4 rfl ?_
    refine go_aload_n C dX12_share_65 0 rfl ?_
    refine go_getA C (cfX12) (k := 12) (Nat.le_of_ble_eq_true rfl) tw7_95 rfl dX12_share_66 hw (fun a13 hw => ?_)
    refine go_iload_n C dX12_share_69 2 rfl ?_
    refine go_iaload C dX12_share_70 hw (fun v14 hw => ?_)
    refine go_icmp_gt C 110 dX12_share_71 (by decide) hw (fun hw => ?_) (fun hw => ?_)
    · refine go_ldc2 C 1000 dX12_share_110 tw9_18 ?_
      refine go_iload C dX12_share_113 3 rfl ?_
      refine go_i2l C dX12_share_115 ?_
      refine go_lmul C dX12_share_116 ?_
      refine go_aload_n C dX12_share_117 0 rfl ?_
      refine go_getA C (cfX12) (k := 12) (Nat.le_of_ble_eq_true rfl) tw7_95 rfl dX12_share_118 hw (fun a15 hw => ?_)
      refine go_iload_n C dX12_share_121 2 rfl ?_
      refine go_iaload C dX12_share_122 hw (fun v16 hw => ?_)
      refine go_aload_n C dX12_share_123 0 rfl ?_
      refine go_getA C (cfX12) (k := 11) (Nat.le_of_ble_eq_true rfl) tw7_94 rfl dX12_share_124 hw (fun a17 hw => ?_)
      refine go_iload_n C dX12_share_127 2 rfl ?_
      refine go_iaload C dX12_share_128 hw (fun v18 hw => ?_)
      refine go_isub C dX12_share_129 ?_
      refine go_iconst C 1 dX12_share_130 kc_i1 ?_
      refine go_iadd C dX12_share_131 ?_
      refine go_i2l C dX12_share_132 ?_
      refine go_ldiv C dX12_share_133 hw (fun hw => ?_)
      exact go_lret C dX12_share_134 ⟨rfl, hw⟩ (Nat.le_of_ble_eq_true rfl) (Nat.le_of_ble_eq_true rfl)
    refine go_iload C dX12_share_74 3 rfl ?_
    refine go_aload_n C dX12_share_76 0 rfl ?_
    refine go_getA C (cfX12) (k := 30) (Nat.le_of_ble_eq_true rfl) tw7_113 rfl dX12_share_77 hw (fun a19 hw => ?_)
    refine go_iload_n C dX12_share_80 1 rfl ?_
    refine go_iaload C dX12_share_81 hw (fun v20 hw => ?_)
    refine go_aload_n C dX12_share_82 0 rfl ?_
    refine go_getA C (cfX12) (k := 31) (Nat.le_of_ble_eq_true rfl) tw7_114 rfl dX12_share_83 hw (fun a21 hw => ?_)
    refine go_iload_n C dX12_share_86 1 rfl ?_
    refine go_iaload C dX12_share_87 hw (fun v22 hw => ?_)
    refine go_iload C dX12_share_88 4 rfl ?_
    refine go_pS_i C [iV v20, iV v22, iV x12] vX12_holds tw8_182 (m_X12_holds (xl X) C.2.2.2.2.2.2.2.1 N hw) ⟨Nat.le_of_ble_eq_true rfl, Nat.le_of_ble_eq_true rfl, Nat.le_of_ble_eq_true rfl, Nat.le_of_ble_eq_true rfl⟩ ⟨rfl, rfl⟩ dX12_share_90 rfl (Nat.le_of_ble_eq_true rfl) rfl (fun v23 hw => ?_)
    refine jn_elim (P := fun j => ∀ (v24 : Int32), j v24 → Go G X rmX12_share 6 0 0 (QN G X (QL G (fun r h1 => h1 = h0 ∧ K r)) rmX12_share) h0 101 [(0, rV (some a0)), (2, iV p2), (3, iV ((3 * v4) + v6)), (5, iV x12)] [iV v24, iV x11]) hw (fun v24 hw => ?_) (fun j101 hj101 hw => ?_)
    · refine go_iadd C dX12_share_101 ?_
      refine go_istore C [(4, iV (x11 + v24)), (0, rV (some a0)), (2, iV p2), (3, iV ((3 * v4) + v6)), (5, iV x12)] dX12_share_102 (Nat.le_of_ble_eq_true rfl) rfl ?_
      refine go_iinc C (x12 + 1) [(5, iV (x12 + 1)), (4, iV (x11 + v24)), (0, rV (some a0)), (2, iV p2), (3, iV ((3 * v4) + v6))] dX12_share_104 4 rfl (by rw [kc_i1]) (Nat.le_of_ble_eq_true rfl) rfl ?_
      refine go_goto C 63 dX12_share_107 (by decide) ?_
      refine go_sub [2, 3, 4, 1, 0] rfl ?_
      exact hj63 (x11 + v24) (x12 + 1) hw
    refine go_if_eq C 100 dX12_share_93 (by decide) hw (fun hw => ?_) (fun hw => ?_)
    · refine go_iconst C 0 dX12_share_100 kc_i0 ?_
      refine go_sub [0, 1, 2, 4] rfl ?_
      exact hj101 0 hw
    refine go_iconst C 1 dX12_share_96 kc_i1 ?_
    refine go_goto C 101 dX12_share_97 (by decide) ?_
    refine go_sub [0, 1, 2, 4] rfl ?_
    exact hj101 1 hw
  refine go_ldc2 C 1000 dX12_share_36 tw9_18 ?_
  refine go_iconst C 1 dX12_share_39 kc_i1 ?_
  refine go_aload_n C dX12_share_40 1 rfl ?_
  refine go_getA C (cfX12) (k := 10) (Nat.le_of_ble_eq_true rfl) tw7_93 rfl dX12_share_41 hw (fun a25 hw => ?_)
  refine go_iload_n C dX12_share_44 0 rfl ?_
  refine go_iaload C dX12_share_45 hw (fun v26 hw => ?_)
  refine go_pS_i C [iV 1, iV v26] vX12_most tw9_19 (m_X12_most (xl X) C.2.2.2.2.2.2.2.1 N hw) ⟨Nat.le_of_ble_eq_true rfl, Nat.le_of_ble_eq_true rfl, Nat.le_of_ble_eq_true rfl, Nat.le_of_ble_eq_true rfl⟩ ⟨rfl, rfl⟩ dX12_share_46 rfl (Nat.le_of_ble_eq_true rfl) rfl (fun v27 hw => ?_)
  refine go_i2l C dX12_share_49 ?_
  refine go_ldiv C dX12_share_50 hw (fun hw => ?_)
  exact go_lret C dX12_share_51 ⟨rfl, hw⟩ (Nat.le_of_ble_eq_true rfl) (Nat.le_of_ble_eq_true rfl)
/-- DuelSchemaModel.joinShare(II)J -/
def w_X12_joinShare (N : Nat) (a0 : Nat) (p1 : Int32) (p2 : Int32) (h0 : Hp) (K : Int64 → Prop) : Prop :=
  gA h0 a0 12 10 fun a1 =>
  gA h0 a0 12 26 fun a2 =>
  gA h0 a0 12 33 fun a3 =>
  aI h0 a3 0 p2 fun v4 =>
  aI h0 a2 0 ((3 * p1) + v4) fun v5 =>
  gA h0 a0 12 34 fun a6 =>
  aI h0 a6 0 p2 fun v7 =>
  aI h0 a1 0 ((3 * v5) + v7) fun v8 =>
  gA h0 a0 12 10 fun a9 =>
  gA h0 a0 12 26 fun a10 =>
  gA h0 a0 12 35 fun a11 =>
  aI h0 a11 0 p2 fun v12 =>
  aI h0 a10 0 ((3 * p1) + v12) fun v13 =>
  gA h0 a0 12 36 fun a14 =>
  aI h0 a14 0 p2 fun v15 =>
  aI h0 a9 0 ((3 * v13) + v15) fun v16 =>
  w_X12_most N v8 v16 h0 fun v17 =>
  w_X12_most N 1 v17 h0 fun v18 =>
  dz (((v18 : Int32).toInt64) : Int64) (
  K (1000 / ((v18 : Int32).toInt64)))
abbrev rmX12_joinShare : Room := { frames := 3, cells := 0, slots := 0, locals := 81 }
theorem vX12_joinShare : VI RX12 yX12_joinShare cX12_joinShare 5 (some .long) 2 := ⟨tw9_24, tp77, tw1_8, tw9_25, by decide +kernel⟩
set_option maxHeartbeats 4000000 in
theorem m_X12_joinShare {G : Gp} (l : Launch) (hfl : l.stackTraces = false) (N : Nat) {a0 : Nat} {p1 : Int32} {p2 : Int32} {h0 : Hp} {K : Int64 → Prop} (hw : w_X12_joinShare N a0 p1 p2 h0 K) : MT G l yX12_joinShare cX12_joinShare 5 (some .long) rmX12_joinShare [rV (some a0), iV p1, iV p2] h0 (QL G (fun r h1 => h1 = h0 ∧ K r)) := by
  refine go_metT l hfl _ 5 _ _ rfl (by decide +kernel) (Nat.le_of_ble_eq_true rfl) [(0, rV (some a0)), (1, iV p1), (2, iV p2)] rfl (fun X hX C hn => ?_)
  subst hX
  unfold w_X12_joinShare at hw
  refine go_aload_n C dX12_joinShare_0 0 rfl ?_
  refine go_getA C (cfX12) (k := 10) (Nat.le_of_ble_eq_true rfl) tw7_93 rfl dX12_joinShare_1 hw (fun a1 hw => ?_)
  refine go_iconst C 3 dX12_joinShare_4 kc_i3 ?_
  refine go_aload_n C dX12_joinShare_5 0 rfl ?_
  refine go_getA C (cfX12) (k := 26) (Nat.le_of_ble_eq_true rfl) tw7_109 rfl dX12_joinShare_6 hw (fun a2 hw => ?_)
  refine go_iconst C 3 dX12_joinShare_9 kc_i3 ?_
  refine go_iload_n C dX12_joinShare_10 1 rfl ?_
  refine go_imul C dX12_joinShare_11 ?_
  refine go_aload_n C dX12_joinShare_12 0 rfl ?_
  refine go_getA C (cfX12) (k := 33) (Nat.le_of_ble_eq_true rfl) tw7_116 rfl dX12_joinShare_13 hw (fun a3 hw => ?_)
  refine go_iload_n C dX12_joinShare_16 2 rfl ?_
  refine go_iaload C dX12_joinShare_17 hw (fun v4 hw => ?_)
  refine go_iadd C dX12_joinShare_18 ?_
  refine go_iaload C dX12_joinShare_19 hw (fun v5 hw => ?_)
  refine go_imul C dX12_joinShare_20 ?_
  refine go_aload_n C dX12_joinShare_21 0 rfl ?_
  refine go_getA C (cfX12) (k := 34) (Nat.le_of_ble_eq_true rfl) tw7_117 rfl dX12_joinShare_22 hw (fun a6 hw => ?_)
  refine go_iload_n C dX12_joinShare_25 2 rfl ?_
  refine go_iaload C dX12_joinShare_26 hw (fun v7 hw => ?_)
  refine go_iadd C dX12_joinShare_27 ?_
  refine go_iaload C dX12_joinShare_28 hw (fun v8 hw => ?_)
  refine go_istore_n C [(3, iV v8), (0, rV (some a0)), (1, iV p1), (2, iV p2)] dX12_joinShare_29 (Nat.le_of_ble_eq_true rfl) rfl ?_
  refine go_aload_n C dX12_joinShare_30 1 rfl ?_
  refine go_getA C (cfX12) (k := 10) (Nat.le_of_ble_eq_true rfl) tw7_93 rfl dX12_joinShare_31 hw (fun a9 hw => ?_)
  refine go_iconst C 3 dX12_joinShare_34 kc_i3 ?_
  refine go_aload_n C dX12_joinShare_35 1 rfl ?_
  refine go_getA C (cfX12) (k := 26) (Nat.le_of_ble_eq_true rfl) tw7_109 rfl dX12_joinShare_36 hw (fun a10 hw => ?_)
  refine go_iconst C 3 dX12_joinShare_39 kc_i3 ?_
  refine go_iload_n C dX12_joinShare_40 2 rfl ?_
  refine go_imul C dX12_joinShare_41 ?_
  refine go_aload_n C dX12_joinShare_42 1 rfl ?_
  refine go_getA C (cfX12) (k := 35) (Nat.le_of_ble_eq_true rfl) tw7_118 rfl dX12_joinShare_43 hw (fun a11 hw => ?_)
  refine go_iload_n C dX12_joinShare_46 3 rfl ?_
  refine go_iaload C dX12_joinShare_47 hw (fun v12 hw => ?_)
  refine go_iadd C dX12_joinShare_48 ?_
  refine go_iaload C dX12_joinShare_49 hw (fun v13 hw => ?_)
  refine go_imul C dX12_joinShare_50 ?_
  refine go_aload_n C dX12_joinShare_51 1 rfl ?_
  refine go_getA C (cfX12) (k := 36) (Nat.le_of_ble_eq_true rfl) tw7_119 rfl dX12_joinShare_52 hw (fun a14 hw => ?_)
  refine go_iload_n C dX12_joinShare_55 3 rfl ?_
  refine go_iaload C dX12_joinShare_56 hw (fun v15 hw => ?_)
  refine go_iadd C dX12_joinShare_57 ?_
  refine go_iaload C dX12_joinShare_58 hw (fun v16 hw => ?_)
  refine go_istore C [(4, iV v16), (3, iV v8), (0, rV (some a0)), (1, iV p1), (2, iV p2)] dX12_joinShare_59 (Nat.le_of_ble_eq_true rfl) rfl ?_
  refine go_ldc2 C 1000 dX12_joinShare_61 tw9_18 ?_
  refine go_iconst C 1 dX12_joinShare_64 kc_i1 ?_
  refine go_iload_n C dX12_joinShare_65 1 rfl ?_
  refine go_iload C dX12_joinShare_66 0 rfl ?_
  refine go_pS_i C [iV v8, iV v16] vX12_most tw9_19 (m_X12_most (xl X) C.2.2.2.2.2.2.2.1 N hw) ⟨Nat.le_of_ble_eq_true rfl, Nat.le_of_ble_eq_true rfl, Nat.le_of_ble_eq_true rfl, Nat.le_of_ble_eq_true rfl⟩ ⟨rfl, rfl⟩ dX12_joinShare_68 rfl (Nat.le_of_ble_eq_true rfl) rfl (fun v17 hw => ?_)
  refine go_pS_i C [iV 1, iV v17] vX12_most tw9_19 (m_X12_most (xl X) C.2.2.2.2.2.2.2.1 N hw) ⟨Nat.le_of_ble_eq_true rfl, Nat.le_of_ble_eq_true rfl, Nat.le_of_ble_eq_true rfl, Nat.le_of_ble_eq_true rfl⟩ ⟨rfl, rfl⟩ dX12_joinShare_71 rfl (Nat.le_of_ble_eq_true rfl) rfl (fun v18 hw => ?_)
  refine go_i2l C dX12_joinShare_74 ?_
  refine go_ldiv C dX12_joinShare_75 hw (fun hw => ?_)
  exact go_lret C dX12_joinShare_76 ⟨rfl, hw⟩ (Nat.le_of_ble_eq_true rfl) (Nat.le_of_ble_eq_true rfl)
/-- DuelSchemaModel.costAt(II)J -/
def w_X12_costAt (N : Nat) (a0 : Nat) (p1 : Int32) (p2 : Int32) (h0 : Hp) (K : Int64 → Prop) : Prop :=
  gA h0 a0 12 26 fun a1 =>
  gA h0 a0 12 39 fun a2 =>
  aI h0 a2 0 p2 fun v3 =>
  aI h0 a1 0 ((3 * p1) + v3) fun v4 =>
  gA h0 a0 12 40 fun a5 =>
  aI h0 a5 0 p2 fun v6 =>
  br (v6 = 0) (
    gA h0 a0 12 9 fun a16 =>
    aI h0 a16 0 v4 fun v17 =>
    K ((v17 : Int32).toInt64)) (
    br (5 ≤ v6) (
      gA h0 a0 12 8 fun a7 =>
      aI h0 a7 0 v4 fun v8 =>
      gA h0 a0 12 10 fun a9 =>
      cv h0 a0 12 <| w_X12_ownColumn N a0 (((3 * p1) + v6) - 5) p2 h0 fun v10 =>
      aI h0 a9 0 ((3 * v4) + v10) fun v11 =>
      w_X12_most N 1 v11 h0 fun v12 =>
      dz (v12 : Int32) (
      K (1 + (((v8 / v12) : Int32).toInt64)))) (
      gA h0 a0 12 8 fun a13 =>
      aI h0 a13 0 v4 fun v14 =>
      cv h0 a0 12 <| w_X12_share N a0 p1 (((4 * p1) + v6) - 1) h0 fun v15 =>
      K (1 + ((((v14 : Int32).toInt64) * v15) / 1000))))
abbrev rmX12_costAt : Room := { frames := 4, cells := 0, slots := 0, locals := 107 }
theorem vX12_costAt : VI RX12 yX12_costAt cX12_costAt 5 (some .long) 2 := ⟨tw9_12, tp75, tw1_8, tw9_13, by decide +kernel⟩
set_option maxHeartbeats 4000000 in
theorem m_X12_costAt {G : Gp} (l : Launch) (hfl : l.stackTraces = false) (N : Nat) {a0 : Nat} {p1 : Int32} {p2 : Int32} {h0 : Hp} {K : Int64 → Prop} (hw : w_X12_costAt N a0 p1 p2 h0 K) : MT G l yX12_costAt cX12_costAt 5 (some .long) rmX12_costAt [rV (some a0), iV p1, iV p2] h0 (QL G (fun r h1 => h1 = h0 ∧ K r)) := by
  refine go_metT l hfl _ 5 _ _ rfl (by decide +kernel) (Nat.le_of_ble_eq_true rfl) [(0, rV (some a0)), (1, iV p1), (2, iV p2)] rfl (fun X hX C hn => ?_)
  subst hX
  unfold w_X12_costAt at hw
  refine go_aload_n C dX12_costAt_0 0 rfl ?_
  refine go_getA C (cfX12) (k := 26) (Nat.le_of_ble_eq_true rfl) tw7_109 rfl dX12_costAt_1 hw (fun a1 hw => ?_)
  refine go_iconst C 3 dX12_costAt_4 kc_i3 ?_
  refine go_iload_n C dX12_costAt_5 1 rfl ?_
  refine go_imul C dX12_costAt_6 ?_
  refine go_aload_n C dX12_costAt_7 0 rfl ?_
  refine go_getA C (cfX12) (k := 39) (Nat.le_of_ble_eq_true rfl) tw7_122 rfl dX12_costAt_8 hw (fun a2 hw => ?_)
  refine go_iload_n C dX12_costAt_11 2 rfl ?_
  refine go_iaload C dX12_costAt_12 hw (fun v3 hw => ?_)
  refine go_iadd C dX12_costAt_13 ?_
  refine go_iaload C dX12_costAt_14 hw (fun v4 hw => ?_)
  refine go_istore_n C [(3, iV v4), (0, rV (some a0)), (1, iV p1), (2, iV p2)] dX12_costAt_15 (Nat.le_of_ble_eq_true rfl) rfl ?_
  refine go_aload_n C dX12_costAt_16 1 rfl ?_
  refine go_getA C (cfX12) (k := 40) (Nat.le_of_ble_eq_true rfl) tw7_123 rfl dX12_costAt_17 hw (fun a5 hw => ?_)
  refine go_iload_n C dX12_costAt_20 3 rfl ?_
  refine go_iaload C dX12_costAt_21 hw (fun v6 hw => ?_)
  refine go_istore C [(4, iV v6), (3, iV v4), (0, rV (some a0)), (1, iV p1), (2, iV p2)] dX12_costAt_22 (Nat.le_of_ble_eq_true rfl) rfl ?_
  refine go_iload C dX12_costAt_24 0 rfl ?_
  refine go_if_ne C 37 dX12_costAt_26 (by decide) hw (fun hw => ?_) (fun hw => ?_)
  · refine go_iload C dX12_costAt_37 0 rfl ?_
    refine go_iconst C 5 dX12_costAt_39 kc_i5 ?_
    refine go_icmp_ge C 71 dX12_costAt_40 (by decide) hw (fun hw => ?_) (fun hw => ?_)
    · refine go_lconst C 1 dX12_costAt_71 rfl ?_
      refine go_aload_n C dX12_costAt_72 2 rfl ?_
      refine go_getA C (cfX12) (k := 8) (Nat.le_of_ble_eq_true rfl) tw7_91 rfl dX12_costAt_73 hw (fun a7 hw => ?_)
      refine go_iload_n C dX12_costAt_76 1 rfl ?_
      refine go_iaload C dX12_costAt_77 hw (fun v8 hw => ?_)
      refine go_iconst C 1 dX12_costAt_78 kc_i1 ?_
      refine go_aload_n C dX12_costAt_79 2 rfl ?_
      refine go_getA C (cfX12) (k := 10) (Nat.le_of_ble_eq_true rfl) tw7_93 rfl dX12_costAt_80 hw (fun a9 hw => ?_)
      refine go_iconst C 3 dX12_costAt_83 kc_i3 ?_
      refine go_iload_n C dX12_costAt_84 1 rfl ?_
      refine go_imul C dX12_costAt_85 ?_
      refine go_aload_n C dX12_costAt_86 2 rfl ?_
      refine go_iconst C 3 dX12_costAt_87 kc_i3 ?_
      refine go_iload_n C dX12_costAt_88 3 rfl ?_
      refine go_imul C dX12_costAt_89 ?_
      refine go_iload C dX12_costAt_90 0 rfl ?_
      refine go_iadd C dX12_costAt_92 ?_
      refine go_iconst C 5 dX12_costAt_93 kc_i5 ?_
      refine go_isub C dX12_costAt_94 ?_
      refine go_iload_n C dX12_costAt_95 4 rfl ?_
      refine go_pV_i C [iV (((3 * p1) + v6) - 5), iV p2] vX12_ownColumn tw8_214 (ci := 12) rfl (m_X12_ownColumn (xl X) C.2.2.2.2.2.2.2.1 N hw.2) ⟨Nat.le_of_ble_eq_true rfl, Nat.le_of_ble_eq_true rfl, Nat.le_of_ble_eq_true rfl, Nat.le_of_ble_eq_true rfl⟩ ⟨rfl, rfl⟩ hw.1 dX12_costAt_96 rfl (Nat.le_of_ble_eq_true rfl) rfl (fun v10 hw => ?_)
      refine go_iadd C dX12_costAt_99 ?_
      refine go_iaload C dX12_costAt_100 hw (fun v11 hw => ?_)
      refine go_pS_i C [iV 1, iV v11] vX12_most tw9_19 (m_X12_most (xl X) C.2.2.2.2.2.2.2.1 N hw) ⟨Nat.le_of_ble_eq_true rfl, Nat.le_of_ble_eq_true rfl, Nat.le_of_ble_eq_true rfl, Nat.le_of_ble_eq_true rfl⟩ ⟨rfl, rfl⟩ dX12_costAt_101 rfl (Nat.le_of_ble_eq_true rfl) rfl (fun v12 hw => ?_)
      refine go_idiv C dX12_costAt_104 hw (fun hw => ?_)
      refine go_i2l C dX12_costAt_105 ?_
      refine go_ladd C dX12_costAt_106 ?_
      exact go_lret C dX12_costAt_107 ⟨rfl, hw⟩ (Nat.le_of_ble_eq_true rfl) (Nat.le_of_ble_eq_true rfl)
    refine go_lconst C 1 dX12_costAt_43 rfl ?_
    refine go_aload_n C dX12_costAt_44 2 rfl ?_
    refine go_getA C (cfX12) (k := 8) (Nat.le_of_ble_eq_true rfl) tw7_91 rfl dX12_costAt_45 hw (fun a13 hw => ?_)
    refine go_iload_n C dX12_costAt_48 1 rfl ?_
    refine go_iaload C dX12_costAt_49 hw (fun v14 hw => ?_)
    refine go_i2l C dX12_costAt_50 ?_
    refine go_aload_n C dX12_costAt_51 2 rfl ?_
    refine go_iload_n C dX12_costAt_52 3 rfl ?_
    refine go_iconst C 4 dX12_costAt_53 kc_i4 ?_
    refine go_iload_n C dX12_costAt_54 3 rfl ?_
    refine go_imul C dX12_costAt_55 ?_
    refine go_iload C dX12_costAt_56 0 rfl ?_
    refine go_iadd C dX12_costAt_58 ?_
    refine go_iconst C 1 dX12_costAt_59 kc_i1 ?_
    refine go_isub C dX12_costAt_60 ?_
    refine go_pV_l C [iV p1, iV (((4 * p1) + v6) - 1)] vX12_share tw9_14 (ci := 12) rfl (m_X12_share (xl X) C.2.2.2.2.2.2.2.1 N hw.2) ⟨Nat.le_of_ble_eq_true rfl, Nat.le_of_ble_eq_true rfl, Nat.le_of_ble_eq_true rfl, Nat.le_of_ble_eq_true rfl⟩ ⟨rfl, rfl⟩ hw.1 dX12_costAt_61 rfl (Nat.le_of_ble_eq_true rfl) rfl (fun v15 hw => ?_)
    refine go_lmul C dX12_costAt_64 ?_
    refine go_ldc2 C 1000 dX12_costAt_65 tw9_18 ?_
    refine go_ldiv C dX12_costAt_68 ⟨by decide, hw⟩ (fun hw => ?_)
    refine go_ladd C dX12_costAt_69 ?_
    exact go_lret C dX12_costAt_70 ⟨rfl, hw⟩ (Nat.le_of_ble_eq_true rfl) (Nat.le_of_ble_eq_true rfl)
  refine go_aload_n C dX12_costAt_29 2 rfl ?_
  refine go_getA C (cfX12) (k := 9) (Nat.le_of_ble_eq_true rfl) tw7_92 rfl dX12_costAt_30 hw (fun a16 hw => ?_)
  refine go_iload_n C dX12_costAt_33 1 rfl ?_
  refine go_iaload C dX12_costAt_34 hw (fun v17 hw => ?_)
  refine go_i2l C dX12_costAt_35 ?_
  exact go_lret C dX12_costAt_36 ⟨rfl, hw⟩ (Nat.le_of_ble_eq_true rfl) (Nat.le_of_ble_eq_true rfl)
/-- DuelSchemaModel.estimateOfPlan(I)J -/
def w_X12_estimateOfPlan (N : Nat) (a0 : Nat) (p1 : Int32) (h0 : Hp) (K : Int64 → Prop) : Prop :=
  fx3 (fun (w8 : Int64 → Int64 → Int32 → Prop) (y1 : Int64) (y2 : Int64) (x3 : Int32) =>
    gA h0 a0 12 25 fun a4 =>
    aI h0 a4 0 p1 fun v5 =>
    br (v5 ≤ x3) (
      K y1) (
      cv h0 a0 12 <| w_X12_costAt N a0 p1 x3 h0 fun v6 =>
      gA h0 a0 12 8 fun a7 =>
      gA h0 a0 12 26 fun a8 =>
      gA h0 a0 12 39 fun a9 =>
      aI h0 a9 0 x3 fun v10 =>
      aI h0 a8 0 ((3 * p1) + v10) fun v11 =>
      aI h0 a7 0 v11 fun v12 =>
      fx2 (fun (w64 : Int64 → Int32 → Prop) (y13 : Int64) (x14 : Int32) =>
        gA h0 a0 12 27 fun a15 =>
        aI h0 a15 0 p1 fun v16 =>
        br (((4 * p1) + v16) ≤ x14) (
          fx2 (fun (w128 : Int64 → Int32 → Prop) (y17 : Int64) (x18 : Int32) =>
            gA h0 a0 12 32 fun a19 =>
            aI h0 a19 0 p1 fun v20 =>
            br (((3 * p1) + v20) ≤ x18) (
              jn (fun (v21 : Int64) => 
                w8 (y1 + (y2 * v6)) v21 (x3 + 1)) (fun j194 =>
              br (0 ≤ (lg_cmp y17 1)) (
                j194 y17) (
                j194 1))) (
              cv h0 a0 12 <| w_X12_ownColumn N a0 x18 x3 h0 fun v22 =>
              jn (fun (v23 : Int64) => 
                w128 v23 (x18 + 1)) (fun j173 =>
              br (v22 < 0) (
                j173 y17) (
                cv h0 a0 12 <| w_X12_joinShare N a0 p1 x18 h0 fun v24 =>
                j173 ((y17 * v24) / 1000))))) N y13 (3 * p1)) (
          gA h0 a0 12 28 fun a25 =>
          aI h0 a25 0 x14 fun v26 =>
          gA h0 a0 12 39 fun a27 =>
          aI h0 a27 0 x3 fun v28 =>
          jn (fun (v29 : Int64) => 
            w64 v29 (x14 + 1)) (fun j115 =>
          br (v26 = v28) (
            cv h0 a0 12 <| w_X12_share N a0 p1 x14 h0 fun v30 =>
            j115 ((y13 * v30) / 1000)) (
            j115 y13)))) N (y2 * ((v12 : Int32).toInt64)) (4 * p1))) N 0 1 0
abbrev rmX12_estimateOfPlan : Room := { frames := 5, cells := 0, slots := 0, locals := 131 }
theorem vX12_estimateOfPlan : VI RX12 yX12_estimateOfPlan cX12_estimateOfPlan 8 (some .long) 1 := ⟨tw9_8, tp74, tw1_8, tw9_9, by decide +kernel⟩
set_option maxHeartbeats 4000000 in
theorem m_X12_estimateOfPlan {G : Gp} (l : Launch) (hfl : l.stackTraces = false) (N : Nat) {a0 : Nat} {p1 : Int32} {h0 : Hp} {K : Int64 → Prop} (hw : w_X12_estimateOfPlan N a0 p1 h0 K) : MT G l yX12_estimateOfPlan cX12_estimateOfPlan 8 (some .long) rmX12_estimateOfPlan [rV (some a0), iV p1] h0 (QL G (fun r h1 => h1 = h0 ∧ K r)) := by
  refine go_metT l hfl _ 8 _ _ rfl (by decide +kernel) (Nat.le_of_ble_eq_true rfl) [(0, rV (some a0)), (1, iV p1)] rfl (fun X hX C hn => ?_)
  subst hX
  unfold w_X12_estimateOfPlan at hw
  refine go_lconst C 0 dX12_estimateOfPlan_0 rfl ?_
  refine go_lstore_n C [(2, lV 0), (0, rV (some a0)), (1, iV p1)] dX12_estimateOfPlan_1 (Nat.le_of_ble_eq_true rfl) rfl ?_
  refine go_lconst C 1 dX12_estimateOfPlan_2 rfl ?_
  refine go_lstore C [(4, lV 1), (2, lV 0), (0, rV (some a0)), (1, iV p1)] dX12_estimateOfPlan_3 (Nat.le_of_ble_eq_true rfl) rfl ?_
  refine go_iconst C 0 dX12_estimateOfPlan_5 kc_i0 ?_
  refine go_istore C [(6, iV 0), (4, lV 1), (2, lV 0), (0, rV (some a0)), (1, iV p1)] dX12_estimateOfPlan_6 (Nat.le_of_ble_eq_true rfl) rfl ?_
  refine go_sub [3, 4, 2, 1, 0] rfl ?_
  refine fx3_elim (P := fun y1 y2 x3 => Go G X rmX12_estimateOfPlan 8 0 0 (QN G X (QL G (fun r h1 => h1 = h0 ∧ K r)) rmX12_estimateOfPlan) h0 8 [(0, rV (some a0)), (1, iV p1), (2, lV y1), (4, lV y2), (6, iV x3)] []) (fun w8 hj8 y1 y2 x3 hw => ?_) N _ _ _ hw
  refine go_iload C dX12_estimateOfPlan_8 4 rfl ?_
  refine go_aload_n C dX12_estimateOfPlan_10 0 rfl ?_
  refine go_getA C (cfX12) (k := 25) (Nat.le_of_ble_eq_true rfl) tw7_108 rfl dX12_estimateOfPlan_11 hw (fun a4 hw => ?_)
  refine go_iload_n C dX12_estimateOfPlan_14 1 rfl ?_
  refine go_iaload C dX12_estimateOfPlan_15 hw (fun v5 hw => ?_)
  refine go_icmp_ge C 202 dX12_estimateOfPlan_16 (by decide) hw (fun hw => ?_) (fun hw => ?_)
  · refine go_lload_n C dX12_estimateOfPlan_202 2 rfl ?_
    exact go_lret C dX12_estimateOfPlan_203 ⟨rfl, hw⟩ (Nat.le_of_ble_eq_true rfl) (Nat.le_of_ble_eq_true rfl)
  refine go_lload_n C dX12_estimateOfPlan_19 2 rfl ?_
  refine go_lload C dX12_estimateOfPlan_20 3 rfl ?_
  refine go_aload_n C dX12_estimateOfPlan_22 0 rfl ?_
  refine go_iload_n C dX12_estimateOfPlan_23 1 rfl ?_
  refine go_iload C dX12_estimateOfPlan_24 4 rfl ?_
  refine go_pV_l C [iV p1, iV x3] vX12_costAt tw9_10 (ci := 12) rfl (m_X12_costAt (xl X) C.2.2.2.2.2.2.2.1 N hw.2) ⟨Nat.le_of_ble_eq_true rfl, Nat.le_of_ble_eq_true rfl, Nat.le_of_ble_eq_true rfl, Nat.le_of_ble_eq_true rfl⟩ ⟨rfl, rfl⟩ hw.1 dX12_estimateOfPlan_26 rfl (Nat.le_of_ble_eq_true rfl) rfl (fun v6 hw => ?_)
  refine go_lmul C dX12_estimateOfPlan_29 ?_
  refine go_ladd C dX12_estimateOfPlan_30 ?_
  refine go_lstore_n C [(2, lV (y1 + (y2 * v6))), (0, rV (some a0)), (1, iV p1), (4, lV y2), (6, iV x3)] dX12_estimateOfPlan_31 (Nat.le_of_ble_eq_true rfl) rfl ?_
  refine go_lload C dX12_estimateOfPlan_32 3 rfl ?_
  refine go_aload_n C dX12_estimateOfPlan_34 1 rfl ?_
  refine go_getA C (cfX12) (k := 8) (Nat.le_of_ble_eq_true rfl) tw7_91 rfl dX12_estimateOfPlan_35 hw (fun a7 hw => ?_)
  refine go_aload_n C dX12_estimateOfPlan_38 1 rfl ?_
  refine go_getA C (cfX12) (k := 26) (Nat.le_of_ble_eq_true rfl) tw7_109 rfl dX12_estimateOfPlan_39 hw (fun a8 hw => ?_)
  refine go_iconst C 3 dX12_estimateOfPlan_42 kc_i3 ?_
  refine go_iload_n C dX12_estimateOfPlan_43 2 rfl ?_
  refine go_imul C dX12_estimateOfPlan_44 ?_
  refine go_aload_n C dX12_estimateOfPlan_45 1 rfl ?_
  refine go_getA C (cfX12) (k := 39) (Nat.le_of_ble_eq_true rfl) tw7_122 rfl dX12_estimateOfPlan_46 hw (fun a9 hw => ?_)
  refine go_iload C dX12_estimateOfPlan_49 4 rfl ?_
  refine go_iaload C dX12_estimateOfPlan_51 hw (fun v10 hw => ?_)
  refine go_iadd C dX12_estimateOfPlan_52 ?_
  refine go_iaload C dX12_estimateOfPlan_53 hw (fun v11 hw => ?_)
  refine go_iaload C dX12_estimateOfPlan_54 hw (fun v12 hw => ?_)
  refine go_i2l C dX12_estimateOfPlan_55 ?_
  refine go_lmul C dX12_estimateOfPlan_56 ?_
  refine go_lstore C [(4, lV (y2 * ((v12 : Int32).toInt64))), (2, lV (y1 + (y2 * v6))), (0, rV (some a0)), (1, iV p1), (6, iV x3)] dX12_estimateOfPlan_57 (Nat.le_of_ble_eq_true rfl) rfl ?_
  refine go_iconst C 4 dX12_estimateOfPlan_59 kc_i4 ?_
  refine go_iload_n C dX12_estimateOfPlan_60 3 rfl ?_
  refine go_imul C dX12_estimateOfPlan_61 ?_
  refine go_istore C [(7, iV (4 * p1)), (4, lV (y2 * ((v12 : Int32).toInt64))), (2, lV (y1 + (y2 * v6))), (0, rV (some a0)), (1, iV p1), (6, iV x3)] dX12_estimateOfPlan_62 (Nat.le_of_ble_eq_true rfl) rfl ?_
  refine go_sub [3, 4, 2, 1, 5, 0] rfl ?_
  refine fx2_elim (P := fun y13 x14 => Go G X rmX12_estimateOfPlan 8 0 0 (QN G X (QL G (fun r h1 => h1 = h0 ∧ K r)) rmX12_estimateOfPlan) h0 64 [(0, rV (some a0)), (1, iV p1), (2, lV (y1 + (y2 * v6))), (4, lV y13), (6, iV x3), (7, iV x14)] []) (fun w64 hj64 y13 x14 hw => ?_) N _ _ hw
  refine go_iload C dX12_estimateOfPlan_64 5 rfl ?_
  refine go_iconst C 4 dX12_estimateOfPlan_66 kc_i4 ?_
  refine go_iload_n C dX12_estimateOfPlan_67 1 rfl ?_
  refine go_imul C dX12_estimateOfPlan_68 ?_
  refine go_aload_n C dX12_estimateOfPlan_69 0 rfl ?_
  refine go_getA C (cfX12) (k := 27) (Nat.le_of_ble_eq_true rfl) tw7_110 rfl dX12_estimateOfPlan_70 hw (fun a15 hw => ?_)
  refine go_iload_n C dX12_estimateOfPlan_73 1 rfl ?_
  refine go_iaload C dX12_estimateOfPlan_74 hw (fun v16 hw => ?_)
  refine go_iadd C dX12_estimateOfPlan_75 ?_
  refine go_icmp_ge C 123 dX12_estimateOfPlan_76 (by decide) hw (fun hw => ?_) (fun hw => ?_)
  · refine go_iconst C 3 dX12_estimateOfPlan_123 kc_i3 ?_
    refine go_iload_n C dX12_estimateOfPlan_124 1 rfl ?_
    refine go_imul C dX12_estimateOfPlan_125 ?_
    refine go_istore C [(7, iV (3 * p1)), (0, rV (some a0)), (1, iV p1), (2, lV (y1 + (y2 * v6))), (4, lV y13), (6, iV x3)] dX12_estimateOfPlan_126 (Nat.le_of_ble_eq_true rfl) rfl ?_
    refine go_sub [1, 2, 3, 4, 5, 0] rfl ?_
    refine fx2_elim (P := fun y17 x18 => Go G X rmX12_estimateOfPlan 8 0 0 (QN G X (QL G (fun r h1 => h1 = h0 ∧ K r)) rmX12_estimateOfPlan) h0 128 [(0, rV (some a0)), (1, iV p1), (2, lV (y1 + (y2 * v6))), (4, lV y17), (6, iV x3), (7, iV x18)] []) (fun w128 hj128 y17 x18 hw => ?_) N _ _ hw
    refine go_iload C dX12_estimateOfPlan_128 5 rfl ?_
    refine go_iconst C 3 dX12_estimateOfPlan_130 kc_i3 ?_
    refine go_iload_n C dX12_estimateOfPlan_131 1 rfl ?_
    refine go_imul C dX12_estimateOfPlan_132 ?_
    refine go_aload_n C dX12_estimateOfPlan_133 0 rfl ?_
    refine go_getA C (cfX12) (k := 32) (Nat.le_of_ble_eq_true rfl) tw7_115 rfl dX12_estimateOfPlan_134 hw (fun a19 hw => ?_)
    refine go_iload_n C dX12_estimateOfPlan_137 1 rfl ?_
    refine go_iaload C dX12_estimateOfPlan_138 hw (fun v20 hw => ?_)
    refine go_iadd C dX12_estimateOfPlan_139 ?_
    refine go_icmp_ge C 181 dX12_estimateOfPlan_140 (by decide) hw (fun hw => ?_) (fun hw => ?_)
    · refine go_lload C dX12_estimateOfPlan_181 3 rfl ?_
      refine go_lconst C 1 dX12_estimateOfPlan_183 rfl ?_
      refine go_lcmp C dX12_estimateOfPlan_184 ?_
      refine jn_elim (P := fun j => ∀ (v21 : Int64), j v21 → Go G X rmX12_estimateOfPlan 8 0 0 (QN G X (QL G (fun r h1 => h1 = h0 ∧ K r)) rmX12_estimateOfPlan) h0 194 [(0, rV (some a0)), (1, iV p1), (2, lV (y1 + (y2 * v6))), (6, iV x3)] [lV v21]) hw (fun v21 hw => ?_) (fun j194 hj194 hw => ?_)
      · refine go_lstore C [(4, lV v21), (0, rV (some a0)), (1, iV p1), (2, lV (y1 + (y2 * v6))), (6, iV x3)] dX12_estimateOfPlan_194 (Nat.le_of_ble_eq_true rfl) rfl ?_
        refine go_iinc C (x3 + 1) [(6, iV (x3 + 1)), (4, lV v21), (0, rV (some a0)), (1, iV p1), (2, lV (y1 + (y2 * v6)))] dX12_estimateOfPlan_196 4 rfl (by rw [kc_i1]) (Nat.le_of_ble_eq_true rfl) rfl ?_
        refine go_goto C 8 dX12_estimateOfPlan_199 (by decide) ?_
        refine go_sub [2, 3, 4, 1, 0] rfl ?_
        exact hj8 (y1 + (y2 * v6)) v21 (x3 + 1) hw
      refine go_if_ge C 192 dX12_estimateOfPlan_185 (by decide) hw (fun hw => ?_) (fun hw => ?_)
      · refine go_lload C dX12_estimateOfPlan_192 3 rfl ?_
        refine go_sub [0, 1, 2, 4] rfl ?_
        exact hj194 y17 hw
      refine go_lconst C 1 dX12_estimateOfPlan_188 rfl ?_
      refine go_goto C 194 dX12_estimateOfPlan_189 (by decide) ?_
      refine go_sub [0, 1, 2, 4] rfl ?_
      exact hj194 1 hw
    refine go_aload_n C dX12_estimateOfPlan_143 0 rfl ?_
    refine go_iload C dX12_estimateOfPlan_144 5 rfl ?_
    refine go_iload C dX12_estimateOfPlan_146 4 rfl ?_
    refine go_pV_i C [iV x18, iV x3] vX12_ownColumn tw8_214 (ci := 12) rfl (m_X12_ownColumn (xl X) C.2.2.2.2.2.2.2.1 N hw.2) ⟨Nat.le_of_ble_eq_true rfl, Nat.le_of_ble_eq_true rfl, Nat.le_of_ble_eq_true rfl, Nat.le_of_ble_eq_true rfl⟩ ⟨rfl, rfl⟩ hw.1 dX12_estimateOfPlan_148 rfl (Nat.le_of_ble_eq_true rfl) rfl (fun v22 hw => ?_)
    refine jn_elim (P := fun j => ∀ (v23 : Int64), j v23 → Go G X rmX12_estimateOfPlan 8 0 0 (QN G X (QL G (fun r h1 => h1 = h0 ∧ K r)) rmX12_estimateOfPlan) h0 173 [(0, rV (some a0)), (1, iV p1), (2, lV (y1 + (y2 * v6))), (6, iV x3), (7, iV x18)] [lV v23]) hw (fun v23 hw => ?_) (fun j173 hj173 hw => ?_)
    · refine go_lstore C [(4, lV v23), (0, rV (some a0)), (1, iV p1), (2, lV (y1 + (y2 * v6))), (6, iV x3), (7, iV x18)] dX12_estimateOfPlan_173 (Nat.le_of_ble_eq_true rfl) rfl ?_
      refine go_iinc C (x18 + 1) [(7, iV (x18 + 1)), (4, lV v23), (0, rV (some a0)), (1, iV p1), (2, lV (y1 + (y2 * v6))), (6, iV x3)] dX12_estimateOfPlan_175 5 rfl (by rw [kc_i1]) (Nat.le_of_ble_eq_true rfl) rfl ?_
      refine go_goto C 128 dX12_estimateOfPlan_178 (by decide) ?_
      refine go_sub [2, 3, 4, 1, 5, 0] rfl ?_
      exact hj128 v23 (x18 + 1) hw
    refine go_if_lt C 171 dX12_estimateOfPlan_151 (by decide) hw (fun hw => ?_) (fun hw => ?_)
    · refine go_lload C dX12_estimateOfPlan_171 3 rfl ?_
      refine go_sub [0, 1, 2, 4, 5] rfl ?_
      exact hj173 y17 hw
    refine go_lload C dX12_estimateOfPlan_154 3 rfl ?_
    refine go_aload_n C dX12_estimateOfPlan_156 0 rfl ?_
    refine go_iload_n C dX12_estimateOfPlan_157 1 rfl ?_
    refine go_iload C dX12_estimateOfPlan_158 5 rfl ?_
    refine go_pV_l C [iV p1, iV x18] vX12_joinShare tw9_22 (ci := 12) rfl (m_X12_joinShare (xl X) C.2.2.2.2.2.2.2.1 N hw.2) ⟨Nat.le_of_ble_eq_true rfl, Nat.le_of_ble_eq_true rfl, Nat.le_of_ble_eq_true rfl, Nat.le_of_ble_eq_true rfl⟩ ⟨rfl, rfl⟩ hw.1 dX12_estimateOfPlan_160 rfl (Nat.le_of_ble_eq_true rfl) rfl (fun v24 hw => ?_)
    refine go_lmul C dX12_estimateOfPlan_163 ?_
    refine go_ldc2 C 1000 dX12_estimateOfPlan_164 tw9_18 ?_
    refine go_ldiv C dX12_estimateOfPlan_167 ⟨by decide, hw⟩ (fun hw => ?_)
    refine go_goto C 173 dX12_estimateOfPlan_168 (by decide) ?_
    refine go_sub [0, 1, 2, 4, 5] rfl ?_
    exact hj173 ((y17 * v24) / 1000) hw
  refine go_aload_n C dX12_estimateOfPlan_79 0 rfl ?_
  refine go_getA C (cfX12) (k := 28) (Nat.le_of_ble_eq_true rfl) tw7_111 rfl dX12_estimateOfPlan_80 hw (fun a25 hw => ?_)
  refine go_iload C dX12_estimateOfPlan_83 5 rfl ?_
  refine go_iaload C dX12_estimateOfPlan_85 hw (fun v26 hw => ?_)
  refine go_aload_n C dX12_estimateOfPlan_86 0 rfl ?_
  refine go_getA C (cfX12) (k := 39) (Nat.le_of_ble_eq_true rfl) tw7_122 rfl dX12_estimateOfPlan_87 hw (fun a27 hw => ?_)
  refine go_iload C dX12_estimateOfPlan_90 4 rfl ?_
  refine go_iaload C dX12_estimateOfPlan_92 hw (fun v28 hw => ?_)
  refine jn_elim (P := fun j => ∀ (v29 : Int64), j v29 → Go G X rmX12_estimateOfPlan 8 0 0 (QN G X (QL G (fun r h1 => h1 = h0 ∧ K r)) rmX12_estimateOfPlan) h0 115 [(0, rV (some a0)), (1, iV p1), (2, lV (y1 + (y2 * v6))), (6, iV x3), (7, iV x14)] [lV v29]) hw (fun v29 hw => ?_) (fun j115 hj115 hw => ?_)
  · refine go_lstore C [(4, lV v29), (0, rV (some a0)), (1, iV p1), (2, lV (y1 + (y2 * v6))), (6, iV x3), (7, iV x14)] dX12_estimateOfPlan_115 (Nat.le_of_ble_eq_true rfl) rfl ?_
    refine go_iinc C (x14 + 1) [(7, iV (x14 + 1)), (4, lV v29), (0, rV (some a0)), (1, iV p1), (2, lV (y1 + (y2 * v6))), (6, iV x3)] dX12_estimateOfPlan_117 5 rfl (by rw [kc_i1]) (Nat.le_of_ble_eq_true rfl) rfl ?_
    refine go_goto C 64 dX12_estimateOfPlan_120 (by decide) ?_
    refine go_sub [2, 3, 4, 1, 5, 0] rfl ?_
    exact hj64 v29 (x14 + 1) hw
  refine go_icmp_ne C 113 dX12_estimateOfPlan_93 (by decide) hw (fun hw => ?_) (fun hw => ?_)
  · refine go_lload C dX12_estimateOfPlan_113 3 rfl ?_
    refine go_sub [0, 1, 2, 4, 5] rfl ?_
    exact hj115 y13 hw
  refine go_lload C dX12_estimateOfPlan_96 3 rfl ?_
  refine go_aload_n C dX12_estimateOfPlan_98 0 rfl ?_
  refine go_iload_n C dX12_estimateOfPlan_99 1 rfl ?_
  refine go_iload C dX12_estimateOfPlan_100 5 rfl ?_
  refine go_pV_l C [iV p1, iV x14] vX12_share tw9_14 (ci := 12) rfl (m_X12_share (xl X) C.2.2.2.2.2.2.2.1 N hw.2) ⟨Nat.le_of_ble_eq_true rfl, Nat.le_of_ble_eq_true rfl, Nat.le_of_ble_eq_true rfl, Nat.le_of_ble_eq_true rfl⟩ ⟨rfl, rfl⟩ hw.1 dX12_estimateOfPlan_102 rfl (Nat.le_of_ble_eq_true rfl) rfl (fun v30 hw => ?_)
  refine go_lmul C dX12_estimateOfPlan_105 ?_
  refine go_ldc2 C 1000 dX12_estimateOfPlan_106 tw9_18 ?_
  refine go_ldiv C dX12_estimateOfPlan_109 ⟨by decide, hw⟩ (fun hw => ?_)
  refine go_goto C 115 dX12_estimateOfPlan_110 (by decide) ?_
  refine go_sub [0, 1, 2, 4, 5] rfl ?_
  exact hj115 ((y13 * v30) / 1000) hw
/-- DuelSchemaModel.digit(III)I -/
def w_X12_digit (N : Nat) (p0 : Int32) (p1 : Int32) (p2 : Int32) (h0 : Hp) (K : Int32 → Prop) : Prop :=
  fx2 (fun (w5 : Int32 → Int32 → Prop) (x1 : Int32) (x2 : Int32) =>
    br (2 ≤ x2) (
      dz (p2 : Int32) (
      K (x1 - x1 / p2 * p2))) (
      dz (p2 : Int32) (
      w5 (x1 / p2) (x2 + 1)))) N p0 p1
abbrev rmX12_digit : Room := { frames := 2, cells := 0, slots := 0, locals := 60 }
theorem vX12_digit : SI yX12_digit cX12_digit 5 (some .int) 3 := ⟨tw9_0, tw1_8, tw9_1, by decide +kernel⟩
set_option maxHeartbeats 4000000 in
theorem m_X12_digit {G : Gp} (l : Launch) (hfl : l.stackTraces = false) (N : Nat) {p0 : Int32} {p1 : Int32} {p2 : Int32} {h0 : Hp} {K : Int32 → Prop} (hw : w_X12_digit N p0 p1 p2 h0 K) : MT G l yX12_digit cX12_digit 5 (some .int) rmX12_digit [iV p0, iV p1, iV p2] h0 (QI G (fun r h1 => h1 = h0 ∧ K r)) := by
  refine go_metT l hfl _ 5 _ _ rfl (by decide +kernel) (Nat.le_of_ble_eq_true rfl) [(0, iV p0), (1, iV p1), (2, iV p2)] rfl (fun X hX C hn => ?_)
  subst hX
  unfold w_X12_digit at hw
  refine go_iload_n C dX12_digit_0 0 rfl ?_
  refine go_istore_n C [(3, iV p0), (0, iV p0), (1, iV p1), (2, iV p2)] dX12_digit_1 (Nat.le_of_ble_eq_true rfl) rfl ?_
  refine go_iload_n C dX12_digit_2 2 rfl ?_
  refine go_istore C [(4, iV p1), (3, iV p0), (0, iV p0), (1, iV p1), (2, iV p2)] dX12_digit_3 (Nat.le_of_ble_eq_true rfl) rfl ?_
  refine go_sub [4, 1, 0] rfl ?_
  refine fx2_elim (P := fun x1 x2 => Go G X rmX12_digit 5 0 0 (QN G X (QI G (fun r h1 => h1 = h0 ∧ K r)) rmX12_digit) h0 5 [(2, iV p2), (3, iV x1), (4, iV x2)] []) (fun w5 hj5 x1 x2 hw => ?_) N _ _ hw
  refine go_iload C dX12_digit_5 2 rfl ?_
  refine go_iconst C 2 dX12_digit_7 kc_i2 ?_
  refine go_icmp_ge C 21 dX12_digit_8 (by decide) hw (fun hw => ?_) (fun hw => ?_)
  · refine go_iload_n C dX12_digit_21 1 rfl ?_
    refine go_iload_n C dX12_digit_22 0 rfl ?_
    refine go_irem C dX12_digit_23 hw (fun hw => ?_)
    exact go_iret C dX12_digit_24 ⟨rfl, hw⟩ (Nat.le_of_ble_eq_true rfl) (Nat.le_of_ble_eq_true rfl)
  refine go_iload_n C dX12_digit_11 1 rfl ?_
  refine go_iload_n C dX12_digit_12 0 rfl ?_
  refine go_idiv C dX12_digit_13 hw (fun hw => ?_)
  refine go_istore_n C [(3, iV (x1 / p2)), (2, iV p2), (4, iV x2)] dX12_digit_14 (Nat.le_of_ble_eq_true rfl) rfl ?_
  refine go_iinc C (x2 + 1) [(4, iV (x2 + 1)), (3, iV (x1 / p2)), (2, iV p2)] dX12_digit_15 2 rfl (by rw [kc_i1]) (Nat.le_of_ble_eq_true rfl) rfl ?_
  refine go_goto C 5 dX12_digit_18 (by decide) ?_
  refine go_sub [2, 1, 0] rfl ?_
  exact hj5 (x1 / p2) (x2 + 1) hw
/-- DuelSchemaModel.laysOrder(II)Z -/
def w_X12_laysOrder (N : Nat) (a0 : Nat) (p1 : Int32) (p2 : Int32) (h0 : Hp) (K : Int32 → Hp → Prop) : Prop :=
  fx4 (fun (w8 : Int32 → Int32 → Int32 → Hp → Prop) (x2 : Int32) (x3 : Int32) (x4 : Int32) (h1 : Hp) =>
    br (3 ≤ x4) (
      br (x3 = 0) (
        K 0 h1) (
        gA h1 a0 12 25 fun a5 =>
        aI h1 a5 0 p1 fun v6 =>
        br (x2 = ((1 <<< (v6 &&& 31)) - 1)) (
          K 1 h1) (
          K 0 h1))) (
      w_X12_digit N p2 x4 3 h1 fun v7 =>
      gA h1 a0 12 25 fun a8 =>
      aI h1 a8 0 p1 fun v9 =>
      jn (fun (x11 : Int32) (x12 : Int32) (h10 : Hp) => 
        w8 x11 x12 (x4 + 1) h10) (fun j70 =>
      br (v9 ≤ x4) (
        jn (fun (v13 : Int32) => 
          j70 x2 v13 h1) (fun j68 =>
        jn (
          j68 0) (fun j67 =>
        br (x3 = 0) (
          j67 ) (
          br (v7 = 0) (
            j68 1) (
            j67 ))))) (
        gA h1 a0 12 39 fun a14 =>
        sI h1 a14 0 x4 v7 fun h15 =>
        j70 (x2 ||| (1 <<< (v7 &&& 31))) x3 h15)))) N 0 1 0 h0
abbrev rmX12_laysOrder : Room := { frames := 3, cells := 0, slots := 0, locals := 84 }
theorem vX12_laysOrder : VI RX12 yX12_laysOrder cX12_laysOrder 7 (some .boolean) 2 := ⟨tw8_237, tp72, tw1_8, tw8_238, by decide +kernel⟩
set_option maxHeartbeats 4000000 in
theorem m_X12_laysOrder {G : Gp} (l : Launch) (hfl : l.stackTraces = false) (N : Nat) {a0 : Nat} {p1 : Int32} {p2 : Int32} {h0 : Hp} {K : Int32 → Hp → Prop} (hw : w_X12_laysOrder N a0 p1 p2 h0 K) : MT G l yX12_laysOrder cX12_laysOrder 7 (some .boolean) rmX12_laysOrder [rV (some a0), iV p1, iV p2] h0 (QI G K) := by
  refine go_metT l hfl _ 7 _ _ rfl (by decide +kernel) (Nat.le_of_ble_eq_true rfl) [(0, rV (some a0)), (1, iV p1), (2, iV p2)] rfl (fun X hX C hn => ?_)
  subst hX
  unfold w_X12_laysOrder at hw
  refine go_iconst C 0 dX12_laysOrder_0 kc_i0 ?_
  refine go_istore_n C [(3, iV 0), (0, rV (some a0)), (1, iV p1), (2, iV p2)] dX12_laysOrder_1 (Nat.le_of_ble_eq_true rfl) rfl ?_
  refine go_iconst C 1 dX12_laysOrder_2 kc_i1 ?_
  refine go_istore C [(4, iV 1), (3, iV 0), (0, rV (some a0)), (1, iV p1), (2, iV p2)] dX12_laysOrder_3 (Nat.le_of_ble_eq_true rfl) rfl ?_
  refine go_iconst C 0 dX12_laysOrder_5 kc_i0 ?_
  refine go_istore C [(5, iV 0), (4, iV 1), (3, iV 0), (0, rV (some a0)), (1, iV p1), (2, iV p2)] dX12_laysOrder_6 (Nat.le_of_ble_eq_true rfl) rfl ?_
  refine go_sub [3, 4, 5, 2, 1, 0] rfl ?_
  refine fx4_elim (P := fun x2 x3 x4 h1 => Go G X rmX12_laysOrder 7 0 0 (QN G X (QI G K) rmX12_laysOrder) h1 8 [(0, rV (some a0)), (1, iV p1), (2, iV p2), (3, iV x2), (4, iV x3), (5, iV x4)] []) (fun w8 hj8 x2 x3 x4 h1 hw => ?_) N _ _ _ _ hw
  refine go_iload C dX12_laysOrder_8 5 rfl ?_
  refine go_iconst C 3 dX12_laysOrder_10 kc_i3 ?_
  refine go_icmp_ge C 76 dX12_laysOrder_11 (by decide) hw (fun hw => ?_) (fun hw => ?_)
  · refine go_iload C dX12_laysOrder_76 4 rfl ?_
    refine go_if_eq C 99 dX12_laysOrder_78 (by decide) hw (fun hw => ?_) (fun hw => ?_)
    · refine go_iconst C 0 dX12_laysOrder_99 kc_i0 ?_
      exact go_zret C dX12_laysOrder_100 ⟨rfl, hw⟩ (Nat.le_of_ble_eq_true rfl) (Nat.le_of_ble_eq_true rfl)
    refine go_iload_n C dX12_laysOrder_81 3 rfl ?_
    refine go_iconst C 1 dX12_laysOrder_82 kc_i1 ?_
    refine go_aload_n C dX12_laysOrder_83 0 rfl ?_
    refine go_getA C (cfX12) (k := 25) (Nat.le_of_ble_eq_true rfl) tw7_108 rfl dX12_laysOrder_84 hw (fun a5 hw => ?_)
    refine go_iload_n C dX12_laysOrder_87 1 rfl ?_
    refine go_iaload C dX12_laysOrder_88 hw (fun v6 hw => ?_)
    refine go_ishl C dX12_laysOrder_89 ?_
    refine go_iconst C 1 dX12_laysOrder_90 kc_i1 ?_
    refine go_isub C dX12_laysOrder_91 ?_
    refine go_icmp_ne C 99 dX12_laysOrder_92 (by decide) hw (fun hw => ?_) (fun hw => ?_)
    · refine go_iconst C 0 dX12_laysOrder_99 kc_i0 ?_
      exact go_zret C dX12_laysOrder_100 ⟨rfl, hw⟩ (Nat.le_of_ble_eq_true rfl) (Nat.le_of_ble_eq_true rfl)
    refine go_iconst C 1 dX12_laysOrder_95 kc_i1 ?_
    refine go_goto C 100 dX12_laysOrder_96 (by decide) ?_
    exact go_zret C dX12_laysOrder_100 ⟨rfl, hw⟩ (Nat.le_of_ble_eq_true rfl) (Nat.le_of_ble_eq_true rfl)
  refine go_iload_n C dX12_laysOrder_14 2 rfl ?_
  refine go_iload C dX12_laysOrder_15 5 rfl ?_
  refine go_iconst C 3 dX12_laysOrder_17 kc_i3 ?_
  refine go_pS_i C [iV p2, iV x4, iV 3] vX12_digit tw8_239 (m_X12_digit (xl X) C.2.2.2.2.2.2.2.1 N hw) ⟨Nat.le_of_ble_eq_true rfl, Nat.le_of_ble_eq_true rfl, Nat.le_of_ble_eq_true rfl, Nat.le_of_ble_eq_true rfl⟩ ⟨rfl, rfl⟩ dX12_laysOrder_18 rfl (Nat.le_of_ble_eq_true rfl) rfl (fun v7 hw => ?_)
  refine go_istore C [(6, iV v7), (0, rV (some a0)), (1, iV p1), (2, iV p2), (3, iV x2), (4, iV x3), (5, iV x4)] dX12_laysOrder_21 (Nat.le_of_ble_eq_true rfl) rfl ?_
  refine go_iload C dX12_laysOrder_23 6 rfl ?_
  refine go_aload_n C dX12_laysOrder_25 1 rfl ?_
  refine go_getA C (cfX12) (k := 25) (Nat.le_of_ble_eq_true rfl) tw7_108 rfl dX12_laysOrder_26 hw (fun a8 hw => ?_)
  refine go_iload_n C dX12_laysOrder_29 2 rfl ?_
  refine go_iaload C dX12_laysOrder_30 hw (fun v9 hw => ?_)
  refine jn_elim (P := fun j => ∀ (x11 : Int32) (x12 : Int32) (h10 : Hp), j x11 x12 h10 → Go G X rmX12_laysOrder 7 0 0 (QN G X (QI G K) rmX12_laysOrder) h10 70 [(0, rV (some a0)), (1, iV p1), (2, iV p2), (3, iV x11), (4, iV x12), (5, iV x4)] []) hw (fun x11 x12 h10 hw => ?_) (fun j70 hj70 hw => ?_)
  · refine go_iinc C (x4 + 1) [(5, iV (x4 + 1)), (0, rV (some a0)), (1, iV p1), (2, iV p2), (3, iV x11), (4, iV x12)] dX12_laysOrder_70 5 rfl (by rw [kc_i1]) (Nat.le_of_ble_eq_true rfl) rfl ?_
    refine go_goto C 8 dX12_laysOrder_73 (by decide) ?_
    refine go_sub [1, 2, 3, 4, 5, 0] rfl ?_
    exact hj8 x11 x12 (x4 + 1) h10 hw
  refine go_icmp_ge C 53 dX12_laysOrder_31 (by decide) hw (fun hw => ?_) (fun hw => ?_)
  · refine go_iload C dX12_laysOrder_53 5 rfl ?_
    refine jn_elim (P := fun j => ∀ (v13 : Int32), j v13 → Go G X rmX12_laysOrder 7 0 0 (QN G X (QI G K) rmX12_laysOrder) h1 68 [(0, rV (some a0)), (1, iV p1), (2, iV p2), (3, iV x2), (5, iV x4)] [iV v13]) hw (fun v13 hw => ?_) (fun j68 hj68 hw => ?_)
    · refine go_istore C [(4, iV v13), (0, rV (some a0)), (1, iV p1), (2, iV p2), (3, iV x2), (5, iV x4)] dX12_laysOrder_68 (Nat.le_of_ble_eq_true rfl) rfl ?_
      refine go_sub [1, 2, 3, 4, 0, 5] rfl ?_
      exact hj70 x2 v13 h1 hw
    refine jn_elim (P := fun j => j  → Go G X rmX12_laysOrder 7 0 0 (QN G X (QI G K) rmX12_laysOrder) h1 67 [(0, rV (some a0)), (1, iV p1), (2, iV p2), (3, iV x2), (5, iV x4)] []) hw (fun  hw => ?_) (fun j67 hj67 hw => ?_)
    · refine go_iconst C 0 dX12_laysOrder_67 kc_i0 ?_
      exact hj68 0 hw
    refine go_if_eq C 67 dX12_laysOrder_55 (by decide) hw (fun hw => ?_) (fun hw => ?_)
    · refine go_sub [1, 2, 3, 4, 6] rfl ?_
      exact hj67  hw
    refine go_iload C dX12_laysOrder_58 0 rfl ?_
    refine go_if_ne C 67 dX12_laysOrder_60 (by decide) hw (fun hw => ?_) (fun hw => ?_)
    · refine go_sub [1, 2, 3, 4, 6] rfl ?_
      exact hj67  hw
    refine go_iconst C 1 dX12_laysOrder_63 kc_i1 ?_
    refine go_goto C 68 dX12_laysOrder_64 (by decide) ?_
    refine go_sub [1, 2, 3, 4, 6] rfl ?_
    exact hj68 1 hw
  refine go_aload_n C dX12_laysOrder_34 1 rfl ?_
  refine go_getA C (cfX12) (k := 39) (Nat.le_of_ble_eq_true rfl) tw7_122 rfl dX12_laysOrder_35 hw (fun a14 hw => ?_)
  refine go_iload C dX12_laysOrder_38 6 rfl ?_
  refine go_iload C dX12_laysOrder_40 0 rfl ?_
  refine go_iastore C dX12_laysOrder_42 hw (fun h15 hw => ?_)
  refine go_iload_n C dX12_laysOrder_43 4 rfl ?_
  refine go_iconst C 1 dX12_laysOrder_44 kc_i1 ?_
  refine go_iload C dX12_laysOrder_45 0 rfl ?_
  refine go_ishl C dX12_laysOrder_47 ?_
  refine go_ior C dX12_laysOrder_48 ?_
  refine go_istore_n C [(3, iV (x2 ||| (1 <<< (v7 &&& 31)))), (6, iV v7), (0, rV (some a0)), (1, iV p1), (2, iV p2), (4, iV x3), (5, iV x4)] dX12_laysOrder_49 (Nat.le_of_ble_eq_true rfl) rfl ?_
  refine go_goto C 70 dX12_laysOrder_50 (by decide) ?_
  refine go_sub [2, 3, 4, 0, 5, 6] rfl ?_
  exact hj70 (x2 ||| (1 <<< (v7 &&& 31))) x3 h15 hw
/-- DuelSchemaModel.laysWays(II)Z -/
def w_X12_laysWays (N : Nat) (a0 : Nat) (p1 : Int32) (p2 : Int32) (h0 : Hp) (K : Int32 → Hp → Prop) : Prop :=
  fx3 (fun (w5 : Int32 → Int32 → Hp → Prop) (x2 : Int32) (x3 : Int32) (h1 : Hp) =>
    br (3 ≤ x3) (
      ok (narrow .boolean (.int x2) = .int x2) <| K x2 h1) (
      w_X12_digit N p2 x3 8 h1 fun v4 =>
      gA h1 a0 12 25 fun a5 =>
      aI h1 a5 0 p1 fun v6 =>
      jn (fun (x8 : Int32) (h7 : Hp) => 
        w5 x8 (x3 + 1) h7) (fun j96 =>
      br (x3 < v6) (
        br (x2 = 0) (
          j96 x2 h1) (
          cv h1 a0 12 <| w_X12_indexOf N a0 p1 x3 v4 h1 fun v9 =>
          gA h1 a0 12 40 fun a10 =>
          sI h1 a10 0 x3 v4 fun h11 =>
          gA h11 a0 12 41 fun a12 =>
          sI h11 a12 0 x3 v9 fun h13 =>
          jn (fun (v14 : Int32) => 
            j96 v14 h13) (fun j95 =>
          br (v9 ≤ (-2)) (
            j95 0) (
            j95 1)))) (
        jn (fun (v15 : Int32) => 
          j96 v15 h1) (fun j46 =>
        jn (
          j46 0) (fun j45 =>
        br (x2 = 0) (
          j45 ) (
          br (v4 = 0) (
            j46 1) (
            j45 )))))))) N 1 0 h0
abbrev rmX12_laysWays : Room := { frames := 5, cells := 0, slots := 0, locals := 133 }
theorem vX12_laysWays : VI RX12 yX12_laysWays cX12_laysWays 7 (some .boolean) 2 := ⟨tw9_4, tp73, tw1_8, tw9_5, by decide +kernel⟩
set_option maxHeartbeats 4000000 in
theorem m_X12_laysWays {G : Gp} (l : Launch) (hfl : l.stackTraces = false) (N : Nat) {a0 : Nat} {p1 : Int32} {p2 : Int32} {h0 : Hp} {K : Int32 → Hp → Prop} (hw : w_X12_laysWays N a0 p1 p2 h0 K) : MT G l yX12_laysWays cX12_laysWays 7 (some .boolean) rmX12_laysWays [rV (some a0), iV p1, iV p2] h0 (QI G K) := by
  refine go_metT l hfl _ 7 _ _ rfl (by decide +kernel) (Nat.le_of_ble_eq_true rfl) [(0, rV (some a0)), (1, iV p1), (2, iV p2)] rfl (fun X hX C hn => ?_)
  subst hX
  unfold w_X12_laysWays at hw
  refine go_iconst C 1 dX12_laysWays_0 kc_i1 ?_
  refine go_istore_n C [(3, iV 1), (0, rV (some a0)), (1, iV p1), (2, iV p2)] dX12_laysWays_1 (Nat.le_of_ble_eq_true rfl) rfl ?_
  refine go_iconst C 0 dX12_laysWays_2 kc_i0 ?_
  refine go_istore C [(4, iV 0), (3, iV 1), (0, rV (some a0)), (1, iV p1), (2, iV p2)] dX12_laysWays_3 (Nat.le_of_ble_eq_true rfl) rfl ?_
  refine go_sub [2, 3, 4, 1, 0] rfl ?_
  refine fx3_elim (P := fun x2 x3 h1 => Go G X rmX12_laysWays 7 0 0 (QN G X (QI G K) rmX12_laysWays) h1 5 [(0, rV (some a0)), (1, iV p1), (2, iV p2), (3, iV x2), (4, iV x3)] []) (fun w5 hj5 x2 x3 h1 hw => ?_) N _ _ _ hw
  refine go_iload C dX12_laysWays_5 4 rfl ?_
  refine go_iconst C 3 dX12_laysWays_7 kc_i3 ?_
  refine go_icmp_ge C 102 dX12_laysWays_8 (by decide) hw (fun hw => ?_) (fun hw => ?_)
  · refine go_iload_n C dX12_laysWays_102 3 rfl ?_
    exact go_zret C dX12_laysWays_103 ⟨hw.1, hw.2⟩ (Nat.le_of_ble_eq_true rfl) (Nat.le_of_ble_eq_true rfl)
  refine go_iload_n C dX12_laysWays_11 2 rfl ?_
  refine go_iload C dX12_laysWays_12 4 rfl ?_
  refine go_bipush C 8 dX12_laysWays_14 kc_b8 ?_
  refine go_pS_i C [iV p2, iV x3, iV 8] vX12_digit tw8_239 (m_X12_digit (xl X) C.2.2.2.2.2.2.2.1 N hw) ⟨Nat.le_of_ble_eq_true rfl, Nat.le_of_ble_eq_true rfl, Nat.le_of_ble_eq_true rfl, Nat.le_of_ble_eq_true rfl⟩ ⟨rfl, rfl⟩ dX12_laysWays_16 rfl (Nat.le_of_ble_eq_true rfl) rfl (fun v4 hw => ?_)
  refine go_istore C [(5, iV v4), (0, rV (some a0)), (1, iV p1), (2, iV p2), (3, iV x2), (4, iV x3)] dX12_laysWays_19 (Nat.le_of_ble_eq_true rfl) rfl ?_
  refine go_iload C dX12_laysWays_21 5 rfl ?_
  refine go_aload_n C dX12_laysWays_23 1 rfl ?_
  refine go_getA C (cfX12) (k := 25) (Nat.le_of_ble_eq_true rfl) tw7_108 rfl dX12_laysWays_24 hw (fun a5 hw => ?_)
  refine go_iload_n C dX12_laysWays_27 2 rfl ?_
  refine go_iaload C dX12_laysWays_28 hw (fun v6 hw => ?_)
  refine jn_elim (P := fun j => ∀ (x8 : Int32) (h7 : Hp), j x8 h7 → Go G X rmX12_laysWays 7 0 0 (QN G X (QI G K) rmX12_laysWays) h7 96 [(0, rV (some a0)), (1, iV p1), (2, iV p2), (3, iV x8), (4, iV x3)] []) hw (fun x8 h7 hw => ?_) (fun j96 hj96 hw => ?_)
  · refine go_iinc C (x3 + 1) [(4, iV (x3 + 1)), (0, rV (some a0)), (1, iV p1), (2, iV p2), (3, iV x8)] dX12_laysWays_96 4 rfl (by rw [kc_i1]) (Nat.le_of_ble_eq_true rfl) rfl ?_
    refine go_goto C 5 dX12_laysWays_99 (by decide) ?_
    refine go_sub [1, 2, 3, 4, 0] rfl ?_
    exact hj5 x8 (x3 + 1) h7 hw
  refine go_icmp_lt C 50 dX12_laysWays_29 (by decide) hw (fun hw => ?_) (fun hw => ?_)
  · refine go_iload_n C dX12_laysWays_50 4 rfl ?_
    refine go_if_eq C 96 dX12_laysWays_51 (by decide) hw (fun hw => ?_) (fun hw => ?_)
    · refine go_sub [1, 2, 3, 4, 5] rfl ?_
      exact hj96 x2 h1 hw
    refine go_aload_n C dX12_laysWays_54 1 rfl ?_
    refine go_iload_n C dX12_laysWays_55 2 rfl ?_
    refine go_iload C dX12_laysWays_56 5 rfl ?_
    refine go_iload C dX12_laysWays_58 0 rfl ?_
    refine go_pV_i C [iV p1, iV x3, iV v4] vX12_indexOf tw8_210 (ci := 12) rfl (m_X12_indexOf (xl X) C.2.2.2.2.2.2.2.1 N hw.2) ⟨Nat.le_of_ble_eq_true rfl, Nat.le_of_ble_eq_true rfl, Nat.le_of_ble_eq_true rfl, Nat.le_of_ble_eq_true rfl⟩ ⟨rfl, rfl⟩ hw.1 dX12_laysWays_60 rfl (Nat.le_of_ble_eq_true rfl) rfl (fun v9 hw => ?_)
    refine go_istore C [(6, iV v9), (5, iV v4), (0, rV (some a0)), (1, iV p1), (2, iV p2), (3, iV x2), (4, iV x3)] dX12_laysWays_63 (Nat.le_of_ble_eq_true rfl) rfl ?_
    refine go_aload_n C dX12_laysWays_65 2 rfl ?_
    refine go_getA C (cfX12) (k := 40) (Nat.le_of_ble_eq_true rfl) tw7_123 rfl dX12_laysWays_66 hw (fun a10 hw => ?_)
    refine go_iload C dX12_laysWays_69 6 rfl ?_
    refine go_iload C dX12_laysWays_71 1 rfl ?_
    refine go_iastore C dX12_laysWays_73 hw (fun h11 hw => ?_)
    refine go_aload_n C dX12_laysWays_74 2 rfl ?_
    refine go_getA C (cfX12) (k := 41) (Nat.le_of_ble_eq_true rfl) tw7_124 rfl dX12_laysWays_75 hw (fun a12 hw => ?_)
    refine go_iload C dX12_laysWays_78 6 rfl ?_
    refine go_iload C dX12_laysWays_80 0 rfl ?_
    refine go_iastore C dX12_laysWays_82 hw (fun h13 hw => ?_)
    refine go_iload C dX12_laysWays_83 0 rfl ?_
    refine go_bipush C (-2) dX12_laysWays_85 kc_bm2 ?_
    refine jn_elim (P := fun j => ∀ (v14 : Int32), j v14 → Go G X rmX12_laysWays 7 0 0 (QN G X (QI G K) rmX12_laysWays) h13 95 [(0, rV (some a0)), (1, iV p1), (2, iV p2), (4, iV x3)] [iV v14]) hw (fun v14 hw => ?_) (fun j95 hj95 hw => ?_)
    · refine go_istore_n C [(3, iV v14), (0, rV (some a0)), (1, iV p1), (2, iV p2), (4, iV x3)] dX12_laysWays_95 (Nat.le_of_ble_eq_true rfl) rfl ?_
      refine go_sub [1, 2, 3, 0, 4] rfl ?_
      exact hj96 v14 h13 hw
    refine go_icmp_le C 94 dX12_laysWays_87 (by decide) hw (fun hw => ?_) (fun hw => ?_)
    · refine go_iconst C 0 dX12_laysWays_94 kc_i0 ?_
      refine go_sub [2, 3, 4, 6] rfl ?_
      exact hj95 0 hw
    refine go_iconst C 1 dX12_laysWays_90 kc_i1 ?_
    refine go_goto C 95 dX12_laysWays_91 (by decide) ?_
    refine go_sub [2, 3, 4, 6] rfl ?_
    exact hj95 1 hw
  refine go_iload_n C dX12_laysWays_32 4 rfl ?_
  refine jn_elim (P := fun j => ∀ (v15 : Int32), j v15 → Go G X rmX12_laysWays 7 0 0 (QN G X (QI G K) rmX12_laysWays) h1 46 [(0, rV (some a0)), (1, iV p1), (2, iV p2), (4, iV x3)] [iV v15]) hw (fun v15 hw => ?_) (fun j46 hj46 hw => ?_)
  · refine go_istore_n C [(3, iV v15), (0, rV (some a0)), (1, iV p1), (2, iV p2), (4, iV x3)] dX12_laysWays_46 (Nat.le_of_ble_eq_true rfl) rfl ?_
    refine go_goto C 96 dX12_laysWays_47 (by decide) ?_
    refine go_sub [1, 2, 3, 0, 4] rfl ?_
    exact hj96 v15 h1 hw
  refine jn_elim (P := fun j => j  → Go G X rmX12_laysWays 7 0 0 (QN G X (QI G K) rmX12_laysWays) h1 45 [(0, rV (some a0)), (1, iV p1), (2, iV p2), (4, iV x3)] []) hw (fun  hw => ?_) (fun j45 hj45 hw => ?_)
  · refine go_iconst C 0 dX12_laysWays_45 kc_i0 ?_
    exact hj46 0 hw
  refine go_if_eq C 45 dX12_laysWays_33 (by decide) hw (fun hw => ?_) (fun hw => ?_)
  · refine go_sub [1, 2, 3, 5] rfl ?_
    exact hj45  hw
  refine go_iload C dX12_laysWays_36 0 rfl ?_
  refine go_if_ne C 45 dX12_laysWays_38 (by decide) hw (fun hw => ?_) (fun hw => ?_)
  · refine go_sub [1, 2, 3, 5] rfl ?_
    exact hj45  hw
  refine go_iconst C 1 dX12_laysWays_41 kc_i1 ?_
  refine go_goto C 46 dX12_laysWays_42 (by decide) ?_
  refine go_sub [1, 2, 3, 5] rfl ?_
  exact hj46 1 hw
/-- DuelSchemaModel.keepsPlan()V -/
def w_X12_keepsPlan (N : Nat) (a0 : Nat) (h0 : Hp) (K : Hp → Prop) : Prop :=
  fx2 (fun (w2 : Int32 → Hp → Prop) (x2 : Int32) (h1 : Hp) =>
    br (3 ≤ x2) (
      K h1) (
      gA h1 a0 12 42 fun a3 =>
      gA h1 a0 12 39 fun a4 =>
      aI h1 a4 0 x2 fun v5 =>
      sI h1 a3 0 x2 v5 fun h6 =>
      gA h6 a0 12 43 fun a7 =>
      gA h6 a0 12 40 fun a8 =>
      aI h6 a8 0 x2 fun v9 =>
      sI h6 a7 0 x2 v9 fun h10 =>
      gA h10 a0 12 44 fun a11 =>
      gA h10 a0 12 41 fun a12 =>
      aI h10 a12 0 x2 fun v13 =>
      sI h10 a11 0 x2 v13 fun h14 =>
      w2 (x2 + 1) h14)) N 0 h0
abbrev rmX12_keepsPlan : Room := { frames := 2, cells := 0, slots := 0, locals := 60 }
theorem vX12_keepsPlan : VI RX12 yX12_keepsPlan cX12_keepsPlan 2 none 0 := ⟨tw9_28, tp78, tw1_8, tw9_29, by decide +kernel⟩
set_option maxHeartbeats 4000000 in
theorem m_X12_keepsPlan {G : Gp} (l : Launch) (hfl : l.stackTraces = false) (N : Nat) {a0 : Nat} {h0 : Hp} {K : Hp → Prop} (hw : w_X12_keepsPlan N a0 h0 K) : MT G l yX12_keepsPlan cX12_keepsPlan 2 none rmX12_keepsPlan [rV (some a0)] h0 (QV G K) := by
  refine go_metT l hfl _ 2 _ _ rfl (by decide +kernel) (Nat.le_of_ble_eq_true rfl) [(0, rV (some a0))] rfl (fun X hX C hn => ?_)
  subst hX
  unfold w_X12_keepsPlan at hw
  refine go_iconst C 0 dX12_keepsPlan_0 kc_i0 ?_
  refine go_istore_n C [(1, iV 0), (0, rV (some a0))] dX12_keepsPlan_1 (Nat.le_of_ble_eq_true rfl) rfl ?_
  refine go_sub [1, 0] rfl ?_
  refine fx2_elim (P := fun x2 h1 => Go G X rmX12_keepsPlan 2 0 0 (QN G X (QV G K) rmX12_keepsPlan) h1 2 [(0, rV (some a0)), (1, iV x2)] []) (fun w2 hj2 x2 h1 hw => ?_) N _ _ hw
  refine go_iload_n C dX12_keepsPlan_2 1 rfl ?_
  refine go_iconst C 3 dX12_keepsPlan_3 kc_i3 ?_
  refine go_icmp_ge C 49 dX12_keepsPlan_4 (by decide) hw (fun hw => ?_) (fun hw => ?_)
  · exact go_vret C dX12_keepsPlan_49 hw (Nat.le_of_ble_eq_true rfl) (Nat.le_of_ble_eq_true rfl)
  refine go_aload_n C dX12_keepsPlan_7 0 rfl ?_
  refine go_getA C (cfX12) (k := 42) (Nat.le_of_ble_eq_true rfl) tw7_125 rfl dX12_keepsPlan_8 hw (fun a3 hw => ?_)
  refine go_iload_n C dX12_keepsPlan_11 1 rfl ?_
  refine go_aload_n C dX12_keepsPlan_12 0 rfl ?_
  refine go_getA C (cfX12) (k := 39) (Nat.le_of_ble_eq_true rfl) tw7_122 rfl dX12_keepsPlan_13 hw (fun a4 hw => ?_)
  refine go_iload_n C dX12_keepsPlan_16 1 rfl ?_
  refine go_iaload C dX12_keepsPlan_17 hw (fun v5 hw => ?_)
  refine go_iastore C dX12_keepsPlan_18 hw (fun h6 hw => ?_)
  refine go_aload_n C dX12_keepsPlan_19 0 rfl ?_
  refine go_getA C (cfX12) (k := 43) (Nat.le_of_ble_eq_true rfl) tw7_126 rfl dX12_keepsPlan_20 hw (fun a7 hw => ?_)
  refine go_iload_n C dX12_keepsPlan_23 1 rfl ?_
  refine go_aload_n C dX12_keepsPlan_24 0 rfl ?_
  refine go_getA C (cfX12) (k := 40) (Nat.le_of_ble_eq_true rfl) tw7_123 rfl dX12_keepsPlan_25 hw (fun a8 hw => ?_)
  refine go_iload_n C dX12_keepsPlan_28 1 rfl ?_
  refine go_iaload C dX12_keepsPlan_29 hw (fun v9 hw => ?_)
  refine go_iastore C dX12_keepsPlan_30 hw (fun h10 hw => ?_)
  refine go_aload_n C dX12_keepsPlan_31 0 rfl ?_
  refine go_getA C (cfX12) (k := 44) (Nat.le_of_ble_eq_true rfl) tw7_127 rfl dX12_keepsPlan_32 hw (fun a11 hw => ?_)
  refine go_iload_n C dX12_keepsPlan_35 1 rfl ?_
  refine go_aload_n C dX12_keepsPlan_36 0 rfl ?_
  refine go_getA C (cfX12) (k := 41) (Nat.le_of_ble_eq_true rfl) tw7_124 rfl dX12_keepsPlan_37 hw (fun a12 hw => ?_)
  refine go_iload_n C dX12_keepsPlan_40 1 rfl ?_
  refine go_iaload C dX12_keepsPlan_41 hw (fun v13 hw => ?_)
  refine go_iastore C dX12_keepsPlan_42 hw (fun h14 hw => ?_)
  refine go_iinc C (x2 + 1) [(1, iV (x2 + 1)), (0, rV (some a0))] dX12_keepsPlan_43 1 rfl (by rw [kc_i1]) (Nat.le_of_ble_eq_true rfl) rfl ?_
  refine go_goto C 2 dX12_keepsPlan_46 (by decide) ?_
  refine go_sub [1, 0] rfl ?_
  exact hj2 (x2 + 1) h14 hw
/-- DuelSchemaModel.plansByCounts(I)V -/
def w_X12_plansByCounts (N : Nat) (a0 : Nat) (p1 : Int32) (h0 : Hp) (K : Hp → Prop) : Prop :=
  fx3 (fun (w7 : Int64 → Int32 → Hp → Prop) (y2 : Int64) (x3 : Int32) (h1 : Hp) =>
    br (27 ≤ x3) (
      fx2 (fun (w85 : Int32 → Hp → Prop) (x5 : Int32) (h4 : Hp) =>
        br (3 ≤ x5) (
          K h4) (
          gA h4 a0 12 39 fun a6 =>
          gA h4 a0 12 42 fun a7 =>
          aI h4 a7 0 x5 fun v8 =>
          sI h4 a6 0 x5 v8 fun h9 =>
          gA h9 a0 12 40 fun a10 =>
          gA h9 a0 12 43 fun a11 =>
          aI h9 a11 0 x5 fun v12 =>
          sI h9 a10 0 x5 v12 fun h13 =>
          gA h13 a0 12 41 fun a14 =>
          gA h13 a0 12 44 fun a15 =>
          aI h13 a15 0 x5 fun v16 =>
          sI h13 a14 0 x5 v16 fun h17 =>
          w85 (x5 + 1) h17)) N 0 h1) (
      cv h1 a0 12 <| w_X12_laysOrder N a0 p1 x3 h1 fun v18 h19 =>
      fx3 (fun (w26 : Int64 → Int32 → Hp → Prop) (y21 : Int64) (x22 : Int32) (h20 : Hp) =>
        jn (
          w7 y21 (x3 + 1) h20) (fun j76 =>
        br (512 ≤ x22) (
          j76 ) (
          br (v18 = 0) (
            j76 ) (
            cv h20 a0 12 <| w_X12_laysWays N a0 p1 x22 h20 fun v23 h24 =>
            jn (fun (y26 : Int64) (h25 : Hp) => 
              w26 y26 (x22 + 1) h25) (fun j70 =>
            br (v23 = 0) (
              j70 y21 h24) (
              cv h24 a0 12 <| w_X12_estimateOfPlan N a0 p1 h24 fun v27 =>
              br (0 ≤ (lg_cmp v27 y21)) (
                j70 y21 h24) (
                cv h24 a0 12 <| w_X12_keepsPlan N a0  h24 fun h28 =>
                j70 v27 h28))))))) N y2 0 h19)) N 9000000000000000000 0 h0
abbrev rmX12_plansByCounts : Room := { frames := 6, cells := 0, slots := 0, locals := 159 }
theorem vX12_plansByCounts : VI RX12 yX12_plansByCounts cX12_plansByCounts 9 none 1 := ⟨tw8_232, tp71, tw1_8, tw8_233, by decide +kernel⟩
set_option maxHeartbeats 4000000 in
theorem m_X12_plansByCounts {G : Gp} (l : Launch) (hfl : l.stackTraces = false) (N : Nat) {a0 : Nat} {p1 : Int32} {h0 : Hp} {K : Hp → Prop} (hw : w_X12_plansByCounts N a0 p1 h0 K) : MT G l yX12_plansByCounts cX12_plansByCounts 9 none rmX12_plansByCounts [rV (some a0), iV p1] h0 (QV G K) := by
  refine go_metT l hfl _ 9 _ _ rfl (by decide +kernel) (Nat.le_of_ble_eq_true rfl) [(0, rV (some a0)), (1, iV p1)] rfl (fun X hX C hn => ?_)
  subst hX
  unfold w_X12_plansByCounts at hw
  refine go_ldc2 C 9000000000000000000 dX12_plansByCounts_0 tw8_234 ?_
  refine go_lstore_n C [(2, lV 9000000000000000000), (0, rV (some a0)), (1, iV p1)] dX12_plansByCounts_3 (Nat.le_of_ble_eq_true rfl) rfl ?_
  refine go_iconst C 0 dX12_plansByCounts_4 kc_i0 ?_
  refine go_istore C [(4, iV 0), (2, lV 9000000000000000000), (0, rV (some a0)), (1, iV p1)] dX12_plansByCounts_5 (Nat.le_of_ble_eq_true rfl) rfl ?_
  refine go_sub [2, 3, 1, 0] rfl ?_
  refine fx3_elim (P := fun y2 x3 h1 => Go G X rmX12_plansByCounts 9 0 0 (QN G X (QV G K) rmX12_plansByCounts) h1 7 [(0, rV (some a0)), (1, iV p1), (2, lV y2), (4, iV x3)] []) (fun w7 hj7 y2 x3 h1 hw => ?_) N _ _ _ hw
  refine go_iload C dX12_plansByCounts_7 3 rfl ?_
  refine go_bipush C 27 dX12_plansByCounts_9 kc_b27 ?_
  refine go_icmp_ge C 82 dX12_plansByCounts_11 (by decide) hw (fun hw => ?_) (fun hw => ?_)
  · refine go_iconst C 0 dX12_plansByCounts_82 kc_i0 ?_
    refine go_istore C [(4, iV 0), (0, rV (some a0)), (1, iV p1), (2, lV y2)] dX12_plansByCounts_83 (Nat.le_of_ble_eq_true rfl) rfl ?_
    refine go_sub [1, 0] rfl ?_
    refine fx2_elim (P := fun x5 h4 => Go G X rmX12_plansByCounts 9 0 0 (QN G X (QV G K) rmX12_plansByCounts) h4 85 [(0, rV (some a0)), (4, iV x5)] []) (fun w85 hj85 x5 h4 hw => ?_) N _ _ hw
    refine go_iload C dX12_plansByCounts_85 1 rfl ?_
    refine go_iconst C 3 dX12_plansByCounts_87 kc_i3 ?_
    refine go_icmp_ge C 139 dX12_plansByCounts_88 (by decide) hw (fun hw => ?_) (fun hw => ?_)
    · exact go_vret C dX12_plansByCounts_139 hw (Nat.le_of_ble_eq_true rfl) (Nat.le_of_ble_eq_true rfl)
    refine go_aload_n C dX12_plansByCounts_91 0 rfl ?_
    refine go_getA C (cfX12) (k := 39) (Nat.le_of_ble_eq_true rfl) tw7_122 rfl dX12_plansByCounts_92 hw (fun a6 hw => ?_)
    refine go_iload C dX12_plansByCounts_95 1 rfl ?_
    refine go_aload_n C dX12_plansByCounts_97 0 rfl ?_
    refine go_getA C (cfX12) (k := 42) (Nat.le_of_ble_eq_true rfl) tw7_125 rfl dX12_plansByCounts_98 hw (fun a7 hw => ?_)
    refine go_iload C dX12_plansByCounts_101 1 rfl ?_
    refine go_iaload C dX12_plansByCounts_103 hw (fun v8 hw => ?_)
    refine go_iastore C dX12_plansByCounts_104 hw (fun h9 hw => ?_)
    refine go_aload_n C dX12_plansByCounts_105 0 rfl ?_
    refine go_getA C (cfX12) (k := 40) (Nat.le_of_ble_eq_true rfl) tw7_123 rfl dX12_plansByCounts_106 hw (fun a10 hw => ?_)
    refine go_iload C dX12_plansByCounts_109 1 rfl ?_
    refine go_aload_n C dX12_plansByCounts_111 0 rfl ?_
    refine go_getA C (cfX12) (k := 43) (Nat.le_of_ble_eq_true rfl) tw7_126 rfl dX12_plansByCounts_112 hw (fun a11 hw => ?_)
    refine go_iload C dX12_plansByCounts_115 1 rfl ?_
    refine go_iaload C dX12_plansByCounts_117 hw (fun v12 hw => ?_)
    refine go_iastore C dX12_plansByCounts_118 hw (fun h13 hw => ?_)
    refine go_aload_n C dX12_plansByCounts_119 0 rfl ?_
    refine go_getA C (cfX12) (k := 41) (Nat.le_of_ble_eq_true rfl) tw7_124 rfl dX12_plansByCounts_120 hw (fun a14 hw => ?_)
    refine go_iload C dX12_plansByCounts_123 1 rfl ?_
    refine go_aload_n C dX12_plansByCounts_125 0 rfl ?_
    refine go_getA C (cfX12) (k := 44) (Nat.le_of_ble_eq_true rfl) tw7_127 rfl dX12_plansByCounts_126 hw (fun a15 hw => ?_)
    refine go_iload C dX12_plansByCounts_129 1 rfl ?_
    refine go_iaload C dX12_plansByCounts_131 hw (fun v16 hw => ?_)
    refine go_iastore C dX12_plansByCounts_132 hw (fun h17 hw => ?_)
    refine go_iinc C (x5 + 1) [(4, iV (x5 + 1)), (0, rV (some a0))] dX12_plansByCounts_133 1 rfl (by rw [kc_i1]) (Nat.le_of_ble_eq_true rfl) rfl ?_
    refine go_goto C 85 dX12_plansByCounts_136 (by decide) ?_
    refine go_sub [1, 0] rfl ?_
    exact hj85 (x5 + 1) h17 hw
  refine go_aload_n C dX12_plansByCounts_14 0 rfl ?_
  refine go_iload_n C dX12_plansByCounts_15 1 rfl ?_
  refine go_iload C dX12_plansByCounts_16 3 rfl ?_
  refine go_c0V_i C [iV p1, iV x3] vX12_laysOrder tw8_235 (ci := 12) rfl (m_X12_laysOrder (xl X) C.2.2.2.2.2.2.2.1 N hw.2) ⟨Nat.le_of_ble_eq_true rfl, Nat.le_of_ble_eq_true rfl, Nat.le_of_ble_eq_true rfl, Nat.le_of_ble_eq_true rfl⟩ ⟨rfl, rfl⟩ hw.1 dX12_plansByCounts_18 rfl (Nat.le_of_ble_eq_true rfl) rfl (fun v18 h19 hw => ?_)
  refine go_istore C [(5, iV v18), (0, rV (some a0)), (1, iV p1), (2, lV y2), (4, iV x3)] dX12_plansByCounts_21 (Nat.le_of_ble_eq_true rfl) rfl ?_
  refine go_iconst C 0 dX12_plansByCounts_23 kc_i0 ?_
  refine go_istore C [(6, iV 0), (5, iV v18), (0, rV (some a0)), (1, iV p1), (2, lV y2), (4, iV x3)] dX12_plansByCounts_24 (Nat.le_of_ble_eq_true rfl) rfl ?_
  refine go_sub [2, 3, 4, 5, 1, 0] rfl ?_
  refine fx3_elim (P := fun y21 x22 h20 => Go G X rmX12_plansByCounts 9 0 0 (QN G X (QV G K) rmX12_plansByCounts) h20 26 [(0, rV (some a0)), (1, iV p1), (2, lV y21), (4, iV x3), (5, iV v18), (6, iV x22)] []) (fun w26 hj26 y21 x22 h20 hw => ?_) N _ _ _ hw
  refine go_iload C dX12_plansByCounts_26 5 rfl ?_
  refine go_sipush C 512 dX12_plansByCounts_28 kc_s512 ?_
  refine jn_elim (P := fun j => j  → Go G X rmX12_plansByCounts 9 0 0 (QN G X (QV G K) rmX12_plansByCounts) h20 76 [(0, rV (some a0)), (1, iV p1), (2, lV y21), (4, iV x3)] []) hw (fun  hw => ?_) (fun j76 hj76 hw => ?_)
  · refine go_iinc C (x3 + 1) [(4, iV (x3 + 1)), (0, rV (some a0)), (1, iV p1), (2, lV y21)] dX12_plansByCounts_76 3 rfl (by rw [kc_i1]) (Nat.le_of_ble_eq_true rfl) rfl ?_
    refine go_goto C 7 dX12_plansByCounts_79 (by decide) ?_
    refine go_sub [1, 2, 3, 0] rfl ?_
    exact hj7 y21 (x3 + 1) h20 hw
  refine go_icmp_ge C 76 dX12_plansByCounts_31 (by decide) hw (fun hw => ?_) (fun hw => ?_)
  · refine go_sub [0, 1, 2, 3] rfl ?_
    exact hj76  hw
  refine go_iload C dX12_plansByCounts_34 4 rfl ?_
  refine go_if_eq C 76 dX12_plansByCounts_36 (by decide) hw (fun hw => ?_) (fun hw => ?_)
  · refine go_sub [0, 1, 2, 3] rfl ?_
    exact hj76  hw
  refine go_aload_n C dX12_plansByCounts_39 0 rfl ?_
  refine go_iload_n C dX12_plansByCounts_40 1 rfl ?_
  refine go_iload C dX12_plansByCounts_41 5 rfl ?_
  refine go_c0V_i C [iV p1, iV x22] vX12_laysWays tw9_2 (ci := 12) rfl (m_X12_laysWays (xl X) C.2.2.2.2.2.2.2.1 N hw.2) ⟨Nat.le_of_ble_eq_true rfl, Nat.le_of_ble_eq_true rfl, Nat.le_of_ble_eq_true rfl, Nat.le_of_ble_eq_true rfl⟩ ⟨rfl, rfl⟩ hw.1 dX12_plansByCounts_43 rfl (Nat.le_of_ble_eq_true rfl) rfl (fun v23 h24 hw => ?_)
  refine jn_elim (P := fun j => ∀ (y26 : Int64) (h25 : Hp), j y26 h25 → Go G X rmX12_plansByCounts 9 0 0 (QN G X (QV G K) rmX12_plansByCounts) h25 70 [(0, rV (some a0)), (1, iV p1), (2, lV y26), (4, iV x3), (5, iV v18), (6, iV x22)] []) hw (fun y26 h25 hw => ?_) (fun j70 hj70 hw => ?_)
  · refine go_iinc C (x22 + 1) [(6, iV (x22 + 1)), (0, rV (some a0)), (1, iV p1), (2, lV y26), (4, iV x3), (5, iV v18)] dX12_plansByCounts_70 5 rfl (by rw [kc_i1]) (Nat.le_of_ble_eq_true rfl) rfl ?_
    refine go_goto C 26 dX12_plansByCounts_73 (by decide) ?_
    refine go_sub [1, 2, 3, 4, 5, 0] rfl ?_
    exact hj26 y26 (x22 + 1) h25 hw
  refine go_if_eq C 70 dX12_plansByCounts_46 (by decide) hw (fun hw => ?_) (fun hw => ?_)
  · exact hj70 y21 h24 hw
  refine go_aload_n C dX12_plansByCounts_49 0 rfl ?_
  refine go_iload_n C dX12_plansByCounts_50 1 rfl ?_
  refine go_pV_l C [iV p1] vX12_estimateOfPlan tw9_6 (ci := 12) rfl (m_X12_estimateOfPlan (xl X) C.2.2.2.2.2.2.2.1 N hw.2) ⟨Nat.le_of_ble_eq_true rfl, Nat.le_of_ble_eq_true rfl, Nat.le_of_ble_eq_true rfl, Nat.le_of_ble_eq_true rfl⟩ ⟨rfl, rfl⟩ hw.1 dX12_plansByCounts_51 rfl (Nat.le_of_ble_eq_true rfl) rfl (fun v27 hw => ?_)
  refine go_lstore C [(7, lV v27), (0, rV (some a0)), (1, iV p1), (2, lV y21), (4, iV x3), (5, iV v18), (6, iV x22)] dX12_plansByCounts_54 (Nat.le_of_ble_eq_true rfl) rfl ?_
  refine go_lload C dX12_plansByCounts_56 0 rfl ?_
  refine go_lload_n C dX12_plansByCounts_58 3 rfl ?_
  refine go_lcmp C dX12_plansByCounts_59 ?_
  refine go_if_ge C 70 dX12_plansByCounts_60 (by decide) hw (fun hw => ?_) (fun hw => ?_)
  · refine go_sub [1, 2, 3, 4, 5, 6] rfl ?_
    exact hj70 y21 h24 hw
  refine go_lload C dX12_plansByCounts_63 0 rfl ?_
  refine go_lstore_n C [(2, lV v27), (7, lV v27), (0, rV (some a0)), (1, iV p1), (4, iV x3), (5, iV v18), (6, iV x22)] dX12_plansByCounts_65 (Nat.le_of_ble_eq_true rfl) rfl ?_
  refine go_aload_n C dX12_plansByCounts_66 2 rfl ?_
  refine go_c0V_v C [] vX12_keepsPlan tw9_26 (ci := 12) rfl (m_X12_keepsPlan (xl X) C.2.2.2.2.2.2.2.1 N hw.2) ⟨Nat.le_of_ble_eq_true rfl, Nat.le_of_ble_eq_true rfl, Nat.le_of_ble_eq_true rfl, Nat.le_of_ble_eq_true rfl⟩ ⟨rfl, rfl⟩ hw.1 dX12_plansByCounts_67 rfl (Nat.le_of_ble_eq_true rfl) rfl (fun h28 hw => ?_)
  refine go_sub [2, 3, 0, 4, 5, 6] rfl ?_
  exact hj70 v27 h28 hw
/-- DuelSchemaModel.plans(III)V -/
def w_X12_plans (N : Nat) (a0 : Nat) (p1 : Int32) (p2 : Int32) (p3 : Int32) (h0 : Hp) (K : Hp → Prop) : Prop :=
  pF h0 a0 12 45 (iV p3) fun h1 =>
  br (p1 = 0) (
    cv h1 a0 12 <| w_X12_plansByBook N a0 p2 h1 fun h3 =>
    K h3) (
    cv h1 a0 12 <| w_X12_plansByCounts N a0 p2 h1 fun h2 =>
    K h2)
abbrev rmX12_plans : Room := { frames := 7, cells := 0, slots := 0, locals := 187 }
theorem vX12_plans : VI RX12 yX12_plans cX12_plans 4 none 3 := ⟨tw8_204, tp64, tw1_8, tw8_205, by decide +kernel⟩
set_option maxHeartbeats 4000000 in
theorem m_X12_plans {G : Gp} (l : Launch) (hfl : l.stackTraces = false) (N : Nat) {a0 : Nat} {p1 : Int32} {p2 : Int32} {p3 : Int32} {h0 : Hp} {K : Hp → Prop} (hw : w_X12_plans N a0 p1 p2 p3 h0 K) : MT G l yX12_plans cX12_plans 4 none rmX12_plans [rV (some a0), iV p1, iV p2, iV p3] h0 (QV G K) := by
  refine go_metT l hfl _ 4 _ _ rfl (by decide +kernel) (Nat.le_of_ble_eq_true rfl) [(0, rV (some a0)), (1, iV p1), (2, iV p2), (3, iV p3)] rfl (fun X hX C hn => ?_)
  subst hX
  unfold w_X12_plans at hw
  refine go_aload_n C dX12_plans_0 0 rfl ?_
  refine go_iload_n C dX12_plans_1 3 rfl ?_
  refine go_putI C (cfX12) (k := 45) (Nat.le_of_ble_eq_true rfl) tw7_128 rfl (Or.inl rfl) rfl dX12_plans_2 hw (fun h1 hw => ?_)
  refine go_iload_n C dX12_plans_5 1 rfl ?_
  refine go_if_ne C 17 dX12_plans_6 (by decide) hw (fun hw => ?_) (fun hw => ?_)
  · refine go_aload_n C dX12_plans_17 0 rfl ?_
    refine go_iload_n C dX12_plans_18 2 rfl ?_
    refine go_c0V_v C [iV p2] vX12_plansByCounts tw8_230 (ci := 12) rfl (m_X12_plansByCounts (xl X) C.2.2.2.2.2.2.2.1 N hw.2) ⟨Nat.le_of_ble_eq_true rfl, Nat.le_of_ble_eq_true rfl, Nat.le_of_ble_eq_true rfl, Nat.le_of_ble_eq_true rfl⟩ ⟨rfl, rfl⟩ hw.1 dX12_plans_19 rfl (Nat.le_of_ble_eq_true rfl) rfl (fun h2 hw => ?_)
    exact go_vret C dX12_plans_22 hw (Nat.le_of_ble_eq_true rfl) (Nat.le_of_ble_eq_true rfl)
  refine go_aload_n C dX12_plans_9 0 rfl ?_
  refine go_iload_n C dX12_plans_10 2 rfl ?_
  refine go_c0V_v C [iV p2] vX12_plansByBook tw8_206 (ci := 12) rfl (m_X12_plansByBook (xl X) C.2.2.2.2.2.2.2.1 N hw.2) ⟨Nat.le_of_ble_eq_true rfl, Nat.le_of_ble_eq_true rfl, Nat.le_of_ble_eq_true rfl, Nat.le_of_ble_eq_true rfl⟩ ⟨rfl, rfl⟩ hw.1 dX12_plans_11 rfl (Nat.le_of_ble_eq_true rfl) rfl (fun h3 hw => ?_)
  refine go_goto C 22 dX12_plans_14 (by decide) ?_
  exact go_vret C dX12_plans_22 hw (Nat.le_of_ble_eq_true rfl) (Nat.le_of_ble_eq_true rfl)
/-- DuelSchemaModel.noPlace(III)Z -/
def w_X12_noPlace (N : Nat) (a0 : Nat) (p1 : Int32) (p2 : Int32) (p3 : Int32) (h0 : Hp) (K : Int32 → Hp → Prop) : Prop :=
  w_X12_in N p1 0 1 h0 fun v1 =>
  jn (fun (v2 : Int32) => 
    cv h0 a0 12 <| w_X12_fails N a0 v2 1 h0 fun v3 h4 =>
    br (v3 = 0) (
      cv h4 a0 12 <| w_X12_isQuery N a0 p2 h4 fun v5 =>
      jn (fun (v6 : Int32) => 
        cv h4 a0 12 <| w_X12_fails N a0 v6 2 h4 fun v7 h8 =>
        br (v7 = 0) (
          gA h8 a0 12 25 fun a9 =>
          aI h8 a9 0 p2 fun v10 =>
          w_X12_in N p3 0 (v10 - 1) h8 fun v11 =>
          jn (fun (v12 : Int32) => 
            cv h8 a0 12 <| w_X12_fails N a0 v12 3 h8 fun v13 h14 =>
            br (v13 = 0) (
              K 0 h14) (
              K 1 h14)) (fun j65 =>
          br (v11 = 0) (
            j65 1) (
            j65 0))) (
          K 1 h8)) (fun j36 =>
      br (v5 = 0) (
        j36 1) (
        j36 0))) (
      K 1 h4)) (fun j15 =>
  br (v1 = 0) (
    j15 1) (
    j15 0))
abbrev rmX12_noPlace : Room := { frames := 4, cells := 0, slots := 0, locals := 103 }
theorem vX12_noPlace : VI RX12 yX12_noPlace cX12_noPlace 4 (some .boolean) 3 := ⟨tw8_200, tp63, tw1_8, tw8_201, by decide +kernel⟩
set_option maxHeartbeats 4000000 in
theorem m_X12_noPlace {G : Gp} (l : Launch) (hfl : l.stackTraces = false) (N : Nat) {a0 : Nat} {p1 : Int32} {p2 : Int32} {p3 : Int32} {h0 : Hp} {K : Int32 → Hp → Prop} (hw : w_X12_noPlace N a0 p1 p2 p3 h0 K) : MT G l yX12_noPlace cX12_noPlace 4 (some .boolean) rmX12_noPlace [rV (some a0), iV p1, iV p2, iV p3] h0 (QI G K) := by
  refine go_metT l hfl _ 4 _ _ rfl (by decide +kernel) (Nat.le_of_ble_eq_true rfl) [(0, rV (some a0)), (1, iV p1), (2, iV p2), (3, iV p3)] rfl (fun X hX C hn => ?_)
  subst hX
  unfold w_X12_noPlace at hw
  refine go_aload_n C dX12_noPlace_0 0 rfl ?_
  refine go_iload_n C dX12_noPlace_1 1 rfl ?_
  refine go_iconst C 0 dX12_noPlace_2 kc_i0 ?_
  refine go_iconst C 1 dX12_noPlace_3 kc_i1 ?_
  refine go_pS_i C [iV p1, iV 0, iV 1] vX12_in tw8_20 (m_X12_in (xl X) C.2.2.2.2.2.2.2.1 N hw) ⟨Nat.le_of_ble_eq_true rfl, Nat.le_of_ble_eq_true rfl, Nat.le_of_ble_eq_true rfl, Nat.le_of_ble_eq_true rfl⟩ ⟨rfl, rfl⟩ dX12_noPlace_4 rfl (Nat.le_of_ble_eq_true rfl) rfl (fun v1 hw => ?_)
  refine jn_elim (P := fun j => ∀ (v2 : Int32), j v2 → Go G X rmX12_noPlace 4 0 0 (QN G X (QI G K) rmX12_noPlace) h0 15 [(0, rV (some a0)), (2, iV p2), (3, iV p3)] [iV v2, rV (some a0)]) hw (fun v2 hw => ?_) (fun j15 hj15 hw => ?_)
  · refine go_iconst C 1 dX12_noPlace_15 kc_i1 ?_
    refine go_c0V_i C [iV v2, iV 1] vX12_fails tw8_23 (ci := 12) rfl (m_X12_fails (xl X) C.2.2.2.2.2.2.2.1 N hw.2) ⟨Nat.le_of_ble_eq_true rfl, Nat.le_of_ble_eq_true rfl, Nat.le_of_ble_eq_true rfl, Nat.le_of_ble_eq_true rfl⟩ ⟨rfl, rfl⟩ hw.1 dX12_noPlace_16 rfl (Nat.le_of_ble_eq_true rfl) rfl (fun v3 h4 hw => ?_)
    refine go_if_ne C 72 dX12_noPlace_19 (by decide) hw (fun hw => ?_) (fun hw => ?_)
    · refine go_iconst C 1 dX12_noPlace_72 kc_i1 ?_
      refine go_goto C 77 dX12_noPlace_73 (by decide) ?_
      exact go_zret C dX12_noPlace_77 ⟨rfl, hw⟩ (Nat.le_of_ble_eq_true rfl) (Nat.le_of_ble_eq_true rfl)
    refine go_aload_n C dX12_noPlace_22 0 rfl ?_
    refine go_aload_n C dX12_noPlace_23 0 rfl ?_
    refine go_iload_n C dX12_noPlace_24 1 rfl ?_
    refine go_pV_i C [iV p2] vX12_isQuery tw8_142 (ci := 12) rfl (m_X12_isQuery (xl X) C.2.2.2.2.2.2.2.1 N hw.2) ⟨Nat.le_of_ble_eq_true rfl, Nat.le_of_ble_eq_true rfl, Nat.le_of_ble_eq_true rfl, Nat.le_of_ble_eq_true rfl⟩ ⟨rfl, rfl⟩ hw.1 dX12_noPlace_25 rfl (Nat.le_of_ble_eq_true rfl) rfl (fun v5 hw => ?_)
    refine jn_elim (P := fun j => ∀ (v6 : Int32), j v6 → Go G X rmX12_noPlace 4 0 0 (QN G X (QI G K) rmX12_noPlace) h4 36 [(0, rV (some a0)), (2, iV p2), (3, iV p3)] [iV v6, rV (some a0)]) hw (fun v6 hw => ?_) (fun j36 hj36 hw => ?_)
    · refine go_iconst C 2 dX12_noPlace_36 kc_i2 ?_
      refine go_c0V_i C [iV v6, iV 2] vX12_fails tw8_23 (ci := 12) rfl (m_X12_fails (xl X) C.2.2.2.2.2.2.2.1 N hw.2) ⟨Nat.le_of_ble_eq_true rfl, Nat.le_of_ble_eq_true rfl, Nat.le_of_ble_eq_true rfl, Nat.le_of_ble_eq_true rfl⟩ ⟨rfl, rfl⟩ hw.1 dX12_noPlace_37 rfl (Nat.le_of_ble_eq_true rfl) rfl (fun v7 h8 hw => ?_)
      refine go_if_ne C 72 dX12_noPlace_40 (by decide) hw (fun hw => ?_) (fun hw => ?_)
      · refine go_iconst C 1 dX12_noPlace_72 kc_i1 ?_
        refine go_goto C 77 dX12_noPlace_73 (by decide) ?_
        exact go_zret C dX12_noPlace_77 ⟨rfl, hw⟩ (Nat.le_of_ble_eq_true rfl) (Nat.le_of_ble_eq_true rfl)
      refine go_aload_n C dX12_noPlace_43 0 rfl ?_
      refine go_iload_n C dX12_noPlace_44 2 rfl ?_
      refine go_iconst C 0 dX12_noPlace_45 kc_i0 ?_
      refine go_aload_n C dX12_noPlace_46 0 rfl ?_
      refine go_getA C (cfX12) (k := 25) (Nat.le_of_ble_eq_true rfl) tw7_108 rfl dX12_noPlace_47 hw (fun a9 hw => ?_)
      refine go_iload_n C dX12_noPlace_50 1 rfl ?_
      refine go_iaload C dX12_noPlace_51 hw (fun v10 hw => ?_)
      refine go_iconst C 1 dX12_noPlace_52 kc_i1 ?_
      refine go_isub C dX12_noPlace_53 ?_
      refine go_pS_i C [iV p3, iV 0, iV (v10 - 1)] vX12_in tw8_20 (m_X12_in (xl X) C.2.2.2.2.2.2.2.1 N hw) ⟨Nat.le_of_ble_eq_true rfl, Nat.le_of_ble_eq_true rfl, Nat.le_of_ble_eq_true rfl, Nat.le_of_ble_eq_true rfl⟩ ⟨rfl, rfl⟩ dX12_noPlace_54 rfl (Nat.le_of_ble_eq_true rfl) rfl (fun v11 hw => ?_)
      refine jn_elim (P := fun j => ∀ (v12 : Int32), j v12 → Go G X rmX12_noPlace 4 0 0 (QN G X (QI G K) rmX12_noPlace) h8 65 [] [iV v12, rV (some a0)]) hw (fun v12 hw => ?_) (fun j65 hj65 hw => ?_)
      · refine go_iconst C 3 dX12_noPlace_65 kc_i3 ?_
        refine go_c0V_i C [iV v12, iV 3] vX12_fails tw8_23 (ci := 12) rfl (m_X12_fails (xl X) C.2.2.2.2.2.2.2.1 N hw.2) ⟨Nat.le_of_ble_eq_true rfl, Nat.le_of_ble_eq_true rfl, Nat.le_of_ble_eq_true rfl, Nat.le_of_ble_eq_true rfl⟩ ⟨rfl, rfl⟩ hw.1 dX12_noPlace_66 rfl (Nat.le_of_ble_eq_true rfl) rfl (fun v13 h14 hw => ?_)
        refine go_if_eq C 76 dX12_noPlace_69 (by decide) hw (fun hw => ?_) (fun hw => ?_)
        · refine go_iconst C 0 dX12_noPlace_76 kc_i0 ?_
          exact go_zret C dX12_noPlace_77 ⟨rfl, hw⟩ (Nat.le_of_ble_eq_true rfl) (Nat.le_of_ble_eq_true rfl)
        refine go_iconst C 1 dX12_noPlace_72 kc_i1 ?_
        refine go_goto C 77 dX12_noPlace_73 (by decide) ?_
        exact go_zret C dX12_noPlace_77 ⟨rfl, hw⟩ (Nat.le_of_ble_eq_true rfl) (Nat.le_of_ble_eq_true rfl)
      refine go_if_ne C 64 dX12_noPlace_57 (by decide) hw (fun hw => ?_) (fun hw => ?_)
      · refine go_iconst C 0 dX12_noPlace_64 kc_i0 ?_
        refine go_sub [] rfl ?_
        exact hj65 0 hw
      refine go_iconst C 1 dX12_noPlace_60 kc_i1 ?_
      refine go_goto C 65 dX12_noPlace_61 (by decide) ?_
      refine go_sub [] rfl ?_
      exact hj65 1 hw
    refine go_if_ne C 35 dX12_noPlace_28 (by decide) hw (fun hw => ?_) (fun hw => ?_)
    · refine go_iconst C 0 dX12_noPlace_35 kc_i0 ?_
      exact hj36 0 hw
    refine go_iconst C 1 dX12_noPlace_31 kc_i1 ?_
    refine go_goto C 36 dX12_noPlace_32 (by decide) ?_
    exact hj36 1 hw
  refine go_if_ne C 14 dX12_noPlace_7 (by decide) hw (fun hw => ?_) (fun hw => ?_)
  · refine go_iconst C 0 dX12_noPlace_14 kc_i0 ?_
    refine go_sub [0, 2, 3] rfl ?_
    exact hj15 0 hw
  refine go_iconst C 1 dX12_noPlace_10 kc_i1 ?_
  refine go_goto C 15 dX12_noPlace_11 (by decide) ?_
  refine go_sub [0, 2, 3] rfl ?_
  exact hj15 1 hw
/-- DuelSchemaModel.planned(III)I -/
def w_X12_planned (N : Nat) (a0 : Nat) (p1 : Int32) (p2 : Int32) (p3 : Int32) (h0 : Hp) (K : Int32 → Hp → Prop) : Prop :=
  pF h0 a0 12 0 (iV 0) fun h1 =>
  cv h1 a0 12 <| w_X12_noPlace N a0 p1 p2 p3 h1 fun v2 h3 =>
  br (v2 = 0) (
    gA h3 a0 12 46 fun a4 =>
    aI h3 a4 0 p1 fun v5 =>
    cv h3 a0 12 <| w_X12_plans N a0 p1 p2 v5 h3 fun h6 =>
    gA h6 a0 12 39 fun a7 =>
    aI h6 a7 0 p3 fun v8 =>
    K v8 h6) (
    K (-1) h3)
abbrev rmX12_planned : Room := { frames := 8, cells := 0, slots := 0, locals := 210 }
theorem vX12_planned : VI RX12 yX12_planned cX12_planned 4 (some .int) 3 := ⟨tw8_195, tw8_196, tw1_8, tw8_197, by decide +kernel⟩
set_option maxHeartbeats 4000000 in
theorem m_X12_planned {G : Gp} (l : Launch) (hfl : l.stackTraces = false) (N : Nat) {a0 : Nat} {p1 : Int32} {p2 : Int32} {p3 : Int32} {h0 : Hp} {K : Int32 → Hp → Prop} (hw : w_X12_planned N a0 p1 p2 p3 h0 K) : MT G l yX12_planned cX12_planned 4 (some .int) rmX12_planned [rV (some a0), iV p1, iV p2, iV p3] h0 (QI G K) := by
  refine go_metT l hfl _ 4 _ _ rfl (by decide +kernel) (Nat.le_of_ble_eq_true rfl) [(0, rV (some a0)), (1, iV p1), (2, iV p2), (3, iV p3)] rfl (fun X hX C hn => ?_)
  subst hX
  unfold w_X12_planned at hw
  refine go_aload_n C dX12_planned_0 0 rfl ?_
  refine go_iconst C 0 dX12_planned_1 kc_i0 ?_
  refine go_putI C (cfX12) (k := 0) (Nat.le_of_ble_eq_true rfl) tw7_83 rfl (Or.inl rfl) rfl dX12_planned_2 hw (fun h1 hw => ?_)
  refine go_aload_n C dX12_planned_5 0 rfl ?_
  refine go_iload_n C dX12_planned_6 1 rfl ?_
  refine go_iload_n C dX12_planned_7 2 rfl ?_
  refine go_iload_n C dX12_planned_8 3 rfl ?_
  refine go_c0V_i C [iV p1, iV p2, iV p3] vX12_noPlace tw8_198 (ci := 12) rfl (m_X12_noPlace (xl X) C.2.2.2.2.2.2.2.1 N hw.2) ⟨Nat.le_of_ble_eq_true rfl, Nat.le_of_ble_eq_true rfl, Nat.le_of_ble_eq_true rfl, Nat.le_of_ble_eq_true rfl⟩ ⟨rfl, rfl⟩ hw.1 dX12_planned_9 rfl (Nat.le_of_ble_eq_true rfl) rfl (fun v2 h3 hw => ?_)
  refine go_if_eq C 17 dX12_planned_12 (by decide) hw (fun hw => ?_) (fun hw => ?_)
  · refine go_aload_n C dX12_planned_17 0 rfl ?_
    refine go_iload_n C dX12_planned_18 1 rfl ?_
    refine go_iload_n C dX12_planned_19 2 rfl ?_
    refine go_aload_n C dX12_planned_20 0 rfl ?_
    refine go_getA C (cfX12) (k := 46) (Nat.le_of_ble_eq_true rfl) tw7_129 rfl dX12_planned_21 hw (fun a4 hw => ?_)
    refine go_iload_n C dX12_planned_24 1 rfl ?_
    refine go_iaload C dX12_planned_25 hw (fun v5 hw => ?_)
    refine go_c0V_v C [iV p1, iV p2, iV v5] vX12_plans tw8_202 (ci := 12) rfl (m_X12_plans (xl X) C.2.2.2.2.2.2.2.1 N hw.2) ⟨Nat.le_of_ble_eq_true rfl, Nat.le_of_ble_eq_true rfl, Nat.le_of_ble_eq_true rfl, Nat.le_of_ble_eq_true rfl⟩ ⟨rfl, rfl⟩ hw.1 dX12_planned_26 rfl (Nat.le_of_ble_eq_true rfl) rfl (fun h6 hw => ?_)
    refine go_aload_n C dX12_planned_29 0 rfl ?_
    refine go_getA C (cfX12) (k := 39) (Nat.le_of_ble_eq_true rfl) tw7_122 rfl dX12_planned_30 hw (fun a7 hw => ?_)
    refine go_iload_n C dX12_planned_33 3 rfl ?_
    refine go_iaload C dX12_planned_34 hw (fun v8 hw => ?_)
    exact go_iret C dX12_planned_35 hw (Nat.le_of_ble_eq_true rfl) (Nat.le_of_ble_eq_true rfl)
  refine go_iconst C (-1) dX12_planned_15 kc_im1 ?_
  exact go_iret C dX12_planned_16 hw (Nat.le_of_ble_eq_true rfl) (Nat.le_of_ble_eq_true rfl)
/-- DuelSchemaModel.way(III)C -/
def w_X12_way (N : Nat) (a0 : Nat) (p1 : Int32) (p2 : Int32) (p3 : Int32) (h0 : Hp) (K : Int32 → Hp → Prop) : Prop :=
  pF h0 a0 12 0 (iV 0) fun h1 =>
  cv h1 a0 12 <| w_X12_noPlace N a0 p1 p2 p3 h1 fun v2 h3 =>
  br (v2 = 0) (
    gA h3 a0 12 46 fun a4 =>
    aI h3 a4 0 p1 fun v5 =>
    cv h3 a0 12 <| w_X12_plans N a0 p1 p2 v5 h3 fun h6 =>
    gA h6 a0 12 40 fun a7 =>
    aI h6 a7 0 p3 fun v8 =>
    br (v8 = 0) (
      ok (narrow .char (.int 102) = .int 102) <| K 102 h6) (
      gA h6 a0 12 40 fun a9 =>
      aI h6 a9 0 p3 fun v10 =>
      br (5 ≤ v10) (
        ok (narrow .char (.int 106) = .int 106) <| K 106 h6) (
        ok (narrow .char (.int 99) = .int 99) <| K 99 h6))) (
    ok (narrow .char (.int 32) = .int 32) <| K 32 h3)
abbrev rmX12_way : Room := { frames := 8, cells := 0, slots := 0, locals := 210 }
theorem vX12_way : VI RX12 yX12_way cX12_way 4 (some .char) 3 := ⟨tw9_31, tw9_32, tw1_8, tw9_33, by decide +kernel⟩
set_option maxHeartbeats 4000000 in
theorem m_X12_way {G : Gp} (l : Launch) (hfl : l.stackTraces = false) (N : Nat) {a0 : Nat} {p1 : Int32} {p2 : Int32} {p3 : Int32} {h0 : Hp} {K : Int32 → Hp → Prop} (hw : w_X12_way N a0 p1 p2 p3 h0 K) : MT G l yX12_way cX12_way 4 (some .char) rmX12_way [rV (some a0), iV p1, iV p2, iV p3] h0 (QI G K) := by
  refine go_metT l hfl _ 4 _ _ rfl (by decide +kernel) (Nat.le_of_ble_eq_true rfl) [(0, rV (some a0)), (1, iV p1), (2, iV p2), (3, iV p3)] rfl (fun X hX C hn => ?_)
  subst hX
  unfold w_X12_way at hw
  refine go_aload_n C dX12_way_0 0 rfl ?_
  refine go_iconst C 0 dX12_way_1 kc_i0 ?_
  refine go_putI C (cfX12) (k := 0) (Nat.le_of_ble_eq_true rfl) tw7_83 rfl (Or.inl rfl) rfl dX12_way_2 hw (fun h1 hw => ?_)
  refine go_aload_n C dX12_way_5 0 rfl ?_
  refine go_iload_n C dX12_way_6 1 rfl ?_
  refine go_iload_n C dX12_way_7 2 rfl ?_
  refine go_iload_n C dX12_way_8 3 rfl ?_
  refine go_c0V_i C [iV p1, iV p2, iV p3] vX12_noPlace tw8_198 (ci := 12) rfl (m_X12_noPlace (xl X) C.2.2.2.2.2.2.2.1 N hw.2) ⟨Nat.le_of_ble_eq_true rfl, Nat.le_of_ble_eq_true rfl, Nat.le_of_ble_eq_true rfl, Nat.le_of_ble_eq_true rfl⟩ ⟨rfl, rfl⟩ hw.1 dX12_way_9 rfl (Nat.le_of_ble_eq_true rfl) rfl (fun v2 h3 hw => ?_)
  refine go_if_eq C 18 dX12_way_12 (by decide) hw (fun hw => ?_) (fun hw => ?_)
  · refine go_aload_n C dX12_way_18 0 rfl ?_
    refine go_iload_n C dX12_way_19 1 rfl ?_
    refine go_iload_n C dX12_way_20 2 rfl ?_
    refine go_aload_n C dX12_way_21 0 rfl ?_
    refine go_getA C (cfX12) (k := 46) (Nat.le_of_ble_eq_true rfl) tw7_129 rfl dX12_way_22 hw (fun a4 hw => ?_)
    refine go_iload_n C dX12_way_25 1 rfl ?_
    refine go_iaload C dX12_way_26 hw (fun v5 hw => ?_)
    refine go_c0V_v C [iV p1, iV p2, iV v5] vX12_plans tw8_202 (ci := 12) rfl (m_X12_plans (xl X) C.2.2.2.2.2.2.2.1 N hw.2) ⟨Nat.le_of_ble_eq_true rfl, Nat.le_of_ble_eq_true rfl, Nat.le_of_ble_eq_true rfl, Nat.le_of_ble_eq_true rfl⟩ ⟨rfl, rfl⟩ hw.1 dX12_way_27 rfl (Nat.le_of_ble_eq_true rfl) rfl (fun h6 hw => ?_)
    refine go_aload_n C dX12_way_30 0 rfl ?_
    refine go_getA C (cfX12) (k := 40) (Nat.le_of_ble_eq_true rfl) tw7_123 rfl dX12_way_31 hw (fun a7 hw => ?_)
    refine go_iload_n C dX12_way_34 3 rfl ?_
    refine go_iaload C dX12_way_35 hw (fun v8 hw => ?_)
    refine go_if_ne C 44 dX12_way_36 (by decide) hw (fun hw => ?_) (fun hw => ?_)
    · refine go_aload_n C dX12_way_44 0 rfl ?_
      refine go_getA C (cfX12) (k := 40) (Nat.le_of_ble_eq_true rfl) tw7_123 rfl dX12_way_45 hw (fun a9 hw => ?_)
      refine go_iload_n C dX12_way_48 3 rfl ?_
      refine go_iaload C dX12_way_49 hw (fun v10 hw => ?_)
      refine go_iconst C 5 dX12_way_50 kc_i5 ?_
      refine go_icmp_ge C 59 dX12_way_51 (by decide) hw (fun hw => ?_) (fun hw => ?_)
      · refine go_bipush C 106 dX12_way_59 kc_b106 ?_
        exact go_zret C dX12_way_61 ⟨hw.1, hw.2⟩ (Nat.le_of_ble_eq_true rfl) (Nat.le_of_ble_eq_true rfl)
      refine go_bipush C 99 dX12_way_54 kc_b99 ?_
      refine go_goto C 61 dX12_way_56 (by decide) ?_
      exact go_zret C dX12_way_61 ⟨hw.1, hw.2⟩ (Nat.le_of_ble_eq_true rfl) (Nat.le_of_ble_eq_true rfl)
    refine go_bipush C 102 dX12_way_39 kc_b102 ?_
    refine go_goto C 61 dX12_way_41 (by decide) ?_
    exact go_zret C dX12_way_61 ⟨hw.1, hw.2⟩ (Nat.le_of_ble_eq_true rfl) (Nat.le_of_ble_eq_true rfl)
  refine go_bipush C 32 dX12_way_15 kc_b32 ?_
  exact go_zret C dX12_way_17 ⟨hw.1, hw.2⟩ (Nat.le_of_ble_eq_true rfl) (Nat.le_of_ble_eq_true rfl)
/-- DuelSchemaModel.usedIndex(III)I -/
def w_X12_usedIndex (N : Nat) (a0 : Nat) (p1 : Int32) (p2 : Int32) (p3 : Int32) (h0 : Hp) (K : Int32 → Hp → Prop) : Prop :=
  pF h0 a0 12 0 (iV 0) fun h1 =>
  cv h1 a0 12 <| w_X12_noPlace N a0 p1 p2 p3 h1 fun v2 h3 =>
  br (v2 = 0) (
    gA h3 a0 12 46 fun a4 =>
    aI h3 a4 0 p1 fun v5 =>
    cv h3 a0 12 <| w_X12_plans N a0 p1 p2 v5 h3 fun h6 =>
    gA h6 a0 12 41 fun a7 =>
    aI h6 a7 0 p3 fun v8 =>
    K v8 h6) (
    K (-1) h3)
abbrev rmX12_usedIndex : Room := { frames := 8, cells := 0, slots := 0, locals := 210 }
theorem vX12_usedIndex : VI RX12 yX12_usedIndex cX12_usedIndex 4 (some .int) 3 := ⟨tw9_35, tw9_36, tw1_8, tw9_37, by decide +kernel⟩
set_option maxHeartbeats 4000000 in
theorem m_X12_usedIndex {G : Gp} (l : Launch) (hfl : l.stackTraces = false) (N : Nat) {a0 : Nat} {p1 : Int32} {p2 : Int32} {p3 : Int32} {h0 : Hp} {K : Int32 → Hp → Prop} (hw : w_X12_usedIndex N a0 p1 p2 p3 h0 K) : MT G l yX12_usedIndex cX12_usedIndex 4 (some .int) rmX12_usedIndex [rV (some a0), iV p1, iV p2, iV p3] h0 (QI G K) := by
  refine go_metT l hfl _ 4 _ _ rfl (by decide +kernel) (Nat.le_of_ble_eq_true rfl) [(0, rV (some a0)), (1, iV p1), (2, iV p2), (3, iV p3)] rfl (fun X hX C hn => ?_)
  subst hX
  unfold w_X12_usedIndex at hw
  refine go_aload_n C dX12_usedIndex_0 0 rfl ?_
  refine go_iconst C 0 dX12_usedIndex_1 kc_i0 ?_
  refine go_putI C (cfX12) (k := 0) (Nat.le_of_ble_eq_true rfl) tw7_83 rfl (Or.inl rfl) rfl dX12_usedIndex_2 hw (fun h1 hw => ?_)
  refine go_aload_n C dX12_usedIndex_5 0 rfl ?_
  refine go_iload_n C dX12_usedIndex_6 1 rfl ?_
  refine go_iload_n C dX12_usedIndex_7 2 rfl ?_
  refine go_iload_n C dX12_usedIndex_8 3 rfl ?_
  refine go_c0V_i C [iV p1, iV p2, iV p3] vX12_noPlace tw8_198 (ci := 12) rfl (m_X12_noPlace (xl X) C.2.2.2.2.2.2.2.1 N hw.2) ⟨Nat.le_of_ble_eq_true rfl, Nat.le_of_ble_eq_true rfl, Nat.le_of_ble_eq_true rfl, Nat.le_of_ble_eq_true rfl⟩ ⟨rfl, rfl⟩ hw.1 dX12_usedIndex_9 rfl (Nat.le_of_ble_eq_true rfl) rfl (fun v2 h3 hw => ?_)
  refine go_if_eq C 17 dX12_usedIndex_12 (by decide) hw (fun hw => ?_) (fun hw => ?_)
  · refine go_aload_n C dX12_usedIndex_17 0 rfl ?_
    refine go_iload_n C dX12_usedIndex_18 1 rfl ?_
    refine go_iload_n C dX12_usedIndex_19 2 rfl ?_
    refine go_aload_n C dX12_usedIndex_20 0 rfl ?_
    refine go_getA C (cfX12) (k := 46) (Nat.le_of_ble_eq_true rfl) tw7_129 rfl dX12_usedIndex_21 hw (fun a4 hw => ?_)
    refine go_iload_n C dX12_usedIndex_24 1 rfl ?_
    refine go_iaload C dX12_usedIndex_25 hw (fun v5 hw => ?_)
    refine go_c0V_v C [iV p1, iV p2, iV v5] vX12_plans tw8_202 (ci := 12) rfl (m_X12_plans (xl X) C.2.2.2.2.2.2.2.1 N hw.2) ⟨Nat.le_of_ble_eq_true rfl, Nat.le_of_ble_eq_true rfl, Nat.le_of_ble_eq_true rfl, Nat.le_of_ble_eq_true rfl⟩ ⟨rfl, rfl⟩ hw.1 dX12_usedIndex_26 rfl (Nat.le_of_ble_eq_true rfl) rfl (fun h6 hw => ?_)
    refine go_aload_n C dX12_usedIndex_29 0 rfl ?_
    refine go_getA C (cfX12) (k := 41) (Nat.le_of_ble_eq_true rfl) tw7_124 rfl dX12_usedIndex_30 hw (fun a7 hw => ?_)
    refine go_iload_n C dX12_usedIndex_33 3 rfl ?_
    refine go_iaload C dX12_usedIndex_34 hw (fun v8 hw => ?_)
    exact go_iret C dX12_usedIndex_35 hw (Nat.le_of_ble_eq_true rfl) (Nat.le_of_ble_eq_true rfl)
  refine go_iconst C (-1) dX12_usedIndex_15 kc_im1 ?_
  exact go_iret C dX12_usedIndex_16 hw (Nat.le_of_ble_eq_true rfl) (Nat.le_of_ble_eq_true rfl)
/-- DuelSchemaModel.noPlan(II)Z -/
def w_X12_noPlan (N : Nat) (a0 : Nat) (p1 : Int32) (p2 : Int32) (h0 : Hp) (K : Int32 → Hp → Prop) : Prop :=
  w_X12_in N p1 0 1 h0 fun v1 =>
  jn (fun (v2 : Int32) => 
    cv h0 a0 12 <| w_X12_fails N a0 v2 1 h0 fun v3 h4 =>
    br (v3 = 0) (
      cv h4 a0 12 <| w_X12_isQuery N a0 p2 h4 fun v5 =>
      jn (fun (v6 : Int32) => 
        cv h4 a0 12 <| w_X12_fails N a0 v6 2 h4 fun v7 h8 =>
        br (v7 = 0) (
          gA h8 a0 12 25 fun a9 =>
          aI h8 a9 0 p2 fun v10 =>
          jn (fun (v11 : Int32) => 
            cv h8 a0 12 <| w_X12_fails N a0 v11 3 h8 fun v12 h13 =>
            br (v12 = 0) (
              K 0 h13) (
              K 1 h13)) (fun j58 =>
          br (v10 = 0) (
            j58 1) (
            j58 0))) (
          K 1 h8)) (fun j36 =>
      br (v5 = 0) (
        j36 1) (
        j36 0))) (
      K 1 h4)) (fun j15 =>
  br (v1 = 0) (
    j15 1) (
    j15 0))
abbrev rmX12_noPlan : Room := { frames := 4, cells := 0, slots := 0, locals := 103 }
theorem vX12_noPlan : VI RX12 yX12_noPlan cX12_noPlan 3 (some .boolean) 2 := ⟨tw9_44, tp79, tw1_8, tw9_45, by decide +kernel⟩
set_option maxHeartbeats 4000000 in
theorem m_X12_noPlan {G : Gp} (l : Launch) (hfl : l.stackTraces = false) (N : Nat) {a0 : Nat} {p1 : Int32} {p2 : Int32} {h0 : Hp} {K : Int32 → Hp → Prop} (hw : w_X12_noPlan N a0 p1 p2 h0 K) : MT G l yX12_noPlan cX12_noPlan 3 (some .boolean) rmX12_noPlan [rV (some a0), iV p1, iV p2] h0 (QI G K) := by
  refine go_metT l hfl _ 3 _ _ rfl (by decide +kernel) (Nat.le_of_ble_eq_true rfl) [(0, rV (some a0)), (1, iV p1), (2, iV p2)] rfl (fun X hX C hn => ?_)
  subst hX
  unfold w_X12_noPlan at hw
  refine go_aload_n C dX12_noPlan_0 0 rfl ?_
  refine go_iload_n C dX12_noPlan_1 1 rfl ?_
  refine go_iconst C 0 dX12_noPlan_2 kc_i0 ?_
  refine go_iconst C 1 dX12_noPlan_3 kc_i1 ?_
  refine go_pS_i C [iV p1, iV 0, iV 1] vX12_in tw8_20 (m_X12_in (xl X) C.2.2.2.2.2.2.2.1 N hw) ⟨Nat.le_of_ble_eq_true rfl, Nat.le_of_ble_eq_true rfl, Nat.le_of_ble_eq_true rfl, Nat.le_of_ble_eq_true rfl⟩ ⟨rfl, rfl⟩ dX12_noPlan_4 rfl (Nat.le_of_ble_eq_true rfl) rfl (fun v1 hw => ?_)
  refine jn_elim (P := fun j => ∀ (v2 : Int32), j v2 → Go G X rmX12_noPlan 3 0 0 (QN G X (QI G K) rmX12_noPlan) h0 15 [(0, rV (some a0)), (2, iV p2)] [iV v2, rV (some a0)]) hw (fun v2 hw => ?_) (fun j15 hj15 hw => ?_)
  · refine go_iconst C 1 dX12_noPlan_15 kc_i1 ?_
    refine go_c0V_i C [iV v2, iV 1] vX12_fails tw8_23 (ci := 12) rfl (m_X12_fails (xl X) C.2.2.2.2.2.2.2.1 N hw.2) ⟨Nat.le_of_ble_eq_true rfl, Nat.le_of_ble_eq_true rfl, Nat.le_of_ble_eq_true rfl, Nat.le_of_ble_eq_true rfl⟩ ⟨rfl, rfl⟩ hw.1 dX12_noPlan_16 rfl (Nat.le_of_ble_eq_true rfl) rfl (fun v3 h4 hw => ?_)
    refine go_if_ne C 65 dX12_noPlan_19 (by decide) hw (fun hw => ?_) (fun hw => ?_)
    · refine go_iconst C 1 dX12_noPlan_65 kc_i1 ?_
      refine go_goto C 70 dX12_noPlan_66 (by decide) ?_
      exact go_zret C dX12_noPlan_70 ⟨rfl, hw⟩ (Nat.le_of_ble_eq_true rfl) (Nat.le_of_ble_eq_true rfl)
    refine go_aload_n C dX12_noPlan_22 0 rfl ?_
    refine go_aload_n C dX12_noPlan_23 0 rfl ?_
    refine go_iload_n C dX12_noPlan_24 1 rfl ?_
    refine go_pV_i C [iV p2] vX12_isQuery tw8_142 (ci := 12) rfl (m_X12_isQuery (xl X) C.2.2.2.2.2.2.2.1 N hw.2) ⟨Nat.le_of_ble_eq_true rfl, Nat.le_of_ble_eq_true rfl, Nat.le_of_ble_eq_true rfl, Nat.le_of_ble_eq_true rfl⟩ ⟨rfl, rfl⟩ hw.1 dX12_noPlan_25 rfl (Nat.le_of_ble_eq_true rfl) rfl (fun v5 hw => ?_)
    refine jn_elim (P := fun j => ∀ (v6 : Int32), j v6 → Go G X rmX12_noPlan 3 0 0 (QN G X (QI G K) rmX12_noPlan) h4 36 [(0, rV (some a0)), (2, iV p2)] [iV v6, rV (some a0)]) hw (fun v6 hw => ?_) (fun j36 hj36 hw => ?_)
    · refine go_iconst C 2 dX12_noPlan_36 kc_i2 ?_
      refine go_c0V_i C [iV v6, iV 2] vX12_fails tw8_23 (ci := 12) rfl (m_X12_fails (xl X) C.2.2.2.2.2.2.2.1 N hw.2) ⟨Nat.le_of_ble_eq_true rfl, Nat.le_of_ble_eq_true rfl, Nat.le_of_ble_eq_true rfl, Nat.le_of_ble_eq_true rfl⟩ ⟨rfl, rfl⟩ hw.1 dX12_noPlan_37 rfl (Nat.le_of_ble_eq_true rfl) rfl (fun v7 h8 hw => ?_)
      refine go_if_ne C 65 dX12_noPlan_40 (by decide) hw (fun hw => ?_) (fun hw => ?_)
      · refine go_iconst C 1 dX12_noPlan_65 kc_i1 ?_
        refine go_goto C 70 dX12_noPlan_66 (by decide) ?_
        exact go_zret C dX12_noPlan_70 ⟨rfl, hw⟩ (Nat.le_of_ble_eq_true rfl) (Nat.le_of_ble_eq_true rfl)
      refine go_aload_n C dX12_noPlan_43 0 rfl ?_
      refine go_aload_n C dX12_noPlan_44 0 rfl ?_
      refine go_getA C (cfX12) (k := 25) (Nat.le_of_ble_eq_true rfl) tw7_108 rfl dX12_noPlan_45 hw (fun a9 hw => ?_)
      refine go_iload_n C dX12_noPlan_48 1 rfl ?_
      refine go_iaload C dX12_noPlan_49 hw (fun v10 hw => ?_)
      refine jn_elim (P := fun j => ∀ (v11 : Int32), j v11 → Go G X rmX12_noPlan 3 0 0 (QN G X (QI G K) rmX12_noPlan) h8 58 [] [iV v11, rV (some a0)]) hw (fun v11 hw => ?_) (fun j58 hj58 hw => ?_)
      · refine go_iconst C 3 dX12_noPlan_58 kc_i3 ?_
        refine go_c0V_i C [iV v11, iV 3] vX12_fails tw8_23 (ci := 12) rfl (m_X12_fails (xl X) C.2.2.2.2.2.2.2.1 N hw.2) ⟨Nat.le_of_ble_eq_true rfl, Nat.le_of_ble_eq_true rfl, Nat.le_of_ble_eq_true rfl, Nat.le_of_ble_eq_true rfl⟩ ⟨rfl, rfl⟩ hw.1 dX12_noPlan_59 rfl (Nat.le_of_ble_eq_true rfl) rfl (fun v12 h13 hw => ?_)
        refine go_if_eq C 69 dX12_noPlan_62 (by decide) hw (fun hw => ?_) (fun hw => ?_)
        · refine go_iconst C 0 dX12_noPlan_69 kc_i0 ?_
          exact go_zret C dX12_noPlan_70 ⟨rfl, hw⟩ (Nat.le_of_ble_eq_true rfl) (Nat.le_of_ble_eq_true rfl)
        refine go_iconst C 1 dX12_noPlan_65 kc_i1 ?_
        refine go_goto C 70 dX12_noPlan_66 (by decide) ?_
        exact go_zret C dX12_noPlan_70 ⟨rfl, hw⟩ (Nat.le_of_ble_eq_true rfl) (Nat.le_of_ble_eq_true rfl)
      refine go_if_ne C 57 dX12_noPlan_50 (by decide) hw (fun hw => ?_) (fun hw => ?_)
      · refine go_iconst C 0 dX12_noPlan_57 kc_i0 ?_
        refine go_sub [] rfl ?_
        exact hj58 0 hw
      refine go_iconst C 1 dX12_noPlan_53 kc_i1 ?_
      refine go_goto C 58 dX12_noPlan_54 (by decide) ?_
      refine go_sub [] rfl ?_
      exact hj58 1 hw
    refine go_if_ne C 35 dX12_noPlan_28 (by decide) hw (fun hw => ?_) (fun hw => ?_)
    · refine go_iconst C 0 dX12_noPlan_35 kc_i0 ?_
      exact hj36 0 hw
    refine go_iconst C 1 dX12_noPlan_31 kc_i1 ?_
    refine go_goto C 36 dX12_noPlan_32 (by decide) ?_
    exact hj36 1 hw
  refine go_if_ne C 14 dX12_noPlan_7 (by decide) hw (fun hw => ?_) (fun hw => ?_)
  · refine go_iconst C 0 dX12_noPlan_14 kc_i0 ?_
    refine go_sub [0, 2] rfl ?_
    exact hj15 0 hw
  refine go_iconst C 1 dX12_noPlan_10 kc_i1 ?_
  refine go_goto C 15 dX12_noPlan_11 (by decide) ?_
  refine go_sub [0, 2] rfl ?_
  exact hj15 1 hw
/-- DuelSchemaModel.estimate(II)J -/
def w_X12_estimate (N : Nat) (a0 : Nat) (p1 : Int32) (p2 : Int32) (h0 : Hp) (K : Int64 → Hp → Prop) : Prop :=
  pF h0 a0 12 0 (iV 0) fun h1 =>
  cv h1 a0 12 <| w_X12_noPlan N a0 p1 p2 h1 fun v2 h3 =>
  br (v2 = 0) (
    gA h3 a0 12 46 fun a4 =>
    aI h3 a4 0 p1 fun v5 =>
    cv h3 a0 12 <| w_X12_plans N a0 p1 p2 v5 h3 fun h6 =>
    cv h6 a0 12 <| w_X12_estimateOfPlan N a0 p2 h6 fun v7 =>
    K v7 h6) (
    K (-1) h3)
abbrev rmX12_estimate : Room := { frames := 8, cells := 0, slots := 0, locals := 210 }
theorem vX12_estimate : VI RX12 yX12_estimate cX12_estimate 3 (some .long) 2 := ⟨tw9_39, tw9_40, tw1_8, tw9_41, by decide +kernel⟩
set_option maxHeartbeats 4000000 in
theorem m_X12_estimate {G : Gp} (l : Launch) (hfl : l.stackTraces = false) (N : Nat) {a0 : Nat} {p1 : Int32} {p2 : Int32} {h0 : Hp} {K : Int64 → Hp → Prop} (hw : w_X12_estimate N a0 p1 p2 h0 K) : MT G l yX12_estimate cX12_estimate 3 (some .long) rmX12_estimate [rV (some a0), iV p1, iV p2] h0 (QL G K) := by
  refine go_metT l hfl _ 3 _ _ rfl (by decide +kernel) (Nat.le_of_ble_eq_true rfl) [(0, rV (some a0)), (1, iV p1), (2, iV p2)] rfl (fun X hX C hn => ?_)
  subst hX
  unfold w_X12_estimate at hw
  refine go_aload_n C dX12_estimate_0 0 rfl ?_
  refine go_iconst C 0 dX12_estimate_1 kc_i0 ?_
  refine go_putI C (cfX12) (k := 0) (Nat.le_of_ble_eq_true rfl) tw7_83 rfl (Or.inl rfl) rfl dX12_estimate_2 hw (fun h1 hw => ?_)
  refine go_aload_n C dX12_estimate_5 0 rfl ?_
  refine go_iload_n C dX12_estimate_6 1 rfl ?_
  refine go_iload_n C dX12_estimate_7 2 rfl ?_
  refine go_c0V_i C [iV p1, iV p2] vX12_noPlan tw9_42 (ci := 12) rfl (m_X12_noPlan (xl X) C.2.2.2.2.2.2.2.1 N hw.2) ⟨Nat.le_of_ble_eq_true rfl, Nat.le_of_ble_eq_true rfl, Nat.le_of_ble_eq_true rfl, Nat.le_of_ble_eq_true rfl⟩ ⟨rfl, rfl⟩ hw.1 dX12_estimate_8 rfl (Nat.le_of_ble_eq_true rfl) rfl (fun v2 h3 hw => ?_)
  refine go_if_eq C 18 dX12_estimate_11 (by decide) hw (fun hw => ?_) (fun hw => ?_)
  · refine go_aload_n C dX12_estimate_18 0 rfl ?_
    refine go_iload_n C dX12_estimate_19 1 rfl ?_
    refine go_iload_n C dX12_estimate_20 2 rfl ?_
    refine go_aload_n C dX12_estimate_21 0 rfl ?_
    refine go_getA C (cfX12) (k := 46) (Nat.le_of_ble_eq_true rfl) tw7_129 rfl dX12_estimate_22 hw (fun a4 hw => ?_)
    refine go_iload_n C dX12_estimate_25 1 rfl ?_
    refine go_iaload C dX12_estimate_26 hw (fun v5 hw => ?_)
    refine go_c0V_v C [iV p1, iV p2, iV v5] vX12_plans tw8_202 (ci := 12) rfl (m_X12_plans (xl X) C.2.2.2.2.2.2.2.1 N hw.2) ⟨Nat.le_of_ble_eq_true rfl, Nat.le_of_ble_eq_true rfl, Nat.le_of_ble_eq_true rfl, Nat.le_of_ble_eq_true rfl⟩ ⟨rfl, rfl⟩ hw.1 dX12_estimate_27 rfl (Nat.le_of_ble_eq_true rfl) rfl (fun h6 hw => ?_)
    refine go_aload_n C dX12_estimate_30 0 rfl ?_
    refine go_iload_n C dX12_estimate_31 2 rfl ?_
    refine go_pV_l C [iV p2] vX12_estimateOfPlan tw9_6 (ci := 12) rfl (m_X12_estimateOfPlan (xl X) C.2.2.2.2.2.2.2.1 N hw.2) ⟨Nat.le_of_ble_eq_true rfl, Nat.le_of_ble_eq_true rfl, Nat.le_of_ble_eq_true rfl, Nat.le_of_ble_eq_true rfl⟩ ⟨rfl, rfl⟩ hw.1 dX12_estimate_32 rfl (Nat.le_of_ble_eq_true rfl) rfl (fun v7 hw => ?_)
    exact go_lret C dX12_estimate_35 hw (Nat.le_of_ble_eq_true rfl) (Nat.le_of_ble_eq_true rfl)
  refine go_ldc2 C (-1) dX12_estimate_14 tw8_193 ?_
  exact go_lret C dX12_estimate_17 hw (Nat.le_of_ble_eq_true rfl) (Nat.le_of_ble_eq_true rfl)
/-- DuelSchemaModel.wants(II)V -/
def w_X12_wants (N : Nat) (a0 : Nat) (p1 : Int32) (p2 : Int32) (h0 : Hp) (K : Hp → Prop) : Prop :=
  gA h0 a0 12 40 fun a1 =>
  aI h0 a1 0 p2 fun v2 =>
  br (5 ≤ v2) (
    gA h0 a0 12 33 fun a3 =>
    aI h0 a3 0 (((3 * p1) + v2) - 5) fun v4 =>
    gA h0 a0 12 39 fun a5 =>
    aI h0 a5 0 p2 fun v6 =>
    jn (fun (v7 : Int32) => 
      pF h0 a0 12 49 (iV 61) fun h8 =>
      jn (fun (v9 : Int32) => 
        pF h8 a0 12 50 (iV v9) fun h10 =>
        K h10) (fun j130 =>
      br (v7 = 0) (
        gA h8 a0 12 33 fun a11 =>
        aI h8 a11 0 (((3 * p1) + v2) - 5) fun v12 =>
        gA h8 a0 12 34 fun a13 =>
        aI h8 a13 0 (((3 * p1) + v2) - 5) fun v14 =>
        cv h8 a0 12 <| w_X12_chosenAt N a0 p1 v12 v14 h8 fun v15 =>
        j130 v15) (
        gA h8 a0 12 35 fun a16 =>
        aI h8 a16 0 (((3 * p1) + v2) - 5) fun v17 =>
        gA h8 a0 12 36 fun a18 =>
        aI h8 a18 0 (((3 * p1) + v2) - 5) fun v19 =>
        cv h8 a0 12 <| w_X12_chosenAt N a0 p1 v17 v19 h8 fun v20 =>
        j130 v20))) (fun j75 =>
    br (v4 = v6) (
      j75 1) (
      j75 0))) (
    gA h0 a0 12 30 fun a21 =>
    aI h0 a21 0 (((4 * p1) + v2) - 1) fun v22 =>
    pF h0 a0 12 49 (iV v22) fun h23 =>
    gA h23 a0 12 31 fun a24 =>
    aI h23 a24 0 (((4 * p1) + v2) - 1) fun v25 =>
    pF h23 a0 12 50 (iV v25) fun h26 =>
    K h26)
abbrev rmX12_wants : Room := { frames := 4, cells := 0, slots := 0, locals := 106 }
theorem vX12_wants : VI RX12 yX12_wants cX12_wants 6 none 2 := ⟨tw9_72, tp85, tw1_8, tw9_73, by decide +kernel⟩
set_option maxHeartbeats 4000000 in
theorem m_X12_wants {G : Gp} (l : Launch) (hfl : l.stackTraces = false) (N : Nat) {a0 : Nat} {p1 : Int32} {p2 : Int32} {h0 : Hp} {K : Hp → Prop} (hw : w_X12_wants N a0 p1 p2 h0 K) : MT G l yX12_wants cX12_wants 6 none rmX12_wants [rV (some a0), iV p1, iV p2] h0 (QV G K) := by
  refine go_metT l hfl _ 6 _ _ rfl (by decide +kernel) (Nat.le_of_ble_eq_true rfl) [(0, rV (some a0)), (1, iV p1), (2, iV p2)] rfl (fun X hX C hn => ?_)
  subst hX
  unfold w_X12_wants at hw
  refine go_aload_n C dX12_wants_0 0 rfl ?_
  refine go_getA C (cfX12) (k := 40) (Nat.le_of_ble_eq_true rfl) tw7_123 rfl dX12_wants_1 hw (fun a1 hw => ?_)
  refine go_iload_n C dX12_wants_4 2 rfl ?_
  refine go_iaload C dX12_wants_5 hw (fun v2 hw => ?_)
  refine go_istore_n C [(3, iV v2), (0, rV (some a0)), (1, iV p1), (2, iV p2)] dX12_wants_6 (Nat.le_of_ble_eq_true rfl) rfl ?_
  refine go_iload_n C dX12_wants_7 0 rfl ?_
  refine go_iconst C 5 dX12_wants_8 kc_i5 ?_
  refine go_icmp_ge C 45 dX12_wants_9 (by decide) hw (fun hw => ?_) (fun hw => ?_)
  · refine go_iconst C 3 dX12_wants_45 kc_i3 ?_
    refine go_iload_n C dX12_wants_46 2 rfl ?_
    refine go_imul C dX12_wants_47 ?_
    refine go_iload_n C dX12_wants_48 0 rfl ?_
    refine go_iadd C dX12_wants_49 ?_
    refine go_iconst C 5 dX12_wants_50 kc_i5 ?_
    refine go_isub C dX12_wants_51 ?_
    refine go_istore C [(4, iV (((3 * p1) + v2) - 5)), (3, iV v2), (0, rV (some a0)), (1, iV p1), (2, iV p2)] dX12_wants_52 (Nat.le_of_ble_eq_true rfl) rfl ?_
    refine go_aload_n C dX12_wants_54 2 rfl ?_
    refine go_getA C (cfX12) (k := 33) (Nat.le_of_ble_eq_true rfl) tw7_116 rfl dX12_wants_55 hw (fun a3 hw => ?_)
    refine go_iload C dX12_wants_58 0 rfl ?_
    refine go_iaload C dX12_wants_60 hw (fun v4 hw => ?_)
    refine go_aload_n C dX12_wants_61 2 rfl ?_
    refine go_getA C (cfX12) (k := 39) (Nat.le_of_ble_eq_true rfl) tw7_122 rfl dX12_wants_62 hw (fun a5 hw => ?_)
    refine go_iload_n C dX12_wants_65 4 rfl ?_
    refine go_iaload C dX12_wants_66 hw (fun v6 hw => ?_)
    refine jn_elim (P := fun j => ∀ (v7 : Int32), j v7 → Go G X rmX12_wants 6 0 0 (QN G X (QV G K) rmX12_wants) h0 75 [(0, rV (some a0)), (1, iV p1), (4, iV (((3 * p1) + v2) - 5))] [iV v7]) hw (fun v7 hw => ?_) (fun j75 hj75 hw => ?_)
    · refine go_istore C [(5, iV v7), (0, rV (some a0)), (1, iV p1), (4, iV (((3 * p1) + v2) - 5))] dX12_wants_75 (Nat.le_of_ble_eq_true rfl) rfl ?_
      refine go_aload_n C dX12_wants_77 1 rfl ?_
      refine go_bipush C 61 dX12_wants_78 kc_b61 ?_
      refine go_putI C (cfX12) (k := 49) (Nat.le_of_ble_eq_true rfl) tw7_132 rfl (Or.inl rfl) rfl dX12_wants_80 hw (fun h8 hw => ?_)
      refine go_aload_n C dX12_wants_83 1 rfl ?_
      refine go_iload C dX12_wants_84 0 rfl ?_
      refine jn_elim (P := fun j => ∀ (v9 : Int32), j v9 → Go G X rmX12_wants 6 0 0 (QN G X (QV G K) rmX12_wants) h8 130 [] [iV v9, rV (some a0)]) hw (fun v9 hw => ?_) (fun j130 hj130 hw => ?_)
      · refine go_putI C (cfX12) (k := 50) (Nat.le_of_ble_eq_true rfl) tw7_133 rfl (Or.inl rfl) rfl dX12_wants_130 hw (fun h10 hw => ?_)
        exact go_vret C dX12_wants_133 hw (Nat.le_of_ble_eq_true rfl) (Nat.le_of_ble_eq_true rfl)
      refine go_if_eq C 111 dX12_wants_86 (by decide) hw (fun hw => ?_) (fun hw => ?_)
      · refine go_aload_n C dX12_wants_111 1 rfl ?_
        refine go_iload_n C dX12_wants_112 2 rfl ?_
        refine go_aload_n C dX12_wants_113 1 rfl ?_
        refine go_getA C (cfX12) (k := 33) (Nat.le_of_ble_eq_true rfl) tw7_116 rfl dX12_wants_114 hw (fun a11 hw => ?_)
        refine go_iload C dX12_wants_117 3 rfl ?_
        refine go_iaload C dX12_wants_119 hw (fun v12 hw => ?_)
        refine go_aload_n C dX12_wants_120 1 rfl ?_
        refine go_getA C (cfX12) (k := 34) (Nat.le_of_ble_eq_true rfl) tw7_117 rfl dX12_wants_121 hw (fun a13 hw => ?_)
        refine go_iload C dX12_wants_124 3 rfl ?_
        refine go_iaload C dX12_wants_126 hw (fun v14 hw => ?_)
        refine go_pV_i C [iV p1, iV v12, iV v14] vX12_chosenAt tw8_178 (ci := 12) rfl (m_X12_chosenAt (xl X) C.2.2.2.2.2.2.2.1 N hw.2) ⟨Nat.le_of_ble_eq_true rfl, Nat.le_of_ble_eq_true rfl, Nat.le_of_ble_eq_true rfl, Nat.le_of_ble_eq_true rfl⟩ ⟨rfl, rfl⟩ hw.1 dX12_wants_127 rfl (Nat.le_of_ble_eq_true rfl) rfl (fun v15 hw => ?_)
        refine go_sub [] rfl ?_
        exact hj130 v15 hw
      refine go_aload_n C dX12_wants_89 1 rfl ?_
      refine go_iload_n C dX12_wants_90 2 rfl ?_
      refine go_aload_n C dX12_wants_91 1 rfl ?_
      refine go_getA C (cfX12) (k := 35) (Nat.le_of_ble_eq_true rfl) tw7_118 rfl dX12_wants_92 hw (fun a16 hw => ?_)
      refine go_iload C dX12_wants_95 3 rfl ?_
      refine go_iaload C dX12_wants_97 hw (fun v17 hw => ?_)
      refine go_aload_n C dX12_wants_98 1 rfl ?_
      refine go_getA C (cfX12) (k := 36) (Nat.le_of_ble_eq_true rfl) tw7_119 rfl dX12_wants_99 hw (fun a18 hw => ?_)
      refine go_iload C dX12_wants_102 3 rfl ?_
      refine go_iaload C dX12_wants_104 hw (fun v19 hw => ?_)
      refine go_pV_i C [iV p1, iV v17, iV v19] vX12_chosenAt tw8_178 (ci := 12) rfl (m_X12_chosenAt (xl X) C.2.2.2.2.2.2.2.1 N hw.2) ⟨Nat.le_of_ble_eq_true rfl, Nat.le_of_ble_eq_true rfl, Nat.le_of_ble_eq_true rfl, Nat.le_of_ble_eq_true rfl⟩ ⟨rfl, rfl⟩ hw.1 dX12_wants_105 rfl (Nat.le_of_ble_eq_true rfl) rfl (fun v20 hw => ?_)
      refine go_goto C 130 dX12_wants_108 (by decide) ?_
      refine go_sub [] rfl ?_
      exact hj130 v20 hw
    refine go_icmp_ne C 74 dX12_wants_67 (by decide) hw (fun hw => ?_) (fun hw => ?_)
    · refine go_iconst C 0 dX12_wants_74 kc_i0 ?_
      refine go_sub [2, 3, 0] rfl ?_
      exact hj75 0 hw
    refine go_iconst C 1 dX12_wants_70 kc_i1 ?_
    refine go_goto C 75 dX12_wants_71 (by decide) ?_
    refine go_sub [2, 3, 0] rfl ?_
    exact hj75 1 hw
  refine go_aload_n C dX12_wants_12 1 rfl ?_
  refine go_aload_n C dX12_wants_13 1 rfl ?_
  refine go_getA C (cfX12) (k := 30) (Nat.le_of_ble_eq_true rfl) tw7_113 rfl dX12_wants_14 hw (fun a21 hw => ?_)
  refine go_iconst C 4 dX12_wants_17 kc_i4 ?_
  refine go_iload_n C dX12_wants_18 2 rfl ?_
  refine go_imul C dX12_wants_19 ?_
  refine go_iload_n C dX12_wants_20 0 rfl ?_
  refine go_iadd C dX12_wants_21 ?_
  refine go_iconst C 1 dX12_wants_22 kc_i1 ?_
  refine go_isub C dX12_wants_23 ?_
  refine go_iaload C dX12_wants_24 hw (fun v22 hw => ?_)
  refine go_putI C (cfX12) (k := 49) (Nat.le_of_ble_eq_true rfl) tw7_132 rfl (Or.inl rfl) rfl dX12_wants_25 hw (fun h23 hw => ?_)
  refine go_aload_n C dX12_wants_28 1 rfl ?_
  refine go_aload_n C dX12_wants_29 1 rfl ?_
  refine go_getA C (cfX12) (k := 31) (Nat.le_of_ble_eq_true rfl) tw7_114 rfl dX12_wants_30 hw (fun a24 hw => ?_)
  refine go_iconst C 4 dX12_wants_33 kc_i4 ?_
  refine go_iload_n C dX12_wants_34 2 rfl ?_
  refine go_imul C dX12_wants_35 ?_
  refine go_iload_n C dX12_wants_36 0 rfl ?_
  refine go_iadd C dX12_wants_37 ?_
  refine go_iconst C 1 dX12_wants_38 kc_i1 ?_
  refine go_isub C dX12_wants_39 ?_
  refine go_iaload C dX12_wants_40 hw (fun v25 hw => ?_)
  refine go_putI C (cfX12) (k := 50) (Nat.le_of_ble_eq_true rfl) tw7_133 rfl (Or.inl rfl) rfl dX12_wants_41 hw (fun h26 hw => ?_)
  exact go_vret C dX12_wants_44 hw (Nat.le_of_ble_eq_true rfl) (Nat.le_of_ble_eq_true rfl)
/-- DuelSchemaModel.entryValue(II)I -/
def w_X12_entryValue (N : Nat) (a0 : Nat) (p1 : Int32) (p2 : Int32) (h0 : Hp) (K : Int32 → Prop) : Prop :=
  gA h0 a0 12 14 fun a1 =>
  aI h0 a1 0 p1 fun v2 =>
  gA h0 a0 12 17 fun a3 =>
  aI h0 a3 0 ((40 * p1) + p2) fun v4 =>
  gA h0 a0 12 15 fun a5 =>
  aI h0 a5 0 p1 fun v6 =>
  cv h0 a0 12 <| w_X12_at N a0 v2 v4 v6 h0 fun v7 =>
  K v7
abbrev rmX12_entryValue : Room := { frames := 3, cells := 0, slots := 0, locals := 83 }
theorem vX12_entryValue : VI RX12 yX12_entryValue cX12_entryValue 3 (some .int) 2 := ⟨tw9_76, tp86, tw1_8, tw9_77, by decide +kernel⟩
set_option maxHeartbeats 4000000 in
theorem m_X12_entryValue {G : Gp} (l : Launch) (hfl : l.stackTraces = false) (N : Nat) {a0 : Nat} {p1 : Int32} {p2 : Int32} {h0 : Hp} {K : Int32 → Prop} (hw : w_X12_entryValue N a0 p1 p2 h0 K) : MT G l yX12_entryValue cX12_entryValue 3 (some .int) rmX12_entryValue [rV (some a0), iV p1, iV p2] h0 (QI G (fun r h1 => h1 = h0 ∧ K r)) := by
  refine go_metT l hfl _ 3 _ _ rfl (by decide +kernel) (Nat.le_of_ble_eq_true rfl) [(0, rV (some a0)), (1, iV p1), (2, iV p2)] rfl (fun X hX C hn => ?_)
  subst hX
  unfold w_X12_entryValue at hw
  refine go_aload_n C dX12_entryValue_0 0 rfl ?_
  refine go_aload_n C dX12_entryValue_1 0 rfl ?_
  refine go_getA C (cfX12) (k := 14) (Nat.le_of_ble_eq_true rfl) tw7_97 rfl dX12_entryValue_2 hw (fun a1 hw => ?_)
  refine go_iload_n C dX12_entryValue_5 1 rfl ?_
  refine go_iaload C dX12_entryValue_6 hw (fun v2 hw => ?_)
  refine go_aload_n C dX12_entryValue_7 0 rfl ?_
  refine go_getA C (cfX12) (k := 17) (Nat.le_of_ble_eq_true rfl) tw7_100 rfl dX12_entryValue_8 hw (fun a3 hw => ?_)
  refine go_bipush C 40 dX12_entryValue_11 kc_b40 ?_
  refine go_iload_n C dX12_entryValue_13 1 rfl ?_
  refine go_imul C dX12_entryValue_14 ?_
  refine go_iload_n C dX12_entryValue_15 2 rfl ?_
  refine go_iadd C dX12_entryValue_16 ?_
  refine go_iaload C dX12_entryValue_17 hw (fun v4 hw => ?_)
  refine go_aload_n C dX12_entryValue_18 0 rfl ?_
  refine go_getA C (cfX12) (k := 15) (Nat.le_of_ble_eq_true rfl) tw7_98 rfl dX12_entryValue_19 hw (fun a5 hw => ?_)
  refine go_iload_n C dX12_entryValue_22 1 rfl ?_
  refine go_iaload C dX12_entryValue_23 hw (fun v6 hw => ?_)
  refine go_pV_i C [iV v2, iV v4, iV v6] vX12_at tw8_43 (ci := 12) rfl (m_X12_at (xl X) C.2.2.2.2.2.2.2.1 N hw.2) ⟨Nat.le_of_ble_eq_true rfl, Nat.le_of_ble_eq_true rfl, Nat.le_of_ble_eq_true rfl, Nat.le_of_ble_eq_true rfl⟩ ⟨rfl, rfl⟩ hw.1 dX12_entryValue_24 rfl (Nat.le_of_ble_eq_true rfl) rfl (fun v7 hw => ?_)
  exact go_iret C dX12_entryValue_27 ⟨rfl, hw⟩ (Nat.le_of_ble_eq_true rfl) (Nat.le_of_ble_eq_true rfl)
/-- DuelSchemaModel.beginsAt(I)V -/
def w_X12_beginsAt (N : Nat) (a0 : Nat) (p1 : Int32) (h0 : Hp) (K : Hp → Prop) : Prop :=
  gA h0 a0 12 47 fun a1 =>
  sI h0 a1 0 p1 0 fun h2 =>
  gA h2 a0 12 48 fun a3 =>
  sI h2 a3 0 p1 (-1) fun h4 =>
  K h4
abbrev rmX12_beginsAt : Room := { frames := 2, cells := 0, slots := 0, locals := 60 }
theorem vX12_beginsAt : VI RX12 yX12_beginsAt cX12_beginsAt 2 none 1 := ⟨tw9_60, tp82, tw1_8, tw9_61, by decide +kernel⟩
set_option maxHeartbeats 4000000 in
theorem m_X12_beginsAt {G : Gp} (l : Launch) (hfl : l.stackTraces = false) (N : Nat) {a0 : Nat} {p1 : Int32} {h0 : Hp} {K : Hp → Prop} (hw : w_X12_beginsAt N a0 p1 h0 K) : MT G l yX12_beginsAt cX12_beginsAt 2 none rmX12_beginsAt [rV (some a0), iV p1] h0 (QV G K) := by
  refine go_metT l hfl _ 2 _ _ rfl (by decide +kernel) (Nat.le_of_ble_eq_true rfl) [(0, rV (some a0)), (1, iV p1)] rfl (fun X hX C hn => ?_)
  subst hX
  unfold w_X12_beginsAt at hw
  refine go_aload_n C dX12_beginsAt_0 0 rfl ?_
  refine go_getA C (cfX12) (k := 47) (Nat.le_of_ble_eq_true rfl) tw7_130 rfl dX12_beginsAt_1 hw (fun a1 hw => ?_)
  refine go_iload_n C dX12_beginsAt_4 1 rfl ?_
  refine go_iconst C 0 dX12_beginsAt_5 kc_i0 ?_
  refine go_iastore C dX12_beginsAt_6 hw (fun h2 hw => ?_)
  refine go_aload_n C dX12_beginsAt_7 0 rfl ?_
  refine go_getA C (cfX12) (k := 48) (Nat.le_of_ble_eq_true rfl) tw7_131 rfl dX12_beginsAt_8 hw (fun a3 hw => ?_)
  refine go_iload_n C dX12_beginsAt_11 1 rfl ?_
  refine go_iconst C (-1) dX12_beginsAt_12 kc_im1 ?_
  refine go_iastore C dX12_beginsAt_13 hw (fun h4 hw => ?_)
  exact go_vret C dX12_beginsAt_14 hw (Nat.le_of_ble_eq_true rfl) (Nat.le_of_ble_eq_true rfl)
/-- DuelSchemaModel.readsForNothing(II)V -/
def w_X12_readsForNothing (N : Nat) (a0 : Nat) (p1 : Int32) (p2 : Int32) (h0 : Hp) (K : Hp → Prop) : Prop :=
  gA h0 a0 12 41 fun a1 =>
  aI h0 a1 0 p1 fun v2 =>
  gA h0 a0 12 48 fun a3 =>
  aI h0 a3 0 p1 fun v4 =>
  br (v4 = (-1)) (
    gA h0 a0 12 18 fun a5 =>
    aI h0 a5 0 v2 fun v6 =>
    br (v6 = 0) (
      K h0) (
      gI h0 a0 12 49 fun v7 =>
      jn (fun (v8 : Int32) => 
        gA h0 a0 12 18 fun a9 =>
        aI h0 a9 0 v2 fun v10 =>
        gA h0 a0 12 18 fun a11 =>
        aI h0 a11 0 v2 fun v12 =>
        fx2 (fun (w84 : Int32 → Int32 → Prop) (x13 : Int32) (x14 : Int32) =>
          br (x14 < 0) (
            gA h0 a0 12 48 fun a15 =>
            sI h0 a15 0 p1 (x13 / 8) fun h16 =>
            cv h16 a0 12 <| w_X12_looksUp N a0 p2 ((100 * (3 + v2)) + (x13 / 8)) h16 fun h17 =>
            K h17) (
            cv h0 a0 12 <| w_X12_entryValue N a0 v2 x14 h0 fun v18 =>
            jn (fun (v19 : Int32) => 
              w84 v19 (x14 + (-1))) (fun j108 =>
            br (v18 < v8) (
              j108 x13) (
              j108 x14)))) N (v10 - 1) (v12 - 1)) (fun j62 =>
      br (v7 = 61) (
        gI h0 a0 12 50 fun v22 =>
        j62 v22) (
        gI h0 a0 12 49 fun v20 =>
        br (v20 = 60) (
          j62 0) (
          gI h0 a0 12 50 fun v21 =>
          j62 (v21 + 1)))))) (
    K h0)
abbrev rmX12_readsForNothing : Room := { frames := 4, cells := 0, slots := 0, locals := 107 }
theorem vX12_readsForNothing : VI RX12 yX12_readsForNothing cX12_readsForNothing 7 none 2 := ⟨tw9_80, tp87, tw1_8, tw9_81, by decide +kernel⟩
set_option maxHeartbeats 4000000 in
theorem m_X12_readsForNothing {G : Gp} (l : Launch) (hfl : l.stackTraces = false) (N : Nat) {a0 : Nat} {p1 : Int32} {p2 : Int32} {h0 : Hp} {K : Hp → Prop} (hw : w_X12_readsForNothing N a0 p1 p2 h0 K) : MT G l yX12_readsForNothing cX12_readsForNothing 7 none rmX12_readsForNothing [rV (some a0), iV p1, iV p2] h0 (QV G K) := by
  refine go_metT l hfl _ 7 _ _ rfl (by decide +kernel) (Nat.le_of_ble_eq_true rfl) [(0, rV (some a0)), (1, iV p1), (2, iV p2)] rfl (fun X hX C hn => ?_)
  subst hX
  unfold w_X12_readsForNothing at hw
  refine go_aload_n C dX12_readsForNothing_0 0 rfl ?_
  refine go_getA C (cfX12) (k := 41) (Nat.le_of_ble_eq_true rfl) tw7_124 rfl dX12_readsForNothing_1 hw (fun a1 hw => ?_)
  refine go_iload_n C dX12_readsForNothing_4 1 rfl ?_
  refine go_iaload C dX12_readsForNothing_5 hw (fun v2 hw => ?_)
  refine go_istore_n C [(3, iV v2), (0, rV (some a0)), (1, iV p1), (2, iV p2)] dX12_readsForNothing_6 (Nat.le_of_ble_eq_true rfl) rfl ?_
  refine go_aload_n C dX12_readsForNothing_7 1 rfl ?_
  refine go_getA C (cfX12) (k := 48) (Nat.le_of_ble_eq_true rfl) tw7_131 rfl dX12_readsForNothing_8 hw (fun a3 hw => ?_)
  refine go_iload_n C dX12_readsForNothing_11 2 rfl ?_
  refine go_iaload C dX12_readsForNothing_12 hw (fun v4 hw => ?_)
  refine go_iconst C (-1) dX12_readsForNothing_13 kc_im1 ?_
  refine go_icmp_ne C 26 dX12_readsForNothing_14 (by decide) hw (fun hw => ?_) (fun hw => ?_)
  · exact go_vret C dX12_readsForNothing_26 hw (Nat.le_of_ble_eq_true rfl) (Nat.le_of_ble_eq_true rfl)
  refine go_aload_n C dX12_readsForNothing_17 1 rfl ?_
  refine go_getA C (cfX12) (k := 18) (Nat.le_of_ble_eq_true rfl) tw7_101 rfl dX12_readsForNothing_18 hw (fun a5 hw => ?_)
  refine go_iload_n C dX12_readsForNothing_21 0 rfl ?_
  refine go_iaload C dX12_readsForNothing_22 hw (fun v6 hw => ?_)
  refine go_if_ne C 27 dX12_readsForNothing_23 (by decide) hw (fun hw => ?_) (fun hw => ?_)
  · refine go_aload_n C dX12_readsForNothing_27 1 rfl ?_
    refine go_getI C (cfX12) (k := 49) (Nat.le_of_ble_eq_true rfl) tw7_132 rfl dX12_readsForNothing_28 hw (fun v7 hw => ?_)
    refine go_bipush C 61 dX12_readsForNothing_31 kc_b61 ?_
    refine jn_elim (P := fun j => ∀ (v8 : Int32), j v8 → Go G X rmX12_readsForNothing 7 0 0 (QN G X (QV G K) rmX12_readsForNothing) h0 62 [(0, rV (some a0)), (1, iV p1), (2, iV p2), (3, iV v2)] [iV v8]) hw (fun v8 hw => ?_) (fun j62 hj62 hw => ?_)
    · refine go_istore C [(4, iV v8), (0, rV (some a0)), (1, iV p1), (2, iV p2), (3, iV v2)] dX12_readsForNothing_62 (Nat.le_of_ble_eq_true rfl) rfl ?_
      refine go_aload_n C dX12_readsForNothing_64 1 rfl ?_
      refine go_getA C (cfX12) (k := 18) (Nat.le_of_ble_eq_true rfl) tw7_101 rfl dX12_readsForNothing_65 hw (fun a9 hw => ?_)
      refine go_iload_n C dX12_readsForNothing_68 4 rfl ?_
      refine go_iaload C dX12_readsForNothing_69 hw (fun v10 hw => ?_)
      refine go_iconst C 1 dX12_readsForNothing_70 kc_i1 ?_
      refine go_isub C dX12_readsForNothing_71 ?_
      refine go_istore C [(5, iV (v10 - 1)), (4, iV v8), (0, rV (some a0)), (1, iV p1), (2, iV p2), (3, iV v2)] dX12_readsForNothing_72 (Nat.le_of_ble_eq_true rfl) rfl ?_
      refine go_aload_n C dX12_readsForNothing_74 2 rfl ?_
      refine go_getA C (cfX12) (k := 18) (Nat.le_of_ble_eq_true rfl) tw7_101 rfl dX12_readsForNothing_75 hw (fun a11 hw => ?_)
      refine go_iload_n C dX12_readsForNothing_78 5 rfl ?_
      refine go_iaload C dX12_readsForNothing_79 hw (fun v12 hw => ?_)
      refine go_iconst C 1 dX12_readsForNothing_80 kc_i1 ?_
      refine go_isub C dX12_readsForNothing_81 ?_
      refine go_istore C [(6, iV (v12 - 1)), (5, iV (v10 - 1)), (4, iV v8), (0, rV (some a0)), (1, iV p1), (2, iV p2), (3, iV v2)] dX12_readsForNothing_82 (Nat.le_of_ble_eq_true rfl) rfl ?_
      refine go_sub [3, 4, 5, 6, 2, 1, 0] rfl ?_
      refine fx2_elim (P := fun x13 x14 => Go G X rmX12_readsForNothing 7 0 0 (QN G X (QV G K) rmX12_readsForNothing) h0 84 [(0, rV (some a0)), (1, iV p1), (2, iV p2), (3, iV v2), (4, iV v8), (5, iV x13), (6, iV x14)] []) (fun w84 hj84 x13 x14 hw => ?_) N _ _ hw
      refine go_iload C dX12_readsForNothing_84 6 rfl ?_
      refine go_if_lt C 116 dX12_readsForNothing_86 (by decide) hw (fun hw => ?_) (fun hw => ?_)
      · refine go_aload_n C dX12_readsForNothing_116 0 rfl ?_
        refine go_getA C (cfX12) (k := 48) (Nat.le_of_ble_eq_true rfl) tw7_131 rfl dX12_readsForNothing_117 hw (fun a15 hw => ?_)
        refine go_iload_n C dX12_readsForNothing_120 1 rfl ?_
        refine go_iload C dX12_readsForNothing_121 5 rfl ?_
        refine go_bipush C 8 dX12_readsForNothing_123 kc_b8 ?_
        refine go_idiv C dX12_readsForNothing_125 ⟨by decide, hw⟩ (fun hw => ?_)
        refine go_iastore C dX12_readsForNothing_126 hw (fun h16 hw => ?_)
        refine go_aload_n C dX12_readsForNothing_127 0 rfl ?_
        refine go_iload_n C dX12_readsForNothing_128 2 rfl ?_
        refine go_bipush C 100 dX12_readsForNothing_129 kc_b100 ?_
        refine go_iconst C 3 dX12_readsForNothing_131 kc_i3 ?_
        refine go_iload_n C dX12_readsForNothing_132 3 rfl ?_
        refine go_iadd C dX12_readsForNothing_133 ?_
        refine go_imul C dX12_readsForNothing_134 ?_
        refine go_iload C dX12_readsForNothing_135 5 rfl ?_
        refine go_bipush C 8 dX12_readsForNothing_137 kc_b8 ?_
        refine go_idiv C dX12_readsForNothing_139 ⟨by decide, hw⟩ (fun hw => ?_)
        refine go_iadd C dX12_readsForNothing_140 ?_
        refine go_c0V_v C [iV p2, iV ((100 * (3 + v2)) + (x13 / 8))] vX12_looksUp tw9_66 (ci := 12) rfl (m_X12_looksUp (xl X) C.2.2.2.2.2.2.2.1 N hw.2) ⟨Nat.le_of_ble_eq_true rfl, Nat.le_of_ble_eq_true rfl, Nat.le_of_ble_eq_true rfl, Nat.le_of_ble_eq_true rfl⟩ ⟨rfl, rfl⟩ hw.1 dX12_readsForNothing_141 rfl (Nat.le_of_ble_eq_true rfl) rfl (fun h17 hw => ?_)
        exact go_vret C dX12_readsForNothing_144 hw (Nat.le_of_ble_eq_true rfl) (Nat.le_of_ble_eq_true rfl)
      refine go_aload_n C dX12_readsForNothing_89 0 rfl ?_
      refine go_iload_n C dX12_readsForNothing_90 3 rfl ?_
      refine go_iload C dX12_readsForNothing_91 6 rfl ?_
      refine go_pV_i C [iV v2, iV x14] vX12_entryValue tw9_74 (ci := 12) rfl (m_X12_entryValue (xl X) C.2.2.2.2.2.2.2.1 N hw.2) ⟨Nat.le_of_ble_eq_true rfl, Nat.le_of_ble_eq_true rfl, Nat.le_of_ble_eq_true rfl, Nat.le_of_ble_eq_true rfl⟩ ⟨rfl, rfl⟩ hw.1 dX12_readsForNothing_93 rfl (Nat.le_of_ble_eq_true rfl) rfl (fun v18 hw => ?_)
      refine go_iload C dX12_readsForNothing_96 4 rfl ?_
      refine jn_elim (P := fun j => ∀ (v19 : Int32), j v19 → Go G X rmX12_readsForNothing 7 0 0 (QN G X (QV G K) rmX12_readsForNothing) h0 108 [(0, rV (some a0)), (1, iV p1), (2, iV p2), (3, iV v2), (4, iV v8), (6, iV x14)] [iV v19]) hw (fun v19 hw => ?_) (fun j108 hj108 hw => ?_)
      · refine go_istore C [(5, iV v19), (0, rV (some a0)), (1, iV p1), (2, iV p2), (3, iV v2), (4, iV v8), (6, iV x14)] dX12_readsForNothing_108 (Nat.le_of_ble_eq_true rfl) rfl ?_
        refine go_iinc C (x14 + (-1)) [(6, iV (x14 + (-1))), (5, iV v19), (0, rV (some a0)), (1, iV p1), (2, iV p2), (3, iV v2), (4, iV v8)] dX12_readsForNothing_110 6 rfl (by rw [kc_im1]) (Nat.le_of_ble_eq_true rfl) rfl ?_
        refine go_goto C 84 dX12_readsForNothing_113 (by decide) ?_
        refine go_sub [2, 3, 4, 5, 6, 1, 0] rfl ?_
        exact hj84 v19 (x14 + (-1)) hw
      refine go_icmp_lt C 106 dX12_readsForNothing_98 (by decide) hw (fun hw => ?_) (fun hw => ?_)
      · refine go_iload C dX12_readsForNothing_106 5 rfl ?_
        refine go_sub [0, 1, 2, 3, 4, 6] rfl ?_
        exact hj108 x13 hw
      refine go_iload C dX12_readsForNothing_101 6 rfl ?_
      refine go_goto C 108 dX12_readsForNothing_103 (by decide) ?_
      refine go_sub [0, 1, 2, 3, 4, 6] rfl ?_
      exact hj108 x14 hw
    refine go_icmp_ne C 43 dX12_readsForNothing_33 (by decide) hw (fun hw => ?_) (fun hw => ?_)
    · refine go_aload_n C dX12_readsForNothing_43 1 rfl ?_
      refine go_getI C (cfX12) (k := 49) (Nat.le_of_ble_eq_true rfl) tw7_132 rfl dX12_readsForNothing_44 hw (fun v20 hw => ?_)
      refine go_bipush C 60 dX12_readsForNothing_47 kc_b60 ?_
      refine go_icmp_ne C 56 dX12_readsForNothing_49 (by decide) hw (fun hw => ?_) (fun hw => ?_)
      · refine go_aload_n C dX12_readsForNothing_56 1 rfl ?_
        refine go_getI C (cfX12) (k := 50) (Nat.le_of_ble_eq_true rfl) tw7_133 rfl dX12_readsForNothing_57 hw (fun v21 hw => ?_)
        refine go_iconst C 1 dX12_readsForNothing_60 kc_i1 ?_
        refine go_iadd C dX12_readsForNothing_61 ?_
        refine go_sub [1, 2, 3, 0] rfl ?_
        exact hj62 (v21 + 1) hw
      refine go_iconst C 0 dX12_readsForNothing_52 kc_i0 ?_
      refine go_goto C 62 dX12_readsForNothing_53 (by decide) ?_
      refine go_sub [1, 2, 3, 0] rfl ?_
      exact hj62 0 hw
    refine go_aload_n C dX12_readsForNothing_36 1 rfl ?_
    refine go_getI C (cfX12) (k := 50) (Nat.le_of_ble_eq_true rfl) tw7_133 rfl dX12_readsForNothing_37 hw (fun v22 hw => ?_)
    refine go_goto C 62 dX12_readsForNothing_40 (by decide) ?_
    refine go_sub [1, 2, 3, 0] rfl ?_
    exact hj62 v22 hw
  exact go_vret C dX12_readsForNothing_26 hw (Nat.le_of_ble_eq_true rfl) (Nat.le_of_ble_eq_true rfl)
/-- DuelSchemaModel.nextRow(III)I -/
def w_X12_nextRow (N : Nat) (a0 : Nat) (p1 : Int32) (p2 : Int32) (p3 : Int32) (h0 : Hp) (K : Int32 → Hp → Prop) : Prop :=
  gA h0 a0 12 26 fun a1 =>
  gA h0 a0 12 39 fun a2 =>
  aI h0 a2 0 p2 fun v3 =>
  aI h0 a1 0 ((3 * p1) + v3) fun v4 =>
  gA h0 a0 12 40 fun a5 =>
  aI h0 a5 0 p2 fun v6 =>
  br (v6 = 0) (
    gA h0 a0 12 47 fun a36 =>
    aI h0 a36 0 p2 fun v37 =>
    gA h0 a0 12 3 fun a38 =>
    aI h0 a38 0 v4 fun v39 =>
    br (v37 = v39) (
      K (-1) h0) (
      jn (fun (h40 : Hp) => 
        gA h40 a0 12 47 fun a41 =>
        aI h40 a41 0 p2 fun v42 =>
        sI h40 a41 0 p2 (v42 + 1) fun h43 =>
        K v37 h43) (fun j70 =>
      br ((v37 - v37 / 4 * 4) = 0) (
        cv h0 a0 12 <| w_X12_looksUp N a0 p3 ((100 * v4) + (v37 / 4)) h0 fun h44 =>
        j70 h44) (
        j70 h0)))) (
    gA h0 a0 12 41 fun a7 =>
    aI h0 a7 0 p2 fun v8 =>
    cv h0 a0 12 <| w_X12_wants N a0 p1 p2 h0 fun h9 =>
    fx1 (fun (w97 : Hp → Prop) (h10 : Hp) =>
      gA h10 a0 12 47 fun a11 =>
      aI h10 a11 0 p2 fun v12 =>
      gA h10 a0 12 18 fun a13 =>
      aI h10 a13 0 v8 fun v14 =>
      br (v14 ≤ v12) (
        cv h10 a0 12 <| w_X12_readsForNothing N a0 p2 p3 h10 fun h15 =>
        K (-1) h15) (
        gA h10 a0 12 47 fun a16 =>
        aI h10 a16 0 p2 fun v17 =>
        gA h10 a0 12 47 fun a18 =>
        aI h10 a18 0 p2 fun v19 =>
        sI h10 a18 0 p2 (v19 + 1) fun h20 =>
        gI h20 a0 12 49 fun v21 =>
        gI h20 a0 12 50 fun v22 =>
        cv h20 a0 12 <| w_X12_entryValue N a0 v8 v17 h20 fun v23 =>
        w_X12_holds N v21 v22 v23 h20 fun v24 =>
        br (v24 = 0) (
          w97 h20) (
          gA h20 a0 12 48 fun a25 =>
          aI h20 a25 0 p2 fun v26 =>
          jn (fun (h27 : Hp) => 
            gA h27 a0 12 17 fun a28 =>
            aI h27 a28 0 ((40 * v8) + v17) fun v29 =>
            cv h27 a0 12 <| w_X12_looksUp N a0 p3 ((100 * v4) + (v29 / 4)) h27 fun h30 =>
            gA h30 a0 12 17 fun a31 =>
            aI h30 a31 0 ((40 * v8) + v17) fun v32 =>
            K v32 h30) (fun j196 =>
          br (v26 = (v17 / 8)) (
            j196 h20) (
            gA h20 a0 12 48 fun a33 =>
            sI h20 a33 0 p2 (v17 / 8) fun h34 =>
            cv h34 a0 12 <| w_X12_looksUp N a0 p3 ((100 * (3 + v8)) + (v17 / 8)) h34 fun h35 =>
            j196 h35))))) N h9)
abbrev rmX12_nextRow : Room := { frames := 5, cells := 0, slots := 0, locals := 133 }
theorem vX12_nextRow : VI RX12 yX12_nextRow cX12_nextRow 7 (some .int) 3 := ⟨tw9_64, tp83, tw1_8, tw9_65, by decide +kernel⟩
set_option maxHeartbeats 4000000 in
theorem m_X12_nextRow {G : Gp} (l : Launch) (hfl : l.stackTraces = false) (N : Nat) {a0 : Nat} {p1 : Int32} {p2 : Int32} {p3 : Int32} {h0 : Hp} {K : Int32 → Hp → Prop} (hw : w_X12_nextRow N a0 p1 p2 p3 h0 K) : MT G l yX12_nextRow cX12_nextRow 7 (some .int) rmX12_nextRow [rV (some a0), iV p1, iV p2, iV p3] h0 (QI G K) := by
  refine go_metT l hfl _ 7 _ _ rfl (by decide +kernel) (Nat.le_of_ble_eq_true rfl) [(0, rV (some a0)), (1, iV p1), (2, iV p2), (3, iV p3)] rfl (fun X hX C hn => ?_)
  subst hX
  unfold w_X12_nextRow at hw
  refine go_aload_n C dX12_nextRow_0 0 rfl ?_
  refine go_getA C (cfX12) (k := 26) (Nat.le_of_ble_eq_true rfl) tw7_109 rfl dX12_nextRow_1 hw (fun a1 hw => ?_)
  refine go_iconst C 3 dX12_nextRow_4 kc_i3 ?_
  refine go_iload_n C dX12_nextRow_5 1 rfl ?_
  refine go_imul C dX12_nextRow_6 ?_
  refine go_aload_n C dX12_nextRow_7 0 rfl ?_
  refine go_getA C (cfX12) (k := 39) (Nat.le_of_ble_eq_true rfl) tw7_122 rfl dX12_nextRow_8 hw (fun a2 hw => ?_)
  refine go_iload_n C dX12_nextRow_11 2 rfl ?_
  refine go_iaload C dX12_nextRow_12 hw (fun v3 hw => ?_)
  refine go_iadd C dX12_nextRow_13 ?_
  refine go_iaload C dX12_nextRow_14 hw (fun v4 hw => ?_)
  refine go_istore C [(4, iV v4), (0, rV (some a0)), (1, iV p1), (2, iV p2), (3, iV p3)] dX12_nextRow_15 (Nat.le_of_ble_eq_true rfl) rfl ?_
  refine go_aload_n C dX12_nextRow_17 1 rfl ?_
  refine go_getA C (cfX12) (k := 40) (Nat.le_of_ble_eq_true rfl) tw7_123 rfl dX12_nextRow_18 hw (fun a5 hw => ?_)
  refine go_iload_n C dX12_nextRow_21 3 rfl ?_
  refine go_iaload C dX12_nextRow_22 hw (fun v6 hw => ?_)
  refine go_if_ne C 83 dX12_nextRow_23 (by decide) hw (fun hw => ?_) (fun hw => ?_)
  · refine go_aload_n C dX12_nextRow_83 1 rfl ?_
    refine go_getA C (cfX12) (k := 41) (Nat.le_of_ble_eq_true rfl) tw7_124 rfl dX12_nextRow_84 hw (fun a7 hw => ?_)
    refine go_iload_n C dX12_nextRow_87 3 rfl ?_
    refine go_iaload C dX12_nextRow_88 hw (fun v8 hw => ?_)
    refine go_istore C [(5, iV v8), (4, iV v4), (0, rV (some a0)), (1, iV p1), (2, iV p2), (3, iV p3)] dX12_nextRow_89 (Nat.le_of_ble_eq_true rfl) rfl ?_
    refine go_aload_n C dX12_nextRow_91 2 rfl ?_
    refine go_iload_n C dX12_nextRow_92 3 rfl ?_
    refine go_iload_n C dX12_nextRow_93 4 rfl ?_
    refine go_c0V_v C [iV p1, iV p2] vX12_wants tw9_70 (ci := 12) rfl (m_X12_wants (xl X) C.2.2.2.2.2.2.2.1 N hw.2) ⟨Nat.le_of_ble_eq_true rfl, Nat.le_of_ble_eq_true rfl, Nat.le_of_ble_eq_true rfl, Nat.le_of_ble_eq_true rfl⟩ ⟨rfl, rfl⟩ hw.1 dX12_nextRow_94 rfl (Nat.le_of_ble_eq_true rfl) rfl (fun h9 hw => ?_)
    refine go_sub [2, 4, 5, 1, 0] rfl ?_
    refine fx1_elim (P := fun h10 => Go G X rmX12_nextRow 7 0 0 (QN G X (QI G K) rmX12_nextRow) h10 97 [(0, rV (some a0)), (2, iV p2), (3, iV p3), (4, iV v4), (5, iV v8)] []) (fun w97 hj97 h10 hw => ?_) N _ hw
    refine go_aload_n C dX12_nextRow_97 0 rfl ?_
    refine go_getA C (cfX12) (k := 47) (Nat.le_of_ble_eq_true rfl) tw7_130 rfl dX12_nextRow_98 hw (fun a11 hw => ?_)
    refine go_iload_n C dX12_nextRow_101 1 rfl ?_
    refine go_iaload C dX12_nextRow_102 hw (fun v12 hw => ?_)
    refine go_aload_n C dX12_nextRow_103 0 rfl ?_
    refine go_getA C (cfX12) (k := 18) (Nat.le_of_ble_eq_true rfl) tw7_101 rfl dX12_nextRow_104 hw (fun a13 hw => ?_)
    refine go_iload C dX12_nextRow_107 4 rfl ?_
    refine go_iaload C dX12_nextRow_109 hw (fun v14 hw => ?_)
    refine go_icmp_ge C 239 dX12_nextRow_110 (by decide) hw (fun hw => ?_) (fun hw => ?_)
    · refine go_aload_n C dX12_nextRow_239 0 rfl ?_
      refine go_iload_n C dX12_nextRow_240 1 rfl ?_
      refine go_iload_n C dX12_nextRow_241 2 rfl ?_
      refine go_c0V_v C [iV p2, iV p3] vX12_readsForNothing tw9_78 (ci := 12) rfl (m_X12_readsForNothing (xl X) C.2.2.2.2.2.2.2.1 N hw.2) ⟨Nat.le_of_ble_eq_true rfl, Nat.le_of_ble_eq_true rfl, Nat.le_of_ble_eq_true rfl, Nat.le_of_ble_eq_true rfl⟩ ⟨rfl, rfl⟩ hw.1 dX12_nextRow_242 rfl (Nat.le_of_ble_eq_true rfl) rfl (fun h15 hw => ?_)
      refine go_iconst C (-1) dX12_nextRow_245 kc_im1 ?_
      exact go_iret C dX12_nextRow_246 hw (Nat.le_of_ble_eq_true rfl) (Nat.le_of_ble_eq_true rfl)
    refine go_aload_n C dX12_nextRow_113 0 rfl ?_
    refine go_getA C (cfX12) (k := 47) (Nat.le_of_ble_eq_true rfl) tw7_130 rfl dX12_nextRow_114 hw (fun a16 hw => ?_)
    refine go_iload_n C dX12_nextRow_117 1 rfl ?_
    refine go_iaload C dX12_nextRow_118 hw (fun v17 hw => ?_)
    refine go_istore C [(6, iV v17), (0, rV (some a0)), (2, iV p2), (3, iV p3), (4, iV v4), (5, iV v8)] dX12_nextRow_119 (Nat.le_of_ble_eq_true rfl) rfl ?_
    refine go_aload_n C dX12_nextRow_121 1 rfl ?_
    refine go_getA C (cfX12) (k := 47) (Nat.le_of_ble_eq_true rfl) tw7_130 rfl dX12_nextRow_122 hw (fun a18 hw => ?_)
    refine go_iload_n C dX12_nextRow_125 2 rfl ?_
    refine go_dup2 C _ _ dX12_nextRow_126 rfl rfl ?_
    refine go_iaload C dX12_nextRow_127 hw (fun v19 hw => ?_)
    refine go_iconst C 1 dX12_nextRow_128 kc_i1 ?_
    refine go_iadd C dX12_nextRow_129 ?_
    refine go_iastore C dX12_nextRow_130 hw (fun h20 hw => ?_)
    refine go_aload_n C dX12_nextRow_131 1 rfl ?_
    refine go_getI C (cfX12) (k := 49) (Nat.le_of_ble_eq_true rfl) tw7_132 rfl dX12_nextRow_132 hw (fun v21 hw => ?_)
    refine go_aload_n C dX12_nextRow_135 1 rfl ?_
    refine go_getI C (cfX12) (k := 50) (Nat.le_of_ble_eq_true rfl) tw7_133 rfl dX12_nextRow_136 hw (fun v22 hw => ?_)
    refine go_aload_n C dX12_nextRow_139 1 rfl ?_
    refine go_iload C dX12_nextRow_140 5 rfl ?_
    refine go_iload C dX12_nextRow_142 0 rfl ?_
    refine go_pV_i C [iV v8, iV v17] vX12_entryValue tw9_74 (ci := 12) rfl (m_X12_entryValue (xl X) C.2.2.2.2.2.2.2.1 N hw.2) ⟨Nat.le_of_ble_eq_true rfl, Nat.le_of_ble_eq_true rfl, Nat.le_of_ble_eq_true rfl, Nat.le_of_ble_eq_true rfl⟩ ⟨rfl, rfl⟩ hw.1 dX12_nextRow_144 rfl (Nat.le_of_ble_eq_true rfl) rfl (fun v23 hw => ?_)
    refine go_pS_i C [iV v21, iV v22, iV v23] vX12_holds tw8_182 (m_X12_holds (xl X) C.2.2.2.2.2.2.2.1 N hw) ⟨Nat.le_of_ble_eq_true rfl, Nat.le_of_ble_eq_true rfl, Nat.le_of_ble_eq_true rfl, Nat.le_of_ble_eq_true rfl⟩ ⟨rfl, rfl⟩ dX12_nextRow_147 rfl (Nat.le_of_ble_eq_true rfl) rfl (fun v24 hw => ?_)
    refine go_if_eq C 236 dX12_nextRow_150 (by decide) hw (fun hw => ?_) (fun hw => ?_)
    · refine go_goto C 97 dX12_nextRow_236 (by decide) ?_
      refine go_sub [1, 2, 3, 4, 5] rfl ?_
      exact hj97 h20 hw
    refine go_aload_n C dX12_nextRow_153 1 rfl ?_
    refine go_getA C (cfX12) (k := 48) (Nat.le_of_ble_eq_true rfl) tw7_131 rfl dX12_nextRow_154 hw (fun a25 hw => ?_)
    refine go_iload_n C dX12_nextRow_157 2 rfl ?_
    refine go_iaload C dX12_nextRow_158 hw (fun v26 hw => ?_)
    refine go_iload C dX12_nextRow_159 0 rfl ?_
    refine go_bipush C 8 dX12_nextRow_161 kc_b8 ?_
    refine go_idiv C dX12_nextRow_163 ⟨by decide, hw⟩ (fun hw => ?_)
    refine jn_elim (P := fun j => ∀ (h27 : Hp), j h27 → Go G X rmX12_nextRow 7 0 0 (QN G X (QI G K) rmX12_nextRow) h27 196 [(0, rV (some a0)), (3, iV p3), (4, iV v4), (5, iV v8), (6, iV v17)] []) hw (fun h27 hw => ?_) (fun j196 hj196 hw => ?_)
    · refine go_aload_n C dX12_nextRow_196 0 rfl ?_
      refine go_iload_n C dX12_nextRow_197 1 rfl ?_
      refine go_bipush C 100 dX12_nextRow_198 kc_b100 ?_
      refine go_iload C dX12_nextRow_200 2 rfl ?_
      refine go_imul C dX12_nextRow_202 ?_
      refine go_aload_n C dX12_nextRow_203 0 rfl ?_
      refine go_getA C (cfX12) (k := 17) (Nat.le_of_ble_eq_true rfl) tw7_100 rfl dX12_nextRow_204 hw (fun a28 hw => ?_)
      refine go_bipush C 40 dX12_nextRow_207 kc_b40 ?_
      refine go_iload C dX12_nextRow_209 3 rfl ?_
      refine go_imul C dX12_nextRow_211 ?_
      refine go_iload C dX12_nextRow_212 4 rfl ?_
      refine go_iadd C dX12_nextRow_214 ?_
      refine go_iaload C dX12_nextRow_215 hw (fun v29 hw => ?_)
      refine go_iconst C 4 dX12_nextRow_216 kc_i4 ?_
      refine go_idiv C dX12_nextRow_217 ⟨by decide, hw⟩ (fun hw => ?_)
      refine go_iadd C dX12_nextRow_218 ?_
      refine go_c0V_v C [iV p3, iV ((100 * v4) + (v29 / 4))] vX12_looksUp tw9_66 (ci := 12) rfl (m_X12_looksUp (xl X) C.2.2.2.2.2.2.2.1 N hw.2) ⟨Nat.le_of_ble_eq_true rfl, Nat.le_of_ble_eq_true rfl, Nat.le_of_ble_eq_true rfl, Nat.le_of_ble_eq_true rfl⟩ ⟨rfl, rfl⟩ hw.1 dX12_nextRow_219 rfl (Nat.le_of_ble_eq_true rfl) rfl (fun h30 hw => ?_)
      refine go_aload_n C dX12_nextRow_222 0 rfl ?_
      refine go_getA C (cfX12) (k := 17) (Nat.le_of_ble_eq_true rfl) tw7_100 rfl dX12_nextRow_223 hw (fun a31 hw => ?_)
      refine go_bipush C 40 dX12_nextRow_226 kc_b40 ?_
      refine go_iload C dX12_nextRow_228 3 rfl ?_
      refine go_imul C dX12_nextRow_230 ?_
      refine go_iload C dX12_nextRow_231 4 rfl ?_
      refine go_iadd C dX12_nextRow_233 ?_
      refine go_iaload C dX12_nextRow_234 hw (fun v32 hw => ?_)
      exact go_iret C dX12_nextRow_235 hw (Nat.le_of_ble_eq_true rfl) (Nat.le_of_ble_eq_true rfl)
    refine go_icmp_eq C 196 dX12_nextRow_164 (by decide) hw (fun hw => ?_) (fun hw => ?_)
    · refine go_sub [1, 3, 4, 5, 0] rfl ?_
      exact hj196 h20 hw
    refine go_aload_n C dX12_nextRow_167 1 rfl ?_
    refine go_getA C (cfX12) (k := 48) (Nat.le_of_ble_eq_true rfl) tw7_131 rfl dX12_nextRow_168 hw (fun a33 hw => ?_)
    refine go_iload_n C dX12_nextRow_171 2 rfl ?_
    refine go_iload C dX12_nextRow_172 0 rfl ?_
    refine go_bipush C 8 dX12_nextRow_174 kc_b8 ?_
    refine go_idiv C dX12_nextRow_176 ⟨by decide, hw⟩ (fun hw => ?_)
    refine go_iastore C dX12_nextRow_177 hw (fun h34 hw => ?_)
    refine go_aload_n C dX12_nextRow_178 1 rfl ?_
    refine go_iload_n C dX12_nextRow_179 3 rfl ?_
    refine go_bipush C 100 dX12_nextRow_180 kc_b100 ?_
    refine go_iconst C 3 dX12_nextRow_182 kc_i3 ?_
    refine go_iload C dX12_nextRow_183 5 rfl ?_
    refine go_iadd C dX12_nextRow_185 ?_
    refine go_imul C dX12_nextRow_186 ?_
    refine go_iload C dX12_nextRow_187 0 rfl ?_
    refine go_bipush C 8 dX12_nextRow_189 kc_b8 ?_
    refine go_idiv C dX12_nextRow_191 ⟨by decide, hw⟩ (fun hw => ?_)
    refine go_iadd C dX12_nextRow_192 ?_
    refine go_c0V_v C [iV p3, iV ((100 * (3 + v8)) + (v17 / 8))] vX12_looksUp tw9_66 (ci := 12) rfl (m_X12_looksUp (xl X) C.2.2.2.2.2.2.2.1 N hw.2) ⟨Nat.le_of_ble_eq_true rfl, Nat.le_of_ble_eq_true rfl, Nat.le_of_ble_eq_true rfl, Nat.le_of_ble_eq_true rfl⟩ ⟨rfl, rfl⟩ hw.1 dX12_nextRow_193 rfl (Nat.le_of_ble_eq_true rfl) rfl (fun h35 hw => ?_)
    refine go_sub [1, 3, 4, 5, 0] rfl ?_
    exact hj196 h35 hw
  refine go_aload_n C dX12_nextRow_26 1 rfl ?_
  refine go_getA C (cfX12) (k := 47) (Nat.le_of_ble_eq_true rfl) tw7_130 rfl dX12_nextRow_27 hw (fun a36 hw => ?_)
  refine go_iload_n C dX12_nextRow_30 3 rfl ?_
  refine go_iaload C dX12_nextRow_31 hw (fun v37 hw => ?_)
  refine go_istore C [(5, iV v37), (4, iV v4), (0, rV (some a0)), (1, iV p1), (2, iV p2), (3, iV p3)] dX12_nextRow_32 (Nat.le_of_ble_eq_true rfl) rfl ?_
  refine go_iload C dX12_nextRow_34 0 rfl ?_
  refine go_aload_n C dX12_nextRow_36 2 rfl ?_
  refine go_getA C (cfX12) (k := 3) (Nat.le_of_ble_eq_true rfl) tw7_86 rfl dX12_nextRow_37 hw (fun a38 hw => ?_)
  refine go_iload C dX12_nextRow_40 1 rfl ?_
  refine go_iaload C dX12_nextRow_42 hw (fun v39 hw => ?_)
  refine go_icmp_ne C 48 dX12_nextRow_43 (by decide) hw (fun hw => ?_) (fun hw => ?_)
  · refine go_iload C dX12_nextRow_48 0 rfl ?_
    refine go_iconst C 4 dX12_nextRow_50 kc_i4 ?_
    refine go_irem C dX12_nextRow_51 ⟨by decide, hw⟩ (fun hw => ?_)
    refine jn_elim (P := fun j => ∀ (h40 : Hp), j h40 → Go G X rmX12_nextRow 7 0 0 (QN G X (QI G K) rmX12_nextRow) h40 70 [(0, rV (some a0)), (2, iV p2), (5, iV v37)] []) hw (fun h40 hw => ?_) (fun j70 hj70 hw => ?_)
    · refine go_aload_n C dX12_nextRow_70 0 rfl ?_
      refine go_getA C (cfX12) (k := 47) (Nat.le_of_ble_eq_true rfl) tw7_130 rfl dX12_nextRow_71 hw (fun a41 hw => ?_)
      refine go_iload_n C dX12_nextRow_74 1 rfl ?_
      refine go_dup2 C _ _ dX12_nextRow_75 rfl rfl ?_
      refine go_iaload C dX12_nextRow_76 hw (fun v42 hw => ?_)
      refine go_iconst C 1 dX12_nextRow_77 kc_i1 ?_
      refine go_iadd C dX12_nextRow_78 ?_
      refine go_iastore C dX12_nextRow_79 hw (fun h43 hw => ?_)
      refine go_iload C dX12_nextRow_80 2 rfl ?_
      exact go_iret C dX12_nextRow_82 hw (Nat.le_of_ble_eq_true rfl) (Nat.le_of_ble_eq_true rfl)
    refine go_if_ne C 70 dX12_nextRow_52 (by decide) hw (fun hw => ?_) (fun hw => ?_)
    · refine go_sub [2, 4, 0] rfl ?_
      exact hj70 h0 hw
    refine go_aload_n C dX12_nextRow_55 2 rfl ?_
    refine go_iload_n C dX12_nextRow_56 5 rfl ?_
    refine go_bipush C 100 dX12_nextRow_57 kc_b100 ?_
    refine go_iload C dX12_nextRow_59 1 rfl ?_
    refine go_imul C dX12_nextRow_61 ?_
    refine go_iload C dX12_nextRow_62 0 rfl ?_
    refine go_iconst C 4 dX12_nextRow_64 kc_i4 ?_
    refine go_idiv C dX12_nextRow_65 ⟨by decide, hw⟩ (fun hw => ?_)
    refine go_iadd C dX12_nextRow_66 ?_
    refine go_c0V_v C [iV p3, iV ((100 * v4) + (v37 / 4))] vX12_looksUp tw9_66 (ci := 12) rfl (m_X12_looksUp (xl X) C.2.2.2.2.2.2.2.1 N hw.2) ⟨Nat.le_of_ble_eq_true rfl, Nat.le_of_ble_eq_true rfl, Nat.le_of_ble_eq_true rfl, Nat.le_of_ble_eq_true rfl⟩ ⟨rfl, rfl⟩ hw.1 dX12_nextRow_67 rfl (Nat.le_of_ble_eq_true rfl) rfl (fun h44 hw => ?_)
    refine go_sub [2, 4, 0] rfl ?_
    exact hj70 h44 hw
  refine go_iconst C (-1) dX12_nextRow_46 kc_im1 ?_
  exact go_iret C dX12_nextRow_47 hw (Nat.le_of_ble_eq_true rfl) (Nat.le_of_ble_eq_true rfl)
/-- DuelSchemaModel.runs(IIII)V -/
def w_X12_runs (N : Nat) (a0 : Nat) (p1 : Int32) (p2 : Int32) (p3 : Int32) (p4 : Int32) (h0 : Hp) (K : Hp → Prop) : Prop :=
  cv h0 a0 12 <| w_X12_plans N a0 p1 p2 p3 h0 fun h1 =>
  fx2 (fun (w10 : Int32 → Hp → Prop) (x3 : Int32) (h2 : Hp) =>
    gI h2 a0 12 13 fun v4 =>
    br (v4 ≤ x3) (
      pF h2 a0 12 22 (iV 0) fun h5 =>
      pF h5 a0 12 23 (iV 0) fun h6 =>
      cv h6 a0 12 <| w_X12_choosesNone N a0  h6 fun h7 =>
      cv h7 a0 12 <| w_X12_beginsAt N a0 0 h7 fun h8 =>
      fx2 (fun (w53 : Int32 → Hp → Prop) (x10 : Int32) (h9 : Hp) =>
        br (x10 < 0) (
          K h9) (
          gA h9 a0 12 39 fun a11 =>
          aI h9 a11 0 x10 fun v12 =>
          gA h9 a0 12 37 fun a13 =>
          sI h9 a13 0 v12 (-1) fun h14 =>
          cv h14 a0 12 <| w_X12_nextRow N a0 p2 x10 p4 h14 fun v15 h16 =>
          jn (fun (x18 : Int32) (h17 : Hp) => 
            w53 x18 h17) (fun j138 =>
          br (0 ≤ v15) (
            gA h16 a0 12 37 fun a19 =>
            sI h16 a19 0 v12 v15 fun h20 =>
            cv h20 a0 12 <| w_X12_fits N a0 p2 v12 h20 fun v21 =>
            br (v21 = 0) (
              j138 x10 h20) (
              gA h20 a0 12 25 fun a22 =>
              aI h20 a22 0 p2 fun v23 =>
              br ((v23 - 1) ≤ x10) (
                j138 x10 h20) (
                cv h20 a0 12 <| w_X12_beginsAt N a0 (x10 + 1) h20 fun h24 =>
                j138 (x10 + 1) h24))) (
            j138 (x10 + (-1)) h16)))) N 0 h8) (
      cv h2 a0 12 <| w_X12_lists N a0 x3 h2 fun h25 =>
      w10 (x3 + 1) h25)) N 0 h1
abbrev rmX12_runs : Room := { frames := 8, cells := 0, slots := 0, locals := 210 }
theorem vX12_runs : VI RX12 yX12_runs cX12_runs 8 none 4 := ⟨tw9_56, tp81, tw1_8, tw9_57, by decide +kernel⟩
set_option maxHeartbeats 4000000 in
theorem m_X12_runs {G : Gp} (l : Launch) (hfl : l.stackTraces = false) (N : Nat) {a0 : Nat} {p1 : Int32} {p2 : Int32} {p3 : Int32} {p4 : Int32} {h0 : Hp} {K : Hp → Prop} (hw : w_X12_runs N a0 p1 p2 p3 p4 h0 K) : MT G l yX12_runs cX12_runs 8 none rmX12_runs [rV (some a0), iV p1, iV p2, iV p3, iV p4] h0 (QV G K) := by
  refine go_metT l hfl _ 8 _ _ rfl (by decide +kernel) (Nat.le_of_ble_eq_true rfl) [(0, rV (some a0)), (1, iV p1), (2, iV p2), (3, iV p3), (4, iV p4)] rfl (fun X hX C hn => ?_)
  subst hX
  unfold w_X12_runs at hw
  refine go_aload_n C dX12_runs_0 0 rfl ?_
  refine go_iload_n C dX12_runs_1 1 rfl ?_
  refine go_iload_n C dX12_runs_2 2 rfl ?_
  refine go_iload_n C dX12_runs_3 3 rfl ?_
  refine go_c0V_v C [iV p1, iV p2, iV p3] vX12_plans tw8_202 (ci := 12) rfl (m_X12_plans (xl X) C.2.2.2.2.2.2.2.1 N hw.2) ⟨Nat.le_of_ble_eq_true rfl, Nat.le_of_ble_eq_true rfl, Nat.le_of_ble_eq_true rfl, Nat.le_of_ble_eq_true rfl⟩ ⟨rfl, rfl⟩ hw.1 dX12_runs_4 rfl (Nat.le_of_ble_eq_true rfl) rfl (fun h1 hw => ?_)
  refine go_iconst C 0 dX12_runs_7 kc_i0 ?_
  refine go_istore C [(5, iV 0), (0, rV (some a0)), (1, iV p1), (2, iV p2), (3, iV p3), (4, iV p4)] dX12_runs_8 (Nat.le_of_ble_eq_true rfl) rfl ?_
  refine go_sub [1, 3, 5, 0] rfl ?_
  refine fx2_elim (P := fun x3 h2 => Go G X rmX12_runs 8 0 0 (QN G X (QV G K) rmX12_runs) h2 10 [(0, rV (some a0)), (2, iV p2), (4, iV p4), (5, iV x3)] []) (fun w10 hj10 x3 h2 hw => ?_) N _ _ hw
  refine go_iload C dX12_runs_10 3 rfl ?_
  refine go_aload_n C dX12_runs_12 0 rfl ?_
  refine go_getI C (cfX12) (k := 13) (Nat.le_of_ble_eq_true rfl) tw7_96 rfl dX12_runs_13 hw (fun v4 hw => ?_)
  refine go_icmp_ge C 31 dX12_runs_16 (by decide) hw (fun hw => ?_) (fun hw => ?_)
  · refine go_aload_n C dX12_runs_31 0 rfl ?_
    refine go_iconst C 0 dX12_runs_32 kc_i0 ?_
    refine go_putI C (cfX12) (k := 22) (Nat.le_of_ble_eq_true rfl) tw7_105 rfl (Or.inl rfl) rfl dX12_runs_33 hw (fun h5 hw => ?_)
    refine go_aload_n C dX12_runs_36 0 rfl ?_
    refine go_iconst C 0 dX12_runs_37 kc_i0 ?_
    refine go_putI C (cfX12) (k := 23) (Nat.le_of_ble_eq_true rfl) tw7_106 rfl (Or.inl rfl) rfl dX12_runs_38 hw (fun h6 hw => ?_)
    refine go_aload_n C dX12_runs_41 0 rfl ?_
    refine go_c0V_v C [] vX12_choosesNone tw8_166 (ci := 12) rfl (m_X12_choosesNone (xl X) C.2.2.2.2.2.2.2.1 N hw.2) ⟨Nat.le_of_ble_eq_true rfl, Nat.le_of_ble_eq_true rfl, Nat.le_of_ble_eq_true rfl, Nat.le_of_ble_eq_true rfl⟩ ⟨rfl, rfl⟩ hw.1 dX12_runs_42 rfl (Nat.le_of_ble_eq_true rfl) rfl (fun h7 hw => ?_)
    refine go_iconst C 0 dX12_runs_45 kc_i0 ?_
    refine go_istore C [(5, iV 0), (0, rV (some a0)), (2, iV p2), (4, iV p4)] dX12_runs_46 (Nat.le_of_ble_eq_true rfl) rfl ?_
    refine go_aload_n C dX12_runs_48 1 rfl ?_
    refine go_iconst C 0 dX12_runs_49 kc_i0 ?_
    refine go_c0V_v C [iV 0] vX12_beginsAt tw9_58 (ci := 12) rfl (m_X12_beginsAt (xl X) C.2.2.2.2.2.2.2.1 N hw.2) ⟨Nat.le_of_ble_eq_true rfl, Nat.le_of_ble_eq_true rfl, Nat.le_of_ble_eq_true rfl, Nat.le_of_ble_eq_true rfl⟩ ⟨rfl, rfl⟩ hw.1 dX12_runs_50 rfl (Nat.le_of_ble_eq_true rfl) rfl (fun h8 hw => ?_)
    refine go_sub [1, 2, 3, 0] rfl ?_
    refine fx2_elim (P := fun x10 h9 => Go G X rmX12_runs 8 0 0 (QN G X (QV G K) rmX12_runs) h9 53 [(0, rV (some a0)), (2, iV p2), (4, iV p4), (5, iV x10)] []) (fun w53 hj53 x10 h9 hw => ?_) N _ _ hw
    refine go_iload C dX12_runs_53 3 rfl ?_
    refine go_if_lt C 141 dX12_runs_55 (by decide) hw (fun hw => ?_) (fun hw => ?_)
    · exact go_vret C dX12_runs_141 hw (Nat.le_of_ble_eq_true rfl) (Nat.le_of_ble_eq_true rfl)
    refine go_aload_n C dX12_runs_58 0 rfl ?_
    refine go_getA C (cfX12) (k := 39) (Nat.le_of_ble_eq_true rfl) tw7_122 rfl dX12_runs_59 hw (fun a11 hw => ?_)
    refine go_iload C dX12_runs_62 3 rfl ?_
    refine go_iaload C dX12_runs_64 hw (fun v12 hw => ?_)
    refine go_istore C [(6, iV v12), (0, rV (some a0)), (2, iV p2), (4, iV p4), (5, iV x10)] dX12_runs_65 (Nat.le_of_ble_eq_true rfl) rfl ?_
    refine go_aload_n C dX12_runs_67 1 rfl ?_
    refine go_getA C (cfX12) (k := 37) (Nat.le_of_ble_eq_true rfl) tw7_120 rfl dX12_runs_68 hw (fun a13 hw => ?_)
    refine go_iload C dX12_runs_71 0 rfl ?_
    refine go_iconst C (-1) dX12_runs_73 kc_im1 ?_
    refine go_iastore C dX12_runs_74 hw (fun h14 hw => ?_)
    refine go_aload_n C dX12_runs_75 1 rfl ?_
    refine go_iload_n C dX12_runs_76 2 rfl ?_
    refine go_iload C dX12_runs_77 4 rfl ?_
    refine go_iload C dX12_runs_79 3 rfl ?_
    refine go_c0V_i C [iV p2, iV x10, iV p4] vX12_nextRow tw9_62 (ci := 12) rfl (m_X12_nextRow (xl X) C.2.2.2.2.2.2.2.1 N hw.2) ⟨Nat.le_of_ble_eq_true rfl, Nat.le_of_ble_eq_true rfl, Nat.le_of_ble_eq_true rfl, Nat.le_of_ble_eq_true rfl⟩ ⟨rfl, rfl⟩ hw.1 dX12_runs_81 rfl (Nat.le_of_ble_eq_true rfl) rfl (fun v15 h16 hw => ?_)
    refine go_istore C [(7, iV v15), (6, iV v12), (0, rV (some a0)), (2, iV p2), (4, iV p4), (5, iV x10)] dX12_runs_84 (Nat.le_of_ble_eq_true rfl) rfl ?_
    refine go_iload C dX12_runs_86 0 rfl ?_
    refine jn_elim (P := fun j => ∀ (x18 : Int32) (h17 : Hp), j x18 h17 → Go G X rmX12_runs 8 0 0 (QN G X (QV G K) rmX12_runs) h17 138 [(0, rV (some a0)), (2, iV p2), (4, iV p4), (5, iV x18)] []) hw (fun x18 h17 hw => ?_) (fun j138 hj138 hw => ?_)
    · refine go_goto C 53 dX12_runs_138 (by decide) ?_
      exact hj53 x18 h17 hw
    refine go_if_ge C 97 dX12_runs_88 (by decide) hw (fun hw => ?_) (fun hw => ?_)
    · refine go_aload_n C dX12_runs_97 2 rfl ?_
      refine go_getA C (cfX12) (k := 37) (Nat.le_of_ble_eq_true rfl) tw7_120 rfl dX12_runs_98 hw (fun a19 hw => ?_)
      refine go_iload C dX12_runs_101 1 rfl ?_
      refine go_iload C dX12_runs_103 0 rfl ?_
      refine go_iastore C dX12_runs_105 hw (fun h20 hw => ?_)
      refine go_aload_n C dX12_runs_106 2 rfl ?_
      refine go_iload_n C dX12_runs_107 3 rfl ?_
      refine go_iload C dX12_runs_108 1 rfl ?_
      refine go_pV_i C [iV p2, iV v12] vX12_fits tw8_174 (ci := 12) rfl (m_X12_fits (xl X) C.2.2.2.2.2.2.2.1 N hw.2) ⟨Nat.le_of_ble_eq_true rfl, Nat.le_of_ble_eq_true rfl, Nat.le_of_ble_eq_true rfl, Nat.le_of_ble_eq_true rfl⟩ ⟨rfl, rfl⟩ hw.1 dX12_runs_110 rfl (Nat.le_of_ble_eq_true rfl) rfl (fun v21 hw => ?_)
      refine go_if_eq C 138 dX12_runs_113 (by decide) hw (fun hw => ?_) (fun hw => ?_)
      · refine go_sub [2, 3, 4, 5] rfl ?_
        exact hj138 x10 h20 hw
      refine go_iload C dX12_runs_116 5 rfl ?_
      refine go_aload_n C dX12_runs_118 2 rfl ?_
      refine go_getA C (cfX12) (k := 25) (Nat.le_of_ble_eq_true rfl) tw7_108 rfl dX12_runs_119 hw (fun a22 hw => ?_)
      refine go_iload_n C dX12_runs_122 3 rfl ?_
      refine go_iaload C dX12_runs_123 hw (fun v23 hw => ?_)
      refine go_iconst C 1 dX12_runs_124 kc_i1 ?_
      refine go_isub C dX12_runs_125 ?_
      refine go_icmp_ge C 138 dX12_runs_126 (by decide) hw (fun hw => ?_) (fun hw => ?_)
      · refine go_sub [2, 3, 4, 5] rfl ?_
        exact hj138 x10 h20 hw
      refine go_iinc C (x10 + 1) [(5, iV (x10 + 1)), (7, iV v15), (6, iV v12), (0, rV (some a0)), (2, iV p2), (4, iV p4)] dX12_runs_129 5 rfl (by rw [kc_i1]) (Nat.le_of_ble_eq_true rfl) rfl ?_
      refine go_aload_n C dX12_runs_132 3 rfl ?_
      refine go_iload C dX12_runs_133 0 rfl ?_
      refine go_c0V_v C [iV (x10 + 1)] vX12_beginsAt tw9_58 (ci := 12) rfl (m_X12_beginsAt (xl X) C.2.2.2.2.2.2.2.1 N hw.2) ⟨Nat.le_of_ble_eq_true rfl, Nat.le_of_ble_eq_true rfl, Nat.le_of_ble_eq_true rfl, Nat.le_of_ble_eq_true rfl⟩ ⟨rfl, rfl⟩ hw.1 dX12_runs_135 rfl (Nat.le_of_ble_eq_true rfl) rfl (fun h24 hw => ?_)
      refine go_sub [3, 4, 5, 0] rfl ?_
      exact hj138 (x10 + 1) h24 hw
    refine go_iinc C (x10 + (-1)) [(5, iV (x10 + (-1))), (7, iV v15), (6, iV v12), (0, rV (some a0)), (2, iV p2), (4, iV p4)] dX12_runs_91 5 rfl (by rw [kc_im1]) (Nat.le_of_ble_eq_true rfl) rfl ?_
    refine go_goto C 138 dX12_runs_94 (by decide) ?_
    refine go_sub [3, 4, 5, 0] rfl ?_
    exact hj138 (x10 + (-1)) h16 hw
  refine go_aload_n C dX12_runs_19 0 rfl ?_
  refine go_iload C dX12_runs_20 3 rfl ?_
  refine go_c0V_v C [iV x3] vX12_lists tw8_107 (ci := 12) rfl (m_X12_lists (xl X) C.2.2.2.2.2.2.2.1 N hw.2) ⟨Nat.le_of_ble_eq_true rfl, Nat.le_of_ble_eq_true rfl, Nat.le_of_ble_eq_true rfl, Nat.le_of_ble_eq_true rfl⟩ ⟨rfl, rfl⟩ hw.1 dX12_runs_22 rfl (Nat.le_of_ble_eq_true rfl) rfl (fun h25 hw => ?_)
  refine go_iinc C (x3 + 1) [(5, iV (x3 + 1)), (0, rV (some a0)), (2, iV p2), (4, iV p4)] dX12_runs_25 3 rfl (by rw [kc_i1]) (Nat.le_of_ble_eq_true rfl) rfl ?_
  refine go_goto C 10 dX12_runs_28 (by decide) ?_
  refine go_sub [1, 2, 3, 0] rfl ?_
  exact hj10 (x3 + 1) h25 hw
/-- DuelSchemaModel.triesCold(III)V -/
def w_X12_triesCold (N : Nat) (a0 : Nat) (p1 : Int32) (p2 : Int32) (p3 : Int32) (h0 : Hp) (K : Hp → Prop) : Prop :=
  gA h0 a0 12 21 fun a1 =>
  sI h0 a1 0 1 0 fun h2 =>
  cv h2 a0 12 <| w_X12_runs N a0 p1 p2 p3 1 h2 fun h3 =>
  K h3
abbrev rmX12_triesCold : Room := { frames := 9, cells := 0, slots := 0, locals := 237 }
theorem vX12_triesCold : VI RX12 yX12_triesCold cX12_triesCold 4 none 3 := ⟨tw9_52, tp80, tw1_8, tw9_53, by decide +kernel⟩
set_option maxHeartbeats 4000000 in
theorem m_X12_triesCold {G : Gp} (l : Launch) (hfl : l.stackTraces = false) (N : Nat) {a0 : Nat} {p1 : Int32} {p2 : Int32} {p3 : Int32} {h0 : Hp} {K : Hp → Prop} (hw : w_X12_triesCold N a0 p1 p2 p3 h0 K) : MT G l yX12_triesCold cX12_triesCold 4 none rmX12_triesCold [rV (some a0), iV p1, iV p2, iV p3] h0 (QV G K) := by
  refine go_metT l hfl _ 4 _ _ rfl (by decide +kernel) (Nat.le_of_ble_eq_true rfl) [(0, rV (some a0)), (1, iV p1), (2, iV p2), (3, iV p3)] rfl (fun X hX C hn => ?_)
  subst hX
  unfold w_X12_triesCold at hw
  refine go_aload_n C dX12_triesCold_0 0 rfl ?_
  refine go_getA C (cfX12) (k := 21) (Nat.le_of_ble_eq_true rfl) tw7_104 rfl dX12_triesCold_1 hw (fun a1 hw => ?_)
  refine go_iconst C 1 dX12_triesCold_4 kc_i1 ?_
  refine go_iconst C 0 dX12_triesCold_5 kc_i0 ?_
  refine go_iastore C dX12_triesCold_6 hw (fun h2 hw => ?_)
  refine go_aload_n C dX12_triesCold_7 0 rfl ?_
  refine go_iload_n C dX12_triesCold_8 1 rfl ?_
  refine go_iload_n C dX12_triesCold_9 2 rfl ?_
  refine go_iload_n C dX12_triesCold_10 3 rfl ?_
  refine go_iconst C 1 dX12_triesCold_11 kc_i1 ?_
  refine go_c0V_v C [iV p1, iV p2, iV p3, iV 1] vX12_runs tw9_54 (ci := 12) rfl (m_X12_runs (xl X) C.2.2.2.2.2.2.2.1 N hw.2) ⟨Nat.le_of_ble_eq_true rfl, Nat.le_of_ble_eq_true rfl, Nat.le_of_ble_eq_true rfl, Nat.le_of_ble_eq_true rfl⟩ ⟨rfl, rfl⟩ hw.1 dX12_triesCold_12 rfl (Nat.le_of_ble_eq_true rfl) rfl (fun h3 hw => ?_)
  exact go_vret C dX12_triesCold_15 hw (Nat.le_of_ble_eq_true rfl) (Nat.le_of_ble_eq_true rfl)
/-- DuelSchemaModel.cold(II)I -/
def w_X12_cold (N : Nat) (a0 : Nat) (p1 : Int32) (p2 : Int32) (h0 : Hp) (K : Int32 → Hp → Prop) : Prop :=
  pF h0 a0 12 0 (iV 0) fun h1 =>
  cv h1 a0 12 <| w_X12_noPlan N a0 p1 p2 h1 fun v2 h3 =>
  br (v2 = 0) (
    gA h3 a0 12 46 fun a4 =>
    aI h3 a4 0 p1 fun v5 =>
    cv h3 a0 12 <| w_X12_triesCold N a0 p1 p2 v5 h3 fun h6 =>
    gI h6 a0 12 22 fun v7 =>
    K v7 h6) (
    K (-1) h3)
abbrev rmX12_cold : Room := { frames := 10, cells := 0, slots := 0, locals := 260 }
theorem vX12_cold : VI RX12 yX12_cold cX12_cold 3 (some .int) 2 := ⟨tw9_47, tw9_48, tw1_8, tw9_49, by decide +kernel⟩
set_option maxHeartbeats 4000000 in
theorem m_X12_cold {G : Gp} (l : Launch) (hfl : l.stackTraces = false) (N : Nat) {a0 : Nat} {p1 : Int32} {p2 : Int32} {h0 : Hp} {K : Int32 → Hp → Prop} (hw : w_X12_cold N a0 p1 p2 h0 K) : MT G l yX12_cold cX12_cold 3 (some .int) rmX12_cold [rV (some a0), iV p1, iV p2] h0 (QI G K) := by
  refine go_metT l hfl _ 3 _ _ rfl (by decide +kernel) (Nat.le_of_ble_eq_true rfl) [(0, rV (some a0)), (1, iV p1), (2, iV p2)] rfl (fun X hX C hn => ?_)
  subst hX
  unfold w_X12_cold at hw
  refine go_aload_n C dX12_cold_0 0 rfl ?_
  refine go_iconst C 0 dX12_cold_1 kc_i0 ?_
  refine go_putI C (cfX12) (k := 0) (Nat.le_of_ble_eq_true rfl) tw7_83 rfl (Or.inl rfl) rfl dX12_cold_2 hw (fun h1 hw => ?_)
  refine go_aload_n C dX12_cold_5 0 rfl ?_
  refine go_iload_n C dX12_cold_6 1 rfl ?_
  refine go_iload_n C dX12_cold_7 2 rfl ?_
  refine go_c0V_i C [iV p1, iV p2] vX12_noPlan tw9_42 (ci := 12) rfl (m_X12_noPlan (xl X) C.2.2.2.2.2.2.2.1 N hw.2) ⟨Nat.le_of_ble_eq_true rfl, Nat.le_of_ble_eq_true rfl, Nat.le_of_ble_eq_true rfl, Nat.le_of_ble_eq_true rfl⟩ ⟨rfl, rfl⟩ hw.1 dX12_cold_8 rfl (Nat.le_of_ble_eq_true rfl) rfl (fun v2 h3 hw => ?_)
  refine go_if_eq C 16 dX12_cold_11 (by decide) hw (fun hw => ?_) (fun hw => ?_)
  · refine go_aload_n C dX12_cold_16 0 rfl ?_
    refine go_iload_n C dX12_cold_17 1 rfl ?_
    refine go_iload_n C dX12_cold_18 2 rfl ?_
    refine go_aload_n C dX12_cold_19 0 rfl ?_
    refine go_getA C (cfX12) (k := 46) (Nat.le_of_ble_eq_true rfl) tw7_129 rfl dX12_cold_20 hw (fun a4 hw => ?_)
    refine go_iload_n C dX12_cold_23 1 rfl ?_
    refine go_iaload C dX12_cold_24 hw (fun v5 hw => ?_)
    refine go_c0V_v C [iV p1, iV p2, iV v5] vX12_triesCold tw9_50 (ci := 12) rfl (m_X12_triesCold (xl X) C.2.2.2.2.2.2.2.1 N hw.2) ⟨Nat.le_of_ble_eq_true rfl, Nat.le_of_ble_eq_true rfl, Nat.le_of_ble_eq_true rfl, Nat.le_of_ble_eq_true rfl⟩ ⟨rfl, rfl⟩ hw.1 dX12_cold_25 rfl (Nat.le_of_ble_eq_true rfl) rfl (fun h6 hw => ?_)
    refine go_aload_n C dX12_cold_28 0 rfl ?_
    refine go_getI C (cfX12) (k := 22) (Nat.le_of_ble_eq_true rfl) tw7_105 rfl dX12_cold_29 hw (fun v7 hw => ?_)
    exact go_iret C dX12_cold_32 hw (Nat.le_of_ble_eq_true rfl) (Nat.le_of_ble_eq_true rfl)
  refine go_iconst C (-1) dX12_cold_14 kc_im1 ?_
  exact go_iret C dX12_cold_15 hw (Nat.le_of_ble_eq_true rfl) (Nat.le_of_ble_eq_true rfl)
/-- DuelSchemaModel.reads(II)I -/
def w_X12_reads (N : Nat) (a0 : Nat) (p1 : Int32) (p2 : Int32) (h0 : Hp) (K : Int32 → Hp → Prop) : Prop :=
  pF h0 a0 12 0 (iV 0) fun h1 =>
  cv h1 a0 12 <| w_X12_noPlan N a0 p1 p2 h1 fun v2 h3 =>
  br (v2 = 0) (
    gA h3 a0 12 46 fun a4 =>
    aI h3 a4 0 p1 fun v5 =>
    cv h3 a0 12 <| w_X12_triesCold N a0 p1 p2 v5 h3 fun h6 =>
    gI h6 a0 12 23 fun v7 =>
    K v7 h6) (
    K (-1) h3)
abbrev rmX12_reads : Room := { frames := 10, cells := 0, slots := 0, locals := 260 }
theorem vX12_reads : VI RX12 yX12_reads cX12_reads 3 (some .int) 2 := ⟨tw9_83, tw9_84, tw1_8, tw9_85, by decide +kernel⟩
set_option maxHeartbeats 4000000 in
theorem m_X12_reads {G : Gp} (l : Launch) (hfl : l.stackTraces = false) (N : Nat) {a0 : Nat} {p1 : Int32} {p2 : Int32} {h0 : Hp} {K : Int32 → Hp → Prop} (hw : w_X12_reads N a0 p1 p2 h0 K) : MT G l yX12_reads cX12_reads 3 (some .int) rmX12_reads [rV (some a0), iV p1, iV p2] h0 (QI G K) := by
  refine go_metT l hfl _ 3 _ _ rfl (by decide +kernel) (Nat.le_of_ble_eq_true rfl) [(0, rV (some a0)), (1, iV p1), (2, iV p2)] rfl (fun X hX C hn => ?_)
  subst hX
  unfold w_X12_reads at hw
  refine go_aload_n C dX12_reads_0 0 rfl ?_
  refine go_iconst C 0 dX12_reads_1 kc_i0 ?_
  refine go_putI C (cfX12) (k := 0) (Nat.le_of_ble_eq_true rfl) tw7_83 rfl (Or.inl rfl) rfl dX12_reads_2 hw (fun h1 hw => ?_)
  refine go_aload_n C dX12_reads_5 0 rfl ?_
  refine go_iload_n C dX12_reads_6 1 rfl ?_
  refine go_iload_n C dX12_reads_7 2 rfl ?_
  refine go_c0V_i C [iV p1, iV p2] vX12_noPlan tw9_42 (ci := 12) rfl (m_X12_noPlan (xl X) C.2.2.2.2.2.2.2.1 N hw.2) ⟨Nat.le_of_ble_eq_true rfl, Nat.le_of_ble_eq_true rfl, Nat.le_of_ble_eq_true rfl, Nat.le_of_ble_eq_true rfl⟩ ⟨rfl, rfl⟩ hw.1 dX12_reads_8 rfl (Nat.le_of_ble_eq_true rfl) rfl (fun v2 h3 hw => ?_)
  refine go_if_eq C 16 dX12_reads_11 (by decide) hw (fun hw => ?_) (fun hw => ?_)
  · refine go_aload_n C dX12_reads_16 0 rfl ?_
    refine go_iload_n C dX12_reads_17 1 rfl ?_
    refine go_iload_n C dX12_reads_18 2 rfl ?_
    refine go_aload_n C dX12_reads_19 0 rfl ?_
    refine go_getA C (cfX12) (k := 46) (Nat.le_of_ble_eq_true rfl) tw7_129 rfl dX12_reads_20 hw (fun a4 hw => ?_)
    refine go_iload_n C dX12_reads_23 1 rfl ?_
    refine go_iaload C dX12_reads_24 hw (fun v5 hw => ?_)
    refine go_c0V_v C [iV p1, iV p2, iV v5] vX12_triesCold tw9_50 (ci := 12) rfl (m_X12_triesCold (xl X) C.2.2.2.2.2.2.2.1 N hw.2) ⟨Nat.le_of_ble_eq_true rfl, Nat.le_of_ble_eq_true rfl, Nat.le_of_ble_eq_true rfl, Nat.le_of_ble_eq_true rfl⟩ ⟨rfl, rfl⟩ hw.1 dX12_reads_25 rfl (Nat.le_of_ble_eq_true rfl) rfl (fun h6 hw => ?_)
    refine go_aload_n C dX12_reads_28 0 rfl ?_
    refine go_getI C (cfX12) (k := 23) (Nat.le_of_ble_eq_true rfl) tw7_106 rfl dX12_reads_29 hw (fun v7 hw => ?_)
    exact go_iret C dX12_reads_32 hw (Nat.le_of_ble_eq_true rfl) (Nat.le_of_ble_eq_true rfl)
  refine go_iconst C (-1) dX12_reads_14 kc_im1 ?_
  exact go_iret C dX12_reads_15 hw (Nat.le_of_ble_eq_true rfl) (Nat.le_of_ble_eq_true rfl)
/-- DuelSchemaModel.ones(I)I -/
def w_X12_ones (N : Nat) (p0 : Int32) (h0 : Hp) (K : Int32 → Prop) : Prop :=
  fx2 (fun (w4 : Int32 → Int32 → Prop) (x1 : Int32) (x2 : Int32) =>
    br (6 ≤ x2) (
      K x1) (
      w4 (x1 + ((p0 >>> (x2 &&& 31)) &&& 1)) (x2 + 1))) N 0 0
abbrev rmX12_ones : Room := { frames := 2, cells := 0, slots := 0, locals := 60 }
theorem vX12_ones : SI yX12_ones cX12_ones 3 (some .int) 1 := ⟨tw9_91, tw1_8, tw9_92, by decide +kernel⟩
set_option maxHeartbeats 4000000 in
theorem m_X12_ones {G : Gp} (l : Launch) (hfl : l.stackTraces = false) (N : Nat) {p0 : Int32} {h0 : Hp} {K : Int32 → Prop} (hw : w_X12_ones N p0 h0 K) : MT G l yX12_ones cX12_ones 3 (some .int) rmX12_ones [iV p0] h0 (QI G (fun r h1 => h1 = h0 ∧ K r)) := by
  refine go_metT l hfl _ 3 _ _ rfl (by decide +kernel) (Nat.le_of_ble_eq_true rfl) [(0, iV p0)] rfl (fun X hX C hn => ?_)
  subst hX
  unfold w_X12_ones at hw
  refine go_iconst C 0 dX12_ones_0 kc_i0 ?_
  refine go_istore_n C [(1, iV 0), (0, iV p0)] dX12_ones_1 (Nat.le_of_ble_eq_true rfl) rfl ?_
  refine go_iconst C 0 dX12_ones_2 kc_i0 ?_
  refine go_istore_n C [(2, iV 0), (1, iV 0), (0, iV p0)] dX12_ones_3 (Nat.le_of_ble_eq_true rfl) rfl ?_
  refine go_sub [2, 1, 0] rfl ?_
  refine fx2_elim (P := fun x1 x2 => Go G X rmX12_ones 3 0 0 (QN G X (QI G (fun r h1 => h1 = h0 ∧ K r)) rmX12_ones) h0 4 [(0, iV p0), (1, iV x1), (2, iV x2)] []) (fun w4 hj4 x1 x2 hw => ?_) N _ _ hw
  refine go_iload_n C dX12_ones_4 2 rfl ?_
  refine go_bipush C 6 dX12_ones_5 kc_b6 ?_
  refine go_icmp_ge C 24 dX12_ones_7 (by decide) hw (fun hw => ?_) (fun hw => ?_)
  · refine go_iload_n C dX12_ones_24 1 rfl ?_
    exact go_iret C dX12_ones_25 ⟨rfl, hw⟩ (Nat.le_of_ble_eq_true rfl) (Nat.le_of_ble_eq_true rfl)
  refine go_iload_n C dX12_ones_10 1 rfl ?_
  refine go_iload_n C dX12_ones_11 0 rfl ?_
  refine go_iload_n C dX12_ones_12 2 rfl ?_
  refine go_ishr C dX12_ones_13 ?_
  refine go_iconst C 1 dX12_ones_14 kc_i1 ?_
  refine go_iand C dX12_ones_15 ?_
  refine go_iadd C dX12_ones_16 ?_
  refine go_istore_n C [(1, iV (x1 + ((p0 >>> (x2 &&& 31)) &&& 1))), (0, iV p0), (2, iV x2)] dX12_ones_17 (Nat.le_of_ble_eq_true rfl) rfl ?_
  refine go_iinc C (x2 + 1) [(2, iV (x2 + 1)), (1, iV (x1 + ((p0 >>> (x2 &&& 31)) &&& 1))), (0, iV p0)] dX12_ones_18 2 rfl (by rw [kc_i1]) (Nat.le_of_ble_eq_true rfl) rfl ?_
  refine go_goto C 4 dX12_ones_21 (by decide) ?_
  refine go_sub [2, 1, 0] rfl ?_
  exact hj4 (x1 + ((p0 >>> (x2 &&& 31)) &&& 1)) (x2 + 1) hw
/-- DuelSchemaModel.ban(II)I -/
def w_X12_ban (N : Nat) (a0 : Nat) (p1 : Int32) (p2 : Int32) (h0 : Hp) (K : Int32 → Hp → Prop) : Prop :=
  pF h0 a0 12 0 (iV 0) fun h1 =>
  w_X12_in N p1 0 1 h1 fun v2 =>
  jn (fun (v3 : Int32) => 
    cv h1 a0 12 <| w_X12_fails N a0 v3 1 h1 fun v4 h5 =>
    br (v4 = 0) (
      cv h5 a0 12 <| w_X12_isIndex N a0 p2 h5 fun v6 =>
      jn (fun (v7 : Int32) => 
        cv h5 a0 12 <| w_X12_fails N a0 v7 2 h5 fun v8 h9 =>
        br (v8 = 0) (
          gA h9 a0 12 46 fun a10 =>
          aI h9 a10 0 (1 - p1) fun v11 =>
          jn (fun (v12 : Int32) => 
            cv h9 a0 12 <| w_X12_fails N a0 v12 3 h9 fun v13 h14 =>
            br (v13 = 0) (
              gA h14 a0 12 51 fun a15 =>
              aI h14 a15 0 p1 fun v16 =>
              jn (fun (v17 : Int32) => 
                cv h14 a0 12 <| w_X12_fails N a0 v17 4 h14 fun v18 h19 =>
                br (v18 = 0) (
                  gA h19 a0 12 46 fun a20 =>
                  aI h19 a20 0 (1 - p1) fun v21 =>
                  sI h19 a20 0 (1 - p1) (v21 ||| (1 <<< (p2 &&& 31))) fun h22 =>
                  gA h22 a0 12 51 fun a23 =>
                  aI h22 a23 0 p1 fun v24 =>
                  sI h22 a23 0 p1 (v24 - 2) fun h25 =>
                  gA h25 a0 12 51 fun a26 =>
                  aI h25 a26 0 p1 fun v27 =>
                  K v27 h25) (
                  K (-1) h19)) (fun j105 =>
              br (2 ≤ v16) (
                j105 0) (
                j105 1))) (
              K (-1) h14)) (fun j82 =>
          jn (
            j82 1) (fun j77 =>
          br (((v11 >>> (p2 &&& 31)) &&& 1) = 1) (
            j77 ) (
            w_X12_ones N v11 h9 fun v28 =>
            br (v28 = 2) (
              j77 ) (
              j82 0))))) (
          K (-1) h9)) (fun j41 =>
      br (v6 = 0) (
        j41 1) (
        j41 0))) (
      K (-1) h5)) (fun j20 =>
  br (v2 = 0) (
    j20 1) (
    j20 0))
abbrev rmX12_ban : Room := { frames := 4, cells := 0, slots := 0, locals := 103 }
theorem vX12_ban : VI RX12 yX12_ban cX12_ban 4 (some .int) 2 := ⟨tw9_87, tw9_88, tw1_8, tw9_89, by decide +kernel⟩
set_option maxHeartbeats 4000000 in
theorem m_X12_ban {G : Gp} (l : Launch) (hfl : l.stackTraces = false) (N : Nat) {a0 : Nat} {p1 : Int32} {p2 : Int32} {h0 : Hp} {K : Int32 → Hp → Prop} (hw : w_X12_ban N a0 p1 p2 h0 K) : MT G l yX12_ban cX12_ban 4 (some .int) rmX12_ban [rV (some a0), iV p1, iV p2] h0 (QI G K) := by
  refine go_metT l hfl _ 4 _ _ rfl (by decide +kernel) (Nat.le_of_ble_eq_true rfl) [(0, rV (some a0)), (1, iV p1), (2, iV p2)] rfl (fun X hX C hn => ?_)
  subst hX
  unfold w_X12_ban at hw
  refine go_aload_n C dX12_ban_0 0 rfl ?_
  refine go_iconst C 0 dX12_ban_1 kc_i0 ?_
  refine go_putI C (cfX12) (k := 0) (Nat.le_of_ble_eq_true rfl) tw7_83 rfl (Or.inl rfl) rfl dX12_ban_2 hw (fun h1 hw => ?_)
  refine go_aload_n C dX12_ban_5 0 rfl ?_
  refine go_iload_n C dX12_ban_6 1 rfl ?_
  refine go_iconst C 0 dX12_ban_7 kc_i0 ?_
  refine go_iconst C 1 dX12_ban_8 kc_i1 ?_
  refine go_pS_i C [iV p1, iV 0, iV 1] vX12_in tw8_20 (m_X12_in (xl X) C.2.2.2.2.2.2.2.1 N hw) ⟨Nat.le_of_ble_eq_true rfl, Nat.le_of_ble_eq_true rfl, Nat.le_of_ble_eq_true rfl, Nat.le_of_ble_eq_true rfl⟩ ⟨rfl, rfl⟩ dX12_ban_9 rfl (Nat.le_of_ble_eq_true rfl) rfl (fun v2 hw => ?_)
  refine jn_elim (P := fun j => ∀ (v3 : Int32), j v3 → Go G X rmX12_ban 4 0 0 (QN G X (QI G K) rmX12_ban) h1 20 [(0, rV (some a0)), (1, iV p1), (2, iV p2)] [iV v3, rV (some a0)]) hw (fun v3 hw => ?_) (fun j20 hj20 hw => ?_)
  · refine go_iconst C 1 dX12_ban_20 kc_i1 ?_
    refine go_c0V_i C [iV v3, iV 1] vX12_fails tw8_23 (ci := 12) rfl (m_X12_fails (xl X) C.2.2.2.2.2.2.2.1 N hw.2) ⟨Nat.le_of_ble_eq_true rfl, Nat.le_of_ble_eq_true rfl, Nat.le_of_ble_eq_true rfl, Nat.le_of_ble_eq_true rfl⟩ ⟨rfl, rfl⟩ hw.1 dX12_ban_21 rfl (Nat.le_of_ble_eq_true rfl) rfl (fun v4 h5 hw => ?_)
    refine go_if_ne C 48 dX12_ban_24 (by decide) hw (fun hw => ?_) (fun hw => ?_)
    · refine go_iconst C (-1) dX12_ban_48 kc_im1 ?_
      exact go_iret C dX12_ban_49 hw (Nat.le_of_ble_eq_true rfl) (Nat.le_of_ble_eq_true rfl)
    refine go_aload_n C dX12_ban_27 0 rfl ?_
    refine go_aload_n C dX12_ban_28 0 rfl ?_
    refine go_iload_n C dX12_ban_29 2 rfl ?_
    refine go_pV_i C [iV p2] vX12_isIndex tw8_99 (ci := 12) rfl (m_X12_isIndex (xl X) C.2.2.2.2.2.2.2.1 N hw.2) ⟨Nat.le_of_ble_eq_true rfl, Nat.le_of_ble_eq_true rfl, Nat.le_of_ble_eq_true rfl, Nat.le_of_ble_eq_true rfl⟩ ⟨rfl, rfl⟩ hw.1 dX12_ban_30 rfl (Nat.le_of_ble_eq_true rfl) rfl (fun v6 hw => ?_)
    refine jn_elim (P := fun j => ∀ (v7 : Int32), j v7 → Go G X rmX12_ban 4 0 0 (QN G X (QI G K) rmX12_ban) h5 41 [(0, rV (some a0)), (1, iV p1), (2, iV p2)] [iV v7, rV (some a0)]) hw (fun v7 hw => ?_) (fun j41 hj41 hw => ?_)
    · refine go_iconst C 2 dX12_ban_41 kc_i2 ?_
      refine go_c0V_i C [iV v7, iV 2] vX12_fails tw8_23 (ci := 12) rfl (m_X12_fails (xl X) C.2.2.2.2.2.2.2.1 N hw.2) ⟨Nat.le_of_ble_eq_true rfl, Nat.le_of_ble_eq_true rfl, Nat.le_of_ble_eq_true rfl, Nat.le_of_ble_eq_true rfl⟩ ⟨rfl, rfl⟩ hw.1 dX12_ban_42 rfl (Nat.le_of_ble_eq_true rfl) rfl (fun v8 h9 hw => ?_)
      refine go_if_eq C 50 dX12_ban_45 (by decide) hw (fun hw => ?_) (fun hw => ?_)
      · refine go_aload_n C dX12_ban_50 0 rfl ?_
        refine go_getA C (cfX12) (k := 46) (Nat.le_of_ble_eq_true rfl) tw7_129 rfl dX12_ban_51 hw (fun a10 hw => ?_)
        refine go_iconst C 1 dX12_ban_54 kc_i1 ?_
        refine go_iload_n C dX12_ban_55 1 rfl ?_
        refine go_isub C dX12_ban_56 ?_
        refine go_iaload C dX12_ban_57 hw (fun v11 hw => ?_)
        refine go_istore_n C [(3, iV v11), (0, rV (some a0)), (1, iV p1), (2, iV p2)] dX12_ban_58 (Nat.le_of_ble_eq_true rfl) rfl ?_
        refine go_aload_n C dX12_ban_59 1 rfl ?_
        refine go_iload_n C dX12_ban_60 0 rfl ?_
        refine go_iload_n C dX12_ban_61 3 rfl ?_
        refine go_ishr C dX12_ban_62 ?_
        refine go_iconst C 1 dX12_ban_63 kc_i1 ?_
        refine go_iand C dX12_ban_64 ?_
        refine go_iconst C 1 dX12_ban_65 kc_i1 ?_
        refine jn_elim (P := fun j => ∀ (v12 : Int32), j v12 → Go G X rmX12_ban 4 0 0 (QN G X (QI G K) rmX12_ban) h9 82 [(0, rV (some a0)), (1, iV p1), (2, iV p2)] [iV v12, rV (some a0)]) hw (fun v12 hw => ?_) (fun j82 hj82 hw => ?_)
        · refine go_iconst C 3 dX12_ban_82 kc_i3 ?_
          refine go_c0V_i C [iV v12, iV 3] vX12_fails tw8_23 (ci := 12) rfl (m_X12_fails (xl X) C.2.2.2.2.2.2.2.1 N hw.2) ⟨Nat.le_of_ble_eq_true rfl, Nat.le_of_ble_eq_true rfl, Nat.le_of_ble_eq_true rfl, Nat.le_of_ble_eq_true rfl⟩ ⟨rfl, rfl⟩ hw.1 dX12_ban_83 rfl (Nat.le_of_ble_eq_true rfl) rfl (fun v13 h14 hw => ?_)
          refine go_if_ne C 112 dX12_ban_86 (by decide) hw (fun hw => ?_) (fun hw => ?_)
          · refine go_iconst C (-1) dX12_ban_112 kc_im1 ?_
            exact go_iret C dX12_ban_113 hw (Nat.le_of_ble_eq_true rfl) (Nat.le_of_ble_eq_true rfl)
          refine go_aload_n C dX12_ban_89 0 rfl ?_
          refine go_aload_n C dX12_ban_90 0 rfl ?_
          refine go_getA C (cfX12) (k := 51) (Nat.le_of_ble_eq_true rfl) tw7_134 rfl dX12_ban_91 hw (fun a15 hw => ?_)
          refine go_iload_n C dX12_ban_94 1 rfl ?_
          refine go_iaload C dX12_ban_95 hw (fun v16 hw => ?_)
          refine go_iconst C 2 dX12_ban_96 kc_i2 ?_
          refine jn_elim (P := fun j => ∀ (v17 : Int32), j v17 → Go G X rmX12_ban 4 0 0 (QN G X (QI G K) rmX12_ban) h14 105 [(0, rV (some a0)), (1, iV p1), (2, iV p2)] [iV v17, rV (some a0)]) hw (fun v17 hw => ?_) (fun j105 hj105 hw => ?_)
          · refine go_iconst C 4 dX12_ban_105 kc_i4 ?_
            refine go_c0V_i C [iV v17, iV 4] vX12_fails tw8_23 (ci := 12) rfl (m_X12_fails (xl X) C.2.2.2.2.2.2.2.1 N hw.2) ⟨Nat.le_of_ble_eq_true rfl, Nat.le_of_ble_eq_true rfl, Nat.le_of_ble_eq_true rfl, Nat.le_of_ble_eq_true rfl⟩ ⟨rfl, rfl⟩ hw.1 dX12_ban_106 rfl (Nat.le_of_ble_eq_true rfl) rfl (fun v18 h19 hw => ?_)
            refine go_if_eq C 114 dX12_ban_109 (by decide) hw (fun hw => ?_) (fun hw => ?_)
            · refine go_aload_n C dX12_ban_114 0 rfl ?_
              refine go_getA C (cfX12) (k := 46) (Nat.le_of_ble_eq_true rfl) tw7_129 rfl dX12_ban_115 hw (fun a20 hw => ?_)
              refine go_iconst C 1 dX12_ban_118 kc_i1 ?_
              refine go_iload_n C dX12_ban_119 1 rfl ?_
              refine go_isub C dX12_ban_120 ?_
              refine go_dup2 C _ _ dX12_ban_121 rfl rfl ?_
              refine go_iaload C dX12_ban_122 hw (fun v21 hw => ?_)
              refine go_iconst C 1 dX12_ban_123 kc_i1 ?_
              refine go_iload_n C dX12_ban_124 2 rfl ?_
              refine go_ishl C dX12_ban_125 ?_
              refine go_ior C dX12_ban_126 ?_
              refine go_iastore C dX12_ban_127 hw (fun h22 hw => ?_)
              refine go_aload_n C dX12_ban_128 0 rfl ?_
              refine go_getA C (cfX12) (k := 51) (Nat.le_of_ble_eq_true rfl) tw7_134 rfl dX12_ban_129 hw (fun a23 hw => ?_)
              refine go_iload_n C dX12_ban_132 1 rfl ?_
              refine go_dup2 C _ _ dX12_ban_133 rfl rfl ?_
              refine go_iaload C dX12_ban_134 hw (fun v24 hw => ?_)
              refine go_iconst C 2 dX12_ban_135 kc_i2 ?_
              refine go_isub C dX12_ban_136 ?_
              refine go_iastore C dX12_ban_137 hw (fun h25 hw => ?_)
              refine go_aload_n C dX12_ban_138 0 rfl ?_
              refine go_getA C (cfX12) (k := 51) (Nat.le_of_ble_eq_true rfl) tw7_134 rfl dX12_ban_139 hw (fun a26 hw => ?_)
              refine go_iload_n C dX12_ban_142 1 rfl ?_
              refine go_iaload C dX12_ban_143 hw (fun v27 hw => ?_)
              exact go_iret C dX12_ban_144 hw (Nat.le_of_ble_eq_true rfl) (Nat.le_of_ble_eq_true rfl)
            refine go_iconst C (-1) dX12_ban_112 kc_im1 ?_
            exact go_iret C dX12_ban_113 hw (Nat.le_of_ble_eq_true rfl) (Nat.le_of_ble_eq_true rfl)
          refine go_icmp_ge C 104 dX12_ban_97 (by decide) hw (fun hw => ?_) (fun hw => ?_)
          · refine go_iconst C 0 dX12_ban_104 kc_i0 ?_
            exact hj105 0 hw
          refine go_iconst C 1 dX12_ban_100 kc_i1 ?_
          refine go_goto C 105 dX12_ban_101 (by decide) ?_
          exact hj105 1 hw
        refine jn_elim (P := fun j => j  → Go G X rmX12_ban 4 0 0 (QN G X (QI G K) rmX12_ban) h9 77 [(0, rV (some a0)), (1, iV p1), (2, iV p2)] [rV (some a0)]) hw (fun  hw => ?_) (fun j77 hj77 hw => ?_)
        · refine go_iconst C 1 dX12_ban_77 kc_i1 ?_
          refine go_goto C 82 dX12_ban_78 (by decide) ?_
          exact hj82 1 hw
        refine go_icmp_eq C 77 dX12_ban_66 (by decide) hw (fun hw => ?_) (fun hw => ?_)
        · refine go_sub [1, 2, 3] rfl ?_
          exact hj77  hw
        refine go_iload_n C dX12_ban_69 0 rfl ?_
        refine go_pS_i C [iV v11] vX12_ones tw9_90 (m_X12_ones (xl X) C.2.2.2.2.2.2.2.1 N hw) ⟨Nat.le_of_ble_eq_true rfl, Nat.le_of_ble_eq_true rfl, Nat.le_of_ble_eq_true rfl, Nat.le_of_ble_eq_true rfl⟩ ⟨rfl, rfl⟩ dX12_ban_70 rfl (Nat.le_of_ble_eq_true rfl) rfl (fun v28 hw => ?_)
        refine go_iconst C 2 dX12_ban_73 kc_i2 ?_
        refine go_icmp_ne C 81 dX12_ban_74 (by decide) hw (fun hw => ?_) (fun hw => ?_)
        · refine go_iconst C 0 dX12_ban_81 kc_i0 ?_
          refine go_sub [1, 2, 3] rfl ?_
          exact hj82 0 hw
        refine go_sub [1, 2, 3] rfl ?_
        exact hj77  hw
      refine go_iconst C (-1) dX12_ban_48 kc_im1 ?_
      exact go_iret C dX12_ban_49 hw (Nat.le_of_ble_eq_true rfl) (Nat.le_of_ble_eq_true rfl)
    refine go_if_ne C 40 dX12_ban_33 (by decide) hw (fun hw => ?_) (fun hw => ?_)
    · refine go_iconst C 0 dX12_ban_40 kc_i0 ?_
      exact hj41 0 hw
    refine go_iconst C 1 dX12_ban_36 kc_i1 ?_
    refine go_goto C 41 dX12_ban_37 (by decide) ?_
    exact hj41 1 hw
  refine go_if_ne C 19 dX12_ban_12 (by decide) hw (fun hw => ?_) (fun hw => ?_)
  · refine go_iconst C 0 dX12_ban_19 kc_i0 ?_
    exact hj20 0 hw
  refine go_iconst C 1 dX12_ban_15 kc_i1 ?_
  refine go_goto C 20 dX12_ban_16 (by decide) ?_
  exact hj20 1 hw
/-- DuelSchemaModel.winnerOf(I)I -/
def w_X12_winnerOf (N : Nat) (a0 : Nat) (p1 : Int32) (h0 : Hp) (K : Int32 → Prop) : Prop :=
  gA h0 a0 12 53 fun a1 =>
  aI h0 a1 0 (2 * p1) fun v2 =>
  gA h0 a0 12 53 fun a3 =>
  aI h0 a3 0 ((2 * p1) + 1) fun v4 =>
  br (v4 ≤ v2) (
    br (v2 ≤ v4) (
      K (-1)) (
      K 1)) (
    K 0)
abbrev rmX12_winnerOf : Room := { frames := 2, cells := 0, slots := 0, locals := 60 }
theorem vX12_winnerOf : VI RX12 yX12_winnerOf cX12_winnerOf 4 (some .int) 1 := ⟨tw9_99, tp88, tw1_8, tw9_100, by decide +kernel⟩
set_option maxHeartbeats 4000000 in
theorem m_X12_winnerOf {G : Gp} (l : Launch) (hfl : l.stackTraces = false) (N : Nat) {a0 : Nat} {p1 : Int32} {h0 : Hp} {K : Int32 → Prop} (hw : w_X12_winnerOf N a0 p1 h0 K) : MT G l yX12_winnerOf cX12_winnerOf 4 (some .int) rmX12_winnerOf [rV (some a0), iV p1] h0 (QI G (fun r h1 => h1 = h0 ∧ K r)) := by
  refine go_metT l hfl _ 4 _ _ rfl (by decide +kernel) (Nat.le_of_ble_eq_true rfl) [(0, rV (some a0)), (1, iV p1)] rfl (fun X hX C hn => ?_)
  subst hX
  unfold w_X12_winnerOf at hw
  refine go_aload_n C dX12_winnerOf_0 0 rfl ?_
  refine go_getA C (cfX12) (k := 53) (Nat.le_of_ble_eq_true rfl) tw7_136 rfl dX12_winnerOf_1 hw (fun a1 hw => ?_)
  refine go_iconst C 2 dX12_winnerOf_4 kc_i2 ?_
  refine go_iload_n C dX12_winnerOf_5 1 rfl ?_
  refine go_imul C dX12_winnerOf_6 ?_
  refine go_iaload C dX12_winnerOf_7 hw (fun v2 hw => ?_)
  refine go_istore_n C [(2, iV v2), (0, rV (some a0)), (1, iV p1)] dX12_winnerOf_8 (Nat.le_of_ble_eq_true rfl) rfl ?_
  refine go_aload_n C dX12_winnerOf_9 1 rfl ?_
  refine go_getA C (cfX12) (k := 53) (Nat.le_of_ble_eq_true rfl) tw7_136 rfl dX12_winnerOf_10 hw (fun a3 hw => ?_)
  refine go_iconst C 2 dX12_winnerOf_13 kc_i2 ?_
  refine go_iload_n C dX12_winnerOf_14 2 rfl ?_
  refine go_imul C dX12_winnerOf_15 ?_
  refine go_iconst C 1 dX12_winnerOf_16 kc_i1 ?_
  refine go_iadd C dX12_winnerOf_17 ?_
  refine go_iaload C dX12_winnerOf_18 hw (fun v4 hw => ?_)
  refine go_istore_n C [(3, iV v4), (2, iV v2), (0, rV (some a0)), (1, iV p1)] dX12_winnerOf_19 (Nat.le_of_ble_eq_true rfl) rfl ?_
  refine go_iload_n C dX12_winnerOf_20 1 rfl ?_
  refine go_iload_n C dX12_winnerOf_21 0 rfl ?_
  refine go_icmp_ge C 29 dX12_winnerOf_22 (by decide) hw (fun hw => ?_) (fun hw => ?_)
  · refine go_iload_n C dX12_winnerOf_29 0 rfl ?_
    refine go_iload_n C dX12_winnerOf_30 1 rfl ?_
    refine go_icmp_ge C 38 dX12_winnerOf_31 (by decide) hw (fun hw => ?_) (fun hw => ?_)
    · refine go_iconst C (-1) dX12_winnerOf_38 kc_im1 ?_
      exact go_iret C dX12_winnerOf_39 ⟨rfl, hw⟩ (Nat.le_of_ble_eq_true rfl) (Nat.le_of_ble_eq_true rfl)
    refine go_iconst C 1 dX12_winnerOf_34 kc_i1 ?_
    refine go_goto C 39 dX12_winnerOf_35 (by decide) ?_
    exact go_iret C dX12_winnerOf_39 ⟨rfl, hw⟩ (Nat.le_of_ble_eq_true rfl) (Nat.le_of_ble_eq_true rfl)
  refine go_iconst C 0 dX12_winnerOf_25 kc_i0 ?_
  refine go_goto C 39 dX12_winnerOf_26 (by decide) ?_
  exact go_iret C dX12_winnerOf_39 ⟨rfl, hw⟩ (Nat.le_of_ble_eq_true rfl) (Nat.le_of_ble_eq_true rfl)
/-- DuelSchemaModel.pays(II)V -/
def w_X12_pays (N : Nat) (a0 : Nat) (p1 : Int32) (p2 : Int32) (h0 : Hp) (K : Hp → Prop) : Prop :=
  fx2 (fun (w2 : Int32 → Hp → Prop) (x2 : Int32) (h1 : Hp) =>
    br (2 ≤ x2) (
      K h1) (
      gA h1 a0 12 51 fun a3 =>
      gA h1 a0 12 51 fun a4 =>
      aI h1 a4 0 x2 fun v5 =>
      jn (fun (v6 : Int32) => 
        w_X12_most N 0 (v5 + (p2 * v6)) h1 fun v7 =>
        sI h1 a3 0 x2 v7 fun h8 =>
        w2 (x2 + 1) h8) (fun j39 =>
      br (p1 = (-1)) (
        j39 1) (
        br (p1 = x2) (
          j39 3) (
          j39 0))))) N 0 h0
abbrev rmX12_pays : Room := { frames := 3, cells := 0, slots := 0, locals := 81 }
theorem vX12_pays : VI RX12 yX12_pays cX12_pays 4 none 2 := ⟨tw9_103, tp89, tw1_8, tw9_104, by decide +kernel⟩
set_option maxHeartbeats 4000000 in
theorem m_X12_pays {G : Gp} (l : Launch) (hfl : l.stackTraces = false) (N : Nat) {a0 : Nat} {p1 : Int32} {p2 : Int32} {h0 : Hp} {K : Hp → Prop} (hw : w_X12_pays N a0 p1 p2 h0 K) : MT G l yX12_pays cX12_pays 4 none rmX12_pays [rV (some a0), iV p1, iV p2] h0 (QV G K) := by
  refine go_metT l hfl _ 4 _ _ rfl (by decide +kernel) (Nat.le_of_ble_eq_true rfl) [(0, rV (some a0)), (1, iV p1), (2, iV p2)] rfl (fun X hX C hn => ?_)
  subst hX
  unfold w_X12_pays at hw
  refine go_iconst C 0 dX12_pays_0 kc_i0 ?_
  refine go_istore_n C [(3, iV 0), (0, rV (some a0)), (1, iV p1), (2, iV p2)] dX12_pays_1 (Nat.le_of_ble_eq_true rfl) rfl ?_
  refine go_sub [1, 2, 3, 0] rfl ?_
  refine fx2_elim (P := fun x2 h1 => Go G X rmX12_pays 4 0 0 (QN G X (QV G K) rmX12_pays) h1 2 [(0, rV (some a0)), (1, iV p1), (2, iV p2), (3, iV x2)] []) (fun w2 hj2 x2 h1 hw => ?_) N _ _ hw
  refine go_iload_n C dX12_pays_2 3 rfl ?_
  refine go_iconst C 2 dX12_pays_3 kc_i2 ?_
  refine go_icmp_ge C 51 dX12_pays_4 (by decide) hw (fun hw => ?_) (fun hw => ?_)
  · exact go_vret C dX12_pays_51 hw (Nat.le_of_ble_eq_true rfl) (Nat.le_of_ble_eq_true rfl)
  refine go_aload_n C dX12_pays_7 0 rfl ?_
  refine go_getA C (cfX12) (k := 51) (Nat.le_of_ble_eq_true rfl) tw7_134 rfl dX12_pays_8 hw (fun a3 hw => ?_)
  refine go_iload_n C dX12_pays_11 3 rfl ?_
  refine go_iconst C 0 dX12_pays_12 kc_i0 ?_
  refine go_aload_n C dX12_pays_13 0 rfl ?_
  refine go_getA C (cfX12) (k := 51) (Nat.le_of_ble_eq_true rfl) tw7_134 rfl dX12_pays_14 hw (fun a4 hw => ?_)
  refine go_iload_n C dX12_pays_17 3 rfl ?_
  refine go_iaload C dX12_pays_18 hw (fun v5 hw => ?_)
  refine go_iload_n C dX12_pays_19 2 rfl ?_
  refine go_iload_n C dX12_pays_20 1 rfl ?_
  refine go_iconst C (-1) dX12_pays_21 kc_im1 ?_
  refine jn_elim (P := fun j => ∀ (v6 : Int32), j v6 → Go G X rmX12_pays 4 0 0 (QN G X (QV G K) rmX12_pays) h1 39 [(0, rV (some a0)), (1, iV p1), (2, iV p2), (3, iV x2)] [iV v6, iV p2, iV v5, iV 0, iV x2, rV (some a3)]) hw (fun v6 hw => ?_) (fun j39 hj39 hw => ?_)
  · refine go_imul C dX12_pays_39 ?_
    refine go_iadd C dX12_pays_40 ?_
    refine go_pS_i C [iV 0, iV (v5 + (p2 * v6))] vX12_most tw9_19 (m_X12_most (xl X) C.2.2.2.2.2.2.2.1 N hw) ⟨Nat.le_of_ble_eq_true rfl, Nat.le_of_ble_eq_true rfl, Nat.le_of_ble_eq_true rfl, Nat.le_of_ble_eq_true rfl⟩ ⟨rfl, rfl⟩ dX12_pays_41 rfl (Nat.le_of_ble_eq_true rfl) rfl (fun v7 hw => ?_)
    refine go_iastore C dX12_pays_44 hw (fun h8 hw => ?_)
    refine go_iinc C (x2 + 1) [(3, iV (x2 + 1)), (0, rV (some a0)), (1, iV p1), (2, iV p2)] dX12_pays_45 3 rfl (by rw [kc_i1]) (Nat.le_of_ble_eq_true rfl) rfl ?_
    refine go_goto C 2 dX12_pays_48 (by decide) ?_
    refine go_sub [1, 2, 3, 0] rfl ?_
    exact hj2 (x2 + 1) h8 hw
  refine go_icmp_ne C 29 dX12_pays_22 (by decide) hw (fun hw => ?_) (fun hw => ?_)
  · refine go_iload_n C dX12_pays_29 1 rfl ?_
    refine go_iload_n C dX12_pays_30 3 rfl ?_
    refine go_icmp_ne C 38 dX12_pays_31 (by decide) hw (fun hw => ?_) (fun hw => ?_)
    · refine go_iconst C 0 dX12_pays_38 kc_i0 ?_
      exact hj39 0 hw
    refine go_iconst C 3 dX12_pays_34 kc_i3 ?_
    refine go_goto C 39 dX12_pays_35 (by decide) ?_
    exact hj39 3 hw
  refine go_iconst C 1 dX12_pays_25 kc_i1 ?_
  refine go_goto C 39 dX12_pays_26 (by decide) ?_
  exact hj39 1 hw
/-- DuelSchemaModel.round(I)I -/
def w_X12_round (N : Nat) (a0 : Nat) (p1 : Int32) (h0 : Hp) (K : Int32 → Hp → Prop) : Prop :=
  pF h0 a0 12 0 (iV 0) fun h1 =>
  cv h1 a0 12 <| w_X12_isQuery N a0 p1 h1 fun v2 =>
  jn (fun (v3 : Int32) => 
    cv h1 a0 12 <| w_X12_fails N a0 v3 1 h1 fun v4 h5 =>
    br (v4 = 0) (
      gA h5 a0 12 25 fun a6 =>
      aI h5 a6 0 p1 fun v7 =>
      jn (fun (v8 : Int32) => 
        cv h5 a0 12 <| w_X12_fails N a0 v8 2 h5 fun v9 h10 =>
        br (v9 = 0) (
          gI h10 a0 12 52 fun v11 =>
          gA h10 a0 12 46 fun a12 =>
          aI h10 a12 0 (v11 - v11 / 2 * 2) fun v13 =>
          cv h10 a0 12 <| w_X12_runs N a0 (v11 - v11 / 2 * 2) p1 v13 0 h10 fun h14 =>
          gA h14 a0 12 53 fun a15 =>
          gI h14 a0 12 52 fun v16 =>
          gI h14 a0 12 22 fun v17 =>
          sI h14 a15 0 ((2 * v16) + (v11 - v11 / 2 * 2)) v17 fun h18 =>
          gA h18 a0 12 46 fun a19 =>
          aI h18 a19 0 (1 - (v11 - v11 / 2 * 2)) fun v20 =>
          cv h18 a0 12 <| w_X12_runs N a0 (1 - (v11 - v11 / 2 * 2)) p1 v20 0 h18 fun h21 =>
          gA h21 a0 12 53 fun a22 =>
          gI h21 a0 12 52 fun v23 =>
          gI h21 a0 12 22 fun v24 =>
          sI h21 a22 0 (((2 * v23) + 1) - (v11 - v11 / 2 * 2)) v24 fun h25 =>
          gI h25 a0 12 52 fun v26 =>
          pF h25 a0 12 52 (iV (v26 + 1)) fun h27 =>
          gI h27 a0 12 52 fun v28 =>
          cv h27 a0 12 <| w_X12_winnerOf N a0 (v28 - 1) h27 fun v29 =>
          cv h27 a0 12 <| w_X12_pays N a0 v29 1 h27 fun h30 =>
          pF h30 a0 12 55 (iV p1) fun h31 =>
          fx2 (fun (w155 : Int32 → Hp → Prop) (x33 : Int32) (h32 : Hp) =>
            br (2 ≤ x33) (
              pF h32 a0 12 16 (iV 1) fun h34 =>
              gI h34 a0 12 52 fun v35 =>
              cv h34 a0 12 <| w_X12_winnerOf N a0 (v35 - 1) h34 fun v36 =>
              K v36 h34) (
              gA h32 a0 12 54 fun a37 =>
              gA h32 a0 12 46 fun a38 =>
              aI h32 a38 0 x33 fun v39 =>
              sI h32 a37 0 x33 v39 fun h40 =>
              gA h40 a0 12 46 fun a41 =>
              sI h40 a41 0 x33 0 fun h42 =>
              w155 (x33 + 1) h42)) N 0 h31) (
          K (-1) h10)) (fun j41 =>
      br (v7 = 0) (
        j41 1) (
        j41 0))) (
      K (-1) h5)) (fun j19 =>
  br (v2 = 0) (
    j19 1) (
    j19 0))
abbrev rmX12_round : Room := { frames := 9, cells := 0, slots := 0, locals := 237 }
theorem vX12_round : VI RX12 yX12_round cX12_round 4 (some .int) 1 := ⟨tw9_94, tw9_95, tw1_8, tw9_96, by decide +kernel⟩
set_option maxHeartbeats 4000000 in
theorem m_X12_round {G : Gp} (l : Launch) (hfl : l.stackTraces = false) (N : Nat) {a0 : Nat} {p1 : Int32} {h0 : Hp} {K : Int32 → Hp → Prop} (hw : w_X12_round N a0 p1 h0 K) : MT G l yX12_round cX12_round 4 (some .int) rmX12_round [rV (some a0), iV p1] h0 (QI G K) := by
  refine go_metT l hfl _ 4 _ _ rfl (by decide +kernel) (Nat.le_of_ble_eq_true rfl) [(0, rV (some a0)), (1, iV p1)] rfl (fun X hX C hn => ?_)
  subst hX
  unfold w_X12_round at hw
  refine go_aload_n C dX12_round_0 0 rfl ?_
  refine go_iconst C 0 dX12_round_1 kc_i0 ?_
  refine go_putI C (cfX12) (k := 0) (Nat.le_of_ble_eq_true rfl) tw7_83 rfl (Or.inl rfl) rfl dX12_round_2 hw (fun h1 hw => ?_)
  refine go_aload_n C dX12_round_5 0 rfl ?_
  refine go_aload_n C dX12_round_6 0 rfl ?_
  refine go_iload_n C dX12_round_7 1 rfl ?_
  refine go_pV_i C [iV p1] vX12_isQuery tw8_142 (ci := 12) rfl (m_X12_isQuery (xl X) C.2.2.2.2.2.2.2.1 N hw.2) ⟨Nat.le_of_ble_eq_true rfl, Nat.le_of_ble_eq_true rfl, Nat.le_of_ble_eq_true rfl, Nat.le_of_ble_eq_true rfl⟩ ⟨rfl, rfl⟩ hw.1 dX12_round_8 rfl (Nat.le_of_ble_eq_true rfl) rfl (fun v2 hw => ?_)
  refine jn_elim (P := fun j => ∀ (v3 : Int32), j v3 → Go G X rmX12_round 4 0 0 (QN G X (QI G K) rmX12_round) h1 19 [(0, rV (some a0)), (1, iV p1)] [iV v3, rV (some a0)]) hw (fun v3 hw => ?_) (fun j19 hj19 hw => ?_)
  · refine go_iconst C 1 dX12_round_19 kc_i1 ?_
    refine go_c0V_i C [iV v3, iV 1] vX12_fails tw8_23 (ci := 12) rfl (m_X12_fails (xl X) C.2.2.2.2.2.2.2.1 N hw.2) ⟨Nat.le_of_ble_eq_true rfl, Nat.le_of_ble_eq_true rfl, Nat.le_of_ble_eq_true rfl, Nat.le_of_ble_eq_true rfl⟩ ⟨rfl, rfl⟩ hw.1 dX12_round_20 rfl (Nat.le_of_ble_eq_true rfl) rfl (fun v4 h5 hw => ?_)
    refine go_if_ne C 48 dX12_round_23 (by decide) hw (fun hw => ?_) (fun hw => ?_)
    · refine go_iconst C (-1) dX12_round_48 kc_im1 ?_
      exact go_iret C dX12_round_49 hw (Nat.le_of_ble_eq_true rfl) (Nat.le_of_ble_eq_true rfl)
    refine go_aload_n C dX12_round_26 0 rfl ?_
    refine go_aload_n C dX12_round_27 0 rfl ?_
    refine go_getA C (cfX12) (k := 25) (Nat.le_of_ble_eq_true rfl) tw7_108 rfl dX12_round_28 hw (fun a6 hw => ?_)
    refine go_iload_n C dX12_round_31 1 rfl ?_
    refine go_iaload C dX12_round_32 hw (fun v7 hw => ?_)
    refine jn_elim (P := fun j => ∀ (v8 : Int32), j v8 → Go G X rmX12_round 4 0 0 (QN G X (QI G K) rmX12_round) h5 41 [(0, rV (some a0)), (1, iV p1)] [iV v8, rV (some a0)]) hw (fun v8 hw => ?_) (fun j41 hj41 hw => ?_)
    · refine go_iconst C 2 dX12_round_41 kc_i2 ?_
      refine go_c0V_i C [iV v8, iV 2] vX12_fails tw8_23 (ci := 12) rfl (m_X12_fails (xl X) C.2.2.2.2.2.2.2.1 N hw.2) ⟨Nat.le_of_ble_eq_true rfl, Nat.le_of_ble_eq_true rfl, Nat.le_of_ble_eq_true rfl, Nat.le_of_ble_eq_true rfl⟩ ⟨rfl, rfl⟩ hw.1 dX12_round_42 rfl (Nat.le_of_ble_eq_true rfl) rfl (fun v9 h10 hw => ?_)
      refine go_if_eq C 50 dX12_round_45 (by decide) hw (fun hw => ?_) (fun hw => ?_)
      · refine go_aload_n C dX12_round_50 0 rfl ?_
        refine go_getI C (cfX12) (k := 52) (Nat.le_of_ble_eq_true rfl) tw7_135 rfl dX12_round_51 hw (fun v11 hw => ?_)
        refine go_iconst C 2 dX12_round_54 kc_i2 ?_
        refine go_irem C dX12_round_55 ⟨by decide, hw⟩ (fun hw => ?_)
        refine go_istore_n C [(2, iV (v11 - v11 / 2 * 2)), (0, rV (some a0)), (1, iV p1)] dX12_round_56 (Nat.le_of_ble_eq_true rfl) rfl ?_
        refine go_aload_n C dX12_round_57 1 rfl ?_
        refine go_iload_n C dX12_round_58 0 rfl ?_
        refine go_iload_n C dX12_round_59 2 rfl ?_
        refine go_aload_n C dX12_round_60 1 rfl ?_
        refine go_getA C (cfX12) (k := 46) (Nat.le_of_ble_eq_true rfl) tw7_129 rfl dX12_round_61 hw (fun a12 hw => ?_)
        refine go_iload_n C dX12_round_64 0 rfl ?_
        refine go_iaload C dX12_round_65 hw (fun v13 hw => ?_)
        refine go_iconst C 0 dX12_round_66 kc_i0 ?_
        refine go_c0V_v C [iV (v11 - v11 / 2 * 2), iV p1, iV v13, iV 0] vX12_runs tw9_54 (ci := 12) rfl (m_X12_runs (xl X) C.2.2.2.2.2.2.2.1 N hw.2) ⟨Nat.le_of_ble_eq_true rfl, Nat.le_of_ble_eq_true rfl, Nat.le_of_ble_eq_true rfl, Nat.le_of_ble_eq_true rfl⟩ ⟨rfl, rfl⟩ hw.1 dX12_round_67 rfl (Nat.le_of_ble_eq_true rfl) rfl (fun h14 hw => ?_)
        refine go_aload_n C dX12_round_70 1 rfl ?_
        refine go_getA C (cfX12) (k := 53) (Nat.le_of_ble_eq_true rfl) tw7_136 rfl dX12_round_71 hw (fun a15 hw => ?_)
        refine go_iconst C 2 dX12_round_74 kc_i2 ?_
        refine go_aload_n C dX12_round_75 1 rfl ?_
        refine go_getI C (cfX12) (k := 52) (Nat.le_of_ble_eq_true rfl) tw7_135 rfl dX12_round_76 hw (fun v16 hw => ?_)
        refine go_imul C dX12_round_79 ?_
        refine go_iload_n C dX12_round_80 0 rfl ?_
        refine go_iadd C dX12_round_81 ?_
        refine go_aload_n C dX12_round_82 1 rfl ?_
        refine go_getI C (cfX12) (k := 22) (Nat.le_of_ble_eq_true rfl) tw7_105 rfl dX12_round_83 hw (fun v17 hw => ?_)
        refine go_iastore C dX12_round_86 hw (fun h18 hw => ?_)
        refine go_aload_n C dX12_round_87 1 rfl ?_
        refine go_iconst C 1 dX12_round_88 kc_i1 ?_
        refine go_iload_n C dX12_round_89 0 rfl ?_
        refine go_isub C dX12_round_90 ?_
        refine go_iload_n C dX12_round_91 2 rfl ?_
        refine go_aload_n C dX12_round_92 1 rfl ?_
        refine go_getA C (cfX12) (k := 46) (Nat.le_of_ble_eq_true rfl) tw7_129 rfl dX12_round_93 hw (fun a19 hw => ?_)
        refine go_iconst C 1 dX12_round_96 kc_i1 ?_
        refine go_iload_n C dX12_round_97 0 rfl ?_
        refine go_isub C dX12_round_98 ?_
        refine go_iaload C dX12_round_99 hw (fun v20 hw => ?_)
        refine go_iconst C 0 dX12_round_100 kc_i0 ?_
        refine go_c0V_v C [iV (1 - (v11 - v11 / 2 * 2)), iV p1, iV v20, iV 0] vX12_runs tw9_54 (ci := 12) rfl (m_X12_runs (xl X) C.2.2.2.2.2.2.2.1 N hw.2) ⟨Nat.le_of_ble_eq_true rfl, Nat.le_of_ble_eq_true rfl, Nat.le_of_ble_eq_true rfl, Nat.le_of_ble_eq_true rfl⟩ ⟨rfl, rfl⟩ hw.1 dX12_round_101 rfl (Nat.le_of_ble_eq_true rfl) rfl (fun h21 hw => ?_)
        refine go_aload_n C dX12_round_104 1 rfl ?_
        refine go_getA C (cfX12) (k := 53) (Nat.le_of_ble_eq_true rfl) tw7_136 rfl dX12_round_105 hw (fun a22 hw => ?_)
        refine go_iconst C 2 dX12_round_108 kc_i2 ?_
        refine go_aload_n C dX12_round_109 1 rfl ?_
        refine go_getI C (cfX12) (k := 52) (Nat.le_of_ble_eq_true rfl) tw7_135 rfl dX12_round_110 hw (fun v23 hw => ?_)
        refine go_imul C dX12_round_113 ?_
        refine go_iconst C 1 dX12_round_114 kc_i1 ?_
        refine go_iadd C dX12_round_115 ?_
        refine go_iload_n C dX12_round_116 0 rfl ?_
        refine go_isub C dX12_round_117 ?_
        refine go_aload_n C dX12_round_118 1 rfl ?_
        refine go_getI C (cfX12) (k := 22) (Nat.le_of_ble_eq_true rfl) tw7_105 rfl dX12_round_119 hw (fun v24 hw => ?_)
        refine go_iastore C dX12_round_122 hw (fun h25 hw => ?_)
        refine go_aload_n C dX12_round_123 1 rfl ?_
        refine go_dup C _ dX12_round_124 rfl ?_
        refine go_getI C (cfX12) (k := 52) (Nat.le_of_ble_eq_true rfl) tw7_135 rfl dX12_round_125 hw (fun v26 hw => ?_)
        refine go_iconst C 1 dX12_round_128 kc_i1 ?_
        refine go_iadd C dX12_round_129 ?_
        refine go_putI C (cfX12) (k := 52) (Nat.le_of_ble_eq_true rfl) tw7_135 rfl (Or.inl rfl) rfl dX12_round_130 hw (fun h27 hw => ?_)
        refine go_aload_n C dX12_round_133 1 rfl ?_
        refine go_aload_n C dX12_round_134 1 rfl ?_
        refine go_aload_n C dX12_round_135 1 rfl ?_
        refine go_getI C (cfX12) (k := 52) (Nat.le_of_ble_eq_true rfl) tw7_135 rfl dX12_round_136 hw (fun v28 hw => ?_)
        refine go_iconst C 1 dX12_round_139 kc_i1 ?_
        refine go_isub C dX12_round_140 ?_
        refine go_pV_i C [iV (v28 - 1)] vX12_winnerOf tw9_97 (ci := 12) rfl (m_X12_winnerOf (xl X) C.2.2.2.2.2.2.2.1 N hw.2) ⟨Nat.le_of_ble_eq_true rfl, Nat.le_of_ble_eq_true rfl, Nat.le_of_ble_eq_true rfl, Nat.le_of_ble_eq_true rfl⟩ ⟨rfl, rfl⟩ hw.1 dX12_round_141 rfl (Nat.le_of_ble_eq_true rfl) rfl (fun v29 hw => ?_)
        refine go_iconst C 1 dX12_round_144 kc_i1 ?_
        refine go_c0V_v C [iV v29, iV 1] vX12_pays tw9_101 (ci := 12) rfl (m_X12_pays (xl X) C.2.2.2.2.2.2.2.1 N hw.2) ⟨Nat.le_of_ble_eq_true rfl, Nat.le_of_ble_eq_true rfl, Nat.le_of_ble_eq_true rfl, Nat.le_of_ble_eq_true rfl⟩ ⟨rfl, rfl⟩ hw.1 dX12_round_145 rfl (Nat.le_of_ble_eq_true rfl) rfl (fun h30 hw => ?_)
        refine go_aload_n C dX12_round_148 1 rfl ?_
        refine go_iload_n C dX12_round_149 2 rfl ?_
        refine go_putI C (cfX12) (k := 55) (Nat.le_of_ble_eq_true rfl) tw7_138 rfl (Or.inl rfl) rfl dX12_round_150 hw (fun h31 hw => ?_)
        refine go_iconst C 0 dX12_round_153 kc_i0 ?_
        refine go_istore_n C [(3, iV 0), (2, iV (v11 - v11 / 2 * 2)), (0, rV (some a0)), (1, iV p1)] dX12_round_154 (Nat.le_of_ble_eq_true rfl) rfl ?_
        refine go_sub [2, 0] rfl ?_
        refine fx2_elim (P := fun x33 h32 => Go G X rmX12_round 4 0 0 (QN G X (QI G K) rmX12_round) h32 155 [(0, rV (some a0)), (3, iV x33)] []) (fun w155 hj155 x33 h32 hw => ?_) N _ _ hw
        refine go_iload_n C dX12_round_155 1 rfl ?_
        refine go_iconst C 2 dX12_round_156 kc_i2 ?_
        refine go_icmp_ge C 185 dX12_round_157 (by decide) hw (fun hw => ?_) (fun hw => ?_)
        · refine go_aload_n C dX12_round_185 0 rfl ?_
          refine go_iconst C 1 dX12_round_186 kc_i1 ?_
          refine go_putZ C (cfX12) (k := 16) (Nat.le_of_ble_eq_true rfl) tw7_99 rfl (Or.inl rfl) rfl dX12_round_187 ⟨⟨rfl, rfl⟩, hw⟩ (fun h34 hw => ?_)
          refine go_aload_n C dX12_round_190 0 rfl ?_
          refine go_aload_n C dX12_round_191 0 rfl ?_
          refine go_getI C (cfX12) (k := 52) (Nat.le_of_ble_eq_true rfl) tw7_135 rfl dX12_round_192 hw (fun v35 hw => ?_)
          refine go_iconst C 1 dX12_round_195 kc_i1 ?_
          refine go_isub C dX12_round_196 ?_
          refine go_pV_i C [iV (v35 - 1)] vX12_winnerOf tw9_97 (ci := 12) rfl (m_X12_winnerOf (xl X) C.2.2.2.2.2.2.2.1 N hw.2) ⟨Nat.le_of_ble_eq_true rfl, Nat.le_of_ble_eq_true rfl, Nat.le_of_ble_eq_true rfl, Nat.le_of_ble_eq_true rfl⟩ ⟨rfl, rfl⟩ hw.1 dX12_round_197 rfl (Nat.le_of_ble_eq_true rfl) rfl (fun v36 hw => ?_)
          exact go_iret C dX12_round_200 hw (Nat.le_of_ble_eq_true rfl) (Nat.le_of_ble_eq_true rfl)
        refine go_aload_n C dX12_round_160 0 rfl ?_
        refine go_getA C (cfX12) (k := 54) (Nat.le_of_ble_eq_true rfl) tw7_137 rfl dX12_round_161 hw (fun a37 hw => ?_)
        refine go_iload_n C dX12_round_164 1 rfl ?_
        refine go_aload_n C dX12_round_165 0 rfl ?_
        refine go_getA C (cfX12) (k := 46) (Nat.le_of_ble_eq_true rfl) tw7_129 rfl dX12_round_166 hw (fun a38 hw => ?_)
        refine go_iload_n C dX12_round_169 1 rfl ?_
        refine go_iaload C dX12_round_170 hw (fun v39 hw => ?_)
        refine go_iastore C dX12_round_171 hw (fun h40 hw => ?_)
        refine go_aload_n C dX12_round_172 0 rfl ?_
        refine go_getA C (cfX12) (k := 46) (Nat.le_of_ble_eq_true rfl) tw7_129 rfl dX12_round_173 hw (fun a41 hw => ?_)
        refine go_iload_n C dX12_round_176 1 rfl ?_
        refine go_iconst C 0 dX12_round_177 kc_i0 ?_
        refine go_iastore C dX12_round_178 hw (fun h42 hw => ?_)
        refine go_iinc C (x33 + 1) [(3, iV (x33 + 1)), (0, rV (some a0))] dX12_round_179 1 rfl (by rw [kc_i1]) (Nat.le_of_ble_eq_true rfl) rfl ?_
        refine go_goto C 155 dX12_round_182 (by decide) ?_
        refine go_sub [1, 0] rfl ?_
        exact hj155 (x33 + 1) h42 hw
      refine go_iconst C (-1) dX12_round_48 kc_im1 ?_
      exact go_iret C dX12_round_49 hw (Nat.le_of_ble_eq_true rfl) (Nat.le_of_ble_eq_true rfl)
    refine go_if_ne C 40 dX12_round_33 (by decide) hw (fun hw => ?_) (fun hw => ?_)
    · refine go_iconst C 0 dX12_round_40 kc_i0 ?_
      exact hj41 0 hw
    refine go_iconst C 1 dX12_round_36 kc_i1 ?_
    refine go_goto C 41 dX12_round_37 (by decide) ?_
    exact hj41 1 hw
  refine go_if_ne C 18 dX12_round_11 (by decide) hw (fun hw => ?_) (fun hw => ?_)
  · refine go_iconst C 0 dX12_round_18 kc_i0 ?_
    exact hj19 0 hw
  refine go_iconst C 1 dX12_round_14 kc_i1 ?_
  refine go_goto C 19 dX12_round_15 (by decide) ?_
  exact hj19 1 hw
/-- DuelSchemaModel.appeal(I)I -/
def w_X12_appeal (N : Nat) (a0 : Nat) (p1 : Int32) (h0 : Hp) (K : Int32 → Hp → Prop) : Prop :=
  pF h0 a0 12 0 (iV 0) fun h1 =>
  w_X12_in N p1 0 1 h1 fun v2 =>
  jn (fun (v3 : Int32) => 
    cv h1 a0 12 <| w_X12_fails N a0 v3 1 h1 fun v4 h5 =>
    br (v4 = 0) (
      gI h5 a0 12 16 fun v6 =>
      jn (fun (v7 : Int32) => 
        cv h5 a0 12 <| w_X12_fails N a0 v7 2 h5 fun v8 h9 =>
        br (v8 = 0) (
          gA h9 a0 12 51 fun a10 =>
          aI h9 a10 0 p1 fun v11 =>
          jn (fun (v12 : Int32) => 
            cv h9 a0 12 <| w_X12_fails N a0 v12 3 h9 fun v13 h14 =>
            br (v13 = 0) (
              pF h14 a0 12 16 (iV 0) fun h15 =>
              gI h15 a0 12 52 fun v16 =>
              cv h15 a0 12 <| w_X12_winnerOf N a0 (v16 - 1) h15 fun v17 =>
              fx2 (fun (w89 : Int32 → Hp → Prop) (x19 : Int32) (h18 : Hp) =>
                br (2 ≤ x19) (
                  gI h18 a0 12 52 fun v20 =>
                  cv h18 a0 12 <| w_X12_winnerOf N a0 (v20 - 1) h18 fun v21 =>
                  cv h18 a0 12 <| w_X12_pays N a0 v17 (-1) h18 fun h22 =>
                  cv h22 a0 12 <| w_X12_pays N a0 v21 1 h22 fun h23 =>
                  gA h23 a0 12 51 fun a24 =>
                  br (v17 = v21) (
                    gA h23 a0 12 51 fun a28 =>
                    aI h23 a28 0 p1 fun v29 =>
                    w_X12_most N 0 (v29 - 1) h23 fun v30 =>
                    sI h23 a24 0 p1 v30 fun h31 =>
                    K v21 h31) (
                    gA h23 a0 12 51 fun a25 =>
                    aI h23 a25 0 p1 fun v26 =>
                    sI h23 a24 0 p1 v26 fun h27 =>
                    K v21 h27)) (
                  gI h18 a0 12 55 fun v32 =>
                  gA h18 a0 12 54 fun a33 =>
                  aI h18 a33 0 x19 fun v34 =>
                  cv h18 a0 12 <| w_X12_triesCold N a0 x19 v32 v34 h18 fun h35 =>
                  gA h35 a0 12 53 fun a36 =>
                  gI h35 a0 12 52 fun v37 =>
                  gI h35 a0 12 22 fun v38 =>
                  sI h35 a36 0 ((2 * (v37 - 1)) + x19) v38 fun h39 =>
                  w89 (x19 + 1) h39)) N 0 h15) (
              K (-1) h14)) (fun j62 =>
          br (v11 = 0) (
            j62 1) (
            j62 0))) (
          K (-1) h9)) (fun j40 =>
      br (v6 = 0) (
        j40 1) (
        j40 0))) (
      K (-1) h5)) (fun j20 =>
  br (v2 = 0) (
    j20 1) (
    j20 0))
abbrev rmX12_appeal : Room := { frames := 10, cells := 0, slots := 0, locals := 260 }
theorem vX12_appeal : VI RX12 yX12_appeal cX12_appeal 4 (some .int) 1 := ⟨tw9_106, tw9_107, tw1_8, tw9_108, by decide +kernel⟩
set_option maxHeartbeats 4000000 in
theorem m_X12_appeal {G : Gp} (l : Launch) (hfl : l.stackTraces = false) (N : Nat) {a0 : Nat} {p1 : Int32} {h0 : Hp} {K : Int32 → Hp → Prop} (hw : w_X12_appeal N a0 p1 h0 K) : MT G l yX12_appeal cX12_appeal 4 (some .int) rmX12_appeal [rV (some a0), iV p1] h0 (QI G K) := by
  refine go_metT l hfl _ 4 _ _ rfl (by decide +kernel) (Nat.le_of_ble_eq_true rfl) [(0, rV (some a0)), (1, iV p1)] rfl (fun X hX C hn => ?_)
  subst hX
  unfold w_X12_appeal at hw
  refine go_aload_n C dX12_appeal_0 0 rfl ?_
  refine go_iconst C 0 dX12_appeal_1 kc_i0 ?_
  refine go_putI C (cfX12) (k := 0) (Nat.le_of_ble_eq_true rfl) tw7_83 rfl (Or.inl rfl) rfl dX12_appeal_2 hw (fun h1 hw => ?_)
  refine go_aload_n C dX12_appeal_5 0 rfl ?_
  refine go_iload_n C dX12_appeal_6 1 rfl ?_
  refine go_iconst C 0 dX12_appeal_7 kc_i0 ?_
  refine go_iconst C 1 dX12_appeal_8 kc_i1 ?_
  refine go_pS_i C [iV p1, iV 0, iV 1] vX12_in tw8_20 (m_X12_in (xl X) C.2.2.2.2.2.2.2.1 N hw) ⟨Nat.le_of_ble_eq_true rfl, Nat.le_of_ble_eq_true rfl, Nat.le_of_ble_eq_true rfl, Nat.le_of_ble_eq_true rfl⟩ ⟨rfl, rfl⟩ dX12_appeal_9 rfl (Nat.le_of_ble_eq_true rfl) rfl (fun v2 hw => ?_)
  refine jn_elim (P := fun j => ∀ (v3 : Int32), j v3 → Go G X rmX12_appeal 4 0 0 (QN G X (QI G K) rmX12_appeal) h1 20 [(0, rV (some a0)), (1, iV p1)] [iV v3, rV (some a0)]) hw (fun v3 hw => ?_) (fun j20 hj20 hw => ?_)
  · refine go_iconst C 1 dX12_appeal_20 kc_i1 ?_
    refine go_c0V_i C [iV v3, iV 1] vX12_fails tw8_23 (ci := 12) rfl (m_X12_fails (xl X) C.2.2.2.2.2.2.2.1 N hw.2) ⟨Nat.le_of_ble_eq_true rfl, Nat.le_of_ble_eq_true rfl, Nat.le_of_ble_eq_true rfl, Nat.le_of_ble_eq_true rfl⟩ ⟨rfl, rfl⟩ hw.1 dX12_appeal_21 rfl (Nat.le_of_ble_eq_true rfl) rfl (fun v4 h5 hw => ?_)
    refine go_if_ne C 69 dX12_appeal_24 (by decide) hw (fun hw => ?_) (fun hw => ?_)
    · refine go_iconst C (-1) dX12_appeal_69 kc_im1 ?_
      exact go_iret C dX12_appeal_70 hw (Nat.le_of_ble_eq_true rfl) (Nat.le_of_ble_eq_true rfl)
    refine go_aload_n C dX12_appeal_27 0 rfl ?_
    refine go_aload_n C dX12_appeal_28 0 rfl ?_
    refine go_getI C (cfX12) (k := 16) (Nat.le_of_ble_eq_true rfl) tw7_99 rfl dX12_appeal_29 hw (fun v6 hw => ?_)
    refine jn_elim (P := fun j => ∀ (v7 : Int32), j v7 → Go G X rmX12_appeal 4 0 0 (QN G X (QI G K) rmX12_appeal) h5 40 [(0, rV (some a0)), (1, iV p1)] [iV v7, rV (some a0)]) hw (fun v7 hw => ?_) (fun j40 hj40 hw => ?_)
    · refine go_iconst C 2 dX12_appeal_40 kc_i2 ?_
      refine go_c0V_i C [iV v7, iV 2] vX12_fails tw8_23 (ci := 12) rfl (m_X12_fails (xl X) C.2.2.2.2.2.2.2.1 N hw.2) ⟨Nat.le_of_ble_eq_true rfl, Nat.le_of_ble_eq_true rfl, Nat.le_of_ble_eq_true rfl, Nat.le_of_ble_eq_true rfl⟩ ⟨rfl, rfl⟩ hw.1 dX12_appeal_41 rfl (Nat.le_of_ble_eq_true rfl) rfl (fun v8 h9 hw => ?_)
      refine go_if_ne C 69 dX12_appeal_44 (by decide) hw (fun hw => ?_) (fun hw => ?_)
      · refine go_iconst C (-1) dX12_appeal_69 kc_im1 ?_
        exact go_iret C dX12_appeal_70 hw (Nat.le_of_ble_eq_true rfl) (Nat.le_of_ble_eq_true rfl)
      refine go_aload_n C dX12_appeal_47 0 rfl ?_
      refine go_aload_n C dX12_appeal_48 0 rfl ?_
      refine go_getA C (cfX12) (k := 51) (Nat.le_of_ble_eq_true rfl) tw7_134 rfl dX12_appeal_49 hw (fun a10 hw => ?_)
      refine go_iload_n C dX12_appeal_52 1 rfl ?_
      refine go_iaload C dX12_appeal_53 hw (fun v11 hw => ?_)
      refine jn_elim (P := fun j => ∀ (v12 : Int32), j v12 → Go G X rmX12_appeal 4 0 0 (QN G X (QI G K) rmX12_appeal) h9 62 [(0, rV (some a0)), (1, iV p1)] [iV v12, rV (some a0)]) hw (fun v12 hw => ?_) (fun j62 hj62 hw => ?_)
      · refine go_iconst C 3 dX12_appeal_62 kc_i3 ?_
        refine go_c0V_i C [iV v12, iV 3] vX12_fails tw8_23 (ci := 12) rfl (m_X12_fails (xl X) C.2.2.2.2.2.2.2.1 N hw.2) ⟨Nat.le_of_ble_eq_true rfl, Nat.le_of_ble_eq_true rfl, Nat.le_of_ble_eq_true rfl, Nat.le_of_ble_eq_true rfl⟩ ⟨rfl, rfl⟩ hw.1 dX12_appeal_63 rfl (Nat.le_of_ble_eq_true rfl) rfl (fun v13 h14 hw => ?_)
        refine go_if_eq C 71 dX12_appeal_66 (by decide) hw (fun hw => ?_) (fun hw => ?_)
        · refine go_aload_n C dX12_appeal_71 0 rfl ?_
          refine go_iconst C 0 dX12_appeal_72 kc_i0 ?_
          refine go_putZ C (cfX12) (k := 16) (Nat.le_of_ble_eq_true rfl) tw7_99 rfl (Or.inl rfl) rfl dX12_appeal_73 ⟨⟨rfl, rfl⟩, hw⟩ (fun h15 hw => ?_)
          refine go_aload_n C dX12_appeal_76 0 rfl ?_
          refine go_aload_n C dX12_appeal_77 0 rfl ?_
          refine go_getI C (cfX12) (k := 52) (Nat.le_of_ble_eq_true rfl) tw7_135 rfl dX12_appeal_78 hw (fun v16 hw => ?_)
          refine go_iconst C 1 dX12_appeal_81 kc_i1 ?_
          refine go_isub C dX12_appeal_82 ?_
          refine go_pV_i C [iV (v16 - 1)] vX12_winnerOf tw9_97 (ci := 12) rfl (m_X12_winnerOf (xl X) C.2.2.2.2.2.2.2.1 N hw.2) ⟨Nat.le_of_ble_eq_true rfl, Nat.le_of_ble_eq_true rfl, Nat.le_of_ble_eq_true rfl, Nat.le_of_ble_eq_true rfl⟩ ⟨rfl, rfl⟩ hw.1 dX12_appeal_83 rfl (Nat.le_of_ble_eq_true rfl) rfl (fun v17 hw => ?_)
          refine go_istore_n C [(2, iV v17), (0, rV (some a0)), (1, iV p1)] dX12_appeal_86 (Nat.le_of_ble_eq_true rfl) rfl ?_
          refine go_iconst C 0 dX12_appeal_87 kc_i0 ?_
          refine go_istore_n C [(3, iV 0), (2, iV v17), (0, rV (some a0)), (1, iV p1)] dX12_appeal_88 (Nat.le_of_ble_eq_true rfl) rfl ?_
          refine go_sub [2, 3, 1, 0] rfl ?_
          refine fx2_elim (P := fun x19 h18 => Go G X rmX12_appeal 4 0 0 (QN G X (QI G K) rmX12_appeal) h18 89 [(0, rV (some a0)), (1, iV p1), (2, iV v17), (3, iV x19)] []) (fun w89 hj89 x19 h18 hw => ?_) N _ _ hw
          refine go_iload_n C dX12_appeal_89 3 rfl ?_
          refine go_iconst C 2 dX12_appeal_90 kc_i2 ?_
          refine go_icmp_ge C 134 dX12_appeal_91 (by decide) hw (fun hw => ?_) (fun hw => ?_)
          · refine go_aload_n C dX12_appeal_134 0 rfl ?_
            refine go_aload_n C dX12_appeal_135 0 rfl ?_
            refine go_getI C (cfX12) (k := 52) (Nat.le_of_ble_eq_true rfl) tw7_135 rfl dX12_appeal_136 hw (fun v20 hw => ?_)
            refine go_iconst C 1 dX12_appeal_139 kc_i1 ?_
            refine go_isub C dX12_appeal_140 ?_
            refine go_pV_i C [iV (v20 - 1)] vX12_winnerOf tw9_97 (ci := 12) rfl (m_X12_winnerOf (xl X) C.2.2.2.2.2.2.2.1 N hw.2) ⟨Nat.le_of_ble_eq_true rfl, Nat.le_of_ble_eq_true rfl, Nat.le_of_ble_eq_true rfl, Nat.le_of_ble_eq_true rfl⟩ ⟨rfl, rfl⟩ hw.1 dX12_appeal_141 rfl (Nat.le_of_ble_eq_true rfl) rfl (fun v21 hw => ?_)
            refine go_istore_n C [(3, iV v21), (0, rV (some a0)), (1, iV p1), (2, iV v17)] dX12_appeal_144 (Nat.le_of_ble_eq_true rfl) rfl ?_
            refine go_aload_n C dX12_appeal_145 1 rfl ?_
            refine go_iload_n C dX12_appeal_146 3 rfl ?_
            refine go_iconst C (-1) dX12_appeal_147 kc_im1 ?_
            refine go_c0V_v C [iV v17, iV (-1)] vX12_pays tw9_101 (ci := 12) rfl (m_X12_pays (xl X) C.2.2.2.2.2.2.2.1 N hw.2) ⟨Nat.le_of_ble_eq_true rfl, Nat.le_of_ble_eq_true rfl, Nat.le_of_ble_eq_true rfl, Nat.le_of_ble_eq_true rfl⟩ ⟨rfl, rfl⟩ hw.1 dX12_appeal_148 rfl (Nat.le_of_ble_eq_true rfl) rfl (fun h22 hw => ?_)
            refine go_aload_n C dX12_appeal_151 1 rfl ?_
            refine go_iload_n C dX12_appeal_152 0 rfl ?_
            refine go_iconst C 1 dX12_appeal_153 kc_i1 ?_
            refine go_c0V_v C [iV v21, iV 1] vX12_pays tw9_101 (ci := 12) rfl (m_X12_pays (xl X) C.2.2.2.2.2.2.2.1 N hw.2) ⟨Nat.le_of_ble_eq_true rfl, Nat.le_of_ble_eq_true rfl, Nat.le_of_ble_eq_true rfl, Nat.le_of_ble_eq_true rfl⟩ ⟨rfl, rfl⟩ hw.1 dX12_appeal_154 rfl (Nat.le_of_ble_eq_true rfl) rfl (fun h23 hw => ?_)
            refine go_aload_n C dX12_appeal_157 1 rfl ?_
            refine go_getA C (cfX12) (k := 51) (Nat.le_of_ble_eq_true rfl) tw7_134 rfl dX12_appeal_158 hw (fun a24 hw => ?_)
            refine go_iload_n C dX12_appeal_161 2 rfl ?_
            refine go_iload_n C dX12_appeal_162 3 rfl ?_
            refine go_iload_n C dX12_appeal_163 0 rfl ?_
            refine go_icmp_ne C 182 dX12_appeal_164 (by decide) hw (fun hw => ?_) (fun hw => ?_)
            · refine go_aload_n C dX12_appeal_182 1 rfl ?_
              refine go_getA C (cfX12) (k := 51) (Nat.le_of_ble_eq_true rfl) tw7_134 rfl dX12_appeal_183 hw (fun a25 hw => ?_)
              refine go_iload_n C dX12_appeal_186 2 rfl ?_
              refine go_iaload C dX12_appeal_187 hw (fun v26 hw => ?_)
              refine go_iastore C dX12_appeal_188 hw (fun h27 hw => ?_)
              refine go_iload_n C dX12_appeal_189 0 rfl ?_
              exact go_iret C dX12_appeal_190 hw (Nat.le_of_ble_eq_true rfl) (Nat.le_of_ble_eq_true rfl)
            refine go_iconst C 0 dX12_appeal_167 kc_i0 ?_
            refine go_aload_n C dX12_appeal_168 1 rfl ?_
            refine go_getA C (cfX12) (k := 51) (Nat.le_of_ble_eq_true rfl) tw7_134 rfl dX12_appeal_169 hw (fun a28 hw => ?_)
            refine go_iload_n C dX12_appeal_172 2 rfl ?_
            refine go_iaload C dX12_appeal_173 hw (fun v29 hw => ?_)
            refine go_iconst C 1 dX12_appeal_174 kc_i1 ?_
            refine go_isub C dX12_appeal_175 ?_
            refine go_pS_i C [iV 0, iV (v29 - 1)] vX12_most tw9_19 (m_X12_most (xl X) C.2.2.2.2.2.2.2.1 N hw) ⟨Nat.le_of_ble_eq_true rfl, Nat.le_of_ble_eq_true rfl, Nat.le_of_ble_eq_true rfl, Nat.le_of_ble_eq_true rfl⟩ ⟨rfl, rfl⟩ dX12_appeal_176 rfl (Nat.le_of_ble_eq_true rfl) rfl (fun v30 hw => ?_)
            refine go_goto C 188 dX12_appeal_179 (by decide) ?_
            refine go_iastore C dX12_appeal_188 hw (fun h31 hw => ?_)
            refine go_iload_n C dX12_appeal_189 0 rfl ?_
            exact go_iret C dX12_appeal_190 hw (Nat.le_of_ble_eq_true rfl) (Nat.le_of_ble_eq_true rfl)
          refine go_aload_n C dX12_appeal_94 0 rfl ?_
          refine go_iload_n C dX12_appeal_95 3 rfl ?_
          refine go_aload_n C dX12_appeal_96 0 rfl ?_
          refine go_getI C (cfX12) (k := 55) (Nat.le_of_ble_eq_true rfl) tw7_138 rfl dX12_appeal_97 hw (fun v32 hw => ?_)
          refine go_aload_n C dX12_appeal_100 0 rfl ?_
          refine go_getA C (cfX12) (k := 54) (Nat.le_of_ble_eq_true rfl) tw7_137 rfl dX12_appeal_101 hw (fun a33 hw => ?_)
          refine go_iload_n C dX12_appeal_104 3 rfl ?_
          refine go_iaload C dX12_appeal_105 hw (fun v34 hw => ?_)
          refine go_c0V_v C [iV x19, iV v32, iV v34] vX12_triesCold tw9_50 (ci := 12) rfl (m_X12_triesCold (xl X) C.2.2.2.2.2.2.2.1 N hw.2) ⟨Nat.le_of_ble_eq_true rfl, Nat.le_of_ble_eq_true rfl, Nat.le_of_ble_eq_true rfl, Nat.le_of_ble_eq_true rfl⟩ ⟨rfl, rfl⟩ hw.1 dX12_appeal_106 rfl (Nat.le_of_ble_eq_true rfl) rfl (fun h35 hw => ?_)
          refine go_aload_n C dX12_appeal_109 0 rfl ?_
          refine go_getA C (cfX12) (k := 53) (Nat.le_of_ble_eq_true rfl) tw7_136 rfl dX12_appeal_110 hw (fun a36 hw => ?_)
          refine go_iconst C 2 dX12_appeal_113 kc_i2 ?_
          refine go_aload_n C dX12_appeal_114 0 rfl ?_
          refine go_getI C (cfX12) (k := 52) (Nat.le_of_ble_eq_true rfl) tw7_135 rfl dX12_appeal_115 hw (fun v37 hw => ?_)
          refine go_iconst C 1 dX12_appeal_118 kc_i1 ?_
          refine go_isub C dX12_appeal_119 ?_
          refine go_imul C dX12_appeal_120 ?_
          refine go_iload_n C dX12_appeal_121 3 rfl ?_
          refine go_iadd C dX12_appeal_122 ?_
          refine go_aload_n C dX12_appeal_123 0 rfl ?_
          refine go_getI C (cfX12) (k := 22) (Nat.le_of_ble_eq_true rfl) tw7_105 rfl dX12_appeal_124 hw (fun v38 hw => ?_)
          refine go_iastore C dX12_appeal_127 hw (fun h39 hw => ?_)
          refine go_iinc C (x19 + 1) [(3, iV (x19 + 1)), (0, rV (some a0)), (1, iV p1), (2, iV v17)] dX12_appeal_128 3 rfl (by rw [kc_i1]) (Nat.le_of_ble_eq_true rfl) rfl ?_
          refine go_goto C 89 dX12_appeal_131 (by decide) ?_
          refine go_sub [1, 2, 3, 0] rfl ?_
          exact hj89 (x19 + 1) h39 hw
        refine go_iconst C (-1) dX12_appeal_69 kc_im1 ?_
        exact go_iret C dX12_appeal_70 hw (Nat.le_of_ble_eq_true rfl) (Nat.le_of_ble_eq_true rfl)
      refine go_if_ne C 61 dX12_appeal_54 (by decide) hw (fun hw => ?_) (fun hw => ?_)
      · refine go_iconst C 0 dX12_appeal_61 kc_i0 ?_
        exact hj62 0 hw
      refine go_iconst C 1 dX12_appeal_57 kc_i1 ?_
      refine go_goto C 62 dX12_appeal_58 (by decide) ?_
      exact hj62 1 hw
    refine go_if_ne C 39 dX12_appeal_32 (by decide) hw (fun hw => ?_) (fun hw => ?_)
    · refine go_iconst C 0 dX12_appeal_39 kc_i0 ?_
      exact hj40 0 hw
    refine go_iconst C 1 dX12_appeal_35 kc_i1 ?_
    refine go_goto C 40 dX12_appeal_36 (by decide) ?_
    exact hj40 1 hw
  refine go_if_ne C 19 dX12_appeal_12 (by decide) hw (fun hw => ?_) (fun hw => ?_)
  · refine go_iconst C 0 dX12_appeal_19 kc_i0 ?_
    exact hj20 0 hw
  refine go_iconst C 1 dX12_appeal_15 kc_i1 ?_
  refine go_goto C 20 dX12_appeal_16 (by decide) ?_
  exact hj20 1 hw
/-- DuelSchemaModel.coins(I)I -/
def w_X12_coins (N : Nat) (a0 : Nat) (p1 : Int32) (h0 : Hp) (K : Int32 → Hp → Prop) : Prop :=
  pF h0 a0 12 0 (iV 0) fun h1 =>
  w_X12_in N p1 0 1 h1 fun v2 =>
  jn (fun (v3 : Int32) => 
    cv h1 a0 12 <| w_X12_fails N a0 v3 1 h1 fun v4 h5 =>
    br (v4 = 0) (
      gA h5 a0 12 51 fun a6 =>
      aI h5 a6 0 p1 fun v7 =>
      K v7 h5) (
      K (-1) h5)) (fun j20 =>
  br (v2 = 0) (
    j20 1) (
    j20 0))
abbrev rmX12_coins : Room := { frames := 3, cells := 0, slots := 0, locals := 82 }
theorem vX12_coins : VI RX12 yX12_coins cX12_coins 2 (some .int) 1 := ⟨tw9_110, tw9_111, tw1_8, tw9_112, by decide +kernel⟩
set_option maxHeartbeats 4000000 in
theorem m_X12_coins {G : Gp} (l : Launch) (hfl : l.stackTraces = false) (N : Nat) {a0 : Nat} {p1 : Int32} {h0 : Hp} {K : Int32 → Hp → Prop} (hw : w_X12_coins N a0 p1 h0 K) : MT G l yX12_coins cX12_coins 2 (some .int) rmX12_coins [rV (some a0), iV p1] h0 (QI G K) := by
  refine go_metT l hfl _ 2 _ _ rfl (by decide +kernel) (Nat.le_of_ble_eq_true rfl) [(0, rV (some a0)), (1, iV p1)] rfl (fun X hX C hn => ?_)
  subst hX
  unfold w_X12_coins at hw
  refine go_aload_n C dX12_coins_0 0 rfl ?_
  refine go_iconst C 0 dX12_coins_1 kc_i0 ?_
  refine go_putI C (cfX12) (k := 0) (Nat.le_of_ble_eq_true rfl) tw7_83 rfl (Or.inl rfl) rfl dX12_coins_2 hw (fun h1 hw => ?_)
  refine go_aload_n C dX12_coins_5 0 rfl ?_
  refine go_iload_n C dX12_coins_6 1 rfl ?_
  refine go_iconst C 0 dX12_coins_7 kc_i0 ?_
  refine go_iconst C 1 dX12_coins_8 kc_i1 ?_
  refine go_pS_i C [iV p1, iV 0, iV 1] vX12_in tw8_20 (m_X12_in (xl X) C.2.2.2.2.2.2.2.1 N hw) ⟨Nat.le_of_ble_eq_true rfl, Nat.le_of_ble_eq_true rfl, Nat.le_of_ble_eq_true rfl, Nat.le_of_ble_eq_true rfl⟩ ⟨rfl, rfl⟩ dX12_coins_9 rfl (Nat.le_of_ble_eq_true rfl) rfl (fun v2 hw => ?_)
  refine jn_elim (P := fun j => ∀ (v3 : Int32), j v3 → Go G X rmX12_coins 2 0 0 (QN G X (QI G K) rmX12_coins) h1 20 [(0, rV (some a0)), (1, iV p1)] [iV v3, rV (some a0)]) hw (fun v3 hw => ?_) (fun j20 hj20 hw => ?_)
  · refine go_iconst C 1 dX12_coins_20 kc_i1 ?_
    refine go_c0V_i C [iV v3, iV 1] vX12_fails tw8_23 (ci := 12) rfl (m_X12_fails (xl X) C.2.2.2.2.2.2.2.1 N hw.2) ⟨Nat.le_of_ble_eq_true rfl, Nat.le_of_ble_eq_true rfl, Nat.le_of_ble_eq_true rfl, Nat.le_of_ble_eq_true rfl⟩ ⟨rfl, rfl⟩ hw.1 dX12_coins_21 rfl (Nat.le_of_ble_eq_true rfl) rfl (fun v4 h5 hw => ?_)
    refine go_if_eq C 31 dX12_coins_24 (by decide) hw (fun hw => ?_) (fun hw => ?_)
    · refine go_aload_n C dX12_coins_31 0 rfl ?_
      refine go_getA C (cfX12) (k := 51) (Nat.le_of_ble_eq_true rfl) tw7_134 rfl dX12_coins_32 hw (fun a6 hw => ?_)
      refine go_iload_n C dX12_coins_35 1 rfl ?_
      refine go_iaload C dX12_coins_36 hw (fun v7 hw => ?_)
      exact go_iret C dX12_coins_37 hw (Nat.le_of_ble_eq_true rfl) (Nat.le_of_ble_eq_true rfl)
    refine go_iconst C (-1) dX12_coins_27 kc_im1 ?_
    refine go_goto C 37 dX12_coins_28 (by decide) ?_
    exact go_iret C dX12_coins_37 hw (Nat.le_of_ble_eq_true rfl) (Nat.le_of_ble_eq_true rfl)
  refine go_if_ne C 19 dX12_coins_12 (by decide) hw (fun hw => ?_) (fun hw => ?_)
  · refine go_iconst C 0 dX12_coins_19 kc_i0 ?_
    exact hj20 0 hw
  refine go_iconst C 1 dX12_coins_15 kc_i1 ?_
  refine go_goto C 20 dX12_coins_16 (by decide) ?_
  exact hj20 1 hw
/-- DuelSchemaModel.misses(II)I -/
def w_X12_misses (N : Nat) (a0 : Nat) (p1 : Int32) (p2 : Int32) (h0 : Hp) (K : Int32 → Hp → Prop) : Prop :=
  pF h0 a0 12 0 (iV 0) fun h1 =>
  w_X12_in N p1 0 1 h1 fun v2 =>
  jn (fun (v3 : Int32) => 
    cv h1 a0 12 <| w_X12_fails N a0 v3 1 h1 fun v4 h5 =>
    br (v4 = 0) (
      gI h5 a0 12 52 fun v6 =>
      w_X12_in N p2 0 (v6 - 1) h5 fun v7 =>
      jn (fun (v8 : Int32) => 
        cv h5 a0 12 <| w_X12_fails N a0 v8 2 h5 fun v9 h10 =>
        br (v9 = 0) (
          gA h10 a0 12 53 fun a11 =>
          aI h10 a11 0 ((2 * p2) + p1) fun v12 =>
          K v12 h10) (
          K (-1) h10)) (fun j47 =>
      br (v7 = 0) (
        j47 1) (
        j47 0))) (
      K (-1) h5)) (fun j20 =>
  br (v2 = 0) (
    j20 1) (
    j20 0))
abbrev rmX12_misses : Room := { frames := 3, cells := 0, slots := 0, locals := 82 }
theorem vX12_misses : VI RX12 yX12_misses cX12_misses 3 (some .int) 2 := ⟨tw9_114, tw9_115, tw1_8, tw9_116, by decide +kernel⟩
set_option maxHeartbeats 4000000 in
theorem m_X12_misses {G : Gp} (l : Launch) (hfl : l.stackTraces = false) (N : Nat) {a0 : Nat} {p1 : Int32} {p2 : Int32} {h0 : Hp} {K : Int32 → Hp → Prop} (hw : w_X12_misses N a0 p1 p2 h0 K) : MT G l yX12_misses cX12_misses 3 (some .int) rmX12_misses [rV (some a0), iV p1, iV p2] h0 (QI G K) := by
  refine go_metT l hfl _ 3 _ _ rfl (by decide +kernel) (Nat.le_of_ble_eq_true rfl) [(0, rV (some a0)), (1, iV p1), (2, iV p2)] rfl (fun X hX C hn => ?_)
  subst hX
  unfold w_X12_misses at hw
  refine go_aload_n C dX12_misses_0 0 rfl ?_
  refine go_iconst C 0 dX12_misses_1 kc_i0 ?_
  refine go_putI C (cfX12) (k := 0) (Nat.le_of_ble_eq_true rfl) tw7_83 rfl (Or.inl rfl) rfl dX12_misses_2 hw (fun h1 hw => ?_)
  refine go_aload_n C dX12_misses_5 0 rfl ?_
  refine go_iload_n C dX12_misses_6 1 rfl ?_
  refine go_iconst C 0 dX12_misses_7 kc_i0 ?_
  refine go_iconst C 1 dX12_misses_8 kc_i1 ?_
  refine go_pS_i C [iV p1, iV 0, iV 1] vX12_in tw8_20 (m_X12_in (xl X) C.2.2.2.2.2.2.2.1 N hw) ⟨Nat.le_of_ble_eq_true rfl, Nat.le_of_ble_eq_true rfl, Nat.le_of_ble_eq_true rfl, Nat.le_of_ble_eq_true rfl⟩ ⟨rfl, rfl⟩ dX12_misses_9 rfl (Nat.le_of_ble_eq_true rfl) rfl (fun v2 hw => ?_)
  refine jn_elim (P := fun j => ∀ (v3 : Int32), j v3 → Go G X rmX12_misses 3 0 0 (QN G X (QI G K) rmX12_misses) h1 20 [(0, rV (some a0)), (1, iV p1), (2, iV p2)] [iV v3, rV (some a0)]) hw (fun v3 hw => ?_) (fun j20 hj20 hw => ?_)
  · refine go_iconst C 1 dX12_misses_20 kc_i1 ?_
    refine go_c0V_i C [iV v3, iV 1] vX12_fails tw8_23 (ci := 12) rfl (m_X12_fails (xl X) C.2.2.2.2.2.2.2.1 N hw.2) ⟨Nat.le_of_ble_eq_true rfl, Nat.le_of_ble_eq_true rfl, Nat.le_of_ble_eq_true rfl, Nat.le_of_ble_eq_true rfl⟩ ⟨rfl, rfl⟩ hw.1 dX12_misses_21 rfl (Nat.le_of_ble_eq_true rfl) rfl (fun v4 h5 hw => ?_)
    refine go_if_ne C 54 dX12_misses_24 (by decide) hw (fun hw => ?_) (fun hw => ?_)
    · refine go_iconst C (-1) dX12_misses_54 kc_im1 ?_
      exact go_iret C dX12_misses_55 hw (Nat.le_of_ble_eq_true rfl) (Nat.le_of_ble_eq_true rfl)
    refine go_aload_n C dX12_misses_27 0 rfl ?_
    refine go_iload_n C dX12_misses_28 2 rfl ?_
    refine go_iconst C 0 dX12_misses_29 kc_i0 ?_
    refine go_aload_n C dX12_misses_30 0 rfl ?_
    refine go_getI C (cfX12) (k := 52) (Nat.le_of_ble_eq_true rfl) tw7_135 rfl dX12_misses_31 hw (fun v6 hw => ?_)
    refine go_iconst C 1 dX12_misses_34 kc_i1 ?_
    refine go_isub C dX12_misses_35 ?_
    refine go_pS_i C [iV p2, iV 0, iV (v6 - 1)] vX12_in tw8_20 (m_X12_in (xl X) C.2.2.2.2.2.2.2.1 N hw) ⟨Nat.le_of_ble_eq_true rfl, Nat.le_of_ble_eq_true rfl, Nat.le_of_ble_eq_true rfl, Nat.le_of_ble_eq_true rfl⟩ ⟨rfl, rfl⟩ dX12_misses_36 rfl (Nat.le_of_ble_eq_true rfl) rfl (fun v7 hw => ?_)
    refine jn_elim (P := fun j => ∀ (v8 : Int32), j v8 → Go G X rmX12_misses 3 0 0 (QN G X (QI G K) rmX12_misses) h5 47 [(0, rV (some a0)), (1, iV p1), (2, iV p2)] [iV v8, rV (some a0)]) hw (fun v8 hw => ?_) (fun j47 hj47 hw => ?_)
    · refine go_iconst C 2 dX12_misses_47 kc_i2 ?_
      refine go_c0V_i C [iV v8, iV 2] vX12_fails tw8_23 (ci := 12) rfl (m_X12_fails (xl X) C.2.2.2.2.2.2.2.1 N hw.2) ⟨Nat.le_of_ble_eq_true rfl, Nat.le_of_ble_eq_true rfl, Nat.le_of_ble_eq_true rfl, Nat.le_of_ble_eq_true rfl⟩ ⟨rfl, rfl⟩ hw.1 dX12_misses_48 rfl (Nat.le_of_ble_eq_true rfl) rfl (fun v9 h10 hw => ?_)
      refine go_if_eq C 56 dX12_misses_51 (by decide) hw (fun hw => ?_) (fun hw => ?_)
      · refine go_aload_n C dX12_misses_56 0 rfl ?_
        refine go_getA C (cfX12) (k := 53) (Nat.le_of_ble_eq_true rfl) tw7_136 rfl dX12_misses_57 hw (fun a11 hw => ?_)
        refine go_iconst C 2 dX12_misses_60 kc_i2 ?_
        refine go_iload_n C dX12_misses_61 2 rfl ?_
        refine go_imul C dX12_misses_62 ?_
        refine go_iload_n C dX12_misses_63 1 rfl ?_
        refine go_iadd C dX12_misses_64 ?_
        refine go_iaload C dX12_misses_65 hw (fun v12 hw => ?_)
        exact go_iret C dX12_misses_66 hw (Nat.le_of_ble_eq_true rfl) (Nat.le_of_ble_eq_true rfl)
      refine go_iconst C (-1) dX12_misses_54 kc_im1 ?_
      exact go_iret C dX12_misses_55 hw (Nat.le_of_ble_eq_true rfl) (Nat.le_of_ble_eq_true rfl)
    refine go_if_ne C 46 dX12_misses_39 (by decide) hw (fun hw => ?_) (fun hw => ?_)
    · refine go_iconst C 0 dX12_misses_46 kc_i0 ?_
      exact hj47 0 hw
    refine go_iconst C 1 dX12_misses_42 kc_i1 ?_
    refine go_goto C 47 dX12_misses_43 (by decide) ?_
    exact hj47 1 hw
  refine go_if_ne C 19 dX12_misses_12 (by decide) hw (fun hw => ?_) (fun hw => ?_)
  · refine go_iconst C 0 dX12_misses_19 kc_i0 ?_
    exact hj20 0 hw
  refine go_iconst C 1 dX12_misses_15 kc_i1 ?_
  refine go_goto C 20 dX12_misses_16 (by decide) ?_
  exact hj20 1 hw
/-- DuelSchemaModel.total(I)I -/
def w_X12_total (N : Nat) (a0 : Nat) (p1 : Int32) (h0 : Hp) (K : Int32 → Hp → Prop) : Prop :=
  pF h0 a0 12 0 (iV 0) fun h1 =>
  w_X12_in N p1 0 1 h1 fun v2 =>
  jn (fun (v3 : Int32) => 
    cv h1 a0 12 <| w_X12_fails N a0 v3 1 h1 fun v4 h5 =>
    br (v4 = 0) (
      fx2 (fun (w33 : Int32 → Int32 → Prop) (x6 : Int32) (x7 : Int32) =>
        gI h5 a0 12 52 fun v8 =>
        br (v8 ≤ x7) (
          K x6 h5) (
          gA h5 a0 12 53 fun a9 =>
          aI h5 a9 0 ((2 * x7) + p1) fun v10 =>
          w33 (x6 + v10) (x7 + 1))) N 0 0) (
      K (-1) h5)) (fun j20 =>
  br (v2 = 0) (
    j20 1) (
    j20 0))
abbrev rmX12_total : Room := { frames := 3, cells := 0, slots := 0, locals := 82 }
theorem vX12_total : VI RX12 yX12_total cX12_total 4 (some .int) 1 := ⟨tw9_118, tw9_119, tw1_8, tw9_120, by decide +kernel⟩
set_option maxHeartbeats 4000000 in
theorem m_X12_total {G : Gp} (l : Launch) (hfl : l.stackTraces = false) (N : Nat) {a0 : Nat} {p1 : Int32} {h0 : Hp} {K : Int32 → Hp → Prop} (hw : w_X12_total N a0 p1 h0 K) : MT G l yX12_total cX12_total 4 (some .int) rmX12_total [rV (some a0), iV p1] h0 (QI G K) := by
  refine go_metT l hfl _ 4 _ _ rfl (by decide +kernel) (Nat.le_of_ble_eq_true rfl) [(0, rV (some a0)), (1, iV p1)] rfl (fun X hX C hn => ?_)
  subst hX
  unfold w_X12_total at hw
  refine go_aload_n C dX12_total_0 0 rfl ?_
  refine go_iconst C 0 dX12_total_1 kc_i0 ?_
  refine go_putI C (cfX12) (k := 0) (Nat.le_of_ble_eq_true rfl) tw7_83 rfl (Or.inl rfl) rfl dX12_total_2 hw (fun h1 hw => ?_)
  refine go_aload_n C dX12_total_5 0 rfl ?_
  refine go_iload_n C dX12_total_6 1 rfl ?_
  refine go_iconst C 0 dX12_total_7 kc_i0 ?_
  refine go_iconst C 1 dX12_total_8 kc_i1 ?_
  refine go_pS_i C [iV p1, iV 0, iV 1] vX12_in tw8_20 (m_X12_in (xl X) C.2.2.2.2.2.2.2.1 N hw) ⟨Nat.le_of_ble_eq_true rfl, Nat.le_of_ble_eq_true rfl, Nat.le_of_ble_eq_true rfl, Nat.le_of_ble_eq_true rfl⟩ ⟨rfl, rfl⟩ dX12_total_9 rfl (Nat.le_of_ble_eq_true rfl) rfl (fun v2 hw => ?_)
  refine jn_elim (P := fun j => ∀ (v3 : Int32), j v3 → Go G X rmX12_total 4 0 0 (QN G X (QI G K) rmX12_total) h1 20 [(0, rV (some a0)), (1, iV p1)] [iV v3, rV (some a0)]) hw (fun v3 hw => ?_) (fun j20 hj20 hw => ?_)
  · refine go_iconst C 1 dX12_total_20 kc_i1 ?_
    refine go_c0V_i C [iV v3, iV 1] vX12_fails tw8_23 (ci := 12) rfl (m_X12_fails (xl X) C.2.2.2.2.2.2.2.1 N hw.2) ⟨Nat.le_of_ble_eq_true rfl, Nat.le_of_ble_eq_true rfl, Nat.le_of_ble_eq_true rfl, Nat.le_of_ble_eq_true rfl⟩ ⟨rfl, rfl⟩ hw.1 dX12_total_21 rfl (Nat.le_of_ble_eq_true rfl) rfl (fun v4 h5 hw => ?_)
    refine go_if_eq C 29 dX12_total_24 (by decide) hw (fun hw => ?_) (fun hw => ?_)
    · refine go_iconst C 0 dX12_total_29 kc_i0 ?_
      refine go_istore_n C [(2, iV 0), (0, rV (some a0)), (1, iV p1)] dX12_total_30 (Nat.le_of_ble_eq_true rfl) rfl ?_
      refine go_iconst C 0 dX12_total_31 kc_i0 ?_
      refine go_istore_n C [(3, iV 0), (2, iV 0), (0, rV (some a0)), (1, iV p1)] dX12_total_32 (Nat.le_of_ble_eq_true rfl) rfl ?_
      refine go_sub [2, 3, 1, 0] rfl ?_
      refine fx2_elim (P := fun x6 x7 => Go G X rmX12_total 4 0 0 (QN G X (QI G K) rmX12_total) h5 33 [(0, rV (some a0)), (1, iV p1), (2, iV x6), (3, iV x7)] []) (fun w33 hj33 x6 x7 hw => ?_) N _ _ hw
      refine go_iload_n C dX12_total_33 3 rfl ?_
      refine go_aload_n C dX12_total_34 0 rfl ?_
      refine go_getI C (cfX12) (k := 52) (Nat.le_of_ble_eq_true rfl) tw7_135 rfl dX12_total_35 hw (fun v8 hw => ?_)
      refine go_icmp_ge C 60 dX12_total_38 (by decide) hw (fun hw => ?_) (fun hw => ?_)
      · refine go_iload_n C dX12_total_60 2 rfl ?_
        exact go_iret C dX12_total_61 hw (Nat.le_of_ble_eq_true rfl) (Nat.le_of_ble_eq_true rfl)
      refine go_iload_n C dX12_total_41 2 rfl ?_
      refine go_aload_n C dX12_total_42 0 rfl ?_
      refine go_getA C (cfX12) (k := 53) (Nat.le_of_ble_eq_true rfl) tw7_136 rfl dX12_total_43 hw (fun a9 hw => ?_)
      refine go_iconst C 2 dX12_total_46 kc_i2 ?_
      refine go_iload_n C dX12_total_47 3 rfl ?_
      refine go_imul C dX12_total_48 ?_
      refine go_iload_n C dX12_total_49 1 rfl ?_
      refine go_iadd C dX12_total_50 ?_
      refine go_iaload C dX12_total_51 hw (fun v10 hw => ?_)
      refine go_iadd C dX12_total_52 ?_
      refine go_istore_n C [(2, iV (x6 + v10)), (0, rV (some a0)), (1, iV p1), (3, iV x7)] dX12_total_53 (Nat.le_of_ble_eq_true rfl) rfl ?_
      refine go_iinc C (x7 + 1) [(3, iV (x7 + 1)), (2, iV (x6 + v10)), (0, rV (some a0)), (1, iV p1)] dX12_total_54 3 rfl (by rw [kc_i1]) (Nat.le_of_ble_eq_true rfl) rfl ?_
      refine go_goto C 33 dX12_total_57 (by decide) ?_
      refine go_sub [2, 3, 1, 0] rfl ?_
      exact hj33 (x6 + v10) (x7 + 1) hw
    refine go_iconst C (-1) dX12_total_27 kc_im1 ?_
    exact go_iret C dX12_total_28 hw (Nat.le_of_ble_eq_true rfl) (Nat.le_of_ble_eq_true rfl)
  refine go_if_ne C 19 dX12_total_12 (by decide) hw (fun hw => ?_) (fun hw => ?_)
  · refine go_iconst C 0 dX12_total_19 kc_i0 ?_
    exact hj20 0 hw
  refine go_iconst C 1 dX12_total_15 kc_i1 ?_
  refine go_goto C 20 dX12_total_16 (by decide) ?_
  exact hj20 1 hw
/-- DuelSchemaModel.rounds()I -/
def w_X12_rounds (N : Nat) (a0 : Nat) (h0 : Hp) (K : Int32 → Hp → Prop) : Prop :=
  pF h0 a0 12 0 (iV 0) fun h1 =>
  gI h1 a0 12 52 fun v2 =>
  K v2 h1
abbrev rmX12_rounds : Room := { frames := 2, cells := 0, slots := 0, locals := 60 }
theorem vX12_rounds : VI RX12 yX12_rounds cX12_rounds 1 (some .int) 0 := ⟨tw9_122, tw9_123, tw1_8, tw9_124, by decide +kernel⟩
set_option maxHeartbeats 4000000 in
theorem m_X12_rounds {G : Gp} (l : Launch) (hfl : l.stackTraces = false) (N : Nat) {a0 : Nat} {h0 : Hp} {K : Int32 → Hp → Prop} (hw : w_X12_rounds N a0 h0 K) : MT G l yX12_rounds cX12_rounds 1 (some .int) rmX12_rounds [rV (some a0)] h0 (QI G K) := by
  refine go_metT l hfl _ 1 _ _ rfl (by decide +kernel) (Nat.le_of_ble_eq_true rfl) [(0, rV (some a0))] rfl (fun X hX C hn => ?_)
  subst hX
  unfold w_X12_rounds at hw
  refine go_aload_n C dX12_rounds_0 0 rfl ?_
  refine go_iconst C 0 dX12_rounds_1 kc_i0 ?_
  refine go_putI C (cfX12) (k := 0) (Nat.le_of_ble_eq_true rfl) tw7_83 rfl (Or.inl rfl) rfl dX12_rounds_2 hw (fun h1 hw => ?_)
  refine go_aload_n C dX12_rounds_5 0 rfl ?_
  refine go_getI C (cfX12) (k := 52) (Nat.le_of_ble_eq_true rfl) tw7_135 rfl dX12_rounds_6 hw (fun v2 hw => ?_)
  exact go_iret C dX12_rounds_9 hw (Nat.le_of_ble_eq_true rfl) (Nat.le_of_ble_eq_true rfl)
/-- DuelSchemaModel.print()J -/
def w_X12_print (N : Nat) (a0 : Nat) (h0 : Hp) (K : Int64 → Hp → Prop) : Prop :=
  pF h0 a0 12 0 (iV 0) fun h1 =>
  fx2 (fun (w11 : Int64 → Int32 → Prop) (y2 : Int64) (x3 : Int32) =>
    gI h1 a0 12 1 fun v4 =>
    br (v4 ≤ x3) (
      gA h1 a0 12 51 fun a5 =>
      aI h1 a5 0 0 fun v6 =>
      gA h1 a0 12 51 fun a7 =>
      aI h1 a7 0 1 fun v8 =>
      K ((31 * ((31 * y2) + ((v6 : Int32).toInt64))) + ((v8 : Int32).toInt64)) h1) (
      fx2 (fun (w22 : Int64 → Int32 → Prop) (y9 : Int64) (x10 : Int32) =>
        gA h1 a0 12 3 fun a11 =>
        aI h1 a11 0 x3 fun v12 =>
        br (v12 ≤ x10) (
          w11 y9 (x3 + 1)) (
          fx2 (fun (w36 : Int64 → Int32 → Prop) (y13 : Int64) (x14 : Int32) =>
            gA h1 a0 12 2 fun a15 =>
            aI h1 a15 0 x3 fun v16 =>
            jn (
              w22 y13 (x10 + 1)) (fun j80 =>
            br (v16 ≤ x14) (
              j80 ) (
              cv h1 a0 12 <| w_X12_hasRow N a0 x3 x10 h1 fun v17 =>
              br (v17 = 0) (
                j80 ) (
                cv h1 a0 12 <| w_X12_at N a0 x3 x10 x14 h1 fun v18 =>
                w36 ((31 * y13) + ((v18 : Int32).toInt64)) (x14 + 1))))) N y9 0)) N y2 0)) N 7 0
abbrev rmX12_print : Room := { frames := 4, cells := 0, slots := 0, locals := 104 }
theorem vX12_print : VI RX12 yX12_print cX12_print 6 (some .long) 0 := ⟨tw9_126, tw9_127, tw1_8, tw9_128, by decide +kernel⟩
set_option maxHeartbeats 4000000 in
theorem m_X12_print {G : Gp} (l : Launch) (hfl : l.stackTraces = false) (N : Nat) {a0 : Nat} {h0 : Hp} {K : Int64 → Hp → Prop} (hw : w_X12_print N a0 h0 K) : MT G l yX12_print cX12_print 6 (some .long) rmX12_print [rV (some a0)] h0 (QL G K) := by
  refine go_metT l hfl _ 6 _ _ rfl (by decide +kernel) (Nat.le_of_ble_eq_true rfl) [(0, rV (some a0))] rfl (fun X hX C hn => ?_)
  subst hX
  unfold w_X12_print at hw
  refine go_aload_n C dX12_print_0 0 rfl ?_
  refine go_iconst C 0 dX12_print_1 kc_i0 ?_
  refine go_putI C (cfX12) (k := 0) (Nat.le_of_ble_eq_true rfl) tw7_83 rfl (Or.inl rfl) rfl dX12_print_2 hw (fun h1 hw => ?_)
  refine go_ldc2 C 7 dX12_print_5 tw9_129 ?_
  refine go_lstore_n C [(1, lV 7), (0, rV (some a0))] dX12_print_8 (Nat.le_of_ble_eq_true rfl) rfl ?_
  refine go_iconst C 0 dX12_print_9 kc_i0 ?_
  refine go_istore_n C [(3, iV 0), (1, lV 7), (0, rV (some a0))] dX12_print_10 (Nat.le_of_ble_eq_true rfl) rfl ?_
  refine go_sub [2, 1, 0] rfl ?_
  refine fx2_elim (P := fun y2 x3 => Go G X rmX12_print 6 0 0 (QN G X (QL G K) rmX12_print) h1 11 [(0, rV (some a0)), (1, lV y2), (3, iV x3)] []) (fun w11 hj11 y2 x3 hw => ?_) N _ _ hw
  refine go_iload_n C dX12_print_11 2 rfl ?_
  refine go_aload_n C dX12_print_12 0 rfl ?_
  refine go_getI C (cfX12) (k := 1) (Nat.le_of_ble_eq_true rfl) tw7_84 rfl dX12_print_13 hw (fun v4 hw => ?_)
  refine go_icmp_ge C 92 dX12_print_16 (by decide) hw (fun hw => ?_) (fun hw => ?_)
  · refine go_ldc2 C 31 dX12_print_92 tw9_130 ?_
    refine go_lload_n C dX12_print_95 1 rfl ?_
    refine go_lmul C dX12_print_96 ?_
    refine go_aload_n C dX12_print_97 0 rfl ?_
    refine go_getA C (cfX12) (k := 51) (Nat.le_of_ble_eq_true rfl) tw7_134 rfl dX12_print_98 hw (fun a5 hw => ?_)
    refine go_iconst C 0 dX12_print_101 kc_i0 ?_
    refine go_iaload C dX12_print_102 hw (fun v6 hw => ?_)
    refine go_i2l C dX12_print_103 ?_
    refine go_ladd C dX12_print_104 ?_
    refine go_lstore_n C [(1, lV ((31 * y2) + ((v6 : Int32).toInt64))), (0, rV (some a0)), (3, iV x3)] dX12_print_105 (Nat.le_of_ble_eq_true rfl) rfl ?_
    refine go_ldc2 C 31 dX12_print_106 tw9_130 ?_
    refine go_lload_n C dX12_print_109 0 rfl ?_
    refine go_lmul C dX12_print_110 ?_
    refine go_aload_n C dX12_print_111 1 rfl ?_
    refine go_getA C (cfX12) (k := 51) (Nat.le_of_ble_eq_true rfl) tw7_134 rfl dX12_print_112 hw (fun a7 hw => ?_)
    refine go_iconst C 1 dX12_print_115 kc_i1 ?_
    refine go_iaload C dX12_print_116 hw (fun v8 hw => ?_)
    refine go_i2l C dX12_print_117 ?_
    refine go_ladd C dX12_print_118 ?_
    exact go_lret C dX12_print_119 hw (Nat.le_of_ble_eq_true rfl) (Nat.le_of_ble_eq_true rfl)
  refine go_iconst C 0 dX12_print_19 kc_i0 ?_
  refine go_istore C [(4, iV 0), (0, rV (some a0)), (1, lV y2), (3, iV x3)] dX12_print_20 (Nat.le_of_ble_eq_true rfl) rfl ?_
  refine go_sub [1, 2, 3, 0] rfl ?_
  refine fx2_elim (P := fun y9 x10 => Go G X rmX12_print 6 0 0 (QN G X (QL G K) rmX12_print) h1 22 [(0, rV (some a0)), (1, lV y9), (3, iV x3), (4, iV x10)] []) (fun w22 hj22 y9 x10 hw => ?_) N _ _ hw
  refine go_iload C dX12_print_22 3 rfl ?_
  refine go_aload_n C dX12_print_24 0 rfl ?_
  refine go_getA C (cfX12) (k := 3) (Nat.le_of_ble_eq_true rfl) tw7_86 rfl dX12_print_25 hw (fun a11 hw => ?_)
  refine go_iload_n C dX12_print_28 2 rfl ?_
  refine go_iaload C dX12_print_29 hw (fun v12 hw => ?_)
  refine go_icmp_ge C 86 dX12_print_30 (by decide) hw (fun hw => ?_) (fun hw => ?_)
  · refine go_iinc C (x3 + 1) [(3, iV (x3 + 1)), (0, rV (some a0)), (1, lV y9), (4, iV x10)] dX12_print_86 2 rfl (by rw [kc_i1]) (Nat.le_of_ble_eq_true rfl) rfl ?_
    refine go_goto C 11 dX12_print_89 (by decide) ?_
    refine go_sub [1, 2, 0] rfl ?_
    exact hj11 y9 (x3 + 1) hw
  refine go_iconst C 0 dX12_print_33 kc_i0 ?_
  refine go_istore C [(5, iV 0), (0, rV (some a0)), (1, lV y9), (3, iV x3), (4, iV x10)] dX12_print_34 (Nat.le_of_ble_eq_true rfl) rfl ?_
  refine go_sub [1, 2, 3, 4, 0] rfl ?_
  refine fx2_elim (P := fun y13 x14 => Go G X rmX12_print 6 0 0 (QN G X (QL G K) rmX12_print) h1 36 [(0, rV (some a0)), (1, lV y13), (3, iV x3), (4, iV x10), (5, iV x14)] []) (fun w36 hj36 y13 x14 hw => ?_) N _ _ hw
  refine go_iload C dX12_print_36 4 rfl ?_
  refine go_aload_n C dX12_print_38 0 rfl ?_
  refine go_getA C (cfX12) (k := 2) (Nat.le_of_ble_eq_true rfl) tw7_85 rfl dX12_print_39 hw (fun a15 hw => ?_)
  refine go_iload_n C dX12_print_42 2 rfl ?_
  refine go_iaload C dX12_print_43 hw (fun v16 hw => ?_)
  refine jn_elim (P := fun j => j  → Go G X rmX12_print 6 0 0 (QN G X (QL G K) rmX12_print) h1 80 [(0, rV (some a0)), (1, lV y13), (3, iV x3), (4, iV x10)] []) hw (fun  hw => ?_) (fun j80 hj80 hw => ?_)
  · refine go_iinc C (x10 + 1) [(4, iV (x10 + 1)), (0, rV (some a0)), (1, lV y13), (3, iV x3)] dX12_print_80 3 rfl (by rw [kc_i1]) (Nat.le_of_ble_eq_true rfl) rfl ?_
    refine go_goto C 22 dX12_print_83 (by decide) ?_
    refine go_sub [1, 2, 3, 0] rfl ?_
    exact hj22 y13 (x10 + 1) hw
  refine go_icmp_ge C 80 dX12_print_44 (by decide) hw (fun hw => ?_) (fun hw => ?_)
  · refine go_sub [0, 1, 2, 3] rfl ?_
    exact hj80  hw
  refine go_aload_n C dX12_print_47 0 rfl ?_
  refine go_iload_n C dX12_print_48 2 rfl ?_
  refine go_iload C dX12_print_49 3 rfl ?_
  refine go_pV_i C [iV x3, iV x10] vX12_hasRow tw8_39 (ci := 12) rfl (m_X12_hasRow (xl X) C.2.2.2.2.2.2.2.1 N hw.2) ⟨Nat.le_of_ble_eq_true rfl, Nat.le_of_ble_eq_true rfl, Nat.le_of_ble_eq_true rfl, Nat.le_of_ble_eq_true rfl⟩ ⟨rfl, rfl⟩ hw.1 dX12_print_51 rfl (Nat.le_of_ble_eq_true rfl) rfl (fun v17 hw => ?_)
  refine go_if_eq C 80 dX12_print_54 (by decide) hw (fun hw => ?_) (fun hw => ?_)
  · refine go_sub [0, 1, 2, 3] rfl ?_
    exact hj80  hw
  refine go_ldc2 C 31 dX12_print_57 tw9_130 ?_
  refine go_lload_n C dX12_print_60 1 rfl ?_
  refine go_lmul C dX12_print_61 ?_
  refine go_aload_n C dX12_print_62 0 rfl ?_
  refine go_iload_n C dX12_print_63 2 rfl ?_
  refine go_iload C dX12_print_64 3 rfl ?_
  refine go_iload C dX12_print_66 4 rfl ?_
  refine go_pV_i C [iV x3, iV x10, iV x14] vX12_at tw8_43 (ci := 12) rfl (m_X12_at (xl X) C.2.2.2.2.2.2.2.1 N hw.2) ⟨Nat.le_of_ble_eq_true rfl, Nat.le_of_ble_eq_true rfl, Nat.le_of_ble_eq_true rfl, Nat.le_of_ble_eq_true rfl⟩ ⟨rfl, rfl⟩ hw.1 dX12_print_68 rfl (Nat.le_of_ble_eq_true rfl) rfl (fun v18 hw => ?_)
  refine go_i2l C dX12_print_71 ?_
  refine go_ladd C dX12_print_72 ?_
  refine go_lstore_n C [(1, lV ((31 * y13) + ((v18 : Int32).toInt64))), (0, rV (some a0)), (3, iV x3), (4, iV x10), (5, iV x14)] dX12_print_73 (Nat.le_of_ble_eq_true rfl) rfl ?_
  refine go_iinc C (x14 + 1) [(5, iV (x14 + 1)), (1, lV ((31 * y13) + ((v18 : Int32).toInt64))), (0, rV (some a0)), (3, iV x3), (4, iV x10)] dX12_print_74 4 rfl (by rw [kc_i1]) (Nat.le_of_ble_eq_true rfl) rfl ?_
  refine go_goto C 36 dX12_print_77 (by decide) ?_
  refine go_sub [2, 1, 3, 4, 0] rfl ?_
  exact hj36 ((31 * y13) + ((v18 : Int32).toInt64)) (x14 + 1) hw
/-- DuelSchemaModel.hitShare(II)F -/
def w_X12_hitShare (N : Nat) (a0 : Nat) (p1 : Int32) (p2 : Int32) (h0 : Hp) (K : UInt32 → Hp → Prop) : Prop :=
  pF h0 a0 12 0 (iV 0) fun h1 =>
  cv h1 a0 12 <| w_X12_noPlan N a0 p1 p2 h1 fun v2 h3 =>
  br (v2 = 0) (
    gA h3 a0 12 46 fun a4 =>
    aI h3 a4 0 p1 fun v5 =>
    cv h3 a0 12 <| w_X12_triesCold N a0 p1 p2 v5 h3 fun h6 =>
    gI h6 a0 12 23 fun v7 =>
    jn (fun (v8 : Int32) => 
      cv h6 a0 12 <| w_X12_fails N a0 v8 4 h6 fun v9 h10 =>
      br (v9 = 0) (
        gI h10 a0 12 23 fun v11 =>
        gI h10 a0 12 22 fun v12 =>
        gI h10 a0 12 23 fun v13 =>
        ok (vf_n32 (FP.fdiv (FP.i2f (v11 - v12)) (FP.i2f v13))) (
        K (FP.fdiv (FP.i2f (v11 - v12)) (FP.i2f v13)) h10)) (
        K FP.fconst0 h10)) (fun j41 =>
    br (v7 = 0) (
      j41 1) (
      j41 0))) (
    K FP.fconst0 h3)
abbrev rmX12_hitShare : Room := { frames := 10, cells := 0, slots := 0, locals := 260 }
theorem vX12_hitShare : VI RX12 yX12_hitShare cX12_hitShare 3 (some .float) 2 := ⟨tw9_132, tw9_133, tw1_8, tw9_134, by decide +kernel⟩
set_option maxHeartbeats 4000000 in
theorem m_X12_hitShare {G : Gp} (l : Launch) (hfl : l.stackTraces = false) (N : Nat) {a0 : Nat} {p1 : Int32} {p2 : Int32} {h0 : Hp} {K : UInt32 → Hp → Prop} (hw : w_X12_hitShare N a0 p1 p2 h0 K) : MT G l yX12_hitShare cX12_hitShare 3 (some .float) rmX12_hitShare [rV (some a0), iV p1, iV p2] h0 (QF G K) := by
  refine go_metT l hfl _ 3 _ _ rfl (by decide +kernel) (Nat.le_of_ble_eq_true rfl) [(0, rV (some a0)), (1, iV p1), (2, iV p2)] rfl (fun X hX C hn => ?_)
  subst hX
  unfold w_X12_hitShare at hw
  refine go_aload_n C dX12_hitShare_0 0 rfl ?_
  refine go_iconst C 0 dX12_hitShare_1 kc_i0 ?_
  refine go_putI C (cfX12) (k := 0) (Nat.le_of_ble_eq_true rfl) tw7_83 rfl (Or.inl rfl) rfl dX12_hitShare_2 hw (fun h1 hw => ?_)
  refine go_aload_n C dX12_hitShare_5 0 rfl ?_
  refine go_iload_n C dX12_hitShare_6 1 rfl ?_
  refine go_iload_n C dX12_hitShare_7 2 rfl ?_
  refine go_c0V_i C [iV p1, iV p2] vX12_noPlan tw9_42 (ci := 12) rfl (m_X12_noPlan (xl X) C.2.2.2.2.2.2.2.1 N hw.2) ⟨Nat.le_of_ble_eq_true rfl, Nat.le_of_ble_eq_true rfl, Nat.le_of_ble_eq_true rfl, Nat.le_of_ble_eq_true rfl⟩ ⟨rfl, rfl⟩ hw.1 dX12_hitShare_8 rfl (Nat.le_of_ble_eq_true rfl) rfl (fun v2 h3 hw => ?_)
  refine go_if_eq C 16 dX12_hitShare_11 (by decide) hw (fun hw => ?_) (fun hw => ?_)
  · refine go_aload_n C dX12_hitShare_16 0 rfl ?_
    refine go_iload_n C dX12_hitShare_17 1 rfl ?_
    refine go_iload_n C dX12_hitShare_18 2 rfl ?_
    refine go_aload_n C dX12_hitShare_19 0 rfl ?_
    refine go_getA C (cfX12) (k := 46) (Nat.le_of_ble_eq_true rfl) tw7_129 rfl dX12_hitShare_20 hw (fun a4 hw => ?_)
    refine go_iload_n C dX12_hitShare_23 1 rfl ?_
    refine go_iaload C dX12_hitShare_24 hw (fun v5 hw => ?_)
    refine go_c0V_v C [iV p1, iV p2, iV v5] vX12_triesCold tw9_50 (ci := 12) rfl (m_X12_triesCold (xl X) C.2.2.2.2.2.2.2.1 N hw.2) ⟨Nat.le_of_ble_eq_true rfl, Nat.le_of_ble_eq_true rfl, Nat.le_of_ble_eq_true rfl, Nat.le_of_ble_eq_true rfl⟩ ⟨rfl, rfl⟩ hw.1 dX12_hitShare_25 rfl (Nat.le_of_ble_eq_true rfl) rfl (fun h6 hw => ?_)
    refine go_aload_n C dX12_hitShare_28 0 rfl ?_
    refine go_aload_n C dX12_hitShare_29 0 rfl ?_
    refine go_getI C (cfX12) (k := 23) (Nat.le_of_ble_eq_true rfl) tw7_106 rfl dX12_hitShare_30 hw (fun v7 hw => ?_)
    refine jn_elim (P := fun j => ∀ (v8 : Int32), j v8 → Go G X rmX12_hitShare 3 0 0 (QN G X (QF G K) rmX12_hitShare) h6 41 [(0, rV (some a0))] [iV v8, rV (some a0)]) hw (fun v8 hw => ?_) (fun j41 hj41 hw => ?_)
    · refine go_iconst C 4 dX12_hitShare_41 kc_i4 ?_
      refine go_c0V_i C [iV v8, iV 4] vX12_fails tw8_23 (ci := 12) rfl (m_X12_fails (xl X) C.2.2.2.2.2.2.2.1 N hw.2) ⟨Nat.le_of_ble_eq_true rfl, Nat.le_of_ble_eq_true rfl, Nat.le_of_ble_eq_true rfl, Nat.le_of_ble_eq_true rfl⟩ ⟨rfl, rfl⟩ hw.1 dX12_hitShare_42 rfl (Nat.le_of_ble_eq_true rfl) rfl (fun v9 h10 hw => ?_)
      refine go_if_eq C 52 dX12_hitShare_45 (by decide) hw (fun hw => ?_) (fun hw => ?_)
      · refine go_aload_n C dX12_hitShare_52 0 rfl ?_
        refine go_getI C (cfX12) (k := 23) (Nat.le_of_ble_eq_true rfl) tw7_106 rfl dX12_hitShare_53 hw (fun v11 hw => ?_)
        refine go_aload_n C dX12_hitShare_56 0 rfl ?_
        refine go_getI C (cfX12) (k := 22) (Nat.le_of_ble_eq_true rfl) tw7_105 rfl dX12_hitShare_57 hw (fun v12 hw => ?_)
        refine go_isub C dX12_hitShare_60 ?_
        refine go_i2f C dX12_hitShare_61 ?_
        refine go_aload_n C dX12_hitShare_62 0 rfl ?_
        refine go_getI C (cfX12) (k := 23) (Nat.le_of_ble_eq_true rfl) tw7_106 rfl dX12_hitShare_63 hw (fun v13 hw => ?_)
        refine go_i2f C dX12_hitShare_66 ?_
        refine go_fdiv C dX12_hitShare_67 hw (fun hw => ?_)
        exact go_fret C dX12_hitShare_68 hw (Nat.le_of_ble_eq_true rfl) (Nat.le_of_ble_eq_true rfl)
      refine go_fconst0 C dX12_hitShare_48 ?_
      refine go_goto C 68 dX12_hitShare_49 (by decide) ?_
      exact go_fret C dX12_hitShare_68 hw (Nat.le_of_ble_eq_true rfl) (Nat.le_of_ble_eq_true rfl)
    refine go_if_ne C 40 dX12_hitShare_33 (by decide) hw (fun hw => ?_) (fun hw => ?_)
    · refine go_iconst C 0 dX12_hitShare_40 kc_i0 ?_
      refine go_sub [0] rfl ?_
      exact hj41 0 hw
    refine go_iconst C 1 dX12_hitShare_36 kc_i1 ?_
    refine go_goto C 41 dX12_hitShare_37 (by decide) ?_
    refine go_sub [0] rfl ?_
    exact hj41 1 hw
  refine go_fconst0 C dX12_hitShare_14 ?_
  exact go_fret C dX12_hitShare_15 hw (Nat.le_of_ble_eq_true rfl) (Nat.le_of_ble_eq_true rfl)
/-- DuelSchemaModel.meanMisses()D -/
def w_X12_meanMisses (N : Nat) (a0 : Nat) (h0 : Hp) (K : UInt64 → Hp → Prop) : Prop :=
  pF h0 a0 12 0 (iV 0) fun h1 =>
  fx2 (fun (w9 : Int32 → Int32 → Prop) (x2 : Int32) (x3 : Int32) =>
    gI h1 a0 12 52 fun v4 =>
    br ((2 * v4) ≤ x3) (
      gI h1 a0 12 52 fun v5 =>
      jn (fun (v6 : Int32) => 
        cv h1 a0 12 <| w_X12_fails N a0 v6 1 h1 fun v7 h8 =>
        br (v7 = 0) (
          gI h8 a0 12 52 fun v9 =>
          ok (vf_n64 (FP.ddiv (FP.i2d x2) (FP.i2d (2 * v9)))) (
          K (FP.ddiv (FP.i2d x2) (FP.i2d (2 * v9))) h8)) (
          K FP.dconst0 h8)) (fun j47 =>
      br (v5 = 0) (
        j47 1) (
        j47 0))) (
      gA h1 a0 12 53 fun a10 =>
      aI h1 a10 0 x3 fun v11 =>
      w9 (x2 + v11) (x3 + 1))) N 0 0
abbrev rmX12_meanMisses : Room := { frames := 3, cells := 0, slots := 0, locals := 82 }
theorem vX12_meanMisses : VI RX12 yX12_meanMisses cX12_meanMisses 3 (some .double) 0 := ⟨tw9_136, tw9_137, tw1_8, tw9_138, by decide +kernel⟩
set_option maxHeartbeats 4000000 in
theorem m_X12_meanMisses {G : Gp} (l : Launch) (hfl : l.stackTraces = false) (N : Nat) {a0 : Nat} {h0 : Hp} {K : UInt64 → Hp → Prop} (hw : w_X12_meanMisses N a0 h0 K) : MT G l yX12_meanMisses cX12_meanMisses 3 (some .double) rmX12_meanMisses [rV (some a0)] h0 (QD G K) := by
  refine go_metT l hfl _ 3 _ _ rfl (by decide +kernel) (Nat.le_of_ble_eq_true rfl) [(0, rV (some a0))] rfl (fun X hX C hn => ?_)
  subst hX
  unfold w_X12_meanMisses at hw
  refine go_aload_n C dX12_meanMisses_0 0 rfl ?_
  refine go_iconst C 0 dX12_meanMisses_1 kc_i0 ?_
  refine go_putI C (cfX12) (k := 0) (Nat.le_of_ble_eq_true rfl) tw7_83 rfl (Or.inl rfl) rfl dX12_meanMisses_2 hw (fun h1 hw => ?_)
  refine go_iconst C 0 dX12_meanMisses_5 kc_i0 ?_
  refine go_istore_n C [(1, iV 0), (0, rV (some a0))] dX12_meanMisses_6 (Nat.le_of_ble_eq_true rfl) rfl ?_
  refine go_iconst C 0 dX12_meanMisses_7 kc_i0 ?_
  refine go_istore_n C [(2, iV 0), (1, iV 0), (0, rV (some a0))] dX12_meanMisses_8 (Nat.le_of_ble_eq_true rfl) rfl ?_
  refine go_sub [2, 1, 0] rfl ?_
  refine fx2_elim (P := fun x2 x3 => Go G X rmX12_meanMisses 3 0 0 (QN G X (QD G K) rmX12_meanMisses) h1 9 [(0, rV (some a0)), (1, iV x2), (2, iV x3)] []) (fun w9 hj9 x2 x3 hw => ?_) N _ _ hw
  refine go_iload_n C dX12_meanMisses_9 2 rfl ?_
  refine go_iconst C 2 dX12_meanMisses_10 kc_i2 ?_
  refine go_aload_n C dX12_meanMisses_11 0 rfl ?_
  refine go_getI C (cfX12) (k := 52) (Nat.le_of_ble_eq_true rfl) tw7_135 rfl dX12_meanMisses_12 hw (fun v4 hw => ?_)
  refine go_imul C dX12_meanMisses_15 ?_
  refine go_icmp_ge C 34 dX12_meanMisses_16 (by decide) hw (fun hw => ?_) (fun hw => ?_)
  · refine go_aload_n C dX12_meanMisses_34 0 rfl ?_
    refine go_aload_n C dX12_meanMisses_35 0 rfl ?_
    refine go_getI C (cfX12) (k := 52) (Nat.le_of_ble_eq_true rfl) tw7_135 rfl dX12_meanMisses_36 hw (fun v5 hw => ?_)
    refine jn_elim (P := fun j => ∀ (v6 : Int32), j v6 → Go G X rmX12_meanMisses 3 0 0 (QN G X (QD G K) rmX12_meanMisses) h1 47 [(0, rV (some a0)), (1, iV x2)] [iV v6, rV (some a0)]) hw (fun v6 hw => ?_) (fun j47 hj47 hw => ?_)
    · refine go_iconst C 1 dX12_meanMisses_47 kc_i1 ?_
      refine go_c0V_i C [iV v6, iV 1] vX12_fails tw8_23 (ci := 12) rfl (m_X12_fails (xl X) C.2.2.2.2.2.2.2.1 N hw.2) ⟨Nat.le_of_ble_eq_true rfl, Nat.le_of_ble_eq_true rfl, Nat.le_of_ble_eq_true rfl, Nat.le_of_ble_eq_true rfl⟩ ⟨rfl, rfl⟩ hw.1 dX12_meanMisses_48 rfl (Nat.le_of_ble_eq_true rfl) rfl (fun v7 h8 hw => ?_)
      refine go_if_eq C 58 dX12_meanMisses_51 (by decide) hw (fun hw => ?_) (fun hw => ?_)
      · refine go_iload_n C dX12_meanMisses_58 1 rfl ?_
        refine go_i2d C dX12_meanMisses_59 ?_
        refine go_iconst C 2 dX12_meanMisses_60 kc_i2 ?_
        refine go_aload_n C dX12_meanMisses_61 0 rfl ?_
        refine go_getI C (cfX12) (k := 52) (Nat.le_of_ble_eq_true rfl) tw7_135 rfl dX12_meanMisses_62 hw (fun v9 hw => ?_)
        refine go_imul C dX12_meanMisses_65 ?_
        refine go_i2d C dX12_meanMisses_66 ?_
        refine go_ddiv C dX12_meanMisses_67 hw (fun hw => ?_)
        exact go_dret C dX12_meanMisses_68 hw (Nat.le_of_ble_eq_true rfl) (Nat.le_of_ble_eq_true rfl)
      refine go_dconst0 C dX12_meanMisses_54 ?_
      refine go_goto C 68 dX12_meanMisses_55 (by decide) ?_
      exact go_dret C dX12_meanMisses_68 hw (Nat.le_of_ble_eq_true rfl) (Nat.le_of_ble_eq_true rfl)
    refine go_if_ne C 46 dX12_meanMisses_39 (by decide) hw (fun hw => ?_) (fun hw => ?_)
    · refine go_iconst C 0 dX12_meanMisses_46 kc_i0 ?_
      refine go_sub [0, 1] rfl ?_
      exact hj47 0 hw
    refine go_iconst C 1 dX12_meanMisses_42 kc_i1 ?_
    refine go_goto C 47 dX12_meanMisses_43 (by decide) ?_
    refine go_sub [0, 1] rfl ?_
    exact hj47 1 hw
  refine go_iload_n C dX12_meanMisses_19 1 rfl ?_
  refine go_aload_n C dX12_meanMisses_20 0 rfl ?_
  refine go_getA C (cfX12) (k := 53) (Nat.le_of_ble_eq_true rfl) tw7_136 rfl dX12_meanMisses_21 hw (fun a10 hw => ?_)
  refine go_iload_n C dX12_meanMisses_24 2 rfl ?_
  refine go_iaload C dX12_meanMisses_25 hw (fun v11 hw => ?_)
  refine go_iadd C dX12_meanMisses_26 ?_
  refine go_istore_n C [(1, iV (x2 + v11)), (0, rV (some a0)), (2, iV x3)] dX12_meanMisses_27 (Nat.le_of_ble_eq_true rfl) rfl ?_
  refine go_iinc C (x3 + 1) [(2, iV (x3 + 1)), (1, iV (x2 + v11)), (0, rV (some a0))] dX12_meanMisses_28 2 rfl (by rw [kc_i1]) (Nat.le_of_ble_eq_true rfl) rfl ?_
  refine go_goto C 9 dX12_meanMisses_31 (by decide) ?_
  refine go_sub [2, 1, 0] rfl ?_
  exact hj9 (x2 + v11) (x3 + 1) hw
/-- DuelSchemaModel.isSound()Z -/
def w_X12_isSound (N : Nat) (a0 : Nat) (h0 : Hp) (K : Int32 → Hp → Prop) : Prop :=
  pF h0 a0 12 0 (iV 0) fun h1 =>
  K 1 h1
abbrev rmX12_isSound : Room := { frames := 2, cells := 0, slots := 0, locals := 60 }
theorem vX12_isSound : VI RX12 yX12_isSound cX12_isSound 1 (some .boolean) 0 := ⟨tw9_140, tw9_141, tw1_8, tw9_142, by decide +kernel⟩
set_option maxHeartbeats 4000000 in
theorem m_X12_isSound {G : Gp} (l : Launch) (hfl : l.stackTraces = false) (N : Nat) {a0 : Nat} {h0 : Hp} {K : Int32 → Hp → Prop} (hw : w_X12_isSound N a0 h0 K) : MT G l yX12_isSound cX12_isSound 1 (some .boolean) rmX12_isSound [rV (some a0)] h0 (QI G K) := by
  refine go_metT l hfl _ 1 _ _ rfl (by decide +kernel) (Nat.le_of_ble_eq_true rfl) [(0, rV (some a0))] rfl (fun X hX C hn => ?_)
  subst hX
  unfold w_X12_isSound at hw
  refine go_aload_n C dX12_isSound_0 0 rfl ?_
  refine go_iconst C 0 dX12_isSound_1 kc_i0 ?_
  refine go_putI C (cfX12) (k := 0) (Nat.le_of_ble_eq_true rfl) tw7_83 rfl (Or.inl rfl) rfl dX12_isSound_2 hw (fun h1 hw => ?_)
  refine go_iconst C 1 dX12_isSound_5 kc_i1 ?_
  exact go_zret C dX12_isSound_6 ⟨rfl, hw⟩ (Nat.le_of_ble_eq_true rfl) (Nat.le_of_ble_eq_true rfl)
