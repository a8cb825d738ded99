/-- DuelSchema$Plan.<init>()V -/
def w_X5_init (N : Nat) (a0 : Nat) (h0 : Hp) (K : Hp → Prop) : Prop :=
  pF h0 a0 5 0 (iV 0) fun h1 =>
  nA h1 (.inl (0, 3, .inl (fun _ => 0))) fun a2 h3 =>
  pF h3 a0 5 1 (rV (some a2)) fun h4 =>
  nA h4 (.inl (0, 3, .inl (fun _ => 0))) fun a5 h6 =>
  pF h6 a0 5 2 (rV (some a5)) fun h7 =>
  nA h7 (.inl (2, 3, .inl (fun _ => 0))) fun a8 h9 =>
  pF h9 a0 5 3 (rV (some a8)) fun h10 =>
  nA h10 (.inl (0, 3, .inl (fun _ => 0))) fun a11 h12 =>
  pF h12 a0 5 4 (rV (some a11)) fun h13 =>
  nA h13 (.inl (0, 3, .inl (fun _ => 0))) fun a14 h15 =>
  pF h15 a0 5 5 (rV (some a14)) fun h16 =>
  pF h16 a0 5 6 (lV 0) fun h17 =>
  K h17
abbrev rmX5_init : Room := { frames := 2, cells := 5, slots := 15, locals := 60 }
theorem vX5_init : II yX5_init cX5_init 1 0 := ⟨tw1_86, tw1_5, tw1_87, rfl, by decide +kernel⟩
set_option maxHeartbeats 4000000 in
theorem m_X5_init {G : Gp} (l : Launch) (hfl : l.stackTraces = false) (N : Nat) {a0 : Nat} {h0 : Hp} {K : Hp → Prop} (hw : w_X5_init N a0 h0 K) : MT G l yX5_init cX5_init 1 none rmX5_init [rV (some a0)] h0 (QV G K) := by
  refine go_metT l hfl _ 1 _ _ rfl (by decide +kernel) (Nat.le_of_ble_eq_true rfl) [(0, rV (some a0))] rfl (fun X hX C hn => ?_)
  subst hX
  unfold w_X5_init at hw
  refine go_aload_n C dX5_init_0 0 rfl ?_
  refine go_objinit C tw1_88 tw1_33 tw1_34 dX5_init_1 ⟨Nat.le_of_ble_eq_true rfl, Nat.le_of_ble_eq_true rfl⟩ (Nat.le_of_ble_eq_true rfl) ?_
  refine go_aload_n C dX5_init_4 0 rfl ?_
  refine go_iconst C 0 dX5_init_5 kc_i0 ?_
  refine go_putI C (cfX5) (k := 0) (Nat.le_of_ble_eq_true rfl) tw1_89 rfl (Or.inl rfl) rfl dX5_init_6 hw (fun h1 hw => ?_)
  refine go_aload_n C dX5_init_9 0 rfl ?_
  refine go_iconst C 3 dX5_init_10 kc_i3 ?_
  refine go_newarr0 C 3 (by decide) (by decide) (Nat.le_of_ble_eq_true rfl) tw1_76 ⟨Nat.le_of_ble_eq_true rfl, Nat.le_of_ble_eq_true rfl⟩ dX5_init_11 hw (fun a2 h3 hw => ?_)
  refine go_putRA C (cfX5) (k := 1) (Nat.le_of_ble_eq_true rfl) tw1_90 rfl (Or.inr ⟨rfl, hn, rfl⟩) rfl dX5_init_13 hw (fun h4 hw => ?_)
  refine go_aload_n C dX5_init_16 0 rfl ?_
  refine go_iconst C 3 dX5_init_17 kc_i3 ?_
  refine go_newarr0 C 3 (by decide) (by decide) (Nat.le_of_ble_eq_true rfl) tw1_76 ⟨Nat.le_of_ble_eq_true rfl, Nat.le_of_ble_eq_true rfl⟩ dX5_init_18 hw (fun a5 h6 hw => ?_)
  refine go_putRA C (cfX5) (k := 2) (Nat.le_of_ble_eq_true rfl) tw1_91 rfl (Or.inr ⟨rfl, hn, rfl⟩) rfl dX5_init_20 hw (fun h7 hw => ?_)
  refine go_aload_n C dX5_init_23 0 rfl ?_
  refine go_iconst C 3 dX5_init_24 kc_i3 ?_
  refine go_newarr2 C 3 (by decide) (by decide) (Nat.le_of_ble_eq_true rfl) tw1_111 ⟨Nat.le_of_ble_eq_true rfl, Nat.le_of_ble_eq_true rfl⟩ dX5_init_25 hw (fun a8 h9 hw => ?_)
  refine go_putRA C (cfX5) (k := 3) (Nat.le_of_ble_eq_true rfl) tw1_92 rfl (Or.inr ⟨rfl, hn, rfl⟩) rfl dX5_init_27 hw (fun h10 hw => ?_)
  refine go_aload_n C dX5_init_30 0 rfl ?_
  refine go_iconst C 3 dX5_init_31 kc_i3 ?_
  refine go_newarr0 C 3 (by decide) (by decide) (Nat.le_of_ble_eq_true rfl) tw1_76 ⟨Nat.le_of_ble_eq_true rfl, Nat.le_of_ble_eq_true rfl⟩ dX5_init_32 hw (fun a11 h12 hw => ?_)
  refine go_putRA C (cfX5) (k := 4) (Nat.le_of_ble_eq_true rfl) tw1_93 rfl (Or.inr ⟨rfl, hn, rfl⟩) rfl dX5_init_34 hw (fun h13 hw => ?_)
  refine go_aload_n C dX5_init_37 0 rfl ?_
  refine go_iconst C 3 dX5_init_38 kc_i3 ?_
  refine go_newarr0 C 3 (by decide) (by decide) (Nat.le_of_ble_eq_true rfl) tw1_76 ⟨Nat.le_of_ble_eq_true rfl, Nat.le_of_ble_eq_true rfl⟩ dX5_init_39 hw (fun a14 h15 hw => ?_)
  refine go_putRA C (cfX5) (k := 5) (Nat.le_of_ble_eq_true rfl) tw1_94 rfl (Or.inr ⟨rfl, hn, rfl⟩) rfl dX5_init_41 hw (fun h16 hw => ?_)
  refine go_aload_n C dX5_init_44 0 rfl ?_
  refine go_lconst C 0 dX5_init_45 rfl ?_
  refine go_putL C (cfX5) (k := 6) (Nat.le_of_ble_eq_true rfl) tw1_95 rfl (Or.inl rfl) rfl dX5_init_46 hw (fun h17 hw => ?_)
  exact go_vret C dX5_init_49 hw (Nat.le_of_ble_eq_true rfl) (Nat.le_of_ble_eq_true rfl)
/-- DuelSchema$Plan.size()I -/
def w_X5_size (N : Nat) (a0 : Nat) (h0 : Hp) (K : Int32 → Prop) : Prop :=
  gI h0 a0 5 0 fun v1 =>
  K v1
abbrev rmX5_size : Room := { frames := 2, cells := 0, slots := 0, locals := 60 }
theorem vX5_size : VI RX5 yX5_size cX5_size 1 (some .int) 0 := ⟨tw2_139, tw2_140, tw1_5, tw2_141, by decide +kernel⟩
set_option maxHeartbeats 4000000 in
theorem m_X5_size {G : Gp} (l : Launch) (hfl : l.stackTraces = false) (N : Nat) {a0 : Nat} {h0 : Hp} {K : Int32 → Prop} (hw : w_X5_size N a0 h0 K) : MT G l yX5_size cX5_size 1 (some .int) rmX5_size [rV (some a0)] h0 (QI G (fun r h1 => h1 = h0 ∧ K r)) := by
  refine go_metT l hfl _ 1 _ _ rfl (by decide +kernel) (Nat.le_of_ble_eq_true rfl) [(0, rV (some a0))] rfl (fun X hX C hn => ?_)
  subst hX
  unfold w_X5_size at hw
  refine go_aload_n C dX5_size_0 0 rfl ?_
  refine go_getI C (cfX5) (k := 0) (Nat.le_of_ble_eq_true rfl) tw1_89 rfl dX5_size_1 hw (fun v1 hw => ?_)
  exact go_iret C dX5_size_4 ⟨rfl, hw⟩ (Nat.le_of_ble_eq_true rfl) (Nat.le_of_ble_eq_true rfl)
/-- DuelSchema$Plan.guess()J -/
def w_X5_guess (N : Nat) (a0 : Nat) (h0 : Hp) (K : Int64 → Prop) : Prop :=
  gL h0 a0 5 6 fun v1 =>
  K v1
abbrev rmX5_guess : Room := { frames := 2, cells := 0, slots := 0, locals := 60 }
theorem vX5_guess : VI RX5 yX5_guess cX5_guess 1 (some .long) 0 := ⟨tw3_203, tw3_204, tw1_5, tw3_205, by decide +kernel⟩
set_option maxHeartbeats 4000000 in
theorem m_X5_guess {G : Gp} (l : Launch) (hfl : l.stackTraces = false) (N : Nat) {a0 : Nat} {h0 : Hp} {K : Int64 → Prop} (hw : w_X5_guess N a0 h0 K) : MT G l yX5_guess cX5_guess 1 (some .long) rmX5_guess [rV (some a0)] h0 (QL G (fun r h1 => h1 = h0 ∧ K r)) := by
  refine go_metT l hfl _ 1 _ _ rfl (by decide +kernel) (Nat.le_of_ble_eq_true rfl) [(0, rV (some a0))] rfl (fun X hX C hn => ?_)
  subst hX
  unfold w_X5_guess at hw
  refine go_aload_n C dX5_guess_0 0 rfl ?_
  refine go_getL C (cfX5) (k := 6) (Nat.le_of_ble_eq_true rfl) tw1_95 rfl dX5_guess_1 hw (fun v1 hw => ?_)
  exact go_lret C dX5_guess_4 ⟨rfl, hw⟩ (Nat.le_of_ble_eq_true rfl) (Nat.le_of_ble_eq_true rfl)
/-- DuelSchema$Plan.setGuess(J)V -/
def w_X5_setGuess (N : Nat) (a0 : Nat) (p1 : Int64) (h0 : Hp) (K : Hp → Prop) : Prop :=
  pF h0 a0 5 6 (lV p1) fun h1 =>
  K h1
abbrev rmX5_setGuess : Room := { frames := 2, cells := 0, slots := 0, locals := 60 }
theorem vX5_setGuess : VI RX5 yX5_setGuess cX5_setGuess 3 none 1 := ⟨tw3_190, tw3_191, tw1_5, tw3_192, by decide +kernel⟩
set_option maxHeartbeats 4000000 in
theorem m_X5_setGuess {G : Gp} (l : Launch) (hfl : l.stackTraces = false) (N : Nat) {a0 : Nat} {p1 : Int64} {h0 : Hp} {K : Hp → Prop} (hw : w_X5_setGuess N a0 p1 h0 K) : MT G l yX5_setGuess cX5_setGuess 3 none rmX5_setGuess [rV (some a0), lV p1] h0 (QV G K) := by
  refine go_metT l hfl _ 3 _ _ rfl (by decide +kernel) (Nat.le_of_ble_eq_true rfl) [(0, rV (some a0)), (1, lV p1)] rfl (fun X hX C hn => ?_)
  subst hX
  unfold w_X5_setGuess at hw
  refine go_aload_n C dX5_setGuess_0 0 rfl ?_
  refine go_lload_n C dX5_setGuess_1 1 rfl ?_
  refine go_putL C (cfX5) (k := 6) (Nat.le_of_ble_eq_true rfl) tw1_95 rfl (Or.inl rfl) rfl dX5_setGuess_2 hw (fun h1 hw => ?_)
  exact go_vret C dX5_setGuess_5 hw (Nat.le_of_ble_eq_true rfl) (Nat.le_of_ble_eq_true rfl)
/-- DuelSchema$Plan.positionAt(I)I -/
def w_X5_positionAt (N : Nat) (a0 : Nat) (p1 : Int32) (h0 : Hp) (K : Int32 → Prop) : Prop :=
  br (p1 < 0) (
    K (-1)) (
    gA h0 a0 5 1 fun a1 =>
    aN h0 a1 fun v2 =>
    br (v2 ≤ p1) (
      K (-1)) (
      gA h0 a0 5 1 fun a3 =>
      aI h0 a3 0 p1 fun v4 =>
      K v4))
abbrev rmX5_positionAt : Room := { frames := 2, cells := 0, slots := 0, locals := 60 }
theorem vX5_positionAt : VI RX5 yX5_positionAt cX5_positionAt 2 (some .int) 1 := ⟨tw2_143, tw2_144, tw1_5, tw2_145, by decide +kernel⟩
set_option maxHeartbeats 4000000 in
theorem m_X5_positionAt {G : Gp} (l : Launch) (hfl : l.stackTraces = false) (N : Nat) {a0 : Nat} {p1 : Int32} {h0 : Hp} {K : Int32 → Prop} (hw : w_X5_positionAt N a0 p1 h0 K) : MT G l yX5_positionAt cX5_positionAt 2 (some .int) rmX5_positionAt [rV (some a0), iV p1] h0 (QI G (fun r h1 => h1 = h0 ∧ K r)) := by
  refine go_metT l hfl _ 2 _ _ rfl (by decide +kernel) (Nat.le_of_ble_eq_true rfl) [(0, rV (some a0)), (1, iV p1)] rfl (fun X hX C hn => ?_)
  subst hX
  unfold w_X5_positionAt at hw
  refine go_iload_n C dX5_positionAt_0 1 rfl ?_
  refine go_if_lt C 22 dX5_positionAt_1 (by decide) hw (fun hw => ?_) (fun hw => ?_)
  · refine go_iconst C (-1) dX5_positionAt_22 kc_im1 ?_
    exact go_iret C dX5_positionAt_23 ⟨rfl, hw⟩ (Nat.le_of_ble_eq_true rfl) (Nat.le_of_ble_eq_true rfl)
  refine go_iload_n C dX5_positionAt_4 1 rfl ?_
  refine go_aload_n C dX5_positionAt_5 0 rfl ?_
  refine go_getA C (cfX5) (k := 1) (Nat.le_of_ble_eq_true rfl) tw1_90 rfl dX5_positionAt_6 hw (fun a1 hw => ?_)
  refine go_alen C dX5_positionAt_9 hw (fun v2 hw => ?_)
  refine go_icmp_ge C 22 dX5_positionAt_10 (by decide) hw (fun hw => ?_) (fun hw => ?_)
  · refine go_iconst C (-1) dX5_positionAt_22 kc_im1 ?_
    exact go_iret C dX5_positionAt_23 ⟨rfl, hw⟩ (Nat.le_of_ble_eq_true rfl) (Nat.le_of_ble_eq_true rfl)
  refine go_aload_n C dX5_positionAt_13 0 rfl ?_
  refine go_getA C (cfX5) (k := 1) (Nat.le_of_ble_eq_true rfl) tw1_90 rfl dX5_positionAt_14 hw (fun a3 hw => ?_)
  refine go_iload_n C dX5_positionAt_17 1 rfl ?_
  refine go_iaload C dX5_positionAt_18 hw (fun v4 hw => ?_)
  refine go_goto C 23 dX5_positionAt_19 (by decide) ?_
  exact go_iret C dX5_positionAt_23 ⟨rfl, hw⟩ (Nat.le_of_ble_eq_true rfl) (Nat.le_of_ble_eq_true rfl)
/-- DuelSchema$Plan.wayAt(I)C -/
def w_X5_wayAt (N : Nat) (a0 : Nat) (p1 : Int32) (h0 : Hp) (K : Int32 → Prop) : Prop :=
  br (p1 < 0) (
    ok (narrow .char (.int 102) = .int 102) <| K 102) (
    gA h0 a0 5 3 fun a1 =>
    aN h0 a1 fun v2 =>
    br (v2 ≤ p1) (
      ok (narrow .char (.int 102) = .int 102) <| K 102) (
      gA h0 a0 5 3 fun a3 =>
      aI h0 a3 2 p1 fun v4 =>
      ok (narrow .char (.int v4) = .int v4) <| K v4))
abbrev rmX5_wayAt : Room := { frames := 2, cells := 0, slots := 0, locals := 60 }
theorem vX5_wayAt : VI RX5 yX5_wayAt cX5_wayAt 2 (some .char) 1 := ⟨tw2_159, tw2_160, tw1_5, tw2_161, by decide +kernel⟩
set_option maxHeartbeats 4000000 in
theorem m_X5_wayAt {G : Gp} (l : Launch) (hfl : l.stackTraces = false) (N : Nat) {a0 : Nat} {p1 : Int32} {h0 : Hp} {K : Int32 → Prop} (hw : w_X5_wayAt N a0 p1 h0 K) : MT G l yX5_wayAt cX5_wayAt 2 (some .char) rmX5_wayAt [rV (some a0), iV p1] h0 (QI G (fun r h1 => h1 = h0 ∧ K r)) := by
  refine go_metT l hfl _ 2 _ _ rfl (by decide +kernel) (Nat.le_of_ble_eq_true rfl) [(0, rV (some a0)), (1, iV p1)] rfl (fun X hX C hn => ?_)
  subst hX
  unfold w_X5_wayAt at hw
  refine go_iload_n C dX5_wayAt_0 1 rfl ?_
  refine go_if_lt C 22 dX5_wayAt_1 (by decide) hw (fun hw => ?_) (fun hw => ?_)
  · refine go_bipush C 102 dX5_wayAt_22 kc_b102 ?_
    exact go_zret C dX5_wayAt_24 ⟨hw.1, ⟨rfl, hw.2⟩⟩ (Nat.le_of_ble_eq_true rfl) (Nat.le_of_ble_eq_true rfl)
  refine go_iload_n C dX5_wayAt_4 1 rfl ?_
  refine go_aload_n C dX5_wayAt_5 0 rfl ?_
  refine go_getA C (cfX5) (k := 3) (Nat.le_of_ble_eq_true rfl) tw1_92 rfl dX5_wayAt_6 hw (fun a1 hw => ?_)
  refine go_alen C dX5_wayAt_9 hw (fun v2 hw => ?_)
  refine go_icmp_ge C 22 dX5_wayAt_10 (by decide) hw (fun hw => ?_) (fun hw => ?_)
  · refine go_bipush C 102 dX5_wayAt_22 kc_b102 ?_
    exact go_zret C dX5_wayAt_24 ⟨hw.1, ⟨rfl, hw.2⟩⟩ (Nat.le_of_ble_eq_true rfl) (Nat.le_of_ble_eq_true rfl)
  refine go_aload_n C dX5_wayAt_13 0 rfl ?_
  refine go_getA C (cfX5) (k := 3) (Nat.le_of_ble_eq_true rfl) tw1_92 rfl dX5_wayAt_14 hw (fun a3 hw => ?_)
  refine go_iload_n C dX5_wayAt_17 1 rfl ?_
  refine go_caload C dX5_wayAt_18 hw (fun v4 hw => ?_)
  refine go_goto C 24 dX5_wayAt_19 (by decide) ?_
  exact go_zret C dX5_wayAt_24 ⟨hw.1, ⟨rfl, hw.2⟩⟩ (Nat.le_of_ble_eq_true rfl) (Nat.le_of_ble_eq_true rfl)
/-- DuelSchema$Plan.reasonAt(I)I -/
def w_X5_reasonAt (N : Nat) (a0 : Nat) (p1 : Int32) (h0 : Hp) (K : Int32 → Prop) : Prop :=
  br (p1 < 0) (
    K (-1)) (
    gA h0 a0 5 4 fun a1 =>
    aN h0 a1 fun v2 =>
    br (v2 ≤ p1) (
      K (-1)) (
      gA h0 a0 5 4 fun a3 =>
      aI h0 a3 0 p1 fun v4 =>
      K v4))
abbrev rmX5_reasonAt : Room := { frames := 2, cells := 0, slots := 0, locals := 60 }
theorem vX5_reasonAt : VI RX5 yX5_reasonAt cX5_reasonAt 2 (some .int) 1 := ⟨tw3_26, tw3_27, tw1_5, tw3_28, by decide +kernel⟩
set_option maxHeartbeats 4000000 in
theorem m_X5_reasonAt {G : Gp} (l : Launch) (hfl : l.stackTraces = false) (N : Nat) {a0 : Nat} {p1 : Int32} {h0 : Hp} {K : Int32 → Prop} (hw : w_X5_reasonAt N a0 p1 h0 K) : MT G l yX5_reasonAt cX5_reasonAt 2 (some .int) rmX5_reasonAt [rV (some a0), iV p1] h0 (QI G (fun r h1 => h1 = h0 ∧ K r)) := by
  refine go_metT l hfl _ 2 _ _ rfl (by decide +kernel) (Nat.le_of_ble_eq_true rfl) [(0, rV (some a0)), (1, iV p1)] rfl (fun X hX C hn => ?_)
  subst hX
  unfold w_X5_reasonAt at hw
  refine go_iload_n C dX5_reasonAt_0 1 rfl ?_
  refine go_if_lt C 22 dX5_reasonAt_1 (by decide) hw (fun hw => ?_) (fun hw => ?_)
  · refine go_iconst C (-1) dX5_reasonAt_22 kc_im1 ?_
    exact go_iret C dX5_reasonAt_23 ⟨rfl, hw⟩ (Nat.le_of_ble_eq_true rfl) (Nat.le_of_ble_eq_true rfl)
  refine go_iload_n C dX5_reasonAt_4 1 rfl ?_
  refine go_aload_n C dX5_reasonAt_5 0 rfl ?_
  refine go_getA C (cfX5) (k := 4) (Nat.le_of_ble_eq_true rfl) tw1_93 rfl dX5_reasonAt_6 hw (fun a1 hw => ?_)
  refine go_alen C dX5_reasonAt_9 hw (fun v2 hw => ?_)
  refine go_icmp_ge C 22 dX5_reasonAt_10 (by decide) hw (fun hw => ?_) (fun hw => ?_)
  · refine go_iconst C (-1) dX5_reasonAt_22 kc_im1 ?_
    exact go_iret C dX5_reasonAt_23 ⟨rfl, hw⟩ (Nat.le_of_ble_eq_true rfl) (Nat.le_of_ble_eq_true rfl)
  refine go_aload_n C dX5_reasonAt_13 0 rfl ?_
  refine go_getA C (cfX5) (k := 4) (Nat.le_of_ble_eq_true rfl) tw1_93 rfl dX5_reasonAt_14 hw (fun a3 hw => ?_)
  refine go_iload_n C dX5_reasonAt_17 1 rfl ?_
  refine go_iaload C dX5_reasonAt_18 hw (fun v4 hw => ?_)
  refine go_goto C 23 dX5_reasonAt_19 (by decide) ?_
  exact go_iret C dX5_reasonAt_23 ⟨rfl, hw⟩ (Nat.le_of_ble_eq_true rfl) (Nat.le_of_ble_eq_true rfl)
/-- DuelSchema$Plan.indexAt(I)I -/
def w_X5_indexAt (N : Nat) (a0 : Nat) (p1 : Int32) (h0 : Hp) (K : Int32 → Prop) : Prop :=
  br (p1 < 0) (
    K (-1)) (
    gA h0 a0 5 5 fun a1 =>
    aN h0 a1 fun v2 =>
    br (v2 ≤ p1) (
      K (-1)) (
      gA h0 a0 5 5 fun a3 =>
      aI h0 a3 0 p1 fun v4 =>
      K v4))
abbrev rmX5_indexAt : Room := { frames := 2, cells := 0, slots := 0, locals := 60 }
theorem vX5_indexAt : VI RX5 yX5_indexAt cX5_indexAt 2 (some .int) 1 := ⟨tw2_151, tw2_152, tw1_5, tw2_153, by decide +kernel⟩
set_option maxHeartbeats 4000000 in
theorem m_X5_indexAt {G : Gp} (l : Launch) (hfl : l.stackTraces = false) (N : Nat) {a0 : Nat} {p1 : Int32} {h0 : Hp} {K : Int32 → Prop} (hw : w_X5_indexAt N a0 p1 h0 K) : MT G l yX5_indexAt cX5_indexAt 2 (some .int) rmX5_indexAt [rV (some a0), iV p1] h0 (QI G (fun r h1 => h1 = h0 ∧ K r)) := by
  refine go_metT l hfl _ 2 _ _ rfl (by decide +kernel) (Nat.le_of_ble_eq_true rfl) [(0, rV (some a0)), (1, iV p1)] rfl (fun X hX C hn => ?_)
  subst hX
  unfold w_X5_indexAt at hw
  refine go_iload_n C dX5_indexAt_0 1 rfl ?_
  refine go_if_lt C 22 dX5_indexAt_1 (by decide) hw (fun hw => ?_) (fun hw => ?_)
  · refine go_iconst C (-1) dX5_indexAt_22 kc_im1 ?_
    exact go_iret C dX5_indexAt_23 ⟨rfl, hw⟩ (Nat.le_of_ble_eq_true rfl) (Nat.le_of_ble_eq_true rfl)
  refine go_iload_n C dX5_indexAt_4 1 rfl ?_
  refine go_aload_n C dX5_indexAt_5 0 rfl ?_
  refine go_getA C (cfX5) (k := 5) (Nat.le_of_ble_eq_true rfl) tw1_94 rfl dX5_indexAt_6 hw (fun a1 hw => ?_)
  refine go_alen C dX5_indexAt_9 hw (fun v2 hw => ?_)
  refine go_icmp_ge C 22 dX5_indexAt_10 (by decide) hw (fun hw => ?_) (fun hw => ?_)
  · refine go_iconst C (-1) dX5_indexAt_22 kc_im1 ?_
    exact go_iret C dX5_indexAt_23 ⟨rfl, hw⟩ (Nat.le_of_ble_eq_true rfl) (Nat.le_of_ble_eq_true rfl)
  refine go_aload_n C dX5_indexAt_13 0 rfl ?_
  refine go_getA C (cfX5) (k := 5) (Nat.le_of_ble_eq_true rfl) tw1_94 rfl dX5_indexAt_14 hw (fun a3 hw => ?_)
  refine go_iload_n C dX5_indexAt_17 1 rfl ?_
  refine go_iaload C dX5_indexAt_18 hw (fun v4 hw => ?_)
  refine go_goto C 23 dX5_indexAt_19 (by decide) ?_
  exact go_iret C dX5_indexAt_23 ⟨rfl, hw⟩ (Nat.le_of_ble_eq_true rfl) (Nat.le_of_ble_eq_true rfl)
/-- DuelSchema$Plan.isAhead(II)Z -/
def w_X5_isAhead (N : Nat) (a0 : Nat) (p1 : Int32) (p2 : Int32) (h0 : Hp) (K : Int32 → Prop) : Prop :=
  br (p1 < 0) (
    K 0) (
    gI h0 a0 5 0 fun v1 =>
    br (v1 ≤ p1) (
      K 0) (
      gA h0 a0 5 2 fun a2 =>
      aN h0 a2 fun v3 =>
      br (v3 ≤ p1) (
        K 0) (
        gA h0 a0 5 2 fun a4 =>
        aI h0 a4 0 p1 fun v5 =>
        br (p2 ≤ v5) (
          K 0) (
          K 1))))
abbrev rmX5_isAhead : Room := { frames := 2, cells := 0, slots := 0, locals := 60 }
theorem vX5_isAhead : VI RX5 yX5_isAhead cX5_isAhead 3 (some .boolean) 2 := ⟨tw2_232, tw2_233, tw1_5, tw2_234, by decide +kernel⟩
set_option maxHeartbeats 4000000 in
theorem m_X5_isAhead {G : Gp} (l : Launch) (hfl : l.stackTraces = false) (N : Nat) {a0 : Nat} {p1 : Int32} {p2 : Int32} {h0 : Hp} {K : Int32 → Prop} (hw : w_X5_isAhead N a0 p1 p2 h0 K) : MT G l yX5_isAhead cX5_isAhead 3 (some .boolean) rmX5_isAhead [rV (some a0), iV p1, iV p2] h0 (QI G (fun r h1 => h1 = h0 ∧ K r)) := by
  refine go_metT l hfl _ 3 _ _ rfl (by decide +kernel) (Nat.le_of_ble_eq_true rfl) [(0, rV (some a0)), (1, iV p1), (2, iV p2)] rfl (fun X hX C hn => ?_)
  subst hX
  unfold w_X5_isAhead at hw
  refine go_iload_n C dX5_isAhead_0 1 rfl ?_
  refine go_if_lt C 35 dX5_isAhead_1 (by decide) hw (fun hw => ?_) (fun hw => ?_)
  · refine go_iconst C 0 dX5_isAhead_35 kc_i0 ?_
    exact go_zret C dX5_isAhead_36 ⟨rfl, ⟨rfl, hw⟩⟩ (Nat.le_of_ble_eq_true rfl) (Nat.le_of_ble_eq_true rfl)
  refine go_iload_n C dX5_isAhead_4 1 rfl ?_
  refine go_aload_n C dX5_isAhead_5 0 rfl ?_
  refine go_getI C (cfX5) (k := 0) (Nat.le_of_ble_eq_true rfl) tw1_89 rfl dX5_isAhead_6 hw (fun v1 hw => ?_)
  refine go_icmp_ge C 35 dX5_isAhead_9 (by decide) hw (fun hw => ?_) (fun hw => ?_)
  · refine go_iconst C 0 dX5_isAhead_35 kc_i0 ?_
    exact go_zret C dX5_isAhead_36 ⟨rfl, ⟨rfl, hw⟩⟩ (Nat.le_of_ble_eq_true rfl) (Nat.le_of_ble_eq_true rfl)
  refine go_iload_n C dX5_isAhead_12 1 rfl ?_
  refine go_aload_n C dX5_isAhead_13 0 rfl ?_
  refine go_getA C (cfX5) (k := 2) (Nat.le_of_ble_eq_true rfl) tw1_91 rfl dX5_isAhead_14 hw (fun a2 hw => ?_)
  refine go_alen C dX5_isAhead_17 hw (fun v3 hw => ?_)
  refine go_icmp_ge C 35 dX5_isAhead_18 (by decide) hw (fun hw => ?_) (fun hw => ?_)
  · refine go_iconst C 0 dX5_isAhead_35 kc_i0 ?_
    exact go_zret C dX5_isAhead_36 ⟨rfl, ⟨rfl, hw⟩⟩ (Nat.le_of_ble_eq_true rfl) (Nat.le_of_ble_eq_true rfl)
  refine go_aload_n C dX5_isAhead_21 0 rfl ?_
  refine go_getA C (cfX5) (k := 2) (Nat.le_of_ble_eq_true rfl) tw1_91 rfl dX5_isAhead_22 hw (fun a4 hw => ?_)
  refine go_iload_n C dX5_isAhead_25 1 rfl ?_
  refine go_iaload C dX5_isAhead_26 hw (fun v5 hw => ?_)
  refine go_iload_n C dX5_isAhead_27 2 rfl ?_
  refine go_icmp_ge C 35 dX5_isAhead_28 (by decide) hw (fun hw => ?_) (fun hw => ?_)
  · refine go_iconst C 0 dX5_isAhead_35 kc_i0 ?_
    exact go_zret C dX5_isAhead_36 ⟨rfl, ⟨rfl, hw⟩⟩ (Nat.le_of_ble_eq_true rfl) (Nat.le_of_ble_eq_true rfl)
  refine go_iconst C 1 dX5_isAhead_31 kc_i1 ?_
  refine go_goto C 36 dX5_isAhead_32 (by decide) ?_
  exact go_zret C dX5_isAhead_36 ⟨rfl, ⟨rfl, hw⟩⟩ (Nat.le_of_ble_eq_true rfl) (Nat.le_of_ble_eq_true rfl)
/-- DuelSchema$Plan.usesAnyOf(I)Z -/
def w_X5_usesAnyOf (N : Nat) (a0 : Nat) (p1 : Int32) (h0 : Hp) (K : Int32 → Prop) : Prop :=
  fx1 (fun (w2 : Int32 → Prop) (x1 : Int32) =>
    gI h0 a0 5 0 fun v2 =>
    br (v2 ≤ x1) (
      K 0) (
      cv h0 a0 5 <| w_X5_indexAt N a0 x1 h0 fun v3 =>
      w_X11_isIn N p1 v3 h0 fun v4 =>
      br (v4 = 0) (
        w2 (x1 + 1)) (
        K 1))) N 0
abbrev rmX5_usesAnyOf : Room := { frames := 3, cells := 0, slots := 0, locals := 81 }
theorem vX5_usesAnyOf : VI RX5 yX5_usesAnyOf cX5_usesAnyOf 3 (some .boolean) 1 := ⟨tw4_1, tw4_2, tw1_5, tw4_3, by decide +kernel⟩
set_option maxHeartbeats 4000000 in
theorem m_X5_usesAnyOf {G : Gp} (l : Launch) (hfl : l.stackTraces = false) (N : Nat) {a0 : Nat} {p1 : Int32} {h0 : Hp} {K : Int32 → Prop} (hw : w_X5_usesAnyOf N a0 p1 h0 K) : MT G l yX5_usesAnyOf cX5_usesAnyOf 3 (some .boolean) rmX5_usesAnyOf [rV (some a0), iV p1] h0 (QI G (fun r h1 => h1 = h0 ∧ K r)) := by
  refine go_metT l hfl _ 3 _ _ rfl (by decide +kernel) (Nat.le_of_ble_eq_true rfl) [(0, rV (some a0)), (1, iV p1)] rfl (fun X hX C hn => ?_)
  subst hX
  unfold w_X5_usesAnyOf at hw
  refine go_iconst C 0 dX5_usesAnyOf_0 kc_i0 ?_
  refine go_istore_n C [(2, iV 0), (0, rV (some a0)), (1, iV p1)] dX5_usesAnyOf_1 (Nat.le_of_ble_eq_true rfl) rfl ?_
  refine go_sub [1, 2, 0] rfl ?_
  refine fx1_elim (P := fun x1 => Go G X rmX5_usesAnyOf 3 0 0 (QN G X (QI G (fun r h1 => h1 = h0 ∧ K r)) rmX5_usesAnyOf) h0 2 [(0, rV (some a0)), (1, iV p1), (2, iV x1)] []) (fun w2 hj2 x1 hw => ?_) N _ hw
  refine go_iload_n C dX5_usesAnyOf_2 2 rfl ?_
  refine go_aload_n C dX5_usesAnyOf_3 0 rfl ?_
  refine go_getI C (cfX5) (k := 0) (Nat.le_of_ble_eq_true rfl) tw1_89 rfl dX5_usesAnyOf_4 hw (fun v2 hw => ?_)
  refine go_icmp_ge C 30 dX5_usesAnyOf_7 (by decide) hw (fun hw => ?_) (fun hw => ?_)
  · refine go_iconst C 0 dX5_usesAnyOf_30 kc_i0 ?_
    exact go_zret C dX5_usesAnyOf_31 ⟨rfl, ⟨rfl, hw⟩⟩ (Nat.le_of_ble_eq_true rfl) (Nat.le_of_ble_eq_true rfl)
  refine go_iload_n C dX5_usesAnyOf_10 1 rfl ?_
  refine go_aload_n C dX5_usesAnyOf_11 0 rfl ?_
  refine go_iload_n C dX5_usesAnyOf_12 2 rfl ?_
  refine go_pV_i C [iV x1] vX5_indexAt tw3_215 (ci := 5) rfl (m_X5_indexAt (xl X) C.2.2.2.2.2.2.2.1 N hw.2) ⟨Nat.le_of_ble_eq_true rfl, Nat.le_of_ble_eq_true rfl, Nat.le_of_ble_eq_true rfl, Nat.le_of_ble_eq_true rfl⟩ ⟨rfl, rfl⟩ hw.1 dX5_usesAnyOf_13 rfl (Nat.le_of_ble_eq_true rfl) rfl (fun v3 hw => ?_)
  refine go_pSN_i C [iV p1, iV v3] vX11_isIn tw4_4 (m_X11_isIn (xl X) C.2.2.2.2.2.2.2.1 N hw) ⟨Nat.le_of_ble_eq_true rfl, Nat.le_of_ble_eq_true rfl, Nat.le_of_ble_eq_true rfl, Nat.le_of_ble_eq_true rfl⟩ ⟨rfl, rfl⟩ dX5_usesAnyOf_16 rfl (Nat.le_of_ble_eq_true rfl) rfl (fun v4 hw => ?_)
  refine go_if_eq C 24 dX5_usesAnyOf_19 (by decide) hw (fun hw => ?_) (fun hw => ?_)
  · refine go_iinc C (x1 + 1) [(2, iV (x1 + 1)), (0, rV (some a0)), (1, iV p1)] dX5_usesAnyOf_24 2 rfl (by rw [kc_i1]) (Nat.le_of_ble_eq_true rfl) rfl ?_
    refine go_goto C 2 dX5_usesAnyOf_27 (by decide) ?_
    refine go_sub [1, 2, 0] rfl ?_
    exact hj2 (x1 + 1) hw
  refine go_iconst C 1 dX5_usesAnyOf_22 kc_i1 ?_
  exact go_zret C dX5_usesAnyOf_23 ⟨rfl, ⟨rfl, hw⟩⟩ (Nat.le_of_ble_eq_true rfl) (Nat.le_of_ble_eq_true rfl)
/-- DuelSchema$Plan.setWay(ICII)V -/
def w_X5_setWay (N : Nat) (a0 : Nat) (p1 : Int32) (p2 : Int32) (p3 : Int32) (p4 : Int32) (h0 : Hp) (K : Hp → Prop) : Prop :=
  br (p1 < 0) (
    K h0) (
    br (3 ≤ p1) (
      K h0) (
      gA h0 a0 5 3 fun a1 =>
      sI h0 a1 2 p1 (vp_nar .char p2) fun h2 =>
      gA h2 a0 5 4 fun a3 =>
      sI h2 a3 0 p1 p3 fun h4 =>
      gA h4 a0 5 5 fun a5 =>
      sI h4 a5 0 p1 p4 fun h6 =>
      K h6))
abbrev rmX5_setWay : Room := { frames := 2, cells := 0, slots := 0, locals := 60 }
theorem vX5_setWay : VI RX5 yX5_setWay cX5_setWay 5 none 4 := ⟨tw2_127, tw2_128, tw1_5, tw2_129, by decide +kernel⟩
set_option maxHeartbeats 4000000 in
theorem m_X5_setWay {G : Gp} (l : Launch) (hfl : l.stackTraces = false) (N : Nat) {a0 : Nat} {p1 : Int32} {p2 : Int32} {p3 : Int32} {p4 : Int32} {h0 : Hp} {K : Hp → Prop} (hw : w_X5_setWay N a0 p1 p2 p3 p4 h0 K) : MT G l yX5_setWay cX5_setWay 5 none rmX5_setWay [rV (some a0), iV p1, iV p2, iV p3, iV p4] h0 (QV G K) := by
  refine go_metT l hfl _ 5 _ _ rfl (by decide +kernel) (Nat.le_of_ble_eq_true rfl) [(0, rV (some a0)), (1, iV p1), (2, iV p2), (3, iV p3), (4, iV p4)] rfl (fun X hX C hn => ?_)
  subst hX
  unfold w_X5_setWay at hw
  refine go_iload_n C dX5_setWay_0 1 rfl ?_
  refine go_if_lt C 31 dX5_setWay_1 (by decide) hw (fun hw => ?_) (fun hw => ?_)
  · exact go_vret C dX5_setWay_31 hw (Nat.le_of_ble_eq_true rfl) (Nat.le_of_ble_eq_true rfl)
  refine go_iload_n C dX5_setWay_4 1 rfl ?_
  refine go_iconst C 3 dX5_setWay_5 kc_i3 ?_
  refine go_icmp_ge C 31 dX5_setWay_6 (by decide) hw (fun hw => ?_) (fun hw => ?_)
  · exact go_vret C dX5_setWay_31 hw (Nat.le_of_ble_eq_true rfl) (Nat.le_of_ble_eq_true rfl)
  refine go_aload_n C dX5_setWay_9 0 rfl ?_
  refine go_getA C (cfX5) (k := 3) (Nat.le_of_ble_eq_true rfl) tw1_92 rfl dX5_setWay_10 hw (fun a1 hw => ?_)
  refine go_iload_n C dX5_setWay_13 1 rfl ?_
  refine go_iload_n C dX5_setWay_14 2 rfl ?_
  refine go_castore C dX5_setWay_15 hw (fun h2 hw => ?_)
  refine go_aload_n C dX5_setWay_16 0 rfl ?_
  refine go_getA C (cfX5) (k := 4) (Nat.le_of_ble_eq_true rfl) tw1_93 rfl dX5_setWay_17 hw (fun a3 hw => ?_)
  refine go_iload_n C dX5_setWay_20 1 rfl ?_
  refine go_iload_n C dX5_setWay_21 3 rfl ?_
  refine go_iastore C dX5_setWay_22 hw (fun h4 hw => ?_)
  refine go_aload_n C dX5_setWay_23 0 rfl ?_
  refine go_getA C (cfX5) (k := 5) (Nat.le_of_ble_eq_true rfl) tw1_94 rfl dX5_setWay_24 hw (fun a5 hw => ?_)
  refine go_iload_n C dX5_setWay_27 1 rfl ?_
  refine go_iload C dX5_setWay_28 4 rfl ?_
  refine go_iastore C dX5_setWay_30 hw (fun h6 hw => ?_)
  exact go_vret C dX5_setWay_31 hw (Nat.le_of_ble_eq_true rfl) (Nat.le_of_ble_eq_true rfl)
/-- DuelSchema$Plan.takeOrder(II)Z -/
def w_X5_takeOrder (N : Nat) (a0 : Nat) (p1 : Int32) (p2 : Int32) (h0 : Hp) (K : Int32 → Hp → Prop) : Prop :=
  pF h0 a0 5 0 (iV p2) fun h1 =>
  fx2 (fun (w7 : Int32 → Hp → Prop) (x3 : Int32) (h2 : Hp) =>
    br (3 ≤ x3) (
      K 1 h2) (
      jn (fun (v4 : Int32) => 
        jn (
          br (v4 < 0) (
            K 0 h2) (
            br (v4 < 3) (
              gA h2 a0 5 1 fun a5 =>
              sI h2 a5 0 x3 v4 fun h6 =>
              gA h6 a0 5 2 fun a7 =>
              sI h6 a7 0 v4 x3 fun h8 =>
              cv h8 a0 5 <| w_X5_setWay N a0 x3 102 (-1) (-1) h8 fun h9 =>
              w7 (x3 + 1) h9) (
              K 0 h2))) (fun j56 =>
        br (x3 < p2) (
          j56 ) (
          br (v4 = x3) (
            j56 ) (
            K 0 h2)))) (fun j43 =>
      jn (
        j43 x3) (fun j42 =>
      br (((p1 * 3) + x3) < 0) (
        j42 ) (
        br (18 ≤ ((p1 * 3) + x3)) (
          j42 ) (
          aO ((p1 * 3) + x3) fun v10 =>
          j43 v10)))))) N 0 h1
abbrev rmX5_takeOrder : Room := { frames := 3, cells := 0, slots := 0, locals := 84 }
theorem vX5_takeOrder : VI RX5 yX5_takeOrder cX5_takeOrder 6 (some .boolean) 2 := ⟨tw2_121, tw2_122, tw1_5, tw2_123, by decide +kernel⟩
set_option maxHeartbeats 4000000 in
theorem m_X5_takeOrder {G : Gp} (l : Launch) (hfl : l.stackTraces = false) (N : Nat) {a0 : Nat} {p1 : Int32} {p2 : Int32} {h0 : Hp} {K : Int32 → Hp → Prop} (hw : w_X5_takeOrder N a0 p1 p2 h0 K) : MT G l yX5_takeOrder cX5_takeOrder 6 (some .boolean) rmX5_takeOrder [rV (some a0), iV p1, iV p2] h0 (QI G K) := by
  refine go_metT l hfl _ 6 _ _ rfl (by decide +kernel) (Nat.le_of_ble_eq_true rfl) [(0, rV (some a0)), (1, iV p1), (2, iV p2)] rfl (fun X hX C hn => ?_)
  subst hX
  unfold w_X5_takeOrder at hw
  refine go_aload_n C dX5_takeOrder_0 0 rfl ?_
  refine go_iload_n C dX5_takeOrder_1 2 rfl ?_
  refine go_putI C (cfX5) (k := 0) (Nat.le_of_ble_eq_true rfl) tw1_89 rfl (Or.inl rfl) rfl dX5_takeOrder_2 hw (fun h1 hw => ?_)
  refine go_iconst C 0 dX5_takeOrder_5 kc_i0 ?_
  refine go_istore_n C [(3, iV 0), (0, rV (some a0)), (1, iV p1), (2, iV p2)] dX5_takeOrder_6 (Nat.le_of_ble_eq_true rfl) rfl ?_
  refine go_sub [1, 2, 3, 0] rfl ?_
  refine fx2_elim (P := fun x3 h2 => Go G X rmX5_takeOrder 6 0 0 (QN G X (QI G K) rmX5_takeOrder) h2 7 [(0, rV (some a0)), (1, iV p1), (2, iV p2), (3, iV x3)] []) (fun w7 hj7 x3 h2 hw => ?_) N _ _ hw
  refine go_iload_n C dX5_takeOrder_7 3 rfl ?_
  refine go_iconst C 3 dX5_takeOrder_8 kc_i3 ?_
  refine go_icmp_ge C 100 dX5_takeOrder_9 (by decide) hw (fun hw => ?_) (fun hw => ?_)
  · refine go_iconst C 1 dX5_takeOrder_100 kc_i1 ?_
    exact go_zret C dX5_takeOrder_101 ⟨rfl, hw⟩ (Nat.le_of_ble_eq_true rfl) (Nat.le_of_ble_eq_true rfl)
  refine go_iload_n C dX5_takeOrder_12 1 rfl ?_
  refine go_iconst C 3 dX5_takeOrder_13 kc_i3 ?_
  refine go_imul C dX5_takeOrder_14 ?_
  refine go_iload_n C dX5_takeOrder_15 3 rfl ?_
  refine go_iadd C dX5_takeOrder_16 ?_
  refine go_istore C [(4, iV ((p1 * 3) + x3)), (0, rV (some a0)), (1, iV p1), (2, iV p2), (3, iV x3)] dX5_takeOrder_17 (Nat.le_of_ble_eq_true rfl) rfl ?_
  refine go_iload C dX5_takeOrder_19 0 rfl ?_
  refine jn_elim (P := fun j => ∀ (v4 : Int32), j v4 → Go G X rmX5_takeOrder 6 0 0 (QN G X (QI G K) rmX5_takeOrder) h2 43 [(0, rV (some a0)), (1, iV p1), (2, iV p2), (3, iV x3)] [iV v4]) hw (fun v4 hw => ?_) (fun j43 hj43 hw => ?_)
  · refine go_istore C [(5, iV v4), (0, rV (some a0)), (1, iV p1), (2, iV p2), (3, iV x3)] dX5_takeOrder_43 (Nat.le_of_ble_eq_true rfl) rfl ?_
    refine go_iload_n C dX5_takeOrder_45 4 rfl ?_
    refine go_iload_n C dX5_takeOrder_46 3 rfl ?_
    refine jn_elim (P := fun j => j  → Go G X rmX5_takeOrder 6 0 0 (QN G X (QI G K) rmX5_takeOrder) h2 56 [(0, rV (some a0)), (1, iV p1), (2, iV p2), (3, iV x3), (5, iV v4)] []) hw (fun  hw => ?_) (fun j56 hj56 hw => ?_)
    · refine go_iload C dX5_takeOrder_56 4 rfl ?_
      refine go_if_lt C 67 dX5_takeOrder_58 (by decide) hw (fun hw => ?_) (fun hw => ?_)
      · refine go_iconst C 0 dX5_takeOrder_67 kc_i0 ?_
        exact go_zret C dX5_takeOrder_68 ⟨rfl, hw⟩ (Nat.le_of_ble_eq_true rfl) (Nat.le_of_ble_eq_true rfl)
      refine go_iload C dX5_takeOrder_61 4 rfl ?_
      refine go_iconst C 3 dX5_takeOrder_63 kc_i3 ?_
      refine go_icmp_lt C 69 dX5_takeOrder_64 (by decide) hw (fun hw => ?_) (fun hw => ?_)
      · refine go_aload_n C dX5_takeOrder_69 0 rfl ?_
        refine go_getA C (cfX5) (k := 1) (Nat.le_of_ble_eq_true rfl) tw1_90 rfl dX5_takeOrder_70 hw (fun a5 hw => ?_)
        refine go_iload_n C dX5_takeOrder_73 3 rfl ?_
        refine go_iload C dX5_takeOrder_74 4 rfl ?_
        refine go_iastore C dX5_takeOrder_76 hw (fun h6 hw => ?_)
        refine go_aload_n C dX5_takeOrder_77 0 rfl ?_
        refine go_getA C (cfX5) (k := 2) (Nat.le_of_ble_eq_true rfl) tw1_91 rfl dX5_takeOrder_78 hw (fun a7 hw => ?_)
        refine go_iload C dX5_takeOrder_81 4 rfl ?_
        refine go_iload_n C dX5_takeOrder_83 3 rfl ?_
        refine go_iastore C dX5_takeOrder_84 hw (fun h8 hw => ?_)
        refine go_aload_n C dX5_takeOrder_85 0 rfl ?_
        refine go_iload_n C dX5_takeOrder_86 3 rfl ?_
        refine go_bipush C 102 dX5_takeOrder_87 kc_b102 ?_
        refine go_iconst C (-1) dX5_takeOrder_89 kc_im1 ?_
        refine go_iconst C (-1) dX5_takeOrder_90 kc_im1 ?_
        refine go_c0V_v C [iV x3, iV 102, iV (-1), iV (-1)] vX5_setWay tw2_126 (ci := 5) rfl (m_X5_setWay (xl X) C.2.2.2.2.2.2.2.1 N hw.2) ⟨Nat.le_of_ble_eq_true rfl, Nat.le_of_ble_eq_true rfl, Nat.le_of_ble_eq_true rfl, Nat.le_of_ble_eq_true rfl⟩ ⟨rfl, rfl⟩ hw.1 dX5_takeOrder_91 rfl (Nat.le_of_ble_eq_true rfl) rfl (fun h9 hw => ?_)
        refine go_iinc C (x3 + 1) [(3, iV (x3 + 1)), (0, rV (some a0)), (1, iV p1), (2, iV p2), (5, iV v4)] dX5_takeOrder_94 3 rfl (by rw [kc_i1]) (Nat.le_of_ble_eq_true rfl) rfl ?_
        refine go_goto C 7 dX5_takeOrder_97 (by decide) ?_
        refine go_sub [1, 2, 3, 0] rfl ?_
        exact hj7 (x3 + 1) h9 hw
      refine go_iconst C 0 dX5_takeOrder_67 kc_i0 ?_
      exact go_zret C dX5_takeOrder_68 ⟨rfl, hw⟩ (Nat.le_of_ble_eq_true rfl) (Nat.le_of_ble_eq_true rfl)
    refine go_icmp_lt C 56 dX5_takeOrder_47 (by decide) hw (fun hw => ?_) (fun hw => ?_)
    · refine go_sub [1, 2, 3, 4, 0] rfl ?_
      exact hj56  hw
    refine go_iload C dX5_takeOrder_50 0 rfl ?_
    refine go_iload_n C dX5_takeOrder_52 4 rfl ?_
    refine go_icmp_ne C 67 dX5_takeOrder_53 (by decide) hw (fun hw => ?_) (fun hw => ?_)
    · refine go_iconst C 0 dX5_takeOrder_67 kc_i0 ?_
      exact go_zret C dX5_takeOrder_68 ⟨rfl, hw⟩ (Nat.le_of_ble_eq_true rfl) (Nat.le_of_ble_eq_true rfl)
    refine go_sub [1, 2, 3, 4, 0] rfl ?_
    exact hj56  hw
  refine jn_elim (P := fun j => j  → Go G X rmX5_takeOrder 6 0 0 (QN G X (QI G K) rmX5_takeOrder) h2 42 [(0, rV (some a0)), (1, iV p1), (2, iV p2), (3, iV x3)] []) hw (fun  hw => ?_) (fun j42 hj42 hw => ?_)
  · refine go_iload_n C dX5_takeOrder_42 3 rfl ?_
    exact hj43 x3 hw
  refine go_if_lt C 42 dX5_takeOrder_21 (by decide) hw (fun hw => ?_) (fun hw => ?_)
  · refine go_sub [1, 2, 3, 4] rfl ?_
    exact hj42  hw
  refine go_iload C dX5_takeOrder_24 0 rfl ?_
  refine go_orders C tw2_124 dX5_takeOrder_26 ?_
  refine go_ordlen C dX5_takeOrder_29 ?_
  refine go_icmp_ge C 42 dX5_takeOrder_30 (by decide) hw (fun hw => ?_) (fun hw => ?_)
  · refine go_sub [1, 2, 3, 4] rfl ?_
    exact hj42  hw
  refine go_orders C tw2_124 dX5_takeOrder_33 ?_
  refine go_iload C dX5_takeOrder_36 0 rfl ?_
  refine go_ordld C dX5_takeOrder_38 hw (fun v10 hw => ?_)
  refine go_goto C 43 dX5_takeOrder_39 (by decide) ?_
  refine go_sub [1, 2, 3, 4] rfl ?_
  exact hj43 v10 hw
/-- DuelSchema$Plan.copyFrom(LDuelSchema$Plan;)V -/
def w_X5_copyFrom (N : Nat) (a0 : Nat) (p1 : Option Nat) (h0 : Hp) (K : Hp → Prop) : Prop :=
  nn p1 fun a1 => cv h0 a1 5 <| w_X5_size N a1  h0 fun v2 =>
  pF h0 a0 5 0 (iV v2) fun h3 =>
  cv h3 a1 5 <| w_X5_guess N a1  h3 fun v4 =>
  pF h3 a0 5 6 (lV v4) fun h5 =>
  fx2 (fun (w18 : Int32 → Hp → Prop) (x7 : Int32) (h6 : Hp) =>
    br (3 ≤ x7) (
      K h6) (
      cv h6 a1 5 <| w_X5_positionAt N a1 x7 h6 fun v8 =>
      jn (fun (h9 : Hp) => 
        cv h9 a1 5 <| w_X5_wayAt N a1 x7 h9 fun v10 =>
        cv h9 a1 5 <| w_X5_reasonAt N a1 x7 h9 fun v11 =>
        cv h9 a1 5 <| w_X5_indexAt N a1 x7 h9 fun v12 =>
        cv h9 a0 5 <| w_X5_setWay N a0 x7 v10 v11 v12 h9 fun h13 =>
        w18 (x7 + 1) h13) (fun j52 =>
      br (v8 < 0) (
        j52 h6) (
        br (3 ≤ v8) (
          j52 h6) (
          gA h6 a0 5 1 fun a14 =>
          sI h6 a14 0 x7 v8 fun h15 =>
          gA h15 a0 5 2 fun a16 =>
          sI h15 a16 0 v8 x7 fun h17 =>
          j52 h17))))) N 0 h5
abbrev rmX5_copyFrom : Room := { frames := 3, cells := 0, slots := 0, locals := 84 }
theorem vX5_copyFrom : VI RX5 yX5_copyFrom cX5_copyFrom 4 none 1 := ⟨tw3_207, tw3_208, tw1_5, tw3_209, by decide +kernel⟩
set_option maxHeartbeats 4000000 in
theorem m_X5_copyFrom {G : Gp} (l : Launch) (hfl : l.stackTraces = false) (N : Nat) {a0 : Nat} {p1 : Option Nat} {h0 : Hp} {K : Hp → Prop} (hw : w_X5_copyFrom N a0 p1 h0 K) : MT G l yX5_copyFrom cX5_copyFrom 4 none rmX5_copyFrom [rV (some a0), rV p1] h0 (QV G K) := by
  refine go_metT l hfl _ 4 _ _ rfl (by decide +kernel) (Nat.le_of_ble_eq_true rfl) [(0, rV (some a0)), (1, rV p1)] rfl (fun X hX C hn => ?_)
  subst hX
  unfold w_X5_copyFrom at hw
  refine go_aload_n C dX5_copyFrom_0 0 rfl ?_
  refine go_aload_n C dX5_copyFrom_1 1 rfl ?_
  obtain ⟨a1, e9, hw9⟩ := hw
  subst e9
  have hw := hw9
  clear hw9
  refine go_pV_i C [] vX5_size tw3_210 (ci := 5) rfl (m_X5_size (xl X) C.2.2.2.2.2.2.2.1 N hw.2) ⟨Nat.le_of_ble_eq_true rfl, Nat.le_of_ble_eq_true rfl, Nat.le_of_ble_eq_true rfl, Nat.le_of_ble_eq_true rfl⟩ ⟨rfl, rfl⟩ hw.1 dX5_copyFrom_2 rfl (Nat.le_of_ble_eq_true rfl) rfl (fun v2 hw => ?_)
  refine go_putI C (cfX5) (k := 0) (Nat.le_of_ble_eq_true rfl) tw1_89 rfl (Or.inl rfl) rfl dX5_copyFrom_5 hw (fun h3 hw => ?_)
  refine go_aload_n C dX5_copyFrom_8 0 rfl ?_
  refine go_aload_n C dX5_copyFrom_9 1 rfl ?_
  refine go_pV_l C [] vX5_guess tw3_211 (ci := 5) rfl (m_X5_guess (xl X) C.2.2.2.2.2.2.2.1 N hw.2) ⟨Nat.le_of_ble_eq_true rfl, Nat.le_of_ble_eq_true rfl, Nat.le_of_ble_eq_true rfl, Nat.le_of_ble_eq_true rfl⟩ ⟨rfl, rfl⟩ hw.1 dX5_copyFrom_10 rfl (Nat.le_of_ble_eq_true rfl) rfl (fun v4 hw => ?_)
  refine go_putL C (cfX5) (k := 6) (Nat.le_of_ble_eq_true rfl) tw1_95 rfl (Or.inl rfl) rfl dX5_copyFrom_13 hw (fun h5 hw => ?_)
  refine go_iconst C 0 dX5_copyFrom_16 kc_i0 ?_
  refine go_istore_n C [(2, iV 0), (0, rV (some a0)), (1, rV (some a1))] dX5_copyFrom_17 (Nat.le_of_ble_eq_true rfl) rfl ?_
  refine go_sub [1, 2, 0] rfl ?_
  refine fx2_elim (P := fun x7 h6 => Go G X rmX5_copyFrom 4 0 0 (QN G X (QV G K) rmX5_copyFrom) h6 18 [(0, rV (some a0)), (1, rV (some a1)), (2, iV x7)] []) (fun w18 hj18 x7 h6 hw => ?_) N _ _ hw
  refine go_iload_n C dX5_copyFrom_18 2 rfl ?_
  refine go_iconst C 3 dX5_copyFrom_19 kc_i3 ?_
  refine go_icmp_ge C 78 dX5_copyFrom_20 (by decide) hw (fun hw => ?_) (fun hw => ?_)
  · exact go_vret C dX5_copyFrom_78 hw (Nat.le_of_ble_eq_true rfl) (Nat.le_of_ble_eq_true rfl)
  refine go_aload_n C dX5_copyFrom_23 1 rfl ?_
  refine go_iload_n C dX5_copyFrom_24 2 rfl ?_
  refine go_pV_i C [iV x7] vX5_positionAt tw3_212 (ci := 5) rfl (m_X5_positionAt (xl X) C.2.2.2.2.2.2.2.1 N hw.2) ⟨Nat.le_of_ble_eq_true rfl, Nat.le_of_ble_eq_true rfl, Nat.le_of_ble_eq_true rfl, Nat.le_of_ble_eq_true rfl⟩ ⟨rfl, rfl⟩ hw.1 dX5_copyFrom_25 rfl (Nat.le_of_ble_eq_true rfl) rfl (fun v8 hw => ?_)
  refine go_istore_n C [(3, iV v8), (0, rV (some a0)), (1, rV (some a1)), (2, iV x7)] dX5_copyFrom_28 (Nat.le_of_ble_eq_true rfl) rfl ?_
  refine go_iload_n C dX5_copyFrom_29 0 rfl ?_
  refine jn_elim (P := fun j => ∀ (h9 : Hp), j h9 → Go G X rmX5_copyFrom 4 0 0 (QN G X (QV G K) rmX5_copyFrom) h9 52 [(0, rV (some a0)), (1, rV (some a1)), (2, iV x7)] []) hw (fun h9 hw => ?_) (fun j52 hj52 hw => ?_)
  · refine go_aload_n C dX5_copyFrom_52 0 rfl ?_
    refine go_iload_n C dX5_copyFrom_53 2 rfl ?_
    refine go_aload_n C dX5_copyFrom_54 1 rfl ?_
    refine go_iload_n C dX5_copyFrom_55 2 rfl ?_
    refine go_pV_i C [iV x7] vX5_wayAt tw3_213 (ci := 5) rfl (m_X5_wayAt (xl X) C.2.2.2.2.2.2.2.1 N hw.2) ⟨Nat.le_of_ble_eq_true rfl, Nat.le_of_ble_eq_true rfl, Nat.le_of_ble_eq_true rfl, Nat.le_of_ble_eq_true rfl⟩ ⟨rfl, rfl⟩ hw.1 dX5_copyFrom_56 rfl (Nat.le_of_ble_eq_true rfl) rfl (fun v10 hw => ?_)
    refine go_aload_n C dX5_copyFrom_59 1 rfl ?_
    refine go_iload_n C dX5_copyFrom_60 2 rfl ?_
    refine go_pV_i C [iV x7] vX5_reasonAt tw3_214 (ci := 5) rfl (m_X5_reasonAt (xl X) C.2.2.2.2.2.2.2.1 N hw.2) ⟨Nat.le_of_ble_eq_true rfl, Nat.le_of_ble_eq_true rfl, Nat.le_of_ble_eq_true rfl, Nat.le_of_ble_eq_true rfl⟩ ⟨rfl, rfl⟩ hw.1 dX5_copyFrom_61 rfl (Nat.le_of_ble_eq_true rfl) rfl (fun v11 hw => ?_)
    refine go_aload_n C dX5_copyFrom_64 1 rfl ?_
    refine go_iload_n C dX5_copyFrom_65 2 rfl ?_
    refine go_pV_i C [iV x7] vX5_indexAt tw3_215 (ci := 5) rfl (m_X5_indexAt (xl X) C.2.2.2.2.2.2.2.1 N hw.2) ⟨Nat.le_of_ble_eq_true rfl, Nat.le_of_ble_eq_true rfl, Nat.le_of_ble_eq_true rfl, Nat.le_of_ble_eq_true rfl⟩ ⟨rfl, rfl⟩ hw.1 dX5_copyFrom_66 rfl (Nat.le_of_ble_eq_true rfl) rfl (fun v12 hw => ?_)
    refine go_c0V_v C [iV x7, iV v10, iV v11, iV v12] vX5_setWay tw2_126 (ci := 5) rfl (m_X5_setWay (xl X) C.2.2.2.2.2.2.2.1 N hw.2) ⟨Nat.le_of_ble_eq_true rfl, Nat.le_of_ble_eq_true rfl, Nat.le_of_ble_eq_true rfl, Nat.le_of_ble_eq_true rfl⟩ ⟨rfl, rfl⟩ hw.1 dX5_copyFrom_69 rfl (Nat.le_of_ble_eq_true rfl) rfl (fun h13 hw => ?_)
    refine go_iinc C (x7 + 1) [(2, iV (x7 + 1)), (0, rV (some a0)), (1, rV (some a1))] dX5_copyFrom_72 2 rfl (by rw [kc_i1]) (Nat.le_of_ble_eq_true rfl) rfl ?_
    refine go_goto C 18 dX5_copyFrom_75 (by decide) ?_
    refine go_sub [1, 2, 0] rfl ?_
    exact hj18 (x7 + 1) h13 hw
  refine go_if_lt C 52 dX5_copyFrom_30 (by decide) hw (fun hw => ?_) (fun hw => ?_)
  · refine go_sub [1, 2, 3] rfl ?_
    exact hj52 h6 hw
  refine go_iload_n C dX5_copyFrom_33 0 rfl ?_
  refine go_iconst C 3 dX5_copyFrom_34 kc_i3 ?_
  refine go_icmp_ge C 52 dX5_copyFrom_35 (by decide) hw (fun hw => ?_) (fun hw => ?_)
  · refine go_sub [1, 2, 3] rfl ?_
    exact hj52 h6 hw
  refine go_aload_n C dX5_copyFrom_38 1 rfl ?_
  refine go_getA C (cfX5) (k := 1) (Nat.le_of_ble_eq_true rfl) tw1_90 rfl dX5_copyFrom_39 hw (fun a14 hw => ?_)
  refine go_iload_n C dX5_copyFrom_42 3 rfl ?_
  refine go_iload_n C dX5_copyFrom_43 0 rfl ?_
  refine go_iastore C dX5_copyFrom_44 hw (fun h15 hw => ?_)
  refine go_aload_n C dX5_copyFrom_45 1 rfl ?_
  refine go_getA C (cfX5) (k := 2) (Nat.le_of_ble_eq_true rfl) tw1_91 rfl dX5_copyFrom_46 hw (fun a16 hw => ?_)
  refine go_iload_n C dX5_copyFrom_49 0 rfl ?_
  refine go_iload_n C dX5_copyFrom_50 3 rfl ?_
  refine go_iastore C dX5_copyFrom_51 hw (fun h17 hw => ?_)
  refine go_sub [1, 2, 3] rfl ?_
  exact hj52 h17 hw
/-- DuelSchema$Store.lowestIndexOn(LDuelSchema$Table;II)I -/
def w_X9_lowestIndexOn (N : Nat) (a0 : Nat) (p1 : Option Nat) (p2 : Int32) (p3 : Int32) (h0 : Hp) (K : Int32 → Prop) : Prop :=
  fx1 (fun (w3 : Int32 → Prop) (x1 : Int32) =>
    gA h0 a0 9 2 fun a2 =>
    aN h0 a2 fun v3 =>
    br (v3 ≤ x1) (
      K (-1)) (
      gA h0 a0 9 2 fun a4 =>
      aR h0 a4 6 x1 fun o5 =>
      jn (
        w3 (x1 + 1)) (fun j49 =>
      brn o5 (
        j49 ) (fun a6 =>
        cv h0 a6 3 <| w_X3_isOn N a6 p1 p2 h0 fun v7 =>
        br (v7 = 0) (
          j49 ) (
          w_X11_isIn N p3 x1 h0 fun v8 =>
          br (v8 = 0) (
            K x1) (
            j49 )))))) N 0
abbrev rmX9_lowestIndexOn : Room := { frames := 3, cells := 0, slots := 0, locals := 82 }
theorem vX9_lowestIndexOn : VI RX9 yX9_lowestIndexOn cX9_lowestIndexOn 6 (some .int) 3 := ⟨tw3_109, tw3_110, tw1_2, tw3_111, by decide +kernel⟩
set_option maxHeartbeats 4000000 in
theorem m_X9_lowestIndexOn {G : Gp} (l : Launch) (hfl : l.stackTraces = false) (N : Nat) {a0 : Nat} {p1 : Option Nat} {p2 : Int32} {p3 : Int32} {h0 : Hp} {K : Int32 → Prop} (hw : w_X9_lowestIndexOn N a0 p1 p2 p3 h0 K) : MT G l yX9_lowestIndexOn cX9_lowestIndexOn 6 (some .int) rmX9_lowestIndexOn [rV (some a0), rV p1, iV p2, iV p3] h0 (QI G (fun r h1 => h1 = h0 ∧ K r)) := by
  refine go_metT l hfl _ 6 _ _ rfl (by decide +kernel) (Nat.le_of_ble_eq_true rfl) [(0, rV (some a0)), (1, rV p1), (2, iV p2), (3, iV p3)] rfl (fun X hX C hn => ?_)
  subst hX
  unfold w_X9_lowestIndexOn at hw
  refine go_iconst C 0 dX9_lowestIndexOn_0 kc_i0 ?_
  refine go_istore C [(4, iV 0), (0, rV (some a0)), (1, rV p1), (2, iV p2), (3, iV p3)] dX9_lowestIndexOn_1 (Nat.le_of_ble_eq_true rfl) rfl ?_
  refine go_sub [1, 2, 3, 4, 0] rfl ?_
  refine fx1_elim (P := fun x1 => Go G X rmX9_lowestIndexOn 6 0 0 (QN G X (QI G (fun r h1 => h1 = h0 ∧ K r)) rmX9_lowestIndexOn) h0 3 [(0, rV (some a0)), (1, rV p1), (2, iV p2), (3, iV p3), (4, iV x1)] []) (fun w3 hj3 x1 hw => ?_) N _ hw
  refine go_iload C dX9_lowestIndexOn_3 4 rfl ?_
  refine go_aload_n C dX9_lowestIndexOn_5 0 rfl ?_
  refine go_getA C (cfX9) (k := 2) (Nat.le_of_ble_eq_true rfl) tw1_47 rfl dX9_lowestIndexOn_6 hw (fun a2 hw => ?_)
  refine go_alen C dX9_lowestIndexOn_9 hw (fun v3 hw => ?_)
  refine go_icmp_ge C 55 dX9_lowestIndexOn_10 (by decide) hw (fun hw => ?_) (fun hw => ?_)
  · refine go_iconst C (-1) dX9_lowestIndexOn_55 kc_im1 ?_
    exact go_iret C dX9_lowestIndexOn_56 ⟨rfl, hw⟩ (Nat.le_of_ble_eq_true rfl) (Nat.le_of_ble_eq_true rfl)
  refine go_aload_n C dX9_lowestIndexOn_13 0 rfl ?_
  refine go_getA C (cfX9) (k := 2) (Nat.le_of_ble_eq_true rfl) tw1_47 rfl dX9_lowestIndexOn_14 hw (fun a4 hw => ?_)
  refine go_iload C dX9_lowestIndexOn_17 4 rfl ?_
  refine go_aaload6 C dX9_lowestIndexOn_19 hw (fun o5 hw => ?_)
  refine go_astore C [(5, rV o5), (0, rV (some a0)), (1, rV p1), (2, iV p2), (3, iV p3), (4, iV x1)] dX9_lowestIndexOn_20 (Nat.le_of_ble_eq_true rfl) rfl ?_
  refine go_aload C dX9_lowestIndexOn_22 0 rfl ?_
  refine jn_elim (P := fun j => j  → Go G X rmX9_lowestIndexOn 6 0 0 (QN G X (QI G (fun r h1 => h1 = h0 ∧ K r)) rmX9_lowestIndexOn) h0 49 [(0, rV (some a0)), (1, rV p1), (2, iV p2), (3, iV p3), (4, iV x1)] []) hw (fun  hw => ?_) (fun j49 hj49 hw => ?_)
  · refine go_iinc C (x1 + 1) [(4, iV (x1 + 1)), (0, rV (some a0)), (1, rV p1), (2, iV p2), (3, iV p3)] dX9_lowestIndexOn_49 4 rfl (by rw [kc_i1]) (Nat.le_of_ble_eq_true rfl) rfl ?_
    refine go_goto C 3 dX9_lowestIndexOn_52 (by decide) ?_
    refine go_sub [1, 2, 3, 4, 0] rfl ?_
    exact hj3 (x1 + 1) hw
  refine go_ifnull C 49 dX9_lowestIndexOn_24 (by decide) hw (fun e9 hw9 => ?_) (fun a6 e9 hw9 => ?_)
  · clear hw
    subst e9
    have hw := hw9
    clear hw9
    refine go_sub [1, 2, 3, 4, 5] rfl ?_
    exact hj49  hw
  clear hw
  subst e9
  have hw := hw9
  clear hw9
  refine go_aload C dX9_lowestIndexOn_27 0 rfl ?_
  refine go_aload_n C dX9_lowestIndexOn_29 2 rfl ?_
  refine go_iload_n C dX9_lowestIndexOn_30 3 rfl ?_
  refine go_pV_i C [rV p1, iV p2] vX3_isOn tw3_112 (ci := 3) rfl (m_X3_isOn (xl X) C.2.2.2.2.2.2.2.1 N hw.2) ⟨Nat.le_of_ble_eq_true rfl, Nat.le_of_ble_eq_true rfl, Nat.le_of_ble_eq_true rfl, Nat.le_of_ble_eq_true rfl⟩ ⟨rfl, rfl⟩ hw.1 dX9_lowestIndexOn_31 rfl (Nat.le_of_ble_eq_true rfl) rfl (fun v7 hw => ?_)
  refine go_if_eq C 49 dX9_lowestIndexOn_34 (by decide) hw (fun hw => ?_) (fun hw => ?_)
  · refine go_sub [1, 2, 3, 4, 5] rfl ?_
    exact hj49  hw
  refine go_iload_n C dX9_lowestIndexOn_37 4 rfl ?_
  refine go_iload C dX9_lowestIndexOn_38 5 rfl ?_
  refine go_pSN_i C [iV p3, iV x1] vX11_isIn tw3_116 (m_X11_isIn (xl X) C.2.2.2.2.2.2.2.1 N hw) ⟨Nat.le_of_ble_eq_true rfl, Nat.le_of_ble_eq_true rfl, Nat.le_of_ble_eq_true rfl, Nat.le_of_ble_eq_true rfl⟩ ⟨rfl, rfl⟩ dX9_lowestIndexOn_40 rfl (Nat.le_of_ble_eq_true rfl) rfl (fun v8 hw => ?_)
  refine go_if_ne C 49 dX9_lowestIndexOn_43 (by decide) hw (fun hw => ?_) (fun hw => ?_)
  · refine go_sub [1, 2, 3, 4, 5] rfl ?_
    exact hj49  hw
  refine go_iload C dX9_lowestIndexOn_46 5 rfl ?_
  exact go_iret C dX9_lowestIndexOn_48 ⟨rfl, hw⟩ (Nat.le_of_ble_eq_true rfl) (Nat.le_of_ble_eq_true rfl)
/-- DuelSchema$Store.indexAt(I)LDuelSchema$Index; -/
def w_X9_indexAt (N : Nat) (a0 : Nat) (p1 : Int32) (h0 : Hp) (K : Option Nat → Prop) : Prop :=
  br (p1 < 0) (
    K none) (
    gA h0 a0 9 2 fun a1 =>
    aN h0 a1 fun v2 =>
    br (v2 ≤ p1) (
      K none) (
      gA h0 a0 9 2 fun a3 =>
      aR h0 a3 6 p1 fun o4 =>
      K o4))
abbrev rmX9_indexAt : Room := { frames := 2, cells := 0, slots := 0, locals := 60 }
theorem vX9_indexAt : VI RX9 yX9_indexAt cX9_indexAt 2 (some (.object "DuelSchema$Index")) 1 := ⟨tw2_155, tw2_156, tw1_2, tw2_157, by decide +kernel⟩
set_option maxHeartbeats 4000000 in
theorem m_X9_indexAt {G : Gp} (l : Launch) (hfl : l.stackTraces = false) (N : Nat) {a0 : Nat} {p1 : Int32} {h0 : Hp} {K : Option Nat → Prop} (hw : w_X9_indexAt N a0 p1 h0 K) : MT G l yX9_indexAt cX9_indexAt 2 (some (.object "DuelSchema$Index")) rmX9_indexAt [rV (some a0), iV p1] h0 (QR G (fun r h1 => h1 = h0 ∧ K r)) := by
  refine go_metT l hfl _ 2 _ _ rfl (by decide +kernel) (Nat.le_of_ble_eq_true rfl) [(0, rV (some a0)), (1, iV p1)] rfl (fun X hX C hn => ?_)
  subst hX
  unfold w_X9_indexAt at hw
  refine go_iload_n C dX9_indexAt_0 1 rfl ?_
  refine go_if_lt C 22 dX9_indexAt_1 (by decide) hw (fun hw => ?_) (fun hw => ?_)
  · refine go_null C dX9_indexAt_22 ?_
    exact go_aret C dX9_indexAt_23 ⟨rfl, hw⟩ (Nat.le_of_ble_eq_true rfl) (Nat.le_of_ble_eq_true rfl)
  refine go_iload_n C dX9_indexAt_4 1 rfl ?_
  refine go_aload_n C dX9_indexAt_5 0 rfl ?_
  refine go_getA C (cfX9) (k := 2) (Nat.le_of_ble_eq_true rfl) tw1_47 rfl dX9_indexAt_6 hw (fun a1 hw => ?_)
  refine go_alen C dX9_indexAt_9 hw (fun v2 hw => ?_)
  refine go_icmp_ge C 22 dX9_indexAt_10 (by decide) hw (fun hw => ?_) (fun hw => ?_)
  · refine go_null C dX9_indexAt_22 ?_
    exact go_aret C dX9_indexAt_23 ⟨rfl, hw⟩ (Nat.le_of_ble_eq_true rfl) (Nat.le_of_ble_eq_true rfl)
  refine go_aload_n C dX9_indexAt_13 0 rfl ?_
  refine go_getA C (cfX9) (k := 2) (Nat.le_of_ble_eq_true rfl) tw1_47 rfl dX9_indexAt_14 hw (fun a3 hw => ?_)
  refine go_iload_n C dX9_indexAt_17 1 rfl ?_
  refine go_aaload6 C dX9_indexAt_18 hw (fun o4 hw => ?_)
  refine go_goto C 23 dX9_indexAt_19 (by decide) ?_
  exact go_aret C dX9_indexAt_23 ⟨rfl, hw⟩ (Nat.le_of_ble_eq_true rfl) (Nat.le_of_ble_eq_true rfl)
/-- DuelSchema$Store.<init>()V -/
def w_X9_init (N : Nat) (a0 : Nat) (h0 : Hp) (K : Hp → Prop) : Prop :=
  nA h0 (.inl (5, 3, .inr (.inr (.inr (.inr (fun _ => none)))))) fun a1 h2 =>
  pF h2 a0 9 0 (rV (some a1)) fun h3 =>
  pF h3 a0 9 1 (iV 0) fun h4 =>
  nA h4 (.inl (6, 6, .inr (.inr (.inr (.inr (fun _ => none)))))) fun a5 h6 =>
  pF h6 a0 9 2 (rV (some a5)) fun h7 =>
  pF h7 a0 9 3 (iV 0) fun h8 =>
  K h8
abbrev rmX9_init : Room := { frames := 2, cells := 2, slots := 9, locals := 60 }
theorem vX9_init : II yX9_init cX9_init 1 0 := ⟨tw1_38, tw1_2, tw1_39, rfl, by decide +kernel⟩
set_option maxHeartbeats 4000000 in
theorem m_X9_init {G : Gp} (l : Launch) (hfl : l.stackTraces = false) (N : Nat) {a0 : Nat} {h0 : Hp} {K : Hp → Prop} (hw : w_X9_init N a0 h0 K) : MT G l yX9_init cX9_init 1 none rmX9_init [rV (some a0)] h0 (QV G K) := by
  refine go_metT l hfl _ 1 _ _ rfl (by decide +kernel) (Nat.le_of_ble_eq_true rfl) [(0, rV (some a0))] rfl (fun X hX C hn => ?_)
  subst hX
  unfold w_X9_init at hw
  refine go_aload_n C dX9_init_0 0 rfl ?_
  refine go_objinit C tw1_40 tw1_33 tw1_34 dX9_init_1 ⟨Nat.le_of_ble_eq_true rfl, Nat.le_of_ble_eq_true rfl⟩ (Nat.le_of_ble_eq_true rfl) ?_
  refine go_aload_n C dX9_init_4 0 rfl ?_
  refine go_iconst C 3 dX9_init_5 kc_i3 ?_
  refine go_anewarr5 C 3 (by decide) (by decide) (Nat.le_of_ble_eq_true rfl) tw1_41 ⟨Nat.le_of_ble_eq_true rfl, Nat.le_of_ble_eq_true rfl⟩ dX9_init_6 hw (fun a1 h2 hw => ?_)
  refine go_putRA C (cfX9) (k := 0) (Nat.le_of_ble_eq_true rfl) tw1_45 rfl (Or.inr ⟨rfl, hn, rfl⟩) rfl dX9_init_9 hw (fun h3 hw => ?_)
  refine go_aload_n C dX9_init_12 0 rfl ?_
  refine go_iconst C 0 dX9_init_13 kc_i0 ?_
  refine go_putI C (cfX9) (k := 1) (Nat.le_of_ble_eq_true rfl) tw1_46 rfl (Or.inl rfl) rfl dX9_init_14 hw (fun h4 hw => ?_)
  refine go_aload_n C dX9_init_17 0 rfl ?_
  refine go_bipush C 6 dX9_init_18 kc_b6 ?_
  refine go_anewarr6 C 6 (by decide) (by decide) (Nat.le_of_ble_eq_true rfl) tw1_43 ⟨Nat.le_of_ble_eq_true rfl, Nat.le_of_ble_eq_true rfl⟩ dX9_init_20 hw (fun a5 h6 hw => ?_)
  refine go_putRA C (cfX9) (k := 2) (Nat.le_of_ble_eq_true rfl) tw1_47 rfl (Or.inr ⟨rfl, hn, rfl⟩) rfl dX9_init_23 hw (fun h7 hw => ?_)
  refine go_aload_n C dX9_init_26 0 rfl ?_
  refine go_iconst C 0 dX9_init_27 kc_i0 ?_
  refine go_putI C (cfX9) (k := 3) (Nat.le_of_ble_eq_true rfl) tw1_48 rfl (Or.inl rfl) rfl dX9_init_28 hw (fun h8 hw => ?_)
  exact go_vret C dX9_init_31 hw (Nat.le_of_ble_eq_true rfl) (Nat.le_of_ble_eq_true rfl)
/-- DuelSchema$Store.tableAt(I)LDuelSchema$Table; -/
def w_X9_tableAt (N : Nat) (a0 : Nat) (p1 : Int32) (h0 : Hp) (K : Option Nat → Prop) : Prop :=
  br (p1 < 0) (
    K none) (
    gA h0 a0 9 0 fun a1 =>
    aN h0 a1 fun v2 =>
    br (v2 ≤ p1) (
      K none) (
      gA h0 a0 9 0 fun a3 =>
      aR h0 a3 5 p1 fun o4 =>
      K o4))
abbrev rmX9_tableAt : Room := { frames := 2, cells := 0, slots := 0, locals := 60 }
theorem vX9_tableAt : VI RX9 yX9_tableAt cX9_tableAt 2 (some (.object "DuelSchema$Table")) 1 := ⟨tw4_188, tw4_189, tw1_2, tw4_190, by decide +kernel⟩
set_option maxHeartbeats 4000000 in
theorem m_X9_tableAt {G : Gp} (l : Launch) (hfl : l.stackTraces = false) (N : Nat) {a0 : Nat} {p1 : Int32} {h0 : Hp} {K : Option Nat → Prop} (hw : w_X9_tableAt N a0 p1 h0 K) : MT G l yX9_tableAt cX9_tableAt 2 (some (.object "DuelSchema$Table")) rmX9_tableAt [rV (some a0), iV p1] h0 (QR G (fun r h1 => h1 = h0 ∧ K r)) := by
  refine go_metT l hfl _ 2 _ _ rfl (by decide +kernel) (Nat.le_of_ble_eq_true rfl) [(0, rV (some a0)), (1, iV p1)] rfl (fun X hX C hn => ?_)
  subst hX
  unfold w_X9_tableAt at hw
  refine go_iload_n C dX9_tableAt_0 1 rfl ?_
  refine go_if_lt C 22 dX9_tableAt_1 (by decide) hw (fun hw => ?_) (fun hw => ?_)
  · refine go_null C dX9_tableAt_22 ?_
    exact go_aret C dX9_tableAt_23 ⟨rfl, hw⟩ (Nat.le_of_ble_eq_true rfl) (Nat.le_of_ble_eq_true rfl)
  refine go_iload_n C dX9_tableAt_4 1 rfl ?_
  refine go_aload_n C dX9_tableAt_5 0 rfl ?_
  refine go_getA C (cfX9) (k := 0) (Nat.le_of_ble_eq_true rfl) tw1_45 rfl dX9_tableAt_6 hw (fun a1 hw => ?_)
  refine go_alen C dX9_tableAt_9 hw (fun v2 hw => ?_)
  refine go_icmp_ge C 22 dX9_tableAt_10 (by decide) hw (fun hw => ?_) (fun hw => ?_)
  · refine go_null C dX9_tableAt_22 ?_
    exact go_aret C dX9_tableAt_23 ⟨rfl, hw⟩ (Nat.le_of_ble_eq_true rfl) (Nat.le_of_ble_eq_true rfl)
  refine go_aload_n C dX9_tableAt_13 0 rfl ?_
  refine go_getA C (cfX9) (k := 0) (Nat.le_of_ble_eq_true rfl) tw1_45 rfl dX9_tableAt_14 hw (fun a3 hw => ?_)
  refine go_iload_n C dX9_tableAt_17 1 rfl ?_
  refine go_aaload5 C dX9_tableAt_18 hw (fun o4 hw => ?_)
  refine go_goto C 23 dX9_tableAt_19 (by decide) ?_
  exact go_aret C dX9_tableAt_23 ⟨rfl, hw⟩ (Nat.le_of_ble_eq_true rfl) (Nat.le_of_ble_eq_true rfl)
/-- DuelSchema$Store.addTable(I)I -/
def w_X9_addTable (N : Nat) (a0 : Nat) (p1 : Int32) (h0 : Hp) (K : Int32 → Hp → Prop) : Prop :=
  gI h0 a0 9 1 fun v1 =>
  br (v1 < 0) (
    K (-1) h0) (
    gA h0 a0 9 0 fun a2 =>
    aN h0 a2 fun v3 =>
    br (v1 < v3) (
      gA h0 a0 9 0 fun a4 =>
      nw h0 10 [iV 0, iV 0, iV 0, iV 0, rV none, rV none, rV none, rV none, iV 0, iV 0, rV none, rV none, rV none] fun a5 h6 =>
      w_X10_init N a5 v1 p1 h6 fun h7 =>
      sR h7 a4 5 v1 a5 10 fun h8 =>
      pF h8 a0 9 1 (iV (v1 + 1)) fun h9 =>
      K v1 h9) (
      K (-1) h0))
abbrev rmX9_addTable : Room := { frames := 3, cells := 8, slots := 188, locals := 82 }
theorem vX9_addTable : VI RX9 yX9_addTable cX9_addTable 3 (some .int) 1 := ⟨tw4_87, tw4_88, tw1_2, tw4_89, by decide +kernel⟩
set_option maxHeartbeats 4000000 in
theorem m_X9_addTable {G : Gp} (l : Launch) (hfl : l.stackTraces = false) (N : Nat) {a0 : Nat} {p1 : Int32} {h0 : Hp} {K : Int32 → Hp → Prop} (hw : w_X9_addTable N a0 p1 h0 K) : MT G l yX9_addTable cX9_addTable 3 (some .int) rmX9_addTable [rV (some a0), iV p1] h0 (QI G K) := by
  refine go_metT l hfl _ 3 _ _ rfl (by decide +kernel) (Nat.le_of_ble_eq_true rfl) [(0, rV (some a0)), (1, iV p1)] rfl (fun X hX C hn => ?_)
  subst hX
  unfold w_X9_addTable at hw
  refine go_aload_n C dX9_addTable_0 0 rfl ?_
  refine go_getI C (cfX9) (k := 1) (Nat.le_of_ble_eq_true rfl) tw1_46 rfl dX9_addTable_1 hw (fun v1 hw => ?_)
  refine go_istore_n C [(2, iV v1), (0, rV (some a0)), (1, iV p1)] dX9_addTable_4 (Nat.le_of_ble_eq_true rfl) rfl ?_
  refine go_iload_n C dX9_addTable_5 0 rfl ?_
  refine go_if_lt C 18 dX9_addTable_6 (by decide) hw (fun hw => ?_) (fun hw => ?_)
  · refine go_iconst C (-1) dX9_addTable_18 kc_im1 ?_
    exact go_iret C dX9_addTable_19 hw (Nat.le_of_ble_eq_true rfl) (Nat.le_of_ble_eq_true rfl)
  refine go_iload_n C dX9_addTable_9 0 rfl ?_
  refine go_aload_n C dX9_addTable_10 1 rfl ?_
  refine go_getA C (cfX9) (k := 0) (Nat.le_of_ble_eq_true rfl) tw1_45 rfl dX9_addTable_11 hw (fun a2 hw => ?_)
  refine go_alen C dX9_addTable_14 hw (fun v3 hw => ?_)
  refine go_icmp_lt C 20 dX9_addTable_15 (by decide) hw (fun hw => ?_) (fun hw => ?_)
  · refine go_aload_n C dX9_addTable_20 1 rfl ?_
    refine go_getA C (cfX9) (k := 0) (Nat.le_of_ble_eq_true rfl) tw1_45 rfl dX9_addTable_21 hw (fun a4 hw => ?_)
    refine go_iload_n C dX9_addTable_24 0 rfl ?_
    refine go_new C cfX10 tw1_41 tw4_90 tw1_13 [iV 0, iV 0, iV 0, iV 0, rV none, rV none, rV none, rV none, iV 0, iV 0, rV none, rV none, rV none] dfX10 ⟨Nat.le_of_ble_eq_true rfl, Nat.le_of_ble_eq_true rfl⟩ dX9_addTable_25 hw (fun a5 h6 hw => ?_)
    refine go_dup C _ dX9_addTable_28 rfl ?_
    refine go_iload_n C dX9_addTable_29 0 rfl ?_
    refine go_iload_n C dX9_addTable_30 2 rfl ?_
    refine go_callI_v C [iV v1, iV p1] vX10_init tw4_91 (m_X10_init (xl X) C.2.2.2.2.2.2.2.1 N hw) ⟨Nat.le_of_ble_eq_true rfl, Nat.le_of_ble_eq_true rfl, Nat.le_of_ble_eq_true rfl, Nat.le_of_ble_eq_true rfl⟩ dX9_addTable_31 rfl (Nat.le_of_ble_eq_true rfl) rfl (fun h7 hw => ?_)
    refine go_aastore5 C dX9_addTable_34 hw (fun h8 hw => ?_)
    refine go_aload_n C dX9_addTable_35 1 rfl ?_
    refine go_iload_n C dX9_addTable_36 0 rfl ?_
    refine go_iconst C 1 dX9_addTable_37 kc_i1 ?_
    refine go_iadd C dX9_addTable_38 ?_
    refine go_putI C (cfX9) (k := 1) (Nat.le_of_ble_eq_true rfl) tw1_46 rfl (Or.inl rfl) rfl dX9_addTable_39 hw (fun h9 hw => ?_)
    refine go_iload_n C dX9_addTable_42 0 rfl ?_
    exact go_iret C dX9_addTable_43 hw (Nat.le_of_ble_eq_true rfl) (Nat.le_of_ble_eq_true rfl)
  refine go_iconst C (-1) dX9_addTable_18 kc_im1 ?_
  exact go_iret C dX9_addTable_19 hw (Nat.le_of_ble_eq_true rfl) (Nat.le_of_ble_eq_true rfl)
/-- DuelSchema$Store.addIndex(LDuelSchema$Table;I)I -/
def w_X9_addIndex (N : Nat) (a0 : Nat) (p1 : Option Nat) (p2 : Int32) (h0 : Hp) (K : Int32 → Hp → Prop) : Prop :=
  gI h0 a0 9 3 fun v1 =>
  br (v1 < 0) (
    K (-1) h0) (
    gA h0 a0 9 2 fun a2 =>
    aN h0 a2 fun v3 =>
    br (v1 < v3) (
      nw h0 3 [iV 0, rV none, iV 0, rV none, iV 0] fun a4 h5 =>
      w_X3_init N a4 v1 p1 p2 h5 fun h6 =>
      fx2 (fun (w35 : Int32 → Hp → Prop) (x8 : Int32) (h7 : Hp) =>
        br (40 ≤ x8) (
          gA h7 a0 9 2 fun a9 =>
          sR h7 a9 6 v1 a4 3 fun h10 =>
          pF h10 a0 9 3 (iV (v1 + 1)) fun h11 =>
          K v1 h11) (
          nn p1 fun a12 => cv h7 a12 10 <| w_X10_hasRow N a12 x8 h7 fun v13 =>
          jn (fun (h14 : Hp) => 
            w35 (x8 + 1) h14) (fun j58 =>
          br (v13 = 0) (
            j58 h7) (
            cv h7 a4 3 <| w_X3_addRow N a4 x8 h7 fun h15 =>
            j58 h15)))) N 0 h6) (
      K (-1) h0))
abbrev rmX9_addIndex : Room := { frames := 6, cells := 2, slots := 45, locals := 150 }
theorem vX9_addIndex : VI RX9 yX9_addIndex cX9_addIndex 6 (some .int) 2 := ⟨tw5_95, tw5_96, tw1_2, tw5_97, by decide +kernel⟩
set_option maxHeartbeats 4000000 in
theorem m_X9_addIndex {G : Gp} (l : Launch) (hfl : l.stackTraces = false) (N : Nat) {a0 : Nat} {p1 : Option Nat} {p2 : Int32} {h0 : Hp} {K : Int32 → Hp → Prop} (hw : w_X9_addIndex N a0 p1 p2 h0 K) : MT G l yX9_addIndex cX9_addIndex 6 (some .int) rmX9_addIndex [rV (some a0), rV p1, iV p2] h0 (QI G K) := by
  refine go_metT l hfl _ 6 _ _ rfl (by decide +kernel) (Nat.le_of_ble_eq_true rfl) [(0, rV (some a0)), (1, rV p1), (2, iV p2)] rfl (fun X hX C hn => ?_)
  subst hX
  unfold w_X9_addIndex at hw
  refine go_aload_n C dX9_addIndex_0 0 rfl ?_
  refine go_getI C (cfX9) (k := 3) (Nat.le_of_ble_eq_true rfl) tw1_48 rfl dX9_addIndex_1 hw (fun v1 hw => ?_)
  refine go_istore_n C [(3, iV v1), (0, rV (some a0)), (1, rV p1), (2, iV p2)] dX9_addIndex_4 (Nat.le_of_ble_eq_true rfl) rfl ?_
  refine go_iload_n C dX9_addIndex_5 0 rfl ?_
  refine go_if_lt C 18 dX9_addIndex_6 (by decide) hw (fun hw => ?_) (fun hw => ?_)
  · refine go_iconst C (-1) dX9_addIndex_18 kc_im1 ?_
    exact go_iret C dX9_addIndex_19 hw (Nat.le_of_ble_eq_true rfl) (Nat.le_of_ble_eq_true rfl)
  refine go_iload_n C dX9_addIndex_9 0 rfl ?_
  refine go_aload_n C dX9_addIndex_10 1 rfl ?_
  refine go_getA C (cfX9) (k := 2) (Nat.le_of_ble_eq_true rfl) tw1_47 rfl dX9_addIndex_11 hw (fun a2 hw => ?_)
  refine go_alen C dX9_addIndex_14 hw (fun v3 hw => ?_)
  refine go_icmp_lt C 20 dX9_addIndex_15 (by decide) hw (fun hw => ?_) (fun hw => ?_)
  · refine go_new C cfX3 tw1_43 tw5_98 tw1_20 [iV 0, rV none, iV 0, rV none, iV 0] dfX3 ⟨Nat.le_of_ble_eq_true rfl, Nat.le_of_ble_eq_true rfl⟩ dX9_addIndex_20 hw (fun a4 h5 hw => ?_)
    refine go_dup C _ dX9_addIndex_23 rfl ?_
    refine go_iload_n C dX9_addIndex_24 0 rfl ?_
    refine go_aload_n C dX9_addIndex_25 2 rfl ?_
    refine go_iload_n C dX9_addIndex_26 3 rfl ?_
    refine go_callI_v C [iV v1, rV p1, iV p2] vX3_init tw5_99 (m_X3_init (xl X) C.2.2.2.2.2.2.2.1 N hw) ⟨Nat.le_of_ble_eq_true rfl, Nat.le_of_ble_eq_true rfl, Nat.le_of_ble_eq_true rfl, Nat.le_of_ble_eq_true rfl⟩ dX9_addIndex_27 rfl (Nat.le_of_ble_eq_true rfl) rfl (fun h6 hw => ?_)
    refine go_astore C [(4, rV (some a4)), (3, iV v1), (0, rV (some a0)), (1, rV p1), (2, iV p2)] dX9_addIndex_30 (Nat.le_of_ble_eq_true rfl) rfl ?_
    refine go_iconst C 0 dX9_addIndex_32 kc_i0 ?_
    refine go_istore C [(5, iV 0), (4, rV (some a4)), (3, iV v1), (0, rV (some a0)), (1, rV p1), (2, iV p2)] dX9_addIndex_33 (Nat.le_of_ble_eq_true rfl) rfl ?_
    refine go_sub [3, 4, 2, 1, 0] rfl ?_
    refine fx2_elim (P := fun x8 h7 => Go G X rmX9_addIndex 6 2 45 (QN G X (QI G K) rmX9_addIndex) h7 35 [(0, rV (some a0)), (1, rV p1), (3, iV v1), (4, rV (some a4)), (5, iV x8)] []) (fun w35 hj35 x8 h7 hw => ?_) N _ _ hw
    refine go_iload C dX9_addIndex_35 4 rfl ?_
    refine go_bipush C 40 dX9_addIndex_37 kc_b40 ?_
    refine go_icmp_ge C 64 dX9_addIndex_39 (by decide) hw (fun hw => ?_) (fun hw => ?_)
    · refine go_aload_n C dX9_addIndex_64 0 rfl ?_
      refine go_getA C (cfX9) (k := 2) (Nat.le_of_ble_eq_true rfl) tw1_47 rfl dX9_addIndex_65 hw (fun a9 hw => ?_)
      refine go_iload_n C dX9_addIndex_68 2 rfl ?_
      refine go_aload C dX9_addIndex_69 3 rfl ?_
      refine go_aastore6 C dX9_addIndex_71 hw (fun h10 hw => ?_)
      refine go_aload_n C dX9_addIndex_72 0 rfl ?_
      refine go_iload_n C dX9_addIndex_73 2 rfl ?_
      refine go_iconst C 1 dX9_addIndex_74 kc_i1 ?_
      refine go_iadd C dX9_addIndex_75 ?_
      refine go_putI C (cfX9) (k := 3) (Nat.le_of_ble_eq_true rfl) tw1_48 rfl (Or.inl rfl) rfl dX9_addIndex_76 hw (fun h11 hw => ?_)
      refine go_iload_n C dX9_addIndex_79 2 rfl ?_
      exact go_iret C dX9_addIndex_80 hw (Nat.le_of_ble_eq_true rfl) (Nat.le_of_ble_eq_true rfl)
    refine go_aload_n C dX9_addIndex_42 1 rfl ?_
    refine go_iload C dX9_addIndex_43 4 rfl ?_
    obtain ⟨a12, e9, hw9⟩ := hw
    subst e9
    have hw := hw9
    clear hw9
    refine go_pV_i C [iV x8] vX10_hasRow tw5_119 (ci := 10) rfl (m_X10_hasRow (xl X) C.2.2.2.2.2.2.2.1 N hw.2) ⟨Nat.le_of_ble_eq_true rfl, Nat.le_of_ble_eq_true rfl, Nat.le_of_ble_eq_true rfl, Nat.le_of_ble_eq_true rfl⟩ ⟨rfl, rfl⟩ hw.1 dX9_addIndex_45 rfl (Nat.le_of_ble_eq_true rfl) rfl (fun v13 hw => ?_)
    refine jn_elim (P := fun j => ∀ (h14 : Hp), j h14 → Go G X rmX9_addIndex 6 2 45 (QN G X (QI G K) rmX9_addIndex) h14 58 [(0, rV (some a0)), (1, rV (some a12)), (3, iV v1), (4, rV (some a4)), (5, iV x8)] []) hw (fun h14 hw => ?_) (fun j58 hj58 hw => ?_)
    · refine go_iinc C (x8 + 1) [(5, iV (x8 + 1)), (0, rV (some a0)), (1, rV (some a12)), (3, iV v1), (4, rV (some a4))] dX9_addIndex_58 4 rfl (by rw [kc_i1]) (Nat.le_of_ble_eq_true rfl) rfl ?_
      refine go_goto C 35 dX9_addIndex_61 (by decide) ?_
      refine go_sub [1, 2, 3, 4, 0] rfl ?_
      exact hj35 (x8 + 1) h14 hw
    refine go_if_eq C 58 dX9_addIndex_48 (by decide) hw (fun hw => ?_) (fun hw => ?_)
    · exact hj58 h7 hw
    refine go_aload C dX9_addIndex_51 3 rfl ?_
    refine go_iload C dX9_addIndex_53 4 rfl ?_
    refine go_c0V_v C [iV x8] vX3_addRow tw5_5 (ci := 3) rfl (m_X3_addRow (xl X) C.2.2.2.2.2.2.2.1 N hw.2) ⟨Nat.le_of_ble_eq_true rfl, Nat.le_of_ble_eq_true rfl, Nat.le_of_ble_eq_true rfl, Nat.le_of_ble_eq_true rfl⟩ ⟨rfl, rfl⟩ hw.1 dX9_addIndex_55 rfl (Nat.le_of_ble_eq_true rfl) rfl (fun h15 hw => ?_)
    exact hj58 h15 hw
  refine go_iconst C (-1) dX9_addIndex_18 kc_im1 ?_
  exact go_iret C dX9_addIndex_19 hw (Nat.le_of_ble_eq_true rfl) (Nat.le_of_ble_eq_true rfl)
/-- DuelSchema$Store.addRow(LDuelSchema$Table;III)I -/
def w_X9_addRow (N : Nat) (a0 : Nat) (p1 : Option Nat) (p2 : Int32) (p3 : Int32) (p4 : Int32) (h0 : Hp) (K : Int32 → Hp → Prop) : Prop :=
  nn p1 fun a1 => cv h0 a1 10 <| w_X10_addRow N a1 p2 p3 p4 h0 fun v2 h3 =>
  fx2 (fun (w13 : Int32 → Hp → Prop) (x5 : Int32) (h4 : Hp) =>
    br (v2 = (-1)) (
      K v2 h4) (
      gA h4 a0 9 2 fun a6 =>
      aN h4 a6 fun v7 =>
      br (v7 ≤ x5) (
        K v2 h4) (
        gA h4 a0 9 2 fun a8 =>
        aR h4 a8 6 x5 fun o9 =>
        jn (fun (h10 : Hp) => 
          w13 (x5 + 1) h10) (fun j59 =>
        brn o9 (
          j59 h4) (fun a11 =>
          cv h4 a11 3 <| w_X3_isOf N a11 (some a1) h4 fun v12 =>
          br (v12 = 0) (
            j59 h4) (
            cv h4 a11 3 <| w_X3_addRow N a11 v2 h4 fun h13 =>
            j59 h13)))))) N 0 h3
abbrev rmX9_addRow : Room := { frames := 6, cells := 0, slots := 0, locals := 150 }
theorem vX9_addRow : VI RX9 yX9_addRow cX9_addRow 8 (some .int) 4 := ⟨tw4_234, tw4_235, tw1_2, tw4_236, by decide +kernel⟩
set_option maxHeartbeats 4000000 in
theorem m_X9_addRow {G : Gp} (l : Launch) (hfl : l.stackTraces = false) (N : Nat) {a0 : Nat} {p1 : Option Nat} {p2 : Int32} {p3 : Int32} {p4 : Int32} {h0 : Hp} {K : Int32 → Hp → Prop} (hw : w_X9_addRow N a0 p1 p2 p3 p4 h0 K) : MT G l yX9_addRow cX9_addRow 8 (some .int) rmX9_addRow [rV (some a0), rV p1, iV p2, iV p3, iV p4] h0 (QI G K) := by
  refine go_metT l hfl _ 8 _ _ rfl (by decide +kernel) (Nat.le_of_ble_eq_true rfl) [(0, rV (some a0)), (1, rV p1), (2, iV p2), (3, iV p3), (4, iV p4)] rfl (fun X hX C hn => ?_)
  subst hX
  unfold w_X9_addRow at hw
  refine go_aload_n C dX9_addRow_0 1 rfl ?_
  refine go_iload_n C dX9_addRow_1 2 rfl ?_
  refine go_iload_n C dX9_addRow_2 3 rfl ?_
  refine go_iload C dX9_addRow_3 4 rfl ?_
  obtain ⟨a1, e9, hw9⟩ := hw
  subst e9
  have hw := hw9
  clear hw9
  refine go_c0V_i C [iV p2, iV p3, iV p4] vX10_addRow tw4_237 (ci := 10) rfl (m_X10_addRow (xl X) C.2.2.2.2.2.2.2.1 N hw.2) ⟨Nat.le_of_ble_eq_true rfl, Nat.le_of_ble_eq_true rfl, Nat.le_of_ble_eq_true rfl, Nat.le_of_ble_eq_true rfl⟩ ⟨rfl, rfl⟩ hw.1 dX9_addRow_5 rfl (Nat.le_of_ble_eq_true rfl) rfl (fun v2 h3 hw => ?_)
  refine go_istore C [(5, iV v2), (0, rV (some a0)), (1, rV (some a1)), (2, iV p2), (3, iV p3), (4, iV p4)] dX9_addRow_8 (Nat.le_of_ble_eq_true rfl) rfl ?_
  refine go_iconst C 0 dX9_addRow_10 kc_i0 ?_
  refine go_istore C [(6, iV 0), (5, iV v2), (0, rV (some a0)), (1, rV (some a1)), (2, iV p2), (3, iV p3), (4, iV p4)] dX9_addRow_11 (Nat.le_of_ble_eq_true rfl) rfl ?_
  refine go_sub [2, 3, 1, 0] rfl ?_
  refine fx2_elim (P := fun x5 h4 => Go G X rmX9_addRow 8 0 0 (QN G X (QI G K) rmX9_addRow) h4 13 [(0, rV (some a0)), (1, rV (some a1)), (5, iV v2), (6, iV x5)] []) (fun w13 hj13 x5 h4 hw => ?_) N _ _ hw
  refine go_iload C dX9_addRow_13 2 rfl ?_
  refine go_iconst C (-1) dX9_addRow_15 kc_im1 ?_
  refine go_icmp_eq C 65 dX9_addRow_16 (by decide) hw (fun hw => ?_) (fun hw => ?_)
  · refine go_iload C dX9_addRow_65 2 rfl ?_
    exact go_iret C dX9_addRow_67 hw (Nat.le_of_ble_eq_true rfl) (Nat.le_of_ble_eq_true rfl)
  refine go_iload C dX9_addRow_19 3 rfl ?_
  refine go_aload_n C dX9_addRow_21 0 rfl ?_
  refine go_getA C (cfX9) (k := 2) (Nat.le_of_ble_eq_true rfl) tw1_47 rfl dX9_addRow_22 hw (fun a6 hw => ?_)
  refine go_alen C dX9_addRow_25 hw (fun v7 hw => ?_)
  refine go_icmp_ge C 65 dX9_addRow_26 (by decide) hw (fun hw => ?_) (fun hw => ?_)
  · refine go_iload C dX9_addRow_65 2 rfl ?_
    exact go_iret C dX9_addRow_67 hw (Nat.le_of_ble_eq_true rfl) (Nat.le_of_ble_eq_true rfl)
  refine go_aload_n C dX9_addRow_29 0 rfl ?_
  refine go_getA C (cfX9) (k := 2) (Nat.le_of_ble_eq_true rfl) tw1_47 rfl dX9_addRow_30 hw (fun a8 hw => ?_)
  refine go_iload C dX9_addRow_33 3 rfl ?_
  refine go_aaload6 C dX9_addRow_35 hw (fun o9 hw => ?_)
  refine go_astore C [(7, rV o9), (0, rV (some a0)), (1, rV (some a1)), (5, iV v2), (6, iV x5)] dX9_addRow_36 (Nat.le_of_ble_eq_true rfl) rfl ?_
  refine go_aload C dX9_addRow_38 0 rfl ?_
  refine jn_elim (P := fun j => ∀ (h10 : Hp), j h10 → Go G X rmX9_addRow 8 0 0 (QN G X (QI G K) rmX9_addRow) h10 59 [(0, rV (some a0)), (1, rV (some a1)), (5, iV v2), (6, iV x5)] []) hw (fun h10 hw => ?_) (fun j59 hj59 hw => ?_)
  · refine go_iinc C (x5 + 1) [(6, iV (x5 + 1)), (0, rV (some a0)), (1, rV (some a1)), (5, iV v2)] dX9_addRow_59 3 rfl (by rw [kc_i1]) (Nat.le_of_ble_eq_true rfl) rfl ?_
    refine go_goto C 13 dX9_addRow_62 (by decide) ?_
    refine go_sub [1, 2, 3, 0] rfl ?_
    exact hj13 (x5 + 1) h10 hw
  refine go_ifnull C 59 dX9_addRow_40 (by decide) hw (fun e9 hw9 => ?_) (fun a11 e9 hw9 => ?_)
  · clear hw
    subst e9
    have hw := hw9
    clear hw9
    refine go_sub [1, 2, 3, 4] rfl ?_
    exact hj59 h4 hw
  clear hw
  subst e9
  have hw := hw9
  clear hw9
  refine go_aload C dX9_addRow_43 0 rfl ?_
  refine go_aload_n C dX9_addRow_45 2 rfl ?_
  refine go_pV_i C [rV (some a1)] vX3_isOf tw5_1 (ci := 3) rfl (m_X3_isOf (xl X) C.2.2.2.2.2.2.2.1 N hw.2) ⟨Nat.le_of_ble_eq_true rfl, Nat.le_of_ble_eq_true rfl, Nat.le_of_ble_eq_true rfl, Nat.le_of_ble_eq_true rfl⟩ ⟨rfl, rfl⟩ hw.1 dX9_addRow_46 rfl (Nat.le_of_ble_eq_true rfl) rfl (fun v12 hw => ?_)
  refine go_if_eq C 59 dX9_addRow_49 (by decide) hw (fun hw => ?_) (fun hw => ?_)
  · refine go_sub [1, 2, 3, 4] rfl ?_
    exact hj59 h4 hw
  refine go_aload C dX9_addRow_52 0 rfl ?_
  refine go_iload C dX9_addRow_54 3 rfl ?_
  refine go_c0V_v C [iV v2] vX3_addRow tw5_5 (ci := 3) rfl (m_X3_addRow (xl X) C.2.2.2.2.2.2.2.1 N hw.2) ⟨Nat.le_of_ble_eq_true rfl, Nat.le_of_ble_eq_true rfl, Nat.le_of_ble_eq_true rfl, Nat.le_of_ble_eq_true rfl⟩ ⟨rfl, rfl⟩ hw.1 dX9_addRow_56 rfl (Nat.le_of_ble_eq_true rfl) rfl (fun h13 hw => ?_)
  refine go_sub [1, 2, 3, 4] rfl ?_
  exact hj59 h13 hw
/-- DuelSchema$Store.dropRow(LDuelSchema$Table;I)V -/
def w_X9_dropRow (N : Nat) (a0 : Nat) (p1 : Option Nat) (p2 : Int32) (h0 : Hp) (K : Hp → Prop) : Prop :=
  nn p1 fun a1 => cv h0 a1 10 <| w_X10_dropRow N a1 p2 h0 fun h2 =>
  fx2 (fun (w7 : Int32 → Hp → Prop) (x4 : Int32) (h3 : Hp) =>
    gA h3 a0 9 2 fun a5 =>
    aN h3 a5 fun v6 =>
    br (v6 ≤ x4) (
      K h3) (
      gA h3 a0 9 2 fun a7 =>
      aR h3 a7 6 x4 fun o8 =>
      jn (fun (h9 : Hp) => 
        w7 (x4 + 1) h9) (fun j44 =>
      brn o8 (
        j44 h3) (fun a10 =>
        cv h3 a10 3 <| w_X3_isOf N a10 (some a1) h3 fun v11 =>
        br (v11 = 0) (
          j44 h3) (
          cv h3 a10 3 <| w_X3_dropRow N a10 p2 h3 fun h12 =>
          j44 h12))))) N 0 h2
abbrev rmX9_dropRow : Room := { frames := 4, cells := 0, slots := 0, locals := 102 }
theorem vX9_dropRow : VI RX9 yX9_dropRow cX9_dropRow 5 none 2 := ⟨tw5_49, tw5_50, tw1_2, tw5_51, by decide +kernel⟩
set_option maxHeartbeats 4000000 in
theorem m_X9_dropRow {G : Gp} (l : Launch) (hfl : l.stackTraces = false) (N : Nat) {a0 : Nat} {p1 : Option Nat} {p2 : Int32} {h0 : Hp} {K : Hp → Prop} (hw : w_X9_dropRow N a0 p1 p2 h0 K) : MT G l yX9_dropRow cX9_dropRow 5 none rmX9_dropRow [rV (some a0), rV p1, iV p2] h0 (QV G K) := by
  refine go_metT l hfl _ 5 _ _ rfl (by decide +kernel) (Nat.le_of_ble_eq_true rfl) [(0, rV (some a0)), (1, rV p1), (2, iV p2)] rfl (fun X hX C hn => ?_)
  subst hX
  unfold w_X9_dropRow at hw
  refine go_aload_n C dX9_dropRow_0 1 rfl ?_
  refine go_iload_n C dX9_dropRow_1 2 rfl ?_
  obtain ⟨a1, e9, hw9⟩ := hw
  subst e9
  have hw := hw9
  clear hw9
  refine go_c0V_v C [iV p2] vX10_dropRow tw5_52 (ci := 10) rfl (m_X10_dropRow (xl X) C.2.2.2.2.2.2.2.1 N hw.2) ⟨Nat.le_of_ble_eq_true rfl, Nat.le_of_ble_eq_true rfl, Nat.le_of_ble_eq_true rfl, Nat.le_of_ble_eq_true rfl⟩ ⟨rfl, rfl⟩ hw.1 dX9_dropRow_2 rfl (Nat.le_of_ble_eq_true rfl) rfl (fun h2 hw => ?_)
  refine go_iconst C 0 dX9_dropRow_5 kc_i0 ?_
  refine go_istore_n C [(3, iV 0), (0, rV (some a0)), (1, rV (some a1)), (2, iV p2)] dX9_dropRow_6 (Nat.le_of_ble_eq_true rfl) rfl ?_
  refine go_sub [1, 2, 3, 0] rfl ?_
  refine fx2_elim (P := fun x4 h3 => Go G X rmX9_dropRow 5 0 0 (QN G X (QV G K) rmX9_dropRow) h3 7 [(0, rV (some a0)), (1, rV (some a1)), (2, iV p2), (3, iV x4)] []) (fun w7 hj7 x4 h3 hw => ?_) N _ _ hw
  refine go_iload_n C dX9_dropRow_7 3 rfl ?_
  refine go_aload_n C dX9_dropRow_8 0 rfl ?_
  refine go_getA C (cfX9) (k := 2) (Nat.le_of_ble_eq_true rfl) tw1_47 rfl dX9_dropRow_9 hw (fun a5 hw => ?_)
  refine go_alen C dX9_dropRow_12 hw (fun v6 hw => ?_)
  refine go_icmp_ge C 50 dX9_dropRow_13 (by decide) hw (fun hw => ?_) (fun hw => ?_)
  · exact go_vret C dX9_dropRow_50 hw (Nat.le_of_ble_eq_true rfl) (Nat.le_of_ble_eq_true rfl)
  refine go_aload_n C dX9_dropRow_16 0 rfl ?_
  refine go_getA C (cfX9) (k := 2) (Nat.le_of_ble_eq_true rfl) tw1_47 rfl dX9_dropRow_17 hw (fun a7 hw => ?_)
  refine go_iload_n C dX9_dropRow_20 3 rfl ?_
  refine go_aaload6 C dX9_dropRow_21 hw (fun o8 hw => ?_)
  refine go_astore C [(4, rV o8), (0, rV (some a0)), (1, rV (some a1)), (2, iV p2), (3, iV x4)] dX9_dropRow_22 (Nat.le_of_ble_eq_true rfl) rfl ?_
  refine go_aload C dX9_dropRow_24 0 rfl ?_
  refine jn_elim (P := fun j => ∀ (h9 : Hp), j h9 → Go G X rmX9_dropRow 5 0 0 (QN G X (QV G K) rmX9_dropRow) h9 44 [(0, rV (some a0)), (1, rV (some a1)), (2, iV p2), (3, iV x4)] []) hw (fun h9 hw => ?_) (fun j44 hj44 hw => ?_)
  · refine go_iinc C (x4 + 1) [(3, iV (x4 + 1)), (0, rV (some a0)), (1, rV (some a1)), (2, iV p2)] dX9_dropRow_44 3 rfl (by rw [kc_i1]) (Nat.le_of_ble_eq_true rfl) rfl ?_
    refine go_goto C 7 dX9_dropRow_47 (by decide) ?_
    refine go_sub [1, 2, 3, 0] rfl ?_
    exact hj7 (x4 + 1) h9 hw
  refine go_ifnull C 44 dX9_dropRow_26 (by decide) hw (fun e9 hw9 => ?_) (fun a10 e9 hw9 => ?_)
  · clear hw
    subst e9
    have hw := hw9
    clear hw9
    refine go_sub [1, 2, 3, 4] rfl ?_
    exact hj44 h3 hw
  clear hw
  subst e9
  have hw := hw9
  clear hw9
  refine go_aload C dX9_dropRow_29 0 rfl ?_
  refine go_aload_n C dX9_dropRow_31 2 rfl ?_
  refine go_pV_i C [rV (some a1)] vX3_isOf tw5_1 (ci := 3) rfl (m_X3_isOf (xl X) C.2.2.2.2.2.2.2.1 N hw.2) ⟨Nat.le_of_ble_eq_true rfl, Nat.le_of_ble_eq_true rfl, Nat.le_of_ble_eq_true rfl, Nat.le_of_ble_eq_true rfl⟩ ⟨rfl, rfl⟩ hw.1 dX9_dropRow_32 rfl (Nat.le_of_ble_eq_true rfl) rfl (fun v11 hw => ?_)
  refine go_if_eq C 44 dX9_dropRow_35 (by decide) hw (fun hw => ?_) (fun hw => ?_)
  · refine go_sub [1, 2, 3, 4] rfl ?_
    exact hj44 h3 hw
  refine go_aload C dX9_dropRow_38 0 rfl ?_
  refine go_iload_n C dX9_dropRow_40 3 rfl ?_
  refine go_c0V_v C [iV p2] vX3_dropRow tw5_57 (ci := 3) rfl (m_X3_dropRow (xl X) C.2.2.2.2.2.2.2.1 N hw.2) ⟨Nat.le_of_ble_eq_true rfl, Nat.le_of_ble_eq_true rfl, Nat.le_of_ble_eq_true rfl, Nat.le_of_ble_eq_true rfl⟩ ⟨rfl, rfl⟩ hw.1 dX9_dropRow_41 rfl (Nat.le_of_ble_eq_true rfl) rfl (fun h12 hw => ?_)
  refine go_sub [1, 2, 3, 4] rfl ?_
  exact hj44 h12 hw
/-- DuelSchema$Store.indexesRise()Z -/
def w_X9_indexesRise (N : Nat) (a0 : Nat) (h0 : Hp) (K : Int32 → Prop) : Prop :=
  fx1 (fun (w2 : Int32 → Prop) (x1 : Int32) =>
    gA h0 a0 9 2 fun a2 =>
    aN h0 a2 fun v3 =>
    br (v3 ≤ x1) (
      K 1) (
      gA h0 a0 9 2 fun a4 =>
      aR h0 a4 6 x1 fun o5 =>
      jn (
        w2 (x1 + 1)) (fun j31 =>
      brn o5 (
        j31 ) (fun a6 =>
        cv h0 a6 3 <| w_X3_rises N a6  h0 fun v7 =>
        br (v7 = 0) (
          K 0) (
          j31 ))))) N 0
abbrev rmX9_indexesRise : Room := { frames := 5, cells := 0, slots := 0, locals := 128 }
theorem vX9_indexesRise : VI RX9 yX9_indexesRise cX9_indexesRise 3 (some .boolean) 0 := ⟨tw2_83, tw2_84, tw1_2, tw2_85, by decide +kernel⟩
set_option maxHeartbeats 4000000 in
theorem m_X9_indexesRise {G : Gp} (l : Launch) (hfl : l.stackTraces = false) (N : Nat) {a0 : Nat} {h0 : Hp} {K : Int32 → Prop} (hw : w_X9_indexesRise N a0 h0 K) : MT G l yX9_indexesRise cX9_indexesRise 3 (some .boolean) rmX9_indexesRise [rV (some a0)] h0 (QI G (fun r h1 => h1 = h0 ∧ K r)) := by
  refine go_metT l hfl _ 3 _ _ rfl (by decide +kernel) (Nat.le_of_ble_eq_true rfl) [(0, rV (some a0))] rfl (fun X hX C hn => ?_)
  subst hX
  unfold w_X9_indexesRise at hw
  refine go_iconst C 0 dX9_indexesRise_0 kc_i0 ?_
  refine go_istore_n C [(1, iV 0), (0, rV (some a0))] dX9_indexesRise_1 (Nat.le_of_ble_eq_true rfl) rfl ?_
  refine go_sub [1, 0] rfl ?_
  refine fx1_elim (P := fun x1 => Go G X rmX9_indexesRise 3 0 0 (QN G X (QI G (fun r h1 => h1 = h0 ∧ K r)) rmX9_indexesRise) h0 2 [(0, rV (some a0)), (1, iV x1)] []) (fun w2 hj2 x1 hw => ?_) N _ hw
  refine go_iload_n C dX9_indexesRise_2 1 rfl ?_
  refine go_aload_n C dX9_indexesRise_3 0 rfl ?_
  refine go_getA C (cfX9) (k := 2) (Nat.le_of_ble_eq_true rfl) tw1_47 rfl dX9_indexesRise_4 hw (fun a2 hw => ?_)
  refine go_alen C dX9_indexesRise_7 hw (fun v3 hw => ?_)
  refine go_icmp_ge C 37 dX9_indexesRise_8 (by decide) hw (fun hw => ?_) (fun hw => ?_)
  · refine go_iconst C 1 dX9_indexesRise_37 kc_i1 ?_
    exact go_zret C dX9_indexesRise_38 ⟨rfl, ⟨rfl, hw⟩⟩ (Nat.le_of_ble_eq_true rfl) (Nat.le_of_ble_eq_true rfl)
  refine go_aload_n C dX9_indexesRise_11 0 rfl ?_
  refine go_getA C (cfX9) (k := 2) (Nat.le_of_ble_eq_true rfl) tw1_47 rfl dX9_indexesRise_12 hw (fun a4 hw => ?_)
  refine go_iload_n C dX9_indexesRise_15 1 rfl ?_
  refine go_aaload6 C dX9_indexesRise_16 hw (fun o5 hw => ?_)
  refine go_astore_n C [(2, rV o5), (0, rV (some a0)), (1, iV x1)] dX9_indexesRise_17 (Nat.le_of_ble_eq_true rfl) rfl ?_
  refine go_aload_n C dX9_indexesRise_18 0 rfl ?_
  refine jn_elim (P := fun j => j  → Go G X rmX9_indexesRise 3 0 0 (QN G X (QI G (fun r h1 => h1 = h0 ∧ K r)) rmX9_indexesRise) h0 31 [(0, rV (some a0)), (1, iV x1)] []) hw (fun  hw => ?_) (fun j31 hj31 hw => ?_)
  · refine go_iinc C (x1 + 1) [(1, iV (x1 + 1)), (0, rV (some a0))] dX9_indexesRise_31 1 rfl (by rw [kc_i1]) (Nat.le_of_ble_eq_true rfl) rfl ?_
    refine go_goto C 2 dX9_indexesRise_34 (by decide) ?_
    refine go_sub [1, 0] rfl ?_
    exact hj2 (x1 + 1) hw
  refine go_ifnull C 31 dX9_indexesRise_19 (by decide) hw (fun e9 hw9 => ?_) (fun a6 e9 hw9 => ?_)
  · clear hw
    subst e9
    have hw := hw9
    clear hw9
    refine go_sub [1, 2] rfl ?_
    exact hj31  hw
  clear hw
  subst e9
  have hw := hw9
  clear hw9
  refine go_aload_n C dX9_indexesRise_22 0 rfl ?_
  refine go_pV_i C [] vX3_rises tw2_86 (ci := 3) rfl (m_X3_rises (xl X) C.2.2.2.2.2.2.2.1 N hw.2) ⟨Nat.le_of_ble_eq_true rfl, Nat.le_of_ble_eq_true rfl, Nat.le_of_ble_eq_true rfl, Nat.le_of_ble_eq_true rfl⟩ ⟨rfl, rfl⟩ hw.1 dX9_indexesRise_23 rfl (Nat.le_of_ble_eq_true rfl) rfl (fun v7 hw => ?_)
  refine go_if_ne C 31 dX9_indexesRise_26 (by decide) hw (fun hw => ?_) (fun hw => ?_)
  · refine go_sub [1, 2] rfl ?_
    exact hj31  hw
  refine go_iconst C 0 dX9_indexesRise_29 kc_i0 ?_
  exact go_zret C dX9_indexesRise_30 ⟨rfl, ⟨rfl, hw⟩⟩ (Nat.le_of_ble_eq_true rfl) (Nat.le_of_ble_eq_true rfl)
/-- DuelSchema$Store.printFrom(J)J -/
def w_X9_printFrom (N : Nat) (a0 : Nat) (p1 : Int64) (h0 : Hp) (K : Int64 → Prop) : Prop :=
  fx2 (fun (w5 : Int64 → Int32 → Prop) (y1 : Int64) (x2 : Int32) =>
    gA h0 a0 9 0 fun a3 =>
    aN h0 a3 fun v4 =>
    br (v4 ≤ x2) (
      K y1) (
      gA h0 a0 9 0 fun a5 =>
      aR h0 a5 5 x2 fun o6 =>
      jn (fun (y7 : Int64) => 
        w5 y7 (x2 + 1)) (fun j36 =>
      brn o6 (
        j36 y1) (fun a8 =>
        cv h0 a8 10 <| w_X10_printFrom N a8 y1 h0 fun v9 =>
        j36 v9)))) N p1 0
abbrev rmX9_printFrom : Room := { frames := 4, cells := 0, slots := 0, locals := 109 }
theorem vX9_printFrom : VI RX9 yX9_printFrom cX9_printFrom 7 (some .long) 1 := ⟨tw2_49, tw2_50, tw1_2, tw2_51, by decide +kernel⟩
set_option maxHeartbeats 4000000 in
theorem m_X9_printFrom {G : Gp} (l : Launch) (hfl : l.stackTraces = false) (N : Nat) {a0 : Nat} {p1 : Int64} {h0 : Hp} {K : Int64 → Prop} (hw : w_X9_printFrom N a0 p1 h0 K) : MT G l yX9_printFrom cX9_printFrom 7 (some .long) rmX9_printFrom [rV (some a0), lV p1] h0 (QL G (fun r h1 => h1 = h0 ∧ K r)) := by
  refine go_metT l hfl _ 7 _ _ rfl (by decide +kernel) (Nat.le_of_ble_eq_true rfl) [(0, rV (some a0)), (1, lV p1)] rfl (fun X hX C hn => ?_)
  subst hX
  unfold w_X9_printFrom at hw
  refine go_lload_n C dX9_printFrom_0 1 rfl ?_
  refine go_lstore_n C [(3, lV p1), (0, rV (some a0)), (1, lV p1)] dX9_printFrom_1 (Nat.le_of_ble_eq_true rfl) rfl ?_
  refine go_iconst C 0 dX9_printFrom_2 kc_i0 ?_
  refine go_istore C [(5, iV 0), (3, lV p1), (0, rV (some a0)), (1, lV p1)] dX9_printFrom_3 (Nat.le_of_ble_eq_true rfl) rfl ?_
  refine go_sub [2, 1, 0] rfl ?_
  refine fx2_elim (P := fun y1 x2 => Go G X rmX9_printFrom 7 0 0 (QN G X (QL G (fun r h1 => h1 = h0 ∧ K r)) rmX9_printFrom) h0 5 [(0, rV (some a0)), (3, lV y1), (5, iV x2)] []) (fun w5 hj5 y1 x2 hw => ?_) N _ _ hw
  refine go_iload C dX9_printFrom_5 2 rfl ?_
  refine go_aload_n C dX9_printFrom_7 0 rfl ?_
  refine go_getA C (cfX9) (k := 0) (Nat.le_of_ble_eq_true rfl) tw1_45 rfl dX9_printFrom_8 hw (fun a3 hw => ?_)
  refine go_alen C dX9_printFrom_11 hw (fun v4 hw => ?_)
  refine go_icmp_ge C 42 dX9_printFrom_12 (by decide) hw (fun hw => ?_) (fun hw => ?_)
  · refine go_lload_n C dX9_printFrom_42 1 rfl ?_
    exact go_lret C dX9_printFrom_43 ⟨rfl, hw⟩ (Nat.le_of_ble_eq_true rfl) (Nat.le_of_ble_eq_true rfl)
  refine go_aload_n C dX9_printFrom_15 0 rfl ?_
  refine go_getA C (cfX9) (k := 0) (Nat.le_of_ble_eq_true rfl) tw1_45 rfl dX9_printFrom_16 hw (fun a5 hw => ?_)
  refine go_iload C dX9_printFrom_19 2 rfl ?_
  refine go_aaload5 C dX9_printFrom_21 hw (fun o6 hw => ?_)
  refine go_astore C [(6, rV o6), (0, rV (some a0)), (3, lV y1), (5, iV x2)] dX9_printFrom_22 (Nat.le_of_ble_eq_true rfl) rfl ?_
  refine go_aload C dX9_printFrom_24 0 rfl ?_
  refine jn_elim (P := fun j => ∀ (y7 : Int64), j y7 → Go G X rmX9_printFrom 7 0 0 (QN G X (QL G (fun r h1 => h1 = h0 ∧ K r)) rmX9_printFrom) h0 36 [(0, rV (some a0)), (3, lV y7), (5, iV x2)] []) hw (fun y7 hw => ?_) (fun j36 hj36 hw => ?_)
  · refine go_iinc C (x2 + 1) [(5, iV (x2 + 1)), (0, rV (some a0)), (3, lV y7)] dX9_printFrom_36 2 rfl (by rw [kc_i1]) (Nat.le_of_ble_eq_true rfl) rfl ?_
    refine go_goto C 5 dX9_printFrom_39 (by decide) ?_
    refine go_sub [1, 2, 0] rfl ?_
    exact hj5 y7 (x2 + 1) hw
  refine go_ifnull C 36 dX9_printFrom_26 (by decide) hw (fun e9 hw9 => ?_) (fun a8 e9 hw9 => ?_)
  · clear hw
    subst e9
    have hw := hw9
    clear hw9
    refine go_sub [1, 2, 3] rfl ?_
    exact hj36 y1 hw
  clear hw
  subst e9
  have hw := hw9
  clear hw9
  refine go_aload C dX9_printFrom_29 0 rfl ?_
  refine go_lload_n C dX9_printFrom_31 2 rfl ?_
  refine go_pV_l C [lV y1] vX10_printFrom tw2_52 (ci := 10) rfl (m_X10_printFrom (xl X) C.2.2.2.2.2.2.2.1 N hw.2) ⟨Nat.le_of_ble_eq_true rfl, Nat.le_of_ble_eq_true rfl, Nat.le_of_ble_eq_true rfl, Nat.le_of_ble_eq_true rfl⟩ ⟨rfl, rfl⟩ hw.1 dX9_printFrom_32 rfl (Nat.le_of_ble_eq_true rfl) rfl (fun v9 hw => ?_)
  refine go_lstore_n C [(3, lV v9), (6, rV (some a8)), (0, rV (some a0)), (5, iV x2)] dX9_printFrom_35 (Nat.le_of_ble_eq_true rfl) rfl ?_
  refine go_sub [2, 0, 3] rfl ?_
  exact hj36 v9 hw
