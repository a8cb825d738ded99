/-- DuelSchema$Duel.<init>()V -/
def w_X2_init (N : Nat) (a0 : Nat) (h0 : Hp) (K : Hp → Prop) : Prop :=
  nA h0 (.inl (0, 2, .inl (fun _ => 0))) fun a1 h2 =>
  pF h2 a0 2 0 (rV (some a1)) fun h3 =>
  nA h3 (.inl (0, 2, .inl (fun _ => 0))) fun a4 h5 =>
  pF h5 a0 2 1 (rV (some a4)) fun h6 =>
  nA h6 (.inl (0, 1024, .inl (fun _ => 0))) fun a7 h8 =>
  pF h8 a0 2 2 (rV (some a7)) fun h9 =>
  pF h9 a0 2 3 (iV 0) fun h10 =>
  pF h10 a0 2 4 (iV (-1)) fun h11 =>
  pF h11 a0 2 5 (iV 0) fun h12 =>
  K h12
abbrev rmX2_init : Room := { frames := 2, cells := 3, slots := 1028, locals := 60 }
theorem vX2_init : II yX2_init cX2_init 1 0 := ⟨tw1_196, tw1_7, tw1_197, rfl, by decide +kernel⟩
set_option maxHeartbeats 4000000 in
theorem m_X2_init {G : Gp} (l : Launch) (hfl : l.stackTraces = false) (N : Nat) {a0 : Nat} {h0 : Hp} {K : Hp → Prop} (hw : w_X2_init N a0 h0 K) : MT G l yX2_init cX2_init 1 none rmX2_init [rV (some a0)] h0 (QV G K) := by
  refine go_metT l hfl _ 1 _ _ rfl (by decide +kernel) (Nat.le_of_ble_eq_true rfl) [(0, rV (some a0))] rfl (fun X hX C hn => ?_)
  subst hX
  unfold w_X2_init at hw
  refine go_aload_n C dX2_init_0 0 rfl ?_
  refine go_objinit C tw1_198 tw1_33 tw1_34 dX2_init_1 ⟨Nat.le_of_ble_eq_true rfl, Nat.le_of_ble_eq_true rfl⟩ (Nat.le_of_ble_eq_true rfl) ?_
  refine go_aload_n C dX2_init_4 0 rfl ?_
  refine go_iconst C 2 dX2_init_5 kc_i2 ?_
  refine go_newarr0 C 2 (by decide) (by decide) (Nat.le_of_ble_eq_true rfl) tw1_76 ⟨Nat.le_of_ble_eq_true rfl, Nat.le_of_ble_eq_true rfl⟩ dX2_init_6 hw (fun a1 h2 hw => ?_)
  refine go_putRA C (cfX2) (k := 0) (Nat.le_of_ble_eq_true rfl) tw1_199 rfl (Or.inr ⟨rfl, hn, rfl⟩) rfl dX2_init_8 hw (fun h3 hw => ?_)
  refine go_aload_n C dX2_init_11 0 rfl ?_
  refine go_iconst C 2 dX2_init_12 kc_i2 ?_
  refine go_newarr0 C 2 (by decide) (by decide) (Nat.le_of_ble_eq_true rfl) tw1_76 ⟨Nat.le_of_ble_eq_true rfl, Nat.le_of_ble_eq_true rfl⟩ dX2_init_13 hw (fun a4 h5 hw => ?_)
  refine go_putRA C (cfX2) (k := 1) (Nat.le_of_ble_eq_true rfl) tw1_200 rfl (Or.inr ⟨rfl, hn, rfl⟩) rfl dX2_init_15 hw (fun h6 hw => ?_)
  refine go_aload_n C dX2_init_18 0 rfl ?_
  refine go_sipush C 1024 dX2_init_19 kc_s1024 ?_
  refine go_newarr0 C 1024 (by decide) (by decide) (Nat.le_of_ble_eq_true rfl) tw1_76 ⟨Nat.le_of_ble_eq_true rfl, Nat.le_of_ble_eq_true rfl⟩ dX2_init_22 hw (fun a7 h8 hw => ?_)
  refine go_putRA C (cfX2) (k := 2) (Nat.le_of_ble_eq_true rfl) tw1_201 rfl (Or.inr ⟨rfl, hn, rfl⟩) rfl dX2_init_24 hw (fun h9 hw => ?_)
  refine go_aload_n C dX2_init_27 0 rfl ?_
  refine go_iconst C 0 dX2_init_28 kc_i0 ?_
  refine go_putI C (cfX2) (k := 3) (Nat.le_of_ble_eq_true rfl) tw1_202 rfl (Or.inl rfl) rfl dX2_init_29 hw (fun h10 hw => ?_)
  refine go_aload_n C dX2_init_32 0 rfl ?_
  refine go_iconst C (-1) dX2_init_33 kc_im1 ?_
  refine go_putI C (cfX2) (k := 4) (Nat.le_of_ble_eq_true rfl) tw1_203 rfl (Or.inl rfl) rfl dX2_init_34 hw (fun h11 hw => ?_)
  refine go_aload_n C dX2_init_37 0 rfl ?_
  refine go_iconst C 0 dX2_init_38 kc_i0 ?_
  refine go_putZ C (cfX2) (k := 5) (Nat.le_of_ble_eq_true rfl) tw1_204 rfl (Or.inl rfl) rfl dX2_init_39 ⟨⟨rfl, rfl⟩, hw⟩ (fun h12 hw => ?_)
  exact go_vret C dX2_init_42 hw (Nat.le_of_ble_eq_true rfl) (Nat.le_of_ble_eq_true rfl)
/-- DuelSchema$Duel.roundCount()I -/
def w_X2_roundCount (N : Nat) (a0 : Nat) (h0 : Hp) (K : Int32 → Prop) : Prop :=
  gI h0 a0 2 3 fun v1 =>
  K v1
abbrev rmX2_roundCount : Room := { frames := 2, cells := 0, slots := 0, locals := 60 }
theorem vX2_roundCount : VI RX2 yX2_roundCount cX2_roundCount 1 (some .int) 0 := ⟨tw2_40, tw2_41, tw1_7, tw2_42, by decide +kernel⟩
set_option maxHeartbeats 4000000 in
theorem m_X2_roundCount {G : Gp} (l : Launch) (hfl : l.stackTraces = false) (N : Nat) {a0 : Nat} {h0 : Hp} {K : Int32 → Prop} (hw : w_X2_roundCount N a0 h0 K) : MT G l yX2_roundCount cX2_roundCount 1 (some .int) rmX2_roundCount [rV (some a0)] h0 (QI G (fun r h1 => h1 = h0 ∧ K r)) := by
  refine go_metT l hfl _ 1 _ _ rfl (by decide +kernel) (Nat.le_of_ble_eq_true rfl) [(0, rV (some a0))] rfl (fun X hX C hn => ?_)
  subst hX
  unfold w_X2_roundCount at hw
  refine go_aload_n C dX2_roundCount_0 0 rfl ?_
  refine go_getI C (cfX2) (k := 3) (Nat.le_of_ble_eq_true rfl) tw1_202 rfl dX2_roundCount_1 hw (fun v1 hw => ?_)
  exact go_iret C dX2_roundCount_4 ⟨rfl, hw⟩ (Nat.le_of_ble_eq_true rfl) (Nat.le_of_ble_eq_true rfl)
/-- DuelSchema$Duel.winner()I -/
def w_X2_winner (N : Nat) (a0 : Nat) (h0 : Hp) (K : Int32 → Prop) : Prop :=
  gI h0 a0 2 4 fun v1 =>
  K v1
abbrev rmX2_winner : Room := { frames := 2, cells := 0, slots := 0, locals := 60 }
theorem vX2_winner : VI RX2 yX2_winner cX2_winner 1 (some .int) 0 := ⟨tw6_234, tw6_235, tw1_7, tw6_236, by decide +kernel⟩
set_option maxHeartbeats 4000000 in
theorem m_X2_winner {G : Gp} (l : Launch) (hfl : l.stackTraces = false) (N : Nat) {a0 : Nat} {h0 : Hp} {K : Int32 → Prop} (hw : w_X2_winner N a0 h0 K) : MT G l yX2_winner cX2_winner 1 (some .int) rmX2_winner [rV (some a0)] h0 (QI G (fun r h1 => h1 = h0 ∧ K r)) := by
  refine go_metT l hfl _ 1 _ _ rfl (by decide +kernel) (Nat.le_of_ble_eq_true rfl) [(0, rV (some a0))] rfl (fun X hX C hn => ?_)
  subst hX
  unfold w_X2_winner at hw
  refine go_aload_n C dX2_winner_0 0 rfl ?_
  refine go_getI C (cfX2) (k := 4) (Nat.le_of_ble_eq_true rfl) tw1_203 rfl dX2_winner_1 hw (fun v1 hw => ?_)
  exact go_iret C dX2_winner_4 ⟨rfl, hw⟩ (Nat.le_of_ble_eq_true rfl) (Nat.le_of_ble_eq_true rfl)
/-- DuelSchema$Duel.isOpenToAppeals()Z -/
def w_X2_isOpenToAppeals (N : Nat) (a0 : Nat) (h0 : Hp) (K : Int32 → Prop) : Prop :=
  gI h0 a0 2 5 fun v1 =>
  ok (narrow .boolean (.int v1) = .int v1) <| K v1
abbrev rmX2_isOpenToAppeals : Room := { frames := 2, cells := 0, slots := 0, locals := 60 }
theorem vX2_isOpenToAppeals : VI RX2 yX2_isOpenToAppeals cX2_isOpenToAppeals 1 (some .boolean) 0 := ⟨tw7_5, tw7_6, tw1_7, tw7_7, by decide +kernel⟩
set_option maxHeartbeats 4000000 in
theorem m_X2_isOpenToAppeals {G : Gp} (l : Launch) (hfl : l.stackTraces = false) (N : Nat) {a0 : Nat} {h0 : Hp} {K : Int32 → Prop} (hw : w_X2_isOpenToAppeals N a0 h0 K) : MT G l yX2_isOpenToAppeals cX2_isOpenToAppeals 1 (some .boolean) rmX2_isOpenToAppeals [rV (some a0)] h0 (QI G (fun r h1 => h1 = h0 ∧ K r)) := by
  refine go_metT l hfl _ 1 _ _ rfl (by decide +kernel) (Nat.le_of_ble_eq_true rfl) [(0, rV (some a0))] rfl (fun X hX C hn => ?_)
  subst hX
  unfold w_X2_isOpenToAppeals at hw
  refine go_aload_n C dX2_isOpenToAppeals_0 0 rfl ?_
  refine go_getI C (cfX2) (k := 5) (Nat.le_of_ble_eq_true rfl) tw1_204 rfl dX2_isOpenToAppeals_1 hw (fun v1 hw => ?_)
  exact go_zret C dX2_isOpenToAppeals_4 ⟨hw.1, ⟨rfl, hw.2⟩⟩ (Nat.le_of_ble_eq_true rfl) (Nat.le_of_ble_eq_true rfl)
/-- DuelSchema$Duel.closeAppeals()V -/
def w_X2_closeAppeals (N : Nat) (a0 : Nat) (h0 : Hp) (K : Hp → Prop) : Prop :=
  pF h0 a0 2 5 (iV 0) fun h1 =>
  K h1
abbrev rmX2_closeAppeals : Room := { frames := 2, cells := 0, slots := 0, locals := 60 }
theorem vX2_closeAppeals : VI RX2 yX2_closeAppeals cX2_closeAppeals 1 none 0 := ⟨tw2_32, tw2_33, tw1_7, tw2_34, by decide +kernel⟩
set_option maxHeartbeats 4000000 in
theorem m_X2_closeAppeals {G : Gp} (l : Launch) (hfl : l.stackTraces = false) (N : Nat) {a0 : Nat} {h0 : Hp} {K : Hp → Prop} (hw : w_X2_closeAppeals N a0 h0 K) : MT G l yX2_closeAppeals cX2_closeAppeals 1 none rmX2_closeAppeals [rV (some a0)] h0 (QV G K) := by
  refine go_metT l hfl _ 1 _ _ rfl (by decide +kernel) (Nat.le_of_ble_eq_true rfl) [(0, rV (some a0))] rfl (fun X hX C hn => ?_)
  subst hX
  unfold w_X2_closeAppeals at hw
  refine go_aload_n C dX2_closeAppeals_0 0 rfl ?_
  refine go_iconst C 0 dX2_closeAppeals_1 kc_i0 ?_
  refine go_putZ C (cfX2) (k := 5) (Nat.le_of_ble_eq_true rfl) tw1_204 rfl (Or.inl rfl) rfl dX2_closeAppeals_2 ⟨⟨rfl, rfl⟩, hw⟩ (fun h1 hw => ?_)
  exact go_vret C dX2_closeAppeals_5 hw (Nat.le_of_ble_eq_true rfl) (Nat.le_of_ble_eq_true rfl)
/-- DuelSchema$Duel.purseOf(I)I -/
def w_X2_purseOf (N : Nat) (a0 : Nat) (p1 : Int32) (h0 : Hp) (K : Int32 → Prop) : Prop :=
  br (p1 < 0) (
    K 0) (
    gA h0 a0 2 0 fun a1 =>
    aN h0 a1 fun v2 =>
    br (v2 ≤ p1) (
      K 0) (
      gA h0 a0 2 0 fun a3 =>
      aI h0 a3 0 p1 fun v4 =>
      K v4))
abbrev rmX2_purseOf : Room := { frames := 2, cells := 0, slots := 0, locals := 60 }
theorem vX2_purseOf : VI RX2 yX2_purseOf cX2_purseOf 2 (some .int) 1 := ⟨tw2_63, tw2_64, tw1_7, tw2_65, by decide +kernel⟩
set_option maxHeartbeats 4000000 in
theorem m_X2_purseOf {G : Gp} (l : Launch) (hfl : l.stackTraces = false) (N : Nat) {a0 : Nat} {p1 : Int32} {h0 : Hp} {K : Int32 → Prop} (hw : w_X2_purseOf N a0 p1 h0 K) : MT G l yX2_purseOf cX2_purseOf 2 (some .int) rmX2_purseOf [rV (some a0), iV p1] h0 (QI G (fun r h1 => h1 = h0 ∧ K r)) := by
  refine go_metT l hfl _ 2 _ _ rfl (by decide +kernel) (Nat.le_of_ble_eq_true rfl) [(0, rV (some a0)), (1, iV p1)] rfl (fun X hX C hn => ?_)
  subst hX
  unfold w_X2_purseOf at hw
  refine go_iload_n C dX2_purseOf_0 1 rfl ?_
  refine go_if_lt C 22 dX2_purseOf_1 (by decide) hw (fun hw => ?_) (fun hw => ?_)
  · refine go_iconst C 0 dX2_purseOf_22 kc_i0 ?_
    exact go_iret C dX2_purseOf_23 ⟨rfl, hw⟩ (Nat.le_of_ble_eq_true rfl) (Nat.le_of_ble_eq_true rfl)
  refine go_iload_n C dX2_purseOf_4 1 rfl ?_
  refine go_aload_n C dX2_purseOf_5 0 rfl ?_
  refine go_getA C (cfX2) (k := 0) (Nat.le_of_ble_eq_true rfl) tw1_199 rfl dX2_purseOf_6 hw (fun a1 hw => ?_)
  refine go_alen C dX2_purseOf_9 hw (fun v2 hw => ?_)
  refine go_icmp_ge C 22 dX2_purseOf_10 (by decide) hw (fun hw => ?_) (fun hw => ?_)
  · refine go_iconst C 0 dX2_purseOf_22 kc_i0 ?_
    exact go_iret C dX2_purseOf_23 ⟨rfl, hw⟩ (Nat.le_of_ble_eq_true rfl) (Nat.le_of_ble_eq_true rfl)
  refine go_aload_n C dX2_purseOf_13 0 rfl ?_
  refine go_getA C (cfX2) (k := 0) (Nat.le_of_ble_eq_true rfl) tw1_199 rfl dX2_purseOf_14 hw (fun a3 hw => ?_)
  refine go_iload_n C dX2_purseOf_17 1 rfl ?_
  refine go_iaload C dX2_purseOf_18 hw (fun v4 hw => ?_)
  refine go_goto C 23 dX2_purseOf_19 (by decide) ?_
  exact go_iret C dX2_purseOf_23 ⟨rfl, hw⟩ (Nat.le_of_ble_eq_true rfl) (Nat.le_of_ble_eq_true rfl)
/-- DuelSchema$Duel.give(II)V -/
def w_X2_give (N : Nat) (a0 : Nat) (p1 : Int32) (p2 : Int32) (h0 : Hp) (K : Hp → Prop) : Prop :=
  br (p1 < 0) (
    K h0) (
    gA h0 a0 2 0 fun a1 =>
    aN h0 a1 fun v2 =>
    br (v2 ≤ p1) (
      K h0) (
      gA h0 a0 2 0 fun a3 =>
      gA h0 a0 2 0 fun a4 =>
      aI h0 a4 0 p1 fun v5 =>
      sI h0 a3 0 p1 (if 0 < (v5 + p2) then (v5 + p2) else 0) fun h6 =>
      K h6))
abbrev rmX2_give : Room := { frames := 2, cells := 0, slots := 0, locals := 60 }
theorem vX2_give : VI RX2 yX2_give cX2_give 3 none 2 := ⟨tw6_209, tw6_210, tw1_7, tw6_211, by decide +kernel⟩
set_option maxHeartbeats 4000000 in
theorem m_X2_give {G : Gp} (l : Launch) (hfl : l.stackTraces = false) (N : Nat) {a0 : Nat} {p1 : Int32} {p2 : Int32} {h0 : Hp} {K : Hp → Prop} (hw : w_X2_give N a0 p1 p2 h0 K) : MT G l yX2_give cX2_give 3 none rmX2_give [rV (some a0), iV p1, iV p2] h0 (QV G K) := by
  refine go_metT l hfl _ 3 _ _ rfl (by decide +kernel) (Nat.le_of_ble_eq_true rfl) [(0, rV (some a0)), (1, iV p1), (2, iV p2)] rfl (fun X hX C hn => ?_)
  subst hX
  unfold w_X2_give at hw
  refine go_iload_n C dX2_give_0 1 rfl ?_
  refine go_if_lt C 31 dX2_give_1 (by decide) hw (fun hw => ?_) (fun hw => ?_)
  · exact go_vret C dX2_give_31 hw (Nat.le_of_ble_eq_true rfl) (Nat.le_of_ble_eq_true rfl)
  refine go_iload_n C dX2_give_4 1 rfl ?_
  refine go_aload_n C dX2_give_5 0 rfl ?_
  refine go_getA C (cfX2) (k := 0) (Nat.le_of_ble_eq_true rfl) tw1_199 rfl dX2_give_6 hw (fun a1 hw => ?_)
  refine go_alen C dX2_give_9 hw (fun v2 hw => ?_)
  refine go_icmp_ge C 31 dX2_give_10 (by decide) hw (fun hw => ?_) (fun hw => ?_)
  · exact go_vret C dX2_give_31 hw (Nat.le_of_ble_eq_true rfl) (Nat.le_of_ble_eq_true rfl)
  refine go_aload_n C dX2_give_13 0 rfl ?_
  refine go_getA C (cfX2) (k := 0) (Nat.le_of_ble_eq_true rfl) tw1_199 rfl dX2_give_14 hw (fun a3 hw => ?_)
  refine go_iload_n C dX2_give_17 1 rfl ?_
  refine go_iconst C 0 dX2_give_18 kc_i0 ?_
  refine go_aload_n C dX2_give_19 0 rfl ?_
  refine go_getA C (cfX2) (k := 0) (Nat.le_of_ble_eq_true rfl) tw1_199 rfl dX2_give_20 hw (fun a4 hw => ?_)
  refine go_iload_n C dX2_give_23 1 rfl ?_
  refine go_iaload C dX2_give_24 hw (fun v5 hw => ?_)
  refine go_iload_n C dX2_give_25 2 rfl ?_
  refine go_iadd C dX2_give_26 ?_
  refine go_imax C tw6_212 tw3_99 tw1_19 tw3_100 ⟨Nat.le_of_ble_eq_true rfl, Nat.le_of_ble_eq_true rfl, Nat.le_of_ble_eq_true rfl, Nat.le_of_ble_eq_true rfl⟩ (Nat.le_of_ble_eq_true rfl) dX2_give_27 ?_
  refine go_iastore C dX2_give_30 hw (fun h6 hw => ?_)
  exact go_vret C dX2_give_31 hw (Nat.le_of_ble_eq_true rfl) (Nat.le_of_ble_eq_true rfl)
/-- DuelSchema$Duel.bansFor(I)I -/
def w_X2_bansFor (N : Nat) (a0 : Nat) (p1 : Int32) (h0 : Hp) (K : Int32 → Prop) : Prop :=
  br (p1 < 0) (
    K 0) (
    gA h0 a0 2 1 fun a1 =>
    aN h0 a1 fun v2 =>
    br (v2 ≤ p1) (
      K 0) (
      gA h0 a0 2 1 fun a3 =>
      aI h0 a3 0 p1 fun v4 =>
      K v4))
abbrev rmX2_bansFor : Room := { frames := 2, cells := 0, slots := 0, locals := 60 }
theorem vX2_bansFor : VI RX2 yX2_bansFor cX2_bansFor 2 (some .int) 1 := ⟨tw3_67, tw3_68, tw1_7, tw3_69, by decide +kernel⟩
set_option maxHeartbeats 4000000 in
theorem m_X2_bansFor {G : Gp} (l : Launch) (hfl : l.stackTraces = false) (N : Nat) {a0 : Nat} {p1 : Int32} {h0 : Hp} {K : Int32 → Prop} (hw : w_X2_bansFor N a0 p1 h0 K) : MT G l yX2_bansFor cX2_bansFor 2 (some .int) rmX2_bansFor [rV (some a0), iV p1] h0 (QI G (fun r h1 => h1 = h0 ∧ K r)) := by
  refine go_metT l hfl _ 2 _ _ rfl (by decide +kernel) (Nat.le_of_ble_eq_true rfl) [(0, rV (some a0)), (1, iV p1)] rfl (fun X hX C hn => ?_)
  subst hX
  unfold w_X2_bansFor at hw
  refine go_iload_n C dX2_bansFor_0 1 rfl ?_
  refine go_if_lt C 22 dX2_bansFor_1 (by decide) hw (fun hw => ?_) (fun hw => ?_)
  · refine go_iconst C 0 dX2_bansFor_22 kc_i0 ?_
    exact go_iret C dX2_bansFor_23 ⟨rfl, hw⟩ (Nat.le_of_ble_eq_true rfl) (Nat.le_of_ble_eq_true rfl)
  refine go_iload_n C dX2_bansFor_4 1 rfl ?_
  refine go_aload_n C dX2_bansFor_5 0 rfl ?_
  refine go_getA C (cfX2) (k := 1) (Nat.le_of_ble_eq_true rfl) tw1_200 rfl dX2_bansFor_6 hw (fun a1 hw => ?_)
  refine go_alen C dX2_bansFor_9 hw (fun v2 hw => ?_)
  refine go_icmp_ge C 22 dX2_bansFor_10 (by decide) hw (fun hw => ?_) (fun hw => ?_)
  · refine go_iconst C 0 dX2_bansFor_22 kc_i0 ?_
    exact go_iret C dX2_bansFor_23 ⟨rfl, hw⟩ (Nat.le_of_ble_eq_true rfl) (Nat.le_of_ble_eq_true rfl)
  refine go_aload_n C dX2_bansFor_13 0 rfl ?_
  refine go_getA C (cfX2) (k := 1) (Nat.le_of_ble_eq_true rfl) tw1_200 rfl dX2_bansFor_14 hw (fun a3 hw => ?_)
  refine go_iload_n C dX2_bansFor_17 1 rfl ?_
  refine go_iaload C dX2_bansFor_18 hw (fun v4 hw => ?_)
  refine go_goto C 23 dX2_bansFor_19 (by decide) ?_
  exact go_iret C dX2_bansFor_23 ⟨rfl, hw⟩ (Nat.le_of_ble_eq_true rfl) (Nat.le_of_ble_eq_true rfl)
/-- DuelSchema$Duel.addBan(II)V -/
def w_X2_addBan (N : Nat) (a0 : Nat) (p1 : Int32) (p2 : Int32) (h0 : Hp) (K : Hp → Prop) : Prop :=
  br (p1 < 0) (
    K h0) (
    gA h0 a0 2 1 fun a1 =>
    aN h0 a1 fun v2 =>
    br (v2 ≤ p1) (
      K h0) (
      br (p2 < 0) (
        K h0) (
        br (6 ≤ p2) (
          K h0) (
          gA h0 a0 2 1 fun a3 =>
          aI h0 a3 0 p1 fun v4 =>
          sI h0 a3 0 p1 (v4 ||| (1 <<< (p2 &&& 31))) fun h5 =>
          K h5))))
abbrev rmX2_addBan : Room := { frames := 2, cells := 0, slots := 0, locals := 60 }
theorem vX2_addBan : VI RX2 yX2_addBan cX2_addBan 3 none 2 := ⟨tw6_205, tw6_206, tw1_7, tw6_207, by decide +kernel⟩
set_option maxHeartbeats 4000000 in
theorem m_X2_addBan {G : Gp} (l : Launch) (hfl : l.stackTraces = false) (N : Nat) {a0 : Nat} {p1 : Int32} {p2 : Int32} {h0 : Hp} {K : Hp → Prop} (hw : w_X2_addBan N a0 p1 p2 h0 K) : MT G l yX2_addBan cX2_addBan 3 none rmX2_addBan [rV (some a0), iV p1, iV p2] h0 (QV G K) := by
  refine go_metT l hfl _ 3 _ _ rfl (by decide +kernel) (Nat.le_of_ble_eq_true rfl) [(0, rV (some a0)), (1, iV p1), (2, iV p2)] rfl (fun X hX C hn => ?_)
  subst hX
  unfold w_X2_addBan at hw
  refine go_iload_n C dX2_addBan_0 1 rfl ?_
  refine go_if_lt C 35 dX2_addBan_1 (by decide) hw (fun hw => ?_) (fun hw => ?_)
  · exact go_vret C dX2_addBan_35 hw (Nat.le_of_ble_eq_true rfl) (Nat.le_of_ble_eq_true rfl)
  refine go_iload_n C dX2_addBan_4 1 rfl ?_
  refine go_aload_n C dX2_addBan_5 0 rfl ?_
  refine go_getA C (cfX2) (k := 1) (Nat.le_of_ble_eq_true rfl) tw1_200 rfl dX2_addBan_6 hw (fun a1 hw => ?_)
  refine go_alen C dX2_addBan_9 hw (fun v2 hw => ?_)
  refine go_icmp_ge C 35 dX2_addBan_10 (by decide) hw (fun hw => ?_) (fun hw => ?_)
  · exact go_vret C dX2_addBan_35 hw (Nat.le_of_ble_eq_true rfl) (Nat.le_of_ble_eq_true rfl)
  refine go_iload_n C dX2_addBan_13 2 rfl ?_
  refine go_if_lt C 35 dX2_addBan_14 (by decide) hw (fun hw => ?_) (fun hw => ?_)
  · exact go_vret C dX2_addBan_35 hw (Nat.le_of_ble_eq_true rfl) (Nat.le_of_ble_eq_true rfl)
  refine go_iload_n C dX2_addBan_17 2 rfl ?_
  refine go_bipush C 6 dX2_addBan_18 kc_b6 ?_
  refine go_icmp_ge C 35 dX2_addBan_20 (by decide) hw (fun hw => ?_) (fun hw => ?_)
  · exact go_vret C dX2_addBan_35 hw (Nat.le_of_ble_eq_true rfl) (Nat.le_of_ble_eq_true rfl)
  refine go_aload_n C dX2_addBan_23 0 rfl ?_
  refine go_getA C (cfX2) (k := 1) (Nat.le_of_ble_eq_true rfl) tw1_200 rfl dX2_addBan_24 hw (fun a3 hw => ?_)
  refine go_iload_n C dX2_addBan_27 1 rfl ?_
  refine go_dup2 C _ _ dX2_addBan_28 rfl rfl ?_
  refine go_iaload C dX2_addBan_29 hw (fun v4 hw => ?_)
  refine go_iconst C 1 dX2_addBan_30 kc_i1 ?_
  refine go_iload_n C dX2_addBan_31 2 rfl ?_
  refine go_ishl C dX2_addBan_32 ?_
  refine go_ior C dX2_addBan_33 ?_
  refine go_iastore C dX2_addBan_34 hw (fun h5 hw => ?_)
  exact go_vret C dX2_addBan_35 hw (Nat.le_of_ble_eq_true rfl) (Nat.le_of_ble_eq_true rfl)
/-- DuelSchema$Duel.missedIn(II)I -/
def w_X2_missedIn (N : Nat) (a0 : Nat) (p1 : Int32) (p2 : Int32) (h0 : Hp) (K : Int32 → Prop) : Prop :=
  jn (fun (v1 : Int32) => 
    br (v1 = 0) (
      K (-1)) (
      br (((p2 * 2) + p1) < 0) (
        K (-1)) (
        gA h0 a0 2 2 fun a2 =>
        aN h0 a2 fun v3 =>
        br (v3 ≤ ((p2 * 2) + p1)) (
          K (-1)) (
          gA h0 a0 2 2 fun a4 =>
          aI h0 a4 0 ((p2 * 2) + p1) fun v5 =>
          K v5)))) (fun j26 =>
  jn (
    j26 0) (fun j25 =>
  br (p2 < 0) (
    j25 ) (
    gI h0 a0 2 3 fun v6 =>
    br (v6 ≤ p2) (
      j25 ) (
      br (p1 < 0) (
        j25 ) (
        br (2 ≤ p1) (
          j25 ) (
          j26 1))))))
abbrev rmX2_missedIn : Room := { frames := 2, cells := 0, slots := 0, locals := 60 }
theorem vX2_missedIn : VI RX2 yX2_missedIn cX2_missedIn 5 (some .int) 2 := ⟨tw7_29, tw7_30, tw1_7, tw7_31, by decide +kernel⟩
set_option maxHeartbeats 4000000 in
theorem m_X2_missedIn {G : Gp} (l : Launch) (hfl : l.stackTraces = false) (N : Nat) {a0 : Nat} {p1 : Int32} {p2 : Int32} {h0 : Hp} {K : Int32 → Prop} (hw : w_X2_missedIn N a0 p1 p2 h0 K) : MT G l yX2_missedIn cX2_missedIn 5 (some .int) rmX2_missedIn [rV (some a0), iV p1, iV p2] h0 (QI G (fun r h1 => h1 = h0 ∧ K r)) := by
  refine go_metT l hfl _ 5 _ _ rfl (by decide +kernel) (Nat.le_of_ble_eq_true rfl) [(0, rV (some a0)), (1, iV p1), (2, iV p2)] rfl (fun X hX C hn => ?_)
  subst hX
  unfold w_X2_missedIn at hw
  refine go_iload_n C dX2_missedIn_0 2 rfl ?_
  refine jn_elim (P := fun j => ∀ (v1 : Int32), j v1 → Go G X rmX2_missedIn 5 0 0 (QN G X (QI G (fun r h1 => h1 = h0 ∧ K r)) rmX2_missedIn) h0 26 [(0, rV (some a0)), (1, iV p1), (2, iV p2)] [iV v1]) hw (fun v1 hw => ?_) (fun j26 hj26 hw => ?_)
  · refine go_istore_n C [(3, iV v1), (0, rV (some a0)), (1, iV p1), (2, iV p2)] dX2_missedIn_26 (Nat.le_of_ble_eq_true rfl) rfl ?_
    refine go_iload_n C dX2_missedIn_27 3 rfl ?_
    refine go_iconst C 2 dX2_missedIn_28 kc_i2 ?_
    refine go_imul C dX2_missedIn_29 ?_
    refine go_iload_n C dX2_missedIn_30 2 rfl ?_
    refine go_iadd C dX2_missedIn_31 ?_
    refine go_istore C [(4, iV ((p2 * 2) + p1)), (3, iV v1), (0, rV (some a0)), (1, iV p1), (2, iV p2)] dX2_missedIn_32 (Nat.le_of_ble_eq_true rfl) rfl ?_
    refine go_iload_n C dX2_missedIn_34 1 rfl ?_
    refine go_if_eq C 63 dX2_missedIn_35 (by decide) hw (fun hw => ?_) (fun hw => ?_)
    · refine go_iconst C (-1) dX2_missedIn_63 kc_im1 ?_
      exact go_iret C dX2_missedIn_64 ⟨rfl, hw⟩ (Nat.le_of_ble_eq_true rfl) (Nat.le_of_ble_eq_true rfl)
    refine go_iload C dX2_missedIn_38 0 rfl ?_
    refine go_if_lt C 63 dX2_missedIn_40 (by decide) hw (fun hw => ?_) (fun hw => ?_)
    · refine go_iconst C (-1) dX2_missedIn_63 kc_im1 ?_
      exact go_iret C dX2_missedIn_64 ⟨rfl, hw⟩ (Nat.le_of_ble_eq_true rfl) (Nat.le_of_ble_eq_true rfl)
    refine go_iload C dX2_missedIn_43 0 rfl ?_
    refine go_aload_n C dX2_missedIn_45 2 rfl ?_
    refine go_getA C (cfX2) (k := 2) (Nat.le_of_ble_eq_true rfl) tw1_201 rfl dX2_missedIn_46 hw (fun a2 hw => ?_)
    refine go_alen C dX2_missedIn_49 hw (fun v3 hw => ?_)
    refine go_icmp_ge C 63 dX2_missedIn_50 (by decide) hw (fun hw => ?_) (fun hw => ?_)
    · refine go_iconst C (-1) dX2_missedIn_63 kc_im1 ?_
      exact go_iret C dX2_missedIn_64 ⟨rfl, hw⟩ (Nat.le_of_ble_eq_true rfl) (Nat.le_of_ble_eq_true rfl)
    refine go_aload_n C dX2_missedIn_53 2 rfl ?_
    refine go_getA C (cfX2) (k := 2) (Nat.le_of_ble_eq_true rfl) tw1_201 rfl dX2_missedIn_54 hw (fun a4 hw => ?_)
    refine go_iload C dX2_missedIn_57 0 rfl ?_
    refine go_iaload C dX2_missedIn_59 hw (fun v5 hw => ?_)
    refine go_goto C 64 dX2_missedIn_60 (by decide) ?_
    exact go_iret C dX2_missedIn_64 ⟨rfl, hw⟩ (Nat.le_of_ble_eq_true rfl) (Nat.le_of_ble_eq_true rfl)
  refine jn_elim (P := fun j => j  → Go G X rmX2_missedIn 5 0 0 (QN G X (QI G (fun r h1 => h1 = h0 ∧ K r)) rmX2_missedIn) h0 25 [(0, rV (some a0)), (1, iV p1), (2, iV p2)] []) hw (fun  hw => ?_) (fun j25 hj25 hw => ?_)
  · refine go_iconst C 0 dX2_missedIn_25 kc_i0 ?_
    exact hj26 0 hw
  refine go_if_lt C 25 dX2_missedIn_1 (by decide) hw (fun hw => ?_) (fun hw => ?_)
  · exact hj25  hw
  refine go_iload_n C dX2_missedIn_4 2 rfl ?_
  refine go_aload_n C dX2_missedIn_5 0 rfl ?_
  refine go_getI C (cfX2) (k := 3) (Nat.le_of_ble_eq_true rfl) tw1_202 rfl dX2_missedIn_6 hw (fun v6 hw => ?_)
  refine go_icmp_ge C 25 dX2_missedIn_9 (by decide) hw (fun hw => ?_) (fun hw => ?_)
  · exact hj25  hw
  refine go_iload_n C dX2_missedIn_12 1 rfl ?_
  refine go_if_lt C 25 dX2_missedIn_13 (by decide) hw (fun hw => ?_) (fun hw => ?_)
  · exact hj25  hw
  refine go_iload_n C dX2_missedIn_16 1 rfl ?_
  refine go_iconst C 2 dX2_missedIn_17 kc_i2 ?_
  refine go_icmp_ge C 25 dX2_missedIn_18 (by decide) hw (fun hw => ?_) (fun hw => ?_)
  · exact hj25  hw
  refine go_iconst C 1 dX2_missedIn_21 kc_i1 ?_
  refine go_goto C 26 dX2_missedIn_22 (by decide) ?_
  exact hj26 1 hw
/-- DuelSchema$Duel.missedInAll(I)I -/
def w_X2_missedInAll (N : Nat) (a0 : Nat) (p1 : Int32) (h0 : Hp) (K : Int32 → Prop) : Prop :=
  fx2 (fun (w4 : Int32 → Int32 → Prop) (x1 : Int32) (x2 : Int32) =>
    gI h0 a0 2 3 fun v3 =>
    br (v3 ≤ x2) (
      K x1) (
      cv h0 a0 2 <| w_X2_missedIn N a0 p1 x2 h0 fun v4 =>
      w4 (x1 + v4) (x2 + 1))) N 0 0
abbrev rmX2_missedInAll : Room := { frames := 3, cells := 0, slots := 0, locals := 84 }
theorem vX2_missedInAll : VI RX2 yX2_missedInAll cX2_missedInAll 4 (some .int) 1 := ⟨tw7_41, tw7_42, tw1_7, tw7_43, by decide +kernel⟩
set_option maxHeartbeats 4000000 in
theorem m_X2_missedInAll {G : Gp} (l : Launch) (hfl : l.stackTraces = false) (N : Nat) {a0 : Nat} {p1 : Int32} {h0 : Hp} {K : Int32 → Prop} (hw : w_X2_missedInAll N a0 p1 h0 K) : MT G l yX2_missedInAll cX2_missedInAll 4 (some .int) rmX2_missedInAll [rV (some a0), iV p1] h0 (QI G (fun r h1 => h1 = h0 ∧ K r)) := by
  refine go_metT l hfl _ 4 _ _ rfl (by decide +kernel) (Nat.le_of_ble_eq_true rfl) [(0, rV (some a0)), (1, iV p1)] rfl (fun X hX C hn => ?_)
  subst hX
  unfold w_X2_missedInAll at hw
  refine go_iconst C 0 dX2_missedInAll_0 kc_i0 ?_
  refine go_istore_n C [(2, iV 0), (0, rV (some a0)), (1, iV p1)] dX2_missedInAll_1 (Nat.le_of_ble_eq_true rfl) rfl ?_
  refine go_iconst C 0 dX2_missedInAll_2 kc_i0 ?_
  refine go_istore_n C [(3, iV 0), (2, iV 0), (0, rV (some a0)), (1, iV p1)] dX2_missedInAll_3 (Nat.le_of_ble_eq_true rfl) rfl ?_
  refine go_sub [2, 3, 1, 0] rfl ?_
  refine fx2_elim (P := fun x1 x2 => Go G X rmX2_missedInAll 4 0 0 (QN G X (QI G (fun r h1 => h1 = h0 ∧ K r)) rmX2_missedInAll) h0 4 [(0, rV (some a0)), (1, iV p1), (2, iV x1), (3, iV x2)] []) (fun w4 hj4 x1 x2 hw => ?_) N _ _ hw
  refine go_iload_n C dX2_missedInAll_4 3 rfl ?_
  refine go_aload_n C dX2_missedInAll_5 0 rfl ?_
  refine go_getI C (cfX2) (k := 3) (Nat.le_of_ble_eq_true rfl) tw1_202 rfl dX2_missedInAll_6 hw (fun v3 hw => ?_)
  refine go_icmp_ge C 27 dX2_missedInAll_9 (by decide) hw (fun hw => ?_) (fun hw => ?_)
  · refine go_iload_n C dX2_missedInAll_27 2 rfl ?_
    exact go_iret C dX2_missedInAll_28 ⟨rfl, hw⟩ (Nat.le_of_ble_eq_true rfl) (Nat.le_of_ble_eq_true rfl)
  refine go_iload_n C dX2_missedInAll_12 2 rfl ?_
  refine go_aload_n C dX2_missedInAll_13 0 rfl ?_
  refine go_iload_n C dX2_missedInAll_14 1 rfl ?_
  refine go_iload_n C dX2_missedInAll_15 3 rfl ?_
  refine go_pV_i C [iV p1, iV x2] vX2_missedIn tw7_44 (ci := 2) rfl (m_X2_missedIn (xl X) C.2.2.2.2.2.2.2.1 N hw.2) ⟨Nat.le_of_ble_eq_true rfl, Nat.le_of_ble_eq_true rfl, Nat.le_of_ble_eq_true rfl, Nat.le_of_ble_eq_true rfl⟩ ⟨rfl, rfl⟩ hw.1 dX2_missedInAll_16 rfl (Nat.le_of_ble_eq_true rfl) rfl (fun v4 hw => ?_)
  refine go_iadd C dX2_missedInAll_19 ?_
  refine go_istore_n C [(2, iV (x1 + v4)), (0, rV (some a0)), (1, iV p1), (3, iV x2)] dX2_missedInAll_20 (Nat.le_of_ble_eq_true rfl) rfl ?_
  refine go_iinc C (x2 + 1) [(3, iV (x2 + 1)), (2, iV (x1 + v4)), (0, rV (some a0)), (1, iV p1)] dX2_missedInAll_21 3 rfl (by rw [kc_i1]) (Nat.le_of_ble_eq_true rfl) rfl ?_
  refine go_goto C 4 dX2_missedInAll_24 (by decide) ?_
  refine go_sub [2, 3, 1, 0] rfl ?_
  exact hj4 (x1 + v4) (x2 + 1) hw
/-- DuelSchema$Duel.pay(I)V -/
def w_X2_pay (N : Nat) (a0 : Nat) (p1 : Int32) (h0 : Hp) (K : Hp → Prop) : Prop :=
  gI h0 a0 2 4 fun v1 =>
  br (v1 = (-1)) (
    cv h0 a0 2 <| w_X2_give N a0 0 p1 h0 fun h4 =>
    cv h4 a0 2 <| w_X2_give N a0 1 p1 h4 fun h5 =>
    K h5) (
    gI h0 a0 2 4 fun v2 =>
    cv h0 a0 2 <| w_X2_give N a0 v2 (3 * p1) h0 fun h3 =>
    K h3)
abbrev rmX2_pay : Room := { frames := 3, cells := 0, slots := 0, locals := 82 }
theorem vX2_pay : VI RX2 yX2_pay cX2_pay 2 none 1 := ⟨tw6_230, tp42, tw1_7, tw6_231, by decide +kernel⟩
set_option maxHeartbeats 4000000 in
theorem m_X2_pay {G : Gp} (l : Launch) (hfl : l.stackTraces = false) (N : Nat) {a0 : Nat} {p1 : Int32} {h0 : Hp} {K : Hp → Prop} (hw : w_X2_pay N a0 p1 h0 K) : MT G l yX2_pay cX2_pay 2 none rmX2_pay [rV (some a0), iV p1] h0 (QV G K) := by
  refine go_metT l hfl _ 2 _ _ rfl (by decide +kernel) (Nat.le_of_ble_eq_true rfl) [(0, rV (some a0)), (1, iV p1)] rfl (fun X hX C hn => ?_)
  subst hX
  unfold w_X2_pay at hw
  refine go_aload_n C dX2_pay_0 0 rfl ?_
  refine go_getI C (cfX2) (k := 4) (Nat.le_of_ble_eq_true rfl) tw1_203 rfl dX2_pay_1 hw (fun v1 hw => ?_)
  refine go_iconst C (-1) dX2_pay_4 kc_im1 ?_
  refine go_icmp_ne C 23 dX2_pay_5 (by decide) hw (fun hw => ?_) (fun hw => ?_)
  · refine go_aload_n C dX2_pay_23 0 rfl ?_
    refine go_aload_n C dX2_pay_24 0 rfl ?_
    refine go_getI C (cfX2) (k := 4) (Nat.le_of_ble_eq_true rfl) tw1_203 rfl dX2_pay_25 hw (fun v2 hw => ?_)
    refine go_iconst C 3 dX2_pay_28 kc_i3 ?_
    refine go_iload_n C dX2_pay_29 1 rfl ?_
    refine go_imul C dX2_pay_30 ?_
    refine go_c0V_v C [iV v2, iV (3 * p1)] vX2_give tw6_232 (ci := 2) rfl (m_X2_give (xl X) C.2.2.2.2.2.2.2.1 N hw.2) ⟨Nat.le_of_ble_eq_true rfl, Nat.le_of_ble_eq_true rfl, Nat.le_of_ble_eq_true rfl, Nat.le_of_ble_eq_true rfl⟩ ⟨rfl, rfl⟩ hw.1 dX2_pay_31 rfl (Nat.le_of_ble_eq_true rfl) rfl (fun h3 hw => ?_)
    exact go_vret C dX2_pay_34 hw (Nat.le_of_ble_eq_true rfl) (Nat.le_of_ble_eq_true rfl)
  refine go_aload_n C dX2_pay_8 0 rfl ?_
  refine go_iconst C 0 dX2_pay_9 kc_i0 ?_
  refine go_iload_n C dX2_pay_10 1 rfl ?_
  refine go_c0V_v C [iV 0, iV p1] vX2_give tw6_232 (ci := 2) rfl (m_X2_give (xl X) C.2.2.2.2.2.2.2.1 N hw.2) ⟨Nat.le_of_ble_eq_true rfl, Nat.le_of_ble_eq_true rfl, Nat.le_of_ble_eq_true rfl, Nat.le_of_ble_eq_true rfl⟩ ⟨rfl, rfl⟩ hw.1 dX2_pay_11 rfl (Nat.le_of_ble_eq_true rfl) rfl (fun h4 hw => ?_)
  refine go_aload_n C dX2_pay_14 0 rfl ?_
  refine go_iconst C 1 dX2_pay_15 kc_i1 ?_
  refine go_iload_n C dX2_pay_16 1 rfl ?_
  refine go_c0V_v C [iV 1, iV p1] vX2_give tw6_232 (ci := 2) rfl (m_X2_give (xl X) C.2.2.2.2.2.2.2.1 N hw.2) ⟨Nat.le_of_ble_eq_true rfl, Nat.le_of_ble_eq_true rfl, Nat.le_of_ble_eq_true rfl, Nat.le_of_ble_eq_true rfl⟩ ⟨rfl, rfl⟩ hw.1 dX2_pay_17 rfl (Nat.le_of_ble_eq_true rfl) rfl (fun h5 hw => ?_)
  refine go_goto C 34 dX2_pay_20 (by decide) ?_
  exact go_vret C dX2_pay_34 hw (Nat.le_of_ble_eq_true rfl) (Nat.le_of_ble_eq_true rfl)
/-- DuelSchema$Duel.setResult(II)V -/
def w_X2_setResult (N : Nat) (a0 : Nat) (p1 : Int32) (p2 : Int32) (h0 : Hp) (K : Hp → Prop) : Prop :=
  gI h0 a0 2 3 fun v1 =>
  jn (fun (h2 : Hp) => 
    jn (fun (v3 : Int32) => 
      pF h2 a0 2 4 (iV v3) fun h4 =>
      K h4) (fun j60 =>
    br (p2 ≤ p1) (
      br (p1 ≤ p2) (
        j60 (-1)) (
        j60 1)) (
      j60 0))) (fun j40 =>
  br (((v1 - 1) * 2) < 0) (
    j40 h0) (
    gA h0 a0 2 2 fun a5 =>
    aN h0 a5 fun v6 =>
    br (v6 ≤ (((v1 - 1) * 2) + 1)) (
      j40 h0) (
      gA h0 a0 2 2 fun a7 =>
      sI h0 a7 0 ((v1 - 1) * 2) p1 fun h8 =>
      gA h8 a0 2 2 fun a9 =>
      sI h8 a9 0 (((v1 - 1) * 2) + 1) p2 fun h10 =>
      j40 h10)))
abbrev rmX2_setResult : Room := { frames := 2, cells := 0, slots := 0, locals := 60 }
theorem vX2_setResult : VI RX2 yX2_setResult cX2_setResult 4 none 2 := ⟨tw6_226, tp41, tw1_7, tw6_227, by decide +kernel⟩
set_option maxHeartbeats 4000000 in
theorem m_X2_setResult {G : Gp} (l : Launch) (hfl : l.stackTraces = false) (N : Nat) {a0 : Nat} {p1 : Int32} {p2 : Int32} {h0 : Hp} {K : Hp → Prop} (hw : w_X2_setResult N a0 p1 p2 h0 K) : MT G l yX2_setResult cX2_setResult 4 none rmX2_setResult [rV (some a0), iV p1, iV p2] h0 (QV G K) := by
  refine go_metT l hfl _ 4 _ _ rfl (by decide +kernel) (Nat.le_of_ble_eq_true rfl) [(0, rV (some a0)), (1, iV p1), (2, iV p2)] rfl (fun X hX C hn => ?_)
  subst hX
  unfold w_X2_setResult at hw
  refine go_aload_n C dX2_setResult_0 0 rfl ?_
  refine go_getI C (cfX2) (k := 3) (Nat.le_of_ble_eq_true rfl) tw1_202 rfl dX2_setResult_1 hw (fun v1 hw => ?_)
  refine go_iconst C 1 dX2_setResult_4 kc_i1 ?_
  refine go_isub C dX2_setResult_5 ?_
  refine go_iconst C 2 dX2_setResult_6 kc_i2 ?_
  refine go_imul C dX2_setResult_7 ?_
  refine go_istore_n C [(3, iV ((v1 - 1) * 2)), (0, rV (some a0)), (1, iV p1), (2, iV p2)] dX2_setResult_8 (Nat.le_of_ble_eq_true rfl) rfl ?_
  refine go_iload_n C dX2_setResult_9 0 rfl ?_
  refine jn_elim (P := fun j => ∀ (h2 : Hp), j h2 → Go G X rmX2_setResult 4 0 0 (QN G X (QV G K) rmX2_setResult) h2 40 [(0, rV (some a0)), (1, iV p1), (2, iV p2)] []) hw (fun h2 hw => ?_) (fun j40 hj40 hw => ?_)
  · refine go_aload_n C dX2_setResult_40 0 rfl ?_
    refine go_iload_n C dX2_setResult_41 1 rfl ?_
    refine go_iload_n C dX2_setResult_42 2 rfl ?_
    refine jn_elim (P := fun j => ∀ (v3 : Int32), j v3 → Go G X rmX2_setResult 4 0 0 (QN G X (QV G K) rmX2_setResult) h2 60 [] [iV v3, rV (some a0)]) hw (fun v3 hw => ?_) (fun j60 hj60 hw => ?_)
    · refine go_putI C (cfX2) (k := 4) (Nat.le_of_ble_eq_true rfl) tw1_203 rfl (Or.inl rfl) rfl dX2_setResult_60 hw (fun h4 hw => ?_)
      exact go_vret C dX2_setResult_63 hw (Nat.le_of_ble_eq_true rfl) (Nat.le_of_ble_eq_true rfl)
    refine go_icmp_ge C 50 dX2_setResult_43 (by decide) hw (fun hw => ?_) (fun hw => ?_)
    · refine go_iload_n C dX2_setResult_50 2 rfl ?_
      refine go_iload_n C dX2_setResult_51 1 rfl ?_
      refine go_icmp_ge C 59 dX2_setResult_52 (by decide) hw (fun hw => ?_) (fun hw => ?_)
      · refine go_iconst C (-1) dX2_setResult_59 kc_im1 ?_
        refine go_sub [] rfl ?_
        exact hj60 (-1) hw
      refine go_iconst C 1 dX2_setResult_55 kc_i1 ?_
      refine go_goto C 60 dX2_setResult_56 (by decide) ?_
      refine go_sub [] rfl ?_
      exact hj60 1 hw
    refine go_iconst C 0 dX2_setResult_46 kc_i0 ?_
    refine go_goto C 60 dX2_setResult_47 (by decide) ?_
    refine go_sub [] rfl ?_
    exact hj60 0 hw
  refine go_if_lt C 40 dX2_setResult_10 (by decide) hw (fun hw => ?_) (fun hw => ?_)
  · refine go_sub [1, 2, 3] rfl ?_
    exact hj40 h0 hw
  refine go_iload_n C dX2_setResult_13 0 rfl ?_
  refine go_iconst C 1 dX2_setResult_14 kc_i1 ?_
  refine go_iadd C dX2_setResult_15 ?_
  refine go_aload_n C dX2_setResult_16 1 rfl ?_
  refine go_getA C (cfX2) (k := 2) (Nat.le_of_ble_eq_true rfl) tw1_201 rfl dX2_setResult_17 hw (fun a5 hw => ?_)
  refine go_alen C dX2_setResult_20 hw (fun v6 hw => ?_)
  refine go_icmp_ge C 40 dX2_setResult_21 (by decide) hw (fun hw => ?_) (fun hw => ?_)
  · refine go_sub [1, 2, 3] rfl ?_
    exact hj40 h0 hw
  refine go_aload_n C dX2_setResult_24 1 rfl ?_
  refine go_getA C (cfX2) (k := 2) (Nat.le_of_ble_eq_true rfl) tw1_201 rfl dX2_setResult_25 hw (fun a7 hw => ?_)
  refine go_iload_n C dX2_setResult_28 0 rfl ?_
  refine go_iload_n C dX2_setResult_29 2 rfl ?_
  refine go_iastore C dX2_setResult_30 hw (fun h8 hw => ?_)
  refine go_aload_n C dX2_setResult_31 1 rfl ?_
  refine go_getA C (cfX2) (k := 2) (Nat.le_of_ble_eq_true rfl) tw1_201 rfl dX2_setResult_32 hw (fun a9 hw => ?_)
  refine go_iload_n C dX2_setResult_35 0 rfl ?_
  refine go_iconst C 1 dX2_setResult_36 kc_i1 ?_
  refine go_iadd C dX2_setResult_37 ?_
  refine go_iload_n C dX2_setResult_38 3 rfl ?_
  refine go_iastore C dX2_setResult_39 hw (fun h10 hw => ?_)
  refine go_sub [1, 2, 3] rfl ?_
  exact hj40 h10 hw
/-- DuelSchema$Duel.endRound(II)V -/
def w_X2_endRound (N : Nat) (a0 : Nat) (p1 : Int32) (p2 : Int32) (h0 : Hp) (K : Hp → Prop) : Prop :=
  gI h0 a0 2 3 fun v1 =>
  jn (fun (h2 : Hp) => 
    cv h2 a0 2 <| w_X2_setResult N a0 p1 p2 h2 fun h3 =>
    cv h3 a0 2 <| w_X2_pay N a0 1 h3 fun h4 =>
    fx2 (fun (w33 : Int32 → Hp → Prop) (x6 : Int32) (h5 : Hp) =>
      gA h5 a0 2 1 fun a7 =>
      aN h5 a7 fun v8 =>
      br (v8 ≤ x6) (
        pF h5 a0 2 5 (iV 1) fun h9 =>
        K h9) (
        gA h5 a0 2 1 fun a10 =>
        sI h5 a10 0 x6 0 fun h11 =>
        w33 (x6 + 1) h11)) N 0 h4) (fun j20 =>
  br (512 ≤ v1) (
    j20 h0) (
    gI h0 a0 2 3 fun v12 =>
    pF h0 a0 2 3 (iV (v12 + 1)) fun h13 =>
    j20 h13))
abbrev rmX2_endRound : Room := { frames := 4, cells := 0, slots := 0, locals := 103 }
theorem vX2_endRound : VI RX2 yX2_endRound cX2_endRound 4 none 2 := ⟨tw6_221, tw6_222, tw1_7, tw6_223, by decide +kernel⟩
set_option maxHeartbeats 4000000 in
theorem m_X2_endRound {G : Gp} (l : Launch) (hfl : l.stackTraces = false) (N : Nat) {a0 : Nat} {p1 : Int32} {p2 : Int32} {h0 : Hp} {K : Hp → Prop} (hw : w_X2_endRound N a0 p1 p2 h0 K) : MT G l yX2_endRound cX2_endRound 4 none rmX2_endRound [rV (some a0), iV p1, iV p2] h0 (QV G K) := by
  refine go_metT l hfl _ 4 _ _ rfl (by decide +kernel) (Nat.le_of_ble_eq_true rfl) [(0, rV (some a0)), (1, iV p1), (2, iV p2)] rfl (fun X hX C hn => ?_)
  subst hX
  unfold w_X2_endRound at hw
  refine go_aload_n C dX2_endRound_0 0 rfl ?_
  refine go_getI C (cfX2) (k := 3) (Nat.le_of_ble_eq_true rfl) tw1_202 rfl dX2_endRound_1 hw (fun v1 hw => ?_)
  refine go_sipush C 512 dX2_endRound_4 kc_s512 ?_
  refine jn_elim (P := fun j => ∀ (h2 : Hp), j h2 → Go G X rmX2_endRound 4 0 0 (QN G X (QV G K) rmX2_endRound) h2 20 [(0, rV (some a0)), (1, iV p1), (2, iV p2)] []) hw (fun h2 hw => ?_) (fun j20 hj20 hw => ?_)
  · refine go_aload_n C dX2_endRound_20 0 rfl ?_
    refine go_iload_n C dX2_endRound_21 1 rfl ?_
    refine go_iload_n C dX2_endRound_22 2 rfl ?_
    refine go_c0V_v C [iV p1, iV p2] vX2_setResult tw6_224 (ci := 2) rfl (m_X2_setResult (xl X) C.2.2.2.2.2.2.2.1 N hw.2) ⟨Nat.le_of_ble_eq_true rfl, Nat.le_of_ble_eq_true rfl, Nat.le_of_ble_eq_true rfl, Nat.le_of_ble_eq_true rfl⟩ ⟨rfl, rfl⟩ hw.1 dX2_endRound_23 rfl (Nat.le_of_ble_eq_true rfl) rfl (fun h3 hw => ?_)
    refine go_aload_n C dX2_endRound_26 0 rfl ?_
    refine go_iconst C 1 dX2_endRound_27 kc_i1 ?_
    refine go_c0V_v C [iV 1] vX2_pay tw6_228 (ci := 2) rfl (m_X2_pay (xl X) C.2.2.2.2.2.2.2.1 N hw.2) ⟨Nat.le_of_ble_eq_true rfl, Nat.le_of_ble_eq_true rfl, Nat.le_of_ble_eq_true rfl, Nat.le_of_ble_eq_true rfl⟩ ⟨rfl, rfl⟩ hw.1 dX2_endRound_28 rfl (Nat.le_of_ble_eq_true rfl) rfl (fun h4 hw => ?_)
    refine go_iconst C 0 dX2_endRound_31 kc_i0 ?_
    refine go_istore_n C [(3, iV 0), (0, rV (some a0)), (1, iV p1), (2, iV p2)] dX2_endRound_32 (Nat.le_of_ble_eq_true rfl) rfl ?_
    refine go_sub [1, 0] rfl ?_
    refine fx2_elim (P := fun x6 h5 => Go G X rmX2_endRound 4 0 0 (QN G X (QV G K) rmX2_endRound) h5 33 [(0, rV (some a0)), (3, iV x6)] []) (fun w33 hj33 x6 h5 hw => ?_) N _ _ hw
    refine go_iload_n C dX2_endRound_33 1 rfl ?_
    refine go_aload_n C dX2_endRound_34 0 rfl ?_
    refine go_getA C (cfX2) (k := 1) (Nat.le_of_ble_eq_true rfl) tw1_200 rfl dX2_endRound_35 hw (fun a7 hw => ?_)
    refine go_alen C dX2_endRound_38 hw (fun v8 hw => ?_)
    refine go_icmp_ge C 55 dX2_endRound_39 (by decide) hw (fun hw => ?_) (fun hw => ?_)
    · refine go_aload_n C dX2_endRound_55 0 rfl ?_
      refine go_iconst C 1 dX2_endRound_56 kc_i1 ?_
      refine go_putZ C (cfX2) (k := 5) (Nat.le_of_ble_eq_true rfl) tw1_204 rfl (Or.inl rfl) rfl dX2_endRound_57 ⟨⟨rfl, rfl⟩, hw⟩ (fun h9 hw => ?_)
      exact go_vret C dX2_endRound_60 hw (Nat.le_of_ble_eq_true rfl) (Nat.le_of_ble_eq_true rfl)
    refine go_aload_n C dX2_endRound_42 0 rfl ?_
    refine go_getA C (cfX2) (k := 1) (Nat.le_of_ble_eq_true rfl) tw1_200 rfl dX2_endRound_43 hw (fun a10 hw => ?_)
    refine go_iload_n C dX2_endRound_46 1 rfl ?_
    refine go_iconst C 0 dX2_endRound_47 kc_i0 ?_
    refine go_iastore C dX2_endRound_48 hw (fun h11 hw => ?_)
    refine go_iinc C (x6 + 1) [(3, iV (x6 + 1)), (0, rV (some a0))] dX2_endRound_49 1 rfl (by rw [kc_i1]) (Nat.le_of_ble_eq_true rfl) rfl ?_
    refine go_goto C 33 dX2_endRound_52 (by decide) ?_
    refine go_sub [1, 0] rfl ?_
    exact hj33 (x6 + 1) h11 hw
  refine go_icmp_ge C 20 dX2_endRound_7 (by decide) hw (fun hw => ?_) (fun hw => ?_)
  · exact hj20 h0 hw
  refine go_aload_n C dX2_endRound_10 0 rfl ?_
  refine go_dup C _ dX2_endRound_11 rfl ?_
  refine go_getI C (cfX2) (k := 3) (Nat.le_of_ble_eq_true rfl) tw1_202 rfl dX2_endRound_12 hw (fun v12 hw => ?_)
  refine go_iconst C 1 dX2_endRound_15 kc_i1 ?_
  refine go_iadd C dX2_endRound_16 ?_
  refine go_putI C (cfX2) (k := 3) (Nat.le_of_ble_eq_true rfl) tw1_202 rfl (Or.inl rfl) rfl dX2_endRound_17 hw (fun h13 hw => ?_)
  exact hj20 h13 hw
/-- DuelSchema$Duel.endAppeal(III)V -/
def w_X2_endAppeal (N : Nat) (a0 : Nat) (p1 : Int32) (p2 : Int32) (p3 : Int32) (h0 : Hp) (K : Hp → Prop) : Prop :=
  gI h0 a0 2 4 fun v1 =>
  cv h0 a0 2 <| w_X2_pay N a0 (-1) h0 fun h2 =>
  cv h2 a0 2 <| w_X2_setResult N a0 p2 p3 h2 fun h3 =>
  cv h3 a0 2 <| w_X2_pay N a0 1 h3 fun h4 =>
  gI h4 a0 2 4 fun v5 =>
  jn (fun (h6 : Hp) => 
    pF h6 a0 2 5 (iV 0) fun h7 =>
    K h7) (fun j37 =>
  br (v5 = v1) (
    cv h4 a0 2 <| w_X2_give N a0 p1 (-1) h4 fun h8 =>
    j37 h8) (
    j37 h4))
abbrev rmX2_endAppeal : Room := { frames := 4, cells := 0, slots := 0, locals := 103 }
theorem vX2_endAppeal : VI RX2 yX2_endAppeal cX2_endAppeal 5 none 3 := ⟨tw7_11, tw7_12, tw1_7, tw7_13, by decide +kernel⟩
set_option maxHeartbeats 4000000 in
theorem m_X2_endAppeal {G : Gp} (l : Launch) (hfl : l.stackTraces = false) (N : Nat) {a0 : Nat} {p1 : Int32} {p2 : Int32} {p3 : Int32} {h0 : Hp} {K : Hp → Prop} (hw : w_X2_endAppeal N a0 p1 p2 p3 h0 K) : MT G l yX2_endAppeal cX2_endAppeal 5 none rmX2_endAppeal [rV (some a0), iV p1, iV p2, iV p3] h0 (QV G K) := by
  refine go_metT l hfl _ 5 _ _ rfl (by decide +kernel) (Nat.le_of_ble_eq_true rfl) [(0, rV (some a0)), (1, iV p1), (2, iV p2), (3, iV p3)] rfl (fun X hX C hn => ?_)
  subst hX
  unfold w_X2_endAppeal at hw
  refine go_aload_n C dX2_endAppeal_0 0 rfl ?_
  refine go_getI C (cfX2) (k := 4) (Nat.le_of_ble_eq_true rfl) tw1_203 rfl dX2_endAppeal_1 hw (fun v1 hw => ?_)
  refine go_istore C [(4, iV v1), (0, rV (some a0)), (1, iV p1), (2, iV p2), (3, iV p3)] dX2_endAppeal_4 (Nat.le_of_ble_eq_true rfl) rfl ?_
  refine go_aload_n C dX2_endAppeal_6 1 rfl ?_
  refine go_iconst C (-1) dX2_endAppeal_7 kc_im1 ?_
  refine go_c0V_v C [iV (-1)] vX2_pay tw6_228 (ci := 2) rfl (m_X2_pay (xl X) C.2.2.2.2.2.2.2.1 N hw.2) ⟨Nat.le_of_ble_eq_true rfl, Nat.le_of_ble_eq_true rfl, Nat.le_of_ble_eq_true rfl, Nat.le_of_ble_eq_true rfl⟩ ⟨rfl, rfl⟩ hw.1 dX2_endAppeal_8 rfl (Nat.le_of_ble_eq_true rfl) rfl (fun h2 hw => ?_)
  refine go_aload_n C dX2_endAppeal_11 1 rfl ?_
  refine go_iload_n C dX2_endAppeal_12 3 rfl ?_
  refine go_iload_n C dX2_endAppeal_13 4 rfl ?_
  refine go_c0V_v C [iV p2, iV p3] vX2_setResult tw6_224 (ci := 2) rfl (m_X2_setResult (xl X) C.2.2.2.2.2.2.2.1 N hw.2) ⟨Nat.le_of_ble_eq_true rfl, Nat.le_of_ble_eq_true rfl, Nat.le_of_ble_eq_true rfl, Nat.le_of_ble_eq_true rfl⟩ ⟨rfl, rfl⟩ hw.1 dX2_endAppeal_14 rfl (Nat.le_of_ble_eq_true rfl) rfl (fun h3 hw => ?_)
  refine go_aload_n C dX2_endAppeal_17 1 rfl ?_
  refine go_iconst C 1 dX2_endAppeal_18 kc_i1 ?_
  refine go_c0V_v C [iV 1] vX2_pay tw6_228 (ci := 2) rfl (m_X2_pay (xl X) C.2.2.2.2.2.2.2.1 N hw.2) ⟨Nat.le_of_ble_eq_true rfl, Nat.le_of_ble_eq_true rfl, Nat.le_of_ble_eq_true rfl, Nat.le_of_ble_eq_true rfl⟩ ⟨rfl, rfl⟩ hw.1 dX2_endAppeal_19 rfl (Nat.le_of_ble_eq_true rfl) rfl (fun h4 hw => ?_)
  refine go_aload_n C dX2_endAppeal_22 1 rfl ?_
  refine go_getI C (cfX2) (k := 4) (Nat.le_of_ble_eq_true rfl) tw1_203 rfl dX2_endAppeal_23 hw (fun v5 hw => ?_)
  refine go_iload C dX2_endAppeal_26 0 rfl ?_
  refine jn_elim (P := fun j => ∀ (h6 : Hp), j h6 → Go G X rmX2_endAppeal 5 0 0 (QN G X (QV G K) rmX2_endAppeal) h6 37 [(0, rV (some a0))] []) hw (fun h6 hw => ?_) (fun j37 hj37 hw => ?_)
  · refine go_aload_n C dX2_endAppeal_37 0 rfl ?_
    refine go_iconst C 0 dX2_endAppeal_38 kc_i0 ?_
    refine go_putZ C (cfX2) (k := 5) (Nat.le_of_ble_eq_true rfl) tw1_204 rfl (Or.inl rfl) rfl dX2_endAppeal_39 ⟨⟨rfl, rfl⟩, hw⟩ (fun h7 hw => ?_)
    exact go_vret C dX2_endAppeal_42 hw (Nat.le_of_ble_eq_true rfl) (Nat.le_of_ble_eq_true rfl)
  refine go_icmp_ne C 37 dX2_endAppeal_28 (by decide) hw (fun hw => ?_) (fun hw => ?_)
  · refine go_sub [1] rfl ?_
    exact hj37 h4 hw
  refine go_aload_n C dX2_endAppeal_31 1 rfl ?_
  refine go_iload_n C dX2_endAppeal_32 2 rfl ?_
  refine go_iconst C (-1) dX2_endAppeal_33 kc_im1 ?_
  refine go_c0V_v C [iV p1, iV (-1)] vX2_give tw6_232 (ci := 2) rfl (m_X2_give (xl X) C.2.2.2.2.2.2.2.1 N hw.2) ⟨Nat.le_of_ble_eq_true rfl, Nat.le_of_ble_eq_true rfl, Nat.le_of_ble_eq_true rfl, Nat.le_of_ble_eq_true rfl⟩ ⟨rfl, rfl⟩ hw.1 dX2_endAppeal_34 rfl (Nat.le_of_ble_eq_true rfl) rfl (fun h8 hw => ?_)
  refine go_sub [1] rfl ?_
  exact hj37 h8 hw
/-- DuelSchema$Index.<init>(ILDuelSchema$Table;I)V -/
def w_X3_init (N : Nat) (a0 : Nat) (p1 : Int32) (p2 : Option Nat) (p3 : Int32) (h0 : Hp) (K : Hp → Prop) : Prop :=
  nA h0 (.inl (0, 40, .inl (fun _ => 0))) fun a1 h2 =>
  pF h2 a0 3 3 (rV (some a1)) fun h3 =>
  pF h3 a0 3 4 (iV 0) fun h4 =>
  pF h4 a0 3 0 (iV p1) fun h5 =>
  pF h5 a0 3 1 (rV p2) fun h6 =>
  pF h6 a0 3 2 (iV p3) fun h7 =>
  K h7
abbrev rmX3_init : Room := { frames := 2, cells := 1, slots := 40, locals := 60 }
theorem vX3_init : II yX3_init cX3_init 4 3 := ⟨tw5_100, tw1_20, tw5_101, rfl, by decide +kernel⟩
set_option maxHeartbeats 4000000 in
theorem m_X3_init {G : Gp} (l : Launch) (hfl : l.stackTraces = false) (N : Nat) {a0 : Nat} {p1 : Int32} {p2 : Option Nat} {p3 : Int32} {h0 : Hp} {K : Hp → Prop} (hw : w_X3_init N a0 p1 p2 p3 h0 K) : MT G l yX3_init cX3_init 4 none rmX3_init [rV (some a0), iV p1, rV p2, iV p3] h0 (QV G K) := by
  refine go_metT l hfl _ 4 _ _ rfl (by decide +kernel) (Nat.le_of_ble_eq_true rfl) [(0, rV (some a0)), (1, iV p1), (2, rV p2), (3, iV p3)] rfl (fun X hX C hn => ?_)
  subst hX
  unfold w_X3_init at hw
  refine go_aload_n C dX3_init_0 0 rfl ?_
  refine go_objinit C tw5_102 tw1_33 tw1_34 dX3_init_1 ⟨Nat.le_of_ble_eq_true rfl, Nat.le_of_ble_eq_true rfl⟩ (Nat.le_of_ble_eq_true rfl) ?_
  refine go_aload_n C dX3_init_4 0 rfl ?_
  refine go_bipush C 40 dX3_init_5 kc_b40 ?_
  refine go_newarr0 C 40 (by decide) (by decide) (Nat.le_of_ble_eq_true rfl) tw1_76 ⟨Nat.le_of_ble_eq_true rfl, Nat.le_of_ble_eq_true rfl⟩ dX3_init_7 hw (fun a1 h2 hw => ?_)
  refine go_putRA C (cfX3) (k := 3) (Nat.le_of_ble_eq_true rfl) tw5_106 rfl (Or.inr ⟨rfl, hn, rfl⟩) rfl dX3_init_9 hw (fun h3 hw => ?_)
  refine go_aload_n C dX3_init_12 0 rfl ?_
  refine go_iconst C 0 dX3_init_13 kc_i0 ?_
  refine go_putI C (cfX3) (k := 4) (Nat.le_of_ble_eq_true rfl) tw5_107 rfl (Or.inl rfl) rfl dX3_init_14 hw (fun h4 hw => ?_)
  refine go_aload_n C dX3_init_17 0 rfl ?_
  refine go_iload_n C dX3_init_18 1 rfl ?_
  refine go_putI C (cfX3) (k := 0) (Nat.le_of_ble_eq_true rfl) tw5_103 rfl (Or.inr ⟨rfl, hn, rfl⟩) rfl dX3_init_19 hw (fun h5 hw => ?_)
  refine go_aload_n C dX3_init_22 0 rfl ?_
  refine go_aload_n C dX3_init_23 2 rfl ?_
  refine go_putR C (cfX3) (k := 1) (Nat.le_of_ble_eq_true rfl) tw5_104 rfl (Or.inr ⟨rfl, hn, rfl⟩) rfl dX3_init_24 hw (fun h6 hw => ?_)
  refine go_aload_n C dX3_init_27 0 rfl ?_
  refine go_iload_n C dX3_init_28 3 rfl ?_
  refine go_putI C (cfX3) (k := 2) (Nat.le_of_ble_eq_true rfl) tw5_105 rfl (Or.inr ⟨rfl, hn, rfl⟩) rfl dX3_init_29 hw (fun h7 hw => ?_)
  exact go_vret C dX3_init_32 hw (Nat.le_of_ble_eq_true rfl) (Nat.le_of_ble_eq_true rfl)
/-- DuelSchema$Index.number()I -/
def w_X3_number (N : Nat) (a0 : Nat) (h0 : Hp) (K : Int32 → Prop) : Prop :=
  gI h0 a0 3 0 fun v1 =>
  K v1
abbrev rmX3_number : Room := { frames := 2, cells := 0, slots := 0, locals := 60 }
theorem vX3_number : VI RX3 yX3_number cX3_number 1 (some .int) 0 := ⟨tw3_54, tw3_55, tw1_20, tw3_56, by decide +kernel⟩
set_option maxHeartbeats 4000000 in
theorem m_X3_number {G : Gp} (l : Launch) (hfl : l.stackTraces = false) (N : Nat) {a0 : Nat} {h0 : Hp} {K : Int32 → Prop} (hw : w_X3_number N a0 h0 K) : MT G l yX3_number cX3_number 1 (some .int) rmX3_number [rV (some a0)] h0 (QI G (fun r h1 => h1 = h0 ∧ K r)) := by
  refine go_metT l hfl _ 1 _ _ rfl (by decide +kernel) (Nat.le_of_ble_eq_true rfl) [(0, rV (some a0))] rfl (fun X hX C hn => ?_)
  subst hX
  unfold w_X3_number at hw
  refine go_aload_n C dX3_number_0 0 rfl ?_
  refine go_getI C (cfX3) (k := 0) (Nat.le_of_ble_eq_true rfl) tw5_103 rfl dX3_number_1 hw (fun v1 hw => ?_)
  exact go_iret C dX3_number_4 ⟨rfl, hw⟩ (Nat.le_of_ble_eq_true rfl) (Nat.le_of_ble_eq_true rfl)
/-- DuelSchema$Index.isOf(LDuelSchema$Table;)Z -/
def w_X3_isOf (N : Nat) (a0 : Nat) (p1 : Option Nat) (h0 : Hp) (K : Int32 → Prop) : Prop :=
  gA h0 a0 3 1 fun a1 =>
  br ((some a1) = p1) (
    K 1) (
    K 0)
abbrev rmX3_isOf : Room := { frames := 2, cells := 0, slots := 0, locals := 60 }
theorem vX3_isOf : VI RX3 yX3_isOf cX3_isOf 2 (some .boolean) 1 := ⟨tw5_2, tw5_3, tw1_20, tw5_4, by decide +kernel⟩
set_option maxHeartbeats 4000000 in
theorem m_X3_isOf {G : Gp} (l : Launch) (hfl : l.stackTraces = false) (N : Nat) {a0 : Nat} {p1 : Option Nat} {h0 : Hp} {K : Int32 → Prop} (hw : w_X3_isOf N a0 p1 h0 K) : MT G l yX3_isOf cX3_isOf 2 (some .boolean) rmX3_isOf [rV (some a0), rV p1] h0 (QI G (fun r h1 => h1 = h0 ∧ K r)) := by
  refine go_metT l hfl _ 2 _ _ rfl (by decide +kernel) (Nat.le_of_ble_eq_true rfl) [(0, rV (some a0)), (1, rV p1)] rfl (fun X hX C hn => ?_)
  subst hX
  unfold w_X3_isOf at hw
  refine go_aload_n C dX3_isOf_0 0 rfl ?_
  refine go_getA C (cfX3) (k := 1) (Nat.le_of_ble_eq_true rfl) tw5_104 rfl dX3_isOf_1 hw (fun a1 hw => ?_)
  refine go_aload_n C dX3_isOf_4 1 rfl ?_
  refine go_acmp_ne C 12 dX3_isOf_5 (by decide) hw (fun hw => ?_) (fun hw => ?_)
  · refine go_iconst C 0 dX3_isOf_12 kc_i0 ?_
    exact go_zret C dX3_isOf_13 ⟨rfl, ⟨rfl, hw⟩⟩ (Nat.le_of_ble_eq_true rfl) (Nat.le_of_ble_eq_true rfl)
  refine go_iconst C 1 dX3_isOf_8 kc_i1 ?_
  refine go_goto C 13 dX3_isOf_9 (by decide) ?_
  exact go_zret C dX3_isOf_13 ⟨rfl, ⟨rfl, hw⟩⟩ (Nat.le_of_ble_eq_true rfl) (Nat.le_of_ble_eq_true rfl)
/-- DuelSchema$Index.isOn(LDuelSchema$Table;I)Z -/
def w_X3_isOn (N : Nat) (a0 : Nat) (p1 : Option Nat) (p2 : Int32) (h0 : Hp) (K : Int32 → Prop) : Prop :=
  gA h0 a0 3 1 fun a1 =>
  br ((some a1) = p1) (
    gI h0 a0 3 2 fun v2 =>
    br (v2 = p2) (
      K 1) (
      K 0)) (
    K 0)
abbrev rmX3_isOn : Room := { frames := 2, cells := 0, slots := 0, locals := 60 }
theorem vX3_isOn : VI RX3 yX3_isOn cX3_isOn 3 (some .boolean) 2 := ⟨tw3_113, tw3_114, tw1_20, tw3_115, by decide +kernel⟩
set_option maxHeartbeats 4000000 in
theorem m_X3_isOn {G : Gp} (l : Launch) (hfl : l.stackTraces = false) (N : Nat) {a0 : Nat} {p1 : Option Nat} {p2 : Int32} {h0 : Hp} {K : Int32 → Prop} (hw : w_X3_isOn N a0 p1 p2 h0 K) : MT G l yX3_isOn cX3_isOn 3 (some .boolean) rmX3_isOn [rV (some a0), rV p1, iV p2] h0 (QI G (fun r h1 => h1 = h0 ∧ K r)) := by
  refine go_metT l hfl _ 3 _ _ rfl (by decide +kernel) (Nat.le_of_ble_eq_true rfl) [(0, rV (some a0)), (1, rV p1), (2, iV p2)] rfl (fun X hX C hn => ?_)
  subst hX
  unfold w_X3_isOn at hw
  refine go_aload_n C dX3_isOn_0 0 rfl ?_
  refine go_getA C (cfX3) (k := 1) (Nat.le_of_ble_eq_true rfl) tw5_104 rfl dX3_isOn_1 hw (fun a1 hw => ?_)
  refine go_aload_n C dX3_isOn_4 1 rfl ?_
  refine go_acmp_ne C 20 dX3_isOn_5 (by decide) hw (fun hw => ?_) (fun hw => ?_)
  · refine go_iconst C 0 dX3_isOn_20 kc_i0 ?_
    exact go_zret C dX3_isOn_21 ⟨rfl, ⟨rfl, hw⟩⟩ (Nat.le_of_ble_eq_true rfl) (Nat.le_of_ble_eq_true rfl)
  refine go_aload_n C dX3_isOn_8 0 rfl ?_
  refine go_getI C (cfX3) (k := 2) (Nat.le_of_ble_eq_true rfl) tw5_105 rfl dX3_isOn_9 hw (fun v2 hw => ?_)
  refine go_iload_n C dX3_isOn_12 2 rfl ?_
  refine go_icmp_ne C 20 dX3_isOn_13 (by decide) hw (fun hw => ?_) (fun hw => ?_)
  · refine go_iconst C 0 dX3_isOn_20 kc_i0 ?_
    exact go_zret C dX3_isOn_21 ⟨rfl, ⟨rfl, hw⟩⟩ (Nat.le_of_ble_eq_true rfl) (Nat.le_of_ble_eq_true rfl)
  refine go_iconst C 1 dX3_isOn_16 kc_i1 ?_
  refine go_goto C 21 dX3_isOn_17 (by decide) ?_
  exact go_zret C dX3_isOn_21 ⟨rfl, ⟨rfl, hw⟩⟩ (Nat.le_of_ble_eq_true rfl) (Nat.le_of_ble_eq_true rfl)
/-- DuelSchema$Index.size()I -/
def w_X3_size (N : Nat) (a0 : Nat) (h0 : Hp) (K : Int32 → Prop) : Prop :=
  gI h0 a0 3 4 fun v1 =>
  K v1
abbrev rmX3_size : Room := { frames := 2, cells := 0, slots := 0, locals := 60 }
theorem vX3_size : VI RX3 yX3_size cX3_size 1 (some .int) 0 := ⟨tw3_10, tw3_11, tw1_20, tw3_12, by decide +kernel⟩
set_option maxHeartbeats 4000000 in
theorem m_X3_size {G : Gp} (l : Launch) (hfl : l.stackTraces = false) (N : Nat) {a0 : Nat} {h0 : Hp} {K : Int32 → Prop} (hw : w_X3_size N a0 h0 K) : MT G l yX3_size cX3_size 1 (some .int) rmX3_size [rV (some a0)] h0 (QI G (fun r h1 => h1 = h0 ∧ K r)) := by
  refine go_metT l hfl _ 1 _ _ rfl (by decide +kernel) (Nat.le_of_ble_eq_true rfl) [(0, rV (some a0))] rfl (fun X hX C hn => ?_)
  subst hX
  unfold w_X3_size at hw
  refine go_aload_n C dX3_size_0 0 rfl ?_
  refine go_getI C (cfX3) (k := 4) (Nat.le_of_ble_eq_true rfl) tw5_107 rfl dX3_size_1 hw (fun v1 hw => ?_)
  exact go_iret C dX3_size_4 ⟨rfl, hw⟩ (Nat.le_of_ble_eq_true rfl) (Nat.le_of_ble_eq_true rfl)
/-- DuelSchema$Index.rowAt(I)I -/
def w_X3_rowAt (N : Nat) (a0 : Nat) (p1 : Int32) (h0 : Hp) (K : Int32 → Prop) : Prop :=
  br (p1 < 0) (
    K (-1)) (
    gI h0 a0 3 4 fun v1 =>
    br (v1 ≤ p1) (
      K (-1)) (
      gA h0 a0 3 3 fun a2 =>
      aN h0 a2 fun v3 =>
      br (v3 ≤ p1) (
        K (-1)) (
        gA h0 a0 3 3 fun a4 =>
        aI h0 a4 0 p1 fun v5 =>
        K v5)))
abbrev rmX3_rowAt : Room := { frames := 2, cells := 0, slots := 0, locals := 60 }
theorem vX3_rowAt : VI RX3 yX3_rowAt cX3_rowAt 2 (some .int) 1 := ⟨tw2_99, tw2_100, tw1_20, tw2_101, by decide +kernel⟩
set_option maxHeartbeats 4000000 in
theorem m_X3_rowAt {G : Gp} (l : Launch) (hfl : l.stackTraces = false) (N : Nat) {a0 : Nat} {p1 : Int32} {h0 : Hp} {K : Int32 → Prop} (hw : w_X3_rowAt N a0 p1 h0 K) : MT G l yX3_rowAt cX3_rowAt 2 (some .int) rmX3_rowAt [rV (some a0), iV p1] h0 (QI G (fun r h1 => h1 = h0 ∧ K r)) := by
  refine go_metT l hfl _ 2 _ _ rfl (by decide +kernel) (Nat.le_of_ble_eq_true rfl) [(0, rV (some a0)), (1, iV p1)] rfl (fun X hX C hn => ?_)
  subst hX
  unfold w_X3_rowAt at hw
  refine go_iload_n C dX3_rowAt_0 1 rfl ?_
  refine go_if_lt C 30 dX3_rowAt_1 (by decide) hw (fun hw => ?_) (fun hw => ?_)
  · refine go_iconst C (-1) dX3_rowAt_30 kc_im1 ?_
    exact go_iret C dX3_rowAt_31 ⟨rfl, hw⟩ (Nat.le_of_ble_eq_true rfl) (Nat.le_of_ble_eq_true rfl)
  refine go_iload_n C dX3_rowAt_4 1 rfl ?_
  refine go_aload_n C dX3_rowAt_5 0 rfl ?_
  refine go_getI C (cfX3) (k := 4) (Nat.le_of_ble_eq_true rfl) tw5_107 rfl dX3_rowAt_6 hw (fun v1 hw => ?_)
  refine go_icmp_ge C 30 dX3_rowAt_9 (by decide) hw (fun hw => ?_) (fun hw => ?_)
  · refine go_iconst C (-1) dX3_rowAt_30 kc_im1 ?_
    exact go_iret C dX3_rowAt_31 ⟨rfl, hw⟩ (Nat.le_of_ble_eq_true rfl) (Nat.le_of_ble_eq_true rfl)
  refine go_iload_n C dX3_rowAt_12 1 rfl ?_
  refine go_aload_n C dX3_rowAt_13 0 rfl ?_
  refine go_getA C (cfX3) (k := 3) (Nat.le_of_ble_eq_true rfl) tw5_106 rfl dX3_rowAt_14 hw (fun a2 hw => ?_)
  refine go_alen C dX3_rowAt_17 hw (fun v3 hw => ?_)
  refine go_icmp_ge C 30 dX3_rowAt_18 (by decide) hw (fun hw => ?_) (fun hw => ?_)
  · refine go_iconst C (-1) dX3_rowAt_30 kc_im1 ?_
    exact go_iret C dX3_rowAt_31 ⟨rfl, hw⟩ (Nat.le_of_ble_eq_true rfl) (Nat.le_of_ble_eq_true rfl)
  refine go_aload_n C dX3_rowAt_21 0 rfl ?_
  refine go_getA C (cfX3) (k := 3) (Nat.le_of_ble_eq_true rfl) tw5_106 rfl dX3_rowAt_22 hw (fun a4 hw => ?_)
  refine go_iload_n C dX3_rowAt_25 1 rfl ?_
  refine go_iaload C dX3_rowAt_26 hw (fun v5 hw => ?_)
  refine go_goto C 31 dX3_rowAt_27 (by decide) ?_
  exact go_iret C dX3_rowAt_31 ⟨rfl, hw⟩ (Nat.le_of_ble_eq_true rfl) (Nat.le_of_ble_eq_true rfl)
/-- DuelSchema$Table.cell(II)I -/
def w_X10_cell (N : Nat) (a0 : Nat) (p1 : Int32) (p2 : Int32) (h0 : Hp) (K : Int32 → Prop) : Prop :=
  br (((p1 * 3) + p2) < 0) (
    K 0) (
    gA h0 a0 10 5 fun a1 =>
    aN h0 a1 fun v2 =>
    br (v2 ≤ ((p1 * 3) + p2)) (
      K 0) (
      gA h0 a0 10 5 fun a3 =>
      aI h0 a3 0 ((p1 * 3) + p2) fun v4 =>
      K v4))
abbrev rmX10_cell : Room := { frames := 2, cells := 0, slots := 0, locals := 60 }
theorem vX10_cell : VI RX10 yX10_cell cX10_cell 4 (some .int) 2 := ⟨tw2_58, tw2_59, tw1_13, tw2_60, by decide +kernel⟩
set_option maxHeartbeats 4000000 in
theorem m_X10_cell {G : Gp} (l : Launch) (hfl : l.stackTraces = false) (N : Nat) {a0 : Nat} {p1 : Int32} {p2 : Int32} {h0 : Hp} {K : Int32 → Prop} (hw : w_X10_cell N a0 p1 p2 h0 K) : MT G l yX10_cell cX10_cell 4 (some .int) rmX10_cell [rV (some a0), iV p1, iV p2] h0 (QI G (fun r h1 => h1 = h0 ∧ K r)) := by
  refine go_metT l hfl _ 4 _ _ rfl (by decide +kernel) (Nat.le_of_ble_eq_true rfl) [(0, rV (some a0)), (1, iV p1), (2, iV p2)] rfl (fun X hX C hn => ?_)
  subst hX
  unfold w_X10_cell at hw
  refine go_iload_n C dX10_cell_0 1 rfl ?_
  refine go_iconst C 3 dX10_cell_1 kc_i3 ?_
  refine go_imul C dX10_cell_2 ?_
  refine go_iload_n C dX10_cell_3 2 rfl ?_
  refine go_iadd C dX10_cell_4 ?_
  refine go_istore_n C [(3, iV ((p1 * 3) + p2)), (0, rV (some a0)), (1, iV p1), (2, iV p2)] dX10_cell_5 (Nat.le_of_ble_eq_true rfl) rfl ?_
  refine go_iload_n C dX10_cell_6 0 rfl ?_
  refine go_if_lt C 28 dX10_cell_7 (by decide) hw (fun hw => ?_) (fun hw => ?_)
  · refine go_iconst C 0 dX10_cell_28 kc_i0 ?_
    exact go_iret C dX10_cell_29 ⟨rfl, hw⟩ (Nat.le_of_ble_eq_true rfl) (Nat.le_of_ble_eq_true rfl)
  refine go_iload_n C dX10_cell_10 0 rfl ?_
  refine go_aload_n C dX10_cell_11 1 rfl ?_
  refine go_getA C (cfX10) (k := 5) (Nat.le_of_ble_eq_true rfl) tw4_100 rfl dX10_cell_12 hw (fun a1 hw => ?_)
  refine go_alen C dX10_cell_15 hw (fun v2 hw => ?_)
  refine go_icmp_ge C 28 dX10_cell_16 (by decide) hw (fun hw => ?_) (fun hw => ?_)
  · refine go_iconst C 0 dX10_cell_28 kc_i0 ?_
    exact go_iret C dX10_cell_29 ⟨rfl, hw⟩ (Nat.le_of_ble_eq_true rfl) (Nat.le_of_ble_eq_true rfl)
  refine go_aload_n C dX10_cell_19 1 rfl ?_
  refine go_getA C (cfX10) (k := 5) (Nat.le_of_ble_eq_true rfl) tw4_100 rfl dX10_cell_20 hw (fun a3 hw => ?_)
  refine go_iload_n C dX10_cell_23 0 rfl ?_
  refine go_iaload C dX10_cell_24 hw (fun v4 hw => ?_)
  refine go_goto C 29 dX10_cell_25 (by decide) ?_
  exact go_iret C dX10_cell_29 ⟨rfl, hw⟩ (Nat.le_of_ble_eq_true rfl) (Nat.le_of_ble_eq_true rfl)
/-- DuelSchema$Index.valueAt(I)I -/
def w_X3_valueAt (N : Nat) (a0 : Nat) (p1 : Int32) (h0 : Hp) (K : Int32 → Prop) : Prop :=
  cv h0 a0 3 <| w_X3_rowAt N a0 p1 h0 fun v1 =>
  br (v1 = (-1)) (
    K (-1)) (
    gA h0 a0 3 1 fun a2 =>
    gI h0 a0 3 2 fun v3 =>
    cv h0 a2 10 <| w_X10_cell N a2 v1 v3 h0 fun v4 =>
    K v4)
abbrev rmX3_valueAt : Room := { frames := 3, cells := 0, slots := 0, locals := 83 }
theorem vX3_valueAt : VI RX3 yX3_valueAt cX3_valueAt 3 (some .int) 1 := ⟨tw2_95, tw2_96, tw1_20, tw2_97, by decide +kernel⟩
set_option maxHeartbeats 4000000 in
theorem m_X3_valueAt {G : Gp} (l : Launch) (hfl : l.stackTraces = false) (N : Nat) {a0 : Nat} {p1 : Int32} {h0 : Hp} {K : Int32 → Prop} (hw : w_X3_valueAt N a0 p1 h0 K) : MT G l yX3_valueAt cX3_valueAt 3 (some .int) rmX3_valueAt [rV (some a0), iV p1] h0 (QI G (fun r h1 => h1 = h0 ∧ K r)) := by
  refine go_metT l hfl _ 3 _ _ rfl (by decide +kernel) (Nat.le_of_ble_eq_true rfl) [(0, rV (some a0)), (1, iV p1)] rfl (fun X hX C hn => ?_)
  subst hX
  unfold w_X3_valueAt at hw
  refine go_aload_n C dX3_valueAt_0 0 rfl ?_
  refine go_iload_n C dX3_valueAt_1 1 rfl ?_
  refine go_pV_i C [iV p1] vX3_rowAt tw2_98 (ci := 3) rfl (m_X3_rowAt (xl X) C.2.2.2.2.2.2.2.1 N hw.2) ⟨Nat.le_of_ble_eq_true rfl, Nat.le_of_ble_eq_true rfl, Nat.le_of_ble_eq_true rfl, Nat.le_of_ble_eq_true rfl⟩ ⟨rfl, rfl⟩ hw.1 dX3_valueAt_2 rfl (Nat.le_of_ble_eq_true rfl) rfl (fun v1 hw => ?_)
  refine go_istore_n C [(2, iV v1), (0, rV (some a0)), (1, iV p1)] dX3_valueAt_5 (Nat.le_of_ble_eq_true rfl) rfl ?_
  refine go_iload_n C dX3_valueAt_6 0 rfl ?_
  refine go_iconst C (-1) dX3_valueAt_7 kc_im1 ?_
  refine go_icmp_ne C 15 dX3_valueAt_8 (by decide) hw (fun hw => ?_) (fun hw => ?_)
  · refine go_aload_n C dX3_valueAt_15 1 rfl ?_
    refine go_getA C (cfX3) (k := 1) (Nat.le_of_ble_eq_true rfl) tw5_104 rfl dX3_valueAt_16 hw (fun a2 hw => ?_)
    refine go_iload_n C dX3_valueAt_19 0 rfl ?_
    refine go_aload_n C dX3_valueAt_20 1 rfl ?_
    refine go_getI C (cfX3) (k := 2) (Nat.le_of_ble_eq_true rfl) tw5_105 rfl dX3_valueAt_21 hw (fun v3 hw => ?_)
    refine go_pV_i C [iV v1, iV v3] vX10_cell tw2_102 (ci := 10) rfl (m_X10_cell (xl X) C.2.2.2.2.2.2.2.1 N hw.2) ⟨Nat.le_of_ble_eq_true rfl, Nat.le_of_ble_eq_true rfl, Nat.le_of_ble_eq_true rfl, Nat.le_of_ble_eq_true rfl⟩ ⟨rfl, rfl⟩ hw.1 dX3_valueAt_24 rfl (Nat.le_of_ble_eq_true rfl) rfl (fun v4 hw => ?_)
    exact go_iret C dX3_valueAt_27 ⟨rfl, hw⟩ (Nat.le_of_ble_eq_true rfl) (Nat.le_of_ble_eq_true rfl)
  refine go_iconst C (-1) dX3_valueAt_11 kc_im1 ?_
  refine go_goto C 27 dX3_valueAt_12 (by decide) ?_
  exact go_iret C dX3_valueAt_27 ⟨rfl, hw⟩ (Nat.le_of_ble_eq_true rfl) (Nat.le_of_ble_eq_true rfl)
/-- DuelSchema$Index.firstFrom(I)I -/
def w_X3_firstFrom (N : Nat) (a0 : Nat) (p1 : Int32) (h0 : Hp) (K : Int32 → Prop) : Prop :=
  fx1 (fun (w2 : Int32 → Prop) (x1 : Int32) =>
    gI h0 a0 3 4 fun v2 =>
    br (v2 ≤ x1) (
      K x1) (
      cv h0 a0 3 <| w_X3_valueAt N a0 x1 h0 fun v3 =>
      br (p1 ≤ v3) (
        K x1) (
        w2 (x1 + 1)))) N 0
abbrev rmX3_firstFrom : Room := { frames := 4, cells := 0, slots := 0, locals := 105 }
theorem vX3_firstFrom : VI RX3 yX3_firstFrom cX3_firstFrom 3 (some .int) 1 := ⟨tw3_46, tw3_47, tw1_20, tw3_48, by decide +kernel⟩
set_option maxHeartbeats 4000000 in
theorem m_X3_firstFrom {G : Gp} (l : Launch) (hfl : l.stackTraces = false) (N : Nat) {a0 : Nat} {p1 : Int32} {h0 : Hp} {K : Int32 → Prop} (hw : w_X3_firstFrom N a0 p1 h0 K) : MT G l yX3_firstFrom cX3_firstFrom 3 (some .int) rmX3_firstFrom [rV (some a0), iV p1] h0 (QI G (fun r h1 => h1 = h0 ∧ K r)) := by
  refine go_metT l hfl _ 3 _ _ rfl (by decide +kernel) (Nat.le_of_ble_eq_true rfl) [(0, rV (some a0)), (1, iV p1)] rfl (fun X hX C hn => ?_)
  subst hX
  unfold w_X3_firstFrom at hw
  refine go_iconst C 0 dX3_firstFrom_0 kc_i0 ?_
  refine go_istore_n C [(2, iV 0), (0, rV (some a0)), (1, iV p1)] dX3_firstFrom_1 (Nat.le_of_ble_eq_true rfl) rfl ?_
  refine go_sub [1, 2, 0] rfl ?_
  refine fx1_elim (P := fun x1 => Go G X rmX3_firstFrom 3 0 0 (QN G X (QI G (fun r h1 => h1 = h0 ∧ K r)) rmX3_firstFrom) h0 2 [(0, rV (some a0)), (1, iV p1), (2, iV x1)] []) (fun w2 hj2 x1 hw => ?_) N _ hw
  refine go_iload_n C dX3_firstFrom_2 2 rfl ?_
  refine go_aload_n C dX3_firstFrom_3 0 rfl ?_
  refine go_getI C (cfX3) (k := 4) (Nat.le_of_ble_eq_true rfl) tw5_107 rfl dX3_firstFrom_4 hw (fun v2 hw => ?_)
  refine go_icmp_ge C 25 dX3_firstFrom_7 (by decide) hw (fun hw => ?_) (fun hw => ?_)
  · refine go_iload_n C dX3_firstFrom_25 2 rfl ?_
    exact go_iret C dX3_firstFrom_26 ⟨rfl, hw⟩ (Nat.le_of_ble_eq_true rfl) (Nat.le_of_ble_eq_true rfl)
  refine go_aload_n C dX3_firstFrom_10 0 rfl ?_
  refine go_iload_n C dX3_firstFrom_11 2 rfl ?_
  refine go_pV_i C [iV x1] vX3_valueAt tw2_94 (ci := 3) rfl (m_X3_valueAt (xl X) C.2.2.2.2.2.2.2.1 N hw.2) ⟨Nat.le_of_ble_eq_true rfl, Nat.le_of_ble_eq_true rfl, Nat.le_of_ble_eq_true rfl, Nat.le_of_ble_eq_true rfl⟩ ⟨rfl, rfl⟩ hw.1 dX3_firstFrom_12 rfl (Nat.le_of_ble_eq_true rfl) rfl (fun v3 hw => ?_)
  refine go_iload_n C dX3_firstFrom_15 1 rfl ?_
  refine go_icmp_ge C 25 dX3_firstFrom_16 (by decide) hw (fun hw => ?_) (fun hw => ?_)
  · refine go_iload_n C dX3_firstFrom_25 2 rfl ?_
    exact go_iret C dX3_firstFrom_26 ⟨rfl, hw⟩ (Nat.le_of_ble_eq_true rfl) (Nat.le_of_ble_eq_true rfl)
  refine go_iinc C (x1 + 1) [(2, iV (x1 + 1)), (0, rV (some a0)), (1, iV p1)] dX3_firstFrom_19 2 rfl (by rw [kc_i1]) (Nat.le_of_ble_eq_true rfl) rfl ?_
  refine go_goto C 2 dX3_firstFrom_22 (by decide) ?_
  refine go_sub [1, 2, 0] rfl ?_
  exact hj2 (x1 + 1) hw
/-- DuelSchema$Index.addRow(I)V -/
def w_X3_addRow (N : Nat) (a0 : Nat) (p1 : Int32) (h0 : Hp) (K : Hp → Prop) : Prop :=
  gA h0 a0 3 1 fun a1 =>
  gI h0 a0 3 2 fun v2 =>
  cv h0 a1 10 <| w_X10_cell N a1 p1 v2 h0 fun v3 =>
  cv h0 a0 3 <| w_X3_firstFrom N a0 (v3 + 1) h0 fun v4 =>
  gI h0 a0 3 4 fun v5 =>
  br (v5 < 0) (
    K h0) (
    gI h0 a0 3 4 fun v6 =>
    gA h0 a0 3 3 fun a7 =>
    aN h0 a7 fun v8 =>
    br (v6 < v8) (
      gI h0 a0 3 4 fun v9 =>
      fx2 (fun (w44 : Int32 → Hp → Prop) (x11 : Int32) (h10 : Hp) =>
        jn (
          br (v4 < 0) (
            K h10) (
            gA h10 a0 3 3 fun a12 =>
            aN h10 a12 fun v13 =>
            br (v13 ≤ v4) (
              K h10) (
              gA h10 a0 3 3 fun a14 =>
              sI h10 a14 0 v4 p1 fun h15 =>
              gI h15 a0 3 4 fun v16 =>
              pF h15 a0 3 4 (iV (v16 + 1)) fun h17 =>
              K h17))) (fun j73 =>
        br (x11 ≤ v4) (
          j73 ) (
          br (x11 ≤ 0) (
            j73 ) (
            gA h10 a0 3 3 fun a18 =>
            gA h10 a0 3 3 fun a19 =>
            aI h10 a19 0 (x11 - 1) fun v20 =>
            sI h10 a18 0 x11 v20 fun h21 =>
            w44 (x11 + (-1)) h21)))) N v9 h0) (
      K h0))
abbrev rmX3_addRow : Room := { frames := 5, cells := 0, slots := 0, locals := 127 }
theorem vX3_addRow : VI RX3 yX3_addRow cX3_addRow 4 none 1 := ⟨tw5_6, tw5_7, tw1_20, tw5_8, by decide +kernel⟩
set_option maxHeartbeats 4000000 in
theorem m_X3_addRow {G : Gp} (l : Launch) (hfl : l.stackTraces = false) (N : Nat) {a0 : Nat} {p1 : Int32} {h0 : Hp} {K : Hp → Prop} (hw : w_X3_addRow N a0 p1 h0 K) : MT G l yX3_addRow cX3_addRow 4 none rmX3_addRow [rV (some a0), iV p1] h0 (QV G K) := by
  refine go_metT l hfl _ 4 _ _ rfl (by decide +kernel) (Nat.le_of_ble_eq_true rfl) [(0, rV (some a0)), (1, iV p1)] rfl (fun X hX C hn => ?_)
  subst hX
  unfold w_X3_addRow at hw
  refine go_aload_n C dX3_addRow_0 0 rfl ?_
  refine go_aload_n C dX3_addRow_1 0 rfl ?_
  refine go_getA C (cfX3) (k := 1) (Nat.le_of_ble_eq_true rfl) tw5_104 rfl dX3_addRow_2 hw (fun a1 hw => ?_)
  refine go_iload_n C dX3_addRow_5 1 rfl ?_
  refine go_aload_n C dX3_addRow_6 0 rfl ?_
  refine go_getI C (cfX3) (k := 2) (Nat.le_of_ble_eq_true rfl) tw5_105 rfl dX3_addRow_7 hw (fun v2 hw => ?_)
  refine go_pV_i C [iV p1, iV v2] vX10_cell tw2_102 (ci := 10) rfl (m_X10_cell (xl X) C.2.2.2.2.2.2.2.1 N hw.2) ⟨Nat.le_of_ble_eq_true rfl, Nat.le_of_ble_eq_true rfl, Nat.le_of_ble_eq_true rfl, Nat.le_of_ble_eq_true rfl⟩ ⟨rfl, rfl⟩ hw.1 dX3_addRow_10 rfl (Nat.le_of_ble_eq_true rfl) rfl (fun v3 hw => ?_)
  refine go_iconst C 1 dX3_addRow_13 kc_i1 ?_
  refine go_iadd C dX3_addRow_14 ?_
  refine go_pV_i C [iV (v3 + 1)] vX3_firstFrom tw5_9 (ci := 3) rfl (m_X3_firstFrom (xl X) C.2.2.2.2.2.2.2.1 N hw.2) ⟨Nat.le_of_ble_eq_true rfl, Nat.le_of_ble_eq_true rfl, Nat.le_of_ble_eq_true rfl, Nat.le_of_ble_eq_true rfl⟩ ⟨rfl, rfl⟩ hw.1 dX3_addRow_15 rfl (Nat.le_of_ble_eq_true rfl) rfl (fun v4 hw => ?_)
  refine go_istore_n C [(2, iV v4), (0, rV (some a0)), (1, iV p1)] dX3_addRow_18 (Nat.le_of_ble_eq_true rfl) rfl ?_
  refine go_aload_n C dX3_addRow_19 1 rfl ?_
  refine go_getI C (cfX3) (k := 4) (Nat.le_of_ble_eq_true rfl) tw5_107 rfl dX3_addRow_20 hw (fun v5 hw => ?_)
  refine go_if_lt C 38 dX3_addRow_23 (by decide) hw (fun hw => ?_) (fun hw => ?_)
  · exact go_vret C dX3_addRow_38 hw (Nat.le_of_ble_eq_true rfl) (Nat.le_of_ble_eq_true rfl)
  refine go_aload_n C dX3_addRow_26 1 rfl ?_
  refine go_getI C (cfX3) (k := 4) (Nat.le_of_ble_eq_true rfl) tw5_107 rfl dX3_addRow_27 hw (fun v6 hw => ?_)
  refine go_aload_n C dX3_addRow_30 1 rfl ?_
  refine go_getA C (cfX3) (k := 3) (Nat.le_of_ble_eq_true rfl) tw5_106 rfl dX3_addRow_31 hw (fun a7 hw => ?_)
  refine go_alen C dX3_addRow_34 hw (fun v8 hw => ?_)
  refine go_icmp_lt C 39 dX3_addRow_35 (by decide) hw (fun hw => ?_) (fun hw => ?_)
  · refine go_aload_n C dX3_addRow_39 1 rfl ?_
    refine go_getI C (cfX3) (k := 4) (Nat.le_of_ble_eq_true rfl) tw5_107 rfl dX3_addRow_40 hw (fun v9 hw => ?_)
    refine go_istore_n C [(3, iV v9), (2, iV v4), (0, rV (some a0)), (1, iV p1)] dX3_addRow_43 (Nat.le_of_ble_eq_true rfl) rfl ?_
    refine go_sub [2, 3, 1, 0] rfl ?_
    refine fx2_elim (P := fun x11 h10 => Go G X rmX3_addRow 4 0 0 (QN G X (QV G K) rmX3_addRow) h10 44 [(0, rV (some a0)), (1, iV p1), (2, iV v4), (3, iV x11)] []) (fun w44 hj44 x11 h10 hw => ?_) N _ _ hw
    refine go_iload_n C dX3_addRow_44 3 rfl ?_
    refine go_iload_n C dX3_addRow_45 2 rfl ?_
    refine jn_elim (P := fun j => j  → Go G X rmX3_addRow 4 0 0 (QN G X (QV G K) rmX3_addRow) h10 73 [(0, rV (some a0)), (1, iV p1), (2, iV v4)] []) hw (fun  hw => ?_) (fun j73 hj73 hw => ?_)
    · refine go_iload_n C dX3_addRow_73 2 rfl ?_
      refine go_if_lt C 103 dX3_addRow_74 (by decide) hw (fun hw => ?_) (fun hw => ?_)
      · exact go_vret C dX3_addRow_103 hw (Nat.le_of_ble_eq_true rfl) (Nat.le_of_ble_eq_true rfl)
      refine go_iload_n C dX3_addRow_77 2 rfl ?_
      refine go_aload_n C dX3_addRow_78 0 rfl ?_
      refine go_getA C (cfX3) (k := 3) (Nat.le_of_ble_eq_true rfl) tw5_106 rfl dX3_addRow_79 hw (fun a12 hw => ?_)
      refine go_alen C dX3_addRow_82 hw (fun v13 hw => ?_)
      refine go_icmp_ge C 103 dX3_addRow_83 (by decide) hw (fun hw => ?_) (fun hw => ?_)
      · exact go_vret C dX3_addRow_103 hw (Nat.le_of_ble_eq_true rfl) (Nat.le_of_ble_eq_true rfl)
      refine go_aload_n C dX3_addRow_86 0 rfl ?_
      refine go_getA C (cfX3) (k := 3) (Nat.le_of_ble_eq_true rfl) tw5_106 rfl dX3_addRow_87 hw (fun a14 hw => ?_)
      refine go_iload_n C dX3_addRow_90 2 rfl ?_
      refine go_iload_n C dX3_addRow_91 1 rfl ?_
      refine go_iastore C dX3_addRow_92 hw (fun h15 hw => ?_)
      refine go_aload_n C dX3_addRow_93 0 rfl ?_
      refine go_dup C _ dX3_addRow_94 rfl ?_
      refine go_getI C (cfX3) (k := 4) (Nat.le_of_ble_eq_true rfl) tw5_107 rfl dX3_addRow_95 hw (fun v16 hw => ?_)
      refine go_iconst C 1 dX3_addRow_98 kc_i1 ?_
      refine go_iadd C dX3_addRow_99 ?_
      refine go_putI C (cfX3) (k := 4) (Nat.le_of_ble_eq_true rfl) tw5_107 rfl (Or.inl rfl) rfl dX3_addRow_100 hw (fun h17 hw => ?_)
      exact go_vret C dX3_addRow_103 hw (Nat.le_of_ble_eq_true rfl) (Nat.le_of_ble_eq_true rfl)
    refine go_icmp_le C 73 dX3_addRow_46 (by decide) hw (fun hw => ?_) (fun hw => ?_)
    · refine go_sub [0, 1, 2] rfl ?_
      exact hj73  hw
    refine go_iload_n C dX3_addRow_49 3 rfl ?_
    refine go_if_le C 73 dX3_addRow_50 (by decide) hw (fun hw => ?_) (fun hw => ?_)
    · refine go_sub [0, 1, 2] rfl ?_
      exact hj73  hw
    refine go_aload_n C dX3_addRow_53 0 rfl ?_
    refine go_getA C (cfX3) (k := 3) (Nat.le_of_ble_eq_true rfl) tw5_106 rfl dX3_addRow_54 hw (fun a18 hw => ?_)
    refine go_iload_n C dX3_addRow_57 3 rfl ?_
    refine go_aload_n C dX3_addRow_58 0 rfl ?_
    refine go_getA C (cfX3) (k := 3) (Nat.le_of_ble_eq_true rfl) tw5_106 rfl dX3_addRow_59 hw (fun a19 hw => ?_)
    refine go_iload_n C dX3_addRow_62 3 rfl ?_
    refine go_iconst C 1 dX3_addRow_63 kc_i1 ?_
    refine go_isub C dX3_addRow_64 ?_
    refine go_iaload C dX3_addRow_65 hw (fun v20 hw => ?_)
    refine go_iastore C dX3_addRow_66 hw (fun h21 hw => ?_)
    refine go_iinc C (x11 + (-1)) [(3, iV (x11 + (-1))), (0, rV (some a0)), (1, iV p1), (2, iV v4)] dX3_addRow_67 3 rfl (by rw [kc_im1]) (Nat.le_of_ble_eq_true rfl) rfl ?_
    refine go_goto C 44 dX3_addRow_70 (by decide) ?_
    refine go_sub [1, 2, 3, 0] rfl ?_
    exact hj44 (x11 + (-1)) h21 hw
  exact go_vret C dX3_addRow_38 hw (Nat.le_of_ble_eq_true rfl) (Nat.le_of_ble_eq_true rfl)
/-- DuelSchema$Index.dropRow(I)V -/
def w_X3_dropRow (N : Nat) (a0 : Nat) (p1 : Int32) (h0 : Hp) (K : Hp → Prop) : Prop :=
  fx3 (fun (w4 : Int32 → Int32 → Hp → Prop) (x2 : Int32) (x3 : Int32) (h1 : Hp) =>
    gI h1 a0 3 4 fun v4 =>
    jn (
      pF h1 a0 3 4 (iV x2) fun h5 =>
      K h5) (fun j61 =>
    br (v4 ≤ x3) (
      j61 ) (
      gA h1 a0 3 3 fun a6 =>
      aN h1 a6 fun v7 =>
      br (v7 ≤ x3) (
        j61 ) (
        gA h1 a0 3 3 fun a8 =>
        aI h1 a8 0 x3 fun v9 =>
        jn (fun (x11 : Int32) (h10 : Hp) => 
          w4 x11 (x3 + 1) h10) (fun j55 =>
        br (v9 = p1) (
          j55 x2 h1) (
          gA h1 a0 3 3 fun a12 =>
          aN h1 a12 fun v13 =>
          br (v13 ≤ x2) (
            j55 x2 h1) (
            gA h1 a0 3 3 fun a14 =>
            gA h1 a0 3 3 fun a15 =>
            aI h1 a15 0 x3 fun v16 =>
            sI h1 a14 0 x2 v16 fun h17 =>
            j55 (x2 + 1) h17))))))) N 0 0 h0
abbrev rmX3_dropRow : Room := { frames := 2, cells := 0, slots := 0, locals := 60 }
theorem vX3_dropRow : VI RX3 yX3_dropRow cX3_dropRow 4 none 1 := ⟨tw5_58, tw5_59, tw1_20, tw5_60, by decide +kernel⟩
set_option maxHeartbeats 4000000 in
theorem m_X3_dropRow {G : Gp} (l : Launch) (hfl : l.stackTraces = false) (N : Nat) {a0 : Nat} {p1 : Int32} {h0 : Hp} {K : Hp → Prop} (hw : w_X3_dropRow N a0 p1 h0 K) : MT G l yX3_dropRow cX3_dropRow 4 none rmX3_dropRow [rV (some a0), iV p1] h0 (QV G K) := by
  refine go_metT l hfl _ 4 _ _ rfl (by decide +kernel) (Nat.le_of_ble_eq_true rfl) [(0, rV (some a0)), (1, iV p1)] rfl (fun X hX C hn => ?_)
  subst hX
  unfold w_X3_dropRow at hw
  refine go_iconst C 0 dX3_dropRow_0 kc_i0 ?_
  refine go_istore_n C [(2, iV 0), (0, rV (some a0)), (1, iV p1)] dX3_dropRow_1 (Nat.le_of_ble_eq_true rfl) rfl ?_
  refine go_iconst C 0 dX3_dropRow_2 kc_i0 ?_
  refine go_istore_n C [(3, iV 0), (2, iV 0), (0, rV (some a0)), (1, iV p1)] dX3_dropRow_3 (Nat.le_of_ble_eq_true rfl) rfl ?_
  refine go_sub [2, 3, 1, 0] rfl ?_
  refine fx3_elim (P := fun x2 x3 h1 => Go G X rmX3_dropRow 4 0 0 (QN G X (QV G K) rmX3_dropRow) h1 4 [(0, rV (some a0)), (1, iV p1), (2, iV x2), (3, iV x3)] []) (fun w4 hj4 x2 x3 h1 hw => ?_) N _ _ _ hw
  refine go_iload_n C dX3_dropRow_4 3 rfl ?_
  refine go_aload_n C dX3_dropRow_5 0 rfl ?_
  refine go_getI C (cfX3) (k := 4) (Nat.le_of_ble_eq_true rfl) tw5_107 rfl dX3_dropRow_6 hw (fun v4 hw => ?_)
  refine jn_elim (P := fun j => j  → Go G X rmX3_dropRow 4 0 0 (QN G X (QV G K) rmX3_dropRow) h1 61 [(0, rV (some a0)), (2, iV x2)] []) hw (fun  hw => ?_) (fun j61 hj61 hw => ?_)
  · refine go_aload_n C dX3_dropRow_61 0 rfl ?_
    refine go_iload_n C dX3_dropRow_62 1 rfl ?_
    refine go_putI C (cfX3) (k := 4) (Nat.le_of_ble_eq_true rfl) tw5_107 rfl (Or.inl rfl) rfl dX3_dropRow_63 hw (fun h5 hw => ?_)
    exact go_vret C dX3_dropRow_66 hw (Nat.le_of_ble_eq_true rfl) (Nat.le_of_ble_eq_true rfl)
  refine go_icmp_ge C 61 dX3_dropRow_9 (by decide) hw (fun hw => ?_) (fun hw => ?_)
  · refine go_sub [0, 2] rfl ?_
    exact hj61  hw
  refine go_iload_n C dX3_dropRow_12 3 rfl ?_
  refine go_aload_n C dX3_dropRow_13 0 rfl ?_
  refine go_getA C (cfX3) (k := 3) (Nat.le_of_ble_eq_true rfl) tw5_106 rfl dX3_dropRow_14 hw (fun a6 hw => ?_)
  refine go_alen C dX3_dropRow_17 hw (fun v7 hw => ?_)
  refine go_icmp_ge C 61 dX3_dropRow_18 (by decide) hw (fun hw => ?_) (fun hw => ?_)
  · refine go_sub [0, 2] rfl ?_
    exact hj61  hw
  refine go_aload_n C dX3_dropRow_21 0 rfl ?_
  refine go_getA C (cfX3) (k := 3) (Nat.le_of_ble_eq_true rfl) tw5_106 rfl dX3_dropRow_22 hw (fun a8 hw => ?_)
  refine go_iload_n C dX3_dropRow_25 3 rfl ?_
  refine go_iaload C dX3_dropRow_26 hw (fun v9 hw => ?_)
  refine go_iload_n C dX3_dropRow_27 1 rfl ?_
  refine jn_elim (P := fun j => ∀ (x11 : Int32) (h10 : Hp), j x11 h10 → Go G X rmX3_dropRow 4 0 0 (QN G X (QV G K) rmX3_dropRow) h10 55 [(0, rV (some a0)), (1, iV p1), (2, iV x11), (3, iV x3)] []) hw (fun x11 h10 hw => ?_) (fun j55 hj55 hw => ?_)
  · refine go_iinc C (x3 + 1) [(3, iV (x3 + 1)), (0, rV (some a0)), (1, iV p1), (2, iV x11)] dX3_dropRow_55 3 rfl (by rw [kc_i1]) (Nat.le_of_ble_eq_true rfl) rfl ?_
    refine go_goto C 4 dX3_dropRow_58 (by decide) ?_
    refine go_sub [1, 2, 3, 0] rfl ?_
    exact hj4 x11 (x3 + 1) h10 hw
  refine go_icmp_eq C 55 dX3_dropRow_28 (by decide) hw (fun hw => ?_) (fun hw => ?_)
  · exact hj55 x2 h1 hw
  refine go_iload_n C dX3_dropRow_31 2 rfl ?_
  refine go_aload_n C dX3_dropRow_32 0 rfl ?_
  refine go_getA C (cfX3) (k := 3) (Nat.le_of_ble_eq_true rfl) tw5_106 rfl dX3_dropRow_33 hw (fun a12 hw => ?_)
  refine go_alen C dX3_dropRow_36 hw (fun v13 hw => ?_)
  refine go_icmp_ge C 55 dX3_dropRow_37 (by decide) hw (fun hw => ?_) (fun hw => ?_)
  · exact hj55 x2 h1 hw
  refine go_aload_n C dX3_dropRow_40 0 rfl ?_
  refine go_getA C (cfX3) (k := 3) (Nat.le_of_ble_eq_true rfl) tw5_106 rfl dX3_dropRow_41 hw (fun a14 hw => ?_)
  refine go_iload_n C dX3_dropRow_44 2 rfl ?_
  refine go_aload_n C dX3_dropRow_45 0 rfl ?_
  refine go_getA C (cfX3) (k := 3) (Nat.le_of_ble_eq_true rfl) tw5_106 rfl dX3_dropRow_46 hw (fun a15 hw => ?_)
  refine go_iload_n C dX3_dropRow_49 3 rfl ?_
  refine go_iaload C dX3_dropRow_50 hw (fun v16 hw => ?_)
  refine go_iastore C dX3_dropRow_51 hw (fun h17 hw => ?_)
  refine go_iinc C (x2 + 1) [(2, iV (x2 + 1)), (0, rV (some a0)), (1, iV p1), (3, iV x3)] dX3_dropRow_52 2 rfl (by rw [kc_i1]) (Nat.le_of_ble_eq_true rfl) rfl ?_
  refine go_sub [1, 2, 0, 3] rfl ?_
  exact hj55 (x2 + 1) h17 hw
/-- DuelSchema$Table.hasRow(I)Z -/
def w_X10_hasRow (N : Nat) (a0 : Nat) (p1 : Int32) (h0 : Hp) (K : Int32 → Prop) : Prop :=
  br (p1 < 0) (
    K 0) (
    gA h0 a0 10 4 fun a1 =>
    aN h0 a1 fun v2 =>
    br (v2 ≤ p1) (
      K 0) (
      gA h0 a0 10 4 fun a3 =>
      aI h0 a3 1 p1 fun v4 =>
      br (v4 = 0) (
        K 0) (
        K 1)))
abbrev rmX10_hasRow : Room := { frames := 2, cells := 0, slots := 0, locals := 60 }
theorem vX10_hasRow : VI RX10 yX10_hasRow cX10_hasRow 2 (some .boolean) 1 := ⟨tw2_104, tw2_105, tw1_13, tw2_106, by decide +kernel⟩
set_option maxHeartbeats 4000000 in
theorem m_X10_hasRow {G : Gp} (l : Launch) (hfl : l.stackTraces = false) (N : Nat) {a0 : Nat} {p1 : Int32} {h0 : Hp} {K : Int32 → Prop} (hw : w_X10_hasRow N a0 p1 h0 K) : MT G l yX10_hasRow cX10_hasRow 2 (some .boolean) rmX10_hasRow [rV (some a0), iV p1] h0 (QI G (fun r h1 => h1 = h0 ∧ K r)) := by
  refine go_metT l hfl _ 2 _ _ rfl (by decide +kernel) (Nat.le_of_ble_eq_true rfl) [(0, rV (some a0)), (1, iV p1)] rfl (fun X hX C hn => ?_)
  subst hX
  unfold w_X10_hasRow at hw
  refine go_iload_n C dX10_hasRow_0 1 rfl ?_
  refine go_if_lt C 26 dX10_hasRow_1 (by decide) hw (fun hw => ?_) (fun hw => ?_)
  · refine go_iconst C 0 dX10_hasRow_26 kc_i0 ?_
    exact go_zret C dX10_hasRow_27 ⟨rfl, ⟨rfl, hw⟩⟩ (Nat.le_of_ble_eq_true rfl) (Nat.le_of_ble_eq_true rfl)
  refine go_iload_n C dX10_hasRow_4 1 rfl ?_
  refine go_aload_n C dX10_hasRow_5 0 rfl ?_
  refine go_getA C (cfX10) (k := 4) (Nat.le_of_ble_eq_true rfl) tw4_99 rfl dX10_hasRow_6 hw (fun a1 hw => ?_)
  refine go_alen C dX10_hasRow_9 hw (fun v2 hw => ?_)
  refine go_icmp_ge C 26 dX10_hasRow_10 (by decide) hw (fun hw => ?_) (fun hw => ?_)
  · refine go_iconst C 0 dX10_hasRow_26 kc_i0 ?_
    exact go_zret C dX10_hasRow_27 ⟨rfl, ⟨rfl, hw⟩⟩ (Nat.le_of_ble_eq_true rfl) (Nat.le_of_ble_eq_true rfl)
  refine go_aload_n C dX10_hasRow_13 0 rfl ?_
  refine go_getA C (cfX10) (k := 4) (Nat.le_of_ble_eq_true rfl) tw4_99 rfl dX10_hasRow_14 hw (fun a3 hw => ?_)
  refine go_iload_n C dX10_hasRow_17 1 rfl ?_
  refine go_zaload C dX10_hasRow_18 hw (fun v4 hw => ?_)
  refine go_if_eq C 26 dX10_hasRow_19 (by decide) hw (fun hw => ?_) (fun hw => ?_)
  · refine go_iconst C 0 dX10_hasRow_26 kc_i0 ?_
    exact go_zret C dX10_hasRow_27 ⟨rfl, ⟨rfl, hw⟩⟩ (Nat.le_of_ble_eq_true rfl) (Nat.le_of_ble_eq_true rfl)
  refine go_iconst C 1 dX10_hasRow_22 kc_i1 ?_
  refine go_goto C 27 dX10_hasRow_23 (by decide) ?_
  exact go_zret C dX10_hasRow_27 ⟨rfl, ⟨rfl, hw⟩⟩ (Nat.le_of_ble_eq_true rfl) (Nat.le_of_ble_eq_true rfl)
/-- DuelSchema$Table.rowCount()I -/
def w_X10_rowCount (N : Nat) (a0 : Nat) (h0 : Hp) (K : Int32 → Prop) : Prop :=
  gI h0 a0 10 3 fun v1 =>
  K v1
abbrev rmX10_rowCount : Room := { frames := 2, cells := 0, slots := 0, locals := 60 }
theorem vX10_rowCount : VI RX10 yX10_rowCount cX10_rowCount 1 (some .int) 0 := ⟨tw2_91, tw2_92, tw1_13, tw2_93, by decide +kernel⟩
set_option maxHeartbeats 4000000 in
theorem m_X10_rowCount {G : Gp} (l : Launch) (hfl : l.stackTraces = false) (N : Nat) {a0 : Nat} {h0 : Hp} {K : Int32 → Prop} (hw : w_X10_rowCount N a0 h0 K) : MT G l yX10_rowCount cX10_rowCount 1 (some .int) rmX10_rowCount [rV (some a0)] h0 (QI G (fun r h1 => h1 = h0 ∧ K r)) := by
  refine go_metT l hfl _ 1 _ _ rfl (by decide +kernel) (Nat.le_of_ble_eq_true rfl) [(0, rV (some a0))] rfl (fun X hX C hn => ?_)
  subst hX
  unfold w_X10_rowCount at hw
  refine go_aload_n C dX10_rowCount_0 0 rfl ?_
  refine go_getI C (cfX10) (k := 3) (Nat.le_of_ble_eq_true rfl) tw4_98 rfl dX10_rowCount_1 hw (fun v1 hw => ?_)
  exact go_iret C dX10_rowCount_4 ⟨rfl, hw⟩ (Nat.le_of_ble_eq_true rfl) (Nat.le_of_ble_eq_true rfl)
/-- DuelSchema$Index.rises()Z -/
def w_X3_rises (N : Nat) (a0 : Nat) (h0 : Hp) (K : Int32 → Prop) : Prop :=
  gI h0 a0 3 4 fun v1 =>
  gA h0 a0 3 1 fun a2 =>
  cv h0 a2 10 <| w_X10_rowCount N a2  h0 fun v3 =>
  jn (fun (v4 : Int32) => 
    fx2 (fun (w22 : Int32 → Int32 → Prop) (x5 : Int32) (x6 : Int32) =>
      br (x5 = 0) (
        ok (narrow .boolean (.int x5) = .int x5) <| K x5) (
        gI h0 a0 3 4 fun v7 =>
        br (v7 ≤ x6) (
          ok (narrow .boolean (.int x5) = .int x5) <| K x5) (
          cv h0 a0 3 <| w_X3_valueAt N a0 x6 h0 fun v8 =>
          cv h0 a0 3 <| w_X3_valueAt N a0 (x6 - 1) h0 fun v9 =>
          gA h0 a0 3 1 fun a10 =>
          cv h0 a0 3 <| w_X3_rowAt N a0 x6 h0 fun v11 =>
          cv h0 a10 10 <| w_X10_hasRow N a10 v11 h0 fun v12 =>
          jn (fun (v13 : Int32) => 
            w22 v13 (x6 + 1)) (fun j91 =>
          jn (
            j91 0) (fun j90 =>
          br (v12 = 0) (
            j90 ) (
            jn (
              j91 1) (fun j86 =>
            br (0 < (v8 - v9)) (
              j86 ) (
              br ((v8 - v9) = 0) (
                cv h0 a0 3 <| w_X3_rowAt N a0 x6 h0 fun v14 =>
                cv h0 a0 3 <| w_X3_rowAt N a0 (x6 - 1) h0 fun v15 =>
                br (v14 ≤ v15) (
                  j90 ) (
                  j86 )) (
                j90 ))))))))) N v4 0) (fun j19 =>
  br (v1 = v3) (
    j19 1) (
    j19 0))
abbrev rmX3_rises : Room := { frames := 4, cells := 0, slots := 0, locals := 105 }
theorem vX3_rises : VI RX3 yX3_rises cX3_rises 4 (some .boolean) 0 := ⟨tw2_87, tw2_88, tw1_20, tw2_89, by decide +kernel⟩
set_option maxHeartbeats 4000000 in
theorem m_X3_rises {G : Gp} (l : Launch) (hfl : l.stackTraces = false) (N : Nat) {a0 : Nat} {h0 : Hp} {K : Int32 → Prop} (hw : w_X3_rises N a0 h0 K) : MT G l yX3_rises cX3_rises 4 (some .boolean) rmX3_rises [rV (some a0)] h0 (QI G (fun r h1 => h1 = h0 ∧ K r)) := by
  refine go_metT l hfl _ 4 _ _ rfl (by decide +kernel) (Nat.le_of_ble_eq_true rfl) [(0, rV (some a0))] rfl (fun X hX C hn => ?_)
  subst hX
  unfold w_X3_rises at hw
  refine go_aload_n C dX3_rises_0 0 rfl ?_
  refine go_getI C (cfX3) (k := 4) (Nat.le_of_ble_eq_true rfl) tw5_107 rfl dX3_rises_1 hw (fun v1 hw => ?_)
  refine go_aload_n C dX3_rises_4 0 rfl ?_
  refine go_getA C (cfX3) (k := 1) (Nat.le_of_ble_eq_true rfl) tw5_104 rfl dX3_rises_5 hw (fun a2 hw => ?_)
  refine go_pV_i C [] vX10_rowCount tw2_90 (ci := 10) rfl (m_X10_rowCount (xl X) C.2.2.2.2.2.2.2.1 N hw.2) ⟨Nat.le_of_ble_eq_true rfl, Nat.le_of_ble_eq_true rfl, Nat.le_of_ble_eq_true rfl, Nat.le_of_ble_eq_true rfl⟩ ⟨rfl, rfl⟩ hw.1 dX3_rises_8 rfl (Nat.le_of_ble_eq_true rfl) rfl (fun v3 hw => ?_)
  refine jn_elim (P := fun j => ∀ (v4 : Int32), j v4 → Go G X rmX3_rises 4 0 0 (QN G X (QI G (fun r h1 => h1 = h0 ∧ K r)) rmX3_rises) h0 19 [(0, rV (some a0))] [iV v4]) hw (fun v4 hw => ?_) (fun j19 hj19 hw => ?_)
  · refine go_istore_n C [(1, iV v4), (0, rV (some a0))] dX3_rises_19 (Nat.le_of_ble_eq_true rfl) rfl ?_
    refine go_iconst C 0 dX3_rises_20 kc_i0 ?_
    refine go_istore_n C [(2, iV 0), (1, iV v4), (0, rV (some a0))] dX3_rises_21 (Nat.le_of_ble_eq_true rfl) rfl ?_
    refine go_sub [2, 1, 0] rfl ?_
    refine fx2_elim (P := fun x5 x6 => Go G X rmX3_rises 4 0 0 (QN G X (QI G (fun r h1 => h1 = h0 ∧ K r)) rmX3_rises) h0 22 [(0, rV (some a0)), (1, iV x5), (2, iV x6)] []) (fun w22 hj22 x5 x6 hw => ?_) N _ _ hw
    refine go_iload_n C dX3_rises_22 1 rfl ?_
    refine go_if_eq C 98 dX3_rises_23 (by decide) hw (fun hw => ?_) (fun hw => ?_)
    · refine go_iload_n C dX3_rises_98 1 rfl ?_
      exact go_zret C dX3_rises_99 ⟨hw.1, ⟨rfl, hw.2⟩⟩ (Nat.le_of_ble_eq_true rfl) (Nat.le_of_ble_eq_true rfl)
    refine go_iload_n C dX3_rises_26 2 rfl ?_
    refine go_aload_n C dX3_rises_27 0 rfl ?_
    refine go_getI C (cfX3) (k := 4) (Nat.le_of_ble_eq_true rfl) tw5_107 rfl dX3_rises_28 hw (fun v7 hw => ?_)
    refine go_icmp_ge C 98 dX3_rises_31 (by decide) hw (fun hw => ?_) (fun hw => ?_)
    · refine go_iload_n C dX3_rises_98 1 rfl ?_
      exact go_zret C dX3_rises_99 ⟨hw.1, ⟨rfl, hw.2⟩⟩ (Nat.le_of_ble_eq_true rfl) (Nat.le_of_ble_eq_true rfl)
    refine go_aload_n C dX3_rises_34 0 rfl ?_
    refine go_iload_n C dX3_rises_35 2 rfl ?_
    refine go_pV_i C [iV x6] vX3_valueAt tw2_94 (ci := 3) rfl (m_X3_valueAt (xl X) C.2.2.2.2.2.2.2.1 N hw.2) ⟨Nat.le_of_ble_eq_true rfl, Nat.le_of_ble_eq_true rfl, Nat.le_of_ble_eq_true rfl, Nat.le_of_ble_eq_true rfl⟩ ⟨rfl, rfl⟩ hw.1 dX3_rises_36 rfl (Nat.le_of_ble_eq_true rfl) rfl (fun v8 hw => ?_)
    refine go_aload_n C dX3_rises_39 0 rfl ?_
    refine go_iload_n C dX3_rises_40 2 rfl ?_
    refine go_iconst C 1 dX3_rises_41 kc_i1 ?_
    refine go_isub C dX3_rises_42 ?_
    refine go_pV_i C [iV (x6 - 1)] vX3_valueAt tw2_94 (ci := 3) rfl (m_X3_valueAt (xl X) C.2.2.2.2.2.2.2.1 N hw.2) ⟨Nat.le_of_ble_eq_true rfl, Nat.le_of_ble_eq_true rfl, Nat.le_of_ble_eq_true rfl, Nat.le_of_ble_eq_true rfl⟩ ⟨rfl, rfl⟩ hw.1 dX3_rises_43 rfl (Nat.le_of_ble_eq_true rfl) rfl (fun v9 hw => ?_)
    refine go_isub C dX3_rises_46 ?_
    refine go_istore_n C [(3, iV (v8 - v9)), (0, rV (some a0)), (1, iV x5), (2, iV x6)] dX3_rises_47 (Nat.le_of_ble_eq_true rfl) rfl ?_
    refine go_aload_n C dX3_rises_48 1 rfl ?_
    refine go_getA C (cfX3) (k := 1) (Nat.le_of_ble_eq_true rfl) tw5_104 rfl dX3_rises_49 hw (fun a10 hw => ?_)
    refine go_aload_n C dX3_rises_52 1 rfl ?_
    refine go_iload_n C dX3_rises_53 3 rfl ?_
    refine go_pV_i C [iV x6] vX3_rowAt tw2_98 (ci := 3) rfl (m_X3_rowAt (xl X) C.2.2.2.2.2.2.2.1 N hw.2) ⟨Nat.le_of_ble_eq_true rfl, Nat.le_of_ble_eq_true rfl, Nat.le_of_ble_eq_true rfl, Nat.le_of_ble_eq_true rfl⟩ ⟨rfl, rfl⟩ hw.1 dX3_rises_54 rfl (Nat.le_of_ble_eq_true rfl) rfl (fun v11 hw => ?_)
    refine go_pV_i C [iV v11] vX10_hasRow tw2_103 (ci := 10) rfl (m_X10_hasRow (xl X) C.2.2.2.2.2.2.2.1 N hw.2) ⟨Nat.le_of_ble_eq_true rfl, Nat.le_of_ble_eq_true rfl, Nat.le_of_ble_eq_true rfl, Nat.le_of_ble_eq_true rfl⟩ ⟨rfl, rfl⟩ hw.1 dX3_rises_57 rfl (Nat.le_of_ble_eq_true rfl) rfl (fun v12 hw => ?_)
    refine jn_elim (P := fun j => ∀ (v13 : Int32), j v13 → Go G X rmX3_rises 4 0 0 (QN G X (QI G (fun r h1 => h1 = h0 ∧ K r)) rmX3_rises) h0 91 [(0, rV (some a0)), (2, iV x6)] [iV v13]) hw (fun v13 hw => ?_) (fun j91 hj91 hw => ?_)
    · refine go_istore_n C [(1, iV v13), (0, rV (some a0)), (2, iV x6)] dX3_rises_91 (Nat.le_of_ble_eq_true rfl) rfl ?_
      refine go_iinc C (x6 + 1) [(2, iV (x6 + 1)), (1, iV v13), (0, rV (some a0))] dX3_rises_92 2 rfl (by rw [kc_i1]) (Nat.le_of_ble_eq_true rfl) rfl ?_
      refine go_goto C 22 dX3_rises_95 (by decide) ?_
      refine go_sub [2, 1, 0] rfl ?_
      exact hj22 v13 (x6 + 1) hw
    refine jn_elim (P := fun j => j  → Go G X rmX3_rises 4 0 0 (QN G X (QI G (fun r h1 => h1 = h0 ∧ K r)) rmX3_rises) h0 90 [(0, rV (some a0)), (2, iV x6)] []) hw (fun  hw => ?_) (fun j90 hj90 hw => ?_)
    · refine go_iconst C 0 dX3_rises_90 kc_i0 ?_
      exact hj91 0 hw
    refine go_if_eq C 90 dX3_rises_60 (by decide) hw (fun hw => ?_) (fun hw => ?_)
    · refine go_sub [1, 3] rfl ?_
      exact hj90  hw
    refine go_iload_n C dX3_rises_63 0 rfl ?_
    refine jn_elim (P := fun j => j  → Go G X rmX3_rises 4 0 0 (QN G X (QI G (fun r h1 => h1 = h0 ∧ K r)) rmX3_rises) h0 86 [(0, rV (some a0)), (2, iV x6)] []) hw (fun  hw => ?_) (fun j86 hj86 hw => ?_)
    · refine go_iconst C 1 dX3_rises_86 kc_i1 ?_
      refine go_goto C 91 dX3_rises_87 (by decide) ?_
      exact hj91 1 hw
    refine go_if_gt C 86 dX3_rises_64 (by decide) hw (fun hw => ?_) (fun hw => ?_)
    · refine go_sub [1, 3] rfl ?_
      exact hj86  hw
    refine go_iload_n C dX3_rises_67 0 rfl ?_
    refine go_if_ne C 90 dX3_rises_68 (by decide) hw (fun hw => ?_) (fun hw => ?_)
    · refine go_sub [1, 3] rfl ?_
      exact hj90  hw
    refine go_aload_n C dX3_rises_71 1 rfl ?_
    refine go_iload_n C dX3_rises_72 3 rfl ?_
    refine go_pV_i C [iV x6] vX3_rowAt tw2_98 (ci := 3) rfl (m_X3_rowAt (xl X) C.2.2.2.2.2.2.2.1 N hw.2) ⟨Nat.le_of_ble_eq_true rfl, Nat.le_of_ble_eq_true rfl, Nat.le_of_ble_eq_true rfl, Nat.le_of_ble_eq_true rfl⟩ ⟨rfl, rfl⟩ hw.1 dX3_rises_73 rfl (Nat.le_of_ble_eq_true rfl) rfl (fun v14 hw => ?_)
    refine go_aload_n C dX3_rises_76 1 rfl ?_
    refine go_iload_n C dX3_rises_77 3 rfl ?_
    refine go_iconst C 1 dX3_rises_78 kc_i1 ?_
    refine go_isub C dX3_rises_79 ?_
    refine go_pV_i C [iV (x6 - 1)] vX3_rowAt tw2_98 (ci := 3) rfl (m_X3_rowAt (xl X) C.2.2.2.2.2.2.2.1 N hw.2) ⟨Nat.le_of_ble_eq_true rfl, Nat.le_of_ble_eq_true rfl, Nat.le_of_ble_eq_true rfl, Nat.le_of_ble_eq_true rfl⟩ ⟨rfl, rfl⟩ hw.1 dX3_rises_80 rfl (Nat.le_of_ble_eq_true rfl) rfl (fun v15 hw => ?_)
    refine go_icmp_le C 90 dX3_rises_83 (by decide) hw (fun hw => ?_) (fun hw => ?_)
    · refine go_sub [1, 3] rfl ?_
      exact hj90  hw
    refine go_sub [1, 3] rfl ?_
    exact hj86  hw
  refine go_icmp_ne C 18 dX3_rises_11 (by decide) hw (fun hw => ?_) (fun hw => ?_)
  · refine go_iconst C 0 dX3_rises_18 kc_i0 ?_
    exact hj19 0 hw
  refine go_iconst C 1 dX3_rises_14 kc_i1 ?_
  refine go_goto C 19 dX3_rises_15 (by decide) ?_
  exact hj19 1 hw
/-- DuelSchema.isIn(II)Z -/
def w_X11_isIn (N : Nat) (p0 : Int32) (p1 : Int32) (h0 : Hp) (K : Int32 → Prop) : Prop :=
  br (p1 < 0) (
    K 0) (
    br (6 ≤ p1) (
      K 0) (
      br ((p0 &&& (1 <<< (p1 &&& 31))) = 0) (
        K 0) (
        K 1)))
abbrev rmX11_isIn : Room := { frames := 2, cells := 0, slots := 0, locals := 60 }
theorem vX11_isIn : SI yX11_isIn cX11_isIn 2 (some .boolean) 2 := ⟨tw3_117, tw1_1, tw3_118, by decide +kernel⟩
set_option maxHeartbeats 4000000 in
theorem m_X11_isIn {G : Gp} (l : Launch) (hfl : l.stackTraces = false) (N : Nat) {p0 : Int32} {p1 : Int32} {h0 : Hp} {K : Int32 → Prop} (hw : w_X11_isIn N p0 p1 h0 K) : MT G l yX11_isIn cX11_isIn 2 (some .boolean) rmX11_isIn [iV p0, iV p1] h0 (QI G (fun r h1 => h1 = h0 ∧ K r)) := by
  refine go_metT l hfl _ 2 _ _ rfl (by decide +kernel) (Nat.le_of_ble_eq_true rfl) [(0, iV p0), (1, iV p1)] rfl (fun X hX C hn => ?_)
  subst hX
  unfold w_X11_isIn at hw
  refine go_iload_n C dX11_isIn_0 1 rfl ?_
  refine go_if_lt C 22 dX11_isIn_1 (by decide) hw (fun hw => ?_) (fun hw => ?_)
  · refine go_iconst C 0 dX11_isIn_22 kc_i0 ?_
    exact go_zret C dX11_isIn_23 ⟨rfl, ⟨rfl, hw⟩⟩ (Nat.le_of_ble_eq_true rfl) (Nat.le_of_ble_eq_true rfl)
  refine go_iload_n C dX11_isIn_4 1 rfl ?_
  refine go_bipush C 6 dX11_isIn_5 kc_b6 ?_
  refine go_icmp_ge C 22 dX11_isIn_7 (by decide) hw (fun hw => ?_) (fun hw => ?_)
  · refine go_iconst C 0 dX11_isIn_22 kc_i0 ?_
    exact go_zret C dX11_isIn_23 ⟨rfl, ⟨rfl, hw⟩⟩ (Nat.le_of_ble_eq_true rfl) (Nat.le_of_ble_eq_true rfl)
  refine go_iload_n C dX11_isIn_10 0 rfl ?_
  refine go_iconst C 1 dX11_isIn_11 kc_i1 ?_
  refine go_iload_n C dX11_isIn_12 1 rfl ?_
  refine go_ishl C dX11_isIn_13 ?_
  refine go_iand C dX11_isIn_14 ?_
  refine go_if_eq C 22 dX11_isIn_15 (by decide) hw (fun hw => ?_) (fun hw => ?_)
  · refine go_iconst C 0 dX11_isIn_22 kc_i0 ?_
    exact go_zret C dX11_isIn_23 ⟨rfl, ⟨rfl, hw⟩⟩ (Nat.le_of_ble_eq_true rfl) (Nat.le_of_ble_eq_true rfl)
  refine go_iconst C 1 dX11_isIn_18 kc_i1 ?_
  refine go_goto C 23 dX11_isIn_19 (by decide) ?_
  exact go_zret C dX11_isIn_23 ⟨rfl, ⟨rfl, hw⟩⟩ (Nat.le_of_ble_eq_true rfl) (Nat.le_of_ble_eq_true rfl)
/-- DuelSchema$Query.conditionAt(I)LDuelSchema$Condition; -/
def w_X7_conditionAt (N : Nat) (a0 : Nat) (p1 : Int32) (h0 : Hp) (K : Option Nat → Prop) : Prop :=
  br (p1 < 0) (
    K none) (
    gA h0 a0 7 2 fun a1 =>
    aN h0 a1 fun v2 =>
    br (v2 ≤ p1) (
      K none) (
      gA h0 a0 7 2 fun a3 =>
      aR h0 a3 8 p1 fun o4 =>
      K o4))
abbrev rmX7_conditionAt : Room := { frames := 2, cells := 0, slots := 0, locals := 60 }
theorem vX7_conditionAt : VI RX7 yX7_conditionAt cX7_conditionAt 2 (some (.object "DuelSchema$Condition")) 1 := ⟨tw2_203, tw2_204, tw1_21, tw2_205, by decide +kernel⟩
set_option maxHeartbeats 4000000 in
theorem m_X7_conditionAt {G : Gp} (l : Launch) (hfl : l.stackTraces = false) (N : Nat) {a0 : Nat} {p1 : Int32} {h0 : Hp} {K : Option Nat → Prop} (hw : w_X7_conditionAt N a0 p1 h0 K) : MT G l yX7_conditionAt cX7_conditionAt 2 (some (.object "DuelSchema$Condition")) rmX7_conditionAt [rV (some a0), iV p1] h0 (QR G (fun r h1 => h1 = h0 ∧ K r)) := by
  refine go_metT l hfl _ 2 _ _ rfl (by decide +kernel) (Nat.le_of_ble_eq_true rfl) [(0, rV (some a0)), (1, iV p1)] rfl (fun X hX C hn => ?_)
  subst hX
  unfold w_X7_conditionAt at hw
  refine go_iload_n C dX7_conditionAt_0 1 rfl ?_
  refine go_if_lt C 22 dX7_conditionAt_1 (by decide) hw (fun hw => ?_) (fun hw => ?_)
  · refine go_null C dX7_conditionAt_22 ?_
    exact go_aret C dX7_conditionAt_23 ⟨rfl, hw⟩ (Nat.le_of_ble_eq_true rfl) (Nat.le_of_ble_eq_true rfl)
  refine go_iload_n C dX7_conditionAt_4 1 rfl ?_
  refine go_aload_n C dX7_conditionAt_5 0 rfl ?_
  refine go_getA C (cfX7) (k := 2) (Nat.le_of_ble_eq_true rfl) tw5_207 rfl dX7_conditionAt_6 hw (fun a1 hw => ?_)
  refine go_alen C dX7_conditionAt_9 hw (fun v2 hw => ?_)
  refine go_icmp_ge C 22 dX7_conditionAt_10 (by decide) hw (fun hw => ?_) (fun hw => ?_)
  · refine go_null C dX7_conditionAt_22 ?_
    exact go_aret C dX7_conditionAt_23 ⟨rfl, hw⟩ (Nat.le_of_ble_eq_true rfl) (Nat.le_of_ble_eq_true rfl)
  refine go_aload_n C dX7_conditionAt_13 0 rfl ?_
  refine go_getA C (cfX7) (k := 2) (Nat.le_of_ble_eq_true rfl) tw5_207 rfl dX7_conditionAt_14 hw (fun a3 hw => ?_)
  refine go_iload_n C dX7_conditionAt_17 1 rfl ?_
  refine go_aaload8 C dX7_conditionAt_18 hw (fun o4 hw => ?_)
  refine go_goto C 23 dX7_conditionAt_19 (by decide) ?_
  exact go_aret C dX7_conditionAt_23 ⟨rfl, hw⟩ (Nat.le_of_ble_eq_true rfl) (Nat.le_of_ble_eq_true rfl)
/-- DuelSchema$Table.takenRows()I -/
def w_X10_takenRows (N : Nat) (a0 : Nat) (h0 : Hp) (K : Int32 → Prop) : Prop :=
  gI h0 a0 10 8 fun v1 =>
  K v1
abbrev rmX10_takenRows : Room := { frames := 2, cells := 0, slots := 0, locals := 60 }
theorem vX10_takenRows : VI RX10 yX10_takenRows cX10_takenRows 1 (some .int) 0 := ⟨tw3_104, tw3_105, tw1_13, tw3_106, by decide +kernel⟩
set_option maxHeartbeats 4000000 in
theorem m_X10_takenRows {G : Gp} (l : Launch) (hfl : l.stackTraces = false) (N : Nat) {a0 : Nat} {h0 : Hp} {K : Int32 → Prop} (hw : w_X10_takenRows N a0 h0 K) : MT G l yX10_takenRows cX10_takenRows 1 (some .int) rmX10_takenRows [rV (some a0)] h0 (QI G (fun r h1 => h1 = h0 ∧ K r)) := by
  refine go_metT l hfl _ 1 _ _ rfl (by decide +kernel) (Nat.le_of_ble_eq_true rfl) [(0, rV (some a0))] rfl (fun X hX C hn => ?_)
  subst hX
  unfold w_X10_takenRows at hw
  refine go_aload_n C dX10_takenRows_0 0 rfl ?_
  refine go_getI C (cfX10) (k := 8) (Nat.le_of_ble_eq_true rfl) tw4_103 rfl dX10_takenRows_1 hw (fun v1 hw => ?_)
  exact go_iret C dX10_takenRows_4 ⟨rfl, hw⟩ (Nat.le_of_ble_eq_true rfl) (Nat.le_of_ble_eq_true rfl)
/-- DuelSchema$Query.joinAt(I)LDuelSchema$Join; -/
def w_X7_joinAt (N : Nat) (a0 : Nat) (p1 : Int32) (h0 : Hp) (K : Option Nat → Prop) : Prop :=
  br (p1 < 0) (
    K none) (
    gA h0 a0 7 4 fun a1 =>
    aN h0 a1 fun v2 =>
    br (v2 ≤ p1) (
      K none) (
      gA h0 a0 7 4 fun a3 =>
      aR h0 a3 9 p1 fun o4 =>
      K o4))
abbrev rmX7_joinAt : Room := { frames := 2, cells := 0, slots := 0, locals := 60 }
theorem vX7_joinAt : VI RX7 yX7_joinAt cX7_joinAt 2 (some (.object "DuelSchema$Join")) 1 := ⟨tw2_224, tw2_225, tw1_21, tw2_226, by decide +kernel⟩
set_option maxHeartbeats 4000000 in
theorem m_X7_joinAt {G : Gp} (l : Launch) (hfl : l.stackTraces = false) (N : Nat) {a0 : Nat} {p1 : Int32} {h0 : Hp} {K : Option Nat → Prop} (hw : w_X7_joinAt N a0 p1 h0 K) : MT G l yX7_joinAt cX7_joinAt 2 (some (.object "DuelSchema$Join")) rmX7_joinAt [rV (some a0), iV p1] h0 (QR G (fun r h1 => h1 = h0 ∧ K r)) := by
  refine go_metT l hfl _ 2 _ _ rfl (by decide +kernel) (Nat.le_of_ble_eq_true rfl) [(0, rV (some a0)), (1, iV p1)] rfl (fun X hX C hn => ?_)
  subst hX
  unfold w_X7_joinAt at hw
  refine go_iload_n C dX7_joinAt_0 1 rfl ?_
  refine go_if_lt C 22 dX7_joinAt_1 (by decide) hw (fun hw => ?_) (fun hw => ?_)
  · refine go_null C dX7_joinAt_22 ?_
    exact go_aret C dX7_joinAt_23 ⟨rfl, hw⟩ (Nat.le_of_ble_eq_true rfl) (Nat.le_of_ble_eq_true rfl)
  refine go_iload_n C dX7_joinAt_4 1 rfl ?_
  refine go_aload_n C dX7_joinAt_5 0 rfl ?_
  refine go_getA C (cfX7) (k := 4) (Nat.le_of_ble_eq_true rfl) tw5_209 rfl dX7_joinAt_6 hw (fun a1 hw => ?_)
  refine go_alen C dX7_joinAt_9 hw (fun v2 hw => ?_)
  refine go_icmp_ge C 22 dX7_joinAt_10 (by decide) hw (fun hw => ?_) (fun hw => ?_)
  · refine go_null C dX7_joinAt_22 ?_
    exact go_aret C dX7_joinAt_23 ⟨rfl, hw⟩ (Nat.le_of_ble_eq_true rfl) (Nat.le_of_ble_eq_true rfl)
  refine go_aload_n C dX7_joinAt_13 0 rfl ?_
  refine go_getA C (cfX7) (k := 4) (Nat.le_of_ble_eq_true rfl) tw5_209 rfl dX7_joinAt_14 hw (fun a3 hw => ?_)
  refine go_iload_n C dX7_joinAt_17 1 rfl ?_
  refine go_aaload9 C dX7_joinAt_18 hw (fun o4 hw => ?_)
  refine go_goto C 23 dX7_joinAt_19 (by decide) ?_
  exact go_aret C dX7_joinAt_23 ⟨rfl, hw⟩ (Nat.le_of_ble_eq_true rfl) (Nat.le_of_ble_eq_true rfl)
/-- DuelSchema$Query.tableOf(I)LDuelSchema$Table; -/
def w_X7_tableOf (N : Nat) (a0 : Nat) (p1 : Int32) (h0 : Hp) (K : Option Nat → Prop) : Prop :=
  br (p1 < 0) (
    K none) (
    gA h0 a0 7 0 fun a1 =>
    aN h0 a1 fun v2 =>
    br (v2 ≤ p1) (
      K none) (
      gA h0 a0 7 0 fun a3 =>
      aR h0 a3 5 p1 fun o4 =>
      K o4))
abbrev rmX7_tableOf : Room := { frames := 2, cells := 0, slots := 0, locals := 60 }
theorem vX7_tableOf : VI RX7 yX7_tableOf cX7_tableOf 2 (some (.object "DuelSchema$Table")) 1 := ⟨tw2_147, tw2_148, tw1_21, tw2_149, by decide +kernel⟩
set_option maxHeartbeats 4000000 in
theorem m_X7_tableOf {G : Gp} (l : Launch) (hfl : l.stackTraces = false) (N : Nat) {a0 : Nat} {p1 : Int32} {h0 : Hp} {K : Option Nat → Prop} (hw : w_X7_tableOf N a0 p1 h0 K) : MT G l yX7_tableOf cX7_tableOf 2 (some (.object "DuelSchema$Table")) rmX7_tableOf [rV (some a0), iV p1] h0 (QR G (fun r h1 => h1 = h0 ∧ K r)) := by
  refine go_metT l hfl _ 2 _ _ rfl (by decide +kernel) (Nat.le_of_ble_eq_true rfl) [(0, rV (some a0)), (1, iV p1)] rfl (fun X hX C hn => ?_)
  subst hX
  unfold w_X7_tableOf at hw
  refine go_iload_n C dX7_tableOf_0 1 rfl ?_
  refine go_if_lt C 22 dX7_tableOf_1 (by decide) hw (fun hw => ?_) (fun hw => ?_)
  · refine go_null C dX7_tableOf_22 ?_
    exact go_aret C dX7_tableOf_23 ⟨rfl, hw⟩ (Nat.le_of_ble_eq_true rfl) (Nat.le_of_ble_eq_true rfl)
  refine go_iload_n C dX7_tableOf_4 1 rfl ?_
  refine go_aload_n C dX7_tableOf_5 0 rfl ?_
  refine go_getA C (cfX7) (k := 0) (Nat.le_of_ble_eq_true rfl) tw5_205 rfl dX7_tableOf_6 hw (fun a1 hw => ?_)
  refine go_alen C dX7_tableOf_9 hw (fun v2 hw => ?_)
  refine go_icmp_ge C 22 dX7_tableOf_10 (by decide) hw (fun hw => ?_) (fun hw => ?_)
  · refine go_null C dX7_tableOf_22 ?_
    exact go_aret C dX7_tableOf_23 ⟨rfl, hw⟩ (Nat.le_of_ble_eq_true rfl) (Nat.le_of_ble_eq_true rfl)
  refine go_aload_n C dX7_tableOf_13 0 rfl ?_
  refine go_getA C (cfX7) (k := 0) (Nat.le_of_ble_eq_true rfl) tw5_205 rfl dX7_tableOf_14 hw (fun a3 hw => ?_)
  refine go_iload_n C dX7_tableOf_17 1 rfl ?_
  refine go_aaload5 C dX7_tableOf_18 hw (fun o4 hw => ?_)
  refine go_goto C 23 dX7_tableOf_19 (by decide) ?_
  exact go_aret C dX7_tableOf_23 ⟨rfl, hw⟩ (Nat.le_of_ble_eq_true rfl) (Nat.le_of_ble_eq_true rfl)
/-- DuelSchema$Table.takenPages()I -/
def w_X10_takenPages (N : Nat) (a0 : Nat) (h0 : Hp) (K : Int32 → Prop) : Prop :=
  gI h0 a0 10 9 fun v1 =>
  K v1
abbrev rmX10_takenPages : Room := { frames := 2, cells := 0, slots := 0, locals := 60 }
theorem vX10_takenPages : VI RX10 yX10_takenPages cX10_takenPages 1 (some .int) 0 := ⟨tw3_178, tw3_179, tw1_13, tw3_180, by decide +kernel⟩
set_option maxHeartbeats 4000000 in
theorem m_X10_takenPages {G : Gp} (l : Launch) (hfl : l.stackTraces = false) (N : Nat) {a0 : Nat} {h0 : Hp} {K : Int32 → Prop} (hw : w_X10_takenPages N a0 h0 K) : MT G l yX10_takenPages cX10_takenPages 1 (some .int) rmX10_takenPages [rV (some a0)] h0 (QI G (fun r h1 => h1 = h0 ∧ K r)) := by
  refine go_metT l hfl _ 1 _ _ rfl (by decide +kernel) (Nat.le_of_ble_eq_true rfl) [(0, rV (some a0))] rfl (fun X hX C hn => ?_)
  subst hX
  unfold w_X10_takenPages at hw
  refine go_aload_n C dX10_takenPages_0 0 rfl ?_
  refine go_getI C (cfX10) (k := 9) (Nat.le_of_ble_eq_true rfl) tw4_104 rfl dX10_takenPages_1 hw (fun v1 hw => ?_)
  exact go_iret C dX10_takenPages_4 ⟨rfl, hw⟩ (Nat.le_of_ble_eq_true rfl) (Nat.le_of_ble_eq_true rfl)
/-- DuelSchema$Query.size()I -/
def w_X7_size (N : Nat) (a0 : Nat) (h0 : Hp) (K : Int32 → Prop) : Prop :=
  gI h0 a0 7 1 fun v1 =>
  K v1
abbrev rmX7_size : Room := { frames := 2, cells := 0, slots := 0, locals := 60 }
theorem vX7_size : VI RX7 yX7_size cX7_size 1 (some .int) 0 := ⟨tw2_108, tw2_109, tw1_21, tw2_110, by decide +kernel⟩
set_option maxHeartbeats 4000000 in
theorem m_X7_size {G : Gp} (l : Launch) (hfl : l.stackTraces = false) (N : Nat) {a0 : Nat} {h0 : Hp} {K : Int32 → Prop} (hw : w_X7_size N a0 h0 K) : MT G l yX7_size cX7_size 1 (some .int) rmX7_size [rV (some a0)] h0 (QI G (fun r h1 => h1 = h0 ∧ K r)) := by
  refine go_metT l hfl _ 1 _ _ rfl (by decide +kernel) (Nat.le_of_ble_eq_true rfl) [(0, rV (some a0))] rfl (fun X hX C hn => ?_)
  subst hX
  unfold w_X7_size at hw
  refine go_aload_n C dX7_size_0 0 rfl ?_
  refine go_getI C (cfX7) (k := 1) (Nat.le_of_ble_eq_true rfl) tw5_206 rfl dX7_size_1 hw (fun v1 hw => ?_)
  exact go_iret C dX7_size_4 ⟨rfl, hw⟩ (Nat.le_of_ble_eq_true rfl) (Nat.le_of_ble_eq_true rfl)
/-- DuelSchema$Table.hasColumn(I)Z -/
def w_X10_hasColumn (N : Nat) (a0 : Nat) (p1 : Int32) (h0 : Hp) (K : Int32 → Prop) : Prop :=
  br (p1 < 0) (
    K 0) (
    gI h0 a0 10 1 fun v1 =>
    br (v1 ≤ p1) (
      K 0) (
      br (3 ≤ p1) (
        K 0) (
        K 1)))
abbrev rmX10_hasColumn : Room := { frames := 2, cells := 0, slots := 0, locals := 60 }
theorem vX10_hasColumn : VI RX10 yX10_hasColumn cX10_hasColumn 2 (some .boolean) 1 := ⟨tw3_87, tw3_88, tw1_13, tw3_89, by decide +kernel⟩
set_option maxHeartbeats 4000000 in
theorem m_X10_hasColumn {G : Gp} (l : Launch) (hfl : l.stackTraces = false) (N : Nat) {a0 : Nat} {p1 : Int32} {h0 : Hp} {K : Int32 → Prop} (hw : w_X10_hasColumn N a0 p1 h0 K) : MT G l yX10_hasColumn cX10_hasColumn 2 (some .boolean) rmX10_hasColumn [rV (some a0), iV p1] h0 (QI G (fun r h1 => h1 = h0 ∧ K r)) := by
  refine go_metT l hfl _ 2 _ _ rfl (by decide +kernel) (Nat.le_of_ble_eq_true rfl) [(0, rV (some a0)), (1, iV p1)] rfl (fun X hX C hn => ?_)
  subst hX
  unfold w_X10_hasColumn at hw
  refine go_iload_n C dX10_hasColumn_0 1 rfl ?_
  refine go_if_lt C 21 dX10_hasColumn_1 (by decide) hw (fun hw => ?_) (fun hw => ?_)
  · refine go_iconst C 0 dX10_hasColumn_21 kc_i0 ?_
    exact go_zret C dX10_hasColumn_22 ⟨rfl, ⟨rfl, hw⟩⟩ (Nat.le_of_ble_eq_true rfl) (Nat.le_of_ble_eq_true rfl)
  refine go_iload_n C dX10_hasColumn_4 1 rfl ?_
  refine go_aload_n C dX10_hasColumn_5 0 rfl ?_
  refine go_getI C (cfX10) (k := 1) (Nat.le_of_ble_eq_true rfl) tw4_96 rfl dX10_hasColumn_6 hw (fun v1 hw => ?_)
  refine go_icmp_ge C 21 dX10_hasColumn_9 (by decide) hw (fun hw => ?_) (fun hw => ?_)
  · refine go_iconst C 0 dX10_hasColumn_21 kc_i0 ?_
    exact go_zret C dX10_hasColumn_22 ⟨rfl, ⟨rfl, hw⟩⟩ (Nat.le_of_ble_eq_true rfl) (Nat.le_of_ble_eq_true rfl)
  refine go_iload_n C dX10_hasColumn_12 1 rfl ?_
  refine go_iconst C 3 dX10_hasColumn_13 kc_i3 ?_
  refine go_icmp_ge C 21 dX10_hasColumn_14 (by decide) hw (fun hw => ?_) (fun hw => ?_)
  · refine go_iconst C 0 dX10_hasColumn_21 kc_i0 ?_
    exact go_zret C dX10_hasColumn_22 ⟨rfl, ⟨rfl, hw⟩⟩ (Nat.le_of_ble_eq_true rfl) (Nat.le_of_ble_eq_true rfl)
  refine go_iconst C 1 dX10_hasColumn_17 kc_i1 ?_
  refine go_goto C 22 dX10_hasColumn_18 (by decide) ?_
  exact go_zret C dX10_hasColumn_22 ⟨rfl, ⟨rfl, hw⟩⟩ (Nat.le_of_ble_eq_true rfl) (Nat.le_of_ble_eq_true rfl)
/-- DuelSchema.divided(II)I -/
def w_X11_divided (N : Nat) (p0 : Int32) (p1 : Int32) (h0 : Hp) (K : Int32 → Prop) : Prop :=
  br (p1 = 0) (
    K p0) (
    dz (p1 : Int32) (
    K (p0 / p1)))
abbrev rmX11_divided : Room := { frames := 2, cells := 0, slots := 0, locals := 60 }
theorem vX11_divided : SI yX11_divided cX11_divided 2 (some .int) 2 := ⟨tw3_95, tw1_1, tw3_96, by decide +kernel⟩
set_option maxHeartbeats 4000000 in
theorem m_X11_divided {G : Gp} (l : Launch) (hfl : l.stackTraces = false) (N : Nat) {p0 : Int32} {p1 : Int32} {h0 : Hp} {K : Int32 → Prop} (hw : w_X11_divided N p0 p1 h0 K) : MT G l yX11_divided cX11_divided 2 (some .int) rmX11_divided [iV p0, iV p1] h0 (QI G (fun r h1 => h1 = h0 ∧ K r)) := by
  refine go_metT l hfl _ 2 _ _ rfl (by decide +kernel) (Nat.le_of_ble_eq_true rfl) [(0, iV p0), (1, iV p1)] rfl (fun X hX C hn => ?_)
  subst hX
  unfold w_X11_divided at hw
  refine go_iload_n C dX11_divided_0 1 rfl ?_
  refine go_if_ne C 8 dX11_divided_1 (by decide) hw (fun hw => ?_) (fun hw => ?_)
  · refine go_iload_n C dX11_divided_8 0 rfl ?_
    refine go_iload_n C dX11_divided_9 1 rfl ?_
    refine go_idiv C dX11_divided_10 hw (fun hw => ?_)
    exact go_iret C dX11_divided_11 ⟨rfl, hw⟩ (Nat.le_of_ble_eq_true rfl) (Nat.le_of_ble_eq_true rfl)
  refine go_iload_n C dX11_divided_4 0 rfl ?_
  refine go_goto C 11 dX11_divided_5 (by decide) ?_
  exact go_iret C dX11_divided_11 ⟨rfl, hw⟩ (Nat.le_of_ble_eq_true rfl) (Nat.le_of_ble_eq_true rfl)
/-- DuelSchema$Table.shareOf(LDuelSchema$Condition;)I -/
def w_X10_shareOf (N : Nat) (a0 : Nat) (p1 : Option Nat) (h0 : Hp) (K : Int32 → Prop) : Prop :=
  nn p1 fun a1 => cv h0 a1 1 <| w_X1_column N a1  h0 fun v2 =>
  cv h0 a0 10 <| w_X10_hasColumn N a0 v2 h0 fun v3 =>
  br (v3 = 0) (
    K 0) (
    cv h0 a1 1 <| w_X1_isEqual N a1  h0 fun v4 =>
    br (v4 = 0) (
      gA h0 a0 10 11 fun a5 =>
      aI h0 a5 0 v2 fun v6 =>
      cv h0 a1 1 <| w_X1_least N a1  h0 fun v7 =>
      gA h0 a0 10 12 fun a8 =>
      aI h0 a8 0 v2 fun v9 =>
      cv h0 a1 1 <| w_X1_greatest N a1  h0 fun v10 =>
      gA h0 a0 10 12 fun a11 =>
      aI h0 a11 0 v2 fun v12 =>
      gA h0 a0 10 11 fun a13 =>
      aI h0 a13 0 v2 fun v14 =>
      w_X11_divided N (1000 * (if 0 < (((if v10 < v9 then v10 else v9) - (if v6 < v7 then v7 else v6)) + 1) then (((if v10 < v9 then v10 else v9) - (if v6 < v7 then v7 else v6)) + 1) else 0)) ((v12 - v14) + 1) h0 fun v15 =>
      K v15) (
      gA h0 a0 10 10 fun a16 =>
      aI h0 a16 0 v2 fun v17 =>
      w_X11_divided N 1000 v17 h0 fun v18 =>
      K v18))
abbrev rmX10_shareOf : Room := { frames := 3, cells := 0, slots := 0, locals := 81 }
theorem vX10_shareOf : VI RX10 yX10_shareOf cX10_shareOf 6 (some .int) 1 := ⟨tw3_82, tw3_83, tw1_13, tw3_84, by decide +kernel⟩
set_option maxHeartbeats 4000000 in
theorem m_X10_shareOf {G : Gp} (l : Launch) (hfl : l.stackTraces = false) (N : Nat) {a0 : Nat} {p1 : Option Nat} {h0 : Hp} {K : Int32 → Prop} (hw : w_X10_shareOf N a0 p1 h0 K) : MT G l yX10_shareOf cX10_shareOf 6 (some .int) rmX10_shareOf [rV (some a0), rV p1] h0 (QI G (fun r h1 => h1 = h0 ∧ K r)) := by
  refine go_metT l hfl _ 6 _ _ rfl (by decide +kernel) (Nat.le_of_ble_eq_true rfl) [(0, rV (some a0)), (1, rV p1)] rfl (fun X hX C hn => ?_)
  subst hX
  unfold w_X10_shareOf at hw
  refine go_aload_n C dX10_shareOf_0 1 rfl ?_
  obtain ⟨a1, e9, hw9⟩ := hw
  subst e9
  have hw := hw9
  clear hw9
  refine go_pV_i C [] vX1_column tw3_85 (ci := 1) rfl (m_X1_column (xl X) C.2.2.2.2.2.2.2.1 N hw.2) ⟨Nat.le_of_ble_eq_true rfl, Nat.le_of_ble_eq_true rfl, Nat.le_of_ble_eq_true rfl, Nat.le_of_ble_eq_true rfl⟩ ⟨rfl, rfl⟩ hw.1 dX10_shareOf_1 rfl (Nat.le_of_ble_eq_true rfl) rfl (fun v2 hw => ?_)
  refine go_istore_n C [(2, iV v2), (0, rV (some a0)), (1, rV (some a1))] dX10_shareOf_4 (Nat.le_of_ble_eq_true rfl) rfl ?_
  refine go_aload_n C dX10_shareOf_5 1 rfl ?_
  refine go_iload_n C dX10_shareOf_6 0 rfl ?_
  refine go_pV_i C [iV v2] vX10_hasColumn tw3_86 (ci := 10) rfl (m_X10_hasColumn (xl X) C.2.2.2.2.2.2.2.1 N hw.2) ⟨Nat.le_of_ble_eq_true rfl, Nat.le_of_ble_eq_true rfl, Nat.le_of_ble_eq_true rfl, Nat.le_of_ble_eq_true rfl⟩ ⟨rfl, rfl⟩ hw.1 dX10_shareOf_7 rfl (Nat.le_of_ble_eq_true rfl) rfl (fun v3 hw => ?_)
  refine go_if_ne C 15 dX10_shareOf_10 (by decide) hw (fun hw => ?_) (fun hw => ?_)
  · refine go_aload_n C dX10_shareOf_15 2 rfl ?_
    refine go_pV_i C [] vX1_isEqual tw3_90 (ci := 1) rfl (m_X1_isEqual (xl X) C.2.2.2.2.2.2.2.1 N hw.2) ⟨Nat.le_of_ble_eq_true rfl, Nat.le_of_ble_eq_true rfl, Nat.le_of_ble_eq_true rfl, Nat.le_of_ble_eq_true rfl⟩ ⟨rfl, rfl⟩ hw.1 dX10_shareOf_16 rfl (Nat.le_of_ble_eq_true rfl) rfl (fun v4 hw => ?_)
    refine go_if_eq C 35 dX10_shareOf_19 (by decide) hw (fun hw => ?_) (fun hw => ?_)
    · refine go_aload_n C dX10_shareOf_35 1 rfl ?_
      refine go_getA C (cfX10) (k := 11) (Nat.le_of_ble_eq_true rfl) tw4_106 rfl dX10_shareOf_36 hw (fun a5 hw => ?_)
      refine go_iload_n C dX10_shareOf_39 0 rfl ?_
      refine go_iaload C dX10_shareOf_40 hw (fun v6 hw => ?_)
      refine go_aload_n C dX10_shareOf_41 2 rfl ?_
      refine go_pV_i C [] vX1_least tw3_97 (ci := 1) rfl (m_X1_least (xl X) C.2.2.2.2.2.2.2.1 N hw.2) ⟨Nat.le_of_ble_eq_true rfl, Nat.le_of_ble_eq_true rfl, Nat.le_of_ble_eq_true rfl, Nat.le_of_ble_eq_true rfl⟩ ⟨rfl, rfl⟩ hw.1 dX10_shareOf_42 rfl (Nat.le_of_ble_eq_true rfl) rfl (fun v7 hw => ?_)
      refine go_imax C tw3_98 tw3_99 tw1_19 tw3_100 ⟨Nat.le_of_ble_eq_true rfl, Nat.le_of_ble_eq_true rfl, Nat.le_of_ble_eq_true rfl, Nat.le_of_ble_eq_true rfl⟩ (Nat.le_of_ble_eq_true rfl) dX10_shareOf_45 ?_
      refine go_istore_n C [(3, iV (if v6 < v7 then v7 else v6)), (2, iV v2), (0, rV (some a0)), (1, rV (some a1))] dX10_shareOf_48 (Nat.le_of_ble_eq_true rfl) rfl ?_
      refine go_aload_n C dX10_shareOf_49 2 rfl ?_
      refine go_getA C (cfX10) (k := 12) (Nat.le_of_ble_eq_true rfl) tw4_107 rfl dX10_shareOf_50 hw (fun a8 hw => ?_)
      refine go_iload_n C dX10_shareOf_53 1 rfl ?_
      refine go_iaload C dX10_shareOf_54 hw (fun v9 hw => ?_)
      refine go_aload_n C dX10_shareOf_55 3 rfl ?_
      refine go_pV_i C [] vX1_greatest tw3_101 (ci := 1) rfl (m_X1_greatest (xl X) C.2.2.2.2.2.2.2.1 N hw.2) ⟨Nat.le_of_ble_eq_true rfl, Nat.le_of_ble_eq_true rfl, Nat.le_of_ble_eq_true rfl, Nat.le_of_ble_eq_true rfl⟩ ⟨rfl, rfl⟩ hw.1 dX10_shareOf_56 rfl (Nat.le_of_ble_eq_true rfl) rfl (fun v10 hw => ?_)
      refine go_imin C tw3_102 tw2_171 tw1_19 tw2_172 ⟨Nat.le_of_ble_eq_true rfl, Nat.le_of_ble_eq_true rfl, Nat.le_of_ble_eq_true rfl, Nat.le_of_ble_eq_true rfl⟩ (Nat.le_of_ble_eq_true rfl) dX10_shareOf_59 ?_
      refine go_istore C [(4, iV (if v10 < v9 then v10 else v9)), (3, iV (if v6 < v7 then v7 else v6)), (2, iV v2), (0, rV (some a0)), (1, rV (some a1))] dX10_shareOf_62 (Nat.le_of_ble_eq_true rfl) rfl ?_
      refine go_aload_n C dX10_shareOf_64 3 rfl ?_
      refine go_getA C (cfX10) (k := 12) (Nat.le_of_ble_eq_true rfl) tw4_107 rfl dX10_shareOf_65 hw (fun a11 hw => ?_)
      refine go_iload_n C dX10_shareOf_68 2 rfl ?_
      refine go_iaload C dX10_shareOf_69 hw (fun v12 hw => ?_)
      refine go_aload_n C dX10_shareOf_70 3 rfl ?_
      refine go_getA C (cfX10) (k := 11) (Nat.le_of_ble_eq_true rfl) tw4_106 rfl dX10_shareOf_71 hw (fun a13 hw => ?_)
      refine go_iload_n C dX10_shareOf_74 2 rfl ?_
      refine go_iaload C dX10_shareOf_75 hw (fun v14 hw => ?_)
      refine go_isub C dX10_shareOf_76 ?_
      refine go_iconst C 1 dX10_shareOf_77 kc_i1 ?_
      refine go_iadd C dX10_shareOf_78 ?_
      refine go_istore C [(5, iV ((v12 - v14) + 1)), (4, iV (if v10 < v9 then v10 else v9)), (3, iV (if v6 < v7 then v7 else v6)), (2, iV v2), (0, rV (some a0)), (1, rV (some a1))] dX10_shareOf_79 (Nat.le_of_ble_eq_true rfl) rfl ?_
      refine go_sipush C 1000 dX10_shareOf_81 kc_s1000 ?_
      refine go_iconst C 0 dX10_shareOf_84 kc_i0 ?_
      refine go_iload C dX10_shareOf_85 1 rfl ?_
      refine go_iload_n C dX10_shareOf_87 2 rfl ?_
      refine go_isub C dX10_shareOf_88 ?_
      refine go_iconst C 1 dX10_shareOf_89 kc_i1 ?_
      refine go_iadd C dX10_shareOf_90 ?_
      refine go_imax C tw3_98 tw3_99 tw1_19 tw3_100 ⟨Nat.le_of_ble_eq_true rfl, Nat.le_of_ble_eq_true rfl, Nat.le_of_ble_eq_true rfl, Nat.le_of_ble_eq_true rfl⟩ (Nat.le_of_ble_eq_true rfl) dX10_shareOf_91 ?_
      refine go_imul C dX10_shareOf_94 ?_
      refine go_iload C dX10_shareOf_95 0 rfl ?_
      refine go_pSN_i C [iV (1000 * (if 0 < (((if v10 < v9 then v10 else v9) - (if v6 < v7 then v7 else v6)) + 1) then (((if v10 < v9 then v10 else v9) - (if v6 < v7 then v7 else v6)) + 1) else 0)), iV ((v12 - v14) + 1)] vX11_divided tw3_94 (m_X11_divided (xl X) C.2.2.2.2.2.2.2.1 N hw) ⟨Nat.le_of_ble_eq_true rfl, Nat.le_of_ble_eq_true rfl, Nat.le_of_ble_eq_true rfl, Nat.le_of_ble_eq_true rfl⟩ ⟨rfl, rfl⟩ dX10_shareOf_97 rfl (Nat.le_of_ble_eq_true rfl) rfl (fun v15 hw => ?_)
      exact go_iret C dX10_shareOf_100 ⟨rfl, hw⟩ (Nat.le_of_ble_eq_true rfl) (Nat.le_of_ble_eq_true rfl)
    refine go_sipush C 1000 dX10_shareOf_22 kc_s1000 ?_
    refine go_aload_n C dX10_shareOf_25 1 rfl ?_
    refine go_getA C (cfX10) (k := 10) (Nat.le_of_ble_eq_true rfl) tw4_105 rfl dX10_shareOf_26 hw (fun a16 hw => ?_)
    refine go_iload_n C dX10_shareOf_29 0 rfl ?_
    refine go_iaload C dX10_shareOf_30 hw (fun v17 hw => ?_)
    refine go_pSN_i C [iV 1000, iV v17] vX11_divided tw3_94 (m_X11_divided (xl X) C.2.2.2.2.2.2.2.1 N hw) ⟨Nat.le_of_ble_eq_true rfl, Nat.le_of_ble_eq_true rfl, Nat.le_of_ble_eq_true rfl, Nat.le_of_ble_eq_true rfl⟩ ⟨rfl, rfl⟩ dX10_shareOf_31 rfl (Nat.le_of_ble_eq_true rfl) rfl (fun v18 hw => ?_)
    exact go_iret C dX10_shareOf_34 ⟨rfl, hw⟩ (Nat.le_of_ble_eq_true rfl) (Nat.le_of_ble_eq_true rfl)
  refine go_iconst C 0 dX10_shareOf_13 kc_i0 ?_
  exact go_iret C dX10_shareOf_14 ⟨rfl, hw⟩ (Nat.le_of_ble_eq_true rfl) (Nat.le_of_ble_eq_true rfl)
/-- DuelSchema$Table.takenUnlike(I)I -/
def w_X10_takenUnlike (N : Nat) (a0 : Nat) (p1 : Int32) (h0 : Hp) (K : Int32 → Prop) : Prop :=
  br (p1 < 0) (
    K 0) (
    gA h0 a0 10 10 fun a1 =>
    aN h0 a1 fun v2 =>
    br (v2 ≤ p1) (
      K 0) (
      gA h0 a0 10 10 fun a3 =>
      aI h0 a3 0 p1 fun v4 =>
      K v4))
abbrev rmX10_takenUnlike : Room := { frames := 2, cells := 0, slots := 0, locals := 60 }
theorem vX10_takenUnlike : VI RX10 yX10_takenUnlike cX10_takenUnlike 2 (some .int) 1 := ⟨tw3_127, tw3_128, tw1_13, tw3_129, by decide +kernel⟩
set_option maxHeartbeats 4000000 in
theorem m_X10_takenUnlike {G : Gp} (l : Launch) (hfl : l.stackTraces = false) (N : Nat) {a0 : Nat} {p1 : Int32} {h0 : Hp} {K : Int32 → Prop} (hw : w_X10_takenUnlike N a0 p1 h0 K) : MT G l yX10_takenUnlike cX10_takenUnlike 2 (some .int) rmX10_takenUnlike [rV (some a0), iV p1] h0 (QI G (fun r h1 => h1 = h0 ∧ K r)) := by
  refine go_metT l hfl _ 2 _ _ rfl (by decide +kernel) (Nat.le_of_ble_eq_true rfl) [(0, rV (some a0)), (1, iV p1)] rfl (fun X hX C hn => ?_)
  subst hX
  unfold w_X10_takenUnlike at hw
  refine go_iload_n C dX10_takenUnlike_0 1 rfl ?_
  refine go_if_lt C 22 dX10_takenUnlike_1 (by decide) hw (fun hw => ?_) (fun hw => ?_)
  · refine go_iconst C 0 dX10_takenUnlike_22 kc_i0 ?_
    exact go_iret C dX10_takenUnlike_23 ⟨rfl, hw⟩ (Nat.le_of_ble_eq_true rfl) (Nat.le_of_ble_eq_true rfl)
  refine go_iload_n C dX10_takenUnlike_4 1 rfl ?_
  refine go_aload_n C dX10_takenUnlike_5 0 rfl ?_
  refine go_getA C (cfX10) (k := 10) (Nat.le_of_ble_eq_true rfl) tw4_105 rfl dX10_takenUnlike_6 hw (fun a1 hw => ?_)
  refine go_alen C dX10_takenUnlike_9 hw (fun v2 hw => ?_)
  refine go_icmp_ge C 22 dX10_takenUnlike_10 (by decide) hw (fun hw => ?_) (fun hw => ?_)
  · refine go_iconst C 0 dX10_takenUnlike_22 kc_i0 ?_
    exact go_iret C dX10_takenUnlike_23 ⟨rfl, hw⟩ (Nat.le_of_ble_eq_true rfl) (Nat.le_of_ble_eq_true rfl)
  refine go_aload_n C dX10_takenUnlike_13 0 rfl ?_
  refine go_getA C (cfX10) (k := 10) (Nat.le_of_ble_eq_true rfl) tw4_105 rfl dX10_takenUnlike_14 hw (fun a3 hw => ?_)
  refine go_iload_n C dX10_takenUnlike_17 1 rfl ?_
  refine go_iaload C dX10_takenUnlike_18 hw (fun v4 hw => ?_)
  refine go_goto C 23 dX10_takenUnlike_19 (by decide) ?_
  exact go_iret C dX10_takenUnlike_23 ⟨rfl, hw⟩ (Nat.le_of_ble_eq_true rfl) (Nat.le_of_ble_eq_true rfl)
/-- DuelSchema$Query.<init>()V -/
def w_X7_init (N : Nat) (a0 : Nat) (h0 : Hp) (K : Hp → Prop) : Prop :=
  nA h0 (.inl (5, 3, .inr (.inr (.inr (.inr (fun _ => none)))))) fun a1 h2 =>
  pF h2 a0 7 0 (rV (some a1)) fun h3 =>
  pF h3 a0 7 1 (iV 0) fun h4 =>
  nA h4 (.inl (8, 4, .inr (.inr (.inr (.inr (fun _ => none)))))) fun a5 h6 =>
  pF h6 a0 7 2 (rV (some a5)) fun h7 =>
  pF h7 a0 7 3 (iV 0) fun h8 =>
  nA h8 (.inl (9, 3, .inr (.inr (.inr (.inr (fun _ => none)))))) fun a9 h10 =>
  pF h10 a0 7 4 (rV (some a9)) fun h11 =>
  pF h11 a0 7 5 (iV 0) fun h12 =>
  K h12
abbrev rmX7_init : Room := { frames := 2, cells := 3, slots := 10, locals := 60 }
theorem vX7_init : II yX7_init cX7_init 1 0 := ⟨tw5_197, tw1_21, tw5_198, rfl, by decide +kernel⟩
set_option maxHeartbeats 4000000 in
theorem m_X7_init {G : Gp} (l : Launch) (hfl : l.stackTraces = false) (N : Nat) {a0 : Nat} {h0 : Hp} {K : Hp → Prop} (hw : w_X7_init N a0 h0 K) : MT G l yX7_init cX7_init 1 none rmX7_init [rV (some a0)] h0 (QV G K) := by
  refine go_metT l hfl _ 1 _ _ rfl (by decide +kernel) (Nat.le_of_ble_eq_true rfl) [(0, rV (some a0))] rfl (fun X hX C hn => ?_)
  subst hX
  unfold w_X7_init at hw
  refine go_aload_n C dX7_init_0 0 rfl ?_
  refine go_objinit C tw5_199 tw1_33 tw1_34 dX7_init_1 ⟨Nat.le_of_ble_eq_true rfl, Nat.le_of_ble_eq_true rfl⟩ (Nat.le_of_ble_eq_true rfl) ?_
  refine go_aload_n C dX7_init_4 0 rfl ?_
  refine go_iconst C 3 dX7_init_5 kc_i3 ?_
  refine go_anewarr5 C 3 (by decide) (by decide) (Nat.le_of_ble_eq_true rfl) tw5_200 ⟨Nat.le_of_ble_eq_true rfl, Nat.le_of_ble_eq_true rfl⟩ dX7_init_6 hw (fun a1 h2 hw => ?_)
  refine go_putRA C (cfX7) (k := 0) (Nat.le_of_ble_eq_true rfl) tw5_205 rfl (Or.inr ⟨rfl, hn, rfl⟩) rfl dX7_init_9 hw (fun h3 hw => ?_)
  refine go_aload_n C dX7_init_12 0 rfl ?_
  refine go_iconst C 0 dX7_init_13 kc_i0 ?_
  refine go_putI C (cfX7) (k := 1) (Nat.le_of_ble_eq_true rfl) tw5_206 rfl (Or.inl rfl) rfl dX7_init_14 hw (fun h4 hw => ?_)
  refine go_aload_n C dX7_init_17 0 rfl ?_
  refine go_iconst C 4 dX7_init_18 kc_i4 ?_
  refine go_anewarr8 C 4 (by decide) (by decide) (Nat.le_of_ble_eq_true rfl) tw5_201 ⟨Nat.le_of_ble_eq_true rfl, Nat.le_of_ble_eq_true rfl⟩ dX7_init_19 hw (fun a5 h6 hw => ?_)
  refine go_putRA C (cfX7) (k := 2) (Nat.le_of_ble_eq_true rfl) tw5_207 rfl (Or.inr ⟨rfl, hn, rfl⟩) rfl dX7_init_22 hw (fun h7 hw => ?_)
  refine go_aload_n C dX7_init_25 0 rfl ?_
  refine go_iconst C 0 dX7_init_26 kc_i0 ?_
  refine go_putI C (cfX7) (k := 3) (Nat.le_of_ble_eq_true rfl) tw5_208 rfl (Or.inl rfl) rfl dX7_init_27 hw (fun h8 hw => ?_)
  refine go_aload_n C dX7_init_30 0 rfl ?_
  refine go_iconst C 3 dX7_init_31 kc_i3 ?_
  refine go_anewarr9 C 3 (by decide) (by decide) (Nat.le_of_ble_eq_true rfl) tw5_203 ⟨Nat.le_of_ble_eq_true rfl, Nat.le_of_ble_eq_true rfl⟩ dX7_init_32 hw (fun a9 h10 hw => ?_)
  refine go_putRA C (cfX7) (k := 4) (Nat.le_of_ble_eq_true rfl) tw5_209 rfl (Or.inr ⟨rfl, hn, rfl⟩) rfl dX7_init_35 hw (fun h11 hw => ?_)
  refine go_aload_n C dX7_init_38 0 rfl ?_
  refine go_iconst C 0 dX7_init_39 kc_i0 ?_
  refine go_putI C (cfX7) (k := 5) (Nat.le_of_ble_eq_true rfl) tw5_210 rfl (Or.inl rfl) rfl dX7_init_40 hw (fun h12 hw => ?_)
  exact go_vret C dX7_init_43 hw (Nat.le_of_ble_eq_true rfl) (Nat.le_of_ble_eq_true rfl)
/-- DuelSchema$Query.conditionCount()I -/
def w_X7_conditionCount (N : Nat) (a0 : Nat) (h0 : Hp) (K : Int32 → Prop) : Prop :=
  gI h0 a0 7 3 fun v1 =>
  K v1
abbrev rmX7_conditionCount : Room := { frames := 2, cells := 0, slots := 0, locals := 60 }
theorem vX7_conditionCount : VI RX7 yX7_conditionCount cX7_conditionCount 1 (some .int) 0 := ⟨tw2_199, tw2_200, tw1_21, tw2_201, by decide +kernel⟩
set_option maxHeartbeats 4000000 in
theorem m_X7_conditionCount {G : Gp} (l : Launch) (hfl : l.stackTraces = false) (N : Nat) {a0 : Nat} {h0 : Hp} {K : Int32 → Prop} (hw : w_X7_conditionCount N a0 h0 K) : MT G l yX7_conditionCount cX7_conditionCount 1 (some .int) rmX7_conditionCount [rV (some a0)] h0 (QI G (fun r h1 => h1 = h0 ∧ K r)) := by
  refine go_metT l hfl _ 1 _ _ rfl (by decide +kernel) (Nat.le_of_ble_eq_true rfl) [(0, rV (some a0))] rfl (fun X hX C hn => ?_)
  subst hX
  unfold w_X7_conditionCount at hw
  refine go_aload_n C dX7_conditionCount_0 0 rfl ?_
  refine go_getI C (cfX7) (k := 3) (Nat.le_of_ble_eq_true rfl) tw5_208 rfl dX7_conditionCount_1 hw (fun v1 hw => ?_)
  exact go_iret C dX7_conditionCount_4 ⟨rfl, hw⟩ (Nat.le_of_ble_eq_true rfl) (Nat.le_of_ble_eq_true rfl)
/-- DuelSchema$Query.joinCount()I -/
def w_X7_joinCount (N : Nat) (a0 : Nat) (h0 : Hp) (K : Int32 → Prop) : Prop :=
  gI h0 a0 7 5 fun v1 =>
  K v1
abbrev rmX7_joinCount : Room := { frames := 2, cells := 0, slots := 0, locals := 60 }
theorem vX7_joinCount : VI RX7 yX7_joinCount cX7_joinCount 1 (some .int) 0 := ⟨tw2_220, tw2_221, tw1_21, tw2_222, by decide +kernel⟩
set_option maxHeartbeats 4000000 in
theorem m_X7_joinCount {G : Gp} (l : Launch) (hfl : l.stackTraces = false) (N : Nat) {a0 : Nat} {h0 : Hp} {K : Int32 → Prop} (hw : w_X7_joinCount N a0 h0 K) : MT G l yX7_joinCount cX7_joinCount 1 (some .int) rmX7_joinCount [rV (some a0)] h0 (QI G (fun r h1 => h1 = h0 ∧ K r)) := by
  refine go_metT l hfl _ 1 _ _ rfl (by decide +kernel) (Nat.le_of_ble_eq_true rfl) [(0, rV (some a0))] rfl (fun X hX C hn => ?_)
  subst hX
  unfold w_X7_joinCount at hw
  refine go_aload_n C dX7_joinCount_0 0 rfl ?_
  refine go_getI C (cfX7) (k := 5) (Nat.le_of_ble_eq_true rfl) tw5_210 rfl dX7_joinCount_1 hw (fun v1 hw => ?_)
  exact go_iret C dX7_joinCount_4 ⟨rfl, hw⟩ (Nat.le_of_ble_eq_true rfl) (Nat.le_of_ble_eq_true rfl)
/-- DuelSchema$Query.hasPosition(I)Z -/
def w_X7_hasPosition (N : Nat) (a0 : Nat) (p1 : Int32) (h0 : Hp) (K : Int32 → Prop) : Prop :=
  br (p1 < 0) (
    K 0) (
    gI h0 a0 7 1 fun v1 =>
    br (v1 ≤ p1) (
      K 0) (
      K 1))
abbrev rmX7_hasPosition : Room := { frames := 2, cells := 0, slots := 0, locals := 60 }
theorem vX7_hasPosition : VI RX7 yX7_hasPosition cX7_hasPosition 2 (some .boolean) 1 := ⟨tw6_109, tw6_110, tw1_21, tw6_111, by decide +kernel⟩
set_option maxHeartbeats 4000000 in
theorem m_X7_hasPosition {G : Gp} (l : Launch) (hfl : l.stackTraces = false) (N : Nat) {a0 : Nat} {p1 : Int32} {h0 : Hp} {K : Int32 → Prop} (hw : w_X7_hasPosition N a0 p1 h0 K) : MT G l yX7_hasPosition cX7_hasPosition 2 (some .boolean) rmX7_hasPosition [rV (some a0), iV p1] h0 (QI G (fun r h1 => h1 = h0 ∧ K r)) := by
  refine go_metT l hfl _ 2 _ _ rfl (by decide +kernel) (Nat.le_of_ble_eq_true rfl) [(0, rV (some a0)), (1, iV p1)] rfl (fun X hX C hn => ?_)
  subst hX
  unfold w_X7_hasPosition at hw
  refine go_iload_n C dX7_hasPosition_0 1 rfl ?_
  refine go_if_lt C 16 dX7_hasPosition_1 (by decide) hw (fun hw => ?_) (fun hw => ?_)
  · refine go_iconst C 0 dX7_hasPosition_16 kc_i0 ?_
    exact go_zret C dX7_hasPosition_17 ⟨rfl, ⟨rfl, hw⟩⟩ (Nat.le_of_ble_eq_true rfl) (Nat.le_of_ble_eq_true rfl)
  refine go_iload_n C dX7_hasPosition_4 1 rfl ?_
  refine go_aload_n C dX7_hasPosition_5 0 rfl ?_
  refine go_getI C (cfX7) (k := 1) (Nat.le_of_ble_eq_true rfl) tw5_206 rfl dX7_hasPosition_6 hw (fun v1 hw => ?_)
  refine go_icmp_ge C 16 dX7_hasPosition_9 (by decide) hw (fun hw => ?_) (fun hw => ?_)
  · refine go_iconst C 0 dX7_hasPosition_16 kc_i0 ?_
    exact go_zret C dX7_hasPosition_17 ⟨rfl, ⟨rfl, hw⟩⟩ (Nat.le_of_ble_eq_true rfl) (Nat.le_of_ble_eq_true rfl)
  refine go_iconst C 1 dX7_hasPosition_12 kc_i1 ?_
  refine go_goto C 17 dX7_hasPosition_13 (by decide) ?_
  exact go_zret C dX7_hasPosition_17 ⟨rfl, ⟨rfl, hw⟩⟩ (Nat.le_of_ble_eq_true rfl) (Nat.le_of_ble_eq_true rfl)
/-- DuelSchema$Query.hasColumn(II)Z -/
def w_X7_hasColumn (N : Nat) (a0 : Nat) (p1 : Int32) (p2 : Int32) (h0 : Hp) (K : Int32 → Prop) : Prop :=
  cv h0 a0 7 <| w_X7_tableOf N a0 p1 h0 fun o1 =>
  brn o1 (
    K 0) (fun a2 =>
    cv h0 a2 10 <| w_X10_hasColumn N a2 p2 h0 fun v3 =>
    br (v3 = 0) (
      K 0) (
      K 1))
abbrev rmX7_hasColumn : Room := { frames := 3, cells := 0, slots := 0, locals := 81 }
theorem vX7_hasColumn : VI RX7 yX7_hasColumn cX7_hasColumn 4 (some .boolean) 2 := ⟨tw6_9, tw6_10, tw1_21, tw6_11, by decide +kernel⟩
set_option maxHeartbeats 4000000 in
theorem m_X7_hasColumn {G : Gp} (l : Launch) (hfl : l.stackTraces = false) (N : Nat) {a0 : Nat} {p1 : Int32} {p2 : Int32} {h0 : Hp} {K : Int32 → Prop} (hw : w_X7_hasColumn N a0 p1 p2 h0 K) : MT G l yX7_hasColumn cX7_hasColumn 4 (some .boolean) rmX7_hasColumn [rV (some a0), iV p1, iV p2] h0 (QI G (fun r h1 => h1 = h0 ∧ K r)) := by
  refine go_metT l hfl _ 4 _ _ rfl (by decide +kernel) (Nat.le_of_ble_eq_true rfl) [(0, rV (some a0)), (1, iV p1), (2, iV p2)] rfl (fun X hX C hn => ?_)
  subst hX
  unfold w_X7_hasColumn at hw
  refine go_aload_n C dX7_hasColumn_0 0 rfl ?_
  refine go_iload_n C dX7_hasColumn_1 1 rfl ?_
  refine go_pV_q C [iV p1] vX7_tableOf tw6_12 (ci := 7) rfl (m_X7_tableOf (xl X) C.2.2.2.2.2.2.2.1 N hw.2) ⟨Nat.le_of_ble_eq_true rfl, Nat.le_of_ble_eq_true rfl, Nat.le_of_ble_eq_true rfl, Nat.le_of_ble_eq_true rfl⟩ ⟨rfl, rfl⟩ hw.1 dX7_hasColumn_2 rfl (Nat.le_of_ble_eq_true rfl) rfl (fun o1 hw => ?_)
  refine go_astore_n C [(3, rV o1), (0, rV (some a0)), (1, iV p1), (2, iV p2)] dX7_hasColumn_5 (Nat.le_of_ble_eq_true rfl) rfl ?_
  refine go_aload_n C dX7_hasColumn_6 0 rfl ?_
  refine go_ifnull C 22 dX7_hasColumn_7 (by decide) hw (fun e9 hw9 => ?_) (fun a2 e9 hw9 => ?_)
  · clear hw
    subst e9
    have hw := hw9
    clear hw9
    refine go_iconst C 0 dX7_hasColumn_22 kc_i0 ?_
    exact go_zret C dX7_hasColumn_23 ⟨rfl, ⟨rfl, hw⟩⟩ (Nat.le_of_ble_eq_true rfl) (Nat.le_of_ble_eq_true rfl)
  clear hw
  subst e9
  have hw := hw9
  clear hw9
  refine go_aload_n C dX7_hasColumn_10 0 rfl ?_
  refine go_iload_n C dX7_hasColumn_11 3 rfl ?_
  refine go_pV_i C [iV p2] vX10_hasColumn tw6_13 (ci := 10) rfl (m_X10_hasColumn (xl X) C.2.2.2.2.2.2.2.1 N hw.2) ⟨Nat.le_of_ble_eq_true rfl, Nat.le_of_ble_eq_true rfl, Nat.le_of_ble_eq_true rfl, Nat.le_of_ble_eq_true rfl⟩ ⟨rfl, rfl⟩ hw.1 dX7_hasColumn_12 rfl (Nat.le_of_ble_eq_true rfl) rfl (fun v3 hw => ?_)
  refine go_if_eq C 22 dX7_hasColumn_15 (by decide) hw (fun hw => ?_) (fun hw => ?_)
  · refine go_iconst C 0 dX7_hasColumn_22 kc_i0 ?_
    exact go_zret C dX7_hasColumn_23 ⟨rfl, ⟨rfl, hw⟩⟩ (Nat.le_of_ble_eq_true rfl) (Nat.le_of_ble_eq_true rfl)
  refine go_iconst C 1 dX7_hasColumn_18 kc_i1 ?_
  refine go_goto C 23 dX7_hasColumn_19 (by decide) ?_
  exact go_zret C dX7_hasColumn_23 ⟨rfl, ⟨rfl, hw⟩⟩ (Nat.le_of_ble_eq_true rfl) (Nat.le_of_ble_eq_true rfl)
/-- DuelSchema$Query.addPosition(LDuelSchema$Table;)Z -/
def w_X7_addPosition (N : Nat) (a0 : Nat) (p1 : Option Nat) (h0 : Hp) (K : Int32 → Hp → Prop) : Prop :=
  gI h0 a0 7 1 fun v1 =>
  br (v1 < 0) (
    K 0 h0) (
    gI h0 a0 7 1 fun v2 =>
    gA h0 a0 7 0 fun a3 =>
    aN h0 a3 fun v4 =>
    br (v2 < v4) (
      gA h0 a0 7 0 fun a5 =>
      gI h0 a0 7 1 fun v6 =>
      nn p1 fun a7 => sR h0 a5 5 v6 a7 10 fun h8 =>
      gI h8 a0 7 1 fun v9 =>
      pF h8 a0 7 1 (iV (v9 + 1)) fun h10 =>
      K 1 h10) (
      K 0 h0))
abbrev rmX7_addPosition : Room := { frames := 2, cells := 0, slots := 0, locals := 60 }
theorem vX7_addPosition : VI RX7 yX7_addPosition cX7_addPosition 2 (some .boolean) 1 := ⟨tw5_237, tw5_238, tw1_21, tw5_239, by decide +kernel⟩
set_option maxHeartbeats 4000000 in
theorem m_X7_addPosition {G : Gp} (l : Launch) (hfl : l.stackTraces = false) (N : Nat) {a0 : Nat} {p1 : Option Nat} {h0 : Hp} {K : Int32 → Hp → Prop} (hw : w_X7_addPosition N a0 p1 h0 K) : MT G l yX7_addPosition cX7_addPosition 2 (some .boolean) rmX7_addPosition [rV (some a0), rV p1] h0 (QI G K) := by
  refine go_metT l hfl _ 2 _ _ rfl (by decide +kernel) (Nat.le_of_ble_eq_true rfl) [(0, rV (some a0)), (1, rV p1)] rfl (fun X hX C hn => ?_)
  subst hX
  unfold w_X7_addPosition at hw
  refine go_aload_n C dX7_addPosition_0 0 rfl ?_
  refine go_getI C (cfX7) (k := 1) (Nat.le_of_ble_eq_true rfl) tw5_206 rfl dX7_addPosition_1 hw (fun v1 hw => ?_)
  refine go_if_lt C 19 dX7_addPosition_4 (by decide) hw (fun hw => ?_) (fun hw => ?_)
  · refine go_iconst C 0 dX7_addPosition_19 kc_i0 ?_
    exact go_zret C dX7_addPosition_20 ⟨rfl, hw⟩ (Nat.le_of_ble_eq_true rfl) (Nat.le_of_ble_eq_true rfl)
  refine go_aload_n C dX7_addPosition_7 0 rfl ?_
  refine go_getI C (cfX7) (k := 1) (Nat.le_of_ble_eq_true rfl) tw5_206 rfl dX7_addPosition_8 hw (fun v2 hw => ?_)
  refine go_aload_n C dX7_addPosition_11 0 rfl ?_
  refine go_getA C (cfX7) (k := 0) (Nat.le_of_ble_eq_true rfl) tw5_205 rfl dX7_addPosition_12 hw (fun a3 hw => ?_)
  refine go_alen C dX7_addPosition_15 hw (fun v4 hw => ?_)
  refine go_icmp_lt C 21 dX7_addPosition_16 (by decide) hw (fun hw => ?_) (fun hw => ?_)
  · refine go_aload_n C dX7_addPosition_21 0 rfl ?_
    refine go_getA C (cfX7) (k := 0) (Nat.le_of_ble_eq_true rfl) tw5_205 rfl dX7_addPosition_22 hw (fun a5 hw => ?_)
    refine go_aload_n C dX7_addPosition_25 0 rfl ?_
    refine go_getI C (cfX7) (k := 1) (Nat.le_of_ble_eq_true rfl) tw5_206 rfl dX7_addPosition_26 hw (fun v6 hw => ?_)
    refine go_aload_n C dX7_addPosition_29 1 rfl ?_
    obtain ⟨a7, e9, hw9⟩ := hw
    subst e9
    have hw := hw9
    clear hw9
    refine go_aastore5 C dX7_addPosition_30 hw (fun h8 hw => ?_)
    refine go_aload_n C dX7_addPosition_31 0 rfl ?_
    refine go_dup C _ dX7_addPosition_32 rfl ?_
    refine go_getI C (cfX7) (k := 1) (Nat.le_of_ble_eq_true rfl) tw5_206 rfl dX7_addPosition_33 hw (fun v9 hw => ?_)
    refine go_iconst C 1 dX7_addPosition_36 kc_i1 ?_
    refine go_iadd C dX7_addPosition_37 ?_
    refine go_putI C (cfX7) (k := 1) (Nat.le_of_ble_eq_true rfl) tw5_206 rfl (Or.inl rfl) rfl dX7_addPosition_38 hw (fun h10 hw => ?_)
    refine go_iconst C 1 dX7_addPosition_41 kc_i1 ?_
    exact go_zret C dX7_addPosition_42 ⟨rfl, hw⟩ (Nat.le_of_ble_eq_true rfl) (Nat.le_of_ble_eq_true rfl)
  refine go_iconst C 0 dX7_addPosition_19 kc_i0 ?_
  exact go_zret C dX7_addPosition_20 ⟨rfl, hw⟩ (Nat.le_of_ble_eq_true rfl) (Nat.le_of_ble_eq_true rfl)
/-- DuelSchema$Query.addCondition(LDuelSchema$Condition;)V -/
def w_X7_addCondition (N : Nat) (a0 : Nat) (p1 : Option Nat) (h0 : Hp) (K : Hp → Prop) : Prop :=
  gI h0 a0 7 3 fun v1 =>
  br (v1 < 0) (
    K h0) (
    gI h0 a0 7 3 fun v2 =>
    gA h0 a0 7 2 fun a3 =>
    aN h0 a3 fun v4 =>
    br (v4 ≤ v2) (
      K h0) (
      gA h0 a0 7 2 fun a5 =>
      gI h0 a0 7 3 fun v6 =>
      nn p1 fun a7 => sR h0 a5 8 v6 a7 1 fun h8 =>
      gI h8 a0 7 3 fun v9 =>
      pF h8 a0 7 3 (iV (v9 + 1)) fun h10 =>
      K h10))
abbrev rmX7_addCondition : Room := { frames := 2, cells := 0, slots := 0, locals := 60 }
theorem vX7_addCondition : VI RX7 yX7_addCondition cX7_addCondition 2 none 1 := ⟨tw6_37, tw6_38, tw1_21, tw6_39, by decide +kernel⟩
set_option maxHeartbeats 4000000 in
theorem m_X7_addCondition {G : Gp} (l : Launch) (hfl : l.stackTraces = false) (N : Nat) {a0 : Nat} {p1 : Option Nat} {h0 : Hp} {K : Hp → Prop} (hw : w_X7_addCondition N a0 p1 h0 K) : MT G l yX7_addCondition cX7_addCondition 2 none rmX7_addCondition [rV (some a0), rV p1] h0 (QV G K) := by
  refine go_metT l hfl _ 2 _ _ rfl (by decide +kernel) (Nat.le_of_ble_eq_true rfl) [(0, rV (some a0)), (1, rV p1)] rfl (fun X hX C hn => ?_)
  subst hX
  unfold w_X7_addCondition at hw
  refine go_aload_n C dX7_addCondition_0 0 rfl ?_
  refine go_getI C (cfX7) (k := 3) (Nat.le_of_ble_eq_true rfl) tw5_208 rfl dX7_addCondition_1 hw (fun v1 hw => ?_)
  refine go_if_lt C 39 dX7_addCondition_4 (by decide) hw (fun hw => ?_) (fun hw => ?_)
  · exact go_vret C dX7_addCondition_39 hw (Nat.le_of_ble_eq_true rfl) (Nat.le_of_ble_eq_true rfl)
  refine go_aload_n C dX7_addCondition_7 0 rfl ?_
  refine go_getI C (cfX7) (k := 3) (Nat.le_of_ble_eq_true rfl) tw5_208 rfl dX7_addCondition_8 hw (fun v2 hw => ?_)
  refine go_aload_n C dX7_addCondition_11 0 rfl ?_
  refine go_getA C (cfX7) (k := 2) (Nat.le_of_ble_eq_true rfl) tw5_207 rfl dX7_addCondition_12 hw (fun a3 hw => ?_)
  refine go_alen C dX7_addCondition_15 hw (fun v4 hw => ?_)
  refine go_icmp_ge C 39 dX7_addCondition_16 (by decide) hw (fun hw => ?_) (fun hw => ?_)
  · exact go_vret C dX7_addCondition_39 hw (Nat.le_of_ble_eq_true rfl) (Nat.le_of_ble_eq_true rfl)
  refine go_aload_n C dX7_addCondition_19 0 rfl ?_
  refine go_getA C (cfX7) (k := 2) (Nat.le_of_ble_eq_true rfl) tw5_207 rfl dX7_addCondition_20 hw (fun a5 hw => ?_)
  refine go_aload_n C dX7_addCondition_23 0 rfl ?_
  refine go_getI C (cfX7) (k := 3) (Nat.le_of_ble_eq_true rfl) tw5_208 rfl dX7_addCondition_24 hw (fun v6 hw => ?_)
  refine go_aload_n C dX7_addCondition_27 1 rfl ?_
  obtain ⟨a7, e9, hw9⟩ := hw
  subst e9
  have hw := hw9
  clear hw9
  refine go_aastore8 C dX7_addCondition_28 hw (fun h8 hw => ?_)
  refine go_aload_n C dX7_addCondition_29 0 rfl ?_
  refine go_dup C _ dX7_addCondition_30 rfl ?_
  refine go_getI C (cfX7) (k := 3) (Nat.le_of_ble_eq_true rfl) tw5_208 rfl dX7_addCondition_31 hw (fun v9 hw => ?_)
  refine go_iconst C 1 dX7_addCondition_34 kc_i1 ?_
  refine go_iadd C dX7_addCondition_35 ?_
  refine go_putI C (cfX7) (k := 3) (Nat.le_of_ble_eq_true rfl) tw5_208 rfl (Or.inl rfl) rfl dX7_addCondition_36 hw (fun h10 hw => ?_)
  exact go_vret C dX7_addCondition_39 hw (Nat.le_of_ble_eq_true rfl) (Nat.le_of_ble_eq_true rfl)
/-- DuelSchema$Query.addJoin(LDuelSchema$Join;)V -/
def w_X7_addJoin (N : Nat) (a0 : Nat) (p1 : Option Nat) (h0 : Hp) (K : Hp → Prop) : Prop :=
  gI h0 a0 7 5 fun v1 =>
  br (v1 < 0) (
    K h0) (
    gI h0 a0 7 5 fun v2 =>
    gA h0 a0 7 4 fun a3 =>
    aN h0 a3 fun v4 =>
    br (v4 ≤ v2) (
      K h0) (
      gA h0 a0 7 4 fun a5 =>
      gI h0 a0 7 5 fun v6 =>
      nn p1 fun a7 => sR h0 a5 9 v6 a7 4 fun h8 =>
      gI h8 a0 7 5 fun v9 =>
      pF h8 a0 7 5 (iV (v9 + 1)) fun h10 =>
      K h10))
abbrev rmX7_addJoin : Room := { frames := 2, cells := 0, slots := 0, locals := 60 }
theorem vX7_addJoin : VI RX7 yX7_addJoin cX7_addJoin 2 none 1 := ⟨tw6_70, tw6_71, tw1_21, tw6_72, by decide +kernel⟩
set_option maxHeartbeats 4000000 in
theorem m_X7_addJoin {G : Gp} (l : Launch) (hfl : l.stackTraces = false) (N : Nat) {a0 : Nat} {p1 : Option Nat} {h0 : Hp} {K : Hp → Prop} (hw : w_X7_addJoin N a0 p1 h0 K) : MT G l yX7_addJoin cX7_addJoin 2 none rmX7_addJoin [rV (some a0), rV p1] h0 (QV G K) := by
  refine go_metT l hfl _ 2 _ _ rfl (by decide +kernel) (Nat.le_of_ble_eq_true rfl) [(0, rV (some a0)), (1, rV p1)] rfl (fun X hX C hn => ?_)
  subst hX
  unfold w_X7_addJoin at hw
  refine go_aload_n C dX7_addJoin_0 0 rfl ?_
  refine go_getI C (cfX7) (k := 5) (Nat.le_of_ble_eq_true rfl) tw5_210 rfl dX7_addJoin_1 hw (fun v1 hw => ?_)
  refine go_if_lt C 39 dX7_addJoin_4 (by decide) hw (fun hw => ?_) (fun hw => ?_)
  · exact go_vret C dX7_addJoin_39 hw (Nat.le_of_ble_eq_true rfl) (Nat.le_of_ble_eq_true rfl)
  refine go_aload_n C dX7_addJoin_7 0 rfl ?_
  refine go_getI C (cfX7) (k := 5) (Nat.le_of_ble_eq_true rfl) tw5_210 rfl dX7_addJoin_8 hw (fun v2 hw => ?_)
  refine go_aload_n C dX7_addJoin_11 0 rfl ?_
  refine go_getA C (cfX7) (k := 4) (Nat.le_of_ble_eq_true rfl) tw5_209 rfl dX7_addJoin_12 hw (fun a3 hw => ?_)
  refine go_alen C dX7_addJoin_15 hw (fun v4 hw => ?_)
  refine go_icmp_ge C 39 dX7_addJoin_16 (by decide) hw (fun hw => ?_) (fun hw => ?_)
  · exact go_vret C dX7_addJoin_39 hw (Nat.le_of_ble_eq_true rfl) (Nat.le_of_ble_eq_true rfl)
  refine go_aload_n C dX7_addJoin_19 0 rfl ?_
  refine go_getA C (cfX7) (k := 4) (Nat.le_of_ble_eq_true rfl) tw5_209 rfl dX7_addJoin_20 hw (fun a5 hw => ?_)
  refine go_aload_n C dX7_addJoin_23 0 rfl ?_
  refine go_getI C (cfX7) (k := 5) (Nat.le_of_ble_eq_true rfl) tw5_210 rfl dX7_addJoin_24 hw (fun v6 hw => ?_)
  refine go_aload_n C dX7_addJoin_27 1 rfl ?_
  obtain ⟨a7, e9, hw9⟩ := hw
  subst e9
  have hw := hw9
  clear hw9
  refine go_aastore9 C dX7_addJoin_28 hw (fun h8 hw => ?_)
  refine go_aload_n C dX7_addJoin_29 0 rfl ?_
  refine go_dup C _ dX7_addJoin_30 rfl ?_
  refine go_getI C (cfX7) (k := 5) (Nat.le_of_ble_eq_true rfl) tw5_210 rfl dX7_addJoin_31 hw (fun v9 hw => ?_)
  refine go_iconst C 1 dX7_addJoin_34 kc_i1 ?_
  refine go_iadd C dX7_addJoin_35 ?_
  refine go_putI C (cfX7) (k := 5) (Nat.le_of_ble_eq_true rfl) tw5_210 rfl (Or.inl rfl) rfl dX7_addJoin_36 hw (fun h10 hw => ?_)
  exact go_vret C dX7_addJoin_39 hw (Nat.le_of_ble_eq_true rfl) (Nat.le_of_ble_eq_true rfl)
/-- DuelSchema.leafKey(LDuelSchema$Index;I)I -/
def w_X11_leafKey (N : Nat) (p0 : Option Nat) (p1 : Int32) (h0 : Hp) (K : Int32 → Prop) : Prop :=
  nn p0 fun a1 => cv h0 a1 3 <| w_X3_number N a1  h0 fun v2 =>
  K ((100 * (3 + v2)) + (p1 / 8))
abbrev rmX11_leafKey : Room := { frames := 3, cells := 0, slots := 0, locals := 80 }
theorem vX11_leafKey : SI yX11_leafKey cX11_leafKey 2 (some .int) 2 := ⟨tw3_51, tw1_1, tw3_52, by decide +kernel⟩
set_option maxHeartbeats 4000000 in
theorem m_X11_leafKey {G : Gp} (l : Launch) (hfl : l.stackTraces = false) (N : Nat) {p0 : Option Nat} {p1 : Int32} {h0 : Hp} {K : Int32 → Prop} (hw : w_X11_leafKey N p0 p1 h0 K) : MT G l yX11_leafKey cX11_leafKey 2 (some .int) rmX11_leafKey [rV p0, iV p1] h0 (QI G (fun r h1 => h1 = h0 ∧ K r)) := by
  refine go_metT l hfl _ 2 _ _ rfl (by decide +kernel) (Nat.le_of_ble_eq_true rfl) [(0, rV p0), (1, iV p1)] rfl (fun X hX C hn => ?_)
  subst hX
  unfold w_X11_leafKey at hw
  refine go_bipush C 100 dX11_leafKey_0 kc_b100 ?_
  refine go_iconst C 3 dX11_leafKey_2 kc_i3 ?_
  refine go_aload_n C dX11_leafKey_3 0 rfl ?_
  obtain ⟨a1, e9, hw9⟩ := hw
  subst e9
  have hw := hw9
  clear hw9
  refine go_pV_i C [] vX3_number tw3_53 (ci := 3) rfl (m_X3_number (xl X) C.2.2.2.2.2.2.2.1 N hw.2) ⟨Nat.le_of_ble_eq_true rfl, Nat.le_of_ble_eq_true rfl, Nat.le_of_ble_eq_true rfl, Nat.le_of_ble_eq_true rfl⟩ ⟨rfl, rfl⟩ hw.1 dX11_leafKey_4 rfl (Nat.le_of_ble_eq_true rfl) rfl (fun v2 hw => ?_)
  refine go_iadd C dX11_leafKey_7 ?_
  refine go_imul C dX11_leafKey_8 ?_
  refine go_iload_n C dX11_leafKey_9 1 rfl ?_
  refine go_bipush C 8 dX11_leafKey_10 kc_b8 ?_
  refine go_idiv C dX11_leafKey_12 ⟨by decide, hw⟩ (fun hw => ?_)
  refine go_iadd C dX11_leafKey_13 ?_
  exact go_iret C dX11_leafKey_14 ⟨rfl, hw⟩ (Nat.le_of_ble_eq_true rfl) (Nat.le_of_ble_eq_true rfl)
/-- DuelSchema$Table.number()I -/
def w_X10_number (N : Nat) (a0 : Nat) (h0 : Hp) (K : Int32 → Prop) : Prop :=
  gI h0 a0 10 0 fun v1 =>
  K v1
abbrev rmX10_number : Room := { frames := 2, cells := 0, slots := 0, locals := 60 }
theorem vX10_number : VI RX10 yX10_number cX10_number 1 (some .int) 0 := ⟨tw2_177, tw2_178, tw1_13, tw2_179, by decide +kernel⟩
set_option maxHeartbeats 4000000 in
theorem m_X10_number {G : Gp} (l : Launch) (hfl : l.stackTraces = false) (N : Nat) {a0 : Nat} {h0 : Hp} {K : Int32 → Prop} (hw : w_X10_number N a0 h0 K) : MT G l yX10_number cX10_number 1 (some .int) rmX10_number [rV (some a0)] h0 (QI G (fun r h1 => h1 = h0 ∧ K r)) := by
  refine go_metT l hfl _ 1 _ _ rfl (by decide +kernel) (Nat.le_of_ble_eq_true rfl) [(0, rV (some a0))] rfl (fun X hX C hn => ?_)
  subst hX
  unfold w_X10_number at hw
  refine go_aload_n C dX10_number_0 0 rfl ?_
  refine go_getI C (cfX10) (k := 0) (Nat.le_of_ble_eq_true rfl) tw4_95 rfl dX10_number_1 hw (fun v1 hw => ?_)
  exact go_iret C dX10_number_4 ⟨rfl, hw⟩ (Nat.le_of_ble_eq_true rfl) (Nat.le_of_ble_eq_true rfl)
/-- DuelSchema.pageKey(LDuelSchema$Table;I)I -/
def w_X11_pageKey (N : Nat) (p0 : Option Nat) (p1 : Int32) (h0 : Hp) (K : Int32 → Prop) : Prop :=
  nn p0 fun a1 => cv h0 a1 10 <| w_X10_number N a1  h0 fun v2 =>
  K ((100 * v2) + (p1 / 4))
abbrev rmX11_pageKey : Room := { frames := 3, cells := 0, slots := 0, locals := 80 }
theorem vX11_pageKey : SI yX11_pageKey cX11_pageKey 2 (some .int) 2 := ⟨tw2_174, tw1_1, tw2_175, by decide +kernel⟩
set_option maxHeartbeats 4000000 in
theorem m_X11_pageKey {G : Gp} (l : Launch) (hfl : l.stackTraces = false) (N : Nat) {p0 : Option Nat} {p1 : Int32} {h0 : Hp} {K : Int32 → Prop} (hw : w_X11_pageKey N p0 p1 h0 K) : MT G l yX11_pageKey cX11_pageKey 2 (some .int) rmX11_pageKey [rV p0, iV p1] h0 (QI G (fun r h1 => h1 = h0 ∧ K r)) := by
  refine go_metT l hfl _ 2 _ _ rfl (by decide +kernel) (Nat.le_of_ble_eq_true rfl) [(0, rV p0), (1, iV p1)] rfl (fun X hX C hn => ?_)
  subst hX
  unfold w_X11_pageKey at hw
  refine go_bipush C 100 dX11_pageKey_0 kc_b100 ?_
  refine go_aload_n C dX11_pageKey_2 0 rfl ?_
  obtain ⟨a1, e9, hw9⟩ := hw
  subst e9
  have hw := hw9
  clear hw9
  refine go_pV_i C [] vX10_number tw2_176 (ci := 10) rfl (m_X10_number (xl X) C.2.2.2.2.2.2.2.1 N hw.2) ⟨Nat.le_of_ble_eq_true rfl, Nat.le_of_ble_eq_true rfl, Nat.le_of_ble_eq_true rfl, Nat.le_of_ble_eq_true rfl⟩ ⟨rfl, rfl⟩ hw.1 dX11_pageKey_3 rfl (Nat.le_of_ble_eq_true rfl) rfl (fun v2 hw => ?_)
  refine go_imul C dX11_pageKey_6 ?_
  refine go_iload_n C dX11_pageKey_7 1 rfl ?_
  refine go_iconst C 4 dX11_pageKey_8 kc_i4 ?_
  refine go_idiv C dX11_pageKey_9 ⟨by decide, hw⟩ (fun hw => ?_)
  refine go_iadd C dX11_pageKey_10 ?_
  exact go_iret C dX11_pageKey_11 ⟨rfl, hw⟩ (Nat.le_of_ble_eq_true rfl) (Nat.le_of_ble_eq_true rfl)
/-- DuelSchema$Table.rowsEver()I -/
def w_X10_rowsEver (N : Nat) (a0 : Nat) (h0 : Hp) (K : Int32 → Prop) : Prop :=
  gI h0 a0 10 2 fun v1 =>
  K v1
abbrev rmX10_rowsEver : Room := { frames := 2, cells := 0, slots := 0, locals := 60 }
theorem vX10_rowsEver : VI RX10 yX10_rowsEver cX10_rowsEver 1 (some .int) 0 := ⟨tw2_167, tw2_168, tw1_13, tw2_169, by decide +kernel⟩
set_option maxHeartbeats 4000000 in
theorem m_X10_rowsEver {G : Gp} (l : Launch) (hfl : l.stackTraces = false) (N : Nat) {a0 : Nat} {h0 : Hp} {K : Int32 → Prop} (hw : w_X10_rowsEver N a0 h0 K) : MT G l yX10_rowsEver cX10_rowsEver 1 (some .int) rmX10_rowsEver [rV (some a0)] h0 (QI G (fun r h1 => h1 = h0 ∧ K r)) := by
  refine go_metT l hfl _ 1 _ _ rfl (by decide +kernel) (Nat.le_of_ble_eq_true rfl) [(0, rV (some a0))] rfl (fun X hX C hn => ?_)
  subst hX
  unfold w_X10_rowsEver at hw
  refine go_aload_n C dX10_rowsEver_0 0 rfl ?_
  refine go_getI C (cfX10) (k := 2) (Nat.le_of_ble_eq_true rfl) tw4_97 rfl dX10_rowsEver_1 hw (fun v1 hw => ?_)
  exact go_iret C dX10_rowsEver_4 ⟨rfl, hw⟩ (Nat.le_of_ble_eq_true rfl) (Nat.le_of_ble_eq_true rfl)
/-- DuelSchema$Table.<init>(II)V -/
def w_X10_init (N : Nat) (a0 : Nat) (p1 : Int32) (p2 : Int32) (h0 : Hp) (K : Hp → Prop) : Prop :=
  pF h0 a0 10 2 (iV 0) fun h1 =>
  pF h1 a0 10 3 (iV 0) fun h2 =>
  nA h2 (.inl (1, 40, .inl (fun _ => 0))) fun a3 h4 =>
  pF h4 a0 10 4 (rV (some a3)) fun h5 =>
  nA h5 (.inl (0, 120, .inl (fun _ => 0))) fun a6 h7 =>
  pF h7 a0 10 5 (rV (some a6)) fun h8 =>
  nA h8 (.inl (0, 3, .inl (fun _ => 0))) fun a9 h10 =>
  pF h10 a0 10 6 (rV (some a9)) fun h11 =>
  nA h11 (.inl (0, 3, .inl (fun _ => 0))) fun a12 h13 =>
  sI h13 a12 0 0 99 fun h14 =>
  sI h14 a12 0 1 99 fun h15 =>
  sI h15 a12 0 2 99 fun h16 =>
  pF h16 a0 10 7 (rV (some a12)) fun h17 =>
  pF h17 a0 10 8 (iV 0) fun h18 =>
  pF h18 a0 10 9 (iV 0) fun h19 =>
  nA h19 (.inl (0, 3, .inl (fun _ => 0))) fun a20 h21 =>
  pF h21 a0 10 10 (rV (some a20)) fun h22 =>
  nA h22 (.inl (0, 3, .inl (fun _ => 0))) fun a23 h24 =>
  pF h24 a0 10 11 (rV (some a23)) fun h25 =>
  nA h25 (.inl (0, 3, .inl (fun _ => 0))) fun a26 h27 =>
  pF h27 a0 10 12 (rV (some a26)) fun h28 =>
  pF h28 a0 10 0 (iV p1) fun h29 =>
  pF h29 a0 10 1 (iV p2) fun h30 =>
  K h30
abbrev rmX10_init : Room := { frames := 2, cells := 7, slots := 175, locals := 60 }
theorem vX10_init : II yX10_init cX10_init 3 2 := ⟨tw4_92, tw1_13, tw4_93, rfl, by decide +kernel⟩
set_option maxHeartbeats 4000000 in
theorem m_X10_init {G : Gp} (l : Launch) (hfl : l.stackTraces = false) (N : Nat) {a0 : Nat} {p1 : Int32} {p2 : Int32} {h0 : Hp} {K : Hp → Prop} (hw : w_X10_init N a0 p1 p2 h0 K) : MT G l yX10_init cX10_init 3 none rmX10_init [rV (some a0), iV p1, iV p2] h0 (QV G K) := by
  refine go_metT l hfl _ 3 _ _ rfl (by decide +kernel) (Nat.le_of_ble_eq_true rfl) [(0, rV (some a0)), (1, iV p1), (2, iV p2)] rfl (fun X hX C hn => ?_)
  subst hX
  unfold w_X10_init at hw
  refine go_aload_n C dX10_init_0 0 rfl ?_
  refine go_objinit C tw4_94 tw1_33 tw1_34 dX10_init_1 ⟨Nat.le_of_ble_eq_true rfl, Nat.le_of_ble_eq_true rfl⟩ (Nat.le_of_ble_eq_true rfl) ?_
  refine go_aload_n C dX10_init_4 0 rfl ?_
  refine go_iconst C 0 dX10_init_5 kc_i0 ?_
  refine go_putI C (cfX10) (k := 2) (Nat.le_of_ble_eq_true rfl) tw4_97 rfl (Or.inl rfl) rfl dX10_init_6 hw (fun h1 hw => ?_)
  refine go_aload_n C dX10_init_9 0 rfl ?_
  refine go_iconst C 0 dX10_init_10 kc_i0 ?_
  refine go_putI C (cfX10) (k := 3) (Nat.le_of_ble_eq_true rfl) tw4_98 rfl (Or.inl rfl) rfl dX10_init_11 hw (fun h2 hw => ?_)
  refine go_aload_n C dX10_init_14 0 rfl ?_
  refine go_bipush C 40 dX10_init_15 kc_b40 ?_
  refine go_newarr1 C 40 (by decide) (by decide) (Nat.le_of_ble_eq_true rfl) tw4_135 ⟨Nat.le_of_ble_eq_true rfl, Nat.le_of_ble_eq_true rfl⟩ dX10_init_17 hw (fun a3 h4 hw => ?_)
  refine go_putRA C (cfX10) (k := 4) (Nat.le_of_ble_eq_true rfl) tw4_99 rfl (Or.inr ⟨rfl, hn, rfl⟩) rfl dX10_init_19 hw (fun h5 hw => ?_)
  refine go_aload_n C dX10_init_22 0 rfl ?_
  refine go_bipush C 120 dX10_init_23 kc_b120 ?_
  refine go_newarr0 C 120 (by decide) (by decide) (Nat.le_of_ble_eq_true rfl) tw1_76 ⟨Nat.le_of_ble_eq_true rfl, Nat.le_of_ble_eq_true rfl⟩ dX10_init_25 hw (fun a6 h7 hw => ?_)
  refine go_putRA C (cfX10) (k := 5) (Nat.le_of_ble_eq_true rfl) tw4_100 rfl (Or.inr ⟨rfl, hn, rfl⟩) rfl dX10_init_27 hw (fun h8 hw => ?_)
  refine go_aload_n C dX10_init_30 0 rfl ?_
  refine go_iconst C 3 dX10_init_31 kc_i3 ?_
  refine go_newarr0 C 3 (by decide) (by decide) (Nat.le_of_ble_eq_true rfl) tw1_76 ⟨Nat.le_of_ble_eq_true rfl, Nat.le_of_ble_eq_true rfl⟩ dX10_init_32 hw (fun a9 h10 hw => ?_)
  refine go_putRA C (cfX10) (k := 6) (Nat.le_of_ble_eq_true rfl) tw4_101 rfl (Or.inr ⟨rfl, hn, rfl⟩) rfl dX10_init_34 hw (fun h11 hw => ?_)
  refine go_aload_n C dX10_init_37 0 rfl ?_
  refine go_iconst C 3 dX10_init_38 kc_i3 ?_
  refine go_newarr0 C 3 (by decide) (by decide) (Nat.le_of_ble_eq_true rfl) tw1_76 ⟨Nat.le_of_ble_eq_true rfl, Nat.le_of_ble_eq_true rfl⟩ dX10_init_39 hw (fun a12 h13 hw => ?_)
  refine go_dup C _ dX10_init_41 rfl ?_
  refine go_iconst C 0 dX10_init_42 kc_i0 ?_
  refine go_bipush C 99 dX10_init_43 kc_b99 ?_
  refine go_iastore C dX10_init_45 hw (fun h14 hw => ?_)
  refine go_dup C _ dX10_init_46 rfl ?_
  refine go_iconst C 1 dX10_init_47 kc_i1 ?_
  refine go_bipush C 99 dX10_init_48 kc_b99 ?_
  refine go_iastore C dX10_init_50 hw (fun h15 hw => ?_)
  refine go_dup C _ dX10_init_51 rfl ?_
  refine go_iconst C 2 dX10_init_52 kc_i2 ?_
  refine go_bipush C 99 dX10_init_53 kc_b99 ?_
  refine go_iastore C dX10_init_55 hw (fun h16 hw => ?_)
  refine go_putRA C (cfX10) (k := 7) (Nat.le_of_ble_eq_true rfl) tw4_102 rfl (Or.inr ⟨rfl, hn, rfl⟩) rfl dX10_init_56 hw (fun h17 hw => ?_)
  refine go_aload_n C dX10_init_59 0 rfl ?_
  refine go_iconst C 0 dX10_init_60 kc_i0 ?_
  refine go_putI C (cfX10) (k := 8) (Nat.le_of_ble_eq_true rfl) tw4_103 rfl (Or.inl rfl) rfl dX10_init_61 hw (fun h18 hw => ?_)
  refine go_aload_n C dX10_init_64 0 rfl ?_
  refine go_iconst C 0 dX10_init_65 kc_i0 ?_
  refine go_putI C (cfX10) (k := 9) (Nat.le_of_ble_eq_true rfl) tw4_104 rfl (Or.inl rfl) rfl dX10_init_66 hw (fun h19 hw => ?_)
  refine go_aload_n C dX10_init_69 0 rfl ?_
  refine go_iconst C 3 dX10_init_70 kc_i3 ?_
  refine go_newarr0 C 3 (by decide) (by decide) (Nat.le_of_ble_eq_true rfl) tw1_76 ⟨Nat.le_of_ble_eq_true rfl, Nat.le_of_ble_eq_true rfl⟩ dX10_init_71 hw (fun a20 h21 hw => ?_)
  refine go_putRA C (cfX10) (k := 10) (Nat.le_of_ble_eq_true rfl) tw4_105 rfl (Or.inr ⟨rfl, hn, rfl⟩) rfl dX10_init_73 hw (fun h22 hw => ?_)
  refine go_aload_n C dX10_init_76 0 rfl ?_
  refine go_iconst C 3 dX10_init_77 kc_i3 ?_
  refine go_newarr0 C 3 (by decide) (by decide) (Nat.le_of_ble_eq_true rfl) tw1_76 ⟨Nat.le_of_ble_eq_true rfl, Nat.le_of_ble_eq_true rfl⟩ dX10_init_78 hw (fun a23 h24 hw => ?_)
  refine go_putRA C (cfX10) (k := 11) (Nat.le_of_ble_eq_true rfl) tw4_106 rfl (Or.inr ⟨rfl, hn, rfl⟩) rfl dX10_init_80 hw (fun h25 hw => ?_)
  refine go_aload_n C dX10_init_83 0 rfl ?_
  refine go_iconst C 3 dX10_init_84 kc_i3 ?_
  refine go_newarr0 C 3 (by decide) (by decide) (Nat.le_of_ble_eq_true rfl) tw1_76 ⟨Nat.le_of_ble_eq_true rfl, Nat.le_of_ble_eq_true rfl⟩ dX10_init_85 hw (fun a26 h27 hw => ?_)
  refine go_putRA C (cfX10) (k := 12) (Nat.le_of_ble_eq_true rfl) tw4_107 rfl (Or.inr ⟨rfl, hn, rfl⟩) rfl dX10_init_87 hw (fun h28 hw => ?_)
  refine go_aload_n C dX10_init_90 0 rfl ?_
  refine go_iload_n C dX10_init_91 1 rfl ?_
  refine go_putI C (cfX10) (k := 0) (Nat.le_of_ble_eq_true rfl) tw4_95 rfl (Or.inr ⟨rfl, hn, rfl⟩) rfl dX10_init_92 hw (fun h29 hw => ?_)
  refine go_aload_n C dX10_init_95 0 rfl ?_
  refine go_iload_n C dX10_init_96 2 rfl ?_
  refine go_putI C (cfX10) (k := 1) (Nat.le_of_ble_eq_true rfl) tw4_96 rfl (Or.inr ⟨rfl, hn, rfl⟩) rfl dX10_init_97 hw (fun h30 hw => ?_)
  exact go_vret C dX10_init_100 hw (Nat.le_of_ble_eq_true rfl) (Nat.le_of_ble_eq_true rfl)
/-- DuelSchema$Table.addRow(III)I -/
def w_X10_addRow (N : Nat) (a0 : Nat) (p1 : Int32) (p2 : Int32) (p3 : Int32) (h0 : Hp) (K : Int32 → Hp → Prop) : Prop :=
  gI h0 a0 10 2 fun v1 =>
  br (v1 < 0) (
    K (-1) h0) (
    gA h0 a0 10 4 fun a2 =>
    aN h0 a2 fun v3 =>
    br (v3 ≤ v1) (
      K (-1) h0) (
      br ((v1 * 3) < 0) (
        K (-1) h0) (
        gA h0 a0 10 5 fun a4 =>
        aN h0 a4 fun v5 =>
        br (((v1 * 3) + 2) < v5) (
          gA h0 a0 10 5 fun a6 =>
          sI h0 a6 0 (v1 * 3) p1 fun h7 =>
          gA h7 a0 10 5 fun a8 =>
          sI h7 a8 0 ((v1 * 3) + 1) p2 fun h9 =>
          gA h9 a0 10 5 fun a10 =>
          sI h9 a10 0 ((v1 * 3) + 2) p3 fun h11 =>
          gA h11 a0 10 4 fun a12 =>
          sI h11 a12 1 v1 (vp_nar .boolean 1) fun h13 =>
          gI h13 a0 10 2 fun v14 =>
          pF h13 a0 10 2 (iV (v14 + 1)) fun h15 =>
          gI h15 a0 10 3 fun v16 =>
          pF h15 a0 10 3 (iV (v16 + 1)) fun h17 =>
          K v1 h17) (
          K (-1) h0))))
abbrev rmX10_addRow : Room := { frames := 2, cells := 0, slots := 0, locals := 60 }
theorem vX10_addRow : VI RX10 yX10_addRow cX10_addRow 6 (some .int) 3 := ⟨tw4_238, tw4_239, tw1_13, tw5_0, by decide +kernel⟩
set_option maxHeartbeats 4000000 in
theorem m_X10_addRow {G : Gp} (l : Launch) (hfl : l.stackTraces = false) (N : Nat) {a0 : Nat} {p1 : Int32} {p2 : Int32} {p3 : Int32} {h0 : Hp} {K : Int32 → Hp → Prop} (hw : w_X10_addRow N a0 p1 p2 p3 h0 K) : MT G l yX10_addRow cX10_addRow 6 (some .int) rmX10_addRow [rV (some a0), iV p1, iV p2, iV p3] h0 (QI G K) := by
  refine go_metT l hfl _ 6 _ _ rfl (by decide +kernel) (Nat.le_of_ble_eq_true rfl) [(0, rV (some a0)), (1, iV p1), (2, iV p2), (3, iV p3)] rfl (fun X hX C hn => ?_)
  subst hX
  unfold w_X10_addRow at hw
  refine go_aload_n C dX10_addRow_0 0 rfl ?_
  refine go_getI C (cfX10) (k := 2) (Nat.le_of_ble_eq_true rfl) tw4_97 rfl dX10_addRow_1 hw (fun v1 hw => ?_)
  refine go_istore C [(4, iV v1), (0, rV (some a0)), (1, iV p1), (2, iV p2), (3, iV p3)] dX10_addRow_4 (Nat.le_of_ble_eq_true rfl) rfl ?_
  refine go_iload C dX10_addRow_6 0 rfl ?_
  refine go_iconst C 3 dX10_addRow_8 kc_i3 ?_
  refine go_imul C dX10_addRow_9 ?_
  refine go_istore C [(5, iV (v1 * 3)), (4, iV v1), (0, rV (some a0)), (1, iV p1), (2, iV p2), (3, iV p3)] dX10_addRow_10 (Nat.le_of_ble_eq_true rfl) rfl ?_
  refine go_iload C dX10_addRow_12 1 rfl ?_
  refine go_if_lt C 44 dX10_addRow_14 (by decide) hw (fun hw => ?_) (fun hw => ?_)
  · refine go_iconst C (-1) dX10_addRow_44 kc_im1 ?_
    exact go_iret C dX10_addRow_45 hw (Nat.le_of_ble_eq_true rfl) (Nat.le_of_ble_eq_true rfl)
  refine go_iload C dX10_addRow_17 1 rfl ?_
  refine go_aload_n C dX10_addRow_19 2 rfl ?_
  refine go_getA C (cfX10) (k := 4) (Nat.le_of_ble_eq_true rfl) tw4_99 rfl dX10_addRow_20 hw (fun a2 hw => ?_)
  refine go_alen C dX10_addRow_23 hw (fun v3 hw => ?_)
  refine go_icmp_ge C 44 dX10_addRow_24 (by decide) hw (fun hw => ?_) (fun hw => ?_)
  · refine go_iconst C (-1) dX10_addRow_44 kc_im1 ?_
    exact go_iret C dX10_addRow_45 hw (Nat.le_of_ble_eq_true rfl) (Nat.le_of_ble_eq_true rfl)
  refine go_iload C dX10_addRow_27 0 rfl ?_
  refine go_if_lt C 44 dX10_addRow_29 (by decide) hw (fun hw => ?_) (fun hw => ?_)
  · refine go_iconst C (-1) dX10_addRow_44 kc_im1 ?_
    exact go_iret C dX10_addRow_45 hw (Nat.le_of_ble_eq_true rfl) (Nat.le_of_ble_eq_true rfl)
  refine go_iload C dX10_addRow_32 0 rfl ?_
  refine go_iconst C 2 dX10_addRow_34 kc_i2 ?_
  refine go_iadd C dX10_addRow_35 ?_
  refine go_aload_n C dX10_addRow_36 2 rfl ?_
  refine go_getA C (cfX10) (k := 5) (Nat.le_of_ble_eq_true rfl) tw4_100 rfl dX10_addRow_37 hw (fun a4 hw => ?_)
  refine go_alen C dX10_addRow_40 hw (fun v5 hw => ?_)
  refine go_icmp_lt C 46 dX10_addRow_41 (by decide) hw (fun hw => ?_) (fun hw => ?_)
  · refine go_aload_n C dX10_addRow_46 2 rfl ?_
    refine go_getA C (cfX10) (k := 5) (Nat.le_of_ble_eq_true rfl) tw4_100 rfl dX10_addRow_47 hw (fun a6 hw => ?_)
    refine go_iload C dX10_addRow_50 0 rfl ?_
    refine go_iload_n C dX10_addRow_52 3 rfl ?_
    refine go_iastore C dX10_addRow_53 hw (fun h7 hw => ?_)
    refine go_aload_n C dX10_addRow_54 2 rfl ?_
    refine go_getA C (cfX10) (k := 5) (Nat.le_of_ble_eq_true rfl) tw4_100 rfl dX10_addRow_55 hw (fun a8 hw => ?_)
    refine go_iload C dX10_addRow_58 0 rfl ?_
    refine go_iconst C 1 dX10_addRow_60 kc_i1 ?_
    refine go_iadd C dX10_addRow_61 ?_
    refine go_iload_n C dX10_addRow_62 4 rfl ?_
    refine go_iastore C dX10_addRow_63 hw (fun h9 hw => ?_)
    refine go_aload_n C dX10_addRow_64 2 rfl ?_
    refine go_getA C (cfX10) (k := 5) (Nat.le_of_ble_eq_true rfl) tw4_100 rfl dX10_addRow_65 hw (fun a10 hw => ?_)
    refine go_iload C dX10_addRow_68 0 rfl ?_
    refine go_iconst C 2 dX10_addRow_70 kc_i2 ?_
    refine go_iadd C dX10_addRow_71 ?_
    refine go_iload_n C dX10_addRow_72 5 rfl ?_
    refine go_iastore C dX10_addRow_73 hw (fun h11 hw => ?_)
    refine go_aload_n C dX10_addRow_74 2 rfl ?_
    refine go_getA C (cfX10) (k := 4) (Nat.le_of_ble_eq_true rfl) tw4_99 rfl dX10_addRow_75 hw (fun a12 hw => ?_)
    refine go_iload C dX10_addRow_78 1 rfl ?_
    refine go_iconst C 1 dX10_addRow_80 kc_i1 ?_
    refine go_zastore C dX10_addRow_81 hw (fun h13 hw => ?_)
    refine go_aload_n C dX10_addRow_82 2 rfl ?_
    refine go_dup C _ dX10_addRow_83 rfl ?_
    refine go_getI C (cfX10) (k := 2) (Nat.le_of_ble_eq_true rfl) tw4_97 rfl dX10_addRow_84 hw (fun v14 hw => ?_)
    refine go_iconst C 1 dX10_addRow_87 kc_i1 ?_
    refine go_iadd C dX10_addRow_88 ?_
    refine go_putI C (cfX10) (k := 2) (Nat.le_of_ble_eq_true rfl) tw4_97 rfl (Or.inl rfl) rfl dX10_addRow_89 hw (fun h15 hw => ?_)
    refine go_aload_n C dX10_addRow_92 2 rfl ?_
    refine go_dup C _ dX10_addRow_93 rfl ?_
    refine go_getI C (cfX10) (k := 3) (Nat.le_of_ble_eq_true rfl) tw4_98 rfl dX10_addRow_94 hw (fun v16 hw => ?_)
    refine go_iconst C 1 dX10_addRow_97 kc_i1 ?_
    refine go_iadd C dX10_addRow_98 ?_
    refine go_putI C (cfX10) (k := 3) (Nat.le_of_ble_eq_true rfl) tw4_98 rfl (Or.inl rfl) rfl dX10_addRow_99 hw (fun h17 hw => ?_)
    refine go_iload C dX10_addRow_102 1 rfl ?_
    exact go_iret C dX10_addRow_104 hw (Nat.le_of_ble_eq_true rfl) (Nat.le_of_ble_eq_true rfl)
  refine go_iconst C (-1) dX10_addRow_44 kc_im1 ?_
  exact go_iret C dX10_addRow_45 hw (Nat.le_of_ble_eq_true rfl) (Nat.le_of_ble_eq_true rfl)
/-- DuelSchema$Table.dropRow(I)V -/
def w_X10_dropRow (N : Nat) (a0 : Nat) (p1 : Int32) (h0 : Hp) (K : Hp → Prop) : Prop :=
  cv h0 a0 10 <| w_X10_hasRow N a0 p1 h0 fun v1 =>
  br (v1 = 0) (
    K h0) (
    gA h0 a0 10 4 fun a2 =>
    sI h0 a2 1 p1 (vp_nar .boolean 0) fun h3 =>
    gI h3 a0 10 3 fun v4 =>
    pF h3 a0 10 3 (iV (v4 - 1)) fun h5 =>
    K h5)
abbrev rmX10_dropRow : Room := { frames := 3, cells := 0, slots := 0, locals := 81 }
theorem vX10_dropRow : VI RX10 yX10_dropRow cX10_dropRow 2 none 1 := ⟨tw5_53, tw5_54, tw1_13, tw5_55, by decide +kernel⟩
set_option maxHeartbeats 4000000 in
theorem m_X10_dropRow {G : Gp} (l : Launch) (hfl : l.stackTraces = false) (N : Nat) {a0 : Nat} {p1 : Int32} {h0 : Hp} {K : Hp → Prop} (hw : w_X10_dropRow N a0 p1 h0 K) : MT G l yX10_dropRow cX10_dropRow 2 none rmX10_dropRow [rV (some a0), iV p1] h0 (QV G K) := by
  refine go_metT l hfl _ 2 _ _ rfl (by decide +kernel) (Nat.le_of_ble_eq_true rfl) [(0, rV (some a0)), (1, iV p1)] rfl (fun X hX C hn => ?_)
  subst hX
  unfold w_X10_dropRow at hw
  refine go_aload_n C dX10_dropRow_0 0 rfl ?_
  refine go_iload_n C dX10_dropRow_1 1 rfl ?_
  refine go_pV_i C [iV p1] vX10_hasRow tw5_56 (ci := 10) rfl (m_X10_hasRow (xl X) C.2.2.2.2.2.2.2.1 N hw.2) ⟨Nat.le_of_ble_eq_true rfl, Nat.le_of_ble_eq_true rfl, Nat.le_of_ble_eq_true rfl, Nat.le_of_ble_eq_true rfl⟩ ⟨rfl, rfl⟩ hw.1 dX10_dropRow_2 rfl (Nat.le_of_ble_eq_true rfl) rfl (fun v1 hw => ?_)
  refine go_if_eq C 25 dX10_dropRow_5 (by decide) hw (fun hw => ?_) (fun hw => ?_)
  · exact go_vret C dX10_dropRow_25 hw (Nat.le_of_ble_eq_true rfl) (Nat.le_of_ble_eq_true rfl)
  refine go_aload_n C dX10_dropRow_8 0 rfl ?_
  refine go_getA C (cfX10) (k := 4) (Nat.le_of_ble_eq_true rfl) tw4_99 rfl dX10_dropRow_9 hw (fun a2 hw => ?_)
  refine go_iload_n C dX10_dropRow_12 1 rfl ?_
  refine go_iconst C 0 dX10_dropRow_13 kc_i0 ?_
  refine go_zastore C dX10_dropRow_14 hw (fun h3 hw => ?_)
  refine go_aload_n C dX10_dropRow_15 0 rfl ?_
  refine go_dup C _ dX10_dropRow_16 rfl ?_
  refine go_getI C (cfX10) (k := 3) (Nat.le_of_ble_eq_true rfl) tw4_98 rfl dX10_dropRow_17 hw (fun v4 hw => ?_)
  refine go_iconst C 1 dX10_dropRow_20 kc_i1 ?_
  refine go_isub C dX10_dropRow_21 ?_
  refine go_putI C (cfX10) (k := 3) (Nat.le_of_ble_eq_true rfl) tw4_98 rfl (Or.inl rfl) rfl dX10_dropRow_22 hw (fun h5 hw => ?_)
  exact go_vret C dX10_dropRow_25 hw (Nat.le_of_ble_eq_true rfl) (Nat.le_of_ble_eq_true rfl)
/-- DuelSchema$Table.printFrom(J)J -/
def w_X10_printFrom (N : Nat) (a0 : Nat) (p1 : Int64) (h0 : Hp) (K : Int64 → Prop) : Prop :=
  fx2 (fun (w5 : Int64 → Int32 → Prop) (y1 : Int64) (x2 : Int32) =>
    gA h0 a0 10 4 fun a3 =>
    aN h0 a3 fun v4 =>
    br (v4 ≤ x2) (
      K y1) (
      fx2 (fun (w18 : Int64 → Int32 → Prop) (y5 : Int64) (x6 : Int32) =>
        gA h0 a0 10 4 fun a7 =>
        aI h0 a7 1 x2 fun v8 =>
        jn (
          w5 y5 (x2 + 1)) (fun j59 =>
        br (v8 = 0) (
          j59 ) (
          gI h0 a0 10 1 fun v9 =>
          br (v9 ≤ x6) (
            j59 ) (
            cv h0 a0 10 <| w_X10_cell N a0 x2 x6 h0 fun v10 =>
            w18 ((31 * y5) + ((v10 : Int32).toInt64)) (x6 + 1))))) N y1 0)) N p1 0
abbrev rmX10_printFrom : Room := { frames := 3, cells := 0, slots := 0, locals := 83 }
theorem vX10_printFrom : VI RX10 yX10_printFrom cX10_printFrom 7 (some .long) 1 := ⟨tw2_53, tw2_54, tw1_13, tw2_55, by decide +kernel⟩
set_option maxHeartbeats 4000000 in
theorem m_X10_printFrom {G : Gp} (l : Launch) (hfl : l.stackTraces = false) (N : Nat) {a0 : Nat} {p1 : Int64} {h0 : Hp} {K : Int64 → Prop} (hw : w_X10_printFrom N a0 p1 h0 K) : MT G l yX10_printFrom cX10_printFrom 7 (some .long) rmX10_printFrom [rV (some a0), lV p1] h0 (QL G (fun r h1 => h1 = h0 ∧ K r)) := by
  refine go_metT l hfl _ 7 _ _ rfl (by decide +kernel) (Nat.le_of_ble_eq_true rfl) [(0, rV (some a0)), (1, lV p1)] rfl (fun X hX C hn => ?_)
  subst hX
  unfold w_X10_printFrom at hw
  refine go_lload_n C dX10_printFrom_0 1 rfl ?_
  refine go_lstore_n C [(3, lV p1), (0, rV (some a0)), (1, lV p1)] dX10_printFrom_1 (Nat.le_of_ble_eq_true rfl) rfl ?_
  refine go_iconst C 0 dX10_printFrom_2 kc_i0 ?_
  refine go_istore C [(5, iV 0), (3, lV p1), (0, rV (some a0)), (1, lV p1)] dX10_printFrom_3 (Nat.le_of_ble_eq_true rfl) rfl ?_
  refine go_sub [2, 1, 0] rfl ?_
  refine fx2_elim (P := fun y1 x2 => Go G X rmX10_printFrom 7 0 0 (QN G X (QL G (fun r h1 => h1 = h0 ∧ K r)) rmX10_printFrom) h0 5 [(0, rV (some a0)), (3, lV y1), (5, iV x2)] []) (fun w5 hj5 y1 x2 hw => ?_) N _ _ hw
  refine go_iload C dX10_printFrom_5 2 rfl ?_
  refine go_aload_n C dX10_printFrom_7 0 rfl ?_
  refine go_getA C (cfX10) (k := 4) (Nat.le_of_ble_eq_true rfl) tw4_99 rfl dX10_printFrom_8 hw (fun a3 hw => ?_)
  refine go_alen C dX10_printFrom_11 hw (fun v4 hw => ?_)
  refine go_icmp_ge C 65 dX10_printFrom_12 (by decide) hw (fun hw => ?_) (fun hw => ?_)
  · refine go_lload_n C dX10_printFrom_65 1 rfl ?_
    exact go_lret C dX10_printFrom_66 ⟨rfl, hw⟩ (Nat.le_of_ble_eq_true rfl) (Nat.le_of_ble_eq_true rfl)
  refine go_iconst C 0 dX10_printFrom_15 kc_i0 ?_
  refine go_istore C [(6, iV 0), (0, rV (some a0)), (3, lV y1), (5, iV x2)] dX10_printFrom_16 (Nat.le_of_ble_eq_true rfl) rfl ?_
  refine go_sub [1, 2, 3, 0] rfl ?_
  refine fx2_elim (P := fun y5 x6 => Go G X rmX10_printFrom 7 0 0 (QN G X (QL G (fun r h1 => h1 = h0 ∧ K r)) rmX10_printFrom) h0 18 [(0, rV (some a0)), (3, lV y5), (5, iV x2), (6, iV x6)] []) (fun w18 hj18 y5 x6 hw => ?_) N _ _ hw
  refine go_aload_n C dX10_printFrom_18 0 rfl ?_
  refine go_getA C (cfX10) (k := 4) (Nat.le_of_ble_eq_true rfl) tw4_99 rfl dX10_printFrom_19 hw (fun a7 hw => ?_)
  refine go_iload C dX10_printFrom_22 2 rfl ?_
  refine go_zaload C dX10_printFrom_24 hw (fun v8 hw => ?_)
  refine jn_elim (P := fun j => j  → Go G X rmX10_printFrom 7 0 0 (QN G X (QL G (fun r h1 => h1 = h0 ∧ K r)) rmX10_printFrom) h0 59 [(0, rV (some a0)), (3, lV y5), (5, iV x2)] []) hw (fun  hw => ?_) (fun j59 hj59 hw => ?_)
  · refine go_iinc C (x2 + 1) [(5, iV (x2 + 1)), (0, rV (some a0)), (3, lV y5)] dX10_printFrom_59 2 rfl (by rw [kc_i1]) (Nat.le_of_ble_eq_true rfl) rfl ?_
    refine go_goto C 5 dX10_printFrom_62 (by decide) ?_
    refine go_sub [1, 2, 0] rfl ?_
    exact hj5 y5 (x2 + 1) hw
  refine go_if_eq C 59 dX10_printFrom_25 (by decide) hw (fun hw => ?_) (fun hw => ?_)
  · refine go_sub [0, 1, 2] rfl ?_
    exact hj59  hw
  refine go_iload C dX10_printFrom_28 3 rfl ?_
  refine go_aload_n C dX10_printFrom_30 0 rfl ?_
  refine go_getI C (cfX10) (k := 1) (Nat.le_of_ble_eq_true rfl) tw4_96 rfl dX10_printFrom_31 hw (fun v9 hw => ?_)
  refine go_icmp_ge C 59 dX10_printFrom_34 (by decide) hw (fun hw => ?_) (fun hw => ?_)
  · refine go_sub [0, 1, 2] rfl ?_
    exact hj59  hw
  refine go_ldc2 C 31 dX10_printFrom_37 tw2_56 ?_
  refine go_lload_n C dX10_printFrom_40 1 rfl ?_
  refine go_lmul C dX10_printFrom_41 ?_
  refine go_aload_n C dX10_printFrom_42 0 rfl ?_
  refine go_iload C dX10_printFrom_43 2 rfl ?_
  refine go_iload C dX10_printFrom_45 3 rfl ?_
  refine go_pV_i C [iV x2, iV x6] vX10_cell tw2_57 (ci := 10) rfl (m_X10_cell (xl X) C.2.2.2.2.2.2.2.1 N hw.2) ⟨Nat.le_of_ble_eq_true rfl, Nat.le_of_ble_eq_true rfl, Nat.le_of_ble_eq_true rfl, Nat.le_of_ble_eq_true rfl⟩ ⟨rfl, rfl⟩ hw.1 dX10_printFrom_47 rfl (Nat.le_of_ble_eq_true rfl) rfl (fun v10 hw => ?_)
  refine go_i2l C dX10_printFrom_50 ?_
  refine go_ladd C dX10_printFrom_51 ?_
  refine go_lstore_n C [(3, lV ((31 * y5) + ((v10 : Int32).toInt64))), (0, rV (some a0)), (5, iV x2), (6, iV x6)] dX10_printFrom_52 (Nat.le_of_ble_eq_true rfl) rfl ?_
  refine go_iinc C (x6 + 1) [(6, iV (x6 + 1)), (3, lV ((31 * y5) + ((v10 : Int32).toInt64))), (0, rV (some a0)), (5, iV x2)] dX10_printFrom_53 3 rfl (by rw [kc_i1]) (Nat.le_of_ble_eq_true rfl) rfl ?_
  refine go_goto C 18 dX10_printFrom_56 (by decide) ?_
  refine go_sub [2, 1, 3, 0] rfl ?_
  exact hj18 ((31 * y5) + ((v10 : Int32).toInt64)) (x6 + 1) hw
/-- DuelSchema$Table.pageCount()I -/
def w_X10_pageCount (N : Nat) (a0 : Nat) (h0 : Hp) (K : Int32 → Prop) : Prop :=
  gI h0 a0 10 2 fun v1 =>
  K (((v1 + 4) - 1) / 4)
abbrev rmX10_pageCount : Room := { frames := 2, cells := 0, slots := 0, locals := 60 }
theorem vX10_pageCount : VI RX10 yX10_pageCount cX10_pageCount 1 (some .int) 0 := ⟨tw5_74, tw5_75, tw1_13, tw5_76, by decide +kernel⟩
set_option maxHeartbeats 4000000 in
theorem m_X10_pageCount {G : Gp} (l : Launch) (hfl : l.stackTraces = false) (N : Nat) {a0 : Nat} {h0 : Hp} {K : Int32 → Prop} (hw : w_X10_pageCount N a0 h0 K) : MT G l yX10_pageCount cX10_pageCount 1 (some .int) rmX10_pageCount [rV (some a0)] h0 (QI G (fun r h1 => h1 = h0 ∧ K r)) := by
  refine go_metT l hfl _ 1 _ _ rfl (by decide +kernel) (Nat.le_of_ble_eq_true rfl) [(0, rV (some a0))] rfl (fun X hX C hn => ?_)
  subst hX
  unfold w_X10_pageCount at hw
  refine go_aload_n C dX10_pageCount_0 0 rfl ?_
  refine go_getI C (cfX10) (k := 2) (Nat.le_of_ble_eq_true rfl) tw4_97 rfl dX10_pageCount_1 hw (fun v1 hw => ?_)
  refine go_iconst C 4 dX10_pageCount_4 kc_i4 ?_
  refine go_iadd C dX10_pageCount_5 ?_
  refine go_iconst C 1 dX10_pageCount_6 kc_i1 ?_
  refine go_isub C dX10_pageCount_7 ?_
  refine go_iconst C 4 dX10_pageCount_8 kc_i4 ?_
  refine go_idiv C dX10_pageCount_9 ⟨by decide, hw⟩ (fun hw => ?_)
  exact go_iret C dX10_pageCount_10 ⟨rfl, hw⟩ (Nat.le_of_ble_eq_true rfl) (Nat.le_of_ble_eq_true rfl)
/-- DuelSchema$Table.setBounds(III)V -/
def w_X10_setBounds (N : Nat) (a0 : Nat) (p1 : Int32) (p2 : Int32) (p3 : Int32) (h0 : Hp) (K : Hp → Prop) : Prop :=
  cv h0 a0 10 <| w_X10_hasColumn N a0 p1 h0 fun v1 =>
  br (v1 = 0) (
    K h0) (
    gA h0 a0 10 6 fun a2 =>
    sI h0 a2 0 p1 p2 fun h3 =>
    gA h3 a0 10 7 fun a4 =>
    sI h3 a4 0 p1 p3 fun h5 =>
    K h5)
abbrev rmX10_setBounds : Room := { frames := 3, cells := 0, slots := 0, locals := 81 }
theorem vX10_setBounds : VI RX10 yX10_setBounds cX10_setBounds 4 none 3 := ⟨tw4_210, tw4_211, tw1_13, tw4_212, by decide +kernel⟩
set_option maxHeartbeats 4000000 in
theorem m_X10_setBounds {G : Gp} (l : Launch) (hfl : l.stackTraces = false) (N : Nat) {a0 : Nat} {p1 : Int32} {p2 : Int32} {p3 : Int32} {h0 : Hp} {K : Hp → Prop} (hw : w_X10_setBounds N a0 p1 p2 p3 h0 K) : MT G l yX10_setBounds cX10_setBounds 4 none rmX10_setBounds [rV (some a0), iV p1, iV p2, iV p3] h0 (QV G K) := by
  refine go_metT l hfl _ 4 _ _ rfl (by decide +kernel) (Nat.le_of_ble_eq_true rfl) [(0, rV (some a0)), (1, iV p1), (2, iV p2), (3, iV p3)] rfl (fun X hX C hn => ?_)
  subst hX
  unfold w_X10_setBounds at hw
  refine go_aload_n C dX10_setBounds_0 0 rfl ?_
  refine go_iload_n C dX10_setBounds_1 1 rfl ?_
  refine go_pV_i C [iV p1] vX10_hasColumn tw3_86 (ci := 10) rfl (m_X10_hasColumn (xl X) C.2.2.2.2.2.2.2.1 N hw.2) ⟨Nat.le_of_ble_eq_true rfl, Nat.le_of_ble_eq_true rfl, Nat.le_of_ble_eq_true rfl, Nat.le_of_ble_eq_true rfl⟩ ⟨rfl, rfl⟩ hw.1 dX10_setBounds_2 rfl (Nat.le_of_ble_eq_true rfl) rfl (fun v1 hw => ?_)
  refine go_if_eq C 22 dX10_setBounds_5 (by decide) hw (fun hw => ?_) (fun hw => ?_)
  · exact go_vret C dX10_setBounds_22 hw (Nat.le_of_ble_eq_true rfl) (Nat.le_of_ble_eq_true rfl)
  refine go_aload_n C dX10_setBounds_8 0 rfl ?_
  refine go_getA C (cfX10) (k := 6) (Nat.le_of_ble_eq_true rfl) tw4_101 rfl dX10_setBounds_9 hw (fun a2 hw => ?_)
  refine go_iload_n C dX10_setBounds_12 1 rfl ?_
  refine go_iload_n C dX10_setBounds_13 2 rfl ?_
  refine go_iastore C dX10_setBounds_14 hw (fun h3 hw => ?_)
  refine go_aload_n C dX10_setBounds_15 0 rfl ?_
  refine go_getA C (cfX10) (k := 7) (Nat.le_of_ble_eq_true rfl) tw4_102 rfl dX10_setBounds_16 hw (fun a4 hw => ?_)
  refine go_iload_n C dX10_setBounds_19 1 rfl ?_
  refine go_iload_n C dX10_setBounds_20 3 rfl ?_
  refine go_iastore C dX10_setBounds_21 hw (fun h5 hw => ?_)
  exact go_vret C dX10_setBounds_22 hw (Nat.le_of_ble_eq_true rfl) (Nat.le_of_ble_eq_true rfl)
/-- DuelSchema$Table.isWithin(II)Z -/
def w_X10_isWithin (N : Nat) (a0 : Nat) (p1 : Int32) (p2 : Int32) (h0 : Hp) (K : Int32 → Prop) : Prop :=
  cv h0 a0 10 <| w_X10_hasColumn N a0 p1 h0 fun v1 =>
  br (v1 = 0) (
    K 1) (
    gA h0 a0 10 6 fun a2 =>
    aI h0 a2 0 p1 fun v3 =>
    br (p2 < v3) (
      K 0) (
      gA h0 a0 10 7 fun a4 =>
      aI h0 a4 0 p1 fun v5 =>
      br (v5 < p2) (
        K 0) (
        K 1)))
abbrev rmX10_isWithin : Room := { frames := 3, cells := 0, slots := 0, locals := 81 }
theorem vX10_isWithin : VI RX10 yX10_isWithin cX10_isWithin 3 (some .boolean) 2 := ⟨tw4_219, tp32, tw1_13, tw4_220, by decide +kernel⟩
set_option maxHeartbeats 4000000 in
theorem m_X10_isWithin {G : Gp} (l : Launch) (hfl : l.stackTraces = false) (N : Nat) {a0 : Nat} {p1 : Int32} {p2 : Int32} {h0 : Hp} {K : Int32 → Prop} (hw : w_X10_isWithin N a0 p1 p2 h0 K) : MT G l yX10_isWithin cX10_isWithin 3 (some .boolean) rmX10_isWithin [rV (some a0), iV p1, iV p2] h0 (QI G (fun r h1 => h1 = h0 ∧ K r)) := by
  refine go_metT l hfl _ 3 _ _ rfl (by decide +kernel) (Nat.le_of_ble_eq_true rfl) [(0, rV (some a0)), (1, iV p1), (2, iV p2)] rfl (fun X hX C hn => ?_)
  subst hX
  unfold w_X10_isWithin at hw
  refine go_aload_n C dX10_isWithin_0 0 rfl ?_
  refine go_iload_n C dX10_isWithin_1 1 rfl ?_
  refine go_pV_i C [iV p1] vX10_hasColumn tw3_86 (ci := 10) rfl (m_X10_hasColumn (xl X) C.2.2.2.2.2.2.2.1 N hw.2) ⟨Nat.le_of_ble_eq_true rfl, Nat.le_of_ble_eq_true rfl, Nat.le_of_ble_eq_true rfl, Nat.le_of_ble_eq_true rfl⟩ ⟨rfl, rfl⟩ hw.1 dX10_isWithin_2 rfl (Nat.le_of_ble_eq_true rfl) rfl (fun v1 hw => ?_)
  refine go_if_eq C 28 dX10_isWithin_5 (by decide) hw (fun hw => ?_) (fun hw => ?_)
  · refine go_iconst C 1 dX10_isWithin_28 kc_i1 ?_
    refine go_goto C 33 dX10_isWithin_29 (by decide) ?_
    exact go_zret C dX10_isWithin_33 ⟨rfl, ⟨rfl, hw⟩⟩ (Nat.le_of_ble_eq_true rfl) (Nat.le_of_ble_eq_true rfl)
  refine go_iload_n C dX10_isWithin_8 2 rfl ?_
  refine go_aload_n C dX10_isWithin_9 0 rfl ?_
  refine go_getA C (cfX10) (k := 6) (Nat.le_of_ble_eq_true rfl) tw4_101 rfl dX10_isWithin_10 hw (fun a2 hw => ?_)
  refine go_iload_n C dX10_isWithin_13 1 rfl ?_
  refine go_iaload C dX10_isWithin_14 hw (fun v3 hw => ?_)
  refine go_icmp_lt C 32 dX10_isWithin_15 (by decide) hw (fun hw => ?_) (fun hw => ?_)
  · refine go_iconst C 0 dX10_isWithin_32 kc_i0 ?_
    exact go_zret C dX10_isWithin_33 ⟨rfl, ⟨rfl, hw⟩⟩ (Nat.le_of_ble_eq_true rfl) (Nat.le_of_ble_eq_true rfl)
  refine go_iload_n C dX10_isWithin_18 2 rfl ?_
  refine go_aload_n C dX10_isWithin_19 0 rfl ?_
  refine go_getA C (cfX10) (k := 7) (Nat.le_of_ble_eq_true rfl) tw4_102 rfl dX10_isWithin_20 hw (fun a4 hw => ?_)
  refine go_iload_n C dX10_isWithin_23 1 rfl ?_
  refine go_iaload C dX10_isWithin_24 hw (fun v5 hw => ?_)
  refine go_icmp_gt C 32 dX10_isWithin_25 (by decide) hw (fun hw => ?_) (fun hw => ?_)
  · refine go_iconst C 0 dX10_isWithin_32 kc_i0 ?_
    exact go_zret C dX10_isWithin_33 ⟨rfl, ⟨rfl, hw⟩⟩ (Nat.le_of_ble_eq_true rfl) (Nat.le_of_ble_eq_true rfl)
  refine go_iconst C 1 dX10_isWithin_28 kc_i1 ?_
  refine go_goto C 33 dX10_isWithin_29 (by decide) ?_
  exact go_zret C dX10_isWithin_33 ⟨rfl, ⟨rfl, hw⟩⟩ (Nat.le_of_ble_eq_true rfl) (Nat.le_of_ble_eq_true rfl)
/-- DuelSchema$Table.admits(III)Z -/
def w_X10_admits (N : Nat) (a0 : Nat) (p1 : Int32) (p2 : Int32) (p3 : Int32) (h0 : Hp) (K : Int32 → Prop) : Prop :=
  cv h0 a0 10 <| w_X10_isWithin N a0 0 p1 h0 fun v1 =>
  br (v1 = 0) (
    K 0) (
    cv h0 a0 10 <| w_X10_isWithin N a0 1 p2 h0 fun v2 =>
    br (v2 = 0) (
      K 0) (
      cv h0 a0 10 <| w_X10_isWithin N a0 2 p3 h0 fun v3 =>
      br (v3 = 0) (
        K 0) (
        K 1)))
abbrev rmX10_admits : Room := { frames := 4, cells := 0, slots := 0, locals := 103 }
theorem vX10_admits : VI RX10 yX10_admits cX10_admits 4 (some .boolean) 3 := ⟨tw4_229, tw4_230, tw1_13, tw4_231, by decide +kernel⟩
set_option maxHeartbeats 4000000 in
theorem m_X10_admits {G : Gp} (l : Launch) (hfl : l.stackTraces = false) (N : Nat) {a0 : Nat} {p1 : Int32} {p2 : Int32} {p3 : Int32} {h0 : Hp} {K : Int32 → Prop} (hw : w_X10_admits N a0 p1 p2 p3 h0 K) : MT G l yX10_admits cX10_admits 4 (some .boolean) rmX10_admits [rV (some a0), iV p1, iV p2, iV p3] h0 (QI G (fun r h1 => h1 = h0 ∧ K r)) := by
  refine go_metT l hfl _ 4 _ _ rfl (by decide +kernel) (Nat.le_of_ble_eq_true rfl) [(0, rV (some a0)), (1, iV p1), (2, iV p2), (3, iV p3)] rfl (fun X hX C hn => ?_)
  subst hX
  unfold w_X10_admits at hw
  refine go_aload_n C dX10_admits_0 0 rfl ?_
  refine go_iconst C 0 dX10_admits_1 kc_i0 ?_
  refine go_iload_n C dX10_admits_2 1 rfl ?_
  refine go_pV_i C [iV 0, iV p1] vX10_isWithin tw4_217 (ci := 10) rfl (m_X10_isWithin (xl X) C.2.2.2.2.2.2.2.1 N hw.2) ⟨Nat.le_of_ble_eq_true rfl, Nat.le_of_ble_eq_true rfl, Nat.le_of_ble_eq_true rfl, Nat.le_of_ble_eq_true rfl⟩ ⟨rfl, rfl⟩ hw.1 dX10_admits_3 rfl (Nat.le_of_ble_eq_true rfl) rfl (fun v1 hw => ?_)
  refine go_if_eq C 31 dX10_admits_6 (by decide) hw (fun hw => ?_) (fun hw => ?_)
  · refine go_iconst C 0 dX10_admits_31 kc_i0 ?_
    exact go_zret C dX10_admits_32 ⟨rfl, ⟨rfl, hw⟩⟩ (Nat.le_of_ble_eq_true rfl) (Nat.le_of_ble_eq_true rfl)
  refine go_aload_n C dX10_admits_9 0 rfl ?_
  refine go_iconst C 1 dX10_admits_10 kc_i1 ?_
  refine go_iload_n C dX10_admits_11 2 rfl ?_
  refine go_pV_i C [iV 1, iV p2] vX10_isWithin tw4_217 (ci := 10) rfl (m_X10_isWithin (xl X) C.2.2.2.2.2.2.2.1 N hw.2) ⟨Nat.le_of_ble_eq_true rfl, Nat.le_of_ble_eq_true rfl, Nat.le_of_ble_eq_true rfl, Nat.le_of_ble_eq_true rfl⟩ ⟨rfl, rfl⟩ hw.1 dX10_admits_12 rfl (Nat.le_of_ble_eq_true rfl) rfl (fun v2 hw => ?_)
  refine go_if_eq C 31 dX10_admits_15 (by decide) hw (fun hw => ?_) (fun hw => ?_)
  · refine go_iconst C 0 dX10_admits_31 kc_i0 ?_
    exact go_zret C dX10_admits_32 ⟨rfl, ⟨rfl, hw⟩⟩ (Nat.le_of_ble_eq_true rfl) (Nat.le_of_ble_eq_true rfl)
  refine go_aload_n C dX10_admits_18 0 rfl ?_
  refine go_iconst C 2 dX10_admits_19 kc_i2 ?_
  refine go_iload_n C dX10_admits_20 3 rfl ?_
  refine go_pV_i C [iV 2, iV p3] vX10_isWithin tw4_217 (ci := 10) rfl (m_X10_isWithin (xl X) C.2.2.2.2.2.2.2.1 N hw.2) ⟨Nat.le_of_ble_eq_true rfl, Nat.le_of_ble_eq_true rfl, Nat.le_of_ble_eq_true rfl, Nat.le_of_ble_eq_true rfl⟩ ⟨rfl, rfl⟩ hw.1 dX10_admits_21 rfl (Nat.le_of_ble_eq_true rfl) rfl (fun v3 hw => ?_)
  refine go_if_eq C 31 dX10_admits_24 (by decide) hw (fun hw => ?_) (fun hw => ?_)
  · refine go_iconst C 0 dX10_admits_31 kc_i0 ?_
    exact go_zret C dX10_admits_32 ⟨rfl, ⟨rfl, hw⟩⟩ (Nat.le_of_ble_eq_true rfl) (Nat.le_of_ble_eq_true rfl)
  refine go_iconst C 1 dX10_admits_27 kc_i1 ?_
  refine go_goto C 32 dX10_admits_28 (by decide) ?_
  exact go_zret C dX10_admits_32 ⟨rfl, ⟨rfl, hw⟩⟩ (Nat.le_of_ble_eq_true rfl) (Nat.le_of_ble_eq_true rfl)
/-- DuelSchema$Table.rowsBeyondBounds(I)I -/
def w_X10_rowsBeyondBounds (N : Nat) (a0 : Nat) (p1 : Int32) (h0 : Hp) (K : Int32 → Prop) : Prop :=
  fx2 (fun (w4 : Int32 → Int32 → Prop) (x1 : Int32) (x2 : Int32) =>
    gA h0 a0 10 4 fun a3 =>
    aN h0 a3 fun v4 =>
    br (v4 ≤ x2) (
      K x1) (
      gA h0 a0 10 4 fun a5 =>
      aI h0 a5 1 x2 fun v6 =>
      jn (fun (x7 : Int32) => 
        w4 x7 (x2 + 1)) (fun j39 =>
      br (v6 = 0) (
        j39 x1) (
        cv h0 a0 10 <| w_X10_cell N a0 x2 p1 h0 fun v8 =>
        cv h0 a0 10 <| w_X10_isWithin N a0 p1 v8 h0 fun v9 =>
        br (v9 = 0) (
          j39 (x1 + 1)) (
          j39 x1))))) N 0 0
abbrev rmX10_rowsBeyondBounds : Room := { frames := 4, cells := 0, slots := 0, locals := 103 }
theorem vX10_rowsBeyondBounds : VI RX10 yX10_rowsBeyondBounds cX10_rowsBeyondBounds 4 (some .int) 1 := ⟨tw4_214, tw4_215, tw1_13, tw4_216, by decide +kernel⟩
set_option maxHeartbeats 4000000 in
theorem m_X10_rowsBeyondBounds {G : Gp} (l : Launch) (hfl : l.stackTraces = false) (N : Nat) {a0 : Nat} {p1 : Int32} {h0 : Hp} {K : Int32 → Prop} (hw : w_X10_rowsBeyondBounds N a0 p1 h0 K) : MT G l yX10_rowsBeyondBounds cX10_rowsBeyondBounds 4 (some .int) rmX10_rowsBeyondBounds [rV (some a0), iV p1] h0 (QI G (fun r h1 => h1 = h0 ∧ K r)) := by
  refine go_metT l hfl _ 4 _ _ rfl (by decide +kernel) (Nat.le_of_ble_eq_true rfl) [(0, rV (some a0)), (1, iV p1)] rfl (fun X hX C hn => ?_)
  subst hX
  unfold w_X10_rowsBeyondBounds at hw
  refine go_iconst C 0 dX10_rowsBeyondBounds_0 kc_i0 ?_
  refine go_istore_n C [(2, iV 0), (0, rV (some a0)), (1, iV p1)] dX10_rowsBeyondBounds_1 (Nat.le_of_ble_eq_true rfl) rfl ?_
  refine go_iconst C 0 dX10_rowsBeyondBounds_2 kc_i0 ?_
  refine go_istore_n C [(3, iV 0), (2, iV 0), (0, rV (some a0)), (1, iV p1)] dX10_rowsBeyondBounds_3 (Nat.le_of_ble_eq_true rfl) rfl ?_
  refine go_sub [2, 3, 1, 0] rfl ?_
  refine fx2_elim (P := fun x1 x2 => Go G X rmX10_rowsBeyondBounds 4 0 0 (QN G X (QI G (fun r h1 => h1 = h0 ∧ K r)) rmX10_rowsBeyondBounds) h0 4 [(0, rV (some a0)), (1, iV p1), (2, iV x1), (3, iV x2)] []) (fun w4 hj4 x1 x2 hw => ?_) N _ _ hw
  refine go_iload_n C dX10_rowsBeyondBounds_4 3 rfl ?_
  refine go_aload_n C dX10_rowsBeyondBounds_5 0 rfl ?_
  refine go_getA C (cfX10) (k := 4) (Nat.le_of_ble_eq_true rfl) tw4_99 rfl dX10_rowsBeyondBounds_6 hw (fun a3 hw => ?_)
  refine go_alen C dX10_rowsBeyondBounds_9 hw (fun v4 hw => ?_)
  refine go_icmp_ge C 45 dX10_rowsBeyondBounds_10 (by decide) hw (fun hw => ?_) (fun hw => ?_)
  · refine go_iload_n C dX10_rowsBeyondBounds_45 2 rfl ?_
    exact go_iret C dX10_rowsBeyondBounds_46 ⟨rfl, hw⟩ (Nat.le_of_ble_eq_true rfl) (Nat.le_of_ble_eq_true rfl)
  refine go_aload_n C dX10_rowsBeyondBounds_13 0 rfl ?_
  refine go_getA C (cfX10) (k := 4) (Nat.le_of_ble_eq_true rfl) tw4_99 rfl dX10_rowsBeyondBounds_14 hw (fun a5 hw => ?_)
  refine go_iload_n C dX10_rowsBeyondBounds_17 3 rfl ?_
  refine go_zaload C dX10_rowsBeyondBounds_18 hw (fun v6 hw => ?_)
  refine jn_elim (P := fun j => ∀ (x7 : Int32), j x7 → Go G X rmX10_rowsBeyondBounds 4 0 0 (QN G X (QI G (fun r h1 => h1 = h0 ∧ K r)) rmX10_rowsBeyondBounds) h0 39 [(0, rV (some a0)), (1, iV p1), (2, iV x7), (3, iV x2)] []) hw (fun x7 hw => ?_) (fun j39 hj39 hw => ?_)
  · refine go_iinc C (x2 + 1) [(3, iV (x2 + 1)), (0, rV (some a0)), (1, iV p1), (2, iV x7)] dX10_rowsBeyondBounds_39 3 rfl (by rw [kc_i1]) (Nat.le_of_ble_eq_true rfl) rfl ?_
    refine go_goto C 4 dX10_rowsBeyondBounds_42 (by decide) ?_
    refine go_sub [1, 2, 3, 0] rfl ?_
    exact hj4 x7 (x2 + 1) hw
  refine go_if_eq C 39 dX10_rowsBeyondBounds_19 (by decide) hw (fun hw => ?_) (fun hw => ?_)
  · exact hj39 x1 hw
  refine go_aload_n C dX10_rowsBeyondBounds_22 0 rfl ?_
  refine go_iload_n C dX10_rowsBeyondBounds_23 1 rfl ?_
  refine go_aload_n C dX10_rowsBeyondBounds_24 0 rfl ?_
  refine go_iload_n C dX10_rowsBeyondBounds_25 3 rfl ?_
  refine go_iload_n C dX10_rowsBeyondBounds_26 1 rfl ?_
  refine go_pV_i C [iV x2, iV p1] vX10_cell tw2_57 (ci := 10) rfl (m_X10_cell (xl X) C.2.2.2.2.2.2.2.1 N hw.2) ⟨Nat.le_of_ble_eq_true rfl, Nat.le_of_ble_eq_true rfl, Nat.le_of_ble_eq_true rfl, Nat.le_of_ble_eq_true rfl⟩ ⟨rfl, rfl⟩ hw.1 dX10_rowsBeyondBounds_27 rfl (Nat.le_of_ble_eq_true rfl) rfl (fun v8 hw => ?_)
  refine go_pV_i C [iV p1, iV v8] vX10_isWithin tw4_217 (ci := 10) rfl (m_X10_isWithin (xl X) C.2.2.2.2.2.2.2.1 N hw.2) ⟨Nat.le_of_ble_eq_true rfl, Nat.le_of_ble_eq_true rfl, Nat.le_of_ble_eq_true rfl, Nat.le_of_ble_eq_true rfl⟩ ⟨rfl, rfl⟩ hw.1 dX10_rowsBeyondBounds_30 rfl (Nat.le_of_ble_eq_true rfl) rfl (fun v9 hw => ?_)
  refine go_if_ne C 39 dX10_rowsBeyondBounds_33 (by decide) hw (fun hw => ?_) (fun hw => ?_)
  · exact hj39 x1 hw
  refine go_iinc C (x1 + 1) [(2, iV (x1 + 1)), (0, rV (some a0)), (1, iV p1), (3, iV x2)] dX10_rowsBeyondBounds_36 2 rfl (by rw [kc_i1]) (Nat.le_of_ble_eq_true rfl) rfl ?_
  refine go_sub [1, 2, 0, 3] rfl ?_
  exact hj39 (x1 + 1) hw
/-- DuelSchema$Table.isFirstWith(III)Z -/
def w_X10_isFirstWith (N : Nat) (a0 : Nat) (p1 : Int32) (p2 : Int32) (p3 : Int32) (h0 : Hp) (K : Int32 → Prop) : Prop :=
  fx1 (fun (w3 : Int32 → Prop) (x1 : Int32) =>
    br (p1 ≤ x1) (
      K 1) (
      cv h0 a0 10 <| w_X10_hasRow N a0 x1 h0 fun v2 =>
      jn (
        w3 (x1 + 1)) (fun j31 =>
      br (v2 = 0) (
        j31 ) (
        cv h0 a0 10 <| w_X10_cell N a0 x1 p2 h0 fun v3 =>
        br (v3 = p3) (
          K 0) (
          j31 ))))) N 0
abbrev rmX10_isFirstWith : Room := { frames := 3, cells := 0, slots := 0, locals := 83 }
theorem vX10_isFirstWith : VI RX10 yX10_isFirstWith cX10_isFirstWith 5 (some .boolean) 3 := ⟨tw5_83, tp35, tw1_13, tw5_84, by decide +kernel⟩
set_option maxHeartbeats 4000000 in
theorem m_X10_isFirstWith {G : Gp} (l : Launch) (hfl : l.stackTraces = false) (N : Nat) {a0 : Nat} {p1 : Int32} {p2 : Int32} {p3 : Int32} {h0 : Hp} {K : Int32 → Prop} (hw : w_X10_isFirstWith N a0 p1 p2 p3 h0 K) : MT G l yX10_isFirstWith cX10_isFirstWith 5 (some .boolean) rmX10_isFirstWith [rV (some a0), iV p1, iV p2, iV p3] h0 (QI G (fun r h1 => h1 = h0 ∧ K r)) := by
  refine go_metT l hfl _ 5 _ _ rfl (by decide +kernel) (Nat.le_of_ble_eq_true rfl) [(0, rV (some a0)), (1, iV p1), (2, iV p2), (3, iV p3)] rfl (fun X hX C hn => ?_)
  subst hX
  unfold w_X10_isFirstWith at hw
  refine go_iconst C 0 dX10_isFirstWith_0 kc_i0 ?_
  refine go_istore C [(4, iV 0), (0, rV (some a0)), (1, iV p1), (2, iV p2), (3, iV p3)] dX10_isFirstWith_1 (Nat.le_of_ble_eq_true rfl) rfl ?_
  refine go_sub [1, 2, 3, 4, 0] rfl ?_
  refine fx1_elim (P := fun x1 => Go G X rmX10_isFirstWith 5 0 0 (QN G X (QI G (fun r h1 => h1 = h0 ∧ K r)) rmX10_isFirstWith) h0 3 [(0, rV (some a0)), (1, iV p1), (2, iV p2), (3, iV p3), (4, iV x1)] []) (fun w3 hj3 x1 hw => ?_) N _ hw
  refine go_iload C dX10_isFirstWith_3 4 rfl ?_
  refine go_iload_n C dX10_isFirstWith_5 1 rfl ?_
  refine go_icmp_ge C 37 dX10_isFirstWith_6 (by decide) hw (fun hw => ?_) (fun hw => ?_)
  · refine go_iconst C 1 dX10_isFirstWith_37 kc_i1 ?_
    exact go_zret C dX10_isFirstWith_38 ⟨rfl, ⟨rfl, hw⟩⟩ (Nat.le_of_ble_eq_true rfl) (Nat.le_of_ble_eq_true rfl)
  refine go_aload_n C dX10_isFirstWith_9 0 rfl ?_
  refine go_iload C dX10_isFirstWith_10 4 rfl ?_
  refine go_pV_i C [iV x1] vX10_hasRow tw5_56 (ci := 10) rfl (m_X10_hasRow (xl X) C.2.2.2.2.2.2.2.1 N hw.2) ⟨Nat.le_of_ble_eq_true rfl, Nat.le_of_ble_eq_true rfl, Nat.le_of_ble_eq_true rfl, Nat.le_of_ble_eq_true rfl⟩ ⟨rfl, rfl⟩ hw.1 dX10_isFirstWith_12 rfl (Nat.le_of_ble_eq_true rfl) rfl (fun v2 hw => ?_)
  refine jn_elim (P := fun j => j  → Go G X rmX10_isFirstWith 5 0 0 (QN G X (QI G (fun r h1 => h1 = h0 ∧ K r)) rmX10_isFirstWith) h0 31 [(0, rV (some a0)), (1, iV p1), (2, iV p2), (3, iV p3), (4, iV x1)] []) hw (fun  hw => ?_) (fun j31 hj31 hw => ?_)
  · refine go_iinc C (x1 + 1) [(4, iV (x1 + 1)), (0, rV (some a0)), (1, iV p1), (2, iV p2), (3, iV p3)] dX10_isFirstWith_31 4 rfl (by rw [kc_i1]) (Nat.le_of_ble_eq_true rfl) rfl ?_
    refine go_goto C 3 dX10_isFirstWith_34 (by decide) ?_
    refine go_sub [1, 2, 3, 4, 0] rfl ?_
    exact hj3 (x1 + 1) hw
  refine go_if_eq C 31 dX10_isFirstWith_15 (by decide) hw (fun hw => ?_) (fun hw => ?_)
  · exact hj31  hw
  refine go_aload_n C dX10_isFirstWith_18 0 rfl ?_
  refine go_iload C dX10_isFirstWith_19 4 rfl ?_
  refine go_iload_n C dX10_isFirstWith_21 2 rfl ?_
  refine go_pV_i C [iV x1, iV p2] vX10_cell tw2_57 (ci := 10) rfl (m_X10_cell (xl X) C.2.2.2.2.2.2.2.1 N hw.2) ⟨Nat.le_of_ble_eq_true rfl, Nat.le_of_ble_eq_true rfl, Nat.le_of_ble_eq_true rfl, Nat.le_of_ble_eq_true rfl⟩ ⟨rfl, rfl⟩ hw.1 dX10_isFirstWith_22 rfl (Nat.le_of_ble_eq_true rfl) rfl (fun v3 hw => ?_)
  refine go_iload_n C dX10_isFirstWith_25 3 rfl ?_
  refine go_icmp_ne C 31 dX10_isFirstWith_26 (by decide) hw (fun hw => ?_) (fun hw => ?_)
  · exact hj31  hw
  refine go_iconst C 0 dX10_isFirstWith_29 kc_i0 ?_
  exact go_zret C dX10_isFirstWith_30 ⟨rfl, ⟨rfl, hw⟩⟩ (Nat.le_of_ble_eq_true rfl) (Nat.le_of_ble_eq_true rfl)
/-- DuelSchema$Table.takeColumn(I)V -/
def w_X10_takeColumn (N : Nat) (a0 : Nat) (p1 : Int32) (h0 : Hp) (K : Hp → Prop) : Prop :=
  fx4 (fun (w11 : Int32 → Int32 → Int32 → Int32 → Prop) (x1 : Int32) (x2 : Int32) (x3 : Int32) (x4 : Int32) =>
    gA h0 a0 10 4 fun a5 =>
    aN h0 a5 fun v6 =>
    br (v6 ≤ x4) (
      br (p1 < 0) (
        K h0) (
        br (3 ≤ p1) (
          K h0) (
          gA h0 a0 10 10 fun a7 =>
          sI h0 a7 0 p1 x1 fun h8 =>
          gA h8 a0 10 11 fun a9 =>
          gI h8 a0 10 3 fun v10 =>
          jn (fun (v11 : Int32) => 
            sI h8 a9 0 p1 v11 fun h12 =>
            gA h12 a0 10 12 fun a13 =>
            sI h12 a13 0 p1 x3 fun h14 =>
            K h14) (fun j115 =>
          br (v10 = 0) (
            j115 0) (
            j115 x2))))) (
      gA h0 a0 10 4 fun a15 =>
      aI h0 a15 1 x4 fun v16 =>
      jn (fun (x17 : Int32) (x18 : Int32) (x19 : Int32) => 
        w11 x17 x18 x19 (x4 + 1)) (fun j76 =>
      br (v16 = 0) (
        j76 x1 x2 x3) (
        cv h0 a0 10 <| w_X10_cell N a0 x4 p1 h0 fun v20 =>
        cv h0 a0 10 <| w_X10_isFirstWith N a0 x4 p1 v20 h0 fun v21 =>
        jn (fun (v22 : Int32) => 
          j76 (x1 + v22) (if v20 < x2 then v20 else x2) (if x3 < v20 then v20 else x3)) (fun j74 =>
        br (v21 = 0) (
          j74 0) (
          j74 1)))))) N 0 99 0 0
abbrev rmX10_takeColumn : Room := { frames := 4, cells := 0, slots := 0, locals := 107 }
theorem vX10_takeColumn : VI RX10 yX10_takeColumn cX10_takeColumn 7 none 1 := ⟨tw5_79, tp34, tw1_13, tw5_80, by decide +kernel⟩
set_option maxHeartbeats 4000000 in
theorem m_X10_takeColumn {G : Gp} (l : Launch) (hfl : l.stackTraces = false) (N : Nat) {a0 : Nat} {p1 : Int32} {h0 : Hp} {K : Hp → Prop} (hw : w_X10_takeColumn N a0 p1 h0 K) : MT G l yX10_takeColumn cX10_takeColumn 7 none rmX10_takeColumn [rV (some a0), iV p1] h0 (QV G K) := by
  refine go_metT l hfl _ 7 _ _ rfl (by decide +kernel) (Nat.le_of_ble_eq_true rfl) [(0, rV (some a0)), (1, iV p1)] rfl (fun X hX C hn => ?_)
  subst hX
  unfold w_X10_takeColumn at hw
  refine go_iconst C 0 dX10_takeColumn_0 kc_i0 ?_
  refine go_istore_n C [(2, iV 0), (0, rV (some a0)), (1, iV p1)] dX10_takeColumn_1 (Nat.le_of_ble_eq_true rfl) rfl ?_
  refine go_bipush C 99 dX10_takeColumn_2 kc_b99 ?_
  refine go_istore_n C [(3, iV 99), (2, iV 0), (0, rV (some a0)), (1, iV p1)] dX10_takeColumn_4 (Nat.le_of_ble_eq_true rfl) rfl ?_
  refine go_iconst C 0 dX10_takeColumn_5 kc_i0 ?_
  refine go_istore C [(4, iV 0), (3, iV 99), (2, iV 0), (0, rV (some a0)), (1, iV p1)] dX10_takeColumn_6 (Nat.le_of_ble_eq_true rfl) rfl ?_
  refine go_iconst C 0 dX10_takeColumn_8 kc_i0 ?_
  refine go_istore C [(5, iV 0), (4, iV 0), (3, iV 99), (2, iV 0), (0, rV (some a0)), (1, iV p1)] dX10_takeColumn_9 (Nat.le_of_ble_eq_true rfl) rfl ?_
  refine go_sub [4, 5, 3, 2, 1, 0] rfl ?_
  refine fx4_elim (P := fun x1 x2 x3 x4 => Go G X rmX10_takeColumn 7 0 0 (QN G X (QV G K) rmX10_takeColumn) h0 11 [(0, rV (some a0)), (1, iV p1), (2, iV x1), (3, iV x2), (4, iV x3), (5, iV x4)] []) (fun w11 hj11 x1 x2 x3 x4 hw => ?_) N _ _ _ _ hw
  refine go_iload C dX10_takeColumn_11 5 rfl ?_
  refine go_aload_n C dX10_takeColumn_13 0 rfl ?_
  refine go_getA C (cfX10) (k := 4) (Nat.le_of_ble_eq_true rfl) tw4_99 rfl dX10_takeColumn_14 hw (fun a5 hw => ?_)
  refine go_alen C dX10_takeColumn_17 hw (fun v6 hw => ?_)
  refine go_icmp_ge C 82 dX10_takeColumn_18 (by decide) hw (fun hw => ?_) (fun hw => ?_)
  · refine go_iload_n C dX10_takeColumn_82 1 rfl ?_
    refine go_if_lt C 124 dX10_takeColumn_83 (by decide) hw (fun hw => ?_) (fun hw => ?_)
    · exact go_vret C dX10_takeColumn_124 hw (Nat.le_of_ble_eq_true rfl) (Nat.le_of_ble_eq_true rfl)
    refine go_iload_n C dX10_takeColumn_86 1 rfl ?_
    refine go_iconst C 3 dX10_takeColumn_87 kc_i3 ?_
    refine go_icmp_ge C 124 dX10_takeColumn_88 (by decide) hw (fun hw => ?_) (fun hw => ?_)
    · exact go_vret C dX10_takeColumn_124 hw (Nat.le_of_ble_eq_true rfl) (Nat.le_of_ble_eq_true rfl)
    refine go_aload_n C dX10_takeColumn_91 0 rfl ?_
    refine go_getA C (cfX10) (k := 10) (Nat.le_of_ble_eq_true rfl) tw4_105 rfl dX10_takeColumn_92 hw (fun a7 hw => ?_)
    refine go_iload_n C dX10_takeColumn_95 1 rfl ?_
    refine go_iload_n C dX10_takeColumn_96 2 rfl ?_
    refine go_iastore C dX10_takeColumn_97 hw (fun h8 hw => ?_)
    refine go_aload_n C dX10_takeColumn_98 0 rfl ?_
    refine go_getA C (cfX10) (k := 11) (Nat.le_of_ble_eq_true rfl) tw4_106 rfl dX10_takeColumn_99 hw (fun a9 hw => ?_)
    refine go_iload_n C dX10_takeColumn_102 1 rfl ?_
    refine go_aload_n C dX10_takeColumn_103 0 rfl ?_
    refine go_getI C (cfX10) (k := 3) (Nat.le_of_ble_eq_true rfl) tw4_98 rfl dX10_takeColumn_104 hw (fun v10 hw => ?_)
    refine jn_elim (P := fun j => ∀ (v11 : Int32), j v11 → Go G X rmX10_takeColumn 7 0 0 (QN G X (QV G K) rmX10_takeColumn) h8 115 [(0, rV (some a0)), (1, iV p1), (4, iV x3)] [iV v11, iV p1, rV (some a9)]) hw (fun v11 hw => ?_) (fun j115 hj115 hw => ?_)
    · refine go_iastore C dX10_takeColumn_115 hw (fun h12 hw => ?_)
      refine go_aload_n C dX10_takeColumn_116 0 rfl ?_
      refine go_getA C (cfX10) (k := 12) (Nat.le_of_ble_eq_true rfl) tw4_107 rfl dX10_takeColumn_117 hw (fun a13 hw => ?_)
      refine go_iload_n C dX10_takeColumn_120 1 rfl ?_
      refine go_iload C dX10_takeColumn_121 2 rfl ?_
      refine go_iastore C dX10_takeColumn_123 hw (fun h14 hw => ?_)
      exact go_vret C dX10_takeColumn_124 hw (Nat.le_of_ble_eq_true rfl) (Nat.le_of_ble_eq_true rfl)
    refine go_if_ne C 114 dX10_takeColumn_107 (by decide) hw (fun hw => ?_) (fun hw => ?_)
    · refine go_iload_n C dX10_takeColumn_114 3 rfl ?_
      refine go_sub [0, 1, 4] rfl ?_
      exact hj115 x2 hw
    refine go_iconst C 0 dX10_takeColumn_110 kc_i0 ?_
    refine go_goto C 115 dX10_takeColumn_111 (by decide) ?_
    refine go_sub [0, 1, 4] rfl ?_
    exact hj115 0 hw
  refine go_aload_n C dX10_takeColumn_21 0 rfl ?_
  refine go_getA C (cfX10) (k := 4) (Nat.le_of_ble_eq_true rfl) tw4_99 rfl dX10_takeColumn_22 hw (fun a15 hw => ?_)
  refine go_iload C dX10_takeColumn_25 5 rfl ?_
  refine go_zaload C dX10_takeColumn_27 hw (fun v16 hw => ?_)
  refine jn_elim (P := fun j => ∀ (x17 : Int32) (x18 : Int32) (x19 : Int32), j x17 x18 x19 → Go G X rmX10_takeColumn 7 0 0 (QN G X (QV G K) rmX10_takeColumn) h0 76 [(0, rV (some a0)), (1, iV p1), (2, iV x17), (3, iV x18), (4, iV x19), (5, iV x4)] []) hw (fun x17 x18 x19 hw => ?_) (fun j76 hj76 hw => ?_)
  · refine go_iinc C (x4 + 1) [(5, iV (x4 + 1)), (0, rV (some a0)), (1, iV p1), (2, iV x17), (3, iV x18), (4, iV x19)] dX10_takeColumn_76 5 rfl (by rw [kc_i1]) (Nat.le_of_ble_eq_true rfl) rfl ?_
    refine go_goto C 11 dX10_takeColumn_79 (by decide) ?_
    refine go_sub [1, 2, 3, 4, 5, 0] rfl ?_
    exact hj11 x17 x18 x19 (x4 + 1) hw
  refine go_if_eq C 76 dX10_takeColumn_28 (by decide) hw (fun hw => ?_) (fun hw => ?_)
  · exact hj76 x1 x2 x3 hw
  refine go_aload_n C dX10_takeColumn_31 0 rfl ?_
  refine go_iload C dX10_takeColumn_32 5 rfl ?_
  refine go_iload_n C dX10_takeColumn_34 1 rfl ?_
  refine go_pV_i C [iV x4, iV p1] vX10_cell tw2_57 (ci := 10) rfl (m_X10_cell (xl X) C.2.2.2.2.2.2.2.1 N hw.2) ⟨Nat.le_of_ble_eq_true rfl, Nat.le_of_ble_eq_true rfl, Nat.le_of_ble_eq_true rfl, Nat.le_of_ble_eq_true rfl⟩ ⟨rfl, rfl⟩ hw.1 dX10_takeColumn_35 rfl (Nat.le_of_ble_eq_true rfl) rfl (fun v20 hw => ?_)
  refine go_istore C [(6, iV v20), (0, rV (some a0)), (1, iV p1), (2, iV x1), (3, iV x2), (4, iV x3), (5, iV x4)] dX10_takeColumn_38 (Nat.le_of_ble_eq_true rfl) rfl ?_
  refine go_iload_n C dX10_takeColumn_40 4 rfl ?_
  refine go_iload C dX10_takeColumn_41 0 rfl ?_
  refine go_imin C tw3_102 tw2_171 tw1_19 tw2_172 ⟨Nat.le_of_ble_eq_true rfl, Nat.le_of_ble_eq_true rfl, Nat.le_of_ble_eq_true rfl, Nat.le_of_ble_eq_true rfl⟩ (Nat.le_of_ble_eq_true rfl) dX10_takeColumn_43 ?_
  refine go_istore_n C [(3, iV (if v20 < x2 then v20 else x2)), (6, iV v20), (0, rV (some a0)), (1, iV p1), (2, iV x1), (4, iV x3), (5, iV x4)] dX10_takeColumn_46 (Nat.le_of_ble_eq_true rfl) rfl ?_
  refine go_iload C dX10_takeColumn_47 5 rfl ?_
  refine go_iload C dX10_takeColumn_49 1 rfl ?_
  refine go_imax C tw3_98 tw3_99 tw1_19 tw3_100 ⟨Nat.le_of_ble_eq_true rfl, Nat.le_of_ble_eq_true rfl, Nat.le_of_ble_eq_true rfl, Nat.le_of_ble_eq_true rfl⟩ (Nat.le_of_ble_eq_true rfl) dX10_takeColumn_51 ?_
  refine go_istore C [(4, iV (if x3 < v20 then v20 else x3)), (3, iV (if v20 < x2 then v20 else x2)), (6, iV v20), (0, rV (some a0)), (1, iV p1), (2, iV x1), (5, iV x4)] dX10_takeColumn_54 (Nat.le_of_ble_eq_true rfl) rfl ?_
  refine go_iload_n C dX10_takeColumn_56 5 rfl ?_
  refine go_aload_n C dX10_takeColumn_57 3 rfl ?_
  refine go_iload C dX10_takeColumn_58 6 rfl ?_
  refine go_iload_n C dX10_takeColumn_60 4 rfl ?_
  refine go_iload C dX10_takeColumn_61 2 rfl ?_
  refine go_pV_i C [iV x4, iV p1, iV v20] vX10_isFirstWith tw5_81 (ci := 10) rfl (m_X10_isFirstWith (xl X) C.2.2.2.2.2.2.2.1 N hw.2) ⟨Nat.le_of_ble_eq_true rfl, Nat.le_of_ble_eq_true rfl, Nat.le_of_ble_eq_true rfl, Nat.le_of_ble_eq_true rfl⟩ ⟨rfl, rfl⟩ hw.1 dX10_takeColumn_63 rfl (Nat.le_of_ble_eq_true rfl) rfl (fun v21 hw => ?_)
  refine jn_elim (P := fun j => ∀ (v22 : Int32), j v22 → Go G X rmX10_takeColumn 7 0 0 (QN G X (QV G K) rmX10_takeColumn) h0 74 [(0, rV (some a0)), (1, iV p1), (3, iV (if v20 < x2 then v20 else x2)), (4, iV (if x3 < v20 then v20 else x3)), (5, iV x4)] [iV v22, iV x1]) hw (fun v22 hw => ?_) (fun j74 hj74 hw => ?_)
  · refine go_iadd C dX10_takeColumn_74 ?_
    refine go_istore_n C [(2, iV (x1 + v22)), (0, rV (some a0)), (1, iV p1), (3, iV (if v20 < x2 then v20 else x2)), (4, iV (if x3 < v20 then v20 else x3)), (5, iV x4)] dX10_takeColumn_75 (Nat.le_of_ble_eq_true rfl) rfl ?_
    refine go_sub [1, 2, 0, 3, 4, 5] rfl ?_
    exact hj76 (x1 + v22) (if v20 < x2 then v20 else x2) (if x3 < v20 then v20 else x3) hw
  refine go_if_eq C 73 dX10_takeColumn_66 (by decide) hw (fun hw => ?_) (fun hw => ?_)
  · refine go_iconst C 0 dX10_takeColumn_73 kc_i0 ?_
    refine go_sub [3, 4, 1, 0, 6] rfl ?_
    exact hj74 0 hw
  refine go_iconst C 1 dX10_takeColumn_69 kc_i1 ?_
  refine go_goto C 74 dX10_takeColumn_70 (by decide) ?_
  refine go_sub [3, 4, 1, 0, 6] rfl ?_
  exact hj74 1 hw
/-- DuelSchema$Table.takeCounts()V -/
def w_X10_takeCounts (N : Nat) (a0 : Nat) (h0 : Hp) (K : Hp → Prop) : Prop :=
  gI h0 a0 10 3 fun v1 =>
  pF h0 a0 10 8 (iV v1) fun h2 =>
  cv h2 a0 10 <| w_X10_pageCount N a0  h2 fun v3 =>
  pF h2 a0 10 9 (iV v3) fun h4 =>
  fx2 (fun (w18 : Int32 → Hp → Prop) (x6 : Int32) (h5 : Hp) =>
    gI h5 a0 10 1 fun v7 =>
    br (v7 ≤ x6) (
      K h5) (
      cv h5 a0 10 <| w_X10_takeColumn N a0 x6 h5 fun h8 =>
      w18 (x6 + 1) h8)) N 0 h4
abbrev rmX10_takeCounts : Room := { frames := 5, cells := 0, slots := 0, locals := 133 }
theorem vX10_takeCounts : VI RX10 yX10_takeCounts cX10_takeCounts 2 none 0 := ⟨tw5_70, tw5_71, tw1_13, tw5_72, by decide +kernel⟩
set_option maxHeartbeats 4000000 in
theorem m_X10_takeCounts {G : Gp} (l : Launch) (hfl : l.stackTraces = false) (N : Nat) {a0 : Nat} {h0 : Hp} {K : Hp → Prop} (hw : w_X10_takeCounts N a0 h0 K) : MT G l yX10_takeCounts cX10_takeCounts 2 none rmX10_takeCounts [rV (some a0)] h0 (QV G K) := by
  refine go_metT l hfl _ 2 _ _ rfl (by decide +kernel) (Nat.le_of_ble_eq_true rfl) [(0, rV (some a0))] rfl (fun X hX C hn => ?_)
  subst hX
  unfold w_X10_takeCounts at hw
  refine go_aload_n C dX10_takeCounts_0 0 rfl ?_
  refine go_aload_n C dX10_takeCounts_1 0 rfl ?_
  refine go_getI C (cfX10) (k := 3) (Nat.le_of_ble_eq_true rfl) tw4_98 rfl dX10_takeCounts_2 hw (fun v1 hw => ?_)
  refine go_putI C (cfX10) (k := 8) (Nat.le_of_ble_eq_true rfl) tw4_103 rfl (Or.inl rfl) rfl dX10_takeCounts_5 hw (fun h2 hw => ?_)
  refine go_aload_n C dX10_takeCounts_8 0 rfl ?_
  refine go_aload_n C dX10_takeCounts_9 0 rfl ?_
  refine go_pV_i C [] vX10_pageCount tw5_73 (ci := 10) rfl (m_X10_pageCount (xl X) C.2.2.2.2.2.2.2.1 N hw.2) ⟨Nat.le_of_ble_eq_true rfl, Nat.le_of_ble_eq_true rfl, Nat.le_of_ble_eq_true rfl, Nat.le_of_ble_eq_true rfl⟩ ⟨rfl, rfl⟩ hw.1 dX10_takeCounts_10 rfl (Nat.le_of_ble_eq_true rfl) rfl (fun v3 hw => ?_)
  refine go_putI C (cfX10) (k := 9) (Nat.le_of_ble_eq_true rfl) tw4_104 rfl (Or.inl rfl) rfl dX10_takeCounts_13 hw (fun h4 hw => ?_)
  refine go_iconst C 0 dX10_takeCounts_16 kc_i0 ?_
  refine go_istore_n C [(1, iV 0), (0, rV (some a0))] dX10_takeCounts_17 (Nat.le_of_ble_eq_true rfl) rfl ?_
  refine go_sub [1, 0] rfl ?_
  refine fx2_elim (P := fun x6 h5 => Go G X rmX10_takeCounts 2 0 0 (QN G X (QV G K) rmX10_takeCounts) h5 18 [(0, rV (some a0)), (1, iV x6)] []) (fun w18 hj18 x6 h5 hw => ?_) N _ _ hw
  refine go_iload_n C dX10_takeCounts_18 1 rfl ?_
  refine go_aload_n C dX10_takeCounts_19 0 rfl ?_
  refine go_getI C (cfX10) (k := 1) (Nat.le_of_ble_eq_true rfl) tw4_96 rfl dX10_takeCounts_20 hw (fun v7 hw => ?_)
  refine go_icmp_ge C 37 dX10_takeCounts_23 (by decide) hw (fun hw => ?_) (fun hw => ?_)
  · exact go_vret C dX10_takeCounts_37 hw (Nat.le_of_ble_eq_true rfl) (Nat.le_of_ble_eq_true rfl)
  refine go_aload_n C dX10_takeCounts_26 0 rfl ?_
  refine go_iload_n C dX10_takeCounts_27 1 rfl ?_
  refine go_c0V_v C [iV x6] vX10_takeColumn tw5_77 (ci := 10) rfl (m_X10_takeColumn (xl X) C.2.2.2.2.2.2.2.1 N hw.2) ⟨Nat.le_of_ble_eq_true rfl, Nat.le_of_ble_eq_true rfl, Nat.le_of_ble_eq_true rfl, Nat.le_of_ble_eq_true rfl⟩ ⟨rfl, rfl⟩ hw.1 dX10_takeCounts_28 rfl (Nat.le_of_ble_eq_true rfl) rfl (fun h8 hw => ?_)
  refine go_iinc C (x6 + 1) [(1, iV (x6 + 1)), (0, rV (some a0))] dX10_takeCounts_31 1 rfl (by rw [kc_i1]) (Nat.le_of_ble_eq_true rfl) rfl ?_
  refine go_goto C 18 dX10_takeCounts_34 (by decide) ?_
  refine go_sub [1, 0] rfl ?_
  exact hj18 (x6 + 1) h8 hw
/-- DuelSchema$Table.takenCount(IC)I -/
def w_X10_takenCount (N : Nat) (a0 : Nat) (p1 : Int32) (p2 : Int32) (h0 : Hp) (K : Int32 → Prop) : Prop :=
  cv h0 a0 10 <| w_X10_hasColumn N a0 p1 h0 fun v1 =>
  br (v1 = 0) (
    K (-1)) (
    br (p2 = 114) (
      gI h0 a0 10 8 fun v9 =>
      K v9) (
      br (p2 = 112) (
        gI h0 a0 10 9 fun v8 =>
        K v8) (
        br (p2 = 117) (
          gA h0 a0 10 10 fun a6 =>
          aI h0 a6 0 p1 fun v7 =>
          K v7) (
          br (p2 = 108) (
            gA h0 a0 10 11 fun a4 =>
            aI h0 a4 0 p1 fun v5 =>
            K v5) (
            br (p2 = 103) (
              gA h0 a0 10 12 fun a2 =>
              aI h0 a2 0 p1 fun v3 =>
              K v3) (
              K (-1)))))))
abbrev rmX10_takenCount : Room := { frames := 3, cells := 0, slots := 0, locals := 81 }
theorem vX10_takenCount : VI RX10 yX10_takenCount cX10_takenCount 3 (some .int) 2 := ⟨tw5_175, tw5_176, tw1_13, tw5_177, by decide +kernel⟩
set_option maxHeartbeats 4000000 in
theorem m_X10_takenCount {G : Gp} (l : Launch) (hfl : l.stackTraces = false) (N : Nat) {a0 : Nat} {p1 : Int32} {p2 : Int32} {h0 : Hp} {K : Int32 → Prop} (hw : w_X10_takenCount N a0 p1 p2 h0 K) : MT G l yX10_takenCount cX10_takenCount 3 (some .int) rmX10_takenCount [rV (some a0), iV p1, iV p2] h0 (QI G (fun r h1 => h1 = h0 ∧ K r)) := by
  refine go_metT l hfl _ 3 _ _ rfl (by decide +kernel) (Nat.le_of_ble_eq_true rfl) [(0, rV (some a0)), (1, iV p1), (2, iV p2)] rfl (fun X hX C hn => ?_)
  subst hX
  unfold w_X10_takenCount at hw
  refine go_aload_n C dX10_takenCount_0 0 rfl ?_
  refine go_iload_n C dX10_takenCount_1 1 rfl ?_
  refine go_pV_i C [iV p1] vX10_hasColumn tw3_86 (ci := 10) rfl (m_X10_hasColumn (xl X) C.2.2.2.2.2.2.2.1 N hw.2) ⟨Nat.le_of_ble_eq_true rfl, Nat.le_of_ble_eq_true rfl, Nat.le_of_ble_eq_true rfl, Nat.le_of_ble_eq_true rfl⟩ ⟨rfl, rfl⟩ hw.1 dX10_takenCount_2 rfl (Nat.le_of_ble_eq_true rfl) rfl (fun v1 hw => ?_)
  refine go_if_ne C 10 dX10_takenCount_5 (by decide) hw (fun hw => ?_) (fun hw => ?_)
  · refine go_iload_n C dX10_takenCount_10 2 rfl ?_
    refine go_bipush C 114 dX10_takenCount_11 kc_b114 ?_
    refine go_icmp_ne C 21 dX10_takenCount_13 (by decide) hw (fun hw => ?_) (fun hw => ?_)
    · refine go_iload_n C dX10_takenCount_21 2 rfl ?_
      refine go_bipush C 112 dX10_takenCount_22 kc_b112 ?_
      refine go_icmp_ne C 32 dX10_takenCount_24 (by decide) hw (fun hw => ?_) (fun hw => ?_)
      · refine go_iload_n C dX10_takenCount_32 2 rfl ?_
        refine go_bipush C 117 dX10_takenCount_33 kc_b117 ?_
        refine go_icmp_ne C 45 dX10_takenCount_35 (by decide) hw (fun hw => ?_) (fun hw => ?_)
        · refine go_iload_n C dX10_takenCount_45 2 rfl ?_
          refine go_bipush C 108 dX10_takenCount_46 kc_b108 ?_
          refine go_icmp_ne C 58 dX10_takenCount_48 (by decide) hw (fun hw => ?_) (fun hw => ?_)
          · refine go_iload_n C dX10_takenCount_58 2 rfl ?_
            refine go_bipush C 103 dX10_takenCount_59 kc_b103 ?_
            refine go_icmp_ne C 73 dX10_takenCount_61 (by decide) hw (fun hw => ?_) (fun hw => ?_)
            · refine go_iconst C (-1) dX10_takenCount_73 kc_im1 ?_
              exact go_iret C dX10_takenCount_74 ⟨rfl, hw⟩ (Nat.le_of_ble_eq_true rfl) (Nat.le_of_ble_eq_true rfl)
            refine go_aload_n C dX10_takenCount_64 0 rfl ?_
            refine go_getA C (cfX10) (k := 12) (Nat.le_of_ble_eq_true rfl) tw4_107 rfl dX10_takenCount_65 hw (fun a2 hw => ?_)
            refine go_iload_n C dX10_takenCount_68 1 rfl ?_
            refine go_iaload C dX10_takenCount_69 hw (fun v3 hw => ?_)
            refine go_goto C 74 dX10_takenCount_70 (by decide) ?_
            exact go_iret C dX10_takenCount_74 ⟨rfl, hw⟩ (Nat.le_of_ble_eq_true rfl) (Nat.le_of_ble_eq_true rfl)
          refine go_aload_n C dX10_takenCount_51 0 rfl ?_
          refine go_getA C (cfX10) (k := 11) (Nat.le_of_ble_eq_true rfl) tw4_106 rfl dX10_takenCount_52 hw (fun a4 hw => ?_)
          refine go_iload_n C dX10_takenCount_55 1 rfl ?_
          refine go_iaload C dX10_takenCount_56 hw (fun v5 hw => ?_)
          exact go_iret C dX10_takenCount_57 ⟨rfl, hw⟩ (Nat.le_of_ble_eq_true rfl) (Nat.le_of_ble_eq_true rfl)
        refine go_aload_n C dX10_takenCount_38 0 rfl ?_
        refine go_getA C (cfX10) (k := 10) (Nat.le_of_ble_eq_true rfl) tw4_105 rfl dX10_takenCount_39 hw (fun a6 hw => ?_)
        refine go_iload_n C dX10_takenCount_42 1 rfl ?_
        refine go_iaload C dX10_takenCount_43 hw (fun v7 hw => ?_)
        exact go_iret C dX10_takenCount_44 ⟨rfl, hw⟩ (Nat.le_of_ble_eq_true rfl) (Nat.le_of_ble_eq_true rfl)
      refine go_aload_n C dX10_takenCount_27 0 rfl ?_
      refine go_getI C (cfX10) (k := 9) (Nat.le_of_ble_eq_true rfl) tw4_104 rfl dX10_takenCount_28 hw (fun v8 hw => ?_)
      exact go_iret C dX10_takenCount_31 ⟨rfl, hw⟩ (Nat.le_of_ble_eq_true rfl) (Nat.le_of_ble_eq_true rfl)
    refine go_aload_n C dX10_takenCount_16 0 rfl ?_
    refine go_getI C (cfX10) (k := 8) (Nat.le_of_ble_eq_true rfl) tw4_103 rfl dX10_takenCount_17 hw (fun v9 hw => ?_)
    exact go_iret C dX10_takenCount_20 ⟨rfl, hw⟩ (Nat.le_of_ble_eq_true rfl) (Nat.le_of_ble_eq_true rfl)
  refine go_iconst C (-1) dX10_takenCount_8 kc_im1 ?_
  exact go_iret C dX10_takenCount_9 ⟨rfl, hw⟩ (Nat.le_of_ble_eq_true rfl) (Nat.le_of_ble_eq_true rfl)
/-- DuelSchema.isValue(I)Z -/
def w_X11_isValue (N : Nat) (p0 : Int32) (h0 : Hp) (K : Int32 → Prop) : Prop :=
  br (p0 < 0) (
    K 0) (
    br (99 < p0) (
      K 0) (
      K 1))
abbrev rmX11_isValue : Room := { frames := 2, cells := 0, slots := 0, locals := 60 }
theorem vX11_isValue : SI yX11_isValue cX11_isValue 1 (some .boolean) 1 := ⟨tw4_206, tw1_1, tw4_207, by decide +kernel⟩
set_option maxHeartbeats 4000000 in
theorem m_X11_isValue {G : Gp} (l : Launch) (hfl : l.stackTraces = false) (N : Nat) {p0 : Int32} {h0 : Hp} {K : Int32 → Prop} (hw : w_X11_isValue N p0 h0 K) : MT G l yX11_isValue cX11_isValue 1 (some .boolean) rmX11_isValue [iV p0] h0 (QI G (fun r h1 => h1 = h0 ∧ K r)) := by
  refine go_metT l hfl _ 1 _ _ rfl (by decide +kernel) (Nat.le_of_ble_eq_true rfl) [(0, iV p0)] rfl (fun X hX C hn => ?_)
  subst hX
  unfold w_X11_isValue at hw
  refine go_iload_n C dX11_isValue_0 0 rfl ?_
  refine go_if_lt C 14 dX11_isValue_1 (by decide) hw (fun hw => ?_) (fun hw => ?_)
  · refine go_iconst C 0 dX11_isValue_14 kc_i0 ?_
    exact go_zret C dX11_isValue_15 ⟨rfl, ⟨rfl, hw⟩⟩ (Nat.le_of_ble_eq_true rfl) (Nat.le_of_ble_eq_true rfl)
  refine go_iload_n C dX11_isValue_4 0 rfl ?_
  refine go_bipush C 99 dX11_isValue_5 kc_b99 ?_
  refine go_icmp_gt C 14 dX11_isValue_7 (by decide) hw (fun hw => ?_) (fun hw => ?_)
  · refine go_iconst C 0 dX11_isValue_14 kc_i0 ?_
    exact go_zret C dX11_isValue_15 ⟨rfl, ⟨rfl, hw⟩⟩ (Nat.le_of_ble_eq_true rfl) (Nat.le_of_ble_eq_true rfl)
  refine go_iconst C 1 dX11_isValue_10 kc_i1 ?_
  refine go_goto C 15 dX11_isValue_11 (by decide) ?_
  exact go_zret C dX11_isValue_15 ⟨rfl, ⟨rfl, hw⟩⟩ (Nat.le_of_ble_eq_true rfl) (Nat.le_of_ble_eq_true rfl)
/-- DuelSchema.checkDuellist(I)V -/
def w_X11_checkDuellist (N : Nat) (p0 : Int32) (h0 : Hp) (K : Hp → Prop) (KX : String → Hp → Prop) : Prop :=
  br (p0 < 0) (
    KX "java/lang/IllegalArgumentException" h0) (
    br (p0 < 2) (
      K h0) (
      KX "java/lang/IllegalArgumentException" h0))
abbrev rmX11_checkDuellist : Room := { frames := 8, cells := 1, slots := 6, locals := 140 }
theorem vX11_checkDuellist : SI yX11_checkDuellist cX11_checkDuellist 1 none 1 := ⟨tw6_142, tw1_1, tw6_143, by decide +kernel⟩
set_option maxHeartbeats 4000000 in
theorem m_X11_checkDuellist {G : Gp} (l : Launch) (hfl : l.stackTraces = false) (N : Nat) {p0 : Int32} {h0 : Hp} {K : Hp → Prop} {KX : String → Hp → Prop} (hw : w_X11_checkDuellist N p0 h0 K KX) : MX G l yX11_checkDuellist cX11_checkDuellist 1 none rmX11_checkDuellist [iV p0] h0 (QV G K) KX := by
  refine go_xmetT l hfl _ 1 _ _ rfl (by decide +kernel) (Nat.le_of_ble_eq_true rfl) [(0, iV p0)] rfl (fun X hX C hno => ?_)
  subst hX
  unfold w_X11_checkDuellist at hw
  refine go_iload_n C dX11_checkDuellist_0 0 rfl ?_
  refine go_if_lt C 9 dX11_checkDuellist_1 (by decide) hw (fun hw => ?_) (fun hw => ?_)
  · exact go_throwW C hno ex74_78 tw6_144 dX11_checkDuellist_9 dX11_checkDuellist_12 dX11_checkDuellist_13 dX11_checkDuellist_16 dX11_checkDuellist_19 ⟨Nat.le_of_ble_eq_true rfl, Nat.le_of_ble_eq_true rfl, Nat.le_of_ble_eq_true rfl, Nat.le_of_ble_eq_true rfl⟩ (Nat.le_of_ble_eq_true rfl) ⟨Nat.le_of_ble_eq_true rfl, Nat.le_of_ble_eq_true rfl⟩ hw
  refine go_iload_n C dX11_checkDuellist_4 0 rfl ?_
  refine go_iconst C 2 dX11_checkDuellist_5 kc_i2 ?_
  refine go_icmp_lt C 20 dX11_checkDuellist_6 (by decide) hw (fun hw => ?_) (fun hw => ?_)
  · exact go_xvret C dX11_checkDuellist_20 hw (Nat.le_of_ble_eq_true rfl) (Nat.le_of_ble_eq_true rfl)
  exact go_throwW C hno ex74_78 tw6_144 dX11_checkDuellist_9 dX11_checkDuellist_12 dX11_checkDuellist_13 dX11_checkDuellist_16 dX11_checkDuellist_19 ⟨Nat.le_of_ble_eq_true rfl, Nat.le_of_ble_eq_true rfl, Nat.le_of_ble_eq_true rfl, Nat.le_of_ble_eq_true rfl⟩ (Nat.le_of_ble_eq_true rfl) ⟨Nat.le_of_ble_eq_true rfl, Nat.le_of_ble_eq_true rfl⟩ hw
/-- java/lang/Integer.bitCount(I)I -/
def w_J6_bitCount_0f7a4 (N : Nat) (p0 : Int32) (h0 : Hp) (K : Int32 → Prop) : Prop :=
  K ((((((((p0 - (((p0 : Int32).toUInt32 >>> ((1 : Int32).toUInt32 &&& Int32.toUInt32 31)).toInt32 &&& 1431655765)) &&& 858993459) + ((((p0 - (((p0 : Int32).toUInt32 >>> ((1 : Int32).toUInt32 &&& Int32.toUInt32 31)).toInt32 &&& 1431655765)) : Int32).toUInt32 >>> ((2 : Int32).toUInt32 &&& Int32.toUInt32 31)).toInt32 &&& 858993459)) + (((((p0 - (((p0 : Int32).toUInt32 >>> ((1 : Int32).toUInt32 &&& Int32.toUInt32 31)).toInt32 &&& 1431655765)) &&& 858993459) + ((((p0 - (((p0 : Int32).toUInt32 >>> ((1 : Int32).toUInt32 &&& Int32.toUInt32 31)).toInt32 &&& 1431655765)) : Int32).toUInt32 >>> ((2 : Int32).toUInt32 &&& Int32.toUInt32 31)).toInt32 &&& 858993459)) : Int32).toUInt32 >>> ((4 : Int32).toUInt32 &&& Int32.toUInt32 31)).toInt32) &&& 252645135) + (((((((p0 - (((p0 : Int32).toUInt32 >>> ((1 : Int32).toUInt32 &&& Int32.toUInt32 31)).toInt32 &&& 1431655765)) &&& 858993459) + ((((p0 - (((p0 : Int32).toUInt32 >>> ((1 : Int32).toUInt32 &&& Int32.toUInt32 31)).toInt32 &&& 1431655765)) : Int32).toUInt32 >>> ((2 : Int32).toUInt32 &&& Int32.toUInt32 31)).toInt32 &&& 858993459)) + (((((p0 - (((p0 : Int32).toUInt32 >>> ((1 : Int32).toUInt32 &&& Int32.toUInt32 31)).toInt32 &&& 1431655765)) &&& 858993459) + ((((p0 - (((p0 : Int32).toUInt32 >>> ((1 : Int32).toUInt32 &&& Int32.toUInt32 31)).toInt32 &&& 1431655765)) : Int32).toUInt32 >>> ((2 : Int32).toUInt32 &&& Int32.toUInt32 31)).toInt32 &&& 858993459)) : Int32).toUInt32 >>> ((4 : Int32).toUInt32 &&& Int32.toUInt32 31)).toInt32) &&& 252645135) : Int32).toUInt32 >>> ((8 : Int32).toUInt32 &&& Int32.toUInt32 31)).toInt32) + ((((((((p0 - (((p0 : Int32).toUInt32 >>> ((1 : Int32).toUInt32 &&& Int32.toUInt32 31)).toInt32 &&& 1431655765)) &&& 858993459) + ((((p0 - (((p0 : Int32).toUInt32 >>> ((1 : Int32).toUInt32 &&& Int32.toUInt32 31)).toInt32 &&& 1431655765)) : Int32).toUInt32 >>> ((2 : Int32).toUInt32 &&& Int32.toUInt32 31)).toInt32 &&& 858993459)) + (((((p0 - (((p0 : Int32).toUInt32 >>> ((1 : Int32).toUInt32 &&& Int32.toUInt32 31)).toInt32 &&& 1431655765)) &&& 858993459) + ((((p0 - (((p0 : Int32).toUInt32 >>> ((1 : Int32).toUInt32 &&& Int32.toUInt32 31)).toInt32 &&& 1431655765)) : Int32).toUInt32 >>> ((2 : Int32).toUInt32 &&& Int32.toUInt32 31)).toInt32 &&& 858993459)) : Int32).toUInt32 >>> ((4 : Int32).toUInt32 &&& Int32.toUInt32 31)).toInt32) &&& 252645135) + (((((((p0 - (((p0 : Int32).toUInt32 >>> ((1 : Int32).toUInt32 &&& Int32.toUInt32 31)).toInt32 &&& 1431655765)) &&& 858993459) + ((((p0 - (((p0 : Int32).toUInt32 >>> ((1 : Int32).toUInt32 &&& Int32.toUInt32 31)).toInt32 &&& 1431655765)) : Int32).toUInt32 >>> ((2 : Int32).toUInt32 &&& Int32.toUInt32 31)).toInt32 &&& 858993459)) + (((((p0 - (((p0 : Int32).toUInt32 >>> ((1 : Int32).toUInt32 &&& Int32.toUInt32 31)).toInt32 &&& 1431655765)) &&& 858993459) + ((((p0 - (((p0 : Int32).toUInt32 >>> ((1 : Int32).toUInt32 &&& Int32.toUInt32 31)).toInt32 &&& 1431655765)) : Int32).toUInt32 >>> ((2 : Int32).toUInt32 &&& Int32.toUInt32 31)).toInt32 &&& 858993459)) : Int32).toUInt32 >>> ((4 : Int32).toUInt32 &&& Int32.toUInt32 31)).toInt32) &&& 252645135) : Int32).toUInt32 >>> ((8 : Int32).toUInt32 &&& Int32.toUInt32 31)).toInt32) : Int32).toUInt32 >>> ((16 : Int32).toUInt32 &&& Int32.toUInt32 31)).toInt32) &&& 63)
abbrev rmJ6_bitCount_0f7a4 : Room := { frames := 2, cells := 0, slots := 0, locals := 60 }
theorem vJ6_bitCount_0f7a4 : SI yJ6_bitCount_0f7a4 cJ6_bitCount_0f7a4 1 (some .int) 1 := ⟨tw6_197, tw1_25, tw6_198, by decide +kernel⟩
set_option maxHeartbeats 4000000 in
theorem m_J6_bitCount_0f7a4 {G : Gp} (l : Launch) (hfl : l.stackTraces = false) (N : Nat) {p0 : Int32} {h0 : Hp} {K : Int32 → Prop} (hw : w_J6_bitCount_0f7a4 N p0 h0 K) : MT G l yJ6_bitCount_0f7a4 cJ6_bitCount_0f7a4 1 (some .int) rmJ6_bitCount_0f7a4 [iV p0] h0 (QI G (fun r h1 => h1 = h0 ∧ K r)) := by
  refine go_metT l hfl _ 1 _ _ rfl (by decide +kernel) (Nat.le_of_ble_eq_true rfl) [(0, iV p0)] rfl (fun X hX C hn => ?_)
  subst hX
  unfold w_J6_bitCount_0f7a4 at hw
  refine go_iload_n C dJ6_bitCount_0f7a4_0 0 rfl ?_
  refine go_iload_n C dJ6_bitCount_0f7a4_1 0 rfl ?_
  refine go_iconst C 1 dJ6_bitCount_0f7a4_2 kc_i1 ?_
  refine go_iushr C dJ6_bitCount_0f7a4_3 ?_
  refine go_ldcw C 1431655765 dJ6_bitCount_0f7a4_4 tw6_199 ?_
  refine go_iand C dJ6_bitCount_0f7a4_7 ?_
  refine go_isub C dJ6_bitCount_0f7a4_8 ?_
  refine go_istore_n C [(0, iV (p0 - (((p0 : Int32).toUInt32 >>> ((1 : Int32).toUInt32 &&& Int32.toUInt32 31)).toInt32 &&& 1431655765)))] dJ6_bitCount_0f7a4_9 (Nat.le_of_ble_eq_true rfl) rfl ?_
  refine go_iload_n C dJ6_bitCount_0f7a4_10 0 rfl ?_
  refine go_ldcw C 858993459 dJ6_bitCount_0f7a4_11 tw6_200 ?_
  refine go_iand C dJ6_bitCount_0f7a4_14 ?_
  refine go_iload_n C dJ6_bitCount_0f7a4_15 0 rfl ?_
  refine go_iconst C 2 dJ6_bitCount_0f7a4_16 kc_i2 ?_
  refine go_iushr C dJ6_bitCount_0f7a4_17 ?_
  refine go_ldcw C 858993459 dJ6_bitCount_0f7a4_18 tw6_200 ?_
  refine go_iand C dJ6_bitCount_0f7a4_21 ?_
  refine go_iadd C dJ6_bitCount_0f7a4_22 ?_
  refine go_istore_n C [(0, iV (((p0 - (((p0 : Int32).toUInt32 >>> ((1 : Int32).toUInt32 &&& Int32.toUInt32 31)).toInt32 &&& 1431655765)) &&& 858993459) + ((((p0 - (((p0 : Int32).toUInt32 >>> ((1 : Int32).toUInt32 &&& Int32.toUInt32 31)).toInt32 &&& 1431655765)) : Int32).toUInt32 >>> ((2 : Int32).toUInt32 &&& Int32.toUInt32 31)).toInt32 &&& 858993459)))] dJ6_bitCount_0f7a4_23 (Nat.le_of_ble_eq_true rfl) rfl ?_
  refine go_iload_n C dJ6_bitCount_0f7a4_24 0 rfl ?_
  refine go_iload_n C dJ6_bitCount_0f7a4_25 0 rfl ?_
  refine go_iconst C 4 dJ6_bitCount_0f7a4_26 kc_i4 ?_
  refine go_iushr C dJ6_bitCount_0f7a4_27 ?_
  refine go_iadd C dJ6_bitCount_0f7a4_28 ?_
  refine go_ldcw C 252645135 dJ6_bitCount_0f7a4_29 tw6_201 ?_
  refine go_iand C dJ6_bitCount_0f7a4_32 ?_
  refine go_istore_n C [(0, iV (((((p0 - (((p0 : Int32).toUInt32 >>> ((1 : Int32).toUInt32 &&& Int32.toUInt32 31)).toInt32 &&& 1431655765)) &&& 858993459) + ((((p0 - (((p0 : Int32).toUInt32 >>> ((1 : Int32).toUInt32 &&& Int32.toUInt32 31)).toInt32 &&& 1431655765)) : Int32).toUInt32 >>> ((2 : Int32).toUInt32 &&& Int32.toUInt32 31)).toInt32 &&& 858993459)) + (((((p0 - (((p0 : Int32).toUInt32 >>> ((1 : Int32).toUInt32 &&& Int32.toUInt32 31)).toInt32 &&& 1431655765)) &&& 858993459) + ((((p0 - (((p0 : Int32).toUInt32 >>> ((1 : Int32).toUInt32 &&& Int32.toUInt32 31)).toInt32 &&& 1431655765)) : Int32).toUInt32 >>> ((2 : Int32).toUInt32 &&& Int32.toUInt32 31)).toInt32 &&& 858993459)) : Int32).toUInt32 >>> ((4 : Int32).toUInt32 &&& Int32.toUInt32 31)).toInt32) &&& 252645135))] dJ6_bitCount_0f7a4_33 (Nat.le_of_ble_eq_true rfl) rfl ?_
  refine go_iload_n C dJ6_bitCount_0f7a4_34 0 rfl ?_
  refine go_iload_n C dJ6_bitCount_0f7a4_35 0 rfl ?_
  refine go_bipush C 8 dJ6_bitCount_0f7a4_36 kc_b8 ?_
  refine go_iushr C dJ6_bitCount_0f7a4_38 ?_
  refine go_iadd C dJ6_bitCount_0f7a4_39 ?_
  refine go_istore_n C [(0, iV ((((((p0 - (((p0 : Int32).toUInt32 >>> ((1 : Int32).toUInt32 &&& Int32.toUInt32 31)).toInt32 &&& 1431655765)) &&& 858993459) + ((((p0 - (((p0 : Int32).toUInt32 >>> ((1 : Int32).toUInt32 &&& Int32.toUInt32 31)).toInt32 &&& 1431655765)) : Int32).toUInt32 >>> ((2 : Int32).toUInt32 &&& Int32.toUInt32 31)).toInt32 &&& 858993459)) + (((((p0 - (((p0 : Int32).toUInt32 >>> ((1 : Int32).toUInt32 &&& Int32.toUInt32 31)).toInt32 &&& 1431655765)) &&& 858993459) + ((((p0 - (((p0 : Int32).toUInt32 >>> ((1 : Int32).toUInt32 &&& Int32.toUInt32 31)).toInt32 &&& 1431655765)) : Int32).toUInt32 >>> ((2 : Int32).toUInt32 &&& Int32.toUInt32 31)).toInt32 &&& 858993459)) : Int32).toUInt32 >>> ((4 : Int32).toUInt32 &&& Int32.toUInt32 31)).toInt32) &&& 252645135) + (((((((p0 - (((p0 : Int32).toUInt32 >>> ((1 : Int32).toUInt32 &&& Int32.toUInt32 31)).toInt32 &&& 1431655765)) &&& 858993459) + ((((p0 - (((p0 : Int32).toUInt32 >>> ((1 : Int32).toUInt32 &&& Int32.toUInt32 31)).toInt32 &&& 1431655765)) : Int32).toUInt32 >>> ((2 : Int32).toUInt32 &&& Int32.toUInt32 31)).toInt32 &&& 858993459)) + (((((p0 - (((p0 : Int32).toUInt32 >>> ((1 : Int32).toUInt32 &&& Int32.toUInt32 31)).toInt32 &&& 1431655765)) &&& 858993459) + ((((p0 - (((p0 : Int32).toUInt32 >>> ((1 : Int32).toUInt32 &&& Int32.toUInt32 31)).toInt32 &&& 1431655765)) : Int32).toUInt32 >>> ((2 : Int32).toUInt32 &&& Int32.toUInt32 31)).toInt32 &&& 858993459)) : Int32).toUInt32 >>> ((4 : Int32).toUInt32 &&& Int32.toUInt32 31)).toInt32) &&& 252645135) : Int32).toUInt32 >>> ((8 : Int32).toUInt32 &&& Int32.toUInt32 31)).toInt32))] dJ6_bitCount_0f7a4_40 (Nat.le_of_ble_eq_true rfl) rfl ?_
  refine go_iload_n C dJ6_bitCount_0f7a4_41 0 rfl ?_
  refine go_iload_n C dJ6_bitCount_0f7a4_42 0 rfl ?_
  refine go_bipush C 16 dJ6_bitCount_0f7a4_43 kc_b16 ?_
  refine go_iushr C dJ6_bitCount_0f7a4_45 ?_
  refine go_iadd C dJ6_bitCount_0f7a4_46 ?_
  refine go_istore_n C [(0, iV (((((((p0 - (((p0 : Int32).toUInt32 >>> ((1 : Int32).toUInt32 &&& Int32.toUInt32 31)).toInt32 &&& 1431655765)) &&& 858993459) + ((((p0 - (((p0 : Int32).toUInt32 >>> ((1 : Int32).toUInt32 &&& Int32.toUInt32 31)).toInt32 &&& 1431655765)) : Int32).toUInt32 >>> ((2 : Int32).toUInt32 &&& Int32.toUInt32 31)).toInt32 &&& 858993459)) + (((((p0 - (((p0 : Int32).toUInt32 >>> ((1 : Int32).toUInt32 &&& Int32.toUInt32 31)).toInt32 &&& 1431655765)) &&& 858993459) + ((((p0 - (((p0 : Int32).toUInt32 >>> ((1 : Int32).toUInt32 &&& Int32.toUInt32 31)).toInt32 &&& 1431655765)) : Int32).toUInt32 >>> ((2 : Int32).toUInt32 &&& Int32.toUInt32 31)).toInt32 &&& 858993459)) : Int32).toUInt32 >>> ((4 : Int32).toUInt32 &&& Int32.toUInt32 31)).toInt32) &&& 252645135) + (((((((p0 - (((p0 : Int32).toUInt32 >>> ((1 : Int32).toUInt32 &&& Int32.toUInt32 31)).toInt32 &&& 1431655765)) &&& 858993459) + ((((p0 - (((p0 : Int32).toUInt32 >>> ((1 : Int32).toUInt32 &&& Int32.toUInt32 31)).toInt32 &&& 1431655765)) : Int32).toUInt32 >>> ((2 : Int32).toUInt32 &&& Int32.toUInt32 31)).toInt32 &&& 858993459)) + (((((p0 - (((p0 : Int32).toUInt32 >>> ((1 : Int32).toUInt32 &&& Int32.toUInt32 31)).toInt32 &&& 1431655765)) &&& 858993459) + ((((p0 - (((p0 : Int32).toUInt32 >>> ((1 : Int32).toUInt32 &&& Int32.toUInt32 31)).toInt32 &&& 1431655765)) : Int32).toUInt32 >>> ((2 : Int32).toUInt32 &&& Int32.toUInt32 31)).toInt32 &&& 858993459)) : Int32).toUInt32 >>> ((4 : Int32).toUInt32 &&& Int32.toUInt32 31)).toInt32) &&& 252645135) : Int32).toUInt32 >>> ((8 : Int32).toUInt32 &&& Int32.toUInt32 31)).toInt32) + ((((((((p0 - (((p0 : Int32).toUInt32 >>> ((1 : Int32).toUInt32 &&& Int32.toUInt32 31)).toInt32 &&& 1431655765)) &&& 858993459) + ((((p0 - (((p0 : Int32).toUInt32 >>> ((1 : Int32).toUInt32 &&& Int32.toUInt32 31)).toInt32 &&& 1431655765)) : Int32).toUInt32 >>> ((2 : Int32).toUInt32 &&& Int32.toUInt32 31)).toInt32 &&& 858993459)) + (((((p0 - (((p0 : Int32).toUInt32 >>> ((1 : Int32).toUInt32 &&& Int32.toUInt32 31)).toInt32 &&& 1431655765)) &&& 858993459) + ((((p0 - (((p0 : Int32).toUInt32 >>> ((1 : Int32).toUInt32 &&& Int32.toUInt32 31)).toInt32 &&& 1431655765)) : Int32).toUInt32 >>> ((2 : Int32).toUInt32 &&& Int32.toUInt32 31)).toInt32 &&& 858993459)) : Int32).toUInt32 >>> ((4 : Int32).toUInt32 &&& Int32.toUInt32 31)).toInt32) &&& 252645135) + (((((((p0 - (((p0 : Int32).toUInt32 >>> ((1 : Int32).toUInt32 &&& Int32.toUInt32 31)).toInt32 &&& 1431655765)) &&& 858993459) + ((((p0 - (((p0 : Int32).toUInt32 >>> ((1 : Int32).toUInt32 &&& Int32.toUInt32 31)).toInt32 &&& 1431655765)) : Int32).toUInt32 >>> ((2 : Int32).toUInt32 &&& Int32.toUInt32 31)).toInt32 &&& 858993459)) + (((((p0 - (((p0 : Int32).toUInt32 >>> ((1 : Int32).toUInt32 &&& Int32.toUInt32 31)).toInt32 &&& 1431655765)) &&& 858993459) + ((((p0 - (((p0 : Int32).toUInt32 >>> ((1 : Int32).toUInt32 &&& Int32.toUInt32 31)).toInt32 &&& 1431655765)) : Int32).toUInt32 >>> ((2 : Int32).toUInt32 &&& Int32.toUInt32 31)).toInt32 &&& 858993459)) : Int32).toUInt32 >>> ((4 : Int32).toUInt32 &&& Int32.toUInt32 31)).toInt32) &&& 252645135) : Int32).toUInt32 >>> ((8 : Int32).toUInt32 &&& Int32.toUInt32 31)).toInt32) : Int32).toUInt32 >>> ((16 : Int32).toUInt32 &&& Int32.toUInt32 31)).toInt32))] dJ6_bitCount_0f7a4_47 (Nat.le_of_ble_eq_true rfl) rfl ?_
  refine go_iload_n C dJ6_bitCount_0f7a4_48 0 rfl ?_
  refine go_bipush C 63 dJ6_bitCount_0f7a4_49 kc_b63 ?_
  refine go_iand C dJ6_bitCount_0f7a4_51 ?_
  exact go_iret C dJ6_bitCount_0f7a4_52 ⟨rfl, hw⟩ (Nat.le_of_ble_eq_true rfl) (Nat.le_of_ble_eq_true rfl)
