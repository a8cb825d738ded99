/-- DuelSchema$Cache.<init>()V -/
def w_X0_init (N : Nat) (a0 : Nat) (h0 : Hp) (K : Hp → Prop) : Prop :=
  nA h0 (.inl (0, 12, .inl (fun _ => 0))) fun a1 h2 =>
  pF h2 a0 0 0 (rV (some a1)) fun h3 =>
  pF h3 a0 0 1 (iV 4) fun h4 =>
  pF h4 a0 0 2 (iV 0) fun h5 =>
  K h5
abbrev rmX0_init : Room := { frames := 2, cells := 1, slots := 12, locals := 60 }
theorem vX0_init : II yX0_init cX0_init 1 0 := ⟨tw1_63, tw1_3, tw1_64, rfl, by decide +kernel⟩
set_option maxHeartbeats 4000000 in
theorem m_X0_init {G : Gp} (l : Launch) (hfl : l.stackTraces = false) (N : Nat) {a0 : Nat} {h0 : Hp} {K : Hp → Prop} (hw : w_X0_init N a0 h0 K) : MT G l yX0_init cX0_init 1 none rmX0_init [rV (some a0)] h0 (QV G K) := by
  refine go_metT l hfl _ 1 _ _ rfl (by decide +kernel) (Nat.le_of_ble_eq_true rfl) [(0, rV (some a0))] rfl (fun X hX C hn => ?_)
  subst hX
  unfold w_X0_init at hw
  refine go_aload_n C dX0_init_0 0 rfl ?_
  refine go_objinit C tw1_65 tw1_33 tw1_34 dX0_init_1 ⟨Nat.le_of_ble_eq_true rfl, Nat.le_of_ble_eq_true rfl⟩ (Nat.le_of_ble_eq_true rfl) ?_
  refine go_aload_n C dX0_init_4 0 rfl ?_
  refine go_bipush C 12 dX0_init_5 kc_b12 ?_
  refine go_newarr0 C 12 (by decide) (by decide) (Nat.le_of_ble_eq_true rfl) tw1_76 ⟨Nat.le_of_ble_eq_true rfl, Nat.le_of_ble_eq_true rfl⟩ dX0_init_7 hw (fun a1 h2 hw => ?_)
  refine go_putRA C (cfX0) (k := 0) (Nat.le_of_ble_eq_true rfl) tw1_66 rfl (Or.inr ⟨rfl, hn, rfl⟩) rfl dX0_init_9 hw (fun h3 hw => ?_)
  refine go_aload_n C dX0_init_12 0 rfl ?_
  refine go_iconst C 4 dX0_init_13 kc_i4 ?_
  refine go_putI C (cfX0) (k := 1) (Nat.le_of_ble_eq_true rfl) tw1_67 rfl (Or.inl rfl) rfl dX0_init_14 hw (fun h4 hw => ?_)
  refine go_aload_n C dX0_init_17 0 rfl ?_
  refine go_iconst C 0 dX0_init_18 kc_i0 ?_
  refine go_putI C (cfX0) (k := 2) (Nat.le_of_ble_eq_true rfl) tw1_68 rfl (Or.inl rfl) rfl dX0_init_19 hw (fun h5 hw => ?_)
  exact go_vret C dX0_init_22 hw (Nat.le_of_ble_eq_true rfl) (Nat.le_of_ble_eq_true rfl)
/-- DuelSchema$Cache.frameCount()I -/
def w_X0_frameCount (N : Nat) (a0 : Nat) (h0 : Hp) (K : Int32 → Prop) : Prop :=
  gI h0 a0 0 1 fun v1 =>
  K v1
abbrev rmX0_frameCount : Room := { frames := 2, cells := 0, slots := 0, locals := 60 }
theorem vX0_frameCount : VI RX0 yX0_frameCount cX0_frameCount 1 (some .int) 0 := ⟨tw3_221, tw3_222, tw1_3, tw3_223, by decide +kernel⟩
set_option maxHeartbeats 4000000 in
theorem m_X0_frameCount {G : Gp} (l : Launch) (hfl : l.stackTraces = false) (N : Nat) {a0 : Nat} {h0 : Hp} {K : Int32 → Prop} (hw : w_X0_frameCount N a0 h0 K) : MT G l yX0_frameCount cX0_frameCount 1 (some .int) rmX0_frameCount [rV (some a0)] h0 (QI G (fun r h1 => h1 = h0 ∧ K r)) := by
  refine go_metT l hfl _ 1 _ _ rfl (by decide +kernel) (Nat.le_of_ble_eq_true rfl) [(0, rV (some a0))] rfl (fun X hX C hn => ?_)
  subst hX
  unfold w_X0_frameCount at hw
  refine go_aload_n C dX0_frameCount_0 0 rfl ?_
  refine go_getI C (cfX0) (k := 1) (Nat.le_of_ble_eq_true rfl) tw1_67 rfl dX0_frameCount_1 hw (fun v1 hw => ?_)
  exact go_iret C dX0_frameCount_4 ⟨rfl, hw⟩ (Nat.le_of_ble_eq_true rfl) (Nat.le_of_ble_eq_true rfl)
/-- DuelSchema$Cache.size()I -/
def w_X0_size (N : Nat) (a0 : Nat) (h0 : Hp) (K : Int32 → Prop) : Prop :=
  gI h0 a0 0 2 fun v1 =>
  K v1
abbrev rmX0_size : Room := { frames := 2, cells := 0, slots := 0, locals := 60 }
theorem vX0_size : VI RX0 yX0_size cX0_size 1 (some .int) 0 := ⟨tw2_20, tw2_21, tw1_3, tw2_22, by decide +kernel⟩
set_option maxHeartbeats 4000000 in
theorem m_X0_size {G : Gp} (l : Launch) (hfl : l.stackTraces = false) (N : Nat) {a0 : Nat} {h0 : Hp} {K : Int32 → Prop} (hw : w_X0_size N a0 h0 K) : MT G l yX0_size cX0_size 1 (some .int) rmX0_size [rV (some a0)] h0 (QI G (fun r h1 => h1 = h0 ∧ K r)) := by
  refine go_metT l hfl _ 1 _ _ rfl (by decide +kernel) (Nat.le_of_ble_eq_true rfl) [(0, rV (some a0))] rfl (fun X hX C hn => ?_)
  subst hX
  unfold w_X0_size at hw
  refine go_aload_n C dX0_size_0 0 rfl ?_
  refine go_getI C (cfX0) (k := 2) (Nat.le_of_ble_eq_true rfl) tw1_68 rfl dX0_size_1 hw (fun v1 hw => ?_)
  exact go_iret C dX0_size_4 ⟨rfl, hw⟩ (Nat.le_of_ble_eq_true rfl) (Nat.le_of_ble_eq_true rfl)
/-- DuelSchema$Cache.keyAt(I)I -/
def w_X0_keyAt (N : Nat) (a0 : Nat) (p1 : Int32) (h0 : Hp) (K : Int32 → Prop) : Prop :=
  br (p1 < 0) (
    K (-1)) (
    gI h0 a0 0 2 fun v1 =>
    br (v1 ≤ p1) (
      K (-1)) (
      gA h0 a0 0 0 fun a2 =>
      aN h0 a2 fun v3 =>
      br (v3 ≤ p1) (
        K (-1)) (
        gA h0 a0 0 0 fun a4 =>
        aI h0 a4 0 p1 fun v5 =>
        K v5)))
abbrev rmX0_keyAt : Room := { frames := 2, cells := 0, slots := 0, locals := 60 }
theorem vX0_keyAt : VI RX0 yX0_keyAt cX0_keyAt 2 (some .int) 1 := ⟨tw2_75, tw2_76, tw1_3, tw2_77, by decide +kernel⟩
set_option maxHeartbeats 4000000 in
theorem m_X0_keyAt {G : Gp} (l : Launch) (hfl : l.stackTraces = false) (N : Nat) {a0 : Nat} {p1 : Int32} {h0 : Hp} {K : Int32 → Prop} (hw : w_X0_keyAt N a0 p1 h0 K) : MT G l yX0_keyAt cX0_keyAt 2 (some .int) rmX0_keyAt [rV (some a0), iV p1] h0 (QI G (fun r h1 => h1 = h0 ∧ K r)) := by
  refine go_metT l hfl _ 2 _ _ rfl (by decide +kernel) (Nat.le_of_ble_eq_true rfl) [(0, rV (some a0)), (1, iV p1)] rfl (fun X hX C hn => ?_)
  subst hX
  unfold w_X0_keyAt at hw
  refine go_iload_n C dX0_keyAt_0 1 rfl ?_
  refine go_if_lt C 30 dX0_keyAt_1 (by decide) hw (fun hw => ?_) (fun hw => ?_)
  · refine go_iconst C (-1) dX0_keyAt_30 kc_im1 ?_
    exact go_iret C dX0_keyAt_31 ⟨rfl, hw⟩ (Nat.le_of_ble_eq_true rfl) (Nat.le_of_ble_eq_true rfl)
  refine go_iload_n C dX0_keyAt_4 1 rfl ?_
  refine go_aload_n C dX0_keyAt_5 0 rfl ?_
  refine go_getI C (cfX0) (k := 2) (Nat.le_of_ble_eq_true rfl) tw1_68 rfl dX0_keyAt_6 hw (fun v1 hw => ?_)
  refine go_icmp_ge C 30 dX0_keyAt_9 (by decide) hw (fun hw => ?_) (fun hw => ?_)
  · refine go_iconst C (-1) dX0_keyAt_30 kc_im1 ?_
    exact go_iret C dX0_keyAt_31 ⟨rfl, hw⟩ (Nat.le_of_ble_eq_true rfl) (Nat.le_of_ble_eq_true rfl)
  refine go_iload_n C dX0_keyAt_12 1 rfl ?_
  refine go_aload_n C dX0_keyAt_13 0 rfl ?_
  refine go_getA C (cfX0) (k := 0) (Nat.le_of_ble_eq_true rfl) tw1_66 rfl dX0_keyAt_14 hw (fun a2 hw => ?_)
  refine go_alen C dX0_keyAt_17 hw (fun v3 hw => ?_)
  refine go_icmp_ge C 30 dX0_keyAt_18 (by decide) hw (fun hw => ?_) (fun hw => ?_)
  · refine go_iconst C (-1) dX0_keyAt_30 kc_im1 ?_
    exact go_iret C dX0_keyAt_31 ⟨rfl, hw⟩ (Nat.le_of_ble_eq_true rfl) (Nat.le_of_ble_eq_true rfl)
  refine go_aload_n C dX0_keyAt_21 0 rfl ?_
  refine go_getA C (cfX0) (k := 0) (Nat.le_of_ble_eq_true rfl) tw1_66 rfl dX0_keyAt_22 hw (fun a4 hw => ?_)
  refine go_iload_n C dX0_keyAt_25 1 rfl ?_
  refine go_iaload C dX0_keyAt_26 hw (fun v5 hw => ?_)
  refine go_goto C 31 dX0_keyAt_27 (by decide) ?_
  exact go_iret C dX0_keyAt_31 ⟨rfl, hw⟩ (Nat.le_of_ble_eq_true rfl) (Nat.le_of_ble_eq_true rfl)
/-- DuelSchema$Cache.clear()V -/
def w_X0_clear (N : Nat) (a0 : Nat) (h0 : Hp) (K : Hp → Prop) : Prop :=
  pF h0 a0 0 2 (iV 0) fun h1 =>
  K h1
abbrev rmX0_clear : Room := { frames := 2, cells := 0, slots := 0, locals := 60 }
theorem vX0_clear : VI RX0 yX0_clear cX0_clear 1 none 0 := ⟨tw2_28, tw2_29, tw1_3, tw2_30, by decide +kernel⟩
set_option maxHeartbeats 4000000 in
theorem m_X0_clear {G : Gp} (l : Launch) (hfl : l.stackTraces = false) (N : Nat) {a0 : Nat} {h0 : Hp} {K : Hp → Prop} (hw : w_X0_clear N a0 h0 K) : MT G l yX0_clear cX0_clear 1 none rmX0_clear [rV (some a0)] h0 (QV G K) := by
  refine go_metT l hfl _ 1 _ _ rfl (by decide +kernel) (Nat.le_of_ble_eq_true rfl) [(0, rV (some a0))] rfl (fun X hX C hn => ?_)
  subst hX
  unfold w_X0_clear at hw
  refine go_aload_n C dX0_clear_0 0 rfl ?_
  refine go_iconst C 0 dX0_clear_1 kc_i0 ?_
  refine go_putI C (cfX0) (k := 2) (Nat.le_of_ble_eq_true rfl) tw1_68 rfl (Or.inl rfl) rfl dX0_clear_2 hw (fun h1 hw => ?_)
  exact go_vret C dX0_clear_5 hw (Nat.le_of_ble_eq_true rfl) (Nat.le_of_ble_eq_true rfl)
/-- DuelSchema$Cache.setFrames(I)V -/
def w_X0_setFrames (N : Nat) (a0 : Nat) (p1 : Int32) (h0 : Hp) (K : Hp → Prop) : Prop :=
  pF h0 a0 0 1 (iV p1) fun h1 =>
  gI h1 a0 0 2 fun v2 =>
  pF h1 a0 0 2 (iV (if p1 < v2 then p1 else v2)) fun h3 =>
  K h3
abbrev rmX0_setFrames : Room := { frames := 2, cells := 0, slots := 0, locals := 60 }
theorem vX0_setFrames : VI RX0 yX0_setFrames cX0_setFrames 2 none 1 := ⟨tw3_225, tw3_226, tw1_3, tw3_227, by decide +kernel⟩
set_option maxHeartbeats 4000000 in
theorem m_X0_setFrames {G : Gp} (l : Launch) (hfl : l.stackTraces = false) (N : Nat) {a0 : Nat} {p1 : Int32} {h0 : Hp} {K : Hp → Prop} (hw : w_X0_setFrames N a0 p1 h0 K) : MT G l yX0_setFrames cX0_setFrames 2 none rmX0_setFrames [rV (some a0), iV p1] h0 (QV G K) := by
  refine go_metT l hfl _ 2 _ _ rfl (by decide +kernel) (Nat.le_of_ble_eq_true rfl) [(0, rV (some a0)), (1, iV p1)] rfl (fun X hX C hn => ?_)
  subst hX
  unfold w_X0_setFrames at hw
  refine go_aload_n C dX0_setFrames_0 0 rfl ?_
  refine go_iload_n C dX0_setFrames_1 1 rfl ?_
  refine go_putI C (cfX0) (k := 1) (Nat.le_of_ble_eq_true rfl) tw1_67 rfl (Or.inl rfl) rfl dX0_setFrames_2 hw (fun h1 hw => ?_)
  refine go_aload_n C dX0_setFrames_5 0 rfl ?_
  refine go_aload_n C dX0_setFrames_6 0 rfl ?_
  refine go_getI C (cfX0) (k := 2) (Nat.le_of_ble_eq_true rfl) tw1_68 rfl dX0_setFrames_7 hw (fun v2 hw => ?_)
  refine go_iload_n C dX0_setFrames_10 1 rfl ?_
  refine go_imin C tw2_188 tw2_171 tw1_19 tw2_172 ⟨Nat.le_of_ble_eq_true rfl, Nat.le_of_ble_eq_true rfl, Nat.le_of_ble_eq_true rfl, Nat.le_of_ble_eq_true rfl⟩ (Nat.le_of_ble_eq_true rfl) dX0_setFrames_11 ?_
  refine go_putI C (cfX0) (k := 2) (Nat.le_of_ble_eq_true rfl) tw1_68 rfl (Or.inl rfl) rfl dX0_setFrames_14 hw (fun h3 hw => ?_)
  exact go_vret C dX0_setFrames_17 hw (Nat.le_of_ble_eq_true rfl) (Nat.le_of_ble_eq_true rfl)
/-- DuelSchema$Cache.placeOf(I)I -/
def w_X0_placeOf (N : Nat) (a0 : Nat) (p1 : Int32) (h0 : Hp) (K : Int32 → Prop) : Prop :=
  fx1 (fun (w2 : Int32 → Prop) (x1 : Int32) =>
    gI h0 a0 0 2 fun v2 =>
    br (v2 ≤ x1) (
      K x1) (
      gA h0 a0 0 0 fun a3 =>
      aN h0 a3 fun v4 =>
      br (v4 ≤ x1) (
        K x1) (
        gA h0 a0 0 0 fun a5 =>
        aI h0 a5 0 x1 fun v6 =>
        br (v6 = p1) (
          K x1) (
          w2 (x1 + 1))))) N 0
abbrev rmX0_placeOf : Room := { frames := 2, cells := 0, slots := 0, locals := 60 }
theorem vX0_placeOf : VI RX0 yX0_placeOf cX0_placeOf 3 (some .int) 1 := ⟨tw2_80, tp0, tw1_3, tw2_81, by decide +kernel⟩
set_option maxHeartbeats 4000000 in
theorem m_X0_placeOf {G : Gp} (l : Launch) (hfl : l.stackTraces = false) (N : Nat) {a0 : Nat} {p1 : Int32} {h0 : Hp} {K : Int32 → Prop} (hw : w_X0_placeOf N a0 p1 h0 K) : MT G l yX0_placeOf cX0_placeOf 3 (some .int) rmX0_placeOf [rV (some a0), iV p1] h0 (QI G (fun r h1 => h1 = h0 ∧ K r)) := by
  refine go_metT l hfl _ 3 _ _ rfl (by decide +kernel) (Nat.le_of_ble_eq_true rfl) [(0, rV (some a0)), (1, iV p1)] rfl (fun X hX C hn => ?_)
  subst hX
  unfold w_X0_placeOf at hw
  refine go_iconst C 0 dX0_placeOf_0 kc_i0 ?_
  refine go_istore_n C [(2, iV 0), (0, rV (some a0)), (1, iV p1)] dX0_placeOf_1 (Nat.le_of_ble_eq_true rfl) rfl ?_
  refine go_sub [1, 2, 0] rfl ?_
  refine fx1_elim (P := fun x1 => Go G X rmX0_placeOf 3 0 0 (QN G X (QI G (fun r h1 => h1 = h0 ∧ K r)) rmX0_placeOf) h0 2 [(0, rV (some a0)), (1, iV p1), (2, iV x1)] []) (fun w2 hj2 x1 hw => ?_) N _ hw
  refine go_iload_n C dX0_placeOf_2 2 rfl ?_
  refine go_aload_n C dX0_placeOf_3 0 rfl ?_
  refine go_getI C (cfX0) (k := 2) (Nat.le_of_ble_eq_true rfl) tw1_68 rfl dX0_placeOf_4 hw (fun v2 hw => ?_)
  refine go_icmp_ge C 35 dX0_placeOf_7 (by decide) hw (fun hw => ?_) (fun hw => ?_)
  · refine go_iload_n C dX0_placeOf_35 2 rfl ?_
    exact go_iret C dX0_placeOf_36 ⟨rfl, hw⟩ (Nat.le_of_ble_eq_true rfl) (Nat.le_of_ble_eq_true rfl)
  refine go_iload_n C dX0_placeOf_10 2 rfl ?_
  refine go_aload_n C dX0_placeOf_11 0 rfl ?_
  refine go_getA C (cfX0) (k := 0) (Nat.le_of_ble_eq_true rfl) tw1_66 rfl dX0_placeOf_12 hw (fun a3 hw => ?_)
  refine go_alen C dX0_placeOf_15 hw (fun v4 hw => ?_)
  refine go_icmp_ge C 35 dX0_placeOf_16 (by decide) hw (fun hw => ?_) (fun hw => ?_)
  · refine go_iload_n C dX0_placeOf_35 2 rfl ?_
    exact go_iret C dX0_placeOf_36 ⟨rfl, hw⟩ (Nat.le_of_ble_eq_true rfl) (Nat.le_of_ble_eq_true rfl)
  refine go_aload_n C dX0_placeOf_19 0 rfl ?_
  refine go_getA C (cfX0) (k := 0) (Nat.le_of_ble_eq_true rfl) tw1_66 rfl dX0_placeOf_20 hw (fun a5 hw => ?_)
  refine go_iload_n C dX0_placeOf_23 2 rfl ?_
  refine go_iaload C dX0_placeOf_24 hw (fun v6 hw => ?_)
  refine go_iload_n C dX0_placeOf_25 1 rfl ?_
  refine go_icmp_eq C 35 dX0_placeOf_26 (by decide) hw (fun hw => ?_) (fun hw => ?_)
  · refine go_iload_n C dX0_placeOf_35 2 rfl ?_
    exact go_iret C dX0_placeOf_36 ⟨rfl, hw⟩ (Nat.le_of_ble_eq_true rfl) (Nat.le_of_ble_eq_true rfl)
  refine go_iinc C (x1 + 1) [(2, iV (x1 + 1)), (0, rV (some a0)), (1, iV p1)] dX0_placeOf_29 2 rfl (by rw [kc_i1]) (Nat.le_of_ble_eq_true rfl) rfl ?_
  refine go_goto C 2 dX0_placeOf_32 (by decide) ?_
  refine go_sub [1, 2, 0] rfl ?_
  exact hj2 (x1 + 1) hw
/-- DuelSchema$Cache.missed(I)Z -/
def w_X0_missed (N : Nat) (a0 : Nat) (p1 : Int32) (h0 : Hp) (K : Int32 → Hp → Prop) : Prop :=
  cv h0 a0 0 <| w_X0_placeOf N a0 p1 h0 fun v1 =>
  gI h0 a0 0 2 fun v2 =>
  jn (fun (v3 : Int32) => 
    jn (fun (x5 : Int32) (h4 : Hp) => 
      gA h4 a0 0 0 fun a6 =>
      aN h4 a6 fun v7 =>
      fx2 (fun (w70 : Int32 → Hp → Prop) (x9 : Int32) (h8 : Hp) =>
        br (x9 ≤ 0) (
          gA h8 a0 0 0 fun a10 =>
          sI h8 a10 0 0 p1 fun h11 =>
          ok (narrow .boolean (.int v3) = .int v3) <| K v3 h11) (
          gA h8 a0 0 0 fun a12 =>
          gA h8 a0 0 0 fun a13 =>
          aI h8 a13 0 (x9 - 1) fun v14 =>
          sI h8 a12 0 x9 v14 fun h15 =>
          w70 (x9 + (-1)) h15)) N (if (v7 - 1) < x5 then (v7 - 1) else x5) h4) (fun j57 =>
    br (v3 = 0) (
      j57 v1 h0) (
      gI h0 a0 0 1 fun v16 =>
      br (0 < v16) (
        gI h0 a0 0 2 fun v17 =>
        gI h0 a0 0 1 fun v18 =>
        pF h0 a0 0 2 (iV (if v18 < (v17 + 1) then v18 else (v17 + 1))) fun h19 =>
        gI h19 a0 0 2 fun v20 =>
        j57 (v20 - 1) h19) (
        K 1 h0)))) (fun j19 =>
  br (v1 = v2) (
    j19 1) (
    j19 0))
abbrev rmX0_missed : Room := { frames := 3, cells := 0, slots := 0, locals := 82 }
theorem vX0_missed : VI RX0 yX0_missed cX0_missed 5 (some .boolean) 1 := ⟨tw2_185, tw2_186, tw1_3, tw2_187, by decide +kernel⟩
set_option maxHeartbeats 4000000 in
theorem m_X0_missed {G : Gp} (l : Launch) (hfl : l.stackTraces = false) (N : Nat) {a0 : Nat} {p1 : Int32} {h0 : Hp} {K : Int32 → Hp → Prop} (hw : w_X0_missed N a0 p1 h0 K) : MT G l yX0_missed cX0_missed 5 (some .boolean) rmX0_missed [rV (some a0), iV p1] h0 (QI G K) := by
  refine go_metT l hfl _ 5 _ _ rfl (by decide +kernel) (Nat.le_of_ble_eq_true rfl) [(0, rV (some a0)), (1, iV p1)] rfl (fun X hX C hn => ?_)
  subst hX
  unfold w_X0_missed at hw
  refine go_aload_n C dX0_missed_0 0 rfl ?_
  refine go_iload_n C dX0_missed_1 1 rfl ?_
  refine go_pV_i C [iV p1] vX0_placeOf tw2_78 (ci := 0) rfl (m_X0_placeOf (xl X) C.2.2.2.2.2.2.2.1 N hw.2) ⟨Nat.le_of_ble_eq_true rfl, Nat.le_of_ble_eq_true rfl, Nat.le_of_ble_eq_true rfl, Nat.le_of_ble_eq_true rfl⟩ ⟨rfl, rfl⟩ hw.1 dX0_missed_2 rfl (Nat.le_of_ble_eq_true rfl) rfl (fun v1 hw => ?_)
  refine go_istore_n C [(2, iV v1), (0, rV (some a0)), (1, iV p1)] dX0_missed_5 (Nat.le_of_ble_eq_true rfl) rfl ?_
  refine go_iload_n C dX0_missed_6 0 rfl ?_
  refine go_aload_n C dX0_missed_7 1 rfl ?_
  refine go_getI C (cfX0) (k := 2) (Nat.le_of_ble_eq_true rfl) tw1_68 rfl dX0_missed_8 hw (fun v2 hw => ?_)
  refine jn_elim (P := fun j => ∀ (v3 : Int32), j v3 → Go G X rmX0_missed 5 0 0 (QN G X (QI G K) rmX0_missed) h0 19 [(0, rV (some a0)), (1, iV p1), (2, iV v1)] [iV v3]) hw (fun v3 hw => ?_) (fun j19 hj19 hw => ?_)
  · refine go_istore_n C [(3, iV v3), (0, rV (some a0)), (1, iV p1), (2, iV v1)] dX0_missed_19 (Nat.le_of_ble_eq_true rfl) rfl ?_
    refine go_iload_n C dX0_missed_20 0 rfl ?_
    refine jn_elim (P := fun j => ∀ (x5 : Int32) (h4 : Hp), j x5 h4 → Go G X rmX0_missed 5 0 0 (QN G X (QI G K) rmX0_missed) h4 57 [(0, rV (some a0)), (1, iV p1), (2, iV x5), (3, iV v3)] []) hw (fun x5 h4 hw => ?_) (fun j57 hj57 hw => ?_)
    · refine go_iload_n C dX0_missed_57 2 rfl ?_
      refine go_aload_n C dX0_missed_58 0 rfl ?_
      refine go_getA C (cfX0) (k := 0) (Nat.le_of_ble_eq_true rfl) tw1_66 rfl dX0_missed_59 hw (fun a6 hw => ?_)
      refine go_alen C dX0_missed_62 hw (fun v7 hw => ?_)
      refine go_iconst C 1 dX0_missed_63 kc_i1 ?_
      refine go_isub C dX0_missed_64 ?_
      refine go_imin C tw2_188 tw2_171 tw1_19 tw2_172 ⟨Nat.le_of_ble_eq_true rfl, Nat.le_of_ble_eq_true rfl, Nat.le_of_ble_eq_true rfl, Nat.le_of_ble_eq_true rfl⟩ (Nat.le_of_ble_eq_true rfl) dX0_missed_65 ?_
      refine go_istore C [(4, iV (if (v7 - 1) < x5 then (v7 - 1) else x5)), (0, rV (some a0)), (1, iV p1), (2, iV x5), (3, iV v3)] dX0_missed_68 (Nat.le_of_ble_eq_true rfl) rfl ?_
      refine go_sub [1, 2, 4, 0] rfl ?_
      refine fx2_elim (P := fun x9 h8 => Go G X rmX0_missed 5 0 0 (QN G X (QI G K) rmX0_missed) h8 70 [(0, rV (some a0)), (1, iV p1), (3, iV v3), (4, iV x9)] []) (fun w70 hj70 x9 h8 hw => ?_) N _ _ hw
      refine go_iload C dX0_missed_70 3 rfl ?_
      refine go_if_le C 97 dX0_missed_72 (by decide) hw (fun hw => ?_) (fun hw => ?_)
      · refine go_aload_n C dX0_missed_97 0 rfl ?_
        refine go_getA C (cfX0) (k := 0) (Nat.le_of_ble_eq_true rfl) tw1_66 rfl dX0_missed_98 hw (fun a10 hw => ?_)
        refine go_iconst C 0 dX0_missed_101 kc_i0 ?_
        refine go_iload_n C dX0_missed_102 1 rfl ?_
        refine go_iastore C dX0_missed_103 hw (fun h11 hw => ?_)
        refine go_iload_n C dX0_missed_104 2 rfl ?_
        exact go_zret C dX0_missed_105 ⟨hw.1, hw.2⟩ (Nat.le_of_ble_eq_true rfl) (Nat.le_of_ble_eq_true rfl)
      refine go_aload_n C dX0_missed_75 0 rfl ?_
      refine go_getA C (cfX0) (k := 0) (Nat.le_of_ble_eq_true rfl) tw1_66 rfl dX0_missed_76 hw (fun a12 hw => ?_)
      refine go_iload C dX0_missed_79 3 rfl ?_
      refine go_aload_n C dX0_missed_81 0 rfl ?_
      refine go_getA C (cfX0) (k := 0) (Nat.le_of_ble_eq_true rfl) tw1_66 rfl dX0_missed_82 hw (fun a13 hw => ?_)
      refine go_iload C dX0_missed_85 3 rfl ?_
      refine go_iconst C 1 dX0_missed_87 kc_i1 ?_
      refine go_isub C dX0_missed_88 ?_
      refine go_iaload C dX0_missed_89 hw (fun v14 hw => ?_)
      refine go_iastore C dX0_missed_90 hw (fun h15 hw => ?_)
      refine go_iinc C (x9 + (-1)) [(4, iV (x9 + (-1))), (0, rV (some a0)), (1, iV p1), (3, iV v3)] dX0_missed_91 3 rfl (by rw [kc_im1]) (Nat.le_of_ble_eq_true rfl) rfl ?_
      refine go_goto C 70 dX0_missed_94 (by decide) ?_
      refine go_sub [1, 2, 3, 0] rfl ?_
      exact hj70 (x9 + (-1)) h15 hw
    refine go_if_eq C 57 dX0_missed_21 (by decide) hw (fun hw => ?_) (fun hw => ?_)
    · refine go_sub [1, 2, 3, 0] rfl ?_
      exact hj57 v1 h0 hw
    refine go_aload_n C dX0_missed_24 1 rfl ?_
    refine go_getI C (cfX0) (k := 1) (Nat.le_of_ble_eq_true rfl) tw1_67 rfl dX0_missed_25 hw (fun v16 hw => ?_)
    refine go_if_gt C 33 dX0_missed_28 (by decide) hw (fun hw => ?_) (fun hw => ?_)
    · refine go_aload_n C dX0_missed_33 1 rfl ?_
      refine go_aload_n C dX0_missed_34 1 rfl ?_
      refine go_getI C (cfX0) (k := 2) (Nat.le_of_ble_eq_true rfl) tw1_68 rfl dX0_missed_35 hw (fun v17 hw => ?_)
      refine go_iconst C 1 dX0_missed_38 kc_i1 ?_
      refine go_iadd C dX0_missed_39 ?_
      refine go_aload_n C dX0_missed_40 1 rfl ?_
      refine go_getI C (cfX0) (k := 1) (Nat.le_of_ble_eq_true rfl) tw1_67 rfl dX0_missed_41 hw (fun v18 hw => ?_)
      refine go_imin C tw2_188 tw2_171 tw1_19 tw2_172 ⟨Nat.le_of_ble_eq_true rfl, Nat.le_of_ble_eq_true rfl, Nat.le_of_ble_eq_true rfl, Nat.le_of_ble_eq_true rfl⟩ (Nat.le_of_ble_eq_true rfl) dX0_missed_44 ?_
      refine go_putI C (cfX0) (k := 2) (Nat.le_of_ble_eq_true rfl) tw1_68 rfl (Or.inl rfl) rfl dX0_missed_47 hw (fun h19 hw => ?_)
      refine go_aload_n C dX0_missed_50 1 rfl ?_
      refine go_getI C (cfX0) (k := 2) (Nat.le_of_ble_eq_true rfl) tw1_68 rfl dX0_missed_51 hw (fun v20 hw => ?_)
      refine go_iconst C 1 dX0_missed_54 kc_i1 ?_
      refine go_isub C dX0_missed_55 ?_
      refine go_istore_n C [(2, iV (v20 - 1)), (3, iV v3), (0, rV (some a0)), (1, iV p1)] dX0_missed_56 (Nat.le_of_ble_eq_true rfl) rfl ?_
      refine go_sub [2, 3, 0, 1] rfl ?_
      exact hj57 (v20 - 1) h19 hw
    refine go_iconst C 1 dX0_missed_31 kc_i1 ?_
    exact go_zret C dX0_missed_32 ⟨rfl, hw⟩ (Nat.le_of_ble_eq_true rfl) (Nat.le_of_ble_eq_true rfl)
  refine go_icmp_ne C 18 dX0_missed_11 (by decide) hw (fun hw => ?_) (fun hw => ?_)
  · refine go_iconst C 0 dX0_missed_18 kc_i0 ?_
    refine go_sub [1, 2, 0] rfl ?_
    exact hj19 0 hw
  refine go_iconst C 1 dX0_missed_14 kc_i1 ?_
  refine go_goto C 19 dX0_missed_15 (by decide) ?_
  refine go_sub [1, 2, 0] rfl ?_
  exact hj19 1 hw
/-- DuelSchema$Cache.drop(II)V -/
def w_X0_drop (N : Nat) (a0 : Nat) (p1 : Int32) (p2 : Int32) (h0 : Hp) (K : Hp → Prop) : Prop :=
  fx3 (fun (w5 : Int32 → Int32 → Hp → Prop) (x2 : Int32) (x3 : Int32) (h1 : Hp) =>
    gI h1 a0 0 2 fun v4 =>
    jn (
      pF h1 a0 0 2 (iV x2) fun h5 =>
      K h5) (fun j89 =>
    br (v4 ≤ x3) (
      j89 ) (
      gA h1 a0 0 0 fun a6 =>
      aN h1 a6 fun v7 =>
      br (v7 ≤ x3) (
        j89 ) (
        gA h1 a0 0 0 fun a8 =>
        aI h1 a8 0 x3 fun v9 =>
        jn (fun (v10 : Int32) => 
          jn (fun (x12 : Int32) (h11 : Hp) => 
            w5 x12 (x3 + 1) h11) (fun j83 =>
          br (v10 = 0) (
            gA h1 a0 0 0 fun a13 =>
            aN h1 a13 fun v14 =>
            br (v14 ≤ x2) (
              j83 x2 h1) (
              gA h1 a0 0 0 fun a15 =>
              gA h1 a0 0 0 fun a16 =>
              aI h1 a16 0 x3 fun v17 =>
              sI h1 a15 0 x2 v17 fun h18 =>
              j83 (x2 + 1) h18)) (
            j83 x2 h1))) (fun j51 =>
        jn (
          j51 0) (fun j50 =>
        br (v9 < p1) (
          j50 ) (
          gA h1 a0 0 0 fun a19 =>
          aI h1 a19 0 x3 fun v20 =>
          br (p2 < v20) (
            j50 ) (
            j51 1)))))))) N 0 0 h0
abbrev rmX0_drop : Room := { frames := 2, cells := 0, slots := 0, locals := 60 }
theorem vX0_drop : VI RX0 yX0_drop cX0_drop 6 none 2 := ⟨tw5_17, tw5_18, tw1_3, tw5_19, by decide +kernel⟩
set_option maxHeartbeats 4000000 in
theorem m_X0_drop {G : Gp} (l : Launch) (hfl : l.stackTraces = false) (N : Nat) {a0 : Nat} {p1 : Int32} {p2 : Int32} {h0 : Hp} {K : Hp → Prop} (hw : w_X0_drop N a0 p1 p2 h0 K) : MT G l yX0_drop cX0_drop 6 none rmX0_drop [rV (some a0), iV p1, iV p2] h0 (QV G K) := by
  refine go_metT l hfl _ 6 _ _ rfl (by decide +kernel) (Nat.le_of_ble_eq_true rfl) [(0, rV (some a0)), (1, iV p1), (2, iV p2)] rfl (fun X hX C hn => ?_)
  subst hX
  unfold w_X0_drop at hw
  refine go_iconst C 0 dX0_drop_0 kc_i0 ?_
  refine go_istore_n C [(3, iV 0), (0, rV (some a0)), (1, iV p1), (2, iV p2)] dX0_drop_1 (Nat.le_of_ble_eq_true rfl) rfl ?_
  refine go_iconst C 0 dX0_drop_2 kc_i0 ?_
  refine go_istore C [(4, iV 0), (3, iV 0), (0, rV (some a0)), (1, iV p1), (2, iV p2)] dX0_drop_3 (Nat.le_of_ble_eq_true rfl) rfl ?_
  refine go_sub [2, 3, 4, 1, 0] rfl ?_
  refine fx3_elim (P := fun x2 x3 h1 => Go G X rmX0_drop 6 0 0 (QN G X (QV G K) rmX0_drop) h1 5 [(0, rV (some a0)), (1, iV p1), (2, iV p2), (3, iV x2), (4, iV x3)] []) (fun w5 hj5 x2 x3 h1 hw => ?_) N _ _ _ hw
  refine go_iload C dX0_drop_5 4 rfl ?_
  refine go_aload_n C dX0_drop_7 0 rfl ?_
  refine go_getI C (cfX0) (k := 2) (Nat.le_of_ble_eq_true rfl) tw1_68 rfl dX0_drop_8 hw (fun v4 hw => ?_)
  refine jn_elim (P := fun j => j  → Go G X rmX0_drop 6 0 0 (QN G X (QV G K) rmX0_drop) h1 89 [(0, rV (some a0)), (3, iV x2)] []) hw (fun  hw => ?_) (fun j89 hj89 hw => ?_)
  · refine go_aload_n C dX0_drop_89 0 rfl ?_
    refine go_iload_n C dX0_drop_90 1 rfl ?_
    refine go_putI C (cfX0) (k := 2) (Nat.le_of_ble_eq_true rfl) tw1_68 rfl (Or.inl rfl) rfl dX0_drop_91 hw (fun h5 hw => ?_)
    exact go_vret C dX0_drop_94 hw (Nat.le_of_ble_eq_true rfl) (Nat.le_of_ble_eq_true rfl)
  refine go_icmp_ge C 89 dX0_drop_11 (by decide) hw (fun hw => ?_) (fun hw => ?_)
  · refine go_sub [0, 3] rfl ?_
    exact hj89  hw
  refine go_iload C dX0_drop_14 4 rfl ?_
  refine go_aload_n C dX0_drop_16 0 rfl ?_
  refine go_getA C (cfX0) (k := 0) (Nat.le_of_ble_eq_true rfl) tw1_66 rfl dX0_drop_17 hw (fun a6 hw => ?_)
  refine go_alen C dX0_drop_20 hw (fun v7 hw => ?_)
  refine go_icmp_ge C 89 dX0_drop_21 (by decide) hw (fun hw => ?_) (fun hw => ?_)
  · refine go_sub [0, 3] rfl ?_
    exact hj89  hw
  refine go_aload_n C dX0_drop_24 0 rfl ?_
  refine go_getA C (cfX0) (k := 0) (Nat.le_of_ble_eq_true rfl) tw1_66 rfl dX0_drop_25 hw (fun a8 hw => ?_)
  refine go_iload C dX0_drop_28 4 rfl ?_
  refine go_iaload C dX0_drop_30 hw (fun v9 hw => ?_)
  refine go_iload_n C dX0_drop_31 1 rfl ?_
  refine jn_elim (P := fun j => ∀ (v10 : Int32), j v10 → Go G X rmX0_drop 6 0 0 (QN G X (QV G K) rmX0_drop) h1 51 [(0, rV (some a0)), (1, iV p1), (2, iV p2), (3, iV x2), (4, iV x3)] [iV v10]) hw (fun v10 hw => ?_) (fun j51 hj51 hw => ?_)
  · refine go_istore C [(5, iV v10), (0, rV (some a0)), (1, iV p1), (2, iV p2), (3, iV x2), (4, iV x3)] dX0_drop_51 (Nat.le_of_ble_eq_true rfl) rfl ?_
    refine go_iload C dX0_drop_53 0 rfl ?_
    refine jn_elim (P := fun j => ∀ (x12 : Int32) (h11 : Hp), j x12 h11 → Go G X rmX0_drop 6 0 0 (QN G X (QV G K) rmX0_drop) h11 83 [(0, rV (some a0)), (1, iV p1), (2, iV p2), (3, iV x12), (4, iV x3)] []) hw (fun x12 h11 hw => ?_) (fun j83 hj83 hw => ?_)
    · refine go_iinc C (x3 + 1) [(4, iV (x3 + 1)), (0, rV (some a0)), (1, iV p1), (2, iV p2), (3, iV x12)] dX0_drop_83 4 rfl (by rw [kc_i1]) (Nat.le_of_ble_eq_true rfl) rfl ?_
      refine go_goto C 5 dX0_drop_86 (by decide) ?_
      refine go_sub [1, 2, 3, 4, 0] rfl ?_
      exact hj5 x12 (x3 + 1) h11 hw
    refine go_if_ne C 83 dX0_drop_55 (by decide) hw (fun hw => ?_) (fun hw => ?_)
    · refine go_sub [1, 2, 3, 4, 5] rfl ?_
      exact hj83 x2 h1 hw
    refine go_iload_n C dX0_drop_58 4 rfl ?_
    refine go_aload_n C dX0_drop_59 1 rfl ?_
    refine go_getA C (cfX0) (k := 0) (Nat.le_of_ble_eq_true rfl) tw1_66 rfl dX0_drop_60 hw (fun a13 hw => ?_)
    refine go_alen C dX0_drop_63 hw (fun v14 hw => ?_)
    refine go_icmp_ge C 83 dX0_drop_64 (by decide) hw (fun hw => ?_) (fun hw => ?_)
    · refine go_sub [1, 2, 3, 4, 5] rfl ?_
      exact hj83 x2 h1 hw
    refine go_aload_n C dX0_drop_67 1 rfl ?_
    refine go_getA C (cfX0) (k := 0) (Nat.le_of_ble_eq_true rfl) tw1_66 rfl dX0_drop_68 hw (fun a15 hw => ?_)
    refine go_iload_n C dX0_drop_71 4 rfl ?_
    refine go_aload_n C dX0_drop_72 1 rfl ?_
    refine go_getA C (cfX0) (k := 0) (Nat.le_of_ble_eq_true rfl) tw1_66 rfl dX0_drop_73 hw (fun a16 hw => ?_)
    refine go_iload C dX0_drop_76 5 rfl ?_
    refine go_iaload C dX0_drop_78 hw (fun v17 hw => ?_)
    refine go_iastore C dX0_drop_79 hw (fun h18 hw => ?_)
    refine go_iinc C (x2 + 1) [(3, iV (x2 + 1)), (5, iV v10), (0, rV (some a0)), (1, iV p1), (2, iV p2), (4, iV x3)] dX0_drop_80 4 rfl (by rw [kc_i1]) (Nat.le_of_ble_eq_true rfl) rfl ?_
    refine go_sub [2, 3, 4, 0, 5] rfl ?_
    exact hj83 (x2 + 1) h18 hw
  refine jn_elim (P := fun j => j  → Go G X rmX0_drop 6 0 0 (QN G X (QV G K) rmX0_drop) h1 50 [(0, rV (some a0)), (1, iV p1), (2, iV p2), (3, iV x2), (4, iV x3)] []) hw (fun  hw => ?_) (fun j50 hj50 hw => ?_)
  · refine go_iconst C 0 dX0_drop_50 kc_i0 ?_
    exact hj51 0 hw
  refine go_icmp_lt C 50 dX0_drop_32 (by decide) hw (fun hw => ?_) (fun hw => ?_)
  · exact hj50  hw
  refine go_aload_n C dX0_drop_35 0 rfl ?_
  refine go_getA C (cfX0) (k := 0) (Nat.le_of_ble_eq_true rfl) tw1_66 rfl dX0_drop_36 hw (fun a19 hw => ?_)
  refine go_iload C dX0_drop_39 4 rfl ?_
  refine go_iaload C dX0_drop_41 hw (fun v20 hw => ?_)
  refine go_iload_n C dX0_drop_42 2 rfl ?_
  refine go_icmp_gt C 50 dX0_drop_43 (by decide) hw (fun hw => ?_) (fun hw => ?_)
  · exact hj50  hw
  refine go_iconst C 1 dX0_drop_46 kc_i1 ?_
  refine go_goto C 51 dX0_drop_47 (by decide) ?_
  exact hj51 1 hw
/-- DuelSchema$Cache.isTidy()Z -/
def w_X0_isTidy (N : Nat) (a0 : Nat) (h0 : Hp) (K : Int32 → Prop) : Prop :=
  gI h0 a0 0 2 fun v1 =>
  gI h0 a0 0 1 fun v2 =>
  jn (fun (v3 : Int32) => 
    fx2 (fun (w19 : Int32 → Int32 → Prop) (x4 : Int32) (x5 : Int32) =>
      br (x4 = 0) (
        ok (narrow .boolean (.int x4) = .int x4) <| K x4) (
        gI h0 a0 0 2 fun v6 =>
        br (v6 ≤ x5) (
          ok (narrow .boolean (.int x4) = .int x4) <| K x4) (
          cv h0 a0 0 <| w_X0_keyAt N a0 x5 h0 fun v7 =>
          cv h0 a0 0 <| w_X0_placeOf N a0 v7 h0 fun v8 =>
          jn (fun (v9 : Int32) => 
            w19 v9 (x5 + 1)) (fun j49 =>
          br (v8 = x5) (
            j49 1) (
            j49 0))))) N v3 0) (fun j16 =>
  br (v2 < v1) (
    j16 0) (
    j16 1))
abbrev rmX0_isTidy : Room := { frames := 3, cells := 0, slots := 0, locals := 82 }
theorem vX0_isTidy : VI RX0 yX0_isTidy cX0_isTidy 3 (some .boolean) 0 := ⟨tw2_71, tw2_72, tw1_3, tw2_73, by decide +kernel⟩
set_option maxHeartbeats 4000000 in
theorem m_X0_isTidy {G : Gp} (l : Launch) (hfl : l.stackTraces = false) (N : Nat) {a0 : Nat} {h0 : Hp} {K : Int32 → Prop} (hw : w_X0_isTidy N a0 h0 K) : MT G l yX0_isTidy cX0_isTidy 3 (some .boolean) rmX0_isTidy [rV (some a0)] h0 (QI G (fun r h1 => h1 = h0 ∧ K r)) := by
  refine go_metT l hfl _ 3 _ _ rfl (by decide +kernel) (Nat.le_of_ble_eq_true rfl) [(0, rV (some a0))] rfl (fun X hX C hn => ?_)
  subst hX
  unfold w_X0_isTidy at hw
  refine go_aload_n C dX0_isTidy_0 0 rfl ?_
  refine go_getI C (cfX0) (k := 2) (Nat.le_of_ble_eq_true rfl) tw1_68 rfl dX0_isTidy_1 hw (fun v1 hw => ?_)
  refine go_aload_n C dX0_isTidy_4 0 rfl ?_
  refine go_getI C (cfX0) (k := 1) (Nat.le_of_ble_eq_true rfl) tw1_67 rfl dX0_isTidy_5 hw (fun v2 hw => ?_)
  refine jn_elim (P := fun j => ∀ (v3 : Int32), j v3 → Go G X rmX0_isTidy 3 0 0 (QN G X (QI G (fun r h1 => h1 = h0 ∧ K r)) rmX0_isTidy) h0 16 [(0, rV (some a0))] [iV v3]) hw (fun v3 hw => ?_) (fun j16 hj16 hw => ?_)
  · refine go_istore_n C [(1, iV v3), (0, rV (some a0))] dX0_isTidy_16 (Nat.le_of_ble_eq_true rfl) rfl ?_
    refine go_iconst C 0 dX0_isTidy_17 kc_i0 ?_
    refine go_istore_n C [(2, iV 0), (1, iV v3), (0, rV (some a0))] dX0_isTidy_18 (Nat.le_of_ble_eq_true rfl) rfl ?_
    refine go_sub [2, 1, 0] rfl ?_
    refine fx2_elim (P := fun x4 x5 => Go G X rmX0_isTidy 3 0 0 (QN G X (QI G (fun r h1 => h1 = h0 ∧ K r)) rmX0_isTidy) h0 19 [(0, rV (some a0)), (1, iV x4), (2, iV x5)] []) (fun w19 hj19 x4 x5 hw => ?_) N _ _ hw
    refine go_iload_n C dX0_isTidy_19 1 rfl ?_
    refine go_if_eq C 56 dX0_isTidy_20 (by decide) hw (fun hw => ?_) (fun hw => ?_)
    · refine go_iload_n C dX0_isTidy_56 1 rfl ?_
      exact go_zret C dX0_isTidy_57 ⟨hw.1, ⟨rfl, hw.2⟩⟩ (Nat.le_of_ble_eq_true rfl) (Nat.le_of_ble_eq_true rfl)
    refine go_iload_n C dX0_isTidy_23 2 rfl ?_
    refine go_aload_n C dX0_isTidy_24 0 rfl ?_
    refine go_getI C (cfX0) (k := 2) (Nat.le_of_ble_eq_true rfl) tw1_68 rfl dX0_isTidy_25 hw (fun v6 hw => ?_)
    refine go_icmp_ge C 56 dX0_isTidy_28 (by decide) hw (fun hw => ?_) (fun hw => ?_)
    · refine go_iload_n C dX0_isTidy_56 1 rfl ?_
      exact go_zret C dX0_isTidy_57 ⟨hw.1, ⟨rfl, hw.2⟩⟩ (Nat.le_of_ble_eq_true rfl) (Nat.le_of_ble_eq_true rfl)
    refine go_aload_n C dX0_isTidy_31 0 rfl ?_
    refine go_aload_n C dX0_isTidy_32 0 rfl ?_
    refine go_iload_n C dX0_isTidy_33 2 rfl ?_
    refine go_pV_i C [iV x5] vX0_keyAt tw2_74 (ci := 0) rfl (m_X0_keyAt (xl X) C.2.2.2.2.2.2.2.1 N hw.2) ⟨Nat.le_of_ble_eq_true rfl, Nat.le_of_ble_eq_true rfl, Nat.le_of_ble_eq_true rfl, Nat.le_of_ble_eq_true rfl⟩ ⟨rfl, rfl⟩ hw.1 dX0_isTidy_34 rfl (Nat.le_of_ble_eq_true rfl) rfl (fun v7 hw => ?_)
    refine go_pV_i C [iV v7] vX0_placeOf tw2_78 (ci := 0) rfl (m_X0_placeOf (xl X) C.2.2.2.2.2.2.2.1 N hw.2) ⟨Nat.le_of_ble_eq_true rfl, Nat.le_of_ble_eq_true rfl, Nat.le_of_ble_eq_true rfl, Nat.le_of_ble_eq_true rfl⟩ ⟨rfl, rfl⟩ hw.1 dX0_isTidy_37 rfl (Nat.le_of_ble_eq_true rfl) rfl (fun v8 hw => ?_)
    refine go_iload_n C dX0_isTidy_40 2 rfl ?_
    refine jn_elim (P := fun j => ∀ (v9 : Int32), j v9 → Go G X rmX0_isTidy 3 0 0 (QN G X (QI G (fun r h1 => h1 = h0 ∧ K r)) rmX0_isTidy) h0 49 [(0, rV (some a0)), (2, iV x5)] [iV v9]) hw (fun v9 hw => ?_) (fun j49 hj49 hw => ?_)
    · refine go_istore_n C [(1, iV v9), (0, rV (some a0)), (2, iV x5)] dX0_isTidy_49 (Nat.le_of_ble_eq_true rfl) rfl ?_
      refine go_iinc C (x5 + 1) [(2, iV (x5 + 1)), (1, iV v9), (0, rV (some a0))] dX0_isTidy_50 2 rfl (by rw [kc_i1]) (Nat.le_of_ble_eq_true rfl) rfl ?_
      refine go_goto C 19 dX0_isTidy_53 (by decide) ?_
      refine go_sub [2, 1, 0] rfl ?_
      exact hj19 v9 (x5 + 1) hw
    refine go_icmp_ne C 48 dX0_isTidy_41 (by decide) hw (fun hw => ?_) (fun hw => ?_)
    · refine go_iconst C 0 dX0_isTidy_48 kc_i0 ?_
      refine go_sub [0, 2] rfl ?_
      exact hj49 0 hw
    refine go_iconst C 1 dX0_isTidy_44 kc_i1 ?_
    refine go_goto C 49 dX0_isTidy_45 (by decide) ?_
    refine go_sub [0, 2] rfl ?_
    exact hj49 1 hw
  refine go_icmp_gt C 15 dX0_isTidy_8 (by decide) hw (fun hw => ?_) (fun hw => ?_)
  · refine go_iconst C 0 dX0_isTidy_15 kc_i0 ?_
    exact hj16 0 hw
  refine go_iconst C 1 dX0_isTidy_11 kc_i1 ?_
  refine go_goto C 16 dX0_isTidy_12 (by decide) ?_
  exact hj16 1 hw
/-- DuelSchema$Condition.<init>(IICI)V -/
def w_X1_init (N : Nat) (a0 : Nat) (p1 : Int32) (p2 : Int32) (p3 : Int32) (p4 : Int32) (h0 : Hp) (K : Hp → Prop) : Prop :=
  pF h0 a0 1 0 (iV p1) fun h1 =>
  pF h1 a0 1 1 (iV p2) fun h2 =>
  ok (narrow .char (.int p3) = .int p3 ∧ fits .char (.int p3) = true) <| pF h2 a0 1 2 (iV p3) fun h3 =>
  pF h3 a0 1 3 (iV p4) fun h4 =>
  K h4
abbrev rmX1_init : Room := { frames := 2, cells := 0, slots := 0, locals := 60 }
theorem vX1_init : II yX1_init cX1_init 5 4 := ⟨tw6_20, tw1_22, tw6_21, rfl, by decide +kernel⟩
set_option maxHeartbeats 4000000 in
theorem m_X1_init {G : Gp} (l : Launch) (hfl : l.stackTraces = false) (N : Nat) {a0 : Nat} {p1 : Int32} {p2 : Int32} {p3 : Int32} {p4 : Int32} {h0 : Hp} {K : Hp → Prop} (hw : w_X1_init N a0 p1 p2 p3 p4 h0 K) : MT G l yX1_init cX1_init 5 none rmX1_init [rV (some a0), iV p1, iV p2, iV p3, iV p4] h0 (QV G K) := by
  refine go_metT l hfl _ 5 _ _ rfl (by decide +kernel) (Nat.le_of_ble_eq_true rfl) [(0, rV (some a0)), (1, iV p1), (2, iV p2), (3, iV p3), (4, iV p4)] rfl (fun X hX C hn => ?_)
  subst hX
  unfold w_X1_init at hw
  refine go_aload_n C dX1_init_0 0 rfl ?_
  refine go_objinit C tw6_22 tw1_33 tw1_34 dX1_init_1 ⟨Nat.le_of_ble_eq_true rfl, Nat.le_of_ble_eq_true rfl⟩ (Nat.le_of_ble_eq_true rfl) ?_
  refine go_aload_n C dX1_init_4 0 rfl ?_
  refine go_iload_n C dX1_init_5 1 rfl ?_
  refine go_putI C (cfX1) (k := 0) (Nat.le_of_ble_eq_true rfl) tw6_23 rfl (Or.inr ⟨rfl, hn, rfl⟩) rfl dX1_init_6 hw (fun h1 hw => ?_)
  refine go_aload_n C dX1_init_9 0 rfl ?_
  refine go_iload_n C dX1_init_10 2 rfl ?_
  refine go_putI C (cfX1) (k := 1) (Nat.le_of_ble_eq_true rfl) tw6_24 rfl (Or.inr ⟨rfl, hn, rfl⟩) rfl dX1_init_11 hw (fun h2 hw => ?_)
  refine go_aload_n C dX1_init_14 0 rfl ?_
  refine go_iload_n C dX1_init_15 3 rfl ?_
  refine go_putC C (cfX1) (k := 2) (Nat.le_of_ble_eq_true rfl) tw6_25 rfl (Or.inr ⟨rfl, hn, rfl⟩) rfl dX1_init_16 hw (fun h3 hw => ?_)
  refine go_aload_n C dX1_init_19 0 rfl ?_
  refine go_iload C dX1_init_20 4 rfl ?_
  refine go_putI C (cfX1) (k := 3) (Nat.le_of_ble_eq_true rfl) tw6_26 rfl (Or.inr ⟨rfl, hn, rfl⟩) rfl dX1_init_22 hw (fun h4 hw => ?_)
  exact go_vret C dX1_init_25 hw (Nat.le_of_ble_eq_true rfl) (Nat.le_of_ble_eq_true rfl)
/-- DuelSchema$Condition.position()I -/
def w_X1_position (N : Nat) (a0 : Nat) (h0 : Hp) (K : Int32 → Prop) : Prop :=
  gI h0 a0 1 0 fun v1 =>
  K v1
abbrev rmX1_position : Room := { frames := 2, cells := 0, slots := 0, locals := 60 }
theorem vX1_position : VI RX1 yX1_position cX1_position 1 (some .int) 0 := ⟨tw2_207, tw2_208, tw1_22, tw2_209, by decide +kernel⟩
set_option maxHeartbeats 4000000 in
theorem m_X1_position {G : Gp} (l : Launch) (hfl : l.stackTraces = false) (N : Nat) {a0 : Nat} {h0 : Hp} {K : Int32 → Prop} (hw : w_X1_position N a0 h0 K) : MT G l yX1_position cX1_position 1 (some .int) rmX1_position [rV (some a0)] h0 (QI G (fun r h1 => h1 = h0 ∧ K r)) := by
  refine go_metT l hfl _ 1 _ _ rfl (by decide +kernel) (Nat.le_of_ble_eq_true rfl) [(0, rV (some a0))] rfl (fun X hX C hn => ?_)
  subst hX
  unfold w_X1_position at hw
  refine go_aload_n C dX1_position_0 0 rfl ?_
  refine go_getI C (cfX1) (k := 0) (Nat.le_of_ble_eq_true rfl) tw6_23 rfl dX1_position_1 hw (fun v1 hw => ?_)
  exact go_iret C dX1_position_4 ⟨rfl, hw⟩ (Nat.le_of_ble_eq_true rfl) (Nat.le_of_ble_eq_true rfl)
/-- DuelSchema$Condition.column()I -/
def w_X1_column (N : Nat) (a0 : Nat) (h0 : Hp) (K : Int32 → Prop) : Prop :=
  gI h0 a0 1 1 fun v1 =>
  K v1
abbrev rmX1_column : Room := { frames := 2, cells := 0, slots := 0, locals := 60 }
theorem vX1_column : VI RX1 yX1_column cX1_column 1 (some .int) 0 := ⟨tw2_211, tw2_212, tw1_22, tw2_213, by decide +kernel⟩
set_option maxHeartbeats 4000000 in
theorem m_X1_column {G : Gp} (l : Launch) (hfl : l.stackTraces = false) (N : Nat) {a0 : Nat} {h0 : Hp} {K : Int32 → Prop} (hw : w_X1_column N a0 h0 K) : MT G l yX1_column cX1_column 1 (some .int) rmX1_column [rV (some a0)] h0 (QI G (fun r h1 => h1 = h0 ∧ K r)) := by
  refine go_metT l hfl _ 1 _ _ rfl (by decide +kernel) (Nat.le_of_ble_eq_true rfl) [(0, rV (some a0))] rfl (fun X hX C hn => ?_)
  subst hX
  unfold w_X1_column at hw
  refine go_aload_n C dX1_column_0 0 rfl ?_
  refine go_getI C (cfX1) (k := 1) (Nat.le_of_ble_eq_true rfl) tw6_24 rfl dX1_column_1 hw (fun v1 hw => ?_)
  exact go_iret C dX1_column_4 ⟨rfl, hw⟩ (Nat.le_of_ble_eq_true rfl) (Nat.le_of_ble_eq_true rfl)
/-- DuelSchema$Condition.isEqual()Z -/
def w_X1_isEqual (N : Nat) (a0 : Nat) (h0 : Hp) (K : Int32 → Prop) : Prop :=
  gI h0 a0 1 2 fun v1 =>
  br (v1 = 61) (
    K 1) (
    K 0)
abbrev rmX1_isEqual : Room := { frames := 2, cells := 0, slots := 0, locals := 60 }
theorem vX1_isEqual : VI RX1 yX1_isEqual cX1_isEqual 1 (some .boolean) 0 := ⟨tw3_91, tw3_92, tw1_22, tw3_93, by decide +kernel⟩
set_option maxHeartbeats 4000000 in
theorem m_X1_isEqual {G : Gp} (l : Launch) (hfl : l.stackTraces = false) (N : Nat) {a0 : Nat} {h0 : Hp} {K : Int32 → Prop} (hw : w_X1_isEqual N a0 h0 K) : MT G l yX1_isEqual cX1_isEqual 1 (some .boolean) rmX1_isEqual [rV (some a0)] h0 (QI G (fun r h1 => h1 = h0 ∧ K r)) := by
  refine go_metT l hfl _ 1 _ _ rfl (by decide +kernel) (Nat.le_of_ble_eq_true rfl) [(0, rV (some a0))] rfl (fun X hX C hn => ?_)
  subst hX
  unfold w_X1_isEqual at hw
  refine go_aload_n C dX1_isEqual_0 0 rfl ?_
  refine go_getI C (cfX1) (k := 2) (Nat.le_of_ble_eq_true rfl) tw6_25 rfl dX1_isEqual_1 hw (fun v1 hw => ?_)
  refine go_bipush C 61 dX1_isEqual_4 kc_b61 ?_
  refine go_icmp_ne C 13 dX1_isEqual_6 (by decide) hw (fun hw => ?_) (fun hw => ?_)
  · refine go_iconst C 0 dX1_isEqual_13 kc_i0 ?_
    exact go_zret C dX1_isEqual_14 ⟨rfl, ⟨rfl, hw⟩⟩ (Nat.le_of_ble_eq_true rfl) (Nat.le_of_ble_eq_true rfl)
  refine go_iconst C 1 dX1_isEqual_9 kc_i1 ?_
  refine go_goto C 14 dX1_isEqual_10 (by decide) ?_
  exact go_zret C dX1_isEqual_14 ⟨rfl, ⟨rfl, hw⟩⟩ (Nat.le_of_ble_eq_true rfl) (Nat.le_of_ble_eq_true rfl)
/-- DuelSchema$Condition.least()I -/
def w_X1_least (N : Nat) (a0 : Nat) (h0 : Hp) (K : Int32 → Prop) : Prop :=
  gI h0 a0 1 2 fun v1 =>
  br (v1 = 61) (
    gI h0 a0 1 3 fun v4 =>
    K v4) (
    gI h0 a0 1 2 fun v2 =>
    br (v2 = 60) (
      K 0) (
      gI h0 a0 1 3 fun v3 =>
      K (v3 + 1)))
abbrev rmX1_least : Room := { frames := 2, cells := 0, slots := 0, locals := 60 }
theorem vX1_least : VI RX1 yX1_least cX1_least 1 (some .int) 0 := ⟨tw3_42, tw3_43, tw1_22, tw3_44, by decide +kernel⟩
set_option maxHeartbeats 4000000 in
theorem m_X1_least {G : Gp} (l : Launch) (hfl : l.stackTraces = false) (N : Nat) {a0 : Nat} {h0 : Hp} {K : Int32 → Prop} (hw : w_X1_least N a0 h0 K) : MT G l yX1_least cX1_least 1 (some .int) rmX1_least [rV (some a0)] h0 (QI G (fun r h1 => h1 = h0 ∧ K r)) := by
  refine go_metT l hfl _ 1 _ _ rfl (by decide +kernel) (Nat.le_of_ble_eq_true rfl) [(0, rV (some a0))] rfl (fun X hX C hn => ?_)
  subst hX
  unfold w_X1_least at hw
  refine go_aload_n C dX1_least_0 0 rfl ?_
  refine go_getI C (cfX1) (k := 2) (Nat.le_of_ble_eq_true rfl) tw6_25 rfl dX1_least_1 hw (fun v1 hw => ?_)
  refine go_bipush C 61 dX1_least_4 kc_b61 ?_
  refine go_icmp_ne C 16 dX1_least_6 (by decide) hw (fun hw => ?_) (fun hw => ?_)
  · refine go_aload_n C dX1_least_16 0 rfl ?_
    refine go_getI C (cfX1) (k := 2) (Nat.le_of_ble_eq_true rfl) tw6_25 rfl dX1_least_17 hw (fun v2 hw => ?_)
    refine go_bipush C 60 dX1_least_20 kc_b60 ?_
    refine go_icmp_ne C 29 dX1_least_22 (by decide) hw (fun hw => ?_) (fun hw => ?_)
    · refine go_aload_n C dX1_least_29 0 rfl ?_
      refine go_getI C (cfX1) (k := 3) (Nat.le_of_ble_eq_true rfl) tw6_26 rfl dX1_least_30 hw (fun v3 hw => ?_)
      refine go_iconst C 1 dX1_least_33 kc_i1 ?_
      refine go_iadd C dX1_least_34 ?_
      exact go_iret C dX1_least_35 ⟨rfl, hw⟩ (Nat.le_of_ble_eq_true rfl) (Nat.le_of_ble_eq_true rfl)
    refine go_iconst C 0 dX1_least_25 kc_i0 ?_
    refine go_goto C 35 dX1_least_26 (by decide) ?_
    exact go_iret C dX1_least_35 ⟨rfl, hw⟩ (Nat.le_of_ble_eq_true rfl) (Nat.le_of_ble_eq_true rfl)
  refine go_aload_n C dX1_least_9 0 rfl ?_
  refine go_getI C (cfX1) (k := 3) (Nat.le_of_ble_eq_true rfl) tw6_26 rfl dX1_least_10 hw (fun v4 hw => ?_)
  refine go_goto C 35 dX1_least_13 (by decide) ?_
  exact go_iret C dX1_least_35 ⟨rfl, hw⟩ (Nat.le_of_ble_eq_true rfl) (Nat.le_of_ble_eq_true rfl)
/-- DuelSchema$Condition.greatest()I -/
def w_X1_greatest (N : Nat) (a0 : Nat) (h0 : Hp) (K : Int32 → Prop) : Prop :=
  gI h0 a0 1 2 fun v1 =>
  br (v1 = 61) (
    gI h0 a0 1 3 fun v4 =>
    K v4) (
    gI h0 a0 1 2 fun v2 =>
    br (v2 = 60) (
      gI h0 a0 1 3 fun v3 =>
      K (v3 - 1)) (
      K 99))
abbrev rmX1_greatest : Room := { frames := 2, cells := 0, slots := 0, locals := 60 }
theorem vX1_greatest : VI RX1 yX1_greatest cX1_greatest 1 (some .int) 0 := ⟨tw3_34, tw3_35, tw1_22, tw3_36, by decide +kernel⟩
set_option maxHeartbeats 4000000 in
theorem m_X1_greatest {G : Gp} (l : Launch) (hfl : l.stackTraces = false) (N : Nat) {a0 : Nat} {h0 : Hp} {K : Int32 → Prop} (hw : w_X1_greatest N a0 h0 K) : MT G l yX1_greatest cX1_greatest 1 (some .int) rmX1_greatest [rV (some a0)] h0 (QI G (fun r h1 => h1 = h0 ∧ K r)) := by
  refine go_metT l hfl _ 1 _ _ rfl (by decide +kernel) (Nat.le_of_ble_eq_true rfl) [(0, rV (some a0))] rfl (fun X hX C hn => ?_)
  subst hX
  unfold w_X1_greatest at hw
  refine go_aload_n C dX1_greatest_0 0 rfl ?_
  refine go_getI C (cfX1) (k := 2) (Nat.le_of_ble_eq_true rfl) tw6_25 rfl dX1_greatest_1 hw (fun v1 hw => ?_)
  refine go_bipush C 61 dX1_greatest_4 kc_b61 ?_
  refine go_icmp_ne C 16 dX1_greatest_6 (by decide) hw (fun hw => ?_) (fun hw => ?_)
  · refine go_aload_n C dX1_greatest_16 0 rfl ?_
    refine go_getI C (cfX1) (k := 2) (Nat.le_of_ble_eq_true rfl) tw6_25 rfl dX1_greatest_17 hw (fun v2 hw => ?_)
    refine go_bipush C 60 dX1_greatest_20 kc_b60 ?_
    refine go_icmp_ne C 34 dX1_greatest_22 (by decide) hw (fun hw => ?_) (fun hw => ?_)
    · refine go_bipush C 99 dX1_greatest_34 kc_b99 ?_
      exact go_iret C dX1_greatest_36 ⟨rfl, hw⟩ (Nat.le_of_ble_eq_true rfl) (Nat.le_of_ble_eq_true rfl)
    refine go_aload_n C dX1_greatest_25 0 rfl ?_
    refine go_getI C (cfX1) (k := 3) (Nat.le_of_ble_eq_true rfl) tw6_26 rfl dX1_greatest_26 hw (fun v3 hw => ?_)
    refine go_iconst C 1 dX1_greatest_29 kc_i1 ?_
    refine go_isub C dX1_greatest_30 ?_
    refine go_goto C 36 dX1_greatest_31 (by decide) ?_
    exact go_iret C dX1_greatest_36 ⟨rfl, hw⟩ (Nat.le_of_ble_eq_true rfl) (Nat.le_of_ble_eq_true rfl)
  refine go_aload_n C dX1_greatest_9 0 rfl ?_
  refine go_getI C (cfX1) (k := 3) (Nat.le_of_ble_eq_true rfl) tw6_26 rfl dX1_greatest_10 hw (fun v4 hw => ?_)
  refine go_goto C 36 dX1_greatest_13 (by decide) ?_
  exact go_iret C dX1_greatest_36 ⟨rfl, hw⟩ (Nat.le_of_ble_eq_true rfl) (Nat.le_of_ble_eq_true rfl)
/-- DuelSchema$Condition.allows(I)Z -/
def w_X1_allows (N : Nat) (a0 : Nat) (p1 : Int32) (h0 : Hp) (K : Int32 → Prop) : Prop :=
  gI h0 a0 1 2 fun v1 =>
  br (v1 = 61) (
    gI h0 a0 1 3 fun v5 =>
    br (p1 = v5) (
      K 1) (
      K 0)) (
    gI h0 a0 1 2 fun v2 =>
    br (v2 = 60) (
      gI h0 a0 1 3 fun v4 =>
      br (v4 ≤ p1) (
        K 0) (
        K 1)) (
      gI h0 a0 1 3 fun v3 =>
      br (p1 ≤ v3) (
        K 0) (
        K 1)))
abbrev rmX1_allows : Room := { frames := 2, cells := 0, slots := 0, locals := 60 }
theorem vX1_allows : VI RX1 yX1_allows cX1_allows 2 (some .boolean) 1 := ⟨tw2_216, tw2_217, tw1_22, tw2_218, by decide +kernel⟩
set_option maxHeartbeats 4000000 in
theorem m_X1_allows {G : Gp} (l : Launch) (hfl : l.stackTraces = false) (N : Nat) {a0 : Nat} {p1 : Int32} {h0 : Hp} {K : Int32 → Prop} (hw : w_X1_allows N a0 p1 h0 K) : MT G l yX1_allows cX1_allows 2 (some .boolean) rmX1_allows [rV (some a0), iV p1] h0 (QI G (fun r h1 => h1 = h0 ∧ K r)) := by
  refine go_metT l hfl _ 2 _ _ rfl (by decide +kernel) (Nat.le_of_ble_eq_true rfl) [(0, rV (some a0)), (1, iV p1)] rfl (fun X hX C hn => ?_)
  subst hX
  unfold w_X1_allows at hw
  refine go_aload_n C dX1_allows_0 0 rfl ?_
  refine go_getI C (cfX1) (k := 2) (Nat.le_of_ble_eq_true rfl) tw6_25 rfl dX1_allows_1 hw (fun v1 hw => ?_)
  refine go_bipush C 61 dX1_allows_4 kc_b61 ?_
  refine go_icmp_ne C 25 dX1_allows_6 (by decide) hw (fun hw => ?_) (fun hw => ?_)
  · refine go_aload_n C dX1_allows_25 0 rfl ?_
    refine go_getI C (cfX1) (k := 2) (Nat.le_of_ble_eq_true rfl) tw6_25 rfl dX1_allows_26 hw (fun v2 hw => ?_)
    refine go_bipush C 60 dX1_allows_29 kc_b60 ?_
    refine go_icmp_ne C 50 dX1_allows_31 (by decide) hw (fun hw => ?_) (fun hw => ?_)
    · refine go_iload_n C dX1_allows_50 1 rfl ?_
      refine go_aload_n C dX1_allows_51 0 rfl ?_
      refine go_getI C (cfX1) (k := 3) (Nat.le_of_ble_eq_true rfl) tw6_26 rfl dX1_allows_52 hw (fun v3 hw => ?_)
      refine go_icmp_le C 62 dX1_allows_55 (by decide) hw (fun hw => ?_) (fun hw => ?_)
      · refine go_iconst C 0 dX1_allows_62 kc_i0 ?_
        exact go_zret C dX1_allows_63 ⟨rfl, ⟨rfl, hw⟩⟩ (Nat.le_of_ble_eq_true rfl) (Nat.le_of_ble_eq_true rfl)
      refine go_iconst C 1 dX1_allows_58 kc_i1 ?_
      refine go_goto C 63 dX1_allows_59 (by decide) ?_
      exact go_zret C dX1_allows_63 ⟨rfl, ⟨rfl, hw⟩⟩ (Nat.le_of_ble_eq_true rfl) (Nat.le_of_ble_eq_true rfl)
    refine go_iload_n C dX1_allows_34 1 rfl ?_
    refine go_aload_n C dX1_allows_35 0 rfl ?_
    refine go_getI C (cfX1) (k := 3) (Nat.le_of_ble_eq_true rfl) tw6_26 rfl dX1_allows_36 hw (fun v4 hw => ?_)
    refine go_icmp_ge C 46 dX1_allows_39 (by decide) hw (fun hw => ?_) (fun hw => ?_)
    · refine go_iconst C 0 dX1_allows_46 kc_i0 ?_
      refine go_goto C 63 dX1_allows_47 (by decide) ?_
      exact go_zret C dX1_allows_63 ⟨rfl, ⟨rfl, hw⟩⟩ (Nat.le_of_ble_eq_true rfl) (Nat.le_of_ble_eq_true rfl)
    refine go_iconst C 1 dX1_allows_42 kc_i1 ?_
    refine go_goto C 63 dX1_allows_43 (by decide) ?_
    exact go_zret C dX1_allows_63 ⟨rfl, ⟨rfl, hw⟩⟩ (Nat.le_of_ble_eq_true rfl) (Nat.le_of_ble_eq_true rfl)
  refine go_iload_n C dX1_allows_9 1 rfl ?_
  refine go_aload_n C dX1_allows_10 0 rfl ?_
  refine go_getI C (cfX1) (k := 3) (Nat.le_of_ble_eq_true rfl) tw6_26 rfl dX1_allows_11 hw (fun v5 hw => ?_)
  refine go_icmp_ne C 21 dX1_allows_14 (by decide) hw (fun hw => ?_) (fun hw => ?_)
  · refine go_iconst C 0 dX1_allows_21 kc_i0 ?_
    refine go_goto C 63 dX1_allows_22 (by decide) ?_
    exact go_zret C dX1_allows_63 ⟨rfl, ⟨rfl, hw⟩⟩ (Nat.le_of_ble_eq_true rfl) (Nat.le_of_ble_eq_true rfl)
  refine go_iconst C 1 dX1_allows_17 kc_i1 ?_
  refine go_goto C 63 dX1_allows_18 (by decide) ?_
  exact go_zret C dX1_allows_63 ⟨rfl, ⟨rfl, hw⟩⟩ (Nat.le_of_ble_eq_true rfl) (Nat.le_of_ble_eq_true rfl)
/-- DuelSchema$Join.<init>(IIII)V -/
def w_X4_init (N : Nat) (a0 : Nat) (p1 : Int32) (p2 : Int32) (p3 : Int32) (p4 : Int32) (h0 : Hp) (K : Hp → Prop) : Prop :=
  pF h0 a0 4 0 (iV p1) fun h1 =>
  pF h1 a0 4 1 (iV p2) fun h2 =>
  pF h2 a0 4 2 (iV p3) fun h3 =>
  pF h3 a0 4 3 (iV p4) fun h4 =>
  K h4
abbrev rmX4_init : Room := { frames := 2, cells := 0, slots := 0, locals := 60 }
theorem vX4_init : II yX4_init cX4_init 5 4 := ⟨tw6_53, tw1_23, tw6_54, rfl, by decide +kernel⟩
set_option maxHeartbeats 4000000 in
theorem m_X4_init {G : Gp} (l : Launch) (hfl : l.stackTraces = false) (N : Nat) {a0 : Nat} {p1 : Int32} {p2 : Int32} {p3 : Int32} {p4 : Int32} {h0 : Hp} {K : Hp → Prop} (hw : w_X4_init N a0 p1 p2 p3 p4 h0 K) : MT G l yX4_init cX4_init 5 none rmX4_init [rV (some a0), iV p1, iV p2, iV p3, iV p4] h0 (QV G K) := by
  refine go_metT l hfl _ 5 _ _ rfl (by decide +kernel) (Nat.le_of_ble_eq_true rfl) [(0, rV (some a0)), (1, iV p1), (2, iV p2), (3, iV p3), (4, iV p4)] rfl (fun X hX C hn => ?_)
  subst hX
  unfold w_X4_init at hw
  refine go_aload_n C dX4_init_0 0 rfl ?_
  refine go_objinit C tw6_55 tw1_33 tw1_34 dX4_init_1 ⟨Nat.le_of_ble_eq_true rfl, Nat.le_of_ble_eq_true rfl⟩ (Nat.le_of_ble_eq_true rfl) ?_
  refine go_aload_n C dX4_init_4 0 rfl ?_
  refine go_iload_n C dX4_init_5 1 rfl ?_
  refine go_putI C (cfX4) (k := 0) (Nat.le_of_ble_eq_true rfl) tw6_56 rfl (Or.inr ⟨rfl, hn, rfl⟩) rfl dX4_init_6 hw (fun h1 hw => ?_)
  refine go_aload_n C dX4_init_9 0 rfl ?_
  refine go_iload_n C dX4_init_10 2 rfl ?_
  refine go_putI C (cfX4) (k := 1) (Nat.le_of_ble_eq_true rfl) tw6_57 rfl (Or.inr ⟨rfl, hn, rfl⟩) rfl dX4_init_11 hw (fun h2 hw => ?_)
  refine go_aload_n C dX4_init_14 0 rfl ?_
  refine go_iload_n C dX4_init_15 3 rfl ?_
  refine go_putI C (cfX4) (k := 2) (Nat.le_of_ble_eq_true rfl) tw6_58 rfl (Or.inr ⟨rfl, hn, rfl⟩) rfl dX4_init_16 hw (fun h3 hw => ?_)
  refine go_aload_n C dX4_init_19 0 rfl ?_
  refine go_iload C dX4_init_20 4 rfl ?_
  refine go_putI C (cfX4) (k := 3) (Nat.le_of_ble_eq_true rfl) tw6_59 rfl (Or.inr ⟨rfl, hn, rfl⟩) rfl dX4_init_22 hw (fun h4 hw => ?_)
  exact go_vret C dX4_init_25 hw (Nat.le_of_ble_eq_true rfl) (Nat.le_of_ble_eq_true rfl)
/-- DuelSchema$Join.partnerOf(I)I -/
def w_X4_partnerOf (N : Nat) (a0 : Nat) (p1 : Int32) (h0 : Hp) (K : Int32 → Prop) : Prop :=
  gI h0 a0 4 0 fun v1 =>
  br (p1 = v1) (
    gI h0 a0 4 2 fun v4 =>
    K v4) (
    gI h0 a0 4 2 fun v2 =>
    br (p1 = v2) (
      gI h0 a0 4 0 fun v3 =>
      K v3) (
      K (-1)))
abbrev rmX4_partnerOf : Room := { frames := 2, cells := 0, slots := 0, locals := 60 }
theorem vX4_partnerOf : VI RX4 yX4_partnerOf cX4_partnerOf 2 (some .int) 1 := ⟨tw2_228, tw2_229, tw1_23, tw2_230, by decide +kernel⟩
set_option maxHeartbeats 4000000 in
theorem m_X4_partnerOf {G : Gp} (l : Launch) (hfl : l.stackTraces = false) (N : Nat) {a0 : Nat} {p1 : Int32} {h0 : Hp} {K : Int32 → Prop} (hw : w_X4_partnerOf N a0 p1 h0 K) : MT G l yX4_partnerOf cX4_partnerOf 2 (some .int) rmX4_partnerOf [rV (some a0), iV p1] h0 (QI G (fun r h1 => h1 = h0 ∧ K r)) := by
  refine go_metT l hfl _ 2 _ _ rfl (by decide +kernel) (Nat.le_of_ble_eq_true rfl) [(0, rV (some a0)), (1, iV p1)] rfl (fun X hX C hn => ?_)
  subst hX
  unfold w_X4_partnerOf at hw
  refine go_iload_n C dX4_partnerOf_0 1 rfl ?_
  refine go_aload_n C dX4_partnerOf_1 0 rfl ?_
  refine go_getI C (cfX4) (k := 0) (Nat.le_of_ble_eq_true rfl) tw6_56 rfl dX4_partnerOf_2 hw (fun v1 hw => ?_)
  refine go_icmp_ne C 15 dX4_partnerOf_5 (by decide) hw (fun hw => ?_) (fun hw => ?_)
  · refine go_iload_n C dX4_partnerOf_15 1 rfl ?_
    refine go_aload_n C dX4_partnerOf_16 0 rfl ?_
    refine go_getI C (cfX4) (k := 2) (Nat.le_of_ble_eq_true rfl) tw6_58 rfl dX4_partnerOf_17 hw (fun v2 hw => ?_)
    refine go_icmp_ne C 30 dX4_partnerOf_20 (by decide) hw (fun hw => ?_) (fun hw => ?_)
    · refine go_iconst C (-1) dX4_partnerOf_30 kc_im1 ?_
      exact go_iret C dX4_partnerOf_31 ⟨rfl, hw⟩ (Nat.le_of_ble_eq_true rfl) (Nat.le_of_ble_eq_true rfl)
    refine go_aload_n C dX4_partnerOf_23 0 rfl ?_
    refine go_getI C (cfX4) (k := 0) (Nat.le_of_ble_eq_true rfl) tw6_56 rfl dX4_partnerOf_24 hw (fun v3 hw => ?_)
    refine go_goto C 31 dX4_partnerOf_27 (by decide) ?_
    exact go_iret C dX4_partnerOf_31 ⟨rfl, hw⟩ (Nat.le_of_ble_eq_true rfl) (Nat.le_of_ble_eq_true rfl)
  refine go_aload_n C dX4_partnerOf_8 0 rfl ?_
  refine go_getI C (cfX4) (k := 2) (Nat.le_of_ble_eq_true rfl) tw6_58 rfl dX4_partnerOf_9 hw (fun v4 hw => ?_)
  refine go_goto C 31 dX4_partnerOf_12 (by decide) ?_
  exact go_iret C dX4_partnerOf_31 ⟨rfl, hw⟩ (Nat.le_of_ble_eq_true rfl) (Nat.le_of_ble_eq_true rfl)
/-- DuelSchema$Join.columnOf(I)I -/
def w_X4_columnOf (N : Nat) (a0 : Nat) (p1 : Int32) (h0 : Hp) (K : Int32 → Prop) : Prop :=
  gI h0 a0 4 0 fun v1 =>
  br (p1 = v1) (
    gI h0 a0 4 1 fun v4 =>
    K v4) (
    gI h0 a0 4 2 fun v2 =>
    br (p1 = v2) (
      gI h0 a0 4 3 fun v3 =>
      K v3) (
      K (-1)))
abbrev rmX4_columnOf : Room := { frames := 2, cells := 0, slots := 0, locals := 60 }
theorem vX4_columnOf : VI RX4 yX4_columnOf cX4_columnOf 2 (some .int) 1 := ⟨tw2_236, tw2_237, tw1_23, tw2_238, by decide +kernel⟩
set_option maxHeartbeats 4000000 in
theorem m_X4_columnOf {G : Gp} (l : Launch) (hfl : l.stackTraces = false) (N : Nat) {a0 : Nat} {p1 : Int32} {h0 : Hp} {K : Int32 → Prop} (hw : w_X4_columnOf N a0 p1 h0 K) : MT G l yX4_columnOf cX4_columnOf 2 (some .int) rmX4_columnOf [rV (some a0), iV p1] h0 (QI G (fun r h1 => h1 = h0 ∧ K r)) := by
  refine go_metT l hfl _ 2 _ _ rfl (by decide +kernel) (Nat.le_of_ble_eq_true rfl) [(0, rV (some a0)), (1, iV p1)] rfl (fun X hX C hn => ?_)
  subst hX
  unfold w_X4_columnOf at hw
  refine go_iload_n C dX4_columnOf_0 1 rfl ?_
  refine go_aload_n C dX4_columnOf_1 0 rfl ?_
  refine go_getI C (cfX4) (k := 0) (Nat.le_of_ble_eq_true rfl) tw6_56 rfl dX4_columnOf_2 hw (fun v1 hw => ?_)
  refine go_icmp_ne C 15 dX4_columnOf_5 (by decide) hw (fun hw => ?_) (fun hw => ?_)
  · refine go_iload_n C dX4_columnOf_15 1 rfl ?_
    refine go_aload_n C dX4_columnOf_16 0 rfl ?_
    refine go_getI C (cfX4) (k := 2) (Nat.le_of_ble_eq_true rfl) tw6_58 rfl dX4_columnOf_17 hw (fun v2 hw => ?_)
    refine go_icmp_ne C 30 dX4_columnOf_20 (by decide) hw (fun hw => ?_) (fun hw => ?_)
    · refine go_iconst C (-1) dX4_columnOf_30 kc_im1 ?_
      exact go_iret C dX4_columnOf_31 ⟨rfl, hw⟩ (Nat.le_of_ble_eq_true rfl) (Nat.le_of_ble_eq_true rfl)
    refine go_aload_n C dX4_columnOf_23 0 rfl ?_
    refine go_getI C (cfX4) (k := 3) (Nat.le_of_ble_eq_true rfl) tw6_59 rfl dX4_columnOf_24 hw (fun v3 hw => ?_)
    refine go_goto C 31 dX4_columnOf_27 (by decide) ?_
    exact go_iret C dX4_columnOf_31 ⟨rfl, hw⟩ (Nat.le_of_ble_eq_true rfl) (Nat.le_of_ble_eq_true rfl)
  refine go_aload_n C dX4_columnOf_8 0 rfl ?_
  refine go_getI C (cfX4) (k := 1) (Nat.le_of_ble_eq_true rfl) tw6_57 rfl dX4_columnOf_9 hw (fun v4 hw => ?_)
  refine go_goto C 31 dX4_columnOf_12 (by decide) ?_
  exact go_iret C dX4_columnOf_31 ⟨rfl, hw⟩ (Nat.le_of_ble_eq_true rfl) (Nat.le_of_ble_eq_true rfl)
