/-! LEVEL 2, programs over registers (generated). -/
section Z2
def z_X8_readCount (N : Nat) (a0 : Nat) (h0 : St) (K : Int32 → Prop) : Prop :=
  K (sP h0 8 a0 7 0)
set_option maxHeartbeats 1000000 in
theorem y_X8_readCount {ad : Nat → Nat → Nat → Nat} {h : Hp} {V : Nat → Nat} {h0 : St} {N : Nat} (W : Wf ad h V h0) {a0 a0_ : Nat} {K : Int32 → Prop} {K9 : Int32 → Prop} (hw : z_X8_readCount N a0_ h0 K9) (hk : ∀ (r0 : Int32), K9 r0 →  K r0) (e0 : a0 = ad 8 a0_ 0) (l0 : a0_ < V 8) : w_X8_readCount N a0 h K := by
  subst e0
  unfold z_X8_readCount at hw
  unfold w_X8_readCount
  refine l_gI W rfl l0 rfl ?_
  exact hk _ hw
def z_X8_missCount (N : Nat) (a0 : Nat) (h0 : St) (K : Int32 → Prop) : Prop :=
  K (sP h0 8 a0 8 0)
set_option maxHeartbeats 1000000 in
theorem y_X8_missCount {ad : Nat → Nat → Nat → Nat} {h : Hp} {V : Nat → Nat} {h0 : St} {N : Nat} (W : Wf ad h V h0) {a0 a0_ : Nat} {K : Int32 → Prop} {K9 : Int32 → Prop} (hw : z_X8_missCount N a0_ h0 K9) (hk : ∀ (r0 : Int32), K9 r0 →  K r0) (e0 : a0 = ad 8 a0_ 0) (l0 : a0_ < V 8) : w_X8_missCount N a0 h K := by
  subst e0
  unfold z_X8_missCount at hw
  unfold w_X8_missCount
  refine l_gI W rfl l0 rfl ?_
  exact hk _ hw
def z_X8_foundCount (N : Nat) (a0 : Nat) (h0 : St) (K : Int32 → Prop) : Prop :=
  K (sP h0 8 a0 9 0)
set_option maxHeartbeats 1000000 in
theorem y_X8_foundCount {ad : Nat → Nat → Nat → Nat} {h : Hp} {V : Nat → Nat} {h0 : St} {N : Nat} (W : Wf ad h V h0) {a0 a0_ : Nat} {K : Int32 → Prop} {K9 : Int32 → Prop} (hw : z_X8_foundCount N a0_ h0 K9) (hk : ∀ (r0 : Int32), K9 r0 →  K r0) (e0 : a0 = ad 8 a0_ 0) (l0 : a0_ < V 8) : w_X8_foundCount N a0 h K := by
  subst e0
  unfold z_X8_foundCount at hw
  unfold w_X8_foundCount
  refine l_gI W rfl l0 rfl ?_
  exact hk _ hw
def z_X8_foundMark (N : Nat) (a0 : Nat) (h0 : St) (K : Int64 → Prop) : Prop :=
  K (sL_ h0 8 a0 10 0)
set_option maxHeartbeats 1000000 in
theorem y_X8_foundMark {ad : Nat → Nat → Nat → Nat} {h : Hp} {V : Nat → Nat} {h0 : St} {N : Nat} (W : Wf ad h V h0) {a0 a0_ : Nat} {K : Int64 → Prop} {K9 : Int64 → Prop} (hw : z_X8_foundMark N a0_ h0 K9) (hk : ∀ (r0 : Int64), K9 r0 →  K r0) (e0 : a0 = ad 8 a0_ 0) (l0 : a0_ < V 8) : w_X8_foundMark N a0 h K := by
  subst e0
  unfold z_X8_foundMark at hw
  unfold w_X8_foundMark
  refine l_gL W rfl l0 rfl ?_
  exact hk _ hw
def z_X8_wantedRow (N : Nat) (a0 : Nat) (h0 : St) (K : Int32 → Prop) : Prop :=
  K (sP h0 8 a0 14 0)
set_option maxHeartbeats 1000000 in
theorem y_X8_wantedRow {ad : Nat → Nat → Nat → Nat} {h : Hp} {V : Nat → Nat} {h0 : St} {N : Nat} (W : Wf ad h V h0) {a0 a0_ : Nat} {K : Int32 → Prop} {K9 : Int32 → Prop} (hw : z_X8_wantedRow N a0_ h0 K9) (hk : ∀ (r0 : Int32), K9 r0 →  K r0) (e0 : a0 = ad 8 a0_ 0) (l0 : a0_ < V 8) : w_X8_wantedRow N a0 h K := by
  subst e0
  unfold z_X8_wantedRow at hw
  unfold w_X8_wantedRow
  refine l_gI W rfl l0 rfl ?_
  exact hk _ hw
def z_X8_columnSum (N : Nat) (a0 : Nat) (h0 : St) (K : Int64 → Prop) : Prop :=
  K (sL_ h0 8 a0 15 0)
set_option maxHeartbeats 1000000 in
theorem y_X8_columnSum {ad : Nat → Nat → Nat → Nat} {h : Hp} {V : Nat → Nat} {h0 : St} {N : Nat} (W : Wf ad h V h0) {a0 a0_ : Nat} {K : Int64 → Prop} {K9 : Int64 → Prop} (hw : z_X8_columnSum N a0_ h0 K9) (hk : ∀ (r0 : Int64), K9 r0 →  K r0) (e0 : a0 = ad 8 a0_ 0) (l0 : a0_ < V 8) : w_X8_columnSum N a0 h K := by
  subst e0
  unfold z_X8_columnSum at hw
  unfold w_X8_columnSum
  refine l_gL W rfl l0 rfl ?_
  exact hk _ hw
def z_X8_begin (N : Nat) (a0 : Nat) (p1 : Option Nat) (p2 : Option Nat) (h0 : St) (K : St → Prop) : Prop :=
  lt_ (stQ h0 8 a0 1 0 none) fun h1 =>
  lt_ (stQ h1 8 a0 2 0 p1) fun h2 =>
  lt_ (stQ h2 8 a0 3 0 p2) fun h3 =>
  lt_ (stQ h3 8 a0 4 0 none) fun h4 =>
  lt_ (stP h4 8 a0 7 0 0) fun h5 =>
  lt_ (stP h5 8 a0 8 0 0) fun h6 =>
  lt_ (stP h6 8 a0 9 0 0) fun h7 =>
  lt_ (stL h7 8 a0 10 0 0) fun h8 =>
  lt_ (stP h8 8 a0 11 0 (-1)) fun h9 =>
  lt_ (stP h9 8 a0 12 0 0) fun h10 =>
  lt_ (stP h10 8 a0 13 0 0) fun h11 =>
  lt_ (stP h11 8 a0 14 0 (-1)) fun h12 =>
  lt_ (stL h12 8 a0 15 0 0) fun h13 =>
  fx2 (fun (w67 : Int32 → St → Prop) (x15 : Int32) (h14 : St) =>
    br ((3 : Int32) ≤ x15) (
      K h14) (
      wA 3 x15 (stP h14 8 a0 5 (x15).toNatClampNeg 0) fun h19 =>
      w67 (x15 + 1) h19)) N 0 h13
set_option maxHeartbeats 1000000 in
theorem y_X8_begin {ad : Nat → Nat → Nat → Nat} {h : Hp} {V : Nat → Nat} {h0 : St} {N : Nat} (W : Wf ad h V h0) {a0 a0_ : Nat} {p1 p1_ : Option Nat} {p2 p2_ : Option Nat} {K : Hp → Prop} {K9 : St → Prop} (hw : z_X8_begin N a0_ p1_ p2_ h0 K9) (hk : ∀ (h9 : Hp) (s9 : St), Wf ad h9 V s9 → K9 s9 →  K h9) (e0 : a0 = ad 8 a0_ 0) (l0 : a0_ < V 8) (e_p1 : p1 = p1_.map (fun j => ad 7 j 0)) (l_p1 : ∀ r, p1_ = some r → r < V 7) (e_p2 : p2 = p2_.map (fun j => ad 5 j 0)) (l_p2 : ∀ r, p2_ = some r → r < V 5) : w_X8_begin N a0 p1 p2 h K := by
  subst e0 e_p1 e_p2
  unfold z_X8_begin at hw
  unfold w_X8_begin
  refine l_pR W rfl l0 rfl (t := 9) rfl hw rfl lv_none (fun h2_ W1_ hw => ?_)
  refine l_pR W1_ rfl l0 rfl (t := 7) rfl hw rfl l_p1 (fun h4_ W3_ hw => ?_)
  refine l_pR W3_ rfl l0 rfl (t := 5) rfl hw rfl l_p2 (fun h6_ W5_ hw => ?_)
  refine l_pR W5_ rfl l0 rfl (t := 0) rfl hw rfl lv_none (fun h8_ W7_ hw => ?_)
  refine l_pI W7_ rfl l0 rfl hw (fun h10_ W9_ hw => ?_)
  refine l_pI W9_ rfl l0 rfl hw (fun h12_ W11_ hw => ?_)
  refine l_pI W11_ rfl l0 rfl hw (fun h14_ W13_ hw => ?_)
  refine l_pL W13_ rfl l0 rfl hw (fun h16_ W15_ hw => ?_)
  refine l_pI W15_ rfl l0 rfl hw (fun h18_ W17_ hw => ?_)
  refine l_pI W17_ rfl l0 rfl hw (fun h20_ W19_ hw => ?_)
  refine l_pI W19_ rfl l0 rfl hw (fun h22_ W21_ hw => ?_)
  refine l_pI W21_ rfl l0 rfl hw (fun h24_ W23_ hw => ?_)
  refine l_pL W23_ rfl l0 rfl hw (fun h26_ W25_ hw => ?_)
  refine l_fx2 (fun (r : Int32 → Hp → Prop) (r9 : Int32 → St → Prop) => ∀ (x0 : Int32), ∀ (h9 : Hp) (s9 : St), Wf ad h9 V s9 → r9 x0 s9 → r x0 h9) (fun _ _ _ _ h9_ => h9_.elim) ?_ N _ _ _ W25_ hw
  intro w32_ w33_ hv31_ x27_ h29_ s30_ W28_ hw
  refine l_gA W28_ rfl l0 (c := 2) rfl (Or.inr rfl) ?_
  refine l_aN W28_ (f := 5) (x := 3) rfl l0 (c := 2) rfl (Or.inl rfl) rfl rfl ?_
  refine l_br hw (fun _ hw => ?_) (fun _ hw => ?_)
  ·
    exact hk _ _ W28_ hw
  ·
    refine l_gA W28_ rfl l0 (c := 2) rfl (Or.inr rfl) ?_
    refine l_sI W28_ (f := 5) rfl l0 rfl hw (fun h35_ W34_ hw => ?_)
    exact hv31_ _ _ _ W34_ hw
def z_X8_conditionOf (N : Nat) (a0 : Nat) (p1 : Int32) (h0 : St) (K : Option Nat → Prop) : Prop :=
  jn (fun (v2 : Int32) =>
    br (v2 = 0) (
      K none) (
      nn (sQ h0 8 a0 3 0) fun a5 =>
      z_X5_reasonAt N a5 p1 h0 fun v6 =>
      nn (sQ h0 8 a0 2 0) fun a7 =>
      z_X7_conditionAt N a7 v6 h0 fun o8 =>
      K o8)) (fun j32 =>
    jn (
      j32 0) (fun j31 =>
      brn (sQ h0 8 a0 3 0) (
        j31 ) (fun a9 =>
        brn (sQ h0 8 a0 2 0) (
          j31 ) (fun a11 =>
          nn (sQ h0 8 a0 3 0) fun a13 =>
          z_X5_wayAt N a13 p1 h0 fun v14 =>
          br (v14 = 99) (
            j32 1) (
            j31 )))))
set_option maxHeartbeats 1000000 in
theorem y_X8_conditionOf {ad : Nat → Nat → Nat → Nat} {h : Hp} {V : Nat → Nat} {h0 : St} {N : Nat} (W : Wf ad h V h0) {a0 a0_ : Nat} {p1 : Int32} {K : Option Nat → Prop} {K9 : Option Nat → Prop} (hw : z_X8_conditionOf N a0_ p1 h0 K9) (hk : ∀ {o9 u9 : Option Nat}, (∀ r, o9 = some r → r < V 1) → K9 o9 → u9 = o9.map (fun j => ad 1 j 0) → K u9) (e0 : a0 = ad 8 a0_ 0) (l0 : a0_ < V 8) : w_X8_conditionOf N a0 p1 h K := by
  subst e0
  unfold z_X8_conditionOf at hw
  unfold w_X8_conditionOf
  refine l_gR W rfl l0 rfl (t := 5) rfl ?_
  refine l_jn (fun (r : Int32 → Prop) (r9 : Int32 → Prop) => ∀ (x0 : Int32), r9 x0 → r x0) hw ?_ (fun j2_ j3_ hj4_ hw => ?_)
  ·
    intro x1_ hw
    refine l_br hw (fun _ hw => ?_) (fun _ hw => ?_)
    ·
      exact hk lv_none hw rfl
    ·
      refine l_gR W rfl l0 rfl (t := 7) rfl ?_
      refine l_gR W rfl l0 rfl (t := 5) rfl ?_
      refine l_nn hw (fun i5_ e6_ hw => ?_)
      refine l_cv W rfl ((wf_live W l0 3 0 rfl) _ e6_) rfl ?_
      refine y_X5_reasonAt W hw (fun v7_ hw => ?_) rfl ((wf_live W l0 3 0 rfl) _ e6_)
      refine l_nn hw (fun i8_ e9_ hw => ?_)
      refine l_cv W rfl ((wf_live W l0 2 0 rfl) _ e9_) rfl ?_
      refine y_X7_conditionAt W hw (@fun o11_ u13_ lp10_ hw e12_ => ?_) rfl ((wf_live W l0 2 0 rfl) _ e9_)
      subst e12_
      exact hk lp10_ hw rfl
  ·
    refine l_jn (fun (r : Prop) (r9 : Prop) =>  r9  → r ) hw ?_ (fun j14_ j15_ hj16_ hw => ?_)
    ·
      intro hw
      exact hj4_ _ hw
    ·
      refine l_brn hw (fun e19_ hw => ?_) (fun i17_ e18_ hw => ?_)
      ·
        exact hj16_  hw
      ·
        refine l_gR W rfl l0 rfl (t := 7) rfl ?_
        refine l_brn hw (fun e22_ hw => ?_) (fun i20_ e21_ hw => ?_)
        ·
          exact hj16_  hw
        ·
          refine l_gR W rfl l0 rfl (t := 5) rfl ?_
          refine l_nn hw (fun i23_ e24_ hw => ?_)
          refine l_cv W rfl ((wf_live W l0 3 0 rfl) _ e24_) rfl ?_
          refine y_X5_wayAt W hw (fun v25_ hw => ?_) rfl ((wf_live W l0 3 0 rfl) _ e24_)
          refine l_br hw (fun _ hw => ?_) (fun _ hw => ?_)
          ·
            exact hj4_ _ hw
          ·
            exact hj16_  hw
def z_X8_heldAt (N : Nat) (a0 : Nat) (p1 : Int32) (p2 : Int32) (h0 : St) (K : Int32 → Prop) : Prop :=
  br (((p1 * 3) + p2) < 0) (
    K (-1)) (
    br ((9 : Int32) ≤ ((p1 * 3) + p2)) (
      K (-1)) (
      wI 9 ((p1 * 3) + p2) <|
      K (sP h0 8 a0 6 (((p1 * 3) + p2)).toNatClampNeg)))
set_option maxHeartbeats 1000000 in
theorem y_X8_heldAt {ad : Nat → Nat → Nat → Nat} {h : Hp} {V : Nat → Nat} {h0 : St} {N : Nat} (W : Wf ad h V h0) {a0 a0_ : Nat} {p1 : Int32} {p2 : Int32} {K : Int32 → Prop} {K9 : Int32 → Prop} (hw : z_X8_heldAt N a0_ p1 p2 h0 K9) (hk : ∀ (r0 : Int32), K9 r0 →  K r0) (e0 : a0 = ad 8 a0_ 0) (l0 : a0_ < V 8) : w_X8_heldAt N a0 p1 p2 h K := by
  subst e0
  unfold z_X8_heldAt at hw
  unfold w_X8_heldAt
  refine l_br hw (fun _ hw => ?_) (fun _ hw => ?_)
  ·
    exact hk _ hw
  ·
    refine l_gA W rfl l0 (c := 2) rfl (Or.inr rfl) ?_
    refine l_aN W (f := 6) (x := 9) rfl l0 (c := 2) rfl (Or.inl rfl) rfl rfl ?_
    refine l_br hw (fun _ hw => ?_) (fun _ hw => ?_)
    ·
      exact hk _ hw
    ·
      refine l_gA W rfl l0 (c := 2) rfl (Or.inr rfl) ?_
      refine l_aI W (f := 6) rfl l0 rfl hw (fun hw => ?_)
      exact hk _ hw
def z_X8_joinedValue (N : Nat) (a0 : Nat) (p1 : Int32) (h0 : St) (K : Int32 → Prop) : Prop :=
  jn (fun (o2 : Option Nat) =>
    jn (fun (v3 : Int32) =>
      brn o2 (
        K (-1)) (fun a4 =>
        z_X4_columnOf N a4 v3 h0 fun v5 =>
        z_X8_heldAt N a0 v3 v5 h0 fun v6 =>
        K v6)) (fun j54 =>
      brn o2 (
        j54 (-1)) (fun a7 =>
        nn (sQ h0 8 a0 3 0) fun a9 =>
        z_X5_positionAt N a9 p1 h0 fun v10 =>
        z_X4_partnerOf N a7 v10 h0 fun v11 =>
        j54 v11))) (fun j33 =>
    jn (
      j33 none) (fun j14 =>
      brn (sQ h0 8 a0 3 0) (
        j14 ) (fun a12 =>
        brn (sQ h0 8 a0 2 0) (
          j14 ) (fun a14 =>
          nn (sQ h0 8 a0 3 0) fun a17 =>
          z_X5_reasonAt N a17 p1 h0 fun v18 =>
          nn (sQ h0 8 a0 2 0) fun a19 =>
          z_X7_joinAt N a19 v18 h0 fun o20 =>
          j33 o20))))
set_option maxHeartbeats 1000000 in
theorem y_X8_joinedValue {ad : Nat → Nat → Nat → Nat} {h : Hp} {V : Nat → Nat} {h0 : St} {N : Nat} (W : Wf ad h V h0) {a0 a0_ : Nat} {p1 : Int32} {K : Int32 → Prop} {K9 : Int32 → Prop} (hw : z_X8_joinedValue N a0_ p1 h0 K9) (hk : ∀ (r0 : Int32), K9 r0 →  K r0) (e0 : a0 = ad 8 a0_ 0) (l0 : a0_ < V 8) : w_X8_joinedValue N a0 p1 h K := by
  subst e0
  unfold z_X8_joinedValue at hw
  unfold w_X8_joinedValue
  refine l_gR W rfl l0 rfl (t := 5) rfl ?_
  refine l_jn (fun (r : Option Nat → Prop) (r9 : Option Nat → Prop) => ∀ (o0 u0 : Option Nat), (∀ r, o0 = some r → r < V 4) → u0 = o0.map (fun j => ad 4 j 0) → r9 o0 → r u0) hw ?_ (fun j5_ j6_ hj7_ hw => ?_)
  ·
    intro o2_ u3_ lp1_ e4_ hw
    subst e4_
    refine l_jn (fun (r : Int32 → Prop) (r9 : Int32 → Prop) => ∀ (x0 : Int32), r9 x0 → r x0) hw ?_ (fun j9_ j10_ hj11_ hw => ?_)
    ·
      intro x8_ hw
      refine l_brn hw (fun e14_ hw => ?_) (fun i12_ e13_ hw => ?_)
      ·
        exact hk _ hw
      ·
        refine l_cv W rfl (lp1_ _ e13_) rfl ?_
        refine y_X4_columnOf W hw (fun v15_ hw => ?_) rfl (lp1_ _ e13_)
        refine l_cv W rfl l0 rfl ?_
        refine y_X8_heldAt W hw (fun v16_ hw => ?_) rfl l0
        exact hk _ hw
    ·
      refine l_brn hw (fun e19_ hw => ?_) (fun i17_ e18_ hw => ?_)
      ·
        exact hj11_ _ hw
      ·
        refine l_gR W rfl l0 rfl (t := 5) rfl ?_
        refine l_nn hw (fun i20_ e21_ hw => ?_)
        refine l_cv W rfl ((wf_live W l0 3 0 rfl) _ e21_) rfl ?_
        refine y_X5_positionAt W hw (fun v22_ hw => ?_) rfl ((wf_live W l0 3 0 rfl) _ e21_)
        refine l_cv W rfl (lp1_ _ e18_) rfl ?_
        refine y_X4_partnerOf W hw (fun v23_ hw => ?_) rfl (lp1_ _ e18_)
        exact hj11_ _ hw
  ·
    refine l_jn (fun (r : Prop) (r9 : Prop) =>  r9  → r ) hw ?_ (fun j24_ j25_ hj26_ hw => ?_)
    ·
      intro hw
      exact hj7_ _ _ lv_none rfl hw
    ·
      refine l_brn hw (fun e29_ hw => ?_) (fun i27_ e28_ hw => ?_)
      ·
        exact hj26_  hw
      ·
        refine l_gR W rfl l0 rfl (t := 7) rfl ?_
        refine l_brn hw (fun e32_ hw => ?_) (fun i30_ e31_ hw => ?_)
        ·
          exact hj26_  hw
        ·
          refine l_gR W rfl l0 rfl (t := 7) rfl ?_
          refine l_gR W rfl l0 rfl (t := 5) rfl ?_
          refine l_nn hw (fun i33_ e34_ hw => ?_)
          refine l_cv W rfl ((wf_live W l0 3 0 rfl) _ e34_) rfl ?_
          refine y_X5_reasonAt W hw (fun v35_ hw => ?_) rfl ((wf_live W l0 3 0 rfl) _ e34_)
          refine l_nn hw (fun i36_ e37_ hw => ?_)
          refine l_cv W rfl ((wf_live W l0 2 0 rfl) _ e37_) rfl ?_
          refine y_X7_joinAt W hw (@fun o39_ u41_ lp38_ hw e40_ => ?_) rfl ((wf_live W l0 2 0 rfl) _ e37_)
          subst e40_
          exact hj7_ _ _ lp38_ rfl hw
def z_X8_greatestWanted (N : Nat) (a0 : Nat) (p1 : Int32) (h0 : St) (K : Int32 → Prop) : Prop :=
  z_X8_conditionOf N a0 p1 h0 fun o1 =>
  brn o1 (
    z_X8_joinedValue N a0 p1 h0 fun v4 =>
    K v4) (fun a2 =>
    z_X1_greatest N a2 h0 fun v3 =>
    K v3)
set_option maxHeartbeats 1000000 in
theorem y_X8_greatestWanted {ad : Nat → Nat → Nat → Nat} {h : Hp} {V : Nat → Nat} {h0 : St} {N : Nat} (W : Wf ad h V h0) {a0 a0_ : Nat} {p1 : Int32} {K : Int32 → Prop} {K9 : Int32 → Prop} (hw : z_X8_greatestWanted N a0_ p1 h0 K9) (hk : ∀ (r0 : Int32), K9 r0 →  K r0) (e0 : a0 = ad 8 a0_ 0) (l0 : a0_ < V 8) : w_X8_greatestWanted N a0 p1 h K := by
  subst e0
  unfold z_X8_greatestWanted at hw
  unfold w_X8_greatestWanted
  refine l_cv W rfl l0 rfl ?_
  refine y_X8_conditionOf W hw (@fun o2_ u4_ lp1_ hw e3_ => ?_) rfl l0
  subst e3_
  refine l_brn hw (fun e7_ hw => ?_) (fun i5_ e6_ hw => ?_)
  ·
    refine l_cv W rfl l0 rfl ?_
    refine y_X8_joinedValue W hw (fun v8_ hw => ?_) rfl l0
    exact hk _ hw
  ·
    refine l_cv W rfl (lp1_ _ e6_) rfl ?_
    refine y_X1_greatest W hw (fun v9_ hw => ?_) rfl (lp1_ _ e6_)
    exact hk _ hw
def z_X8_leastWanted (N : Nat) (a0 : Nat) (p1 : Int32) (h0 : St) (K : Int32 → Prop) : Prop :=
  z_X8_conditionOf N a0 p1 h0 fun o1 =>
  brn o1 (
    z_X8_joinedValue N a0 p1 h0 fun v4 =>
    K v4) (fun a2 =>
    z_X1_least N a2 h0 fun v3 =>
    K v3)
set_option maxHeartbeats 1000000 in
theorem y_X8_leastWanted {ad : Nat → Nat → Nat → Nat} {h : Hp} {V : Nat → Nat} {h0 : St} {N : Nat} (W : Wf ad h V h0) {a0 a0_ : Nat} {p1 : Int32} {K : Int32 → Prop} {K9 : Int32 → Prop} (hw : z_X8_leastWanted N a0_ p1 h0 K9) (hk : ∀ (r0 : Int32), K9 r0 →  K r0) (e0 : a0 = ad 8 a0_ 0) (l0 : a0_ < V 8) : w_X8_leastWanted N a0 p1 h K := by
  subst e0
  unfold z_X8_leastWanted at hw
  unfold w_X8_leastWanted
  refine l_cv W rfl l0 rfl ?_
  refine y_X8_conditionOf W hw (@fun o2_ u4_ lp1_ hw e3_ => ?_) rfl l0
  subst e3_
  refine l_brn hw (fun e7_ hw => ?_) (fun i5_ e6_ hw => ?_)
  ·
    refine l_cv W rfl l0 rfl ?_
    refine y_X8_joinedValue W hw (fun v8_ hw => ?_) rfl l0
    exact hk _ hw
  ·
    refine l_cv W rfl (lp1_ _ e6_) rfl ?_
    refine y_X1_least W hw (fun v9_ hw => ?_) rfl (lp1_ _ e6_)
    exact hk _ hw
def z_X8_readOne (N : Nat) (a0 : Nat) (p1 : Int32) (h0 : St) (K : St → Prop) : Prop :=
  lt_ (stP h0 8 a0 7 0 ((sP h0 8 a0 7 0) + 1)) fun h2 =>
  brn (sQ h2 8 a0 4 0) (
    K h2) (fun a4 =>
    nn (sQ h2 8 a0 4 0) fun a6 =>
    z_X0_missed N a6 p1 h2 fun v7 h8 =>
    br (v7 = 0) (
      K h8) (
      lt_ (stP h8 8 a0 8 0 ((sP h8 8 a0 8 0) + 1)) fun h10 =>
      K h10))
set_option maxHeartbeats 1000000 in
theorem y_X8_readOne {ad : Nat → Nat → Nat → Nat} {h : Hp} {V : Nat → Nat} {h0 : St} {N : Nat} (W : Wf ad h V h0) {a0 a0_ : Nat} {p1 : Int32} {K : Hp → Prop} {K9 : St → Prop} (hw : z_X8_readOne N a0_ p1 h0 K9) (hk : ∀ (h9 : Hp) (s9 : St), Wf ad h9 V s9 → K9 s9 →  K h9) (e0 : a0 = ad 8 a0_ 0) (l0 : a0_ < V 8) : w_X8_readOne N a0 p1 h K := by
  subst e0
  unfold z_X8_readOne at hw
  unfold w_X8_readOne
  refine l_gI W rfl l0 rfl ?_
  refine l_pI W rfl l0 rfl hw (fun h2_ W1_ hw => ?_)
  refine l_gR W1_ rfl l0 rfl (t := 0) rfl ?_
  refine l_brn hw (fun e5_ hw => ?_) (fun i3_ e4_ hw => ?_)
  ·
    exact hk _ _ W1_ hw
  ·
    refine l_gR W1_ rfl l0 rfl (t := 0) rfl ?_
    refine l_nn hw (fun i6_ e7_ hw => ?_)
    refine l_cv W1_ rfl ((wf_live W1_ l0 4 0 rfl) _ e7_) rfl ?_
    refine y_X0_missed W1_ hw (fun v8_ h10_ s11_ W9_ hw => ?_) rfl ((wf_live W1_ l0 4 0 rfl) _ e7_)
    refine l_br hw (fun _ hw => ?_) (fun _ hw => ?_)
    ·
      exact hk _ _ W9_ hw
    ·
      refine l_gI W9_ rfl l0 rfl ?_
      refine l_pI W9_ rfl l0 rfl hw (fun h13_ W12_ hw => ?_)
      exact hk _ _ W12_ hw
def z_X8_fits (N : Nat) (a0 : Nat) (p1 : Int32) (p2 : Option Nat) (p3 : Int32) (h0 : St) (K : Int32 → Prop) : Prop :=
  nn p2 fun a1 =>
  z_X10_hasRow N a1 p3 h0 fun v2 =>
  br (v2 = 0) (
    K 0) (
    brn (sQ h0 8 a0 3 0) (
      K 0) (fun a4 =>
      brn (sQ h0 8 a0 2 0) (
        K 0) (fun a6 =>
        nn (sQ h0 8 a0 3 0) fun a8 =>
        z_X5_positionAt N a8 p1 h0 fun v9 =>
        fx1 (fun (w37 : Int32 → Prop) (x10 : Int32) =>
          nn (sQ h0 8 a0 2 0) fun a12 =>
          z_X7_conditionCount N a12 h0 fun v13 =>
          br (v13 ≤ x10) (
            fx1 (fun (w104 : Int32 → Prop) (x14 : Int32) =>
              nn (sQ h0 8 a0 2 0) fun a16 =>
              z_X7_joinCount N a16 h0 fun v17 =>
              br (v17 ≤ x14) (
                K 1) (
                nn (sQ h0 8 a0 2 0) fun a19 =>
                z_X7_joinAt N a19 x14 h0 fun o20 =>
                jn (fun (v21 : Int32) =>
                  jn (
                    w104 (x14 + 1)) (fun j193 =>
                    brn o20 (
                      j193 ) (fun a22 =>
                      nn (sQ h0 8 a0 3 0) fun a24 =>
                      z_X5_isAhead N a24 v21 p1 h0 fun v25 =>
                      br (v25 = 0) (
                        j193 ) (
                        z_X4_columnOf N a22 v21 h0 fun v26 =>
                        z_X8_heldAt N a0 v21 v26 h0 fun v27 =>
                        z_X4_columnOf N a22 v9 h0 fun v28 =>
                        z_X10_cell N a1 p3 v28 h0 fun v29 =>
                        br (v27 = v29) (
                          j193 ) (
                          K 0))))) (fun j143 =>
                  brn o20 (
                    j143 (-1)) (fun a30 =>
                    z_X4_partnerOf N a30 v9 h0 fun v31 =>
                    j143 v31)))) N 0) (
            nn (sQ h0 8 a0 2 0) fun a33 =>
            z_X7_conditionAt N a33 x10 h0 fun o34 =>
            jn (
              w37 (x10 + 1)) (fun j95 =>
              brn o34 (
                j95 ) (fun a35 =>
                z_X1_position N a35 h0 fun v36 =>
                br (v36 = v9) (
                  z_X1_column N a35 h0 fun v37 =>
                  z_X10_cell N a1 p3 v37 h0 fun v38 =>
                  z_X1_allows N a35 v38 h0 fun v39 =>
                  br (v39 = 0) (
                    K 0) (
                    j95 )) (
                  j95 ))))) N 0)))
set_option maxHeartbeats 1000000 in
theorem y_X8_fits {ad : Nat → Nat → Nat → Nat} {h : Hp} {V : Nat → Nat} {h0 : St} {N : Nat} (W : Wf ad h V h0) {a0 a0_ : Nat} {p1 : Int32} {p2 p2_ : Option Nat} {p3 : Int32} {K : Int32 → Prop} {K9 : Int32 → Prop} (hw : z_X8_fits N a0_ p1 p2_ p3 h0 K9) (hk : ∀ (r0 : Int32), K9 r0 →  K r0) (e0 : a0 = ad 8 a0_ 0) (l0 : a0_ < V 8) (e_p2 : p2 = p2_.map (fun j => ad 10 j 0)) (l_p2 : ∀ r, p2_ = some r → r < V 10) : w_X8_fits N a0 p1 p2 p3 h K := by
  subst e0 e_p2
  unfold z_X8_fits at hw
  unfold w_X8_fits
  refine l_nn hw (fun i1_ e2_ hw => ?_)
  refine l_cv W rfl (l_p2 _ e2_) rfl ?_
  refine y_X10_hasRow W hw (fun v3_ hw => ?_) rfl (l_p2 _ e2_)
  refine l_br hw (fun _ hw => ?_) (fun _ hw => ?_)
  ·
    exact hk _ hw
  ·
    refine l_gR W rfl l0 rfl (t := 5) rfl ?_
    refine l_brn hw (fun e6_ hw => ?_) (fun i4_ e5_ hw => ?_)
    ·
      exact hk _ hw
    ·
      refine l_gR W rfl l0 rfl (t := 7) rfl ?_
      refine l_brn hw (fun e9_ hw => ?_) (fun i7_ e8_ hw => ?_)
      ·
        exact hk _ hw
      ·
        refine l_gR W rfl l0 rfl (t := 5) rfl ?_
        refine l_nn hw (fun i10_ e11_ hw => ?_)
        refine l_cv W rfl ((wf_live W l0 3 0 rfl) _ e11_) rfl ?_
        refine y_X5_positionAt W hw (fun v12_ hw => ?_) rfl ((wf_live W l0 3 0 rfl) _ e11_)
        refine l_fx1 (fun (r : Int32 → Prop) (r9 : Int32 → Prop) => ∀ (x0 : Int32), r9 x0 → r x0) (fun _ h9_ => h9_.elim) ?_ N _ hw
        intro w15_ w16_ hv14_ x13_ hw
        refine l_gR W rfl l0 rfl (t := 7) rfl ?_
        refine l_nn hw (fun i17_ e18_ hw => ?_)
        refine l_cv W rfl ((wf_live W l0 2 0 rfl) _ e18_) rfl ?_
        refine y_X7_conditionCount W hw (fun v19_ hw => ?_) rfl ((wf_live W l0 2 0 rfl) _ e18_)
        refine l_br hw (fun _ hw => ?_) (fun _ hw => ?_)
        ·
          refine l_fx1 (fun (r : Int32 → Prop) (r9 : Int32 → Prop) => ∀ (x0 : Int32), r9 x0 → r x0) (fun _ h9_ => h9_.elim) ?_ N _ hw
          intro w22_ w23_ hv21_ x20_ hw
          refine l_gR W rfl l0 rfl (t := 7) rfl ?_
          refine l_nn hw (fun i24_ e25_ hw => ?_)
          refine l_cv W rfl ((wf_live W l0 2 0 rfl) _ e25_) rfl ?_
          refine y_X7_joinCount W hw (fun v26_ hw => ?_) rfl ((wf_live W l0 2 0 rfl) _ e25_)
          refine l_br hw (fun _ hw => ?_) (fun _ hw => ?_)
          ·
            exact hk _ hw
          ·
            refine l_gR W rfl l0 rfl (t := 7) rfl ?_
            refine l_nn hw (fun i27_ e28_ hw => ?_)
            refine l_cv W rfl ((wf_live W l0 2 0 rfl) _ e28_) rfl ?_
            refine y_X7_joinAt W hw (@fun o30_ u32_ lp29_ hw e31_ => ?_) rfl ((wf_live W l0 2 0 rfl) _ e28_)
            subst e31_
            refine l_jn (fun (r : Int32 → Prop) (r9 : Int32 → Prop) => ∀ (x0 : Int32), r9 x0 → r x0) hw ?_ (fun j34_ j35_ hj36_ hw => ?_)
            ·
              intro x33_ hw
              refine l_jn (fun (r : Prop) (r9 : Prop) =>  r9  → r ) hw ?_ (fun j37_ j38_ hj39_ hw => ?_)
              ·
                intro hw
                exact hv21_ _ hw
              ·
                refine l_brn hw (fun e42_ hw => ?_) (fun i40_ e41_ hw => ?_)
                ·
                  exact hj39_  hw
                ·
                  refine l_gR W rfl l0 rfl (t := 5) rfl ?_
                  refine l_nn hw (fun i43_ e44_ hw => ?_)
                  refine l_cv W rfl ((wf_live W l0 3 0 rfl) _ e44_) rfl ?_
                  refine y_X5_isAhead W hw (fun v45_ hw => ?_) rfl ((wf_live W l0 3 0 rfl) _ e44_)
                  refine l_br hw (fun _ hw => ?_) (fun _ hw => ?_)
                  ·
                    exact hj39_  hw
                  ·
                    refine l_cv W rfl (lp29_ _ e41_) rfl ?_
                    refine y_X4_columnOf W hw (fun v46_ hw => ?_) rfl (lp29_ _ e41_)
                    refine l_cv W rfl l0 rfl ?_
                    refine y_X8_heldAt W hw (fun v47_ hw => ?_) rfl l0
                    refine l_cv W rfl (lp29_ _ e41_) rfl ?_
                    refine y_X4_columnOf W hw (fun v48_ hw => ?_) rfl (lp29_ _ e41_)
                    refine l_cv W rfl (l_p2 _ e2_) rfl ?_
                    refine y_X10_cell W hw (fun v49_ hw => ?_) rfl (l_p2 _ e2_)
                    refine l_br hw (fun _ hw => ?_) (fun _ hw => ?_)
                    ·
                      exact hj39_  hw
                    ·
                      exact hk _ hw
            ·
              refine l_brn hw (fun e52_ hw => ?_) (fun i50_ e51_ hw => ?_)
              ·
                exact hj36_ _ hw
              ·
                refine l_cv W rfl (lp29_ _ e51_) rfl ?_
                refine y_X4_partnerOf W hw (fun v53_ hw => ?_) rfl (lp29_ _ e51_)
                exact hj36_ _ hw
        ·
          refine l_gR W rfl l0 rfl (t := 7) rfl ?_
          refine l_nn hw (fun i54_ e55_ hw => ?_)
          refine l_cv W rfl ((wf_live W l0 2 0 rfl) _ e55_) rfl ?_
          refine y_X7_conditionAt W hw (@fun o57_ u59_ lp56_ hw e58_ => ?_) rfl ((wf_live W l0 2 0 rfl) _ e55_)
          subst e58_
          refine l_jn (fun (r : Prop) (r9 : Prop) =>  r9  → r ) hw ?_ (fun j60_ j61_ hj62_ hw => ?_)
          ·
            intro hw
            exact hv14_ _ hw
          ·
            refine l_brn hw (fun e65_ hw => ?_) (fun i63_ e64_ hw => ?_)
            ·
              exact hj62_  hw
            ·
              refine l_cv W rfl (lp56_ _ e64_) rfl ?_
              refine y_X1_position W hw (fun v66_ hw => ?_) rfl (lp56_ _ e64_)
              refine l_br hw (fun _ hw => ?_) (fun _ hw => ?_)
              ·
                refine l_cv W rfl (lp56_ _ e64_) rfl ?_
                refine y_X1_column W hw (fun v67_ hw => ?_) rfl (lp56_ _ e64_)
                refine l_cv W rfl (l_p2 _ e2_) rfl ?_
                refine y_X10_cell W hw (fun v68_ hw => ?_) rfl (l_p2 _ e2_)
                refine l_cv W rfl (lp56_ _ e64_) rfl ?_
                refine y_X1_allows W hw (fun v69_ hw => ?_) rfl (lp56_ _ e64_)
                refine l_br hw (fun _ hw => ?_) (fun _ hw => ?_)
                ·
                  exact hk _ hw
                ·
                  exact hj62_  hw
              ·
                exact hj62_  hw
def z_X8_noteAnswer (N : Nat) (a0 : Nat) (h0 : St) (K : St → Prop) : Prop :=
  fx2 (fun (w4 : Int64 → Int32 → Prop) (y1 : Int64) (x2 : Int32) =>
    br ((3 : Int32) ≤ x2) (
      lt_ (stL h0 8 a0 10 0 ((sL_ h0 8 a0 10 0) + ((y1 + 1) * (y1 + 31)))) fun h6 =>
      jn (fun (h9 : St) =>
        z_X8_heldAt N a0 (sP h9 8 a0 12 0) (sP h9 8 a0 13 0) h9 fun v13 =>
        lt_ (stL h9 8 a0 15 0 ((sL_ h9 8 a0 15 0) + ((v13 : Int32).toInt64))) fun h14 =>
        lt_ (stP h14 8 a0 9 0 ((sP h14 8 a0 9 0) + 1)) fun h16 =>
        K h16) (fun j94 =>
        br ((sP h6 8 a0 9 0) = (sP h6 8 a0 11 0)) (
          br ((sP h6 8 a0 12 0) < 0) (
            j94 h6) (
            br ((3 : Int32) ≤ (sP h6 8 a0 12 0)) (
              j94 h6) (
              wI 3 (sP h6 8 a0 12 0) <|
              lt_ (stP h6 8 a0 14 0 (sP h6 8 a0 5 ((sP h6 8 a0 12 0)).toNatClampNeg)) fun h24 =>
              j94 h24))) (
          j94 h6))) (
      wI 3 x2 <|
      w4 ((y1 * 40) + (((sP h0 8 a0 5 (x2).toNatClampNeg) : Int32).toInt64)) (x2 + 1))) N 0 0
set_option maxHeartbeats 1000000 in
theorem y_X8_noteAnswer {ad : Nat → Nat → Nat → Nat} {h : Hp} {V : Nat → Nat} {h0 : St} {N : Nat} (W : Wf ad h V h0) {a0 a0_ : Nat} {K : Hp → Prop} {K9 : St → Prop} (hw : z_X8_noteAnswer N a0_ h0 K9) (hk : ∀ (h9 : Hp) (s9 : St), Wf ad h9 V s9 → K9 s9 →  K h9) (e0 : a0 = ad 8 a0_ 0) (l0 : a0_ < V 8) : w_X8_noteAnswer N a0 h K := by
  subst e0
  unfold z_X8_noteAnswer at hw
  unfold w_X8_noteAnswer
  refine l_fx2 (fun (r : Int64 → Int32 → Prop) (r9 : Int64 → Int32 → Prop) => ∀ (x0 : Int64), ∀ (x1 : Int32), r9 x0 x1 → r x0 x1) (fun _ _ h9_ => h9_.elim) ?_ N _ _ hw
  intro w4_ w5_ hv3_ x1_ x2_ hw
  refine l_gA W rfl l0 (c := 2) rfl (Or.inr rfl) ?_
  refine l_aN W (f := 5) (x := 3) rfl l0 (c := 2) rfl (Or.inl rfl) rfl rfl ?_
  refine l_br hw (fun _ hw => ?_) (fun _ hw => ?_)
  ·
    refine l_gL W rfl l0 rfl ?_
    refine l_pL W rfl l0 rfl hw (fun h7_ W6_ hw => ?_)
    refine l_gI W6_ rfl l0 rfl ?_
    refine l_gI W6_ rfl l0 rfl ?_
    refine l_jn (fun (r : Hp → Prop) (r9 : St → Prop) => ∀ (h9 : Hp) (s9 : St), Wf ad h9 V s9 → r9 s9 → r h9) hw ?_ (fun j11_ j12_ hj13_ hw => ?_)
    ·
      intro h9_ s10_ W8_ hw
      refine l_gL W8_ rfl l0 rfl ?_
      refine l_gI W8_ rfl l0 rfl ?_
      refine l_gI W8_ rfl l0 rfl ?_
      refine l_cv W8_ rfl l0 rfl ?_
      refine y_X8_heldAt W8_ hw (fun v14_ hw => ?_) rfl l0
      refine l_pL W8_ rfl l0 rfl hw (fun h16_ W15_ hw => ?_)
      refine l_gI W15_ rfl l0 rfl ?_
      refine l_pI W15_ rfl l0 rfl hw (fun h18_ W17_ hw => ?_)
      exact hk _ _ W17_ hw
    ·
      refine l_br hw (fun _ hw => ?_) (fun _ hw => ?_)
      ·
        refine l_gI W6_ rfl l0 rfl ?_
        refine l_br hw (fun _ hw => ?_) (fun _ hw => ?_)
        ·
          exact hj13_ _ _ W6_ hw
        ·
          refine l_gI W6_ rfl l0 rfl ?_
          refine l_gA W6_ rfl l0 (c := 2) rfl (Or.inr rfl) ?_
          refine l_aN W6_ (f := 5) (x := 3) rfl l0 (c := 2) rfl (Or.inl rfl) rfl rfl ?_
          refine l_br hw (fun _ hw => ?_) (fun _ hw => ?_)
          ·
            exact hj13_ _ _ W6_ hw
          ·
            refine l_gA W6_ rfl l0 (c := 2) rfl (Or.inr rfl) ?_
            refine l_gI W6_ rfl l0 rfl ?_
            refine l_aI W6_ (f := 5) rfl l0 rfl hw (fun hw => ?_)
            refine l_pI W6_ rfl l0 rfl hw (fun h20_ W19_ hw => ?_)
            exact hj13_ _ _ W19_ hw
      ·
        exact hj13_ _ _ W6_ hw
  ·
    refine l_gA W rfl l0 (c := 2) rfl (Or.inr rfl) ?_
    refine l_aI W (f := 5) rfl l0 rfl hw (fun hw => ?_)
    exact hv3_ _ _ hw
def z_X8_visitRow (zv : Nat → Int32 → St → (St → Prop) → Prop) (N : Nat) (a0 : Nat) (p1 : Int32) (p2 : Option Nat) (p3 : Int32) (h0 : St) (K : St → Prop) : Prop :=
  jn (fun (v2 : Int32) =>
    br (v2 < 0) (
      K h0) (
      br ((3 : Int32) ≤ v2) (
        K h0) (
        z_X8_fits N a0 p1 p2 p3 h0 fun v5 =>
        br (v5 = 0) (
          K h0) (
          wA 3 v2 (stP h0 8 a0 5 (v2).toNatClampNeg p3) fun h7 =>
          fx2 (fun (w58 : Int32 → St → Prop) (x9 : Int32) (h8 : St) =>
            br (3 ≤ x9) (
              nn (sQ h8 8 a0 3 0) fun a11 =>
              z_X5_size N a11 h8 fun v12 =>
              br ((p1 + 1) = v12) (
                z_X8_noteAnswer N a0 h8 fun h14 =>
                K h14) (
                zv a0 (p1 + 1) h8 fun h13 =>
                K h13)) (
              jn (fun (h17 : St) =>
                w58 (x9 + 1) h17) (fun j97 =>
                br ((9 : Int32) ≤ ((v2 * 3) + x9)) (
                  j97 h8) (
                  nn p2 fun a19 =>
                  z_X10_cell N a19 p3 x9 h8 fun v20 =>
                  wA 9 ((v2 * 3) + x9) (stP h8 8 a0 6 (((v2 * 3) + x9)).toNatClampNeg v20) fun h21 =>
                  j97 h21)))) N 0 h7)))) (fun j19 =>
    brn (sQ h0 8 a0 3 0) (
      j19 (-1)) (fun a22 =>
      nn (sQ h0 8 a0 3 0) fun a24 =>
      z_X5_positionAt N a24 p1 h0 fun v25 =>
      j19 v25))
set_option maxHeartbeats 1000000 in
theorem y_X8_visitRow {ad : Nat → Nat → Nat → Nat} {h : Hp} {V : Nat → Nat} {h0 : St} {N : Nat} {wv : Nat → Int32 → Hp → (Hp → Prop) → Prop} {zv : Nat → Int32 → St → (St → Prop) → Prop} (hv : ∀ {h : Hp} {h0 : St} (_ : Wf ad h V h0) {a0 a0_ : Nat} {p1 : Int32} {K : Hp → Prop} {K9 : St → Prop} (_ : zv a0_ p1 h0 K9) (_ : ∀ (h9 : Hp) (s9 : St), Wf ad h9 V s9 → K9 s9 → K h9) (_ : a0 = ad 8 a0_ 0) (_ : a0_ < V 8), wv a0 p1 h K) (W : Wf ad h V h0) {a0 a0_ : Nat} {p1 : Int32} {p2 p2_ : Option Nat} {p3 : Int32} {K : Hp → Prop} {K9 : St → Prop} (hw : z_X8_visitRow zv N a0_ p1 p2_ p3 h0 K9) (hk : ∀ (h9 : Hp) (s9 : St), Wf ad h9 V s9 → K9 s9 →  K h9) (e0 : a0 = ad 8 a0_ 0) (l0 : a0_ < V 8) (e_p2 : p2 = p2_.map (fun j => ad 10 j 0)) (l_p2 : ∀ r, p2_ = some r → r < V 10) : w_X8_visitRow wv N a0 p1 p2 p3 h K := by
  subst e0 e_p2
  unfold z_X8_visitRow at hw
  unfold w_X8_visitRow
  refine l_gR W rfl l0 rfl (t := 5) rfl ?_
  refine l_jn (fun (r : Int32 → Prop) (r9 : Int32 → Prop) => ∀ (x0 : Int32), r9 x0 → r x0) hw ?_ (fun j2_ j3_ hj4_ hw => ?_)
  ·
    intro x1_ hw
    refine l_br hw (fun _ hw => ?_) (fun _ hw => ?_)
    ·
      exact hk _ _ W hw
    ·
      refine l_gA W rfl l0 (c := 2) rfl (Or.inr rfl) ?_
      refine l_aN W (f := 5) (x := 3) rfl l0 (c := 2) rfl (Or.inl rfl) rfl rfl ?_
      refine l_br hw (fun _ hw => ?_) (fun _ hw => ?_)
      ·
        exact hk _ _ W hw
      ·
        refine l_cv W rfl l0 rfl ?_
        refine y_X8_fits W hw (fun v5_ hw => ?_) rfl l0 rfl l_p2
        refine l_br hw (fun _ hw => ?_) (fun _ hw => ?_)
        ·
          exact hk _ _ W hw
        ·
          refine l_gA W rfl l0 (c := 2) rfl (Or.inr rfl) ?_
          refine l_sI W (f := 5) rfl l0 rfl hw (fun h7_ W6_ hw => ?_)
          refine l_fx2 (fun (r : Int32 → Hp → Prop) (r9 : Int32 → St → Prop) => ∀ (x0 : Int32), ∀ (h9 : Hp) (s9 : St), Wf ad h9 V s9 → r9 x0 s9 → r x0 h9) (fun _ _ _ _ h9_ => h9_.elim) ?_ N _ _ _ W6_ hw
          intro w13_ w14_ hv12_ x8_ h10_ s11_ W9_ hw
          refine l_br hw (fun _ hw => ?_) (fun _ hw => ?_)
          ·
            refine l_gR W9_ rfl l0 rfl (t := 5) rfl ?_
            refine l_nn hw (fun i15_ e16_ hw => ?_)
            refine l_cv W9_ rfl ((wf_live W9_ l0 3 0 rfl) _ e16_) rfl ?_
            refine y_X5_size W9_ hw (fun v17_ hw => ?_) rfl ((wf_live W9_ l0 3 0 rfl) _ e16_)
            refine l_br hw (fun _ hw => ?_) (fun _ hw => ?_)
            ·
              refine l_cv W9_ rfl l0 rfl ?_
              refine y_X8_noteAnswer W9_ hw (fun h19_ s20_ W18_ hw => ?_) rfl l0
              exact hk _ _ W18_ hw
            ·
              refine l_cv W9_ rfl l0 rfl ?_
              refine hv W9_ hw (fun h22_ s23_ W21_ hw => ?_) rfl l0
              exact hk _ _ W21_ hw
          ·
            refine l_gA W9_ rfl l0 (c := 2) rfl (Or.inr rfl) ?_
            refine l_aN W9_ (f := 6) (x := 9) rfl l0 (c := 2) rfl (Or.inl rfl) rfl rfl ?_
            refine l_jn (fun (r : Hp → Prop) (r9 : St → Prop) => ∀ (h9 : Hp) (s9 : St), Wf ad h9 V s9 → r9 s9 → r h9) hw ?_ (fun j27_ j28_ hj29_ hw => ?_)
            ·
              intro h25_ s26_ W24_ hw
              exact hv12_ _ _ _ W24_ hw
            ·
              refine l_br hw (fun _ hw => ?_) (fun _ hw => ?_)
              ·
                exact hj29_ _ _ W9_ hw
              ·
                refine l_gA W9_ rfl l0 (c := 2) rfl (Or.inr rfl) ?_
                refine l_nn hw (fun i30_ e31_ hw => ?_)
                refine l_cv W9_ rfl (l_p2 _ e31_) rfl ?_
                refine y_X10_cell W9_ hw (fun v32_ hw => ?_) rfl (l_p2 _ e31_)
                refine l_sI W9_ (f := 6) rfl l0 rfl hw (fun h34_ W33_ hw => ?_)
                exact hj29_ _ _ W33_ hw
  ·
    refine l_brn hw (fun e37_ hw => ?_) (fun i35_ e36_ hw => ?_)
    ·
      exact hj4_ _ hw
    ·
      refine l_gR W rfl l0 rfl (t := 5) rfl ?_
      refine l_nn hw (fun i38_ e39_ hw => ?_)
      refine l_cv W rfl ((wf_live W l0 3 0 rfl) _ e39_) rfl ?_
      refine y_X5_positionAt W hw (fun v40_ hw => ?_) rfl ((wf_live W l0 3 0 rfl) _ e39_)
      exact hj4_ _ hw
def z_X8_visitEntries (zv : Nat → Int32 → St → (St → Prop) → Prop) (N : Nat) (a0 : Nat) (p1 : Int32) (p2 : Option Nat) (p3 : Option Nat) (h0 : St) (K : St → Prop) : Prop :=
  z_X8_greatestWanted N a0 p1 h0 fun v1 =>
  z_X8_leastWanted N a0 p1 h0 fun v2 =>
  nn p3 fun a3 =>
  z_X3_firstFrom N a3 v2 h0 fun v4 =>
  fx3 (fun (w25 : Int32 → Int32 → St → Prop) (x6 : Int32) (x7 : Int32) (h5 : St) =>
    z_X3_size N a3 h5 fun v8 =>
    jn (
      br (x6 = (-1)) (
        z_X3_size N a3 h5 fun v9 =>
        z_X11_leafKey N (some a3) (if (v9 - 1) < v4 then (v9 - 1) else v4) h5 fun v10 =>
        z_X8_readOne N a0 v10 h5 fun h11 =>
        K h11) (
        K h5)) (fun j102 =>
      br (v8 ≤ x7) (
        j102 ) (
        z_X3_valueAt N a3 x7 h5 fun v12 =>
        br (v1 < v12) (
          j102 ) (
          z_X11_leafKey N (some a3) x7 h5 fun v13 =>
          jn (fun (x15 : Int32) (h14 : St) =>
            z_X3_rowAt N a3 x7 h14 fun v16 =>
            z_X11_pageKey N p2 v16 h14 fun v17 =>
            z_X8_readOne N a0 v17 h14 fun h18 =>
            z_X8_visitRow zv N a0 p1 p2 v16 h18 fun h19 =>
            w25 x15 (x7 + 1) h19) (fun j70 =>
            br (v13 = x6) (
              j70 x6 h5) (
              z_X8_readOne N a0 v13 h5 fun h20 =>
              j70 v13 h20)))))) N (-1) v4 h0
set_option maxHeartbeats 1000000 in
theorem y_X8_visitEntries {ad : Nat → Nat → Nat → Nat} {h : Hp} {V : Nat → Nat} {h0 : St} {N : Nat} {wv : Nat → Int32 → Hp → (Hp → Prop) → Prop} {zv : Nat → Int32 → St → (St → Prop) → Prop} (hv : ∀ {h : Hp} {h0 : St} (_ : Wf ad h V h0) {a0 a0_ : Nat} {p1 : Int32} {K : Hp → Prop} {K9 : St → Prop} (_ : zv a0_ p1 h0 K9) (_ : ∀ (h9 : Hp) (s9 : St), Wf ad h9 V s9 → K9 s9 → K h9) (_ : a0 = ad 8 a0_ 0) (_ : a0_ < V 8), wv a0 p1 h K) (W : Wf ad h V h0) {a0 a0_ : Nat} {p1 : Int32} {p2 p2_ : Option Nat} {p3 p3_ : Option Nat} {K : Hp → Prop} {K9 : St → Prop} (hw : z_X8_visitEntries zv N a0_ p1 p2_ p3_ h0 K9) (hk : ∀ (h9 : Hp) (s9 : St), Wf ad h9 V s9 → K9 s9 →  K h9) (e0 : a0 = ad 8 a0_ 0) (l0 : a0_ < V 8) (e_p2 : p2 = p2_.map (fun j => ad 10 j 0)) (l_p2 : ∀ r, p2_ = some r → r < V 10) (e_p3 : p3 = p3_.map (fun j => ad 3 j 0)) (l_p3 : ∀ r, p3_ = some r → r < V 3) : w_X8_visitEntries wv N a0 p1 p2 p3 h K := by
  subst e0 e_p2 e_p3
  unfold z_X8_visitEntries at hw
  unfold w_X8_visitEntries
  refine l_cv W rfl l0 rfl ?_
  refine y_X8_greatestWanted W hw (fun v1_ hw => ?_) rfl l0
  refine l_cv W rfl l0 rfl ?_
  refine y_X8_leastWanted W hw (fun v2_ hw => ?_) rfl l0
  refine l_nn hw (fun i3_ e4_ hw => ?_)
  refine l_cv W rfl (l_p3 _ e4_) rfl ?_
  refine y_X3_firstFrom W hw (fun v5_ hw => ?_) rfl (l_p3 _ e4_)
  refine l_fx3 (fun (r : Int32 → Int32 → Hp → Prop) (r9 : Int32 → Int32 → St → Prop) => ∀ (x0 : Int32), ∀ (x1 : Int32), ∀ (h9 : Hp) (s9 : St), Wf ad h9 V s9 → r9 x0 x1 s9 → r x0 x1 h9) (fun _ _ _ _ _ h9_ => h9_.elim) ?_ N _ _ _ _ W hw
  intro w12_ w13_ hv11_ x6_ x7_ h9_ s10_ W8_ hw
  refine l_cv W8_ rfl (l_p3 _ e4_) rfl ?_
  refine y_X3_size W8_ hw (fun v14_ hw => ?_) rfl (l_p3 _ e4_)
  refine l_jn (fun (r : Prop) (r9 : Prop) =>  r9  → r ) hw ?_ (fun j15_ j16_ hj17_ hw => ?_)
  ·
    intro hw
    refine l_br hw (fun _ hw => ?_) (fun _ hw => ?_)
    ·
      refine l_cv W8_ rfl (l_p3 _ e4_) rfl ?_
      refine y_X3_size W8_ hw (fun v18_ hw => ?_) rfl (l_p3 _ e4_)
      refine y_X11_leafKey W8_ hw (fun v19_ hw => ?_) rfl (lv_some (l_p3 _ e4_))
      refine l_cv W8_ rfl l0 rfl ?_
      refine y_X8_readOne W8_ hw (fun h21_ s22_ W20_ hw => ?_) rfl l0
      exact hk _ _ W20_ hw
    ·
      exact hk _ _ W8_ hw
  ·
    refine l_br hw (fun _ hw => ?_) (fun _ hw => ?_)
    ·
      exact hj17_  hw
    ·
      refine l_cv W8_ rfl (l_p3 _ e4_) rfl ?_
      refine y_X3_valueAt W8_ hw (fun v23_ hw => ?_) rfl (l_p3 _ e4_)
      refine l_br hw (fun _ hw => ?_) (fun _ hw => ?_)
      ·
        exact hj17_  hw
      ·
        refine y_X11_leafKey W8_ hw (fun v24_ hw => ?_) rfl (lv_some (l_p3 _ e4_))
        refine l_jn (fun (r : Int32 → Hp → Prop) (r9 : Int32 → St → Prop) => ∀ (x0 : Int32), ∀ (h9 : Hp) (s9 : St), Wf ad h9 V s9 → r9 x0 s9 → r x0 h9) hw ?_ (fun j29_ j30_ hj31_ hw => ?_)
        ·
          intro x25_ h27_ s28_ W26_ hw
          refine l_cv W26_ rfl (l_p3 _ e4_) rfl ?_
          refine y_X3_rowAt W26_ hw (fun v32_ hw => ?_) rfl (l_p3 _ e4_)
          refine y_X11_pageKey W26_ hw (fun v33_ hw => ?_) rfl l_p2
          refine l_cv W26_ rfl l0 rfl ?_
          refine y_X8_readOne W26_ hw (fun h35_ s36_ W34_ hw => ?_) rfl l0
          refine l_cv W34_ rfl l0 rfl ?_
          refine y_X8_visitRow hv W34_ hw (fun h38_ s39_ W37_ hw => ?_) rfl l0 rfl l_p2
          exact hv11_ _ _ _ _ W37_ hw
        ·
          refine l_br hw (fun _ hw => ?_) (fun _ hw => ?_)
          ·
            exact hj31_ _ _ _ W8_ hw
          ·
            refine l_cv W8_ rfl l0 rfl ?_
            refine y_X8_readOne W8_ hw (fun h41_ s42_ W40_ hw => ?_) rfl l0
            exact hj31_ _ _ _ W40_ hw
def z_X8_visitPages (zv : Nat → Int32 → St → (St → Prop) → Prop) (N : Nat) (a0 : Nat) (p1 : Int32) (p2 : Option Nat) (h0 : St) (K : St → Prop) : Prop :=
  nn p2 fun a1 =>
  z_X10_rowsEver N a1 h0 fun v2 =>
  fx2 (fun (w13 : Int32 → St → Prop) (x4 : Int32) (h3 : St) =>
    br ((if 40 < v2 then 40 else v2) ≤ x4) (
      K h3) (
      jn (fun (h5 : St) =>
        z_X8_visitRow zv N a0 p1 (some a1) x4 h5 fun h6 =>
        w13 (x4 + 1) h6) (fun j36 =>
        br ((x4 - x4 / 4 * 4) = 0) (
          z_X11_pageKey N (some a1) x4 h3 fun v7 =>
          z_X8_readOne N a0 v7 h3 fun h8 =>
          j36 h8) (
          j36 h3)))) N 0 h0
set_option maxHeartbeats 1000000 in
theorem y_X8_visitPages {ad : Nat → Nat → Nat → Nat} {h : Hp} {V : Nat → Nat} {h0 : St} {N : Nat} {wv : Nat → Int32 → Hp → (Hp → Prop) → Prop} {zv : Nat → Int32 → St → (St → Prop) → Prop} (hv : ∀ {h : Hp} {h0 : St} (_ : Wf ad h V h0) {a0 a0_ : Nat} {p1 : Int32} {K : Hp → Prop} {K9 : St → Prop} (_ : zv a0_ p1 h0 K9) (_ : ∀ (h9 : Hp) (s9 : St), Wf ad h9 V s9 → K9 s9 → K h9) (_ : a0 = ad 8 a0_ 0) (_ : a0_ < V 8), wv a0 p1 h K) (W : Wf ad h V h0) {a0 a0_ : Nat} {p1 : Int32} {p2 p2_ : Option Nat} {K : Hp → Prop} {K9 : St → Prop} (hw : z_X8_visitPages zv N a0_ p1 p2_ h0 K9) (hk : ∀ (h9 : Hp) (s9 : St), Wf ad h9 V s9 → K9 s9 →  K h9) (e0 : a0 = ad 8 a0_ 0) (l0 : a0_ < V 8) (e_p2 : p2 = p2_.map (fun j => ad 10 j 0)) (l_p2 : ∀ r, p2_ = some r → r < V 10) : w_X8_visitPages wv N a0 p1 p2 h K := by
  subst e0 e_p2
  unfold z_X8_visitPages at hw
  unfold w_X8_visitPages
  refine l_nn hw (fun i1_ e2_ hw => ?_)
  refine l_cv W rfl (l_p2 _ e2_) rfl ?_
  refine y_X10_rowsEver W hw (fun v3_ hw => ?_) rfl (l_p2 _ e2_)
  refine l_fx2 (fun (r : Int32 → Hp → Prop) (r9 : Int32 → St → Prop) => ∀ (x0 : Int32), ∀ (h9 : Hp) (s9 : St), Wf ad h9 V s9 → r9 x0 s9 → r x0 h9) (fun _ _ _ _ h9_ => h9_.elim) ?_ N _ _ _ W hw
  intro w9_ w10_ hv8_ x4_ h6_ s7_ W5_ hw
  refine l_br hw (fun _ hw => ?_) (fun _ hw => ?_)
  ·
    exact hk _ _ W5_ hw
  ·
    refine l_jn (fun (r : Hp → Prop) (r9 : St → Prop) => ∀ (h9 : Hp) (s9 : St), Wf ad h9 V s9 → r9 s9 → r h9) hw ?_ (fun j14_ j15_ hj16_ hw => ?_)
    ·
      intro h12_ s13_ W11_ hw
      refine l_cv W11_ rfl l0 rfl ?_
      refine y_X8_visitRow hv W11_ hw (fun h18_ s19_ W17_ hw => ?_) rfl l0 rfl (lv_some (l_p2 _ e2_))
      exact hv8_ _ _ _ W17_ hw
    ·
      refine l_br hw (fun _ hw => ?_) (fun _ hw => ?_)
      ·
        refine y_X11_pageKey W5_ hw (fun v20_ hw => ?_) rfl (lv_some (l_p2 _ e2_))
        refine l_cv W5_ rfl l0 rfl ?_
        refine y_X8_readOne W5_ hw (fun h22_ s23_ W21_ hw => ?_) rfl l0
        exact hj16_ _ _ W21_ hw
      ·
        exact hj16_ _ _ W5_ hw
def z_X8_visit (N : Nat) : Nat → Nat → Int32 → St → (St → Prop) → Prop
  | 0 => fun _ _ _ _ => False
  | d + 1 => fun a0 p1 h0 K =>
  brn (sQ h0 8 a0 3 0) (
    K h0) (fun a2 =>
    brn (sQ h0 8 a0 2 0) (
      K h0) (fun a4 =>
      br (p1 < 0) (
        K h0) (
        nn (sQ h0 8 a0 3 0) fun a6 =>
        z_X5_size N a6 h0 fun v7 =>
        br (p1 < v7) (
          nn (sQ h0 8 a0 3 0) fun a10 =>
          z_X5_positionAt N a10 p1 h0 fun v11 =>
          nn (sQ h0 8 a0 2 0) fun a12 =>
          z_X7_tableOf N a12 v11 h0 fun o13 =>
          jn (fun (o15 : Option Nat) =>
            jn (
              brn o13 (
                K h0) (fun a16 =>
                brn o15 (
                  K h0) (fun a17 =>
                  z_X3_size N a17 h0 fun v18 =>
                  br (v18 ≤ 0) (
                    K h0) (
                    z_X8_visitEntries (z_X8_visit N d) N a0 p1 (some a16) (some a17) h0 fun h19 =>
                    K h19)))) (fun j99 =>
              brn o13 (
                j99 ) (fun a20 =>
                nn (sQ h0 8 a0 3 0) fun a22 =>
                z_X5_wayAt N a22 p1 h0 fun v23 =>
                br (v23 = 102) (
                  z_X8_visitPages (z_X8_visit N d) N a0 p1 (some a20) h0 fun h24 =>
                  K h24) (
                  j99 )))) (fun j72 =>
            brn (sQ h0 8 a0 1 0) (
              j72 none) (fun a25 =>
              nn (sQ h0 8 a0 3 0) fun a28 =>
              z_X5_indexAt N a28 p1 h0 fun v29 =>
              nn (sQ h0 8 a0 1 0) fun a30 =>
              z_X9_indexAt N a30 v29 h0 fun o31 =>
              j72 o31))) (
          K h0))))
set_option maxHeartbeats 1000000 in
theorem y_X8_visit {ad : Nat → Nat → Nat → Nat} {V : Nat → Nat} (N : Nat) : ∀ (d : Nat) {h : Hp} {h0 : St} (W : Wf ad h V h0) {a0 a0_ : Nat} {p1 : Int32} {K : Hp → Prop} {K9 : St → Prop} (hw : z_X8_visit N d a0_ p1 h0 K9) (hk : ∀ (h9 : Hp) (s9 : St), Wf ad h9 V s9 → K9 s9 → K h9) (e0 : a0 = ad 8 a0_ 0) (l0 : a0_ < V 8), w_X8_visit N d a0 p1 h K
  | 0, _, _, _, _, _, _, _, _, hw, _, _, _ => hw.elim
  | d + 1, _, _, W, _, _, _, _, _, hw, hk, e0, l0 => by
    subst e0
    simp only [z_X8_visit] at hw
    simp only [w_X8_visit]
    refine l_gR W rfl l0 rfl (t := 5) rfl ?_
    refine l_brn hw (fun e3_ hw => ?_) (fun i1_ e2_ hw => ?_)
    ·
      exact hk _ _ W hw
    ·
      refine l_gR W rfl l0 rfl (t := 7) rfl ?_
      refine l_brn hw (fun e6_ hw => ?_) (fun i4_ e5_ hw => ?_)
      ·
        exact hk _ _ W hw
      ·
        refine l_br hw (fun _ hw => ?_) (fun _ hw => ?_)
        ·
          exact hk _ _ W hw
        ·
          refine l_gR W rfl l0 rfl (t := 5) rfl ?_
          refine l_nn hw (fun i7_ e8_ hw => ?_)
          refine l_cv W rfl ((wf_live W l0 3 0 rfl) _ e8_) rfl ?_
          refine y_X5_size W hw (fun v9_ hw => ?_) rfl ((wf_live W l0 3 0 rfl) _ e8_)
          refine l_br hw (fun _ hw => ?_) (fun _ hw => ?_)
          ·
            refine l_gR W rfl l0 rfl (t := 7) rfl ?_
            refine l_gR W rfl l0 rfl (t := 5) rfl ?_
            refine l_nn hw (fun i10_ e11_ hw => ?_)
            refine l_cv W rfl ((wf_live W l0 3 0 rfl) _ e11_) rfl ?_
            refine y_X5_positionAt W hw (fun v12_ hw => ?_) rfl ((wf_live W l0 3 0 rfl) _ e11_)
            refine l_nn hw (fun i13_ e14_ hw => ?_)
            refine l_cv W rfl ((wf_live W l0 2 0 rfl) _ e14_) rfl ?_
            refine y_X7_tableOf W hw (@fun o16_ u18_ lp15_ hw e17_ => ?_) rfl ((wf_live W l0 2 0 rfl) _ e14_)
            subst e17_
            refine l_gR W rfl l0 rfl (t := 9) rfl ?_
            refine l_jn (fun (r : Option Nat → Prop) (r9 : Option Nat → Prop) => ∀ (o0 u0 : Option Nat), (∀ r, o0 = some r → r < V 3) → u0 = o0.map (fun j => ad 3 j 0) → r9 o0 → r u0) hw ?_ (fun j23_ j24_ hj25_ hw => ?_)
            ·
              intro o20_ u21_ lp19_ e22_ hw
              subst e22_
              refine l_jn (fun (r : Prop) (r9 : Prop) =>  r9  → r ) hw ?_ (fun j26_ j27_ hj28_ hw => ?_)
              ·
                intro hw
                refine l_brn hw (fun e31_ hw => ?_) (fun i29_ e30_ hw => ?_)
                ·
                  exact hk _ _ W hw
                ·
                  refine l_brn hw (fun e34_ hw => ?_) (fun i32_ e33_ hw => ?_)
                  ·
                    exact hk _ _ W hw
                  ·
                    refine l_cv W rfl (lp19_ _ e33_) rfl ?_
                    refine y_X3_size W hw (fun v35_ hw => ?_) rfl (lp19_ _ e33_)
                    refine l_br hw (fun _ hw => ?_) (fun _ hw => ?_)
                    ·
                      exact hk _ _ W hw
                    ·
                      refine l_cv W rfl l0 rfl ?_
                      refine y_X8_visitEntries (@fun h_ s_ W_ a_ b_ p_ K_ K9_ hw_ hk_ e_ l_ => y_X8_visit N d W_ hw_ hk_ e_ l_) W hw (fun h37_ s38_ W36_ hw => ?_) rfl l0 rfl (lv_some (lp15_ _ e30_)) rfl (lv_some (lp19_ _ e33_))
                      exact hk _ _ W36_ hw
              ·
                refine l_brn hw (fun e41_ hw => ?_) (fun i39_ e40_ hw => ?_)
                ·
                  exact hj28_  hw
                ·
                  refine l_gR W rfl l0 rfl (t := 5) rfl ?_
                  refine l_nn hw (fun i42_ e43_ hw => ?_)
                  refine l_cv W rfl ((wf_live W l0 3 0 rfl) _ e43_) rfl ?_
                  refine y_X5_wayAt W hw (fun v44_ hw => ?_) rfl ((wf_live W l0 3 0 rfl) _ e43_)
                  refine l_br hw (fun _ hw => ?_) (fun _ hw => ?_)
                  ·
                    refine l_cv W rfl l0 rfl ?_
                    refine y_X8_visitPages (@fun h_ s_ W_ a_ b_ p_ K_ K9_ hw_ hk_ e_ l_ => y_X8_visit N d W_ hw_ hk_ e_ l_) W hw (fun h46_ s47_ W45_ hw => ?_) rfl l0 rfl (lv_some (lp15_ _ e40_))
                    exact hk _ _ W45_ hw
                  ·
                    exact hj28_  hw
            ·
              refine l_brn hw (fun e50_ hw => ?_) (fun i48_ e49_ hw => ?_)
              ·
                exact hj25_ _ _ lv_none rfl hw
              ·
                refine l_gR W rfl l0 rfl (t := 9) rfl ?_
                refine l_gR W rfl l0 rfl (t := 5) rfl ?_
                refine l_nn hw (fun i51_ e52_ hw => ?_)
                refine l_cv W rfl ((wf_live W l0 3 0 rfl) _ e52_) rfl ?_
                refine y_X5_indexAt W hw (fun v53_ hw => ?_) rfl ((wf_live W l0 3 0 rfl) _ e52_)
                refine l_nn hw (fun i54_ e55_ hw => ?_)
                refine l_cv W rfl ((wf_live W l0 1 0 rfl) _ e55_) rfl ?_
                refine y_X9_indexAt W hw (@fun o57_ u59_ lp56_ hw e58_ => ?_) rfl ((wf_live W l0 1 0 rfl) _ e55_)
                subst e58_
                exact hj25_ _ _ lp56_ rfl hw
          ·
            exact hk _ _ W hw
def z_X8_follow (N : Nat) (a0 : Nat) (p1 : Option Nat) (p2 : Option Nat) (p3 : Option Nat) (p4 : Option Nat) (h0 : St) (K : Int32 → St → Prop) : Prop :=
  z_X8_begin N a0 p2 p3 h0 fun h1 =>
  lt_ (stQ h1 8 a0 1 0 p1) fun h2 =>
  lt_ (stQ h2 8 a0 4 0 p4) fun h3 =>
  z_X8_visit N 4 a0 0 h3 fun h4 =>
  K (sP h4 8 a0 8 0) h4
set_option maxHeartbeats 1000000 in
theorem y_X8_follow {ad : Nat → Nat → Nat → Nat} {h : Hp} {V : Nat → Nat} {h0 : St} {N : Nat} (W : Wf ad h V h0) {a0 a0_ : Nat} {p1 p1_ : Option Nat} {p2 p2_ : Option Nat} {p3 p3_ : Option Nat} {p4 p4_ : Option Nat} {K : Int32 → Hp → Prop} {K9 : Int32 → St → Prop} (hw : z_X8_follow N a0_ p1_ p2_ p3_ p4_ h0 K9) (hk : ∀ (r0 : Int32), ∀ (h9 : Hp) (s9 : St), Wf ad h9 V s9 → K9 r0 s9 →  K r0 h9) (e0 : a0 = ad 8 a0_ 0) (l0 : a0_ < V 8) (e_p1 : p1 = p1_.map (fun j => ad 9 j 0)) (l_p1 : ∀ r, p1_ = some r → r < V 9) (e_p2 : p2 = p2_.map (fun j => ad 7 j 0)) (l_p2 : ∀ r, p2_ = some r → r < V 7) (e_p3 : p3 = p3_.map (fun j => ad 5 j 0)) (l_p3 : ∀ r, p3_ = some r → r < V 5) (e_p4 : p4 = p4_.map (fun j => ad 0 j 0)) (l_p4 : ∀ r, p4_ = some r → r < V 0) : w_X8_follow N a0 p1 p2 p3 p4 h K := by
  subst e0 e_p1 e_p2 e_p3 e_p4
  unfold z_X8_follow at hw
  unfold w_X8_follow
  refine l_cv W rfl l0 rfl ?_
  refine y_X8_begin W hw (fun h2_ s3_ W1_ hw => ?_) rfl l0 rfl l_p2 rfl l_p3
  refine l_pR W1_ rfl l0 rfl (t := 9) rfl hw rfl l_p1 (fun h5_ W4_ hw => ?_)
  refine l_pR W4_ rfl l0 rfl (t := 0) rfl hw rfl l_p4 (fun h7_ W6_ hw => ?_)
  refine l_cv W6_ rfl l0 rfl ?_
  refine y_X8_visit N 4 W6_ hw (fun h9_ s10_ W8_ hw => ?_) rfl l0
  refine l_gI W8_ rfl l0 rfl ?_
  exact hk _ _ _ W8_ hw
def z_X8_tryAllRows (N : Nat) (a0 : Nat) (p1 : Option Nat) (p2 : Int32) (p3 : Int32) (p4 : Int32) (h0 : St) (K : St → Prop) : Prop :=
  nn (sQ h0 8 a0 0 0) fun a1 =>
  nn p1 fun a2 =>
  z_X7_size N a2 h0 fun v3 =>
  z_X5_takeOrder N a1 0 v3 h0 fun v4 h5 =>
  nn (sQ h5 8 a0 0 0) fun a6 =>
  z_X8_begin N a0 (some a2) (some a6) h5 fun h7 =>
  lt_ (stP h7 8 a0 11 0 p2) fun h8 =>
  lt_ (stP h8 8 a0 12 0 p3) fun h9 =>
  lt_ (stP h9 8 a0 13 0 p4) fun h10 =>
  z_X8_visit N 4 a0 0 h10 fun h11 =>
  K h11
set_option maxHeartbeats 1000000 in
theorem y_X8_tryAllRows {ad : Nat → Nat → Nat → Nat} {h : Hp} {V : Nat → Nat} {h0 : St} {N : Nat} (W : Wf ad h V h0) {a0 a0_ : Nat} {p1 p1_ : Option Nat} {p2 : Int32} {p3 : Int32} {p4 : Int32} {K : Hp → Prop} {K9 : St → Prop} (hw : z_X8_tryAllRows N a0_ p1_ p2 p3 p4 h0 K9) (hk : ∀ (h9 : Hp) (s9 : St), Wf ad h9 V s9 → K9 s9 →  K h9) (e0 : a0 = ad 8 a0_ 0) (l0 : a0_ < V 8) (e_p1 : p1 = p1_.map (fun j => ad 7 j 0)) (l_p1 : ∀ r, p1_ = some r → r < V 7) : w_X8_tryAllRows N a0 p1 p2 p3 p4 h K := by
  subst e0 e_p1
  unfold z_X8_tryAllRows at hw
  unfold w_X8_tryAllRows
  refine l_gO W rfl l0 rfl (t := 5) rfl hw (fun i2_ l1_ hw => ?_)
  refine l_nn hw (fun i3_ e4_ hw => ?_)
  refine l_cv W rfl (l_p1 _ e4_) rfl ?_
  refine y_X7_size W hw (fun v5_ hw => ?_) rfl (l_p1 _ e4_)
  refine l_cv W rfl l1_ rfl ?_
  refine y_X5_takeOrder W hw (fun v6_ h8_ s9_ W7_ hw => ?_) rfl l1_
  refine l_gO W7_ rfl l0 rfl (t := 5) rfl hw (fun i11_ l10_ hw => ?_)
  refine l_cv W7_ rfl l0 rfl ?_
  refine y_X8_begin W7_ hw (fun h13_ s14_ W12_ hw => ?_) rfl l0 rfl (lv_some (l_p1 _ e4_)) rfl (lv_some l10_)
  refine l_pI W12_ rfl l0 rfl hw (fun h16_ W15_ hw => ?_)
  refine l_pI W15_ rfl l0 rfl hw (fun h18_ W17_ hw => ?_)
  refine l_pI W17_ rfl l0 rfl hw (fun h20_ W19_ hw => ?_)
  refine l_cv W19_ rfl l0 rfl ?_
  refine y_X8_visit N 4 W19_ hw (fun h22_ s23_ W21_ hw => ?_) rfl l0
  exact hk _ _ W21_ hw
def z_X11_table (N : Nat) (a0 : Nat) (p1 : Int32) (h0 : St) (K : Int32 → St → Prop) (KX : String → St → Prop) : Prop :=
  br (p1 < 1) (
    KX "java/lang/IllegalArgumentException" h0) (
    br (p1 ≤ 3) (
      nn (sQ h0 11 a0 0 0) fun a1 =>
      z_X9_addTable N a1 p1 h0 fun v2 h3 =>
      br (v2 = (-1)) (
        KX "java/lang/IllegalStateException" h3) (
        nn (sQ h3 11 a0 11 0) fun a4 =>
        z_X2_closeAppeals N a4 h3 fun h5 =>
        K v2 h5)) (
      KX "java/lang/IllegalArgumentException" h0))
set_option maxHeartbeats 1000000 in
theorem y_X11_table {ad : Nat → Nat → Nat → Nat} {h : Hp} {V : Nat → Nat} {h0 : St} {N : Nat} (W : Wf ad h V h0) {a0 a0_ : Nat} {p1 : Int32} {K : Int32 → Hp → Prop} {K9 : Int32 → St → Prop} {KX : String → Hp → Prop} {KX9 : String → St → Prop} (hw : z_X11_table N a0_ p1 h0 K9 KX9) (hk : ∀ (r0 : Int32), ∀ (ad9 : Nat → Nat → Nat → Nat) (V9 : Nat → Nat) (h9 : Hp) (s9 : St), Wf ad9 h9 V9 s9 → Ext ad V ad9 V9 → K9 r0 s9 →  K r0 h9) (hkx : ∀ (E : String) (ad9 : Nat → Nat → Nat → Nat) (V9 : Nat → Nat) (h9 : Hp) (s9 : St), Wf ad9 h9 V9 s9 → Ext ad V ad9 V9 → KX9 E s9 → KX E h9) (e0 : a0 = ad 11 a0_ 0) (l0 : a0_ < V 11) : w_X11_table N a0 p1 h K KX := by
  subst e0
  unfold z_X11_table at hw
  unfold w_X11_table
  refine l_br hw (fun _ hw => ?_) (fun _ hw => ?_)
  ·
    exact hkx _ _ _ _ _ W (ext_refl ad V) hw
  ·
    refine l_br hw (fun _ hw => ?_) (fun _ hw => ?_)
    ·
      refine l_gO W rfl l0 rfl (t := 9) rfl hw (fun i2_ l1_ hw => ?_)
      refine l_cv W rfl l1_ rfl ?_
      refine y_X9_addTable W hw (fun v3_ ad7_ V8_ h5_ s6_ W4_ E9_ hw => ?_) rfl l1_
      refine l_br hw (fun _ hw => ?_) (fun _ hw => ?_)
      ·
        exact hkx _ _ _ _ _ W4_ (ext_trans (ext_refl ad V) E9_) hw
      ·
        refine l_gO W4_ (ext_o E9_ rfl l0 rfl) (ext_l E9_ l0) rfl (t := 2) rfl hw (fun i11_ l10_ hw => ?_)
        refine l_cv W4_ rfl l10_ rfl ?_
        refine y_X2_closeAppeals W4_ hw (fun h13_ s14_ W12_ hw => ?_) rfl l10_
        exact hk _ _ _ _ _ W12_ (ext_trans (ext_refl ad V) E9_) hw
    ·
      exact hkx _ _ _ _ _ W (ext_refl ad V) hw
def z_X11_needTable (N : Nat) (a0 : Nat) (p1 : Int32) (h0 : St) (K : Option Nat → St → Prop) (KX : String → St → Prop) : Prop :=
  nn (sQ h0 11 a0 0 0) fun a1 =>
  z_X9_tableAt N a1 p1 h0 fun o2 =>
  brn o2 (
    KX "java/lang/IndexOutOfBoundsException" h0) (fun a3 =>
    K (some a3) h0)
set_option maxHeartbeats 1000000 in
theorem y_X11_needTable {ad : Nat → Nat → Nat → Nat} {h : Hp} {V : Nat → Nat} {h0 : St} {N : Nat} (W : Wf ad h V h0) {a0 a0_ : Nat} {p1 : Int32} {K : Option Nat → Hp → Prop} {K9 : Option Nat → St → Prop} {KX : String → Hp → Prop} {KX9 : String → St → Prop} (hw : z_X11_needTable N a0_ p1 h0 K9 KX9) (hk : ∀ {o9 u9 : Option Nat}, (∀ r, o9 = some r → r < V 10) → ∀ (h9 : Hp) (s9 : St), Wf ad h9 V s9 → K9 o9 s9 → u9 = o9.map (fun j => ad 10 j 0) → K u9 h9) (hkx : ∀ (E : String) (h9 : Hp) (s9 : St), Wf ad h9 V s9 → KX9 E s9 → KX E h9) (e0 : a0 = ad 11 a0_ 0) (l0 : a0_ < V 11) : w_X11_needTable N a0 p1 h K KX := by
  subst e0
  unfold z_X11_needTable at hw
  unfold w_X11_needTable
  refine l_gO W rfl l0 rfl (t := 9) rfl hw (fun i2_ l1_ hw => ?_)
  refine l_cv W rfl l1_ rfl ?_
  refine y_X9_tableAt W hw (@fun o4_ u6_ lp3_ hw e5_ => ?_) rfl l1_
  subst e5_
  refine l_brn hw (fun e9_ hw => ?_) (fun i7_ e8_ hw => ?_)
  ·
    exact hkx _ _ _ W hw
  ·
    exact hk (lv_some (lp3_ _ e8_)) _ _ W hw rfl
def z_X11_bound (N : Nat) (a0 : Nat) (p1 : Int32) (p2 : Int32) (p3 : Int32) (p4 : Int32) (h0 : St) (K : Int32 → St → Prop) (KX : String → St → Prop) : Prop :=
  z_X11_needTable N a0 p1 h0 (fun o1 h2 =>
  nn o1 fun a3 =>
  z_X10_hasColumn N a3 p2 h2 fun v4 =>
  br (v4 = 0) (
    KX "java/lang/IllegalArgumentException" h2) (
    z_X11_isValue N p3 h2 fun v5 =>
    br (v5 = 0) (
      KX "java/lang/IllegalArgumentException" h2) (
      z_X11_isValue N p4 h2 fun v6 =>
      br (v6 = 0) (
        KX "java/lang/IllegalArgumentException" h2) (
        br (p3 ≤ p4) (
          z_X10_setBounds N a3 p2 p3 p4 h2 fun h7 =>
          nn (sQ h7 11 a0 11 0) fun a8 =>
          z_X2_closeAppeals N a8 h7 fun h9 =>
          z_X10_rowsBeyondBounds N a3 p2 h9 fun v10 =>
          K v10 h9) (
          KX "java/lang/IllegalArgumentException" h2))))) KX
set_option maxHeartbeats 1000000 in
theorem y_X11_bound {ad : Nat → Nat → Nat → Nat} {h : Hp} {V : Nat → Nat} {h0 : St} {N : Nat} (W : Wf ad h V h0) {a0 a0_ : Nat} {p1 : Int32} {p2 : Int32} {p3 : Int32} {p4 : Int32} {K : Int32 → Hp → Prop} {K9 : Int32 → St → Prop} {KX : String → Hp → Prop} {KX9 : String → St → Prop} (hw : z_X11_bound N a0_ p1 p2 p3 p4 h0 K9 KX9) (hk : ∀ (r0 : Int32), ∀ (h9 : Hp) (s9 : St), Wf ad h9 V s9 → K9 r0 s9 →  K r0 h9) (hkx : ∀ (E : String) (h9 : Hp) (s9 : St), Wf ad h9 V s9 → KX9 E s9 → KX E h9) (e0 : a0 = ad 11 a0_ 0) (l0 : a0_ < V 11) : w_X11_bound N a0 p1 p2 p3 p4 h K KX := by
  subst e0
  unfold z_X11_bound at hw
  unfold w_X11_bound
  refine l_cv W rfl l0 rfl ?_
  refine y_X11_needTable W hw (@fun o2_ u4_ lp1_ h6_ s7_ W5_ hw e3_ => ?_) (fun _ _ _ W9 h9 => hkx _ _ _ W9 h9) rfl l0
  subst e3_
  refine l_nn hw (fun i8_ e9_ hw => ?_)
  refine l_cv W5_ rfl (lp1_ _ e9_) rfl ?_
  refine y_X10_hasColumn W5_ hw (fun v10_ hw => ?_) rfl (lp1_ _ e9_)
  refine l_br hw (fun _ hw => ?_) (fun _ hw => ?_)
  ·
    exact hkx _ _ _ W5_ hw
  ·
    refine y_X11_isValue W5_ hw (fun v11_ hw => ?_) 
    refine l_br hw (fun _ hw => ?_) (fun _ hw => ?_)
    ·
      exact hkx _ _ _ W5_ hw
    ·
      refine y_X11_isValue W5_ hw (fun v12_ hw => ?_) 
      refine l_br hw (fun _ hw => ?_) (fun _ hw => ?_)
      ·
        exact hkx _ _ _ W5_ hw
      ·
        refine l_br hw (fun _ hw => ?_) (fun _ hw => ?_)
        ·
          refine l_cv W5_ rfl (lp1_ _ e9_) rfl ?_
          refine y_X10_setBounds W5_ hw (fun h14_ s15_ W13_ hw => ?_) rfl (lp1_ _ e9_)
          refine l_gO W13_ rfl l0 rfl (t := 2) rfl hw (fun i17_ l16_ hw => ?_)
          refine l_cv W13_ rfl l16_ rfl ?_
          refine y_X2_closeAppeals W13_ hw (fun h19_ s20_ W18_ hw => ?_) rfl l16_
          refine l_cv W18_ rfl (lp1_ _ e9_) rfl ?_
          refine y_X10_rowsBeyondBounds W18_ hw (fun v21_ hw => ?_) rfl (lp1_ _ e9_)
          exact hk _ _ _ W18_ hw
        ·
          exact hkx _ _ _ W5_ hw
def z_X11_forgetRow (N : Nat) (a0 : Nat) (p1 : Option Nat) (p2 : Int32) (h0 : St) (K : St → Prop) : Prop :=
  z_X11_pageKey N p1 p2 h0 fun v1 =>
  nn (sQ h0 11 a0 3 0) fun a2 =>
  z_X0_drop N a2 v1 v1 h0 fun h3 =>
  fx2 (fun (w18 : Int32 → St → Prop) (x5 : Int32) (h4 : St) =>
    br (6 ≤ x5) (
      K h4) (
      nn (sQ h4 11 a0 0 0) fun a6 =>
      z_X9_indexAt N a6 x5 h4 fun o7 =>
      jn (fun (h8 : St) =>
        w18 (x5 + 1) h8) (fun j74 =>
        brn o7 (
          j74 h4) (fun a9 =>
          z_X3_isOf N a9 p1 h4 fun v10 =>
          br (v10 = 0) (
            j74 h4) (
            z_X11_leafKey N (some a9) 0 h4 fun v11 =>
            nn (sQ h4 11 a0 3 0) fun a12 =>
            z_X0_drop N a12 v11 ((v11 + 100) - 1) h4 fun h13 =>
            j74 h13))))) N 0 h3
set_option maxHeartbeats 1000000 in
theorem y_X11_forgetRow {ad : Nat → Nat → Nat → Nat} {h : Hp} {V : Nat → Nat} {h0 : St} {N : Nat} (W : Wf ad h V h0) {a0 a0_ : Nat} {p1 p1_ : Option Nat} {p2 : Int32} {K : Hp → Prop} {K9 : St → Prop} (hw : z_X11_forgetRow N a0_ p1_ p2 h0 K9) (hk : ∀ (h9 : Hp) (s9 : St), Wf ad h9 V s9 → K9 s9 →  K h9) (e0 : a0 = ad 11 a0_ 0) (l0 : a0_ < V 11) (e_p1 : p1 = p1_.map (fun j => ad 10 j 0)) (l_p1 : ∀ r, p1_ = some r → r < V 10) : w_X11_forgetRow N a0 p1 p2 h K := by
  subst e0 e_p1
  unfold z_X11_forgetRow at hw
  unfold w_X11_forgetRow
  refine y_X11_pageKey W hw (fun v1_ hw => ?_) rfl l_p1
  refine l_gO W rfl l0 rfl (t := 0) rfl hw (fun i3_ l2_ hw => ?_)
  refine l_cv W rfl l2_ rfl ?_
  refine y_X0_drop W hw (fun h5_ s6_ W4_ hw => ?_) rfl l2_
  refine l_fx2 (fun (r : Int32 → Hp → Prop) (r9 : Int32 → St → Prop) => ∀ (x0 : Int32), ∀ (h9 : Hp) (s9 : St), Wf ad h9 V s9 → r9 x0 s9 → r x0 h9) (fun _ _ _ _ h9_ => h9_.elim) ?_ N _ _ _ W4_ hw
  intro w12_ w13_ hv11_ x7_ h9_ s10_ W8_ hw
  refine l_br hw (fun _ hw => ?_) (fun _ hw => ?_)
  ·
    exact hk _ _ W8_ hw
  ·
    refine l_gO W8_ rfl l0 rfl (t := 9) rfl hw (fun i15_ l14_ hw => ?_)
    refine l_cv W8_ rfl l14_ rfl ?_
    refine y_X9_indexAt W8_ hw (@fun o17_ u19_ lp16_ hw e18_ => ?_) rfl l14_
    subst e18_
    refine l_jn (fun (r : Hp → Prop) (r9 : St → Prop) => ∀ (h9 : Hp) (s9 : St), Wf ad h9 V s9 → r9 s9 → r h9) hw ?_ (fun j23_ j24_ hj25_ hw => ?_)
    ·
      intro h21_ s22_ W20_ hw
      exact hv11_ _ _ _ W20_ hw
    ·
      refine l_brn hw (fun e28_ hw => ?_) (fun i26_ e27_ hw => ?_)
      ·
        exact hj25_ _ _ W8_ hw
      ·
        refine l_cv W8_ rfl (lp16_ _ e27_) rfl ?_
        refine y_X3_isOf W8_ hw (fun v29_ hw => ?_) rfl (lp16_ _ e27_) rfl l_p1
        refine l_br hw (fun _ hw => ?_) (fun _ hw => ?_)
        ·
          exact hj25_ _ _ W8_ hw
        ·
          refine y_X11_leafKey W8_ hw (fun v30_ hw => ?_) rfl (lv_some (lp16_ _ e27_))
          refine l_gO W8_ rfl l0 rfl (t := 0) rfl hw (fun i32_ l31_ hw => ?_)
          refine l_cv W8_ rfl l31_ rfl ?_
          refine y_X0_drop W8_ hw (fun h34_ s35_ W33_ hw => ?_) rfl l31_
          exact hj25_ _ _ W33_ hw
def z_X11_insert (N : Nat) (a0 : Nat) (p1 : Int32) (p2 : Int32) (p3 : Int32) (p4 : Int32) (h0 : St) (K : Int32 → St → Prop) (KX : String → St → Prop) : Prop :=
  z_X11_needTable N a0 p1 h0 (fun o1 h2 =>
  nn o1 fun a3 =>
  z_X10_admits N a3 p2 p3 p4 h2 fun v4 =>
  br (v4 = 0) (
    KX "java/lang/IllegalArgumentException" h2) (
    nn (sQ h2 11 a0 0 0) fun a5 =>
    z_X9_addRow N a5 (some a3) p2 p3 p4 h2 fun v6 h7 =>
    br (v6 = (-1)) (
      KX "java/lang/IllegalStateException" h7) (
      z_X11_forgetRow N a0 (some a3) v6 h7 fun h8 =>
      nn (sQ h8 11 a0 11 0) fun a9 =>
      z_X2_closeAppeals N a9 h8 fun h10 =>
      K v6 h10))) KX
set_option maxHeartbeats 1000000 in
theorem y_X11_insert {ad : Nat → Nat → Nat → Nat} {h : Hp} {V : Nat → Nat} {h0 : St} {N : Nat} (W : Wf ad h V h0) {a0 a0_ : Nat} {p1 : Int32} {p2 : Int32} {p3 : Int32} {p4 : Int32} {K : Int32 → Hp → Prop} {K9 : Int32 → St → Prop} {KX : String → Hp → Prop} {KX9 : String → St → Prop} (hw : z_X11_insert N a0_ p1 p2 p3 p4 h0 K9 KX9) (hk : ∀ (r0 : Int32), ∀ (h9 : Hp) (s9 : St), Wf ad h9 V s9 → K9 r0 s9 →  K r0 h9) (hkx : ∀ (E : String) (h9 : Hp) (s9 : St), Wf ad h9 V s9 → KX9 E s9 → KX E h9) (e0 : a0 = ad 11 a0_ 0) (l0 : a0_ < V 11) : w_X11_insert N a0 p1 p2 p3 p4 h K KX := by
  subst e0
  unfold z_X11_insert at hw
  unfold w_X11_insert
  refine l_cv W rfl l0 rfl ?_
  refine y_X11_needTable W hw (@fun o2_ u4_ lp1_ h6_ s7_ W5_ hw e3_ => ?_) (fun _ _ _ W9 h9 => hkx _ _ _ W9 h9) rfl l0
  subst e3_
  refine l_nn hw (fun i8_ e9_ hw => ?_)
  refine l_cv W5_ rfl (lp1_ _ e9_) rfl ?_
  refine y_X10_admits W5_ hw (fun v10_ hw => ?_) rfl (lp1_ _ e9_)
  refine l_br hw (fun _ hw => ?_) (fun _ hw => ?_)
  ·
    exact hkx _ _ _ W5_ hw
  ·
    refine l_gO W5_ rfl l0 rfl (t := 9) rfl hw (fun i12_ l11_ hw => ?_)
    refine l_cv W5_ rfl l11_ rfl ?_
    refine y_X9_addRow W5_ hw (fun v13_ h15_ s16_ W14_ hw => ?_) rfl l11_ rfl (lv_some (lp1_ _ e9_))
    refine l_br hw (fun _ hw => ?_) (fun _ hw => ?_)
    ·
      exact hkx _ _ _ W14_ hw
    ·
      refine l_cv W14_ rfl l0 rfl ?_
      refine y_X11_forgetRow W14_ hw (fun h18_ s19_ W17_ hw => ?_) rfl l0 rfl (lv_some (lp1_ _ e9_))
      refine l_gO W17_ rfl l0 rfl (t := 2) rfl hw (fun i21_ l20_ hw => ?_)
      refine l_cv W17_ rfl l20_ rfl ?_
      refine y_X2_closeAppeals W17_ hw (fun h23_ s24_ W22_ hw => ?_) rfl l20_
      exact hk _ _ _ W22_ hw
def z_X11_remove (N : Nat) (a0 : Nat) (p1 : Int32) (p2 : Int32) (h0 : St) (K : Int32 → St → Prop) (KX : String → St → Prop) : Prop :=
  z_X11_needTable N a0 p1 h0 (fun o1 h2 =>
  nn o1 fun a3 =>
  z_X10_hasRow N a3 p2 h2 fun v4 =>
  br (v4 = 0) (
    KX "java/util/NoSuchElementException" h2) (
    nn (sQ h2 11 a0 0 0) fun a5 =>
    z_X9_dropRow N a5 (some a3) p2 h2 fun h6 =>
    z_X11_forgetRow N a0 (some a3) p2 h6 fun h7 =>
    nn (sQ h7 11 a0 11 0) fun a8 =>
    z_X2_closeAppeals N a8 h7 fun h9 =>
    z_X10_rowCount N a3 h9 fun v10 =>
    K v10 h9)) KX
set_option maxHeartbeats 1000000 in
theorem y_X11_remove {ad : Nat → Nat → Nat → Nat} {h : Hp} {V : Nat → Nat} {h0 : St} {N : Nat} (W : Wf ad h V h0) {a0 a0_ : Nat} {p1 : Int32} {p2 : Int32} {K : Int32 → Hp → Prop} {K9 : Int32 → St → Prop} {KX : String → Hp → Prop} {KX9 : String → St → Prop} (hw : z_X11_remove N a0_ p1 p2 h0 K9 KX9) (hk : ∀ (r0 : Int32), ∀ (h9 : Hp) (s9 : St), Wf ad h9 V s9 → K9 r0 s9 →  K r0 h9) (hkx : ∀ (E : String) (h9 : Hp) (s9 : St), Wf ad h9 V s9 → KX9 E s9 → KX E h9) (e0 : a0 = ad 11 a0_ 0) (l0 : a0_ < V 11) : w_X11_remove N a0 p1 p2 h K KX := by
  subst e0
  unfold z_X11_remove at hw
  unfold w_X11_remove
  refine l_cv W rfl l0 rfl ?_
  refine y_X11_needTable W hw (@fun o2_ u4_ lp1_ h6_ s7_ W5_ hw e3_ => ?_) (fun _ _ _ W9 h9 => hkx _ _ _ W9 h9) rfl l0
  subst e3_
  refine l_nn hw (fun i8_ e9_ hw => ?_)
  refine l_cv W5_ rfl (lp1_ _ e9_) rfl ?_
  refine y_X10_hasRow W5_ hw (fun v10_ hw => ?_) rfl (lp1_ _ e9_)
  refine l_br hw (fun _ hw => ?_) (fun _ hw => ?_)
  ·
    exact hkx _ _ _ W5_ hw
  ·
    refine l_gO W5_ rfl l0 rfl (t := 9) rfl hw (fun i12_ l11_ hw => ?_)
    refine l_cv W5_ rfl l11_ rfl ?_
    refine y_X9_dropRow W5_ hw (fun h14_ s15_ W13_ hw => ?_) rfl l11_ rfl (lv_some (lp1_ _ e9_))
    refine l_cv W13_ rfl l0 rfl ?_
    refine y_X11_forgetRow W13_ hw (fun h17_ s18_ W16_ hw => ?_) rfl l0 rfl (lv_some (lp1_ _ e9_))
    refine l_gO W16_ rfl l0 rfl (t := 2) rfl hw (fun i20_ l19_ hw => ?_)
    refine l_cv W16_ rfl l19_ rfl ?_
    refine y_X2_closeAppeals W16_ hw (fun h22_ s23_ W21_ hw => ?_) rfl l19_
    refine l_cv W21_ rfl (lp1_ _ e9_) rfl ?_
    refine y_X10_rowCount W21_ hw (fun v24_ hw => ?_) rfl (lp1_ _ e9_)
    exact hk _ _ _ W21_ hw
def z_X11_count (N : Nat) (a0 : Nat) (p1 : Int32) (h0 : St) (K : Int32 → St → Prop) (KX : String → St → Prop) : Prop :=
  z_X11_needTable N a0 p1 h0 (fun o1 h2 =>
  nn o1 fun a3 =>
  z_X10_takeCounts N a3 h2 fun h4 =>
  nn (sQ h4 11 a0 11 0) fun a5 =>
  z_X2_closeAppeals N a5 h4 fun h6 =>
  z_X10_takenRows N a3 h6 fun v7 =>
  K v7 h6) KX
set_option maxHeartbeats 1000000 in
theorem y_X11_count {ad : Nat → Nat → Nat → Nat} {h : Hp} {V : Nat → Nat} {h0 : St} {N : Nat} (W : Wf ad h V h0) {a0 a0_ : Nat} {p1 : Int32} {K : Int32 → Hp → Prop} {K9 : Int32 → St → Prop} {KX : String → Hp → Prop} {KX9 : String → St → Prop} (hw : z_X11_count N a0_ p1 h0 K9 KX9) (hk : ∀ (r0 : Int32), ∀ (h9 : Hp) (s9 : St), Wf ad h9 V s9 → K9 r0 s9 →  K r0 h9) (hkx : ∀ (E : String) (h9 : Hp) (s9 : St), Wf ad h9 V s9 → KX9 E s9 → KX E h9) (e0 : a0 = ad 11 a0_ 0) (l0 : a0_ < V 11) : w_X11_count N a0 p1 h K KX := by
  subst e0
  unfold z_X11_count at hw
  unfold w_X11_count
  refine l_cv W rfl l0 rfl ?_
  refine y_X11_needTable W hw (@fun o2_ u4_ lp1_ h6_ s7_ W5_ hw e3_ => ?_) (fun _ _ _ W9 h9 => hkx _ _ _ W9 h9) rfl l0
  subst e3_
  refine l_nn hw (fun i8_ e9_ hw => ?_)
  refine l_cv W5_ rfl (lp1_ _ e9_) rfl ?_
  refine y_X10_takeCounts W5_ hw (fun h11_ s12_ W10_ hw => ?_) rfl (lp1_ _ e9_)
  refine l_gO W10_ rfl l0 rfl (t := 2) rfl hw (fun i14_ l13_ hw => ?_)
  refine l_cv W10_ rfl l13_ rfl ?_
  refine y_X2_closeAppeals W10_ hw (fun h16_ s17_ W15_ hw => ?_) rfl l13_
  refine l_cv W15_ rfl (lp1_ _ e9_) rfl ?_
  refine y_X10_takenRows W15_ hw (fun v18_ hw => ?_) rfl (lp1_ _ e9_)
  exact hk _ _ _ W15_ hw
def z_X11_index (N : Nat) (a0 : Nat) (p1 : Int32) (p2 : Int32) (h0 : St) (K : Int32 → St → Prop) (KX : String → St → Prop) : Prop :=
  z_X11_needTable N a0 p1 h0 (fun o1 h2 =>
  nn o1 fun a3 =>
  z_X10_hasColumn N a3 p2 h2 fun v4 =>
  br (v4 = 0) (
    KX "java/lang/IllegalArgumentException" h2) (
    nn (sQ h2 11 a0 0 0) fun a5 =>
    z_X9_addIndex N a5 (some a3) p2 h2 fun v6 h7 =>
    br (v6 = (-1)) (
      KX "java/lang/IllegalStateException" h7) (
      nn (sQ h7 11 a0 11 0) fun a8 =>
      z_X2_closeAppeals N a8 h7 fun h9 =>
      K v6 h9))) KX
set_option maxHeartbeats 1000000 in
theorem y_X11_index {ad : Nat → Nat → Nat → Nat} {h : Hp} {V : Nat → Nat} {h0 : St} {N : Nat} (W : Wf ad h V h0) {a0 a0_ : Nat} {p1 : Int32} {p2 : Int32} {K : Int32 → Hp → Prop} {K9 : Int32 → St → Prop} {KX : String → Hp → Prop} {KX9 : String → St → Prop} (hw : z_X11_index N a0_ p1 p2 h0 K9 KX9) (hk : ∀ (r0 : Int32), ∀ (ad9 : Nat → Nat → Nat → Nat) (V9 : Nat → Nat) (h9 : Hp) (s9 : St), Wf ad9 h9 V9 s9 → Ext ad V ad9 V9 → K9 r0 s9 →  K r0 h9) (hkx : ∀ (E : String) (ad9 : Nat → Nat → Nat → Nat) (V9 : Nat → Nat) (h9 : Hp) (s9 : St), Wf ad9 h9 V9 s9 → Ext ad V ad9 V9 → KX9 E s9 → KX E h9) (e0 : a0 = ad 11 a0_ 0) (l0 : a0_ < V 11) : w_X11_index N a0 p1 p2 h K KX := by
  subst e0
  unfold z_X11_index at hw
  unfold w_X11_index
  refine l_cv W rfl l0 rfl ?_
  refine y_X11_needTable W hw (@fun o2_ u4_ lp1_ h6_ s7_ W5_ hw e3_ => ?_) (fun _ _ _ W9 h9 => hkx _ _ _ _ _ W9 (ext_refl ad V) h9) rfl l0
  subst e3_
  refine l_nn hw (fun i8_ e9_ hw => ?_)
  refine l_cv W5_ rfl (lp1_ _ e9_) rfl ?_
  refine y_X10_hasColumn W5_ hw (fun v10_ hw => ?_) rfl (lp1_ _ e9_)
  refine l_br hw (fun _ hw => ?_) (fun _ hw => ?_)
  ·
    exact hkx _ _ _ _ _ W5_ (ext_refl ad V) hw
  ·
    refine l_gO W5_ rfl l0 rfl (t := 9) rfl hw (fun i12_ l11_ hw => ?_)
    refine l_cv W5_ rfl l11_ rfl ?_
    refine y_X9_addIndex W5_ hw (fun v13_ ad17_ V18_ h15_ s16_ W14_ E19_ hw => ?_) rfl l11_ rfl (lv_some (lp1_ _ e9_))
    refine l_br hw (fun _ hw => ?_) (fun _ hw => ?_)
    ·
      exact hkx _ _ _ _ _ W14_ (ext_trans (ext_refl ad V) E19_) hw
    ·
      refine l_gO W14_ (ext_o E19_ rfl l0 rfl) (ext_l E19_ l0) rfl (t := 2) rfl hw (fun i21_ l20_ hw => ?_)
      refine l_cv W14_ rfl l20_ rfl ?_
      refine y_X2_closeAppeals W14_ hw (fun h23_ s24_ W22_ hw => ?_) rfl l20_
      exact hk _ _ _ _ _ W22_ (ext_trans (ext_refl ad V) E19_) hw
def z_X11_frames (N : Nat) (a0 : Nat) (p1 : Int32) (h0 : St) (K : Int32 → St → Prop) (KX : String → St → Prop) : Prop :=
  br (p1 < 0) (
    KX "java/lang/IllegalArgumentException" h0) (
    br (p1 ≤ 12) (
      nn (sQ h0 11 a0 3 0) fun a1 =>
      z_X0_frameCount N a1 h0 fun v2 =>
      nn (sQ h0 11 a0 3 0) fun a3 =>
      z_X0_setFrames N a3 p1 h0 fun h4 =>
      nn (sQ h4 11 a0 11 0) fun a5 =>
      z_X2_closeAppeals N a5 h4 fun h6 =>
      K v2 h6) (
      KX "java/lang/IllegalArgumentException" h0))
set_option maxHeartbeats 1000000 in
theorem y_X11_frames {ad : Nat → Nat → Nat → Nat} {h : Hp} {V : Nat → Nat} {h0 : St} {N : Nat} (W : Wf ad h V h0) {a0 a0_ : Nat} {p1 : Int32} {K : Int32 → Hp → Prop} {K9 : Int32 → St → Prop} {KX : String → Hp → Prop} {KX9 : String → St → Prop} (hw : z_X11_frames N a0_ p1 h0 K9 KX9) (hk : ∀ (r0 : Int32), ∀ (h9 : Hp) (s9 : St), Wf ad h9 V s9 → K9 r0 s9 →  K r0 h9) (hkx : ∀ (E : String) (h9 : Hp) (s9 : St), Wf ad h9 V s9 → KX9 E s9 → KX E h9) (e0 : a0 = ad 11 a0_ 0) (l0 : a0_ < V 11) : w_X11_frames N a0 p1 h K KX := by
  subst e0
  unfold z_X11_frames at hw
  unfold w_X11_frames
  refine l_br hw (fun _ hw => ?_) (fun _ hw => ?_)
  ·
    exact hkx _ _ _ W hw
  ·
    refine l_br hw (fun _ hw => ?_) (fun _ hw => ?_)
    ·
      refine l_gO W rfl l0 rfl (t := 0) rfl hw (fun i2_ l1_ hw => ?_)
      refine l_cv W rfl l1_ rfl ?_
      refine y_X0_frameCount W hw (fun v3_ hw => ?_) rfl l1_
      refine l_gO W rfl l0 rfl (t := 0) rfl hw (fun i5_ l4_ hw => ?_)
      refine l_cv W rfl l4_ rfl ?_
      refine y_X0_setFrames W hw (fun h7_ s8_ W6_ hw => ?_) rfl l4_
      refine l_gO W6_ rfl l0 rfl (t := 2) rfl hw (fun i10_ l9_ hw => ?_)
      refine l_cv W6_ rfl l9_ rfl ?_
      refine y_X2_closeAppeals W6_ hw (fun h12_ s13_ W11_ hw => ?_) rfl l9_
      exact hk _ _ _ W11_ hw
    ·
      exact hkx _ _ _ W hw
def z_X11_pages (N : Nat) (a0 : Nat) (p1 : Int32) (h0 : St) (K : Int32 → St → Prop) (KX : String → St → Prop) : Prop :=
  z_X11_needTable N a0 p1 h0 (fun o1 h2 =>
  nn o1 fun a3 =>
  z_X10_pageCount N a3 h2 fun v4 =>
  K v4 h2) KX
set_option maxHeartbeats 1000000 in
theorem y_X11_pages {ad : Nat → Nat → Nat → Nat} {h : Hp} {V : Nat → Nat} {h0 : St} {N : Nat} (W : Wf ad h V h0) {a0 a0_ : Nat} {p1 : Int32} {K : Int32 → Hp → Prop} {K9 : Int32 → St → Prop} {KX : String → Hp → Prop} {KX9 : String → St → Prop} (hw : z_X11_pages N a0_ p1 h0 K9 KX9) (hk : ∀ (r0 : Int32), ∀ (h9 : Hp) (s9 : St), Wf ad h9 V s9 → K9 r0 s9 →  K r0 h9) (hkx : ∀ (E : String) (h9 : Hp) (s9 : St), Wf ad h9 V s9 → KX9 E s9 → KX E h9) (e0 : a0 = ad 11 a0_ 0) (l0 : a0_ < V 11) : w_X11_pages N a0 p1 h K KX := by
  subst e0
  unfold z_X11_pages at hw
  unfold w_X11_pages
  refine l_cv W rfl l0 rfl ?_
  refine y_X11_needTable W hw (@fun o2_ u4_ lp1_ h6_ s7_ W5_ hw e3_ => ?_) (fun _ _ _ W9 h9 => hkx _ _ _ W9 h9) rfl l0
  subst e3_
  refine l_nn hw (fun i8_ e9_ hw => ?_)
  refine l_cv W5_ rfl (lp1_ _ e9_) rfl ?_
  refine y_X10_pageCount W5_ hw (fun v10_ hw => ?_) rfl (lp1_ _ e9_)
  exact hk _ _ _ W5_ hw
def z_X11_value (N : Nat) (a0 : Nat) (p1 : Int32) (p2 : Int32) (p3 : Int32) (h0 : St) (K : Int32 → St → Prop) (KX : String → St → Prop) : Prop :=
  z_X11_needTable N a0 p1 h0 (fun o1 h2 =>
  nn o1 fun a3 =>
  z_X10_hasColumn N a3 p3 h2 fun v4 =>
  br (v4 = 0) (
    KX "java/lang/IllegalArgumentException" h2) (
    z_X10_hasRow N a3 p2 h2 fun v5 =>
    br (v5 = 0) (
      KX "java/util/NoSuchElementException" h2) (
      z_X10_cell N a3 p2 p3 h2 fun v6 =>
      K v6 h2))) KX
set_option maxHeartbeats 1000000 in
theorem y_X11_value {ad : Nat → Nat → Nat → Nat} {h : Hp} {V : Nat → Nat} {h0 : St} {N : Nat} (W : Wf ad h V h0) {a0 a0_ : Nat} {p1 : Int32} {p2 : Int32} {p3 : Int32} {K : Int32 → Hp → Prop} {K9 : Int32 → St → Prop} {KX : String → Hp → Prop} {KX9 : String → St → Prop} (hw : z_X11_value N a0_ p1 p2 p3 h0 K9 KX9) (hk : ∀ (r0 : Int32), ∀ (h9 : Hp) (s9 : St), Wf ad h9 V s9 → K9 r0 s9 →  K r0 h9) (hkx : ∀ (E : String) (h9 : Hp) (s9 : St), Wf ad h9 V s9 → KX9 E s9 → KX E h9) (e0 : a0 = ad 11 a0_ 0) (l0 : a0_ < V 11) : w_X11_value N a0 p1 p2 p3 h K KX := by
  subst e0
  unfold z_X11_value at hw
  unfold w_X11_value
  refine l_cv W rfl l0 rfl ?_
  refine y_X11_needTable W hw (@fun o2_ u4_ lp1_ h6_ s7_ W5_ hw e3_ => ?_) (fun _ _ _ W9 h9 => hkx _ _ _ W9 h9) rfl l0
  subst e3_
  refine l_nn hw (fun i8_ e9_ hw => ?_)
  refine l_cv W5_ rfl (lp1_ _ e9_) rfl ?_
  refine y_X10_hasColumn W5_ hw (fun v10_ hw => ?_) rfl (lp1_ _ e9_)
  refine l_br hw (fun _ hw => ?_) (fun _ hw => ?_)
  ·
    exact hkx _ _ _ W5_ hw
  ·
    refine l_cv W5_ rfl (lp1_ _ e9_) rfl ?_
    refine y_X10_hasRow W5_ hw (fun v11_ hw => ?_) rfl (lp1_ _ e9_)
    refine l_br hw (fun _ hw => ?_) (fun _ hw => ?_)
    ·
      exact hkx _ _ _ W5_ hw
    ·
      refine l_cv W5_ rfl (lp1_ _ e9_) rfl ?_
      refine y_X10_cell W5_ hw (fun v12_ hw => ?_) rfl (lp1_ _ e9_)
      exact hk _ _ _ W5_ hw
def z_X11_needIndex (N : Nat) (a0 : Nat) (p1 : Int32) (h0 : St) (K : Option Nat → St → Prop) (KX : String → St → Prop) : Prop :=
  nn (sQ h0 11 a0 0 0) fun a1 =>
  z_X9_indexAt N a1 p1 h0 fun o2 =>
  brn o2 (
    KX "java/lang/IndexOutOfBoundsException" h0) (fun a3 =>
    K (some a3) h0)
set_option maxHeartbeats 1000000 in
theorem y_X11_needIndex {ad : Nat → Nat → Nat → Nat} {h : Hp} {V : Nat → Nat} {h0 : St} {N : Nat} (W : Wf ad h V h0) {a0 a0_ : Nat} {p1 : Int32} {K : Option Nat → Hp → Prop} {K9 : Option Nat → St → Prop} {KX : String → Hp → Prop} {KX9 : String → St → Prop} (hw : z_X11_needIndex N a0_ p1 h0 K9 KX9) (hk : ∀ {o9 u9 : Option Nat}, (∀ r, o9 = some r → r < V 3) → ∀ (h9 : Hp) (s9 : St), Wf ad h9 V s9 → K9 o9 s9 → u9 = o9.map (fun j => ad 3 j 0) → K u9 h9) (hkx : ∀ (E : String) (h9 : Hp) (s9 : St), Wf ad h9 V s9 → KX9 E s9 → KX E h9) (e0 : a0 = ad 11 a0_ 0) (l0 : a0_ < V 11) : w_X11_needIndex N a0 p1 h K KX := by
  subst e0
  unfold z_X11_needIndex at hw
  unfold w_X11_needIndex
  refine l_gO W rfl l0 rfl (t := 9) rfl hw (fun i2_ l1_ hw => ?_)
  refine l_cv W rfl l1_ rfl ?_
  refine y_X9_indexAt W hw (@fun o4_ u6_ lp3_ hw e5_ => ?_) rfl l1_
  subst e5_
  refine l_brn hw (fun e9_ hw => ?_) (fun i7_ e8_ hw => ?_)
  ·
    exact hkx _ _ _ W hw
  ·
    exact hk (lv_some (lp3_ _ e8_)) _ _ W hw rfl
def z_X11_entries (N : Nat) (a0 : Nat) (p1 : Int32) (h0 : St) (K : Int32 → St → Prop) (KX : String → St → Prop) : Prop :=
  z_X11_needIndex N a0 p1 h0 (fun o1 h2 =>
  nn o1 fun a3 =>
  z_X3_size N a3 h2 fun v4 =>
  K v4 h2) KX
set_option maxHeartbeats 1000000 in
theorem y_X11_entries {ad : Nat → Nat → Nat → Nat} {h : Hp} {V : Nat → Nat} {h0 : St} {N : Nat} (W : Wf ad h V h0) {a0 a0_ : Nat} {p1 : Int32} {K : Int32 → Hp → Prop} {K9 : Int32 → St → Prop} {KX : String → Hp → Prop} {KX9 : String → St → Prop} (hw : z_X11_entries N a0_ p1 h0 K9 KX9) (hk : ∀ (r0 : Int32), ∀ (h9 : Hp) (s9 : St), Wf ad h9 V s9 → K9 r0 s9 →  K r0 h9) (hkx : ∀ (E : String) (h9 : Hp) (s9 : St), Wf ad h9 V s9 → KX9 E s9 → KX E h9) (e0 : a0 = ad 11 a0_ 0) (l0 : a0_ < V 11) : w_X11_entries N a0 p1 h K KX := by
  subst e0
  unfold z_X11_entries at hw
  unfold w_X11_entries
  refine l_cv W rfl l0 rfl ?_
  refine y_X11_needIndex W hw (@fun o2_ u4_ lp1_ h6_ s7_ W5_ hw e3_ => ?_) (fun _ _ _ W9 h9 => hkx _ _ _ W9 h9) rfl l0
  subst e3_
  refine l_nn hw (fun i8_ e9_ hw => ?_)
  refine l_cv W5_ rfl (lp1_ _ e9_) rfl ?_
  refine y_X3_size W5_ hw (fun v10_ hw => ?_) rfl (lp1_ _ e9_)
  exact hk _ _ _ W5_ hw
def z_X11_entryAt (N : Nat) (a0 : Nat) (p1 : Int32) (p2 : Int32) (h0 : St) (K : Int32 → St → Prop) (KX : String → St → Prop) : Prop :=
  z_X11_needIndex N a0 p1 h0 (fun o1 h2 =>
  nn o1 fun a3 =>
  z_X3_rowAt N a3 p2 h2 fun v4 =>
  br (v4 = (-1)) (
    KX "java/util/NoSuchElementException" h2) (
    K v4 h2)) KX
set_option maxHeartbeats 1000000 in
theorem y_X11_entryAt {ad : Nat → Nat → Nat → Nat} {h : Hp} {V : Nat → Nat} {h0 : St} {N : Nat} (W : Wf ad h V h0) {a0 a0_ : Nat} {p1 : Int32} {p2 : Int32} {K : Int32 → Hp → Prop} {K9 : Int32 → St → Prop} {KX : String → Hp → Prop} {KX9 : String → St → Prop} (hw : z_X11_entryAt N a0_ p1 p2 h0 K9 KX9) (hk : ∀ (r0 : Int32), ∀ (h9 : Hp) (s9 : St), Wf ad h9 V s9 → K9 r0 s9 →  K r0 h9) (hkx : ∀ (E : String) (h9 : Hp) (s9 : St), Wf ad h9 V s9 → KX9 E s9 → KX E h9) (e0 : a0 = ad 11 a0_ 0) (l0 : a0_ < V 11) : w_X11_entryAt N a0 p1 p2 h K KX := by
  subst e0
  unfold z_X11_entryAt at hw
  unfold w_X11_entryAt
  refine l_cv W rfl l0 rfl ?_
  refine y_X11_needIndex W hw (@fun o2_ u4_ lp1_ h6_ s7_ W5_ hw e3_ => ?_) (fun _ _ _ W9 h9 => hkx _ _ _ W9 h9) rfl l0
  subst e3_
  refine l_nn hw (fun i8_ e9_ hw => ?_)
  refine l_cv W5_ rfl (lp1_ _ e9_) rfl ?_
  refine y_X3_rowAt W5_ hw (fun v10_ hw => ?_) rfl (lp1_ _ e9_)
  refine l_br hw (fun _ hw => ?_) (fun _ hw => ?_)
  ·
    exact hkx _ _ _ W5_ hw
  ·
    exact hk _ _ _ W5_ hw
def z_X11_counted (N : Nat) (a0 : Nat) (p1 : Int32) (p2 : Int32) (p3 : Int32) (h0 : St) (K : Int32 → St → Prop) (KX : String → St → Prop) : Prop :=
  z_X11_needTable N a0 p1 h0 (fun o1 h2 =>
  nn o1 fun a3 =>
  z_X10_takenCount N a3 p2 p3 h2 fun v4 =>
  br (v4 = (-1)) (
    KX "java/lang/IllegalArgumentException" h2) (
    K v4 h2)) KX
set_option maxHeartbeats 1000000 in
theorem y_X11_counted {ad : Nat → Nat → Nat → Nat} {h : Hp} {V : Nat → Nat} {h0 : St} {N : Nat} (W : Wf ad h V h0) {a0 a0_ : Nat} {p1 : Int32} {p2 : Int32} {p3 : Int32} {K : Int32 → Hp → Prop} {K9 : Int32 → St → Prop} {KX : String → Hp → Prop} {KX9 : String → St → Prop} (hw : z_X11_counted N a0_ p1 p2 p3 h0 K9 KX9) (hk : ∀ (r0 : Int32), ∀ (h9 : Hp) (s9 : St), Wf ad h9 V s9 → K9 r0 s9 →  K r0 h9) (hkx : ∀ (E : String) (h9 : Hp) (s9 : St), Wf ad h9 V s9 → KX9 E s9 → KX E h9) (e0 : a0 = ad 11 a0_ 0) (l0 : a0_ < V 11) : w_X11_counted N a0 p1 p2 p3 h K KX := by
  subst e0
  unfold z_X11_counted at hw
  unfold w_X11_counted
  refine l_cv W rfl l0 rfl ?_
  refine y_X11_needTable W hw (@fun o2_ u4_ lp1_ h6_ s7_ W5_ hw e3_ => ?_) (fun _ _ _ W9 h9 => hkx _ _ _ W9 h9) rfl l0
  subst e3_
  refine l_nn hw (fun i8_ e9_ hw => ?_)
  refine l_cv W5_ rfl (lp1_ _ e9_) rfl ?_
  refine y_X10_takenCount W5_ hw (fun v10_ hw => ?_) rfl (lp1_ _ e9_)
  refine l_br hw (fun _ hw => ?_) (fun _ hw => ?_)
  ·
    exact hkx _ _ _ W5_ hw
  ·
    exact hk _ _ _ W5_ hw
def z_X11_cached (N : Nat) (a0 : Nat) (h0 : St) (K : Int32 → Prop) : Prop :=
  nn (sQ h0 11 a0 3 0) fun a1 =>
  z_X0_size N a1 h0 fun v2 =>
  K v2
set_option maxHeartbeats 1000000 in
theorem y_X11_cached {ad : Nat → Nat → Nat → Nat} {h : Hp} {V : Nat → Nat} {h0 : St} {N : Nat} (W : Wf ad h V h0) {a0 a0_ : Nat} {K : Int32 → Prop} {K9 : Int32 → Prop} (hw : z_X11_cached N a0_ h0 K9) (hk : ∀ (r0 : Int32), K9 r0 →  K r0) (e0 : a0 = ad 11 a0_ 0) (l0 : a0_ < V 11) : w_X11_cached N a0 h K := by
  subst e0
  unfold z_X11_cached at hw
  unfold w_X11_cached
  refine l_gO W rfl l0 rfl (t := 0) rfl hw (fun i2_ l1_ hw => ?_)
  refine l_cv W rfl l1_ rfl ?_
  refine y_X0_size W hw (fun v3_ hw => ?_) rfl l1_
  exact hk _ hw
def z_X11_cachedAt (N : Nat) (a0 : Nat) (p1 : Int32) (h0 : St) (K : Int32 → St → Prop) (KX : String → St → Prop) : Prop :=
  nn (sQ h0 11 a0 3 0) fun a1 =>
  z_X0_keyAt N a1 p1 h0 fun v2 =>
  br (v2 = (-1)) (
    KX "java/util/NoSuchElementException" h0) (
    K v2 h0)
set_option maxHeartbeats 1000000 in
theorem y_X11_cachedAt {ad : Nat → Nat → Nat → Nat} {h : Hp} {V : Nat → Nat} {h0 : St} {N : Nat} (W : Wf ad h V h0) {a0 a0_ : Nat} {p1 : Int32} {K : Int32 → Hp → Prop} {K9 : Int32 → St → Prop} {KX : String → Hp → Prop} {KX9 : String → St → Prop} (hw : z_X11_cachedAt N a0_ p1 h0 K9 KX9) (hk : ∀ (r0 : Int32), ∀ (h9 : Hp) (s9 : St), Wf ad h9 V s9 → K9 r0 s9 →  K r0 h9) (hkx : ∀ (E : String) (h9 : Hp) (s9 : St), Wf ad h9 V s9 → KX9 E s9 → KX E h9) (e0 : a0 = ad 11 a0_ 0) (l0 : a0_ < V 11) : w_X11_cachedAt N a0 p1 h K KX := by
  subst e0
  unfold z_X11_cachedAt at hw
  unfold w_X11_cachedAt
  refine l_gO W rfl l0 rfl (t := 0) rfl hw (fun i2_ l1_ hw => ?_)
  refine l_cv W rfl l1_ rfl ?_
  refine y_X0_keyAt W hw (fun v3_ hw => ?_) rfl l1_
  refine l_br hw (fun _ hw => ?_) (fun _ hw => ?_)
  ·
    exact hkx _ _ _ W hw
  ·
    exact hk _ _ _ W hw
def z_X11_flush (N : Nat) (a0 : Nat) (h0 : St) (K : Int32 → St → Prop) : Prop :=
  nn (sQ h0 11 a0 3 0) fun a1 =>
  z_X0_size N a1 h0 fun v2 =>
  nn (sQ h0 11 a0 3 0) fun a3 =>
  z_X0_clear N a3 h0 fun h4 =>
  nn (sQ h4 11 a0 11 0) fun a5 =>
  z_X2_closeAppeals N a5 h4 fun h6 =>
  K v2 h6
set_option maxHeartbeats 1000000 in
theorem y_X11_flush {ad : Nat → Nat → Nat → Nat} {h : Hp} {V : Nat → Nat} {h0 : St} {N : Nat} (W : Wf ad h V h0) {a0 a0_ : Nat} {K : Int32 → Hp → Prop} {K9 : Int32 → St → Prop} (hw : z_X11_flush N a0_ h0 K9) (hk : ∀ (r0 : Int32), ∀ (h9 : Hp) (s9 : St), Wf ad h9 V s9 → K9 r0 s9 →  K r0 h9) (e0 : a0 = ad 11 a0_ 0) (l0 : a0_ < V 11) : w_X11_flush N a0 h K := by
  subst e0
  unfold z_X11_flush at hw
  unfold w_X11_flush
  refine l_gO W rfl l0 rfl (t := 0) rfl hw (fun i2_ l1_ hw => ?_)
  refine l_cv W rfl l1_ rfl ?_
  refine y_X0_size W hw (fun v3_ hw => ?_) rfl l1_
  refine l_gO W rfl l0 rfl (t := 0) rfl hw (fun i5_ l4_ hw => ?_)
  refine l_cv W rfl l4_ rfl ?_
  refine y_X0_clear W hw (fun h7_ s8_ W6_ hw => ?_) rfl l4_
  refine l_gO W6_ rfl l0 rfl (t := 2) rfl hw (fun i10_ l9_ hw => ?_)
  refine l_cv W6_ rfl l9_ rfl ?_
  refine y_X2_closeAppeals W6_ hw (fun h12_ s13_ W11_ hw => ?_) rfl l9_
  exact hk _ _ _ W11_ hw
def z_X11_query (N : Nat) (a0 : Nat) (h0 : St) (K : Int32 → St → Prop) (KX : String → St → Prop) : Prop :=
  br ((sP h0 11 a0 2 0) < 0) (
    KX "java/lang/IllegalStateException" h0) (
    br ((sP h0 11 a0 2 0) < (8 : Int32)) (
      lt_ (sN7 h0 ) fun h9 =>
      wA 8 (sP h0 11 a0 2 0) (stQ h9 11 a0 1 ((sP h0 11 a0 2 0)).toNatClampNeg (some (sV h0 7))) fun h10 =>
      lt_ (stP h10 11 a0 2 0 ((sP h0 11 a0 2 0) + 1)) fun h11 =>
      nn (sQ h11 11 a0 11 0) fun a12 =>
      z_X2_closeAppeals N a12 h11 fun h13 =>
      K (sP h0 11 a0 2 0) h13) (
      KX "java/lang/IllegalStateException" h0))
set_option maxHeartbeats 1000000 in
theorem y_X11_query {ad : Nat → Nat → Nat → Nat} {h : Hp} {V : Nat → Nat} {h0 : St} {N : Nat} (W : Wf ad h V h0) {a0 a0_ : Nat} {K : Int32 → Hp → Prop} {K9 : Int32 → St → Prop} {KX : String → Hp → Prop} {KX9 : String → St → Prop} (hw : z_X11_query N a0_ h0 K9 KX9) (hk : ∀ (r0 : Int32), ∀ (ad9 : Nat → Nat → Nat → Nat) (V9 : Nat → Nat) (h9 : Hp) (s9 : St), Wf ad9 h9 V9 s9 → Ext ad V ad9 V9 → K9 r0 s9 →  K r0 h9) (hkx : ∀ (E : String) (ad9 : Nat → Nat → Nat → Nat) (V9 : Nat → Nat) (h9 : Hp) (s9 : St), Wf ad9 h9 V9 s9 → Ext ad V ad9 V9 → KX9 E s9 → KX E h9) (e0 : a0 = ad 11 a0_ 0) (l0 : a0_ < V 11) : w_X11_query N a0 h K KX := by
  subst e0
  unfold z_X11_query at hw
  unfold w_X11_query
  refine l_gI W rfl l0 rfl ?_
  refine l_br hw (fun _ hw => ?_) (fun _ hw => ?_)
  ·
    exact hkx _ _ _ _ _ W (ext_refl ad V) hw
  ·
    refine l_gI W rfl l0 rfl ?_
    refine l_gA W rfl l0 (c := 4) rfl (Or.inl rfl) ?_
    refine l_aN W (f := 1) (x := 8) rfl l0 (c := 4) rfl (Or.inr rfl) rfl rfl ?_
    refine l_br hw (fun _ hw => ?_) (fun _ hw => ?_)
    ·
      refine l_gI W rfl l0 rfl ?_
      refine l_gA W rfl l0 (c := 4) rfl (Or.inl rfl) ?_
      refine y_new7 W hw (fun ad4_ V5_ h1_ W2_ E3_ l6_ hw => ?_) 
      refine l_sR W2_ (f := 1) (ext_o E3_ rfl l0 rfl) (ext_l E3_ l0) rfl (r := 7) rfl rfl l6_ rfl rfl hw (fun h8_ W7_ hw => ?_)
      refine l_pI W7_ (ext_o E3_ rfl l0 rfl) (ext_l E3_ l0) rfl hw (fun h10_ W9_ hw => ?_)
      refine l_gO W9_ (ext_o E3_ rfl l0 rfl) (ext_l E3_ l0) rfl (t := 2) rfl hw (fun i12_ l11_ hw => ?_)
      refine l_cv W9_ rfl l11_ rfl ?_
      refine y_X2_closeAppeals W9_ hw (fun h14_ s15_ W13_ hw => ?_) rfl l11_
      exact hk _ _ _ _ _ W13_ (ext_trans (ext_refl ad V) E3_) hw
    ·
      exact hkx _ _ _ _ _ W (ext_refl ad V) hw
def z_X11_needQuery (N : Nat) (a0 : Nat) (p1 : Int32) (h0 : St) (K : Option Nat → St → Prop) (KX : String → St → Prop) : Prop :=
  jn (fun (o1 : Option Nat) =>
    brn o1 (
      KX "java/lang/IndexOutOfBoundsException" h0) (fun a2 =>
      K (some a2) h0)) (fun j23 =>
    jn (
      j23 none) (fun j22 =>
      br (p1 < 0) (
        j22 ) (
        br ((8 : Int32) ≤ p1) (
          j22 ) (
          wI 8 p1 <|
          j23 (sQ h0 11 a0 1 (p1).toNatClampNeg)))))
set_option maxHeartbeats 1000000 in
theorem y_X11_needQuery {ad : Nat → Nat → Nat → Nat} {h : Hp} {V : Nat → Nat} {h0 : St} {N : Nat} (W : Wf ad h V h0) {a0 a0_ : Nat} {p1 : Int32} {K : Option Nat → Hp → Prop} {K9 : Option Nat → St → Prop} {KX : String → Hp → Prop} {KX9 : String → St → Prop} (hw : z_X11_needQuery N a0_ p1 h0 K9 KX9) (hk : ∀ {o9 u9 : Option Nat}, (∀ r, o9 = some r → r < V 7) → ∀ (h9 : Hp) (s9 : St), Wf ad h9 V s9 → K9 o9 s9 → u9 = o9.map (fun j => ad 7 j 0) → K u9 h9) (hkx : ∀ (E : String) (h9 : Hp) (s9 : St), Wf ad h9 V s9 → KX9 E s9 → KX E h9) (e0 : a0 = ad 11 a0_ 0) (l0 : a0_ < V 11) : w_X11_needQuery N a0 p1 h K KX := by
  subst e0
  unfold z_X11_needQuery at hw
  unfold w_X11_needQuery
  refine l_jn (fun (r : Option Nat → Prop) (r9 : Option Nat → Prop) => ∀ (o0 u0 : Option Nat), (∀ r, o0 = some r → r < V 7) → u0 = o0.map (fun j => ad 7 j 0) → r9 o0 → r u0) hw ?_ (fun j5_ j6_ hj7_ hw => ?_)
  ·
    intro o2_ u3_ lp1_ e4_ hw
    subst e4_
    refine l_brn hw (fun e10_ hw => ?_) (fun i8_ e9_ hw => ?_)
    ·
      exact hkx _ _ _ W hw
    ·
      exact hk (lv_some (lp1_ _ e9_)) _ _ W hw rfl
  ·
    refine l_jn (fun (r : Prop) (r9 : Prop) =>  r9  → r ) hw ?_ (fun j11_ j12_ hj13_ hw => ?_)
    ·
      intro hw
      exact hj7_ _ _ lv_none rfl hw
    ·
      refine l_br hw (fun _ hw => ?_) (fun _ hw => ?_)
      ·
        exact hj13_  hw
      ·
        refine l_gA W rfl l0 (c := 4) rfl (Or.inl rfl) ?_
        refine l_aN W (f := 1) (x := 8) rfl l0 (c := 4) rfl (Or.inr rfl) rfl rfl ?_
        refine l_br hw (fun _ hw => ?_) (fun _ hw => ?_)
        ·
          exact hj13_  hw
        ·
          refine l_gA W rfl l0 (c := 4) rfl (Or.inl rfl) ?_
          refine l_aR W (f := 1) rfl l0 rfl (r := 7) rfl hw (fun hw => ?_)
          exact hj7_ _ _ (wf_live W l0 1 _ rfl) rfl hw
def z_X11_from (N : Nat) (a0 : Nat) (p1 : Int32) (p2 : Int32) (h0 : St) (K : Int32 → St → Prop) (KX : String → St → Prop) : Prop :=
  z_X11_needQuery N a0 p1 h0 (fun o1 h2 =>
  z_X11_needTable N a0 p2 h2 (fun o3 h4 =>
  nn o1 fun a5 =>
  z_X7_addPosition N a5 o3 h4 fun v6 h7 =>
  br (v6 = 0) (
    KX "java/lang/IllegalStateException" h7) (
    nn (sQ h7 11 a0 11 0) fun a8 =>
    z_X2_closeAppeals N a8 h7 fun h9 =>
    z_X7_size N a5 h9 fun v10 =>
    K v10 h9)) KX) KX
set_option maxHeartbeats 1000000 in
theorem y_X11_from {ad : Nat → Nat → Nat → Nat} {h : Hp} {V : Nat → Nat} {h0 : St} {N : Nat} (W : Wf ad h V h0) {a0 a0_ : Nat} {p1 : Int32} {p2 : Int32} {K : Int32 → Hp → Prop} {K9 : Int32 → St → Prop} {KX : String → Hp → Prop} {KX9 : String → St → Prop} (hw : z_X11_from N a0_ p1 p2 h0 K9 KX9) (hk : ∀ (r0 : Int32), ∀ (h9 : Hp) (s9 : St), Wf ad h9 V s9 → K9 r0 s9 →  K r0 h9) (hkx : ∀ (E : String) (h9 : Hp) (s9 : St), Wf ad h9 V s9 → KX9 E s9 → KX E h9) (e0 : a0 = ad 11 a0_ 0) (l0 : a0_ < V 11) : w_X11_from N a0 p1 p2 h K KX := by
  subst e0
  unfold z_X11_from at hw
  unfold w_X11_from
  refine l_cv W rfl l0 rfl ?_
  refine y_X11_needQuery W hw (@fun o2_ u4_ lp1_ h6_ s7_ W5_ hw e3_ => ?_) (fun _ _ _ W9 h9 => hkx _ _ _ W9 h9) rfl l0
  subst e3_
  refine l_cv W5_ rfl l0 rfl ?_
  refine y_X11_needTable W5_ hw (@fun o9_ u11_ lp8_ h13_ s14_ W12_ hw e10_ => ?_) (fun _ _ _ W9 h9 => hkx _ _ _ W9 h9) rfl l0
  subst e10_
  refine l_nn hw (fun i15_ e16_ hw => ?_)
  refine l_cv W12_ rfl (lp1_ _ e16_) rfl ?_
  refine y_X7_addPosition W12_ hw (fun v17_ h19_ s20_ W18_ hw => ?_) rfl (lp1_ _ e16_) rfl lp8_
  refine l_br hw (fun _ hw => ?_) (fun _ hw => ?_)
  ·
    exact hkx _ _ _ W18_ hw
  ·
    refine l_gO W18_ rfl l0 rfl (t := 2) rfl hw (fun i22_ l21_ hw => ?_)
    refine l_cv W18_ rfl l21_ rfl ?_
    refine y_X2_closeAppeals W18_ hw (fun h24_ s25_ W23_ hw => ?_) rfl l21_
    refine l_cv W23_ rfl (lp1_ _ e16_) rfl ?_
    refine y_X7_size W23_ hw (fun v26_ hw => ?_) rfl (lp1_ _ e16_)
    exact hk _ _ _ W23_ hw
def z_X11_where (N : Nat) (a0 : Nat) (p1 : Int32) (p2 : Int32) (p3 : Int32) (p4 : Int32) (p5 : Int32) (h0 : St) (K : Int32 → St → Prop) (KX : String → St → Prop) : Prop :=
  z_X11_needQuery N a0 p1 h0 (fun o1 h2 =>
  jn (fun (v3 : Int32) =>
    nn o1 fun a4 =>
    z_X7_hasColumn N a4 p2 p3 h2 fun v5 =>
    br (v5 = 0) (
      KX "java/lang/IllegalArgumentException" h2) (
      br (v3 = 0) (
        KX "java/lang/IllegalArgumentException" h2) (
        z_X11_isValue N p5 h2 fun v6 =>
        br (v6 = 0) (
          KX "java/lang/IllegalArgumentException" h2) (
          z_X7_conditionCount N a4 h2 fun v7 =>
          br (v7 < 4) (
            ok (narrow .char (.int p4) = .int p4 ∧ fits .char (.int p4) = true) <|
            lt_ (sN1 h2 p2 p3 p4 p5) fun h10 =>
            z_X7_addCondition N a4 (some (sV h2 1)) h10 fun h11 =>
            nn (sQ h11 11 a0 11 0) fun a12 =>
            z_X2_closeAppeals N a12 h11 fun h13 =>
            z_X7_conditionCount N a4 h13 fun v14 =>
            K v14 h13) (
            KX "java/lang/IllegalStateException" h2))))) (fun j33 =>
    jn (
      j33 1) (fun j28 =>
      br (p4 = 61) (
        j28 ) (
        br (p4 = 60) (
          j28 ) (
          br (p4 = 62) (
            j28 ) (
            j33 0)))))) KX
set_option maxHeartbeats 1000000 in
theorem y_X11_where {ad : Nat → Nat → Nat → Nat} {h : Hp} {V : Nat → Nat} {h0 : St} {N : Nat} (W : Wf ad h V h0) {a0 a0_ : Nat} {p1 : Int32} {p2 : Int32} {p3 : Int32} {p4 : Int32} {p5 : Int32} {K : Int32 → Hp → Prop} {K9 : Int32 → St → Prop} {KX : String → Hp → Prop} {KX9 : String → St → Prop} (hw : z_X11_where N a0_ p1 p2 p3 p4 p5 h0 K9 KX9) (hk : ∀ (r0 : Int32), ∀ (ad9 : Nat → Nat → Nat → Nat) (V9 : Nat → Nat) (h9 : Hp) (s9 : St), Wf ad9 h9 V9 s9 → Ext ad V ad9 V9 → K9 r0 s9 →  K r0 h9) (hkx : ∀ (E : String) (ad9 : Nat → Nat → Nat → Nat) (V9 : Nat → Nat) (h9 : Hp) (s9 : St), Wf ad9 h9 V9 s9 → Ext ad V ad9 V9 → KX9 E s9 → KX E h9) (e0 : a0 = ad 11 a0_ 0) (l0 : a0_ < V 11) : w_X11_where N a0 p1 p2 p3 p4 p5 h K KX := by
  subst e0
  unfold z_X11_where at hw
  unfold w_X11_where
  refine l_cv W rfl l0 rfl ?_
  refine y_X11_needQuery W hw (@fun o2_ u4_ lp1_ h6_ s7_ W5_ hw e3_ => ?_) (fun _ _ _ W9 h9 => hkx _ _ _ _ _ W9 (ext_refl ad V) h9) rfl l0
  subst e3_
  refine l_jn (fun (r : Int32 → Prop) (r9 : Int32 → Prop) => ∀ (x0 : Int32), r9 x0 → r x0) hw ?_ (fun j9_ j10_ hj11_ hw => ?_)
  ·
    intro x8_ hw
    refine l_nn hw (fun i12_ e13_ hw => ?_)
    refine l_cv W5_ rfl (lp1_ _ e13_) rfl ?_
    refine y_X7_hasColumn W5_ hw (fun v14_ hw => ?_) rfl (lp1_ _ e13_)
    refine l_br hw (fun _ hw => ?_) (fun _ hw => ?_)
    ·
      exact hkx _ _ _ _ _ W5_ (ext_refl ad V) hw
    ·
      refine l_br hw (fun _ hw => ?_) (fun _ hw => ?_)
      ·
        exact hkx _ _ _ _ _ W5_ (ext_refl ad V) hw
      ·
        refine y_X11_isValue W5_ hw (fun v15_ hw => ?_) 
        refine l_br hw (fun _ hw => ?_) (fun _ hw => ?_)
        ·
          exact hkx _ _ _ _ _ W5_ (ext_refl ad V) hw
        ·
          refine l_cv W5_ rfl (lp1_ _ e13_) rfl ?_
          refine y_X7_conditionCount W5_ hw (fun v16_ hw => ?_) rfl (lp1_ _ e13_)
          refine l_br hw (fun _ hw => ?_) (fun _ hw => ?_)
          ·
            refine y_new1 W5_ hw (fun ad20_ V21_ h17_ W18_ E19_ l22_ hw => ?_) 
            refine l_cv W18_ (ext_o E19_ rfl (lp1_ _ e13_) rfl) (ext_l E19_ (lp1_ _ e13_)) rfl ?_
            refine y_X7_addCondition W18_ hw (fun h24_ s25_ W23_ hw => ?_) (ext_o E19_ rfl (lp1_ _ e13_) rfl) (ext_l E19_ (lp1_ _ e13_)) rfl (lv_some l22_)
            refine l_gO W23_ (ext_o E19_ rfl l0 rfl) (ext_l E19_ l0) rfl (t := 2) rfl hw (fun i27_ l26_ hw => ?_)
            refine l_cv W23_ rfl l26_ rfl ?_
            refine y_X2_closeAppeals W23_ hw (fun h29_ s30_ W28_ hw => ?_) rfl l26_
            refine l_cv W28_ (ext_o E19_ rfl (lp1_ _ e13_) rfl) (ext_l E19_ (lp1_ _ e13_)) rfl ?_
            refine y_X7_conditionCount W28_ hw (fun v31_ hw => ?_) (ext_o E19_ rfl (lp1_ _ e13_) rfl) (ext_l E19_ (lp1_ _ e13_))
            exact hk _ _ _ _ _ W28_ (ext_trans (ext_refl ad V) E19_) hw
          ·
            exact hkx _ _ _ _ _ W5_ (ext_refl ad V) hw
  ·
    refine l_jn (fun (r : Prop) (r9 : Prop) =>  r9  → r ) hw ?_ (fun j32_ j33_ hj34_ hw => ?_)
    ·
      intro hw
      exact hj11_ _ hw
    ·
      refine l_br hw (fun _ hw => ?_) (fun _ hw => ?_)
      ·
        exact hj34_  hw
      ·
        refine l_br hw (fun _ hw => ?_) (fun _ hw => ?_)
        ·
          exact hj34_  hw
        ·
          refine l_br hw (fun _ hw => ?_) (fun _ hw => ?_)
          ·
            exact hj34_  hw
          ·
            exact hj11_ _ hw
def z_X11_join (N : Nat) (a0 : Nat) (p1 : Int32) (p2 : Int32) (p3 : Int32) (p4 : Int32) (p5 : Int32) (h0 : St) (K : Int32 → St → Prop) (KX : String → St → Prop) : Prop :=
  z_X11_needQuery N a0 p1 h0 (fun o1 h2 =>
  nn o1 fun a3 =>
  z_X7_hasColumn N a3 p2 p3 h2 fun v4 =>
  br (v4 = 0) (
    KX "java/lang/IllegalArgumentException" h2) (
    z_X7_hasColumn N a3 p4 p5 h2 fun v5 =>
    br (v5 = 0) (
      KX "java/lang/IllegalArgumentException" h2) (
      br (p2 = p4) (
        KX "java/lang/IllegalArgumentException" h2) (
        z_X7_joinCount N a3 h2 fun v6 =>
        br (v6 < 3) (
          lt_ (sN4 h2 p2 p3 p4 p5) fun h9 =>
          z_X7_addJoin N a3 (some (sV h2 4)) h9 fun h10 =>
          nn (sQ h10 11 a0 11 0) fun a11 =>
          z_X2_closeAppeals N a11 h10 fun h12 =>
          z_X7_joinCount N a3 h12 fun v13 =>
          K v13 h12) (
          KX "java/lang/IllegalStateException" h2))))) KX
set_option maxHeartbeats 1000000 in
theorem y_X11_join {ad : Nat → Nat → Nat → Nat} {h : Hp} {V : Nat → Nat} {h0 : St} {N : Nat} (W : Wf ad h V h0) {a0 a0_ : Nat} {p1 : Int32} {p2 : Int32} {p3 : Int32} {p4 : Int32} {p5 : Int32} {K : Int32 → Hp → Prop} {K9 : Int32 → St → Prop} {KX : String → Hp → Prop} {KX9 : String → St → Prop} (hw : z_X11_join N a0_ p1 p2 p3 p4 p5 h0 K9 KX9) (hk : ∀ (r0 : Int32), ∀ (ad9 : Nat → Nat → Nat → Nat) (V9 : Nat → Nat) (h9 : Hp) (s9 : St), Wf ad9 h9 V9 s9 → Ext ad V ad9 V9 → K9 r0 s9 →  K r0 h9) (hkx : ∀ (E : String) (ad9 : Nat → Nat → Nat → Nat) (V9 : Nat → Nat) (h9 : Hp) (s9 : St), Wf ad9 h9 V9 s9 → Ext ad V ad9 V9 → KX9 E s9 → KX E h9) (e0 : a0 = ad 11 a0_ 0) (l0 : a0_ < V 11) : w_X11_join N a0 p1 p2 p3 p4 p5 h K KX := by
  subst e0
  unfold z_X11_join at hw
  unfold w_X11_join
  refine l_cv W rfl l0 rfl ?_
  refine y_X11_needQuery W hw (@fun o2_ u4_ lp1_ h6_ s7_ W5_ hw e3_ => ?_) (fun _ _ _ W9 h9 => hkx _ _ _ _ _ W9 (ext_refl ad V) h9) rfl l0
  subst e3_
  refine l_nn hw (fun i8_ e9_ hw => ?_)
  refine l_cv W5_ rfl (lp1_ _ e9_) rfl ?_
  refine y_X7_hasColumn W5_ hw (fun v10_ hw => ?_) rfl (lp1_ _ e9_)
  refine l_br hw (fun _ hw => ?_) (fun _ hw => ?_)
  ·
    exact hkx _ _ _ _ _ W5_ (ext_refl ad V) hw
  ·
    refine l_cv W5_ rfl (lp1_ _ e9_) rfl ?_
    refine y_X7_hasColumn W5_ hw (fun v11_ hw => ?_) rfl (lp1_ _ e9_)
    refine l_br hw (fun _ hw => ?_) (fun _ hw => ?_)
    ·
      exact hkx _ _ _ _ _ W5_ (ext_refl ad V) hw
    ·
      refine l_br hw (fun _ hw => ?_) (fun _ hw => ?_)
      ·
        exact hkx _ _ _ _ _ W5_ (ext_refl ad V) hw
      ·
        refine l_cv W5_ rfl (lp1_ _ e9_) rfl ?_
        refine y_X7_joinCount W5_ hw (fun v12_ hw => ?_) rfl (lp1_ _ e9_)
        refine l_br hw (fun _ hw => ?_) (fun _ hw => ?_)
        ·
          refine y_new4 W5_ hw (fun ad16_ V17_ h13_ W14_ E15_ l18_ hw => ?_) 
          refine l_cv W14_ (ext_o E15_ rfl (lp1_ _ e9_) rfl) (ext_l E15_ (lp1_ _ e9_)) rfl ?_
          refine y_X7_addJoin W14_ hw (fun h20_ s21_ W19_ hw => ?_) (ext_o E15_ rfl (lp1_ _ e9_) rfl) (ext_l E15_ (lp1_ _ e9_)) rfl (lv_some l18_)
          refine l_gO W19_ (ext_o E15_ rfl l0 rfl) (ext_l E15_ l0) rfl (t := 2) rfl hw (fun i23_ l22_ hw => ?_)
          refine l_cv W19_ rfl l22_ rfl ?_
          refine y_X2_closeAppeals W19_ hw (fun h25_ s26_ W24_ hw => ?_) rfl l22_
          refine l_cv W24_ (ext_o E15_ rfl (lp1_ _ e9_) rfl) (ext_l E15_ (lp1_ _ e9_)) rfl ?_
          refine y_X7_joinCount W24_ hw (fun v27_ hw => ?_) (ext_o E15_ rfl (lp1_ _ e9_) rfl) (ext_l E15_ (lp1_ _ e9_))
          exact hk _ _ _ _ _ W24_ (ext_trans (ext_refl ad V) E15_) hw
        ·
          exact hkx _ _ _ _ _ W5_ (ext_refl ad V) hw
def z_X11_needPositions (N : Nat) (a0 : Nat) (p1 : Int32) (h0 : St) (K : Option Nat → St → Prop) (KX : String → St → Prop) : Prop :=
  z_X11_needQuery N a0 p1 h0 (fun o1 h2 =>
  nn o1 fun a3 =>
  z_X7_size N a3 h2 fun v4 =>
  br (v4 = 0) (
    KX "java/lang/UnsupportedOperationException" h2) (
    K (some a3) h2)) KX
set_option maxHeartbeats 1000000 in
theorem y_X11_needPositions {ad : Nat → Nat → Nat → Nat} {h : Hp} {V : Nat → Nat} {h0 : St} {N : Nat} (W : Wf ad h V h0) {a0 a0_ : Nat} {p1 : Int32} {K : Option Nat → Hp → Prop} {K9 : Option Nat → St → Prop} {KX : String → Hp → Prop} {KX9 : String → St → Prop} (hw : z_X11_needPositions N a0_ p1 h0 K9 KX9) (hk : ∀ {o9 u9 : Option Nat}, (∀ r, o9 = some r → r < V 7) → ∀ (h9 : Hp) (s9 : St), Wf ad h9 V s9 → K9 o9 s9 → u9 = o9.map (fun j => ad 7 j 0) → K u9 h9) (hkx : ∀ (E : String) (h9 : Hp) (s9 : St), Wf ad h9 V s9 → KX9 E s9 → KX E h9) (e0 : a0 = ad 11 a0_ 0) (l0 : a0_ < V 11) : w_X11_needPositions N a0 p1 h K KX := by
  subst e0
  unfold z_X11_needPositions at hw
  unfold w_X11_needPositions
  refine l_cv W rfl l0 rfl ?_
  refine y_X11_needQuery W hw (@fun o2_ u4_ lp1_ h6_ s7_ W5_ hw e3_ => ?_) (fun _ _ _ W9 h9 => hkx _ _ _ W9 h9) rfl l0
  subst e3_
  refine l_nn hw (fun i8_ e9_ hw => ?_)
  refine l_cv W5_ rfl (lp1_ _ e9_) rfl ?_
  refine y_X7_size W5_ hw (fun v10_ hw => ?_) rfl (lp1_ _ e9_)
  refine l_br hw (fun _ hw => ?_) (fun _ hw => ?_)
  ·
    exact hkx _ _ _ W5_ hw
  ·
    exact hk (lv_some (lp1_ _ e9_)) _ _ W5_ hw rfl
def z_X11_answers (N : Nat) (a0 : Nat) (p1 : Int32) (h0 : St) (K : Int32 → St → Prop) (KX : String → St → Prop) : Prop :=
  z_X11_needPositions N a0 p1 h0 (fun o1 h2 =>
  nn (sQ h2 11 a0 6 0) fun a3 =>
  z_X8_tryAllRows N a3 o1 (-1) 0 0 h2 fun h4 =>
  nn (sQ h4 11 a0 6 0) fun a5 =>
  z_X8_foundCount N a5 h4 fun v6 =>
  K v6 h4) KX
set_option maxHeartbeats 1000000 in
theorem y_X11_answers {ad : Nat → Nat → Nat → Nat} {h : Hp} {V : Nat → Nat} {h0 : St} {N : Nat} (W : Wf ad h V h0) {a0 a0_ : Nat} {p1 : Int32} {K : Int32 → Hp → Prop} {K9 : Int32 → St → Prop} {KX : String → Hp → Prop} {KX9 : String → St → Prop} (hw : z_X11_answers N a0_ p1 h0 K9 KX9) (hk : ∀ (r0 : Int32), ∀ (h9 : Hp) (s9 : St), Wf ad h9 V s9 → K9 r0 s9 →  K r0 h9) (hkx : ∀ (E : String) (h9 : Hp) (s9 : St), Wf ad h9 V s9 → KX9 E s9 → KX E h9) (e0 : a0 = ad 11 a0_ 0) (l0 : a0_ < V 11) : w_X11_answers N a0 p1 h K KX := by
  subst e0
  unfold z_X11_answers at hw
  unfold w_X11_answers
  refine l_cv W rfl l0 rfl ?_
  refine y_X11_needPositions W hw (@fun o2_ u4_ lp1_ h6_ s7_ W5_ hw e3_ => ?_) (fun _ _ _ W9 h9 => hkx _ _ _ W9 h9) rfl l0
  subst e3_
  refine l_gO W5_ rfl l0 rfl (t := 8) rfl hw (fun i9_ l8_ hw => ?_)
  refine l_cv W5_ rfl l8_ rfl ?_
  refine y_X8_tryAllRows W5_ hw (fun h11_ s12_ W10_ hw => ?_) rfl l8_ rfl lp1_
  refine l_gO W10_ rfl l0 rfl (t := 8) rfl hw (fun i14_ l13_ hw => ?_)
  refine l_cv W10_ rfl l13_ rfl ?_
  refine y_X8_foundCount W10_ hw (fun v15_ hw => ?_) rfl l13_
  exact hk _ _ _ W10_ hw
def z_X11_answerAt (N : Nat) (a0 : Nat) (p1 : Int32) (p2 : Int32) (p3 : Int32) (h0 : St) (K : Int32 → St → Prop) (KX : String → St → Prop) : Prop :=
  z_X11_needQuery N a0 p1 h0 (fun o1 h2 =>
  nn o1 fun a3 =>
  z_X7_hasPosition N a3 p3 h2 fun v4 =>
  br (v4 = 0) (
    KX "java/lang/IllegalArgumentException" h2) (
    nn (sQ h2 11 a0 6 0) fun a5 =>
    z_X8_tryAllRows N a5 (some a3) p2 p3 0 h2 fun h6 =>
    nn (sQ h6 11 a0 6 0) fun a7 =>
    z_X8_wantedRow N a7 h6 fun v8 =>
    br (v8 = (-1)) (
      KX "java/util/NoSuchElementException" h6) (
      K v8 h6))) KX
set_option maxHeartbeats 1000000 in
theorem y_X11_answerAt {ad : Nat → Nat → Nat → Nat} {h : Hp} {V : Nat → Nat} {h0 : St} {N : Nat} (W : Wf ad h V h0) {a0 a0_ : Nat} {p1 : Int32} {p2 : Int32} {p3 : Int32} {K : Int32 → Hp → Prop} {K9 : Int32 → St → Prop} {KX : String → Hp → Prop} {KX9 : String → St → Prop} (hw : z_X11_answerAt N a0_ p1 p2 p3 h0 K9 KX9) (hk : ∀ (r0 : Int32), ∀ (h9 : Hp) (s9 : St), Wf ad h9 V s9 → K9 r0 s9 →  K r0 h9) (hkx : ∀ (E : String) (h9 : Hp) (s9 : St), Wf ad h9 V s9 → KX9 E s9 → KX E h9) (e0 : a0 = ad 11 a0_ 0) (l0 : a0_ < V 11) : w_X11_answerAt N a0 p1 p2 p3 h K KX := by
  subst e0
  unfold z_X11_answerAt at hw
  unfold w_X11_answerAt
  refine l_cv W rfl l0 rfl ?_
  refine y_X11_needQuery W hw (@fun o2_ u4_ lp1_ h6_ s7_ W5_ hw e3_ => ?_) (fun _ _ _ W9 h9 => hkx _ _ _ W9 h9) rfl l0
  subst e3_
  refine l_nn hw (fun i8_ e9_ hw => ?_)
  refine l_cv W5_ rfl (lp1_ _ e9_) rfl ?_
  refine y_X7_hasPosition W5_ hw (fun v10_ hw => ?_) rfl (lp1_ _ e9_)
  refine l_br hw (fun _ hw => ?_) (fun _ hw => ?_)
  ·
    exact hkx _ _ _ W5_ hw
  ·
    refine l_gO W5_ rfl l0 rfl (t := 8) rfl hw (fun i12_ l11_ hw => ?_)
    refine l_cv W5_ rfl l11_ rfl ?_
    refine y_X8_tryAllRows W5_ hw (fun h14_ s15_ W13_ hw => ?_) rfl l11_ rfl (lv_some (lp1_ _ e9_))
    refine l_gO W13_ rfl l0 rfl (t := 8) rfl hw (fun i17_ l16_ hw => ?_)
    refine l_cv W13_ rfl l16_ rfl ?_
    refine y_X8_wantedRow W13_ hw (fun v18_ hw => ?_) rfl l16_
    refine l_br hw (fun _ hw => ?_) (fun _ hw => ?_)
    ·
      exact hkx _ _ _ W13_ hw
    ·
      exact hk _ _ _ W13_ hw
def z_X11_sum (N : Nat) (a0 : Nat) (p1 : Int32) (p2 : Int32) (p3 : Int32) (h0 : St) (K : Int64 → St → Prop) (KX : String → St → Prop) : Prop :=
  z_X11_needQuery N a0 p1 h0 (fun o1 h2 =>
  nn o1 fun a3 =>
  z_X7_hasColumn N a3 p2 p3 h2 fun v4 =>
  br (v4 = 0) (
    KX "java/lang/IllegalArgumentException" h2) (
    nn (sQ h2 11 a0 6 0) fun a5 =>
    z_X8_tryAllRows N a5 (some a3) (-1) p2 p3 h2 fun h6 =>
    nn (sQ h6 11 a0 6 0) fun a7 =>
    z_X8_columnSum N a7 h6 fun v8 =>
    K v8 h6)) KX
set_option maxHeartbeats 1000000 in
theorem y_X11_sum {ad : Nat → Nat → Nat → Nat} {h : Hp} {V : Nat → Nat} {h0 : St} {N : Nat} (W : Wf ad h V h0) {a0 a0_ : Nat} {p1 : Int32} {p2 : Int32} {p3 : Int32} {K : Int64 → Hp → Prop} {K9 : Int64 → St → Prop} {KX : String → Hp → Prop} {KX9 : String → St → Prop} (hw : z_X11_sum N a0_ p1 p2 p3 h0 K9 KX9) (hk : ∀ (r0 : Int64), ∀ (h9 : Hp) (s9 : St), Wf ad h9 V s9 → K9 r0 s9 →  K r0 h9) (hkx : ∀ (E : String) (h9 : Hp) (s9 : St), Wf ad h9 V s9 → KX9 E s9 → KX E h9) (e0 : a0 = ad 11 a0_ 0) (l0 : a0_ < V 11) : w_X11_sum N a0 p1 p2 p3 h K KX := by
  subst e0
  unfold z_X11_sum at hw
  unfold w_X11_sum
  refine l_cv W rfl l0 rfl ?_
  refine y_X11_needQuery W hw (@fun o2_ u4_ lp1_ h6_ s7_ W5_ hw e3_ => ?_) (fun _ _ _ W9 h9 => hkx _ _ _ W9 h9) rfl l0
  subst e3_
  refine l_nn hw (fun i8_ e9_ hw => ?_)
  refine l_cv W5_ rfl (lp1_ _ e9_) rfl ?_
  refine y_X7_hasColumn W5_ hw (fun v10_ hw => ?_) rfl (lp1_ _ e9_)
  refine l_br hw (fun _ hw => ?_) (fun _ hw => ?_)
  ·
    exact hkx _ _ _ W5_ hw
  ·
    refine l_gO W5_ rfl l0 rfl (t := 8) rfl hw (fun i12_ l11_ hw => ?_)
    refine l_cv W5_ rfl l11_ rfl ?_
    refine y_X8_tryAllRows W5_ hw (fun h14_ s15_ W13_ hw => ?_) rfl l11_ rfl (lv_some (lp1_ _ e9_))
    refine l_gO W13_ rfl l0 rfl (t := 8) rfl hw (fun i17_ l16_ hw => ?_)
    refine l_cv W13_ rfl l16_ rfl ?_
    refine y_X8_columnSum W13_ hw (fun v18_ hw => ?_) rfl l16_
    exact hk _ _ _ W13_ hw
def z_X11_needPlace (N : Nat) (a0 : Nat) (p1 : Int32) (p2 : Int32) (p3 : Int32) (h0 : St) (K : Option Nat → St → Prop) (KX : String → St → Prop) : Prop :=
  z_X11_checkDuellist N p1 h0 (fun h1 =>
  z_X11_needQuery N a0 p2 h1 (fun o2 h3 =>
  nn o2 fun a4 =>
  z_X7_hasPosition N a4 p3 h3 fun v5 =>
  br (v5 = 0) (
    KX "java/util/NoSuchElementException" h3) (
    nn (sQ h3 11 a0 5 0) fun a6 =>
    nn (sQ h3 11 a0 7 0) fun a7 =>
    nn (sQ h3 11 a0 0 0) fun a8 =>
    nn (sQ h3 11 a0 11 0) fun a9 =>
    z_X2_bansFor N a9 p1 h3 fun v10 =>
    z_X6_draw N a6 (some a7) p1 (some a8) (some a4) v10 h3 fun h11 =>
    nn (sQ h11 11 a0 7 0) fun a12 =>
    K (some a12) h11)) KX) KX
set_option maxHeartbeats 1000000 in
theorem y_X11_needPlace {ad : Nat → Nat → Nat → Nat} {h : Hp} {V : Nat → Nat} {h0 : St} {N : Nat} (W : Wf ad h V h0) {a0 a0_ : Nat} {p1 : Int32} {p2 : Int32} {p3 : Int32} {K : Option Nat → Hp → Prop} {K9 : Option Nat → St → Prop} {KX : String → Hp → Prop} {KX9 : String → St → Prop} (hw : z_X11_needPlace N a0_ p1 p2 p3 h0 K9 KX9) (hk : ∀ {o9 u9 : Option Nat}, (∀ r, o9 = some r → r < V 5) → ∀ (h9 : Hp) (s9 : St), Wf ad h9 V s9 → K9 o9 s9 → u9 = o9.map (fun j => ad 5 j 0) → K u9 h9) (hkx : ∀ (E : String) (h9 : Hp) (s9 : St), Wf ad h9 V s9 → KX9 E s9 → KX E h9) (e0 : a0 = ad 11 a0_ 0) (l0 : a0_ < V 11) : w_X11_needPlace N a0 p1 p2 p3 h K KX := by
  subst e0
  unfold z_X11_needPlace at hw
  unfold w_X11_needPlace
  refine y_X11_checkDuellist W hw (fun h2_ s3_ W1_ hw => ?_) (fun _ _ _ W9 h9 => hkx _ _ _ W9 h9) 
  refine l_cv W1_ rfl l0 rfl ?_
  refine y_X11_needQuery W1_ hw (@fun o5_ u7_ lp4_ h9_ s10_ W8_ hw e6_ => ?_) (fun _ _ _ W9 h9 => hkx _ _ _ W9 h9) rfl l0
  subst e6_
  refine l_nn hw (fun i11_ e12_ hw => ?_)
  refine l_cv W8_ rfl (lp4_ _ e12_) rfl ?_
  refine y_X7_hasPosition W8_ hw (fun v13_ hw => ?_) rfl (lp4_ _ e12_)
  refine l_br hw (fun _ hw => ?_) (fun _ hw => ?_)
  ·
    exact hkx _ _ _ W8_ hw
  ·
    refine l_gO W8_ rfl l0 rfl (t := 6) rfl hw (fun i15_ l14_ hw => ?_)
    refine l_gO W8_ rfl l0 rfl (t := 5) rfl hw (fun i17_ l16_ hw => ?_)
    refine l_gO W8_ rfl l0 rfl (t := 9) rfl hw (fun i19_ l18_ hw => ?_)
    refine l_gO W8_ rfl l0 rfl (t := 2) rfl hw (fun i21_ l20_ hw => ?_)
    refine l_cv W8_ rfl l20_ rfl ?_
    refine y_X2_bansFor W8_ hw (fun v22_ hw => ?_) rfl l20_
    refine l_cv W8_ rfl l14_ rfl ?_
    refine y_X6_draw W8_ hw (fun h24_ s25_ W23_ hw => ?_) rfl l14_ rfl (lv_some l16_) rfl (lv_some l18_) rfl (lv_some (lp4_ _ e12_))
    refine l_gO W23_ rfl l0 rfl (t := 5) rfl hw (fun i27_ l26_ hw => ?_)
    exact hk (lv_some l26_) _ _ W23_ hw rfl
def z_X11_planned (N : Nat) (a0 : Nat) (p1 : Int32) (p2 : Int32) (p3 : Int32) (h0 : St) (K : Int32 → St → Prop) (KX : String → St → Prop) : Prop :=
  z_X11_needPlace N a0 p1 p2 p3 h0 (fun o1 h2 =>
  nn o1 fun a3 =>
  z_X5_positionAt N a3 p3 h2 fun v4 =>
  K v4 h2) KX
set_option maxHeartbeats 1000000 in
theorem y_X11_planned {ad : Nat → Nat → Nat → Nat} {h : Hp} {V : Nat → Nat} {h0 : St} {N : Nat} (W : Wf ad h V h0) {a0 a0_ : Nat} {p1 : Int32} {p2 : Int32} {p3 : Int32} {K : Int32 → Hp → Prop} {K9 : Int32 → St → Prop} {KX : String → Hp → Prop} {KX9 : String → St → Prop} (hw : z_X11_planned N a0_ p1 p2 p3 h0 K9 KX9) (hk : ∀ (r0 : Int32), ∀ (h9 : Hp) (s9 : St), Wf ad h9 V s9 → K9 r0 s9 →  K r0 h9) (hkx : ∀ (E : String) (h9 : Hp) (s9 : St), Wf ad h9 V s9 → KX9 E s9 → KX E h9) (e0 : a0 = ad 11 a0_ 0) (l0 : a0_ < V 11) : w_X11_planned N a0 p1 p2 p3 h K KX := by
  subst e0
  unfold z_X11_planned at hw
  unfold w_X11_planned
  refine l_cv W rfl l0 rfl ?_
  refine y_X11_needPlace W hw (@fun o2_ u4_ lp1_ h6_ s7_ W5_ hw e3_ => ?_) (fun _ _ _ W9 h9 => hkx _ _ _ W9 h9) rfl l0
  subst e3_
  refine l_nn hw (fun i8_ e9_ hw => ?_)
  refine l_cv W5_ rfl (lp1_ _ e9_) rfl ?_
  refine y_X5_positionAt W5_ hw (fun v10_ hw => ?_) rfl (lp1_ _ e9_)
  exact hk _ _ _ W5_ hw
def z_X11_way (N : Nat) (a0 : Nat) (p1 : Int32) (p2 : Int32) (p3 : Int32) (h0 : St) (K : Int32 → St → Prop) (KX : String → St → Prop) : Prop :=
  z_X11_needPlace N a0 p1 p2 p3 h0 (fun o1 h2 =>
  nn o1 fun a3 =>
  z_X5_wayAt N a3 p3 h2 fun v4 =>
  ok (narrow .char (.int v4) = .int v4) <|
  K v4 h2) KX
set_option maxHeartbeats 1000000 in
theorem y_X11_way {ad : Nat → Nat → Nat → Nat} {h : Hp} {V : Nat → Nat} {h0 : St} {N : Nat} (W : Wf ad h V h0) {a0 a0_ : Nat} {p1 : Int32} {p2 : Int32} {p3 : Int32} {K : Int32 → Hp → Prop} {K9 : Int32 → St → Prop} {KX : String → Hp → Prop} {KX9 : String → St → Prop} (hw : z_X11_way N a0_ p1 p2 p3 h0 K9 KX9) (hk : ∀ (r0 : Int32), ∀ (h9 : Hp) (s9 : St), Wf ad h9 V s9 → K9 r0 s9 →  K r0 h9) (hkx : ∀ (E : String) (h9 : Hp) (s9 : St), Wf ad h9 V s9 → KX9 E s9 → KX E h9) (e0 : a0 = ad 11 a0_ 0) (l0 : a0_ < V 11) : w_X11_way N a0 p1 p2 p3 h K KX := by
  subst e0
  unfold z_X11_way at hw
  unfold w_X11_way
  refine l_cv W rfl l0 rfl ?_
  refine y_X11_needPlace W hw (@fun o2_ u4_ lp1_ h6_ s7_ W5_ hw e3_ => ?_) (fun _ _ _ W9 h9 => hkx _ _ _ W9 h9) rfl l0
  subst e3_
  refine l_nn hw (fun i8_ e9_ hw => ?_)
  refine l_cv W5_ rfl (lp1_ _ e9_) rfl ?_
  refine y_X5_wayAt W5_ hw (fun v10_ hw => ?_) rfl (lp1_ _ e9_)
  refine l_ok hw (fun _ hw => ?_)
  exact hk _ _ _ W5_ hw
def z_X11_usedIndex (N : Nat) (a0 : Nat) (p1 : Int32) (p2 : Int32) (p3 : Int32) (h0 : St) (K : Int32 → St → Prop) (KX : String → St → Prop) : Prop :=
  z_X11_needPlace N a0 p1 p2 p3 h0 (fun o1 h2 =>
  nn o1 fun a3 =>
  z_X5_indexAt N a3 p3 h2 fun v4 =>
  K v4 h2) KX
set_option maxHeartbeats 1000000 in
theorem y_X11_usedIndex {ad : Nat → Nat → Nat → Nat} {h : Hp} {V : Nat → Nat} {h0 : St} {N : Nat} (W : Wf ad h V h0) {a0 a0_ : Nat} {p1 : Int32} {p2 : Int32} {p3 : Int32} {K : Int32 → Hp → Prop} {K9 : Int32 → St → Prop} {KX : String → Hp → Prop} {KX9 : String → St → Prop} (hw : z_X11_usedIndex N a0_ p1 p2 p3 h0 K9 KX9) (hk : ∀ (r0 : Int32), ∀ (h9 : Hp) (s9 : St), Wf ad h9 V s9 → K9 r0 s9 →  K r0 h9) (hkx : ∀ (E : String) (h9 : Hp) (s9 : St), Wf ad h9 V s9 → KX9 E s9 → KX E h9) (e0 : a0 = ad 11 a0_ 0) (l0 : a0_ < V 11) : w_X11_usedIndex N a0 p1 p2 p3 h K KX := by
  subst e0
  unfold z_X11_usedIndex at hw
  unfold w_X11_usedIndex
  refine l_cv W rfl l0 rfl ?_
  refine y_X11_needPlace W hw (@fun o2_ u4_ lp1_ h6_ s7_ W5_ hw e3_ => ?_) (fun _ _ _ W9 h9 => hkx _ _ _ W9 h9) rfl l0
  subst e3_
  refine l_nn hw (fun i8_ e9_ hw => ?_)
  refine l_cv W5_ rfl (lp1_ _ e9_) rfl ?_
  refine y_X5_indexAt W5_ hw (fun v10_ hw => ?_) rfl (lp1_ _ e9_)
  exact hk _ _ _ W5_ hw
def z_X11_estimate (N : Nat) (a0 : Nat) (p1 : Int32) (p2 : Int32) (h0 : St) (K : Int64 → St → Prop) (KX : String → St → Prop) : Prop :=
  z_X11_checkDuellist N p1 h0 (fun h1 =>
  nn (sQ h1 11 a0 5 0) fun a2 =>
  nn (sQ h1 11 a0 7 0) fun a3 =>
  nn (sQ h1 11 a0 0 0) fun a4 =>
  z_X11_needPositions N a0 p2 h1 (fun o5 h6 =>
  nn (sQ h6 11 a0 11 0) fun a7 =>
  z_X2_bansFor N a7 p1 h6 fun v8 =>
  z_X6_draw N a2 (some a3) p1 (some a4) o5 v8 h6 fun h9 =>
  nn (sQ h9 11 a0 7 0) fun a10 =>
  z_X5_guess N a10 h9 fun v11 =>
  K v11 h9) KX) KX
set_option maxHeartbeats 1000000 in
theorem y_X11_estimate {ad : Nat → Nat → Nat → Nat} {h : Hp} {V : Nat → Nat} {h0 : St} {N : Nat} (W : Wf ad h V h0) {a0 a0_ : Nat} {p1 : Int32} {p2 : Int32} {K : Int64 → Hp → Prop} {K9 : Int64 → St → Prop} {KX : String → Hp → Prop} {KX9 : String → St → Prop} (hw : z_X11_estimate N a0_ p1 p2 h0 K9 KX9) (hk : ∀ (r0 : Int64), ∀ (h9 : Hp) (s9 : St), Wf ad h9 V s9 → K9 r0 s9 →  K r0 h9) (hkx : ∀ (E : String) (h9 : Hp) (s9 : St), Wf ad h9 V s9 → KX9 E s9 → KX E h9) (e0 : a0 = ad 11 a0_ 0) (l0 : a0_ < V 11) : w_X11_estimate N a0 p1 p2 h K KX := by
  subst e0
  unfold z_X11_estimate at hw
  unfold w_X11_estimate
  refine y_X11_checkDuellist W hw (fun h2_ s3_ W1_ hw => ?_) (fun _ _ _ W9 h9 => hkx _ _ _ W9 h9) 
  refine l_gO W1_ rfl l0 rfl (t := 6) rfl hw (fun i5_ l4_ hw => ?_)
  refine l_gO W1_ rfl l0 rfl (t := 5) rfl hw (fun i7_ l6_ hw => ?_)
  refine l_gO W1_ rfl l0 rfl (t := 9) rfl hw (fun i9_ l8_ hw => ?_)
  refine l_cv W1_ rfl l0 rfl ?_
  refine y_X11_needPositions W1_ hw (@fun o11_ u13_ lp10_ h15_ s16_ W14_ hw e12_ => ?_) (fun _ _ _ W9 h9 => hkx _ _ _ W9 h9) rfl l0
  subst e12_
  refine l_gO W14_ rfl l0 rfl (t := 2) rfl hw (fun i18_ l17_ hw => ?_)
  refine l_cv W14_ rfl l17_ rfl ?_
  refine y_X2_bansFor W14_ hw (fun v19_ hw => ?_) rfl l17_
  refine l_cv W14_ rfl l4_ rfl ?_
  refine y_X6_draw W14_ hw (fun h21_ s22_ W20_ hw => ?_) rfl l4_ rfl (lv_some l6_) rfl (lv_some l8_) rfl lp10_
  refine l_gO W20_ rfl l0 rfl (t := 5) rfl hw (fun i24_ l23_ hw => ?_)
  refine l_cv W20_ rfl l23_ rfl ?_
  refine y_X5_guess W20_ hw (fun v25_ hw => ?_) rfl l23_
  exact hk _ _ _ W20_ hw
def z_X11_emptyTrial (N : Nat) (a0 : Nat) (h0 : St) (K : Option Nat → St → Prop) : Prop :=
  nn (sQ h0 11 a0 4 0) fun a1 =>
  z_X0_clear N a1 h0 fun h2 =>
  nn (sQ h2 11 a0 4 0) fun a3 =>
  nn (sQ h2 11 a0 3 0) fun a4 =>
  z_X0_frameCount N a4 h2 fun v5 =>
  z_X0_setFrames N a3 v5 h2 fun h6 =>
  nn (sQ h6 11 a0 4 0) fun a7 =>
  K (some a7) h6
set_option maxHeartbeats 1000000 in
theorem y_X11_emptyTrial {ad : Nat → Nat → Nat → Nat} {h : Hp} {V : Nat → Nat} {h0 : St} {N : Nat} (W : Wf ad h V h0) {a0 a0_ : Nat} {K : Option Nat → Hp → Prop} {K9 : Option Nat → St → Prop} (hw : z_X11_emptyTrial N a0_ h0 K9) (hk : ∀ {o9 u9 : Option Nat}, (∀ r, o9 = some r → r < V 0) → ∀ (h9 : Hp) (s9 : St), Wf ad h9 V s9 → K9 o9 s9 → u9 = o9.map (fun j => ad 0 j 0) → K u9 h9) (e0 : a0 = ad 11 a0_ 0) (l0 : a0_ < V 11) : w_X11_emptyTrial N a0 h K := by
  subst e0
  unfold z_X11_emptyTrial at hw
  unfold w_X11_emptyTrial
  refine l_gO W rfl l0 rfl (t := 0) rfl hw (fun i2_ l1_ hw => ?_)
  refine l_cv W rfl l1_ rfl ?_
  refine y_X0_clear W hw (fun h4_ s5_ W3_ hw => ?_) rfl l1_
  refine l_gO W3_ rfl l0 rfl (t := 0) rfl hw (fun i7_ l6_ hw => ?_)
  refine l_gO W3_ rfl l0 rfl (t := 0) rfl hw (fun i9_ l8_ hw => ?_)
  refine l_cv W3_ rfl l8_ rfl ?_
  refine y_X0_frameCount W3_ hw (fun v10_ hw => ?_) rfl l8_
  refine l_cv W3_ rfl l6_ rfl ?_
  refine y_X0_setFrames W3_ hw (fun h12_ s13_ W11_ hw => ?_) rfl l6_
  refine l_gO W11_ rfl l0 rfl (t := 0) rfl hw (fun i15_ l14_ hw => ?_)
  exact hk (lv_some l14_) _ _ W11_ hw rfl
def z_X11_runCold (N : Nat) (a0 : Nat) (p1 : Int32) (p2 : Option Nat) (h0 : St) (K : St → Prop) : Prop :=
  nn (sQ h0 11 a0 5 0) fun a1 =>
  nn (sQ h0 11 a0 7 0) fun a2 =>
  nn (sQ h0 11 a0 0 0) fun a3 =>
  nn (sQ h0 11 a0 11 0) fun a4 =>
  z_X2_bansFor N a4 p1 h0 fun v5 =>
  z_X6_draw N a1 (some a2) p1 (some a3) p2 v5 h0 fun h6 =>
  nn (sQ h6 11 a0 6 0) fun a7 =>
  nn (sQ h6 11 a0 0 0) fun a8 =>
  nn (sQ h6 11 a0 7 0) fun a9 =>
  z_X11_emptyTrial N a0 h6 fun o10 h11 =>
  z_X8_follow N a7 (some a8) p2 (some a9) o10 h11 fun v12 h13 =>
  K h13
set_option maxHeartbeats 1000000 in
theorem y_X11_runCold {ad : Nat → Nat → Nat → Nat} {h : Hp} {V : Nat → Nat} {h0 : St} {N : Nat} (W : Wf ad h V h0) {a0 a0_ : Nat} {p1 : Int32} {p2 p2_ : Option Nat} {K : Hp → Prop} {K9 : St → Prop} (hw : z_X11_runCold N a0_ p1 p2_ h0 K9) (hk : ∀ (h9 : Hp) (s9 : St), Wf ad h9 V s9 → K9 s9 →  K h9) (e0 : a0 = ad 11 a0_ 0) (l0 : a0_ < V 11) (e_p2 : p2 = p2_.map (fun j => ad 7 j 0)) (l_p2 : ∀ r, p2_ = some r → r < V 7) : w_X11_runCold N a0 p1 p2 h K := by
  subst e0 e_p2
  unfold z_X11_runCold at hw
  unfold w_X11_runCold
  refine l_gO W rfl l0 rfl (t := 6) rfl hw (fun i2_ l1_ hw => ?_)
  refine l_gO W rfl l0 rfl (t := 5) rfl hw (fun i4_ l3_ hw => ?_)
  refine l_gO W rfl l0 rfl (t := 9) rfl hw (fun i6_ l5_ hw => ?_)
  refine l_gO W rfl l0 rfl (t := 2) rfl hw (fun i8_ l7_ hw => ?_)
  refine l_cv W rfl l7_ rfl ?_
  refine y_X2_bansFor W hw (fun v9_ hw => ?_) rfl l7_
  refine l_cv W rfl l1_ rfl ?_
  refine y_X6_draw W hw (fun h11_ s12_ W10_ hw => ?_) rfl l1_ rfl (lv_some l3_) rfl (lv_some l5_) rfl l_p2
  refine l_gO W10_ rfl l0 rfl (t := 8) rfl hw (fun i14_ l13_ hw => ?_)
  refine l_gO W10_ rfl l0 rfl (t := 9) rfl hw (fun i16_ l15_ hw => ?_)
  refine l_gO W10_ rfl l0 rfl (t := 5) rfl hw (fun i18_ l17_ hw => ?_)
  refine l_cv W10_ rfl l0 rfl ?_
  refine y_X11_emptyTrial W10_ hw (@fun o20_ u22_ lp19_ h24_ s25_ W23_ hw e21_ => ?_) rfl l0
  subst e21_
  refine l_cv W23_ rfl l13_ rfl ?_
  refine y_X8_follow W23_ hw (fun v26_ h28_ s29_ W27_ hw => ?_) rfl l13_ rfl (lv_some l15_) rfl l_p2 rfl (lv_some l17_) rfl lp19_
  exact hk _ _ W27_ hw
def z_X11_cold (N : Nat) (a0 : Nat) (p1 : Int32) (p2 : Int32) (h0 : St) (K : Int32 → St → Prop) (KX : String → St → Prop) : Prop :=
  z_X11_checkDuellist N p1 h0 (fun h1 =>
  z_X11_needPositions N a0 p2 h1 (fun o2 h3 =>
  z_X11_runCold N a0 p1 o2 h3 fun h4 =>
  nn (sQ h4 11 a0 6 0) fun a5 =>
  z_X8_missCount N a5 h4 fun v6 =>
  K v6 h4) KX) KX
set_option maxHeartbeats 1000000 in
theorem y_X11_cold {ad : Nat → Nat → Nat → Nat} {h : Hp} {V : Nat → Nat} {h0 : St} {N : Nat} (W : Wf ad h V h0) {a0 a0_ : Nat} {p1 : Int32} {p2 : Int32} {K : Int32 → Hp → Prop} {K9 : Int32 → St → Prop} {KX : String → Hp → Prop} {KX9 : String → St → Prop} (hw : z_X11_cold N a0_ p1 p2 h0 K9 KX9) (hk : ∀ (r0 : Int32), ∀ (h9 : Hp) (s9 : St), Wf ad h9 V s9 → K9 r0 s9 →  K r0 h9) (hkx : ∀ (E : String) (h9 : Hp) (s9 : St), Wf ad h9 V s9 → KX9 E s9 → KX E h9) (e0 : a0 = ad 11 a0_ 0) (l0 : a0_ < V 11) : w_X11_cold N a0 p1 p2 h K KX := by
  subst e0
  unfold z_X11_cold at hw
  unfold w_X11_cold
  refine y_X11_checkDuellist W hw (fun h2_ s3_ W1_ hw => ?_) (fun _ _ _ W9 h9 => hkx _ _ _ W9 h9) 
  refine l_cv W1_ rfl l0 rfl ?_
  refine y_X11_needPositions W1_ hw (@fun o5_ u7_ lp4_ h9_ s10_ W8_ hw e6_ => ?_) (fun _ _ _ W9 h9 => hkx _ _ _ W9 h9) rfl l0
  subst e6_
  refine l_cv W8_ rfl l0 rfl ?_
  refine y_X11_runCold W8_ hw (fun h12_ s13_ W11_ hw => ?_) rfl l0 rfl lp4_
  refine l_gO W11_ rfl l0 rfl (t := 8) rfl hw (fun i15_ l14_ hw => ?_)
  refine l_cv W11_ rfl l14_ rfl ?_
  refine y_X8_missCount W11_ hw (fun v16_ hw => ?_) rfl l14_
  exact hk _ _ _ W11_ hw
def z_X11_reads (N : Nat) (a0 : Nat) (p1 : Int32) (p2 : Int32) (h0 : St) (K : Int32 → St → Prop) (KX : String → St → Prop) : Prop :=
  z_X11_checkDuellist N p1 h0 (fun h1 =>
  z_X11_needPositions N a0 p2 h1 (fun o2 h3 =>
  z_X11_runCold N a0 p1 o2 h3 fun h4 =>
  nn (sQ h4 11 a0 6 0) fun a5 =>
  z_X8_readCount N a5 h4 fun v6 =>
  K v6 h4) KX) KX
set_option maxHeartbeats 1000000 in
theorem y_X11_reads {ad : Nat → Nat → Nat → Nat} {h : Hp} {V : Nat → Nat} {h0 : St} {N : Nat} (W : Wf ad h V h0) {a0 a0_ : Nat} {p1 : Int32} {p2 : Int32} {K : Int32 → Hp → Prop} {K9 : Int32 → St → Prop} {KX : String → Hp → Prop} {KX9 : String → St → Prop} (hw : z_X11_reads N a0_ p1 p2 h0 K9 KX9) (hk : ∀ (r0 : Int32), ∀ (h9 : Hp) (s9 : St), Wf ad h9 V s9 → K9 r0 s9 →  K r0 h9) (hkx : ∀ (E : String) (h9 : Hp) (s9 : St), Wf ad h9 V s9 → KX9 E s9 → KX E h9) (e0 : a0 = ad 11 a0_ 0) (l0 : a0_ < V 11) : w_X11_reads N a0 p1 p2 h K KX := by
  subst e0
  unfold z_X11_reads at hw
  unfold w_X11_reads
  refine y_X11_checkDuellist W hw (fun h2_ s3_ W1_ hw => ?_) (fun _ _ _ W9 h9 => hkx _ _ _ W9 h9) 
  refine l_cv W1_ rfl l0 rfl ?_
  refine y_X11_needPositions W1_ hw (@fun o5_ u7_ lp4_ h9_ s10_ W8_ hw e6_ => ?_) (fun _ _ _ W9 h9 => hkx _ _ _ W9 h9) rfl l0
  subst e6_
  refine l_cv W8_ rfl l0 rfl ?_
  refine y_X11_runCold W8_ hw (fun h12_ s13_ W11_ hw => ?_) rfl l0 rfl lp4_
  refine l_gO W11_ rfl l0 rfl (t := 8) rfl hw (fun i15_ l14_ hw => ?_)
  refine l_cv W11_ rfl l14_ rfl ?_
  refine y_X8_readCount W11_ hw (fun v16_ hw => ?_) rfl l14_
  exact hk _ _ _ W11_ hw
def z_X11_ban (N : Nat) (a0 : Nat) (p1 : Int32) (p2 : Int32) (h0 : St) (K : Int32 → St → Prop) (KX : String → St → Prop) : Prop :=
  z_X11_checkDuellist N p1 h0 (fun h1 =>
  z_X11_needIndex N a0 p2 h1 (fun o2 h3 =>
  nn (sQ h3 11 a0 11 0) fun a4 =>
  z_X2_bansFor N a4 (1 - p1) h3 fun v5 =>
  z_X11_isIn N v5 p2 h3 fun v6 =>
  br (v6 = 0) (
    nn (sQ h3 11 a0 11 0) fun a7 =>
    z_X2_bansFor N a7 (1 - p1) h3 fun v8 =>
    z_J6_bitCount_0f7a4 N v8 h3 fun v9 =>
    br (v9 < 2) (
      nn (sQ h3 11 a0 11 0) fun a10 =>
      z_X2_purseOf N a10 p1 h3 fun v11 =>
      br (2 ≤ v11) (
        nn (sQ h3 11 a0 11 0) fun a12 =>
        z_X2_addBan N a12 (1 - p1) p2 h3 fun h13 =>
        nn (sQ h13 11 a0 11 0) fun a14 =>
        z_X2_give N a14 p1 (-2) h13 fun h15 =>
        nn (sQ h15 11 a0 11 0) fun a16 =>
        z_X2_purseOf N a16 p1 h15 fun v17 =>
        K v17 h15) (
        KX "java/lang/IllegalStateException" h3)) (
      KX "java/lang/UnsupportedOperationException" h3)) (
    KX "java/lang/UnsupportedOperationException" h3)) KX) KX
set_option maxHeartbeats 1000000 in
theorem y_X11_ban {ad : Nat → Nat → Nat → Nat} {h : Hp} {V : Nat → Nat} {h0 : St} {N : Nat} (W : Wf ad h V h0) {a0 a0_ : Nat} {p1 : Int32} {p2 : Int32} {K : Int32 → Hp → Prop} {K9 : Int32 → St → Prop} {KX : String → Hp → Prop} {KX9 : String → St → Prop} (hw : z_X11_ban N a0_ p1 p2 h0 K9 KX9) (hk : ∀ (r0 : Int32), ∀ (h9 : Hp) (s9 : St), Wf ad h9 V s9 → K9 r0 s9 →  K r0 h9) (hkx : ∀ (E : String) (h9 : Hp) (s9 : St), Wf ad h9 V s9 → KX9 E s9 → KX E h9) (e0 : a0 = ad 11 a0_ 0) (l0 : a0_ < V 11) : w_X11_ban N a0 p1 p2 h K KX := by
  subst e0
  unfold z_X11_ban at hw
  unfold w_X11_ban
  refine y_X11_checkDuellist W hw (fun h2_ s3_ W1_ hw => ?_) (fun _ _ _ W9 h9 => hkx _ _ _ W9 h9) 
  refine l_cv W1_ rfl l0 rfl ?_
  refine y_X11_needIndex W1_ hw (@fun o5_ u7_ lp4_ h9_ s10_ W8_ hw e6_ => ?_) (fun _ _ _ W9 h9 => hkx _ _ _ W9 h9) rfl l0
  subst e6_
  refine l_gO W8_ rfl l0 rfl (t := 2) rfl hw (fun i12_ l11_ hw => ?_)
  refine l_cv W8_ rfl l11_ rfl ?_
  refine y_X2_bansFor W8_ hw (fun v13_ hw => ?_) rfl l11_
  refine y_X11_isIn W8_ hw (fun v14_ hw => ?_) 
  refine l_br hw (fun _ hw => ?_) (fun _ hw => ?_)
  ·
    refine l_gO W8_ rfl l0 rfl (t := 2) rfl hw (fun i16_ l15_ hw => ?_)
    refine l_cv W8_ rfl l15_ rfl ?_
    refine y_X2_bansFor W8_ hw (fun v17_ hw => ?_) rfl l15_
    refine y_J6_bitCount_0f7a4 W8_ hw (fun v18_ hw => ?_) 
    refine l_br hw (fun _ hw => ?_) (fun _ hw => ?_)
    ·
      refine l_gO W8_ rfl l0 rfl (t := 2) rfl hw (fun i20_ l19_ hw => ?_)
      refine l_cv W8_ rfl l19_ rfl ?_
      refine y_X2_purseOf W8_ hw (fun v21_ hw => ?_) rfl l19_
      refine l_br hw (fun _ hw => ?_) (fun _ hw => ?_)
      ·
        refine l_gO W8_ rfl l0 rfl (t := 2) rfl hw (fun i23_ l22_ hw => ?_)
        refine l_cv W8_ rfl l22_ rfl ?_
        refine y_X2_addBan W8_ hw (fun h25_ s26_ W24_ hw => ?_) rfl l22_
        refine l_gO W24_ rfl l0 rfl (t := 2) rfl hw (fun i28_ l27_ hw => ?_)
        refine l_cv W24_ rfl l27_ rfl ?_
        refine y_X2_give W24_ hw (fun h30_ s31_ W29_ hw => ?_) rfl l27_
        refine l_gO W29_ rfl l0 rfl (t := 2) rfl hw (fun i33_ l32_ hw => ?_)
        refine l_cv W29_ rfl l32_ rfl ?_
        refine y_X2_purseOf W29_ hw (fun v34_ hw => ?_) rfl l32_
        exact hk _ _ _ W29_ hw
      ·
        exact hkx _ _ _ W8_ hw
    ·
      exact hkx _ _ _ W8_ hw
  ·
    exact hkx _ _ _ W8_ hw
def z_X11_round (N : Nat) (a0 : Nat) (p1 : Int32) (h0 : St) (K : Int32 → St → Prop) (KX : String → St → Prop) : Prop :=
  z_X11_needPositions N a0 p1 h0 (fun o1 h2 =>
  nn (sQ h2 11 a0 5 0) fun a3 =>
  nn (sQ h2 11 a0 8 0) fun a4 =>
  nn (sQ h2 11 a0 0 0) fun a5 =>
  nn (sQ h2 11 a0 11 0) fun a6 =>
  z_X2_bansFor N a6 0 h2 fun v7 =>
  z_X6_draw N a3 (some a4) 0 (some a5) o1 v7 h2 fun h8 =>
  nn (sQ h8 11 a0 5 0) fun a9 =>
  nn (sQ h8 11 a0 9 0) fun a10 =>
  nn (sQ h8 11 a0 0 0) fun a11 =>
  nn (sQ h8 11 a0 11 0) fun a12 =>
  z_X2_bansFor N a12 1 h8 fun v13 =>
  z_X6_draw N a9 (some a10) 1 (some a11) o1 v13 h8 fun h14 =>
  lt_ (stQ h14 11 a0 10 0 o1) fun h15 =>
  nn (sQ h15 11 a0 11 0) fun a16 =>
  z_X2_roundCount N a16 h15 fun v17 =>
  jn (fun (v18 : Int32) =>
    nn (sQ h15 11 a0 6 0) fun a19 =>
    nn (sQ h15 11 a0 0 0) fun a20 =>
    jn (fun (o21 : Option Nat) =>
      nn (sQ h15 11 a0 3 0) fun a22 =>
      z_X8_follow N a19 (some a20) o1 o21 (some a22) h15 fun v23 h24 =>
      nn (sQ h24 11 a0 6 0) fun a25 =>
      nn (sQ h24 11 a0 0 0) fun a26 =>
      jn (fun (o27 : Option Nat) =>
        nn (sQ h24 11 a0 3 0) fun a28 =>
        z_X8_follow N a25 (some a26) o1 o27 (some a28) h24 fun v29 h30 =>
        nn (sQ h30 11 a0 11 0) fun a31 =>
        jn (fun (v32 : Int32) =>
          jn (fun (v33 : Int32) =>
            z_X2_endRound N a31 v32 v33 h30 fun h34 =>
            nn (sQ h34 11 a0 11 0) fun a35 =>
            z_X2_winner N a35 h34 fun v36 =>
            K v36 h34) (fun j171 =>
            br (v18 = 0) (
              j171 v23) (
              j171 v29))) (fun j160 =>
          br (v18 = 0) (
            j160 v29) (
            j160 v23))) (fun j136 =>
        br (v18 = 0) (
          nn (sQ h24 11 a0 8 0) fun a37 =>
          j136 (some a37)) (
          nn (sQ h24 11 a0 9 0) fun a38 =>
          j136 (some a38)))) (fun j103 =>
      br (v18 = 0) (
        nn (sQ h15 11 a0 9 0) fun a39 =>
        j103 (some a39)) (
        nn (sQ h15 11 a0 8 0) fun a40 =>
        j103 (some a40)))) (fun j78 =>
    br ((v17 - v17 / 2 * 2) = 0) (
      j78 1) (
      j78 0))) KX
set_option maxHeartbeats 1000000 in
theorem y_X11_round {ad : Nat → Nat → Nat → Nat} {h : Hp} {V : Nat → Nat} {h0 : St} {N : Nat} (W : Wf ad h V h0) {a0 a0_ : Nat} {p1 : Int32} {K : Int32 → Hp → Prop} {K9 : Int32 → St → Prop} {KX : String → Hp → Prop} {KX9 : String → St → Prop} (hw : z_X11_round N a0_ p1 h0 K9 KX9) (hk : ∀ (r0 : Int32), ∀ (h9 : Hp) (s9 : St), Wf ad h9 V s9 → K9 r0 s9 →  K r0 h9) (hkx : ∀ (E : String) (h9 : Hp) (s9 : St), Wf ad h9 V s9 → KX9 E s9 → KX E h9) (e0 : a0 = ad 11 a0_ 0) (l0 : a0_ < V 11) : w_X11_round N a0 p1 h K KX := by
  subst e0
  unfold z_X11_round at hw
  unfold w_X11_round
  refine l_cv W rfl l0 rfl ?_
  refine y_X11_needPositions W hw (@fun o2_ u4_ lp1_ h6_ s7_ W5_ hw e3_ => ?_) (fun _ _ _ W9 h9 => hkx _ _ _ W9 h9) rfl l0
  subst e3_
  refine l_gO W5_ rfl l0 rfl (t := 6) rfl hw (fun i9_ l8_ hw => ?_)
  refine l_gO W5_ rfl l0 rfl (t := 5) rfl hw (fun i11_ l10_ hw => ?_)
  refine l_gO W5_ rfl l0 rfl (t := 9) rfl hw (fun i13_ l12_ hw => ?_)
  refine l_gO W5_ rfl l0 rfl (t := 2) rfl hw (fun i15_ l14_ hw => ?_)
  refine l_cv W5_ rfl l14_ rfl ?_
  refine y_X2_bansFor W5_ hw (fun v16_ hw => ?_) rfl l14_
  refine l_cv W5_ rfl l8_ rfl ?_
  refine y_X6_draw W5_ hw (fun h18_ s19_ W17_ hw => ?_) rfl l8_ rfl (lv_some l10_) rfl (lv_some l12_) rfl lp1_
  refine l_gO W17_ rfl l0 rfl (t := 6) rfl hw (fun i21_ l20_ hw => ?_)
  refine l_gO W17_ rfl l0 rfl (t := 5) rfl hw (fun i23_ l22_ hw => ?_)
  refine l_gO W17_ rfl l0 rfl (t := 9) rfl hw (fun i25_ l24_ hw => ?_)
  refine l_gO W17_ rfl l0 rfl (t := 2) rfl hw (fun i27_ l26_ hw => ?_)
  refine l_cv W17_ rfl l26_ rfl ?_
  refine y_X2_bansFor W17_ hw (fun v28_ hw => ?_) rfl l26_
  refine l_cv W17_ rfl l20_ rfl ?_
  refine y_X6_draw W17_ hw (fun h30_ s31_ W29_ hw => ?_) rfl l20_ rfl (lv_some l22_) rfl (lv_some l24_) rfl lp1_
  refine l_pR W29_ rfl l0 rfl (t := 7) rfl hw rfl lp1_ (fun h33_ W32_ hw => ?_)
  refine l_gO W32_ rfl l0 rfl (t := 2) rfl hw (fun i35_ l34_ hw => ?_)
  refine l_cv W32_ rfl l34_ rfl ?_
  refine y_X2_roundCount W32_ hw (fun v36_ hw => ?_) rfl l34_
  refine l_jn (fun (r : Int32 → Prop) (r9 : Int32 → Prop) => ∀ (x0 : Int32), r9 x0 → r x0) hw ?_ (fun j38_ j39_ hj40_ hw => ?_)
  ·
    intro x37_ hw
    refine l_gO W32_ rfl l0 rfl (t := 8) rfl hw (fun i42_ l41_ hw => ?_)
    refine l_gO W32_ rfl l0 rfl (t := 9) rfl hw (fun i44_ l43_ hw => ?_)
    refine l_jn (fun (r : Option Nat → Prop) (r9 : Option Nat → Prop) => ∀ (o0 u0 : Option Nat), (∀ r, o0 = some r → r < V 5) → u0 = o0.map (fun j => ad 5 j 0) → r9 o0 → r u0) hw ?_ (fun j49_ j50_ hj51_ hw => ?_)
    ·
      intro o46_ u47_ lp45_ e48_ hw
      subst e48_
      refine l_gO W32_ rfl l0 rfl (t := 0) rfl hw (fun i53_ l52_ hw => ?_)
      refine l_cv W32_ rfl l41_ rfl ?_
      refine y_X8_follow W32_ hw (fun v54_ h56_ s57_ W55_ hw => ?_) rfl l41_ rfl (lv_some l43_) rfl lp1_ rfl lp45_ rfl (lv_some l52_)
      refine l_gO W55_ rfl l0 rfl (t := 8) rfl hw (fun i59_ l58_ hw => ?_)
      refine l_gO W55_ rfl l0 rfl (t := 9) rfl hw (fun i61_ l60_ hw => ?_)
      refine l_jn (fun (r : Option Nat → Prop) (r9 : Option Nat → Prop) => ∀ (o0 u0 : Option Nat), (∀ r, o0 = some r → r < V 5) → u0 = o0.map (fun j => ad 5 j 0) → r9 o0 → r u0) hw ?_ (fun j66_ j67_ hj68_ hw => ?_)
      ·
        intro o63_ u64_ lp62_ e65_ hw
        subst e65_
        refine l_gO W55_ rfl l0 rfl (t := 0) rfl hw (fun i70_ l69_ hw => ?_)
        refine l_cv W55_ rfl l58_ rfl ?_
        refine y_X8_follow W55_ hw (fun v71_ h73_ s74_ W72_ hw => ?_) rfl l58_ rfl (lv_some l60_) rfl lp1_ rfl lp62_ rfl (lv_some l69_)
        refine l_gO W72_ rfl l0 rfl (t := 2) rfl hw (fun i76_ l75_ hw => ?_)
        refine l_jn (fun (r : Int32 → Prop) (r9 : Int32 → Prop) => ∀ (x0 : Int32), r9 x0 → r x0) hw ?_ (fun j78_ j79_ hj80_ hw => ?_)
        ·
          intro x77_ hw
          refine l_jn (fun (r : Int32 → Prop) (r9 : Int32 → Prop) => ∀ (x0 : Int32), r9 x0 → r x0) hw ?_ (fun j82_ j83_ hj84_ hw => ?_)
          ·
            intro x81_ hw
            refine l_cv W72_ rfl l75_ rfl ?_
            refine y_X2_endRound W72_ hw (fun h86_ s87_ W85_ hw => ?_) rfl l75_
            refine l_gO W85_ rfl l0 rfl (t := 2) rfl hw (fun i89_ l88_ hw => ?_)
            refine l_cv W85_ rfl l88_ rfl ?_
            refine y_X2_winner W85_ hw (fun v90_ hw => ?_) rfl l88_
            exact hk _ _ _ W85_ hw
          ·
            refine l_br hw (fun _ hw => ?_) (fun _ hw => ?_)
            ·
              exact hj84_ _ hw
            ·
              exact hj84_ _ hw
        ·
          refine l_br hw (fun _ hw => ?_) (fun _ hw => ?_)
          ·
            exact hj80_ _ hw
          ·
            exact hj80_ _ hw
      ·
        refine l_br hw (fun _ hw => ?_) (fun _ hw => ?_)
        ·
          refine l_gO W55_ rfl l0 rfl (t := 5) rfl hw (fun i92_ l91_ hw => ?_)
          exact hj68_ _ _ (lv_some l91_) rfl hw
        ·
          refine l_gO W55_ rfl l0 rfl (t := 5) rfl hw (fun i94_ l93_ hw => ?_)
          exact hj68_ _ _ (lv_some l93_) rfl hw
    ·
      refine l_br hw (fun _ hw => ?_) (fun _ hw => ?_)
      ·
        refine l_gO W32_ rfl l0 rfl (t := 5) rfl hw (fun i96_ l95_ hw => ?_)
        exact hj51_ _ _ (lv_some l95_) rfl hw
      ·
        refine l_gO W32_ rfl l0 rfl (t := 5) rfl hw (fun i98_ l97_ hw => ?_)
        exact hj51_ _ _ (lv_some l97_) rfl hw
  ·
    refine l_br hw (fun _ hw => ?_) (fun _ hw => ?_)
    ·
      exact hj40_ _ hw
    ·
      exact hj40_ _ hw
def z_X11_appeal (N : Nat) (a0 : Nat) (p1 : Int32) (h0 : St) (K : Int32 → St → Prop) (KX : String → St → Prop) : Prop :=
  z_X11_checkDuellist N p1 h0 (fun h1 =>
  nn (sQ h1 11 a0 11 0) fun a2 =>
  z_X2_isOpenToAppeals N a2 h1 fun v3 =>
  br (v3 = 0) (
    KX "java/lang/UnsupportedOperationException" h1) (
    brn (sQ h1 11 a0 10 0) (
      KX "java/lang/UnsupportedOperationException" h1) (fun a5 =>
      nn (sQ h1 11 a0 11 0) fun a6 =>
      z_X2_purseOf N a6 p1 h1 fun v7 =>
      br (1 ≤ v7) (
        nn (sQ h1 11 a0 6 0) fun a8 =>
        nn (sQ h1 11 a0 0 0) fun a9 =>
        nn (sQ h1 11 a0 8 0) fun a11 =>
        z_X11_emptyTrial N a0 h1 fun o12 h13 =>
        z_X8_follow N a8 (some a9) (sQ h1 11 a0 10 0) (some a11) o12 h13 fun v14 h15 =>
        nn (sQ h15 11 a0 6 0) fun a16 =>
        nn (sQ h15 11 a0 0 0) fun a17 =>
        nn (sQ h15 11 a0 9 0) fun a19 =>
        z_X11_emptyTrial N a0 h15 fun o20 h21 =>
        z_X8_follow N a16 (some a17) (sQ h15 11 a0 10 0) (some a19) o20 h21 fun v22 h23 =>
        nn (sQ h23 11 a0 11 0) fun a24 =>
        z_X2_endAppeal N a24 p1 v14 v22 h23 fun h25 =>
        nn (sQ h25 11 a0 11 0) fun a26 =>
        z_X2_winner N a26 h25 fun v27 =>
        K v27 h25) (
        KX "java/lang/IllegalStateException" h1)))) KX
set_option maxHeartbeats 1000000 in
theorem y_X11_appeal {ad : Nat → Nat → Nat → Nat} {h : Hp} {V : Nat → Nat} {h0 : St} {N : Nat} (W : Wf ad h V h0) {a0 a0_ : Nat} {p1 : Int32} {K : Int32 → Hp → Prop} {K9 : Int32 → St → Prop} {KX : String → Hp → Prop} {KX9 : String → St → Prop} (hw : z_X11_appeal N a0_ p1 h0 K9 KX9) (hk : ∀ (r0 : Int32), ∀ (h9 : Hp) (s9 : St), Wf ad h9 V s9 → K9 r0 s9 →  K r0 h9) (hkx : ∀ (E : String) (h9 : Hp) (s9 : St), Wf ad h9 V s9 → KX9 E s9 → KX E h9) (e0 : a0 = ad 11 a0_ 0) (l0 : a0_ < V 11) : w_X11_appeal N a0 p1 h K KX := by
  subst e0
  unfold z_X11_appeal at hw
  unfold w_X11_appeal
  refine y_X11_checkDuellist W hw (fun h2_ s3_ W1_ hw => ?_) (fun _ _ _ W9 h9 => hkx _ _ _ W9 h9) 
  refine l_gO W1_ rfl l0 rfl (t := 2) rfl hw (fun i5_ l4_ hw => ?_)
  refine l_cv W1_ rfl l4_ rfl ?_
  refine y_X2_isOpenToAppeals W1_ hw (fun v6_ hw => ?_) rfl l4_
  refine l_br hw (fun _ hw => ?_) (fun _ hw => ?_)
  ·
    exact hkx _ _ _ W1_ hw
  ·
    refine l_gR W1_ rfl l0 rfl (t := 7) rfl ?_
    refine l_brn hw (fun e9_ hw => ?_) (fun i7_ e8_ hw => ?_)
    ·
      exact hkx _ _ _ W1_ hw
    ·
      refine l_gO W1_ rfl l0 rfl (t := 2) rfl hw (fun i11_ l10_ hw => ?_)
      refine l_cv W1_ rfl l10_ rfl ?_
      refine y_X2_purseOf W1_ hw (fun v12_ hw => ?_) rfl l10_
      refine l_br hw (fun _ hw => ?_) (fun _ hw => ?_)
      ·
        refine l_gO W1_ rfl l0 rfl (t := 8) rfl hw (fun i14_ l13_ hw => ?_)
        refine l_gO W1_ rfl l0 rfl (t := 9) rfl hw (fun i16_ l15_ hw => ?_)
        refine l_gR W1_ rfl l0 rfl (t := 7) rfl ?_
        refine l_gO W1_ rfl l0 rfl (t := 5) rfl hw (fun i18_ l17_ hw => ?_)
        refine l_cv W1_ rfl l0 rfl ?_
        refine y_X11_emptyTrial W1_ hw (@fun o20_ u22_ lp19_ h24_ s25_ W23_ hw e21_ => ?_) rfl l0
        subst e21_
        refine l_cv W23_ rfl l13_ rfl ?_
        refine y_X8_follow W23_ hw (fun v26_ h28_ s29_ W27_ hw => ?_) rfl l13_ rfl (lv_some l15_) rfl (wf_live W1_ l0 10 0 rfl) rfl (lv_some l17_) rfl lp19_
        refine l_gO W27_ rfl l0 rfl (t := 8) rfl hw (fun i31_ l30_ hw => ?_)
        refine l_gO W27_ rfl l0 rfl (t := 9) rfl hw (fun i33_ l32_ hw => ?_)
        refine l_gR W27_ rfl l0 rfl (t := 7) rfl ?_
        refine l_gO W27_ rfl l0 rfl (t := 5) rfl hw (fun i35_ l34_ hw => ?_)
        refine l_cv W27_ rfl l0 rfl ?_
        refine y_X11_emptyTrial W27_ hw (@fun o37_ u39_ lp36_ h41_ s42_ W40_ hw e38_ => ?_) rfl l0
        subst e38_
        refine l_cv W40_ rfl l30_ rfl ?_
        refine y_X8_follow W40_ hw (fun v43_ h45_ s46_ W44_ hw => ?_) rfl l30_ rfl (lv_some l32_) rfl (wf_live W27_ l0 10 0 rfl) rfl (lv_some l34_) rfl lp36_
        refine l_gO W44_ rfl l0 rfl (t := 2) rfl hw (fun i48_ l47_ hw => ?_)
        refine l_cv W44_ rfl l47_ rfl ?_
        refine y_X2_endAppeal W44_ hw (fun h50_ s51_ W49_ hw => ?_) rfl l47_
        refine l_gO W49_ rfl l0 rfl (t := 2) rfl hw (fun i53_ l52_ hw => ?_)
        refine l_cv W49_ rfl l52_ rfl ?_
        refine y_X2_winner W49_ hw (fun v54_ hw => ?_) rfl l52_
        exact hk _ _ _ W49_ hw
      ·
        exact hkx _ _ _ W1_ hw
def z_X11_coins (N : Nat) (a0 : Nat) (p1 : Int32) (h0 : St) (K : Int32 → St → Prop) (KX : String → St → Prop) : Prop :=
  z_X11_checkDuellist N p1 h0 (fun h1 =>
  nn (sQ h1 11 a0 11 0) fun a2 =>
  z_X2_purseOf N a2 p1 h1 fun v3 =>
  K v3 h1) KX
set_option maxHeartbeats 1000000 in
theorem y_X11_coins {ad : Nat → Nat → Nat → Nat} {h : Hp} {V : Nat → Nat} {h0 : St} {N : Nat} (W : Wf ad h V h0) {a0 a0_ : Nat} {p1 : Int32} {K : Int32 → Hp → Prop} {K9 : Int32 → St → Prop} {KX : String → Hp → Prop} {KX9 : String → St → Prop} (hw : z_X11_coins N a0_ p1 h0 K9 KX9) (hk : ∀ (r0 : Int32), ∀ (h9 : Hp) (s9 : St), Wf ad h9 V s9 → K9 r0 s9 →  K r0 h9) (hkx : ∀ (E : String) (h9 : Hp) (s9 : St), Wf ad h9 V s9 → KX9 E s9 → KX E h9) (e0 : a0 = ad 11 a0_ 0) (l0 : a0_ < V 11) : w_X11_coins N a0 p1 h K KX := by
  subst e0
  unfold z_X11_coins at hw
  unfold w_X11_coins
  refine y_X11_checkDuellist W hw (fun h2_ s3_ W1_ hw => ?_) (fun _ _ _ W9 h9 => hkx _ _ _ W9 h9) 
  refine l_gO W1_ rfl l0 rfl (t := 2) rfl hw (fun i5_ l4_ hw => ?_)
  refine l_cv W1_ rfl l4_ rfl ?_
  refine y_X2_purseOf W1_ hw (fun v6_ hw => ?_) rfl l4_
  exact hk _ _ _ W1_ hw
def z_X11_misses (N : Nat) (a0 : Nat) (p1 : Int32) (p2 : Int32) (h0 : St) (K : Int32 → St → Prop) (KX : String → St → Prop) : Prop :=
  z_X11_checkDuellist N p1 h0 (fun h1 =>
  nn (sQ h1 11 a0 11 0) fun a2 =>
  z_X2_missedIn N a2 p1 p2 h1 fun v3 =>
  br (v3 = (-1)) (
    KX "java/util/NoSuchElementException" h1) (
    K v3 h1)) KX
set_option maxHeartbeats 1000000 in
theorem y_X11_misses {ad : Nat → Nat → Nat → Nat} {h : Hp} {V : Nat → Nat} {h0 : St} {N : Nat} (W : Wf ad h V h0) {a0 a0_ : Nat} {p1 : Int32} {p2 : Int32} {K : Int32 → Hp → Prop} {K9 : Int32 → St → Prop} {KX : String → Hp → Prop} {KX9 : String → St → Prop} (hw : z_X11_misses N a0_ p1 p2 h0 K9 KX9) (hk : ∀ (r0 : Int32), ∀ (h9 : Hp) (s9 : St), Wf ad h9 V s9 → K9 r0 s9 →  K r0 h9) (hkx : ∀ (E : String) (h9 : Hp) (s9 : St), Wf ad h9 V s9 → KX9 E s9 → KX E h9) (e0 : a0 = ad 11 a0_ 0) (l0 : a0_ < V 11) : w_X11_misses N a0 p1 p2 h K KX := by
  subst e0
  unfold z_X11_misses at hw
  unfold w_X11_misses
  refine y_X11_checkDuellist W hw (fun h2_ s3_ W1_ hw => ?_) (fun _ _ _ W9 h9 => hkx _ _ _ W9 h9) 
  refine l_gO W1_ rfl l0 rfl (t := 2) rfl hw (fun i5_ l4_ hw => ?_)
  refine l_cv W1_ rfl l4_ rfl ?_
  refine y_X2_missedIn W1_ hw (fun v6_ hw => ?_) rfl l4_
  refine l_br hw (fun _ hw => ?_) (fun _ hw => ?_)
  ·
    exact hkx _ _ _ W1_ hw
  ·
    exact hk _ _ _ W1_ hw
def z_X11_total (N : Nat) (a0 : Nat) (p1 : Int32) (h0 : St) (K : Int32 → St → Prop) (KX : String → St → Prop) : Prop :=
  z_X11_checkDuellist N p1 h0 (fun h1 =>
  nn (sQ h1 11 a0 11 0) fun a2 =>
  z_X2_missedInAll N a2 p1 h1 fun v3 =>
  K v3 h1) KX
set_option maxHeartbeats 1000000 in
theorem y_X11_total {ad : Nat → Nat → Nat → Nat} {h : Hp} {V : Nat → Nat} {h0 : St} {N : Nat} (W : Wf ad h V h0) {a0 a0_ : Nat} {p1 : Int32} {K : Int32 → Hp → Prop} {K9 : Int32 → St → Prop} {KX : String → Hp → Prop} {KX9 : String → St → Prop} (hw : z_X11_total N a0_ p1 h0 K9 KX9) (hk : ∀ (r0 : Int32), ∀ (h9 : Hp) (s9 : St), Wf ad h9 V s9 → K9 r0 s9 →  K r0 h9) (hkx : ∀ (E : String) (h9 : Hp) (s9 : St), Wf ad h9 V s9 → KX9 E s9 → KX E h9) (e0 : a0 = ad 11 a0_ 0) (l0 : a0_ < V 11) : w_X11_total N a0 p1 h K KX := by
  subst e0
  unfold z_X11_total at hw
  unfold w_X11_total
  refine y_X11_checkDuellist W hw (fun h2_ s3_ W1_ hw => ?_) (fun _ _ _ W9 h9 => hkx _ _ _ W9 h9) 
  refine l_gO W1_ rfl l0 rfl (t := 2) rfl hw (fun i5_ l4_ hw => ?_)
  refine l_cv W1_ rfl l4_ rfl ?_
  refine y_X2_missedInAll W1_ hw (fun v6_ hw => ?_) rfl l4_
  exact hk _ _ _ W1_ hw
def z_X11_rounds (N : Nat) (a0 : Nat) (h0 : St) (K : Int32 → Prop) : Prop :=
  nn (sQ h0 11 a0 11 0) fun a1 =>
  z_X2_roundCount N a1 h0 fun v2 =>
  K v2
set_option maxHeartbeats 1000000 in
theorem y_X11_rounds {ad : Nat → Nat → Nat → Nat} {h : Hp} {V : Nat → Nat} {h0 : St} {N : Nat} (W : Wf ad h V h0) {a0 a0_ : Nat} {K : Int32 → Prop} {K9 : Int32 → Prop} (hw : z_X11_rounds N a0_ h0 K9) (hk : ∀ (r0 : Int32), K9 r0 →  K r0) (e0 : a0 = ad 11 a0_ 0) (l0 : a0_ < V 11) : w_X11_rounds N a0 h K := by
  subst e0
  unfold z_X11_rounds at hw
  unfold w_X11_rounds
  refine l_gO W rfl l0 rfl (t := 2) rfl hw (fun i2_ l1_ hw => ?_)
  refine l_cv W rfl l1_ rfl ?_
  refine y_X2_roundCount W hw (fun v3_ hw => ?_) rfl l1_
  exact hk _ hw
def z_X11_print (N : Nat) (a0 : Nat) (h0 : St) (K : Int64 → Prop) : Prop :=
  nn (sQ h0 11 a0 0 0) fun a1 =>
  z_X9_printFrom N a1 7 h0 fun v2 =>
  nn (sQ h0 11 a0 11 0) fun a3 =>
  z_X2_purseOf N a3 0 h0 fun v4 =>
  nn (sQ h0 11 a0 11 0) fun a5 =>
  z_X2_purseOf N a5 1 h0 fun v6 =>
  K ((31 * ((31 * v2) + ((v4 : Int32).toInt64))) + ((v6 : Int32).toInt64))
set_option maxHeartbeats 1000000 in
theorem y_X11_print {ad : Nat → Nat → Nat → Nat} {h : Hp} {V : Nat → Nat} {h0 : St} {N : Nat} (W : Wf ad h V h0) {a0 a0_ : Nat} {K : Int64 → Prop} {K9 : Int64 → Prop} (hw : z_X11_print N a0_ h0 K9) (hk : ∀ (r0 : Int64), K9 r0 →  K r0) (e0 : a0 = ad 11 a0_ 0) (l0 : a0_ < V 11) : w_X11_print N a0 h K := by
  subst e0
  unfold z_X11_print at hw
  unfold w_X11_print
  refine l_gO W rfl l0 rfl (t := 9) rfl hw (fun i2_ l1_ hw => ?_)
  refine l_cv W rfl l1_ rfl ?_
  refine y_X9_printFrom W hw (fun v3_ hw => ?_) rfl l1_
  refine l_gO W rfl l0 rfl (t := 2) rfl hw (fun i5_ l4_ hw => ?_)
  refine l_cv W rfl l4_ rfl ?_
  refine y_X2_purseOf W hw (fun v6_ hw => ?_) rfl l4_
  refine l_gO W rfl l0 rfl (t := 2) rfl hw (fun i8_ l7_ hw => ?_)
  refine l_cv W rfl l7_ rfl ?_
  refine y_X2_purseOf W hw (fun v9_ hw => ?_) rfl l7_
  exact hk _ hw
def z_X11_hitShare (N : Nat) (a0 : Nat) (p1 : Int32) (p2 : Int32) (h0 : St) (K : UInt32 → St → Prop) (KX : String → St → Prop) : Prop :=
  z_X11_checkDuellist N p1 h0 (fun h1 =>
  z_X11_needPositions N a0 p2 h1 (fun o2 h3 =>
  z_X11_runCold N a0 p1 o2 h3 fun h4 =>
  nn (sQ h4 11 a0 6 0) fun a5 =>
  z_X8_readCount N a5 h4 fun v6 =>
  br (0 < v6) (
    nn (sQ h4 11 a0 6 0) fun a7 =>
    z_X8_missCount N a7 h4 fun v8 =>
    ok (vf_n32 (FP.fdiv (FP.i2f (v6 - v8)) (FP.i2f v6))) <|
    K (FP.fdiv (FP.i2f (v6 - v8)) (FP.i2f v6)) h4) (
    KX "java/lang/ArithmeticException" h4)) KX) KX
set_option maxHeartbeats 1000000 in
theorem y_X11_hitShare {ad : Nat → Nat → Nat → Nat} {h : Hp} {V : Nat → Nat} {h0 : St} {N : Nat} (W : Wf ad h V h0) {a0 a0_ : Nat} {p1 : Int32} {p2 : Int32} {K : UInt32 → Hp → Prop} {K9 : UInt32 → St → Prop} {KX : String → Hp → Prop} {KX9 : String → St → Prop} (hw : z_X11_hitShare N a0_ p1 p2 h0 K9 KX9) (hk : ∀ (r0 : UInt32), ∀ (h9 : Hp) (s9 : St), Wf ad h9 V s9 → K9 r0 s9 →  K r0 h9) (hkx : ∀ (E : String) (h9 : Hp) (s9 : St), Wf ad h9 V s9 → KX9 E s9 → KX E h9) (e0 : a0 = ad 11 a0_ 0) (l0 : a0_ < V 11) : w_X11_hitShare N a0 p1 p2 h K KX := by
  subst e0
  unfold z_X11_hitShare at hw
  unfold w_X11_hitShare
  refine y_X11_checkDuellist W hw (fun h2_ s3_ W1_ hw => ?_) (fun _ _ _ W9 h9 => hkx _ _ _ W9 h9) 
  refine l_cv W1_ rfl l0 rfl ?_
  refine y_X11_needPositions W1_ hw (@fun o5_ u7_ lp4_ h9_ s10_ W8_ hw e6_ => ?_) (fun _ _ _ W9 h9 => hkx _ _ _ W9 h9) rfl l0
  subst e6_
  refine l_cv W8_ rfl l0 rfl ?_
  refine y_X11_runCold W8_ hw (fun h12_ s13_ W11_ hw => ?_) rfl l0 rfl lp4_
  refine l_gO W11_ rfl l0 rfl (t := 8) rfl hw (fun i15_ l14_ hw => ?_)
  refine l_cv W11_ rfl l14_ rfl ?_
  refine y_X8_readCount W11_ hw (fun v16_ hw => ?_) rfl l14_
  refine l_br hw (fun _ hw => ?_) (fun _ hw => ?_)
  ·
    refine l_gO W11_ rfl l0 rfl (t := 8) rfl hw (fun i18_ l17_ hw => ?_)
    refine l_cv W11_ rfl l17_ rfl ?_
    refine y_X8_missCount W11_ hw (fun v19_ hw => ?_) rfl l17_
    refine l_ok hw (fun _ hw => ?_)
    exact hk _ _ _ W11_ hw
  ·
    exact hkx _ _ _ W11_ hw
def z_X11_meanMisses (N : Nat) (a0 : Nat) (h0 : St) (K : UInt64 → St → Prop) (KX : String → St → Prop) : Prop :=
  nn (sQ h0 11 a0 11 0) fun a1 =>
  z_X2_roundCount N a1 h0 fun v2 =>
  br (0 < v2) (
    nn (sQ h0 11 a0 11 0) fun a3 =>
    z_X2_missedInAll N a3 0 h0 fun v4 =>
    nn (sQ h0 11 a0 11 0) fun a5 =>
    z_X2_missedInAll N a5 1 h0 fun v6 =>
    ok (vf_n64 (FP.ddiv (FP.i2d (v4 + v6)) (FP.i2d (2 * v2)))) <|
    K (FP.ddiv (FP.i2d (v4 + v6)) (FP.i2d (2 * v2))) h0) (
    KX "java/lang/ArithmeticException" h0)
set_option maxHeartbeats 1000000 in
theorem y_X11_meanMisses {ad : Nat → Nat → Nat → Nat} {h : Hp} {V : Nat → Nat} {h0 : St} {N : Nat} (W : Wf ad h V h0) {a0 a0_ : Nat} {K : UInt64 → Hp → Prop} {K9 : UInt64 → St → Prop} {KX : String → Hp → Prop} {KX9 : String → St → Prop} (hw : z_X11_meanMisses N a0_ h0 K9 KX9) (hk : ∀ (r0 : UInt64), ∀ (h9 : Hp) (s9 : St), Wf ad h9 V s9 → K9 r0 s9 →  K r0 h9) (hkx : ∀ (E : String) (h9 : Hp) (s9 : St), Wf ad h9 V s9 → KX9 E s9 → KX E h9) (e0 : a0 = ad 11 a0_ 0) (l0 : a0_ < V 11) : w_X11_meanMisses N a0 h K KX := by
  subst e0
  unfold z_X11_meanMisses at hw
  unfold w_X11_meanMisses
  refine l_gO W rfl l0 rfl (t := 2) rfl hw (fun i2_ l1_ hw => ?_)
  refine l_cv W rfl l1_ rfl ?_
  refine y_X2_roundCount W hw (fun v3_ hw => ?_) rfl l1_
  refine l_br hw (fun _ hw => ?_) (fun _ hw => ?_)
  ·
    refine l_gO W rfl l0 rfl (t := 2) rfl hw (fun i5_ l4_ hw => ?_)
    refine l_cv W rfl l4_ rfl ?_
    refine y_X2_missedInAll W hw (fun v6_ hw => ?_) rfl l4_
    refine l_gO W rfl l0 rfl (t := 2) rfl hw (fun i8_ l7_ hw => ?_)
    refine l_cv W rfl l7_ rfl ?_
    refine y_X2_missedInAll W hw (fun v9_ hw => ?_) rfl l7_
    refine l_ok hw (fun _ hw => ?_)
    exact hk _ _ _ W hw
  ·
    exact hkx _ _ _ W hw
def z_X11_bothPlansFind (N : Nat) (a0 : Nat) (p1 : Option Nat) (h0 : St) (K : Int32 → St → Prop) : Prop :=
  nn (sQ h0 11 a0 6 0) fun a1 =>
  z_X8_tryAllRows N a1 p1 (-1) 0 0 h0 fun h2 =>
  nn (sQ h2 11 a0 6 0) fun a3 =>
  z_X8_foundCount N a3 h2 fun v4 =>
  nn (sQ h2 11 a0 6 0) fun a5 =>
  z_X8_foundMark N a5 h2 fun v6 =>
  fx2 (fun (w30 : Int32 → St → Prop) (x8 : Int32) (h7 : St) =>
    br (2 ≤ x8) (
      K 1 h7) (
      nn (sQ h7 11 a0 5 0) fun a9 =>
      nn (sQ h7 11 a0 7 0) fun a10 =>
      nn (sQ h7 11 a0 0 0) fun a11 =>
      nn (sQ h7 11 a0 11 0) fun a12 =>
      z_X2_bansFor N a12 x8 h7 fun v13 =>
      z_X6_draw N a9 (some a10) x8 (some a11) p1 v13 h7 fun h14 =>
      nn (sQ h14 11 a0 6 0) fun a15 =>
      nn (sQ h14 11 a0 0 0) fun a16 =>
      nn (sQ h14 11 a0 7 0) fun a17 =>
      z_X11_emptyTrial N a0 h14 fun o18 h19 =>
      z_X8_follow N a15 (some a16) p1 (some a17) o18 h19 fun v20 h21 =>
      nn (sQ h21 11 a0 6 0) fun a22 =>
      z_X8_foundCount N a22 h21 fun v23 =>
      jn (fun (v24 : Int32) =>
        br (v24 = 0) (
          K 0 h21) (
          nn (sQ h21 11 a0 6 0) fun a25 =>
          z_X8_missCount N a25 h21 fun v26 =>
          nn (sQ h21 11 a0 6 0) fun a27 =>
          z_X8_readCount N a27 h21 fun v28 =>
          br (v28 < v26) (
            K 0 h21) (
            nn (sQ h21 11 a0 7 0) fun a29 =>
            nn (sQ h21 11 a0 11 0) fun a30 =>
            z_X2_bansFor N a30 x8 h21 fun v31 =>
            z_X5_usesAnyOf N a29 v31 h21 fun v32 =>
            br (v32 = 0) (
              w30 (x8 + 1) h21) (
              K 0 h21)))) (fun j112 =>
        jn (
          j112 0) (fun j111 =>
          br (v23 = v4) (
            nn (sQ h21 11 a0 6 0) fun a33 =>
            z_X8_foundMark N a33 h21 fun v34 =>
            br ((lg_cmp v34 v6) = 0) (
              j112 1) (
              j111 )) (
            j111 ))))) N 0 h2
set_option maxHeartbeats 1000000 in
theorem y_X11_bothPlansFind {ad : Nat → Nat → Nat → Nat} {h : Hp} {V : Nat → Nat} {h0 : St} {N : Nat} (W : Wf ad h V h0) {a0 a0_ : Nat} {p1 p1_ : Option Nat} {K : Int32 → Hp → Prop} {K9 : Int32 → St → Prop} (hw : z_X11_bothPlansFind N a0_ p1_ h0 K9) (hk : ∀ (r0 : Int32), ∀ (h9 : Hp) (s9 : St), Wf ad h9 V s9 → K9 r0 s9 →  K r0 h9) (e0 : a0 = ad 11 a0_ 0) (l0 : a0_ < V 11) (e_p1 : p1 = p1_.map (fun j => ad 7 j 0)) (l_p1 : ∀ r, p1_ = some r → r < V 7) : w_X11_bothPlansFind N a0 p1 h K := by
  subst e0 e_p1
  unfold z_X11_bothPlansFind at hw
  unfold w_X11_bothPlansFind
  refine l_gO W rfl l0 rfl (t := 8) rfl hw (fun i2_ l1_ hw => ?_)
  refine l_cv W rfl l1_ rfl ?_
  refine y_X8_tryAllRows W hw (fun h4_ s5_ W3_ hw => ?_) rfl l1_ rfl l_p1
  refine l_gO W3_ rfl l0 rfl (t := 8) rfl hw (fun i7_ l6_ hw => ?_)
  refine l_cv W3_ rfl l6_ rfl ?_
  refine y_X8_foundCount W3_ hw (fun v8_ hw => ?_) rfl l6_
  refine l_gO W3_ rfl l0 rfl (t := 8) rfl hw (fun i10_ l9_ hw => ?_)
  refine l_cv W3_ rfl l9_ rfl ?_
  refine y_X8_foundMark W3_ hw (fun v11_ hw => ?_) rfl l9_
  refine l_fx2 (fun (r : Int32 → Hp → Prop) (r9 : Int32 → St → Prop) => ∀ (x0 : Int32), ∀ (h9 : Hp) (s9 : St), Wf ad h9 V s9 → r9 x0 s9 → r x0 h9) (fun _ _ _ _ h9_ => h9_.elim) ?_ N _ _ _ W3_ hw
  intro w17_ w18_ hv16_ x12_ h14_ s15_ W13_ hw
  refine l_br hw (fun _ hw => ?_) (fun _ hw => ?_)
  ·
    exact hk _ _ _ W13_ hw
  ·
    refine l_gO W13_ rfl l0 rfl (t := 6) rfl hw (fun i20_ l19_ hw => ?_)
    refine l_gO W13_ rfl l0 rfl (t := 5) rfl hw (fun i22_ l21_ hw => ?_)
    refine l_gO W13_ rfl l0 rfl (t := 9) rfl hw (fun i24_ l23_ hw => ?_)
    refine l_gO W13_ rfl l0 rfl (t := 2) rfl hw (fun i26_ l25_ hw => ?_)
    refine l_cv W13_ rfl l25_ rfl ?_
    refine y_X2_bansFor W13_ hw (fun v27_ hw => ?_) rfl l25_
    refine l_cv W13_ rfl l19_ rfl ?_
    refine y_X6_draw W13_ hw (fun h29_ s30_ W28_ hw => ?_) rfl l19_ rfl (lv_some l21_) rfl (lv_some l23_) rfl l_p1
    refine l_gO W28_ rfl l0 rfl (t := 8) rfl hw (fun i32_ l31_ hw => ?_)
    refine l_gO W28_ rfl l0 rfl (t := 9) rfl hw (fun i34_ l33_ hw => ?_)
    refine l_gO W28_ rfl l0 rfl (t := 5) rfl hw (fun i36_ l35_ hw => ?_)
    refine l_cv W28_ rfl l0 rfl ?_
    refine y_X11_emptyTrial W28_ hw (@fun o38_ u40_ lp37_ h42_ s43_ W41_ hw e39_ => ?_) rfl l0
    subst e39_
    refine l_cv W41_ rfl l31_ rfl ?_
    refine y_X8_follow W41_ hw (fun v44_ h46_ s47_ W45_ hw => ?_) rfl l31_ rfl (lv_some l33_) rfl l_p1 rfl (lv_some l35_) rfl lp37_
    refine l_gO W45_ rfl l0 rfl (t := 8) rfl hw (fun i49_ l48_ hw => ?_)
    refine l_cv W45_ rfl l48_ rfl ?_
    refine y_X8_foundCount W45_ hw (fun v50_ hw => ?_) rfl l48_
    refine l_jn (fun (r : Int32 → Prop) (r9 : Int32 → Prop) => ∀ (x0 : Int32), r9 x0 → r x0) hw ?_ (fun j52_ j53_ hj54_ hw => ?_)
    ·
      intro x51_ hw
      refine l_br hw (fun _ hw => ?_) (fun _ hw => ?_)
      ·
        exact hk _ _ _ W45_ hw
      ·
        refine l_gO W45_ rfl l0 rfl (t := 8) rfl hw (fun i56_ l55_ hw => ?_)
        refine l_cv W45_ rfl l55_ rfl ?_
        refine y_X8_missCount W45_ hw (fun v57_ hw => ?_) rfl l55_
        refine l_gO W45_ rfl l0 rfl (t := 8) rfl hw (fun i59_ l58_ hw => ?_)
        refine l_cv W45_ rfl l58_ rfl ?_
        refine y_X8_readCount W45_ hw (fun v60_ hw => ?_) rfl l58_
        refine l_br hw (fun _ hw => ?_) (fun _ hw => ?_)
        ·
          exact hk _ _ _ W45_ hw
        ·
          refine l_gO W45_ rfl l0 rfl (t := 5) rfl hw (fun i62_ l61_ hw => ?_)
          refine l_gO W45_ rfl l0 rfl (t := 2) rfl hw (fun i64_ l63_ hw => ?_)
          refine l_cv W45_ rfl l63_ rfl ?_
          refine y_X2_bansFor W45_ hw (fun v65_ hw => ?_) rfl l63_
          refine l_cv W45_ rfl l61_ rfl ?_
          refine y_X5_usesAnyOf W45_ hw (fun v66_ hw => ?_) rfl l61_
          refine l_br hw (fun _ hw => ?_) (fun _ hw => ?_)
          ·
            exact hv16_ _ _ _ W45_ hw
          ·
            exact hk _ _ _ W45_ hw
    ·
      refine l_jn (fun (r : Prop) (r9 : Prop) =>  r9  → r ) hw ?_ (fun j67_ j68_ hj69_ hw => ?_)
      ·
        intro hw
        exact hj54_ _ hw
      ·
        refine l_br hw (fun _ hw => ?_) (fun _ hw => ?_)
        ·
          refine l_gO W45_ rfl l0 rfl (t := 8) rfl hw (fun i71_ l70_ hw => ?_)
          refine l_cv W45_ rfl l70_ rfl ?_
          refine y_X8_foundMark W45_ hw (fun v72_ hw => ?_) rfl l70_
          refine l_br hw (fun _ hw => ?_) (fun _ hw => ?_)
          ·
            exact hj54_ _ hw
          ·
            exact hj69_  hw
        ·
          exact hj69_  hw
def z_X11_isSound (N : Nat) (a0 : Nat) (h0 : St) (K : Int32 → St → Prop) : Prop :=
  nn (sQ h0 11 a0 3 0) fun a1 =>
  z_X0_isTidy N a1 h0 fun v2 =>
  jn (fun (v3 : Int32) =>
    fx3 (fun (w28 : Int32 → Int32 → St → Prop) (x5 : Int32) (x6 : Int32) (h4 : St) =>
      br (x5 = 0) (
        ok (narrow .boolean (.int x5) = .int x5) <|
        K x5 h4) (
        br ((8 : Int32) ≤ x6) (
          ok (narrow .boolean (.int x5) = .int x5) <|
          K x5 h4) (
          wI 8 x6 <|
          jn (fun (x12 : Int32) (h11 : St) =>
            w28 x12 (x6 + 1) h11) (fun j65 =>
            brn (sQ h4 11 a0 1 (x6).toNatClampNeg) (
              j65 x5 h4) (fun a13 =>
              z_X7_size N a13 h4 fun v14 =>
              br (v14 ≤ 0) (
                j65 x5 h4) (
                z_X11_bothPlansFind N a0 (some a13) h4 fun v15 h16 =>
                j65 v15 h16)))))) N v3 0 h0) (fun j25 =>
    jn (
      j25 0) (fun j24 =>
      br (v2 = 0) (
        j24 ) (
        nn (sQ h0 11 a0 0 0) fun a17 =>
        z_X9_indexesRise N a17 h0 fun v18 =>
        br (v18 = 0) (
          j24 ) (
          j25 1))))
set_option maxHeartbeats 1000000 in
theorem y_X11_isSound {ad : Nat → Nat → Nat → Nat} {h : Hp} {V : Nat → Nat} {h0 : St} {N : Nat} (W : Wf ad h V h0) {a0 a0_ : Nat} {K : Int32 → Hp → Prop} {K9 : Int32 → St → Prop} (hw : z_X11_isSound N a0_ h0 K9) (hk : ∀ (r0 : Int32), ∀ (h9 : Hp) (s9 : St), Wf ad h9 V s9 → K9 r0 s9 →  K r0 h9) (e0 : a0 = ad 11 a0_ 0) (l0 : a0_ < V 11) : w_X11_isSound N a0 h K := by
  subst e0
  unfold z_X11_isSound at hw
  unfold w_X11_isSound
  refine l_gO W rfl l0 rfl (t := 0) rfl hw (fun i2_ l1_ hw => ?_)
  refine l_cv W rfl l1_ rfl ?_
  refine y_X0_isTidy W hw (fun v3_ hw => ?_) rfl l1_
  refine l_jn (fun (r : Int32 → Prop) (r9 : Int32 → Prop) => ∀ (x0 : Int32), r9 x0 → r x0) hw ?_ (fun j5_ j6_ hj7_ hw => ?_)
  ·
    intro x4_ hw
    refine l_fx3 (fun (r : Int32 → Int32 → Hp → Prop) (r9 : Int32 → Int32 → St → Prop) => ∀ (x0 : Int32), ∀ (x1 : Int32), ∀ (h9 : Hp) (s9 : St), Wf ad h9 V s9 → r9 x0 x1 s9 → r x0 x1 h9) (fun _ _ _ _ _ h9_ => h9_.elim) ?_ N _ _ _ _ W hw
    intro w14_ w15_ hv13_ x8_ x9_ h11_ s12_ W10_ hw
    refine l_br hw (fun _ hw => ?_) (fun _ hw => ?_)
    ·
      refine l_ok hw (fun _ hw => ?_)
      exact hk _ _ _ W10_ hw
    ·
      refine l_gA W10_ rfl l0 (c := 4) rfl (Or.inl rfl) ?_
      refine l_aN W10_ (f := 1) (x := 8) rfl l0 (c := 4) rfl (Or.inr rfl) rfl rfl ?_
      refine l_br hw (fun _ hw => ?_) (fun _ hw => ?_)
      ·
        refine l_ok hw (fun _ hw => ?_)
        exact hk _ _ _ W10_ hw
      ·
        refine l_gA W10_ rfl l0 (c := 4) rfl (Or.inl rfl) ?_
        refine l_aR W10_ (f := 1) rfl l0 rfl (r := 7) rfl hw (fun hw => ?_)
        refine l_jn (fun (r : Int32 → Hp → Prop) (r9 : Int32 → St → Prop) => ∀ (x0 : Int32), ∀ (h9 : Hp) (s9 : St), Wf ad h9 V s9 → r9 x0 s9 → r x0 h9) hw ?_ (fun j20_ j21_ hj22_ hw => ?_)
        ·
          intro x16_ h18_ s19_ W17_ hw
          exact hv13_ _ _ _ _ W17_ hw
        ·
          refine l_brn hw (fun e25_ hw => ?_) (fun i23_ e24_ hw => ?_)
          ·
            exact hj22_ _ _ _ W10_ hw
          ·
            refine l_cv W10_ rfl ((wf_live W10_ l0 1 _ rfl) _ e24_) rfl ?_
            refine y_X7_size W10_ hw (fun v26_ hw => ?_) rfl ((wf_live W10_ l0 1 _ rfl) _ e24_)
            refine l_br hw (fun _ hw => ?_) (fun _ hw => ?_)
            ·
              exact hj22_ _ _ _ W10_ hw
            ·
              refine l_cv W10_ rfl l0 rfl ?_
              refine y_X11_bothPlansFind W10_ hw (fun v27_ h29_ s30_ W28_ hw => ?_) rfl l0 rfl (lv_some ((wf_live W10_ l0 1 _ rfl) _ e24_))
              exact hj22_ _ _ _ W28_ hw
  ·
    refine l_jn (fun (r : Prop) (r9 : Prop) =>  r9  → r ) hw ?_ (fun j31_ j32_ hj33_ hw => ?_)
    ·
      intro hw
      exact hj7_ _ hw
    ·
      refine l_br hw (fun _ hw => ?_) (fun _ hw => ?_)
      ·
        exact hj33_  hw
      ·
        refine l_gO W rfl l0 rfl (t := 9) rfl hw (fun i35_ l34_ hw => ?_)
        refine l_cv W rfl l34_ rfl ?_
        refine y_X9_indexesRise W hw (fun v36_ hw => ?_) rfl l34_
        refine l_br hw (fun _ hw => ?_) (fun _ hw => ?_)
        ·
          exact hj33_  hw
        ·
          exact hj7_ _ hw
end Z2
