/-! LEVEL 2, programs over registers (generated). -/
section Z1
def z_X5_size (N : Nat) (a0 : Nat) (h0 : St) (K : Int32 → Prop) : Prop :=
  K (sP h0 5 a0 0 0)
set_option maxHeartbeats 1000000 in
theorem y_X5_size {ad : Nat → Nat → Nat → Nat} {h : Hp} {V : Nat → Nat} {h0 : St} {N : Nat} (W : Wf ad h V h0) {a0 a0_ : Nat} {K : Int32 → Prop} {K9 : Int32 → Prop} (hw : z_X5_size N a0_ h0 K9) (hk : ∀ (r0 : Int32), K9 r0 →  K r0) (e0 : a0 = ad 5 a0_ 0) (l0 : a0_ < V 5) : w_X5_size N a0 h K := by
  subst e0
  unfold z_X5_size at hw
  unfold w_X5_size
  refine l_gI W rfl l0 rfl ?_
  exact hk _ hw
def z_X5_guess (N : Nat) (a0 : Nat) (h0 : St) (K : Int64 → Prop) : Prop :=
  K (sL_ h0 5 a0 6 0)
set_option maxHeartbeats 1000000 in
theorem y_X5_guess {ad : Nat → Nat → Nat → Nat} {h : Hp} {V : Nat → Nat} {h0 : St} {N : Nat} (W : Wf ad h V h0) {a0 a0_ : Nat} {K : Int64 → Prop} {K9 : Int64 → Prop} (hw : z_X5_guess N a0_ h0 K9) (hk : ∀ (r0 : Int64), K9 r0 →  K r0) (e0 : a0 = ad 5 a0_ 0) (l0 : a0_ < V 5) : w_X5_guess N a0 h K := by
  subst e0
  unfold z_X5_guess at hw
  unfold w_X5_guess
  refine l_gL W rfl l0 rfl ?_
  exact hk _ hw
def z_X5_setGuess (N : Nat) (a0 : Nat) (p1 : Int64) (h0 : St) (K : St → Prop) : Prop :=
  lt_ (stL h0 5 a0 6 0 p1) fun h1 =>
  K h1
set_option maxHeartbeats 1000000 in
theorem y_X5_setGuess {ad : Nat → Nat → Nat → Nat} {h : Hp} {V : Nat → Nat} {h0 : St} {N : Nat} (W : Wf ad h V h0) {a0 a0_ : Nat} {p1 : Int64} {K : Hp → Prop} {K9 : St → Prop} (hw : z_X5_setGuess N a0_ p1 h0 K9) (hk : ∀ (h9 : Hp) (s9 : St), Wf ad h9 V s9 → K9 s9 →  K h9) (e0 : a0 = ad 5 a0_ 0) (l0 : a0_ < V 5) : w_X5_setGuess N a0 p1 h K := by
  subst e0
  unfold z_X5_setGuess at hw
  unfold w_X5_setGuess
  refine l_pL W rfl l0 rfl hw (fun h2_ W1_ hw => ?_)
  exact hk _ _ W1_ hw
def z_X5_positionAt (N : Nat) (a0 : Nat) (p1 : Int32) (h0 : St) (K : Int32 → Prop) : Prop :=
  br (p1 < 0) (
    K (-1)) (
    br ((3 : Int32) ≤ p1) (
      K (-1)) (
      wI 3 p1 <|
      K (sP h0 5 a0 1 (p1).toNatClampNeg)))
set_option maxHeartbeats 1000000 in
theorem y_X5_positionAt {ad : Nat → Nat → Nat → Nat} {h : Hp} {V : Nat → Nat} {h0 : St} {N : Nat} (W : Wf ad h V h0) {a0 a0_ : Nat} {p1 : Int32} {K : Int32 → Prop} {K9 : Int32 → Prop} (hw : z_X5_positionAt N a0_ p1 h0 K9) (hk : ∀ (r0 : Int32), K9 r0 →  K r0) (e0 : a0 = ad 5 a0_ 0) (l0 : a0_ < V 5) : w_X5_positionAt N a0 p1 h K := by
  subst e0
  unfold z_X5_positionAt at hw
  unfold w_X5_positionAt
  refine l_br hw (fun _ hw => ?_) (fun _ hw => ?_)
  ·
    exact hk _ hw
  ·
    refine l_gA W rfl l0 (c := 2) rfl (Or.inr rfl) ?_
    refine l_aN W (f := 1) (x := 3) rfl l0 (c := 2) rfl (Or.inl rfl) rfl rfl ?_
    refine l_br hw (fun _ hw => ?_) (fun _ hw => ?_)
    ·
      exact hk _ hw
    ·
      refine l_gA W rfl l0 (c := 2) rfl (Or.inr rfl) ?_
      refine l_aI W (f := 1) rfl l0 rfl hw (fun hw => ?_)
      exact hk _ hw
def z_X5_wayAt (N : Nat) (a0 : Nat) (p1 : Int32) (h0 : St) (K : Int32 → Prop) : Prop :=
  br (p1 < 0) (
    ok (narrow .char (.int 102) = .int 102) <|
    K 102) (
    br ((3 : Int32) ≤ p1) (
      ok (narrow .char (.int 102) = .int 102) <|
      K 102) (
      wI 3 p1 <|
      ok (narrow .char (.int (sP h0 5 a0 3 (p1).toNatClampNeg)) = .int (sP h0 5 a0 3 (p1).toNatClampNeg)) <|
      K (sP h0 5 a0 3 (p1).toNatClampNeg)))
set_option maxHeartbeats 1000000 in
theorem y_X5_wayAt {ad : Nat → Nat → Nat → Nat} {h : Hp} {V : Nat → Nat} {h0 : St} {N : Nat} (W : Wf ad h V h0) {a0 a0_ : Nat} {p1 : Int32} {K : Int32 → Prop} {K9 : Int32 → Prop} (hw : z_X5_wayAt N a0_ p1 h0 K9) (hk : ∀ (r0 : Int32), K9 r0 →  K r0) (e0 : a0 = ad 5 a0_ 0) (l0 : a0_ < V 5) : w_X5_wayAt N a0 p1 h K := by
  subst e0
  unfold z_X5_wayAt at hw
  unfold w_X5_wayAt
  refine l_br hw (fun _ hw => ?_) (fun _ hw => ?_)
  ·
    refine l_ok hw (fun _ hw => ?_)
    exact hk _ hw
  ·
    refine l_gA W rfl l0 (c := 2) rfl (Or.inr rfl) ?_
    refine l_aN W (f := 3) (x := 3) rfl l0 (c := 2) rfl (Or.inl rfl) rfl rfl ?_
    refine l_br hw (fun _ hw => ?_) (fun _ hw => ?_)
    ·
      refine l_ok hw (fun _ hw => ?_)
      exact hk _ hw
    ·
      refine l_gA W rfl l0 (c := 2) rfl (Or.inr rfl) ?_
      refine l_aI W (f := 3) rfl l0 rfl hw (fun hw => ?_)
      refine l_ok hw (fun _ hw => ?_)
      exact hk _ hw
def z_X5_reasonAt (N : Nat) (a0 : Nat) (p1 : Int32) (h0 : St) (K : Int32 → Prop) : Prop :=
  br (p1 < 0) (
    K (-1)) (
    br ((3 : Int32) ≤ p1) (
      K (-1)) (
      wI 3 p1 <|
      K (sP h0 5 a0 4 (p1).toNatClampNeg)))
set_option maxHeartbeats 1000000 in
theorem y_X5_reasonAt {ad : Nat → Nat → Nat → Nat} {h : Hp} {V : Nat → Nat} {h0 : St} {N : Nat} (W : Wf ad h V h0) {a0 a0_ : Nat} {p1 : Int32} {K : Int32 → Prop} {K9 : Int32 → Prop} (hw : z_X5_reasonAt N a0_ p1 h0 K9) (hk : ∀ (r0 : Int32), K9 r0 →  K r0) (e0 : a0 = ad 5 a0_ 0) (l0 : a0_ < V 5) : w_X5_reasonAt N a0 p1 h K := by
  subst e0
  unfold z_X5_reasonAt at hw
  unfold w_X5_reasonAt
  refine l_br hw (fun _ hw => ?_) (fun _ hw => ?_)
  ·
    exact hk _ hw
  ·
    refine l_gA W rfl l0 (c := 2) rfl (Or.inr rfl) ?_
    refine l_aN W (f := 4) (x := 3) rfl l0 (c := 2) rfl (Or.inl rfl) rfl rfl ?_
    refine l_br hw (fun _ hw => ?_) (fun _ hw => ?_)
    ·
      exact hk _ hw
    ·
      refine l_gA W rfl l0 (c := 2) rfl (Or.inr rfl) ?_
      refine l_aI W (f := 4) rfl l0 rfl hw (fun hw => ?_)
      exact hk _ hw
def z_X5_indexAt (N : Nat) (a0 : Nat) (p1 : Int32) (h0 : St) (K : Int32 → Prop) : Prop :=
  br (p1 < 0) (
    K (-1)) (
    br ((3 : Int32) ≤ p1) (
      K (-1)) (
      wI 3 p1 <|
      K (sP h0 5 a0 5 (p1).toNatClampNeg)))
set_option maxHeartbeats 1000000 in
theorem y_X5_indexAt {ad : Nat → Nat → Nat → Nat} {h : Hp} {V : Nat → Nat} {h0 : St} {N : Nat} (W : Wf ad h V h0) {a0 a0_ : Nat} {p1 : Int32} {K : Int32 → Prop} {K9 : Int32 → Prop} (hw : z_X5_indexAt N a0_ p1 h0 K9) (hk : ∀ (r0 : Int32), K9 r0 →  K r0) (e0 : a0 = ad 5 a0_ 0) (l0 : a0_ < V 5) : w_X5_indexAt N a0 p1 h K := by
  subst e0
  unfold z_X5_indexAt at hw
  unfold w_X5_indexAt
  refine l_br hw (fun _ hw => ?_) (fun _ hw => ?_)
  ·
    exact hk _ hw
  ·
    refine l_gA W rfl l0 (c := 2) rfl (Or.inr rfl) ?_
    refine l_aN W (f := 5) (x := 3) rfl l0 (c := 2) rfl (Or.inl rfl) rfl rfl ?_
    refine l_br hw (fun _ hw => ?_) (fun _ hw => ?_)
    ·
      exact hk _ hw
    ·
      refine l_gA W rfl l0 (c := 2) rfl (Or.inr rfl) ?_
      refine l_aI W (f := 5) rfl l0 rfl hw (fun hw => ?_)
      exact hk _ hw
def z_X5_isAhead (N : Nat) (a0 : Nat) (p1 : Int32) (p2 : Int32) (h0 : St) (K : Int32 → Prop) : Prop :=
  br (p1 < 0) (
    K 0) (
    br ((sP h0 5 a0 0 0) ≤ p1) (
      K 0) (
      br ((3 : Int32) ≤ p1) (
        K 0) (
        wI 3 p1 <|
        br (p2 ≤ (sP h0 5 a0 2 (p1).toNatClampNeg)) (
          K 0) (
          K 1))))
set_option maxHeartbeats 1000000 in
theorem y_X5_isAhead {ad : Nat → Nat → Nat → Nat} {h : Hp} {V : Nat → Nat} {h0 : St} {N : Nat} (W : Wf ad h V h0) {a0 a0_ : Nat} {p1 : Int32} {p2 : Int32} {K : Int32 → Prop} {K9 : Int32 → Prop} (hw : z_X5_isAhead N a0_ p1 p2 h0 K9) (hk : ∀ (r0 : Int32), K9 r0 →  K r0) (e0 : a0 = ad 5 a0_ 0) (l0 : a0_ < V 5) : w_X5_isAhead N a0 p1 p2 h K := by
  subst e0
  unfold z_X5_isAhead at hw
  unfold w_X5_isAhead
  refine l_br hw (fun _ hw => ?_) (fun _ hw => ?_)
  ·
    exact hk _ hw
  ·
    refine l_gI W rfl l0 rfl ?_
    refine l_br hw (fun _ hw => ?_) (fun _ hw => ?_)
    ·
      exact hk _ hw
    ·
      refine l_gA W rfl l0 (c := 2) rfl (Or.inr rfl) ?_
      refine l_aN W (f := 2) (x := 3) rfl l0 (c := 2) rfl (Or.inl rfl) rfl rfl ?_
      refine l_br hw (fun _ hw => ?_) (fun _ hw => ?_)
      ·
        exact hk _ hw
      ·
        refine l_gA W rfl l0 (c := 2) rfl (Or.inr rfl) ?_
        refine l_aI W (f := 2) rfl l0 rfl hw (fun hw => ?_)
        refine l_br hw (fun _ hw => ?_) (fun _ hw => ?_)
        ·
          exact hk _ hw
        ·
          exact hk _ hw
def z_X5_usesAnyOf (N : Nat) (a0 : Nat) (p1 : Int32) (h0 : St) (K : Int32 → Prop) : Prop :=
  fx1 (fun (w2 : Int32 → Prop) (x1 : Int32) =>
    br ((sP h0 5 a0 0 0) ≤ x1) (
      K 0) (
      z_X5_indexAt N a0 x1 h0 fun v3 =>
      z_X11_isIn N p1 v3 h0 fun v4 =>
      br (v4 = 0) (
        w2 (x1 + 1)) (
        K 1))) N 0
set_option maxHeartbeats 1000000 in
theorem y_X5_usesAnyOf {ad : Nat → Nat → Nat → Nat} {h : Hp} {V : Nat → Nat} {h0 : St} {N : Nat} (W : Wf ad h V h0) {a0 a0_ : Nat} {p1 : Int32} {K : Int32 → Prop} {K9 : Int32 → Prop} (hw : z_X5_usesAnyOf N a0_ p1 h0 K9) (hk : ∀ (r0 : Int32), K9 r0 →  K r0) (e0 : a0 = ad 5 a0_ 0) (l0 : a0_ < V 5) : w_X5_usesAnyOf N a0 p1 h K := by
  subst e0
  unfold z_X5_usesAnyOf at hw
  unfold w_X5_usesAnyOf
  refine l_fx1 (fun (r : Int32 → Prop) (r9 : Int32 → Prop) => ∀ (x0 : Int32), r9 x0 → r x0) (fun _ h9_ => h9_.elim) ?_ N _ hw
  intro w3_ w4_ hv2_ x1_ hw
  refine l_gI W rfl l0 rfl ?_
  refine l_br hw (fun _ hw => ?_) (fun _ hw => ?_)
  ·
    exact hk _ hw
  ·
    refine l_cv W rfl l0 rfl ?_
    refine y_X5_indexAt W hw (fun v5_ hw => ?_) rfl l0
    refine y_X11_isIn W hw (fun v6_ hw => ?_) 
    refine l_br hw (fun _ hw => ?_) (fun _ hw => ?_)
    ·
      exact hv2_ _ hw
    ·
      exact hk _ hw
def z_X5_setWay (N : Nat) (a0 : Nat) (p1 : Int32) (p2 : Int32) (p3 : Int32) (p4 : Int32) (h0 : St) (K : St → Prop) : Prop :=
  br (p1 < 0) (
    K h0) (
    br (3 ≤ p1) (
      K h0) (
      wA 3 p1 (stP h0 5 a0 3 (p1).toNatClampNeg (vp_nar .char p2)) fun h2 =>
      wA 3 p1 (stP h2 5 a0 4 (p1).toNatClampNeg p3) fun h4 =>
      wA 3 p1 (stP h4 5 a0 5 (p1).toNatClampNeg p4) fun h6 =>
      K h6))
set_option maxHeartbeats 1000000 in
theorem y_X5_setWay {ad : Nat → Nat → Nat → Nat} {h : Hp} {V : Nat → Nat} {h0 : St} {N : Nat} (W : Wf ad h V h0) {a0 a0_ : Nat} {p1 : Int32} {p2 : Int32} {p3 : Int32} {p4 : Int32} {K : Hp → Prop} {K9 : St → Prop} (hw : z_X5_setWay N a0_ p1 p2 p3 p4 h0 K9) (hk : ∀ (h9 : Hp) (s9 : St), Wf ad h9 V s9 → K9 s9 →  K h9) (e0 : a0 = ad 5 a0_ 0) (l0 : a0_ < V 5) : w_X5_setWay N a0 p1 p2 p3 p4 h K := by
  subst e0
  unfold z_X5_setWay at hw
  unfold w_X5_setWay
  refine l_br hw (fun _ hw => ?_) (fun _ hw => ?_)
  ·
    exact hk _ _ W hw
  ·
    refine l_br hw (fun _ hw => ?_) (fun _ hw => ?_)
    ·
      exact hk _ _ W hw
    ·
      refine l_gA W rfl l0 (c := 2) rfl (Or.inr rfl) ?_
      refine l_sI W (f := 3) rfl l0 rfl hw (fun h2_ W1_ hw => ?_)
      refine l_gA W1_ rfl l0 (c := 2) rfl (Or.inr rfl) ?_
      refine l_sI W1_ (f := 4) rfl l0 rfl hw (fun h4_ W3_ hw => ?_)
      refine l_gA W3_ rfl l0 (c := 2) rfl (Or.inr rfl) ?_
      refine l_sI W3_ (f := 5) rfl l0 rfl hw (fun h6_ W5_ hw => ?_)
      exact hk _ _ W5_ hw
def z_X5_takeOrder (N : Nat) (a0 : Nat) (p1 : Int32) (p2 : Int32) (h0 : St) (K : Int32 → St → Prop) : Prop :=
  lt_ (stP h0 5 a0 0 0 p2) fun h1 =>
  fx2 (fun (w7 : Int32 → St → Prop) (x3 : Int32) (h2 : St) =>
    br (3 ≤ x3) (
      K 1 h2) (
      jn (fun (v4 : Int32) =>
        jn (
          br (v4 < 0) (
            K 0 h2) (
            br (v4 < 3) (
              wA 3 x3 (stP h2 5 a0 1 (x3).toNatClampNeg v4) fun h6 =>
              wA 3 v4 (stP h6 5 a0 2 (v4).toNatClampNeg x3) fun h8 =>
              z_X5_setWay N a0 x3 102 (-1) (-1) h8 fun h9 =>
              w7 (x3 + 1) h9) (
              K 0 h2))) (fun j56 =>
          br (x3 < p2) (
            j56 ) (
            br (v4 = x3) (
              j56 ) (
              K 0 h2)))) (fun j43 =>
        jn (
          j43 x3) (fun j42 =>
          br (((p1 * 3) + x3) < 0) (
            j42 ) (
            br (18 ≤ ((p1 * 3) + x3)) (
              j42 ) (
              aO ((p1 * 3) + x3) fun v10 =>
              j43 v10)))))) N 0 h1
set_option maxHeartbeats 1000000 in
theorem y_X5_takeOrder {ad : Nat → Nat → Nat → Nat} {h : Hp} {V : Nat → Nat} {h0 : St} {N : Nat} (W : Wf ad h V h0) {a0 a0_ : Nat} {p1 : Int32} {p2 : Int32} {K : Int32 → Hp → Prop} {K9 : Int32 → St → Prop} (hw : z_X5_takeOrder N a0_ p1 p2 h0 K9) (hk : ∀ (r0 : Int32), ∀ (h9 : Hp) (s9 : St), Wf ad h9 V s9 → K9 r0 s9 →  K r0 h9) (e0 : a0 = ad 5 a0_ 0) (l0 : a0_ < V 5) : w_X5_takeOrder N a0 p1 p2 h K := by
  subst e0
  unfold z_X5_takeOrder at hw
  unfold w_X5_takeOrder
  refine l_pI W rfl l0 rfl hw (fun h2_ W1_ hw => ?_)
  refine l_fx2 (fun (r : Int32 → Hp → Prop) (r9 : Int32 → St → Prop) => ∀ (x0 : Int32), ∀ (h9 : Hp) (s9 : St), Wf ad h9 V s9 → r9 x0 s9 → r x0 h9) (fun _ _ _ _ h9_ => h9_.elim) ?_ N _ _ _ W1_ hw
  intro w8_ w9_ hv7_ x3_ h5_ s6_ W4_ hw
  refine l_br hw (fun _ hw => ?_) (fun _ hw => ?_)
  ·
    exact hk _ _ _ W4_ hw
  ·
    refine l_jn (fun (r : Int32 → Prop) (r9 : Int32 → Prop) => ∀ (x0 : Int32), r9 x0 → r x0) hw ?_ (fun j11_ j12_ hj13_ hw => ?_)
    ·
      intro x10_ hw
      refine l_jn (fun (r : Prop) (r9 : Prop) =>  r9  → r ) hw ?_ (fun j14_ j15_ hj16_ hw => ?_)
      ·
        intro hw
        refine l_br hw (fun _ hw => ?_) (fun _ hw => ?_)
        ·
          exact hk _ _ _ W4_ hw
        ·
          refine l_br hw (fun _ hw => ?_) (fun _ hw => ?_)
          ·
            refine l_gA W4_ rfl l0 (c := 2) rfl (Or.inr rfl) ?_
            refine l_sI W4_ (f := 1) rfl l0 rfl hw (fun h18_ W17_ hw => ?_)
            refine l_gA W17_ rfl l0 (c := 2) rfl (Or.inr rfl) ?_
            refine l_sI W17_ (f := 2) rfl l0 rfl hw (fun h20_ W19_ hw => ?_)
            refine l_cv W19_ rfl l0 rfl ?_
            refine y_X5_setWay W19_ hw (fun h22_ s23_ W21_ hw => ?_) rfl l0
            exact hv7_ _ _ _ W21_ hw
          ·
            exact hk _ _ _ W4_ hw
      ·
        refine l_br hw (fun _ hw => ?_) (fun _ hw => ?_)
        ·
          exact hj16_  hw
        ·
          refine l_br hw (fun _ hw => ?_) (fun _ hw => ?_)
          ·
            exact hj16_  hw
          ·
            exact hk _ _ _ W4_ hw
    ·
      refine l_jn (fun (r : Prop) (r9 : Prop) =>  r9  → r ) hw ?_ (fun j24_ j25_ hj26_ hw => ?_)
      ·
        intro hw
        exact hj13_ _ hw
      ·
        refine l_br hw (fun _ hw => ?_) (fun _ hw => ?_)
        ·
          exact hj26_  hw
        ·
          refine l_br hw (fun _ hw => ?_) (fun _ hw => ?_)
          ·
            exact hj26_  hw
          ·
            refine l_aO hw (fun v27_ hw => ?_)
            exact hj13_ _ hw
def z_X5_copyFrom (N : Nat) (a0 : Nat) (p1 : Option Nat) (h0 : St) (K : St → Prop) : Prop :=
  nn p1 fun a1 =>
  z_X5_size N a1 h0 fun v2 =>
  lt_ (stP h0 5 a0 0 0 v2) fun h3 =>
  z_X5_guess N a1 h3 fun v4 =>
  lt_ (stL h3 5 a0 6 0 v4) fun h5 =>
  fx2 (fun (w18 : Int32 → St → Prop) (x7 : Int32) (h6 : St) =>
    br (3 ≤ x7) (
      K h6) (
      z_X5_positionAt N a1 x7 h6 fun v8 =>
      jn (fun (h9 : St) =>
        z_X5_wayAt N a1 x7 h9 fun v10 =>
        z_X5_reasonAt N a1 x7 h9 fun v11 =>
        z_X5_indexAt N a1 x7 h9 fun v12 =>
        z_X5_setWay N a0 x7 v10 v11 v12 h9 fun h13 =>
        w18 (x7 + 1) h13) (fun j52 =>
        br (v8 < 0) (
          j52 h6) (
          br (3 ≤ v8) (
            j52 h6) (
            wA 3 x7 (stP h6 5 a0 1 (x7).toNatClampNeg v8) fun h15 =>
            wA 3 v8 (stP h15 5 a0 2 (v8).toNatClampNeg x7) fun h17 =>
            j52 h17))))) N 0 h5
set_option maxHeartbeats 1000000 in
theorem y_X5_copyFrom {ad : Nat → Nat → Nat → Nat} {h : Hp} {V : Nat → Nat} {h0 : St} {N : Nat} (W : Wf ad h V h0) {a0 a0_ : Nat} {p1 p1_ : Option Nat} {K : Hp → Prop} {K9 : St → Prop} (hw : z_X5_copyFrom N a0_ p1_ h0 K9) (hk : ∀ (h9 : Hp) (s9 : St), Wf ad h9 V s9 → K9 s9 →  K h9) (e0 : a0 = ad 5 a0_ 0) (l0 : a0_ < V 5) (e_p1 : p1 = p1_.map (fun j => ad 5 j 0)) (l_p1 : ∀ r, p1_ = some r → r < V 5) : w_X5_copyFrom N a0 p1 h K := by
  subst e0 e_p1
  unfold z_X5_copyFrom at hw
  unfold w_X5_copyFrom
  refine l_nn hw (fun i1_ e2_ hw => ?_)
  refine l_cv W rfl (l_p1 _ e2_) rfl ?_
  refine y_X5_size W hw (fun v3_ hw => ?_) rfl (l_p1 _ e2_)
  refine l_pI W rfl l0 rfl hw (fun h5_ W4_ hw => ?_)
  refine l_cv W4_ rfl (l_p1 _ e2_) rfl ?_
  refine y_X5_guess W4_ hw (fun v6_ hw => ?_) rfl (l_p1 _ e2_)
  refine l_pL W4_ rfl l0 rfl hw (fun h8_ W7_ hw => ?_)
  refine l_fx2 (fun (r : Int32 → Hp → Prop) (r9 : Int32 → St → Prop) => ∀ (x0 : Int32), ∀ (h9 : Hp) (s9 : St), Wf ad h9 V s9 → r9 x0 s9 → r x0 h9) (fun _ _ _ _ h9_ => h9_.elim) ?_ N _ _ _ W7_ hw
  intro w14_ w15_ hv13_ x9_ h11_ s12_ W10_ hw
  refine l_br hw (fun _ hw => ?_) (fun _ hw => ?_)
  ·
    exact hk _ _ W10_ hw
  ·
    refine l_cv W10_ rfl (l_p1 _ e2_) rfl ?_
    refine y_X5_positionAt W10_ hw (fun v16_ hw => ?_) rfl (l_p1 _ e2_)
    refine l_jn (fun (r : Hp → Prop) (r9 : St → Prop) => ∀ (h9 : Hp) (s9 : St), Wf ad h9 V s9 → r9 s9 → r h9) hw ?_ (fun j20_ j21_ hj22_ hw => ?_)
    ·
      intro h18_ s19_ W17_ hw
      refine l_cv W17_ rfl (l_p1 _ e2_) rfl ?_
      refine y_X5_wayAt W17_ hw (fun v23_ hw => ?_) rfl (l_p1 _ e2_)
      refine l_cv W17_ rfl (l_p1 _ e2_) rfl ?_
      refine y_X5_reasonAt W17_ hw (fun v24_ hw => ?_) rfl (l_p1 _ e2_)
      refine l_cv W17_ rfl (l_p1 _ e2_) rfl ?_
      refine y_X5_indexAt W17_ hw (fun v25_ hw => ?_) rfl (l_p1 _ e2_)
      refine l_cv W17_ rfl l0 rfl ?_
      refine y_X5_setWay W17_ hw (fun h27_ s28_ W26_ hw => ?_) rfl l0
      exact hv13_ _ _ _ W26_ hw
    ·
      refine l_br hw (fun _ hw => ?_) (fun _ hw => ?_)
      ·
        exact hj22_ _ _ W10_ hw
      ·
        refine l_br hw (fun _ hw => ?_) (fun _ hw => ?_)
        ·
          exact hj22_ _ _ W10_ hw
        ·
          refine l_gA W10_ rfl l0 (c := 2) rfl (Or.inr rfl) ?_
          refine l_sI W10_ (f := 1) rfl l0 rfl hw (fun h30_ W29_ hw => ?_)
          refine l_gA W29_ rfl l0 (c := 2) rfl (Or.inr rfl) ?_
          refine l_sI W29_ (f := 2) rfl l0 rfl hw (fun h32_ W31_ hw => ?_)
          exact hj22_ _ _ W31_ hw
def z_X9_lowestIndexOn (N : Nat) (a0 : Nat) (p1 : Option Nat) (p2 : Int32) (p3 : Int32) (h0 : St) (K : Int32 → Prop) : Prop :=
  fx1 (fun (w3 : Int32 → Prop) (x1 : Int32) =>
    br ((6 : Int32) ≤ x1) (
      K (-1)) (
      wI 6 x1 <|
      jn (
        w3 (x1 + 1)) (fun j49 =>
        brn (sQ h0 9 a0 2 (x1).toNatClampNeg) (
          j49 ) (fun a6 =>
          z_X3_isOn N a6 p1 p2 h0 fun v7 =>
          br (v7 = 0) (
            j49 ) (
            z_X11_isIn N p3 x1 h0 fun v8 =>
            br (v8 = 0) (
              K x1) (
              j49 )))))) N 0
set_option maxHeartbeats 1000000 in
theorem y_X9_lowestIndexOn {ad : Nat → Nat → Nat → Nat} {h : Hp} {V : Nat → Nat} {h0 : St} {N : Nat} (W : Wf ad h V h0) {a0 a0_ : Nat} {p1 p1_ : Option Nat} {p2 : Int32} {p3 : Int32} {K : Int32 → Prop} {K9 : Int32 → Prop} (hw : z_X9_lowestIndexOn N a0_ p1_ p2 p3 h0 K9) (hk : ∀ (r0 : Int32), K9 r0 →  K r0) (e0 : a0 = ad 9 a0_ 0) (l0 : a0_ < V 9) (e_p1 : p1 = p1_.map (fun j => ad 10 j 0)) (l_p1 : ∀ r, p1_ = some r → r < V 10) : w_X9_lowestIndexOn N a0 p1 p2 p3 h K := by
  subst e0 e_p1
  unfold z_X9_lowestIndexOn at hw
  unfold w_X9_lowestIndexOn
  refine l_fx1 (fun (r : Int32 → Prop) (r9 : Int32 → Prop) => ∀ (x0 : Int32), r9 x0 → r x0) (fun _ h9_ => h9_.elim) ?_ N _ hw
  intro w3_ w4_ hv2_ x1_ hw
  refine l_gA W rfl l0 (c := 4) rfl (Or.inl rfl) ?_
  refine l_aN W (f := 2) (x := 6) rfl l0 (c := 4) rfl (Or.inr rfl) rfl rfl ?_
  refine l_br hw (fun _ hw => ?_) (fun _ hw => ?_)
  ·
    exact hk _ hw
  ·
    refine l_gA W rfl l0 (c := 4) rfl (Or.inl rfl) ?_
    refine l_aR W (f := 2) rfl l0 rfl (r := 3) rfl hw (fun hw => ?_)
    refine l_jn (fun (r : Prop) (r9 : Prop) =>  r9  → r ) hw ?_ (fun j5_ j6_ hj7_ hw => ?_)
    ·
      intro hw
      exact hv2_ _ hw
    ·
      refine l_brn hw (fun e10_ hw => ?_) (fun i8_ e9_ hw => ?_)
      ·
        exact hj7_  hw
      ·
        refine l_cv W rfl ((wf_live W l0 2 _ rfl) _ e9_) rfl ?_
        refine y_X3_isOn W hw (fun v11_ hw => ?_) rfl ((wf_live W l0 2 _ rfl) _ e9_) rfl l_p1
        refine l_br hw (fun _ hw => ?_) (fun _ hw => ?_)
        ·
          exact hj7_  hw
        ·
          refine y_X11_isIn W hw (fun v12_ hw => ?_) 
          refine l_br hw (fun _ hw => ?_) (fun _ hw => ?_)
          ·
            exact hk _ hw
          ·
            exact hj7_  hw
def z_X9_indexAt (N : Nat) (a0 : Nat) (p1 : Int32) (h0 : St) (K : Option Nat → Prop) : Prop :=
  br (p1 < 0) (
    K none) (
    br ((6 : Int32) ≤ p1) (
      K none) (
      wI 6 p1 <|
      K (sQ h0 9 a0 2 (p1).toNatClampNeg)))
set_option maxHeartbeats 1000000 in
theorem y_X9_indexAt {ad : Nat → Nat → Nat → Nat} {h : Hp} {V : Nat → Nat} {h0 : St} {N : Nat} (W : Wf ad h V h0) {a0 a0_ : Nat} {p1 : Int32} {K : Option Nat → Prop} {K9 : Option Nat → Prop} (hw : z_X9_indexAt N a0_ p1 h0 K9) (hk : ∀ {o9 u9 : Option Nat}, (∀ r, o9 = some r → r < V 3) → K9 o9 → u9 = o9.map (fun j => ad 3 j 0) → K u9) (e0 : a0 = ad 9 a0_ 0) (l0 : a0_ < V 9) : w_X9_indexAt N a0 p1 h K := by
  subst e0
  unfold z_X9_indexAt at hw
  unfold w_X9_indexAt
  refine l_br hw (fun _ hw => ?_) (fun _ hw => ?_)
  ·
    exact hk lv_none hw rfl
  ·
    refine l_gA W rfl l0 (c := 4) rfl (Or.inl rfl) ?_
    refine l_aN W (f := 2) (x := 6) rfl l0 (c := 4) rfl (Or.inr rfl) rfl rfl ?_
    refine l_br hw (fun _ hw => ?_) (fun _ hw => ?_)
    ·
      exact hk lv_none hw rfl
    ·
      refine l_gA W rfl l0 (c := 4) rfl (Or.inl rfl) ?_
      refine l_aR W (f := 2) rfl l0 rfl (r := 3) rfl hw (fun hw => ?_)
      exact hk (wf_live W l0 2 _ rfl) hw rfl
def z_X9_tableAt (N : Nat) (a0 : Nat) (p1 : Int32) (h0 : St) (K : Option Nat → Prop) : Prop :=
  br (p1 < 0) (
    K none) (
    br ((3 : Int32) ≤ p1) (
      K none) (
      wI 3 p1 <|
      K (sQ h0 9 a0 0 (p1).toNatClampNeg)))
set_option maxHeartbeats 1000000 in
theorem y_X9_tableAt {ad : Nat → Nat → Nat → Nat} {h : Hp} {V : Nat → Nat} {h0 : St} {N : Nat} (W : Wf ad h V h0) {a0 a0_ : Nat} {p1 : Int32} {K : Option Nat → Prop} {K9 : Option Nat → Prop} (hw : z_X9_tableAt N a0_ p1 h0 K9) (hk : ∀ {o9 u9 : Option Nat}, (∀ r, o9 = some r → r < V 10) → K9 o9 → u9 = o9.map (fun j => ad 10 j 0) → K u9) (e0 : a0 = ad 9 a0_ 0) (l0 : a0_ < V 9) : w_X9_tableAt N a0 p1 h K := by
  subst e0
  unfold z_X9_tableAt at hw
  unfold w_X9_tableAt
  refine l_br hw (fun _ hw => ?_) (fun _ hw => ?_)
  ·
    exact hk lv_none hw rfl
  ·
    refine l_gA W rfl l0 (c := 4) rfl (Or.inl rfl) ?_
    refine l_aN W (f := 0) (x := 3) rfl l0 (c := 4) rfl (Or.inr rfl) rfl rfl ?_
    refine l_br hw (fun _ hw => ?_) (fun _ hw => ?_)
    ·
      exact hk lv_none hw rfl
    ·
      refine l_gA W rfl l0 (c := 4) rfl (Or.inl rfl) ?_
      refine l_aR W (f := 0) rfl l0 rfl (r := 10) rfl hw (fun hw => ?_)
      exact hk (wf_live W l0 0 _ rfl) hw rfl
def z_X9_addTable (N : Nat) (a0 : Nat) (p1 : Int32) (h0 : St) (K : Int32 → St → Prop) : Prop :=
  br ((sP h0 9 a0 1 0) < 0) (
    K (-1) h0) (
    br ((sP h0 9 a0 1 0) < (3 : Int32)) (
      lt_ (sN10 h0 (sP h0 9 a0 1 0) p1) fun h7 =>
      wA 3 (sP h0 9 a0 1 0) (stQ h7 9 a0 0 ((sP h0 9 a0 1 0)).toNatClampNeg (some (sV h0 10))) fun h8 =>
      lt_ (stP h8 9 a0 1 0 ((sP h0 9 a0 1 0) + 1)) fun h9 =>
      K (sP h0 9 a0 1 0) h9) (
      K (-1) h0))
set_option maxHeartbeats 1000000 in
theorem y_X9_addTable {ad : Nat → Nat → Nat → Nat} {h : Hp} {V : Nat → Nat} {h0 : St} {N : Nat} (W : Wf ad h V h0) {a0 a0_ : Nat} {p1 : Int32} {K : Int32 → Hp → Prop} {K9 : Int32 → St → Prop} (hw : z_X9_addTable N a0_ p1 h0 K9) (hk : ∀ (r0 : Int32), ∀ (ad9 : Nat → Nat → Nat → Nat) (V9 : Nat → Nat) (h9 : Hp) (s9 : St), Wf ad9 h9 V9 s9 → Ext ad V ad9 V9 → K9 r0 s9 →  K r0 h9) (e0 : a0 = ad 9 a0_ 0) (l0 : a0_ < V 9) : w_X9_addTable N a0 p1 h K := by
  subst e0
  unfold z_X9_addTable at hw
  unfold w_X9_addTable
  refine l_gI W rfl l0 rfl ?_
  refine l_br hw (fun _ hw => ?_) (fun _ hw => ?_)
  ·
    exact hk _ _ _ _ _ W (ext_refl ad V) hw
  ·
    refine l_gA W rfl l0 (c := 4) rfl (Or.inl rfl) ?_
    refine l_aN W (f := 0) (x := 3) rfl l0 (c := 4) rfl (Or.inr rfl) rfl rfl ?_
    refine l_br hw (fun _ hw => ?_) (fun _ hw => ?_)
    ·
      refine l_gA W rfl l0 (c := 4) rfl (Or.inl rfl) ?_
      refine y_new10 W hw (fun ad4_ V5_ h1_ W2_ E3_ l6_ hw => ?_) 
      refine l_sR W2_ (f := 0) (ext_o E3_ rfl l0 rfl) (ext_l E3_ l0) rfl (r := 10) rfl rfl l6_ rfl rfl hw (fun h8_ W7_ hw => ?_)
      refine l_pI W7_ (ext_o E3_ rfl l0 rfl) (ext_l E3_ l0) rfl hw (fun h10_ W9_ hw => ?_)
      exact hk _ _ _ _ _ W9_ (ext_trans (ext_refl ad V) E3_) hw
    ·
      exact hk _ _ _ _ _ W (ext_refl ad V) hw
def z_X9_addIndex (N : Nat) (a0 : Nat) (p1 : Option Nat) (p2 : Int32) (h0 : St) (K : Int32 → St → Prop) : Prop :=
  br ((sP h0 9 a0 3 0) < 0) (
    K (-1) h0) (
    br ((sP h0 9 a0 3 0) < (6 : Int32)) (
      lt_ (sN3 h0 (sP h0 9 a0 3 0) p1 p2) fun h6 =>
      fx2 (fun (w35 : Int32 → St → Prop) (x8 : Int32) (h7 : St) =>
        br (40 ≤ x8) (
          wA 6 (sP h0 9 a0 3 0) (stQ h7 9 a0 2 ((sP h0 9 a0 3 0)).toNatClampNeg (some (sV h0 3))) fun h10 =>
          lt_ (stP h10 9 a0 3 0 ((sP h0 9 a0 3 0) + 1)) fun h11 =>
          K (sP h0 9 a0 3 0) h11) (
          nn p1 fun a12 =>
          z_X10_hasRow N a12 x8 h7 fun v13 =>
          jn (fun (h14 : St) =>
            w35 (x8 + 1) h14) (fun j58 =>
            br (v13 = 0) (
              j58 h7) (
              z_X3_addRow N (sV h0 3) x8 h7 fun h15 =>
              j58 h15)))) N 0 h6) (
      K (-1) h0))
set_option maxHeartbeats 1000000 in
theorem y_X9_addIndex {ad : Nat → Nat → Nat → Nat} {h : Hp} {V : Nat → Nat} {h0 : St} {N : Nat} (W : Wf ad h V h0) {a0 a0_ : Nat} {p1 p1_ : Option Nat} {p2 : Int32} {K : Int32 → Hp → Prop} {K9 : Int32 → St → Prop} (hw : z_X9_addIndex N a0_ p1_ p2 h0 K9) (hk : ∀ (r0 : Int32), ∀ (ad9 : Nat → Nat → Nat → Nat) (V9 : Nat → Nat) (h9 : Hp) (s9 : St), Wf ad9 h9 V9 s9 → Ext ad V ad9 V9 → K9 r0 s9 →  K r0 h9) (e0 : a0 = ad 9 a0_ 0) (l0 : a0_ < V 9) (e_p1 : p1 = p1_.map (fun j => ad 10 j 0)) (l_p1 : ∀ r, p1_ = some r → r < V 10) : w_X9_addIndex N a0 p1 p2 h K := by
  subst e0 e_p1
  unfold z_X9_addIndex at hw
  unfold w_X9_addIndex
  refine l_gI W rfl l0 rfl ?_
  refine l_br hw (fun _ hw => ?_) (fun _ hw => ?_)
  ·
    exact hk _ _ _ _ _ W (ext_refl ad V) hw
  ·
    refine l_gA W rfl l0 (c := 4) rfl (Or.inl rfl) ?_
    refine l_aN W (f := 2) (x := 6) rfl l0 (c := 4) rfl (Or.inr rfl) rfl rfl ?_
    refine l_br hw (fun _ hw => ?_) (fun _ hw => ?_)
    ·
      refine y_new3 W hw (fun ad4_ V5_ h1_ W2_ E3_ l6_ hw => ?_) rfl l_p1
      refine l_fx2 (fun (r : Int32 → Hp → Prop) (r9 : Int32 → St → Prop) => ∀ (x0 : Int32), ∀ (h9 : Hp) (s9 : St), Wf ad4_ h9 V5_ s9 → r9 x0 s9 → r x0 h9) (fun _ _ _ _ h9_ => h9_.elim) ?_ N _ _ _ W2_ hw
      intro w12_ w13_ hv11_ x7_ h9_ s10_ W8_ hw
      refine l_br hw (fun _ hw => ?_) (fun _ hw => ?_)
      ·
        refine l_gA W8_ (ext_o E3_ rfl l0 rfl) (ext_l E3_ l0) (c := 4) rfl (Or.inl rfl) ?_
        refine l_sR W8_ (f := 2) rfl (ext_l E3_ l0) rfl (r := 3) rfl rfl l6_ rfl rfl hw (fun h15_ W14_ hw => ?_)
        refine l_pI W14_ (ext_o E3_ rfl l0 rfl) (ext_l E3_ l0) rfl hw (fun h17_ W16_ hw => ?_)
        exact hk _ _ _ _ _ W16_ (ext_trans (ext_refl ad V) E3_) hw
      ·
        refine l_nn hw (fun i18_ e19_ hw => ?_)
        refine l_cv W8_ (ext_o E3_ rfl (l_p1 _ e19_) rfl) ((ext_lp E3_ l_p1) _ e19_) rfl ?_
        refine y_X10_hasRow W8_ hw (fun v20_ hw => ?_) (ext_o E3_ rfl (l_p1 _ e19_) rfl) ((ext_lp E3_ l_p1) _ e19_)
        refine l_jn (fun (r : Hp → Prop) (r9 : St → Prop) => ∀ (h9 : Hp) (s9 : St), Wf ad4_ h9 V5_ s9 → r9 s9 → r h9) hw ?_ (fun j24_ j25_ hj26_ hw => ?_)
        ·
          intro h22_ s23_ W21_ hw
          exact hv11_ _ _ _ W21_ hw
        ·
          refine l_br hw (fun _ hw => ?_) (fun _ hw => ?_)
          ·
            exact hj26_ _ _ W8_ hw
          ·
            refine l_cv W8_ rfl l6_ rfl ?_
            refine y_X3_addRow W8_ hw (fun h28_ s29_ W27_ hw => ?_) rfl l6_
            exact hj26_ _ _ W27_ hw
    ·
      exact hk _ _ _ _ _ W (ext_refl ad V) hw
def z_X9_addRow (N : Nat) (a0 : Nat) (p1 : Option Nat) (p2 : Int32) (p3 : Int32) (p4 : Int32) (h0 : St) (K : Int32 → St → Prop) : Prop :=
  nn p1 fun a1 =>
  z_X10_addRow N a1 p2 p3 p4 h0 fun v2 h3 =>
  fx2 (fun (w13 : Int32 → St → Prop) (x5 : Int32) (h4 : St) =>
    br (v2 = (-1)) (
      K v2 h4) (
      br ((6 : Int32) ≤ x5) (
        K v2 h4) (
        wI 6 x5 <|
        jn (fun (h10 : St) =>
          w13 (x5 + 1) h10) (fun j59 =>
          brn (sQ h4 9 a0 2 (x5).toNatClampNeg) (
            j59 h4) (fun a11 =>
            z_X3_isOf N a11 (some a1) h4 fun v12 =>
            br (v12 = 0) (
              j59 h4) (
              z_X3_addRow N a11 v2 h4 fun h13 =>
              j59 h13)))))) N 0 h3
set_option maxHeartbeats 1000000 in
theorem y_X9_addRow {ad : Nat → Nat → Nat → Nat} {h : Hp} {V : Nat → Nat} {h0 : St} {N : Nat} (W : Wf ad h V h0) {a0 a0_ : Nat} {p1 p1_ : Option Nat} {p2 : Int32} {p3 : Int32} {p4 : Int32} {K : Int32 → Hp → Prop} {K9 : Int32 → St → Prop} (hw : z_X9_addRow N a0_ p1_ p2 p3 p4 h0 K9) (hk : ∀ (r0 : Int32), ∀ (h9 : Hp) (s9 : St), Wf ad h9 V s9 → K9 r0 s9 →  K r0 h9) (e0 : a0 = ad 9 a0_ 0) (l0 : a0_ < V 9) (e_p1 : p1 = p1_.map (fun j => ad 10 j 0)) (l_p1 : ∀ r, p1_ = some r → r < V 10) : w_X9_addRow N a0 p1 p2 p3 p4 h K := by
  subst e0 e_p1
  unfold z_X9_addRow at hw
  unfold w_X9_addRow
  refine l_nn hw (fun i1_ e2_ hw => ?_)
  refine l_cv W rfl (l_p1 _ e2_) rfl ?_
  refine y_X10_addRow W hw (fun v3_ h5_ s6_ W4_ hw => ?_) rfl (l_p1 _ e2_)
  refine l_fx2 (fun (r : Int32 → Hp → Prop) (r9 : Int32 → St → Prop) => ∀ (x0 : Int32), ∀ (h9 : Hp) (s9 : St), Wf ad h9 V s9 → r9 x0 s9 → r x0 h9) (fun _ _ _ _ h9_ => h9_.elim) ?_ N _ _ _ W4_ hw
  intro w12_ w13_ hv11_ x7_ h9_ s10_ W8_ hw
  refine l_br hw (fun _ hw => ?_) (fun _ hw => ?_)
  ·
    exact hk _ _ _ W8_ hw
  ·
    refine l_gA W8_ rfl l0 (c := 4) rfl (Or.inl rfl) ?_
    refine l_aN W8_ (f := 2) (x := 6) rfl l0 (c := 4) rfl (Or.inr rfl) rfl rfl ?_
    refine l_br hw (fun _ hw => ?_) (fun _ hw => ?_)
    ·
      exact hk _ _ _ W8_ hw
    ·
      refine l_gA W8_ rfl l0 (c := 4) rfl (Or.inl rfl) ?_
      refine l_aR W8_ (f := 2) rfl l0 rfl (r := 3) rfl hw (fun hw => ?_)
      refine l_jn (fun (r : Hp → Prop) (r9 : St → Prop) => ∀ (h9 : Hp) (s9 : St), Wf ad h9 V s9 → r9 s9 → r h9) hw ?_ (fun j17_ j18_ hj19_ hw => ?_)
      ·
        intro h15_ s16_ W14_ hw
        exact hv11_ _ _ _ W14_ hw
      ·
        refine l_brn hw (fun e22_ hw => ?_) (fun i20_ e21_ hw => ?_)
        ·
          exact hj19_ _ _ W8_ hw
        ·
          refine l_cv W8_ rfl ((wf_live W8_ l0 2 _ rfl) _ e21_) rfl ?_
          refine y_X3_isOf W8_ hw (fun v23_ hw => ?_) rfl ((wf_live W8_ l0 2 _ rfl) _ e21_) rfl (lv_some (l_p1 _ e2_))
          refine l_br hw (fun _ hw => ?_) (fun _ hw => ?_)
          ·
            exact hj19_ _ _ W8_ hw
          ·
            refine l_cv W8_ rfl ((wf_live W8_ l0 2 _ rfl) _ e21_) rfl ?_
            refine y_X3_addRow W8_ hw (fun h25_ s26_ W24_ hw => ?_) rfl ((wf_live W8_ l0 2 _ rfl) _ e21_)
            exact hj19_ _ _ W24_ hw
def z_X9_dropRow (N : Nat) (a0 : Nat) (p1 : Option Nat) (p2 : Int32) (h0 : St) (K : St → Prop) : Prop :=
  nn p1 fun a1 =>
  z_X10_dropRow N a1 p2 h0 fun h2 =>
  fx2 (fun (w7 : Int32 → St → Prop) (x4 : Int32) (h3 : St) =>
    br ((6 : Int32) ≤ x4) (
      K h3) (
      wI 6 x4 <|
      jn (fun (h9 : St) =>
        w7 (x4 + 1) h9) (fun j44 =>
        brn (sQ h3 9 a0 2 (x4).toNatClampNeg) (
          j44 h3) (fun a10 =>
          z_X3_isOf N a10 (some a1) h3 fun v11 =>
          br (v11 = 0) (
            j44 h3) (
            z_X3_dropRow N a10 p2 h3 fun h12 =>
            j44 h12))))) N 0 h2
set_option maxHeartbeats 1000000 in
theorem y_X9_dropRow {ad : Nat → Nat → Nat → Nat} {h : Hp} {V : Nat → Nat} {h0 : St} {N : Nat} (W : Wf ad h V h0) {a0 a0_ : Nat} {p1 p1_ : Option Nat} {p2 : Int32} {K : Hp → Prop} {K9 : St → Prop} (hw : z_X9_dropRow N a0_ p1_ p2 h0 K9) (hk : ∀ (h9 : Hp) (s9 : St), Wf ad h9 V s9 → K9 s9 →  K h9) (e0 : a0 = ad 9 a0_ 0) (l0 : a0_ < V 9) (e_p1 : p1 = p1_.map (fun j => ad 10 j 0)) (l_p1 : ∀ r, p1_ = some r → r < V 10) : w_X9_dropRow N a0 p1 p2 h K := by
  subst e0 e_p1
  unfold z_X9_dropRow at hw
  unfold w_X9_dropRow
  refine l_nn hw (fun i1_ e2_ hw => ?_)
  refine l_cv W rfl (l_p1 _ e2_) rfl ?_
  refine y_X10_dropRow W hw (fun h4_ s5_ W3_ hw => ?_) rfl (l_p1 _ e2_)
  refine l_fx2 (fun (r : Int32 → Hp → Prop) (r9 : Int32 → St → Prop) => ∀ (x0 : Int32), ∀ (h9 : Hp) (s9 : St), Wf ad h9 V s9 → r9 x0 s9 → r x0 h9) (fun _ _ _ _ h9_ => h9_.elim) ?_ N _ _ _ W3_ hw
  intro w11_ w12_ hv10_ x6_ h8_ s9_ W7_ hw
  refine l_gA W7_ rfl l0 (c := 4) rfl (Or.inl rfl) ?_
  refine l_aN W7_ (f := 2) (x := 6) rfl l0 (c := 4) rfl (Or.inr rfl) rfl rfl ?_
  refine l_br hw (fun _ hw => ?_) (fun _ hw => ?_)
  ·
    exact hk _ _ W7_ hw
  ·
    refine l_gA W7_ rfl l0 (c := 4) rfl (Or.inl rfl) ?_
    refine l_aR W7_ (f := 2) rfl l0 rfl (r := 3) rfl hw (fun hw => ?_)
    refine l_jn (fun (r : Hp → Prop) (r9 : St → Prop) => ∀ (h9 : Hp) (s9 : St), Wf ad h9 V s9 → r9 s9 → r h9) hw ?_ (fun j16_ j17_ hj18_ hw => ?_)
    ·
      intro h14_ s15_ W13_ hw
      exact hv10_ _ _ _ W13_ hw
    ·
      refine l_brn hw (fun e21_ hw => ?_) (fun i19_ e20_ hw => ?_)
      ·
        exact hj18_ _ _ W7_ hw
      ·
        refine l_cv W7_ rfl ((wf_live W7_ l0 2 _ rfl) _ e20_) rfl ?_
        refine y_X3_isOf W7_ hw (fun v22_ hw => ?_) rfl ((wf_live W7_ l0 2 _ rfl) _ e20_) rfl (lv_some (l_p1 _ e2_))
        refine l_br hw (fun _ hw => ?_) (fun _ hw => ?_)
        ·
          exact hj18_ _ _ W7_ hw
        ·
          refine l_cv W7_ rfl ((wf_live W7_ l0 2 _ rfl) _ e20_) rfl ?_
          refine y_X3_dropRow W7_ hw (fun h24_ s25_ W23_ hw => ?_) rfl ((wf_live W7_ l0 2 _ rfl) _ e20_)
          exact hj18_ _ _ W23_ hw
def z_X9_indexesRise (N : Nat) (a0 : Nat) (h0 : St) (K : Int32 → Prop) : Prop :=
  fx1 (fun (w2 : Int32 → Prop) (x1 : Int32) =>
    br ((6 : Int32) ≤ x1) (
      K 1) (
      wI 6 x1 <|
      jn (
        w2 (x1 + 1)) (fun j31 =>
        brn (sQ h0 9 a0 2 (x1).toNatClampNeg) (
          j31 ) (fun a6 =>
          z_X3_rises N a6 h0 fun v7 =>
          br (v7 = 0) (
            K 0) (
            j31 ))))) N 0
set_option maxHeartbeats 1000000 in
theorem y_X9_indexesRise {ad : Nat → Nat → Nat → Nat} {h : Hp} {V : Nat → Nat} {h0 : St} {N : Nat} (W : Wf ad h V h0) {a0 a0_ : Nat} {K : Int32 → Prop} {K9 : Int32 → Prop} (hw : z_X9_indexesRise N a0_ h0 K9) (hk : ∀ (r0 : Int32), K9 r0 →  K r0) (e0 : a0 = ad 9 a0_ 0) (l0 : a0_ < V 9) : w_X9_indexesRise N a0 h K := by
  subst e0
  unfold z_X9_indexesRise at hw
  unfold w_X9_indexesRise
  refine l_fx1 (fun (r : Int32 → Prop) (r9 : Int32 → Prop) => ∀ (x0 : Int32), r9 x0 → r x0) (fun _ h9_ => h9_.elim) ?_ N _ hw
  intro w3_ w4_ hv2_ x1_ hw
  refine l_gA W rfl l0 (c := 4) rfl (Or.inl rfl) ?_
  refine l_aN W (f := 2) (x := 6) rfl l0 (c := 4) rfl (Or.inr rfl) rfl rfl ?_
  refine l_br hw (fun _ hw => ?_) (fun _ hw => ?_)
  ·
    exact hk _ hw
  ·
    refine l_gA W rfl l0 (c := 4) rfl (Or.inl rfl) ?_
    refine l_aR W (f := 2) rfl l0 rfl (r := 3) rfl hw (fun hw => ?_)
    refine l_jn (fun (r : Prop) (r9 : Prop) =>  r9  → r ) hw ?_ (fun j5_ j6_ hj7_ hw => ?_)
    ·
      intro hw
      exact hv2_ _ hw
    ·
      refine l_brn hw (fun e10_ hw => ?_) (fun i8_ e9_ hw => ?_)
      ·
        exact hj7_  hw
      ·
        refine l_cv W rfl ((wf_live W l0 2 _ rfl) _ e9_) rfl ?_
        refine y_X3_rises W hw (fun v11_ hw => ?_) rfl ((wf_live W l0 2 _ rfl) _ e9_)
        refine l_br hw (fun _ hw => ?_) (fun _ hw => ?_)
        ·
          exact hk _ hw
        ·
          exact hj7_  hw
def z_X9_printFrom (N : Nat) (a0 : Nat) (p1 : Int64) (h0 : St) (K : Int64 → Prop) : Prop :=
  fx2 (fun (w5 : Int64 → Int32 → Prop) (y1 : Int64) (x2 : Int32) =>
    br ((3 : Int32) ≤ x2) (
      K y1) (
      wI 3 x2 <|
      jn (fun (y7 : Int64) =>
        w5 y7 (x2 + 1)) (fun j36 =>
        brn (sQ h0 9 a0 0 (x2).toNatClampNeg) (
          j36 y1) (fun a8 =>
          z_X10_printFrom N a8 y1 h0 fun v9 =>
          j36 v9)))) N p1 0
set_option maxHeartbeats 1000000 in
theorem y_X9_printFrom {ad : Nat → Nat → Nat → Nat} {h : Hp} {V : Nat → Nat} {h0 : St} {N : Nat} (W : Wf ad h V h0) {a0 a0_ : Nat} {p1 : Int64} {K : Int64 → Prop} {K9 : Int64 → Prop} (hw : z_X9_printFrom N a0_ p1 h0 K9) (hk : ∀ (r0 : Int64), K9 r0 →  K r0) (e0 : a0 = ad 9 a0_ 0) (l0 : a0_ < V 9) : w_X9_printFrom N a0 p1 h K := by
  subst e0
  unfold z_X9_printFrom at hw
  unfold w_X9_printFrom
  refine l_fx2 (fun (r : Int64 → Int32 → Prop) (r9 : Int64 → Int32 → Prop) => ∀ (x0 : Int64), ∀ (x1 : Int32), r9 x0 x1 → r x0 x1) (fun _ _ h9_ => h9_.elim) ?_ N _ _ hw
  intro w4_ w5_ hv3_ x1_ x2_ hw
  refine l_gA W rfl l0 (c := 4) rfl (Or.inl rfl) ?_
  refine l_aN W (f := 0) (x := 3) rfl l0 (c := 4) rfl (Or.inr rfl) rfl rfl ?_
  refine l_br hw (fun _ hw => ?_) (fun _ hw => ?_)
  ·
    exact hk _ hw
  ·
    refine l_gA W rfl l0 (c := 4) rfl (Or.inl rfl) ?_
    refine l_aR W (f := 0) rfl l0 rfl (r := 10) rfl hw (fun hw => ?_)
    refine l_jn (fun (r : Int64 → Prop) (r9 : Int64 → Prop) => ∀ (x0 : Int64), r9 x0 → r x0) hw ?_ (fun j7_ j8_ hj9_ hw => ?_)
    ·
      intro x6_ hw
      exact hv3_ _ _ hw
    ·
      refine l_brn hw (fun e12_ hw => ?_) (fun i10_ e11_ hw => ?_)
      ·
        exact hj9_ _ hw
      ·
        refine l_cv W rfl ((wf_live W l0 0 _ rfl) _ e11_) rfl ?_
        refine y_X10_printFrom W hw (fun v13_ hw => ?_) rfl ((wf_live W l0 0 _ rfl) _ e11_)
        exact hj9_ _ hw
def z_X6_indexOfCondition (N : Nat) (a0 : Nat) (p1 : Option Nat) (p2 : Option Nat) (p3 : Int32) (p4 : Int32) (h0 : St) (K : Int32 → Prop) : Prop :=
  nn p2 fun a1 =>
  z_X7_conditionAt N a1 p4 h0 fun o2 =>
  jn (fun (v3 : Int32) =>
    br (v3 = 0) (
      K (-1)) (
      br (p4 < 0) (
        K (-1)) (
        br ((4 : Int32) ≤ p4) (
          K (-1)) (
          wI 4 p4 <|
          K (sP h0 6 a0 3 (p4).toNatClampNeg))))) (fun j31 =>
    jn (
      j31 0) (fun j30 =>
      brn o2 (
        j30 ) (fun a8 =>
        z_X1_position N a8 h0 fun v9 =>
        nn p1 fun a10 =>
        z_X5_positionAt N a10 p3 h0 fun v11 =>
        br (v9 = v11) (
          j31 1) (
          j30 ))))
set_option maxHeartbeats 1000000 in
theorem y_X6_indexOfCondition {ad : Nat → Nat → Nat → Nat} {h : Hp} {V : Nat → Nat} {h0 : St} {N : Nat} (W : Wf ad h V h0) {a0 a0_ : Nat} {p1 p1_ : Option Nat} {p2 p2_ : Option Nat} {p3 : Int32} {p4 : Int32} {K : Int32 → Prop} {K9 : Int32 → Prop} (hw : z_X6_indexOfCondition N a0_ p1_ p2_ p3 p4 h0 K9) (hk : ∀ (r0 : Int32), K9 r0 →  K r0) (e0 : a0 = ad 6 a0_ 0) (l0 : a0_ < V 6) (e_p1 : p1 = p1_.map (fun j => ad 5 j 0)) (l_p1 : ∀ r, p1_ = some r → r < V 5) (e_p2 : p2 = p2_.map (fun j => ad 7 j 0)) (l_p2 : ∀ r, p2_ = some r → r < V 7) : w_X6_indexOfCondition N a0 p1 p2 p3 p4 h K := by
  subst e0 e_p1 e_p2
  unfold z_X6_indexOfCondition at hw
  unfold w_X6_indexOfCondition
  refine l_nn hw (fun i1_ e2_ hw => ?_)
  refine l_cv W rfl (l_p2 _ e2_) rfl ?_
  refine y_X7_conditionAt W hw (@fun o4_ u6_ lp3_ hw e5_ => ?_) rfl (l_p2 _ e2_)
  subst e5_
  refine l_jn (fun (r : Int32 → Prop) (r9 : Int32 → Prop) => ∀ (x0 : Int32), r9 x0 → r x0) hw ?_ (fun j8_ j9_ hj10_ hw => ?_)
  ·
    intro x7_ hw
    refine l_br hw (fun _ hw => ?_) (fun _ hw => ?_)
    ·
      exact hk _ hw
    ·
      refine l_br hw (fun _ hw => ?_) (fun _ hw => ?_)
      ·
        exact hk _ hw
      ·
        refine l_gA W rfl l0 (c := 2) rfl (Or.inr rfl) ?_
        refine l_aN W (f := 3) (x := 4) rfl l0 (c := 2) rfl (Or.inl rfl) rfl rfl ?_
        refine l_br hw (fun _ hw => ?_) (fun _ hw => ?_)
        ·
          exact hk _ hw
        ·
          refine l_gA W rfl l0 (c := 2) rfl (Or.inr rfl) ?_
          refine l_aI W (f := 3) rfl l0 rfl hw (fun hw => ?_)
          exact hk _ hw
  ·
    refine l_jn (fun (r : Prop) (r9 : Prop) =>  r9  → r ) hw ?_ (fun j11_ j12_ hj13_ hw => ?_)
    ·
      intro hw
      exact hj10_ _ hw
    ·
      refine l_brn hw (fun e16_ hw => ?_) (fun i14_ e15_ hw => ?_)
      ·
        exact hj13_  hw
      ·
        refine l_cv W rfl (lp3_ _ e15_) rfl ?_
        refine y_X1_position W hw (fun v17_ hw => ?_) rfl (lp3_ _ e15_)
        refine l_nn hw (fun i18_ e19_ hw => ?_)
        refine l_cv W rfl (l_p1 _ e19_) rfl ?_
        refine y_X5_positionAt W hw (fun v20_ hw => ?_) rfl (l_p1 _ e19_)
        refine l_br hw (fun _ hw => ?_) (fun _ hw => ?_)
        ·
          exact hj10_ _ hw
        ·
          exact hj13_  hw
def z_X6_conditionByBook (N : Nat) (a0 : Nat) (p1 : Option Nat) (p2 : Option Nat) (p3 : Int32) (p4 : Int32) (h0 : St) (K : Int32 → St → Prop) : Prop :=
  fx1 (fun (w3 : Int32 → Prop) (x1 : Int32) =>
    br (4 ≤ x1) (
      K 0 h0) (
      nn p2 fun a2 =>
      z_X7_conditionAt N a2 x1 h0 fun o3 =>
      z_X6_indexOfCondition N a0 p1 (some a2) p3 x1 h0 fun v4 =>
      jn (
        w3 (x1 + 1)) (fun j62 =>
        br (v4 = (-1)) (
          j62 ) (
          brn o3 (
            j62 ) (fun a5 =>
            z_X1_isEqual N a5 h0 fun v6 =>
            br (v6 = p4) (
              nn p1 fun a7 =>
              z_X5_setWay N a7 p3 99 x1 v4 h0 fun h8 =>
              K 1 h8) (
              j62 )))))) N 0
set_option maxHeartbeats 1000000 in
theorem y_X6_conditionByBook {ad : Nat → Nat → Nat → Nat} {h : Hp} {V : Nat → Nat} {h0 : St} {N : Nat} (W : Wf ad h V h0) {a0 a0_ : Nat} {p1 p1_ : Option Nat} {p2 p2_ : Option Nat} {p3 : Int32} {p4 : Int32} {K : Int32 → Hp → Prop} {K9 : Int32 → St → Prop} (hw : z_X6_conditionByBook N a0_ p1_ p2_ p3 p4 h0 K9) (hk : ∀ (r0 : Int32), ∀ (h9 : Hp) (s9 : St), Wf ad h9 V s9 → K9 r0 s9 →  K r0 h9) (e0 : a0 = ad 6 a0_ 0) (l0 : a0_ < V 6) (e_p1 : p1 = p1_.map (fun j => ad 5 j 0)) (l_p1 : ∀ r, p1_ = some r → r < V 5) (e_p2 : p2 = p2_.map (fun j => ad 7 j 0)) (l_p2 : ∀ r, p2_ = some r → r < V 7) : w_X6_conditionByBook N a0 p1 p2 p3 p4 h K := by
  subst e0 e_p1 e_p2
  unfold z_X6_conditionByBook at hw
  unfold w_X6_conditionByBook
  refine l_fx1 (fun (r : Int32 → Prop) (r9 : Int32 → Prop) => ∀ (x0 : Int32), r9 x0 → r x0) (fun _ h9_ => h9_.elim) ?_ N _ hw
  intro w3_ w4_ hv2_ x1_ hw
  refine l_br hw (fun _ hw => ?_) (fun _ hw => ?_)
  ·
    exact hk _ _ _ W hw
  ·
    refine l_nn hw (fun i5_ e6_ hw => ?_)
    refine l_cv W rfl (l_p2 _ e6_) rfl ?_
    refine y_X7_conditionAt W hw (@fun o8_ u10_ lp7_ hw e9_ => ?_) rfl (l_p2 _ e6_)
    subst e9_
    refine l_cv W rfl l0 rfl ?_
    refine y_X6_indexOfCondition W hw (fun v11_ hw => ?_) rfl l0 rfl l_p1 rfl (lv_some (l_p2 _ e6_))
    refine l_jn (fun (r : Prop) (r9 : Prop) =>  r9  → r ) hw ?_ (fun j12_ j13_ hj14_ hw => ?_)
    ·
      intro hw
      exact hv2_ _ hw
    ·
      refine l_br hw (fun _ hw => ?_) (fun _ hw => ?_)
      ·
        exact hj14_  hw
      ·
        refine l_brn hw (fun e17_ hw => ?_) (fun i15_ e16_ hw => ?_)
        ·
          exact hj14_  hw
        ·
          refine l_cv W rfl (lp7_ _ e16_) rfl ?_
          refine y_X1_isEqual W hw (fun v18_ hw => ?_) rfl (lp7_ _ e16_)
          refine l_br hw (fun _ hw => ?_) (fun _ hw => ?_)
          ·
            refine l_nn hw (fun i19_ e20_ hw => ?_)
            refine l_cv W rfl (l_p1 _ e20_) rfl ?_
            refine y_X5_setWay W hw (fun h22_ s23_ W21_ hw => ?_) rfl (l_p1 _ e20_)
            exact hk _ _ _ W21_ hw
          ·
            exact hj14_  hw
def z_X6_choicesBehind (N : Nat) (a0 : Nat) (p1 : Option Nat) (p2 : Option Nat) (p3 : Int32) (p4 : Int64) (h0 : St) (K : Int64 → Prop) : Prop :=
  nn p1 fun a1 =>
  z_X5_positionAt N a1 p3 h0 fun v2 =>
  nn p2 fun a3 =>
  z_X7_tableOf N a3 v2 h0 fun o4 =>
  jn (fun (v5 : Int64) =>
    fx2 (fun (w38 : Int64 → Int32 → Prop) (y6 : Int64) (x7 : Int32) =>
      br (4 ≤ x7) (
        fx2 (fun (w93 : Int64 → Int32 → Prop) (y8 : Int64) (x9 : Int32) =>
          br (3 ≤ x9) (
            K (if y8 < 1 then 1 else y8)) (
            z_X7_joinAt N a3 x9 h0 fun o10 =>
            jn (fun (y11 : Int64) =>
              w93 y11 (x9 + 1)) (fun j144 =>
              brn o10 (
                j144 y8) (fun a12 =>
                z_X4_partnerOf N a12 v2 h0 fun v13 =>
                z_X5_isAhead N a1 v13 p3 h0 fun v14 =>
                br (v14 = 0) (
                  j144 y8) (
                  wI 3 x9 <|
                  j144 ((y8 * (((sP h0 6 a0 4 (x9).toNatClampNeg) : Int32).toInt64)) / 1000)))))) N y6 0) (
        z_X7_conditionAt N a3 x7 h0 fun o17 =>
        jn (fun (y18 : Int64) =>
          w38 y18 (x7 + 1)) (fun j84 =>
          brn o17 (
            j84 y6) (fun a19 =>
            z_X1_position N a19 h0 fun v20 =>
            br (v20 = v2) (
              wI 4 x7 <|
              j84 ((y6 * (((sP h0 6 a0 1 (x7).toNatClampNeg) : Int32).toInt64)) / 1000)) (
              j84 y6))))) N v5 0) (fun j33 =>
    brn o4 (
      j33 0) (fun a23 =>
      z_X10_takenRows N a23 h0 fun v24 =>
      j33 (p4 * ((v24 : Int32).toInt64))))
set_option maxHeartbeats 1000000 in
theorem y_X6_choicesBehind {ad : Nat → Nat → Nat → Nat} {h : Hp} {V : Nat → Nat} {h0 : St} {N : Nat} (W : Wf ad h V h0) {a0 a0_ : Nat} {p1 p1_ : Option Nat} {p2 p2_ : Option Nat} {p3 : Int32} {p4 : Int64} {K : Int64 → Prop} {K9 : Int64 → Prop} (hw : z_X6_choicesBehind N a0_ p1_ p2_ p3 p4 h0 K9) (hk : ∀ (r0 : Int64), K9 r0 →  K r0) (e0 : a0 = ad 6 a0_ 0) (l0 : a0_ < V 6) (e_p1 : p1 = p1_.map (fun j => ad 5 j 0)) (l_p1 : ∀ r, p1_ = some r → r < V 5) (e_p2 : p2 = p2_.map (fun j => ad 7 j 0)) (l_p2 : ∀ r, p2_ = some r → r < V 7) : w_X6_choicesBehind N a0 p1 p2 p3 p4 h K := by
  subst e0 e_p1 e_p2
  unfold z_X6_choicesBehind at hw
  unfold w_X6_choicesBehind
  refine l_nn hw (fun i1_ e2_ hw => ?_)
  refine l_cv W rfl (l_p1 _ e2_) rfl ?_
  refine y_X5_positionAt W hw (fun v3_ hw => ?_) rfl (l_p1 _ e2_)
  refine l_nn hw (fun i4_ e5_ hw => ?_)
  refine l_cv W rfl (l_p2 _ e5_) rfl ?_
  refine y_X7_tableOf W hw (@fun o7_ u9_ lp6_ hw e8_ => ?_) rfl (l_p2 _ e5_)
  subst e8_
  refine l_jn (fun (r : Int64 → Prop) (r9 : Int64 → Prop) => ∀ (x0 : Int64), r9 x0 → r x0) hw ?_ (fun j11_ j12_ hj13_ hw => ?_)
  ·
    intro x10_ hw
    refine l_fx2 (fun (r : Int64 → Int32 → Prop) (r9 : Int64 → Int32 → Prop) => ∀ (x0 : Int64), ∀ (x1 : Int32), r9 x0 x1 → r x0 x1) (fun _ _ h9_ => h9_.elim) ?_ N _ _ hw
    intro w17_ w18_ hv16_ x14_ x15_ hw
    refine l_br hw (fun _ hw => ?_) (fun _ hw => ?_)
    ·
      refine l_fx2 (fun (r : Int64 → Int32 → Prop) (r9 : Int64 → Int32 → Prop) => ∀ (x0 : Int64), ∀ (x1 : Int32), r9 x0 x1 → r x0 x1) (fun _ _ h9_ => h9_.elim) ?_ N _ _ hw
      intro w22_ w23_ hv21_ x19_ x20_ hw
      refine l_br hw (fun _ hw => ?_) (fun _ hw => ?_)
      ·
        exact hk _ hw
      ·
        refine l_cv W rfl (l_p2 _ e5_) rfl ?_
        refine y_X7_joinAt W hw (@fun o25_ u27_ lp24_ hw e26_ => ?_) rfl (l_p2 _ e5_)
        subst e26_
        refine l_jn (fun (r : Int64 → Prop) (r9 : Int64 → Prop) => ∀ (x0 : Int64), r9 x0 → r x0) hw ?_ (fun j29_ j30_ hj31_ hw => ?_)
        ·
          intro x28_ hw
          exact hv21_ _ _ hw
        ·
          refine l_brn hw (fun e34_ hw => ?_) (fun i32_ e33_ hw => ?_)
          ·
            exact hj31_ _ hw
          ·
            refine l_cv W rfl (lp24_ _ e33_) rfl ?_
            refine y_X4_partnerOf W hw (fun v35_ hw => ?_) rfl (lp24_ _ e33_)
            refine l_cv W rfl (l_p1 _ e2_) rfl ?_
            refine y_X5_isAhead W hw (fun v36_ hw => ?_) rfl (l_p1 _ e2_)
            refine l_br hw (fun _ hw => ?_) (fun _ hw => ?_)
            ·
              exact hj31_ _ hw
            ·
              refine l_gA W rfl l0 (c := 2) rfl (Or.inr rfl) ?_
              refine l_aI W (f := 4) rfl l0 rfl hw (fun hw => ?_)
              exact hj31_ _ hw
    ·
      refine l_cv W rfl (l_p2 _ e5_) rfl ?_
      refine y_X7_conditionAt W hw (@fun o38_ u40_ lp37_ hw e39_ => ?_) rfl (l_p2 _ e5_)
      subst e39_
      refine l_jn (fun (r : Int64 → Prop) (r9 : Int64 → Prop) => ∀ (x0 : Int64), r9 x0 → r x0) hw ?_ (fun j42_ j43_ hj44_ hw => ?_)
      ·
        intro x41_ hw
        exact hv16_ _ _ hw
      ·
        refine l_brn hw (fun e47_ hw => ?_) (fun i45_ e46_ hw => ?_)
        ·
          exact hj44_ _ hw
        ·
          refine l_cv W rfl (lp37_ _ e46_) rfl ?_
          refine y_X1_position W hw (fun v48_ hw => ?_) rfl (lp37_ _ e46_)
          refine l_br hw (fun _ hw => ?_) (fun _ hw => ?_)
          ·
            refine l_gA W rfl l0 (c := 2) rfl (Or.inr rfl) ?_
            refine l_aI W (f := 1) rfl l0 rfl hw (fun hw => ?_)
            exact hj44_ _ hw
          ·
            exact hj44_ _ hw
  ·
    refine l_brn hw (fun e51_ hw => ?_) (fun i49_ e50_ hw => ?_)
    ·
      exact hj13_ _ hw
    ·
      refine l_cv W rfl (lp6_ _ e50_) rfl ?_
      refine y_X10_takenRows W hw (fun v52_ hw => ?_) rfl (lp6_ _ e50_)
      exact hj13_ _ hw
def z_X6_joinCost (N : Nat) (a0 : Nat) (p1 : Int32) (p2 : Int32) (h0 : St) (K : Int32 → Prop) : Prop :=
  br (((p1 * 3) + p2) < 0) (
    K 0) (
    br ((9 : Int32) ≤ ((p1 * 3) + p2)) (
      K 0) (
      wI 9 ((p1 * 3) + p2) <|
      K (sP h0 6 a0 5 (((p1 * 3) + p2)).toNatClampNeg)))
set_option maxHeartbeats 1000000 in
theorem y_X6_joinCost {ad : Nat → Nat → Nat → Nat} {h : Hp} {V : Nat → Nat} {h0 : St} {N : Nat} (W : Wf ad h V h0) {a0 a0_ : Nat} {p1 : Int32} {p2 : Int32} {K : Int32 → Prop} {K9 : Int32 → Prop} (hw : z_X6_joinCost N a0_ p1 p2 h0 K9) (hk : ∀ (r0 : Int32), K9 r0 →  K r0) (e0 : a0 = ad 6 a0_ 0) (l0 : a0_ < V 6) : w_X6_joinCost N a0 p1 p2 h K := by
  subst e0
  unfold z_X6_joinCost at hw
  unfold w_X6_joinCost
  refine l_br hw (fun _ hw => ?_) (fun _ hw => ?_)
  ·
    exact hk _ hw
  ·
    refine l_gA W rfl l0 (c := 2) rfl (Or.inr rfl) ?_
    refine l_aN W (f := 5) (x := 9) rfl l0 (c := 2) rfl (Or.inl rfl) rfl rfl ?_
    refine l_br hw (fun _ hw => ?_) (fun _ hw => ?_)
    ·
      exact hk _ hw
    ·
      refine l_gA W rfl l0 (c := 2) rfl (Or.inr rfl) ?_
      refine l_aI W (f := 5) rfl l0 rfl hw (fun hw => ?_)
      exact hk _ hw
def z_X6_costOf (N : Nat) (a0 : Nat) (p1 : Option Nat) (p2 : Option Nat) (p3 : Int32) (h0 : St) (K : Int32 → Prop) : Prop :=
  nn p1 fun a1 =>
  z_X5_reasonAt N a1 p3 h0 fun v2 =>
  z_X5_wayAt N a1 p3 h0 fun v3 =>
  br (v3 = 106) (
    z_X5_positionAt N a1 p3 h0 fun v14 =>
    z_X6_joinCost N a0 v2 v14 h0 fun v15 =>
    K v15) (
    z_X5_wayAt N a1 p3 h0 fun v4 =>
    br (v4 = 99) (
      br (v2 < 0) (
        K 0) (
        br ((4 : Int32) ≤ v2) (
          K 0) (
          wI 4 v2 <|
          K (sP h0 6 a0 2 (v2).toNatClampNeg)))) (
      z_X5_positionAt N a1 p3 h0 fun v5 =>
      nn p2 fun a6 =>
      z_X7_tableOf N a6 v5 h0 fun o7 =>
      brn o7 (
        K 0) (fun a8 =>
        z_X10_takenPages N a8 h0 fun v9 =>
        K v9)))
set_option maxHeartbeats 1000000 in
theorem y_X6_costOf {ad : Nat → Nat → Nat → Nat} {h : Hp} {V : Nat → Nat} {h0 : St} {N : Nat} (W : Wf ad h V h0) {a0 a0_ : Nat} {p1 p1_ : Option Nat} {p2 p2_ : Option Nat} {p3 : Int32} {K : Int32 → Prop} {K9 : Int32 → Prop} (hw : z_X6_costOf N a0_ p1_ p2_ p3 h0 K9) (hk : ∀ (r0 : Int32), K9 r0 →  K r0) (e0 : a0 = ad 6 a0_ 0) (l0 : a0_ < V 6) (e_p1 : p1 = p1_.map (fun j => ad 5 j 0)) (l_p1 : ∀ r, p1_ = some r → r < V 5) (e_p2 : p2 = p2_.map (fun j => ad 7 j 0)) (l_p2 : ∀ r, p2_ = some r → r < V 7) : w_X6_costOf N a0 p1 p2 p3 h K := by
  subst e0 e_p1 e_p2
  unfold z_X6_costOf at hw
  unfold w_X6_costOf
  refine l_nn hw (fun i1_ e2_ hw => ?_)
  refine l_cv W rfl (l_p1 _ e2_) rfl ?_
  refine y_X5_reasonAt W hw (fun v3_ hw => ?_) rfl (l_p1 _ e2_)
  refine l_cv W rfl (l_p1 _ e2_) rfl ?_
  refine y_X5_wayAt W hw (fun v4_ hw => ?_) rfl (l_p1 _ e2_)
  refine l_br hw (fun _ hw => ?_) (fun _ hw => ?_)
  ·
    refine l_cv W rfl (l_p1 _ e2_) rfl ?_
    refine y_X5_positionAt W hw (fun v5_ hw => ?_) rfl (l_p1 _ e2_)
    refine l_cv W rfl l0 rfl ?_
    refine y_X6_joinCost W hw (fun v6_ hw => ?_) rfl l0
    exact hk _ hw
  ·
    refine l_cv W rfl (l_p1 _ e2_) rfl ?_
    refine y_X5_wayAt W hw (fun v7_ hw => ?_) rfl (l_p1 _ e2_)
    refine l_br hw (fun _ hw => ?_) (fun _ hw => ?_)
    ·
      refine l_br hw (fun _ hw => ?_) (fun _ hw => ?_)
      ·
        exact hk _ hw
      ·
        refine l_gA W rfl l0 (c := 2) rfl (Or.inr rfl) ?_
        refine l_aN W (f := 2) (x := 4) rfl l0 (c := 2) rfl (Or.inl rfl) rfl rfl ?_
        refine l_br hw (fun _ hw => ?_) (fun _ hw => ?_)
        ·
          exact hk _ hw
        ·
          refine l_gA W rfl l0 (c := 2) rfl (Or.inr rfl) ?_
          refine l_aI W (f := 2) rfl l0 rfl hw (fun hw => ?_)
          exact hk _ hw
    ·
      refine l_cv W rfl (l_p1 _ e2_) rfl ?_
      refine y_X5_positionAt W hw (fun v8_ hw => ?_) rfl (l_p1 _ e2_)
      refine l_nn hw (fun i9_ e10_ hw => ?_)
      refine l_cv W rfl (l_p2 _ e10_) rfl ?_
      refine y_X7_tableOf W hw (@fun o12_ u14_ lp11_ hw e13_ => ?_) rfl (l_p2 _ e10_)
      subst e13_
      refine l_brn hw (fun e17_ hw => ?_) (fun i15_ e16_ hw => ?_)
      ·
        exact hk _ hw
      ·
        refine l_cv W rfl (lp11_ _ e16_) rfl ?_
        refine y_X10_takenPages W hw (fun v18_ hw => ?_) rfl (lp11_ _ e16_)
        exact hk _ hw
def z_X6_guessOf (N : Nat) (a0 : Nat) (p1 : Option Nat) (p2 : Option Nat) (h0 : St) (K : Int64 → Prop) : Prop :=
  fx3 (fun (w8 : Int64 → Int64 → Int32 → Prop) (y1 : Int64) (y2 : Int64) (x3 : Int32) =>
    nn p1 fun a4 =>
    z_X5_size N a4 h0 fun v5 =>
    br (v5 ≤ x3) (
      K y1) (
      z_X6_costOf N a0 (some a4) p2 x3 h0 fun v6 =>
      z_X6_choicesBehind N a0 (some a4) p2 x3 y2 h0 fun v7 =>
      w8 (y1 + (y2 * ((v6 : Int32).toInt64))) v7 (x3 + 1))) N 0 1 0
set_option maxHeartbeats 1000000 in
theorem y_X6_guessOf {ad : Nat → Nat → Nat → Nat} {h : Hp} {V : Nat → Nat} {h0 : St} {N : Nat} (W : Wf ad h V h0) {a0 a0_ : Nat} {p1 p1_ : Option Nat} {p2 p2_ : Option Nat} {K : Int64 → Prop} {K9 : Int64 → Prop} (hw : z_X6_guessOf N a0_ p1_ p2_ h0 K9) (hk : ∀ (r0 : Int64), K9 r0 →  K r0) (e0 : a0 = ad 6 a0_ 0) (l0 : a0_ < V 6) (e_p1 : p1 = p1_.map (fun j => ad 5 j 0)) (l_p1 : ∀ r, p1_ = some r → r < V 5) (e_p2 : p2 = p2_.map (fun j => ad 7 j 0)) (l_p2 : ∀ r, p2_ = some r → r < V 7) : w_X6_guessOf N a0 p1 p2 h K := by
  subst e0 e_p1 e_p2
  unfold z_X6_guessOf at hw
  unfold w_X6_guessOf
  refine l_fx3 (fun (r : Int64 → Int64 → Int32 → Prop) (r9 : Int64 → Int64 → Int32 → Prop) => ∀ (x0 : Int64), ∀ (x1 : Int64), ∀ (x2 : Int32), r9 x0 x1 x2 → r x0 x1 x2) (fun _ _ _ h9_ => h9_.elim) ?_ N _ _ _ hw
  intro w5_ w6_ hv4_ x1_ x2_ x3_ hw
  refine l_nn hw (fun i7_ e8_ hw => ?_)
  refine l_cv W rfl (l_p1 _ e8_) rfl ?_
  refine y_X5_size W hw (fun v9_ hw => ?_) rfl (l_p1 _ e8_)
  refine l_br hw (fun _ hw => ?_) (fun _ hw => ?_)
  ·
    exact hk _ hw
  ·
    refine l_cv W rfl l0 rfl ?_
    refine y_X6_costOf W hw (fun v10_ hw => ?_) rfl l0 rfl (lv_some (l_p1 _ e8_)) rfl l_p2
    refine l_cv W rfl l0 rfl ?_
    refine y_X6_choicesBehind W hw (fun v11_ hw => ?_) rfl l0 rfl (lv_some (l_p1 _ e8_)) rfl l_p2
    exact hv4_ _ _ _ hw
def z_X6_indexOfJoin (N : Nat) (a0 : Nat) (p1 : Option Nat) (p2 : Option Nat) (p3 : Int32) (p4 : Int32) (h0 : St) (K : Int32 → Prop) : Prop :=
  nn p2 fun a1 =>
  z_X7_joinAt N a1 p4 h0 fun o2 =>
  nn p1 fun a3 =>
  z_X5_positionAt N a3 p3 h0 fun v4 =>
  jn (fun (v5 : Int32) =>
    br (v5 = 0) (
      K (-1)) (
      br (((p4 * 3) + v4) < 0) (
        K (-1)) (
        br ((9 : Int32) ≤ ((p4 * 3) + v4)) (
          K (-1)) (
          wI 9 ((p4 * 3) + v4) <|
          K (sP h0 6 a0 6 (((p4 * 3) + v4)).toNatClampNeg))))) (fun j40 =>
    jn (
      j40 0) (fun j39 =>
      brn o2 (
        j39 ) (fun a10 =>
        z_X4_partnerOf N a10 v4 h0 fun v11 =>
        z_X5_isAhead N a3 v11 p3 h0 fun v12 =>
        br (v12 = 0) (
          j39 ) (
          j40 1))))
set_option maxHeartbeats 1000000 in
theorem y_X6_indexOfJoin {ad : Nat → Nat → Nat → Nat} {h : Hp} {V : Nat → Nat} {h0 : St} {N : Nat} (W : Wf ad h V h0) {a0 a0_ : Nat} {p1 p1_ : Option Nat} {p2 p2_ : Option Nat} {p3 : Int32} {p4 : Int32} {K : Int32 → Prop} {K9 : Int32 → Prop} (hw : z_X6_indexOfJoin N a0_ p1_ p2_ p3 p4 h0 K9) (hk : ∀ (r0 : Int32), K9 r0 →  K r0) (e0 : a0 = ad 6 a0_ 0) (l0 : a0_ < V 6) (e_p1 : p1 = p1_.map (fun j => ad 5 j 0)) (l_p1 : ∀ r, p1_ = some r → r < V 5) (e_p2 : p2 = p2_.map (fun j => ad 7 j 0)) (l_p2 : ∀ r, p2_ = some r → r < V 7) : w_X6_indexOfJoin N a0 p1 p2 p3 p4 h K := by
  subst e0 e_p1 e_p2
  unfold z_X6_indexOfJoin at hw
  unfold w_X6_indexOfJoin
  refine l_nn hw (fun i1_ e2_ hw => ?_)
  refine l_cv W rfl (l_p2 _ e2_) rfl ?_
  refine y_X7_joinAt W hw (@fun o4_ u6_ lp3_ hw e5_ => ?_) rfl (l_p2 _ e2_)
  subst e5_
  refine l_nn hw (fun i7_ e8_ hw => ?_)
  refine l_cv W rfl (l_p1 _ e8_) rfl ?_
  refine y_X5_positionAt W hw (fun v9_ hw => ?_) rfl (l_p1 _ e8_)
  refine l_jn (fun (r : Int32 → Prop) (r9 : Int32 → Prop) => ∀ (x0 : Int32), r9 x0 → r x0) hw ?_ (fun j11_ j12_ hj13_ hw => ?_)
  ·
    intro x10_ hw
    refine l_br hw (fun _ hw => ?_) (fun _ hw => ?_)
    ·
      exact hk _ hw
    ·
      refine l_br hw (fun _ hw => ?_) (fun _ hw => ?_)
      ·
        exact hk _ hw
      ·
        refine l_gA W rfl l0 (c := 2) rfl (Or.inr rfl) ?_
        refine l_aN W (f := 6) (x := 9) rfl l0 (c := 2) rfl (Or.inl rfl) rfl rfl ?_
        refine l_br hw (fun _ hw => ?_) (fun _ hw => ?_)
        ·
          exact hk _ hw
        ·
          refine l_gA W rfl l0 (c := 2) rfl (Or.inr rfl) ?_
          refine l_aI W (f := 6) rfl l0 rfl hw (fun hw => ?_)
          exact hk _ hw
  ·
    refine l_jn (fun (r : Prop) (r9 : Prop) =>  r9  → r ) hw ?_ (fun j14_ j15_ hj16_ hw => ?_)
    ·
      intro hw
      exact hj13_ _ hw
    ·
      refine l_brn hw (fun e19_ hw => ?_) (fun i17_ e18_ hw => ?_)
      ·
        exact hj16_  hw
      ·
        refine l_cv W rfl (lp3_ _ e18_) rfl ?_
        refine y_X4_partnerOf W hw (fun v20_ hw => ?_) rfl (lp3_ _ e18_)
        refine l_cv W rfl (l_p1 _ e8_) rfl ?_
        refine y_X5_isAhead W hw (fun v21_ hw => ?_) rfl (l_p1 _ e8_)
        refine l_br hw (fun _ hw => ?_) (fun _ hw => ?_)
        ·
          exact hj16_  hw
        ·
          exact hj13_ _ hw
def z_X6_joinByBook (N : Nat) (a0 : Nat) (p1 : Option Nat) (p2 : Option Nat) (p3 : Int32) (h0 : St) (K : Int32 → St → Prop) : Prop :=
  fx1 (fun (w3 : Int32 → Prop) (x1 : Int32) =>
    br (3 ≤ x1) (
      K 0 h0) (
      z_X6_indexOfJoin N a0 p1 p2 p3 x1 h0 fun v2 =>
      br (v2 = (-1)) (
        w3 (x1 + 1)) (
        nn p1 fun a3 =>
        z_X5_setWay N a3 p3 106 x1 v2 h0 fun h4 =>
        K 1 h4))) N 0
set_option maxHeartbeats 1000000 in
theorem y_X6_joinByBook {ad : Nat → Nat → Nat → Nat} {h : Hp} {V : Nat → Nat} {h0 : St} {N : Nat} (W : Wf ad h V h0) {a0 a0_ : Nat} {p1 p1_ : Option Nat} {p2 p2_ : Option Nat} {p3 : Int32} {K : Int32 → Hp → Prop} {K9 : Int32 → St → Prop} (hw : z_X6_joinByBook N a0_ p1_ p2_ p3 h0 K9) (hk : ∀ (r0 : Int32), ∀ (h9 : Hp) (s9 : St), Wf ad h9 V s9 → K9 r0 s9 →  K r0 h9) (e0 : a0 = ad 6 a0_ 0) (l0 : a0_ < V 6) (e_p1 : p1 = p1_.map (fun j => ad 5 j 0)) (l_p1 : ∀ r, p1_ = some r → r < V 5) (e_p2 : p2 = p2_.map (fun j => ad 7 j 0)) (l_p2 : ∀ r, p2_ = some r → r < V 7) : w_X6_joinByBook N a0 p1 p2 p3 h K := by
  subst e0 e_p1 e_p2
  unfold z_X6_joinByBook at hw
  unfold w_X6_joinByBook
  refine l_fx1 (fun (r : Int32 → Prop) (r9 : Int32 → Prop) => ∀ (x0 : Int32), r9 x0 → r x0) (fun _ h9_ => h9_.elim) ?_ N _ hw
  intro w3_ w4_ hv2_ x1_ hw
  refine l_br hw (fun _ hw => ?_) (fun _ hw => ?_)
  ·
    exact hk _ _ _ W hw
  ·
    refine l_cv W rfl l0 rfl ?_
    refine y_X6_indexOfJoin W hw (fun v5_ hw => ?_) rfl l0 rfl l_p1 rfl l_p2
    refine l_br hw (fun _ hw => ?_) (fun _ hw => ?_)
    ·
      exact hv2_ _ hw
    ·
      refine l_nn hw (fun i6_ e7_ hw => ?_)
      refine l_cv W rfl (l_p1 _ e7_) rfl ?_
      refine y_X5_setWay W hw (fun h9_ s10_ W8_ hw => ?_) rfl (l_p1 _ e7_)
      exact hk _ _ _ W8_ hw
def z_X6_drawByBook (N : Nat) (a0 : Nat) (p1 : Option Nat) (p2 : Option Nat) (h0 : St) (K : St → Prop) : Prop :=
  nn p2 fun a1 =>
  z_X7_size N a1 h0 fun v2 =>
  nn p1 fun a3 =>
  z_X5_takeOrder N a3 0 v2 h0 fun v4 h5 =>
  fx2 (fun (w12 : Int32 → St → Prop) (x7 : Int32) (h6 : St) =>
    z_X5_size N a3 h6 fun v8 =>
    br (v8 ≤ x7) (
      z_X6_guessOf N a0 (some a3) (some a1) h6 fun v9 =>
      z_X5_setGuess N a3 v9 h6 fun h10 =>
      K h10) (
      z_X6_joinByBook N a0 (some a3) (some a1) x7 h6 fun v11 h12 =>
      jn (fun (h13 : St) =>
        w12 (x7 + 1) h13) (fun j50 =>
        br (v11 = 0) (
          z_X6_conditionByBook N a0 (some a3) (some a1) x7 1 h12 fun v14 h15 =>
          br (v14 = 0) (
            z_X6_conditionByBook N a0 (some a3) (some a1) x7 0 h15 fun v16 h17 =>
            j50 h17) (
            j50 h15)) (
          j50 h12)))) N 0 h5
set_option maxHeartbeats 1000000 in
theorem y_X6_drawByBook {ad : Nat → Nat → Nat → Nat} {h : Hp} {V : Nat → Nat} {h0 : St} {N : Nat} (W : Wf ad h V h0) {a0 a0_ : Nat} {p1 p1_ : Option Nat} {p2 p2_ : Option Nat} {K : Hp → Prop} {K9 : St → Prop} (hw : z_X6_drawByBook N a0_ p1_ p2_ h0 K9) (hk : ∀ (h9 : Hp) (s9 : St), Wf ad h9 V s9 → K9 s9 →  K h9) (e0 : a0 = ad 6 a0_ 0) (l0 : a0_ < V 6) (e_p1 : p1 = p1_.map (fun j => ad 5 j 0)) (l_p1 : ∀ r, p1_ = some r → r < V 5) (e_p2 : p2 = p2_.map (fun j => ad 7 j 0)) (l_p2 : ∀ r, p2_ = some r → r < V 7) : w_X6_drawByBook N a0 p1 p2 h K := by
  subst e0 e_p1 e_p2
  unfold z_X6_drawByBook at hw
  unfold w_X6_drawByBook
  refine l_nn hw (fun i1_ e2_ hw => ?_)
  refine l_cv W rfl (l_p2 _ e2_) rfl ?_
  refine y_X7_size W hw (fun v3_ hw => ?_) rfl (l_p2 _ e2_)
  refine l_nn hw (fun i4_ e5_ hw => ?_)
  refine l_cv W rfl (l_p1 _ e5_) rfl ?_
  refine y_X5_takeOrder W hw (fun v6_ h8_ s9_ W7_ hw => ?_) rfl (l_p1 _ e5_)
  refine l_fx2 (fun (r : Int32 → Hp → Prop) (r9 : Int32 → St → Prop) => ∀ (x0 : Int32), ∀ (h9 : Hp) (s9 : St), Wf ad h9 V s9 → r9 x0 s9 → r x0 h9) (fun _ _ _ _ h9_ => h9_.elim) ?_ N _ _ _ W7_ hw
  intro w15_ w16_ hv14_ x10_ h12_ s13_ W11_ hw
  refine l_cv W11_ rfl (l_p1 _ e5_) rfl ?_
  refine y_X5_size W11_ hw (fun v17_ hw => ?_) rfl (l_p1 _ e5_)
  refine l_br hw (fun _ hw => ?_) (fun _ hw => ?_)
  ·
    refine l_cv W11_ rfl l0 rfl ?_
    refine y_X6_guessOf W11_ hw (fun v18_ hw => ?_) rfl l0 rfl (lv_some (l_p1 _ e5_)) rfl (lv_some (l_p2 _ e2_))
    refine l_cv W11_ rfl (l_p1 _ e5_) rfl ?_
    refine y_X5_setGuess W11_ hw (fun h20_ s21_ W19_ hw => ?_) rfl (l_p1 _ e5_)
    exact hk _ _ W19_ hw
  ·
    refine l_cv W11_ rfl l0 rfl ?_
    refine y_X6_joinByBook W11_ hw (fun v22_ h24_ s25_ W23_ hw => ?_) rfl l0 rfl (lv_some (l_p1 _ e5_)) rfl (lv_some (l_p2 _ e2_))
    refine l_jn (fun (r : Hp → Prop) (r9 : St → Prop) => ∀ (h9 : Hp) (s9 : St), Wf ad h9 V s9 → r9 s9 → r h9) hw ?_ (fun j29_ j30_ hj31_ hw => ?_)
    ·
      intro h27_ s28_ W26_ hw
      exact hv14_ _ _ _ W26_ hw
    ·
      refine l_br hw (fun _ hw => ?_) (fun _ hw => ?_)
      ·
        refine l_cv W23_ rfl l0 rfl ?_
        refine y_X6_conditionByBook W23_ hw (fun v32_ h34_ s35_ W33_ hw => ?_) rfl l0 rfl (lv_some (l_p1 _ e5_)) rfl (lv_some (l_p2 _ e2_))
        refine l_br hw (fun _ hw => ?_) (fun _ hw => ?_)
        ·
          refine l_cv W33_ rfl l0 rfl ?_
          refine y_X6_conditionByBook W33_ hw (fun v36_ h38_ s39_ W37_ hw => ?_) rfl l0 rfl (lv_some (l_p1 _ e5_)) rfl (lv_some (l_p2 _ e2_))
          exact hj31_ _ _ W37_ hw
        ·
          exact hj31_ _ _ W33_ hw
      ·
        exact hj31_ _ _ W23_ hw
def z_X6_takeCheapestWay (N : Nat) (a0 : Nat) (p1 : Option Nat) (p2 : Int32) (h0 : St) (K : St → Prop) : Prop :=
  nn (sQ h0 6 a0 0 0) fun a1 =>
  z_X6_costOf N a0 (some a1) p1 p2 h0 fun v2 =>
  fx3 (fun (w14 : Int32 → Int32 → St → Prop) (x4 : Int32) (x5 : Int32) (h3 : St) =>
    br (4 ≤ x5) (
      fx3 (fun (w82 : Int32 → Int32 → St → Prop) (x7 : Int32) (x8 : Int32) (h6 : St) =>
        br (3 ≤ x8) (
          K h6) (
          nn (sQ h6 6 a0 0 0) fun a9 =>
          z_X6_indexOfJoin N a0 (some a9) p1 p2 x8 h6 fun v10 =>
          nn (sQ h6 6 a0 0 0) fun a11 =>
          z_X5_positionAt N a11 p2 h6 fun v12 =>
          z_X6_joinCost N a0 x8 v12 h6 fun v13 =>
          jn (fun (x15 : Int32) (h14 : St) =>
            w82 x15 (x8 + 1) h14) (fun j147 =>
            br (v10 = (-1)) (
              j147 x7 h6) (
              br (x7 ≤ v13) (
                j147 x7 h6) (
                nn (sQ h6 6 a0 0 0) fun a16 =>
                z_X5_setWay N a16 p2 106 x8 v10 h6 fun h17 =>
                j147 v13 h17))))) N x4 0 h3) (
      nn (sQ h3 6 a0 0 0) fun a18 =>
      z_X6_indexOfCondition N a0 (some a18) p1 p2 x5 h3 fun v19 =>
      jn (fun (x21 : Int32) (h20 : St) =>
        w14 x21 (x5 + 1) h20) (fun j73 =>
        br (v19 = (-1)) (
          j73 x4 h3) (
          wI 4 x5 <|
          br (x4 ≤ (sP h3 6 a0 2 (x5).toNatClampNeg)) (
            j73 x4 h3) (
            wI 4 x5 <|
            nn (sQ h3 6 a0 0 0) fun a26 =>
            z_X5_setWay N a26 p2 99 x5 v19 h3 fun h27 =>
            j73 (sP h3 6 a0 2 (x5).toNatClampNeg) h27))))) N v2 0 h0
set_option maxHeartbeats 1000000 in
theorem y_X6_takeCheapestWay {ad : Nat → Nat → Nat → Nat} {h : Hp} {V : Nat → Nat} {h0 : St} {N : Nat} (W : Wf ad h V h0) {a0 a0_ : Nat} {p1 p1_ : Option Nat} {p2 : Int32} {K : Hp → Prop} {K9 : St → Prop} (hw : z_X6_takeCheapestWay N a0_ p1_ p2 h0 K9) (hk : ∀ (h9 : Hp) (s9 : St), Wf ad h9 V s9 → K9 s9 →  K h9) (e0 : a0 = ad 6 a0_ 0) (l0 : a0_ < V 6) (e_p1 : p1 = p1_.map (fun j => ad 7 j 0)) (l_p1 : ∀ r, p1_ = some r → r < V 7) : w_X6_takeCheapestWay N a0 p1 p2 h K := by
  subst e0 e_p1
  unfold z_X6_takeCheapestWay at hw
  unfold w_X6_takeCheapestWay
  refine l_gO W rfl l0 rfl (t := 5) rfl hw (fun i2_ l1_ hw => ?_)
  refine l_cv W rfl l0 rfl ?_
  refine y_X6_costOf W hw (fun v3_ hw => ?_) rfl l0 rfl (lv_some l1_) rfl l_p1
  refine l_fx3 (fun (r : Int32 → Int32 → Hp → Prop) (r9 : Int32 → Int32 → St → Prop) => ∀ (x0 : Int32), ∀ (x1 : Int32), ∀ (h9 : Hp) (s9 : St), Wf ad h9 V s9 → r9 x0 x1 s9 → r x0 x1 h9) (fun _ _ _ _ _ h9_ => h9_.elim) ?_ N _ _ _ _ W hw
  intro w10_ w11_ hv9_ x4_ x5_ h7_ s8_ W6_ hw
  refine l_br hw (fun _ hw => ?_) (fun _ hw => ?_)
  ·
    refine l_fx3 (fun (r : Int32 → Int32 → Hp → Prop) (r9 : Int32 → Int32 → St → Prop) => ∀ (x0 : Int32), ∀ (x1 : Int32), ∀ (h9 : Hp) (s9 : St), Wf ad h9 V s9 → r9 x0 x1 s9 → r x0 x1 h9) (fun _ _ _ _ _ h9_ => h9_.elim) ?_ N _ _ _ _ W6_ hw
    intro w18_ w19_ hv17_ x12_ x13_ h15_ s16_ W14_ hw
    refine l_br hw (fun _ hw => ?_) (fun _ hw => ?_)
    ·
      exact hk _ _ W14_ hw
    ·
      refine l_gO W14_ rfl l0 rfl (t := 5) rfl hw (fun i21_ l20_ hw => ?_)
      refine l_cv W14_ rfl l0 rfl ?_
      refine y_X6_indexOfJoin W14_ hw (fun v22_ hw => ?_) rfl l0 rfl (lv_some l20_) rfl l_p1
      refine l_gO W14_ rfl l0 rfl (t := 5) rfl hw (fun i24_ l23_ hw => ?_)
      refine l_cv W14_ rfl l23_ rfl ?_
      refine y_X5_positionAt W14_ hw (fun v25_ hw => ?_) rfl l23_
      refine l_cv W14_ rfl l0 rfl ?_
      refine y_X6_joinCost W14_ hw (fun v26_ hw => ?_) rfl l0
      refine l_jn (fun (r : Int32 → Hp → Prop) (r9 : Int32 → St → Prop) => ∀ (x0 : Int32), ∀ (h9 : Hp) (s9 : St), Wf ad h9 V s9 → r9 x0 s9 → r x0 h9) hw ?_ (fun j31_ j32_ hj33_ hw => ?_)
      ·
        intro x27_ h29_ s30_ W28_ hw
        exact hv17_ _ _ _ _ W28_ hw
      ·
        refine l_br hw (fun _ hw => ?_) (fun _ hw => ?_)
        ·
          exact hj33_ _ _ _ W14_ hw
        ·
          refine l_br hw (fun _ hw => ?_) (fun _ hw => ?_)
          ·
            exact hj33_ _ _ _ W14_ hw
          ·
            refine l_gO W14_ rfl l0 rfl (t := 5) rfl hw (fun i35_ l34_ hw => ?_)
            refine l_cv W14_ rfl l34_ rfl ?_
            refine y_X5_setWay W14_ hw (fun h37_ s38_ W36_ hw => ?_) rfl l34_
            exact hj33_ _ _ _ W36_ hw
  ·
    refine l_gO W6_ rfl l0 rfl (t := 5) rfl hw (fun i40_ l39_ hw => ?_)
    refine l_cv W6_ rfl l0 rfl ?_
    refine y_X6_indexOfCondition W6_ hw (fun v41_ hw => ?_) rfl l0 rfl (lv_some l39_) rfl l_p1
    refine l_jn (fun (r : Int32 → Hp → Prop) (r9 : Int32 → St → Prop) => ∀ (x0 : Int32), ∀ (h9 : Hp) (s9 : St), Wf ad h9 V s9 → r9 x0 s9 → r x0 h9) hw ?_ (fun j46_ j47_ hj48_ hw => ?_)
    ·
      intro x42_ h44_ s45_ W43_ hw
      exact hv9_ _ _ _ _ W43_ hw
    ·
      refine l_br hw (fun _ hw => ?_) (fun _ hw => ?_)
      ·
        exact hj48_ _ _ _ W6_ hw
      ·
        refine l_gA W6_ rfl l0 (c := 2) rfl (Or.inr rfl) ?_
        refine l_aI W6_ (f := 2) rfl l0 rfl hw (fun hw => ?_)
        refine l_br hw (fun _ hw => ?_) (fun _ hw => ?_)
        ·
          exact hj48_ _ _ _ W6_ hw
        ·
          refine l_gA W6_ rfl l0 (c := 2) rfl (Or.inr rfl) ?_
          refine l_aI W6_ (f := 2) rfl l0 rfl hw (fun hw => ?_)
          refine l_gO W6_ rfl l0 rfl (t := 5) rfl hw (fun i50_ l49_ hw => ?_)
          refine l_cv W6_ rfl l49_ rfl ?_
          refine y_X5_setWay W6_ hw (fun h52_ s53_ W51_ hw => ?_) rfl l49_
          exact hj48_ _ _ _ W51_ hw
def z_X6_drawByCounts (N : Nat) (a0 : Nat) (p1 : Option Nat) (p2 : Option Nat) (h0 : St) (K : St → Prop) : Prop :=
  fx3 (fun (w5 : Int32 → Int32 → St → Prop) (x2 : Int32) (x3 : Int32) (h1 : St) =>
    br ((18 / 3) ≤ x3) (
      K h1) (
      nn (sQ h1 6 a0 0 0) fun a4 =>
      nn p2 fun a5 =>
      z_X7_size N a5 h1 fun v6 =>
      z_X5_takeOrder N a4 x3 v6 h1 fun v7 h8 =>
      jn (fun (x10 : Int32) (h9 : St) =>
        w5 x10 (x3 + 1) h9) (fun j105 =>
        br (v7 = 0) (
          j105 x2 h8) (
          fx2 (fun (w35 : Int32 → St → Prop) (x12 : Int32) (h11 : St) =>
            nn (sQ h11 6 a0 0 0) fun a13 =>
            z_X5_size N a13 h11 fun v14 =>
            br (v14 ≤ x12) (
              nn (sQ h11 6 a0 0 0) fun a15 =>
              nn (sQ h11 6 a0 0 0) fun a16 =>
              z_X6_guessOf N a0 (some a16) (some a5) h11 fun v17 =>
              z_X5_setGuess N a15 v17 h11 fun h18 =>
              jn (
                nn (sQ h18 6 a0 0 0) fun a19 =>
                nn p1 fun a20 =>
                z_X5_copyFrom N a20 (some a19) h18 fun h21 =>
                j105 0 h21) (fun j95 =>
                br (x2 = 0) (
                  nn (sQ h18 6 a0 0 0) fun a22 =>
                  z_X5_guess N a22 h18 fun v23 =>
                  nn p1 fun a24 =>
                  z_X5_guess N a24 h18 fun v25 =>
                  br (0 ≤ (lg_cmp v23 v25)) (
                    j105 x2 h18) (
                    j95 )) (
                  j95 ))) (
              z_X6_takeCheapestWay N a0 (some a5) x12 h11 fun h26 =>
              w35 (x12 + 1) h26)) N 0 h8)))) N 1 0 h0
set_option maxHeartbeats 1000000 in
theorem y_X6_drawByCounts {ad : Nat → Nat → Nat → Nat} {h : Hp} {V : Nat → Nat} {h0 : St} {N : Nat} (W : Wf ad h V h0) {a0 a0_ : Nat} {p1 p1_ : Option Nat} {p2 p2_ : Option Nat} {K : Hp → Prop} {K9 : St → Prop} (hw : z_X6_drawByCounts N a0_ p1_ p2_ h0 K9) (hk : ∀ (h9 : Hp) (s9 : St), Wf ad h9 V s9 → K9 s9 →  K h9) (e0 : a0 = ad 6 a0_ 0) (l0 : a0_ < V 6) (e_p1 : p1 = p1_.map (fun j => ad 5 j 0)) (l_p1 : ∀ r, p1_ = some r → r < V 5) (e_p2 : p2 = p2_.map (fun j => ad 7 j 0)) (l_p2 : ∀ r, p2_ = some r → r < V 7) : w_X6_drawByCounts N a0 p1 p2 h K := by
  subst e0 e_p1 e_p2
  unfold z_X6_drawByCounts at hw
  unfold w_X6_drawByCounts
  refine l_fx3 (fun (r : Int32 → Int32 → Hp → Prop) (r9 : Int32 → Int32 → St → Prop) => ∀ (x0 : Int32), ∀ (x1 : Int32), ∀ (h9 : Hp) (s9 : St), Wf ad h9 V s9 → r9 x0 x1 s9 → r x0 x1 h9) (fun _ _ _ _ _ h9_ => h9_.elim) ?_ N _ _ _ _ W hw
  intro w7_ w8_ hv6_ x1_ x2_ h4_ s5_ W3_ hw
  refine l_br hw (fun _ hw => ?_) (fun _ hw => ?_)
  ·
    exact hk _ _ W3_ hw
  ·
    refine l_gO W3_ rfl l0 rfl (t := 5) rfl hw (fun i10_ l9_ hw => ?_)
    refine l_nn hw (fun i11_ e12_ hw => ?_)
    refine l_cv W3_ rfl (l_p2 _ e12_) rfl ?_
    refine y_X7_size W3_ hw (fun v13_ hw => ?_) rfl (l_p2 _ e12_)
    refine l_cv W3_ rfl l9_ rfl ?_
    refine y_X5_takeOrder W3_ hw (fun v14_ h16_ s17_ W15_ hw => ?_) rfl l9_
    refine l_jn (fun (r : Int32 → Hp → Prop) (r9 : Int32 → St → Prop) => ∀ (x0 : Int32), ∀ (h9 : Hp) (s9 : St), Wf ad h9 V s9 → r9 x0 s9 → r x0 h9) hw ?_ (fun j22_ j23_ hj24_ hw => ?_)
    ·
      intro x18_ h20_ s21_ W19_ hw
      exact hv6_ _ _ _ _ W19_ hw
    ·
      refine l_br hw (fun _ hw => ?_) (fun _ hw => ?_)
      ·
        exact hj24_ _ _ _ W15_ hw
      ·
        refine l_fx2 (fun (r : Int32 → Hp → Prop) (r9 : Int32 → St → Prop) => ∀ (x0 : Int32), ∀ (h9 : Hp) (s9 : St), Wf ad h9 V s9 → r9 x0 s9 → r x0 h9) (fun _ _ _ _ h9_ => h9_.elim) ?_ N _ _ _ W15_ hw
        intro w30_ w31_ hv29_ x25_ h27_ s28_ W26_ hw
        refine l_gO W26_ rfl l0 rfl (t := 5) rfl hw (fun i33_ l32_ hw => ?_)
        refine l_cv W26_ rfl l32_ rfl ?_
        refine y_X5_size W26_ hw (fun v34_ hw => ?_) rfl l32_
        refine l_br hw (fun _ hw => ?_) (fun _ hw => ?_)
        ·
          refine l_gO W26_ rfl l0 rfl (t := 5) rfl hw (fun i36_ l35_ hw => ?_)
          refine l_gO W26_ rfl l0 rfl (t := 5) rfl hw (fun i38_ l37_ hw => ?_)
          refine l_cv W26_ rfl l0 rfl ?_
          refine y_X6_guessOf W26_ hw (fun v39_ hw => ?_) rfl l0 rfl (lv_some l37_) rfl (lv_some (l_p2 _ e12_))
          refine l_cv W26_ rfl l35_ rfl ?_
          refine y_X5_setGuess W26_ hw (fun h41_ s42_ W40_ hw => ?_) rfl l35_
          refine l_jn (fun (r : Prop) (r9 : Prop) =>  r9  → r ) hw ?_ (fun j43_ j44_ hj45_ hw => ?_)
          ·
            intro hw
            refine l_gO W40_ rfl l0 rfl (t := 5) rfl hw (fun i47_ l46_ hw => ?_)
            refine l_nn hw (fun i48_ e49_ hw => ?_)
            refine l_cv W40_ rfl (l_p1 _ e49_) rfl ?_
            refine y_X5_copyFrom W40_ hw (fun h51_ s52_ W50_ hw => ?_) rfl (l_p1 _ e49_) rfl (lv_some l46_)
            exact hj24_ _ _ _ W50_ hw
          ·
            refine l_br hw (fun _ hw => ?_) (fun _ hw => ?_)
            ·
              refine l_gO W40_ rfl l0 rfl (t := 5) rfl hw (fun i54_ l53_ hw => ?_)
              refine l_cv W40_ rfl l53_ rfl ?_
              refine y_X5_guess W40_ hw (fun v55_ hw => ?_) rfl l53_
              refine l_nn hw (fun i56_ e57_ hw => ?_)
              refine l_cv W40_ rfl (l_p1 _ e57_) rfl ?_
              refine y_X5_guess W40_ hw (fun v58_ hw => ?_) rfl (l_p1 _ e57_)
              refine l_br hw (fun _ hw => ?_) (fun _ hw => ?_)
              ·
                exact hj24_ _ _ _ W40_ hw
              ·
                exact hj45_  hw
            ·
              exact hj45_  hw
        ·
          refine l_cv W26_ rfl l0 rfl ?_
          refine y_X6_takeCheapestWay W26_ hw (fun h60_ s61_ W59_ hw => ?_) rfl l0 rfl (lv_some (l_p2 _ e12_))
          exact hv29_ _ _ _ W59_ hw
def z_X6_takeConditions (N : Nat) (a0 : Nat) (p1 : Option Nat) (p2 : Option Nat) (p3 : Int32) (h0 : St) (K : St → Prop) : Prop :=
  fx2 (fun (w3 : Int32 → St → Prop) (x2 : Int32) (h1 : St) =>
    br (4 ≤ x2) (
      K h1) (
      nn p2 fun a3 =>
      z_X7_conditionAt N a3 x2 h1 fun o4 =>
      jn (fun (o5 : Option Nat) =>
        wA 4 x2 (stP h1 6 a0 3 (x2).toNatClampNeg (-1)) fun h7 =>
        jn (fun (h8 : St) =>
          w3 (x2 + 1) h8) (fun j108 =>
          brn o5 (
            j108 h7) (fun a9 =>
            z_X10_shareOf N a9 o4 h7 fun v10 =>
            wA 4 x2 (stP h7 6 a0 1 (x2).toNatClampNeg v10) fun h12 =>
            z_X10_takenRows N a9 h12 fun v14 =>
            wA 4 x2 (stP h12 6 a0 2 (x2).toNatClampNeg (1 + ((v14 * v10) / 1000))) fun h15 =>
            nn o4 fun a17 =>
            z_X1_column N a17 h15 fun v18 =>
            nn p1 fun a19 =>
            z_X9_lowestIndexOn N a19 (some a9) v18 p3 h15 fun v20 =>
            wA 4 x2 (stP h15 6 a0 3 (x2).toNatClampNeg v20) fun h21 =>
            j108 h21))) (fun j35 =>
        brn o4 (
          j35 none) (fun a22 =>
          z_X1_position N a22 h1 fun v23 =>
          z_X7_tableOf N a3 v23 h1 fun o24 =>
          j35 o24)))) N 0 h0
set_option maxHeartbeats 1000000 in
theorem y_X6_takeConditions {ad : Nat → Nat → Nat → Nat} {h : Hp} {V : Nat → Nat} {h0 : St} {N : Nat} (W : Wf ad h V h0) {a0 a0_ : Nat} {p1 p1_ : Option Nat} {p2 p2_ : Option Nat} {p3 : Int32} {K : Hp → Prop} {K9 : St → Prop} (hw : z_X6_takeConditions N a0_ p1_ p2_ p3 h0 K9) (hk : ∀ (h9 : Hp) (s9 : St), Wf ad h9 V s9 → K9 s9 →  K h9) (e0 : a0 = ad 6 a0_ 0) (l0 : a0_ < V 6) (e_p1 : p1 = p1_.map (fun j => ad 9 j 0)) (l_p1 : ∀ r, p1_ = some r → r < V 9) (e_p2 : p2 = p2_.map (fun j => ad 7 j 0)) (l_p2 : ∀ r, p2_ = some r → r < V 7) : w_X6_takeConditions N a0 p1 p2 p3 h K := by
  subst e0 e_p1 e_p2
  unfold z_X6_takeConditions at hw
  unfold w_X6_takeConditions
  refine l_fx2 (fun (r : Int32 → Hp → Prop) (r9 : Int32 → St → Prop) => ∀ (x0 : Int32), ∀ (h9 : Hp) (s9 : St), Wf ad h9 V s9 → r9 x0 s9 → r x0 h9) (fun _ _ _ _ h9_ => h9_.elim) ?_ N _ _ _ W hw
  intro w6_ w7_ hv5_ x1_ h3_ s4_ W2_ hw
  refine l_br hw (fun _ hw => ?_) (fun _ hw => ?_)
  ·
    exact hk _ _ W2_ hw
  ·
    refine l_nn hw (fun i8_ e9_ hw => ?_)
    refine l_cv W2_ rfl (l_p2 _ e9_) rfl ?_
    refine y_X7_conditionAt W2_ hw (@fun o11_ u13_ lp10_ hw e12_ => ?_) rfl (l_p2 _ e9_)
    subst e12_
    refine l_jn (fun (r : Option Nat → Prop) (r9 : Option Nat → Prop) => ∀ (o0 u0 : Option Nat), (∀ r, o0 = some r → r < V 10) → u0 = o0.map (fun j => ad 10 j 0) → r9 o0 → r u0) hw ?_ (fun j18_ j19_ hj20_ hw => ?_)
    ·
      intro o15_ u16_ lp14_ e17_ hw
      subst e17_
      refine l_gA W2_ rfl l0 (c := 2) rfl (Or.inr rfl) ?_
      refine l_sI W2_ (f := 3) rfl l0 rfl hw (fun h22_ W21_ hw => ?_)
      refine l_jn (fun (r : Hp → Prop) (r9 : St → Prop) => ∀ (h9 : Hp) (s9 : St), Wf ad h9 V s9 → r9 s9 → r h9) hw ?_ (fun j26_ j27_ hj28_ hw => ?_)
      ·
        intro h24_ s25_ W23_ hw
        exact hv5_ _ _ _ W23_ hw
      ·
        refine l_brn hw (fun e31_ hw => ?_) (fun i29_ e30_ hw => ?_)
        ·
          exact hj28_ _ _ W21_ hw
        ·
          refine l_cv W21_ rfl (lp14_ _ e30_) rfl ?_
          refine y_X10_shareOf W21_ hw (fun v32_ hw => ?_) rfl (lp14_ _ e30_) rfl lp10_
          refine l_gA W21_ rfl l0 (c := 2) rfl (Or.inr rfl) ?_
          refine l_sI W21_ (f := 1) rfl l0 rfl hw (fun h34_ W33_ hw => ?_)
          refine l_gA W33_ rfl l0 (c := 2) rfl (Or.inr rfl) ?_
          refine l_cv W33_ rfl (lp14_ _ e30_) rfl ?_
          refine y_X10_takenRows W33_ hw (fun v35_ hw => ?_) rfl (lp14_ _ e30_)
          refine l_sI W33_ (f := 2) rfl l0 rfl hw (fun h37_ W36_ hw => ?_)
          refine l_gA W36_ rfl l0 (c := 2) rfl (Or.inr rfl) ?_
          refine l_nn hw (fun i38_ e39_ hw => ?_)
          refine l_cv W36_ rfl (lp10_ _ e39_) rfl ?_
          refine y_X1_column W36_ hw (fun v40_ hw => ?_) rfl (lp10_ _ e39_)
          refine l_nn hw (fun i41_ e42_ hw => ?_)
          refine l_cv W36_ rfl (l_p1 _ e42_) rfl ?_
          refine y_X9_lowestIndexOn W36_ hw (fun v43_ hw => ?_) rfl (l_p1 _ e42_) rfl (lv_some (lp14_ _ e30_))
          refine l_sI W36_ (f := 3) rfl l0 rfl hw (fun h45_ W44_ hw => ?_)
          exact hj28_ _ _ W44_ hw
    ·
      refine l_brn hw (fun e48_ hw => ?_) (fun i46_ e47_ hw => ?_)
      ·
        exact hj20_ _ _ lv_none rfl hw
      ·
        refine l_cv W2_ rfl (lp10_ _ e47_) rfl ?_
        refine y_X1_position W2_ hw (fun v49_ hw => ?_) rfl (lp10_ _ e47_)
        refine l_cv W2_ rfl (l_p2 _ e9_) rfl ?_
        refine y_X7_tableOf W2_ hw (@fun o51_ u53_ lp50_ hw e52_ => ?_) rfl (l_p2 _ e9_)
        subst e52_
        exact hj20_ _ _ lp50_ rfl hw
def z_X6_takeJoinFrom (N : Nat) (a0 : Nat) (p1 : Int32) (p2 : Int32) (p3 : Int32) (p4 : Int32) (h0 : St) (K : St → Prop) : Prop :=
  br (((p1 * 3) + p2) < 0) (
    K h0) (
    br ((9 : Int32) ≤ ((p1 * 3) + p2)) (
      K h0) (
      br ((9 : Int32) ≤ ((p1 * 3) + p2)) (
        K h0) (
        wA 9 ((p1 * 3) + p2) (stP h0 6 a0 5 (((p1 * 3) + p2)).toNatClampNeg p3) fun h6 =>
        wA 9 ((p1 * 3) + p2) (stP h6 6 a0 6 (((p1 * 3) + p2)).toNatClampNeg p4) fun h8 =>
        K h8)))
set_option maxHeartbeats 1000000 in
theorem y_X6_takeJoinFrom {ad : Nat → Nat → Nat → Nat} {h : Hp} {V : Nat → Nat} {h0 : St} {N : Nat} (W : Wf ad h V h0) {a0 a0_ : Nat} {p1 : Int32} {p2 : Int32} {p3 : Int32} {p4 : Int32} {K : Hp → Prop} {K9 : St → Prop} (hw : z_X6_takeJoinFrom N a0_ p1 p2 p3 p4 h0 K9) (hk : ∀ (h9 : Hp) (s9 : St), Wf ad h9 V s9 → K9 s9 →  K h9) (e0 : a0 = ad 6 a0_ 0) (l0 : a0_ < V 6) : w_X6_takeJoinFrom N a0 p1 p2 p3 p4 h K := by
  subst e0
  unfold z_X6_takeJoinFrom at hw
  unfold w_X6_takeJoinFrom
  refine l_br hw (fun _ hw => ?_) (fun _ hw => ?_)
  ·
    exact hk _ _ W hw
  ·
    refine l_gA W rfl l0 (c := 2) rfl (Or.inr rfl) ?_
    refine l_aN W (f := 5) (x := 9) rfl l0 (c := 2) rfl (Or.inl rfl) rfl rfl ?_
    refine l_br hw (fun _ hw => ?_) (fun _ hw => ?_)
    ·
      exact hk _ _ W hw
    ·
      refine l_gA W rfl l0 (c := 2) rfl (Or.inr rfl) ?_
      refine l_aN W (f := 6) (x := 9) rfl l0 (c := 2) rfl (Or.inl rfl) rfl rfl ?_
      refine l_br hw (fun _ hw => ?_) (fun _ hw => ?_)
      ·
        exact hk _ _ W hw
      ·
        refine l_gA W rfl l0 (c := 2) rfl (Or.inr rfl) ?_
        refine l_sI W (f := 5) rfl l0 rfl hw (fun h2_ W1_ hw => ?_)
        refine l_gA W1_ rfl l0 (c := 2) rfl (Or.inr rfl) ?_
        refine l_sI W1_ (f := 6) rfl l0 rfl hw (fun h4_ W3_ hw => ?_)
        exact hk _ _ W3_ hw
def z_X6_takeJoins (N : Nat) (a0 : Nat) (p1 : Option Nat) (p2 : Option Nat) (p3 : Int32) (h0 : St) (K : St → Prop) : Prop :=
  fx2 (fun (w3 : Int32 → St → Prop) (x2 : Int32) (h1 : St) =>
    br (3 ≤ x2) (
      K h1) (
      nn p2 fun a3 =>
      z_X7_joinAt N a3 x2 h1 fun o4 =>
      fx3 (fun (w23 : Int32 → Int32 → St → Prop) (x6 : Int32) (x7 : Int32) (h5 : St) =>
        jn (
          z_X11_divided N 1000 x6 h5 fun v9 =>
          wA 3 x2 (stP h5 6 a0 4 (x2).toNatClampNeg v9) fun h10 =>
          w3 (x2 + 1) h10) (fun j124 =>
          brn o4 (
            j124 ) (fun a11 =>
            br (3 ≤ x7) (
              j124 ) (
              z_X7_tableOf N a3 x7 h5 fun o12 =>
              jn (fun (x14 : Int32) (h13 : St) =>
                w23 x14 (x7 + 1) h13) (fun j118 =>
                brn o12 (
                  j118 x6 h5) (fun a15 =>
                  z_X4_partnerOf N a11 x7 h5 fun v16 =>
                  br (v16 = (-1)) (
                    j118 x6 h5) (
                    z_X4_columnOf N a11 x7 h5 fun v17 =>
                    z_X10_takenUnlike N a15 v17 h5 fun v18 =>
                    z_X10_takenRows N a15 h5 fun v19 =>
                    z_X11_divided N v19 v18 h5 fun v20 =>
                    nn p1 fun a21 =>
                    z_X9_lowestIndexOn N a21 (some a15) v17 p3 h5 fun v22 =>
                    z_X6_takeJoinFrom N a0 x2 x7 (1 + v20) v22 h5 fun h23 =>
                    j118 (if x6 < v18 then v18 else x6) h23))))))) N 0 0 h1)) N 0 h0
set_option maxHeartbeats 1000000 in
theorem y_X6_takeJoins {ad : Nat → Nat → Nat → Nat} {h : Hp} {V : Nat → Nat} {h0 : St} {N : Nat} (W : Wf ad h V h0) {a0 a0_ : Nat} {p1 p1_ : Option Nat} {p2 p2_ : Option Nat} {p3 : Int32} {K : Hp → Prop} {K9 : St → Prop} (hw : z_X6_takeJoins N a0_ p1_ p2_ p3 h0 K9) (hk : ∀ (h9 : Hp) (s9 : St), Wf ad h9 V s9 → K9 s9 →  K h9) (e0 : a0 = ad 6 a0_ 0) (l0 : a0_ < V 6) (e_p1 : p1 = p1_.map (fun j => ad 9 j 0)) (l_p1 : ∀ r, p1_ = some r → r < V 9) (e_p2 : p2 = p2_.map (fun j => ad 7 j 0)) (l_p2 : ∀ r, p2_ = some r → r < V 7) : w_X6_takeJoins N a0 p1 p2 p3 h K := by
  subst e0 e_p1 e_p2
  unfold z_X6_takeJoins at hw
  unfold w_X6_takeJoins
  refine l_fx2 (fun (r : Int32 → Hp → Prop) (r9 : Int32 → St → Prop) => ∀ (x0 : Int32), ∀ (h9 : Hp) (s9 : St), Wf ad h9 V s9 → r9 x0 s9 → r x0 h9) (fun _ _ _ _ h9_ => h9_.elim) ?_ N _ _ _ W hw
  intro w6_ w7_ hv5_ x1_ h3_ s4_ W2_ hw
  refine l_br hw (fun _ hw => ?_) (fun _ hw => ?_)
  ·
    exact hk _ _ W2_ hw
  ·
    refine l_nn hw (fun i8_ e9_ hw => ?_)
    refine l_cv W2_ rfl (l_p2 _ e9_) rfl ?_
    refine y_X7_joinAt W2_ hw (@fun o11_ u13_ lp10_ hw e12_ => ?_) rfl (l_p2 _ e9_)
    subst e12_
    refine l_fx3 (fun (r : Int32 → Int32 → Hp → Prop) (r9 : Int32 → Int32 → St → Prop) => ∀ (x0 : Int32), ∀ (x1 : Int32), ∀ (h9 : Hp) (s9 : St), Wf ad h9 V s9 → r9 x0 x1 s9 → r x0 x1 h9) (fun _ _ _ _ _ h9_ => h9_.elim) ?_ N _ _ _ _ W2_ hw
    intro w20_ w21_ hv19_ x14_ x15_ h17_ s18_ W16_ hw
    refine l_jn (fun (r : Prop) (r9 : Prop) =>  r9  → r ) hw ?_ (fun j22_ j23_ hj24_ hw => ?_)
    ·
      intro hw
      refine l_gA W16_ rfl l0 (c := 2) rfl (Or.inr rfl) ?_
      refine y_X11_divided W16_ hw (fun v25_ hw => ?_) 
      refine l_sI W16_ (f := 4) rfl l0 rfl hw (fun h27_ W26_ hw => ?_)
      exact hv5_ _ _ _ W26_ hw
    ·
      refine l_brn hw (fun e30_ hw => ?_) (fun i28_ e29_ hw => ?_)
      ·
        exact hj24_  hw
      ·
        refine l_br hw (fun _ hw => ?_) (fun _ hw => ?_)
        ·
          exact hj24_  hw
        ·
          refine l_cv W16_ rfl (l_p2 _ e9_) rfl ?_
          refine y_X7_tableOf W16_ hw (@fun o32_ u34_ lp31_ hw e33_ => ?_) rfl (l_p2 _ e9_)
          subst e33_
          refine l_jn (fun (r : Int32 → Hp → Prop) (r9 : Int32 → St → Prop) => ∀ (x0 : Int32), ∀ (h9 : Hp) (s9 : St), Wf ad h9 V s9 → r9 x0 s9 → r x0 h9) hw ?_ (fun j39_ j40_ hj41_ hw => ?_)
          ·
            intro x35_ h37_ s38_ W36_ hw
            exact hv19_ _ _ _ _ W36_ hw
          ·
            refine l_brn hw (fun e44_ hw => ?_) (fun i42_ e43_ hw => ?_)
            ·
              exact hj41_ _ _ _ W16_ hw
            ·
              refine l_cv W16_ rfl (lp10_ _ e29_) rfl ?_
              refine y_X4_partnerOf W16_ hw (fun v45_ hw => ?_) rfl (lp10_ _ e29_)
              refine l_br hw (fun _ hw => ?_) (fun _ hw => ?_)
              ·
                exact hj41_ _ _ _ W16_ hw
              ·
                refine l_cv W16_ rfl (lp10_ _ e29_) rfl ?_
                refine y_X4_columnOf W16_ hw (fun v46_ hw => ?_) rfl (lp10_ _ e29_)
                refine l_cv W16_ rfl (lp31_ _ e43_) rfl ?_
                refine y_X10_takenUnlike W16_ hw (fun v47_ hw => ?_) rfl (lp31_ _ e43_)
                refine l_cv W16_ rfl (lp31_ _ e43_) rfl ?_
                refine y_X10_takenRows W16_ hw (fun v48_ hw => ?_) rfl (lp31_ _ e43_)
                refine y_X11_divided W16_ hw (fun v49_ hw => ?_) 
                refine l_nn hw (fun i50_ e51_ hw => ?_)
                refine l_cv W16_ rfl (l_p1 _ e51_) rfl ?_
                refine y_X9_lowestIndexOn W16_ hw (fun v52_ hw => ?_) rfl (l_p1 _ e51_) rfl (lv_some (lp31_ _ e43_))
                refine l_cv W16_ rfl l0 rfl ?_
                refine y_X6_takeJoinFrom W16_ hw (fun h54_ s55_ W53_ hw => ?_) rfl l0
                exact hj41_ _ _ _ W53_ hw
def z_X6_draw (N : Nat) (a0 : Nat) (p1 : Option Nat) (p2 : Int32) (p3 : Option Nat) (p4 : Option Nat) (p5 : Int32) (h0 : St) (K : St → Prop) : Prop :=
  z_X6_takeConditions N a0 p3 p4 p5 h0 fun h1 =>
  z_X6_takeJoins N a0 p3 p4 p5 h1 fun h2 =>
  br (p2 = 0) (
    z_X6_drawByBook N a0 p1 p4 h2 fun h4 =>
    K h4) (
    z_X6_drawByCounts N a0 p1 p4 h2 fun h3 =>
    K h3)
set_option maxHeartbeats 1000000 in
theorem y_X6_draw {ad : Nat → Nat → Nat → Nat} {h : Hp} {V : Nat → Nat} {h0 : St} {N : Nat} (W : Wf ad h V h0) {a0 a0_ : Nat} {p1 p1_ : Option Nat} {p2 : Int32} {p3 p3_ : Option Nat} {p4 p4_ : Option Nat} {p5 : Int32} {K : Hp → Prop} {K9 : St → Prop} (hw : z_X6_draw N a0_ p1_ p2 p3_ p4_ p5 h0 K9) (hk : ∀ (h9 : Hp) (s9 : St), Wf ad h9 V s9 → K9 s9 →  K h9) (e0 : a0 = ad 6 a0_ 0) (l0 : a0_ < V 6) (e_p1 : p1 = p1_.map (fun j => ad 5 j 0)) (l_p1 : ∀ r, p1_ = some r → r < V 5) (e_p3 : p3 = p3_.map (fun j => ad 9 j 0)) (l_p3 : ∀ r, p3_ = some r → r < V 9) (e_p4 : p4 = p4_.map (fun j => ad 7 j 0)) (l_p4 : ∀ r, p4_ = some r → r < V 7) : w_X6_draw N a0 p1 p2 p3 p4 p5 h K := by
  subst e0 e_p1 e_p3 e_p4
  unfold z_X6_draw at hw
  unfold w_X6_draw
  refine l_cv W rfl l0 rfl ?_
  refine y_X6_takeConditions W hw (fun h2_ s3_ W1_ hw => ?_) rfl l0 rfl l_p3 rfl l_p4
  refine l_cv W1_ rfl l0 rfl ?_
  refine y_X6_takeJoins W1_ hw (fun h5_ s6_ W4_ hw => ?_) rfl l0 rfl l_p3 rfl l_p4
  refine l_br hw (fun _ hw => ?_) (fun _ hw => ?_)
  ·
    refine l_cv W4_ rfl l0 rfl ?_
    refine y_X6_drawByBook W4_ hw (fun h8_ s9_ W7_ hw => ?_) rfl l0 rfl l_p1 rfl l_p4
    exact hk _ _ W7_ hw
  ·
    refine l_cv W4_ rfl l0 rfl ?_
    refine y_X6_drawByCounts W4_ hw (fun h11_ s12_ W10_ hw => ?_) rfl l0 rfl l_p1 rfl l_p4
    exact hk _ _ W10_ hw
end Z1
