/-! LEVEL 2, programs over registers (generated). -/
section Z0
def z_X0_frameCount (N : Nat) (a0 : Nat) (h0 : St) (K : Int32 → Prop) : Prop :=
  K (sP h0 0 a0 1 0)
set_option maxHeartbeats 1000000 in
theorem y_X0_frameCount {ad : Nat → Nat → Nat → Nat} {h : Hp} {V : Nat → Nat} {h0 : St} {N : Nat} (W : Wf ad h V h0) {a0 a0_ : Nat} {K : Int32 → Prop} {K9 : Int32 → Prop} (hw : z_X0_frameCount N a0_ h0 K9) (hk : ∀ (r0 : Int32), K9 r0 →  K r0) (e0 : a0 = ad 0 a0_ 0) (l0 : a0_ < V 0) : w_X0_frameCount N a0 h K := by
  subst e0
  unfold z_X0_frameCount at hw
  unfold w_X0_frameCount
  refine l_gI W rfl l0 rfl ?_
  exact hk _ hw
def z_X0_size (N : Nat) (a0 : Nat) (h0 : St) (K : Int32 → Prop) : Prop :=
  K (sP h0 0 a0 2 0)
set_option maxHeartbeats 1000000 in
theorem y_X0_size {ad : Nat → Nat → Nat → Nat} {h : Hp} {V : Nat → Nat} {h0 : St} {N : Nat} (W : Wf ad h V h0) {a0 a0_ : Nat} {K : Int32 → Prop} {K9 : Int32 → Prop} (hw : z_X0_size N a0_ h0 K9) (hk : ∀ (r0 : Int32), K9 r0 →  K r0) (e0 : a0 = ad 0 a0_ 0) (l0 : a0_ < V 0) : w_X0_size N a0 h K := by
  subst e0
  unfold z_X0_size at hw
  unfold w_X0_size
  refine l_gI W rfl l0 rfl ?_
  exact hk _ hw
def z_X0_keyAt (N : Nat) (a0 : Nat) (p1 : Int32) (h0 : St) (K : Int32 → Prop) : Prop :=
  br (p1 < 0) (
    K (-1)) (
    br ((sP h0 0 a0 2 0) ≤ p1) (
      K (-1)) (
      br ((12 : Int32) ≤ p1) (
        K (-1)) (
        wI 12 p1 <|
        K (sP h0 0 a0 0 (p1).toNatClampNeg))))
set_option maxHeartbeats 1000000 in
theorem y_X0_keyAt {ad : Nat → Nat → Nat → Nat} {h : Hp} {V : Nat → Nat} {h0 : St} {N : Nat} (W : Wf ad h V h0) {a0 a0_ : Nat} {p1 : Int32} {K : Int32 → Prop} {K9 : Int32 → Prop} (hw : z_X0_keyAt N a0_ p1 h0 K9) (hk : ∀ (r0 : Int32), K9 r0 →  K r0) (e0 : a0 = ad 0 a0_ 0) (l0 : a0_ < V 0) : w_X0_keyAt N a0 p1 h K := by
  subst e0
  unfold z_X0_keyAt at hw
  unfold w_X0_keyAt
  refine l_br hw (fun _ hw => ?_) (fun _ hw => ?_)
  ·
    exact hk _ hw
  ·
    refine l_gI W rfl l0 rfl ?_
    refine l_br hw (fun _ hw => ?_) (fun _ hw => ?_)
    ·
      exact hk _ hw
    ·
      refine l_gA W rfl l0 (c := 2) rfl (Or.inr rfl) ?_
      refine l_aN W (f := 0) (x := 12) rfl l0 (c := 2) rfl (Or.inl rfl) rfl rfl ?_
      refine l_br hw (fun _ hw => ?_) (fun _ hw => ?_)
      ·
        exact hk _ hw
      ·
        refine l_gA W rfl l0 (c := 2) rfl (Or.inr rfl) ?_
        refine l_aI W (f := 0) rfl l0 rfl hw (fun hw => ?_)
        exact hk _ hw
def z_X0_clear (N : Nat) (a0 : Nat) (h0 : St) (K : St → Prop) : Prop :=
  lt_ (stP h0 0 a0 2 0 0) fun h1 =>
  K h1
set_option maxHeartbeats 1000000 in
theorem y_X0_clear {ad : Nat → Nat → Nat → Nat} {h : Hp} {V : Nat → Nat} {h0 : St} {N : Nat} (W : Wf ad h V h0) {a0 a0_ : Nat} {K : Hp → Prop} {K9 : St → Prop} (hw : z_X0_clear N a0_ h0 K9) (hk : ∀ (h9 : Hp) (s9 : St), Wf ad h9 V s9 → K9 s9 →  K h9) (e0 : a0 = ad 0 a0_ 0) (l0 : a0_ < V 0) : w_X0_clear N a0 h K := by
  subst e0
  unfold z_X0_clear at hw
  unfold w_X0_clear
  refine l_pI W rfl l0 rfl hw (fun h2_ W1_ hw => ?_)
  exact hk _ _ W1_ hw
def z_X0_setFrames (N : Nat) (a0 : Nat) (p1 : Int32) (h0 : St) (K : St → Prop) : Prop :=
  lt_ (stP h0 0 a0 1 0 p1) fun h1 =>
  lt_ (stP h1 0 a0 2 0 (if p1 < (sP h1 0 a0 2 0) then p1 else (sP h1 0 a0 2 0))) fun h3 =>
  K h3
set_option maxHeartbeats 1000000 in
theorem y_X0_setFrames {ad : Nat → Nat → Nat → Nat} {h : Hp} {V : Nat → Nat} {h0 : St} {N : Nat} (W : Wf ad h V h0) {a0 a0_ : Nat} {p1 : Int32} {K : Hp → Prop} {K9 : St → Prop} (hw : z_X0_setFrames N a0_ p1 h0 K9) (hk : ∀ (h9 : Hp) (s9 : St), Wf ad h9 V s9 → K9 s9 →  K h9) (e0 : a0 = ad 0 a0_ 0) (l0 : a0_ < V 0) : w_X0_setFrames N a0 p1 h K := by
  subst e0
  unfold z_X0_setFrames at hw
  unfold w_X0_setFrames
  refine l_pI W rfl l0 rfl hw (fun h2_ W1_ hw => ?_)
  refine l_gI W1_ rfl l0 rfl ?_
  refine l_pI W1_ rfl l0 rfl hw (fun h4_ W3_ hw => ?_)
  exact hk _ _ W3_ hw
def z_X0_placeOf (N : Nat) (a0 : Nat) (p1 : Int32) (h0 : St) (K : Int32 → Prop) : Prop :=
  fx1 (fun (w2 : Int32 → Prop) (x1 : Int32) =>
    br ((sP h0 0 a0 2 0) ≤ x1) (
      K x1) (
      br ((12 : Int32) ≤ x1) (
        K x1) (
        wI 12 x1 <|
        br ((sP h0 0 a0 0 (x1).toNatClampNeg) = p1) (
          K x1) (
          w2 (x1 + 1))))) N 0
set_option maxHeartbeats 1000000 in
theorem y_X0_placeOf {ad : Nat → Nat → Nat → Nat} {h : Hp} {V : Nat → Nat} {h0 : St} {N : Nat} (W : Wf ad h V h0) {a0 a0_ : Nat} {p1 : Int32} {K : Int32 → Prop} {K9 : Int32 → Prop} (hw : z_X0_placeOf N a0_ p1 h0 K9) (hk : ∀ (r0 : Int32), K9 r0 →  K r0) (e0 : a0 = ad 0 a0_ 0) (l0 : a0_ < V 0) : w_X0_placeOf N a0 p1 h K := by
  subst e0
  unfold z_X0_placeOf at hw
  unfold w_X0_placeOf
  refine l_fx1 (fun (r : Int32 → Prop) (r9 : Int32 → Prop) => ∀ (x0 : Int32), r9 x0 → r x0) (fun _ h9_ => h9_.elim) ?_ N _ hw
  intro w3_ w4_ hv2_ x1_ hw
  refine l_gI W rfl l0 rfl ?_
  refine l_br hw (fun _ hw => ?_) (fun _ hw => ?_)
  ·
    exact hk _ hw
  ·
    refine l_gA W rfl l0 (c := 2) rfl (Or.inr rfl) ?_
    refine l_aN W (f := 0) (x := 12) rfl l0 (c := 2) rfl (Or.inl rfl) rfl rfl ?_
    refine l_br hw (fun _ hw => ?_) (fun _ hw => ?_)
    ·
      exact hk _ hw
    ·
      refine l_gA W rfl l0 (c := 2) rfl (Or.inr rfl) ?_
      refine l_aI W (f := 0) rfl l0 rfl hw (fun hw => ?_)
      refine l_br hw (fun _ hw => ?_) (fun _ hw => ?_)
      ·
        exact hk _ hw
      ·
        exact hv2_ _ hw
def z_X0_missed (N : Nat) (a0 : Nat) (p1 : Int32) (h0 : St) (K : Int32 → St → Prop) : Prop :=
  z_X0_placeOf N a0 p1 h0 fun v1 =>
  jn (fun (v3 : Int32) =>
    jn (fun (x5 : Int32) (h4 : St) =>
      fx2 (fun (w70 : Int32 → St → Prop) (x9 : Int32) (h8 : St) =>
        br (x9 ≤ 0) (
          wA 12 (0 : Int32) (stP h8 0 a0 0 ((0 : Int32)).toNatClampNeg p1) fun h11 =>
          ok (narrow .boolean (.int v3) = .int v3) <|
          K v3 h11) (
          wI 12 (x9 - 1) <|
          wA 12 x9 (stP h8 0 a0 0 (x9).toNatClampNeg (sP h8 0 a0 0 ((x9 - 1)).toNatClampNeg)) fun h15 =>
          w70 (x9 + (-1)) h15)) N (if ((12 : Int32) - 1) < x5 then ((12 : Int32) - 1) else x5) h4) (fun j57 =>
      br (v3 = 0) (
        j57 v1 h0) (
        br (0 < (sP h0 0 a0 1 0)) (
          lt_ (stP h0 0 a0 2 0 (if (sP h0 0 a0 1 0) < ((sP h0 0 a0 2 0) + 1) then (sP h0 0 a0 1 0) else ((sP h0 0 a0 2 0) + 1))) fun h19 =>
          j57 ((sP h19 0 a0 2 0) - 1) h19) (
          K 1 h0)))) (fun j19 =>
    br (v1 = (sP h0 0 a0 2 0)) (
      j19 1) (
      j19 0))
set_option maxHeartbeats 1000000 in
theorem y_X0_missed {ad : Nat → Nat → Nat → Nat} {h : Hp} {V : Nat → Nat} {h0 : St} {N : Nat} (W : Wf ad h V h0) {a0 a0_ : Nat} {p1 : Int32} {K : Int32 → Hp → Prop} {K9 : Int32 → St → Prop} (hw : z_X0_missed N a0_ p1 h0 K9) (hk : ∀ (r0 : Int32), ∀ (h9 : Hp) (s9 : St), Wf ad h9 V s9 → K9 r0 s9 →  K r0 h9) (e0 : a0 = ad 0 a0_ 0) (l0 : a0_ < V 0) : w_X0_missed N a0 p1 h K := by
  subst e0
  unfold z_X0_missed at hw
  unfold w_X0_missed
  refine l_cv W rfl l0 rfl ?_
  refine y_X0_placeOf W hw (fun v1_ hw => ?_) rfl l0
  refine l_gI W rfl l0 rfl ?_
  refine l_jn (fun (r : Int32 → Prop) (r9 : Int32 → Prop) => ∀ (x0 : Int32), r9 x0 → r x0) hw ?_ (fun j3_ j4_ hj5_ hw => ?_)
  ·
    intro x2_ hw
    refine l_jn (fun (r : Int32 → Hp → Prop) (r9 : Int32 → St → Prop) => ∀ (x0 : Int32), ∀ (h9 : Hp) (s9 : St), Wf ad h9 V s9 → r9 x0 s9 → r x0 h9) hw ?_ (fun j10_ j11_ hj12_ hw => ?_)
    ·
      intro x6_ h8_ s9_ W7_ hw
      refine l_gA W7_ rfl l0 (c := 2) rfl (Or.inr rfl) ?_
      refine l_aN W7_ (f := 0) (x := 12) rfl l0 (c := 2) rfl (Or.inl rfl) rfl rfl ?_
      refine l_fx2 (fun (r : Int32 → Hp → Prop) (r9 : Int32 → St → Prop) => ∀ (x0 : Int32), ∀ (h9 : Hp) (s9 : St), Wf ad h9 V s9 → r9 x0 s9 → r x0 h9) (fun _ _ _ _ h9_ => h9_.elim) ?_ N _ _ _ W7_ hw
      intro w18_ w19_ hv17_ x13_ h15_ s16_ W14_ hw
      refine l_br hw (fun _ hw => ?_) (fun _ hw => ?_)
      ·
        refine l_gA W14_ rfl l0 (c := 2) rfl (Or.inr rfl) ?_
        refine l_sI W14_ (f := 0) rfl l0 rfl hw (fun h21_ W20_ hw => ?_)
        refine l_ok hw (fun _ hw => ?_)
        exact hk _ _ _ W20_ hw
      ·
        refine l_gA W14_ rfl l0 (c := 2) rfl (Or.inr rfl) ?_
        refine l_gA W14_ rfl l0 (c := 2) rfl (Or.inr rfl) ?_
        refine l_aI W14_ (f := 0) rfl l0 rfl hw (fun hw => ?_)
        refine l_sI W14_ (f := 0) rfl l0 rfl hw (fun h23_ W22_ hw => ?_)
        exact hv17_ _ _ _ W22_ hw
    ·
      refine l_br hw (fun _ hw => ?_) (fun _ hw => ?_)
      ·
        exact hj12_ _ _ _ W hw
      ·
        refine l_gI W rfl l0 rfl ?_
        refine l_br hw (fun _ hw => ?_) (fun _ hw => ?_)
        ·
          refine l_gI W rfl l0 rfl ?_
          refine l_gI W rfl l0 rfl ?_
          refine l_pI W rfl l0 rfl hw (fun h25_ W24_ hw => ?_)
          refine l_gI W24_ rfl l0 rfl ?_
          exact hj12_ _ _ _ W24_ hw
        ·
          exact hk _ _ _ W hw
  ·
    refine l_br hw (fun _ hw => ?_) (fun _ hw => ?_)
    ·
      exact hj5_ _ hw
    ·
      exact hj5_ _ hw
def z_X0_drop (N : Nat) (a0 : Nat) (p1 : Int32) (p2 : Int32) (h0 : St) (K : St → Prop) : Prop :=
  fx3 (fun (w5 : Int32 → Int32 → St → Prop) (x2 : Int32) (x3 : Int32) (h1 : St) =>
    jn (
      lt_ (stP h1 0 a0 2 0 x2) fun h5 =>
      K h5) (fun j89 =>
      br ((sP h1 0 a0 2 0) ≤ x3) (
        j89 ) (
        br ((12 : Int32) ≤ x3) (
          j89 ) (
          wI 12 x3 <|
          jn (fun (v10 : Int32) =>
            jn (fun (x12 : Int32) (h11 : St) =>
              w5 x12 (x3 + 1) h11) (fun j83 =>
              br (v10 = 0) (
                br ((12 : Int32) ≤ x2) (
                  j83 x2 h1) (
                  wI 12 x3 <|
                  wA 12 x2 (stP h1 0 a0 0 (x2).toNatClampNeg (sP h1 0 a0 0 (x3).toNatClampNeg)) fun h18 =>
                  j83 (x2 + 1) h18)) (
                j83 x2 h1))) (fun j51 =>
            jn (
              j51 0) (fun j50 =>
              br ((sP h1 0 a0 0 (x3).toNatClampNeg) < p1) (
                j50 ) (
                wI 12 x3 <|
                br (p2 < (sP h1 0 a0 0 (x3).toNatClampNeg)) (
                  j50 ) (
                  j51 1)))))))) N 0 0 h0
set_option maxHeartbeats 1000000 in
theorem y_X0_drop {ad : Nat → Nat → Nat → Nat} {h : Hp} {V : Nat → Nat} {h0 : St} {N : Nat} (W : Wf ad h V h0) {a0 a0_ : Nat} {p1 : Int32} {p2 : Int32} {K : Hp → Prop} {K9 : St → Prop} (hw : z_X0_drop N a0_ p1 p2 h0 K9) (hk : ∀ (h9 : Hp) (s9 : St), Wf ad h9 V s9 → K9 s9 →  K h9) (e0 : a0 = ad 0 a0_ 0) (l0 : a0_ < V 0) : w_X0_drop N a0 p1 p2 h K := by
  subst e0
  unfold z_X0_drop at hw
  unfold w_X0_drop
  refine l_fx3 (fun (r : Int32 → Int32 → Hp → Prop) (r9 : Int32 → Int32 → St → Prop) => ∀ (x0 : Int32), ∀ (x1 : Int32), ∀ (h9 : Hp) (s9 : St), Wf ad h9 V s9 → r9 x0 x1 s9 → r x0 x1 h9) (fun _ _ _ _ _ h9_ => h9_.elim) ?_ N _ _ _ _ W hw
  intro w7_ w8_ hv6_ x1_ x2_ h4_ s5_ W3_ hw
  refine l_gI W3_ rfl l0 rfl ?_
  refine l_jn (fun (r : Prop) (r9 : Prop) =>  r9  → r ) hw ?_ (fun j9_ j10_ hj11_ hw => ?_)
  ·
    intro hw
    refine l_pI W3_ rfl l0 rfl hw (fun h13_ W12_ hw => ?_)
    exact hk _ _ W12_ hw
  ·
    refine l_br hw (fun _ hw => ?_) (fun _ hw => ?_)
    ·
      exact hj11_  hw
    ·
      refine l_gA W3_ rfl l0 (c := 2) rfl (Or.inr rfl) ?_
      refine l_aN W3_ (f := 0) (x := 12) rfl l0 (c := 2) rfl (Or.inl rfl) rfl rfl ?_
      refine l_br hw (fun _ hw => ?_) (fun _ hw => ?_)
      ·
        exact hj11_  hw
      ·
        refine l_gA W3_ rfl l0 (c := 2) rfl (Or.inr rfl) ?_
        refine l_aI W3_ (f := 0) rfl l0 rfl hw (fun hw => ?_)
        refine l_jn (fun (r : Int32 → Prop) (r9 : Int32 → Prop) => ∀ (x0 : Int32), r9 x0 → r x0) hw ?_ (fun j15_ j16_ hj17_ hw => ?_)
        ·
          intro x14_ hw
          refine l_jn (fun (r : Int32 → Hp → Prop) (r9 : Int32 → St → Prop) => ∀ (x0 : Int32), ∀ (h9 : Hp) (s9 : St), Wf ad h9 V s9 → r9 x0 s9 → r x0 h9) hw ?_ (fun j22_ j23_ hj24_ hw => ?_)
          ·
            intro x18_ h20_ s21_ W19_ hw
            exact hv6_ _ _ _ _ W19_ hw
          ·
            refine l_br hw (fun _ hw => ?_) (fun _ hw => ?_)
            ·
              refine l_gA W3_ rfl l0 (c := 2) rfl (Or.inr rfl) ?_
              refine l_aN W3_ (f := 0) (x := 12) rfl l0 (c := 2) rfl (Or.inl rfl) rfl rfl ?_
              refine l_br hw (fun _ hw => ?_) (fun _ hw => ?_)
              ·
                exact hj24_ _ _ _ W3_ hw
              ·
                refine l_gA W3_ rfl l0 (c := 2) rfl (Or.inr rfl) ?_
                refine l_gA W3_ rfl l0 (c := 2) rfl (Or.inr rfl) ?_
                refine l_aI W3_ (f := 0) rfl l0 rfl hw (fun hw => ?_)
                refine l_sI W3_ (f := 0) rfl l0 rfl hw (fun h26_ W25_ hw => ?_)
                exact hj24_ _ _ _ W25_ hw
            ·
              exact hj24_ _ _ _ W3_ hw
        ·
          refine l_jn (fun (r : Prop) (r9 : Prop) =>  r9  → r ) hw ?_ (fun j27_ j28_ hj29_ hw => ?_)
          ·
            intro hw
            exact hj17_ _ hw
          ·
            refine l_br hw (fun _ hw => ?_) (fun _ hw => ?_)
            ·
              exact hj29_  hw
            ·
              refine l_gA W3_ rfl l0 (c := 2) rfl (Or.inr rfl) ?_
              refine l_aI W3_ (f := 0) rfl l0 rfl hw (fun hw => ?_)
              refine l_br hw (fun _ hw => ?_) (fun _ hw => ?_)
              ·
                exact hj29_  hw
              ·
                exact hj17_ _ hw
def z_X0_isTidy (N : Nat) (a0 : Nat) (h0 : St) (K : Int32 → Prop) : Prop :=
  jn (fun (v3 : Int32) =>
    fx2 (fun (w19 : Int32 → Int32 → Prop) (x4 : Int32) (x5 : Int32) =>
      br (x4 = 0) (
        ok (narrow .boolean (.int x4) = .int x4) <|
        K x4) (
        br ((sP h0 0 a0 2 0) ≤ x5) (
          ok (narrow .boolean (.int x4) = .int x4) <|
          K x4) (
          z_X0_keyAt N a0 x5 h0 fun v7 =>
          z_X0_placeOf N a0 v7 h0 fun v8 =>
          jn (fun (v9 : Int32) =>
            w19 v9 (x5 + 1)) (fun j49 =>
            br (v8 = x5) (
              j49 1) (
              j49 0))))) N v3 0) (fun j16 =>
    br ((sP h0 0 a0 1 0) < (sP h0 0 a0 2 0)) (
      j16 0) (
      j16 1))
set_option maxHeartbeats 1000000 in
theorem y_X0_isTidy {ad : Nat → Nat → Nat → Nat} {h : Hp} {V : Nat → Nat} {h0 : St} {N : Nat} (W : Wf ad h V h0) {a0 a0_ : Nat} {K : Int32 → Prop} {K9 : Int32 → Prop} (hw : z_X0_isTidy N a0_ h0 K9) (hk : ∀ (r0 : Int32), K9 r0 →  K r0) (e0 : a0 = ad 0 a0_ 0) (l0 : a0_ < V 0) : w_X0_isTidy N a0 h K := by
  subst e0
  unfold z_X0_isTidy at hw
  unfold w_X0_isTidy
  refine l_gI W rfl l0 rfl ?_
  refine l_gI W rfl l0 rfl ?_
  refine l_jn (fun (r : Int32 → Prop) (r9 : Int32 → Prop) => ∀ (x0 : Int32), r9 x0 → r x0) hw ?_ (fun j2_ j3_ hj4_ hw => ?_)
  ·
    intro x1_ hw
    refine l_fx2 (fun (r : Int32 → Int32 → Prop) (r9 : Int32 → Int32 → Prop) => ∀ (x0 : Int32), ∀ (x1 : Int32), r9 x0 x1 → r x0 x1) (fun _ _ h9_ => h9_.elim) ?_ N _ _ hw
    intro w8_ w9_ hv7_ x5_ x6_ hw
    refine l_br hw (fun _ hw => ?_) (fun _ hw => ?_)
    ·
      refine l_ok hw (fun _ hw => ?_)
      exact hk _ hw
    ·
      refine l_gI W rfl l0 rfl ?_
      refine l_br hw (fun _ hw => ?_) (fun _ hw => ?_)
      ·
        refine l_ok hw (fun _ hw => ?_)
        exact hk _ hw
      ·
        refine l_cv W rfl l0 rfl ?_
        refine y_X0_keyAt W hw (fun v10_ hw => ?_) rfl l0
        refine l_cv W rfl l0 rfl ?_
        refine y_X0_placeOf W hw (fun v11_ hw => ?_) rfl l0
        refine l_jn (fun (r : Int32 → Prop) (r9 : Int32 → Prop) => ∀ (x0 : Int32), r9 x0 → r x0) hw ?_ (fun j13_ j14_ hj15_ hw => ?_)
        ·
          intro x12_ hw
          exact hv7_ _ _ hw
        ·
          refine l_br hw (fun _ hw => ?_) (fun _ hw => ?_)
          ·
            exact hj15_ _ hw
          ·
            exact hj15_ _ hw
  ·
    refine l_br hw (fun _ hw => ?_) (fun _ hw => ?_)
    ·
      exact hj4_ _ hw
    ·
      exact hj4_ _ hw
def z_X1_position (N : Nat) (a0 : Nat) (h0 : St) (K : Int32 → Prop) : Prop :=
  K (sP h0 1 a0 0 0)
set_option maxHeartbeats 1000000 in
theorem y_X1_position {ad : Nat → Nat → Nat → Nat} {h : Hp} {V : Nat → Nat} {h0 : St} {N : Nat} (W : Wf ad h V h0) {a0 a0_ : Nat} {K : Int32 → Prop} {K9 : Int32 → Prop} (hw : z_X1_position N a0_ h0 K9) (hk : ∀ (r0 : Int32), K9 r0 →  K r0) (e0 : a0 = ad 1 a0_ 0) (l0 : a0_ < V 1) : w_X1_position N a0 h K := by
  subst e0
  unfold z_X1_position at hw
  unfold w_X1_position
  refine l_gI W rfl l0 rfl ?_
  exact hk _ hw
def z_X1_column (N : Nat) (a0 : Nat) (h0 : St) (K : Int32 → Prop) : Prop :=
  K (sP h0 1 a0 1 0)
set_option maxHeartbeats 1000000 in
theorem y_X1_column {ad : Nat → Nat → Nat → Nat} {h : Hp} {V : Nat → Nat} {h0 : St} {N : Nat} (W : Wf ad h V h0) {a0 a0_ : Nat} {K : Int32 → Prop} {K9 : Int32 → Prop} (hw : z_X1_column N a0_ h0 K9) (hk : ∀ (r0 : Int32), K9 r0 →  K r0) (e0 : a0 = ad 1 a0_ 0) (l0 : a0_ < V 1) : w_X1_column N a0 h K := by
  subst e0
  unfold z_X1_column at hw
  unfold w_X1_column
  refine l_gI W rfl l0 rfl ?_
  exact hk _ hw
def z_X1_isEqual (N : Nat) (a0 : Nat) (h0 : St) (K : Int32 → Prop) : Prop :=
  br ((sP h0 1 a0 2 0) = 61) (
    K 1) (
    K 0)
set_option maxHeartbeats 1000000 in
theorem y_X1_isEqual {ad : Nat → Nat → Nat → Nat} {h : Hp} {V : Nat → Nat} {h0 : St} {N : Nat} (W : Wf ad h V h0) {a0 a0_ : Nat} {K : Int32 → Prop} {K9 : Int32 → Prop} (hw : z_X1_isEqual N a0_ h0 K9) (hk : ∀ (r0 : Int32), K9 r0 →  K r0) (e0 : a0 = ad 1 a0_ 0) (l0 : a0_ < V 1) : w_X1_isEqual N a0 h K := by
  subst e0
  unfold z_X1_isEqual at hw
  unfold w_X1_isEqual
  refine l_gI W rfl l0 rfl ?_
  refine l_br hw (fun _ hw => ?_) (fun _ hw => ?_)
  ·
    exact hk _ hw
  ·
    exact hk _ hw
def z_X1_least (N : Nat) (a0 : Nat) (h0 : St) (K : Int32 → Prop) : Prop :=
  br ((sP h0 1 a0 2 0) = 61) (
    K (sP h0 1 a0 3 0)) (
    br ((sP h0 1 a0 2 0) = 60) (
      K 0) (
      K ((sP h0 1 a0 3 0) + 1)))
set_option maxHeartbeats 1000000 in
theorem y_X1_least {ad : Nat → Nat → Nat → Nat} {h : Hp} {V : Nat → Nat} {h0 : St} {N : Nat} (W : Wf ad h V h0) {a0 a0_ : Nat} {K : Int32 → Prop} {K9 : Int32 → Prop} (hw : z_X1_least N a0_ h0 K9) (hk : ∀ (r0 : Int32), K9 r0 →  K r0) (e0 : a0 = ad 1 a0_ 0) (l0 : a0_ < V 1) : w_X1_least N a0 h K := by
  subst e0
  unfold z_X1_least at hw
  unfold w_X1_least
  refine l_gI W rfl l0 rfl ?_
  refine l_br hw (fun _ hw => ?_) (fun _ hw => ?_)
  ·
    refine l_gI W rfl l0 rfl ?_
    exact hk _ hw
  ·
    refine l_gI W rfl l0 rfl ?_
    refine l_br hw (fun _ hw => ?_) (fun _ hw => ?_)
    ·
      exact hk _ hw
    ·
      refine l_gI W rfl l0 rfl ?_
      exact hk _ hw
def z_X1_greatest (N : Nat) (a0 : Nat) (h0 : St) (K : Int32 → Prop) : Prop :=
  br ((sP h0 1 a0 2 0) = 61) (
    K (sP h0 1 a0 3 0)) (
    br ((sP h0 1 a0 2 0) = 60) (
      K ((sP h0 1 a0 3 0) - 1)) (
      K 99))
set_option maxHeartbeats 1000000 in
theorem y_X1_greatest {ad : Nat → Nat → Nat → Nat} {h : Hp} {V : Nat → Nat} {h0 : St} {N : Nat} (W : Wf ad h V h0) {a0 a0_ : Nat} {K : Int32 → Prop} {K9 : Int32 → Prop} (hw : z_X1_greatest N a0_ h0 K9) (hk : ∀ (r0 : Int32), K9 r0 →  K r0) (e0 : a0 = ad 1 a0_ 0) (l0 : a0_ < V 1) : w_X1_greatest N a0 h K := by
  subst e0
  unfold z_X1_greatest at hw
  unfold w_X1_greatest
  refine l_gI W rfl l0 rfl ?_
  refine l_br hw (fun _ hw => ?_) (fun _ hw => ?_)
  ·
    refine l_gI W rfl l0 rfl ?_
    exact hk _ hw
  ·
    refine l_gI W rfl l0 rfl ?_
    refine l_br hw (fun _ hw => ?_) (fun _ hw => ?_)
    ·
      refine l_gI W rfl l0 rfl ?_
      exact hk _ hw
    ·
      exact hk _ hw
def z_X1_allows (N : Nat) (a0 : Nat) (p1 : Int32) (h0 : St) (K : Int32 → Prop) : Prop :=
  br ((sP h0 1 a0 2 0) = 61) (
    br (p1 = (sP h0 1 a0 3 0)) (
      K 1) (
      K 0)) (
    br ((sP h0 1 a0 2 0) = 60) (
      br ((sP h0 1 a0 3 0) ≤ p1) (
        K 0) (
        K 1)) (
      br (p1 ≤ (sP h0 1 a0 3 0)) (
        K 0) (
        K 1)))
set_option maxHeartbeats 1000000 in
theorem y_X1_allows {ad : Nat → Nat → Nat → Nat} {h : Hp} {V : Nat → Nat} {h0 : St} {N : Nat} (W : Wf ad h V h0) {a0 a0_ : Nat} {p1 : Int32} {K : Int32 → Prop} {K9 : Int32 → Prop} (hw : z_X1_allows N a0_ p1 h0 K9) (hk : ∀ (r0 : Int32), K9 r0 →  K r0) (e0 : a0 = ad 1 a0_ 0) (l0 : a0_ < V 1) : w_X1_allows N a0 p1 h K := by
  subst e0
  unfold z_X1_allows at hw
  unfold w_X1_allows
  refine l_gI W rfl l0 rfl ?_
  refine l_br hw (fun _ hw => ?_) (fun _ hw => ?_)
  ·
    refine l_gI W rfl l0 rfl ?_
    refine l_br hw (fun _ hw => ?_) (fun _ hw => ?_)
    ·
      exact hk _ hw
    ·
      exact hk _ hw
  ·
    refine l_gI W rfl l0 rfl ?_
    refine l_br hw (fun _ hw => ?_) (fun _ hw => ?_)
    ·
      refine l_gI W rfl l0 rfl ?_
      refine l_br hw (fun _ hw => ?_) (fun _ hw => ?_)
      ·
        exact hk _ hw
      ·
        exact hk _ hw
    ·
      refine l_gI W rfl l0 rfl ?_
      refine l_br hw (fun _ hw => ?_) (fun _ hw => ?_)
      ·
        exact hk _ hw
      ·
        exact hk _ hw
def z_X4_partnerOf (N : Nat) (a0 : Nat) (p1 : Int32) (h0 : St) (K : Int32 → Prop) : Prop :=
  br (p1 = (sP h0 4 a0 0 0)) (
    K (sP h0 4 a0 2 0)) (
    br (p1 = (sP h0 4 a0 2 0)) (
      K (sP h0 4 a0 0 0)) (
      K (-1)))
set_option maxHeartbeats 1000000 in
theorem y_X4_partnerOf {ad : Nat → Nat → Nat → Nat} {h : Hp} {V : Nat → Nat} {h0 : St} {N : Nat} (W : Wf ad h V h0) {a0 a0_ : Nat} {p1 : Int32} {K : Int32 → Prop} {K9 : Int32 → Prop} (hw : z_X4_partnerOf N a0_ p1 h0 K9) (hk : ∀ (r0 : Int32), K9 r0 →  K r0) (e0 : a0 = ad 4 a0_ 0) (l0 : a0_ < V 4) : w_X4_partnerOf N a0 p1 h K := by
  subst e0
  unfold z_X4_partnerOf at hw
  unfold w_X4_partnerOf
  refine l_gI W rfl l0 rfl ?_
  refine l_br hw (fun _ hw => ?_) (fun _ hw => ?_)
  ·
    refine l_gI W rfl l0 rfl ?_
    exact hk _ hw
  ·
    refine l_gI W rfl l0 rfl ?_
    refine l_br hw (fun _ hw => ?_) (fun _ hw => ?_)
    ·
      refine l_gI W rfl l0 rfl ?_
      exact hk _ hw
    ·
      exact hk _ hw
def z_X4_columnOf (N : Nat) (a0 : Nat) (p1 : Int32) (h0 : St) (K : Int32 → Prop) : Prop :=
  br (p1 = (sP h0 4 a0 0 0)) (
    K (sP h0 4 a0 1 0)) (
    br (p1 = (sP h0 4 a0 2 0)) (
      K (sP h0 4 a0 3 0)) (
      K (-1)))
set_option maxHeartbeats 1000000 in
theorem y_X4_columnOf {ad : Nat → Nat → Nat → Nat} {h : Hp} {V : Nat → Nat} {h0 : St} {N : Nat} (W : Wf ad h V h0) {a0 a0_ : Nat} {p1 : Int32} {K : Int32 → Prop} {K9 : Int32 → Prop} (hw : z_X4_columnOf N a0_ p1 h0 K9) (hk : ∀ (r0 : Int32), K9 r0 →  K r0) (e0 : a0 = ad 4 a0_ 0) (l0 : a0_ < V 4) : w_X4_columnOf N a0 p1 h K := by
  subst e0
  unfold z_X4_columnOf at hw
  unfold w_X4_columnOf
  refine l_gI W rfl l0 rfl ?_
  refine l_br hw (fun _ hw => ?_) (fun _ hw => ?_)
  ·
    refine l_gI W rfl l0 rfl ?_
    exact hk _ hw
  ·
    refine l_gI W rfl l0 rfl ?_
    refine l_br hw (fun _ hw => ?_) (fun _ hw => ?_)
    ·
      refine l_gI W rfl l0 rfl ?_
      exact hk _ hw
    ·
      exact hk _ hw
def z_X2_roundCount (N : Nat) (a0 : Nat) (h0 : St) (K : Int32 → Prop) : Prop :=
  K (sP h0 2 a0 3 0)
set_option maxHeartbeats 1000000 in
theorem y_X2_roundCount {ad : Nat → Nat → Nat → Nat} {h : Hp} {V : Nat → Nat} {h0 : St} {N : Nat} (W : Wf ad h V h0) {a0 a0_ : Nat} {K : Int32 → Prop} {K9 : Int32 → Prop} (hw : z_X2_roundCount N a0_ h0 K9) (hk : ∀ (r0 : Int32), K9 r0 →  K r0) (e0 : a0 = ad 2 a0_ 0) (l0 : a0_ < V 2) : w_X2_roundCount N a0 h K := by
  subst e0
  unfold z_X2_roundCount at hw
  unfold w_X2_roundCount
  refine l_gI W rfl l0 rfl ?_
  exact hk _ hw
def z_X2_winner (N : Nat) (a0 : Nat) (h0 : St) (K : Int32 → Prop) : Prop :=
  K (sP h0 2 a0 4 0)
set_option maxHeartbeats 1000000 in
theorem y_X2_winner {ad : Nat → Nat → Nat → Nat} {h : Hp} {V : Nat → Nat} {h0 : St} {N : Nat} (W : Wf ad h V h0) {a0 a0_ : Nat} {K : Int32 → Prop} {K9 : Int32 → Prop} (hw : z_X2_winner N a0_ h0 K9) (hk : ∀ (r0 : Int32), K9 r0 →  K r0) (e0 : a0 = ad 2 a0_ 0) (l0 : a0_ < V 2) : w_X2_winner N a0 h K := by
  subst e0
  unfold z_X2_winner at hw
  unfold w_X2_winner
  refine l_gI W rfl l0 rfl ?_
  exact hk _ hw
def z_X2_isOpenToAppeals (N : Nat) (a0 : Nat) (h0 : St) (K : Int32 → Prop) : Prop :=
  ok (narrow .boolean (.int (sP h0 2 a0 5 0)) = .int (sP h0 2 a0 5 0)) <|
  K (sP h0 2 a0 5 0)
set_option maxHeartbeats 1000000 in
theorem y_X2_isOpenToAppeals {ad : Nat → Nat → Nat → Nat} {h : Hp} {V : Nat → Nat} {h0 : St} {N : Nat} (W : Wf ad h V h0) {a0 a0_ : Nat} {K : Int32 → Prop} {K9 : Int32 → Prop} (hw : z_X2_isOpenToAppeals N a0_ h0 K9) (hk : ∀ (r0 : Int32), K9 r0 →  K r0) (e0 : a0 = ad 2 a0_ 0) (l0 : a0_ < V 2) : w_X2_isOpenToAppeals N a0 h K := by
  subst e0
  unfold z_X2_isOpenToAppeals at hw
  unfold w_X2_isOpenToAppeals
  refine l_gI W rfl l0 rfl ?_
  refine l_ok hw (fun _ hw => ?_)
  exact hk _ hw
def z_X2_closeAppeals (N : Nat) (a0 : Nat) (h0 : St) (K : St → Prop) : Prop :=
  lt_ (stP h0 2 a0 5 0 0) fun h1 =>
  K h1
set_option maxHeartbeats 1000000 in
theorem y_X2_closeAppeals {ad : Nat → Nat → Nat → Nat} {h : Hp} {V : Nat → Nat} {h0 : St} {N : Nat} (W : Wf ad h V h0) {a0 a0_ : Nat} {K : Hp → Prop} {K9 : St → Prop} (hw : z_X2_closeAppeals N a0_ h0 K9) (hk : ∀ (h9 : Hp) (s9 : St), Wf ad h9 V s9 → K9 s9 →  K h9) (e0 : a0 = ad 2 a0_ 0) (l0 : a0_ < V 2) : w_X2_closeAppeals N a0 h K := by
  subst e0
  unfold z_X2_closeAppeals at hw
  unfold w_X2_closeAppeals
  refine l_pI W rfl l0 rfl hw (fun h2_ W1_ hw => ?_)
  exact hk _ _ W1_ hw
def z_X2_purseOf (N : Nat) (a0 : Nat) (p1 : Int32) (h0 : St) (K : Int32 → Prop) : Prop :=
  br (p1 < 0) (
    K 0) (
    br ((2 : Int32) ≤ p1) (
      K 0) (
      wI 2 p1 <|
      K (sP h0 2 a0 0 (p1).toNatClampNeg)))
set_option maxHeartbeats 1000000 in
theorem y_X2_purseOf {ad : Nat → Nat → Nat → Nat} {h : Hp} {V : Nat → Nat} {h0 : St} {N : Nat} (W : Wf ad h V h0) {a0 a0_ : Nat} {p1 : Int32} {K : Int32 → Prop} {K9 : Int32 → Prop} (hw : z_X2_purseOf N a0_ p1 h0 K9) (hk : ∀ (r0 : Int32), K9 r0 →  K r0) (e0 : a0 = ad 2 a0_ 0) (l0 : a0_ < V 2) : w_X2_purseOf N a0 p1 h K := by
  subst e0
  unfold z_X2_purseOf at hw
  unfold w_X2_purseOf
  refine l_br hw (fun _ hw => ?_) (fun _ hw => ?_)
  ·
    exact hk _ hw
  ·
    refine l_gA W rfl l0 (c := 2) rfl (Or.inr rfl) ?_
    refine l_aN W (f := 0) (x := 2) rfl l0 (c := 2) rfl (Or.inl rfl) rfl rfl ?_
    refine l_br hw (fun _ hw => ?_) (fun _ hw => ?_)
    ·
      exact hk _ hw
    ·
      refine l_gA W rfl l0 (c := 2) rfl (Or.inr rfl) ?_
      refine l_aI W (f := 0) rfl l0 rfl hw (fun hw => ?_)
      exact hk _ hw
def z_X2_give (N : Nat) (a0 : Nat) (p1 : Int32) (p2 : Int32) (h0 : St) (K : St → Prop) : Prop :=
  br (p1 < 0) (
    K h0) (
    br ((2 : Int32) ≤ p1) (
      K h0) (
      wI 2 p1 <|
      wA 2 p1 (stP h0 2 a0 0 (p1).toNatClampNeg (if 0 < ((sP h0 2 a0 0 (p1).toNatClampNeg) + p2) then ((sP h0 2 a0 0 (p1).toNatClampNeg) + p2) else 0)) fun h6 =>
      K h6))
set_option maxHeartbeats 1000000 in
theorem y_X2_give {ad : Nat → Nat → Nat → Nat} {h : Hp} {V : Nat → Nat} {h0 : St} {N : Nat} (W : Wf ad h V h0) {a0 a0_ : Nat} {p1 : Int32} {p2 : Int32} {K : Hp → Prop} {K9 : St → Prop} (hw : z_X2_give N a0_ p1 p2 h0 K9) (hk : ∀ (h9 : Hp) (s9 : St), Wf ad h9 V s9 → K9 s9 →  K h9) (e0 : a0 = ad 2 a0_ 0) (l0 : a0_ < V 2) : w_X2_give N a0 p1 p2 h K := by
  subst e0
  unfold z_X2_give at hw
  unfold w_X2_give
  refine l_br hw (fun _ hw => ?_) (fun _ hw => ?_)
  ·
    exact hk _ _ W hw
  ·
    refine l_gA W rfl l0 (c := 2) rfl (Or.inr rfl) ?_
    refine l_aN W (f := 0) (x := 2) rfl l0 (c := 2) rfl (Or.inl rfl) rfl rfl ?_
    refine l_br hw (fun _ hw => ?_) (fun _ hw => ?_)
    ·
      exact hk _ _ W hw
    ·
      refine l_gA W rfl l0 (c := 2) rfl (Or.inr rfl) ?_
      refine l_gA W rfl l0 (c := 2) rfl (Or.inr rfl) ?_
      refine l_aI W (f := 0) rfl l0 rfl hw (fun hw => ?_)
      refine l_sI W (f := 0) rfl l0 rfl hw (fun h2_ W1_ hw => ?_)
      exact hk _ _ W1_ hw
def z_X2_bansFor (N : Nat) (a0 : Nat) (p1 : Int32) (h0 : St) (K : Int32 → Prop) : Prop :=
  br (p1 < 0) (
    K 0) (
    br ((2 : Int32) ≤ p1) (
      K 0) (
      wI 2 p1 <|
      K (sP h0 2 a0 1 (p1).toNatClampNeg)))
set_option maxHeartbeats 1000000 in
theorem y_X2_bansFor {ad : Nat → Nat → Nat → Nat} {h : Hp} {V : Nat → Nat} {h0 : St} {N : Nat} (W : Wf ad h V h0) {a0 a0_ : Nat} {p1 : Int32} {K : Int32 → Prop} {K9 : Int32 → Prop} (hw : z_X2_bansFor N a0_ p1 h0 K9) (hk : ∀ (r0 : Int32), K9 r0 →  K r0) (e0 : a0 = ad 2 a0_ 0) (l0 : a0_ < V 2) : w_X2_bansFor N a0 p1 h K := by
  subst e0
  unfold z_X2_bansFor at hw
  unfold w_X2_bansFor
  refine l_br hw (fun _ hw => ?_) (fun _ hw => ?_)
  ·
    exact hk _ hw
  ·
    refine l_gA W rfl l0 (c := 2) rfl (Or.inr rfl) ?_
    refine l_aN W (f := 1) (x := 2) rfl l0 (c := 2) rfl (Or.inl rfl) rfl rfl ?_
    refine l_br hw (fun _ hw => ?_) (fun _ hw => ?_)
    ·
      exact hk _ hw
    ·
      refine l_gA W rfl l0 (c := 2) rfl (Or.inr rfl) ?_
      refine l_aI W (f := 1) rfl l0 rfl hw (fun hw => ?_)
      exact hk _ hw
def z_X2_addBan (N : Nat) (a0 : Nat) (p1 : Int32) (p2 : Int32) (h0 : St) (K : St → Prop) : Prop :=
  br (p1 < 0) (
    K h0) (
    br ((2 : Int32) ≤ p1) (
      K h0) (
      br (p2 < 0) (
        K h0) (
        br (6 ≤ p2) (
          K h0) (
          wI 2 p1 <|
          wA 2 p1 (stP h0 2 a0 1 (p1).toNatClampNeg ((sP h0 2 a0 1 (p1).toNatClampNeg) ||| (1 <<< (p2 &&& 31)))) fun h5 =>
          K h5))))
set_option maxHeartbeats 1000000 in
theorem y_X2_addBan {ad : Nat → Nat → Nat → Nat} {h : Hp} {V : Nat → Nat} {h0 : St} {N : Nat} (W : Wf ad h V h0) {a0 a0_ : Nat} {p1 : Int32} {p2 : Int32} {K : Hp → Prop} {K9 : St → Prop} (hw : z_X2_addBan N a0_ p1 p2 h0 K9) (hk : ∀ (h9 : Hp) (s9 : St), Wf ad h9 V s9 → K9 s9 →  K h9) (e0 : a0 = ad 2 a0_ 0) (l0 : a0_ < V 2) : w_X2_addBan N a0 p1 p2 h K := by
  subst e0
  unfold z_X2_addBan at hw
  unfold w_X2_addBan
  refine l_br hw (fun _ hw => ?_) (fun _ hw => ?_)
  ·
    exact hk _ _ W hw
  ·
    refine l_gA W rfl l0 (c := 2) rfl (Or.inr rfl) ?_
    refine l_aN W (f := 1) (x := 2) rfl l0 (c := 2) rfl (Or.inl rfl) rfl rfl ?_
    refine l_br hw (fun _ hw => ?_) (fun _ hw => ?_)
    ·
      exact hk _ _ W hw
    ·
      refine l_br hw (fun _ hw => ?_) (fun _ hw => ?_)
      ·
        exact hk _ _ W hw
      ·
        refine l_br hw (fun _ hw => ?_) (fun _ hw => ?_)
        ·
          exact hk _ _ W hw
        ·
          refine l_gA W rfl l0 (c := 2) rfl (Or.inr rfl) ?_
          refine l_aI W (f := 1) rfl l0 rfl hw (fun hw => ?_)
          refine l_sI W (f := 1) rfl l0 rfl hw (fun h2_ W1_ hw => ?_)
          exact hk _ _ W1_ hw
def z_X2_missedIn (N : Nat) (a0 : Nat) (p1 : Int32) (p2 : Int32) (h0 : St) (K : Int32 → Prop) : Prop :=
  jn (fun (v1 : Int32) =>
    br (v1 = 0) (
      K (-1)) (
      br (((p2 * 2) + p1) < 0) (
        K (-1)) (
        br ((1024 : Int32) ≤ ((p2 * 2) + p1)) (
          K (-1)) (
          wI 1024 ((p2 * 2) + p1) <|
          K (sP h0 2 a0 2 (((p2 * 2) + p1)).toNatClampNeg))))) (fun j26 =>
    jn (
      j26 0) (fun j25 =>
      br (p2 < 0) (
        j25 ) (
        br ((sP h0 2 a0 3 0) ≤ p2) (
          j25 ) (
          br (p1 < 0) (
            j25 ) (
            br (2 ≤ p1) (
              j25 ) (
              j26 1))))))
set_option maxHeartbeats 1000000 in
theorem y_X2_missedIn {ad : Nat → Nat → Nat → Nat} {h : Hp} {V : Nat → Nat} {h0 : St} {N : Nat} (W : Wf ad h V h0) {a0 a0_ : Nat} {p1 : Int32} {p2 : Int32} {K : Int32 → Prop} {K9 : Int32 → Prop} (hw : z_X2_missedIn N a0_ p1 p2 h0 K9) (hk : ∀ (r0 : Int32), K9 r0 →  K r0) (e0 : a0 = ad 2 a0_ 0) (l0 : a0_ < V 2) : w_X2_missedIn N a0 p1 p2 h K := by
  subst e0
  unfold z_X2_missedIn at hw
  unfold w_X2_missedIn
  refine l_jn (fun (r : Int32 → Prop) (r9 : Int32 → Prop) => ∀ (x0 : Int32), r9 x0 → r x0) hw ?_ (fun j2_ j3_ hj4_ hw => ?_)
  ·
    intro x1_ hw
    refine l_br hw (fun _ hw => ?_) (fun _ hw => ?_)
    ·
      exact hk _ hw
    ·
      refine l_br hw (fun _ hw => ?_) (fun _ hw => ?_)
      ·
        exact hk _ hw
      ·
        refine l_gA W rfl l0 (c := 2) rfl (Or.inr rfl) ?_
        refine l_aN W (f := 2) (x := 1024) rfl l0 (c := 2) rfl (Or.inl rfl) rfl rfl ?_
        refine l_br hw (fun _ hw => ?_) (fun _ hw => ?_)
        ·
          exact hk _ hw
        ·
          refine l_gA W rfl l0 (c := 2) rfl (Or.inr rfl) ?_
          refine l_aI W (f := 2) rfl l0 rfl hw (fun hw => ?_)
          exact hk _ hw
  ·
    refine l_jn (fun (r : Prop) (r9 : Prop) =>  r9  → r ) hw ?_ (fun j5_ j6_ hj7_ hw => ?_)
    ·
      intro hw
      exact hj4_ _ hw
    ·
      refine l_br hw (fun _ hw => ?_) (fun _ hw => ?_)
      ·
        exact hj7_  hw
      ·
        refine l_gI W rfl l0 rfl ?_
        refine l_br hw (fun _ hw => ?_) (fun _ hw => ?_)
        ·
          exact hj7_  hw
        ·
          refine l_br hw (fun _ hw => ?_) (fun _ hw => ?_)
          ·
            exact hj7_  hw
          ·
            refine l_br hw (fun _ hw => ?_) (fun _ hw => ?_)
            ·
              exact hj7_  hw
            ·
              exact hj4_ _ hw
def z_X2_missedInAll (N : Nat) (a0 : Nat) (p1 : Int32) (h0 : St) (K : Int32 → Prop) : Prop :=
  fx2 (fun (w4 : Int32 → Int32 → Prop) (x1 : Int32) (x2 : Int32) =>
    br ((sP h0 2 a0 3 0) ≤ x2) (
      K x1) (
      z_X2_missedIn N a0 p1 x2 h0 fun v4 =>
      w4 (x1 + v4) (x2 + 1))) N 0 0
set_option maxHeartbeats 1000000 in
theorem y_X2_missedInAll {ad : Nat → Nat → Nat → Nat} {h : Hp} {V : Nat → Nat} {h0 : St} {N : Nat} (W : Wf ad h V h0) {a0 a0_ : Nat} {p1 : Int32} {K : Int32 → Prop} {K9 : Int32 → Prop} (hw : z_X2_missedInAll N a0_ p1 h0 K9) (hk : ∀ (r0 : Int32), K9 r0 →  K r0) (e0 : a0 = ad 2 a0_ 0) (l0 : a0_ < V 2) : w_X2_missedInAll N a0 p1 h K := by
  subst e0
  unfold z_X2_missedInAll at hw
  unfold w_X2_missedInAll
  refine l_fx2 (fun (r : Int32 → Int32 → Prop) (r9 : Int32 → Int32 → Prop) => ∀ (x0 : Int32), ∀ (x1 : Int32), r9 x0 x1 → r x0 x1) (fun _ _ h9_ => h9_.elim) ?_ N _ _ hw
  intro w4_ w5_ hv3_ x1_ x2_ hw
  refine l_gI W rfl l0 rfl ?_
  refine l_br hw (fun _ hw => ?_) (fun _ hw => ?_)
  ·
    exact hk _ hw
  ·
    refine l_cv W rfl l0 rfl ?_
    refine y_X2_missedIn W hw (fun v6_ hw => ?_) rfl l0
    exact hv3_ _ _ hw
def z_X2_pay (N : Nat) (a0 : Nat) (p1 : Int32) (h0 : St) (K : St → Prop) : Prop :=
  br ((sP h0 2 a0 4 0) = (-1)) (
    z_X2_give N a0 0 p1 h0 fun h4 =>
    z_X2_give N a0 1 p1 h4 fun h5 =>
    K h5) (
    z_X2_give N a0 (sP h0 2 a0 4 0) (3 * p1) h0 fun h3 =>
    K h3)
set_option maxHeartbeats 1000000 in
theorem y_X2_pay {ad : Nat → Nat → Nat → Nat} {h : Hp} {V : Nat → Nat} {h0 : St} {N : Nat} (W : Wf ad h V h0) {a0 a0_ : Nat} {p1 : Int32} {K : Hp → Prop} {K9 : St → Prop} (hw : z_X2_pay N a0_ p1 h0 K9) (hk : ∀ (h9 : Hp) (s9 : St), Wf ad h9 V s9 → K9 s9 →  K h9) (e0 : a0 = ad 2 a0_ 0) (l0 : a0_ < V 2) : w_X2_pay N a0 p1 h K := by
  subst e0
  unfold z_X2_pay at hw
  unfold w_X2_pay
  refine l_gI W rfl l0 rfl ?_
  refine l_br hw (fun _ hw => ?_) (fun _ hw => ?_)
  ·
    refine l_cv W rfl l0 rfl ?_
    refine y_X2_give W hw (fun h2_ s3_ W1_ hw => ?_) rfl l0
    refine l_cv W1_ rfl l0 rfl ?_
    refine y_X2_give W1_ hw (fun h5_ s6_ W4_ hw => ?_) rfl l0
    exact hk _ _ W4_ hw
  ·
    refine l_gI W rfl l0 rfl ?_
    refine l_cv W rfl l0 rfl ?_
    refine y_X2_give W hw (fun h8_ s9_ W7_ hw => ?_) rfl l0
    exact hk _ _ W7_ hw
def z_X2_setResult (N : Nat) (a0 : Nat) (p1 : Int32) (p2 : Int32) (h0 : St) (K : St → Prop) : Prop :=
  jn (fun (h2 : St) =>
    jn (fun (v3 : Int32) =>
      lt_ (stP h2 2 a0 4 0 v3) fun h4 =>
      K h4) (fun j60 =>
      br (p2 ≤ p1) (
        br (p1 ≤ p2) (
          j60 (-1)) (
          j60 1)) (
        j60 0))) (fun j40 =>
    br ((((sP h0 2 a0 3 0) - 1) * 2) < 0) (
      j40 h0) (
      br ((1024 : Int32) ≤ ((((sP h0 2 a0 3 0) - 1) * 2) + 1)) (
        j40 h0) (
        wA 1024 (((sP h0 2 a0 3 0) - 1) * 2) (stP h0 2 a0 2 ((((sP h0 2 a0 3 0) - 1) * 2)).toNatClampNeg p1) fun h8 =>
        wA 1024 ((((sP h0 2 a0 3 0) - 1) * 2) + 1) (stP h8 2 a0 2 (((((sP h0 2 a0 3 0) - 1) * 2) + 1)).toNatClampNeg p2) fun h10 =>
        j40 h10)))
set_option maxHeartbeats 1000000 in
theorem y_X2_setResult {ad : Nat → Nat → Nat → Nat} {h : Hp} {V : Nat → Nat} {h0 : St} {N : Nat} (W : Wf ad h V h0) {a0 a0_ : Nat} {p1 : Int32} {p2 : Int32} {K : Hp → Prop} {K9 : St → Prop} (hw : z_X2_setResult N a0_ p1 p2 h0 K9) (hk : ∀ (h9 : Hp) (s9 : St), Wf ad h9 V s9 → K9 s9 →  K h9) (e0 : a0 = ad 2 a0_ 0) (l0 : a0_ < V 2) : w_X2_setResult N a0 p1 p2 h K := by
  subst e0
  unfold z_X2_setResult at hw
  unfold w_X2_setResult
  refine l_gI W rfl l0 rfl ?_
  refine l_jn (fun (r : Hp → Prop) (r9 : St → Prop) => ∀ (h9 : Hp) (s9 : St), Wf ad h9 V s9 → r9 s9 → r h9) hw ?_ (fun j4_ j5_ hj6_ hw => ?_)
  ·
    intro h2_ s3_ W1_ hw
    refine l_jn (fun (r : Int32 → Prop) (r9 : Int32 → Prop) => ∀ (x0 : Int32), r9 x0 → r x0) hw ?_ (fun j8_ j9_ hj10_ hw => ?_)
    ·
      intro x7_ hw
      refine l_pI W1_ rfl l0 rfl hw (fun h12_ W11_ hw => ?_)
      exact hk _ _ W11_ hw
    ·
      refine l_br hw (fun _ hw => ?_) (fun _ hw => ?_)
      ·
        refine l_br hw (fun _ hw => ?_) (fun _ hw => ?_)
        ·
          exact hj10_ _ hw
        ·
          exact hj10_ _ hw
      ·
        exact hj10_ _ hw
  ·
    refine l_br hw (fun _ hw => ?_) (fun _ hw => ?_)
    ·
      exact hj6_ _ _ W hw
    ·
      refine l_gA W rfl l0 (c := 2) rfl (Or.inr rfl) ?_
      refine l_aN W (f := 2) (x := 1024) rfl l0 (c := 2) rfl (Or.inl rfl) rfl rfl ?_
      refine l_br hw (fun _ hw => ?_) (fun _ hw => ?_)
      ·
        exact hj6_ _ _ W hw
      ·
        refine l_gA W rfl l0 (c := 2) rfl (Or.inr rfl) ?_
        refine l_sI W (f := 2) rfl l0 rfl hw (fun h14_ W13_ hw => ?_)
        refine l_gA W13_ rfl l0 (c := 2) rfl (Or.inr rfl) ?_
        refine l_sI W13_ (f := 2) rfl l0 rfl hw (fun h16_ W15_ hw => ?_)
        exact hj6_ _ _ W15_ hw
def z_X2_endRound (N : Nat) (a0 : Nat) (p1 : Int32) (p2 : Int32) (h0 : St) (K : St → Prop) : Prop :=
  jn (fun (h2 : St) =>
    z_X2_setResult N a0 p1 p2 h2 fun h3 =>
    z_X2_pay N a0 1 h3 fun h4 =>
    fx2 (fun (w33 : Int32 → St → Prop) (x6 : Int32) (h5 : St) =>
      br ((2 : Int32) ≤ x6) (
        lt_ (stP h5 2 a0 5 0 1) fun h9 =>
        K h9) (
        wA 2 x6 (stP h5 2 a0 1 (x6).toNatClampNeg 0) fun h11 =>
        w33 (x6 + 1) h11)) N 0 h4) (fun j20 =>
    br (512 ≤ (sP h0 2 a0 3 0)) (
      j20 h0) (
      lt_ (stP h0 2 a0 3 0 ((sP h0 2 a0 3 0) + 1)) fun h13 =>
      j20 h13))
set_option maxHeartbeats 1000000 in
theorem y_X2_endRound {ad : Nat → Nat → Nat → Nat} {h : Hp} {V : Nat → Nat} {h0 : St} {N : Nat} (W : Wf ad h V h0) {a0 a0_ : Nat} {p1 : Int32} {p2 : Int32} {K : Hp → Prop} {K9 : St → Prop} (hw : z_X2_endRound N a0_ p1 p2 h0 K9) (hk : ∀ (h9 : Hp) (s9 : St), Wf ad h9 V s9 → K9 s9 →  K h9) (e0 : a0 = ad 2 a0_ 0) (l0 : a0_ < V 2) : w_X2_endRound N a0 p1 p2 h K := by
  subst e0
  unfold z_X2_endRound at hw
  unfold w_X2_endRound
  refine l_gI W rfl l0 rfl ?_
  refine l_jn (fun (r : Hp → Prop) (r9 : St → Prop) => ∀ (h9 : Hp) (s9 : St), Wf ad h9 V s9 → r9 s9 → r h9) hw ?_ (fun j4_ j5_ hj6_ hw => ?_)
  ·
    intro h2_ s3_ W1_ hw
    refine l_cv W1_ rfl l0 rfl ?_
    refine y_X2_setResult W1_ hw (fun h8_ s9_ W7_ hw => ?_) rfl l0
    refine l_cv W7_ rfl l0 rfl ?_
    refine y_X2_pay W7_ hw (fun h11_ s12_ W10_ hw => ?_) rfl l0
    refine l_fx2 (fun (r : Int32 → Hp → Prop) (r9 : Int32 → St → Prop) => ∀ (x0 : Int32), ∀ (h9 : Hp) (s9 : St), Wf ad h9 V s9 → r9 x0 s9 → r x0 h9) (fun _ _ _ _ h9_ => h9_.elim) ?_ N _ _ _ W10_ hw
    intro w18_ w19_ hv17_ x13_ h15_ s16_ W14_ hw
    refine l_gA W14_ rfl l0 (c := 2) rfl (Or.inr rfl) ?_
    refine l_aN W14_ (f := 1) (x := 2) rfl l0 (c := 2) rfl (Or.inl rfl) rfl rfl ?_
    refine l_br hw (fun _ hw => ?_) (fun _ hw => ?_)
    ·
      refine l_pI W14_ rfl l0 rfl hw (fun h21_ W20_ hw => ?_)
      exact hk _ _ W20_ hw
    ·
      refine l_gA W14_ rfl l0 (c := 2) rfl (Or.inr rfl) ?_
      refine l_sI W14_ (f := 1) rfl l0 rfl hw (fun h23_ W22_ hw => ?_)
      exact hv17_ _ _ _ W22_ hw
  ·
    refine l_br hw (fun _ hw => ?_) (fun _ hw => ?_)
    ·
      exact hj6_ _ _ W hw
    ·
      refine l_gI W rfl l0 rfl ?_
      refine l_pI W rfl l0 rfl hw (fun h25_ W24_ hw => ?_)
      exact hj6_ _ _ W24_ hw
def z_X2_endAppeal (N : Nat) (a0 : Nat) (p1 : Int32) (p2 : Int32) (p3 : Int32) (h0 : St) (K : St → Prop) : Prop :=
  z_X2_pay N a0 (-1) h0 fun h2 =>
  z_X2_setResult N a0 p2 p3 h2 fun h3 =>
  z_X2_pay N a0 1 h3 fun h4 =>
  jn (fun (h6 : St) =>
    lt_ (stP h6 2 a0 5 0 0) fun h7 =>
    K h7) (fun j37 =>
    br ((sP h4 2 a0 4 0) = (sP h0 2 a0 4 0)) (
      z_X2_give N a0 p1 (-1) h4 fun h8 =>
      j37 h8) (
      j37 h4))
set_option maxHeartbeats 1000000 in
theorem y_X2_endAppeal {ad : Nat → Nat → Nat → Nat} {h : Hp} {V : Nat → Nat} {h0 : St} {N : Nat} (W : Wf ad h V h0) {a0 a0_ : Nat} {p1 : Int32} {p2 : Int32} {p3 : Int32} {K : Hp → Prop} {K9 : St → Prop} (hw : z_X2_endAppeal N a0_ p1 p2 p3 h0 K9) (hk : ∀ (h9 : Hp) (s9 : St), Wf ad h9 V s9 → K9 s9 →  K h9) (e0 : a0 = ad 2 a0_ 0) (l0 : a0_ < V 2) : w_X2_endAppeal N a0 p1 p2 p3 h K := by
  subst e0
  unfold z_X2_endAppeal at hw
  unfold w_X2_endAppeal
  refine l_gI W rfl l0 rfl ?_
  refine l_cv W rfl l0 rfl ?_
  refine y_X2_pay W hw (fun h2_ s3_ W1_ hw => ?_) rfl l0
  refine l_cv W1_ rfl l0 rfl ?_
  refine y_X2_setResult W1_ hw (fun h5_ s6_ W4_ hw => ?_) rfl l0
  refine l_cv W4_ rfl l0 rfl ?_
  refine y_X2_pay W4_ hw (fun h8_ s9_ W7_ hw => ?_) rfl l0
  refine l_gI W7_ rfl l0 rfl ?_
  refine l_jn (fun (r : Hp → Prop) (r9 : St → Prop) => ∀ (h9 : Hp) (s9 : St), Wf ad h9 V s9 → r9 s9 → r h9) hw ?_ (fun j13_ j14_ hj15_ hw => ?_)
  ·
    intro h11_ s12_ W10_ hw
    refine l_pI W10_ rfl l0 rfl hw (fun h17_ W16_ hw => ?_)
    exact hk _ _ W16_ hw
  ·
    refine l_br hw (fun _ hw => ?_) (fun _ hw => ?_)
    ·
      refine l_cv W7_ rfl l0 rfl ?_
      refine y_X2_give W7_ hw (fun h19_ s20_ W18_ hw => ?_) rfl l0
      exact hj15_ _ _ W18_ hw
    ·
      exact hj15_ _ _ W7_ hw
def z_X3_number (N : Nat) (a0 : Nat) (h0 : St) (K : Int32 → Prop) : Prop :=
  K (sP h0 3 a0 0 0)
set_option maxHeartbeats 1000000 in
theorem y_X3_number {ad : Nat → Nat → Nat → Nat} {h : Hp} {V : Nat → Nat} {h0 : St} {N : Nat} (W : Wf ad h V h0) {a0 a0_ : Nat} {K : Int32 → Prop} {K9 : Int32 → Prop} (hw : z_X3_number N a0_ h0 K9) (hk : ∀ (r0 : Int32), K9 r0 →  K r0) (e0 : a0 = ad 3 a0_ 0) (l0 : a0_ < V 3) : w_X3_number N a0 h K := by
  subst e0
  unfold z_X3_number at hw
  unfold w_X3_number
  refine l_gI W rfl l0 rfl ?_
  exact hk _ hw
def z_X3_isOf (N : Nat) (a0 : Nat) (p1 : Option Nat) (h0 : St) (K : Int32 → Prop) : Prop :=
  nn (sQ h0 3 a0 1 0) fun a1 =>
  br ((some a1) = p1) (
    K 1) (
    K 0)
set_option maxHeartbeats 1000000 in
theorem y_X3_isOf {ad : Nat → Nat → Nat → Nat} {h : Hp} {V : Nat → Nat} {h0 : St} {N : Nat} (W : Wf ad h V h0) {a0 a0_ : Nat} {p1 p1_ : Option Nat} {K : Int32 → Prop} {K9 : Int32 → Prop} (hw : z_X3_isOf N a0_ p1_ h0 K9) (hk : ∀ (r0 : Int32), K9 r0 →  K r0) (e0 : a0 = ad 3 a0_ 0) (l0 : a0_ < V 3) (e_p1 : p1 = p1_.map (fun j => ad 10 j 0)) (l_p1 : ∀ r, p1_ = some r → r < V 10) : w_X3_isOf N a0 p1 h K := by
  subst e0 e_p1
  unfold z_X3_isOf at hw
  unfold w_X3_isOf
  refine l_gO W rfl l0 rfl (t := 10) rfl hw (fun i2_ l1_ hw => ?_)
  refine l_brc (ref_eq W _ _ _) hw (fun _ hw => ?_) (fun _ hw => ?_)
  ·
    exact hk _ hw
  ·
    exact hk _ hw
def z_X3_isOn (N : Nat) (a0 : Nat) (p1 : Option Nat) (p2 : Int32) (h0 : St) (K : Int32 → Prop) : Prop :=
  nn (sQ h0 3 a0 1 0) fun a1 =>
  br ((some a1) = p1) (
    br ((sP h0 3 a0 2 0) = p2) (
      K 1) (
      K 0)) (
    K 0)
set_option maxHeartbeats 1000000 in
theorem y_X3_isOn {ad : Nat → Nat → Nat → Nat} {h : Hp} {V : Nat → Nat} {h0 : St} {N : Nat} (W : Wf ad h V h0) {a0 a0_ : Nat} {p1 p1_ : Option Nat} {p2 : Int32} {K : Int32 → Prop} {K9 : Int32 → Prop} (hw : z_X3_isOn N a0_ p1_ p2 h0 K9) (hk : ∀ (r0 : Int32), K9 r0 →  K r0) (e0 : a0 = ad 3 a0_ 0) (l0 : a0_ < V 3) (e_p1 : p1 = p1_.map (fun j => ad 10 j 0)) (l_p1 : ∀ r, p1_ = some r → r < V 10) : w_X3_isOn N a0 p1 p2 h K := by
  subst e0 e_p1
  unfold z_X3_isOn at hw
  unfold w_X3_isOn
  refine l_gO W rfl l0 rfl (t := 10) rfl hw (fun i2_ l1_ hw => ?_)
  refine l_brc (ref_eq W _ _ _) hw (fun _ hw => ?_) (fun _ hw => ?_)
  ·
    refine l_gI W rfl l0 rfl ?_
    refine l_br hw (fun _ hw => ?_) (fun _ hw => ?_)
    ·
      exact hk _ hw
    ·
      exact hk _ hw
  ·
    exact hk _ hw
def z_X3_size (N : Nat) (a0 : Nat) (h0 : St) (K : Int32 → Prop) : Prop :=
  K (sP h0 3 a0 4 0)
set_option maxHeartbeats 1000000 in
theorem y_X3_size {ad : Nat → Nat → Nat → Nat} {h : Hp} {V : Nat → Nat} {h0 : St} {N : Nat} (W : Wf ad h V h0) {a0 a0_ : Nat} {K : Int32 → Prop} {K9 : Int32 → Prop} (hw : z_X3_size N a0_ h0 K9) (hk : ∀ (r0 : Int32), K9 r0 →  K r0) (e0 : a0 = ad 3 a0_ 0) (l0 : a0_ < V 3) : w_X3_size N a0 h K := by
  subst e0
  unfold z_X3_size at hw
  unfold w_X3_size
  refine l_gI W rfl l0 rfl ?_
  exact hk _ hw
def z_X3_rowAt (N : Nat) (a0 : Nat) (p1 : Int32) (h0 : St) (K : Int32 → Prop) : Prop :=
  br (p1 < 0) (
    K (-1)) (
    br ((sP h0 3 a0 4 0) ≤ p1) (
      K (-1)) (
      br ((40 : Int32) ≤ p1) (
        K (-1)) (
        wI 40 p1 <|
        K (sP h0 3 a0 3 (p1).toNatClampNeg))))
set_option maxHeartbeats 1000000 in
theorem y_X3_rowAt {ad : Nat → Nat → Nat → Nat} {h : Hp} {V : Nat → Nat} {h0 : St} {N : Nat} (W : Wf ad h V h0) {a0 a0_ : Nat} {p1 : Int32} {K : Int32 → Prop} {K9 : Int32 → Prop} (hw : z_X3_rowAt N a0_ p1 h0 K9) (hk : ∀ (r0 : Int32), K9 r0 →  K r0) (e0 : a0 = ad 3 a0_ 0) (l0 : a0_ < V 3) : w_X3_rowAt N a0 p1 h K := by
  subst e0
  unfold z_X3_rowAt at hw
  unfold w_X3_rowAt
  refine l_br hw (fun _ hw => ?_) (fun _ hw => ?_)
  ·
    exact hk _ hw
  ·
    refine l_gI W rfl l0 rfl ?_
    refine l_br hw (fun _ hw => ?_) (fun _ hw => ?_)
    ·
      exact hk _ hw
    ·
      refine l_gA W rfl l0 (c := 2) rfl (Or.inr rfl) ?_
      refine l_aN W (f := 3) (x := 40) rfl l0 (c := 2) rfl (Or.inl rfl) rfl rfl ?_
      refine l_br hw (fun _ hw => ?_) (fun _ hw => ?_)
      ·
        exact hk _ hw
      ·
        refine l_gA W rfl l0 (c := 2) rfl (Or.inr rfl) ?_
        refine l_aI W (f := 3) rfl l0 rfl hw (fun hw => ?_)
        exact hk _ hw
def z_X10_cell (N : Nat) (a0 : Nat) (p1 : Int32) (p2 : Int32) (h0 : St) (K : Int32 → Prop) : Prop :=
  br (((p1 * 3) + p2) < 0) (
    K 0) (
    br ((120 : Int32) ≤ ((p1 * 3) + p2)) (
      K 0) (
      wI 120 ((p1 * 3) + p2) <|
      K (sP h0 10 a0 5 (((p1 * 3) + p2)).toNatClampNeg)))
set_option maxHeartbeats 1000000 in
theorem y_X10_cell {ad : Nat → Nat → Nat → Nat} {h : Hp} {V : Nat → Nat} {h0 : St} {N : Nat} (W : Wf ad h V h0) {a0 a0_ : Nat} {p1 : Int32} {p2 : Int32} {K : Int32 → Prop} {K9 : Int32 → Prop} (hw : z_X10_cell N a0_ p1 p2 h0 K9) (hk : ∀ (r0 : Int32), K9 r0 →  K r0) (e0 : a0 = ad 10 a0_ 0) (l0 : a0_ < V 10) : w_X10_cell N a0 p1 p2 h K := by
  subst e0
  unfold z_X10_cell at hw
  unfold w_X10_cell
  refine l_br hw (fun _ hw => ?_) (fun _ hw => ?_)
  ·
    exact hk _ hw
  ·
    refine l_gA W rfl l0 (c := 2) rfl (Or.inr rfl) ?_
    refine l_aN W (f := 5) (x := 120) rfl l0 (c := 2) rfl (Or.inl rfl) rfl rfl ?_
    refine l_br hw (fun _ hw => ?_) (fun _ hw => ?_)
    ·
      exact hk _ hw
    ·
      refine l_gA W rfl l0 (c := 2) rfl (Or.inr rfl) ?_
      refine l_aI W (f := 5) rfl l0 rfl hw (fun hw => ?_)
      exact hk _ hw
def z_X3_valueAt (N : Nat) (a0 : Nat) (p1 : Int32) (h0 : St) (K : Int32 → Prop) : Prop :=
  z_X3_rowAt N a0 p1 h0 fun v1 =>
  br (v1 = (-1)) (
    K (-1)) (
    nn (sQ h0 3 a0 1 0) fun a2 =>
    z_X10_cell N a2 v1 (sP h0 3 a0 2 0) h0 fun v4 =>
    K v4)
set_option maxHeartbeats 1000000 in
theorem y_X3_valueAt {ad : Nat → Nat → Nat → Nat} {h : Hp} {V : Nat → Nat} {h0 : St} {N : Nat} (W : Wf ad h V h0) {a0 a0_ : Nat} {p1 : Int32} {K : Int32 → Prop} {K9 : Int32 → Prop} (hw : z_X3_valueAt N a0_ p1 h0 K9) (hk : ∀ (r0 : Int32), K9 r0 →  K r0) (e0 : a0 = ad 3 a0_ 0) (l0 : a0_ < V 3) : w_X3_valueAt N a0 p1 h K := by
  subst e0
  unfold z_X3_valueAt at hw
  unfold w_X3_valueAt
  refine l_cv W rfl l0 rfl ?_
  refine y_X3_rowAt W hw (fun v1_ hw => ?_) rfl l0
  refine l_br hw (fun _ hw => ?_) (fun _ hw => ?_)
  ·
    exact hk _ hw
  ·
    refine l_gO W rfl l0 rfl (t := 10) rfl hw (fun i3_ l2_ hw => ?_)
    refine l_gI W rfl l0 rfl ?_
    refine l_cv W rfl l2_ rfl ?_
    refine y_X10_cell W hw (fun v4_ hw => ?_) rfl l2_
    exact hk _ hw
def z_X3_firstFrom (N : Nat) (a0 : Nat) (p1 : Int32) (h0 : St) (K : Int32 → Prop) : Prop :=
  fx1 (fun (w2 : Int32 → Prop) (x1 : Int32) =>
    br ((sP h0 3 a0 4 0) ≤ x1) (
      K x1) (
      z_X3_valueAt N a0 x1 h0 fun v3 =>
      br (p1 ≤ v3) (
        K x1) (
        w2 (x1 + 1)))) N 0
set_option maxHeartbeats 1000000 in
theorem y_X3_firstFrom {ad : Nat → Nat → Nat → Nat} {h : Hp} {V : Nat → Nat} {h0 : St} {N : Nat} (W : Wf ad h V h0) {a0 a0_ : Nat} {p1 : Int32} {K : Int32 → Prop} {K9 : Int32 → Prop} (hw : z_X3_firstFrom N a0_ p1 h0 K9) (hk : ∀ (r0 : Int32), K9 r0 →  K r0) (e0 : a0 = ad 3 a0_ 0) (l0 : a0_ < V 3) : w_X3_firstFrom N a0 p1 h K := by
  subst e0
  unfold z_X3_firstFrom at hw
  unfold w_X3_firstFrom
  refine l_fx1 (fun (r : Int32 → Prop) (r9 : Int32 → Prop) => ∀ (x0 : Int32), r9 x0 → r x0) (fun _ h9_ => h9_.elim) ?_ N _ hw
  intro w3_ w4_ hv2_ x1_ hw
  refine l_gI W rfl l0 rfl ?_
  refine l_br hw (fun _ hw => ?_) (fun _ hw => ?_)
  ·
    exact hk _ hw
  ·
    refine l_cv W rfl l0 rfl ?_
    refine y_X3_valueAt W hw (fun v5_ hw => ?_) rfl l0
    refine l_br hw (fun _ hw => ?_) (fun _ hw => ?_)
    ·
      exact hk _ hw
    ·
      exact hv2_ _ hw
def z_X3_addRow (N : Nat) (a0 : Nat) (p1 : Int32) (h0 : St) (K : St → Prop) : Prop :=
  nn (sQ h0 3 a0 1 0) fun a1 =>
  z_X10_cell N a1 p1 (sP h0 3 a0 2 0) h0 fun v3 =>
  z_X3_firstFrom N a0 (v3 + 1) h0 fun v4 =>
  br ((sP h0 3 a0 4 0) < 0) (
    K h0) (
    br ((sP h0 3 a0 4 0) < (40 : Int32)) (
      fx2 (fun (w44 : Int32 → St → Prop) (x11 : Int32) (h10 : St) =>
        jn (
          br (v4 < 0) (
            K h10) (
            br ((40 : Int32) ≤ v4) (
              K h10) (
              wA 40 v4 (stP h10 3 a0 3 (v4).toNatClampNeg p1) fun h15 =>
              lt_ (stP h15 3 a0 4 0 ((sP h15 3 a0 4 0) + 1)) fun h17 =>
              K h17))) (fun j73 =>
          br (x11 ≤ v4) (
            j73 ) (
            br (x11 ≤ 0) (
              j73 ) (
              wI 40 (x11 - 1) <|
              wA 40 x11 (stP h10 3 a0 3 (x11).toNatClampNeg (sP h10 3 a0 3 ((x11 - 1)).toNatClampNeg)) fun h21 =>
              w44 (x11 + (-1)) h21)))) N (sP h0 3 a0 4 0) h0) (
      K h0))
set_option maxHeartbeats 1000000 in
theorem y_X3_addRow {ad : Nat → Nat → Nat → Nat} {h : Hp} {V : Nat → Nat} {h0 : St} {N : Nat} (W : Wf ad h V h0) {a0 a0_ : Nat} {p1 : Int32} {K : Hp → Prop} {K9 : St → Prop} (hw : z_X3_addRow N a0_ p1 h0 K9) (hk : ∀ (h9 : Hp) (s9 : St), Wf ad h9 V s9 → K9 s9 →  K h9) (e0 : a0 = ad 3 a0_ 0) (l0 : a0_ < V 3) : w_X3_addRow N a0 p1 h K := by
  subst e0
  unfold z_X3_addRow at hw
  unfold w_X3_addRow
  refine l_gO W rfl l0 rfl (t := 10) rfl hw (fun i2_ l1_ hw => ?_)
  refine l_gI W rfl l0 rfl ?_
  refine l_cv W rfl l1_ rfl ?_
  refine y_X10_cell W hw (fun v3_ hw => ?_) rfl l1_
  refine l_cv W rfl l0 rfl ?_
  refine y_X3_firstFrom W hw (fun v4_ hw => ?_) rfl l0
  refine l_gI W rfl l0 rfl ?_
  refine l_br hw (fun _ hw => ?_) (fun _ hw => ?_)
  ·
    exact hk _ _ W hw
  ·
    refine l_gI W rfl l0 rfl ?_
    refine l_gA W rfl l0 (c := 2) rfl (Or.inr rfl) ?_
    refine l_aN W (f := 3) (x := 40) rfl l0 (c := 2) rfl (Or.inl rfl) rfl rfl ?_
    refine l_br hw (fun _ hw => ?_) (fun _ hw => ?_)
    ·
      refine l_gI W rfl l0 rfl ?_
      refine l_fx2 (fun (r : Int32 → Hp → Prop) (r9 : Int32 → St → Prop) => ∀ (x0 : Int32), ∀ (h9 : Hp) (s9 : St), Wf ad h9 V s9 → r9 x0 s9 → r x0 h9) (fun _ _ _ _ h9_ => h9_.elim) ?_ N _ _ _ W hw
      intro w10_ w11_ hv9_ x5_ h7_ s8_ W6_ hw
      refine l_jn (fun (r : Prop) (r9 : Prop) =>  r9  → r ) hw ?_ (fun j12_ j13_ hj14_ hw => ?_)
      ·
        intro hw
        refine l_br hw (fun _ hw => ?_) (fun _ hw => ?_)
        ·
          exact hk _ _ W6_ hw
        ·
          refine l_gA W6_ rfl l0 (c := 2) rfl (Or.inr rfl) ?_
          refine l_aN W6_ (f := 3) (x := 40) rfl l0 (c := 2) rfl (Or.inl rfl) rfl rfl ?_
          refine l_br hw (fun _ hw => ?_) (fun _ hw => ?_)
          ·
            exact hk _ _ W6_ hw
          ·
            refine l_gA W6_ rfl l0 (c := 2) rfl (Or.inr rfl) ?_
            refine l_sI W6_ (f := 3) rfl l0 rfl hw (fun h16_ W15_ hw => ?_)
            refine l_gI W15_ rfl l0 rfl ?_
            refine l_pI W15_ rfl l0 rfl hw (fun h18_ W17_ hw => ?_)
            exact hk _ _ W17_ hw
      ·
        refine l_br hw (fun _ hw => ?_) (fun _ hw => ?_)
        ·
          exact hj14_  hw
        ·
          refine l_br hw (fun _ hw => ?_) (fun _ hw => ?_)
          ·
            exact hj14_  hw
          ·
            refine l_gA W6_ rfl l0 (c := 2) rfl (Or.inr rfl) ?_
            refine l_gA W6_ rfl l0 (c := 2) rfl (Or.inr rfl) ?_
            refine l_aI W6_ (f := 3) rfl l0 rfl hw (fun hw => ?_)
            refine l_sI W6_ (f := 3) rfl l0 rfl hw (fun h20_ W19_ hw => ?_)
            exact hv9_ _ _ _ W19_ hw
    ·
      exact hk _ _ W hw
def z_X3_dropRow (N : Nat) (a0 : Nat) (p1 : Int32) (h0 : St) (K : St → Prop) : Prop :=
  fx3 (fun (w4 : Int32 → Int32 → St → Prop) (x2 : Int32) (x3 : Int32) (h1 : St) =>
    jn (
      lt_ (stP h1 3 a0 4 0 x2) fun h5 =>
      K h5) (fun j61 =>
      br ((sP h1 3 a0 4 0) ≤ x3) (
        j61 ) (
        br ((40 : Int32) ≤ x3) (
          j61 ) (
          wI 40 x3 <|
          jn (fun (x11 : Int32) (h10 : St) =>
            w4 x11 (x3 + 1) h10) (fun j55 =>
            br ((sP h1 3 a0 3 (x3).toNatClampNeg) = p1) (
              j55 x2 h1) (
              br ((40 : Int32) ≤ x2) (
                j55 x2 h1) (
                wI 40 x3 <|
                wA 40 x2 (stP h1 3 a0 3 (x2).toNatClampNeg (sP h1 3 a0 3 (x3).toNatClampNeg)) fun h17 =>
                j55 (x2 + 1) h17))))))) N 0 0 h0
set_option maxHeartbeats 1000000 in
theorem y_X3_dropRow {ad : Nat → Nat → Nat → Nat} {h : Hp} {V : Nat → Nat} {h0 : St} {N : Nat} (W : Wf ad h V h0) {a0 a0_ : Nat} {p1 : Int32} {K : Hp → Prop} {K9 : St → Prop} (hw : z_X3_dropRow N a0_ p1 h0 K9) (hk : ∀ (h9 : Hp) (s9 : St), Wf ad h9 V s9 → K9 s9 →  K h9) (e0 : a0 = ad 3 a0_ 0) (l0 : a0_ < V 3) : w_X3_dropRow N a0 p1 h K := by
  subst e0
  unfold z_X3_dropRow at hw
  unfold w_X3_dropRow
  refine l_fx3 (fun (r : Int32 → Int32 → Hp → Prop) (r9 : Int32 → Int32 → St → Prop) => ∀ (x0 : Int32), ∀ (x1 : Int32), ∀ (h9 : Hp) (s9 : St), Wf ad h9 V s9 → r9 x0 x1 s9 → r x0 x1 h9) (fun _ _ _ _ _ h9_ => h9_.elim) ?_ N _ _ _ _ W hw
  intro w7_ w8_ hv6_ x1_ x2_ h4_ s5_ W3_ hw
  refine l_gI W3_ rfl l0 rfl ?_
  refine l_jn (fun (r : Prop) (r9 : Prop) =>  r9  → r ) hw ?_ (fun j9_ j10_ hj11_ hw => ?_)
  ·
    intro hw
    refine l_pI W3_ rfl l0 rfl hw (fun h13_ W12_ hw => ?_)
    exact hk _ _ W12_ hw
  ·
    refine l_br hw (fun _ hw => ?_) (fun _ hw => ?_)
    ·
      exact hj11_  hw
    ·
      refine l_gA W3_ rfl l0 (c := 2) rfl (Or.inr rfl) ?_
      refine l_aN W3_ (f := 3) (x := 40) rfl l0 (c := 2) rfl (Or.inl rfl) rfl rfl ?_
      refine l_br hw (fun _ hw => ?_) (fun _ hw => ?_)
      ·
        exact hj11_  hw
      ·
        refine l_gA W3_ rfl l0 (c := 2) rfl (Or.inr rfl) ?_
        refine l_aI W3_ (f := 3) rfl l0 rfl hw (fun hw => ?_)
        refine l_jn (fun (r : Int32 → Hp → Prop) (r9 : Int32 → St → Prop) => ∀ (x0 : Int32), ∀ (h9 : Hp) (s9 : St), Wf ad h9 V s9 → r9 x0 s9 → r x0 h9) hw ?_ (fun j18_ j19_ hj20_ hw => ?_)
        ·
          intro x14_ h16_ s17_ W15_ hw
          exact hv6_ _ _ _ _ W15_ hw
        ·
          refine l_br hw (fun _ hw => ?_) (fun _ hw => ?_)
          ·
            exact hj20_ _ _ _ W3_ hw
          ·
            refine l_gA W3_ rfl l0 (c := 2) rfl (Or.inr rfl) ?_
            refine l_aN W3_ (f := 3) (x := 40) rfl l0 (c := 2) rfl (Or.inl rfl) rfl rfl ?_
            refine l_br hw (fun _ hw => ?_) (fun _ hw => ?_)
            ·
              exact hj20_ _ _ _ W3_ hw
            ·
              refine l_gA W3_ rfl l0 (c := 2) rfl (Or.inr rfl) ?_
              refine l_gA W3_ rfl l0 (c := 2) rfl (Or.inr rfl) ?_
              refine l_aI W3_ (f := 3) rfl l0 rfl hw (fun hw => ?_)
              refine l_sI W3_ (f := 3) rfl l0 rfl hw (fun h22_ W21_ hw => ?_)
              exact hj20_ _ _ _ W21_ hw
def z_X10_hasRow (N : Nat) (a0 : Nat) (p1 : Int32) (h0 : St) (K : Int32 → Prop) : Prop :=
  br (p1 < 0) (
    K 0) (
    br ((40 : Int32) ≤ p1) (
      K 0) (
      wI 40 p1 <|
      br ((sP h0 10 a0 4 (p1).toNatClampNeg) = 0) (
        K 0) (
        K 1)))
set_option maxHeartbeats 1000000 in
theorem y_X10_hasRow {ad : Nat → Nat → Nat → Nat} {h : Hp} {V : Nat → Nat} {h0 : St} {N : Nat} (W : Wf ad h V h0) {a0 a0_ : Nat} {p1 : Int32} {K : Int32 → Prop} {K9 : Int32 → Prop} (hw : z_X10_hasRow N a0_ p1 h0 K9) (hk : ∀ (r0 : Int32), K9 r0 →  K r0) (e0 : a0 = ad 10 a0_ 0) (l0 : a0_ < V 10) : w_X10_hasRow N a0 p1 h K := by
  subst e0
  unfold z_X10_hasRow at hw
  unfold w_X10_hasRow
  refine l_br hw (fun _ hw => ?_) (fun _ hw => ?_)
  ·
    exact hk _ hw
  ·
    refine l_gA W rfl l0 (c := 2) rfl (Or.inr rfl) ?_
    refine l_aN W (f := 4) (x := 40) rfl l0 (c := 2) rfl (Or.inl rfl) rfl rfl ?_
    refine l_br hw (fun _ hw => ?_) (fun _ hw => ?_)
    ·
      exact hk _ hw
    ·
      refine l_gA W rfl l0 (c := 2) rfl (Or.inr rfl) ?_
      refine l_aI W (f := 4) rfl l0 rfl hw (fun hw => ?_)
      refine l_br hw (fun _ hw => ?_) (fun _ hw => ?_)
      ·
        exact hk _ hw
      ·
        exact hk _ hw
def z_X10_rowCount (N : Nat) (a0 : Nat) (h0 : St) (K : Int32 → Prop) : Prop :=
  K (sP h0 10 a0 3 0)
set_option maxHeartbeats 1000000 in
theorem y_X10_rowCount {ad : Nat → Nat → Nat → Nat} {h : Hp} {V : Nat → Nat} {h0 : St} {N : Nat} (W : Wf ad h V h0) {a0 a0_ : Nat} {K : Int32 → Prop} {K9 : Int32 → Prop} (hw : z_X10_rowCount N a0_ h0 K9) (hk : ∀ (r0 : Int32), K9 r0 →  K r0) (e0 : a0 = ad 10 a0_ 0) (l0 : a0_ < V 10) : w_X10_rowCount N a0 h K := by
  subst e0
  unfold z_X10_rowCount at hw
  unfold w_X10_rowCount
  refine l_gI W rfl l0 rfl ?_
  exact hk _ hw
def z_X3_rises (N : Nat) (a0 : Nat) (h0 : St) (K : Int32 → Prop) : Prop :=
  nn (sQ h0 3 a0 1 0) fun a2 =>
  z_X10_rowCount N a2 h0 fun v3 =>
  jn (fun (v4 : Int32) =>
    fx2 (fun (w22 : Int32 → Int32 → Prop) (x5 : Int32) (x6 : Int32) =>
      br (x5 = 0) (
        ok (narrow .boolean (.int x5) = .int x5) <|
        K x5) (
        br ((sP h0 3 a0 4 0) ≤ x6) (
          ok (narrow .boolean (.int x5) = .int x5) <|
          K x5) (
          z_X3_valueAt N a0 x6 h0 fun v8 =>
          z_X3_valueAt N a0 (x6 - 1) h0 fun v9 =>
          nn (sQ h0 3 a0 1 0) fun a10 =>
          z_X3_rowAt N a0 x6 h0 fun v11 =>
          z_X10_hasRow N a10 v11 h0 fun v12 =>
          jn (fun (v13 : Int32) =>
            w22 v13 (x6 + 1)) (fun j91 =>
            jn (
              j91 0) (fun j90 =>
              br (v12 = 0) (
                j90 ) (
                jn (
                  j91 1) (fun j86 =>
                  br (0 < (v8 - v9)) (
                    j86 ) (
                    br ((v8 - v9) = 0) (
                      z_X3_rowAt N a0 x6 h0 fun v14 =>
                      z_X3_rowAt N a0 (x6 - 1) h0 fun v15 =>
                      br (v14 ≤ v15) (
                        j90 ) (
                        j86 )) (
                      j90 ))))))))) N v4 0) (fun j19 =>
    br ((sP h0 3 a0 4 0) = v3) (
      j19 1) (
      j19 0))
set_option maxHeartbeats 1000000 in
theorem y_X3_rises {ad : Nat → Nat → Nat → Nat} {h : Hp} {V : Nat → Nat} {h0 : St} {N : Nat} (W : Wf ad h V h0) {a0 a0_ : Nat} {K : Int32 → Prop} {K9 : Int32 → Prop} (hw : z_X3_rises N a0_ h0 K9) (hk : ∀ (r0 : Int32), K9 r0 →  K r0) (e0 : a0 = ad 3 a0_ 0) (l0 : a0_ < V 3) : w_X3_rises N a0 h K := by
  subst e0
  unfold z_X3_rises at hw
  unfold w_X3_rises
  refine l_gI W rfl l0 rfl ?_
  refine l_gO W rfl l0 rfl (t := 10) rfl hw (fun i2_ l1_ hw => ?_)
  refine l_cv W rfl l1_ rfl ?_
  refine y_X10_rowCount W hw (fun v3_ hw => ?_) rfl l1_
  refine l_jn (fun (r : Int32 → Prop) (r9 : Int32 → Prop) => ∀ (x0 : Int32), r9 x0 → r x0) hw ?_ (fun j5_ j6_ hj7_ hw => ?_)
  ·
    intro x4_ hw
    refine l_fx2 (fun (r : Int32 → Int32 → Prop) (r9 : Int32 → Int32 → Prop) => ∀ (x0 : Int32), ∀ (x1 : Int32), r9 x0 x1 → r x0 x1) (fun _ _ h9_ => h9_.elim) ?_ N _ _ hw
    intro w11_ w12_ hv10_ x8_ x9_ hw
    refine l_br hw (fun _ hw => ?_) (fun _ hw => ?_)
    ·
      refine l_ok hw (fun _ hw => ?_)
      exact hk _ hw
    ·
      refine l_gI W rfl l0 rfl ?_
      refine l_br hw (fun _ hw => ?_) (fun _ hw => ?_)
      ·
        refine l_ok hw (fun _ hw => ?_)
        exact hk _ hw
      ·
        refine l_cv W rfl l0 rfl ?_
        refine y_X3_valueAt W hw (fun v13_ hw => ?_) rfl l0
        refine l_cv W rfl l0 rfl ?_
        refine y_X3_valueAt W hw (fun v14_ hw => ?_) rfl l0
        refine l_gO W rfl l0 rfl (t := 10) rfl hw (fun i16_ l15_ hw => ?_)
        refine l_cv W rfl l0 rfl ?_
        refine y_X3_rowAt W hw (fun v17_ hw => ?_) rfl l0
        refine l_cv W rfl l15_ rfl ?_
        refine y_X10_hasRow W hw (fun v18_ hw => ?_) rfl l15_
        refine l_jn (fun (r : Int32 → Prop) (r9 : Int32 → Prop) => ∀ (x0 : Int32), r9 x0 → r x0) hw ?_ (fun j20_ j21_ hj22_ hw => ?_)
        ·
          intro x19_ hw
          exact hv10_ _ _ hw
        ·
          refine l_jn (fun (r : Prop) (r9 : Prop) =>  r9  → r ) hw ?_ (fun j23_ j24_ hj25_ hw => ?_)
          ·
            intro hw
            exact hj22_ _ hw
          ·
            refine l_br hw (fun _ hw => ?_) (fun _ hw => ?_)
            ·
              exact hj25_  hw
            ·
              refine l_jn (fun (r : Prop) (r9 : Prop) =>  r9  → r ) hw ?_ (fun j26_ j27_ hj28_ hw => ?_)
              ·
                intro hw
                exact hj22_ _ hw
              ·
                refine l_br hw (fun _ hw => ?_) (fun _ hw => ?_)
                ·
                  exact hj28_  hw
                ·
                  refine l_br hw (fun _ hw => ?_) (fun _ hw => ?_)
                  ·
                    refine l_cv W rfl l0 rfl ?_
                    refine y_X3_rowAt W hw (fun v29_ hw => ?_) rfl l0
                    refine l_cv W rfl l0 rfl ?_
                    refine y_X3_rowAt W hw (fun v30_ hw => ?_) rfl l0
                    refine l_br hw (fun _ hw => ?_) (fun _ hw => ?_)
                    ·
                      exact hj25_  hw
                    ·
                      exact hj28_  hw
                  ·
                    exact hj25_  hw
  ·
    refine l_br hw (fun _ hw => ?_) (fun _ hw => ?_)
    ·
      exact hj7_ _ hw
    ·
      exact hj7_ _ hw
def z_X11_isIn (N : Nat) (p0 : Int32) (p1 : Int32) (h0 : St) (K : Int32 → Prop) : Prop :=
  br (p1 < 0) (
    K 0) (
    br (6 ≤ p1) (
      K 0) (
      br ((p0 &&& (1 <<< (p1 &&& 31))) = 0) (
        K 0) (
        K 1)))
set_option maxHeartbeats 1000000 in
theorem y_X11_isIn {ad : Nat → Nat → Nat → Nat} {h : Hp} {V : Nat → Nat} {h0 : St} {N : Nat} (W : Wf ad h V h0) {p0 : Int32} {p1 : Int32} {K : Int32 → Prop} {K9 : Int32 → Prop} (hw : z_X11_isIn N p0 p1 h0 K9) (hk : ∀ (r0 : Int32), K9 r0 →  K r0)  : w_X11_isIn N p0 p1 h K := by
  unfold z_X11_isIn at hw
  unfold w_X11_isIn
  refine l_br hw (fun _ hw => ?_) (fun _ hw => ?_)
  ·
    exact hk _ hw
  ·
    refine l_br hw (fun _ hw => ?_) (fun _ hw => ?_)
    ·
      exact hk _ hw
    ·
      refine l_br hw (fun _ hw => ?_) (fun _ hw => ?_)
      ·
        exact hk _ hw
      ·
        exact hk _ hw
def z_X7_conditionAt (N : Nat) (a0 : Nat) (p1 : Int32) (h0 : St) (K : Option Nat → Prop) : Prop :=
  br (p1 < 0) (
    K none) (
    br ((4 : Int32) ≤ p1) (
      K none) (
      wI 4 p1 <|
      K (sQ h0 7 a0 2 (p1).toNatClampNeg)))
set_option maxHeartbeats 1000000 in
theorem y_X7_conditionAt {ad : Nat → Nat → Nat → Nat} {h : Hp} {V : Nat → Nat} {h0 : St} {N : Nat} (W : Wf ad h V h0) {a0 a0_ : Nat} {p1 : Int32} {K : Option Nat → Prop} {K9 : Option Nat → Prop} (hw : z_X7_conditionAt N a0_ p1 h0 K9) (hk : ∀ {o9 u9 : Option Nat}, (∀ r, o9 = some r → r < V 1) → K9 o9 → u9 = o9.map (fun j => ad 1 j 0) → K u9) (e0 : a0 = ad 7 a0_ 0) (l0 : a0_ < V 7) : w_X7_conditionAt N a0 p1 h K := by
  subst e0
  unfold z_X7_conditionAt at hw
  unfold w_X7_conditionAt
  refine l_br hw (fun _ hw => ?_) (fun _ hw => ?_)
  ·
    exact hk lv_none hw rfl
  ·
    refine l_gA W rfl l0 (c := 4) rfl (Or.inl rfl) ?_
    refine l_aN W (f := 2) (x := 4) rfl l0 (c := 4) rfl (Or.inr rfl) rfl rfl ?_
    refine l_br hw (fun _ hw => ?_) (fun _ hw => ?_)
    ·
      exact hk lv_none hw rfl
    ·
      refine l_gA W rfl l0 (c := 4) rfl (Or.inl rfl) ?_
      refine l_aR W (f := 2) rfl l0 rfl (r := 1) rfl hw (fun hw => ?_)
      exact hk (wf_live W l0 2 _ rfl) hw rfl
def z_X10_takenRows (N : Nat) (a0 : Nat) (h0 : St) (K : Int32 → Prop) : Prop :=
  K (sP h0 10 a0 8 0)
set_option maxHeartbeats 1000000 in
theorem y_X10_takenRows {ad : Nat → Nat → Nat → Nat} {h : Hp} {V : Nat → Nat} {h0 : St} {N : Nat} (W : Wf ad h V h0) {a0 a0_ : Nat} {K : Int32 → Prop} {K9 : Int32 → Prop} (hw : z_X10_takenRows N a0_ h0 K9) (hk : ∀ (r0 : Int32), K9 r0 →  K r0) (e0 : a0 = ad 10 a0_ 0) (l0 : a0_ < V 10) : w_X10_takenRows N a0 h K := by
  subst e0
  unfold z_X10_takenRows at hw
  unfold w_X10_takenRows
  refine l_gI W rfl l0 rfl ?_
  exact hk _ hw
def z_X7_joinAt (N : Nat) (a0 : Nat) (p1 : Int32) (h0 : St) (K : Option Nat → Prop) : Prop :=
  br (p1 < 0) (
    K none) (
    br ((3 : Int32) ≤ p1) (
      K none) (
      wI 3 p1 <|
      K (sQ h0 7 a0 4 (p1).toNatClampNeg)))
set_option maxHeartbeats 1000000 in
theorem y_X7_joinAt {ad : Nat → Nat → Nat → Nat} {h : Hp} {V : Nat → Nat} {h0 : St} {N : Nat} (W : Wf ad h V h0) {a0 a0_ : Nat} {p1 : Int32} {K : Option Nat → Prop} {K9 : Option Nat → Prop} (hw : z_X7_joinAt N a0_ p1 h0 K9) (hk : ∀ {o9 u9 : Option Nat}, (∀ r, o9 = some r → r < V 4) → K9 o9 → u9 = o9.map (fun j => ad 4 j 0) → K u9) (e0 : a0 = ad 7 a0_ 0) (l0 : a0_ < V 7) : w_X7_joinAt N a0 p1 h K := by
  subst e0
  unfold z_X7_joinAt at hw
  unfold w_X7_joinAt
  refine l_br hw (fun _ hw => ?_) (fun _ hw => ?_)
  ·
    exact hk lv_none hw rfl
  ·
    refine l_gA W rfl l0 (c := 4) rfl (Or.inl rfl) ?_
    refine l_aN W (f := 4) (x := 3) rfl l0 (c := 4) rfl (Or.inr rfl) rfl rfl ?_
    refine l_br hw (fun _ hw => ?_) (fun _ hw => ?_)
    ·
      exact hk lv_none hw rfl
    ·
      refine l_gA W rfl l0 (c := 4) rfl (Or.inl rfl) ?_
      refine l_aR W (f := 4) rfl l0 rfl (r := 4) rfl hw (fun hw => ?_)
      exact hk (wf_live W l0 4 _ rfl) hw rfl
def z_X7_tableOf (N : Nat) (a0 : Nat) (p1 : Int32) (h0 : St) (K : Option Nat → Prop) : Prop :=
  br (p1 < 0) (
    K none) (
    br ((3 : Int32) ≤ p1) (
      K none) (
      wI 3 p1 <|
      K (sQ h0 7 a0 0 (p1).toNatClampNeg)))
set_option maxHeartbeats 1000000 in
theorem y_X7_tableOf {ad : Nat → Nat → Nat → Nat} {h : Hp} {V : Nat → Nat} {h0 : St} {N : Nat} (W : Wf ad h V h0) {a0 a0_ : Nat} {p1 : Int32} {K : Option Nat → Prop} {K9 : Option Nat → Prop} (hw : z_X7_tableOf N a0_ p1 h0 K9) (hk : ∀ {o9 u9 : Option Nat}, (∀ r, o9 = some r → r < V 10) → K9 o9 → u9 = o9.map (fun j => ad 10 j 0) → K u9) (e0 : a0 = ad 7 a0_ 0) (l0 : a0_ < V 7) : w_X7_tableOf N a0 p1 h K := by
  subst e0
  unfold z_X7_tableOf at hw
  unfold w_X7_tableOf
  refine l_br hw (fun _ hw => ?_) (fun _ hw => ?_)
  ·
    exact hk lv_none hw rfl
  ·
    refine l_gA W rfl l0 (c := 4) rfl (Or.inl rfl) ?_
    refine l_aN W (f := 0) (x := 3) rfl l0 (c := 4) rfl (Or.inr rfl) rfl rfl ?_
    refine l_br hw (fun _ hw => ?_) (fun _ hw => ?_)
    ·
      exact hk lv_none hw rfl
    ·
      refine l_gA W rfl l0 (c := 4) rfl (Or.inl rfl) ?_
      refine l_aR W (f := 0) rfl l0 rfl (r := 10) rfl hw (fun hw => ?_)
      exact hk (wf_live W l0 0 _ rfl) hw rfl
def z_X10_takenPages (N : Nat) (a0 : Nat) (h0 : St) (K : Int32 → Prop) : Prop :=
  K (sP h0 10 a0 9 0)
set_option maxHeartbeats 1000000 in
theorem y_X10_takenPages {ad : Nat → Nat → Nat → Nat} {h : Hp} {V : Nat → Nat} {h0 : St} {N : Nat} (W : Wf ad h V h0) {a0 a0_ : Nat} {K : Int32 → Prop} {K9 : Int32 → Prop} (hw : z_X10_takenPages N a0_ h0 K9) (hk : ∀ (r0 : Int32), K9 r0 →  K r0) (e0 : a0 = ad 10 a0_ 0) (l0 : a0_ < V 10) : w_X10_takenPages N a0 h K := by
  subst e0
  unfold z_X10_takenPages at hw
  unfold w_X10_takenPages
  refine l_gI W rfl l0 rfl ?_
  exact hk _ hw
def z_X7_size (N : Nat) (a0 : Nat) (h0 : St) (K : Int32 → Prop) : Prop :=
  K (sP h0 7 a0 1 0)
set_option maxHeartbeats 1000000 in
theorem y_X7_size {ad : Nat → Nat → Nat → Nat} {h : Hp} {V : Nat → Nat} {h0 : St} {N : Nat} (W : Wf ad h V h0) {a0 a0_ : Nat} {K : Int32 → Prop} {K9 : Int32 → Prop} (hw : z_X7_size N a0_ h0 K9) (hk : ∀ (r0 : Int32), K9 r0 →  K r0) (e0 : a0 = ad 7 a0_ 0) (l0 : a0_ < V 7) : w_X7_size N a0 h K := by
  subst e0
  unfold z_X7_size at hw
  unfold w_X7_size
  refine l_gI W rfl l0 rfl ?_
  exact hk _ hw
def z_X10_hasColumn (N : Nat) (a0 : Nat) (p1 : Int32) (h0 : St) (K : Int32 → Prop) : Prop :=
  br (p1 < 0) (
    K 0) (
    br ((sP h0 10 a0 1 0) ≤ p1) (
      K 0) (
      br (3 ≤ p1) (
        K 0) (
        K 1)))
set_option maxHeartbeats 1000000 in
theorem y_X10_hasColumn {ad : Nat → Nat → Nat → Nat} {h : Hp} {V : Nat → Nat} {h0 : St} {N : Nat} (W : Wf ad h V h0) {a0 a0_ : Nat} {p1 : Int32} {K : Int32 → Prop} {K9 : Int32 → Prop} (hw : z_X10_hasColumn N a0_ p1 h0 K9) (hk : ∀ (r0 : Int32), K9 r0 →  K r0) (e0 : a0 = ad 10 a0_ 0) (l0 : a0_ < V 10) : w_X10_hasColumn N a0 p1 h K := by
  subst e0
  unfold z_X10_hasColumn at hw
  unfold w_X10_hasColumn
  refine l_br hw (fun _ hw => ?_) (fun _ hw => ?_)
  ·
    exact hk _ hw
  ·
    refine l_gI W rfl l0 rfl ?_
    refine l_br hw (fun _ hw => ?_) (fun _ hw => ?_)
    ·
      exact hk _ hw
    ·
      refine l_br hw (fun _ hw => ?_) (fun _ hw => ?_)
      ·
        exact hk _ hw
      ·
        exact hk _ hw
def z_X11_divided (N : Nat) (p0 : Int32) (p1 : Int32) (h0 : St) (K : Int32 → Prop) : Prop :=
  br (p1 = 0) (
    K p0) (
    dz (p1 : Int32) <|
    K (p0 / p1))
set_option maxHeartbeats 1000000 in
theorem y_X11_divided {ad : Nat → Nat → Nat → Nat} {h : Hp} {V : Nat → Nat} {h0 : St} {N : Nat} (W : Wf ad h V h0) {p0 : Int32} {p1 : Int32} {K : Int32 → Prop} {K9 : Int32 → Prop} (hw : z_X11_divided N p0 p1 h0 K9) (hk : ∀ (r0 : Int32), K9 r0 →  K r0)  : w_X11_divided N p0 p1 h K := by
  unfold z_X11_divided at hw
  unfold w_X11_divided
  refine l_br hw (fun _ hw => ?_) (fun _ hw => ?_)
  ·
    exact hk _ hw
  ·
    refine l_dz hw (fun hw => ?_)
    exact hk _ hw
def z_X10_shareOf (N : Nat) (a0 : Nat) (p1 : Option Nat) (h0 : St) (K : Int32 → Prop) : Prop :=
  nn p1 fun a1 =>
  z_X1_column N a1 h0 fun v2 =>
  z_X10_hasColumn N a0 v2 h0 fun v3 =>
  br (v3 = 0) (
    K 0) (
    z_X1_isEqual N a1 h0 fun v4 =>
    br (v4 = 0) (
      wI 3 v2 <|
      z_X1_least N a1 h0 fun v7 =>
      wI 3 v2 <|
      z_X1_greatest N a1 h0 fun v10 =>
      wI 3 v2 <|
      wI 3 v2 <|
      z_X11_divided N (1000 * (if 0 < (((if v10 < (sP h0 10 a0 12 (v2).toNatClampNeg) then v10 else (sP h0 10 a0 12 (v2).toNatClampNeg)) - (if (sP h0 10 a0 11 (v2).toNatClampNeg) < v7 then v7 else (sP h0 10 a0 11 (v2).toNatClampNeg))) + 1) then (((if v10 < (sP h0 10 a0 12 (v2).toNatClampNeg) then v10 else (sP h0 10 a0 12 (v2).toNatClampNeg)) - (if (sP h0 10 a0 11 (v2).toNatClampNeg) < v7 then v7 else (sP h0 10 a0 11 (v2).toNatClampNeg))) + 1) else 0)) (((sP h0 10 a0 12 (v2).toNatClampNeg) - (sP h0 10 a0 11 (v2).toNatClampNeg)) + 1) h0 fun v15 =>
      K v15) (
      wI 3 v2 <|
      z_X11_divided N 1000 (sP h0 10 a0 10 (v2).toNatClampNeg) h0 fun v18 =>
      K v18))
set_option maxHeartbeats 1000000 in
theorem y_X10_shareOf {ad : Nat → Nat → Nat → Nat} {h : Hp} {V : Nat → Nat} {h0 : St} {N : Nat} (W : Wf ad h V h0) {a0 a0_ : Nat} {p1 p1_ : Option Nat} {K : Int32 → Prop} {K9 : Int32 → Prop} (hw : z_X10_shareOf N a0_ p1_ h0 K9) (hk : ∀ (r0 : Int32), K9 r0 →  K r0) (e0 : a0 = ad 10 a0_ 0) (l0 : a0_ < V 10) (e_p1 : p1 = p1_.map (fun j => ad 1 j 0)) (l_p1 : ∀ r, p1_ = some r → r < V 1) : w_X10_shareOf N a0 p1 h K := by
  subst e0 e_p1
  unfold z_X10_shareOf at hw
  unfold w_X10_shareOf
  refine l_nn hw (fun i1_ e2_ hw => ?_)
  refine l_cv W rfl (l_p1 _ e2_) rfl ?_
  refine y_X1_column W hw (fun v3_ hw => ?_) rfl (l_p1 _ e2_)
  refine l_cv W rfl l0 rfl ?_
  refine y_X10_hasColumn W hw (fun v4_ hw => ?_) rfl l0
  refine l_br hw (fun _ hw => ?_) (fun _ hw => ?_)
  ·
    exact hk _ hw
  ·
    refine l_cv W rfl (l_p1 _ e2_) rfl ?_
    refine y_X1_isEqual W hw (fun v5_ hw => ?_) rfl (l_p1 _ e2_)
    refine l_br hw (fun _ hw => ?_) (fun _ hw => ?_)
    ·
      refine l_gA W rfl l0 (c := 2) rfl (Or.inr rfl) ?_
      refine l_aI W (f := 11) rfl l0 rfl hw (fun hw => ?_)
      refine l_cv W rfl (l_p1 _ e2_) rfl ?_
      refine y_X1_least W hw (fun v6_ hw => ?_) rfl (l_p1 _ e2_)
      refine l_gA W rfl l0 (c := 2) rfl (Or.inr rfl) ?_
      refine l_aI W (f := 12) rfl l0 rfl hw (fun hw => ?_)
      refine l_cv W rfl (l_p1 _ e2_) rfl ?_
      refine y_X1_greatest W hw (fun v7_ hw => ?_) rfl (l_p1 _ e2_)
      refine l_gA W rfl l0 (c := 2) rfl (Or.inr rfl) ?_
      refine l_aI W (f := 12) rfl l0 rfl hw (fun hw => ?_)
      refine l_gA W rfl l0 (c := 2) rfl (Or.inr rfl) ?_
      refine l_aI W (f := 11) rfl l0 rfl hw (fun hw => ?_)
      refine y_X11_divided W hw (fun v8_ hw => ?_) 
      exact hk _ hw
    ·
      refine l_gA W rfl l0 (c := 2) rfl (Or.inr rfl) ?_
      refine l_aI W (f := 10) rfl l0 rfl hw (fun hw => ?_)
      refine y_X11_divided W hw (fun v9_ hw => ?_) 
      exact hk _ hw
def z_X10_takenUnlike (N : Nat) (a0 : Nat) (p1 : Int32) (h0 : St) (K : Int32 → Prop) : Prop :=
  br (p1 < 0) (
    K 0) (
    br ((3 : Int32) ≤ p1) (
      K 0) (
      wI 3 p1 <|
      K (sP h0 10 a0 10 (p1).toNatClampNeg)))
set_option maxHeartbeats 1000000 in
theorem y_X10_takenUnlike {ad : Nat → Nat → Nat → Nat} {h : Hp} {V : Nat → Nat} {h0 : St} {N : Nat} (W : Wf ad h V h0) {a0 a0_ : Nat} {p1 : Int32} {K : Int32 → Prop} {K9 : Int32 → Prop} (hw : z_X10_takenUnlike N a0_ p1 h0 K9) (hk : ∀ (r0 : Int32), K9 r0 →  K r0) (e0 : a0 = ad 10 a0_ 0) (l0 : a0_ < V 10) : w_X10_takenUnlike N a0 p1 h K := by
  subst e0
  unfold z_X10_takenUnlike at hw
  unfold w_X10_takenUnlike
  refine l_br hw (fun _ hw => ?_) (fun _ hw => ?_)
  ·
    exact hk _ hw
  ·
    refine l_gA W rfl l0 (c := 2) rfl (Or.inr rfl) ?_
    refine l_aN W (f := 10) (x := 3) rfl l0 (c := 2) rfl (Or.inl rfl) rfl rfl ?_
    refine l_br hw (fun _ hw => ?_) (fun _ hw => ?_)
    ·
      exact hk _ hw
    ·
      refine l_gA W rfl l0 (c := 2) rfl (Or.inr rfl) ?_
      refine l_aI W (f := 10) rfl l0 rfl hw (fun hw => ?_)
      exact hk _ hw
def z_X7_conditionCount (N : Nat) (a0 : Nat) (h0 : St) (K : Int32 → Prop) : Prop :=
  K (sP h0 7 a0 3 0)
set_option maxHeartbeats 1000000 in
theorem y_X7_conditionCount {ad : Nat → Nat → Nat → Nat} {h : Hp} {V : Nat → Nat} {h0 : St} {N : Nat} (W : Wf ad h V h0) {a0 a0_ : Nat} {K : Int32 → Prop} {K9 : Int32 → Prop} (hw : z_X7_conditionCount N a0_ h0 K9) (hk : ∀ (r0 : Int32), K9 r0 →  K r0) (e0 : a0 = ad 7 a0_ 0) (l0 : a0_ < V 7) : w_X7_conditionCount N a0 h K := by
  subst e0
  unfold z_X7_conditionCount at hw
  unfold w_X7_conditionCount
  refine l_gI W rfl l0 rfl ?_
  exact hk _ hw
def z_X7_joinCount (N : Nat) (a0 : Nat) (h0 : St) (K : Int32 → Prop) : Prop :=
  K (sP h0 7 a0 5 0)
set_option maxHeartbeats 1000000 in
theorem y_X7_joinCount {ad : Nat → Nat → Nat → Nat} {h : Hp} {V : Nat → Nat} {h0 : St} {N : Nat} (W : Wf ad h V h0) {a0 a0_ : Nat} {K : Int32 → Prop} {K9 : Int32 → Prop} (hw : z_X7_joinCount N a0_ h0 K9) (hk : ∀ (r0 : Int32), K9 r0 →  K r0) (e0 : a0 = ad 7 a0_ 0) (l0 : a0_ < V 7) : w_X7_joinCount N a0 h K := by
  subst e0
  unfold z_X7_joinCount at hw
  unfold w_X7_joinCount
  refine l_gI W rfl l0 rfl ?_
  exact hk _ hw
def z_X7_hasPosition (N : Nat) (a0 : Nat) (p1 : Int32) (h0 : St) (K : Int32 → Prop) : Prop :=
  br (p1 < 0) (
    K 0) (
    br ((sP h0 7 a0 1 0) ≤ p1) (
      K 0) (
      K 1))
set_option maxHeartbeats 1000000 in
theorem y_X7_hasPosition {ad : Nat → Nat → Nat → Nat} {h : Hp} {V : Nat → Nat} {h0 : St} {N : Nat} (W : Wf ad h V h0) {a0 a0_ : Nat} {p1 : Int32} {K : Int32 → Prop} {K9 : Int32 → Prop} (hw : z_X7_hasPosition N a0_ p1 h0 K9) (hk : ∀ (r0 : Int32), K9 r0 →  K r0) (e0 : a0 = ad 7 a0_ 0) (l0 : a0_ < V 7) : w_X7_hasPosition N a0 p1 h K := by
  subst e0
  unfold z_X7_hasPosition at hw
  unfold w_X7_hasPosition
  refine l_br hw (fun _ hw => ?_) (fun _ hw => ?_)
  ·
    exact hk _ hw
  ·
    refine l_gI W rfl l0 rfl ?_
    refine l_br hw (fun _ hw => ?_) (fun _ hw => ?_)
    ·
      exact hk _ hw
    ·
      exact hk _ hw
def z_X7_hasColumn (N : Nat) (a0 : Nat) (p1 : Int32) (p2 : Int32) (h0 : St) (K : Int32 → Prop) : Prop :=
  z_X7_tableOf N a0 p1 h0 fun o1 =>
  brn o1 (
    K 0) (fun a2 =>
    z_X10_hasColumn N a2 p2 h0 fun v3 =>
    br (v3 = 0) (
      K 0) (
      K 1))
set_option maxHeartbeats 1000000 in
theorem y_X7_hasColumn {ad : Nat → Nat → Nat → Nat} {h : Hp} {V : Nat → Nat} {h0 : St} {N : Nat} (W : Wf ad h V h0) {a0 a0_ : Nat} {p1 : Int32} {p2 : Int32} {K : Int32 → Prop} {K9 : Int32 → Prop} (hw : z_X7_hasColumn N a0_ p1 p2 h0 K9) (hk : ∀ (r0 : Int32), K9 r0 →  K r0) (e0 : a0 = ad 7 a0_ 0) (l0 : a0_ < V 7) : w_X7_hasColumn N a0 p1 p2 h K := by
  subst e0
  unfold z_X7_hasColumn at hw
  unfold w_X7_hasColumn
  refine l_cv W rfl l0 rfl ?_
  refine y_X7_tableOf W hw (@fun o2_ u4_ lp1_ hw e3_ => ?_) rfl l0
  subst e3_
  refine l_brn hw (fun e7_ hw => ?_) (fun i5_ e6_ hw => ?_)
  ·
    exact hk _ hw
  ·
    refine l_cv W rfl (lp1_ _ e6_) rfl ?_
    refine y_X10_hasColumn W hw (fun v8_ hw => ?_) rfl (lp1_ _ e6_)
    refine l_br hw (fun _ hw => ?_) (fun _ hw => ?_)
    ·
      exact hk _ hw
    ·
      exact hk _ hw
def z_X7_addPosition (N : Nat) (a0 : Nat) (p1 : Option Nat) (h0 : St) (K : Int32 → St → Prop) : Prop :=
  br ((sP h0 7 a0 1 0) < 0) (
    K 0 h0) (
    br ((sP h0 7 a0 1 0) < (3 : Int32)) (
      nn p1 fun a7 =>
      wA 3 (sP h0 7 a0 1 0) (stQ h0 7 a0 0 ((sP h0 7 a0 1 0)).toNatClampNeg (some a7)) fun h8 =>
      lt_ (stP h8 7 a0 1 0 ((sP h8 7 a0 1 0) + 1)) fun h10 =>
      K 1 h10) (
      K 0 h0))
set_option maxHeartbeats 1000000 in
theorem y_X7_addPosition {ad : Nat → Nat → Nat → Nat} {h : Hp} {V : Nat → Nat} {h0 : St} {N : Nat} (W : Wf ad h V h0) {a0 a0_ : Nat} {p1 p1_ : Option Nat} {K : Int32 → Hp → Prop} {K9 : Int32 → St → Prop} (hw : z_X7_addPosition N a0_ p1_ h0 K9) (hk : ∀ (r0 : Int32), ∀ (h9 : Hp) (s9 : St), Wf ad h9 V s9 → K9 r0 s9 →  K r0 h9) (e0 : a0 = ad 7 a0_ 0) (l0 : a0_ < V 7) (e_p1 : p1 = p1_.map (fun j => ad 10 j 0)) (l_p1 : ∀ r, p1_ = some r → r < V 10) : w_X7_addPosition N a0 p1 h K := by
  subst e0 e_p1
  unfold z_X7_addPosition at hw
  unfold w_X7_addPosition
  refine l_gI W rfl l0 rfl ?_
  refine l_br hw (fun _ hw => ?_) (fun _ hw => ?_)
  ·
    exact hk _ _ _ W hw
  ·
    refine l_gI W rfl l0 rfl ?_
    refine l_gA W rfl l0 (c := 4) rfl (Or.inl rfl) ?_
    refine l_aN W (f := 0) (x := 3) rfl l0 (c := 4) rfl (Or.inr rfl) rfl rfl ?_
    refine l_br hw (fun _ hw => ?_) (fun _ hw => ?_)
    ·
      refine l_gA W rfl l0 (c := 4) rfl (Or.inl rfl) ?_
      refine l_gI W rfl l0 rfl ?_
      refine l_nn hw (fun i1_ e2_ hw => ?_)
      refine l_sR W (f := 0) rfl l0 rfl (r := 10) rfl rfl (l_p1 _ e2_) rfl rfl hw (fun h4_ W3_ hw => ?_)
      refine l_gI W3_ rfl l0 rfl ?_
      refine l_pI W3_ rfl l0 rfl hw (fun h6_ W5_ hw => ?_)
      exact hk _ _ _ W5_ hw
    ·
      exact hk _ _ _ W hw
def z_X7_addCondition (N : Nat) (a0 : Nat) (p1 : Option Nat) (h0 : St) (K : St → Prop) : Prop :=
  br ((sP h0 7 a0 3 0) < 0) (
    K h0) (
    br ((4 : Int32) ≤ (sP h0 7 a0 3 0)) (
      K h0) (
      nn p1 fun a7 =>
      wA 4 (sP h0 7 a0 3 0) (stQ h0 7 a0 2 ((sP h0 7 a0 3 0)).toNatClampNeg (some a7)) fun h8 =>
      lt_ (stP h8 7 a0 3 0 ((sP h8 7 a0 3 0) + 1)) fun h10 =>
      K h10))
set_option maxHeartbeats 1000000 in
theorem y_X7_addCondition {ad : Nat → Nat → Nat → Nat} {h : Hp} {V : Nat → Nat} {h0 : St} {N : Nat} (W : Wf ad h V h0) {a0 a0_ : Nat} {p1 p1_ : Option Nat} {K : Hp → Prop} {K9 : St → Prop} (hw : z_X7_addCondition N a0_ p1_ h0 K9) (hk : ∀ (h9 : Hp) (s9 : St), Wf ad h9 V s9 → K9 s9 →  K h9) (e0 : a0 = ad 7 a0_ 0) (l0 : a0_ < V 7) (e_p1 : p1 = p1_.map (fun j => ad 1 j 0)) (l_p1 : ∀ r, p1_ = some r → r < V 1) : w_X7_addCondition N a0 p1 h K := by
  subst e0 e_p1
  unfold z_X7_addCondition at hw
  unfold w_X7_addCondition
  refine l_gI W rfl l0 rfl ?_
  refine l_br hw (fun _ hw => ?_) (fun _ hw => ?_)
  ·
    exact hk _ _ W hw
  ·
    refine l_gI W rfl l0 rfl ?_
    refine l_gA W rfl l0 (c := 4) rfl (Or.inl rfl) ?_
    refine l_aN W (f := 2) (x := 4) rfl l0 (c := 4) rfl (Or.inr rfl) rfl rfl ?_
    refine l_br hw (fun _ hw => ?_) (fun _ hw => ?_)
    ·
      exact hk _ _ W hw
    ·
      refine l_gA W rfl l0 (c := 4) rfl (Or.inl rfl) ?_
      refine l_gI W rfl l0 rfl ?_
      refine l_nn hw (fun i1_ e2_ hw => ?_)
      refine l_sR W (f := 2) rfl l0 rfl (r := 1) rfl rfl (l_p1 _ e2_) rfl rfl hw (fun h4_ W3_ hw => ?_)
      refine l_gI W3_ rfl l0 rfl ?_
      refine l_pI W3_ rfl l0 rfl hw (fun h6_ W5_ hw => ?_)
      exact hk _ _ W5_ hw
def z_X7_addJoin (N : Nat) (a0 : Nat) (p1 : Option Nat) (h0 : St) (K : St → Prop) : Prop :=
  br ((sP h0 7 a0 5 0) < 0) (
    K h0) (
    br ((3 : Int32) ≤ (sP h0 7 a0 5 0)) (
      K h0) (
      nn p1 fun a7 =>
      wA 3 (sP h0 7 a0 5 0) (stQ h0 7 a0 4 ((sP h0 7 a0 5 0)).toNatClampNeg (some a7)) fun h8 =>
      lt_ (stP h8 7 a0 5 0 ((sP h8 7 a0 5 0) + 1)) fun h10 =>
      K h10))
set_option maxHeartbeats 1000000 in
theorem y_X7_addJoin {ad : Nat → Nat → Nat → Nat} {h : Hp} {V : Nat → Nat} {h0 : St} {N : Nat} (W : Wf ad h V h0) {a0 a0_ : Nat} {p1 p1_ : Option Nat} {K : Hp → Prop} {K9 : St → Prop} (hw : z_X7_addJoin N a0_ p1_ h0 K9) (hk : ∀ (h9 : Hp) (s9 : St), Wf ad h9 V s9 → K9 s9 →  K h9) (e0 : a0 = ad 7 a0_ 0) (l0 : a0_ < V 7) (e_p1 : p1 = p1_.map (fun j => ad 4 j 0)) (l_p1 : ∀ r, p1_ = some r → r < V 4) : w_X7_addJoin N a0 p1 h K := by
  subst e0 e_p1
  unfold z_X7_addJoin at hw
  unfold w_X7_addJoin
  refine l_gI W rfl l0 rfl ?_
  refine l_br hw (fun _ hw => ?_) (fun _ hw => ?_)
  ·
    exact hk _ _ W hw
  ·
    refine l_gI W rfl l0 rfl ?_
    refine l_gA W rfl l0 (c := 4) rfl (Or.inl rfl) ?_
    refine l_aN W (f := 4) (x := 3) rfl l0 (c := 4) rfl (Or.inr rfl) rfl rfl ?_
    refine l_br hw (fun _ hw => ?_) (fun _ hw => ?_)
    ·
      exact hk _ _ W hw
    ·
      refine l_gA W rfl l0 (c := 4) rfl (Or.inl rfl) ?_
      refine l_gI W rfl l0 rfl ?_
      refine l_nn hw (fun i1_ e2_ hw => ?_)
      refine l_sR W (f := 4) rfl l0 rfl (r := 4) rfl rfl (l_p1 _ e2_) rfl rfl hw (fun h4_ W3_ hw => ?_)
      refine l_gI W3_ rfl l0 rfl ?_
      refine l_pI W3_ rfl l0 rfl hw (fun h6_ W5_ hw => ?_)
      exact hk _ _ W5_ hw
def z_X11_leafKey (N : Nat) (p0 : Option Nat) (p1 : Int32) (h0 : St) (K : Int32 → Prop) : Prop :=
  nn p0 fun a1 =>
  z_X3_number N a1 h0 fun v2 =>
  K ((100 * (3 + v2)) + (p1 / 8))
set_option maxHeartbeats 1000000 in
theorem y_X11_leafKey {ad : Nat → Nat → Nat → Nat} {h : Hp} {V : Nat → Nat} {h0 : St} {N : Nat} (W : Wf ad h V h0) {p0 p0_ : Option Nat} {p1 : Int32} {K : Int32 → Prop} {K9 : Int32 → Prop} (hw : z_X11_leafKey N p0_ p1 h0 K9) (hk : ∀ (r0 : Int32), K9 r0 →  K r0) (e_p0 : p0 = p0_.map (fun j => ad 3 j 0)) (l_p0 : ∀ r, p0_ = some r → r < V 3) : w_X11_leafKey N p0 p1 h K := by
  subst e_p0
  unfold z_X11_leafKey at hw
  unfold w_X11_leafKey
  refine l_nn hw (fun i1_ e2_ hw => ?_)
  refine l_cv W rfl (l_p0 _ e2_) rfl ?_
  refine y_X3_number W hw (fun v3_ hw => ?_) rfl (l_p0 _ e2_)
  exact hk _ hw
def z_X10_number (N : Nat) (a0 : Nat) (h0 : St) (K : Int32 → Prop) : Prop :=
  K (sP h0 10 a0 0 0)
set_option maxHeartbeats 1000000 in
theorem y_X10_number {ad : Nat → Nat → Nat → Nat} {h : Hp} {V : Nat → Nat} {h0 : St} {N : Nat} (W : Wf ad h V h0) {a0 a0_ : Nat} {K : Int32 → Prop} {K9 : Int32 → Prop} (hw : z_X10_number N a0_ h0 K9) (hk : ∀ (r0 : Int32), K9 r0 →  K r0) (e0 : a0 = ad 10 a0_ 0) (l0 : a0_ < V 10) : w_X10_number N a0 h K := by
  subst e0
  unfold z_X10_number at hw
  unfold w_X10_number
  refine l_gI W rfl l0 rfl ?_
  exact hk _ hw
def z_X11_pageKey (N : Nat) (p0 : Option Nat) (p1 : Int32) (h0 : St) (K : Int32 → Prop) : Prop :=
  nn p0 fun a1 =>
  z_X10_number N a1 h0 fun v2 =>
  K ((100 * v2) + (p1 / 4))
set_option maxHeartbeats 1000000 in
theorem y_X11_pageKey {ad : Nat → Nat → Nat → Nat} {h : Hp} {V : Nat → Nat} {h0 : St} {N : Nat} (W : Wf ad h V h0) {p0 p0_ : Option Nat} {p1 : Int32} {K : Int32 → Prop} {K9 : Int32 → Prop} (hw : z_X11_pageKey N p0_ p1 h0 K9) (hk : ∀ (r0 : Int32), K9 r0 →  K r0) (e_p0 : p0 = p0_.map (fun j => ad 10 j 0)) (l_p0 : ∀ r, p0_ = some r → r < V 10) : w_X11_pageKey N p0 p1 h K := by
  subst e_p0
  unfold z_X11_pageKey at hw
  unfold w_X11_pageKey
  refine l_nn hw (fun i1_ e2_ hw => ?_)
  refine l_cv W rfl (l_p0 _ e2_) rfl ?_
  refine y_X10_number W hw (fun v3_ hw => ?_) rfl (l_p0 _ e2_)
  exact hk _ hw
def z_X10_rowsEver (N : Nat) (a0 : Nat) (h0 : St) (K : Int32 → Prop) : Prop :=
  K (sP h0 10 a0 2 0)
set_option maxHeartbeats 1000000 in
theorem y_X10_rowsEver {ad : Nat → Nat → Nat → Nat} {h : Hp} {V : Nat → Nat} {h0 : St} {N : Nat} (W : Wf ad h V h0) {a0 a0_ : Nat} {K : Int32 → Prop} {K9 : Int32 → Prop} (hw : z_X10_rowsEver N a0_ h0 K9) (hk : ∀ (r0 : Int32), K9 r0 →  K r0) (e0 : a0 = ad 10 a0_ 0) (l0 : a0_ < V 10) : w_X10_rowsEver N a0 h K := by
  subst e0
  unfold z_X10_rowsEver at hw
  unfold w_X10_rowsEver
  refine l_gI W rfl l0 rfl ?_
  exact hk _ hw
def z_X10_addRow (N : Nat) (a0 : Nat) (p1 : Int32) (p2 : Int32) (p3 : Int32) (h0 : St) (K : Int32 → St → Prop) : Prop :=
  br ((sP h0 10 a0 2 0) < 0) (
    K (-1) h0) (
    br ((40 : Int32) ≤ (sP h0 10 a0 2 0)) (
      K (-1) h0) (
      br (((sP h0 10 a0 2 0) * 3) < 0) (
        K (-1) h0) (
        br ((((sP h0 10 a0 2 0) * 3) + 2) < (120 : Int32)) (
          wA 120 ((sP h0 10 a0 2 0) * 3) (stP h0 10 a0 5 (((sP h0 10 a0 2 0) * 3)).toNatClampNeg p1) fun h7 =>
          wA 120 (((sP h0 10 a0 2 0) * 3) + 1) (stP h7 10 a0 5 ((((sP h0 10 a0 2 0) * 3) + 1)).toNatClampNeg p2) fun h9 =>
          wA 120 (((sP h0 10 a0 2 0) * 3) + 2) (stP h9 10 a0 5 ((((sP h0 10 a0 2 0) * 3) + 2)).toNatClampNeg p3) fun h11 =>
          wA 40 (sP h0 10 a0 2 0) (stP h11 10 a0 4 ((sP h0 10 a0 2 0)).toNatClampNeg (vp_nar .boolean 1)) fun h13 =>
          lt_ (stP h13 10 a0 2 0 ((sP h13 10 a0 2 0) + 1)) fun h15 =>
          lt_ (stP h15 10 a0 3 0 ((sP h15 10 a0 3 0) + 1)) fun h17 =>
          K (sP h0 10 a0 2 0) h17) (
          K (-1) h0))))
set_option maxHeartbeats 1000000 in
theorem y_X10_addRow {ad : Nat → Nat → Nat → Nat} {h : Hp} {V : Nat → Nat} {h0 : St} {N : Nat} (W : Wf ad h V h0) {a0 a0_ : Nat} {p1 : Int32} {p2 : Int32} {p3 : Int32} {K : Int32 → Hp → Prop} {K9 : Int32 → St → Prop} (hw : z_X10_addRow N a0_ p1 p2 p3 h0 K9) (hk : ∀ (r0 : Int32), ∀ (h9 : Hp) (s9 : St), Wf ad h9 V s9 → K9 r0 s9 →  K r0 h9) (e0 : a0 = ad 10 a0_ 0) (l0 : a0_ < V 10) : w_X10_addRow N a0 p1 p2 p3 h K := by
  subst e0
  unfold z_X10_addRow at hw
  unfold w_X10_addRow
  refine l_gI W rfl l0 rfl ?_
  refine l_br hw (fun _ hw => ?_) (fun _ hw => ?_)
  ·
    exact hk _ _ _ W hw
  ·
    refine l_gA W rfl l0 (c := 2) rfl (Or.inr rfl) ?_
    refine l_aN W (f := 4) (x := 40) rfl l0 (c := 2) rfl (Or.inl rfl) rfl rfl ?_
    refine l_br hw (fun _ hw => ?_) (fun _ hw => ?_)
    ·
      exact hk _ _ _ W hw
    ·
      refine l_br hw (fun _ hw => ?_) (fun _ hw => ?_)
      ·
        exact hk _ _ _ W hw
      ·
        refine l_gA W rfl l0 (c := 2) rfl (Or.inr rfl) ?_
        refine l_aN W (f := 5) (x := 120) rfl l0 (c := 2) rfl (Or.inl rfl) rfl rfl ?_
        refine l_br hw (fun _ hw => ?_) (fun _ hw => ?_)
        ·
          refine l_gA W rfl l0 (c := 2) rfl (Or.inr rfl) ?_
          refine l_sI W (f := 5) rfl l0 rfl hw (fun h2_ W1_ hw => ?_)
          refine l_gA W1_ rfl l0 (c := 2) rfl (Or.inr rfl) ?_
          refine l_sI W1_ (f := 5) rfl l0 rfl hw (fun h4_ W3_ hw => ?_)
          refine l_gA W3_ rfl l0 (c := 2) rfl (Or.inr rfl) ?_
          refine l_sI W3_ (f := 5) rfl l0 rfl hw (fun h6_ W5_ hw => ?_)
          refine l_gA W5_ rfl l0 (c := 2) rfl (Or.inr rfl) ?_
          refine l_sI W5_ (f := 4) rfl l0 rfl hw (fun h8_ W7_ hw => ?_)
          refine l_gI W7_ rfl l0 rfl ?_
          refine l_pI W7_ rfl l0 rfl hw (fun h10_ W9_ hw => ?_)
          refine l_gI W9_ rfl l0 rfl ?_
          refine l_pI W9_ rfl l0 rfl hw (fun h12_ W11_ hw => ?_)
          exact hk _ _ _ W11_ hw
        ·
          exact hk _ _ _ W hw
def z_X10_dropRow (N : Nat) (a0 : Nat) (p1 : Int32) (h0 : St) (K : St → Prop) : Prop :=
  z_X10_hasRow N a0 p1 h0 fun v1 =>
  br (v1 = 0) (
    K h0) (
    wA 40 p1 (stP h0 10 a0 4 (p1).toNatClampNeg (vp_nar .boolean 0)) fun h3 =>
    lt_ (stP h3 10 a0 3 0 ((sP h3 10 a0 3 0) - 1)) fun h5 =>
    K h5)
set_option maxHeartbeats 1000000 in
theorem y_X10_dropRow {ad : Nat → Nat → Nat → Nat} {h : Hp} {V : Nat → Nat} {h0 : St} {N : Nat} (W : Wf ad h V h0) {a0 a0_ : Nat} {p1 : Int32} {K : Hp → Prop} {K9 : St → Prop} (hw : z_X10_dropRow N a0_ p1 h0 K9) (hk : ∀ (h9 : Hp) (s9 : St), Wf ad h9 V s9 → K9 s9 →  K h9) (e0 : a0 = ad 10 a0_ 0) (l0 : a0_ < V 10) : w_X10_dropRow N a0 p1 h K := by
  subst e0
  unfold z_X10_dropRow at hw
  unfold w_X10_dropRow
  refine l_cv W rfl l0 rfl ?_
  refine y_X10_hasRow W hw (fun v1_ hw => ?_) rfl l0
  refine l_br hw (fun _ hw => ?_) (fun _ hw => ?_)
  ·
    exact hk _ _ W hw
  ·
    refine l_gA W rfl l0 (c := 2) rfl (Or.inr rfl) ?_
    refine l_sI W (f := 4) rfl l0 rfl hw (fun h3_ W2_ hw => ?_)
    refine l_gI W2_ rfl l0 rfl ?_
    refine l_pI W2_ rfl l0 rfl hw (fun h5_ W4_ hw => ?_)
    exact hk _ _ W4_ hw
def z_X10_printFrom (N : Nat) (a0 : Nat) (p1 : Int64) (h0 : St) (K : Int64 → Prop) : Prop :=
  fx2 (fun (w5 : Int64 → Int32 → Prop) (y1 : Int64) (x2 : Int32) =>
    br ((40 : Int32) ≤ x2) (
      K y1) (
      fx2 (fun (w18 : Int64 → Int32 → Prop) (y5 : Int64) (x6 : Int32) =>
        wI 40 x2 <|
        jn (
          w5 y5 (x2 + 1)) (fun j59 =>
          br ((sP h0 10 a0 4 (x2).toNatClampNeg) = 0) (
            j59 ) (
            br ((sP h0 10 a0 1 0) ≤ x6) (
              j59 ) (
              z_X10_cell N a0 x2 x6 h0 fun v10 =>
              w18 ((31 * y5) + ((v10 : Int32).toInt64)) (x6 + 1))))) N y1 0)) N p1 0
set_option maxHeartbeats 1000000 in
theorem y_X10_printFrom {ad : Nat → Nat → Nat → Nat} {h : Hp} {V : Nat → Nat} {h0 : St} {N : Nat} (W : Wf ad h V h0) {a0 a0_ : Nat} {p1 : Int64} {K : Int64 → Prop} {K9 : Int64 → Prop} (hw : z_X10_printFrom N a0_ p1 h0 K9) (hk : ∀ (r0 : Int64), K9 r0 →  K r0) (e0 : a0 = ad 10 a0_ 0) (l0 : a0_ < V 10) : w_X10_printFrom N a0 p1 h K := by
  subst e0
  unfold z_X10_printFrom at hw
  unfold w_X10_printFrom
  refine l_fx2 (fun (r : Int64 → Int32 → Prop) (r9 : Int64 → Int32 → Prop) => ∀ (x0 : Int64), ∀ (x1 : Int32), r9 x0 x1 → r x0 x1) (fun _ _ h9_ => h9_.elim) ?_ N _ _ hw
  intro w4_ w5_ hv3_ x1_ x2_ hw
  refine l_gA W rfl l0 (c := 2) rfl (Or.inr rfl) ?_
  refine l_aN W (f := 4) (x := 40) rfl l0 (c := 2) rfl (Or.inl rfl) rfl rfl ?_
  refine l_br hw (fun _ hw => ?_) (fun _ hw => ?_)
  ·
    exact hk _ hw
  ·
    refine l_fx2 (fun (r : Int64 → Int32 → Prop) (r9 : Int64 → Int32 → Prop) => ∀ (x0 : Int64), ∀ (x1 : Int32), r9 x0 x1 → r x0 x1) (fun _ _ h9_ => h9_.elim) ?_ N _ _ hw
    intro w9_ w10_ hv8_ x6_ x7_ hw
    refine l_gA W rfl l0 (c := 2) rfl (Or.inr rfl) ?_
    refine l_aI W (f := 4) rfl l0 rfl hw (fun hw => ?_)
    refine l_jn (fun (r : Prop) (r9 : Prop) =>  r9  → r ) hw ?_ (fun j11_ j12_ hj13_ hw => ?_)
    ·
      intro hw
      exact hv3_ _ _ hw
    ·
      refine l_br hw (fun _ hw => ?_) (fun _ hw => ?_)
      ·
        exact hj13_  hw
      ·
        refine l_gI W rfl l0 rfl ?_
        refine l_br hw (fun _ hw => ?_) (fun _ hw => ?_)
        ·
          exact hj13_  hw
        ·
          refine l_cv W rfl l0 rfl ?_
          refine y_X10_cell W hw (fun v14_ hw => ?_) rfl l0
          exact hv8_ _ _ hw
def z_X10_pageCount (N : Nat) (a0 : Nat) (h0 : St) (K : Int32 → Prop) : Prop :=
  K ((((sP h0 10 a0 2 0) + 4) - 1) / 4)
set_option maxHeartbeats 1000000 in
theorem y_X10_pageCount {ad : Nat → Nat → Nat → Nat} {h : Hp} {V : Nat → Nat} {h0 : St} {N : Nat} (W : Wf ad h V h0) {a0 a0_ : Nat} {K : Int32 → Prop} {K9 : Int32 → Prop} (hw : z_X10_pageCount N a0_ h0 K9) (hk : ∀ (r0 : Int32), K9 r0 →  K r0) (e0 : a0 = ad 10 a0_ 0) (l0 : a0_ < V 10) : w_X10_pageCount N a0 h K := by
  subst e0
  unfold z_X10_pageCount at hw
  unfold w_X10_pageCount
  refine l_gI W rfl l0 rfl ?_
  exact hk _ hw
def z_X10_setBounds (N : Nat) (a0 : Nat) (p1 : Int32) (p2 : Int32) (p3 : Int32) (h0 : St) (K : St → Prop) : Prop :=
  z_X10_hasColumn N a0 p1 h0 fun v1 =>
  br (v1 = 0) (
    K h0) (
    wA 3 p1 (stP h0 10 a0 6 (p1).toNatClampNeg p2) fun h3 =>
    wA 3 p1 (stP h3 10 a0 7 (p1).toNatClampNeg p3) fun h5 =>
    K h5)
set_option maxHeartbeats 1000000 in
theorem y_X10_setBounds {ad : Nat → Nat → Nat → Nat} {h : Hp} {V : Nat → Nat} {h0 : St} {N : Nat} (W : Wf ad h V h0) {a0 a0_ : Nat} {p1 : Int32} {p2 : Int32} {p3 : Int32} {K : Hp → Prop} {K9 : St → Prop} (hw : z_X10_setBounds N a0_ p1 p2 p3 h0 K9) (hk : ∀ (h9 : Hp) (s9 : St), Wf ad h9 V s9 → K9 s9 →  K h9) (e0 : a0 = ad 10 a0_ 0) (l0 : a0_ < V 10) : w_X10_setBounds N a0 p1 p2 p3 h K := by
  subst e0
  unfold z_X10_setBounds at hw
  unfold w_X10_setBounds
  refine l_cv W rfl l0 rfl ?_
  refine y_X10_hasColumn W hw (fun v1_ hw => ?_) rfl l0
  refine l_br hw (fun _ hw => ?_) (fun _ hw => ?_)
  ·
    exact hk _ _ W hw
  ·
    refine l_gA W rfl l0 (c := 2) rfl (Or.inr rfl) ?_
    refine l_sI W (f := 6) rfl l0 rfl hw (fun h3_ W2_ hw => ?_)
    refine l_gA W2_ rfl l0 (c := 2) rfl (Or.inr rfl) ?_
    refine l_sI W2_ (f := 7) rfl l0 rfl hw (fun h5_ W4_ hw => ?_)
    exact hk _ _ W4_ hw
def z_X10_isWithin (N : Nat) (a0 : Nat) (p1 : Int32) (p2 : Int32) (h0 : St) (K : Int32 → Prop) : Prop :=
  z_X10_hasColumn N a0 p1 h0 fun v1 =>
  br (v1 = 0) (
    K 1) (
    wI 3 p1 <|
    br (p2 < (sP h0 10 a0 6 (p1).toNatClampNeg)) (
      K 0) (
      wI 3 p1 <|
      br ((sP h0 10 a0 7 (p1).toNatClampNeg) < p2) (
        K 0) (
        K 1)))
set_option maxHeartbeats 1000000 in
theorem y_X10_isWithin {ad : Nat → Nat → Nat → Nat} {h : Hp} {V : Nat → Nat} {h0 : St} {N : Nat} (W : Wf ad h V h0) {a0 a0_ : Nat} {p1 : Int32} {p2 : Int32} {K : Int32 → Prop} {K9 : Int32 → Prop} (hw : z_X10_isWithin N a0_ p1 p2 h0 K9) (hk : ∀ (r0 : Int32), K9 r0 →  K r0) (e0 : a0 = ad 10 a0_ 0) (l0 : a0_ < V 10) : w_X10_isWithin N a0 p1 p2 h K := by
  subst e0
  unfold z_X10_isWithin at hw
  unfold w_X10_isWithin
  refine l_cv W rfl l0 rfl ?_
  refine y_X10_hasColumn W hw (fun v1_ hw => ?_) rfl l0
  refine l_br hw (fun _ hw => ?_) (fun _ hw => ?_)
  ·
    exact hk _ hw
  ·
    refine l_gA W rfl l0 (c := 2) rfl (Or.inr rfl) ?_
    refine l_aI W (f := 6) rfl l0 rfl hw (fun hw => ?_)
    refine l_br hw (fun _ hw => ?_) (fun _ hw => ?_)
    ·
      exact hk _ hw
    ·
      refine l_gA W rfl l0 (c := 2) rfl (Or.inr rfl) ?_
      refine l_aI W (f := 7) rfl l0 rfl hw (fun hw => ?_)
      refine l_br hw (fun _ hw => ?_) (fun _ hw => ?_)
      ·
        exact hk _ hw
      ·
        exact hk _ hw
def z_X10_admits (N : Nat) (a0 : Nat) (p1 : Int32) (p2 : Int32) (p3 : Int32) (h0 : St) (K : Int32 → Prop) : Prop :=
  z_X10_isWithin N a0 0 p1 h0 fun v1 =>
  br (v1 = 0) (
    K 0) (
    z_X10_isWithin N a0 1 p2 h0 fun v2 =>
    br (v2 = 0) (
      K 0) (
      z_X10_isWithin N a0 2 p3 h0 fun v3 =>
      br (v3 = 0) (
        K 0) (
        K 1)))
set_option maxHeartbeats 1000000 in
theorem y_X10_admits {ad : Nat → Nat → Nat → Nat} {h : Hp} {V : Nat → Nat} {h0 : St} {N : Nat} (W : Wf ad h V h0) {a0 a0_ : Nat} {p1 : Int32} {p2 : Int32} {p3 : Int32} {K : Int32 → Prop} {K9 : Int32 → Prop} (hw : z_X10_admits N a0_ p1 p2 p3 h0 K9) (hk : ∀ (r0 : Int32), K9 r0 →  K r0) (e0 : a0 = ad 10 a0_ 0) (l0 : a0_ < V 10) : w_X10_admits N a0 p1 p2 p3 h K := by
  subst e0
  unfold z_X10_admits at hw
  unfold w_X10_admits
  refine l_cv W rfl l0 rfl ?_
  refine y_X10_isWithin W hw (fun v1_ hw => ?_) rfl l0
  refine l_br hw (fun _ hw => ?_) (fun _ hw => ?_)
  ·
    exact hk _ hw
  ·
    refine l_cv W rfl l0 rfl ?_
    refine y_X10_isWithin W hw (fun v2_ hw => ?_) rfl l0
    refine l_br hw (fun _ hw => ?_) (fun _ hw => ?_)
    ·
      exact hk _ hw
    ·
      refine l_cv W rfl l0 rfl ?_
      refine y_X10_isWithin W hw (fun v3_ hw => ?_) rfl l0
      refine l_br hw (fun _ hw => ?_) (fun _ hw => ?_)
      ·
        exact hk _ hw
      ·
        exact hk _ hw
def z_X10_rowsBeyondBounds (N : Nat) (a0 : Nat) (p1 : Int32) (h0 : St) (K : Int32 → Prop) : Prop :=
  fx2 (fun (w4 : Int32 → Int32 → Prop) (x1 : Int32) (x2 : Int32) =>
    br ((40 : Int32) ≤ x2) (
      K x1) (
      wI 40 x2 <|
      jn (fun (x7 : Int32) =>
        w4 x7 (x2 + 1)) (fun j39 =>
        br ((sP h0 10 a0 4 (x2).toNatClampNeg) = 0) (
          j39 x1) (
          z_X10_cell N a0 x2 p1 h0 fun v8 =>
          z_X10_isWithin N a0 p1 v8 h0 fun v9 =>
          br (v9 = 0) (
            j39 (x1 + 1)) (
            j39 x1))))) N 0 0
set_option maxHeartbeats 1000000 in
theorem y_X10_rowsBeyondBounds {ad : Nat → Nat → Nat → Nat} {h : Hp} {V : Nat → Nat} {h0 : St} {N : Nat} (W : Wf ad h V h0) {a0 a0_ : Nat} {p1 : Int32} {K : Int32 → Prop} {K9 : Int32 → Prop} (hw : z_X10_rowsBeyondBounds N a0_ p1 h0 K9) (hk : ∀ (r0 : Int32), K9 r0 →  K r0) (e0 : a0 = ad 10 a0_ 0) (l0 : a0_ < V 10) : w_X10_rowsBeyondBounds N a0 p1 h K := by
  subst e0
  unfold z_X10_rowsBeyondBounds at hw
  unfold w_X10_rowsBeyondBounds
  refine l_fx2 (fun (r : Int32 → Int32 → Prop) (r9 : Int32 → Int32 → Prop) => ∀ (x0 : Int32), ∀ (x1 : Int32), r9 x0 x1 → r x0 x1) (fun _ _ h9_ => h9_.elim) ?_ N _ _ hw
  intro w4_ w5_ hv3_ x1_ x2_ hw
  refine l_gA W rfl l0 (c := 2) rfl (Or.inr rfl) ?_
  refine l_aN W (f := 4) (x := 40) rfl l0 (c := 2) rfl (Or.inl rfl) rfl rfl ?_
  refine l_br hw (fun _ hw => ?_) (fun _ hw => ?_)
  ·
    exact hk _ hw
  ·
    refine l_gA W rfl l0 (c := 2) rfl (Or.inr rfl) ?_
    refine l_aI W (f := 4) rfl l0 rfl hw (fun hw => ?_)
    refine l_jn (fun (r : Int32 → Prop) (r9 : Int32 → Prop) => ∀ (x0 : Int32), r9 x0 → r x0) hw ?_ (fun j7_ j8_ hj9_ hw => ?_)
    ·
      intro x6_ hw
      exact hv3_ _ _ hw
    ·
      refine l_br hw (fun _ hw => ?_) (fun _ hw => ?_)
      ·
        exact hj9_ _ hw
      ·
        refine l_cv W rfl l0 rfl ?_
        refine y_X10_cell W hw (fun v10_ hw => ?_) rfl l0
        refine l_cv W rfl l0 rfl ?_
        refine y_X10_isWithin W hw (fun v11_ hw => ?_) rfl l0
        refine l_br hw (fun _ hw => ?_) (fun _ hw => ?_)
        ·
          exact hj9_ _ hw
        ·
          exact hj9_ _ hw
def z_X10_isFirstWith (N : Nat) (a0 : Nat) (p1 : Int32) (p2 : Int32) (p3 : Int32) (h0 : St) (K : Int32 → Prop) : Prop :=
  fx1 (fun (w3 : Int32 → Prop) (x1 : Int32) =>
    br (p1 ≤ x1) (
      K 1) (
      z_X10_hasRow N a0 x1 h0 fun v2 =>
      jn (
        w3 (x1 + 1)) (fun j31 =>
        br (v2 = 0) (
          j31 ) (
          z_X10_cell N a0 x1 p2 h0 fun v3 =>
          br (v3 = p3) (
            K 0) (
            j31 ))))) N 0
set_option maxHeartbeats 1000000 in
theorem y_X10_isFirstWith {ad : Nat → Nat → Nat → Nat} {h : Hp} {V : Nat → Nat} {h0 : St} {N : Nat} (W : Wf ad h V h0) {a0 a0_ : Nat} {p1 : Int32} {p2 : Int32} {p3 : Int32} {K : Int32 → Prop} {K9 : Int32 → Prop} (hw : z_X10_isFirstWith N a0_ p1 p2 p3 h0 K9) (hk : ∀ (r0 : Int32), K9 r0 →  K r0) (e0 : a0 = ad 10 a0_ 0) (l0 : a0_ < V 10) : w_X10_isFirstWith N a0 p1 p2 p3 h K := by
  subst e0
  unfold z_X10_isFirstWith at hw
  unfold w_X10_isFirstWith
  refine l_fx1 (fun (r : Int32 → Prop) (r9 : Int32 → Prop) => ∀ (x0 : Int32), r9 x0 → r x0) (fun _ h9_ => h9_.elim) ?_ N _ hw
  intro w3_ w4_ hv2_ x1_ hw
  refine l_br hw (fun _ hw => ?_) (fun _ hw => ?_)
  ·
    exact hk _ hw
  ·
    refine l_cv W rfl l0 rfl ?_
    refine y_X10_hasRow W hw (fun v5_ hw => ?_) rfl l0
    refine l_jn (fun (r : Prop) (r9 : Prop) =>  r9  → r ) hw ?_ (fun j6_ j7_ hj8_ hw => ?_)
    ·
      intro hw
      exact hv2_ _ hw
    ·
      refine l_br hw (fun _ hw => ?_) (fun _ hw => ?_)
      ·
        exact hj8_  hw
      ·
        refine l_cv W rfl l0 rfl ?_
        refine y_X10_cell W hw (fun v9_ hw => ?_) rfl l0
        refine l_br hw (fun _ hw => ?_) (fun _ hw => ?_)
        ·
          exact hk _ hw
        ·
          exact hj8_  hw
def z_X10_takeColumn (N : Nat) (a0 : Nat) (p1 : Int32) (h0 : St) (K : St → Prop) : Prop :=
  fx4 (fun (w11 : Int32 → Int32 → Int32 → Int32 → Prop) (x1 : Int32) (x2 : Int32) (x3 : Int32) (x4 : Int32) =>
    br ((40 : Int32) ≤ x4) (
      br (p1 < 0) (
        K h0) (
        br (3 ≤ p1) (
          K h0) (
          wA 3 p1 (stP h0 10 a0 10 (p1).toNatClampNeg x1) fun h8 =>
          jn (fun (v11 : Int32) =>
            wA 3 p1 (stP h8 10 a0 11 (p1).toNatClampNeg v11) fun h12 =>
            wA 3 p1 (stP h12 10 a0 12 (p1).toNatClampNeg x3) fun h14 =>
            K h14) (fun j115 =>
            br ((sP h8 10 a0 3 0) = 0) (
              j115 0) (
              j115 x2))))) (
      wI 40 x4 <|
      jn (fun (x17 : Int32) (x18 : Int32) (x19 : Int32) =>
        w11 x17 x18 x19 (x4 + 1)) (fun j76 =>
        br ((sP h0 10 a0 4 (x4).toNatClampNeg) = 0) (
          j76 x1 x2 x3) (
          z_X10_cell N a0 x4 p1 h0 fun v20 =>
          z_X10_isFirstWith N a0 x4 p1 v20 h0 fun v21 =>
          jn (fun (v22 : Int32) =>
            j76 (x1 + v22) (if v20 < x2 then v20 else x2) (if x3 < v20 then v20 else x3)) (fun j74 =>
            br (v21 = 0) (
              j74 0) (
              j74 1)))))) N 0 99 0 0
set_option maxHeartbeats 1000000 in
theorem y_X10_takeColumn {ad : Nat → Nat → Nat → Nat} {h : Hp} {V : Nat → Nat} {h0 : St} {N : Nat} (W : Wf ad h V h0) {a0 a0_ : Nat} {p1 : Int32} {K : Hp → Prop} {K9 : St → Prop} (hw : z_X10_takeColumn N a0_ p1 h0 K9) (hk : ∀ (h9 : Hp) (s9 : St), Wf ad h9 V s9 → K9 s9 →  K h9) (e0 : a0 = ad 10 a0_ 0) (l0 : a0_ < V 10) : w_X10_takeColumn N a0 p1 h K := by
  subst e0
  unfold z_X10_takeColumn at hw
  unfold w_X10_takeColumn
  refine l_fx4 (fun (r : Int32 → Int32 → Int32 → Int32 → Prop) (r9 : Int32 → Int32 → Int32 → Int32 → Prop) => ∀ (x0 : Int32), ∀ (x1 : Int32), ∀ (x2 : Int32), ∀ (x3 : Int32), r9 x0 x1 x2 x3 → r x0 x1 x2 x3) (fun _ _ _ _ h9_ => h9_.elim) ?_ N _ _ _ _ hw
  intro w6_ w7_ hv5_ x1_ x2_ x3_ x4_ hw
  refine l_gA W rfl l0 (c := 2) rfl (Or.inr rfl) ?_
  refine l_aN W (f := 4) (x := 40) rfl l0 (c := 2) rfl (Or.inl rfl) rfl rfl ?_
  refine l_br hw (fun _ hw => ?_) (fun _ hw => ?_)
  ·
    refine l_br hw (fun _ hw => ?_) (fun _ hw => ?_)
    ·
      exact hk _ _ W hw
    ·
      refine l_br hw (fun _ hw => ?_) (fun _ hw => ?_)
      ·
        exact hk _ _ W hw
      ·
        refine l_gA W rfl l0 (c := 2) rfl (Or.inr rfl) ?_
        refine l_sI W (f := 10) rfl l0 rfl hw (fun h9_ W8_ hw => ?_)
        refine l_gA W8_ rfl l0 (c := 2) rfl (Or.inr rfl) ?_
        refine l_gI W8_ rfl l0 rfl ?_
        refine l_jn (fun (r : Int32 → Prop) (r9 : Int32 → Prop) => ∀ (x0 : Int32), r9 x0 → r x0) hw ?_ (fun j11_ j12_ hj13_ hw => ?_)
        ·
          intro x10_ hw
          refine l_sI W8_ (f := 11) rfl l0 rfl hw (fun h15_ W14_ hw => ?_)
          refine l_gA W14_ rfl l0 (c := 2) rfl (Or.inr rfl) ?_
          refine l_sI W14_ (f := 12) rfl l0 rfl hw (fun h17_ W16_ hw => ?_)
          exact hk _ _ W16_ hw
        ·
          refine l_br hw (fun _ hw => ?_) (fun _ hw => ?_)
          ·
            exact hj13_ _ hw
          ·
            exact hj13_ _ hw
  ·
    refine l_gA W rfl l0 (c := 2) rfl (Or.inr rfl) ?_
    refine l_aI W (f := 4) rfl l0 rfl hw (fun hw => ?_)
    refine l_jn (fun (r : Int32 → Int32 → Int32 → Prop) (r9 : Int32 → Int32 → Int32 → Prop) => ∀ (x0 : Int32), ∀ (x1 : Int32), ∀ (x2 : Int32), r9 x0 x1 x2 → r x0 x1 x2) hw ?_ (fun j21_ j22_ hj23_ hw => ?_)
    ·
      intro x18_ x19_ x20_ hw
      exact hv5_ _ _ _ _ hw
    ·
      refine l_br hw (fun _ hw => ?_) (fun _ hw => ?_)
      ·
        exact hj23_ _ _ _ hw
      ·
        refine l_cv W rfl l0 rfl ?_
        refine y_X10_cell W hw (fun v24_ hw => ?_) rfl l0
        refine l_cv W rfl l0 rfl ?_
        refine y_X10_isFirstWith W hw (fun v25_ hw => ?_) rfl l0
        refine l_jn (fun (r : Int32 → Prop) (r9 : Int32 → Prop) => ∀ (x0 : Int32), r9 x0 → r x0) hw ?_ (fun j27_ j28_ hj29_ hw => ?_)
        ·
          intro x26_ hw
          exact hj23_ _ _ _ hw
        ·
          refine l_br hw (fun _ hw => ?_) (fun _ hw => ?_)
          ·
            exact hj29_ _ hw
          ·
            exact hj29_ _ hw
def z_X10_takeCounts (N : Nat) (a0 : Nat) (h0 : St) (K : St → Prop) : Prop :=
  lt_ (stP h0 10 a0 8 0 (sP h0 10 a0 3 0)) fun h2 =>
  z_X10_pageCount N a0 h2 fun v3 =>
  lt_ (stP h2 10 a0 9 0 v3) fun h4 =>
  fx2 (fun (w18 : Int32 → St → Prop) (x6 : Int32) (h5 : St) =>
    br ((sP h5 10 a0 1 0) ≤ x6) (
      K h5) (
      z_X10_takeColumn N a0 x6 h5 fun h8 =>
      w18 (x6 + 1) h8)) N 0 h4
set_option maxHeartbeats 1000000 in
theorem y_X10_takeCounts {ad : Nat → Nat → Nat → Nat} {h : Hp} {V : Nat → Nat} {h0 : St} {N : Nat} (W : Wf ad h V h0) {a0 a0_ : Nat} {K : Hp → Prop} {K9 : St → Prop} (hw : z_X10_takeCounts N a0_ h0 K9) (hk : ∀ (h9 : Hp) (s9 : St), Wf ad h9 V s9 → K9 s9 →  K h9) (e0 : a0 = ad 10 a0_ 0) (l0 : a0_ < V 10) : w_X10_takeCounts N a0 h K := by
  subst e0
  unfold z_X10_takeCounts at hw
  unfold w_X10_takeCounts
  refine l_gI W rfl l0 rfl ?_
  refine l_pI W rfl l0 rfl hw (fun h2_ W1_ hw => ?_)
  refine l_cv W1_ rfl l0 rfl ?_
  refine y_X10_pageCount W1_ hw (fun v3_ hw => ?_) rfl l0
  refine l_pI W1_ rfl l0 rfl hw (fun h5_ W4_ hw => ?_)
  refine l_fx2 (fun (r : Int32 → Hp → Prop) (r9 : Int32 → St → Prop) => ∀ (x0 : Int32), ∀ (h9 : Hp) (s9 : St), Wf ad h9 V s9 → r9 x0 s9 → r x0 h9) (fun _ _ _ _ h9_ => h9_.elim) ?_ N _ _ _ W4_ hw
  intro w11_ w12_ hv10_ x6_ h8_ s9_ W7_ hw
  refine l_gI W7_ rfl l0 rfl ?_
  refine l_br hw (fun _ hw => ?_) (fun _ hw => ?_)
  ·
    exact hk _ _ W7_ hw
  ·
    refine l_cv W7_ rfl l0 rfl ?_
    refine y_X10_takeColumn W7_ hw (fun h14_ s15_ W13_ hw => ?_) rfl l0
    exact hv10_ _ _ _ W13_ hw
def z_X10_takenCount (N : Nat) (a0 : Nat) (p1 : Int32) (p2 : Int32) (h0 : St) (K : Int32 → Prop) : Prop :=
  z_X10_hasColumn N a0 p1 h0 fun v1 =>
  br (v1 = 0) (
    K (-1)) (
    br (p2 = 114) (
      K (sP h0 10 a0 8 0)) (
      br (p2 = 112) (
        K (sP h0 10 a0 9 0)) (
        br (p2 = 117) (
          wI 3 p1 <|
          K (sP h0 10 a0 10 (p1).toNatClampNeg)) (
          br (p2 = 108) (
            wI 3 p1 <|
            K (sP h0 10 a0 11 (p1).toNatClampNeg)) (
            br (p2 = 103) (
              wI 3 p1 <|
              K (sP h0 10 a0 12 (p1).toNatClampNeg)) (
              K (-1)))))))
set_option maxHeartbeats 1000000 in
theorem y_X10_takenCount {ad : Nat → Nat → Nat → Nat} {h : Hp} {V : Nat → Nat} {h0 : St} {N : Nat} (W : Wf ad h V h0) {a0 a0_ : Nat} {p1 : Int32} {p2 : Int32} {K : Int32 → Prop} {K9 : Int32 → Prop} (hw : z_X10_takenCount N a0_ p1 p2 h0 K9) (hk : ∀ (r0 : Int32), K9 r0 →  K r0) (e0 : a0 = ad 10 a0_ 0) (l0 : a0_ < V 10) : w_X10_takenCount N a0 p1 p2 h K := by
  subst e0
  unfold z_X10_takenCount at hw
  unfold w_X10_takenCount
  refine l_cv W rfl l0 rfl ?_
  refine y_X10_hasColumn W hw (fun v1_ hw => ?_) rfl l0
  refine l_br hw (fun _ hw => ?_) (fun _ hw => ?_)
  ·
    exact hk _ hw
  ·
    refine l_br hw (fun _ hw => ?_) (fun _ hw => ?_)
    ·
      refine l_gI W rfl l0 rfl ?_
      exact hk _ hw
    ·
      refine l_br hw (fun _ hw => ?_) (fun _ hw => ?_)
      ·
        refine l_gI W rfl l0 rfl ?_
        exact hk _ hw
      ·
        refine l_br hw (fun _ hw => ?_) (fun _ hw => ?_)
        ·
          refine l_gA W rfl l0 (c := 2) rfl (Or.inr rfl) ?_
          refine l_aI W (f := 10) rfl l0 rfl hw (fun hw => ?_)
          exact hk _ hw
        ·
          refine l_br hw (fun _ hw => ?_) (fun _ hw => ?_)
          ·
            refine l_gA W rfl l0 (c := 2) rfl (Or.inr rfl) ?_
            refine l_aI W (f := 11) rfl l0 rfl hw (fun hw => ?_)
            exact hk _ hw
          ·
            refine l_br hw (fun _ hw => ?_) (fun _ hw => ?_)
            ·
              refine l_gA W rfl l0 (c := 2) rfl (Or.inr rfl) ?_
              refine l_aI W (f := 12) rfl l0 rfl hw (fun hw => ?_)
              exact hk _ hw
            ·
              exact hk _ hw
def z_X11_isValue (N : Nat) (p0 : Int32) (h0 : St) (K : Int32 → Prop) : Prop :=
  br (p0 < 0) (
    K 0) (
    br (99 < p0) (
      K 0) (
      K 1))
set_option maxHeartbeats 1000000 in
theorem y_X11_isValue {ad : Nat → Nat → Nat → Nat} {h : Hp} {V : Nat → Nat} {h0 : St} {N : Nat} (W : Wf ad h V h0) {p0 : Int32} {K : Int32 → Prop} {K9 : Int32 → Prop} (hw : z_X11_isValue N p0 h0 K9) (hk : ∀ (r0 : Int32), K9 r0 →  K r0)  : w_X11_isValue N p0 h K := by
  unfold z_X11_isValue at hw
  unfold w_X11_isValue
  refine l_br hw (fun _ hw => ?_) (fun _ hw => ?_)
  ·
    exact hk _ hw
  ·
    refine l_br hw (fun _ hw => ?_) (fun _ hw => ?_)
    ·
      exact hk _ hw
    ·
      exact hk _ hw
def z_X11_checkDuellist (N : Nat) (p0 : Int32) (h0 : St) (K : St → Prop) (KX : String → St → Prop) : Prop :=
  br (p0 < 0) (
    KX "java/lang/IllegalArgumentException" h0) (
    br (p0 < 2) (
      K h0) (
      KX "java/lang/IllegalArgumentException" h0))
set_option maxHeartbeats 1000000 in
theorem y_X11_checkDuellist {ad : Nat → Nat → Nat → Nat} {h : Hp} {V : Nat → Nat} {h0 : St} {N : Nat} (W : Wf ad h V h0) {p0 : Int32} {K : Hp → Prop} {K9 : St → Prop} {KX : String → Hp → Prop} {KX9 : String → St → Prop} (hw : z_X11_checkDuellist N p0 h0 K9 KX9) (hk : ∀ (h9 : Hp) (s9 : St), Wf ad h9 V s9 → K9 s9 →  K h9) (hkx : ∀ (E : String) (h9 : Hp) (s9 : St), Wf ad h9 V s9 → KX9 E s9 → KX E h9)  : w_X11_checkDuellist N p0 h K KX := by
  unfold z_X11_checkDuellist at hw
  unfold w_X11_checkDuellist
  refine l_br hw (fun _ hw => ?_) (fun _ hw => ?_)
  ·
    exact hkx _ _ _ W hw
  ·
    refine l_br hw (fun _ hw => ?_) (fun _ hw => ?_)
    ·
      exact hk _ _ W hw
    ·
      exact hkx _ _ _ W hw
def z_J6_bitCount_0f7a4 (N : Nat) (p0 : Int32) (h0 : St) (K : Int32 → Prop) : Prop :=
  K ((((((((p0 - (((p0 : Int32).toUInt32 >>> ((1 : Int32).toUInt32 &&& Int32.toUInt32 31)).toInt32 &&& 1431655765)) &&& 858993459) + ((((p0 - (((p0 : Int32).toUInt32 >>> ((1 : Int32).toUInt32 &&& Int32.toUInt32 31)).toInt32 &&& 1431655765)) : Int32).toUInt32 >>> ((2 : Int32).toUInt32 &&& Int32.toUInt32 31)).toInt32 &&& 858993459)) + (((((p0 - (((p0 : Int32).toUInt32 >>> ((1 : Int32).toUInt32 &&& Int32.toUInt32 31)).toInt32 &&& 1431655765)) &&& 858993459) + ((((p0 - (((p0 : Int32).toUInt32 >>> ((1 : Int32).toUInt32 &&& Int32.toUInt32 31)).toInt32 &&& 1431655765)) : Int32).toUInt32 >>> ((2 : Int32).toUInt32 &&& Int32.toUInt32 31)).toInt32 &&& 858993459)) : Int32).toUInt32 >>> ((4 : Int32).toUInt32 &&& Int32.toUInt32 31)).toInt32) &&& 252645135) + (((((((p0 - (((p0 : Int32).toUInt32 >>> ((1 : Int32).toUInt32 &&& Int32.toUInt32 31)).toInt32 &&& 1431655765)) &&& 858993459) + ((((p0 - (((p0 : Int32).toUInt32 >>> ((1 : Int32).toUInt32 &&& Int32.toUInt32 31)).toInt32 &&& 1431655765)) : Int32).toUInt32 >>> ((2 : Int32).toUInt32 &&& Int32.toUInt32 31)).toInt32 &&& 858993459)) + (((((p0 - (((p0 : Int32).toUInt32 >>> ((1 : Int32).toUInt32 &&& Int32.toUInt32 31)).toInt32 &&& 1431655765)) &&& 858993459) + ((((p0 - (((p0 : Int32).toUInt32 >>> ((1 : Int32).toUInt32 &&& Int32.toUInt32 31)).toInt32 &&& 1431655765)) : Int32).toUInt32 >>> ((2 : Int32).toUInt32 &&& Int32.toUInt32 31)).toInt32 &&& 858993459)) : Int32).toUInt32 >>> ((4 : Int32).toUInt32 &&& Int32.toUInt32 31)).toInt32) &&& 252645135) : Int32).toUInt32 >>> ((8 : Int32).toUInt32 &&& Int32.toUInt32 31)).toInt32) + ((((((((p0 - (((p0 : Int32).toUInt32 >>> ((1 : Int32).toUInt32 &&& Int32.toUInt32 31)).toInt32 &&& 1431655765)) &&& 858993459) + ((((p0 - (((p0 : Int32).toUInt32 >>> ((1 : Int32).toUInt32 &&& Int32.toUInt32 31)).toInt32 &&& 1431655765)) : Int32).toUInt32 >>> ((2 : Int32).toUInt32 &&& Int32.toUInt32 31)).toInt32 &&& 858993459)) + (((((p0 - (((p0 : Int32).toUInt32 >>> ((1 : Int32).toUInt32 &&& Int32.toUInt32 31)).toInt32 &&& 1431655765)) &&& 858993459) + ((((p0 - (((p0 : Int32).toUInt32 >>> ((1 : Int32).toUInt32 &&& Int32.toUInt32 31)).toInt32 &&& 1431655765)) : Int32).toUInt32 >>> ((2 : Int32).toUInt32 &&& Int32.toUInt32 31)).toInt32 &&& 858993459)) : Int32).toUInt32 >>> ((4 : Int32).toUInt32 &&& Int32.toUInt32 31)).toInt32) &&& 252645135) + (((((((p0 - (((p0 : Int32).toUInt32 >>> ((1 : Int32).toUInt32 &&& Int32.toUInt32 31)).toInt32 &&& 1431655765)) &&& 858993459) + ((((p0 - (((p0 : Int32).toUInt32 >>> ((1 : Int32).toUInt32 &&& Int32.toUInt32 31)).toInt32 &&& 1431655765)) : Int32).toUInt32 >>> ((2 : Int32).toUInt32 &&& Int32.toUInt32 31)).toInt32 &&& 858993459)) + (((((p0 - (((p0 : Int32).toUInt32 >>> ((1 : Int32).toUInt32 &&& Int32.toUInt32 31)).toInt32 &&& 1431655765)) &&& 858993459) + ((((p0 - (((p0 : Int32).toUInt32 >>> ((1 : Int32).toUInt32 &&& Int32.toUInt32 31)).toInt32 &&& 1431655765)) : Int32).toUInt32 >>> ((2 : Int32).toUInt32 &&& Int32.toUInt32 31)).toInt32 &&& 858993459)) : Int32).toUInt32 >>> ((4 : Int32).toUInt32 &&& Int32.toUInt32 31)).toInt32) &&& 252645135) : Int32).toUInt32 >>> ((8 : Int32).toUInt32 &&& Int32.toUInt32 31)).toInt32) : Int32).toUInt32 >>> ((16 : Int32).toUInt32 &&& Int32.toUInt32 31)).toInt32) &&& 63)
set_option maxHeartbeats 1000000 in
theorem y_J6_bitCount_0f7a4 {ad : Nat → Nat → Nat → Nat} {h : Hp} {V : Nat → Nat} {h0 : St} {N : Nat} (W : Wf ad h V h0) {p0 : Int32} {K : Int32 → Prop} {K9 : Int32 → Prop} (hw : z_J6_bitCount_0f7a4 N p0 h0 K9) (hk : ∀ (r0 : Int32), K9 r0 →  K r0)  : w_J6_bitCount_0f7a4 N p0 h K := by
  unfold z_J6_bitCount_0f7a4 at hw
  unfold w_J6_bitCount_0f7a4
  exact hk _ hw
end Z0
