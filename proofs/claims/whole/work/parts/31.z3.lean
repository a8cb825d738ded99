/-! LEVEL 2, programs over registers (generated). -/
section Z3
def z_X12_thrown (N : Nat) (a0 : Nat) (h0 : St) (K : Int32 → Prop) : Prop :=
  K (sP h0 12 a0 0 0)
set_option maxHeartbeats 1000000 in
theorem y_X12_thrown {ad : Nat → Nat → Nat → Nat} {h : Hp} {V : Nat → Nat} {h0 : St} {N : Nat} (W : Wf ad h V h0) {a0 a0_ : Nat} {K : Int32 → Prop} {K9 : Int32 → Prop} (hw : z_X12_thrown N a0_ h0 K9) (hk : ∀ (r0 : Int32), K9 r0 →  K r0) (e0 : a0 = ad 12 a0_ 0) (l0 : a0_ < V 12) : w_X12_thrown N a0 h K := by
  subst e0
  unfold z_X12_thrown at hw
  unfold w_X12_thrown
  refine l_gI W rfl l0 rfl ?_
  exact hk _ hw
def z_X12_in (N : Nat) (p0 : Int32) (p1 : Int32) (p2 : Int32) (h0 : St) (K : Int32 → Prop) : Prop :=
  br (p0 < p1) (
    K 0) (
    br (p2 < p0) (
      K 0) (
      K 1))
set_option maxHeartbeats 1000000 in
theorem y_X12_in {ad : Nat → Nat → Nat → Nat} {h : Hp} {V : Nat → Nat} {h0 : St} {N : Nat} (W : Wf ad h V h0) {p0 : Int32} {p1 : Int32} {p2 : Int32} {K : Int32 → Prop} {K9 : Int32 → Prop} (hw : z_X12_in N p0 p1 p2 h0 K9) (hk : ∀ (r0 : Int32), K9 r0 →  K r0)  : w_X12_in N p0 p1 p2 h K := by
  unfold z_X12_in at hw
  unfold w_X12_in
  refine l_br hw (fun _ hw => ?_) (fun _ hw => ?_)
  ·
    exact hk _ hw
  ·
    refine l_br hw (fun _ hw => ?_) (fun _ hw => ?_)
    ·
      exact hk _ hw
    ·
      exact hk _ hw
def z_X12_most (N : Nat) (p0 : Int32) (p1 : Int32) (h0 : St) (K : Int32 → Prop) : Prop :=
  br (p0 ≤ p1) (
    K p1) (
    K p0)
set_option maxHeartbeats 1000000 in
theorem y_X12_most {ad : Nat → Nat → Nat → Nat} {h : Hp} {V : Nat → Nat} {h0 : St} {N : Nat} (W : Wf ad h V h0) {p0 : Int32} {p1 : Int32} {K : Int32 → Prop} {K9 : Int32 → Prop} (hw : z_X12_most N p0 p1 h0 K9) (hk : ∀ (r0 : Int32), K9 r0 →  K r0)  : w_X12_most N p0 p1 h K := by
  unfold z_X12_most at hw
  unfold w_X12_most
  refine l_br hw (fun _ hw => ?_) (fun _ hw => ?_)
  ·
    exact hk _ hw
  ·
    exact hk _ hw
def z_X12_fewest (N : Nat) (p0 : Int32) (p1 : Int32) (h0 : St) (K : Int32 → Prop) : Prop :=
  br (p1 ≤ p0) (
    K p1) (
    K p0)
set_option maxHeartbeats 1000000 in
theorem y_X12_fewest {ad : Nat → Nat → Nat → Nat} {h : Hp} {V : Nat → Nat} {h0 : St} {N : Nat} (W : Wf ad h V h0) {p0 : Int32} {p1 : Int32} {K : Int32 → Prop} {K9 : Int32 → Prop} (hw : z_X12_fewest N p0 p1 h0 K9) (hk : ∀ (r0 : Int32), K9 r0 →  K r0)  : w_X12_fewest N p0 p1 h K := by
  unfold z_X12_fewest at hw
  unfold w_X12_fewest
  refine l_br hw (fun _ hw => ?_) (fun _ hw => ?_)
  ·
    exact hk _ hw
  ·
    exact hk _ hw
def z_X12_fails (N : Nat) (a0 : Nat) (p1 : Int32) (p2 : Int32) (h0 : St) (K : Int32 → St → Prop) : Prop :=
  jn (fun (h2 : St) =>
    br ((sP h2 12 a0 0 0) ≤ 0) (
      K 0 h2) (
      K 1 h2)) (fun j16 =>
    br ((sP h0 12 a0 0 0) = 0) (
      br (p1 = 0) (
        j16 h0) (
        lt_ (stP h0 12 a0 0 0 p2) fun h4 =>
        j16 h4)) (
      j16 h0))
set_option maxHeartbeats 1000000 in
theorem y_X12_fails {ad : Nat → Nat → Nat → Nat} {h : Hp} {V : Nat → Nat} {h0 : St} {N : Nat} (W : Wf ad h V h0) {a0 a0_ : Nat} {p1 : Int32} {p2 : Int32} {K : Int32 → Hp → Prop} {K9 : Int32 → St → Prop} (hw : z_X12_fails N a0_ p1 p2 h0 K9) (hk : ∀ (r0 : Int32), ∀ (h9 : Hp) (s9 : St), Wf ad h9 V s9 → K9 r0 s9 →  K r0 h9) (e0 : a0 = ad 12 a0_ 0) (l0 : a0_ < V 12) : w_X12_fails N a0 p1 p2 h K := by
  subst e0
  unfold z_X12_fails at hw
  unfold w_X12_fails
  refine l_gI W rfl l0 rfl ?_
  refine l_jn (fun (r : Hp → Prop) (r9 : St → Prop) => ∀ (h9 : Hp) (s9 : St), Wf ad h9 V s9 → r9 s9 → r h9) hw ?_ (fun j4_ j5_ hj6_ hw => ?_)
  ·
    intro h2_ s3_ W1_ hw
    refine l_gI W1_ rfl l0 rfl ?_
    refine l_br hw (fun _ hw => ?_) (fun _ hw => ?_)
    ·
      exact hk _ _ _ W1_ hw
    ·
      exact hk _ _ _ W1_ hw
  ·
    refine l_br hw (fun _ hw => ?_) (fun _ hw => ?_)
    ·
      refine l_br hw (fun _ hw => ?_) (fun _ hw => ?_)
      ·
        exact hj6_ _ _ W hw
      ·
        refine l_pI W rfl l0 rfl hw (fun h8_ W7_ hw => ?_)
        exact hj6_ _ _ W7_ hw
    ·
      exact hj6_ _ _ W hw
def z_X12_isTable (N : Nat) (a0 : Nat) (p1 : Int32) (h0 : St) (K : Int32 → Prop) : Prop :=
  z_X12_in N p1 0 ((sP h0 12 a0 1 0) - 1) h0 fun v2 =>
  ok (narrow .boolean (.int v2) = .int v2) <|
  K v2
set_option maxHeartbeats 1000000 in
theorem y_X12_isTable {ad : Nat → Nat → Nat → Nat} {h : Hp} {V : Nat → Nat} {h0 : St} {N : Nat} (W : Wf ad h V h0) {a0 a0_ : Nat} {p1 : Int32} {K : Int32 → Prop} {K9 : Int32 → Prop} (hw : z_X12_isTable N a0_ p1 h0 K9) (hk : ∀ (r0 : Int32), K9 r0 →  K r0) (e0 : a0 = ad 12 a0_ 0) (l0 : a0_ < V 12) : w_X12_isTable N a0 p1 h K := by
  subst e0
  unfold z_X12_isTable at hw
  unfold w_X12_isTable
  refine l_gI W rfl l0 rfl ?_
  refine y_X12_in W hw (fun v1_ hw => ?_) 
  refine l_ok hw (fun _ hw => ?_)
  exact hk _ hw
def z_X12_isColumn (N : Nat) (a0 : Nat) (p1 : Int32) (p2 : Int32) (h0 : St) (K : Int32 → Prop) : Prop :=
  z_X12_isTable N a0 p1 h0 fun v1 =>
  br (v1 = 0) (
    K 0) (
    wI 3 p1 <|
    z_X12_in N p2 0 ((sP h0 12 a0 2 (p1).toNatClampNeg) - 1) h0 fun v4 =>
    br (v4 = 0) (
      K 0) (
      K 1))
set_option maxHeartbeats 1000000 in
theorem y_X12_isColumn {ad : Nat → Nat → Nat → Nat} {h : Hp} {V : Nat → Nat} {h0 : St} {N : Nat} (W : Wf ad h V h0) {a0 a0_ : Nat} {p1 : Int32} {p2 : Int32} {K : Int32 → Prop} {K9 : Int32 → Prop} (hw : z_X12_isColumn N a0_ p1 p2 h0 K9) (hk : ∀ (r0 : Int32), K9 r0 →  K r0) (e0 : a0 = ad 12 a0_ 0) (l0 : a0_ < V 12) : w_X12_isColumn N a0 p1 p2 h K := by
  subst e0
  unfold z_X12_isColumn at hw
  unfold w_X12_isColumn
  refine l_cv W rfl l0 rfl ?_
  refine y_X12_isTable W hw (fun v1_ hw => ?_) rfl l0
  refine l_br hw (fun _ hw => ?_) (fun _ hw => ?_)
  ·
    exact hk _ hw
  ·
    refine l_gA W rfl l0 (c := 2) rfl (Or.inr rfl) ?_
    refine l_aI W (f := 2) rfl l0 rfl hw (fun hw => ?_)
    refine y_X12_in W hw (fun v2_ hw => ?_) 
    refine l_br hw (fun _ hw => ?_) (fun _ hw => ?_)
    ·
      exact hk _ hw
    ·
      exact hk _ hw
def z_X12_isIndex (N : Nat) (a0 : Nat) (p1 : Int32) (h0 : St) (K : Int32 → Prop) : Prop :=
  z_X12_in N p1 0 ((sP h0 12 a0 13 0) - 1) h0 fun v2 =>
  ok (narrow .boolean (.int v2) = .int v2) <|
  K v2
set_option maxHeartbeats 1000000 in
theorem y_X12_isIndex {ad : Nat → Nat → Nat → Nat} {h : Hp} {V : Nat → Nat} {h0 : St} {N : Nat} (W : Wf ad h V h0) {a0 a0_ : Nat} {p1 : Int32} {K : Int32 → Prop} {K9 : Int32 → Prop} (hw : z_X12_isIndex N a0_ p1 h0 K9) (hk : ∀ (r0 : Int32), K9 r0 →  K r0) (e0 : a0 = ad 12 a0_ 0) (l0 : a0_ < V 12) : w_X12_isIndex N a0 p1 h K := by
  subst e0
  unfold z_X12_isIndex at hw
  unfold w_X12_isIndex
  refine l_gI W rfl l0 rfl ?_
  refine y_X12_in W hw (fun v1_ hw => ?_) 
  refine l_ok hw (fun _ hw => ?_)
  exact hk _ hw
def z_X12_hasRow (N : Nat) (a0 : Nat) (p1 : Int32) (p2 : Int32) (h0 : St) (K : Int32 → Prop) : Prop :=
  wI 3 p1 <|
  z_X12_in N p2 0 ((sP h0 12 a0 3 (p1).toNatClampNeg) - 1) h0 fun v3 =>
  br (v3 = 0) (
    K 0) (
    wI 120 ((40 * p1) + p2) <|
    br ((sP h0 12 a0 4 (((40 * p1) + p2)).toNatClampNeg) = 0) (
      K 0) (
      K 1))
set_option maxHeartbeats 1000000 in
theorem y_X12_hasRow {ad : Nat → Nat → Nat → Nat} {h : Hp} {V : Nat → Nat} {h0 : St} {N : Nat} (W : Wf ad h V h0) {a0 a0_ : Nat} {p1 : Int32} {p2 : Int32} {K : Int32 → Prop} {K9 : Int32 → Prop} (hw : z_X12_hasRow N a0_ p1 p2 h0 K9) (hk : ∀ (r0 : Int32), K9 r0 →  K r0) (e0 : a0 = ad 12 a0_ 0) (l0 : a0_ < V 12) : w_X12_hasRow N a0 p1 p2 h K := by
  subst e0
  unfold z_X12_hasRow at hw
  unfold w_X12_hasRow
  refine l_gA W rfl l0 (c := 2) rfl (Or.inr rfl) ?_
  refine l_aI W (f := 3) rfl l0 rfl hw (fun hw => ?_)
  refine y_X12_in W hw (fun v1_ hw => ?_) 
  refine l_br hw (fun _ hw => ?_) (fun _ hw => ?_)
  ·
    exact hk _ hw
  ·
    refine l_gA W rfl l0 (c := 2) rfl (Or.inr rfl) ?_
    refine l_aI W (f := 4) rfl l0 rfl hw (fun hw => ?_)
    refine l_br hw (fun _ hw => ?_) (fun _ hw => ?_)
    ·
      exact hk _ hw
    ·
      exact hk _ hw
def z_X12_at (N : Nat) (a0 : Nat) (p1 : Int32) (p2 : Int32) (p3 : Int32) (h0 : St) (K : Int32 → Prop) : Prop :=
  wI 360 ((3 * ((40 * p1) + p2)) + p3) <|
  K (sP h0 12 a0 5 (((3 * ((40 * p1) + p2)) + p3)).toNatClampNeg)
set_option maxHeartbeats 1000000 in
theorem y_X12_at {ad : Nat → Nat → Nat → Nat} {h : Hp} {V : Nat → Nat} {h0 : St} {N : Nat} (W : Wf ad h V h0) {a0 a0_ : Nat} {p1 : Int32} {p2 : Int32} {p3 : Int32} {K : Int32 → Prop} {K9 : Int32 → Prop} (hw : z_X12_at N a0_ p1 p2 p3 h0 K9) (hk : ∀ (r0 : Int32), K9 r0 →  K r0) (e0 : a0 = ad 12 a0_ 0) (l0 : a0_ < V 12) : w_X12_at N a0 p1 p2 p3 h K := by
  subst e0
  unfold z_X12_at at hw
  unfold w_X12_at
  refine l_gA W rfl l0 (c := 2) rfl (Or.inr rfl) ?_
  refine l_aI W (f := 5) rfl l0 rfl hw (fun hw => ?_)
  exact hk _ hw
def z_X12_there (N : Nat) (a0 : Nat) (p1 : Int32) (h0 : St) (K : Int32 → Prop) : Prop :=
  fx2 (fun (w4 : Int32 → Int32 → Prop) (x1 : Int32) (x2 : Int32) =>
    wI 3 p1 <|
    br ((sP h0 12 a0 3 (p1).toNatClampNeg) ≤ x2) (
      K x1) (
      z_X12_hasRow N a0 p1 x2 h0 fun v5 =>
      jn (fun (v6 : Int32) =>
        w4 (x1 + v6) (x2 + 1)) (fun j29 =>
        br (v5 = 0) (
          j29 0) (
          j29 1)))) N 0 0
set_option maxHeartbeats 1000000 in
theorem y_X12_there {ad : Nat → Nat → Nat → Nat} {h : Hp} {V : Nat → Nat} {h0 : St} {N : Nat} (W : Wf ad h V h0) {a0 a0_ : Nat} {p1 : Int32} {K : Int32 → Prop} {K9 : Int32 → Prop} (hw : z_X12_there N a0_ p1 h0 K9) (hk : ∀ (r0 : Int32), K9 r0 →  K r0) (e0 : a0 = ad 12 a0_ 0) (l0 : a0_ < V 12) : w_X12_there N a0 p1 h K := by
  subst e0
  unfold z_X12_there at hw
  unfold w_X12_there
  refine l_fx2 (fun (r : Int32 → Int32 → Prop) (r9 : Int32 → Int32 → Prop) => ∀ (x0 : Int32), ∀ (x1 : Int32), r9 x0 x1 → r x0 x1) (fun _ _ h9_ => h9_.elim) ?_ N _ _ hw
  intro w4_ w5_ hv3_ x1_ x2_ hw
  refine l_gA W rfl l0 (c := 2) rfl (Or.inr rfl) ?_
  refine l_aI W (f := 3) rfl l0 rfl hw (fun hw => ?_)
  refine l_br hw (fun _ hw => ?_) (fun _ hw => ?_)
  ·
    exact hk _ hw
  ·
    refine l_cv W rfl l0 rfl ?_
    refine y_X12_hasRow W hw (fun v6_ hw => ?_) rfl l0
    refine l_jn (fun (r : Int32 → Prop) (r9 : Int32 → Prop) => ∀ (x0 : Int32), r9 x0 → r x0) hw ?_ (fun j8_ j9_ hj10_ hw => ?_)
    ·
      intro x7_ hw
      exact hv3_ _ _ hw
    ·
      refine l_br hw (fun _ hw => ?_) (fun _ hw => ?_)
      ·
        exact hj10_ _ hw
      ·
        exact hj10_ _ hw
def z_X12_pagesOf (N : Nat) (a0 : Nat) (p1 : Int32) (h0 : St) (K : Int32 → Prop) : Prop :=
  wI 3 p1 <|
  K (((sP h0 12 a0 3 (p1).toNatClampNeg) + 3) / 4)
set_option maxHeartbeats 1000000 in
theorem y_X12_pagesOf {ad : Nat → Nat → Nat → Nat} {h : Hp} {V : Nat → Nat} {h0 : St} {N : Nat} (W : Wf ad h V h0) {a0 a0_ : Nat} {p1 : Int32} {K : Int32 → Prop} {K9 : Int32 → Prop} (hw : z_X12_pagesOf N a0_ p1 h0 K9) (hk : ∀ (r0 : Int32), K9 r0 →  K r0) (e0 : a0 = ad 12 a0_ 0) (l0 : a0_ < V 12) : w_X12_pagesOf N a0 p1 h K := by
  subst e0
  unfold z_X12_pagesOf at hw
  unfold w_X12_pagesOf
  refine l_gA W rfl l0 (c := 2) rfl (Or.inr rfl) ?_
  refine l_aI W (f := 3) rfl l0 rfl hw (fun hw => ?_)
  exact hk _ hw
def z_X12_table (N : Nat) (a0 : Nat) (p1 : Int32) (h0 : St) (K : Int32 → St → Prop) : Prop :=
  lt_ (stP h0 12 a0 0 0 0) fun h1 =>
  z_X12_in N p1 1 3 h1 fun v2 =>
  jn (fun (v3 : Int32) =>
    z_X12_fails N a0 v3 1 h1 fun v4 h5 =>
    br (v4 = 0) (
      jn (fun (v7 : Int32) =>
        z_X12_fails N a0 v7 2 h5 fun v8 h9 =>
        br (v8 = 0) (
          lt_ (stP h9 12 a0 16 0 0) fun h10 =>
          wA 3 (sP h10 12 a0 1 0) (stP h10 12 a0 2 ((sP h10 12 a0 1 0)).toNatClampNeg p1) fun h13 =>
          fx2 (fun (w67 : Int32 → St → Prop) (x15 : Int32) (h14 : St) =>
            br (3 ≤ x15) (
              lt_ (stP h14 12 a0 1 0 ((sP h14 12 a0 1 0) + 1)) fun h17 =>
              K ((sP h17 12 a0 1 0) - 1) h17) (
              wA 9 ((3 * (sP h14 12 a0 1 0)) + x15) (stP h14 12 a0 7 (((3 * (sP h14 12 a0 1 0)) + x15)).toNatClampNeg 99) fun h21 =>
              w67 (x15 + 1) h21)) N 0 h13) (
          K (-1) h9)) (fun j41 =>
        br ((sP h5 12 a0 1 0) = 3) (
          j41 1) (
          j41 0))) (
      K (-1) h5)) (fun j20 =>
    br (v2 = 0) (
      j20 1) (
      j20 0))
set_option maxHeartbeats 1000000 in
theorem y_X12_table {ad : Nat → Nat → Nat → Nat} {h : Hp} {V : Nat → Nat} {h0 : St} {N : Nat} (W : Wf ad h V h0) {a0 a0_ : Nat} {p1 : Int32} {K : Int32 → Hp → Prop} {K9 : Int32 → St → Prop} (hw : z_X12_table N a0_ p1 h0 K9) (hk : ∀ (r0 : Int32), ∀ (h9 : Hp) (s9 : St), Wf ad h9 V s9 → K9 r0 s9 →  K r0 h9) (e0 : a0 = ad 12 a0_ 0) (l0 : a0_ < V 12) : w_X12_table N a0 p1 h K := by
  subst e0
  unfold z_X12_table at hw
  unfold w_X12_table
  refine l_pI W rfl l0 rfl hw (fun h2_ W1_ hw => ?_)
  refine y_X12_in W1_ hw (fun v3_ hw => ?_) 
  refine l_jn (fun (r : Int32 → Prop) (r9 : Int32 → Prop) => ∀ (x0 : Int32), r9 x0 → r x0) hw ?_ (fun j5_ j6_ hj7_ hw => ?_)
  ·
    intro x4_ hw
    refine l_cv W1_ rfl l0 rfl ?_
    refine y_X12_fails W1_ hw (fun v8_ h10_ s11_ W9_ hw => ?_) rfl l0
    refine l_br hw (fun _ hw => ?_) (fun _ hw => ?_)
    ·
      refine l_gI W9_ rfl l0 rfl ?_
      refine l_jn (fun (r : Int32 → Prop) (r9 : Int32 → Prop) => ∀ (x0 : Int32), r9 x0 → r x0) hw ?_ (fun j13_ j14_ hj15_ hw => ?_)
      ·
        intro x12_ hw
        refine l_cv W9_ rfl l0 rfl ?_
        refine y_X12_fails W9_ hw (fun v16_ h18_ s19_ W17_ hw => ?_) rfl l0
        refine l_br hw (fun _ hw => ?_) (fun _ hw => ?_)
        ·
          refine l_pI W17_ rfl l0 rfl hw (fun h21_ W20_ hw => ?_)
          refine l_gA W20_ rfl l0 (c := 2) rfl (Or.inr rfl) ?_
          refine l_gI W20_ rfl l0 rfl ?_
          refine l_sI W20_ (f := 2) rfl l0 rfl hw (fun h23_ W22_ hw => ?_)
          refine l_fx2 (fun (r : Int32 → Hp → Prop) (r9 : Int32 → St → Prop) => ∀ (x0 : Int32), ∀ (h9 : Hp) (s9 : St), Wf ad h9 V s9 → r9 x0 s9 → r x0 h9) (fun _ _ _ _ h9_ => h9_.elim) ?_ N _ _ _ W22_ hw
          intro w29_ w30_ hv28_ x24_ h26_ s27_ W25_ hw
          refine l_br hw (fun _ hw => ?_) (fun _ hw => ?_)
          ·
            refine l_gI W25_ rfl l0 rfl ?_
            refine l_pI W25_ rfl l0 rfl hw (fun h32_ W31_ hw => ?_)
            refine l_gI W31_ rfl l0 rfl ?_
            exact hk _ _ _ W31_ hw
          ·
            refine l_gA W25_ rfl l0 (c := 2) rfl (Or.inr rfl) ?_
            refine l_gI W25_ rfl l0 rfl ?_
            refine l_sI W25_ (f := 7) rfl l0 rfl hw (fun h34_ W33_ hw => ?_)
            exact hv28_ _ _ _ W33_ hw
        ·
          exact hk _ _ _ W17_ hw
      ·
        refine l_br hw (fun _ hw => ?_) (fun _ hw => ?_)
        ·
          exact hj15_ _ hw
        ·
          exact hj15_ _ hw
    ·
      exact hk _ _ _ W9_ hw
  ·
    refine l_br hw (fun _ hw => ?_) (fun _ hw => ?_)
    ·
      exact hj7_ _ hw
    ·
      exact hj7_ _ hw
def z_X12_bound (N : Nat) (a0 : Nat) (p1 : Int32) (p2 : Int32) (p3 : Int32) (p4 : Int32) (h0 : St) (K : Int32 → St → Prop) : Prop :=
  lt_ (stP h0 12 a0 0 0 0) fun h1 =>
  z_X12_isTable N a0 p1 h1 fun v2 =>
  jn (fun (v3 : Int32) =>
    z_X12_fails N a0 v3 1 h1 fun v4 h5 =>
    br (v4 = 0) (
      z_X12_isColumn N a0 p1 p2 h5 fun v6 =>
      jn (fun (v7 : Int32) =>
        z_X12_fails N a0 v7 2 h5 fun v8 h9 =>
        br (v8 = 0) (
          lt_ (stP h9 12 a0 16 0 0) fun h10 =>
          wA 9 ((3 * p1) + p2) (stP h10 12 a0 6 (((3 * p1) + p2)).toNatClampNeg p3) fun h12 =>
          wA 9 ((3 * p1) + p2) (stP h12 12 a0 7 (((3 * p1) + p2)).toNatClampNeg p4) fun h14 =>
          fx2 (fun (w105 : Int32 → Int32 → Prop) (x15 : Int32) (x16 : Int32) =>
            wI 3 p1 <|
            br ((sP h14 12 a0 3 (p1).toNatClampNeg) ≤ x16) (
              K x15 h14) (
              z_X12_hasRow N a0 p1 x16 h14 fun v19 =>
              jn (fun (v20 : Int32) =>
                w105 (x15 + v20) (x16 + 1)) (fun j150 =>
                jn (
                  j150 0) (fun j149 =>
                  br (v19 = 0) (
                    j149 ) (
                    z_X12_at N a0 p1 x16 p2 h14 fun v21 =>
                    z_X12_in N v21 p3 p4 h14 fun v22 =>
                    br (v22 = 0) (
                      j150 1) (
                      j149 )))))) N 0 0) (
          K (-1) h9)) (fun j62 =>
        jn (
          j62 1) (fun j57 =>
          br (v6 = 0) (
            j57 ) (
            z_X12_in N p3 0 99 h5 fun v23 =>
            br (v23 = 0) (
              j57 ) (
              z_X12_in N p4 p3 99 h5 fun v24 =>
              br (v24 = 0) (
                j57 ) (
                j62 0)))))) (
      K (-1) h5)) (fun j19 =>
    br (v2 = 0) (
      j19 1) (
      j19 0))
set_option maxHeartbeats 1000000 in
theorem y_X12_bound {ad : Nat → Nat → Nat → Nat} {h : Hp} {V : Nat → Nat} {h0 : St} {N : Nat} (W : Wf ad h V h0) {a0 a0_ : Nat} {p1 : Int32} {p2 : Int32} {p3 : Int32} {p4 : Int32} {K : Int32 → Hp → Prop} {K9 : Int32 → St → Prop} (hw : z_X12_bound N a0_ p1 p2 p3 p4 h0 K9) (hk : ∀ (r0 : Int32), ∀ (h9 : Hp) (s9 : St), Wf ad h9 V s9 → K9 r0 s9 →  K r0 h9) (e0 : a0 = ad 12 a0_ 0) (l0 : a0_ < V 12) : w_X12_bound N a0 p1 p2 p3 p4 h K := by
  subst e0
  unfold z_X12_bound at hw
  unfold w_X12_bound
  refine l_pI W rfl l0 rfl hw (fun h2_ W1_ hw => ?_)
  refine l_cv W1_ rfl l0 rfl ?_
  refine y_X12_isTable W1_ hw (fun v3_ hw => ?_) rfl l0
  refine l_jn (fun (r : Int32 → Prop) (r9 : Int32 → Prop) => ∀ (x0 : Int32), r9 x0 → r x0) hw ?_ (fun j5_ j6_ hj7_ hw => ?_)
  ·
    intro x4_ hw
    refine l_cv W1_ rfl l0 rfl ?_
    refine y_X12_fails W1_ hw (fun v8_ h10_ s11_ W9_ hw => ?_) rfl l0
    refine l_br hw (fun _ hw => ?_) (fun _ hw => ?_)
    ·
      refine l_cv W9_ rfl l0 rfl ?_
      refine y_X12_isColumn W9_ hw (fun v12_ hw => ?_) rfl l0
      refine l_jn (fun (r : Int32 → Prop) (r9 : Int32 → Prop) => ∀ (x0 : Int32), r9 x0 → r x0) hw ?_ (fun j14_ j15_ hj16_ hw => ?_)
      ·
        intro x13_ hw
        refine l_cv W9_ rfl l0 rfl ?_
        refine y_X12_fails W9_ hw (fun v17_ h19_ s20_ W18_ hw => ?_) rfl l0
        refine l_br hw (fun _ hw => ?_) (fun _ hw => ?_)
        ·
          refine l_pI W18_ rfl l0 rfl hw (fun h22_ W21_ hw => ?_)
          refine l_gA W21_ rfl l0 (c := 2) rfl (Or.inr rfl) ?_
          refine l_sI W21_ (f := 6) rfl l0 rfl hw (fun h24_ W23_ hw => ?_)
          refine l_gA W23_ rfl l0 (c := 2) rfl (Or.inr rfl) ?_
          refine l_sI W23_ (f := 7) rfl l0 rfl hw (fun h26_ W25_ hw => ?_)
          refine l_fx2 (fun (r : Int32 → Int32 → Prop) (r9 : Int32 → Int32 → Prop) => ∀ (x0 : Int32), ∀ (x1 : Int32), r9 x0 x1 → r x0 x1) (fun _ _ h9_ => h9_.elim) ?_ N _ _ hw
          intro w30_ w31_ hv29_ x27_ x28_ hw
          refine l_gA W25_ rfl l0 (c := 2) rfl (Or.inr rfl) ?_
          refine l_aI W25_ (f := 3) rfl l0 rfl hw (fun hw => ?_)
          refine l_br hw (fun _ hw => ?_) (fun _ hw => ?_)
          ·
            exact hk _ _ _ W25_ hw
          ·
            refine l_cv W25_ rfl l0 rfl ?_
            refine y_X12_hasRow W25_ hw (fun v32_ hw => ?_) rfl l0
            refine l_jn (fun (r : Int32 → Prop) (r9 : Int32 → Prop) => ∀ (x0 : Int32), r9 x0 → r x0) hw ?_ (fun j34_ j35_ hj36_ hw => ?_)
            ·
              intro x33_ hw
              exact hv29_ _ _ hw
            ·
              refine l_jn (fun (r : Prop) (r9 : Prop) =>  r9  → r ) hw ?_ (fun j37_ j38_ hj39_ hw => ?_)
              ·
                intro hw
                exact hj36_ _ hw
              ·
                refine l_br hw (fun _ hw => ?_) (fun _ hw => ?_)
                ·
                  exact hj39_  hw
                ·
                  refine l_cv W25_ rfl l0 rfl ?_
                  refine y_X12_at W25_ hw (fun v40_ hw => ?_) rfl l0
                  refine y_X12_in W25_ hw (fun v41_ hw => ?_) 
                  refine l_br hw (fun _ hw => ?_) (fun _ hw => ?_)
                  ·
                    exact hj36_ _ hw
                  ·
                    exact hj39_  hw
        ·
          exact hk _ _ _ W18_ hw
      ·
        refine l_jn (fun (r : Prop) (r9 : Prop) =>  r9  → r ) hw ?_ (fun j42_ j43_ hj44_ hw => ?_)
        ·
          intro hw
          exact hj16_ _ hw
        ·
          refine l_br hw (fun _ hw => ?_) (fun _ hw => ?_)
          ·
            exact hj44_  hw
          ·
            refine y_X12_in W9_ hw (fun v45_ hw => ?_) 
            refine l_br hw (fun _ hw => ?_) (fun _ hw => ?_)
            ·
              exact hj44_  hw
            ·
              refine y_X12_in W9_ hw (fun v46_ hw => ?_) 
              refine l_br hw (fun _ hw => ?_) (fun _ hw => ?_)
              ·
                exact hj44_  hw
              ·
                exact hj16_ _ hw
    ·
      exact hk _ _ _ W9_ hw
  ·
    refine l_br hw (fun _ hw => ?_) (fun _ hw => ?_)
    ·
      exact hj7_ _ hw
    ·
      exact hj7_ _ hw
def z_X12_isWithin (N : Nat) (a0 : Nat) (p1 : Int32) (p2 : Int32) (p3 : Int32) (h0 : St) (K : Int32 → Prop) : Prop :=
  wI 3 p1 <|
  br ((sP h0 12 a0 2 (p1).toNatClampNeg) ≤ p2) (
    K 1) (
    wI 9 ((3 * p1) + p2) <|
    wI 9 ((3 * p1) + p2) <|
    z_X12_in N p3 (sP h0 12 a0 6 (((3 * p1) + p2)).toNatClampNeg) (sP h0 12 a0 7 (((3 * p1) + p2)).toNatClampNeg) h0 fun v7 =>
    br (v7 = 0) (
      K 0) (
      K 1))
set_option maxHeartbeats 1000000 in
theorem y_X12_isWithin {ad : Nat → Nat → Nat → Nat} {h : Hp} {V : Nat → Nat} {h0 : St} {N : Nat} (W : Wf ad h V h0) {a0 a0_ : Nat} {p1 : Int32} {p2 : Int32} {p3 : Int32} {K : Int32 → Prop} {K9 : Int32 → Prop} (hw : z_X12_isWithin N a0_ p1 p2 p3 h0 K9) (hk : ∀ (r0 : Int32), K9 r0 →  K r0) (e0 : a0 = ad 12 a0_ 0) (l0 : a0_ < V 12) : w_X12_isWithin N a0 p1 p2 p3 h K := by
  subst e0
  unfold z_X12_isWithin at hw
  unfold w_X12_isWithin
  refine l_gA W rfl l0 (c := 2) rfl (Or.inr rfl) ?_
  refine l_aI W (f := 2) rfl l0 rfl hw (fun hw => ?_)
  refine l_br hw (fun _ hw => ?_) (fun _ hw => ?_)
  ·
    exact hk _ hw
  ·
    refine l_gA W rfl l0 (c := 2) rfl (Or.inr rfl) ?_
    refine l_aI W (f := 6) rfl l0 rfl hw (fun hw => ?_)
    refine l_gA W rfl l0 (c := 2) rfl (Or.inr rfl) ?_
    refine l_aI W (f := 7) rfl l0 rfl hw (fun hw => ?_)
    refine y_X12_in W hw (fun v1_ hw => ?_) 
    refine l_br hw (fun _ hw => ?_) (fun _ hw => ?_)
    ·
      exact hk _ hw
    ·
      exact hk _ hw
def z_X12_takesOut (N : Nat) (a0 : Nat) (p1 : Int32) (p2 : Int32) (h0 : St) (K : St → Prop) : Prop :=
  fx2 (fun (w2 : Int32 → St → Prop) (x2 : Int32) (h1 : St) =>
    wI 2 p1 <|
    br (((sP h1 12 a0 21 (p1).toNatClampNeg) - 1) ≤ x2) (
      wI 2 p1 <|
      wA 2 p1 (stP h1 12 a0 21 (p1).toNatClampNeg ((sP h1 12 a0 21 (p1).toNatClampNeg) - 1)) fun h7 =>
      K h7) (
      wI 26 (((13 * p1) + x2) + 1) <|
      wA 26 ((13 * p1) + x2) (stP h1 12 a0 20 (((13 * p1) + x2)).toNatClampNeg (sP h1 12 a0 20 ((((13 * p1) + x2) + 1)).toNatClampNeg)) fun h11 =>
      w2 (x2 + 1) h11)) N p2 h0
set_option maxHeartbeats 1000000 in
theorem y_X12_takesOut {ad : Nat → Nat → Nat → Nat} {h : Hp} {V : Nat → Nat} {h0 : St} {N : Nat} (W : Wf ad h V h0) {a0 a0_ : Nat} {p1 : Int32} {p2 : Int32} {K : Hp → Prop} {K9 : St → Prop} (hw : z_X12_takesOut N a0_ p1 p2 h0 K9) (hk : ∀ (h9 : Hp) (s9 : St), Wf ad h9 V s9 → K9 s9 →  K h9) (e0 : a0 = ad 12 a0_ 0) (l0 : a0_ < V 12) : w_X12_takesOut N a0 p1 p2 h K := by
  subst e0
  unfold z_X12_takesOut at hw
  unfold w_X12_takesOut
  refine l_fx2 (fun (r : Int32 → Hp → Prop) (r9 : Int32 → St → Prop) => ∀ (x0 : Int32), ∀ (h9 : Hp) (s9 : St), Wf ad h9 V s9 → r9 x0 s9 → r x0 h9) (fun _ _ _ _ h9_ => h9_.elim) ?_ N _ _ _ W hw
  intro w6_ w7_ hv5_ x1_ h3_ s4_ W2_ hw
  refine l_gA W2_ rfl l0 (c := 2) rfl (Or.inr rfl) ?_
  refine l_aI W2_ (f := 21) rfl l0 rfl hw (fun hw => ?_)
  refine l_br hw (fun _ hw => ?_) (fun _ hw => ?_)
  ·
    refine l_gA W2_ rfl l0 (c := 2) rfl (Or.inr rfl) ?_
    refine l_aI W2_ (f := 21) rfl l0 rfl hw (fun hw => ?_)
    refine l_sI W2_ (f := 21) rfl l0 rfl hw (fun h9_ W8_ hw => ?_)
    exact hk _ _ W8_ hw
  ·
    refine l_gA W2_ rfl l0 (c := 2) rfl (Or.inr rfl) ?_
    refine l_gA W2_ rfl l0 (c := 2) rfl (Or.inr rfl) ?_
    refine l_aI W2_ (f := 20) rfl l0 rfl hw (fun hw => ?_)
    refine l_sI W2_ (f := 20) rfl l0 rfl hw (fun h11_ W10_ hw => ?_)
    exact hv5_ _ _ _ W10_ hw
def z_X12_forgets (N : Nat) (a0 : Nat) (p1 : Int32) (p2 : Int32) (h0 : St) (K : St → Prop) : Prop :=
  wI 2 (0 : Int32) <|
  fx2 (fun (w9 : Int32 → St → Prop) (x4 : Int32) (h3 : St) =>
    br (x4 < 0) (
      K h3) (
      wI 26 x4 <|
      jn (fun (v7 : Int32) =>
        jn (fun (h8 : St) =>
          w9 (x4 + (-1)) h8) (fun j79 =>
          jn (
            z_X12_takesOut N a0 0 x4 h3 fun h9 =>
            j79 h9) (fun j73 =>
            br (v7 = 0) (
              br ((sP h3 12 a0 20 (x4).toNatClampNeg) = ((100 * p1) + (p2 / 4))) (
                j73 ) (
                j79 h3)) (
              wI 6 (((sP h3 12 a0 20 (x4).toNatClampNeg) / 100) - 3) <|
              br ((sP h3 12 a0 14 ((((sP h3 12 a0 20 (x4).toNatClampNeg) / 100) - 3)).toNatClampNeg) = p1) (
                j73 ) (
                j79 h3))))) (fun j34 =>
        br ((sP h3 12 a0 20 (x4).toNatClampNeg) < 300) (
          j34 0) (
          j34 1)))) N ((sP h0 12 a0 21 ((0 : Int32)).toNatClampNeg) - 1) h0
set_option maxHeartbeats 1000000 in
theorem y_X12_forgets {ad : Nat → Nat → Nat → Nat} {h : Hp} {V : Nat → Nat} {h0 : St} {N : Nat} (W : Wf ad h V h0) {a0 a0_ : Nat} {p1 : Int32} {p2 : Int32} {K : Hp → Prop} {K9 : St → Prop} (hw : z_X12_forgets N a0_ p1 p2 h0 K9) (hk : ∀ (h9 : Hp) (s9 : St), Wf ad h9 V s9 → K9 s9 →  K h9) (e0 : a0 = ad 12 a0_ 0) (l0 : a0_ < V 12) : w_X12_forgets N a0 p1 p2 h K := by
  subst e0
  unfold z_X12_forgets at hw
  unfold w_X12_forgets
  refine l_gA W rfl l0 (c := 2) rfl (Or.inr rfl) ?_
  refine l_aI W (f := 21) rfl l0 rfl hw (fun hw => ?_)
  refine l_fx2 (fun (r : Int32 → Hp → Prop) (r9 : Int32 → St → Prop) => ∀ (x0 : Int32), ∀ (h9 : Hp) (s9 : St), Wf ad h9 V s9 → r9 x0 s9 → r x0 h9) (fun _ _ _ _ h9_ => h9_.elim) ?_ N _ _ _ W hw
  intro w6_ w7_ hv5_ x1_ h3_ s4_ W2_ hw
  refine l_br hw (fun _ hw => ?_) (fun _ hw => ?_)
  ·
    exact hk _ _ W2_ hw
  ·
    refine l_gA W2_ rfl l0 (c := 2) rfl (Or.inr rfl) ?_
    refine l_aI W2_ (f := 20) rfl l0 rfl hw (fun hw => ?_)
    refine l_jn (fun (r : Int32 → Prop) (r9 : Int32 → Prop) => ∀ (x0 : Int32), r9 x0 → r x0) hw ?_ (fun j9_ j10_ hj11_ hw => ?_)
    ·
      intro x8_ hw
      refine l_jn (fun (r : Hp → Prop) (r9 : St → Prop) => ∀ (h9 : Hp) (s9 : St), Wf ad h9 V s9 → r9 s9 → r h9) hw ?_ (fun j15_ j16_ hj17_ hw => ?_)
      ·
        intro h13_ s14_ W12_ hw
        exact hv5_ _ _ _ W12_ hw
      ·
        refine l_jn (fun (r : Prop) (r9 : Prop) =>  r9  → r ) hw ?_ (fun j18_ j19_ hj20_ hw => ?_)
        ·
          intro hw
          refine l_cv W2_ rfl l0 rfl ?_
          refine y_X12_takesOut W2_ hw (fun h22_ s23_ W21_ hw => ?_) rfl l0
          exact hj17_ _ _ W21_ hw
        ·
          refine l_br hw (fun _ hw => ?_) (fun _ hw => ?_)
          ·
            refine l_br hw (fun _ hw => ?_) (fun _ hw => ?_)
            ·
              exact hj20_  hw
            ·
              exact hj17_ _ _ W2_ hw
          ·
            refine l_gA W2_ rfl l0 (c := 2) rfl (Or.inr rfl) ?_
            refine l_aI W2_ (f := 14) rfl l0 rfl hw (fun hw => ?_)
            refine l_br hw (fun _ hw => ?_) (fun _ hw => ?_)
            ·
              exact hj20_  hw
            ·
              exact hj17_ _ _ W2_ hw
    ·
      refine l_br hw (fun _ hw => ?_) (fun _ hw => ?_)
      ·
        exact hj11_ _ hw
      ·
        exact hj11_ _ hw
def z_X12_insert (N : Nat) (a0 : Nat) (p1 : Int32) (p2 : Int32) (p3 : Int32) (p4 : Int32) (h0 : St) (K : Int32 → St → Prop) : Prop :=
  lt_ (stP h0 12 a0 0 0 0) fun h1 =>
  z_X12_isTable N a0 p1 h1 fun v2 =>
  jn (fun (v3 : Int32) =>
    z_X12_fails N a0 v3 1 h1 fun v4 h5 =>
    br (v4 = 0) (
      z_X12_isWithin N a0 p1 0 p2 h5 fun v6 =>
      jn (fun (v7 : Int32) =>
        z_X12_fails N a0 v7 2 h5 fun v8 h9 =>
        br (v8 = 0) (
          wI 3 p1 <|
          jn (fun (v12 : Int32) =>
            z_X12_fails N a0 v12 3 h9 fun v13 h14 =>
            br (v13 = 0) (
              lt_ (stP h14 12 a0 16 0 0) fun h15 =>
              wI 3 p1 <|
              wA 120 ((40 * p1) + (sP h15 12 a0 3 (p1).toNatClampNeg)) (stP h15 12 a0 4 (((40 * p1) + (sP h15 12 a0 3 (p1).toNatClampNeg))).toNatClampNeg (vp_nar .boolean 1)) fun h19 =>
              wA 360 (3 * ((40 * p1) + (sP h15 12 a0 3 (p1).toNatClampNeg))) (stP h19 12 a0 5 ((3 * ((40 * p1) + (sP h15 12 a0 3 (p1).toNatClampNeg)))).toNatClampNeg p2) fun h21 =>
              wA 360 ((3 * ((40 * p1) + (sP h15 12 a0 3 (p1).toNatClampNeg))) + 1) (stP h21 12 a0 5 (((3 * ((40 * p1) + (sP h15 12 a0 3 (p1).toNatClampNeg))) + 1)).toNatClampNeg p3) fun h23 =>
              wA 360 ((3 * ((40 * p1) + (sP h15 12 a0 3 (p1).toNatClampNeg))) + 2) (stP h23 12 a0 5 (((3 * ((40 * p1) + (sP h15 12 a0 3 (p1).toNatClampNeg))) + 2)).toNatClampNeg p4) fun h25 =>
              wI 3 p1 <|
              wA 3 p1 (stP h25 12 a0 3 (p1).toNatClampNeg ((sP h25 12 a0 3 (p1).toNatClampNeg) + 1)) fun h28 =>
              wI 3 p1 <|
              z_X12_forgets N a0 p1 ((sP h28 12 a0 3 (p1).toNatClampNeg) - 1) h28 fun h31 =>
              wI 3 p1 <|
              K ((sP h31 12 a0 3 (p1).toNatClampNeg) - 1) h31) (
              K (-1) h14)) (fun j87 =>
            br ((sP h9 12 a0 3 (p1).toNatClampNeg) = 40) (
              j87 1) (
              j87 0))) (
          K (-1) h9)) (fun j63 =>
        jn (
          j63 1) (fun j58 =>
          br (v6 = 0) (
            j58 ) (
            z_X12_isWithin N a0 p1 1 p3 h5 fun v34 =>
            br (v34 = 0) (
              j58 ) (
              z_X12_isWithin N a0 p1 2 p4 h5 fun v35 =>
              br (v35 = 0) (
                j58 ) (
                j63 0)))))) (
      K (-1) h5)) (fun j19 =>
    br (v2 = 0) (
      j19 1) (
      j19 0))
set_option maxHeartbeats 1000000 in
theorem y_X12_insert {ad : Nat → Nat → Nat → Nat} {h : Hp} {V : Nat → Nat} {h0 : St} {N : Nat} (W : Wf ad h V h0) {a0 a0_ : Nat} {p1 : Int32} {p2 : Int32} {p3 : Int32} {p4 : Int32} {K : Int32 → Hp → Prop} {K9 : Int32 → St → Prop} (hw : z_X12_insert N a0_ p1 p2 p3 p4 h0 K9) (hk : ∀ (r0 : Int32), ∀ (h9 : Hp) (s9 : St), Wf ad h9 V s9 → K9 r0 s9 →  K r0 h9) (e0 : a0 = ad 12 a0_ 0) (l0 : a0_ < V 12) : w_X12_insert N a0 p1 p2 p3 p4 h K := by
  subst e0
  unfold z_X12_insert at hw
  unfold w_X12_insert
  refine l_pI W rfl l0 rfl hw (fun h2_ W1_ hw => ?_)
  refine l_cv W1_ rfl l0 rfl ?_
  refine y_X12_isTable W1_ hw (fun v3_ hw => ?_) rfl l0
  refine l_jn (fun (r : Int32 → Prop) (r9 : Int32 → Prop) => ∀ (x0 : Int32), r9 x0 → r x0) hw ?_ (fun j5_ j6_ hj7_ hw => ?_)
  ·
    intro x4_ hw
    refine l_cv W1_ rfl l0 rfl ?_
    refine y_X12_fails W1_ hw (fun v8_ h10_ s11_ W9_ hw => ?_) rfl l0
    refine l_br hw (fun _ hw => ?_) (fun _ hw => ?_)
    ·
      refine l_cv W9_ rfl l0 rfl ?_
      refine y_X12_isWithin W9_ hw (fun v12_ hw => ?_) rfl l0
      refine l_jn (fun (r : Int32 → Prop) (r9 : Int32 → Prop) => ∀ (x0 : Int32), r9 x0 → r x0) hw ?_ (fun j14_ j15_ hj16_ hw => ?_)
      ·
        intro x13_ hw
        refine l_cv W9_ rfl l0 rfl ?_
        refine y_X12_fails W9_ hw (fun v17_ h19_ s20_ W18_ hw => ?_) rfl l0
        refine l_br hw (fun _ hw => ?_) (fun _ hw => ?_)
        ·
          refine l_gA W18_ rfl l0 (c := 2) rfl (Or.inr rfl) ?_
          refine l_aI W18_ (f := 3) rfl l0 rfl hw (fun hw => ?_)
          refine l_jn (fun (r : Int32 → Prop) (r9 : Int32 → Prop) => ∀ (x0 : Int32), r9 x0 → r x0) hw ?_ (fun j22_ j23_ hj24_ hw => ?_)
          ·
            intro x21_ hw
            refine l_cv W18_ rfl l0 rfl ?_
            refine y_X12_fails W18_ hw (fun v25_ h27_ s28_ W26_ hw => ?_) rfl l0
            refine l_br hw (fun _ hw => ?_) (fun _ hw => ?_)
            ·
              refine l_pI W26_ rfl l0 rfl hw (fun h30_ W29_ hw => ?_)
              refine l_gA W29_ rfl l0 (c := 2) rfl (Or.inr rfl) ?_
              refine l_aI W29_ (f := 3) rfl l0 rfl hw (fun hw => ?_)
              refine l_gA W29_ rfl l0 (c := 2) rfl (Or.inr rfl) ?_
              refine l_sI W29_ (f := 4) rfl l0 rfl hw (fun h32_ W31_ hw => ?_)
              refine l_gA W31_ rfl l0 (c := 2) rfl (Or.inr rfl) ?_
              refine l_sI W31_ (f := 5) rfl l0 rfl hw (fun h34_ W33_ hw => ?_)
              refine l_gA W33_ rfl l0 (c := 2) rfl (Or.inr rfl) ?_
              refine l_sI W33_ (f := 5) rfl l0 rfl hw (fun h36_ W35_ hw => ?_)
              refine l_gA W35_ rfl l0 (c := 2) rfl (Or.inr rfl) ?_
              refine l_sI W35_ (f := 5) rfl l0 rfl hw (fun h38_ W37_ hw => ?_)
              refine l_gA W37_ rfl l0 (c := 2) rfl (Or.inr rfl) ?_
              refine l_aI W37_ (f := 3) rfl l0 rfl hw (fun hw => ?_)
              refine l_sI W37_ (f := 3) rfl l0 rfl hw (fun h40_ W39_ hw => ?_)
              refine l_gA W39_ rfl l0 (c := 2) rfl (Or.inr rfl) ?_
              refine l_aI W39_ (f := 3) rfl l0 rfl hw (fun hw => ?_)
              refine l_cv W39_ rfl l0 rfl ?_
              refine y_X12_forgets W39_ hw (fun h42_ s43_ W41_ hw => ?_) rfl l0
              refine l_gA W41_ rfl l0 (c := 2) rfl (Or.inr rfl) ?_
              refine l_aI W41_ (f := 3) rfl l0 rfl hw (fun hw => ?_)
              exact hk _ _ _ W41_ hw
            ·
              exact hk _ _ _ W26_ hw
          ·
            refine l_br hw (fun _ hw => ?_) (fun _ hw => ?_)
            ·
              exact hj24_ _ hw
            ·
              exact hj24_ _ hw
        ·
          exact hk _ _ _ W18_ hw
      ·
        refine l_jn (fun (r : Prop) (r9 : Prop) =>  r9  → r ) hw ?_ (fun j44_ j45_ hj46_ hw => ?_)
        ·
          intro hw
          exact hj16_ _ hw
        ·
          refine l_br hw (fun _ hw => ?_) (fun _ hw => ?_)
          ·
            exact hj46_  hw
          ·
            refine l_cv W9_ rfl l0 rfl ?_
            refine y_X12_isWithin W9_ hw (fun v47_ hw => ?_) rfl l0
            refine l_br hw (fun _ hw => ?_) (fun _ hw => ?_)
            ·
              exact hj46_  hw
            ·
              refine l_cv W9_ rfl l0 rfl ?_
              refine y_X12_isWithin W9_ hw (fun v48_ hw => ?_) rfl l0
              refine l_br hw (fun _ hw => ?_) (fun _ hw => ?_)
              ·
                exact hj46_  hw
              ·
                exact hj16_ _ hw
    ·
      exact hk _ _ _ W9_ hw
  ·
    refine l_br hw (fun _ hw => ?_) (fun _ hw => ?_)
    ·
      exact hj7_ _ hw
    ·
      exact hj7_ _ hw
def z_X12_remove (N : Nat) (a0 : Nat) (p1 : Int32) (p2 : Int32) (h0 : St) (K : Int32 → St → Prop) : Prop :=
  lt_ (stP h0 12 a0 0 0 0) fun h1 =>
  z_X12_isTable N a0 p1 h1 fun v2 =>
  jn (fun (v3 : Int32) =>
    z_X12_fails N a0 v3 1 h1 fun v4 h5 =>
    br (v4 = 0) (
      z_X12_hasRow N a0 p1 p2 h5 fun v6 =>
      jn (fun (v7 : Int32) =>
        z_X12_fails N a0 v7 2 h5 fun v8 h9 =>
        br (v8 = 0) (
          lt_ (stP h9 12 a0 16 0 0) fun h10 =>
          wA 120 ((40 * p1) + p2) (stP h10 12 a0 4 (((40 * p1) + p2)).toNatClampNeg (vp_nar .boolean 0)) fun h12 =>
          z_X12_forgets N a0 p1 p2 h12 fun h13 =>
          z_X12_there N a0 p1 h13 fun v14 =>
          K v14 h13) (
          K (-1) h9)) (fun j41 =>
        br (v6 = 0) (
          j41 1) (
          j41 0))) (
      K (-1) h5)) (fun j19 =>
    br (v2 = 0) (
      j19 1) (
      j19 0))
set_option maxHeartbeats 1000000 in
theorem y_X12_remove {ad : Nat → Nat → Nat → Nat} {h : Hp} {V : Nat → Nat} {h0 : St} {N : Nat} (W : Wf ad h V h0) {a0 a0_ : Nat} {p1 : Int32} {p2 : Int32} {K : Int32 → Hp → Prop} {K9 : Int32 → St → Prop} (hw : z_X12_remove N a0_ p1 p2 h0 K9) (hk : ∀ (r0 : Int32), ∀ (h9 : Hp) (s9 : St), Wf ad h9 V s9 → K9 r0 s9 →  K r0 h9) (e0 : a0 = ad 12 a0_ 0) (l0 : a0_ < V 12) : w_X12_remove N a0 p1 p2 h K := by
  subst e0
  unfold z_X12_remove at hw
  unfold w_X12_remove
  refine l_pI W rfl l0 rfl hw (fun h2_ W1_ hw => ?_)
  refine l_cv W1_ rfl l0 rfl ?_
  refine y_X12_isTable W1_ hw (fun v3_ hw => ?_) rfl l0
  refine l_jn (fun (r : Int32 → Prop) (r9 : Int32 → Prop) => ∀ (x0 : Int32), r9 x0 → r x0) hw ?_ (fun j5_ j6_ hj7_ hw => ?_)
  ·
    intro x4_ hw
    refine l_cv W1_ rfl l0 rfl ?_
    refine y_X12_fails W1_ hw (fun v8_ h10_ s11_ W9_ hw => ?_) rfl l0
    refine l_br hw (fun _ hw => ?_) (fun _ hw => ?_)
    ·
      refine l_cv W9_ rfl l0 rfl ?_
      refine y_X12_hasRow W9_ hw (fun v12_ hw => ?_) rfl l0
      refine l_jn (fun (r : Int32 → Prop) (r9 : Int32 → Prop) => ∀ (x0 : Int32), r9 x0 → r x0) hw ?_ (fun j14_ j15_ hj16_ hw => ?_)
      ·
        intro x13_ hw
        refine l_cv W9_ rfl l0 rfl ?_
        refine y_X12_fails W9_ hw (fun v17_ h19_ s20_ W18_ hw => ?_) rfl l0
        refine l_br hw (fun _ hw => ?_) (fun _ hw => ?_)
        ·
          refine l_pI W18_ rfl l0 rfl hw (fun h22_ W21_ hw => ?_)
          refine l_gA W21_ rfl l0 (c := 2) rfl (Or.inr rfl) ?_
          refine l_sI W21_ (f := 4) rfl l0 rfl hw (fun h24_ W23_ hw => ?_)
          refine l_cv W23_ rfl l0 rfl ?_
          refine y_X12_forgets W23_ hw (fun h26_ s27_ W25_ hw => ?_) rfl l0
          refine l_cv W25_ rfl l0 rfl ?_
          refine y_X12_there W25_ hw (fun v28_ hw => ?_) rfl l0
          exact hk _ _ _ W25_ hw
        ·
          exact hk _ _ _ W18_ hw
      ·
        refine l_br hw (fun _ hw => ?_) (fun _ hw => ?_)
        ·
          exact hj16_ _ hw
        ·
          exact hj16_ _ hw
    ·
      exact hk _ _ _ W9_ hw
  ·
    refine l_br hw (fun _ hw => ?_) (fun _ hw => ?_)
    ·
      exact hj7_ _ hw
    ·
      exact hj7_ _ hw
def z_X12_countsColumn (N : Nat) (a0 : Nat) (p1 : Int32) (p2 : Int32) (h0 : St) (K : St → Prop) : Prop :=
  wA 9 ((3 * p1) + p2) (stP h0 12 a0 10 (((3 * p1) + p2)).toNatClampNeg 0) fun h2 =>
  wA 9 ((3 * p1) + p2) (stP h2 12 a0 11 (((3 * p1) + p2)).toNatClampNeg 0) fun h4 =>
  wA 9 ((3 * p1) + p2) (stP h4 12 a0 12 (((3 * p1) + p2)).toNatClampNeg 0) fun h6 =>
  fx2 (fun (w31 : Int32 → St → Prop) (x8 : Int32) (h7 : St) =>
    br (x8 < 0) (
      K h7) (
      fx2 (fun (w42 : Int32 → Int32 → Prop) (x9 : Int32) (x10 : Int32) =>
        wI 3 p1 <|
        br ((sP h7 12 a0 3 (p1).toNatClampNeg) ≤ x10) (
          jn (fun (v14 : Int32) =>
            wA 9 ((3 * p1) + p2) (stP h7 12 a0 12 (((3 * p1) + p2)).toNatClampNeg v14) fun h15 =>
            jn (fun (v17 : Int32) =>
              wA 9 ((3 * p1) + p2) (stP h15 12 a0 11 (((3 * p1) + p2)).toNatClampNeg v17) fun h18 =>
              wI 9 ((3 * p1) + p2) <|
              jn (fun (v21 : Int32) =>
                wA 9 ((3 * p1) + p2) (stP h18 12 a0 10 (((3 * p1) + p2)).toNatClampNeg ((sP h18 12 a0 10 (((3 * p1) + p2)).toNatClampNeg) + v21)) fun h22 =>
                w31 (x8 + (-1)) h22) (fun j164 =>
                br (x9 = 0) (
                  j164 0) (
                  j164 1))) (fun j146 =>
              br (x9 = 0) (
                wI 9 ((3 * p1) + p2) <|
                j146 (sP h15 12 a0 11 (((3 * p1) + p2)).toNatClampNeg)) (
                j146 x8))) (fun j124 =>
            jn (
              wI 9 ((3 * p1) + p2) <|
              j124 (sP h7 12 a0 12 (((3 * p1) + p2)).toNatClampNeg)) (fun j118 =>
              br (x9 = 0) (
                j118 ) (
                wI 9 ((3 * p1) + p2) <|
                br ((sP h7 12 a0 10 (((3 * p1) + p2)).toNatClampNeg) = 0) (
                  j124 x8) (
                  j118 ))))) (
          jn (fun (v29 : Int32) =>
            w42 v29 (x10 + 1)) (fun j86 =>
            jn (
              j86 1) (fun j81 =>
              br (x9 = 0) (
                z_X12_hasRow N a0 p1 x10 h7 fun v30 =>
                jn (
                  j86 0) (fun j85 =>
                  br (v30 = 0) (
                    j85 ) (
                    z_X12_at N a0 p1 x10 p2 h7 fun v31 =>
                    br (v31 = x8) (
                      j81 ) (
                      j85 )))) (
                j81 ))))) N 0 0)) N 99 h6
set_option maxHeartbeats 1000000 in
theorem y_X12_countsColumn {ad : Nat → Nat → Nat → Nat} {h : Hp} {V : Nat → Nat} {h0 : St} {N : Nat} (W : Wf ad h V h0) {a0 a0_ : Nat} {p1 : Int32} {p2 : Int32} {K : Hp → Prop} {K9 : St → Prop} (hw : z_X12_countsColumn N a0_ p1 p2 h0 K9) (hk : ∀ (h9 : Hp) (s9 : St), Wf ad h9 V s9 → K9 s9 →  K h9) (e0 : a0 = ad 12 a0_ 0) (l0 : a0_ < V 12) : w_X12_countsColumn N a0 p1 p2 h K := by
  subst e0
  unfold z_X12_countsColumn at hw
  unfold w_X12_countsColumn
  refine l_gA W rfl l0 (c := 2) rfl (Or.inr rfl) ?_
  refine l_sI W (f := 10) rfl l0 rfl hw (fun h2_ W1_ hw => ?_)
  refine l_gA W1_ rfl l0 (c := 2) rfl (Or.inr rfl) ?_
  refine l_sI W1_ (f := 11) rfl l0 rfl hw (fun h4_ W3_ hw => ?_)
  refine l_gA W3_ rfl l0 (c := 2) rfl (Or.inr rfl) ?_
  refine l_sI W3_ (f := 12) rfl l0 rfl hw (fun h6_ W5_ hw => ?_)
  refine l_fx2 (fun (r : Int32 → Hp → Prop) (r9 : Int32 → St → Prop) => ∀ (x0 : Int32), ∀ (h9 : Hp) (s9 : St), Wf ad h9 V s9 → r9 x0 s9 → r x0 h9) (fun _ _ _ _ h9_ => h9_.elim) ?_ N _ _ _ W5_ hw
  intro w12_ w13_ hv11_ x7_ h9_ s10_ W8_ hw
  refine l_br hw (fun _ hw => ?_) (fun _ hw => ?_)
  ·
    exact hk _ _ W8_ hw
  ·
    refine l_fx2 (fun (r : Int32 → Int32 → Prop) (r9 : Int32 → Int32 → Prop) => ∀ (x0 : Int32), ∀ (x1 : Int32), r9 x0 x1 → r x0 x1) (fun _ _ h9_ => h9_.elim) ?_ N _ _ hw
    intro w17_ w18_ hv16_ x14_ x15_ hw
    refine l_gA W8_ rfl l0 (c := 2) rfl (Or.inr rfl) ?_
    refine l_aI W8_ (f := 3) rfl l0 rfl hw (fun hw => ?_)
    refine l_br hw (fun _ hw => ?_) (fun _ hw => ?_)
    ·
      refine l_gA W8_ rfl l0 (c := 2) rfl (Or.inr rfl) ?_
      refine l_jn (fun (r : Int32 → Prop) (r9 : Int32 → Prop) => ∀ (x0 : Int32), r9 x0 → r x0) hw ?_ (fun j20_ j21_ hj22_ hw => ?_)
      ·
        intro x19_ hw
        refine l_sI W8_ (f := 12) rfl l0 rfl hw (fun h24_ W23_ hw => ?_)
        refine l_gA W23_ rfl l0 (c := 2) rfl (Or.inr rfl) ?_
        refine l_jn (fun (r : Int32 → Prop) (r9 : Int32 → Prop) => ∀ (x0 : Int32), r9 x0 → r x0) hw ?_ (fun j26_ j27_ hj28_ hw => ?_)
        ·
          intro x25_ hw
          refine l_sI W23_ (f := 11) rfl l0 rfl hw (fun h30_ W29_ hw => ?_)
          refine l_gA W29_ rfl l0 (c := 2) rfl (Or.inr rfl) ?_
          refine l_aI W29_ (f := 10) rfl l0 rfl hw (fun hw => ?_)
          refine l_jn (fun (r : Int32 → Prop) (r9 : Int32 → Prop) => ∀ (x0 : Int32), r9 x0 → r x0) hw ?_ (fun j32_ j33_ hj34_ hw => ?_)
          ·
            intro x31_ hw
            refine l_sI W29_ (f := 10) rfl l0 rfl hw (fun h36_ W35_ hw => ?_)
            exact hv11_ _ _ _ W35_ hw
          ·
            refine l_br hw (fun _ hw => ?_) (fun _ hw => ?_)
            ·
              exact hj34_ _ hw
            ·
              exact hj34_ _ hw
        ·
          refine l_br hw (fun _ hw => ?_) (fun _ hw => ?_)
          ·
            refine l_gA W23_ rfl l0 (c := 2) rfl (Or.inr rfl) ?_
            refine l_aI W23_ (f := 11) rfl l0 rfl hw (fun hw => ?_)
            exact hj28_ _ hw
          ·
            exact hj28_ _ hw
      ·
        refine l_jn (fun (r : Prop) (r9 : Prop) =>  r9  → r ) hw ?_ (fun j37_ j38_ hj39_ hw => ?_)
        ·
          intro hw
          refine l_gA W8_ rfl l0 (c := 2) rfl (Or.inr rfl) ?_
          refine l_aI W8_ (f := 12) rfl l0 rfl hw (fun hw => ?_)
          exact hj22_ _ hw
        ·
          refine l_br hw (fun _ hw => ?_) (fun _ hw => ?_)
          ·
            exact hj39_  hw
          ·
            refine l_gA W8_ rfl l0 (c := 2) rfl (Or.inr rfl) ?_
            refine l_aI W8_ (f := 10) rfl l0 rfl hw (fun hw => ?_)
            refine l_br hw (fun _ hw => ?_) (fun _ hw => ?_)
            ·
              exact hj22_ _ hw
            ·
              exact hj39_  hw
    ·
      refine l_jn (fun (r : Int32 → Prop) (r9 : Int32 → Prop) => ∀ (x0 : Int32), r9 x0 → r x0) hw ?_ (fun j41_ j42_ hj43_ hw => ?_)
      ·
        intro x40_ hw
        exact hv16_ _ _ hw
      ·
        refine l_jn (fun (r : Prop) (r9 : Prop) =>  r9  → r ) hw ?_ (fun j44_ j45_ hj46_ hw => ?_)
        ·
          intro hw
          exact hj43_ _ hw
        ·
          refine l_br hw (fun _ hw => ?_) (fun _ hw => ?_)
          ·
            refine l_cv W8_ rfl l0 rfl ?_
            refine y_X12_hasRow W8_ hw (fun v47_ hw => ?_) rfl l0
            refine l_jn (fun (r : Prop) (r9 : Prop) =>  r9  → r ) hw ?_ (fun j48_ j49_ hj50_ hw => ?_)
            ·
              intro hw
              exact hj43_ _ hw
            ·
              refine l_br hw (fun _ hw => ?_) (fun _ hw => ?_)
              ·
                exact hj50_  hw
              ·
                refine l_cv W8_ rfl l0 rfl ?_
                refine y_X12_at W8_ hw (fun v51_ hw => ?_) rfl l0
                refine l_br hw (fun _ hw => ?_) (fun _ hw => ?_)
                ·
                  exact hj46_  hw
                ·
                  exact hj50_  hw
          ·
            exact hj46_  hw
def z_X12_count (N : Nat) (a0 : Nat) (p1 : Int32) (h0 : St) (K : Int32 → St → Prop) : Prop :=
  lt_ (stP h0 12 a0 0 0 0) fun h1 =>
  z_X12_isTable N a0 p1 h1 fun v2 =>
  jn (fun (v3 : Int32) =>
    z_X12_fails N a0 v3 1 h1 fun v4 h5 =>
    br (v4 = 0) (
      lt_ (stP h5 12 a0 16 0 0) fun h6 =>
      z_X12_there N a0 p1 h6 fun v8 =>
      wA 3 p1 (stP h6 12 a0 8 (p1).toNatClampNeg v8) fun h9 =>
      z_X12_pagesOf N a0 p1 h9 fun v11 =>
      wA 3 p1 (stP h9 12 a0 9 (p1).toNatClampNeg v11) fun h12 =>
      fx2 (fun (w57 : Int32 → St → Prop) (x14 : Int32) (h13 : St) =>
        wI 3 p1 <|
        br ((sP h13 12 a0 2 (p1).toNatClampNeg) ≤ x14) (
          wI 3 p1 <|
          K (sP h13 12 a0 8 (p1).toNatClampNeg) h13) (
          z_X12_countsColumn N a0 p1 x14 h13 fun h19 =>
          w57 (x14 + 1) h19)) N 0 h12) (
      K (-1) h5)) (fun j19 =>
    br (v2 = 0) (
      j19 1) (
      j19 0))
set_option maxHeartbeats 1000000 in
theorem y_X12_count {ad : Nat → Nat → Nat → Nat} {h : Hp} {V : Nat → Nat} {h0 : St} {N : Nat} (W : Wf ad h V h0) {a0 a0_ : Nat} {p1 : Int32} {K : Int32 → Hp → Prop} {K9 : Int32 → St → Prop} (hw : z_X12_count N a0_ p1 h0 K9) (hk : ∀ (r0 : Int32), ∀ (h9 : Hp) (s9 : St), Wf ad h9 V s9 → K9 r0 s9 →  K r0 h9) (e0 : a0 = ad 12 a0_ 0) (l0 : a0_ < V 12) : w_X12_count N a0 p1 h K := by
  subst e0
  unfold z_X12_count at hw
  unfold w_X12_count
  refine l_pI W rfl l0 rfl hw (fun h2_ W1_ hw => ?_)
  refine l_cv W1_ rfl l0 rfl ?_
  refine y_X12_isTable W1_ hw (fun v3_ hw => ?_) rfl l0
  refine l_jn (fun (r : Int32 → Prop) (r9 : Int32 → Prop) => ∀ (x0 : Int32), r9 x0 → r x0) hw ?_ (fun j5_ j6_ hj7_ hw => ?_)
  ·
    intro x4_ hw
    refine l_cv W1_ rfl l0 rfl ?_
    refine y_X12_fails W1_ hw (fun v8_ h10_ s11_ W9_ hw => ?_) rfl l0
    refine l_br hw (fun _ hw => ?_) (fun _ hw => ?_)
    ·
      refine l_pI W9_ rfl l0 rfl hw (fun h13_ W12_ hw => ?_)
      refine l_gA W12_ rfl l0 (c := 2) rfl (Or.inr rfl) ?_
      refine l_cv W12_ rfl l0 rfl ?_
      refine y_X12_there W12_ hw (fun v14_ hw => ?_) rfl l0
      refine l_sI W12_ (f := 8) rfl l0 rfl hw (fun h16_ W15_ hw => ?_)
      refine l_gA W15_ rfl l0 (c := 2) rfl (Or.inr rfl) ?_
      refine l_cv W15_ rfl l0 rfl ?_
      refine y_X12_pagesOf W15_ hw (fun v17_ hw => ?_) rfl l0
      refine l_sI W15_ (f := 9) rfl l0 rfl hw (fun h19_ W18_ hw => ?_)
      refine l_fx2 (fun (r : Int32 → Hp → Prop) (r9 : Int32 → St → Prop) => ∀ (x0 : Int32), ∀ (h9 : Hp) (s9 : St), Wf ad h9 V s9 → r9 x0 s9 → r x0 h9) (fun _ _ _ _ h9_ => h9_.elim) ?_ N _ _ _ W18_ hw
      intro w25_ w26_ hv24_ x20_ h22_ s23_ W21_ hw
      refine l_gA W21_ rfl l0 (c := 2) rfl (Or.inr rfl) ?_
      refine l_aI W21_ (f := 2) rfl l0 rfl hw (fun hw => ?_)
      refine l_br hw (fun _ hw => ?_) (fun _ hw => ?_)
      ·
        refine l_gA W21_ rfl l0 (c := 2) rfl (Or.inr rfl) ?_
        refine l_aI W21_ (f := 8) rfl l0 rfl hw (fun hw => ?_)
        exact hk _ _ _ W21_ hw
      ·
        refine l_cv W21_ rfl l0 rfl ?_
        refine y_X12_countsColumn W21_ hw (fun h28_ s29_ W27_ hw => ?_) rfl l0
        exact hv24_ _ _ _ W27_ hw
    ·
      exact hk _ _ _ W9_ hw
  ·
    refine l_br hw (fun _ hw => ?_) (fun _ hw => ?_)
    ·
      exact hj7_ _ hw
    ·
      exact hj7_ _ hw
def z_X12_index (N : Nat) (a0 : Nat) (p1 : Int32) (p2 : Int32) (h0 : St) (K : Int32 → St → Prop) : Prop :=
  lt_ (stP h0 12 a0 0 0 0) fun h1 =>
  z_X12_isTable N a0 p1 h1 fun v2 =>
  jn (fun (v3 : Int32) =>
    z_X12_fails N a0 v3 1 h1 fun v4 h5 =>
    br (v4 = 0) (
      z_X12_isColumn N a0 p1 p2 h5 fun v6 =>
      jn (fun (v7 : Int32) =>
        z_X12_fails N a0 v7 2 h5 fun v8 h9 =>
        br (v8 = 0) (
          jn (fun (v11 : Int32) =>
            z_X12_fails N a0 v11 3 h9 fun v12 h13 =>
            br (v12 = 0) (
              lt_ (stP h13 12 a0 16 0 0) fun h14 =>
              wA 6 (sP h14 12 a0 13 0) (stP h14 12 a0 14 ((sP h14 12 a0 13 0)).toNatClampNeg p1) fun h17 =>
              wA 6 (sP h17 12 a0 13 0) (stP h17 12 a0 15 ((sP h17 12 a0 13 0)).toNatClampNeg p2) fun h20 =>
              lt_ (stP h20 12 a0 13 0 ((sP h20 12 a0 13 0) + 1)) fun h22 =>
              K ((sP h22 12 a0 13 0) - 1) h22) (
              K (-1) h13)) (fun j63 =>
            br ((sP h9 12 a0 13 0) = 6) (
              j63 1) (
              j63 0))) (
          K (-1) h9)) (fun j41 =>
        br (v6 = 0) (
          j41 1) (
          j41 0))) (
      K (-1) h5)) (fun j19 =>
    br (v2 = 0) (
      j19 1) (
      j19 0))
set_option maxHeartbeats 1000000 in
theorem y_X12_index {ad : Nat → Nat → Nat → Nat} {h : Hp} {V : Nat → Nat} {h0 : St} {N : Nat} (W : Wf ad h V h0) {a0 a0_ : Nat} {p1 : Int32} {p2 : Int32} {K : Int32 → Hp → Prop} {K9 : Int32 → St → Prop} (hw : z_X12_index N a0_ p1 p2 h0 K9) (hk : ∀ (r0 : Int32), ∀ (h9 : Hp) (s9 : St), Wf ad h9 V s9 → K9 r0 s9 →  K r0 h9) (e0 : a0 = ad 12 a0_ 0) (l0 : a0_ < V 12) : w_X12_index N a0 p1 p2 h K := by
  subst e0
  unfold z_X12_index at hw
  unfold w_X12_index
  refine l_pI W rfl l0 rfl hw (fun h2_ W1_ hw => ?_)
  refine l_cv W1_ rfl l0 rfl ?_
  refine y_X12_isTable W1_ hw (fun v3_ hw => ?_) rfl l0
  refine l_jn (fun (r : Int32 → Prop) (r9 : Int32 → Prop) => ∀ (x0 : Int32), r9 x0 → r x0) hw ?_ (fun j5_ j6_ hj7_ hw => ?_)
  ·
    intro x4_ hw
    refine l_cv W1_ rfl l0 rfl ?_
    refine y_X12_fails W1_ hw (fun v8_ h10_ s11_ W9_ hw => ?_) rfl l0
    refine l_br hw (fun _ hw => ?_) (fun _ hw => ?_)
    ·
      refine l_cv W9_ rfl l0 rfl ?_
      refine y_X12_isColumn W9_ hw (fun v12_ hw => ?_) rfl l0
      refine l_jn (fun (r : Int32 → Prop) (r9 : Int32 → Prop) => ∀ (x0 : Int32), r9 x0 → r x0) hw ?_ (fun j14_ j15_ hj16_ hw => ?_)
      ·
        intro x13_ hw
        refine l_cv W9_ rfl l0 rfl ?_
        refine y_X12_fails W9_ hw (fun v17_ h19_ s20_ W18_ hw => ?_) rfl l0
        refine l_br hw (fun _ hw => ?_) (fun _ hw => ?_)
        ·
          refine l_gI W18_ rfl l0 rfl ?_
          refine l_jn (fun (r : Int32 → Prop) (r9 : Int32 → Prop) => ∀ (x0 : Int32), r9 x0 → r x0) hw ?_ (fun j22_ j23_ hj24_ hw => ?_)
          ·
            intro x21_ hw
            refine l_cv W18_ rfl l0 rfl ?_
            refine y_X12_fails W18_ hw (fun v25_ h27_ s28_ W26_ hw => ?_) rfl l0
            refine l_br hw (fun _ hw => ?_) (fun _ hw => ?_)
            ·
              refine l_pI W26_ rfl l0 rfl hw (fun h30_ W29_ hw => ?_)
              refine l_gA W29_ rfl l0 (c := 2) rfl (Or.inr rfl) ?_
              refine l_gI W29_ rfl l0 rfl ?_
              refine l_sI W29_ (f := 14) rfl l0 rfl hw (fun h32_ W31_ hw => ?_)
              refine l_gA W31_ rfl l0 (c := 2) rfl (Or.inr rfl) ?_
              refine l_gI W31_ rfl l0 rfl ?_
              refine l_sI W31_ (f := 15) rfl l0 rfl hw (fun h34_ W33_ hw => ?_)
              refine l_gI W33_ rfl l0 rfl ?_
              refine l_pI W33_ rfl l0 rfl hw (fun h36_ W35_ hw => ?_)
              refine l_gI W35_ rfl l0 rfl ?_
              exact hk _ _ _ W35_ hw
            ·
              exact hk _ _ _ W26_ hw
          ·
            refine l_br hw (fun _ hw => ?_) (fun _ hw => ?_)
            ·
              exact hj24_ _ hw
            ·
              exact hj24_ _ hw
        ·
          exact hk _ _ _ W18_ hw
      ·
        refine l_br hw (fun _ hw => ?_) (fun _ hw => ?_)
        ·
          exact hj16_ _ hw
        ·
          exact hj16_ _ hw
    ·
      exact hk _ _ _ W9_ hw
  ·
    refine l_br hw (fun _ hw => ?_) (fun _ hw => ?_)
    ·
      exact hj7_ _ hw
    ·
      exact hj7_ _ hw
def z_X12_pages (N : Nat) (a0 : Nat) (p1 : Int32) (h0 : St) (K : Int32 → St → Prop) : Prop :=
  lt_ (stP h0 12 a0 0 0 0) fun h1 =>
  z_X12_isTable N a0 p1 h1 fun v2 =>
  jn (fun (v3 : Int32) =>
    z_X12_fails N a0 v3 1 h1 fun v4 h5 =>
    br (v4 = 0) (
      z_X12_pagesOf N a0 p1 h5 fun v6 =>
      K v6 h5) (
      K (-1) h5)) (fun j19 =>
    br (v2 = 0) (
      j19 1) (
      j19 0))
set_option maxHeartbeats 1000000 in
theorem y_X12_pages {ad : Nat → Nat → Nat → Nat} {h : Hp} {V : Nat → Nat} {h0 : St} {N : Nat} (W : Wf ad h V h0) {a0 a0_ : Nat} {p1 : Int32} {K : Int32 → Hp → Prop} {K9 : Int32 → St → Prop} (hw : z_X12_pages N a0_ p1 h0 K9) (hk : ∀ (r0 : Int32), ∀ (h9 : Hp) (s9 : St), Wf ad h9 V s9 → K9 r0 s9 →  K r0 h9) (e0 : a0 = ad 12 a0_ 0) (l0 : a0_ < V 12) : w_X12_pages N a0 p1 h K := by
  subst e0
  unfold z_X12_pages at hw
  unfold w_X12_pages
  refine l_pI W rfl l0 rfl hw (fun h2_ W1_ hw => ?_)
  refine l_cv W1_ rfl l0 rfl ?_
  refine y_X12_isTable W1_ hw (fun v3_ hw => ?_) rfl l0
  refine l_jn (fun (r : Int32 → Prop) (r9 : Int32 → Prop) => ∀ (x0 : Int32), r9 x0 → r x0) hw ?_ (fun j5_ j6_ hj7_ hw => ?_)
  ·
    intro x4_ hw
    refine l_cv W1_ rfl l0 rfl ?_
    refine y_X12_fails W1_ hw (fun v8_ h10_ s11_ W9_ hw => ?_) rfl l0
    refine l_br hw (fun _ hw => ?_) (fun _ hw => ?_)
    ·
      refine l_cv W9_ rfl l0 rfl ?_
      refine y_X12_pagesOf W9_ hw (fun v12_ hw => ?_) rfl l0
      exact hk _ _ _ W9_ hw
    ·
      exact hk _ _ _ W9_ hw
  ·
    refine l_br hw (fun _ hw => ?_) (fun _ hw => ?_)
    ·
      exact hj7_ _ hw
    ·
      exact hj7_ _ hw
def z_X12_value (N : Nat) (a0 : Nat) (p1 : Int32) (p2 : Int32) (p3 : Int32) (h0 : St) (K : Int32 → St → Prop) : Prop :=
  lt_ (stP h0 12 a0 0 0 0) fun h1 =>
  z_X12_isTable N a0 p1 h1 fun v2 =>
  jn (fun (v3 : Int32) =>
    z_X12_fails N a0 v3 1 h1 fun v4 h5 =>
    br (v4 = 0) (
      z_X12_isColumn N a0 p1 p3 h5 fun v6 =>
      jn (fun (v7 : Int32) =>
        z_X12_fails N a0 v7 2 h5 fun v8 h9 =>
        br (v8 = 0) (
          z_X12_hasRow N a0 p1 p2 h9 fun v10 =>
          jn (fun (v11 : Int32) =>
            z_X12_fails N a0 v11 3 h9 fun v12 h13 =>
            br (v12 = 0) (
              z_X12_at N a0 p1 p2 p3 h13 fun v14 =>
              K v14 h13) (
              K (-1) h13)) (fun j63 =>
            br (v10 = 0) (
              j63 1) (
              j63 0))) (
          K (-1) h9)) (fun j41 =>
        br (v6 = 0) (
          j41 1) (
          j41 0))) (
      K (-1) h5)) (fun j19 =>
    br (v2 = 0) (
      j19 1) (
      j19 0))
set_option maxHeartbeats 1000000 in
theorem y_X12_value {ad : Nat → Nat → Nat → Nat} {h : Hp} {V : Nat → Nat} {h0 : St} {N : Nat} (W : Wf ad h V h0) {a0 a0_ : Nat} {p1 : Int32} {p2 : Int32} {p3 : Int32} {K : Int32 → Hp → Prop} {K9 : Int32 → St → Prop} (hw : z_X12_value N a0_ p1 p2 p3 h0 K9) (hk : ∀ (r0 : Int32), ∀ (h9 : Hp) (s9 : St), Wf ad h9 V s9 → K9 r0 s9 →  K r0 h9) (e0 : a0 = ad 12 a0_ 0) (l0 : a0_ < V 12) : w_X12_value N a0 p1 p2 p3 h K := by
  subst e0
  unfold z_X12_value at hw
  unfold w_X12_value
  refine l_pI W rfl l0 rfl hw (fun h2_ W1_ hw => ?_)
  refine l_cv W1_ rfl l0 rfl ?_
  refine y_X12_isTable W1_ hw (fun v3_ hw => ?_) rfl l0
  refine l_jn (fun (r : Int32 → Prop) (r9 : Int32 → Prop) => ∀ (x0 : Int32), r9 x0 → r x0) hw ?_ (fun j5_ j6_ hj7_ hw => ?_)
  ·
    intro x4_ hw
    refine l_cv W1_ rfl l0 rfl ?_
    refine y_X12_fails W1_ hw (fun v8_ h10_ s11_ W9_ hw => ?_) rfl l0
    refine l_br hw (fun _ hw => ?_) (fun _ hw => ?_)
    ·
      refine l_cv W9_ rfl l0 rfl ?_
      refine y_X12_isColumn W9_ hw (fun v12_ hw => ?_) rfl l0
      refine l_jn (fun (r : Int32 → Prop) (r9 : Int32 → Prop) => ∀ (x0 : Int32), r9 x0 → r x0) hw ?_ (fun j14_ j15_ hj16_ hw => ?_)
      ·
        intro x13_ hw
        refine l_cv W9_ rfl l0 rfl ?_
        refine y_X12_fails W9_ hw (fun v17_ h19_ s20_ W18_ hw => ?_) rfl l0
        refine l_br hw (fun _ hw => ?_) (fun _ hw => ?_)
        ·
          refine l_cv W18_ rfl l0 rfl ?_
          refine y_X12_hasRow W18_ hw (fun v21_ hw => ?_) rfl l0
          refine l_jn (fun (r : Int32 → Prop) (r9 : Int32 → Prop) => ∀ (x0 : Int32), r9 x0 → r x0) hw ?_ (fun j23_ j24_ hj25_ hw => ?_)
          ·
            intro x22_ hw
            refine l_cv W18_ rfl l0 rfl ?_
            refine y_X12_fails W18_ hw (fun v26_ h28_ s29_ W27_ hw => ?_) rfl l0
            refine l_br hw (fun _ hw => ?_) (fun _ hw => ?_)
            ·
              refine l_cv W27_ rfl l0 rfl ?_
              refine y_X12_at W27_ hw (fun v30_ hw => ?_) rfl l0
              exact hk _ _ _ W27_ hw
            ·
              exact hk _ _ _ W27_ hw
          ·
            refine l_br hw (fun _ hw => ?_) (fun _ hw => ?_)
            ·
              exact hj25_ _ hw
            ·
              exact hj25_ _ hw
        ·
          exact hk _ _ _ W18_ hw
      ·
        refine l_br hw (fun _ hw => ?_) (fun _ hw => ?_)
        ·
          exact hj16_ _ hw
        ·
          exact hj16_ _ hw
    ·
      exact hk _ _ _ W9_ hw
  ·
    refine l_br hw (fun _ hw => ?_) (fun _ hw => ?_)
    ·
      exact hj7_ _ hw
    ·
      exact hj7_ _ hw
def z_X12_lists (N : Nat) (a0 : Nat) (p1 : Int32) (h0 : St) (K : St → Prop) : Prop :=
  wI 6 p1 <|
  fx3 (fun (w12 : Int32 → Int32 → St → Prop) (x4 : Int32) (x5 : Int32) (h3 : St) =>
    br (99 < x5) (
      wA 6 p1 (stP h3 12 a0 18 (p1).toNatClampNeg x4) fun h7 =>
      K h7) (
      fx3 (fun (w22 : Int32 → Int32 → St → Prop) (x9 : Int32) (x10 : Int32) (h8 : St) =>
        wI 3 (sP h0 12 a0 14 (p1).toNatClampNeg) <|
        br ((sP h8 12 a0 3 ((sP h0 12 a0 14 (p1).toNatClampNeg)).toNatClampNeg) ≤ x10) (
          w12 x9 (x5 + 1) h8) (
          z_X12_hasRow N a0 (sP h0 12 a0 14 (p1).toNatClampNeg) x10 h8 fun v13 =>
          jn (fun (x15 : Int32) (h14 : St) =>
            w22 x15 (x10 + 1) h14) (fun j77 =>
            br (v13 = 0) (
              j77 x9 h8) (
              wI 6 p1 <|
              z_X12_at N a0 (sP h0 12 a0 14 (p1).toNatClampNeg) x10 (sP h8 12 a0 15 (p1).toNatClampNeg) h8 fun v18 =>
              br (v18 = x5) (
                wA 240 ((40 * p1) + x9) (stP h8 12 a0 17 (((40 * p1) + x9)).toNatClampNeg x10) fun h20 =>
                j77 (x9 + 1) h20) (
                j77 x9 h8))))) N x4 0 h3)) N 0 0 h0
set_option maxHeartbeats 1000000 in
theorem y_X12_lists {ad : Nat → Nat → Nat → Nat} {h : Hp} {V : Nat → Nat} {h0 : St} {N : Nat} (W : Wf ad h V h0) {a0 a0_ : Nat} {p1 : Int32} {K : Hp → Prop} {K9 : St → Prop} (hw : z_X12_lists N a0_ p1 h0 K9) (hk : ∀ (h9 : Hp) (s9 : St), Wf ad h9 V s9 → K9 s9 →  K h9) (e0 : a0 = ad 12 a0_ 0) (l0 : a0_ < V 12) : w_X12_lists N a0 p1 h K := by
  subst e0
  unfold z_X12_lists at hw
  unfold w_X12_lists
  refine l_gA W rfl l0 (c := 2) rfl (Or.inr rfl) ?_
  refine l_aI W (f := 14) rfl l0 rfl hw (fun hw => ?_)
  refine l_fx3 (fun (r : Int32 → Int32 → Hp → Prop) (r9 : Int32 → Int32 → St → Prop) => ∀ (x0 : Int32), ∀ (x1 : Int32), ∀ (h9 : Hp) (s9 : St), Wf ad h9 V s9 → r9 x0 x1 s9 → r x0 x1 h9) (fun _ _ _ _ _ h9_ => h9_.elim) ?_ N _ _ _ _ W hw
  intro w7_ w8_ hv6_ x1_ x2_ h4_ s5_ W3_ hw
  refine l_br hw (fun _ hw => ?_) (fun _ hw => ?_)
  ·
    refine l_gA W3_ rfl l0 (c := 2) rfl (Or.inr rfl) ?_
    refine l_sI W3_ (f := 18) rfl l0 rfl hw (fun h10_ W9_ hw => ?_)
    exact hk _ _ W9_ hw
  ·
    refine l_fx3 (fun (r : Int32 → Int32 → Hp → Prop) (r9 : Int32 → Int32 → St → Prop) => ∀ (x0 : Int32), ∀ (x1 : Int32), ∀ (h9 : Hp) (s9 : St), Wf ad h9 V s9 → r9 x0 x1 s9 → r x0 x1 h9) (fun _ _ _ _ _ h9_ => h9_.elim) ?_ N _ _ _ _ W3_ hw
    intro w17_ w18_ hv16_ x11_ x12_ h14_ s15_ W13_ hw
    refine l_gA W13_ rfl l0 (c := 2) rfl (Or.inr rfl) ?_
    refine l_aI W13_ (f := 3) rfl l0 rfl hw (fun hw => ?_)
    refine l_br hw (fun _ hw => ?_) (fun _ hw => ?_)
    ·
      exact hv6_ _ _ _ _ W13_ hw
    ·
      refine l_cv W13_ rfl l0 rfl ?_
      refine y_X12_hasRow W13_ hw (fun v19_ hw => ?_) rfl l0
      refine l_jn (fun (r : Int32 → Hp → Prop) (r9 : Int32 → St → Prop) => ∀ (x0 : Int32), ∀ (h9 : Hp) (s9 : St), Wf ad h9 V s9 → r9 x0 s9 → r x0 h9) hw ?_ (fun j24_ j25_ hj26_ hw => ?_)
      ·
        intro x20_ h22_ s23_ W21_ hw
        exact hv16_ _ _ _ _ W21_ hw
      ·
        refine l_br hw (fun _ hw => ?_) (fun _ hw => ?_)
        ·
          exact hj26_ _ _ _ W13_ hw
        ·
          refine l_gA W13_ rfl l0 (c := 2) rfl (Or.inr rfl) ?_
          refine l_aI W13_ (f := 15) rfl l0 rfl hw (fun hw => ?_)
          refine l_cv W13_ rfl l0 rfl ?_
          refine y_X12_at W13_ hw (fun v27_ hw => ?_) rfl l0
          refine l_br hw (fun _ hw => ?_) (fun _ hw => ?_)
          ·
            refine l_gA W13_ rfl l0 (c := 2) rfl (Or.inr rfl) ?_
            refine l_sI W13_ (f := 17) rfl l0 rfl hw (fun h29_ W28_ hw => ?_)
            exact hj26_ _ _ _ W28_ hw
          ·
            exact hj26_ _ _ _ W13_ hw
def z_X12_entries (N : Nat) (a0 : Nat) (p1 : Int32) (h0 : St) (K : Int32 → St → Prop) : Prop :=
  lt_ (stP h0 12 a0 0 0 0) fun h1 =>
  z_X12_isIndex N a0 p1 h1 fun v2 =>
  jn (fun (v3 : Int32) =>
    z_X12_fails N a0 v3 1 h1 fun v4 h5 =>
    br (v4 = 0) (
      wI 6 p1 <|
      z_X12_there N a0 (sP h5 12 a0 14 (p1).toNatClampNeg) h5 fun v8 =>
      K v8 h5) (
      K (-1) h5)) (fun j19 =>
    br (v2 = 0) (
      j19 1) (
      j19 0))
set_option maxHeartbeats 1000000 in
theorem y_X12_entries {ad : Nat → Nat → Nat → Nat} {h : Hp} {V : Nat → Nat} {h0 : St} {N : Nat} (W : Wf ad h V h0) {a0 a0_ : Nat} {p1 : Int32} {K : Int32 → Hp → Prop} {K9 : Int32 → St → Prop} (hw : z_X12_entries N a0_ p1 h0 K9) (hk : ∀ (r0 : Int32), ∀ (h9 : Hp) (s9 : St), Wf ad h9 V s9 → K9 r0 s9 →  K r0 h9) (e0 : a0 = ad 12 a0_ 0) (l0 : a0_ < V 12) : w_X12_entries N a0 p1 h K := by
  subst e0
  unfold z_X12_entries at hw
  unfold w_X12_entries
  refine l_pI W rfl l0 rfl hw (fun h2_ W1_ hw => ?_)
  refine l_cv W1_ rfl l0 rfl ?_
  refine y_X12_isIndex W1_ hw (fun v3_ hw => ?_) rfl l0
  refine l_jn (fun (r : Int32 → Prop) (r9 : Int32 → Prop) => ∀ (x0 : Int32), r9 x0 → r x0) hw ?_ (fun j5_ j6_ hj7_ hw => ?_)
  ·
    intro x4_ hw
    refine l_cv W1_ rfl l0 rfl ?_
    refine y_X12_fails W1_ hw (fun v8_ h10_ s11_ W9_ hw => ?_) rfl l0
    refine l_br hw (fun _ hw => ?_) (fun _ hw => ?_)
    ·
      refine l_gA W9_ rfl l0 (c := 2) rfl (Or.inr rfl) ?_
      refine l_aI W9_ (f := 14) rfl l0 rfl hw (fun hw => ?_)
      refine l_cv W9_ rfl l0 rfl ?_
      refine y_X12_there W9_ hw (fun v12_ hw => ?_) rfl l0
      exact hk _ _ _ W9_ hw
    ·
      exact hk _ _ _ W9_ hw
  ·
    refine l_br hw (fun _ hw => ?_) (fun _ hw => ?_)
    ·
      exact hj7_ _ hw
    ·
      exact hj7_ _ hw
def z_X12_entryAt (N : Nat) (a0 : Nat) (p1 : Int32) (p2 : Int32) (h0 : St) (K : Int32 → St → Prop) : Prop :=
  lt_ (stP h0 12 a0 0 0 0) fun h1 =>
  z_X12_isIndex N a0 p1 h1 fun v2 =>
  jn (fun (v3 : Int32) =>
    z_X12_fails N a0 v3 1 h1 fun v4 h5 =>
    br (v4 = 0) (
      wI 6 p1 <|
      z_X12_there N a0 (sP h5 12 a0 14 (p1).toNatClampNeg) h5 fun v8 =>
      z_X12_in N p2 0 (v8 - 1) h5 fun v9 =>
      jn (fun (v10 : Int32) =>
        z_X12_fails N a0 v10 2 h5 fun v11 h12 =>
        br (v11 = 0) (
          z_X12_lists N a0 p1 h12 fun h13 =>
          wI 240 ((40 * p1) + p2) <|
          K (sP h13 12 a0 17 (((40 * p1) + p2)).toNatClampNeg) h13) (
          K (-1) h12)) (fun j52 =>
        br (v9 = 0) (
          j52 1) (
          j52 0))) (
      K (-1) h5)) (fun j19 =>
    br (v2 = 0) (
      j19 1) (
      j19 0))
set_option maxHeartbeats 1000000 in
theorem y_X12_entryAt {ad : Nat → Nat → Nat → Nat} {h : Hp} {V : Nat → Nat} {h0 : St} {N : Nat} (W : Wf ad h V h0) {a0 a0_ : Nat} {p1 : Int32} {p2 : Int32} {K : Int32 → Hp → Prop} {K9 : Int32 → St → Prop} (hw : z_X12_entryAt N a0_ p1 p2 h0 K9) (hk : ∀ (r0 : Int32), ∀ (h9 : Hp) (s9 : St), Wf ad h9 V s9 → K9 r0 s9 →  K r0 h9) (e0 : a0 = ad 12 a0_ 0) (l0 : a0_ < V 12) : w_X12_entryAt N a0 p1 p2 h K := by
  subst e0
  unfold z_X12_entryAt at hw
  unfold w_X12_entryAt
  refine l_pI W rfl l0 rfl hw (fun h2_ W1_ hw => ?_)
  refine l_cv W1_ rfl l0 rfl ?_
  refine y_X12_isIndex W1_ hw (fun v3_ hw => ?_) rfl l0
  refine l_jn (fun (r : Int32 → Prop) (r9 : Int32 → Prop) => ∀ (x0 : Int32), r9 x0 → r x0) hw ?_ (fun j5_ j6_ hj7_ hw => ?_)
  ·
    intro x4_ hw
    refine l_cv W1_ rfl l0 rfl ?_
    refine y_X12_fails W1_ hw (fun v8_ h10_ s11_ W9_ hw => ?_) rfl l0
    refine l_br hw (fun _ hw => ?_) (fun _ hw => ?_)
    ·
      refine l_gA W9_ rfl l0 (c := 2) rfl (Or.inr rfl) ?_
      refine l_aI W9_ (f := 14) rfl l0 rfl hw (fun hw => ?_)
      refine l_cv W9_ rfl l0 rfl ?_
      refine y_X12_there W9_ hw (fun v12_ hw => ?_) rfl l0
      refine y_X12_in W9_ hw (fun v13_ hw => ?_) 
      refine l_jn (fun (r : Int32 → Prop) (r9 : Int32 → Prop) => ∀ (x0 : Int32), r9 x0 → r x0) hw ?_ (fun j15_ j16_ hj17_ hw => ?_)
      ·
        intro x14_ hw
        refine l_cv W9_ rfl l0 rfl ?_
        refine y_X12_fails W9_ hw (fun v18_ h20_ s21_ W19_ hw => ?_) rfl l0
        refine l_br hw (fun _ hw => ?_) (fun _ hw => ?_)
        ·
          refine l_cv W19_ rfl l0 rfl ?_
          refine y_X12_lists W19_ hw (fun h23_ s24_ W22_ hw => ?_) rfl l0
          refine l_gA W22_ rfl l0 (c := 2) rfl (Or.inr rfl) ?_
          refine l_aI W22_ (f := 17) rfl l0 rfl hw (fun hw => ?_)
          exact hk _ _ _ W22_ hw
        ·
          exact hk _ _ _ W19_ hw
      ·
        refine l_br hw (fun _ hw => ?_) (fun _ hw => ?_)
        ·
          exact hj17_ _ hw
        ·
          exact hj17_ _ hw
    ·
      exact hk _ _ _ W9_ hw
  ·
    refine l_br hw (fun _ hw => ?_) (fun _ hw => ?_)
    ·
      exact hj7_ _ hw
    ·
      exact hj7_ _ hw
def z_X12_counted (N : Nat) (a0 : Nat) (p1 : Int32) (p2 : Int32) (p3 : Int32) (h0 : St) (K : Int32 → St → Prop) : Prop :=
  lt_ (stP h0 12 a0 0 0 0) fun h1 =>
  jn (fun (v2 : Int32) =>
    z_X12_isTable N a0 p1 h1 fun v3 =>
    jn (fun (v4 : Int32) =>
      z_X12_fails N a0 v4 1 h1 fun v5 h6 =>
      br (v5 = 0) (
        z_X12_isColumn N a0 p1 p2 h6 fun v7 =>
        jn (fun (v8 : Int32) =>
          z_X12_fails N a0 v8 2 h6 fun v9 h10 =>
          br (v9 = 0) (
            br (p3 = 114) (
              wI 3 p1 <|
              K (sP h10 12 a0 8 (p1).toNatClampNeg) h10) (
              br (p3 = 112) (
                wI 3 p1 <|
                K (sP h10 12 a0 9 (p1).toNatClampNeg) h10) (
                br (p3 = 117) (
                  wI 9 ((3 * p1) + p2) <|
                  K (sP h10 12 a0 10 (((3 * p1) + p2)).toNatClampNeg) h10) (
                  br (p3 = 108) (
                    wI 9 ((3 * p1) + p2) <|
                    K (sP h10 12 a0 11 (((3 * p1) + p2)).toNatClampNeg) h10) (
                    wI 9 ((3 * p1) + p2) <|
                    K (sP h10 12 a0 12 (((3 * p1) + p2)).toNatClampNeg) h10))))) (
            K (-1) h10)) (fun j83 =>
          jn (
            j83 1) (fun j78 =>
            br (v7 = 0) (
              j78 ) (
              br (v2 = 0) (
                j78 ) (
                j83 0))))) (
        K (-1) h6)) (fun j56 =>
      br (v3 = 0) (
        j56 1) (
        j56 0))) (fun j40 =>
    jn (
      j40 1) (fun j35 =>
      br (p3 = 114) (
        j35 ) (
        br (p3 = 112) (
          j35 ) (
          br (p3 = 117) (
            j35 ) (
            br (p3 = 108) (
              j35 ) (
              br (p3 = 103) (
                j35 ) (
                j40 0)))))))
set_option maxHeartbeats 1000000 in
theorem y_X12_counted {ad : Nat → Nat → Nat → Nat} {h : Hp} {V : Nat → Nat} {h0 : St} {N : Nat} (W : Wf ad h V h0) {a0 a0_ : Nat} {p1 : Int32} {p2 : Int32} {p3 : Int32} {K : Int32 → Hp → Prop} {K9 : Int32 → St → Prop} (hw : z_X12_counted N a0_ p1 p2 p3 h0 K9) (hk : ∀ (r0 : Int32), ∀ (h9 : Hp) (s9 : St), Wf ad h9 V s9 → K9 r0 s9 →  K r0 h9) (e0 : a0 = ad 12 a0_ 0) (l0 : a0_ < V 12) : w_X12_counted N a0 p1 p2 p3 h K := by
  subst e0
  unfold z_X12_counted at hw
  unfold w_X12_counted
  refine l_pI W rfl l0 rfl hw (fun h2_ W1_ hw => ?_)
  refine l_jn (fun (r : Int32 → Prop) (r9 : Int32 → Prop) => ∀ (x0 : Int32), r9 x0 → r x0) hw ?_ (fun j4_ j5_ hj6_ hw => ?_)
  ·
    intro x3_ hw
    refine l_cv W1_ rfl l0 rfl ?_
    refine y_X12_isTable W1_ hw (fun v7_ hw => ?_) rfl l0
    refine l_jn (fun (r : Int32 → Prop) (r9 : Int32 → Prop) => ∀ (x0 : Int32), r9 x0 → r x0) hw ?_ (fun j9_ j10_ hj11_ hw => ?_)
    ·
      intro x8_ hw
      refine l_cv W1_ rfl l0 rfl ?_
      refine y_X12_fails W1_ hw (fun v12_ h14_ s15_ W13_ hw => ?_) rfl l0
      refine l_br hw (fun _ hw => ?_) (fun _ hw => ?_)
      ·
        refine l_cv W13_ rfl l0 rfl ?_
        refine y_X12_isColumn W13_ hw (fun v16_ hw => ?_) rfl l0
        refine l_jn (fun (r : Int32 → Prop) (r9 : Int32 → Prop) => ∀ (x0 : Int32), r9 x0 → r x0) hw ?_ (fun j18_ j19_ hj20_ hw => ?_)
        ·
          intro x17_ hw
          refine l_cv W13_ rfl l0 rfl ?_
          refine y_X12_fails W13_ hw (fun v21_ h23_ s24_ W22_ hw => ?_) rfl l0
          refine l_br hw (fun _ hw => ?_) (fun _ hw => ?_)
          ·
            refine l_br hw (fun _ hw => ?_) (fun _ hw => ?_)
            ·
              refine l_gA W22_ rfl l0 (c := 2) rfl (Or.inr rfl) ?_
              refine l_aI W22_ (f := 8) rfl l0 rfl hw (fun hw => ?_)
              exact hk _ _ _ W22_ hw
            ·
              refine l_br hw (fun _ hw => ?_) (fun _ hw => ?_)
              ·
                refine l_gA W22_ rfl l0 (c := 2) rfl (Or.inr rfl) ?_
                refine l_aI W22_ (f := 9) rfl l0 rfl hw (fun hw => ?_)
                exact hk _ _ _ W22_ hw
              ·
                refine l_br hw (fun _ hw => ?_) (fun _ hw => ?_)
                ·
                  refine l_gA W22_ rfl l0 (c := 2) rfl (Or.inr rfl) ?_
                  refine l_aI W22_ (f := 10) rfl l0 rfl hw (fun hw => ?_)
                  exact hk _ _ _ W22_ hw
                ·
                  refine l_br hw (fun _ hw => ?_) (fun _ hw => ?_)
                  ·
                    refine l_gA W22_ rfl l0 (c := 2) rfl (Or.inr rfl) ?_
                    refine l_aI W22_ (f := 11) rfl l0 rfl hw (fun hw => ?_)
                    exact hk _ _ _ W22_ hw
                  ·
                    refine l_gA W22_ rfl l0 (c := 2) rfl (Or.inr rfl) ?_
                    refine l_aI W22_ (f := 12) rfl l0 rfl hw (fun hw => ?_)
                    exact hk _ _ _ W22_ hw
          ·
            exact hk _ _ _ W22_ hw
        ·
          refine l_jn (fun (r : Prop) (r9 : Prop) =>  r9  → r ) hw ?_ (fun j25_ j26_ hj27_ hw => ?_)
          ·
            intro hw
            exact hj20_ _ hw
          ·
            refine l_br hw (fun _ hw => ?_) (fun _ hw => ?_)
            ·
              exact hj27_  hw
            ·
              refine l_br hw (fun _ hw => ?_) (fun _ hw => ?_)
              ·
                exact hj27_  hw
              ·
                exact hj20_ _ hw
      ·
        exact hk _ _ _ W13_ hw
    ·
      refine l_br hw (fun _ hw => ?_) (fun _ hw => ?_)
      ·
        exact hj11_ _ hw
      ·
        exact hj11_ _ hw
  ·
    refine l_jn (fun (r : Prop) (r9 : Prop) =>  r9  → r ) hw ?_ (fun j28_ j29_ hj30_ hw => ?_)
    ·
      intro hw
      exact hj6_ _ hw
    ·
      refine l_br hw (fun _ hw => ?_) (fun _ hw => ?_)
      ·
        exact hj30_  hw
      ·
        refine l_br hw (fun _ hw => ?_) (fun _ hw => ?_)
        ·
          exact hj30_  hw
        ·
          refine l_br hw (fun _ hw => ?_) (fun _ hw => ?_)
          ·
            exact hj30_  hw
          ·
            refine l_br hw (fun _ hw => ?_) (fun _ hw => ?_)
            ·
              exact hj30_  hw
            ·
              refine l_br hw (fun _ hw => ?_) (fun _ hw => ?_)
              ·
                exact hj30_  hw
              ·
                exact hj6_ _ hw
def z_X12_looksUp (N : Nat) (a0 : Nat) (p1 : Int32) (p2 : Int32) (h0 : St) (K : St → Prop) : Prop :=
  lt_ (stP h0 12 a0 23 0 ((sP h0 12 a0 23 0) + 1)) fun h2 =>
  fx2 (fun (w15 : Int32 → Int32 → Prop) (x3 : Int32) (x4 : Int32) =>
    wI 2 p1 <|
    br ((sP h2 12 a0 21 (p1).toNatClampNeg) ≤ x4) (
      jn (fun (v8 : Int32) =>
        lt_ (stP h2 12 a0 22 0 ((sP h2 12 a0 22 0) + v8)) fun h9 =>
        jn (fun (h10 : St) =>
          wI 2 p1 <|
          fx2 (fun (w91 : Int32 → St → Prop) (x14 : Int32) (h13 : St) =>
            br (x14 ≤ 0) (
              wA 26 (13 * p1) (stP h13 12 a0 20 ((13 * p1)).toNatClampNeg p2) fun h16 =>
              wI 2 p1 <|
              wA 2 p1 (stP h16 12 a0 21 (p1).toNatClampNeg ((sP h16 12 a0 21 (p1).toNatClampNeg) + 1)) fun h19 =>
              wI 2 p1 <|
              z_X12_fewest N (sP h19 12 a0 21 (p1).toNatClampNeg) (sP h19 12 a0 19 0) h19 fun v24 =>
              wA 2 p1 (stP h19 12 a0 21 (p1).toNatClampNeg v24) fun h25 =>
              K h25) (
              wI 26 (((13 * p1) + x14) - 1) <|
              wA 26 ((13 * p1) + x14) (stP h13 12 a0 20 (((13 * p1) + x14)).toNatClampNeg (sP h13 12 a0 20 ((((13 * p1) + x14) - 1)).toNatClampNeg)) fun h29 =>
              w91 (x14 + (-1)) h29)) N (sP h10 12 a0 21 (p1).toNatClampNeg) h10) (fun j83 =>
          br (x3 < 0) (
            j83 h9) (
            z_X12_takesOut N a0 p1 x3 h9 fun h30 =>
            j83 h30))) (fun j69 =>
        br (0 ≤ x3) (
          j69 0) (
          j69 1))) (
      wI 26 ((13 * p1) + x4) <|
      jn (fun (v33 : Int32) =>
        w15 v33 (x4 + 1)) (fun j48 =>
        br ((sP h2 12 a0 20 (((13 * p1) + x4)).toNatClampNeg) = p2) (
          j48 x4) (
          j48 x3)))) N (-1) 0
set_option maxHeartbeats 1000000 in
theorem y_X12_looksUp {ad : Nat → Nat → Nat → Nat} {h : Hp} {V : Nat → Nat} {h0 : St} {N : Nat} (W : Wf ad h V h0) {a0 a0_ : Nat} {p1 : Int32} {p2 : Int32} {K : Hp → Prop} {K9 : St → Prop} (hw : z_X12_looksUp N a0_ p1 p2 h0 K9) (hk : ∀ (h9 : Hp) (s9 : St), Wf ad h9 V s9 → K9 s9 →  K h9) (e0 : a0 = ad 12 a0_ 0) (l0 : a0_ < V 12) : w_X12_looksUp N a0 p1 p2 h K := by
  subst e0
  unfold z_X12_looksUp at hw
  unfold w_X12_looksUp
  refine l_gI W rfl l0 rfl ?_
  refine l_pI W rfl l0 rfl hw (fun h2_ W1_ hw => ?_)
  refine l_fx2 (fun (r : Int32 → Int32 → Prop) (r9 : Int32 → Int32 → Prop) => ∀ (x0 : Int32), ∀ (x1 : Int32), r9 x0 x1 → r x0 x1) (fun _ _ h9_ => h9_.elim) ?_ N _ _ hw
  intro w6_ w7_ hv5_ x3_ x4_ hw
  refine l_gA W1_ rfl l0 (c := 2) rfl (Or.inr rfl) ?_
  refine l_aI W1_ (f := 21) rfl l0 rfl hw (fun hw => ?_)
  refine l_br hw (fun _ hw => ?_) (fun _ hw => ?_)
  ·
    refine l_gI W1_ rfl l0 rfl ?_
    refine l_jn (fun (r : Int32 → Prop) (r9 : Int32 → Prop) => ∀ (x0 : Int32), r9 x0 → r x0) hw ?_ (fun j9_ j10_ hj11_ hw => ?_)
    ·
      intro x8_ hw
      refine l_pI W1_ rfl l0 rfl hw (fun h13_ W12_ hw => ?_)
      refine l_jn (fun (r : Hp → Prop) (r9 : St → Prop) => ∀ (h9 : Hp) (s9 : St), Wf ad h9 V s9 → r9 s9 → r h9) hw ?_ (fun j17_ j18_ hj19_ hw => ?_)
      ·
        intro h15_ s16_ W14_ hw
        refine l_gA W14_ rfl l0 (c := 2) rfl (Or.inr rfl) ?_
        refine l_aI W14_ (f := 21) rfl l0 rfl hw (fun hw => ?_)
        refine l_fx2 (fun (r : Int32 → Hp → Prop) (r9 : Int32 → St → Prop) => ∀ (x0 : Int32), ∀ (h9 : Hp) (s9 : St), Wf ad h9 V s9 → r9 x0 s9 → r x0 h9) (fun _ _ _ _ h9_ => h9_.elim) ?_ N _ _ _ W14_ hw
        intro w25_ w26_ hv24_ x20_ h22_ s23_ W21_ hw
        refine l_br hw (fun _ hw => ?_) (fun _ hw => ?_)
        ·
          refine l_gA W21_ rfl l0 (c := 2) rfl (Or.inr rfl) ?_
          refine l_sI W21_ (f := 20) rfl l0 rfl hw (fun h28_ W27_ hw => ?_)
          refine l_gA W27_ rfl l0 (c := 2) rfl (Or.inr rfl) ?_
          refine l_aI W27_ (f := 21) rfl l0 rfl hw (fun hw => ?_)
          refine l_sI W27_ (f := 21) rfl l0 rfl hw (fun h30_ W29_ hw => ?_)
          refine l_gA W29_ rfl l0 (c := 2) rfl (Or.inr rfl) ?_
          refine l_gA W29_ rfl l0 (c := 2) rfl (Or.inr rfl) ?_
          refine l_aI W29_ (f := 21) rfl l0 rfl hw (fun hw => ?_)
          refine l_gI W29_ rfl l0 rfl ?_
          refine y_X12_fewest W29_ hw (fun v31_ hw => ?_) 
          refine l_sI W29_ (f := 21) rfl l0 rfl hw (fun h33_ W32_ hw => ?_)
          exact hk _ _ W32_ hw
        ·
          refine l_gA W21_ rfl l0 (c := 2) rfl (Or.inr rfl) ?_
          refine l_gA W21_ rfl l0 (c := 2) rfl (Or.inr rfl) ?_
          refine l_aI W21_ (f := 20) rfl l0 rfl hw (fun hw => ?_)
          refine l_sI W21_ (f := 20) rfl l0 rfl hw (fun h35_ W34_ hw => ?_)
          exact hv24_ _ _ _ W34_ hw
      ·
        refine l_br hw (fun _ hw => ?_) (fun _ hw => ?_)
        ·
          exact hj19_ _ _ W12_ hw
        ·
          refine l_cv W12_ rfl l0 rfl ?_
          refine y_X12_takesOut W12_ hw (fun h37_ s38_ W36_ hw => ?_) rfl l0
          exact hj19_ _ _ W36_ hw
    ·
      refine l_br hw (fun _ hw => ?_) (fun _ hw => ?_)
      ·
        exact hj11_ _ hw
      ·
        exact hj11_ _ hw
  ·
    refine l_gA W1_ rfl l0 (c := 2) rfl (Or.inr rfl) ?_
    refine l_aI W1_ (f := 20) rfl l0 rfl hw (fun hw => ?_)
    refine l_jn (fun (r : Int32 → Prop) (r9 : Int32 → Prop) => ∀ (x0 : Int32), r9 x0 → r x0) hw ?_ (fun j40_ j41_ hj42_ hw => ?_)
    ·
      intro x39_ hw
      exact hv5_ _ _ hw
    ·
      refine l_br hw (fun _ hw => ?_) (fun _ hw => ?_)
      ·
        exact hj42_ _ hw
      ·
        exact hj42_ _ hw
def z_X12_frames (N : Nat) (a0 : Nat) (p1 : Int32) (h0 : St) (K : Int32 → St → Prop) : Prop :=
  lt_ (stP h0 12 a0 0 0 0) fun h1 =>
  z_X12_in N p1 0 12 h1 fun v2 =>
  jn (fun (v3 : Int32) =>
    z_X12_fails N a0 v3 1 h1 fun v4 h5 =>
    br (v4 = 0) (
      lt_ (stP h5 12 a0 16 0 0) fun h6 =>
      lt_ (stP h6 12 a0 19 0 p1) fun h8 =>
      wI 2 (0 : Int32) <|
      z_X12_fewest N (sP h8 12 a0 21 ((0 : Int32)).toNatClampNeg) (sP h8 12 a0 19 0) h8 fun v13 =>
      wA 2 (0 : Int32) (stP h8 12 a0 21 ((0 : Int32)).toNatClampNeg v13) fun h14 =>
      K (sP h6 12 a0 19 0) h14) (
      K (-1) h5)) (fun j21 =>
    br (v2 = 0) (
      j21 1) (
      j21 0))
set_option maxHeartbeats 1000000 in
theorem y_X12_frames {ad : Nat → Nat → Nat → Nat} {h : Hp} {V : Nat → Nat} {h0 : St} {N : Nat} (W : Wf ad h V h0) {a0 a0_ : Nat} {p1 : Int32} {K : Int32 → Hp → Prop} {K9 : Int32 → St → Prop} (hw : z_X12_frames N a0_ p1 h0 K9) (hk : ∀ (r0 : Int32), ∀ (h9 : Hp) (s9 : St), Wf ad h9 V s9 → K9 r0 s9 →  K r0 h9) (e0 : a0 = ad 12 a0_ 0) (l0 : a0_ < V 12) : w_X12_frames N a0 p1 h K := by
  subst e0
  unfold z_X12_frames at hw
  unfold w_X12_frames
  refine l_pI W rfl l0 rfl hw (fun h2_ W1_ hw => ?_)
  refine y_X12_in W1_ hw (fun v3_ hw => ?_) 
  refine l_jn (fun (r : Int32 → Prop) (r9 : Int32 → Prop) => ∀ (x0 : Int32), r9 x0 → r x0) hw ?_ (fun j5_ j6_ hj7_ hw => ?_)
  ·
    intro x4_ hw
    refine l_cv W1_ rfl l0 rfl ?_
    refine y_X12_fails W1_ hw (fun v8_ h10_ s11_ W9_ hw => ?_) rfl l0
    refine l_br hw (fun _ hw => ?_) (fun _ hw => ?_)
    ·
      refine l_pI W9_ rfl l0 rfl hw (fun h13_ W12_ hw => ?_)
      refine l_gI W12_ rfl l0 rfl ?_
      refine l_pI W12_ rfl l0 rfl hw (fun h15_ W14_ hw => ?_)
      refine l_gA W14_ rfl l0 (c := 2) rfl (Or.inr rfl) ?_
      refine l_gA W14_ rfl l0 (c := 2) rfl (Or.inr rfl) ?_
      refine l_aI W14_ (f := 21) rfl l0 rfl hw (fun hw => ?_)
      refine l_gI W14_ rfl l0 rfl ?_
      refine y_X12_fewest W14_ hw (fun v16_ hw => ?_) 
      refine l_sI W14_ (f := 21) rfl l0 rfl hw (fun h18_ W17_ hw => ?_)
      exact hk _ _ _ W17_ hw
    ·
      exact hk _ _ _ W9_ hw
  ·
    refine l_br hw (fun _ hw => ?_) (fun _ hw => ?_)
    ·
      exact hj7_ _ hw
    ·
      exact hj7_ _ hw
def z_X12_cached (N : Nat) (a0 : Nat) (h0 : St) (K : Int32 → St → Prop) : Prop :=
  lt_ (stP h0 12 a0 0 0 0) fun h1 =>
  wI 2 (0 : Int32) <|
  K (sP h1 12 a0 21 ((0 : Int32)).toNatClampNeg) h1
set_option maxHeartbeats 1000000 in
theorem y_X12_cached {ad : Nat → Nat → Nat → Nat} {h : Hp} {V : Nat → Nat} {h0 : St} {N : Nat} (W : Wf ad h V h0) {a0 a0_ : Nat} {K : Int32 → Hp → Prop} {K9 : Int32 → St → Prop} (hw : z_X12_cached N a0_ h0 K9) (hk : ∀ (r0 : Int32), ∀ (h9 : Hp) (s9 : St), Wf ad h9 V s9 → K9 r0 s9 →  K r0 h9) (e0 : a0 = ad 12 a0_ 0) (l0 : a0_ < V 12) : w_X12_cached N a0 h K := by
  subst e0
  unfold z_X12_cached at hw
  unfold w_X12_cached
  refine l_pI W rfl l0 rfl hw (fun h2_ W1_ hw => ?_)
  refine l_gA W1_ rfl l0 (c := 2) rfl (Or.inr rfl) ?_
  refine l_aI W1_ (f := 21) rfl l0 rfl hw (fun hw => ?_)
  exact hk _ _ _ W1_ hw
def z_X12_cachedAt (N : Nat) (a0 : Nat) (p1 : Int32) (h0 : St) (K : Int32 → St → Prop) : Prop :=
  lt_ (stP h0 12 a0 0 0 0) fun h1 =>
  wI 2 (0 : Int32) <|
  z_X12_in N p1 0 ((sP h1 12 a0 21 ((0 : Int32)).toNatClampNeg) - 1) h1 fun v4 =>
  jn (fun (v5 : Int32) =>
    z_X12_fails N a0 v5 1 h1 fun v6 h7 =>
    br (v6 = 0) (
      wI 26 p1 <|
      K (sP h7 12 a0 20 (p1).toNatClampNeg) h7) (
      K (-1) h7)) (fun j27 =>
    br (v4 = 0) (
      j27 1) (
      j27 0))
set_option maxHeartbeats 1000000 in
theorem y_X12_cachedAt {ad : Nat → Nat → Nat → Nat} {h : Hp} {V : Nat → Nat} {h0 : St} {N : Nat} (W : Wf ad h V h0) {a0 a0_ : Nat} {p1 : Int32} {K : Int32 → Hp → Prop} {K9 : Int32 → St → Prop} (hw : z_X12_cachedAt N a0_ p1 h0 K9) (hk : ∀ (r0 : Int32), ∀ (h9 : Hp) (s9 : St), Wf ad h9 V s9 → K9 r0 s9 →  K r0 h9) (e0 : a0 = ad 12 a0_ 0) (l0 : a0_ < V 12) : w_X12_cachedAt N a0 p1 h K := by
  subst e0
  unfold z_X12_cachedAt at hw
  unfold w_X12_cachedAt
  refine l_pI W rfl l0 rfl hw (fun h2_ W1_ hw => ?_)
  refine l_gA W1_ rfl l0 (c := 2) rfl (Or.inr rfl) ?_
  refine l_aI W1_ (f := 21) rfl l0 rfl hw (fun hw => ?_)
  refine y_X12_in W1_ hw (fun v3_ hw => ?_) 
  refine l_jn (fun (r : Int32 → Prop) (r9 : Int32 → Prop) => ∀ (x0 : Int32), r9 x0 → r x0) hw ?_ (fun j5_ j6_ hj7_ hw => ?_)
  ·
    intro x4_ hw
    refine l_cv W1_ rfl l0 rfl ?_
    refine y_X12_fails W1_ hw (fun v8_ h10_ s11_ W9_ hw => ?_) rfl l0
    refine l_br hw (fun _ hw => ?_) (fun _ hw => ?_)
    ·
      refine l_gA W9_ rfl l0 (c := 2) rfl (Or.inr rfl) ?_
      refine l_aI W9_ (f := 20) rfl l0 rfl hw (fun hw => ?_)
      exact hk _ _ _ W9_ hw
    ·
      exact hk _ _ _ W9_ hw
  ·
    refine l_br hw (fun _ hw => ?_) (fun _ hw => ?_)
    ·
      exact hj7_ _ hw
    ·
      exact hj7_ _ hw
def z_X12_flush (N : Nat) (a0 : Nat) (h0 : St) (K : Int32 → St → Prop) : Prop :=
  lt_ (stP h0 12 a0 0 0 0) fun h1 =>
  lt_ (stP h1 12 a0 16 0 0) fun h2 =>
  wI 2 (0 : Int32) <|
  wA 2 (0 : Int32) (stP h2 12 a0 21 ((0 : Int32)).toNatClampNeg 0) fun h6 =>
  K (sP h2 12 a0 21 ((0 : Int32)).toNatClampNeg) h6
set_option maxHeartbeats 1000000 in
theorem y_X12_flush {ad : Nat → Nat → Nat → Nat} {h : Hp} {V : Nat → Nat} {h0 : St} {N : Nat} (W : Wf ad h V h0) {a0 a0_ : Nat} {K : Int32 → Hp → Prop} {K9 : Int32 → St → Prop} (hw : z_X12_flush N a0_ h0 K9) (hk : ∀ (r0 : Int32), ∀ (h9 : Hp) (s9 : St), Wf ad h9 V s9 → K9 r0 s9 →  K r0 h9) (e0 : a0 = ad 12 a0_ 0) (l0 : a0_ < V 12) : w_X12_flush N a0 h K := by
  subst e0
  unfold z_X12_flush at hw
  unfold w_X12_flush
  refine l_pI W rfl l0 rfl hw (fun h2_ W1_ hw => ?_)
  refine l_pI W1_ rfl l0 rfl hw (fun h4_ W3_ hw => ?_)
  refine l_gA W3_ rfl l0 (c := 2) rfl (Or.inr rfl) ?_
  refine l_aI W3_ (f := 21) rfl l0 rfl hw (fun hw => ?_)
  refine l_gA W3_ rfl l0 (c := 2) rfl (Or.inr rfl) ?_
  refine l_sI W3_ (f := 21) rfl l0 rfl hw (fun h6_ W5_ hw => ?_)
  exact hk _ _ _ W5_ hw
def z_X12_isQuery (N : Nat) (a0 : Nat) (p1 : Int32) (h0 : St) (K : Int32 → Prop) : Prop :=
  z_X12_in N p1 0 ((sP h0 12 a0 24 0) - 1) h0 fun v2 =>
  ok (narrow .boolean (.int v2) = .int v2) <|
  K v2
set_option maxHeartbeats 1000000 in
theorem y_X12_isQuery {ad : Nat → Nat → Nat → Nat} {h : Hp} {V : Nat → Nat} {h0 : St} {N : Nat} (W : Wf ad h V h0) {a0 a0_ : Nat} {p1 : Int32} {K : Int32 → Prop} {K9 : Int32 → Prop} (hw : z_X12_isQuery N a0_ p1 h0 K9) (hk : ∀ (r0 : Int32), K9 r0 →  K r0) (e0 : a0 = ad 12 a0_ 0) (l0 : a0_ < V 12) : w_X12_isQuery N a0 p1 h K := by
  subst e0
  unfold z_X12_isQuery at hw
  unfold w_X12_isQuery
  refine l_gI W rfl l0 rfl ?_
  refine y_X12_in W hw (fun v1_ hw => ?_) 
  refine l_ok hw (fun _ hw => ?_)
  exact hk _ hw
def z_X12_isPlace (N : Nat) (a0 : Nat) (p1 : Int32) (p2 : Int32) (p3 : Int32) (h0 : St) (K : Int32 → Prop) : Prop :=
  wI 8 p1 <|
  z_X12_in N p2 0 ((sP h0 12 a0 25 (p1).toNatClampNeg) - 1) h0 fun v3 =>
  br (v3 = 0) (
    K 0) (
    wI 24 ((3 * p1) + p2) <|
    z_X12_isColumn N a0 (sP h0 12 a0 26 (((3 * p1) + p2)).toNatClampNeg) p3 h0 fun v6 =>
    br (v6 = 0) (
      K 0) (
      K 1))
set_option maxHeartbeats 1000000 in
theorem y_X12_isPlace {ad : Nat → Nat → Nat → Nat} {h : Hp} {V : Nat → Nat} {h0 : St} {N : Nat} (W : Wf ad h V h0) {a0 a0_ : Nat} {p1 : Int32} {p2 : Int32} {p3 : Int32} {K : Int32 → Prop} {K9 : Int32 → Prop} (hw : z_X12_isPlace N a0_ p1 p2 p3 h0 K9) (hk : ∀ (r0 : Int32), K9 r0 →  K r0) (e0 : a0 = ad 12 a0_ 0) (l0 : a0_ < V 12) : w_X12_isPlace N a0 p1 p2 p3 h K := by
  subst e0
  unfold z_X12_isPlace at hw
  unfold w_X12_isPlace
  refine l_gA W rfl l0 (c := 2) rfl (Or.inr rfl) ?_
  refine l_aI W (f := 25) rfl l0 rfl hw (fun hw => ?_)
  refine y_X12_in W hw (fun v1_ hw => ?_) 
  refine l_br hw (fun _ hw => ?_) (fun _ hw => ?_)
  ·
    exact hk _ hw
  ·
    refine l_gA W rfl l0 (c := 2) rfl (Or.inr rfl) ?_
    refine l_aI W (f := 26) rfl l0 rfl hw (fun hw => ?_)
    refine l_cv W rfl l0 rfl ?_
    refine y_X12_isColumn W hw (fun v2_ hw => ?_) rfl l0
    refine l_br hw (fun _ hw => ?_) (fun _ hw => ?_)
    ·
      exact hk _ hw
    ·
      exact hk _ hw
def z_X12_query (N : Nat) (a0 : Nat) (h0 : St) (K : Int32 → St → Prop) : Prop :=
  lt_ (stP h0 12 a0 0 0 0) fun h1 =>
  jn (fun (v3 : Int32) =>
    z_X12_fails N a0 v3 1 h1 fun v4 h5 =>
    br (v4 = 0) (
      lt_ (stP h5 12 a0 16 0 0) fun h6 =>
      lt_ (stP h6 12 a0 24 0 ((sP h6 12 a0 24 0) + 1)) fun h8 =>
      K ((sP h8 12 a0 24 0) - 1) h8) (
      K (-1) h5)) (fun j20 =>
    br ((sP h1 12 a0 24 0) = 8) (
      j20 1) (
      j20 0))
set_option maxHeartbeats 1000000 in
theorem y_X12_query {ad : Nat → Nat → Nat → Nat} {h : Hp} {V : Nat → Nat} {h0 : St} {N : Nat} (W : Wf ad h V h0) {a0 a0_ : Nat} {K : Int32 → Hp → Prop} {K9 : Int32 → St → Prop} (hw : z_X12_query N a0_ h0 K9) (hk : ∀ (r0 : Int32), ∀ (h9 : Hp) (s9 : St), Wf ad h9 V s9 → K9 r0 s9 →  K r0 h9) (e0 : a0 = ad 12 a0_ 0) (l0 : a0_ < V 12) : w_X12_query N a0 h K := by
  subst e0
  unfold z_X12_query at hw
  unfold w_X12_query
  refine l_pI W rfl l0 rfl hw (fun h2_ W1_ hw => ?_)
  refine l_gI W1_ rfl l0 rfl ?_
  refine l_jn (fun (r : Int32 → Prop) (r9 : Int32 → Prop) => ∀ (x0 : Int32), r9 x0 → r x0) hw ?_ (fun j4_ j5_ hj6_ hw => ?_)
  ·
    intro x3_ hw
    refine l_cv W1_ rfl l0 rfl ?_
    refine y_X12_fails W1_ hw (fun v7_ h9_ s10_ W8_ hw => ?_) rfl l0
    refine l_br hw (fun _ hw => ?_) (fun _ hw => ?_)
    ·
      refine l_pI W8_ rfl l0 rfl hw (fun h12_ W11_ hw => ?_)
      refine l_gI W11_ rfl l0 rfl ?_
      refine l_pI W11_ rfl l0 rfl hw (fun h14_ W13_ hw => ?_)
      refine l_gI W13_ rfl l0 rfl ?_
      exact hk _ _ _ W13_ hw
    ·
      exact hk _ _ _ W8_ hw
  ·
    refine l_br hw (fun _ hw => ?_) (fun _ hw => ?_)
    ·
      exact hj6_ _ hw
    ·
      exact hj6_ _ hw
def z_X12_from (N : Nat) (a0 : Nat) (p1 : Int32) (p2 : Int32) (h0 : St) (K : Int32 → St → Prop) : Prop :=
  lt_ (stP h0 12 a0 0 0 0) fun h1 =>
  z_X12_isQuery N a0 p1 h1 fun v2 =>
  jn (fun (v3 : Int32) =>
    z_X12_fails N a0 v3 1 h1 fun v4 h5 =>
    br (v4 = 0) (
      wI 8 p1 <|
      jn (fun (v8 : Int32) =>
        z_X12_fails N a0 v8 2 h5 fun v9 h10 =>
        br (v9 = 0) (
          lt_ (stP h10 12 a0 16 0 0) fun h11 =>
          wI 8 p1 <|
          wA 24 ((3 * p1) + (sP h11 12 a0 25 (p1).toNatClampNeg)) (stP h11 12 a0 26 (((3 * p1) + (sP h11 12 a0 25 (p1).toNatClampNeg))).toNatClampNeg p2) fun h15 =>
          wI 8 p1 <|
          wA 8 p1 (stP h15 12 a0 25 (p1).toNatClampNeg ((sP h15 12 a0 25 (p1).toNatClampNeg) + 1)) fun h18 =>
          wI 8 p1 <|
          K (sP h18 12 a0 25 (p1).toNatClampNeg) h18) (
          K (-1) h10)) (fun j50 =>
        br ((sP h5 12 a0 25 (p1).toNatClampNeg) = 3) (
          j50 1) (
          j50 0))) (
      K (-1) h5)) (fun j27 =>
    jn (
      j27 1) (fun j22 =>
      br (v2 = 0) (
        j22 ) (
        z_X12_isTable N a0 p2 h1 fun v21 =>
        br (v21 = 0) (
          j22 ) (
          j27 0))))
set_option maxHeartbeats 1000000 in
theorem y_X12_from {ad : Nat → Nat → Nat → Nat} {h : Hp} {V : Nat → Nat} {h0 : St} {N : Nat} (W : Wf ad h V h0) {a0 a0_ : Nat} {p1 : Int32} {p2 : Int32} {K : Int32 → Hp → Prop} {K9 : Int32 → St → Prop} (hw : z_X12_from N a0_ p1 p2 h0 K9) (hk : ∀ (r0 : Int32), ∀ (h9 : Hp) (s9 : St), Wf ad h9 V s9 → K9 r0 s9 →  K r0 h9) (e0 : a0 = ad 12 a0_ 0) (l0 : a0_ < V 12) : w_X12_from N a0 p1 p2 h K := by
  subst e0
  unfold z_X12_from at hw
  unfold w_X12_from
  refine l_pI W rfl l0 rfl hw (fun h2_ W1_ hw => ?_)
  refine l_cv W1_ rfl l0 rfl ?_
  refine y_X12_isQuery W1_ hw (fun v3_ hw => ?_) rfl l0
  refine l_jn (fun (r : Int32 → Prop) (r9 : Int32 → Prop) => ∀ (x0 : Int32), r9 x0 → r x0) hw ?_ (fun j5_ j6_ hj7_ hw => ?_)
  ·
    intro x4_ hw
    refine l_cv W1_ rfl l0 rfl ?_
    refine y_X12_fails W1_ hw (fun v8_ h10_ s11_ W9_ hw => ?_) rfl l0
    refine l_br hw (fun _ hw => ?_) (fun _ hw => ?_)
    ·
      refine l_gA W9_ rfl l0 (c := 2) rfl (Or.inr rfl) ?_
      refine l_aI W9_ (f := 25) rfl l0 rfl hw (fun hw => ?_)
      refine l_jn (fun (r : Int32 → Prop) (r9 : Int32 → Prop) => ∀ (x0 : Int32), r9 x0 → r x0) hw ?_ (fun j13_ j14_ hj15_ hw => ?_)
      ·
        intro x12_ hw
        refine l_cv W9_ rfl l0 rfl ?_
        refine y_X12_fails W9_ hw (fun v16_ h18_ s19_ W17_ hw => ?_) rfl l0
        refine l_br hw (fun _ hw => ?_) (fun _ hw => ?_)
        ·
          refine l_pI W17_ rfl l0 rfl hw (fun h21_ W20_ hw => ?_)
          refine l_gA W20_ rfl l0 (c := 2) rfl (Or.inr rfl) ?_
          refine l_gA W20_ rfl l0 (c := 2) rfl (Or.inr rfl) ?_
          refine l_aI W20_ (f := 25) rfl l0 rfl hw (fun hw => ?_)
          refine l_sI W20_ (f := 26) rfl l0 rfl hw (fun h23_ W22_ hw => ?_)
          refine l_gA W22_ rfl l0 (c := 2) rfl (Or.inr rfl) ?_
          refine l_aI W22_ (f := 25) rfl l0 rfl hw (fun hw => ?_)
          refine l_sI W22_ (f := 25) rfl l0 rfl hw (fun h25_ W24_ hw => ?_)
          refine l_gA W24_ rfl l0 (c := 2) rfl (Or.inr rfl) ?_
          refine l_aI W24_ (f := 25) rfl l0 rfl hw (fun hw => ?_)
          exact hk _ _ _ W24_ hw
        ·
          exact hk _ _ _ W17_ hw
      ·
        refine l_br hw (fun _ hw => ?_) (fun _ hw => ?_)
        ·
          exact hj15_ _ hw
        ·
          exact hj15_ _ hw
    ·
      exact hk _ _ _ W9_ hw
  ·
    refine l_jn (fun (r : Prop) (r9 : Prop) =>  r9  → r ) hw ?_ (fun j26_ j27_ hj28_ hw => ?_)
    ·
      intro hw
      exact hj7_ _ hw
    ·
      refine l_br hw (fun _ hw => ?_) (fun _ hw => ?_)
      ·
        exact hj28_  hw
      ·
        refine l_cv W1_ rfl l0 rfl ?_
        refine y_X12_isTable W1_ hw (fun v29_ hw => ?_) rfl l0
        refine l_br hw (fun _ hw => ?_) (fun _ hw => ?_)
        ·
          exact hj28_  hw
        ·
          exact hj7_ _ hw
def z_X12_where (N : Nat) (a0 : Nat) (p1 : Int32) (p2 : Int32) (p3 : Int32) (p4 : Int32) (p5 : Int32) (h0 : St) (K : Int32 → St → Prop) : Prop :=
  lt_ (stP h0 12 a0 0 0 0) fun h1 =>
  jn (fun (v2 : Int32) =>
    z_X12_isQuery N a0 p1 h1 fun v3 =>
    jn (fun (v4 : Int32) =>
      z_X12_fails N a0 v4 1 h1 fun v5 h6 =>
      br (v5 = 0) (
        z_X12_isPlace N a0 p1 p2 p3 h6 fun v7 =>
        jn (fun (v8 : Int32) =>
          z_X12_fails N a0 v8 2 h6 fun v9 h10 =>
          br (v9 = 0) (
            wI 8 p1 <|
            jn (fun (v13 : Int32) =>
              z_X12_fails N a0 v13 3 h10 fun v14 h15 =>
              br (v14 = 0) (
                lt_ (stP h15 12 a0 16 0 0) fun h16 =>
                wI 8 p1 <|
                wA 32 ((4 * p1) + (sP h16 12 a0 27 (p1).toNatClampNeg)) (stP h16 12 a0 28 (((4 * p1) + (sP h16 12 a0 27 (p1).toNatClampNeg))).toNatClampNeg p2) fun h20 =>
                wA 32 ((4 * p1) + (sP h16 12 a0 27 (p1).toNatClampNeg)) (stP h20 12 a0 29 (((4 * p1) + (sP h16 12 a0 27 (p1).toNatClampNeg))).toNatClampNeg p3) fun h22 =>
                wA 32 ((4 * p1) + (sP h16 12 a0 27 (p1).toNatClampNeg)) (stP h22 12 a0 30 (((4 * p1) + (sP h16 12 a0 27 (p1).toNatClampNeg))).toNatClampNeg p4) fun h24 =>
                wA 32 ((4 * p1) + (sP h16 12 a0 27 (p1).toNatClampNeg)) (stP h24 12 a0 31 (((4 * p1) + (sP h16 12 a0 27 (p1).toNatClampNeg))).toNatClampNeg p5) fun h26 =>
                wI 8 p1 <|
                wA 8 p1 (stP h26 12 a0 27 (p1).toNatClampNeg ((sP h26 12 a0 27 (p1).toNatClampNeg) + 1)) fun h29 =>
                wI 8 p1 <|
                K (sP h29 12 a0 27 (p1).toNatClampNeg) h29) (
                K (-1) h15)) (fun j109 =>
              br ((sP h10 12 a0 27 (p1).toNatClampNeg) = 4) (
                j109 1) (
                j109 0))) (
            K (-1) h10)) (fun j86 =>
          jn (
            j86 1) (fun j81 =>
            br (v7 = 0) (
              j81 ) (
              br (v2 = 0) (
                j81 ) (
                z_X12_in N p5 0 99 h6 fun v32 =>
                br (v32 = 0) (
                  j81 ) (
                  j86 0)))))) (
        K (-1) h6)) (fun j47 =>
      br (v3 = 0) (
        j47 1) (
        j47 0))) (fun j31 =>
    jn (
      j31 1) (fun j26 =>
      br (p4 = 61) (
        j26 ) (
        br (p4 = 60) (
          j26 ) (
          br (p4 = 62) (
            j26 ) (
            j31 0)))))
set_option maxHeartbeats 1000000 in
theorem y_X12_where {ad : Nat → Nat → Nat → Nat} {h : Hp} {V : Nat → Nat} {h0 : St} {N : Nat} (W : Wf ad h V h0) {a0 a0_ : Nat} {p1 : Int32} {p2 : Int32} {p3 : Int32} {p4 : Int32} {p5 : Int32} {K : Int32 → Hp → Prop} {K9 : Int32 → St → Prop} (hw : z_X12_where N a0_ p1 p2 p3 p4 p5 h0 K9) (hk : ∀ (r0 : Int32), ∀ (h9 : Hp) (s9 : St), Wf ad h9 V s9 → K9 r0 s9 →  K r0 h9) (e0 : a0 = ad 12 a0_ 0) (l0 : a0_ < V 12) : w_X12_where N a0 p1 p2 p3 p4 p5 h K := by
  subst e0
  unfold z_X12_where at hw
  unfold w_X12_where
  refine l_pI W rfl l0 rfl hw (fun h2_ W1_ hw => ?_)
  refine l_jn (fun (r : Int32 → Prop) (r9 : Int32 → Prop) => ∀ (x0 : Int32), r9 x0 → r x0) hw ?_ (fun j4_ j5_ hj6_ hw => ?_)
  ·
    intro x3_ hw
    refine l_cv W1_ rfl l0 rfl ?_
    refine y_X12_isQuery W1_ hw (fun v7_ hw => ?_) rfl l0
    refine l_jn (fun (r : Int32 → Prop) (r9 : Int32 → Prop) => ∀ (x0 : Int32), r9 x0 → r x0) hw ?_ (fun j9_ j10_ hj11_ hw => ?_)
    ·
      intro x8_ hw
      refine l_cv W1_ rfl l0 rfl ?_
      refine y_X12_fails W1_ hw (fun v12_ h14_ s15_ W13_ hw => ?_) rfl l0
      refine l_br hw (fun _ hw => ?_) (fun _ hw => ?_)
      ·
        refine l_cv W13_ rfl l0 rfl ?_
        refine y_X12_isPlace W13_ hw (fun v16_ hw => ?_) rfl l0
        refine l_jn (fun (r : Int32 → Prop) (r9 : Int32 → Prop) => ∀ (x0 : Int32), r9 x0 → r x0) hw ?_ (fun j18_ j19_ hj20_ hw => ?_)
        ·
          intro x17_ hw
          refine l_cv W13_ rfl l0 rfl ?_
          refine y_X12_fails W13_ hw (fun v21_ h23_ s24_ W22_ hw => ?_) rfl l0
          refine l_br hw (fun _ hw => ?_) (fun _ hw => ?_)
          ·
            refine l_gA W22_ rfl l0 (c := 2) rfl (Or.inr rfl) ?_
            refine l_aI W22_ (f := 27) rfl l0 rfl hw (fun hw => ?_)
            refine l_jn (fun (r : Int32 → Prop) (r9 : Int32 → Prop) => ∀ (x0 : Int32), r9 x0 → r x0) hw ?_ (fun j26_ j27_ hj28_ hw => ?_)
            ·
              intro x25_ hw
              refine l_cv W22_ rfl l0 rfl ?_
              refine y_X12_fails W22_ hw (fun v29_ h31_ s32_ W30_ hw => ?_) rfl l0
              refine l_br hw (fun _ hw => ?_) (fun _ hw => ?_)
              ·
                refine l_pI W30_ rfl l0 rfl hw (fun h34_ W33_ hw => ?_)
                refine l_gA W33_ rfl l0 (c := 2) rfl (Or.inr rfl) ?_
                refine l_aI W33_ (f := 27) rfl l0 rfl hw (fun hw => ?_)
                refine l_gA W33_ rfl l0 (c := 2) rfl (Or.inr rfl) ?_
                refine l_sI W33_ (f := 28) rfl l0 rfl hw (fun h36_ W35_ hw => ?_)
                refine l_gA W35_ rfl l0 (c := 2) rfl (Or.inr rfl) ?_
                refine l_sI W35_ (f := 29) rfl l0 rfl hw (fun h38_ W37_ hw => ?_)
                refine l_gA W37_ rfl l0 (c := 2) rfl (Or.inr rfl) ?_
                refine l_sI W37_ (f := 30) rfl l0 rfl hw (fun h40_ W39_ hw => ?_)
                refine l_gA W39_ rfl l0 (c := 2) rfl (Or.inr rfl) ?_
                refine l_sI W39_ (f := 31) rfl l0 rfl hw (fun h42_ W41_ hw => ?_)
                refine l_gA W41_ rfl l0 (c := 2) rfl (Or.inr rfl) ?_
                refine l_aI W41_ (f := 27) rfl l0 rfl hw (fun hw => ?_)
                refine l_sI W41_ (f := 27) rfl l0 rfl hw (fun h44_ W43_ hw => ?_)
                refine l_gA W43_ rfl l0 (c := 2) rfl (Or.inr rfl) ?_
                refine l_aI W43_ (f := 27) rfl l0 rfl hw (fun hw => ?_)
                exact hk _ _ _ W43_ hw
              ·
                exact hk _ _ _ W30_ hw
            ·
              refine l_br hw (fun _ hw => ?_) (fun _ hw => ?_)
              ·
                exact hj28_ _ hw
              ·
                exact hj28_ _ hw
          ·
            exact hk _ _ _ W22_ hw
        ·
          refine l_jn (fun (r : Prop) (r9 : Prop) =>  r9  → r ) hw ?_ (fun j45_ j46_ hj47_ hw => ?_)
          ·
            intro hw
            exact hj20_ _ hw
          ·
            refine l_br hw (fun _ hw => ?_) (fun _ hw => ?_)
            ·
              exact hj47_  hw
            ·
              refine l_br hw (fun _ hw => ?_) (fun _ hw => ?_)
              ·
                exact hj47_  hw
              ·
                refine y_X12_in W13_ hw (fun v48_ hw => ?_) 
                refine l_br hw (fun _ hw => ?_) (fun _ hw => ?_)
                ·
                  exact hj47_  hw
                ·
                  exact hj20_ _ hw
      ·
        exact hk _ _ _ W13_ hw
    ·
      refine l_br hw (fun _ hw => ?_) (fun _ hw => ?_)
      ·
        exact hj11_ _ hw
      ·
        exact hj11_ _ hw
  ·
    refine l_jn (fun (r : Prop) (r9 : Prop) =>  r9  → r ) hw ?_ (fun j49_ j50_ hj51_ hw => ?_)
    ·
      intro hw
      exact hj6_ _ hw
    ·
      refine l_br hw (fun _ hw => ?_) (fun _ hw => ?_)
      ·
        exact hj51_  hw
      ·
        refine l_br hw (fun _ hw => ?_) (fun _ hw => ?_)
        ·
          exact hj51_  hw
        ·
          refine l_br hw (fun _ hw => ?_) (fun _ hw => ?_)
          ·
            exact hj51_  hw
          ·
            exact hj6_ _ hw
def z_X12_join (N : Nat) (a0 : Nat) (p1 : Int32) (p2 : Int32) (p3 : Int32) (p4 : Int32) (p5 : Int32) (h0 : St) (K : Int32 → St → Prop) : Prop :=
  lt_ (stP h0 12 a0 0 0 0) fun h1 =>
  z_X12_isQuery N a0 p1 h1 fun v2 =>
  jn (fun (v3 : Int32) =>
    z_X12_fails N a0 v3 1 h1 fun v4 h5 =>
    br (v4 = 0) (
      z_X12_isPlace N a0 p1 p2 p3 h5 fun v6 =>
      jn (fun (v7 : Int32) =>
        z_X12_fails N a0 v7 2 h5 fun v8 h9 =>
        br (v8 = 0) (
          wI 8 p1 <|
          jn (fun (v12 : Int32) =>
            z_X12_fails N a0 v12 3 h9 fun v13 h14 =>
            br (v13 = 0) (
              lt_ (stP h14 12 a0 16 0 0) fun h15 =>
              wI 8 p1 <|
              wA 24 ((3 * p1) + (sP h15 12 a0 32 (p1).toNatClampNeg)) (stP h15 12 a0 33 (((3 * p1) + (sP h15 12 a0 32 (p1).toNatClampNeg))).toNatClampNeg p2) fun h19 =>
              wA 24 ((3 * p1) + (sP h15 12 a0 32 (p1).toNatClampNeg)) (stP h19 12 a0 34 (((3 * p1) + (sP h15 12 a0 32 (p1).toNatClampNeg))).toNatClampNeg p3) fun h21 =>
              wA 24 ((3 * p1) + (sP h15 12 a0 32 (p1).toNatClampNeg)) (stP h21 12 a0 35 (((3 * p1) + (sP h15 12 a0 32 (p1).toNatClampNeg))).toNatClampNeg p4) fun h23 =>
              wA 24 ((3 * p1) + (sP h15 12 a0 32 (p1).toNatClampNeg)) (stP h23 12 a0 36 (((3 * p1) + (sP h15 12 a0 32 (p1).toNatClampNeg))).toNatClampNeg p5) fun h25 =>
              wI 8 p1 <|
              wA 8 p1 (stP h25 12 a0 32 (p1).toNatClampNeg ((sP h25 12 a0 32 (p1).toNatClampNeg) + 1)) fun h28 =>
              wI 8 p1 <|
              K (sP h28 12 a0 32 (p1).toNatClampNeg) h28) (
              K (-1) h14)) (fun j83 =>
            br ((sP h9 12 a0 32 (p1).toNatClampNeg) = 3) (
              j83 1) (
              j83 0))) (
          K (-1) h9)) (fun j60 =>
        jn (
          j60 1) (fun j55 =>
          br (v6 = 0) (
            j55 ) (
            z_X12_isPlace N a0 p1 p4 p5 h5 fun v31 =>
            br (v31 = 0) (
              j55 ) (
              br (p2 = p4) (
                j55 ) (
                j60 0)))))) (
      K (-1) h5)) (fun j19 =>
    br (v2 = 0) (
      j19 1) (
      j19 0))
set_option maxHeartbeats 1000000 in
theorem y_X12_join {ad : Nat → Nat → Nat → Nat} {h : Hp} {V : Nat → Nat} {h0 : St} {N : Nat} (W : Wf ad h V h0) {a0 a0_ : Nat} {p1 : Int32} {p2 : Int32} {p3 : Int32} {p4 : Int32} {p5 : Int32} {K : Int32 → Hp → Prop} {K9 : Int32 → St → Prop} (hw : z_X12_join N a0_ p1 p2 p3 p4 p5 h0 K9) (hk : ∀ (r0 : Int32), ∀ (h9 : Hp) (s9 : St), Wf ad h9 V s9 → K9 r0 s9 →  K r0 h9) (e0 : a0 = ad 12 a0_ 0) (l0 : a0_ < V 12) : w_X12_join N a0 p1 p2 p3 p4 p5 h K := by
  subst e0
  unfold z_X12_join at hw
  unfold w_X12_join
  refine l_pI W rfl l0 rfl hw (fun h2_ W1_ hw => ?_)
  refine l_cv W1_ rfl l0 rfl ?_
  refine y_X12_isQuery W1_ hw (fun v3_ hw => ?_) rfl l0
  refine l_jn (fun (r : Int32 → Prop) (r9 : Int32 → Prop) => ∀ (x0 : Int32), r9 x0 → r x0) hw ?_ (fun j5_ j6_ hj7_ hw => ?_)
  ·
    intro x4_ hw
    refine l_cv W1_ rfl l0 rfl ?_
    refine y_X12_fails W1_ hw (fun v8_ h10_ s11_ W9_ hw => ?_) rfl l0
    refine l_br hw (fun _ hw => ?_) (fun _ hw => ?_)
    ·
      refine l_cv W9_ rfl l0 rfl ?_
      refine y_X12_isPlace W9_ hw (fun v12_ hw => ?_) rfl l0
      refine l_jn (fun (r : Int32 → Prop) (r9 : Int32 → Prop) => ∀ (x0 : Int32), r9 x0 → r x0) hw ?_ (fun j14_ j15_ hj16_ hw => ?_)
      ·
        intro x13_ hw
        refine l_cv W9_ rfl l0 rfl ?_
        refine y_X12_fails W9_ hw (fun v17_ h19_ s20_ W18_ hw => ?_) rfl l0
        refine l_br hw (fun _ hw => ?_) (fun _ hw => ?_)
        ·
          refine l_gA W18_ rfl l0 (c := 2) rfl (Or.inr rfl) ?_
          refine l_aI W18_ (f := 32) rfl l0 rfl hw (fun hw => ?_)
          refine l_jn (fun (r : Int32 → Prop) (r9 : Int32 → Prop) => ∀ (x0 : Int32), r9 x0 → r x0) hw ?_ (fun j22_ j23_ hj24_ hw => ?_)
          ·
            intro x21_ hw
            refine l_cv W18_ rfl l0 rfl ?_
            refine y_X12_fails W18_ hw (fun v25_ h27_ s28_ W26_ hw => ?_) rfl l0
            refine l_br hw (fun _ hw => ?_) (fun _ hw => ?_)
            ·
              refine l_pI W26_ rfl l0 rfl hw (fun h30_ W29_ hw => ?_)
              refine l_gA W29_ rfl l0 (c := 2) rfl (Or.inr rfl) ?_
              refine l_aI W29_ (f := 32) rfl l0 rfl hw (fun hw => ?_)
              refine l_gA W29_ rfl l0 (c := 2) rfl (Or.inr rfl) ?_
              refine l_sI W29_ (f := 33) rfl l0 rfl hw (fun h32_ W31_ hw => ?_)
              refine l_gA W31_ rfl l0 (c := 2) rfl (Or.inr rfl) ?_
              refine l_sI W31_ (f := 34) rfl l0 rfl hw (fun h34_ W33_ hw => ?_)
              refine l_gA W33_ rfl l0 (c := 2) rfl (Or.inr rfl) ?_
              refine l_sI W33_ (f := 35) rfl l0 rfl hw (fun h36_ W35_ hw => ?_)
              refine l_gA W35_ rfl l0 (c := 2) rfl (Or.inr rfl) ?_
              refine l_sI W35_ (f := 36) rfl l0 rfl hw (fun h38_ W37_ hw => ?_)
              refine l_gA W37_ rfl l0 (c := 2) rfl (Or.inr rfl) ?_
              refine l_aI W37_ (f := 32) rfl l0 rfl hw (fun hw => ?_)
              refine l_sI W37_ (f := 32) rfl l0 rfl hw (fun h40_ W39_ hw => ?_)
              refine l_gA W39_ rfl l0 (c := 2) rfl (Or.inr rfl) ?_
              refine l_aI W39_ (f := 32) rfl l0 rfl hw (fun hw => ?_)
              exact hk _ _ _ W39_ hw
            ·
              exact hk _ _ _ W26_ hw
          ·
            refine l_br hw (fun _ hw => ?_) (fun _ hw => ?_)
            ·
              exact hj24_ _ hw
            ·
              exact hj24_ _ hw
        ·
          exact hk _ _ _ W18_ hw
      ·
        refine l_jn (fun (r : Prop) (r9 : Prop) =>  r9  → r ) hw ?_ (fun j41_ j42_ hj43_ hw => ?_)
        ·
          intro hw
          exact hj16_ _ hw
        ·
          refine l_br hw (fun _ hw => ?_) (fun _ hw => ?_)
          ·
            exact hj43_  hw
          ·
            refine l_cv W9_ rfl l0 rfl ?_
            refine y_X12_isPlace W9_ hw (fun v44_ hw => ?_) rfl l0
            refine l_br hw (fun _ hw => ?_) (fun _ hw => ?_)
            ·
              exact hj43_  hw
            ·
              refine l_br hw (fun _ hw => ?_) (fun _ hw => ?_)
              ·
                exact hj43_  hw
              ·
                exact hj16_ _ hw
    ·
      exact hk _ _ _ W9_ hw
  ·
    refine l_br hw (fun _ hw => ?_) (fun _ hw => ?_)
    ·
      exact hj7_ _ hw
    ·
      exact hj7_ _ hw
def z_X12_holds (N : Nat) (p0 : Int32) (p1 : Int32) (p2 : Int32) (h0 : St) (K : Int32 → Prop) : Prop :=
  br (p0 = 61) (
    br (p2 = p1) (
      K 1) (
      K 0)) (
    br (p0 = 60) (
      br (p1 ≤ p2) (
        K 0) (
        K 1)) (
      br (p2 ≤ p1) (
        K 0) (
        K 1)))
set_option maxHeartbeats 1000000 in
theorem y_X12_holds {ad : Nat → Nat → Nat → Nat} {h : Hp} {V : Nat → Nat} {h0 : St} {N : Nat} (W : Wf ad h V h0) {p0 : Int32} {p1 : Int32} {p2 : Int32} {K : Int32 → Prop} {K9 : Int32 → Prop} (hw : z_X12_holds N p0 p1 p2 h0 K9) (hk : ∀ (r0 : Int32), K9 r0 →  K r0)  : w_X12_holds N p0 p1 p2 h K := by
  unfold z_X12_holds at hw
  unfold w_X12_holds
  refine l_br hw (fun _ hw => ?_) (fun _ hw => ?_)
  ·
    refine l_br hw (fun _ hw => ?_) (fun _ hw => ?_)
    ·
      exact hk _ hw
    ·
      exact hk _ hw
  ·
    refine l_br hw (fun _ hw => ?_) (fun _ hw => ?_)
    ·
      refine l_br hw (fun _ hw => ?_) (fun _ hw => ?_)
      ·
        exact hk _ hw
      ·
        exact hk _ hw
    ·
      refine l_br hw (fun _ hw => ?_) (fun _ hw => ?_)
      ·
        exact hk _ hw
      ·
        exact hk _ hw
def z_X12_chosenAt (N : Nat) (a0 : Nat) (p1 : Int32) (p2 : Int32) (p3 : Int32) (h0 : St) (K : Int32 → Prop) : Prop :=
  wI 24 ((3 * p1) + p2) <|
  wI 3 p2 <|
  z_X12_at N a0 (sP h0 12 a0 26 (((3 * p1) + p2)).toNatClampNeg) (sP h0 12 a0 37 (p2).toNatClampNeg) p3 h0 fun v5 =>
  K v5
set_option maxHeartbeats 1000000 in
theorem y_X12_chosenAt {ad : Nat → Nat → Nat → Nat} {h : Hp} {V : Nat → Nat} {h0 : St} {N : Nat} (W : Wf ad h V h0) {a0 a0_ : Nat} {p1 : Int32} {p2 : Int32} {p3 : Int32} {K : Int32 → Prop} {K9 : Int32 → Prop} (hw : z_X12_chosenAt N a0_ p1 p2 p3 h0 K9) (hk : ∀ (r0 : Int32), K9 r0 →  K r0) (e0 : a0 = ad 12 a0_ 0) (l0 : a0_ < V 12) : w_X12_chosenAt N a0 p1 p2 p3 h K := by
  subst e0
  unfold z_X12_chosenAt at hw
  unfold w_X12_chosenAt
  refine l_gA W rfl l0 (c := 2) rfl (Or.inr rfl) ?_
  refine l_aI W (f := 26) rfl l0 rfl hw (fun hw => ?_)
  refine l_gA W rfl l0 (c := 2) rfl (Or.inr rfl) ?_
  refine l_aI W (f := 37) rfl l0 rfl hw (fun hw => ?_)
  refine l_cv W rfl l0 rfl ?_
  refine y_X12_at W hw (fun v1_ hw => ?_) rfl l0
  exact hk _ hw
def z_X12_fits (N : Nat) (a0 : Nat) (p1 : Int32) (p2 : Int32) (h0 : St) (K : Int32 → Prop) : Prop :=
  wI 24 ((3 * p1) + p2) <|
  wI 3 p2 <|
  z_X12_hasRow N a0 (sP h0 12 a0 26 (((3 * p1) + p2)).toNatClampNeg) (sP h0 12 a0 37 (p2).toNatClampNeg) h0 fun v5 =>
  fx2 (fun (w26 : Int32 → Int32 → Prop) (x6 : Int32) (x7 : Int32) =>
    wI 8 p1 <|
    br (((4 * p1) + (sP h0 12 a0 27 (p1).toNatClampNeg)) ≤ x7) (
      fx2 (fun (w106 : Int32 → Int32 → Prop) (x10 : Int32) (x11 : Int32) =>
        wI 8 p1 <|
        br (((3 * p1) + (sP h0 12 a0 32 (p1).toNatClampNeg)) ≤ x11) (
          ok (narrow .boolean (.int x10) = .int x10) <|
          K x10) (
          wI 24 x11 <|
          jn (fun (v16 : Int32) =>
            jn (fun (x17 : Int32) =>
              w106 x17 (x11 + 1)) (fun j236 =>
              br (x10 = 0) (
                j236 x10) (
                br (v16 = 0) (
                  j236 x10) (
                  wI 24 x11 <|
                  wI 3 (sP h0 12 a0 33 (x11).toNatClampNeg) <|
                  br ((sP h0 12 a0 37 ((sP h0 12 a0 33 (x11).toNatClampNeg)).toNatClampNeg) < 0) (
                    j236 x10) (
                    wI 24 x11 <|
                    wI 3 (sP h0 12 a0 35 (x11).toNatClampNeg) <|
                    br ((sP h0 12 a0 37 ((sP h0 12 a0 35 (x11).toNatClampNeg)).toNatClampNeg) < 0) (
                      j236 x10) (
                      wI 24 x11 <|
                      wI 24 x11 <|
                      z_X12_chosenAt N a0 p1 (sP h0 12 a0 33 (x11).toNatClampNeg) (sP h0 12 a0 34 (x11).toNatClampNeg) h0 fun v30 =>
                      wI 24 x11 <|
                      wI 24 x11 <|
                      z_X12_chosenAt N a0 p1 (sP h0 12 a0 35 (x11).toNatClampNeg) (sP h0 12 a0 36 (x11).toNatClampNeg) h0 fun v35 =>
                      jn (fun (v36 : Int32) =>
                        j236 v36) (fun j235 =>
                        br (v30 = v35) (
                          j235 1) (
                          j235 0)))))))) (fun j148 =>
            jn (
              j148 1) (fun j143 =>
              br ((sP h0 12 a0 33 (x11).toNatClampNeg) = p2) (
                j143 ) (
                wI 24 x11 <|
                br ((sP h0 12 a0 35 (x11).toNatClampNeg) = p2) (
                  j143 ) (
                  j148 0)))))) N x6 (3 * p1)) (
      jn (fun (v39 : Int32) =>
        w26 v39 (x7 + 1)) (fun j94 =>
        jn (
          j94 0) (fun j93 =>
          br (x6 = 0) (
            j93 ) (
            wI 32 x7 <|
            jn (
              j94 1) (fun j89 =>
              br ((sP h0 12 a0 28 (x7).toNatClampNeg) = p2) (
                wI 32 x7 <|
                wI 32 x7 <|
                wI 32 x7 <|
                z_X12_chosenAt N a0 p1 p2 (sP h0 12 a0 29 (x7).toNatClampNeg) h0 fun v48 =>
                z_X12_holds N (sP h0 12 a0 30 (x7).toNatClampNeg) (sP h0 12 a0 31 (x7).toNatClampNeg) v48 h0 fun v49 =>
                br (v49 = 0) (
                  j93 ) (
                  j89 )) (
                j89 ))))))) N v5 (4 * p1)
set_option maxHeartbeats 1000000 in
theorem y_X12_fits {ad : Nat → Nat → Nat → Nat} {h : Hp} {V : Nat → Nat} {h0 : St} {N : Nat} (W : Wf ad h V h0) {a0 a0_ : Nat} {p1 : Int32} {p2 : Int32} {K : Int32 → Prop} {K9 : Int32 → Prop} (hw : z_X12_fits N a0_ p1 p2 h0 K9) (hk : ∀ (r0 : Int32), K9 r0 →  K r0) (e0 : a0 = ad 12 a0_ 0) (l0 : a0_ < V 12) : w_X12_fits N a0 p1 p2 h K := by
  subst e0
  unfold z_X12_fits at hw
  unfold w_X12_fits
  refine l_gA W rfl l0 (c := 2) rfl (Or.inr rfl) ?_
  refine l_aI W (f := 26) rfl l0 rfl hw (fun hw => ?_)
  refine l_gA W rfl l0 (c := 2) rfl (Or.inr rfl) ?_
  refine l_aI W (f := 37) rfl l0 rfl hw (fun hw => ?_)
  refine l_cv W rfl l0 rfl ?_
  refine y_X12_hasRow W hw (fun v1_ hw => ?_) rfl l0
  refine l_fx2 (fun (r : Int32 → Int32 → Prop) (r9 : Int32 → Int32 → Prop) => ∀ (x0 : Int32), ∀ (x1 : Int32), r9 x0 x1 → r x0 x1) (fun _ _ h9_ => h9_.elim) ?_ N _ _ hw
  intro w5_ w6_ hv4_ x2_ x3_ hw
  refine l_gA W rfl l0 (c := 2) rfl (Or.inr rfl) ?_
  refine l_aI W (f := 27) rfl l0 rfl hw (fun hw => ?_)
  refine l_br hw (fun _ hw => ?_) (fun _ hw => ?_)
  ·
    refine l_fx2 (fun (r : Int32 → Int32 → Prop) (r9 : Int32 → Int32 → Prop) => ∀ (x0 : Int32), ∀ (x1 : Int32), r9 x0 x1 → r x0 x1) (fun _ _ h9_ => h9_.elim) ?_ N _ _ hw
    intro w10_ w11_ hv9_ x7_ x8_ hw
    refine l_gA W rfl l0 (c := 2) rfl (Or.inr rfl) ?_
    refine l_aI W (f := 32) rfl l0 rfl hw (fun hw => ?_)
    refine l_br hw (fun _ hw => ?_) (fun _ hw => ?_)
    ·
      refine l_ok hw (fun _ hw => ?_)
      exact hk _ hw
    ·
      refine l_gA W rfl l0 (c := 2) rfl (Or.inr rfl) ?_
      refine l_aI W (f := 33) rfl l0 rfl hw (fun hw => ?_)
      refine l_jn (fun (r : Int32 → Prop) (r9 : Int32 → Prop) => ∀ (x0 : Int32), r9 x0 → r x0) hw ?_ (fun j13_ j14_ hj15_ hw => ?_)
      ·
        intro x12_ hw
        refine l_jn (fun (r : Int32 → Prop) (r9 : Int32 → Prop) => ∀ (x0 : Int32), r9 x0 → r x0) hw ?_ (fun j17_ j18_ hj19_ hw => ?_)
        ·
          intro x16_ hw
          exact hv9_ _ _ hw
        ·
          refine l_br hw (fun _ hw => ?_) (fun _ hw => ?_)
          ·
            exact hj19_ _ hw
          ·
            refine l_br hw (fun _ hw => ?_) (fun _ hw => ?_)
            ·
              exact hj19_ _ hw
            ·
              refine l_gA W rfl l0 (c := 2) rfl (Or.inr rfl) ?_
              refine l_gA W rfl l0 (c := 2) rfl (Or.inr rfl) ?_
              refine l_aI W (f := 33) rfl l0 rfl hw (fun hw => ?_)
              refine l_aI W (f := 37) rfl l0 rfl hw (fun hw => ?_)
              refine l_br hw (fun _ hw => ?_) (fun _ hw => ?_)
              ·
                exact hj19_ _ hw
              ·
                refine l_gA W rfl l0 (c := 2) rfl (Or.inr rfl) ?_
                refine l_gA W rfl l0 (c := 2) rfl (Or.inr rfl) ?_
                refine l_aI W (f := 35) rfl l0 rfl hw (fun hw => ?_)
                refine l_aI W (f := 37) rfl l0 rfl hw (fun hw => ?_)
                refine l_br hw (fun _ hw => ?_) (fun _ hw => ?_)
                ·
                  exact hj19_ _ hw
                ·
                  refine l_gA W rfl l0 (c := 2) rfl (Or.inr rfl) ?_
                  refine l_aI W (f := 33) rfl l0 rfl hw (fun hw => ?_)
                  refine l_gA W rfl l0 (c := 2) rfl (Or.inr rfl) ?_
                  refine l_aI W (f := 34) rfl l0 rfl hw (fun hw => ?_)
                  refine l_cv W rfl l0 rfl ?_
                  refine y_X12_chosenAt W hw (fun v20_ hw => ?_) rfl l0
                  refine l_gA W rfl l0 (c := 2) rfl (Or.inr rfl) ?_
                  refine l_aI W (f := 35) rfl l0 rfl hw (fun hw => ?_)
                  refine l_gA W rfl l0 (c := 2) rfl (Or.inr rfl) ?_
                  refine l_aI W (f := 36) rfl l0 rfl hw (fun hw => ?_)
                  refine l_cv W rfl l0 rfl ?_
                  refine y_X12_chosenAt W hw (fun v21_ hw => ?_) rfl l0
                  refine l_jn (fun (r : Int32 → Prop) (r9 : Int32 → Prop) => ∀ (x0 : Int32), r9 x0 → r x0) hw ?_ (fun j23_ j24_ hj25_ hw => ?_)
                  ·
                    intro x22_ hw
                    exact hj19_ _ hw
                  ·
                    refine l_br hw (fun _ hw => ?_) (fun _ hw => ?_)
                    ·
                      exact hj25_ _ hw
                    ·
                      exact hj25_ _ hw
      ·
        refine l_jn (fun (r : Prop) (r9 : Prop) =>  r9  → r ) hw ?_ (fun j26_ j27_ hj28_ hw => ?_)
        ·
          intro hw
          exact hj15_ _ hw
        ·
          refine l_br hw (fun _ hw => ?_) (fun _ hw => ?_)
          ·
            exact hj28_  hw
          ·
            refine l_gA W rfl l0 (c := 2) rfl (Or.inr rfl) ?_
            refine l_aI W (f := 35) rfl l0 rfl hw (fun hw => ?_)
            refine l_br hw (fun _ hw => ?_) (fun _ hw => ?_)
            ·
              exact hj28_  hw
            ·
              exact hj15_ _ hw
  ·
    refine l_jn (fun (r : Int32 → Prop) (r9 : Int32 → Prop) => ∀ (x0 : Int32), r9 x0 → r x0) hw ?_ (fun j30_ j31_ hj32_ hw => ?_)
    ·
      intro x29_ hw
      exact hv4_ _ _ hw
    ·
      refine l_jn (fun (r : Prop) (r9 : Prop) =>  r9  → r ) hw ?_ (fun j33_ j34_ hj35_ hw => ?_)
      ·
        intro hw
        exact hj32_ _ hw
      ·
        refine l_br hw (fun _ hw => ?_) (fun _ hw => ?_)
        ·
          exact hj35_  hw
        ·
          refine l_gA W rfl l0 (c := 2) rfl (Or.inr rfl) ?_
          refine l_aI W (f := 28) rfl l0 rfl hw (fun hw => ?_)
          refine l_jn (fun (r : Prop) (r9 : Prop) =>  r9  → r ) hw ?_ (fun j36_ j37_ hj38_ hw => ?_)
          ·
            intro hw
            exact hj32_ _ hw
          ·
            refine l_br hw (fun _ hw => ?_) (fun _ hw => ?_)
            ·
              refine l_gA W rfl l0 (c := 2) rfl (Or.inr rfl) ?_
              refine l_aI W (f := 30) rfl l0 rfl hw (fun hw => ?_)
              refine l_gA W rfl l0 (c := 2) rfl (Or.inr rfl) ?_
              refine l_aI W (f := 31) rfl l0 rfl hw (fun hw => ?_)
              refine l_gA W rfl l0 (c := 2) rfl (Or.inr rfl) ?_
              refine l_aI W (f := 29) rfl l0 rfl hw (fun hw => ?_)
              refine l_cv W rfl l0 rfl ?_
              refine y_X12_chosenAt W hw (fun v39_ hw => ?_) rfl l0
              refine y_X12_holds W hw (fun v40_ hw => ?_) 
              refine l_br hw (fun _ hw => ?_) (fun _ hw => ?_)
              ·
                exact hj35_  hw
              ·
                exact hj38_  hw
            ·
              exact hj38_  hw
def z_X12_choosesNone (N : Nat) (a0 : Nat) (h0 : St) (K : St → Prop) : Prop :=
  wA 3 (0 : Int32) (stP h0 12 a0 37 ((0 : Int32)).toNatClampNeg (-1)) fun h2 =>
  wA 3 (1 : Int32) (stP h2 12 a0 37 ((1 : Int32)).toNatClampNeg (-1)) fun h4 =>
  wA 3 (2 : Int32) (stP h4 12 a0 37 ((2 : Int32)).toNatClampNeg (-1)) fun h6 =>
  K h6
set_option maxHeartbeats 1000000 in
theorem y_X12_choosesNone {ad : Nat → Nat → Nat → Nat} {h : Hp} {V : Nat → Nat} {h0 : St} {N : Nat} (W : Wf ad h V h0) {a0 a0_ : Nat} {K : Hp → Prop} {K9 : St → Prop} (hw : z_X12_choosesNone N a0_ h0 K9) (hk : ∀ (h9 : Hp) (s9 : St), Wf ad h9 V s9 → K9 s9 →  K h9) (e0 : a0 = ad 12 a0_ 0) (l0 : a0_ < V 12) : w_X12_choosesNone N a0 h K := by
  subst e0
  unfold z_X12_choosesNone at hw
  unfold w_X12_choosesNone
  refine l_gA W rfl l0 (c := 2) rfl (Or.inr rfl) ?_
  refine l_sI W (f := 37) rfl l0 rfl hw (fun h2_ W1_ hw => ?_)
  refine l_gA W1_ rfl l0 (c := 2) rfl (Or.inr rfl) ?_
  refine l_sI W1_ (f := 37) rfl l0 rfl hw (fun h4_ W3_ hw => ?_)
  refine l_gA W3_ rfl l0 (c := 2) rfl (Or.inr rfl) ?_
  refine l_sI W3_ (f := 37) rfl l0 rfl hw (fun h6_ W5_ hw => ?_)
  exact hk _ _ W5_ hw
def z_X12_beginsAnswers (N : Nat) (a0 : Nat) (h0 : St) (K : St → Prop) : Prop :=
  z_X12_choosesNone N a0 h0 fun h1 =>
  lt_ (stP h1 12 a0 38 0 0) fun h2 =>
  K h2
set_option maxHeartbeats 1000000 in
theorem y_X12_beginsAnswers {ad : Nat → Nat → Nat → Nat} {h : Hp} {V : Nat → Nat} {h0 : St} {N : Nat} (W : Wf ad h V h0) {a0 a0_ : Nat} {K : Hp → Prop} {K9 : St → Prop} (hw : z_X12_beginsAnswers N a0_ h0 K9) (hk : ∀ (h9 : Hp) (s9 : St), Wf ad h9 V s9 → K9 s9 →  K h9) (e0 : a0 = ad 12 a0_ 0) (l0 : a0_ < V 12) : w_X12_beginsAnswers N a0 h K := by
  subst e0
  unfold z_X12_beginsAnswers at hw
  unfold w_X12_beginsAnswers
  refine l_cv W rfl l0 rfl ?_
  refine y_X12_choosesNone W hw (fun h2_ s3_ W1_ hw => ?_) rfl l0
  refine l_pI W1_ rfl l0 rfl hw (fun h5_ W4_ hw => ?_)
  exact hk _ _ W4_ hw
def z_X12_nextAnswer (N : Nat) (a0 : Nat) (p1 : Int32) (h0 : St) (K : Int32 → St → Prop) : Prop :=
  br ((sP h0 12 a0 38 0) < 0) (
    K 0 h0) (
    wI 3 (sP h0 12 a0 38 0) <|
    wA 3 (sP h0 12 a0 38 0) (stP h0 12 a0 37 ((sP h0 12 a0 38 0)).toNatClampNeg ((sP h0 12 a0 37 ((sP h0 12 a0 38 0)).toNatClampNeg) + 1)) fun h5 =>
    wI 3 (sP h5 12 a0 38 0) <|
    wI 24 ((3 * p1) + (sP h5 12 a0 38 0)) <|
    wI 3 (sP h5 12 a0 26 (((3 * p1) + (sP h5 12 a0 38 0))).toNatClampNeg) <|
    br ((sP h5 12 a0 37 ((sP h5 12 a0 38 0)).toNatClampNeg) = (sP h5 12 a0 3 ((sP h5 12 a0 26 (((3 * p1) + (sP h5 12 a0 38 0))).toNatClampNeg)).toNatClampNeg)) (
      wA 3 (sP h5 12 a0 38 0) (stP h5 12 a0 37 ((sP h5 12 a0 38 0)).toNatClampNeg (-1)) fun h75 =>
      lt_ (stP h75 12 a0 38 0 ((sP h75 12 a0 38 0) - 1)) fun h77 =>
      fx1 (fun (w0 : St → Prop) (h78 : St) =>
        br ((sP h78 12 a0 38 0) < 0) (
          K 0 h78) (
          wI 3 (sP h78 12 a0 38 0) <|
          wA 3 (sP h78 12 a0 38 0) (stP h78 12 a0 37 ((sP h78 12 a0 38 0)).toNatClampNeg ((sP h78 12 a0 37 ((sP h78 12 a0 38 0)).toNatClampNeg) + 1)) fun h83 =>
          wI 3 (sP h83 12 a0 38 0) <|
          wI 24 ((3 * p1) + (sP h83 12 a0 38 0)) <|
          wI 3 (sP h83 12 a0 26 (((3 * p1) + (sP h83 12 a0 38 0))).toNatClampNeg) <|
          br ((sP h83 12 a0 37 ((sP h83 12 a0 38 0)).toNatClampNeg) = (sP h83 12 a0 3 ((sP h83 12 a0 26 (((3 * p1) + (sP h83 12 a0 38 0))).toNatClampNeg)).toNatClampNeg)) (
            wA 3 (sP h83 12 a0 38 0) (stP h83 12 a0 37 ((sP h83 12 a0 38 0)).toNatClampNeg (-1)) fun h101 =>
            lt_ (stP h101 12 a0 38 0 ((sP h101 12 a0 38 0) - 1)) fun h103 =>
            w0 h103) (
            z_X12_fits N a0 p1 (sP h83 12 a0 38 0) h83 fun v93 =>
            br (v93 = 0) (
              w0 h83) (
              wI 8 p1 <|
              br ((sP h83 12 a0 38 0) = ((sP h83 12 a0 25 (p1).toNatClampNeg) - 1)) (
                K 1 h83) (
                lt_ (stP h83 12 a0 38 0 ((sP h83 12 a0 38 0) + 1)) fun h98 =>
                w0 h98))))) N h77) (
      z_X12_fits N a0 p1 (sP h5 12 a0 38 0) h5 fun v15 =>
      br (v15 = 0) (
        fx1 (fun (w0 : St → Prop) (h16 : St) =>
          br ((sP h16 12 a0 38 0) < 0) (
            K 0 h16) (
            wI 3 (sP h16 12 a0 38 0) <|
            wA 3 (sP h16 12 a0 38 0) (stP h16 12 a0 37 ((sP h16 12 a0 38 0)).toNatClampNeg ((sP h16 12 a0 37 ((sP h16 12 a0 38 0)).toNatClampNeg) + 1)) fun h21 =>
            wI 3 (sP h21 12 a0 38 0) <|
            wI 24 ((3 * p1) + (sP h21 12 a0 38 0)) <|
            wI 3 (sP h21 12 a0 26 (((3 * p1) + (sP h21 12 a0 38 0))).toNatClampNeg) <|
            br ((sP h21 12 a0 37 ((sP h21 12 a0 38 0)).toNatClampNeg) = (sP h21 12 a0 3 ((sP h21 12 a0 26 (((3 * p1) + (sP h21 12 a0 38 0))).toNatClampNeg)).toNatClampNeg)) (
              wA 3 (sP h21 12 a0 38 0) (stP h21 12 a0 37 ((sP h21 12 a0 38 0)).toNatClampNeg (-1)) fun h39 =>
              lt_ (stP h39 12 a0 38 0 ((sP h39 12 a0 38 0) - 1)) fun h41 =>
              w0 h41) (
              z_X12_fits N a0 p1 (sP h21 12 a0 38 0) h21 fun v31 =>
              br (v31 = 0) (
                w0 h21) (
                wI 8 p1 <|
                br ((sP h21 12 a0 38 0) = ((sP h21 12 a0 25 (p1).toNatClampNeg) - 1)) (
                  K 1 h21) (
                  lt_ (stP h21 12 a0 38 0 ((sP h21 12 a0 38 0) + 1)) fun h36 =>
                  w0 h36))))) N h5) (
        wI 8 p1 <|
        br ((sP h5 12 a0 38 0) = ((sP h5 12 a0 25 (p1).toNatClampNeg) - 1)) (
          K 1 h5) (
          lt_ (stP h5 12 a0 38 0 ((sP h5 12 a0 38 0) + 1)) fun h46 =>
          fx1 (fun (w0 : St → Prop) (h47 : St) =>
            br ((sP h47 12 a0 38 0) < 0) (
              K 0 h47) (
              wI 3 (sP h47 12 a0 38 0) <|
              wA 3 (sP h47 12 a0 38 0) (stP h47 12 a0 37 ((sP h47 12 a0 38 0)).toNatClampNeg ((sP h47 12 a0 37 ((sP h47 12 a0 38 0)).toNatClampNeg) + 1)) fun h52 =>
              wI 3 (sP h52 12 a0 38 0) <|
              wI 24 ((3 * p1) + (sP h52 12 a0 38 0)) <|
              wI 3 (sP h52 12 a0 26 (((3 * p1) + (sP h52 12 a0 38 0))).toNatClampNeg) <|
              br ((sP h52 12 a0 37 ((sP h52 12 a0 38 0)).toNatClampNeg) = (sP h52 12 a0 3 ((sP h52 12 a0 26 (((3 * p1) + (sP h52 12 a0 38 0))).toNatClampNeg)).toNatClampNeg)) (
                wA 3 (sP h52 12 a0 38 0) (stP h52 12 a0 37 ((sP h52 12 a0 38 0)).toNatClampNeg (-1)) fun h70 =>
                lt_ (stP h70 12 a0 38 0 ((sP h70 12 a0 38 0) - 1)) fun h72 =>
                w0 h72) (
                z_X12_fits N a0 p1 (sP h52 12 a0 38 0) h52 fun v62 =>
                br (v62 = 0) (
                  w0 h52) (
                  wI 8 p1 <|
                  br ((sP h52 12 a0 38 0) = ((sP h52 12 a0 25 (p1).toNatClampNeg) - 1)) (
                    K 1 h52) (
                    lt_ (stP h52 12 a0 38 0 ((sP h52 12 a0 38 0) + 1)) fun h67 =>
                    w0 h67))))) N h46))))
set_option maxHeartbeats 1000000 in
theorem y_X12_nextAnswer {ad : Nat → Nat → Nat → Nat} {h : Hp} {V : Nat → Nat} {h0 : St} {N : Nat} (W : Wf ad h V h0) {a0 a0_ : Nat} {p1 : Int32} {K : Int32 → Hp → Prop} {K9 : Int32 → St → Prop} (hw : z_X12_nextAnswer N a0_ p1 h0 K9) (hk : ∀ (r0 : Int32), ∀ (h9 : Hp) (s9 : St), Wf ad h9 V s9 → K9 r0 s9 →  K r0 h9) (e0 : a0 = ad 12 a0_ 0) (l0 : a0_ < V 12) : w_X12_nextAnswer N a0 p1 h K := by
  subst e0
  unfold z_X12_nextAnswer at hw
  unfold w_X12_nextAnswer
  refine l_gI W rfl l0 rfl ?_
  refine l_br hw (fun _ hw => ?_) (fun _ hw => ?_)
  ·
    exact hk _ _ _ W hw
  ·
    refine l_gA W rfl l0 (c := 2) rfl (Or.inr rfl) ?_
    refine l_gI W rfl l0 rfl ?_
    refine l_aI W (f := 37) rfl l0 rfl hw (fun hw => ?_)
    refine l_sI W (f := 37) rfl l0 rfl hw (fun h2_ W1_ hw => ?_)
    refine l_gA W1_ rfl l0 (c := 2) rfl (Or.inr rfl) ?_
    refine l_gI W1_ rfl l0 rfl ?_
    refine l_aI W1_ (f := 37) rfl l0 rfl hw (fun hw => ?_)
    refine l_gA W1_ rfl l0 (c := 2) rfl (Or.inr rfl) ?_
    refine l_gA W1_ rfl l0 (c := 2) rfl (Or.inr rfl) ?_
    refine l_gI W1_ rfl l0 rfl ?_
    refine l_aI W1_ (f := 26) rfl l0 rfl hw (fun hw => ?_)
    refine l_aI W1_ (f := 3) rfl l0 rfl hw (fun hw => ?_)
    refine l_br hw (fun _ hw => ?_) (fun _ hw => ?_)
    ·
      refine l_gA W1_ rfl l0 (c := 2) rfl (Or.inr rfl) ?_
      refine l_gI W1_ rfl l0 rfl ?_
      refine l_sI W1_ (f := 37) rfl l0 rfl hw (fun h4_ W3_ hw => ?_)
      refine l_gI W3_ rfl l0 rfl ?_
      refine l_pI W3_ rfl l0 rfl hw (fun h6_ W5_ hw => ?_)
      refine l_fx1 (fun (r : Hp → Prop) (r9 : St → Prop) => ∀ (h9 : Hp) (s9 : St), Wf ad h9 V s9 → r9 s9 → r h9) (fun _ _ _ h9_ => h9_.elim) ?_ N _ _ W5_ hw
      intro w11_ w12_ hv10_ h8_ s9_ W7_ hw
      refine l_gI W7_ rfl l0 rfl ?_
      refine l_br hw (fun _ hw => ?_) (fun _ hw => ?_)
      ·
        exact hk _ _ _ W7_ hw
      ·
        refine l_gA W7_ rfl l0 (c := 2) rfl (Or.inr rfl) ?_
        refine l_gI W7_ rfl l0 rfl ?_
        refine l_aI W7_ (f := 37) rfl l0 rfl hw (fun hw => ?_)
        refine l_sI W7_ (f := 37) rfl l0 rfl hw (fun h14_ W13_ hw => ?_)
        refine l_gA W13_ rfl l0 (c := 2) rfl (Or.inr rfl) ?_
        refine l_gI W13_ rfl l0 rfl ?_
        refine l_aI W13_ (f := 37) rfl l0 rfl hw (fun hw => ?_)
        refine l_gA W13_ rfl l0 (c := 2) rfl (Or.inr rfl) ?_
        refine l_gA W13_ rfl l0 (c := 2) rfl (Or.inr rfl) ?_
        refine l_gI W13_ rfl l0 rfl ?_
        refine l_aI W13_ (f := 26) rfl l0 rfl hw (fun hw => ?_)
        refine l_aI W13_ (f := 3) rfl l0 rfl hw (fun hw => ?_)
        refine l_br hw (fun _ hw => ?_) (fun _ hw => ?_)
        ·
          refine l_gA W13_ rfl l0 (c := 2) rfl (Or.inr rfl) ?_
          refine l_gI W13_ rfl l0 rfl ?_
          refine l_sI W13_ (f := 37) rfl l0 rfl hw (fun h16_ W15_ hw => ?_)
          refine l_gI W15_ rfl l0 rfl ?_
          refine l_pI W15_ rfl l0 rfl hw (fun h18_ W17_ hw => ?_)
          exact hv10_ _ _ W17_ hw
        ·
          refine l_gI W13_ rfl l0 rfl ?_
          refine l_cv W13_ rfl l0 rfl ?_
          refine y_X12_fits W13_ hw (fun v19_ hw => ?_) rfl l0
          refine l_br hw (fun _ hw => ?_) (fun _ hw => ?_)
          ·
            exact hv10_ _ _ W13_ hw
          ·
            refine l_gI W13_ rfl l0 rfl ?_
            refine l_gA W13_ rfl l0 (c := 2) rfl (Or.inr rfl) ?_
            refine l_aI W13_ (f := 25) rfl l0 rfl hw (fun hw => ?_)
            refine l_br hw (fun _ hw => ?_) (fun _ hw => ?_)
            ·
              exact hk _ _ _ W13_ hw
            ·
              refine l_gI W13_ rfl l0 rfl ?_
              refine l_pI W13_ rfl l0 rfl hw (fun h21_ W20_ hw => ?_)
              exact hv10_ _ _ W20_ hw
    ·
      refine l_gI W1_ rfl l0 rfl ?_
      refine l_cv W1_ rfl l0 rfl ?_
      refine y_X12_fits W1_ hw (fun v22_ hw => ?_) rfl l0
      refine l_br hw (fun _ hw => ?_) (fun _ hw => ?_)
      ·
        refine l_fx1 (fun (r : Hp → Prop) (r9 : St → Prop) => ∀ (h9 : Hp) (s9 : St), Wf ad h9 V s9 → r9 s9 → r h9) (fun _ _ _ h9_ => h9_.elim) ?_ N _ _ W1_ hw
        intro w27_ w28_ hv26_ h24_ s25_ W23_ hw
        refine l_gI W23_ rfl l0 rfl ?_
        refine l_br hw (fun _ hw => ?_) (fun _ hw => ?_)
        ·
          exact hk _ _ _ W23_ hw
        ·
          refine l_gA W23_ rfl l0 (c := 2) rfl (Or.inr rfl) ?_
          refine l_gI W23_ rfl l0 rfl ?_
          refine l_aI W23_ (f := 37) rfl l0 rfl hw (fun hw => ?_)
          refine l_sI W23_ (f := 37) rfl l0 rfl hw (fun h30_ W29_ hw => ?_)
          refine l_gA W29_ rfl l0 (c := 2) rfl (Or.inr rfl) ?_
          refine l_gI W29_ rfl l0 rfl ?_
          refine l_aI W29_ (f := 37) rfl l0 rfl hw (fun hw => ?_)
          refine l_gA W29_ rfl l0 (c := 2) rfl (Or.inr rfl) ?_
          refine l_gA W29_ rfl l0 (c := 2) rfl (Or.inr rfl) ?_
          refine l_gI W29_ rfl l0 rfl ?_
          refine l_aI W29_ (f := 26) rfl l0 rfl hw (fun hw => ?_)
          refine l_aI W29_ (f := 3) rfl l0 rfl hw (fun hw => ?_)
          refine l_br hw (fun _ hw => ?_) (fun _ hw => ?_)
          ·
            refine l_gA W29_ rfl l0 (c := 2) rfl (Or.inr rfl) ?_
            refine l_gI W29_ rfl l0 rfl ?_
            refine l_sI W29_ (f := 37) rfl l0 rfl hw (fun h32_ W31_ hw => ?_)
            refine l_gI W31_ rfl l0 rfl ?_
            refine l_pI W31_ rfl l0 rfl hw (fun h34_ W33_ hw => ?_)
            exact hv26_ _ _ W33_ hw
          ·
            refine l_gI W29_ rfl l0 rfl ?_
            refine l_cv W29_ rfl l0 rfl ?_
            refine y_X12_fits W29_ hw (fun v35_ hw => ?_) rfl l0
            refine l_br hw (fun _ hw => ?_) (fun _ hw => ?_)
            ·
              exact hv26_ _ _ W29_ hw
            ·
              refine l_gI W29_ rfl l0 rfl ?_
              refine l_gA W29_ rfl l0 (c := 2) rfl (Or.inr rfl) ?_
              refine l_aI W29_ (f := 25) rfl l0 rfl hw (fun hw => ?_)
              refine l_br hw (fun _ hw => ?_) (fun _ hw => ?_)
              ·
                exact hk _ _ _ W29_ hw
              ·
                refine l_gI W29_ rfl l0 rfl ?_
                refine l_pI W29_ rfl l0 rfl hw (fun h37_ W36_ hw => ?_)
                exact hv26_ _ _ W36_ hw
      ·
        refine l_gI W1_ rfl l0 rfl ?_
        refine l_gA W1_ rfl l0 (c := 2) rfl (Or.inr rfl) ?_
        refine l_aI W1_ (f := 25) rfl l0 rfl hw (fun hw => ?_)
        refine l_br hw (fun _ hw => ?_) (fun _ hw => ?_)
        ·
          exact hk _ _ _ W1_ hw
        ·
          refine l_gI W1_ rfl l0 rfl ?_
          refine l_pI W1_ rfl l0 rfl hw (fun h39_ W38_ hw => ?_)
          refine l_fx1 (fun (r : Hp → Prop) (r9 : St → Prop) => ∀ (h9 : Hp) (s9 : St), Wf ad h9 V s9 → r9 s9 → r h9) (fun _ _ _ h9_ => h9_.elim) ?_ N _ _ W38_ hw
          intro w44_ w45_ hv43_ h41_ s42_ W40_ hw
          refine l_gI W40_ rfl l0 rfl ?_
          refine l_br hw (fun _ hw => ?_) (fun _ hw => ?_)
          ·
            exact hk _ _ _ W40_ hw
          ·
            refine l_gA W40_ rfl l0 (c := 2) rfl (Or.inr rfl) ?_
            refine l_gI W40_ rfl l0 rfl ?_
            refine l_aI W40_ (f := 37) rfl l0 rfl hw (fun hw => ?_)
            refine l_sI W40_ (f := 37) rfl l0 rfl hw (fun h47_ W46_ hw => ?_)
            refine l_gA W46_ rfl l0 (c := 2) rfl (Or.inr rfl) ?_
            refine l_gI W46_ rfl l0 rfl ?_
            refine l_aI W46_ (f := 37) rfl l0 rfl hw (fun hw => ?_)
            refine l_gA W46_ rfl l0 (c := 2) rfl (Or.inr rfl) ?_
            refine l_gA W46_ rfl l0 (c := 2) rfl (Or.inr rfl) ?_
            refine l_gI W46_ rfl l0 rfl ?_
            refine l_aI W46_ (f := 26) rfl l0 rfl hw (fun hw => ?_)
            refine l_aI W46_ (f := 3) rfl l0 rfl hw (fun hw => ?_)
            refine l_br hw (fun _ hw => ?_) (fun _ hw => ?_)
            ·
              refine l_gA W46_ rfl l0 (c := 2) rfl (Or.inr rfl) ?_
              refine l_gI W46_ rfl l0 rfl ?_
              refine l_sI W46_ (f := 37) rfl l0 rfl hw (fun h49_ W48_ hw => ?_)
              refine l_gI W48_ rfl l0 rfl ?_
              refine l_pI W48_ rfl l0 rfl hw (fun h51_ W50_ hw => ?_)
              exact hv43_ _ _ W50_ hw
            ·
              refine l_gI W46_ rfl l0 rfl ?_
              refine l_cv W46_ rfl l0 rfl ?_
              refine y_X12_fits W46_ hw (fun v52_ hw => ?_) rfl l0
              refine l_br hw (fun _ hw => ?_) (fun _ hw => ?_)
              ·
                exact hv43_ _ _ W46_ hw
              ·
                refine l_gI W46_ rfl l0 rfl ?_
                refine l_gA W46_ rfl l0 (c := 2) rfl (Or.inr rfl) ?_
                refine l_aI W46_ (f := 25) rfl l0 rfl hw (fun hw => ?_)
                refine l_br hw (fun _ hw => ?_) (fun _ hw => ?_)
                ·
                  exact hk _ _ _ W46_ hw
                ·
                  refine l_gI W46_ rfl l0 rfl ?_
                  refine l_pI W46_ rfl l0 rfl hw (fun h54_ W53_ hw => ?_)
                  exact hv43_ _ _ W53_ hw
def z_X12_answers (N : Nat) (a0 : Nat) (p1 : Int32) (h0 : St) (K : Int32 → St → Prop) : Prop :=
  lt_ (stP h0 12 a0 0 0 0) fun h1 =>
  z_X12_isQuery N a0 p1 h1 fun v2 =>
  jn (fun (v3 : Int32) =>
    z_X12_fails N a0 v3 1 h1 fun v4 h5 =>
    br (v4 = 0) (
      wI 8 p1 <|
      jn (fun (v8 : Int32) =>
        z_X12_fails N a0 v8 2 h5 fun v9 h10 =>
        br (v9 = 0) (
          z_X12_beginsAnswers N a0 h10 fun h11 =>
          fx2 (fun (w56 : Int32 → St → Prop) (x13 : Int32) (h12 : St) =>
            z_X12_nextAnswer N a0 p1 h12 fun v14 h15 =>
            br (v14 = 0) (
              K x13 h15) (
              w56 (x13 + 1) h15)) N 0 h11) (
          K (-1) h10)) (fun j41 =>
        br ((sP h5 12 a0 25 (p1).toNatClampNeg) = 0) (
          j41 1) (
          j41 0))) (
      K (-1) h5)) (fun j19 =>
    br (v2 = 0) (
      j19 1) (
      j19 0))
set_option maxHeartbeats 1000000 in
theorem y_X12_answers {ad : Nat → Nat → Nat → Nat} {h : Hp} {V : Nat → Nat} {h0 : St} {N : Nat} (W : Wf ad h V h0) {a0 a0_ : Nat} {p1 : Int32} {K : Int32 → Hp → Prop} {K9 : Int32 → St → Prop} (hw : z_X12_answers N a0_ p1 h0 K9) (hk : ∀ (r0 : Int32), ∀ (h9 : Hp) (s9 : St), Wf ad h9 V s9 → K9 r0 s9 →  K r0 h9) (e0 : a0 = ad 12 a0_ 0) (l0 : a0_ < V 12) : w_X12_answers N a0 p1 h K := by
  subst e0
  unfold z_X12_answers at hw
  unfold w_X12_answers
  refine l_pI W rfl l0 rfl hw (fun h2_ W1_ hw => ?_)
  refine l_cv W1_ rfl l0 rfl ?_
  refine y_X12_isQuery W1_ hw (fun v3_ hw => ?_) rfl l0
  refine l_jn (fun (r : Int32 → Prop) (r9 : Int32 → Prop) => ∀ (x0 : Int32), r9 x0 → r x0) hw ?_ (fun j5_ j6_ hj7_ hw => ?_)
  ·
    intro x4_ hw
    refine l_cv W1_ rfl l0 rfl ?_
    refine y_X12_fails W1_ hw (fun v8_ h10_ s11_ W9_ hw => ?_) rfl l0
    refine l_br hw (fun _ hw => ?_) (fun _ hw => ?_)
    ·
      refine l_gA W9_ rfl l0 (c := 2) rfl (Or.inr rfl) ?_
      refine l_aI W9_ (f := 25) rfl l0 rfl hw (fun hw => ?_)
      refine l_jn (fun (r : Int32 → Prop) (r9 : Int32 → Prop) => ∀ (x0 : Int32), r9 x0 → r x0) hw ?_ (fun j13_ j14_ hj15_ hw => ?_)
      ·
        intro x12_ hw
        refine l_cv W9_ rfl l0 rfl ?_
        refine y_X12_fails W9_ hw (fun v16_ h18_ s19_ W17_ hw => ?_) rfl l0
        refine l_br hw (fun _ hw => ?_) (fun _ hw => ?_)
        ·
          refine l_cv W17_ rfl l0 rfl ?_
          refine y_X12_beginsAnswers W17_ hw (fun h21_ s22_ W20_ hw => ?_) rfl l0
          refine l_fx2 (fun (r : Int32 → Hp → Prop) (r9 : Int32 → St → Prop) => ∀ (x0 : Int32), ∀ (h9 : Hp) (s9 : St), Wf ad h9 V s9 → r9 x0 s9 → r x0 h9) (fun _ _ _ _ h9_ => h9_.elim) ?_ N _ _ _ W20_ hw
          intro w28_ w29_ hv27_ x23_ h25_ s26_ W24_ hw
          refine l_cv W24_ rfl l0 rfl ?_
          refine y_X12_nextAnswer W24_ hw (fun v30_ h32_ s33_ W31_ hw => ?_) rfl l0
          refine l_br hw (fun _ hw => ?_) (fun _ hw => ?_)
          ·
            exact hk _ _ _ W31_ hw
          ·
            exact hv27_ _ _ _ W31_ hw
        ·
          exact hk _ _ _ W17_ hw
      ·
        refine l_br hw (fun _ hw => ?_) (fun _ hw => ?_)
        ·
          exact hj15_ _ hw
        ·
          exact hj15_ _ hw
    ·
      exact hk _ _ _ W9_ hw
  ·
    refine l_br hw (fun _ hw => ?_) (fun _ hw => ?_)
    ·
      exact hj7_ _ hw
    ·
      exact hj7_ _ hw
def z_X12_answerAt (N : Nat) (a0 : Nat) (p1 : Int32) (p2 : Int32) (p3 : Int32) (h0 : St) (K : Int32 → St → Prop) : Prop :=
  lt_ (stP h0 12 a0 0 0 0) fun h1 =>
  z_X12_isQuery N a0 p1 h1 fun v2 =>
  jn (fun (v3 : Int32) =>
    z_X12_fails N a0 v3 1 h1 fun v4 h5 =>
    br (v4 = 0) (
      wI 8 p1 <|
      z_X12_in N p3 0 ((sP h5 12 a0 25 (p1).toNatClampNeg) - 1) h5 fun v8 =>
      jn (fun (v9 : Int32) =>
        z_X12_fails N a0 v9 2 h5 fun v10 h11 =>
        br (v10 = 0) (
          z_X12_beginsAnswers N a0 h11 fun h12 =>
          fx3 (fun (w67 : Int32 → Int32 → St → Prop) (x14 : Int32) (x15 : Int32) (h13 : St) =>
            z_X12_nextAnswer N a0 p1 h13 fun v16 h17 =>
            br (v16 = 0) (
              z_X12_in N p2 0 (x14 - 1) h17 fun v18 =>
              jn (fun (v19 : Int32) =>
                z_X12_fails N a0 v19 3 h17 fun v20 h21 =>
                br (v20 = 0) (
                  K x15 h21) (
                  K (-1) h21)) (fun j118 =>
                br (v18 = 0) (
                  j118 1) (
                  j118 0))) (
              jn (fun (v22 : Int32) =>
                w67 (x14 + 1) v22 h17) (fun j92 =>
                br (x14 = p2) (
                  wI 3 p3 <|
                  j92 (sP h17 12 a0 37 (p3).toNatClampNeg)) (
                  j92 x15)))) N 0 (-1) h12) (
          K (-1) h11)) (fun j48 =>
        br (v8 = 0) (
          j48 1) (
          j48 0))) (
      K (-1) h5)) (fun j19 =>
    br (v2 = 0) (
      j19 1) (
      j19 0))
set_option maxHeartbeats 1000000 in
theorem y_X12_answerAt {ad : Nat → Nat → Nat → Nat} {h : Hp} {V : Nat → Nat} {h0 : St} {N : Nat} (W : Wf ad h V h0) {a0 a0_ : Nat} {p1 : Int32} {p2 : Int32} {p3 : Int32} {K : Int32 → Hp → Prop} {K9 : Int32 → St → Prop} (hw : z_X12_answerAt N a0_ p1 p2 p3 h0 K9) (hk : ∀ (r0 : Int32), ∀ (h9 : Hp) (s9 : St), Wf ad h9 V s9 → K9 r0 s9 →  K r0 h9) (e0 : a0 = ad 12 a0_ 0) (l0 : a0_ < V 12) : w_X12_answerAt N a0 p1 p2 p3 h K := by
  subst e0
  unfold z_X12_answerAt at hw
  unfold w_X12_answerAt
  refine l_pI W rfl l0 rfl hw (fun h2_ W1_ hw => ?_)
  refine l_cv W1_ rfl l0 rfl ?_
  refine y_X12_isQuery W1_ hw (fun v3_ hw => ?_) rfl l0
  refine l_jn (fun (r : Int32 → Prop) (r9 : Int32 → Prop) => ∀ (x0 : Int32), r9 x0 → r x0) hw ?_ (fun j5_ j6_ hj7_ hw => ?_)
  ·
    intro x4_ hw
    refine l_cv W1_ rfl l0 rfl ?_
    refine y_X12_fails W1_ hw (fun v8_ h10_ s11_ W9_ hw => ?_) rfl l0
    refine l_br hw (fun _ hw => ?_) (fun _ hw => ?_)
    ·
      refine l_gA W9_ rfl l0 (c := 2) rfl (Or.inr rfl) ?_
      refine l_aI W9_ (f := 25) rfl l0 rfl hw (fun hw => ?_)
      refine y_X12_in W9_ hw (fun v12_ hw => ?_) 
      refine l_jn (fun (r : Int32 → Prop) (r9 : Int32 → Prop) => ∀ (x0 : Int32), r9 x0 → r x0) hw ?_ (fun j14_ j15_ hj16_ hw => ?_)
      ·
        intro x13_ hw
        refine l_cv W9_ rfl l0 rfl ?_
        refine y_X12_fails W9_ hw (fun v17_ h19_ s20_ W18_ hw => ?_) rfl l0
        refine l_br hw (fun _ hw => ?_) (fun _ hw => ?_)
        ·
          refine l_cv W18_ rfl l0 rfl ?_
          refine y_X12_beginsAnswers W18_ hw (fun h22_ s23_ W21_ hw => ?_) rfl l0
          refine l_fx3 (fun (r : Int32 → Int32 → Hp → Prop) (r9 : Int32 → Int32 → St → Prop) => ∀ (x0 : Int32), ∀ (x1 : Int32), ∀ (h9 : Hp) (s9 : St), Wf ad h9 V s9 → r9 x0 x1 s9 → r x0 x1 h9) (fun _ _ _ _ _ h9_ => h9_.elim) ?_ N _ _ _ _ W21_ hw
          intro w30_ w31_ hv29_ x24_ x25_ h27_ s28_ W26_ hw
          refine l_cv W26_ rfl l0 rfl ?_
          refine y_X12_nextAnswer W26_ hw (fun v32_ h34_ s35_ W33_ hw => ?_) rfl l0
          refine l_br hw (fun _ hw => ?_) (fun _ hw => ?_)
          ·
            refine y_X12_in W33_ hw (fun v36_ hw => ?_) 
            refine l_jn (fun (r : Int32 → Prop) (r9 : Int32 → Prop) => ∀ (x0 : Int32), r9 x0 → r x0) hw ?_ (fun j38_ j39_ hj40_ hw => ?_)
            ·
              intro x37_ hw
              refine l_cv W33_ rfl l0 rfl ?_
              refine y_X12_fails W33_ hw (fun v41_ h43_ s44_ W42_ hw => ?_) rfl l0
              refine l_br hw (fun _ hw => ?_) (fun _ hw => ?_)
              ·
                exact hk _ _ _ W42_ hw
              ·
                exact hk _ _ _ W42_ hw
            ·
              refine l_br hw (fun _ hw => ?_) (fun _ hw => ?_)
              ·
                exact hj40_ _ hw
              ·
                exact hj40_ _ hw
          ·
            refine l_jn (fun (r : Int32 → Prop) (r9 : Int32 → Prop) => ∀ (x0 : Int32), r9 x0 → r x0) hw ?_ (fun j46_ j47_ hj48_ hw => ?_)
            ·
              intro x45_ hw
              exact hv29_ _ _ _ _ W33_ hw
            ·
              refine l_br hw (fun _ hw => ?_) (fun _ hw => ?_)
              ·
                refine l_gA W33_ rfl l0 (c := 2) rfl (Or.inr rfl) ?_
                refine l_aI W33_ (f := 37) rfl l0 rfl hw (fun hw => ?_)
                exact hj48_ _ hw
              ·
                exact hj48_ _ hw
        ·
          exact hk _ _ _ W18_ hw
      ·
        refine l_br hw (fun _ hw => ?_) (fun _ hw => ?_)
        ·
          exact hj16_ _ hw
        ·
          exact hj16_ _ hw
    ·
      exact hk _ _ _ W9_ hw
  ·
    refine l_br hw (fun _ hw => ?_) (fun _ hw => ?_)
    ·
      exact hj7_ _ hw
    ·
      exact hj7_ _ hw
def z_X12_sum (N : Nat) (a0 : Nat) (p1 : Int32) (p2 : Int32) (p3 : Int32) (h0 : St) (K : Int64 → St → Prop) : Prop :=
  lt_ (stP h0 12 a0 0 0 0) fun h1 =>
  z_X12_isQuery N a0 p1 h1 fun v2 =>
  jn (fun (v3 : Int32) =>
    z_X12_fails N a0 v3 1 h1 fun v4 h5 =>
    br (v4 = 0) (
      z_X12_isPlace N a0 p1 p2 p3 h5 fun v6 =>
      jn (fun (v7 : Int32) =>
        z_X12_fails N a0 v7 2 h5 fun v8 h9 =>
        br (v8 = 0) (
          z_X12_beginsAnswers N a0 h9 fun h10 =>
          fx2 (fun (w60 : Int64 → St → Prop) (y12 : Int64) (h11 : St) =>
            z_X12_nextAnswer N a0 p1 h11 fun v13 h14 =>
            br (v13 = 0) (
              K y12 h14) (
              z_X12_chosenAt N a0 p1 p2 p3 h14 fun v15 =>
              w60 (y12 + ((v15 : Int32).toInt64)) h14)) N 0 h10) (
          K (-1) h9)) (fun j42 =>
        br (v6 = 0) (
          j42 1) (
          j42 0))) (
      K (-1) h5)) (fun j19 =>
    br (v2 = 0) (
      j19 1) (
      j19 0))
set_option maxHeartbeats 1000000 in
theorem y_X12_sum {ad : Nat → Nat → Nat → Nat} {h : Hp} {V : Nat → Nat} {h0 : St} {N : Nat} (W : Wf ad h V h0) {a0 a0_ : Nat} {p1 : Int32} {p2 : Int32} {p3 : Int32} {K : Int64 → Hp → Prop} {K9 : Int64 → St → Prop} (hw : z_X12_sum N a0_ p1 p2 p3 h0 K9) (hk : ∀ (r0 : Int64), ∀ (h9 : Hp) (s9 : St), Wf ad h9 V s9 → K9 r0 s9 →  K r0 h9) (e0 : a0 = ad 12 a0_ 0) (l0 : a0_ < V 12) : w_X12_sum N a0 p1 p2 p3 h K := by
  subst e0
  unfold z_X12_sum at hw
  unfold w_X12_sum
  refine l_pI W rfl l0 rfl hw (fun h2_ W1_ hw => ?_)
  refine l_cv W1_ rfl l0 rfl ?_
  refine y_X12_isQuery W1_ hw (fun v3_ hw => ?_) rfl l0
  refine l_jn (fun (r : Int32 → Prop) (r9 : Int32 → Prop) => ∀ (x0 : Int32), r9 x0 → r x0) hw ?_ (fun j5_ j6_ hj7_ hw => ?_)
  ·
    intro x4_ hw
    refine l_cv W1_ rfl l0 rfl ?_
    refine y_X12_fails W1_ hw (fun v8_ h10_ s11_ W9_ hw => ?_) rfl l0
    refine l_br hw (fun _ hw => ?_) (fun _ hw => ?_)
    ·
      refine l_cv W9_ rfl l0 rfl ?_
      refine y_X12_isPlace W9_ hw (fun v12_ hw => ?_) rfl l0
      refine l_jn (fun (r : Int32 → Prop) (r9 : Int32 → Prop) => ∀ (x0 : Int32), r9 x0 → r x0) hw ?_ (fun j14_ j15_ hj16_ hw => ?_)
      ·
        intro x13_ hw
        refine l_cv W9_ rfl l0 rfl ?_
        refine y_X12_fails W9_ hw (fun v17_ h19_ s20_ W18_ hw => ?_) rfl l0
        refine l_br hw (fun _ hw => ?_) (fun _ hw => ?_)
        ·
          refine l_cv W18_ rfl l0 rfl ?_
          refine y_X12_beginsAnswers W18_ hw (fun h22_ s23_ W21_ hw => ?_) rfl l0
          refine l_fx2 (fun (r : Int64 → Hp → Prop) (r9 : Int64 → St → Prop) => ∀ (x0 : Int64), ∀ (h9 : Hp) (s9 : St), Wf ad h9 V s9 → r9 x0 s9 → r x0 h9) (fun _ _ _ _ h9_ => h9_.elim) ?_ N _ _ _ W21_ hw
          intro w29_ w30_ hv28_ x24_ h26_ s27_ W25_ hw
          refine l_cv W25_ rfl l0 rfl ?_
          refine y_X12_nextAnswer W25_ hw (fun v31_ h33_ s34_ W32_ hw => ?_) rfl l0
          refine l_br hw (fun _ hw => ?_) (fun _ hw => ?_)
          ·
            exact hk _ _ _ W32_ hw
          ·
            refine l_cv W32_ rfl l0 rfl ?_
            refine y_X12_chosenAt W32_ hw (fun v35_ hw => ?_) rfl l0
            exact hv28_ _ _ _ W32_ hw
        ·
          exact hk _ _ _ W18_ hw
      ·
        refine l_br hw (fun _ hw => ?_) (fun _ hw => ?_)
        ·
          exact hj16_ _ hw
        ·
          exact hj16_ _ hw
    ·
      exact hk _ _ _ W9_ hw
  ·
    refine l_br hw (fun _ hw => ?_) (fun _ hw => ?_)
    ·
      exact hj7_ _ hw
    ·
      exact hj7_ _ hw
def z_X12_indexOn (N : Nat) (a0 : Nat) (p1 : Int32) (p2 : Int32) (h0 : St) (K : Int32 → Prop) : Prop :=
  fx2 (fun (w10 : Int32 → Int32 → Prop) (x2 : Int32) (x3 : Int32) =>
    br (x3 < 0) (
      K x2) (
      wI 6 x3 <|
      jn (fun (v6 : Int32) =>
        w10 v6 (x3 + (-1))) (fun j55 =>
        jn (
          j55 x2) (fun j54 =>
          br ((sP h0 12 a0 14 (x3).toNatClampNeg) = p1) (
            wI 6 x3 <|
            br ((sP h0 12 a0 15 (x3).toNatClampNeg) = p2) (
              br ((((sP h0 12 a0 45 0) >>> (x3 &&& 31)) &&& 1) = 0) (
                j55 x3) (
                j54 )) (
              j54 )) (
            j54 ))))) N (-1) ((sP h0 12 a0 13 0) - 1)
set_option maxHeartbeats 1000000 in
theorem y_X12_indexOn {ad : Nat → Nat → Nat → Nat} {h : Hp} {V : Nat → Nat} {h0 : St} {N : Nat} (W : Wf ad h V h0) {a0 a0_ : Nat} {p1 : Int32} {p2 : Int32} {K : Int32 → Prop} {K9 : Int32 → Prop} (hw : z_X12_indexOn N a0_ p1 p2 h0 K9) (hk : ∀ (r0 : Int32), K9 r0 →  K r0) (e0 : a0 = ad 12 a0_ 0) (l0 : a0_ < V 12) : w_X12_indexOn N a0 p1 p2 h K := by
  subst e0
  unfold z_X12_indexOn at hw
  unfold w_X12_indexOn
  refine l_gI W rfl l0 rfl ?_
  refine l_fx2 (fun (r : Int32 → Int32 → Prop) (r9 : Int32 → Int32 → Prop) => ∀ (x0 : Int32), ∀ (x1 : Int32), r9 x0 x1 → r x0 x1) (fun _ _ h9_ => h9_.elim) ?_ N _ _ hw
  intro w4_ w5_ hv3_ x1_ x2_ hw
  refine l_br hw (fun _ hw => ?_) (fun _ hw => ?_)
  ·
    exact hk _ hw
  ·
    refine l_gA W rfl l0 (c := 2) rfl (Or.inr rfl) ?_
    refine l_aI W (f := 14) rfl l0 rfl hw (fun hw => ?_)
    refine l_jn (fun (r : Int32 → Prop) (r9 : Int32 → Prop) => ∀ (x0 : Int32), r9 x0 → r x0) hw ?_ (fun j7_ j8_ hj9_ hw => ?_)
    ·
      intro x6_ hw
      exact hv3_ _ _ hw
    ·
      refine l_jn (fun (r : Prop) (r9 : Prop) =>  r9  → r ) hw ?_ (fun j10_ j11_ hj12_ hw => ?_)
      ·
        intro hw
        exact hj9_ _ hw
      ·
        refine l_br hw (fun _ hw => ?_) (fun _ hw => ?_)
        ·
          refine l_gA W rfl l0 (c := 2) rfl (Or.inr rfl) ?_
          refine l_aI W (f := 15) rfl l0 rfl hw (fun hw => ?_)
          refine l_br hw (fun _ hw => ?_) (fun _ hw => ?_)
          ·
            refine l_gI W rfl l0 rfl ?_
            refine l_br hw (fun _ hw => ?_) (fun _ hw => ?_)
            ·
              exact hj9_ _ hw
            ·
              exact hj12_  hw
          ·
            exact hj12_  hw
        ·
          exact hj12_  hw
def z_X12_isAhead (N : Nat) (a0 : Nat) (p1 : Int32) (p2 : Int32) (h0 : St) (K : Int32 → Prop) : Prop :=
  fx2 (fun (w5 : Int32 → Int32 → Prop) (x1 : Int32) (x2 : Int32) =>
    br (p2 ≤ x2) (
      ok (narrow .boolean (.int x1) = .int x1) <|
      K x1) (
      jn (fun (v3 : Int32) =>
        w5 v3 (x2 + 1)) (fun j31 =>
        jn (
          j31 1) (fun j26 =>
          br (x1 = 0) (
            wI 3 x2 <|
            br ((sP h0 12 a0 39 (x2).toNatClampNeg) = p1) (
              j26 ) (
              j31 0)) (
            j26 ))))) N 0 0
set_option maxHeartbeats 1000000 in
theorem y_X12_isAhead {ad : Nat → Nat → Nat → Nat} {h : Hp} {V : Nat → Nat} {h0 : St} {N : Nat} (W : Wf ad h V h0) {a0 a0_ : Nat} {p1 : Int32} {p2 : Int32} {K : Int32 → Prop} {K9 : Int32 → Prop} (hw : z_X12_isAhead N a0_ p1 p2 h0 K9) (hk : ∀ (r0 : Int32), K9 r0 →  K r0) (e0 : a0 = ad 12 a0_ 0) (l0 : a0_ < V 12) : w_X12_isAhead N a0 p1 p2 h K := by
  subst e0
  unfold z_X12_isAhead at hw
  unfold w_X12_isAhead
  refine l_fx2 (fun (r : Int32 → Int32 → Prop) (r9 : Int32 → Int32 → Prop) => ∀ (x0 : Int32), ∀ (x1 : Int32), r9 x0 x1 → r x0 x1) (fun _ _ h9_ => h9_.elim) ?_ N _ _ hw
  intro w4_ w5_ hv3_ x1_ x2_ hw
  refine l_br hw (fun _ hw => ?_) (fun _ hw => ?_)
  ·
    refine l_ok hw (fun _ hw => ?_)
    exact hk _ hw
  ·
    refine l_jn (fun (r : Int32 → Prop) (r9 : Int32 → Prop) => ∀ (x0 : Int32), r9 x0 → r x0) hw ?_ (fun j7_ j8_ hj9_ hw => ?_)
    ·
      intro x6_ hw
      exact hv3_ _ _ hw
    ·
      refine l_jn (fun (r : Prop) (r9 : Prop) =>  r9  → r ) hw ?_ (fun j10_ j11_ hj12_ hw => ?_)
      ·
        intro hw
        exact hj9_ _ hw
      ·
        refine l_br hw (fun _ hw => ?_) (fun _ hw => ?_)
        ·
          refine l_gA W rfl l0 (c := 2) rfl (Or.inr rfl) ?_
          refine l_aI W (f := 39) rfl l0 rfl hw (fun hw => ?_)
          refine l_br hw (fun _ hw => ?_) (fun _ hw => ?_)
          ·
            exact hj12_  hw
          ·
            exact hj9_ _ hw
        ·
          exact hj12_  hw
def z_X12_ownColumn (N : Nat) (a0 : Nat) (p1 : Int32) (p2 : Int32) (h0 : St) (K : Int32 → Prop) : Prop :=
  wI 3 p2 <|
  wI 24 p1 <|
  jn (
    wI 24 p1 <|
    br ((sP h0 12 a0 35 (p1).toNatClampNeg) = (sP h0 12 a0 39 (p2).toNatClampNeg)) (
      wI 24 p1 <|
      z_X12_isAhead N a0 (sP h0 12 a0 33 (p1).toNatClampNeg) p2 h0 fun v9 =>
      br (v9 = 0) (
        K (-1)) (
        wI 24 p1 <|
        K (sP h0 12 a0 36 (p1).toNatClampNeg))) (
      K (-1))) (fun j38 =>
    br ((sP h0 12 a0 33 (p1).toNatClampNeg) = (sP h0 12 a0 39 (p2).toNatClampNeg)) (
      wI 24 p1 <|
      z_X12_isAhead N a0 (sP h0 12 a0 35 (p1).toNatClampNeg) p2 h0 fun v14 =>
      br (v14 = 0) (
        j38 ) (
        wI 24 p1 <|
        K (sP h0 12 a0 34 (p1).toNatClampNeg))) (
      j38 ))
set_option maxHeartbeats 1000000 in
theorem y_X12_ownColumn {ad : Nat → Nat → Nat → Nat} {h : Hp} {V : Nat → Nat} {h0 : St} {N : Nat} (W : Wf ad h V h0) {a0 a0_ : Nat} {p1 : Int32} {p2 : Int32} {K : Int32 → Prop} {K9 : Int32 → Prop} (hw : z_X12_ownColumn N a0_ p1 p2 h0 K9) (hk : ∀ (r0 : Int32), K9 r0 →  K r0) (e0 : a0 = ad 12 a0_ 0) (l0 : a0_ < V 12) : w_X12_ownColumn N a0 p1 p2 h K := by
  subst e0
  unfold z_X12_ownColumn at hw
  unfold w_X12_ownColumn
  refine l_gA W rfl l0 (c := 2) rfl (Or.inr rfl) ?_
  refine l_aI W (f := 39) rfl l0 rfl hw (fun hw => ?_)
  refine l_gA W rfl l0 (c := 2) rfl (Or.inr rfl) ?_
  refine l_aI W (f := 33) rfl l0 rfl hw (fun hw => ?_)
  refine l_jn (fun (r : Prop) (r9 : Prop) =>  r9  → r ) hw ?_ (fun j1_ j2_ hj3_ hw => ?_)
  ·
    intro hw
    refine l_gA W rfl l0 (c := 2) rfl (Or.inr rfl) ?_
    refine l_aI W (f := 35) rfl l0 rfl hw (fun hw => ?_)
    refine l_br hw (fun _ hw => ?_) (fun _ hw => ?_)
    ·
      refine l_gA W rfl l0 (c := 2) rfl (Or.inr rfl) ?_
      refine l_aI W (f := 33) rfl l0 rfl hw (fun hw => ?_)
      refine l_cv W rfl l0 rfl ?_
      refine y_X12_isAhead W hw (fun v4_ hw => ?_) rfl l0
      refine l_br hw (fun _ hw => ?_) (fun _ hw => ?_)
      ·
        exact hk _ hw
      ·
        refine l_gA W rfl l0 (c := 2) rfl (Or.inr rfl) ?_
        refine l_aI W (f := 36) rfl l0 rfl hw (fun hw => ?_)
        exact hk _ hw
    ·
      exact hk _ hw
  ·
    refine l_br hw (fun _ hw => ?_) (fun _ hw => ?_)
    ·
      refine l_gA W rfl l0 (c := 2) rfl (Or.inr rfl) ?_
      refine l_aI W (f := 35) rfl l0 rfl hw (fun hw => ?_)
      refine l_cv W rfl l0 rfl ?_
      refine y_X12_isAhead W hw (fun v5_ hw => ?_) rfl l0
      refine l_br hw (fun _ hw => ?_) (fun _ hw => ?_)
      ·
        exact hj3_  hw
      ·
        refine l_gA W rfl l0 (c := 2) rfl (Or.inr rfl) ?_
        refine l_aI W (f := 34) rfl l0 rfl hw (fun hw => ?_)
        exact hk _ hw
    ·
      exact hj3_  hw
def z_X12_indexOf (N : Nat) (a0 : Nat) (p1 : Int32) (p2 : Int32) (p3 : Int32) (h0 : St) (K : Int32 → Prop) : Prop :=
  wI 3 p2 <|
  wI 24 ((3 * p1) + (sP h0 12 a0 39 (p2).toNatClampNeg)) <|
  br (p3 = 0) (
    K (-1)) (
    jn (fun (x5 : Int32) =>
      jn (fun (v6 : Int32) =>
        br (v6 = (-1)) (
          K (-2)) (
          K v6)) (fun j130 =>
        br (x5 = (-1)) (
          j130 (-1)) (
          z_X12_indexOn N a0 (sP h0 12 a0 26 (((3 * p1) + (sP h0 12 a0 39 (p2).toNatClampNeg))).toNatClampNeg) x5 h0 fun v7 =>
          j130 v7))) (fun j112 =>
      br (5 ≤ p3) (
        wI 8 p1 <|
        jn (fun (v10 : Int32) =>
          j112 v10) (fun j110 =>
          br ((sP h0 12 a0 32 (p1).toNatClampNeg) ≤ (p3 - 5)) (
            j110 (-1)) (
            z_X12_ownColumn N a0 (((3 * p1) + p3) - 5) p2 h0 fun v11 =>
            j110 v11))) (
        wI 8 p1 <|
        jn (fun (v14 : Int32) =>
          j112 v14) (fun j77 =>
          jn (
            j77 (-1)) (fun j76 =>
            br ((sP h0 12 a0 27 (p1).toNatClampNeg) < p3) (
              j76 ) (
              wI 32 (((4 * p1) + p3) - 1) <|
              wI 3 p2 <|
              br ((sP h0 12 a0 28 ((((4 * p1) + p3) - 1)).toNatClampNeg) = (sP h0 12 a0 39 (p2).toNatClampNeg)) (
                wI 32 (((4 * p1) + p3) - 1) <|
                j77 (sP h0 12 a0 29 ((((4 * p1) + p3) - 1)).toNatClampNeg)) (
                j76 )))))))
set_option maxHeartbeats 1000000 in
theorem y_X12_indexOf {ad : Nat → Nat → Nat → Nat} {h : Hp} {V : Nat → Nat} {h0 : St} {N : Nat} (W : Wf ad h V h0) {a0 a0_ : Nat} {p1 : Int32} {p2 : Int32} {p3 : Int32} {K : Int32 → Prop} {K9 : Int32 → Prop} (hw : z_X12_indexOf N a0_ p1 p2 p3 h0 K9) (hk : ∀ (r0 : Int32), K9 r0 →  K r0) (e0 : a0 = ad 12 a0_ 0) (l0 : a0_ < V 12) : w_X12_indexOf N a0 p1 p2 p3 h K := by
  subst e0
  unfold z_X12_indexOf at hw
  unfold w_X12_indexOf
  refine l_gA W rfl l0 (c := 2) rfl (Or.inr rfl) ?_
  refine l_gA W rfl l0 (c := 2) rfl (Or.inr rfl) ?_
  refine l_aI W (f := 39) rfl l0 rfl hw (fun hw => ?_)
  refine l_aI W (f := 26) rfl l0 rfl hw (fun hw => ?_)
  refine l_br hw (fun _ hw => ?_) (fun _ hw => ?_)
  ·
    exact hk _ hw
  ·
    refine l_jn (fun (r : Int32 → Prop) (r9 : Int32 → Prop) => ∀ (x0 : Int32), r9 x0 → r x0) hw ?_ (fun j2_ j3_ hj4_ hw => ?_)
    ·
      intro x1_ hw
      refine l_jn (fun (r : Int32 → Prop) (r9 : Int32 → Prop) => ∀ (x0 : Int32), r9 x0 → r x0) hw ?_ (fun j6_ j7_ hj8_ hw => ?_)
      ·
        intro x5_ hw
        refine l_br hw (fun _ hw => ?_) (fun _ hw => ?_)
        ·
          exact hk _ hw
        ·
          exact hk _ hw
      ·
        refine l_br hw (fun _ hw => ?_) (fun _ hw => ?_)
        ·
          exact hj8_ _ hw
        ·
          refine l_cv W rfl l0 rfl ?_
          refine y_X12_indexOn W hw (fun v9_ hw => ?_) rfl l0
          exact hj8_ _ hw
    ·
      refine l_br hw (fun _ hw => ?_) (fun _ hw => ?_)
      ·
        refine l_gA W rfl l0 (c := 2) rfl (Or.inr rfl) ?_
        refine l_aI W (f := 32) rfl l0 rfl hw (fun hw => ?_)
        refine l_jn (fun (r : Int32 → Prop) (r9 : Int32 → Prop) => ∀ (x0 : Int32), r9 x0 → r x0) hw ?_ (fun j11_ j12_ hj13_ hw => ?_)
        ·
          intro x10_ hw
          exact hj4_ _ hw
        ·
          refine l_br hw (fun _ hw => ?_) (fun _ hw => ?_)
          ·
            exact hj13_ _ hw
          ·
            refine l_cv W rfl l0 rfl ?_
            refine y_X12_ownColumn W hw (fun v14_ hw => ?_) rfl l0
            exact hj13_ _ hw
      ·
        refine l_gA W rfl l0 (c := 2) rfl (Or.inr rfl) ?_
        refine l_aI W (f := 27) rfl l0 rfl hw (fun hw => ?_)
        refine l_jn (fun (r : Int32 → Prop) (r9 : Int32 → Prop) => ∀ (x0 : Int32), r9 x0 → r x0) hw ?_ (fun j16_ j17_ hj18_ hw => ?_)
        ·
          intro x15_ hw
          exact hj4_ _ hw
        ·
          refine l_jn (fun (r : Prop) (r9 : Prop) =>  r9  → r ) hw ?_ (fun j19_ j20_ hj21_ hw => ?_)
          ·
            intro hw
            exact hj18_ _ hw
          ·
            refine l_br hw (fun _ hw => ?_) (fun _ hw => ?_)
            ·
              exact hj21_  hw
            ·
              refine l_gA W rfl l0 (c := 2) rfl (Or.inr rfl) ?_
              refine l_aI W (f := 28) rfl l0 rfl hw (fun hw => ?_)
              refine l_gA W rfl l0 (c := 2) rfl (Or.inr rfl) ?_
              refine l_aI W (f := 39) rfl l0 rfl hw (fun hw => ?_)
              refine l_br hw (fun _ hw => ?_) (fun _ hw => ?_)
              ·
                refine l_gA W rfl l0 (c := 2) rfl (Or.inr rfl) ?_
                refine l_aI W (f := 29) rfl l0 rfl hw (fun hw => ?_)
                exact hj18_ _ hw
              ·
                exact hj21_  hw
def z_X12_rankOf (N : Nat) (a0 : Nat) (p1 : Int32) (p2 : Int32) (h0 : St) (K : Int32 → Prop) : Prop :=
  br (p2 = 0) (
    K 3) (
    br (p2 ≤ 4) (
      wI 32 (((4 * p1) + p2) - 1) <|
      br ((sP h0 12 a0 30 ((((4 * p1) + p2) - 1)).toNatClampNeg) = 61) (
        K 1) (
        K 2)) (
      K 0))
set_option maxHeartbeats 1000000 in
theorem y_X12_rankOf {ad : Nat → Nat → Nat → Nat} {h : Hp} {V : Nat → Nat} {h0 : St} {N : Nat} (W : Wf ad h V h0) {a0 a0_ : Nat} {p1 : Int32} {p2 : Int32} {K : Int32 → Prop} {K9 : Int32 → Prop} (hw : z_X12_rankOf N a0_ p1 p2 h0 K9) (hk : ∀ (r0 : Int32), K9 r0 →  K r0) (e0 : a0 = ad 12 a0_ 0) (l0 : a0_ < V 12) : w_X12_rankOf N a0 p1 p2 h K := by
  subst e0
  unfold z_X12_rankOf at hw
  unfold w_X12_rankOf
  refine l_br hw (fun _ hw => ?_) (fun _ hw => ?_)
  ·
    exact hk _ hw
  ·
    refine l_br hw (fun _ hw => ?_) (fun _ hw => ?_)
    ·
      refine l_gA W rfl l0 (c := 2) rfl (Or.inr rfl) ?_
      refine l_aI W (f := 30) rfl l0 rfl hw (fun hw => ?_)
      refine l_br hw (fun _ hw => ?_) (fun _ hw => ?_)
      ·
        exact hk _ hw
      ·
        exact hk _ hw
    ·
      exact hk _ hw
def z_X12_plansByBook (N : Nat) (a0 : Nat) (p1 : Int32) (h0 : St) (K : St → Prop) : Prop :=
  fx2 (fun (w2 : Int32 → St → Prop) (x2 : Int32) (h1 : St) =>
    wI 8 p1 <|
    br ((sP h1 12 a0 25 (p1).toNatClampNeg) ≤ x2) (
      K h1) (
      wA 3 x2 (stP h1 12 a0 39 (x2).toNatClampNeg x2) fun h6 =>
      fx3 (fun (w25 : Int32 → Int32 → St → Prop) (x8 : Int32) (x9 : Int32) (h7 : St) =>
        br (8 ≤ x9) (
          w2 (x2 + 1) h7) (
          z_X12_indexOf N a0 p1 x2 x9 h7 fun v10 =>
          jn (fun (x12 : Int32) (h11 : St) =>
            w25 x12 (x9 + 1) h11) (fun j84 =>
            br (v10 ≤ (-2)) (
              j84 x8 h7) (
              z_X12_rankOf N a0 p1 x9 h7 fun v13 =>
              br (x8 ≤ v13) (
                j84 x8 h7) (
                z_X12_rankOf N a0 p1 x9 h7 fun v14 =>
                wA 3 x2 (stP h7 12 a0 40 (x2).toNatClampNeg x9) fun h16 =>
                wA 3 x2 (stP h16 12 a0 41 (x2).toNatClampNeg v10) fun h18 =>
                j84 v14 h18))))) N 9 0 h6)) N 0 h0
set_option maxHeartbeats 1000000 in
theorem y_X12_plansByBook {ad : Nat → Nat → Nat → Nat} {h : Hp} {V : Nat → Nat} {h0 : St} {N : Nat} (W : Wf ad h V h0) {a0 a0_ : Nat} {p1 : Int32} {K : Hp → Prop} {K9 : St → Prop} (hw : z_X12_plansByBook N a0_ p1 h0 K9) (hk : ∀ (h9 : Hp) (s9 : St), Wf ad h9 V s9 → K9 s9 →  K h9) (e0 : a0 = ad 12 a0_ 0) (l0 : a0_ < V 12) : w_X12_plansByBook N a0 p1 h K := by
  subst e0
  unfold z_X12_plansByBook at hw
  unfold w_X12_plansByBook
  refine l_fx2 (fun (r : Int32 → Hp → Prop) (r9 : Int32 → St → Prop) => ∀ (x0 : Int32), ∀ (h9 : Hp) (s9 : St), Wf ad h9 V s9 → r9 x0 s9 → r x0 h9) (fun _ _ _ _ h9_ => h9_.elim) ?_ N _ _ _ W hw
  intro w6_ w7_ hv5_ x1_ h3_ s4_ W2_ hw
  refine l_gA W2_ rfl l0 (c := 2) rfl (Or.inr rfl) ?_
  refine l_aI W2_ (f := 25) rfl l0 rfl hw (fun hw => ?_)
  refine l_br hw (fun _ hw => ?_) (fun _ hw => ?_)
  ·
    exact hk _ _ W2_ hw
  ·
    refine l_gA W2_ rfl l0 (c := 2) rfl (Or.inr rfl) ?_
    refine l_sI W2_ (f := 39) rfl l0 rfl hw (fun h9_ W8_ hw => ?_)
    refine l_fx3 (fun (r : Int32 → Int32 → Hp → Prop) (r9 : Int32 → Int32 → St → Prop) => ∀ (x0 : Int32), ∀ (x1 : Int32), ∀ (h9 : Hp) (s9 : St), Wf ad h9 V s9 → r9 x0 x1 s9 → r x0 x1 h9) (fun _ _ _ _ _ h9_ => h9_.elim) ?_ N _ _ _ _ W8_ hw
    intro w16_ w17_ hv15_ x10_ x11_ h13_ s14_ W12_ hw
    refine l_br hw (fun _ hw => ?_) (fun _ hw => ?_)
    ·
      exact hv5_ _ _ _ W12_ hw
    ·
      refine l_cv W12_ rfl l0 rfl ?_
      refine y_X12_indexOf W12_ hw (fun v18_ hw => ?_) rfl l0
      refine l_jn (fun (r : Int32 → Hp → Prop) (r9 : Int32 → St → Prop) => ∀ (x0 : Int32), ∀ (h9 : Hp) (s9 : St), Wf ad h9 V s9 → r9 x0 s9 → r x0 h9) hw ?_ (fun j23_ j24_ hj25_ hw => ?_)
      ·
        intro x19_ h21_ s22_ W20_ hw
        exact hv15_ _ _ _ _ W20_ hw
      ·
        refine l_br hw (fun _ hw => ?_) (fun _ hw => ?_)
        ·
          exact hj25_ _ _ _ W12_ hw
        ·
          refine l_cv W12_ rfl l0 rfl ?_
          refine y_X12_rankOf W12_ hw (fun v26_ hw => ?_) rfl l0
          refine l_br hw (fun _ hw => ?_) (fun _ hw => ?_)
          ·
            exact hj25_ _ _ _ W12_ hw
          ·
            refine l_cv W12_ rfl l0 rfl ?_
            refine y_X12_rankOf W12_ hw (fun v27_ hw => ?_) rfl l0
            refine l_gA W12_ rfl l0 (c := 2) rfl (Or.inr rfl) ?_
            refine l_sI W12_ (f := 40) rfl l0 rfl hw (fun h29_ W28_ hw => ?_)
            refine l_gA W28_ rfl l0 (c := 2) rfl (Or.inr rfl) ?_
            refine l_sI W28_ (f := 41) rfl l0 rfl hw (fun h31_ W30_ hw => ?_)
            exact hj25_ _ _ _ W30_ hw
def z_X12_share (N : Nat) (a0 : Nat) (p1 : Int32) (p2 : Int32) (h0 : St) (K : Int64 → Prop) : Prop :=
  wI 32 p2 <|
  wI 24 ((3 * p1) + (sP h0 12 a0 28 (p2).toNatClampNeg)) <|
  wI 32 p2 <|
  wI 32 p2 <|
  br ((sP h0 12 a0 30 (p2).toNatClampNeg) = 61) (
    wI 9 ((3 * (sP h0 12 a0 26 (((3 * p1) + (sP h0 12 a0 28 (p2).toNatClampNeg))).toNatClampNeg)) + (sP h0 12 a0 29 (p2).toNatClampNeg)) <|
    z_X12_most N 1 (sP h0 12 a0 10 (((3 * (sP h0 12 a0 26 (((3 * p1) + (sP h0 12 a0 28 (p2).toNatClampNeg))).toNatClampNeg)) + (sP h0 12 a0 29 (p2).toNatClampNeg))).toNatClampNeg) h0 fun v27 =>
    dz (((v27 : Int32).toInt64) : Int64) <|
    K (1000 / ((v27 : Int32).toInt64))) (
    wI 9 ((3 * (sP h0 12 a0 26 (((3 * p1) + (sP h0 12 a0 28 (p2).toNatClampNeg))).toNatClampNeg)) + (sP h0 12 a0 29 (p2).toNatClampNeg)) <|
    fx2 (fun (w63 : Int32 → Int32 → Prop) (x11 : Int32) (x12 : Int32) =>
      wI 9 ((3 * (sP h0 12 a0 26 (((3 * p1) + (sP h0 12 a0 28 (p2).toNatClampNeg))).toNatClampNeg)) + (sP h0 12 a0 29 (p2).toNatClampNeg)) <|
      br ((sP h0 12 a0 12 (((3 * (sP h0 12 a0 26 (((3 * p1) + (sP h0 12 a0 28 (p2).toNatClampNeg))).toNatClampNeg)) + (sP h0 12 a0 29 (p2).toNatClampNeg))).toNatClampNeg) < x12) (
        wI 9 ((3 * (sP h0 12 a0 26 (((3 * p1) + (sP h0 12 a0 28 (p2).toNatClampNeg))).toNatClampNeg)) + (sP h0 12 a0 29 (p2).toNatClampNeg)) <|
        wI 9 ((3 * (sP h0 12 a0 26 (((3 * p1) + (sP h0 12 a0 28 (p2).toNatClampNeg))).toNatClampNeg)) + (sP h0 12 a0 29 (p2).toNatClampNeg)) <|
        dz ((((((sP h0 12 a0 12 (((3 * (sP h0 12 a0 26 (((3 * p1) + (sP h0 12 a0 28 (p2).toNatClampNeg))).toNatClampNeg)) + (sP h0 12 a0 29 (p2).toNatClampNeg))).toNatClampNeg) - (sP h0 12 a0 11 (((3 * (sP h0 12 a0 26 (((3 * p1) + (sP h0 12 a0 28 (p2).toNatClampNeg))).toNatClampNeg)) + (sP h0 12 a0 29 (p2).toNatClampNeg))).toNatClampNeg)) + 1) : Int32).toInt64) : Int64) <|
        K ((1000 * ((x11 : Int32).toInt64)) / (((((sP h0 12 a0 12 (((3 * (sP h0 12 a0 26 (((3 * p1) + (sP h0 12 a0 28 (p2).toNatClampNeg))).toNatClampNeg)) + (sP h0 12 a0 29 (p2).toNatClampNeg))).toNatClampNeg) - (sP h0 12 a0 11 (((3 * (sP h0 12 a0 26 (((3 * p1) + (sP h0 12 a0 28 (p2).toNatClampNeg))).toNatClampNeg)) + (sP h0 12 a0 29 (p2).toNatClampNeg))).toNatClampNeg)) + 1) : Int32).toInt64))) (
        wI 32 p2 <|
        wI 32 p2 <|
        z_X12_holds N (sP h0 12 a0 30 (p2).toNatClampNeg) (sP h0 12 a0 31 (p2).toNatClampNeg) x12 h0 fun v23 =>
        jn (fun (v24 : Int32) =>
          w63 (x11 + v24) (x12 + 1)) (fun j101 =>
          br (v23 = 0) (
            j101 0) (
            j101 1)))) N 0 (sP h0 12 a0 11 (((3 * (sP h0 12 a0 26 (((3 * p1) + (sP h0 12 a0 28 (p2).toNatClampNeg))).toNatClampNeg)) + (sP h0 12 a0 29 (p2).toNatClampNeg))).toNatClampNeg))
set_option maxHeartbeats 1000000 in
theorem y_X12_share {ad : Nat → Nat → Nat → Nat} {h : Hp} {V : Nat → Nat} {h0 : St} {N : Nat} (W : Wf ad h V h0) {a0 a0_ : Nat} {p1 : Int32} {p2 : Int32} {K : Int64 → Prop} {K9 : Int64 → Prop} (hw : z_X12_share N a0_ p1 p2 h0 K9) (hk : ∀ (r0 : Int64), K9 r0 →  K r0) (e0 : a0 = ad 12 a0_ 0) (l0 : a0_ < V 12) : w_X12_share N a0 p1 p2 h K := by
  subst e0
  unfold z_X12_share at hw
  unfold w_X12_share
  refine l_gA W rfl l0 (c := 2) rfl (Or.inr rfl) ?_
  refine l_gA W rfl l0 (c := 2) rfl (Or.inr rfl) ?_
  refine l_aI W (f := 28) rfl l0 rfl hw (fun hw => ?_)
  refine l_aI W (f := 26) rfl l0 rfl hw (fun hw => ?_)
  refine l_gA W rfl l0 (c := 2) rfl (Or.inr rfl) ?_
  refine l_aI W (f := 29) rfl l0 rfl hw (fun hw => ?_)
  refine l_gA W rfl l0 (c := 2) rfl (Or.inr rfl) ?_
  refine l_aI W (f := 30) rfl l0 rfl hw (fun hw => ?_)
  refine l_br hw (fun _ hw => ?_) (fun _ hw => ?_)
  ·
    refine l_gA W rfl l0 (c := 2) rfl (Or.inr rfl) ?_
    refine l_aI W (f := 10) rfl l0 rfl hw (fun hw => ?_)
    refine y_X12_most W hw (fun v1_ hw => ?_) 
    refine l_dz hw (fun hw => ?_)
    exact hk _ hw
  ·
    refine l_gA W rfl l0 (c := 2) rfl (Or.inr rfl) ?_
    refine l_aI W (f := 11) rfl l0 rfl hw (fun hw => ?_)
    refine l_fx2 (fun (r : Int32 → Int32 → Prop) (r9 : Int32 → Int32 → Prop) => ∀ (x0 : Int32), ∀ (x1 : Int32), r9 x0 x1 → r x0 x1) (fun _ _ h9_ => h9_.elim) ?_ N _ _ hw
    intro w5_ w6_ hv4_ x2_ x3_ hw
    refine l_gA W rfl l0 (c := 2) rfl (Or.inr rfl) ?_
    refine l_aI W (f := 12) rfl l0 rfl hw (fun hw => ?_)
    refine l_br hw (fun _ hw => ?_) (fun _ hw => ?_)
    ·
      refine l_gA W rfl l0 (c := 2) rfl (Or.inr rfl) ?_
      refine l_aI W (f := 12) rfl l0 rfl hw (fun hw => ?_)
      refine l_gA W rfl l0 (c := 2) rfl (Or.inr rfl) ?_
      refine l_aI W (f := 11) rfl l0 rfl hw (fun hw => ?_)
      refine l_dz hw (fun hw => ?_)
      exact hk _ hw
    ·
      refine l_gA W rfl l0 (c := 2) rfl (Or.inr rfl) ?_
      refine l_aI W (f := 30) rfl l0 rfl hw (fun hw => ?_)
      refine l_gA W rfl l0 (c := 2) rfl (Or.inr rfl) ?_
      refine l_aI W (f := 31) rfl l0 rfl hw (fun hw => ?_)
      refine y_X12_holds W hw (fun v7_ hw => ?_) 
      refine l_jn (fun (r : Int32 → Prop) (r9 : Int32 → Prop) => ∀ (x0 : Int32), r9 x0 → r x0) hw ?_ (fun j9_ j10_ hj11_ hw => ?_)
      ·
        intro x8_ hw
        exact hv4_ _ _ hw
      ·
        refine l_br hw (fun _ hw => ?_) (fun _ hw => ?_)
        ·
          exact hj11_ _ hw
        ·
          exact hj11_ _ hw
def z_X12_joinShare (N : Nat) (a0 : Nat) (p1 : Int32) (p2 : Int32) (h0 : St) (K : Int64 → Prop) : Prop :=
  wI 24 p2 <|
  wI 24 ((3 * p1) + (sP h0 12 a0 33 (p2).toNatClampNeg)) <|
  wI 24 p2 <|
  wI 9 ((3 * (sP h0 12 a0 26 (((3 * p1) + (sP h0 12 a0 33 (p2).toNatClampNeg))).toNatClampNeg)) + (sP h0 12 a0 34 (p2).toNatClampNeg)) <|
  wI 24 p2 <|
  wI 24 ((3 * p1) + (sP h0 12 a0 35 (p2).toNatClampNeg)) <|
  wI 24 p2 <|
  wI 9 ((3 * (sP h0 12 a0 26 (((3 * p1) + (sP h0 12 a0 35 (p2).toNatClampNeg))).toNatClampNeg)) + (sP h0 12 a0 36 (p2).toNatClampNeg)) <|
  z_X12_most N (sP h0 12 a0 10 (((3 * (sP h0 12 a0 26 (((3 * p1) + (sP h0 12 a0 33 (p2).toNatClampNeg))).toNatClampNeg)) + (sP h0 12 a0 34 (p2).toNatClampNeg))).toNatClampNeg) (sP h0 12 a0 10 (((3 * (sP h0 12 a0 26 (((3 * p1) + (sP h0 12 a0 35 (p2).toNatClampNeg))).toNatClampNeg)) + (sP h0 12 a0 36 (p2).toNatClampNeg))).toNatClampNeg) h0 fun v17 =>
  z_X12_most N 1 v17 h0 fun v18 =>
  dz (((v18 : Int32).toInt64) : Int64) <|
  K (1000 / ((v18 : Int32).toInt64))
set_option maxHeartbeats 1000000 in
theorem y_X12_joinShare {ad : Nat → Nat → Nat → Nat} {h : Hp} {V : Nat → Nat} {h0 : St} {N : Nat} (W : Wf ad h V h0) {a0 a0_ : Nat} {p1 : Int32} {p2 : Int32} {K : Int64 → Prop} {K9 : Int64 → Prop} (hw : z_X12_joinShare N a0_ p1 p2 h0 K9) (hk : ∀ (r0 : Int64), K9 r0 →  K r0) (e0 : a0 = ad 12 a0_ 0) (l0 : a0_ < V 12) : w_X12_joinShare N a0 p1 p2 h K := by
  subst e0
  unfold z_X12_joinShare at hw
  unfold w_X12_joinShare
  refine l_gA W rfl l0 (c := 2) rfl (Or.inr rfl) ?_
  refine l_gA W rfl l0 (c := 2) rfl (Or.inr rfl) ?_
  refine l_gA W rfl l0 (c := 2) rfl (Or.inr rfl) ?_
  refine l_aI W (f := 33) rfl l0 rfl hw (fun hw => ?_)
  refine l_aI W (f := 26) rfl l0 rfl hw (fun hw => ?_)
  refine l_gA W rfl l0 (c := 2) rfl (Or.inr rfl) ?_
  refine l_aI W (f := 34) rfl l0 rfl hw (fun hw => ?_)
  refine l_aI W (f := 10) rfl l0 rfl hw (fun hw => ?_)
  refine l_gA W rfl l0 (c := 2) rfl (Or.inr rfl) ?_
  refine l_gA W rfl l0 (c := 2) rfl (Or.inr rfl) ?_
  refine l_gA W rfl l0 (c := 2) rfl (Or.inr rfl) ?_
  refine l_aI W (f := 35) rfl l0 rfl hw (fun hw => ?_)
  refine l_aI W (f := 26) rfl l0 rfl hw (fun hw => ?_)
  refine l_gA W rfl l0 (c := 2) rfl (Or.inr rfl) ?_
  refine l_aI W (f := 36) rfl l0 rfl hw (fun hw => ?_)
  refine l_aI W (f := 10) rfl l0 rfl hw (fun hw => ?_)
  refine y_X12_most W hw (fun v1_ hw => ?_) 
  refine y_X12_most W hw (fun v2_ hw => ?_) 
  refine l_dz hw (fun hw => ?_)
  exact hk _ hw
def z_X12_costAt (N : Nat) (a0 : Nat) (p1 : Int32) (p2 : Int32) (h0 : St) (K : Int64 → Prop) : Prop :=
  wI 3 p2 <|
  wI 24 ((3 * p1) + (sP h0 12 a0 39 (p2).toNatClampNeg)) <|
  wI 3 p2 <|
  br ((sP h0 12 a0 40 (p2).toNatClampNeg) = 0) (
    wI 3 (sP h0 12 a0 26 (((3 * p1) + (sP h0 12 a0 39 (p2).toNatClampNeg))).toNatClampNeg) <|
    K (((sP h0 12 a0 9 ((sP h0 12 a0 26 (((3 * p1) + (sP h0 12 a0 39 (p2).toNatClampNeg))).toNatClampNeg)).toNatClampNeg) : Int32).toInt64)) (
    br (5 ≤ (sP h0 12 a0 40 (p2).toNatClampNeg)) (
      wI 3 (sP h0 12 a0 26 (((3 * p1) + (sP h0 12 a0 39 (p2).toNatClampNeg))).toNatClampNeg) <|
      z_X12_ownColumn N a0 (((3 * p1) + (sP h0 12 a0 40 (p2).toNatClampNeg)) - 5) p2 h0 fun v10 =>
      wI 9 ((3 * (sP h0 12 a0 26 (((3 * p1) + (sP h0 12 a0 39 (p2).toNatClampNeg))).toNatClampNeg)) + v10) <|
      z_X12_most N 1 (sP h0 12 a0 10 (((3 * (sP h0 12 a0 26 (((3 * p1) + (sP h0 12 a0 39 (p2).toNatClampNeg))).toNatClampNeg)) + v10)).toNatClampNeg) h0 fun v12 =>
      dz (v12 : Int32) <|
      K (1 + ((((sP h0 12 a0 8 ((sP h0 12 a0 26 (((3 * p1) + (sP h0 12 a0 39 (p2).toNatClampNeg))).toNatClampNeg)).toNatClampNeg) / v12) : Int32).toInt64))) (
      wI 3 (sP h0 12 a0 26 (((3 * p1) + (sP h0 12 a0 39 (p2).toNatClampNeg))).toNatClampNeg) <|
      z_X12_share N a0 p1 (((4 * p1) + (sP h0 12 a0 40 (p2).toNatClampNeg)) - 1) h0 fun v15 =>
      K (1 + (((((sP h0 12 a0 8 ((sP h0 12 a0 26 (((3 * p1) + (sP h0 12 a0 39 (p2).toNatClampNeg))).toNatClampNeg)).toNatClampNeg) : Int32).toInt64) * v15) / 1000))))
set_option maxHeartbeats 1000000 in
theorem y_X12_costAt {ad : Nat → Nat → Nat → Nat} {h : Hp} {V : Nat → Nat} {h0 : St} {N : Nat} (W : Wf ad h V h0) {a0 a0_ : Nat} {p1 : Int32} {p2 : Int32} {K : Int64 → Prop} {K9 : Int64 → Prop} (hw : z_X12_costAt N a0_ p1 p2 h0 K9) (hk : ∀ (r0 : Int64), K9 r0 →  K r0) (e0 : a0 = ad 12 a0_ 0) (l0 : a0_ < V 12) : w_X12_costAt N a0 p1 p2 h K := by
  subst e0
  unfold z_X12_costAt at hw
  unfold w_X12_costAt
  refine l_gA W rfl l0 (c := 2) rfl (Or.inr rfl) ?_
  refine l_gA W rfl l0 (c := 2) rfl (Or.inr rfl) ?_
  refine l_aI W (f := 39) rfl l0 rfl hw (fun hw => ?_)
  refine l_aI W (f := 26) rfl l0 rfl hw (fun hw => ?_)
  refine l_gA W rfl l0 (c := 2) rfl (Or.inr rfl) ?_
  refine l_aI W (f := 40) rfl l0 rfl hw (fun hw => ?_)
  refine l_br hw (fun _ hw => ?_) (fun _ hw => ?_)
  ·
    refine l_gA W rfl l0 (c := 2) rfl (Or.inr rfl) ?_
    refine l_aI W (f := 9) rfl l0 rfl hw (fun hw => ?_)
    exact hk _ hw
  ·
    refine l_br hw (fun _ hw => ?_) (fun _ hw => ?_)
    ·
      refine l_gA W rfl l0 (c := 2) rfl (Or.inr rfl) ?_
      refine l_aI W (f := 8) rfl l0 rfl hw (fun hw => ?_)
      refine l_gA W rfl l0 (c := 2) rfl (Or.inr rfl) ?_
      refine l_cv W rfl l0 rfl ?_
      refine y_X12_ownColumn W hw (fun v1_ hw => ?_) rfl l0
      refine l_aI W (f := 10) rfl l0 rfl hw (fun hw => ?_)
      refine y_X12_most W hw (fun v2_ hw => ?_) 
      refine l_dz hw (fun hw => ?_)
      exact hk _ hw
    ·
      refine l_gA W rfl l0 (c := 2) rfl (Or.inr rfl) ?_
      refine l_aI W (f := 8) rfl l0 rfl hw (fun hw => ?_)
      refine l_cv W rfl l0 rfl ?_
      refine y_X12_share W hw (fun v3_ hw => ?_) rfl l0
      exact hk _ hw
def z_X12_estimateOfPlan (N : Nat) (a0 : Nat) (p1 : Int32) (h0 : St) (K : Int64 → Prop) : Prop :=
  fx3 (fun (w8 : Int64 → Int64 → Int32 → Prop) (y1 : Int64) (y2 : Int64) (x3 : Int32) =>
    wI 8 p1 <|
    br ((sP h0 12 a0 25 (p1).toNatClampNeg) ≤ x3) (
      K y1) (
      z_X12_costAt N a0 p1 x3 h0 fun v6 =>
      wI 3 x3 <|
      wI 24 ((3 * p1) + (sP h0 12 a0 39 (x3).toNatClampNeg)) <|
      wI 3 (sP h0 12 a0 26 (((3 * p1) + (sP h0 12 a0 39 (x3).toNatClampNeg))).toNatClampNeg) <|
      fx2 (fun (w64 : Int64 → Int32 → Prop) (y13 : Int64) (x14 : Int32) =>
        wI 8 p1 <|
        br (((4 * p1) + (sP h0 12 a0 27 (p1).toNatClampNeg)) ≤ x14) (
          fx2 (fun (w128 : Int64 → Int32 → Prop) (y17 : Int64) (x18 : Int32) =>
            wI 8 p1 <|
            br (((3 * p1) + (sP h0 12 a0 32 (p1).toNatClampNeg)) ≤ x18) (
              jn (fun (v21 : Int64) =>
                w8 (y1 + (y2 * v6)) v21 (x3 + 1)) (fun j194 =>
                br (0 ≤ (lg_cmp y17 1)) (
                  j194 y17) (
                  j194 1))) (
              z_X12_ownColumn N a0 x18 x3 h0 fun v22 =>
              jn (fun (v23 : Int64) =>
                w128 v23 (x18 + 1)) (fun j173 =>
                br (v22 < 0) (
                  j173 y17) (
                  z_X12_joinShare N a0 p1 x18 h0 fun v24 =>
                  j173 ((y17 * v24) / 1000))))) N y13 (3 * p1)) (
          wI 32 x14 <|
          wI 3 x3 <|
          jn (fun (v29 : Int64) =>
            w64 v29 (x14 + 1)) (fun j115 =>
            br ((sP h0 12 a0 28 (x14).toNatClampNeg) = (sP h0 12 a0 39 (x3).toNatClampNeg)) (
              z_X12_share N a0 p1 x14 h0 fun v30 =>
              j115 ((y13 * v30) / 1000)) (
              j115 y13)))) N (y2 * (((sP h0 12 a0 8 ((sP h0 12 a0 26 (((3 * p1) + (sP h0 12 a0 39 (x3).toNatClampNeg))).toNatClampNeg)).toNatClampNeg) : Int32).toInt64)) (4 * p1))) N 0 1 0
set_option maxHeartbeats 1000000 in
theorem y_X12_estimateOfPlan {ad : Nat → Nat → Nat → Nat} {h : Hp} {V : Nat → Nat} {h0 : St} {N : Nat} (W : Wf ad h V h0) {a0 a0_ : Nat} {p1 : Int32} {K : Int64 → Prop} {K9 : Int64 → Prop} (hw : z_X12_estimateOfPlan N a0_ p1 h0 K9) (hk : ∀ (r0 : Int64), K9 r0 →  K r0) (e0 : a0 = ad 12 a0_ 0) (l0 : a0_ < V 12) : w_X12_estimateOfPlan N a0 p1 h K := by
  subst e0
  unfold z_X12_estimateOfPlan at hw
  unfold w_X12_estimateOfPlan
  refine l_fx3 (fun (r : Int64 → Int64 → Int32 → Prop) (r9 : Int64 → Int64 → Int32 → Prop) => ∀ (x0 : Int64), ∀ (x1 : Int64), ∀ (x2 : Int32), r9 x0 x1 x2 → r x0 x1 x2) (fun _ _ _ h9_ => h9_.elim) ?_ N _ _ _ hw
  intro w5_ w6_ hv4_ x1_ x2_ x3_ hw
  refine l_gA W rfl l0 (c := 2) rfl (Or.inr rfl) ?_
  refine l_aI W (f := 25) rfl l0 rfl hw (fun hw => ?_)
  refine l_br hw (fun _ hw => ?_) (fun _ hw => ?_)
  ·
    exact hk _ hw
  ·
    refine l_cv W rfl l0 rfl ?_
    refine y_X12_costAt W hw (fun v7_ hw => ?_) rfl l0
    refine l_gA W rfl l0 (c := 2) rfl (Or.inr rfl) ?_
    refine l_gA W rfl l0 (c := 2) rfl (Or.inr rfl) ?_
    refine l_gA W rfl l0 (c := 2) rfl (Or.inr rfl) ?_
    refine l_aI W (f := 39) rfl l0 rfl hw (fun hw => ?_)
    refine l_aI W (f := 26) rfl l0 rfl hw (fun hw => ?_)
    refine l_aI W (f := 8) rfl l0 rfl hw (fun hw => ?_)
    refine l_fx2 (fun (r : Int64 → Int32 → Prop) (r9 : Int64 → Int32 → Prop) => ∀ (x0 : Int64), ∀ (x1 : Int32), r9 x0 x1 → r x0 x1) (fun _ _ h9_ => h9_.elim) ?_ N _ _ hw
    intro w11_ w12_ hv10_ x8_ x9_ hw
    refine l_gA W rfl l0 (c := 2) rfl (Or.inr rfl) ?_
    refine l_aI W (f := 27) rfl l0 rfl hw (fun hw => ?_)
    refine l_br hw (fun _ hw => ?_) (fun _ hw => ?_)
    ·
      refine l_fx2 (fun (r : Int64 → Int32 → Prop) (r9 : Int64 → Int32 → Prop) => ∀ (x0 : Int64), ∀ (x1 : Int32), r9 x0 x1 → r x0 x1) (fun _ _ h9_ => h9_.elim) ?_ N _ _ hw
      intro w16_ w17_ hv15_ x13_ x14_ hw
      refine l_gA W rfl l0 (c := 2) rfl (Or.inr rfl) ?_
      refine l_aI W (f := 32) rfl l0 rfl hw (fun hw => ?_)
      refine l_br hw (fun _ hw => ?_) (fun _ hw => ?_)
      ·
        refine l_jn (fun (r : Int64 → Prop) (r9 : Int64 → Prop) => ∀ (x0 : Int64), r9 x0 → r x0) hw ?_ (fun j19_ j20_ hj21_ hw => ?_)
        ·
          intro x18_ hw
          exact hv4_ _ _ _ hw
        ·
          refine l_br hw (fun _ hw => ?_) (fun _ hw => ?_)
          ·
            exact hj21_ _ hw
          ·
            exact hj21_ _ hw
      ·
        refine l_cv W rfl l0 rfl ?_
        refine y_X12_ownColumn W hw (fun v22_ hw => ?_) rfl l0
        refine l_jn (fun (r : Int64 → Prop) (r9 : Int64 → Prop) => ∀ (x0 : Int64), r9 x0 → r x0) hw ?_ (fun j24_ j25_ hj26_ hw => ?_)
        ·
          intro x23_ hw
          exact hv15_ _ _ hw
        ·
          refine l_br hw (fun _ hw => ?_) (fun _ hw => ?_)
          ·
            exact hj26_ _ hw
          ·
            refine l_cv W rfl l0 rfl ?_
            refine y_X12_joinShare W hw (fun v27_ hw => ?_) rfl l0
            exact hj26_ _ hw
    ·
      refine l_gA W rfl l0 (c := 2) rfl (Or.inr rfl) ?_
      refine l_aI W (f := 28) rfl l0 rfl hw (fun hw => ?_)
      refine l_gA W rfl l0 (c := 2) rfl (Or.inr rfl) ?_
      refine l_aI W (f := 39) rfl l0 rfl hw (fun hw => ?_)
      refine l_jn (fun (r : Int64 → Prop) (r9 : Int64 → Prop) => ∀ (x0 : Int64), r9 x0 → r x0) hw ?_ (fun j29_ j30_ hj31_ hw => ?_)
      ·
        intro x28_ hw
        exact hv10_ _ _ hw
      ·
        refine l_br hw (fun _ hw => ?_) (fun _ hw => ?_)
        ·
          refine l_cv W rfl l0 rfl ?_
          refine y_X12_share W hw (fun v32_ hw => ?_) rfl l0
          exact hj31_ _ hw
        ·
          exact hj31_ _ hw
def z_X12_digit (N : Nat) (p0 : Int32) (p1 : Int32) (p2 : Int32) (h0 : St) (K : Int32 → Prop) : Prop :=
  fx2 (fun (w5 : Int32 → Int32 → Prop) (x1 : Int32) (x2 : Int32) =>
    br (2 ≤ x2) (
      dz (p2 : Int32) <|
      K (x1 - x1 / p2 * p2)) (
      dz (p2 : Int32) <|
      w5 (x1 / p2) (x2 + 1))) N p0 p1
set_option maxHeartbeats 1000000 in
theorem y_X12_digit {ad : Nat → Nat → Nat → Nat} {h : Hp} {V : Nat → Nat} {h0 : St} {N : Nat} (W : Wf ad h V h0) {p0 : Int32} {p1 : Int32} {p2 : Int32} {K : Int32 → Prop} {K9 : Int32 → Prop} (hw : z_X12_digit N p0 p1 p2 h0 K9) (hk : ∀ (r0 : Int32), K9 r0 →  K r0)  : w_X12_digit N p0 p1 p2 h K := by
  unfold z_X12_digit at hw
  unfold w_X12_digit
  refine l_fx2 (fun (r : Int32 → Int32 → Prop) (r9 : Int32 → Int32 → Prop) => ∀ (x0 : Int32), ∀ (x1 : Int32), r9 x0 x1 → r x0 x1) (fun _ _ h9_ => h9_.elim) ?_ N _ _ hw
  intro w4_ w5_ hv3_ x1_ x2_ hw
  refine l_br hw (fun _ hw => ?_) (fun _ hw => ?_)
  ·
    refine l_dz hw (fun hw => ?_)
    exact hk _ hw
  ·
    refine l_dz hw (fun hw => ?_)
    exact hv3_ _ _ hw
def z_X12_laysOrder (N : Nat) (a0 : Nat) (p1 : Int32) (p2 : Int32) (h0 : St) (K : Int32 → St → Prop) : Prop :=
  fx4 (fun (w8 : Int32 → Int32 → Int32 → St → Prop) (x2 : Int32) (x3 : Int32) (x4 : Int32) (h1 : St) =>
    br (3 ≤ x4) (
      br (x3 = 0) (
        K 0 h1) (
        wI 8 p1 <|
        br (x2 = ((1 <<< ((sP h1 12 a0 25 (p1).toNatClampNeg) &&& 31)) - 1)) (
          K 1 h1) (
          K 0 h1))) (
      z_X12_digit N p2 x4 3 h1 fun v7 =>
      wI 8 p1 <|
      jn (fun (x11 : Int32) (x12 : Int32) (h10 : St) =>
        w8 x11 x12 (x4 + 1) h10) (fun j70 =>
        br ((sP h1 12 a0 25 (p1).toNatClampNeg) ≤ x4) (
          jn (fun (v13 : Int32) =>
            j70 x2 v13 h1) (fun j68 =>
            jn (
              j68 0) (fun j67 =>
              br (x3 = 0) (
                j67 ) (
                br (v7 = 0) (
                  j68 1) (
                  j67 ))))) (
          wA 3 x4 (stP h1 12 a0 39 (x4).toNatClampNeg v7) fun h15 =>
          j70 (x2 ||| (1 <<< (v7 &&& 31))) x3 h15)))) N 0 1 0 h0
set_option maxHeartbeats 1000000 in
theorem y_X12_laysOrder {ad : Nat → Nat → Nat → Nat} {h : Hp} {V : Nat → Nat} {h0 : St} {N : Nat} (W : Wf ad h V h0) {a0 a0_ : Nat} {p1 : Int32} {p2 : Int32} {K : Int32 → Hp → Prop} {K9 : Int32 → St → Prop} (hw : z_X12_laysOrder N a0_ p1 p2 h0 K9) (hk : ∀ (r0 : Int32), ∀ (h9 : Hp) (s9 : St), Wf ad h9 V s9 → K9 r0 s9 →  K r0 h9) (e0 : a0 = ad 12 a0_ 0) (l0 : a0_ < V 12) : w_X12_laysOrder N a0 p1 p2 h K := by
  subst e0
  unfold z_X12_laysOrder at hw
  unfold w_X12_laysOrder
  refine l_fx4 (fun (r : Int32 → Int32 → Int32 → Hp → Prop) (r9 : Int32 → Int32 → Int32 → St → Prop) => ∀ (x0 : Int32), ∀ (x1 : Int32), ∀ (x2 : Int32), ∀ (h9 : Hp) (s9 : St), Wf ad h9 V s9 → r9 x0 x1 x2 s9 → r x0 x1 x2 h9) (fun _ _ _ _ _ _ h9_ => h9_.elim) ?_ N _ _ _ _ _ W hw
  intro w8_ w9_ hv7_ x1_ x2_ x3_ h5_ s6_ W4_ hw
  refine l_br hw (fun _ hw => ?_) (fun _ hw => ?_)
  ·
    refine l_br hw (fun _ hw => ?_) (fun _ hw => ?_)
    ·
      exact hk _ _ _ W4_ hw
    ·
      refine l_gA W4_ rfl l0 (c := 2) rfl (Or.inr rfl) ?_
      refine l_aI W4_ (f := 25) rfl l0 rfl hw (fun hw => ?_)
      refine l_br hw (fun _ hw => ?_) (fun _ hw => ?_)
      ·
        exact hk _ _ _ W4_ hw
      ·
        exact hk _ _ _ W4_ hw
  ·
    refine y_X12_digit W4_ hw (fun v10_ hw => ?_) 
    refine l_gA W4_ rfl l0 (c := 2) rfl (Or.inr rfl) ?_
    refine l_aI W4_ (f := 25) rfl l0 rfl hw (fun hw => ?_)
    refine l_jn (fun (r : Int32 → Int32 → Hp → Prop) (r9 : Int32 → Int32 → St → Prop) => ∀ (x0 : Int32), ∀ (x1 : Int32), ∀ (h9 : Hp) (s9 : St), Wf ad h9 V s9 → r9 x0 x1 s9 → r x0 x1 h9) hw ?_ (fun j16_ j17_ hj18_ hw => ?_)
    ·
      intro x11_ x12_ h14_ s15_ W13_ hw
      exact hv7_ _ _ _ _ _ W13_ hw
    ·
      refine l_br hw (fun _ hw => ?_) (fun _ hw => ?_)
      ·
        refine l_jn (fun (r : Int32 → Prop) (r9 : Int32 → Prop) => ∀ (x0 : Int32), r9 x0 → r x0) hw ?_ (fun j20_ j21_ hj22_ hw => ?_)
        ·
          intro x19_ hw
          exact hj18_ _ _ _ _ W4_ hw
        ·
          refine l_jn (fun (r : Prop) (r9 : Prop) =>  r9  → r ) hw ?_ (fun j23_ j24_ hj25_ hw => ?_)
          ·
            intro hw
            exact hj22_ _ hw
          ·
            refine l_br hw (fun _ hw => ?_) (fun _ hw => ?_)
            ·
              exact hj25_  hw
            ·
              refine l_br hw (fun _ hw => ?_) (fun _ hw => ?_)
              ·
                exact hj22_ _ hw
              ·
                exact hj25_  hw
      ·
        refine l_gA W4_ rfl l0 (c := 2) rfl (Or.inr rfl) ?_
        refine l_sI W4_ (f := 39) rfl l0 rfl hw (fun h27_ W26_ hw => ?_)
        exact hj18_ _ _ _ _ W26_ hw
def z_X12_laysWays (N : Nat) (a0 : Nat) (p1 : Int32) (p2 : Int32) (h0 : St) (K : Int32 → St → Prop) : Prop :=
  fx3 (fun (w5 : Int32 → Int32 → St → Prop) (x2 : Int32) (x3 : Int32) (h1 : St) =>
    br (3 ≤ x3) (
      ok (narrow .boolean (.int x2) = .int x2) <|
      K x2 h1) (
      z_X12_digit N p2 x3 8 h1 fun v4 =>
      wI 8 p1 <|
      jn (fun (x8 : Int32) (h7 : St) =>
        w5 x8 (x3 + 1) h7) (fun j96 =>
        br (x3 < (sP h1 12 a0 25 (p1).toNatClampNeg)) (
          br (x2 = 0) (
            j96 x2 h1) (
            z_X12_indexOf N a0 p1 x3 v4 h1 fun v9 =>
            wA 3 x3 (stP h1 12 a0 40 (x3).toNatClampNeg v4) fun h11 =>
            wA 3 x3 (stP h11 12 a0 41 (x3).toNatClampNeg v9) fun h13 =>
            jn (fun (v14 : Int32) =>
              j96 v14 h13) (fun j95 =>
              br (v9 ≤ (-2)) (
                j95 0) (
                j95 1)))) (
          jn (fun (v15 : Int32) =>
            j96 v15 h1) (fun j46 =>
            jn (
              j46 0) (fun j45 =>
              br (x2 = 0) (
                j45 ) (
                br (v4 = 0) (
                  j46 1) (
                  j45 )))))))) N 1 0 h0
set_option maxHeartbeats 1000000 in
theorem y_X12_laysWays {ad : Nat → Nat → Nat → Nat} {h : Hp} {V : Nat → Nat} {h0 : St} {N : Nat} (W : Wf ad h V h0) {a0 a0_ : Nat} {p1 : Int32} {p2 : Int32} {K : Int32 → Hp → Prop} {K9 : Int32 → St → Prop} (hw : z_X12_laysWays N a0_ p1 p2 h0 K9) (hk : ∀ (r0 : Int32), ∀ (h9 : Hp) (s9 : St), Wf ad h9 V s9 → K9 r0 s9 →  K r0 h9) (e0 : a0 = ad 12 a0_ 0) (l0 : a0_ < V 12) : w_X12_laysWays N a0 p1 p2 h K := by
  subst e0
  unfold z_X12_laysWays at hw
  unfold w_X12_laysWays
  refine l_fx3 (fun (r : Int32 → Int32 → Hp → Prop) (r9 : Int32 → Int32 → St → Prop) => ∀ (x0 : Int32), ∀ (x1 : Int32), ∀ (h9 : Hp) (s9 : St), Wf ad h9 V s9 → r9 x0 x1 s9 → r x0 x1 h9) (fun _ _ _ _ _ h9_ => h9_.elim) ?_ N _ _ _ _ W hw
  intro w7_ w8_ hv6_ x1_ x2_ h4_ s5_ W3_ hw
  refine l_br hw (fun _ hw => ?_) (fun _ hw => ?_)
  ·
    refine l_ok hw (fun _ hw => ?_)
    exact hk _ _ _ W3_ hw
  ·
    refine y_X12_digit W3_ hw (fun v9_ hw => ?_) 
    refine l_gA W3_ rfl l0 (c := 2) rfl (Or.inr rfl) ?_
    refine l_aI W3_ (f := 25) rfl l0 rfl hw (fun hw => ?_)
    refine l_jn (fun (r : Int32 → Hp → Prop) (r9 : Int32 → St → Prop) => ∀ (x0 : Int32), ∀ (h9 : Hp) (s9 : St), Wf ad h9 V s9 → r9 x0 s9 → r x0 h9) hw ?_ (fun j14_ j15_ hj16_ hw => ?_)
    ·
      intro x10_ h12_ s13_ W11_ hw
      exact hv6_ _ _ _ _ W11_ hw
    ·
      refine l_br hw (fun _ hw => ?_) (fun _ hw => ?_)
      ·
        refine l_br hw (fun _ hw => ?_) (fun _ hw => ?_)
        ·
          exact hj16_ _ _ _ W3_ hw
        ·
          refine l_cv W3_ rfl l0 rfl ?_
          refine y_X12_indexOf W3_ hw (fun v17_ hw => ?_) rfl l0
          refine l_gA W3_ rfl l0 (c := 2) rfl (Or.inr rfl) ?_
          refine l_sI W3_ (f := 40) rfl l0 rfl hw (fun h19_ W18_ hw => ?_)
          refine l_gA W18_ rfl l0 (c := 2) rfl (Or.inr rfl) ?_
          refine l_sI W18_ (f := 41) rfl l0 rfl hw (fun h21_ W20_ hw => ?_)
          refine l_jn (fun (r : Int32 → Prop) (r9 : Int32 → Prop) => ∀ (x0 : Int32), r9 x0 → r x0) hw ?_ (fun j23_ j24_ hj25_ hw => ?_)
          ·
            intro x22_ hw
            exact hj16_ _ _ _ W20_ hw
          ·
            refine l_br hw (fun _ hw => ?_) (fun _ hw => ?_)
            ·
              exact hj25_ _ hw
            ·
              exact hj25_ _ hw
      ·
        refine l_jn (fun (r : Int32 → Prop) (r9 : Int32 → Prop) => ∀ (x0 : Int32), r9 x0 → r x0) hw ?_ (fun j27_ j28_ hj29_ hw => ?_)
        ·
          intro x26_ hw
          exact hj16_ _ _ _ W3_ hw
        ·
          refine l_jn (fun (r : Prop) (r9 : Prop) =>  r9  → r ) hw ?_ (fun j30_ j31_ hj32_ hw => ?_)
          ·
            intro hw
            exact hj29_ _ hw
          ·
            refine l_br hw (fun _ hw => ?_) (fun _ hw => ?_)
            ·
              exact hj32_  hw
            ·
              refine l_br hw (fun _ hw => ?_) (fun _ hw => ?_)
              ·
                exact hj29_ _ hw
              ·
                exact hj32_  hw
def z_X12_keepsPlan (N : Nat) (a0 : Nat) (h0 : St) (K : St → Prop) : Prop :=
  fx2 (fun (w2 : Int32 → St → Prop) (x2 : Int32) (h1 : St) =>
    br (3 ≤ x2) (
      K h1) (
      wI 3 x2 <|
      wA 3 x2 (stP h1 12 a0 42 (x2).toNatClampNeg (sP h1 12 a0 39 (x2).toNatClampNeg)) fun h6 =>
      wI 3 x2 <|
      wA 3 x2 (stP h6 12 a0 43 (x2).toNatClampNeg (sP h6 12 a0 40 (x2).toNatClampNeg)) fun h10 =>
      wI 3 x2 <|
      wA 3 x2 (stP h10 12 a0 44 (x2).toNatClampNeg (sP h10 12 a0 41 (x2).toNatClampNeg)) fun h14 =>
      w2 (x2 + 1) h14)) N 0 h0
set_option maxHeartbeats 1000000 in
theorem y_X12_keepsPlan {ad : Nat → Nat → Nat → Nat} {h : Hp} {V : Nat → Nat} {h0 : St} {N : Nat} (W : Wf ad h V h0) {a0 a0_ : Nat} {K : Hp → Prop} {K9 : St → Prop} (hw : z_X12_keepsPlan N a0_ h0 K9) (hk : ∀ (h9 : Hp) (s9 : St), Wf ad h9 V s9 → K9 s9 →  K h9) (e0 : a0 = ad 12 a0_ 0) (l0 : a0_ < V 12) : w_X12_keepsPlan N a0 h K := by
  subst e0
  unfold z_X12_keepsPlan at hw
  unfold w_X12_keepsPlan
  refine l_fx2 (fun (r : Int32 → Hp → Prop) (r9 : Int32 → St → Prop) => ∀ (x0 : Int32), ∀ (h9 : Hp) (s9 : St), Wf ad h9 V s9 → r9 x0 s9 → r x0 h9) (fun _ _ _ _ h9_ => h9_.elim) ?_ N _ _ _ W hw
  intro w6_ w7_ hv5_ x1_ h3_ s4_ W2_ hw
  refine l_br hw (fun _ hw => ?_) (fun _ hw => ?_)
  ·
    exact hk _ _ W2_ hw
  ·
    refine l_gA W2_ rfl l0 (c := 2) rfl (Or.inr rfl) ?_
    refine l_gA W2_ rfl l0 (c := 2) rfl (Or.inr rfl) ?_
    refine l_aI W2_ (f := 39) rfl l0 rfl hw (fun hw => ?_)
    refine l_sI W2_ (f := 42) rfl l0 rfl hw (fun h9_ W8_ hw => ?_)
    refine l_gA W8_ rfl l0 (c := 2) rfl (Or.inr rfl) ?_
    refine l_gA W8_ rfl l0 (c := 2) rfl (Or.inr rfl) ?_
    refine l_aI W8_ (f := 40) rfl l0 rfl hw (fun hw => ?_)
    refine l_sI W8_ (f := 43) rfl l0 rfl hw (fun h11_ W10_ hw => ?_)
    refine l_gA W10_ rfl l0 (c := 2) rfl (Or.inr rfl) ?_
    refine l_gA W10_ rfl l0 (c := 2) rfl (Or.inr rfl) ?_
    refine l_aI W10_ (f := 41) rfl l0 rfl hw (fun hw => ?_)
    refine l_sI W10_ (f := 44) rfl l0 rfl hw (fun h13_ W12_ hw => ?_)
    exact hv5_ _ _ _ W12_ hw
def z_X12_plansByCounts (N : Nat) (a0 : Nat) (p1 : Int32) (h0 : St) (K : St → Prop) : Prop :=
  fx3 (fun (w7 : Int64 → Int32 → St → Prop) (y2 : Int64) (x3 : Int32) (h1 : St) =>
    br (27 ≤ x3) (
      fx2 (fun (w85 : Int32 → St → Prop) (x5 : Int32) (h4 : St) =>
        br (3 ≤ x5) (
          K h4) (
          wI 3 x5 <|
          wA 3 x5 (stP h4 12 a0 39 (x5).toNatClampNeg (sP h4 12 a0 42 (x5).toNatClampNeg)) fun h9 =>
          wI 3 x5 <|
          wA 3 x5 (stP h9 12 a0 40 (x5).toNatClampNeg (sP h9 12 a0 43 (x5).toNatClampNeg)) fun h13 =>
          wI 3 x5 <|
          wA 3 x5 (stP h13 12 a0 41 (x5).toNatClampNeg (sP h13 12 a0 44 (x5).toNatClampNeg)) fun h17 =>
          w85 (x5 + 1) h17)) N 0 h1) (
      z_X12_laysOrder N a0 p1 x3 h1 fun v18 h19 =>
      fx3 (fun (w26 : Int64 → Int32 → St → Prop) (y21 : Int64) (x22 : Int32) (h20 : St) =>
        jn (
          w7 y21 (x3 + 1) h20) (fun j76 =>
          br (512 ≤ x22) (
            j76 ) (
            br (v18 = 0) (
              j76 ) (
              z_X12_laysWays N a0 p1 x22 h20 fun v23 h24 =>
              jn (fun (y26 : Int64) (h25 : St) =>
                w26 y26 (x22 + 1) h25) (fun j70 =>
                br (v23 = 0) (
                  j70 y21 h24) (
                  z_X12_estimateOfPlan N a0 p1 h24 fun v27 =>
                  br (0 ≤ (lg_cmp v27 y21)) (
                    j70 y21 h24) (
                    z_X12_keepsPlan N a0 h24 fun h28 =>
                    j70 v27 h28))))))) N y2 0 h19)) N 9000000000000000000 0 h0
set_option maxHeartbeats 1000000 in
theorem y_X12_plansByCounts {ad : Nat → Nat → Nat → Nat} {h : Hp} {V : Nat → Nat} {h0 : St} {N : Nat} (W : Wf ad h V h0) {a0 a0_ : Nat} {p1 : Int32} {K : Hp → Prop} {K9 : St → Prop} (hw : z_X12_plansByCounts N a0_ p1 h0 K9) (hk : ∀ (h9 : Hp) (s9 : St), Wf ad h9 V s9 → K9 s9 →  K h9) (e0 : a0 = ad 12 a0_ 0) (l0 : a0_ < V 12) : w_X12_plansByCounts N a0 p1 h K := by
  subst e0
  unfold z_X12_plansByCounts at hw
  unfold w_X12_plansByCounts
  refine l_fx3 (fun (r : Int64 → Int32 → Hp → Prop) (r9 : Int64 → Int32 → St → Prop) => ∀ (x0 : Int64), ∀ (x1 : Int32), ∀ (h9 : Hp) (s9 : St), Wf ad h9 V s9 → r9 x0 x1 s9 → r x0 x1 h9) (fun _ _ _ _ _ h9_ => h9_.elim) ?_ N _ _ _ _ W hw
  intro w7_ w8_ hv6_ x1_ x2_ h4_ s5_ W3_ hw
  refine l_br hw (fun _ hw => ?_) (fun _ hw => ?_)
  ·
    refine l_fx2 (fun (r : Int32 → Hp → Prop) (r9 : Int32 → St → Prop) => ∀ (x0 : Int32), ∀ (h9 : Hp) (s9 : St), Wf ad h9 V s9 → r9 x0 s9 → r x0 h9) (fun _ _ _ _ h9_ => h9_.elim) ?_ N _ _ _ W3_ hw
    intro w14_ w15_ hv13_ x9_ h11_ s12_ W10_ hw
    refine l_br hw (fun _ hw => ?_) (fun _ hw => ?_)
    ·
      exact hk _ _ W10_ hw
    ·
      refine l_gA W10_ rfl l0 (c := 2) rfl (Or.inr rfl) ?_
      refine l_gA W10_ rfl l0 (c := 2) rfl (Or.inr rfl) ?_
      refine l_aI W10_ (f := 42) rfl l0 rfl hw (fun hw => ?_)
      refine l_sI W10_ (f := 39) rfl l0 rfl hw (fun h17_ W16_ hw => ?_)
      refine l_gA W16_ rfl l0 (c := 2) rfl (Or.inr rfl) ?_
      refine l_gA W16_ rfl l0 (c := 2) rfl (Or.inr rfl) ?_
      refine l_aI W16_ (f := 43) rfl l0 rfl hw (fun hw => ?_)
      refine l_sI W16_ (f := 40) rfl l0 rfl hw (fun h19_ W18_ hw => ?_)
      refine l_gA W18_ rfl l0 (c := 2) rfl (Or.inr rfl) ?_
      refine l_gA W18_ rfl l0 (c := 2) rfl (Or.inr rfl) ?_
      refine l_aI W18_ (f := 44) rfl l0 rfl hw (fun hw => ?_)
      refine l_sI W18_ (f := 41) rfl l0 rfl hw (fun h21_ W20_ hw => ?_)
      exact hv13_ _ _ _ W20_ hw
  ·
    refine l_cv W3_ rfl l0 rfl ?_
    refine y_X12_laysOrder W3_ hw (fun v22_ h24_ s25_ W23_ hw => ?_) rfl l0
    refine l_fx3 (fun (r : Int64 → Int32 → Hp → Prop) (r9 : Int64 → Int32 → St → Prop) => ∀ (x0 : Int64), ∀ (x1 : Int32), ∀ (h9 : Hp) (s9 : St), Wf ad h9 V s9 → r9 x0 x1 s9 → r x0 x1 h9) (fun _ _ _ _ _ h9_ => h9_.elim) ?_ N _ _ _ _ W23_ hw
    intro w32_ w33_ hv31_ x26_ x27_ h29_ s30_ W28_ hw
    refine l_jn (fun (r : Prop) (r9 : Prop) =>  r9  → r ) hw ?_ (fun j34_ j35_ hj36_ hw => ?_)
    ·
      intro hw
      exact hv6_ _ _ _ _ W28_ hw
    ·
      refine l_br hw (fun _ hw => ?_) (fun _ hw => ?_)
      ·
        exact hj36_  hw
      ·
        refine l_br hw (fun _ hw => ?_) (fun _ hw => ?_)
        ·
          exact hj36_  hw
        ·
          refine l_cv W28_ rfl l0 rfl ?_
          refine y_X12_laysWays W28_ hw (fun v37_ h39_ s40_ W38_ hw => ?_) rfl l0
          refine l_jn (fun (r : Int64 → Hp → Prop) (r9 : Int64 → St → Prop) => ∀ (x0 : Int64), ∀ (h9 : Hp) (s9 : St), Wf ad h9 V s9 → r9 x0 s9 → r x0 h9) hw ?_ (fun j45_ j46_ hj47_ hw => ?_)
          ·
            intro x41_ h43_ s44_ W42_ hw
            exact hv31_ _ _ _ _ W42_ hw
          ·
            refine l_br hw (fun _ hw => ?_) (fun _ hw => ?_)
            ·
              exact hj47_ _ _ _ W38_ hw
            ·
              refine l_cv W38_ rfl l0 rfl ?_
              refine y_X12_estimateOfPlan W38_ hw (fun v48_ hw => ?_) rfl l0
              refine l_br hw (fun _ hw => ?_) (fun _ hw => ?_)
              ·
                exact hj47_ _ _ _ W38_ hw
              ·
                refine l_cv W38_ rfl l0 rfl ?_
                refine y_X12_keepsPlan W38_ hw (fun h50_ s51_ W49_ hw => ?_) rfl l0
                exact hj47_ _ _ _ W49_ hw
def z_X12_plans (N : Nat) (a0 : Nat) (p1 : Int32) (p2 : Int32) (p3 : Int32) (h0 : St) (K : St → Prop) : Prop :=
  lt_ (stP h0 12 a0 45 0 p3) fun h1 =>
  br (p1 = 0) (
    z_X12_plansByBook N a0 p2 h1 fun h3 =>
    K h3) (
    z_X12_plansByCounts N a0 p2 h1 fun h2 =>
    K h2)
set_option maxHeartbeats 1000000 in
theorem y_X12_plans {ad : Nat → Nat → Nat → Nat} {h : Hp} {V : Nat → Nat} {h0 : St} {N : Nat} (W : Wf ad h V h0) {a0 a0_ : Nat} {p1 : Int32} {p2 : Int32} {p3 : Int32} {K : Hp → Prop} {K9 : St → Prop} (hw : z_X12_plans N a0_ p1 p2 p3 h0 K9) (hk : ∀ (h9 : Hp) (s9 : St), Wf ad h9 V s9 → K9 s9 →  K h9) (e0 : a0 = ad 12 a0_ 0) (l0 : a0_ < V 12) : w_X12_plans N a0 p1 p2 p3 h K := by
  subst e0
  unfold z_X12_plans at hw
  unfold w_X12_plans
  refine l_pI W rfl l0 rfl hw (fun h2_ W1_ hw => ?_)
  refine l_br hw (fun _ hw => ?_) (fun _ hw => ?_)
  ·
    refine l_cv W1_ rfl l0 rfl ?_
    refine y_X12_plansByBook W1_ hw (fun h4_ s5_ W3_ hw => ?_) rfl l0
    exact hk _ _ W3_ hw
  ·
    refine l_cv W1_ rfl l0 rfl ?_
    refine y_X12_plansByCounts W1_ hw (fun h7_ s8_ W6_ hw => ?_) rfl l0
    exact hk _ _ W6_ hw
def z_X12_noPlace (N : Nat) (a0 : Nat) (p1 : Int32) (p2 : Int32) (p3 : Int32) (h0 : St) (K : Int32 → St → Prop) : Prop :=
  z_X12_in N p1 0 1 h0 fun v1 =>
  jn (fun (v2 : Int32) =>
    z_X12_fails N a0 v2 1 h0 fun v3 h4 =>
    br (v3 = 0) (
      z_X12_isQuery N a0 p2 h4 fun v5 =>
      jn (fun (v6 : Int32) =>
        z_X12_fails N a0 v6 2 h4 fun v7 h8 =>
        br (v7 = 0) (
          wI 8 p2 <|
          z_X12_in N p3 0 ((sP h8 12 a0 25 (p2).toNatClampNeg) - 1) h8 fun v11 =>
          jn (fun (v12 : Int32) =>
            z_X12_fails N a0 v12 3 h8 fun v13 h14 =>
            br (v13 = 0) (
              K 0 h14) (
              K 1 h14)) (fun j65 =>
            br (v11 = 0) (
              j65 1) (
              j65 0))) (
          K 1 h8)) (fun j36 =>
        br (v5 = 0) (
          j36 1) (
          j36 0))) (
      K 1 h4)) (fun j15 =>
    br (v1 = 0) (
      j15 1) (
      j15 0))
set_option maxHeartbeats 1000000 in
theorem y_X12_noPlace {ad : Nat → Nat → Nat → Nat} {h : Hp} {V : Nat → Nat} {h0 : St} {N : Nat} (W : Wf ad h V h0) {a0 a0_ : Nat} {p1 : Int32} {p2 : Int32} {p3 : Int32} {K : Int32 → Hp → Prop} {K9 : Int32 → St → Prop} (hw : z_X12_noPlace N a0_ p1 p2 p3 h0 K9) (hk : ∀ (r0 : Int32), ∀ (h9 : Hp) (s9 : St), Wf ad h9 V s9 → K9 r0 s9 →  K r0 h9) (e0 : a0 = ad 12 a0_ 0) (l0 : a0_ < V 12) : w_X12_noPlace N a0 p1 p2 p3 h K := by
  subst e0
  unfold z_X12_noPlace at hw
  unfold w_X12_noPlace
  refine y_X12_in W hw (fun v1_ hw => ?_) 
  refine l_jn (fun (r : Int32 → Prop) (r9 : Int32 → Prop) => ∀ (x0 : Int32), r9 x0 → r x0) hw ?_ (fun j3_ j4_ hj5_ hw => ?_)
  ·
    intro x2_ hw
    refine l_cv W rfl l0 rfl ?_
    refine y_X12_fails W hw (fun v6_ h8_ s9_ W7_ hw => ?_) rfl l0
    refine l_br hw (fun _ hw => ?_) (fun _ hw => ?_)
    ·
      refine l_cv W7_ rfl l0 rfl ?_
      refine y_X12_isQuery W7_ hw (fun v10_ hw => ?_) rfl l0
      refine l_jn (fun (r : Int32 → Prop) (r9 : Int32 → Prop) => ∀ (x0 : Int32), r9 x0 → r x0) hw ?_ (fun j12_ j13_ hj14_ hw => ?_)
      ·
        intro x11_ hw
        refine l_cv W7_ rfl l0 rfl ?_
        refine y_X12_fails W7_ hw (fun v15_ h17_ s18_ W16_ hw => ?_) rfl l0
        refine l_br hw (fun _ hw => ?_) (fun _ hw => ?_)
        ·
          refine l_gA W16_ rfl l0 (c := 2) rfl (Or.inr rfl) ?_
          refine l_aI W16_ (f := 25) rfl l0 rfl hw (fun hw => ?_)
          refine y_X12_in W16_ hw (fun v19_ hw => ?_) 
          refine l_jn (fun (r : Int32 → Prop) (r9 : Int32 → Prop) => ∀ (x0 : Int32), r9 x0 → r x0) hw ?_ (fun j21_ j22_ hj23_ hw => ?_)
          ·
            intro x20_ hw
            refine l_cv W16_ rfl l0 rfl ?_
            refine y_X12_fails W16_ hw (fun v24_ h26_ s27_ W25_ hw => ?_) rfl l0
            refine l_br hw (fun _ hw => ?_) (fun _ hw => ?_)
            ·
              exact hk _ _ _ W25_ hw
            ·
              exact hk _ _ _ W25_ hw
          ·
            refine l_br hw (fun _ hw => ?_) (fun _ hw => ?_)
            ·
              exact hj23_ _ hw
            ·
              exact hj23_ _ hw
        ·
          exact hk _ _ _ W16_ hw
      ·
        refine l_br hw (fun _ hw => ?_) (fun _ hw => ?_)
        ·
          exact hj14_ _ hw
        ·
          exact hj14_ _ hw
    ·
      exact hk _ _ _ W7_ hw
  ·
    refine l_br hw (fun _ hw => ?_) (fun _ hw => ?_)
    ·
      exact hj5_ _ hw
    ·
      exact hj5_ _ hw
def z_X12_planned (N : Nat) (a0 : Nat) (p1 : Int32) (p2 : Int32) (p3 : Int32) (h0 : St) (K : Int32 → St → Prop) : Prop :=
  lt_ (stP h0 12 a0 0 0 0) fun h1 =>
  z_X12_noPlace N a0 p1 p2 p3 h1 fun v2 h3 =>
  br (v2 = 0) (
    wI 2 p1 <|
    z_X12_plans N a0 p1 p2 (sP h3 12 a0 46 (p1).toNatClampNeg) h3 fun h6 =>
    wI 3 p3 <|
    K (sP h6 12 a0 39 (p3).toNatClampNeg) h6) (
    K (-1) h3)
set_option maxHeartbeats 1000000 in
theorem y_X12_planned {ad : Nat → Nat → Nat → Nat} {h : Hp} {V : Nat → Nat} {h0 : St} {N : Nat} (W : Wf ad h V h0) {a0 a0_ : Nat} {p1 : Int32} {p2 : Int32} {p3 : Int32} {K : Int32 → Hp → Prop} {K9 : Int32 → St → Prop} (hw : z_X12_planned N a0_ p1 p2 p3 h0 K9) (hk : ∀ (r0 : Int32), ∀ (h9 : Hp) (s9 : St), Wf ad h9 V s9 → K9 r0 s9 →  K r0 h9) (e0 : a0 = ad 12 a0_ 0) (l0 : a0_ < V 12) : w_X12_planned N a0 p1 p2 p3 h K := by
  subst e0
  unfold z_X12_planned at hw
  unfold w_X12_planned
  refine l_pI W rfl l0 rfl hw (fun h2_ W1_ hw => ?_)
  refine l_cv W1_ rfl l0 rfl ?_
  refine y_X12_noPlace W1_ hw (fun v3_ h5_ s6_ W4_ hw => ?_) rfl l0
  refine l_br hw (fun _ hw => ?_) (fun _ hw => ?_)
  ·
    refine l_gA W4_ rfl l0 (c := 2) rfl (Or.inr rfl) ?_
    refine l_aI W4_ (f := 46) rfl l0 rfl hw (fun hw => ?_)
    refine l_cv W4_ rfl l0 rfl ?_
    refine y_X12_plans W4_ hw (fun h8_ s9_ W7_ hw => ?_) rfl l0
    refine l_gA W7_ rfl l0 (c := 2) rfl (Or.inr rfl) ?_
    refine l_aI W7_ (f := 39) rfl l0 rfl hw (fun hw => ?_)
    exact hk _ _ _ W7_ hw
  ·
    exact hk _ _ _ W4_ hw
def z_X12_way (N : Nat) (a0 : Nat) (p1 : Int32) (p2 : Int32) (p3 : Int32) (h0 : St) (K : Int32 → St → Prop) : Prop :=
  lt_ (stP h0 12 a0 0 0 0) fun h1 =>
  z_X12_noPlace N a0 p1 p2 p3 h1 fun v2 h3 =>
  br (v2 = 0) (
    wI 2 p1 <|
    z_X12_plans N a0 p1 p2 (sP h3 12 a0 46 (p1).toNatClampNeg) h3 fun h6 =>
    wI 3 p3 <|
    br ((sP h6 12 a0 40 (p3).toNatClampNeg) = 0) (
      ok (narrow .char (.int 102) = .int 102) <|
      K 102 h6) (
      wI 3 p3 <|
      br (5 ≤ (sP h6 12 a0 40 (p3).toNatClampNeg)) (
        ok (narrow .char (.int 106) = .int 106) <|
        K 106 h6) (
        ok (narrow .char (.int 99) = .int 99) <|
        K 99 h6))) (
    ok (narrow .char (.int 32) = .int 32) <|
    K 32 h3)
set_option maxHeartbeats 1000000 in
theorem y_X12_way {ad : Nat → Nat → Nat → Nat} {h : Hp} {V : Nat → Nat} {h0 : St} {N : Nat} (W : Wf ad h V h0) {a0 a0_ : Nat} {p1 : Int32} {p2 : Int32} {p3 : Int32} {K : Int32 → Hp → Prop} {K9 : Int32 → St → Prop} (hw : z_X12_way N a0_ p1 p2 p3 h0 K9) (hk : ∀ (r0 : Int32), ∀ (h9 : Hp) (s9 : St), Wf ad h9 V s9 → K9 r0 s9 →  K r0 h9) (e0 : a0 = ad 12 a0_ 0) (l0 : a0_ < V 12) : w_X12_way N a0 p1 p2 p3 h K := by
  subst e0
  unfold z_X12_way at hw
  unfold w_X12_way
  refine l_pI W rfl l0 rfl hw (fun h2_ W1_ hw => ?_)
  refine l_cv W1_ rfl l0 rfl ?_
  refine y_X12_noPlace W1_ hw (fun v3_ h5_ s6_ W4_ hw => ?_) rfl l0
  refine l_br hw (fun _ hw => ?_) (fun _ hw => ?_)
  ·
    refine l_gA W4_ rfl l0 (c := 2) rfl (Or.inr rfl) ?_
    refine l_aI W4_ (f := 46) rfl l0 rfl hw (fun hw => ?_)
    refine l_cv W4_ rfl l0 rfl ?_
    refine y_X12_plans W4_ hw (fun h8_ s9_ W7_ hw => ?_) rfl l0
    refine l_gA W7_ rfl l0 (c := 2) rfl (Or.inr rfl) ?_
    refine l_aI W7_ (f := 40) rfl l0 rfl hw (fun hw => ?_)
    refine l_br hw (fun _ hw => ?_) (fun _ hw => ?_)
    ·
      refine l_ok hw (fun _ hw => ?_)
      exact hk _ _ _ W7_ hw
    ·
      refine l_gA W7_ rfl l0 (c := 2) rfl (Or.inr rfl) ?_
      refine l_aI W7_ (f := 40) rfl l0 rfl hw (fun hw => ?_)
      refine l_br hw (fun _ hw => ?_) (fun _ hw => ?_)
      ·
        refine l_ok hw (fun _ hw => ?_)
        exact hk _ _ _ W7_ hw
      ·
        refine l_ok hw (fun _ hw => ?_)
        exact hk _ _ _ W7_ hw
  ·
    refine l_ok hw (fun _ hw => ?_)
    exact hk _ _ _ W4_ hw
def z_X12_usedIndex (N : Nat) (a0 : Nat) (p1 : Int32) (p2 : Int32) (p3 : Int32) (h0 : St) (K : Int32 → St → Prop) : Prop :=
  lt_ (stP h0 12 a0 0 0 0) fun h1 =>
  z_X12_noPlace N a0 p1 p2 p3 h1 fun v2 h3 =>
  br (v2 = 0) (
    wI 2 p1 <|
    z_X12_plans N a0 p1 p2 (sP h3 12 a0 46 (p1).toNatClampNeg) h3 fun h6 =>
    wI 3 p3 <|
    K (sP h6 12 a0 41 (p3).toNatClampNeg) h6) (
    K (-1) h3)
set_option maxHeartbeats 1000000 in
theorem y_X12_usedIndex {ad : Nat → Nat → Nat → Nat} {h : Hp} {V : Nat → Nat} {h0 : St} {N : Nat} (W : Wf ad h V h0) {a0 a0_ : Nat} {p1 : Int32} {p2 : Int32} {p3 : Int32} {K : Int32 → Hp → Prop} {K9 : Int32 → St → Prop} (hw : z_X12_usedIndex N a0_ p1 p2 p3 h0 K9) (hk : ∀ (r0 : Int32), ∀ (h9 : Hp) (s9 : St), Wf ad h9 V s9 → K9 r0 s9 →  K r0 h9) (e0 : a0 = ad 12 a0_ 0) (l0 : a0_ < V 12) : w_X12_usedIndex N a0 p1 p2 p3 h K := by
  subst e0
  unfold z_X12_usedIndex at hw
  unfold w_X12_usedIndex
  refine l_pI W rfl l0 rfl hw (fun h2_ W1_ hw => ?_)
  refine l_cv W1_ rfl l0 rfl ?_
  refine y_X12_noPlace W1_ hw (fun v3_ h5_ s6_ W4_ hw => ?_) rfl l0
  refine l_br hw (fun _ hw => ?_) (fun _ hw => ?_)
  ·
    refine l_gA W4_ rfl l0 (c := 2) rfl (Or.inr rfl) ?_
    refine l_aI W4_ (f := 46) rfl l0 rfl hw (fun hw => ?_)
    refine l_cv W4_ rfl l0 rfl ?_
    refine y_X12_plans W4_ hw (fun h8_ s9_ W7_ hw => ?_) rfl l0
    refine l_gA W7_ rfl l0 (c := 2) rfl (Or.inr rfl) ?_
    refine l_aI W7_ (f := 41) rfl l0 rfl hw (fun hw => ?_)
    exact hk _ _ _ W7_ hw
  ·
    exact hk _ _ _ W4_ hw
def z_X12_noPlan (N : Nat) (a0 : Nat) (p1 : Int32) (p2 : Int32) (h0 : St) (K : Int32 → St → Prop) : Prop :=
  z_X12_in N p1 0 1 h0 fun v1 =>
  jn (fun (v2 : Int32) =>
    z_X12_fails N a0 v2 1 h0 fun v3 h4 =>
    br (v3 = 0) (
      z_X12_isQuery N a0 p2 h4 fun v5 =>
      jn (fun (v6 : Int32) =>
        z_X12_fails N a0 v6 2 h4 fun v7 h8 =>
        br (v7 = 0) (
          wI 8 p2 <|
          jn (fun (v11 : Int32) =>
            z_X12_fails N a0 v11 3 h8 fun v12 h13 =>
            br (v12 = 0) (
              K 0 h13) (
              K 1 h13)) (fun j58 =>
            br ((sP h8 12 a0 25 (p2).toNatClampNeg) = 0) (
              j58 1) (
              j58 0))) (
          K 1 h8)) (fun j36 =>
        br (v5 = 0) (
          j36 1) (
          j36 0))) (
      K 1 h4)) (fun j15 =>
    br (v1 = 0) (
      j15 1) (
      j15 0))
set_option maxHeartbeats 1000000 in
theorem y_X12_noPlan {ad : Nat → Nat → Nat → Nat} {h : Hp} {V : Nat → Nat} {h0 : St} {N : Nat} (W : Wf ad h V h0) {a0 a0_ : Nat} {p1 : Int32} {p2 : Int32} {K : Int32 → Hp → Prop} {K9 : Int32 → St → Prop} (hw : z_X12_noPlan N a0_ p1 p2 h0 K9) (hk : ∀ (r0 : Int32), ∀ (h9 : Hp) (s9 : St), Wf ad h9 V s9 → K9 r0 s9 →  K r0 h9) (e0 : a0 = ad 12 a0_ 0) (l0 : a0_ < V 12) : w_X12_noPlan N a0 p1 p2 h K := by
  subst e0
  unfold z_X12_noPlan at hw
  unfold w_X12_noPlan
  refine y_X12_in W hw (fun v1_ hw => ?_) 
  refine l_jn (fun (r : Int32 → Prop) (r9 : Int32 → Prop) => ∀ (x0 : Int32), r9 x0 → r x0) hw ?_ (fun j3_ j4_ hj5_ hw => ?_)
  ·
    intro x2_ hw
    refine l_cv W rfl l0 rfl ?_
    refine y_X12_fails W hw (fun v6_ h8_ s9_ W7_ hw => ?_) rfl l0
    refine l_br hw (fun _ hw => ?_) (fun _ hw => ?_)
    ·
      refine l_cv W7_ rfl l0 rfl ?_
      refine y_X12_isQuery W7_ hw (fun v10_ hw => ?_) rfl l0
      refine l_jn (fun (r : Int32 → Prop) (r9 : Int32 → Prop) => ∀ (x0 : Int32), r9 x0 → r x0) hw ?_ (fun j12_ j13_ hj14_ hw => ?_)
      ·
        intro x11_ hw
        refine l_cv W7_ rfl l0 rfl ?_
        refine y_X12_fails W7_ hw (fun v15_ h17_ s18_ W16_ hw => ?_) rfl l0
        refine l_br hw (fun _ hw => ?_) (fun _ hw => ?_)
        ·
          refine l_gA W16_ rfl l0 (c := 2) rfl (Or.inr rfl) ?_
          refine l_aI W16_ (f := 25) rfl l0 rfl hw (fun hw => ?_)
          refine l_jn (fun (r : Int32 → Prop) (r9 : Int32 → Prop) => ∀ (x0 : Int32), r9 x0 → r x0) hw ?_ (fun j20_ j21_ hj22_ hw => ?_)
          ·
            intro x19_ hw
            refine l_cv W16_ rfl l0 rfl ?_
            refine y_X12_fails W16_ hw (fun v23_ h25_ s26_ W24_ hw => ?_) rfl l0
            refine l_br hw (fun _ hw => ?_) (fun _ hw => ?_)
            ·
              exact hk _ _ _ W24_ hw
            ·
              exact hk _ _ _ W24_ hw
          ·
            refine l_br hw (fun _ hw => ?_) (fun _ hw => ?_)
            ·
              exact hj22_ _ hw
            ·
              exact hj22_ _ hw
        ·
          exact hk _ _ _ W16_ hw
      ·
        refine l_br hw (fun _ hw => ?_) (fun _ hw => ?_)
        ·
          exact hj14_ _ hw
        ·
          exact hj14_ _ hw
    ·
      exact hk _ _ _ W7_ hw
  ·
    refine l_br hw (fun _ hw => ?_) (fun _ hw => ?_)
    ·
      exact hj5_ _ hw
    ·
      exact hj5_ _ hw
def z_X12_estimate (N : Nat) (a0 : Nat) (p1 : Int32) (p2 : Int32) (h0 : St) (K : Int64 → St → Prop) : Prop :=
  lt_ (stP h0 12 a0 0 0 0) fun h1 =>
  z_X12_noPlan N a0 p1 p2 h1 fun v2 h3 =>
  br (v2 = 0) (
    wI 2 p1 <|
    z_X12_plans N a0 p1 p2 (sP h3 12 a0 46 (p1).toNatClampNeg) h3 fun h6 =>
    z_X12_estimateOfPlan N a0 p2 h6 fun v7 =>
    K v7 h6) (
    K (-1) h3)
set_option maxHeartbeats 1000000 in
theorem y_X12_estimate {ad : Nat → Nat → Nat → Nat} {h : Hp} {V : Nat → Nat} {h0 : St} {N : Nat} (W : Wf ad h V h0) {a0 a0_ : Nat} {p1 : Int32} {p2 : Int32} {K : Int64 → Hp → Prop} {K9 : Int64 → St → Prop} (hw : z_X12_estimate N a0_ p1 p2 h0 K9) (hk : ∀ (r0 : Int64), ∀ (h9 : Hp) (s9 : St), Wf ad h9 V s9 → K9 r0 s9 →  K r0 h9) (e0 : a0 = ad 12 a0_ 0) (l0 : a0_ < V 12) : w_X12_estimate N a0 p1 p2 h K := by
  subst e0
  unfold z_X12_estimate at hw
  unfold w_X12_estimate
  refine l_pI W rfl l0 rfl hw (fun h2_ W1_ hw => ?_)
  refine l_cv W1_ rfl l0 rfl ?_
  refine y_X12_noPlan W1_ hw (fun v3_ h5_ s6_ W4_ hw => ?_) rfl l0
  refine l_br hw (fun _ hw => ?_) (fun _ hw => ?_)
  ·
    refine l_gA W4_ rfl l0 (c := 2) rfl (Or.inr rfl) ?_
    refine l_aI W4_ (f := 46) rfl l0 rfl hw (fun hw => ?_)
    refine l_cv W4_ rfl l0 rfl ?_
    refine y_X12_plans W4_ hw (fun h8_ s9_ W7_ hw => ?_) rfl l0
    refine l_cv W7_ rfl l0 rfl ?_
    refine y_X12_estimateOfPlan W7_ hw (fun v10_ hw => ?_) rfl l0
    exact hk _ _ _ W7_ hw
  ·
    exact hk _ _ _ W4_ hw
def z_X12_wants (N : Nat) (a0 : Nat) (p1 : Int32) (p2 : Int32) (h0 : St) (K : St → Prop) : Prop :=
  wI 3 p2 <|
  br (5 ≤ (sP h0 12 a0 40 (p2).toNatClampNeg)) (
    wI 24 (((3 * p1) + (sP h0 12 a0 40 (p2).toNatClampNeg)) - 5) <|
    wI 3 p2 <|
    jn (fun (v7 : Int32) =>
      lt_ (stP h0 12 a0 49 0 61) fun h8 =>
      jn (fun (v9 : Int32) =>
        lt_ (stP h8 12 a0 50 0 v9) fun h10 =>
        K h10) (fun j130 =>
        br (v7 = 0) (
          wI 24 (((3 * p1) + (sP h0 12 a0 40 (p2).toNatClampNeg)) - 5) <|
          wI 24 (((3 * p1) + (sP h0 12 a0 40 (p2).toNatClampNeg)) - 5) <|
          z_X12_chosenAt N a0 p1 (sP h8 12 a0 33 ((((3 * p1) + (sP h0 12 a0 40 (p2).toNatClampNeg)) - 5)).toNatClampNeg) (sP h8 12 a0 34 ((((3 * p1) + (sP h0 12 a0 40 (p2).toNatClampNeg)) - 5)).toNatClampNeg) h8 fun v15 =>
          j130 v15) (
          wI 24 (((3 * p1) + (sP h0 12 a0 40 (p2).toNatClampNeg)) - 5) <|
          wI 24 (((3 * p1) + (sP h0 12 a0 40 (p2).toNatClampNeg)) - 5) <|
          z_X12_chosenAt N a0 p1 (sP h8 12 a0 35 ((((3 * p1) + (sP h0 12 a0 40 (p2).toNatClampNeg)) - 5)).toNatClampNeg) (sP h8 12 a0 36 ((((3 * p1) + (sP h0 12 a0 40 (p2).toNatClampNeg)) - 5)).toNatClampNeg) h8 fun v20 =>
          j130 v20))) (fun j75 =>
      br ((sP h0 12 a0 33 ((((3 * p1) + (sP h0 12 a0 40 (p2).toNatClampNeg)) - 5)).toNatClampNeg) = (sP h0 12 a0 39 (p2).toNatClampNeg)) (
        j75 1) (
        j75 0))) (
    wI 32 (((4 * p1) + (sP h0 12 a0 40 (p2).toNatClampNeg)) - 1) <|
    lt_ (stP h0 12 a0 49 0 (sP h0 12 a0 30 ((((4 * p1) + (sP h0 12 a0 40 (p2).toNatClampNeg)) - 1)).toNatClampNeg)) fun h23 =>
    wI 32 (((4 * p1) + (sP h0 12 a0 40 (p2).toNatClampNeg)) - 1) <|
    lt_ (stP h23 12 a0 50 0 (sP h23 12 a0 31 ((((4 * p1) + (sP h0 12 a0 40 (p2).toNatClampNeg)) - 1)).toNatClampNeg)) fun h26 =>
    K h26)
set_option maxHeartbeats 1000000 in
theorem y_X12_wants {ad : Nat → Nat → Nat → Nat} {h : Hp} {V : Nat → Nat} {h0 : St} {N : Nat} (W : Wf ad h V h0) {a0 a0_ : Nat} {p1 : Int32} {p2 : Int32} {K : Hp → Prop} {K9 : St → Prop} (hw : z_X12_wants N a0_ p1 p2 h0 K9) (hk : ∀ (h9 : Hp) (s9 : St), Wf ad h9 V s9 → K9 s9 →  K h9) (e0 : a0 = ad 12 a0_ 0) (l0 : a0_ < V 12) : w_X12_wants N a0 p1 p2 h K := by
  subst e0
  unfold z_X12_wants at hw
  unfold w_X12_wants
  refine l_gA W rfl l0 (c := 2) rfl (Or.inr rfl) ?_
  refine l_aI W (f := 40) rfl l0 rfl hw (fun hw => ?_)
  refine l_br hw (fun _ hw => ?_) (fun _ hw => ?_)
  ·
    refine l_gA W rfl l0 (c := 2) rfl (Or.inr rfl) ?_
    refine l_aI W (f := 33) rfl l0 rfl hw (fun hw => ?_)
    refine l_gA W rfl l0 (c := 2) rfl (Or.inr rfl) ?_
    refine l_aI W (f := 39) rfl l0 rfl hw (fun hw => ?_)
    refine l_jn (fun (r : Int32 → Prop) (r9 : Int32 → Prop) => ∀ (x0 : Int32), r9 x0 → r x0) hw ?_ (fun j2_ j3_ hj4_ hw => ?_)
    ·
      intro x1_ hw
      refine l_pI W rfl l0 rfl hw (fun h6_ W5_ hw => ?_)
      refine l_jn (fun (r : Int32 → Prop) (r9 : Int32 → Prop) => ∀ (x0 : Int32), r9 x0 → r x0) hw ?_ (fun j8_ j9_ hj10_ hw => ?_)
      ·
        intro x7_ hw
        refine l_pI W5_ rfl l0 rfl hw (fun h12_ W11_ hw => ?_)
        exact hk _ _ W11_ hw
      ·
        refine l_br hw (fun _ hw => ?_) (fun _ hw => ?_)
        ·
          refine l_gA W5_ rfl l0 (c := 2) rfl (Or.inr rfl) ?_
          refine l_aI W5_ (f := 33) rfl l0 rfl hw (fun hw => ?_)
          refine l_gA W5_ rfl l0 (c := 2) rfl (Or.inr rfl) ?_
          refine l_aI W5_ (f := 34) rfl l0 rfl hw (fun hw => ?_)
          refine l_cv W5_ rfl l0 rfl ?_
          refine y_X12_chosenAt W5_ hw (fun v13_ hw => ?_) rfl l0
          exact hj10_ _ hw
        ·
          refine l_gA W5_ rfl l0 (c := 2) rfl (Or.inr rfl) ?_
          refine l_aI W5_ (f := 35) rfl l0 rfl hw (fun hw => ?_)
          refine l_gA W5_ rfl l0 (c := 2) rfl (Or.inr rfl) ?_
          refine l_aI W5_ (f := 36) rfl l0 rfl hw (fun hw => ?_)
          refine l_cv W5_ rfl l0 rfl ?_
          refine y_X12_chosenAt W5_ hw (fun v14_ hw => ?_) rfl l0
          exact hj10_ _ hw
    ·
      refine l_br hw (fun _ hw => ?_) (fun _ hw => ?_)
      ·
        exact hj4_ _ hw
      ·
        exact hj4_ _ hw
  ·
    refine l_gA W rfl l0 (c := 2) rfl (Or.inr rfl) ?_
    refine l_aI W (f := 30) rfl l0 rfl hw (fun hw => ?_)
    refine l_pI W rfl l0 rfl hw (fun h16_ W15_ hw => ?_)
    refine l_gA W15_ rfl l0 (c := 2) rfl (Or.inr rfl) ?_
    refine l_aI W15_ (f := 31) rfl l0 rfl hw (fun hw => ?_)
    refine l_pI W15_ rfl l0 rfl hw (fun h18_ W17_ hw => ?_)
    exact hk _ _ W17_ hw
def z_X12_entryValue (N : Nat) (a0 : Nat) (p1 : Int32) (p2 : Int32) (h0 : St) (K : Int32 → Prop) : Prop :=
  wI 6 p1 <|
  wI 240 ((40 * p1) + p2) <|
  wI 6 p1 <|
  z_X12_at N a0 (sP h0 12 a0 14 (p1).toNatClampNeg) (sP h0 12 a0 17 (((40 * p1) + p2)).toNatClampNeg) (sP h0 12 a0 15 (p1).toNatClampNeg) h0 fun v7 =>
  K v7
set_option maxHeartbeats 1000000 in
theorem y_X12_entryValue {ad : Nat → Nat → Nat → Nat} {h : Hp} {V : Nat → Nat} {h0 : St} {N : Nat} (W : Wf ad h V h0) {a0 a0_ : Nat} {p1 : Int32} {p2 : Int32} {K : Int32 → Prop} {K9 : Int32 → Prop} (hw : z_X12_entryValue N a0_ p1 p2 h0 K9) (hk : ∀ (r0 : Int32), K9 r0 →  K r0) (e0 : a0 = ad 12 a0_ 0) (l0 : a0_ < V 12) : w_X12_entryValue N a0 p1 p2 h K := by
  subst e0
  unfold z_X12_entryValue at hw
  unfold w_X12_entryValue
  refine l_gA W rfl l0 (c := 2) rfl (Or.inr rfl) ?_
  refine l_aI W (f := 14) rfl l0 rfl hw (fun hw => ?_)
  refine l_gA W rfl l0 (c := 2) rfl (Or.inr rfl) ?_
  refine l_aI W (f := 17) rfl l0 rfl hw (fun hw => ?_)
  refine l_gA W rfl l0 (c := 2) rfl (Or.inr rfl) ?_
  refine l_aI W (f := 15) rfl l0 rfl hw (fun hw => ?_)
  refine l_cv W rfl l0 rfl ?_
  refine y_X12_at W hw (fun v1_ hw => ?_) rfl l0
  exact hk _ hw
def z_X12_beginsAt (N : Nat) (a0 : Nat) (p1 : Int32) (h0 : St) (K : St → Prop) : Prop :=
  wA 3 p1 (stP h0 12 a0 47 (p1).toNatClampNeg 0) fun h2 =>
  wA 3 p1 (stP h2 12 a0 48 (p1).toNatClampNeg (-1)) fun h4 =>
  K h4
set_option maxHeartbeats 1000000 in
theorem y_X12_beginsAt {ad : Nat → Nat → Nat → Nat} {h : Hp} {V : Nat → Nat} {h0 : St} {N : Nat} (W : Wf ad h V h0) {a0 a0_ : Nat} {p1 : Int32} {K : Hp → Prop} {K9 : St → Prop} (hw : z_X12_beginsAt N a0_ p1 h0 K9) (hk : ∀ (h9 : Hp) (s9 : St), Wf ad h9 V s9 → K9 s9 →  K h9) (e0 : a0 = ad 12 a0_ 0) (l0 : a0_ < V 12) : w_X12_beginsAt N a0 p1 h K := by
  subst e0
  unfold z_X12_beginsAt at hw
  unfold w_X12_beginsAt
  refine l_gA W rfl l0 (c := 2) rfl (Or.inr rfl) ?_
  refine l_sI W (f := 47) rfl l0 rfl hw (fun h2_ W1_ hw => ?_)
  refine l_gA W1_ rfl l0 (c := 2) rfl (Or.inr rfl) ?_
  refine l_sI W1_ (f := 48) rfl l0 rfl hw (fun h4_ W3_ hw => ?_)
  exact hk _ _ W3_ hw
def z_X12_readsForNothing (N : Nat) (a0 : Nat) (p1 : Int32) (p2 : Int32) (h0 : St) (K : St → Prop) : Prop :=
  wI 3 p1 <|
  wI 3 p1 <|
  br ((sP h0 12 a0 48 (p1).toNatClampNeg) = (-1)) (
    wI 6 (sP h0 12 a0 41 (p1).toNatClampNeg) <|
    br ((sP h0 12 a0 18 ((sP h0 12 a0 41 (p1).toNatClampNeg)).toNatClampNeg) = 0) (
      K h0) (
      jn (fun (v8 : Int32) =>
        wI 6 (sP h0 12 a0 41 (p1).toNatClampNeg) <|
        wI 6 (sP h0 12 a0 41 (p1).toNatClampNeg) <|
        fx2 (fun (w84 : Int32 → Int32 → Prop) (x13 : Int32) (x14 : Int32) =>
          br (x14 < 0) (
            wA 3 p1 (stP h0 12 a0 48 (p1).toNatClampNeg (x13 / 8)) fun h16 =>
            z_X12_looksUp N a0 p2 ((100 * (3 + (sP h0 12 a0 41 (p1).toNatClampNeg))) + (x13 / 8)) h16 fun h17 =>
            K h17) (
            z_X12_entryValue N a0 (sP h0 12 a0 41 (p1).toNatClampNeg) x14 h0 fun v18 =>
            jn (fun (v19 : Int32) =>
              w84 v19 (x14 + (-1))) (fun j108 =>
              br (v18 < v8) (
                j108 x13) (
                j108 x14)))) N ((sP h0 12 a0 18 ((sP h0 12 a0 41 (p1).toNatClampNeg)).toNatClampNeg) - 1) ((sP h0 12 a0 18 ((sP h0 12 a0 41 (p1).toNatClampNeg)).toNatClampNeg) - 1)) (fun j62 =>
        br ((sP h0 12 a0 49 0) = 61) (
          j62 (sP h0 12 a0 50 0)) (
          br ((sP h0 12 a0 49 0) = 60) (
            j62 0) (
            j62 ((sP h0 12 a0 50 0) + 1)))))) (
    K h0)
set_option maxHeartbeats 1000000 in
theorem y_X12_readsForNothing {ad : Nat → Nat → Nat → Nat} {h : Hp} {V : Nat → Nat} {h0 : St} {N : Nat} (W : Wf ad h V h0) {a0 a0_ : Nat} {p1 : Int32} {p2 : Int32} {K : Hp → Prop} {K9 : St → Prop} (hw : z_X12_readsForNothing N a0_ p1 p2 h0 K9) (hk : ∀ (h9 : Hp) (s9 : St), Wf ad h9 V s9 → K9 s9 →  K h9) (e0 : a0 = ad 12 a0_ 0) (l0 : a0_ < V 12) : w_X12_readsForNothing N a0 p1 p2 h K := by
  subst e0
  unfold z_X12_readsForNothing at hw
  unfold w_X12_readsForNothing
  refine l_gA W rfl l0 (c := 2) rfl (Or.inr rfl) ?_
  refine l_aI W (f := 41) rfl l0 rfl hw (fun hw => ?_)
  refine l_gA W rfl l0 (c := 2) rfl (Or.inr rfl) ?_
  refine l_aI W (f := 48) rfl l0 rfl hw (fun hw => ?_)
  refine l_br hw (fun _ hw => ?_) (fun _ hw => ?_)
  ·
    refine l_gA W rfl l0 (c := 2) rfl (Or.inr rfl) ?_
    refine l_aI W (f := 18) rfl l0 rfl hw (fun hw => ?_)
    refine l_br hw (fun _ hw => ?_) (fun _ hw => ?_)
    ·
      exact hk _ _ W hw
    ·
      refine l_gI W rfl l0 rfl ?_
      refine l_jn (fun (r : Int32 → Prop) (r9 : Int32 → Prop) => ∀ (x0 : Int32), r9 x0 → r x0) hw ?_ (fun j2_ j3_ hj4_ hw => ?_)
      ·
        intro x1_ hw
        refine l_gA W rfl l0 (c := 2) rfl (Or.inr rfl) ?_
        refine l_aI W (f := 18) rfl l0 rfl hw (fun hw => ?_)
        refine l_gA W rfl l0 (c := 2) rfl (Or.inr rfl) ?_
        refine l_aI W (f := 18) rfl l0 rfl hw (fun hw => ?_)
        refine l_fx2 (fun (r : Int32 → Int32 → Prop) (r9 : Int32 → Int32 → Prop) => ∀ (x0 : Int32), ∀ (x1 : Int32), r9 x0 x1 → r x0 x1) (fun _ _ h9_ => h9_.elim) ?_ N _ _ hw
        intro w8_ w9_ hv7_ x5_ x6_ hw
        refine l_br hw (fun _ hw => ?_) (fun _ hw => ?_)
        ·
          refine l_gA W rfl l0 (c := 2) rfl (Or.inr rfl) ?_
          refine l_sI W (f := 48) rfl l0 rfl hw (fun h11_ W10_ hw => ?_)
          refine l_cv W10_ rfl l0 rfl ?_
          refine y_X12_looksUp W10_ hw (fun h13_ s14_ W12_ hw => ?_) rfl l0
          exact hk _ _ W12_ hw
        ·
          refine l_cv W rfl l0 rfl ?_
          refine y_X12_entryValue W hw (fun v15_ hw => ?_) rfl l0
          refine l_jn (fun (r : Int32 → Prop) (r9 : Int32 → Prop) => ∀ (x0 : Int32), r9 x0 → r x0) hw ?_ (fun j17_ j18_ hj19_ hw => ?_)
          ·
            intro x16_ hw
            exact hv7_ _ _ hw
          ·
            refine l_br hw (fun _ hw => ?_) (fun _ hw => ?_)
            ·
              exact hj19_ _ hw
            ·
              exact hj19_ _ hw
      ·
        refine l_br hw (fun _ hw => ?_) (fun _ hw => ?_)
        ·
          refine l_gI W rfl l0 rfl ?_
          exact hj4_ _ hw
        ·
          refine l_gI W rfl l0 rfl ?_
          refine l_br hw (fun _ hw => ?_) (fun _ hw => ?_)
          ·
            exact hj4_ _ hw
          ·
            refine l_gI W rfl l0 rfl ?_
            exact hj4_ _ hw
  ·
    exact hk _ _ W hw
def z_X12_nextRow (N : Nat) (a0 : Nat) (p1 : Int32) (p2 : Int32) (p3 : Int32) (h0 : St) (K : Int32 → St → Prop) : Prop :=
  wI 3 p2 <|
  wI 24 ((3 * p1) + (sP h0 12 a0 39 (p2).toNatClampNeg)) <|
  wI 3 p2 <|
  br ((sP h0 12 a0 40 (p2).toNatClampNeg) = 0) (
    wI 3 p2 <|
    wI 3 (sP h0 12 a0 26 (((3 * p1) + (sP h0 12 a0 39 (p2).toNatClampNeg))).toNatClampNeg) <|
    br ((sP h0 12 a0 47 (p2).toNatClampNeg) = (sP h0 12 a0 3 ((sP h0 12 a0 26 (((3 * p1) + (sP h0 12 a0 39 (p2).toNatClampNeg))).toNatClampNeg)).toNatClampNeg)) (
      K (-1) h0) (
      jn (fun (h40 : St) =>
        wI 3 p2 <|
        wA 3 p2 (stP h40 12 a0 47 (p2).toNatClampNeg ((sP h40 12 a0 47 (p2).toNatClampNeg) + 1)) fun h43 =>
        K (sP h0 12 a0 47 (p2).toNatClampNeg) h43) (fun j70 =>
        br (((sP h0 12 a0 47 (p2).toNatClampNeg) - (sP h0 12 a0 47 (p2).toNatClampNeg) / 4 * 4) = 0) (
          z_X12_looksUp N a0 p3 ((100 * (sP h0 12 a0 26 (((3 * p1) + (sP h0 12 a0 39 (p2).toNatClampNeg))).toNatClampNeg)) + ((sP h0 12 a0 47 (p2).toNatClampNeg) / 4)) h0 fun h44 =>
          j70 h44) (
          j70 h0)))) (
    wI 3 p2 <|
    z_X12_wants N a0 p1 p2 h0 fun h9 =>
    fx1 (fun (w97 : St → Prop) (h10 : St) =>
      wI 3 p2 <|
      wI 6 (sP h0 12 a0 41 (p2).toNatClampNeg) <|
      br ((sP h10 12 a0 18 ((sP h0 12 a0 41 (p2).toNatClampNeg)).toNatClampNeg) ≤ (sP h10 12 a0 47 (p2).toNatClampNeg)) (
        z_X12_readsForNothing N a0 p2 p3 h10 fun h15 =>
        K (-1) h15) (
        wI 3 p2 <|
        wI 3 p2 <|
        wA 3 p2 (stP h10 12 a0 47 (p2).toNatClampNeg ((sP h10 12 a0 47 (p2).toNatClampNeg) + 1)) fun h20 =>
        z_X12_entryValue N a0 (sP h0 12 a0 41 (p2).toNatClampNeg) (sP h10 12 a0 47 (p2).toNatClampNeg) h20 fun v23 =>
        z_X12_holds N (sP h20 12 a0 49 0) (sP h20 12 a0 50 0) v23 h20 fun v24 =>
        br (v24 = 0) (
          w97 h20) (
          wI 3 p2 <|
          jn (fun (h27 : St) =>
            wI 240 ((40 * (sP h0 12 a0 41 (p2).toNatClampNeg)) + (sP h10 12 a0 47 (p2).toNatClampNeg)) <|
            z_X12_looksUp N a0 p3 ((100 * (sP h0 12 a0 26 (((3 * p1) + (sP h0 12 a0 39 (p2).toNatClampNeg))).toNatClampNeg)) + ((sP h27 12 a0 17 (((40 * (sP h0 12 a0 41 (p2).toNatClampNeg)) + (sP h10 12 a0 47 (p2).toNatClampNeg))).toNatClampNeg) / 4)) h27 fun h30 =>
            wI 240 ((40 * (sP h0 12 a0 41 (p2).toNatClampNeg)) + (sP h10 12 a0 47 (p2).toNatClampNeg)) <|
            K (sP h30 12 a0 17 (((40 * (sP h0 12 a0 41 (p2).toNatClampNeg)) + (sP h10 12 a0 47 (p2).toNatClampNeg))).toNatClampNeg) h30) (fun j196 =>
            br ((sP h20 12 a0 48 (p2).toNatClampNeg) = ((sP h10 12 a0 47 (p2).toNatClampNeg) / 8)) (
              j196 h20) (
              wA 3 p2 (stP h20 12 a0 48 (p2).toNatClampNeg ((sP h10 12 a0 47 (p2).toNatClampNeg) / 8)) fun h34 =>
              z_X12_looksUp N a0 p3 ((100 * (3 + (sP h0 12 a0 41 (p2).toNatClampNeg))) + ((sP h10 12 a0 47 (p2).toNatClampNeg) / 8)) h34 fun h35 =>
              j196 h35))))) N h9)
set_option maxHeartbeats 1000000 in
theorem y_X12_nextRow {ad : Nat → Nat → Nat → Nat} {h : Hp} {V : Nat → Nat} {h0 : St} {N : Nat} (W : Wf ad h V h0) {a0 a0_ : Nat} {p1 : Int32} {p2 : Int32} {p3 : Int32} {K : Int32 → Hp → Prop} {K9 : Int32 → St → Prop} (hw : z_X12_nextRow N a0_ p1 p2 p3 h0 K9) (hk : ∀ (r0 : Int32), ∀ (h9 : Hp) (s9 : St), Wf ad h9 V s9 → K9 r0 s9 →  K r0 h9) (e0 : a0 = ad 12 a0_ 0) (l0 : a0_ < V 12) : w_X12_nextRow N a0 p1 p2 p3 h K := by
  subst e0
  unfold z_X12_nextRow at hw
  unfold w_X12_nextRow
  refine l_gA W rfl l0 (c := 2) rfl (Or.inr rfl) ?_
  refine l_gA W rfl l0 (c := 2) rfl (Or.inr rfl) ?_
  refine l_aI W (f := 39) rfl l0 rfl hw (fun hw => ?_)
  refine l_aI W (f := 26) rfl l0 rfl hw (fun hw => ?_)
  refine l_gA W rfl l0 (c := 2) rfl (Or.inr rfl) ?_
  refine l_aI W (f := 40) rfl l0 rfl hw (fun hw => ?_)
  refine l_br hw (fun _ hw => ?_) (fun _ hw => ?_)
  ·
    refine l_gA W rfl l0 (c := 2) rfl (Or.inr rfl) ?_
    refine l_aI W (f := 47) rfl l0 rfl hw (fun hw => ?_)
    refine l_gA W rfl l0 (c := 2) rfl (Or.inr rfl) ?_
    refine l_aI W (f := 3) rfl l0 rfl hw (fun hw => ?_)
    refine l_br hw (fun _ hw => ?_) (fun _ hw => ?_)
    ·
      exact hk _ _ _ W hw
    ·
      refine l_jn (fun (r : Hp → Prop) (r9 : St → Prop) => ∀ (h9 : Hp) (s9 : St), Wf ad h9 V s9 → r9 s9 → r h9) hw ?_ (fun j4_ j5_ hj6_ hw => ?_)
      ·
        intro h2_ s3_ W1_ hw
        refine l_gA W1_ rfl l0 (c := 2) rfl (Or.inr rfl) ?_
        refine l_aI W1_ (f := 47) rfl l0 rfl hw (fun hw => ?_)
        refine l_sI W1_ (f := 47) rfl l0 rfl hw (fun h8_ W7_ hw => ?_)
        exact hk _ _ _ W7_ hw
      ·
        refine l_br hw (fun _ hw => ?_) (fun _ hw => ?_)
        ·
          refine l_cv W rfl l0 rfl ?_
          refine y_X12_looksUp W hw (fun h10_ s11_ W9_ hw => ?_) rfl l0
          exact hj6_ _ _ W9_ hw
        ·
          exact hj6_ _ _ W hw
  ·
    refine l_gA W rfl l0 (c := 2) rfl (Or.inr rfl) ?_
    refine l_aI W (f := 41) rfl l0 rfl hw (fun hw => ?_)
    refine l_cv W rfl l0 rfl ?_
    refine y_X12_wants W hw (fun h13_ s14_ W12_ hw => ?_) rfl l0
    refine l_fx1 (fun (r : Hp → Prop) (r9 : St → Prop) => ∀ (h9 : Hp) (s9 : St), Wf ad h9 V s9 → r9 s9 → r h9) (fun _ _ _ h9_ => h9_.elim) ?_ N _ _ W12_ hw
    intro w19_ w20_ hv18_ h16_ s17_ W15_ hw
    refine l_gA W15_ rfl l0 (c := 2) rfl (Or.inr rfl) ?_
    refine l_aI W15_ (f := 47) rfl l0 rfl hw (fun hw => ?_)
    refine l_gA W15_ rfl l0 (c := 2) rfl (Or.inr rfl) ?_
    refine l_aI W15_ (f := 18) rfl l0 rfl hw (fun hw => ?_)
    refine l_br hw (fun _ hw => ?_) (fun _ hw => ?_)
    ·
      refine l_cv W15_ rfl l0 rfl ?_
      refine y_X12_readsForNothing W15_ hw (fun h22_ s23_ W21_ hw => ?_) rfl l0
      exact hk _ _ _ W21_ hw
    ·
      refine l_gA W15_ rfl l0 (c := 2) rfl (Or.inr rfl) ?_
      refine l_aI W15_ (f := 47) rfl l0 rfl hw (fun hw => ?_)
      refine l_gA W15_ rfl l0 (c := 2) rfl (Or.inr rfl) ?_
      refine l_aI W15_ (f := 47) rfl l0 rfl hw (fun hw => ?_)
      refine l_sI W15_ (f := 47) rfl l0 rfl hw (fun h25_ W24_ hw => ?_)
      refine l_gI W24_ rfl l0 rfl ?_
      refine l_gI W24_ rfl l0 rfl ?_
      refine l_cv W24_ rfl l0 rfl ?_
      refine y_X12_entryValue W24_ hw (fun v26_ hw => ?_) rfl l0
      refine y_X12_holds W24_ hw (fun v27_ hw => ?_) 
      refine l_br hw (fun _ hw => ?_) (fun _ hw => ?_)
      ·
        exact hv18_ _ _ W24_ hw
      ·
        refine l_gA W24_ rfl l0 (c := 2) rfl (Or.inr rfl) ?_
        refine l_aI W24_ (f := 48) rfl l0 rfl hw (fun hw => ?_)
        refine l_jn (fun (r : Hp → Prop) (r9 : St → Prop) => ∀ (h9 : Hp) (s9 : St), Wf ad h9 V s9 → r9 s9 → r h9) hw ?_ (fun j31_ j32_ hj33_ hw => ?_)
        ·
          intro h29_ s30_ W28_ hw
          refine l_gA W28_ rfl l0 (c := 2) rfl (Or.inr rfl) ?_
          refine l_aI W28_ (f := 17) rfl l0 rfl hw (fun hw => ?_)
          refine l_cv W28_ rfl l0 rfl ?_
          refine y_X12_looksUp W28_ hw (fun h35_ s36_ W34_ hw => ?_) rfl l0
          refine l_gA W34_ rfl l0 (c := 2) rfl (Or.inr rfl) ?_
          refine l_aI W34_ (f := 17) rfl l0 rfl hw (fun hw => ?_)
          exact hk _ _ _ W34_ hw
        ·
          refine l_br hw (fun _ hw => ?_) (fun _ hw => ?_)
          ·
            exact hj33_ _ _ W24_ hw
          ·
            refine l_gA W24_ rfl l0 (c := 2) rfl (Or.inr rfl) ?_
            refine l_sI W24_ (f := 48) rfl l0 rfl hw (fun h38_ W37_ hw => ?_)
            refine l_cv W37_ rfl l0 rfl ?_
            refine y_X12_looksUp W37_ hw (fun h40_ s41_ W39_ hw => ?_) rfl l0
            exact hj33_ _ _ W39_ hw
def z_X12_runs (N : Nat) (a0 : Nat) (p1 : Int32) (p2 : Int32) (p3 : Int32) (p4 : Int32) (h0 : St) (K : St → Prop) : Prop :=
  z_X12_plans N a0 p1 p2 p3 h0 fun h1 =>
  fx2 (fun (w10 : Int32 → St → Prop) (x3 : Int32) (h2 : St) =>
    br ((sP h2 12 a0 13 0) ≤ x3) (
      lt_ (stP h2 12 a0 22 0 0) fun h5 =>
      lt_ (stP h5 12 a0 23 0 0) fun h6 =>
      z_X12_choosesNone N a0 h6 fun h7 =>
      z_X12_beginsAt N a0 0 h7 fun h8 =>
      fx2 (fun (w53 : Int32 → St → Prop) (x10 : Int32) (h9 : St) =>
        br (x10 < 0) (
          K h9) (
          wI 3 x10 <|
          wA 3 (sP h9 12 a0 39 (x10).toNatClampNeg) (stP h9 12 a0 37 ((sP h9 12 a0 39 (x10).toNatClampNeg)).toNatClampNeg (-1)) fun h14 =>
          z_X12_nextRow N a0 p2 x10 p4 h14 fun v15 h16 =>
          jn (fun (x18 : Int32) (h17 : St) =>
            w53 x18 h17) (fun j138 =>
            br (0 ≤ v15) (
              wA 3 (sP h9 12 a0 39 (x10).toNatClampNeg) (stP h16 12 a0 37 ((sP h9 12 a0 39 (x10).toNatClampNeg)).toNatClampNeg v15) fun h20 =>
              z_X12_fits N a0 p2 (sP h9 12 a0 39 (x10).toNatClampNeg) h20 fun v21 =>
              br (v21 = 0) (
                j138 x10 h20) (
                wI 8 p2 <|
                br (((sP h20 12 a0 25 (p2).toNatClampNeg) - 1) ≤ x10) (
                  j138 x10 h20) (
                  z_X12_beginsAt N a0 (x10 + 1) h20 fun h24 =>
                  j138 (x10 + 1) h24))) (
              j138 (x10 + (-1)) h16)))) N 0 h8) (
      z_X12_lists N a0 x3 h2 fun h25 =>
      w10 (x3 + 1) h25)) N 0 h1
set_option maxHeartbeats 1000000 in
theorem y_X12_runs {ad : Nat → Nat → Nat → Nat} {h : Hp} {V : Nat → Nat} {h0 : St} {N : Nat} (W : Wf ad h V h0) {a0 a0_ : Nat} {p1 : Int32} {p2 : Int32} {p3 : Int32} {p4 : Int32} {K : Hp → Prop} {K9 : St → Prop} (hw : z_X12_runs N a0_ p1 p2 p3 p4 h0 K9) (hk : ∀ (h9 : Hp) (s9 : St), Wf ad h9 V s9 → K9 s9 →  K h9) (e0 : a0 = ad 12 a0_ 0) (l0 : a0_ < V 12) : w_X12_runs N a0 p1 p2 p3 p4 h K := by
  subst e0
  unfold z_X12_runs at hw
  unfold w_X12_runs
  refine l_cv W rfl l0 rfl ?_
  refine y_X12_plans W hw (fun h2_ s3_ W1_ hw => ?_) rfl l0
  refine l_fx2 (fun (r : Int32 → Hp → Prop) (r9 : Int32 → St → Prop) => ∀ (x0 : Int32), ∀ (h9 : Hp) (s9 : St), Wf ad h9 V s9 → r9 x0 s9 → r x0 h9) (fun _ _ _ _ h9_ => h9_.elim) ?_ N _ _ _ W1_ hw
  intro w9_ w10_ hv8_ x4_ h6_ s7_ W5_ hw
  refine l_gI W5_ rfl l0 rfl ?_
  refine l_br hw (fun _ hw => ?_) (fun _ hw => ?_)
  ·
    refine l_pI W5_ rfl l0 rfl hw (fun h12_ W11_ hw => ?_)
    refine l_pI W11_ rfl l0 rfl hw (fun h14_ W13_ hw => ?_)
    refine l_cv W13_ rfl l0 rfl ?_
    refine y_X12_choosesNone W13_ hw (fun h16_ s17_ W15_ hw => ?_) rfl l0
    refine l_cv W15_ rfl l0 rfl ?_
    refine y_X12_beginsAt W15_ hw (fun h19_ s20_ W18_ hw => ?_) rfl l0
    refine l_fx2 (fun (r : Int32 → Hp → Prop) (r9 : Int32 → St → Prop) => ∀ (x0 : Int32), ∀ (h9 : Hp) (s9 : St), Wf ad h9 V s9 → r9 x0 s9 → r x0 h9) (fun _ _ _ _ h9_ => h9_.elim) ?_ N _ _ _ W18_ hw
    intro w26_ w27_ hv25_ x21_ h23_ s24_ W22_ hw
    refine l_br hw (fun _ hw => ?_) (fun _ hw => ?_)
    ·
      exact hk _ _ W22_ hw
    ·
      refine l_gA W22_ rfl l0 (c := 2) rfl (Or.inr rfl) ?_
      refine l_aI W22_ (f := 39) rfl l0 rfl hw (fun hw => ?_)
      refine l_gA W22_ rfl l0 (c := 2) rfl (Or.inr rfl) ?_
      refine l_sI W22_ (f := 37) rfl l0 rfl hw (fun h29_ W28_ hw => ?_)
      refine l_cv W28_ rfl l0 rfl ?_
      refine y_X12_nextRow W28_ hw (fun v30_ h32_ s33_ W31_ hw => ?_) rfl l0
      refine l_jn (fun (r : Int32 → Hp → Prop) (r9 : Int32 → St → Prop) => ∀ (x0 : Int32), ∀ (h9 : Hp) (s9 : St), Wf ad h9 V s9 → r9 x0 s9 → r x0 h9) hw ?_ (fun j38_ j39_ hj40_ hw => ?_)
      ·
        intro x34_ h36_ s37_ W35_ hw
        exact hv25_ _ _ _ W35_ hw
      ·
        refine l_br hw (fun _ hw => ?_) (fun _ hw => ?_)
        ·
          refine l_gA W31_ rfl l0 (c := 2) rfl (Or.inr rfl) ?_
          refine l_sI W31_ (f := 37) rfl l0 rfl hw (fun h42_ W41_ hw => ?_)
          refine l_cv W41_ rfl l0 rfl ?_
          refine y_X12_fits W41_ hw (fun v43_ hw => ?_) rfl l0
          refine l_br hw (fun _ hw => ?_) (fun _ hw => ?_)
          ·
            exact hj40_ _ _ _ W41_ hw
          ·
            refine l_gA W41_ rfl l0 (c := 2) rfl (Or.inr rfl) ?_
            refine l_aI W41_ (f := 25) rfl l0 rfl hw (fun hw => ?_)
            refine l_br hw (fun _ hw => ?_) (fun _ hw => ?_)
            ·
              exact hj40_ _ _ _ W41_ hw
            ·
              refine l_cv W41_ rfl l0 rfl ?_
              refine y_X12_beginsAt W41_ hw (fun h45_ s46_ W44_ hw => ?_) rfl l0
              exact hj40_ _ _ _ W44_ hw
        ·
          exact hj40_ _ _ _ W31_ hw
  ·
    refine l_cv W5_ rfl l0 rfl ?_
    refine y_X12_lists W5_ hw (fun h48_ s49_ W47_ hw => ?_) rfl l0
    exact hv8_ _ _ _ W47_ hw
def z_X12_triesCold (N : Nat) (a0 : Nat) (p1 : Int32) (p2 : Int32) (p3 : Int32) (h0 : St) (K : St → Prop) : Prop :=
  wA 2 (1 : Int32) (stP h0 12 a0 21 ((1 : Int32)).toNatClampNeg 0) fun h2 =>
  z_X12_runs N a0 p1 p2 p3 1 h2 fun h3 =>
  K h3
set_option maxHeartbeats 1000000 in
theorem y_X12_triesCold {ad : Nat → Nat → Nat → Nat} {h : Hp} {V : Nat → Nat} {h0 : St} {N : Nat} (W : Wf ad h V h0) {a0 a0_ : Nat} {p1 : Int32} {p2 : Int32} {p3 : Int32} {K : Hp → Prop} {K9 : St → Prop} (hw : z_X12_triesCold N a0_ p1 p2 p3 h0 K9) (hk : ∀ (h9 : Hp) (s9 : St), Wf ad h9 V s9 → K9 s9 →  K h9) (e0 : a0 = ad 12 a0_ 0) (l0 : a0_ < V 12) : w_X12_triesCold N a0 p1 p2 p3 h K := by
  subst e0
  unfold z_X12_triesCold at hw
  unfold w_X12_triesCold
  refine l_gA W rfl l0 (c := 2) rfl (Or.inr rfl) ?_
  refine l_sI W (f := 21) rfl l0 rfl hw (fun h2_ W1_ hw => ?_)
  refine l_cv W1_ rfl l0 rfl ?_
  refine y_X12_runs W1_ hw (fun h4_ s5_ W3_ hw => ?_) rfl l0
  exact hk _ _ W3_ hw
def z_X12_cold (N : Nat) (a0 : Nat) (p1 : Int32) (p2 : Int32) (h0 : St) (K : Int32 → St → Prop) : Prop :=
  lt_ (stP h0 12 a0 0 0 0) fun h1 =>
  z_X12_noPlan N a0 p1 p2 h1 fun v2 h3 =>
  br (v2 = 0) (
    wI 2 p1 <|
    z_X12_triesCold N a0 p1 p2 (sP h3 12 a0 46 (p1).toNatClampNeg) h3 fun h6 =>
    K (sP h6 12 a0 22 0) h6) (
    K (-1) h3)
set_option maxHeartbeats 1000000 in
theorem y_X12_cold {ad : Nat → Nat → Nat → Nat} {h : Hp} {V : Nat → Nat} {h0 : St} {N : Nat} (W : Wf ad h V h0) {a0 a0_ : Nat} {p1 : Int32} {p2 : Int32} {K : Int32 → Hp → Prop} {K9 : Int32 → St → Prop} (hw : z_X12_cold N a0_ p1 p2 h0 K9) (hk : ∀ (r0 : Int32), ∀ (h9 : Hp) (s9 : St), Wf ad h9 V s9 → K9 r0 s9 →  K r0 h9) (e0 : a0 = ad 12 a0_ 0) (l0 : a0_ < V 12) : w_X12_cold N a0 p1 p2 h K := by
  subst e0
  unfold z_X12_cold at hw
  unfold w_X12_cold
  refine l_pI W rfl l0 rfl hw (fun h2_ W1_ hw => ?_)
  refine l_cv W1_ rfl l0 rfl ?_
  refine y_X12_noPlan W1_ hw (fun v3_ h5_ s6_ W4_ hw => ?_) rfl l0
  refine l_br hw (fun _ hw => ?_) (fun _ hw => ?_)
  ·
    refine l_gA W4_ rfl l0 (c := 2) rfl (Or.inr rfl) ?_
    refine l_aI W4_ (f := 46) rfl l0 rfl hw (fun hw => ?_)
    refine l_cv W4_ rfl l0 rfl ?_
    refine y_X12_triesCold W4_ hw (fun h8_ s9_ W7_ hw => ?_) rfl l0
    refine l_gI W7_ rfl l0 rfl ?_
    exact hk _ _ _ W7_ hw
  ·
    exact hk _ _ _ W4_ hw
def z_X12_reads (N : Nat) (a0 : Nat) (p1 : Int32) (p2 : Int32) (h0 : St) (K : Int32 → St → Prop) : Prop :=
  lt_ (stP h0 12 a0 0 0 0) fun h1 =>
  z_X12_noPlan N a0 p1 p2 h1 fun v2 h3 =>
  br (v2 = 0) (
    wI 2 p1 <|
    z_X12_triesCold N a0 p1 p2 (sP h3 12 a0 46 (p1).toNatClampNeg) h3 fun h6 =>
    K (sP h6 12 a0 23 0) h6) (
    K (-1) h3)
set_option maxHeartbeats 1000000 in
theorem y_X12_reads {ad : Nat → Nat → Nat → Nat} {h : Hp} {V : Nat → Nat} {h0 : St} {N : Nat} (W : Wf ad h V h0) {a0 a0_ : Nat} {p1 : Int32} {p2 : Int32} {K : Int32 → Hp → Prop} {K9 : Int32 → St → Prop} (hw : z_X12_reads N a0_ p1 p2 h0 K9) (hk : ∀ (r0 : Int32), ∀ (h9 : Hp) (s9 : St), Wf ad h9 V s9 → K9 r0 s9 →  K r0 h9) (e0 : a0 = ad 12 a0_ 0) (l0 : a0_ < V 12) : w_X12_reads N a0 p1 p2 h K := by
  subst e0
  unfold z_X12_reads at hw
  unfold w_X12_reads
  refine l_pI W rfl l0 rfl hw (fun h2_ W1_ hw => ?_)
  refine l_cv W1_ rfl l0 rfl ?_
  refine y_X12_noPlan W1_ hw (fun v3_ h5_ s6_ W4_ hw => ?_) rfl l0
  refine l_br hw (fun _ hw => ?_) (fun _ hw => ?_)
  ·
    refine l_gA W4_ rfl l0 (c := 2) rfl (Or.inr rfl) ?_
    refine l_aI W4_ (f := 46) rfl l0 rfl hw (fun hw => ?_)
    refine l_cv W4_ rfl l0 rfl ?_
    refine y_X12_triesCold W4_ hw (fun h8_ s9_ W7_ hw => ?_) rfl l0
    refine l_gI W7_ rfl l0 rfl ?_
    exact hk _ _ _ W7_ hw
  ·
    exact hk _ _ _ W4_ hw
def z_X12_ones (N : Nat) (p0 : Int32) (h0 : St) (K : Int32 → Prop) : Prop :=
  fx2 (fun (w4 : Int32 → Int32 → Prop) (x1 : Int32) (x2 : Int32) =>
    br (6 ≤ x2) (
      K x1) (
      w4 (x1 + ((p0 >>> (x2 &&& 31)) &&& 1)) (x2 + 1))) N 0 0
set_option maxHeartbeats 1000000 in
theorem y_X12_ones {ad : Nat → Nat → Nat → Nat} {h : Hp} {V : Nat → Nat} {h0 : St} {N : Nat} (W : Wf ad h V h0) {p0 : Int32} {K : Int32 → Prop} {K9 : Int32 → Prop} (hw : z_X12_ones N p0 h0 K9) (hk : ∀ (r0 : Int32), K9 r0 →  K r0)  : w_X12_ones N p0 h K := by
  unfold z_X12_ones at hw
  unfold w_X12_ones
  refine l_fx2 (fun (r : Int32 → Int32 → Prop) (r9 : Int32 → Int32 → Prop) => ∀ (x0 : Int32), ∀ (x1 : Int32), r9 x0 x1 → r x0 x1) (fun _ _ h9_ => h9_.elim) ?_ N _ _ hw
  intro w4_ w5_ hv3_ x1_ x2_ hw
  refine l_br hw (fun _ hw => ?_) (fun _ hw => ?_)
  ·
    exact hk _ hw
  ·
    exact hv3_ _ _ hw
def z_X12_ban (N : Nat) (a0 : Nat) (p1 : Int32) (p2 : Int32) (h0 : St) (K : Int32 → St → Prop) : Prop :=
  lt_ (stP h0 12 a0 0 0 0) fun h1 =>
  z_X12_in N p1 0 1 h1 fun v2 =>
  jn (fun (v3 : Int32) =>
    z_X12_fails N a0 v3 1 h1 fun v4 h5 =>
    br (v4 = 0) (
      z_X12_isIndex N a0 p2 h5 fun v6 =>
      jn (fun (v7 : Int32) =>
        z_X12_fails N a0 v7 2 h5 fun v8 h9 =>
        br (v8 = 0) (
          wI 2 (1 - p1) <|
          jn (fun (v12 : Int32) =>
            z_X12_fails N a0 v12 3 h9 fun v13 h14 =>
            br (v13 = 0) (
              wI 2 p1 <|
              jn (fun (v17 : Int32) =>
                z_X12_fails N a0 v17 4 h14 fun v18 h19 =>
                br (v18 = 0) (
                  wI 2 (1 - p1) <|
                  wA 2 (1 - p1) (stP h19 12 a0 46 ((1 - p1)).toNatClampNeg ((sP h19 12 a0 46 ((1 - p1)).toNatClampNeg) ||| (1 <<< (p2 &&& 31)))) fun h22 =>
                  wI 2 p1 <|
                  wA 2 p1 (stP h22 12 a0 51 (p1).toNatClampNeg ((sP h22 12 a0 51 (p1).toNatClampNeg) - 2)) fun h25 =>
                  wI 2 p1 <|
                  K (sP h25 12 a0 51 (p1).toNatClampNeg) h25) (
                  K (-1) h19)) (fun j105 =>
                br (2 ≤ (sP h14 12 a0 51 (p1).toNatClampNeg)) (
                  j105 0) (
                  j105 1))) (
              K (-1) h14)) (fun j82 =>
            jn (
              j82 1) (fun j77 =>
              br ((((sP h9 12 a0 46 ((1 - p1)).toNatClampNeg) >>> (p2 &&& 31)) &&& 1) = 1) (
                j77 ) (
                z_X12_ones N (sP h9 12 a0 46 ((1 - p1)).toNatClampNeg) h9 fun v28 =>
                br (v28 = 2) (
                  j77 ) (
                  j82 0))))) (
          K (-1) h9)) (fun j41 =>
        br (v6 = 0) (
          j41 1) (
          j41 0))) (
      K (-1) h5)) (fun j20 =>
    br (v2 = 0) (
      j20 1) (
      j20 0))
set_option maxHeartbeats 1000000 in
theorem y_X12_ban {ad : Nat → Nat → Nat → Nat} {h : Hp} {V : Nat → Nat} {h0 : St} {N : Nat} (W : Wf ad h V h0) {a0 a0_ : Nat} {p1 : Int32} {p2 : Int32} {K : Int32 → Hp → Prop} {K9 : Int32 → St → Prop} (hw : z_X12_ban N a0_ p1 p2 h0 K9) (hk : ∀ (r0 : Int32), ∀ (h9 : Hp) (s9 : St), Wf ad h9 V s9 → K9 r0 s9 →  K r0 h9) (e0 : a0 = ad 12 a0_ 0) (l0 : a0_ < V 12) : w_X12_ban N a0 p1 p2 h K := by
  subst e0
  unfold z_X12_ban at hw
  unfold w_X12_ban
  refine l_pI W rfl l0 rfl hw (fun h2_ W1_ hw => ?_)
  refine y_X12_in W1_ hw (fun v3_ hw => ?_) 
  refine l_jn (fun (r : Int32 → Prop) (r9 : Int32 → Prop) => ∀ (x0 : Int32), r9 x0 → r x0) hw ?_ (fun j5_ j6_ hj7_ hw => ?_)
  ·
    intro x4_ hw
    refine l_cv W1_ rfl l0 rfl ?_
    refine y_X12_fails W1_ hw (fun v8_ h10_ s11_ W9_ hw => ?_) rfl l0
    refine l_br hw (fun _ hw => ?_) (fun _ hw => ?_)
    ·
      refine l_cv W9_ rfl l0 rfl ?_
      refine y_X12_isIndex W9_ hw (fun v12_ hw => ?_) rfl l0
      refine l_jn (fun (r : Int32 → Prop) (r9 : Int32 → Prop) => ∀ (x0 : Int32), r9 x0 → r x0) hw ?_ (fun j14_ j15_ hj16_ hw => ?_)
      ·
        intro x13_ hw
        refine l_cv W9_ rfl l0 rfl ?_
        refine y_X12_fails W9_ hw (fun v17_ h19_ s20_ W18_ hw => ?_) rfl l0
        refine l_br hw (fun _ hw => ?_) (fun _ hw => ?_)
        ·
          refine l_gA W18_ rfl l0 (c := 2) rfl (Or.inr rfl) ?_
          refine l_aI W18_ (f := 46) rfl l0 rfl hw (fun hw => ?_)
          refine l_jn (fun (r : Int32 → Prop) (r9 : Int32 → Prop) => ∀ (x0 : Int32), r9 x0 → r x0) hw ?_ (fun j22_ j23_ hj24_ hw => ?_)
          ·
            intro x21_ hw
            refine l_cv W18_ rfl l0 rfl ?_
            refine y_X12_fails W18_ hw (fun v25_ h27_ s28_ W26_ hw => ?_) rfl l0
            refine l_br hw (fun _ hw => ?_) (fun _ hw => ?_)
            ·
              refine l_gA W26_ rfl l0 (c := 2) rfl (Or.inr rfl) ?_
              refine l_aI W26_ (f := 51) rfl l0 rfl hw (fun hw => ?_)
              refine l_jn (fun (r : Int32 → Prop) (r9 : Int32 → Prop) => ∀ (x0 : Int32), r9 x0 → r x0) hw ?_ (fun j30_ j31_ hj32_ hw => ?_)
              ·
                intro x29_ hw
                refine l_cv W26_ rfl l0 rfl ?_
                refine y_X12_fails W26_ hw (fun v33_ h35_ s36_ W34_ hw => ?_) rfl l0
                refine l_br hw (fun _ hw => ?_) (fun _ hw => ?_)
                ·
                  refine l_gA W34_ rfl l0 (c := 2) rfl (Or.inr rfl) ?_
                  refine l_aI W34_ (f := 46) rfl l0 rfl hw (fun hw => ?_)
                  refine l_sI W34_ (f := 46) rfl l0 rfl hw (fun h38_ W37_ hw => ?_)
                  refine l_gA W37_ rfl l0 (c := 2) rfl (Or.inr rfl) ?_
                  refine l_aI W37_ (f := 51) rfl l0 rfl hw (fun hw => ?_)
                  refine l_sI W37_ (f := 51) rfl l0 rfl hw (fun h40_ W39_ hw => ?_)
                  refine l_gA W39_ rfl l0 (c := 2) rfl (Or.inr rfl) ?_
                  refine l_aI W39_ (f := 51) rfl l0 rfl hw (fun hw => ?_)
                  exact hk _ _ _ W39_ hw
                ·
                  exact hk _ _ _ W34_ hw
              ·
                refine l_br hw (fun _ hw => ?_) (fun _ hw => ?_)
                ·
                  exact hj32_ _ hw
                ·
                  exact hj32_ _ hw
            ·
              exact hk _ _ _ W26_ hw
          ·
            refine l_jn (fun (r : Prop) (r9 : Prop) =>  r9  → r ) hw ?_ (fun j41_ j42_ hj43_ hw => ?_)
            ·
              intro hw
              exact hj24_ _ hw
            ·
              refine l_br hw (fun _ hw => ?_) (fun _ hw => ?_)
              ·
                exact hj43_  hw
              ·
                refine y_X12_ones W18_ hw (fun v44_ hw => ?_) 
                refine l_br hw (fun _ hw => ?_) (fun _ hw => ?_)
                ·
                  exact hj43_  hw
                ·
                  exact hj24_ _ hw
        ·
          exact hk _ _ _ W18_ hw
      ·
        refine l_br hw (fun _ hw => ?_) (fun _ hw => ?_)
        ·
          exact hj16_ _ hw
        ·
          exact hj16_ _ hw
    ·
      exact hk _ _ _ W9_ hw
  ·
    refine l_br hw (fun _ hw => ?_) (fun _ hw => ?_)
    ·
      exact hj7_ _ hw
    ·
      exact hj7_ _ hw
def z_X12_winnerOf (N : Nat) (a0 : Nat) (p1 : Int32) (h0 : St) (K : Int32 → Prop) : Prop :=
  wI 1200 (2 * p1) <|
  wI 1200 ((2 * p1) + 1) <|
  br ((sP h0 12 a0 53 (((2 * p1) + 1)).toNatClampNeg) ≤ (sP h0 12 a0 53 ((2 * p1)).toNatClampNeg)) (
    br ((sP h0 12 a0 53 ((2 * p1)).toNatClampNeg) ≤ (sP h0 12 a0 53 (((2 * p1) + 1)).toNatClampNeg)) (
      K (-1)) (
      K 1)) (
    K 0)
set_option maxHeartbeats 1000000 in
theorem y_X12_winnerOf {ad : Nat → Nat → Nat → Nat} {h : Hp} {V : Nat → Nat} {h0 : St} {N : Nat} (W : Wf ad h V h0) {a0 a0_ : Nat} {p1 : Int32} {K : Int32 → Prop} {K9 : Int32 → Prop} (hw : z_X12_winnerOf N a0_ p1 h0 K9) (hk : ∀ (r0 : Int32), K9 r0 →  K r0) (e0 : a0 = ad 12 a0_ 0) (l0 : a0_ < V 12) : w_X12_winnerOf N a0 p1 h K := by
  subst e0
  unfold z_X12_winnerOf at hw
  unfold w_X12_winnerOf
  refine l_gA W rfl l0 (c := 2) rfl (Or.inr rfl) ?_
  refine l_aI W (f := 53) rfl l0 rfl hw (fun hw => ?_)
  refine l_gA W rfl l0 (c := 2) rfl (Or.inr rfl) ?_
  refine l_aI W (f := 53) rfl l0 rfl hw (fun hw => ?_)
  refine l_br hw (fun _ hw => ?_) (fun _ hw => ?_)
  ·
    refine l_br hw (fun _ hw => ?_) (fun _ hw => ?_)
    ·
      exact hk _ hw
    ·
      exact hk _ hw
  ·
    exact hk _ hw
def z_X12_pays (N : Nat) (a0 : Nat) (p1 : Int32) (p2 : Int32) (h0 : St) (K : St → Prop) : Prop :=
  fx2 (fun (w2 : Int32 → St → Prop) (x2 : Int32) (h1 : St) =>
    br (2 ≤ x2) (
      K h1) (
      wI 2 x2 <|
      jn (fun (v6 : Int32) =>
        z_X12_most N 0 ((sP h1 12 a0 51 (x2).toNatClampNeg) + (p2 * v6)) h1 fun v7 =>
        wA 2 x2 (stP h1 12 a0 51 (x2).toNatClampNeg v7) fun h8 =>
        w2 (x2 + 1) h8) (fun j39 =>
        br (p1 = (-1)) (
          j39 1) (
          br (p1 = x2) (
            j39 3) (
            j39 0))))) N 0 h0
set_option maxHeartbeats 1000000 in
theorem y_X12_pays {ad : Nat → Nat → Nat → Nat} {h : Hp} {V : Nat → Nat} {h0 : St} {N : Nat} (W : Wf ad h V h0) {a0 a0_ : Nat} {p1 : Int32} {p2 : Int32} {K : Hp → Prop} {K9 : St → Prop} (hw : z_X12_pays N a0_ p1 p2 h0 K9) (hk : ∀ (h9 : Hp) (s9 : St), Wf ad h9 V s9 → K9 s9 →  K h9) (e0 : a0 = ad 12 a0_ 0) (l0 : a0_ < V 12) : w_X12_pays N a0 p1 p2 h K := by
  subst e0
  unfold z_X12_pays at hw
  unfold w_X12_pays
  refine l_fx2 (fun (r : Int32 → Hp → Prop) (r9 : Int32 → St → Prop) => ∀ (x0 : Int32), ∀ (h9 : Hp) (s9 : St), Wf ad h9 V s9 → r9 x0 s9 → r x0 h9) (fun _ _ _ _ h9_ => h9_.elim) ?_ N _ _ _ W hw
  intro w6_ w7_ hv5_ x1_ h3_ s4_ W2_ hw
  refine l_br hw (fun _ hw => ?_) (fun _ hw => ?_)
  ·
    exact hk _ _ W2_ hw
  ·
    refine l_gA W2_ rfl l0 (c := 2) rfl (Or.inr rfl) ?_
    refine l_gA W2_ rfl l0 (c := 2) rfl (Or.inr rfl) ?_
    refine l_aI W2_ (f := 51) rfl l0 rfl hw (fun hw => ?_)
    refine l_jn (fun (r : Int32 → Prop) (r9 : Int32 → Prop) => ∀ (x0 : Int32), r9 x0 → r x0) hw ?_ (fun j9_ j10_ hj11_ hw => ?_)
    ·
      intro x8_ hw
      refine y_X12_most W2_ hw (fun v12_ hw => ?_) 
      refine l_sI W2_ (f := 51) rfl l0 rfl hw (fun h14_ W13_ hw => ?_)
      exact hv5_ _ _ _ W13_ hw
    ·
      refine l_br hw (fun _ hw => ?_) (fun _ hw => ?_)
      ·
        exact hj11_ _ hw
      ·
        refine l_br hw (fun _ hw => ?_) (fun _ hw => ?_)
        ·
          exact hj11_ _ hw
        ·
          exact hj11_ _ hw
def z_X12_round (N : Nat) (a0 : Nat) (p1 : Int32) (h0 : St) (K : Int32 → St → Prop) : Prop :=
  lt_ (stP h0 12 a0 0 0 0) fun h1 =>
  z_X12_isQuery N a0 p1 h1 fun v2 =>
  jn (fun (v3 : Int32) =>
    z_X12_fails N a0 v3 1 h1 fun v4 h5 =>
    br (v4 = 0) (
      wI 8 p1 <|
      jn (fun (v8 : Int32) =>
        z_X12_fails N a0 v8 2 h5 fun v9 h10 =>
        br (v9 = 0) (
          wI 2 ((sP h10 12 a0 52 0) - (sP h10 12 a0 52 0) / 2 * 2) <|
          z_X12_runs N a0 ((sP h10 12 a0 52 0) - (sP h10 12 a0 52 0) / 2 * 2) p1 (sP h10 12 a0 46 (((sP h10 12 a0 52 0) - (sP h10 12 a0 52 0) / 2 * 2)).toNatClampNeg) 0 h10 fun h14 =>
          wA 1200 ((2 * (sP h14 12 a0 52 0)) + ((sP h10 12 a0 52 0) - (sP h10 12 a0 52 0) / 2 * 2)) (stP h14 12 a0 53 (((2 * (sP h14 12 a0 52 0)) + ((sP h10 12 a0 52 0) - (sP h10 12 a0 52 0) / 2 * 2))).toNatClampNeg (sP h14 12 a0 22 0)) fun h18 =>
          wI 2 (1 - ((sP h10 12 a0 52 0) - (sP h10 12 a0 52 0) / 2 * 2)) <|
          z_X12_runs N a0 (1 - ((sP h10 12 a0 52 0) - (sP h10 12 a0 52 0) / 2 * 2)) p1 (sP h18 12 a0 46 ((1 - ((sP h10 12 a0 52 0) - (sP h10 12 a0 52 0) / 2 * 2))).toNatClampNeg) 0 h18 fun h21 =>
          wA 1200 (((2 * (sP h21 12 a0 52 0)) + 1) - ((sP h10 12 a0 52 0) - (sP h10 12 a0 52 0) / 2 * 2)) (stP h21 12 a0 53 ((((2 * (sP h21 12 a0 52 0)) + 1) - ((sP h10 12 a0 52 0) - (sP h10 12 a0 52 0) / 2 * 2))).toNatClampNeg (sP h21 12 a0 22 0)) fun h25 =>
          lt_ (stP h25 12 a0 52 0 ((sP h25 12 a0 52 0) + 1)) fun h27 =>
          z_X12_winnerOf N a0 ((sP h27 12 a0 52 0) - 1) h27 fun v29 =>
          z_X12_pays N a0 v29 1 h27 fun h30 =>
          lt_ (stP h30 12 a0 55 0 p1) fun h31 =>
          fx2 (fun (w155 : Int32 → St → Prop) (x33 : Int32) (h32 : St) =>
            br (2 ≤ x33) (
              lt_ (stP h32 12 a0 16 0 1) fun h34 =>
              z_X12_winnerOf N a0 ((sP h34 12 a0 52 0) - 1) h34 fun v36 =>
              K v36 h34) (
              wI 2 x33 <|
              wA 2 x33 (stP h32 12 a0 54 (x33).toNatClampNeg (sP h32 12 a0 46 (x33).toNatClampNeg)) fun h40 =>
              wA 2 x33 (stP h40 12 a0 46 (x33).toNatClampNeg 0) fun h42 =>
              w155 (x33 + 1) h42)) N 0 h31) (
          K (-1) h10)) (fun j41 =>
        br ((sP h5 12 a0 25 (p1).toNatClampNeg) = 0) (
          j41 1) (
          j41 0))) (
      K (-1) h5)) (fun j19 =>
    br (v2 = 0) (
      j19 1) (
      j19 0))
set_option maxHeartbeats 1000000 in
theorem y_X12_round {ad : Nat → Nat → Nat → Nat} {h : Hp} {V : Nat → Nat} {h0 : St} {N : Nat} (W : Wf ad h V h0) {a0 a0_ : Nat} {p1 : Int32} {K : Int32 → Hp → Prop} {K9 : Int32 → St → Prop} (hw : z_X12_round N a0_ p1 h0 K9) (hk : ∀ (r0 : Int32), ∀ (h9 : Hp) (s9 : St), Wf ad h9 V s9 → K9 r0 s9 →  K r0 h9) (e0 : a0 = ad 12 a0_ 0) (l0 : a0_ < V 12) : w_X12_round N a0 p1 h K := by
  subst e0
  unfold z_X12_round at hw
  unfold w_X12_round
  refine l_pI W rfl l0 rfl hw (fun h2_ W1_ hw => ?_)
  refine l_cv W1_ rfl l0 rfl ?_
  refine y_X12_isQuery W1_ hw (fun v3_ hw => ?_) rfl l0
  refine l_jn (fun (r : Int32 → Prop) (r9 : Int32 → Prop) => ∀ (x0 : Int32), r9 x0 → r x0) hw ?_ (fun j5_ j6_ hj7_ hw => ?_)
  ·
    intro x4_ hw
    refine l_cv W1_ rfl l0 rfl ?_
    refine y_X12_fails W1_ hw (fun v8_ h10_ s11_ W9_ hw => ?_) rfl l0
    refine l_br hw (fun _ hw => ?_) (fun _ hw => ?_)
    ·
      refine l_gA W9_ rfl l0 (c := 2) rfl (Or.inr rfl) ?_
      refine l_aI W9_ (f := 25) rfl l0 rfl hw (fun hw => ?_)
      refine l_jn (fun (r : Int32 → Prop) (r9 : Int32 → Prop) => ∀ (x0 : Int32), r9 x0 → r x0) hw ?_ (fun j13_ j14_ hj15_ hw => ?_)
      ·
        intro x12_ hw
        refine l_cv W9_ rfl l0 rfl ?_
        refine y_X12_fails W9_ hw (fun v16_ h18_ s19_ W17_ hw => ?_) rfl l0
        refine l_br hw (fun _ hw => ?_) (fun _ hw => ?_)
        ·
          refine l_gI W17_ rfl l0 rfl ?_
          refine l_gA W17_ rfl l0 (c := 2) rfl (Or.inr rfl) ?_
          refine l_aI W17_ (f := 46) rfl l0 rfl hw (fun hw => ?_)
          refine l_cv W17_ rfl l0 rfl ?_
          refine y_X12_runs W17_ hw (fun h21_ s22_ W20_ hw => ?_) rfl l0
          refine l_gA W20_ rfl l0 (c := 2) rfl (Or.inr rfl) ?_
          refine l_gI W20_ rfl l0 rfl ?_
          refine l_gI W20_ rfl l0 rfl ?_
          refine l_sI W20_ (f := 53) rfl l0 rfl hw (fun h24_ W23_ hw => ?_)
          refine l_gA W23_ rfl l0 (c := 2) rfl (Or.inr rfl) ?_
          refine l_aI W23_ (f := 46) rfl l0 rfl hw (fun hw => ?_)
          refine l_cv W23_ rfl l0 rfl ?_
          refine y_X12_runs W23_ hw (fun h26_ s27_ W25_ hw => ?_) rfl l0
          refine l_gA W25_ rfl l0 (c := 2) rfl (Or.inr rfl) ?_
          refine l_gI W25_ rfl l0 rfl ?_
          refine l_gI W25_ rfl l0 rfl ?_
          refine l_sI W25_ (f := 53) rfl l0 rfl hw (fun h29_ W28_ hw => ?_)
          refine l_gI W28_ rfl l0 rfl ?_
          refine l_pI W28_ rfl l0 rfl hw (fun h31_ W30_ hw => ?_)
          refine l_gI W30_ rfl l0 rfl ?_
          refine l_cv W30_ rfl l0 rfl ?_
          refine y_X12_winnerOf W30_ hw (fun v32_ hw => ?_) rfl l0
          refine l_cv W30_ rfl l0 rfl ?_
          refine y_X12_pays W30_ hw (fun h34_ s35_ W33_ hw => ?_) rfl l0
          refine l_pI W33_ rfl l0 rfl hw (fun h37_ W36_ hw => ?_)
          refine l_fx2 (fun (r : Int32 → Hp → Prop) (r9 : Int32 → St → Prop) => ∀ (x0 : Int32), ∀ (h9 : Hp) (s9 : St), Wf ad h9 V s9 → r9 x0 s9 → r x0 h9) (fun _ _ _ _ h9_ => h9_.elim) ?_ N _ _ _ W36_ hw
          intro w43_ w44_ hv42_ x38_ h40_ s41_ W39_ hw
          refine l_br hw (fun _ hw => ?_) (fun _ hw => ?_)
          ·
            refine l_pI W39_ rfl l0 rfl hw (fun h46_ W45_ hw => ?_)
            refine l_gI W45_ rfl l0 rfl ?_
            refine l_cv W45_ rfl l0 rfl ?_
            refine y_X12_winnerOf W45_ hw (fun v47_ hw => ?_) rfl l0
            exact hk _ _ _ W45_ hw
          ·
            refine l_gA W39_ rfl l0 (c := 2) rfl (Or.inr rfl) ?_
            refine l_gA W39_ rfl l0 (c := 2) rfl (Or.inr rfl) ?_
            refine l_aI W39_ (f := 46) rfl l0 rfl hw (fun hw => ?_)
            refine l_sI W39_ (f := 54) rfl l0 rfl hw (fun h49_ W48_ hw => ?_)
            refine l_gA W48_ rfl l0 (c := 2) rfl (Or.inr rfl) ?_
            refine l_sI W48_ (f := 46) rfl l0 rfl hw (fun h51_ W50_ hw => ?_)
            exact hv42_ _ _ _ W50_ hw
        ·
          exact hk _ _ _ W17_ hw
      ·
        refine l_br hw (fun _ hw => ?_) (fun _ hw => ?_)
        ·
          exact hj15_ _ hw
        ·
          exact hj15_ _ hw
    ·
      exact hk _ _ _ W9_ hw
  ·
    refine l_br hw (fun _ hw => ?_) (fun _ hw => ?_)
    ·
      exact hj7_ _ hw
    ·
      exact hj7_ _ hw
def z_X12_appeal (N : Nat) (a0 : Nat) (p1 : Int32) (h0 : St) (K : Int32 → St → Prop) : Prop :=
  lt_ (stP h0 12 a0 0 0 0) fun h1 =>
  z_X12_in N p1 0 1 h1 fun v2 =>
  jn (fun (v3 : Int32) =>
    z_X12_fails N a0 v3 1 h1 fun v4 h5 =>
    br (v4 = 0) (
      jn (fun (v7 : Int32) =>
        z_X12_fails N a0 v7 2 h5 fun v8 h9 =>
        br (v8 = 0) (
          wI 2 p1 <|
          jn (fun (v12 : Int32) =>
            z_X12_fails N a0 v12 3 h9 fun v13 h14 =>
            br (v13 = 0) (
              lt_ (stP h14 12 a0 16 0 0) fun h15 =>
              z_X12_winnerOf N a0 ((sP h15 12 a0 52 0) - 1) h15 fun v17 =>
              fx2 (fun (w89 : Int32 → St → Prop) (x19 : Int32) (h18 : St) =>
                br (2 ≤ x19) (
                  z_X12_winnerOf N a0 ((sP h18 12 a0 52 0) - 1) h18 fun v21 =>
                  z_X12_pays N a0 v17 (-1) h18 fun h22 =>
                  z_X12_pays N a0 v21 1 h22 fun h23 =>
                  br (v17 = v21) (
                    wI 2 p1 <|
                    z_X12_most N 0 ((sP h23 12 a0 51 (p1).toNatClampNeg) - 1) h23 fun v30 =>
                    wA 2 p1 (stP h23 12 a0 51 (p1).toNatClampNeg v30) fun h31 =>
                    K v21 h31) (
                    wI 2 p1 <|
                    wA 2 p1 (stP h23 12 a0 51 (p1).toNatClampNeg (sP h23 12 a0 51 (p1).toNatClampNeg)) fun h27 =>
                    K v21 h27)) (
                  wI 2 x19 <|
                  z_X12_triesCold N a0 x19 (sP h18 12 a0 55 0) (sP h18 12 a0 54 (x19).toNatClampNeg) h18 fun h35 =>
                  wA 1200 ((2 * ((sP h35 12 a0 52 0) - 1)) + x19) (stP h35 12 a0 53 (((2 * ((sP h35 12 a0 52 0) - 1)) + x19)).toNatClampNeg (sP h35 12 a0 22 0)) fun h39 =>
                  w89 (x19 + 1) h39)) N 0 h15) (
              K (-1) h14)) (fun j62 =>
            br ((sP h9 12 a0 51 (p1).toNatClampNeg) = 0) (
              j62 1) (
              j62 0))) (
          K (-1) h9)) (fun j40 =>
        br ((sP h5 12 a0 16 0) = 0) (
          j40 1) (
          j40 0))) (
      K (-1) h5)) (fun j20 =>
    br (v2 = 0) (
      j20 1) (
      j20 0))
set_option maxHeartbeats 1000000 in
theorem y_X12_appeal {ad : Nat → Nat → Nat → Nat} {h : Hp} {V : Nat → Nat} {h0 : St} {N : Nat} (W : Wf ad h V h0) {a0 a0_ : Nat} {p1 : Int32} {K : Int32 → Hp → Prop} {K9 : Int32 → St → Prop} (hw : z_X12_appeal N a0_ p1 h0 K9) (hk : ∀ (r0 : Int32), ∀ (h9 : Hp) (s9 : St), Wf ad h9 V s9 → K9 r0 s9 →  K r0 h9) (e0 : a0 = ad 12 a0_ 0) (l0 : a0_ < V 12) : w_X12_appeal N a0 p1 h K := by
  subst e0
  unfold z_X12_appeal at hw
  unfold w_X12_appeal
  refine l_pI W rfl l0 rfl hw (fun h2_ W1_ hw => ?_)
  refine y_X12_in W1_ hw (fun v3_ hw => ?_) 
  refine l_jn (fun (r : Int32 → Prop) (r9 : Int32 → Prop) => ∀ (x0 : Int32), r9 x0 → r x0) hw ?_ (fun j5_ j6_ hj7_ hw => ?_)
  ·
    intro x4_ hw
    refine l_cv W1_ rfl l0 rfl ?_
    refine y_X12_fails W1_ hw (fun v8_ h10_ s11_ W9_ hw => ?_) rfl l0
    refine l_br hw (fun _ hw => ?_) (fun _ hw => ?_)
    ·
      refine l_gI W9_ rfl l0 rfl ?_
      refine l_jn (fun (r : Int32 → Prop) (r9 : Int32 → Prop) => ∀ (x0 : Int32), r9 x0 → r x0) hw ?_ (fun j13_ j14_ hj15_ hw => ?_)
      ·
        intro x12_ hw
        refine l_cv W9_ rfl l0 rfl ?_
        refine y_X12_fails W9_ hw (fun v16_ h18_ s19_ W17_ hw => ?_) rfl l0
        refine l_br hw (fun _ hw => ?_) (fun _ hw => ?_)
        ·
          refine l_gA W17_ rfl l0 (c := 2) rfl (Or.inr rfl) ?_
          refine l_aI W17_ (f := 51) rfl l0 rfl hw (fun hw => ?_)
          refine l_jn (fun (r : Int32 → Prop) (r9 : Int32 → Prop) => ∀ (x0 : Int32), r9 x0 → r x0) hw ?_ (fun j21_ j22_ hj23_ hw => ?_)
          ·
            intro x20_ hw
            refine l_cv W17_ rfl l0 rfl ?_
            refine y_X12_fails W17_ hw (fun v24_ h26_ s27_ W25_ hw => ?_) rfl l0
            refine l_br hw (fun _ hw => ?_) (fun _ hw => ?_)
            ·
              refine l_pI W25_ rfl l0 rfl hw (fun h29_ W28_ hw => ?_)
              refine l_gI W28_ rfl l0 rfl ?_
              refine l_cv W28_ rfl l0 rfl ?_
              refine y_X12_winnerOf W28_ hw (fun v30_ hw => ?_) rfl l0
              refine l_fx2 (fun (r : Int32 → Hp → Prop) (r9 : Int32 → St → Prop) => ∀ (x0 : Int32), ∀ (h9 : Hp) (s9 : St), Wf ad h9 V s9 → r9 x0 s9 → r x0 h9) (fun _ _ _ _ h9_ => h9_.elim) ?_ N _ _ _ W28_ hw
              intro w36_ w37_ hv35_ x31_ h33_ s34_ W32_ hw
              refine l_br hw (fun _ hw => ?_) (fun _ hw => ?_)
              ·
                refine l_gI W32_ rfl l0 rfl ?_
                refine l_cv W32_ rfl l0 rfl ?_
                refine y_X12_winnerOf W32_ hw (fun v38_ hw => ?_) rfl l0
                refine l_cv W32_ rfl l0 rfl ?_
                refine y_X12_pays W32_ hw (fun h40_ s41_ W39_ hw => ?_) rfl l0
                refine l_cv W39_ rfl l0 rfl ?_
                refine y_X12_pays W39_ hw (fun h43_ s44_ W42_ hw => ?_) rfl l0
                refine l_gA W42_ rfl l0 (c := 2) rfl (Or.inr rfl) ?_
                refine l_br hw (fun _ hw => ?_) (fun _ hw => ?_)
                ·
                  refine l_gA W42_ rfl l0 (c := 2) rfl (Or.inr rfl) ?_
                  refine l_aI W42_ (f := 51) rfl l0 rfl hw (fun hw => ?_)
                  refine y_X12_most W42_ hw (fun v45_ hw => ?_) 
                  refine l_sI W42_ (f := 51) rfl l0 rfl hw (fun h47_ W46_ hw => ?_)
                  exact hk _ _ _ W46_ hw
                ·
                  refine l_gA W42_ rfl l0 (c := 2) rfl (Or.inr rfl) ?_
                  refine l_aI W42_ (f := 51) rfl l0 rfl hw (fun hw => ?_)
                  refine l_sI W42_ (f := 51) rfl l0 rfl hw (fun h49_ W48_ hw => ?_)
                  exact hk _ _ _ W48_ hw
              ·
                refine l_gI W32_ rfl l0 rfl ?_
                refine l_gA W32_ rfl l0 (c := 2) rfl (Or.inr rfl) ?_
                refine l_aI W32_ (f := 54) rfl l0 rfl hw (fun hw => ?_)
                refine l_cv W32_ rfl l0 rfl ?_
                refine y_X12_triesCold W32_ hw (fun h51_ s52_ W50_ hw => ?_) rfl l0
                refine l_gA W50_ rfl l0 (c := 2) rfl (Or.inr rfl) ?_
                refine l_gI W50_ rfl l0 rfl ?_
                refine l_gI W50_ rfl l0 rfl ?_
                refine l_sI W50_ (f := 53) rfl l0 rfl hw (fun h54_ W53_ hw => ?_)
                exact hv35_ _ _ _ W53_ hw
            ·
              exact hk _ _ _ W25_ hw
          ·
            refine l_br hw (fun _ hw => ?_) (fun _ hw => ?_)
            ·
              exact hj23_ _ hw
            ·
              exact hj23_ _ hw
        ·
          exact hk _ _ _ W17_ hw
      ·
        refine l_br hw (fun _ hw => ?_) (fun _ hw => ?_)
        ·
          exact hj15_ _ hw
        ·
          exact hj15_ _ hw
    ·
      exact hk _ _ _ W9_ hw
  ·
    refine l_br hw (fun _ hw => ?_) (fun _ hw => ?_)
    ·
      exact hj7_ _ hw
    ·
      exact hj7_ _ hw
def z_X12_coins (N : Nat) (a0 : Nat) (p1 : Int32) (h0 : St) (K : Int32 → St → Prop) : Prop :=
  lt_ (stP h0 12 a0 0 0 0) fun h1 =>
  z_X12_in N p1 0 1 h1 fun v2 =>
  jn (fun (v3 : Int32) =>
    z_X12_fails N a0 v3 1 h1 fun v4 h5 =>
    br (v4 = 0) (
      wI 2 p1 <|
      K (sP h5 12 a0 51 (p1).toNatClampNeg) h5) (
      K (-1) h5)) (fun j20 =>
    br (v2 = 0) (
      j20 1) (
      j20 0))
set_option maxHeartbeats 1000000 in
theorem y_X12_coins {ad : Nat → Nat → Nat → Nat} {h : Hp} {V : Nat → Nat} {h0 : St} {N : Nat} (W : Wf ad h V h0) {a0 a0_ : Nat} {p1 : Int32} {K : Int32 → Hp → Prop} {K9 : Int32 → St → Prop} (hw : z_X12_coins N a0_ p1 h0 K9) (hk : ∀ (r0 : Int32), ∀ (h9 : Hp) (s9 : St), Wf ad h9 V s9 → K9 r0 s9 →  K r0 h9) (e0 : a0 = ad 12 a0_ 0) (l0 : a0_ < V 12) : w_X12_coins N a0 p1 h K := by
  subst e0
  unfold z_X12_coins at hw
  unfold w_X12_coins
  refine l_pI W rfl l0 rfl hw (fun h2_ W1_ hw => ?_)
  refine y_X12_in W1_ hw (fun v3_ hw => ?_) 
  refine l_jn (fun (r : Int32 → Prop) (r9 : Int32 → Prop) => ∀ (x0 : Int32), r9 x0 → r x0) hw ?_ (fun j5_ j6_ hj7_ hw => ?_)
  ·
    intro x4_ hw
    refine l_cv W1_ rfl l0 rfl ?_
    refine y_X12_fails W1_ hw (fun v8_ h10_ s11_ W9_ hw => ?_) rfl l0
    refine l_br hw (fun _ hw => ?_) (fun _ hw => ?_)
    ·
      refine l_gA W9_ rfl l0 (c := 2) rfl (Or.inr rfl) ?_
      refine l_aI W9_ (f := 51) rfl l0 rfl hw (fun hw => ?_)
      exact hk _ _ _ W9_ hw
    ·
      exact hk _ _ _ W9_ hw
  ·
    refine l_br hw (fun _ hw => ?_) (fun _ hw => ?_)
    ·
      exact hj7_ _ hw
    ·
      exact hj7_ _ hw
def z_X12_misses (N : Nat) (a0 : Nat) (p1 : Int32) (p2 : Int32) (h0 : St) (K : Int32 → St → Prop) : Prop :=
  lt_ (stP h0 12 a0 0 0 0) fun h1 =>
  z_X12_in N p1 0 1 h1 fun v2 =>
  jn (fun (v3 : Int32) =>
    z_X12_fails N a0 v3 1 h1 fun v4 h5 =>
    br (v4 = 0) (
      z_X12_in N p2 0 ((sP h5 12 a0 52 0) - 1) h5 fun v7 =>
      jn (fun (v8 : Int32) =>
        z_X12_fails N a0 v8 2 h5 fun v9 h10 =>
        br (v9 = 0) (
          wI 1200 ((2 * p2) + p1) <|
          K (sP h10 12 a0 53 (((2 * p2) + p1)).toNatClampNeg) h10) (
          K (-1) h10)) (fun j47 =>
        br (v7 = 0) (
          j47 1) (
          j47 0))) (
      K (-1) h5)) (fun j20 =>
    br (v2 = 0) (
      j20 1) (
      j20 0))
set_option maxHeartbeats 1000000 in
theorem y_X12_misses {ad : Nat → Nat → Nat → Nat} {h : Hp} {V : Nat → Nat} {h0 : St} {N : Nat} (W : Wf ad h V h0) {a0 a0_ : Nat} {p1 : Int32} {p2 : Int32} {K : Int32 → Hp → Prop} {K9 : Int32 → St → Prop} (hw : z_X12_misses N a0_ p1 p2 h0 K9) (hk : ∀ (r0 : Int32), ∀ (h9 : Hp) (s9 : St), Wf ad h9 V s9 → K9 r0 s9 →  K r0 h9) (e0 : a0 = ad 12 a0_ 0) (l0 : a0_ < V 12) : w_X12_misses N a0 p1 p2 h K := by
  subst e0
  unfold z_X12_misses at hw
  unfold w_X12_misses
  refine l_pI W rfl l0 rfl hw (fun h2_ W1_ hw => ?_)
  refine y_X12_in W1_ hw (fun v3_ hw => ?_) 
  refine l_jn (fun (r : Int32 → Prop) (r9 : Int32 → Prop) => ∀ (x0 : Int32), r9 x0 → r x0) hw ?_ (fun j5_ j6_ hj7_ hw => ?_)
  ·
    intro x4_ hw
    refine l_cv W1_ rfl l0 rfl ?_
    refine y_X12_fails W1_ hw (fun v8_ h10_ s11_ W9_ hw => ?_) rfl l0
    refine l_br hw (fun _ hw => ?_) (fun _ hw => ?_)
    ·
      refine l_gI W9_ rfl l0 rfl ?_
      refine y_X12_in W9_ hw (fun v12_ hw => ?_) 
      refine l_jn (fun (r : Int32 → Prop) (r9 : Int32 → Prop) => ∀ (x0 : Int32), r9 x0 → r x0) hw ?_ (fun j14_ j15_ hj16_ hw => ?_)
      ·
        intro x13_ hw
        refine l_cv W9_ rfl l0 rfl ?_
        refine y_X12_fails W9_ hw (fun v17_ h19_ s20_ W18_ hw => ?_) rfl l0
        refine l_br hw (fun _ hw => ?_) (fun _ hw => ?_)
        ·
          refine l_gA W18_ rfl l0 (c := 2) rfl (Or.inr rfl) ?_
          refine l_aI W18_ (f := 53) rfl l0 rfl hw (fun hw => ?_)
          exact hk _ _ _ W18_ hw
        ·
          exact hk _ _ _ W18_ hw
      ·
        refine l_br hw (fun _ hw => ?_) (fun _ hw => ?_)
        ·
          exact hj16_ _ hw
        ·
          exact hj16_ _ hw
    ·
      exact hk _ _ _ W9_ hw
  ·
    refine l_br hw (fun _ hw => ?_) (fun _ hw => ?_)
    ·
      exact hj7_ _ hw
    ·
      exact hj7_ _ hw
def z_X12_total (N : Nat) (a0 : Nat) (p1 : Int32) (h0 : St) (K : Int32 → St → Prop) : Prop :=
  lt_ (stP h0 12 a0 0 0 0) fun h1 =>
  z_X12_in N p1 0 1 h1 fun v2 =>
  jn (fun (v3 : Int32) =>
    z_X12_fails N a0 v3 1 h1 fun v4 h5 =>
    br (v4 = 0) (
      fx2 (fun (w33 : Int32 → Int32 → Prop) (x6 : Int32) (x7 : Int32) =>
        br ((sP h5 12 a0 52 0) ≤ x7) (
          K x6 h5) (
          wI 1200 ((2 * x7) + p1) <|
          w33 (x6 + (sP h5 12 a0 53 (((2 * x7) + p1)).toNatClampNeg)) (x7 + 1))) N 0 0) (
      K (-1) h5)) (fun j20 =>
    br (v2 = 0) (
      j20 1) (
      j20 0))
set_option maxHeartbeats 1000000 in
theorem y_X12_total {ad : Nat → Nat → Nat → Nat} {h : Hp} {V : Nat → Nat} {h0 : St} {N : Nat} (W : Wf ad h V h0) {a0 a0_ : Nat} {p1 : Int32} {K : Int32 → Hp → Prop} {K9 : Int32 → St → Prop} (hw : z_X12_total N a0_ p1 h0 K9) (hk : ∀ (r0 : Int32), ∀ (h9 : Hp) (s9 : St), Wf ad h9 V s9 → K9 r0 s9 →  K r0 h9) (e0 : a0 = ad 12 a0_ 0) (l0 : a0_ < V 12) : w_X12_total N a0 p1 h K := by
  subst e0
  unfold z_X12_total at hw
  unfold w_X12_total
  refine l_pI W rfl l0 rfl hw (fun h2_ W1_ hw => ?_)
  refine y_X12_in W1_ hw (fun v3_ hw => ?_) 
  refine l_jn (fun (r : Int32 → Prop) (r9 : Int32 → Prop) => ∀ (x0 : Int32), r9 x0 → r x0) hw ?_ (fun j5_ j6_ hj7_ hw => ?_)
  ·
    intro x4_ hw
    refine l_cv W1_ rfl l0 rfl ?_
    refine y_X12_fails W1_ hw (fun v8_ h10_ s11_ W9_ hw => ?_) rfl l0
    refine l_br hw (fun _ hw => ?_) (fun _ hw => ?_)
    ·
      refine l_fx2 (fun (r : Int32 → Int32 → Prop) (r9 : Int32 → Int32 → Prop) => ∀ (x0 : Int32), ∀ (x1 : Int32), r9 x0 x1 → r x0 x1) (fun _ _ h9_ => h9_.elim) ?_ N _ _ hw
      intro w15_ w16_ hv14_ x12_ x13_ hw
      refine l_gI W9_ rfl l0 rfl ?_
      refine l_br hw (fun _ hw => ?_) (fun _ hw => ?_)
      ·
        exact hk _ _ _ W9_ hw
      ·
        refine l_gA W9_ rfl l0 (c := 2) rfl (Or.inr rfl) ?_
        refine l_aI W9_ (f := 53) rfl l0 rfl hw (fun hw => ?_)
        exact hv14_ _ _ hw
    ·
      exact hk _ _ _ W9_ hw
  ·
    refine l_br hw (fun _ hw => ?_) (fun _ hw => ?_)
    ·
      exact hj7_ _ hw
    ·
      exact hj7_ _ hw
def z_X12_rounds (N : Nat) (a0 : Nat) (h0 : St) (K : Int32 → St → Prop) : Prop :=
  lt_ (stP h0 12 a0 0 0 0) fun h1 =>
  K (sP h1 12 a0 52 0) h1
set_option maxHeartbeats 1000000 in
theorem y_X12_rounds {ad : Nat → Nat → Nat → Nat} {h : Hp} {V : Nat → Nat} {h0 : St} {N : Nat} (W : Wf ad h V h0) {a0 a0_ : Nat} {K : Int32 → Hp → Prop} {K9 : Int32 → St → Prop} (hw : z_X12_rounds N a0_ h0 K9) (hk : ∀ (r0 : Int32), ∀ (h9 : Hp) (s9 : St), Wf ad h9 V s9 → K9 r0 s9 →  K r0 h9) (e0 : a0 = ad 12 a0_ 0) (l0 : a0_ < V 12) : w_X12_rounds N a0 h K := by
  subst e0
  unfold z_X12_rounds at hw
  unfold w_X12_rounds
  refine l_pI W rfl l0 rfl hw (fun h2_ W1_ hw => ?_)
  refine l_gI W1_ rfl l0 rfl ?_
  exact hk _ _ _ W1_ hw
def z_X12_print (N : Nat) (a0 : Nat) (h0 : St) (K : Int64 → St → Prop) : Prop :=
  lt_ (stP h0 12 a0 0 0 0) fun h1 =>
  fx2 (fun (w11 : Int64 → Int32 → Prop) (y2 : Int64) (x3 : Int32) =>
    br ((sP h1 12 a0 1 0) ≤ x3) (
      wI 2 (0 : Int32) <|
      wI 2 (1 : Int32) <|
      K ((31 * ((31 * y2) + (((sP h1 12 a0 51 ((0 : Int32)).toNatClampNeg) : Int32).toInt64))) + (((sP h1 12 a0 51 ((1 : Int32)).toNatClampNeg) : Int32).toInt64)) h1) (
      fx2 (fun (w22 : Int64 → Int32 → Prop) (y9 : Int64) (x10 : Int32) =>
        wI 3 x3 <|
        br ((sP h1 12 a0 3 (x3).toNatClampNeg) ≤ x10) (
          w11 y9 (x3 + 1)) (
          fx2 (fun (w36 : Int64 → Int32 → Prop) (y13 : Int64) (x14 : Int32) =>
            wI 3 x3 <|
            jn (
              w22 y13 (x10 + 1)) (fun j80 =>
              br ((sP h1 12 a0 2 (x3).toNatClampNeg) ≤ x14) (
                j80 ) (
                z_X12_hasRow N a0 x3 x10 h1 fun v17 =>
                br (v17 = 0) (
                  j80 ) (
                  z_X12_at N a0 x3 x10 x14 h1 fun v18 =>
                  w36 ((31 * y13) + ((v18 : Int32).toInt64)) (x14 + 1))))) N y9 0)) N y2 0)) N 7 0
set_option maxHeartbeats 1000000 in
theorem y_X12_print {ad : Nat → Nat → Nat → Nat} {h : Hp} {V : Nat → Nat} {h0 : St} {N : Nat} (W : Wf ad h V h0) {a0 a0_ : Nat} {K : Int64 → Hp → Prop} {K9 : Int64 → St → Prop} (hw : z_X12_print N a0_ h0 K9) (hk : ∀ (r0 : Int64), ∀ (h9 : Hp) (s9 : St), Wf ad h9 V s9 → K9 r0 s9 →  K r0 h9) (e0 : a0 = ad 12 a0_ 0) (l0 : a0_ < V 12) : w_X12_print N a0 h K := by
  subst e0
  unfold z_X12_print at hw
  unfold w_X12_print
  refine l_pI W rfl l0 rfl hw (fun h2_ W1_ hw => ?_)
  refine l_fx2 (fun (r : Int64 → Int32 → Prop) (r9 : Int64 → Int32 → Prop) => ∀ (x0 : Int64), ∀ (x1 : Int32), r9 x0 x1 → r x0 x1) (fun _ _ h9_ => h9_.elim) ?_ N _ _ hw
  intro w6_ w7_ hv5_ x3_ x4_ hw
  refine l_gI W1_ rfl l0 rfl ?_
  refine l_br hw (fun _ hw => ?_) (fun _ hw => ?_)
  ·
    refine l_gA W1_ rfl l0 (c := 2) rfl (Or.inr rfl) ?_
    refine l_aI W1_ (f := 51) rfl l0 rfl hw (fun hw => ?_)
    refine l_gA W1_ rfl l0 (c := 2) rfl (Or.inr rfl) ?_
    refine l_aI W1_ (f := 51) rfl l0 rfl hw (fun hw => ?_)
    exact hk _ _ _ W1_ hw
  ·
    refine l_fx2 (fun (r : Int64 → Int32 → Prop) (r9 : Int64 → Int32 → Prop) => ∀ (x0 : Int64), ∀ (x1 : Int32), r9 x0 x1 → r x0 x1) (fun _ _ h9_ => h9_.elim) ?_ N _ _ hw
    intro w11_ w12_ hv10_ x8_ x9_ hw
    refine l_gA W1_ rfl l0 (c := 2) rfl (Or.inr rfl) ?_
    refine l_aI W1_ (f := 3) rfl l0 rfl hw (fun hw => ?_)
    refine l_br hw (fun _ hw => ?_) (fun _ hw => ?_)
    ·
      exact hv5_ _ _ hw
    ·
      refine l_fx2 (fun (r : Int64 → Int32 → Prop) (r9 : Int64 → Int32 → Prop) => ∀ (x0 : Int64), ∀ (x1 : Int32), r9 x0 x1 → r x0 x1) (fun _ _ h9_ => h9_.elim) ?_ N _ _ hw
      intro w16_ w17_ hv15_ x13_ x14_ hw
      refine l_gA W1_ rfl l0 (c := 2) rfl (Or.inr rfl) ?_
      refine l_aI W1_ (f := 2) rfl l0 rfl hw (fun hw => ?_)
      refine l_jn (fun (r : Prop) (r9 : Prop) =>  r9  → r ) hw ?_ (fun j18_ j19_ hj20_ hw => ?_)
      ·
        intro hw
        exact hv10_ _ _ hw
      ·
        refine l_br hw (fun _ hw => ?_) (fun _ hw => ?_)
        ·
          exact hj20_  hw
        ·
          refine l_cv W1_ rfl l0 rfl ?_
          refine y_X12_hasRow W1_ hw (fun v21_ hw => ?_) rfl l0
          refine l_br hw (fun _ hw => ?_) (fun _ hw => ?_)
          ·
            exact hj20_  hw
          ·
            refine l_cv W1_ rfl l0 rfl ?_
            refine y_X12_at W1_ hw (fun v22_ hw => ?_) rfl l0
            exact hv15_ _ _ hw
def z_X12_hitShare (N : Nat) (a0 : Nat) (p1 : Int32) (p2 : Int32) (h0 : St) (K : UInt32 → St → Prop) : Prop :=
  lt_ (stP h0 12 a0 0 0 0) fun h1 =>
  z_X12_noPlan N a0 p1 p2 h1 fun v2 h3 =>
  br (v2 = 0) (
    wI 2 p1 <|
    z_X12_triesCold N a0 p1 p2 (sP h3 12 a0 46 (p1).toNatClampNeg) h3 fun h6 =>
    jn (fun (v8 : Int32) =>
      z_X12_fails N a0 v8 4 h6 fun v9 h10 =>
      br (v9 = 0) (
        ok (vf_n32 (FP.fdiv (FP.i2f ((sP h10 12 a0 23 0) - (sP h10 12 a0 22 0))) (FP.i2f (sP h10 12 a0 23 0)))) <|
        K (FP.fdiv (FP.i2f ((sP h10 12 a0 23 0) - (sP h10 12 a0 22 0))) (FP.i2f (sP h10 12 a0 23 0))) h10) (
        K FP.fconst0 h10)) (fun j41 =>
      br ((sP h6 12 a0 23 0) = 0) (
        j41 1) (
        j41 0))) (
    K FP.fconst0 h3)
set_option maxHeartbeats 1000000 in
theorem y_X12_hitShare {ad : Nat → Nat → Nat → Nat} {h : Hp} {V : Nat → Nat} {h0 : St} {N : Nat} (W : Wf ad h V h0) {a0 a0_ : Nat} {p1 : Int32} {p2 : Int32} {K : UInt32 → Hp → Prop} {K9 : UInt32 → St → Prop} (hw : z_X12_hitShare N a0_ p1 p2 h0 K9) (hk : ∀ (r0 : UInt32), ∀ (h9 : Hp) (s9 : St), Wf ad h9 V s9 → K9 r0 s9 →  K r0 h9) (e0 : a0 = ad 12 a0_ 0) (l0 : a0_ < V 12) : w_X12_hitShare N a0 p1 p2 h K := by
  subst e0
  unfold z_X12_hitShare at hw
  unfold w_X12_hitShare
  refine l_pI W rfl l0 rfl hw (fun h2_ W1_ hw => ?_)
  refine l_cv W1_ rfl l0 rfl ?_
  refine y_X12_noPlan W1_ hw (fun v3_ h5_ s6_ W4_ hw => ?_) rfl l0
  refine l_br hw (fun _ hw => ?_) (fun _ hw => ?_)
  ·
    refine l_gA W4_ rfl l0 (c := 2) rfl (Or.inr rfl) ?_
    refine l_aI W4_ (f := 46) rfl l0 rfl hw (fun hw => ?_)
    refine l_cv W4_ rfl l0 rfl ?_
    refine y_X12_triesCold W4_ hw (fun h8_ s9_ W7_ hw => ?_) rfl l0
    refine l_gI W7_ rfl l0 rfl ?_
    refine l_jn (fun (r : Int32 → Prop) (r9 : Int32 → Prop) => ∀ (x0 : Int32), r9 x0 → r x0) hw ?_ (fun j11_ j12_ hj13_ hw => ?_)
    ·
      intro x10_ hw
      refine l_cv W7_ rfl l0 rfl ?_
      refine y_X12_fails W7_ hw (fun v14_ h16_ s17_ W15_ hw => ?_) rfl l0
      refine l_br hw (fun _ hw => ?_) (fun _ hw => ?_)
      ·
        refine l_gI W15_ rfl l0 rfl ?_
        refine l_gI W15_ rfl l0 rfl ?_
        refine l_gI W15_ rfl l0 rfl ?_
        refine l_ok hw (fun _ hw => ?_)
        exact hk _ _ _ W15_ hw
      ·
        exact hk _ _ _ W15_ hw
    ·
      refine l_br hw (fun _ hw => ?_) (fun _ hw => ?_)
      ·
        exact hj13_ _ hw
      ·
        exact hj13_ _ hw
  ·
    exact hk _ _ _ W4_ hw
def z_X12_meanMisses (N : Nat) (a0 : Nat) (h0 : St) (K : UInt64 → St → Prop) : Prop :=
  lt_ (stP h0 12 a0 0 0 0) fun h1 =>
  fx2 (fun (w9 : Int32 → Int32 → Prop) (x2 : Int32) (x3 : Int32) =>
    br ((2 * (sP h1 12 a0 52 0)) ≤ x3) (
      jn (fun (v6 : Int32) =>
        z_X12_fails N a0 v6 1 h1 fun v7 h8 =>
        br (v7 = 0) (
          ok (vf_n64 (FP.ddiv (FP.i2d x2) (FP.i2d (2 * (sP h8 12 a0 52 0))))) <|
          K (FP.ddiv (FP.i2d x2) (FP.i2d (2 * (sP h8 12 a0 52 0)))) h8) (
          K FP.dconst0 h8)) (fun j47 =>
        br ((sP h1 12 a0 52 0) = 0) (
          j47 1) (
          j47 0))) (
      wI 1200 x3 <|
      w9 (x2 + (sP h1 12 a0 53 (x3).toNatClampNeg)) (x3 + 1))) N 0 0
set_option maxHeartbeats 1000000 in
theorem y_X12_meanMisses {ad : Nat → Nat → Nat → Nat} {h : Hp} {V : Nat → Nat} {h0 : St} {N : Nat} (W : Wf ad h V h0) {a0 a0_ : Nat} {K : UInt64 → Hp → Prop} {K9 : UInt64 → St → Prop} (hw : z_X12_meanMisses N a0_ h0 K9) (hk : ∀ (r0 : UInt64), ∀ (h9 : Hp) (s9 : St), Wf ad h9 V s9 → K9 r0 s9 →  K r0 h9) (e0 : a0 = ad 12 a0_ 0) (l0 : a0_ < V 12) : w_X12_meanMisses N a0 h K := by
  subst e0
  unfold z_X12_meanMisses at hw
  unfold w_X12_meanMisses
  refine l_pI W rfl l0 rfl hw (fun h2_ W1_ hw => ?_)
  refine l_fx2 (fun (r : Int32 → Int32 → Prop) (r9 : Int32 → Int32 → Prop) => ∀ (x0 : Int32), ∀ (x1 : Int32), r9 x0 x1 → r x0 x1) (fun _ _ h9_ => h9_.elim) ?_ N _ _ hw
  intro w6_ w7_ hv5_ x3_ x4_ hw
  refine l_gI W1_ rfl l0 rfl ?_
  refine l_br hw (fun _ hw => ?_) (fun _ hw => ?_)
  ·
    refine l_gI W1_ rfl l0 rfl ?_
    refine l_jn (fun (r : Int32 → Prop) (r9 : Int32 → Prop) => ∀ (x0 : Int32), r9 x0 → r x0) hw ?_ (fun j9_ j10_ hj11_ hw => ?_)
    ·
      intro x8_ hw
      refine l_cv W1_ rfl l0 rfl ?_
      refine y_X12_fails W1_ hw (fun v12_ h14_ s15_ W13_ hw => ?_) rfl l0
      refine l_br hw (fun _ hw => ?_) (fun _ hw => ?_)
      ·
        refine l_gI W13_ rfl l0 rfl ?_
        refine l_ok hw (fun _ hw => ?_)
        exact hk _ _ _ W13_ hw
      ·
        exact hk _ _ _ W13_ hw
    ·
      refine l_br hw (fun _ hw => ?_) (fun _ hw => ?_)
      ·
        exact hj11_ _ hw
      ·
        exact hj11_ _ hw
  ·
    refine l_gA W1_ rfl l0 (c := 2) rfl (Or.inr rfl) ?_
    refine l_aI W1_ (f := 53) rfl l0 rfl hw (fun hw => ?_)
    exact hv5_ _ _ hw
def z_X12_isSound (N : Nat) (a0 : Nat) (h0 : St) (K : Int32 → St → Prop) : Prop :=
  lt_ (stP h0 12 a0 0 0 0) fun h1 =>
  K 1 h1
set_option maxHeartbeats 1000000 in
theorem y_X12_isSound {ad : Nat → Nat → Nat → Nat} {h : Hp} {V : Nat → Nat} {h0 : St} {N : Nat} (W : Wf ad h V h0) {a0 a0_ : Nat} {K : Int32 → Hp → Prop} {K9 : Int32 → St → Prop} (hw : z_X12_isSound N a0_ h0 K9) (hk : ∀ (r0 : Int32), ∀ (h9 : Hp) (s9 : St), Wf ad h9 V s9 → K9 r0 s9 →  K r0 h9) (e0 : a0 = ad 12 a0_ 0) (l0 : a0_ < V 12) : w_X12_isSound N a0 h K := by
  subst e0
  unfold z_X12_isSound at hw
  unfold w_X12_isSound
  refine l_pI W rfl l0 rfl hw (fun h2_ W1_ hw => ?_)
  exact hk _ _ _ W1_ hw
end Z3
