/-! LEVEL 2, programs over registers (generated). -/
section Z4
def z_L_table (N : Nat) (p0 : Option Nat) (p1 : Int32) (h0 : St) (K : Int32 → St → Prop) : Prop :=
  nn p0 fun a1 =>
  z_X11_table N a1 p1 h0 (fun v2 h3 =>
  wA 1 (0 : Int32) (stL h3 13 0 0 ((0 : Int32)).toNatClampNeg ((v2 : Int32).toInt64)) fun h7 =>
  K 0 h7) (fun E h4 => (E = "java/lang/IllegalArgumentException" ∧ K 1 h4) ∨ (E = "java/lang/IllegalStateException" ∧ K 2 h4))
set_option maxHeartbeats 1000000 in
theorem y_L_table {ad : Nat → Nat → Nat → Nat} {h : Hp} {V : Nat → Nat} {h0 : St} {N : Nat} (W : Wf ad h V h0) {p0 p0_ : Option Nat} {p1 : Int32} {p2 : Option Nat} {K : Int32 → Hp → Prop} {K9 : Int32 → St → Prop} (hw : z_L_table N p0_ p1 h0 K9) (hk : ∀ (r0 : Int32), ∀ (ad9 : Nat → Nat → Nat → Nat) (V9 : Nat → Nat) (h9 : Hp) (s9 : St), Wf ad9 h9 V9 s9 → Ext ad V ad9 V9 → K9 r0 s9 →  K r0 h9) (e_p0 : p0 = p0_.map (fun j => ad 11 j 0)) (l_p0 : ∀ r, p0_ = some r → r < V 11) (e_p2 : p2 = some (ad 13 0 1)) (l_p2 : 0 < V 13) : w_L_table N p0 p1 p2 h K := by
  subst e_p0
  unfold z_L_table at hw
  unfold w_L_table
  refine l_nn hw (fun i1_ e2_ hw => ?_)
  refine l_cv W rfl (l_p0 _ e2_) rfl ?_
  refine y_X11_table W hw (fun v3_ ad7_ V8_ h5_ s6_ W4_ E9_ hw => ?_) (fun _ _ _ _ _ W9 E9 h9 => h9.imp (fun h9 => ⟨h9.1, hk _ _ _ _ _ W9 (ext_trans (ext_refl ad V) E9) h9.2⟩) (fun h9 => ⟨h9.1, hk _ _ _ _ _ W9 (ext_trans (ext_refl ad V) E9) h9.2⟩)) rfl (l_p0 _ e2_)
  refine ⟨_, (ext_pa E9_ e_p2 l_p2 rfl), ?_⟩
  refine l_sL W4_ (f := 0) rfl (ext_l E9_ l_p2) rfl hw (fun h11_ W10_ hw => ?_)
  exact hk _ _ _ _ _ W10_ (ext_trans (ext_refl ad V) E9_) hw
def z_L_bound (N : Nat) (p0 : Option Nat) (p1 : Int32) (p2 : Int32) (p3 : Int32) (p4 : Int32) (h0 : St) (K : Int32 → St → Prop) : Prop :=
  nn p0 fun a1 =>
  z_X11_bound N a1 p1 p2 p3 p4 h0 (fun v2 h3 =>
  wA 1 (0 : Int32) (stL h3 13 0 0 ((0 : Int32)).toNatClampNeg ((v2 : Int32).toInt64)) fun h7 =>
  K 0 h7) (fun E h4 => (E = "java/lang/IndexOutOfBoundsException" ∧ K 1 h4) ∨ (E = "java/lang/IllegalArgumentException" ∧ K 2 h4))
set_option maxHeartbeats 1000000 in
theorem y_L_bound {ad : Nat → Nat → Nat → Nat} {h : Hp} {V : Nat → Nat} {h0 : St} {N : Nat} (W : Wf ad h V h0) {p0 p0_ : Option Nat} {p1 : Int32} {p2 : Int32} {p3 : Int32} {p4 : Int32} {p5 : Option Nat} {K : Int32 → Hp → Prop} {K9 : Int32 → St → Prop} (hw : z_L_bound N p0_ p1 p2 p3 p4 h0 K9) (hk : ∀ (r0 : Int32), ∀ (h9 : Hp) (s9 : St), Wf ad h9 V s9 → K9 r0 s9 →  K r0 h9) (e_p0 : p0 = p0_.map (fun j => ad 11 j 0)) (l_p0 : ∀ r, p0_ = some r → r < V 11) (e_p5 : p5 = some (ad 13 0 1)) (l_p5 : 0 < V 13) : w_L_bound N p0 p1 p2 p3 p4 p5 h K := by
  subst e_p0
  unfold z_L_bound at hw
  unfold w_L_bound
  refine l_nn hw (fun i1_ e2_ hw => ?_)
  refine l_cv W rfl (l_p0 _ e2_) rfl ?_
  refine y_X11_bound W hw (fun v3_ h5_ s6_ W4_ hw => ?_) (fun _ _ _ W9 h9 => h9.imp (fun h9 => ⟨h9.1, hk _ _ _ W9 h9.2⟩) (fun h9 => ⟨h9.1, hk _ _ _ W9 h9.2⟩)) rfl (l_p0 _ e2_)
  refine ⟨_, e_p5, ?_⟩
  refine l_sL W4_ (f := 0) rfl l_p5 rfl hw (fun h8_ W7_ hw => ?_)
  exact hk _ _ _ W7_ hw
def z_L_insert (N : Nat) (p0 : Option Nat) (p1 : Int32) (p2 : Int32) (p3 : Int32) (p4 : Int32) (h0 : St) (K : Int32 → St → Prop) : Prop :=
  nn p0 fun a1 =>
  z_X11_insert N a1 p1 p2 p3 p4 h0 (fun v2 h3 =>
  wA 1 (0 : Int32) (stL h3 13 0 0 ((0 : Int32)).toNatClampNeg ((v2 : Int32).toInt64)) fun h7 =>
  K 0 h7) (fun E h4 => (E = "java/lang/IndexOutOfBoundsException" ∧ K 1 h4) ∨ (E = "java/lang/IllegalArgumentException" ∧ K 2 h4) ∨ (E = "java/lang/IllegalStateException" ∧ K 3 h4))
set_option maxHeartbeats 1000000 in
theorem y_L_insert {ad : Nat → Nat → Nat → Nat} {h : Hp} {V : Nat → Nat} {h0 : St} {N : Nat} (W : Wf ad h V h0) {p0 p0_ : Option Nat} {p1 : Int32} {p2 : Int32} {p3 : Int32} {p4 : Int32} {p5 : Option Nat} {K : Int32 → Hp → Prop} {K9 : Int32 → St → Prop} (hw : z_L_insert N p0_ p1 p2 p3 p4 h0 K9) (hk : ∀ (r0 : Int32), ∀ (h9 : Hp) (s9 : St), Wf ad h9 V s9 → K9 r0 s9 →  K r0 h9) (e_p0 : p0 = p0_.map (fun j => ad 11 j 0)) (l_p0 : ∀ r, p0_ = some r → r < V 11) (e_p5 : p5 = some (ad 13 0 1)) (l_p5 : 0 < V 13) : w_L_insert N p0 p1 p2 p3 p4 p5 h K := by
  subst e_p0
  unfold z_L_insert at hw
  unfold w_L_insert
  refine l_nn hw (fun i1_ e2_ hw => ?_)
  refine l_cv W rfl (l_p0 _ e2_) rfl ?_
  refine y_X11_insert W hw (fun v3_ h5_ s6_ W4_ hw => ?_) (fun _ _ _ W9 h9 => h9.imp (fun h9 => ⟨h9.1, hk _ _ _ W9 h9.2⟩) (fun h9 => h9.imp (fun h9 => ⟨h9.1, hk _ _ _ W9 h9.2⟩) (fun h9 => ⟨h9.1, hk _ _ _ W9 h9.2⟩))) rfl (l_p0 _ e2_)
  refine ⟨_, e_p5, ?_⟩
  refine l_sL W4_ (f := 0) rfl l_p5 rfl hw (fun h8_ W7_ hw => ?_)
  exact hk _ _ _ W7_ hw
def z_L_remove (N : Nat) (p0 : Option Nat) (p1 : Int32) (p2 : Int32) (h0 : St) (K : Int32 → St → Prop) : Prop :=
  nn p0 fun a1 =>
  z_X11_remove N a1 p1 p2 h0 (fun v2 h3 =>
  wA 1 (0 : Int32) (stL h3 13 0 0 ((0 : Int32)).toNatClampNeg ((v2 : Int32).toInt64)) fun h7 =>
  K 0 h7) (fun E h4 => (E = "java/lang/IndexOutOfBoundsException" ∧ K 1 h4) ∨ (E = "java/util/NoSuchElementException" ∧ K 2 h4))
set_option maxHeartbeats 1000000 in
theorem y_L_remove {ad : Nat → Nat → Nat → Nat} {h : Hp} {V : Nat → Nat} {h0 : St} {N : Nat} (W : Wf ad h V h0) {p0 p0_ : Option Nat} {p1 : Int32} {p2 : Int32} {p3 : Option Nat} {K : Int32 → Hp → Prop} {K9 : Int32 → St → Prop} (hw : z_L_remove N p0_ p1 p2 h0 K9) (hk : ∀ (r0 : Int32), ∀ (h9 : Hp) (s9 : St), Wf ad h9 V s9 → K9 r0 s9 →  K r0 h9) (e_p0 : p0 = p0_.map (fun j => ad 11 j 0)) (l_p0 : ∀ r, p0_ = some r → r < V 11) (e_p3 : p3 = some (ad 13 0 1)) (l_p3 : 0 < V 13) : w_L_remove N p0 p1 p2 p3 h K := by
  subst e_p0
  unfold z_L_remove at hw
  unfold w_L_remove
  refine l_nn hw (fun i1_ e2_ hw => ?_)
  refine l_cv W rfl (l_p0 _ e2_) rfl ?_
  refine y_X11_remove W hw (fun v3_ h5_ s6_ W4_ hw => ?_) (fun _ _ _ W9 h9 => h9.imp (fun h9 => ⟨h9.1, hk _ _ _ W9 h9.2⟩) (fun h9 => ⟨h9.1, hk _ _ _ W9 h9.2⟩)) rfl (l_p0 _ e2_)
  refine ⟨_, e_p3, ?_⟩
  refine l_sL W4_ (f := 0) rfl l_p3 rfl hw (fun h8_ W7_ hw => ?_)
  exact hk _ _ _ W7_ hw
def z_L_count (N : Nat) (p0 : Option Nat) (p1 : Int32) (h0 : St) (K : Int32 → St → Prop) : Prop :=
  nn p0 fun a1 =>
  z_X11_count N a1 p1 h0 (fun v2 h3 =>
  wA 1 (0 : Int32) (stL h3 13 0 0 ((0 : Int32)).toNatClampNeg ((v2 : Int32).toInt64)) fun h7 =>
  K 0 h7) (fun E h4 => (E = "java/lang/IndexOutOfBoundsException" ∧ K 1 h4))
set_option maxHeartbeats 1000000 in
theorem y_L_count {ad : Nat → Nat → Nat → Nat} {h : Hp} {V : Nat → Nat} {h0 : St} {N : Nat} (W : Wf ad h V h0) {p0 p0_ : Option Nat} {p1 : Int32} {p2 : Option Nat} {K : Int32 → Hp → Prop} {K9 : Int32 → St → Prop} (hw : z_L_count N p0_ p1 h0 K9) (hk : ∀ (r0 : Int32), ∀ (h9 : Hp) (s9 : St), Wf ad h9 V s9 → K9 r0 s9 →  K r0 h9) (e_p0 : p0 = p0_.map (fun j => ad 11 j 0)) (l_p0 : ∀ r, p0_ = some r → r < V 11) (e_p2 : p2 = some (ad 13 0 1)) (l_p2 : 0 < V 13) : w_L_count N p0 p1 p2 h K := by
  subst e_p0
  unfold z_L_count at hw
  unfold w_L_count
  refine l_nn hw (fun i1_ e2_ hw => ?_)
  refine l_cv W rfl (l_p0 _ e2_) rfl ?_
  refine y_X11_count W hw (fun v3_ h5_ s6_ W4_ hw => ?_) (fun _ _ _ W9 h9 => ⟨h9.1, hk _ _ _ W9 h9.2⟩) rfl (l_p0 _ e2_)
  refine ⟨_, e_p2, ?_⟩
  refine l_sL W4_ (f := 0) rfl l_p2 rfl hw (fun h8_ W7_ hw => ?_)
  exact hk _ _ _ W7_ hw
def z_L_index (N : Nat) (p0 : Option Nat) (p1 : Int32) (p2 : Int32) (h0 : St) (K : Int32 → St → Prop) : Prop :=
  nn p0 fun a1 =>
  z_X11_index N a1 p1 p2 h0 (fun v2 h3 =>
  wA 1 (0 : Int32) (stL h3 13 0 0 ((0 : Int32)).toNatClampNeg ((v2 : Int32).toInt64)) fun h7 =>
  K 0 h7) (fun E h4 => (E = "java/lang/IndexOutOfBoundsException" ∧ K 1 h4) ∨ (E = "java/lang/IllegalArgumentException" ∧ K 2 h4) ∨ (E = "java/lang/IllegalStateException" ∧ K 3 h4))
set_option maxHeartbeats 1000000 in
theorem y_L_index {ad : Nat → Nat → Nat → Nat} {h : Hp} {V : Nat → Nat} {h0 : St} {N : Nat} (W : Wf ad h V h0) {p0 p0_ : Option Nat} {p1 : Int32} {p2 : Int32} {p3 : Option Nat} {K : Int32 → Hp → Prop} {K9 : Int32 → St → Prop} (hw : z_L_index N p0_ p1 p2 h0 K9) (hk : ∀ (r0 : Int32), ∀ (ad9 : Nat → Nat → Nat → Nat) (V9 : Nat → Nat) (h9 : Hp) (s9 : St), Wf ad9 h9 V9 s9 → Ext ad V ad9 V9 → K9 r0 s9 →  K r0 h9) (e_p0 : p0 = p0_.map (fun j => ad 11 j 0)) (l_p0 : ∀ r, p0_ = some r → r < V 11) (e_p3 : p3 = some (ad 13 0 1)) (l_p3 : 0 < V 13) : w_L_index N p0 p1 p2 p3 h K := by
  subst e_p0
  unfold z_L_index at hw
  unfold w_L_index
  refine l_nn hw (fun i1_ e2_ hw => ?_)
  refine l_cv W rfl (l_p0 _ e2_) rfl ?_
  refine y_X11_index W hw (fun v3_ ad7_ V8_ h5_ s6_ W4_ E9_ hw => ?_) (fun _ _ _ _ _ W9 E9 h9 => h9.imp (fun h9 => ⟨h9.1, hk _ _ _ _ _ W9 (ext_trans (ext_refl ad V) E9) h9.2⟩) (fun h9 => h9.imp (fun h9 => ⟨h9.1, hk _ _ _ _ _ W9 (ext_trans (ext_refl ad V) E9) h9.2⟩) (fun h9 => ⟨h9.1, hk _ _ _ _ _ W9 (ext_trans (ext_refl ad V) E9) h9.2⟩))) rfl (l_p0 _ e2_)
  refine ⟨_, (ext_pa E9_ e_p3 l_p3 rfl), ?_⟩
  refine l_sL W4_ (f := 0) rfl (ext_l E9_ l_p3) rfl hw (fun h11_ W10_ hw => ?_)
  exact hk _ _ _ _ _ W10_ (ext_trans (ext_refl ad V) E9_) hw
def z_L_frames (N : Nat) (p0 : Option Nat) (p1 : Int32) (h0 : St) (K : Int32 → St → Prop) : Prop :=
  nn p0 fun a1 =>
  z_X11_frames N a1 p1 h0 (fun v2 h3 =>
  wA 1 (0 : Int32) (stL h3 13 0 0 ((0 : Int32)).toNatClampNeg ((v2 : Int32).toInt64)) fun h7 =>
  K 0 h7) (fun E h4 => (E = "java/lang/IllegalArgumentException" ∧ K 1 h4))
set_option maxHeartbeats 1000000 in
theorem y_L_frames {ad : Nat → Nat → Nat → Nat} {h : Hp} {V : Nat → Nat} {h0 : St} {N : Nat} (W : Wf ad h V h0) {p0 p0_ : Option Nat} {p1 : Int32} {p2 : Option Nat} {K : Int32 → Hp → Prop} {K9 : Int32 → St → Prop} (hw : z_L_frames N p0_ p1 h0 K9) (hk : ∀ (r0 : Int32), ∀ (h9 : Hp) (s9 : St), Wf ad h9 V s9 → K9 r0 s9 →  K r0 h9) (e_p0 : p0 = p0_.map (fun j => ad 11 j 0)) (l_p0 : ∀ r, p0_ = some r → r < V 11) (e_p2 : p2 = some (ad 13 0 1)) (l_p2 : 0 < V 13) : w_L_frames N p0 p1 p2 h K := by
  subst e_p0
  unfold z_L_frames at hw
  unfold w_L_frames
  refine l_nn hw (fun i1_ e2_ hw => ?_)
  refine l_cv W rfl (l_p0 _ e2_) rfl ?_
  refine y_X11_frames W hw (fun v3_ h5_ s6_ W4_ hw => ?_) (fun _ _ _ W9 h9 => ⟨h9.1, hk _ _ _ W9 h9.2⟩) rfl (l_p0 _ e2_)
  refine ⟨_, e_p2, ?_⟩
  refine l_sL W4_ (f := 0) rfl l_p2 rfl hw (fun h8_ W7_ hw => ?_)
  exact hk _ _ _ W7_ hw
def z_L_pages (N : Nat) (p0 : Option Nat) (p1 : Int32) (h0 : St) (K : Int32 → St → Prop) : Prop :=
  nn p0 fun a1 =>
  z_X11_pages N a1 p1 h0 (fun v2 h3 =>
  wA 1 (0 : Int32) (stL h3 13 0 0 ((0 : Int32)).toNatClampNeg ((v2 : Int32).toInt64)) fun h7 =>
  K 0 h7) (fun E h4 => (E = "java/lang/IndexOutOfBoundsException" ∧ K 1 h4))
set_option maxHeartbeats 1000000 in
theorem y_L_pages {ad : Nat → Nat → Nat → Nat} {h : Hp} {V : Nat → Nat} {h0 : St} {N : Nat} (W : Wf ad h V h0) {p0 p0_ : Option Nat} {p1 : Int32} {p2 : Option Nat} {K : Int32 → Hp → Prop} {K9 : Int32 → St → Prop} (hw : z_L_pages N p0_ p1 h0 K9) (hk : ∀ (r0 : Int32), ∀ (h9 : Hp) (s9 : St), Wf ad h9 V s9 → K9 r0 s9 →  K r0 h9) (e_p0 : p0 = p0_.map (fun j => ad 11 j 0)) (l_p0 : ∀ r, p0_ = some r → r < V 11) (e_p2 : p2 = some (ad 13 0 1)) (l_p2 : 0 < V 13) : w_L_pages N p0 p1 p2 h K := by
  subst e_p0
  unfold z_L_pages at hw
  unfold w_L_pages
  refine l_nn hw (fun i1_ e2_ hw => ?_)
  refine l_cv W rfl (l_p0 _ e2_) rfl ?_
  refine y_X11_pages W hw (fun v3_ h5_ s6_ W4_ hw => ?_) (fun _ _ _ W9 h9 => ⟨h9.1, hk _ _ _ W9 h9.2⟩) rfl (l_p0 _ e2_)
  refine ⟨_, e_p2, ?_⟩
  refine l_sL W4_ (f := 0) rfl l_p2 rfl hw (fun h8_ W7_ hw => ?_)
  exact hk _ _ _ W7_ hw
def z_L_value (N : Nat) (p0 : Option Nat) (p1 : Int32) (p2 : Int32) (p3 : Int32) (h0 : St) (K : Int32 → St → Prop) : Prop :=
  nn p0 fun a1 =>
  z_X11_value N a1 p1 p2 p3 h0 (fun v2 h3 =>
  wA 1 (0 : Int32) (stL h3 13 0 0 ((0 : Int32)).toNatClampNeg ((v2 : Int32).toInt64)) fun h7 =>
  K 0 h7) (fun E h4 => (E = "java/lang/IndexOutOfBoundsException" ∧ K 1 h4) ∨ (E = "java/lang/IllegalArgumentException" ∧ K 2 h4) ∨ (E = "java/util/NoSuchElementException" ∧ K 3 h4))
set_option maxHeartbeats 1000000 in
theorem y_L_value {ad : Nat → Nat → Nat → Nat} {h : Hp} {V : Nat → Nat} {h0 : St} {N : Nat} (W : Wf ad h V h0) {p0 p0_ : Option Nat} {p1 : Int32} {p2 : Int32} {p3 : Int32} {p4 : Option Nat} {K : Int32 → Hp → Prop} {K9 : Int32 → St → Prop} (hw : z_L_value N p0_ p1 p2 p3 h0 K9) (hk : ∀ (r0 : Int32), ∀ (h9 : Hp) (s9 : St), Wf ad h9 V s9 → K9 r0 s9 →  K r0 h9) (e_p0 : p0 = p0_.map (fun j => ad 11 j 0)) (l_p0 : ∀ r, p0_ = some r → r < V 11) (e_p4 : p4 = some (ad 13 0 1)) (l_p4 : 0 < V 13) : w_L_value N p0 p1 p2 p3 p4 h K := by
  subst e_p0
  unfold z_L_value at hw
  unfold w_L_value
  refine l_nn hw (fun i1_ e2_ hw => ?_)
  refine l_cv W rfl (l_p0 _ e2_) rfl ?_
  refine y_X11_value W hw (fun v3_ h5_ s6_ W4_ hw => ?_) (fun _ _ _ W9 h9 => h9.imp (fun h9 => ⟨h9.1, hk _ _ _ W9 h9.2⟩) (fun h9 => h9.imp (fun h9 => ⟨h9.1, hk _ _ _ W9 h9.2⟩) (fun h9 => ⟨h9.1, hk _ _ _ W9 h9.2⟩))) rfl (l_p0 _ e2_)
  refine ⟨_, e_p4, ?_⟩
  refine l_sL W4_ (f := 0) rfl l_p4 rfl hw (fun h8_ W7_ hw => ?_)
  exact hk _ _ _ W7_ hw
def z_L_entries (N : Nat) (p0 : Option Nat) (p1 : Int32) (h0 : St) (K : Int32 → St → Prop) : Prop :=
  nn p0 fun a1 =>
  z_X11_entries N a1 p1 h0 (fun v2 h3 =>
  wA 1 (0 : Int32) (stL h3 13 0 0 ((0 : Int32)).toNatClampNeg ((v2 : Int32).toInt64)) fun h7 =>
  K 0 h7) (fun E h4 => (E = "java/lang/IndexOutOfBoundsException" ∧ K 1 h4))
set_option maxHeartbeats 1000000 in
theorem y_L_entries {ad : Nat → Nat → Nat → Nat} {h : Hp} {V : Nat → Nat} {h0 : St} {N : Nat} (W : Wf ad h V h0) {p0 p0_ : Option Nat} {p1 : Int32} {p2 : Option Nat} {K : Int32 → Hp → Prop} {K9 : Int32 → St → Prop} (hw : z_L_entries N p0_ p1 h0 K9) (hk : ∀ (r0 : Int32), ∀ (h9 : Hp) (s9 : St), Wf ad h9 V s9 → K9 r0 s9 →  K r0 h9) (e_p0 : p0 = p0_.map (fun j => ad 11 j 0)) (l_p0 : ∀ r, p0_ = some r → r < V 11) (e_p2 : p2 = some (ad 13 0 1)) (l_p2 : 0 < V 13) : w_L_entries N p0 p1 p2 h K := by
  subst e_p0
  unfold z_L_entries at hw
  unfold w_L_entries
  refine l_nn hw (fun i1_ e2_ hw => ?_)
  refine l_cv W rfl (l_p0 _ e2_) rfl ?_
  refine y_X11_entries W hw (fun v3_ h5_ s6_ W4_ hw => ?_) (fun _ _ _ W9 h9 => ⟨h9.1, hk _ _ _ W9 h9.2⟩) rfl (l_p0 _ e2_)
  refine ⟨_, e_p2, ?_⟩
  refine l_sL W4_ (f := 0) rfl l_p2 rfl hw (fun h8_ W7_ hw => ?_)
  exact hk _ _ _ W7_ hw
def z_L_entryAt (N : Nat) (p0 : Option Nat) (p1 : Int32) (p2 : Int32) (h0 : St) (K : Int32 → St → Prop) : Prop :=
  nn p0 fun a1 =>
  z_X11_entryAt N a1 p1 p2 h0 (fun v2 h3 =>
  wA 1 (0 : Int32) (stL h3 13 0 0 ((0 : Int32)).toNatClampNeg ((v2 : Int32).toInt64)) fun h7 =>
  K 0 h7) (fun E h4 => (E = "java/lang/IndexOutOfBoundsException" ∧ K 1 h4) ∨ (E = "java/util/NoSuchElementException" ∧ K 2 h4))
set_option maxHeartbeats 1000000 in
theorem y_L_entryAt {ad : Nat → Nat → Nat → Nat} {h : Hp} {V : Nat → Nat} {h0 : St} {N : Nat} (W : Wf ad h V h0) {p0 p0_ : Option Nat} {p1 : Int32} {p2 : Int32} {p3 : Option Nat} {K : Int32 → Hp → Prop} {K9 : Int32 → St → Prop} (hw : z_L_entryAt N p0_ p1 p2 h0 K9) (hk : ∀ (r0 : Int32), ∀ (h9 : Hp) (s9 : St), Wf ad h9 V s9 → K9 r0 s9 →  K r0 h9) (e_p0 : p0 = p0_.map (fun j => ad 11 j 0)) (l_p0 : ∀ r, p0_ = some r → r < V 11) (e_p3 : p3 = some (ad 13 0 1)) (l_p3 : 0 < V 13) : w_L_entryAt N p0 p1 p2 p3 h K := by
  subst e_p0
  unfold z_L_entryAt at hw
  unfold w_L_entryAt
  refine l_nn hw (fun i1_ e2_ hw => ?_)
  refine l_cv W rfl (l_p0 _ e2_) rfl ?_
  refine y_X11_entryAt W hw (fun v3_ h5_ s6_ W4_ hw => ?_) (fun _ _ _ W9 h9 => h9.imp (fun h9 => ⟨h9.1, hk _ _ _ W9 h9.2⟩) (fun h9 => ⟨h9.1, hk _ _ _ W9 h9.2⟩)) rfl (l_p0 _ e2_)
  refine ⟨_, e_p3, ?_⟩
  refine l_sL W4_ (f := 0) rfl l_p3 rfl hw (fun h8_ W7_ hw => ?_)
  exact hk _ _ _ W7_ hw
def z_L_counted (N : Nat) (p0 : Option Nat) (p1 : Int32) (p2 : Int32) (p3 : Int32) (h0 : St) (K : Int32 → St → Prop) : Prop :=
  nn p0 fun a1 =>
  z_X11_counted N a1 p1 p2 p3 h0 (fun v2 h3 =>
  wA 1 (0 : Int32) (stL h3 13 0 0 ((0 : Int32)).toNatClampNeg ((v2 : Int32).toInt64)) fun h7 =>
  K 0 h7) (fun E h4 => (E = "java/lang/IndexOutOfBoundsException" ∧ K 1 h4) ∨ (E = "java/lang/IllegalArgumentException" ∧ K 2 h4))
set_option maxHeartbeats 1000000 in
theorem y_L_counted {ad : Nat → Nat → Nat → Nat} {h : Hp} {V : Nat → Nat} {h0 : St} {N : Nat} (W : Wf ad h V h0) {p0 p0_ : Option Nat} {p1 : Int32} {p2 : Int32} {p3 : Int32} {p4 : Option Nat} {K : Int32 → Hp → Prop} {K9 : Int32 → St → Prop} (hw : z_L_counted N p0_ p1 p2 p3 h0 K9) (hk : ∀ (r0 : Int32), ∀ (h9 : Hp) (s9 : St), Wf ad h9 V s9 → K9 r0 s9 →  K r0 h9) (e_p0 : p0 = p0_.map (fun j => ad 11 j 0)) (l_p0 : ∀ r, p0_ = some r → r < V 11) (e_p4 : p4 = some (ad 13 0 1)) (l_p4 : 0 < V 13) : w_L_counted N p0 p1 p2 p3 p4 h K := by
  subst e_p0
  unfold z_L_counted at hw
  unfold w_L_counted
  refine l_nn hw (fun i1_ e2_ hw => ?_)
  refine l_cv W rfl (l_p0 _ e2_) rfl ?_
  refine y_X11_counted W hw (fun v3_ h5_ s6_ W4_ hw => ?_) (fun _ _ _ W9 h9 => h9.imp (fun h9 => ⟨h9.1, hk _ _ _ W9 h9.2⟩) (fun h9 => ⟨h9.1, hk _ _ _ W9 h9.2⟩)) rfl (l_p0 _ e2_)
  refine ⟨_, e_p4, ?_⟩
  refine l_sL W4_ (f := 0) rfl l_p4 rfl hw (fun h8_ W7_ hw => ?_)
  exact hk _ _ _ W7_ hw
def z_L_cachedAt (N : Nat) (p0 : Option Nat) (p1 : Int32) (h0 : St) (K : Int32 → St → Prop) : Prop :=
  nn p0 fun a1 =>
  z_X11_cachedAt N a1 p1 h0 (fun v2 h3 =>
  wA 1 (0 : Int32) (stL h3 13 0 0 ((0 : Int32)).toNatClampNeg ((v2 : Int32).toInt64)) fun h7 =>
  K 0 h7) (fun E h4 => (E = "java/util/NoSuchElementException" ∧ K 1 h4))
set_option maxHeartbeats 1000000 in
theorem y_L_cachedAt {ad : Nat → Nat → Nat → Nat} {h : Hp} {V : Nat → Nat} {h0 : St} {N : Nat} (W : Wf ad h V h0) {p0 p0_ : Option Nat} {p1 : Int32} {p2 : Option Nat} {K : Int32 → Hp → Prop} {K9 : Int32 → St → Prop} (hw : z_L_cachedAt N p0_ p1 h0 K9) (hk : ∀ (r0 : Int32), ∀ (h9 : Hp) (s9 : St), Wf ad h9 V s9 → K9 r0 s9 →  K r0 h9) (e_p0 : p0 = p0_.map (fun j => ad 11 j 0)) (l_p0 : ∀ r, p0_ = some r → r < V 11) (e_p2 : p2 = some (ad 13 0 1)) (l_p2 : 0 < V 13) : w_L_cachedAt N p0 p1 p2 h K := by
  subst e_p0
  unfold z_L_cachedAt at hw
  unfold w_L_cachedAt
  refine l_nn hw (fun i1_ e2_ hw => ?_)
  refine l_cv W rfl (l_p0 _ e2_) rfl ?_
  refine y_X11_cachedAt W hw (fun v3_ h5_ s6_ W4_ hw => ?_) (fun _ _ _ W9 h9 => ⟨h9.1, hk _ _ _ W9 h9.2⟩) rfl (l_p0 _ e2_)
  refine ⟨_, e_p2, ?_⟩
  refine l_sL W4_ (f := 0) rfl l_p2 rfl hw (fun h8_ W7_ hw => ?_)
  exact hk _ _ _ W7_ hw
def z_L_query (N : Nat) (p0 : Option Nat) (h0 : St) (K : Int32 → St → Prop) : Prop :=
  nn p0 fun a1 =>
  z_X11_query N a1 h0 (fun v2 h3 =>
  wA 1 (0 : Int32) (stL h3 13 0 0 ((0 : Int32)).toNatClampNeg ((v2 : Int32).toInt64)) fun h7 =>
  K 0 h7) (fun E h4 => (E = "java/lang/IllegalStateException" ∧ K 1 h4))
set_option maxHeartbeats 1000000 in
theorem y_L_query {ad : Nat → Nat → Nat → Nat} {h : Hp} {V : Nat → Nat} {h0 : St} {N : Nat} (W : Wf ad h V h0) {p0 p0_ : Option Nat} {p1 : Option Nat} {K : Int32 → Hp → Prop} {K9 : Int32 → St → Prop} (hw : z_L_query N p0_ h0 K9) (hk : ∀ (r0 : Int32), ∀ (ad9 : Nat → Nat → Nat → Nat) (V9 : Nat → Nat) (h9 : Hp) (s9 : St), Wf ad9 h9 V9 s9 → Ext ad V ad9 V9 → K9 r0 s9 →  K r0 h9) (e_p0 : p0 = p0_.map (fun j => ad 11 j 0)) (l_p0 : ∀ r, p0_ = some r → r < V 11) (e_p1 : p1 = some (ad 13 0 1)) (l_p1 : 0 < V 13) : w_L_query N p0 p1 h K := by
  subst e_p0
  unfold z_L_query at hw
  unfold w_L_query
  refine l_nn hw (fun i1_ e2_ hw => ?_)
  refine l_cv W rfl (l_p0 _ e2_) rfl ?_
  refine y_X11_query W hw (fun v3_ ad7_ V8_ h5_ s6_ W4_ E9_ hw => ?_) (fun _ _ _ _ _ W9 E9 h9 => ⟨h9.1, hk _ _ _ _ _ W9 (ext_trans (ext_refl ad V) E9) h9.2⟩) rfl (l_p0 _ e2_)
  refine ⟨_, (ext_pa E9_ e_p1 l_p1 rfl), ?_⟩
  refine l_sL W4_ (f := 0) rfl (ext_l E9_ l_p1) rfl hw (fun h11_ W10_ hw => ?_)
  exact hk _ _ _ _ _ W10_ (ext_trans (ext_refl ad V) E9_) hw
def z_L_from (N : Nat) (p0 : Option Nat) (p1 : Int32) (p2 : Int32) (h0 : St) (K : Int32 → St → Prop) : Prop :=
  nn p0 fun a1 =>
  z_X11_from N a1 p1 p2 h0 (fun v2 h3 =>
  wA 1 (0 : Int32) (stL h3 13 0 0 ((0 : Int32)).toNatClampNeg ((v2 : Int32).toInt64)) fun h7 =>
  K 0 h7) (fun E h4 => (E = "java/lang/IndexOutOfBoundsException" ∧ K 1 h4) ∨ (E = "java/lang/IllegalStateException" ∧ K 2 h4))
set_option maxHeartbeats 1000000 in
theorem y_L_from {ad : Nat → Nat → Nat → Nat} {h : Hp} {V : Nat → Nat} {h0 : St} {N : Nat} (W : Wf ad h V h0) {p0 p0_ : Option Nat} {p1 : Int32} {p2 : Int32} {p3 : Option Nat} {K : Int32 → Hp → Prop} {K9 : Int32 → St → Prop} (hw : z_L_from N p0_ p1 p2 h0 K9) (hk : ∀ (r0 : Int32), ∀ (h9 : Hp) (s9 : St), Wf ad h9 V s9 → K9 r0 s9 →  K r0 h9) (e_p0 : p0 = p0_.map (fun j => ad 11 j 0)) (l_p0 : ∀ r, p0_ = some r → r < V 11) (e_p3 : p3 = some (ad 13 0 1)) (l_p3 : 0 < V 13) : w_L_from N p0 p1 p2 p3 h K := by
  subst e_p0
  unfold z_L_from at hw
  unfold w_L_from
  refine l_nn hw (fun i1_ e2_ hw => ?_)
  refine l_cv W rfl (l_p0 _ e2_) rfl ?_
  refine y_X11_from W hw (fun v3_ h5_ s6_ W4_ hw => ?_) (fun _ _ _ W9 h9 => h9.imp (fun h9 => ⟨h9.1, hk _ _ _ W9 h9.2⟩) (fun h9 => ⟨h9.1, hk _ _ _ W9 h9.2⟩)) rfl (l_p0 _ e2_)
  refine ⟨_, e_p3, ?_⟩
  refine l_sL W4_ (f := 0) rfl l_p3 rfl hw (fun h8_ W7_ hw => ?_)
  exact hk _ _ _ W7_ hw
def z_L_where (N : Nat) (p0 : Option Nat) (p1 : Int32) (p2 : Int32) (p3 : Int32) (p4 : Int32) (p5 : Int32) (h0 : St) (K : Int32 → St → Prop) : Prop :=
  nn p0 fun a1 =>
  z_X11_where N a1 p1 p2 p3 p4 p5 h0 (fun v2 h3 =>
  wA 1 (0 : Int32) (stL h3 13 0 0 ((0 : Int32)).toNatClampNeg ((v2 : Int32).toInt64)) fun h7 =>
  K 0 h7) (fun E h4 => (E = "java/lang/IndexOutOfBoundsException" ∧ K 1 h4) ∨ (E = "java/lang/IllegalArgumentException" ∧ K 2 h4) ∨ (E = "java/lang/IllegalStateException" ∧ K 3 h4))
set_option maxHeartbeats 1000000 in
theorem y_L_where {ad : Nat → Nat → Nat → Nat} {h : Hp} {V : Nat → Nat} {h0 : St} {N : Nat} (W : Wf ad h V h0) {p0 p0_ : Option Nat} {p1 : Int32} {p2 : Int32} {p3 : Int32} {p4 : Int32} {p5 : Int32} {p6 : Option Nat} {K : Int32 → Hp → Prop} {K9 : Int32 → St → Prop} (hw : z_L_where N p0_ p1 p2 p3 p4 p5 h0 K9) (hk : ∀ (r0 : Int32), ∀ (ad9 : Nat → Nat → Nat → Nat) (V9 : Nat → Nat) (h9 : Hp) (s9 : St), Wf ad9 h9 V9 s9 → Ext ad V ad9 V9 → K9 r0 s9 →  K r0 h9) (e_p0 : p0 = p0_.map (fun j => ad 11 j 0)) (l_p0 : ∀ r, p0_ = some r → r < V 11) (e_p6 : p6 = some (ad 13 0 1)) (l_p6 : 0 < V 13) : w_L_where N p0 p1 p2 p3 p4 p5 p6 h K := by
  subst e_p0
  unfold z_L_where at hw
  unfold w_L_where
  refine l_nn hw (fun i1_ e2_ hw => ?_)
  refine l_cv W rfl (l_p0 _ e2_) rfl ?_
  refine y_X11_where W hw (fun v3_ ad7_ V8_ h5_ s6_ W4_ E9_ hw => ?_) (fun _ _ _ _ _ W9 E9 h9 => h9.imp (fun h9 => ⟨h9.1, hk _ _ _ _ _ W9 (ext_trans (ext_refl ad V) E9) h9.2⟩) (fun h9 => h9.imp (fun h9 => ⟨h9.1, hk _ _ _ _ _ W9 (ext_trans (ext_refl ad V) E9) h9.2⟩) (fun h9 => ⟨h9.1, hk _ _ _ _ _ W9 (ext_trans (ext_refl ad V) E9) h9.2⟩))) rfl (l_p0 _ e2_)
  refine ⟨_, (ext_pa E9_ e_p6 l_p6 rfl), ?_⟩
  refine l_sL W4_ (f := 0) rfl (ext_l E9_ l_p6) rfl hw (fun h11_ W10_ hw => ?_)
  exact hk _ _ _ _ _ W10_ (ext_trans (ext_refl ad V) E9_) hw
def z_L_join (N : Nat) (p0 : Option Nat) (p1 : Int32) (p2 : Int32) (p3 : Int32) (p4 : Int32) (p5 : Int32) (h0 : St) (K : Int32 → St → Prop) : Prop :=
  nn p0 fun a1 =>
  z_X11_join N a1 p1 p2 p3 p4 p5 h0 (fun v2 h3 =>
  wA 1 (0 : Int32) (stL h3 13 0 0 ((0 : Int32)).toNatClampNeg ((v2 : Int32).toInt64)) fun h7 =>
  K 0 h7) (fun E h4 => (E = "java/lang/IndexOutOfBoundsException" ∧ K 1 h4) ∨ (E = "java/lang/IllegalArgumentException" ∧ K 2 h4) ∨ (E = "java/lang/IllegalStateException" ∧ K 3 h4))
set_option maxHeartbeats 1000000 in
theorem y_L_join {ad : Nat → Nat → Nat → Nat} {h : Hp} {V : Nat → Nat} {h0 : St} {N : Nat} (W : Wf ad h V h0) {p0 p0_ : Option Nat} {p1 : Int32} {p2 : Int32} {p3 : Int32} {p4 : Int32} {p5 : Int32} {p6 : Option Nat} {K : Int32 → Hp → Prop} {K9 : Int32 → St → Prop} (hw : z_L_join N p0_ p1 p2 p3 p4 p5 h0 K9) (hk : ∀ (r0 : Int32), ∀ (ad9 : Nat → Nat → Nat → Nat) (V9 : Nat → Nat) (h9 : Hp) (s9 : St), Wf ad9 h9 V9 s9 → Ext ad V ad9 V9 → K9 r0 s9 →  K r0 h9) (e_p0 : p0 = p0_.map (fun j => ad 11 j 0)) (l_p0 : ∀ r, p0_ = some r → r < V 11) (e_p6 : p6 = some (ad 13 0 1)) (l_p6 : 0 < V 13) : w_L_join N p0 p1 p2 p3 p4 p5 p6 h K := by
  subst e_p0
  unfold z_L_join at hw
  unfold w_L_join
  refine l_nn hw (fun i1_ e2_ hw => ?_)
  refine l_cv W rfl (l_p0 _ e2_) rfl ?_
  refine y_X11_join W hw (fun v3_ ad7_ V8_ h5_ s6_ W4_ E9_ hw => ?_) (fun _ _ _ _ _ W9 E9 h9 => h9.imp (fun h9 => ⟨h9.1, hk _ _ _ _ _ W9 (ext_trans (ext_refl ad V) E9) h9.2⟩) (fun h9 => h9.imp (fun h9 => ⟨h9.1, hk _ _ _ _ _ W9 (ext_trans (ext_refl ad V) E9) h9.2⟩) (fun h9 => ⟨h9.1, hk _ _ _ _ _ W9 (ext_trans (ext_refl ad V) E9) h9.2⟩))) rfl (l_p0 _ e2_)
  refine ⟨_, (ext_pa E9_ e_p6 l_p6 rfl), ?_⟩
  refine l_sL W4_ (f := 0) rfl (ext_l E9_ l_p6) rfl hw (fun h11_ W10_ hw => ?_)
  exact hk _ _ _ _ _ W10_ (ext_trans (ext_refl ad V) E9_) hw
def z_L_answers (N : Nat) (p0 : Option Nat) (p1 : Int32) (h0 : St) (K : Int32 → St → Prop) : Prop :=
  nn p0 fun a1 =>
  z_X11_answers N a1 p1 h0 (fun v2 h3 =>
  wA 1 (0 : Int32) (stL h3 13 0 0 ((0 : Int32)).toNatClampNeg ((v2 : Int32).toInt64)) fun h7 =>
  K 0 h7) (fun E h4 => (E = "java/lang/IndexOutOfBoundsException" ∧ K 1 h4) ∨ (E = "java/lang/UnsupportedOperationException" ∧ K 2 h4))
set_option maxHeartbeats 1000000 in
theorem y_L_answers {ad : Nat → Nat → Nat → Nat} {h : Hp} {V : Nat → Nat} {h0 : St} {N : Nat} (W : Wf ad h V h0) {p0 p0_ : Option Nat} {p1 : Int32} {p2 : Option Nat} {K : Int32 → Hp → Prop} {K9 : Int32 → St → Prop} (hw : z_L_answers N p0_ p1 h0 K9) (hk : ∀ (r0 : Int32), ∀ (h9 : Hp) (s9 : St), Wf ad h9 V s9 → K9 r0 s9 →  K r0 h9) (e_p0 : p0 = p0_.map (fun j => ad 11 j 0)) (l_p0 : ∀ r, p0_ = some r → r < V 11) (e_p2 : p2 = some (ad 13 0 1)) (l_p2 : 0 < V 13) : w_L_answers N p0 p1 p2 h K := by
  subst e_p0
  unfold z_L_answers at hw
  unfold w_L_answers
  refine l_nn hw (fun i1_ e2_ hw => ?_)
  refine l_cv W rfl (l_p0 _ e2_) rfl ?_
  refine y_X11_answers W hw (fun v3_ h5_ s6_ W4_ hw => ?_) (fun _ _ _ W9 h9 => h9.imp (fun h9 => ⟨h9.1, hk _ _ _ W9 h9.2⟩) (fun h9 => ⟨h9.1, hk _ _ _ W9 h9.2⟩)) rfl (l_p0 _ e2_)
  refine ⟨_, e_p2, ?_⟩
  refine l_sL W4_ (f := 0) rfl l_p2 rfl hw (fun h8_ W7_ hw => ?_)
  exact hk _ _ _ W7_ hw
def z_L_answerAt (N : Nat) (p0 : Option Nat) (p1 : Int32) (p2 : Int32) (p3 : Int32) (h0 : St) (K : Int32 → St → Prop) : Prop :=
  nn p0 fun a1 =>
  z_X11_answerAt N a1 p1 p2 p3 h0 (fun v2 h3 =>
  wA 1 (0 : Int32) (stL h3 13 0 0 ((0 : Int32)).toNatClampNeg ((v2 : Int32).toInt64)) fun h7 =>
  K 0 h7) (fun E h4 => (E = "java/lang/IndexOutOfBoundsException" ∧ K 1 h4) ∨ (E = "java/lang/IllegalArgumentException" ∧ K 2 h4) ∨ (E = "java/util/NoSuchElementException" ∧ K 3 h4))
set_option maxHeartbeats 1000000 in
theorem y_L_answerAt {ad : Nat → Nat → Nat → Nat} {h : Hp} {V : Nat → Nat} {h0 : St} {N : Nat} (W : Wf ad h V h0) {p0 p0_ : Option Nat} {p1 : Int32} {p2 : Int32} {p3 : Int32} {p4 : Option Nat} {K : Int32 → Hp → Prop} {K9 : Int32 → St → Prop} (hw : z_L_answerAt N p0_ p1 p2 p3 h0 K9) (hk : ∀ (r0 : Int32), ∀ (h9 : Hp) (s9 : St), Wf ad h9 V s9 → K9 r0 s9 →  K r0 h9) (e_p0 : p0 = p0_.map (fun j => ad 11 j 0)) (l_p0 : ∀ r, p0_ = some r → r < V 11) (e_p4 : p4 = some (ad 13 0 1)) (l_p4 : 0 < V 13) : w_L_answerAt N p0 p1 p2 p3 p4 h K := by
  subst e_p0
  unfold z_L_answerAt at hw
  unfold w_L_answerAt
  refine l_nn hw (fun i1_ e2_ hw => ?_)
  refine l_cv W rfl (l_p0 _ e2_) rfl ?_
  refine y_X11_answerAt W hw (fun v3_ h5_ s6_ W4_ hw => ?_) (fun _ _ _ W9 h9 => h9.imp (fun h9 => ⟨h9.1, hk _ _ _ W9 h9.2⟩) (fun h9 => h9.imp (fun h9 => ⟨h9.1, hk _ _ _ W9 h9.2⟩) (fun h9 => ⟨h9.1, hk _ _ _ W9 h9.2⟩))) rfl (l_p0 _ e2_)
  refine ⟨_, e_p4, ?_⟩
  refine l_sL W4_ (f := 0) rfl l_p4 rfl hw (fun h8_ W7_ hw => ?_)
  exact hk _ _ _ W7_ hw
def z_L_sum (N : Nat) (p0 : Option Nat) (p1 : Int32) (p2 : Int32) (p3 : Int32) (h0 : St) (K : Int32 → St → Prop) : Prop :=
  nn p0 fun a1 =>
  z_X11_sum N a1 p1 p2 p3 h0 (fun v2 h3 =>
  wA 1 (0 : Int32) (stL h3 13 0 0 ((0 : Int32)).toNatClampNeg v2) fun h7 =>
  K 0 h7) (fun E h4 => (E = "java/lang/IndexOutOfBoundsException" ∧ K 1 h4) ∨ (E = "java/lang/IllegalArgumentException" ∧ K 2 h4))
set_option maxHeartbeats 1000000 in
theorem y_L_sum {ad : Nat → Nat → Nat → Nat} {h : Hp} {V : Nat → Nat} {h0 : St} {N : Nat} (W : Wf ad h V h0) {p0 p0_ : Option Nat} {p1 : Int32} {p2 : Int32} {p3 : Int32} {p4 : Option Nat} {K : Int32 → Hp → Prop} {K9 : Int32 → St → Prop} (hw : z_L_sum N p0_ p1 p2 p3 h0 K9) (hk : ∀ (r0 : Int32), ∀ (h9 : Hp) (s9 : St), Wf ad h9 V s9 → K9 r0 s9 →  K r0 h9) (e_p0 : p0 = p0_.map (fun j => ad 11 j 0)) (l_p0 : ∀ r, p0_ = some r → r < V 11) (e_p4 : p4 = some (ad 13 0 1)) (l_p4 : 0 < V 13) : w_L_sum N p0 p1 p2 p3 p4 h K := by
  subst e_p0
  unfold z_L_sum at hw
  unfold w_L_sum
  refine l_nn hw (fun i1_ e2_ hw => ?_)
  refine l_cv W rfl (l_p0 _ e2_) rfl ?_
  refine y_X11_sum W hw (fun v3_ h5_ s6_ W4_ hw => ?_) (fun _ _ _ W9 h9 => h9.imp (fun h9 => ⟨h9.1, hk _ _ _ W9 h9.2⟩) (fun h9 => ⟨h9.1, hk _ _ _ W9 h9.2⟩)) rfl (l_p0 _ e2_)
  refine ⟨_, e_p4, ?_⟩
  refine l_sL W4_ (f := 0) rfl l_p4 rfl hw (fun h8_ W7_ hw => ?_)
  exact hk _ _ _ W7_ hw
def z_L_planned (N : Nat) (p0 : Option Nat) (p1 : Int32) (p2 : Int32) (p3 : Int32) (h0 : St) (K : Int32 → St → Prop) : Prop :=
  nn p0 fun a1 =>
  z_X11_planned N a1 p1 p2 p3 h0 (fun v2 h3 =>
  wA 1 (0 : Int32) (stL h3 13 0 0 ((0 : Int32)).toNatClampNeg ((v2 : Int32).toInt64)) fun h7 =>
  K 0 h7) (fun E h4 => (E = "java/lang/IllegalArgumentException" ∧ K 1 h4) ∨ (E = "java/lang/IndexOutOfBoundsException" ∧ K 2 h4) ∨ (E = "java/util/NoSuchElementException" ∧ K 3 h4))
set_option maxHeartbeats 1000000 in
theorem y_L_planned {ad : Nat → Nat → Nat → Nat} {h : Hp} {V : Nat → Nat} {h0 : St} {N : Nat} (W : Wf ad h V h0) {p0 p0_ : Option Nat} {p1 : Int32} {p2 : Int32} {p3 : Int32} {p4 : Option Nat} {K : Int32 → Hp → Prop} {K9 : Int32 → St → Prop} (hw : z_L_planned N p0_ p1 p2 p3 h0 K9) (hk : ∀ (r0 : Int32), ∀ (h9 : Hp) (s9 : St), Wf ad h9 V s9 → K9 r0 s9 →  K r0 h9) (e_p0 : p0 = p0_.map (fun j => ad 11 j 0)) (l_p0 : ∀ r, p0_ = some r → r < V 11) (e_p4 : p4 = some (ad 13 0 1)) (l_p4 : 0 < V 13) : w_L_planned N p0 p1 p2 p3 p4 h K := by
  subst e_p0
  unfold z_L_planned at hw
  unfold w_L_planned
  refine l_nn hw (fun i1_ e2_ hw => ?_)
  refine l_cv W rfl (l_p0 _ e2_) rfl ?_
  refine y_X11_planned W hw (fun v3_ h5_ s6_ W4_ hw => ?_) (fun _ _ _ W9 h9 => h9.imp (fun h9 => ⟨h9.1, hk _ _ _ W9 h9.2⟩) (fun h9 => h9.imp (fun h9 => ⟨h9.1, hk _ _ _ W9 h9.2⟩) (fun h9 => ⟨h9.1, hk _ _ _ W9 h9.2⟩))) rfl (l_p0 _ e2_)
  refine ⟨_, e_p4, ?_⟩
  refine l_sL W4_ (f := 0) rfl l_p4 rfl hw (fun h8_ W7_ hw => ?_)
  exact hk _ _ _ W7_ hw
def z_L_way (N : Nat) (p0 : Option Nat) (p1 : Int32) (p2 : Int32) (p3 : Int32) (h0 : St) (K : Int32 → St → Prop) : Prop :=
  nn p0 fun a1 =>
  z_X11_way N a1 p1 p2 p3 h0 (fun v2 h3 =>
  wA 1 (0 : Int32) (stL h3 13 0 0 ((0 : Int32)).toNatClampNeg ((v2 : Int32).toInt64)) fun h7 =>
  K 0 h7) (fun E h4 => (E = "java/lang/IllegalArgumentException" ∧ K 1 h4) ∨ (E = "java/lang/IndexOutOfBoundsException" ∧ K 2 h4) ∨ (E = "java/util/NoSuchElementException" ∧ K 3 h4))
set_option maxHeartbeats 1000000 in
theorem y_L_way {ad : Nat → Nat → Nat → Nat} {h : Hp} {V : Nat → Nat} {h0 : St} {N : Nat} (W : Wf ad h V h0) {p0 p0_ : Option Nat} {p1 : Int32} {p2 : Int32} {p3 : Int32} {p4 : Option Nat} {K : Int32 → Hp → Prop} {K9 : Int32 → St → Prop} (hw : z_L_way N p0_ p1 p2 p3 h0 K9) (hk : ∀ (r0 : Int32), ∀ (h9 : Hp) (s9 : St), Wf ad h9 V s9 → K9 r0 s9 →  K r0 h9) (e_p0 : p0 = p0_.map (fun j => ad 11 j 0)) (l_p0 : ∀ r, p0_ = some r → r < V 11) (e_p4 : p4 = some (ad 13 0 1)) (l_p4 : 0 < V 13) : w_L_way N p0 p1 p2 p3 p4 h K := by
  subst e_p0
  unfold z_L_way at hw
  unfold w_L_way
  refine l_nn hw (fun i1_ e2_ hw => ?_)
  refine l_cv W rfl (l_p0 _ e2_) rfl ?_
  refine y_X11_way W hw (fun v3_ h5_ s6_ W4_ hw => ?_) (fun _ _ _ W9 h9 => h9.imp (fun h9 => ⟨h9.1, hk _ _ _ W9 h9.2⟩) (fun h9 => h9.imp (fun h9 => ⟨h9.1, hk _ _ _ W9 h9.2⟩) (fun h9 => ⟨h9.1, hk _ _ _ W9 h9.2⟩))) rfl (l_p0 _ e2_)
  refine ⟨_, e_p4, ?_⟩
  refine l_sL W4_ (f := 0) rfl l_p4 rfl hw (fun h8_ W7_ hw => ?_)
  exact hk _ _ _ W7_ hw
def z_L_usedIndex (N : Nat) (p0 : Option Nat) (p1 : Int32) (p2 : Int32) (p3 : Int32) (h0 : St) (K : Int32 → St → Prop) : Prop :=
  nn p0 fun a1 =>
  z_X11_usedIndex N a1 p1 p2 p3 h0 (fun v2 h3 =>
  wA 1 (0 : Int32) (stL h3 13 0 0 ((0 : Int32)).toNatClampNeg ((v2 : Int32).toInt64)) fun h7 =>
  K 0 h7) (fun E h4 => (E = "java/lang/IllegalArgumentException" ∧ K 1 h4) ∨ (E = "java/lang/IndexOutOfBoundsException" ∧ K 2 h4) ∨ (E = "java/util/NoSuchElementException" ∧ K 3 h4))
set_option maxHeartbeats 1000000 in
theorem y_L_usedIndex {ad : Nat → Nat → Nat → Nat} {h : Hp} {V : Nat → Nat} {h0 : St} {N : Nat} (W : Wf ad h V h0) {p0 p0_ : Option Nat} {p1 : Int32} {p2 : Int32} {p3 : Int32} {p4 : Option Nat} {K : Int32 → Hp → Prop} {K9 : Int32 → St → Prop} (hw : z_L_usedIndex N p0_ p1 p2 p3 h0 K9) (hk : ∀ (r0 : Int32), ∀ (h9 : Hp) (s9 : St), Wf ad h9 V s9 → K9 r0 s9 →  K r0 h9) (e_p0 : p0 = p0_.map (fun j => ad 11 j 0)) (l_p0 : ∀ r, p0_ = some r → r < V 11) (e_p4 : p4 = some (ad 13 0 1)) (l_p4 : 0 < V 13) : w_L_usedIndex N p0 p1 p2 p3 p4 h K := by
  subst e_p0
  unfold z_L_usedIndex at hw
  unfold w_L_usedIndex
  refine l_nn hw (fun i1_ e2_ hw => ?_)
  refine l_cv W rfl (l_p0 _ e2_) rfl ?_
  refine y_X11_usedIndex W hw (fun v3_ h5_ s6_ W4_ hw => ?_) (fun _ _ _ W9 h9 => h9.imp (fun h9 => ⟨h9.1, hk _ _ _ W9 h9.2⟩) (fun h9 => h9.imp (fun h9 => ⟨h9.1, hk _ _ _ W9 h9.2⟩) (fun h9 => ⟨h9.1, hk _ _ _ W9 h9.2⟩))) rfl (l_p0 _ e2_)
  refine ⟨_, e_p4, ?_⟩
  refine l_sL W4_ (f := 0) rfl l_p4 rfl hw (fun h8_ W7_ hw => ?_)
  exact hk _ _ _ W7_ hw
def z_L_estimate (N : Nat) (p0 : Option Nat) (p1 : Int32) (p2 : Int32) (h0 : St) (K : Int32 → St → Prop) : Prop :=
  nn p0 fun a1 =>
  z_X11_estimate N a1 p1 p2 h0 (fun v2 h3 =>
  wA 1 (0 : Int32) (stL h3 13 0 0 ((0 : Int32)).toNatClampNeg v2) fun h7 =>
  K 0 h7) (fun E h4 => (E = "java/lang/IllegalArgumentException" ∧ K 1 h4) ∨ (E = "java/lang/IndexOutOfBoundsException" ∧ K 2 h4) ∨ (E = "java/lang/UnsupportedOperationException" ∧ K 3 h4))
set_option maxHeartbeats 1000000 in
theorem y_L_estimate {ad : Nat → Nat → Nat → Nat} {h : Hp} {V : Nat → Nat} {h0 : St} {N : Nat} (W : Wf ad h V h0) {p0 p0_ : Option Nat} {p1 : Int32} {p2 : Int32} {p3 : Option Nat} {K : Int32 → Hp → Prop} {K9 : Int32 → St → Prop} (hw : z_L_estimate N p0_ p1 p2 h0 K9) (hk : ∀ (r0 : Int32), ∀ (h9 : Hp) (s9 : St), Wf ad h9 V s9 → K9 r0 s9 →  K r0 h9) (e_p0 : p0 = p0_.map (fun j => ad 11 j 0)) (l_p0 : ∀ r, p0_ = some r → r < V 11) (e_p3 : p3 = some (ad 13 0 1)) (l_p3 : 0 < V 13) : w_L_estimate N p0 p1 p2 p3 h K := by
  subst e_p0
  unfold z_L_estimate at hw
  unfold w_L_estimate
  refine l_nn hw (fun i1_ e2_ hw => ?_)
  refine l_cv W rfl (l_p0 _ e2_) rfl ?_
  refine y_X11_estimate W hw (fun v3_ h5_ s6_ W4_ hw => ?_) (fun _ _ _ W9 h9 => h9.imp (fun h9 => ⟨h9.1, hk _ _ _ W9 h9.2⟩) (fun h9 => h9.imp (fun h9 => ⟨h9.1, hk _ _ _ W9 h9.2⟩) (fun h9 => ⟨h9.1, hk _ _ _ W9 h9.2⟩))) rfl (l_p0 _ e2_)
  refine ⟨_, e_p3, ?_⟩
  refine l_sL W4_ (f := 0) rfl l_p3 rfl hw (fun h8_ W7_ hw => ?_)
  exact hk _ _ _ W7_ hw
def z_L_cold (N : Nat) (p0 : Option Nat) (p1 : Int32) (p2 : Int32) (h0 : St) (K : Int32 → St → Prop) : Prop :=
  nn p0 fun a1 =>
  z_X11_cold N a1 p1 p2 h0 (fun v2 h3 =>
  wA 1 (0 : Int32) (stL h3 13 0 0 ((0 : Int32)).toNatClampNeg ((v2 : Int32).toInt64)) fun h7 =>
  K 0 h7) (fun E h4 => (E = "java/lang/IllegalArgumentException" ∧ K 1 h4) ∨ (E = "java/lang/IndexOutOfBoundsException" ∧ K 2 h4) ∨ (E = "java/lang/UnsupportedOperationException" ∧ K 3 h4))
set_option maxHeartbeats 1000000 in
theorem y_L_cold {ad : Nat → Nat → Nat → Nat} {h : Hp} {V : Nat → Nat} {h0 : St} {N : Nat} (W : Wf ad h V h0) {p0 p0_ : Option Nat} {p1 : Int32} {p2 : Int32} {p3 : Option Nat} {K : Int32 → Hp → Prop} {K9 : Int32 → St → Prop} (hw : z_L_cold N p0_ p1 p2 h0 K9) (hk : ∀ (r0 : Int32), ∀ (h9 : Hp) (s9 : St), Wf ad h9 V s9 → K9 r0 s9 →  K r0 h9) (e_p0 : p0 = p0_.map (fun j => ad 11 j 0)) (l_p0 : ∀ r, p0_ = some r → r < V 11) (e_p3 : p3 = some (ad 13 0 1)) (l_p3 : 0 < V 13) : w_L_cold N p0 p1 p2 p3 h K := by
  subst e_p0
  unfold z_L_cold at hw
  unfold w_L_cold
  refine l_nn hw (fun i1_ e2_ hw => ?_)
  refine l_cv W rfl (l_p0 _ e2_) rfl ?_
  refine y_X11_cold W hw (fun v3_ h5_ s6_ W4_ hw => ?_) (fun _ _ _ W9 h9 => h9.imp (fun h9 => ⟨h9.1, hk _ _ _ W9 h9.2⟩) (fun h9 => h9.imp (fun h9 => ⟨h9.1, hk _ _ _ W9 h9.2⟩) (fun h9 => ⟨h9.1, hk _ _ _ W9 h9.2⟩))) rfl (l_p0 _ e2_)
  refine ⟨_, e_p3, ?_⟩
  refine l_sL W4_ (f := 0) rfl l_p3 rfl hw (fun h8_ W7_ hw => ?_)
  exact hk _ _ _ W7_ hw
def z_L_reads (N : Nat) (p0 : Option Nat) (p1 : Int32) (p2 : Int32) (h0 : St) (K : Int32 → St → Prop) : Prop :=
  nn p0 fun a1 =>
  z_X11_reads N a1 p1 p2 h0 (fun v2 h3 =>
  wA 1 (0 : Int32) (stL h3 13 0 0 ((0 : Int32)).toNatClampNeg ((v2 : Int32).toInt64)) fun h7 =>
  K 0 h7) (fun E h4 => (E = "java/lang/IllegalArgumentException" ∧ K 1 h4) ∨ (E = "java/lang/IndexOutOfBoundsException" ∧ K 2 h4) ∨ (E = "java/lang/UnsupportedOperationException" ∧ K 3 h4))
set_option maxHeartbeats 1000000 in
theorem y_L_reads {ad : Nat → Nat → Nat → Nat} {h : Hp} {V : Nat → Nat} {h0 : St} {N : Nat} (W : Wf ad h V h0) {p0 p0_ : Option Nat} {p1 : Int32} {p2 : Int32} {p3 : Option Nat} {K : Int32 → Hp → Prop} {K9 : Int32 → St → Prop} (hw : z_L_reads N p0_ p1 p2 h0 K9) (hk : ∀ (r0 : Int32), ∀ (h9 : Hp) (s9 : St), Wf ad h9 V s9 → K9 r0 s9 →  K r0 h9) (e_p0 : p0 = p0_.map (fun j => ad 11 j 0)) (l_p0 : ∀ r, p0_ = some r → r < V 11) (e_p3 : p3 = some (ad 13 0 1)) (l_p3 : 0 < V 13) : w_L_reads N p0 p1 p2 p3 h K := by
  subst e_p0
  unfold z_L_reads at hw
  unfold w_L_reads
  refine l_nn hw (fun i1_ e2_ hw => ?_)
  refine l_cv W rfl (l_p0 _ e2_) rfl ?_
  refine y_X11_reads W hw (fun v3_ h5_ s6_ W4_ hw => ?_) (fun _ _ _ W9 h9 => h9.imp (fun h9 => ⟨h9.1, hk _ _ _ W9 h9.2⟩) (fun h9 => h9.imp (fun h9 => ⟨h9.1, hk _ _ _ W9 h9.2⟩) (fun h9 => ⟨h9.1, hk _ _ _ W9 h9.2⟩))) rfl (l_p0 _ e2_)
  refine ⟨_, e_p3, ?_⟩
  refine l_sL W4_ (f := 0) rfl l_p3 rfl hw (fun h8_ W7_ hw => ?_)
  exact hk _ _ _ W7_ hw
def z_L_ban (N : Nat) (p0 : Option Nat) (p1 : Int32) (p2 : Int32) (h0 : St) (K : Int32 → St → Prop) : Prop :=
  nn p0 fun a1 =>
  z_X11_ban N a1 p1 p2 h0 (fun v2 h3 =>
  wA 1 (0 : Int32) (stL h3 13 0 0 ((0 : Int32)).toNatClampNeg ((v2 : Int32).toInt64)) fun h7 =>
  K 0 h7) (fun E h4 => (E = "java/lang/IllegalArgumentException" ∧ K 1 h4) ∨ (E = "java/lang/IndexOutOfBoundsException" ∧ K 2 h4) ∨ (E = "java/lang/UnsupportedOperationException" ∧ K 3 h4) ∨ (E = "java/lang/IllegalStateException" ∧ K 4 h4))
set_option maxHeartbeats 1000000 in
theorem y_L_ban {ad : Nat → Nat → Nat → Nat} {h : Hp} {V : Nat → Nat} {h0 : St} {N : Nat} (W : Wf ad h V h0) {p0 p0_ : Option Nat} {p1 : Int32} {p2 : Int32} {p3 : Option Nat} {K : Int32 → Hp → Prop} {K9 : Int32 → St → Prop} (hw : z_L_ban N p0_ p1 p2 h0 K9) (hk : ∀ (r0 : Int32), ∀ (h9 : Hp) (s9 : St), Wf ad h9 V s9 → K9 r0 s9 →  K r0 h9) (e_p0 : p0 = p0_.map (fun j => ad 11 j 0)) (l_p0 : ∀ r, p0_ = some r → r < V 11) (e_p3 : p3 = some (ad 13 0 1)) (l_p3 : 0 < V 13) : w_L_ban N p0 p1 p2 p3 h K := by
  subst e_p0
  unfold z_L_ban at hw
  unfold w_L_ban
  refine l_nn hw (fun i1_ e2_ hw => ?_)
  refine l_cv W rfl (l_p0 _ e2_) rfl ?_
  refine y_X11_ban W hw (fun v3_ h5_ s6_ W4_ hw => ?_) (fun _ _ _ W9 h9 => h9.imp (fun h9 => ⟨h9.1, hk _ _ _ W9 h9.2⟩) (fun h9 => h9.imp (fun h9 => ⟨h9.1, hk _ _ _ W9 h9.2⟩) (fun h9 => h9.imp (fun h9 => ⟨h9.1, hk _ _ _ W9 h9.2⟩) (fun h9 => ⟨h9.1, hk _ _ _ W9 h9.2⟩)))) rfl (l_p0 _ e2_)
  refine ⟨_, e_p3, ?_⟩
  refine l_sL W4_ (f := 0) rfl l_p3 rfl hw (fun h8_ W7_ hw => ?_)
  exact hk _ _ _ W7_ hw
def z_L_round (N : Nat) (p0 : Option Nat) (p1 : Int32) (h0 : St) (K : Int32 → St → Prop) : Prop :=
  nn p0 fun a1 =>
  z_X11_round N a1 p1 h0 (fun v2 h3 =>
  wA 1 (0 : Int32) (stL h3 13 0 0 ((0 : Int32)).toNatClampNeg ((v2 : Int32).toInt64)) fun h7 =>
  K 0 h7) (fun E h4 => (E = "java/lang/IndexOutOfBoundsException" ∧ K 1 h4) ∨ (E = "java/lang/UnsupportedOperationException" ∧ K 2 h4))
set_option maxHeartbeats 1000000 in
theorem y_L_round {ad : Nat → Nat → Nat → Nat} {h : Hp} {V : Nat → Nat} {h0 : St} {N : Nat} (W : Wf ad h V h0) {p0 p0_ : Option Nat} {p1 : Int32} {p2 : Option Nat} {K : Int32 → Hp → Prop} {K9 : Int32 → St → Prop} (hw : z_L_round N p0_ p1 h0 K9) (hk : ∀ (r0 : Int32), ∀ (h9 : Hp) (s9 : St), Wf ad h9 V s9 → K9 r0 s9 →  K r0 h9) (e_p0 : p0 = p0_.map (fun j => ad 11 j 0)) (l_p0 : ∀ r, p0_ = some r → r < V 11) (e_p2 : p2 = some (ad 13 0 1)) (l_p2 : 0 < V 13) : w_L_round N p0 p1 p2 h K := by
  subst e_p0
  unfold z_L_round at hw
  unfold w_L_round
  refine l_nn hw (fun i1_ e2_ hw => ?_)
  refine l_cv W rfl (l_p0 _ e2_) rfl ?_
  refine y_X11_round W hw (fun v3_ h5_ s6_ W4_ hw => ?_) (fun _ _ _ W9 h9 => h9.imp (fun h9 => ⟨h9.1, hk _ _ _ W9 h9.2⟩) (fun h9 => ⟨h9.1, hk _ _ _ W9 h9.2⟩)) rfl (l_p0 _ e2_)
  refine ⟨_, e_p2, ?_⟩
  refine l_sL W4_ (f := 0) rfl l_p2 rfl hw (fun h8_ W7_ hw => ?_)
  exact hk _ _ _ W7_ hw
def z_L_appeal (N : Nat) (p0 : Option Nat) (p1 : Int32) (h0 : St) (K : Int32 → St → Prop) : Prop :=
  nn p0 fun a1 =>
  z_X11_appeal N a1 p1 h0 (fun v2 h3 =>
  wA 1 (0 : Int32) (stL h3 13 0 0 ((0 : Int32)).toNatClampNeg ((v2 : Int32).toInt64)) fun h7 =>
  K 0 h7) (fun E h4 => (E = "java/lang/IllegalArgumentException" ∧ K 1 h4) ∨ (E = "java/lang/UnsupportedOperationException" ∧ K 2 h4) ∨ (E = "java/lang/IllegalStateException" ∧ K 3 h4))
set_option maxHeartbeats 1000000 in
theorem y_L_appeal {ad : Nat → Nat → Nat → Nat} {h : Hp} {V : Nat → Nat} {h0 : St} {N : Nat} (W : Wf ad h V h0) {p0 p0_ : Option Nat} {p1 : Int32} {p2 : Option Nat} {K : Int32 → Hp → Prop} {K9 : Int32 → St → Prop} (hw : z_L_appeal N p0_ p1 h0 K9) (hk : ∀ (r0 : Int32), ∀ (h9 : Hp) (s9 : St), Wf ad h9 V s9 → K9 r0 s9 →  K r0 h9) (e_p0 : p0 = p0_.map (fun j => ad 11 j 0)) (l_p0 : ∀ r, p0_ = some r → r < V 11) (e_p2 : p2 = some (ad 13 0 1)) (l_p2 : 0 < V 13) : w_L_appeal N p0 p1 p2 h K := by
  subst e_p0
  unfold z_L_appeal at hw
  unfold w_L_appeal
  refine l_nn hw (fun i1_ e2_ hw => ?_)
  refine l_cv W rfl (l_p0 _ e2_) rfl ?_
  refine y_X11_appeal W hw (fun v3_ h5_ s6_ W4_ hw => ?_) (fun _ _ _ W9 h9 => h9.imp (fun h9 => ⟨h9.1, hk _ _ _ W9 h9.2⟩) (fun h9 => h9.imp (fun h9 => ⟨h9.1, hk _ _ _ W9 h9.2⟩) (fun h9 => ⟨h9.1, hk _ _ _ W9 h9.2⟩))) rfl (l_p0 _ e2_)
  refine ⟨_, e_p2, ?_⟩
  refine l_sL W4_ (f := 0) rfl l_p2 rfl hw (fun h8_ W7_ hw => ?_)
  exact hk _ _ _ W7_ hw
def z_L_coins (N : Nat) (p0 : Option Nat) (p1 : Int32) (h0 : St) (K : Int32 → St → Prop) : Prop :=
  nn p0 fun a1 =>
  z_X11_coins N a1 p1 h0 (fun v2 h3 =>
  wA 1 (0 : Int32) (stL h3 13 0 0 ((0 : Int32)).toNatClampNeg ((v2 : Int32).toInt64)) fun h7 =>
  K 0 h7) (fun E h4 => (E = "java/lang/IllegalArgumentException" ∧ K 1 h4))
set_option maxHeartbeats 1000000 in
theorem y_L_coins {ad : Nat → Nat → Nat → Nat} {h : Hp} {V : Nat → Nat} {h0 : St} {N : Nat} (W : Wf ad h V h0) {p0 p0_ : Option Nat} {p1 : Int32} {p2 : Option Nat} {K : Int32 → Hp → Prop} {K9 : Int32 → St → Prop} (hw : z_L_coins N p0_ p1 h0 K9) (hk : ∀ (r0 : Int32), ∀ (h9 : Hp) (s9 : St), Wf ad h9 V s9 → K9 r0 s9 →  K r0 h9) (e_p0 : p0 = p0_.map (fun j => ad 11 j 0)) (l_p0 : ∀ r, p0_ = some r → r < V 11) (e_p2 : p2 = some (ad 13 0 1)) (l_p2 : 0 < V 13) : w_L_coins N p0 p1 p2 h K := by
  subst e_p0
  unfold z_L_coins at hw
  unfold w_L_coins
  refine l_nn hw (fun i1_ e2_ hw => ?_)
  refine l_cv W rfl (l_p0 _ e2_) rfl ?_
  refine y_X11_coins W hw (fun v3_ h5_ s6_ W4_ hw => ?_) (fun _ _ _ W9 h9 => ⟨h9.1, hk _ _ _ W9 h9.2⟩) rfl (l_p0 _ e2_)
  refine ⟨_, e_p2, ?_⟩
  refine l_sL W4_ (f := 0) rfl l_p2 rfl hw (fun h8_ W7_ hw => ?_)
  exact hk _ _ _ W7_ hw
def z_L_misses (N : Nat) (p0 : Option Nat) (p1 : Int32) (p2 : Int32) (h0 : St) (K : Int32 → St → Prop) : Prop :=
  nn p0 fun a1 =>
  z_X11_misses N a1 p1 p2 h0 (fun v2 h3 =>
  wA 1 (0 : Int32) (stL h3 13 0 0 ((0 : Int32)).toNatClampNeg ((v2 : Int32).toInt64)) fun h7 =>
  K 0 h7) (fun E h4 => (E = "java/lang/IllegalArgumentException" ∧ K 1 h4) ∨ (E = "java/util/NoSuchElementException" ∧ K 2 h4))
set_option maxHeartbeats 1000000 in
theorem y_L_misses {ad : Nat → Nat → Nat → Nat} {h : Hp} {V : Nat → Nat} {h0 : St} {N : Nat} (W : Wf ad h V h0) {p0 p0_ : Option Nat} {p1 : Int32} {p2 : Int32} {p3 : Option Nat} {K : Int32 → Hp → Prop} {K9 : Int32 → St → Prop} (hw : z_L_misses N p0_ p1 p2 h0 K9) (hk : ∀ (r0 : Int32), ∀ (h9 : Hp) (s9 : St), Wf ad h9 V s9 → K9 r0 s9 →  K r0 h9) (e_p0 : p0 = p0_.map (fun j => ad 11 j 0)) (l_p0 : ∀ r, p0_ = some r → r < V 11) (e_p3 : p3 = some (ad 13 0 1)) (l_p3 : 0 < V 13) : w_L_misses N p0 p1 p2 p3 h K := by
  subst e_p0
  unfold z_L_misses at hw
  unfold w_L_misses
  refine l_nn hw (fun i1_ e2_ hw => ?_)
  refine l_cv W rfl (l_p0 _ e2_) rfl ?_
  refine y_X11_misses W hw (fun v3_ h5_ s6_ W4_ hw => ?_) (fun _ _ _ W9 h9 => h9.imp (fun h9 => ⟨h9.1, hk _ _ _ W9 h9.2⟩) (fun h9 => ⟨h9.1, hk _ _ _ W9 h9.2⟩)) rfl (l_p0 _ e2_)
  refine ⟨_, e_p3, ?_⟩
  refine l_sL W4_ (f := 0) rfl l_p3 rfl hw (fun h8_ W7_ hw => ?_)
  exact hk _ _ _ W7_ hw
def z_L_total (N : Nat) (p0 : Option Nat) (p1 : Int32) (h0 : St) (K : Int32 → St → Prop) : Prop :=
  nn p0 fun a1 =>
  z_X11_total N a1 p1 h0 (fun v2 h3 =>
  wA 1 (0 : Int32) (stL h3 13 0 0 ((0 : Int32)).toNatClampNeg ((v2 : Int32).toInt64)) fun h7 =>
  K 0 h7) (fun E h4 => (E = "java/lang/IllegalArgumentException" ∧ K 1 h4))
set_option maxHeartbeats 1000000 in
theorem y_L_total {ad : Nat → Nat → Nat → Nat} {h : Hp} {V : Nat → Nat} {h0 : St} {N : Nat} (W : Wf ad h V h0) {p0 p0_ : Option Nat} {p1 : Int32} {p2 : Option Nat} {K : Int32 → Hp → Prop} {K9 : Int32 → St → Prop} (hw : z_L_total N p0_ p1 h0 K9) (hk : ∀ (r0 : Int32), ∀ (h9 : Hp) (s9 : St), Wf ad h9 V s9 → K9 r0 s9 →  K r0 h9) (e_p0 : p0 = p0_.map (fun j => ad 11 j 0)) (l_p0 : ∀ r, p0_ = some r → r < V 11) (e_p2 : p2 = some (ad 13 0 1)) (l_p2 : 0 < V 13) : w_L_total N p0 p1 p2 h K := by
  subst e_p0
  unfold z_L_total at hw
  unfold w_L_total
  refine l_nn hw (fun i1_ e2_ hw => ?_)
  refine l_cv W rfl (l_p0 _ e2_) rfl ?_
  refine y_X11_total W hw (fun v3_ h5_ s6_ W4_ hw => ?_) (fun _ _ _ W9 h9 => ⟨h9.1, hk _ _ _ W9 h9.2⟩) rfl (l_p0 _ e2_)
  refine ⟨_, e_p2, ?_⟩
  refine l_sL W4_ (f := 0) rfl l_p2 rfl hw (fun h8_ W7_ hw => ?_)
  exact hk _ _ _ W7_ hw
def z_L_hitShare (N : Nat) (p0 : Option Nat) (p1 : Int32) (p2 : Int32) (h0 : St) (K : Int32 → St → Prop) : Prop :=
  nn p0 fun a1 =>
  z_X11_hitShare N a1 p1 p2 h0 (fun v2 h3 =>
  ok (vf_n64 (FP.f2d v2)) <|
  wA 1 (0 : Int32) (stD h3 ((0 : Int32)).toNatClampNeg (FP.f2d v2)) fun h7 =>
  K 0 h7) (fun E h4 => (E = "java/lang/IllegalArgumentException" ∧ K 1 h4) ∨ (E = "java/lang/IndexOutOfBoundsException" ∧ K 2 h4) ∨ (E = "java/lang/UnsupportedOperationException" ∧ K 3 h4) ∨ (E = "java/lang/ArithmeticException" ∧ K 4 h4))
set_option maxHeartbeats 1000000 in
theorem y_L_hitShare {ad : Nat → Nat → Nat → Nat} {h : Hp} {V : Nat → Nat} {h0 : St} {N : Nat} (W : Wf ad h V h0) {p0 p0_ : Option Nat} {p1 : Int32} {p2 : Int32} {p3 : Option Nat} {K : Int32 → Hp → Prop} {K9 : Int32 → St → Prop} (hw : z_L_hitShare N p0_ p1 p2 h0 K9) (hk : ∀ (r0 : Int32), ∀ (h9 : Hp) (s9 : St), Wf ad h9 V s9 → K9 r0 s9 →  K r0 h9) (e_p0 : p0 = p0_.map (fun j => ad 11 j 0)) (l_p0 : ∀ r, p0_ = some r → r < V 11) (e_p3 : p3 = some (ad 14 0 1)) (l_p3 : 0 < V 14) (hv14 : V 14 ≤ 1) : w_L_hitShare N p0 p1 p2 p3 h K := by
  subst e_p0
  unfold z_L_hitShare at hw
  unfold w_L_hitShare
  refine l_nn hw (fun i1_ e2_ hw => ?_)
  refine l_cv W rfl (l_p0 _ e2_) rfl ?_
  refine y_X11_hitShare W hw (fun v3_ h5_ s6_ W4_ hw => ?_) (fun _ _ _ W9 h9 => h9.imp (fun h9 => ⟨h9.1, hk _ _ _ W9 h9.2⟩) (fun h9 => h9.imp (fun h9 => ⟨h9.1, hk _ _ _ W9 h9.2⟩) (fun h9 => h9.imp (fun h9 => ⟨h9.1, hk _ _ _ W9 h9.2⟩) (fun h9 => ⟨h9.1, hk _ _ _ W9 h9.2⟩)))) rfl (l_p0 _ e2_)
  refine l_ok hw (fun _ hw => ?_)
  refine ⟨_, e_p3, ?_⟩
  refine l_sD W4_ (f := 0) rfl l_p3 rfl (hu14 hv14) hw (fun h8_ W7_ hw => ?_)
  exact hk _ _ _ W7_ hw
def z_L_meanMisses (N : Nat) (p0 : Option Nat) (h0 : St) (K : Int32 → St → Prop) : Prop :=
  nn p0 fun a1 =>
  z_X11_meanMisses N a1 h0 (fun v2 h3 =>
  wA 1 (0 : Int32) (stD h3 ((0 : Int32)).toNatClampNeg v2) fun h7 =>
  K 0 h7) (fun E h4 => (E = "java/lang/ArithmeticException" ∧ K 1 h4))
set_option maxHeartbeats 1000000 in
theorem y_L_meanMisses {ad : Nat → Nat → Nat → Nat} {h : Hp} {V : Nat → Nat} {h0 : St} {N : Nat} (W : Wf ad h V h0) {p0 p0_ : Option Nat} {p1 : Option Nat} {K : Int32 → Hp → Prop} {K9 : Int32 → St → Prop} (hw : z_L_meanMisses N p0_ h0 K9) (hk : ∀ (r0 : Int32), ∀ (h9 : Hp) (s9 : St), Wf ad h9 V s9 → K9 r0 s9 →  K r0 h9) (e_p0 : p0 = p0_.map (fun j => ad 11 j 0)) (l_p0 : ∀ r, p0_ = some r → r < V 11) (e_p1 : p1 = some (ad 14 0 1)) (l_p1 : 0 < V 14) (hv14 : V 14 ≤ 1) : w_L_meanMisses N p0 p1 h K := by
  subst e_p0
  unfold z_L_meanMisses at hw
  unfold w_L_meanMisses
  refine l_nn hw (fun i1_ e2_ hw => ?_)
  refine l_cv W rfl (l_p0 _ e2_) rfl ?_
  refine y_X11_meanMisses W hw (fun v3_ h5_ s6_ W4_ hw => ?_) (fun _ _ _ W9 h9 => ⟨h9.1, hk _ _ _ W9 h9.2⟩) rfl (l_p0 _ e2_)
  refine ⟨_, e_p1, ?_⟩
  refine l_sD W4_ (f := 0) rfl l_p1 rfl (hu14 hv14) hw (fun h8_ W7_ hw => ?_)
  exact hk _ _ _ W7_ hw
end Z4
