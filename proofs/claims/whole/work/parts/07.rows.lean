section GRB
variable {G : Gp} {X : Kx} {own : String} {cc : ByteArray} {nL : Nat} {ret : Option FieldType} {R : Room} {cells slots : Nat} {Q : State → Prop} {h : Hp} {pc : Nat} {L : List (Nat × Tv)} {st : List Tv}
theorem Rp.one {H : Heap} {a : Nat} {e : Ct} (hP : Rp G h H) (ha : h a = some e) : va_P G.1 kcl [(a, toE G.2.1 e)] H := by
  intro k q hk
  cases k with
  | zero => cases hk; exact (hP a e ha).1
  | succ k => simp at hk
def CF (ci : Nat) (Cn : String) (T : u_T) (N : Nat) (ty : Nat → FieldType) : Prop := kcl[ci]? = some (Cn, T, N) ∧ (∀ w ∈ u_ws Cn T N, w ∈ lw_all) ∧ (∀ k, k < N → parseFieldDescriptor (T k).2.2.1 = some (ty k)) ∧ (∀ a, a < N → ∀ b, b < N → a ≠ b → (T a).2.1 ≠ (T b).2.1)
theorem Cx.w {w : Cond} (C : Cx G X own cc nL ret) (hw : w ∈ lw_all) : w.before (xa X) (xs X) = true := C.2.2.2.2.1 w hw
theorem Cx.k (C : Cx G X own cc nL ret) : KS G (xs X) := C.2.2.2.2.2.1

theorem go_iconst (C : Cx G X own cc nL ret) {n : Int} (v : Int32) (d : decode cc pc = .ok (.iconst n, 1)) (hv : Int32.ofInt n = v) (k : Go G X R nL cells slots Q h (pc + 1) L (iV v :: st)) : Go G X R nL cells slots Q h pc L st := fun H locs ls hP hS hl => lv_iconst C.1 C.2.1 d hv (k H locs ls hP hS hl)
theorem go_bipush (C : Cx G X own cc nL ret) {n : Int} (v : Int32) (d : decode cc pc = .ok (.bipush n, 2)) (hv : (Int8.ofInt n).toInt32 = v) (k : Go G X R nL cells slots Q h (pc + 2) L (iV v :: st)) : Go G X R nL cells slots Q h pc L st := fun H locs ls hP hS hl => lv_bipush C.1 C.2.1 d hv (k H locs ls hP hS hl)
theorem go_sipush (C : Cx G X own cc nL ret) {n : Int} (v : Int32) (d : decode cc pc = .ok (.sipush n, 3)) (hv : (Int16.ofInt n).toInt32 = v) (k : Go G X R nL cells slots Q h (pc + 3) L (iV v :: st)) : Go G X R nL cells slots Q h pc L st := fun H locs ls hP hS hl => lv_sipush C.1 C.2.1 d hv (k H locs ls hP hS hl)
theorem go_lconst (C : Cx G X own cc nL ret) {n : Fin 2} (v : Int64) (d : decode cc pc = .ok (.lconst n, 1)) (hv : Int64.ofNat (n : Nat) = v) (k : Go G X R nL cells slots Q h (pc + 1) L (lV v :: st)) : Go G X R nL cells slots Q h pc L st := fun H locs ls hP hS hl => lv_lconst C.1 C.2.1 d hv (k H locs ls hP hS hl)
theorem go_null (C : Cx G X own cc nL ret)  (d : decode cc pc = .ok (.aconst_null, 1)) (k : Go G X R nL cells slots Q h (pc + 1) L (rV none :: st)) : Go G X R nL cells slots Q h pc L st := fun H locs ls hP hS hl => lv_null C.1 C.2.1 d (k H locs ls hP hS hl)
theorem go_ldc2 (C : Cx G X own cc nL ret) {i : Nat} (v : Int64) (d : decode cc pc = .ok (.ldc2_w i, 3)) (hc : Cond.constantLong own i v ∈ lw_all) (k : Go G X R nL cells slots Q h (pc + 3) L (lV v :: st)) : Go G X R nL cells slots Q h pc L st := fun H locs ls hP hS hl => lv_ldc2 C.1 C.2.1 C.2.2.2.1 (C.w hc) d (k H locs ls hP hS hl)
theorem go_ldcw (C : Cx G X own cc nL ret) {i : Nat} (v : Int32) (d : decode cc pc = .ok (.ldc_w i, 3)) (hc : Cond.constant own i v ∈ lw_all) (k : Go G X R nL cells slots Q h (pc + 3) L (iV v :: st)) : Go G X R nL cells slots Q h pc L st := fun H locs ls hP hS hl => lv_ldcw C.1 C.2.1 C.2.2.2.1 (C.w hc) d (k H locs ls hP hS hl)
theorem go_iload_n (C : Cx G X own cc nL ret) {kf : Fin 4} {x : Int32} (d : decode cc pc = .ok (.iload_n kf, 1)) (i : Nat) (hv : L[i]? = some ((kf : Nat), iV x)) (k : Go G X R nL cells slots Q h (pc + 1) L (iV x :: st)) : Go G X R nL cells slots Q h pc L st := fun H locs ls hP hS hl => lv_iload_n C.1 C.2.1 d rfl (lvV_at hl i hv) (k H locs ls hP hS hl)
theorem go_iload (C : Cx G X own cc nL ret) {j : Nat} {x : Int32} (d : decode cc pc = .ok (.iload j, 2)) (i : Nat) (hv : L[i]? = some (j, iV x)) (k : Go G X R nL cells slots Q h (pc + 2) L (iV x :: st)) : Go G X R nL cells slots Q h pc L st := fun H locs ls hP hS hl => lv_iload C.1 C.2.1 d (lvV_at hl i hv) (k H locs ls hP hS hl)
theorem go_lload_n (C : Cx G X own cc nL ret) {kf : Fin 4} {x : Int64} (d : decode cc pc = .ok (.lload_n kf, 1)) (i : Nat) (hv : L[i]? = some ((kf : Nat), lV x)) (k : Go G X R nL cells slots Q h (pc + 1) L (lV x :: st)) : Go G X R nL cells slots Q h pc L st := fun H locs ls hP hS hl => lv_lload_n C.1 C.2.1 d rfl (lvV_at hl i hv) (k H locs ls hP hS hl)
theorem go_lload (C : Cx G X own cc nL ret) {j : Nat} {x : Int64} (d : decode cc pc = .ok (.lload j, 2)) (i : Nat) (hv : L[i]? = some (j, lV x)) (k : Go G X R nL cells slots Q h (pc + 2) L (lV x :: st)) : Go G X R nL cells slots Q h pc L st := fun H locs ls hP hS hl => lv_lload C.1 C.2.1 d (lvV_at hl i hv) (k H locs ls hP hS hl)
theorem go_fload_n (C : Cx G X own cc nL ret) {kf : Fin 4} {x : UInt32} (d : decode cc pc = .ok (.fload_n kf, 1)) (i : Nat) (hv : L[i]? = some ((kf : Nat), fV x)) (k : Go G X R nL cells slots Q h (pc + 1) L (fV x :: st)) : Go G X R nL cells slots Q h pc L st := fun H locs ls hP hS hl => lv_fload_n C.1 C.2.1 d rfl (lvV_at hl i hv) (k H locs ls hP hS hl)
theorem go_fload (C : Cx G X own cc nL ret) {j : Nat} {x : UInt32} (d : decode cc pc = .ok (.fload j, 2)) (i : Nat) (hv : L[i]? = some (j, fV x)) (k : Go G X R nL cells slots Q h (pc + 2) L (fV x :: st)) : Go G X R nL cells slots Q h pc L st := fun H locs ls hP hS hl => lv_fload C.1 C.2.1 d (lvV_at hl i hv) (k H locs ls hP hS hl)
theorem go_dload_n (C : Cx G X own cc nL ret) {kf : Fin 4} {x : UInt64} (d : decode cc pc = .ok (.dload_n kf, 1)) (i : Nat) (hv : L[i]? = some ((kf : Nat), dV x)) (k : Go G X R nL cells slots Q h (pc + 1) L (dV x :: st)) : Go G X R nL cells slots Q h pc L st := fun H locs ls hP hS hl => lv_dload_n C.1 C.2.1 d rfl (lvV_at hl i hv) (k H locs ls hP hS hl)
theorem go_dload (C : Cx G X own cc nL ret) {j : Nat} {x : UInt64} (d : decode cc pc = .ok (.dload j, 2)) (i : Nat) (hv : L[i]? = some (j, dV x)) (k : Go G X R nL cells slots Q h (pc + 2) L (dV x :: st)) : Go G X R nL cells slots Q h pc L st := fun H locs ls hP hS hl => lv_dload C.1 C.2.1 d (lvV_at hl i hv) (k H locs ls hP hS hl)
theorem go_aload_n (C : Cx G X own cc nL ret) {kf : Fin 4} {x : Option Nat} (d : decode cc pc = .ok (.aload_n kf, 1)) (i : Nat) (hv : L[i]? = some ((kf : Nat), rV x)) (k : Go G X R nL cells slots Q h (pc + 1) L (rV x :: st)) : Go G X R nL cells slots Q h pc L st := by
  intro H locs ls hP hS hl
  cases x with
  | none => exact lv_aload_nN C.1 C.2.1 d rfl (lvV_at hl i hv) (k H locs ls hP hS hl)
  | some x => exact lv_aload_n C.1 C.2.1 d rfl (lvV_at hl i hv) (k H locs ls hP hS hl)
theorem go_aload (C : Cx G X own cc nL ret) {j : Nat} {x : Option Nat} (d : decode cc pc = .ok (.aload j, 2)) (i : Nat) (hv : L[i]? = some (j, rV x)) (k : Go G X R nL cells slots Q h (pc + 2) L (rV x :: st)) : Go G X R nL cells slots Q h pc L st := by
  intro H locs ls hP hS hl
  cases x with
  | none => exact lv_aloadN C.1 C.2.1 d (lvV_at hl i hv) (k H locs ls hP hS hl)
  | some x => exact lv_aload C.1 C.2.1 d (lvV_at hl i hv) (k H locs ls hP hS hl)
theorem go_istore_n (C : Cx G X own cc nL ret) {kf : Fin 4} {x : Int32} (L1 : List (Nat × Tv)) (d : decode cc pc = .ok (.istore_n kf, 1)) (hn : (kf : Nat) < nL) (e : setL (kf : Nat) (iV x) L = L1) (k : Go G X R nL cells slots Q h (pc + 1) L1 st) : Go G X R nL cells slots Q h pc L (iV x :: st) := fun H locs ls hP hS hl => lv_istore_n C.1 C.2.1 d rfl hl hn (lvV_set _ (iV x) L).symm (fun ls1 hl1 => k H locs ls1 hP hS (by rw [← e]; exact hl1))
theorem go_istore (C : Cx G X own cc nL ret) {j : Nat} {x : Int32} (L1 : List (Nat × Tv)) (d : decode cc pc = .ok (.istore j, 2)) (hn : j < nL) (e : setL j (iV x) L = L1) (k : Go G X R nL cells slots Q h (pc + 2) L1 st) : Go G X R nL cells slots Q h pc L (iV x :: st) := fun H locs ls hP hS hl => lv_istore C.1 C.2.1 d hl hn (lvV_set _ (iV x) L).symm (fun ls1 hl1 => k H locs ls1 hP hS (by rw [← e]; exact hl1))
theorem go_lstore_n (C : Cx G X own cc nL ret) {kf : Fin 4} {x : Int64} (L1 : List (Nat × Tv)) (d : decode cc pc = .ok (.lstore_n kf, 1)) (hn : (kf : Nat) + 1 < nL) (e : setL2 (kf : Nat) (lV x) L = L1) (k : Go G X R nL cells slots Q h (pc + 1) L1 st) : Go G X R nL cells slots Q h pc L (lV x :: st) := fun H locs ls hP hS hl => lv_lstore_n C.1 C.2.1 d rfl hl hn (lvV_set2 _ (lV x) L).symm (fun ls1 hl1 => k H locs ls1 hP hS (by rw [← e]; exact hl1))
theorem go_lstore (C : Cx G X own cc nL ret) {j : Nat} {x : Int64} (L1 : List (Nat × Tv)) (d : decode cc pc = .ok (.lstore j, 2)) (hn : j + 1 < nL) (e : setL2 j (lV x) L = L1) (k : Go G X R nL cells slots Q h (pc + 2) L1 st) : Go G X R nL cells slots Q h pc L (lV x :: st) := fun H locs ls hP hS hl => lv_lstore C.1 C.2.1 d hl hn (lvV_set2 _ (lV x) L).symm (fun ls1 hl1 => k H locs ls1 hP hS (by rw [← e]; exact hl1))
theorem go_fstore_n (C : Cx G X own cc nL ret) {kf : Fin 4} {x : UInt32} (L1 : List (Nat × Tv)) (d : decode cc pc = .ok (.fstore_n kf, 1)) (hn : (kf : Nat) < nL) (e : setL (kf : Nat) (fV x) L = L1) (k : Go G X R nL cells slots Q h (pc + 1) L1 st) : Go G X R nL cells slots Q h pc L (fV x :: st) := fun H locs ls hP hS hl => lv_fstore_n C.1 C.2.1 d rfl hl hn (lvV_set _ (fV x) L).symm (fun ls1 hl1 => k H locs ls1 hP hS (by rw [← e]; exact hl1))
theorem go_fstore (C : Cx G X own cc nL ret) {j : Nat} {x : UInt32} (L1 : List (Nat × Tv)) (d : decode cc pc = .ok (.fstore j, 2)) (hn : j < nL) (e : setL j (fV x) L = L1) (k : Go G X R nL cells slots Q h (pc + 2) L1 st) : Go G X R nL cells slots Q h pc L (fV x :: st) := fun H locs ls hP hS hl => lv_fstore C.1 C.2.1 d hl hn (lvV_set _ (fV x) L).symm (fun ls1 hl1 => k H locs ls1 hP hS (by rw [← e]; exact hl1))
theorem go_dstore_n (C : Cx G X own cc nL ret) {kf : Fin 4} {x : UInt64} (L1 : List (Nat × Tv)) (d : decode cc pc = .ok (.dstore_n kf, 1)) (hn : (kf : Nat) + 1 < nL) (e : setL2 (kf : Nat) (dV x) L = L1) (k : Go G X R nL cells slots Q h (pc + 1) L1 st) : Go G X R nL cells slots Q h pc L (dV x :: st) := fun H locs ls hP hS hl => lv_dstore_n C.1 C.2.1 d rfl hl hn (lvV_set2 _ (dV x) L).symm (fun ls1 hl1 => k H locs ls1 hP hS (by rw [← e]; exact hl1))
theorem go_dstore (C : Cx G X own cc nL ret) {j : Nat} {x : UInt64} (L1 : List (Nat × Tv)) (d : decode cc pc = .ok (.dstore j, 2)) (hn : j + 1 < nL) (e : setL2 j (dV x) L = L1) (k : Go G X R nL cells slots Q h (pc + 2) L1 st) : Go G X R nL cells slots Q h pc L (dV x :: st) := fun H locs ls hP hS hl => lv_dstore C.1 C.2.1 d hl hn (lvV_set2 _ (dV x) L).symm (fun ls1 hl1 => k H locs ls1 hP hS (by rw [← e]; exact hl1))
theorem go_astore_n (C : Cx G X own cc nL ret) {kf : Fin 4} {x : Option Nat} (L1 : List (Nat × Tv)) (d : decode cc pc = .ok (.astore_n kf, 1)) (hn : (kf : Nat) < nL) (e : setL (kf : Nat) (rV x) L = L1) (k : Go G X R nL cells slots Q h (pc + 1) L1 st) : Go G X R nL cells slots Q h pc L (rV x :: st) := by
  intro H locs ls hP hS hl
  cases x with
  | none => exact lv_astore_nN C.1 C.2.1 d rfl hl hn (lvV_set _ (rV none) L).symm (fun ls1 hl1 => k H locs ls1 hP hS (by rw [← e]; exact hl1))
  | some x => exact lv_astore_n C.1 C.2.1 d rfl hl hn (lvV_set _ (rV (some x)) L).symm (fun ls1 hl1 => k H locs ls1 hP hS (by rw [← e]; exact hl1))
theorem go_astore (C : Cx G X own cc nL ret) {j : Nat} {x : Option Nat} (L1 : List (Nat × Tv)) (d : decode cc pc = .ok (.astore j, 2)) (hn : j < nL) (e : setL j (rV x) L = L1) (k : Go G X R nL cells slots Q h (pc + 2) L1 st) : Go G X R nL cells slots Q h pc L (rV x :: st) := by
  intro H locs ls hP hS hl
  cases x with
  | none => exact lv_astoreN C.1 C.2.1 d hl hn (lvV_set _ (rV none) L).symm (fun ls1 hl1 => k H locs ls1 hP hS (by rw [← e]; exact hl1))
  | some x => exact lv_astore C.1 C.2.1 d hl hn (lvV_set _ (rV (some x)) L).symm (fun ls1 hl1 => k H locs ls1 hP hS (by rw [← e]; exact hl1))
theorem go_iinc (C : Cx G X own cc nL ret) {j : Nat} {n : Int} {x : Int32} (v : Int32) (L1 : List (Nat × Tv)) (d : decode cc pc = .ok (.iinc j n, 3)) (i : Nat) (hv : L[i]? = some (j, iV x)) (ev : x + Int32.ofInt n = v) (hn : j < nL) (e : setL j (iV v) L = L1) (k : Go G X R nL cells slots Q h (pc + 3) L1 st) : Go G X R nL cells slots Q h pc L st := fun H locs ls hP hS hl => lv_iinc C.1 C.2.1 d hl (k := i) (by show (L.map _)[i]? = _; rw [List.getElem?_map, hv]; rfl) ev hn (lvV_set _ (iV v) L).symm (fun ls1 hl1 => k H locs ls1 hP hS (by rw [← e]; exact hl1))
theorem go_iadd (C : Cx G X own cc nL ret) {x y : Int32} (d : decode cc pc = .ok (.iadd, 1)) (k : Go G X R nL cells slots Q h (pc + 1) L (iV (x + y) :: st)) : Go G X R nL cells slots Q h pc L (iV y :: iV x :: st) := fun H locs ls hP hS hl => lv_iadd C.1 C.2.1 d (k H locs ls hP hS hl)
theorem go_isub (C : Cx G X own cc nL ret) {x y : Int32} (d : decode cc pc = .ok (.isub, 1)) (k : Go G X R nL cells slots Q h (pc + 1) L (iV (x - y) :: st)) : Go G X R nL cells slots Q h pc L (iV y :: iV x :: st) := fun H locs ls hP hS hl => lv_isub C.1 C.2.1 d (k H locs ls hP hS hl)
theorem go_imul (C : Cx G X own cc nL ret) {x y : Int32} (d : decode cc pc = .ok (.imul, 1)) (k : Go G X R nL cells slots Q h (pc + 1) L (iV (x * y) :: st)) : Go G X R nL cells slots Q h pc L (iV y :: iV x :: st) := fun H locs ls hP hS hl => lv_imul C.1 C.2.1 d (k H locs ls hP hS hl)
theorem go_iand (C : Cx G X own cc nL ret) {x y : Int32} (d : decode cc pc = .ok (.iand, 1)) (k : Go G X R nL cells slots Q h (pc + 1) L (iV (x &&& y) :: st)) : Go G X R nL cells slots Q h pc L (iV y :: iV x :: st) := fun H locs ls hP hS hl => lv_iand C.1 C.2.1 d (k H locs ls hP hS hl)
theorem go_ior (C : Cx G X own cc nL ret) {x y : Int32} (d : decode cc pc = .ok (.ior, 1)) (k : Go G X R nL cells slots Q h (pc + 1) L (iV (x ||| y) :: st)) : Go G X R nL cells slots Q h pc L (iV y :: iV x :: st) := fun H locs ls hP hS hl => lv_ior C.1 C.2.1 d (k H locs ls hP hS hl)
theorem go_ishl (C : Cx G X own cc nL ret) {x y : Int32} (d : decode cc pc = .ok (.ishl, 1)) (k : Go G X R nL cells slots Q h (pc + 1) L (iV (x <<< (y &&& 31)) :: st)) : Go G X R nL cells slots Q h pc L (iV y :: iV x :: st) := fun H locs ls hP hS hl => lv_ishl C.1 C.2.1 d (k H locs ls hP hS hl)
theorem go_ishr (C : Cx G X own cc nL ret) {x y : Int32} (d : decode cc pc = .ok (.ishr, 1)) (k : Go G X R nL cells slots Q h (pc + 1) L (iV (x >>> (y &&& 31)) :: st)) : Go G X R nL cells slots Q h pc L (iV y :: iV x :: st) := fun H locs ls hP hS hl => lv_ishr C.1 C.2.1 d (k H locs ls hP hS hl)
theorem go_ladd (C : Cx G X own cc nL ret) {x y : Int64} (d : decode cc pc = .ok (.ladd, 1)) (k : Go G X R nL cells slots Q h (pc + 1) L (lV (x + y) :: st)) : Go G X R nL cells slots Q h pc L (lV y :: lV x :: st) := fun H locs ls hP hS hl => lv_ladd C.1 C.2.1 d (k H locs ls hP hS hl)
theorem go_lmul (C : Cx G X own cc nL ret) {x y : Int64} (d : decode cc pc = .ok (.lmul, 1)) (k : Go G X R nL cells slots Q h (pc + 1) L (lV (x * y) :: st)) : Go G X R nL cells slots Q h pc L (lV y :: lV x :: st) := fun H locs ls hP hS hl => lv_lmul C.1 C.2.1 d (k H locs ls hP hS hl)
theorem go_iushr (C : Cx G X own cc nL ret) {x y : Int32} (d : decode cc pc = .ok (.iushr, 1)) (k : Go G X R nL cells slots Q h (pc + 1) L (iV ((x.toUInt32 >>> (y.toUInt32 &&& Int32.toUInt32 31)).toInt32) :: st)) : Go G X R nL cells slots Q h pc L (iV y :: iV x :: st) := fun H locs ls hP hS hl => lv_iushr C.1 C.2.1 d rfl (k H locs ls hP hS hl)
theorem go_i2l (C : Cx G X own cc nL ret) {x : Int32} (d : decode cc pc = .ok (.i2l, 1)) (k : Go G X R nL cells slots Q h (pc + 1) L (lV x.toInt64 :: st)) : Go G X R nL cells slots Q h pc L (iV x :: st) := fun H locs ls hP hS hl => lv_i2l C.1 C.2.1 d rfl (k H locs ls hP hS hl)
theorem go_i2c (C : Cx G X own cc nL ret) {x : Int32} (d : decode cc pc = .ok (.i2c, 1)) (k : Go G X R nL cells slots Q h (pc + 1) L (iV ((x.toUInt32 % 65536).toInt32) :: st)) : Go G X R nL cells slots Q h pc L (iV x :: st) := fun H locs ls hP hS hl => lv_i2c C.1 C.2.1 d rfl (k H locs ls hP hS hl)
theorem go_i2f (C : Cx G X own cc nL ret) {x : Int32} (d : decode cc pc = .ok (.i2f, 1)) (k : Go G X R nL cells slots Q h (pc + 1) L (fV (FP.i2f x) :: st)) : Go G X R nL cells slots Q h pc L (iV x :: st) := fun H locs ls hP hS hl => lv_i2f C.1 C.2.1 d (k H locs ls hP hS hl)
theorem go_i2d (C : Cx G X own cc nL ret) {x : Int32} (d : decode cc pc = .ok (.i2d, 1)) (k : Go G X R nL cells slots Q h (pc + 1) L (dV (FP.i2d x) :: st)) : Go G X R nL cells slots Q h pc L (iV x :: st) := fun H locs ls hP hS hl => lv_i2d C.1 C.2.1 d (k H locs ls hP hS hl)
theorem go_fcmp (C : Cx G X own cc nL ret) {x y : UInt32} {op : CmpOp} (d : decode cc pc = .ok (.fcmp op, 1)) (k : Go G X R nL cells slots Q h (pc + 1) L (iV (Op.cmpValue (FP.fcmp x y) op) :: st)) : Go G X R nL cells slots Q h pc L (fV y :: fV x :: st) := fun H locs ls hP hS hl => lv_fcmp C.1 C.2.1 d (k H locs ls hP hS hl)
theorem go_dcmp (C : Cx G X own cc nL ret) {x y : UInt64} {op : CmpOp} (d : decode cc pc = .ok (.dcmp op, 1)) (k : Go G X R nL cells slots Q h (pc + 1) L (iV (Op.cmpValue (FP.dcmp x y) op) :: st)) : Go G X R nL cells slots Q h pc L (dV y :: dV x :: st) := fun H locs ls hP hS hl => lv_dcmp C.1 C.2.1 d (k H locs ls hP hS hl)
theorem go_lcmp (C : Cx G X own cc nL ret) {x y : Int64} (d : decode cc pc = .ok (.lcmp, 1)) (k : Go G X R nL cells slots Q h (pc + 1) L (iV (lg_cmp x y) :: st)) : Go G X R nL cells slots Q h pc L (lV y :: lV x :: st) := fun H locs ls hP hS hl => W.lcmp C.1 C.2.1 d (k H locs ls hP hS hl)
theorem go_idiv (C : Cx G X own cc nL ret) {x y : Int32} {K : Prop} (d : decode cc pc = .ok (.idiv, 1)) (hw : dz y K) (k : K → Go G X R nL cells slots Q h (pc + 1) L (iV (x / y) :: st)) : Go G X R nL cells slots Q h pc L (iV y :: iV x :: st) := fun H locs ls hP hS hl => lv_idiv C.1 C.2.1 d hw.1 (k hw.2 H locs ls hP hS hl)
theorem go_irem (C : Cx G X own cc nL ret) {x y : Int32} {K : Prop} (d : decode cc pc = .ok (.irem, 1)) (hw : dz y K) (k : K → Go G X R nL cells slots Q h (pc + 1) L (iV (x - x / y * y) :: st)) : Go G X R nL cells slots Q h pc L (iV y :: iV x :: st) := fun H locs ls hP hS hl => lv_irem C.1 C.2.1 d hw.1 (k hw.2 H locs ls hP hS hl)
theorem go_ldiv (C : Cx G X own cc nL ret) {x y : Int64} {K : Prop} (d : decode cc pc = .ok (.ldiv, 1)) (hw : dz y K) (k : K → Go G X R nL cells slots Q h (pc + 1) L (lV (x / y) :: st)) : Go G X R nL cells slots Q h pc L (lV y :: lV x :: st) := fun H locs ls hP hS hl => lv_ldiv C.1 C.2.1 d hw.1 (k hw.2 H locs ls hP hS hl)
theorem go_fdiv (C : Cx G X own cc nL ret) {x y : UInt32} {K : Prop} (d : decode cc pc = .ok (.fdiv, 1)) (hw : ok (vf_n32 (FP.fdiv x y)) K) (k : K → Go G X R nL cells slots Q h (pc + 1) L (fV (FP.fdiv x y) :: st)) : Go G X R nL cells slots Q h pc L (fV y :: fV x :: st) := fun H locs ls hP hS hl => lv_fdiv C.1 C.2.1 d hw.1 (k hw.2 H locs ls hP hS hl)
theorem go_ddiv (C : Cx G X own cc nL ret) {x y : UInt64} {K : Prop} (d : decode cc pc = .ok (.ddiv, 1)) (hw : ok (vf_n64 (FP.ddiv x y)) K) (k : K → Go G X R nL cells slots Q h (pc + 1) L (dV (FP.ddiv x y) :: st)) : Go G X R nL cells slots Q h pc L (dV y :: dV x :: st) := fun H locs ls hP hS hl => lv_ddiv C.1 C.2.1 d hw.1 (k hw.2 H locs ls hP hS hl)
theorem go_f2d (C : Cx G X own cc nL ret) {x : UInt32} {K : Prop} (d : decode cc pc = .ok (.f2d, 1)) (hw : ok (vf_n64 (FP.f2d x)) K) (k : K → Go G X R nL cells slots Q h (pc + 1) L (dV (FP.f2d x) :: st)) : Go G X R nL cells slots Q h pc L (fV x :: st) := fun H locs ls hP hS hl => lv_f2d C.1 C.2.1 d hw.1 (k hw.2 H locs ls hP hS hl)
theorem go_dup (C : Cx G X own cc nL ret) (v : Tv) (d : decode cc pc = .ok (.dup, 1)) (hv : wide v = false) (k : Go G X R nL cells slots Q h (pc + 1) L (v :: v :: st)) : Go G X R nL cells slots Q h pc L (v :: st) := fun H locs ls hP hS hl => lv_dup C.1 C.2.1 d (by rw [toV_cat, hv]; rfl) (k H locs ls hP hS hl)
theorem go_pop (C : Cx G X own cc nL ret) (v : Tv) (d : decode cc pc = .ok (.pop, 1)) (hv : wide v = false) (k : Go G X R nL cells slots Q h (pc + 1) L st) : Go G X R nL cells slots Q h pc L (v :: st) := fun H locs ls hP hS hl => lv_pop C.1 C.2.1 d (by rw [toV_cat, hv]; rfl) (k H locs ls hP hS hl)
theorem go_dup2 (C : Cx G X own cc nL ret) (v u : Tv) (d : decode cc pc = .ok (.dup2, 1)) (hv : wide v = false) (hu : wide u = false) (k : Go G X R nL cells slots Q h (pc + 1) L (v :: u :: v :: u :: st)) : Go G X R nL cells slots Q h pc L (v :: u :: st) := fun H locs ls hP hS hl => lv_dup2_11 C.1 C.2.1 d (by rw [toV_cat, hv]; rfl) (by rw [toV_cat, hu]; rfl) (k H locs ls hP hS hl)
theorem go_if_eq (C : Cx G X own cc nL ret) {x : Int32} {off : Int} {A B : Prop} (tgt : Nat) (d : decode cc pc = .ok (.ifCond .eq off, 3)) (ht : (pc : Int) + off = (tgt : Int)) (hw : br (x = 0) A B) (kt : A → Go G X R nL cells slots Q h tgt L st) (kf : B → Go G X R nL cells slots Q h (pc + 3) L st) : Go G X R nL cells slots Q h pc L (iV x :: st) := fun H locs ls hP hS hl => lv_if_eq C.1 C.2.1 d ht (fun q => kt (hw.1 q) H locs ls hP hS hl) (fun q => kf (hw.2 q) H locs ls hP hS hl)
theorem go_if_ne (C : Cx G X own cc nL ret) {x : Int32} {off : Int} {A B : Prop} (tgt : Nat) (d : decode cc pc = .ok (.ifCond .ne off, 3)) (ht : (pc : Int) + off = (tgt : Int)) (hw : br (x = 0) B A) (kt : A → Go G X R nL cells slots Q h tgt L st) (kf : B → Go G X R nL cells slots Q h (pc + 3) L st) : Go G X R nL cells slots Q h pc L (iV x :: st) := fun H locs ls hP hS hl => lv_if_ne C.1 C.2.1 d ht (fun q => kt (hw.2 q) H locs ls hP hS hl) (fun q => kf (hw.1 q) H locs ls hP hS hl)
theorem go_if_lt (C : Cx G X own cc nL ret) {x : Int32} {off : Int} {A B : Prop} (tgt : Nat) (d : decode cc pc = .ok (.ifCond .lt off, 3)) (ht : (pc : Int) + off = (tgt : Int)) (hw : br (x < 0) A B) (kt : A → Go G X R nL cells slots Q h tgt L st) (kf : B → Go G X R nL cells slots Q h (pc + 3) L st) : Go G X R nL cells slots Q h pc L (iV x :: st) := fun H locs ls hP hS hl => lv_if_lt C.1 C.2.1 d ht (fun q => kt (hw.1 q) H locs ls hP hS hl) (fun q => kf (hw.2 q) H locs ls hP hS hl)
theorem go_if_ge (C : Cx G X own cc nL ret) {x : Int32} {off : Int} {A B : Prop} (tgt : Nat) (d : decode cc pc = .ok (.ifCond .ge off, 3)) (ht : (pc : Int) + off = (tgt : Int)) (hw : br (0 ≤ x) A B) (kt : A → Go G X R nL cells slots Q h tgt L st) (kf : B → Go G X R nL cells slots Q h (pc + 3) L st) : Go G X R nL cells slots Q h pc L (iV x :: st) := fun H locs ls hP hS hl => lv_if_ge C.1 C.2.1 d ht (fun q => kt (hw.1 q) H locs ls hP hS hl) (fun q => kf (hw.2 q) H locs ls hP hS hl)
theorem go_if_gt (C : Cx G X own cc nL ret) {x : Int32} {off : Int} {A B : Prop} (tgt : Nat) (d : decode cc pc = .ok (.ifCond .gt off, 3)) (ht : (pc : Int) + off = (tgt : Int)) (hw : br (0 < x) A B) (kt : A → Go G X R nL cells slots Q h tgt L st) (kf : B → Go G X R nL cells slots Q h (pc + 3) L st) : Go G X R nL cells slots Q h pc L (iV x :: st) := fun H locs ls hP hS hl => lv_if_gt C.1 C.2.1 d ht (fun q => kt (hw.1 q) H locs ls hP hS hl) (fun q => kf (hw.2 q) H locs ls hP hS hl)
theorem go_if_le (C : Cx G X own cc nL ret) {x : Int32} {off : Int} {A B : Prop} (tgt : Nat) (d : decode cc pc = .ok (.ifCond .le off, 3)) (ht : (pc : Int) + off = (tgt : Int)) (hw : br (x ≤ 0) A B) (kt : A → Go G X R nL cells slots Q h tgt L st) (kf : B → Go G X R nL cells slots Q h (pc + 3) L st) : Go G X R nL cells slots Q h pc L (iV x :: st) := fun H locs ls hP hS hl => lv_if_le C.1 C.2.1 d ht (fun q => kt (hw.1 q) H locs ls hP hS hl) (fun q => kf (hw.2 q) H locs ls hP hS hl)
theorem go_icmp_eq (C : Cx G X own cc nL ret) {x y : Int32} {off : Int} {A B : Prop} (tgt : Nat) (d : decode cc pc = .ok (.if_icmp .eq off, 3)) (ht : (pc : Int) + off = (tgt : Int)) (hw : br (x = y) A B) (kt : A → Go G X R nL cells slots Q h tgt L st) (kf : B → Go G X R nL cells slots Q h (pc + 3) L st) : Go G X R nL cells slots Q h pc L (iV y :: iV x :: st) := fun H locs ls hP hS hl => lv_icmp_eq C.1 C.2.1 d ht (fun q => kt (hw.1 q) H locs ls hP hS hl) (fun q => kf (hw.2 q) H locs ls hP hS hl)
theorem go_icmp_ne (C : Cx G X own cc nL ret) {x y : Int32} {off : Int} {A B : Prop} (tgt : Nat) (d : decode cc pc = .ok (.if_icmp .ne off, 3)) (ht : (pc : Int) + off = (tgt : Int)) (hw : br (x = y) B A) (kt : A → Go G X R nL cells slots Q h tgt L st) (kf : B → Go G X R nL cells slots Q h (pc + 3) L st) : Go G X R nL cells slots Q h pc L (iV y :: iV x :: st) := fun H locs ls hP hS hl => lv_icmp_ne C.1 C.2.1 d ht (fun q => kt (hw.2 q) H locs ls hP hS hl) (fun q => kf (hw.1 q) H locs ls hP hS hl)
theorem go_icmp_lt (C : Cx G X own cc nL ret) {x y : Int32} {off : Int} {A B : Prop} (tgt : Nat) (d : decode cc pc = .ok (.if_icmp .lt off, 3)) (ht : (pc : Int) + off = (tgt : Int)) (hw : br (x < y) A B) (kt : A → Go G X R nL cells slots Q h tgt L st) (kf : B → Go G X R nL cells slots Q h (pc + 3) L st) : Go G X R nL cells slots Q h pc L (iV y :: iV x :: st) := fun H locs ls hP hS hl => lv_icmp_lt C.1 C.2.1 d ht (fun q => kt (hw.1 q) H locs ls hP hS hl) (fun q => kf (hw.2 q) H locs ls hP hS hl)
theorem go_icmp_ge (C : Cx G X own cc nL ret) {x y : Int32} {off : Int} {A B : Prop} (tgt : Nat) (d : decode cc pc = .ok (.if_icmp .ge off, 3)) (ht : (pc : Int) + off = (tgt : Int)) (hw : br (y ≤ x) A B) (kt : A → Go G X R nL cells slots Q h tgt L st) (kf : B → Go G X R nL cells slots Q h (pc + 3) L st) : Go G X R nL cells slots Q h pc L (iV y :: iV x :: st) := fun H locs ls hP hS hl => lv_icmp_ge C.1 C.2.1 d ht (fun q => kt (hw.1 q) H locs ls hP hS hl) (fun q => kf (hw.2 q) H locs ls hP hS hl)
theorem go_icmp_gt (C : Cx G X own cc nL ret) {x y : Int32} {off : Int} {A B : Prop} (tgt : Nat) (d : decode cc pc = .ok (.if_icmp .gt off, 3)) (ht : (pc : Int) + off = (tgt : Int)) (hw : br (y < x) A B) (kt : A → Go G X R nL cells slots Q h tgt L st) (kf : B → Go G X R nL cells slots Q h (pc + 3) L st) : Go G X R nL cells slots Q h pc L (iV y :: iV x :: st) := fun H locs ls hP hS hl => lv_icmp_gt C.1 C.2.1 d ht (fun q => kt (hw.1 q) H locs ls hP hS hl) (fun q => kf (hw.2 q) H locs ls hP hS hl)
theorem go_icmp_le (C : Cx G X own cc nL ret) {x y : Int32} {off : Int} {A B : Prop} (tgt : Nat) (d : decode cc pc = .ok (.if_icmp .le off, 3)) (ht : (pc : Int) + off = (tgt : Int)) (hw : br (x ≤ y) A B) (kt : A → Go G X R nL cells slots Q h tgt L st) (kf : B → Go G X R nL cells slots Q h (pc + 3) L st) : Go G X R nL cells slots Q h pc L (iV y :: iV x :: st) := fun H locs ls hP hS hl => lv_icmp_le C.1 C.2.1 d ht (fun q => kt (hw.1 q) H locs ls hP hS hl) (fun q => kf (hw.2 q) H locs ls hP hS hl)
theorem go_acmp_ne (C : Cx G X own cc nL ret) {x y : Option Nat} {off : Int} {A B : Prop} (tgt : Nat) (d : decode cc pc = .ok (.if_acmp .ne off, 3)) (ht : (pc : Int) + off = (tgt : Int)) (hw : br (x = y) B A) (kt : A → Go G X R nL cells slots Q h tgt L st) (kf : B → Go G X R nL cells slots Q h (pc + 3) L st) : Go G X R nL cells slots Q h pc L (rV y :: rV x :: st) := fun H locs ls hP hS hl => lv_acmp_ne C.1 C.2.1 d ht (fun q => kt (hw.2 q) H locs ls hP hS hl) (fun q => kf (hw.1 q) H locs ls hP hS hl)
theorem go_acmp_eq (C : Cx G X own cc nL ret) {x y : Option Nat} {off : Int} {A B : Prop} (tgt : Nat) (d : decode cc pc = .ok (.if_acmp .eq off, 3)) (ht : (pc : Int) + off = (tgt : Int)) (hw : br (x = y) A B) (kt : A → Go G X R nL cells slots Q h tgt L st) (kf : B → Go G X R nL cells slots Q h (pc + 3) L st) : Go G X R nL cells slots Q h pc L (rV y :: rV x :: st) := fun H locs ls hP hS hl => lv_acmp_eq C.1 C.2.1 d ht (fun q => kt (hw.1 q) H locs ls hP hS hl) (fun q => kf (hw.2 q) H locs ls hP hS hl)
theorem go_ifnull (C : Cx G X own cc nL ret) {x : Option Nat} {off : Int} {A : Prop} {B : Nat → Prop} (tgt : Nat) (d : decode cc pc = .ok (.ifnull off, 3)) (ht : (pc : Int) + off = (tgt : Int)) (hw : brn x A B) (kt : x = none → A → Go G X R nL cells slots Q h tgt L st) (kf : ∀ a, x = some a → B a → Go G X R nL cells slots Q h (pc + 3) L st) : Go G X R nL cells slots Q h pc L (rV x :: st) := by
  intro H locs ls hP hS hl
  cases x with
  | none => exact lv_ifnullN C.1 C.2.1 d ht (kt rfl (hw.1 rfl) H locs ls hP hS hl)
  | some a => exact lv_ifnull C.1 C.2.1 d (kf a rfl (hw.2 a rfl) H locs ls hP hS hl)
theorem go_ifnonnull (C : Cx G X own cc nL ret) {x : Option Nat} {off : Int} {A : Prop} {B : Nat → Prop} (tgt : Nat) (d : decode cc pc = .ok (.ifnonnull off, 3)) (ht : (pc : Int) + off = (tgt : Int)) (hw : brn x A B) (kt : ∀ a, x = some a → B a → Go G X R nL cells slots Q h tgt L st) (kf : x = none → A → Go G X R nL cells slots Q h (pc + 3) L st) : Go G X R nL cells slots Q h pc L (rV x :: st) := by
  intro H locs ls hP hS hl
  cases x with
  | none => exact lv_ifnonnullN C.1 C.2.1 d (kf rfl (hw.1 rfl) H locs ls hP hS hl)
  | some a => exact lv_ifnonnull C.1 C.2.1 d ht (kt a rfl (hw.2 a rfl) H locs ls hP hS hl)
theorem go_goto (C : Cx G X own cc nL ret) {off : Int} (tgt : Nat) (d : decode cc pc = .ok (.goto off, 3)) (ht : (pc : Int) + off = (tgt : Int)) (k : Go G X R nL cells slots Q h tgt L st) : Go G X R nL cells slots Q h pc L st := fun H locs ls hP hS hl => lv_goto C.1 C.2.1 d ht (k H locs ls hP hS hl)
theorem go_getI (C : Cx G X own cc nL ret) {ci k idx a N : Nat} {Cn : String} {T : u_T} {ty0 : Nat → FieldType} {K : Int32 → Prop} (cf : CF ci Cn T N ty0) (hk : k < N) (hlk : Cond.fieldLink own idx Cn (T k).2.1 (T k).2.2.1 ∈ lw_all) (he : (T k).1 = Cn) (d : decode cc pc = .ok (.getfield idx, 3)) (hw : gI h a ci k K) (kk : ∀ v, K v → Go G X R nL cells slots Q h (pc + 3) L (iV v :: st)) : Go G X R nL cells slots Q h pc L (rV (some a) :: st) := by
  intro H locs ls hP hS hl
  obtain ⟨fs, v, ha, hv, hK⟩ := hw
  exact va_get (v := toV (iV v)) C.1 C.2.1 C.2.2.2.2.1 cf.2.1 C.2.2.2.1 C.k.1 (hP.one ha) 0 rfl cf.1 k hk (C.w hlk) (fun x hx => by rw [he] at hx; exact hx) (by rw [List.getElem?_map, hv]; rfl) d (kk v hK H locs ls hP hS hl)
theorem go_getL (C : Cx G X own cc nL ret) {ci k idx a N : Nat} {Cn : String} {T : u_T} {ty0 : Nat → FieldType} {K : Int64 → Prop} (cf : CF ci Cn T N ty0) (hk : k < N) (hlk : Cond.fieldLink own idx Cn (T k).2.1 (T k).2.2.1 ∈ lw_all) (he : (T k).1 = Cn) (d : decode cc pc = .ok (.getfield idx, 3)) (hw : gL h a ci k K) (kk : ∀ v, K v → Go G X R nL cells slots Q h (pc + 3) L (lV v :: st)) : Go G X R nL cells slots Q h pc L (rV (some a) :: st) := by
  intro H locs ls hP hS hl
  obtain ⟨fs, v, ha, hv, hK⟩ := hw
  exact va_get (v := toV (lV v)) C.1 C.2.1 C.2.2.2.2.1 cf.2.1 C.2.2.2.1 C.k.1 (hP.one ha) 0 rfl cf.1 k hk (C.w hlk) (fun x hx => by rw [he] at hx; exact hx) (by rw [List.getElem?_map, hv]; rfl) d (kk v hK H locs ls hP hS hl)
theorem go_getR (C : Cx G X own cc nL ret) {ci k idx a N : Nat} {Cn : String} {T : u_T} {ty0 : Nat → FieldType} {K : Option Nat → Prop} (cf : CF ci Cn T N ty0) (hk : k < N) (hlk : Cond.fieldLink own idx Cn (T k).2.1 (T k).2.2.1 ∈ lw_all) (he : (T k).1 = Cn) (d : decode cc pc = .ok (.getfield idx, 3)) (hw : gR h a ci k K) (kk : ∀ v, K v → Go G X R nL cells slots Q h (pc + 3) L (rV v :: st)) : Go G X R nL cells slots Q h pc L (rV (some a) :: st) := by
  intro H locs ls hP hS hl
  obtain ⟨fs, v, ha, hv, hK⟩ := hw
  exact va_get (v := toV (rV v)) C.1 C.2.1 C.2.2.2.2.1 cf.2.1 C.2.2.2.1 C.k.1 (hP.one ha) 0 rfl cf.1 k hk (C.w hlk) (fun x hx => by rw [he] at hx; exact hx) (by rw [List.getElem?_map, hv]; rfl) d (kk v hK H locs ls hP hS hl)
theorem go_putG (C : Cx G X own cc nL ret) {ci k idx a N : Nat} {Cn : String} {T : u_T} {ty0 : Nat → FieldType} {v : Tv} {K : Hp → Prop} (cf : CF ci Cn T N ty0) (hk : k < N) (hlk : Cond.fieldLink own idx Cn (T k).2.1 (T k).2.2.1 ∈ lw_all) (he : (T k).1 = Cn) (hfin : (T k).2.2.2 = false ∨ ((T k).2.2.2 = true ∧ (xh X).name = "<init>" ∧ (T k).1 = own)) {ty : FieldType} (hd : parseFieldDescriptor (T k).2.2.1 = some ty) (hn : narrow ty (toV v) = toV v) (hfit : fits ty (toV v) = true) (d : decode cc pc = .ok (.putfield idx, 3)) (hw : pF h a ci k v K) (kk : ∀ h1, K h1 → Go G X R nL cells slots Q h1 (pc + 3) L st) : Go G X R nL cells slots Q h pc L (v :: rV (some a) :: st) := by
  intro H locs ls hP hS hl
  obtain ⟨fs, ha, hlen, hK⟩ := hw
  have hD : va_D (AA G) [(a, toE G.2.1 (.inr (ci, fs)))] := ⟨fun i j p q hi hj _ => by
    cases i with
    | zero => cases j with
      | zero => rfl
      | succ j => simp at hj
    | succ i => simp at hi, fun i q hi => by
    cases i with
    | zero => cases hi; exact (hP a _ ha).2
    | succ i => simp at hi⟩
  have hap := va_apart (own := own) C.2.2.2.2.1 cf.2.1 ty0 cf.2.2.1 cf.2.2.2 C.k.1 cf.1
  obtain ⟨⟨r, h1, cell, q1, q2, q3, q4⟩, hAa⟩ := hP a _ ha
  have hr : r = (Cn, T, N) := Option.some.inj (h1.symm.trans cf.1)
  subst hr
  obtain ⟨hSl, hfc, kC, hkC, hkind⟩ := C.k.1.1 ci _ cf.1
  obtain ⟨cf9, kf, fi, f, hi, hsl⟩ := hSl k hk
  have hst := (u_facts hfc hkC (u_lays C.2.2.2.2.1 cf.2.1 hk) hi).1
  have hlay := C.w (cf.2.1 _ (u_in_lay hk))
  have hi2 : (xs X).fieldFound? Cn (T k).2.1 (T k).2.2.1 = some (cf9, kf, fi, f) := by rw [he] at hi; exact hi
  have fin : ∀ H1 : Heap, H1[a]? = some (cell.setSlot f.slot (toV v)) → H1.size = H.size → (∀ q, q ≠ a → H1[q]? = H[q]?) → WW X R H1 (locs ++ [⟨a, f.slot⟩]) cells slots Q (pc + 3) ls st := by
    intro H1 e1 e2 e3
    rw [hsl] at e1 ⊢
    refine kk _ hK H1 _ ls (hP.put ha ?_ e3) (hS.put e2 e3 hAa) hl
    refine ⟨_, cf.1, t_OB.to (V := updV (vp_V (fs.map toV)) k (toV v)) ⟨_, e1, q2, q3, t_set q4 hap hk (toV v)⟩ (fun j _ => ?_)⟩
    rw [vp_updV_set (by rw [List.length_map]; exact hlen)]
    show vp_V ((fs.map toV).set k (toV v)) j = vp_V ((fs.set k v).map toV) j
    rw [List.map_set]
  rcases hfin with hfin | ⟨hfin, hin2, hdecl⟩
  · unfold u_lay at hlay
    rw [if_neg (by rw [hfin]; decide)] at hlay
    have h6 := u_store hfc hkC hkind hlay hi hd hn hfit
    exact W.putK C.1 C.2.1 (f := f) ⟨C.2.2.2.1, C.w hlk, ⟨_, _, _, hi2⟩, hst⟩ (by rw [q2]; exact h6) q1 q3 (by rw [hsl]; exact k2_hasslot (q4 k hk)) rfl rfl d fin
  · unfold u_lay at hlay
    rw [if_pos hfin] at hlay
    have hcf : (xm X).cls = cf9 := by
      obtain ⟨_, _, c', _, _, _, -, -, hf', -, -, -, hown2, -⟩ := Cond.laysFinal_spec hlay
      have e1 : c' = cf9 := by have := hi.symm.trans hf'; simp at this; exact this.1.symm
      rw [hdecl] at hown2
      rw [← e1]; exact Option.some.inj (C.2.2.2.1.symm.trans hown2)
    have h6 := u_fits hfc hkC hkind (Or.inr hlay) hi hd hn hfit
    exact W.putFinK C.1 C.2.1 C.2.2.2.1 (C.w hlk) hi2 hst hcf hin2 (by rw [q2]; exact h6) q1 q3 (by rw [hsl]; exact k2_hasslot (q4 k hk)) rfl rfl d fin
theorem fits_rf (C : String) (x : Option Nat) : fits (.object C) (va_rf x) = true := by cases x <;> rfl
theorem fits_rfa (t : FieldType) (x : Option Nat) : fits (.array t) (va_rf x) = true := by cases x <;> rfl
theorem narrow_rf (C : String) (x : Option Nat) : narrow (.object C) (va_rf x) = va_rf x := by cases x <;> rfl
theorem narrow_rfa (t : FieldType) (x : Option Nat) : narrow (.array t) (va_rf x) = va_rf x := by cases x <;> rfl
theorem go_putI (C : Cx G X own cc nL ret) {ci k idx a N : Nat} {Cn : String} {T : u_T} {ty0 : Nat → FieldType} {x : Int32} {K : Hp → Prop} (cf : CF ci Cn T N ty0) (hk : k < N) (hlk : Cond.fieldLink own idx Cn (T k).2.1 (T k).2.2.1 ∈ lw_all) (he : (T k).1 = Cn) (hfin : (T k).2.2.2 = false ∨ ((T k).2.2.2 = true ∧ (xh X).name = "<init>" ∧ (T k).1 = own)) (hd : parseFieldDescriptor (T k).2.2.1 = some .int) (d : decode cc pc = .ok (.putfield idx, 3)) (hw : pF h a ci k (iV x) K) (kk : ∀ h1, K h1 → Go G X R nL cells slots Q h1 (pc + 3) L st) : Go G X R nL cells slots Q h pc L (iV x :: rV (some a) :: st) := go_putG C cf hk hlk he hfin hd rfl rfl d hw kk
theorem go_putL (C : Cx G X own cc nL ret) {ci k idx a N : Nat} {Cn : String} {T : u_T} {ty0 : Nat → FieldType} {x : Int64} {K : Hp → Prop} (cf : CF ci Cn T N ty0) (hk : k < N) (hlk : Cond.fieldLink own idx Cn (T k).2.1 (T k).2.2.1 ∈ lw_all) (he : (T k).1 = Cn) (hfin : (T k).2.2.2 = false ∨ ((T k).2.2.2 = true ∧ (xh X).name = "<init>" ∧ (T k).1 = own)) (hd : parseFieldDescriptor (T k).2.2.1 = some .long) (d : decode cc pc = .ok (.putfield idx, 3)) (hw : pF h a ci k (lV x) K) (kk : ∀ h1, K h1 → Go G X R nL cells slots Q h1 (pc + 3) L st) : Go G X R nL cells slots Q h pc L (lV x :: rV (some a) :: st) := go_putG C cf hk hlk he hfin hd rfl rfl d hw kk
theorem go_putZ (C : Cx G X own cc nL ret) {ci k idx a N : Nat} {Cn : String} {T : u_T} {ty0 : Nat → FieldType} {x : Int32} {K : Hp → Prop} (cf : CF ci Cn T N ty0) (hk : k < N) (hlk : Cond.fieldLink own idx Cn (T k).2.1 (T k).2.2.1 ∈ lw_all) (he : (T k).1 = Cn) (hfin : (T k).2.2.2 = false ∨ ((T k).2.2.2 = true ∧ (xh X).name = "<init>" ∧ (T k).1 = own)) (hd : parseFieldDescriptor (T k).2.2.1 = some .boolean) (d : decode cc pc = .ok (.putfield idx, 3)) (hw : ok (narrow .boolean (.int x) = .int x ∧ fits .boolean (.int x) = true) (pF h a ci k (iV x) K)) (kk : ∀ h1, K h1 → Go G X R nL cells slots Q h1 (pc + 3) L st) : Go G X R nL cells slots Q h pc L (iV x :: rV (some a) :: st) := go_putG C cf hk hlk he hfin hd hw.1.1 hw.1.2 d hw.2 kk
theorem go_putC (C : Cx G X own cc nL ret) {ci k idx a N : Nat} {Cn : String} {T : u_T} {ty0 : Nat → FieldType} {x : Int32} {K : Hp → Prop} (cf : CF ci Cn T N ty0) (hk : k < N) (hlk : Cond.fieldLink own idx Cn (T k).2.1 (T k).2.2.1 ∈ lw_all) (he : (T k).1 = Cn) (hfin : (T k).2.2.2 = false ∨ ((T k).2.2.2 = true ∧ (xh X).name = "<init>" ∧ (T k).1 = own)) (hd : parseFieldDescriptor (T k).2.2.1 = some .char) (d : decode cc pc = .ok (.putfield idx, 3)) (hw : ok (narrow .char (.int x) = .int x ∧ fits .char (.int x) = true) (pF h a ci k (iV x) K)) (kk : ∀ h1, K h1 → Go G X R nL cells slots Q h1 (pc + 3) L st) : Go G X R nL cells slots Q h pc L (iV x :: rV (some a) :: st) := go_putG C cf hk hlk he hfin hd hw.1.1 hw.1.2 d hw.2 kk
theorem go_putR (C : Cx G X own cc nL ret) {ci k idx a N : Nat} {Cn : String} {T : u_T} {ty0 : Nat → FieldType} {x : Option Nat} {C9 : String} {K : Hp → Prop} (cf : CF ci Cn T N ty0) (hk : k < N) (hlk : Cond.fieldLink own idx Cn (T k).2.1 (T k).2.2.1 ∈ lw_all) (he : (T k).1 = Cn) (hfin : (T k).2.2.2 = false ∨ ((T k).2.2.2 = true ∧ (xh X).name = "<init>" ∧ (T k).1 = own)) (hd : parseFieldDescriptor (T k).2.2.1 = some (.object C9)) (d : decode cc pc = .ok (.putfield idx, 3)) (hw : pF h a ci k (rV x) K) (kk : ∀ h1, K h1 → Go G X R nL cells slots Q h1 (pc + 3) L st) : Go G X R nL cells slots Q h pc L (rV x :: rV (some a) :: st) := go_putG C cf hk hlk he hfin hd (narrow_rf _ x) (fits_rf _ x) d hw kk
theorem go_putRA (C : Cx G X own cc nL ret) {ci k idx a N : Nat} {Cn : String} {T : u_T} {ty0 : Nat → FieldType} {x : Option Nat} {t9 : FieldType} {K : Hp → Prop} (cf : CF ci Cn T N ty0) (hk : k < N) (hlk : Cond.fieldLink own idx Cn (T k).2.1 (T k).2.2.1 ∈ lw_all) (he : (T k).1 = Cn) (hfin : (T k).2.2.2 = false ∨ ((T k).2.2.2 = true ∧ (xh X).name = "<init>" ∧ (T k).1 = own)) (hd : parseFieldDescriptor (T k).2.2.1 = some (.array t9)) (d : decode cc pc = .ok (.putfield idx, 3)) (hw : pF h a ci k (rV x) K) (kk : ∀ h1, K h1 → Go G X R nL cells slots Q h1 (pc + 3) L st) : Go G X R nL cells slots Q h pc L (rV x :: rV (some a) :: st) := go_putG C cf hk hlk he hfin hd (narrow_rfa _ x) (fits_rfa _ x) d hw kk
theorem go_iaload (C : Cx G X own cc nL ret) {a : Nat} {i : Int32} {K : Int32 → Prop} (d : decode cc pc = .ok (.iaload, 1)) (hw : aI h a 0 i K) (kk : ∀ v, K v → Go G X R nL cells slots Q h (pc + 1) L (iV v :: st)) : Go G X R nL cells slots Q h pc L (iV i :: rV (some a) :: st) := by
  intro H locs ls hP hS hl
  obtain ⟨n, f, ha, hin, hK⟩ := hw
  have hlt : i.toNatClampNeg < n := Nat.not_le.mp fun q => hin (Or.inr q)
  exact W.iald (v := toV (iV (f i.toNatClampNeg))) C.1 C.2.1 (hP a _ ha).1 ((C.k.1.2 0 _ rfl).1 n (fun j => .int (f j))) (fun q => by cases q) (by show ¬ (i < 0 ∨ (arrV _ _ _).slots.size ≤ _); rw [arrV_size]; exact hin) (by show (arrV _ _ _).slots[_]? = _; rw [arrV_read _ _ hlt]; rfl) rfl rfl d (kk _ hK H locs ls hP hS hl)
theorem go_zaload (C : Cx G X own cc nL ret) {a : Nat} {i : Int32} {K : Int32 → Prop} (d : decode cc pc = .ok (.baload, 1)) (hw : aI h a 1 i K) (kk : ∀ v, K v → Go G X R nL cells slots Q h (pc + 1) L (iV v :: st)) : Go G X R nL cells slots Q h pc L (iV i :: rV (some a) :: st) := by
  intro H locs ls hP hS hl
  obtain ⟨n, f, ha, hin, hK⟩ := hw
  have hlt : i.toNatClampNeg < n := Nat.not_le.mp fun q => hin (Or.inr q)
  exact W.zald (v := toV (iV (f i.toNatClampNeg))) C.1 C.2.1 (hP a _ ha).1 ((C.k.1.2 1 _ rfl).1 n (fun j => .int (f j))) (fun q => by cases q) (by show ¬ (i < 0 ∨ (arrV _ _ _).slots.size ≤ _); rw [arrV_size]; exact hin) (by show (arrV _ _ _).slots[_]? = _; rw [arrV_read _ _ hlt]; rfl) rfl rfl d (kk _ hK H locs ls hP hS hl)
theorem go_caload (C : Cx G X own cc nL ret) {a : Nat} {i : Int32} {K : Int32 → Prop} (d : decode cc pc = .ok (.caload, 1)) (hw : aI h a 2 i K) (kk : ∀ v, K v → Go G X R nL cells slots Q h (pc + 1) L (iV v :: st)) : Go G X R nL cells slots Q h pc L (iV i :: rV (some a) :: st) := by
  intro H locs ls hP hS hl
  obtain ⟨n, f, ha, hin, hK⟩ := hw
  have hlt : i.toNatClampNeg < n := Nat.not_le.mp fun q => hin (Or.inr q)
  exact W.cald (v := toV (iV (f i.toNatClampNeg))) C.1 C.2.1 (hP a _ ha).1 ((C.k.1.2 2 _ rfl).1 n (fun j => .int (f j))) (fun q => by cases q) (by show ¬ (i < 0 ∨ (arrV _ _ _).slots.size ≤ _); rw [arrV_size]; exact hin) (by show (arrV _ _ _).slots[_]? = _; rw [arrV_read _ _ hlt]; rfl) rfl rfl d (kk _ hK H locs ls hP hS hl)
theorem go_laload (C : Cx G X own cc nL ret) {a : Nat} {i : Int32} {K : Int64 → Prop} (d : decode cc pc = .ok (.laload, 1)) (hw : aL h a i K) (kk : ∀ v, K v → Go G X R nL cells slots Q h (pc + 1) L (lV v :: st)) : Go G X R nL cells slots Q h pc L (iV i :: rV (some a) :: st) := by
  intro H locs ls hP hS hl
  obtain ⟨n, f, ha, hin, hK⟩ := hw
  have hlt : i.toNatClampNeg < n := Nat.not_le.mp fun q => hin (Or.inr q)
  exact W.lald (v := toV (lV (f i.toNatClampNeg))) C.1 C.2.1 (hP a _ ha).1 ((C.k.1.2 3 _ rfl).1 n (fun j => .long (f j))) (fun q => by cases q) (by show ¬ (i < 0 ∨ (arrV _ _ _).slots.size ≤ _); rw [arrV_size]; exact hin) (by show (arrV _ _ _).slots[_]? = _; rw [arrV_read _ _ hlt]; rfl) rfl rfl d (kk _ hK H locs ls hP hS hl)
theorem go_daload (C : Cx G X own cc nL ret) {a : Nat} {i : Int32} {K : UInt64 → Prop} (d : decode cc pc = .ok (.daload, 1)) (hw : aD h a i K) (kk : ∀ v, K v → Go G X R nL cells slots Q h (pc + 1) L (dV v :: st)) : Go G X R nL cells slots Q h pc L (iV i :: rV (some a) :: st) := by
  intro H locs ls hP hS hl
  obtain ⟨n, f, ha, hin, hK⟩ := hw
  have hlt : i.toNatClampNeg < n := Nat.not_le.mp fun q => hin (Or.inr q)
  exact W.dald (v := toV (dV (f i.toNatClampNeg))) C.1 C.2.1 (hP a _ ha).1 ((C.k.1.2 4 _ rfl).1 n (fun j => .double (f j))) (fun q => by cases q) (by show ¬ (i < 0 ∨ (arrV _ _ _).slots.size ≤ _); rw [arrV_size]; exact hin) (by show (arrV _ _ _).slots[_]? = _; rw [arrV_read _ _ hlt]; rfl) rfl rfl d (kk _ hK H locs ls hP hS hl)
theorem go_aaload5 (C : Cx G X own cc nL ret) {a : Nat} {i : Int32} {K : Option Nat → Prop} (d : decode cc pc = .ok (.aaload, 1)) (hw : aR h a 5 i K) (kk : ∀ v, K v → Go G X R nL cells slots Q h (pc + 1) L (rV v :: st)) : Go G X R nL cells slots Q h pc L (iV i :: rV (some a) :: st) := by
  intro H locs ls hP hS hl
  obtain ⟨n, f, ha, hin, hK⟩ := hw
  exact va_aldq (C := RX10) C.1 C.2.1 C.k.1 (hP.one ha) 0 5 rfl rfl hin d (kk _ hK H locs ls hP hS hl)
theorem go_aaload6 (C : Cx G X own cc nL ret) {a : Nat} {i : Int32} {K : Option Nat → Prop} (d : decode cc pc = .ok (.aaload, 1)) (hw : aR h a 6 i K) (kk : ∀ v, K v → Go G X R nL cells slots Q h (pc + 1) L (rV v :: st)) : Go G X R nL cells slots Q h pc L (iV i :: rV (some a) :: st) := by
  intro H locs ls hP hS hl
  obtain ⟨n, f, ha, hin, hK⟩ := hw
  exact va_aldq (C := RX3) C.1 C.2.1 C.k.1 (hP.one ha) 0 6 rfl rfl hin d (kk _ hK H locs ls hP hS hl)
theorem go_aaload7 (C : Cx G X own cc nL ret) {a : Nat} {i : Int32} {K : Option Nat → Prop} (d : decode cc pc = .ok (.aaload, 1)) (hw : aR h a 7 i K) (kk : ∀ v, K v → Go G X R nL cells slots Q h (pc + 1) L (rV v :: st)) : Go G X R nL cells slots Q h pc L (iV i :: rV (some a) :: st) := by
  intro H locs ls hP hS hl
  obtain ⟨n, f, ha, hin, hK⟩ := hw
  exact va_aldq (C := RX7) C.1 C.2.1 C.k.1 (hP.one ha) 0 7 rfl rfl hin d (kk _ hK H locs ls hP hS hl)
theorem go_aaload8 (C : Cx G X own cc nL ret) {a : Nat} {i : Int32} {K : Option Nat → Prop} (d : decode cc pc = .ok (.aaload, 1)) (hw : aR h a 8 i K) (kk : ∀ v, K v → Go G X R nL cells slots Q h (pc + 1) L (rV v :: st)) : Go G X R nL cells slots Q h pc L (iV i :: rV (some a) :: st) := by
  intro H locs ls hP hS hl
  obtain ⟨n, f, ha, hin, hK⟩ := hw
  exact va_aldq (C := RX1) C.1 C.2.1 C.k.1 (hP.one ha) 0 8 rfl rfl hin d (kk _ hK H locs ls hP hS hl)
theorem go_aaload9 (C : Cx G X own cc nL ret) {a : Nat} {i : Int32} {K : Option Nat → Prop} (d : decode cc pc = .ok (.aaload, 1)) (hw : aR h a 9 i K) (kk : ∀ v, K v → Go G X R nL cells slots Q h (pc + 1) L (rV v :: st)) : Go G X R nL cells slots Q h pc L (iV i :: rV (some a) :: st) := by
  intro H locs ls hP hS hl
  obtain ⟨n, f, ha, hin, hK⟩ := hw
  exact va_aldq (C := RX4) C.1 C.2.1 C.k.1 (hP.one ha) 0 9 rfl rfl hin d (kk _ hK H locs ls hP hS hl)
theorem go_iastore (C : Cx G X own cc nL ret) {a : Nat} {i : Int32} {x : Int32} {K : Hp → Prop} (d : decode cc pc = .ok (.iastore, 1)) (hw : sI h a 0 i x K) (kk : ∀ h1, K h1 → Go G X R nL cells slots Q h1 (pc + 1) L st) : Go G X R nL cells slots Q h pc L (iV x :: iV i :: rV (some a) :: st) := by
  intro H locs ls hP hS hl
  obtain ⟨n, f, ha, hin, hK⟩ := hw
  refine W.iast C.1 C.2.1 (hP a _ ha).1 ((C.k.1.2 0 _ rfl).1 n (fun j => .int (f j))) (fun q => by cases q) (by show ¬ (i < 0 ∨ (arrV _ _ _).slots.size ≤ _); rw [arrV_size]; exact hin) rfl rfl d fun H1 e z oq => ?_
  refine kk _ hK H1 _ ls (hP.put ha ?_ oq) (hS.put z oq (hP a _ ha).2) hl
  show H1[a]? = some (vp_cell _ _)
  rw [e]
  rw [vp_cell_i, vp_cell_i, arrV_store]
  congr 2
  funext q
  by_cases hq : q = i.toNatClampNeg
  · subst hq
    simp [updV, upd]
    try rfl
  · simp [updV, upd, hq]
theorem go_zastore (C : Cx G X own cc nL ret) {a : Nat} {i : Int32} {x : Int32} {K : Hp → Prop} (d : decode cc pc = .ok (.bastore, 1)) (hw : sI h a 1 i (vp_nar .boolean x) K) (kk : ∀ h1, K h1 → Go G X R nL cells slots Q h1 (pc + 1) L st) : Go G X R nL cells slots Q h pc L (iV x :: iV i :: rV (some a) :: st) := by
  intro H locs ls hP hS hl
  obtain ⟨n, f, ha, hin, hK⟩ := hw
  refine W.zast C.1 C.2.1 (hP a _ ha).1 ((C.k.1.2 1 _ rfl).1 n (fun j => .int (f j))) (fun q => by cases q) (by show ¬ (i < 0 ∨ (arrV _ _ _).slots.size ≤ _); rw [arrV_size]; exact hin) rfl rfl d fun H1 e z oq => ?_
  refine kk _ hK H1 _ ls (hP.put ha ?_ oq) (hS.put z oq (hP a _ ha).2) hl
  show H1[a]? = some (vp_cell _ _)
  rw [e]
  rw [vp_cell_i, vp_cell_i, arrV_store]
  congr 2
  funext q
  by_cases hq : q = i.toNatClampNeg
  · subst hq
    simp [updV, upd, vp_nar]
    try rfl
  · simp [updV, upd, vp_nar, hq]
theorem go_castore (C : Cx G X own cc nL ret) {a : Nat} {i : Int32} {x : Int32} {K : Hp → Prop} (d : decode cc pc = .ok (.castore, 1)) (hw : sI h a 2 i (vp_nar .char x) K) (kk : ∀ h1, K h1 → Go G X R nL cells slots Q h1 (pc + 1) L st) : Go G X R nL cells slots Q h pc L (iV x :: iV i :: rV (some a) :: st) := by
  intro H locs ls hP hS hl
  obtain ⟨n, f, ha, hin, hK⟩ := hw
  refine W.cast C.1 C.2.1 (hP a _ ha).1 ((C.k.1.2 2 _ rfl).1 n (fun j => .int (f j))) (fun q => by cases q) (by show ¬ (i < 0 ∨ (arrV _ _ _).slots.size ≤ _); rw [arrV_size]; exact hin) rfl rfl d fun H1 e z oq => ?_
  refine kk _ hK H1 _ ls (hP.put ha ?_ oq) (hS.put z oq (hP a _ ha).2) hl
  show H1[a]? = some (vp_cell _ _)
  rw [e]
  rw [vp_cell_i, vp_cell_i, arrV_store]
  congr 2
  funext q
  by_cases hq : q = i.toNatClampNeg
  · subst hq
    simp [updV, upd, vp_nar]
    try rfl
  · simp [updV, upd, vp_nar, hq]
theorem go_lastore (C : Cx G X own cc nL ret) {a : Nat} {i : Int32} {x : Int64} {K : Hp → Prop} (d : decode cc pc = .ok (.lastore, 1)) (hw : sL h a i x K) (kk : ∀ h1, K h1 → Go G X R nL cells slots Q h1 (pc + 1) L st) : Go G X R nL cells slots Q h pc L (lV x :: iV i :: rV (some a) :: st) := by
  intro H locs ls hP hS hl
  obtain ⟨n, f, ha, hin, hK⟩ := hw
  refine W.last C.1 C.2.1 (hP a _ ha).1 ((C.k.1.2 3 _ rfl).1 n (fun j => .long (f j))) (fun q => by cases q) (by show ¬ (i < 0 ∨ (arrV _ _ _).slots.size ≤ _); rw [arrV_size]; exact hin) rfl rfl d fun H1 e z oq => ?_
  refine kk _ hK H1 _ ls (hP.put ha ?_ oq) (hS.put z oq (hP a _ ha).2) hl
  show H1[a]? = some (vp_cell _ _)
  rw [e]
  rw [vp_cell_l, vp_cell_l, arrV_store]
  congr 2
  funext q
  by_cases hq : q = i.toNatClampNeg
  · subst hq
    simp [updV, vp_updL]
    try rfl
  · simp [updV, vp_updL, hq]
theorem go_dastore (C : Cx G X own cc nL ret) {a : Nat} {i : Int32} {x : UInt64} {K : Hp → Prop} (d : decode cc pc = .ok (.dastore, 1)) (hw : sD h a i x K) (kk : ∀ h1, K h1 → Go G X R nL cells slots Q h1 (pc + 1) L st) : Go G X R nL cells slots Q h pc L (dV x :: iV i :: rV (some a) :: st) := by
  intro H locs ls hP hS hl
  obtain ⟨n, f, ha, hin, hK⟩ := hw
  refine W.dast C.1 C.2.1 (hP a _ ha).1 ((C.k.1.2 4 _ rfl).1 n (fun j => .double (f j))) (fun q => by cases q) (by show ¬ (i < 0 ∨ (arrV _ _ _).slots.size ≤ _); rw [arrV_size]; exact hin) rfl rfl d fun H1 e z oq => ?_
  refine kk _ hK H1 _ ls (hP.put ha ?_ oq) (hS.put z oq (hP a _ ha).2) hl
  show H1[a]? = some (vp_cell _ _)
  rw [e]
  rw [vp_cell_d, vp_cell_d, arrV_store]
  congr 2
  funext q
  by_cases hq : q = i.toNatClampNeg
  · subst hq
    simp [updV, vf_upd]
    try rfl
  · simp [updV, vf_upd, hq]
theorem go_alen (C : Cx G X own cc nL ret) {a : Nat} {K : Int32 → Prop} (d : decode cc pc = .ok (.arraylength, 1)) (hw : aN h a K) (kk : ∀ v, K v → Go G X R nL cells slots Q h (pc + 1) L (iV v :: st)) : Go G X R nL cells slots Q h pc L (rV (some a) :: st) := by
  intro H locs ls hP hS hl
  obtain ⟨t, x, ha, ht, hK⟩ := hw
  have h9 : ∃ ty, (tysOf G.2.1)[t]? = some (G.2.1 t, ty) := by
    match t, ht with
    | 0, _ => exact ⟨_, rfl⟩
    | 1, _ => exact ⟨_, rfl⟩
    | 2, _ => exact ⟨_, rfl⟩
    | 3, _ => exact ⟨_, rfl⟩
    | 4, _ => exact ⟨_, rfl⟩
    | 5, _ => exact ⟨_, rfl⟩
    | 6, _ => exact ⟨_, rfl⟩
    | 7, _ => exact ⟨_, rfl⟩
    | 8, _ => exact ⟨_, rfl⟩
    | 9, _ => exact ⟨_, rfl⟩
    | k + 10, hk => exact absurd hk (by omega)
  obtain ⟨ty, h9⟩ := h9
  exact va_alen C.1 C.2.1 C.k.1 (hP.one ha) 0 t rfl h9 rfl d (kk _ hK H locs ls hP hS hl)
theorem catsum (st : List Tv) : ((st.map toV).map fun v => v.category).sum = (st.map (fun v => if wide v then 2 else 1)).sum := by
  rw [List.map_map]
  congr 1
  apply List.map_congr_left
  intro v _
  exact toV_cat v
theorem go_imax (C : Cx G X own cc nL ret) {idx : Nat} {x y : Int32} (hlk : Cond.methodLink own idx Lib.Math.max.name ∈ lw_all) (w1 : Cond.static Lib.Math.max.name ∈ lw_all) (w2 : Cond.initialized "java/lang/Math" ∈ lw_all) (w3 : Cond.code Lib.Math.max.name Lib.Math.max.code 2 (some .int) ∈ lw_all) (hR : 1 ≤ R.frames ∧ 31 ≤ R.locals ∧ cells ≤ R.cells ∧ slots ≤ R.slots) (hs8 : (st.map (fun v => if wide v then 2 else 1)).sum ≤ 16) (d : decode cc pc = .ok (.invokestatic idx, 3)) (k : Go G X R nL cells slots Q h (pc + 3) L (iV (if x < y then y else x) :: st)) : Go G X R nL cells slots Q h pc L (iV y :: iV x :: st) := fun H locs ls hP hS hl => va_mmax C.1 C.2.1 (C.2.2.1.trans hl.1.symm) C.2.2.2.1 (C.w hlk) (C.w w1) (C.w w2) (C.w w3) hR.1 (by rw [catsum]; have := hR.2.1; omega) hR.2.2.1 hR.2.2.2 d (k H locs ls hP hS hl)
theorem go_imin (C : Cx G X own cc nL ret) {idx : Nat} {x y : Int32} (hlk : Cond.methodLink own idx Lib.Math.min.name ∈ lw_all) (w1 : Cond.static Lib.Math.min.name ∈ lw_all) (w2 : Cond.initialized "java/lang/Math" ∈ lw_all) (w3 : Cond.code Lib.Math.min.name Lib.Math.min.code 2 (some .int) ∈ lw_all) (hR : 1 ≤ R.frames ∧ 31 ≤ R.locals ∧ cells ≤ R.cells ∧ slots ≤ R.slots) (hs8 : (st.map (fun v => if wide v then 2 else 1)).sum ≤ 16) (d : decode cc pc = .ok (.invokestatic idx, 3)) (k : Go G X R nL cells slots Q h (pc + 3) L (iV (if y < x then y else x) :: st)) : Go G X R nL cells slots Q h pc L (iV y :: iV x :: st) := fun H locs ls hP hS hl => va_mmin C.1 C.2.1 (C.2.2.1.trans hl.1.symm) C.2.2.2.1 (C.w hlk) (C.w w1) (C.w w2) (C.w w3) hR.1 (by rw [catsum]; have := hR.2.1; omega) hR.2.2.1 hR.2.2.2 d (k H locs ls hP hS hl)
theorem go_lmax (C : Cx G X own cc nL ret) {idx : Nat} {x y : Int64} (hlk : Cond.methodLink own idx Lib.MathLoose.max_long.x ∈ lw_all) (w1 : Cond.static Lib.MathLoose.max_long.x ∈ lw_all) (w2 : Cond.initialized "java/lang/Math" ∈ lw_all) (w3 : Cond.code Lib.MathLoose.max_long.x Lib.MathLoose.max_long.code 4 (some .long) ∈ lw_all) (hR : 1 ≤ R.frames ∧ 31 ≤ R.locals ∧ cells ≤ R.cells ∧ slots ≤ R.slots) (hs8 : (st.map (fun v => if wide v then 2 else 1)).sum ≤ 16) (d : decode cc pc = .ok (.invokestatic idx, 3)) (k : Go G X R nL cells slots Q h (pc + 3) L (lV (if y < x then x else y) :: st)) : Go G X R nL cells slots Q h pc L (lV y :: lV x :: st) := fun H locs ls hP hS hl => va_mmax_long C.1 C.2.1 (C.2.2.1.trans hl.1.symm) C.2.2.2.1 (C.w hlk) (C.w w1) (C.w w2) (C.w w3) hR.1 (by rw [catsum]; have := hR.2.1; omega) hR.2.2.1 hR.2.2.2 d (k H locs ls hP hS hl)
def aO (i : Int32) (K : Int32 → Prop) : Prop := vp_in i 18 ∧ K (ordA i.toNatClampNeg)
theorem go_orders (C : Cx G X own cc nL ret) {idx : Nat} (hlk : Cond.fieldLinkNest own idx RX11 "ORDERS" "[I" RX11 ∈ tables_1) (d : decode cc pc = .ok (.getstatic idx, 3)) (k : Go G X R nL cells slots Q h (pc + 3) L (rV (some G.2.2.2.1) :: st)) : Go G X R nL cells slots Q h pc L st := by
  intro H locs ls hP hS hl
  obtain ⟨k1, k2, k3, k4, k5, k6, k7, k8, k9⟩ := C.k
  exact va_getsN C.1 C.2.1 k8 hS C.2.2.2.1 (va_Nw.use rfl (k5 _ (List.mem_filter.mpr ⟨hlk, rfl⟩))) (fun x hx => hx) d (k H locs ls hP hS hl)
theorem go_ordlen (C : Cx G X own cc nL ret) (d : decode cc pc = .ok (.arraylength, 1)) (k : Go G X R nL cells slots Q h (pc + 1) L (iV 18 :: st)) : Go G X R nL cells slots Q h pc L (rV (some G.2.2.2.1) :: st) := by
  intro H locs ls hP hS hl
  obtain ⟨k1, k2, k3, k4, k5, k6, k7, k8, k9⟩ := C.k
  obtain ⟨cell, h1, h2, h3, h4, h5, h6, h7⟩ := k9
  exact W.alen (n := 18) C.1 C.2.1 (by rw [hS.2.1 _ (Array.getElem?_eq_some_iff.mp h1).1 h7]; exact h1) h2 h5 rfl rfl d (k H locs ls hP hS hl)
theorem go_ordld (C : Cx G X own cc nL ret) {i : Int32} {K : Int32 → Prop} (d : decode cc pc = .ok (.iaload, 1)) (hw : aO i K) (kk : ∀ v, K v → Go G X R nL cells slots Q h (pc + 1) L (iV v :: st)) : Go G X R nL cells slots Q h pc L (iV i :: rV (some G.2.2.2.1) :: st) := by
  intro H locs ls hP hS hl
  obtain ⟨k1, k2, k3, k4, k5, k6, k7, k8, k9⟩ := C.k
  obtain ⟨cell, h1, h2, h3, h4, h5, h6, h7⟩ := k9
  have hin := hw.1
  have hlt : i.toNatClampNeg < 18 := Nat.not_le.mp fun q => hin (Or.inr q)
  exact W.iald (v := .int (ordA i.toNatClampNeg)) C.1 C.2.1 (by rw [hS.2.1 _ (Array.getElem?_eq_some_iff.mp h1).1 h7]; exact h1) h2 h3 (fun q => q.elim (fun a => hin (Or.inl a)) (fun a => absurd hlt (Nat.not_lt.mpr (Nat.le_trans h4 a)))) (h6 _ hlt) rfl rfl d (kk _ hw.2 H locs ls hP hS hl)
end GRB
