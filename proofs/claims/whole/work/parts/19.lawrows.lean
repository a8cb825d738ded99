section GRL
variable {G : Gp} {X : Kx} {own : String} {cc : ByteArray} {nL : Nat} {ret : Option FieldType} {R : Room} {cells slots : Nat} {Q : State → Prop} {h : Hp} {pc : Nat} {L : List (Nat × Tv)} {st st0 : List Tv}
variable {y : MethodName} {bytes : ByteArray} {maxL n idx : Nat} {rt : Option FieldType} {rm : Room} {KX : String → Hp → Prop}
/-- a frame in which q, of the class E, has been thrown -/
def GoX (G : Gp) (X : Kx) (R : Room) (nL cells slots : Nat) (Q : State → Prop) (h : Hp) (pc : Nat) (L : List (Nat × Tv)) (E : String) (q : Nat) : Prop :=
  ∀ (H : Heap) (locs : List Loc) (ls : Array Slot) (ce : Cell) (rest : List Value), Rp G h H → va_S (AA G) (xs X).heap H locs → lv_has ls nL (lvV L) → H[q]? = some ce → ce.vm = .none → (xs X).vm.findClass E = some ce.cls → vx_W (xp X) (xl X) (xe X) R (xs X) (xm X) (xa X) (xb X) (xh X) (xc X) H locs cells slots Q (F0 (xm X) pc ls rest) q
theorem go_catch (C : Cx G X own cc nL ret) {E name : String} {q : Nat} (pre : List ExceptionTableEntry) (x : ExceptionTableEntry) (suf : List ExceptionTableEntry) (hsplit : (xc X).exceptionTable.toList = pre ++ x :: suf)
    (hpass : ∀ z ∈ pre, z.catchType ≠ 0 ∧ ∃ nm : String, Cond.classLink own z.catchType nm ∈ lw_all ∧ (E, nm) ∈ ncl) (hx : covers x pc = true) (h0 : x.catchType ≠ 0)
    (hlink : Cond.classLink own x.catchType name ∈ lw_all) (hcast : Cond.castable E name ∈ tables_1) (k : Go G X R nL cells slots Q h x.handlerPc L [rV (some q)]) : GoX G X R nL cells slots Q h pc L E q := by
  intro H locs ls ce rest hP hS hl hc hv hcl
  obtain ⟨k1, k2, k3, k4, k5, k6, k7, k8, k9⟩ := C.k
  refine vx_catch C.2.2.2.1 pre x suf hsplit (fun z hz => ?_) hx h0 (C.w hlink) (va_Nw.use rfl (k5 _ (List.mem_filter.mpr ⟨hcast, rfl⟩))) hc hv hcl (k H locs ls hP hS hl)
  obtain ⟨h1, nm, h2, h3⟩ := hpass z hz
  exact Or.inr ⟨h1, nm, C.w h2, k6.2 _ h3⟩
theorem go_bipush9 : True := trivial
theorem go_hcall_i (C : Cx G X own cc nL ret) {b ci : Nat} {Cn : String} {T : u_T} {N : Nat} (As : List Tv) {K : Int32 → Hp → Prop} (V : VI Cn y bytes maxL rt n) (hlk : Cond.methodLink own idx y ∈ lw_all) (cf : kcl[ci]? = some (Cn, T, N)) (M : MX G (xl X) y bytes maxL rt rm (rV (some b) :: As) h (QI G K) KX) (hR : RmOk rm maxL R cells slots) (hcv : ∃ fs, h b = some (.inr (ci, fs))) (d : decode cc pc = .ok (.invokevirtual idx, 3)) (hn : As.length = n) (h8 : (st.map (fun v => if wide v then 2 else 1)).sum ≤ 8) (e : st0 = As.reverse ++ rV (some b) :: st) (kx : ∀ E h1 q, KX E h1 → GoX G X R nL (cells + rm.cells) (slots + rm.slots) Q h1 pc L E q) (kk : ∀ r h1, K r h1 → Go G X R nL (cells + rm.cells) (slots + rm.slots) Q h1 (pc + 3) L (iV r :: st)) : Go G X R nL cells slots Q h pc L st0 := by
  intro H locs ls hP hS hl
  refine vx_calli (go_xrunV C V hlk cf M hR hcv d hn h8 e hP hS hl) hS (fun q _ hq => hq) (fun q hq => hq) (fun q _ hq => hq) (fun E ce q9 u t H1 locs1 ht hvm hpx hB hz hk hS1 hce hcv9 hcl => ?_) (fun r u t H1 locs1 ht hvm hw hB hz hk hS1 => ?_)
  · have hB1 : Rp G u H1 := by rw [← ht]; exact hB.2
    exact kx E u q9 hB.1 H1 locs1 ls ce _ hB1 hS1 hl hce hcv9 hcl
  · have hB1 : Rp G u H1 := by rw [← ht]; exact hB
    exact kk r u hw H1 locs1 ls hB1 hS1 hl
theorem go_hcall_l (C : Cx G X own cc nL ret) {b ci : Nat} {Cn : String} {T : u_T} {N : Nat} (As : List Tv) {K : Int64 → Hp → Prop} (V : VI Cn y bytes maxL rt n) (hlk : Cond.methodLink own idx y ∈ lw_all) (cf : kcl[ci]? = some (Cn, T, N)) (M : MX G (xl X) y bytes maxL rt rm (rV (some b) :: As) h (QL G K) KX) (hR : RmOk rm maxL R cells slots) (hcv : ∃ fs, h b = some (.inr (ci, fs))) (d : decode cc pc = .ok (.invokevirtual idx, 3)) (hn : As.length = n) (h8 : (st.map (fun v => if wide v then 2 else 1)).sum ≤ 8) (e : st0 = As.reverse ++ rV (some b) :: st) (kx : ∀ E h1 q, KX E h1 → GoX G X R nL (cells + rm.cells) (slots + rm.slots) Q h1 pc L E q) (kk : ∀ r h1, K r h1 → Go G X R nL (cells + rm.cells) (slots + rm.slots) Q h1 (pc + 3) L (lV r :: st)) : Go G X R nL cells slots Q h pc L st0 := by
  intro H locs ls hP hS hl
  refine vx_calll (go_xrunV C V hlk cf M hR hcv d hn h8 e hP hS hl) hS (fun q _ hq => hq) (fun q hq => hq) (fun q _ hq => hq) (fun E ce q9 u t H1 locs1 ht hvm hpx hB hz hk hS1 hce hcv9 hcl => ?_) (fun r u t H1 locs1 ht hvm hw hB hz hk hS1 => ?_)
  · have hB1 : Rp G u H1 := by rw [← ht]; exact hB.2
    exact kx E u q9 hB.1 H1 locs1 ls ce _ hB1 hS1 hl hce hcv9 hcl
  · have hB1 : Rp G u H1 := by rw [← ht]; exact hB
    exact kk r u hw H1 locs1 ls hB1 hS1 hl
theorem go_hcall_f (C : Cx G X own cc nL ret) {b ci : Nat} {Cn : String} {T : u_T} {N : Nat} (As : List Tv) {K : UInt32 → Hp → Prop} (V : VI Cn y bytes maxL rt n) (hlk : Cond.methodLink own idx y ∈ lw_all) (cf : kcl[ci]? = some (Cn, T, N)) (M : MX G (xl X) y bytes maxL rt rm (rV (some b) :: As) h (QF G K) KX) (hR : RmOk rm maxL R cells slots) (hcv : ∃ fs, h b = some (.inr (ci, fs))) (d : decode cc pc = .ok (.invokevirtual idx, 3)) (hn : As.length = n) (h8 : (st.map (fun v => if wide v then 2 else 1)).sum ≤ 8) (e : st0 = As.reverse ++ rV (some b) :: st) (kx : ∀ E h1 q, KX E h1 → GoX G X R nL (cells + rm.cells) (slots + rm.slots) Q h1 pc L E q) (kk : ∀ r h1, K r h1 → Go G X R nL (cells + rm.cells) (slots + rm.slots) Q h1 (pc + 3) L (fV r :: st)) : Go G X R nL cells slots Q h pc L st0 := by
  intro H locs ls hP hS hl
  refine vx_callf (go_xrunV C V hlk cf M hR hcv d hn h8 e hP hS hl) hS (fun q _ hq => hq) (fun q hq => hq) (fun q _ hq => hq) (fun E ce q9 u t H1 locs1 ht hvm hpx hB hz hk hS1 hce hcv9 hcl => ?_) (fun r u t H1 locs1 ht hvm hw hB hz hk hS1 => ?_)
  · have hB1 : Rp G u H1 := by rw [← ht]; exact hB.2
    exact kx E u q9 hB.1 H1 locs1 ls ce _ hB1 hS1 hl hce hcv9 hcl
  · have hB1 : Rp G u H1 := by rw [← ht]; exact hB
    exact kk r u hw H1 locs1 ls hB1 hS1 hl
theorem go_hcall_d (C : Cx G X own cc nL ret) {b ci : Nat} {Cn : String} {T : u_T} {N : Nat} (As : List Tv) {K : UInt64 → Hp → Prop} (V : VI Cn y bytes maxL rt n) (hlk : Cond.methodLink own idx y ∈ lw_all) (cf : kcl[ci]? = some (Cn, T, N)) (M : MX G (xl X) y bytes maxL rt rm (rV (some b) :: As) h (QD G K) KX) (hR : RmOk rm maxL R cells slots) (hcv : ∃ fs, h b = some (.inr (ci, fs))) (d : decode cc pc = .ok (.invokevirtual idx, 3)) (hn : As.length = n) (h8 : (st.map (fun v => if wide v then 2 else 1)).sum ≤ 8) (e : st0 = As.reverse ++ rV (some b) :: st) (kx : ∀ E h1 q, KX E h1 → GoX G X R nL (cells + rm.cells) (slots + rm.slots) Q h1 pc L E q) (kk : ∀ r h1, K r h1 → Go G X R nL (cells + rm.cells) (slots + rm.slots) Q h1 (pc + 3) L (dV r :: st)) : Go G X R nL cells slots Q h pc L st0 := by
  intro H locs ls hP hS hl
  refine vx_calld (go_xrunV C V hlk cf M hR hcv d hn h8 e hP hS hl) hS (fun q _ hq => hq) (fun q hq => hq) (fun q _ hq => hq) (fun E ce q9 u t H1 locs1 ht hvm hpx hB hz hk hS1 hce hcv9 hcl => ?_) (fun r u t H1 locs1 ht hvm hw hB hz hk hS1 => ?_)
  · have hB1 : Rp G u H1 := by rw [← ht]; exact hB.2
    exact kx E u q9 hB.1 H1 locs1 ls ce _ hB1 hS1 hl hce hcv9 hcl
  · have hB1 : Rp G u H1 := by rw [← ht]; exact hB
    exact kk r u hw H1 locs1 ls hB1 hS1 hl
abbrev wMH (y : MethodName) (bytes : ByteArray) (maxL : Nat) (ret : Option FieldType) (hh : List (Nat × Nat × Nat × Nat)) : List Cond := .codeWith y bytes maxL ret hh :: lw_all
/-- a method with handlers that returns -/
abbrev MH (G : Gp) (l : Launch) (y : MethodName) (bytes : ByteArray) (maxL : Nat) (ret : Option FieldType) (hh : List (Nat × Nat × Nat × Nat)) (rm : Room) (as : List Tv) (h : Hp) (Qc : Array Value → State → Outcome → State → Prop) : Prop := vx_Met l y (wMH y bytes maxL ret hh) rm (Pc G as h) Qc (XX G (fun _ _ => False)) rm.cells rm.slots (AA G)
theorem go_hmet {cc : ByteArray} {ret : Option FieldType} {hh : List (Nat × Nat × Nat × Nat)} (l : Launch) (hfl : l.stackTraces = false) (y : MethodName) (maxL : Nat) (as : List Tv) (rm : Room) {Qc : Array Value → State → Outcome → State → Prop} {Cn : String} (hc : y.cls = Cn) (hp : plainName Cn = true) (hw : lenT as ≤ maxL) (L : List (Nat × Tv)) (hL : lvT 0 as = L)
    (body : ∀ X : Kx, xl X = l → Cx G X Cn cc maxL ret → (xc X).exceptionTable.toList = tableOf hh → Go G X rm maxL 0 0 (QX G X Qc (fun _ _ => False) rm) h 0 L []) : MH G l y cc maxL ret hh rm as h Qc := by
  subst hc
  refine vx_ofWH (cc := cc) (maxL := maxL) (ret := ret) (hh := hh) hp rfl ?_
  intro p e s m args below meth c s₁ B hml hv
  obtain ⟨rfl, hK, hP⟩ := hv
  have hts := atoms_spec (ws := wMH y cc maxL ret hh) B.pre
  have htab : c.exceptionTable.toList = tableOf hh := vx_table (x := y) B (hts _ List.mem_cons_self)
  have hl := lv_entry (as.map toV) (n := maxL) (by rw [lenT_sl]; exact hw)
  rw [lg_entry_eq]
  generalize (lg_sl (as.map toV) ++ List.replicate (maxL - (lg_sl (as.map toV)).length) Slot.unset).toArray = ls at hl ⊢
  rw [lvT_args, hL] at hl
  exact body (p, l, e, s, m, (as.map toV).toArray, below, meth, c) rfl ⟨B.exec, B.bytes, hml, findClass_of_methodNamed B.named, fun w hw => hts w (List.mem_cons_of_mem _ hw), hK, B.notSynchronized, hfl, B.returns⟩ htab s.heap [] ls hP va_S.rf hl
def SHI (y : MethodName) (bytes : ByteArray) (maxL : Nat) (ret : Option FieldType) (hh : List (Nat × Nat × Nat × Nat)) (n : Nat) : Prop := Cond.static y ∈ lw_all ∧ Cond.initialized y.cls ∈ lw_all ∧ Cond.codeWith y bytes maxL ret hh ∈ lw_all ∧ (y.cls ≠ "java/lang/invoke/MethodHandle" ∧ y.cls ≠ "java/lang/invoke/VarHandle" ∧ (parseMethodDescriptor y.desc).map (fun d => d.parameters.length) = some n)
theorem gi_SH {hh : List (Nat × Nat × Nat × Nat)} (V : SHI y bytes maxL rt hh n) (hlk : Cond.methodLink own idx y ∈ lw_all) : GoodIn lw_all (va_wsS own idx y (wMH y bytes maxL rt hh)) := lw_gi (fun w hw => by
    rcases List.mem_append.mp hw with hw | hw
    · simp only [List.mem_cons, List.not_mem_nil, or_false] at hw
      rcases hw with e1 | e1 | e1
      · rw [e1]; exact hlk
      · rw [e1]; exact V.1
      · rw [e1]; exact V.2.1
    · rcases List.mem_cons.mp hw with e1 | e1
      · rw [e1]; exact V.2.2.1
      · exact e1)
theorem go_callSH_i (C : Cx G X own cc nL ret) {hh : List (Nat × Nat × Nat × Nat)} (As : List Tv) {K : Int32 → Hp → Prop} (V : SHI y bytes maxL rt hh n) (hlk : Cond.methodLink own idx y ∈ lw_all) (M : MH G (xl X) y bytes maxL rt hh rm As h (QI G K)) (hR : RmOk rm maxL R cells slots) (d : decode cc pc = .ok (.invokestatic idx, 3)) (hn : As.length = n) (h8 : (st.map (fun v => if wide v then 2 else 1)).sum ≤ 8) (e : st0 = As.reverse ++ st) (kk : ∀ r h1, K r h1 → Go G X R nL (cells + rm.cells) (slots + rm.slots) Q h1 (pc + 3) L (iV r :: st)) : Go G X R nL cells slots Q h pc L st0 := by
  intro H locs ls hP hS hl
  refine vx_calli (vx_runSX (As := As.map toV) (rest := st.map toV) C.fix M (vx_cwSW n C.2.2.2.2.1 (gi_SH V hlk) rfl rfl rfl V.2.2.2 ⟨hR.1, hR.2.1⟩) (preS C hP hS) rfl (by rw [List.length_map]; exact hn) hl.1 (stk_eqS e) (room8 h8 rfl) d ⟨hR.2.2.1, hR.2.2.2⟩) hS (fun q _ hq => hq) (fun q hq => hq) (fun q _ hq => hq) (fun E ce q9 u t H1 locs1 ht hvm hpx hB hz hk hS1 hce hcv9 hcl => ?_) (fun r u t H1 locs1 ht hvm hw hB hz hk hS1 => ?_)
  · exact False.elim hB.1
  · have hB1 : Rp G u H1 := by rw [← ht]; exact hB
    exact kk r u hw H1 locs1 ls hB1 hS1 hl
end GRL
