/-! CALLS and returns over Go; making of cells. -/
section GRC
abbrev wM (y : MethodName) (bytes : ByteArray) (maxL : Nat) (ret : Option FieldType) : List Cond := .code y bytes maxL ret :: lw_all
abbrev Pc (G : Gp) (as : List Tv) (h : Hp) : Array Value → State → Prop := va_Pc (as.map toV) (fun U => KS G U ∧ Rp G h U.heap)
abbrev Bh (G : Gp) : Hp → State → Prop := fun h t => Rp G h t.heap
abbrev QI (G : Gp) (K : Int32 → Hp → Prop) := va_Qi K (Bh G) (AA G)
abbrev QL (G : Gp) (K : Int64 → Hp → Prop) := va_Ql K (Bh G) (AA G)
abbrev QF (G : Gp) (K : UInt32 → Hp → Prop) := va_Qf K (Bh G) (AA G)
abbrev QD (G : Gp) (K : UInt64 → Hp → Prop) := va_Qd K (Bh G) (AA G)
abbrev QV (G : Gp) (K : Hp → Prop) := va_Qv K (Bh G) (AA G)
abbrev QR (G : Gp) (K : Option Nat → Hp → Prop) := va_Qq K (Bh G) (AA G)
abbrev XX (G : Gp) (KX : String → Hp → Prop) : String → State → State → Prop := vx_X (fun _ : Hp => True) (fun E u t => KX E u ∧ Rp G u t.heap) (AA G)
/-- a method that returns -/
abbrev MT (G : Gp) (l : Launch) (y : MethodName) (bytes : ByteArray) (maxL : Nat) (ret : Option FieldType) (rm : Room) (as : List Tv) (h : Hp) (Qc : Array Value → State → Outcome → State → Prop) : Prop := Met l y (wM y bytes maxL ret) rm (Pc G as h) Qc rm.cells rm.slots (AA G)
/-- a method that returns or throws -/
abbrev MX (G : Gp) (l : Launch) (y : MethodName) (bytes : ByteArray) (maxL : Nat) (ret : Option FieldType) (rm : Room) (as : List Tv) (h : Hp) (Qc : Array Value → State → Outcome → State → Prop) (KX : String → Hp → Prop) : Prop := vx_Met l y (wM y bytes maxL ret) rm (Pc G as h) Qc (XX G KX) rm.cells rm.slots (AA G)
abbrev QN (G : Gp) (X : Kx) (Qc : Array Value → State → Outcome → State → Prop) (rm : Room) : State → Prop := MQ (xb X) Qc (xa X) (xs X) rm.cells rm.slots (AA G)
abbrev QX (G : Gp) (X : Kx) (Qc : Array Value → State → Outcome → State → Prop) (KX : String → Hp → Prop) (rm : Room) : State → Prop := vx_MQ (xb X) Qc (XX G KX) (xa X) (xs X) rm.cells rm.slots (AA G)
def VI (Cn : String) (y : MethodName) (bytes : ByteArray) (maxL : Nat) (ret : Option FieldType) (n : Nat) : Prop := Cond.instanceMethod y ∈ lw_all ∧ Cond.selects Cn y y ∈ lw_all ∧ Cond.initialized Cn ∈ lw_all ∧ Cond.code y bytes maxL ret ∈ lw_all ∧ (y.cls = Cn ∧ y.cls ≠ "java/lang/invoke/MethodHandle" ∧ y.cls ≠ "java/lang/invoke/VarHandle" ∧ (parseMethodDescriptor y.desc).map (fun d => d.parameters.length) = some n)
def SI (y : MethodName) (bytes : ByteArray) (maxL : Nat) (ret : Option FieldType) (n : Nat) : Prop := Cond.static y ∈ lw_all ∧ Cond.initialized y.cls ∈ lw_all ∧ Cond.code y bytes maxL ret ∈ lw_all ∧ (y.cls ≠ "java/lang/invoke/MethodHandle" ∧ y.cls ≠ "java/lang/invoke/VarHandle" ∧ (parseMethodDescriptor y.desc).map (fun d => d.parameters.length) = some n)
def II (y : MethodName) (bytes : ByteArray) (maxL : Nat) (n : Nat) : Prop := Cond.instanceMethod y ∈ lw_all ∧ Cond.initialized y.cls ∈ lw_all ∧ Cond.code y bytes maxL none ∈ lw_all ∧ y.name = "<init>" ∧ (y.cls ≠ "java/lang/invoke/MethodHandle" ∧ y.cls ≠ "java/lang/invoke/VarHandle" ∧ (parseMethodDescriptor y.desc).map (fun d => d.parameters.length) = some n)
def RmOk (rm : Room) (maxL : Nat) (R : Room) (cells slots : Nat) : Prop := rm.frames + 1 ≤ R.frames ∧ 8 + (maxL + 11) + rm.locals ≤ R.locals ∧ cells + rm.cells ≤ R.cells ∧ slots + rm.slots ≤ R.slots
theorem gi_all : ∀ w ∈ lw_all, w ∈ lw_all ∧ ((w.onTables && w.keeps) = true ∨ ∃ ty, w = .arrayClass ty) := lw_gi (fun _ h => h)
theorem gi_wM {y : MethodName} {bytes : ByteArray} {maxL : Nat} {ret : Option FieldType} (h : Cond.code y bytes maxL ret ∈ lw_all) : GoodIn lw_all (wM y bytes maxL ret) := lw_gi (fun w hw => (List.mem_cons.mp hw).elim (fun e => e ▸ h) id)
theorem Pc.blind {G : Gp} {as : List Tv} {h : Hp} : FrameBlind (Pc G as h) := fun a U g mk q => ⟨q.1, q.2.1.same rfl rfl, q.2.2⟩
variable {G : Gp} {X : Kx} {own : String} {cc : ByteArray} {nL : Nat} {ret : Option FieldType} {R : Room} {cells slots : Nat} {Q : State → Prop} {h : Hp} {pc : Nat} {L : List (Nat × Tv)} {st st0 : List Tv}
variable {y : MethodName} {bytes : ByteArray} {maxL n idx : Nat} {rt : Option FieldType} {rm : Room} {As : List Tv} {H : Heap} {locs : List Loc} {ls : Array Slot} {Qc : Array Value → State → Outcome → State → Prop} {KX : String → Hp → Prop}
theorem Cx.fix (C : Cx G X own cc nL ret) : CallFix (xp X) (xm X) (xc X) cc nL (xs X) (xa X) lw_all own := ⟨C.1, C.2.1, C.2.2.1, C.2.2.2.1, C.2.2.2.2.1⟩
theorem stk_eq {b : Option Nat} (e : st0 = As.reverse ++ rV b :: st) : st0.map toV = (As.map toV).reverse ++ va_rf b :: st.map toV := by
  rw [e]; simp [toV]
theorem stk_eqS (e : st0 = As.reverse ++ st) : st0.map toV = (As.map toV).reverse ++ st.map toV := by
  rw [e]; simp
theorem room8 (h8 : (st.map (fun v => if wide v then 2 else 1)).sum ≤ 8) {g : JFrame} (hg : g.monitorRoom = 0) : 2 * g.monitorRoom + ((st.map toV).map fun v => v.category).sum ≤ 8 := by rw [hg, catsum]; omega
theorem preS (C : Cx G X own cc nL ret) (hP : Rp G h H) (hS : va_S (AA G) (xs X).heap H locs) : PreS (xs X) H (Pc G As h) (As.map toV) :=
  ⟨Pc.blind, fun U hU hW => ⟨rfl, C.k.moved hW hU hS, by rw [hU]; exact hP⟩⟩
theorem preV {b ci : Nat} {Cn : String} {T : u_T} {N : Nat} (C : Cx G X own cc nL ret) (cf : kcl[ci]? = some (Cn, T, N)) (hcv : ∃ fs, h b = some (.inr (ci, fs))) (hP : Rp G h H) (hS : va_S (AA G) (xs X).heap H locs) : PreV (xs X) H Cn b (Pc G (rV (some b) :: As) h) (As.map toV) := by
  obtain ⟨fs, hb⟩ := hcv
  exact ⟨Pc.blind, va_recv (q0 := 0) C.k.1 (hP.one hb) cf rfl, fun U hU hW => ⟨rfl, C.k.moved hW hU hS, by rw [hU]; exact hP⟩⟩
theorem go_runV {b ci : Nat} {Cn : String} {T : u_T} {N : Nat} (C : Cx G X own cc nL ret) (V : VI Cn y bytes maxL rt n) (hlk : Cond.methodLink own idx y ∈ lw_all) (cf : kcl[ci]? = some (Cn, T, N)) (M : MT G (xl X) y bytes maxL rt rm (rV (some b) :: As) h Qc) (hR : RmOk rm maxL R cells slots) (hcv : ∃ fs, h b = some (.inr (ci, fs))) (d : decode cc pc = .ok (.invokevirtual idx, 3)) (hn : As.length = n) (h8 : (st.map (fun v => if wide v then 2 else 1)).sum ≤ 8) (e : st0 = As.reverse ++ rV (some b) :: st) (hP : Rp G h H) (hS : va_S (AA G) (xs X).heap H locs) (hl : lv_has ls nL (lvV L)) :
    va_Run (xp X) (xl X) (xe X) R (xs X) (xm X) (xa X) (xb X) (xh X) (xc X) H locs cells slots rm.cells rm.slots (F0 (xm X) pc ls (st0.map toV)) (st.map toV) (Qc (Value.ref b :: As.map toV).toArray) (AA G) :=
  va_runV (As := As.map toV) (rest := st.map toV) C.fix M (cwV n C.2.2.2.2.1 (lw_gi (fun w hw => by
    rcases List.mem_append.mp hw with hw | hw
    · simp only [List.mem_cons, List.not_mem_nil, or_false] at hw
      rcases hw with e1 | e1 | e1 | e1
      · rw [e1]; exact hlk
      · rw [e1]; exact V.1
      · rw [e1]; exact V.2.1
      · rw [e1]; exact V.2.2.1
    · exact (gi_wM V.2.2.2.1 w hw).1)) rfl rfl rfl V.2.2.2.2 ⟨hR.1, hR.2.1⟩) (preV C cf hcv hP hS) rfl (by rw [List.length_map]; exact hn) hl.1 (stk_eq e) (room8 h8 rfl) d ⟨hR.2.2.1, hR.2.2.2⟩
theorem go_xrunV {b ci : Nat} {Cn : String} {T : u_T} {N : Nat} (C : Cx G X own cc nL ret) (V : VI Cn y bytes maxL rt n) (hlk : Cond.methodLink own idx y ∈ lw_all) (cf : kcl[ci]? = some (Cn, T, N)) (M : MX G (xl X) y bytes maxL rt rm (rV (some b) :: As) h Qc KX) (hR : RmOk rm maxL R cells slots) (hcv : ∃ fs, h b = some (.inr (ci, fs))) (d : decode cc pc = .ok (.invokevirtual idx, 3)) (hn : As.length = n) (h8 : (st.map (fun v => if wide v then 2 else 1)).sum ≤ 8) (e : st0 = As.reverse ++ rV (some b) :: st) (hP : Rp G h H) (hS : va_S (AA G) (xs X).heap H locs) (hl : lv_has ls nL (lvV L)) :
    vx_Run (xp X) (xl X) (xe X) R (xs X) (xm X) (xa X) (xb X) (xh X) (xc X) H locs cells slots rm.cells rm.slots (F0 (xm X) pc ls (st0.map toV)) (st.map toV) (Qc (Value.ref b :: As.map toV).toArray) (XX G KX) (AA G) :=
  vx_runV (As := As.map toV) (rest := st.map toV) C.fix M (cwV n C.2.2.2.2.1 (lw_gi (fun w hw => by
    rcases List.mem_append.mp hw with hw | hw
    · simp only [List.mem_cons, List.not_mem_nil, or_false] at hw
      rcases hw with e1 | e1 | e1 | e1
      · rw [e1]; exact hlk
      · rw [e1]; exact V.1
      · rw [e1]; exact V.2.1
      · rw [e1]; exact V.2.2.1
    · exact (gi_wM V.2.2.2.1 w hw).1)) rfl rfl rfl V.2.2.2.2 ⟨hR.1, hR.2.1⟩) (preV C cf hcv hP hS) rfl (by rw [List.length_map]; exact hn) hl.1 (stk_eq e) (room8 h8 rfl) d ⟨hR.2.2.1, hR.2.2.2⟩
theorem gi_S (V : SI y bytes maxL rt n) (hlk : Cond.methodLink own idx y ∈ lw_all) : GoodIn lw_all (va_wsS own idx y (wM y bytes maxL rt)) := lw_gi (fun w hw => by
    rcases List.mem_append.mp hw with hw | hw
    · simp only [List.mem_cons, List.not_mem_nil, or_false] at hw
      rcases hw with e1 | e1 | e1
      · rw [e1]; exact hlk
      · rw [e1]; exact V.1
      · rw [e1]; exact V.2.1
    · exact (gi_wM V.2.2.1 w hw).1)
theorem go_runS (C : Cx G X own cc nL ret) (V : SI y bytes maxL rt n) (hlk : Cond.methodLink own idx y ∈ lw_all) (M : MT G (xl X) y bytes maxL rt rm As h Qc) (hR : RmOk rm maxL R cells slots) (d : decode cc pc = .ok (.invokestatic idx, 3)) (hn : As.length = n) (h8 : (st.map (fun v => if wide v then 2 else 1)).sum ≤ 8) (e : st0 = As.reverse ++ st) (hP : Rp G h H) (hS : va_S (AA G) (xs X).heap H locs) (hl : lv_has ls nL (lvV L)) :
    va_Run (xp X) (xl X) (xe X) R (xs X) (xm X) (xa X) (xb X) (xh X) (xc X) H locs cells slots rm.cells rm.slots (F0 (xm X) pc ls (st0.map toV)) (st.map toV) (Qc (As.map toV).toArray) (AA G) :=
  va_runS (As := As.map toV) (rest := st.map toV) C.fix M (va_cwS n C.2.2.2.2.1 (gi_S V hlk) rfl rfl rfl V.2.2.2 ⟨hR.1, hR.2.1⟩) (preS C hP hS) rfl (by rw [List.length_map]; exact hn) hl.1 (stk_eqS e) (room8 h8 rfl) d ⟨hR.2.2.1, hR.2.2.2⟩
theorem go_xrunS (C : Cx G X own cc nL ret) (V : SI y bytes maxL rt n) (hlk : Cond.methodLink own idx y ∈ lw_all) (M : MX G (xl X) y bytes maxL rt rm As h Qc KX) (hR : RmOk rm maxL R cells slots) (d : decode cc pc = .ok (.invokestatic idx, 3)) (hn : As.length = n) (h8 : (st.map (fun v => if wide v then 2 else 1)).sum ≤ 8) (e : st0 = As.reverse ++ st) (hP : Rp G h H) (hS : va_S (AA G) (xs X).heap H locs) (hl : lv_has ls nL (lvV L)) :
    vx_Run (xp X) (xl X) (xe X) R (xs X) (xm X) (xa X) (xb X) (xh X) (xc X) H locs cells slots rm.cells rm.slots (F0 (xm X) pc ls (st0.map toV)) (st.map toV) (Qc (As.map toV).toArray) (XX G KX) (AA G) :=
  vx_runS (As := As.map toV) (rest := st.map toV) C.fix M (va_cwS n C.2.2.2.2.1 (gi_S V hlk) rfl rfl rfl V.2.2.2 ⟨hR.1, hR.2.1⟩) (preS C hP hS) rfl (by rw [List.length_map]; exact hn) hl.1 (stk_eqS e) (room8 h8 rfl) d ⟨hR.2.2.1, hR.2.2.2⟩
theorem go_runSN (C : Cx G X own cc nL ret) {host : String} (V : SI y bytes maxL rt n) (hlk : Cond.methodLinkNest own idx y host ∈ tables_1) (M : MT G (xl X) y bytes maxL rt rm As h Qc) (hR : RmOk rm maxL R cells slots) (d : decode cc pc = .ok (.invokestatic idx, 3)) (hn : As.length = n) (h8 : (st.map (fun v => if wide v then 2 else 1)).sum ≤ 8) (e : st0 = As.reverse ++ st) (hP : Rp G h H) (hS : va_S (AA G) (xs X).heap H locs) (hl : lv_has ls nL (lvV L)) :
    va_Run (xp X) (xl X) (xe X) R (xs X) (xm X) (xa X) (xb X) (xh X) (xc X) H locs cells slots rm.cells rm.slots (F0 (xm X) pc ls (st0.map toV)) (st.map toV) (Qc (As.map toV).toArray) (AA G) :=
  va_runSN (As := As.map toV) (rest := st.map toV) C.fix M ⟨va_cnB n C.2.2.2.2.1 (gi_wM V.2.2.1) rfl rfl rfl (C.k.2.2.2.2.1 _ (List.mem_filter.mpr ⟨hlk, rfl⟩)) (C.w V.2.1) V.2.2.2 ⟨hR.1, hR.2.1⟩, C.w V.1, trivial⟩ (preS C hP hS) rfl (by rw [List.length_map]; exact hn) hl.1 (stk_eqS e) (room8 h8 rfl) d ⟨hR.2.2.1, hR.2.2.2⟩
theorem go_runI {b : Nat} (C : Cx G X own cc nL ret) (V : II y bytes maxL n) (hlk : Cond.methodLink own idx y ∈ lw_all) (M : MT G (xl X) y bytes maxL none rm (rV (some b) :: As) h Qc) (hR : RmOk rm maxL R cells slots) (d : decode cc pc = .ok (.invokespecial idx, 3)) (hn : As.length = n) (h8 : (st.map (fun v => if wide v then 2 else 1)).sum ≤ 8) (e : st0 = As.reverse ++ rV (some b) :: st) (hP : Rp G h H) (hS : va_S (AA G) (xs X).heap H locs) (hl : lv_has ls nL (lvV L)) :
    va_Run (xp X) (xl X) (xe X) R (xs X) (xm X) (xa X) (xb X) (xh X) (xc X) H locs cells slots rm.cells rm.slots (F0 (xm X) pc ls (st0.map toV)) (st.map toV) (Qc (Value.ref b :: As.map toV).toArray) (AA G) :=
  va_runI (As := As.map toV) (rest := st.map toV) C.fix M (cwI n C.2.2.2.2.1 (gi_wM V.2.2.1) rfl rfl rfl (C.w V.2.1) (C.w hlk) (C.w V.1) V.2.2.2.1 V.2.2.2.2 ⟨hR.1, hR.2.1⟩) ⟨Pc.blind, fun U hU hW => ⟨rfl, C.k.moved hW hU hS, by rw [hU]; exact hP⟩⟩ rfl (by rw [List.length_map]; exact hn) hl.1 (stk_eq e) (room8 h8 rfl) d ⟨hR.2.2.1, hR.2.2.2⟩
theorem go_runIN {b : Nat} {host : String} (C : Cx G X own cc nL ret) (V : II y bytes maxL n) (hlk : Cond.methodLinkNest own idx y host ∈ tables_1) (M : MT G (xl X) y bytes maxL none rm (rV (some b) :: As) h Qc) (hR : RmOk rm maxL R cells slots) (d : decode cc pc = .ok (.invokespecial idx, 3)) (hn : As.length = n) (h8 : (st.map (fun v => if wide v then 2 else 1)).sum ≤ 8) (e : st0 = As.reverse ++ rV (some b) :: st) (hP : Rp G h H) (hS : va_S (AA G) (xs X).heap H locs) (hl : lv_has ls nL (lvV L)) :
    va_Run (xp X) (xl X) (xe X) R (xs X) (xm X) (xa X) (xb X) (xh X) (xc X) H locs cells slots rm.cells rm.slots (F0 (xm X) pc ls (st0.map toV)) (st.map toV) (Qc (Value.ref b :: As.map toV).toArray) (AA G) :=
  va_runIN (As := As.map toV) (rest := st.map toV) C.fix M ⟨va_cnB n C.2.2.2.2.1 (gi_wM V.2.2.1) rfl rfl rfl (C.k.2.2.2.2.1 _ (List.mem_filter.mpr ⟨hlk, rfl⟩)) (C.w V.2.1) V.2.2.2.2 ⟨hR.1, hR.2.1⟩, V.2.2.2.1, C.w V.1⟩ ⟨Pc.blind, fun U hU hW => ⟨rfl, C.k.moved hW hU hS, by rw [hU]; exact hP⟩⟩ rfl (by rw [List.length_map]; exact hn) hl.1 (stk_eq e) (room8 h8 rfl) d ⟨hR.2.2.1, hR.2.2.2⟩
theorem aaAll {q : Nat} (C : Cx G X own cc nL ret) (hS : va_S (AA G) (xs X).heap H locs) (hq : H.size ≤ q) : AA G q := Nat.le_trans C.k.2.1 (Nat.le_trans hS.1 hq)
/-- the world behind a call -/
theorem behind {a : Array Value} {S : Type} {ar : Nat → S → Prop} : True := trivial
end GRC
